/-! the reference: pairs, runs, moves -/
theorem zr_tab {S : zm_S} {P : zp_P} {a b n m : Nat} (ha : a < 17) (hb : b < 17) (hn : n ≤ 24) (hm : m ≤ 24) : ∀ (k fu : Nat) (cm : Nat → Int32), k ≤ n + 1 → k < fu → (∀ i j, k ≤ i → i ≤ n → j ≤ m → cm (25 * i + j) = nI (zp_L (zr_ln S a) (zr_ln S b) n m i j)) →
    ∃ c2 : Nat → Int32, zg_X10_pairs_L18 (nI a) (nI b) (nI n) (nI m) fu (zr_m S cm P) (nI k + (-1)) = some (zr_m S c2 P) ∧ ∀ i j, i ≤ n → j ≤ m → c2 (25 * i + j) = nI (zp_L (zr_ln S a) (zr_ln S b) n m i j) := by
  intro k
  induction k with
  | zero =>
    intro fu cm h1 h2 h3
    obtain ⟨f, rfl⟩ : ∃ f, fu = f + 1 := ⟨fu - 1, by omega⟩
    refine ⟨cm, ?_, fun i j hi hj => h3 i j (Nat.zero_le _) hi hj⟩
    unfold zg_X10_pairs_L18
    rw [if_pos (by decide)]
  | succ k ih =>
    intro fu cm h1 h2 h3
    obtain ⟨f, rfl⟩ : ∃ f, fu = f + 1 := ⟨fu - 1, by omega⟩
    rw [za_pm]
    unfold zg_X10_pairs_L18
    rw [if_neg (nI_pos (by omega))]
    obtain ⟨c2, e1, e2, e3⟩ := zr_row (S := S) (P := P) ha hb hn hm (i := k) (by omega) (m + 1) 2000 cm (Nat.le_refl _) (by omega) (fun j hj hjm => by omega) (fun hk j hj => h3 (k + 1) j (by omega) (by omega) hj)
    rw [za_pm] at e1
    rw [e1, zo_s]
    exact ih f c2 (by omega) (by omega) (fun i j hi hin hj => by
      by_cases hik : i = k
      · subst hik
        exact e2 j hj
      · rw [e3 _ (by omega)]
        exact h3 i j (by omega) hin hj)
theorem zp_pair0 {f g : Nat → Int64} {n m i j : Nat} {P : zp_P} (h : ¬ (i < n ∧ j < m)) : zp_pair f g n m i j P = P := by rw [zp_pair, dif_neg h]
theorem zp_pair1 {f g : Nat → Int64} {n m i j : Nat} {P : zp_P} (h : i < n ∧ j < m) (he : f i = g j) : zp_pair f g n m i j P = zp_pair f g n m (i + 1) (j + 1) (va_up P.1 i (nI j), va_up P.2.1 j 1, P.2.2.1 + 1, P.2.2.2) := by rw [zp_pair, dif_pos h, if_pos he]
theorem zp_pair2 {f g : Nat → Int64} {n m i j : Nat} {P : zp_P} (h : i < n ∧ j < m) (he : ¬ f i = g j) (hl : zp_L f g n m i (j + 1) ≤ zp_L f g n m (i + 1) j) : zp_pair f g n m i j P = zp_pair f g n m (i + 1) j P := by rw [zp_pair, dif_pos h, if_neg he, if_pos hl]
theorem zp_pair3 {f g : Nat → Int64} {n m i j : Nat} {P : zp_P} (h : i < n ∧ j < m) (he : ¬ f i = g j) (hl : ¬ zp_L f g n m i (j + 1) ≤ zp_L f g n m (i + 1) j) : zp_pair f g n m i j P = zp_pair f g n m i (j + 1) P := by rw [zp_pair, dif_pos h, if_neg he, if_neg hl]
theorem zr_pair {S : zm_S} {cm : Nat → Int32} {a b n m : Nat} (ha : a < 17) (hb : b < 17) (hn : n ≤ 24) (hm : m ≤ 24) (hT : ∀ i j, i ≤ n → j ≤ m → cm (25 * i + j) = nI (zp_L (zr_ln S a) (zr_ln S b) n m i j)) : ∀ (d fu i j : Nat) (P : zp_P), (n - i) + (m - j) ≤ d → d < fu → i ≤ n → j ≤ m → zg_X10_pairs_L174 (nI a) (nI b) (nI n) (nI m) fu (zr_m S cm P) (nI i) (nI j) = some (zr_m S cm (zp_pair (zr_ln S a) (zr_ln S b) n m i j P)) := by
  intro d
  induction d with
  | zero =>
    intro fu i j P h1 h2 hi hj
    obtain ⟨f, rfl⟩ : ∃ f, fu = f + 1 := ⟨fu - 1, by omega⟩
    unfold zg_X10_pairs_L174
    rw [if_pos (nI_le (by omega) (by omega)), zp_pair0 (by omega)]
  | succ d ih =>
    intro fu i j P h1 h2 hi hj
    obtain ⟨f, rfl⟩ : ∃ f, fu = f + 1 := ⟨fu - 1, by omega⟩
    unfold zg_X10_pairs_L174
    by_cases c1 : n ≤ i
    · rw [if_pos (nI_le c1 (by omega)), zp_pair0 (by omega)]
    rw [if_neg (nI_ge (by omega) (by omega))]
    by_cases c2 : m ≤ j
    · rw [if_pos (nI_le c2 (by omega)), zp_pair0 (by omega)]
    rw [if_neg (nI_ge (by omega) (by omega)), zr_alike ha (by omega) hb (by omega), zo_s, zr_m3]
    have hlt : i < n ∧ j < m := ⟨by omega, by omega⟩
    by_cases c3 : S.2.2 3 (24 * a + i) = S.2.2 3 (24 * b + j)
    · rw [if_pos c3, if_neg (by decide), zr_si26 (by omega), zo_s, show (1 &&& 1 : Int32) = 1 by decide, zr_si27 (by omega), zo_s, zr_m28, ← nI_succ, zr_p28, zo_s, ← nI_succ, ← nI_succ, zp_pair1 hlt c3]
      exact ih f (i + 1) (j + 1) _ (by omega) (by omega) (by omega) (by omega)
    · have b1 := zp_Lle (zr_ln S a) (zr_ln S b) n m (i + 1) j
      have b2 := zp_Lle (zr_ln S a) (zr_ln S b) n m i (j + 1)
      rw [if_neg c3, if_pos rfl, za_25, zr_m25, show nI (25 * i + j) + 25 = nI (25 * i + j + 25) from za_add _ 25, show nI (25 * i + j) + 1 = nI (25 * i + j + 1) from za_add _ 1, za_ai (by omega) (by omega), za_ai (by omega) (by omega), zo_s, zo_s, show 25 * i + j + 25 = 25 * (i + 1) + j by omega, show 25 * i + j + 1 = 25 * i + (j + 1) by omega, hT (i + 1) j (by omega) (by omega), hT i (j + 1) (by omega) (by omega)]
      by_cases c4 : zp_L (zr_ln S a) (zr_ln S b) n m i (j + 1) ≤ zp_L (zr_ln S a) (zr_ln S b) n m (i + 1) j
      · rw [if_neg (nI_nlt c4 (by omega)), ← nI_succ, zp_pair2 hlt c3 c4]
        exact ih f (i + 1) j P (by omega) (by omega) (by omega) (by omega)
      · rw [if_pos (nI_lt (by omega) (by omega)), ← nI_succ, zp_pair3 hlt c3 c4]
        exact ih f i (j + 1) P (by omega) (by omega) (by omega) (by omega)
theorem zr_pairs {S : zm_S} {cm : Nat → Int32} {P : zp_P} {a b n m : Nat} (ha : a < 17) (hb : b < 17) (hn : n ≤ 24) (hm : m ≤ 24) (hA : S.2.1 2 a = nI n) (hB : S.2.1 2 b = nI m) : ∃ c2, zg_X10_pairs (zr_m S cm P) (nI a) (nI b) = some (zr_m S c2 (zp_pair (zr_ln S a) (zr_ln S b) n m 0 0 P)) := by
  obtain ⟨c2, e1, e2⟩ := zr_tab (S := S) (P := P) ha hb hn hm (n + 1) 2000 cm (Nat.le_refl _) (by omega) (fun i j hi hin => by omega)
  refine ⟨c2, ?_⟩
  rw [za_pm] at e1
  unfold zg_X10_pairs
  rw [zr_m2 S cm P (by decide), za_ai ha (by decide), za_ai hb (by decide), zo_s, zo_s, hA, hB, e1, zo_s]
  rw [show (0 : Int32) = nI 0 by decide, zr_pair ha hb hn hm e2 (n + m) 2000 0 0 P (by omega) (by omega) (by omega) (by omega), zo_s]
theorem zp_run0 {f g : Nat → Int64} {n m i j : Nat} {P : zp_P} (h : ¬ (i < n ∧ j < m ∧ f i = g j ∧ P.1 i = -1 ∧ P.2.1 j = 0)) : zp_run f g n m P i j = 0 := by
  rw [zp_run]
  split
  · rename_i h1
    rw [if_neg (fun z => h ⟨h1.1, h1.2, z⟩)]
  · rfl
theorem zp_run1 {f g : Nat → Int64} {n m i j : Nat} {P : zp_P} (h : i < n ∧ j < m ∧ f i = g j ∧ P.1 i = -1 ∧ P.2.1 j = 0) : zp_run f g n m P i j = zp_run f g n m P (i + 1) (j + 1) + 1 := by
  rw [zp_run, dif_pos ⟨h.1, h.2.1⟩, if_pos h.2.2]
theorem zp_runlem {f g : Nat → Int64} {n m : Nat} {P : zp_P} : ∀ (d i j : Nat), n - i ≤ d → j ≤ m → zp_run f g n m P i j ≤ m - j := by
  intro d
  induction d with
  | zero => intro i j h hj; rw [zp_run0 (by omega)]; omega
  | succ d ih =>
    intro i j h hj
    by_cases c : i < n ∧ j < m ∧ f i = g j ∧ P.1 i = -1 ∧ P.2.1 j = 0
    · rw [zp_run1 c]
      have := ih (i + 1) (j + 1) (by omega) (by omega)
      omega
    · rw [zp_run0 c]
      omega
theorem zr_run {S : zm_S} {cm : Nat → Int32} {P : zp_P} {a b n m i j : Nat} (ha : a < 17) (hb : b < 17) (hn : n ≤ 24) (hm : m ≤ 24) (hA : S.2.1 2 a = nI n) (hB : S.2.1 2 b = nI m) : ∀ (d fu k : Nat), n - (i + k) ≤ d → d < fu → i + k ≤ 24 → j + k ≤ 24 → zg_X10_run_L3 (zr_m S cm P) (nI a) (nI i) (nI b) (nI j) fu (nI k) = some (nI (k + zp_run (zr_ln S a) (zr_ln S b) n m P (i + k) (j + k))) := by
  intro d
  induction d with
  | zero =>
    intro fu k h1 h2 h3 h4
    obtain ⟨f, rfl⟩ : ∃ f, fu = f + 1 := ⟨fu - 1, by omega⟩
    unfold zg_X10_run_L3
    rw [zr_m2 S cm P (by decide), za_ai ha (by decide), zo_s, hA, za_add, if_pos (nI_le (by omega) (by omega)), zp_run0 (by omega)]
    rfl
  | succ d ih =>
    intro fu k h1 h2 h3 h4
    obtain ⟨f, rfl⟩ : ∃ f, fu = f + 1 := ⟨fu - 1, by omega⟩
    unfold zg_X10_run_L3
    rw [zr_m2 S cm P (by decide), za_ai ha (by decide), zo_s, hA, za_add]
    by_cases c1 : n ≤ i + k
    · rw [if_pos (nI_le c1 (by omega)), zp_run0 (by omega)]
      rfl
    rw [if_neg (nI_ge (by omega) (by omega)), za_ai hb (by decide), zo_s, hB, za_add]
    by_cases c2 : m ≤ j + k
    · rw [if_pos (nI_le c2 (by omega)), zp_run0 (by omega)]
      rfl
    rw [if_neg (nI_ge (by omega) (by omega)), zr_m26, za_ai (by omega) (by decide), zo_s]
    by_cases c3 : P.1 (i + k) = -1
    case neg =>
      rw [if_neg c3, zp_run0 (fun z => c3 z.2.2.2.1)]
      rfl
    rw [if_pos c3, zr_m27, za_ai (by omega) (by decide), zo_s]
    by_cases c4 : P.2.1 (j + k) = 0
    case neg =>
      rw [if_neg c4, zp_run0 (fun z => c4 z.2.2.2.2)]
      rfl
    rw [if_pos c4, zr_alike ha (by omega) hb (by omega), zo_s, zr_m3]
    by_cases c5 : S.2.2 3 (24 * a + (i + k)) = S.2.2 3 (24 * b + (j + k))
    case neg =>
      rw [if_neg c5, if_pos rfl, zp_run0 (f := zr_ln S a) (g := zr_ln S b) (fun z => c5 z.2.2.1)]
      rfl
    rw [if_pos c5, if_neg (by decide), ← nI_succ, ih f (k + 1) (by omega) (by omega) (by omega) (by omega), zp_run1 (f := zr_ln S a) (g := zr_ln S b) (i := i + k) (j := j + k) ⟨by omega, by omega, c5, c3, c4⟩]
    congr 2
    have e1 : i + (k + 1) = i + k + 1 := by omega
    have e2 : j + (k + 1) = j + k + 1 := by omega
    rw [e1, e2]
    omega
