/-! the class: common lines, pairs, runs -/
theorem za_25b (i j : Nat) : nI i * (25 : Int32) + nI j = nI (25 * i + j) := by rw [show (25 : Int32) = nI 25 by decide, za_mul, za_add, Nat.mul_comm]
theorem zk_row {h : zc_H} {A a b la lb n m i : Nat} {f g : Nat → Int64} {P : zp_P} (hz : h.2.2 < A) (RA : ∀ cm P, zk_rv (zk_m h A cm P) a la n f) (RB : ∀ cm P, zk_rv (zk_m h A cm P) b lb m g) (hn : n ≤ 24) (hm : m ≤ 24) (hi : i < n) : ∀ (k fu : Nat) (cm : Nat → Int32), k ≤ m → k < fu → (∀ j, k ≤ j → j ≤ m → cm (25 * i + j) = nI (zp_L f g n m i j)) → (∀ j, j ≤ m → cm (25 * (i + 1) + j) = nI (zp_L f g n m (i + 1) j)) →
    ∃ c2 : Nat → Int32, zf_X1_countCommon_L27 A (some a) (some b) (nI i) fu (zk_m h A cm P) (nI k + (-1)) = some (zk_m h A c2 P) ∧ (∀ j, j ≤ m → c2 (25 * i + j) = nI (zp_L f g n m i j)) ∧ ∀ x, x < 25 * i ∨ 25 * i + m ≤ x → c2 x = cm x := by
  intro k
  induction k with
  | zero =>
    intro fu cm h1 h2 h3 h4
    obtain ⟨fl, rfl⟩ : ∃ fl, fu = fl + 1 := ⟨fu - 1, by omega⟩
    refine ⟨cm, ?_, fun j hj => h3 j (Nat.zero_le _) hj, fun x _ => rfl⟩
    unfold zf_X1_countCommon_L27
    rw [if_pos (by decide)]
  | succ k ih =>
    intro fu cm h1 h2 h3 h4
    obtain ⟨fl, rfl⟩ : ∃ fl, fu = fl + 1 := ⟨fu - 1, by omega⟩
    have step : ∀ x : Int32, x = nI (zp_L f g n m i k) → ∃ c2 : Nat → Int32, zf_X1_countCommon_L27 A (some a) (some b) (nI i) fl (zk_m h A (va_up cm (25 * i + k) x) P) (nI k + (-1)) = some (zk_m h A c2 P) ∧ (∀ j, j ≤ m → c2 (25 * i + j) = nI (zp_L f g n m i j)) ∧ ∀ x, x < 25 * i ∨ 25 * i + m ≤ x → c2 x = cm x := by
      intro x hx
      obtain ⟨c2, e1, e2, e3⟩ := ih fl (va_up cm (25 * i + k) x) (by omega) (by omega) (fun j hj hjm => by
        by_cases hjk : j = k
        · subst hjk
          rw [va_up_self, hx]
        · rw [va_up_ne _ _ (by omega)]
          exact h3 j (by omega) hjm) (fun j hj => by
        rw [va_up_ne _ _ (by omega)]
        exact h4 j hj)
      exact ⟨c2, e1, e2, fun y hy => by rw [e3 y hy, va_up_ne _ _ (by omega)]⟩
    have hlt : i < n ∧ k < m := ⟨hi, by omega⟩
    rw [za_pm]
    unfold zf_X1_countCommon_L27
    dsimp only
    rw [if_neg (nI_pos (by omega)), zb_gr (x := some (A + 1)) zk_m0 rfl, zo_s, zo_s, zb_len zk_m1 (by show A + 1 ≠ h.2.2; omega), zo_s, za_25b, show nI (25 * i + k) + 25 = nI (25 * i + k + 25) from za_add _ 25, show nI (25 * i + k) + 1 = nI (25 * i + k + 1) from za_add _ 1, show nI (25 * i + k + 25) + 1 = nI (25 * i + k + 26) from za_add _ 1, if_pos (nI_lt (by omega) (show (625 : Nat) < 2 ^ 31 by decide)), zo_s, zo_s, zk_lineI (RA _ _) (by omega) hi, zo_s, zo_s, zk_lineI (RB _ _) (by omega) hlt.2, zo_s]
    by_cases c3 : f i = g k
    · rw [if_pos (zl_cmp0.mpr c3), zo_s, zo_s, zb_ai zk_m1 (by omega) (by decide), zo_s, zo_s, zb_si zk_m1 (by omega) (by decide), zo_s, zk_mu1]
      refine step _ ?_
      rw [show 25 * i + k + 26 = 25 * (i + 1) + (k + 1) by omega, h4 (k + 1) (by omega), zp_L1 hlt c3, nI_succ]
    · rw [if_neg (fun z => c3 (zl_cmp0.mp z)), zo_s, zo_s, zb_ai zk_m1 (by omega) (by decide), zo_s, zo_s, zo_s, zb_ai zk_m1 (by omega) (by decide), zo_s, zo_s, zb_si zk_m1 (by omega) (by decide), zo_s, zk_mu1]
      refine step _ ?_
      have q1 := h4 k (by omega)
      have q2 := h3 (k + 1) (by omega) (by omega)
      have b1 := zp_Lle f g n m (i + 1) k
      have b2 := zp_Lle f g n m i (k + 1)
      rw [show 25 * i + k + 25 = 25 * (i + 1) + k by omega, q1, show 25 * i + k + 1 = 25 * i + (k + 1) by omega, q2, zp_L2 hlt c3]
      by_cases c4 : zp_L f g n m (i + 1) k < zp_L f g n m i (k + 1)
      · rw [if_pos (nI_lt c4 (by omega)), Nat.max_eq_right (by omega)]
      · rw [if_neg (nI_nlt (by omega) (by omega)), Nat.max_eq_left (by omega)]
theorem zk_tab {h : zc_H} {A a b la lb n m : Nat} {f g : Nat → Int64} {P : zp_P} (hz : h.2.2 < A) (RA : ∀ cm P, zk_rv (zk_m h A cm P) a la n f) (RB : ∀ cm P, zk_rv (zk_m h A cm P) b lb m g) (hn : n ≤ 24) (hm : m ≤ 24) : ∀ (k fu : Nat) (cm : Nat → Int32), k ≤ n → k < fu → (∀ i j, k ≤ i → i ≤ n → j ≤ m → cm (25 * i + j) = nI (zp_L f g n m i j)) → (∀ i j, i < k → j ≤ m → cm (25 * i + j) = 0) →
    ∃ c2 : Nat → Int32, zf_X1_countCommon_L15 A (some a) (some b) fu (zk_m h A cm P) (nI k + (-1)) = some (zk_m h A c2 P) ∧ ∀ i j, i ≤ n → j ≤ m → c2 (25 * i + j) = nI (zp_L f g n m i j) := by
  intro k
  induction k with
  | zero =>
    intro fu cm h1 h2 h3 h4
    obtain ⟨fl, rfl⟩ : ∃ fl, fu = fl + 1 := ⟨fu - 1, by omega⟩
    refine ⟨cm, ?_, fun i j hi hj => h3 i j (Nat.zero_le _) hi hj⟩
    unfold zf_X1_countCommon_L15
    rw [if_pos (by decide)]
  | succ k ih =>
    intro fu cm h1 h2 h3 h4
    obtain ⟨fl, rfl⟩ : ∃ fl, fu = fl + 1 := ⟨fu - 1, by omega⟩
    rw [za_pm]
    unfold zf_X1_countCommon_L15
    rw [if_neg (nI_pos (by omega)), zo_s, zk_count (RB _ _), zo_s]
    obtain ⟨c2, e1, e2, e3⟩ := zk_row (P := P) hz RA RB hn hm (i := k) (by omega) m 2000 cm (Nat.le_refl _) (by omega) (fun j hj hjm => by
      rw [h4 k j (by omega) hjm, zp_L0 (by omega)]
      rfl) (fun j hj => h3 (k + 1) j (by omega) (by omega) hj)
    rw [show nI m - 1 = nI m + (-1) from Int32.sub_eq_add_neg _ _, e1, zo_s]
    exact ih fl c2 (by omega) (by omega) (fun i j hi hin hj => by
      by_cases hik : i = k
      · subst hik
        exact e2 j hj
      · rw [e3 _ (by omega)]
        exact h3 i j (by omega) hin hj) (fun i j hi hj => by
      rw [e3 _ (by omega)]
      exact h4 i j (by omega) hj)
theorem zk_fill {h : zc_H} {x : Int32} {y0 : Nat} {N : Nat} (hN : N < 2 ^ 31) (mk : (Nat → Int32) → zc_H) (hr : ∀ c, (mk c).1 y0 = some (.inl (0, N, .inl c))) (hu : ∀ c d, zf_up (mk c) y0 (.inl (0, N, .inl d)) = mk d) : ∀ (k fu t : Nat) (c : Nat → Int32), t + k = N → k < fu → (∀ i, i < t → c i = x) → ∃ c2, zf_J7_fill_53178_L5 (some y0) x (nI N) fu (mk c) (nI t) = some (mk c2) ∧ ∀ i, i < N → c2 i = x := by
  intro k
  induction k with
  | zero =>
    intro fu t c h1 h2 h3
    obtain ⟨fl, rfl⟩ : ∃ fl, fu = fl + 1 := ⟨fu - 1, by omega⟩
    refine ⟨c, ?_, fun i hi => h3 i (by omega)⟩
    unfold zf_J7_fill_53178_L5
    rw [if_pos (nI_le (by omega) (by omega))]
  | succ k ih =>
    intro fu t c h1 h2 h3
    obtain ⟨fl, rfl⟩ : ∃ fl, fu = fl + 1 := ⟨fu - 1, by omega⟩
    obtain ⟨c2, e1, e2⟩ := ih fl (t + 1) (va_up c t x) (by omega) (by omega) (fun i hi => by
      by_cases ct : i = t
      · subst ct
        rw [va_up_self]
      · rw [va_up_ne _ _ ct]
        exact h3 i (by omega))
    refine ⟨c2, ?_, e2⟩
    unfold zf_J7_fill_53178_L5
    rw [if_neg (nI_ge (by omega) (by omega)), zo_s, zb_si (hr c) (by omega) hN, zo_s, hu, ← nI_succ]
    exact e1
theorem zk_fillw {h : zc_H} {x : Int32} {y0 : Nat} {N : Nat} (hN : N ≤ 1900) (mk : (Nat → Int32) → zc_H) (hr : ∀ c, (mk c).1 y0 = some (.inl (0, N, .inl c))) (hu : ∀ c d, zf_up (mk c) y0 (.inl (0, N, .inl d)) = mk d) (c : Nat → Int32) (hne : y0 ≠ (mk c).2.2) : ∃ c2, zf_J7_fill_53178 (mk c) (some y0) x = some (mk c2) ∧ ∀ i, i < N → c2 i = x := by
  obtain ⟨c2, e1, e2⟩ := zk_fill (h := h) (x := x) (by omega) mk hr hu N 2000 0 c (by omega) (by omega) (fun i hi => by omega)
  refine ⟨c2, ?_, e2⟩
  unfold zf_J7_fill_53178
  rw [zo_s, zb_len (hr c) hne, zo_s, show (0 : Int32) = nI 0 by decide, e1, zo_s]
theorem zk_common {h : zc_H} {A a b la lb n m : Nat} {f g : Nat → Int64} {P : zp_P} (cm : Nat → Int32) (hz : h.2.2 < A) (RA : ∀ cm P, zk_rv (zk_m h A cm P) a la n f) (RB : ∀ cm P, zk_rv (zk_m h A cm P) b lb m g) (hn : n ≤ 24) (hm : m ≤ 24) : ∃ c2 : Nat → Int32, zf_X1_countCommon (zk_m h A cm P) A (some a) (some b) = some (zk_m h A c2 P) ∧ ∀ i j, i ≤ n → j ≤ m → c2 (25 * i + j) = nI (zp_L f g n m i j) := by
  obtain ⟨c1, e1, e2⟩ := zk_fillw (h := h) (x := 0) (y0 := A + 1) (N := 625) (by decide) (fun c => zk_m h A c P) (fun c => zk_m1) (fun c d => zk_mu1) cm (by show A + 1 ≠ h.2.2; omega)
  obtain ⟨c2, e3, e4⟩ := zk_tab (P := P) hz RA RB hn hm n 2000 c1 (Nat.le_refl _) (by omega) (fun i j hi hin hj => by
    rw [e2 _ (by omega), zp_L0 (by omega)]
    rfl) (fun i j hi hj => e2 _ (by omega))
  refine ⟨c2, ?_, e4⟩
  unfold zf_X1_countCommon
  rw [if_neg (zb_is zk_m0), zb_gr (x := some (A + 1)) zk_m0 rfl, zo_s, e1, zo_s, zo_s, zk_count (RA _ _), zo_s, show nI n - 1 = nI n + (-1) from Int32.sub_eq_add_neg _ _, e3, zo_s]
theorem zk_from {h : zc_H} {A i j : Nat} {cm : Nat → Int32} {P : zp_P} (hz : h.2.2 < A) (hi : i ≤ 24) (hj : j ≤ 24) : zf_X1_commonFrom (zk_m h A cm P) A (nI i) (nI j) = some (cm (25 * i + j)) := by
  unfold zf_X1_commonFrom
  rw [if_neg (zb_is zk_m0), za_25b, if_neg (nI_pos (by omega)), zb_gr (x := some (A + 1)) zk_m0 rfl, zo_s, zo_s, zb_len zk_m1 (by show A + 1 ≠ h.2.2; omega), zo_s, if_neg (nI_ge (by omega) (show (625 : Nat) < 2 ^ 31 by decide)), zo_s, zo_s, zb_ai zk_m1 (by omega) (by decide), zo_s]
theorem zk_pair {h : zc_H} {A a b la lb n m : Nat} {f g : Nat → Int64} {cm : Nat → Int32} (hz : h.2.2 < A) (RA : ∀ cm P, zk_rv (zk_m h A cm P) a la n f) (RB : ∀ cm P, zk_rv (zk_m h A cm P) b lb m g) (hn : n ≤ 24) (hm : m ≤ 24) (hT : ∀ i j, i ≤ n → j ≤ m → cm (25 * i + j) = nI (zp_L f g n m i j)) : ∀ (d fu i j : Nat) (P : zp_P), (n - i) + (m - j) ≤ d → d < fu → i ≤ n → j ≤ m → zf_X1_pairUp_L5 A (some a) (some b) fu (zk_m h A cm P) (nI i) (nI j) = some (zk_m h A cm (zp_pair f g n m i j P)) := by
  intro d
  induction d with
  | zero =>
    intro fu i j P h1 h2 hi hj
    obtain ⟨fl, rfl⟩ : ∃ fl, fu = fl + 1 := ⟨fu - 1, by omega⟩
    unfold zf_X1_pairUp_L5
    rw [zo_s, zk_count (RA _ _), zo_s, if_pos (nI_le (by omega) (by omega)), zp_pair0 (by omega)]
  | succ d ih =>
    intro fu i j P h1 h2 hi hj
    obtain ⟨fl, rfl⟩ : ∃ fl, fu = fl + 1 := ⟨fu - 1, by omega⟩
    unfold zf_X1_pairUp_L5
    rw [zo_s, zk_count (RA _ _), zo_s]
    by_cases c1 : n ≤ i
    · rw [if_pos (nI_le c1 (by omega)), zp_pair0 (by omega)]
    rw [if_neg (nI_ge (by omega) (by omega)), zo_s, zk_count (RB _ _), zo_s]
    by_cases c2 : m ≤ j
    · rw [if_pos (nI_le c2 (by omega)), zp_pair0 (by omega)]
    have hlt : i < n ∧ j < m := ⟨by omega, by omega⟩
    rw [if_neg (nI_ge (by omega) (by omega)), zk_lineI (RA _ _) (by omega) hlt.1, zo_s, zk_lineI (RB _ _) (by omega) hlt.2, zo_s]
    by_cases c3 : f i = g j
    · rw [if_pos (zl_cmp0.mpr c3), zk_take hz (by omega) (by omega), zo_s, zb_gi zk_m0 rfl, zo_s, zb_p zk_m0 (Nat.le_of_ble_eq_true rfl), zo_s, ← nI_succ]
      have e := zk_mu0 (h := h) (A := A) (cm := cm) (P := (va_up P.1 i (nI j), va_up P.2.1 j 1, P.2.2)) (c1 := P.2.2.1 + 1) (c2 := P.2.2.2)
      rw [show ([.ref (A + 1), .ref (A + 2), .ref (A + 3), .int (nI P.2.2.1), .int (nI P.2.2.2)] : List Value).set 3 (.int (nI (P.2.2.1 + 1))) = [.ref (A + 1), .ref (A + 2), .ref (A + 3), .int (nI (P.2.2.1 + 1)), .int (nI P.2.2.2)] from rfl, e, ← nI_succ, ← nI_succ, zp_pair1 hlt c3]
      exact ih fl (i + 1) (j + 1) _ (by omega) (by omega) (by omega) (by omega)
    · have b1 := zp_Lle f g n m (i + 1) j
      have b2 := zp_Lle f g n m i (j + 1)
      rw [if_neg (fun z => c3 (zl_cmp0.mp z)), ← nI_succ, ← nI_succ, zk_from hz (by omega) (by omega), zo_s, zk_from hz (by omega) (by omega), zo_s, hT (i + 1) j (by omega) (by omega), hT i (j + 1) (by omega) (by omega)]
      by_cases c4 : zp_L f g n m i (j + 1) ≤ zp_L f g n m (i + 1) j
      · rw [if_neg (nI_nlt c4 (by omega)), zp_pair2 hlt c3 c4]
        exact ih fl (i + 1) j P (by omega) (by omega) (by omega) (by omega)
      · rw [if_pos (nI_lt (by omega) (by omega)), zp_pair3 hlt c3 c4]
        exact ih fl i (j + 1) P (by omega) (by omega) (by omega) (by omega)
theorem zk_free {h : zc_H} {A i j : Nat} {cm : Nat → Int32} {P : zp_P} (hz : h.2.2 < A) (hi : i < 24) (hj : j < 24) : zf_X1_isFree (zk_m h A cm P) A (nI i) (nI j) = some (if P.1 i = -1 ∧ P.2.1 j = 0 then 1 else 0) := by
  unfold zf_X1_isFree
  rw [if_neg (zb_is zk_m0), if_neg (nI_pos (by omega)), zb_gr (x := some (A + 2)) zk_m0 rfl, zo_s, zo_s, zb_len zk_m2 (by show A + 2 ≠ h.2.2; omega), zo_s, if_neg (nI_ge hi (by decide)), zo_s, zo_s, zb_ai zk_m2 hi (by decide), zo_s]
  by_cases c : P.1 i = -1
  · rw [if_pos c, if_neg (nI_pos (by omega)), zb_gr (x := some (A + 3)) zk_m0 rfl, zo_s, zo_s, zb_len zk_m3 (by show A + 3 ≠ h.2.2; omega), zo_s, if_neg (nI_ge hj (by decide)), zo_s, zo_s, zb_ai zk_m3 hj (by decide), zo_s]
    by_cases d : P.2.1 j = 0
    · rw [if_pos d, if_pos ⟨c, d⟩]
    · rw [if_neg d, if_neg (fun z => d z.2)]
  · rw [if_neg c, if_neg (fun z => c z.1)]
theorem zk_run {h : zc_H} {A a b la lb n m i j : Nat} {f g : Nat → Int64} {cm : Nat → Int32} {P : zp_P} (hz : h.2.2 < A) (RA : ∀ cm P, zk_rv (zk_m h A cm P) a la n f) (RB : ∀ cm P, zk_rv (zk_m h A cm P) b lb m g) (hn : n ≤ 24) (hm : m ≤ 24) : ∀ (d fu k : Nat), n - (i + k) ≤ d → d < fu → i + k ≤ 24 → j + k ≤ 24 → zf_X1_runAt_L3 (zk_m h A cm P) A (some a) (some b) (nI i) (nI j) fu (nI k) = some (nI (k + zp_run f g n m P (i + k) (j + k))) := by
  intro d
  induction d with
  | zero =>
    intro fu k h1 h2 h3 h4
    obtain ⟨fl, rfl⟩ : ∃ fl, fu = fl + 1 := ⟨fu - 1, by omega⟩
    unfold zf_X1_runAt_L3
    rw [zo_s, zk_count (RA _ _), zo_s, za_add, if_pos (nI_le (by omega) (by omega)), zp_run0 (by omega)]
    rfl
  | succ d ih =>
    intro fu k h1 h2 h3 h4
    obtain ⟨fl, rfl⟩ : ∃ fl, fu = fl + 1 := ⟨fu - 1, by omega⟩
    unfold zf_X1_runAt_L3
    rw [zo_s, zk_count (RA _ _), zo_s, za_add]
    by_cases c1 : n ≤ i + k
    · rw [if_pos (nI_le c1 (by omega)), zp_run0 (by omega)]
      rfl
    rw [if_neg (nI_ge (by omega) (by omega)), zo_s, zk_count (RB _ _), zo_s, za_add]
    by_cases c2 : m ≤ j + k
    · rw [if_pos (nI_le c2 (by omega)), zp_run0 (by omega)]
      rfl
    rw [if_neg (nI_ge (by omega) (by omega)), zk_lineI (RA _ _) (by omega) (show i + k < n by omega), zo_s, zk_lineI (RB _ _) (by omega) (show j + k < m by omega), zo_s]
    by_cases c3 : f (i + k) = g (j + k)
    case neg =>
      rw [if_neg (fun z => c3 (zl_cmp0.mp z)), zp_run0 (fun z => c3 z.2.2.1)]
      rfl
    rw [if_pos (zl_cmp0.mpr c3), zk_free hz (by omega) (by omega), zo_s]
    by_cases c4 : P.1 (i + k) = -1 ∧ P.2.1 (j + k) = 0
    case neg =>
      rw [if_neg c4, if_pos rfl, zp_run0 (fun z => c4 z.2.2.2)]
      rfl
    rw [if_pos c4, if_neg (by decide), ← nI_succ, ih fl (k + 1) (by omega) (by omega) (by omega) (by omega), zp_run1 (i := i + k) (j := j + k) ⟨by omega, by omega, c3, c4.1, c4.2⟩]
    congr 2
    have e1 : i + (k + 1) = i + k + 1 := by omega
    have e2 : j + (k + 1) = j + k + 1 := by omega
    rw [e1, e2]
    omega
theorem zk_runw {h : zc_H} {A a b la lb n m i j : Nat} {f g : Nat → Int64} {cm : Nat → Int32} {P : zp_P} (hz : h.2.2 < A) (RA : ∀ cm P, zk_rv (zk_m h A cm P) a la n f) (RB : ∀ cm P, zk_rv (zk_m h A cm P) b lb m g) (hn : n ≤ 24) (hm : m ≤ 24) (hi : i ≤ 24) (hj : j ≤ 24) : zf_X1_runAt (zk_m h A cm P) A (some a) (some b) (nI i) (nI j) = some (nI (zp_run f g n m P i j)) := by
  unfold zf_X1_runAt
  rw [if_neg (zb_is zk_m0), show (0 : Int32) = nI 0 by decide, zk_run hz RA RB hn hm 24 2000 0 (by omega) (by omega) (by omega) (by omega), zo_s]
  simp
theorem zk_bestJ {h : zc_H} {A a b la lb n m i : Nat} {f g : Nat → Int64} {cm : Nat → Int32} {P : zp_P} {y3 : Int32} (hz : h.2.2 < A) (RA : ∀ cm P, zk_rv (zk_m h A cm P) a la n f) (RB : ∀ cm P, zk_rv (zk_m h A cm P) b lb m g) (hn : n ≤ 24) (hm : m ≤ 24) (hi : i < n) : ∀ (k fu j : Nat) (B : Nat × Nat × Nat), j + k = m → k < fu → zp_ok f g n m P B → zf_X1_moveLongest_L24 (zk_m h A cm P) A (some a) (some b) y3 (nI i) fu (nI B.1) (nI B.2.1) (nI B.2.2) (nI j) = some (nI (zp_bestJ f g n m P i k j B).1, nI (zp_bestJ f g n m P i k j B).2.1, nI (zp_bestJ f g n m P i k j B).2.2) := by
  intro k
  induction k with
  | zero =>
    intro fu j B h1 h2 hok
    obtain ⟨fl, rfl⟩ : ∃ fl, fu = fl + 1 := ⟨fu - 1, by omega⟩
    unfold zf_X1_moveLongest_L24
    rw [zo_s, zk_count (RB _ _), zo_s, if_pos (nI_le (by omega) (by omega))]
    rfl
  | succ k ih =>
    intro fu j B h1 h2 hok
    obtain ⟨fl, rfl⟩ : ∃ fl, fu = fl + 1 := ⟨fu - 1, by omega⟩
    have hr := zp_runle f g n m P i j
    unfold zf_X1_moveLongest_L24
    dsimp only
    rw [zo_s, zk_count (RB _ _), zo_s, if_neg (nI_ge (by omega) (by omega)), zk_runw hz RA RB hn hm (by omega) (by omega), zo_s, ← nI_succ]
    unfold zp_bestJ
    by_cases c : B.1 < zp_run f g n m P i j
    · rw [if_neg (nI_ge c (by omega)), if_pos c]
      have h2' := zp_runlem (f := f) (g := g) (n := n) (m := m) (P := P) n i j (by omega) (by omega)
      exact ih fl (j + 1) (zp_run f g n m P i j, i, j) (by omega) (by omega) ⟨by show i + _ ≤ n; omega, by show j + _ ≤ m; omega, fun _ => rfl⟩
    · rw [if_pos (nI_le (by omega) (by have := hok.1; omega)), if_neg c]
      exact ih fl (j + 1) B (by omega) (by omega) hok
theorem zk_bestI {h : zc_H} {A a b la lb n m : Nat} {f g : Nat → Int64} {cm : Nat → Int32} {P : zp_P} {y3 : Int32} (hz : h.2.2 < A) (RA : ∀ cm P, zk_rv (zk_m h A cm P) a la n f) (RB : ∀ cm P, zk_rv (zk_m h A cm P) b lb m g) (hn : n ≤ 24) (hm : m ≤ 24) : ∀ (k fu i : Nat) (B : Nat × Nat × Nat), i + k = n → k < fu → zp_ok f g n m P B → zf_X1_moveLongest_L12 (zk_m h A cm P) A (some a) (some b) y3 fu (nI B.1) (nI B.2.1) (nI B.2.2) (nI i) = some (nI (zp_bestI f g n m P k i B).1, nI (zp_bestI f g n m P k i B).2.1, nI (zp_bestI f g n m P k i B).2.2) := by
  intro k
  induction k with
  | zero =>
    intro fu i B h1 h2 hok
    obtain ⟨fl, rfl⟩ : ∃ fl, fu = fl + 1 := ⟨fu - 1, by omega⟩
    unfold zf_X1_moveLongest_L12
    rw [zo_s, zk_count (RA _ _), zo_s, if_pos (nI_le (by omega) (by omega))]
    rfl
  | succ k ih =>
    intro fu i B h1 h2 hok
    obtain ⟨fl, rfl⟩ : ∃ fl, fu = fl + 1 := ⟨fu - 1, by omega⟩
    unfold zf_X1_moveLongest_L12
    rw [zo_s, zk_count (RA _ _), zo_s, if_neg (nI_ge (by omega) (by omega)), show (0 : Int32) = nI 0 by decide, zk_bestJ hz RA RB hn hm (by omega) m 2000 0 B (by omega) (by omega) hok, zo_s, ← nI_succ]
    unfold zp_bestI
    exact ih fl (i + 1) _ (by omega) (by omega) (zp_bestJ_ok (by omega) m 0 B (by omega) hok)
theorem zk_put {h : zc_H} {A : Nat} {cm : Nat → Int32} {P : zp_P} {i j len : Nat} (hz : h.2.2 < A) (hi : i + len ≤ 24) (hj : j + len ≤ 24) : ∀ (r fu t : Nat), t + r = len → r < fu → zf_X1_moveLongest_L92 A (nI len) (nI i) (nI j) fu (zk_m h A cm ((zp_put i j t (P.1, P.2.1)).1, (zp_put i j t (P.1, P.2.1)).2, P.2.2)) (nI t) = some (zk_m h A cm ((zp_put i j len (P.1, P.2.1)).1, (zp_put i j len (P.1, P.2.1)).2, P.2.2)) := by
  intro r
  induction r with
  | zero =>
    intro fu t h1 h2
    obtain ⟨fl, rfl⟩ : ∃ fl, fu = fl + 1 := ⟨fu - 1, by omega⟩
    unfold zf_X1_moveLongest_L92
    rw [if_pos (nI_le (by omega) (by omega)), show t = len by omega]
  | succ r ih =>
    intro fu t h1 h2
    obtain ⟨fl, rfl⟩ : ∃ fl, fu = fl + 1 := ⟨fu - 1, by omega⟩
    unfold zf_X1_moveLongest_L92
    rw [if_neg (nI_ge (by omega) (by omega)), za_add, za_add, zk_take hz (by omega) (by omega), zo_s, ← nI_succ]
    exact ih fl (t + 1) (by omega) (by omega)
theorem zk_move {h : zc_H} {A a b la lb n m run : Nat} {f g : Nat → Int64} {cm : Nat → Int32} {P : zp_P} (hz : h.2.2 < A) (RA : ∀ cm P, zk_rv (zk_m h A cm P) a la n f) (RB : ∀ cm P, zk_rv (zk_m h A cm P) b lb m g) (hn : n ≤ 24) (hm : m ≤ 24) (hr9 : run ≤ 9) (hr1 : 1 ≤ run) : zf_X1_moveLongest (zk_m h A cm P) A (some a) (some b) (nI run) = some (match zp_move f g n m run P with | none => (zk_m h A cm P, 0) | some P2 => (zk_m h A cm P2, 1)) := by
  have hok := zp_best_ok f g n m P
  have e : zf_X1_moveLongest_L12 (zk_m h A cm P) A (some a) (some b) (nI run) 2000 (nI 0) (nI 0) (nI 0) (nI 0) = some (nI (zp_best f g n m P).1, nI (zp_best f g n m P).2.1, nI (zp_best f g n m P).2.2) := zk_bestI hz RA RB hn hm n 2000 0 (0, 0, 0) (by omega) (by omega) ⟨Nat.zero_le _, Nat.zero_le _, fun h => absurd h (by decide)⟩
  have b1 := hok.1
  have b2 := hok.2.1
  unfold zf_X1_moveLongest zp_move
  rw [if_neg (zb_is zk_m0), show (0 : Int32) = nI 0 by decide, e, zo_s]
  dsimp only
  by_cases c : (zp_best f g n m P).1 < run
  · rw [if_pos c]
    by_cases c0 : (zp_best f g n m P).1 = 0
    · rw [if_pos (by rw [c0])]
    · rw [if_neg (fun z => c0 ((za_eq (by omega) (by omega)).mp z)), if_neg (nI_ge c (by omega))]
  · have e2 := zk_put (cm := cm) (P := P) (i := (zp_best f g n m P).2.1) (j := (zp_best f g n m P).2.2) (len := (zp_best f g n m P).1) hz (by omega) (by omega) (zp_best f g n m P).1 2000 0 (by omega) (by omega)
    rw [if_neg c, if_neg (fun z => (show ¬ (zp_best f g n m P).1 = 0 by omega) ((za_eq (by omega) (by omega)).mp z)), if_pos (nI_le (by omega) (by omega)), show zk_m h A cm P = zk_m h A cm ((zp_put (zp_best f g n m P).2.1 (zp_best f g n m P).2.2 0 (P.1, P.2.1)).1, (zp_put (zp_best f g n m P).2.1 (zp_best f g n m P).2.2 0 (P.1, P.2.1)).2, P.2.2) from rfl, e2, zo_s, zb_gi zk_m0 rfl, zo_s, zb_p zk_m0 (Nat.le_of_ble_eq_true rfl), zo_s, za_add]
    have e := zk_mu0 (h := h) (A := A) (cm := cm) (P := ((zp_put (zp_best f g n m P).2.1 (zp_best f g n m P).2.2 (zp_best f g n m P).1 (P.1, P.2.1)).1, (zp_put (zp_best f g n m P).2.1 (zp_best f g n m P).2.2 (zp_best f g n m P).1 (P.1, P.2.1)).2, P.2.2)) (c1 := P.2.2.1) (c2 := P.2.2.2 + (zp_best f g n m P).1)
    rw [show ([.ref (A + 1), .ref (A + 2), .ref (A + 3), .int (nI P.2.2.1), .int (nI P.2.2.2)] : List Value).set 4 (.int (nI (P.2.2.2 + (zp_best f g n m P).1))) = [.ref (A + 1), .ref (A + 2), .ref (A + 3), .int (nI P.2.2.1), .int (nI (P.2.2.2 + (zp_best f g n m P).1))] from rfl, e]
theorem zk_iter {h : zc_H} {A a b la lb n m run : Nat} {f g : Nat → Int64} {cm : Nat → Int32} (hz : h.2.2 < A) (RA : ∀ cm P, zk_rv (zk_m h A cm P) a la n f) (RB : ∀ cm P, zk_rv (zk_m h A cm P) b lb m g) (hn : n ≤ 24) (hm : m ≤ 24) (hr9 : run ≤ 9) (hr1 : 1 ≤ run) : ∀ (k fu t : Nat) (P : zp_P), t + k = 24 → k < fu → ∃ u, zf_X1_match_L57 A (some a) (some b) (nI run) fu (zk_m h A cm P) (nI t) = some (zk_m h A cm (zp_iter f g n m run k P), u) := by
  intro k
  induction k with
  | zero =>
    intro fu t P h1 h2
    obtain ⟨fl, rfl⟩ : ∃ fl, fu = fl + 1 := ⟨fu - 1, by omega⟩
    unfold zf_X1_match_L57
    rw [show (24 : Int32) = nI 24 by decide, if_pos (nI_le (by omega) (by omega))]
    exact ⟨_, rfl⟩
  | succ k ih =>
    intro fu t P h1 h2
    obtain ⟨fl, rfl⟩ : ∃ fl, fu = fl + 1 := ⟨fu - 1, by omega⟩
    unfold zf_X1_match_L57 zp_iter
    rw [show (24 : Int32) = nI 24 by decide, if_neg (nI_ge (by omega) (by omega)), zk_move hz RA RB hn hm hr9 hr1, zo_s]
    cases hmv : zp_move f g n m run P with
    | none =>
      dsimp only
      rw [if_pos rfl]
      exact ⟨_, rfl⟩
    | some P2 =>
      dsimp only
      rw [if_neg (by decide), ← nI_succ]
      exact ih fl (t + 1) P2 (by omega) (by omega)
theorem zp_iter_le {f g : Nat → Int64} {n m run : Nat} (hm : m ≤ 24) (hr : 1 ≤ run) : ∀ (k : Nat) (P : zp_P), zp_free n P.1 ≤ k → zp_iter f g n m run k P = zp_iter f g n m run (k + 1) P := by
  intro k
  induction k with
  | zero =>
    intro P h
    have e : zp_iter f g n m run 1 P = match zp_move f g n m run P with | none => P | some P2 => P2 := rfl
    rw [e]
    cases hmv : zp_move f g n m run P with
    | none => rfl
    | some P2 =>
      have := zp_move_free hm hr hmv
      omega
  | succ k ih =>
    intro P h
    have e : ∀ k, zp_iter f g n m run (k + 1) P = match zp_move f g n m run P with | none => P | some P2 => zp_iter f g n m run k P2 := fun k => rfl
    rw [e, e (k + 1)]
    cases hmv : zp_move f g n m run P with
    | none => rfl
    | some P2 =>
      have := zp_move_free hm hr hmv
      exact ih P2 (by omega)
theorem zk_fillZ {h : zc_H} {A : Nat} {cm : Nat → Int32} {q : Nat → Int32} {c : Nat × Nat} (y1 y2 : Option Nat) (y3 : Int32) : ∀ (k fu t : Nat) (u : Nat → Int32), t + k = 24 → k < fu → (∀ i, i < t → u i = 0) → ∃ u2 : Nat → Int32, zf_X1_match_L11 A y1 y2 y3 fu (zk_m h A cm (q, u, c)) (nI t) = some (zk_m h A cm (q, u2, c)) ∧ ∀ i, i < 24 → u2 i = 0 := by
  intro k
  induction k with
  | zero =>
    intro fu t u h1 h2 h3
    obtain ⟨fl, rfl⟩ : ∃ fl, fu = fl + 1 := ⟨fu - 1, by omega⟩
    refine ⟨u, ?_, fun i hi => h3 i (by omega)⟩
    unfold zf_X1_match_L11
    rw [show (24 : Int32) = nI 24 by decide, if_pos (nI_le (by omega) (by omega))]
  | succ k ih =>
    intro fu t u h1 h2 h3
    obtain ⟨fl, rfl⟩ : ∃ fl, fu = fl + 1 := ⟨fu - 1, by omega⟩
    obtain ⟨u2, e1, e2⟩ := ih fl (t + 1) (va_up u t 0) (by omega) (by omega) (fun i hi => by
      by_cases c : i = t
      · subst c
        rw [va_up_self]
      · rw [va_up_ne _ _ c]
        exact h3 i (by omega))
    refine ⟨u2, ?_, e2⟩
    unfold zf_X1_match_L11
    rw [show (24 : Int32) = nI 24 by decide, if_neg (nI_ge (by omega) (by omega)), zb_gr (x := some (A + 3)) zk_m0 rfl, zo_s, zo_s, show (0 &&& 1 : Int32) = 0 by decide, zb_si zk_m3 (by omega) (by decide), zo_s, zk_mu3, ← nI_succ]
    exact e1
/-- the class's match: the pure places -/
theorem zk_match {h : zc_H} {A a b la lb n m run : Nat} {f g : Nat → Int64} {cm : Nat → Int32} {P : zp_P} (hz : h.2.2 < A) (RA : ∀ cm P, zk_rv (zk_m h A cm P) a la n f) (RB : ∀ cm P, zk_rv (zk_m h A cm P) b lb m g) (hn : n ≤ 24) (hm : m ≤ 24) (hr9 : run ≤ 9) (hr1 : 1 ≤ run) : ∃ (cm2 : Nat → Int32) (P2 : zp_P), zf_X1_match (zk_m h A cm P) A (some a) (some b) (nI run) = some (zk_m h A cm2 P2) ∧ zp_eqv P2 (zp_match f g n m run) := by
  obtain ⟨p2, e1, h1⟩ := zk_fillw (h := h) (x := -1) (y0 := A + 2) (N := 24) (by decide) (fun c => zk_m h A cm (c, P.2)) (fun c => zk_m2) (fun c d => zk_mu2) P.1 (by show A + 2 ≠ h.2.2; omega)
  obtain ⟨u2, e2, h2⟩ := zk_fillZ (h := h) (A := A) (cm := cm) (q := p2) (c := P.2.2) (some a) (some b) (nI run) 24 2000 0 P.2.1 (by omega) (by omega) (fun i hi => by omega)
  obtain ⟨c2, e3, h3⟩ := zk_common (P := (p2, u2, 0, 0)) cm hz RA RB hn hm
  have e4 := zk_pair hz RA RB hn hm h3 (n + m) 2000 0 0 (p2, u2, 0, 0) (by omega) (by omega) (by omega) (by omega)
  obtain ⟨u, e5⟩ := zk_iter (cm := c2) hz RA RB hn hm hr9 hr1 24 2000 0 (zp_pair f g n m 0 0 (p2, u2, 0, 0)) (by omega) (by omega)
  have hv : zp_eqv (zp_pair f g n m 0 0 (p2, u2, 0, 0)) (zp_pair f g n m 0 0 zp_P0) := zp_pair_c hn hm (n + m) 0 0 _ _ (by omega) ⟨fun i hi => ⟨h1 i hi, h2 i hi⟩, rfl⟩
  have e6 := zp_iter_le (f := f) (g := g) (n := n) (run := run) hm hr1 24 (zp_pair f g n m 0 0 (p2, u2, 0, 0)) (by have := zp_free_n (zp_pair f g n m 0 0 (p2, u2, 0, 0)).1 n; omega)
  refine ⟨c2, zp_iter f g n m run 25 (zp_pair f g n m 0 0 (p2, u2, 0, 0)), ?_, zp_iter_c (run := run) hn hm 25 _ _ hv⟩
  unfold zf_X1_match
  rw [if_neg (zb_is zk_m0), zb_gr (x := some (A + 2)) zk_m0 rfl, zo_s, show zk_m h A cm P = zk_m h A cm (P.1, P.2) from rfl, e1, zo_s, show (0 : Int32) = nI 0 by decide, e2, zo_s, zb_p zk_m0 (Nat.le_of_ble_eq_true rfl), zo_s, show zf_up (zk_m h A cm (p2, u2, P.2.2)) A (.inr (1, ([.ref (A + 1), .ref (A + 2), .ref (A + 3), .int (nI P.2.2.1), .int (nI P.2.2.2)] : List Value).set 3 (.int (nI 0)))) = zk_m h A cm (p2, u2, 0, P.2.2.2) from zk_mu0, zb_p zk_m0 (Nat.le_of_ble_eq_true rfl), zo_s, show zf_up (zk_m h A cm (p2, u2, 0, P.2.2.2)) A (.inr (1, ([.ref (A + 1), .ref (A + 2), .ref (A + 3), .int (nI 0), .int (nI P.2.2.2)] : List Value).set 4 (.int (nI 0)))) = zk_m h A cm (p2, u2, 0, 0) from zk_mu0, e3, zo_s]
  unfold zf_X1_pairUp
  rw [if_neg (zb_is zk_m0), show (0 : Int32) = nI 0 by decide, e4, zo_s, zo_s, e5, zo_s, e6]
  cases u <;> rfl
