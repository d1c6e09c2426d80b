/-! how many remarks lie on a line: who, covered -/
def zq_cov (Q : Nat → Option (Option (Nat × Nat))) (m y : Nat) : Bool := match Q m with
  | some (some x) => decide (x.1 ≤ y) && decide (y ≤ x.2)
  | _ => false
def zq_heat (Q : Nat → Option (Option (Nat × Nat))) : Nat → Nat → Nat
  | 0, _ => 0
  | k + 1, y => if zq_cov Q k y = true then zq_heat Q k y + 1 else zq_heat Q k y
theorem zq_heat1 (Q : Nat → Option (Option (Nat × Nat))) (k y : Nat) : zq_heat Q (k + 1) y = if zq_cov Q k y = true then zq_heat Q k y + 1 else zq_heat Q k y := rfl
theorem zq_bits1 (b : Nat → Bool) (k : Nat) : zq_bits b (k + 1) = if b k = true then zq_bits b k ||| (1 <<< (nI k &&& 31)) else zq_bits b k := rfl
def zx_PM (S : zm_S) (M t m : Nat) : Option (Option (Nat × Nat)) := if m < M then zx_P S t m else none
theorem zq_heat_le (Q : Nat → Option (Option (Nat × Nat))) (y : Nat) : ∀ k, zq_heat Q k y ≤ k := by
  intro k
  induction k with
  | zero => exact Nat.le_refl _
  | succ k ih =>
    unfold zq_heat
    split <;> omega
theorem zq_heat_up {Q : Nat → Option (Option (Nat × Nat))} {M : Nat} (h : ∀ i, M ≤ i → Q i = none) (y : Nat) : ∀ j, zq_heat Q (M + j) y = zq_heat Q M y := by
  intro j
  induction j with
  | zero => rfl
  | succ j ih =>
    show zq_heat Q (M + j + 1) y = _
    rw [zq_heat1]
    have : zq_cov Q (M + j) y = false := by
      unfold zq_cov
      rw [h _ (by omega)]
    rw [this, if_neg (by decide), ih]
theorem zq_heat_out {Q : Nat → Option (Option (Nat × Nat))} {n y : Nat} (h : ∀ i x, Q i = some (some x) → x.2 < n) (hy : n ≤ y) : ∀ k, zq_heat Q k y = 0 := by
  intro k
  induction k with
  | zero => rfl
  | succ k ih =>
    unfold zq_heat
    rw [if_neg ?_, ih]
    unfold zq_cov
    intro e
    split at e
    · rename_i x q
      have := h _ _ q
      simp only [Bool.and_eq_true, decide_eq_true_eq] at e
      omega
    · cases e
/-- the first of the greatest -/
def zq_top (h : Nat → Nat) : Nat → Nat
  | 0 => 0
  | k + 1 => if h k ≤ h (zq_top h k) then zq_top h k else k
def zq_hot (h : Nat → Nat) (k : Nat) : Int32 := if h (zq_top h k) = 0 then 99 else nI (zq_top h k)
theorem zq_top1 (h : Nat → Nat) (k : Nat) : zq_top h (k + 1) = if h k ≤ h (zq_top h k) then zq_top h k else k := rfl
theorem zq_top_lt (h : Nat → Nat) : ∀ k, zq_top h (k + 1) ≤ k := by
  intro k
  induction k with
  | zero => unfold zq_top zq_top; split <;> exact Nat.le_refl _
  | succ k ih =>
    unfold zq_top
    split <;> omega
theorem zq_top_up {h : Nat → Nat} {n : Nat} (hn : ∀ y, n ≤ y → h y = 0) : ∀ j, zq_top h (n + j) = zq_top h n := by
  intro j
  induction j with
  | zero => rfl
  | succ j ih =>
    show zq_top h (n + j + 1) = _
    rw [zq_top1]
    rw [if_pos (by rw [hn _ (by omega)]; exact Nat.zero_le _), ih]
theorem zq_bits_bt {b : Nat → Bool} : ∀ n, n ≤ 32 → ∀ i, zx_bt (zq_bits b n) i = (decide (i < n) && b i) := by
  intro n
  induction n with
  | zero =>
    intro hn i
    unfold zq_bits
    rw [zb_0]
    simp
  | succ n ih =>
    intro hn i
    unfold zq_bits
    have e := ih (by omega) i
    by_cases c : b n = true
    · rw [if_pos c, zb_or, e, zb_one (by omega)]
      by_cases y : i = n
      · subst y
        simp [c]
      · simp only [y, decide_false, Bool.or_false]
        congr 1
        exact decide_eq_decide.mpr ⟨fun h => by omega, fun h => by omega⟩
    · rw [if_neg c, e]
      by_cases y : i = n
      · subst y
        simp only [Bool.not_eq_true] at c
        simp [c]
      · congr 1
        exact decide_eq_decide.mpr ⟨fun h => by omega, fun h => by omega⟩
section ZV
variable {z : Nat} {w : zc_H} {D : zy_D} {Q : Nat → Option (Option (Nat × Nat))}
theorem zs_heatL (A : zy_is z D w) (hz : w.2.2 < z) (hV : ∀ i, i < 16 → D.2.1 19 i = zq_sq (Q i)) (hQ : ∀ i x, Q i = some (some x) → x.1 ≤ x.2 ∧ x.2 < 24) {y : Nat} (hy : y < 24) : ∀ (j k fu : Nat), k + j = 16 → j < fu → zf_X7_heatOf_L4 w (z + 18) (nI y) fu (nI (zq_heat Q k y)) (nI k) = some (nI (zq_heat Q 16 y)) := by
  intro j
  induction j with
  | zero =>
    intro k fu h1 h2
    obtain ⟨fu, rfl⟩ : ∃ n, fu = n + 1 := ⟨fu - 1, by omega⟩
    have : k = 16 := by omega
    subst this
    unfold zf_X7_heatOf_L4
    rw [zy_r18_2 A, zo_s, zo_s, zy_n19 A hz, zo_s, if_pos (show (16 : Int32) ≤ nI 16 by decide)]
  | succ j ih =>
    intro k fu h1 h2
    obtain ⟨fu, rfl⟩ : ∃ n, fu = n + 1 := ⟨fu - 1, by omega⟩
    have nx := ih (k + 1) fu (by omega) (by omega)
    have hl := zq_heat_le Q y k
    unfold zf_X7_heatOf_L4
    dsimp only
    rw [zy_r18_2 A, zo_s, zo_s, zy_n19 A hz, zo_s, if_neg (show ¬ (16 : Int32) ≤ nI k from nI_ge (show k < 16 by omega) (by decide)), zo_s, zo_s, zy_a19 A (by omega), zo_s, hV k (by omega), ← nI_succ]
    rw [zq_heat1] at nx
    have skip : zq_cov Q k y = false → zf_X7_heatOf_L4 w (z + 18) (nI y) fu (nI (zq_heat Q k y)) (nI (k + 1)) = some (nI (zq_heat Q 16 y)) := fun e => by
      rw [e, if_neg (by decide)] at nx
      exact nx
    cases e : Q k with
    | none =>
      rw [if_pos (show zq_sq none = -1 from rfl)]
      exact skip (by unfold zq_cov; rw [e])
    | some o =>
      cases o with
      | none =>
        rw [if_pos (show zq_sq (some none) = -1 from rfl)]
        exact skip (by unfold zq_cov; rw [e])
      | some x =>
        obtain ⟨x1, x2⟩ := hQ k x e
        have ec : zq_cov Q k y = (decide (x.1 ≤ y) && decide (y ≤ x.2)) := by
          unfold zq_cov
          rw [e]
        rw [if_neg (show ¬ zq_sq (some (some x)) = -1 from za_ne _ (by omega)), zo_s, zo_s, zy_a19 A (by omega), zo_s, hV k (by omega), e, show zq_sq (some (some x)) = nI (32 * x.1 + x.2) from rfl, zs_first (by omega) (by omega), zo_s]
        by_cases c : x.1 ≤ y
        · rw [if_neg (nI_nlt c (by omega)), zo_s, zo_s, zy_a19 A (by omega), zo_s, hV k (by omega), e, show zq_sq (some (some x)) = nI (32 * x.1 + x.2) from rfl, zs_last (by omega) (by omega), zo_s]
          by_cases d : y ≤ x.2
          · rw [if_neg (nI_nlt d (by omega)), ← nI_succ]
            rw [ec, decide_eq_true c, decide_eq_true d, if_pos (by decide)] at nx
            exact nx
          · rw [if_pos (nI_lt (show x.2 < y by omega) (by omega))]
            exact skip (by rw [ec, decide_eq_false d, Bool.and_false])
        · rw [if_pos (nI_lt (show y < x.1 by omega) (by omega))]
          exact skip (by rw [ec, decide_eq_false c, Bool.false_and])
theorem zs_heat (A : zy_is z D w) (hz : w.2.2 < z) (hV : ∀ i, i < 16 → D.2.1 19 i = zq_sq (Q i)) (hQ : ∀ i x, Q i = some (some x) → x.1 ≤ x.2 ∧ x.2 < 24) {y : Nat} (hy : y < 24) : zf_X7_heatOf w (z + 18) (nI y) = some (nI (zq_heat Q 16 y)) := by
  unfold zf_X7_heatOf
  have := zs_heatL A hz hV hQ hy 16 0 2000 rfl (by decide)
  rw [if_neg (zy_is18 A), show (0 : Int32) = nI 0 from rfl]
  exact (congrArg (fun o => o.bind fun w23 => some w23) this)
theorem zs_linesL (A : zy_is z D w) (hz : w.2.2 < z) (hV : ∀ i, i < 16 → D.2.1 19 i = zq_sq (Q i)) (hQ : ∀ i x, Q i = some (some x) → x.1 ≤ x.2 ∧ x.2 < 24) {n : Nat} (hn : n ≤ 24) : ∀ (j k fu : Nat), k + j = n → j < fu → zf_X7_linesIn_L4 w (z + 18) (nI n) fu (zq_bits (fun y => decide (0 < zq_heat Q 16 y)) k) (nI k) = some (zq_bits (fun y => decide (0 < zq_heat Q 16 y)) n) := by
  intro j
  induction j with
  | zero =>
    intro k fu h1 h2
    obtain ⟨fu, rfl⟩ : ∃ n, fu = n + 1 := ⟨fu - 1, by omega⟩
    have : k = n := by omega
    subst this
    unfold zf_X7_linesIn_L4
    rw [if_pos (nI_le (Nat.le_refl _) (by omega))]
  | succ j ih =>
    intro k fu h1 h2
    obtain ⟨fu, rfl⟩ : ∃ n, fu = n + 1 := ⟨fu - 1, by omega⟩
    have nx := ih (k + 1) fu (by omega) (by omega)
    have hl := zq_heat_le Q k 16
    unfold zf_X7_linesIn_L4
    dsimp only
    rw [if_neg (nI_ge (show k < n by omega) (by omega)), zs_heat A hz hV hQ (show k < 24 by omega), zo_s, ← nI_succ]
    rw [zq_bits1] at nx
    by_cases c : zq_heat Q 16 k ≤ 0
    · rw [if_pos (show nI (zq_heat Q 16 k) ≤ 0 from nI_le c (by decide))]
      rw [decide_eq_false (by omega), if_neg (by decide)] at nx
      exact nx
    · rw [if_neg (show ¬ nI (zq_heat Q 16 k) ≤ 0 from nI_ge (show 0 < zq_heat Q 16 k by omega) (by omega))]
      rw [decide_eq_true (by omega), if_pos rfl] at nx
      exact nx
theorem zs_lines (A : zy_is z D w) (hz : w.2.2 < z) (hV : ∀ i, i < 16 → D.2.1 19 i = zq_sq (Q i)) (hQ : ∀ i x, Q i = some (some x) → x.1 ≤ x.2 ∧ x.2 < 24) {n : Nat} (hn : n ≤ 24) : zf_X7_linesIn w (z + 18) (nI n) = some (zq_bits (fun y => decide (0 < zq_heat Q 16 y)) n) := by
  unfold zf_X7_linesIn
  have := zs_linesL A hz hV hQ hn n 0 2000 (by omega) (by omega)
  rw [if_neg (zy_is18 A)]
  exact (congrArg (fun o => o.bind fun w23 => some w23) this)
theorem zs_hotL (A : zy_is z D w) (hz : w.2.2 < z) (hV : ∀ i, i < 16 → D.2.1 19 i = zq_sq (Q i)) (hQ : ∀ i x, Q i = some (some x) → x.1 ≤ x.2 ∧ x.2 < 24) {n : Nat} (hn : n ≤ 24) : ∀ (j k fu : Nat), k + 1 + j = n → j < fu → zf_X7_hottestOf_L8 w (z + 18) (nI n) fu (nI (zq_heat Q 16 (zq_top (zq_heat Q 16) (k + 1)))) (zq_hot (zq_heat Q 16) (k + 1)) (nI (k + 1)) = some (zq_hot (zq_heat Q 16) n) := by
  intro j
  induction j with
  | zero =>
    intro k fu h1 h2
    obtain ⟨fu, rfl⟩ : ∃ n, fu = n + 1 := ⟨fu - 1, by omega⟩
    have : k + 1 = n := by omega
    subst this
    unfold zf_X7_hottestOf_L8
    rw [if_pos (nI_le (Nat.le_refl _) (by omega))]
  | succ j ih =>
    intro k fu h1 h2
    obtain ⟨fu, rfl⟩ : ∃ n, fu = n + 1 := ⟨fu - 1, by omega⟩
    have nx := ih (k + 1) fu (by omega) (by omega)
    have hl := zq_heat_le Q (k + 1) 16
    have hl2 := zq_heat_le Q (zq_top (zq_heat Q 16) (k + 1)) 16
    unfold zf_X7_hottestOf_L8
    dsimp only
    rw [if_neg (nI_ge (show k + 1 < n by omega) (by omega)), zs_heat A hz hV hQ (show k + 1 < 24 by omega), zo_s, ← nI_succ]
    have et : zq_top (zq_heat Q 16) (k + 1 + 1) = if zq_heat Q 16 (k + 1) ≤ zq_heat Q 16 (zq_top (zq_heat Q 16) (k + 1)) then zq_top (zq_heat Q 16) (k + 1) else k + 1 := rfl
    by_cases c : zq_heat Q 16 (k + 1) ≤ zq_heat Q 16 (zq_top (zq_heat Q 16) (k + 1))
    · rw [if_pos (nI_le c (by omega))]
      rw [if_pos c] at et
      unfold zq_hot at nx ⊢
      rw [et] at nx
      exact nx
    · rw [if_neg (nI_ge (show zq_heat Q 16 (zq_top (zq_heat Q 16) (k + 1)) < zq_heat Q 16 (k + 1) by omega) (by omega))]
      rw [if_neg c] at et
      unfold zq_hot at nx ⊢
      rw [et, if_neg (show ¬ zq_heat Q 16 (k + 1) = 0 by omega)] at nx
      exact nx
theorem zs_hot (A : zy_is z D w) (hz : w.2.2 < z) (hV : ∀ i, i < 16 → D.2.1 19 i = zq_sq (Q i)) (hQ : ∀ i x, Q i = some (some x) → x.1 ≤ x.2 ∧ x.2 < 24) {n : Nat} (hn : n ≤ 24) (hQn : ∀ i x, Q i = some (some x) → x.2 < n) : zf_X7_hottestOf w (z + 18) (nI n) = some (zq_hot (zq_heat Q 16) 24) := by
  have out : ∀ y, n ≤ y → zq_heat Q 16 y = 0 := fun y hy => zq_heat_out hQn hy 16
  unfold zf_X7_hottestOf
  rw [if_neg (zy_is18 A)]
  by_cases c : n = 0
  · subst c
    unfold zf_X7_hottestOf_L8 zq_hot
    rw [if_pos (show nI 0 ≤ 0 by decide), if_pos (out _ (Nat.zero_le _)), zo_s]
  · obtain ⟨n', rfl⟩ : ∃ n', n = n' + 1 := ⟨n - 1, by omega⟩
    have h0 := zs_hotL A hz hV hQ hn n' 0 1999 (by omega) (by omega)
    have t1 : zq_top (zq_heat Q 16) (0 + 1) = 0 := by
      have := zq_top_lt (zq_heat Q 16) 0
      omega
    have hl := zq_heat_le Q 0 16
    have res : zq_hot (zq_heat Q 16) (n' + 1) = zq_hot (zq_heat Q 16) 24 := by
      unfold zq_hot
      have := zq_top_up out (24 - (n' + 1))
      rw [show n' + 1 + (24 - (n' + 1)) = 24 by omega] at this
      rw [this]
    rw [res, t1] at h0
    unfold zf_X7_hottestOf_L8
    dsimp only
    rw [if_neg (show ¬ nI (n' + 1) ≤ 0 from nI_ge (show 0 < n' + 1 by omega) (by omega)), show (0 : Int32) = nI 0 from rfl, zs_heat A hz hV hQ (show 0 < 24 by omega), zo_s, ← nI_succ]
    unfold zq_hot at h0
    rw [t1] at h0
    by_cases d : zq_heat Q 16 0 ≤ 0
    · have d0 : zq_heat Q 16 0 = 0 := by omega
      rw [if_pos (nI_le d (by decide))]
      rw [d0, if_pos rfl] at h0
      exact congrArg (fun o => o.bind fun w4 => some w4) h0
    · rw [if_neg (nI_ge (show 0 < zq_heat Q 16 0 by omega) (by omega))]
      rw [if_neg (show ¬ zq_heat Q 16 0 = 0 by omega)] at h0
      exact congrArg (fun o => o.bind fun w4 => some w4) h0
end ZV
/-! the reference -/
section ZR
variable {S : zm_S} {N M need margin t : Nat}
theorem zr_isPut (A : zr_env S N M need margin) {m : Nat} (hm : m < M) (ht : t < N) : ∃ S2 b, zg_X10_isPut S (nI m) (nI t) = some (S2, b) ∧ zx_eqS S S2 ∧ (∀ k, k ≠ 30 → S2.2.1 k = S.2.1 k) ∧ ((zq_fo (zx_P S t m) = false ∧ b = 0) ∨ ∃ x, zx_P S t m = some (some x) ∧ b = 1 ∧ S2.1 31 = nI x.1 ∧ S2.1 32 = nI x.2) := by
  obtain ⟨S2, b, e1, e2, e3, e4⟩ := zr_put1 A hm ht
  have hM := A.2.2.2.2.1
  unfold zg_X10_isPut
  rw [zr_of (k := 0) (by decide) (by omega) 0 rfl, show 16 * 0 + m = m by omega, zo_s, e1, zo_s]
  dsimp only
  cases e : zx_P S t m with
  | none =>
    rw [e] at e4
    have e4 : b = 0 := e4
    rw [e4, if_pos rfl]
    exact ⟨S2, 0, rfl, e2, e3, Or.inl ⟨rfl, rfl⟩⟩
  | some o =>
    rw [e] at e4
    cases o with
    | none =>
      obtain ⟨y1, y2⟩ := e4
      rw [y1, if_neg (show ¬ (1 : Int32) = 0 by decide), y2, if_pos rfl]
      exact ⟨S2, 0, rfl, e2, e3, Or.inl ⟨rfl, rfl⟩⟩
    | some x =>
      obtain ⟨y1, y2, y3, y4⟩ := e4
      rw [y1, if_neg (show ¬ (1 : Int32) = 0 by decide), if_neg y2]
      exact ⟨S2, 1, rfl, e2, e3, Or.inr ⟨x, rfl, rfl, y3, y4⟩⟩
theorem zr_heat0 {y1 : Int32} : ∀ (j k fu : Nat) (S : zm_S), k + j = 24 → j < fu → (∀ i, i < k → S.2.1 26 i = 0) → ∃ c, zg_X10_heat_L2 y1 fu S (nI k) = some (zx_SA S 26 c) ∧ ∀ i, i < 24 → c i = 0 := by
  intro j
  induction j with
  | zero =>
    intro k fu S h1 h2 h3
    obtain ⟨fu, rfl⟩ : ∃ n, fu = n + 1 := ⟨fu - 1, by omega⟩
    have : k = 24 := by omega
    subst this
    refine ⟨S.2.1 26, ?_, h3⟩
    unfold zg_X10_heat_L2
    rw [if_pos (show (24 : Int32) ≤ nI 24 by decide), zx_SAi]
  | succ j ih =>
    intro k fu S h1 h2 h3
    obtain ⟨fu, rfl⟩ : ∃ n, fu = n + 1 := ⟨fu - 1, by omega⟩
    obtain ⟨c, e1, e2⟩ := ih (k + 1) fu (zx_SA S 26 (va_up (S.2.1 26) k 0)) (by omega) (by omega) (fun i hi => by
      rw [zx_SAa]
      by_cases y : i = k
      · subst y
        rw [va_up_self]
      · rw [va_up_ne _ _ y]
        exact h3 i (by omega))
    refine ⟨c, ?_, e2⟩
    unfold zg_X10_heat_L2
    rw [if_neg (show ¬ (24 : Int32) ≤ nI k from nI_ge (show k < 24 by omega) (by decide)), zx_si (by omega) (by decide), zo_s, ← nI_succ, e1, zx_SAA]
theorem zr_heat1 {y1 y2 : Int32} {q : Nat} (hq : q < 24) : ∀ (j k fu : Nat) (S : zm_S), k + j = q + 1 → j < fu → S.1 32 = nI q → ∃ c, zg_X10_heat_L45 y1 y2 fu S (nI k) = some (zx_SA S 26 c) ∧ ∀ i, i < 24 → c i = if k ≤ i ∧ i ≤ q then S.2.1 26 i + 1 else S.2.1 26 i := by
  intro j
  induction j with
  | zero =>
    intro k fu S h1 h2 h3
    obtain ⟨fu, rfl⟩ : ∃ n, fu = n + 1 := ⟨fu - 1, by omega⟩
    refine ⟨S.2.1 26, ?_, fun i hi => by rw [if_neg (by omega)]⟩
    unfold zg_X10_heat_L45
    rw [h3, if_pos (nI_lt (show q < k by omega) (by omega)), zx_SAi]
  | succ j ih =>
    intro k fu S h1 h2 h3
    obtain ⟨fu, rfl⟩ : ∃ n, fu = n + 1 := ⟨fu - 1, by omega⟩
    obtain ⟨c, e1, e2⟩ := ih (k + 1) fu (zx_SA S 26 (va_up (S.2.1 26) k (S.2.1 26 k + 1))) (by omega) (by omega) h3
    refine ⟨c, ?_, fun i hi => ?_⟩
    · unfold zg_X10_heat_L45
      rw [h3, if_neg (nI_nlt (show k ≤ q by omega) (by omega)), za_ai (by omega) (by decide), zo_s, zx_si (by omega) (by decide), zo_s, ← nI_succ, e1, zx_SAA]
    · rw [e2 i hi, zx_SAa]
      by_cases y : i = k
      · subst y
        rw [if_neg (by omega), if_pos (by omega), va_up_self]
      · rw [va_up_ne _ _ y]
        by_cases y2 : k + 1 ≤ i ∧ i ≤ q
        · rw [if_pos y2, if_pos (by omega)]
        · rw [if_neg y2, if_neg (by omega)]
theorem zr_heat2 (A : zr_env S N M need margin) (ht : t < N) (h24 : zx_n (S.2.1 2) t ≤ 24) : ∀ (j k fu : Nat) (S' : zm_S), k + j = M → j < fu → zx_eqS S S' → (∀ y, y < 24 → S'.2.1 26 y = nI (zq_heat (zx_P S t) k y)) → ∃ S2, zg_X10_heat_L23 (nI t) fu S' (nI k) = some S2 ∧ zx_eqS S S2 ∧ ∀ y, y < 24 → S2.2.1 26 y = nI (zq_heat (zx_P S t) M y) := by
  have hM := A.2.2.2.2.1
  intro j
  induction j with
  | zero =>
    intro k fu S' h1 h2 h3 h4
    obtain ⟨fu, rfl⟩ : ∃ n, fu = n + 1 := ⟨fu - 1, by omega⟩
    have : k = M := by omega
    subst this
    refine ⟨S', ?_, h3, h4⟩
    unfold zg_X10_heat_L23
    rw [h3.1 5 (by decide), A.2.2.2.2.2.1, if_pos (nI_le (Nat.le_refl _) (by omega))]
  | succ j ih =>
    intro k fu S' h1 h2 h3 h4
    obtain ⟨fu, rfl⟩ : ∃ n, fu = n + 1 := ⟨fu - 1, by omega⟩
    obtain ⟨S2, b, e1, e2, e3, e4⟩ := zr_isPut (zr_env_e h3 A) (show k < M by omega) ht
    have eS := zx_eqS_trans h3 e2
    unfold zg_X10_heat_L23
    dsimp only
    rw [h3.1 5 (by decide), A.2.2.2.2.2.1, if_neg (nI_ge (show k < M by omega) (by omega)), e1, zo_s]
    dsimp only
    rw [zx_P_e h3] at e4
    rcases e4 with ⟨x1, x2⟩ | ⟨x, x1, x2, x3, x4⟩
    · rw [x2, if_pos rfl, ← nI_succ]
      refine ih (k + 1) fu S2 (by omega) (by omega) eS (fun y hy => ?_)
      rw [e3 26 (by decide), h4 y hy, zq_heat1, if_neg]
      unfold zq_cov
      intro e
      split at e
      · rename_i o q
        rw [q] at x1
        cases x1
      · cases e
    · obtain ⟨p1, p2⟩ := zx_P_ok A (show k < M by omega) ht x1
      obtain ⟨c, g1, g2⟩ := zr_heat1 (y1 := nI t) (y2 := nI k) (q := x.2) (by omega) (x.2 + 1 - x.1) x.1 2000 S2 (by omega) (by omega) x4
      rw [x2, if_neg (show ¬ (1 : Int32) = 0 by decide), x3, g1, zo_s, ← nI_succ]
      refine ih (k + 1) fu _ (by omega) (by omega) (zx_eqS_trans eS (zx_eqS_r S2 c (by decide))) (fun y hy => ?_)
      rw [zx_SAa, g2 y hy, e3 26 (by decide), h4 y hy, zq_heat1]
      have ec : zq_cov (zx_P S t) k y = (decide (x.1 ≤ y) && decide (y ≤ x.2)) := by
        unfold zq_cov
        rw [x1]
      by_cases y1 : x.1 ≤ y ∧ y ≤ x.2
      · rw [if_pos y1, ec, decide_eq_true y1.1, decide_eq_true y1.2, if_pos (by decide), nI_succ]
      · rw [if_neg y1, ec, if_neg]
        intro e
        simp only [Bool.and_eq_true, decide_eq_true_eq] at e
        exact y1 e
theorem zr_heat3 {h : Nat → Nat} (hh : ∀ y, h y ≤ 16) {S : zm_S} (hS : ∀ y, y < 24 → S.2.1 26 y = nI (h y)) : ∀ (j k fu : Nat), k + 1 + j = 24 → j < fu → zg_X10_heat_L79 S fu (nI (zq_top h (k + 1))) (nI (k + 1)) = some (nI (zq_top h 24)) := by
  intro j
  induction j with
  | zero =>
    intro k fu h1 h2
    obtain ⟨fu, rfl⟩ : ∃ n, fu = n + 1 := ⟨fu - 1, by omega⟩
    have : k = 23 := by omega
    subst this
    unfold zg_X10_heat_L79
    rw [if_pos (show (24 : Int32) ≤ nI (23 + 1) by decide)]
  | succ j ih =>
    intro k fu h1 h2
    obtain ⟨fu, rfl⟩ : ∃ n, fu = n + 1 := ⟨fu - 1, by omega⟩
    have nx := ih (k + 1) fu (by omega) (by omega)
    have tl := zq_top_lt h k
    have b1 := hh (k + 1)
    have b2 := hh (zq_top h (k + 1))
    unfold zg_X10_heat_L79
    dsimp only
    rw [if_neg (show ¬ (24 : Int32) ≤ nI (k + 1) from nI_ge (show k + 1 < 24 by omega) (by decide)), za_ai (by omega) (by decide), zo_s, za_ai (by omega) (by decide), zo_s, hS _ (by omega), hS _ (by omega), ← nI_succ]
    rw [zq_top1] at nx
    by_cases c : h (k + 1) ≤ h (zq_top h (k + 1))
    · rw [if_pos (nI_le c (by omega))]
      rw [if_pos c] at nx
      exact nx
    · rw [if_neg (nI_ge (show h (zq_top h (k + 1)) < h (k + 1) by omega) (by omega))]
      rw [if_neg c] at nx
      exact nx
theorem zr_heat (A : zr_env S N M need margin) (ht : t < N) (h24 : zx_n (S.2.1 2) t ≤ 24) : ∃ S2, zg_X10_heat S (nI t) = some (S2, zq_hot (zq_heat (zx_P S t) M) 24) ∧ zx_eqS S S2 := by
  have hM := A.2.2.2.2.1
  obtain ⟨c, e1, e2⟩ := zr_heat0 (y1 := nI t) 24 0 2000 S rfl (by decide) (fun i hi => absurd hi (by omega))
  obtain ⟨S2, g1, g2, g3⟩ := zr_heat2 A ht h24 M 0 2000 (zx_SA S 26 c) (by omega) (by omega) (zx_eqS_r S c (by decide)) (fun y hy => by rw [zx_SAa, e2 y hy]; rfl)
  have hh : ∀ y, zq_heat (zx_P S t) M y ≤ 16 := fun y => Nat.le_trans (zq_heat_le _ y M) hM
  have g4 := zr_heat3 hh g3 23 0 2000 (by omega) (by omega)
  have t1 : zq_top (zq_heat (zx_P S t) M) (0 + 1) = 0 := by
    have := zq_top_lt (zq_heat (zx_P S t) M) 0
    omega
  have t2 : zq_top (zq_heat (zx_P S t) M) 24 ≤ 23 := zq_top_lt (zq_heat (zx_P S t) M) 23
  rw [t1] at g4
  have g5 := hh (zq_top (zq_heat (zx_P S t) M) 24)
  refine ⟨S2, ?_, g2⟩
  unfold zg_X10_heat zq_hot
  rw [show (0 : Int32) = nI 0 from rfl, e1, zo_s, g1, zo_s, show (1 : Int32) = nI (0 + 1) from rfl, g4, zo_s, za_ai (by omega) (by decide), zo_s, g3 _ (by omega)]
  by_cases y : zq_heat (zx_P S t) M (zq_top (zq_heat (zx_P S t) M) 24) = 0
  · rw [y, if_pos rfl, if_pos rfl]
  · rw [if_neg y, if_neg (fun h => y ((za_eq (by omega) (by omega)).mp h))]
end ZR
