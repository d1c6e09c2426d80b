/-! remarks in the order of their lines: inOrder -/
def zq_fs (Q : Nat → Option (Option (Nat × Nat))) (i : Nat) : Option Nat := match Q i with
  | some (some x) => some x.1
  | _ => none
def zq_f1 : Option Nat → Int32
  | none => -1
  | some c => nI c
def zq_lt (Q : Nat → Option (Option (Nat × Nat))) (m c i : Nat) : Bool := match zq_fs Q i with
  | none => false
  | some a => decide (a < c) || (decide (a = c) && decide (i < m))
theorem zq_lt0 {Q : Nat → Option (Option (Nat × Nat))} {m c i : Nat} (h : zq_fs Q i = none) : ¬ zq_lt Q m c i = true := by
  unfold zq_lt
  rw [h]
  exact fun h => by cases h
theorem zq_lt1 {Q : Nat → Option (Option (Nat × Nat))} {m c i a : Nat} (h : zq_fs Q i = some a) : zq_lt Q m c i = true ↔ a < c ∨ (a = c ∧ i < m) := by
  unfold zq_lt
  rw [h]
  simp only [Bool.or_eq_true, Bool.and_eq_true, decide_eq_true_eq]
def zq_ct (p : Nat → Bool) : Nat → Nat
  | 0 => 0
  | k + 1 => if p k = true then zq_ct p k + 1 else zq_ct p k
theorem zq_ct1 (p : Nat → Bool) (k : Nat) : zq_ct p (k + 1) = if p k = true then zq_ct p k + 1 else zq_ct p k := rfl
theorem zq_ct_le (p : Nat → Bool) : ∀ k, zq_ct p k ≤ k := by
  intro k
  induction k with
  | zero => exact Nat.le_refl _
  | succ k ih => rw [zq_ct1]; split <;> omega
theorem zq_ct_c {p p' : Nat → Bool} : ∀ k, (∀ i, i < k → p i = p' i) → zq_ct p k = zq_ct p' k := by
  intro k
  induction k with
  | zero => intro h; rfl
  | succ k ih =>
    intro h
    rw [zq_ct1, zq_ct1, h k (by omega), ih (fun i hi => h i (by omega))]
theorem zq_ct_mono {p p' : Nat → Bool} (h : ∀ i, p i = true → p' i = true) : ∀ k, zq_ct p k ≤ zq_ct p' k := by
  intro k
  induction k with
  | zero => exact Nat.le_refl _
  | succ k ih =>
    rw [zq_ct1, zq_ct1]
    by_cases c : p k = true
    · rw [if_pos c, if_pos (h k c)]
      omega
    · rw [if_neg c]
      split <;> omega
theorem zq_ct_lt {p p' : Nat → Bool} (h : ∀ i, p i = true → p' i = true) {m : Nat} (h1 : p m = false) (h2 : p' m = true) : ∀ k, m < k → zq_ct p k < zq_ct p' k := by
  intro k
  induction k with
  | zero => intro h; omega
  | succ k ih =>
    intro hk
    rw [zq_ct1, zq_ct1]
    by_cases e : m = k
    · subst e
      rw [if_neg (by rw [h1]; decide), if_pos h2]
      have := zq_ct_mono h m
      omega
    · have := ih (by omega)
      by_cases c : p k = true
      · rw [if_pos c, if_pos (h k c)]
        omega
      · rw [if_neg c]
        split <;> omega
theorem zq_ct_one {p p' : Nat → Bool} {m : Nat} (h : ∀ i, i ≠ m → p' i = p i) (h1 : p m = false) (h2 : p' m = true) : ∀ k, m < k → zq_ct p' k = zq_ct p k + 1 := by
  intro k
  induction k with
  | zero => intro h; omega
  | succ k ih =>
    intro hk
    rw [zq_ct1, zq_ct1]
    by_cases e : m = k
    · subst e
      rw [if_neg (show ¬ p m = true by rw [h1]; decide), if_pos h2, zq_ct_c m (fun i hi => h i (by omega))]
    · rw [h k (by omega), ih (by omega)]
      split <;> rfl
def zq_rk (Q : Nat → Option (Option (Nat × Nat))) (m c : Nat) : Nat := zq_ct (zq_lt Q m c) 16
theorem zq_rk_le (Q : Nat → Option (Option (Nat × Nat))) (m c : Nat) : zq_rk Q m c ≤ 16 := zq_ct_le _ _
theorem zq_rk_lt {Q : Nat → Option (Option (Nat × Nat))} {m c m' c' : Nat} (hm : m < 16) (e : zq_fs Q m = some c) (h : c < c' ∨ (c = c' ∧ m < m')) : zq_rk Q m c < zq_rk Q m' c' := by
  refine zq_ct_lt (fun i hi => ?_) (m := m) ?_ ?_ 16 hm
  · unfold zq_lt at hi ⊢
    cases q : zq_fs Q i with
    | none => rw [q] at hi; cases hi
    | some a =>
      rw [q] at hi
      simp only [Bool.or_eq_true, Bool.and_eq_true, decide_eq_true_eq] at hi ⊢
      omega
  · unfold zq_lt
    rw [e]
    simp
  · unfold zq_lt
    rw [e]
    simp only [Bool.or_eq_true, Bool.and_eq_true, decide_eq_true_eq]
    omega
theorem zq_rk_inj {Q : Nat → Option (Option (Nat × Nat))} {m c m' c' : Nat} (hm : m < 16) (hm' : m' < 16) (e : zq_fs Q m = some c) (e' : zq_fs Q m' = some c') (h : zq_rk Q m c = zq_rk Q m' c') : m = m' := by
  rcases Nat.lt_trichotomy c c' with y | y | y
  · have := zq_rk_lt (m' := m') hm e (Or.inl y)
    omega
  · rcases Nat.lt_trichotomy m m' with x | x | x
    · have := zq_rk_lt hm e (Or.inr ⟨y, x⟩)
      omega
    · exact x
    · have := zq_rk_lt hm' e' (Or.inr ⟨y.symm, x⟩)
      omega
  · have := zq_rk_lt (m' := m) hm' e' (Or.inl y)
    omega
/-- what the answer is -/
def zq_ans2 (Q : Nat → Option (Option (Nat × Nat))) (x a : Int32) : Prop := (∃ m c, m < 16 ∧ a = nI m ∧ zq_fs Q m = some c ∧ x = nI (zq_rk Q m c)) ∨ (a = -1 ∧ ∀ m c, m < 16 → zq_fs Q m = some c → ¬ x = nI (zq_rk Q m c))
theorem zq_ans2_u {Q : Nat → Option (Option (Nat × Nat))} {x a b : Int32} (h1 : zq_ans2 Q x a) (h2 : zq_ans2 Q x b) : a = b := by
  rcases h1 with ⟨m, c, a1, a2, a3, a4⟩ | ⟨a1, a2⟩
  · rcases h2 with ⟨m', c', b1, b2, b3, b4⟩ | ⟨b1, b2⟩
    · have l1 := zq_rk_le Q m c
      have l2 := zq_rk_le Q m' c'
      have := zq_rk_inj a1 b1 a3 b3 ((za_eq (by omega) (by omega)).mp (a4.symm.trans b4))
      rw [a2, b2, this]
    · exact absurd a4 (b2 m c a1 a3)
  · rcases h2 with ⟨m', c', b1, b2, b3, b4⟩ | ⟨b1, b2⟩
    · exact absurd b4 (a2 m' c' b1 b3)
    · rw [a1, b1]
section ZV
variable {z : Nat} {w : zc_H} {D : zy_D} {Q : Nat → Option (Option (Nat × Nat))}
theorem zs_fsq (h : zc_H) {o : Option (Option (Nat × Nat))} {Q : Nat → Option (Option (Nat × Nat))} {i : Nat} (e : Q i = o) (hQ : ∀ i x, Q i = some (some x) → x.1 ≤ x.2 ∧ x.2 < 24) : zf_X9_firstOf h (zq_sq o) = some (zq_f1 (zq_fs Q i)) ∧ (zq_sq o = -1 ↔ zq_fs Q i = none) := by
  unfold zq_fs
  rw [e]
  match o, e with
  | none, _ => exact ⟨by unfold zf_X9_firstOf; rw [if_pos (show zq_sq none = -1 from rfl)]; rfl, ⟨fun _ => rfl, fun _ => rfl⟩⟩
  | some none, _ => exact ⟨by unfold zf_X9_firstOf; rw [if_pos (show zq_sq (some none) = -1 from rfl)]; rfl, ⟨fun _ => rfl, fun _ => rfl⟩⟩
  | some (some x), e =>
    have := hQ i x e
    exact ⟨zs_first (by omega) (by omega), ⟨fun h => absurd h (za_ne _ (by omega)), fun h => by cases h⟩⟩
theorem zs_aheadL (A : zy_is z D w) (hz : w.2.2 < z) (hV : ∀ i, i < 16 → D.2.1 19 i = zq_sq (Q i)) (hQ : ∀ i x, Q i = some (some x) → x.1 ≤ x.2 ∧ x.2 < 24) {m c : Nat} (hm : m < 16) (hc : c < 24) : ∀ (j k fu : Nat), k + j = 16 → j < fu → zf_X7_manyAhead_L30 w (z + 18) (nI m) (nI c) fu (nI (zq_ct (zq_lt Q m c) k)) (nI k) = some (nI (zq_rk Q m c)) := by
  intro j
  induction j with
  | zero =>
    intro k fu h1 h2
    obtain ⟨fu, rfl⟩ : ∃ n, fu = n + 1 := ⟨fu - 1, by omega⟩
    have : k = 16 := by omega
    subst this
    unfold zf_X7_manyAhead_L30
    rw [zy_r18_2 A, zo_s, zo_s, zy_n19 A hz, zo_s, if_pos (show (16 : Int32) ≤ nI 16 by decide)]
    rfl
  | succ j ih =>
    intro k fu h1 h2
    obtain ⟨fu, rfl⟩ : ∃ n, fu = n + 1 := ⟨fu - 1, by omega⟩
    have nx := ih (k + 1) fu (by omega) (by omega)
    have hl := zq_ct_le (zq_lt Q m c) k
    obtain ⟨f1, f2⟩ := zs_fsq w (i := k) rfl hQ
    have fb : ∀ a, zq_fs Q k = some a → a < 24 := fun a h => by
      unfold zq_fs at h
      split at h
      · rename_i x e
        cases h
        have := hQ k _ e
        omega
      · cases h
    unfold zf_X7_manyAhead_L30
    dsimp only
    rw [zy_r18_2 A, zo_s, zo_s, zy_n19 A hz, zo_s, if_neg (show ¬ (16 : Int32) ≤ nI k from nI_ge (show k < 16 by omega) (by decide)), zo_s, zo_s, zy_a19 A (by omega), zo_s, hV k (by omega), f1, zo_s, ← nI_succ, ← nI_succ]
    rw [zq_ct1] at nx
    cases e : zq_fs Q k with
    | none =>
      rw [if_pos (show zq_f1 none = -1 from rfl)]
      rw [if_neg (zq_lt0 e)] at nx
      exact nx
    | some a =>
      have ha := fb a e
      have el := zq_lt1 (m := m) (c := c) e
      rw [if_neg (show ¬ zq_f1 (some a) = -1 from za_ne _ (by omega)), show zq_f1 (some a) = nI a from rfl]
      by_cases y : a < c
      · rw [if_pos (nI_lt y (by omega))]
        rw [if_pos (el.mpr (Or.inl y))] at nx
        exact nx
      · rw [if_neg (nI_nlt (show c ≤ a by omega) (by omega))]
        by_cases y2 : a = c
        · subst y2
          rw [if_pos rfl]
          by_cases y3 : k < m
          · rw [if_neg (nI_ge y3 (by omega))]
            rw [if_pos (el.mpr (Or.inr ⟨rfl, y3⟩))] at nx
            exact nx
          · rw [if_pos (nI_le (show m ≤ k by omega) (by omega))]
            rw [if_neg (fun h => by have := el.mp h; omega)] at nx
            exact nx
        · rw [if_neg (fun h => y2 ((za_eq (by omega) (by omega)).mp h))]
          rw [if_neg (fun h => by have := el.mp h; omega)] at nx
          exact nx
theorem zs_ahead (A : zy_is z D w) (hz : w.2.2 < z) (hV : ∀ i, i < 16 → D.2.1 19 i = zq_sq (Q i)) (hQ : ∀ i x, Q i = some (some x) → x.1 ≤ x.2 ∧ x.2 < 24) {m c : Nat} (hm : m < 16) (e : zq_fs Q m = some c) (hc : c < 24) : zf_X7_manyAhead w (z + 18) (nI m) = some (nI (zq_rk Q m c)) := by
  obtain ⟨f1, f2⟩ := zs_fsq w (i := m) rfl hQ
  rw [e] at f1
  have := zs_aheadL A hz hV hQ hm hc 16 0 2000 rfl (by decide)
  unfold zf_X7_manyAhead
  rw [if_neg (zy_is18 A), if_neg (nI_pos (by omega)), zy_r18_2 A, zo_s, zo_s, zy_n19 A hz, zo_s, if_pos (show nI m < 16 from nI_lt (show m < 16 by omega) (by decide)), zo_s, zo_s, zy_a19 A hm, zo_s, hV m hm, f1, zo_s]
  exact (congrArg (fun o => o.bind fun w26 => some w26) this)
theorem zs_ordL (A : zy_is z D w) (hz : w.2.2 < z) (hV : ∀ i, i < 16 → D.2.1 19 i = zq_sq (Q i)) (hQ : ∀ i x, Q i = some (some x) → x.1 ≤ x.2 ∧ x.2 < 24) {x : Int32} : ∀ (j k fu : Nat), k + j = 16 → j < fu → (∀ m c, m < k → zq_fs Q m = some c → ¬ x = nI (zq_rk Q m c)) → ∃ o, zf_X7_inOrderAt_L2 w (z + 18) x fu (nI k) = some o ∧ zq_ans2 Q x (zq_o1 o) := by
  intro j
  induction j with
  | zero =>
    intro k fu h1 h2 h3
    obtain ⟨fu, rfl⟩ : ∃ n, fu = n + 1 := ⟨fu - 1, by omega⟩
    have : k = 16 := by omega
    subst this
    refine ⟨.inl (), ?_, Or.inr ⟨rfl, h3⟩⟩
    unfold zf_X7_inOrderAt_L2
    rw [zy_r18_2 A, zo_s, zo_s, zy_n19 A hz, zo_s, if_pos (show (16 : Int32) ≤ nI 16 by decide)]
  | succ j ih =>
    intro k fu h1 h2 h3
    obtain ⟨fu, rfl⟩ : ∃ n, fu = n + 1 := ⟨fu - 1, by omega⟩
    obtain ⟨f1, f2⟩ := zs_fsq w (i := k) rfl hQ
    unfold zf_X7_inOrderAt_L2
    dsimp only
    rw [zy_r18_2 A, zo_s, zo_s, zy_n19 A hz, zo_s, if_neg (show ¬ (16 : Int32) ≤ nI k from nI_ge (show k < 16 by omega) (by decide)), zo_s, zo_s, zy_a19 A (by omega), zo_s, hV k (by omega), ← nI_succ]
    cases e : zq_fs Q k with
    | none =>
      rw [if_pos (f2.mpr e)]
      exact ih (k + 1) fu (by omega) (by omega) (fun m c hm hc => by
        by_cases y : m = k
        · subst y
          rw [e] at hc
          cases hc
        · exact h3 m c (by omega) hc)
    | some c =>
      have hc24 : c < 24 := by
        unfold zq_fs at e
        split at e
        · rename_i x q
          cases e
          have := hQ k _ q
          omega
        · cases e
      rw [if_neg (fun h => by rw [f2.mp h] at e; cases e), zs_ahead A hz hV hQ (by omega) e hc24, zo_s]
      by_cases y : nI (zq_rk Q k c) = x
      · rw [if_pos y]
        exact ⟨_, rfl, Or.inl ⟨k, c, by omega, rfl, e, y.symm⟩⟩
      · rw [if_neg y]
        exact ih (k + 1) fu (by omega) (by omega) (fun m c' hm hc => by
          by_cases y2 : m = k
          · subst y2
            rw [e] at hc
            cases hc
            exact fun h => y h.symm
          · exact h3 m c' (by omega) hc)
theorem zs_ord (A : zy_is z D w) (hz : w.2.2 < z) (hV : ∀ i, i < 16 → D.2.1 19 i = zq_sq (Q i)) (hQ : ∀ i x, Q i = some (some x) → x.1 ≤ x.2 ∧ x.2 < 24) (x : Int32) : ∃ a, zf_X7_inOrderAt w (z + 18) x = some a ∧ zq_ans2 Q x a := by
  obtain ⟨o, e1, e2⟩ := zs_ordL A hz hV hQ (x := x) 16 0 2000 rfl (by decide) (fun m c h => absurd h (by omega))
  refine ⟨zq_o1 o, ?_, e2⟩
  unfold zf_X7_inOrderAt
  rw [if_neg (zy_is18 A), show (0 : Int32) = nI 0 from rfl, e1, zo_s]
  cases o <;> rfl
end ZV
section ZR
variable {S : zm_S} {N M need margin t : Nat}
theorem zr_ord1 (A : zr_env S N M need margin) (ht : t < N) {y2 y3 : Int32} : ∀ (j k fu : Nat) (S' : zm_S), k + j = M → j < fu → zx_eqS S S' → (∀ i, i < k → S'.2.1 37 i = zq_f1 (zq_fs (zx_P S t) i)) → ∃ S2, zg_X10_inOrder_L19 (nI t) y2 y3 fu S' (nI k) = some S2 ∧ zx_eqS S S2 ∧ ∀ i, i < M → S2.2.1 37 i = zq_f1 (zq_fs (zx_P S t) i) := by
  have hM := A.2.2.2.2.1
  intro j
  induction j with
  | zero =>
    intro k fu S' h1 h2 h3 h4
    obtain ⟨fu, rfl⟩ : ∃ n, fu = n + 1 := ⟨fu - 1, by omega⟩
    have : k = M := by omega
    subst this
    refine ⟨S', ?_, h3, h4⟩
    unfold zg_X10_inOrder_L19
    rw [h3.1 5 (by decide), A.2.2.2.2.2.1, if_pos (nI_le (Nat.le_refl _) (by omega))]
  | succ j ih =>
    intro k fu S' h1 h2 h3 h4
    obtain ⟨fu, rfl⟩ : ∃ n, fu = n + 1 := ⟨fu - 1, by omega⟩
    obtain ⟨S2, b, e1, e2, e3, e4⟩ := zr_isPut (zr_env_e h3 A) (show k < M by omega) ht
    have eS := zx_eqS_trans h3 e2
    have go : ∃ S3, ((zg_si 37 16 S2 (nI k) (zq_f1 (zq_fs (zx_P S t) k))).bind fun h11 => zg_X10_inOrder_L19 (nI t) y2 y3 fu h11 (nI k + 1)) = some S3 ∧ zx_eqS S S3 ∧ ∀ i, i < M → S3.2.1 37 i = zq_f1 (zq_fs (zx_P S t) i) := by
      rw [zx_si (by omega) (by decide), zo_s, ← nI_succ]
      refine ih (k + 1) fu _ (by omega) (by omega) (zx_eqS_trans eS (zx_eqS_r S2 _ (by decide))) (fun i hi => ?_)
      rw [zx_SAa]
      by_cases y : i = k
      · subst y
        rw [va_up_self]
      · rw [va_up_ne _ _ y, e3 37 (by decide), h4 i (by omega)]
    unfold zg_X10_inOrder_L19
    dsimp only
    rw [h3.1 5 (by decide), A.2.2.2.2.2.1, if_neg (nI_ge (show k < M by omega) (by omega)), e1, zo_s]
    dsimp only
    rw [zx_P_e h3] at e4
    rcases e4 with ⟨x1, x2⟩ | ⟨x, x1, x2, x3, x4⟩
    · have : zq_fs (zx_P S t) k = none := by
        unfold zq_fs
        split
        · rename_i o q
          rw [q] at x1
          cases x1
        · rfl
      rw [x2, if_pos rfl]
      rw [this] at go
      exact go
    · have : zq_fs (zx_P S t) k = some x.1 := by
        unfold zq_fs
        rw [x1]
      rw [x2, if_neg (show ¬ (1 : Int32) = 0 by decide), x3]
      rw [this] at go
      exact go
theorem zr_ord2 {Q : Nat → Option (Option (Nat × Nat))} (hM : M ≤ 16) (h5 : S.1 5 = nI M) (h37 : ∀ i, i < M → S.2.1 37 i = zq_f1 (zq_fs Q i)) (hQ : ∀ i, M ≤ i → zq_fs Q i = none) (hQ24 : ∀ i a, zq_fs Q i = some a → a < 24) {x : Int32} {J c : Nat} (hJ : J < 2 ^ 31) (hc : c < 24) : ∀ (j k fu : Nat), k + j = M → j < fu → zq_rk Q k c ≤ J → ∃ o, zg_X10_inOrder_L76 S x (nI c) fu (nI (J - zq_rk Q k c)) (nI k) = some o ∧ ((o = .inl (nI (J - zq_rk Q 0 (c + 1))) ∧ zq_rk Q 0 (c + 1) ≤ J) ∨ ∃ m, o = .inr (nI m) ∧ m < 16 ∧ zq_fs Q m = some c ∧ zq_rk Q m c = J) := by
  intro j
  induction j with
  | zero =>
    intro k fu h1 h2 h3
    obtain ⟨fu, rfl⟩ : ∃ n, fu = n + 1 := ⟨fu - 1, by omega⟩
    have : k = M := by omega
    subst this
    have er : zq_rk Q k c = zq_rk Q 0 (c + 1) := zq_ct_c 16 (fun i hi => by
      unfold zq_lt
      cases e : zq_fs Q i with
      | none => rfl
      | some a =>
        have : i < k := by
          by_cases y : i < k
          · exact y
          · rw [hQ i (by omega)] at e
            cases e
        dsimp only
        rw [decide_eq_true this, Bool.and_true, show decide (i < 0) = false from rfl, Bool.and_false, Bool.or_false, ← Bool.decide_or]
        exact decide_eq_decide.mpr ⟨fun h => by omega, fun h => by omega⟩)
    rw [er] at h3 ⊢
    refine ⟨_, ?_, Or.inl ⟨rfl, h3⟩⟩
    unfold zg_X10_inOrder_L76
    rw [h5, if_pos (nI_le (Nat.le_refl _) (by omega))]
  | succ j ih =>
    intro k fu h1 h2 h3
    obtain ⟨fu, rfl⟩ : ∃ n, fu = n + 1 := ⟨fu - 1, by omega⟩
    unfold zg_X10_inOrder_L76
    dsimp only
    rw [h5, if_neg (nI_ge (show k < M by omega) (by omega)), za_ai (by omega) (by decide), zo_s, h37 k (by omega), ← nI_succ]
    have hk16 : zq_rk Q k c ≤ 16 := zq_rk_le Q k c
    by_cases e : zq_fs Q k = some c
    · rw [e, if_pos (show zq_f1 (some c) = nI c from rfl)]
      by_cases y : zq_rk Q k c = J
      · rw [y, Nat.sub_self, if_pos (show nI 0 = 0 by decide)]
        exact ⟨_, rfl, Or.inr ⟨k, rfl, by omega, e, y⟩⟩
      · have e1 : zq_rk Q (k + 1) c = zq_rk Q k c + 1 := zq_ct_one (m := k) (fun i hi => by
          unfold zq_lt
          cases q : zq_fs Q i with
          | none => rfl
          | some a =>
            dsimp only
            congr 2
            exact decide_eq_decide.mpr ⟨fun h => by omega, fun h => by omega⟩) (by unfold zq_lt; rw [e]; simp) (by unfold zq_lt; rw [e]; simp) 16 (by omega)
        rw [if_neg (show ¬ nI (J - zq_rk Q k c) = 0 from nI_ne0 (by omega) (by omega)), show J - zq_rk Q k c = (J - zq_rk Q (k + 1) c) + 1 by omega, za_pm]
        exact ih (k + 1) fu (by omega) (by omega) (by omega)
    · have e1 : zq_rk Q (k + 1) c = zq_rk Q k c := zq_ct_c 16 (fun i hi => by
        unfold zq_lt
        cases q : zq_fs Q i with
        | none => rfl
        | some a =>
          dsimp only
          by_cases y : i = k
          · subst y
            rw [q] at e
            have : ¬ a = c := fun h => e (by rw [h])
            rw [decide_eq_false this, Bool.false_and, Bool.false_and]
          · congr 2
            exact decide_eq_decide.mpr ⟨fun h => by omega, fun h => by omega⟩)
      rw [if_neg ?_, ← e1]
      · exact ih (k + 1) fu (by omega) (by omega) (by omega)
      · intro h
        cases q : zq_fs Q k with
        | none =>
          rw [q] at h
          exact za_ne _ (by omega) h.symm
        | some a =>
          rw [q] at h
          have := hQ24 k a q
          have := (za_eq (show a < 2 ^ 31 by omega) (show c < 2 ^ 31 by omega)).mp h
          rw [q, this] at e
          exact e rfl
theorem zr_ord3 {Q : Nat → Option (Option (Nat × Nat))} (hM : M ≤ 16) (h5 : S.1 5 = nI M) (h37 : ∀ i, i < M → S.2.1 37 i = zq_f1 (zq_fs Q i)) (hQ : ∀ i, M ≤ i → zq_fs Q i = none) (hQ24 : ∀ i a, zq_fs Q i = some a → a < 24) {J : Nat} (hJ : J < 2 ^ 31) : ∀ (j c fu : Nat), c + j = 24 → j < fu → zq_rk Q 0 c ≤ J → ∃ o, zg_X10_inOrder_L62 S (nI J) fu (nI (J - zq_rk Q 0 c)) (nI c) = some o ∧ zq_ans2 Q (nI J) (zq_o1 o) := by
  intro j
  induction j with
  | zero =>
    intro c fu h1 h2 h3
    obtain ⟨fu, rfl⟩ : ∃ n, fu = n + 1 := ⟨fu - 1, by omega⟩
    have : c = 24 := by omega
    subst this
    refine ⟨.inl (), ?_, Or.inr ⟨rfl, fun m c hm hc h => ?_⟩⟩
    · unfold zg_X10_inOrder_L62
      rw [if_pos (show (24 : Int32) ≤ nI 24 by decide)]
    · have h24 := hQ24 m c hc
      have := zq_rk_lt (m' := 0) (c' := 24) hm hc (Or.inl h24)
      have l := zq_rk_le Q m c
      have := (za_eq hJ (by omega)).mp h
      omega
  | succ j ih =>
    intro c fu h1 h2 h3
    obtain ⟨fu, rfl⟩ : ∃ n, fu = n + 1 := ⟨fu - 1, by omega⟩
    obtain ⟨o, e1, e2⟩ := zr_ord2 (x := nI J) hM h5 h37 hQ hQ24 hJ (show c < 24 by omega) M 0 2000 (by omega) (by omega) h3
    unfold zg_X10_inOrder_L62
    rw [if_neg (show ¬ (24 : Int32) ≤ nI c from nI_ge (show c < 24 by omega) (by decide)), if_neg (nI_pos hJ), show (0 : Int32) = nI 0 from rfl, e1, zo_s]
    rcases e2 with ⟨rfl, g2⟩ | ⟨m, rfl, g2, g3, g4⟩
    · rw [← nI_succ]
      exact ih (c + 1) fu (by omega) (by omega) g2
    · exact ⟨.inr (nI m), rfl, Or.inl ⟨m, c, g2, rfl, g3, by rw [g4]⟩⟩
end ZR
section ZV
variable {z : Nat} {w : zc_H} {D : zy_D} {S : zm_S} {N M : Nat}
theorem zq_fs_PM (S : zm_S) {M t i : Nat} (hi : i < M) : zq_fs (zx_PM S M t) i = zq_fs (zx_P S t) i := by
  unfold zq_fs zx_PM
  rw [if_pos hi]
theorem ze_inOrder (R : zx_R z w D S N M) (x1 x2 : Int32) : zx_res z w (zf_X9_inOrder w z x1 x2) (zg_X10_inOrder S x1 x2) := by
  have A := zx_R_is R
  have hz := (zx_R_z R).1
  obtain ⟨hN, hM⟩ := zx_R_16 R
  have n1 : ¬ (1 : Int32) = 0 := by decide
  obtain ⟨f, g, f', g', N', M', X⟩ := zx_R_X R
  obtain ⟨zs, D', E, fb, nb, RR⟩ := id X
  obtain ⟨A', ⟨-, -, -, al3, al4, -⟩, docd, -⟩ := id RR
  have doc : zx_doc z w f g N M (S.2.1 1) (S.2.1 2) (S.2.2 3) (S.2.1 6) (fun _ x => x = S.2.1 7 0) := docd
  unfold zf_X9_inOrder
  rw [if_neg (zy_is0 A), zy_r0_1 A, zo_s, zo_s]
  rcases zn_rng x1 (n := N) (by omega) with hx | ⟨t, ht, rfl⟩
  · rw [zs_revN A al3 hx, zo_s, if_pos rfl]
    unfold zg_X10_inOrder
    rw [zr_isRevN R.1.1 hN hx, zo_s, if_pos rfl]
    exact zx_no10_res (c := 1) R (by decide) (by decide) (by decide) (by decide) rfl
  obtain ⟨w2, D2, E2, fb2, nb2, k1, k2, k3, k4, k5⟩ := zs_taken RR zs ht
  obtain ⟨A2, ⟨hz2, -⟩, doc2d, -⟩ := id k2
  obtain ⟨need, margin, en⟩ := zr_env_of zs docd
  have h24 := zx_n24 (S.2.1 2) t
  have hQ := zx_PM_ok en ht
  have hQ2 : ∀ i x, zx_PM S M t i = some (some x) → x.1 ≤ x.2 ∧ x.2 < 24 := fun i x h => ⟨(hQ i x h).1, by have := (hQ i x h).2; omega⟩
  obtain ⟨a, c1, c2⟩ := zs_ord A2 hz2 (zx_PM_sv k3) hQ2 x2
  obtain ⟨S2, d1, d2, d3⟩ := zr_ord1 en ht (y2 := x2) (y3 := x2) M 0 2000 S (by omega) (by omega) (zx_eqS_refl S) (fun i hi => absurd hi (by omega))
  have d4 : ∃ o, zg_X10_inOrder_L62 S2 x2 2000 x2 0 = some o ∧ zq_ans2 (zx_PM S M t) x2 (zq_o1 o) := by
    by_cases c : x2 < 0
    · refine ⟨.inl (), ?_, Or.inr ⟨rfl, fun m c' hm hc h => ?_⟩⟩
      · unfold zg_X10_inOrder_L62
        rw [if_neg (show ¬ (24 : Int32) ≤ 0 by decide), if_pos c]
      · rw [h] at c
        have := zq_rk_le (zx_PM S M t) m c'
        exact nI_pos (by omega) c
    · obtain ⟨J, hJ, rfl⟩ := nI_of c
      have r0 : zq_rk (zx_PM S M t) 0 0 = 0 := by
        unfold zq_rk
        have : ∀ k, zq_ct (zq_lt (zx_PM S M t) 0 0) k = 0 := by
          intro k
          induction k with
          | zero => rfl
          | succ k ih =>
            rw [zq_ct1, ih, if_neg]
            unfold zq_lt
            split
            · decide
            · simp
        exact this 16
      have := zr_ord3 (S := S2) (Q := zx_PM S M t) hM (by rw [d2.1 5 (by decide)]; exact en.2.2.2.2.2.1) (fun i hi => by rw [d3 i hi, zq_fs_PM S hi]) (fun i hi => by
        unfold zq_fs zx_PM
        rw [if_neg (by omega)]) (fun i a h => by
        unfold zq_fs at h
        split at h
        · rename_i x q
          cases h
          have := hQ2 i _ q
          omega
        · cases h) hJ 24 0 2000 rfl (by decide) (by rw [r0]; exact Nat.zero_le _)
      rw [r0, Nat.sub_zero] at this
      exact this
  obtain ⟨o, o1, o2⟩ := d4
  rw [zs_rev A al3 hN ht (zx_rev_is doc ht), zo_s, if_neg (by simp), zy_r0_9 A, zo_s, zo_s, k1, zo_s, zy_r0_9 A2, zo_s, zo_s, c1, zo_s]
  unfold zg_X10_inOrder
  rw [zr_isRev R.1.1 hN ht, zo_s (1 : Int32), if_neg n1, show zg_X10_inOrder_L19 (nI t) x2 x2 2000 S 0 = some S2 from d1, zo_s, o1, zo_s, zq_ans2_u c2 o2]
  have fin : zx_R z w2 D2 S2 N M := zx_R_of zs d2 (zx_RR_sc k2 rfl (fun _ _ => rfl) (fun _ _ => rfl) A2 (zx_eqD_refl _) d2)
  cases o with
  | inl _ => exact ⟨w2, S2, _, D2, N, M, rfl, rfl, fin, k4⟩
  | inr m => exact ⟨w2, S2, _, D2, N, M, rfl, rfl, fin, k4⟩
end ZV
