/-! settled, depth, thread, open -/
/-- answers: each answers none, or an earlier one -/
def zq_ans (an : Nat → Int32) (M : Nat) : Prop := ∀ i, i < M → an i = -1 ∨ ∃ k, k < i ∧ an i = nI k
/-- is i in the thread of m -/
def zq_in (an : Nat → Int32) (m : Nat) : Nat → Nat → Bool
  | 0, _ => false
  | k + 1, i => if an i = -1 then false else if an i = nI m then true else zq_in an m k (an i).toNatClampNeg
theorem zq_in_fuel {an : Nat → Int32} {m M : Nat} (hM : M ≤ 16) (h : zq_ans an M) : ∀ (k k2 i : Nat), i < M → i < k → i < k2 → zq_in an m k i = zq_in an m k2 i := by
  intro k
  induction k with
  | zero => intro k2 i _ h1 _; omega
  | succ k ih =>
    intro k2 i hi h1 h2
    obtain ⟨k3, rfl⟩ : ∃ k3, k2 = k3 + 1 := ⟨k2 - 1, by omega⟩
    unfold zq_in
    rcases h i hi with e | ⟨j, hj, e⟩
    · rw [if_pos e, if_pos e]
    · have ne : ¬ an i = -1 := by rw [e]; exact za_ne _ (by omega)
      rw [if_neg ne, if_neg ne, e, nI_clamp (by omega), ih k3 j (by omega) (by omega) (by omega)]
def zq_th (an : Nat → Int32) (m i : Nat) : Bool := zq_in an m 17 i
theorem zq_th0 {an : Nat → Int32} {m i : Nat} (e : an i = -1) : zq_th an m i = false := by
  unfold zq_th zq_in
  rw [if_pos e]
theorem zq_th1 {an : Nat → Int32} {m i : Nat} (hm : m < 2 ^ 31) (e : an i = nI m) : zq_th an m i = true := by
  unfold zq_th zq_in
  rw [if_neg (by rw [e]; exact za_ne _ hm), if_pos e]
theorem zq_th2 {an : Nat → Int32} {m M i k : Nat} (hM : M ≤ 16) (h : zq_ans an M) (hi : i < M) (hk : k < i) (e : an i = nI k) (ne : ¬ an i = nI m) : zq_th an m i = zq_th an m k := by
  have e1 : zq_in an m 17 i = zq_in an m 16 k := by
    rw [show zq_in an m 17 i = if an i = -1 then false else if an i = nI m then true else zq_in an m 16 (an i).toNatClampNeg from rfl, if_neg (by rw [e]; exact za_ne _ (by omega)), if_neg ne, e, nI_clamp (by omega)]
  unfold zq_th
  rw [e1]
  exact zq_in_fuel hM h 16 17 k (by omega) (by omega) (by omega)
abbrev zx_an (S : zm_S) (i : Nat) : Int32 := S.2.1 6 (80 + i)
theorem zx_ans {z : Nat} {h : zc_H} {f g : Nat → Nat} {N M : Nat} {F C : Nat → Int32} {L : Nat → Int64} {T : Nat → Int32} {rdy : Nat → Int32 → Prop} (B : zx_doc z h f g N M F C L T rdy) : zq_ans (fun i => T (80 + i)) M := by
  intro i hi
  obtain ⟨-, -, kind, a, r, p, q, an, -, -, -, -, -, -, -, -, -, -, c11, c12, -⟩ := B.2.2.2 i hi
  rw [← c11] at c12
  exact c12
theorem zx_ans1 {z : Nat} {h : zc_H} {f g : Nat → Nat} {N M : Nat} {F C : Nat → Int32} {L : Nat → Int64} {T : Nat → Int32} {rdy : Nat → Int32 → Prop} (B : zx_doc z h f g N M F C L T rdy) {i : Nat} (hi : i < M) : T (80 + i) = -1 ∨ ∃ k, k < i ∧ T (80 + i) = nI k := zx_ans B i hi
theorem zx_ga {z : Nat} {h : zc_H} {f g : Nat → Nat} {N M : Nat} {F C : Nat → Int32} {L : Nat → Int64} {T : Nat → Int32} {rdy : Nat → Int32 → Prop} {m : Nat} (B : zx_doc z h f g N M F C L T rdy) (hm : m < M) : zf_gi h (g m) 3 5 = some (T (80 + m)) := by
  obtain ⟨-, -, kind, a, r, p, q, an, -, -, -, -, -, -, -, -, -, -, c11, c12, c13⟩ := B.2.2.2 m hm
  rw [zb_gi c13 rfl, c11]
theorem zr_of5 {S : zm_S} {m : Nat} (hm : m < 16) : zg_X10_of S 5 (nI m) = some (zx_an S m) := zr_of (by decide) hm 5 rfl
theorem zr_of6 {S : zm_S} {m : Nat} (hm : m < 16) : zg_X10_of S 6 (nI m) = some (S.2.1 6 (96 + m)) := zr_of (by decide) hm 6 rfl
section ZT
variable {z : Nat} {w : zc_H} {D : zy_D} {S : zm_S} {E f g : Nat → Nat} {N M : Nat} {F C : Nat → Int32} {L : Nat → Int64} {rdy : Nat → Int32 → Prop}
/-- the class: a settled remark -/
theorem zs_settled (A : zy_is z D w) (hb : zx_bits (D.1 2 2) M (S.2.1 6)) {m : Nat} (hm : m < M) (hM : M ≤ 16) : zf_X6_isSettled w (z + 2) (nI m) = some (S.2.1 6 (96 + m)) ∧ (S.2.1 6 (96 + m) = 0 ∨ S.2.1 6 (96 + m) = 1) := by
  have e := (hb m).1 hm
  unfold zf_X6_isSettled
  rw [if_neg (zy_is2 A), zy_g2_2 A, zo_s, e]
  by_cases c : zx_bt (D.1 2 2) m = true
  · rw [if_pos c, if_pos ((zb_test (by omega)).mpr c)]
    exact ⟨rfl, Or.inr rfl⟩
  · rw [if_neg c, if_neg (fun q => c ((zb_test (by omega)).mp q))]
    exact ⟨rfl, Or.inl rfl⟩
theorem zx_depthL (A : zy_is z D w) (al : zk_al w (z + 4) (E 4) M g) (B : zx_doc z w f g N M F C L (S.2.1 6) rdy) : ∀ (i fu fv d : Nat), i < M → i < fu → i < fv → d + i + 1 ≤ 16 → ∃ e, zf_X6_depthOf_L8 w (z + 2) fu (nI d) (some (g i)) = some e ∧ zg_X10_depth_L9 S fv (nI d) (zx_an S i) = some e := by
  intro i
  induction i using Nat.strongRecOn with
  | ind i ih =>
    intro fu fv d h1 h2 h3 h4
    have hM := B.2.1
    obtain ⟨fl, rfl⟩ : ∃ fl, fu = fl + 1 := ⟨fu - 1, by omega⟩
    obtain ⟨fm, rfl⟩ : ∃ fm, fv = fm + 1 := ⟨fv - 1, by omega⟩
    unfold zf_X6_depthOf_L8 zg_X10_depth_L9
    rw [if_neg (by simp), zo_s, zx_ga B h1, zo_s]
    rcases zx_ans1 B h1 with e | ⟨k, hk, e⟩
    · rw [if_pos e, if_pos e]
      exact ⟨_, rfl, rfl⟩
    · have ne : ¬ zx_an S i = -1 := by unfold zx_an; rw [e]; exact za_ne _ (by omega)
      rw [if_neg ne, if_neg ne, if_neg (show ¬ (16 : Int32) ≤ nI d from nI_ge (show d < 16 by omega) (by decide)), zo_s]
      have e2 : zx_an S i = nI k := e
      rw [e, e2, zs_rem A al hM (show k < M by omega) (zx_rem_e B (by omega)), zo_s, zr_of5 (by omega), zo_s, ← nI_succ]
      exact ih k hk fl fm (d + 1) (by omega) (by omega) (by omega) (by omega)
theorem zx_depth (A : zy_is z D w) (al : zk_al w (z + 4) (E 4) M g) (B : zx_doc z w f g N M F C L (S.2.1 6) rdy) {m : Nat} (hm : m < M) : ∃ e, zf_X6_depthOf w (z + 2) (nI m) = some e ∧ zg_X10_depth S (nI m) = some e := by
  have hM := B.2.1
  obtain ⟨e, e1, e2⟩ := zx_depthL A al B m 2000 2000 0 hm (by omega) (by omega) (by omega)
  refine ⟨e, ?_, ?_⟩
  · unfold zf_X6_depthOf
    rw [if_neg (zy_is2 A), zs_rem A al hM hm (zx_rem_e B hm), zo_s, show (0 : Int32) = nI 0 by decide, e1, zo_s]
  · unfold zg_X10_depth
    rw [zr_of5 (by omega), zo_s, show (0 : Int32) = nI 0 by decide, e2, zo_s]
/-- the class's thread, as bits -/
theorem zs_threadL (A : zy_is z D w) (al : zk_al w (z + 4) (E 4) M g) (B : zx_doc z w f g N M F C L (S.2.1 6) rdy) {m : Nat} (hm : m < M) : ∀ (r fu t : Nat) (x : Int32), t + r = M → r < fu → (∀ i, zx_bt x i = (decide (i < t) && zq_th (zx_an S) m i)) → ∃ y, zf_X6_threadOf_L4 w (z + 2) (nI m) fu x (nI t) = some y ∧ ∀ i, zx_bt y i = (decide (i < M) && zq_th (zx_an S) m i) := by
  have hM := B.2.1
  intro r
  induction r with
  | zero =>
    intro fu t x h1 h2 h3
    obtain ⟨fl, rfl⟩ : ∃ fl, fu = fl + 1 := ⟨fu - 1, by omega⟩
    have e : t = M := by omega
    subst e
    refine ⟨x, ?_, h3⟩
    unfold zf_X6_threadOf_L4
    rw [zy_r2_1 A, zo_s, zo_s, zk_al_size al, zo_s, if_pos (nI_le (Nat.le_refl _) (by omega))]
  | succ r ih =>
    intro fu t x h1 h2 h3
    obtain ⟨fl, rfl⟩ : ∃ fl, fu = fl + 1 := ⟨fu - 1, by omega⟩
    have ht : t < M := by omega
    unfold zf_X6_threadOf_L4
    dsimp only
    rw [zy_r2_1 A, zo_s, zo_s, zk_al_size al, zo_s, if_neg (nI_ge ht (by omega)), zo_s, zo_s, zk_al_get al ht, zo_s, if_neg (show ¬ ¬ zf_cc w (some (g t)) 3 = true from not_not_intro (zx_rem_e B ht)), zo_s, zx_ga B ht, zo_s, ← nI_succ]
    have same : zq_th (zx_an S) m t = false → ∃ y, zf_X6_threadOf_L4 w (z + 2) (nI m) fl x (nI (t + 1)) = some y ∧ ∀ i, zx_bt y i = (decide (i < M) && zq_th (zx_an S) m i) := by
      intro q
      refine ih fl (t + 1) x (by omega) (by omega) (fun i => ?_)
      rw [h3]
      by_cases c : i = t
      · subst c
        rw [q, Bool.and_false, Bool.and_false]
      · rw [show decide (i < t + 1) = decide (i < t) from decide_eq_decide.mpr (by omega)]
    have more : zq_th (zx_an S) m t = true → ∃ y, zf_X6_threadOf_L4 w (z + 2) (nI m) fl (x ||| (1 <<< (nI t &&& 31))) (nI (t + 1)) = some y ∧ ∀ i, zx_bt y i = (decide (i < M) && zq_th (zx_an S) m i) := by
      intro q
      refine ih fl (t + 1) _ (by omega) (by omega) (fun i => ?_)
      rw [zb_or, zb_one (by omega), h3]
      by_cases c : i = t
      · subst c
        rw [q, decide_eq_true rfl, decide_eq_true (Nat.lt_succ_self _)]
        simp
      · rw [decide_eq_false c, Bool.or_false, show decide (i < t + 1) = decide (i < t) from decide_eq_decide.mpr (by omega)]
    rcases zx_ans1 B ht with e | ⟨k, hk, e⟩
    · rw [if_pos e]
      exact same (zq_th0 e)
    · rw [e, if_neg (za_ne _ (by omega))]
      by_cases c : k = m
      · subst c
        rw [if_pos rfl]
        exact more (zq_th1 (by omega) e)
      · have ne : ¬ nI k = nI m := fun q => c ((za_eq (by omega) (by omega)).mp q)
        have et := zq_th2 (m := m) hM (zx_ans B) ht hk e (by rw [e]; exact ne)
        rw [if_neg ne]
        have hb := h3 k
        rw [decide_eq_true hk, Bool.true_and] at hb
        by_cases d : zq_th (zx_an S) m k = true
        · rw [if_pos ((zb_test (by omega)).mpr (hb.trans d))]
          exact more (et.trans d)
        · rw [if_neg (fun q => d (hb.symm.trans ((zb_test (by omega)).mp q)))]
          exact same (et.trans (Bool.eq_false_iff.mpr d))
theorem zs_thread (A : zy_is z D w) (al : zk_al w (z + 4) (E 4) M g) (B : zx_doc z w f g N M F C L (S.2.1 6) rdy) {m : Nat} (hm : m < M) : ∃ y, zf_X6_threadOf w (z + 2) (nI m) = some y ∧ ∀ i, zx_bt y i = (decide (i < M) && zq_th (zx_an S) m i) := by
  obtain ⟨y, e1, e2⟩ := zs_threadL A al B hm M 2000 0 0 (by omega) (by have := B.2.1; omega) (fun i => by rw [zb_0, decide_eq_false (Nat.not_lt_zero i), Bool.false_and])
  refine ⟨y, ?_, e2⟩
  unfold zf_X6_threadOf
  rw [if_neg (zy_is2 A), show zf_X6_threadOf_L4 w (z + 2) (nI m) 2000 0 0 = some y from e1, zo_s]
/-- the reference's -/
theorem zr_isInL (B : zq_ans (zx_an S) M) (hM : M ≤ 16) {m : Nat} (hm : m < M) : ∀ (i fu : Nat), i < M → i < fu → ∃ e, zg_X10_isIn_L7 S (nI m) fu (zx_an S i) = some e ∧ (e = nI m ↔ zq_th (zx_an S) m i = true) := by
  intro i
  induction i using Nat.strongRecOn with
  | ind i ih =>
    intro fu h1 h2
    obtain ⟨fl, rfl⟩ : ∃ fl, fu = fl + 1 := ⟨fu - 1, by omega⟩
    unfold zg_X10_isIn_L7
    rcases B i h1 with e | ⟨k, hk, e⟩
    · rw [if_pos e, e, zq_th0 e]
      exact ⟨_, rfl, fun q => absurd q.symm (za_ne _ (by omega)), fun q => (by cases q)⟩
    · rw [if_neg (by rw [e]; exact za_ne _ (by omega))]
      by_cases c : zx_an S i = nI m
      · rw [if_pos c, c, zq_th1 (by omega) c]
        exact ⟨_, rfl, fun _ => rfl, fun _ => rfl⟩
      · rw [if_neg c, e, zr_of5 (by omega), zo_s, zq_th2 hM B h1 hk e c]
        exact ih k hk fl (by omega) (by omega)
theorem zr_isIn (B : zq_ans (zx_an S) M) (hM : M ≤ 16) {m i : Nat} (hm : m < M) (hi : i < M) : zg_X10_isIn S (nI i) (nI m) = some (if zq_th (zx_an S) m i = true then 1 else 0) := by
  obtain ⟨e, e1, e2⟩ := zr_isInL B hM hm i 2000 hi (by omega)
  unfold zg_X10_isIn
  rw [zr_of5 (by omega), zo_s, e1, zo_s]
  by_cases c : zq_th (zx_an S) m i = true
  · rw [if_pos (e2.mpr c), if_pos c]
  · rw [if_neg (fun q => c (e2.mp q)), if_neg c]
theorem zr_threadL (B : zq_ans (zx_an S) M) (hM : M ≤ 16) (h5 : S.1 5 = nI M) {m : Nat} (hm : m < M) : ∀ (r fu t : Nat), t + r = M → r < fu → zg_X10_thread_L4 S (nI m) fu (nI (zq_cnt (zq_th (zx_an S) m) t)) (nI t) = some (nI (zq_cnt (zq_th (zx_an S) m) M)) := by
  intro r
  induction r with
  | zero =>
    intro fu t h1 h2
    obtain ⟨fl, rfl⟩ : ∃ fl, fu = fl + 1 := ⟨fu - 1, by omega⟩
    have e : t = M := by omega
    subst e
    unfold zg_X10_thread_L4
    rw [h5, if_pos (nI_le (Nat.le_refl _) (by omega))]
  | succ r ih =>
    intro fu t h1 h2
    obtain ⟨fl, rfl⟩ : ∃ fl, fu = fl + 1 := ⟨fu - 1, by omega⟩
    have ih2 := ih fl (t + 1) (by omega) (by omega)
    rw [show zq_cnt (zq_th (zx_an S) m) (t + 1) = zq_cnt (zq_th (zx_an S) m) t + (if zq_th (zx_an S) m t = true then 1 else 0) from rfl] at ih2
    unfold zg_X10_thread_L4
    dsimp only
    rw [h5, if_neg (nI_ge (by omega) (by omega)), zr_isIn B hM hm (by omega), zo_s, ← nI_succ t]
    by_cases c : zq_th (zx_an S) m t = true
    · rw [if_pos c] at ih2 ⊢
      rw [if_neg (by decide), ← nI_succ]
      exact ih2
    · rw [if_neg c] at ih2 ⊢
      rw [if_pos rfl]
      exact ih2
theorem zr_thread (B : zq_ans (zx_an S) M) (hM : M ≤ 16) (h5 : S.1 5 = nI M) {m : Nat} (hm : m < M) : zg_X10_thread S (nI m) = some (nI (zq_cnt (zq_th (zx_an S) m) M)) := by
  have e := zr_threadL B hM h5 hm M 2000 0 (by omega) (by omega)
  unfold zg_X10_thread
  rw [show (0 : Int32) = nI (zq_cnt (zq_th (zx_an S) m) 0) from rfl]
  rw [show nI (zq_cnt (zq_th (zx_an S) m) 0) = nI 0 from rfl] at e ⊢
  rw [e, zo_s]
/-- open -/
def zq_open (S : zm_S) (M m : Nat) : Prop := ∃ i, i < M ∧ (zq_th (zx_an S) m i = true ∨ i = m) ∧ S.2.1 6 (96 + i) = 0
theorem zs_open (A : zy_is z D w) (al : zk_al w (z + 4) (E 4) M g) (B : zx_doc z w f g N M F C L (S.2.1 6) rdy) (hb : zx_bits (D.1 2 2) M (S.2.1 6)) {m : Nat} (hm : m < M) : ∃ e : Int32, zf_X6_isOpen w (z + 2) (nI m) = some e ∧ ((e = 0 ∧ ¬ zq_open S M m) ∨ (e = 1 ∧ zq_open S M m)) := by
  have hM := B.2.1
  obtain ⟨y, e1, e2⟩ := zs_thread A al B hm
  unfold zf_X6_isOpen
  rw [if_neg (zy_is2 A), e1, zo_s, zy_g2_2 A, zo_s]
  have key : ¬ ((y ||| (1 <<< (nI m &&& 31))) &&& (D.1 2 2 ^^^ (-1))) = 0 ↔ zq_open S M m := by
    rw [zb_nz]
    constructor
    · rintro ⟨i, hi, h⟩
      rw [zb_and, zb_or, zb_one (by omega), zb_inv _ hi, e2, Bool.and_eq_true, Bool.or_eq_true, Bool.and_eq_true, decide_eq_true_eq, decide_eq_true_eq] at h
      have hiM : i < M := by
        rcases h.1 with q | q
        · exact q.1
        · omega
      refine ⟨i, hiM, h.1.imp (fun q => q.2) id, ?_⟩
      rw [(hb i).1 hiM, if_neg (by
        have := h.2
        intro q
        rw [q] at this
        cases this)]
    · rintro ⟨i, hi, h1, h2⟩
      refine ⟨i, by omega, ?_⟩
      rw [zb_and, zb_or, zb_one (by omega), zb_inv _ (by omega), e2, Bool.and_eq_true, Bool.or_eq_true, Bool.and_eq_true, decide_eq_true_eq, decide_eq_true_eq]
      refine ⟨h1.imp (fun q => ⟨hi, q⟩) id, ?_⟩
      have := (hb i).1 hi
      rw [h2] at this
      by_cases c : zx_bt (D.1 2 2) i = true
      · rw [if_pos c] at this
        exact absurd this (by decide)
      · rw [Bool.eq_false_iff.mpr c]
        rfl
  by_cases c : ((y ||| (1 <<< (nI m &&& 31))) &&& (D.1 2 2 ^^^ (-1))) = 0
  · rw [if_pos c]
    exact ⟨0, rfl, Or.inl ⟨rfl, fun q => key.mpr q c⟩⟩
  · rw [if_neg c]
    exact ⟨1, rfl, Or.inr ⟨rfl, key.mp c⟩⟩
theorem zr_openL (B : zq_ans (zx_an S) M) (hM : M ≤ 16) (h5 : S.1 5 = nI M) {m : Nat} (hm : m < M) : ∀ (r fu t : Nat), t + r = M → r < fu → (∀ i, i < t → ¬ ((zq_th (zx_an S) m i = true ∨ i = m) ∧ S.2.1 6 (96 + i) = 0)) → ∃ o, zg_X10_isOpen_L2 S (nI m) fu (nI t) = some o ∧ ((o = .inl () ∧ ¬ zq_open S M m) ∨ (o = .inr () ∧ zq_open S M m)) := by
  intro r
  induction r with
  | zero =>
    intro fu t h1 h2 h3
    obtain ⟨fl, rfl⟩ : ∃ fl, fu = fl + 1 := ⟨fu - 1, by omega⟩
    unfold zg_X10_isOpen_L2
    rw [h5, if_pos (nI_le (by omega) (by omega))]
    refine ⟨_, rfl, Or.inl ⟨rfl, ?_⟩⟩
    rintro ⟨i, hi, q1, q2⟩
    exact h3 i (by omega) ⟨q1, q2⟩
  | succ r ih =>
    intro fu t h1 h2 h3
    obtain ⟨fl, rfl⟩ : ∃ fl, fu = fl + 1 := ⟨fu - 1, by omega⟩
    unfold zg_X10_isOpen_L2
    dsimp only
    rw [h5, if_neg (nI_ge (by omega) (by omega)), ← nI_succ, zr_of6 (by omega), zo_s, zr_isIn B hM hm (by omega), zo_s]
    have next : ¬ ((zq_th (zx_an S) m t = true ∨ t = m) ∧ S.2.1 6 (96 + t) = 0) → ∃ o, zg_X10_isOpen_L2 S (nI m) fl (nI (t + 1)) = some o ∧ ((o = .inl () ∧ ¬ zq_open S M m) ∨ (o = .inr () ∧ zq_open S M m)) := by
      intro q
      refine ih fl (t + 1) (by omega) (by omega) (fun i hi => ?_)
      by_cases c : i = t
      · rw [c]; exact q
      · exact h3 i (by omega)
    by_cases c : t = m
    · subst c
      rw [if_pos rfl]
      by_cases d : S.2.1 6 (96 + t) = 0
      · rw [if_pos d]
        exact ⟨_, rfl, Or.inr ⟨rfl, t, hm, Or.inr rfl, d⟩⟩
      · rw [if_neg d]
        exact next (fun q => d q.2)
    · rw [if_neg (fun q => c ((za_eq (by omega) (by omega)).mp q))]
      by_cases e : zq_th (zx_an S) m t = true
      · rw [if_pos e, if_neg (by decide)]
        by_cases d : S.2.1 6 (96 + t) = 0
        · rw [if_pos d]
          exact ⟨_, rfl, Or.inr ⟨rfl, t, by omega, Or.inl e, d⟩⟩
        · rw [if_neg d]
          exact next (fun q => d q.2)
      · rw [if_neg e, if_pos rfl]
        exact next (fun q => q.1.elim e c)
theorem zr_open (B : zq_ans (zx_an S) M) (hM : M ≤ 16) (h5 : S.1 5 = nI M) {m : Nat} (hm : m < M) : ∃ e : Int32, zg_X10_isOpen S (nI m) = some e ∧ ((e = 0 ∧ ¬ zq_open S M m) ∨ (e = 1 ∧ zq_open S M m)) := by
  obtain ⟨o, e1, e2⟩ := zr_openL B hM h5 hm M 2000 0 (by omega) (by omega) (fun i hi => absurd hi (Nat.not_lt_zero i))
  unfold zg_X10_isOpen
  rw [show (0 : Int32) = nI 0 by decide, e1, zo_s]
  rcases e2 with ⟨rfl, q⟩ | ⟨rfl, q⟩
  · exact ⟨0, rfl, Or.inl ⟨rfl, q⟩⟩
  · exact ⟨1, rfl, Or.inr ⟨rfl, q⟩⟩
theorem zx_open (A : zy_is z D w) (al : zk_al w (z + 4) (E 4) M g) (B : zx_doc z w f g N M F C L (S.2.1 6) rdy) (hb : zx_bits (D.1 2 2) M (S.2.1 6)) (h5 : S.1 5 = nI M) {m : Nat} (hm : m < M) : ∃ e : Int32, zf_X6_isOpen w (z + 2) (nI m) = some e ∧ zg_X10_isOpen S (nI m) = some e ∧ (e = 0 ∨ e = 1) := by
  obtain ⟨e, e1, e2⟩ := zs_open A al B hb hm
  obtain ⟨e', e3, e4⟩ := zr_open (zx_ans B) B.2.1 h5 hm
  rcases e2 with ⟨a, b⟩ | ⟨a, b⟩ <;> rcases e4 with ⟨c, d⟩ | ⟨c, d⟩
  · exact ⟨e, e1, by rw [e3, c, a], Or.inl a⟩
  · exact absurd d b
  · exact absurd b d
  · exact ⟨e, e1, by rw [e3, c, a], Or.inr a⟩
end ZT
