/-! settle, remarkOf, status -/
theorem zy_Ii {D : zy_D} {k f : Nat} {x : Int32} : (zy_I D k f x).1 k f = x := by
  unfold zy_I
  dsimp only
  rw [va_up_self, va_up_self]
theorem zx_R_set {z m : Nat} {w : zc_H} {D : zy_D} {S : zm_S} {N M : Nat} (R : zx_R z w D S N M) (hm : m < M) {x b : Int32} (hb : ∀ i, i < 32 → i ≠ m → zx_bt x i = zx_bt (D.1 2 2) i) (hm2 : b = if zx_bt x m = true then 1 else 0) : zx_R z (zy_h z (zy_I D 2 2 x) w) (zy_I D 2 2 x) (zx_SA S 6 (va_up (S.2.1 6) (96 + m) b)) N M := by
  have hM := (zx_R_16 R).2
  obtain ⟨c1, c2, c3, c4, c5, c6, c7, c8, c9, c10, c11⟩ := zx_R_ds R
  refine zx_R_ov R rfl (fun y hy => zy_o (Or.inr (by omega))) (fun k hk => zy_l hk) (zy_is_h _ _ _) ⟨R.1.1, R.1.2.1, R.1.2.2.1, R.1.2.2.2.1, R.1.2.2.2.2.1, R.1.2.2.2.2.2.1, R.1.2.2.2.2.2.2⟩ ⟨rfl, rfl, rfl, fun i hi => ?_, rfl, rfl, rfl, rfl⟩ rfl ⟨c1, c2, c3, c4, c5, c6, ?_, c8, c9, c10, fun s hs => ?_⟩ (fun N' M' h => h)
  · rw [zx_SAa, va_up_ne _ _ (by omega)]
  · rw [zy_Ii, zx_SAa]
    intro i
    constructor
    · intro hi
      by_cases c : i = m
      · subst c
        rw [va_up_self, hm2]
      · rw [va_up_ne _ _ (by omega), hb i (by omega) c]
        exact (c7 i).1 hi
    · intro hi
      by_cases c : i < 32
      · rw [hb i c (by omega)]
        exact (c7 i).2 hi
      · exact zb_big (by omega)
  · obtain ⟨d1, d2, d3⟩ := c11 s hs
    refine ⟨?_, ?_, d3⟩
    · show va_up D.1 2 _ (22 + 2 * s) 0 = _
      rw [va_up_ne _ _ (by omega)]
      exact d1
    · show va_up D.1 2 _ (22 + 2 * s) 1 = _
      rw [va_up_ne _ _ (by omega)]
      exact d2
theorem ze_settle {z : Nat} {w : zc_H} {D : zy_D} {S : zm_S} {N M : Nat} (R : zx_R z w D S N M) (x1 x2 : Int32) : zx_res z w (zf_X9_settle w z x1 x2) (zg_X10_settle S x1 x2) := by
  have A := zx_R_is R
  have hM := (zx_R_16 R).2
  have hb := (zx_R_ds R).2.2.2.2.2.2.1
  obtain ⟨-, E, f, g, f', g', fb, N', M', nb, -, ⟨-, -, -, -, al4, -⟩, doc, -⟩ := id R
  unfold zf_X9_settle
  dsimp only
  rw [if_neg (zy_is0 A), zy_r0_1 A, zo_s, zo_s]
  rcases zn_rng x1 (n := M) (by omega) with hx | ⟨m, hm, rfl⟩
  · rw [zs_remN A al4 hx, zo_s, if_pos rfl]
    unfold zg_X10_settle
    rw [zr_isRemN R.1.2.1 hM hx, zo_s, if_pos rfl]
    exact zx_no_res (c := 1) R (by decide) (by decide) (by decide) (by decide) rfl
  obtain ⟨s1, s2⟩ := zs_settled A hb hm hM
  rw [zs_rem A al4 hM hm (zx_rem_e doc hm), zo_s, if_neg (by simp), zo_s, zo_s, s1, zo_s]
  unfold zg_X10_settle
  dsimp only
  rw [zr_isRem R.1.2.1 hM hm, zo_s (1 : Int32), if_neg (show ¬ (1 : Int32) = 0 by decide), zr_of6 (by omega), zo_s (S.2.1 6 (96 + m)), show (96 : Int32) + nI m = nI (96 + m) from za_add 96 m]
  rcases s2 with q | q
  · rw [q, if_pos (show (0 : Int32) = 0 from rfl)]
    by_cases c : x2 = 0
    · rw [if_pos c, zo_s, if_pos c, zo_s, zo_s, zy_g2_2 A, zo_s, zo_s, zy_p2_2 A, zo_s, zx_si (by omega) (by decide), zo_s]
      refine zx_res_i rfl rfl (zx_R_set R hm (fun i hi hne => ?_) ?_)
      · rw [zb_and, zb_not (by omega) hi, decide_eq_false hne, Bool.not_false, Bool.and_true]
      · rw [zb_and, zb_not (by omega) (by omega), decide_eq_true rfl, Bool.not_true, Bool.and_false, if_neg (by decide)]
    · rw [if_neg c, zo_s, if_neg c, zo_s, zo_s, zy_g2_2 A, zo_s, zo_s, zy_p2_2 A, zo_s, zx_si (by omega) (by decide), zo_s]
      refine zx_res_i rfl rfl (zx_R_set R hm (fun i hi hne => ?_) ?_)
      · rw [zb_or, zb_one (by omega), decide_eq_false hne, Bool.or_false]
      · rw [zb_or, zb_one (by omega), decide_eq_true rfl, Bool.or_true, if_pos rfl]
  · rw [q, if_neg (show ¬ (1 : Int32) = 0 by decide)]
    by_cases c : x2 = 0
    · rw [if_pos c, zo_s, if_pos c, zo_s, zo_s, zy_g2_2 A, zo_s, zo_s, zy_p2_2 A, zo_s, zx_si (by omega) (by decide), zo_s]
      refine zx_res_i rfl rfl (zx_R_set R hm (fun i hi hne => ?_) ?_)
      · rw [zb_and, zb_not (by omega) hi, decide_eq_false hne, Bool.not_false, Bool.and_true]
      · rw [zb_and, zb_not (by omega) (by omega), decide_eq_true rfl, Bool.not_true, Bool.and_false, if_neg (by decide)]
    · rw [if_neg c, zo_s, if_neg c, zo_s, zo_s, zy_g2_2 A, zo_s, zo_s, zy_p2_2 A, zo_s, zx_si (by omega) (by decide), zo_s]
      refine zx_res_i rfl rfl (zx_R_set R hm (fun i hi hne => ?_) ?_)
      · rw [zb_or, zb_one (by omega), decide_eq_false hne, Bool.or_false]
      · rw [zb_or, zb_one (by omega), decide_eq_true rfl, Bool.or_true, if_pos rfl]
theorem ze_remarkOf {z : Nat} {w : zc_H} {D : zy_D} {S : zm_S} {N M : Nat} (R : zx_R z w D S N M) (x1 x2 : Int32) : zx_res z w (zf_X9_remarkOf w z x1 x2) (zg_X10_remarkOf S x1 x2) := by
  have A := zx_R_is R
  have hM := (zx_R_16 R).2
  have hb := (zx_R_ds R).2.2.2.2.2.2.1
  have h5 := R.1.2.1
  have n1 : ¬ (1 : Int32) = 0 := by decide
  obtain ⟨-, E, f, g, f', g', fb, N', M', nb, -, ⟨-, -, -, -, al4, -⟩, doc, -⟩ := id R
  unfold zf_X9_remarkOf
  dsimp only
  rw [if_neg (zy_is0 A), zy_r0_1 A, zo_s, zo_s]
  rcases zn_rng x1 (n := M) (by omega) with hx | ⟨m, hm, rfl⟩
  · rw [zs_remN A al4 hx, zo_s, if_pos rfl]
    unfold zg_X10_remarkOf
    rw [zr_isRemN R.1.2.1 hM hx, zo_s, if_pos rfl]
    exact zx_no_res (c := 5) R (by decide) (by decide) (by decide) (by decide) rfl
  rw [zs_rem A al4 hM hm (zx_rem_e doc hm), zo_s, if_neg (by simp)]
  unfold zg_X10_remarkOf
  rw [zr_isRem h5 hM hm, zo_s (1 : Int32), if_neg n1]
  rcases zn_rng x2 (n := 10) (by decide) with hx | ⟨k, hk, rfl⟩
  · have e : ∀ X Y : Option (zc_H × Int32), (if x2 < 0 then X else if x2 ≤ 9 then Y else X) = X := by
      intro X Y
      by_cases c : x2 < 0
      · rw [if_pos c]
      · obtain ⟨j, hj, rfl⟩ := nI_of c
        have := (za_le (by decide) hj).mp (hx.resolve_left c)
        rw [if_neg c, if_neg (show ¬ nI j ≤ 9 from nI_ge (show 9 < j by omega) hj)]
    have ne : ∀ j, j < 10 → ¬ x2 = nI j := by
      rintro j hj rfl
      rcases hx with q | q
      · exact nI_pos (by omega) q
      · exact nI_ge hj (by decide) q
    have out : x2 < 0 ∨ nI 7 ≤ x2 := by
      rcases hx with q | q
      · exact Or.inl q
      · exact Or.inr (Int32.le_trans (by decide) q)
    rw [e, zg_wn S (n := 6) (y := 6) rfl out (by decide), zo_s, if_pos rfl, if_neg (show ¬ x2 = 7 from ne 7 (by decide)), if_neg (show ¬ x2 = 8 from ne 8 (by decide)), if_neg (show ¬ x2 = 9 from ne 9 (by decide))]
    exact zx_no_res (c := 5) R (by decide) (by decide) (by decide) (by decide) rfl
  rw [if_neg (nI_pos (by omega)), if_pos (show nI k ≤ 9 from nI_le (show k ≤ 9 by omega) (by decide))]
  have fin : ∀ v : Int32, zx_res z w (some (w, v)) (some (S, v)) := fun v => ⟨w, S, v, D, N, M, rfl, rfl, R, zx_blk_refl z w⟩
  obtain ⟨-, -, kind, a, r, p1, q1, an, c1, c2, c3, c4, c5, c6, c7, c8, c9, c10, c11, c12, c13⟩ := doc.2.2.2 m hm
  have hq24 : q1 < 24 := Nat.lt_of_lt_of_le c5 (zx_n24 _ _)
  have ro : ∀ j, j < 7 → zg_X10_of S (nI j) (nI m) = some (S.2.1 6 (16 * j + m)) := fun j hj => zr_of hj (by omega) _ rfl
  have hk10 : k = 0 ∨ k = 1 ∨ k = 2 ∨ k = 3 ∨ k = 4 ∨ k = 5 ∨ k = 6 ∨ k = 7 ∨ k = 8 ∨ k = 9 := by omega
  have w6 : ∀ k, k < 7 → zg_X10_within S (nI k) 0 6 = some 1 := fun k hk => zg_wy S (n := 6) (y := 6) rfl (by omega) (by decide)
  have w7 : ∀ k, 7 ≤ k → k < 10 → zg_X10_within S (nI k) 0 6 = some 0 := fun k hk hk2 => zg_wn S (n := 6) (y := 6) rfl (Or.inr (nI_le hk (by omega))) (by decide)
  rcases hk10 with rfl | rfl | rfl | rfl | rfl | rfl | rfl | rfl | rfl | rfl
  · rw [if_pos (show nI 0 = 0 by decide), zo_s, zb_gi c13 rfl, zo_s, w6 0 (by decide), zo_s, if_neg n1, ro 0 (by decide), zo_s, show 16 * 0 + m = m by omega, c6]
    exact fin _
  · rw [if_neg (show ¬ nI 1 = 0 by decide), if_pos (show nI 1 = 1 by decide), zo_s, zb_gi c13 rfl, zo_s, w6 1 (by decide), zo_s, if_neg n1, ro 1 (by decide), zo_s, c7]
    exact fin _
  · have rv : zf_gi w (f r) 4 0 = some (nI r) := zx_num doc c3
    rw [if_neg (show ¬ nI 2 = 0 by decide), if_neg (show ¬ nI 2 = 1 by decide), if_pos (show nI 2 = 2 by decide), zo_s, zb_gr (x := some (f r)) c13 rfl, zo_s, zo_s, rv, zo_s, w6 2 (by decide), zo_s, if_neg n1, ro 2 (by decide), zo_s, c8]
    exact fin _
  · rw [if_neg (show ¬ nI 3 = 0 by decide), if_neg (show ¬ nI 3 = 1 by decide), if_neg (show ¬ nI 3 = 2 by decide), if_pos (show nI 3 = 3 by decide), zo_s, zb_gi c13 rfl, zo_s, zs_first (by omega) (by omega), zo_s, w6 3 (by decide), zo_s, if_neg n1, ro 3 (by decide), zo_s, c9]
    exact fin _
  · rw [if_neg (show ¬ nI 4 = 0 by decide), if_neg (show ¬ nI 4 = 1 by decide), if_neg (show ¬ nI 4 = 2 by decide), if_neg (show ¬ nI 4 = 3 by decide), if_pos (show nI 4 = 4 by decide), zo_s, zb_gi c13 rfl, zo_s, zs_last (by omega) (by omega), zo_s, w6 4 (by decide), zo_s, if_neg n1, ro 4 (by decide), zo_s, c10]
    exact fin _
  · rw [if_neg (show ¬ nI 5 = 0 by decide), if_neg (show ¬ nI 5 = 1 by decide), if_neg (show ¬ nI 5 = 2 by decide), if_neg (show ¬ nI 5 = 3 by decide), if_neg (show ¬ nI 5 = 4 by decide), if_pos (show nI 5 = 5 by decide), zo_s, zb_gi c13 rfl, zo_s, w6 5 (by decide), zo_s, if_neg n1, ro 5 (by decide), zo_s, c11]
    exact fin _
  · obtain ⟨s1, s2⟩ := zs_settled A hb hm hM
    have e : ∀ X : Int32 → Option (zc_H × Int32), (if S.2.1 6 (96 + m) = 0 then X 0 else X 1) = X (S.2.1 6 (96 + m)) := by
      intro X
      rcases s2 with q | q
      · rw [q, if_pos rfl]
      · rw [q, if_neg (by decide)]
    rw [if_neg (show ¬ nI 6 = 0 by decide), if_neg (show ¬ nI 6 = 1 by decide), if_neg (show ¬ nI 6 = 2 by decide), if_neg (show ¬ nI 6 = 3 by decide), if_neg (show ¬ nI 6 = 4 by decide), if_neg (show ¬ nI 6 = 5 by decide), if_pos (show nI 6 = 6 by decide), zo_s, zo_s, s1, zo_s, e (fun x => some (w, x)), w6 6 (by decide), zo_s, if_neg n1, ro 6 (by decide), zo_s]
    exact fin _
  · obtain ⟨e, e1, e2⟩ := zx_depth A al4 doc hm
    rw [if_neg (show ¬ nI 7 = 0 by decide), if_neg (show ¬ nI 7 = 1 by decide), if_neg (show ¬ nI 7 = 2 by decide), if_neg (show ¬ nI 7 = 3 by decide), if_neg (show ¬ nI 7 = 4 by decide), if_neg (show ¬ nI 7 = 5 by decide), if_neg (show ¬ nI 7 = 6 by decide), if_pos (show nI 7 = 7 by decide), zo_s, zo_s, e1, zo_s, w7 7 (by decide) (by decide), zo_s, if_pos rfl, if_pos (show nI 7 = 7 by decide), e2, zo_s]
    exact fin _
  · obtain ⟨y, e1, e2⟩ := zs_thread A al4 doc hm
    have hc : zq_cnt (zx_bt y) 16 = zq_cnt (zq_th (zx_an S) m) M := by
      rw [zq_cnt_more (k := M) (n := 16) hM (fun i hi => by rw [e2, decide_eq_false (by omega), Bool.false_and])]
      exact zq_cnt_c M (fun i hi => by rw [e2, decide_eq_true hi, Bool.true_and])
    rw [if_neg (show ¬ nI 8 = 0 by decide), if_neg (show ¬ nI 8 = 1 by decide), if_neg (show ¬ nI 8 = 2 by decide), if_neg (show ¬ nI 8 = 3 by decide), if_neg (show ¬ nI 8 = 4 by decide), if_neg (show ¬ nI 8 = 5 by decide), if_neg (show ¬ nI 8 = 6 by decide), if_neg (show ¬ nI 8 = 7 by decide), if_pos (show nI 8 = 8 by decide), zo_s, zo_s, e1, zo_s, zx_count (fun i hi => by rw [e2, decide_eq_false (by omega), Bool.false_and]), zo_s, hc, w7 8 (by decide) (by decide), zo_s, if_pos rfl, if_neg (show ¬ nI 8 = 7 by decide), if_pos (show nI 8 = 8 by decide), zr_thread (zx_ans doc) hM h5 hm, zo_s]
    exact fin _
  · obtain ⟨e, e1, e2, e3⟩ := zx_open A al4 doc hb h5 hm
    rw [if_neg (show ¬ nI 9 = 0 by decide), if_neg (show ¬ nI 9 = 1 by decide), if_neg (show ¬ nI 9 = 2 by decide), if_neg (show ¬ nI 9 = 3 by decide), if_neg (show ¬ nI 9 = 4 by decide), if_neg (show ¬ nI 9 = 5 by decide), if_neg (show ¬ nI 9 = 6 by decide), if_neg (show ¬ nI 9 = 7 by decide), if_neg (show ¬ nI 9 = 8 by decide), zo_s, zo_s, e1, zo_s, w7 9 (by decide) (by decide), zo_s, if_pos rfl, if_neg (show ¬ nI 9 = 7 by decide), if_neg (show ¬ nI 9 = 8 by decide), if_pos (show nI 9 = 9 by decide), e2, zo_s]
    rcases e3 with rfl | rfl
    · rw [if_pos rfl, if_pos rfl]
      exact fin _
    · rw [if_neg n1, if_neg n1]
      exact fin _
section ZU
variable {z : Nat} {w : zc_H} {D : zy_D} {S : zm_S} {E f g : Nat → Nat} {N M : Nat} {F C : Nat → Int32} {L : Nat → Int64} {rdy : Nat → Int32 → Prop}
theorem zx_rootsL (A : zy_is z D w) (al : zk_al w (z + 4) (E 4) M g) (B : zx_doc z w f g N M F C L (S.2.1 6) rdy) (hb : zx_bits (D.1 2 2) M (S.2.1 6)) (h5 : S.1 5 = nI M) : ∀ (r fu fv t : Nat) (x : Int32), t + r = M → r < fu → r < fv → ∃ e, zf_X6_openRoots_L4 w (z + 2) fu x (nI t) = some e ∧ zg_X10_openOnes_L4 S fv x (nI t) = some e := by
  have hM := B.2.1
  intro r
  induction r with
  | zero =>
    intro fu fv t x h1 h2 h3
    obtain ⟨fl, rfl⟩ : ∃ fl, fu = fl + 1 := ⟨fu - 1, by omega⟩
    obtain ⟨fm, rfl⟩ : ∃ fm, fv = fm + 1 := ⟨fv - 1, by omega⟩
    unfold zf_X6_openRoots_L4 zg_X10_openOnes_L4
    rw [zy_r2_1 A, zo_s, zo_s, zk_al_size al, zo_s, h5, if_pos (nI_le (by omega) (by omega)), if_pos (nI_le (by omega) (by omega))]
    exact ⟨_, rfl, rfl⟩
  | succ r ih =>
    intro fu fv t x h1 h2 h3
    obtain ⟨fl, rfl⟩ : ∃ fl, fu = fl + 1 := ⟨fu - 1, by omega⟩
    obtain ⟨fm, rfl⟩ : ∃ fm, fv = fm + 1 := ⟨fv - 1, by omega⟩
    have ht : t < M := by omega
    unfold zf_X6_openRoots_L4 zg_X10_openOnes_L4
    dsimp only
    rw [zy_r2_1 A, zo_s, zo_s, zk_al_size al, zo_s, h5, if_neg (nI_ge ht (by omega)), if_neg (nI_ge ht (by omega)), zo_s, zo_s, zk_al_get al ht, zo_s, if_neg (show ¬ ¬ zf_cc w (some (g t)) 3 = true from not_not_intro (zx_rem_e B ht)), zo_s, zx_ga B ht, zo_s, zr_of5 (by omega), zo_s, ← nI_succ]
    have next := fun y => ih fl fm (t + 1) y (by omega) (by omega) (by omega)
    by_cases c : zx_an S t = -1
    · obtain ⟨e, e1, e2, e3⟩ := zx_open A al B hb h5 ht
      rw [if_pos c, if_pos c, e1, zo_s, e2, zo_s]
      rcases e3 with rfl | rfl
      · rw [if_pos rfl, if_pos rfl]
        exact next _
      · rw [if_neg (by decide), if_neg (by decide)]
        exact next _
    · rw [if_neg c, if_neg c]
      exact next _
theorem zr_setL (hb : zx_bits (D.1 2 2) M (S.2.1 6)) (hM : M ≤ 16) (h5 : S.1 5 = nI M) : ∀ (r fu t : Nat), t + r = M → r < fu → zg_X10_settled_L4 S fu (nI (zq_cnt (zx_bt (D.1 2 2)) t)) (nI t) = some (nI (zq_cnt (zx_bt (D.1 2 2)) M)) := by
  intro r
  induction r with
  | zero =>
    intro fu t h1 h2
    obtain ⟨fl, rfl⟩ : ∃ fl, fu = fl + 1 := ⟨fu - 1, by omega⟩
    have e : t = M := by omega
    subst e
    unfold zg_X10_settled_L4
    rw [h5, if_pos (nI_le (Nat.le_refl _) (by omega))]
  | succ r ih =>
    intro fu t h1 h2
    obtain ⟨fl, rfl⟩ : ∃ fl, fu = fl + 1 := ⟨fu - 1, by omega⟩
    have ih2 := ih fl (t + 1) (by omega) (by omega)
    rw [show zq_cnt (zx_bt (D.1 2 2)) (t + 1) = zq_cnt (zx_bt (D.1 2 2)) t + (if zx_bt (D.1 2 2) t = true then 1 else 0) from rfl] at ih2
    unfold zg_X10_settled_L4
    rw [h5, if_neg (nI_ge (by omega) (by omega)), zr_of6 (by omega), zo_s, (hb t).1 (by omega), ← nI_succ t]
    by_cases c : zx_bt (D.1 2 2) t = true
    · rw [if_pos c] at ih2 ⊢
      rw [← nI_succ]
      exact ih2
    · rw [if_neg c] at ih2 ⊢
      rw [Int32.add_zero]
      exact ih2
end ZU
theorem ze_status {z : Nat} {w : zc_H} {D : zy_D} {S : zm_S} {N M : Nat} (R : zx_R z w D S N M) (x1 : Int32) : ∃ a, zf_X9_status w z x1 = some a ∧ zg_X10_status S x1 = some a := by
  have A := zx_R_is R
  have hz := (zx_R_z R).1
  obtain ⟨hN, hM⟩ := zx_R_16 R
  obtain ⟨c1, c2, c3, c4, c5, c6, c7, c8, c9, c10, c11⟩ := zx_R_ds R
  have h0 := R.1.1
  have h5 := R.1.2.1
  have n1 : ¬ (1 : Int32) = 0 := by decide
  obtain ⟨-, E, f, g, f', g', fb, N', M', nb, -, ⟨-, -, -, al3, al4, -⟩, doc, -⟩ := id R
  unfold zf_X9_status zg_X10_status
  rw [if_neg (zy_is0 A)]
  have small : ∀ k, k < 11 → zg_X10_within S (nI k) 11 17 = some 0 := by
    intro k hk
    unfold zg_X10_within
    rw [if_pos (show nI k < 11 from nI_lt hk (by decide))]
  by_cases c : x1 < 0
  · have ne : ∀ j, j < 10 → ¬ x1 = nI j := by
      rintro j hj rfl
      exact nI_pos (by omega) c
    have e : zg_X10_within S x1 11 17 = some 0 := by
      unfold zg_X10_within
      rw [if_pos (Int32.lt_trans c (by decide))]
    rw [if_neg (show ¬ x1 = 0 from ne 0 (by decide)), if_neg (show ¬ x1 = 1 from ne 1 (by decide)), if_neg (show ¬ x1 = 2 from ne 2 (by decide)), if_neg (show ¬ x1 = 3 from ne 3 (by decide)), if_neg (show ¬ x1 = 4 from ne 4 (by decide)), if_neg (show ¬ x1 = 5 from ne 5 (by decide)), if_neg (show ¬ x1 = 6 from ne 6 (by decide)), if_neg (show ¬ x1 = 7 from ne 7 (by decide)), if_neg (show ¬ x1 = 8 from ne 8 (by decide)), if_neg (show ¬ x1 = 9 from ne 9 (by decide)), if_pos (show x1 ≤ 10 from Int32.le_of_lt (Int32.lt_trans c (by decide))), e, zo_s, if_pos rfl, if_neg (show ¬ x1 = 0 from ne 0 (by decide)), if_neg (show ¬ x1 = 1 from ne 1 (by decide)), if_neg (show ¬ x1 = 2 from ne 2 (by decide)), if_neg (show ¬ x1 = 3 from ne 3 (by decide)), if_neg (show ¬ x1 = 4 from ne 4 (by decide)), if_neg (show ¬ x1 = 5 from ne 5 (by decide)), if_neg (show ¬ x1 = 6 from ne 6 (by decide)), if_neg (show ¬ x1 = 7 from ne 7 (by decide)), if_neg (show ¬ x1 = 8 from ne 8 (by decide)), if_neg (show ¬ x1 = 9 from ne 9 (by decide))]
    exact ⟨_, rfl, rfl⟩
  obtain ⟨k, hk, rfl⟩ := nI_of c
  by_cases c10 : 10 ≤ k
  · have ne : ∀ j, j < 10 → ¬ nI k = nI j := fun j hj q => by have := (za_eq hk (by omega)).mp q; omega
    rw [if_neg (show ¬ nI k = 0 from ne 0 (by decide)), if_neg (show ¬ nI k = 1 from ne 1 (by decide)), if_neg (show ¬ nI k = 2 from ne 2 (by decide)), if_neg (show ¬ nI k = 3 from ne 3 (by decide)), if_neg (show ¬ nI k = 4 from ne 4 (by decide)), if_neg (show ¬ nI k = 5 from ne 5 (by decide)), if_neg (show ¬ nI k = 6 from ne 6 (by decide)), if_neg (show ¬ nI k = 7 from ne 7 (by decide)), if_neg (show ¬ nI k = 8 from ne 8 (by decide)), if_neg (show ¬ nI k = 9 from ne 9 (by decide))]
    by_cases d : k = 10
    · subst d
      rw [if_pos (by decide), small 10 (by decide), zo_s, if_pos rfl, if_neg (show ¬ nI 10 = 0 from ne 0 (by decide)), if_neg (show ¬ nI 10 = 1 from ne 1 (by decide)), if_neg (show ¬ nI 10 = 2 from ne 2 (by decide)), if_neg (show ¬ nI 10 = 3 from ne 3 (by decide)), if_neg (show ¬ nI 10 = 4 from ne 4 (by decide)), if_neg (show ¬ nI 10 = 5 from ne 5 (by decide)), if_neg (show ¬ nI 10 = 6 from ne 6 (by decide)), if_neg (show ¬ nI 10 = 7 from ne 7 (by decide)), if_neg (show ¬ nI 10 = 8 from ne 8 (by decide)), if_neg (show ¬ nI 10 = 9 from ne 9 (by decide))]
      exact ⟨_, rfl, rfl⟩
    rw [if_neg (show ¬ nI k ≤ 10 from nI_ge (show 10 < k by omega) hk)]
    by_cases d2 : 18 ≤ k
    · have e : zg_X10_within S (nI k) 11 17 = some 0 := by
        unfold zg_X10_within
        rw [if_neg (show ¬ nI k < 11 from nI_nlt (show 11 ≤ k by omega) hk), if_pos (show 17 < nI k from nI_lt (show 17 < k by omega) hk)]
      rw [if_pos (show 18 ≤ nI k from nI_le d2 hk), e, zo_s, if_pos rfl, if_neg (show ¬ nI k = 0 from ne 0 (by decide)), if_neg (show ¬ nI k = 1 from ne 1 (by decide)), if_neg (show ¬ nI k = 2 from ne 2 (by decide)), if_neg (show ¬ nI k = 3 from ne 3 (by decide)), if_neg (show ¬ nI k = 4 from ne 4 (by decide)), if_neg (show ¬ nI k = 5 from ne 5 (by decide)), if_neg (show ¬ nI k = 6 from ne 6 (by decide)), if_neg (show ¬ nI k = 7 from ne 7 (by decide)), if_neg (show ¬ nI k = 8 from ne 8 (by decide)), if_neg (show ¬ nI k = 9 from ne 9 (by decide))]
      exact ⟨_, rfl, rfl⟩
    · have e : zg_X10_within S (nI k) 11 17 = some 1 := by
        unfold zg_X10_within
        rw [if_neg (show ¬ nI k < 11 from nI_nlt (show 11 ≤ k by omega) hk), if_neg (show ¬ 17 < nI k from nI_nlt (show k ≤ 17 by omega) (by decide))]
      rw [if_neg (show ¬ 18 ≤ nI k from nI_ge (show k < 18 by omega) (by decide)), e, zo_s, if_neg n1, zy_r0_4 A, zo_s, zo_s, show nI k - 10 = nI (k - 10) from za_sub c10, zy_a8 A (by omega), zo_s, za_ai (by omega) (by decide), zo_s, c8 _ (by omega)]
      exact ⟨_, rfl, rfl⟩
  rw [small k (by omega), zo_s, if_pos rfl]
  have hk10 : k = 0 ∨ k = 1 ∨ k = 2 ∨ k = 3 ∨ k = 4 ∨ k = 5 ∨ k = 6 ∨ k = 7 ∨ k = 8 ∨ k = 9 := by omega
  have a7 : ∀ i, i < 3 → ∀ x : Int32, x = nI i → zg_ai 3 (S.2.1 7) x = some (S.2.1 7 i) := by
    rintro i hi x rfl
    exact za_ai hi (by decide)
  rcases hk10 with rfl | rfl | rfl | rfl | rfl | rfl | rfl | rfl | rfl | rfl
  · rw [if_pos (show nI 0 = 0 by decide), zy_r0_1 A, zo_s, zo_s, zy_r2_0 A, zo_s, zo_s, zk_al_size al3, zo_s, if_pos (show nI 0 = 0 by decide), h0]
    exact ⟨_, rfl, rfl⟩
  · rw [if_neg (show ¬ nI 1 = 0 by decide), if_pos (show nI 1 = 1 by decide), zy_r0_1 A, zo_s, zo_s, zy_r2_1 A, zo_s, zo_s, zk_al_size al4, zo_s, if_neg (show ¬ nI 1 = 0 by decide), if_pos (show nI 1 = 1 by decide), h5]
    exact ⟨_, rfl, rfl⟩
  · have e := zr_setL c7 hM h5 M 2000 0 (by omega) (by omega)
    rw [if_neg (show ¬ nI 2 = 0 by decide), if_neg (show ¬ nI 2 = 1 by decide), if_pos (show nI 2 = 2 by decide), zy_r0_1 A, zo_s, zo_s, zy_g2_2 A, zo_s, zx_count (fun i hi => (c7 i).2 (by omega)), zo_s, zq_cnt_more (k := M) (n := 16) hM (fun i hi => (c7 i).2 hi), if_neg (show ¬ nI 2 = 0 by decide), if_neg (show ¬ nI 2 = 1 by decide), if_pos (show nI 2 = 2 by decide)]
    unfold zg_X10_settled
    rw [show zg_X10_settled_L4 S 2000 0 0 = _ from e, zo_s, zo_s]
    exact ⟨_, rfl, rfl⟩
  · obtain ⟨e, e1, e2⟩ := zx_rootsL A al4 doc c7 h5 M 2000 2000 0 0 (by omega) (by omega) (by omega)
    rw [if_neg (show ¬ nI 3 = 0 by decide), if_neg (show ¬ nI 3 = 1 by decide), if_neg (show ¬ nI 3 = 2 by decide), if_pos (show nI 3 = 3 by decide), zy_r0_1 A, zo_s, zo_s, if_neg (show ¬ nI 3 = 0 by decide), if_neg (show ¬ nI 3 = 1 by decide), if_neg (show ¬ nI 3 = 2 by decide), if_pos (show nI 3 = 3 by decide)]
    unfold zg_X10_openOnes zf_X6_openRoots
    rw [if_neg (zy_is2 A), show zf_X6_openRoots_L4 w (z + 2) 2000 0 0 = _ from e1, show zg_X10_openOnes_L4 S 2000 0 0 = _ from e2, zo_s, zo_s]
    exact ⟨_, rfl, rfl⟩
  · rw [if_neg (show ¬ nI 4 = 0 by decide), if_neg (show ¬ nI 4 = 1 by decide), if_neg (show ¬ nI 4 = 2 by decide), if_neg (show ¬ nI 4 = 3 by decide), if_pos (show nI 4 = 4 by decide), zy_r0_1 A, zo_s, zo_s, if_neg (show ¬ nI 4 = 0 by decide), if_neg (show ¬ nI 4 = 1 by decide), if_neg (show ¬ nI 4 = 2 by decide), if_neg (show ¬ nI 4 = 3 by decide), if_pos (show nI 4 = 4 by decide), a7 0 (by decide) 0 rfl, zo_s]
    unfold zf_X6_ruleOf
    rw [if_neg (zy_is2 A), if_pos (by decide), zy_g2_3 A, zo_s, zo_s, c3]
    exact ⟨_, rfl, rfl⟩
  · rw [if_neg (show ¬ nI 5 = 0 by decide), if_neg (show ¬ nI 5 = 1 by decide), if_neg (show ¬ nI 5 = 2 by decide), if_neg (show ¬ nI 5 = 3 by decide), if_neg (show ¬ nI 5 = 4 by decide), if_pos (show nI 5 = 5 by decide), zy_r0_1 A, zo_s, zo_s, if_neg (show ¬ nI 5 = 0 by decide), if_neg (show ¬ nI 5 = 1 by decide), if_neg (show ¬ nI 5 = 2 by decide), if_neg (show ¬ nI 5 = 3 by decide), if_neg (show ¬ nI 5 = 4 by decide), if_pos (show nI 5 = 5 by decide), a7 1 (by decide) 1 rfl, zo_s]
    unfold zf_X6_ruleOf
    rw [if_neg (zy_is2 A), if_neg (by decide), if_pos (by decide), zy_g2_4 A, zo_s, zo_s, c4]
    exact ⟨_, rfl, rfl⟩
  · rw [if_neg (show ¬ nI 6 = 0 by decide), if_neg (show ¬ nI 6 = 1 by decide), if_neg (show ¬ nI 6 = 2 by decide), if_neg (show ¬ nI 6 = 3 by decide), if_neg (show ¬ nI 6 = 4 by decide), if_neg (show ¬ nI 6 = 5 by decide), if_pos (show nI 6 = 6 by decide), zy_r0_1 A, zo_s, zo_s, if_neg (show ¬ nI 6 = 0 by decide), if_neg (show ¬ nI 6 = 1 by decide), if_neg (show ¬ nI 6 = 2 by decide), if_neg (show ¬ nI 6 = 3 by decide), if_neg (show ¬ nI 6 = 4 by decide), if_neg (show ¬ nI 6 = 5 by decide), if_pos (show nI 6 = 6 by decide), a7 2 (by decide) 2 rfl, zo_s]
    unfold zf_X6_ruleOf
    rw [if_neg (zy_is2 A), if_neg (by decide), if_neg (by decide), zy_g2_5 A, zo_s, zo_s, c5]
    exact ⟨_, rfl, rfl⟩
  · rw [if_neg (show ¬ nI 7 = 0 by decide), if_neg (show ¬ nI 7 = 1 by decide), if_neg (show ¬ nI 7 = 2 by decide), if_neg (show ¬ nI 7 = 3 by decide), if_neg (show ¬ nI 7 = 4 by decide), if_neg (show ¬ nI 7 = 5 by decide), if_neg (show ¬ nI 7 = 6 by decide), if_pos (show nI 7 = 7 by decide), zy_r0_1 A, zo_s, zo_s, zy_g2_6 A, zo_s, if_neg (show ¬ nI 7 = 0 by decide), if_neg (show ¬ nI 7 = 1 by decide), if_neg (show ¬ nI 7 = 2 by decide), if_neg (show ¬ nI 7 = 3 by decide), if_neg (show ¬ nI 7 = 4 by decide), if_neg (show ¬ nI 7 = 5 by decide), if_neg (show ¬ nI 7 = 6 by decide), if_pos (show nI 7 = 7 by decide), c6]
    exact ⟨_, rfl, rfl⟩
  · rw [if_neg (show ¬ nI 8 = 0 by decide), if_neg (show ¬ nI 8 = 1 by decide), if_neg (show ¬ nI 8 = 2 by decide), if_neg (show ¬ nI 8 = 3 by decide), if_neg (show ¬ nI 8 = 4 by decide), if_neg (show ¬ nI 8 = 5 by decide), if_neg (show ¬ nI 8 = 6 by decide), if_neg (show ¬ nI 8 = 7 by decide), if_pos (show nI 8 = 8 by decide), zy_r0_1 A, zo_s, zo_s, if_neg (show ¬ nI 8 = 0 by decide), if_neg (show ¬ nI 8 = 1 by decide), if_neg (show ¬ nI 8 = 2 by decide), if_neg (show ¬ nI 8 = 3 by decide), if_neg (show ¬ nI 8 = 4 by decide), if_neg (show ¬ nI 8 = 5 by decide), if_neg (show ¬ nI 8 = 6 by decide), if_neg (show ¬ nI 8 = 7 by decide), if_pos (show nI 8 = 8 by decide), h0]
    unfold zf_X6_latestCount
    rw [if_neg (zy_is2 A), zy_r2_0 A, zo_s, zo_s, zk_al_size al3, zo_s]
    by_cases d : N = 0
    · subst d
      rw [show nI 0 - 1 = -1 by decide, zs_revN A al3 (Or.inl (by decide)), zo_s, if_pos (show (none : Option Nat) = none from rfl), zo_s, if_pos (show nI 0 = 0 by decide)]
      exact ⟨_, rfl, rfl⟩
    · rw [show nI N - 1 = nI (N - 1) from za_sub (show 1 ≤ N by omega), zs_rev A al3 hN (show N - 1 < N by omega) (zx_rev_is doc (by omega)), zo_s, if_neg (show ¬ some (f (N - 1)) = none by simp), zo_s, zk_count (zx_rv doc hz (by omega)), zo_s, zo_s, if_neg (show ¬ nI N = 0 from nI_ne0 (by omega) (by omega)), za_ai (by omega) (by decide), zo_s, (zx_C doc (show N - 1 < N by omega)).1]
      exact ⟨_, rfl, rfl⟩
  · rw [if_neg (show ¬ nI 9 = 0 by decide), if_neg (show ¬ nI 9 = 1 by decide), if_neg (show ¬ nI 9 = 2 by decide), if_neg (show ¬ nI 9 = 3 by decide), if_neg (show ¬ nI 9 = 4 by decide), if_neg (show ¬ nI 9 = 5 by decide), if_neg (show ¬ nI 9 = 6 by decide), if_neg (show ¬ nI 9 = 7 by decide), if_neg (show ¬ nI 9 = 8 by decide), if_pos (show nI 9 = 9 by decide), zy_r0_10 A, zo_s, zo_s, zy_g20_1 A, zo_s, if_neg (show ¬ nI 9 = 0 by decide), if_neg (show ¬ nI 9 = 1 by decide), if_neg (show ¬ nI 9 = 2 by decide), if_neg (show ¬ nI 9 = 3 by decide), if_neg (show ¬ nI 9 = 4 by decide), if_neg (show ¬ nI 9 = 5 by decide), if_neg (show ¬ nI 9 = 6 by decide), if_neg (show ¬ nI 9 = 7 by decide), if_neg (show ¬ nI 9 = 8 by decide), if_pos (show nI 9 = 9 by decide), c9]
    exact ⟨_, rfl, rfl⟩
