/-! score, leastNeed, fitting -/
section ZV
variable {z : Nat} {w : zc_H} {D : zy_D} {S : zm_S} {N M : Nat}
/-- the class's context, by the reference's lines -/
theorem zx_ctx_sc {z : Nat} {w w2 : zc_H} {S : zm_S} {f g : Nat → Nat} {N M : Nat} {rdy : Nat → Int32 → Prop} (B : zx_d1 z w f g N M S rdy) (kp : zx_kp z w w2) {v : Nat → Int32} {x : Nat → Int64} {T : zq_T} (hT : T.2.2.1 < N) (hc : zk_ctx (fun r => zx_l w (f r)) (zx_n (S.2.1 2)) v x T) {t : Nat} (ht : t < N) : (fun s => zq_scs x (fun k => zq_at (zx_l w2 (f t)) (zx_n (S.2.1 2) t) (s + k)) (T.2.2.2.2 + 1 - T.2.2.2.1) (T.2.2.2.2 + 1 - T.2.2.2.1 + 2)) = zq_sc (zr_ln S T.2.2.1) (zx_n (S.2.1 2) T.2.2.1) (zr_ln S t) (zx_n (S.2.1 2) t) T.2.2.2.1 (T.2.2.2.2 + 1 - T.2.2.2.1) := by
  have B : zx_doc z w f g N M (S.2.1 1) (S.2.1 2) (S.2.2 3) (S.2.1 6) rdy := B
  obtain ⟨o, rf, fo, c1, c2, -⟩ := B.2.2.1 t ht
  have lt := zx_kp_l kp o.1 o.2.1 c2
  funext s
  unfold zq_sc
  refine zq_scs_c _ (fun i hi => ⟨?_, ?_⟩)
  · rw [hc.2 i hi]
    exact zq_at_c (fun j hj => ((zx_C B hT).2 j hj).1) _
  · rw [lt]
    exact zq_at_c (fun j hj => ((zx_C B ht).2 j hj).1) _
theorem ze_score (R : zx_R z w D S N M) (x1 x2 x3 : Int32) : zx_res z w (zf_X9_score w z x1 x2 x3) (zg_X10_score_ S x1 x2 x3) := by
  have A := zx_R_is R
  have hz := (zx_R_z R).1
  obtain ⟨hN, hM⟩ := zx_R_16 R
  have n1 : ¬ (1 : Int32) = 0 := by decide
  obtain ⟨run, need, margin, u1, u4, u5, H⟩ := zx_R_rl R
  obtain ⟨zs, E, f, g, f', g', fb, N', M', nb, RR⟩ := id R
  obtain ⟨-, ⟨-, -, -, al3, al4, -⟩, doc, -⟩ := id RR
  have doc' : zx_doc z w f g N M (S.2.1 1) (S.2.1 2) (S.2.2 3) (S.2.1 6) (fun _ x => x = S.2.1 7 0) := doc
  unfold zf_X9_score
  dsimp only
  rw [if_neg (zy_is0 A), zy_r0_1 A, zo_s, zo_s]
  have e2 : ∃ o, zf_X6_revisionAt w (z + 2) x2 = some o := by
    rcases zn_rng x2 (n := N) (by omega) with hx | ⟨r, hr, rfl⟩
    · exact ⟨_, zs_revN A al3 hx⟩
    · exact ⟨_, zs_rev A al3 hN hr (zx_rev_is doc hr)⟩
  rcases zn_rng x1 (n := M) (by omega) with hx | ⟨m, hm, rfl⟩
  · obtain ⟨o, e⟩ := e2
    rw [zs_remN A al4 hx, zo_s, zo_s, zo_s, e, zo_s, if_pos rfl]
    unfold zg_X10_score_
    dsimp only
    rw [zr_isRemN R.1.2.1 hM hx, zo_s, if_pos rfl]
    exact zx_no_res (c := 1) R (by decide) (by decide) (by decide) (by decide) rfl
  rw [zs_rem A al4 hM hm (zx_rem_e doc hm), zo_s, zo_s, zo_s]
  rcases zn_rng x2 (n := N) (by omega) with hx | ⟨t, ht, rfl⟩
  · rw [zs_revN A al3 hx, zo_s, if_neg (by simp), if_pos rfl]
    unfold zg_X10_score_
    dsimp only
    rw [zr_isRem R.1.2.1 hM hm, zo_s, if_neg n1, zr_isRevN R.1.1 hN hx, zo_s, if_pos rfl]
    exact zx_no_res (c := 1) R (by decide) (by decide) (by decide) (by decide) rfl
  rw [zs_rev A al3 hN ht (zx_rev_is doc ht), zo_s, if_neg (by simp), if_neg (by simp), zo_s]
  obtain ⟨kind, a, r, p, q, an, Q, gm1, gm2⟩ := zx_rm_of doc hm
  have hr := Q.2.2.1
  have cell := Q.2.2.2.2.2.2.2.2.2.2.2
  have of2 : zg_X10_of S 2 (nI m) = some (nI r) := by
    rw [zr_of (k := 2) (by decide) (by omega) 2 rfl, show 16 * 2 + m = 32 + m by omega, Q.2.2.2.2.2.2.2.1]
  have of0 : zg_X10_of S 0 (nI m) = some (nI kind) := by
    rw [zr_of (k := 0) (by decide) (by omega) 0 rfl, show 16 * 0 + m = m by omega, Q.2.2.2.2.2.1]
  rw [zb_gr (x := some (f r)) cell rfl, zo_s]
  by_cases ctr : t = r
  · subst ctr
    rw [if_pos rfl]
    unfold zg_X10_score_
    dsimp only
    rw [zr_isRem R.1.2.1 hM hm, zo_s, if_neg n1, zr_isRev R.1.1 hN ht, zo_s, if_neg n1, of2, zo_s, if_pos rfl]
    exact zx_no_res (c := 6) R (by decide) (by decide) (by decide) (by decide) rfl
  rw [if_neg (fun e => ctr (zx_inj doc' ht hr (Option.some.inj e)))]
  obtain ⟨w2, D2, S2, e3, nb2, fb2, b, a1, a2, a3, a4, a5, a6, a7, a8⟩ := zx_put2 zs RR u1 u4 u5 H Q hm Q.1 ht 1 (Or.inr (Or.inl ⟨ctr, rfl⟩))
  have R2 : zx_R z w2 D2 S2 N M := zx_R_of zs a4 (zx_RR_sc a3 rfl (fun _ _ => rfl) (fun _ _ => rfl) a3.1 (zx_eqD_refl _) a4)
  have A2 := a3.1
  rw [zy_r0_8 A, zo_s, zb_gi cell rfl, zo_s, zo_s, a1, zo_s]
  unfold zg_X10_score_
  dsimp only
  rw [zr_isRem R.1.2.1 hM hm, zo_s (1 : Int32), if_neg n1, zr_isRev R.1.1 hN ht, zo_s (1 : Int32), if_neg n1, of2, zo_s (nI r), if_neg (fun e => ctr ((za_eq (by omega) (by omega)).mp e)), of0, zo_s (nI kind), show zg_X10_puts S (nI m) (nI kind) (nI t) 1 = some (S2, b) from a2, zo_s (S2, b)]
  dsimp only
  rcases a8 with ⟨b1, b2⟩ | ⟨l, v, c, b1, W, b2, b3, b4, b5, b6, b7⟩
  · rw [b2, if_pos rfl, if_pos rfl]
    exact zx_res_trans a5 (zx_no_res (c := 6) R2 (by decide) (by decide) (by decide) (by decide) rfl)
  have hl2 : 2 ≤ l.length := by
    obtain ⟨w1, -, w3, w4, -⟩ := W
    rcases Nat.lt_or_ge 1 l.length with y | y
    · omega
    · have y1 : l.length = 1 := by omega
      rw [y1] at w4
      exact absurd (w3.symm.trans w4) ctr
  rw [b2, if_neg (show ¬ (1 : Int32) = 0 by decide), if_neg (show ¬ (1 : Int32) = 0 by decide)]
  have ctx := b7 hl2
  rw [show l.length - 1 - 1 = l.length - 2 by omega] at b4
  obtain ⟨i1, i2, i3⟩ := zx_T_ok (need := need) (margin := margin) (kind := kind) (a := a) zs.2.2.2.1 W Q.2.2.2.1 Q.2.2.2.2.1 (l.length - 2) (by omega)
  generalize hTT : zx_T S need margin kind a r p q l (l.length - 2) = T at *
  obtain ⟨t33, t34, t35, t36, -⟩ := b4
  have t24 := zx_n24 (S.2.1 2) T.2.2.1
  have tt24 := zx_n24 (S.2.1 2) t
  obtain ⟨o1, o2, -⟩ := i1
  have docw := zx_doc_t a7 doc'
  have rv2 := zx_rv docw (show w2.2.2 < z by rw [a7.2.1]; exact hz) ht
  have sizes : T.2.2.2.1 + (T.2.2.2.2 + 1 - T.2.2.2.1) - 1 = T.2.2.2.2 := by omega
  have pl : zg_X10_placesOn S2 (nI t) = some (nI (zx_n (S.2.1 2) t + 1 - (T.2.2.2.2 + 1 - T.2.2.2.1))) := by
    rw [b3]
    exact zr_placesOn (S := zx_SA S 30 c) (by omega) (zx_C doc' ht).1 tt24 t35 (by rw [sizes]; exact t36) (by omega) (by omega)
  rw [zy_r0_8 A2, zo_s, zo_s, pl, zo_s (nI (zx_n (S.2.1 2) t + 1 - (T.2.2.2.2 + 1 - T.2.2.2.1)))]
  unfold zf_X8_isPlace
  rw [if_neg (zy_is15 A2), zo_s (f t), zk_count rv2, zo_s, zy_g15_5 A2, zo_s, ctx.1]
  rcases zn_rng x3 (n := zx_n (S.2.1 2) t + 1 - (T.2.2.2.2 + 1 - T.2.2.2.1)) (by omega) with hx | ⟨s, hs, rfl⟩
  · have e : (if x3 < 0 then some (0 : Int32) else if nI (zx_n (S.2.1 2) t) - nI (T.2.2.2.2 + 1 - T.2.2.2.1) < x3 then some 0 else some 1) = some 0 := by
      by_cases y : x3 < 0
      · rw [if_pos y]
      · obtain ⟨j, hj, rfl⟩ := nI_of y
        have := (za_le (by omega) hj).mp (hx.resolve_left y)
        rw [if_neg y, if_pos ((za_str (by omega) (by omega) hj).mpr (by omega))]
    rw [e, zo_s, if_pos rfl, zg_wo S2 hx (by omega), zo_s, if_pos rfl]
    exact zx_res_trans a5 (zx_no_res (c := 5) R2 (by decide) (by decide) (by decide) (by decide) rfl)
  rw [if_neg (nI_pos (by omega)), if_neg (fun y => by have := (za_str (by omega) (by omega) (by omega)).mp y; omega), zo_s, if_neg n1, zg_wi S2 hs (by omega), zo_s (1 : Int32), if_neg n1, zo_s]
  have scr : zg_X10_score S2 (nI t) (nI s) = some (nI (zq_sc (zr_ln S T.2.2.1) (zx_n (S.2.1 2) T.2.2.1) (zr_ln S t) (zx_n (S.2.1 2) t) T.2.2.2.1 (T.2.2.2.2 + 1 - T.2.2.2.1) s)) := by
    rw [b3]
    exact zr_score (S := zx_SA S 30 c) (n := zx_n (S.2.1 2) T.2.2.1) (m := zx_n (S.2.1 2) t) (by omega) (by omega) (zx_C doc' i2).1 (zx_C doc' ht).1 t24 tt24 t34 t35 (by rw [sizes]; exact t36) (by omega) (by omega) (by omega) (fun i hi => by
      have := (zx_C doc' i2).2 i hi
      show ¬ S.2.2 3 (24 * T.2.2.1 + i) = 0
      rw [← this.1]
      exact this.2) (fun i hi => by
      have := (zx_C doc' ht).2 i hi
      show ¬ S.2.2 3 (24 * t + i) = 0
      rw [← this.1]
      exact this.2)
  have scc : zf_X8_scoreAt w2 (z + 15) (some (f t)) (nI s) = some (nI (zq_sc (zr_ln S T.2.2.1) (zx_n (S.2.1 2) T.2.2.1) (zr_ln S t) (zx_n (S.2.1 2) t) T.2.2.2.1 (T.2.2.2.2 + 1 - T.2.2.2.1) s)) := by
    have es := zy_w_self A2
    have := zk_score (h := w2) (W := z + 15) (R0 := z + 2) (v := D2.1 15) (x := D2.2.2 17) (b := f t) (lb := f t + 1) (m := zx_n (S.2.1 2) t) (g := zx_l w2 (f t)) (s := s) (size := T.2.2.2.2 + 1 - T.2.2.2.1) (by rw [es]; exact rv2) (by rw [a7.2.1]; omega) tt24 (by omega) ctx.1 (by omega)
    rw [es] at this
    rw [this, ← zx_ctx_sc doc a7 i2 ctx ht]
  rw [scr, zo_s (z + 15), scc, zo_s, zo_s]
  exact ⟨w2, S2, _, D2, N, M, rfl, rfl, R2, a5⟩
theorem ze_leastNeed (R : zx_R z w D S N M) (x1 x2 : Int32) : zx_res z w (zf_X9_leastNeed w z x1 x2) (zg_X10_leastNeed S x1 x2) := by
  have A := zx_R_is R
  have hz := (zx_R_z R).1
  obtain ⟨hN, hM⟩ := zx_R_16 R
  have n1 : ¬ (1 : Int32) = 0 := by decide
  obtain ⟨run, need, margin, u1, u4, u5, H⟩ := zx_R_rl R
  obtain ⟨zs, E, f, g, f', g', fb, N', M', nb, RR⟩ := id R
  obtain ⟨-, ⟨-, -, -, al3, al4, -⟩, doc, -⟩ := id RR
  have doc' : zx_doc z w f g N M (S.2.1 1) (S.2.1 2) (S.2.2 3) (S.2.1 6) (fun _ x => x = S.2.1 7 0) := doc
  unfold zf_X9_leastNeed
  dsimp only
  rw [if_neg (zy_is0 A), zy_r0_1 A, zo_s, zo_s]
  have e2 : ∃ o, zf_X6_revisionAt w (z + 2) x2 = some o := by
    rcases zn_rng x2 (n := N) (by omega) with hx | ⟨r, hr, rfl⟩
    · exact ⟨_, zs_revN A al3 hx⟩
    · exact ⟨_, zs_rev A al3 hN hr (zx_rev_is doc hr)⟩
  rcases zn_rng x1 (n := M) (by omega) with hx | ⟨m, hm, rfl⟩
  · obtain ⟨o, e⟩ := e2
    rw [zs_remN A al4 hx, zo_s, zo_s, zo_s, e, zo_s, if_pos rfl]
    unfold zg_X10_leastNeed
    dsimp only
    rw [zr_isRemN R.1.2.1 hM hx, zo_s, if_pos rfl]
    exact zx_no10_res (c := 1) R (by decide) (by decide) (by decide) (by decide) rfl
  rw [zs_rem A al4 hM hm (zx_rem_e doc hm), zo_s, zo_s, zo_s]
  rcases zn_rng x2 (n := N) (by omega) with hx | ⟨t, ht, rfl⟩
  · rw [zs_revN A al3 hx, zo_s, if_neg (by simp), if_pos rfl]
    unfold zg_X10_leastNeed
    dsimp only
    rw [zr_isRem R.1.2.1 hM hm, zo_s, if_neg n1, zr_isRevN R.1.1 hN hx, zo_s, if_pos rfl]
    exact zx_no10_res (c := 1) R (by decide) (by decide) (by decide) (by decide) rfl
  rw [zs_rev A al3 hN ht (zx_rev_is doc ht), zo_s, if_neg (by simp), if_neg (by simp), zo_s]
  obtain ⟨kind, a, r, p, q, an, Q, gm1, gm2⟩ := zx_rm_of doc hm
  have hr := Q.2.2.1
  have cell := Q.2.2.2.2.2.2.2.2.2.2.2
  have of2 : zg_X10_of S 2 (nI m) = some (nI r) := by
    rw [zr_of (k := 2) (by decide) (by omega) 2 rfl, show 16 * 2 + m = 32 + m by omega, Q.2.2.2.2.2.2.2.1]
  have of0 : zg_X10_of S 0 (nI m) = some (nI kind) := by
    rw [zr_of (k := 0) (by decide) (by omega) 0 rfl, show 16 * 0 + m = m by omega, Q.2.2.2.2.2.1]
  rw [zb_gr (x := some (f r)) cell rfl, zo_s]
  by_cases ctr : t = r
  · subst ctr
    rw [if_pos rfl]
    unfold zg_X10_leastNeed
    dsimp only
    rw [zr_isRem R.1.2.1 hM hm, zo_s, if_neg n1, zr_isRev R.1.1 hN ht, zo_s, if_neg n1, of2, zo_s, if_pos rfl]
    exact zx_no10_res (c := 6) R (by decide) (by decide) (by decide) (by decide) rfl
  rw [if_neg (fun e => ctr (zx_inj doc' ht hr (Option.some.inj e)))]
  obtain ⟨w2, D2, S2, e3, nb2, fb2, b, a1, a2, a3, a4, a5, a6, a7, a8⟩ := zx_put2 zs RR u1 u4 u5 H Q hm Q.1 ht 1 (Or.inr (Or.inl ⟨ctr, rfl⟩))
  have R2 : zx_R z w2 D2 S2 N M := zx_R_of zs a4 (zx_RR_sc a3 rfl (fun _ _ => rfl) (fun _ _ => rfl) a3.1 (zx_eqD_refl _) a4)
  have A2 := a3.1
  rw [zy_r0_8 A, zo_s, zb_gi cell rfl, zo_s, zo_s, a1, zo_s]
  unfold zg_X10_leastNeed
  dsimp only
  rw [zr_isRem R.1.2.1 hM hm, zo_s (1 : Int32), if_neg n1, zr_isRev R.1.1 hN ht, zo_s (1 : Int32), if_neg n1, of2, zo_s (nI r), if_neg (fun e => ctr ((za_eq (by omega) (by omega)).mp e)), of0, zo_s (nI kind), show zg_X10_puts S (nI m) (nI kind) (nI t) 1 = some (S2, b) from a2, zo_s (S2, b)]
  dsimp only
  rcases a8 with ⟨b1, b2⟩ | ⟨l, v, c, b1, W, b2, b3, b4, b5, b6, b7⟩
  · rw [b2, if_pos rfl, if_pos rfl]
    exact zx_res_trans a5 (zx_no10_res (c := 6) R2 (by decide) (by decide) (by decide) (by decide) rfl)
  have hl2 : 2 ≤ l.length := by
    obtain ⟨w1, -, w3, w4, -⟩ := W
    rcases Nat.lt_or_ge 1 l.length with y | y
    · omega
    · have y1 : l.length = 1 := by omega
      rw [y1] at w4
      exact absurd (w3.symm.trans w4) ctr
  rw [b2, if_neg (show ¬ (1 : Int32) = 0 by decide), if_neg (show ¬ (1 : Int32) = 0 by decide)]
  have ctx := b7 hl2
  rw [show l.length - 1 - 1 = l.length - 2 by omega] at b4
  obtain ⟨i1, i2, i3⟩ := zx_T_ok (need := need) (margin := margin) (kind := kind) (a := a) zs.2.2.2.1 W Q.2.2.2.1 Q.2.2.2.2.1 (l.length - 2) (by omega)
  generalize hTT : zx_T S need margin kind a r p q l (l.length - 2) = T at *
  obtain ⟨t33, t34, t35, t36, -⟩ := b4
  have t24 := zx_n24 (S.2.1 2) T.2.2.1
  have tt24 := zx_n24 (S.2.1 2) t
  obtain ⟨o1, o2, -⟩ := i1
  have docw := zx_doc_t a7 doc'
  have sizes : T.2.2.2.1 + (T.2.2.2.2 + 1 - T.2.2.2.1) - 1 = T.2.2.2.2 := by omega
  have ctxr : zr_ctx (zx_SA S 30 c) v T.2.2.1 t (zx_n (S.2.1 2) T.2.2.1) (zx_n (S.2.1 2) t) T.2.2.2.1 (T.2.2.2.2 + 1 - T.2.2.2.1) := ⟨by omega, by omega, (zx_C doc' i2).1, (zx_C doc' ht).1, t24, tt24, t34, t35, by rw [sizes]; exact t36, by omega, by omega, fun i hi => by
    have := (zx_C doc' i2).2 i hi
    show ¬ S.2.2 3 (24 * T.2.2.1 + i) = 0
    rw [← this.1]
    exact this.2, fun i hi => by
    have := (zx_C doc' ht).2 i hi
    show ¬ S.2.2 3 (24 * t + i) = 0
    rw [← this.1]
    exact this.2⟩
  obtain ⟨v3, l1, l2, l3, l4, l5, l6⟩ := zr_looks (margin := margin) ctxr H.2.1 H.2.2.2
  have es := zy_w_self A2
  have RV : ∀ v x, zk_rv (zk_w w2 (z + 15) (z + 2) v x) (f t) (f t + 1) (zx_n (S.2.1 2) t) (zx_l w2 (f t)) := fun v x => by
    have := zx_rv (zx_doc_t (zx_w_kp z w2 v x) docw) (show (zk_w w2 (z + 15) (z + 2) v x).2.2 < z by show w2.2.2 < z; rw [a7.2.1]; exact hz) ht
    have o := (docw.2.2.1 t ht).1
    obtain ⟨-, rf, fo, c1, c2, -⟩ := docw.2.2.1 t ht
    rwa [zx_kp_l (zx_w_kp z w2 v x) o.1 o.2.1 c2] at this
  obtain ⟨v4, m1, m2, m3, m4, m5, m6, m7⟩ := zk_weigh (h := w2) (W := z + 15) (R0 := z + 2) (v := D2.1 15) (x := D2.2.2 17) (b := f t) (lb := f t + 1) (m := zx_n (S.2.1 2) t) (g := zx_l w2 (f t)) (size := T.2.2.2.2 + 1 - T.2.2.2.1) RV (by rw [a7.2.1]; omega) tt24 (by omega) (by omega) ctx.1
  rw [es] at m1
  rw [zx_ctx_sc doc a7 i2 ctx ht] at m5 m6 m7
  have hle := zq_w_le (k := zx_n (S.2.1 2) t + 1 - (T.2.2.2.2 + 1 - T.2.2.2.1)) (N := 3 * 26) (sc := zq_sc (zr_ln S T.2.2.1) (zx_n (S.2.1 2) T.2.2.1) (zr_ln S t) (zx_n (S.2.1 2) t) T.2.2.2.1 (T.2.2.2.2 + 1 - T.2.2.2.1)) (fun s => Nat.le_trans (zq_sc_le _ _ _ _ _ _ _) (by omega))
  obtain ⟨fl, k1, k2⟩ := zk_keeps (h := w2) (R0 := z + 2) (W := z + 15) (v := v4) (x := D2.2.2 17) (margin := margin) (o := zq_w (zq_sc (zr_ln S T.2.2.1) (zx_n (S.2.1 2) T.2.2.1) (zr_ln S t) (zx_n (S.2.1 2) t) T.2.2.2.1 (T.2.2.2.2 + 1 - T.2.2.2.1)) (zx_n (S.2.1 2) t + 1 - (T.2.2.2.2 + 1 - T.2.2.2.1))) ⟨by omega, by omega⟩ (A2 2 (by decide) rfl) (by rw [← H.2.1, ← a3.2.2.2.2.1.2.2.2.2.1]; rfl) H.2.2.2 m5 m6 m7 (by
    revert hle
    generalize zq_w (zq_sc (zr_ln S T.2.2.1) (zx_n (S.2.1 2) T.2.2.1) (zr_ln S t) (zx_n (S.2.1 2) t) T.2.2.2.1 (T.2.2.2.2 + 1 - T.2.2.2.1)) (zx_n (S.2.1 2) t + 1 - (T.2.2.2.2 + 1 - T.2.2.2.1)) = o
    cases o with
    | none => intro _; trivial
    | some y =>
      intro hle
      obtain ⟨h1, h2, h3⟩ := hle
      exact ⟨by omega, by omega, fun r hr => ⟨by have := (h3 r hr).1; omega, (h3 r hr).2⟩⟩)
  have l1' : zg_X10_looks S2 (nI t) = some (zr_w (zx_SA S 30 c) v3) := by rw [b3]; exact l1
  have eqs : zx_eqS S (zr_w (zx_SA S 30 c) v3) := zx_eqS_trans (zx_eqS_r S c (by decide)) (zx_eqS_w _ v3)
  have R3 : zx_R z (zk_w w2 (z + 15) (z + 2) v4 (D2.2.2 17)) (zy_W D2 v4 (D2.2.2 17)) (zr_w (zx_SA S 30 c) v3) N M := zx_R_of zs eqs (zx_RR_w a3 eqs v4 (D2.2.2 17))
  have blk : zx_blk z w (zk_w w2 (z + 15) (z + 2) v4 (D2.2.2 17)) := zx_blk_trans a5 (zx_w_blk z w2 v4 _)
  have A3 := zy_W_is A2 v4 (D2.2.2 17)
  rw [zy_r0_8 A2, zo_s, zo_s, m1, zo_s, zy_r0_8 A3, zo_s, zo_s, k1, zo_s, l1', zo_s (zr_w (zx_SA S 30 c) v3), zr_wg _ _ (by decide), zr_wg _ _ (by decide)]
  rcases k2 with ⟨y1, y2⟩ | ⟨y1, y2⟩
  · have : v3 40 = 0 := l5.resolve_right (fun e => y2 (l6.mp e))
    rw [y1, if_pos rfl, if_pos this]
    exact ⟨_, _, _, _, N, M, rfl, rfl, R3, blk⟩
  · have : v3 40 = 1 := l6.mpr y2
    rw [y1, if_neg n1, if_neg (by rw [this]; exact n1), zo_s (some (z + 15)), zo_s (z + 15), zk_wg (by decide), zo_s, m5, l3]
    exact ⟨_, _, _, _, N, M, rfl, rfl, R3, blk⟩
end ZV
