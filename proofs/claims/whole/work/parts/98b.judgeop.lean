def zq_o1 : Unit ⊕ Int32 → Int32
  | .inl _ => -1
  | .inr t => t
section ZV
variable {z : Nat} {w : zc_H} {D : zy_D} {S : zm_S} {N M : Nat}
theorem ze_judge (R : zx_R z w D S N M) (x1 x2 x3 : Int32) : zx_res z w (zf_X9_judge w z x1 x2 x3) (zg_X10_judge S x1 x2 x3) := by
  have A := zx_R_is R
  have hz := (zx_R_z R).1
  obtain ⟨hN, hM⟩ := zx_R_16 R
  have n1 : ¬ (1 : Int32) = 0 := by decide
  obtain ⟨run, need, margin, u1, u4, u5, H⟩ := zx_R_rl R
  obtain ⟨f, g, f', g', N', M', X⟩ := zx_R_X R
  obtain ⟨zs, D', E, fb, nb, RR⟩ := id X
  obtain ⟨A', ⟨-, -, -, al3, al4, -⟩, docd, -⟩ := id RR
  have doc : zx_doc z w f g N M (S.2.1 1) (S.2.1 2) (S.2.2 3) (S.2.1 6) (fun _ x => x = S.2.1 7 0) := docd
  have e2 : ∃ o, zf_X6_remarkAt w (z + 2) x2 = some o := by
    rcases zn_rng x2 (n := M) (by omega) with hx | ⟨r, hr, rfl⟩
    · exact ⟨_, zs_remN A al4 hx⟩
    · exact ⟨_, zs_rem A al4 hM hr (zx_rem_e doc hr)⟩
  have e3 : ∃ o, zf_X6_revisionAt w (z + 2) x3 = some o := by
    rcases zn_rng x3 (n := N) (by omega) with hx | ⟨r, hr, rfl⟩
    · exact ⟨_, zs_revN A al3 hx⟩
    · exact ⟨_, zs_rev A al3 hN hr (zx_rev_is doc hr)⟩
  unfold zf_X9_judge
  dsimp only
  rw [if_neg (zy_is0 A), zy_r0_1 A]
  rcases zn_rng x1 (n := 8) (by decide) with hx | ⟨s, hs, rfl⟩
  · obtain ⟨o2, e2⟩ := e2
    obtain ⟨o3, e3⟩ := e3
    rw [zs_shelfN A hz hx, zo_s, zo_s, zo_s, e2, zo_s, zo_s, zo_s, e3, zo_s, if_pos rfl]
    unfold zg_X10_judge
    dsimp only
    rw [zr_noRowN hx, zo_s, if_pos rfl]
    exact zx_no10_res (c := 1) R (by decide) (by decide) (by decide) (by decide) rfl
  obtain ⟨hv, e0, ⟨n, hn, g1, g1d⟩, g2⟩ := zx_R_s R hs
  have hr := zr_noRow hs hM hv
  have nb1 : ¬ zx_bar (S.2.1 9 s) = -1 := by
    unfold zx_bar
    split
    · decide
    · split <;> decide
  rw [zs_shelf A hz hs, zo_s, zo_s, zo_s]
  rcases zn_rng x2 (n := M) (by omega) with hx | ⟨m, hm, rfl⟩
  · obtain ⟨o3, e3⟩ := e3
    rw [zs_remN A al4 hx, zo_s, zo_s, zo_s, e3, zo_s, if_neg (by simp), if_pos rfl]
    unfold zg_X10_judge
    dsimp only
    rw [hr, zo_s, if_neg nb1, zr_isRemN R.1.2.1 hM hx, zo_s, if_pos rfl]
    exact zx_no10_res (c := 1) R (by decide) (by decide) (by decide) (by decide) rfl
  rw [zs_rem A al4 hM hm (zx_rem_e doc hm), zo_s, zo_s, zo_s]
  rcases zn_rng x3 (n := N) (by omega) with hx | ⟨t, ht, rfl⟩
  · rw [zs_revN A al3 hx, zo_s, if_neg (by simp), if_neg (by simp), if_pos rfl]
    unfold zg_X10_judge
    dsimp only
    rw [hr, zo_s, if_neg nb1, zr_isRem R.1.2.1 hM hm, zo_s, if_neg n1, zr_isRevN R.1.1 hN hx, zo_s, if_pos rfl]
    exact zx_no10_res (c := 1) R (by decide) (by decide) (by decide) (by decide) rfl
  rw [zs_rev A al3 hN ht (zx_rev_is doc ht), zo_s, if_neg (by simp), if_neg (by simp), if_neg (by simp), zs_unfit A hs hM (by rw [e0]; exact hv), zo_s, e0]
  unfold zg_X10_judge
  dsimp only
  rw [hr, zo_s (zx_bar (S.2.1 9 s)), if_neg nb1, zr_isRem R.1.2.1 hM hm, zo_s (1 : Int32), if_neg n1, zr_isRev R.1.1 hN ht, zo_s (1 : Int32), if_neg n1]
  rcases zx_bar_row hM hv with ⟨b, -⟩ | ⟨b, -⟩ | ⟨b, tt, htt, h9⟩
  · rw [b, if_neg (show ¬ (-3 : Int32) = 0 by decide), if_neg (show ¬ (0 : Int32) ≤ -3 by decide)]
    exact zx_no10_res (c := 3) R (by decide) (by decide) (by decide) (by decide) rfl
  · rw [b, if_neg (show ¬ (-2 : Int32) = 0 by decide), if_neg (show ¬ (0 : Int32) ≤ -2 by decide)]
    exact zx_no10_res (c := 2) R (by decide) (by decide) (by decide) (by decide) rfl
  obtain ⟨kind, a, r, p, q, an, Q, gm1, gm2⟩ := zx_rm_of docd hm
  obtain ⟨u, b', l1, l2, l3, l4⟩ := zx_X_lay X Q.2.2.1 ht
  obtain ⟨c, b2, c1, c2⟩ := zr_beh (S := S) (zx_fm doc) Q.2.2.1 ht
  have eS : zx_eqS S (zx_SA S 30 c) := zx_eqS_r S c (by decide)
  rw [b, if_pos rfl, if_pos (show (0 : Int32) ≤ 0 by decide), zy_r0_8 A, zo_s, zo_s, zb_gr (x := some (f r)) Q.2.2.2.2.2.2.2.2.2.2.2 rfl, zo_s, zo_s, l1, zo_s, zr_of (k := 2) (by decide) (by omega) 2 rfl, show 16 * 2 + m = 32 + m by omega, Q.2.2.2.2.2.2.2.1, zo_s (nI r), c1, zo_s (zx_SA S 30 c, b2)]
  dsimp only
  rcases l4 with ⟨l, d1, W, d2, Du, Eu, RRu⟩ | ⟨d1, d2, Xu⟩
  · rcases c2 with ⟨l', d3, d4, d5⟩ | ⟨d3, -⟩
    · rw [d1] at d3
      cases d3
      have Au := RRu.1
      have alu := RRu.2.1.2.2.2.2.2.2.2
      have w1 := W.1
      have w2 := W.2.1
      obtain ⟨D3, R3⟩ := zx_X_R (zx_X_of (w2 := u) zs eS RRu)
      have ru : zx_R z u Du S N M := ⟨zs, _, _, _, _, _, _, _, _, _, RRu⟩
      obtain ⟨-, e0u, ⟨n', hn', g1', g1u⟩, -⟩ := zx_R_s ru hs
      have nn : n' = n := (za_eq (by omega) (by omega)).mp (g1'.symm.trans g1)
      subst nn
      have wl : zf_X8_wayLength u (z + 15) = some (nI l.length) := by
        unfold zf_X8_wayLength
        rw [if_neg (zy_is15 Au), zy_r15_1 Au, zo_s, zo_s, zk_al_size alu, zo_s]
      rw [d2, if_neg n1, d4, if_neg (za_ne _ (by omega)), zo_s, zy_gS1 Au hs, zo_s, g1u, zy_r0_8 Au, zo_s, zo_s, wl, zo_s, za_ai hs (by decide), zx_SAn S c (by decide), g1, zo_s, zo_s (nI n')]
      by_cases y : l.length ≤ n'
      · rw [if_pos (nI_le y (by omega)), if_pos (nI_lt (show l.length - 1 < n' by omega) (by omega)), zo_s]
        have Qu := zx_rm_t (zx_eqS_refl S) l3 gm1 gm2 Q
        obtain ⟨v, k1, k2⟩ := zs_beg (need := need) (margin := margin) (l := l) Au Qu
        obtain ⟨v2, x2, S2, o, r1, r2, r3⟩ := zx_wrongL (need := need) (margin := margin) RRu zs u1 u4 u5 H Qu hm ht d1 W hs htt h9 g1 hn' y l.length 0 2000 2000 v (Du.2.2 17) (zx_SA S 30 c) (by omega) (by omega) (by omega) eS k2
        have cm : (zk_w u (z + 15) (z + 2) v (Du.2.2 17)).1 (g m) = some (.inr (3, [.int (nI m), .int (nI kind), .int (nI a), .ref (f r), .int (nI (32 * p + q)), .int an])) := by
          rw [zk_wn (by omega) (by omega)]
          exact Qu.2.2.2.2.2.2.2.2.2.2.2
        rw [Nat.zero_sub, Nat.sub_zero, W.2.2.2.1] at r1
        have fw : zf_X8_firstWrong u (z + 15) (some (g m)) (some (z + (22 + 2 * s))) = some (zk_w u (z + 15) (z + 2) v2 x2, zq_o1 o) := by
          unfold zf_X8_firstWrong
          rw [if_neg (zy_is15 Au), k1, zo_s, zo_s, zb_gr (x := some (f r)) cm rfl, zo_s, show (0 : Int32) = nI 0 from rfl, r1, zo_s]
          cases o <;> rfl
        rw [fw, zo_s, show (0 : Int32) = nI 0 from rfl, r2, zo_s]
        have R4 : zx_R z (zk_w u (z + 15) (z + 2) v2 x2) (zy_W Du v2 x2) S2 N M := zx_R_of zs r3 (zx_RR_w RRu r3 v2 x2)
        have bl := zx_blk_trans l2 (zx_w_blk z u v2 x2)
        cases o with
        | inl _ => exact ⟨_, S2, _, _, N, M, rfl, rfl, R4, bl⟩
        | inr t => exact ⟨_, S2, _, _, N, M, rfl, rfl, R4, bl⟩
      · rw [if_neg (nI_ge (show n' < l.length by omega) (by omega)), if_neg (nI_nlt (show n' ≤ l.length - 1 by omega) (by omega))]
        exact zx_res_trans l2 (zx_no10_res (c := 5) R3 (by decide) (by decide) (by decide) (by decide) rfl)
    · rw [d1] at d3
      cases d3
  · rcases c2 with ⟨l', d3, d4, d5⟩ | ⟨d3, d4⟩
    · rw [d1] at d3
      cases d3
    · rw [d2, if_pos rfl, d4, if_pos rfl]
      obtain ⟨D3, R3⟩ := zx_X_R (zx_X_S eS Xu)
      exact zx_res_trans l2 (zx_no10_res (c := 6) R3 (by decide) (by decide) (by decide) (by decide) rfl)
end ZV
