section ZV
variable {z : Nat} {w : zc_H} {D : zy_D} {S : zm_S} {N M : Nat}
theorem ze_remark (R : zx_R z w D S N M) (x1 x2 x3 x4 x5 x6 : Int32) : zx_res z w (zf_X9_remark w z x1 x2 x3 x4 x5 x6) (zg_X10_remark S x1 x2 x3 x4 x5 x6) := by
  have A := zx_R_is R
  have hz := (zx_R_z R).1
  obtain ⟨hN, hM⟩ := zx_R_16 R
  have n1 : ¬ (1 : Int32) = 0 := by decide
  obtain ⟨zs, E, f, g, f', g', fb, N', M', nb, RR⟩ := id R
  obtain ⟨A', ⟨-, hsz, -, al3, al4, -⟩, docd, -⟩ := id RR
  have doc : zx_doc z w f g N M (S.2.1 1) (S.2.1 2) (S.2.2 3) (S.2.1 6) (fun _ x => x = S.2.1 7 0) := docd
  have e3 : ∃ o, zf_X6_revisionAt w (z + 2) x3 = some o := by
    rcases zn_rng x3 (n := N) (by omega) with hx | ⟨r, hr, rfl⟩
    · exact ⟨_, zs_revN A al3 hx⟩
    · exact ⟨_, zs_rev A al3 hN hr (zx_rev_is doc hr)⟩
  unfold zf_X9_remark
  dsimp only
  rw [if_neg (zy_is0 A), zy_r0_1 A, zo_s, zo_s]
  rcases zn_rng x1 (n := 7) (by decide) with hx | ⟨kind, hk, rfl⟩
  · obtain ⟨o, e3⟩ := e3
    rw [e3, zo_s, zs_isKindN hx, zo_s, if_pos rfl]
    unfold zg_X10_remark
    dsimp only
    rw [zg_wn S (n := 6) (y := 6) rfl hx (by decide), zo_s, if_pos rfl]
    exact zx_no_res (c := 1) R (by decide) (by decide) (by decide) (by decide) rfl
  rcases zn_rng x3 (n := N) (by omega) with hx | ⟨r, hr, rfl⟩
  · rw [zs_revN A al3 hx, zo_s, zs_isKind hk, zo_s, if_neg n1, if_pos rfl]
    unfold zg_X10_remark
    dsimp only
    rw [zg_wy S (n := 6) (y := 6) rfl (by omega) (by decide), zo_s, if_neg n1, zr_isRevN R.1.1 hN hx, zo_s, if_pos rfl]
    exact zx_no_res (c := 1) R (by decide) (by decide) (by decide) (by decide) rfl
  rw [zs_rev A al3 hN hr (zx_rev_is doc hr), zo_s, zs_isKind hk, zo_s, if_neg n1, if_neg (by simp)]
  unfold zg_X10_remark
  dsimp only
  rw [zg_wy S (n := 6) (y := 6) rfl (by omega) (by decide), zo_s (1 : Int32), if_neg n1, zr_isRev R.1.1 hN hr, zo_s (1 : Int32), if_neg n1]
  have h24 := zx_n24 (S.2.1 2) r
  have RV := zx_rv doc hz hr
  have CC := (zx_C doc hr).1
  -- what follows when the answered one is known
  have main : (x6 = -1 ∨ ∃ k, k < M ∧ x6 = nI k) → zx_res z w ((some (f r)).bind fun a10 => (zf_X4_hasLine w a10 x4).bind fun r11 => if r11 = 0 then (zf_X9_refuse w z (-5)).bind fun r13 => some (r13.1, r13.2) else (zf_X4_hasLine w a10 x5).bind fun r14 => if r14 = 0 then (zf_X9_refuse w z (-5)).bind fun r13 => some (r13.1, r13.2) else if x4 ≤ x5 then if x2 < 0 then (zf_X9_refuse w z (-6)).bind fun r18 => some (r18.1, r18.2) else if x2 ≤ 9 then (some (some (z + 2))).bind fun v20 => v20.bind fun a22 => (zf_gr w a22 6 1).bind fun v23 => v23.bind fun a25 => (zf_Jx4a65c_size_8abf5 w a25).bind fun r26 => if r26 < 16 then (some (some (z + 2))).bind fun v28 => v28.bind fun a30 => (zf_gr w a30 6 1).bind fun v31 => (some (zf_new w (.inr (3, [.int 0, .int 0, .int 0, .null, .int 0, .int 0])))).bind fun h33 => (zf_X9_spanOf h33 x4 x5).bind fun r34 => (zf_X3_init h33 w.2.1 r26 (nI kind) x2 (some (f r)) r34 x6).bind fun r35 => v31.bind fun a36 => (zf_Jx4a65c_add_9ea2d r35 a36 (some w.2.1)).bind fun r37 => some (r37.1, r26) else (zf_X9_refuse w z (-7)).bind fun r38 => some (r38.1, r38.2) else (zf_X9_refuse w z (-6)).bind fun r18 => some (r18.1, r18.2) else (zf_X9_refuse w z (-5)).bind fun r13 => some (r13.1, r13.2)) ((zg_X10_isLine S (nI r) x4).bind fun r7 => if r7 = 0 then (zg_X10_no S (-5)).bind fun r9 => some (r9.1, r9.2) else (zg_X10_isLine S (nI r) x5).bind fun r10 => if r10 = 0 then (zg_X10_no S (-5)).bind fun r9 => some (r9.1, r9.2) else if x4 ≤ x5 then (zg_X10_within S x2 0 9).bind fun r13 => if r13 = 0 then (zg_X10_no S (-6)).bind fun r20 => some (r20.1, r20.2) else if (S.1 5) = 16 then (zg_X10_no S (-7)).bind fun r19 => some (r19.1, r19.2) else (zg_X10_newRemark S (nI kind) x2 (nI r) x4 x5 x6).bind fun r18 => some (r18.1, r18.2) else (zg_X10_no S (-5)).bind fun r9 => some (r9.1, r9.2)) := by
    intro h6
    have R5 : zx_res z w ((zf_X9_refuse w z (-5)).bind fun r13 => some (r13.1, r13.2)) ((zg_X10_no S (-5)).bind fun r9 => some (r9.1, r9.2)) := zx_no_res (c := 5) R (by decide) (by decide) (by decide) (by decide) rfl
    rw [zo_s]
    rcases zn_rng x4 (n := zx_n (S.2.1 2) r) (by omega) with hx | ⟨p, hp, rfl⟩
    · rw [zs_hasLN RV hx, zo_s, if_pos rfl, zr_isLN (by omega) CC h24 hx, zo_s, if_pos rfl]
      exact R5
    rw [zs_hasL RV h24 hp, zo_s, if_neg n1, zr_isL (by omega) CC h24 hp, zo_s (1 : Int32), if_neg n1]
    rcases zn_rng x5 (n := zx_n (S.2.1 2) r) (by omega) with hx | ⟨q, hq, rfl⟩
    · rw [zs_hasLN RV hx, zo_s, if_pos rfl, zr_isLN (by omega) CC h24 hx, zo_s, if_pos rfl]
      exact R5
    rw [zs_hasL RV h24 hq, zo_s, if_neg n1, zr_isL (by omega) CC h24 hq, zo_s (1 : Int32), if_neg n1]
    by_cases pq : p ≤ q
    · rw [if_pos (nI_le pq (by omega)), if_pos (nI_le pq (by omega))]
      rcases zn_rng x2 (n := 10) (by decide) with hx | ⟨a, ha, rfl⟩
      · rw [zg_wn S (n := 9) (y := 9) rfl hx (by decide), zo_s (0 : Int32), if_pos rfl]
        by_cases c : x2 < 0
        · rw [if_pos c]
          exact zx_no_res (c := 6) R (by decide) (by decide) (by decide) (by decide) rfl
        · obtain ⟨j, hj, rfl⟩ := nI_of c
          have := (za_le (by decide) hj).mp (hx.resolve_left c)
          rw [if_neg c, if_neg (show ¬ nI j ≤ 9 from nI_ge (show 9 < j by omega) hj)]
          exact zx_no_res (c := 6) R (by decide) (by decide) (by decide) (by decide) rfl
      rw [if_neg (nI_pos (by omega)), if_pos (show nI a ≤ 9 from nI_le (show a ≤ 9 by omega) (by decide)), zo_s, zo_s, zy_r2_1 A, zo_s, zo_s, zk_al_size al4, zo_s, zg_wy S (n := 9) (y := 9) rfl (by omega) (by decide), zo_s (1 : Int32), if_neg n1, R.1.2.1]
      by_cases M16 : M < 16
      · obtain ⟨m1, m2, m3, m4⟩ := zn_new w (.inr (3, [.int 0, .int 0, .int 0, .null, .int 0, .int 0]))
        obtain ⟨w2, E2, k1, k2, k3⟩ := zx_addRem (u := zf_up (zf_new w (.inr (3, [.int 0, .int 0, .int 0, .null, .int 0, .int 0]))) w.2.1 (.inr (3, [.int (nI M), .int (nI kind), .int (nI a), .ref (f r), .int (nI (32 * p + q)), .int x6]))) RR M16 hk (show a ≤ 9 by omega) hr pq hq h6 (fun y hy => (va_up_ne _ _ (by omega)).trans (m4 y (by omega))) m2 m3 (zb_up _ _ _)
        rw [if_pos (show nI M < 16 from nI_lt M16 (by decide)), if_neg (show ¬ nI M = 16 from fun h => by
          have := (za_eq (b := 16) (show M < 2 ^ 31 by omega) (by decide)).mp h
          omega), zo_s, zo_s, zy_r2_1 A, zo_s, zo_s, zs_span, zo_s, zs_init3 m1, zo_s, zo_s, show va_rf (some (f r)) = .ref (f r) from rfl, k1, zo_s, zr_newRem R.1.2.1 M16, zo_s]
        exact ⟨w2, _, _, D, N, M + 1, rfl, rfl, ⟨zx_s_rem zs, _, _, _, _, _, _, _, _, _, k2⟩, k3⟩
      · have hM' : M = 16 := by omega
        rw [if_neg (show ¬ nI M < 16 from nI_nlt (show 16 ≤ M by omega) (by omega)), if_pos (show nI M = 16 by rw [hM']; rfl)]
        exact zx_no_res (c := 7) R (by decide) (by decide) (by decide) (by decide) rfl
    · rw [if_neg (nI_ge (show q < p by omega) (by omega)), if_neg (nI_ge (show q < p by omega) (by omega))]
      exact R5
  by_cases xm : x6 = -1
  · rw [if_pos xm, if_pos xm]
    exact main (Or.inl xm)
  · rw [if_neg xm, if_neg xm]
    rcases zn_rng x6 (n := M) (by omega) with hx | ⟨k, hkM, rfl⟩
    · rw [zo_s, zo_s, zs_remN A al4 hx, zo_s, if_pos rfl, zr_isRemN R.1.2.1 hM hx, zo_s, if_pos rfl]
      exact zx_no_res (c := 1) R (by decide) (by decide) (by decide) (by decide) rfl
    · rw [zo_s, zo_s, zs_rem A al4 hM hkM (zx_rem_e doc hkM), zo_s, if_neg (by simp), zr_isRem R.1.2.1 hM hkM, zo_s (1 : Int32), if_neg n1]
      exact main (Or.inr ⟨k, hkM, rfl⟩)
end ZV
