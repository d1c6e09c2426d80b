theorem zr_copiesL {S : zm_S} {N r : Nat} (hN : N ≤ 16) (hr : r < N) : ∀ (j k fu : Nat) (S' : zm_S), k + j = 24 → j < fu → S'.1 0 = nI N → ∃ c, zg_X10_copies_L17 (nI r) fu S' (nI k) = some (zx_SJ S' 3 c) ∧ (∀ i, i < 24 * N + k → c i = S'.2.2 3 i) ∧ ∀ i, k ≤ i → i < 24 → c (24 * N + i) = S'.2.2 3 (24 * r + i) := by
  intro j
  induction j with
  | zero =>
    intro k fu S' h1 h2 h3
    obtain ⟨fu, rfl⟩ : ∃ n, fu = n + 1 := ⟨fu - 1, by omega⟩
    have : k = 24 := by omega
    subst this
    refine ⟨S'.2.2 3, ?_, fun _ _ => rfl, fun i h1 h2 => by omega⟩
    unfold zg_X10_copies_L17
    rw [if_pos (show (24 : Int32) ≤ nI 24 by decide), zx_SJi]
  | succ j ih =>
    intro k fu S' h1 h2 h3
    obtain ⟨fu, rfl⟩ : ∃ n, fu = n + 1 := ⟨fu - 1, by omega⟩
    obtain ⟨c, e1, e2, e3⟩ := ih (k + 1) fu (zx_SJ S' 3 (va_up (S'.2.2 3) (24 * N + k) (S'.2.2 3 (24 * r + k)))) (by omega) (by omega) h3
    refine ⟨c, ?_, fun i hi => ?_, fun i h4 h5 => ?_⟩
    · unfold zg_X10_copies_L17
      rw [if_neg (show ¬ (24 : Int32) ≤ nI k from nI_ge (show k < 24 by omega) (by decide)), za_24, za_aj (by omega) (by decide), zo_s, h3, za_24, zx_sj (by omega) (by decide), zo_s, ← nI_succ, e1, zx_SJJ]
    · rw [e2 i (by omega), zx_SJj, va_up_ne _ _ (by omega)]
    · by_cases y : i = k
      · subst y
        rw [e2 _ (by omega), zx_SJj, va_up_self]
      · rw [e3 i (by omega) h5, zx_SJj, va_up_ne _ _ (by omega)]
theorem zr_copies {S : zm_S} {N r n : Nat} (hN : N ≤ 16) (hr : r < N) (h0 : S.1 0 = nI N) (h2 : S.2.1 2 r = nI n) : ∃ S1, zg_X10_copies S (nI r) = some S1 ∧ zx_rdd S S1 N ∧ S1.2.1 2 N = nI n ∧ ∀ i, i < 24 → S1.2.2 3 (24 * N + i) = S.2.2 3 (24 * r + i) := by
  obtain ⟨c, e1, e2, e3⟩ := zr_copiesL (S := S) hN hr 24 0 2000 (zx_SA S 2 (va_up (S.2.1 2) N (nI n))) (by omega) (by omega) h0
  refine ⟨zx_SJ (zx_SA S 2 (va_up (S.2.1 2) N (nI n))) 3 c, ?_, ⟨rfl, fun k hk => zx_SAn S _ hk, fun r' hr' => ?_, fun k hk => va_up_ne _ _ hk, fun j hj => ?_⟩, ?_, fun i hi => ?_⟩
  · unfold zg_X10_copies
    rw [za_ai (by omega) (by decide), zo_s, h2, h0, zx_si (by omega) (by decide), zo_s, show (0 : Int32) = nI 0 from rfl, e1, zo_s]
  · exact (congrFun (zx_SAa (S := S) (k := 2) (c := va_up (S.2.1 2) N (nI n))) r').trans (va_up_ne _ _ (by omega))
  · rw [zx_SJj, e2 j (by omega)]
    rfl
  · exact (congrFun (zx_SAa (S := S) (k := 2) (c := va_up (S.2.1 2) N (nI n))) N).trans (va_up_self _ _ _)
  · rw [zx_SJj, e3 i (by omega) hi]
    rfl
section ZV
variable {z : Nat} {w : zc_H} {D : zy_D} {S : zm_S} {N M : Nat}
theorem zx_rvh {f g : Nat → Nat} {F C : Nat → Int32} {L : Nat → Int64} {T : Nat → Int32} {rdy : Nat → Int32 → Prop} (doc : zx_doc z w f g N M F C L T rdy) (hz : w.2.2 < z) {r : Nat} (hr : r < N) (D : zy_D) : zk_rv (zy_h z D w) (f r) (f r + 1) (zx_n C r) (zx_l w (f r)) := by
  have := zx_rv (zx_doc_t (zx_h_kp z D w) doc) hz hr
  have o := (doc.2.2.1 r hr).1.1
  rwa [zx_l_eq (h := w) (h2 := zy_h z D w) (a := f r) (zy_o (Or.inr (by omega)))] at this
theorem ze_again (R : zx_R z w D S N M) (x1 x2 : Int32) : zx_res z w (zf_X9_again w z x1 x2) (zg_X10_again S x1 x2) := by
  have A := zx_R_is R
  have hz := (zx_R_z R).1
  obtain ⟨hN, hM⟩ := zx_R_16 R
  have n1 : ¬ (1 : Int32) = 0 := by decide
  obtain ⟨zs, E, f, g, f', g', fb, N', M', nb, RR⟩ := id R
  obtain ⟨A', ⟨-, -, -, al3, al4, -⟩, docd, -⟩ := id RR
  have doc : zx_doc z w f g N M (S.2.1 1) (S.2.1 2) (S.2.2 3) (S.2.1 6) (fun _ x => x = S.2.1 7 0) := docd
  unfold zf_X9_again
  dsimp only
  rw [if_neg (zy_is0 A), zy_r0_1 A, zo_s, zo_s]
  have e2 : ∃ o, zf_X6_revisionAt w (z + 2) x2 = some o := by
    rcases zn_rng x2 (n := N) (by omega) with hx | ⟨r, hr, rfl⟩
    · exact ⟨_, zs_revN A al3 hx⟩
    · exact ⟨_, zs_rev A al3 hN hr (zx_rev_is doc hr)⟩
  rcases zn_rng x1 (n := N) (by omega) with hx | ⟨r, hr, rfl⟩
  · obtain ⟨o, e⟩ := e2
    rw [zs_revN A al3 hx, zo_s, zo_s, zo_s, e, zo_s, if_pos rfl]
    unfold zg_X10_again
    dsimp only
    rw [zr_isRevN R.1.1 hN hx, zo_s, if_pos rfl]
    exact zx_no_res (c := 1) R (by decide) (by decide) (by decide) (by decide) rfl
  rw [zs_rev A al3 hN hr (zx_rev_is doc hr), zo_s, zo_s, zo_s]
  rcases zn_rng x2 (n := N) (by omega) with hx | ⟨t, ht, rfl⟩
  · rw [zs_revN A al3 hx, zo_s, if_neg (by simp), if_pos rfl]
    unfold zg_X10_again
    dsimp only
    rw [zr_isRev R.1.1 hN hr, zo_s, if_neg n1, zr_isRevN R.1.1 hN hx, zo_s, if_pos rfl]
    exact zx_no_res (c := 1) R (by decide) (by decide) (by decide) (by decide) rfl
  obtain ⟨b, b1, b2⟩ := zs_beh doc hr ht
  obtain ⟨c, b', c1, c2⟩ := zr_beh (S := S) (zx_fm doc) hr ht
  have eS : zx_eqS S (zx_SA S 30 c) := zx_eqS_r S c (by decide)
  have RS : zx_RR z w D (zx_SA S 30 c) (fun _ x => x = S.2.1 7 0) E f g f' g' fb N M N' M' nb := zx_RR_sc RR rfl (fun _ _ => rfl) (fun _ _ => rfl) A (zx_eqD_refl _) eS
  have R' : zx_R z w D (zx_SA S 30 c) N M := zx_R_of zs eS RS
  rw [zs_rev A al3 hN ht (zx_rev_is doc ht), zo_s, if_neg (by simp), if_neg (by simp), zo_s, b1, zo_s]
  unfold zg_X10_again
  dsimp only
  rw [zr_isRev R.1.1 hN hr, zo_s (1 : Int32), if_neg n1, zr_isRev R.1.1 hN ht, zo_s (1 : Int32), if_neg n1, c1, zo_s (zx_SA S 30 c, b')]
  dsimp only
  rcases b2 with ⟨l, d1, d2⟩ | ⟨d1, d2⟩
  · rcases c2 with ⟨l', d3, d4, d5⟩ | ⟨d3, -⟩
    · rw [d1] at d3
      cases d3
      have W := zq_wy_of (zx_fm doc) ht d1
      have w2 := W.2.1
      rw [d2, if_neg n1, d4, if_neg (za_ne _ (by omega))]
      exact zx_no_res (c := 6) R' (by decide) (by decide) (by decide) (by decide) rfl
    · rw [d1] at d3
      cases d3
  rcases c2 with ⟨l', d3, d4, d5⟩ | ⟨d3, d4⟩
  · rw [d1] at d3
    cases d3
  have u1 := zs_unsL RR hr M 0 2000 (by omega) (by omega)
  have u2 := zr_unsL (S := zx_SA S 30 c) (y2 := nI t) (M := M) R.1.2.1 hM (r := r) M 0 2000 (by omega) (by omega)
  have t6 : (zx_SA S 30 c).2.1 6 = S.2.1 6 := zx_SAn S c (by decide)
  rw [t6] at u2
  have ul := zq_ct_le (zq_uns (S.2.1 6) r) M
  have uo : zf_X6_unsettledOn w (z + 2) (some (f r)) = some (nI (zq_ct (zq_uns (S.2.1 6) r) M)) := by
    unfold zf_X6_unsettledOn
    rw [if_neg (zy_is2 A)]
    exact congrArg (fun o => o.bind fun w17 => some w17) u1
  have s0 : (zx_SA S 30 c).1 0 = nI N := R.1.1
  have s5 : (zx_SA S 30 c).1 5 = nI M := R.1.2.1
  have R7 : zx_res z w ((zf_X9_refuse w z (-7)).bind fun r34 => some (r34.1, r34.2)) ((zg_X10_no (zx_SA S 30 c) (-7)).bind fun r19 => some (r19.1, r19.2)) := zx_no_res (c := 7) R' (by decide) (by decide) (by decide) (by decide) rfl
  rw [d2, if_pos rfl, d4, if_pos rfl, zo_s, zo_s, zy_r2_1 A, zo_s, zo_s, zk_al_size al4, zo_s, zo_s, zo_s, uo, zo_s, zo_s, zo_s, zy_r2_0 A, zo_s, zo_s, zk_al_size al3, zo_s, show zg_X10_again_L44 (zx_SA S 30 c) (nI r) (nI t) 2000 0 0 = some (nI (zq_ct (zq_uns (S.2.1 6) r) M)) from u2, zo_s (nI (zq_ct (zq_uns (S.2.1 6) r) M)), s0, s5, za_add]
  by_cases N16 : N = 16
  · rw [if_pos (show (16 : Int32) ≤ nI N from nI_le (show 16 ≤ N by omega) (by omega)), if_pos (show nI N = 16 by rw [N16]; rfl)]
    exact R7
  rw [if_neg (show ¬ (16 : Int32) ≤ nI N from nI_ge (show N < 16 by omega) (by decide)), if_neg (show ¬ nI N = 16 from fun h => N16 ((za_eq (b := 16) (show N < 2 ^ 31 by omega) (by decide)).mp h))]
  by_cases full : M + zq_ct (zq_uns (S.2.1 6) r) M ≤ 16
  · have h24 := zx_n24 (S.2.1 2) r
    obtain ⟨D2, k1, k2, k3⟩ := zs_startFrom (z := z) h24 hz (fun D => zx_rvh doc hz hr D) A
    have RR1 : zx_RR z (zy_h z D2 w) D2 (zx_SA S 30 c) (fun _ x => x = S.2.1 7 0) E f g f' g' fb N M N' M' nb := zx_RR_sh RS k2 (zx_eqS_refl _)
    have zs1 : zx_s (zx_SA S 30 c) N M := zx_s_eq eS zs
    have A1 := RR1.1
    obtain ⟨S1, m1, m2, m3, m4⟩ := zr_copies (S := zx_SA S 30 c) (n := zx_n (S.2.1 2) r) hN hr s0 ((congrFun (zx_SAn S c (by decide)) r).trans (zx_C doc hr).1)
    have row7 : (zx_SA S 30 c).2.1 7 = S.2.1 7 := zx_SAn S c (by decide)
    obtain ⟨w2, D3, E2, S2, q1, q2, q3, q4, q5, q6, q7, q8⟩ := zx_grow zs1 (by rw [row7]; exact RR1) (by omega) k3 (some t) (fun k h => by cases h; exact ht) m2 m3 (fun i hi => by
      have := (zx_C doc hr).2 i hi
      rw [m4 i (by omega)]
      exact this)
    -- the remarks
    have fr : va_up f N w.2.1 r = f r := va_up_ne _ _ (by omega)
    have e6 : S2.2.1 6 = S.2.1 6 := q6.trans t6
    have nr : zx_n (S2.2.1 2) N = zx_n (S2.2.1 2) r := by
      rw [zx_n_of q7 h24]
      unfold zx_n
      rw [q8 r hr, show (zx_SA S 30 c).2.1 2 = S.2.1 2 from zx_SAn S c (by decide)]
    obtain ⟨w3, S3, E3, g3, v1, v2, v3, v4, v5⟩ := zx_againL (z := z) (D := D3) (f := va_up f N w.2.1) (N := N + 1) (M := M) (T0 := S.2.1 6) (y6 := nI (zq_ct (zq_uns (S.2.1 6) r) M)) (y3 := nI (zq_ct (zq_uns (S.2.1 6) r) M)) (r := r) (t := N) (by omega) (by omega) full M 0 17 2000 w2 S2 E2 g (by omega) (by omega) (by omega) q3 q4 (fun j m _ _ => by rw [e6]) nr
    rw [fr, va_up_self] at v1
    rw [if_pos (show nI (M + zq_ct (zq_uns (S.2.1 6) r) M) ≤ 16 from nI_le full (by decide)), if_pos (show nI (M + zq_ct (zq_uns (S.2.1 6) r) M) ≤ 16 from nI_le full (by decide)), zy_r0_6 A, zo_s, zo_s, k1, zo_s, show (some (f t) : Option Nat) = (some t).map f from rfl, q1, zo_s, show zf_X9_again_L123 z (some (f r)) (nI M) (nI (zq_ct (zq_uns (S.2.1 6) r) M)) (some (zy_h z D2 w).2.1) 17 w2 0 = some w3 from v1, zo_s, m1, zo_s S1, show nI t = zq_f1 (some t) from rfl, q2, zo_s (S2, nI N)]
    dsimp only
    rw [q3.2.1, show zg_X10_again_L132 (nI r) (nI (zq_ct (zq_uns (S.2.1 6) r) M)) (nI N) (nI M) 2000 S2 0 = some S3 from v2, zo_s]
    exact ⟨w3, S3, _, D3, N + 1, _, rfl, rfl, ⟨v3, _, _, _, _, _, _, _, _, _, v4⟩, zx_blk_trans (zx_h_blk z D2 w) (zx_blk_trans q5 v5)⟩
  · rw [if_neg (show ¬ nI (M + zq_ct (zq_uns (S.2.1 6) r) M) ≤ 16 from nI_ge (show 16 < M + zq_ct (zq_uns (S.2.1 6) r) M by omega) (by omega)), if_neg (show ¬ nI (M + zq_ct (zq_uns (S.2.1 6) r) M) ≤ 16 from nI_ge (show 16 < M + zq_ct (zq_uns (S.2.1 6) r) M by omega) (by omega))]
    exact R7
end ZV
