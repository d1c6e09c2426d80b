section ZV
variable {z : Nat} {M N' M' : Nat} {g f' g' : Nat → Nat}
theorem zx_drift1 {w : zc_H} {D : zy_D} {S : zm_S} {E f fb : Nat → Nat} {N nb : Nat} (zs : zx_s S N M) (R : zx_RR z w D S (fun _ x => x = S.2.1 7 0) E f g f' g' fb N M N' M' nb) (h1 : 1 ≤ N) (hN : N < 16) : ∃ (w1 w2 w3 : zc_H) (D3 : zy_D) (E3 fb3 : Nat → Nat) (nb3 : Nat) (S3 : zm_S), zf_X0_startFrom w (z + 9) (some (f (N - 1))) = some w1 ∧ zf_X9_driftDraft w1 z = some w2 ∧ zf_X9_addRevision w2 z (some (f (N - 1))) = some (w3, some w2.2.1) ∧ zg_X10_drifts S = some S3 ∧ zx_s S3 (N + 1) M ∧ zx_RR z w3 D3 S3 (fun _ x => x = S3.2.1 7 0) E3 (va_up f N w2.2.1) g f' g' fb3 (N + 1) M N' M' nb3 ∧ zx_blk z w w3 := by
  obtain ⟨A, ⟨hz, -⟩, docd, -⟩ := id R
  have doc : zx_doc z w f g N M (S.2.1 1) (S.2.1 2) (S.2.2 3) (S.2.1 6) (fun _ x => x = S.2.1 7 0) := docd
  have hr : N - 1 < N := by omega
  have h24 := zx_n24 (S.2.1 2) (N - 1)
  obtain ⟨D1, k1, k2, k3⟩ := zs_startFrom (z := z) h24 hz (fun D => zx_rvh doc hz hr D) A
  obtain ⟨S1, m1, m2, m3, m4⟩ := zr_copies (S := S) (n := zx_n (S.2.1 2) (N - 1)) (by omega) hr zs.1 (zx_C doc hr).1
  have df : zx_dft z w f g f' g' N M N' M' D1 S1 (zx_n (S.2.1 2) (N - 1)) (zx_l w (f (N - 1))) := ⟨S, E, fb, nb, zs, zx_RR_sh R k2 (zx_eqS_refl S), m2, k3, m3, fun i hi => by
    have := (zx_C doc hr).2 i hi
    rw [m4 i (by omega)]
    exact this⟩
  obtain ⟨d, D2, v, hd, d1, d2, d3⟩ := zx_dft_draw df (x := 4) (by decide) (by decide)
  obtain ⟨A1, -, -⟩ := zx_dft_is df
  obtain ⟨A2, -, V2, r2, -⟩ := zx_dft_is d3
  generalize hn : zx_n (S.2.1 2) (N - 1) = n at *
  generalize zx_l w (f (N - 1)) = L at *
  -- where
  have whr : ∃ (s : Nat) (D4 : zy_D) (S4 : zm_S), (s < n ∨ (n = 0 ∧ s = 0)) ∧ zx_dft z w f g f' g' N M N' M' D4 S4 n L ∧ (zf_X9_driftDraft (zy_h z D1 w) z = zd_k33 z (nI d) (nI n) (zy_h z D4 w) (nI s)) ∧ zg_X10_drifts S = zd_k44 (nI N) (nI n) (nI d) S4 (nI s) := by
    have e1 : zg_X10_drifts S = (if nI n = 0 then zd_k44 (nI N) (nI n) (nI d) (zg_p S1 8 v) 0 else (zg_X10_draw (zg_p S1 8 v) (nI n)).bind fun r76 => zd_k44 (nI N) (nI n) (nI d) r76.1 r76.2) := by
      rw [zd_drifts, zs.1, show nI N - 1 = nI (N - 1) from by rw [show (1 : Int32) = nI 1 by decide, za_sub h1], m1, zo_s, za_ai (by omega) (by decide), zo_s, m3, show (4 : Int32) = nI 4 by decide, d2 S1 rfl, zo_s]
    have e2 : zf_X9_driftDraft (zy_h z D1 w) z = (if nI n = 0 then zd_k33 z (nI d) (nI n) (zy_h z D2 w) 0 else (zf_X6_draw (zy_h z D2 w) (z + 2) (nI n)).bind fun r39 => zd_k33 z (nI d) (nI n) r39.1 r39.2) := by
      rw [zd_draft, if_neg (zy_is0 A1), zy_r0_1 A1, zo_s, zo_s, show (4 : Int32) = nI 4 by decide, d1, zo_s, zy_r0_6 A2, zo_s, zo_s, zy_g9_1 A2, zo_s, V2.1, zy_r0_1 A2, zo_s, zo_s]
    by_cases n0 : n = 0
    · refine ⟨0, D2, zg_p S1 8 v, Or.inr ⟨n0, rfl⟩, d3, ?_, ?_⟩
      · rw [e2, if_pos (by rw [n0]; rfl)]
        rfl
      · rw [e1, if_pos (by rw [n0]; rfl)]
        rfl
    · obtain ⟨s, D4, v2, hs, g1, g2, g3⟩ := zx_dft_draw d3 (x := n) (by omega) (by omega)
      refine ⟨s, D4, zg_p (zg_p S1 8 v) 8 v2, Or.inl hs, g3, ?_, ?_⟩
      · rw [e2, if_neg (nI_ne0 (by omega) (by omega)), g1, zo_s]
      · rw [e1, if_neg (nI_ne0 (by omega) (by omega)), g2 _ rfl, zo_s]
  obtain ⟨s, D4, S4, hs, df4, c1, c2⟩ := whr
  obtain ⟨D5, S5, n5, L5, p1, p2, Sh, E5, fb5, nb5, zs5, R5, Q5, V5, r5, r6⟩ := zx_dft_k hN df4 hd hs
  obtain ⟨w6, D6, E6, S6, q1, q2, q3, q4, q5, -⟩ := zx_grow zs5 R5 hN V5 (some (N - 1)) (fun k h => by cases h; exact hr) Q5 r5 r6
  refine ⟨zy_h z D1 w, zy_h z D5 w, w6, D6, E6, fb5, nb5, S6, k1, by rw [c1, p1], q1, ?_, q3, q4, zx_blk_trans (zx_h_blk z D5 w) q5⟩
  rw [c2, p2]
  unfold zd_k266
  rw [show nI N - 1 = nI (N - 1) from by rw [show (1 : Int32) = nI 1 by decide, za_sub h1], show zg_X10_comesTo S5 (nI (N - 1)) = some (S6, nI N) from q2, zo_s]
theorem zx_driftL {k : Nat} (hk : k ≤ 15) : ∀ (j i fu fu2 : Nat) (w : zc_H) (D : zy_D) (S : zm_S) (E f fb : Nat → Nat) (N nb : Nat), i + j = k → j < fu → j < fu2 → 1 ≤ N → N + j ≤ 16 → zx_s S N M → zx_RR z w D S (fun _ x => x = S.2.1 7 0) E f g f' g' fb N M N' M' nb → ∃ (w3 : zc_H) (D3 : zy_D) (E3 f3 fb3 : Nat → Nat) (nb3 : Nat) (S3 : zm_S), zf_X9_drift_L75 z (nI k) fu w (some (f (N - 1))) (nI i) = some (w3, some (f3 (N + j - 1))) ∧ zg_X10_drift_L51 (nI k) fu2 S (nI i) = some S3 ∧ zx_s S3 (N + j) M ∧ zx_RR z w3 D3 S3 (fun _ x => x = S3.2.1 7 0) E3 f3 g f' g' fb3 (N + j) M N' M' nb3 ∧ zx_blk z w w3 := by
  intro j
  induction j with
  | zero =>
    intro i fu fu2 w D S E f fb N nb h1 h2 h3 h4 h5 zs R
    obtain ⟨fu, rfl⟩ : ∃ n, fu = n + 1 := ⟨fu - 1, by omega⟩
    obtain ⟨fu2, rfl⟩ : ∃ n, fu2 = n + 1 := ⟨fu2 - 1, by omega⟩
    refine ⟨w, D, E, f, fb, nb, S, ?_, ?_, zs, R, zx_blk_refl z w⟩
    · unfold zf_X9_drift_L75
      rw [if_pos (nI_le (show k ≤ i by omega) (by omega))]
      rfl
    · unfold zg_X10_drift_L51
      rw [if_pos (nI_le (show k ≤ i by omega) (by omega))]
  | succ j ih =>
    intro i fu fu2 w D S E f fb N nb h1 h2 h3 h4 h5 zs R
    obtain ⟨fu, rfl⟩ : ∃ n, fu = n + 1 := ⟨fu - 1, by omega⟩
    obtain ⟨fu2, rfl⟩ : ∃ n, fu2 = n + 1 := ⟨fu2 - 1, by omega⟩
    obtain ⟨w1, w2, w3, D3, E3, fb3, nb3, S3, c1, c2, c3, c4, c5, c6, c7⟩ := zx_drift1 zs R h4 (by omega)
    obtain ⟨w4, D4, E4, f4, fb4, nb4, S4, g1, g2, g3, g4, g5⟩ := ih (i + 1) fu fu2 w3 D3 S3 E3 _ fb3 (N + 1) nb3 (by omega) (by omega) (by omega) (by omega) (by omega) c5 c6
    rw [show N + 1 - 1 = N by omega, va_up_self] at g1
    have A := R.1
    refine ⟨w4, D4, E4, f4, fb4, nb4, S4, ?_, ?_, by rw [show N + (j + 1) = N + 1 + j by omega]; exact g3, by rw [show N + (j + 1) = N + 1 + j by omega]; exact g4, zx_blk_trans c7 g5⟩
    · unfold zf_X9_drift_L75
      rw [if_neg (nI_ge (show i < k by omega) (by omega)), zy_r0_6 A, zo_s, zo_s, c1, zo_s, c2, zo_s, c3, zo_s, ← nI_succ, show N + (j + 1) = N + 1 + j by omega]
      exact g1
    · unfold zg_X10_drift_L51
      rw [if_neg (nI_ge (show i < k by omega) (by omega)), c4, zo_s, ← nI_succ]
      exact g2
theorem ze_drift {w : zc_H} {D : zy_D} {S : zm_S} {N M : Nat} (R : zx_R z w D S N M) (x1 : Int32) : zx_res z w (zf_X9_drift w z x1) (zg_X10_drift S x1) := by
  have A := zx_R_is R
  obtain ⟨hN, hM⟩ := zx_R_16 R
  have n1 : ¬ (1 : Int32) = 0 := by decide
  obtain ⟨zs, E, f, g, f', g', fb, N', M', nb, RR⟩ := id R
  obtain ⟨A', ⟨-, -, -, al3, al4, -⟩, docd, -⟩ := id RR
  have doc : zx_doc z w f g N M (S.2.1 1) (S.2.1 2) (S.2.2 3) (S.2.1 6) (fun _ x => x = S.2.1 7 0) := docd
  unfold zf_X9_drift zg_X10_drift
  dsimp only
  rw [if_neg (zy_is0 A), zy_r0_1 A, zo_s, zo_s, zy_r2_0 A, zo_s, zo_s, zk_al_size al3, zo_s, zs.1]
  by_cases n0 : N = 0
  · rw [if_pos (show nI N = 0 by rw [n0]; rfl), if_pos (show nI N = 0 by rw [n0]; rfl)]
    exact zx_no_res (c := 5) R (by decide) (by decide) (by decide) (by decide) rfl
  have nn : ¬ nI N = 0 := nI_ne0 (by omega) (by omega)
  rw [if_neg nn, if_neg nn]
  have R6 : zx_res z w ((zf_X9_refuse w z (-6)).bind fun r10 => some (r10.1, r10.2)) ((zg_X10_no S (-6)).bind fun r15 => some (r15.1, r15.2)) := zx_no_res (c := 6) R (by decide) (by decide) (by decide) (by decide) rfl
  by_cases c : x1 < 1
  · have wn : zg_X10_within S x1 1 15 = some 0 := by
      unfold zg_X10_within
      rw [if_pos c]
    rw [if_pos c, wn, zo_s, if_pos rfl]
    exact R6
  have c0 : ¬ x1 < 0 := fun h => c (Int32.lt_trans h (by decide))
  obtain ⟨k, hk, rfl⟩ := nI_of c0
  have k1 : 1 ≤ k := by
    rcases Nat.lt_or_ge k 1 with y | y
    · exact absurd (show nI k < 1 from nI_lt (show k < 1 from y) (by decide)) c
    · exact y
  rw [if_neg c]
  by_cases k15 : k ≤ 15
  · have wn : zg_X10_within S (nI k) 1 15 = some 1 := by
      unfold zg_X10_within
      rw [if_neg c, if_neg (show ¬ (15 : Int32) < nI k from nI_nlt k15 (by decide))]
    rw [if_pos (show nI k ≤ 15 from nI_le k15 (by decide)), wn, zo_s (1 : Int32), if_neg n1, za_add]
    by_cases full : N + k ≤ 16
    · obtain ⟨w3, D3, E3, f3, fb3, nb3, S3, g1, g2, g3, g4, g5⟩ := zx_driftL k15 k 0 16 2000 w D S E f fb N nb (by omega) (by omega) (by omega) (by omega) full zs RR
      have doc3 : zx_doc z w3 f3 g (N + k) M (S3.2.1 1) (S3.2.1 2) (S3.2.2 3) (S3.2.1 6) (fun _ x => x = S3.2.1 7 0) := g4.2.2.1
      have get := zk_al_get al3 (i := N - 1) (by omega)
      rw [if_pos (show nI (N + k) ≤ 16 from nI_le full (by decide)), if_pos (show nI (N + k) ≤ 16 from nI_le full (by decide)), zo_s, zo_s, zy_r2_0 A, zo_s, zo_s, show nI N - 1 = nI (N - 1) from by rw [show (1 : Int32) = nI 1 by decide, za_sub (by omega)], get, zo_s, if_neg (show ¬ ¬ zf_cc _ (some (f (N - 1))) 4 = true from not_not_intro (zx_rev_is doc (by omega))), show zf_X9_drift_L75 z (nI k) 16 w (some (f (N - 1))) 0 = _ from g1, zo_s, zo_s, zx_num doc3 (by omega), zo_s, show zg_X10_drift_L51 (nI k) 2000 S 0 = some S3 from g2, zo_s, g3.1, show nI (N + k) - 1 = nI (N + k - 1) from by rw [show (1 : Int32) = nI 1 by decide, za_sub (by omega)]]
      exact ⟨w3, S3, _, D3, N + k, M, rfl, rfl, ⟨g3, _, _, _, _, _, _, _, _, _, g4⟩, g5⟩
    · rw [if_neg (show ¬ nI (N + k) ≤ 16 from nI_ge (show 16 < N + k by omega) (by omega)), if_neg (show ¬ nI (N + k) ≤ 16 from nI_ge (show 16 < N + k by omega) (by omega))]
      exact zx_no_res (c := 7) R (by decide) (by decide) (by decide) (by decide) rfl
  · have wn : zg_X10_within S (nI k) 1 15 = some 0 := by
      unfold zg_X10_within
      rw [if_neg c, if_pos (show (15 : Int32) < nI k from nI_lt (show 15 < k by omega) hk)]
    rw [if_neg (show ¬ nI k ≤ 15 from nI_ge (show 15 < k by omega) hk), wn, zo_s, if_pos rfl]
    exact R6
end ZV
