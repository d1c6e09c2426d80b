/-! image -/
theorem zr_image (S : zm_S) : ∃ S2, zg_X10_image S = some (S2, S.1 5) ∧ S2.1 16 = 1 ∧ S2.1 17 = S.1 0 ∧ S2.1 21 = S.1 5 ∧ S2.1 24 = S.1 8 ∧ (∀ k, k ≠ 16 → k ≠ 17 → k ≠ 21 → k ≠ 24 → S2.1 k = S.1 k) ∧ (∀ k, k ≠ 18 → k ≠ 19 → k ≠ 22 → k ≠ 23 → S2.2.1 k = S.2.1 k) ∧ (∀ k, k ≠ 20 → S2.2.2 k = S.2.2 k) ∧ (∀ i, i < 16 → S2.2.1 18 i = S.2.1 1 i ∧ S2.2.1 19 i = S.2.1 2 i) ∧ (∀ i, i < 384 → S2.2.2 20 i = S.2.2 3 i) ∧ (∀ i, i < 112 → S2.2.1 22 i = S.2.1 6 i) ∧ ∀ i, i < 3 → S2.2.1 23 i = S.2.1 7 i := by
  have a1 : (zg_p S 16 1).1 0 = S.1 0 := zg_pn (by decide)
  have a2 : (zg_p (zg_p S 16 1) 17 (S.1 0)).1 5 = S.1 5 := (zg_pn (by decide)).trans (zg_pn (by decide))
  have a3 : (zg_p (zg_p (zg_p S 16 1) 17 (S.1 0)) 21 (S.1 5)).1 8 = S.1 8 := (zg_pn (by decide)).trans ((zg_pn (by decide)).trans (zg_pn (by decide)))
  generalize hT : zg_p (zg_p (zg_p (zg_p S 16 1) 17 (S.1 0)) 21 (S.1 5)) 24 (S.1 8) = T
  have t2 : T.2 = S.2 := by rw [← hT]; rfl
  have t16 : T.1 16 = 1 := by rw [← hT]; exact (zg_pn (by decide)).trans ((zg_pn (by decide)).trans ((zg_pn (by decide)).trans zg_pp))
  have t17 : T.1 17 = S.1 0 := by rw [← hT]; exact (zg_pn (by decide)).trans ((zg_pn (by decide)).trans zg_pp)
  have t21 : T.1 21 = S.1 5 := by rw [← hT]; exact (zg_pn (by decide)).trans zg_pp
  have t24 : T.1 24 = S.1 8 := by rw [← hT]; exact zg_pp
  have tk : ∀ k, k ≠ 16 → k ≠ 17 → k ≠ 21 → k ≠ 24 → T.1 k = S.1 k := fun k h1 h2 h3 h4 => by rw [← hT]; exact (zg_pn h4).trans ((zg_pn h3).trans ((zg_pn h2).trans (zg_pn h1)))
  obtain ⟨S1, b1, b2, b3, b4, b5⟩ := zr_im31 16 0 2000 T (by omega) (by omega) (fun i hi => absurd hi (by omega))
  obtain ⟨S2, c1, c2, c3, c4, c5⟩ := zr_im69 384 0 2000 S1 (by omega) (by omega) (fun i hi => absurd hi (by omega))
  obtain ⟨S3, d1, d2, d3, d4, d5⟩ := zr_im96 112 0 2000 S2 (by omega) (by omega) (fun i hi => absurd hi (by omega))
  obtain ⟨S4, e1, e2, e3, e4, e5⟩ := zr_im122 3 0 2000 S3 (by omega) (by omega) (fun i hi => absurd hi (by omega))
  have f1 : S4.1 = T.1 := by rw [e2, d2, c2, b2]
  refine ⟨S4, ?_, by rw [f1, t16], by rw [f1, t17], by rw [f1, t21], by rw [f1, t24], fun k h1 h2 h3 h4 => by rw [f1, tk k h1 h2 h3 h4], fun k h1 h2 h3 h4 => ?_, fun k hk => ?_, fun i hi => ?_, fun i hi => ?_, fun i hi => ?_, fun i hi => ?_⟩
  · unfold zg_X10_image
    rw [zo_s, zo_s, a1, zo_s, a2, zo_s, a3, hT, show (0 : Int32) = nI 0 from rfl, b1, zo_s, c1, zo_s, d1, zo_s, e1, zo_s, f1, tk 5 (by decide) (by decide) (by decide) (by decide)]
  · rw [e3 k h4, d3 k h3, c3, b3 k h1 h2, t2]
  · rw [e4, d4, c4 k hk, b4, t2]
  · rw [e3 18 (by decide), d3 18 (by decide), e3 19 (by decide), d3 19 (by decide), c3, (b5 i hi).1, (b5 i hi).2, t2]
    exact ⟨rfl, rfl⟩
  · rw [e4, d4, c5 i hi, b4, t2]
  · rw [e3 22 (by decide), d5 i hi, c3, b3 6 (by decide) (by decide), t2]
  · rw [e5 i hi, d3 7 (by decide), c3, b3 7 (by decide) (by decide), t2]
section ZV
variable {z : Nat} {w : zc_H} {D : zy_D} {S : zm_S} {E f g f' g' fb : Nat → Nat} {N M N' M' nb : Nat}
theorem zx_elts {rdy : Nat → Int32 → Prop} {F C : Nat → Int32} {L : Nat → Int64} {T : Nat → Int32} (doc : zx_doc z w f g N M F C L T rdy) : (∀ i, i < N → z + 60 ≤ f i ∧ f i < w.2.1 ∧ zf_is w (f i) 4 = true) ∧ ∀ i, i < M → z + 60 ≤ g i ∧ g i < w.2.1 ∧ zf_is w (g i) 3 = true := ⟨fun i hi => ⟨(doc.2.2.1 i hi).1.1, by have := (doc.2.2.1 i hi).1.2.1; omega, zx_rev_is doc hi⟩, fun i hi => ⟨(doc.2.2.2 i hi).1, (doc.2.2.2 i hi).2.1, zx_rem_e doc hi⟩⟩
/-- the image's own numbers -/
def zy_F5 (D : zy_D) : zy_D := zy_I (zy_I (zy_I (zy_I (zy_I D 5 2 (D.1 2 2)) 5 3 (D.1 2 3)) 5 4 (D.1 2 4)) 5 5 (D.1 2 5)) 5 6 (D.1 2 6)
theorem zy_F5_v (D : zy_D) : (∀ k, k ≠ 5 → (zy_F5 D).1 k = D.1 k) ∧ (zy_F5 D).2 = D.2 ∧ (zy_F5 D).1 5 2 = D.1 2 2 ∧ (zy_F5 D).1 5 3 = D.1 2 3 ∧ (zy_F5 D).1 5 4 = D.1 2 4 ∧ (zy_F5 D).1 5 5 = D.1 2 5 ∧ (zy_F5 D).1 5 6 = D.1 2 6 := by
  unfold zy_F5
  refine ⟨fun k h => ?_, rfl, ?_, ?_, ?_, ?_, ?_⟩
  · rw [zy_I1 h, zy_I1 h, zy_I1 h, zy_I1 h, zy_I1 h]
  · rw [zy_In (by decide), zy_In (by decide), zy_In (by decide), zy_In (by decide), zy_Ii]
  · rw [zy_In (by decide), zy_In (by decide), zy_In (by decide), zy_Ii]
  · rw [zy_In (by decide), zy_In (by decide), zy_Ii]
  · rw [zy_In (by decide), zy_Ii]
  · rw [zy_Ii]
theorem zs_like5 {rdy : Nat → Int32 → Prop} (R : zx_RR z w D S rdy E f g f' g' fb N M N' M' nb) : ∃ (w4 : zc_H) (E2 : Nat → Nat), zf_X6_becomeLike w (z + 5) (some (z + 2)) = some (zy_h z (zy_F5 D) w4) ∧ zy_is z D w4 ∧ zx_V z w4 E2 f g f g fb N M N M nb ∧ zx_kp z w w4 ∧ zx_blk z w w4 := by
  obtain ⟨A, ⟨hz, hsz, hE, al3, al4, al6, al7, alb⟩, d1, d2, -⟩ := R
  have doc : zx_doc z w f g N M (S.2.1 1) (S.2.1 2) (S.2.2 3) (S.2.1 6) rdy := d1
  obtain ⟨w1, w2, w3, w4, E2, a1, a2, a3, a4, a5, a6, a7, a8, a9, a10, a11, a12, a13, a14⟩ := zs_like (q := 5) (s := 2) (k0 := 6) (k1 := 7) (l0 := 3) (l1 := 4) (fun _ _ A => zy_r5_0 A) (fun _ _ A => zy_r2_0 A) (fun _ _ A => zy_r5_1 A) (fun _ _ A => zy_r2_1 A) rfl rfl rfl rfl (by decide) A hz hsz hE al6 al7 al3 al4 doc.1 doc.2.1 (zx_elts doc).1 (zx_elts doc).2
  refine ⟨w4, E2, ?_, a6, ⟨a7, a8, a9, a14 3 _ _ rfl (by decide) (by decide) al3, a14 4 _ _ rfl (by decide) (by decide) al4, a12, a13, a14 16 _ _ rfl (by decide) (by decide) alb⟩, a10, a11⟩
  have i1 : ∀ (D : zy_D) (j f : Nat) (x : Int32), (zy_I D 5 j x).1 2 f = D.1 2 f := fun D j f x => by rw [zy_I1 (by decide)]
  unfold zf_X6_becomeLike zy_F5
  rw [if_neg (zy_is5 A), zy_r5_0 A, zo_s, zo_s, a1, zo_s, a2, zo_s, zy_r5_1 a5, zo_s, zo_s, a3, zo_s, a4, zo_s, zo_s, zy_g2_2 a6, zo_s, zy_p5_2 a6, zo_s, zy_g2_3 (zy_is_h _ _ _), zo_s, i1, zy_p5_3 (zy_is_h _ _ _), zo_s, zy_hh, zy_g2_4 (zy_is_h _ _ _), zo_s, i1, i1, zy_p5_4 (zy_is_h _ _ _), zo_s, zy_hh, zy_g2_5 (zy_is_h _ _ _), zo_s, i1, i1, i1, zy_p5_5 (zy_is_h _ _ _), zo_s, zy_hh, zy_g2_6 (zy_is_h _ _ _), zo_s, i1, i1, i1, i1, zy_p5_6 (zy_is_h _ _ _), zo_s, zy_hh]
theorem ze_image (R : zx_R z w D S N M) : zx_res z w (zf_X9_image w z) (zg_X10_image S) := by
  have A := zx_R_is R
  obtain ⟨hN, hM⟩ := zx_R_16 R
  obtain ⟨zs, E, f, g, f', g', fb, N', M', nb, RR⟩ := id R
  obtain ⟨A', V, docd, d2d, ds, im⟩ := id RR
  have doc : zx_doc z w f g N M (S.2.1 1) (S.2.1 2) (S.2.2 3) (S.2.1 6) (fun _ x => x = S.2.1 7 0) := docd
  obtain ⟨w4, E2, c1, c2, c3, c4, c5⟩ := zs_like5 RR
  obtain ⟨S2, r1, r16, r17, r21, r24, rk, rr, rl, r18, r20, r22, r23⟩ := zr_image S
  obtain ⟨v1, v2, v3, v4, v5, v6, v7⟩ := zy_F5_v D
  have kp : zx_kp z w (zy_h z (zy_I (zy_F5 D) 0 3 1) w4) := zx_kp_trans c4 (zx_h_kp z _ w4)
  have V2 : zx_V z (zy_h z (zy_I (zy_F5 D) 0 3 1) w4) E2 f g f g fb N M N M nb := zx_V_t (w := w4) (w2 := zy_h z (zy_I (zy_F5 D) 0 3 1) w4) rfl (fun y hy => zy_o (Or.inr (by omega))) (fun k hk => zy_l hk) c3
  have i1 : ∀ k, k ≠ 0 → k ≠ 5 → (zy_I (zy_F5 D) 0 3 1).1 k = D.1 k := fun k h h5 => (zy_I1 h).trans (v1 k h5)
  have i5 : (zy_I (zy_F5 D) 0 3 1).1 5 = (zy_F5 D).1 5 := zy_I1 (by decide)
  have dt := zx_doc_t kp doc
  obtain ⟨x1, x2, x3, x4, x5, x6, x7, x8, x9, x10, x11⟩ := ds
  unfold zf_X9_image
  rw [if_neg (zy_is0 A), zy_r0_2 A, zo_s, zy_r0_1 A, zo_s, zo_s, c1, zo_s, zy_p0_3 (zy_is_h _ _ _), zo_s, zy_hh, zy_r0_1 (zy_is_h _ _ _), zo_s, zo_s, zy_r2_1 (zy_is_h _ _ _), zo_s, zo_s, zk_al_size V2.2.2.2.2.1, zo_s, r1, zs.2.1]
  refine ⟨_, S2, nI M, zy_I (zy_F5 D) 0 3 1, N, M, rfl, rfl, ⟨?_, E2, f, g, f, g, fb, N, M, nb, zy_is_h _ _ _, V2, ?_, ?_, ?_, Or.inr ⟨r16, by rw [r17]; exact zs.1, by rw [r21]; exact zs.2.1, ?_, ?_, ?_, ?_, ?_, ?_⟩⟩, zx_blk_trans c5 (zx_h_blk z _ w4)⟩
  · obtain ⟨b1, b2, b3, b4, b5, b6, b7⟩ := zs
    exact ⟨by rw [rk 0 (by decide) (by decide) (by decide) (by decide)]; exact b1, by rw [rk 5 (by decide) (by decide) (by decide) (by decide)]; exact b2, by rw [rr 7 (by decide) (by decide) (by decide) (by decide)]; exact b3, zx_co_eq (rr 1 (by decide) (by decide) (by decide) (by decide)) (rr 2 (by decide) (by decide) (by decide) (by decide)) (rl 3 (by decide)) (rr 4 (by decide) (by decide) (by decide) (by decide)) (by rw [rr 7 (by decide) (by decide) (by decide) (by decide)]) b4, by rw [rk 13 (by decide) (by decide) (by decide) (by decide)]; exact b5, by rw [rr 9 (by decide) (by decide) (by decide) (by decide)]; exact b6, by rw [rr 10 (by decide) (by decide) (by decide) (by decide)]; exact b7⟩
  · unfold zx_d1
    rw [rr 1 (by decide) (by decide) (by decide) (by decide), rr 2 (by decide) (by decide) (by decide) (by decide), rr 6 (by decide) (by decide) (by decide) (by decide), rr 7 (by decide) (by decide) (by decide) (by decide), rl 3 (by decide)]
    exact dt
  · unfold zx_d2
    exact zx_doc_c (fun r hr => (r18 r (by omega)).1) (fun r hr => (r18 r (by omega)).2) (fun r hr i hi => r20 _ (by omega)) (fun k m hk hm => r22 _ (by omega)) (fun _ _ _ _ => trivial) dt
  · refine ⟨by rw [zy_Ii, r16], by rw [zy_In (by decide), v1 0 (by decide), rk 12 (by decide) (by decide) (by decide) (by decide)]; exact x2, ?_, ?_, ?_, ?_, ?_, ?_, ?_, ?_, fun s hs => ?_⟩
    · rw [i1 2 (by decide) (by decide), rr 7 (by decide) (by decide) (by decide) (by decide)]
      exact x3
    · rw [i1 2 (by decide) (by decide), rr 7 (by decide) (by decide) (by decide) (by decide)]
      exact x4
    · rw [i1 2 (by decide) (by decide), rr 7 (by decide) (by decide) (by decide) (by decide)]
      exact x5
    · rw [i1 2 (by decide) (by decide), rk 8 (by decide) (by decide) (by decide) (by decide)]
      exact x6
    · rw [i1 2 (by decide) (by decide), rr 6 (by decide) (by decide) (by decide) (by decide)]
      exact x7
    · rw [rr 15 (by decide) (by decide) (by decide) (by decide)]
      exact x8
    · rw [i1 20 (by decide) (by decide), rk 13 (by decide) (by decide) (by decide) (by decide)]
      exact x9
    · rw [rr 14 (by decide) (by decide) (by decide) (by decide)]
      exact x10
    · rw [i1 (22 + 2 * s) (by omega) (by omega), rr 9 (by decide) (by decide) (by decide) (by decide), rr 10 (by decide) (by decide) (by decide) (by decide), rl 11 (by decide)]
      exact x11 s hs
  · rw [i5, v4, x3, r23 0 (by decide)]
  · rw [i5, v5, x4, r23 1 (by decide)]
  · rw [i5, v6, x5, r23 2 (by decide)]
  · rw [i5, v7, x6, r24]
  · rw [i5, v3]
    intro i
    obtain ⟨y1, y2⟩ := x7 i
    exact ⟨fun hi => by rw [r22 _ (by omega)]; exact y1 hi, y2⟩
  · unfold zx_rules
    rw [r23 0 (by decide), r23 1 (by decide), r23 2 (by decide)]
    exact zs.2.2.1
end ZV
