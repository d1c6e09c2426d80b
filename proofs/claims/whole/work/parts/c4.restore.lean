/-! restore -/
def zr_T1 (S : zm_S) : zm_S := zg_p (zg_p (zg_p S 0 (S.1 17)) 5 (S.1 21)) 8 (S.1 24)
theorem zr_restore1 (S : zm_S) : ∃ T S1 S2 S3, zg_X10_restore_L40 2000 (zr_T1 S) 0 = some S1 ∧ zg_X10_restore_L78 2000 S1 0 = some S2 ∧ zg_X10_restore_L105 2000 S2 0 = some S3 ∧ zg_X10_restore_L131 2000 S3 0 = some T ∧ T.1 0 = S.1 17 ∧ T.1 5 = S.1 21 ∧ T.1 8 = S.1 24 ∧ (∀ k, k ≠ 0 → k ≠ 5 → k ≠ 8 → T.1 k = S.1 k) ∧ (∀ k, k ≠ 1 → k ≠ 2 → k ≠ 6 → k ≠ 7 → T.2.1 k = S.2.1 k) ∧ (∀ k, k ≠ 3 → T.2.2 k = S.2.2 k) ∧ (∀ i, i < 16 → T.2.1 1 i = S.2.1 18 i ∧ T.2.1 2 i = S.2.1 19 i) ∧ (∀ i, i < 384 → T.2.2 3 i = S.2.2 20 i) ∧ (∀ i, i < 112 → T.2.1 6 i = S.2.1 22 i) ∧ ∀ i, i < 3 → T.2.1 7 i = S.2.1 23 i := by
  have t2 : (zr_T1 S).2 = S.2 := rfl
  have t0 : (zr_T1 S).1 0 = S.1 17 := (zg_pn (by decide)).trans ((zg_pn (by decide)).trans zg_pp)
  have t5 : (zr_T1 S).1 5 = S.1 21 := (zg_pn (by decide)).trans zg_pp
  have t8 : (zr_T1 S).1 8 = S.1 24 := zg_pp
  have tk : ∀ k, k ≠ 0 → k ≠ 5 → k ≠ 8 → (zr_T1 S).1 k = S.1 k := fun k h1 h2 h3 => (zg_pn h3).trans ((zg_pn h2).trans (zg_pn h1))
  generalize zr_T1 S = T at *
  obtain ⟨S1, b1, b2, b3, b4, b5⟩ := zr_re40 16 0 2000 T (by omega) (by omega) (fun i hi => absurd hi (by omega))
  obtain ⟨S2, c1, c2, c3, c4, c5⟩ := zr_re78 384 0 2000 S1 (by omega) (by omega) (fun i hi => absurd hi (by omega))
  obtain ⟨S3, d1, d2, d3, d4, d5⟩ := zr_re105 112 0 2000 S2 (by omega) (by omega) (fun i hi => absurd hi (by omega))
  obtain ⟨S4, e1, e2, e3, e4, e5⟩ := zr_re131 3 0 2000 S3 (by omega) (by omega) (fun i hi => absurd hi (by omega))
  have f1 : S4.1 = T.1 := by rw [e2, d2, c2, b2]
  refine ⟨S4, S1, S2, S3, b1, c1, d1, e1, by rw [f1, t0], by rw [f1, t5], by rw [f1, t8], fun k h1 h2 h3 => by rw [f1, tk k h1 h2 h3], fun k h1 h2 h3 h4 => ?_, fun k hk => ?_, fun i hi => ?_, fun i hi => ?_, fun i hi => ?_, fun i hi => ?_⟩
  · rw [e3 k h4, d3 k h3, c3, b3 k h1 h2, t2]
  · rw [e4, d4, c4 k hk, b4, t2]
  · rw [e3 1 (by decide), d3 1 (by decide), e3 2 (by decide), d3 2 (by decide), c3, (b5 i hi).1, (b5 i hi).2, t2]
    exact ⟨rfl, rfl⟩
  · rw [e4, d4, c5 i hi, b4, t2]
  · rw [e3 6 (by decide), d5 i hi, c3, b3 22 (by decide) (by decide), t2]
  · rw [e5 i hi, d3 23 (by decide), c3, b3 23 (by decide) (by decide), t2]
theorem zr_restL {N run : Nat} (hr1 : 1 ≤ run) (hr9 : run ≤ 9) : ∀ (k fu t : Nat) (S : zm_S), t + k = N → k < fu → S.1 0 = nI N → S.2.1 7 0 = nI run → zx_fc S N → zx_co S t → ∃ S2, zg_X10_restore_L156 fu S (nI t) = some S2 ∧ zx_eq4 S S2 ∧ zx_co S2 N := by
  intro k
  induction k with
  | zero =>
    intro fu t S h1 h2 h3 h4 h5 h6
    obtain ⟨fl, rfl⟩ : ∃ fl, fu = fl + 1 := ⟨fu - 1, by omega⟩
    have e : t = N := by omega
    subst e
    refine ⟨S, ?_, zx_eq4_refl S, h6⟩
    unfold zg_X10_restore_L156
    rw [h3, if_pos (nI_le (Nat.le_refl _) (by have := h5.1; omega))]
  | succ k ih =>
    intro fu t S h1 h2 h3 h4 h5 h6
    obtain ⟨fl, rfl⟩ : ∃ fl, fu = fl + 1 := ⟨fu - 1, by omega⟩
    have hN := h5.1
    obtain ⟨S2, e1, e2, e3⟩ := zr_lrnStep h5 (show t < N by omega) h4 hr1 hr9 h6
    obtain ⟨S3, e4, e5, e6⟩ := ih fl (t + 1) S2 (by omega) (by omega) (by rw [e2.1 0 (by decide)]; exact h3) (by rw [e2.2.1 7 (by decide) (by decide)]; exact h4) (zx_fc_eq e2 h5) e3
    refine ⟨S3, ?_, zx_eq4_trans e2 e5, e6⟩
    unfold zg_X10_restore_L156
    rw [h3, if_neg (nI_ge (by omega) (by omega)), e1, zo_s, ← nI_succ]
    exact e4
section ZV
variable {z : Nat} {w : zc_H} {D : zy_D} {S : zm_S} {E f g f' g' fb : Nat → Nat} {N M N' M' nb : Nat}
def zy_F2 (D : zy_D) : zy_D := zy_I (zy_I (zy_I (zy_I (zy_I D 2 2 (D.1 5 2)) 2 3 (D.1 5 3)) 2 4 (D.1 5 4)) 2 5 (D.1 5 5)) 2 6 (D.1 5 6)
theorem zy_F2_v (D : zy_D) : (∀ k, k ≠ 2 → (zy_F2 D).1 k = D.1 k) ∧ (zy_F2 D).2 = D.2 ∧ (zy_F2 D).1 2 2 = D.1 5 2 ∧ (zy_F2 D).1 2 3 = D.1 5 3 ∧ (zy_F2 D).1 2 4 = D.1 5 4 ∧ (zy_F2 D).1 2 5 = D.1 5 5 ∧ (zy_F2 D).1 2 6 = D.1 5 6 := by
  unfold zy_F2
  refine ⟨fun k h => ?_, rfl, ?_, ?_, ?_, ?_, ?_⟩
  · rw [zy_I1 h, zy_I1 h, zy_I1 h, zy_I1 h, zy_I1 h]
  · rw [zy_In (by decide), zy_In (by decide), zy_In (by decide), zy_In (by decide), zy_Ii]
  · rw [zy_In (by decide), zy_In (by decide), zy_In (by decide), zy_Ii]
  · rw [zy_In (by decide), zy_In (by decide), zy_Ii]
  · rw [zy_In (by decide), zy_Ii]
  · rw [zy_Ii]
theorem zs_like2 {rdy : Nat → Int32 → Prop} (R : zx_RR z w D S rdy E f g f' g' fb N M N' M' nb) : ∃ (w4 : zc_H) (E2 : Nat → Nat), zf_X6_becomeLike w (z + 2) (some (z + 5)) = some (zy_h z (zy_F2 D) w4) ∧ zy_is z D w4 ∧ zx_V z w4 E2 f' g' f' g' fb N' M' N' M' nb ∧ zx_kp z w w4 ∧ zx_blk z w w4 := by
  obtain ⟨A, ⟨hz, hsz, hE, al3, al4, al6, al7, alb⟩, d1, d2, -⟩ := R
  have doc : zx_doc z w f' g' N' M' (S.2.1 18) (S.2.1 19) (S.2.2 20) (S.2.1 22) (fun _ _ => True) := d2
  obtain ⟨w1, w2, w3, w4, E2, a1, a2, a3, a4, a5, a6, a7, a8, a9, a10, a11, a12, a13, a14⟩ := zs_like (q := 2) (s := 5) (k0 := 3) (k1 := 4) (l0 := 6) (l1 := 7) (fun _ _ A => zy_r2_0 A) (fun _ _ A => zy_r5_0 A) (fun _ _ A => zy_r2_1 A) (fun _ _ A => zy_r5_1 A) rfl rfl rfl rfl (by decide) A hz hsz hE al3 al4 al6 al7 doc.1 doc.2.1 (zx_elts doc).1 (zx_elts doc).2
  refine ⟨w4, E2, ?_, a6, ⟨a7, a8, a9, a12, a13, a14 6 _ _ rfl (by decide) (by decide) al6, a14 7 _ _ rfl (by decide) (by decide) al7, a14 16 _ _ rfl (by decide) (by decide) alb⟩, a10, a11⟩
  have i1 : ∀ (D : zy_D) (j f : Nat) (x : Int32), (zy_I D 2 j x).1 5 f = D.1 5 f := fun D j f x => by rw [zy_I1 (by decide)]
  unfold zf_X6_becomeLike zy_F2
  rw [if_neg (zy_is2 A), zy_r2_0 A, zo_s, zo_s, a1, zo_s, a2, zo_s, zy_r2_1 a5, zo_s, zo_s, a3, zo_s, a4, zo_s, zo_s, zy_g5_2 a6, zo_s, zy_p2_2 a6, zo_s, zy_g5_3 (zy_is_h _ _ _), zo_s, i1, zy_p2_3 (zy_is_h _ _ _), zo_s, zy_hh, zy_g5_4 (zy_is_h _ _ _), zo_s, i1, i1, zy_p2_4 (zy_is_h _ _ _), zo_s, zy_hh, zy_g5_5 (zy_is_h _ _ _), zo_s, i1, i1, i1, zy_p2_5 (zy_is_h _ _ _), zo_s, zy_hh, zy_g5_6 (zy_is_h _ _ _), zo_s, i1, i1, i1, i1, zy_p2_6 (zy_is_h _ _ _), zo_s, zy_hh]
/-- a shelf loses its remark -/
theorem zx_RR_9 {rdy : Nat → Int32 → Prop} (R : zx_RR z w D S rdy E f g f' g' fb N M N' M' nb) {s : Nat} (hs : s < 8) (a : Int32) : zx_RR z (zy_h z (zy_I D (22 + 2 * s) 0 a) w) (zy_I D (22 + 2 * s) 0 a) (zx_SA S 9 (va_up (S.2.1 9) s a)) rdy E f g f' g' fb N M N' M' nb := by
  obtain ⟨r1, r2, r3, r4, r5, r6⟩ := R
  have kp := zx_h_kp z (zy_I D (22 + 2 * s) 0 a) w
  have i1 : ∀ k, k ≠ 22 + 2 * s → (zy_I D (22 + 2 * s) 0 a).1 k = D.1 k := fun k h => zy_I1 h
  have q1 : ∀ k, k ≠ 9 → (zx_SA S 9 (va_up (S.2.1 9) s a)).2.1 k = S.2.1 k := fun k h => zx_SAn S _ h
  refine ⟨zy_is_h _ _ _, zx_V_t (w := w) (w2 := zy_h z (zy_I D (22 + 2 * s) 0 a) w) rfl (fun y hy => zy_o (Or.inr (by omega))) (fun k hk => zy_l hk) r2, ?_, ?_, ?_, ?_⟩
  · unfold zx_d1 at r3 ⊢
    rw [q1 1 (by decide), q1 2 (by decide), q1 6 (by decide)]
    exact zx_doc_t kp r3
  · unfold zx_d2 at r4 ⊢
    rw [q1 18 (by decide), q1 19 (by decide), q1 22 (by decide)]
    exact zx_doc_t kp r4
  · obtain ⟨d1, d2, d3, d4, d5, d6, d7, d8, d9, d10, d11⟩ := r5
    refine ⟨by rw [i1 0 (by omega)]; exact d1, by rw [i1 0 (by omega)]; exact d2, by rw [i1 2 (by omega), q1 7 (by decide)]; exact d3, by rw [i1 2 (by omega), q1 7 (by decide)]; exact d4, by rw [i1 2 (by omega), q1 7 (by decide)]; exact d5, by rw [i1 2 (by omega)]; exact d6, by rw [i1 2 (by omega), q1 6 (by decide)]; exact d7, by rw [q1 15 (by decide)]; exact d8, by rw [i1 20 (by omega)]; exact d9, by rw [q1 14 (by decide)]; exact d10, fun t ht => ?_⟩
    rw [zx_SAa, q1 10 (by decide)]
    obtain ⟨e1, e2, e3⟩ := d11 t ht
    by_cases y : t = s
    · subst y
      rw [va_up_self, zy_Ii, zy_In (by decide)]
      exact ⟨rfl, e2, e3⟩
    · rw [va_up_ne _ _ y, i1 _ (by omega)]
      exact ⟨e1, e2, e3⟩
  · unfold zx_im at r6 ⊢
    rw [i1 5 (by omega), q1 22 (by decide), q1 23 (by decide)]
    exact r6
theorem zx_holdL {rdy : Nat → Int32 → Prop} {M0 : Nat} (h0 : M0 ≤ 16) : ∀ (j k fu fu2 : Nat) (w : zc_H) (D : zy_D) (S : zm_S), k + j = 8 → j < fu → j < fu2 → S.1 5 = nI M → zx_RR z w D S rdy E f g f' g' fb N M N' M' nb → (∀ s, s < 8 → zx_hold M0 (S.2.1 9 s)) → (∀ s, s < k → zx_hold M (S.2.1 9 s)) → ∃ (w2 : zc_H) (D2 : zy_D) (S2 : zm_S), zf_X9_restore_L31 z fu w (nI k) = some w2 ∧ zg_X10_restore_L177 fu2 S (nI k) = some S2 ∧ zx_RR z w2 D2 S2 rdy E f g f' g' fb N M N' M' nb ∧ S2.1 = S.1 ∧ (∀ k, k ≠ 9 → S2.2.1 k = S.2.1 k) ∧ S2.2.2 = S.2.2 ∧ (∀ s, s < 8 → zx_hold M (S2.2.1 9 s)) ∧ zx_blk z w w2 := by
  intro j
  induction j with
  | zero =>
    intro k fu fu2 w D S h1 h2 h3 h5 R a1 a2
    obtain ⟨fu, rfl⟩ : ∃ n, fu = n + 1 := ⟨fu - 1, by omega⟩
    obtain ⟨fu2, rfl⟩ : ∃ n, fu2 = n + 1 := ⟨fu2 - 1, by omega⟩
    have : k = 8 := by omega
    subst this
    refine ⟨w, D, S, ?_, ?_, R, rfl, fun _ _ => rfl, rfl, a2, zx_blk_refl z w⟩
    · unfold zf_X9_restore_L31
      rw [if_pos (show (8 : Int32) ≤ nI 8 by decide)]
    · unfold zg_X10_restore_L177
      rw [if_pos (show (8 : Int32) ≤ nI 8 by decide)]
  | succ j ih =>
    intro k fu fu2 w D S h1 h2 h3 h5 R a1 a2
    obtain ⟨fu, rfl⟩ : ∃ n, fu = n + 1 := ⟨fu - 1, by omega⟩
    obtain ⟨fu2, rfl⟩ : ∃ n, fu2 = n + 1 := ⟨fu2 - 1, by omega⟩
    have hk : k < 8 := by omega
    obtain ⟨A, ⟨hz, -, -, -, al4, -⟩, docd, -, ds, -⟩ := id R
    have doc : zx_doc z w f g N M (S.2.1 1) (S.2.1 2) (S.2.2 3) (S.2.1 6) rdy := docd
    have hM := doc.2.1
    have e0 : D.1 (22 + 2 * k) 0 = S.2.1 9 k := (ds.2.2.2.2.2.2.2.2.2.2 k hk).1
    have hk8 : ¬ (8 : Int32) ≤ nI k := nI_ge (show k < 8 from hk) (by decide)
    have stay : zx_hold M (S.2.1 9 k) → ∃ (w2 : zc_H) (D2 : zy_D) (S2 : zm_S), zf_X9_restore_L31 z fu w (nI (k + 1)) = some w2 ∧ zg_X10_restore_L177 fu2 S (nI (k + 1)) = some S2 ∧ zx_RR z w2 D2 S2 rdy E f g f' g' fb N M N' M' nb ∧ S2.1 = S.1 ∧ (∀ k, k ≠ 9 → S2.2.1 k = S.2.1 k) ∧ S2.2.2 = S.2.2 ∧ (∀ s, s < 8 → zx_hold M (S2.2.1 9 s)) ∧ zx_blk z w w2 := fun h => ih (k + 1) fu fu2 w D S (by omega) (by omega) (by omega) h5 R a1 (fun s hs => by
      by_cases y : s = k
      · subst y
        exact h
      · exact a2 s (by omega))
    unfold zf_X9_restore_L31 zg_X10_restore_L177
    dsimp only
    rw [if_neg hk8, if_neg hk8, zs_shelf A hz hk, zo_s, if_neg (by simp), zo_s, zs_hasRem A hk, zo_s, zr_isRow hk, zo_s (if S.2.1 9 k < 100 then (0 : Int32) else 1), za_ai hk (by decide), e0, zy_r0_1 A, zy_gS0 A hk, e0, ← nI_succ]
    rcases a1 k hk with h | ⟨m, hm, h⟩ | ⟨t, ht, h⟩
    · rw [h, if_pos rfl, if_pos rfl, if_pos (show (-1 : Int32) < 100 by decide), if_pos rfl, zo_s (-1 : Int32), h5, if_pos (show (-1 : Int32) < nI M from zq_m1lt (by omega))]
      exact stay (Or.inl h)
    · have q := zh_m (show m < 16 by omega)
      rw [h, if_neg q.2.2.2.2, if_neg q.2.2.1, if_neg (show ¬ (1 : Int32) = 0 by decide), zo_s, zo_s, zo_s, if_pos q.1, if_pos rfl, zo_s (nI m), h5]
      by_cases y : m < M
      · rw [zs_rem A al4 hM y (zx_rem_e doc y), zo_s, if_neg (by simp), if_pos (nI_lt y (by omega))]
        exact stay (Or.inr (Or.inl ⟨m, y, h⟩))
      · have R2 := zx_RR_9 R hk (-1)
        obtain ⟨w2, D2, S2, g1, g2, g3, g4, g5, g6, g7, g8⟩ := ih (k + 1) fu fu2 _ _ (zx_SA S 9 (va_up (S.2.1 9) k (-1))) (by omega) (by omega) (by omega) h5 R2 (fun s hs => by
          rw [zx_SAa]
          by_cases y2 : s = k
          · subst y2
            rw [va_up_self]
            exact Or.inl rfl
          · rw [va_up_ne _ _ y2]
            exact a1 s hs) (fun s hs => by
          rw [zx_SAa]
          by_cases y2 : s = k
          · subst y2
            rw [va_up_self]
            exact Or.inl rfl
          · rw [va_up_ne _ _ y2]
            exact a2 s (by omega))
        have hold : zf_X5_hold w (z + (22 + 2 * k)) (-1) = some (zy_h z (zy_I D (22 + 2 * k) 0 (-1)) w) := by
          unfold zf_X5_hold
          rw [if_neg (zy_isS A hk), zy_pS0 A hk, zo_s]
        rw [zs_remN A al4 (Or.inr (nI_le (show M ≤ m by omega) (by omega))), zo_s, if_pos rfl, hold, zo_s, if_neg (nI_nlt (show M ≤ m by omega) (by omega)), zx_si hk (by decide), zo_s]
        exact ⟨w2, D2, S2, g1, g2, g3, g4, fun k' hk' => (g5 k' hk').trans (zx_SAn S _ hk'), g6, g7, zx_blk_trans (zx_h_blk z _ w) g8⟩
    · have q := zh_t ht
      rw [h, if_neg q.2.2.2.2, if_pos q.2.2.1, if_pos rfl, if_neg q.1, if_neg (show ¬ (1 : Int32) = 0 by decide)]
      exact stay (Or.inr (Or.inr ⟨t, ht, h⟩))
theorem ze_restore (R : zx_R z w D S N M) : zx_res z w (zf_X9_restore w z) (zg_X10_restore S) := by
  have A := zx_R_is R
  obtain ⟨hN, hM⟩ := zx_R_16 R
  obtain ⟨zs, E, f, g, f', g', fb, N', M', nb, RR⟩ := id R
  obtain ⟨A', V, docd, d2d, ds, im⟩ := id RR
  have doc' : zx_doc z w f' g' N' M' (S.2.1 18) (S.2.1 19) (S.2.2 20) (S.2.1 22) (fun _ _ => True) := d2d
  obtain ⟨x1, x2, x3, x4, x5, x6, x7, x8, x9, x10, x11⟩ := id ds
  unfold zf_X9_restore
  rw [if_neg (zy_is0 A), zy_g0_3 A, zo_s, x1]
  rcases im with ⟨m16, -⟩ | ⟨m16, m17, m21, m3, m4, m5, m6, mb, mr⟩
  · rw [m16, if_pos rfl]
    unfold zg_X10_restore
    rw [m16, if_pos rfl]
    exact zx_no_res (c := 6) R (by decide) (by decide) (by decide) (by decide) rfl
  obtain ⟨w4, E2, c1, c2, c3, c4, c5⟩ := zs_like2 RR
  obtain ⟨T, S1, S2, S3, r1, r2, r3, r4, t0, t5, t8, tk, tr, tl, t18, t20, t22, t23⟩ := zr_restore1 S
  obtain ⟨v1, v2, v3, v4, v5, v6, v7⟩ := zy_F2_v D
  obtain ⟨run, need, margin, u1, u2, u3, u4, u5, u6, u7⟩ := mr
  have hN' := doc'.1
  have hM' := doc'.2.1
  have kp : zx_kp z w (zy_h z (zy_F2 D) w4) := zx_kp_trans c4 (zx_h_kp z _ w4)
  have V2 : zx_V z (zy_h z (zy_F2 D) w4) E2 f' g' f' g' fb N' M' N' M' nb := zx_V_t (w := w4) (w2 := zy_h z (zy_F2 D) w4) rfl (fun y hy => zy_o (Or.inr (by omega))) (fun k hk => zy_l hk) c3
  have dt := zx_doc_t kp doc'
  have run7 : T.2.1 7 0 = nI run := (t23 0 (by decide)).trans u1
  -- the class is like its image
  have RT : zx_RR z (zy_h z (zy_F2 D) w4) (zy_F2 D) T (fun _ _ => True) E2 f' g' f' g' fb N' M' N' M' nb := by
    refine ⟨zy_is_h _ _ _, V2, ?_, ?_, ?_, Or.inr ⟨by rw [tk 16 (by decide) (by decide) (by decide)]; exact m16, by rw [tk 17 (by decide) (by decide) (by decide)]; exact m17, by rw [tk 21 (by decide) (by decide) (by decide)]; exact m21, ?_, ?_, ?_, ?_, ?_, ?_⟩⟩
    · unfold zx_d1
      exact zx_doc_c (fun r hr => (t18 r (by omega)).1) (fun r hr => (t18 r (by omega)).2) (fun r hr i hi => t20 _ (by omega)) (fun k m hk hm => t22 _ (by omega)) (fun _ _ _ _ => trivial) dt
    · unfold zx_d2
      rw [tr 18 (by decide) (by decide) (by decide) (by decide), tr 19 (by decide) (by decide) (by decide) (by decide), tr 22 (by decide) (by decide) (by decide) (by decide), tl 20 (by decide)]
      exact dt
    · refine ⟨by rw [v1 0 (by decide), tk 16 (by decide) (by decide) (by decide)]; exact x1, by rw [v1 0 (by decide), tk 12 (by decide) (by decide) (by decide)]; exact x2, by rw [v4, m3, t23 0 (by decide)], by rw [v5, m4, t23 1 (by decide)], by rw [v6, m5, t23 2 (by decide)], by rw [v7, m6, t8], ?_, by rw [tr 15 (by decide) (by decide) (by decide) (by decide)]; exact x8, by rw [v1 20 (by decide), tk 13 (by decide) (by decide) (by decide)]; exact x9, by rw [tr 14 (by decide) (by decide) (by decide) (by decide)]; exact x10, fun s hs => ?_⟩
      · rw [v3]
        intro i
        obtain ⟨y1, y2⟩ := mb i
        exact ⟨fun hi => by rw [t22 _ (by omega)]; exact y1 hi, y2⟩
      · rw [v1 (22 + 2 * s) (by omega), tr 9 (by decide) (by decide) (by decide) (by decide), tr 10 (by decide) (by decide) (by decide) (by decide), tl 11 (by decide)]
        exact x11 s hs
    · rw [v1 5 (by decide), tr 23 (by decide) (by decide) (by decide) (by decide)]
      exact m3
    · rw [v1 5 (by decide), tr 23 (by decide) (by decide) (by decide) (by decide)]
      exact m4
    · rw [v1 5 (by decide), tr 23 (by decide) (by decide) (by decide) (by decide)]
      exact m5
    · rw [v1 5 (by decide), tk 24 (by decide) (by decide) (by decide)]
      exact m6
    · rw [v1 5 (by decide), tr 22 (by decide) (by decide) (by decide) (by decide)]
      exact mb
    · rw [tr 23 (by decide) (by decide) (by decide) (by decide)]
      exact ⟨run, need, margin, u1, u2, u3, u4, u5, u6, u7⟩
  obtain ⟨w5, D5, k1, k2, k3, k4, k5⟩ := zs_steps u4 u5 run7 RT
  -- the reference learns
  obtain ⟨T2, l1, l2, l3⟩ := zr_restL (N := N') u4 u5 N' 2000 0 T (by omega) (by omega) (t0.trans m17) run7 (zx_fc_of RT.2.2.1) (fun r hr => absurd hr (by omega))
  have R5 := zx_RR_4 k2 l2
  have h5 : T2.1 5 = nI M' := (l2.1 5 (by decide)).trans (t5.trans m21)
  have row9 : T2.2.1 9 = S.2.1 9 := (l2.2.1 9 (by decide) (by decide)).trans (tr 9 (by decide) (by decide) (by decide) (by decide))
  obtain ⟨w6, D6, S6, g1, g2, g3, g4, g5, g6, g7, g8⟩ := zx_holdL hM 8 0 17 2000 w5 D5 T2 (by omega) (by omega) (by omega) h5 R5 (fun s hs => by rw [row9]; exact zs.2.2.2.2.2.1 s hs) (fun s hs => absurd hs (by omega))
  have A6 := g3.1
  have s7 : S6.2.1 7 = T.2.1 7 := (g5 7 (by decide)).trans (l2.2.1 7 (by decide) (by decide))
  have n16 : ¬ S.1 16 = 0 := by rw [m16]; decide
  rw [m16, if_neg (show ¬ (1 : Int32) = 0 by decide), zy_r0_1 A, zo_s, zy_r0_2 A, zo_s, zo_s, c1, zo_s, k1, zo_s, show zf_X9_restore_L31 z 17 w5 0 = some w6 from g1, zo_s, zy_r0_1 A6, zo_s, zo_s, zy_r2_1 A6, zo_s, zo_s, zk_al_size g3.2.1.2.2.2.2.1, zo_s]
  unfold zg_X10_restore
  have p17 : (zg_p S 0 (S.1 17)).1 21 = S.1 21 := zg_pn (by decide)
  have p24 : (zg_p (zg_p S 0 (S.1 17)) 5 (S.1 21)).1 24 = S.1 24 := (zg_pn (by decide)).trans (zg_pn (by decide))
  rw [if_neg n16, zo_s, zo_s, p17, zo_s, p24, show zg_p (zg_p (zg_p S 0 (S.1 17)) 5 (S.1 21)) 8 (S.1 24) = zr_T1 S from rfl, r1, zo_s, r2, zo_s, r3, zo_s, r4, zo_s, show zg_X10_restore_L156 2000 T 0 = some T2 from l1, zo_s, show zg_X10_restore_L177 2000 T2 0 = some S6 from g2, zo_s, g4, h5]
  obtain ⟨b1, b2, b3, b4, b5, b6, b7⟩ := zs
  refine ⟨w6, S6, nI M', D6, N', M', rfl, rfl, ⟨⟨by rw [g4, l2.1 0 (by decide), t0]; exact m17, by rw [g4]; exact h5, ?_, zx_co_eq (g5 1 (by decide)) (g5 2 (by decide)) (by rw [g6]) (g5 4 (by decide)) (by rw [g5 7 (by decide)]) l3, ?_, g7, ?_⟩, E2, f', g', f', g', fb, N', M', nb, ?_⟩, zx_blk_trans c5 (zx_blk_trans (zx_h_blk z _ w4) (zx_blk_trans k3 g8))⟩
  · rw [s7]
    exact ⟨run, need, margin, run7, (t23 1 (by decide)).trans u2, (t23 2 (by decide)).trans u3, u4, u5, u6, u7⟩
  · rw [g4, l2.1 13 (by decide), tk 13 (by decide) (by decide) (by decide)]
    exact b5
  · rw [g5 10 (by decide), l2.2.1 10 (by decide) (by decide), tr 10 (by decide) (by decide) (by decide) (by decide)]
    exact b7
  · rw [s7, run7]
    exact g3
end ZV
