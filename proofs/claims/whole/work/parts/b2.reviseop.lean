/-! revise -/
theorem zg_pn {S : zm_S} {j k : Nat} {x : Int32} (h : j ≠ k) : (zg_p S k x).1 j = S.1 j := va_up_ne S.1 x h
theorem zy_I1 {D : zy_D} {j k f : Nat} {x : Int32} (h : j ≠ k) : (zy_I D k f x).1 j = D.1 j := va_up_ne D.1 _ h
section ZV
variable {z : Nat} {w : zc_H} {D : zy_D} {S : zm_S} {E f g f' g' fb : Nat → Nat} {N M N' M' nb : Nat}
theorem zx_RR_12 {rdy : Nat → Int32 → Prop} (R : zx_RR z w D S rdy E f g f' g' fb N M N' M' nb) (a : Int32) : zx_RR z (zy_h z (zy_I D 0 5 a) w) (zy_I D 0 5 a) (zg_p S 12 a) rdy E f g f' g' fb N M N' M' nb := by
  obtain ⟨r1, r2, r3, r4, r5, r6⟩ := R
  have kp := zx_h_kp z (zy_I D 0 5 a) w
  have i1 : ∀ k, k ≠ 0 → (zy_I D 0 5 a).1 k = D.1 k := fun k h => va_up_ne _ _ h
  have p1 : ∀ k, k ≠ 12 → (zg_p S 12 a).1 k = S.1 k := fun k h => va_up_ne S.1 _ h
  have p2 : (zg_p S 12 a).1 12 = a := va_up_self S.1 12 a
  refine ⟨zy_is_h _ _ _, zx_V_t (w := w) (w2 := zy_h z (zy_I D 0 5 a) w) rfl (fun y hy => zy_o (Or.inr (by omega))) (fun k hk => zy_l hk) r2, zx_doc_t kp r3, zx_doc_t kp r4, ?_, ?_⟩
  · obtain ⟨d1, d2, d3, d4, d5, d6, d7, d8, d9, d10, d11⟩ := r5
    refine ⟨by rw [zy_In (by decide), p1 16 (by decide)]; exact d1, by rw [zy_Ii, p2], by rw [i1 2 (by decide)]; exact d3, by rw [i1 2 (by decide)]; exact d4, by rw [i1 2 (by decide)]; exact d5, by rw [i1 2 (by decide), p1 8 (by decide)]; exact d6, by rw [i1 2 (by decide)]; exact d7, d8, by rw [i1 20 (by decide), p1 13 (by decide)]; exact d9, d10, fun s hs => ?_⟩
    rw [i1 (22 + 2 * s) (by omega)]
    exact d11 s hs
  · unfold zx_im at r6 ⊢
    rw [i1 5 (by decide), p1 16 (by decide), p1 17 (by decide), p1 21 (by decide), p1 24 (by decide)]
    exact r6
theorem zx_s_rdd {S2 : zm_S} (Q : zx_rdd S S2 N) (zs : zx_s S N M) : zx_s S2 N M := by
  obtain ⟨b1, b2, b3, b4, b5, b6, b7⟩ := zs
  obtain ⟨q1, q2, q3, q4, q5⟩ := id Q
  exact ⟨by rw [q1]; exact b1, by rw [q1]; exact b2, by rw [q2 7 (by decide)]; exact b3, zx_co_N (zx_eqN_of Q) (fun j _ => by rw [q2 4 (by decide)]) b4, by rw [q1]; exact b5, by rw [q2 9 (by decide)]; exact b6, by rw [q2 10 (by decide)]; exact b7⟩
theorem zx_R_rdd {S2 : zm_S} (Q : zx_rdd S S2 N) (zs : zx_s S N M) (R : zx_RR z w D S (fun _ x => x = S.2.1 7 0) E f g f' g' fb N M N' M' nb) : zx_R z w D S2 N M := ⟨zx_s_rdd Q zs, E, f, g, f', g', fb, N', M', nb, by rw [Q.2.1 7 (by decide)]; exact zx_RR_N (zx_eqN_of Q) R⟩
theorem zx_s_p {k : Nat} {x : Int32} (h0 : k ≠ 0) (h5 : k ≠ 5) (h13 : k ≠ 13) (zs : zx_s S N M) : zx_s (zg_p S k x) N M := by
  obtain ⟨b1, b2, b3, b4, b5, b6, b7⟩ := zs
  have p1 : ∀ j, j ≠ k → (zg_p S k x).1 j = S.1 j := fun j h => va_up_ne S.1 _ h
  exact ⟨by rw [p1 0 (Ne.symm h0)]; exact b1, by rw [p1 5 (Ne.symm h5)]; exact b2, b3, b4, by rw [p1 13 (Ne.symm h13)]; exact b5, b6, b7⟩
theorem ze_revise (R : zx_R z w D S N M) (x1 x2 : Int32) : zx_res z w (zf_X9_revise w z x1 x2) (zg_X10_revise S x1 x2) := by
  have A := zx_R_is R
  have hz := (zx_R_z R).1
  obtain ⟨hN, hM⟩ := zx_R_16 R
  have n1 : ¬ (1 : Int32) = 0 := by decide
  obtain ⟨zs, E, f, g, f', g', fb, N', M', nb, RR⟩ := id R
  obtain ⟨A', ⟨-, -, -, al3, al4, -⟩, docd, -⟩ := id RR
  have doc : zx_doc z w f g N M (S.2.1 1) (S.2.1 2) (S.2.2 3) (S.2.1 6) (fun _ x => x = S.2.1 7 0) := docd
  -- the former, if there is one
  have e2 : ∃ ko : Option Nat, zf_X6_revisionAt w (z + 2) x2 = some (ko.map f) ∧ (∀ k, ko = some k → k < N ∧ x2 = nI k) ∧ (ko = none → x2 < 0 ∨ nI N ≤ x2) := by
    rcases zn_rng x2 (n := N) (by omega) with hx | ⟨r, hr, rfl⟩
    · exact ⟨none, zs_revN A al3 hx, (fun k h => by cases h), fun _ => hx⟩
    · exact ⟨some r, zs_rev A al3 hN hr (zx_rev_is doc hr), (fun k h => by cases h; exact ⟨hr, rfl⟩), (fun h => by cases h)⟩
  obtain ⟨ko, ek, ek1, ek2⟩ := e2
  unfold zf_X9_revise
  dsimp only
  rw [if_neg (zy_is0 A)]
  rcases zn_rng x1 (n := 8) (by decide) with hx | ⟨s, hs, rfl⟩
  · rw [zs_shelfN A hz hx, zo_s, zy_r0_1 A, zo_s, zo_s, ek, zo_s, if_pos rfl]
    unfold zg_X10_revise
    dsimp only
    rw [zr_noRowN hx, zo_s, if_pos rfl]
    exact zx_no_res (c := 1) R (by decide) (by decide) (by decide) (by decide) rfl
  obtain ⟨hv, e0, ⟨n, hn, g1, g1d⟩, g2⟩ := zx_R_s R hs
  have hr := zr_noRow hs hM hv
  have nb1 : ¬ zx_bar (S.2.1 9 s) = -1 := by
    unfold zx_bar
    split
    · decide
    · split <;> decide
  -- what follows when the former is known
  have main : (x2 = -1 ∨ ko ≠ none) → zx_res z w ((zf_X9_unfitAsRow w (some (z + (22 + 2 * s)))).bind fun r9 => if r9 = 0 then (zf_gr w z 9 6).bind fun v11 => v11.bind fun a13 => (zf_X0_readText w a13 (some (z + (22 + 2 * s)))).bind fun r14 => (zf_p r14.1 z 9 5 (.int (r14.2))).bind fun h15 => (zf_gi h15 z 9 5).bind fun v16 => if v16 = (-1) then (zf_gr h15 z 9 1).bind fun v19 => v19.bind fun a21 => (zf_gr h15 a21 6 0).bind fun v22 => v22.bind fun a24 => (zf_Jx4a65c_size_8abf5 h15 a24).bind fun r25 => if r25 < 16 then (zf_X9_addRevision h15 z (ko.map f)).bind fun r27 => r27.2.bind fun a28 => (zf_gi r27.1 a28 4 0).bind fun v29 => some (r27.1, v29) else (zf_X9_refuse h15 z (-7)).bind fun r31 => some (r31.1, r31.2) else (zf_X9_refuse h15 z (-6)).bind fun r32 => some (r32.1, r32.2) else (zf_X9_refuse w z r9).bind fun r33 => some (r33.1, r33.2)) (if 0 ≤ zx_bar (S.2.1 9 s) then (zg_X10_reads S (nI s)).bind fun r6 => (some (zg_p r6.1 12 (r6.2))).bind fun h7 => if (h7.1 12) = (-1) then if (h7.1 0) = 16 then (zg_X10_no h7 (-7)).bind fun r15 => some (r15.1, r15.2) else (zg_X10_comesTo h7 x2).bind fun r14 => some (r14.1, r14.2) else (zg_X10_no h7 (-6)).bind fun r16 => some (r16.1, r16.2) else (zg_X10_no S (zx_bar (S.2.1 9 s))).bind fun r17 => some (r17.1, r17.2)) := by
    intro hko
    have x2e : x2 = zq_f1 ko := by
      cases ko with
      | none => exact hko.resolve_right (fun h => h rfl)
      | some k => exact (ek1 k rfl).2
    rw [zs_unfit A hs hM (by rw [e0]; exact hv), zo_s, e0]
    rcases zx_bar_row hM hv with ⟨b, -⟩ | ⟨b, -⟩ | ⟨b, tt, htt, h9⟩
    · rw [b, if_neg (show ¬ (-3 : Int32) = 0 by decide), if_neg (show ¬ (0 : Int32) ≤ -3 by decide)]
      exact zx_no_res (c := 3) R (by decide) (by decide) (by decide) (by decide) rfl
    · rw [b, if_neg (show ¬ (-2 : Int32) = 0 by decide), if_neg (show ¬ (0 : Int32) ≤ -2 by decide)]
      exact zx_no_res (c := 2) R (by decide) (by decide) (by decide) (by decide) rfl
    obtain ⟨D1, S1, a, c1, c2, c3, c4, c5⟩ := zx_reads A hz hN R.1.1 hs htt hn g1 (e0.trans h9) g1d (fun i hi => g2 i (by omega))
    -- the fault is kept
    have RR1 := zx_RR_12 (zx_RR_sh RR c3 (zx_eqS_refl S)) a
    rw [zy_hh] at RR1
    have zs1 := zx_s_p (k := 12) (x := a) (by decide) (by decide) (by decide) zs
    have Q1 : zx_rdd (zg_p S 12 a) (zg_p S1 12 a) N := by
      obtain ⟨q1, q2⟩ := c4
      exact ⟨by show va_up S1.1 12 a = va_up S.1 12 a; rw [q1], q2⟩
    have A1 := RR1.1
    have e12 : (zy_I D1 0 5 a).1 0 5 = a := zy_Ii
    have f12 : (zg_p S1 12 a).1 12 = a := va_up_self S1.1 12 a
    have f0 : (zg_p S1 12 a).1 0 = nI N := (zg_pn (S := S1) (j := 0) (k := 12) (x := a) (by decide)).trans (by rw [c4.1]; exact R.1.1)
    have bl1 := zx_h_blk z (zy_I D1 0 5 a) w
    rw [b, if_pos rfl, if_pos (show (0 : Int32) ≤ 0 by decide), zy_r0_6 A, zo_s, zo_s, c1, zo_s, zy_p0_5 (zy_is_h _ _ _), zo_s, zy_hh, zy_g0_5 A1, zo_s, e12, c2, zo_s (S1, a), zo_s (zg_p S1 12 a), f12]
    by_cases am : a = -1
    · rw [if_pos am, if_pos am, zy_r0_1 A1, zo_s, zo_s, zy_r2_0 A1, zo_s, zo_s, zk_al_size RR1.2.1.2.2.2.1, zo_s, f0]
      by_cases hN16 : N < 16
      · obtain ⟨n2, L2, d1, d2, d3⟩ := c5 am
        have d1' : zy_dr (zy_I D1 0 5 a) n2 L2 := ⟨by rw [zy_I1 (by decide)]; exact d1.1, d1.2.1, d1.2.2⟩
        obtain ⟨w2, D2, E2, S2, k1, k2, k3, k4, k5, -⟩ := zx_grow zs1 RR1 hN16 d1' ko (fun k h => (ek1 k h).1) Q1 d2 d3
        have doc2 : zx_doc z w2 _ g (N + 1) M (S2.2.1 1) (S2.2.1 2) (S2.2.2 3) (S2.2.1 6) (fun _ x => x = S2.2.1 7 0) := k4.2.2.1
        have nu := zx_num doc2 (Nat.lt_succ_self N)
        rw [va_up_self] at nu
        rw [if_pos (show nI N < 16 from nI_lt hN16 (by decide)), if_neg (show ¬ nI N = 16 from fun h => by
          have := (za_eq (b := 16) (show N < 2 ^ 31 by omega) (by decide)).mp h
          omega), k1, zo_s, zo_s, nu, zo_s, x2e, k2, zo_s]
        exact ⟨w2, S2, _, D2, N + 1, M, rfl, rfl, ⟨k3, _, _, _, _, _, _, _, _, _, k4⟩, zx_blk_trans bl1 k5⟩
      · have hN' : N = 16 := by omega
        rw [if_neg (show ¬ nI N < 16 from nI_nlt (show 16 ≤ N by omega) (by omega)), if_pos (show nI N = 16 by rw [hN']; rfl)]
        exact zx_res_trans bl1 (zx_no_res (c := 7) (zx_R_rdd Q1 zs1 RR1) (by decide) (by decide) (by decide) (by decide) rfl)
    · rw [if_neg am, if_neg am]
      exact zx_res_trans bl1 (zx_no_res (c := 6) (zx_R_rdd Q1 zs1 RR1) (by decide) (by decide) (by decide) (by decide) rfl)
  rw [zs_shelf A hz hs, zo_s, zy_r0_1 A, zo_s, zo_s, ek, zo_s, if_neg (by simp)]
  unfold zg_X10_revise
  dsimp only
  rw [hr, zo_s (zx_bar (S.2.1 9 s)), if_neg nb1]
  by_cases xm : x2 = -1
  · rw [if_pos xm, if_pos xm]
    exact main (Or.inl xm)
  · rw [if_neg xm, if_neg xm]
    cases ko with
    | none =>
      rw [if_pos (show Option.map f none = none from rfl), zr_isRevN R.1.1 hN (ek2 rfl), zo_s, if_pos rfl]
      exact zx_no_res (c := 1) R (by decide) (by decide) (by decide) (by decide) rfl
    | some k =>
      obtain ⟨hk, rfl⟩ := ek1 k rfl
      rw [if_neg (by simp), zr_isRev R.1.1 hN hk, zo_s (1 : Int32), if_neg n1]
      exact main (Or.inr (by simp))
end ZV
