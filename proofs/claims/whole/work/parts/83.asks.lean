/-! what revisions are asked: lines, letter, former, fault, seed -/
theorem zx_rv {z : Nat} {h : zc_H} {f g : Nat → Nat} {N M : Nat} {F C : Nat → Int32} {L : Nat → Int64} {T : Nat → Int32} {rdy : Nat → Int32 → Prop} {r : Nat} (B : zx_doc z h f g N M F C L T rdy) (hz : h.2.2 < z) (hr : r < N) : zk_rv h (f r) (f r + 1) (zx_n C r) (zx_l h (f r)) := by
  obtain ⟨o, rf, fo, c1, c2, -⟩ := B.2.2.1 r hr
  exact ⟨⟨_, _, _, _, c1⟩, c2, by have := o.1; omega⟩
theorem zx_C {z : Nat} {h : zc_H} {f g : Nat → Nat} {N M : Nat} {F C : Nat → Int32} {L : Nat → Int64} {T : Nat → Int32} {rdy : Nat → Int32 → Prop} {r : Nat} (B : zx_doc z h f g N M F C L T rdy) (hr : r < N) : C r = nI (zx_n C r) ∧ ∀ i, i < zx_n C r → zx_l h (f r) i = L (24 * r + i) ∧ ¬ zx_l h (f r) i = 0 := by
  obtain ⟨o, rf, fo, c1, c2, c3, c4, -⟩ := B.2.2.1 r hr
  exact ⟨c3, c4⟩
theorem zx_F {z : Nat} {h : zc_H} {f g : Nat → Nat} {N M : Nat} {F C : Nat → Int32} {L : Nat → Int64} {T : Nat → Int32} {rdy : Nat → Int32 → Prop} {r : Nat} (B : zx_doc z h f g N M F C L T rdy) (hr : r < N) : (F r = -1 ∧ zf_gr h (f r) 4 1 = some none) ∨ (zx_k F r < r ∧ F r = nI (zx_k F r) ∧ zf_gr h (f r) 4 1 = some (some (f (zx_k F r)))) := by
  obtain ⟨o, rf, fo, c1, c2, c3, c4, c5⟩ := B.2.2.1 r hr
  rcases c5 with ⟨e1, e2⟩ | ⟨e1, e2, e3, -⟩
  · exact Or.inl ⟨e1, by rw [zb_gr (x := fo) c1 rfl, e2]⟩
  · exact Or.inr ⟨e1, e2, by rw [zb_gr (x := fo) c1 rfl, e3]⟩
theorem zx_num {z : Nat} {h : zc_H} {f g : Nat → Nat} {N M : Nat} {F C : Nat → Int32} {L : Nat → Int64} {T : Nat → Int32} {rdy : Nat → Int32 → Prop} {r : Nat} (B : zx_doc z h f g N M F C L T rdy) (hr : r < N) : zf_gi h (f r) 4 0 = some (nI r) := by
  obtain ⟨o, rf, fo, c1, -⟩ := B.2.2.1 r hr
  exact zb_gi c1 rfl
theorem zx_inj {z : Nat} {h : zc_H} {f g : Nat → Nat} {N M : Nat} {F C : Nat → Int32} {L : Nat → Int64} {T : Nat → Int32} {rdy : Nat → Int32 → Prop} {r t : Nat} (B : zx_doc z h f g N M F C L T rdy) (hr : r < N) (ht : t < N) (e : f r = f t) : r = t := by
  have e1 := zx_num B hr
  have e2 := zx_num B ht
  have hN := B.1
  rw [e] at e1
  exact (za_eq (by omega) (by omega)).mp (Option.some.inj (e1.symm.trans e2))
theorem zs_hasL {h : zc_H} {a l n i : Nat} {f : Nat → Int64} (B : zk_rv h a l n f) (hn : n ≤ 24) (hi : i < n) : zf_X4_hasLine h a (nI i) = some 1 := by
  obtain ⟨⟨x0, x1, x3, x4, e1⟩, e2, e3⟩ := B
  unfold zf_X4_hasLine
  rw [if_neg (zb_is e1), if_neg (nI_pos (by omega)), zb_gr (x := some l) e1 rfl, zo_s, zo_s, zb_len e2 e3, zo_s, if_neg (nI_ge hi (by omega))]
theorem zs_hasLN {h : zc_H} {a l n : Nat} {f : Nat → Int64} {x : Int32} (B : zk_rv h a l n f) (hx : x < 0 ∨ nI n ≤ x) : zf_X4_hasLine h a x = some 0 := by
  obtain ⟨⟨x0, x1, x3, x4, e1⟩, e2, e3⟩ := B
  unfold zf_X4_hasLine
  rw [if_neg (zb_is e1)]
  by_cases c : x < 0
  · rw [if_pos c]
  · rw [if_neg c, zb_gr (x := some l) e1 rfl, zo_s, zo_s, zb_len e2 e3, zo_s, if_pos (hx.resolve_left c)]
theorem zr_isL {S : zm_S} {r n i : Nat} (hr : r < 17) (hC : S.2.1 2 r = nI n) (hn : n ≤ 24) (hi : i < n) : zg_X10_isLine S (nI r) (nI i) = some 1 := by
  unfold zg_X10_isLine
  rw [za_ai hr (by decide), zo_s, hC, zg_wi S hi (by omega), zo_s, if_neg (by decide)]
theorem zr_isLN {S : zm_S} {r n : Nat} {x : Int32} (hr : r < 17) (hC : S.2.1 2 r = nI n) (hn : n ≤ 24) (hx : x < 0 ∨ nI n ≤ x) : zg_X10_isLine S (nI r) x = some 0 := by
  unfold zg_X10_isLine
  rw [za_ai hr (by decide), zo_s, hC, zg_wo S hx (by omega), zo_s, if_neg (by decide)]
theorem ze_lines {z : Nat} {w : zc_H} {D : zy_D} {S : zm_S} {N M : Nat} (R : zx_R z w D S N M) (x1 : Int32) : zx_res z w (zf_X9_lines w z x1) (zg_X10_lines S x1) := by
  have A := zx_R_is R
  have hz := (zx_R_z R).1
  have hN := (zx_R_16 R).1
  obtain ⟨-, E, f, g, f', g', fb, N', M', nb, -, ⟨-, -, -, al3, -⟩, doc, -⟩ := id R
  unfold zf_X9_lines
  rw [if_neg (zy_is0 A), zy_r0_1 A, zo_s, zo_s]
  rcases zn_rng x1 (n := N) (by omega) with hx | ⟨r, hr, rfl⟩
  · rw [zs_revN A al3 hx, zo_s, if_pos rfl]
    unfold zg_X10_lines
    rw [zr_isRevN R.1.1 hN hx, zo_s, if_pos rfl]
    exact zx_no_res (c := 1) R (by decide) (by decide) (by decide) (by decide) rfl
  rw [zs_rev A al3 hN hr (zx_rev_is doc hr), zo_s, if_neg (by simp), zo_s, zk_count (zx_rv doc hz hr), zo_s]
  unfold zg_X10_lines
  rw [zr_isRev R.1.1 hN hr, zo_s, if_neg (by decide), za_ai (by omega) (by decide), zo_s, (zx_C doc hr).1]
  exact ⟨w, S, _, D, N, M, rfl, rfl, R, zx_blk_refl z w⟩
theorem za_and255 (y : Int64) : y.toInt32 &&& 255 = (y &&& 255).toInt32 := by
  rw [Int64.toInt32_and]
  rfl
theorem ze_letter {z : Nat} {w : zc_H} {D : zy_D} {S : zm_S} {N M : Nat} (R : zx_R z w D S N M) (x1 x2 x3 : Int32) : zx_res z w (zf_X9_letter w z x1 x2 x3) (zg_X10_letter S x1 x2 x3) := by
  have A := zx_R_is R
  have hz := (zx_R_z R).1
  have hN := (zx_R_16 R).1
  have n1 : ¬ (1 : Int32) = 0 := by decide
  obtain ⟨-, E, f, g, f', g', fb, N', M', nb, -, ⟨-, -, -, al3, -⟩, doc, -⟩ := id R
  unfold zf_X9_letter
  dsimp only
  rw [if_neg (zy_is0 A), zy_r0_1 A, zo_s, zo_s]
  rcases zn_rng x1 (n := N) (by omega) with hx | ⟨r, hr, rfl⟩
  · rw [zs_revN A al3 hx, zo_s, if_pos rfl]
    unfold zg_X10_letter
    rw [zr_isRevN R.1.1 hN hx, zo_s, if_pos rfl]
    exact zx_no_res (c := 1) R (by decide) (by decide) (by decide) (by decide) rfl
  have rv := zx_rv doc hz hr
  obtain ⟨hC, hL⟩ := zx_C doc hr
  have h24 := zx_n24 (S.2.1 2) r
  rw [zs_rev A al3 hN hr (zx_rev_is doc hr), zo_s, if_neg (by simp), zo_s]
  rcases zn_rng x2 (n := zx_n (S.2.1 2) r) (by omega) with hx | ⟨i, hi, rfl⟩
  · rw [zs_hasLN rv hx, zo_s, if_pos rfl]
    unfold zg_X10_letter
    dsimp only
    rw [zr_isRev R.1.1 hN hr, zo_s, if_neg n1, zr_isLN (by omega) hC h24 hx, zo_s, if_pos rfl]
    exact zx_no_res (c := 5) R (by decide) (by decide) (by decide) (by decide) rfl
  rw [zs_hasL rv h24 hi, zo_s, if_neg n1]
  rcases zn_rng x3 (n := 9) (by decide) with hx | ⟨k, hk, rfl⟩
  · have e : ∀ X Y : Option (zc_H × Int32), (if x3 < 0 then X else if x3 ≤ 8 then Y else X) = X := by
      intro X Y
      by_cases c : x3 < 0
      · rw [if_pos c]
      · obtain ⟨j, hj, rfl⟩ := nI_of c
        have := (za_le (by decide) hj).mp (hx.resolve_left c)
        rw [if_neg c, if_neg (show ¬ nI j ≤ 8 from nI_ge (show 8 < j by omega) hj)]
    rw [e]
    unfold zg_X10_letter
    dsimp only
    rw [zr_isRev R.1.1 hN hr, zo_s, if_neg n1, zr_isL (by omega) hC h24 hi, zo_s, if_neg n1, zg_wn S (n := 8) (y := 8) rfl hx (by decide), zo_s, if_pos rfl]
    exact zx_no_res (c := 5) R (by decide) (by decide) (by decide) (by decide) rfl
  rw [if_neg (nI_pos (by omega)), if_pos (show nI k ≤ 8 from nI_le (show k ≤ 8 by omega) (by decide)), zk_lineI rv (by omega) hi, zo_s]
  unfold zg_X10_letter zf_X9_letterOf
  dsimp only
  rw [if_neg (nI_pos (by omega)), zr_isRev R.1.1 hN hr, zo_s, if_neg n1, zr_isL (by omega) hC h24 hi, zo_s, if_neg n1, zg_wy S (n := 8) (y := 8) rfl (by omega) (by decide), zo_s, if_neg n1]
  by_cases c : k = 8
  · subst c
    rw [if_neg (by decide), if_pos (by decide), zo_s]
    exact ⟨w, S, _, D, N, M, rfl, rfl, R, zx_blk_refl z w⟩
  · rw [if_pos (show nI k < 8 from nI_lt (show k < 8 by omega) (by decide)), if_neg (show ¬ nI k = 8 from fun y => c ((za_eq (by omega) (by decide)).mp y)), zo_s, za_24, za_aj (by omega) (by decide), zo_s, (hL i hi).1, za_and255]
    exact ⟨w, S, _, D, N, M, rfl, rfl, R, zx_blk_refl z w⟩
theorem ze_former {z : Nat} {w : zc_H} {D : zy_D} {S : zm_S} {N M : Nat} (R : zx_R z w D S N M) (x1 : Int32) : zx_res z w (zf_X9_former w z x1) (zg_X10_former S x1) := by
  have A := zx_R_is R
  have hz := (zx_R_z R).1
  have hN := (zx_R_16 R).1
  obtain ⟨-, E, f, g, f', g', fb, N', M', nb, -, ⟨-, -, -, al3, -⟩, doc, -⟩ := id R
  unfold zf_X9_former
  rw [if_neg (zy_is0 A), zy_r0_1 A, zo_s, zo_s]
  rcases zn_rng x1 (n := N) (by omega) with hx | ⟨r, hr, rfl⟩
  · rw [zs_revN A al3 hx, zo_s, if_pos rfl]
    unfold zg_X10_former
    rw [zr_isRevN R.1.1 hN hx, zo_s, if_pos rfl]
    exact zx_no10_res (c := 1) R (by decide) (by decide) (by decide) (by decide) rfl
  rw [zs_rev A al3 hN hr (zx_rev_is doc hr), zo_s, if_neg (by simp), zo_s]
  unfold zg_X10_former
  rw [zr_isRev R.1.1 hN hr, zo_s, if_neg (by decide), za_ai (by omega) (by decide), zo_s]
  rcases zx_F doc hr with ⟨e1, e2⟩ | ⟨e1, e2, e3⟩
  · rw [e2, zo_s, if_pos rfl, e1]
    exact ⟨w, S, _, D, N, M, rfl, rfl, R, zx_blk_refl z w⟩
  · rw [e3, zo_s, if_neg (by simp), zo_s, zo_s, zx_num doc (show zx_k (S.2.1 1) r < N by omega), zo_s, ← e2]
    exact ⟨w, S, _, D, N, M, rfl, rfl, R, zx_blk_refl z w⟩
theorem ze_fault {z : Nat} {w : zc_H} {D : zy_D} {S : zm_S} {N M : Nat} (R : zx_R z w D S N M) : ∃ a, zf_X9_fault w z = some a ∧ zg_X10_fault S = some a := by
  have A := zx_R_is R
  unfold zf_X9_fault zg_X10_fault
  rw [if_neg (zy_is0 A), zy_g0_5 A, zo_s, (zx_R_ds R).2.1]
  exact ⟨_, rfl, rfl⟩
theorem ze_seed {z : Nat} {w : zc_H} {D : zy_D} {S : zm_S} {N M : Nat} (R : zx_R z w D S N M) (x1 : Int32) : zx_res z w (zf_X9_seed w z x1) (zg_X10_seed S x1) := by
  have A := zx_R_is R
  obtain ⟨c1, c2, c3, c4, c5, c6, c7, c8, c9, c10, c11⟩ := zx_R_ds R
  unfold zf_X9_seed zg_X10_seed
  rw [if_neg (zy_is0 A), zy_r0_1 A, zo_s, zo_s, zy_g2_6 A, zo_s, zo_s, zo_s, zy_p2_6 A, zo_s, zo_s, c6]
  refine zx_res_i (N2 := N) (M2 := M) rfl rfl ?_
  refine zx_R_ov R rfl (fun y hy => zy_o (Or.inr (by omega))) (fun k hk => zy_l hk) (zy_is_h _ _ _) ⟨R.1.1, R.1.2.1, R.1.2.2.1, R.1.2.2.2.1, R.1.2.2.2.2.1, R.1.2.2.2.2.2.1, R.1.2.2.2.2.2.2⟩ ⟨rfl, rfl, rfl, fun _ _ => rfl, rfl, rfl, rfl, rfl⟩ rfl ⟨c1, c2, c3, c4, c5, rfl, c7, c8, c9, c10, fun s hs => ?_⟩ (fun N' M' h => h)
  obtain ⟨d1, d2, d3⟩ := c11 s hs
  refine ⟨?_, ?_, d3⟩
  · show va_up D.1 2 _ (22 + 2 * s) 0 = _
    rw [va_up_ne _ _ (by omega)]
    exact d1
  · show va_up D.1 2 _ (22 + 2 * s) 1 = _
    rw [va_up_ne _ _ (by omega)]
    exact d2
theorem ze_trace {z : Nat} {w : zc_H} {D : zy_D} {S : zm_S} {N M : Nat} (R : zx_R z w D S N M) (x1 : Int32) : ∃ a, zf_X9_trace w z x1 = some a ∧ zg_X10_trace S x1 = some a := by
  have A := zx_R_is R
  have hz := (zx_R_z R).1
  obtain ⟨c1, c2, c3, c4, c5, c6, c7, c8, c9, c10, c11⟩ := zx_R_ds R
  obtain ⟨t, ht, ht2⟩ := R.1.2.2.2.2.1
  have n1 : ¬ (1 : Int32) = 0 := by decide
  unfold zf_X9_trace zf_X2_bodyAt zg_X10_trace
  rw [if_neg (zy_is0 A), zy_r0_10 A, zo_s, zo_s, if_neg (zy_is20 A), ht]
  have e : (if nI t < 20 then nI t else 20) = nI (min t 20) := by
    by_cases c : t < 20
    · rw [if_pos (show nI t < 20 from nI_lt c (by decide)), Nat.min_eq_left (by omega)]
    · rw [if_neg (show ¬ nI t < 20 from nI_nlt (show 20 ≤ t by omega) (by omega)), Nat.min_eq_right (by omega)]
      rfl
  rw [e]
  rcases zn_rng x1 (n := min t 20) (by omega) with hx | ⟨i, hi, rfl⟩
  · rw [zg_wo S hx (by omega), zo_s, if_pos (show (0 : Int32) = 0 from rfl)]
    by_cases c : x1 < 0
    · rw [if_pos c, zo_s]
      exact ⟨_, rfl, rfl⟩
    obtain ⟨j, hj, rfl⟩ := nI_of c
    have := (za_le (by omega) hj).mp (hx.resolve_left c)
    rw [if_neg c, zy_g20_1 A, zo_s, c9, ht]
    by_cases d : t ≤ j
    · rw [if_pos (nI_le d hj), zo_s]
      exact ⟨_, rfl, rfl⟩
    · rw [if_neg (nI_ge (by omega) (by omega)), zy_r20_0 A, zo_s, zo_s, zy_n21 A hz, zo_s, if_pos (show (20 : Int32) ≤ nI j from nI_le (show 20 ≤ j by omega) hj), zo_s]
      exact ⟨_, rfl, rfl⟩
  · rw [zg_wi S hi (by omega), zo_s, if_neg n1, if_neg (nI_pos (by omega)), zy_g20_1 A, zo_s, c9, ht, if_neg (nI_ge (by omega) (by omega)), zy_r20_0 A, zo_s, zo_s, zy_n21 A hz, zo_s, if_neg (show ¬ (20 : Int32) ≤ nI i from nI_ge (show i < 20 by omega) (by decide)), zo_s, zo_s, zy_a21 A (by omega), zo_s, zo_s, za_ai (by omega) (by decide), zo_s, c10 i (by omega)]
    exact ⟨_, rfl, rfl⟩
