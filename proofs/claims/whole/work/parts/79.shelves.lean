/-! shelves -/
/-- what an operation's two sides come to -/
def zx_res (z : Nat) (w : zc_H) (o1 : Option (zc_H × Int32)) (o2 : Option (zm_S × Int32)) : Prop := ∃ (w2 : zc_H) (S2 : zm_S) (a : Int32) (D2 : zy_D) (N2 M2 : Nat), o1 = some (w2, a) ∧ o2 = some (S2, a) ∧ zx_R z w2 D2 S2 N2 M2 ∧ zx_blk z w w2
theorem zx_res_i {z : Nat} {w : zc_H} {D2 : zy_D} {S2 : zm_S} {N2 M2 : Nat} {a : Int32} {o1 : Option (zc_H × Int32)} {o2 : Option (zm_S × Int32)} (h1 : o1 = some (zy_h z D2 w, a)) (h2 : o2 = some (S2, a)) (h3 : zx_R z (zy_h z D2 w) D2 S2 N2 M2) : zx_res z w o1 o2 := ⟨_, _, _, _, _, _, h1, h2, h3, fun _ h _ => zy_o (Or.inr h)⟩
/-- the reference with another row of ints -/
def zx_SA (S : zm_S) (k : Nat) (c : Nat → Int32) : zm_S := (S.1, va_up S.2.1 k c, S.2.2)
theorem zx_SAa {S : zm_S} {k : Nat} {c : Nat → Int32} : (zx_SA S k c).2.1 k = c := va_up_self _ _ _
theorem zx_SAA {S : zm_S} {k : Nat} {c d : Nat → Int32} : zx_SA (zx_SA S k c) k d = zx_SA S k d := by
  unfold zx_SA
  dsimp only
  rw [zu_twice]
theorem zx_SAi (S : zm_S) (k : Nat) : zx_SA S k (S.2.1 k) = S := by
  unfold zx_SA
  rw [zu_self]
theorem zx_si {S : zm_S} {k n i : Nat} {x : Int32} (hi : i < n) (hn : n < 2 ^ 31) : zg_si k n S (nI i) x = some (zx_SA S k (va_up (S.2.1 k) i x)) := za_si hi hn
theorem zx_R_is {z : Nat} {w : zc_H} {D : zy_D} {S : zm_S} {N M : Nat} (R : zx_R z w D S N M) : zy_is z D w := by
  obtain ⟨-, E, f, g, f', g', fb, N', M', nb, r, -⟩ := R
  exact r
theorem zx_R_z {z : Nat} {w : zc_H} {D : zy_D} {S : zm_S} {N M : Nat} (R : zx_R z w D S N M) : w.2.2 < z ∧ z + 60 ≤ w.2.1 := by
  obtain ⟨-, E, f, g, f', g', fb, N', M', nb, -, r, -⟩ := R
  exact ⟨r.1, r.2.1⟩
theorem zx_R_16 {z : Nat} {w : zc_H} {D : zy_D} {S : zm_S} {N M : Nat} (R : zx_R z w D S N M) : N ≤ 16 ∧ M ≤ 16 := by
  obtain ⟨-, E, f, g, f', g', fb, N', M', nb, -, -, r, -⟩ := R
  exact ⟨r.1, r.2.1⟩
theorem zx_R_ds {z : Nat} {w : zc_H} {D : zy_D} {S : zm_S} {N M : Nat} (R : zx_R z w D S N M) : zx_ds D S M := by
  obtain ⟨-, E, f, g, f', g', fb, N', M', nb, -, -, -, -, r, -⟩ := R
  exact r
theorem zx_no_res {z c : Nat} {w : zc_H} {D : zy_D} {S : zm_S} {N M : Nat} {x y : Int32} (R : zx_R z w D S N M) (h1 : 1 ≤ c) (h2 : c < 8) (hx : (-x) - (-x) / 10 * 10 = nI c) (hy : y = -nI c) (hxy : x = y) : zx_res z w ((zf_X9_refuse w z x).bind fun r => some (r.1, r.2)) ((zg_X10_no S y).bind fun r => some (r.1, r.2)) := by
  rw [zs_refuse (zx_R_is R) (zx_R_z R).1 hx h1 h2, zr_no hy h1 h2]
  exact ⟨_, _, y, _, N, M, by rw [hxy]; rfl, rfl, zx_R_no R, zx_h_blk z _ w⟩
theorem zx_no10_res {z c : Nat} {w : zc_H} {D : zy_D} {S : zm_S} {N M : Nat} {x y : Int32} (R : zx_R z w D S N M) (h1 : 1 ≤ c) (h2 : c < 8) (hx : (-x) - (-x) / 10 * 10 = nI c) (hy : y = -nI c) (hxy : x = y - 10) : zx_res z w ((zf_X9_refuse w z x).bind fun r => some (r.1, r.2)) ((zg_X10_no10 S y).bind fun r => some (r.1, r.2)) := by
  rw [zs_refuse (zx_R_is R) (zx_R_z R).1 hx h1 h2, zr_no10 hy h1 h2]
  exact ⟨_, _, y - 10, _, N, M, by rw [hxy]; rfl, rfl, zx_R_no R, zx_h_blk z _ w⟩
theorem zx_res_trans {z : Nat} {w w2 : zc_H} {o1 : Option (zc_H × Int32)} {o2 : Option (zm_S × Int32)} (A : zx_blk z w w2) (B : zx_res z w2 o1 o2) : zx_res z w o1 o2 := by
  obtain ⟨w3, S2, a, D2, N2, M2, b1, b2, b3, b4⟩ := B
  exact ⟨w3, S2, a, D2, N2, M2, b1, b2, b3, zx_blk_trans A b4⟩
/-- a shelf changes -/
theorem zx_R_sup {z s : Nat} {w : zc_H} {D D2 : zy_D} {S S2 : zm_S} {N M : Nat} (R : zx_R z w D S N M) (hs : s < 8) (hD : ∀ k, k ≠ 22 + 2 * s → D2.1 k = D.1 k) (hDa : D2.2.1 = D.2.1) (hDj : ∀ k, k ≠ 23 + 2 * s → D2.2.2 k = D.2.2 k) (hS1 : S2.1 = S.1) (hS2 : ∀ k, k ≠ 9 → k ≠ 10 → S2.2.1 k = S.2.1 k) (hS3 : ∀ k, k ≠ 11 → S2.2.2 k = S.2.2 k) (h9 : ∀ t, t < 8 → t ≠ s → S2.2.1 9 t = S.2.1 9 t) (h10 : ∀ t, t < 8 → t ≠ s → S2.2.1 10 t = S.2.1 10 t) (h11 : ∀ t, t < 8 → t ≠ s → ∀ i, i < 160 → S2.2.2 11 (160 * t + i) = S.2.2 11 (160 * t + i)) (n9 : D2.1 (22 + 2 * s) 0 = S2.2.1 9 s) (n10 : D2.1 (22 + 2 * s) 1 = S2.2.1 10 s) (n11 : ∀ i, i < 160 → D2.2.2 (23 + 2 * s) i = S2.2.2 11 (160 * s + i)) (hh : zx_hold M (S2.2.1 9 s)) (hl : ∃ n, n ≤ 160 ∧ S2.2.1 10 s = nI n) : zx_R z (zy_h z D2 w) D2 S2 N M := by
  have h2 : ∀ k, ¬ (k = 9 ∨ k = 10) → S2.2.1 k = S.2.1 k := fun k h => hS2 k (fun q => h (Or.inl q)) (fun q => h (Or.inr q))
  refine zx_R_ov R rfl (fun y hy => zy_o (Or.inr (by omega))) (fun k hk => zy_l hk) (zy_is_h _ _ _) ?_ ⟨h2 1 (by decide), h2 2 (by decide), hS3 3 (by decide), fun _ _ => by rw [h2 6 (by decide)], h2 18 (by decide), h2 19 (by decide), hS3 20 (by decide), h2 22 (by decide)⟩ (by rw [h2 7 (by decide)]) ?_ ?_
  · obtain ⟨⟨b1, b2, b3, b4, b5, b6, b7⟩, -⟩ := R
    refine ⟨by rw [hS1]; exact b1, by rw [hS1]; exact b2, by rw [h2 7 (by decide)]; exact b3, zx_co_eq (h2 1 (by decide)) (h2 2 (by decide)) (hS3 3 (by decide)) (h2 4 (by decide)) (by rw [h2 7 (by decide)]) b4, by rw [hS1]; exact b5, fun t ht => ?_, fun t ht => ?_⟩
    · by_cases c : t = s
      · rw [c]; exact hh
      · rw [h9 t ht c]; exact b6 t ht
    · by_cases c : t = s
      · rw [c]; exact hl
      · rw [h10 t ht c]; exact b7 t ht
  · obtain ⟨c1, c2, c3, c4, c5, c6, c7, c8, c9, c10, c11⟩ := zx_R_ds R
    refine ⟨by rw [hD 0 (by omega), hS1]; exact c1, by rw [hD 0 (by omega), hS1]; exact c2, by rw [hD 2 (by omega), h2 7 (by decide)]; exact c3, by rw [hD 2 (by omega), h2 7 (by decide)]; exact c4, by rw [hD 2 (by omega), h2 7 (by decide)]; exact c5, by rw [hD 2 (by omega), hS1]; exact c6, by rw [hD 2 (by omega), h2 6 (by decide)]; exact c7, by rw [hDa, h2 15 (by decide)]; exact c8, ?_, by rw [hDa, h2 14 (by decide)]; exact c10, fun t ht => ?_⟩
    · rw [hD 20 (by omega), hS1]
      exact c9
    · by_cases c : t = s
      · rw [c]; exact ⟨n9, n10, n11⟩
      · obtain ⟨d1, d2, d3⟩ := c11 t ht
        refine ⟨?_, ?_, fun i hi => ?_⟩
        · rw [hD _ (by omega), h9 t ht c]; exact d1
        · rw [hD _ (by omega), h10 t ht c]; exact d2
        · rw [hDj _ (by omega), h11 t ht c i hi]; exact d3 i hi
  · intro N' M' h
    unfold zx_im at h ⊢
    rw [hD 5 (by omega), hS1, h2 22 (by decide), h2 23 (by decide)]
    exact h
theorem zs_fillJ {x : Int64} {y0 : Nat} {n : Nat} (hn : n < 2 ^ 31) (mk : (Nat → Int64) → zc_H) (hr : ∀ c, (mk c).1 y0 = some (.inl (1, n, .inr (.inl c)))) (hu : ∀ c d, zf_up (mk c) y0 (.inl (1, n, .inr (.inl d))) = mk d) : ∀ (k fu t : Nat) (c : Nat → Int64), t + k = n → k < fu → (∀ i, i < t → c i = x) → ∃ c2, zf_J7_fill_d0a16_L6 (some y0) x (nI n) fu (mk c) (nI t) = some (mk c2) ∧ ∀ i, i < n → c2 i = x := by
  intro k
  induction k with
  | zero =>
    intro fu t c h1 h2 h3
    obtain ⟨fl, rfl⟩ : ∃ fl, fu = fl + 1 := ⟨fu - 1, by omega⟩
    refine ⟨c, ?_, fun i hi => h3 i (by omega)⟩
    unfold zf_J7_fill_d0a16_L6
    rw [if_pos (nI_le (by omega) (by omega))]
  | succ k ih =>
    intro fu t c h1 h2 h3
    obtain ⟨fl, rfl⟩ : ∃ fl, fu = fl + 1 := ⟨fu - 1, by omega⟩
    obtain ⟨c2, e1, e2⟩ := ih fl (t + 1) (va_up c t x) (by omega) (by omega) (fun i hi => by
      by_cases ct : i = t
      · subst ct
        rw [va_up_self]
      · rw [va_up_ne _ _ ct]
        exact h3 i (by omega))
    refine ⟨c2, ?_, e2⟩
    unfold zf_J7_fill_d0a16_L6
    rw [if_neg (nI_ge (by omega) (by omega)), zo_s, zb_sj (hr c) (by omega) hn, zo_s, hu, ← nI_succ]
    exact e1
theorem zy_JJ {D : zy_D} {k : Nat} {a b : Nat → Int64} : zy_J (zy_J D k a) k b = zy_J D k b := by
  unfold zy_J
  dsimp only
  rw [zu_twice]
theorem zy_AA {D : zy_D} {k : Nat} {a b : Nat → Int32} : zy_A (zy_A D k a) k b = zy_A D k b := by
  unfold zy_A
  dsimp only
  rw [zu_twice]
theorem zy_Jj {D : zy_D} {k : Nat} {a : Nat → Int64} : (zy_J D k a).2.2 k = a := va_up_self _ _ _
theorem zy_Aa {D : zy_D} {k : Nat} {a : Nat → Int32} : (zy_A D k a).2.1 k = a := va_up_self _ _ _
theorem zy_Ji (D : zy_D) (k : Nat) : zy_J D k (D.2.2 k) = D := by
  unfold zy_J
  rw [zu_self]
theorem zy_Ai (D : zy_D) (k : Nat) : zy_A D k (D.2.1 k) = D := by
  unfold zy_A
  rw [zu_self]
theorem zs_holdRow {z s : Nat} {D : zy_D} {w : zc_H} {x y : Int32} (A : zy_is z D w) (hz : w.2.2 < z) (hs : s < 8) : ∃ c : Nat → Int64, zf_X5_holdRow w (z + (22 + 2 * s)) x y = some (zy_h z (zy_J (zy_I (zy_I D (22 + 2 * s) 0 (100 + x)) (22 + 2 * s) 1 y) (23 + 2 * s) c) w) ∧ ∀ i, i < 160 → c i = 0 := by
  obtain ⟨c, e1, e2⟩ := zs_fillJ (x := 0) (y0 := z + (23 + 2 * s)) (n := 160) (by decide) (fun c => zy_h z (zy_J (zy_I (zy_I D (22 + 2 * s) 0 (100 + x)) (22 + 2 * s) 1 y) (23 + 2 * s) c) w) (fun c => by
    rw [zy_at6 (zy_is_h _ _ _) hs, zy_Jj]) (fun c d => by
    rw [zy_vJ (zy_is_h _ _ _) (k := 23 + 2 * s) (by omega) zy_n5.2 (by rw [zy_c6]), zy_hh, zy_JJ]) 160 2000 0 (D.2.2 (23 + 2 * s)) (by omega) (by omega) (fun i hi => absurd hi (Nat.not_lt_zero i))
  refine ⟨c, ?_, e2⟩
  unfold zf_X5_holdRow
  rw [if_neg (zy_isS A hs), zy_pS0 A hs, zo_s, zy_pS1 (zy_is_h _ _ _) hs, zo_s, zy_hh, zy_rS2 (zy_is_h _ _ _) hs, zo_s]
  unfold zf_J7_fill_d0a16
  rw [zo_s, zy_nS (zy_is_h _ _ _) hs hz, zo_s]
  have e3 : zy_J (zy_I (zy_I D (22 + 2 * s) 0 (100 + x)) (22 + 2 * s) 1 y) (23 + 2 * s) (D.2.2 (23 + 2 * s)) = zy_I (zy_I D (22 + 2 * s) 0 (100 + x)) (22 + 2 * s) 1 y := zy_Ji (zy_I (zy_I D (22 + 2 * s) 0 (100 + x)) (22 + 2 * s) 1 y) (23 + 2 * s)
  rw [e3] at e1
  rw [show (160 : Int32) = nI 160 by decide, show (0 : Int32) = nI 0 by decide, e1, zo_s, zo_s]
/-- the reference with another row of longs -/
def zx_SJ (S : zm_S) (k : Nat) (c : Nat → Int64) : zm_S := (S.1, S.2.1, va_up S.2.2 k c)
theorem zx_SJJ {S : zm_S} {k : Nat} {c d : Nat → Int64} : zx_SJ (zx_SJ S k c) k d = zx_SJ S k d := by
  unfold zx_SJ
  dsimp only
  rw [zu_twice]
theorem zx_SJj {S : zm_S} {k : Nat} {c : Nat → Int64} : (zx_SJ S k c).2.2 k = c := va_up_self _ _ _
theorem zx_SJi (S : zm_S) (k : Nat) : zx_SJ S k (S.2.2 k) = S := by
  unfold zx_SJ
  rw [zu_self]
theorem zx_sj {S : zm_S} {k n i : Nat} {x : Int64} (hi : i < n) (hn : n < 2 ^ 31) : zg_sj k n S (nI i) x = some (zx_SJ S k (va_up (S.2.2 k) i x)) := za_sj hi hn
theorem za_160 (s i : Nat) : (160 : Int32) * nI s + nI i = nI (160 * s + i) := by rw [show (160 : Int32) = nI 160 by decide, za_mul, za_add]
theorem zr_rowL {S : zm_S} {s : Nat} (hs : s < 8) : ∀ (k fu t : Nat) (c : Nat → Int64), t + k = 160 → k < fu → ∃ c2, zg_X10_row_L77 (nI s) fu (zx_SJ S 11 c) (nI t) = some (zx_SJ S 11 c2) ∧ (∀ i, t ≤ i → i < 160 → c2 (160 * s + i) = 0) ∧ ∀ j, j < 160 * s + t ∨ 160 * s + 160 ≤ j → c2 j = c j := by
  intro k
  induction k with
  | zero =>
    intro fu t c h1 h2
    obtain ⟨fl, rfl⟩ : ∃ fl, fu = fl + 1 := ⟨fu - 1, by omega⟩
    refine ⟨c, ?_, fun i _ _ => by omega, fun j _ => rfl⟩
    unfold zg_X10_row_L77
    rw [if_pos (show (160 : Int32) ≤ nI t from nI_le (show 160 ≤ t by omega) (by omega))]
  | succ k ih =>
    intro fu t c h1 h2
    obtain ⟨fl, rfl⟩ : ∃ fl, fu = fl + 1 := ⟨fu - 1, by omega⟩
    obtain ⟨c2, e1, e2, e3⟩ := ih fl (t + 1) (va_up c (160 * s + t) 0) (by omega) (by omega)
    refine ⟨c2, ?_, fun i h3 h4 => ?_, fun j hj => ?_⟩
    · unfold zg_X10_row_L77
      rw [if_neg (show ¬ (160 : Int32) ≤ nI t from nI_ge (show t < 160 by omega) (by decide)), za_160, zx_sj (by omega) (by decide), zo_s, zx_SJj, zx_SJJ, ← nI_succ]
      exact e1
    · by_cases q : i = t
      · subst q
        rw [e3 _ (by omega), va_up_self]
      · exact e2 i (by omega) h4
    · rw [e3 j (by omega), va_up_ne _ _ (by omega)]
theorem ze_row {z : Nat} {w : zc_H} {D : zy_D} {S : zm_S} {N M : Nat} (R : zx_R z w D S N M) (x1 x2 x3 : Int32) : zx_res z w (zf_X9_row w z x1 x2 x3) (zg_X10_row S x1 x2 x3) := by
  have A := zx_R_is R
  have hz := (zx_R_z R).1
  have n1 : ¬ (1 : Int32) = 0 := by decide
  unfold zf_X9_row
  dsimp only
  rw [if_neg (zy_is0 A)]
  rcases zn_rng x1 (n := 8) (by decide) with hx | ⟨s, hs, rfl⟩
  · rw [zs_shelfN A hz hx, zo_s, if_pos rfl]
    unfold zg_X10_row
    rw [zg_wn S (n := 7) (y := 7) rfl hx (by decide), zo_s, if_pos rfl]
    exact zx_no_res (c := 1) R (by decide) (by decide) (by decide) (by decide) rfl
  rw [zs_shelf A hz hs, zo_s, if_neg (by simp)]
  by_cases c3 : 0 ≤ x3
  case neg =>
    rw [if_neg c3]
    unfold zg_X10_row
    rw [zg_wy S (n := 7) (y := 7) rfl (by omega) (by decide), zo_s, if_neg n1, if_neg c3]
    exact zx_no_res (c := 4) R (by decide) (by decide) (by decide) (by decide) rfl
  rw [if_pos c3]
  rcases zn_rng x2 (n := 4) (by decide) with hx | ⟨t, ht, rfl⟩
  · have e : (if x2 < 0 then (zf_X9_refuse w z (-6)).bind fun r5 => some (r5.1, r5.2) else if x2 < 4 then (if x3 ≤ 160 then (some (z + (22 + 2 * s))).bind fun a8 => (zf_X5_holdRow w a8 x2 x3).bind fun r9 => some (r9, (1 : Int32)) else (zf_X9_refuse w z (-7)).bind fun r10 => some (r10.1, r10.2)) else (zf_X9_refuse w z (-6)).bind fun r5 => some (r5.1, r5.2)) = (zf_X9_refuse w z (-6)).bind fun r5 => some (r5.1, r5.2) := by
      by_cases q : x2 < 0
      · rw [if_pos q]
      · rw [if_neg q, if_neg (show ¬ x2 < 4 from Int32.not_lt.mpr (hx.resolve_left q))]
    rw [e]
    unfold zg_X10_row
    rw [zg_wy S (n := 7) (y := 7) rfl (by omega) (by decide), zo_s, if_neg n1, if_pos c3, zg_wn S (n := 3) (y := 3) rfl hx (by decide), zo_s, if_pos rfl]
    exact zx_no_res (c := 6) R (by decide) (by decide) (by decide) (by decide) rfl
  rw [if_neg (nI_pos (by omega)), if_pos (show nI t < 4 from nI_lt ht (by decide))]
  obtain ⟨n, hn, rfl⟩ := nI_of (Int32.not_lt.mpr c3)
  by_cases c4 : n ≤ 160
  case neg =>
    have q : ¬ nI n ≤ 160 := nI_ge (show 160 < n by omega) hn
    rw [if_neg q]
    unfold zg_X10_row
    rw [zg_wy S (n := 7) (y := 7) rfl (by omega) (by decide), zo_s, if_neg n1, if_pos c3, zg_wy S (n := 3) (y := 3) rfl (by omega) (by decide), zo_s, if_neg n1, if_neg q]
    exact zx_no_res (c := 7) R (by decide) (by decide) (by decide) (by decide) rfl
  have q : nI n ≤ 160 := nI_le c4 (by decide)
  rw [if_pos q, zo_s]
  obtain ⟨c, e1, e2⟩ := zs_holdRow (x := nI t) (y := nI n) A hz hs
  rw [e1, zo_s]
  unfold zg_X10_row
  rw [zg_wy S (n := 7) (y := 7) rfl (by omega) (by decide), zo_s, if_neg n1, if_pos c3, zg_wy S (n := 3) (y := 3) rfl (by omega) (by decide), zo_s, if_neg n1, if_pos q, zx_si hs (by decide), zo_s, zx_si hs (by decide), zo_s]
  generalize hS9 : zx_SA (zx_SA S 9 (va_up (S.2.1 9) s (100 + nI t))) 10 (va_up ((zx_SA S 9 (va_up (S.2.1 9) s (100 + nI t))).2.1 10) s (nI n)) = S9
  obtain ⟨c2, e3, e4, e5⟩ := zr_rowL (S := S9) hs 160 2000 0 (S9.2.2 11) (by decide) (by decide)
  rw [zx_SJi] at e3
  rw [show (0 : Int32) = nI 0 by decide, e3, zo_s]
  refine zx_res_i (N2 := N) (M2 := M) rfl rfl ?_
  have e9 : ∀ k, (zx_SJ S9 11 c2).2.1 k = va_up (va_up S.2.1 9 (va_up (S.2.1 9) s (100 + nI t))) 10 (va_up (S.2.1 10) s (nI n)) k := fun k => by rw [← hS9]; rfl
  have e8 : (zx_SJ S9 11 c2).2.2 = va_up S.2.2 11 c2 := by rw [← hS9]; rfl
  have e7 : S9.2.2 11 = S.2.2 11 := by rw [← hS9]; rfl
  rw [e7] at e5
  have eI : ∀ k, (zy_J (zy_I (zy_I D (22 + 2 * s) 0 (100 + nI t)) (22 + 2 * s) 1 (nI n)) (23 + 2 * s) c).1 k = va_up (va_up D.1 (22 + 2 * s) (va_up (D.1 (22 + 2 * s)) 0 (100 + nI t))) (22 + 2 * s) (va_up ((va_up D.1 (22 + 2 * s) (va_up (D.1 (22 + 2 * s)) 0 (100 + nI t))) (22 + 2 * s)) 1 (nI n)) k := fun k => rfl
  have v9 : ∀ t1, (zx_SJ S9 11 c2).2.1 9 t1 = va_up (S.2.1 9) s (100 + nI t) t1 := fun t1 => by rw [e9, va_up_ne _ _ (by decide), va_up_self]
  have v10 : ∀ t1, (zx_SJ S9 11 c2).2.1 10 t1 = va_up (S.2.1 10) s (nI n) t1 := fun t1 => by rw [e9, va_up_self]
  refine zx_R_sup R hs (fun k hk => by rw [eI, va_up_ne _ _ hk, va_up_ne _ _ hk]) rfl (fun k hk => va_up_ne _ _ hk) (by rw [← hS9]; rfl) (fun k h9 h10 => by rw [e9, va_up_ne _ _ h10, va_up_ne _ _ h9]) (fun k hk => by rw [e8, va_up_ne _ _ hk]) (fun t1 _ hne => (v9 t1).trans (va_up_ne _ _ hne)) (fun t1 _ hne => (v10 t1).trans (va_up_ne _ _ hne)) (fun t1 ht1 hne i hi => ?_) ?_ ?_ (fun i hi => ?_) ?_ ⟨n, c4, (v10 s).trans (va_up_self _ _ _)⟩
  · rw [e8, va_up_self]
    exact e5 _ (by omega)
  · rw [v9, va_up_self, eI, va_up_self, va_up_ne _ _ (by decide), va_up_self, va_up_self]
  · rw [v10, va_up_self, eI, va_up_self, va_up_self]
  · show va_up _ _ c _ i = _
    rw [e8, va_up_self, va_up_self, e2 i hi, e4 i (Nat.zero_le _) hi]
  · refine Or.inr (Or.inr ⟨t, ht, ((v9 s).trans (va_up_self _ _ _)).trans ?_⟩)
    exact za_add 100 t
