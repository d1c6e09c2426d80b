/-! shelves: what they hold -/
theorem zh_n : (-1 : Int32) < 100 ∧ (-1 : Int32) < 0 ∧ ¬ (100 : Int32) ≤ -1 ∧ ¬ (0 : Int32) ≤ -1 := by decide
theorem zh_m {m : Nat} (h : m < 16) : nI m < 100 ∧ ¬ nI m < 0 ∧ ¬ (100 : Int32) ≤ nI m ∧ 0 ≤ nI m ∧ ¬ nI m = -1 := ⟨nI_lt (show m < 100 by omega) (by decide), nI_pos (by omega), nI_ge (show m < 100 by omega) (by decide), nI_pos' (by omega), za_ne _ (by omega)⟩
theorem zh_t {t : Nat} (h : t < 4) : ¬ nI (100 + t) < 100 ∧ ¬ nI (100 + t) < 0 ∧ (100 : Int32) ≤ nI (100 + t) ∧ 0 ≤ nI (100 + t) ∧ ¬ nI (100 + t) = -1 := ⟨nI_nlt (show 100 ≤ 100 + t by omega) (by omega), nI_pos (by omega), nI_le (show 100 ≤ 100 + t by omega) (by omega), nI_pos' (by omega), za_ne _ (by omega)⟩
/-- the class: has a row, has a remark -/
theorem zs_hasRow {z s : Nat} {D : zy_D} {w : zc_H} (A : zy_is z D w) (hs : s < 8) : zf_X5_hasRow w (z + (22 + 2 * s)) = some (if D.1 (22 + 2 * s) 0 < 100 then 0 else 1) := by
  unfold zf_X5_hasRow
  rw [if_neg (zy_isS A hs), zy_gS0 A hs, zo_s]
  by_cases c : D.1 (22 + 2 * s) 0 < 100
  · rw [if_pos c, if_pos c]
  · rw [if_neg c, if_neg c]
theorem zs_hasRem {z s : Nat} {D : zy_D} {w : zc_H} (A : zy_is z D w) (hs : s < 8) : zf_X5_hasRemark w (z + (22 + 2 * s)) = some (if D.1 (22 + 2 * s) 0 = -1 then 0 else if 100 ≤ D.1 (22 + 2 * s) 0 then 0 else 1) := by
  unfold zf_X5_hasRemark
  rw [if_neg (zy_isS A hs), zy_gS0 A hs, zo_s]
  by_cases c : D.1 (22 + 2 * s) 0 = -1
  · rw [if_pos c, if_pos c]
  · rw [if_neg c, if_neg c, zo_s]
    by_cases d : (100 : Int32) ≤ D.1 (22 + 2 * s) 0
    · rw [if_pos d, if_pos d]
    · rw [if_neg d, if_neg d]
theorem zr_isRow {S : zm_S} {s : Nat} (hs : s < 8) : zg_X10_isRow S (nI s) = some (if S.2.1 9 s < 100 then 0 else 1) := by
  unfold zg_X10_isRow
  rw [za_ai hs (by decide), zo_s]
  by_cases c : S.2.1 9 s < 100
  · rw [if_pos c, if_pos c]
  · rw [if_neg c, if_neg c]
/-- the bar of a shelf where a row is wanted -/
def zx_bar (v : Int32) : Int32 := if v = -1 then -3 else if v < 100 then -2 else 0
theorem zs_unfit {z s M : Nat} {D : zy_D} {w : zc_H} (A : zy_is z D w) (hs : s < 8) (hM : M ≤ 16) (hv : zx_hold M (D.1 (22 + 2 * s) 0)) : zf_X9_unfitAsRow w (some (z + (22 + 2 * s))) = some (zx_bar (D.1 (22 + 2 * s) 0)) := by
  unfold zf_X9_unfitAsRow zx_bar
  rw [zo_s, zs_hasRow A hs, zo_s, zs_hasRem A hs]
  rcases hv with h | ⟨m, hm, h⟩ | ⟨t, ht, h⟩
  · rw [h]
    rfl
  · have q := zh_m (show m < 16 by omega)
    rw [h, if_pos q.1, if_pos rfl, if_neg q.2.2.2.2, zo_s, if_neg q.2.2.1, if_neg (by decide), if_neg q.2.2.2.2, if_pos q.1]
  · have q := zh_t ht
    rw [h, if_neg q.1, if_neg (by decide), if_neg q.2.2.2.2, if_neg q.1]
theorem zr_noRow {S : zm_S} {s M : Nat} (hs : s < 8) (hM : M ≤ 16) (hv : zx_hold M (S.2.1 9 s)) : zg_X10_noRow S (nI s) = some (zx_bar (S.2.1 9 s)) := by
  unfold zg_X10_noRow zx_bar
  dsimp only
  rw [zg_wy S (n := 7) (y := 7) rfl (by omega) (by decide), zo_s, if_neg (by decide), za_ai hs (by decide), zo_s, zr_isRow hs, zo_s, zo_s]
  rcases hv with h | ⟨m, hm, h⟩ | ⟨t, ht, h⟩
  · rw [h]
    rfl
  · have q := zh_m (show m < 16 by omega)
    rw [h, if_neg q.2.1, if_pos q.1, if_pos rfl, if_neg q.2.2.2.2, if_pos q.1]
  · have q := zh_t ht
    rw [h, if_neg q.2.1, if_neg q.1, if_neg (show ¬ (1 : Int32) = 0 by decide), if_pos q.2.2.2.1, if_neg q.2.2.2.2, if_neg q.1]
theorem zr_noRowN {S : zm_S} {x : Int32} (hx : x < 0 ∨ 8 ≤ x) : zg_X10_noRow S x = some (-1) := by
  unfold zg_X10_noRow
  rw [zg_wn S (n := 7) (y := 7) rfl hx (by decide), zo_s, if_pos rfl]
theorem zx_bar_row {M : Nat} {v : Int32} (hM : M ≤ 16) (hv : zx_hold M v) : (zx_bar v = -3 ∧ v = -1) ∨ (zx_bar v = -2 ∧ ∃ m, m < M ∧ v = nI m) ∨ (zx_bar v = 0 ∧ ∃ t, t < 4 ∧ v = nI (100 + t)) := by
  unfold zx_bar
  rcases hv with h | ⟨m, hm, h⟩ | ⟨t, ht, h⟩
  · exact Or.inl ⟨by rw [h, if_pos rfl], h⟩
  · have q := zh_m (show m < 16 by omega)
    exact Or.inr (Or.inl ⟨by rw [h, if_neg q.2.2.2.2, if_pos q.1], m, hm, h⟩)
  · have q := zh_t ht
    exact Or.inr (Or.inr ⟨by rw [h, if_neg q.2.2.2.2, if_neg q.1], t, ht, h⟩)
/-- an element of the class's row -/
theorem zs_hasEl {z s t n i : Nat} {D : zy_D} {w : zc_H} (A : zy_is z D w) (hz : w.2.2 < z) (hs : s < 8) (ht : t < 4) (hv : D.1 (22 + 2 * s) 0 = nI (100 + t)) (hn : D.1 (22 + 2 * s) 1 = nI n) (h160 : n ≤ 160) (hi : i < n) : zf_X5_hasElement w (z + (22 + 2 * s)) (nI i) = some 1 := by
  unfold zf_X5_hasElement
  rw [if_neg (zy_isS A hs), zs_hasRow A hs, zo_s, hv, if_neg (zh_t ht).1, if_neg (by decide), if_neg (nI_pos (by omega)), zy_gS1 A hs, zo_s, hn, if_neg (nI_ge hi (by omega)), zy_rS2 A hs, zo_s, zo_s, zy_nS A hs hz, zo_s, if_neg (show ¬ (160 : Int32) ≤ nI i from nI_ge (show i < 160 by omega) (by decide))]
theorem zs_hasElN {z s t n : Nat} {D : zy_D} {w : zc_H} {x : Int32} (A : zy_is z D w) (hs : s < 8) (ht : t < 4) (hv : D.1 (22 + 2 * s) 0 = nI (100 + t)) (hn : D.1 (22 + 2 * s) 1 = nI n) (hi : x < 0 ∨ nI n ≤ x) : zf_X5_hasElement w (z + (22 + 2 * s)) x = some 0 := by
  unfold zf_X5_hasElement
  rw [if_neg (zy_isS A hs), zs_hasRow A hs, zo_s, hv, if_neg (zh_t ht).1, if_neg (by decide)]
  by_cases c : x < 0
  · rw [if_pos c]
  · rw [if_neg c, zy_gS1 A hs, zo_s, hn, if_pos (hi.resolve_left c)]
theorem zs_hasElR {z s : Nat} {D : zy_D} {w : zc_H} {x : Int32} (A : zy_is z D w) (hs : s < 8) (hv : D.1 (22 + 2 * s) 0 < 100) : zf_X5_hasElement w (z + (22 + 2 * s)) x = some 0 := by
  unfold zf_X5_hasElement
  rw [if_neg (zy_isS A hs), zs_hasRow A hs, zo_s, if_pos hv, if_pos rfl]
theorem zx_R_s {z : Nat} {w : zc_H} {D : zy_D} {S : zm_S} {N M s : Nat} (R : zx_R z w D S N M) (hs : s < 8) : zx_hold M (S.2.1 9 s) ∧ D.1 (22 + 2 * s) 0 = S.2.1 9 s ∧ (∃ n, n ≤ 160 ∧ S.2.1 10 s = nI n ∧ D.1 (22 + 2 * s) 1 = nI n) ∧ ∀ i, i < 160 → D.2.2 (23 + 2 * s) i = S.2.2 11 (160 * s + i) := by
  obtain ⟨c1, c2, c3, c4, c5, c6, c7, c8, c9, c10, c11⟩ := zx_R_ds R
  obtain ⟨d1, d2, d3⟩ := c11 s hs
  obtain ⟨n, hn, e⟩ := R.1.2.2.2.2.2.2 s hs
  exact ⟨R.1.2.2.2.2.2.1 s hs, d1, ⟨n, hn, e, d2.trans e⟩, d3⟩
theorem ze_element {z : Nat} {w : zc_H} {D : zy_D} {S : zm_S} {N M : Nat} (R : zx_R z w D S N M) (x1 x2 : Int32) : ∃ a, zf_X9_element w z x1 x2 = some a ∧ zg_X10_element S x1 x2 = some a := by
  have A := zx_R_is R
  have hz := (zx_R_z R).1
  have n1 : ¬ (1 : Int32) = 0 := by decide
  unfold zf_X9_element zg_X10_element
  rw [if_neg (zy_is0 A)]
  rcases zn_rng x1 (n := 8) (by decide) with hx | ⟨s, hs, rfl⟩
  · rw [zs_shelfN A hz hx, zo_s, if_pos rfl, zg_wn S (n := 7) (y := 7) rfl hx (by decide), zo_s, if_pos rfl]
    exact ⟨_, rfl, rfl⟩
  rw [zs_shelf A hz hs, zo_s, if_neg (by simp), zg_wy S (n := 7) (y := 7) rfl (by omega) (by decide), zo_s, zo_s, if_neg n1, zr_isRow hs]
  obtain ⟨hv, e0, ⟨n, hn, e1, e1d⟩, e2⟩ := zx_R_s R hs
  unfold zf_X5_elementAt
  rw [if_neg (zy_isS A hs)]
  rcases hv with h | ⟨m, hm, h⟩ | ⟨t, ht, h⟩
  · rw [zs_hasElR A hs (by rw [e0, h]; decide), zo_s, if_pos rfl, h]
    exact ⟨_, rfl, rfl⟩
  · have q := zh_m (show m < 16 by have := (zx_R_16 R).2; omega)
    rw [zs_hasElR A hs (by rw [e0, h]; exact q.1), zo_s, if_pos rfl, h, if_pos q.1]
    exact ⟨_, rfl, rfl⟩
  · rw [h, if_neg (zh_t ht).1, zo_s, if_neg n1, za_ai hs (by decide), zo_s, e1]
    rcases zn_rng x2 (n := n) (by omega) with hx | ⟨i, hi, rfl⟩
    · rw [zs_hasElN A hs ht (e0.trans h) e1d hx, zo_s, if_pos rfl, zo_s, zg_wo S hx (by omega), zo_s, if_pos rfl]
      exact ⟨_, rfl, rfl⟩
    · rw [zs_hasEl A hz hs ht (e0.trans h) e1d hn hi, zo_s, if_neg n1, zy_rS2 A hs, zo_s, zo_s, zy_aS A hs (by omega), zo_s, zo_s, zg_wi S hi (by omega), zo_s, if_neg n1, za_160, za_aj (by omega) (by decide), zo_s, e2 i (by omega)]
      exact ⟨_, rfl, rfl⟩
theorem ze_holds {z : Nat} {w : zc_H} {D : zy_D} {S : zm_S} {N M : Nat} (R : zx_R z w D S N M) (x1 : Int32) : ∃ a, zf_X9_holds w z x1 = some a ∧ zg_X10_holds S x1 = some a := by
  have A := zx_R_is R
  have hz := (zx_R_z R).1
  have n1 : ¬ (1 : Int32) = 0 := by decide
  unfold zf_X9_holds zg_X10_holds
  rw [if_neg (zy_is0 A)]
  rcases zn_rng x1 (n := 8) (by decide) with hx | ⟨s, hs, rfl⟩
  · rw [zs_shelfN A hz hx, zo_s, if_pos rfl, zg_wn S (n := 7) (y := 7) rfl hx (by decide), zo_s, if_pos rfl]
    exact ⟨_, rfl, rfl⟩
  rw [zs_shelf A hz hs, zo_s, if_neg (by simp), zg_wy S (n := 7) (y := 7) rfl (by omega) (by decide), zo_s, zo_s, if_neg n1, za_ai hs (by decide), zo_s, zy_gS0 A hs, zo_s, (zx_R_s R hs).2.1]
  exact ⟨_, rfl, rfl⟩
theorem ze_set {z : Nat} {w : zc_H} {D : zy_D} {S : zm_S} {N M : Nat} (R : zx_R z w D S N M) (x1 x2 : Int32) (x3 : Int64) : zx_res z w (zf_X9_set w z x1 x2 x3) (zg_X10_set S x1 x2 x3) := by
  have A := zx_R_is R
  have hz := (zx_R_z R).1
  have n1 : ¬ (1 : Int32) = 0 := by decide
  unfold zf_X9_set
  rw [if_neg (zy_is0 A)]
  rcases zn_rng x1 (n := 8) (by decide) with hx | ⟨s, hs, rfl⟩
  · rw [zs_shelfN A hz hx, zo_s, if_pos rfl]
    unfold zg_X10_set
    rw [zr_noRowN hx, zo_s, if_neg (by decide)]
    exact zx_no_res (c := 1) R (by decide) (by decide) (by decide) (by decide) rfl
  obtain ⟨hv, e0, ⟨n, hn, e1, e1d⟩, e2⟩ := zx_R_s R hs
  have hM := (zx_R_16 R).2
  rw [zs_shelf A hz hs, zo_s, if_neg (by simp), zs_unfit A hs hM (by rw [e0]; exact hv), zo_s, e0]
  have hr := zr_noRow hs hM hv
  rcases zx_bar_row hM hv with ⟨b, -⟩ | ⟨b, -⟩ | ⟨b, t, ht, h⟩
  · rw [b] at hr ⊢
    rw [if_neg (by decide)]
    unfold zg_X10_set
    rw [hr, zo_s, if_neg (by decide)]
    exact zx_no_res (c := 3) R (by decide) (by decide) (by decide) (by decide) rfl
  · rw [b] at hr ⊢
    rw [if_neg (by decide)]
    unfold zg_X10_set
    rw [hr, zo_s, if_neg (by decide)]
    exact zx_no_res (c := 2) R (by decide) (by decide) (by decide) (by decide) rfl
  rw [b] at hr ⊢
  rw [if_pos rfl, zo_s]
  rcases zn_rng x2 (n := n) (by omega) with hx | ⟨i, hi, rfl⟩
  · rw [zs_hasElN A hs ht (e0.trans h) e1d hx, zo_s, if_pos rfl]
    unfold zg_X10_set
    rw [hr, zo_s, if_pos (by decide), za_ai hs (by decide), zo_s, e1, zg_wo S hx (by omega), zo_s, if_pos rfl]
    exact zx_no_res (c := 5) R (by decide) (by decide) (by decide) (by decide) rfl
  rw [zs_hasEl A hz hs ht (e0.trans h) e1d hn hi, zo_s, if_neg n1]
  -- the same bits are kept
  have low : ∃ y : Int64, zf_X5_lowestBits w (z + (22 + 2 * s)) x3 = some y ∧ zg_X10_set S (nI s) (nI i) x3 = some (zx_SJ S 11 (va_up (S.2.2 11) (160 * s + i) y), 1) := by
    unfold zf_X5_lowestBits zg_X10_set
    dsimp only
    rw [if_neg (zy_isS A hs), zy_gS0 A hs, zo_s, hr, zo_s, if_pos (show (0 : Int32) ≤ 0 by decide), za_ai hs (by decide), zo_s, e1, zg_wi S hi (by omega), zo_s, if_neg n1, za_ai hs (by decide), zo_s, e0, za_160]
    have fin : ∀ y : Int64, ((zg_sj 11 1280 S (nI (160 * s + i)) y).bind fun h17 => some (h17, (1 : Int32))) = some (zx_SJ S 11 (va_up (S.2.2 11) (160 * s + i) y), 1) := fun y => by rw [zx_sj (by omega) (by decide), zo_s]
    by_cases c0 : S.2.1 9 s - 100 = 0
    · rw [if_pos c0, if_pos c0]
      exact ⟨_, rfl, fin _⟩
    rw [if_neg c0, if_neg c0]
    by_cases c1 : S.2.1 9 s - 100 = 1
    · rw [if_pos c1, if_pos c1]
      exact ⟨_, rfl, fin _⟩
    rw [if_neg c1, if_neg c1]
    by_cases c2 : S.2.1 9 s - 100 = 2
    · rw [if_pos c2, if_pos c2]
      exact ⟨_, rfl, fin _⟩
    rw [if_neg c2, if_neg c2]
    exact ⟨_, rfl, fin _⟩
  obtain ⟨y, l1, l2⟩ := low
  unfold zf_X5_store
  rw [if_neg (zy_isS A hs), zs_hasEl A hz hs ht (e0.trans h) e1d hn hi, zo_s, if_neg n1, zy_rS2 A hs, zo_s, l1, zo_s, zo_s, zy_sS A hs (by omega), zo_s, zo_s, l2]
  refine zx_res_i (N2 := N) (M2 := M) rfl rfl ?_
  refine zx_R_sup R hs (fun _ _ => rfl) rfl (fun k hk => va_up_ne _ _ hk) rfl (fun _ _ _ => rfl) (fun k hk => va_up_ne _ _ hk) (fun _ _ _ => rfl) (fun _ _ _ => rfl) (fun t1 ht1 hne j hj => ?_) e0 (e1d.trans e1.symm) (fun j hj => ?_) hv ⟨n, hn, e1⟩
  · rw [zx_SJj, va_up_ne _ _ (by omega)]
  · rw [zx_SJj, zy_Jj]
    by_cases c : j = i
    · subst c
      rw [va_up_self, va_up_self]
    · rw [va_up_ne _ _ c, va_up_ne _ _ (by omega)]
      exact e2 j hj
theorem ze_show {z : Nat} {w : zc_H} {D : zy_D} {S : zm_S} {N M : Nat} (R : zx_R z w D S N M) (x1 x2 : Int32) : zx_res z w (zf_X9_show w z x1 x2) (zg_X10_show S x1 x2) := by
  have A := zx_R_is R
  have hz := (zx_R_z R).1
  have n1 : ¬ (1 : Int32) = 0 := by decide
  have hM := (zx_R_16 R).2
  have h5 := R.1.2.1
  obtain ⟨-, E, f, g, f', g', fb, N', M', nb, -, ⟨-, -, -, -, al4, -⟩, ⟨-, -, -, hrem⟩, -⟩ := id R
  unfold zf_X9_show
  dsimp only
  rw [if_neg (zy_is0 A)]
  rcases zn_rng x1 (n := 8) (by decide) with hx | ⟨s, hs, rfl⟩
  · rw [zs_shelfN A hz hx, zo_s, if_pos rfl]
    unfold zg_X10_show
    dsimp only
    rw [zg_wn S (n := 7) (y := 7) rfl hx (by decide), zo_s, if_pos rfl]
    exact zx_no_res (c := 1) R (by decide) (by decide) (by decide) (by decide) rfl
  obtain ⟨hv, e0, ⟨n, hn, e1, e1d⟩, e2⟩ := zx_R_s R hs
  rw [zs_shelf A hz hs, zo_s, if_neg (by simp)]
  have fin : ∀ x : Int32, zx_hold M x → zx_R z (zy_h z (zy_I D (22 + 2 * s) 0 x) w) (zy_I D (22 + 2 * s) 0 x) (zx_SA S 9 (va_up (S.2.1 9) s x)) N M := by
    intro x hx
    have v9 : ∀ t, (zx_SA S 9 (va_up (S.2.1 9) s x)).2.1 9 t = va_up (S.2.1 9) s x t := fun t => by rw [zx_SAa]
    refine zx_R_sup R hs (fun k hk => va_up_ne _ _ hk) rfl (fun _ _ => rfl) rfl (fun k h9 _ => va_up_ne _ _ h9) (fun _ _ => rfl) (fun t _ hne => (v9 t).trans (va_up_ne _ _ hne)) (fun _ _ _ => rfl) (fun _ _ _ _ _ => rfl) ?_ ?_ e2 (by rw [v9, va_up_self]; exact hx) ⟨n, hn, e1⟩
    · rw [v9, va_up_self]
      show va_up D.1 (22 + 2 * s) _ (22 + 2 * s) 0 = x
      rw [va_up_self, va_up_self]
    · show va_up D.1 (22 + 2 * s) _ (22 + 2 * s) 1 = _
      rw [va_up_self, va_up_ne _ _ (by decide)]
      exact e1d.trans e1.symm
  have hold : ∀ x, zf_X5_hold w (z + (22 + 2 * s)) x = some (zy_h z (zy_I D (22 + 2 * s) 0 x) w) := by
    intro x
    unfold zf_X5_hold
    rw [if_neg (zy_isS A hs), zy_pS0 A hs, zo_s]
  by_cases c : x2 = -1
  · subst c
    rw [if_pos rfl, zo_s, hold, zo_s, if_pos rfl]
    unfold zg_X10_show
    dsimp only
    rw [zg_wy S (n := 7) (y := 7) rfl (by omega) (by decide), zo_s, if_neg n1, if_pos rfl, zx_si hs (by decide), zo_s, if_pos rfl]
    exact zx_res_i rfl rfl (fin _ (Or.inl rfl))
  rw [if_neg c, zy_r0_1 A, zo_s, zo_s]
  rcases zn_rng x2 (n := M) (by omega) with hx | ⟨m, hm, rfl⟩
  · rw [zs_remN A al4 hx, zo_s, if_pos rfl]
    unfold zg_X10_show
    dsimp only
    rw [zg_wy S (n := 7) (y := 7) rfl (by omega) (by decide), zo_s, if_neg n1, if_neg c, zr_isRemN h5 hM hx, zo_s, if_pos rfl]
    exact zx_no_res (c := 1) R (by decide) (by decide) (by decide) (by decide) rfl
  · have hg : zf_is w (g m) 3 = true := by
      obtain ⟨-, -, kind, a, r, p, q, an, -, -, -, -, -, -, -, -, -, -, -, -, e⟩ := hrem m hm
      exact Classical.not_not.mp (zb_is e)
    rw [zs_rem A al4 hM hm hg, zo_s, if_neg (by simp), zo_s, hold, zo_s, if_neg c]
    unfold zg_X10_show
    dsimp only
    rw [zg_wy S (n := 7) (y := 7) rfl (by omega) (by decide), zo_s, if_neg n1, if_neg c, zr_isRem h5 hM hm, zo_s, if_neg n1, zx_si hs (by decide), zo_s, if_neg c]
    exact zx_res_i rfl rfl (fin _ (Or.inr (Or.inl ⟨m, hm, rfl⟩)))
