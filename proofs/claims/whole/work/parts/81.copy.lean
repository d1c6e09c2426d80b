/-! copy, says -/
theorem zs_cls {z s M : Nat} {D : zy_D} {w : zc_H} {S : zm_S} (A : zy_is z D w) (hs : s < 8) (hM : M ≤ 16) (hv : zx_hold M (S.2.1 9 s)) (e : D.1 (22 + 2 * s) 0 = S.2.1 9 s) : (S.2.1 9 s = -1 ∧ zf_X5_hasRemark w (z + (22 + 2 * s)) = some 0 ∧ zf_X5_hasRow w (z + (22 + 2 * s)) = some 0 ∧ zg_X10_isRow S (nI s) = some 0) ∨ (∃ m, m < M ∧ S.2.1 9 s = nI m ∧ zf_X5_hasRemark w (z + (22 + 2 * s)) = some 1 ∧ zf_X5_hasRow w (z + (22 + 2 * s)) = some 0 ∧ zg_X10_isRow S (nI s) = some 0) ∨ (∃ t, t < 4 ∧ S.2.1 9 s = nI (100 + t) ∧ zf_X5_hasRemark w (z + (22 + 2 * s)) = some 0 ∧ zf_X5_hasRow w (z + (22 + 2 * s)) = some 1 ∧ zg_X10_isRow S (nI s) = some 1) := by
  rw [zs_hasRem A hs, zs_hasRow A hs, zr_isRow hs, e]
  rcases hv with h | ⟨m, hm, h⟩ | ⟨t, ht, h⟩
  · rw [h]
    exact Or.inl ⟨rfl, rfl, rfl, rfl⟩
  · have q := zh_m (show m < 16 by omega)
    rw [h, if_neg q.2.2.2.2, if_neg q.2.2.1, if_pos q.1]
    exact Or.inr (Or.inl ⟨m, hm, rfl, rfl, rfl, rfl⟩)
  · have q := zh_t ht
    rw [h, if_neg q.2.2.2.2, if_pos q.2.2.1, if_neg q.1]
    exact Or.inr (Or.inr ⟨t, ht, rfl, rfl, rfl, rfl⟩)
theorem za_str {n i k : Nat} (hn : n ≤ 160) (hi : i < 2 ^ 31) (hk : k < 2 ^ 31) : nI n - nI i < nI k ↔ n < i + k := by
  have e : (nI n - nI i).toInt = (n : Int) - i := by
    rw [Int32.toInt_sub, nI_toInt (by omega), nI_toInt hi]
    exact Int.bmod_eq_of_le (by omega) (by omega)
  rw [Int32.lt_iff_toInt_lt, e, nI_toInt hk]
  omega
theorem za_str2 {n i k : Nat} (hn : n ≤ 160) (hi : i < 2 ^ 31) (hk : k < 2 ^ 31) : lg_cmp ((nI i).toInt64 + (nI k).toInt64) (nI n).toInt64 ≤ 0 ↔ i + k ≤ n := by
  have e : ((nI i).toInt64 + (nI k).toInt64).toInt = (i : Int) + k := by
    rw [Int64.toInt_add, Int32.toInt_toInt64, Int32.toInt_toInt64, nI_toInt hi, nI_toInt hk]
    exact Int.bmod_eq_of_le (by omega) (by omega)
  rw [lg_cmp_le, Int64.le_iff_toInt_le, e, Int32.toInt_toInt64, nI_toInt (by omega)]
  omega
theorem za_str3 {n i k : Nat} (hn : n ≤ 160) (hi : i < 2 ^ 31) (hk : k < 2 ^ 31) : 0 < lg_cmp ((nI i).toInt64 + (nI k).toInt64) (nI n).toInt64 ↔ n < i + k := by
  rw [← Int32.not_le, za_str2 hn hi hk]
  omega
theorem zs_str {z s t n i k : Nat} {D : zy_D} {w : zc_H} (A : zy_is z D w) (hs : s < 8) (hr : zf_X5_hasRow w (z + (22 + 2 * s)) = some 1) (hn : D.1 (22 + 2 * s) 1 = nI n) (h160 : n ≤ 160) (hi : i < 2 ^ 31) (hk : k < 2 ^ 31) : zf_X5_hasStretch w (z + (22 + 2 * s)) (nI i) (nI k) = some (if n < i + k then 0 else 1) := by
  unfold zf_X5_hasStretch
  rw [if_neg (zy_isS A hs), hr, zo_s, if_neg (by decide), if_neg (nI_pos hi), if_neg (nI_pos hk), zy_gS1 A hs, zo_s, hn]
  by_cases c : n < i + k
  · rw [if_pos ((za_str h160 hi hk).mpr c), if_pos c]
  · rw [if_neg (fun q => c ((za_str h160 hi hk).mp q)), if_neg c]
theorem zs_strN {z s : Nat} {D : zy_D} {w : zc_H} {x y : Int32} (A : zy_is z D w) (hs : s < 8) (hr : zf_X5_hasRow w (z + (22 + 2 * s)) = some 1) (hx : x < 0) : zf_X5_hasStretch w (z + (22 + 2 * s)) x y = some 0 := by
  unfold zf_X5_hasStretch
  rw [if_neg (zy_isS A hs), hr, zo_s, if_neg (by decide), if_pos hx]
/-- the reference's copies: from the front, from behind -/
theorem zr_cpF {S : zm_S} {p q i j n : Nat} {c0 : Nat → Int64} (hp : p < 8) (hq : q < 8) (hi : i + n ≤ 160) (hj : j + n ≤ 160) (hc : p ≠ q ∨ (p = q ∧ j ≤ i)) : ∀ (r fu t : Nat) (c : Nat → Int64), t + r = n → r < fu → (∀ x, c x = va_cpy c0 c0 (160 * p + i) (160 * q + j) t x) → ∃ c2, zg_X10_copy_L251 (nI p) (nI q) (nI i) (nI j) (nI n) fu (zx_SJ S 11 c) (nI t) = some (zx_SJ S 11 c2) ∧ ∀ x, c2 x = va_cpy c0 c0 (160 * p + i) (160 * q + j) n x := by
  intro r
  induction r with
  | zero =>
    intro fu t c h1 h2 h3
    obtain ⟨fl, rfl⟩ : ∃ fl, fu = fl + 1 := ⟨fu - 1, by omega⟩
    have e : t = n := by omega
    subst e
    refine ⟨c, ?_, h3⟩
    unfold zg_X10_copy_L251
    rw [if_pos (nI_le (Nat.le_refl _) (by omega))]
  | succ r ih =>
    intro fu t c h1 h2 h3
    obtain ⟨fl, rfl⟩ : ∃ fl, fu = fl + 1 := ⟨fu - 1, by omega⟩
    obtain ⟨c2, e1, e2⟩ := ih fl (t + 1) (va_up c (160 * q + j + t) (c (160 * p + i + t))) (by omega) (by omega) (fun x => by
      by_cases d : x = 160 * q + j + t
      · subst d
        rw [va_up_self, h3]
        unfold va_cpy
        rw [if_neg (by omega), if_pos (by omega)]
        congr 1
        omega
      · rw [va_up_ne _ _ d, h3]
        unfold va_cpy
        by_cases d2 : 160 * q + j ≤ x ∧ x < 160 * q + j + t
        · rw [if_pos d2, if_pos (by omega)]
        · rw [if_neg d2, if_neg (by omega)])
    refine ⟨c2, ?_, e2⟩
    unfold zg_X10_copy_L251
    rw [if_neg (nI_ge (by omega) (by omega)), za_160, za_add, zx_SJj, za_aj (by omega) (by decide), zo_s, za_160, za_add, zx_sj (by omega) (by decide), zo_s, zx_SJj, zx_SJJ, ← nI_succ]
    exact e1
theorem zr_cpB {S : zm_S} {p i j n : Nat} {c0 : Nat → Int64} (hp : p < 8) (hi : i + n ≤ 160) (hj : j + n ≤ 160) (hc : i < j) : ∀ (r fu : Nat) (c : Nat → Int64), r ≤ n → r < fu → (∀ x, c x = va_cpy c0 c0 (160 * p + i + r) (160 * p + j + r) (n - r) x) → ∃ c2, zg_X10_copy_L203 (nI p) (nI p) (nI i) (nI j) fu (zx_SJ S 11 c) (nI r + (-1)) = some (zx_SJ S 11 c2) ∧ ∀ x, c2 x = va_cpy c0 c0 (160 * p + i) (160 * p + j) n x := by
  intro r
  induction r with
  | zero =>
    intro fu c h1 h2 h3
    obtain ⟨fl, rfl⟩ : ∃ fl, fu = fl + 1 := ⟨fu - 1, by omega⟩
    refine ⟨c, ?_, h3⟩
    unfold zg_X10_copy_L203
    rw [if_pos (by decide)]
  | succ r ih =>
    intro fu c h1 h2 h3
    obtain ⟨fl, rfl⟩ : ∃ fl, fu = fl + 1 := ⟨fu - 1, by omega⟩
    obtain ⟨c2, e1, e2⟩ := ih fl (va_up c (160 * p + j + r) (c (160 * p + i + r))) (by omega) (by omega) (fun x => by
      by_cases d : x = 160 * p + j + r
      · subst d
        rw [va_up_self, h3]
        unfold va_cpy
        rw [if_neg (by omega), if_pos (by omega)]
        congr 1
        omega
      · rw [va_up_ne _ _ d, h3]
        unfold va_cpy
        by_cases d2 : 160 * p + j + (r + 1) ≤ x ∧ x < 160 * p + j + (r + 1) + (n - (r + 1))
        · rw [if_pos d2, if_pos (by omega)]
          congr 1
          omega
        · rw [if_neg d2, if_neg (by omega)])
    refine ⟨c2, ?_, e2⟩
    rw [za_pm]
    unfold zg_X10_copy_L203
    rw [if_neg (nI_pos (by omega)), za_160, za_add, zx_SJj, za_aj (by omega) (by decide), zo_s, za_160, za_add, zx_sj (by omega) (by decide), zo_s, zx_SJj, zx_SJJ]
    exact e1
theorem zs_take {z p q i j n : Nat} {D : zy_D} {w : zc_H} (A : zy_is z D w) (hp : p < 8) (hq : q < 8) (hi : i + n ≤ 160) (hj : j + n ≤ 160) (h1 : zf_X5_hasStretch w (z + (22 + 2 * p)) (nI i) (nI n) = some 1) (h2 : zf_X5_hasStretch w (z + (22 + 2 * q)) (nI j) (nI n) = some 1) : zf_X5_takeStretch w (z + (22 + 2 * q)) (some (z + (22 + 2 * p))) (nI i) (nI j) (nI n) = some (zy_h z (zy_J D (23 + 2 * q) (va_cpy (D.2.2 (23 + 2 * p)) (D.2.2 (23 + 2 * q)) i j n)) w) := by
  unfold zf_X5_takeStretch
  rw [if_neg (zy_isS A hq), zo_s, h1, zo_s, if_neg (by decide), h2, zo_s, if_neg (by decide), zy_rS2 A hp, zo_s, zy_rS2 A hq, zo_s, zo_s, zo_s]
  unfold zf_cpj
  rw [zy_at6 A hp, zy_at6 A hq]
  dsimp only
  rw [nI_clamp (by omega), nI_clamp (by omega), nI_clamp (by omega), if_pos ⟨rfl, rfl, nI_pos (by omega), nI_pos (by omega), nI_pos (by omega), hi, hj⟩, zo_s, zy_vJ A (k := 23 + 2 * q) (by omega) zy_n5.2 (by rw [zy_c6])]
theorem ze_copy {z : Nat} {w : zc_H} {D : zy_D} {S : zm_S} {N M : Nat} (R : zx_R z w D S N M) (x1 x2 x3 x4 x5 : Int32) : zx_res z w (zf_X9_copy w z x1 x2 x3 x4 x5) (zg_X10_copy S x1 x2 x3 x4 x5) := by
  have A := zx_R_is R
  have hz := (zx_R_z R).1
  have n1 : ¬ (1 : Int32) = 0 := by decide
  have hM := (zx_R_16 R).2
  unfold zf_X9_copy
  dsimp only
  rw [if_neg (zy_is0 A)]
  rcases zn_rng x1 (n := 8) (by decide) with hx | ⟨p, hp, rfl⟩
  · rw [zs_shelfN A hz hx, zo_s]
    have e : ∃ o, zf_X9_shelfAt w z x2 = some o := by
      rcases zn_rng x2 (n := 8) (by decide) with hx2 | ⟨q, hq, rfl⟩
      · exact ⟨_, zs_shelfN A hz hx2⟩
      · exact ⟨_, zs_shelf A hz hq⟩
    obtain ⟨o, e⟩ := e
    rw [e, zo_s, if_pos rfl]
    unfold zg_X10_copy
    dsimp only
    rw [zg_wn S (n := 7) (y := 7) rfl hx (by decide), zo_s, if_pos rfl]
    exact zx_no_res (c := 1) R (by decide) (by decide) (by decide) (by decide) rfl
  rw [zs_shelf A hz hp, zo_s]
  rcases zn_rng x2 (n := 8) (by decide) with hx | ⟨q, hq, rfl⟩
  · rw [zs_shelfN A hz hx, zo_s, if_neg (by simp), if_pos rfl]
    unfold zg_X10_copy
    dsimp only
    rw [zg_wy S (n := 7) (y := 7) rfl (by omega) (by decide), zo_s, if_neg n1, zg_wn S (n := 7) (y := 7) rfl hx (by decide), zo_s, if_pos rfl]
    exact zx_no_res (c := 1) R (by decide) (by decide) (by decide) (by decide) rfl
  rw [zs_shelf A hz hq, zo_s, if_neg (by simp), if_neg (by simp), zo_s]
  obtain ⟨pv, p0, ⟨pn, ph, p1, p1d⟩, p2⟩ := zx_R_s R hp
  obtain ⟨qv, q0, ⟨qn, qh, q1, q1d⟩, q2⟩ := zx_R_s R hq
  have rs : ∀ X Y : Option (zm_S × Int32), ((zg_X10_within S (nI p) 0 7).bind fun r1 => if r1 = 0 then X else (zg_X10_within S (nI q) 0 7).bind fun r4 => if r4 = 0 then X else Y) = Y := by
    intro X Y
    rw [zg_wy S (n := 7) (y := 7) rfl (by omega) (by decide), zo_s, if_neg n1, zg_wy S (n := 7) (y := 7) rfl (by omega) (by decide), zo_s, if_neg n1]
  have ap : zg_ai 8 (S.2.1 9) (nI p) = some (S.2.1 9 p) := za_ai hp (by decide)
  have aq : zg_ai 8 (S.2.1 9) (nI q) = some (S.2.1 9 q) := za_ai hq (by decide)
  have two : zf_X9_areOfTwoSorts w (some (z + (22 + 2 * p))) (some (z + (22 + 2 * q))) = (zf_X5_hasRow w (z + (22 + 2 * p))).bind fun r2 => if r2 = 0 then some 0 else (zf_X5_hasRow w (z + (22 + 2 * q))).bind fun r5 => if r5 = 0 then some 0 else if S.2.1 9 p = S.2.1 9 q then some 0 else some 1 := by
    unfold zf_X9_areOfTwoSorts
    rw [zo_s, zo_s, zy_gS0 A hp, zy_gS0 A hq, p0, q0, zo_s, zo_s]
  rcases zs_cls A hp hM pv p0 with ⟨a1, a2, a3, a4⟩ | ⟨m, hm, a1, a2, a3, a4⟩ | ⟨t, ht, a1, a2, a3, a4⟩
  rotate_left
  · -- a remark in p
    have k := zh_m (show m < 16 by omega)
    rw [a2, zo_s, if_neg n1]
    unfold zg_X10_copy
    dsimp only
    rw [rs, ap, zo_s, a1, if_neg k.2.1, a4, zo_s, if_pos rfl]
    exact zx_no_res (c := 2) R (by decide) (by decide) (by decide) (by decide) rfl
  all_goals rw [a2, zo_s, if_pos rfl, zo_s]
  all_goals rcases zs_cls A hq hM qv q0 with ⟨b1, b2, b3, b4⟩ | ⟨m2, hm2, b1, b2, b3, b4⟩ | ⟨t2, ht2, b1, b2, b3, b4⟩
  · -- row, nothing
    rw [b2, zo_s, if_pos rfl, two, a3, zo_s, if_neg n1, b3, zo_s, if_pos rfl, zo_s, if_pos rfl, zo_s, if_neg n1, zo_s, if_pos rfl]
    unfold zg_X10_copy
    dsimp only
    rw [rs, ap, zo_s, a1, if_neg (zh_t ht).2.1, a4, zo_s, if_neg n1, aq, zo_s, b1, if_pos (show (-1 : Int32) < 0 by decide), zo_s, if_neg n1, b4, zo_s, if_pos rfl, zo_s, if_neg (zh_t ht).2.1, zo_s, if_neg (show ¬ (0 : Int32) ≤ -1 by decide)]
    exact zx_no_res (c := 3) R (by decide) (by decide) (by decide) (by decide) rfl
  · -- row, remark
    rw [b2, zo_s, if_neg n1]
    unfold zg_X10_copy
    dsimp only
    rw [rs, ap, zo_s, a1, if_neg (zh_t ht).2.1, a4, zo_s, if_neg n1, aq, zo_s, b1, if_neg (zh_m (show m2 < 16 by omega)).2.1, b4, zo_s, if_pos rfl]
    exact zx_no_res (c := 2) R (by decide) (by decide) (by decide) (by decide) rfl
  · -- row, row
    rw [b2, zo_s, if_pos rfl, two, a3, zo_s, if_neg n1, b3, zo_s, if_neg n1]
    by_cases ct : t = t2
    case neg =>
      have ne : ¬ S.2.1 9 p = S.2.1 9 q := fun y => ct (by rw [a1, b1] at y; have := (za_eq (by omega) (by omega)).mp y; omega)
      rw [if_neg ne, zo_s, if_neg n1]
      unfold zg_X10_copy
      dsimp only
      rw [rs, ap, zo_s, a1, if_neg (zh_t ht).2.1, a4, zo_s, if_neg n1, aq, zo_s, b1, if_neg (zh_t ht2).2.1, b4, zo_s, if_neg n1, zo_s, if_neg n1, zo_s, if_neg n1, zo_s, zo_s, if_neg (by rw [← a1, ← b1]; exact ne)]
      exact zx_no_res (c := 2) R (by decide) (by decide) (by decide) (by decide) rfl
    subst ct
    rw [if_pos (a1.trans b1.symm), zo_s, if_pos rfl, zo_s, if_neg n1, zo_s, if_neg n1]
    by_cases c5 : 0 ≤ x5
    case neg =>
      rw [if_neg c5]
      unfold zg_X10_copy
      dsimp only
      rw [rs, ap, zo_s, a1, if_neg (zh_t ht).2.1, a4, zo_s, if_neg n1, aq, zo_s, b1, if_neg (zh_t ht2).2.1, b4, zo_s, if_neg n1, zo_s, if_neg n1, zo_s, if_neg n1, zo_s, zo_s, if_pos rfl, zo_s, if_neg (zh_t ht).2.1, zo_s, if_pos (zh_t ht).2.2.2.1, if_neg c5]
      exact zx_no_res (c := 4) R (by decide) (by decide) (by decide) (by decide) rfl
    obtain ⟨n, hn, rfl⟩ := nI_of (Int32.not_lt.mpr c5)
    rw [if_pos c5]
    have go : zg_X10_copy S (nI p) (nI q) x3 x4 (nI n) = (if x3 < 0 then (zg_X10_no S (-5)).bind fun r32 => some (r32.1, r32.2) else if x4 < 0 then (zg_X10_no S (-5)).bind fun r32 => some (r32.1, r32.2) else if 0 < lg_cmp (x3.toInt64 + (nI n).toInt64) (nI pn).toInt64 then (zg_X10_no S (-5)).bind fun r32 => some (r32.1, r32.2) else if lg_cmp (x4.toInt64 + (nI n).toInt64) (nI qn).toInt64 ≤ 0 then (if nI p = nI q then (if x4 ≤ x3 then (zg_X10_copy_L251 (nI p) (nI q) x3 x4 (nI n) 2000 S 0).bind fun w54 => some (w54, 1) else (zg_X10_copy_L203 (nI p) (nI q) x3 x4 2000 S (nI n - 1)).bind fun w65 => some (w65, 1)) else (zg_X10_copy_L251 (nI p) (nI q) x3 x4 (nI n) 2000 S 0).bind fun w54 => some (w54, 1)) else (zg_X10_no S (-5)).bind fun r32 => some (r32.1, r32.2)) := by
      unfold zg_X10_copy
      dsimp only
      rw [rs, ap, zo_s, a1, if_neg (zh_t ht).2.1, a4, zo_s, if_neg n1, aq, zo_s, b1, if_neg (zh_t ht2).2.1, b4, zo_s, if_neg n1, zo_s, if_neg n1, zo_s, if_neg n1, zo_s, zo_s, if_pos rfl, zo_s, if_neg (zh_t ht).2.1, zo_s, if_pos (zh_t ht).2.2.2.1, if_pos c5, za_ai hp (by decide), p1, zo_s, za_ai hq (by decide), q1, zo_s]
    rw [go]
    by_cases c3 : x3 < 0
    · rw [zs_strN A hp a3 c3, zo_s, if_pos rfl, if_pos c3]
      exact zx_no_res (c := 5) R (by decide) (by decide) (by decide) (by decide) rfl
    obtain ⟨i, hi, rfl⟩ := nI_of c3
    rw [zs_str (t := t) A hp a3 p1d ph hi hn, zo_s, if_neg c3]
    by_cases c4 : x4 < 0
    · rw [zs_strN A hq b3 c4, zo_s, if_pos c4]
      by_cases d : pn < i + n
      · rw [if_pos d, if_pos rfl]
        exact zx_no_res (c := 5) R (by decide) (by decide) (by decide) (by decide) rfl
      · rw [if_neg d, if_neg n1, if_pos rfl]
        exact zx_no_res (c := 5) R (by decide) (by decide) (by decide) (by decide) rfl
    obtain ⟨j, hj, rfl⟩ := nI_of c4
    rw [if_neg c4]
    by_cases d : pn < i + n
    · rw [if_pos d, if_pos rfl, if_pos ((za_str3 ph hi hn).mpr d)]
      exact zx_no_res (c := 5) R (by decide) (by decide) (by decide) (by decide) rfl
    rw [if_neg d, if_neg n1, if_neg (fun y => d ((za_str3 ph hi hn).mp y)), zs_str (t := t) A hq b3 q1d qh hj hn, zo_s]
    by_cases d2 : qn < j + n
    · rw [if_pos d2, if_pos rfl, if_neg (fun y => by have := (za_str2 qh hj hn).mp y; omega)]
      exact zx_no_res (c := 5) R (by decide) (by decide) (by decide) (by decide) rfl
    rw [if_neg d2, if_neg n1, if_pos ((za_str2 qh hj hn).mpr (by omega)), zs_take A hp hq (show i + n ≤ 160 by omega) (show j + n ≤ 160 by omega) (by rw [zs_str (t := t) A hp a3 p1d ph hi hn, if_neg d]) (by rw [zs_str (t := t) A hq b3 q1d qh hj hn, if_neg d2]), zo_s]
    have fin : ∀ c2 : Nat → Int64, (∀ x, c2 x = va_cpy (S.2.2 11) (S.2.2 11) (160 * p + i) (160 * q + j) n x) → zx_res z w (some (zy_h z (zy_J D (23 + 2 * q) (va_cpy (D.2.2 (23 + 2 * p)) (D.2.2 (23 + 2 * q)) i j n)) w, 1)) (some (zx_SJ S 11 c2, 1)) := by
      intro c2 hc2
      refine zx_res_i (N2 := N) (M2 := M) rfl rfl ?_
      refine zx_R_sup R hq (fun _ _ => rfl) rfl (fun k hk => va_up_ne _ _ hk) rfl (fun _ _ _ => rfl) (fun k hk => va_up_ne _ _ hk) (fun _ _ _ => rfl) (fun _ _ _ => rfl) (fun t1 ht1 hne x hx => ?_) q0 (q1d.trans q1.symm) (fun x hx => ?_) qv ⟨qn, qh, q1⟩
      · rw [zx_SJj, hc2]
        unfold va_cpy
        rw [if_neg (by omega)]
      · rw [zx_SJj, zy_Jj, hc2]
        unfold va_cpy
        by_cases y : j ≤ x ∧ x < j + n
        · rw [if_pos y, if_pos (show 160 * q + j ≤ 160 * q + x ∧ 160 * q + x < 160 * q + j + n by omega), p2 _ (by omega)]
          exact congrArg (S.2.2 11) (by omega)
        · rw [if_neg y, if_neg (by omega)]
          exact q2 x hx
    by_cases cpq : p = q
    · subst cpq
      rw [if_pos rfl]
      by_cases cij : j ≤ i
      · obtain ⟨c2, e1, e2⟩ := zr_cpF (S := S) (c0 := S.2.2 11) hp hp (show i + n ≤ 160 by omega) (show j + n ≤ 160 by omega) (Or.inr ⟨rfl, cij⟩) n 2000 0 (S.2.2 11) (by omega) (by omega) (fun x => by unfold va_cpy; rw [if_neg (by omega)])
        rw [zx_SJi] at e1
        rw [if_pos (nI_le cij hi), show (0 : Int32) = nI 0 by decide, e1, zo_s]
        exact fin c2 e2
      · obtain ⟨c2, e1, e2⟩ := zr_cpB (S := S) (c0 := S.2.2 11) hp (show i + n ≤ 160 by omega) (show j + n ≤ 160 by omega) (by omega) n 2000 (S.2.2 11) (Nat.le_refl _) (by omega) (fun x => by unfold va_cpy; rw [if_neg (by omega)])
        rw [zx_SJi] at e1
        rw [if_neg (nI_ge (by omega) hj), show nI n - 1 = nI n + (-1) from Int32.sub_eq_add_neg _ _, e1, zo_s]
        exact fin c2 e2
    · obtain ⟨c2, e1, e2⟩ := zr_cpF (S := S) (c0 := S.2.2 11) hp hq (show i + n ≤ 160 by omega) (show j + n ≤ 160 by omega) (Or.inl cpq) n 2000 0 (S.2.2 11) (by omega) (by omega) (fun x => by unfold va_cpy; rw [if_neg (by omega)])
      rw [zx_SJi] at e1
      rw [if_neg (fun y => cpq ((za_eq (by omega) (by omega)).mp y)), show (0 : Int32) = nI 0 by decide, e1, zo_s]
      exact fin c2 e2
  · -- nothing, nothing
    rw [b2, zo_s, if_pos rfl, two, a3, zo_s, if_pos rfl, zo_s, if_pos rfl, zo_s, if_pos rfl]
    unfold zg_X10_copy
    dsimp only
    rw [rs, ap, zo_s, a1, if_pos (show (-1 : Int32) < 0 by decide), aq, zo_s, b1, if_pos (show (-1 : Int32) < 0 by decide), a4, zo_s, if_pos rfl, zo_s, if_pos (show (-1 : Int32) < 0 by decide)]
    exact zx_no_res (c := 3) R (by decide) (by decide) (by decide) (by decide) rfl
  · -- nothing, remark
    rw [b2, zo_s, if_neg n1]
    unfold zg_X10_copy
    dsimp only
    rw [rs, ap, zo_s, a1, if_pos (show (-1 : Int32) < 0 by decide), aq, zo_s, b1, if_neg (zh_m (show m2 < 16 by omega)).2.1, b4, zo_s, if_pos rfl]
    exact zx_no_res (c := 2) R (by decide) (by decide) (by decide) (by decide) rfl
  · -- nothing, row
    rw [b2, zo_s, if_pos rfl, two, a3, zo_s, if_pos rfl, zo_s, if_pos rfl, zo_s, if_pos rfl]
    unfold zg_X10_copy
    dsimp only
    rw [rs, ap, zo_s, a1, if_pos (show (-1 : Int32) < 0 by decide), aq, zo_s, b1, if_neg (zh_t ht2).2.1, b4, zo_s, if_neg n1, a4, zo_s, if_pos rfl, zo_s, if_pos (show (-1 : Int32) < 0 by decide)]
    exact zx_no_res (c := 3) R (by decide) (by decide) (by decide) (by decide) rfl
/-! says -/
theorem zx_isOf {k k2 : Nat} (h1 : k < 7) (h2 : k2 < 7) (h : zc_H) (S : zm_S) : ∃ b : Int32, (b = 0 ∨ b = 1) ∧ zf_X9_isOf h (nI k) (nI k2) = some b ∧ zg_X10_isUnder S (nI k) (nI k2) = some b := by
  have e1 : k = 0 ∨ k = 1 ∨ k = 2 ∨ k = 3 ∨ k = 4 ∨ k = 5 ∨ k = 6 := by omega
  have e2 : k2 = 0 ∨ k2 = 1 ∨ k2 = 2 ∨ k2 = 3 ∨ k2 = 4 ∨ k2 = 5 ∨ k2 = 6 := by omega
  rcases e1 with rfl | rfl | rfl | rfl | rfl | rfl | rfl <;> rcases e2 with rfl | rfl | rfl | rfl | rfl | rfl | rfl <;> first
    | exact ⟨0, Or.inl rfl, rfl, rfl⟩
    | exact ⟨1, Or.inr rfl, rfl, rfl⟩
theorem zs_isKind {k : Nat} (h : k < 7) (w : zc_H) : zf_X9_isKind w (nI k) = some 1 := by
  unfold zf_X9_isKind
  rw [if_neg (nI_pos (by omega)), if_neg (show ¬ (7 : Int32) ≤ nI k from nI_ge h (by decide))]
theorem zs_isKindN {x : Int32} (h : x < 0 ∨ 7 ≤ x) (w : zc_H) : zf_X9_isKind w x = some 0 := by
  unfold zf_X9_isKind
  by_cases c : x < 0
  · rw [if_pos c]
  · rw [if_neg c, if_pos (h.resolve_left c)]
theorem zr_of {S : zm_S} {k m : Nat} (hk : k < 7) (hm : m < 16) : ∀ x : Int32, x = nI k → zg_X10_of S x (nI m) = some (S.2.1 6 (16 * k + m)) := by
  rintro x rfl
  unfold zg_X10_of
  rw [show (16 : Int32) * nI k + nI m = nI (16 * k + m) by rw [show (16 : Int32) = nI 16 by decide, za_mul, za_add], za_ai (by omega) (by decide), zo_s]
/-- what is told of a remark -/
theorem zx_rem_e {z : Nat} {h : zc_H} {f g : Nat → Nat} {N : Nat} {F C : Nat → Int32} {L : Nat → Int64} {T : Nat → Int32} {rdy : Nat → Int32 → Prop} {M m : Nat} (B : zx_doc z h f g N M F C L T rdy) (hm : m < M) : zf_is h (g m) 3 = true := by
  obtain ⟨-, -, kind, a, r, p, q, an, -, -, -, -, -, -, -, -, -, -, -, -, e⟩ := B.2.2.2 m hm
  exact Classical.not_not.mp (zb_is e)
theorem zx_rev_is {z : Nat} {h : zc_H} {f g : Nat → Nat} {N : Nat} {F C : Nat → Int32} {L : Nat → Int64} {T : Nat → Int32} {rdy : Nat → Int32 → Prop} {M r : Nat} (B : zx_doc z h f g N M F C L T rdy) (hr : r < N) : zf_is h (f r) 4 = true := by
  obtain ⟨-, rf, fo, e, -⟩ := B.2.2.1 r hr
  exact Classical.not_not.mp (zb_is e)
theorem ze_says {z : Nat} {w : zc_H} {D : zy_D} {S : zm_S} {N M : Nat} (R : zx_R z w D S N M) (x1 x2 : Int32) : zx_res z w (zf_X9_says w z x1 x2) (zg_X10_says S x1 x2) := by
  have A := zx_R_is R
  have hz := (zx_R_z R).1
  have n1 : ¬ (1 : Int32) = 0 := by decide
  have hM := (zx_R_16 R).2
  obtain ⟨-, E, f, g, f', g', fb, N', M', nb, -, ⟨-, -, -, -, al4, -⟩, doc, -⟩ := id R
  unfold zf_X9_says
  dsimp only
  rw [if_neg (zy_is0 A)]
  rcases zn_rng x1 (n := 8) (by decide) with hx | ⟨s, hs, rfl⟩
  · rw [zs_shelfN A hz hx, zo_s, if_pos rfl]
    unfold zg_X10_says
    dsimp only
    rw [zg_wn S (n := 7) (y := 7) rfl hx (by decide), zo_s, if_pos rfl]
    exact zx_no_res (c := 1) R (by decide) (by decide) (by decide) (by decide) rfl
  rw [zs_shelf A hz hs, zo_s, if_neg (by simp)]
  rcases zn_rng x2 (n := 7) (by decide) with hx | ⟨k, hk, rfl⟩
  · rw [zs_isKindN hx, zo_s, if_pos rfl]
    unfold zg_X10_says
    dsimp only
    rw [zg_wy S (n := 7) (y := 7) rfl (by omega) (by decide), zo_s, if_neg n1, zg_wn S (n := 6) (y := 6) rfl hx (by decide), zo_s, if_pos rfl]
    exact zx_no_res (c := 1) R (by decide) (by decide) (by decide) (by decide) rfl
  rw [zs_isKind hk, zo_s, if_neg n1, zo_s]
  obtain ⟨hv, e0, -, -⟩ := zx_R_s R hs
  have rs : ∀ X Y : Option (zm_S × Int32), ((zg_X10_within S (nI s) 0 7).bind fun r1 => if r1 = 0 then X else (zg_X10_within S (nI k) 0 6).bind fun r4 => if r4 = 0 then X else Y) = Y := by
    intro X Y
    rw [zg_wy S (n := 7) (y := 7) rfl (by omega) (by decide), zo_s, if_neg n1, zg_wy S (n := 6) (y := 6) rfl (by omega) (by decide), zo_s, if_neg n1]
  have ap : zg_ai 8 (S.2.1 9) (nI s) = some (S.2.1 9 s) := za_ai hs (by decide)
  rcases zs_cls A hs hM hv e0 with ⟨a1, a2, a3, a4⟩ | ⟨m, hm, a1, a2, a3, a4⟩ | ⟨t, ht, a1, a2, a3, a4⟩
  · rw [a3, zo_s, if_pos rfl, zy_r0_1 A, zo_s, zy_gS0 A hs, zo_s, zo_s, e0, a1, zs_remN A al4 (Or.inl (by decide)), zo_s, if_pos rfl]
    unfold zg_X10_says
    dsimp only
    rw [rs, ap, zo_s, a1, if_pos (by decide), if_neg (by decide)]
    exact zx_no_res (c := 3) R (by decide) (by decide) (by decide) (by decide) rfl
  · have q := zh_m (show m < 16 by omega)
    rw [a3, zo_s, if_pos rfl, zy_r0_1 A, zo_s, zy_gS0 A hs, zo_s, zo_s, e0, a1, zs_rem A al4 hM hm (zx_rem_e doc hm), zo_s, if_neg (by simp), zo_s]
    obtain ⟨-, -, kind, a, r, p1, q1, an, c1, c2, c3, c4, c5, c6, c7, c8, c9, c10, c11, c12, c13⟩ := doc.2.2.2 m hm
    have hq24 : q1 < 24 := Nat.lt_of_lt_of_le c5 (zx_n24 _ _)
    obtain ⟨b, hb, b1, b2⟩ := zx_isOf c1 hk w S
    rw [zb_gi c13 rfl, zo_s, b1, zo_s]
    have ro : ∀ j, j < 7 → ∀ x : Int32, x = nI j → zg_X10_of S x (nI m) = some (S.2.1 6 (16 * j + m)) := fun j hj => zr_of hj (by omega)
    have o0 := ro 0 (by decide) 0 rfl
    have o1 := ro 1 (by decide) 1 rfl
    have o2 := ro 2 (by decide) 2 rfl
    have o3 := ro 3 (by decide) 3 rfl
    have o4 := ro 4 (by decide) 4 rfl
    rw [show 16 * 0 + m = m by omega, c6] at o0
    rw [c7] at o1
    rw [c8] at o2
    rw [c9] at o3
    rw [c10] at o4
    rcases hb with rfl | rfl
    · rw [if_pos rfl]
      unfold zg_X10_says
      dsimp only
      rw [rs, ap, zo_s, a1, if_neg q.2.1, a4, zo_s, if_pos rfl, o0, zo_s, b2, zo_s, if_pos rfl]
      exact zx_no_res (c := 2) R (by decide) (by decide) (by decide) (by decide) rfl
    rw [if_neg n1]
    unfold zg_X10_says
    dsimp only
    rw [rs, ap, zo_s, a1, if_neg q.2.1, a4, zo_s, if_pos rfl, o0, zo_s, b2, zo_s, if_neg n1, if_pos q.2.2.2.1]
    have fin : ∀ v : Int32, zx_res z w ((some v).bind fun r21 => some (w, r21)) (some (S, v)) := fun v => ⟨w, S, v, D, N, M, rfl, rfl, R, zx_blk_refl z w⟩
    have len : zf_X9_lengthOf w (nI (32 * p1 + q1)) = some (nI q1 - nI p1 + 1) := by
      rw [zs_len c4 (by omega), za_sub c4, nI_succ]
    have rv : zf_gi w (f r) 4 0 = some (nI r) := by
      obtain ⟨-, rf, fo, e, -⟩ := doc.2.2.1 r c3
      exact zb_gi e rfl
    unfold zf_X3_wordAs
    rw [if_neg (zb_is c13)]
    have hk7 : k = 0 ∨ k = 1 ∨ k = 2 ∨ k = 3 ∨ k = 4 ∨ k = 5 ∨ k = 6 := by omega
    rcases hk7 with rfl | rfl | rfl | rfl | rfl | rfl | rfl
    · rw [show nI 0 = (0 : Int32) by decide, if_pos rfl, o3, zo_s, if_neg (by decide), if_neg (by decide), if_neg (by decide), if_neg (by decide), if_neg (by decide), if_neg (by decide), zb_gi c13 rfl, zo_s, zs_first (by omega) (by omega), zo_s]
      exact fin _
    · rw [show nI 1 = (1 : Int32) by decide, if_pos rfl, zb_gi c13 rfl, zo_s, if_neg (by decide), if_pos rfl, o1, zo_s]
      exact fin _
    · rw [show nI 2 = (2 : Int32) by decide, if_neg (by decide), if_pos rfl, zb_gi c13 rfl, zo_s, len, zo_s, if_neg (by decide), if_neg (by decide), if_pos rfl, o4, zo_s, o3, zo_s]
      exact fin _
    · rw [show nI 3 = (3 : Int32) by decide, if_neg (by decide), if_neg (by decide), if_pos rfl, zb_gi c13 rfl, zo_s, if_neg (by decide), if_neg (by decide), if_neg (by decide), if_pos rfl, o1, zo_s]
      exact fin _
    · rw [show nI 4 = (4 : Int32) by decide, if_neg (by decide), if_neg (by decide), if_neg (by decide), if_pos rfl, zb_gi c13 rfl, zo_s, zs_last (by omega) (by omega), zo_s, if_neg (by decide), if_neg (by decide), if_neg (by decide), if_neg (by decide), if_pos rfl, o4, zo_s]
      exact fin _
    · rw [show nI 5 = (5 : Int32) by decide, if_neg (by decide), if_neg (by decide), if_neg (by decide), if_neg (by decide), if_pos rfl, zb_gi c13 rfl, zo_s, len, zo_s, if_neg (by decide), if_neg (by decide), if_neg (by decide), if_neg (by decide), if_neg (by decide), if_pos rfl, o4, zo_s, o3, zo_s]
      exact fin _
    · rw [show nI 6 = (6 : Int32) by decide, if_neg (by decide), if_neg (by decide), if_neg (by decide), if_neg (by decide), if_neg (by decide), if_pos rfl, zb_gr (x := some (f r)) c13 rfl, zo_s, zo_s, rv, zo_s, if_neg (by decide), if_neg (by decide), if_neg (by decide), if_neg (by decide), if_neg (by decide), if_neg (by decide), if_pos rfl, o2, zo_s]
      exact fin _
  · rw [a3, zo_s, if_neg n1]
    unfold zg_X10_says
    dsimp only
    rw [rs, ap, zo_s, a1, if_neg (zh_t ht).2.1, a4, zo_s, if_neg n1]
    exact zx_no_res (c := 2) R (by decide) (by decide) (by decide) (by decide) rfl
