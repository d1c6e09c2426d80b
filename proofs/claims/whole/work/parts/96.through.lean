/-! along a way: through, origin, judge -/
section ZV
variable {z : Nat} {w : zc_H} {D : zy_D} {S : zm_S} {f g f' g' : Nat → Nat} {N M N' M' : Nat}
theorem zx_X_lay (X : zx_X z f g f' g' N M N' M' w S) {r t : Nat} (hr : r < N) (ht : t < N) : ∃ (u : zc_H) (b : Int32), zf_X8_layWay w (z + 15) (some (f r)) (some (f t)) = some (u, b) ∧ zx_blk z w u ∧ zx_kp z w u ∧ ((∃ l, zq_way (S.2.1 1) r 17 t = some l ∧ zq_wy (S.2.1 1) N r t l ∧ b = 1 ∧ ∃ D E, zx_RR z u D S (fun _ x => x = S.2.1 7 0) E f g f' g' (fun i => f (l.getD i 0)) N M N' M' l.length) ∨ (zq_way (S.2.1 1) r 17 t = none ∧ b = 0 ∧ zx_X z f g f' g' N M N' M' u S)) := by
  obtain ⟨zs, D, E, fb, nb, RR⟩ := X
  obtain ⟨A, ⟨hz, hsz, hE, v4, v5, v6, v7, v8⟩, doc, r4, r5, r6⟩ := id RR
  have doc : zx_doc z w f g N M (S.2.1 1) (S.2.1 2) (S.2.2 3) (S.2.1 6) (fun _ x => x = S.2.1 7 0) := doc
  obtain ⟨u, e2, b, l1, l2, l3⟩ := zs_lay A hz hsz hE v8 doc hr ht
  refine ⟨u, b, l1, zx_fr_blk hE rfl hz hsz l2, zx_fr_kp (z := z) (k := 16) (by decide) v8 l2, ?_⟩
  rcases l3 with ⟨l, m1, m2, m3⟩ | ⟨m1, m2, n, fn, m3⟩
  · exact Or.inl ⟨l, m1, zq_wy_of (zx_fm doc) ht m1, m2, D, va_up E 16 e2, zx_RR_back RR l2 m3⟩
  · exact Or.inr ⟨m1, m2, zs, D, va_up E 16 e2, fn, n, zx_RR_back RR l2 m3⟩
theorem zs_place_n {h : zc_H} {b : Nat} (hb : zf_is h b 4 = true) : zf_X4_placeOf h b (-1) = some (-1) := by
  unfold zf_X4_placeOf
  rw [if_neg (not_not_intro hb), if_pos (by decide)]
section ZL
variable {E : Nat → Nat} {l : List Nat} {r t : Nat}
theorem zs_car1 (R : zx_RR z w D S (fun _ x => x = S.2.1 7 0) E f g f' g' (fun i => f (l.getD i 0)) N M N' M' l.length) (W : zq_wy (S.2.1 1) N r t l) : ∀ (j fu : Nat), j ≤ l.length - 1 → j < fu → zf_X8_carried_L12 w (z + 15) fu (-1) (nI j + (-1)) = some (-1) := by
  obtain ⟨A, ⟨hz, hsz, hE, v4, v5, v6, v7, v8⟩, doc, r4, r5, r6⟩ := id R
  have doc : zx_doc z w f g N M (S.2.1 1) (S.2.1 2) (S.2.2 3) (S.2.1 6) (fun _ x => x = S.2.1 7 0) := doc
  obtain ⟨w1, w2, w3, w4, w5, w6⟩ := id W
  intro j
  induction j with
  | zero =>
    intro fu h1 h2
    obtain ⟨fu, rfl⟩ : ∃ n, fu = n + 1 := ⟨fu - 1, by omega⟩
    unfold zf_X8_carried_L12
    rw [if_pos (show nI 0 + (-1) < 0 by decide)]
  | succ j ih =>
    intro fu h1 h2
    obtain ⟨fu, rfl⟩ : ∃ n, fu = n + 1 := ⟨fu - 1, by omega⟩
    have is4 := zx_rev_is doc (w5 j (by omega))
    unfold zf_X8_carried_L12
    rw [za_pm, if_neg (nI_pos (by omega)), zy_r15_1 A, zo_s, zo_s, zk_al_get v8 (by omega), zo_s, if_neg (show ¬ ¬ zf_cc _ (some (f (l.getD j 0))) 4 = true from not_not_intro is4), zo_s, zs_place_n is4, zo_s]
    exact ih fu (by omega) (by omega)
theorem zs_car (R : zx_RR z w D S (fun _ x => x = S.2.1 7 0) E f g f' g' (fun i => f (l.getD i 0)) N M N' M' l.length) (hc : zx_co S N) (hr' : zx_rules (S.2.1 7)) (W : zq_wy (S.2.1 1) N r t l) {c : Nat → Int32} (hch : ∀ i, i < l.length → c i = nI (l.getD i 0)) : ∀ (j fu fu2 : Nat) (x : Int32), j ≤ l.length - 1 → j < fu → j < fu2 → (x = -1 ∨ ∃ i, i < 24 ∧ x = nI i) → ∃ y, zf_X8_carried_L12 w (z + 15) fu x (nI j + (-1)) = some y ∧ zg_X10_through_L68 (zx_SA S 30 c) fu2 x (nI j + (-1)) = some y := by
  obtain ⟨A, ⟨hz, hsz, hE, v4, v5, v6, v7, v8⟩, doc, r4, r5, r6⟩ := id R
  have docd := doc
  have doc : zx_doc z w f g N M (S.2.1 1) (S.2.1 2) (S.2.2 3) (S.2.1 6) (fun _ x => x = S.2.1 7 0) := doc
  obtain ⟨w1, w2, w3, w4, w5, w6⟩ := id W
  obtain ⟨run, need, margin, u1, u2, u3, u4, u5, u6, u7⟩ := hr'
  have hN := doc.1
  intro j
  induction j with
  | zero =>
    intro fu fu2 x h1 h2 h3 hx
    obtain ⟨fu, rfl⟩ : ∃ n, fu = n + 1 := ⟨fu - 1, by omega⟩
    obtain ⟨fu2, rfl⟩ : ∃ n, fu2 = n + 1 := ⟨fu2 - 1, by omega⟩
    unfold zf_X8_carried_L12 zg_X10_through_L68
    rw [if_pos (show nI 0 + (-1) < 0 by decide), if_pos (show nI 0 + (-1) < 0 by decide)]
    exact ⟨x, rfl, rfl⟩
  | succ j ih =>
    intro fu fu2 x h1 h2 h3 hx
    rcases hx with rfl | ⟨i, hi, rfl⟩
    · refine ⟨-1, zs_car1 R W (j + 1) fu h1 h2, ?_⟩
      obtain ⟨fu2, rfl⟩ : ∃ n, fu2 = n + 1 := ⟨fu2 - 1, by omega⟩
      unfold zg_X10_through_L68
      rw [za_pm, if_neg (nI_pos (by omega)), if_pos rfl]
    · obtain ⟨fu, rfl⟩ : ∃ n, fu = n + 1 := ⟨fu - 1, by omega⟩
      obtain ⟨fu2, rfl⟩ : ∃ n, fu2 = n + 1 := ⟨fu2 - 1, by omega⟩
      have hb := w5 j (by omega)
      obtain ⟨f1, f2⟩ := w6 j (by omega)
      have is4 := zx_rev_is doc hb
      have pl := (zx_place hz docd hc u1 u4 u5 hb f1 f2).2 i hi
      have gd := zx_pl hc hb f1 f2
      have n24 := zx_n24 (S.2.1 2) (l.getD j 0)
      obtain ⟨y, y1, y2⟩ := ih fu fu2 (zr_co S (l.getD j 0) i) (by omega) (by omega) (by omega) ((gd.2 i hi).imp (fun h => h) (fun ⟨p, p1, p2⟩ => ⟨p, by omega, p2⟩))
      refine ⟨y, ?_, ?_⟩
      · unfold zf_X8_carried_L12
        rw [za_pm, if_neg (nI_pos (by omega)), zy_r15_1 A, zo_s, zo_s, zk_al_get v8 (by omega), zo_s, if_neg (show ¬ ¬ zf_cc _ (some (f (l.getD j 0))) 4 = true from not_not_intro is4), zo_s, pl, zo_s]
        exact y1
      · unfold zg_X10_through_L68
        rw [za_pm, if_neg (nI_pos (by omega)), if_neg (za_ne _ (by omega)), zx_SAa, za_ai (by omega) (by decide), zo_s, zx_SAn S c (by decide), hch j (by omega), za_24, za_ai (by omega) (by decide), zo_s]
        exact y2
end ZL
theorem ze_through (R : zx_R z w D S N M) (x1 x2 x3 : Int32) : zx_res z w (zf_X9_through w z x1 x2 x3) (zg_X10_through S x1 x2 x3) := by
  have A := zx_R_is R
  have hz := (zx_R_z R).1
  obtain ⟨hN, hM⟩ := zx_R_16 R
  have n1 : ¬ (1 : Int32) = 0 := by decide
  obtain ⟨f, g, f', g', N', M', X⟩ := zx_R_X R
  obtain ⟨zs, D', E, fb, nb, RR⟩ := id X
  obtain ⟨A', ⟨-, -, -, al3, al4, -⟩, doc, -⟩ := id RR
  have doc : zx_doc z w f g N M (S.2.1 1) (S.2.1 2) (S.2.2 3) (S.2.1 6) (fun _ x => x = S.2.1 7 0) := doc
  unfold zf_X9_through
  dsimp only
  rw [if_neg (zy_is0 A), zy_r0_1 A, zo_s, zo_s]
  have e2 : ∃ o, zf_X6_revisionAt w (z + 2) x2 = some o := by
    rcases zn_rng x2 (n := N) (by omega) with hx | ⟨r, hr, rfl⟩
    · exact ⟨_, zs_revN A al3 hx⟩
    · exact ⟨_, zs_rev A al3 hN hr (zx_rev_is doc hr)⟩
  rcases zn_rng x1 (n := N) (by omega) with hx | ⟨r, hr, rfl⟩
  · obtain ⟨o, e⟩ := e2
    rw [zs_revN A al3 hx, zo_s, zo_s, zo_s, e, zo_s, if_pos rfl]
    unfold zg_X10_through
    dsimp only
    rw [zr_isRevN R.1.1 hN hx, zo_s, if_pos rfl]
    exact zx_no10_res (c := 1) R (by decide) (by decide) (by decide) (by decide) rfl
  rw [zs_rev A al3 hN hr (zx_rev_is doc hr), zo_s, zo_s, zo_s]
  rcases zn_rng x2 (n := N) (by omega) with hx | ⟨t, ht, rfl⟩
  · rw [zs_revN A al3 hx, zo_s, if_neg (by simp), if_pos rfl]
    unfold zg_X10_through
    dsimp only
    rw [zr_isRev R.1.1 hN hr, zo_s, if_neg n1, zr_isRevN R.1.1 hN hx, zo_s, if_pos rfl]
    exact zx_no10_res (c := 1) R (by decide) (by decide) (by decide) (by decide) rfl
  rw [zs_rev A al3 hN ht (zx_rev_is doc ht), zo_s, if_neg (by simp), if_neg (by simp), zo_s]
  have h24 := zx_n24 (S.2.1 2) r
  rcases zn_rng x3 (n := zx_n (S.2.1 2) r) (by omega) with hx | ⟨i, hi, rfl⟩
  · rw [zs_hasLN (zx_rv doc hz hr) hx, zo_s, if_pos rfl]
    unfold zg_X10_through
    dsimp only
    rw [zr_isRev R.1.1 hN hr, zo_s (1 : Int32), if_neg n1, zr_isRev R.1.1 hN ht, zo_s (1 : Int32), if_neg n1, zr_isLN (by omega) (zx_C doc hr).1 h24 hx, zo_s, if_pos rfl]
    exact zx_no10_res (c := 5) R (by decide) (by decide) (by decide) (by decide) rfl
  obtain ⟨u, b, l1, l2, l3, l4⟩ := zx_X_lay X hr ht
  obtain ⟨c, b', c1, c2⟩ := zr_beh (S := S) (zx_fm doc) hr ht
  rw [zs_hasL (zx_rv doc hz hr) h24 hi, zo_s, if_neg n1, zy_r0_8 A, zo_s, zo_s, l1, zo_s]
  unfold zg_X10_through
  dsimp only
  rw [zr_isRev R.1.1 hN hr, zo_s (1 : Int32), if_neg n1, zr_isRev R.1.1 hN ht, zo_s (1 : Int32), if_neg n1, zr_isL (by omega) (zx_C doc hr).1 h24 hi, zo_s (1 : Int32), if_neg n1, c1, zo_s (zx_SA S 30 c, b')]
  dsimp only
  have eS : zx_eqS S (zx_SA S 30 c) := zx_eqS_r S c (by decide)
  rcases l4 with ⟨l, d1, W, d2, Du, Eu, RRu⟩ | ⟨d1, d2, Xu⟩
  · rcases c2 with ⟨l', d3, d4, d5⟩ | ⟨d3, -⟩
    · rw [d1] at d3
      cases d3
      have Au := RRu.1
      have alu := RRu.2.1.2.2.2.2.2.2.2
      obtain ⟨n, hn⟩ : ∃ n, l.length = n + 1 := ⟨l.length - 1, by have := W.1; omega⟩
      have l16 := W.2.1
      rw [d2, if_neg n1, d4, if_neg (za_ne _ (by omega)), zy_r0_8 Au, zo_s, zo_s]
      obtain ⟨y, y1, y2⟩ := zs_car RRu zs.2.2.2.1 zs.2.2.1 W d5 n 2000 2000 (nI i) (by omega) (by omega) (by omega) (Or.inr ⟨i, by omega, rfl⟩)
      have car : zf_X8_carried u (z + 15) (nI i) = some y := by
        unfold zf_X8_carried
        rw [if_neg (zy_is15 Au), zy_r15_1 Au, zo_s, zo_s, zk_al_size alu, zo_s, hn, za_len2, y1, zo_s]
      rw [car, zo_s, hn, show nI (n + 1 - 1) - 1 = nI n + (-1) from by rw [Nat.add_sub_cancel, Int32.sub_eq_add_neg], y2, zo_s]
      obtain ⟨D3, R3⟩ := zx_X_R (zx_X_of (w2 := u) zs eS RRu)
      exact ⟨u, _, y, D3, N, M, rfl, rfl, R3, l2⟩
    · rw [d1] at d3
      cases d3
  · rcases c2 with ⟨l', d3, d4, d5⟩ | ⟨d3, d4⟩
    · rw [d1] at d3
      cases d3
    · rw [d2, if_pos rfl, d4, if_pos rfl]
      obtain ⟨D3, R3⟩ := zx_X_R (zx_X_S eS Xu)
      exact zx_res_trans l2 (zx_no10_res (c := 6) R3 (by decide) (by decide) (by decide) (by decide) rfl)
end ZV
