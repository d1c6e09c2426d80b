/-! scratch: numbers that no answer shows -/
def zx_eqD (D D2 : zy_D) : Prop := ∀ k, k < 9 ∨ 19 < k → D2.1 k = D.1 k ∧ D2.2.1 k = D.2.1 k ∧ D2.2.2 k = D.2.2 k
def zx_eqS (S S2 : zm_S) : Prop := (∀ k, k < 25 → S2.1 k = S.1 k) ∧ (∀ k, k < 25 → S2.2.1 k = S.2.1 k) ∧ S2.2.2 = S.2.2
theorem zx_eqD_refl (D : zy_D) : zx_eqD D D := fun _ _ => ⟨rfl, rfl, rfl⟩
theorem zx_eqS_refl (S : zm_S) : zx_eqS S S := ⟨fun _ _ => rfl, fun _ _ => rfl, rfl⟩
theorem zx_eqD_trans {D D2 D3 : zy_D} (A : zx_eqD D D2) (B : zx_eqD D2 D3) : zx_eqD D D3 := fun k hk => ⟨(B k hk).1.trans (A k hk).1, (B k hk).2.1.trans (A k hk).2.1, (B k hk).2.2.trans (A k hk).2.2⟩
theorem zx_eqS_trans {S S2 S3 : zm_S} (A : zx_eqS S S2) (B : zx_eqS S2 S3) : zx_eqS S S3 := ⟨fun k hk => (B.1 k hk).trans (A.1 k hk), fun k hk => (B.2.1 k hk).trans (A.2.1 k hk), B.2.2.trans A.2.2⟩
theorem zx_eqD_I {D : zy_D} {k f : Nat} {x : Int32} (h : 9 ≤ k ∧ k ≤ 19) : zx_eqD D (zy_I D k f x) := fun j hj => ⟨va_up_ne _ _ (by omega), rfl, rfl⟩
theorem zx_eqD_A {D : zy_D} {k : Nat} {a : Nat → Int32} (h : 9 ≤ k ∧ k ≤ 19) : zx_eqD D (zy_A D k a) := fun j hj => ⟨rfl, va_up_ne _ _ (by omega), rfl⟩
theorem zx_eqD_J {D : zy_D} {k : Nat} {a : Nat → Int64} (h : 9 ≤ k ∧ k ≤ 19) : zx_eqD D (zy_J D k a) := fun j hj => ⟨rfl, rfl, va_up_ne _ _ (by omega)⟩
theorem zx_eqS_m (S : zm_S) (cm : Nat → Int32) (P : zp_P) : zx_eqS S (zr_m S cm P) := by
  refine ⟨fun k hk => ?_, fun k hk => zr_m2 S cm P hk, rfl⟩
  unfold zr_m
  dsimp only
  rw [va_up_ne _ _ (by omega), va_up_ne _ _ (by omega)]
theorem zx_eqS_w (S : zm_S) (v : Nat → Int32) : zx_eqS S (zr_w S v) := ⟨fun _ hk => zr_wn S v (by omega), fun _ _ => rfl, rfl⟩
theorem zx_eqS_r (S : zm_S) {k : Nat} (c : Nat → Int32) (hk : 25 ≤ k) : zx_eqS S (S.1, va_up S.2.1 k c, S.2.2) := ⟨fun _ _ => rfl, fun j hj => va_up_ne _ _ (by omega), rfl⟩
theorem zx_dq_eq {S S2 : zm_S} (A : zx_eqS S S2) : zx_dq S S2 := ⟨A.2.1 1 (by decide), A.2.1 2 (by decide), by rw [A.2.2], fun i _ => by rw [A.2.1 6 (by decide)], A.2.1 18 (by decide), A.2.1 19 (by decide), by rw [A.2.2], A.2.1 22 (by decide)⟩
theorem zx_co_eq {S S2 : zm_S} {N : Nat} (h1 : S2.2.1 1 = S.2.1 1) (h2 : S2.2.1 2 = S.2.1 2) (h3 : S2.2.2 3 = S.2.2 3) (h4 : S2.2.1 4 = S.2.1 4) (h7 : S2.2.1 7 0 = S.2.1 7 0) (A : zx_co S N) : zx_co S2 N := by
  unfold zx_co zr_ln at A ⊢
  rw [h1, h2, h3, h4, h7]
  exact A
theorem zx_s_eq {S S2 : zm_S} {N M : Nat} (A : zx_eqS S S2) (B : zx_s S N M) : zx_s S2 N M := by
  obtain ⟨b1, b2, b3, b4, b5, b6, b7⟩ := B
  refine ⟨by rw [A.1 0 (by decide)]; exact b1, by rw [A.1 5 (by decide)]; exact b2, by rw [A.2.1 7 (by decide)]; exact b3, zx_co_eq (A.2.1 1 (by decide)) (A.2.1 2 (by decide)) (by rw [A.2.2]) (A.2.1 4 (by decide)) (by rw [A.2.1 7 (by decide)]) b4, by rw [A.1 13 (by decide)]; exact b5, by rw [A.2.1 9 (by decide)]; exact b6, by rw [A.2.1 10 (by decide)]; exact b7⟩
theorem zx_ds_eq {D D2 : zy_D} {S S2 : zm_S} {M : Nat} (A : zx_eqD D D2) (B : zx_eqS S S2) (C : zx_ds D S M) : zx_ds D2 S2 M := by
  obtain ⟨c1, c2, c3, c4, c5, c6, c7, c8, c9, c10, c11⟩ := C
  obtain ⟨b1, b2, b3⟩ := B
  refine ⟨?_, ?_, ?_, ?_, ?_, ?_, ?_, ?_, ?_, ?_, ?_⟩
  · rw [(A 0 (by decide)).1, b1 16 (by decide)]; exact c1
  · rw [(A 0 (by decide)).1, b1 12 (by decide)]; exact c2
  · rw [(A 2 (by decide)).1, b2 7 (by decide)]; exact c3
  · rw [(A 2 (by decide)).1, b2 7 (by decide)]; exact c4
  · rw [(A 2 (by decide)).1, b2 7 (by decide)]; exact c5
  · rw [(A 2 (by decide)).1, b1 8 (by decide)]; exact c6
  · rw [(A 2 (by decide)).1, b2 6 (by decide)]; exact c7
  · rw [(A 8 (by decide)).2.1, b2 15 (by decide)]; exact c8
  · rw [(A 20 (by decide)).1, b1 13 (by decide)]; exact c9
  · rw [(A 21 (by decide)).2.1, b2 14 (by decide)]; exact c10
  · intro s hs
    rw [(A (22 + 2 * s) (by omega)).1, (A (23 + 2 * s) (by omega)).2.2, b2 9 (by decide), b2 10 (by decide), b3]
    exact c11 s hs
theorem zx_im_eq {D D2 : zy_D} {S S2 : zm_S} {N' M' : Nat} (A : zx_eqD D D2) (B : zx_eqS S S2) (C : zx_im D S N' M') : zx_im D2 S2 N' M' := by
  obtain ⟨b1, b2, b3⟩ := B
  unfold zx_im
  rw [(A 5 (by decide)).1, b1 16 (by decide), b1 17 (by decide), b1 21 (by decide), b1 24 (by decide), b2 22 (by decide), b2 23 (by decide)]
  exact C
/-- only scratch changes -/
theorem zx_RR_sc {z : Nat} {w w2 : zc_H} {D D2 : zy_D} {S S2 : zm_S} {rdy : Nat → Int32 → Prop} {E f g f' g' fb : Nat → Nat} {N M N' M' nb : Nat} (R : zx_RR z w D S rdy E f g f' g' fb N M N' M' nb) (h2 : w2.2 = w.2) (h3 : ∀ y, z + 60 ≤ y → w2.1 y = w.1 y) (h4 : ∀ k, zy_n k = false → w2.1 (z + k) = w.1 (z + k)) (h5 : zy_is z D2 w2) (hD : zx_eqD D D2) (hS : zx_eqS S S2) : zx_RR z w2 D2 S2 rdy E f g f' g' fb N M N' M' nb := by
  obtain ⟨r2, r3, r4, r5, r6, r7⟩ := R
  have kp := zx_kp_same h2 h3
  have dq := zx_dq_eq hS
  exact ⟨h5, zx_V_t h2 h3 h4 r3, zx_d1_q dq (zx_doc_t kp r4), zx_d2_q dq (zx_doc_t kp r5), zx_ds_eq hD hS r6, zx_im_eq hD hS r7⟩
theorem zx_RR_sh {z : Nat} {w : zc_H} {D D2 : zy_D} {S S2 : zm_S} {rdy : Nat → Int32 → Prop} {E f g f' g' fb : Nat → Nat} {N M N' M' nb : Nat} (R : zx_RR z w D S rdy E f g f' g' fb N M N' M' nb) (hD : zx_eqD D D2) (hS : zx_eqS S S2) : zx_RR z (zy_h z D2 w) D2 S2 rdy E f g f' g' fb N M N' M' nb := zx_RR_sc R rfl (fun y hy => zy_o (Or.inr (by omega))) (fun k hk => zy_l hk) (zy_is_h _ _ _) hD hS
theorem zx_R_of {z : Nat} {w : zc_H} {D : zy_D} {S S2 : zm_S} {E f g f' g' fb : Nat → Nat} {N M N' M' nb : Nat} (A : zx_s S N M) (hS : zx_eqS S S2) (R : zx_RR z w D S2 (fun _ x => x = S.2.1 7 0) E f g f' g' fb N M N' M' nb) : zx_R z w D S2 N M := ⟨zx_s_eq hS A, E, f, g, f', g', fb, N', M', nb, by rw [hS.2.1 7 (by decide)]; exact R⟩
theorem zx_R_sh {z : Nat} {w : zc_H} {D D2 : zy_D} {S S2 : zm_S} {N M : Nat} (R : zx_R z w D S N M) (hD : zx_eqD D D2) (hS : zx_eqS S S2) : zx_R z (zy_h z D2 w) D2 S2 N M := by
  obtain ⟨r1, E, f, g, f', g', fb, N', M', nb, r⟩ := R
  exact zx_R_of r1 hS (zx_RR_sh r hD hS)
/-- the back list changes -/
theorem zx_RR_back {z e2 nb2 : Nat} {w w2 : zc_H} {D : zy_D} {S : zm_S} {rdy : Nat → Int32 → Prop} {E f g f' g' fb fb2 : Nat → Nat} {N M N' M' nb : Nat} (R : zx_RR z w D S rdy E f g f' g' fb N M N' M' nb) (B : zx_fr (z + 16) w (E 16) w2 e2) (A : zk_al w2 (z + 16) e2 nb2 fb2) : zx_RR z w2 D S rdy (va_up E 16 e2) f g f' g' fb2 N M N' M' nb2 := by
  obtain ⟨r2, ⟨v1, v2, v3, v4, v5, v6, v7, v8⟩, r4, r5, r6, r7⟩ := R
  have kp := zx_fr_kp (by decide) v8 B
  have al : ∀ l n fn, zy_n l = false → l ≠ 16 → zk_al w (z + l) (E l) n fn → zk_al w2 (z + l) (va_up E 16 e2 l) n fn := fun l n fn hl hne q => by
    rw [va_up_ne _ _ hne]
    exact zx_fr_al v3 rfl hl hne v1 v2 q B
  exact ⟨zx_fr_is v3 rfl v1 v2 r2 B, ⟨by rw [B.2.1]; exact v1, Nat.le_trans v2 B.1, zx_fr_E v3 rfl v2 B, al 3 _ _ rfl (by decide) v4, al 4 _ _ rfl (by decide) v5, al 6 _ _ rfl (by decide) v6, al 7 _ _ rfl (by decide) v7, by rw [va_up_self]; exact A⟩, zx_doc_t kp r4, zx_doc_t kp r5, r6, r7⟩
/-! what is asked again and again -/
theorem zn_rng (x : Int32) {n : Nat} (hn : n < 2 ^ 31) : (x < 0 ∨ nI n ≤ x) ∨ ∃ i, i < n ∧ x = nI i := by
  by_cases c : x < 0
  · exact Or.inl (Or.inl c)
  obtain ⟨j, hj, rfl⟩ := nI_of c
  by_cases d : j < n
  · exact Or.inr ⟨j, d, rfl⟩
  · exact Or.inl (Or.inr (nI_le (by omega) hj))
theorem zg_wi (S : zm_S) {i n : Nat} (h : i < n) (hn : n < 2 ^ 31) : zg_X10_within S (nI i) 0 (nI n - 1) = some 1 := by
  unfold zg_X10_within
  rw [if_neg (nI_pos (by omega)), show nI n - 1 = nI (n - 1) from za_sub (show 1 ≤ n by omega), if_neg (nI_nlt (by omega) (by omega))]
theorem zg_wo (S : zm_S) {x : Int32} {n : Nat} (h : x < 0 ∨ nI n ≤ x) (hn : n < 2 ^ 31) : zg_X10_within S x 0 (nI n - 1) = some 0 := by
  unfold zg_X10_within
  by_cases c : x < 0
  · rw [if_pos c]
  · rw [if_neg c]
    obtain ⟨j, hj, rfl⟩ := nI_of c
    have h2 := (za_le hn hj).mp (h.resolve_left c)
    rw [if_pos]
    by_cases d : n = 0
    · subst d
      rw [show nI 0 - 1 = -1 by decide]
      exact zq_m1lt hj
    · rw [show nI n - 1 = nI (n - 1) from za_sub (show 1 ≤ n by omega)]
      exact nI_lt (by omega) hj
theorem zg_wi2 (S : zm_S) {i n : Nat} (h : i ≤ n) (hn : n < 2 ^ 31) : zg_X10_within S (nI i) 0 (nI n) = some 1 := by
  unfold zg_X10_within
  rw [if_neg (nI_pos (by omega)), if_neg (nI_nlt (by omega) (by omega))]
theorem zg_wo2 (S : zm_S) {x : Int32} {n : Nat} (h : x < 0 ∨ nI (n + 1) ≤ x) (hn : n + 1 < 2 ^ 31) : zg_X10_within S x 0 (nI n) = some 0 := by
  have e := zg_wo S h hn
  rwa [show nI (n + 1) - 1 = nI n from za_sub (show 1 ≤ n + 1 by omega)] at e
theorem zg_wy (S : zm_S) {i n : Nat} {y : Int32} (hy : y = nI n) (h : i ≤ n) (hn : n < 2 ^ 31) : zg_X10_within S (nI i) 0 y = some 1 := by
  rw [hy]
  exact zg_wi2 S h hn
theorem zg_wn (S : zm_S) {x y : Int32} {n : Nat} (hy : y = nI n) (h : x < 0 ∨ nI (n + 1) ≤ x) (hn : n + 1 < 2 ^ 31) : zg_X10_within S x 0 y = some 0 := by
  rw [hy]
  exact zg_wo2 S h hn
/-- the class's shelves -/
theorem zs_shelf {z s : Nat} {D : zy_D} {w : zc_H} (A : zy_is z D w) (hz : w.2.2 < z) (hs : s < 8) : zf_X9_shelfAt w z (nI s) = some (some (z + (22 + 2 * s))) := by
  unfold zf_X9_shelfAt
  rw [if_neg (zy_is0 A), if_neg (nI_pos (by omega)), zy_r0_0 A, zo_s, zo_s, zy_n1 A hz, zo_s, if_neg (show ¬ (8 : Int32) ≤ nI s from nI_ge hs (by decide)), zo_s, zo_s, zy_a1 A hs, zo_s]
theorem zs_shelfN {z : Nat} {D : zy_D} {w : zc_H} {x : Int32} (A : zy_is z D w) (hz : w.2.2 < z) (hx : x < 0 ∨ 8 ≤ x) : zf_X9_shelfAt w z x = some none := by
  unfold zf_X9_shelfAt
  rw [if_neg (zy_is0 A)]
  by_cases c : x < 0
  · rw [if_pos c]
  · rw [if_neg c, zy_r0_0 A, zo_s, zo_s, zy_n1 A hz, zo_s, if_pos (hx.resolve_left c)]
/-- a revision by its number -/
theorem zs_rev {z r N : Nat} {D : zy_D} {w : zc_H} {E f : Nat → Nat} (A : zy_is z D w) (B : zk_al w (z + 3) (E 3) N f) (hN : N ≤ 16) (hr : r < N) (hc : zf_is w (f r) 4 = true) : zf_X6_revisionAt w (z + 2) (nI r) = some (some (f r)) := by
  unfold zf_X6_revisionAt
  rw [if_neg (zy_is2 A), if_neg (nI_pos (by omega)), zy_r2_0 A, zo_s, zo_s, zk_al_size B, zo_s, if_neg (nI_ge hr (by omega)), zo_s, zo_s, zk_al_get B hr, zo_s, if_neg (show ¬ ¬ zf_cc w (some (f r)) 4 = true from not_not_intro hc)]
theorem zs_revN {z N : Nat} {x : Int32} {D : zy_D} {w : zc_H} {E f : Nat → Nat} (A : zy_is z D w) (B : zk_al w (z + 3) (E 3) N f) (hx : x < 0 ∨ nI N ≤ x) : zf_X6_revisionAt w (z + 2) x = some none := by
  unfold zf_X6_revisionAt
  rw [if_neg (zy_is2 A)]
  by_cases c : x < 0
  · rw [if_pos c]
  · rw [if_neg c, zy_r2_0 A, zo_s, zo_s, zk_al_size B, zo_s, if_pos (hx.resolve_left c)]
theorem zs_rem {z m M : Nat} {D : zy_D} {w : zc_H} {E g : Nat → Nat} (A : zy_is z D w) (B : zk_al w (z + 4) (E 4) M g) (hN : M ≤ 16) (hr : m < M) (hc : zf_is w (g m) 3 = true) : zf_X6_remarkAt w (z + 2) (nI m) = some (some (g m)) := by
  unfold zf_X6_remarkAt
  rw [if_neg (zy_is2 A), if_neg (nI_pos (by omega)), zy_r2_1 A, zo_s, zo_s, zk_al_size B, zo_s, if_neg (nI_ge hr (by omega)), zo_s, zo_s, zk_al_get B hr, zo_s, if_neg (show ¬ ¬ zf_cc w (some (g m)) 3 = true from not_not_intro hc)]
theorem zs_remN {z M : Nat} {x : Int32} {D : zy_D} {w : zc_H} {E g : Nat → Nat} (A : zy_is z D w) (B : zk_al w (z + 4) (E 4) M g) (hx : x < 0 ∨ nI M ≤ x) : zf_X6_remarkAt w (z + 2) x = some none := by
  unfold zf_X6_remarkAt
  rw [if_neg (zy_is2 A)]
  by_cases c : x < 0
  · rw [if_pos c]
  · rw [if_neg c, zy_r2_1 A, zo_s, zo_s, zk_al_size B, zo_s, if_pos (hx.resolve_left c)]
theorem zr_isRev {S : zm_S} {N r : Nat} (h : S.1 0 = nI N) (hN : N ≤ 16) (hr : r < N) : zg_X10_isRevision S (nI r) = some 1 := by
  unfold zg_X10_isRevision
  rw [h, zg_wi S hr (by omega), zo_s, if_neg (by decide)]
theorem zr_isRevN {S : zm_S} {N : Nat} {x : Int32} (h : S.1 0 = nI N) (hN : N ≤ 16) (hx : x < 0 ∨ nI N ≤ x) : zg_X10_isRevision S x = some 0 := by
  unfold zg_X10_isRevision
  rw [h, zg_wo S hx (by omega), zo_s, if_neg (by decide)]
theorem zr_isRem {S : zm_S} {M m : Nat} (h : S.1 5 = nI M) (hN : M ≤ 16) (hr : m < M) : zg_X10_isRemark S (nI m) = some 1 := by
  unfold zg_X10_isRemark
  rw [h, zg_wi S hr (by omega), zo_s, if_neg (by decide)]
theorem zr_isRemN {S : zm_S} {M : Nat} {x : Int32} (h : S.1 5 = nI M) (hN : M ≤ 16) (hx : x < 0 ∨ nI M ≤ x) : zg_X10_isRemark S x = some 0 := by
  unfold zg_X10_isRemark
  rw [h, zg_wo S hx (by omega), zo_s, if_neg (by decide)]
/-- a refusal -/
def zx_no (S : zm_S) (c : Nat) : zm_S := (S.1, va_up S.2.1 15 (va_up (S.2.1 15) c (S.2.1 15 c + 1)), S.2.2)
def zx_noD (D : zy_D) (c : Nat) : zy_D := zy_A D 8 (va_up (D.2.1 8) c (D.2.1 8 c + 1))
theorem zr_no {S : zm_S} {c : Nat} {x : Int32} (hx : x = -nI c) (h1 : 1 ≤ c) (h2 : c < 8) : zg_X10_no S x = some (zx_no S c, x) := by
  have e : -x = nI c := by rw [hx, Int32.neg_neg]
  unfold zg_X10_no
  rw [e, za_ai (by omega) (by decide), zo_s, za_si (by omega) (by decide), zo_s]
  rfl
theorem zr_no10 {S : zm_S} {c : Nat} {x : Int32} (hx : x = -nI c) (h1 : 1 ≤ c) (h2 : c < 8) : zg_X10_no10 S x = some (zx_no S c, x - 10) := by
  unfold zg_X10_no10
  rw [zr_no hx h1 h2, zo_s]
theorem zs_refuse {z c : Nat} {D : zy_D} {w : zc_H} {x : Int32} (A : zy_is z D w) (hz : w.2.2 < z) (hx : (-x) - (-x) / 10 * 10 = nI c) (h1 : 1 ≤ c) (h2 : c < 8) : zf_X9_refuse w z x = some (zy_h z (zx_noD D c) w, x) := by
  unfold zf_X9_refuse
  rw [if_neg (zy_is0 A), hx, if_neg (nI_nle (by omega) (by omega)), zy_r0_4 A, zo_s, zo_s, zy_n8 A hz, zo_s, if_neg (show ¬ (8 : Int32) ≤ nI c from nI_ge h2 (by decide)), zo_s, zo_s, zy_a8 A h2, zo_s, zy_s8 A h2, zo_s]
  rfl
theorem zx_R_no {z c : Nat} {w : zc_H} {D : zy_D} {S : zm_S} {N M : Nat} (R : zx_R z w D S N M) : zx_R z (zy_h z (zx_noD D c) w) (zx_noD D c) (zx_no S c) N M := by
  refine zx_R_ov R rfl (fun y hy => zy_o (Or.inr (by omega))) (fun k hk => zy_l hk) (zy_is_h _ _ _) ?_ ⟨rfl, rfl, rfl, fun _ _ => rfl, rfl, rfl, rfl, rfl⟩ rfl ?_ (fun N' M' h => h)
  · exact ⟨R.1.1, R.1.2.1, R.1.2.2.1, R.1.2.2.2.1, R.1.2.2.2.2.1, R.1.2.2.2.2.2.1, R.1.2.2.2.2.2.2⟩
  · obtain ⟨-, E, f, g, f', g', fb, N', M', nb, -, -, -, -, ⟨c1, c2, c3, c4, c5, c6, c7, c8, c9, c10, c11⟩, -⟩ := R
    refine ⟨c1, c2, c3, c4, c5, c6, c7, fun i hi => ?_, c9, c10, fun s hs => c11 s hs⟩
    show va_up (D.2.1 8) c (D.2.1 8 c + 1) i = va_up (S.2.1 15) c (S.2.1 15 c + 1) i
    by_cases q : i = c
    · subst q
      rw [va_up_self, va_up_self, c8 i hi]
    · rw [va_up_ne _ _ q, va_up_ne _ _ q, c8 i hi]
