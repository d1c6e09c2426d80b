/-! several puts, one after another: fitting -/
theorem zx_st_e {S S2 : zm_S} (h : zx_eqS S S2) (need margin kind a : Nat) : zx_st S2 need margin kind a = zx_st S need margin kind a := by
  have e1 : zr_ln S2 = zr_ln S := by
    unfold zr_ln
    rw [h.2.2]
  have e2 : zr_co S2 = zr_co S := by
    unfold zr_co
    rw [h.2.1 4 (by decide)]
  unfold zx_st
  rw [e1, e2, h.2.1 2 (by decide)]
theorem zx_T_e {S S2 : zm_S} (h : zx_eqS S S2) (need margin kind a r p q : Nat) (l : List Nat) (k : Nat) : zx_T S2 need margin kind a r p q l k = zx_T S need margin kind a r p q l k := by
  unfold zx_T
  rw [zx_st_e h]
theorem zx_rm_t {z : Nat} {S S2 : zm_S} {w w2 : zc_H} {f g : Nat → Nat} {N m kind a r p q : Nat} {an : Int32} (h : zx_eqS S S2) (kp : zx_kp z w w2) (g1 : z + 60 ≤ g m) (g2 : g m < w.2.1) (Q : zx_rm S w f g N m kind a r p q an) : zx_rm S2 w2 f g N m kind a r p q an := by
  obtain ⟨q1, q2, q3, q4, q5, q6, q7, q8, q9, q10, q11, q12⟩ := Q
  unfold zx_rm
  rw [h.2.1 6 (by decide), h.2.1 2 (by decide)]
  exact ⟨q1, q2, q3, q4, q5, q6, q7, q8, q9, q10, q11, kp.2.2 _ _ g1 g2 q12 (fun a h => by cases h)⟩
/-- both sides, with what the class's own objects are held fixed -/
def zx_X (z : Nat) (f g f' g' : Nat → Nat) (N M N' M' : Nat) (w : zc_H) (S : zm_S) : Prop := zx_s S N M ∧ ∃ D E fb nb, zx_RR z w D S (fun _ x => x = S.2.1 7 0) E f g f' g' fb N M N' M' nb
theorem zx_X_R {z : Nat} {f g f' g' : Nat → Nat} {N M N' M' : Nat} {w : zc_H} {S : zm_S} (X : zx_X z f g f' g' N M N' M' w S) : ∃ D, zx_R z w D S N M := by
  obtain ⟨zs, D, E, fb, nb, RR⟩ := X
  exact ⟨D, zs, E, f, g, f', g', fb, N', M', nb, RR⟩
theorem zx_X_of {z : Nat} {f g f' g' : Nat → Nat} {N M N' M' : Nat} {w w2 : zc_H} {S S2 : zm_S} {D : zy_D} {E fb : Nat → Nat} {nb : Nat} (A : zx_s S N M) (hS : zx_eqS S S2) (R : zx_RR z w D S (fun _ x => x = S.2.1 7 0) E f g f' g' fb N M N' M' nb) : zx_X z f g f' g' N M N' M' w S2 := ⟨zx_s_eq hS A, D, E, fb, nb, by
  rw [hS.2.1 7 (by decide)]
  exact zx_RR_sc R rfl (fun _ _ => rfl) (fun _ _ => rfl) R.1 (zx_eqD_refl _) hS⟩
section ZV
variable {z : Nat} {w : zc_H} {D : zy_D} {S : zm_S} {f g f' g' : Nat → Nat} {N M N' M' : Nat}
theorem zx_R_X (R : zx_R z w D S N M) : ∃ (f g f' g' : Nat → Nat) (N' M' : Nat), zx_X z f g f' g' N M N' M' w S := by
  obtain ⟨zs, E, f, g, f', g', fb, N', M', nb, RR⟩ := R
  exact ⟨f, g, f', g', N', M', zs, D, E, fb, nb, RR⟩
theorem zx_X_S {S2 : zm_S} (hS : zx_eqS S S2) (X : zx_X z f g f' g' N M N' M' w S) : zx_X z f g f' g' N M N' M' w S2 := by
  obtain ⟨zs, D, E, fb, nb, RR⟩ := X
  exact zx_X_of (w2 := w) zs hS RR
/-- a put along a way that is there -/
theorem zx_X_put (X : zx_X z f g f' g' N M N' M' w S) {kind0 kind a r p q m t need margin : Nat} {an : Int32} (H : zx_rl S need margin) (Q : zx_rm S w f g N m kind0 a r p q an) (hm : m < M) (hk : kind < 7) (ht : t < N) {l : List Nat} (hl : zq_way (S.2.1 1) r 17 t = some l) (less : Nat) (hless : less ≤ l.length - 1) : ∃ (w2 : zc_H) (D2 : zy_D) (S2 : zm_S) (v : Nat → Int32), zf_X8_putOn w (z + 15) (some (g m)) (nI kind) (some (f t)) = some (w2, 1) ∧ zg_X10_puts S (nI m) (nI kind) (nI t) (nI less) = some (S2, 1) ∧ zx_X z f g f' g' N M N' M' w2 S2 ∧ zy_is z D2 w2 ∧ zx_eqS S S2 ∧ zx_blk z w w2 ∧ zx_kp z w w2 ∧ zq_wy (S.2.1 1) N r t l ∧ (∀ j, 31 ≤ j → j < 41 → S2.1 j = v j) ∧ zr_T v (zx_T S need margin kind a r p q l (l.length - 1 - less)) ∧ D2.1 15 2 = zq_sp (zx_T S need margin kind a r p q l (l.length - 1)).1 ∧ D2.1 15 3 = nI (zx_T S need margin kind a r p q l (l.length - 1)).2.1 := by
  obtain ⟨zs, D, E, fb, nb, RR⟩ := id X
  obtain ⟨run, need', margin', u1, u2, u3, u4, u5, u6, u7⟩ := zs.2.2.1
  obtain ⟨w2, D2, S2, e3, nb2, fb2, b, a1, a2, a3, a4, a5, a6, a7, a8⟩ := zx_put2 zs RR u1 u4 u5 H Q hm hk ht less (Or.inr (Or.inr (fun l' hl' => by
    rw [hl] at hl'
    cases hl'
    exact hless)))
  rcases a8 with ⟨b1, b2⟩ | ⟨l', v, c, b1, W, b2, b3, b4, b5, b6, b7⟩
  · rw [hl] at b1
    cases b1
  · rw [hl] at b1
    cases b1
    rw [b2] at a1 a2
    exact ⟨w2, D2, S2, v, a1, a2, zx_X_of (w2 := w2) zs a4 a3, a3.1, a4, a5, a7, W, fun j h1 h2 => by rw [b3]; exact zr_wg _ _ ⟨h1, h2⟩, b4, b5, b6⟩
theorem zx_rl_e {S2 : zm_S} {need margin : Nat} (hS : zx_eqS S S2) (H : zx_rl S need margin) : zx_rl S2 need margin := by
  unfold zx_rl
  rw [hS.2.1 7 (by decide)]
  exact H
theorem zx_fitL {kind0 a r p q m t need margin : Nat} {an : Int32} (hm : m < M) (ht : t < N) (gm1 : z + 60 ≤ g m) {l : List Nat} : ∀ (j k fu fu2 : Nat) (w : zc_H) (S : zm_S) (acc : Int32), k + j = 7 → j < fu → j < fu2 → zx_X z f g f' g' N M N' M' w S → zx_rl S need margin → zx_rm S w f g N m kind0 a r p q an → g m < w.2.1 → zq_way (S.2.1 1) r 17 t = some l → ∃ w2 S2 acc', zf_X9_fitting_L59 z (some (g m)) (some (f t)) fu w acc (nI k) = some (w2, acc') ∧ zg_X10_fitting_L49 (nI m) (nI t) fu2 S acc (nI k) = some (S2, acc') ∧ zx_X z f g f' g' N M N' M' w2 S2 ∧ zx_blk z w w2 := by
  intro j
  induction j with
  | zero =>
    intro k fu fu2 w S acc hk hfu hfu2 X H Q gm2 hl
    obtain ⟨fu, rfl⟩ : ∃ n, fu = n + 1 := ⟨fu - 1, by omega⟩
    obtain ⟨fu2, rfl⟩ : ∃ n, fu2 = n + 1 := ⟨fu2 - 1, by omega⟩
    have : k = 7 := by omega
    subst this
    unfold zf_X9_fitting_L59 zg_X10_fitting_L49
    rw [if_pos (show (7 : Int32) ≤ nI 7 by decide), if_pos (show (7 : Int32) ≤ nI 7 by decide)]
    exact ⟨w, S, acc, rfl, rfl, X, zx_blk_refl z w⟩
  | succ j ih =>
    intro k fu fu2 w S acc hk hfu hfu2 X H Q gm2 hl
    obtain ⟨fu, rfl⟩ : ∃ n, fu = n + 1 := ⟨fu - 1, by omega⟩
    obtain ⟨fu2, rfl⟩ : ∃ n, fu2 = n + 1 := ⟨fu2 - 1, by omega⟩
    have hk7 : ¬ (7 : Int32) ≤ nI k := nI_ge (show k < 7 by omega) (by decide)
    obtain ⟨D, R⟩ := zx_X_R X
    have A := zx_R_is R
    have hc := X.1.2.2.2.1
    obtain ⟨w2, D2, S2, v, a1, a2, X2, A2, a4, a5, a7, W, b3, b4, b5, b6⟩ := zx_X_put X H Q hm (show k < 7 by omega) ht hl 0 (by omega)
    rw [Nat.sub_zero] at b4
    obtain ⟨t1, t2, t3, t4, t5⟩ := zx_T_sp hc W Q.2.2.2.1 Q.2.2.2.2.1 (Nat.le_refl _) b4 w2
    have go : ∀ acc, ∃ w3 S3 acc', zf_X9_fitting_L59 z (some (g m)) (some (f t)) fu w2 acc (nI k + 1) = some (w3, acc') ∧ zg_X10_fitting_L49 (nI m) (nI t) fu2 S2 acc (nI k + 1) = some (S3, acc') ∧ zx_X z f g f' g' N M N' M' w3 S3 ∧ zx_blk z w w3 := fun acc => by
      obtain ⟨w3, S3, acc', c1, c2, c3, c4⟩ := ih (k + 1) fu fu2 w2 S2 acc (by omega) (by omega) (by omega) X2 (zx_rl_e a4 H) (zx_rm_t a4 a7 gm1 gm2 Q) (Nat.lt_of_lt_of_le gm2 a7.1) (by rw [a4.2.1 1 (by decide)]; exact hl)
      exact ⟨w3, S3, acc', by rw [← nI_succ]; exact c1, by rw [← nI_succ]; exact c2, c3, zx_blk_trans a5 c4⟩
    unfold zf_X9_fitting_L59 zg_X10_fitting_L49
    rw [if_neg hk7, if_neg hk7, zy_r0_8 A, zo_s, zo_s, a1, zo_s, show (0 : Int32) = nI 0 from rfl, a2, zo_s]
    dsimp only
    rw [if_neg (show ¬ (1 : Int32) = nI 0 by decide), zy_r0_8 A2, zo_s, zo_s, zy_g15_3 A2, zo_s, b6, b3 33 (by decide) (by decide), t3]
    split
    · exact go acc
    · exact go _
theorem ze_fitting (R : zx_R z w D S N M) (x1 x2 : Int32) : zx_res z w (zf_X9_fitting w z x1 x2) (zg_X10_fitting S x1 x2) := by
  have A := zx_R_is R
  have hz := (zx_R_z R).1
  obtain ⟨hN, hM⟩ := zx_R_16 R
  have n1 : ¬ (1 : Int32) = 0 := by decide
  obtain ⟨run, need, margin, u1, u4, u5, H⟩ := zx_R_rl R
  obtain ⟨f, g, f', g', N', M', X⟩ := zx_R_X R
  obtain ⟨zs, D', E, fb, nb, RR⟩ := id X
  obtain ⟨A', ⟨-, -, -, al3, al4, -⟩, doc, -⟩ := id RR
  unfold zf_X9_fitting
  dsimp only
  rw [if_neg (zy_is0 A), zy_r0_1 A, zo_s, zo_s]
  have e2 : ∃ o, zf_X6_revisionAt w (z + 2) x2 = some o := by
    rcases zn_rng x2 (n := N) (by omega) with hx | ⟨r, hr, rfl⟩
    · exact ⟨_, zs_revN A al3 hx⟩
    · exact ⟨_, zs_rev A al3 hN hr (zx_rev_is doc hr)⟩
  rcases zn_rng x1 (n := M) (by omega) with hx | ⟨m, hm, rfl⟩
  · obtain ⟨o, e⟩ := e2
    rw [zs_remN A al4 hx, zo_s, zo_s, zo_s, e, zo_s, if_pos rfl]
    unfold zg_X10_fitting
    dsimp only
    rw [zr_isRemN R.1.2.1 hM hx, zo_s, if_pos rfl]
    exact zx_no_res (c := 1) R (by decide) (by decide) (by decide) (by decide) rfl
  rw [zs_rem A al4 hM hm (zx_rem_e doc hm), zo_s, zo_s, zo_s]
  rcases zn_rng x2 (n := N) (by omega) with hx | ⟨t, ht, rfl⟩
  · rw [zs_revN A al3 hx, zo_s, if_neg (by simp), if_pos rfl]
    unfold zg_X10_fitting
    dsimp only
    rw [zr_isRem R.1.2.1 hM hm, zo_s, if_neg n1, zr_isRevN R.1.1 hN hx, zo_s, if_pos rfl]
    exact zx_no_res (c := 1) R (by decide) (by decide) (by decide) (by decide) rfl
  rw [zs_rev A al3 hN ht (zx_rev_is doc ht), zo_s, if_neg (by simp), if_neg (by simp), zo_s]
  obtain ⟨kind, a, r, p, q, an, Q, gm1, gm2⟩ := zx_rm_of doc hm
  obtain ⟨b, b1, b2⟩ := zs_beh doc Q.2.2.1 ht
  obtain ⟨c, b', c1, c2⟩ := zr_beh (S := S) (zx_fm doc) Q.2.2.1 ht
  rw [zb_gr (x := some (f r)) Q.2.2.2.2.2.2.2.2.2.2.2 rfl, zo_s, zo_s, b1, zo_s]
  unfold zg_X10_fitting
  dsimp only
  rw [zr_isRem R.1.2.1 hM hm, zo_s (1 : Int32), if_neg n1, zr_isRev R.1.1 hN ht, zo_s (1 : Int32), if_neg n1, zr_of (k := 2) (by decide) (by omega) 2 rfl, show 16 * 2 + m = 32 + m by omega, Q.2.2.2.2.2.2.2.1, zo_s (nI r), c1, zo_s (zx_SA S 30 c, b')]
  dsimp only
  have eS : zx_eqS S (zx_SA S 30 c) := zx_eqS_r S c (by decide)
  have X2 := zx_X_S eS X
  rcases b2 with ⟨l, d1, d2⟩ | ⟨d1, d2⟩
  · rcases c2 with ⟨l', d3, d4, d5⟩ | ⟨d3, -⟩
    · rw [d1] at d3
      cases d3
      have W := zq_wy_of (zx_fm doc) ht d1
      rw [d2, if_neg n1, d4, if_neg (za_ne _ (by have := W.2.1; omega))]
      obtain ⟨w3, S3, acc, g1, g2, g3, g4⟩ := zx_fitL hm ht gm1 7 0 8 2000 w (zx_SA S 30 c) 0 rfl (by decide) (by decide) X2 (zx_rl_e eS H) (zx_rm_t eS (zx_kp_refl z w) gm1 gm2 Q) gm2 (l := l) (by rw [eS.2.1 1 (by decide)]; exact d1)
      obtain ⟨D3, R3⟩ := zx_X_R g3
      rw [show (0 : Int32) = nI 0 from rfl] at g1 g2 ⊢
      rw [g1, zo_s, g2, zo_s]
      exact ⟨w3, S3, acc, D3, N, M, rfl, rfl, R3, g4⟩
    · rw [d1] at d3
      cases d3
  · rcases c2 with ⟨l', d3, d4, d5⟩ | ⟨d3, d4⟩
    · rw [d1] at d3
      cases d3
    · rw [d2, if_pos rfl, d4, if_pos rfl]
      obtain ⟨D3, R3⟩ := zx_X_R X2
      exact zx_no_res (c := 6) R3 (by decide) (by decide) (by decide) (by decide) rfl
end ZV
