/-! put, score, leastNeed, fitting -/
theorem zy_w_self {z : Nat} {D : zy_D} {w : zc_H} (A : zy_is z D w) : zk_w w (z + 15) (z + 2) (D.1 15) (D.2.2 17) = w := by
  rw [zy_w_e A]
  have e : zy_W D (D.1 15) (D.2.2 17) = D := by
    unfold zy_W
    rw [zu_self, zu_self]
  rw [e]
  exact zy_is_e A
/-- what both say of a remark that is put -/
theorem zx_T_sp {S : zm_S} {N need margin kind a r p q t : Nat} {l : List Nat} (hc : zx_co S N) (W : zq_wy (S.2.1 1) N r t l) (hp : p ≤ q) (hq : q < zx_n (S.2.1 2) r) {k : Nat} (hk : k ≤ l.length - 1) {v : Nat → Int32} (hv : zr_T v (zx_T S need margin kind a r p q l k)) (h : zc_H) : zf_X9_firstOf h (zq_sp (zx_T S need margin kind a r p q l k).1) = some (v 31) ∧ zf_X9_lastOf h (zq_sp (zx_T S need margin kind a r p q l k).1) = some (v 32) ∧ v 33 = nI (zx_T S need margin kind a r p q l k).2.1 ∧ (v 33 = 3 ↔ (zx_T S need margin kind a r p q l k).1 = none) ∧ (zx_T S need margin kind a r p q l k).2.1 ≤ 3 := by
  obtain ⟨⟨i1, i2, i3⟩, i4, i5⟩ := zx_T_ok (need := need) (margin := margin) (kind := kind) (a := a) hc W hp hq k hk
  generalize zx_T S need margin kind a r p q l k = T at *
  obtain ⟨sp, how, la, lp, lq⟩ := T
  obtain ⟨g1, g2, g3, g4, g5⟩ := hv
  dsimp only at *
  have h24 := zx_n24 (S.2.1 2) la
  cases sp with
  | none =>
    dsimp only at i3 g5
    refine ⟨?_, ?_, g1, ⟨fun _ => rfl, fun _ => by rw [g1, i3]; rfl⟩, by omega⟩
    · rw [g5.1]
      rfl
    · rw [g5.2]
      rfl
  | some x =>
    dsimp only at i3 g5
    obtain ⟨j1, j2, j3⟩ := i3
    refine ⟨?_, ?_, g1, ⟨fun h => ?_, fun h => (by cases h)⟩, by omega⟩
    · rw [g5.1]
      exact zs_first (by omega) (by omega)
    · rw [g5.2]
      exact zs_last (by omega) (by omega)
    · rw [g1] at h
      have := (za_eq (show how < 2 ^ 31 by omega) (show 3 < 2 ^ 31 by decide)).mp h
      omega
section ZV
variable {z : Nat} {w : zc_H} {D : zy_D} {S : zm_S} {N M : Nat}
/-- the rules and what goes with them -/
theorem zx_R_rl (R : zx_R z w D S N M) : ∃ run need margin, S.2.1 7 0 = nI run ∧ 1 ≤ run ∧ run ≤ 9 ∧ zx_rl S need margin := by
  obtain ⟨run, need, margin, u1, u2, u3, u4, u5, u6, u7⟩ := R.1.2.2.1
  exact ⟨run, need, margin, u1, u4, u5, u2, u3, u6, u7⟩
/-- both sides put a remark, as one of a kind, all the way but `less` -/
theorem zx_put2 {E f g f' g' fb : Nat → Nat} {N' M' nb : Nat} (zs : zx_s S N M) (RR : zx_RR z w D S (fun _ x => x = S.2.1 7 0) E f g f' g' fb N M N' M' nb) {run need margin : Nat} (u1 : S.2.1 7 0 = nI run) (u4 : 1 ≤ run) (u5 : run ≤ 9) (H : zx_rl S need margin) {kind0 kind a r p q m t : Nat} {an : Int32} (Q : zx_rm S w f g N m kind0 a r p q an) (hm : m < M) (hk : kind < 7) (ht : t < N) (less : Nat) (hless : less = 0 ∨ (t ≠ r ∧ less = 1) ∨ ∀ l, zq_way (S.2.1 1) r 17 t = some l → less ≤ l.length - 1) : ∃ (w2 : zc_H) (D2 : zy_D) (S2 : zm_S) (e2 nb2 : Nat) (fb2 : Nat → Nat) (b : Int32), zf_X8_putOn w (z + 15) (some (g m)) (nI kind) (some (f t)) = some (w2, b) ∧ zg_X10_puts S (nI m) (nI kind) (nI t) (nI less) = some (S2, b) ∧ zx_RR z w2 D2 S (fun _ x => x = S.2.1 7 0) (va_up E 16 e2) f g f' g' fb2 N M N' M' nb2 ∧ zx_eqS S S2 ∧ zx_blk z w w2 ∧ zx_eqD D D2 ∧ zx_kp z w w2 ∧ ((zq_way (S.2.1 1) r 17 t = none ∧ b = 0) ∨ ∃ l v c, zq_way (S.2.1 1) r 17 t = some l ∧ zq_wy (S.2.1 1) N r t l ∧ b = 1 ∧ S2 = zr_w (zx_SA S 30 c) v ∧ zr_T v (zx_T S need margin kind a r p q l (l.length - 1 - less)) ∧ D2.1 15 2 = zq_sp (zx_T S need margin kind a r p q l (l.length - 1)).1 ∧ D2.1 15 3 = nI (zx_T S need margin kind a r p q l (l.length - 1)).2.1 ∧ (2 ≤ l.length → zk_ctx (fun r => zx_l w (f r)) (zx_n (S.2.1 2)) (D2.1 15) (D2.2.2 17) (zx_T S need margin kind a r p q l (l.length - 2)))) := by
  have hc := zs.2.2.2.1
  obtain ⟨-, -, doc, -⟩ := id RR
  obtain ⟨q1, q2, q3, q4, q5, q6, q7, q8, q9, q10, q11, q12⟩ := id Q
  have doc' : zx_doc z w f g N M (S.2.1 1) (S.2.1 2) (S.2.2 3) (S.2.1 6) (fun _ x => x = S.2.1 7 0) := doc
  have hM := doc'.2.1
  obtain ⟨w2, D2, e2, nb2, fb2, b, a1, a2, a3, a4, a5, a6⟩ := zs_putOn RR hc u1 u4 u5 H Q hm hk ht
  obtain ⟨S2, b', c1, c2, c3⟩ := zr_puts (zr_doc_of doc H) (zx_fm doc') hc q4 q5 hk q2 (by omega) q3 ht q7 q8 q9 q10 less hless
  rcases a6 with ⟨x1, x2⟩ | ⟨l, x1, x2, x3, x4, x5⟩
  · rcases c3 with ⟨y1, y2⟩ | ⟨l', c, v, y1, -⟩
    · exact ⟨w2, D2, S2, e2, nb2, fb2, b, a1, by rw [c1, y2, x2], a2, c2, a3, a4, a5, Or.inl ⟨x1, x2⟩⟩
    · rw [x1] at y1
      cases y1
  · rcases c3 with ⟨y1, y2⟩ | ⟨l', c, v, y1, y2, y3, y4⟩
    · rw [x1] at y1
      cases y1
    · rw [x1] at y1
      cases y1
      exact ⟨w2, D2, S2, e2, nb2, fb2, b, a1, by rw [c1, y2, x2], a2, c2, a3, a4, a5, Or.inr ⟨l, v, c, x1, zq_wy_of (zx_fm doc') ht x1, x2, y3, y4, x3, x4, x5⟩⟩
theorem ze_put (R : zx_R z w D S N M) (x1 x2 x3 : Int32) : zx_res z w (zf_X9_put w z x1 x2 x3) (zg_X10_put S x1 x2 x3) := by
  have A := zx_R_is R
  have hz := (zx_R_z R).1
  obtain ⟨hN, hM⟩ := zx_R_16 R
  have n1 : ¬ (1 : Int32) = 0 := by decide
  obtain ⟨run, need, margin, u1, u4, u5, H⟩ := zx_R_rl R
  obtain ⟨zs, E, f, g, f', g', fb, N', M', nb, RR⟩ := id R
  obtain ⟨-, ⟨-, -, -, al3, al4, -⟩, doc, -⟩ := id RR
  unfold zf_X9_put
  dsimp only
  rw [if_neg (zy_is0 A), zy_r0_1 A, zo_s, zo_s]
  have e2 : ∃ o, zf_X6_revisionAt w (z + 2) x2 = some o := by
    rcases zn_rng x2 (n := N) (by omega) with hx | ⟨r, hr, rfl⟩
    · exact ⟨_, zs_revN A al3 hx⟩
    · exact ⟨_, zs_rev A al3 hN hr (zx_rev_is doc hr)⟩
  rcases zn_rng x1 (n := M) (by omega) with hx | ⟨m, hm, rfl⟩
  · obtain ⟨o, e⟩ := e2
    rw [zs_remN A al4 hx, zo_s, zo_s, zo_s, e, zo_s, if_pos rfl]
    unfold zg_X10_put
    dsimp only
    rw [zr_isRemN R.1.2.1 hM hx, zo_s, if_pos rfl]
    exact zx_no10_res (c := 1) R (by decide) (by decide) (by decide) (by decide) rfl
  rw [zs_rem A al4 hM hm (zx_rem_e doc hm), zo_s, zo_s, zo_s]
  rcases zn_rng x2 (n := N) (by omega) with hx | ⟨t, ht, rfl⟩
  · rw [zs_revN A al3 hx, zo_s, if_neg (by simp), if_pos rfl]
    unfold zg_X10_put
    dsimp only
    rw [zr_isRem R.1.2.1 hM hm, zo_s, if_neg n1, zr_isRevN R.1.1 hN hx, zo_s, if_pos rfl]
    exact zx_no10_res (c := 1) R (by decide) (by decide) (by decide) (by decide) rfl
  rw [zs_rev A al3 hN ht (zx_rev_is doc ht), zo_s, if_neg (by simp), if_neg (by simp)]
  rcases zn_rng x3 (n := 3) (by decide) with hx | ⟨k, hk, rfl⟩
  · have e : ∀ X Y : Option (zc_H × Int32), (if x3 < 0 then X else if x3 ≤ 2 then Y else X) = X := by
      intro X Y
      by_cases c : x3 < 0
      · rw [if_pos c]
      · obtain ⟨j, hj, rfl⟩ := nI_of c
        have := (za_le (by decide) hj).mp (hx.resolve_left c)
        rw [if_neg c, if_neg (show ¬ nI j ≤ 2 from nI_ge (show 2 < j by omega) hj)]
    rw [e]
    unfold zg_X10_put
    dsimp only
    rw [zr_isRem R.1.2.1 hM hm, zo_s, if_neg n1, zr_isRev R.1.1 hN ht, zo_s, if_neg n1, zg_wn S (n := 2) (y := 2) rfl hx (by decide), zo_s, if_pos rfl]
    exact zx_no10_res (c := 5) R (by decide) (by decide) (by decide) (by decide) rfl
  obtain ⟨kind, a, r, p, q, an, Q, gm1, gm2⟩ := zx_rm_of doc hm
  obtain ⟨w2, D2, S2, e3, nb2, fb2, b, a1, a2, a3, a4, a5, a6, a7, a8⟩ := zx_put2 zs RR u1 u4 u5 H Q hm Q.1 ht 0 (Or.inl rfl)
  have R2 : zx_R z w2 D2 S2 N M := zx_R_of zs a4 (zx_RR_sc a3 rfl (fun _ _ => rfl) (fun _ _ => rfl) a3.1 (zx_eqD_refl _) a4)
  have A2 := a3.1
  rw [if_neg (nI_pos (by omega)), if_pos (show nI k ≤ 2 from nI_le (show k ≤ 2 by omega) (by decide)), zy_r0_8 A, zo_s, zo_s, zb_gi Q.2.2.2.2.2.2.2.2.2.2.2 rfl, zo_s, zo_s, a1, zo_s]
  unfold zg_X10_put
  dsimp only
  rw [zr_isRem R.1.2.1 hM hm, zo_s (1 : Int32), if_neg n1, zr_isRev R.1.1 hN ht, zo_s (1 : Int32), if_neg n1, zg_wy S (n := 2) (y := 2) rfl (by omega) (by decide), zo_s (1 : Int32), if_neg n1, zr_of (k := 0) (by decide) (by omega) 0 rfl, show 16 * 0 + m = m by omega, Q.2.2.2.2.2.1, zo_s (nI kind), show (0 : Int32) = nI 0 by decide, a2, zo_s (S2, b)]
  dsimp only
  rcases a8 with ⟨b1, b2⟩ | ⟨l, v, c, b1, W, b2, b3, b4, b5, b6, b7⟩
  · rw [b2, if_pos (show (0 : Int32) = nI 0 by decide), if_pos (show (0 : Int32) = nI 0 by decide)]
    exact zx_res_trans a5 (zx_no10_res (c := 6) R2 (by decide) (by decide) (by decide) (by decide) rfl)
  · rw [Nat.sub_zero] at b4
    obtain ⟨t1, t2, t3, -, -⟩ := zx_T_sp zs.2.2.2.1 W Q.2.2.2.1 Q.2.2.2.2.1 (Nat.le_refl _) b4 w2
    rw [b2, if_neg (show ¬ (1 : Int32) = nI 0 by decide), if_neg (show ¬ (1 : Int32) = nI 0 by decide)]
    have hk3 : k = 0 ∨ k = 1 ∨ k = 2 := by omega
    have v3 : ∀ j, 31 ≤ j → j < 41 → S2.1 j = v j := fun j h1 h2 => by rw [b3]; exact zr_wg _ _ ⟨h1, h2⟩
    rcases hk3 with rfl | rfl | rfl
    · rw [if_pos rfl, zy_r0_8 A2, zo_s, zo_s, zy_g15_2 A2, zo_s, b5, t1, zo_s, if_pos rfl, v3 31 (by decide) (by decide)]
      exact ⟨w2, S2, _, D2, N, M, rfl, rfl, R2, a5⟩
    · rw [if_neg (show ¬ nI 1 = nI 0 by decide), if_pos (show nI 1 = 1 by decide), zy_r0_8 A2, zo_s, zo_s, zy_g15_2 A2, zo_s, b5, t2, zo_s, if_neg (show ¬ nI 1 = nI 0 by decide), if_pos (show nI 1 = 1 by decide), v3 32 (by decide) (by decide)]
      exact ⟨w2, S2, _, D2, N, M, rfl, rfl, R2, a5⟩
    · rw [if_neg (show ¬ nI 2 = nI 0 by decide), if_neg (show ¬ nI 2 = 1 by decide), zy_r0_8 A2, zo_s, zo_s, zy_g15_3 A2, zo_s, b6, if_neg (show ¬ nI 2 = nI 0 by decide), if_neg (show ¬ nI 2 = 1 by decide), v3 33 (by decide) (by decide), t3]
      exact ⟨w2, S2, _, D2, N, M, rfl, rfl, R2, a5⟩
end ZV
