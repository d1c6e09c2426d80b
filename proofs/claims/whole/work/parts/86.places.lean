/-! place, matched; a step stands ready -/
theorem zn_nat (x : Int32) : ∃ n : Nat, n < 2 ^ 32 ∧ x = nI n := ⟨x.toBitVec.toNat, x.toBitVec.isLt, Int32.toBitVec_inj.mp (by show _ = BitVec.ofNat 32 _; simp)⟩
def zy_M (D : zy_D) (cm : Nat → Int32) (P : zp_P) : zy_D := (va_up D.1 11 (fun i => if i = 3 then nI P.2.2.1 else nI P.2.2.2), va_up (va_up (va_up D.2.1 12 cm) 13 P.1) 14 P.2.1, D.2.2)
theorem zy_M_eq (D : zy_D) (cm : Nat → Int32) (P : zp_P) : zx_eqD D (zy_M D cm P) := fun k hk => ⟨va_up_ne _ _ (by omega), by
  unfold zy_M
  dsimp only
  rw [va_up_ne _ _ (by omega), va_up_ne _ _ (by omega), va_up_ne _ _ (by omega)], rfl⟩
theorem zy_M_is {z : Nat} {D : zy_D} {w : zc_H} (A : zy_is z D w) (cm : Nat → Int32) (P : zp_P) : zy_is z (zy_M D cm P) (zk_m w (z + 11) cm P) := by
  intro k hk hn
  by_cases c1 : k = 11
  · subst c1
    exact zk_m0
  by_cases c2 : k = 12
  · subst c2
    exact zk_m1
  by_cases c3 : k = 13
  · subst c3
    exact zk_m2
  by_cases c4 : k = 14
  · subst c4
    exact zk_m3
  rw [zk_mn (by omega), A k hk hn]
  unfold zy_M
  dsimp only
  rw [va_up_ne _ _ c1, va_up_ne _ _ c4, va_up_ne _ _ c3, va_up_ne _ _ c2]
theorem zy_m_of {z : Nat} {D : zy_D} {w : zc_H} (A : zy_is z D w) : ∃ (cm : Nat → Int32) (P : zp_P), zk_m w (z + 11) cm P = w := by
  obtain ⟨c1, -, e1⟩ := zn_nat (D.1 11 3)
  obtain ⟨c2, -, e2⟩ := zn_nat (D.1 11 4)
  refine ⟨D.2.1 12, (D.2.1 13, D.2.1 14, c1, c2), ?_⟩
  refine Prod.ext ?_ rfl
  funext x
  unfold zk_m
  dsimp only
  by_cases q1 : x = z + 11
  · rw [if_pos q1, q1, A 11 (by decide) rfl, ← e1, ← e2]
    rfl
  rw [if_neg q1]
  by_cases q2 : x = z + 11 + 1
  · rw [if_pos q2, q2, show z + 11 + 1 = z + 12 from rfl, A 12 (by decide) rfl]
    rfl
  rw [if_neg q2]
  by_cases q3 : x = z + 11 + 2
  · rw [if_pos q3, q3, show z + 11 + 2 = z + 13 from rfl, A 13 (by decide) rfl]
    rfl
  rw [if_neg q3]
  by_cases q4 : x = z + 11 + 3
  · rw [if_pos q4, q4, show z + 11 + 3 = z + 14 from rfl, A 14 (by decide) rfl]
    rfl
  rw [if_neg q4]
theorem zk_rv_m {w : zc_H} {A a l n : Nat} {f : Nat → Int64} (B : zk_rv w a l n f) (h1 : A + 3 < a) (h2 : A + 3 < l) (cm : Nat → Int32) (P : zp_P) : zk_rv (zk_m w A cm P) a l n f := by
  obtain ⟨⟨x0, x1, x3, x4, e1⟩, e2, e3⟩ := B
  exact ⟨⟨x0, x1, x3, x4, by rw [zk_mn (Or.inr h1)]; exact e1⟩, by rw [zk_mn (Or.inr h2)]; exact e2, e3⟩
/-- the class's match, in any world of its own -/
theorem zs_match {z a b la lb n m run : Nat} {D : zy_D} {w : zc_H} {f g : Nat → Int64} (A : zy_is z D w) (hz : w.2.2 < z) (RA : zk_rv w a la n f) (RB : zk_rv w b lb m g) (h1 : z + 60 ≤ a) (h2 : z + 60 ≤ la) (h3 : z + 60 ≤ b) (h4 : z + 60 ≤ lb) (hn : n ≤ 24) (hm : m ≤ 24) (hr9 : run ≤ 9) (hr1 : 1 ≤ run) : ∃ (cm : Nat → Int32) (P : zp_P), zf_X1_match w (z + 11) (some a) (some b) (nI run) = some (zk_m w (z + 11) cm P) ∧ zp_eqv P (zp_match f g n m run) := by
  obtain ⟨cm0, P0, e⟩ := zy_m_of A
  have q := zk_match (h := w) (A := z + 11) (cm := cm0) (P := P0) (run := run) (by omega) (fun cm P => zk_rv_m RA (by omega) (by omega) cm P) (fun cm P => zk_rv_m RB (by omega) (by omega) cm P) hn hm hr9 hr1
  rw [e] at q
  exact q
theorem zx_RR_m {z : Nat} {w : zc_H} {D : zy_D} {S S2 : zm_S} {rdy : Nat → Int32 → Prop} {E f g f' g' fb : Nat → Nat} {N M N' M' nb : Nat} (R : zx_RR z w D S rdy E f g f' g' fb N M N' M' nb) (hS : zx_eqS S S2) (cm : Nat → Int32) (P : zp_P) : zx_RR z (zk_m w (z + 11) cm P) (zy_M D cm P) S2 rdy E f g f' g' fb N M N' M' nb := zx_RR_sc R rfl (fun y hy => zk_mn (Or.inr (by omega))) (fun k hk => zk_mn (by
  have := zx_n38 hk
  by_cases c : k = 11 ∨ k = 12 ∨ k = 13 ∨ k = 14
  · rcases c with rfl | rfl | rfl | rfl <;> cases hk
  · omega)) (zy_M_is R.1 cm P) (zy_M_eq D cm P) hS
theorem zx_m_blk (z : Nat) (w : zc_H) (cm : Nat → Int32) (P : zp_P) : zx_blk z w (zk_m w (z + 11) cm P) := fun x h1 h2 => zk_mn (Or.inr (by omega))
theorem zs_placeM {z i : Nat} {w : zc_H} {cm : Nat → Int32} {P : zp_P} (hz : w.2.2 < z) (hi : i < 24) : zf_X1_placeOf (zk_m w (z + 11) cm P) (z + 11) (nI i) = some (P.1 i) := by
  unfold zf_X1_placeOf
  rw [if_neg (zb_is zk_m0), if_neg (nI_pos (by omega)), zb_gr (x := some (z + 11 + 2)) zk_m0 rfl, zo_s, zo_s, zb_len zk_m2 (by show z + 11 + 2 ≠ w.2.2; omega), zo_s, if_neg (nI_ge hi (by decide)), zo_s, zo_s, zb_ai zk_m2 hi (by decide), zo_s]
/-- places of two revisions, of both sides -/
theorem zx_places {z : Nat} {w : zc_H} {D : zy_D} {S : zm_S} {rdy : Nat → Int32 → Prop} {E f g f' g' fb : Nat → Nat} {N M N' M' nb a b run : Nat} (R : zx_RR z w D S rdy E f g f' g' fb N M N' M' nb) (hrun : S.2.1 7 0 = nI run) (hr1 : 1 ≤ run) (hr9 : run ≤ 9) (ha : a < N) (hb : b < N) : ∃ (cm cm2 : Nat → Int32) (P P2 : zp_P), zf_X1_match w (z + 11) (some (f a)) (some (f b)) (nI run) = some (zk_m w (z + 11) cm P) ∧ zg_X10_places S (nI a) (nI b) = some (zr_m S cm2 P2) ∧ zp_eqv P (zp_match (zr_ln S a) (zr_ln S b) (zx_n (S.2.1 2) a) (zx_n (S.2.1 2) b) run) ∧ zp_eqv P2 (zp_match (zr_ln S a) (zr_ln S b) (zx_n (S.2.1 2) a) (zx_n (S.2.1 2) b) run) := by
  obtain ⟨A, ⟨hz, -⟩, doc, -⟩ := R
  have hN := doc.1
  have oa := (doc.2.2.1 a ha).1
  have ob := (doc.2.2.1 b hb).1
  obtain ⟨cm, P, e1, e2⟩ := zs_match A hz (zx_rv doc hz ha) (zx_rv doc hz hb) oa.1 (by have := oa.1; omega) ob.1 (by have := ob.1; omega) (zx_n24 _ _) (zx_n24 _ _) hr9 hr1
  obtain ⟨cm2, P2, e3, e4⟩ := zr_places (S := S) (a := a) (b := b) (by omega) (by omega) (zx_n24 (S.2.1 2) a) (zx_n24 (S.2.1 2) b) (zx_C doc ha).1 (zx_C doc hb).1 hrun hr9 hr1
  refine ⟨cm, cm2, P, P2, e1, e3, ?_, e4⟩
  rw [zp_match_fg (f2 := zx_l w (f a)) (g2 := zx_l w (f b)) (fun i hi => ((zx_C doc ha).2 i hi).1.symm) (fun i hi => ((zx_C doc hb).2 i hi).1.symm)]
  exact e2
theorem ze_place {z : Nat} {w : zc_H} {D : zy_D} {S : zm_S} {N M : Nat} (R : zx_R z w D S N M) (x1 x2 x3 : Int32) : zx_res z w (zf_X9_place w z x1 x2 x3) (zg_X10_place S x1 x2 x3) := by
  have A := zx_R_is R
  have hz := (zx_R_z R).1
  have hN := (zx_R_16 R).1
  have n1 : ¬ (1 : Int32) = 0 := by decide
  obtain ⟨run, need, margin, u1, u2, u3, u4, u5, u6, u7⟩ := R.1.2.2.1
  obtain ⟨zs, E, f, g, f', g', fb, N', M', nb, RR⟩ := id R
  obtain ⟨-, ⟨-, -, -, al3, -⟩, doc, -⟩ := id RR
  unfold zf_X9_place
  dsimp only
  rw [if_neg (zy_is0 A), zy_r0_1 A, zo_s, zo_s]
  have e2 : ∃ o, zf_X6_revisionAt w (z + 2) x2 = some o := by
    rcases zn_rng x2 (n := N) (by omega) with hx | ⟨r, hr, rfl⟩
    · exact ⟨_, zs_revN A al3 hx⟩
    · exact ⟨_, zs_rev A al3 hN hr (zx_rev_is doc hr)⟩
  rcases zn_rng x1 (n := N) (by omega) with hx | ⟨a, ha, rfl⟩
  · obtain ⟨o, e⟩ := e2
    rw [zs_revN A al3 hx, zo_s, zo_s, zo_s, e, zo_s, if_pos rfl]
    unfold zg_X10_place
    dsimp only
    rw [zr_isRevN R.1.1 hN hx, zo_s, if_pos rfl]
    exact zx_no10_res (c := 1) R (by decide) (by decide) (by decide) (by decide) rfl
  rw [zs_rev A al3 hN ha (zx_rev_is doc ha), zo_s, zo_s, zo_s]
  rcases zn_rng x2 (n := N) (by omega) with hx | ⟨b, hb, rfl⟩
  · rw [zs_revN A al3 hx, zo_s, if_neg (by simp), if_pos rfl]
    unfold zg_X10_place
    dsimp only
    rw [zr_isRev R.1.1 hN ha, zo_s, if_neg n1, zr_isRevN R.1.1 hN hx, zo_s, if_pos rfl]
    exact zx_no10_res (c := 1) R (by decide) (by decide) (by decide) (by decide) rfl
  rw [zs_rev A al3 hN hb (zx_rev_is doc hb), zo_s, if_neg (by simp), if_neg (by simp), zo_s]
  have hC := (zx_C doc ha).1
  have h24 := zx_n24 (S.2.1 2) a
  rcases zn_rng x3 (n := zx_n (S.2.1 2) a) (by omega) with hx | ⟨i, hi, rfl⟩
  · rw [zs_hasLN (zx_rv doc hz ha) hx, zo_s, if_pos rfl]
    unfold zg_X10_place
    dsimp only
    rw [zr_isRev R.1.1 hN ha, zo_s, if_neg n1, zr_isRev R.1.1 hN hb, zo_s, if_neg n1, zr_isLN (by omega) hC h24 hx, zo_s, if_pos rfl]
    exact zx_no10_res (c := 5) R (by decide) (by decide) (by decide) (by decide) rfl
  obtain ⟨cm, cm2, P, P2, e1, e3, e4, e5⟩ := zx_places RR u1 u4 u5 ha hb
  have run2 : D.1 2 3 = nI run := (zx_R_ds R).2.2.1.trans u1
  rw [zs_hasL (zx_rv doc hz ha) h24 hi, zo_s, if_neg n1, zy_r0_7 A, zo_s, zo_s, zo_s, zy_g2_3 A, zo_s, zo_s, run2, e1, zo_s, zy_r0_7 (zy_M_is A cm P), zo_s, zo_s, zs_placeM hz (by omega), zo_s]
  unfold zg_X10_place
  dsimp only
  rw [zr_isRev R.1.1 hN ha, zo_s, if_neg n1, zr_isRev R.1.1 hN hb, zo_s, if_neg n1, zr_isL (by omega) hC h24 hi, zo_s, if_neg n1, e3, zo_s, zr_m26, za_ai (by omega) (by decide), zo_s]
  refine ⟨_, _, _, _, N, M, rfl, ?_, zx_R_of zs (zx_eqS_m S cm2 P2) (zx_RR_m RR (zx_eqS_m S cm2 P2) cm P), zx_m_blk z w cm P⟩
  rw [(e4.1 i (by omega)).1, (e5.1 i (by omega)).1]
theorem ze_matched {z : Nat} {w : zc_H} {D : zy_D} {S : zm_S} {N M : Nat} (R : zx_R z w D S N M) (x1 x2 x3 : Int32) : zx_res z w (zf_X9_matched w z x1 x2 x3) (zg_X10_matched S x1 x2 x3) := by
  have A := zx_R_is R
  have hz := (zx_R_z R).1
  have hN := (zx_R_16 R).1
  have n1 : ¬ (1 : Int32) = 0 := by decide
  obtain ⟨run, need, margin, u1, u2, u3, u4, u5, u6, u7⟩ := R.1.2.2.1
  obtain ⟨zs, E, f, g, f', g', fb, N', M', nb, RR⟩ := id R
  obtain ⟨-, ⟨-, -, -, al3, -⟩, doc, -⟩ := id RR
  unfold zf_X9_matched
  dsimp only
  rw [if_neg (zy_is0 A), zy_r0_1 A, zo_s, zo_s]
  have e2 : ∃ o, zf_X6_revisionAt w (z + 2) x2 = some o := by
    rcases zn_rng x2 (n := N) (by omega) with hx | ⟨r, hr, rfl⟩
    · exact ⟨_, zs_revN A al3 hx⟩
    · exact ⟨_, zs_rev A al3 hN hr (zx_rev_is doc hr)⟩
  rcases zn_rng x1 (n := N) (by omega) with hx | ⟨a, ha, rfl⟩
  · obtain ⟨o, e⟩ := e2
    rw [zs_revN A al3 hx, zo_s, zo_s, zo_s, e, zo_s, if_pos rfl]
    unfold zg_X10_matched
    dsimp only
    rw [zr_isRevN R.1.1 hN hx, zo_s, if_pos rfl]
    exact zx_no_res (c := 1) R (by decide) (by decide) (by decide) (by decide) rfl
  rw [zs_rev A al3 hN ha (zx_rev_is doc ha), zo_s, zo_s, zo_s]
  rcases zn_rng x2 (n := N) (by omega) with hx | ⟨b, hb, rfl⟩
  · rw [zs_revN A al3 hx, zo_s, if_neg (by simp), if_pos rfl]
    unfold zg_X10_matched
    dsimp only
    rw [zr_isRev R.1.1 hN ha, zo_s, if_neg n1, zr_isRevN R.1.1 hN hx, zo_s, if_pos rfl]
    exact zx_no_res (c := 1) R (by decide) (by decide) (by decide) (by decide) rfl
  rw [zs_rev A al3 hN hb (zx_rev_is doc hb), zo_s, if_neg (by simp), if_neg (by simp)]
  rcases zn_rng x3 (n := 2) (by decide) with hx | ⟨k, hk, rfl⟩
  · have e : ∀ X Y : Option (zc_H × Int32), (if x3 < 0 then X else if x3 ≤ 1 then Y else X) = X := by
      intro X Y
      by_cases c : x3 < 0
      · rw [if_pos c]
      · obtain ⟨j, hj, rfl⟩ := nI_of c
        have := (za_le (by decide) hj).mp (hx.resolve_left c)
        rw [if_neg c, if_neg (show ¬ nI j ≤ 1 from nI_ge (show 1 < j by omega) hj)]
    rw [e]
    unfold zg_X10_matched
    dsimp only
    rw [zr_isRev R.1.1 hN ha, zo_s, if_neg n1, zr_isRev R.1.1 hN hb, zo_s, if_neg n1, zg_wn S (n := 1) (y := 1) rfl hx (by decide), zo_s, if_pos rfl]
    exact zx_no_res (c := 5) R (by decide) (by decide) (by decide) (by decide) rfl
  obtain ⟨cm, cm2, P, P2, e1, e3, e4, e5⟩ := zx_places RR u1 u4 u5 ha hb
  have run2 : D.1 2 3 = nI run := (zx_R_ds R).2.2.1.trans u1
  have A2 := zy_M_is A cm P
  rw [if_neg (nI_pos (by omega)), if_pos (show nI k ≤ 1 from nI_le (show k ≤ 1 by omega) (by decide)), zy_r0_7 A, zo_s, zo_s, zo_s, zy_g2_3 A, zo_s, zo_s, run2, e1, zo_s, zy_r0_7 A2, zo_s, zo_s, zo_s, zo_s, zy_g11_3 A2, zy_g11_4 A2, zo_s, zo_s]
  unfold zg_X10_matched
  dsimp only
  rw [zr_isRev R.1.1 hN ha, zo_s, if_neg n1, zr_isRev R.1.1 hN hb, zo_s, if_neg n1, zg_wy S (n := 1) (y := 1) rfl (by omega) (by decide), zo_s, if_neg n1, e3, zo_s, zr_m28, zr_m29]
  have v3 : (zy_M D cm P).1 11 3 = nI P.2.2.1 := by
    unfold zy_M
    dsimp only
    rw [va_up_self, if_pos rfl]
  have v4 : (zy_M D cm P).1 11 4 = nI P.2.2.2 := by
    unfold zy_M
    dsimp only
    rw [va_up_self, if_neg (by decide)]
  rw [v3, v4, e4.2, e5.2]
  by_cases c : nI k = 0
  · rw [if_pos c, if_pos c]
    exact ⟨_, _, _, _, N, M, rfl, rfl, zx_R_of zs (zx_eqS_m S cm2 P2) (zx_RR_m RR (zx_eqS_m S cm2 P2) cm P), zx_m_blk z w cm P⟩
  · rw [if_neg c, if_neg c]
    exact ⟨_, _, _, _, N, M, rfl, rfl, zx_R_of zs (zx_eqS_m S cm2 P2) (zx_RR_m RR (zx_eqS_m S cm2 P2) cm P), zx_m_blk z w cm P⟩
