/-! the reference learns a step; rule -/
theorem zx_SAn (S : zm_S) {k j : Nat} (c : Nat → Int32) (h : j ≠ k) : (zx_SA S k c).2.1 j = S.2.1 j := va_up_ne _ _ h
/-- the same but for what is scratch, and the learnt places -/
def zx_eq4 (S S2 : zm_S) : Prop := (∀ k, k < 25 → S2.1 k = S.1 k) ∧ (∀ k, k < 25 → k ≠ 4 → S2.2.1 k = S.2.1 k) ∧ S2.2.2 = S.2.2
theorem zx_eq4_refl (S : zm_S) : zx_eq4 S S := ⟨fun _ _ => rfl, fun _ _ _ => rfl, rfl⟩
theorem zx_eq4_trans {S S2 S3 : zm_S} (A : zx_eq4 S S2) (B : zx_eq4 S2 S3) : zx_eq4 S S3 := ⟨fun k hk => (B.1 k hk).trans (A.1 k hk), fun k hk h => (B.2.1 k hk h).trans (A.2.1 k hk h), B.2.2.trans A.2.2⟩
theorem zx_eq4_of {S S2 : zm_S} (A : zx_eqS S S2) : zx_eq4 S S2 := ⟨A.1, fun k hk _ => A.2.1 k hk, A.2.2⟩
theorem zx_eq4_4 (S : zm_S) (c : Nat → Int32) : zx_eq4 S (zx_SA S 4 c) := ⟨fun _ _ => rfl, fun k _ h => va_up_ne _ _ h, rfl⟩
theorem zx_eq4_S {S S2 : zm_S} (A : zx_eq4 S S2) : zx_eqS S (zx_SA S2 4 (S.2.1 4)) := ⟨A.1, fun k hk => by
  by_cases c : k = 4
  · subst c
    rw [zx_SAa]
  · exact (va_up_ne _ _ c).trans (A.2.1 k hk c), A.2.2⟩
theorem zx_RR_4 {z : Nat} {w : zc_H} {D : zy_D} {S S2 : zm_S} {rdy : Nat → Int32 → Prop} {E f g f' g' fb : Nat → Nat} {N M N' M' nb : Nat} (R : zx_RR z w D S rdy E f g f' g' fb N M N' M' nb) (A : zx_eq4 S S2) : zx_RR z w D S2 rdy E f g f' g' fb N M N' M' nb := by
  have R2 := zx_RR_sc R rfl (fun _ _ => rfl) (fun _ _ => rfl) R.1 (zx_eqD_refl D) (zx_eq4_S A)
  exact R2
theorem zr_lrnL {S : zm_S} {r : Nat} (hr : r < 16) : ∀ (k fu t : Nat) (c : Nat → Int32), t + k = 24 → k < fu → (∀ i, i < t → c (24 * r + i) = S.2.1 26 i) → ∃ c2, zg_X10_learns_L24 (nI r) fu (zx_SA S 4 c) (nI t) = some (zx_SA S 4 c2) ∧ (∀ i, i < 24 → c2 (24 * r + i) = S.2.1 26 i) ∧ ∀ j, j < 24 * r ∨ 24 * r + 24 ≤ j → c2 j = c j := by
  intro k
  induction k with
  | zero =>
    intro fu t c h1 h2 h3
    obtain ⟨fl, rfl⟩ : ∃ fl, fu = fl + 1 := ⟨fu - 1, by omega⟩
    refine ⟨c, ?_, fun i hi => h3 i (by omega), fun j _ => rfl⟩
    unfold zg_X10_learns_L24
    rw [if_pos (show (24 : Int32) ≤ nI t from nI_le (show 24 ≤ t by omega) (by omega))]
  | succ k ih =>
    intro fu t c h1 h2 h3
    obtain ⟨fl, rfl⟩ : ∃ fl, fu = fl + 1 := ⟨fu - 1, by omega⟩
    obtain ⟨c2, e1, e2, e3⟩ := ih fl (t + 1) (va_up c (24 * r + t) (S.2.1 26 t)) (by omega) (by omega) (fun i hi => by
      by_cases q : i = t
      · subst q
        rw [va_up_self]
      · rw [va_up_ne _ _ (by omega)]
        exact h3 i (by omega))
    refine ⟨c2, ?_, e2, fun j hj => by rw [e3 j hj, va_up_ne _ _ (by omega)]⟩
    unfold zg_X10_learns_L24
    rw [if_neg (show ¬ (24 : Int32) ≤ nI t from nI_ge (show t < 24 by omega) (by decide)), zx_SAn S c (show (26 : Nat) ≠ 4 by decide), za_ai (by omega) (by decide), zo_s, za_24, zx_si (by omega) (by decide), zo_s, zx_SAa, zx_SAA, ← nI_succ]
    exact e1
/-- what learning asks -/
theorem zr_learns {S : zm_S} {r k n m run : Nat} (hr : r < 16) (hk : k < r) (hF : S.2.1 1 r = nI k) (hn : n ≤ 24) (hm : m ≤ 24) (hA : S.2.1 2 k = nI n) (hB : S.2.1 2 r = nI m) (hrun : S.2.1 7 0 = nI run) (hr1 : 1 ≤ run) (hr9 : run ≤ 9) : ∃ S2, zg_X10_learns S (nI r) = some S2 ∧ zx_eq4 S S2 ∧ (∀ i, i < 24 → S2.2.1 4 (24 * r + i) = (zp_match (zr_ln S k) (zr_ln S r) n m run).1 i) ∧ ∀ j, j < 24 * r ∨ 24 * r + 24 ≤ j → S2.2.1 4 j = S.2.1 4 j := by
  obtain ⟨cm, P, e1, e2⟩ := zr_places (S := S) (a := k) (b := r) (by omega) (by omega) hn hm hA hB hrun hr9 hr1
  obtain ⟨c2, e3, e4, e5⟩ := zr_lrnL (S := zr_m S cm P) hr 24 2000 0 (S.2.1 4) (by decide) (by decide) (fun i hi => absurd hi (Nat.not_lt_zero i))
  have e6 : zx_SA (zr_m S cm P) 4 (S.2.1 4) = zr_m S cm P := by
    have := zx_SAi (zr_m S cm P) 4
    rwa [zr_m2 S cm P (by decide)] at this
  rw [e6] at e3
  rw [zr_m26] at e4
  refine ⟨zx_SA (zr_m S cm P) 4 c2, ?_, zx_eq4_trans (zx_eq4_of (zx_eqS_m S cm P)) (zx_eq4_4 _ _), fun i hi => ?_, fun j hj => ?_⟩
  · unfold zg_X10_learns
    rw [za_ai hr (by decide), zo_s, hF, if_neg (za_ne _ (by omega)), zo_s, e1, zo_s, show (0 : Int32) = nI 0 by decide, e3, zo_s]
  · rw [zx_SAa, e4 i hi]
    exact (e2.1 i hi).1
  · rw [zx_SAa, e5 j hj]
theorem zr_learnsN {S : zm_S} {r : Nat} (hr : r < 16) (hF : S.2.1 1 r = -1) : zg_X10_learns S (nI r) = some S := by
  unfold zg_X10_learns
  rw [za_ai hr (by decide), zo_s, hF, if_pos rfl]
/-- what a doc says of the reference's formers and counts -/
def zx_fc (S : zm_S) (N : Nat) : Prop := N ≤ 16 ∧ ∀ r, r < N → S.2.1 2 r = nI (zx_n (S.2.1 2) r) ∧ (S.2.1 1 r = -1 ∨ (zx_k (S.2.1 1) r < r ∧ S.2.1 1 r = nI (zx_k (S.2.1 1) r)))
theorem zx_fc_of {z : Nat} {w : zc_H} {f g : Nat → Nat} {N M : Nat} {S : zm_S} {rdy : Nat → Int32 → Prop} (B : zx_d1 z w f g N M S rdy) : zx_fc S N := by
  have B : zx_doc z w f g N M (S.2.1 1) (S.2.1 2) (S.2.2 3) (S.2.1 6) rdy := B
  refine ⟨B.1, fun r hr => ⟨(zx_C B hr).1, (zx_F B hr).imp (fun q => q.1) (fun q => ⟨q.1, q.2.1⟩)⟩⟩
theorem zx_fc_eq {S S2 : zm_S} {N : Nat} (A : zx_eq4 S S2) (B : zx_fc S N) : zx_fc S2 N := by
  unfold zx_fc
  rw [A.2.1 1 (by decide) (by decide), A.2.1 2 (by decide) (by decide)]
  exact B
/-- places are learnt up to t -/
def zx_cot (S : zm_S) (t : Nat) : Prop := zx_co S t
theorem zr_lrnStep {S : zm_S} {N t run : Nat} (B : zx_fc S N) (ht : t < N) (hrun : S.2.1 7 0 = nI run) (hr1 : 1 ≤ run) (hr9 : run ≤ 9) (hc : zx_co S t) : ∃ S2, zg_X10_learns S (nI t) = some S2 ∧ zx_eq4 S S2 ∧ zx_co S2 (t + 1) := by
  obtain ⟨hN, hB⟩ := B
  obtain ⟨hC, hF⟩ := hB t ht
  rcases hF with e | ⟨e1, e2⟩
  · refine ⟨S, zr_learnsN (by omega) e, zx_eq4_refl S, fun r hr k hk hF i hi => ?_⟩
    by_cases c : r = t
    · subst c
      rw [e] at hF
      exact absurd hF.symm (za_ne _ (by omega))
    · exact hc r (by omega) k hk hF i hi
  · obtain ⟨S2, q1, q2, q3, q4⟩ := zr_learns (show t < 16 by omega) e1 e2 (zx_n24 _ _) (zx_n24 _ _) (hB _ (by omega)).1 hC hrun hr1 hr9
    refine ⟨S2, q1, q2, fun r hr k hk hF i hi => ?_⟩
    have l1 : zr_ln S2 = zr_ln S := by
      unfold zr_ln
      rw [q2.2.2]
    rw [l1, q2.2.1 2 (by decide) (by decide), q2.2.1 7 (by decide) (by decide)]
    rw [q2.2.1 1 (by decide) (by decide)] at hF
    by_cases c : r = t
    · subst c
      have : k = zx_k (S.2.1 1) r := by
        rw [hF] at e2
        exact (za_eq (by omega) (by omega)).mp e2
      subst this
      rw [q3 i hi, hrun, nI_clamp (by omega)]
    · rw [q4 _ (by omega)]
      exact hc r (by omega) k hk hF i hi
/-- the class: all steps stand ready -/
theorem zs_stepsL {z run : Nat} (hr1 : 1 ≤ run) (hr9 : run ≤ 9) {S : zm_S} (hrun : S.2.1 7 0 = nI run) {E f g f' g' fb : Nat → Nat} {N M N' M' nb : Nat} : ∀ (k fu t : Nat) (w : zc_H) (D : zy_D), t + k = N → k < fu → zx_RR z w D S (fun j x => j < t → x = nI run) E f g f' g' fb N M N' M' nb → ∃ (w2 : zc_H) (D2 : zy_D), zf_X9_readySteps_L2 z fu w (nI t) = some w2 ∧ zx_RR z w2 D2 S (fun _ x => x = nI run) E f g f' g' fb N M N' M' nb ∧ zx_blk z w w2 ∧ zx_eqD D D2 ∧ w2.2 = w.2 := by
  intro k
  induction k with
  | zero =>
    intro fu t w D h1 h2 R
    obtain ⟨fl, rfl⟩ : ∃ fl, fu = fl + 1 := ⟨fu - 1, by omega⟩
    have e : t = N := by omega
    subst e
    obtain ⟨A, ⟨-, -, -, al3, -⟩, doc, r4, r5, r6⟩ := id R
    have hN := doc.1
    refine ⟨w, D, ?_, ⟨R.1, R.2.1, ⟨doc.1, doc.2.1, fun j hj => ?_, doc.2.2.2⟩, r4, r5, r6⟩, zx_blk_refl z w, zx_eqD_refl D, rfl⟩
    · unfold zf_X9_readySteps_L2
      rw [zy_r0_1 A, zo_s, zo_s, zy_r2_0 A, zo_s, zo_s, zk_al_size al3, zo_s, if_pos (nI_le (Nat.le_refl _) (by omega))]
    · obtain ⟨o, rf, fo, c1, c2, c3, c4, c5⟩ := doc.2.2.1 j hj
      exact ⟨o, rf, fo, c1, c2, c3, c4, c5.imp id (fun q => ⟨q.1, q.2.1, q.2.2.1, q.2.2.2 hj⟩)⟩
  | succ k ih =>
    intro fu t w D h1 h2 R
    obtain ⟨fl, rfl⟩ : ∃ fl, fu = fl + 1 := ⟨fu - 1, by omega⟩
    obtain ⟨A, ⟨-, -, -, al3, -⟩, doc, r4, r5, r6⟩ := id R
    have doc : zx_doc z w f g N M (S.2.1 1) (S.2.1 2) (S.2.2 3) (S.2.1 6) _ := doc
    have hN := doc.1
    have ht : t < N := by omega
    obtain ⟨w2, D2, e1, e2, e3, e4, e5⟩ := zs_ready R ht hr1 hr9
    have R2 : zx_RR z w2 D2 S (fun j x => j < t + 1 → x = nI run) E f g f' g' fb N M N' M' nb := by
      obtain ⟨s1, s2, s3, s4, s5, s6⟩ := e2
      refine ⟨s1, s2, ⟨s3.1, s3.2.1, fun j hj => ?_, s3.2.2.2⟩, s4, s5, s6⟩
      obtain ⟨o, rf, fo, c1, c2, c3, c4, c5⟩ := s3.2.2.1 j hj
      refine ⟨o, rf, fo, c1, c2, c3, c4, c5.imp id (fun q => ⟨q.1, q.2.1, q.2.2.1, fun hj2 => ?_⟩)⟩
      have q4 : (if j = t then rf = nI run else j < t → rf = nI run) := q.2.2.2
      by_cases c : j = t
      · rw [if_pos c] at q4
        exact q4
      · rw [if_neg c] at q4
        exact q4 (by omega)
    obtain ⟨w3, D3, f1, f2, f3, f4, f5⟩ := ih fl (t + 1) w2 D2 (by omega) (by omega) R2
    refine ⟨w3, D3, ?_, f2, zx_blk_trans e4 f3, zx_eqD_trans e3 f4, f5.trans e5⟩
    have run2 : D.1 2 3 = nI run := r5.2.2.1.trans hrun
    unfold zf_X9_readySteps_L2
    rw [zy_r0_1 A, zo_s, zo_s, zy_r2_0 A, zo_s, zo_s, zk_al_size al3, zo_s, if_neg (nI_ge ht (by omega)), zo_s, zo_s, zy_r2_0 A, zo_s, zo_s, zk_al_get al3 ht, zo_s, if_neg (show ¬ ¬ zf_cc w (some (f t)) 4 = true from not_not_intro (zx_rev_is doc ht)), zy_r0_7 A, zo_s, zo_s, zo_s, zy_g2_3 A, zo_s, zo_s, run2, e1, zo_s, ← nI_succ]
    exact f1
theorem zs_steps {z run : Nat} (hr1 : 1 ≤ run) (hr9 : run ≤ 9) {S : zm_S} (hrun : S.2.1 7 0 = nI run) {E f g f' g' fb : Nat → Nat} {N M N' M' nb : Nat} {w : zc_H} {D : zy_D} {rdy : Nat → Int32 → Prop} (R : zx_RR z w D S rdy E f g f' g' fb N M N' M' nb) : ∃ (w2 : zc_H) (D2 : zy_D), zf_X9_readySteps w z = some w2 ∧ zx_RR z w2 D2 S (fun _ x => x = nI run) E f g f' g' fb N M N' M' nb ∧ zx_blk z w w2 ∧ zx_eqD D D2 ∧ w2.2 = w.2 := by
  obtain ⟨A, s2, s3, s4, s5, s6⟩ := R
  have hN := s3.1
  obtain ⟨w2, D2, e1, e2⟩ := zs_stepsL hr1 hr9 hrun N 2000 0 w D (by omega) (by omega) ⟨A, s2, ⟨s3.1, s3.2.1, fun j hj => by
    obtain ⟨o, rf, fo, c1, c2, c3, c4, c5⟩ := s3.2.2.1 j hj
    exact ⟨o, rf, fo, c1, c2, c3, c4, c5.imp id (fun q => ⟨q.1, q.2.1, q.2.2.1, fun hj2 => absurd hj2 (Nat.not_lt_zero j)⟩)⟩, s3.2.2.2⟩, s4, s5, s6⟩
  refine ⟨w2, D2, ?_, e2⟩
  unfold zf_X9_readySteps
  rw [if_neg (zy_is0 A), show (0 : Int32) = nI 0 by decide, e1, zo_s]
theorem zr_ruleL {y : Int32} {N run : Nat} (hr1 : 1 ≤ run) (hr9 : run ≤ 9) : ∀ (k fu t : Nat) (S : zm_S), t + k = N → k < fu → S.1 0 = nI N → S.2.1 7 0 = nI run → zx_fc S N → zx_co S t → ∃ S2, zg_X10_rule_L74 y fu S (nI t) = some S2 ∧ zx_eq4 S S2 ∧ zx_co S2 N := by
  intro k
  induction k with
  | zero =>
    intro fu t S h1 h2 h3 h4 h5 h6
    obtain ⟨fl, rfl⟩ : ∃ fl, fu = fl + 1 := ⟨fu - 1, by omega⟩
    have e : t = N := by omega
    subst e
    refine ⟨S, ?_, zx_eq4_refl S, h6⟩
    unfold zg_X10_rule_L74
    rw [h3, if_pos (nI_le (Nat.le_refl _) (by have := h5.1; omega))]
  | succ k ih =>
    intro fu t S h1 h2 h3 h4 h5 h6
    obtain ⟨fl, rfl⟩ : ∃ fl, fu = fl + 1 := ⟨fu - 1, by omega⟩
    have hN := h5.1
    obtain ⟨S2, e1, e2, e3⟩ := zr_lrnStep h5 (show t < N by omega) h4 hr1 hr9 h6
    obtain ⟨S3, e4, e5, e6⟩ := ih fl (t + 1) S2 (by omega) (by omega) (by rw [e2.1 0 (by decide)]; exact h3) (by rw [e2.2.1 7 (by decide) (by decide)]; exact h4) (zx_fc_eq e2 h5) e3
    refine ⟨S3, ?_, zx_eq4_trans e2 e5, e6⟩
    unfold zg_X10_rule_L74
    rw [h3, if_neg (nI_ge (by omega) (by omega)), e1, zo_s, ← nI_succ]
    exact e4
theorem zx_s_4 {S S2 : zm_S} {N M : Nat} (A : zx_eq4 S S2) (hc : zx_co S2 N) (B : S.1 0 = nI N ∧ S.1 5 = nI M ∧ zx_rules (S.2.1 7) ∧ (∃ t, S.1 13 = nI t ∧ t < 2 ^ 20) ∧ (∀ s, s < 8 → zx_hold M (S.2.1 9 s)) ∧ ∀ s, s < 8 → ∃ n, n ≤ 160 ∧ S.2.1 10 s = nI n) : zx_s S2 N M := by
  obtain ⟨b1, b2, b3, b5, b6, b7⟩ := B
  exact ⟨by rw [A.1 0 (by decide)]; exact b1, by rw [A.1 5 (by decide)]; exact b2, by rw [A.2.1 7 (by decide) (by decide)]; exact b3, hc, by rw [A.1 13 (by decide)]; exact b5, by rw [A.2.1 9 (by decide) (by decide)]; exact b6, by rw [A.2.1 10 (by decide) (by decide)]; exact b7⟩
/-- a rule changes -/
theorem zx_RR_rule {z k : Nat} {w : zc_H} {D : zy_D} {S : zm_S} {rdy : Nat → Int32 → Prop} {E f g f' g' fb : Nat → Nat} {N M N' M' nb : Nat} {v : Int32} (hk : k < 3) (R : zx_RR z w D S rdy E f g f' g' fb N M N' M' nb) : zx_RR z (zy_h z (zy_I D 2 (3 + k) v) w) (zy_I D 2 (3 + k) v) (zx_SA S 7 (va_up (S.2.1 7) k v)) (fun _ _ => True) E f g f' g' fb N M N' M' nb := by
  obtain ⟨r1, r2, r3, r4, ⟨c1, c2, c3, c4, c5, c6, c7, c8, c9, c10, c11⟩, r6⟩ := R
  have kp : zx_kp z w (zy_h z (zy_I D 2 (3 + k) v) w) := zx_kp_same rfl (fun y hy => zy_o (Or.inr (by omega)))
  have eD : ∀ j, (zy_I D 2 (3 + k) v).1 2 j = va_up (D.1 2) (3 + k) v j := fun j => by
    unfold zy_I
    dsimp only
    rw [va_up_self]
  have e7 : ∀ j, (zx_SA S 7 (va_up (S.2.1 7) k v)).2.1 7 j = va_up (S.2.1 7) k v j := fun j => by rw [zx_SAa]
  have r3' : zx_doc z w f g N M (S.2.1 1) (S.2.1 2) (S.2.2 3) (S.2.1 6) (fun _ _ => True) := ⟨r3.1, r3.2.1, fun j hj => by
    obtain ⟨o, rf, fo, d1, d2, d3, d4, d5⟩ := r3.2.2.1 j hj
    exact ⟨o, rf, fo, d1, d2, d3, d4, d5.imp id (fun q => ⟨q.1, q.2.1, q.2.2.1, trivial⟩)⟩, r3.2.2.2⟩
  refine ⟨zy_is_h _ _ _, zx_V_t (w := w) rfl (fun y hy => zy_o (Or.inr (by omega))) (fun k hk => zy_l hk) r2, zx_doc_t kp r3', zx_doc_t kp r4, ⟨c1, c2, ?_, ?_, ?_, ?_, ?_, c8, c9, c10, fun s hs => ?_⟩, r6⟩
  · rw [eD, e7]
    by_cases c : k = 0
    · subst c
      rw [va_up_self, va_up_self]
    · rw [va_up_ne _ _ (by omega), va_up_ne _ _ (by omega)]
      exact c3
  · rw [eD, e7]
    by_cases c : k = 1
    · subst c
      rw [va_up_self, va_up_self]
    · rw [va_up_ne _ _ (by omega), va_up_ne _ _ (by omega)]
      exact c4
  · rw [eD, e7]
    by_cases c : k = 2
    · subst c
      rw [va_up_self, va_up_self]
    · rw [va_up_ne _ _ (by omega), va_up_ne _ _ (by omega)]
      exact c5
  · rw [eD, va_up_ne _ _ (by omega)]
    exact c6
  · rw [eD, va_up_ne _ _ (by omega)]
    exact c7
  · obtain ⟨d1, d2, d3⟩ := c11 s hs
    refine ⟨?_, ?_, d3⟩
    · show va_up D.1 2 _ (22 + 2 * s) 0 = _
      rw [va_up_ne _ _ (by omega)]
      exact d1
    · show va_up D.1 2 _ (22 + 2 * s) 1 = _
      rw [va_up_ne _ _ (by omega)]
      exact d2
theorem ze_rule {z : Nat} {w : zc_H} {D : zy_D} {S : zm_S} {N M : Nat} (R : zx_R z w D S N M) (x1 x2 : Int32) : zx_res z w (zf_X9_rule w z x1 x2) (zg_X10_rule S x1 x2) := by
  have A := zx_R_is R
  obtain ⟨hN, hM⟩ := zx_R_16 R
  have n1 : ¬ (1 : Int32) = 0 := by decide
  obtain ⟨⟨b1, b2, ⟨run, need, margin, u1, u2, u3, u4, u5, u6, u7⟩, b4, b5, b6, b7⟩, E, f, g, f', g', fb, N', M', nb, RR⟩ := id R
  have ds := zx_R_ds R
  have run2 : D.1 2 3 = S.2.1 7 0 := ds.2.2.1
  have may : ∀ x y : Int32, zf_X6_mayBeRule w (z + 2) x y = some (if x = 0 then (if y < 1 then 0 else if 9 < y then 0 else 1) else if x = 1 then (if y < 0 then 0 else if 99 < y then 0 else 1) else if x = 2 then (if y < 0 then 0 else if 20 < y then 0 else 1) else 0) := by
    intro x y
    unfold zf_X6_mayBeRule
    rw [if_neg (zy_is2 A)]
    split
    · split
      · rfl
      · split <;> rfl
    · split
      · split
        · rfl
        · split <;> rfl
      · split
        · split
          · rfl
          · split <;> rfl
        · rfl
  unfold zf_X9_rule
  rw [if_neg (zy_is0 A), zy_r0_1 A, zo_s, zo_s, may, zo_s]
  have bad : ∀ b : Int32, b = 0 → (if b = 0 then (zf_X9_refuse w z (-6)).bind fun r15 => some (r15.1, r15.2) else (some (some (z + 2))).bind fun v6 => v6.bind fun a8 => (zf_X6_ruleOf w a8 x1).bind fun r9 => (some (some (z + 2))).bind fun v10 => v10.bind fun a12 => (zf_X6_changeRule w a12 x1 x2).bind fun r13 => (zf_X9_readySteps r13 z).bind fun r14 => some (r14, r9)) = (zf_X9_refuse w z (-6)).bind fun r15 => some (r15.1, r15.2) := fun b hb => if_pos hb
  rcases zn_rng x1 (n := 3) (by decide) with hx | ⟨k, hk, rfl⟩
  · have ne : ∀ j : Nat, j < 3 → ¬ x1 = nI j := by
      rintro j hj rfl
      rcases hx with q | q
      · exact nI_pos (by omega) q
      · exact nI_ge hj (by decide) q
    rw [bad _ (by rw [if_neg (show ¬ x1 = 0 from ne 0 (by decide)), if_neg (show ¬ x1 = 1 from ne 1 (by decide)), if_neg (show ¬ x1 = 2 from ne 2 (by decide))])]
    unfold zg_X10_rule
    dsimp only
    rw [zg_wn S (n := 2) (y := 2) rfl hx (by decide), zo_s, if_pos rfl]
    exact zx_no_res (c := 6) R (by decide) (by decide) (by decide) (by decide) rfl
  -- a rule that may be
  have ref : zg_X10_rule S (nI k) x2 = (zg_X10_within S x2 (if k = 0 then 1 else 0) (if k = 0 then 9 else if k = 1 then 99 else 20)).bind fun r6 => if r6 = 0 then (zg_X10_no S (-6)).bind fun r3 => some (r3.1, r3.2) else (zg_ai 3 (S.2.1 7) (nI k)).bind fun v11 => (zg_si 7 3 S (nI k) x2).bind fun h15 => if nI k = 0 then (zg_X10_rule_L74 v11 2000 h15 0).bind fun w21 => some (w21, v11) else some (h15, v11) := by
    unfold zg_X10_rule
    dsimp only
    rw [zg_wy S (n := 2) (y := 2) rfl (by omega) (by decide), zo_s, if_neg n1]
    have hk3 : k = 0 ∨ k = 1 ∨ k = 2 := by omega
    rcases hk3 with rfl | rfl | rfl
    · rw [if_pos (show nI 0 = 0 by decide), if_pos rfl, if_pos rfl, if_pos (show nI 0 = 0 by decide)]
    · rw [if_neg (show ¬ nI 1 = 0 by decide), if_neg (show ¬ nI 1 = 0 by decide), if_pos (show nI 1 = 1 by decide), if_neg (show ¬ 1 = 0 by decide), if_neg (show ¬ 1 = 0 by decide), if_pos rfl]
    · rw [if_neg (show ¬ nI 2 = 0 by decide), if_neg (show ¬ nI 2 = 0 by decide), if_neg (show ¬ nI 2 = 1 by decide), if_neg (show ¬ 2 = 0 by decide), if_neg (show ¬ 2 = 0 by decide), if_neg (show ¬ 2 = 1 by decide)]
  have hk3 : k = 0 ∨ k = 1 ∨ k = 2 := by omega
  rw [ref]
  unfold zg_X10_within
  have cls : (if nI k = 0 then (if x2 < 1 then (0 : Int32) else if 9 < x2 then 0 else 1) else if nI k = 1 then (if x2 < 0 then 0 else if 99 < x2 then 0 else 1) else if nI k = 2 then (if x2 < 0 then 0 else if 20 < x2 then 0 else 1) else 0) = if x2 < (if k = 0 then 1 else 0) then 0 else if (if k = 0 then 9 else if k = 1 then 99 else 20) < x2 then 0 else 1 := by
    rcases hk3 with rfl | rfl | rfl
    · rfl
    · rfl
    · rfl
  rw [cls]
  by_cases q1 : x2 < (if k = 0 then 1 else 0)
  · rw [if_pos q1, if_pos q1, if_pos rfl, zo_s, if_pos rfl]
    exact zx_no_res (c := 6) R (by decide) (by decide) (by decide) (by decide) rfl
  rw [if_neg q1, if_neg q1]
  by_cases q2 : (if k = 0 then 9 else if k = 1 then 99 else 20) < x2
  · rw [if_pos q2, if_pos q2, if_pos rfl, zo_s, if_pos rfl]
    exact zx_no_res (c := 6) R (by decide) (by decide) (by decide) (by decide) rfl
  rw [if_neg q2, if_neg q2, if_neg n1, zo_s, zo_s, zo_s (1 : Int32), if_neg n1]
  have hv0 : ¬ x2 < 0 := by
    intro q
    refine q1 (Int32.lt_of_lt_of_le q ?_)
    rcases hk3 with rfl | rfl | rfl <;> decide
  obtain ⟨v, hv, rfl⟩ := nI_of hv0
  have vlo : k = 0 → 1 ≤ v := by
    rintro rfl
    rcases Nat.lt_or_ge v 1 with q | q
    · exact absurd (show nI v < 1 from nI_lt q (by decide)) q1
    · exact q
  have vhi : v ≤ (if k = 0 then 9 else if k = 1 then 99 else 20) := by
    rcases hk3 with rfl | rfl | rfl
    · rcases Nat.lt_or_ge 9 v with q | q
      · exact absurd (show (9 : Int32) < nI v from nI_lt q hv) q2
      · exact q
    · rcases Nat.lt_or_ge 99 v with q | q
      · exact absurd (show (99 : Int32) < nI v from nI_lt q hv) q2
      · exact q
    · rcases Nat.lt_or_ge 20 v with q | q
      · exact absurd (show (20 : Int32) < nI v from nI_lt q hv) q2
      · exact q
  have old : D.1 2 (3 + k) = S.2.1 7 k := by
    rcases hk3 with rfl | rfl | rfl
    · exact ds.2.2.1
    · exact ds.2.2.2.1
    · exact ds.2.2.2.2.1
  have rof : zf_X6_ruleOf w (z + 2) (nI k) = some (D.1 2 (3 + k)) := by
    unfold zf_X6_ruleOf
    rw [if_neg (zy_is2 A)]
    rcases hk3 with rfl | rfl | rfl
    · rw [if_pos (by decide), zy_g2_3 A, zo_s]
    · rw [if_neg (by decide), if_pos (by decide), zy_g2_4 A, zo_s]
    · rw [if_neg (by decide), if_neg (by decide), zy_g2_5 A, zo_s]
  have chg : zf_X6_changeRule w (z + 2) (nI k) (nI v) = some (zy_h z (zy_I D 2 (3 + k) (nI v)) w) := by
    unfold zf_X6_changeRule
    rw [if_neg (zy_is2 A)]
    rcases hk3 with rfl | rfl | rfl
    · rw [if_pos (by decide), zy_p2_3 A, zo_s]
    · rw [if_neg (by decide), if_pos (by decide), zy_p2_4 A, zo_s]
    · rw [if_neg (by decide), if_neg (by decide), zy_p2_5 A, zo_s]
  rw [rof, zo_s, zo_s, zo_s, chg, zo_s, old, za_ai hk (by decide), zo_s, zx_si hk (by decide), zo_s]
  have R1 := zx_RR_rule (v := nI v) hk RR
  have e7 : ∀ j, (zx_SA S 7 (va_up (S.2.1 7) k (nI v))).2.1 7 j = va_up (S.2.1 7) k (nI v) j := fun j => by rw [zx_SAa]
  have rules : zx_rules ((zx_SA S 7 (va_up (S.2.1 7) k (nI v))).2.1 7) := by
    rw [zx_SAa]
    rcases hk3 with rfl | rfl | rfl
    · exact ⟨v, need, margin, va_up_self _ _ _, by rw [va_up_ne _ _ (by decide)]; exact u2, by rw [va_up_ne _ _ (by decide)]; exact u3, vlo rfl, vhi, u6, u7⟩
    · exact ⟨run, v, margin, by rw [va_up_ne _ _ (by decide)]; exact u1, va_up_self _ _ _, by rw [va_up_ne _ _ (by decide)]; exact u3, u4, u5, vhi, u7⟩
    · exact ⟨run, need, v, by rw [va_up_ne _ _ (by decide)]; exact u1, by rw [va_up_ne _ _ (by decide)]; exact u2, va_up_self _ _ _, u4, u5, u6, vhi⟩
  obtain ⟨run', need', margin', w1, w2, w3, w4, w5, w6, w7⟩ := id rules
  obtain ⟨w2', D2, t1, t2, t3, t4, t5⟩ := zs_steps w4 w5 w1 R1
  rw [t1, zo_s]
  have blk : zx_blk z w w2' := zx_blk_trans (zx_h_blk z _ w) t3
  by_cases c : k = 0
  · subst c
    rw [if_pos (show nI 0 = 0 by decide)]
    obtain ⟨S2, l1, l2, l3⟩ := zr_ruleL (y := S.2.1 7 0) w4 w5 N 2000 0 (zx_SA S 7 (va_up (S.2.1 7) 0 (nI v))) (by omega) (by omega) b1 w1 (zx_fc_of R1.2.2.1) (fun r hr => absurd hr (Nat.not_lt_zero r))
    rw [show zg_X10_rule_L74 (S.2.1 7 0) 2000 (zx_SA S 7 (va_up (S.2.1 7) 0 (nI v))) 0 = some S2 from l1, zo_s]
    refine ⟨_, _, _, D2, N, M, rfl, rfl, ⟨zx_s_4 l2 l3 ⟨b1, b2, rules, b5, b6, b7⟩, E, f, g, f', g', fb, N', M', nb, ?_⟩, blk⟩
    rw [l2.2.1 7 (by decide) (by decide), w1]
    exact zx_RR_4 t2 l2
  · rw [if_neg (show ¬ nI k = 0 from nI_ne0 (by omega) (by omega))]
    refine ⟨_, _, _, D2, N, M, rfl, rfl, ⟨⟨b1, b2, rules, zx_co_eq (S := S) rfl rfl rfl rfl (by rw [e7, va_up_ne _ _ (Ne.symm c)]) b4, b5, b6, b7⟩, E, f, g, f', g', fb, N', M', nb, ?_⟩, blk⟩
    rw [w1]
    exact t2
