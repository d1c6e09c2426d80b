/-! both sides add a revision -/
theorem zx_eqN_of {S S2 : zm_S} {N : Nat} (Q : zx_rdd S S2 N) : zx_eqN S S2 N := by
  obtain ⟨q1, q2, q3, q4, q5⟩ := Q
  exact ⟨fun k _ _ _ => by rw [q1], fun k _ _ h _ => q2 k h, fun r hr => ⟨by rw [q2 1 (by decide)], q3 r hr⟩, q4, q5⟩
theorem zx_eqN_trans {S S2 S3 : zm_S} {N : Nat} (A : zx_eqN S S2 N) (B : zx_eqN S2 S3 N) : zx_eqN S S3 N := by
  obtain ⟨a1, a2, a3, a4, a5⟩ := A
  obtain ⟨b1, b2, b3, b4, b5⟩ := B
  exact ⟨fun k h1 h2 h3 => (b1 k h1 h2 h3).trans (a1 k h1 h2 h3), fun k h1 h2 h3 h4 => (b2 k h1 h2 h3 h4).trans (a2 k h1 h2 h3 h4), fun r hr => ⟨(b3 r hr).1.trans (a3 r hr).1, (b3 r hr).2.trans (a3 r hr).2⟩, fun k h => (b4 k h).trans (a4 k h), fun j h => (b5 j h).trans (a5 j h)⟩
theorem zx_co_N {S S2 : zm_S} {N : Nat} (A : zx_eqN S S2 N) (h4 : ∀ j, j < 24 * N → S2.2.1 4 j = S.2.1 4 j) (B : zx_co S N) : zx_co S2 N := by
  obtain ⟨a1, a2, a3, a4, a5⟩ := A
  intro r hr k hk e i hi
  have en : ∀ r, r < N → zx_n (S2.2.1 2) r = zx_n (S.2.1 2) r := fun r h => by unfold zx_n; rw [(a3 r h).2]
  have hn : ∀ r, zx_n (S.2.1 2) r ≤ 24 := fun r => zx_n24 _ _
  rw [h4 _ (by omega), B r hr k hk ((a3 r hr).1.symm.trans e) i hi, en r hr, en k (by omega), a2 7 (by decide) (by decide) (by decide) (by decide)]
  exact congrArg (fun p : zp_P => p.1 i) (zp_match_fg (fun j hj => (a5 _ (by have := hn k; omega)).symm) (fun j hj => (a5 _ (by have := hn r; omega)).symm))
section ZV
variable {z : Nat} {w : zc_H} {D : zy_D} {S S1 : zm_S} {E f g f' g' fb : Nat → Nat} {N M N' M' nb n : Nat} {L : Nat → Int64}
theorem zx_grow (zs : zx_s S N M) (R : zx_RR z w D S (fun _ x => x = S.2.1 7 0) E f g f' g' fb N M N' M' nb) (hN : N < 16) (V : zy_dr D n L) (ko : Option Nat) (hko : ∀ k, ko = some k → k < N) (Q : zx_rdd S S1 N) (h2 : S1.2.1 2 N = nI n) (h3 : ∀ i, i < n → L i = S1.2.2 3 (24 * N + i) ∧ ¬ L i = 0) : ∃ (w2 : zc_H) (D2 : zy_D) (E2 : Nat → Nat) (S2 : zm_S), zf_X9_addRevision w z (ko.map f) = some (w2, some w.2.1) ∧ zg_X10_comesTo S1 (zq_f1 ko) = some (S2, nI N) ∧ zx_s S2 (N + 1) M ∧ zx_RR z w2 D2 S2 (fun _ x => x = S2.2.1 7 0) E2 (va_up f N w.2.1) g f' g' fb (N + 1) M N' M' nb ∧ zx_blk z w w2 ∧ S2.2.1 6 = S.2.1 6 ∧ S2.2.1 2 N = nI n ∧ ∀ r, r < N → S2.2.1 2 r = S.2.1 2 r := by
  obtain ⟨run, need, margin, u1, u2, u3, u4, u5, u6, u7⟩ := id zs.2.2.1
  obtain ⟨b1, b2, b3, b4, b5, b6, b7⟩ := id zs
  obtain ⟨-, -, docd, -⟩ := id R
  have hn := V.2.1
  have eN := zx_eqN_of Q
  have fc := zx_fc_of docd
  -- the reference
  obtain ⟨q1, q2, q3, q4, q5⟩ := id Q
  have eN1 : zx_eqN S (zx_SA S1 1 (va_up (S1.2.1 1) N (zq_f1 ko))) N := zx_eqN_trans eN ⟨fun _ _ _ _ => rfl, fun k _ h _ _ => zx_SAn _ _ h, fun r hr => ⟨by rw [zx_SAa, va_up_ne _ _ (by omega)], by rw [zx_SAn _ _ (by decide)]⟩, fun _ _ => rfl, fun _ _ => rfl⟩
  have row2 : (zx_SA S1 1 (va_up (S1.2.1 1) N (zq_f1 ko))).2.1 2 N = nI n := by
    rw [zx_SAn _ _ (by decide)]
    exact h2
  have row1 : (zx_SA S1 1 (va_up (S1.2.1 1) N (zq_f1 ko))).2.1 1 N = zq_f1 ko := by rw [zx_SAa, va_up_self]
  have row4 : (zx_SA S1 1 (va_up (S1.2.1 1) N (zq_f1 ko))).2.1 4 = S.2.1 4 := by rw [zx_SAn _ _ (by decide), q2 4 (by decide)]
  have row7 : (zx_SA S1 1 (va_up (S1.2.1 1) N (zq_f1 ko))).2.1 7 = S.2.1 7 := by rw [zx_SAn _ _ (by decide), q2 7 (by decide)]
  have fc1 : zx_fc (zx_SA S1 1 (va_up (S1.2.1 1) N (zq_f1 ko))) (N + 1) := by
    refine ⟨by omega, fun r hr => ?_⟩
    by_cases y : r = N
    · subst y
      rw [row1, row2]
      refine ⟨by rw [zx_n_of row2 hn], ?_⟩
      cases ko with
      | none => exact Or.inl rfl
      | some k =>
        have hk := hko k rfl
        rw [zx_k_of (k := k) row1 (by omega)]
        exact Or.inr ⟨hk, rfl⟩
    · obtain ⟨f1, f2⟩ := fc.2 r (by omega)
      obtain ⟨e1, e2⟩ := eN1.2.2.1 r (by omega)
      unfold zx_n zx_k
      rw [e1, e2]
      exact ⟨f1, f2⟩
  have co1 : zx_co (zx_SA S1 1 (va_up (S1.2.1 1) N (zq_f1 ko))) N := zx_co_N eN1 (fun j _ => by rw [row4]) b4
  obtain ⟨S3, l1, l2, l3⟩ := zr_lrnStep fc1 (Nat.lt_succ_self N) (run := run) (by rw [row7]; exact u1) u4 u5 co1
  have s0 : S3.1 0 = nI N := (l2.1 0 (by decide)).trans (show S1.1 0 = nI N by rw [q1]; exact b1)
  have c1 : zg_X10_comesTo S1 (zq_f1 ko) = some (zg_p S3 0 (nI (N + 1)), nI N) := by
    unfold zg_X10_comesTo
    rw [q1, b1, zx_si (by omega) (by decide), zo_s, show (zx_SA S1 1 (va_up (S1.2.1 1) N (zq_f1 ko))).1 0 = nI N from (show S1.1 0 = nI N by rw [q1]; exact b1), l1, zo_s, zo_s, s0, ← nI_succ]
  have eN2 : zx_eqN S (zg_p S3 0 (nI (N + 1))) N := zx_eqN_trans eN1 ⟨fun k hk h0 _ => (va_up_ne _ _ h0).trans (l2.1 k hk), fun k hk _ _ h => l2.2.1 k hk h, fun r hr => ⟨congrFun (l2.2.1 1 (by decide) (by decide)) r, congrFun (l2.2.1 2 (by decide) (by decide)) r⟩, fun k _ => congrFun l2.2.2 k, fun j _ => congrFun (congrFun l2.2.2 3) j⟩
  have r1 : (zg_p S3 0 (nI (N + 1))).2.1 1 N = zq_f1 ko := (congrFun (l2.2.1 1 (by decide) (by decide)) N).trans row1
  have r2 : (zg_p S3 0 (nI (N + 1))).2.1 2 N = nI n := (congrFun (l2.2.1 2 (by decide) (by decide)) N).trans row2
  have r7 : (zg_p S3 0 (nI (N + 1))).2.1 7 = S.2.1 7 := eN2.2.1 7 (by decide) (by decide) (by decide) (by decide)
  have rl : (zg_p S3 0 (nI (N + 1))).2.2 = S1.2.2 := l2.2.2
  -- the class
  obtain ⟨w2, D2, E2, g1, g2, g3⟩ := zs_addRev (run := run) (S2 := zg_p S3 0 (nI (N + 1))) (by rw [← u1]; exact R) (by rw [r7]; exact u1) u4 u5 hN V ko hko eN2 r1 r2 (fun i hi => by rw [rl]; exact h3 i hi)
  have k0 : (zg_p S3 0 (nI (N + 1))).1 0 = nI (N + 1) := va_up_self S3.1 0 _
  have kf : ∀ k, k < 25 → k ≠ 0 → (zg_p S3 0 (nI (N + 1))).1 k = S.1 k := fun k hk h => by
    have e1 : (zg_p S3 0 (nI (N + 1))).1 k = S3.1 k := va_up_ne S3.1 _ h
    have e2 : (zx_SA S1 1 (va_up (S1.2.1 1) N (zq_f1 ko))).1 k = S.1 k := congrFun q1 k
    rw [e1, l2.1 k hk, e2]
  exact ⟨w2, D2, E2, _, g1, c1, ⟨k0, (kf 5 (by decide) (by decide)).trans b2, by rw [r7]; exact b3, l3, by rw [kf 13 (by decide) (by decide)]; exact b5, by rw [eN2.2.1 9 (by decide) (by decide) (by decide) (by decide)]; exact b6, by rw [eN2.2.1 10 (by decide) (by decide) (by decide) (by decide)]; exact b7⟩, by rw [r7, u1]; exact g2, g3, eN2.2.1 6 (by decide) (by decide) (by decide) (by decide), r2, fun r hr => (eN2.2.2.1 r hr).2⟩
end ZV
