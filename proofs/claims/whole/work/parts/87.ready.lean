/-! a step stands ready: the class's, the reference's -/
theorem zf_upup (w : zc_H) (q : Nat) (e e2 : va_E) : zf_up (zf_up w q e) q e2 = zf_up w q e2 := by
  unfold zf_up
  dsimp only
  rw [zu_twice]
theorem zf_upself {w : zc_H} {q : Nat} {e : va_E} (h : w.1 q = some e) : zf_up w q e = w := by
  unfold zf_up
  rw [← h, zu_self]
theorem zk_m_up {w : zc_H} {A q : Nat} {cm : Nat → Int32} {P : zp_P} {e : va_E} (h : q < A ∨ A + 3 < q) : zf_up (zk_m w A cm P) q e = zk_m (zf_up w q e) A cm P := by
  refine Prod.ext ?_ rfl
  funext x
  unfold zf_up zk_m va_up
  dsimp only
  by_cases c : x = q
  · rw [if_pos c, if_neg (by omega), if_neg (by omega), if_neg (by omega), if_neg (by omega), if_pos c]
  · rw [if_neg c]
    by_cases c1 : x = A
    · rw [if_pos c1, if_pos c1]
    · rw [if_neg c1, if_neg c1]
      by_cases c2 : x = A + 1
      · rw [if_pos c2, if_pos c2]
      · rw [if_neg c2, if_neg c2]
        by_cases c3 : x = A + 2
        · rw [if_pos c3, if_pos c3]
        · rw [if_neg c3, if_neg c3]
          by_cases c4 : x = A + 3
          · rw [if_pos c4, if_pos c4]
          · rw [if_neg c4, if_neg c4, if_neg c]
theorem zs_rdyL {z a np : Nat} {w : zc_H} {cm : Nat → Int32} {P : zp_P} {num rf : Int32} {fo : Option Nat} {run : Int32} (hz : w.2.2 < z) (ha : z + 60 ≤ a) (h1 : w.1 a = some (.inr (4, [.int num, va_rf fo, .ref (a + 1), .ref (a + 2), .int rf]))) (hn : np ≤ 24) : ∀ (k fu t : Nat) (p : Nat → Int32), t + k = np → k < fu → (∀ i, i < t → p i = P.1 i) → ∃ p2, zf_X4_readyStep_L28 a (some (z + 11)) run fu (zk_m (zf_up w (a + 2) (.inl (0, np, .inl p))) (z + 11) cm P) (nI t) = some (zk_m (zf_up w (a + 2) (.inl (0, np, .inl p2))) (z + 11) cm P) ∧ ∀ i, i < np → p2 i = P.1 i := by
  intro k
  induction k with
  | zero =>
    intro fu t p e1 e2 e3
    obtain ⟨fl, rfl⟩ : ∃ fl, fu = fl + 1 := ⟨fu - 1, by omega⟩
    have ca : (zk_m (zf_up w (a + 2) (.inl (0, np, .inl p))) (z + 11) cm P).1 a = some (.inr (4, [.int num, va_rf fo, .ref (a + 1), .ref (a + 2), .int rf])) := by rw [zk_mn (Or.inr (by omega)), zb_upn (by omega)]; exact h1
    have cp : (zk_m (zf_up w (a + 2) (.inl (0, np, .inl p))) (z + 11) cm P).1 (a + 2) = some (.inl (0, np, .inl p)) := by rw [zk_mn (Or.inr (by omega))]; exact zb_up _ _ _
    refine ⟨p, ?_, fun i hi => e3 i (by omega)⟩
    unfold zf_X4_readyStep_L28
    rw [zb_gr (x := some (a + 2)) ca rfl, zo_s, zo_s, zb_len cp (by show a + 2 ≠ w.2.2; omega), zo_s, if_pos (nI_le (show np ≤ t by omega) (by omega))]
  | succ k ih =>
    intro fu t p e1 e2 e3
    obtain ⟨fl, rfl⟩ : ∃ fl, fu = fl + 1 := ⟨fu - 1, by omega⟩
    have ca : (zk_m (zf_up w (a + 2) (.inl (0, np, .inl p))) (z + 11) cm P).1 a = some (.inr (4, [.int num, va_rf fo, .ref (a + 1), .ref (a + 2), .int rf])) := by rw [zk_mn (Or.inr (by omega)), zb_upn (by omega)]; exact h1
    have cp : (zk_m (zf_up w (a + 2) (.inl (0, np, .inl p))) (z + 11) cm P).1 (a + 2) = some (.inl (0, np, .inl p)) := by rw [zk_mn (Or.inr (by omega))]; exact zb_up _ _ _
    obtain ⟨p2, e4, e5⟩ := ih fl (t + 1) (va_up p t (P.1 t)) (by omega) (by omega) (fun i hi => by
      by_cases c : i = t
      · subst c
        rw [va_up_self]
      · rw [va_up_ne _ _ c]
        exact e3 i (by omega))
    refine ⟨p2, ?_, e5⟩
    unfold zf_X4_readyStep_L28
    rw [zb_gr (x := some (a + 2)) ca rfl, zo_s, zo_s, zb_len cp (by show a + 2 ≠ w.2.2; omega), zo_s, if_neg (nI_ge (show t < np by omega) (by omega)), zo_s, zo_s, zs_placeM (show (zf_up w (a + 2) (.inl (0, np, .inl p))).2.2 < z from hz) (by omega), zo_s, zo_s, zb_si cp (by omega) (by omega), zo_s, zk_m_up (Or.inr (by omega)), zf_upup, ← nI_succ]
    exact e4
/-- a revision made ready: its cells -/
def zx_rdy (w : zc_H) (a : Nat) (num : Int32) (b np : Nat) (p2 : Nat → Int32) (run : Int32) : zc_H := zf_up (zf_up w (a + 2) (.inl (0, np, .inl p2))) a (.inr (4, [.int num, .ref b, .ref (a + 1), .ref (a + 2), .int run]))
theorem zx_rdy_n {w : zc_H} {a : Nat} {num : Int32} {b np : Nat} {p2 : Nat → Int32} {run : Int32} {y : Nat} (h1 : y ≠ a) (h2 : y ≠ a + 2) : (zx_rdy w a num b np p2 run).1 y = w.1 y := by
  unfold zx_rdy
  rw [zb_upn h1, zb_upn h2]
theorem zx_rdy_0 {w : zc_H} {a : Nat} {num : Int32} {b np : Nat} {p2 : Nat → Int32} {run : Int32} : (zx_rdy w a num b np p2 run).1 a = some (.inr (4, [.int num, .ref b, .ref (a + 1), .ref (a + 2), .int run])) := zb_up _ _ _
theorem zx_rdy_2 {w : zc_H} {a : Nat} {num : Int32} {b np : Nat} {p2 : Nat → Int32} {run : Int32} : (zx_rdy w a num b np p2 run).1 (a + 2) = some (.inl (0, np, .inl p2)) := by
  unfold zx_rdy
  rw [zb_upn (by omega)]
  exact zb_up _ _ _
section ZR
variable {z : Nat} {w : zc_H} {a : Nat} {num rf0 : Int32} {b n np : Nat} {p0 p2 : Nat → Int32} {run : Nat}
/-- what is known of the revision that is made ready -/
def zx_rd0 (z : Nat) (w : zc_H) (a : Nat) (num rf0 : Int32) (b n np : Nat) (p0 p2 : Nat → Int32) (run : Nat) : Prop := z + 60 ≤ a ∧ a + 2 < w.2.1 ∧ w.1 a = some (.inr (4, [.int num, .ref b, .ref (a + 1), .ref (a + 2), .int rf0])) ∧ w.1 (a + 1) = some (.inl (1, n, .inr (.inl (zx_l w a)))) ∧ w.1 (a + 2) = some (.inl (0, np, .inl p0)) ∧ n ≤ 24 ∧ (np ≤ 24 ∧ z + 60 ≤ b ∧ b + 2 < w.2.1 ∧ (∃ x0 x1 x3 x4, w.1 b = some (.inr (4, [x0, x1, .ref (b + 1), x3, x4]))) ∧ w.1 (b + 1) = some (.inl (1, np, .inr (.inl (zx_l w b))))) ∧ 1 ≤ run ∧ run ≤ 9 ∧ ∀ i, i < np → p2 i = (zp_match (zx_l w b) (zx_l w a) np n run).1 i
theorem zx_rd_l (Q : zx_rd0 z w a num rf0 b n np p0 p2 run) {x m : Nat} {l : Nat → Int64} (h : w.1 (x + 1) = some (.inl (1, m, .inr (.inl l)))) : (zx_rdy w a num b np p2 (nI run)).1 (x + 1) = w.1 (x + 1) ∧ zx_l (zx_rdy w a num b np p2 (nI run)) x = zx_l w x := by
  obtain ⟨q1, q2, q3, q4, q5, -⟩ := Q
  have e : (zx_rdy w a num b np p2 (nI run)).1 (x + 1) = w.1 (x + 1) := zx_rdy_n (fun c => by rw [c, q3] at h; cases h) (fun c => by rw [c, q5] at h; cases h)
  exact ⟨e, zx_l_eq e⟩
theorem zx_rd_c (Q : zx_rd0 z w a num rf0 b n np p0 p2 run) {x : Nat} {vs : List Value} {c : Nat} (h : w.1 x = some (.inr (c, vs))) (hx : x ≠ a) : (zx_rdy w a num b np p2 (nI run)).1 x = some (.inr (c, vs)) := by
  obtain ⟨q1, q2, q3, q4, q5, -⟩ := Q
  rw [zx_rdy_n hx (fun e => by rw [e, q5] at h; cases h)]
  exact h
theorem zx_rd_obj (Q : zx_rd0 z w a num rf0 b n np p0 p2 run) {x : Nat} (B : zx_obj z w x) : zx_obj z (zx_rdy w a num b np p2 (nI run)) x := by
  obtain ⟨b1, b2, num', rf, fo, n', np', p, c1, c2, c3, c4, c5⟩ := B
  obtain ⟨l1, l2⟩ := zx_rd_l Q c2
  by_cases c : x = a
  · subst c
    obtain ⟨q1, q2, q3, q4, q5, q6, ⟨r0, r1, r2, r3, r4⟩, q8, q9, q10⟩ := id Q
    rw [q4] at c2
    obtain ⟨l3, l4⟩ := zx_rd_l Q r4
    refine ⟨q1, q2, num, nI run, some b, n, np, p2, zx_rdy_0, ?_, zx_rdy_2, q6, r0, r1, r2, ?_, ?_, Or.inr ⟨run, rfl, q8, q9, fun i hi => ?_⟩⟩
    · rw [l1, l2]
      exact q4
    · obtain ⟨x0, x1, x3, x4, e⟩ := r3
      by_cases d : b = x
      · subst d
        exact ⟨_, _, _, _, zx_rdy_0⟩
      · exact ⟨x0, x1, x3, x4, zx_rd_c Q e d⟩
    · rw [l3, l4]
      exact r4
    · rw [l4, l2]
      exact q10 i hi
  · have q3 := Q.2.2.1
    have q5 := Q.2.2.2.2.1
    refine ⟨b1, b2, num', rf, fo, n', np', p, zx_rd_c Q c1 c, ?_, ?_, c4, ?_⟩
    · rw [l1, l2]
      exact c2
    · rw [zx_rdy_n (fun e => by rw [e, q3] at c3; cases c3) (by omega)]
      exact c3
    · rw [l2]
      cases fo with
      | none => exact c5
      | some b' =>
        obtain ⟨d0, d1, d2, ⟨x0, x1, x3, x4, d3⟩, d4, d5⟩ := c5
        obtain ⟨l3, l4⟩ := zx_rd_l Q d4
        refine ⟨d0, d1, d2, ?_, ?_, ?_⟩
        · by_cases d : b' = a
          · subst d
            exact ⟨_, _, _, _, zx_rdy_0⟩
          · exact ⟨x0, x1, x3, x4, zx_rd_c Q d3 d⟩
        · rw [l3, l4]
          exact d4
        · rw [l4]
          exact d5
theorem zx_rd_doc (Q : zx_rd0 z w a num rf0 b n np p0 p2 run) {f g : Nat → Nat} {N M : Nat} {F C : Nat → Int32} {L : Nat → Int64} {T : Nat → Int32} {rdy rdy2 : Nat → Int32 → Prop} (h1 : ∀ r, r < N → f r = a → rdy2 r (nI run)) (h2 : ∀ r x, f r ≠ a → rdy r x → rdy2 r x) (B : zx_doc z w f g N M F C L T rdy) : zx_doc z (zx_rdy w a num b np p2 (nI run)) f g N M F C L T rdy2 := by
  refine ⟨B.1, B.2.1, fun r hr => ?_, fun m hm => ?_⟩
  · obtain ⟨o, rf, fo, c1, c2, c3, c4, c5⟩ := B.2.2.1 r hr
    obtain ⟨l1, l2⟩ := zx_rd_l Q c2
    by_cases c : f r = a
    · have q3 := Q.2.2.1
      have e := c1
      rw [c, q3] at e
      simp only [Option.some.injEq, Sum.inr.injEq, Prod.mk.injEq, List.cons.injEq, Value.int.injEq, and_true, true_and] at e
      obtain ⟨e1, e2, -⟩ := e
      refine ⟨zx_rd_obj Q o, nI run, fo, ?_, ?_, c3, ?_, ?_⟩
      · rw [c, zx_rdy_0, e1, e2]
      · rw [l1, l2]
        exact c2
      · rw [l2]
        exact c4
      · rcases c5 with q | ⟨d1, d2, d3, d4⟩
        · exact Or.inl q
        · exact Or.inr ⟨d1, d2, d3, h1 r hr c⟩
    · refine ⟨zx_rd_obj Q o, rf, fo, zx_rd_c Q c1 c, ?_, c3, ?_, ?_⟩
      · rw [l1, l2]
        exact c2
      · rw [l2]
        exact c4
      · rcases c5 with q | ⟨d1, d2, d3, d4⟩
        · exact Or.inl q
        · exact Or.inr ⟨d1, d2, d3, h2 r rf c d4⟩
  · obtain ⟨b1, b2, kind, a', r, p, q, an, c1, c2, c3, c4, c5, c6, c7, c8, c9, c10, c11, c12, c13⟩ := B.2.2.2 m hm
    have q3 := Q.2.2.1
    exact ⟨b1, b2, kind, a', r, p, q, an, c1, c2, c3, c4, c5, c6, c7, c8, c9, c10, c11, c12, zx_rd_c Q c13 (fun e => by rw [e, q3] at c13; cases c13)⟩
theorem zx_rd_RR (Q : zx_rd0 z w a num rf0 b n np p0 p2 run) {D : zy_D} {S : zm_S} {rdy rdy2 : Nat → Int32 → Prop} {E f g f' g' fb : Nat → Nat} {N M N' M' nb : Nat} (h1 : ∀ r, r < N → f r = a → rdy2 r (nI run)) (h2 : ∀ r x, f r ≠ a → rdy r x → rdy2 r x) (R : zx_RR z w D S rdy E f g f' g' fb N M N' M' nb) : zx_RR z (zx_rdy w a num b np p2 (nI run)) D S rdy2 E f g f' g' fb N M N' M' nb := by
  obtain ⟨r1, ⟨v1, v2, v3, v4, v5, v6, v7, v8⟩, r3, r4, r5, r6⟩ := R
  have q1 := Q.1
  have q3 := Q.2.2.1
  have q5 := Q.2.2.2.2.1
  have al : ∀ k m fn, zy_n k = false → zk_al w (z + k) (E k) m fn → zk_al (zx_rdy w a num b np p2 (nI run)) (z + k) (E k) m fn := by
    intro k m fn hk B
    have k38 := zx_n38 hk
    refine zk_al_same B (zx_rdy_n (by omega) (by omega)) (fun hne => ?_) rfl
    obtain ⟨mc, cap, g0, a1, a2, a3, a4⟩ := B
    rcases a2 with ⟨e, -⟩ | ⟨e1, e2, e3⟩
    · exact absurd e hne
    · exact zx_rdy_n (fun e => by rw [e, q3] at e2; cases e2) (fun e => by rw [e, q5] at e2; cases e2)
  exact ⟨zy_is_t r1 (fun k hk hn => zx_rdy_n (by omega) (by omega)), ⟨v1, v2, v3, al 3 _ _ rfl v4, al 4 _ _ rfl v5, al 6 _ _ rfl v6, al 7 _ _ rfl v7, al 16 _ _ rfl v8⟩, zx_rd_doc Q h1 h2 r3, zx_rd_doc Q (fun _ _ _ => trivial) (fun _ _ _ _ => trivial) r4, r5, r6⟩
end ZR
/-- the class makes a revision of its own ready -/
theorem zs_ready {z : Nat} {w : zc_H} {D : zy_D} {S : zm_S} {rdy : Nat → Int32 → Prop} {E f g f' g' fb : Nat → Nat} {N M N' M' nb r run : Nat} (R : zx_RR z w D S rdy E f g f' g' fb N M N' M' nb) (hr : r < N) (hr1 : 1 ≤ run) (hr9 : run ≤ 9) : ∃ (w2 : zc_H) (D2 : zy_D), zf_X4_readyStep w (f r) (some (z + 11)) (nI run) = some w2 ∧ zx_RR z w2 D2 S (fun j x => if j = r then x = nI run else rdy j x) E f g f' g' fb N M N' M' nb ∧ zx_eqD D D2 ∧ zx_blk z w w2 ∧ w2.2 = w.2 := by
  obtain ⟨A, ⟨hz, hsz, -⟩, doc, -⟩ := id R
  have doc : zx_doc z w f g N M (S.2.1 1) (S.2.1 2) (S.2.2 3) (S.2.1 6) rdy := doc
  obtain ⟨o, rf, fo, c1, c2, c3, c4, c5⟩ := doc.2.2.1 r hr
  have is4 := zx_rev_is doc hr
  unfold zf_X4_readyStep
  rw [if_neg (not_not_intro is4), zb_gr (x := fo) c1 rfl, zo_s]
  have weak : ∀ (h : ∀ x, rdy r x → x = nI run), zx_RR z w D S (fun j x => if j = r then x = nI run else rdy j x) E f g f' g' fb N M N' M' nb := by
    intro h
    obtain ⟨r1, r2, r3, r4, r5, r6⟩ := R
    refine ⟨r1, r2, ⟨r3.1, r3.2.1, fun j hj => ?_, r3.2.2.2⟩, r4, r5, r6⟩
    obtain ⟨o, rf, fo, c1, c2, c3, c4, c5⟩ := r3.2.2.1 j hj
    refine ⟨o, rf, fo, c1, c2, c3, c4, c5.imp id (fun q => ⟨q.1, q.2.1, q.2.2.1, ?_⟩)⟩
    by_cases c : j = r
    · show (if j = r then rf = nI run else rdy j rf)
      rw [if_pos c]
      exact h rf (by rw [← c]; exact q.2.2.2)
    · show (if j = r then rf = nI run else rdy j rf)
      rw [if_neg c]
      exact q.2.2.2
  rcases c5 with ⟨d1, d2⟩ | ⟨d1, d2, d3, d4⟩
  · rw [d2, if_pos rfl]
    refine ⟨w, D, rfl, ?_, zx_eqD_refl D, zx_blk_refl z w, rfl⟩
    obtain ⟨r1, r2, r3, r4, r5, r6⟩ := R
    refine ⟨r1, r2, ⟨r3.1, r3.2.1, fun j hj => ?_, r3.2.2.2⟩, r4, r5, r6⟩
    obtain ⟨o, rf, fo, c1', c2, c3, c4, c5⟩ := r3.2.2.1 j hj
    refine ⟨o, rf, fo, c1', c2, c3, c4, c5.imp id (fun q => ⟨q.1, q.2.1, q.2.2.1, ?_⟩)⟩
    by_cases c : j = r
    · subst c
      have := q.2.1.symm.trans d1
      exact absurd this (za_ne _ (by have := doc.1; have := q.1; omega))
    · show (if j = r then rf = nI run else rdy j rf)
      rw [if_neg c]
      exact q.2.2.2
  · subst d3
    rw [if_neg (by simp), zb_gi c1 rfl, zo_s]
    by_cases c : rf = nI run
    · rw [if_pos c]
      refine ⟨w, D, rfl, ?_, zx_eqD_refl D, zx_blk_refl z w, rfl⟩
      obtain ⟨r1, r2, r3, r4, r5, r6⟩ := R
      refine ⟨r1, r2, ⟨r3.1, r3.2.1, fun j hj => ?_, r3.2.2.2⟩, r4, r5, r6⟩
      obtain ⟨o, rf', fo, c1', c2, c3, c4, c5⟩ := r3.2.2.1 j hj
      refine ⟨o, rf', fo, c1', c2, c3, c4, c5.imp id (fun q => ⟨q.1, q.2.1, q.2.2.1, ?_⟩)⟩
      by_cases cj : j = r
      · show (if j = r then rf' = nI run else rdy j rf')
        rw [if_pos cj, ← c]
        rw [cj, c1] at c1'
        simp only [Option.some.injEq, Sum.inr.injEq, Prod.mk.injEq, List.cons.injEq, Value.int.injEq, and_true, true_and] at c1'
        exact c1'.2.symm
      · show (if j = r then rf' = nI run else rdy j rf')
        rw [if_neg cj]
        exact q.2.2.2
    rw [if_neg c, zo_s, zo_s]
    -- the revision's object, and its former's
    obtain ⟨b1, b2, num, rf', fo', n, np, p0, e1, e2, e3, e4, e5⟩ := o
    rw [c1] at e1
    simp only [Option.some.injEq, Sum.inr.injEq, Prod.mk.injEq, List.cons.injEq, Value.int.injEq, and_true, true_and] at e1
    obtain ⟨e6, e7, e8⟩ := e1
    subst e6
    subst e8
    cases fo' with
    | none => simp [va_rf] at e7
    | some b =>
      simp only [va_rf, Value.ref.injEq] at e7
      subst e7
      obtain ⟨g0, g1, g2, g3, g4, g5⟩ := e5
      have RB : zk_rv w (f r) (f r + 1) n (zx_l w (f r)) := ⟨⟨_, _, _, _, c1⟩, e2, by omega⟩
      have RA : zk_rv w (f (zx_k (S.2.1 1) r)) (f (zx_k (S.2.1 1) r) + 1) np (zx_l w (f (zx_k (S.2.1 1) r))) := ⟨g3, g4, by omega⟩
      obtain ⟨cm, P, m1, m2⟩ := zs_match A hz RA RB g1 (by omega) b1 (by omega) g0 e4 hr9 hr1
      rw [m1, zo_s]
      obtain ⟨p2, l1, l2⟩ := zs_rdyL (cm := cm) (P := P) (run := nI run) hz b1 c1 g0 np 2000 0 p0 (by omega) (by omega) (fun i hi => absurd hi (Nat.not_lt_zero i))
      rw [zf_upself e3] at l1
      rw [show (0 : Int32) = nI 0 by decide, l1, zo_s]
      have ca : (zk_m (zf_up w (f r + 2) (.inl (0, np, .inl p2))) (z + 11) cm P).1 (f r) = some (.inr (4, [.int (nI r), va_rf (some (f (zx_k (S.2.1 1) r))), .ref (f r + 1), .ref (f r + 2), .int rf])) := by rw [zk_mn (Or.inr (by omega)), zb_upn (by omega)]; exact c1
      rw [zb_p ca (Nat.le_of_ble_eq_true rfl), zo_s, zk_m_up (Or.inr (by omega))]
      have Q : zx_rd0 z w (f r) (nI r) rf (f (zx_k (S.2.1 1) r)) n np p0 p2 run := ⟨b1, b2, c1, e2, e3, e4, ⟨g0, g1, g2, g3, g4⟩, hr1, hr9, fun i hi => by rw [l2 i hi]; exact (m2.1 i (by omega)).1⟩
      have R2 := zx_rd_RR Q (rdy2 := fun j x => if j = r then x = nI run else rdy j x) (fun j hj e => by rw [if_pos (zx_inj doc hj hr e)]) (fun j x hj h => by rw [if_neg (fun e => hj (by rw [e]))]; exact h) R
      have R3 := zx_RR_m R2 (zx_eqS_refl S) cm P
      exact ⟨_, _, rfl, R3, zy_M_eq D cm P, fun x h1 h2 => (zx_m_blk z _ cm P x h1 h2).trans (zx_rdy_n (by omega) (by omega)), rfl⟩
