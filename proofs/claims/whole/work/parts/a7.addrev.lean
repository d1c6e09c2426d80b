/-! addRevision -/
section ZV
variable {z : Nat} {w : zc_H} {D : zy_D} {S S2 : zm_S} {E f g f' g' fb : Nat → Nat} {N M N' M' nb run n : Nat} {L : Nat → Int64}
theorem zs_addRev (R : zx_RR z w D S (fun _ x => x = nI run) E f g f' g' fb N M N' M' nb) (hrun : S2.2.1 7 0 = nI run) (hr1 : 1 ≤ run) (hr9 : run ≤ 9) (hN : N < 16) (V : zy_dr D n L) (ko : Option Nat) (hko : ∀ k, ko = some k → k < N) (hS : zx_eqN S S2 N) (h1 : S2.2.1 1 N = zq_f1 ko) (h2 : S2.2.1 2 N = nI n) (h3 : ∀ i, i < n → L i = S2.2.2 3 (24 * N + i) ∧ ¬ L i = 0) : ∃ (w2 : zc_H) (D2 : zy_D) (E2 : Nat → Nat), zf_X9_addRevision w z (ko.map f) = some (w2, some w.2.1) ∧ zx_RR z w2 D2 S2 (fun _ x => x = nI run) E2 (va_up f N w.2.1) g f' g' fb (N + 1) M N' M' nb ∧ zx_blk z w w2 := by
  obtain ⟨A, ⟨hz, hsz, hE, al3, al4, -⟩, docd, -⟩ := id R
  have doc : zx_doc z w f g N M (S.2.1 1) (S.2.1 2) (S.2.2 3) (S.2.1 6) (fun _ x => x = nI run) := docd
  have hn := V.2.1
  -- the new object
  obtain ⟨n1, n2, n3, n4⟩ := zn_new w (.inr (4, [.int 0, .null, .null, .null, .int 0]))
  generalize hw1 : zf_new w (.inr (4, [.int 0, .null, .null, .null, .int 0])) = w1 at n1 n2 n3 n4
  have R1 := zx_RR_ext (w2 := w1) (fun y hy => n4 y (by omega)) (by omega) n3 R
  obtain ⟨A1, ⟨hz1, hsz1, -, al31, -⟩, -⟩ := id R1
  -- its lines
  obtain ⟨w2, l, s1, s2, s3, s4, s5, s6⟩ := zs_sofar A1 hz1 hsz1 V
  rw [n2] at s1 s2 s3 s5
  have o2 : w2.1 w.2.1 = some (.inr (4, [.int 0, .null, .null, .null, .int 0])) := by
    rw [s5 _ (by omega)]
    exact n1
  -- it is filled
  have fo : ∃ np, match ko.map f with
      | none => np = 0
      | some b => b ≠ w.2.1 ∧ b + 1 ≠ w.2.1 ∧ b + 1 ≠ w2.2.2 ∧ np ≤ 24 ∧ ∃ y0 y1 y3 y4 x, w2.1 b = some (.inr (4, [y0, y1, .ref (b + 1), y3, y4])) ∧ w2.1 (b + 1) = some (.inl (1, np, x)) := by
    cases ko with
    | none => exact ⟨0, rfl⟩
    | some k =>
      obtain ⟨o, rf, fo, c1, c2, -⟩ := doc.2.2.1 k (hko k rfl)
      have o1 := o.1
      have o21 := o.2.1
      have h24 := zx_n24 (S.2.1 2) k
      have t1 : w2.1 (f k) = w.1 (f k) := by rw [s5 _ (by omega), n4 _ (by omega)]
      have t2 : w2.1 (f k + 1) = w.1 (f k + 1) := by rw [s5 _ (by omega), n4 _ (by omega)]
      exact ⟨zx_n (S.2.1 2) k, by omega, by omega, by rw [s4, n3]; omega, h24, _, _, _, _, _, by rw [t1]; exact c1, by rw [t2]; exact c2⟩
  obtain ⟨np, hnp⟩ := fo
  obtain ⟨w3, i1, i2, i3, i4, i5, i6⟩ := zs_init4 (num := nI N) o2 (by omega) hnp
  rw [s3] at i2 i3 i4 i6
  have R3 := zx_RR_ext (w2 := w3) (fun y hy => by rw [i6 _ (by omega) (by omega), s5 _ (by omega), n4 _ (by omega)]) (by omega) (by rw [i5, s4, n3]) R
  obtain ⟨A3, ⟨hz3, hsz3, hE3, al33, al43, al63, al73, alb3⟩, doc3d, -⟩ := id R3
  have doc3 : zx_doc z w3 f g N M (S.2.1 1) (S.2.1 2) (S.2.2 3) (S.2.1 6) (fun _ x => x = nI run) := doc3d
  have is3 : zf_is w3 w.2.1 4 = true := Decidable.not_not.mp (zb_is i2)
  -- it joins the list
  obtain ⟨w4, e2, a1, a2, a3, -⟩ := zx_fr_add (x := w.2.1) hE3 (k := 3) rfl hz3 hsz3 (zx_fr_refl _ _ _) al33 (by omega) (Or.inl is3) (by omega) (fun i hi => Or.inl (zx_rev_is doc3 hi))
  obtain ⟨b1, b2, b3, b4, b5, b6, b7⟩ := zx_V_fr (k := 3) rfl R3.2.1 al33 a3
  have c0 : w4.1 w.2.1 = some (.inr (4, [.int (nI N), va_rf (ko.map f), .ref (w.2.1 + 1), .ref (w.2.1 + 2), .int 0])) := b4.2.2 _ _ (by omega) (by omega) i2 (fun a h => by cases h)
  have c1 : w4.1 (w.2.1 + 1) = some (.inl (1, n, .inr (.inl l))) := b4.2.2 _ _ (by omega) (by omega) (by rw [i6 _ (by omega) (by omega)]; exact s2) (fun a h => by cases h)
  have c2 : w4.1 (w.2.1 + 2) = some (.inl (0, np, .inl (fun _ => 0))) := b4.2.2 _ _ (by omega) (by omega) i3 (fun a h => by cases h)
  have zl : zx_l w4 w.2.1 = l := zx_l_of c1
  have kp4 : zx_kp z w w4 := zx_kp_trans (zx_kp_ext (w2 := w3) (fun y hy => by rw [i6 _ (by omega) (by omega), s5 _ (by omega), n4 _ (by omega)]) (by omega) (by rw [i5, s4, n3])) b4
  have hs4 := b4.1
  -- the document
  have R3N := zx_RR_N hS R3
  have d4 : zx_doc z w4 f g N M (S2.2.1 1) (S2.2.1 2) (S2.2.2 3) (S2.2.1 6) (fun j x => j < N → x = nI run) := zx_doc_c (fun _ _ => rfl) (fun _ _ => rfl) (fun _ _ _ _ => rfl) (fun _ _ _ _ => rfl) (fun _ _ _ h _ => h) (zx_doc_t b4 R3N.2.2.1)
  have nn : zx_n (S2.2.1 2) N = n := zx_n_of h2 hn
  have rev : zx_rev z w4 (va_up f N w.2.1) (S2.2.1 1) (S2.2.1 2) (S2.2.2 3) (fun x => N < N → x = nI run) N := by
    unfold zx_rev
    rw [va_up_self, nn, zl]
    refine ⟨⟨by omega, by omega, nI N, 0, ko.map f, n, np, _, c0, by rw [zl]; exact c1, c2, hn, ?_⟩, 0, ko.map f, c0, c1, h2, fun i hi => ?_, ?_⟩
    · cases ko with
      | none => exact hnp
      | some k =>
        obtain ⟨o, rf, fo, e1, e2, -⟩ := (zx_doc_t kp4 doc).2.2.1 k (hko k rfl)
        obtain ⟨-, -, -, m4, y0, y1, y3, y4, x, m5, m6⟩ := hnp
        have m7 := b4.2.2 _ _ (show z + 60 ≤ f k + 1 by have := o.1; omega) (by
          have := (doc.2.2.1 k (hko k rfl)).1.2.1
          omega) (show w3.1 (f k + 1) = some (.inl (1, np, x)) by
          have := (doc.2.2.1 k (hko k rfl)).1.2.1
          rw [i6 _ (by omega) (by omega)]
          exact m6) (fun a h => by cases h)
        rw [e2] at m7
        simp only [Option.some.injEq, Sum.inl.injEq, Prod.mk.injEq, true_and] at m7
        have m8 := m7.1
        exact ⟨m4, o.1, o.2.1, ⟨_, _, _, _, e1⟩, by rw [← m8]; exact e2, Or.inl rfl⟩
    · rw [s6 i hi]
      exact h3 i hi
    · cases ko with
      | none => exact Or.inl ⟨h1, rfl⟩
      | some k =>
        have hk := hko k rfl
        have ek : zx_k (S2.2.1 1) N = k := zx_k_of h1 (by omega)
        rw [ek]
        exact Or.inr ⟨hk, h1, by rw [va_up_ne _ _ (by omega)]; rfl, fun h => absurd h (by omega)⟩
  have d5 := zx_doc_addr hN d4 rev
  have R4 : zx_RR z w4 D S2 (fun j x => j < N → x = nI run) (va_up E 3 e2) (va_up f N w.2.1) g f' g' fb (N + 1) M N' M' nb := ⟨b6 D A3, ⟨b1, b2, b3, by rw [va_up_self]; exact a2, b7 4 _ _ rfl (by decide) al43, b7 6 _ _ rfl (by decide) al63, b7 7 _ _ rfl (by decide) al73, b7 16 _ _ rfl (by decide) alb3⟩, d5, zx_doc_t b4 R3N.2.2.2.1, R3N.2.2.2.2.1, R3N.2.2.2.2.2⟩
  -- its places
  obtain ⟨w5, D5, q1, q2, q3, q4, q5⟩ := zs_ready (r := N) (run := run) R4 (by omega) hr1 hr9
  rw [va_up_self] at q1
  refine ⟨w5, D5, va_up E 3 e2, ?_, zx_RR_rdy (fun r x hr h => ?_) q2, ?_⟩
  · have A4 := b6 D A3
    have r3 : D.1 2 3 = nI run := by
      have := R3N.2.2.2.2.1.2.2.1
      rw [this, hrun]
    have A2 : zy_is z D w2 := zy_is_t A1 (fun k hk _ => s5 _ (by omega))
    unfold zf_X9_addRevision
    rw [if_neg (zy_is0 A), hw1, zo_s, zy_r0_1 A1, zo_s, zo_s, zy_r2_0 A1, zo_s, zo_s, zk_al_size al31, zo_s, zy_r0_6 A1, zo_s, zo_s, s1, zo_s, i1, zo_s, zy_r0_1 A3, zo_s, zo_s, zy_r2_0 A3, zo_s, zo_s, a1, zo_s, zy_r0_7 A4, zo_s, zy_r0_1 A4, zo_s, zo_s, zy_g2_3 A4, zo_s, r3, q1, zo_s]
  · by_cases y : r = N
    · rw [if_pos y] at h
      exact h
    · rw [if_neg y] at h
      exact h (by omega)
  · have bl3 : zx_blk z w w3 := fun y h1 h2 => by rw [i6 _ (by omega) (by omega), s5 _ (by omega), n4 _ (by omega)]
    exact zx_blk_trans bl3 (zx_blk_trans b5 q4)
end ZV
