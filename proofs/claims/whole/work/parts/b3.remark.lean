/-! a remark is added: remark -/
theorem zs_init3 {w : zc_H} {b : Nat} {v0 v1 v2 v3 v4 v5 : Value} (h : w.1 b = some (.inr (3, [v0, v1, v2, v3, v4, v5]))) (x1 x2 x3 : Int32) (x4 : Option Nat) (x5 x6 : Int32) : zf_X3_init w b x1 x2 x3 x4 x5 x6 = some (zf_up w b (.inr (3, [.int x1, .int x2, .int x3, va_rf x4, .int x5, .int x6]))) := by
  have p0 : zf_p w b 3 0 (.int x1) = some (zf_up w b (.inr (3, [.int x1, v1, v2, v3, v4, v5]))) := zb_p h (by simp)
  have p1 : zf_p (zf_up w b (.inr (3, [.int x1, v1, v2, v3, v4, v5]))) b 3 1 (.int x2) = some (zf_up (zf_up w b (.inr (3, [.int x1, v1, v2, v3, v4, v5]))) b (.inr (3, [.int x1, .int x2, v2, v3, v4, v5]))) := zb_p (zb_up _ _ _) (by simp)
  have p2 : zf_p (zf_up w b (.inr (3, [.int x1, .int x2, v2, v3, v4, v5]))) b 3 2 (.int x3) = some (zf_up (zf_up w b (.inr (3, [.int x1, .int x2, v2, v3, v4, v5]))) b (.inr (3, [.int x1, .int x2, .int x3, v3, v4, v5]))) := zb_p (zb_up _ _ _) (by simp)
  have p3 : zf_p (zf_up w b (.inr (3, [.int x1, .int x2, .int x3, v3, v4, v5]))) b 3 3 (va_rf x4) = some (zf_up (zf_up w b (.inr (3, [.int x1, .int x2, .int x3, v3, v4, v5]))) b (.inr (3, [.int x1, .int x2, .int x3, va_rf x4, v4, v5]))) := zb_p (zb_up _ _ _) (by simp)
  have p4 : zf_p (zf_up w b (.inr (3, [.int x1, .int x2, .int x3, va_rf x4, v4, v5]))) b 3 4 (.int x5) = some (zf_up (zf_up w b (.inr (3, [.int x1, .int x2, .int x3, va_rf x4, v4, v5]))) b (.inr (3, [.int x1, .int x2, .int x3, va_rf x4, .int x5, v5]))) := zb_p (zb_up _ _ _) (by simp)
  have p5 : zf_p (zf_up w b (.inr (3, [.int x1, .int x2, .int x3, va_rf x4, .int x5, v5]))) b 3 5 (.int x6) = some (zf_up (zf_up w b (.inr (3, [.int x1, .int x2, .int x3, va_rf x4, .int x5, v5]))) b (.inr (3, [.int x1, .int x2, .int x3, va_rf x4, .int x5, .int x6]))) := zb_p (zb_up _ _ _) (by simp)
  unfold zf_X3_init
  rw [if_neg (zb_is h), p0, zo_s, p1, zo_s, zf_upup, p2, zo_s, zf_upup, p3, zo_s, zf_upup, p4, zo_s, zf_upup, p5, zo_s, zf_upup]
/-- the reference's rows of remarks, with one more -/
def zx_T2 (T : Nat → Int32) (M : Nat) (x1 x2 x3 x4 x5 x6 : Int32) : Nat → Int32 := va_up (va_up (va_up (va_up (va_up (va_up (va_up T M x1) (16 + M) x2) (32 + M) x3) (48 + M) x4) (64 + M) x5) (80 + M) x6) (96 + M) 0
theorem zx_T2_old {T : Nat → Int32} {M : Nat} {x1 x2 x3 x4 x5 x6 : Int32} {k m : Nat} (hM : M < 16) (hm : m < M) : zx_T2 T M x1 x2 x3 x4 x5 x6 (16 * k + m) = T (16 * k + m) := by
  unfold zx_T2
  rw [va_up_ne _ _ (by omega), va_up_ne _ _ (by omega), va_up_ne _ _ (by omega), va_up_ne _ _ (by omega), va_up_ne _ _ (by omega), va_up_ne _ _ (by omega), va_up_ne _ _ (by omega)]
theorem zx_T2_new {T : Nat → Int32} {M : Nat} {x1 x2 x3 x4 x5 x6 : Int32} (hM : M < 16) : zx_T2 T M x1 x2 x3 x4 x5 x6 M = x1 ∧ zx_T2 T M x1 x2 x3 x4 x5 x6 (16 + M) = x2 ∧ zx_T2 T M x1 x2 x3 x4 x5 x6 (32 + M) = x3 ∧ zx_T2 T M x1 x2 x3 x4 x5 x6 (48 + M) = x4 ∧ zx_T2 T M x1 x2 x3 x4 x5 x6 (64 + M) = x5 ∧ zx_T2 T M x1 x2 x3 x4 x5 x6 (80 + M) = x6 ∧ zx_T2 T M x1 x2 x3 x4 x5 x6 (96 + M) = 0 := by
  unfold zx_T2
  refine ⟨?_, ?_, ?_, ?_, ?_, ?_, ?_⟩
  · rw [va_up_ne _ _ (by omega), va_up_ne _ _ (by omega), va_up_ne _ _ (by omega), va_up_ne _ _ (by omega), va_up_ne _ _ (by omega), va_up_ne _ _ (by omega), va_up_self]
  · rw [va_up_ne _ _ (by omega), va_up_ne _ _ (by omega), va_up_ne _ _ (by omega), va_up_ne _ _ (by omega), va_up_ne _ _ (by omega), va_up_self]
  · rw [va_up_ne _ _ (by omega), va_up_ne _ _ (by omega), va_up_ne _ _ (by omega), va_up_ne _ _ (by omega), va_up_self]
  · rw [va_up_ne _ _ (by omega), va_up_ne _ _ (by omega), va_up_ne _ _ (by omega), va_up_self]
  · rw [va_up_ne _ _ (by omega), va_up_ne _ _ (by omega), va_up_self]
  · rw [va_up_ne _ _ (by omega), va_up_self]
  · rw [va_up_self]
theorem zr_newRem {S : zm_S} {M : Nat} (h5 : S.1 5 = nI M) (hM : M < 16) (x1 x2 x3 x4 x5 x6 : Int32) : zg_X10_newRemark S x1 x2 x3 x4 x5 x6 = some (zg_p (zx_SA S 6 (zx_T2 (S.2.1 6) M x1 x2 x3 x4 x5 x6)) 5 (nI (M + 1)), nI M) := by
  have s5 : ∀ k c, (zx_SA S k c).1 5 = nI M := fun _ _ => h5
  unfold zg_X10_newRemark
  rw [h5, zx_si (by omega) (by decide), zo_s, s5, show (16 : Int32) = nI 16 from rfl, za_add, zx_si (by omega) (by decide), zo_s, zx_SAa, zx_SAA, s5, show (32 : Int32) = nI 32 from rfl, za_add, zx_si (by omega) (by decide), zo_s, zx_SAa, zx_SAA, s5, show (48 : Int32) = nI 48 from rfl, za_add, zx_si (by omega) (by decide), zo_s, zx_SAa, zx_SAA, s5, show (64 : Int32) = nI 64 from rfl, za_add, zx_si (by omega) (by decide), zo_s, zx_SAa, zx_SAA, s5, show (80 : Int32) = nI 80 from rfl, za_add, zx_si (by omega) (by decide), zo_s, zx_SAa, zx_SAA, s5, show (96 : Int32) = nI 96 from rfl, za_add, zx_si (by omega) (by decide), zo_s, zx_SAa, zx_SAA, s5, zo_s, ← nI_succ]
  rfl
section ZV
variable {z : Nat} {w : zc_H} {D : zy_D} {S : zm_S} {E f g f' g' fb : Nat → Nat} {N M N' M' nb : Nat}
/-- both sides add a remark -/
theorem zx_addRem {rdy : Nat → Int32 → Prop} (R : zx_RR z w D S rdy E f g f' g' fb N M N' M' nb) (hM : M < 16) {kind a r p q : Nat} {an : Int32} (hk : kind < 7) (ha : a ≤ 9) (hr : r < N) (hp : p ≤ q) (hq : q < zx_n (S.2.1 2) r) (han : an = -1 ∨ ∃ k, k < M ∧ an = nI k) {u : zc_H} (u1 : ∀ y, y < w.2.1 → u.1 y = w.1 y) (u2 : u.2.1 = w.2.1 + 1) (u3 : u.2.2 = w.2.2) (u4 : u.1 w.2.1 = some (.inr (3, [.int (nI M), .int (nI kind), .int (nI a), .ref (f r), .int (nI (32 * p + q)), .int an]))) : ∃ (w2 : zc_H) (E2 : Nat → Nat), zf_Jx4a65c_add_9ea2d u (z + 4) (some w.2.1) = some (w2, 1) ∧ zx_RR z w2 D (zg_p (zx_SA S 6 (zx_T2 (S.2.1 6) M (nI kind) (nI a) (nI r) (nI p) (nI q) an)) 5 (nI (M + 1))) rdy E2 f (va_up g M w.2.1) f' g' fb N (M + 1) N' M' nb ∧ zx_blk z w w2 := by
  have R1 := zx_RR_ext (w2 := u) u1 (by omega) u3 R
  obtain ⟨A1, ⟨hz1, hsz1, hE1, al31, al41, al61, al71, alb1⟩, d1d, d2, ds, im⟩ := id R1
  have hsz := R.2.1.2.1
  have d1 : zx_doc z u f g N M (S.2.1 1) (S.2.1 2) (S.2.2 3) (S.2.1 6) rdy := d1d
  have is3 : zf_is u w.2.1 3 = true := Decidable.not_not.mp (zb_is u4)
  obtain ⟨w4, e2, a1, a2, a3, -⟩ := zx_fr_add (x := w.2.1) hE1 (k := 4) rfl hz1 hsz1 (zx_fr_refl _ _ _) al41 (by omega) (Or.inr is3) (by omega) (fun i hi => Or.inr (zx_rem_e d1 hi))
  obtain ⟨b1, b2, b3, b4, b5, b6, b7⟩ := zx_V_fr (k := 4) rfl R1.2.1 al41 a3
  have c0 := b4.2.2 _ _ (show z + 60 ≤ w.2.1 by omega) (by omega) u4 (fun a h => by cases h)
  have hs4 := b4.1
  have p1 : ∀ j, j ≠ 5 → (zg_p (zx_SA S 6 (zx_T2 (S.2.1 6) M (nI kind) (nI a) (nI r) (nI p) (nI q) an)) 5 (nI (M + 1))).1 j = S.1 j := fun j h => zg_pn h
  have q1 : ∀ j, j ≠ 6 → (zg_p (zx_SA S 6 (zx_T2 (S.2.1 6) M (nI kind) (nI a) (nI r) (nI p) (nI q) an)) 5 (nI (M + 1))).2.1 j = S.2.1 j := fun j h => zx_SAn S _ h
  have q6 : (zg_p (zx_SA S 6 (zx_T2 (S.2.1 6) M (nI kind) (nI a) (nI r) (nI p) (nI q) an)) 5 (nI (M + 1))).2.1 6 = zx_T2 (S.2.1 6) M (nI kind) (nI a) (nI r) (nI p) (nI q) an := zx_SAa
  have q3 : (zg_p (zx_SA S 6 (zx_T2 (S.2.1 6) M (nI kind) (nI a) (nI r) (nI p) (nI q) an)) 5 (nI (M + 1))).2.2 = S.2.2 := rfl
  generalize zg_p (zx_SA S 6 (zx_T2 (S.2.1 6) M (nI kind) (nI a) (nI r) (nI p) (nI q) an)) 5 (nI (M + 1)) = S2 at p1 q1 q6 q3 ⊢
  obtain ⟨n1, n2, n3, n4, n5, n6, n7⟩ := zx_T2_new (T := S.2.1 6) (x1 := nI kind) (x2 := nI a) (x3 := nI r) (x4 := nI p) (x5 := nI q) (x6 := an) hM
  refine ⟨w4, va_up E 4 e2, a1, ⟨b6 D A1, ⟨b1, b2, b3, b7 3 _ _ rfl (by decide) al31, by rw [va_up_self]; exact a2, b7 6 _ _ rfl (by decide) al61, b7 7 _ _ rfl (by decide) al71, b7 16 _ _ rfl (by decide) alb1⟩, ?_, ?_, ?_, ?_⟩, ?_⟩
  · have t0 := zx_doc_t b4 d1
    have t1 : zx_doc z w4 f g N M (S2.2.1 1) (S2.2.1 2) (S2.2.2 3) (S2.2.1 6) rdy := zx_doc_c (fun r _ => by rw [q1 1 (by decide)]) (fun r _ => by rw [q1 2 (by decide)]) (fun r _ i _ => by rw [q3]) (fun k m _ hm => by rw [q6]; exact zx_T2_old hM hm) (fun _ _ _ h => h) t0
    refine zx_doc_addm hM t1 ?_
    unfold zx_rem
    rw [va_up_self, q6, q1 2 (by decide)]
    exact ⟨by omega, by omega, kind, a, r, p, q, an, hk, ha, hr, hp, hq, n1, n2, n3, n4, n5, n6, han, c0⟩
  · have := zx_doc_t b4 d2
    unfold zx_d2
    rw [q1 18 (by decide), q1 19 (by decide), q1 22 (by decide), q3]
    exact this
  · obtain ⟨x1, x2, x3, x4, x5, x6, x7, x8⟩ := ds
    refine ⟨by rw [p1 16 (by decide)]; exact x1, by rw [p1 12 (by decide)]; exact x2, by rw [q1 7 (by decide)]; exact x3, by rw [q1 7 (by decide)]; exact x4, by rw [q1 7 (by decide)]; exact x5, by rw [p1 8 (by decide)]; exact x6, ?_, ?_⟩
    · rw [q6]
      intro i
      obtain ⟨y1, y2⟩ := x7 i
      refine ⟨fun hi => ?_, fun hi => y2 (by omega)⟩
      by_cases e : i = M
      · subst e
        rw [n7, y2 (Nat.le_refl _), if_neg (by decide)]
      · rw [show 96 + i = 16 * 6 + i by omega, zx_T2_old hM (by omega)]
        exact y1 (by omega)
    · unfold zx_sh at x8 ⊢
      rw [p1 13 (by decide), q1 15 (by decide), q1 14 (by decide), q1 9 (by decide), q1 10 (by decide), q3]
      exact x8
  · unfold zx_im at im ⊢
    rw [p1 16 (by decide), p1 17 (by decide), p1 21 (by decide), p1 24 (by decide), q1 22 (by decide), q1 23 (by decide)]
    exact im
  · exact zx_blk_trans (fun y h1 h2 => u1 y (by omega)) b5
theorem zx_s_rem {T : Nat → Int32} (zs : zx_s S N M) : zx_s (zg_p (zx_SA S 6 T) 5 (nI (M + 1))) N (M + 1) := by
  obtain ⟨b1, b2, b3, b4, b5, b6, b7⟩ := zs
  have p1 : ∀ j, j ≠ 5 → (zg_p (zx_SA S 6 T) 5 (nI (M + 1))).1 j = S.1 j := fun j h => zg_pn h
  have q1 : ∀ j, j ≠ 6 → (zg_p (zx_SA S 6 T) 5 (nI (M + 1))).2.1 j = S.2.1 j := fun j h => zx_SAn S _ h
  refine ⟨by rw [p1 0 (by decide)]; exact b1, zg_pp, by rw [q1 7 (by decide)]; exact b3, zx_co_eq (q1 1 (by decide)) (q1 2 (by decide)) rfl (q1 4 (by decide)) (by rw [q1 7 (by decide)]) b4, by rw [p1 13 (by decide)]; exact b5, fun s hs => ?_, by rw [q1 10 (by decide)]; exact b7⟩
  rw [q1 9 (by decide)]
  rcases b6 s hs with h | ⟨m, hm, h⟩ | h
  · exact Or.inl h
  · exact Or.inr (Or.inl ⟨m, by omega, h⟩)
  · exact Or.inr (Or.inr h)
end ZV
