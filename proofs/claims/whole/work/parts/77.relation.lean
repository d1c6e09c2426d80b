/-! the class and the reference hold the same: revisions, remarks, lists -/
def zx_n (C : Nat → Int32) (r : Nat) : Nat := min 24 (C r).toNatClampNeg
def zx_k (F : Nat → Int32) (r : Nat) : Nat := (F r).toNatClampNeg
theorem zx_n24 (C : Nat → Int32) (r : Nat) : zx_n C r ≤ 24 := Nat.min_le_left _ _
theorem zx_n_of {C : Nat → Int32} {r n : Nat} (h : C r = nI n) (hn : n ≤ 24) : zx_n C r = n := by
  unfold zx_n
  rw [h, nI_clamp (by omega)]
  omega
theorem zx_k_of {F : Nat → Int32} {r k : Nat} (h : F r = nI k) (hk : k < 2 ^ 31) : zx_k F r = k := by
  unfold zx_k
  rw [h, nI_clamp hk]
/-- the lines of a revision's object -/
def zx_l (h : zc_H) (a : Nat) : Nat → Int64 := match h.1 (a + 1) with
  | some (.inl (_, _, .inr (.inl l))) => l
  | _ => fun _ => 0
theorem zx_l_of {h : zc_H} {a n : Nat} {l : Nat → Int64} (e : h.1 (a + 1) = some (.inl (1, n, .inr (.inl l)))) : zx_l h a = l := by
  unfold zx_l
  rw [e]
theorem zx_l_eq {h h2 : zc_H} {a : Nat} (e : h2.1 (a + 1) = h.1 (a + 1)) : zx_l h2 a = zx_l h a := by
  unfold zx_l
  rw [e]
/-- what a revision's places are -/
def zx_plc (z : Nat) (h : zc_H) (fo : Option Nat) (ln : Nat → Int64) (n np : Nat) (rf : Int32) (p : Nat → Int32) : Prop := match fo with
  | none => np = 0
  | some b => np ≤ 24 ∧ z + 60 ≤ b ∧ b + 2 < h.2.1 ∧ (∃ x0 x1 x3 x4, h.1 b = some (.inr (4, [x0, x1, .ref (b + 1), x3, x4]))) ∧ h.1 (b + 1) = some (.inl (1, np, .inr (.inl (zx_l h b)))) ∧ (rf = 0 ∨ ∃ run, rf = nI run ∧ 1 ≤ run ∧ run ≤ 9 ∧ ∀ i, i < np → p i = (zp_match (zx_l h b) ln np n run).1 i)
/-- a revision's object -/
def zx_obj (z : Nat) (h : zc_H) (a : Nat) : Prop := z + 60 ≤ a ∧ a + 2 < h.2.1 ∧ ∃ (num rf : Int32) (fo : Option Nat) (n np : Nat) (p : Nat → Int32), h.1 a = some (.inr (4, [.int num, va_rf fo, .ref (a + 1), .ref (a + 2), .int rf])) ∧ h.1 (a + 1) = some (.inl (1, n, .inr (.inl (zx_l h a)))) ∧ h.1 (a + 2) = some (.inl (0, np, .inl p)) ∧ n ≤ 24 ∧ zx_plc z h fo (zx_l h a) n np rf p
/-- revision r of the reference, and its object -/
def zx_rev (z : Nat) (h : zc_H) (f : Nat → Nat) (F C : Nat → Int32) (L : Nat → Int64) (rdy : Int32 → Prop) (r : Nat) : Prop := zx_obj z h (f r) ∧ ∃ (rf : Int32) (fo : Option Nat), h.1 (f r) = some (.inr (4, [.int (nI r), va_rf fo, .ref (f r + 1), .ref (f r + 2), .int rf])) ∧ h.1 (f r + 1) = some (.inl (1, zx_n C r, .inr (.inl (zx_l h (f r))))) ∧ C r = nI (zx_n C r) ∧ (∀ i, i < zx_n C r → zx_l h (f r) i = L (24 * r + i) ∧ ¬ zx_l h (f r) i = 0) ∧ ((F r = -1 ∧ fo = none) ∨ (zx_k F r < r ∧ F r = nI (zx_k F r) ∧ fo = some (f (zx_k F r)) ∧ rdy rf))
/-- remark m of the reference, and its object -/
def zx_rem (z : Nat) (h : zc_H) (f g : Nat → Nat) (N : Nat) (C : Nat → Int32) (T : Nat → Int32) (m : Nat) : Prop := z + 60 ≤ g m ∧ g m < h.2.1 ∧ ∃ (kind a r p q : Nat) (an : Int32), kind < 7 ∧ a ≤ 9 ∧ r < N ∧ p ≤ q ∧ q < zx_n C r ∧ T m = nI kind ∧ T (16 + m) = nI a ∧ T (32 + m) = nI r ∧ T (48 + m) = nI p ∧ T (64 + m) = nI q ∧ T (80 + m) = an ∧ (an = -1 ∨ ∃ k, k < m ∧ an = nI k) ∧ h.1 (g m) = some (.inr (3, [.int (nI m), .int (nI kind), .int (nI a), .ref (f r), .int (nI (32 * p + q)), .int an]))
def zx_doc (z : Nat) (h : zc_H) (f g : Nat → Nat) (N M : Nat) (F C : Nat → Int32) (L : Nat → Int64) (T : Nat → Int32) (rdy : Nat → Int32 → Prop) : Prop := N ≤ 16 ∧ M ≤ 16 ∧ (∀ r, r < N → zx_rev z h f F C L (rdy r) r) ∧ (∀ m, m < M → zx_rem z h f g N C T m)
/-- objects stay -/
def zx_kp (z : Nat) (h h2 : zc_H) : Prop := h.2.1 ≤ h2.2.1 ∧ h2.2.2 = h.2.2 ∧ ∀ y c, z + 60 ≤ y → y < h.2.1 → h.1 y = some c → (∀ a, c ≠ .inl (4, a)) → h2.1 y = some c
theorem zx_kp_refl (z : Nat) (h : zc_H) : zx_kp z h h := ⟨Nat.le_refl _, rfl, fun _ _ _ _ e _ => e⟩
theorem zx_kp_trans {z : Nat} {h h2 h3 : zc_H} (A : zx_kp z h h2) (B : zx_kp z h2 h3) : zx_kp z h h3 := ⟨Nat.le_trans A.1 B.1, B.2.1.trans A.2.1, fun y c h1 h4 h5 h6 => B.2.2 y c h1 (Nat.lt_of_lt_of_le h4 A.1) (A.2.2 y c h1 h4 h5 h6) h6⟩
theorem zx_kp_same {z : Nat} {h h2 : zc_H} (h1 : h2.2 = h.2) (h3 : ∀ y, z + 60 ≤ y → h2.1 y = h.1 y) : zx_kp z h h2 := ⟨by rw [h1]; exact Nat.le_refl _, by rw [h1], fun y c h4 _ h5 _ => (h3 y h4).trans h5⟩
theorem zx_kp_l {z a n : Nat} {h h2 : zc_H} {l : Nat → Int64} (A : zx_kp z h h2) (h1 : z + 60 ≤ a) (h4 : a + 2 < h.2.1) (e : h.1 (a + 1) = some (.inl (1, n, .inr (.inl l)))) : zx_l h2 a = zx_l h a := by
  rw [zx_l_of e, zx_l_of (A.2.2 _ _ (by omega) (by omega) e (fun a h => by cases h))]
theorem zx_obj_t {z a : Nat} {h h2 : zc_H} (A : zx_kp z h h2) (B : zx_obj z h a) : zx_obj z h2 a := by
  obtain ⟨b1, b2, num, rf, fo, n, np, p, c1, c2, c3, c4, c5⟩ := B
  have el := zx_kp_l A b1 b2 c2
  have hsz := A.1
  refine ⟨b1, by omega, num, rf, fo, n, np, p, A.2.2 _ _ b1 (by omega) c1 (fun a h => by cases h), ?_, A.2.2 _ _ (by omega) (by omega) c3 (fun a h => by cases h), c4, ?_⟩
  · rw [el]
    exact A.2.2 _ _ (by omega) (by omega) c2 (fun a h => by cases h)
  · rw [el]
    cases fo with
    | none => exact c5
    | some b =>
      obtain ⟨d0, d1, d2, ⟨x0, x1, x3, x4, d3⟩, d4, d5⟩ := c5
      have el2 := zx_kp_l A d1 d2 d4
      refine ⟨d0, d1, by omega, ⟨x0, x1, x3, x4, A.2.2 _ _ d1 (by omega) d3 (fun a h => by cases h)⟩, ?_, ?_⟩
      · rw [el2]
        exact A.2.2 _ _ (by omega) (by omega) d4 (fun a h => by cases h)
      · rw [el2]
        exact d5
theorem zx_rev_t {z : Nat} {h h2 : zc_H} {f : Nat → Nat} {F C : Nat → Int32} {L : Nat → Int64} {rdy : Int32 → Prop} {r : Nat} (A : zx_kp z h h2) (B : zx_rev z h f F C L rdy r) : zx_rev z h2 f F C L rdy r := by
  obtain ⟨b, rf, fo, c1, c2, c3, c4, c5⟩ := B
  have b1 := b.1
  have b2 := b.2.1
  have el := zx_kp_l A b1 b2 c2
  refine ⟨zx_obj_t A b, rf, fo, A.2.2 _ _ b1 (by omega) c1 (fun a h => by cases h), ?_, c3, ?_, c5⟩
  · rw [el]
    exact A.2.2 _ _ (by omega) (by omega) c2 (fun a h => by cases h)
  · rw [el]
    exact c4
theorem zx_rem_t {z : Nat} {h h2 : zc_H} {f g : Nat → Nat} {N : Nat} {C T : Nat → Int32} {m : Nat} (A : zx_kp z h h2) (B : zx_rem z h f g N C T m) : zx_rem z h2 f g N C T m := by
  obtain ⟨b1, b2, kind, a, r, p, q, an, c1, c2, c3, c4, c5, c6, c7, c8, c9, c10, c11, c12, c13⟩ := B
  exact ⟨b1, Nat.lt_of_lt_of_le b2 A.1, kind, a, r, p, q, an, c1, c2, c3, c4, c5, c6, c7, c8, c9, c10, c11, c12, A.2.2 _ _ b1 b2 c13 (fun a h => by cases h)⟩
theorem zx_doc_t {z : Nat} {h h2 : zc_H} {f g : Nat → Nat} {N M : Nat} {F C : Nat → Int32} {L : Nat → Int64} {T : Nat → Int32} {rdy : Nat → Int32 → Prop} (A : zx_kp z h h2) (B : zx_doc z h f g N M F C L T rdy) : zx_doc z h2 f g N M F C L T rdy := ⟨B.1, B.2.1, fun r hr => zx_rev_t A (B.2.2.1 r hr), fun m hm => zx_rem_t A (B.2.2.2 m hm)⟩
/-! lists: where their arrays lie; what stays as one changes -/
def zx_E (z : Nat) (h : zc_H) (E : Nat → Nat) : Prop := ∀ k, zy_n k = false → (E k = h.2.2 ∨ (z + 60 ≤ E k ∧ E k < h.2.1)) ∧ ∀ l, zy_n l = false → k ≠ l → E k = E l → E k = h.2.2
def zx_ls (z : Nat) (h : zc_H) (E : Nat → Nat) (f g f' g' fb : Nat → Nat) (N M N' M' nb : Nat) : Prop := zk_al h (z + 3) (E 3) N f ∧ zk_al h (z + 4) (E 4) M g ∧ zk_al h (z + 6) (E 6) N' f' ∧ zk_al h (z + 7) (E 7) M' g' ∧ zk_al h (z + 16) (E 16) nb fb
/-- the list L with its array at e has become one with its array at e2 -/
def zx_fr (L : Nat) (h : zc_H) (e : Nat) (h2 : zc_H) (e2 : Nat) : Prop := h.2.1 ≤ h2.2.1 ∧ h2.2.2 = h.2.2 ∧ (e2 = e ∨ (h.2.1 ≤ e2 ∧ e2 < h2.2.1)) ∧ ∀ y, y ≠ L → (y ≠ e ∨ e = h.2.2) → y < h.2.1 → h2.1 y = h.1 y
theorem zx_fr_refl (L : Nat) (h : zc_H) (e : Nat) : zx_fr L h e h e := ⟨Nat.le_refl _, rfl, Or.inl rfl, fun _ _ _ _ => rfl⟩
theorem zx_fr_trans {L e e2 e3 : Nat} {h h2 h3 : zc_H} (A : zx_fr L h e h2 e2) (B : zx_fr L h2 e2 h3 e3) : zx_fr L h e h3 e3 := by
  obtain ⟨a1, a2, a3, a4⟩ := A
  obtain ⟨b1, b2, b3, b4⟩ := B
  refine ⟨by omega, by rw [b2, a2], by omega, fun y h1 h4 h5 => ?_⟩
  rw [b4 y h1 ?_ (by omega), a4 y h1 h4 h5]
  rcases a3 with q | q
  · rw [q, a2]
    exact h4
  · exact Or.inl (by omega)
theorem zx_fr_kp {z k e e2 n : Nat} {w w2 : zc_H} {f : Nat → Nat} (hk : k < 38) (A : zk_al w (z + k) e n f) (B : zx_fr (z + k) w e w2 e2) : zx_kp z w w2 := by
  refine ⟨B.1, B.2.1, fun y c h1 h4 h5 h6 => ?_⟩
  rw [B.2.2.2 y (by omega) ?_ h4, h5]
  obtain ⟨mc, cap, g, a1, a2, a3, a4⟩ := A
  rcases a2 with ⟨b, -⟩ | ⟨b1, b2, b3⟩
  · exact Or.inr b
  · refine Or.inl (fun q => ?_)
    rw [q, b2] at h5
    exact h6 _ (Option.some.inj h5).symm
theorem zx_n38 {k : Nat} (h : zy_n k = false) : k < 38 := by
  unfold zy_n at h
  simp only [Bool.and_eq_false_iff, bne_eq_false_iff_eq] at h
  omega
theorem zx_fr_al {z k l e2 n : Nat} {w w2 : zc_H} {f E : Nat → Nat} (hE : zx_E z w E) (hk : zy_n k = false) (hl : zy_n l = false) (hkl : l ≠ k) (hz : w.2.2 < z) (hs : z + 60 ≤ w.2.1) (A : zk_al w (z + l) (E l) n f) (B : zx_fr (z + k) w (E k) w2 e2) : zk_al w2 (z + l) (E l) n f := by
  obtain ⟨b1, b2, b3, b4⟩ := B
  obtain ⟨e1, e3⟩ := hE k hk
  have e4 := (hE l hl).1
  have k38 := zx_n38 hk
  have l38 := zx_n38 hl
  refine zk_al_same A (b4 _ (by omega) (by omega) (by omega)) (fun hne => b4 _ (by omega) ?_ (by omega)) b2
  by_cases q : E l = E k
  · exact Or.inr (e3 l hl hkl.symm q.symm)
  · exact Or.inl q
theorem zx_fr_E {z k e2 : Nat} {w w2 : zc_H} {E : Nat → Nat} (hE : zx_E z w E) (hk : zy_n k = false) (hs : z + 60 ≤ w.2.1) (B : zx_fr (z + k) w (E k) w2 e2) : zx_E z w2 (va_up E k e2) := by
  obtain ⟨b1, b2, b3, b4⟩ := B
  have ek := (hE k hk).1
  have up : ∀ j, zy_n j = false → j ≠ k → (E j = w.2.2 ∨ (z + 60 ≤ E j ∧ E j < w.2.1)) ∧ (E j = E k → E j = w.2.2) := fun j hj hjk => ⟨(hE j hj).1, (hE j hj).2 k hk hjk⟩
  intro j hj
  rw [b2]
  by_cases c : j = k
  · subst c
    rw [va_up_self]
    refine ⟨by omega, fun l hl hjl q => ?_⟩
    rw [va_up_ne _ _ (Ne.symm hjl)] at q
    have := up l hl (Ne.symm hjl)
    omega
  · rw [va_up_ne _ _ c]
    have hj2 := up j hj c
    refine ⟨by omega, fun l hl hjl q => ?_⟩
    by_cases c2 : l = k
    · subst c2
      rw [va_up_self] at q
      omega
    · rw [va_up_ne _ _ c2] at q
      exact (hE j hj).2 l hl hjl q
/-! the class's own cells -/
theorem zy_is_t {z : Nat} {D : zy_D} {w w2 : zc_H} (h : zy_is z D w) (h2 : ∀ k, k < 38 → zy_n k = true → w2.1 (z + k) = w.1 (z + k)) : zy_is z D w2 := fun k hk hn => (h2 k hk hn).trans (h k hk hn)
theorem zx_fr_is {z k e2 : Nat} {D : zy_D} {w w2 : zc_H} {E : Nat → Nat} (hE : zx_E z w E) (hk : zy_n k = false) (hz : w.2.2 < z) (hs : z + 60 ≤ w.2.1) (A : zy_is z D w) (B : zx_fr (z + k) w (E k) w2 e2) : zy_is z D w2 := by
  refine zy_is_t A (fun j hj hn => B.2.2.2 _ (fun q => ?_) ?_ (by omega))
  · have : j = k := by omega
    rw [this, hk] at hn
    cases hn
  · have := (hE k hk).1
    omega
/-- the reference's cells -/
def zx_blk (z : Nat) (w w2 : zc_H) : Prop := ∀ x, z + 38 ≤ x → x < z + 60 → w2.1 x = w.1 x
theorem zx_blk_refl (z : Nat) (w : zc_H) : zx_blk z w w := fun _ _ _ => rfl
theorem zx_blk_trans {z : Nat} {w w2 w3 : zc_H} (A : zx_blk z w w2) (B : zx_blk z w2 w3) : zx_blk z w w3 := fun x h1 h2 => (B x h1 h2).trans (A x h1 h2)
theorem zx_fr_blk {z k e2 : Nat} {w w2 : zc_H} {E : Nat → Nat} (hE : zx_E z w E) (hk : zy_n k = false) (hz : w.2.2 < z) (hs : z + 60 ≤ w.2.1) (B : zx_fr (z + k) w (E k) w2 e2) : zx_blk z w w2 := fun x h1 h2 => B.2.2.2 _ (by have := zx_n38 hk; omega) (by have := (hE k hk).1; omega) (by omega)
theorem zx_h_blk (z : Nat) (D : zy_D) (h : zc_H) : zx_blk z h (zy_h z D h) := fun _ h1 _ => zy_o (Or.inr h1)
/-! what both hold -/
def zx_bt (x : Int32) (i : Nat) : Bool := x.toBitVec.getLsbD i
def zx_bits (x : Int32) (M : Nat) (T : Nat → Int32) : Prop := ∀ i, (i < M → T (96 + i) = if zx_bt x i = true then 1 else 0) ∧ (M ≤ i → zx_bt x i = false)
def zx_rules (R : Nat → Int32) : Prop := ∃ run need margin : Nat, R 0 = nI run ∧ R 1 = nI need ∧ R 2 = nI margin ∧ 1 ≤ run ∧ run ≤ 9 ∧ need ≤ 99 ∧ margin ≤ 20
def zx_hold (M : Nat) (x : Int32) : Prop := x = -1 ∨ (∃ m, m < M ∧ x = nI m) ∨ ∃ t, t < 4 ∧ x = nI (100 + t)
def zx_co (S : zm_S) (N : Nat) : Prop := ∀ r, r < N → ∀ k, k < r → S.2.1 1 r = nI k → ∀ i, i < 24 → S.2.1 4 (24 * r + i) = (zp_match (zr_ln S k) (zr_ln S r) (zx_n (S.2.1 2) k) (zx_n (S.2.1 2) r) (S.2.1 7 0).toNatClampNeg).1 i
def zx_s (S : zm_S) (N M : Nat) : Prop := S.1 0 = nI N ∧ S.1 5 = nI M ∧ zx_rules (S.2.1 7) ∧ zx_co S N ∧ (∃ t, S.1 13 = nI t ∧ t < 2 ^ 20) ∧ (∀ s, s < 8 → zx_hold M (S.2.1 9 s)) ∧ ∀ s, s < 8 → ∃ n, n ≤ 160 ∧ S.2.1 10 s = nI n
def zx_sh (D : zy_D) (S : zm_S) : Prop := ∀ s, s < 8 → D.1 (22 + 2 * s) 0 = S.2.1 9 s ∧ D.1 (22 + 2 * s) 1 = S.2.1 10 s ∧ ∀ i, i < 160 → D.2.2 (23 + 2 * s) i = S.2.2 11 (160 * s + i)
def zx_ds (D : zy_D) (S : zm_S) (M : Nat) : Prop := D.1 0 3 = S.1 16 ∧ D.1 0 5 = S.1 12 ∧ D.1 2 3 = S.2.1 7 0 ∧ D.1 2 4 = S.2.1 7 1 ∧ D.1 2 5 = S.2.1 7 2 ∧ D.1 2 6 = S.1 8 ∧ zx_bits (D.1 2 2) M (S.2.1 6) ∧ (∀ i, i < 8 → D.2.1 8 i = S.2.1 15 i) ∧ D.1 20 1 = S.1 13 ∧ (∀ i, i < 20 → D.2.1 21 i = S.2.1 14 i) ∧ zx_sh D S
def zx_im (D : zy_D) (S : zm_S) (N' M' : Nat) : Prop := (S.1 16 = 0 ∧ N' = 0 ∧ M' = 0) ∨ (S.1 16 = 1 ∧ S.1 17 = nI N' ∧ S.1 21 = nI M' ∧ D.1 5 3 = S.2.1 23 0 ∧ D.1 5 4 = S.2.1 23 1 ∧ D.1 5 5 = S.2.1 23 2 ∧ D.1 5 6 = S.1 24 ∧ zx_bits (D.1 5 2) M' (S.2.1 22) ∧ zx_rules (S.2.1 23))
def zx_d1 (z : Nat) (w : zc_H) (f g : Nat → Nat) (N M : Nat) (S : zm_S) (rdy : Nat → Int32 → Prop) : Prop := zx_doc z w f g N M (S.2.1 1) (S.2.1 2) (S.2.2 3) (S.2.1 6) rdy
def zx_d2 (z : Nat) (w : zc_H) (f g : Nat → Nat) (N M : Nat) (S : zm_S) : Prop := zx_doc z w f g N M (S.2.1 18) (S.2.1 19) (S.2.2 20) (S.2.1 22) (fun _ _ => True)
/-- where the class's lists are, and what they hold -/
def zx_V (z : Nat) (w : zc_H) (E f g f' g' fb : Nat → Nat) (N M N' M' nb : Nat) : Prop := w.2.2 < z ∧ z + 60 ≤ w.2.1 ∧ zx_E z w E ∧ zx_ls z w E f g f' g' fb N M N' M' nb
def zx_RR (z : Nat) (w : zc_H) (D : zy_D) (S : zm_S) (rdy : Nat → Int32 → Prop) (E f g f' g' fb : Nat → Nat) (N M N' M' nb : Nat) : Prop := zy_is z D w ∧ zx_V z w E f g f' g' fb N M N' M' nb ∧ zx_d1 z w f g N M S rdy ∧ zx_d2 z w f' g' N' M' S ∧ zx_ds D S M ∧ zx_im D S N' M'
def zx_R (z : Nat) (w : zc_H) (D : zy_D) (S : zm_S) (N M : Nat) : Prop := zx_s S N M ∧ ∃ (E f g f' g' fb : Nat → Nat) (N' M' nb : Nat), zx_RR z w D S (fun _ x => x = S.2.1 7 0) E f g f' g' fb N M N' M' nb
/-- the doc's rows are the same -/
def zx_dq (S S2 : zm_S) : Prop := S2.2.1 1 = S.2.1 1 ∧ S2.2.1 2 = S.2.1 2 ∧ S2.2.2 3 = S.2.2 3 ∧ (∀ i, i < 96 → S2.2.1 6 i = S.2.1 6 i) ∧ S2.2.1 18 = S.2.1 18 ∧ S2.2.1 19 = S.2.1 19 ∧ S2.2.2 20 = S.2.2 20 ∧ S2.2.1 22 = S.2.1 22
theorem zx_rem_T {z : Nat} {h : zc_H} {f g : Nat → Nat} {N : Nat} {C T T2 : Nat → Int32} {m : Nat} (hm : m < 16) (A : ∀ i, i < 96 → T2 i = T i) (B : zx_rem z h f g N C T m) : zx_rem z h f g N C T2 m := by
  obtain ⟨b1, b2, kind, a, r, p, q, an, c1, c2, c3, c4, c5, c6, c7, c8, c9, c10, c11, c12, c13⟩ := B
  exact ⟨b1, b2, kind, a, r, p, q, an, c1, c2, c3, c4, c5, (A _ (by omega)).trans c6, (A _ (by omega)).trans c7, (A _ (by omega)).trans c8, (A _ (by omega)).trans c9, (A _ (by omega)).trans c10, (A _ (by omega)).trans c11, c12, c13⟩
theorem zx_d1_q {z : Nat} {w : zc_H} {f g : Nat → Nat} {N M : Nat} {S S2 : zm_S} {rdy : Nat → Int32 → Prop} (A : zx_dq S S2) (B : zx_d1 z w f g N M S rdy) : zx_d1 z w f g N M S2 rdy := by
  obtain ⟨a1, a2, a3, a4, -⟩ := A
  unfold zx_d1 at B ⊢
  rw [a1, a2, a3]
  exact ⟨B.1, B.2.1, B.2.2.1, fun m hm => zx_rem_T (Nat.lt_of_lt_of_le hm B.2.1) a4 (B.2.2.2 m hm)⟩
theorem zx_d2_q {z : Nat} {w : zc_H} {f g : Nat → Nat} {N M : Nat} {S S2 : zm_S} (A : zx_dq S S2) (B : zx_d2 z w f g N M S) : zx_d2 z w f g N M S2 := by
  obtain ⟨-, -, -, -, a1, a2, a3, a4⟩ := A
  unfold zx_d2 at B ⊢
  rw [a1, a2, a3, a4]
  exact B
theorem zx_V_t {z : Nat} {w w2 : zc_H} {E f g f' g' fb : Nat → Nat} {N M N' M' nb : Nat} (h2 : w2.2 = w.2) (h3 : ∀ y, z + 60 ≤ y → w2.1 y = w.1 y) (h4 : ∀ k, zy_n k = false → w2.1 (z + k) = w.1 (z + k)) (A : zx_V z w E f g f' g' fb N M N' M' nb) : zx_V z w2 E f g f' g' fb N M N' M' nb := by
  obtain ⟨a1, a2, a3, b1, b2, b3, b4, b5⟩ := A
  have al : ∀ k n fn, zy_n k = false → zk_al w (z + k) (E k) n fn → zk_al w2 (z + k) (E k) n fn := fun k n fn hk B => zk_al_same B (h4 k hk) (fun hne => h3 _ (((a3 k hk).1.resolve_left hne).1)) (by rw [h2])
  exact ⟨by rw [h2]; exact a1, by rw [h2]; exact a2, fun k hk => by rw [h2]; exact a3 k hk, al 3 _ _ rfl b1, al 4 _ _ rfl b2, al 6 _ _ rfl b3, al 7 _ _ rfl b4, al 16 _ _ rfl b5⟩
/-- only the class's own cells change, or numbers of the reference -/
theorem zx_R_ov {z : Nat} {w w2 : zc_H} {D D2 : zy_D} {S S2 : zm_S} {N M : Nat} (R : zx_R z w D S N M) (h2 : w2.2 = w.2) (h3 : ∀ y, z + 60 ≤ y → w2.1 y = w.1 y) (h4 : ∀ k, zy_n k = false → w2.1 (z + k) = w.1 (z + k)) (h5 : zy_is z D2 w2) (h6 : zx_s S2 N M) (h7 : zx_dq S S2) (h8 : S2.2.1 7 0 = S.2.1 7 0) (h9 : zx_ds D2 S2 M) (h10 : ∀ N' M', zx_im D S N' M' → zx_im D2 S2 N' M') : zx_R z w2 D2 S2 N M := by
  obtain ⟨r1, E, f, g, f', g', fb, N', M', nb, r2, r3, r4, r5, r6, r7⟩ := R
  have kp := zx_kp_same h2 h3
  refine ⟨h6, E, f, g, f', g', fb, N', M', nb, h5, zx_V_t h2 h3 h4 r3, ?_, zx_d2_q h7 (zx_doc_t kp r5), h9, h10 _ _ r7⟩
  rw [h8]
  exact zx_d1_q h7 (zx_doc_t kp r4)
