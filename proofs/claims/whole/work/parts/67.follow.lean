/-! following: the pure places of a span, and the class's -/
def zq_fold (c : Nat → Int32) : Nat → Nat → Int32 × Int32 × Nat → Int32 × Int32 × Nat
  | 0, _, B => B
  | k + 1, i, B => zq_fold c k (i + 1) (if c i = -1 then B else (if B.2.2 = 0 then c i else if c i < B.1 then c i else B.1, if B.2.1 < c i then c i else B.2.1, B.2.2 + 1))
def zq_near (c : Nat → Int32) : Nat → Int32
  | 0 => c 0
  | p + 1 => if c (p + 1) = -1 then zq_near c p else c (p + 1)
/-- each place is none, or a line -/
def zq_pl (nb : Nat) (c : Nat → Int32) : Prop := nb ≤ 24 ∧ ∀ i, i < 24 → c i = -1 ∨ ∃ j, j < nb ∧ c i = nI j
def zq_fok (nb : Nat) (B : Int32 × Int32 × Nat) : Prop := (B.2.2 = 0 ∧ B.1 = -1 ∧ B.2.1 = -1) ∨ (0 < B.2.2 ∧ ∃ l m, l ≤ m ∧ m < nb ∧ B.1 = nI l ∧ B.2.1 = nI m)
theorem zq_m1lt {j : Nat} (h : j < 2 ^ 31) : (-1 : Int32) < nI j := by
  rw [Int32.lt_iff_toInt_lt, nI_toInt h]
  have : (-1 : Int32).toInt = -1 := by decide
  omega
theorem zq_fold1 {nb : Nat} {c : Nat → Int32} {i : Nat} {B : Int32 × Int32 × Nat} (hc : zq_pl nb c) (hi : i < 24) (h : zq_fok nb B) : zq_fok nb (if c i = -1 then B else (if B.2.2 = 0 then c i else if c i < B.1 then c i else B.1, if B.2.1 < c i then c i else B.2.1, B.2.2 + 1)) := by
  have hnb := hc.1
  by_cases e : c i = -1
  · rw [if_pos e]
    exact h
  rw [if_neg e]
  obtain ⟨j, hj, ej⟩ := (hc.2 i hi).resolve_left e
  refine Or.inr ⟨Nat.succ_pos _, ?_⟩
  dsimp only
  rcases h with ⟨h1, h2, h3⟩ | ⟨h1, l, m, h2, h3, h4, h5⟩
  · rw [if_pos h1, h3, ej, if_pos (zq_m1lt (by omega))]
    exact ⟨j, j, Nat.le_refl _, hj, rfl, rfl⟩
  · rw [if_neg (by omega), h4, h5, ej]
    by_cases c1 : j < l
    · rw [if_pos (nI_lt c1 (by omega)), if_neg (nI_nlt (by omega) (by omega))]
      exact ⟨j, m, by omega, h3, rfl, rfl⟩
    · rw [if_neg (nI_nlt (by omega) (by omega))]
      by_cases c2 : m < j
      · rw [if_pos (nI_lt c2 (by omega))]
        exact ⟨l, j, by omega, hj, rfl, rfl⟩
      · rw [if_neg (nI_nlt (by omega) (by omega))]
        exact ⟨l, m, h2, h3, rfl, rfl⟩
theorem zq_foldok {nb : Nat} {c : Nat → Int32} (hc : zq_pl nb c) : ∀ (k i : Nat) (B : Int32 × Int32 × Nat), i + k ≤ 24 → zq_fok nb B → zq_fok nb (zq_fold c k i B) := by
  intro k
  induction k with
  | zero => intro i B _ h; exact h
  | succ k ih =>
    intro i B hi h
    unfold zq_fold
    exact ih (i + 1) _ (by omega) (zq_fold1 hc (by omega) h)
theorem zq_foldn {c : Nat → Int32} : ∀ (k i : Nat) (B : Int32 × Int32 × Nat), (zq_fold c k i B).2.2 ≤ B.2.2 + k := by
  intro k
  induction k with
  | zero => intro i B; exact Nat.le_refl _
  | succ k ih =>
    intro i B
    unfold zq_fold
    refine Nat.le_trans (ih _ _) ?_
    split
    · omega
    · dsimp only
      omega
def zq_F (c : Nat → Int32) (p q : Nat) : Int32 × Int32 × Nat := zq_fold c (q + 1 - p) p (-1, -1, 0)
theorem zq_Fok {nb : Nat} {c : Nat → Int32} {p q : Nat} (hc : zq_pl nb c) (hp : p ≤ 24) (hq : q < 24) : zq_fok nb (zq_F c p q) := zq_foldok hc _ _ _ (by omega) (Or.inl ⟨rfl, rfl, rfl⟩)
theorem zq_Fn {c : Nat → Int32} {p q : Nat} : (zq_F c p q).2.2 ≤ q + 1 - p := by
  have := zq_foldn (c := c) (q + 1 - p) p (-1, -1, 0)
  unfold zq_F
  dsimp only at this
  omega
theorem zq_nearok {nb : Nat} {c : Nat → Int32} (hc : zq_pl nb c) : ∀ p, p < 24 → zq_near c p = -1 ∨ ∃ j, j < nb ∧ zq_near c p = nI j := by
  intro p
  induction p with
  | zero => intro h; exact hc.2 0 h
  | succ p ih =>
    intro h
    unfold zq_near
    by_cases e : c (p + 1) = -1
    · rw [if_pos e]
      exact ih (by omega)
    · rw [if_neg e]
      exact hc.2 (p + 1) h
/-- where a span p to q comes, by a kind; none: it is lost -/
def zq_go (c : Nat → Int32) (nb kind a p q : Nat) : Option (Nat × Nat) :=
  if kind = 1 then (if c p = -1 then none else some ((c p).toNatClampNeg, (c p).toNatClampNeg))
  else if kind = 3 then (if zq_near c p = -1 then none else some ((zq_near c p).toNatClampNeg, (zq_near c p).toNatClampNeg))
  else if kind = 6 then (if zq_near c p = -1 then none else some ((zq_near c p).toNatClampNeg, nb - 1))
  else if (zq_F c p q).2.2 = 0 then none
  else if kind = 4 then (if 10 * (zq_F c p q).2.2 < a * (q + 1 - p) then none else some ((zq_F c p q).1.toNatClampNeg, (zq_F c p q).2.1.toNatClampNeg))
  else if kind = 2 ∨ kind = 5 then (if (zq_F c p q).2.2 = q + 1 - p ∧ (zq_F c p q).2.1.toNatClampNeg + 1 - (zq_F c p q).1.toNatClampNeg ≤ q + 1 - p + (if kind = 5 then a else 0) then some ((zq_F c p q).1.toNatClampNeg, (zq_F c p q).2.1.toNatClampNeg) else none)
  else some ((zq_F c p q).1.toNatClampNeg, (zq_F c p q).2.1.toNatClampNeg)
/-- a span in one int -/
def zq_sp (o : Option (Nat × Nat)) : Int32 := match o with
  | none => -1
  | some x => nI (32 * x.1 + x.2)
/-! the class: spans -/
theorem zs_first {h : zc_H} {p q : Nat} (hp : p < 32) (hq : q < 32) : zf_X9_firstOf h (nI (32 * p + q)) = some (nI p) := by
  unfold zf_X9_firstOf
  rw [if_neg (za_ne _ (by omega))]
  congr 1
  have h1 : ∀ p : Fin 32, ∀ q : Fin 32, nI (32 * p.val + q.val) >>> (5 &&& 31 : Int32) = nI p.val := by decide +kernel
  exact h1 ⟨p, hp⟩ ⟨q, hq⟩
theorem zs_last {h : zc_H} {p q : Nat} (hp : p < 32) (hq : q < 32) : zf_X9_lastOf h (nI (32 * p + q)) = some (nI q) := by
  unfold zf_X9_lastOf
  rw [if_neg (za_ne _ (by omega))]
  congr 1
  have h1 : ∀ p : Fin 32, ∀ q : Fin 32, nI (32 * p.val + q.val) &&& 31 = nI q.val := by decide +kernel
  exact h1 ⟨p, hp⟩ ⟨q, hq⟩
theorem za_sub {a b : Nat} (h : b ≤ a) : nI a - nI b = nI (a - b) := by
  have e : nI a = nI (a - b) + nI b := by rw [za_add]; congr 1; omega
  rw [e, Int32.add_sub_cancel]
theorem zs_len {h : zc_H} {p q : Nat} (hp : p ≤ q) (hq : q < 32) : zf_X9_lengthOf h (nI (32 * p + q)) = some (nI (q - p + 1)) := by
  unfold zf_X9_lengthOf
  rw [zs_last (by omega) hq, zo_s, zs_first (by omega) hq, zo_s, za_sub hp, nI_succ]
theorem zs_span {h : zc_H} {p q : Nat} : zf_X9_spanOf h (nI p) (nI q) = some (nI (32 * p + q)) := by
  unfold zf_X9_spanOf
  rw [show (32 : Int32) = nI 32 by decide, za_mul, za_add, Nat.mul_comm]
/-- a revision's places, as they are asked -/
def zk_pl (h : zc_H) (b : Nat) (c : Nat → Int32) : Prop := zf_is h b 4 = true ∧ ∀ i, i < 24 → zf_X4_placeOf h b (nI i) = some (c i)
theorem zk_spL {h : zc_H} {b nb : Nat} {c : Nat → Int32} {q : Nat} (hp : zk_pl h b c) (hc : zq_pl nb c) (hq : q < 24) : ∀ (k fu i : Nat) (B : Int32 × Int32 × Nat), i + k = q + 1 → k < fu → zq_fok nb B → zf_X4_spreadOf_L8 h b (nI q) fu B.1 B.2.1 (nI i) = some ((zq_fold c k i B).1, (zq_fold c k i B).2.1) := by
  intro k
  induction k with
  | zero =>
    intro fu i B h1 h2 hB
    obtain ⟨fl, rfl⟩ : ∃ fl, fu = fl + 1 := ⟨fu - 1, by omega⟩
    unfold zf_X4_spreadOf_L8
    rw [if_pos (nI_lt (by omega) (by omega))]
    rfl
  | succ k ih =>
    intro fu i B h1 h2 hB
    obtain ⟨fl, rfl⟩ : ∃ fl, fu = fl + 1 := ⟨fu - 1, by omega⟩
    have hnb := hc.1
    have hB2 := zq_fold1 (i := i) hc (by omega) hB
    unfold zf_X4_spreadOf_L8 zq_fold
    dsimp only
    rw [if_neg (nI_nlt (by omega) (by omega)), hp.2 i (by omega), zo_s, ← nI_succ]
    by_cases e : c i = -1
    · rw [if_pos e] at hB2
      rw [if_pos e, if_pos e]
      exact ih fl (i + 1) B (by omega) (by omega) hB2
    · rw [if_neg e] at hB2
      rw [if_neg e, if_neg e]
      have ih2 := ih fl (i + 1) _ (by omega) (by omega) hB2
      dsimp only at ih2
      rcases hB with ⟨b1, b2, b3⟩ | ⟨b1, l, m, b2, b3, b4, b5⟩
      · rw [if_pos b2]
        rw [if_pos b1] at ih2 ⊢
        exact ih2
      · rw [if_neg (by rw [b4]; exact za_ne _ (by omega))]
        rw [if_neg (show ¬ B.2.2 = 0 by omega)] at ih2 ⊢
        exact ih2
theorem zk_spread {h : zc_H} {b nb : Nat} {c : Nat → Int32} {p q : Nat} (hp : zk_pl h b c) (hc : zq_pl nb c) (hpq : p ≤ q + 1) (hq : q < 24) : zf_X4_spreadOf h b (nI p) (nI q) = some (zq_sp (if (zq_F c p q).2.2 = 0 then none else some ((zq_F c p q).1.toNatClampNeg, (zq_F c p q).2.1.toNatClampNeg))) := by
  have e := zk_spL hp hc hq (q + 1 - p) 2000 p (-1, -1, 0) (by omega) (by omega) (Or.inl ⟨rfl, rfl, rfl⟩)
  have hnb := hc.1
  change zf_X4_spreadOf_L8 h b (nI q) 2000 (-1) (-1) (nI p) = some ((zq_F c p q).1, (zq_F c p q).2.1) at e
  unfold zf_X4_spreadOf
  rw [if_neg (not_not_intro hp.1), e, zo_s]
  dsimp only
  rcases zq_Fok (p := p) (q := q) hc (by omega) hq with ⟨b1, b2, b3⟩ | ⟨b1, l, m, b2, b3, b4, b5⟩
  · rw [if_pos b2, if_pos b1]
    rfl
  · rw [b4, b5, if_neg (za_ne _ (by omega)), if_neg (by omega), zs_span, zo_s, nI_clamp (by omega), nI_clamp (by omega)]
    rfl
theorem zk_plL {h : zc_H} {b : Nat} {c : Nat → Int32} {q : Nat} (hp : zk_pl h b c) (hq : q < 24) : ∀ (k fu i : Nat) (B : Int32 × Int32 × Nat), i + k = q + 1 → k < fu → zf_X4_placedOf_L5 h b (nI q) fu (nI B.2.2) (nI i) = some (nI (zq_fold c k i B).2.2) := by
  intro k
  induction k with
  | zero =>
    intro fu i B h1 h2
    obtain ⟨fl, rfl⟩ : ∃ fl, fu = fl + 1 := ⟨fu - 1, by omega⟩
    unfold zf_X4_placedOf_L5
    rw [if_pos (nI_lt (by omega) (by omega))]
    rfl
  | succ k ih =>
    intro fu i B h1 h2
    obtain ⟨fl, rfl⟩ : ∃ fl, fu = fl + 1 := ⟨fu - 1, by omega⟩
    unfold zf_X4_placedOf_L5 zq_fold
    dsimp only
    rw [if_neg (nI_nlt (by omega) (by omega)), hp.2 i (by omega), zo_s, ← nI_succ]
    by_cases e : c i = -1
    · rw [if_pos e, if_pos e]
      exact ih fl (i + 1) B (by omega) (by omega)
    · rw [if_neg e, if_neg e, ← nI_succ]
      exact ih fl (i + 1) (_, _, B.2.2 + 1) (by omega) (by omega)
theorem zk_placed {h : zc_H} {b : Nat} {c : Nat → Int32} {p q : Nat} (hp : zk_pl h b c) (hpq : p ≤ q + 1) (hq : q < 24) : zf_X4_placedOf h b (nI p) (nI q) = some (nI (zq_F c p q).2.2) := by
  have e := zk_plL hp hq (q + 1 - p) 2000 p (-1, -1, 0) (by omega) (by omega)
  unfold zf_X4_placedOf
  rw [if_neg (not_not_intro hp.1), show (0 : Int32) = nI (((-1, -1, 0) : Int32 × Int32 × Nat).2.2) by decide, e, zo_s]
  rfl
theorem zk_nearL {h : zc_H} {b : Nat} {c : Nat → Int32} (hp : zk_pl h b c) : ∀ (p fu : Nat), p + 1 < fu → p < 24 → zf_X3_nearest_L2 h (some b) fu (nI p) = some (if zq_near c p = -1 then .inl () else .inr (zq_near c p)) := by
  intro p
  induction p with
  | zero =>
    intro fu h1 h2
    obtain ⟨fl, rfl⟩ : ∃ fl, fu = fl + 2 := ⟨fu - 2, by omega⟩
    unfold zf_X3_nearest_L2
    rw [if_neg (nI_pos (by omega)), zo_s, hp.2 0 (by omega), zo_s]
    unfold zq_near
    by_cases e : c 0 = -1
    · rw [if_pos e, if_pos e]
      unfold zf_X3_nearest_L2
      rw [if_pos (by decide)]
    · rw [if_neg e, if_neg e]
  | succ p ih =>
    intro fu h1 h2
    obtain ⟨fl, rfl⟩ : ∃ fl, fu = fl + 1 := ⟨fu - 1, by omega⟩
    unfold zf_X3_nearest_L2
    rw [if_neg (nI_pos (by omega)), zo_s, hp.2 (p + 1) (by omega), zo_s]
    unfold zq_near
    by_cases e : c (p + 1) = -1
    · rw [if_pos e, if_pos e, za_pm]
      exact ih fl (by omega) (by omega)
    · rw [if_neg e, if_neg e, if_neg e]
theorem zk_near {h : zc_H} {b nb : Nat} {c : Nat → Int32} {p : Nat} (hp : zk_pl h b c) (hc : zq_pl nb c) (h2 : p < 24) : zf_X3_nearest h (nI p) (some b) = some (zq_sp (if zq_near c p = -1 then none else some ((zq_near c p).toNatClampNeg, (zq_near c p).toNatClampNeg))) := by
  unfold zf_X3_nearest
  rw [zk_nearL hp p 2000 (by omega) h2, zo_s]
  by_cases e : zq_near c p = -1
  · rw [if_pos e, if_pos e]
    rfl
  · rw [if_neg e, if_neg e]
    have hnb := hc.1
    obtain ⟨j, hj, ej⟩ := (zq_nearok hc p h2).resolve_left e
    rw [ej, nI_clamp (by omega)]
    change (zf_X9_spanOf h (nI j) (nI j)).bind _ = _
    rw [zs_span, zo_s]
    rfl
