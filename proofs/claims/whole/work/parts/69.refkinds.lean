/-! the reference: following by kinds -/
def zr_w (S : zm_S) (v : Nat → Int32) : zm_S := (fun k => if 31 ≤ k ∧ k < 41 then v k else S.1 k, S.2)
theorem zr_wg (S : zm_S) (v : Nat → Int32) {k : Nat} (h : 31 ≤ k ∧ k < 41) : (zr_w S v).1 k = v k := if_pos h
theorem zr_wn (S : zm_S) (v : Nat → Int32) {k : Nat} (h : ¬ (31 ≤ k ∧ k < 41)) : (zr_w S v).1 k = S.1 k := if_neg h
theorem zr_w2 (S : zm_S) (v : Nat → Int32) : (zr_w S v).2 = S.2 := rfl
theorem zr_wp (S : zm_S) (v : Nat → Int32) {k : Nat} {x : Int32} (h : 31 ≤ k ∧ k < 41) : zg_p (zr_w S v) k x = zr_w S (va_up v k x) := by
  unfold zg_p zr_w
  refine Prod.ext ?_ rfl
  funext j
  dsimp only
  unfold va_up
  by_cases c : j = k
  · subst c
    rw [if_pos rfl, if_pos h, if_pos rfl]
  · rw [if_neg c, if_neg c]
theorem zr_ww (S : zm_S) : zr_w S S.1 = S := by
  refine Prod.ext ?_ rfl
  funext j
  unfold zr_w
  dsimp only
  split <;> rfl
theorem za_24 (i j : Nat) : (24 : Int32) * nI i + nI j = nI (24 * i + j) := by rw [show (24 : Int32) = nI 24 by decide, za_mul, za_add]
theorem zr_folL {S : zm_S} {v c : Nat → Int32} {b q nb : Nat} (hb : b < 16) (hco : ∀ i, i < 24 → S.2.1 4 (24 * b + i) = c i) (hc : zq_pl nb c) (hq : q < 24) (h32 : v 32 = nI q) : ∀ (k fu i : Nat) (B : Int32 × Int32 × Nat), i + k = q + 1 → k < fu → B.2.2 ≤ i → zg_X10_follows_L13 (zr_w S v) (nI b) fu B.1 B.2.1 (nI B.2.2) (nI i) = some ((zq_fold c k i B).1, (zq_fold c k i B).2.1, nI (zq_fold c k i B).2.2) := by
  intro k
  induction k with
  | zero =>
    intro fu i B h1 h2 h3
    obtain ⟨fl, rfl⟩ : ∃ fl, fu = fl + 1 := ⟨fu - 1, by omega⟩
    unfold zg_X10_follows_L13
    rw [zr_wg S v (by decide), h32, if_pos (nI_lt (by omega) (by omega))]
    rfl
  | succ k ih =>
    intro fu i B h1 h2 h3
    obtain ⟨fl, rfl⟩ : ∃ fl, fu = fl + 1 := ⟨fu - 1, by omega⟩
    unfold zg_X10_follows_L13 zq_fold
    dsimp only
    rw [zr_wg S v (by decide), h32, if_neg (nI_nlt (by omega) (by omega)), za_24, zr_w2, za_ai (by omega) (by decide), zo_s, hco i (by omega), ← nI_succ, ← nI_succ]
    by_cases e : c i = -1
    · rw [if_pos e, if_pos e]
      exact ih fl (i + 1) B (by omega) (by omega) (by omega)
    · rw [if_neg e, if_neg e]
      by_cases e2 : B.2.2 = 0
      · rw [if_pos (by rw [e2]; rfl), if_pos e2]
        exact ih fl (i + 1) (_, _, B.2.2 + 1) (by omega) (by omega) (by dsimp only; omega)
      · rw [if_neg (nI_ne0 (by omega) (by omega)), if_neg e2]
        exact ih fl (i + 1) (_, _, B.2.2 + 1) (by omega) (by omega) (by dsimp only; omega)
theorem zr_follows {S : zm_S} {v c : Nat → Int32} {b p q nb : Nat} (hb : b < 16) (hco : ∀ i, i < 24 → S.2.1 4 (24 * b + i) = c i) (hc : zq_pl nb c) (hp : p ≤ q) (hq : q < 24) (h31 : v 31 = nI p) (h32 : v 32 = nI q) : zg_X10_follows (zr_w S v) (nI b) = some (zr_w S (va_up (va_up v 31 (zq_F c p q).1) 32 (zq_F c p q).2.1), nI (zq_F c p q).2.2) := by
  have e := zr_folL (v := v) hb hco hc hq h32 (q + 1 - p) 2000 p (-1, -1, 0) (by omega) (by omega) (Nat.zero_le _)
  change zg_X10_follows_L13 (zr_w S v) (nI b) 2000 (-1) (-1) 0 (nI p) = some ((zq_F c p q).1, (zq_F c p q).2.1, nI (zq_F c p q).2.2) at e
  unfold zg_X10_follows
  rw [zr_wg S v (by decide), h31, e, zo_s, zo_s, zo_s, zr_wp _ _ (by decide), zr_wp _ _ (by decide)]
theorem zr_near0 {S : zm_S} {v c : Nat → Int32} {b p : Nat} (fu : Nat) (hp : p < 24) : zg_X10_followsAsPoint_L5 (zr_w S v) (nI b) 0 (fu + 1) (nI p) = some (nI p) := by
  unfold zg_X10_followsAsPoint_L5
  rw [if_pos rfl]
theorem zr_nearL {S : zm_S} {v c : Nat → Int32} {b : Nat} (hb : b < 16) (hco : ∀ i, i < 24 → S.2.1 4 (24 * b + i) = c i) : ∀ (p fu : Nat), p < fu → p < 24 → ∃ i, i < 24 ∧ zg_X10_followsAsPoint_L5 (zr_w S v) (nI b) 1 fu (nI p) = some (nI i) ∧ c i = zq_near c p := by
  intro p
  induction p with
  | zero =>
    intro fu h1 h2
    obtain ⟨fl, rfl⟩ : ∃ fl, fu = fl + 1 := ⟨fu - 1, by omega⟩
    refine ⟨0, by omega, ?_, rfl⟩
    unfold zg_X10_followsAsPoint_L5
    rw [if_neg (by decide), if_pos (by decide)]
  | succ p ih =>
    intro fu h1 h2
    obtain ⟨fl, rfl⟩ : ∃ fl, fu = fl + 1 := ⟨fu - 1, by omega⟩
    unfold zg_X10_followsAsPoint_L5
    rw [if_neg (by decide), if_neg (nI_nle (by omega) (by omega)), za_24, zr_w2, za_ai (by omega) (by decide), zo_s, hco _ h2]
    unfold zq_near
    by_cases e : c (p + 1) = -1
    · rw [if_pos e, if_pos e, za_pm]
      exact ih fl (by omega) (by omega)
    · rw [if_neg e, if_neg e]
      exact ⟨p + 1, h2, rfl, rfl⟩
theorem zr_point {S : zm_S} {v c : Nat → Int32} {b p nb : Nat} (ah : Int32) (hah : ah = 0 ∨ ah = 1) (hb : b < 16) (hco : ∀ i, i < 24 → S.2.1 4 (24 * b + i) = c i) (hp : p < 24) (h31 : v 31 = nI p) : zg_X10_followsAsPoint (zr_w S v) (nI b) ah = some (zr_w S (va_up (va_up v 31 (if ah = 0 then c p else zq_near c p)) 32 (if ah = 0 then c p else zq_near c p)), if (if ah = 0 then c p else zq_near c p) = -1 then 0 else 1) := by
  obtain ⟨i, hi, e1, e2⟩ : ∃ i, i < 24 ∧ zg_X10_followsAsPoint_L5 (zr_w S v) (nI b) ah 2000 (nI p) = some (nI i) ∧ c i = (if ah = 0 then c p else zq_near c p) := by
    rcases hah with rfl | rfl
    · exact ⟨p, hp, zr_near0 (c := c) 1999 hp, rfl⟩
    · exact zr_nearL (v := v) hb hco p 2000 (by omega) hp
  unfold zg_X10_followsAsPoint
  rw [zr_wg S v (by decide), h31, e1, zo_s, za_24, zr_w2, za_ai (by omega) (by decide), zo_s, hco i hi, e2, zo_s, zo_s, zr_wp _ _ (by decide), zr_wg _ _ (by decide), va_up_self, zr_wp _ _ (by decide), zr_wg _ _ (by decide), va_up_ne _ _ (by decide), va_up_self]
  generalize (if ah = 0 then c p else zq_near c p) = y
  by_cases e : y = -1
  · rw [if_pos e, if_pos e]
  · rw [if_neg e, if_neg e]
/-- what the reference makes of a step that follows -/
def zr_gone (v v2 : Nat → Int32) (f : Int32) (o : Option (Nat × Nat)) : Prop := (∀ k, k ≠ 31 → k ≠ 32 → v2 k = v k) ∧ match o with
  | none => f = 0
  | some x => f = 1 ∧ v2 31 = nI x.1 ∧ v2 32 = nI x.2
theorem zr_goes {S : zm_S} {v c : Nat → Int32} {b nb kind a p q : Nat} (hb : b < 16) (hco : ∀ i, i < 24 → S.2.1 4 (24 * b + i) = c i) (hc : zq_pl nb c) (hn : S.2.1 2 b = nI nb) (hk : kind < 7) (ha : a ≤ 9) (hp : p ≤ q) (hq : q < 24) (h31 : v 31 = nI p) (h32 : v 32 = nI q) : ∃ v2 f, zg_X10_goesTo (zr_w S v) (nI kind) (nI a) (nI b) = some (zr_w S v2, f) ∧ zr_gone v v2 f (zq_go c nb kind a p q) := by
  have hnb := hc.1
  have hnr := zq_nearok hc p (by omega)
  have k1 : nI kind = 1 ↔ kind = 1 := za_eq (b := 1) (by omega) (by omega)
  have k2 : nI kind = 2 ↔ kind = 2 := za_eq (b := 2) (by omega) (by omega)
  have k3 : nI kind = 3 ↔ kind = 3 := za_eq (b := 3) (by omega) (by omega)
  have k4 : nI kind = 4 ↔ kind = 4 := za_eq (b := 4) (by omega) (by omega)
  have k5 : nI kind = 5 ↔ kind = 5 := za_eq (b := 5) (by omega) (by omega)
  have k6 : nI kind = 6 ↔ kind = 6 := za_eq (b := 6) (by omega) (by omega)
  have fr : ∀ (x y : Int32) (k : Nat), k ≠ 31 → k ≠ 32 → va_up (va_up v 31 x) 32 y k = v k := fun x y k n1 n2 => by rw [va_up_ne _ _ n2, va_up_ne _ _ n1]
  have g31 : ∀ (x y : Int32), va_up (va_up v 31 x) 32 y 31 = x := fun x y => by rw [va_up_ne _ _ (by decide), va_up_self]
  have g32 : ∀ (x y : Int32), va_up (va_up v 31 x) 32 y 32 = y := fun x y => va_up_self _ _ _
  have z01 : ∀ p : Prop, ∀ _ : Decidable p, ¬ ¬ ((if p then (0 : Int32) else 1) = 0 ∨ (if p then (0 : Int32) else 1) = 1) := fun p _ => by split <;> simp
  unfold zg_X10_goesTo
  by_cases e1 : kind = 1
  · subst e1
    rw [if_pos (show nI 1 = 1 from rfl), zr_point (nb := nb) 0 (Or.inl rfl) hb hco (by omega) h31, zo_s, if_pos rfl]
    dsimp only
    rw [if_neg (z01 _ _), zq_go1]
    refine ⟨_, _, rfl, fr _ _, ?_⟩
    by_cases e : c p = -1
    · rw [if_pos e, if_pos e]
    · rw [if_neg e, if_neg e]
      obtain ⟨j, hj, ej⟩ := (hc.2 p (by omega)).resolve_left e
      dsimp only
      rw [g31, g32, ej, nI_clamp (by omega)]
      exact ⟨rfl, rfl, rfl⟩
  rw [if_neg (fun z => e1 (k1.mp z))]
  by_cases e3 : kind = 3
  · subst e3
    rw [if_pos (show nI 3 = 3 from rfl), zr_point (nb := nb) 1 (Or.inr rfl) hb hco (by omega) h31, zo_s, if_neg (show ¬ (1 : Int32) = 0 by decide)]
    dsimp only
    rw [if_neg (z01 _ _), zq_go3]
    refine ⟨_, _, rfl, fr _ _, ?_⟩
    by_cases e : zq_near c p = -1
    · rw [if_pos e, if_pos e]
    · rw [if_neg e, if_neg e]
      obtain ⟨j, hj, ej⟩ := hnr.resolve_left e
      dsimp only
      rw [g31, g32, ej, nI_clamp (by omega)]
      exact ⟨rfl, rfl, rfl⟩
  rw [if_neg (fun z => e3 (k3.mp z))]
  by_cases e6 : kind = 6
  · subst e6
    rw [if_pos (show nI 6 = 6 from rfl), zr_point (nb := nb) 1 (Or.inr rfl) hb hco (by omega) h31, zo_s, if_neg (show ¬ (1 : Int32) = 0 by decide)]
    dsimp only
    rw [zq_go6]
    by_cases e : zq_near c p = -1
    · rw [if_pos e, if_pos rfl, if_pos e]
      exact ⟨_, _, rfl, fr _ _, rfl⟩
    · rw [if_neg e, if_neg (by decide), if_neg e, zr_w2, za_ai (by omega) (by decide), zo_s, zo_s, hn, zr_wp _ _ (by decide)]
      obtain ⟨j, hj, ej⟩ := hnr.resolve_left e
      refine ⟨_, _, rfl, fun k n1 n2 => ?_, rfl, ?_, ?_⟩
      · rw [va_up_ne _ _ n2, fr _ _ k n1 n2]
      · rw [va_up_ne _ _ (by decide), g31, ej, nI_clamp (by omega)]
      · rw [va_up_self]
        exact za_sub (show 1 ≤ nb by omega)
  rw [if_neg (fun z => e6 (k6.mp z)), zr_follows hb hco hc hp hq h31 h32, zo_s]
  dsimp only
  have hF := zq_Fnat (c := c) (p := p) (q := q) hc (by omega) hq
  have hN := zq_Fn (c := c) (p := p) (q := q)
  rw [zr_wg _ _ (by decide), zr_wg _ _ (by decide), zr_wg _ _ (by decide), zr_wg _ _ (by decide), h31, h32, g31, g32, za_sub hp, ← nI_succ]
  have hgo : zq_go c nb kind a p q = if (zq_F c p q).2.2 = 0 then none else if kind = 4 then (if 10 * (zq_F c p q).2.2 < a * (q + 1 - p) then none else some ((zq_F c p q).1.toNatClampNeg, (zq_F c p q).2.1.toNatClampNeg)) else if kind = 2 ∨ kind = 5 then (if (zq_F c p q).2.2 = q + 1 - p ∧ (zq_F c p q).2.1.toNatClampNeg + 1 - (zq_F c p q).1.toNatClampNeg ≤ q + 1 - p + (if kind = 5 then a else 0) then some ((zq_F c p q).1.toNatClampNeg, (zq_F c p q).2.1.toNatClampNeg) else none) else some ((zq_F c p q).1.toNatClampNeg, (zq_F c p q).2.1.toNatClampNeg) := by
    unfold zq_go
    rw [if_neg e1, if_neg e3, if_neg e6]
  rw [hgo]
  clear hgo
  by_cases e0 : (zq_F c p q).2.2 = 0
  · rw [if_pos (by rw [e0]; rfl), if_pos e0]
    exact ⟨_, _, rfl, fr _ _, rfl⟩
  rw [if_neg (nI_ne0 (by omega) (by omega)), if_neg e0]
  obtain ⟨l, m, h1, h2, h3, h4, h5, h6⟩ := hF e0
  rw [h3, h4, h5, h6]
  have hqp : q + 1 - p = q - p + 1 := by omega
  by_cases e4 : kind = 4
  · have hb : a * (q - p + 1) ≤ 9 * 24 := Nat.mul_le_mul ha (by omega)
    rw [if_pos (k4.mpr e4), if_pos e4, show (10 : Int32) = nI 10 by decide, za_mul, za_mul, hqp]
    by_cases f : 10 * (zq_F c p q).2.2 < a * (q - p + 1)
    · rw [if_pos (nI_lt f (by omega)), if_pos f]
      exact ⟨_, _, rfl, fr _ _, rfl⟩
    · rw [if_neg (nI_nlt (by omega) (by omega)), if_neg f]
      exact ⟨_, _, rfl, fr _ _, rfl, g31 _ _, g32 _ _⟩
  rw [if_neg (fun z => e4 (k4.mp z)), if_neg e4]
  have fin : ∀ (x : Nat), x ≤ 9 → ∃ v2 f, (if nI (zq_F c p q).2.2 = nI (q - p + 1) then (if nI (q - p + 1) + nI x < nI m - nI l + 1 then some (zr_w S (va_up (va_up v 31 (nI l)) 32 (nI m)), (0 : Int32)) else some (zr_w S (va_up (va_up v 31 (nI l)) 32 (nI m)), 1)) else some (zr_w S (va_up (va_up v 31 (nI l)) 32 (nI m)), 0)) = some (zr_w S v2, f) ∧ zr_gone v v2 f (if (zq_F c p q).2.2 = q - p + 1 ∧ m + 1 - l ≤ q - p + 1 + x then some (l, m) else none) := by
    intro x hx
    by_cases f : (zq_F c p q).2.2 = q - p + 1
    · rw [if_pos (by rw [f]), za_sub h1, ← nI_succ, za_add]
      by_cases g : m + 1 - l ≤ q - p + 1 + x
      · rw [if_neg (nI_nlt (by omega) (by omega)), if_pos ⟨f, g⟩]
        exact ⟨_, _, rfl, fr _ _, rfl, g31 _ _, g32 _ _⟩
      · rw [if_pos (nI_lt (by omega) (by omega)), if_neg (fun z => g z.2)]
        exact ⟨_, _, rfl, fr _ _, rfl⟩
    · rw [if_neg (fun z => f ((za_eq (by omega) (by omega)).mp z)), if_neg (fun z => f z.1)]
      exact ⟨_, _, rfl, fr _ _, rfl⟩
  rw [hqp]
  by_cases e2 : kind = 2
  · subst e2
    rw [if_pos (show nI 2 = 2 from rfl), if_pos (show (2 : Nat) = 2 ∨ 2 = 5 from Or.inl rfl), if_neg (show ¬ (2 : Nat) = 5 by decide), if_neg (show ¬ nI 2 = 5 by decide)]
    have := fin 0 (by omega)
    rw [show nI (q - p + 1) + nI 0 = nI (q - p + 1) from za_add _ 0] at this
    exact this
  rw [if_neg (fun z => e2 (k2.mp z))]
  by_cases e5 : kind = 5
  · subst e5
    rw [if_pos (show nI 5 = 5 from rfl), if_pos (show (5 : Nat) = 2 ∨ 5 = 5 from Or.inr rfl), if_pos (show (5 : Nat) = 5 from rfl), if_pos (show nI 5 = 5 from rfl)]
    exact fin a ha
  rw [if_neg (fun z => e5 (k5.mp z)), if_neg (by omega)]
  exact ⟨_, _, rfl, fr _ _, rfl, g31 _ _, g32 _ _⟩
