/-! the reference: the longest run, moves, all places -/
theorem zr_runw {S : zm_S} {cm : Nat → Int32} {P : zp_P} {a b n m i j : Nat} (ha : a < 17) (hb : b < 17) (hn : n ≤ 24) (hm : m ≤ 24) (hA : S.2.1 2 a = nI n) (hB : S.2.1 2 b = nI m) (hi : i ≤ 24) (hj : j ≤ 24) : zg_X10_run (zr_m S cm P) (nI a) (nI i) (nI b) (nI j) = some (nI (zp_run (zr_ln S a) (zr_ln S b) n m P i j)) := by
  unfold zg_X10_run
  rw [show (0 : Int32) = nI 0 by decide, zr_run ha hb hn hm hA hB 24 2000 0 (by omega) (by omega) (by omega) (by omega), zo_s]
  simp
/-- what is told of the best run so far: it is a run, within both -/
def zp_ok (f g : Nat → Int64) (n m : Nat) (P : zp_P) (B : Nat × Nat × Nat) : Prop := B.2.1 + B.1 ≤ n ∧ B.2.2 + B.1 ≤ m ∧ (0 < B.1 → B.1 = zp_run f g n m P B.2.1 B.2.2)
theorem zp_bestJ_ok {f g : Nat → Int64} {n m : Nat} {P : zp_P} {i : Nat} (hi : i ≤ n) : ∀ (k j : Nat) (B : Nat × Nat × Nat), j + k = m → zp_ok f g n m P B → zp_ok f g n m P (zp_bestJ f g n m P i k j B) := by
  intro k
  induction k with
  | zero => intro j B _ h; exact h
  | succ k ih =>
    intro j B hj h
    unfold zp_bestJ
    refine ih (j + 1) _ (by omega) ?_
    by_cases c : B.1 < zp_run f g n m P i j
    · rw [if_pos c]
      have h1 := zp_runle f g n m P i j
      have h2 := zp_runlem (f := f) (g := g) (n := n) (m := m) (P := P) n i j (by omega) (by omega)
      exact ⟨by show i + _ ≤ n; omega, by show j + _ ≤ m; omega, fun _ => rfl⟩
    · rw [if_neg c]
      exact h
theorem zp_bestI_ok {f g : Nat → Int64} {n m : Nat} {P : zp_P} : ∀ (k i : Nat) (B : Nat × Nat × Nat), i + k = n → zp_ok f g n m P B → zp_ok f g n m P (zp_bestI f g n m P k i B) := by
  intro k
  induction k with
  | zero => intro i B _ h; exact h
  | succ k ih =>
    intro i B hi h
    unfold zp_bestI
    exact ih (i + 1) _ (by omega) (zp_bestJ_ok (by omega) m 0 B (by omega) h)
theorem zp_best_ok (f g : Nat → Int64) (n m : Nat) (P : zp_P) : zp_ok f g n m P (zp_best f g n m P) := zp_bestI_ok n 0 _ (by omega) ⟨Nat.zero_le _, Nat.zero_le _, fun h => absurd h (by decide)⟩
theorem zr_bestJ {S : zm_S} {cm : Nat → Int32} {P : zp_P} {a b n m i : Nat} (ha : a < 17) (hb : b < 17) (hn : n ≤ 24) (hm : m ≤ 24) (hA : S.2.1 2 a = nI n) (hB : S.2.1 2 b = nI m) (hi : i < n) : ∀ (k fu j : Nat) (B : Nat × Nat × Nat), j + k = m → k < fu → zp_ok (zr_ln S a) (zr_ln S b) n m P B → zg_X10_moves_L25 (zr_m S cm P) (nI a) (nI b) (nI i) fu (nI B.1) (nI B.2.1) (nI B.2.2) (nI j) = some (nI (zp_bestJ (zr_ln S a) (zr_ln S b) n m P i k j B).1, nI (zp_bestJ (zr_ln S a) (zr_ln S b) n m P i k j B).2.1, nI (zp_bestJ (zr_ln S a) (zr_ln S b) n m P i k j B).2.2) := by
  intro k
  induction k with
  | zero =>
    intro fu j B h1 h2 hok
    obtain ⟨f, rfl⟩ : ∃ f, fu = f + 1 := ⟨fu - 1, by omega⟩
    unfold zg_X10_moves_L25
    rw [zr_m2 S cm P (by decide), za_ai hb (by decide), zo_s, hB, if_pos (nI_le (by omega) (by omega))]
    rfl
  | succ k ih =>
    intro fu j B h1 h2 hok
    obtain ⟨f, rfl⟩ : ∃ f, fu = f + 1 := ⟨fu - 1, by omega⟩
    have hr := zp_runle (zr_ln S a) (zr_ln S b) n m P i j
    unfold zg_X10_moves_L25
    dsimp only
    rw [zr_m2 S cm P (by decide), za_ai hb (by decide), zo_s, hB, if_neg (nI_ge (by omega) (by omega)), zr_runw ha hb hn hm hA hB (by omega) (by omega), zo_s, ← nI_succ]
    unfold zp_bestJ
    by_cases c : B.1 < zp_run (zr_ln S a) (zr_ln S b) n m P i j
    · rw [if_pos (nI_lt c (by omega)), if_pos c]
      have h2' := zp_runlem (f := zr_ln S a) (g := zr_ln S b) (n := n) (m := m) (P := P) n i j (by omega) (by omega)
      exact ih f (j + 1) (zp_run (zr_ln S a) (zr_ln S b) n m P i j, i, j) (by omega) (by omega) ⟨by show i + _ ≤ n; omega, by show j + _ ≤ m; omega, fun _ => rfl⟩
    · rw [if_neg (nI_nlt (by omega) (by have := hok.1; omega)), if_neg c]
      exact ih f (j + 1) B (by omega) (by omega) hok
theorem zr_bestI {S : zm_S} {cm : Nat → Int32} {P : zp_P} {a b n m : Nat} (ha : a < 17) (hb : b < 17) (hn : n ≤ 24) (hm : m ≤ 24) (hA : S.2.1 2 a = nI n) (hB : S.2.1 2 b = nI m) : ∀ (k fu i : Nat) (B : Nat × Nat × Nat), i + k = n → k < fu → zp_ok (zr_ln S a) (zr_ln S b) n m P B → zg_X10_moves_L11 (zr_m S cm P) (nI a) (nI b) fu (nI B.1) (nI B.2.1) (nI B.2.2) (nI i) = some (nI (zp_bestI (zr_ln S a) (zr_ln S b) n m P k i B).1, nI (zp_bestI (zr_ln S a) (zr_ln S b) n m P k i B).2.1, nI (zp_bestI (zr_ln S a) (zr_ln S b) n m P k i B).2.2) := by
  intro k
  induction k with
  | zero =>
    intro fu i B h1 h2 hok
    obtain ⟨f, rfl⟩ : ∃ f, fu = f + 1 := ⟨fu - 1, by omega⟩
    unfold zg_X10_moves_L11
    rw [zr_m2 S cm P (by decide), za_ai ha (by decide), zo_s, hA, if_pos (nI_le (by omega) (by omega))]
    rfl
  | succ k ih =>
    intro fu i B h1 h2 hok
    obtain ⟨f, rfl⟩ : ∃ f, fu = f + 1 := ⟨fu - 1, by omega⟩
    unfold zg_X10_moves_L11
    rw [zr_m2 S cm P (by decide), za_ai ha (by decide), zo_s, hA, if_neg (nI_ge (by omega) (by omega)), show (0 : Int32) = nI 0 by decide, zr_bestJ ha hb hn hm hA hB (by omega) m 2000 0 B (by omega) (by omega) hok, zo_s, ← nI_succ]
    unfold zp_bestI
    exact ih f (i + 1) _ (by omega) (by omega) (zp_bestJ_ok (by omega) m 0 B (by omega) hok)
theorem zr_put {S : zm_S} {cm : Nat → Int32} {P : zp_P} {i j len : Nat} (hi : i + len ≤ 24) (hj : j + len ≤ 24) : ∀ (r fu t : Nat), t + r = len → r < fu → zg_X10_moves_L95 (nI len) (nI i) (nI j) fu (zr_m S cm ((zp_put i j t (P.1, P.2.1)).1, (zp_put i j t (P.1, P.2.1)).2, P.2.2)) (nI t) = some (zr_m S cm ((zp_put i j len (P.1, P.2.1)).1, (zp_put i j len (P.1, P.2.1)).2, P.2.2)) := by
  intro r
  induction r with
  | zero =>
    intro fu t h1 h2
    obtain ⟨f, rfl⟩ : ∃ f, fu = f + 1 := ⟨fu - 1, by omega⟩
    unfold zg_X10_moves_L95
    rw [if_pos (nI_le (by omega) (by omega)), show t = len by omega]
  | succ r ih =>
    intro fu t h1 h2
    obtain ⟨f, rfl⟩ : ∃ f, fu = f + 1 := ⟨fu - 1, by omega⟩
    unfold zg_X10_moves_L95
    rw [if_neg (nI_ge (by omega) (by omega)), za_add, za_add, zr_si26 (by omega), zo_s, show (1 &&& 1 : Int32) = 1 by decide, zr_si27 (by omega), zo_s, ← nI_succ]
    exact ih f (t + 1) (by omega) (by omega)
theorem zr_moves {S : zm_S} {cm : Nat → Int32} {P : zp_P} {a b n m run : Nat} (ha : a < 17) (hb : b < 17) (hn : n ≤ 24) (hm : m ≤ 24) (hA : S.2.1 2 a = nI n) (hB : S.2.1 2 b = nI m) (hr : S.2.1 7 0 = nI run) (hr9 : run ≤ 9) : zg_X10_moves (zr_m S cm P) (nI a) (nI b) = some (match zp_move (zr_ln S a) (zr_ln S b) n m run P with | none => (zr_m S cm P, 0) | some P2 => (zr_m S cm P2, 1)) := by
  have hok := zp_best_ok (zr_ln S a) (zr_ln S b) n m P
  have e1 := zr_bestI (S := S) (cm := cm) (P := P) ha hb hn hm hA hB n 2000 0 (0, 0, 0) (by omega) (by omega) ⟨Nat.zero_le _, Nat.zero_le _, fun h => absurd h (by decide)⟩
  unfold zg_X10_moves
  rw [show (0 : Int32) = nI 0 by decide, e1, zo_s, zr_m2 S cm P (by decide), za_ai (by decide) (by decide), zo_s, hr]
  change (if nI run ≤ nI (zp_best (zr_ln S a) (zr_ln S b) n m P).1 then _ else _) = _
  unfold zp_move
  by_cases c : (zp_best (zr_ln S a) (zr_ln S b) n m P).1 < run
  · rw [if_neg (nI_ge c (by omega)), if_pos c]
  · rw [if_pos (nI_le (by omega) (by have := hok.1; omega)), if_neg c]
    have e2 := zr_put (S := S) (cm := cm) (P := P) (i := (zp_best (zr_ln S a) (zr_ln S b) n m P).2.1) (j := (zp_best (zr_ln S a) (zr_ln S b) n m P).2.2) (len := (zp_best (zr_ln S a) (zr_ln S b) n m P).1) (by have := hok.1; omega) (by have := hok.2.1; omega) (zp_best (zr_ln S a) (zr_ln S b) n m P).1 2000 0 (by omega) (by have := hok.1; omega)
    change (zg_X10_moves_L95 (nI (zp_best (zr_ln S a) (zr_ln S b) n m P).1) (nI (zp_best (zr_ln S a) (zr_ln S b) n m P).2.1) (nI (zp_best (zr_ln S a) (zr_ln S b) n m P).2.2) 2000 (zr_m S cm P) (nI 0)).bind _ = _
    rw [show zr_m S cm P = zr_m S cm ((zp_put (zp_best (zr_ln S a) (zr_ln S b) n m P).2.1 (zp_best (zr_ln S a) (zr_ln S b) n m P).2.2 0 (P.1, P.2.1)).1, (zp_put (zp_best (zr_ln S a) (zr_ln S b) n m P).2.1 (zp_best (zr_ln S a) (zr_ln S b) n m P).2.2 0 (P.1, P.2.1)).2, P.2.2) from rfl, e2, zo_s, zr_m29]
    change (some (zg_p _ 29 (nI P.2.2.2 + nI (zp_best (zr_ln S a) (zr_ln S b) n m P).1))).bind _ = _
    rw [za_add, zr_p29, zo_s]
/-- how many of the first n lines have no place yet -/
def zp_free : Nat → (Nat → Int32) → Nat
  | 0, _ => 0
  | n + 1, p => zp_free n p + (if p n = -1 then 1 else 0)
theorem zp_free_le {p p2 : Nat → Int32} : ∀ n : Nat, (∀ i, i < n → p2 i = -1 → p i = -1) → zp_free n p2 ≤ zp_free n p := by
  intro n
  induction n with
  | zero => intro _; exact Nat.le_refl _
  | succ n ih =>
    intro h
    have h1 := ih (fun i hi => h i (by omega))
    unfold zp_free
    by_cases c : p2 n = -1
    · rw [if_pos c, if_pos (h n (by omega) c)]
      omega
    · rw [if_neg c]
      omega
theorem zp_free_lt {p p2 : Nat → Int32} : ∀ (n k : Nat), k < n → p k = -1 → ¬ p2 k = -1 → (∀ i, i < n → p2 i = -1 → p i = -1) → zp_free n p2 < zp_free n p := by
  intro n
  induction n with
  | zero => intro k hk; omega
  | succ n ih =>
    intro k hk h1 h2 h
    unfold zp_free
    by_cases c : k = n
    · subst c
      have h3 := zp_free_le (p := p) (p2 := p2) k (fun i hi => h i (by omega))
      rw [if_pos h1, if_neg h2]
      omega
    · have h3 := ih k (by omega) h1 h2 (fun i hi => h i (by omega))
      by_cases d : p2 n = -1
      · rw [if_pos d, if_pos (h n (by omega) d)]
        omega
      · rw [if_neg d]
        omega
theorem zp_free_n (p : Nat → Int32) : ∀ n : Nat, zp_free n p ≤ n := by
  intro n
  induction n with
  | zero => exact Nat.le_refl _
  | succ n ih =>
    unfold zp_free
    split <;> omega
theorem zp_put1 (i j : Nat) : ∀ (k x : Nat) (A : (Nat → Int32) × (Nat → Int32)), (zp_put i j k A).1 x = if i ≤ x ∧ x < i + k then nI (j + (x - i)) else A.1 x := by
  intro k
  induction k with
  | zero => intro x A; rw [if_neg (by omega)]; rfl
  | succ k ih =>
    intro x A
    unfold zp_put
    dsimp only
    by_cases c : x = i + k
    · subst c
      rw [va_up_self, if_pos (by omega)]
      congr 2
      omega
    · rw [va_up_ne _ _ c, ih]
      by_cases d : i ≤ x ∧ x < i + k
      · rw [if_pos d, if_pos (by omega)]
      · rw [if_neg d, if_neg (by omega)]
theorem zp_move_free {f g : Nat → Int64} {n m run : Nat} {P P2 : zp_P} (hm : m ≤ 24) (hr : 1 ≤ run) (h : zp_move f g n m run P = some P2) : zp_free n P2.1 < zp_free n P.1 := by
  have hok := zp_best_ok f g n m P
  unfold zp_move at h
  split at h
  · cases h
  · rename_i c
    have hP := Option.some.inj h
    subst hP
    have hpos : 0 < (zp_best f g n m P).1 := by omega
    have hrun := hok.2.2 hpos
    have hfree : P.1 (zp_best f g n m P).2.1 = -1 := by
      by_cases c2 : (zp_best f g n m P).2.1 < n ∧ (zp_best f g n m P).2.2 < m ∧ f (zp_best f g n m P).2.1 = g (zp_best f g n m P).2.2 ∧ P.1 (zp_best f g n m P).2.1 = -1 ∧ P.2.1 (zp_best f g n m P).2.2 = 0
      · exact c2.2.2.2.1
      · rw [zp_run0 c2] at hrun
        omega
    have h1 := hok.1
    have h2 := hok.2.1
    refine zp_free_lt n (zp_best f g n m P).2.1 (by omega) hfree ?_ ?_
    · show ¬ (zp_put _ _ _ _).1 _ = -1
      rw [zp_put1, if_pos (by omega)]
      exact za_ne _ (by omega)
    · intro x hx hx2
      change (zp_put _ _ _ _).1 x = -1 at hx2
      rw [zp_put1] at hx2
      split at hx2
      · exact absurd hx2 (za_ne _ (by omega))
      · exact hx2
theorem zp_iter_end {f g : Nat → Int64} {n m run : Nat} (hm : m ≤ 24) (hr : 1 ≤ run) : ∀ (k : Nat) (P : zp_P), zp_free n P.1 < k → zp_move f g n m run (zp_iter f g n m run k P) = none := by
  intro k
  induction k with
  | zero => intro P h; omega
  | succ k ih =>
    intro P h
    unfold zp_iter
    cases hmv : zp_move f g n m run P with
    | none => exact hmv
    | some P2 =>
      have := zp_move_free hm hr hmv
      exact ih P2 (by omega)
theorem zr_iter {S : zm_S} {cm : Nat → Int32} {a b n m run : Nat} (ha : a < 17) (hb : b < 17) (hn : n ≤ 24) (hm : m ≤ 24) (hA : S.2.1 2 a = nI n) (hB : S.2.1 2 b = nI m) (hr : S.2.1 7 0 = nI run) (hr9 : run ≤ 9) (hr1 : 1 ≤ run) : ∀ (k fu : Nat) (P : zp_P), zp_free n P.1 < k → k < fu → zg_X10_places_L46 (nI a) (nI b) fu (zr_m S cm P) 1 = some (zr_m S cm (zp_iter (zr_ln S a) (zr_ln S b) n m run k P)) := by
  intro k
  induction k with
  | zero => intro fu P h; omega
  | succ k ih =>
    intro fu P h1 h2
    obtain ⟨f, rfl⟩ : ∃ f, fu = f + 1 := ⟨fu - 1, by omega⟩
    unfold zg_X10_places_L46 zp_iter
    rw [if_neg (by decide), zr_moves ha hb hn hm hA hB hr hr9, zo_s]
    cases hmv : zp_move (zr_ln S a) (zr_ln S b) n m run P with
    | none =>
      obtain ⟨f2, rfl⟩ : ∃ f2, f = f2 + 1 := ⟨f - 1, by omega⟩
      simp only
      unfold zg_X10_places_L46
      rw [if_pos rfl]
    | some P2 =>
      have := zp_move_free hm hr1 hmv
      exact ih f P2 (by omega) (by omega)
theorem zr_fill {S : zm_S} {cm : Nat → Int32} {c : Nat × Nat} (y1 y2 : Int32) : ∀ (k fu t : Nat) (p u : Nat → Int32), t + k = 24 → k < fu → (∀ i, i < t → p i = -1 ∧ u i = 0) → ∃ p2 u2 : Nat → Int32, zg_X10_places_L12 y1 y2 fu (zr_m S cm (p, u, c)) (nI t) = some (zr_m S cm (p2, u2, c)) ∧ ∀ i, i < 24 → p2 i = -1 ∧ u2 i = 0 := by
  intro k
  induction k with
  | zero =>
    intro fu t p u h1 h2 h3
    obtain ⟨f, rfl⟩ : ∃ f, fu = f + 1 := ⟨fu - 1, by omega⟩
    refine ⟨p, u, ?_, fun i hi => h3 i (by omega)⟩
    unfold zg_X10_places_L12
    rw [show (24 : Int32) = nI 24 by decide, if_pos (nI_le (by omega) (by omega))]
  | succ k ih =>
    intro fu t p u h1 h2 h3
    obtain ⟨f, rfl⟩ : ∃ f, fu = f + 1 := ⟨fu - 1, by omega⟩
    obtain ⟨p2, u2, e1, e2⟩ := ih f (t + 1) (va_up p t (-1)) (va_up u t 0) (by omega) (by omega) (fun i hi => by
      by_cases c : i = t
      · subst c
        rw [va_up_self, va_up_self]
        exact ⟨rfl, rfl⟩
      · rw [va_up_ne _ _ c, va_up_ne _ _ c]
        exact h3 i (by omega))
    refine ⟨p2, u2, ?_, e2⟩
    unfold zg_X10_places_L12
    rw [show (24 : Int32) = nI 24 by decide, if_neg (nI_ge (by omega) (by omega)), zr_si26 (by omega), zo_s, show (0 &&& 1 : Int32) = 0 by decide, zr_si27 (by omega), zo_s, ← nI_succ]
    exact e1
