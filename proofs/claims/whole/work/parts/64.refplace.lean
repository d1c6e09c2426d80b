/-! places don't ask what stands behind the rows' ends -/
def zp_eqv (P Q : zp_P) : Prop := (∀ i, i < 24 → P.1 i = Q.1 i ∧ P.2.1 i = Q.2.1 i) ∧ P.2.2 = Q.2.2
theorem zp_run_c {f g : Nat → Int64} {n m : Nat} {P Q : zp_P} (hn : n ≤ 24) (hm : m ≤ 24) (h : zp_eqv P Q) : ∀ (d i j : Nat), n - i ≤ d → zp_run f g n m P i j = zp_run f g n m Q i j := by
  intro d
  induction d with
  | zero => intro i j hd; rw [zp_run0 (by omega), zp_run0 (by omega)]
  | succ d ih =>
    intro i j hd
    by_cases c : i < n ∧ j < m
    · have e1 := (h.1 i (by omega)).1
      have e2 := (h.1 j (by omega)).2
      by_cases c2 : f i = g j ∧ P.1 i = -1 ∧ P.2.1 j = 0
      · rw [zp_run1 ⟨c.1, c.2, c2⟩, zp_run1 (P := Q) ⟨c.1, c.2, c2.1, by rw [← e1]; exact c2.2.1, by rw [← e2]; exact c2.2.2⟩, ih (i + 1) (j + 1) (by omega)]
      · rw [zp_run0 (fun z => c2 z.2.2), zp_run0 (fun z => c2 ⟨z.2.2.1, by rw [e1]; exact z.2.2.2.1, by rw [e2]; exact z.2.2.2.2⟩)]
    · rw [zp_run0 (fun z => c ⟨z.1, z.2.1⟩), zp_run0 (fun z => c ⟨z.1, z.2.1⟩)]
theorem zp_bestJ_c {f g : Nat → Int64} {n m : Nat} {P Q : zp_P} (h : ∀ i j, zp_run f g n m P i j = zp_run f g n m Q i j) (i : Nat) : ∀ (k j : Nat) (B : Nat × Nat × Nat), zp_bestJ f g n m P i k j B = zp_bestJ f g n m Q i k j B := by
  intro k
  induction k with
  | zero => intro j B; rfl
  | succ k ih => intro j B; unfold zp_bestJ; rw [h, ih]
theorem zp_bestI_c {f g : Nat → Int64} {n m : Nat} {P Q : zp_P} (h : ∀ i j, zp_run f g n m P i j = zp_run f g n m Q i j) : ∀ (k i : Nat) (B : Nat × Nat × Nat), zp_bestI f g n m P k i B = zp_bestI f g n m Q k i B := by
  intro k
  induction k with
  | zero => intro i B; rfl
  | succ k ih => intro i B; unfold zp_bestI; rw [zp_bestJ_c h, ih]
theorem zp_best_c {f g : Nat → Int64} {n m : Nat} {P Q : zp_P} (hn : n ≤ 24) (hm : m ≤ 24) (h : zp_eqv P Q) : zp_best f g n m P = zp_best f g n m Q := zp_bestI_c (fun i j => zp_run_c hn hm h n i j (by omega)) n 0 _
theorem zp_put2 (i j : Nat) : ∀ (k x : Nat) (A : (Nat → Int32) × (Nat → Int32)), (zp_put i j k A).2 x = if j ≤ x ∧ x < j + k then 1 else A.2 x := by
  intro k
  induction k with
  | zero => intro x A; rw [if_neg (by omega)]; rfl
  | succ k ih =>
    intro x A
    unfold zp_put
    dsimp only
    by_cases c : x = j + k
    · subst c
      rw [va_up_self, if_pos (by omega)]
    · rw [va_up_ne _ _ c, ih]
      by_cases d : j ≤ x ∧ x < j + k
      · rw [if_pos d, if_pos (by omega)]
      · rw [if_neg d, if_neg (by omega)]
theorem zp_move_c {f g : Nat → Int64} {n m run : Nat} {P Q : zp_P} (hn : n ≤ 24) (hm : m ≤ 24) (h : zp_eqv P Q) : (zp_move f g n m run P = none ∧ zp_move f g n m run Q = none) ∨ ∃ P2 Q2, zp_move f g n m run P = some P2 ∧ zp_move f g n m run Q = some Q2 ∧ zp_eqv P2 Q2 := by
  unfold zp_move
  rw [zp_best_c (f := f) (g := g) hn hm h]
  by_cases c : (zp_best f g n m Q).1 < run
  · rw [if_pos c, if_pos c]
    exact Or.inl ⟨rfl, rfl⟩
  · rw [if_neg c, if_neg c]
    refine Or.inr ⟨_, _, rfl, rfl, fun i hi => ⟨?_, ?_⟩, ?_⟩
    · dsimp only
      rw [zp_put1, zp_put1, (h.1 i hi).1]
    · dsimp only
      rw [zp_put2, zp_put2]
      dsimp only
      rw [(h.1 i hi).2]
    · dsimp only
      rw [h.2]
theorem zp_iter_c {f g : Nat → Int64} {n m run : Nat} (hn : n ≤ 24) (hm : m ≤ 24) : ∀ (k : Nat) (P Q : zp_P), zp_eqv P Q → zp_eqv (zp_iter f g n m run k P) (zp_iter f g n m run k Q) := by
  intro k
  induction k with
  | zero => intro P Q h; exact h
  | succ k ih =>
    intro P Q h
    unfold zp_iter
    rcases zp_move_c (f := f) (g := g) (run := run) hn hm h with ⟨e1, e2⟩ | ⟨P2, Q2, e1, e2, h2⟩
    · rw [e1, e2]
      exact h
    · rw [e1, e2]
      exact ih P2 Q2 h2
theorem zp_pair_c {f g : Nat → Int64} {n m : Nat} (hn : n ≤ 24) (hm : m ≤ 24) : ∀ (d i j : Nat) (P Q : zp_P), (n - i) + (m - j) ≤ d → zp_eqv P Q → zp_eqv (zp_pair f g n m i j P) (zp_pair f g n m i j Q) := by
  intro d
  induction d with
  | zero => intro i j P Q hd h; rw [zp_pair0 (by omega), zp_pair0 (by omega)]; exact h
  | succ d ih =>
    intro i j P Q hd h
    by_cases c : i < n ∧ j < m
    · by_cases c2 : f i = g j
      · rw [zp_pair1 c c2, zp_pair1 c c2]
        refine ih _ _ _ _ (by omega) ⟨fun x hx => ⟨?_, ?_⟩, ?_⟩
        · dsimp only
          unfold va_up
          split
          · rfl
          · exact (h.1 x hx).1
        · dsimp only
          unfold va_up
          split
          · rfl
          · exact (h.1 x hx).2
        · dsimp only
          rw [h.2]
      · by_cases c3 : zp_L f g n m i (j + 1) ≤ zp_L f g n m (i + 1) j
        · rw [zp_pair2 c c2 c3, zp_pair2 c c2 c3]
          exact ih _ _ _ _ (by omega) h
        · rw [zp_pair3 c c2 c3, zp_pair3 c c2 c3]
          exact ih _ _ _ _ (by omega) h
    · rw [zp_pair0 c, zp_pair0 c]
      exact h
theorem zu_self {α : Type} (f : Nat → α) (k : Nat) : va_up f k (f k) = f := by
  funext j
  by_cases h : j = k
  · simp [va_up, h]
  · simp [va_up, h]
/-- the reference's places of a's lines in b: the pure ones -/
theorem zr_places {S : zm_S} {a b n m run : Nat} (ha : a < 17) (hb : b < 17) (hn : n ≤ 24) (hm : m ≤ 24) (hA : S.2.1 2 a = nI n) (hB : S.2.1 2 b = nI m) (hr : S.2.1 7 0 = nI run) (hr9 : run ≤ 9) (hr1 : 1 ≤ run) : ∃ (cm : Nat → Int32) (P : zp_P), zg_X10_places S (nI a) (nI b) = some (zr_m S cm P) ∧ zp_eqv P (zp_match (zr_ln S a) (zr_ln S b) n m run) := by
  have e0 : zg_p (zg_p S 28 0) 29 0 = zr_m S (S.2.1 25) (S.2.1 26, S.2.1 27, 0, 0) := by
    unfold zg_p zr_m
    dsimp only
    rw [zu_self, zu_self, zu_self]
    rfl
  obtain ⟨p2, u2, e1, h1⟩ := zr_fill (S := S) (cm := S.2.1 25) (c := (0, 0)) (nI a) (nI b) 24 2000 0 (S.2.1 26) (S.2.1 27) (by omega) (by omega) (fun i hi => by omega)
  obtain ⟨c2, e2⟩ := zr_pairs (S := S) (cm := S.2.1 25) (P := (p2, u2, 0, 0)) ha hb hn hm hA hB
  have hv : zp_eqv (zp_pair (zr_ln S a) (zr_ln S b) n m 0 0 (p2, u2, 0, 0)) (zp_pair (zr_ln S a) (zr_ln S b) n m 0 0 zp_P0) := zp_pair_c hn hm (n + m) 0 0 _ _ (by omega) ⟨fun i hi => h1 i hi, rfl⟩
  have e3 := zr_iter (S := S) (cm := c2) ha hb hn hm hA hB hr hr9 hr1 25 2000 (zp_pair (zr_ln S a) (zr_ln S b) n m 0 0 (p2, u2, 0, 0)) (by have := zp_free_n (zp_pair (zr_ln S a) (zr_ln S b) n m 0 0 (p2, u2, 0, 0)).1 n; omega) (by omega)
  refine ⟨c2, _, ?_, zp_iter_c (run := run) hn hm 25 _ _ hv⟩
  unfold zg_X10_places
  rw [zo_s, zo_s, e0, show (0 : Int32) = nI 0 by decide, e1, zo_s, e2, zo_s, e3, zo_s]
