/-! pure: places depend on the lines alone, and are lines of the other; a step likewise; chains -/
theorem zp_L_fg {f g f2 g2 : Nat → Int64} {n m : Nat} (hf : ∀ i, i < n → f i = f2 i) (hg : ∀ j, j < m → g j = g2 j) : ∀ (d i j : Nat), (n - i) + (m - j) ≤ d → zp_L f g n m i j = zp_L f2 g2 n m i j := by
  intro d
  induction d with
  | zero =>
    intro i j h
    rw [zp_L0 (by omega), zp_L0 (by omega)]
  | succ d ih =>
    intro i j h
    by_cases c : i < n ∧ j < m
    · by_cases e : f i = g j
      · rw [zp_L1 c e, zp_L1 c (by rw [← hf i c.1, ← hg j c.2]; exact e), ih _ _ (by omega)]
      · rw [zp_L2 c e, zp_L2 c (by rw [← hf i c.1, ← hg j c.2]; exact e), ih (i + 1) j (by omega), ih i (j + 1) (by omega)]
    · rw [zp_L0 c, zp_L0 c]
theorem zp_pair_fg {f g f2 g2 : Nat → Int64} {n m : Nat} (hf : ∀ i, i < n → f i = f2 i) (hg : ∀ j, j < m → g j = g2 j) : ∀ (d i j : Nat) (P : zp_P), (n - i) + (m - j) ≤ d → zp_pair f g n m i j P = zp_pair f2 g2 n m i j P := by
  intro d
  induction d with
  | zero =>
    intro i j P h
    rw [zp_pair0 (by omega), zp_pair0 (by omega)]
  | succ d ih =>
    intro i j P h
    by_cases c : i < n ∧ j < m
    · have q := fun i j => zp_L_fg hf hg ((n - i) + (m - j)) i j (Nat.le_refl _)
      by_cases e : f i = g j
      · rw [zp_pair1 c e, zp_pair1 c (by rw [← hf i c.1, ← hg j c.2]; exact e), ih _ _ _ (by omega)]
      · have e2 : ¬ f2 i = g2 j := by rw [← hf i c.1, ← hg j c.2]; exact e
        by_cases l : zp_L f g n m i (j + 1) ≤ zp_L f g n m (i + 1) j
        · rw [zp_pair2 c e l, zp_pair2 c e2 (by rw [← q, ← q]; exact l), ih _ _ _ (by omega)]
        · rw [zp_pair3 c e l, zp_pair3 c e2 (by rw [← q, ← q]; exact l), ih _ _ _ (by omega)]
    · rw [zp_pair0 c, zp_pair0 c]
theorem zp_run_fg {f g f2 g2 : Nat → Int64} {n m : Nat} {P : zp_P} (hf : ∀ i, i < n → f i = f2 i) (hg : ∀ j, j < m → g j = g2 j) : ∀ (d i j : Nat), n - i ≤ d → zp_run f g n m P i j = zp_run f2 g2 n m P i j := by
  intro d
  induction d with
  | zero =>
    intro i j h
    rw [zp_run0 (by omega), zp_run0 (by omega)]
  | succ d ih =>
    intro i j h
    by_cases c : i < n ∧ j < m ∧ f i = g j ∧ P.1 i = -1 ∧ P.2.1 j = 0
    · rw [zp_run1 c, zp_run1 ⟨c.1, c.2.1, by rw [← hf i c.1, ← hg j c.2.1]; exact c.2.2.1, c.2.2.2⟩, ih _ _ (by omega)]
    · rw [zp_run0 c, zp_run0 (fun z => c ⟨z.1, z.2.1, by rw [hf i z.1, hg j z.2.1]; exact z.2.2.1, z.2.2.2⟩)]
theorem zp_bestJ_fg {f g f2 g2 : Nat → Int64} {n m : Nat} {P : zp_P} (h : ∀ i j, zp_run f g n m P i j = zp_run f2 g2 n m P i j) (i : Nat) : ∀ (k j : Nat) (B : Nat × Nat × Nat), zp_bestJ f g n m P i k j B = zp_bestJ f2 g2 n m P i k j B := by
  intro k
  induction k with
  | zero => intro j B; rfl
  | succ k ih =>
    intro j B
    unfold zp_bestJ
    rw [h, ih]
theorem zp_bestI_fg {f g f2 g2 : Nat → Int64} {n m : Nat} {P : zp_P} (h : ∀ i j, zp_run f g n m P i j = zp_run f2 g2 n m P i j) : ∀ (k i : Nat) (B : Nat × Nat × Nat), zp_bestI f g n m P k i B = zp_bestI f2 g2 n m P k i B := by
  intro k
  induction k with
  | zero => intro i B; rfl
  | succ k ih =>
    intro i B
    unfold zp_bestI
    rw [zp_bestJ_fg h, ih]
theorem zp_move_fg {f g f2 g2 : Nat → Int64} {n m run : Nat} {P : zp_P} (hf : ∀ i, i < n → f i = f2 i) (hg : ∀ j, j < m → g j = g2 j) : zp_move f g n m run P = zp_move f2 g2 n m run P := by
  have e : zp_best f g n m P = zp_best f2 g2 n m P := zp_bestI_fg (fun i j => zp_run_fg hf hg n i j (Nat.sub_le _ _)) n 0 _
  unfold zp_move
  rw [e]
theorem zp_iter_fg {f g f2 g2 : Nat → Int64} {n m run : Nat} (hf : ∀ i, i < n → f i = f2 i) (hg : ∀ j, j < m → g j = g2 j) : ∀ (k : Nat) (P : zp_P), zp_iter f g n m run k P = zp_iter f2 g2 n m run k P := by
  intro k
  induction k with
  | zero => intro P; rfl
  | succ k ih =>
    intro P
    unfold zp_iter
    rw [zp_move_fg hf hg]
    cases zp_move f2 g2 n m run P with
    | none => rfl
    | some P2 => exact ih P2
theorem zp_match_fg {f g f2 g2 : Nat → Int64} {n m run : Nat} (hf : ∀ i, i < n → f i = f2 i) (hg : ∀ j, j < m → g j = g2 j) : zp_match f g n m run = zp_match f2 g2 n m run := by
  unfold zp_match
  rw [zp_pair_fg hf hg (n + m) 0 0 _ (by omega), zp_iter_fg hf hg]
/-- a place is none, or a line of the other; behind the lines there is none -/
def zp_good (n m : Nat) (p : Nat → Int32) : Prop := ∀ i, (n ≤ i → p i = -1) ∧ (p i = -1 ∨ ∃ j, j < m ∧ p i = nI j)
theorem zp_good_up {n m i j : Nat} {p : Nat → Int32} (h : zp_good n m p) (hi : i < n) (hj : j < m) : zp_good n m (va_up p i (nI j)) := by
  intro x
  by_cases c : x = i
  · subst c
    rw [va_up_self]
    exact ⟨fun z => by omega, Or.inr ⟨j, hj, rfl⟩⟩
  · rw [va_up_ne _ _ c]
    exact h x
theorem zp_pair_good {f g : Nat → Int64} {n m : Nat} : ∀ (d i j : Nat) (P : zp_P), (n - i) + (m - j) ≤ d → zp_good n m P.1 → zp_good n m (zp_pair f g n m i j P).1 := by
  intro d
  induction d with
  | zero =>
    intro i j P h hg
    rw [zp_pair0 (by omega)]
    exact hg
  | succ d ih =>
    intro i j P h hg
    by_cases c : i < n ∧ j < m
    · by_cases e : f i = g j
      · rw [zp_pair1 c e]
        exact ih _ _ _ (by omega) (zp_good_up hg c.1 c.2)
      · by_cases l : zp_L f g n m i (j + 1) ≤ zp_L f g n m (i + 1) j
        · rw [zp_pair2 c e l]
          exact ih _ _ _ (by omega) hg
        · rw [zp_pair3 c e l]
          exact ih _ _ _ (by omega) hg
    · rw [zp_pair0 c]
      exact hg
theorem zp_put_good {n m : Nat} (i j : Nat) : ∀ (k : Nat) (A : (Nat → Int32) × (Nat → Int32)), i + k ≤ n → j + k ≤ m → zp_good n m A.1 → zp_good n m (zp_put i j k A).1 := by
  intro k
  induction k with
  | zero => intro A _ _ h; exact h
  | succ k ih =>
    intro A h1 h2 h
    unfold zp_put
    exact zp_good_up (ih A (by omega) (by omega) h) (by omega) (by omega)
theorem zp_move_good {f g : Nat → Int64} {n m run : Nat} {P P2 : zp_P} (h : zp_good n m P.1) (e : zp_move f g n m run P = some P2) : zp_good n m P2.1 := by
  have hb := zp_best_ok f g n m P
  unfold zp_move at e
  by_cases c : (zp_best f g n m P).1 < run
  · rw [if_pos c] at e
    cases e
  · rw [if_neg c] at e
    cases e
    exact zp_put_good _ _ _ _ hb.1 hb.2.1 h
theorem zp_iter_good {f g : Nat → Int64} {n m run : Nat} : ∀ (k : Nat) (P : zp_P), zp_good n m P.1 → zp_good n m (zp_iter f g n m run k P).1 := by
  intro k
  induction k with
  | zero => intro P h; exact h
  | succ k ih =>
    intro P h
    unfold zp_iter
    cases e : zp_move f g n m run P with
    | none => exact h
    | some P2 => exact ih P2 (zp_move_good h e)
theorem zp_match_good (f g : Nat → Int64) (n m run : Nat) : zp_good n m (zp_match f g n m run).1 := zp_iter_good _ _ (zp_pair_good _ _ _ _ (Nat.le_refl _) (fun _ => ⟨fun _ => rfl, Or.inl rfl⟩))
/-- a step depends on the lines that there are -/
theorem zq_at_c {f f2 : Nat → Int64} {n : Nat} (h : ∀ i, i < n → f i = f2 i) (i : Nat) : zq_at f n i = zq_at f2 n i := by
  unfold zq_at
  by_cases c : 1 ≤ i ∧ i ≤ n
  · rw [if_pos c, if_pos c, h _ (by omega)]
  · rw [if_neg c, if_neg c]
theorem zq_sc_c {f f2 g g2 : Nat → Int64} {n m p size : Nat} (hf : ∀ i, i < n → f i = f2 i) (hg : ∀ i, i < m → g i = g2 i) : zq_sc f n g m p size = zq_sc f2 n g2 m p size := by
  funext s
  unfold zq_sc
  exact zq_scs_c _ (fun i _ => ⟨zq_at_c hf _, zq_at_c hg _⟩)
theorem zq_step_c {ln ln2 : Nat → Nat → Int64} {cnt : Nat → Nat} {co co2 : Nat → Nat → Int32} {need margin kind a b : Nat} {T : zq_T} (h1 : ∀ i, i < cnt T.2.2.1 → ln T.2.2.1 i = ln2 T.2.2.1 i) (h2 : ∀ i, i < cnt b → ln b i = ln2 b i) (h3 : co b = co2 b) : zq_step ln cnt co need margin kind a b T = zq_step ln2 cnt co2 need margin kind a b T := by
  have e : zq_best ln cnt b T = zq_best ln2 cnt b T := by
    unfold zq_best
    rw [zq_sc_c h1 h2]
  unfold zq_step zq_goT
  rw [h3, e]
/-- the chain of t back to r -/
def zq_way (F : Nat → Int32) (r : Nat) : Nat → Nat → Option (List Nat)
  | 0, _ => none
  | k + 1, t => if t = r then some [t] else if F t = -1 then none else (zq_way F r k (F t).toNatClampNeg).map (t :: ·)
/-- a remark along a way: k steps done -/
def zq_seq (st : Nat → zq_T → zq_T) (l : List Nat) : Nat → zq_T → zq_T
  | 0, T => T
  | k + 1, T => st (l.getD (l.length - 2 - k) 0) (zq_seq st l k T)
theorem zq_way0 {F : Nat → Int32} {r k t : Nat} {l : List Nat} (h : zq_way F r k t = some l) : 0 < l.length ∧ l.getD 0 0 = t ∧ l.getD (l.length - 1) 0 = r := by
  induction k generalizing t l with
  | zero => cases h
  | succ k ih =>
    unfold zq_way at h
    by_cases c : t = r
    · rw [if_pos c] at h
      cases h
      exact ⟨Nat.zero_lt_succ _, rfl, c⟩
    · rw [if_neg c] at h
      by_cases d : F t = -1
      · rw [if_pos d] at h
        cases h
      · rw [if_neg d] at h
        cases e : zq_way F r k (F t).toNatClampNeg with
        | none => rw [e] at h; cases h
        | some l2 =>
          rw [e] at h
          cases h
          obtain ⟨h1, h2, h3⟩ := ih e
          refine ⟨Nat.zero_lt_succ _, rfl, ?_⟩
          rw [← h3, List.length_cons, Nat.add_sub_cancel]
          cases l2 with
          | nil => cases h1
          | cons x l3 => rfl
