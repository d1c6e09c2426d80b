/-! what both programs compute: common lines, pairs, moved runs, places -/
theorem za_in {n i : Nat} (h : i < n) (hn : n < 2 ^ 31) : ¬ (nI i < 0 ∨ n ≤ (nI i).toNatClampNeg) := vp_in_nI h hn
theorem za_ai {n i : Nat} {f : Nat → Int32} (h : i < n) (hn : n < 2 ^ 31) : zg_ai n f (nI i) = some (f i) := by
  unfold zg_ai
  rw [if_neg (za_in h hn), nI_clamp (by omega)]
theorem za_aj {n i : Nat} {f : Nat → Int64} (h : i < n) (hn : n < 2 ^ 31) : zg_aj n f (nI i) = some (f i) := by
  unfold zg_aj
  rw [if_neg (za_in h hn), nI_clamp (by omega)]
theorem za_si {k n i : Nat} {S : zm_S} {x : Int32} (h : i < n) (hn : n < 2 ^ 31) : zg_si k n S (nI i) x = some (S.1, va_up S.2.1 k (va_up (S.2.1 k) i x), S.2.2) := by
  unfold zg_si
  rw [if_neg (za_in h hn), nI_clamp (by omega)]
theorem za_sj {k n i : Nat} {S : zm_S} {x : Int64} (h : i < n) (hn : n < 2 ^ 31) : zg_sj k n S (nI i) x = some (S.1, S.2.1, va_up S.2.2 k (va_up (S.2.2 k) i x)) := by
  unfold zg_sj
  rw [if_neg (za_in h hn), nI_clamp (by omega)]
theorem za_add (a b : Nat) : nI a + nI b = nI (a + b) := nI_add a b
theorem za_mul (a b : Nat) : nI a * nI b = nI (a * b) := by
  unfold nI
  exact (Int32.ofNat_mul a b).symm
theorem za_pm (k : Nat) : nI (k + 1) + (-1) = nI k := by
  rw [nI_succ, Int32.add_assoc]
  exact (congrArg (nI k + ·) (by decide)).trans (Int32.add_zero _)
theorem za_eq {a b : Nat} (ha : a < 2 ^ 31) (hb : b < 2 ^ 31) : nI a = nI b ↔ a = b := ⟨fun h => nI_eq ha hb |>.mp h, fun h => by rw [h]⟩
theorem za_lt {a b : Nat} (ha : a < 2 ^ 31) (hb : b < 2 ^ 31) : nI a < nI b ↔ a < b := ⟨fun h => Nat.not_le.mp fun z => nI_nlt z ha h, fun h => nI_lt h hb⟩
theorem za_le {a b : Nat} (ha : a < 2 ^ 31) (hb : b < 2 ^ 31) : nI a ≤ nI b ↔ a ≤ b := ⟨fun h => Nat.not_lt.mp fun z => nI_ge z ha h, fun h => nI_le h hb⟩
theorem za_m1 : ((-1 : Int32) < 0) := by decide
theorem za_ne (a : Nat) (ha : a < 2 ^ 31) : ¬ nI a = -1 := fun h => by
  have h1 := nI_pos ha
  rw [h] at h1
  exact h1 za_m1
/-- L(i, j) -/
def zp_L (f g : Nat → Int64) (n m : Nat) (i j : Nat) : Nat := if h : i < n ∧ j < m then (if f i = g j then zp_L f g n m (i + 1) (j + 1) + 1 else max (zp_L f g n m (i + 1) j) (zp_L f g n m i (j + 1))) else 0
termination_by (n - i) + (m - j)
decreasing_by all_goals omega
theorem zp_L0 {f g : Nat → Int64} {n m i j : Nat} (h : ¬ (i < n ∧ j < m)) : zp_L f g n m i j = 0 := by
  rw [zp_L, dif_neg h]
theorem zp_L1 {f g : Nat → Int64} {n m i j : Nat} (h : i < n ∧ j < m) (he : f i = g j) : zp_L f g n m i j = zp_L f g n m (i + 1) (j + 1) + 1 := by
  rw [zp_L, dif_pos h, if_pos he]
theorem zp_L2 {f g : Nat → Int64} {n m i j : Nat} (h : i < n ∧ j < m) (he : ¬ f i = g j) : zp_L f g n m i j = max (zp_L f g n m (i + 1) j) (zp_L f g n m i (j + 1)) := by
  rw [zp_L, dif_pos h, if_neg he]
theorem zp_Lle (f g : Nat → Int64) (n m : Nat) (i j : Nat) : zp_L f g n m i j ≤ n - i := by
  by_cases h : i < n ∧ j < m
  · by_cases he : f i = g j
    · rw [zp_L1 h he]
      have := zp_Lle f g n m (i + 1) (j + 1)
      omega
    · rw [zp_L2 h he]
      have h1 := zp_Lle f g n m (i + 1) j
      have h2 := zp_Lle f g n m i (j + 1)
      omega
  · rw [zp_L0 h]
    omega
termination_by (n - i) + (m - j)
decreasing_by all_goals omega
/-- a state of places: the place of each line of A, whether each line of B is taken, how many pairs, how many moved -/
abbrev zp_P : Type := (Nat → Int32) × (Nat → Int32) × Nat × Nat
def zp_pair (f g : Nat → Int64) (n m : Nat) (i j : Nat) (P : zp_P) : zp_P := if h : i < n ∧ j < m then
    (if f i = g j then zp_pair f g n m (i + 1) (j + 1) (va_up P.1 i (nI j), va_up P.2.1 j 1, P.2.2.1 + 1, P.2.2.2)
     else if zp_L f g n m i (j + 1) ≤ zp_L f g n m (i + 1) j then zp_pair f g n m (i + 1) j P else zp_pair f g n m i (j + 1) P)
  else P
termination_by (n - i) + (m - j)
decreasing_by all_goals omega
/-- how many lines from i and j on are alike one by one, and free -/
def zp_run (f g : Nat → Int64) (n m : Nat) (P : zp_P) (i j : Nat) : Nat := if h : i < n ∧ j < m then (if f i = g j ∧ P.1 i = -1 ∧ P.2.1 j = 0 then zp_run f g n m P (i + 1) (j + 1) + 1 else 0) else 0
termination_by n - i
decreasing_by all_goals omega
theorem zp_runle (f g : Nat → Int64) (n m : Nat) (P : zp_P) (i j : Nat) : zp_run f g n m P i j ≤ n - i := by
  rw [zp_run]
  split
  · split
    · have := zp_runle f g n m P (i + 1) (j + 1)
      omega
    · omega
  · omega
termination_by n - i
decreasing_by all_goals omega
/-- the longest run, the first of several: its length, from where, to where -/
def zp_bestJ (f g : Nat → Int64) (n m : Nat) (P : zp_P) (i : Nat) : Nat → Nat → Nat × Nat × Nat → Nat × Nat × Nat
  | 0, _, B => B
  | k + 1, j, B => zp_bestJ f g n m P i k (j + 1) (if B.1 < zp_run f g n m P i j then (zp_run f g n m P i j, i, j) else B)
def zp_bestI (f g : Nat → Int64) (n m : Nat) (P : zp_P) : Nat → Nat → Nat × Nat × Nat → Nat × Nat × Nat
  | 0, _, B => B
  | k + 1, i, B => zp_bestI f g n m P k (i + 1) (zp_bestJ f g n m P i m 0 B)
def zp_best (f g : Nat → Int64) (n m : Nat) (P : zp_P) : Nat × Nat × Nat := zp_bestI f g n m P n 0 (0, 0, 0)
/-- k lines from i on come to those from j on -/
def zp_put (i j : Nat) : Nat → (Nat → Int32) × (Nat → Int32) → (Nat → Int32) × (Nat → Int32)
  | 0, A => A
  | k + 1, A => (va_up (zp_put i j k A).1 (i + k) (nI (j + k)), va_up (zp_put i j k A).2 (j + k) 1)
def zp_move (f g : Nat → Int64) (n m run : Nat) (P : zp_P) : Option zp_P :=
  if (zp_best f g n m P).1 < run then none else some ((zp_put (zp_best f g n m P).2.1 (zp_best f g n m P).2.2 (zp_best f g n m P).1 (P.1, P.2.1)).1, (zp_put (zp_best f g n m P).2.1 (zp_best f g n m P).2.2 (zp_best f g n m P).1 (P.1, P.2.1)).2, P.2.2.1, P.2.2.2 + (zp_best f g n m P).1)
def zp_iter (f g : Nat → Int64) (n m run : Nat) : Nat → zp_P → zp_P
  | 0, P => P
  | k + 1, P => match zp_move f g n m run P with
    | none => P
    | some P2 => zp_iter f g n m run k P2
def zp_P0 : zp_P := (fun _ => -1, fun _ => 0, 0, 0)
def zp_match (f g : Nat → Int64) (n m run : Nat) : zp_P := zp_iter f g n m run 25 (zp_pair f g n m 0 0 zp_P0)
