/-! the class: its own cells as an overlay of a world -/
abbrev zy_D : Type := (Nat → Nat → Int32) × (Nat → Nat → Int32) × (Nat → Nat → Int64)
def zy_n (k : Nat) : Bool := k != 3 && k != 4 && k != 6 && k != 7 && k != 16
def zy_c (z k : Nat) (i a : Nat → Int32) (j : Nat → Int64) : va_E := match k with
  | 0 => .inr (9, [.ref (z + 1), .ref (z + 2), .ref (z + 5), .int (i 3), .ref (z + 8), .int (i 5), .ref (z + 9), .ref (z + 11), .ref (z + 15), .ref (z + 18), .ref (z + 20)])
  | 1 => .inl (3, 8, .inr (.inr (.inr (.inr (fun s => if s < 8 then some (z + (22 + 2 * s)) else none)))))
  | 2 => .inr (6, [.ref (z + 3), .ref (z + 4), .int (i 2), .int (i 3), .int (i 4), .int (i 5), .int (i 6)])
  | 3 => .inr (0, [])
  | 4 => .inr (0, [])
  | 5 => .inr (6, [.ref (z + 6), .ref (z + 7), .int (i 2), .int (i 3), .int (i 4), .int (i 5), .int (i 6)])
  | 6 => .inr (0, [])
  | 7 => .inr (0, [])
  | 8 => .inl (0, 8, .inl a)
  | 9 => .inr (0, [.ref (z + 10), .int (i 1)])
  | 10 => .inl (1, 24, .inr (.inl j))
  | 11 => .inr (1, [.ref (z + 12), .ref (z + 13), .ref (z + 14), .int (i 3), .int (i 4)])
  | 12 => .inl (0, 625, .inl a)
  | 13 => .inl (0, 24, .inl a)
  | 14 => .inl (2, 24, .inl a)
  | 15 => .inr (8, [.ref (z + 2), .ref (z + 16), .int (i 2), .int (i 3), .ref (z + 17), .int (i 5), .int (i 6), .int (i 7), .int (i 8)])
  | 16 => .inr (0, [])
  | 17 => .inl (1, 26, .inr (.inl j))
  | 18 => .inr (7, [.ref (z + 2), .ref (z + 15), .ref (z + 19), .int (i 3), .int (i 4)])
  | 19 => .inl (0, 16, .inl a)
  | 20 => .inr (2, [.ref (z + 21), .int (i 1), .int (i 2), .int (i 3), .int (i 4)])
  | 21 => .inl (0, 20, .inl a)
  | k + 22 => if k % 2 = 0 then .inr (5, [.int (i 0), .int (i 1), .ref (z + (k + 23))]) else .inl (1, 160, .inr (.inl j))
def zy_h (z : Nat) (D : zy_D) (h : zc_H) : zc_H := (fun x => if z ≤ x ∧ x < z + 38 ∧ zy_n (x - z) = true then some (zy_c z (x - z) (D.1 (x - z)) (D.2.1 (x - z)) (D.2.2 (x - z))) else h.1 x, h.2)
theorem zy_2 (z : Nat) (D : zy_D) (h : zc_H) : (zy_h z D h).2 = h.2 := rfl
theorem zy_at {z k : Nat} {D : zy_D} {h : zc_H} (hk : k < 38) (hn : zy_n k = true) : (zy_h z D h).1 (z + k) = some (zy_c z k (D.1 k) (D.2.1 k) (D.2.2 k)) := by
  unfold zy_h
  dsimp only
  rw [Nat.add_sub_cancel_left, if_pos ⟨Nat.le_add_right _ _, by omega, hn⟩]
theorem zy_o {z x : Nat} {D : zy_D} {h : zc_H} (hx : x < z ∨ z + 38 ≤ x) : (zy_h z D h).1 x = h.1 x := by
  unfold zy_h
  dsimp only
  rw [if_neg (fun q => by omega)]
theorem zy_l {z k : Nat} {D : zy_D} {h : zc_H} (hn : zy_n k = false) : (zy_h z D h).1 (z + k) = h.1 (z + k) := by
  unfold zy_h
  dsimp only
  rw [Nat.add_sub_cancel_left, if_neg (fun q => by rw [q.2.2] at hn; cases hn)]
theorem zy_up {z k : Nat} {D : zy_D} {h : zc_H} {i a : Nat → Int32} {j : Nat → Int64} (hk : k < 38) (hn : zy_n k = true) : zf_up (zy_h z D h) (z + k) (zy_c z k i a j) = zy_h z (va_up D.1 k i, va_up D.2.1 k a, va_up D.2.2 k j) h := by
  refine Prod.ext ?_ rfl
  funext x
  unfold zf_up zy_h va_up
  dsimp only
  by_cases c : x = z + k
  · subst c
    rw [if_pos rfl, if_pos ⟨by omega, by omega, by rw [Nat.add_sub_cancel_left]; exact hn⟩, Nat.add_sub_cancel_left, if_pos rfl, if_pos rfl, if_pos rfl]
  · rw [if_neg c]
    by_cases c2 : z ≤ x ∧ x < z + 38 ∧ zy_n (x - z) = true
    · rw [if_pos c2, if_pos c2, if_neg (by omega), if_neg (by omega), if_neg (by omega)]
    · rw [if_neg c2, if_neg c2]
/-- a number, an element of a row, is put in -/
def zy_I (D : zy_D) (k f : Nat) (x : Int32) : zy_D := (va_up D.1 k (va_up (D.1 k) f x), D.2)
def zy_A (D : zy_D) (k : Nat) (a : Nat → Int32) : zy_D := (D.1, va_up D.2.1 k a, D.2.2)
def zy_J (D : zy_D) (k : Nat) (j : Nat → Int64) : zy_D := (D.1, D.2.1, va_up D.2.2 k j)
theorem zy_uI {z k f : Nat} {x : Int32} {D : zy_D} {h : zc_H} {e : va_E} (hk : k < 38) (hn : zy_n k = true) (he : e = zy_c z k (va_up (D.1 k) f x) (D.2.1 k) (D.2.2 k)) : zf_up (zy_h z D h) (z + k) e = zy_h z (zy_I D k f x) h := by
  rw [he, zy_up hk hn, zu_self, zu_self]
  rfl
theorem zy_uA {z k : Nat} {a : Nat → Int32} {D : zy_D} {h : zc_H} {e : va_E} (hk : k < 38) (hn : zy_n k = true) (he : e = zy_c z k (D.1 k) a (D.2.2 k)) : zf_up (zy_h z D h) (z + k) e = zy_h z (zy_A D k a) h := by
  rw [he, zy_up hk hn, zu_self, zu_self]
  rfl
theorem zy_uJ {z k : Nat} {j : Nat → Int64} {D : zy_D} {h : zc_H} {e : va_E} (hk : k < 38) (hn : zy_n k = true) (he : e = zy_c z k (D.1 k) (D.2.1 k) j) : zf_up (zy_h z D h) (z + k) e = zy_h z (zy_J D k j) h := by
  rw [he, zy_up hk hn, zu_self, zu_self]
  rfl
theorem zy_new {z : Nat} {D : zy_D} {h : zc_H} {e : va_E} (hz : z + 38 ≤ h.2.1) : zf_new (zy_h z D h) e = zy_h z D (zf_new h e) := by
  refine Prod.ext ?_ rfl
  funext x
  unfold zf_new zy_h va_up
  dsimp only
  by_cases c : x = h.2.1
  · rw [if_pos c, if_neg (fun q => by omega), if_pos c]
  · rw [if_neg c]
    by_cases c2 : z ≤ x ∧ x < z + 38 ∧ zy_n (x - z) = true
    · rw [if_pos c2, if_pos c2]
    · rw [if_neg c2, if_neg c2, if_neg c]
theorem zy_out {z x : Nat} {D : zy_D} {h : zc_H} {e : va_E} (hx : z + 38 ≤ x) : zf_up (zy_h z D h) x e = zy_h z D (zf_up h x e) := by
  refine Prod.ext ?_ rfl
  funext y
  unfold zf_up zy_h va_up
  dsimp only
  by_cases c : y = x
  · rw [if_pos c, if_neg (fun q => by omega), if_pos c]
  · rw [if_neg c]
    by_cases c2 : z ≤ y ∧ y < z + 38 ∧ zy_n (y - z) = true
    · rw [if_pos c2, if_pos c2]
    · rw [if_neg c2, if_neg c2, if_neg c]
def zy_is (z : Nat) (D : zy_D) (w : zc_H) : Prop := ∀ k, k < 38 → zy_n k = true → w.1 (z + k) = some (zy_c z k (D.1 k) (D.2.1 k) (D.2.2 k))
theorem zy_is_h (z : Nat) (D : zy_D) (h : zc_H) : zy_is z D (zy_h z D h) := fun _ hk hn => zy_at hk hn
theorem zy_is_e {z : Nat} {D : zy_D} {w : zc_H} (h : zy_is z D w) : zy_h z D w = w := by
  refine Prod.ext ?_ rfl
  funext x
  unfold zy_h
  dsimp only
  by_cases c : z ≤ x ∧ x < z + 38 ∧ zy_n (x - z) = true
  · rw [if_pos c, ← h (x - z) (by omega) c.2.2, Nat.add_sub_cancel' c.1]
  · rw [if_neg c]
theorem zy_hh (z : Nat) (D D2 : zy_D) (h : zc_H) : zy_h z D2 (zy_h z D h) = zy_h z D2 h := by
  refine Prod.ext ?_ rfl
  funext x
  unfold zy_h
  dsimp only
  by_cases c : z ≤ x ∧ x < z + 38 ∧ zy_n (x - z) = true
  · rw [if_pos c, if_pos c]
  · rw [if_neg c, if_neg c, if_neg c]
theorem zy_vI {z k f : Nat} {x : Int32} {D : zy_D} {h : zc_H} {e : va_E} (A : zy_is z D h) (hk : k < 38) (hn : zy_n k = true) (he : e = zy_c z k (va_up (D.1 k) f x) (D.2.1 k) (D.2.2 k)) : zf_up h (z + k) e = zy_h z (zy_I D k f x) h := (congrArg (fun w => zf_up w (z + k) e) (zy_is_e A).symm).trans (zy_uI hk hn he)
theorem zy_vA {z k : Nat} {a : Nat → Int32} {D : zy_D} {h : zc_H} {e : va_E} (A : zy_is z D h) (hk : k < 38) (hn : zy_n k = true) (he : e = zy_c z k (D.1 k) a (D.2.2 k)) : zf_up h (z + k) e = zy_h z (zy_A D k a) h := (congrArg (fun w => zf_up w (z + k) e) (zy_is_e A).symm).trans (zy_uA hk hn he)
theorem zy_vJ {z k : Nat} {j : Nat → Int64} {D : zy_D} {h : zc_H} {e : va_E} (A : zy_is z D h) (hk : k < 38) (hn : zy_n k = true) (he : e = zy_c z k (D.1 k) (D.2.1 k) j) : zf_up h (z + k) e = zy_h z (zy_J D k j) h := (congrArg (fun w => zf_up w (z + k) e) (zy_is_e A).symm).trans (zy_uJ hk hn he)
section ZY
variable {z : Nat} {D : zy_D} {h : zc_H} {x : Int32}
theorem zy_is0 (A : zy_is z D h) : ¬ ¬ zf_is h z 9 = true := zb_is (A 0 (by decide) rfl : h.1 z = _)
theorem zy_r0_0 (A : zy_is z D h) : zf_gr h z 9 0 = some (some (z + 1)) := zb_gr (x := some (z + 1)) (A 0 (by decide) rfl : h.1 z = _) rfl
theorem zy_r0_1 (A : zy_is z D h) : zf_gr h z 9 1 = some (some (z + 2)) := zb_gr (x := some (z + 2)) (A 0 (by decide) rfl : h.1 z = _) rfl
theorem zy_r0_2 (A : zy_is z D h) : zf_gr h z 9 2 = some (some (z + 5)) := zb_gr (x := some (z + 5)) (A 0 (by decide) rfl : h.1 z = _) rfl
theorem zy_g0_3 (A : zy_is z D h) : zf_gi h z 9 3 = some (D.1 0 3) := zb_gi (A 0 (by decide) rfl : h.1 z = _) rfl
theorem zy_p0_3 (A : zy_is z D h) : zf_p h z 9 3 (.int x) = some (zy_h z (zy_I D 0 3 x) h) := (zb_p (A 0 (by decide) rfl : h.1 z = _) (Nat.le_of_ble_eq_true rfl)).trans (congrArg some (zy_vI A (k := 0) (by decide) rfl rfl))
theorem zy_r0_4 (A : zy_is z D h) : zf_gr h z 9 4 = some (some (z + 8)) := zb_gr (x := some (z + 8)) (A 0 (by decide) rfl : h.1 z = _) rfl
theorem zy_g0_5 (A : zy_is z D h) : zf_gi h z 9 5 = some (D.1 0 5) := zb_gi (A 0 (by decide) rfl : h.1 z = _) rfl
theorem zy_p0_5 (A : zy_is z D h) : zf_p h z 9 5 (.int x) = some (zy_h z (zy_I D 0 5 x) h) := (zb_p (A 0 (by decide) rfl : h.1 z = _) (Nat.le_of_ble_eq_true rfl)).trans (congrArg some (zy_vI A (k := 0) (by decide) rfl rfl))
theorem zy_r0_6 (A : zy_is z D h) : zf_gr h z 9 6 = some (some (z + 9)) := zb_gr (x := some (z + 9)) (A 0 (by decide) rfl : h.1 z = _) rfl
theorem zy_r0_7 (A : zy_is z D h) : zf_gr h z 9 7 = some (some (z + 11)) := zb_gr (x := some (z + 11)) (A 0 (by decide) rfl : h.1 z = _) rfl
theorem zy_r0_8 (A : zy_is z D h) : zf_gr h z 9 8 = some (some (z + 15)) := zb_gr (x := some (z + 15)) (A 0 (by decide) rfl : h.1 z = _) rfl
theorem zy_r0_9 (A : zy_is z D h) : zf_gr h z 9 9 = some (some (z + 18)) := zb_gr (x := some (z + 18)) (A 0 (by decide) rfl : h.1 z = _) rfl
theorem zy_r0_10 (A : zy_is z D h) : zf_gr h z 9 10 = some (some (z + 20)) := zb_gr (x := some (z + 20)) (A 0 (by decide) rfl : h.1 z = _) rfl
theorem zy_is2 (A : zy_is z D h) : ¬ ¬ zf_is h (z + 2) 6 = true := zb_is (A 2 (by decide) rfl : h.1 (z + 2) = _)
theorem zy_r2_0 (A : zy_is z D h) : zf_gr h (z + 2) 6 0 = some (some (z + 3)) := zb_gr (x := some (z + 3)) (A 2 (by decide) rfl : h.1 (z + 2) = _) rfl
theorem zy_r2_1 (A : zy_is z D h) : zf_gr h (z + 2) 6 1 = some (some (z + 4)) := zb_gr (x := some (z + 4)) (A 2 (by decide) rfl : h.1 (z + 2) = _) rfl
theorem zy_g2_2 (A : zy_is z D h) : zf_gi h (z + 2) 6 2 = some (D.1 2 2) := zb_gi (A 2 (by decide) rfl : h.1 (z + 2) = _) rfl
theorem zy_p2_2 (A : zy_is z D h) : zf_p h (z + 2) 6 2 (.int x) = some (zy_h z (zy_I D 2 2 x) h) := (zb_p (A 2 (by decide) rfl : h.1 (z + 2) = _) (Nat.le_of_ble_eq_true rfl)).trans (congrArg some (zy_vI A (k := 2) (by decide) rfl rfl))
theorem zy_g2_3 (A : zy_is z D h) : zf_gi h (z + 2) 6 3 = some (D.1 2 3) := zb_gi (A 2 (by decide) rfl : h.1 (z + 2) = _) rfl
theorem zy_p2_3 (A : zy_is z D h) : zf_p h (z + 2) 6 3 (.int x) = some (zy_h z (zy_I D 2 3 x) h) := (zb_p (A 2 (by decide) rfl : h.1 (z + 2) = _) (Nat.le_of_ble_eq_true rfl)).trans (congrArg some (zy_vI A (k := 2) (by decide) rfl rfl))
theorem zy_g2_4 (A : zy_is z D h) : zf_gi h (z + 2) 6 4 = some (D.1 2 4) := zb_gi (A 2 (by decide) rfl : h.1 (z + 2) = _) rfl
theorem zy_p2_4 (A : zy_is z D h) : zf_p h (z + 2) 6 4 (.int x) = some (zy_h z (zy_I D 2 4 x) h) := (zb_p (A 2 (by decide) rfl : h.1 (z + 2) = _) (Nat.le_of_ble_eq_true rfl)).trans (congrArg some (zy_vI A (k := 2) (by decide) rfl rfl))
theorem zy_g2_5 (A : zy_is z D h) : zf_gi h (z + 2) 6 5 = some (D.1 2 5) := zb_gi (A 2 (by decide) rfl : h.1 (z + 2) = _) rfl
theorem zy_p2_5 (A : zy_is z D h) : zf_p h (z + 2) 6 5 (.int x) = some (zy_h z (zy_I D 2 5 x) h) := (zb_p (A 2 (by decide) rfl : h.1 (z + 2) = _) (Nat.le_of_ble_eq_true rfl)).trans (congrArg some (zy_vI A (k := 2) (by decide) rfl rfl))
theorem zy_g2_6 (A : zy_is z D h) : zf_gi h (z + 2) 6 6 = some (D.1 2 6) := zb_gi (A 2 (by decide) rfl : h.1 (z + 2) = _) rfl
theorem zy_p2_6 (A : zy_is z D h) : zf_p h (z + 2) 6 6 (.int x) = some (zy_h z (zy_I D 2 6 x) h) := (zb_p (A 2 (by decide) rfl : h.1 (z + 2) = _) (Nat.le_of_ble_eq_true rfl)).trans (congrArg some (zy_vI A (k := 2) (by decide) rfl rfl))
theorem zy_is5 (A : zy_is z D h) : ¬ ¬ zf_is h (z + 5) 6 = true := zb_is (A 5 (by decide) rfl : h.1 (z + 5) = _)
theorem zy_r5_0 (A : zy_is z D h) : zf_gr h (z + 5) 6 0 = some (some (z + 6)) := zb_gr (x := some (z + 6)) (A 5 (by decide) rfl : h.1 (z + 5) = _) rfl
theorem zy_r5_1 (A : zy_is z D h) : zf_gr h (z + 5) 6 1 = some (some (z + 7)) := zb_gr (x := some (z + 7)) (A 5 (by decide) rfl : h.1 (z + 5) = _) rfl
theorem zy_g5_2 (A : zy_is z D h) : zf_gi h (z + 5) 6 2 = some (D.1 5 2) := zb_gi (A 5 (by decide) rfl : h.1 (z + 5) = _) rfl
theorem zy_p5_2 (A : zy_is z D h) : zf_p h (z + 5) 6 2 (.int x) = some (zy_h z (zy_I D 5 2 x) h) := (zb_p (A 5 (by decide) rfl : h.1 (z + 5) = _) (Nat.le_of_ble_eq_true rfl)).trans (congrArg some (zy_vI A (k := 5) (by decide) rfl rfl))
theorem zy_g5_3 (A : zy_is z D h) : zf_gi h (z + 5) 6 3 = some (D.1 5 3) := zb_gi (A 5 (by decide) rfl : h.1 (z + 5) = _) rfl
theorem zy_p5_3 (A : zy_is z D h) : zf_p h (z + 5) 6 3 (.int x) = some (zy_h z (zy_I D 5 3 x) h) := (zb_p (A 5 (by decide) rfl : h.1 (z + 5) = _) (Nat.le_of_ble_eq_true rfl)).trans (congrArg some (zy_vI A (k := 5) (by decide) rfl rfl))
theorem zy_g5_4 (A : zy_is z D h) : zf_gi h (z + 5) 6 4 = some (D.1 5 4) := zb_gi (A 5 (by decide) rfl : h.1 (z + 5) = _) rfl
theorem zy_p5_4 (A : zy_is z D h) : zf_p h (z + 5) 6 4 (.int x) = some (zy_h z (zy_I D 5 4 x) h) := (zb_p (A 5 (by decide) rfl : h.1 (z + 5) = _) (Nat.le_of_ble_eq_true rfl)).trans (congrArg some (zy_vI A (k := 5) (by decide) rfl rfl))
theorem zy_g5_5 (A : zy_is z D h) : zf_gi h (z + 5) 6 5 = some (D.1 5 5) := zb_gi (A 5 (by decide) rfl : h.1 (z + 5) = _) rfl
theorem zy_p5_5 (A : zy_is z D h) : zf_p h (z + 5) 6 5 (.int x) = some (zy_h z (zy_I D 5 5 x) h) := (zb_p (A 5 (by decide) rfl : h.1 (z + 5) = _) (Nat.le_of_ble_eq_true rfl)).trans (congrArg some (zy_vI A (k := 5) (by decide) rfl rfl))
theorem zy_g5_6 (A : zy_is z D h) : zf_gi h (z + 5) 6 6 = some (D.1 5 6) := zb_gi (A 5 (by decide) rfl : h.1 (z + 5) = _) rfl
theorem zy_p5_6 (A : zy_is z D h) : zf_p h (z + 5) 6 6 (.int x) = some (zy_h z (zy_I D 5 6 x) h) := (zb_p (A 5 (by decide) rfl : h.1 (z + 5) = _) (Nat.le_of_ble_eq_true rfl)).trans (congrArg some (zy_vI A (k := 5) (by decide) rfl rfl))
theorem zy_is9 (A : zy_is z D h) : ¬ ¬ zf_is h (z + 9) 0 = true := zb_is (A 9 (by decide) rfl : h.1 (z + 9) = _)
theorem zy_r9_0 (A : zy_is z D h) : zf_gr h (z + 9) 0 0 = some (some (z + 10)) := zb_gr (x := some (z + 10)) (A 9 (by decide) rfl : h.1 (z + 9) = _) rfl
theorem zy_g9_1 (A : zy_is z D h) : zf_gi h (z + 9) 0 1 = some (D.1 9 1) := zb_gi (A 9 (by decide) rfl : h.1 (z + 9) = _) rfl
theorem zy_p9_1 (A : zy_is z D h) : zf_p h (z + 9) 0 1 (.int x) = some (zy_h z (zy_I D 9 1 x) h) := (zb_p (A 9 (by decide) rfl : h.1 (z + 9) = _) (Nat.le_of_ble_eq_true rfl)).trans (congrArg some (zy_vI A (k := 9) (by decide) rfl rfl))
theorem zy_is11 (A : zy_is z D h) : ¬ ¬ zf_is h (z + 11) 1 = true := zb_is (A 11 (by decide) rfl : h.1 (z + 11) = _)
theorem zy_r11_0 (A : zy_is z D h) : zf_gr h (z + 11) 1 0 = some (some (z + 12)) := zb_gr (x := some (z + 12)) (A 11 (by decide) rfl : h.1 (z + 11) = _) rfl
theorem zy_r11_1 (A : zy_is z D h) : zf_gr h (z + 11) 1 1 = some (some (z + 13)) := zb_gr (x := some (z + 13)) (A 11 (by decide) rfl : h.1 (z + 11) = _) rfl
theorem zy_r11_2 (A : zy_is z D h) : zf_gr h (z + 11) 1 2 = some (some (z + 14)) := zb_gr (x := some (z + 14)) (A 11 (by decide) rfl : h.1 (z + 11) = _) rfl
theorem zy_g11_3 (A : zy_is z D h) : zf_gi h (z + 11) 1 3 = some (D.1 11 3) := zb_gi (A 11 (by decide) rfl : h.1 (z + 11) = _) rfl
theorem zy_p11_3 (A : zy_is z D h) : zf_p h (z + 11) 1 3 (.int x) = some (zy_h z (zy_I D 11 3 x) h) := (zb_p (A 11 (by decide) rfl : h.1 (z + 11) = _) (Nat.le_of_ble_eq_true rfl)).trans (congrArg some (zy_vI A (k := 11) (by decide) rfl rfl))
theorem zy_g11_4 (A : zy_is z D h) : zf_gi h (z + 11) 1 4 = some (D.1 11 4) := zb_gi (A 11 (by decide) rfl : h.1 (z + 11) = _) rfl
theorem zy_p11_4 (A : zy_is z D h) : zf_p h (z + 11) 1 4 (.int x) = some (zy_h z (zy_I D 11 4 x) h) := (zb_p (A 11 (by decide) rfl : h.1 (z + 11) = _) (Nat.le_of_ble_eq_true rfl)).trans (congrArg some (zy_vI A (k := 11) (by decide) rfl rfl))
theorem zy_is15 (A : zy_is z D h) : ¬ ¬ zf_is h (z + 15) 8 = true := zb_is (A 15 (by decide) rfl : h.1 (z + 15) = _)
theorem zy_r15_0 (A : zy_is z D h) : zf_gr h (z + 15) 8 0 = some (some (z + 2)) := zb_gr (x := some (z + 2)) (A 15 (by decide) rfl : h.1 (z + 15) = _) rfl
theorem zy_r15_1 (A : zy_is z D h) : zf_gr h (z + 15) 8 1 = some (some (z + 16)) := zb_gr (x := some (z + 16)) (A 15 (by decide) rfl : h.1 (z + 15) = _) rfl
theorem zy_g15_2 (A : zy_is z D h) : zf_gi h (z + 15) 8 2 = some (D.1 15 2) := zb_gi (A 15 (by decide) rfl : h.1 (z + 15) = _) rfl
theorem zy_p15_2 (A : zy_is z D h) : zf_p h (z + 15) 8 2 (.int x) = some (zy_h z (zy_I D 15 2 x) h) := (zb_p (A 15 (by decide) rfl : h.1 (z + 15) = _) (Nat.le_of_ble_eq_true rfl)).trans (congrArg some (zy_vI A (k := 15) (by decide) rfl rfl))
theorem zy_g15_3 (A : zy_is z D h) : zf_gi h (z + 15) 8 3 = some (D.1 15 3) := zb_gi (A 15 (by decide) rfl : h.1 (z + 15) = _) rfl
theorem zy_p15_3 (A : zy_is z D h) : zf_p h (z + 15) 8 3 (.int x) = some (zy_h z (zy_I D 15 3 x) h) := (zb_p (A 15 (by decide) rfl : h.1 (z + 15) = _) (Nat.le_of_ble_eq_true rfl)).trans (congrArg some (zy_vI A (k := 15) (by decide) rfl rfl))
theorem zy_r15_4 (A : zy_is z D h) : zf_gr h (z + 15) 8 4 = some (some (z + 17)) := zb_gr (x := some (z + 17)) (A 15 (by decide) rfl : h.1 (z + 15) = _) rfl
theorem zy_g15_5 (A : zy_is z D h) : zf_gi h (z + 15) 8 5 = some (D.1 15 5) := zb_gi (A 15 (by decide) rfl : h.1 (z + 15) = _) rfl
theorem zy_p15_5 (A : zy_is z D h) : zf_p h (z + 15) 8 5 (.int x) = some (zy_h z (zy_I D 15 5 x) h) := (zb_p (A 15 (by decide) rfl : h.1 (z + 15) = _) (Nat.le_of_ble_eq_true rfl)).trans (congrArg some (zy_vI A (k := 15) (by decide) rfl rfl))
theorem zy_g15_6 (A : zy_is z D h) : zf_gi h (z + 15) 8 6 = some (D.1 15 6) := zb_gi (A 15 (by decide) rfl : h.1 (z + 15) = _) rfl
theorem zy_p15_6 (A : zy_is z D h) : zf_p h (z + 15) 8 6 (.int x) = some (zy_h z (zy_I D 15 6 x) h) := (zb_p (A 15 (by decide) rfl : h.1 (z + 15) = _) (Nat.le_of_ble_eq_true rfl)).trans (congrArg some (zy_vI A (k := 15) (by decide) rfl rfl))
theorem zy_g15_7 (A : zy_is z D h) : zf_gi h (z + 15) 8 7 = some (D.1 15 7) := zb_gi (A 15 (by decide) rfl : h.1 (z + 15) = _) rfl
theorem zy_p15_7 (A : zy_is z D h) : zf_p h (z + 15) 8 7 (.int x) = some (zy_h z (zy_I D 15 7 x) h) := (zb_p (A 15 (by decide) rfl : h.1 (z + 15) = _) (Nat.le_of_ble_eq_true rfl)).trans (congrArg some (zy_vI A (k := 15) (by decide) rfl rfl))
theorem zy_g15_8 (A : zy_is z D h) : zf_gi h (z + 15) 8 8 = some (D.1 15 8) := zb_gi (A 15 (by decide) rfl : h.1 (z + 15) = _) rfl
theorem zy_p15_8 (A : zy_is z D h) : zf_p h (z + 15) 8 8 (.int x) = some (zy_h z (zy_I D 15 8 x) h) := (zb_p (A 15 (by decide) rfl : h.1 (z + 15) = _) (Nat.le_of_ble_eq_true rfl)).trans (congrArg some (zy_vI A (k := 15) (by decide) rfl rfl))
theorem zy_is18 (A : zy_is z D h) : ¬ ¬ zf_is h (z + 18) 7 = true := zb_is (A 18 (by decide) rfl : h.1 (z + 18) = _)
theorem zy_r18_0 (A : zy_is z D h) : zf_gr h (z + 18) 7 0 = some (some (z + 2)) := zb_gr (x := some (z + 2)) (A 18 (by decide) rfl : h.1 (z + 18) = _) rfl
theorem zy_r18_1 (A : zy_is z D h) : zf_gr h (z + 18) 7 1 = some (some (z + 15)) := zb_gr (x := some (z + 15)) (A 18 (by decide) rfl : h.1 (z + 18) = _) rfl
theorem zy_r18_2 (A : zy_is z D h) : zf_gr h (z + 18) 7 2 = some (some (z + 19)) := zb_gr (x := some (z + 19)) (A 18 (by decide) rfl : h.1 (z + 18) = _) rfl
theorem zy_g18_3 (A : zy_is z D h) : zf_gi h (z + 18) 7 3 = some (D.1 18 3) := zb_gi (A 18 (by decide) rfl : h.1 (z + 18) = _) rfl
theorem zy_p18_3 (A : zy_is z D h) : zf_p h (z + 18) 7 3 (.int x) = some (zy_h z (zy_I D 18 3 x) h) := (zb_p (A 18 (by decide) rfl : h.1 (z + 18) = _) (Nat.le_of_ble_eq_true rfl)).trans (congrArg some (zy_vI A (k := 18) (by decide) rfl rfl))
theorem zy_g18_4 (A : zy_is z D h) : zf_gi h (z + 18) 7 4 = some (D.1 18 4) := zb_gi (A 18 (by decide) rfl : h.1 (z + 18) = _) rfl
theorem zy_p18_4 (A : zy_is z D h) : zf_p h (z + 18) 7 4 (.int x) = some (zy_h z (zy_I D 18 4 x) h) := (zb_p (A 18 (by decide) rfl : h.1 (z + 18) = _) (Nat.le_of_ble_eq_true rfl)).trans (congrArg some (zy_vI A (k := 18) (by decide) rfl rfl))
theorem zy_is20 (A : zy_is z D h) : ¬ ¬ zf_is h (z + 20) 2 = true := zb_is (A 20 (by decide) rfl : h.1 (z + 20) = _)
theorem zy_r20_0 (A : zy_is z D h) : zf_gr h (z + 20) 2 0 = some (some (z + 21)) := zb_gr (x := some (z + 21)) (A 20 (by decide) rfl : h.1 (z + 20) = _) rfl
theorem zy_g20_1 (A : zy_is z D h) : zf_gi h (z + 20) 2 1 = some (D.1 20 1) := zb_gi (A 20 (by decide) rfl : h.1 (z + 20) = _) rfl
theorem zy_p20_1 (A : zy_is z D h) : zf_p h (z + 20) 2 1 (.int x) = some (zy_h z (zy_I D 20 1 x) h) := (zb_p (A 20 (by decide) rfl : h.1 (z + 20) = _) (Nat.le_of_ble_eq_true rfl)).trans (congrArg some (zy_vI A (k := 20) (by decide) rfl rfl))
theorem zy_g20_2 (A : zy_is z D h) : zf_gi h (z + 20) 2 2 = some (D.1 20 2) := zb_gi (A 20 (by decide) rfl : h.1 (z + 20) = _) rfl
theorem zy_p20_2 (A : zy_is z D h) : zf_p h (z + 20) 2 2 (.int x) = some (zy_h z (zy_I D 20 2 x) h) := (zb_p (A 20 (by decide) rfl : h.1 (z + 20) = _) (Nat.le_of_ble_eq_true rfl)).trans (congrArg some (zy_vI A (k := 20) (by decide) rfl rfl))
theorem zy_g20_3 (A : zy_is z D h) : zf_gi h (z + 20) 2 3 = some (D.1 20 3) := zb_gi (A 20 (by decide) rfl : h.1 (z + 20) = _) rfl
theorem zy_p20_3 (A : zy_is z D h) : zf_p h (z + 20) 2 3 (.int x) = some (zy_h z (zy_I D 20 3 x) h) := (zb_p (A 20 (by decide) rfl : h.1 (z + 20) = _) (Nat.le_of_ble_eq_true rfl)).trans (congrArg some (zy_vI A (k := 20) (by decide) rfl rfl))
theorem zy_g20_4 (A : zy_is z D h) : zf_gi h (z + 20) 2 4 = some (D.1 20 4) := zb_gi (A 20 (by decide) rfl : h.1 (z + 20) = _) rfl
theorem zy_p20_4 (A : zy_is z D h) : zf_p h (z + 20) 2 4 (.int x) = some (zy_h z (zy_I D 20 4 x) h) := (zb_p (A 20 (by decide) rfl : h.1 (z + 20) = _) (Nat.le_of_ble_eq_true rfl)).trans (congrArg some (zy_vI A (k := 20) (by decide) rfl rfl))
theorem zy_n8 (A : zy_is z D h) (hz : h.2.2 < z) : zf_len h (z + 8) = some 8 := zb_len (t := 0) (A 8 (by decide) rfl : h.1 (z + 8) = _) (by show z + 8 ≠ h.2.2; omega)
theorem zy_a8 (A : zy_is z D h) {i : Nat} (hi : i < 8) : zf_ai h (z + 8) 0 (nI i) = some (D.2.1 8 i) := zb_ai (A 8 (by decide) rfl : h.1 (z + 8) = _) hi (by decide)
theorem zy_s8 (A : zy_is z D h) {i : Nat} (hi : i < 8) : zf_si h (z + 8) 0 (nI i) x = some (zy_h z (zy_A D 8 (va_up (D.2.1 8) i x)) h) := (zb_si (A 8 (by decide) rfl : h.1 (z + 8) = _) hi (by decide)).trans (congrArg some (zy_vA A (k := 8) (by decide) rfl rfl))
theorem zy_n12 (A : zy_is z D h) (hz : h.2.2 < z) : zf_len h (z + 12) = some 625 := zb_len (t := 0) (A 12 (by decide) rfl : h.1 (z + 12) = _) (by show z + 12 ≠ h.2.2; omega)
theorem zy_a12 (A : zy_is z D h) {i : Nat} (hi : i < 625) : zf_ai h (z + 12) 0 (nI i) = some (D.2.1 12 i) := zb_ai (A 12 (by decide) rfl : h.1 (z + 12) = _) hi (by decide)
theorem zy_s12 (A : zy_is z D h) {i : Nat} (hi : i < 625) : zf_si h (z + 12) 0 (nI i) x = some (zy_h z (zy_A D 12 (va_up (D.2.1 12) i x)) h) := (zb_si (A 12 (by decide) rfl : h.1 (z + 12) = _) hi (by decide)).trans (congrArg some (zy_vA A (k := 12) (by decide) rfl rfl))
theorem zy_n13 (A : zy_is z D h) (hz : h.2.2 < z) : zf_len h (z + 13) = some 24 := zb_len (t := 0) (A 13 (by decide) rfl : h.1 (z + 13) = _) (by show z + 13 ≠ h.2.2; omega)
theorem zy_a13 (A : zy_is z D h) {i : Nat} (hi : i < 24) : zf_ai h (z + 13) 0 (nI i) = some (D.2.1 13 i) := zb_ai (A 13 (by decide) rfl : h.1 (z + 13) = _) hi (by decide)
theorem zy_s13 (A : zy_is z D h) {i : Nat} (hi : i < 24) : zf_si h (z + 13) 0 (nI i) x = some (zy_h z (zy_A D 13 (va_up (D.2.1 13) i x)) h) := (zb_si (A 13 (by decide) rfl : h.1 (z + 13) = _) hi (by decide)).trans (congrArg some (zy_vA A (k := 13) (by decide) rfl rfl))
theorem zy_n14 (A : zy_is z D h) (hz : h.2.2 < z) : zf_len h (z + 14) = some 24 := zb_len (t := 2) (A 14 (by decide) rfl : h.1 (z + 14) = _) (by show z + 14 ≠ h.2.2; omega)
theorem zy_a14 (A : zy_is z D h) {i : Nat} (hi : i < 24) : zf_ai h (z + 14) 2 (nI i) = some (D.2.1 14 i) := zb_ai (A 14 (by decide) rfl : h.1 (z + 14) = _) hi (by decide)
theorem zy_s14 (A : zy_is z D h) {i : Nat} (hi : i < 24) : zf_si h (z + 14) 2 (nI i) x = some (zy_h z (zy_A D 14 (va_up (D.2.1 14) i x)) h) := (zb_si (A 14 (by decide) rfl : h.1 (z + 14) = _) hi (by decide)).trans (congrArg some (zy_vA A (k := 14) (by decide) rfl rfl))
theorem zy_n19 (A : zy_is z D h) (hz : h.2.2 < z) : zf_len h (z + 19) = some 16 := zb_len (t := 0) (A 19 (by decide) rfl : h.1 (z + 19) = _) (by show z + 19 ≠ h.2.2; omega)
theorem zy_a19 (A : zy_is z D h) {i : Nat} (hi : i < 16) : zf_ai h (z + 19) 0 (nI i) = some (D.2.1 19 i) := zb_ai (A 19 (by decide) rfl : h.1 (z + 19) = _) hi (by decide)
theorem zy_s19 (A : zy_is z D h) {i : Nat} (hi : i < 16) : zf_si h (z + 19) 0 (nI i) x = some (zy_h z (zy_A D 19 (va_up (D.2.1 19) i x)) h) := (zb_si (A 19 (by decide) rfl : h.1 (z + 19) = _) hi (by decide)).trans (congrArg some (zy_vA A (k := 19) (by decide) rfl rfl))
theorem zy_n21 (A : zy_is z D h) (hz : h.2.2 < z) : zf_len h (z + 21) = some 20 := zb_len (t := 0) (A 21 (by decide) rfl : h.1 (z + 21) = _) (by show z + 21 ≠ h.2.2; omega)
theorem zy_a21 (A : zy_is z D h) {i : Nat} (hi : i < 20) : zf_ai h (z + 21) 0 (nI i) = some (D.2.1 21 i) := zb_ai (A 21 (by decide) rfl : h.1 (z + 21) = _) hi (by decide)
theorem zy_s21 (A : zy_is z D h) {i : Nat} (hi : i < 20) : zf_si h (z + 21) 0 (nI i) x = some (zy_h z (zy_A D 21 (va_up (D.2.1 21) i x)) h) := (zb_si (A 21 (by decide) rfl : h.1 (z + 21) = _) hi (by decide)).trans (congrArg some (zy_vA A (k := 21) (by decide) rfl rfl))
theorem zy_n10 (A : zy_is z D h) (hz : h.2.2 < z) : zf_len h (z + 10) = some 24 := zb_len (t := 1) (A 10 (by decide) rfl : h.1 (z + 10) = _) (by show z + 10 ≠ h.2.2; omega)
theorem zy_a10 (A : zy_is z D h) {i : Nat} (hi : i < 24) : zf_aj h (z + 10) (nI i) = some (D.2.2 10 i) := zb_aj (A 10 (by decide) rfl : h.1 (z + 10) = _) hi (by decide)
theorem zy_s10 (A : zy_is z D h) {i : Nat} {y : Int64} (hi : i < 24) : zf_sj h (z + 10) (nI i) y = some (zy_h z (zy_J D 10 (va_up (D.2.2 10) i y)) h) := (zb_sj (A 10 (by decide) rfl : h.1 (z + 10) = _) hi (by decide)).trans (congrArg some (zy_vJ A (k := 10) (by decide) rfl rfl))
theorem zy_n17 (A : zy_is z D h) (hz : h.2.2 < z) : zf_len h (z + 17) = some 26 := zb_len (t := 1) (A 17 (by decide) rfl : h.1 (z + 17) = _) (by show z + 17 ≠ h.2.2; omega)
theorem zy_a17 (A : zy_is z D h) {i : Nat} (hi : i < 26) : zf_aj h (z + 17) (nI i) = some (D.2.2 17 i) := zb_aj (A 17 (by decide) rfl : h.1 (z + 17) = _) hi (by decide)
theorem zy_s17 (A : zy_is z D h) {i : Nat} {y : Int64} (hi : i < 26) : zf_sj h (z + 17) (nI i) y = some (zy_h z (zy_J D 17 (va_up (D.2.2 17) i y)) h) := (zb_sj (A 17 (by decide) rfl : h.1 (z + 17) = _) hi (by decide)).trans (congrArg some (zy_vJ A (k := 17) (by decide) rfl rfl))
theorem zy_c5 {s : Nat} {i a : Nat → Int32} {j : Nat → Int64} : zy_c z (22 + 2 * s) i a j = .inr (5, [.int (i 0), .int (i 1), .ref (z + (23 + 2 * s))]) := by
  rw [show 22 + 2 * s = 2 * s + 22 by omega, show 23 + 2 * s = 2 * s + 23 by omega]
  unfold zy_c
  dsimp only
  rw [if_pos (by omega)]
theorem zy_c6 {s : Nat} {i a : Nat → Int32} {j : Nat → Int64} : zy_c z (23 + 2 * s) i a j = .inl (1, 160, .inr (.inl j)) := by
  rw [show 23 + 2 * s = (2 * s + 1) + 22 by omega]
  unfold zy_c
  dsimp only
  rw [if_neg (by omega)]
theorem zy_n5 {s : Nat} : zy_n (22 + 2 * s) = true ∧ zy_n (23 + 2 * s) = true := by
  unfold zy_n
  simp only [Bool.and_eq_true, bne_iff_ne, ne_eq]
  omega
theorem zy_at5 (A : zy_is z D h) {s : Nat} (hs : s < 8) : h.1 (z + (22 + 2 * s)) = some (.inr (5, [.int (D.1 (22 + 2 * s) 0), .int (D.1 (22 + 2 * s) 1), .ref (z + (23 + 2 * s))])) := by
  rw [A _ (by omega) zy_n5.1, zy_c5]
theorem zy_at6 (A : zy_is z D h) {s : Nat} (hs : s < 8) : h.1 (z + (23 + 2 * s)) = some (.inl (1, 160, .inr (.inl (D.2.2 (23 + 2 * s))))) := by
  rw [A _ (by omega) zy_n5.2, zy_c6]
theorem zy_isS (A : zy_is z D h) {s : Nat} (hs : s < 8) : ¬ ¬ zf_is h (z + (22 + 2 * s)) 5 = true := zb_is (zy_at5 A hs)
theorem zy_gS0 (A : zy_is z D h) {s : Nat} (hs : s < 8) : zf_gi h (z + (22 + 2 * s)) 5 0 = some (D.1 (22 + 2 * s) 0) := zb_gi (zy_at5 A hs) rfl
theorem zy_gS1 (A : zy_is z D h) {s : Nat} (hs : s < 8) : zf_gi h (z + (22 + 2 * s)) 5 1 = some (D.1 (22 + 2 * s) 1) := zb_gi (zy_at5 A hs) rfl
theorem zy_rS2 (A : zy_is z D h) {s : Nat} (hs : s < 8) : zf_gr h (z + (22 + 2 * s)) 5 2 = some (some (z + (23 + 2 * s))) := zb_gr (x := some (z + (23 + 2 * s))) (zy_at5 A hs) rfl
theorem zy_pS0 (A : zy_is z D h) {s : Nat} (hs : s < 8) : zf_p h (z + (22 + 2 * s)) 5 0 (.int x) = some (zy_h z (zy_I D (22 + 2 * s) 0 x) h) := (zb_p (zy_at5 A hs) (Nat.le_of_ble_eq_true rfl)).trans (congrArg some (zy_vI A (k := 22 + 2 * s) (by omega) zy_n5.1 (by rw [zy_c5]; rfl)))
theorem zy_pS1 (A : zy_is z D h) {s : Nat} (hs : s < 8) : zf_p h (z + (22 + 2 * s)) 5 1 (.int x) = some (zy_h z (zy_I D (22 + 2 * s) 1 x) h) := (zb_p (zy_at5 A hs) (Nat.le_of_ble_eq_true rfl)).trans (congrArg some (zy_vI A (k := 22 + 2 * s) (by omega) zy_n5.1 (by rw [zy_c5]; rfl)))
theorem zy_nS (A : zy_is z D h) {s : Nat} (hs : s < 8) (hz : h.2.2 < z) : zf_len h (z + (23 + 2 * s)) = some 160 := zb_len (t := 1) (zy_at6 A hs) (by show z + (23 + 2 * s) ≠ h.2.2; omega)
theorem zy_aS (A : zy_is z D h) {s i : Nat} (hs : s < 8) (hi : i < 160) : zf_aj h (z + (23 + 2 * s)) (nI i) = some (D.2.2 (23 + 2 * s) i) := zb_aj (zy_at6 A hs) hi (by decide)
theorem zy_sS (A : zy_is z D h) {s i : Nat} {y : Int64} (hs : s < 8) (hi : i < 160) : zf_sj h (z + (23 + 2 * s)) (nI i) y = some (zy_h z (zy_J D (23 + 2 * s) (va_up (D.2.2 (23 + 2 * s)) i y)) h) := (zb_sj (zy_at6 A hs) hi (by decide)).trans (congrArg some (zy_vJ A (k := 23 + 2 * s) (by omega) zy_n5.2 (by rw [zy_c6])))
theorem zy_n1 (A : zy_is z D h) (hz : h.2.2 < z) : zf_len h (z + 1) = some 8 := zb_len (t := 3) (A 1 (by decide) rfl : h.1 (z + 1) = _) (by show z + 1 ≠ h.2.2; omega)
theorem zy_a1 (A : zy_is z D h) {s : Nat} (hs : s < 8) : zf_ar h (z + 1) 3 (nI s) = some (some (z + (22 + 2 * s))) := (zb_ar (A 1 (by decide) rfl : h.1 (z + 1) = _) hs (by decide)).trans (congrArg some (if_pos hs))
end ZY
