/-! the reference without a heap: its numbers by field; its rows of numbers; its rows of longs -/
abbrev zm_S : Type := (Nat → Int32) × (Nat → Nat → Int32) × (Nat → Nat → Int64)
def zg_ai (n : Nat) (f : Nat → Int32) (i : Int32) : Option Int32 := if i < 0 ∨ n ≤ i.toNatClampNeg then none else some (f i.toNatClampNeg)
def zg_aj (n : Nat) (f : Nat → Int64) (i : Int32) : Option Int64 := if i < 0 ∨ n ≤ i.toNatClampNeg then none else some (f i.toNatClampNeg)
def zg_p (S : zm_S) (k : Nat) (x : Int32) : zm_S := (va_up S.1 k x, S.2)
def zg_si (k n : Nat) (S : zm_S) (i x : Int32) : Option zm_S := if i < 0 ∨ n ≤ i.toNatClampNeg then none else some (S.1, va_up S.2.1 k (va_up (S.2.1 k) i.toNatClampNeg x), S.2.2)
def zg_sj (k n : Nat) (S : zm_S) (i : Int32) (x : Int64) : Option zm_S := if i < 0 ∨ n ≤ i.toNatClampNeg then none else some (S.1, S.2.1, va_up S.2.2 k (va_up (S.2.2 k) i.toNatClampNeg x))
def zm_fs (q : Nat) (S : zm_S) : List Value := [.int (S.1 0), .ref (q + 1), .ref (q + 2), .ref (q + 3), .ref (q + 4), .int (S.1 5), .ref (q + 5), .ref (q + 6), .int (S.1 8), .ref (q + 7), .ref (q + 8), .ref (q + 9), .int (S.1 12), .int (S.1 13), .ref (q + 10), .ref (q + 11), .int (S.1 16), .int (S.1 17), .ref (q + 12), .ref (q + 13), .ref (q + 14), .int (S.1 21), .ref (q + 15), .ref (q + 16), .int (S.1 24), .ref (q + 17), .ref (q + 18), .ref (q + 19), .int (S.1 28), .int (S.1 29), .ref (q + 20), .int (S.1 31), .int (S.1 32), .int (S.1 33), .int (S.1 34), .int (S.1 35), .int (S.1 36), .ref (q + 21), .int (S.1 38), .int (S.1 39), .int (S.1 40)]
def zm_bl (S : zm_S) (k : Nat) : va_E := match k with
  | 1 => .inl (0, 16, .inl (S.2.1 1))
  | 2 => .inl (0, 17, .inl (S.2.1 2))
  | 3 => .inl (1, 408, .inr (.inl (S.2.2 3)))
  | 4 => .inl (0, 384, .inl (S.2.1 4))
  | 5 => .inl (0, 112, .inl (S.2.1 6))
  | 6 => .inl (0, 3, .inl (S.2.1 7))
  | 7 => .inl (0, 8, .inl (S.2.1 9))
  | 8 => .inl (0, 8, .inl (S.2.1 10))
  | 9 => .inl (1, 1280, .inr (.inl (S.2.2 11)))
  | 10 => .inl (0, 20, .inl (S.2.1 14))
  | 11 => .inl (0, 8, .inl (S.2.1 15))
  | 12 => .inl (0, 16, .inl (S.2.1 18))
  | 13 => .inl (0, 16, .inl (S.2.1 19))
  | 14 => .inl (1, 384, .inr (.inl (S.2.2 20)))
  | 15 => .inl (0, 112, .inl (S.2.1 22))
  | 16 => .inl (0, 3, .inl (S.2.1 23))
  | 17 => .inl (0, 625, .inl (S.2.1 25))
  | 18 => .inl (0, 24, .inl (S.2.1 26))
  | 19 => .inl (2, 24, .inl (S.2.1 27))
  | 20 => .inl (0, 16, .inl (S.2.1 30))
  | 21 => .inl (0, 16, .inl (S.2.1 37))
  | _ => .inr (0, [])
/-- the heap h0 with the reference at q and behind it -/
def zm_h (q : Nat) (h0 : zc_H) (S : zm_S) : zc_H := (fun a => if a = q then some (.inr (10, zm_fs q S)) else if q < a ∧ a < q + 22 then some (zm_bl S (a - q)) else h0.1 a, h0.2)
theorem zm_at (q : Nat) (h0 : zc_H) (S : zm_S) : (zm_h q h0 S).1 q = some (.inr (10, zm_fs q S)) := by simp [zm_h]
theorem zm_as (q : Nat) (h0 : zc_H) (S : zm_S) {k : Nat} (h1 : 0 < k) (h2 : k < 22) : (zm_h q h0 S).1 (q + k) = some (zm_bl S k) := by
  unfold zm_h
  simp only
  rw [if_neg (by omega), if_pos (by omega), Nat.add_sub_cancel_left]
theorem zm_is (q : Nat) (h0 : zc_H) (S : zm_S) : zf_is (zm_h q h0 S) q 10 = true := by simp [zf_is, zm_at]
theorem zm_upq (q : Nat) (h0 : zc_H) (S : zm_S) (k : Nat) (x : Int32) (hb : ∀ j, zm_bl (zg_p S k x) j = zm_bl S j) : zf_up (zm_h q h0 S) q (.inr (10, zm_fs q (zg_p S k x))) = zm_h q h0 (zg_p S k x) := by
  unfold zf_up zm_h
  simp only
  congr 1
  funext a
  by_cases ha : a = q
  · simp [va_up, ha]
  · simp [va_up, ha, hb]
theorem zm_upb (q : Nat) (h0 : zc_H) (S T : zm_S) (k : Nat) (h1 : 0 < k) (h2 : k < 22) (hf : zm_fs q T = zm_fs q S) (hb : ∀ j, j ≠ k → zm_bl T j = zm_bl S j) : zf_up (zm_h q h0 S) (q + k) (zm_bl T k) = zm_h q h0 T := by
  unfold zf_up zm_h
  simp only
  congr 1
  funext a
  by_cases ha : a = q + k
  · subst ha
    rw [va_up_self, if_neg (by omega), if_pos (by omega), Nat.add_sub_cancel_left]
  · rw [va_up_ne _ _ ha]
    by_cases hq : a = q
    · simp [hq, hf]
    · rw [if_neg hq, if_neg hq]
      by_cases hr : q < a ∧ a < q + 22
      · rw [if_pos hr, if_pos hr, hb (a - q) (by omega)]
      · rw [if_neg hr, if_neg hr]
theorem zo_mi {p : Prop} {_ : Decidable p} {α β : Type} (F : α → β) (x y : Option α) : (if p then x else y).map F = if p then x.map F else y.map F := by
  by_cases hp : p
  · rw [if_pos hp, if_pos hp]
  · rw [if_neg hp, if_neg hp]
theorem zo_ms {α β γ δ : Type} (F : γ → δ) (f : α → Option γ) (k : β → Option γ) (s : α ⊕ β) : (Sum.elim f k s).map F = Sum.elim (fun a => (f a).map F) (fun b => (k b).map F) s := by cases s <;> rfl
theorem zo_mb {α β γ : Type} (F : β → γ) (x : Option α) (f : α → Option β) : (x.bind f).map F = x.bind (fun a => (f a).map F) := by cases x <;> rfl
theorem zo_bm {α β γ : Type} (F : α → β) (x : Option α) (f : β → Option γ) : (x.map F).bind f = x.bind (fun a => f (F a)) := by cases x <;> rfl
theorem zo_s {α β : Type} (a : α) (f : α → Option β) : (some a).bind f = f a := rfl
theorem zo_m {α β : Type} (a : α) (F : α → β) : (some a).map F = some (F a) := rfl
theorem zo_st {α β γ : Type} {x : Option α} {f : α → Option β} {k : α → Option γ} {F : γ → β} (h : ∀ a, f a = (k a).map F) : x.bind f = (x.bind k).map F := by cases x with
  | none => rfl
  | some a => exact h a
theorem zo_st2 {α β γ δ : Type} {E : α → δ} {x : Option α} {f : δ → Option β} {k : α → Option γ} {F : γ → β} (h : ∀ a, f (E a) = (k a).map F) : (x.map E).bind f = (x.bind k).map F := by cases x with
  | none => rfl
  | some a => exact h a
theorem zo_if {p : Prop} {_ : Decidable p} {β γ : Type} {a b : Option β} {a2 b2 : Option γ} {F : γ → β} (h1 : p → a = a2.map F) (h2 : ¬ p → b = b2.map F) : (if p then a else b) = (if p then a2 else b2).map F := by
  by_cases hp : p
  · rw [if_pos hp, if_pos hp]; exact h1 hp
  · rw [if_neg hp, if_neg hp]; exact h2 hp
theorem zo_n0 {α β : Type} (F : α → β) : (none : Option α).map F = none := rfl

theorem zm_gi0 (q : Nat) (h0 : zc_H) (S : zm_S) : zf_gi (zm_h q h0 S) q 10 0 = some (S.1 0) := by simp only [zf_gi, zf_g, zm_at]; rfl
theorem zm_p0 (q : Nat) (h0 : zc_H) (S : zm_S) (x : Int32) : zf_p (zm_h q h0 S) q 10 0 (.int x) = some (zm_h q h0 (zg_p S 0 x)) := by
  have e : (zm_fs q S).set 0 (.int x) = zm_fs q (zg_p S 0 x) := by simp [zm_fs, zg_p, va_up]
  simp only [zf_p, zm_at]
  rw [if_pos ⟨by trivial, by show 0 < (zm_fs q S).length; simp [zm_fs]⟩, e, zm_upq q h0 S 0 x (fun j => rfl)]
theorem zm_gi5 (q : Nat) (h0 : zc_H) (S : zm_S) : zf_gi (zm_h q h0 S) q 10 5 = some (S.1 5) := by simp only [zf_gi, zf_g, zm_at]; rfl
theorem zm_p5 (q : Nat) (h0 : zc_H) (S : zm_S) (x : Int32) : zf_p (zm_h q h0 S) q 10 5 (.int x) = some (zm_h q h0 (zg_p S 5 x)) := by
  have e : (zm_fs q S).set 5 (.int x) = zm_fs q (zg_p S 5 x) := by simp [zm_fs, zg_p, va_up]
  simp only [zf_p, zm_at]
  rw [if_pos ⟨by trivial, by show 5 < (zm_fs q S).length; simp [zm_fs]⟩, e, zm_upq q h0 S 5 x (fun j => rfl)]
theorem zm_gi8 (q : Nat) (h0 : zc_H) (S : zm_S) : zf_gi (zm_h q h0 S) q 10 8 = some (S.1 8) := by simp only [zf_gi, zf_g, zm_at]; rfl
theorem zm_p8 (q : Nat) (h0 : zc_H) (S : zm_S) (x : Int32) : zf_p (zm_h q h0 S) q 10 8 (.int x) = some (zm_h q h0 (zg_p S 8 x)) := by
  have e : (zm_fs q S).set 8 (.int x) = zm_fs q (zg_p S 8 x) := by simp [zm_fs, zg_p, va_up]
  simp only [zf_p, zm_at]
  rw [if_pos ⟨by trivial, by show 8 < (zm_fs q S).length; simp [zm_fs]⟩, e, zm_upq q h0 S 8 x (fun j => rfl)]
theorem zm_gi12 (q : Nat) (h0 : zc_H) (S : zm_S) : zf_gi (zm_h q h0 S) q 10 12 = some (S.1 12) := by simp only [zf_gi, zf_g, zm_at]; rfl
theorem zm_p12 (q : Nat) (h0 : zc_H) (S : zm_S) (x : Int32) : zf_p (zm_h q h0 S) q 10 12 (.int x) = some (zm_h q h0 (zg_p S 12 x)) := by
  have e : (zm_fs q S).set 12 (.int x) = zm_fs q (zg_p S 12 x) := by simp [zm_fs, zg_p, va_up]
  simp only [zf_p, zm_at]
  rw [if_pos ⟨by trivial, by show 12 < (zm_fs q S).length; simp [zm_fs]⟩, e, zm_upq q h0 S 12 x (fun j => rfl)]
theorem zm_gi13 (q : Nat) (h0 : zc_H) (S : zm_S) : zf_gi (zm_h q h0 S) q 10 13 = some (S.1 13) := by simp only [zf_gi, zf_g, zm_at]; rfl
theorem zm_p13 (q : Nat) (h0 : zc_H) (S : zm_S) (x : Int32) : zf_p (zm_h q h0 S) q 10 13 (.int x) = some (zm_h q h0 (zg_p S 13 x)) := by
  have e : (zm_fs q S).set 13 (.int x) = zm_fs q (zg_p S 13 x) := by simp [zm_fs, zg_p, va_up]
  simp only [zf_p, zm_at]
  rw [if_pos ⟨by trivial, by show 13 < (zm_fs q S).length; simp [zm_fs]⟩, e, zm_upq q h0 S 13 x (fun j => rfl)]
theorem zm_gi16 (q : Nat) (h0 : zc_H) (S : zm_S) : zf_gi (zm_h q h0 S) q 10 16 = some (S.1 16) := by simp only [zf_gi, zf_g, zm_at]; rfl
theorem zm_p16 (q : Nat) (h0 : zc_H) (S : zm_S) (x : Int32) : zf_p (zm_h q h0 S) q 10 16 (.int x) = some (zm_h q h0 (zg_p S 16 x)) := by
  have e : (zm_fs q S).set 16 (.int x) = zm_fs q (zg_p S 16 x) := by simp [zm_fs, zg_p, va_up]
  simp only [zf_p, zm_at]
  rw [if_pos ⟨by trivial, by show 16 < (zm_fs q S).length; simp [zm_fs]⟩, e, zm_upq q h0 S 16 x (fun j => rfl)]
theorem zm_gi17 (q : Nat) (h0 : zc_H) (S : zm_S) : zf_gi (zm_h q h0 S) q 10 17 = some (S.1 17) := by simp only [zf_gi, zf_g, zm_at]; rfl
theorem zm_p17 (q : Nat) (h0 : zc_H) (S : zm_S) (x : Int32) : zf_p (zm_h q h0 S) q 10 17 (.int x) = some (zm_h q h0 (zg_p S 17 x)) := by
  have e : (zm_fs q S).set 17 (.int x) = zm_fs q (zg_p S 17 x) := by simp [zm_fs, zg_p, va_up]
  simp only [zf_p, zm_at]
  rw [if_pos ⟨by trivial, by show 17 < (zm_fs q S).length; simp [zm_fs]⟩, e, zm_upq q h0 S 17 x (fun j => rfl)]
theorem zm_gi21 (q : Nat) (h0 : zc_H) (S : zm_S) : zf_gi (zm_h q h0 S) q 10 21 = some (S.1 21) := by simp only [zf_gi, zf_g, zm_at]; rfl
theorem zm_p21 (q : Nat) (h0 : zc_H) (S : zm_S) (x : Int32) : zf_p (zm_h q h0 S) q 10 21 (.int x) = some (zm_h q h0 (zg_p S 21 x)) := by
  have e : (zm_fs q S).set 21 (.int x) = zm_fs q (zg_p S 21 x) := by simp [zm_fs, zg_p, va_up]
  simp only [zf_p, zm_at]
  rw [if_pos ⟨by trivial, by show 21 < (zm_fs q S).length; simp [zm_fs]⟩, e, zm_upq q h0 S 21 x (fun j => rfl)]
theorem zm_gi24 (q : Nat) (h0 : zc_H) (S : zm_S) : zf_gi (zm_h q h0 S) q 10 24 = some (S.1 24) := by simp only [zf_gi, zf_g, zm_at]; rfl
theorem zm_p24 (q : Nat) (h0 : zc_H) (S : zm_S) (x : Int32) : zf_p (zm_h q h0 S) q 10 24 (.int x) = some (zm_h q h0 (zg_p S 24 x)) := by
  have e : (zm_fs q S).set 24 (.int x) = zm_fs q (zg_p S 24 x) := by simp [zm_fs, zg_p, va_up]
  simp only [zf_p, zm_at]
  rw [if_pos ⟨by trivial, by show 24 < (zm_fs q S).length; simp [zm_fs]⟩, e, zm_upq q h0 S 24 x (fun j => rfl)]
theorem zm_gi28 (q : Nat) (h0 : zc_H) (S : zm_S) : zf_gi (zm_h q h0 S) q 10 28 = some (S.1 28) := by simp only [zf_gi, zf_g, zm_at]; rfl
theorem zm_p28 (q : Nat) (h0 : zc_H) (S : zm_S) (x : Int32) : zf_p (zm_h q h0 S) q 10 28 (.int x) = some (zm_h q h0 (zg_p S 28 x)) := by
  have e : (zm_fs q S).set 28 (.int x) = zm_fs q (zg_p S 28 x) := by simp [zm_fs, zg_p, va_up]
  simp only [zf_p, zm_at]
  rw [if_pos ⟨by trivial, by show 28 < (zm_fs q S).length; simp [zm_fs]⟩, e, zm_upq q h0 S 28 x (fun j => rfl)]
theorem zm_gi29 (q : Nat) (h0 : zc_H) (S : zm_S) : zf_gi (zm_h q h0 S) q 10 29 = some (S.1 29) := by simp only [zf_gi, zf_g, zm_at]; rfl
theorem zm_p29 (q : Nat) (h0 : zc_H) (S : zm_S) (x : Int32) : zf_p (zm_h q h0 S) q 10 29 (.int x) = some (zm_h q h0 (zg_p S 29 x)) := by
  have e : (zm_fs q S).set 29 (.int x) = zm_fs q (zg_p S 29 x) := by simp [zm_fs, zg_p, va_up]
  simp only [zf_p, zm_at]
  rw [if_pos ⟨by trivial, by show 29 < (zm_fs q S).length; simp [zm_fs]⟩, e, zm_upq q h0 S 29 x (fun j => rfl)]
theorem zm_gi31 (q : Nat) (h0 : zc_H) (S : zm_S) : zf_gi (zm_h q h0 S) q 10 31 = some (S.1 31) := by simp only [zf_gi, zf_g, zm_at]; rfl
theorem zm_p31 (q : Nat) (h0 : zc_H) (S : zm_S) (x : Int32) : zf_p (zm_h q h0 S) q 10 31 (.int x) = some (zm_h q h0 (zg_p S 31 x)) := by
  have e : (zm_fs q S).set 31 (.int x) = zm_fs q (zg_p S 31 x) := by simp [zm_fs, zg_p, va_up]
  simp only [zf_p, zm_at]
  rw [if_pos ⟨by trivial, by show 31 < (zm_fs q S).length; simp [zm_fs]⟩, e, zm_upq q h0 S 31 x (fun j => rfl)]
theorem zm_gi32 (q : Nat) (h0 : zc_H) (S : zm_S) : zf_gi (zm_h q h0 S) q 10 32 = some (S.1 32) := by simp only [zf_gi, zf_g, zm_at]; rfl
theorem zm_p32 (q : Nat) (h0 : zc_H) (S : zm_S) (x : Int32) : zf_p (zm_h q h0 S) q 10 32 (.int x) = some (zm_h q h0 (zg_p S 32 x)) := by
  have e : (zm_fs q S).set 32 (.int x) = zm_fs q (zg_p S 32 x) := by simp [zm_fs, zg_p, va_up]
  simp only [zf_p, zm_at]
  rw [if_pos ⟨by trivial, by show 32 < (zm_fs q S).length; simp [zm_fs]⟩, e, zm_upq q h0 S 32 x (fun j => rfl)]
theorem zm_gi33 (q : Nat) (h0 : zc_H) (S : zm_S) : zf_gi (zm_h q h0 S) q 10 33 = some (S.1 33) := by simp only [zf_gi, zf_g, zm_at]; rfl
theorem zm_p33 (q : Nat) (h0 : zc_H) (S : zm_S) (x : Int32) : zf_p (zm_h q h0 S) q 10 33 (.int x) = some (zm_h q h0 (zg_p S 33 x)) := by
  have e : (zm_fs q S).set 33 (.int x) = zm_fs q (zg_p S 33 x) := by simp [zm_fs, zg_p, va_up]
  simp only [zf_p, zm_at]
  rw [if_pos ⟨by trivial, by show 33 < (zm_fs q S).length; simp [zm_fs]⟩, e, zm_upq q h0 S 33 x (fun j => rfl)]
theorem zm_gi34 (q : Nat) (h0 : zc_H) (S : zm_S) : zf_gi (zm_h q h0 S) q 10 34 = some (S.1 34) := by simp only [zf_gi, zf_g, zm_at]; rfl
theorem zm_p34 (q : Nat) (h0 : zc_H) (S : zm_S) (x : Int32) : zf_p (zm_h q h0 S) q 10 34 (.int x) = some (zm_h q h0 (zg_p S 34 x)) := by
  have e : (zm_fs q S).set 34 (.int x) = zm_fs q (zg_p S 34 x) := by simp [zm_fs, zg_p, va_up]
  simp only [zf_p, zm_at]
  rw [if_pos ⟨by trivial, by show 34 < (zm_fs q S).length; simp [zm_fs]⟩, e, zm_upq q h0 S 34 x (fun j => rfl)]
theorem zm_gi35 (q : Nat) (h0 : zc_H) (S : zm_S) : zf_gi (zm_h q h0 S) q 10 35 = some (S.1 35) := by simp only [zf_gi, zf_g, zm_at]; rfl
theorem zm_p35 (q : Nat) (h0 : zc_H) (S : zm_S) (x : Int32) : zf_p (zm_h q h0 S) q 10 35 (.int x) = some (zm_h q h0 (zg_p S 35 x)) := by
  have e : (zm_fs q S).set 35 (.int x) = zm_fs q (zg_p S 35 x) := by simp [zm_fs, zg_p, va_up]
  simp only [zf_p, zm_at]
  rw [if_pos ⟨by trivial, by show 35 < (zm_fs q S).length; simp [zm_fs]⟩, e, zm_upq q h0 S 35 x (fun j => rfl)]
theorem zm_gi36 (q : Nat) (h0 : zc_H) (S : zm_S) : zf_gi (zm_h q h0 S) q 10 36 = some (S.1 36) := by simp only [zf_gi, zf_g, zm_at]; rfl
theorem zm_p36 (q : Nat) (h0 : zc_H) (S : zm_S) (x : Int32) : zf_p (zm_h q h0 S) q 10 36 (.int x) = some (zm_h q h0 (zg_p S 36 x)) := by
  have e : (zm_fs q S).set 36 (.int x) = zm_fs q (zg_p S 36 x) := by simp [zm_fs, zg_p, va_up]
  simp only [zf_p, zm_at]
  rw [if_pos ⟨by trivial, by show 36 < (zm_fs q S).length; simp [zm_fs]⟩, e, zm_upq q h0 S 36 x (fun j => rfl)]
theorem zm_gi38 (q : Nat) (h0 : zc_H) (S : zm_S) : zf_gi (zm_h q h0 S) q 10 38 = some (S.1 38) := by simp only [zf_gi, zf_g, zm_at]; rfl
theorem zm_p38 (q : Nat) (h0 : zc_H) (S : zm_S) (x : Int32) : zf_p (zm_h q h0 S) q 10 38 (.int x) = some (zm_h q h0 (zg_p S 38 x)) := by
  have e : (zm_fs q S).set 38 (.int x) = zm_fs q (zg_p S 38 x) := by simp [zm_fs, zg_p, va_up]
  simp only [zf_p, zm_at]
  rw [if_pos ⟨by trivial, by show 38 < (zm_fs q S).length; simp [zm_fs]⟩, e, zm_upq q h0 S 38 x (fun j => rfl)]
theorem zm_gi39 (q : Nat) (h0 : zc_H) (S : zm_S) : zf_gi (zm_h q h0 S) q 10 39 = some (S.1 39) := by simp only [zf_gi, zf_g, zm_at]; rfl
theorem zm_p39 (q : Nat) (h0 : zc_H) (S : zm_S) (x : Int32) : zf_p (zm_h q h0 S) q 10 39 (.int x) = some (zm_h q h0 (zg_p S 39 x)) := by
  have e : (zm_fs q S).set 39 (.int x) = zm_fs q (zg_p S 39 x) := by simp [zm_fs, zg_p, va_up]
  simp only [zf_p, zm_at]
  rw [if_pos ⟨by trivial, by show 39 < (zm_fs q S).length; simp [zm_fs]⟩, e, zm_upq q h0 S 39 x (fun j => rfl)]
theorem zm_gi40 (q : Nat) (h0 : zc_H) (S : zm_S) : zf_gi (zm_h q h0 S) q 10 40 = some (S.1 40) := by simp only [zf_gi, zf_g, zm_at]; rfl
theorem zm_p40 (q : Nat) (h0 : zc_H) (S : zm_S) (x : Int32) : zf_p (zm_h q h0 S) q 10 40 (.int x) = some (zm_h q h0 (zg_p S 40 x)) := by
  have e : (zm_fs q S).set 40 (.int x) = zm_fs q (zg_p S 40 x) := by simp [zm_fs, zg_p, va_up]
  simp only [zf_p, zm_at]
  rw [if_pos ⟨by trivial, by show 40 < (zm_fs q S).length; simp [zm_fs]⟩, e, zm_upq q h0 S 40 x (fun j => rfl)]
theorem zm_gr1 (q : Nat) (h0 : zc_H) (S : zm_S) : zf_gr (zm_h q h0 S) q 10 1 = some (some (q + 1)) := by simp only [zf_gr, zf_g, zm_at]; rfl
theorem zm_a1 (q : Nat) (h0 : zc_H) (S : zm_S) (i : Int32) : zf_ai (zm_h q h0 S) (q + 1) 0 i = zg_ai 16 (S.2.1 1) i := by
  simp only [zf_ai, zm_as q h0 S (k := 1) (by decide) (by decide), zm_bl, zg_ai]
  by_cases hi : i < 0 ∨ 16 ≤ i.toNatClampNeg
  · rw [if_pos hi, if_neg (fun z => z.2 hi)]
  · rw [if_neg hi, if_pos ⟨by trivial, hi⟩]
theorem zm_s1 (q : Nat) (h0 : zc_H) (S : zm_S) (i x : Int32) : zf_si (zm_h q h0 S) (q + 1) 0 i x = (zg_si 1 16 S i x).map (zm_h q h0) := by
  simp only [zf_si, zm_as q h0 S (k := 1) (by decide) (by decide), zm_bl, zg_si]
  by_cases hi : i < 0 ∨ 16 ≤ i.toNatClampNeg
  · rw [if_pos hi, if_neg (fun z => z.2 hi)]; rfl
  · rw [if_neg hi, if_pos ⟨by trivial, hi⟩, zo_m]
    congr 1
    exact zm_upb q h0 S (S.1, va_up S.2.1 1 (va_up (S.2.1 1) i.toNatClampNeg x), S.2.2) 1 (by decide) (by decide) rfl (fun j hj => by unfold zm_bl; split <;> first | rfl | exact absurd rfl hj)
theorem zm_gr2 (q : Nat) (h0 : zc_H) (S : zm_S) : zf_gr (zm_h q h0 S) q 10 2 = some (some (q + 2)) := by simp only [zf_gr, zf_g, zm_at]; rfl
theorem zm_a2 (q : Nat) (h0 : zc_H) (S : zm_S) (i : Int32) : zf_ai (zm_h q h0 S) (q + 2) 0 i = zg_ai 17 (S.2.1 2) i := by
  simp only [zf_ai, zm_as q h0 S (k := 2) (by decide) (by decide), zm_bl, zg_ai]
  by_cases hi : i < 0 ∨ 17 ≤ i.toNatClampNeg
  · rw [if_pos hi, if_neg (fun z => z.2 hi)]
  · rw [if_neg hi, if_pos ⟨by trivial, hi⟩]
theorem zm_s2 (q : Nat) (h0 : zc_H) (S : zm_S) (i x : Int32) : zf_si (zm_h q h0 S) (q + 2) 0 i x = (zg_si 2 17 S i x).map (zm_h q h0) := by
  simp only [zf_si, zm_as q h0 S (k := 2) (by decide) (by decide), zm_bl, zg_si]
  by_cases hi : i < 0 ∨ 17 ≤ i.toNatClampNeg
  · rw [if_pos hi, if_neg (fun z => z.2 hi)]; rfl
  · rw [if_neg hi, if_pos ⟨by trivial, hi⟩, zo_m]
    congr 1
    exact zm_upb q h0 S (S.1, va_up S.2.1 2 (va_up (S.2.1 2) i.toNatClampNeg x), S.2.2) 2 (by decide) (by decide) rfl (fun j hj => by unfold zm_bl; split <;> first | rfl | exact absurd rfl hj)
theorem zm_gr3 (q : Nat) (h0 : zc_H) (S : zm_S) : zf_gr (zm_h q h0 S) q 10 3 = some (some (q + 3)) := by simp only [zf_gr, zf_g, zm_at]; rfl
theorem zm_a3 (q : Nat) (h0 : zc_H) (S : zm_S) (i : Int32) : zf_aj (zm_h q h0 S) (q + 3) i = zg_aj 408 (S.2.2 3) i := by
  simp only [zf_aj, zm_as q h0 S (k := 3) (by decide) (by decide), zm_bl, zg_aj]
  by_cases hi : i < 0 ∨ 408 ≤ i.toNatClampNeg
  · rw [if_pos hi, if_neg (fun z => z.2 hi)]
  · rw [if_neg hi, if_pos ⟨by trivial, hi⟩]
theorem zm_s3 (q : Nat) (h0 : zc_H) (S : zm_S) (i : Int32) (x : Int64) : zf_sj (zm_h q h0 S) (q + 3) i x = (zg_sj 3 408 S i x).map (zm_h q h0) := by
  simp only [zf_sj, zm_as q h0 S (k := 3) (by decide) (by decide), zm_bl, zg_sj]
  by_cases hi : i < 0 ∨ 408 ≤ i.toNatClampNeg
  · rw [if_pos hi, if_neg (fun z => z.2 hi)]; rfl
  · rw [if_neg hi, if_pos ⟨by trivial, hi⟩, zo_m]
    congr 1
    exact zm_upb q h0 S (S.1, S.2.1, va_up S.2.2 3 (va_up (S.2.2 3) i.toNatClampNeg x)) 3 (by decide) (by decide) rfl (fun j hj => by unfold zm_bl; split <;> first | rfl | exact absurd rfl hj)
theorem zm_gr4 (q : Nat) (h0 : zc_H) (S : zm_S) : zf_gr (zm_h q h0 S) q 10 4 = some (some (q + 4)) := by simp only [zf_gr, zf_g, zm_at]; rfl
theorem zm_a4 (q : Nat) (h0 : zc_H) (S : zm_S) (i : Int32) : zf_ai (zm_h q h0 S) (q + 4) 0 i = zg_ai 384 (S.2.1 4) i := by
  simp only [zf_ai, zm_as q h0 S (k := 4) (by decide) (by decide), zm_bl, zg_ai]
  by_cases hi : i < 0 ∨ 384 ≤ i.toNatClampNeg
  · rw [if_pos hi, if_neg (fun z => z.2 hi)]
  · rw [if_neg hi, if_pos ⟨by trivial, hi⟩]
theorem zm_s4 (q : Nat) (h0 : zc_H) (S : zm_S) (i x : Int32) : zf_si (zm_h q h0 S) (q + 4) 0 i x = (zg_si 4 384 S i x).map (zm_h q h0) := by
  simp only [zf_si, zm_as q h0 S (k := 4) (by decide) (by decide), zm_bl, zg_si]
  by_cases hi : i < 0 ∨ 384 ≤ i.toNatClampNeg
  · rw [if_pos hi, if_neg (fun z => z.2 hi)]; rfl
  · rw [if_neg hi, if_pos ⟨by trivial, hi⟩, zo_m]
    congr 1
    exact zm_upb q h0 S (S.1, va_up S.2.1 4 (va_up (S.2.1 4) i.toNatClampNeg x), S.2.2) 4 (by decide) (by decide) rfl (fun j hj => by unfold zm_bl; split <;> first | rfl | exact absurd rfl hj)
theorem zm_gr6 (q : Nat) (h0 : zc_H) (S : zm_S) : zf_gr (zm_h q h0 S) q 10 6 = some (some (q + 5)) := by simp only [zf_gr, zf_g, zm_at]; rfl
theorem zm_a6 (q : Nat) (h0 : zc_H) (S : zm_S) (i : Int32) : zf_ai (zm_h q h0 S) (q + 5) 0 i = zg_ai 112 (S.2.1 6) i := by
  simp only [zf_ai, zm_as q h0 S (k := 5) (by decide) (by decide), zm_bl, zg_ai]
  by_cases hi : i < 0 ∨ 112 ≤ i.toNatClampNeg
  · rw [if_pos hi, if_neg (fun z => z.2 hi)]
  · rw [if_neg hi, if_pos ⟨by trivial, hi⟩]
theorem zm_s6 (q : Nat) (h0 : zc_H) (S : zm_S) (i x : Int32) : zf_si (zm_h q h0 S) (q + 5) 0 i x = (zg_si 6 112 S i x).map (zm_h q h0) := by
  simp only [zf_si, zm_as q h0 S (k := 5) (by decide) (by decide), zm_bl, zg_si]
  by_cases hi : i < 0 ∨ 112 ≤ i.toNatClampNeg
  · rw [if_pos hi, if_neg (fun z => z.2 hi)]; rfl
  · rw [if_neg hi, if_pos ⟨by trivial, hi⟩, zo_m]
    congr 1
    exact zm_upb q h0 S (S.1, va_up S.2.1 6 (va_up (S.2.1 6) i.toNatClampNeg x), S.2.2) 5 (by decide) (by decide) rfl (fun j hj => by unfold zm_bl; split <;> first | rfl | exact absurd rfl hj)
theorem zm_gr7 (q : Nat) (h0 : zc_H) (S : zm_S) : zf_gr (zm_h q h0 S) q 10 7 = some (some (q + 6)) := by simp only [zf_gr, zf_g, zm_at]; rfl
theorem zm_a7 (q : Nat) (h0 : zc_H) (S : zm_S) (i : Int32) : zf_ai (zm_h q h0 S) (q + 6) 0 i = zg_ai 3 (S.2.1 7) i := by
  simp only [zf_ai, zm_as q h0 S (k := 6) (by decide) (by decide), zm_bl, zg_ai]
  by_cases hi : i < 0 ∨ 3 ≤ i.toNatClampNeg
  · rw [if_pos hi, if_neg (fun z => z.2 hi)]
  · rw [if_neg hi, if_pos ⟨by trivial, hi⟩]
theorem zm_s7 (q : Nat) (h0 : zc_H) (S : zm_S) (i x : Int32) : zf_si (zm_h q h0 S) (q + 6) 0 i x = (zg_si 7 3 S i x).map (zm_h q h0) := by
  simp only [zf_si, zm_as q h0 S (k := 6) (by decide) (by decide), zm_bl, zg_si]
  by_cases hi : i < 0 ∨ 3 ≤ i.toNatClampNeg
  · rw [if_pos hi, if_neg (fun z => z.2 hi)]; rfl
  · rw [if_neg hi, if_pos ⟨by trivial, hi⟩, zo_m]
    congr 1
    exact zm_upb q h0 S (S.1, va_up S.2.1 7 (va_up (S.2.1 7) i.toNatClampNeg x), S.2.2) 6 (by decide) (by decide) rfl (fun j hj => by unfold zm_bl; split <;> first | rfl | exact absurd rfl hj)
theorem zm_gr9 (q : Nat) (h0 : zc_H) (S : zm_S) : zf_gr (zm_h q h0 S) q 10 9 = some (some (q + 7)) := by simp only [zf_gr, zf_g, zm_at]; rfl
theorem zm_a9 (q : Nat) (h0 : zc_H) (S : zm_S) (i : Int32) : zf_ai (zm_h q h0 S) (q + 7) 0 i = zg_ai 8 (S.2.1 9) i := by
  simp only [zf_ai, zm_as q h0 S (k := 7) (by decide) (by decide), zm_bl, zg_ai]
  by_cases hi : i < 0 ∨ 8 ≤ i.toNatClampNeg
  · rw [if_pos hi, if_neg (fun z => z.2 hi)]
  · rw [if_neg hi, if_pos ⟨by trivial, hi⟩]
theorem zm_s9 (q : Nat) (h0 : zc_H) (S : zm_S) (i x : Int32) : zf_si (zm_h q h0 S) (q + 7) 0 i x = (zg_si 9 8 S i x).map (zm_h q h0) := by
  simp only [zf_si, zm_as q h0 S (k := 7) (by decide) (by decide), zm_bl, zg_si]
  by_cases hi : i < 0 ∨ 8 ≤ i.toNatClampNeg
  · rw [if_pos hi, if_neg (fun z => z.2 hi)]; rfl
  · rw [if_neg hi, if_pos ⟨by trivial, hi⟩, zo_m]
    congr 1
    exact zm_upb q h0 S (S.1, va_up S.2.1 9 (va_up (S.2.1 9) i.toNatClampNeg x), S.2.2) 7 (by decide) (by decide) rfl (fun j hj => by unfold zm_bl; split <;> first | rfl | exact absurd rfl hj)
theorem zm_gr10 (q : Nat) (h0 : zc_H) (S : zm_S) : zf_gr (zm_h q h0 S) q 10 10 = some (some (q + 8)) := by simp only [zf_gr, zf_g, zm_at]; rfl
theorem zm_a10 (q : Nat) (h0 : zc_H) (S : zm_S) (i : Int32) : zf_ai (zm_h q h0 S) (q + 8) 0 i = zg_ai 8 (S.2.1 10) i := by
  simp only [zf_ai, zm_as q h0 S (k := 8) (by decide) (by decide), zm_bl, zg_ai]
  by_cases hi : i < 0 ∨ 8 ≤ i.toNatClampNeg
  · rw [if_pos hi, if_neg (fun z => z.2 hi)]
  · rw [if_neg hi, if_pos ⟨by trivial, hi⟩]
theorem zm_s10 (q : Nat) (h0 : zc_H) (S : zm_S) (i x : Int32) : zf_si (zm_h q h0 S) (q + 8) 0 i x = (zg_si 10 8 S i x).map (zm_h q h0) := by
  simp only [zf_si, zm_as q h0 S (k := 8) (by decide) (by decide), zm_bl, zg_si]
  by_cases hi : i < 0 ∨ 8 ≤ i.toNatClampNeg
  · rw [if_pos hi, if_neg (fun z => z.2 hi)]; rfl
  · rw [if_neg hi, if_pos ⟨by trivial, hi⟩, zo_m]
    congr 1
    exact zm_upb q h0 S (S.1, va_up S.2.1 10 (va_up (S.2.1 10) i.toNatClampNeg x), S.2.2) 8 (by decide) (by decide) rfl (fun j hj => by unfold zm_bl; split <;> first | rfl | exact absurd rfl hj)
theorem zm_gr11 (q : Nat) (h0 : zc_H) (S : zm_S) : zf_gr (zm_h q h0 S) q 10 11 = some (some (q + 9)) := by simp only [zf_gr, zf_g, zm_at]; rfl
theorem zm_a11 (q : Nat) (h0 : zc_H) (S : zm_S) (i : Int32) : zf_aj (zm_h q h0 S) (q + 9) i = zg_aj 1280 (S.2.2 11) i := by
  simp only [zf_aj, zm_as q h0 S (k := 9) (by decide) (by decide), zm_bl, zg_aj]
  by_cases hi : i < 0 ∨ 1280 ≤ i.toNatClampNeg
  · rw [if_pos hi, if_neg (fun z => z.2 hi)]
  · rw [if_neg hi, if_pos ⟨by trivial, hi⟩]
theorem zm_s11 (q : Nat) (h0 : zc_H) (S : zm_S) (i : Int32) (x : Int64) : zf_sj (zm_h q h0 S) (q + 9) i x = (zg_sj 11 1280 S i x).map (zm_h q h0) := by
  simp only [zf_sj, zm_as q h0 S (k := 9) (by decide) (by decide), zm_bl, zg_sj]
  by_cases hi : i < 0 ∨ 1280 ≤ i.toNatClampNeg
  · rw [if_pos hi, if_neg (fun z => z.2 hi)]; rfl
  · rw [if_neg hi, if_pos ⟨by trivial, hi⟩, zo_m]
    congr 1
    exact zm_upb q h0 S (S.1, S.2.1, va_up S.2.2 11 (va_up (S.2.2 11) i.toNatClampNeg x)) 9 (by decide) (by decide) rfl (fun j hj => by unfold zm_bl; split <;> first | rfl | exact absurd rfl hj)
theorem zm_gr14 (q : Nat) (h0 : zc_H) (S : zm_S) : zf_gr (zm_h q h0 S) q 10 14 = some (some (q + 10)) := by simp only [zf_gr, zf_g, zm_at]; rfl
theorem zm_a14 (q : Nat) (h0 : zc_H) (S : zm_S) (i : Int32) : zf_ai (zm_h q h0 S) (q + 10) 0 i = zg_ai 20 (S.2.1 14) i := by
  simp only [zf_ai, zm_as q h0 S (k := 10) (by decide) (by decide), zm_bl, zg_ai]
  by_cases hi : i < 0 ∨ 20 ≤ i.toNatClampNeg
  · rw [if_pos hi, if_neg (fun z => z.2 hi)]
  · rw [if_neg hi, if_pos ⟨by trivial, hi⟩]
theorem zm_s14 (q : Nat) (h0 : zc_H) (S : zm_S) (i x : Int32) : zf_si (zm_h q h0 S) (q + 10) 0 i x = (zg_si 14 20 S i x).map (zm_h q h0) := by
  simp only [zf_si, zm_as q h0 S (k := 10) (by decide) (by decide), zm_bl, zg_si]
  by_cases hi : i < 0 ∨ 20 ≤ i.toNatClampNeg
  · rw [if_pos hi, if_neg (fun z => z.2 hi)]; rfl
  · rw [if_neg hi, if_pos ⟨by trivial, hi⟩, zo_m]
    congr 1
    exact zm_upb q h0 S (S.1, va_up S.2.1 14 (va_up (S.2.1 14) i.toNatClampNeg x), S.2.2) 10 (by decide) (by decide) rfl (fun j hj => by unfold zm_bl; split <;> first | rfl | exact absurd rfl hj)
theorem zm_gr15 (q : Nat) (h0 : zc_H) (S : zm_S) : zf_gr (zm_h q h0 S) q 10 15 = some (some (q + 11)) := by simp only [zf_gr, zf_g, zm_at]; rfl
theorem zm_a15 (q : Nat) (h0 : zc_H) (S : zm_S) (i : Int32) : zf_ai (zm_h q h0 S) (q + 11) 0 i = zg_ai 8 (S.2.1 15) i := by
  simp only [zf_ai, zm_as q h0 S (k := 11) (by decide) (by decide), zm_bl, zg_ai]
  by_cases hi : i < 0 ∨ 8 ≤ i.toNatClampNeg
  · rw [if_pos hi, if_neg (fun z => z.2 hi)]
  · rw [if_neg hi, if_pos ⟨by trivial, hi⟩]
theorem zm_s15 (q : Nat) (h0 : zc_H) (S : zm_S) (i x : Int32) : zf_si (zm_h q h0 S) (q + 11) 0 i x = (zg_si 15 8 S i x).map (zm_h q h0) := by
  simp only [zf_si, zm_as q h0 S (k := 11) (by decide) (by decide), zm_bl, zg_si]
  by_cases hi : i < 0 ∨ 8 ≤ i.toNatClampNeg
  · rw [if_pos hi, if_neg (fun z => z.2 hi)]; rfl
  · rw [if_neg hi, if_pos ⟨by trivial, hi⟩, zo_m]
    congr 1
    exact zm_upb q h0 S (S.1, va_up S.2.1 15 (va_up (S.2.1 15) i.toNatClampNeg x), S.2.2) 11 (by decide) (by decide) rfl (fun j hj => by unfold zm_bl; split <;> first | rfl | exact absurd rfl hj)
theorem zm_gr18 (q : Nat) (h0 : zc_H) (S : zm_S) : zf_gr (zm_h q h0 S) q 10 18 = some (some (q + 12)) := by simp only [zf_gr, zf_g, zm_at]; rfl
theorem zm_a18 (q : Nat) (h0 : zc_H) (S : zm_S) (i : Int32) : zf_ai (zm_h q h0 S) (q + 12) 0 i = zg_ai 16 (S.2.1 18) i := by
  simp only [zf_ai, zm_as q h0 S (k := 12) (by decide) (by decide), zm_bl, zg_ai]
  by_cases hi : i < 0 ∨ 16 ≤ i.toNatClampNeg
  · rw [if_pos hi, if_neg (fun z => z.2 hi)]
  · rw [if_neg hi, if_pos ⟨by trivial, hi⟩]
theorem zm_s18 (q : Nat) (h0 : zc_H) (S : zm_S) (i x : Int32) : zf_si (zm_h q h0 S) (q + 12) 0 i x = (zg_si 18 16 S i x).map (zm_h q h0) := by
  simp only [zf_si, zm_as q h0 S (k := 12) (by decide) (by decide), zm_bl, zg_si]
  by_cases hi : i < 0 ∨ 16 ≤ i.toNatClampNeg
  · rw [if_pos hi, if_neg (fun z => z.2 hi)]; rfl
  · rw [if_neg hi, if_pos ⟨by trivial, hi⟩, zo_m]
    congr 1
    exact zm_upb q h0 S (S.1, va_up S.2.1 18 (va_up (S.2.1 18) i.toNatClampNeg x), S.2.2) 12 (by decide) (by decide) rfl (fun j hj => by unfold zm_bl; split <;> first | rfl | exact absurd rfl hj)
theorem zm_gr19 (q : Nat) (h0 : zc_H) (S : zm_S) : zf_gr (zm_h q h0 S) q 10 19 = some (some (q + 13)) := by simp only [zf_gr, zf_g, zm_at]; rfl
theorem zm_a19 (q : Nat) (h0 : zc_H) (S : zm_S) (i : Int32) : zf_ai (zm_h q h0 S) (q + 13) 0 i = zg_ai 16 (S.2.1 19) i := by
  simp only [zf_ai, zm_as q h0 S (k := 13) (by decide) (by decide), zm_bl, zg_ai]
  by_cases hi : i < 0 ∨ 16 ≤ i.toNatClampNeg
  · rw [if_pos hi, if_neg (fun z => z.2 hi)]
  · rw [if_neg hi, if_pos ⟨by trivial, hi⟩]
theorem zm_s19 (q : Nat) (h0 : zc_H) (S : zm_S) (i x : Int32) : zf_si (zm_h q h0 S) (q + 13) 0 i x = (zg_si 19 16 S i x).map (zm_h q h0) := by
  simp only [zf_si, zm_as q h0 S (k := 13) (by decide) (by decide), zm_bl, zg_si]
  by_cases hi : i < 0 ∨ 16 ≤ i.toNatClampNeg
  · rw [if_pos hi, if_neg (fun z => z.2 hi)]; rfl
  · rw [if_neg hi, if_pos ⟨by trivial, hi⟩, zo_m]
    congr 1
    exact zm_upb q h0 S (S.1, va_up S.2.1 19 (va_up (S.2.1 19) i.toNatClampNeg x), S.2.2) 13 (by decide) (by decide) rfl (fun j hj => by unfold zm_bl; split <;> first | rfl | exact absurd rfl hj)
theorem zm_gr20 (q : Nat) (h0 : zc_H) (S : zm_S) : zf_gr (zm_h q h0 S) q 10 20 = some (some (q + 14)) := by simp only [zf_gr, zf_g, zm_at]; rfl
theorem zm_a20 (q : Nat) (h0 : zc_H) (S : zm_S) (i : Int32) : zf_aj (zm_h q h0 S) (q + 14) i = zg_aj 384 (S.2.2 20) i := by
  simp only [zf_aj, zm_as q h0 S (k := 14) (by decide) (by decide), zm_bl, zg_aj]
  by_cases hi : i < 0 ∨ 384 ≤ i.toNatClampNeg
  · rw [if_pos hi, if_neg (fun z => z.2 hi)]
  · rw [if_neg hi, if_pos ⟨by trivial, hi⟩]
theorem zm_s20 (q : Nat) (h0 : zc_H) (S : zm_S) (i : Int32) (x : Int64) : zf_sj (zm_h q h0 S) (q + 14) i x = (zg_sj 20 384 S i x).map (zm_h q h0) := by
  simp only [zf_sj, zm_as q h0 S (k := 14) (by decide) (by decide), zm_bl, zg_sj]
  by_cases hi : i < 0 ∨ 384 ≤ i.toNatClampNeg
  · rw [if_pos hi, if_neg (fun z => z.2 hi)]; rfl
  · rw [if_neg hi, if_pos ⟨by trivial, hi⟩, zo_m]
    congr 1
    exact zm_upb q h0 S (S.1, S.2.1, va_up S.2.2 20 (va_up (S.2.2 20) i.toNatClampNeg x)) 14 (by decide) (by decide) rfl (fun j hj => by unfold zm_bl; split <;> first | rfl | exact absurd rfl hj)
theorem zm_gr22 (q : Nat) (h0 : zc_H) (S : zm_S) : zf_gr (zm_h q h0 S) q 10 22 = some (some (q + 15)) := by simp only [zf_gr, zf_g, zm_at]; rfl
theorem zm_a22 (q : Nat) (h0 : zc_H) (S : zm_S) (i : Int32) : zf_ai (zm_h q h0 S) (q + 15) 0 i = zg_ai 112 (S.2.1 22) i := by
  simp only [zf_ai, zm_as q h0 S (k := 15) (by decide) (by decide), zm_bl, zg_ai]
  by_cases hi : i < 0 ∨ 112 ≤ i.toNatClampNeg
  · rw [if_pos hi, if_neg (fun z => z.2 hi)]
  · rw [if_neg hi, if_pos ⟨by trivial, hi⟩]
theorem zm_s22 (q : Nat) (h0 : zc_H) (S : zm_S) (i x : Int32) : zf_si (zm_h q h0 S) (q + 15) 0 i x = (zg_si 22 112 S i x).map (zm_h q h0) := by
  simp only [zf_si, zm_as q h0 S (k := 15) (by decide) (by decide), zm_bl, zg_si]
  by_cases hi : i < 0 ∨ 112 ≤ i.toNatClampNeg
  · rw [if_pos hi, if_neg (fun z => z.2 hi)]; rfl
  · rw [if_neg hi, if_pos ⟨by trivial, hi⟩, zo_m]
    congr 1
    exact zm_upb q h0 S (S.1, va_up S.2.1 22 (va_up (S.2.1 22) i.toNatClampNeg x), S.2.2) 15 (by decide) (by decide) rfl (fun j hj => by unfold zm_bl; split <;> first | rfl | exact absurd rfl hj)
theorem zm_gr23 (q : Nat) (h0 : zc_H) (S : zm_S) : zf_gr (zm_h q h0 S) q 10 23 = some (some (q + 16)) := by simp only [zf_gr, zf_g, zm_at]; rfl
theorem zm_a23 (q : Nat) (h0 : zc_H) (S : zm_S) (i : Int32) : zf_ai (zm_h q h0 S) (q + 16) 0 i = zg_ai 3 (S.2.1 23) i := by
  simp only [zf_ai, zm_as q h0 S (k := 16) (by decide) (by decide), zm_bl, zg_ai]
  by_cases hi : i < 0 ∨ 3 ≤ i.toNatClampNeg
  · rw [if_pos hi, if_neg (fun z => z.2 hi)]
  · rw [if_neg hi, if_pos ⟨by trivial, hi⟩]
theorem zm_s23 (q : Nat) (h0 : zc_H) (S : zm_S) (i x : Int32) : zf_si (zm_h q h0 S) (q + 16) 0 i x = (zg_si 23 3 S i x).map (zm_h q h0) := by
  simp only [zf_si, zm_as q h0 S (k := 16) (by decide) (by decide), zm_bl, zg_si]
  by_cases hi : i < 0 ∨ 3 ≤ i.toNatClampNeg
  · rw [if_pos hi, if_neg (fun z => z.2 hi)]; rfl
  · rw [if_neg hi, if_pos ⟨by trivial, hi⟩, zo_m]
    congr 1
    exact zm_upb q h0 S (S.1, va_up S.2.1 23 (va_up (S.2.1 23) i.toNatClampNeg x), S.2.2) 16 (by decide) (by decide) rfl (fun j hj => by unfold zm_bl; split <;> first | rfl | exact absurd rfl hj)
theorem zm_gr25 (q : Nat) (h0 : zc_H) (S : zm_S) : zf_gr (zm_h q h0 S) q 10 25 = some (some (q + 17)) := by simp only [zf_gr, zf_g, zm_at]; rfl
theorem zm_a25 (q : Nat) (h0 : zc_H) (S : zm_S) (i : Int32) : zf_ai (zm_h q h0 S) (q + 17) 0 i = zg_ai 625 (S.2.1 25) i := by
  simp only [zf_ai, zm_as q h0 S (k := 17) (by decide) (by decide), zm_bl, zg_ai]
  by_cases hi : i < 0 ∨ 625 ≤ i.toNatClampNeg
  · rw [if_pos hi, if_neg (fun z => z.2 hi)]
  · rw [if_neg hi, if_pos ⟨by trivial, hi⟩]
theorem zm_s25 (q : Nat) (h0 : zc_H) (S : zm_S) (i x : Int32) : zf_si (zm_h q h0 S) (q + 17) 0 i x = (zg_si 25 625 S i x).map (zm_h q h0) := by
  simp only [zf_si, zm_as q h0 S (k := 17) (by decide) (by decide), zm_bl, zg_si]
  by_cases hi : i < 0 ∨ 625 ≤ i.toNatClampNeg
  · rw [if_pos hi, if_neg (fun z => z.2 hi)]; rfl
  · rw [if_neg hi, if_pos ⟨by trivial, hi⟩, zo_m]
    congr 1
    exact zm_upb q h0 S (S.1, va_up S.2.1 25 (va_up (S.2.1 25) i.toNatClampNeg x), S.2.2) 17 (by decide) (by decide) rfl (fun j hj => by unfold zm_bl; split <;> first | rfl | exact absurd rfl hj)
theorem zm_gr26 (q : Nat) (h0 : zc_H) (S : zm_S) : zf_gr (zm_h q h0 S) q 10 26 = some (some (q + 18)) := by simp only [zf_gr, zf_g, zm_at]; rfl
theorem zm_a26 (q : Nat) (h0 : zc_H) (S : zm_S) (i : Int32) : zf_ai (zm_h q h0 S) (q + 18) 0 i = zg_ai 24 (S.2.1 26) i := by
  simp only [zf_ai, zm_as q h0 S (k := 18) (by decide) (by decide), zm_bl, zg_ai]
  by_cases hi : i < 0 ∨ 24 ≤ i.toNatClampNeg
  · rw [if_pos hi, if_neg (fun z => z.2 hi)]
  · rw [if_neg hi, if_pos ⟨by trivial, hi⟩]
theorem zm_s26 (q : Nat) (h0 : zc_H) (S : zm_S) (i x : Int32) : zf_si (zm_h q h0 S) (q + 18) 0 i x = (zg_si 26 24 S i x).map (zm_h q h0) := by
  simp only [zf_si, zm_as q h0 S (k := 18) (by decide) (by decide), zm_bl, zg_si]
  by_cases hi : i < 0 ∨ 24 ≤ i.toNatClampNeg
  · rw [if_pos hi, if_neg (fun z => z.2 hi)]; rfl
  · rw [if_neg hi, if_pos ⟨by trivial, hi⟩, zo_m]
    congr 1
    exact zm_upb q h0 S (S.1, va_up S.2.1 26 (va_up (S.2.1 26) i.toNatClampNeg x), S.2.2) 18 (by decide) (by decide) rfl (fun j hj => by unfold zm_bl; split <;> first | rfl | exact absurd rfl hj)
theorem zm_gr27 (q : Nat) (h0 : zc_H) (S : zm_S) : zf_gr (zm_h q h0 S) q 10 27 = some (some (q + 19)) := by simp only [zf_gr, zf_g, zm_at]; rfl
theorem zm_a27 (q : Nat) (h0 : zc_H) (S : zm_S) (i : Int32) : zf_ai (zm_h q h0 S) (q + 19) 2 i = zg_ai 24 (S.2.1 27) i := by
  simp only [zf_ai, zm_as q h0 S (k := 19) (by decide) (by decide), zm_bl, zg_ai]
  by_cases hi : i < 0 ∨ 24 ≤ i.toNatClampNeg
  · rw [if_pos hi, if_neg (fun z => z.2 hi)]
  · rw [if_neg hi, if_pos ⟨by trivial, hi⟩]
theorem zm_s27 (q : Nat) (h0 : zc_H) (S : zm_S) (i x : Int32) : zf_si (zm_h q h0 S) (q + 19) 2 i x = (zg_si 27 24 S i x).map (zm_h q h0) := by
  simp only [zf_si, zm_as q h0 S (k := 19) (by decide) (by decide), zm_bl, zg_si]
  by_cases hi : i < 0 ∨ 24 ≤ i.toNatClampNeg
  · rw [if_pos hi, if_neg (fun z => z.2 hi)]; rfl
  · rw [if_neg hi, if_pos ⟨by trivial, hi⟩, zo_m]
    congr 1
    exact zm_upb q h0 S (S.1, va_up S.2.1 27 (va_up (S.2.1 27) i.toNatClampNeg x), S.2.2) 19 (by decide) (by decide) rfl (fun j hj => by unfold zm_bl; split <;> first | rfl | exact absurd rfl hj)
theorem zm_gr30 (q : Nat) (h0 : zc_H) (S : zm_S) : zf_gr (zm_h q h0 S) q 10 30 = some (some (q + 20)) := by simp only [zf_gr, zf_g, zm_at]; rfl
theorem zm_a30 (q : Nat) (h0 : zc_H) (S : zm_S) (i : Int32) : zf_ai (zm_h q h0 S) (q + 20) 0 i = zg_ai 16 (S.2.1 30) i := by
  simp only [zf_ai, zm_as q h0 S (k := 20) (by decide) (by decide), zm_bl, zg_ai]
  by_cases hi : i < 0 ∨ 16 ≤ i.toNatClampNeg
  · rw [if_pos hi, if_neg (fun z => z.2 hi)]
  · rw [if_neg hi, if_pos ⟨by trivial, hi⟩]
theorem zm_s30 (q : Nat) (h0 : zc_H) (S : zm_S) (i x : Int32) : zf_si (zm_h q h0 S) (q + 20) 0 i x = (zg_si 30 16 S i x).map (zm_h q h0) := by
  simp only [zf_si, zm_as q h0 S (k := 20) (by decide) (by decide), zm_bl, zg_si]
  by_cases hi : i < 0 ∨ 16 ≤ i.toNatClampNeg
  · rw [if_pos hi, if_neg (fun z => z.2 hi)]; rfl
  · rw [if_neg hi, if_pos ⟨by trivial, hi⟩, zo_m]
    congr 1
    exact zm_upb q h0 S (S.1, va_up S.2.1 30 (va_up (S.2.1 30) i.toNatClampNeg x), S.2.2) 20 (by decide) (by decide) rfl (fun j hj => by unfold zm_bl; split <;> first | rfl | exact absurd rfl hj)
theorem zm_gr37 (q : Nat) (h0 : zc_H) (S : zm_S) : zf_gr (zm_h q h0 S) q 10 37 = some (some (q + 21)) := by simp only [zf_gr, zf_g, zm_at]; rfl
theorem zm_a37 (q : Nat) (h0 : zc_H) (S : zm_S) (i : Int32) : zf_ai (zm_h q h0 S) (q + 21) 0 i = zg_ai 16 (S.2.1 37) i := by
  simp only [zf_ai, zm_as q h0 S (k := 21) (by decide) (by decide), zm_bl, zg_ai]
  by_cases hi : i < 0 ∨ 16 ≤ i.toNatClampNeg
  · rw [if_pos hi, if_neg (fun z => z.2 hi)]
  · rw [if_neg hi, if_pos ⟨by trivial, hi⟩]
theorem zm_s37 (q : Nat) (h0 : zc_H) (S : zm_S) (i x : Int32) : zf_si (zm_h q h0 S) (q + 21) 0 i x = (zg_si 37 16 S i x).map (zm_h q h0) := by
  simp only [zf_si, zm_as q h0 S (k := 21) (by decide) (by decide), zm_bl, zg_si]
  by_cases hi : i < 0 ∨ 16 ≤ i.toNatClampNeg
  · rw [if_pos hi, if_neg (fun z => z.2 hi)]; rfl
  · rw [if_neg hi, if_pos ⟨by trivial, hi⟩, zo_m]
    congr 1
    exact zm_upb q h0 S (S.1, va_up S.2.1 37 (va_up (S.2.1 37) i.toNatClampNeg x), S.2.2) 21 (by decide) (by decide) rfl (fun j hj => by unfold zm_bl; split <;> first | rfl | exact absurd rfl hj)
