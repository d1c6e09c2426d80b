/-! the start of the class: its cells laid one behind the other -/
def zi_w (h : zc_H) (l : List va_E) : zc_H := (fun y => if h.2.1 ≤ y ∧ y < h.2.1 + l.length then l[y - h.2.1]? else h.1 y, h.2.1 + l.length, h.2.2)
theorem zi_at {h : zc_H} {l : List va_E} {k : Nat} (hk : k < l.length) : (zi_w h l).1 (h.2.1 + k) = l[k]? := by
  unfold zi_w
  dsimp only
  rw [if_pos ⟨by omega, by omega⟩, Nat.add_sub_cancel_left]
theorem zi_o {h : zc_H} {l : List va_E} {y : Nat} (hy : y < h.2.1) : (zi_w h l).1 y = h.1 y := by
  unfold zi_w
  dsimp only
  rw [if_neg (fun q => by omega)]
theorem zi_0 (h : zc_H) (e : va_E) : zf_new h e = zi_w h [e] := by
  refine Prod.ext ?_ rfl
  funext y
  unfold zf_new zi_w va_up
  dsimp only [List.length_cons, List.length_nil]
  by_cases c : y = h.2.1
  · subst c
    rw [if_pos rfl, if_pos ⟨by omega, by omega⟩, Nat.sub_self]
    rfl
  · rw [if_neg c, if_neg (fun q => by omega)]
theorem zi_2 (h : zc_H) (l m : List va_E) : zi_w (zi_w h l) m = zi_w h (l ++ m) := by
  refine Prod.ext ?_ (Prod.ext ?_ rfl)
  · funext y
    unfold zi_w
    dsimp only
    rw [List.length_append]
    by_cases c : h.2.1 + l.length ≤ y ∧ y < h.2.1 + l.length + m.length
    · rw [if_pos c, if_pos ⟨by omega, by omega⟩, List.getElem?_append_right (by omega)]
      congr 1
      omega
    · rw [if_neg c]
      by_cases c2 : h.2.1 ≤ y ∧ y < h.2.1 + l.length
      · rw [if_pos c2, if_pos ⟨by omega, by omega⟩, List.getElem?_append_left (by omega)]
      · rw [if_neg c2, if_neg (fun q => by omega)]
  · show h.2.1 + l.length + m.length = h.2.1 + (l ++ m).length
    rw [List.length_append]
    omega
theorem zi_3 (h : zc_H) (o : va_E) (l m : List va_E) : zi_w (zi_w h (o :: l)) m = zi_w h (o :: (l ++ m)) := zi_2 h (o :: l) m
theorem zi_1 (h : zc_H) (o : va_E) (l : List va_E) (e : va_E) : zf_new (zi_w h (o :: l)) e = zi_w h (o :: (l ++ [e])) := by
  rw [zi_0, zi_3]
theorem zi_up {h : zc_H} {l : List va_E} {k : Nat} {e : va_E} (hk : k < l.length) : zf_up (zi_w h l) (h.2.1 + k) e = zi_w h (l.set k e) := by
  refine Prod.ext ?_ (Prod.ext ?_ rfl)
  · funext y
    unfold zf_up zi_w va_up
    dsimp only
    rw [List.length_set]
    by_cases c : y = h.2.1 + k
    · subst c
      rw [if_pos rfl, if_pos ⟨by omega, by omega⟩, Nat.add_sub_cancel_left, List.getElem?_set_self hk]
    · rw [if_neg c]
      by_cases c2 : h.2.1 ≤ y ∧ y < h.2.1 + l.length
      · rw [if_pos c2, if_pos c2, List.getElem?_set_ne (by omega)]
      · rw [if_neg c2, if_neg c2]
  · show h.2.1 + l.length = h.2.1 + (l.set k e).length
    rw [List.length_set]
theorem zi_up0 {h : zc_H} {o e : va_E} {l : List va_E} : zf_up (zi_w h (o :: l)) h.2.1 e = zi_w h (e :: l) := zi_up (h := h) (l := o :: l) (k := 0) (by simp)
theorem zi_at0 {h : zc_H} {o : va_E} {l : List va_E} : (zi_w h (o :: l)).1 h.2.1 = some o := zi_at (h := h) (l := o :: l) (k := 0) (by simp)
theorem zi_p {h : zc_H} {c k : Nat} {fs : List Value} {l : List va_E} {v : Value} (hk : k < fs.length) : zf_p (zi_w h (.inr (c, fs) :: l)) h.2.1 c k v = some (zi_w h (.inr (c, fs.set k v) :: l)) := by
  rw [zb_p zi_at0 hk, zi_up0]
theorem zi_is {h : zc_H} {c : Nat} {fs : List Value} {l : List va_E} : ¬ ¬ zf_is (zi_w h (.inr (c, fs) :: l)) h.2.1 c = true := zb_is zi_at0
theorem zi_X0 (h : zc_H) : zf_X0_init (zi_w h [.inr (0, [.null, .int 0])]) h.2.1 = some (zi_w h [.inr (0, [.ref (h.2.1 + 1), .int 0]), .inl (1, 24, .inr (.inl (fun _ => 0)))]) := by
  unfold zf_X0_init
  rw [if_neg zi_is, zi_1, zo_s, zi_p (by simp), zo_s]
  rfl
theorem zi_X1 (h : zc_H) : zf_X1_init (zi_w h [.inr (1, [.null, .null, .null, .int 0, .int 0])]) h.2.1 = some (zi_w h [.inr (1, [.ref (h.2.1 + 1), .ref (h.2.1 + 2), .ref (h.2.1 + 3), .int 0, .int 0]), .inl (0, 625, .inl (fun _ => 0)), .inl (0, 24, .inl (fun _ => 0)), .inl (2, 24, .inl (fun _ => 0))]) := by
  unfold zf_X1_init
  rw [if_neg zi_is, zi_1, zo_s, zi_p (by simp), zo_s, zi_1, zo_s, zi_p (by simp), zo_s, zi_1, zo_s, zi_p (by simp), zo_s]
  rfl
theorem zi_X2 (h : zc_H) : zf_X2_init (zi_w h [.inr (2, [.null, .int 0, .int 0, .int 0, .int 0])]) h.2.1 = some (zi_w h [.inr (2, [.ref (h.2.1 + 1), .int 0, .int 0, .int 0, .int 0]), .inl (0, 20, .inl (fun _ => 0))]) := by
  unfold zf_X2_init
  rw [if_neg zi_is, zi_1, zo_s, zi_p (by simp), zo_s]
  rfl
theorem zi_X5 (h : zc_H) : zf_X5_init (zi_w h [.inr (5, [.int 0, .int 0, .null])]) h.2.1 = some (zi_w h [.inr (5, [.int (-1), .int 0, .ref (h.2.1 + 1)]), .inl (1, 160, .inr (.inl (fun _ => 0)))]) := by
  unfold zf_X5_init
  rw [if_neg zi_is, zi_p (by simp), zo_s, zi_1, zo_s, zi_p (by simp), zo_s]
  rfl
theorem zi_al (h : zc_H) : zf_Jx4a65c_init_da8c8 (zi_w h [.inr (11, [.int 0, .null, .int 0])]) h.2.1 = some (zi_w h [.inr (11, [.int 0, .ref h.2.2, .int 0])]) := by
  unfold zf_Jx4a65c_init_da8c8 zf_Jxc12de_init_da8c8 zf_Jxa1e45_init_da8c8
  rw [if_neg zi_is, if_neg zi_is, if_neg zi_is, zo_s, zi_p (by simp), zo_s, zo_s, zi_p (by simp), zo_s]
  rfl
theorem zi_X6 (h : zc_H) : zf_X6_init (zi_w h [.inr (6, [.null, .null, .int 0, .int 0, .int 0, .int 0, .int 0])]) h.2.1 = some (zi_w h [.inr (6, [.ref (h.2.1 + 1), .ref (h.2.1 + 2), .int 0, .int 2, .int 6, .int 1, .int 1]), .inr (11, [.int 0, .ref h.2.2, .int 0]), .inr (11, [.int 0, .ref h.2.2, .int 0])]) := by
  unfold zf_X6_init
  rw [if_neg zi_is, zi_0 (zi_w h _), zo_s, zi_al, zo_s, zi_3, zi_p (by simp), zo_s, zi_0 (zi_w h _), zo_s, zi_al, zo_s, zi_3, zi_p (by simp), zo_s, zi_p (by simp), zo_s, zi_p (by simp), zo_s, zi_p (by simp), zo_s, zi_p (by simp), zo_s]
  rfl
theorem zi_X7 (h : zc_H) (a b : Option Nat) : zf_X7_init (zi_w h [.inr (7, [.null, .null, .null, .int 0, .int 0])]) h.2.1 a b = some (zi_w h [.inr (7, [va_rf a, va_rf b, .ref (h.2.1 + 1), .int 0, .int 0]), .inl (0, 16, .inl (fun _ => 0))]) := by
  unfold zf_X7_init
  rw [if_neg zi_is, zi_1, zo_s, zi_p (by simp), zo_s, zi_p (by simp), zo_s, zi_p (by simp), zo_s]
  rfl
theorem zi_X8 (h : zc_H) (a : Option Nat) : zf_X8_init (zi_w h [.inr (8, [.null, .null, .int 0, .int 0, .null, .int 0, .int 0, .int 0, .int 0])]) h.2.1 a = some (zi_w h [.inr (8, [va_rf a, .ref (h.2.1 + 1), .int (-1), .int 3, .ref (h.2.1 + 2), .int 0, .int (-1), .int (-1), .int (-1)]), .inr (11, [.int 0, .ref h.2.2, .int 0]), .inl (1, 26, .inr (.inl (fun _ => 0)))]) := by
  unfold zf_X8_init
  rw [if_neg zi_is, zi_0 (zi_w h _), zo_s, zi_al, zo_s, zi_3, zi_p (by simp), zo_s, zi_p (by simp), zo_s, zi_p (by simp), zo_s, zi_1, zo_s, zi_p (by simp), zo_s, zi_p (by simp), zo_s, zi_p (by simp), zo_s, zi_p (by simp), zo_s, zi_p (by simp), zo_s]
  rfl
theorem zi_gr {h : zc_H} {c k : Nat} {fs : List Value} {l m : List va_E} (x : Option Nat) (hk : fs[k]? = some (va_rf x)) : zf_gr (zi_w (zi_w h (.inr (c, fs) :: l)) m) h.2.1 c k = some x := by
  rw [zi_3]
  exact zb_gr zi_at0 hk
/-- a row of shelves' places -/
abbrev zi_r (f : Nat → Option Nat) : va_E := .inl (3, 8, .inr (.inr (.inr (.inr f))))
abbrev zi_a (a : Nat) : va_E := .inr (5, [.int (-1), .int 0, .ref a])
abbrev zi_j (n : Nat) : va_E := .inl (1, n, .inr (.inl (fun _ => 0)))
theorem zi_L {h : zc_H} {fs : List Value} {f : Nat → Option Nat} {l : List va_E} {i m : Nat} (hi : i < 8) (h0 : fs[0]? = some (va_rf (some (h.2.1 + 1)))) : zf_X9_init_L117 h.2.1 (m + 1) (zi_w h (.inr (9, fs) :: zi_r f :: l)) (nI i) = zf_X9_init_L117 h.2.1 m (zi_w h (.inr (9, fs) :: zi_r (va_up f i (some (h.2.1 + (l.length + 2)))) :: (l ++ [zi_a (h.2.1 + (l.length + 2) + 1), zi_j 160]))) (nI (i + 1)) := by
  have es : (zi_w h (.inr (9, fs) :: zi_r f :: l)).2.1 = h.2.1 + (l.length + 2) := rfl
  rw [zf_X9_init_L117, if_neg (show ¬ (8 : Int32) ≤ nI i from nI_ge hi (by decide)), zb_gr zi_at0 h0, zo_s, zi_0 (zi_w h _), zo_s, zi_X5, zo_s, zo_s, es, zi_3]
  have e1 : (zi_w h (.inr (9, fs) :: (zi_r f :: l ++ [zi_a (h.2.1 + (l.length + 2) + 1), zi_j 160]))).1 (h.2.1 + 1) = some (zi_r f) := zi_at (k := 1) (by simp)
  have e2 : (zi_w h (.inr (9, fs) :: (zi_r f :: l ++ [zi_a (h.2.1 + (l.length + 2) + 1), zi_j 160]))).1 (h.2.1 + (l.length + 2)) = some (zi_a (h.2.1 + (l.length + 2) + 1)) := by
    rw [zi_at (by simp)]
    simp
  have e3 : zf_is (zi_w h (.inr (9, fs) :: (zi_r f :: l ++ [zi_a (h.2.1 + (l.length + 2) + 1), zi_j 160]))) (h.2.1 + (l.length + 2)) 5 = true := Classical.not_not.mp (zb_is e2)
  rw [zb_sr e1 hi (by decide) e3, zo_s, zi_up (k := 1) (by simp), ← nI_succ i]
  rfl
theorem zi_Lend {h : zc_H} {q m : Nat} : zf_X9_init_L117 q (m + 1) h (nI 8) = some h := by
  rw [zf_X9_init_L117, if_pos (show (8 : Int32) ≤ nI 8 from nI_le (by decide) (by decide))]
theorem zi_8 {h : zc_H} {fs : List Value} {l : List va_E} (h0 : fs[0]? = some (va_rf (some (h.2.1 + 1)))) : zf_X9_init_L117 h.2.1 9 (zi_w h (.inr (9, fs) :: zi_r (fun _ => none) :: l)) (nI 0) = some (zi_w h (.inr (9, fs) :: zi_r (fun s => if s < 8 then some (h.2.1 + (l.length + 2 + 2 * s)) else none) :: (l ++ [zi_a (h.2.1 + (l.length + 3)), zi_j 160, zi_a (h.2.1 + (l.length + 5)), zi_j 160, zi_a (h.2.1 + (l.length + 7)), zi_j 160, zi_a (h.2.1 + (l.length + 9)), zi_j 160, zi_a (h.2.1 + (l.length + 11)), zi_j 160, zi_a (h.2.1 + (l.length + 13)), zi_j 160, zi_a (h.2.1 + (l.length + 15)), zi_j 160, zi_a (h.2.1 + (l.length + 17)), zi_j 160]))) := by
  rw [zi_L (by decide) h0, zi_L (by decide) h0, zi_L (by decide) h0, zi_L (by decide) h0, zi_L (by decide) h0, zi_L (by decide) h0, zi_L (by decide) h0, zi_L (by decide) h0, zi_Lend]
  simp only [List.length_append, List.length_cons, List.length_nil, List.append_assoc, List.cons_append, List.nil_append]
  refine congrArg (fun f => some (zi_w h (_ :: zi_r f :: _))) ?_
  funext s
  match s with
  | 0 => rfl
  | 1 => rfl
  | 2 => rfl
  | 3 => rfl
  | 4 => rfl
  | 5 => rfl
  | 6 => rfl
  | 7 => rfl
  | s + 8 =>
    rw [if_neg (by omega)]
    simp [va_up]
def zi_C (z t : Nat) : List va_E := [.inr (9, [.ref (z + 1), .ref (z + 2), .ref (z + 5), .int 0, .ref (z + 8), .int (-1), .ref (z + 9), .ref (z + 11), .ref (z + 15), .ref (z + 18), .ref (z + 20)]), zi_r (fun s => if s < 8 then some (z + (22 + 2 * s)) else none), .inr (6, [.ref (z + 3), .ref (z + 4), .int 0, .int 2, .int 6, .int 1, .int 1]), .inr (11, [.int 0, .ref t, .int 0]), .inr (11, [.int 0, .ref t, .int 0]), .inr (6, [.ref (z + 6), .ref (z + 7), .int 0, .int 2, .int 6, .int 1, .int 1]), .inr (11, [.int 0, .ref t, .int 0]), .inr (11, [.int 0, .ref t, .int 0]), .inl (0, 8, .inl (fun _ => 0)), .inr (0, [.ref (z + 10), .int 0]), zi_j 24, .inr (1, [.ref (z + 12), .ref (z + 13), .ref (z + 14), .int 0, .int 0]), .inl (0, 625, .inl (fun _ => 0)), .inl (0, 24, .inl (fun _ => 0)), .inl (2, 24, .inl (fun _ => 0)), .inr (8, [.ref (z + 2), .ref (z + 16), .int (-1), .int 3, .ref (z + 17), .int 0, .int (-1), .int (-1), .int (-1)]), .inr (11, [.int 0, .ref t, .int 0]), zi_j 26, .inr (7, [.ref (z + 2), .ref (z + 15), .ref (z + 19), .int 0, .int 0]), .inl (0, 16, .inl (fun _ => 0)), .inr (2, [.ref (z + 21), .int 0, .int 0, .int 0, .int 0]), .inl (0, 20, .inl (fun _ => 0)), zi_a (z + 23), zi_j 160, zi_a (z + 25), zi_j 160, zi_a (z + 27), zi_j 160, zi_a (z + 29), zi_j 160, zi_a (z + 31), zi_j 160, zi_a (z + 33), zi_j 160, zi_a (z + 35), zi_j 160, zi_a (z + 37), zi_j 160]
theorem zi_X9 (h : zc_H) : zf_X9_init (zf_new h (.inr (9, [.null, .null, .null, .int 0, .null, .int 0, .null, .null, .null, .null, .null]))) h.2.1 = some (zi_w h (zi_C h.2.1 h.2.2)) := by
  rw [zi_0 h]
  unfold zf_X9_init
  rw [if_neg zi_is, zi_1, zo_s, zi_p (by simp), zo_s]
  rw [zi_0 (zi_w h _), zo_s, zi_X6, zo_s, zi_3, zi_p (by simp), zo_s]
  rw [zi_0 (zi_w h _), zo_s, zi_X6, zo_s, zi_3, zi_p (by simp), zo_s]
  rw [zi_1, zo_s, zi_p (by simp), zo_s, zi_p (by simp), zo_s]
  rw [zi_0 (zi_w h _), zo_s, zi_X0, zo_s, zi_3, zi_p (by simp), zo_s]
  rw [zi_0 (zi_w h _), zo_s, zi_X1, zo_s, zi_3, zi_p (by simp), zo_s]
  rw [zi_0 (zi_w h _), zo_s, zi_gr (some (h.2.1 + 2)) rfl, zo_s, zi_X8, zo_s, zi_3, zi_p (by simp), zo_s]
  rw [zi_0 (zi_w h _), zo_s, zi_gr (some (h.2.1 + 2)) rfl, zo_s, zi_gr (some (h.2.1 + 15)) rfl, zo_s, zi_X7, zo_s, zi_3, zi_p (by simp), zo_s]
  rw [zi_0 (zi_w h _), zo_s, zi_X2, zo_s, zi_3, zi_p (by simp), zo_s]
  refine (congrArg (fun o : Option zc_H => o.bind fun w => some w) (zi_8 (h := h) (l := _) rfl)).trans ?_
  rfl
