/-! the start of the reference; both at the start; all operations -/
theorem zi_m {h : zc_H} {l : List va_E} {S : zm_S} (hl : l.length = 22) (h0 : l[0]? = some (.inr (10, zm_fs h.2.1 S))) (hc : ∀ k, 0 < k → k < 22 → l[k]? = some (zm_bl S k)) : zi_w h l = zm_h h.2.1 (zi_w h l) S := by
  refine Prod.ext ?_ rfl
  funext a
  unfold zm_h
  dsimp only
  by_cases c : a = h.2.1
  · subst c
    rw [if_pos rfl, ← h0]
    exact zi_at (k := 0) (by omega)
  · rw [if_neg c]
    by_cases c2 : h.2.1 < a ∧ a < h.2.1 + 22
    · obtain ⟨k, hk⟩ := Nat.exists_eq_add_of_lt c2.1
      have hk : a = h.2.1 + (k + 1) := by omega
      subst hk
      rw [if_pos c2, zi_at (by omega), Nat.add_sub_cancel_left]
      exact hc (k + 1) (by omega) (by omega)
    · rw [if_neg c2]
theorem zi_mo {q a : Nat} {h : zc_H} {S : zm_S} (ha : a < q) : (zm_h q h S).1 a = h.1 a := by
  unfold zm_h
  dsimp only
  rw [if_neg (by omega), if_neg (by omega)]
def zi_S0 : zm_S := (fun _ => 0, fun _ _ => 0, fun _ _ => 0)
def zi_i (S : zm_S) (k i : Nat) (x : Int32) : zm_S := (S.1, va_up S.2.1 k (va_up (S.2.1 k) i x), S.2.2)
theorem zi_si {S : zm_S} {k n i : Nat} {x : Int32} (hi : i < n) (hn : n < 2 ^ 31) : zg_si k n S (nI i) x = some (zi_i S k i x) := by
  unfold zg_si zi_i
  rw [if_neg (za_in hi hn), nI_clamp (Nat.lt_trans hi hn)]
theorem zi_RL {q m i : Nat} {w : zc_H} {S : zm_S} (hi : i < 8) : zf_X10_init_L209 q (m + 1) (zm_h q w S) (nI i) = zf_X10_init_L209 q m (zm_h q w (zi_i S 9 i (-1))) (nI (i + 1)) := by
  rw [zf_X10_init_L209, if_neg (show ¬ (8 : Int32) ≤ nI i from nI_ge hi (by decide)), zm_gr9, zo_s, zo_s, zm_s9, zi_si hi (by decide)]
  rw [Option.map_some, zo_s, ← nI_succ i]
theorem zi_RE {q m : Nat} {w : zc_H} : zf_X10_init_L209 q (m + 1) w (nI 8) = some w := by
  rw [zf_X10_init_L209, if_pos (show (8 : Int32) ≤ nI 8 from nI_le (by decide) (by decide))]
def zi_R (h42 : zc_H) (q : Nat) : Option zc_H :=
  (zf_gr h42 q 10 7).bind fun v43 =>
  v43.bind fun a45 =>
  (zf_si h42 a45 0 0 2).bind fun h46 =>
  (zf_gr h46 q 10 7).bind fun v47 =>
  v47.bind fun a49 =>
  (zf_si h46 a49 0 1 6).bind fun h50 =>
  (zf_gr h50 q 10 7).bind fun v51 =>
  v51.bind fun a53 =>
  (zf_si h50 a53 0 2 1).bind fun h54 =>
  (zf_p h54 q 10 8 (.int (1))).bind fun h55 =>
  (zf_p h55 q 10 12 (.int ((-1)))).bind fun h56 =>
  (zf_X10_init_L209 q 17 h56 0).bind fun w62 =>
  some w62
def zi_S1 : zm_S := zg_p (zg_p (zi_i (zi_i (zi_i zi_S0 7 0 2) 7 1 6) 7 2 1) 8 1) 12 (-1)
def zi_S : zm_S := zi_i (zi_i (zi_i (zi_i (zi_i (zi_i (zi_i (zi_i zi_S1 9 0 (-1)) 9 1 (-1)) 9 2 (-1)) 9 3 (-1)) 9 4 (-1)) 9 5 (-1)) 9 6 (-1)) 9 7 (-1)
theorem zi_R8 (q : Nat) (w : zc_H) : zf_X10_init_L209 q 17 (zm_h q w zi_S1) (nI 0) = some (zm_h q w zi_S) := by
  rw [zi_RL (by decide), zi_RL (by decide), zi_RL (by decide), zi_RL (by decide), zi_RL (by decide), zi_RL (by decide), zi_RL (by decide), zi_RL (by decide), zi_RE]
  rfl
theorem zi_R_eq (q : Nat) (w : zc_H) : zi_R (zm_h q w zi_S0) q = some (zm_h q w zi_S) := by
  have a0 : ∀ S : zm_S, zg_si 7 3 S 0 2 = some (zi_i S 7 0 2) := fun S => zi_si (i := 0) (by decide) (by decide)
  have a1 : ∀ S : zm_S, zg_si 7 3 S 1 6 = some (zi_i S 7 1 6) := fun S => zi_si (i := 1) (by decide) (by decide)
  have a2 : ∀ S : zm_S, zg_si 7 3 S 2 1 = some (zi_i S 7 2 1) := fun S => zi_si (i := 2) (by decide) (by decide)
  unfold zi_R
  rw [zm_gr7, zo_s, zo_s, zm_s7, a0, Option.map_some, zo_s, zm_gr7, zo_s, zo_s, zm_s7, a1, Option.map_some, zo_s, zm_gr7, zo_s, zo_s, zm_s7, a2, Option.map_some, zo_s, zm_p8, zo_s, zm_p12, zo_s]
  exact congrArg (fun o : Option zc_H => o.bind fun w => some w) (zi_R8 q w)
def zi_E (q : Nat) : List va_E := [.inr (10, zm_fs q zi_S0), .inl (0, 16, .inl (fun _ => 0)), .inl (0, 17, .inl (fun _ => 0)), zi_j 408, .inl (0, 384, .inl (fun _ => 0)), .inl (0, 112, .inl (fun _ => 0)), .inl (0, 3, .inl (fun _ => 0)), .inl (0, 8, .inl (fun _ => 0)), .inl (0, 8, .inl (fun _ => 0)), zi_j 1280, .inl (0, 20, .inl (fun _ => 0)), .inl (0, 8, .inl (fun _ => 0)), .inl (0, 16, .inl (fun _ => 0)), .inl (0, 16, .inl (fun _ => 0)), zi_j 384, .inl (0, 112, .inl (fun _ => 0)), .inl (0, 3, .inl (fun _ => 0)), .inl (0, 625, .inl (fun _ => 0)), .inl (0, 24, .inl (fun _ => 0)), .inl (2, 24, .inl (fun _ => 0)), .inl (0, 16, .inl (fun _ => 0)), .inl (0, 16, .inl (fun _ => 0))]
theorem zi_Em (h : zc_H) : zi_w h (zi_E h.2.1) = zm_h h.2.1 (zi_w h (zi_E h.2.1)) zi_S0 := zi_m rfl rfl (fun k h1 h2 => by
  match k, h1, h2 with
  | 1, _, _ => rfl
  | 2, _, _ => rfl
  | 3, _, _ => rfl
  | 4, _, _ => rfl
  | 5, _, _ => rfl
  | 6, _, _ => rfl
  | 7, _, _ => rfl
  | 8, _, _ => rfl
  | 9, _, _ => rfl
  | 10, _, _ => rfl
  | 11, _, _ => rfl
  | 12, _, _ => rfl
  | 13, _, _ => rfl
  | 14, _, _ => rfl
  | 15, _, _ => rfl
  | 16, _, _ => rfl
  | 17, _, _ => rfl
  | 18, _, _ => rfl
  | 19, _, _ => rfl
  | 20, _, _ => rfl
  | 21, _, _ => rfl
  | k + 22, _, h2 => omega)
theorem zi_np {h : zc_H} {k n : Nat} {fs fs2 : List Value} {l : List va_E} {e : va_E} {G : zc_H → Option zc_H} (hk : k < fs.length) (hn : l.length = n) (hs : fs.set k (.ref (h.2.1 + (n + 1))) = fs2) : ((some (zf_new (zi_w h (.inr (10, fs) :: l)) e)).bind fun h1 => (zf_p h1 h.2.1 10 k (va_rf (some (zi_w h (.inr (10, fs) :: l)).2.1))).bind G) = G (zi_w h (.inr (10, fs2) :: (l ++ [e]))) := by
  rw [zo_s, zi_1, zi_p hk, zo_s, ← hs, ← hn]
  rfl
theorem zi_X10 (h : zc_H) : zf_X10_init (zf_new h (.inr (10, [.int 0, .null, .null, .null, .null, .int 0, .null, .null, .int 0, .null, .null, .null, .int 0, .int 0, .null, .null, .int 0, .int 0, .null, .null, .null, .int 0, .null, .null, .int 0, .null, .null, .null, .int 0, .int 0, .null, .int 0, .int 0, .int 0, .int 0, .int 0, .int 0, .null, .int 0, .int 0, .int 0]))) h.2.1 = some (zm_h h.2.1 (zi_w h (zi_E h.2.1)) zi_S) := by
  rw [zi_0 h]
  unfold zf_X10_init
  rw [if_neg zi_is]
  refine (zi_np (n := 0) (fs2 := [.int 0, .ref (h.2.1 + 1), .null, .null, .null, .int 0, .null, .null, .int 0, .null, .null, .null, .int 0, .int 0, .null, .null, .int 0, .int 0, .null, .null, .null, .int 0, .null, .null, .int 0, .null, .null, .null, .int 0, .int 0, .null, .int 0, .int 0, .int 0, .int 0, .int 0, .int 0, .null, .int 0, .int 0, .int 0]) (by simp) rfl rfl).trans ?_
  refine (zi_np (n := 1) (fs2 := [.int 0, .ref (h.2.1 + 1), .ref (h.2.1 + 2), .null, .null, .int 0, .null, .null, .int 0, .null, .null, .null, .int 0, .int 0, .null, .null, .int 0, .int 0, .null, .null, .null, .int 0, .null, .null, .int 0, .null, .null, .null, .int 0, .int 0, .null, .int 0, .int 0, .int 0, .int 0, .int 0, .int 0, .null, .int 0, .int 0, .int 0]) (by simp) rfl rfl).trans ?_
  refine (zi_np (n := 2) (fs2 := [.int 0, .ref (h.2.1 + 1), .ref (h.2.1 + 2), .ref (h.2.1 + 3), .null, .int 0, .null, .null, .int 0, .null, .null, .null, .int 0, .int 0, .null, .null, .int 0, .int 0, .null, .null, .null, .int 0, .null, .null, .int 0, .null, .null, .null, .int 0, .int 0, .null, .int 0, .int 0, .int 0, .int 0, .int 0, .int 0, .null, .int 0, .int 0, .int 0]) (by simp) rfl rfl).trans ?_
  refine (zi_np (n := 3) (fs2 := [.int 0, .ref (h.2.1 + 1), .ref (h.2.1 + 2), .ref (h.2.1 + 3), .ref (h.2.1 + 4), .int 0, .null, .null, .int 0, .null, .null, .null, .int 0, .int 0, .null, .null, .int 0, .int 0, .null, .null, .null, .int 0, .null, .null, .int 0, .null, .null, .null, .int 0, .int 0, .null, .int 0, .int 0, .int 0, .int 0, .int 0, .int 0, .null, .int 0, .int 0, .int 0]) (by simp) rfl rfl).trans ?_
  refine (zi_np (n := 4) (fs2 := [.int 0, .ref (h.2.1 + 1), .ref (h.2.1 + 2), .ref (h.2.1 + 3), .ref (h.2.1 + 4), .int 0, .ref (h.2.1 + 5), .null, .int 0, .null, .null, .null, .int 0, .int 0, .null, .null, .int 0, .int 0, .null, .null, .null, .int 0, .null, .null, .int 0, .null, .null, .null, .int 0, .int 0, .null, .int 0, .int 0, .int 0, .int 0, .int 0, .int 0, .null, .int 0, .int 0, .int 0]) (by simp) rfl rfl).trans ?_
  refine (zi_np (n := 5) (fs2 := [.int 0, .ref (h.2.1 + 1), .ref (h.2.1 + 2), .ref (h.2.1 + 3), .ref (h.2.1 + 4), .int 0, .ref (h.2.1 + 5), .ref (h.2.1 + 6), .int 0, .null, .null, .null, .int 0, .int 0, .null, .null, .int 0, .int 0, .null, .null, .null, .int 0, .null, .null, .int 0, .null, .null, .null, .int 0, .int 0, .null, .int 0, .int 0, .int 0, .int 0, .int 0, .int 0, .null, .int 0, .int 0, .int 0]) (by simp) rfl rfl).trans ?_
  refine (zi_np (n := 6) (fs2 := [.int 0, .ref (h.2.1 + 1), .ref (h.2.1 + 2), .ref (h.2.1 + 3), .ref (h.2.1 + 4), .int 0, .ref (h.2.1 + 5), .ref (h.2.1 + 6), .int 0, .ref (h.2.1 + 7), .null, .null, .int 0, .int 0, .null, .null, .int 0, .int 0, .null, .null, .null, .int 0, .null, .null, .int 0, .null, .null, .null, .int 0, .int 0, .null, .int 0, .int 0, .int 0, .int 0, .int 0, .int 0, .null, .int 0, .int 0, .int 0]) (by simp) rfl rfl).trans ?_
  refine (zi_np (n := 7) (fs2 := [.int 0, .ref (h.2.1 + 1), .ref (h.2.1 + 2), .ref (h.2.1 + 3), .ref (h.2.1 + 4), .int 0, .ref (h.2.1 + 5), .ref (h.2.1 + 6), .int 0, .ref (h.2.1 + 7), .ref (h.2.1 + 8), .null, .int 0, .int 0, .null, .null, .int 0, .int 0, .null, .null, .null, .int 0, .null, .null, .int 0, .null, .null, .null, .int 0, .int 0, .null, .int 0, .int 0, .int 0, .int 0, .int 0, .int 0, .null, .int 0, .int 0, .int 0]) (by simp) rfl rfl).trans ?_
  refine (zi_np (n := 8) (fs2 := [.int 0, .ref (h.2.1 + 1), .ref (h.2.1 + 2), .ref (h.2.1 + 3), .ref (h.2.1 + 4), .int 0, .ref (h.2.1 + 5), .ref (h.2.1 + 6), .int 0, .ref (h.2.1 + 7), .ref (h.2.1 + 8), .ref (h.2.1 + 9), .int 0, .int 0, .null, .null, .int 0, .int 0, .null, .null, .null, .int 0, .null, .null, .int 0, .null, .null, .null, .int 0, .int 0, .null, .int 0, .int 0, .int 0, .int 0, .int 0, .int 0, .null, .int 0, .int 0, .int 0]) (by simp) rfl rfl).trans ?_
  refine (zi_np (n := 9) (fs2 := [.int 0, .ref (h.2.1 + 1), .ref (h.2.1 + 2), .ref (h.2.1 + 3), .ref (h.2.1 + 4), .int 0, .ref (h.2.1 + 5), .ref (h.2.1 + 6), .int 0, .ref (h.2.1 + 7), .ref (h.2.1 + 8), .ref (h.2.1 + 9), .int 0, .int 0, .ref (h.2.1 + 10), .null, .int 0, .int 0, .null, .null, .null, .int 0, .null, .null, .int 0, .null, .null, .null, .int 0, .int 0, .null, .int 0, .int 0, .int 0, .int 0, .int 0, .int 0, .null, .int 0, .int 0, .int 0]) (by simp) rfl rfl).trans ?_
  refine (zi_np (n := 10) (fs2 := [.int 0, .ref (h.2.1 + 1), .ref (h.2.1 + 2), .ref (h.2.1 + 3), .ref (h.2.1 + 4), .int 0, .ref (h.2.1 + 5), .ref (h.2.1 + 6), .int 0, .ref (h.2.1 + 7), .ref (h.2.1 + 8), .ref (h.2.1 + 9), .int 0, .int 0, .ref (h.2.1 + 10), .ref (h.2.1 + 11), .int 0, .int 0, .null, .null, .null, .int 0, .null, .null, .int 0, .null, .null, .null, .int 0, .int 0, .null, .int 0, .int 0, .int 0, .int 0, .int 0, .int 0, .null, .int 0, .int 0, .int 0]) (by simp) rfl rfl).trans ?_
  refine (zi_np (n := 11) (fs2 := [.int 0, .ref (h.2.1 + 1), .ref (h.2.1 + 2), .ref (h.2.1 + 3), .ref (h.2.1 + 4), .int 0, .ref (h.2.1 + 5), .ref (h.2.1 + 6), .int 0, .ref (h.2.1 + 7), .ref (h.2.1 + 8), .ref (h.2.1 + 9), .int 0, .int 0, .ref (h.2.1 + 10), .ref (h.2.1 + 11), .int 0, .int 0, .ref (h.2.1 + 12), .null, .null, .int 0, .null, .null, .int 0, .null, .null, .null, .int 0, .int 0, .null, .int 0, .int 0, .int 0, .int 0, .int 0, .int 0, .null, .int 0, .int 0, .int 0]) (by simp) rfl rfl).trans ?_
  refine (zi_np (n := 12) (fs2 := [.int 0, .ref (h.2.1 + 1), .ref (h.2.1 + 2), .ref (h.2.1 + 3), .ref (h.2.1 + 4), .int 0, .ref (h.2.1 + 5), .ref (h.2.1 + 6), .int 0, .ref (h.2.1 + 7), .ref (h.2.1 + 8), .ref (h.2.1 + 9), .int 0, .int 0, .ref (h.2.1 + 10), .ref (h.2.1 + 11), .int 0, .int 0, .ref (h.2.1 + 12), .ref (h.2.1 + 13), .null, .int 0, .null, .null, .int 0, .null, .null, .null, .int 0, .int 0, .null, .int 0, .int 0, .int 0, .int 0, .int 0, .int 0, .null, .int 0, .int 0, .int 0]) (by simp) rfl rfl).trans ?_
  refine (zi_np (n := 13) (fs2 := [.int 0, .ref (h.2.1 + 1), .ref (h.2.1 + 2), .ref (h.2.1 + 3), .ref (h.2.1 + 4), .int 0, .ref (h.2.1 + 5), .ref (h.2.1 + 6), .int 0, .ref (h.2.1 + 7), .ref (h.2.1 + 8), .ref (h.2.1 + 9), .int 0, .int 0, .ref (h.2.1 + 10), .ref (h.2.1 + 11), .int 0, .int 0, .ref (h.2.1 + 12), .ref (h.2.1 + 13), .ref (h.2.1 + 14), .int 0, .null, .null, .int 0, .null, .null, .null, .int 0, .int 0, .null, .int 0, .int 0, .int 0, .int 0, .int 0, .int 0, .null, .int 0, .int 0, .int 0]) (by simp) rfl rfl).trans ?_
  refine (zi_np (n := 14) (fs2 := [.int 0, .ref (h.2.1 + 1), .ref (h.2.1 + 2), .ref (h.2.1 + 3), .ref (h.2.1 + 4), .int 0, .ref (h.2.1 + 5), .ref (h.2.1 + 6), .int 0, .ref (h.2.1 + 7), .ref (h.2.1 + 8), .ref (h.2.1 + 9), .int 0, .int 0, .ref (h.2.1 + 10), .ref (h.2.1 + 11), .int 0, .int 0, .ref (h.2.1 + 12), .ref (h.2.1 + 13), .ref (h.2.1 + 14), .int 0, .ref (h.2.1 + 15), .null, .int 0, .null, .null, .null, .int 0, .int 0, .null, .int 0, .int 0, .int 0, .int 0, .int 0, .int 0, .null, .int 0, .int 0, .int 0]) (by simp) rfl rfl).trans ?_
  refine (zi_np (n := 15) (fs2 := [.int 0, .ref (h.2.1 + 1), .ref (h.2.1 + 2), .ref (h.2.1 + 3), .ref (h.2.1 + 4), .int 0, .ref (h.2.1 + 5), .ref (h.2.1 + 6), .int 0, .ref (h.2.1 + 7), .ref (h.2.1 + 8), .ref (h.2.1 + 9), .int 0, .int 0, .ref (h.2.1 + 10), .ref (h.2.1 + 11), .int 0, .int 0, .ref (h.2.1 + 12), .ref (h.2.1 + 13), .ref (h.2.1 + 14), .int 0, .ref (h.2.1 + 15), .ref (h.2.1 + 16), .int 0, .null, .null, .null, .int 0, .int 0, .null, .int 0, .int 0, .int 0, .int 0, .int 0, .int 0, .null, .int 0, .int 0, .int 0]) (by simp) rfl rfl).trans ?_
  refine (zi_np (n := 16) (fs2 := [.int 0, .ref (h.2.1 + 1), .ref (h.2.1 + 2), .ref (h.2.1 + 3), .ref (h.2.1 + 4), .int 0, .ref (h.2.1 + 5), .ref (h.2.1 + 6), .int 0, .ref (h.2.1 + 7), .ref (h.2.1 + 8), .ref (h.2.1 + 9), .int 0, .int 0, .ref (h.2.1 + 10), .ref (h.2.1 + 11), .int 0, .int 0, .ref (h.2.1 + 12), .ref (h.2.1 + 13), .ref (h.2.1 + 14), .int 0, .ref (h.2.1 + 15), .ref (h.2.1 + 16), .int 0, .ref (h.2.1 + 17), .null, .null, .int 0, .int 0, .null, .int 0, .int 0, .int 0, .int 0, .int 0, .int 0, .null, .int 0, .int 0, .int 0]) (by simp) rfl rfl).trans ?_
  refine (zi_np (n := 17) (fs2 := [.int 0, .ref (h.2.1 + 1), .ref (h.2.1 + 2), .ref (h.2.1 + 3), .ref (h.2.1 + 4), .int 0, .ref (h.2.1 + 5), .ref (h.2.1 + 6), .int 0, .ref (h.2.1 + 7), .ref (h.2.1 + 8), .ref (h.2.1 + 9), .int 0, .int 0, .ref (h.2.1 + 10), .ref (h.2.1 + 11), .int 0, .int 0, .ref (h.2.1 + 12), .ref (h.2.1 + 13), .ref (h.2.1 + 14), .int 0, .ref (h.2.1 + 15), .ref (h.2.1 + 16), .int 0, .ref (h.2.1 + 17), .ref (h.2.1 + 18), .null, .int 0, .int 0, .null, .int 0, .int 0, .int 0, .int 0, .int 0, .int 0, .null, .int 0, .int 0, .int 0]) (by simp) rfl rfl).trans ?_
  refine (zi_np (n := 18) (fs2 := [.int 0, .ref (h.2.1 + 1), .ref (h.2.1 + 2), .ref (h.2.1 + 3), .ref (h.2.1 + 4), .int 0, .ref (h.2.1 + 5), .ref (h.2.1 + 6), .int 0, .ref (h.2.1 + 7), .ref (h.2.1 + 8), .ref (h.2.1 + 9), .int 0, .int 0, .ref (h.2.1 + 10), .ref (h.2.1 + 11), .int 0, .int 0, .ref (h.2.1 + 12), .ref (h.2.1 + 13), .ref (h.2.1 + 14), .int 0, .ref (h.2.1 + 15), .ref (h.2.1 + 16), .int 0, .ref (h.2.1 + 17), .ref (h.2.1 + 18), .ref (h.2.1 + 19), .int 0, .int 0, .null, .int 0, .int 0, .int 0, .int 0, .int 0, .int 0, .null, .int 0, .int 0, .int 0]) (by simp) rfl rfl).trans ?_
  refine (zi_np (n := 19) (fs2 := [.int 0, .ref (h.2.1 + 1), .ref (h.2.1 + 2), .ref (h.2.1 + 3), .ref (h.2.1 + 4), .int 0, .ref (h.2.1 + 5), .ref (h.2.1 + 6), .int 0, .ref (h.2.1 + 7), .ref (h.2.1 + 8), .ref (h.2.1 + 9), .int 0, .int 0, .ref (h.2.1 + 10), .ref (h.2.1 + 11), .int 0, .int 0, .ref (h.2.1 + 12), .ref (h.2.1 + 13), .ref (h.2.1 + 14), .int 0, .ref (h.2.1 + 15), .ref (h.2.1 + 16), .int 0, .ref (h.2.1 + 17), .ref (h.2.1 + 18), .ref (h.2.1 + 19), .int 0, .int 0, .ref (h.2.1 + 20), .int 0, .int 0, .int 0, .int 0, .int 0, .int 0, .null, .int 0, .int 0, .int 0]) (by simp) rfl rfl).trans ?_
  refine (zi_np (n := 20) (fs2 := [.int 0, .ref (h.2.1 + 1), .ref (h.2.1 + 2), .ref (h.2.1 + 3), .ref (h.2.1 + 4), .int 0, .ref (h.2.1 + 5), .ref (h.2.1 + 6), .int 0, .ref (h.2.1 + 7), .ref (h.2.1 + 8), .ref (h.2.1 + 9), .int 0, .int 0, .ref (h.2.1 + 10), .ref (h.2.1 + 11), .int 0, .int 0, .ref (h.2.1 + 12), .ref (h.2.1 + 13), .ref (h.2.1 + 14), .int 0, .ref (h.2.1 + 15), .ref (h.2.1 + 16), .int 0, .ref (h.2.1 + 17), .ref (h.2.1 + 18), .ref (h.2.1 + 19), .int 0, .int 0, .ref (h.2.1 + 20), .int 0, .int 0, .int 0, .int 0, .int 0, .int 0, .ref (h.2.1 + 21), .int 0, .int 0, .int 0]) (by simp) rfl rfl).trans ?_
  show zi_R (zi_w h (zi_E h.2.1)) h.2.1 = _
  refine (congrArg (fun w => zi_R w h.2.1) (zi_Em h)).trans (zi_R_eq _ _)
