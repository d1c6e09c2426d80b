/-! the class's lists -/
def zk_al (h : zc_H) (L e n : Nat) (f : Nat → Nat) : Prop := ∃ (mc : Int32) (cap : Nat) (g : Nat → Option Nat), h.1 L = some (.inr (11, [.int mc, .ref e, .int (nI n)])) ∧ ((e = h.2.2 ∧ cap = 0) ∨ (e ≠ h.2.2 ∧ h.1 e = some (.inl (4, cap, .inr (.inr (.inr (.inr g))))) ∧ (cap = 10 ∨ cap = 15 ∨ cap = 22))) ∧ n ≤ cap ∧ ∀ i, i < n → g i = some (f i)
theorem zk_al_size {h : zc_H} {L e n : Nat} {f : Nat → Nat} (A : zk_al h L e n f) : zf_Jx4a65c_size_8abf5 h L = some (nI n) := by
  obtain ⟨mc, cap, g, a1, a2, a3, a4⟩ := A
  unfold zf_Jx4a65c_size_8abf5
  rw [if_neg (zb_is a1), zb_gi a1 rfl, zo_s]
theorem zk_al_get {h : zc_H} {L e n i : Nat} {f : Nat → Nat} (A : zk_al h L e n f) (hi : i < n) : zf_Jx4a65c_get_915e3 h L (nI i) = some (some (f i)) := by
  obtain ⟨mc, cap, g, a1, a2, a3, a4⟩ := A
  rcases a2 with ⟨-, b⟩ | ⟨b1, b2, b3⟩
  · omega
  have hc : cap < 2 ^ 31 := by omega
  unfold zf_Jx4a65c_get_915e3 zf_J15_checkIndex_7cf53 zf_J3_checkIndex_8e157 zf_Jx4a65c_elementData_915e3
  rw [if_neg (zb_is a1), zb_gi a1 rfl, zo_s, if_neg (nI_pos (by omega)), if_pos (nI_lt hi (by omega)), zo_s, zo_s, if_neg (zb_is a1), zb_gr (x := some e) a1 rfl, zo_s, zo_s, zb_ar b2 (by omega) hc, zo_s, zo_s, a4 i hi]
theorem zk_al_same {h h2 : zc_H} {L e n : Nat} {f : Nat → Nat} (A : zk_al h L e n f) (h1 : h2.1 L = h.1 L) (h3 : e ≠ h.2.2 → h2.1 e = h.1 e) (h4 : h2.2.2 = h.2.2) : zk_al h2 L e n f := by
  obtain ⟨mc, cap, g, a1, a2, a3, a4⟩ := A
  refine ⟨mc, cap, g, h1.trans a1, ?_, a3, a4⟩
  rw [h4]
  rcases a2 with b | ⟨b1, b2, b3⟩
  · exact Or.inl b
  · exact Or.inr ⟨b1, (h3 b1).trans b2, b3⟩
theorem zk_al_f {h : zc_H} {L e n : Nat} {f f2 : Nat → Nat} (A : zk_al h L e n f) (hf : ∀ i, i < n → f i = f2 i) : zk_al h L e n f2 := by
  obtain ⟨mc, cap, g, a1, a2, a3, a4⟩ := A
  exact ⟨mc, cap, g, a1, a2, a3, fun i hi => by rw [a4 i hi, hf i hi]⟩
theorem zk_al_clearL {L e cap n : Nat} {f : Nat → Nat} (hc : cap < 2 ^ 31) (hn : n ≤ cap) : ∀ (r fu k : Nat) (h : zc_H) (g : Nat → Option Nat), k + r = n → r < fu → h.1 e = some (.inl (4, cap, .inr (.inr (.inr (.inr g))))) → ∃ h2, zf_Jx4a65c_clear_da8c8_L27 L (some e) (nI n) fu h (nI k) = some h2 ∧ (∃ g2, h2.1 e = some (.inl (4, cap, .inr (.inr (.inr (.inr g2)))))) ∧ h2.2 = h.2 ∧ ∀ x, x ≠ e → h2.1 x = h.1 x := by
  intro r
  induction r with
  | zero =>
    intro fu k h g h1 h2 h3
    obtain ⟨fl, rfl⟩ : ∃ fl, fu = fl + 1 := ⟨fu - 1, by omega⟩
    refine ⟨h, ?_, ⟨g, h3⟩, rfl, fun _ _ => rfl⟩
    unfold zf_Jx4a65c_clear_da8c8_L27
    rw [if_pos (nI_le (by omega) (by omega))]
  | succ r ih =>
    intro fu k h g h1 h2 h3
    obtain ⟨fl, rfl⟩ : ∃ fl, fu = fl + 1 := ⟨fu - 1, by omega⟩
    obtain ⟨h2, e1, e2, e3, e4⟩ := ih fl (k + 1) (zf_up h e (.inl (4, cap, .inr (.inr (.inr (.inr (va_up g k none))))))) _ (by omega) (by omega) (zb_up _ _ _)
    refine ⟨h2, ?_, e2, e3, fun x hx => by rw [e4 x hx, zb_upn hx]⟩
    unfold zf_Jx4a65c_clear_da8c8_L27
    rw [if_neg (nI_ge (by omega) (by omega)), zo_s, zb_sN h3 (by omega) hc, zo_s, ← nI_succ]
    exact e1
theorem zk_al_clear {h : zc_H} {L e n : Nat} {f : Nat → Nat} (f2 : Nat → Nat) (A : zk_al h L e n f) : ∃ h2, zf_Jx4a65c_clear_da8c8 h L = some h2 ∧ zk_al h2 L e 0 f2 ∧ h2.2 = h.2 ∧ ∀ x, x ≠ L → (x ≠ e ∨ e = h.2.2) → h2.1 x = h.1 x := by
  obtain ⟨mc, cap, g, a1, a2, a3, a4⟩ := A
  unfold zf_Jx4a65c_clear_da8c8
  rw [if_neg (zb_is a1), zb_gi a1 rfl, zo_s, zb_p a1 (Nat.le_of_ble_eq_true rfl), zo_s]
  have b1 : (zf_up h L (.inr (11, ([.int mc, .ref e, .int (nI n)] : List Value).set 0 (.int (mc + 1))))).1 L = some (.inr (11, [.int (mc + 1), .ref e, .int (nI n)])) := zb_up _ _ _
  rw [zb_gr (x := some e) b1 rfl, zo_s, zb_gi b1 rfl, zo_s, zb_p b1 (Nat.le_of_ble_eq_true rfl), zo_s]
  generalize hb2 : zf_up (zf_up h L (.inr (11, ([.int mc, .ref e, .int (nI n)] : List Value).set 0 (.int (mc + 1))))) L (.inr (11, ([.int (mc + 1), .ref e, .int (nI n)] : List Value).set 2 (.int 0))) = hb
  have c1 : hb.1 L = some (.inr (11, [.int (mc + 1), .ref e, .int (nI 0)])) := by rw [← hb2]; exact zb_up _ _ _
  have c2 : ∀ x, x ≠ L → hb.1 x = h.1 x := fun x hx => by rw [← hb2, zb_upn hx, zb_upn hx]
  have c3 : hb.2 = h.2 := by rw [← hb2]; rfl
  rcases a2 with ⟨d1, d2⟩ | ⟨d1, d2, d3⟩
  · have hn : n = 0 := by omega
    subst hn
    refine ⟨hb, ?_, ⟨mc + 1, 0, fun _ => none, c1, Or.inl ⟨by rw [c3]; exact d1, rfl⟩, Nat.le_refl _, fun i hi => absurd hi (Nat.not_lt_zero i)⟩, c3, fun x hx _ => c2 x hx⟩
    unfold zf_Jx4a65c_clear_da8c8_L27
    rw [if_pos (by decide), zo_s]
  · have heL : e ≠ L := fun z => by rw [z, a1] at d2; cases d2
    obtain ⟨h2, e1, ⟨g2, e2⟩, e3, e4⟩ := zk_al_clearL (L := L) (f := f) (by omega) a3 n 2000 0 hb g (by omega) (by omega) (by rw [c2 e heL]; exact d2)
    rw [show (0 : Int32) = nI 0 by decide, e1, zo_s]
    refine ⟨h2, rfl, ⟨mc + 1, cap, g2, by rw [e4 L heL.symm]; exact c1, Or.inr ⟨by rw [e3, c3]; exact d1, e2, d3⟩, Nat.zero_le _, fun i hi => absurd hi (Nat.not_lt_zero i)⟩, by rw [e3, c3], fun x hx hy => ?_⟩
    rw [e4 x (hy.resolve_right d1), c2 x hx]
/-- how a list grows -/
theorem zk_newlen (h : zc_H) {cap : Nat} (hc : cap = 10 ∨ cap = 15) : ∃ n, zf_J8_newLength_cabcc h (nI cap) (nI (cap + 1) - nI cap) (nI cap >>> (1 &&& 31)) = some (h, nI n) ∧ ((cap = 10 ∧ n = 15) ∨ (cap = 15 ∧ n = 22)) := by
  rcases hc with rfl | rfl
  · refine ⟨15, ?_, Or.inl ⟨rfl, rfl⟩⟩
    unfold zf_J8_newLength_cabcc
    dsimp only
    rw [show (if nI (10 + 1) - nI 10 < nI 10 >>> (1 &&& 31) then nI 10 >>> (1 &&& 31) else nI (10 + 1) - nI 10) = nI 5 by decide +kernel, if_neg (by decide), if_neg (by decide)]
    rfl
  · refine ⟨22, ?_, Or.inr ⟨rfl, rfl⟩⟩
    unfold zf_J8_newLength_cabcc
    dsimp only
    rw [show (if nI (15 + 1) - nI 15 < nI 15 >>> (1 &&& 31) then nI 15 >>> (1 &&& 31) else nI (15 + 1) - nI 15) = nI 7 by decide +kernel, if_neg (by decide), if_neg (by decide)]
    rfl
theorem zk_al_put {h : zc_H} {L e n cap x : Nat} {f : Nat → Nat} {mc : Int32} {g : Nat → Option Nat} (a1 : h.1 L = some (.inr (11, [.int mc, .ref e, .int (nI n)]))) (a2 : e ≠ h.2.2) (a3 : h.1 e = some (.inl (4, cap, .inr (.inr (.inr (.inr g)))))) (a4 : cap = 10 ∨ cap = 15 ∨ cap = 22) (a5 : n < cap) (a6 : ∀ i, i < n → g i = some (f i)) (hx : zf_is h x 4 = true ∨ zf_is h x 3 = true) : ∃ h4, ((zf_sO h e (nI n) x).bind fun h5 => (zf_p h5 L 11 2 (.int (nI n + 1))).bind fun h6 => some h6) = some h4 ∧ zk_al h4 L e (n + 1) (va_up f n x) ∧ h4.2 = h.2 ∧ ∀ y, y ≠ L → y ≠ e → h4.1 y = h.1 y := by
  have heL : e ≠ L := fun z => by rw [z, a1] at a3; cases a3
  rw [zb_sO a3 a5 (by omega) hx, zo_s, zb_p (vs := [.int mc, .ref e, .int (nI n)]) (by rw [zb_upn heL.symm]; exact a1) (Nat.le_of_ble_eq_true rfl), zo_s, ← nI_succ]
  refine ⟨_, rfl, ⟨mc, cap, va_up g n (some x), zb_up _ _ _, Or.inr ⟨a2, ?_, a4⟩, by omega, fun i hi => ?_⟩, rfl, fun y h1 h2 => ?_⟩
  · rw [zb_upn heL]
    exact zb_up _ _ _
  · by_cases c : i = n
    · subst c
      rw [va_up_self, va_up_self]
    · rw [va_up_ne _ _ c, va_up_ne _ _ c]
      exact a6 i (by omega)
  · rw [zb_upn h1, zb_upn h2]
theorem zk_al_add {h : zc_H} {L e n x : Nat} {f : Nat → Nat} (A : zk_al h L e n f) (hn : n ≤ 16) (hL : L < h.2.1) (he : e < h.2.1) (hx : zf_is h x 4 = true ∨ zf_is h x 3 = true) (hxl : x < h.2.1) (hf : ∀ i, i < n → zf_is h (f i) 4 = true ∨ zf_is h (f i) 3 = true) (hD : h.2.2 < h.2.1) : ∃ h2 e2, zf_Jx4a65c_add_9ea2d h L (some x) = some (h2, 1) ∧ zk_al h2 L e2 (n + 1) (va_up f n x) ∧ ((e2 = e ∧ e ≠ h.2.2 ∧ h2.2.1 = h.2.1) ∨ (e2 = h.2.1 ∧ h2.2.1 = h.2.1 + 1)) ∧ h2.2.2 = h.2.2 ∧ ∀ y, y ≠ L → (y ≠ e ∨ e = h.2.2) → y ≠ h.2.1 → h2.1 y = h.1 y := by
  obtain ⟨mc, cap, g, a1, a2, a3, a4⟩ := A
  have notL : ∀ y, (zf_is h y 4 = true ∨ zf_is h y 3 = true) → y ≠ L := by
    intro y hy z
    rw [z] at hy
    unfold zf_is at hy
    rw [a1] at hy
    simp at hy
  have isL : ∀ (h1 : zc_H) y, (zf_is h y 4 = true ∨ zf_is h y 3 = true) → h1.1 y = h.1 y → (zf_is h1 y 4 = true ∨ zf_is h1 y 3 = true) := by
    intro h1 y hy e
    unfold zf_is at hy ⊢
    rw [e]
    exact hy
  unfold zf_Jx4a65c_add_9ea2d
  rw [if_neg (zb_is a1), zb_gi a1 rfl, zo_s, zb_p a1 (Nat.le_of_ble_eq_true rfl), zo_s]
  generalize hb2 : zf_up h L (.inr (11, ([.int mc, .ref e, .int (nI n)] : List Value).set 0 (.int (mc + 1)))) = hb
  have b1 : hb.1 L = some (.inr (11, [.int (mc + 1), .ref e, .int (nI n)])) := by rw [← hb2]; exact zb_up _ _ _
  have b2 : ∀ y, y ≠ L → hb.1 y = h.1 y := fun y hy => by rw [← hb2, zb_upn hy]
  have b3 : hb.2 = h.2 := by rw [← hb2]; rfl
  rw [zb_gr (x := some e) b1 rfl, zo_s, zb_gi b1 rfl, zo_s]
  have hxb := isL hb x hx (b2 x (notL x hx))
  unfold zf_Jx4a65c_add_72be8
  rw [if_neg (zb_is b1), zo_s]
  -- behind a new array
  have aft : ∀ (h3 : zc_H) (cap3 : Nat) (g3 : Nat → Option Nat), zf_Jx4a65c_grow_d5877 hb L = some (h3, some h.2.1) → h3.1 L = some (.inr (11, [.int (mc + 1), .ref h.2.1, .int (nI n)])) → h3.1 h.2.1 = some (.inl (4, cap3, .inr (.inr (.inr (.inr g3))))) → (∀ y, y ≠ L → y ≠ h.2.1 → h3.1 y = h.1 y) → h3.2.1 = h.2.1 + 1 → h3.2.2 = h.2.2 → (cap3 = 10 ∨ cap3 = 15 ∨ cap3 = 22) → n < cap3 → (∀ i, i < n → g3 i = some (f i)) → ∃ h2 e2, ((zf_Jx4a65c_grow_d5877 hb L).bind fun r7 => r7.2.bind fun a8 => (some x).bind fun a9 => (zf_sO r7.1 a8 (nI n) a9).bind fun h10 => (zf_p h10 L 11 2 (.int (nI n + 1))).bind fun h11 => some h11).bind (fun r8 => some (r8, (1 : Int32))) = some (h2, 1) ∧ zk_al h2 L e2 (n + 1) (va_up f n x) ∧ ((e2 = e ∧ e ≠ h.2.2 ∧ h2.2.1 = h.2.1) ∨ (e2 = h.2.1 ∧ h2.2.1 = h.2.1 + 1)) ∧ h2.2.2 = h.2.2 ∧ ∀ y, y ≠ L → (y ≠ e ∨ e = h.2.2) → y ≠ h.2.1 → h2.1 y = h.1 y := by
    intro h3 cap3 g3 k1 k2 k3 k4 k5 k6 k7 k8 k9
    obtain ⟨h4, m1, m2, m3, m4⟩ := zk_al_put k2 (by rw [k6]; omega) k3 k7 k8 k9 (isL h3 x hx (k4 x (notL x hx) (by omega)))
    rw [k1, zo_s, zo_s, zo_s, m1, zo_s]
    refine ⟨h4, h.2.1, rfl, m2, Or.inr ⟨rfl, by rw [m3, k5]⟩, by rw [m3, k6], fun y y1 y2 y3 => by rw [m4 y y1 y3, k4 y y1 y3]⟩
  have l1 : nI n + 1 = nI (n + 1) := (nI_succ n).symm
  rcases a2 with ⟨d1, d2⟩ | ⟨d1, d2, d3⟩
  · -- the first array
    have hn0 : n = 0 := by omega
    subst hn0
    have el : zf_len hb e = some 0 := by
      unfold zf_len
      rw [if_pos (by rw [b3]; exact d1)]
    rw [el, zo_s, if_pos (by decide)]
    have gr : ∃ h3, zf_Jx4a65c_grow_d5877 hb L = some (h3, some h.2.1) ∧ h3.1 L = some (.inr (11, [.int (mc + 1), .ref h.2.1, .int (nI 0)])) ∧ h3.1 h.2.1 = some (.inl (4, 10, .inr (.inr (.inr (.inr (fun _ => none)))))) ∧ (∀ y, y ≠ L → y ≠ h.2.1 → h3.1 y = h.1 y) ∧ h3.2.1 = h.2.1 + 1 ∧ h3.2.2 = h.2.2 := by
      unfold zf_Jx4a65c_grow_d5877 zf_Jx4a65c_grow_92f84
      dsimp only
      rw [if_neg (zb_is b1), zb_gi b1 rfl, zo_s, if_neg (zb_is b1), zb_gr (x := some e) b1 rfl, zo_s, zo_s, el, zo_s, if_neg (by decide), zo_s, if_pos (by rw [b3, d1]), show (if (10 : Int32) < nI 0 + 1 then nI 0 + 1 else 10) = nI 10 by decide, if_neg (show ¬ (nI 10 < 0 ∨ 40 < (nI 10).toNatClampNeg) by decide), zo_s, show (nI 10).toNatClampNeg = 10 by decide]
      have c1 : (zf_new hb (.inl (4, 10, .inr (.inr (.inr (.inr (fun _ => none))))))).1 L = some (.inr (11, [.int (mc + 1), .ref e, .int (nI 0)])) := by
        rw [zb_newn (by rw [b3]; omega)]
        exact b1
      rw [zb_p c1 (Nat.le_of_ble_eq_true rfl), zo_s, zo_s, b3]
      refine ⟨_, rfl, zb_up _ _ _, ?_, fun y h1 h2 => ?_, ?_, ?_⟩
      · rw [zb_upn (by omega), ← b3]
        exact zb_new _ _
      · rw [zb_upn h1, zb_newn (by rw [b3]; exact h2), b2 y h1]
      · show hb.2.1 + 1 = _
        rw [b3]
      · show hb.2.2 = _
        rw [b3]
    obtain ⟨h3, g1, g2, g3, g4, g5, g6⟩ := gr
    exact aft h3 10 _ g1 g2 g3 g4 g5 g6 (Or.inl rfl) (by omega) (fun i hi => absurd hi (Nat.not_lt_zero i))
  · have heL : e ≠ L := fun z => by rw [z, a1] at d2; cases d2
    have be : hb.1 e = some (.inl (4, cap, .inr (.inr (.inr (.inr g))))) := by rw [b2 e heL]; exact d2
    have bne : e ≠ hb.2.2 := by rw [b3]; exact d1
    have el : zf_len hb e = some (nI cap) := zb_len be bne
    rw [el, zo_s]
    by_cases c : n = cap
    · subst c
      rw [if_pos rfl]
      have hc : n = 10 ∨ n = 15 := by omega
      obtain ⟨k, k1, k2⟩ := zk_newlen hb hc
      have okk : zf_ok hb g n = true := by
        refine List.all_eq_true.mpr (fun i hi => ?_)
        have hi := List.mem_range.mp hi
        rw [a4 i hi]
        have := isL hb (f i) (hf i hi) (b2 _ (notL _ (hf i hi)))
        simpa using this
      have gr : ∃ h3, zf_Jx4a65c_grow_d5877 hb L = some (h3, some h.2.1) ∧ h3.1 L = some (.inr (11, [.int (mc + 1), .ref h.2.1, .int (nI n)])) ∧ h3.1 h.2.1 = some (.inl (4, k, .inr (.inr (.inr (.inr (va_cpy g (fun _ => none) 0 0 n)))))) ∧ (∀ y, y ≠ L → y ≠ h.2.1 → h3.1 y = h.1 y) ∧ h3.2.1 = h.2.1 + 1 ∧ h3.2.2 = h.2.2 := by
        unfold zf_Jx4a65c_grow_d5877 zf_Jx4a65c_grow_92f84
        dsimp only
        rw [if_neg (zb_is b1), zb_gi b1 rfl, zo_s, if_neg (zb_is b1), zb_gr (x := some e) b1 rfl, zo_s, zo_s, el, zo_s, if_pos (show (0 : Int32) < nI n from nI_lt (a := 0) (by omega) (by omega)), l1, k1, zo_s]
        dsimp only
        rw [zb_gr (x := some e) b1 rfl, zo_s]
        have cpy : zf_J7_copyOf_1904c hb (some e) (nI k) = some (zf_new hb (.inl (4, k, .inr (.inr (.inr (.inr (va_cpy g (fun _ => none) 0 0 n)))))), some hb.2.1) := by
          unfold zf_J7_copyOf_1904c
          rw [zo_s, be]
          dsimp only
          rw [nI_clamp (by omega), if_pos ⟨rfl, nI_pos (by omega), by omega, by omega, okk⟩]
        rw [cpy, zo_s]
        dsimp only
        have c1 : (zf_new hb (.inl (4, k, .inr (.inr (.inr (.inr (va_cpy g (fun _ => none) 0 0 n))))))).1 L = some (.inr (11, [.int (mc + 1), .ref e, .int (nI n)])) := by
          rw [zb_newn (by rw [b3]; omega)]
          exact b1
        rw [zb_p c1 (Nat.le_of_ble_eq_true rfl), zo_s, zo_s, b3]
        refine ⟨_, rfl, zb_up _ _ _, ?_, fun y h1 h2 => ?_, ?_, ?_⟩
        · rw [zb_upn (by omega), ← b3]
          exact zb_new _ _
        · rw [zb_upn h1, zb_newn (by rw [b3]; exact h2), b2 y h1]
        · show hb.2.1 + 1 = _
          rw [b3]
        · show hb.2.2 = _
          rw [b3]
      obtain ⟨h3, g1, g2, g3, g4, g5, g6⟩ := gr
      exact aft h3 k _ g1 g2 g3 g4 g5 g6 (by omega) (by omega) (fun i hi => by
        unfold va_cpy
        rw [if_pos (by omega), ← a4 i hi]
        congr 1
        omega)
    · rw [if_neg (fun z => c ((za_eq (by omega) (by omega)).mp z)), zo_s]
      obtain ⟨h4, m1, m2, m3, m4⟩ := zk_al_put b1 bne be d3 (by omega) a4 hxb
      rw [m1, zo_s]
      refine ⟨h4, e, rfl, m2, Or.inl ⟨rfl, d1, by rw [m3, b3]⟩, by rw [m3, b3], fun y y1 y2 y3 => by rw [m4 y y1 (y2.resolve_right d1), b2 y y1]⟩
