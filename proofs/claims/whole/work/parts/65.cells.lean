/-! reading and writing a world where a cell is told -/
theorem zb_is {h : zc_H} {q c : Nat} {vs : List Value} (e : h.1 q = some (.inr (c, vs))) : ¬ ¬ zf_is h q c = true := by
  unfold zf_is
  rw [e]
  simp
theorem zb_gi {h : zc_H} {q c k : Nat} {vs : List Value} {x : Int32} (e : h.1 q = some (.inr (c, vs))) (hk : vs[k]? = some (.int x)) : zf_gi h q c k = some x := by
  unfold zf_gi zf_g
  rw [e]
  simp [hk, zv_i]
theorem zb_gr {h : zc_H} {q c k : Nat} {vs : List Value} {x : Option Nat} (e : h.1 q = some (.inr (c, vs))) (hk : vs[k]? = some (va_rf x)) : zf_gr h q c k = some x := by
  unfold zf_gr zf_g
  rw [e]
  cases x <;> simp [hk, zv_r, va_rf]
theorem zb_p {h : zc_H} {q c k : Nat} {vs : List Value} {v : Value} (e : h.1 q = some (.inr (c, vs))) (hk : k < vs.length) : zf_p h q c k v = some (zf_up h q (.inr (c, vs.set k v))) := by
  unfold zf_p
  rw [e]
  simp [hk]
theorem zb_ai {h : zc_H} {q t n i : Nat} {f : Nat → Int32} (e : h.1 q = some (.inl (t, n, .inl f))) (hi : i < n) (hn : n < 2 ^ 31) : zf_ai h q t (nI i) = some (f i) := by
  unfold zf_ai
  rw [e]
  have := za_in hi hn
  simp only [nI_clamp (show i < 2 ^ 31 by omega)] at this ⊢
  rw [if_pos ⟨trivial, this⟩]
theorem zb_aj {h : zc_H} {q n i : Nat} {f : Nat → Int64} (e : h.1 q = some (.inl (1, n, .inr (.inl f)))) (hi : i < n) (hn : n < 2 ^ 31) : zf_aj h q (nI i) = some (f i) := by
  unfold zf_aj
  rw [e]
  have := za_in hi hn
  simp only [nI_clamp (show i < 2 ^ 31 by omega)] at this ⊢
  rw [if_pos ⟨trivial, this⟩]
theorem zb_ar {h : zc_H} {q t n i : Nat} {f : Nat → Option Nat} (e : h.1 q = some (.inl (t, n, .inr (.inr (.inr (.inr f)))))) (hi : i < n) (hn : n < 2 ^ 31) : zf_ar h q t (nI i) = some (f i) := by
  unfold zf_ar
  rw [e]
  have := za_in hi hn
  simp only [nI_clamp (show i < 2 ^ 31 by omega)] at this ⊢
  rw [if_pos ⟨trivial, this⟩]
theorem zb_si {h : zc_H} {q t n i : Nat} {f : Nat → Int32} {x : Int32} (e : h.1 q = some (.inl (t, n, .inl f))) (hi : i < n) (hn : n < 2 ^ 31) : zf_si h q t (nI i) x = some (zf_up h q (.inl (t, n, .inl (va_up f i x)))) := by
  unfold zf_si
  rw [e]
  have := za_in hi hn
  simp only [nI_clamp (show i < 2 ^ 31 by omega)] at this ⊢
  rw [if_pos ⟨trivial, this⟩]
theorem zb_sj {h : zc_H} {q n i : Nat} {f : Nat → Int64} {x : Int64} (e : h.1 q = some (.inl (1, n, .inr (.inl f)))) (hi : i < n) (hn : n < 2 ^ 31) : zf_sj h q (nI i) x = some (zf_up h q (.inl (1, n, .inr (.inl (va_up f i x))))) := by
  unfold zf_sj
  rw [e]
  have := za_in hi hn
  simp only [nI_clamp (show i < 2 ^ 31 by omega)] at this ⊢
  rw [if_pos ⟨trivial, this⟩]
theorem zb_sr {h : zc_H} {q t c n i x : Nat} {f : Nat → Option Nat} (e : h.1 q = some (.inl (t, n, .inr (.inr (.inr (.inr f)))))) (hi : i < n) (hn : n < 2 ^ 31) (hx : zf_is h x c = true) : zf_sr h q t c (nI i) x = some (zf_up h q (.inl (t, n, .inr (.inr (.inr (.inr (va_up f i (some x)))))))) := by
  unfold zf_sr
  rw [e]
  have := za_in hi hn
  simp only [nI_clamp (show i < 2 ^ 31 by omega)] at this ⊢
  rw [if_pos ⟨trivial, this, hx⟩]
theorem zb_sO {h : zc_H} {q n i x : Nat} {f : Nat → Option Nat} (e : h.1 q = some (.inl (4, n, .inr (.inr (.inr (.inr f)))))) (hi : i < n) (hn : n < 2 ^ 31) (hx : zf_is h x 4 = true ∨ zf_is h x 3 = true) : zf_sO h q (nI i) x = some (zf_up h q (.inl (4, n, .inr (.inr (.inr (.inr (va_up f i (some x)))))))) := by
  unfold zf_sO
  rw [e]
  have := za_in hi hn
  simp only [nI_clamp (show i < 2 ^ 31 by omega)] at this ⊢
  rw [if_pos ⟨trivial, this, hx⟩]
theorem zb_sN {h : zc_H} {q n i : Nat} {f : Nat → Option Nat} (e : h.1 q = some (.inl (4, n, .inr (.inr (.inr (.inr f)))))) (hi : i < n) (hn : n < 2 ^ 31) : zf_sN h q (nI i) = some (zf_up h q (.inl (4, n, .inr (.inr (.inr (.inr (va_up f i none))))))) := by
  unfold zf_sN
  rw [e]
  have := za_in hi hn
  simp only [nI_clamp (show i < 2 ^ 31 by omega)] at this ⊢
  rw [if_pos ⟨trivial, this⟩]
theorem zb_len {h : zc_H} {q : Nat} {x : vp_A} {t : Nat} (e : h.1 q = some (.inl (t, x))) (hq : q ≠ h.2.2) : zf_len h q = some (nI x.1) := by
  unfold zf_len
  rw [if_neg hq, e]
  rfl
theorem zb_up (h : zc_H) (q : Nat) (e : va_E) : (zf_up h q e).1 q = some e := va_up_self _ _ _
theorem zb_upn {h : zc_H} {q x : Nat} {e : va_E} (hx : x ≠ q) : (zf_up h q e).1 x = h.1 x := va_up_ne _ _ hx
theorem zb_new (h : zc_H) (e : va_E) : (zf_new h e).1 h.2.1 = some e := va_up_self _ _ _
theorem zb_newn {h : zc_H} {x : Nat} {e : va_E} (hx : x ≠ h.2.1) : (zf_new h e).1 x = h.1 x := va_up_ne _ _ hx
/-- a revision's lines -/
def zk_rv (h : zc_H) (a l n : Nat) (f : Nat → Int64) : Prop := (∃ x0 x1 x3 x4, h.1 a = some (.inr (4, [x0, x1, .ref l, x3, x4]))) ∧ h.1 l = some (.inl (1, n, .inr (.inl f))) ∧ l ≠ h.2.2
theorem zk_count {h : zc_H} {a l n : Nat} {f : Nat → Int64} (R : zk_rv h a l n f) : zf_X4_count h a = some (nI n) := by
  obtain ⟨⟨x0, x1, x3, x4, e1⟩, e2, e3⟩ := R
  unfold zf_X4_count
  rw [if_neg (zb_is e1), zb_gr (x := some l) e1 rfl, zo_s, zo_s, zb_len e2 e3, zo_s]
theorem zk_line {h : zc_H} {a l n i : Nat} {f : Nat → Int64} (R : zk_rv h a l n f) (hn : n < 2 ^ 31) (hi : i < 2 ^ 31) : zf_X4_lineAt h a (nI i) = some (if i < n then f i else 0) := by
  obtain ⟨⟨x0, x1, x3, x4, e1⟩, e2, e3⟩ := R
  unfold zf_X4_lineAt
  rw [if_neg (zb_is e1), if_neg (nI_pos hi), zb_gr (x := some l) e1 rfl, zo_s, zo_s, zb_len e2 e3, zo_s]
  by_cases c : i < n
  · rw [if_neg (nI_ge c hn), zo_s, zo_s, zb_aj e2 c hn, zo_s, if_pos c]
  · rw [if_pos (nI_le (by omega) hi), if_neg c]
theorem zk_lineI {h : zc_H} {a l n i : Nat} {f : Nat → Int64} (R : zk_rv h a l n f) (hn : n < 2 ^ 31) (hi : i < n) : zf_X4_lineAt h a (nI i) = some (f i) := by
  rw [zk_line R hn (by omega), if_pos hi]
theorem zk_lineN {h : zc_H} {a l n : Nat} {f : Nat → Int64} (R : zk_rv h a l n f) : zf_X4_lineAt h a (-1) = some 0 := by
  obtain ⟨⟨x0, x1, x3, x4, e1⟩, e2, e3⟩ := R
  unfold zf_X4_lineAt
  rw [if_neg (zb_is e1), if_pos (by decide)]
/-- a world whose Matching is told -/
def zk_m (h : zc_H) (A : Nat) (cm : Nat → Int32) (P : zp_P) : zc_H := (fun x => if x = A then some (.inr (1, [.ref (A + 1), .ref (A + 2), .ref (A + 3), .int (nI P.2.2.1), .int (nI P.2.2.2)])) else if x = A + 1 then some (.inl (0, 625, .inl cm)) else if x = A + 2 then some (.inl (0, 24, .inl P.1)) else if x = A + 3 then some (.inl (2, 24, .inl P.2.1)) else h.1 x, h.2)
theorem zk_m0 {h : zc_H} {A : Nat} {cm : Nat → Int32} {P : zp_P} : (zk_m h A cm P).1 A = some (.inr (1, [.ref (A + 1), .ref (A + 2), .ref (A + 3), .int (nI P.2.2.1), .int (nI P.2.2.2)])) := by simp [zk_m]
theorem zk_m1 {h : zc_H} {A : Nat} {cm : Nat → Int32} {P : zp_P} : (zk_m h A cm P).1 (A + 1) = some (.inl (0, 625, .inl cm)) := by simp [zk_m]
theorem zk_m2 {h : zc_H} {A : Nat} {cm : Nat → Int32} {P : zp_P} : (zk_m h A cm P).1 (A + 2) = some (.inl (0, 24, .inl P.1)) := by simp [zk_m]
theorem zk_m3 {h : zc_H} {A : Nat} {cm : Nat → Int32} {P : zp_P} : (zk_m h A cm P).1 (A + 3) = some (.inl (2, 24, .inl P.2.1)) := by simp [zk_m]
theorem zk_mn {h : zc_H} {A : Nat} {cm : Nat → Int32} {P : zp_P} {x : Nat} (hx : x < A ∨ A + 3 < x) : (zk_m h A cm P).1 x = h.1 x := by
  unfold zk_m
  dsimp only
  rw [if_neg (by omega), if_neg (by omega), if_neg (by omega), if_neg (by omega)]
theorem zk_mu0 {h : zc_H} {A : Nat} {cm : Nat → Int32} {P : zp_P} {c1 c2 : Nat} : zf_up (zk_m h A cm P) A (.inr (1, [.ref (A + 1), .ref (A + 2), .ref (A + 3), .int (nI c1), .int (nI c2)])) = zk_m h A cm (P.1, P.2.1, c1, c2) := by
  refine Prod.ext ?_ rfl
  funext x
  unfold zf_up zk_m va_up
  dsimp only
  by_cases c : x = A
  · rw [if_pos c, if_pos c]
  · rw [if_neg c, if_neg c, if_neg c]
theorem zk_mu1 {h : zc_H} {A : Nat} {cm c2 : Nat → Int32} {P : zp_P} : zf_up (zk_m h A cm P) (A + 1) (.inl (0, 625, .inl c2)) = zk_m h A c2 P := by
  refine Prod.ext ?_ rfl
  funext x
  unfold zf_up zk_m va_up
  dsimp only
  by_cases c : x = A + 1
  · rw [if_pos c, if_neg (by omega), if_pos c]
  · simp [if_neg c]
theorem zk_mu2 {h : zc_H} {A : Nat} {cm p2 : Nat → Int32} {P : zp_P} : zf_up (zk_m h A cm P) (A + 2) (.inl (0, 24, .inl p2)) = zk_m h A cm (p2, P.2) := by
  refine Prod.ext ?_ rfl
  funext x
  unfold zf_up zk_m va_up
  dsimp only
  by_cases c : x = A + 2
  · rw [if_pos c, if_neg (by omega), if_neg (by omega), if_pos c]
  · simp [if_neg c]
theorem zk_mu3 {h : zc_H} {A : Nat} {cm u2 : Nat → Int32} {P : zp_P} : zf_up (zk_m h A cm P) (A + 3) (.inl (2, 24, .inl u2)) = zk_m h A cm (P.1, u2, P.2.2) := by
  refine Prod.ext ?_ rfl
  funext x
  unfold zf_up zk_m va_up
  dsimp only
  by_cases c : x = A + 3
  · rw [if_pos c, if_neg (by omega), if_neg (by omega), if_neg (by omega), if_pos c]
  · simp [if_neg c]
theorem zk_take {h : zc_H} {A i j : Nat} {cm : Nat → Int32} {P : zp_P} (hz : h.2.2 < A) (hi : i < 24) (hj : j < 24) : zf_X1_take (zk_m h A cm P) A (nI i) (nI j) = some (zk_m h A cm (va_up P.1 i (nI j), va_up P.2.1 j 1, P.2.2)) := by
  unfold zf_X1_take
  rw [if_neg (zb_is zk_m0), if_neg (nI_pos (by omega)), zb_gr (x := some (A + 2)) zk_m0 rfl, zo_s, zo_s, zb_len zk_m2 (by show A + 2 ≠ h.2.2; omega), zo_s, if_neg (nI_ge hi (by decide)), if_neg (nI_pos (by omega)), zb_gr (x := some (A + 3)) zk_m0 rfl, zo_s, zo_s, zb_len zk_m3 (by show A + 3 ≠ h.2.2; omega), zo_s, if_neg (nI_ge hj (by decide)), zo_s, zo_s, zb_si zk_m2 hi (by decide), zo_s, zk_mu2, zb_gr (x := some (A + 3)) zk_m0 rfl, zo_s, zo_s, show (1 &&& 1 : Int32) = 1 by decide, zb_si zk_m3 hj (by decide), zo_s, zk_mu3]
