/-! the reference's places are the pure ones -/
theorem zl_cmp0 {x y : Int64} : lg_cmp x y = 0 ↔ x = y := by
  constructor
  · intro h
    unfold lg_cmp at h
    split at h
    · exact absurd h (by decide)
    · split at h
      · assumption
      · exact absurd h (by decide)
  · rintro rfl
    exact zl_cmp x
theorem zr_alike {S : zm_S} {a b i j : Nat} (ha : a < 17) (hi : i < 24) (hb : b < 17) (hj : j < 24) : zg_X10_isAlike S (nI a) (nI i) (nI b) (nI j) = some (if S.2.2 3 (24 * a + i) = S.2.2 3 (24 * b + j) then 1 else 0) := by
  unfold zg_X10_isAlike
  rw [show (24 : Int32) * nI a + nI i = nI (24 * a + i) by rw [show (24 : Int32) = nI 24 by decide, za_mul, za_add], show (24 : Int32) * nI b + nI j = nI (24 * b + j) by rw [show (24 : Int32) = nI 24 by decide, za_mul, za_add], za_aj (by omega) (by omega), za_aj (by omega) (by omega), zo_s, zo_s]
  by_cases h : S.2.2 3 (24 * a + i) = S.2.2 3 (24 * b + j)
  · rw [if_pos (zl_cmp0.mpr h), if_pos h]
  · rw [if_neg (fun z => h (zl_cmp0.mp z)), if_neg h]
/-- a state whose work of places is told -/
def zr_m (S : zm_S) (cm : Nat → Int32) (P : zp_P) : zm_S := (va_up (va_up S.1 28 (nI P.2.2.1)) 29 (nI P.2.2.2), va_up (va_up (va_up S.2.1 25 cm) 26 P.1) 27 P.2.1, S.2.2)
theorem zr_m25 (S : zm_S) (cm : Nat → Int32) (P : zp_P) : (zr_m S cm P).2.1 25 = cm := by simp [zr_m, va_up]
theorem zr_m26 (S : zm_S) (cm : Nat → Int32) (P : zp_P) : (zr_m S cm P).2.1 26 = P.1 := by simp [zr_m, va_up]
theorem zr_m27 (S : zm_S) (cm : Nat → Int32) (P : zp_P) : (zr_m S cm P).2.1 27 = P.2.1 := by simp [zr_m, va_up]
theorem zr_m28 (S : zm_S) (cm : Nat → Int32) (P : zp_P) : (zr_m S cm P).1 28 = nI P.2.2.1 := by simp [zr_m, va_up]
theorem zr_m29 (S : zm_S) (cm : Nat → Int32) (P : zp_P) : (zr_m S cm P).1 29 = nI P.2.2.2 := by simp [zr_m, va_up]
theorem zr_m2 (S : zm_S) (cm : Nat → Int32) (P : zp_P) {k : Nat} (h : k < 25) : (zr_m S cm P).2.1 k = S.2.1 k := by
  unfold zr_m
  simp only
  rw [va_up_ne _ _ (by omega), va_up_ne _ _ (by omega), va_up_ne _ _ (by omega)]
theorem zr_m3 (S : zm_S) (cm : Nat → Int32) (P : zp_P) : (zr_m S cm P).2.2 = S.2.2 := rfl
theorem zu_twice {α : Type} (f : Nat → α) (k : Nat) (x y : α) : va_up (va_up f k x) k y = va_up f k y := by
  funext j
  by_cases h : j = k
  · simp [va_up, h]
  · simp [va_up, h]
theorem zu_comm {α : Type} (f : Nat → α) {k l : Nat} (x y : α) (h : k ≠ l) : va_up (va_up f k x) l y = va_up (va_up f l y) k x := by
  funext j
  by_cases h1 : j = k
  · subst h1
    simp [va_up, h]
  · by_cases h2 : j = l
    · subst h2
      simp [va_up, h1]
    · simp [va_up, h1, h2]
theorem zr_s25 (S : zm_S) (cm c2 : Nat → Int32) (P : zp_P) : ((zr_m S cm P).1, va_up (zr_m S cm P).2.1 25 c2, (zr_m S cm P).2.2) = zr_m S c2 P := by
  unfold zr_m
  simp only
  rw [zu_comm _ _ _ (show (27 : Nat) ≠ 25 by decide), zu_comm _ _ _ (show (26 : Nat) ≠ 25 by decide), zu_twice]
theorem zr_s26 (S : zm_S) (cm p2 : Nat → Int32) (P : zp_P) : ((zr_m S cm P).1, va_up (zr_m S cm P).2.1 26 p2, (zr_m S cm P).2.2) = zr_m S cm (p2, P.2) := by
  unfold zr_m
  simp only
  rw [zu_comm _ _ _ (show (27 : Nat) ≠ 26 by decide), zu_twice]
theorem zr_s27 (S : zm_S) (cm u2 : Nat → Int32) (P : zp_P) : ((zr_m S cm P).1, va_up (zr_m S cm P).2.1 27 u2, (zr_m S cm P).2.2) = zr_m S cm (P.1, u2, P.2.2) := by
  unfold zr_m
  simp only
  rw [zu_twice]
theorem zr_p28 (S : zm_S) (cm : Nat → Int32) (P : zp_P) (c : Nat) : zg_p (zr_m S cm P) 28 (nI c) = zr_m S cm (P.1, P.2.1, c, P.2.2.2) := by
  unfold zr_m zg_p
  simp only
  rw [zu_comm _ _ _ (show (29 : Nat) ≠ 28 by decide), zu_twice]
theorem zr_p29 (S : zm_S) (cm : Nat → Int32) (P : zp_P) (c : Nat) : zg_p (zr_m S cm P) 29 (nI c) = zr_m S cm (P.1, P.2.1, P.2.2.1, c) := by
  unfold zr_m zg_p
  simp only
  rw [zu_twice]
theorem zr_si25 {S : zm_S} {cm : Nat → Int32} {P : zp_P} {i : Nat} {x : Int32} (h : i < 625) : zg_si 25 625 (zr_m S cm P) (nI i) x = some (zr_m S (va_up cm i x) P) := by
  rw [za_si h (by decide), zr_m25, zr_s25]
theorem zr_si26 {S : zm_S} {cm : Nat → Int32} {P : zp_P} {i : Nat} {x : Int32} (h : i < 24) : zg_si 26 24 (zr_m S cm P) (nI i) x = some (zr_m S cm (va_up P.1 i x, P.2)) := by
  rw [za_si h (by decide), zr_m26, zr_s26]
theorem zr_si27 {S : zm_S} {cm : Nat → Int32} {P : zp_P} {i : Nat} {x : Int32} (h : i < 24) : zg_si 27 24 (zr_m S cm P) (nI i) x = some (zr_m S cm (P.1, va_up P.2.1 i x, P.2.2)) := by
  rw [za_si h (by decide), zr_m27, zr_s27]
/-- the lines of a revision of the reference -/
abbrev zr_ln (S : zm_S) (a : Nat) : Nat → Int64 := fun i => S.2.2 3 (24 * a + i)
theorem za_25 (i j : Nat) : (25 : Int32) * nI i + nI j = nI (25 * i + j) := by rw [show (25 : Int32) = nI 25 by decide, za_mul, za_add]
theorem zr_row {S : zm_S} {P : zp_P} {a b n m i : Nat} (ha : a < 17) (hb : b < 17) (hn : n ≤ 24) (hm : m ≤ 24) (hi : i ≤ n) : ∀ (k fu : Nat) (cm : Nat → Int32), k ≤ m + 1 → k < fu → (∀ j, k ≤ j → j ≤ m → cm (25 * i + j) = nI (zp_L (zr_ln S a) (zr_ln S b) n m i j)) → (i < n → ∀ j, j ≤ m → cm (25 * (i + 1) + j) = nI (zp_L (zr_ln S a) (zr_ln S b) n m (i + 1) j)) →
    ∃ c2 : Nat → Int32, zg_X10_pairs_L27 (nI a) (nI b) (nI n) (nI m) (nI i) fu (zr_m S cm P) (nI k + (-1)) = some (zr_m S c2 P) ∧ (∀ j, j ≤ m → c2 (25 * i + j) = nI (zp_L (zr_ln S a) (zr_ln S b) n m i j)) ∧ ∀ x, x < 25 * i ∨ 25 * i + m < x → c2 x = cm x := by
  intro k
  induction k with
  | zero =>
    intro fu cm h1 h2 h3 h4
    obtain ⟨f, rfl⟩ : ∃ f, fu = f + 1 := ⟨fu - 1, by omega⟩
    refine ⟨cm, ?_, fun j hj => h3 j (Nat.zero_le _) hj, fun x _ => rfl⟩
    unfold zg_X10_pairs_L27
    rw [if_pos (by decide)]
  | succ k ih =>
    intro fu cm h1 h2 h3 h4
    obtain ⟨f, rfl⟩ : ∃ f, fu = f + 1 := ⟨fu - 1, by omega⟩
    have step : ∀ x : Int32, x = nI (zp_L (zr_ln S a) (zr_ln S b) n m i k) → ∃ c2 : Nat → Int32, zg_X10_pairs_L27 (nI a) (nI b) (nI n) (nI m) (nI i) f (zr_m S (va_up cm (25 * i + k) x) P) (nI k + (-1)) = some (zr_m S c2 P) ∧ (∀ j, j ≤ m → c2 (25 * i + j) = nI (zp_L (zr_ln S a) (zr_ln S b) n m i j)) ∧ ∀ x, x < 25 * i ∨ 25 * i + m < x → c2 x = cm x := by
      intro x hx
      obtain ⟨c2, e1, e2, e3⟩ := ih f (va_up cm (25 * i + k) x) (by omega) (by omega) (fun j hj hjm => by
        by_cases hjk : j = k
        · subst hjk
          rw [va_up_self, hx]
        · rw [va_up_ne _ _ (by omega)]
          exact h3 j (by omega) hjm) (fun hin j hj => by
        rw [va_up_ne _ _ (by omega)]
        exact h4 hin j hj)
      exact ⟨c2, e1, e2, fun y hy => by rw [e3 y hy, va_up_ne _ _ (by omega)]⟩
    rw [za_pm]
    unfold zg_X10_pairs_L27
    dsimp only
    rw [if_neg (nI_pos (by omega)), za_25, zr_si25 (by omega), zo_s]
    by_cases c1 : i = n
    · rw [if_pos (by rw [c1])]
      exact step 0 (by rw [zp_L0 (by omega)]; rfl)
    rw [if_neg (fun z => c1 ((za_eq (by omega) (by omega)).mp z))]
    by_cases c2 : k = m
    · rw [if_pos (by rw [c2])]
      exact step 0 (by rw [zp_L0 (by omega)]; rfl)
    rw [if_neg (fun z => c2 ((za_eq (by omega) (by omega)).mp z)), zr_alike ha (by omega) hb (by omega), zo_s, zr_m3]
    have hlt : i < n ∧ k < m := ⟨by omega, by omega⟩
    by_cases c3 : S.2.2 3 (24 * a + i) = S.2.2 3 (24 * b + k)
    · rw [if_pos c3, if_neg (by decide), zr_m25, show nI (25 * i + k) + 26 = nI (25 * i + k + 26) from za_add _ 26, za_ai (by omega) (by omega), zo_s, zr_si25 (by omega), zo_s]
      refine step _ ?_
      rw [show 25 * i + k + 26 = 25 * (i + 1) + (k + 1) by omega, h4 hlt.1 (k + 1) (by omega), zp_L1 hlt c3, nI_succ]
    · rw [if_neg c3, if_pos rfl, zr_m25, show nI (25 * i + k) + 25 = nI (25 * i + k + 25) from za_add _ 25, show nI (25 * i + k) + 1 = nI (25 * i + k + 1) from za_add _ 1, za_ai (by omega) (by omega), za_ai (by omega) (by omega), zo_s, zo_s, zr_si25 (by omega), zo_s]
      refine step _ ?_
      have q1 := h4 hlt.1 k (by omega)
      have q2 := h3 (k + 1) (by omega) (by omega)
      have b1 := zp_Lle (zr_ln S a) (zr_ln S b) n m (i + 1) k
      have b2 := zp_Lle (zr_ln S a) (zr_ln S b) n m i (k + 1)
      rw [show 25 * i + k + 25 = 25 * (i + 1) + k by omega, q1, show 25 * i + k + 1 = 25 * i + (k + 1) by omega, q2, zp_L2 hlt c3]
      by_cases c4 : zp_L (zr_ln S a) (zr_ln S b) n m (i + 1) k < zp_L (zr_ln S a) (zr_ln S b) n m i (k + 1)
      · rw [if_pos (nI_lt c4 (by omega)), Nat.max_eq_right (by omega)]
      · rw [if_neg (nI_nlt (by omega) (by omega)), Nat.max_eq_left (by omega)]
