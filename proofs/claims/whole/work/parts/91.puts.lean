/-! a remark is put on a revision: both sides -/
/-- one step of a remark, by the reference's lines and places -/
def zx_st (S : zm_S) (need margin kind a : Nat) : Nat → zq_T → zq_T := fun b T => zq_step (zr_ln S) (zx_n (S.2.1 2)) (zr_co S) need margin kind a b T
def zq_T0 (r p q : Nat) : zq_T := (some (p, q), 0, r, p, q)
/-- the remark after k steps of its way -/
def zx_T (S : zm_S) (need margin kind a : Nat) (r p q : Nat) (l : List Nat) (k : Nat) : zq_T := zq_seq (zx_st S need margin kind a) l k (zq_T0 r p q)
theorem zx_T1 (S : zm_S) (need margin kind a r p q : Nat) (l : List Nat) (k : Nat) : zx_T S need margin kind a r p q l (k + 1) = zx_st S need margin kind a (l.getD (l.length - 2 - k) 0) (zx_T S need margin kind a r p q l k) := rfl
/-- what a way tells -/
def zq_wy (F : Nat → Int32) (N r t : Nat) (l : List Nat) : Prop := 1 ≤ l.length ∧ l.length ≤ 16 ∧ l.getD 0 0 = t ∧ l.getD (l.length - 1) 0 = r ∧ (∀ i, i < l.length → l.getD i 0 < N) ∧ ∀ i, i + 1 < l.length → l.getD (i + 1) 0 < l.getD i 0 ∧ F (l.getD i 0) = nI (l.getD (i + 1) 0)
theorem zq_wy_of {F : Nat → Int32} {N r t : Nat} {l : List Nat} (hF : zq_fm F N) (ht : t < N) (h : zq_way F r 17 t = some l) : zq_wy F N r t l := by
  obtain ⟨a1, a2, a3⟩ := zq_way0 h
  obtain ⟨b1, b2, b3⟩ := zq_way_ok hF 17 t l ht h
  have := hF.1
  exact ⟨a1, by omega, a2, a3, b2, fun i hi => ⟨(b3 i hi).1, (b3 i hi).2.1⟩⟩
/-- the reference's places are none or lines -/
theorem zx_pl {S : zm_S} {N b k : Nat} (hc : zx_co S N) (hb : b < N) (hk : k < b) (e : S.2.1 1 b = nI k) : zq_pl (zx_n (S.2.1 2) b) (zr_co S b) := by
  refine ⟨zx_n24 _ _, fun i hi => ?_⟩
  show S.2.1 4 (24 * b + i) = -1 ∨ _
  rw [show zr_co S b i = S.2.1 4 (24 * b + i) from rfl, hc b hb k hk e i hi]
  exact (zp_match_good _ _ _ _ _ i).2
theorem zx_T_ok {S : zm_S} {N need margin kind a r p q t : Nat} {l : List Nat} (hc : zx_co S N) (W : zq_wy (S.2.1 1) N r t l) (hp : p ≤ q) (hq : q < zx_n (S.2.1 2) r) : ∀ k, k ≤ l.length - 1 → zq_Tok (zx_n (S.2.1 2)) (zx_T S need margin kind a r p q l k) ∧ (zx_T S need margin kind a r p q l k).2.2.1 < N ∧ ((zx_T S need margin kind a r p q l k).1 ≠ none → (zx_T S need margin kind a r p q l k).2.2.1 = l.getD (l.length - 1 - k) 0) := by
  obtain ⟨w1, w2, w3, w4, w5, w6⟩ := W
  intro k
  induction k with
  | zero =>
    intro _
    refine ⟨⟨hp, hq, by show (0 : Nat) < 3; decide, rfl, rfl⟩, ?_, fun _ => ?_⟩
    · show r < N
      rw [← w4]
      exact w5 _ (by omega)
    · show r = _
      rw [Nat.sub_zero, w4]
  | succ k ih =>
    intro hk
    obtain ⟨i1, i2, i3⟩ := ih (by omega)
    obtain ⟨f1, f2⟩ := w6 (l.length - 2 - k) (by omega)
    have hb := w5 (l.length - 2 - k) (by omega)
    obtain ⟨s1, s2, s3⟩ := zq_step_ok (ln := zr_ln S) (need := need) (margin := margin) (kind := kind) (a := a) i1 (fun r => zx_n24 (S.2.1 2) r) (zx_pl hc hb f1 f2)
    rw [zx_T1]
    refine ⟨s1, ?_, fun h => ?_⟩
    · by_cases c : (zx_st S need margin kind a (l.getD (l.length - 2 - k) 0) (zx_T S need margin kind a r p q l k)).1 = none
      · have := s3 c
        show (zx_st S need margin kind a (l.getD (l.length - 2 - k) 0) (zx_T S need margin kind a r p q l k)).2.2.1 < N
        unfold zx_st at c ⊢
        rw [this]
        exact i2
      · have := s2 c
        unfold zx_st
        rw [this]
        exact hb
    · have := s2 h
      unfold zx_st
      rw [this, show l.length - 1 - (k + 1) = l.length - 2 - k by omega]
/-- what the rules say -/
def zx_rl (S : zm_S) (need margin : Nat) : Prop := S.2.1 7 1 = nI need ∧ S.2.1 7 2 = nI margin ∧ need ≤ 99 ∧ margin ≤ 20
section ZP
variable {S : zm_S} {N M need margin kind a r p q t m : Nat} {l : List Nat} {c : Nat → Int32}
/-- the reference's doc, as its steps ask for it -/
theorem zr_doc_of {z : Nat} {w : zc_H} {f g : Nat → Nat} {rdy : Nat → Int32 → Prop} (B : zx_d1 z w f g N M S rdy) (H : zx_rl S need margin) : zr_doc S N (zx_n (S.2.1 2)) need margin := by
  have B : zx_doc z w f g N M (S.2.1 1) (S.2.1 2) (S.2.2 3) (S.2.1 6) rdy := B
  exact ⟨B.1, fun r => zx_n24 _ _, fun r hr => ⟨(zx_C B hr).1, fun i hi => by
    have := (zx_C B hr).2 i hi
    show ¬ S.2.2 3 (24 * r + i) = 0
    rw [← this.1]
    exact this.2⟩, H.1, H.2.1, H.2.2.1, H.2.2.2⟩
theorem zr_putL (hd : zr_doc S N (zx_n (S.2.1 2)) need margin) (hc : zx_co S N) (W : zq_wy (S.2.1 1) N r t l) (hp : p ≤ q) (hq : q < zx_n (S.2.1 2) r) (hk : kind < 7) (ha : a ≤ 9) (hm : m < 16) (h1 : S.2.1 6 (16 + m) = nI a) (hch : ∀ i, i < l.length → c i = nI (l.getD i 0)) {less : Nat} (hl : less ≤ l.length - 1) : ∀ (j k fu : Nat) (v : Nat → Int32), k + j = l.length - 1 - less → j < fu → zr_T v (zx_T S need margin kind a r p q l k) → ∃ v2, zg_X10_puts_L78 (nI m) (nI kind) (nI less) fu (zr_w (zx_SA S 30 c) v) (nI (less + j) + (-1)) = some (zr_w (zx_SA S 30 c) v2) ∧ zr_T v2 (zx_T S need margin kind a r p q l (l.length - 1 - less)) := by
  obtain ⟨w1, w2, w3, w4, w5, w6⟩ := id W
  intro j
  induction j with
  | zero =>
    intro k fu v e1 e2 e3
    obtain ⟨fl, rfl⟩ : ∃ fl, fu = fl + 1 := ⟨fu - 1, by omega⟩
    refine ⟨v, ?_, by rw [show l.length - 1 - less = k by omega]; exact e3⟩
    unfold zg_X10_puts_L78
    rw [Nat.add_zero, if_pos]
    by_cases d : less = 0
    · subst d
      decide
    · obtain ⟨y, rfl⟩ : ∃ y, less = y + 1 := ⟨less - 1, by omega⟩
      rw [za_pm]
      exact nI_lt (by omega) (by omega)
  | succ j ih =>
    intro k fu v e1 e2 e3
    obtain ⟨fl, rfl⟩ : ∃ fl, fu = fl + 1 := ⟨fu - 1, by omega⟩
    have hb := w5 (l.length - 2 - k) (by omega)
    obtain ⟨f1, f2⟩ := w6 (l.length - 2 - k) (by omega)
    obtain ⟨i1, i2, i3⟩ := zx_T_ok (need := need) (margin := margin) (kind := kind) (a := a) hc W hp hq k (by omega)
    obtain ⟨v2, s1, s2⟩ := zr_step (S := zx_SA S 30 c) (v := v) (cnt := zx_n (S.2.1 2)) (need := need) (margin := margin) (kind := kind) (a := a) hd e3 i1 i2 hb (zx_pl hc hb f1 f2) hk ha
    obtain ⟨v3, g1, g2⟩ := ih (k + 1) fl v2 (by omega) (by omega) s2
    refine ⟨v3, ?_, g2⟩
    have of1 : ∀ v, zg_X10_of (zr_w (zx_SA S 30 c) v) 1 (nI m) = some (nI a) := fun v => by
      rw [zr_of (k := 1) (by decide) hm 1 rfl]
      show some (S.2.1 6 (16 * 1 + m)) = _
      rw [show 16 * 1 + m = 16 + m by omega, h1]
    rw [show less + (j + 1) = (less + j) + 1 by omega, za_pm]
    unfold zg_X10_puts_L78
    rw [if_neg (nI_nlt (by omega) (by omega)), of1, zo_s, zr_w2, zx_SAa, za_ai (show less + j < 16 by omega) (by decide), zo_s, show less + j = l.length - 2 - k by omega, hch _ (by omega), s1, zo_s, show l.length - 2 - k = less + j by omega]
    exact g1
/-- the reference puts a remark -/
theorem zr_puts30 (hd : zr_doc S N (zx_n (S.2.1 2)) need margin) (hF : zq_fm (S.2.1 1) N) (hc : zx_co S N) (hp : p ≤ q) (hq : q < zx_n (S.2.1 2) r) (hk : kind < 7) (ha : a ≤ 9) (hm : m < 16) (hr : r < N) (ht : t < N) (h1 : S.2.1 6 (16 + m) = nI a) (h2 : S.2.1 6 (32 + m) = nI r) (h3 : S.2.1 6 (48 + m) = nI p) (h4 : S.2.1 6 (64 + m) = nI q) (less : Nat) (hless : less = 0 ∨ (t ≠ r ∧ less = 1) ∨ ∀ l, zq_way (S.2.1 1) r 17 t = some l → less ≤ l.length - 1) : ∃ S2 b, zg_X10_puts S (nI m) (nI kind) (nI t) (nI less) = some (S2, b) ∧ (zx_eqS S S2 ∧ ∀ k, k ≠ 30 → S2.2.1 k = S.2.1 k) ∧ ((zq_way (S.2.1 1) r 17 t = none ∧ b = 0) ∨ ∃ l c v, zq_way (S.2.1 1) r 17 t = some l ∧ b = 1 ∧ S2 = zr_w (zx_SA S 30 c) v ∧ zr_T v (zx_T S need margin kind a r p q l (l.length - 1 - less))) := by
  have of2 : ∀ S' : zm_S, S'.2.1 6 = S.2.1 6 → zg_X10_of S' 2 (nI m) = some (nI r) ∧ zg_X10_of S' 3 (nI m) = some (nI p) ∧ zg_X10_of S' 4 (nI m) = some (nI q) := fun S' e => by
    refine ⟨?_, ?_, ?_⟩
    · rw [zr_of (k := 2) (by decide) hm 2 rfl, e, show 16 * 2 + m = 32 + m by omega, h2]
    · rw [zr_of (k := 3) (by decide) hm 3 rfl, e, show 16 * 3 + m = 48 + m by omega, h3]
    · rw [zr_of (k := 4) (by decide) hm 4 rfl, e, show 16 * 4 + m = 64 + m by omega, h4]
  obtain ⟨c, b, e1, e2⟩ := zr_beh hF hr ht
  unfold zg_X10_puts
  rw [(of2 S rfl).1, zo_s, e1, zo_s]
  dsimp only
  rcases e2 with ⟨l, q1, q2, q3⟩ | ⟨q1, q2⟩
  · have W := zq_wy_of hF ht q1
    obtain ⟨w1, w2, w3, w4, w5, w6⟩ := id W
    have hl : less ≤ l.length - 1 := by
      rcases hless with e | ⟨e, e'⟩ | e
      · omega
      · rw [e']
        rcases Nat.lt_or_ge 1 l.length with y | y
        · omega
        · refine absurd ?_ e
          have y1 : l.length = 1 := by omega
          rw [← w3, ← w4, y1]
      · exact e l q1
    have ew : zx_SA S 30 c = zr_w (zx_SA S 30 c) (zx_SA S 30 c).1 := (zr_ww _).symm
    have ow := fun v => of2 (zr_w (zx_SA S 30 c) v) rfl
    rw [q2, if_neg (za_ne _ (by omega)), zo_s, ew, zr_wp _ _ (by decide), (ow _).2.1, zo_s, zo_s, zr_wp _ _ (by decide), (ow _).2.2, zo_s, zo_s, zr_wp _ _ (by decide), (ow _).1, zo_s, zo_s, zr_wp _ _ (by decide), zo_s, zr_wg _ _ (by decide), zr_wp _ _ (by decide), zo_s, zr_wg _ _ (by decide), zr_wp _ _ (by decide)]
    have T0 : ∀ v0 : Nat → Int32, zr_T (va_up (va_up (va_up (va_up (va_up (va_up v0 33 0) 31 (nI p)) 32 (nI q)) 34 (nI r)) 35 (nI p)) 36 (nI q)) (zx_T S need margin kind a r p q l 0) := by
      intro v0
      refine ⟨?_, ?_, ?_, ?_, ?_, ?_⟩
      · rw [va_up_ne _ _ (by decide), va_up_ne _ _ (by decide), va_up_ne _ _ (by decide), va_up_ne _ _ (by decide), va_up_ne _ _ (by decide), va_up_self]
        rfl
      · rw [va_up_ne _ _ (by decide), va_up_ne _ _ (by decide), va_up_self]
        rfl
      · rw [va_up_ne _ _ (by decide), va_up_self]
        rfl
      · rw [va_up_self]
        rfl
      · rw [va_up_ne _ _ (by decide), va_up_ne _ _ (by decide), va_up_ne _ _ (by decide), va_up_ne _ _ (by decide), va_up_self]
      · rw [va_up_ne _ _ (by decide), va_up_ne _ _ (by decide), va_up_ne _ _ (by decide), va_up_self]
    have m31 : ∀ v0 : Nat → Int32, va_up (va_up (va_up (va_up v0 33 0) 31 (nI p)) 32 (nI q)) 34 (nI r) 31 = nI p := fun v0 => by rw [va_up_ne _ _ (by decide), va_up_ne _ _ (by decide), va_up_self]
    have m32 : ∀ v0 : Nat → Int32, va_up (va_up (va_up (va_up (va_up v0 33 0) 31 (nI p)) 32 (nI q)) 34 (nI r)) 35 (nI p) 32 = nI q := fun v0 => by rw [va_up_ne _ _ (by decide), va_up_ne _ _ (by decide), va_up_self]
    rw [m31, m32]
    obtain ⟨v2, g1, g2⟩ := zr_putL (c := c) hd hc W hp hq hk ha hm h1 q3 hl (l.length - 1 - less) 0 2000 _ (by omega) (by omega) (T0 (zx_SA S 30 c).1)
    rw [show less + (l.length - 1 - less) = l.length - 1 by omega, ← Int32.sub_eq_add_neg] at g1
    rw [g1, zo_s]
    exact ⟨_, 1, rfl, ⟨zx_eqS_trans (zx_eqS_r S c (by decide)) (zx_eqS_w _ v2), fun k hk => va_up_ne _ _ hk⟩, Or.inr ⟨l, c, v2, q1, rfl, rfl, g2⟩⟩
  · rw [q2, if_pos rfl]
    exact ⟨_, 0, rfl, ⟨zx_eqS_r S c (by decide), fun k hk => va_up_ne _ _ hk⟩, Or.inl ⟨q1, rfl⟩⟩
theorem zr_puts (hd : zr_doc S N (zx_n (S.2.1 2)) need margin) (hF : zq_fm (S.2.1 1) N) (hc : zx_co S N) (hp : p ≤ q) (hq : q < zx_n (S.2.1 2) r) (hk : kind < 7) (ha : a ≤ 9) (hm : m < 16) (hr : r < N) (ht : t < N) (h1 : S.2.1 6 (16 + m) = nI a) (h2 : S.2.1 6 (32 + m) = nI r) (h3 : S.2.1 6 (48 + m) = nI p) (h4 : S.2.1 6 (64 + m) = nI q) (less : Nat) (hless : less = 0 ∨ (t ≠ r ∧ less = 1) ∨ ∀ l, zq_way (S.2.1 1) r 17 t = some l → less ≤ l.length - 1) : ∃ S2 b, zg_X10_puts S (nI m) (nI kind) (nI t) (nI less) = some (S2, b) ∧ zx_eqS S S2 ∧ ((zq_way (S.2.1 1) r 17 t = none ∧ b = 0) ∨ ∃ l c v, zq_way (S.2.1 1) r 17 t = some l ∧ b = 1 ∧ S2 = zr_w (zx_SA S 30 c) v ∧ zr_T v (zx_T S need margin kind a r p q l (l.length - 1 - less))) := by
  obtain ⟨S2, b, e1, e2, e3⟩ := zr_puts30 hd hF hc hp hq hk ha hm hr ht h1 h2 h3 h4 less hless
  exact ⟨S2, b, e1, e2.1, e3⟩
end ZP
