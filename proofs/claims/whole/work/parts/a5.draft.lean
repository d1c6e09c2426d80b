/-! the draft of lines -/
def zy_dr (D : zy_D) (n : Nat) (L : Nat → Int64) : Prop := D.1 9 1 = nI n ∧ n ≤ 24 ∧ ∀ i, i < n → D.2.2 10 i = L i
theorem zy_dr_c {D : zy_D} {n : Nat} {L L2 : Nat → Int64} (h : ∀ i, i < n → L i = L2 i) (A : zy_dr D n L) : zy_dr D n L2 := ⟨A.1, A.2.1, fun i hi => (A.2.2 i hi).trans (h i hi)⟩
section ZV
variable {z : Nat} {w : zc_H} {D : zy_D} {n p : Nat} {L : Nat → Int64}
theorem zs_insL {x : Int64} : ∀ (j k fu : Nat) (w : zc_H) (D : zy_D), p + j = k → k < 24 → j < fu → zy_is z D w → ∃ c, zf_X0_insert_L31 (z + 9) (nI p) x fu w (nI k) = some (zy_h z (zy_J D 10 c) w) ∧ (∀ i, i ≤ p ∨ k < i → c i = D.2.2 10 i) ∧ ∀ i, p < i → i ≤ k → c i = D.2.2 10 (i - 1) := by
  intro j
  induction j with
  | zero =>
    intro k fu w D h1 h2 h3 A
    obtain ⟨fu, rfl⟩ : ∃ n, fu = n + 1 := ⟨fu - 1, by omega⟩
    refine ⟨D.2.2 10, ?_, fun i _ => rfl, fun i h4 h5 => by omega⟩
    unfold zf_X0_insert_L31
    rw [if_pos (nI_le (show k ≤ p by omega) (by omega)), zy_Ji, zy_is_e A]
  | succ j ih =>
    intro k fu w D h1 h2 h3 A
    obtain ⟨fu, rfl⟩ : ∃ n, fu = n + 1 := ⟨fu - 1, by omega⟩
    obtain ⟨k, rfl⟩ : ∃ k', k = k' + 1 := ⟨k - 1, by omega⟩
    obtain ⟨c, e1, e2, e3⟩ := ih k fu (zy_h z (zy_J D 10 (va_up (D.2.2 10) (k + 1) (D.2.2 10 k))) w) (zy_J D 10 (va_up (D.2.2 10) (k + 1) (D.2.2 10 k))) (by omega) (by omega) (by omega) (zy_is_h _ _ _)
    refine ⟨c, ?_, fun i hi => ?_, fun i h4 h5 => ?_⟩
    · unfold zf_X0_insert_L31
      rw [if_neg (nI_ge (show p < k + 1 by omega) (by omega)), zy_r9_0 A, zo_s, zo_s, zo_s, show nI (k + 1) - 1 = nI k from by rw [show (1 : Int32) = nI 1 by decide, za_sub (by omega), Nat.add_sub_cancel], zy_a10 A (by omega), zo_s, zo_s, zy_s10 A (by omega), zo_s, za_pm, e1, zy_hh, zy_JJ]
    · rw [e2 i (by omega), zy_Jj, va_up_ne _ _ (by omega)]
    · by_cases y : i = k + 1
      · subst y
        rw [e2 _ (by omega), zy_Jj, va_up_self, Nat.add_sub_cancel]
      · rw [e3 i h4 (by omega), zy_Jj, va_up_ne _ _ (by omega)]
def zq_ins (L : Nat → Int64) (p : Nat) (x : Int64) : Nat → Int64 := fun i => if i < p then L i else if i = p then x else L (i - 1)
def zq_del (L : Nat → Int64) (p : Nat) : Nat → Int64 := fun i => if i < p then L i else L (i + 1)
theorem zs_insert (A : zy_is z D w) (hz : w.2.2 < z) (V : zy_dr D n L) (hn : n < 24) (hp : p ≤ n) (x : Int64) : ∃ D2, zf_X0_insert w (z + 9) (nI p) x = some (zy_h z D2 w) ∧ zx_eqD D D2 ∧ zy_dr D2 (n + 1) (zq_ins L p x) := by
  obtain ⟨v1, v2, v3⟩ := V
  obtain ⟨c, e1, e2, e3⟩ := zs_insL (x := x) (p := p) (n - p) n 2000 w D (by omega) hn (by omega) A
  refine ⟨zy_I (zy_J D 10 (va_up c p x)) 9 1 (nI (n + 1)), ?_, zx_eqD_trans (zx_eqD_J (by decide)) (zx_eqD_I (by decide)), zy_Ii, by omega, fun i hi => ?_⟩
  · have g1 : ∀ c, (zy_J D 10 c).1 9 1 = nI n := fun c => v1
    unfold zf_X0_insert
    rw [if_neg (zy_is9 A), zy_g9_1 A, zo_s, zy_r9_0 A, zo_s, zo_s, zy_n10 A hz, zo_s, v1, if_neg (show ¬ (24 : Int32) ≤ nI n from nI_ge (show n < 24 by omega) (by decide)), if_neg (nI_pos (by omega)), zo_s, if_pos (nI_le hp (by omega)), zo_s, e1, zo_s, zy_r9_0 (zy_is_h _ _ _), zo_s, zo_s, zy_s10 (zy_is_h _ _ _) (by omega), zo_s, zy_hh, zy_Jj, zy_JJ, zy_g9_1 (zy_is_h _ _ _), zo_s, zy_p9_1 (zy_is_h _ _ _), zo_s, zy_hh, g1, nI_succ]
  · show va_up D.2.2 10 (va_up c p x) 10 i = _
    rw [va_up_self]
    unfold zq_ins
    by_cases y1 : i < p
    · rw [if_pos y1, va_up_ne _ _ (by omega), e2 i (by omega)]
      exact v3 i (by omega)
    · rw [if_neg y1]
      by_cases y2 : i = p
      · rw [if_pos y2, y2, va_up_self]
      · rw [if_neg y2, va_up_ne _ _ y2, e3 i (by omega) (by omega)]
        exact v3 _ (by omega)
theorem zs_remL {y2 : Int64} : ∀ (j k fu : Nat) (w : zc_H) (D : zy_D), k + j = n → n < 24 → D.1 9 1 = nI n → j < fu → zy_is z D w → ∃ c, zf_X0_remove_L46 (z + 9) y2 fu w (nI k) = some (zy_h z (zy_J D 10 c) w) ∧ (∀ i, i < k → c i = D.2.2 10 i) ∧ ∀ i, k ≤ i → i < n → c i = D.2.2 10 (i + 1) := by
  intro j
  induction j with
  | zero =>
    intro k fu w D h1 h2 h4 h3 A
    obtain ⟨fu, rfl⟩ : ∃ n, fu = n + 1 := ⟨fu - 1, by omega⟩
    refine ⟨D.2.2 10, ?_, fun i _ => rfl, fun i h4 h5 => by omega⟩
    unfold zf_X0_remove_L46
    rw [zy_g9_1 A, zo_s, h4, if_pos (nI_le (show n ≤ k by omega) (by omega)), zy_Ji, zy_is_e A]
  | succ j ih =>
    intro k fu w D h1 h2 h4 h3 A
    obtain ⟨fu, rfl⟩ : ∃ n, fu = n + 1 := ⟨fu - 1, by omega⟩
    obtain ⟨c, e1, e2, e3⟩ := ih (k + 1) fu (zy_h z (zy_J D 10 (va_up (D.2.2 10) k (D.2.2 10 (k + 1)))) w) (zy_J D 10 (va_up (D.2.2 10) k (D.2.2 10 (k + 1)))) (by omega) (by omega) h4 (by omega) (zy_is_h _ _ _)
    refine ⟨c, ?_, fun i hi => ?_, fun i h4 h5 => ?_⟩
    · unfold zf_X0_remove_L46
      rw [zy_g9_1 A, zo_s, h4, if_neg (nI_ge (show k < n by omega) (by omega)), zy_r9_0 A, zo_s, zo_s, zo_s, ← nI_succ, zy_a10 A (by omega), zo_s, zo_s, zy_s10 A (by omega), zo_s, e1, zy_hh, zy_JJ]
    · rw [e2 i (by omega), zy_Jj, va_up_ne _ _ (by omega)]
    · by_cases y : i = k
      · subst y
        rw [e2 _ (by omega), zy_Jj, va_up_self]
      · rw [e3 i (by omega) h5, zy_Jj, va_up_ne _ _ (by omega)]
theorem zs_remove (A : zy_is z D w) (hz : w.2.2 < z) (V : zy_dr D (n + 1) L) (hp : p < n + 1) : ∃ D2, zf_X0_remove w (z + 9) (nI p) = some (zy_h z D2 w, L p) ∧ zx_eqD D D2 ∧ zy_dr D2 n (zq_del L p) := by
  obtain ⟨v1, v2, v3⟩ := V
  have hI : (zy_I D 9 1 (nI n)).1 9 1 = nI n := zy_Ii
  obtain ⟨c, e1, e2, e3⟩ := zs_remL (z := z) (n := n) (y2 := L p) (n - p) p 2000 (zy_h z (zy_I D 9 1 (nI n)) w) (zy_I D 9 1 (nI n)) (by omega) (by omega) hI (by omega) (zy_is_h _ _ _)
  refine ⟨zy_J (zy_I D 9 1 (nI n)) 10 c, ?_, zx_eqD_trans (zx_eqD_I (by decide)) (zx_eqD_J (by decide)), hI, by omega, fun i hi => ?_⟩
  · unfold zf_X0_remove
    rw [if_neg (zy_is9 A), if_neg (nI_pos (by omega)), zy_g9_1 A, zo_s, v1, if_neg (nI_ge hp (by omega)), zo_s, zy_r9_0 A, zo_s, zo_s, zy_n10 A hz, zo_s, if_pos (show nI (n + 1) ≤ 24 from nI_le (show n + 1 ≤ 24 by omega) (by decide)), zo_s, zo_s, zy_a10 A (by omega), zo_s, zo_s, show nI (n + 1) - 1 = nI n from by rw [show (1 : Int32) = nI 1 by decide, za_sub (by omega), Nat.add_sub_cancel], zy_p9_1 A, zo_s, v3 p (by omega), e1, zo_s, zy_hh]
  · rw [zy_Jj]
    unfold zq_del
    by_cases y : i < p
    · rw [if_pos y, e2 i y]
      exact v3 i (by omega)
    · rw [if_neg y, e3 i (by omega) hi]
      exact v3 _ (by omega)
theorem zs_startL {b lb m : Nat} {g : Nat → Int64} (hm : m ≤ 24) : ∀ (j k fu : Nat) (w : zc_H) (D : zy_D), k + j = m → j < fu → w.2.2 < z → (∀ D, zk_rv (zy_h z D w) b lb m g) → zy_is z D w → zy_dr D k g → ∃ D2, zf_X0_startFrom_L7 (z + 9) (some b) fu w (nI k) = some (zy_h z D2 w) ∧ zx_eqD D D2 ∧ zy_dr D2 m g := by
  intro j
  induction j with
  | zero =>
    intro k fu w D h1 h2 hz RV A V
    obtain ⟨fu, rfl⟩ : ∃ n, fu = n + 1 := ⟨fu - 1, by omega⟩
    have : k = m := by omega
    subst this
    have R := RV D
    rw [zy_is_e A] at R
    refine ⟨D, ?_, zx_eqD_refl D, V⟩
    unfold zf_X0_startFrom_L7
    rw [zo_s, zk_count R, zo_s, if_pos (nI_le (Nat.le_refl _) (by omega)), zy_is_e A]
  | succ j ih =>
    intro k fu w D h1 h2 hz RV A V
    obtain ⟨fu, rfl⟩ : ∃ n, fu = n + 1 := ⟨fu - 1, by omega⟩
    have R := RV D
    rw [zy_is_e A] at R
    obtain ⟨D2, e1, e2, e3⟩ := zs_insert A hz V (show k < 24 by omega) (Nat.le_refl k) (g k)
    obtain ⟨D3, g1, g2, g3⟩ := ih (k + 1) fu (zy_h z D2 w) D2 (by omega) (by omega) hz (fun D => by rw [zy_hh]; exact RV D) (zy_is_h _ _ _) (zy_dr_c (fun i hi => by
      unfold zq_ins
      by_cases y : i < k
      · rw [if_pos y]
      · rw [if_neg y, if_pos (by omega), show i = k by omega]) e3)
    refine ⟨D3, ?_, zx_eqD_trans e2 g2, g3⟩
    unfold zf_X0_startFrom_L7
    rw [zo_s, zk_count R, zo_s, if_neg (nI_ge (show k < m by omega) (by omega)), zy_g9_1 A, zo_s, zk_lineI R (by omega) (show k < m by omega), zo_s, V.1, e1, zo_s, ← nI_succ, g1, zy_hh]
theorem zs_startFrom {b lb m : Nat} {g : Nat → Int64} (hm : m ≤ 24) (hz : w.2.2 < z) (RV : ∀ D, zk_rv (zy_h z D w) b lb m g) (A : zy_is z D w) : ∃ D2, zf_X0_startFrom w (z + 9) (some b) = some (zy_h z D2 w) ∧ zx_eqD D D2 ∧ zy_dr D2 m g := by
  obtain ⟨D2, e1, e2, e3⟩ := zs_startL (z := z) hm m 0 2000 (zy_h z (zy_I D 9 1 0) w) (zy_I D 9 1 0) (by omega) (by omega) hz (fun D => by rw [zy_hh]; exact RV D) (zy_is_h _ _ _) ⟨zy_Ii, by omega, fun i hi => absurd hi (by omega)⟩
  refine ⟨D2, ?_, zx_eqD_trans (zx_eqD_I (by decide)) e2, e3⟩
  unfold zf_X0_startFrom
  rw [if_neg (zy_is9 A), zy_p9_1 A, zo_s, show zf_X0_startFrom_L7 (z + 9) (some b) 2000 (zy_h z (zy_I D 9 1 0) w) 0 = _ from e1, zo_s, zy_hh]
/-- a new cell -/
theorem zn_new (h : zc_H) (e : va_E) : (zf_new h e).1 h.2.1 = some e ∧ (zf_new h e).2.1 = h.2.1 + 1 ∧ (zf_new h e).2.2 = h.2.2 ∧ ∀ y, y ≠ h.2.1 → (zf_new h e).1 y = h.1 y := ⟨va_up_self _ _ _, rfl, rfl, fun y hy => va_up_ne _ _ hy⟩
/-- the lines so far become a row of their own -/
theorem zs_sofar (A : zy_is z D w) (hz : w.2.2 < z) (hs : z + 60 ≤ w.2.1) (V : zy_dr D n L) : ∃ w2 l, zf_X0_linesSoFar w (z + 9) = some (w2, some w.2.1) ∧ w2.1 w.2.1 = some (.inl (1, n, .inr (.inl l))) ∧ w2.2.1 = w.2.1 + 1 ∧ w2.2.2 = w.2.2 ∧ (∀ y, y ≠ w.2.1 → w2.1 y = w.1 y) ∧ ∀ i, i < n → l i = L i := by
  obtain ⟨v1, v2, v3⟩ := V
  have c10 : w.1 (z + 10) = some (.inl (1, 24, .inr (.inl (D.2.2 10)))) := A 10 (by decide) rfl
  unfold zf_X0_linesSoFar zf_J7_copyOf_c38d5
  dsimp only
  rw [if_neg (zy_is9 A), zy_r9_0 A, zo_s, zy_g9_1 A, zo_s, v1, if_pos (nI_pos' (by omega)), zo_s, zo_s, zy_n10 A hz, zo_s]
  by_cases c : n = 24
  · subst c
    refine ⟨zf_new w (.inl (1, 24, .inr (.inl (D.2.2 10)))), D.2.2 10, ?_, (zn_new _ _).1, (zn_new _ _).2.1, (zn_new _ _).2.2.1, (zn_new _ _).2.2.2, v3⟩
    have cl : zf_clj w (z + 10) = some (zf_new w (.inl (1, 24, .inr (.inl (D.2.2 10))))) := by
      unfold zf_clj
      rw [c10]
      exact if_pos ⟨rfl, by decide⟩
    have ij : zf_isj (zf_new w (.inl (1, 24, .inr (.inl (D.2.2 10))))) w.2.1 = true := by
      unfold zf_isj
      rw [(zn_new _ _).1]
      rfl
    rw [if_pos (show nI 24 = 24 by decide), cl, zo_s, if_neg (not_not_intro ij), zo_s]
  · obtain ⟨n1, n2, n3, n4⟩ := zn_new w (.inl (1, n, .inr (.inl (fun _ => 0))))
    have d10 : (zf_new w (.inl (1, n, .inr (.inl (fun _ => 0))))).1 (z + 10) = some (.inl (1, 24, .inr (.inl (D.2.2 10)))) := by
      rw [n4 _ (by omega)]
      exact c10
    have cp : zf_cpj (zf_new w (.inl (1, n, .inr (.inl (fun _ => 0))))) (z + 10) 0 w.2.1 0 (nI n) = some (zf_up (zf_new w (.inl (1, n, .inr (.inl (fun _ => 0))))) w.2.1 (.inl (1, n, .inr (.inl (va_cpy (D.2.2 10) (fun _ => 0) 0 0 n))))) := by
      unfold zf_cpj
      rw [d10, n1]
      dsimp only
      rw [show (0 : Int32) = nI 0 from rfl, nI_clamp (by omega), nI_clamp (by omega), if_pos ⟨rfl, rfl, nI_pos (by omega), nI_pos (by omega), nI_pos (by omega), by omega, by omega⟩]
    refine ⟨zf_up (zf_new w (.inl (1, n, .inr (.inl (fun _ => 0))))) w.2.1 (.inl (1, n, .inr (.inl (va_cpy (D.2.2 10) (fun _ => 0) 0 0 n)))), va_cpy (D.2.2 10) (fun _ => 0) 0 0 n, ?_, zb_up _ _ _, n2, n3, fun y hy => ?_, fun i hi => ?_⟩
    · rw [if_neg (show ¬ nI n = 24 from fun h => c ((za_eq (b := 24) (by omega) (by decide)).mp h)), if_neg (by
        rw [nI_clamp (by omega)]
        intro h
        rcases h with h | h
        · exact nI_pos (by omega) h
        · omega), nI_clamp (by omega), zo_s, show zf_len (zf_new w (.inl (1, n, .inr (.inl fun _ => 0)))) (z + 10) = some (nI 24) from zb_len d10 (by show z + 10 ≠ w.2.2; omega), zo_s, if_pos (nI_lt (show n < 24 by omega) (by decide)), cp, zo_s, zo_s]
    · show va_up _ _ _ y = _
      rw [va_up_ne _ _ hy]
      exact n4 y hy
    · unfold va_cpy
      rw [if_pos (by omega), Nat.sub_zero, Nat.zero_add]
      exact v3 i hi
end ZV
