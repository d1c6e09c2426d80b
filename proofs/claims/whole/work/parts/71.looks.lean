/-! the best place: pure, the class's, the reference's -/
/-- of the first k places: the best, its score, the greatest of the others -/
def zq_w (sc : Nat → Nat) : Nat → Option (Nat × Nat × Option Nat)
  | 0 => none
  | k + 1 => match zq_w sc k with
    | none => some (k, sc k, none)
    | some x => if x.2.1 < sc k then some (k, sc k, some x.2.1) else some (x.1, x.2.1, some (max (x.2.2.getD 0) (sc k)))
def zq_w1 (o : Option (Nat × Nat × Option Nat)) : Int32 := match o with
  | none => -1
  | some x => nI x.1
def zq_w2 (o : Option (Nat × Nat × Option Nat)) : Int32 := match o with
  | none => -1
  | some x => nI x.2.1
def zq_w3 (o : Option (Nat × Nat × Option Nat)) : Int32 := match o with
  | none => -1
  | some x => match x.2.2 with
    | none => -1
    | some r => nI r
def zq_wok (sc : Nat → Nat) (k : Nat) (o : Option (Nat × Nat × Option Nat)) : Prop := match o with
  | none => k = 0
  | some x => x.1 < k ∧ x.2.1 = sc x.1 ∧ (∀ s, s < k → sc s ≤ sc x.1) ∧ match x.2.2 with
    | none => k = 1
    | some r => (∃ s, s < k ∧ s ≠ x.1 ∧ sc s = r) ∧ ∀ s, s < k → s ≠ x.1 → sc s ≤ r
theorem zq_w_ok (sc : Nat → Nat) : ∀ k, zq_wok sc k (zq_w sc k) := by
  intro k
  induction k with
  | zero => rfl
  | succ k ih =>
    unfold zq_w
    revert ih
    cases zq_w sc k with
    | none =>
      intro ih
      have ih : k = 0 := ih
      subst ih
      refine ⟨Nat.lt_succ_self _, rfl, fun s hs => ?_, rfl⟩
      rw [show s = 0 by omega]
      exact Nat.le_refl _
    | some x =>
      intro ih
      obtain ⟨b, g, r⟩ := x
      obtain ⟨h1, h2, h3, h4⟩ := ih
      dsimp only at h1 h2 h3 h4 ⊢
      subst h2
      by_cases c : sc b < sc k
      · rw [if_pos c]
        refine ⟨Nat.lt_succ_self _, rfl, fun s hs => ?_, ⟨b, by omega, by omega, rfl⟩, fun s hs hn => h3 s (by dsimp only at hn; omega)⟩
        dsimp only
        by_cases e : s = k
        · rw [e]; exact Nat.le_refl _
        · have := h3 s (by omega)
          omega
      · rw [if_neg c]
        refine ⟨by dsimp only; omega, rfl, fun s hs => ?_, ?_, ?_⟩
        · dsimp only
          by_cases e : s = k
          · rw [e]; omega
          · exact h3 s (by omega)
        · cases r with
          | none =>
            refine ⟨k, Nat.lt_succ_self _, by dsimp only; omega, ?_⟩
            simp
          | some r =>
            obtain ⟨⟨s, e1, e2, e3⟩, e4⟩ := h4
            by_cases e : r ≤ sc k
            · exact ⟨k, Nat.lt_succ_self _, by dsimp only; omega, by simp only [Option.getD_some]; omega⟩
            · exact ⟨s, by omega, e2, by simp only [Option.getD_some]; omega⟩
        · intro s hs hn
          dsimp only at hn
          by_cases e : s = k
          · rw [e]; exact Nat.le_max_right _ _
          · cases r with
            | none => exfalso; dsimp only at h4; omega
            | some r =>
              have := h4.2 s (by omega) hn
              simp only [Option.getD_some]
              omega
/-- whether each other place's score is less by the margin at least -/
def zq_clear (margin : Nat) (o : Option (Nat × Nat × Option Nat)) : Prop := match o with
  | none => False
  | some x => match x.2.2 with
    | none => True
    | some r => r + margin ≤ x.2.1
theorem zq_clear_iff {sc : Nat → Nat} {k margin : Nat} {x : Nat × Nat × Option Nat} (h : zq_w sc k = some x) : zq_clear margin (some x) ↔ ∀ s, s < k → s ≠ x.1 → sc s + margin ≤ sc x.1 := by
  have ho := zq_w_ok sc k
  rw [h] at ho
  obtain ⟨b, g, r⟩ := x
  obtain ⟨h1, h2, h3, h4⟩ := ho
  dsimp only at h1 h2 h3 h4 ⊢
  subst h2
  cases r with
  | none =>
    have h4 : k = 1 := h4
    exact ⟨fun _ s hs hn => by omega, fun _ => trivial⟩
  | some r =>
    obtain ⟨⟨s, e1, e2, e3⟩, e4⟩ := h4
    constructor
    · intro hc s hs hn
      have hc : r + margin ≤ sc b := hc
      have := e4 s hs hn
      omega
    · intro hc
      show r + margin ≤ sc b
      have := hc s e1 e2
      omega
theorem zq_w_le {sc : Nat → Nat} {k N : Nat} (h : ∀ s, sc s ≤ N) : match zq_w sc k with | none => True | some x => x.1 < k ∧ x.2.1 ≤ N ∧ (∀ r, x.2.2 = some r → r ≤ N ∧ r ≤ x.2.1) := by
  have ho := zq_w_ok sc k
  revert ho
  cases zq_w sc k with
  | none => intro _; trivial
  | some x =>
    intro ho
    obtain ⟨b, g, r⟩ := x
    obtain ⟨h1, h2, h3, h4⟩ := ho
    dsimp only at h1 h2 h3 h4 ⊢
    subst h2
    refine ⟨h1, h b, fun r0 hr => ?_⟩
    subst hr
    obtain ⟨⟨s, e1, e2, e3⟩, e4⟩ := h4
    rw [← e3]
    exact ⟨h s, h3 s e1⟩
/-- the class's weigh -/
theorem zk_weighL {h : zc_H} {W R0 b lb m size : Nat} {x g : Nat → Int64} (RB : ∀ v x, zk_rv (zk_w h W R0 v x) b lb m g) (hz : h.2.2 < W) (hm : m ≤ 24) (hz1 : 1 ≤ size) (hz2 : size ≤ 24) : ∀ (r fu k : Nat) (v : Nat → Int32), k + r = m + 1 - size → r < fu → v 5 = nI size → v 6 = zq_w2 (zq_w (fun s => zq_scs x (fun k => zq_at g m (s + k)) size (size + 2)) k) → v 7 = zq_w1 (zq_w (fun s => zq_scs x (fun k => zq_at g m (s + k)) size (size + 2)) k) → v 8 = zq_w3 (zq_w (fun s => zq_scs x (fun k => zq_at g m (s + k)) size (size + 2)) k) → ∃ v2, zf_X8_weigh_L17 W (some b) fu (zk_w h W R0 v x) (nI k) = some (zk_w h W R0 v2 x) ∧ v2 2 = v 2 ∧ v2 3 = v 3 ∧ v2 5 = nI size ∧ v2 6 = zq_w2 (zq_w (fun s => zq_scs x (fun k => zq_at g m (s + k)) size (size + 2)) (m + 1 - size)) ∧ v2 7 = zq_w1 (zq_w (fun s => zq_scs x (fun k => zq_at g m (s + k)) size (size + 2)) (m + 1 - size)) ∧ v2 8 = zq_w3 (zq_w (fun s => zq_scs x (fun k => zq_at g m (s + k)) size (size + 2)) (m + 1 - size)) := by
  intro r
  induction r with
  | zero =>
    intro fu k v h1 h2 h5 h6 h7 h8
    obtain ⟨fl, rfl⟩ : ∃ fl, fu = fl + 1 := ⟨fu - 1, by omega⟩
    refine ⟨v, ?_, rfl, rfl, h5, ?_, ?_, ?_⟩
    · unfold zf_X8_weigh_L17
      rw [zo_s, zk_count (RB _ _), zo_s, zk_wg (by decide), zo_s, h5, if_pos ((za_sublt (by omega) (by omega) (by omega)).mpr (by omega))]
    · rw [h6, show k = m + 1 - size by omega]
    · rw [h7, show k = m + 1 - size by omega]
    · rw [h8, show k = m + 1 - size by omega]
  | succ r ih =>
    intro fu k v h1 h2 h5 h6 h7 h8
    obtain ⟨fl, rfl⟩ : ∃ fl, fu = fl + 1 := ⟨fu - 1, by omega⟩
    have hb := zq_w_le (k := k) (N := 3 * 26) (sc := fun s => zq_scs x (fun k => zq_at g m (s + k)) size (size + 2)) (fun s => Nat.le_trans (zq_scs_le _ _ _ _) (by omega))
    have hs := Nat.le_trans (zq_scs_le x (fun j => zq_at g m (k + j)) size (size + 2)) (show 3 * (size + 2) ≤ 3 * 26 by omega)
    have hw := zq_w_ok (fun s => zq_scs x (fun k => zq_at g m (s + k)) size (size + 2)) k
    have e1 : zq_w (fun s => zq_scs x (fun k => zq_at g m (s + k)) size (size + 2)) (k + 1) = match zq_w (fun s => zq_scs x (fun k => zq_at g m (s + k)) size (size + 2)) k with | none => some (k, zq_scs x (fun j => zq_at g m (k + j)) size (size + 2), none) | some y => if y.2.1 < zq_scs x (fun j => zq_at g m (k + j)) size (size + 2) then some (k, zq_scs x (fun j => zq_at g m (k + j)) size (size + 2), some y.2.1) else some (y.1, y.2.1, some (max (y.2.2.getD 0) (zq_scs x (fun j => zq_at g m (k + j)) size (size + 2)))) := rfl
    unfold zf_X8_weigh_L17
    dsimp only
    rw [zo_s, zk_count (RB _ _), zo_s, zk_wg (by decide), zo_s, h5, if_neg (fun z => (show ¬ m < k + size by omega) ((za_sublt (by omega) (by omega) (by omega)).mp z)), zk_score (RB _ _) hz hm (by omega) h5 hz2, zo_s, zk_wg (by decide), zo_s, zk_wg (by decide), zo_s, zk_wp (by decide), zo_s, zo_s, zk_wp (by decide), zo_s, zk_wp (by decide), zo_s, zk_wp (by decide), zo_s, h6, h8, ← nI_succ]
    have ih2 := fun v => ih fl (k + 1) v (by omega) (by omega)
    revert hb hw e1 h6 h7 h8 ih2
    generalize zq_scs x (fun j => zq_at g m (k + j)) size (size + 2) = sc at *
    cases hwk : zq_w (fun s => zq_scs x (fun k => zq_at g m (s + k)) size (size + 2)) k with
    | none =>
      intro h6 h7 h8 hb hw e1 ih2
      rw [e1] at ih2
      rw [if_neg (show ¬ nI sc ≤ zq_w2 none from Int32.not_le.mpr (zq_m1lt (show sc < 2 ^ 31 by omega)))]
      obtain ⟨v2, f1, f2, f3, f4⟩ := ih2 (va_up (va_up (va_up v 8 (zq_w2 none)) 6 (nI sc)) 7 (nI k)) (by rw [va_up_ne _ _ (by decide), va_up_ne _ _ (by decide), va_up_ne _ _ (by decide)]; exact h5) (by rw [va_up_ne _ _ (by decide), va_up_self]; rfl) (by rw [va_up_self]; rfl) (by rw [va_up_ne _ _ (by decide), va_up_ne _ _ (by decide), va_up_self]; rfl)
      exact ⟨v2, f1, by rw [f2, va_up_ne _ _ (by decide), va_up_ne _ _ (by decide), va_up_ne _ _ (by decide)], by rw [f3, va_up_ne _ _ (by decide), va_up_ne _ _ (by decide), va_up_ne _ _ (by decide)], f4⟩
    | some y =>
      intro h6 h7 h8 hb hw e1 ih2
      obtain ⟨bb, gg, rr⟩ := y
      obtain ⟨b1, b2, b3⟩ := hb
      dsimp only at b1 b2 b3 e1
      rw [e1] at ih2
      by_cases c : gg < sc
      · rw [if_pos c] at ih2
        rw [if_neg (show ¬ nI sc ≤ zq_w2 (some (bb, gg, rr)) from nI_ge c (by omega))]
        obtain ⟨v2, f1, f2, f3, f4⟩ := ih2 (va_up (va_up (va_up v 8 (zq_w2 (some (bb, gg, rr)))) 6 (nI sc)) 7 (nI k)) (by rw [va_up_ne _ _ (by decide), va_up_ne _ _ (by decide), va_up_ne _ _ (by decide)]; exact h5) (by rw [va_up_ne _ _ (by decide), va_up_self]; rfl) (by rw [va_up_self]; rfl) (by rw [va_up_ne _ _ (by decide), va_up_ne _ _ (by decide), va_up_self]; rfl)
        exact ⟨v2, f1, by rw [f2, va_up_ne _ _ (by decide), va_up_ne _ _ (by decide), va_up_ne _ _ (by decide)], by rw [f3, va_up_ne _ _ (by decide), va_up_ne _ _ (by decide), va_up_ne _ _ (by decide)], f4⟩
      · rw [if_neg c] at ih2
        rw [if_pos (show nI sc ≤ zq_w2 (some (bb, gg, rr)) from nI_le (show sc ≤ gg by omega) (show gg < 2 ^ 31 by omega))]
        obtain ⟨v2, f1, f2, f3, f4⟩ := ih2 (va_up v 8 (if zq_w3 (some (bb, gg, rr)) < nI sc then nI sc else zq_w3 (some (bb, gg, rr)))) (by rw [va_up_ne _ _ (by decide)]; exact h5) (by rw [va_up_ne _ _ (by decide)]; exact h6) (by rw [va_up_ne _ _ (by decide)]; exact h7) (by
          rw [va_up_self]
          cases rr with
          | none =>
            show (if (-1 : Int32) < nI sc then nI sc else -1) = nI (max 0 sc)
            rw [if_pos (zq_m1lt (by omega)), Nat.max_eq_right (by omega)]
          | some r0 =>
            have := b3 r0 rfl
            show (if nI r0 < nI sc then nI sc else nI r0) = nI (max r0 sc)
            by_cases d : r0 < sc
            · rw [if_pos (nI_lt d (by omega)), Nat.max_eq_right (by omega)]
            · rw [if_neg (nI_nlt (by omega) (by omega)), Nat.max_eq_left (by omega)])
        exact ⟨v2, f1, by rw [f2, va_up_ne _ _ (by decide)], by rw [f3, va_up_ne _ _ (by decide)], f4⟩
theorem zk_weigh {h : zc_H} {W R0 b lb m size : Nat} {v : Nat → Int32} {x g : Nat → Int64} (RB : ∀ v x, zk_rv (zk_w h W R0 v x) b lb m g) (hz : h.2.2 < W) (hm : m ≤ 24) (hz1 : 1 ≤ size) (hz2 : size ≤ 24) (h5 : v 5 = nI size) : ∃ v2, zf_X8_weigh (zk_w h W R0 v x) W (some b) = some (zk_w h W R0 v2 x) ∧ v2 2 = v 2 ∧ v2 3 = v 3 ∧ v2 5 = nI size ∧ v2 6 = zq_w2 (zq_w (fun s => zq_scs x (fun k => zq_at g m (s + k)) size (size + 2)) (m + 1 - size)) ∧ v2 7 = zq_w1 (zq_w (fun s => zq_scs x (fun k => zq_at g m (s + k)) size (size + 2)) (m + 1 - size)) ∧ v2 8 = zq_w3 (zq_w (fun s => zq_scs x (fun k => zq_at g m (s + k)) size (size + 2)) (m + 1 - size)) := by
  obtain ⟨v2, e1, e2, e3, e4⟩ := zk_weighL RB hz hm hz1 hz2 (m + 1 - size) 2000 0 (va_up (va_up (va_up v 6 (-1)) 7 (-1)) 8 (-1)) (by omega) (by omega) (by rw [va_up_ne _ _ (by decide), va_up_ne _ _ (by decide), va_up_ne _ _ (by decide)]; exact h5) (by rw [va_up_ne _ _ (by decide), va_up_ne _ _ (by decide), va_up_self]; rfl) (by rw [va_up_ne _ _ (by decide), va_up_self]; rfl) (by rw [va_up_self]; rfl)
  refine ⟨v2, ?_, by rw [e2, va_up_ne _ _ (by decide), va_up_ne _ _ (by decide), va_up_ne _ _ (by decide)], by rw [e3, va_up_ne _ _ (by decide), va_up_ne _ _ (by decide), va_up_ne _ _ (by decide)], e4⟩
  unfold zf_X8_weigh
  rw [if_neg (zb_is zk_w0), zk_wp (by decide), zo_s, zk_wp (by decide), zo_s, zk_wp (by decide), zo_s, show (0 : Int32) = nI 0 by decide, e1, zo_s]
def zq_wb (o : Option (Nat × Nat × Option Nat)) : Prop := match o with
  | none => True
  | some x => x.1 < 25 ∧ x.2.1 ≤ 78 ∧ (∀ r, x.2.2 = some r → r ≤ 78 ∧ r ≤ x.2.1)
theorem zk_keeps {h : zc_H} {W R0 margin : Nat} {v : Nat → Int32} {x : Nat → Int64} {vs : List Value} {o : Option (Nat × Nat × Option Nat)} (hR : R0 ≠ W ∧ R0 ≠ W + 2) (hs : h.1 R0 = some (.inr (6, vs))) (hv : vs[5]? = some (.int (nI margin))) (hmg : margin ≤ 20) (h6 : v 6 = zq_w2 o) (h7 : v 7 = zq_w1 o) (h8 : v 8 = zq_w3 o) (hb : zq_wb o) : ∃ f, zf_X8_keepsMargin (zk_w h W R0 v x) W = some f ∧ ((f = 0 ∧ ¬ zq_clear margin o) ∨ (f = 1 ∧ zq_clear margin o)) := by
  unfold zf_X8_keepsMargin
  rw [if_neg (zb_is zk_w0), zk_wg (by decide), zo_s, h7]
  cases o with
  | none => exact ⟨_, if_pos rfl, Or.inl ⟨rfl, fun z => z⟩⟩
  | some y =>
    obtain ⟨b, g, r⟩ := y
    obtain ⟨b1, b2, b3⟩ := hb
    dsimp only at b1 b2 b3
    rw [if_neg (show ¬ zq_w1 (some (b, g, r)) = -1 from za_ne b (by omega)), zk_wg (by decide), zo_s, h8]
    cases r with
    | none => exact ⟨_, if_pos rfl, Or.inr ⟨rfl, trivial⟩⟩
    | some r =>
      obtain ⟨b4, b5⟩ := b3 r rfl
      rw [if_neg (show ¬ zq_w3 (some (b, g, some r)) = -1 from za_ne r (by omega)), zk_wg (by decide), zo_s, zo_s, zb_gr (x := some R0) zk_w0 rfl, zo_s, zo_s, zb_gi (h := zk_w h W R0 v x) (by rw [zk_wn hR.1 hR.2]; exact hs) hv, zo_s, h6]
      by_cases c : r + margin ≤ g
      · rw [if_neg (show ¬ zq_w2 (some (b, g, some r)) - zq_w3 (some (b, g, some r)) < nI margin from fun z => absurd ((za_sublt (a := g) (b := r) (c := margin) (by omega) (by omega) (by omega)).mp z) (by omega))]
        exact ⟨_, rfl, Or.inr ⟨rfl, c⟩⟩
      · rw [if_pos (show zq_w2 (some (b, g, some r)) - zq_w3 (some (b, g, some r)) < nI margin from (za_sublt (a := g) (b := r) (c := margin) (by omega) (by omega) (by omega)).mpr (by omega))]
        exact ⟨_, rfl, Or.inl ⟨rfl, c⟩⟩
/-! the reference's looks -/
theorem zr_placesOn {S : zm_S} {v : Nat → Int32} {b m p size : Nat} (hb : b < 17) (hB : S.2.1 2 b = nI m) (hm : m ≤ 24) (h35 : v 35 = nI p) (h36 : v 36 = nI (p + size - 1)) (h1 : 1 ≤ size) (hp : p + size ≤ 24) : zg_X10_placesOn (zr_w S v) (nI b) = some (nI (m + 1 - size)) := by
  unfold zg_X10_placesOn
  rw [zr_w2, za_ai hb (by decide), zo_s, zr_wg S v (by decide), zr_wg S v (by decide), h35, h36, hB, za_sub (show p ≤ p + size - 1 by omega), show p + size - 1 - p = size - 1 by omega]
  by_cases c : size - 1 ≤ m
  · rw [za_sub c]
    by_cases d : 0 < m - (size - 1)
    · rw [if_pos (show (0 : Int32) < nI (m - (size - 1)) from nI_lt (a := 0) d (by omega))]
      congr 2
      omega
    · rw [if_neg (show ¬ (0 : Int32) < nI (m - (size - 1)) from nI_nlt (a := 0) (by omega) (by omega)), show m + 1 - size = 0 by omega]
      rfl
  · have : nI m - nI (size - 1) < nI 0 := (za_sublt (by omega) (by omega) (by omega)).mpr (by omega)
    have e : ¬ (0 : Int32) < nI m - nI (size - 1) := fun z => by
      rw [Int32.lt_iff_toInt_lt] at z this
      rw [show (0 : Int32).toInt = 0 by decide] at z
      rw [show (nI 0).toInt = 0 by decide] at this
      omega
    rw [if_neg e, show m + 1 - size = 0 by omega]
    rfl
def zr_ctx (S : zm_S) (v : Nat → Int32) (a b n m p size : Nat) : Prop := a < 17 ∧ b < 17 ∧ S.2.1 2 a = nI n ∧ S.2.1 2 b = nI m ∧ n ≤ 24 ∧ m ≤ 24 ∧ v 34 = nI a ∧ v 35 = nI p ∧ v 36 = nI (p + size - 1) ∧ 1 ≤ size ∧ p + size ≤ n ∧ (∀ i, i < n → zr_ln S a i ≠ 0) ∧ (∀ i, i < m → zr_ln S b i ≠ 0)
theorem zr_ctx_up {S : zm_S} {v v2 : Nat → Int32} {a b n m p size : Nat} (h : zr_ctx S v a b n m p size) (h4 : v2 34 = v 34) (h5 : v2 35 = v 35) (h6 : v2 36 = v 36) : zr_ctx S v2 a b n m p size := by
  obtain ⟨q1, q2, q3, q4, q5, q6, q7, q8, q9, q10, q11, q12, q13⟩ := h
  exact ⟨q1, q2, q3, q4, q5, q6, h4.trans q7, h5.trans q8, h6.trans q9, q10, q11, q12, q13⟩
theorem zr_look1 {S : zm_S} {a b n m p size : Nat} : ∀ (r fu k : Nat) (v : Nat → Int32), zr_ctx S v a b n m p size → k + r = m + 1 - size → r < fu → v 39 = zq_w2 (zq_w (zq_sc (zr_ln S a) n (zr_ln S b) m p size) k) → v 38 = zq_w1 (zq_w (zq_sc (zr_ln S a) n (zr_ln S b) m p size) k) → ∃ v2, zg_X10_looks_L12 (nI b) fu (zr_w S v) (nI k) = some (zr_w S v2) ∧ (∀ j, j ≠ 38 → j ≠ 39 → v2 j = v j) ∧ v2 39 = zq_w2 (zq_w (zq_sc (zr_ln S a) n (zr_ln S b) m p size) (m + 1 - size)) ∧ v2 38 = zq_w1 (zq_w (zq_sc (zr_ln S a) n (zr_ln S b) m p size) (m + 1 - size)) := by
  intro r
  induction r with
  | zero =>
    intro fu k v hx h1 h2 h6 h7
    obtain ⟨fl, rfl⟩ : ∃ fl, fu = fl + 1 := ⟨fu - 1, by omega⟩
    obtain ⟨q1, q2, q3, q4, q5, q6, q7, q8, q9, q10, q11, q12, q13⟩ := hx
    refine ⟨v, ?_, fun j _ _ => rfl, by rw [h6, show k = m + 1 - size by omega], by rw [h7, show k = m + 1 - size by omega]⟩
    unfold zg_X10_looks_L12
    rw [zr_placesOn q2 q4 q6 q8 q9 q10 (by omega), zo_s, if_pos (nI_le (by omega) (by omega))]
  | succ r ih =>
    intro fu k v hx h1 h2 h6 h7
    obtain ⟨fl, rfl⟩ : ∃ fl, fu = fl + 1 := ⟨fu - 1, by omega⟩
    obtain ⟨q1, q2, q3, q4, q5, q6, q7, q8, q9, q10, q11, q12, q13⟩ := id hx
    have hb := zq_w_le (k := k) (N := 3 * 26) (sc := zq_sc (zr_ln S a) n (zr_ln S b) m p size) (fun s => Nat.le_trans (zq_sc_le _ _ _ _ _ _ _) (by omega))
    have hs := Nat.le_trans (zq_sc_le (zr_ln S a) n (zr_ln S b) m p size k) (show 3 * (size + 2) ≤ 3 * 26 by omega)
    have hw := zq_w_ok (zq_sc (zr_ln S a) n (zr_ln S b) m p size) k
    have e1 : zq_w (zq_sc (zr_ln S a) n (zr_ln S b) m p size) (k + 1) = match zq_w (zq_sc (zr_ln S a) n (zr_ln S b) m p size) k with | none => some (k, zq_sc (zr_ln S a) n (zr_ln S b) m p size k, none) | some y => if y.2.1 < zq_sc (zr_ln S a) n (zr_ln S b) m p size k then some (k, zq_sc (zr_ln S a) n (zr_ln S b) m p size k, some y.2.1) else some (y.1, y.2.1, some (max (y.2.2.getD 0) (zq_sc (zr_ln S a) n (zr_ln S b) m p size k))) := rfl
    unfold zg_X10_looks_L12
    dsimp only
    rw [zr_placesOn q2 q4 q6 q8 q9 q10 (by omega), zo_s, if_neg (nI_ge (by omega) (by omega)), zr_score q1 q2 q3 q4 q5 q6 q7 q8 q9 q10 q11 (by omega) q12 q13, zo_s, zo_s, zo_s, zr_wg S v (by decide), zr_wp _ _ (by decide), zr_wp _ _ (by decide), h6, ← nI_succ]
    have ih2 := fun v hx => ih fl (k + 1) v hx (by omega) (by omega)
    rw [e1] at ih2
    have up : ∀ x y : Int32, zr_ctx S (va_up (va_up v 39 x) 38 y) a b n m p size := fun x y => zr_ctx_up hx (by rw [va_up_ne _ _ (by decide), va_up_ne _ _ (by decide)]) (by rw [va_up_ne _ _ (by decide), va_up_ne _ _ (by decide)]) (by rw [va_up_ne _ _ (by decide), va_up_ne _ _ (by decide)])
    revert h6 h7 hb ih2
    generalize zq_sc (zr_ln S a) n (zr_ln S b) m p size k = sc at hs ⊢
    cases hwk : zq_w (zq_sc (zr_ln S a) n (zr_ln S b) m p size) k with
    | none =>
      intro h6 h7 hb ih2
      rw [if_pos (show zq_w2 none < nI sc from zq_m1lt (by omega))]
      obtain ⟨v2, f1, f2, f3, f4⟩ := ih2 (va_up (va_up v 39 (nI sc)) 38 (nI k)) (up _ _) (by rw [va_up_ne _ _ (by decide), va_up_self]; rfl) (by rw [va_up_self]; rfl)
      exact ⟨v2, f1, fun j n1 n2 => by rw [f2 j n1 n2, va_up_ne _ _ n1, va_up_ne _ _ n2], f3, f4⟩
    | some y =>
      obtain ⟨bb, gg, rr⟩ := y
      intro h6 h7 hb ih2
      obtain ⟨b1, b2, b3⟩ := hb
      dsimp only at b1 b2 b3 ih2
      by_cases c : gg < sc
      · rw [if_pos c] at ih2
        rw [if_pos (show zq_w2 (some (bb, gg, rr)) < nI sc from nI_lt c (by omega))]
        obtain ⟨v2, f1, f2, f3, f4⟩ := ih2 (va_up (va_up v 39 (nI sc)) 38 (nI k)) (up _ _) (by rw [va_up_ne _ _ (by decide), va_up_self]; rfl) (by rw [va_up_self]; rfl)
        exact ⟨v2, f1, fun j n1 n2 => by rw [f2 j n1 n2, va_up_ne _ _ n1, va_up_ne _ _ n2], f3, f4⟩
      · rw [if_neg c] at ih2
        rw [if_neg (show ¬ zq_w2 (some (bb, gg, rr)) < nI sc from nI_nlt (show sc ≤ gg by omega) (show gg < 2 ^ 31 by omega))]
        exact ih2 v hx h6 h7
theorem zr_look2 {S : zm_S} {a b n m p size margin : Nat} {x : Nat × Nat × Option Nat} (hmg : S.2.1 7 2 = nI margin) (hmg2 : margin ≤ 20) (hx1 : x.1 < m + 1 - size) (hx2 : x.2.1 = zq_sc (zr_ln S a) n (zr_ln S b) m p size x.1) (hmax : ∀ s, s < m + 1 - size → zq_sc (zr_ln S a) n (zr_ln S b) m p size s ≤ zq_sc (zr_ln S a) n (zr_ln S b) m p size x.1) : ∀ (r fu k : Nat) (v : Nat → Int32), zr_ctx S v a b n m p size → k + r = m + 1 - size → r < fu → v 39 = nI x.2.1 → v 38 = nI x.1 → (v 40 = 0 ∨ v 40 = 1) → (v 40 = 1 ↔ ∀ s, s < k → s ≠ x.1 → zq_sc (zr_ln S a) n (zr_ln S b) m p size s + margin ≤ x.2.1) → ∃ v2, zg_X10_looks_L74 (nI b) fu (zr_w S v) (nI k) = some (zr_w S v2) ∧ (∀ j, j ≠ 40 → v2 j = v j) ∧ (v2 40 = 0 ∨ v2 40 = 1) ∧ (v2 40 = 1 ↔ ∀ s, s < m + 1 - size → s ≠ x.1 → zq_sc (zr_ln S a) n (zr_ln S b) m p size s + margin ≤ x.2.1) := by
  intro r
  induction r with
  | zero =>
    intro fu k v hx h1 h2 h6 h7 h8 h9
    obtain ⟨fl, rfl⟩ : ∃ fl, fu = fl + 1 := ⟨fu - 1, by omega⟩
    obtain ⟨q1, q2, q3, q4, q5, q6, q7, q8, q9, q10, q11, q12, q13⟩ := hx
    refine ⟨v, ?_, fun j _ => rfl, h8, by rw [h9, show k = m + 1 - size by omega]⟩
    unfold zg_X10_looks_L74
    rw [zr_placesOn q2 q4 q6 q8 q9 q10 (by omega), zo_s, if_pos (nI_le (by omega) (by omega))]
  | succ r ih =>
    intro fu k v hx h1 h2 h6 h7 h8 h9
    obtain ⟨fl, rfl⟩ : ∃ fl, fu = fl + 1 := ⟨fu - 1, by omega⟩
    obtain ⟨q1, q2, q3, q4, q5, q6, q7, q8, q9, q10, q11, q12, q13⟩ := id hx
    have hs := Nat.le_trans (zq_sc_le (zr_ln S a) n (zr_ln S b) m p size k) (show 3 * (size + 2) ≤ 3 * 26 by omega)
    have hs2 := Nat.le_trans (zq_sc_le (zr_ln S a) n (zr_ln S b) m p size x.1) (show 3 * (size + 2) ≤ 3 * 26 by omega)
    have hk := hmax k (by omega)
    unfold zg_X10_looks_L74
    dsimp only
    rw [zr_placesOn q2 q4 q6 q8 q9 q10 (by omega), zo_s, if_neg (nI_ge (by omega) (by omega)), zr_wg S v (by decide), h7, ← nI_succ]
    by_cases c : k = x.1
    · rw [if_pos (by rw [c])]
      refine ih fl (k + 1) v hx (by omega) (by omega) h6 h7 h8 (h9.trans ⟨fun z s hs hn => z s (by omega) hn, fun z s hs hn => z s (by omega) hn⟩)
    rw [if_neg (fun z => c ((za_eq (by omega) (by omega)).mp z)), zr_score q1 q2 q3 q4 q5 q6 q7 q8 q9 q10 q11 (by omega) q12 q13, zo_s, zr_w2, show zg_ai 3 (S.2.1 7) 2 = some (S.2.1 7 2) from za_ai (n := 3) (i := 2) (by decide) (by decide), zo_s, hmg, zr_wg S v (by decide), h6, zo_s, zr_wp _ _ (by decide), za_sub (by omega)]
    by_cases d : zq_sc (zr_ln S a) n (zr_ln S b) m p size k + margin ≤ x.2.1
    · rw [if_pos (nI_le (by omega) (by omega))]
      refine ih fl (k + 1) v hx (by omega) (by omega) h6 h7 h8 (h9.trans ⟨fun z s hs hn => ?_, fun z s hs hn => z s (by omega) hn⟩)
      by_cases e : s = k
      · rw [e]; exact d
      · exact z s (by omega) hn
    · rw [if_neg (nI_ge (by omega) (by omega))]
      obtain ⟨v2, f1, f2, f3⟩ := ih fl (k + 1) (va_up v 40 0) (zr_ctx_up hx (by rw [va_up_ne _ _ (by decide)]) (by rw [va_up_ne _ _ (by decide)]) (by rw [va_up_ne _ _ (by decide)])) (by omega) (by omega) (by rw [va_up_ne _ _ (by decide)]; exact h6) (by rw [va_up_ne _ _ (by decide)]; exact h7) (Or.inl (va_up_self _ _ _)) (by
        rw [va_up_self]
        exact ⟨fun z => absurd z (by decide), fun z => absurd (z k (by omega) c) d⟩)
      exact ⟨v2, f1, fun j n1 => by rw [f2 j n1, va_up_ne _ _ n1], f3⟩
theorem zr_looks {S : zm_S} {v : Nat → Int32} {a b n m p size margin : Nat} (hx : zr_ctx S v a b n m p size) (hmg : S.2.1 7 2 = nI margin) (hmg2 : margin ≤ 20) : ∃ v2, zg_X10_looks (zr_w S v) (nI b) = some (zr_w S v2) ∧ (∀ j, j ≠ 38 → j ≠ 39 → j ≠ 40 → v2 j = v j) ∧ v2 39 = zq_w2 (zq_w (zq_sc (zr_ln S a) n (zr_ln S b) m p size) (m + 1 - size)) ∧ v2 38 = zq_w1 (zq_w (zq_sc (zr_ln S a) n (zr_ln S b) m p size) (m + 1 - size)) ∧ (v2 40 = 0 ∨ v2 40 = 1) ∧ (v2 40 = 1 ↔ zq_clear margin (zq_w (zq_sc (zr_ln S a) n (zr_ln S b) m p size) (m + 1 - size))) := by
  obtain ⟨q1, q2, q3, q4, q5, q6, q7, q8, q9, q10, q11, q12, q13⟩ := id hx
  obtain ⟨v1, e1, e2, e3, e4⟩ := zr_look1 (m + 1 - size) 2000 0 (va_up (va_up v 38 (-1)) 39 (-1)) (zr_ctx_up hx (by rw [va_up_ne _ _ (by decide), va_up_ne _ _ (by decide)]) (by rw [va_up_ne _ _ (by decide), va_up_ne _ _ (by decide)]) (by rw [va_up_ne _ _ (by decide), va_up_ne _ _ (by decide)])) (by omega) (by omega) (by rw [va_up_self]; rfl) (by rw [va_up_ne _ _ (by decide), va_up_self]; rfl)
  have fr1 : ∀ j, j ≠ 38 → j ≠ 39 → v1 j = v j := fun j n1 n2 => by rw [e2 j n1 n2, va_up_ne _ _ n2, va_up_ne _ _ n1]
  have cx : ∀ y, zr_ctx S (va_up v1 40 y) a b n m p size := fun y => zr_ctx_up hx (by rw [va_up_ne _ _ (by decide), fr1 _ (by decide) (by decide)]) (by rw [va_up_ne _ _ (by decide), fr1 _ (by decide) (by decide)]) (by rw [va_up_ne _ _ (by decide), fr1 _ (by decide) (by decide)])
  have hw := zq_w_ok (zq_sc (zr_ln S a) n (zr_ln S b) m p size) (m + 1 - size)
  unfold zg_X10_looks
  dsimp only
  rw [zo_s, zo_s, zr_wp _ _ (by decide), zr_wp _ _ (by decide), show (0 : Int32) = nI 0 by decide, e1, zo_s, zr_wg _ _ (by decide), e4]
  cases hwk : zq_w (zq_sc (zr_ln S a) n (zr_ln S b) m p size) (m + 1 - size) with
  | none =>
    rw [hwk] at hw e3 e4
    have hw : m + 1 - size = 0 := hw
    rw [if_pos (show zq_w1 none = -1 from rfl), if_neg (by decide), zo_s, zr_wp _ _ (by decide)]
    have e5 : zg_X10_looks_L74 (nI b) 2000 (zr_w S (va_up v1 40 (nI 0))) (nI 0) = some (zr_w S (va_up v1 40 (nI 0))) := by
      unfold zg_X10_looks_L74
      obtain ⟨p1, p2, p3, p4, p5, p6, p7, p8, p9, p10, p11, p12, p13⟩ := cx (nI 0)
      rw [zr_placesOn p2 p4 p6 p8 p9 p10 (by omega), zo_s, if_pos (nI_le (by omega) (by omega))]
    rw [e5, zo_s]
    refine ⟨_, rfl, fun j n1 n2 n3 => by rw [va_up_ne _ _ n3]; exact fr1 j n1 n2, ?_, ?_, Or.inl (va_up_self _ _ _), ?_⟩
    · rw [va_up_ne _ _ (by decide)]; exact e3
    · rw [va_up_ne _ _ (by decide)]; exact e4
    · rw [va_up_self]
      exact ⟨fun z => absurd z (by decide), fun z => z.elim⟩
  | some x =>
    have hcl := zq_clear_iff (margin := margin) hwk
    rw [hwk] at hw e3 e4
    obtain ⟨w1, w2, w3, w4⟩ := hw
    rw [if_neg (show ¬ zq_w1 (some x) = -1 from za_ne _ (by omega)), if_neg (by decide), zo_s, zr_wp _ _ (by decide)]
    obtain ⟨v2, f1, f2, f3, f4⟩ := zr_look2 (x := x) hmg hmg2 w1 w2 w3 (m + 1 - size) 2000 0 (va_up v1 40 1) (cx 1) (by omega) (by omega) (by rw [va_up_ne _ _ (by decide)]; exact e3) (by rw [va_up_ne _ _ (by decide)]; exact e4) (Or.inr (va_up_self _ _ _)) (by
      rw [va_up_self]
      exact ⟨fun _ s hs => absurd hs (Nat.not_lt_zero s), fun _ => rfl⟩)
    rw [f1, zo_s]
    refine ⟨v2, rfl, fun j n1 n2 n3 => by rw [f2 j n3, va_up_ne _ _ n3]; exact fr1 j n1 n2, ?_, ?_, f3, ?_⟩
    · rw [f2 _ (by decide), va_up_ne _ _ (by decide)]; exact e3
    · rw [f2 _ (by decide), va_up_ne _ _ (by decide)]; exact e4
    · rw [f4, hcl, w2]
