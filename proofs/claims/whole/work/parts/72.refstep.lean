/-! a step of a remark: pure, the reference's, the class's -/
def zq_cl (margin : Nat) (o : Option (Nat × Nat × Option Nat)) : Bool := match o with
  | none => false
  | some x => match x.2.2 with
    | none => true
    | some r => decide (r + margin ≤ x.2.1)
theorem zq_cl_iff (margin : Nat) (o : Option (Nat × Nat × Option Nat)) : zq_cl margin o = true ↔ zq_clear margin o := by
  cases o with
  | none => exact ⟨fun z => (by cases z), fun z => z.elim⟩
  | some x =>
    obtain ⟨b, g, r⟩ := x
    cases r with
    | none => exact ⟨fun _ => trivial, fun _ => rfl⟩
    | some r => exact decide_eq_true_iff
/-- a remark as it is put: its span, how, the last revision where it wasn't lost, its span there -/
abbrev zq_T : Type := Option (Nat × Nat) × Nat × Nat × Nat × Nat
def zq_best (ln : Nat → Nat → Int64) (cnt : Nat → Nat) (b : Nat) (T : zq_T) : Option (Nat × Nat × Option Nat) := zq_w (zq_sc (ln T.2.2.1) (cnt T.2.2.1) (ln b) (cnt b) T.2.2.2.1 (T.2.2.2.2 + 1 - T.2.2.2.1)) (cnt b + 1 - (T.2.2.2.2 + 1 - T.2.2.2.1))
def zq_lost (need margin b : Nat) (T : zq_T) (o : Option (Nat × Nat × Option Nat)) : zq_T := match o with
  | none => (none, 3, T.2.2.1, T.2.2.2.1, T.2.2.2.2)
  | some x => if zq_cl margin (some x) = true ∧ need ≤ x.2.1 then (some (x.1, x.1 + T.2.2.2.2 - T.2.2.2.1), 2, b, x.1, x.1 + T.2.2.2.2 - T.2.2.2.1) else (none, 3, T.2.2.1, T.2.2.2.1, T.2.2.2.2)
def zq_goT (cnt : Nat → Nat) (co : Nat → Nat → Int32) (kind a b : Nat) (T : zq_T) : Option (Nat × Nat) := match T.1 with
  | none => none
  | some x => zq_go (co b) (cnt b) kind a x.1 x.2
def zq_step (ln : Nat → Nat → Int64) (cnt : Nat → Nat) (co : Nat → Nat → Int32) (need margin kind a b : Nat) (T : zq_T) : zq_T := match zq_goT cnt co kind a b T with
  | some y => (some y, 1, b, y.1, y.2)
  | none => zq_lost need margin b T (zq_best ln cnt b T)
/-- what is told of a remark as it is put -/
def zq_Tok (cnt : Nat → Nat) (T : zq_T) : Prop := T.2.2.2.1 ≤ T.2.2.2.2 ∧ T.2.2.2.2 < cnt T.2.2.1 ∧ match T.1 with
  | none => T.2.1 = 3
  | some x => T.2.1 < 3 ∧ x.1 = T.2.2.2.1 ∧ x.2 = T.2.2.2.2
theorem zq_step_ok {ln : Nat → Nat → Int64} {cnt : Nat → Nat} {co : Nat → Nat → Int32} {need margin kind a b : Nat} {T : zq_T} (hT : zq_Tok cnt T) (hc : ∀ r, cnt r ≤ 24) (hco : zq_pl (cnt b) (co b)) : zq_Tok cnt (zq_step ln cnt co need margin kind a b T) ∧ ((zq_step ln cnt co need margin kind a b T).1 ≠ none → (zq_step ln cnt co need margin kind a b T).2.2.1 = b) ∧ ((zq_step ln cnt co need margin kind a b T).1 = none → (zq_step ln cnt co need margin kind a b T).2.2 = T.2.2) := by
  obtain ⟨sp, how, la, lp, lq⟩ := T
  obtain ⟨h1, h2, h3⟩ := hT
  dsimp only at h1 h2 h3
  have hla := hc la
  unfold zq_step
  cases hg : zq_goT cnt co kind a b (sp, how, la, lp, lq) with
  | some y =>
    have hy : y.1 ≤ y.2 ∧ y.2 < cnt b := by
      unfold zq_goT at hg
      cases sp with
      | none => cases hg
      | some x =>
        dsimp only at hg h3
        exact zq_gook hco (by omega) (by omega) hg
    exact ⟨⟨hy.1, hy.2, by show (1 : Nat) < 3; decide, rfl, rfl⟩, fun _ => rfl, fun z => (by cases z)⟩
  | none =>
    dsimp only
    unfold zq_lost zq_best
    have hw := zq_w_ok (zq_sc (ln la) (cnt la) (ln b) (cnt b) lp (lq + 1 - lp)) (cnt b + 1 - (lq + 1 - lp))
    dsimp only
    cases hb : zq_w (zq_sc (ln la) (cnt la) (ln b) (cnt b) lp (lq + 1 - lp)) (cnt b + 1 - (lq + 1 - lp)) with
    | none => exact ⟨⟨h1, h2, rfl⟩, fun z => absurd rfl z, fun _ => rfl⟩
    | some x =>
      rw [hb] at hw
      have hw := hw.1
      dsimp only
      split
      · exact ⟨⟨by dsimp only; omega, by dsimp only; omega, by show (2 : Nat) < 3; decide, rfl, rfl⟩, fun _ => rfl, fun z => (by cases z)⟩
      · exact ⟨⟨h1, h2, rfl⟩, fun z => absurd rfl z, fun _ => rfl⟩
/-- the reference's ints for it -/
def zr_T (v : Nat → Int32) (T : zq_T) : Prop := v 33 = nI T.2.1 ∧ v 34 = nI T.2.2.1 ∧ v 35 = nI T.2.2.2.1 ∧ v 36 = nI T.2.2.2.2 ∧ match T.1 with
  | none => v 31 = -1 ∧ v 32 = -1
  | some x => v 31 = nI x.1 ∧ v 32 = nI x.2
/-- what is told of the reference's lines and places -/
def zr_doc (S : zm_S) (N : Nat) (cnt : Nat → Nat) (need margin : Nat) : Prop := N ≤ 16 ∧ (∀ r, cnt r ≤ 24) ∧ (∀ r, r < N → S.2.1 2 r = nI (cnt r) ∧ ∀ i, i < cnt r → zr_ln S r i ≠ 0) ∧ S.2.1 7 1 = nI need ∧ S.2.1 7 2 = nI margin ∧ need ≤ 99 ∧ margin ≤ 20
abbrev zr_co (S : zm_S) : Nat → Nat → Int32 := fun b i => S.2.1 4 (24 * b + i)
theorem zr_step {S : zm_S} {N need margin kind a b : Nat} {cnt : Nat → Nat} {v : Nat → Int32} {T : zq_T} (hd : zr_doc S N cnt need margin) (hv : zr_T v T) (hT : zq_Tok cnt T) (hla : T.2.2.1 < N) (hb : b < N) (hco : zq_pl (cnt b) (zr_co S b)) (hk : kind < 7) (ha : a ≤ 9) : ∃ v2, zg_X10_steps (zr_w S v) (nI kind) (nI a) (nI b) = some (zr_w S v2) ∧ zr_T v2 (zq_step (zr_ln S) cnt (zr_co S) need margin kind a b T) := by
  obtain ⟨hN, hc, hl, hn1, hn2, hn3, hn4⟩ := hd
  obtain ⟨sp, how, la, lp, lq⟩ := T
  obtain ⟨h1, h2, h3⟩ := hT
  obtain ⟨g1, g2, g3, g4, g5⟩ := hv
  dsimp only at h1 h2 h3 g1 g2 g3 g4 g5 hla
  have cla := hc la
  have cb := hc b
  have e36 : lq = lp + (lq + 1 - lp) - 1 := by omega
  -- the last part: how is known
  have fin3 : ∀ v0 : Nat → Int32, v0 33 = 3 → v0 34 = nI la → v0 35 = nI lp → v0 36 = nI lq → zr_T (va_up (va_up v0 31 (-1)) 32 (-1)) (none, 3, la, lp, lq) := by
    intro v0 k1 k2 k3 k4
    refine ⟨?_, ?_, ?_, ?_, ?_, ?_⟩
    · rw [va_up_ne _ _ (by decide), va_up_ne _ _ (by decide), k1]; rfl
    · rw [va_up_ne _ _ (by decide), va_up_ne _ _ (by decide), k2]
    · rw [va_up_ne _ _ (by decide), va_up_ne _ _ (by decide), k3]
    · rw [va_up_ne _ _ (by decide), va_up_ne _ _ (by decide), k4]
    · rw [va_up_ne _ _ (by decide), va_up_self]
    · rw [va_up_self]
  have finG : ∀ (v0 : Nat → Int32) (hw p q : Nat), v0 33 = nI hw → v0 31 = nI p → v0 32 = nI q → zr_T (va_up (va_up (va_up v0 34 (nI b)) 35 (nI p)) 36 (nI q)) (some (p, q), hw, b, p, q) := by
    intro v0 hw p q k1 k2 k3
    refine ⟨?_, ?_, ?_, ?_, ?_, ?_⟩
    · rw [va_up_ne _ _ (by decide), va_up_ne _ _ (by decide), va_up_ne _ _ (by decide), k1]
    · rw [va_up_ne _ _ (by decide), va_up_ne _ _ (by decide), va_up_self]
    · rw [va_up_ne _ _ (by decide), va_up_self]
    · rw [va_up_self]
    · rw [va_up_ne _ _ (by decide), va_up_ne _ _ (by decide), va_up_ne _ _ (by decide), k2]
    · rw [va_up_ne _ _ (by decide), va_up_ne _ _ (by decide), va_up_ne _ _ (by decide), k3]
  -- where it is looked for
  have look : ∀ v1 : Nat → Int32, v1 34 = nI la → v1 35 = nI lp → v1 36 = nI lq → ∃ v2, ((zg_X10_looks (zr_w S v1) (nI b)).bind fun r16 => if (r16.1 40) = 0 then (some (zg_p r16 33 3)).bind fun h20 => (if (h20.1 33) = 3 then (some (zg_p h20 31 (-1))).bind fun h14 => (some (zg_p h14 32 (-1))).bind fun h15 => some h15 else (some (zg_p h20 34 (nI b))).bind fun h7 => (some (zg_p h7 35 (h7.1 31))).bind fun h10 => (some (zg_p h10 36 (h10.1 32))).bind fun h13 => some h13) else (zg_ai 3 (r16.2.1 7) 1).bind fun v26 => if (r16.1 39) < v26 then (some (zg_p r16 33 3)).bind fun h20 => (if (h20.1 33) = 3 then (some (zg_p h20 31 (-1))).bind fun h14 => (some (zg_p h14 32 (-1))).bind fun h15 => some h15 else (some (zg_p h20 34 (nI b))).bind fun h7 => (some (zg_p h7 35 (h7.1 31))).bind fun h10 => (some (zg_p h10 36 (h10.1 32))).bind fun h13 => some h13) else (some (zg_p r16 33 2)).bind fun h28 => (some (zg_p h28 31 (h28.1 38))).bind fun h31 => (some (zg_p h31 32 (((h31.1 38) + (h31.1 36)) - (h31.1 35)))).bind fun h38 => (if (h38.1 33) = 3 then (some (zg_p h38 31 (-1))).bind fun h14 => (some (zg_p h14 32 (-1))).bind fun h15 => some h15 else (some (zg_p h38 34 (nI b))).bind fun h7 => (some (zg_p h7 35 (h7.1 31))).bind fun h10 => (some (zg_p h10 36 (h10.1 32))).bind fun h13 => some h13)) = some (zr_w S v2) ∧ zr_T v2 (zq_lost need margin b (sp, how, la, lp, lq) (zq_best (zr_ln S) cnt b (sp, how, la, lp, lq))) := by
    intro v1 k1 k2 k3
    obtain ⟨v2, f1, f2, f3, f4, f5, f6⟩ := zr_looks (S := S) (v := v1) (a := la) (b := b) (n := cnt la) (m := cnt b) (p := lp) (size := lq + 1 - lp) (margin := margin) ⟨by omega, by omega, (hl la hla).1, (hl b hb).1, cla, cb, k1, k2, by rw [k3]; congr 1, by omega, by omega, (hl la hla).2, (hl b hb).2⟩ hn2 hn4
    have hwk := zq_w_ok (zq_sc (zr_ln S la) (cnt la) (zr_ln S b) (cnt b) lp (lq + 1 - lp)) (cnt b + 1 - (lq + 1 - lp))
    have hle := zq_w_le (k := cnt b + 1 - (lq + 1 - lp)) (N := 3 * 26) (sc := zq_sc (zr_ln S la) (cnt la) (zr_ln S b) (cnt b) lp (lq + 1 - lp)) (fun s => Nat.le_trans (zq_sc_le _ _ _ _ _ _ _) (by omega))
    rw [f1, zo_s]
    unfold zq_best
    dsimp only
    have lost : ∃ v3, ((some (zg_p (zr_w S v2) 33 3)).bind fun h20 => (if (h20.1 33) = 3 then (some (zg_p h20 31 (-1))).bind fun h14 => (some (zg_p h14 32 (-1))).bind fun h15 => some h15 else (some (zg_p h20 34 (nI b))).bind fun h7 => (some (zg_p h7 35 (h7.1 31))).bind fun h10 => (some (zg_p h10 36 (h10.1 32))).bind fun h13 => some h13)) = some (zr_w S v3) ∧ zr_T v3 (none, 3, la, lp, lq) := by
      rw [zo_s, zr_wp _ _ (by decide), zr_wg _ _ (by decide), va_up_self, if_pos rfl, zo_s, zo_s, zr_wp _ _ (by decide), zr_wp _ _ (by decide)]
      refine ⟨_, rfl, fin3 _ ?_ ?_ ?_ ?_⟩
      · rw [va_up_self]
      · rw [va_up_ne _ _ (by decide), f2 _ (by decide) (by decide) (by decide), k1]
      · rw [va_up_ne _ _ (by decide), f2 _ (by decide) (by decide) (by decide), k2]
      · rw [va_up_ne _ _ (by decide), f2 _ (by decide) (by decide) (by decide), k3]
    rw [zr_wg _ _ (by decide), zr_wg _ _ (by decide), f3]
    revert hwk hle f3 f4 f6
    cases zq_w (zq_sc (zr_ln S la) (cnt la) (zr_ln S b) (cnt b) lp (lq + 1 - lp)) (cnt b + 1 - (lq + 1 - lp)) with
    | none =>
      intro f3 f4 f6 hwk hle
      have e40 : v2 40 = 0 := f5.resolve_right (fun z => f6.mp z)
      rw [if_pos e40]
      exact lost
    | some x =>
      intro f3 f4 f6 hwk hle
      obtain ⟨w1, w2, w3⟩ := hle
      have hx := hwk.1
      unfold zq_lost
      dsimp only
      by_cases c1 : v2 40 = 0
      · rw [if_pos c1, if_neg (fun z => by
          have := f6.mpr ((zq_cl_iff _ _).mp z.1)
          rw [c1] at this
          exact absurd this (by decide))]
        exact lost
      rw [if_neg c1, zr_w2, show zg_ai 3 (S.2.1 7) 1 = some (S.2.1 7 1) from za_ai (n := 3) (i := 1) (by decide) (by decide), zo_s, hn1]
      have hclr := (zq_cl_iff _ _).mpr (f6.mp (f5.resolve_left c1))
      by_cases c2 : need ≤ x.2.1
      · rw [if_neg (show ¬ zq_w2 (some x) < nI need from nI_nlt c2 (by omega)), if_pos ⟨hclr, c2⟩, zo_s, zr_wp _ _ (by decide), zo_s, zr_wg _ _ (by decide), zr_wp _ _ (by decide), zo_s, zr_wg _ _ (by decide), zr_wg _ _ (by decide), zr_wg _ _ (by decide), zr_wp _ _ (by decide), zr_wg _ _ (by decide)]
        have q33 : ∀ y z : Int32, va_up (va_up (va_up v2 33 2) 31 y) 32 z 33 = 2 := fun y z => by rw [va_up_ne _ _ (by decide), va_up_ne _ _ (by decide), va_up_self]
        have q38 : va_up v2 33 2 38 = nI x.1 := by rw [va_up_ne _ _ (by decide), f4]; rfl
        have r38 : ∀ y, va_up (va_up v2 33 2) 31 y 38 = nI x.1 := fun y => by rw [va_up_ne _ _ (by decide), q38]
        have r36 : ∀ y, va_up (va_up v2 33 2) 31 y 36 = nI lq := fun y => by rw [va_up_ne _ _ (by decide), va_up_ne _ _ (by decide), f2 _ (by decide) (by decide) (by decide), k3]
        have r35 : ∀ y, va_up (va_up v2 33 2) 31 y 35 = nI lp := fun y => by rw [va_up_ne _ _ (by decide), va_up_ne _ _ (by decide), f2 _ (by decide) (by decide) (by decide), k2]
        rw [q33, if_neg (by decide), zo_s, zr_wp _ _ (by decide), zo_s, zr_wg _ _ (by decide), zr_wp _ _ (by decide), zo_s, zr_wg _ _ (by decide), zr_wp _ _ (by decide), q38, r38, r36, r35, za_add, za_sub (show lp ≤ x.1 + lq by omega)]
        refine ⟨_, rfl, ?_⟩
        have m31 : ∀ (u : Nat → Int32) (y z w : Int32), va_up (va_up (va_up u 31 y) 32 z) 34 w 31 = y := fun u y z w => by rw [va_up_ne _ _ (by decide), va_up_ne _ _ (by decide), va_up_self]
        have m32 : ∀ (u : Nat → Int32) (y z w t : Int32), va_up (va_up (va_up (va_up u 31 y) 32 z) 34 w) 35 t 32 = z := fun u y z w t => by rw [va_up_ne _ _ (by decide), va_up_ne _ _ (by decide), va_up_self]
        rw [m31, m32]
        refine finG _ 2 _ _ (q33 _ _) ?_ ?_
        · rw [va_up_ne _ _ (by decide), va_up_self]
        · rw [va_up_self]
      · rw [if_pos (show zq_w2 (some x) < nI need from nI_lt (by omega) (by omega)), if_neg (fun z => c2 z.2)]
        exact lost
  unfold zg_X10_steps
  dsimp only
  rw [zr_wg S v (by decide), g1]
  unfold zq_step zq_goT
  cases sp with
  | none =>
    dsimp only at h3 ⊢
    rw [if_pos (by rw [h3]; rfl)]
    exact look v g2 g3 g4
  | some x =>
    dsimp only at h3 g5 ⊢
    rw [if_neg (show ¬ nI how = 3 from fun z => (show ¬ how = 3 by omega) ((za_eq (b := 3) (by omega) (by omega)).mp z))]
    obtain ⟨v1, f, f1, f2, f3⟩ := zr_goes (S := S) (v := v) (c := zr_co S b) (nb := cnt b) (a := a) (show b < 16 by omega) (fun i _ => rfl) hco (hl b hb).1 hk ha (show x.1 ≤ x.2 by omega) (by omega) g5.1 g5.2
    rw [f1, zo_s]
    dsimp only
    cases hg : zq_go (zr_co S b) (cnt b) kind a x.1 x.2 with
    | none =>
      rw [hg] at f3
      rw [if_pos f3]
      exact look v1 (by rw [f2 _ (by decide) (by decide), g2]) (by rw [f2 _ (by decide) (by decide), g3]) (by rw [f2 _ (by decide) (by decide), g4])
    | some y =>
      rw [hg] at f3
      obtain ⟨f4, f5, f6⟩ := f3
      rw [if_neg (by rw [f4]; decide), zo_s, zr_wp _ _ (by decide), zr_wg _ _ (by decide), va_up_self, if_neg (by decide), zo_s, zr_wp _ _ (by decide), zo_s, zr_wg _ _ (by decide), zr_wp _ _ (by decide), zo_s, zr_wg _ _ (by decide), zr_wp _ _ (by decide)]
      refine ⟨_, rfl, ?_⟩
      have m31 : va_up (va_up v1 33 1) 34 (nI b) 31 = nI y.1 := by rw [va_up_ne _ _ (by decide), va_up_ne _ _ (by decide), f5]
      have m32 : ∀ t, va_up (va_up (va_up v1 33 1) 34 (nI b)) 35 t 32 = nI y.2 := fun t => by rw [va_up_ne _ _ (by decide), va_up_ne _ _ (by decide), va_up_ne _ _ (by decide), f6]
      rw [m31, m32]
      refine finG _ 1 y.1 y.2 (va_up_self _ _ _) ?_ ?_
      · rw [va_up_ne _ _ (by decide), f5]
      · rw [va_up_ne _ _ (by decide), f6]
