/-! following: the class's by kinds -/
theorem zq_Fnat {nb : Nat} {c : Nat → Int32} {p q : Nat} (hc : zq_pl nb c) (hp : p ≤ 24) (hq : q < 24) (h : ¬ (zq_F c p q).2.2 = 0) : ∃ l m, l ≤ m ∧ m < nb ∧ (zq_F c p q).1.toNatClampNeg = l ∧ (zq_F c p q).2.1.toNatClampNeg = m ∧ (zq_F c p q).1 = nI l ∧ (zq_F c p q).2.1 = nI m := by
  have hnb := hc.1
  rcases zq_Fok (p := p) (q := q) hc hp hq with ⟨b1, b2, b3⟩ | ⟨b1, l, m, b2, b3, b4, b5⟩
  · exact absurd b1 h
  · exact ⟨l, m, b2, b3, by rw [b4, nI_clamp (by omega)], by rw [b5, nI_clamp (by omega)], b4, b5⟩
theorem zo_it1 {α : Type} {p : Prop} {_ : Decidable p} {x y : α} (h : (if p then some x else none) = some y) : x = y := by
  by_cases hp : p
  · rw [if_pos hp] at h; exact Option.some.inj h
  · rw [if_neg hp] at h; cases h
theorem zq_gook {nb : Nat} {c : Nat → Int32} {kind a p q : Nat} {x : Nat × Nat} (hc : zq_pl nb c) (hpq : p ≤ q) (hq : q < 24) (h : zq_go c nb kind a p q = some x) : x.1 ≤ x.2 ∧ x.2 < nb := by
  have hnb := hc.1
  have hF := fun z => zq_Fnat (p := p) (q := q) hc (by omega) hq z
  have hN := zq_nearok hc p (by omega)
  unfold zq_go at h
  split at h
  · split at h
    · cases h
    · rename_i e
      obtain ⟨j, hj, ej⟩ := (hc.2 p (by omega)).resolve_left e
      cases h
      dsimp only
      rw [ej, nI_clamp (by omega)]
      omega
  split at h
  · split at h
    · cases h
    · rename_i e
      obtain ⟨j, hj, ej⟩ := hN.resolve_left e
      cases h
      dsimp only
      rw [ej, nI_clamp (by omega)]
      omega
  split at h
  · split at h
    · cases h
    · rename_i e
      obtain ⟨j, hj, ej⟩ := hN.resolve_left e
      cases h
      dsimp only
      rw [ej, nI_clamp (by omega)]
      omega
  split at h
  · cases h
  rename_i e
  obtain ⟨l, m, h1, h2, h3, h4, h5, h6⟩ := hF e
  rw [h3, h4] at h
  split at h
  · split at h
    · cases h
    · cases h
      exact ⟨h1, h2⟩
  split at h
  · have h := zo_it1 h
    subst h
    exact ⟨h1, h2⟩
  · cases h
    exact ⟨h1, h2⟩
theorem zk_whole {h : zc_H} {b nb : Nat} {c : Nat → Int32} {p q a : Nat} (hp : zk_pl h b c) (hc : zq_pl nb c) (hpq : p ≤ q) (hq : q < 24) (ha : a ≤ 9) : zf_X3_whole h (nI p) (nI q) (some b) (nI a) = some (zq_sp (if (zq_F c p q).2.2 = q + 1 - p ∧ (zq_F c p q).2.1.toNatClampNeg + 1 - (zq_F c p q).1.toNatClampNeg ≤ q + 1 - p + a then some ((zq_F c p q).1.toNatClampNeg, (zq_F c p q).2.1.toNatClampNeg) else none)) := by
  have hn := zq_Fn (c := c) (p := p) (q := q)
  have hnb := hc.1
  unfold zf_X3_whole
  rw [zo_s, zk_placed hp (by omega) hq, zo_s, za_sub hpq, ← nI_succ]
  by_cases e : (zq_F c p q).2.2 = q + 1 - p
  · obtain ⟨l, m, h1, h2, h3, h4, h5, h6⟩ := zq_Fnat hc (by omega) hq (show ¬ (zq_F c p q).2.2 = 0 by omega)
    rw [if_pos (nI_le (by omega) (by omega)), zk_spread hp hc (by omega) hq, zo_s, if_neg (by omega), h3, h4]
    change (zf_X9_lengthOf h (nI (32 * l + m))).bind _ = _
    rw [zs_len h1 (by omega), zo_s, za_add]
    by_cases e2 : m + 1 - l ≤ q + 1 - p + a
    · rw [if_pos (nI_le (by omega) (by omega)), if_pos ⟨e, e2⟩]
    · rw [if_neg (nI_ge (by omega) (by omega)), if_neg (fun z => e2 z.2)]
      rfl
  · rw [if_neg (nI_ge (by omega) (by omega)), if_neg (fun z => e z.1)]
    rfl
theorem zq_go1 {c : Nat → Int32} {nb a p q : Nat} : zq_go c nb 1 a p q = if c p = -1 then none else some ((c p).toNatClampNeg, (c p).toNatClampNeg) := rfl
theorem zq_go3 {c : Nat → Int32} {nb a p q : Nat} : zq_go c nb 3 a p q = if zq_near c p = -1 then none else some ((zq_near c p).toNatClampNeg, (zq_near c p).toNatClampNeg) := rfl
theorem zq_go6 {c : Nat → Int32} {nb a p q : Nat} : zq_go c nb 6 a p q = if zq_near c p = -1 then none else some ((zq_near c p).toNatClampNeg, nb - 1) := rfl
theorem zq_go4 {c : Nat → Int32} {nb a p q : Nat} : zq_go c nb 4 a p q = if (zq_F c p q).2.2 = 0 then none else if 10 * (zq_F c p q).2.2 < a * (q + 1 - p) then none else some ((zq_F c p q).1.toNatClampNeg, (zq_F c p q).2.1.toNatClampNeg) := rfl
theorem zq_go2 {c : Nat → Int32} {nb a p q : Nat} : zq_go c nb 2 a p q = if (zq_F c p q).2.2 = 0 then none else if (zq_F c p q).2.2 = q + 1 - p ∧ (zq_F c p q).2.1.toNatClampNeg + 1 - (zq_F c p q).1.toNatClampNeg ≤ q + 1 - p + 0 then some ((zq_F c p q).1.toNatClampNeg, (zq_F c p q).2.1.toNatClampNeg) else none := rfl
theorem zq_go5 {c : Nat → Int32} {nb a p q : Nat} : zq_go c nb 5 a p q = if (zq_F c p q).2.2 = 0 then none else if (zq_F c p q).2.2 = q + 1 - p ∧ (zq_F c p q).2.1.toNatClampNeg + 1 - (zq_F c p q).1.toNatClampNeg ≤ q + 1 - p + a then some ((zq_F c p q).1.toNatClampNeg, (zq_F c p q).2.1.toNatClampNeg) else none := rfl
theorem zq_go0 {c : Nat → Int32} {nb a p q : Nat} : zq_go c nb 0 a p q = if (zq_F c p q).2.2 = 0 then none else some ((zq_F c p q).1.toNatClampNeg, (zq_F c p q).2.1.toNatClampNeg) := rfl
theorem zk_fol1 {h : zc_H} {b lb nb rm : Nat} {g : Nat → Int64} {c : Nat → Int32} {a p q : Nat} {vs : List Value} (hr : h.1 rm = some (.inr (3, vs))) (ha : vs[2]? = some (.int (nI a))) (hp : zk_pl h b c) (RB : zk_rv h b lb nb g) (hc : zq_pl nb c) (ha9 : a ≤ 9) (hpq : p ≤ q) (hq : q < 24) : zf_X3_followed h rm 1 (nI p) (nI q) (some b) = some (zq_sp (zq_go c nb 1 a p q)) := by
  have hn := zq_Fn (c := c) (p := p) (q := q)
  have hnb := hc.1
  unfold zf_X3_followed
  rw [if_neg (zb_is hr), if_pos rfl, zq_go1]
  rw [zo_s, zk_spread hp hc (by omega) (by omega), zo_s]
  unfold zq_F
  rw [show p + 1 - p = 0 + 1 by omega]
  unfold zq_fold zq_fold
  by_cases e : c p = -1
  · rw [if_pos e, if_pos e]
    rfl
  · rw [if_neg e, if_neg e]
    obtain ⟨j, hj, ej⟩ := (hc.2 p (by omega)).resolve_left e
    dsimp only
    rw [if_neg (by omega), if_pos rfl, ej, if_pos (zq_m1lt (by omega))]
theorem zk_fol2 {h : zc_H} {b lb nb rm : Nat} {g : Nat → Int64} {c : Nat → Int32} {a p q : Nat} {vs : List Value} (hr : h.1 rm = some (.inr (3, vs))) (ha : vs[2]? = some (.int (nI a))) (hp : zk_pl h b c) (RB : zk_rv h b lb nb g) (hc : zq_pl nb c) (ha9 : a ≤ 9) (hpq : p ≤ q) (hq : q < 24) : zf_X3_followed h rm 2 (nI p) (nI q) (some b) = some (zq_sp (zq_go c nb 2 a p q)) := by
  have hn := zq_Fn (c := c) (p := p) (q := q)
  have hnb := hc.1
  unfold zf_X3_followed
  rw [if_neg (zb_is hr), if_neg (by decide), if_pos rfl, zq_go2]
  rw [show (0 : Int32) = nI 0 by decide, zk_whole hp hc hpq hq (by omega), zo_s]
  by_cases e : (zq_F c p q).2.2 = 0
  · rw [if_pos e, if_neg (by omega)]
  · rw [if_neg e]
theorem zk_fol3 {h : zc_H} {b lb nb rm : Nat} {g : Nat → Int64} {c : Nat → Int32} {a p q : Nat} {vs : List Value} (hr : h.1 rm = some (.inr (3, vs))) (ha : vs[2]? = some (.int (nI a))) (hp : zk_pl h b c) (RB : zk_rv h b lb nb g) (hc : zq_pl nb c) (ha9 : a ≤ 9) (hpq : p ≤ q) (hq : q < 24) : zf_X3_followed h rm 3 (nI p) (nI q) (some b) = some (zq_sp (zq_go c nb 3 a p q)) := by
  have hn := zq_Fn (c := c) (p := p) (q := q)
  have hnb := hc.1
  unfold zf_X3_followed
  rw [if_neg (zb_is hr), if_neg (by decide), if_neg (by decide), if_pos rfl, zq_go3]
  rw [zk_near hp hc (by omega), zo_s]
theorem zk_fol4 {h : zc_H} {b lb nb rm : Nat} {g : Nat → Int64} {c : Nat → Int32} {a p q : Nat} {vs : List Value} (hr : h.1 rm = some (.inr (3, vs))) (ha : vs[2]? = some (.int (nI a))) (hp : zk_pl h b c) (RB : zk_rv h b lb nb g) (hc : zq_pl nb c) (ha9 : a ≤ 9) (hpq : p ≤ q) (hq : q < 24) : zf_X3_followed h rm 4 (nI p) (nI q) (some b) = some (zq_sp (zq_go c nb 4 a p q)) := by
  have hn := zq_Fn (c := c) (p := p) (q := q)
  have hnb := hc.1
  unfold zf_X3_followed
  rw [if_neg (zb_is hr), if_neg (by decide), if_neg (by decide), if_neg (by decide), if_pos rfl, zq_go4]
  rw [zo_s, zk_placed hp (by omega) hq, zo_s, zb_gi hr ha, zo_s, za_sub hpq, ← nI_succ, za_mul, show (10 : Int32) = nI 10 by decide, za_mul]
  have hb : a * (q - p + 1) ≤ 9 * 24 := Nat.mul_le_mul ha9 (by omega)
  rw [show q + 1 - p = q - p + 1 by omega]
  by_cases f : a * (q - p + 1) ≤ 10 * (zq_F c p q).2.2
  · rw [if_pos (nI_le f (by omega)), zk_spread hp hc (by omega) hq, zo_s]
    by_cases e : (zq_F c p q).2.2 = 0
    · rw [if_pos e, if_pos e]
    · rw [if_neg e, if_neg e, if_neg (by omega)]
  · rw [if_neg (nI_ge (by omega) (by omega))]
    by_cases e : (zq_F c p q).2.2 = 0
    · rw [if_pos e]
      rfl
    · rw [if_neg e, if_pos (by omega)]
      rfl
theorem zk_fol5 {h : zc_H} {b lb nb rm : Nat} {g : Nat → Int64} {c : Nat → Int32} {a p q : Nat} {vs : List Value} (hr : h.1 rm = some (.inr (3, vs))) (ha : vs[2]? = some (.int (nI a))) (hp : zk_pl h b c) (RB : zk_rv h b lb nb g) (hc : zq_pl nb c) (ha9 : a ≤ 9) (hpq : p ≤ q) (hq : q < 24) : zf_X3_followed h rm 5 (nI p) (nI q) (some b) = some (zq_sp (zq_go c nb 5 a p q)) := by
  have hn := zq_Fn (c := c) (p := p) (q := q)
  have hnb := hc.1
  unfold zf_X3_followed
  rw [if_neg (zb_is hr), if_neg (by decide), if_neg (by decide), if_neg (by decide), if_neg (by decide), if_pos rfl, zq_go5]
  rw [zb_gi hr ha, zo_s, zk_whole hp hc hpq hq ha9, zo_s]
  by_cases e : (zq_F c p q).2.2 = 0
  · rw [if_pos e, if_neg (by omega)]
  · rw [if_neg e]
theorem zk_fol6 {h : zc_H} {b lb nb rm : Nat} {g : Nat → Int64} {c : Nat → Int32} {a p q : Nat} {vs : List Value} (hr : h.1 rm = some (.inr (3, vs))) (ha : vs[2]? = some (.int (nI a))) (hp : zk_pl h b c) (RB : zk_rv h b lb nb g) (hc : zq_pl nb c) (ha9 : a ≤ 9) (hpq : p ≤ q) (hq : q < 24) : zf_X3_followed h rm 6 (nI p) (nI q) (some b) = some (zq_sp (zq_go c nb 6 a p q)) := by
  have hn := zq_Fn (c := c) (p := p) (q := q)
  have hnb := hc.1
  unfold zf_X3_followed
  rw [if_neg (zb_is hr), if_neg (by decide), if_neg (by decide), if_neg (by decide), if_neg (by decide), if_neg (by decide), if_pos rfl, zq_go6]
  rw [zk_near hp hc (by omega), zo_s]
  unfold zf_X3_toTheEnd
  by_cases e : zq_near c p = -1
  · rw [if_pos e, if_pos e]
    rfl
  · rw [if_neg e, if_neg e]
    obtain ⟨j, hj, ej⟩ := (zq_nearok hc p (by omega)).resolve_left e
    rw [ej, nI_clamp (by omega)]
    rw [show zq_sp (some (j, j)) = nI (32 * j + j) from rfl, if_neg (za_ne _ (by omega)), zs_first (by omega) (by omega), zo_s, zo_s, zk_count RB, zo_s, show nI nb - 1 = nI (nb - 1) from za_sub (show 1 ≤ nb by omega), zs_span, zo_s, zo_s]
    rfl
theorem zk_fol0 {h : zc_H} {b lb nb rm : Nat} {g : Nat → Int64} {c : Nat → Int32} {a p q : Nat} {vs : List Value} (hr : h.1 rm = some (.inr (3, vs))) (ha : vs[2]? = some (.int (nI a))) (hp : zk_pl h b c) (RB : zk_rv h b lb nb g) (hc : zq_pl nb c) (ha9 : a ≤ 9) (hpq : p ≤ q) (hq : q < 24) : zf_X3_followed h rm 0 (nI p) (nI q) (some b) = some (zq_sp (zq_go c nb 0 a p q)) := by
  have hn := zq_Fn (c := c) (p := p) (q := q)
  have hnb := hc.1
  unfold zf_X3_followed
  rw [if_neg (zb_is hr), if_neg (by decide), if_neg (by decide), if_neg (by decide), if_neg (by decide), if_neg (by decide), if_neg (by decide), zq_go0]
  rw [zo_s, zk_spread hp hc (by omega) hq, zo_s]
/-- the span to which a remark's span comes, by a kind -/
theorem zk_followed {kind : Nat} (hk : kind < 7) {h : zc_H} {b lb nb rm : Nat} {g : Nat → Int64} {c : Nat → Int32} {a p q : Nat} {vs : List Value} (hr : h.1 rm = some (.inr (3, vs))) (ha : vs[2]? = some (.int (nI a))) (hp : zk_pl h b c) (RB : zk_rv h b lb nb g) (hc : zq_pl nb c) (ha9 : a ≤ 9) (hpq : p ≤ q) (hq : q < 24) : zf_X3_followed h rm (nI kind) (nI p) (nI q) (some b) = some (zq_sp (zq_go c nb kind a p q)) := by
  match kind, hk with
  | 0, _ => exact zk_fol0 hr ha hp RB hc ha9 hpq hq
  | 1, _ => exact zk_fol1 hr ha hp RB hc ha9 hpq hq
  | 2, _ => exact zk_fol2 hr ha hp RB hc ha9 hpq hq
  | 3, _ => exact zk_fol3 hr ha hp RB hc ha9 hpq hq
  | 4, _ => exact zk_fol4 hr ha hp RB hc ha9 hpq hq
  | 5, _ => exact zk_fol5 hr ha hp RB hc ha9 hpq hq
  | 6, _ => exact zk_fol6 hr ha hp RB hc ha9 hpq hq
