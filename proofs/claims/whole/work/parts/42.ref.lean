/-! the reference over its own state -/
def zg_X10_fault (h : zm_S) : Option (Int32) :=
  some (h.1 12)
set_option maxHeartbeats 1000000 in
set_option maxRecDepth 100000 in
theorem zh_X10_fault (q : Nat) (h0 : zc_H) (S : zm_S)  : zf_X10_fault (zm_h q h0 S) q  = zg_X10_fault S  := by
  unfold zf_X10_fault zg_X10_fault
  simp only [zm_is, not_true_eq_false, if_false, zo_s, zo_m, zo_n0, zo_mi, zo_ms, zo_mb, zo_bm, zm_gi12]
def zg_X10_lines (h : zm_S) (x1 : Int32) : Option (zm_S × Int32) :=
  (zg_X10_isRevision h x1).bind fun r1 =>
  if r1 = 0 then
    (zg_X10_no h (-1)).bind fun r3 =>
    some (r3.1, r3.2)
  else
  (zg_ai 17 (h.2.1 2) x1).bind fun v7 =>
  some (h, v7)
set_option maxHeartbeats 1000000 in
set_option maxRecDepth 100000 in
theorem zh_X10_lines (q : Nat) (h0 : zc_H) (S : zm_S) (x1 : Int32) : zf_X10_lines (zm_h q h0 S) q x1 = (zg_X10_lines S x1).map (fun r => (zm_h q h0 r.1, r.2)) := by
  unfold zf_X10_lines zg_X10_lines
  simp only [zm_is, not_true_eq_false, if_false, zo_s, zo_m, zo_n0, zo_mi, zo_ms, zo_mb, zo_bm, zh_X10_isRevision, zh_X10_no, zm_a2, zm_gr2, zm_s2]
def zg_X10_letter (h : zm_S) (x1 : Int32) (x2 : Int32) (x3 : Int32) : Option (zm_S × Int32) :=
  (zg_X10_isRevision h x1).bind fun r1 =>
  if r1 = 0 then
    (zg_X10_no h (-1)).bind fun r13 =>
    some (r13.1, r13.2)
  else
  (zg_X10_isLine h x1 x2).bind fun r3 =>
  let k33 := fun (_ : Unit) =>
    (zg_X10_no h (-5)).bind fun r5 =>
    some (r5.1, r5.2)
  if r3 = 0 then
    k33 ()
  else
  (zg_X10_within h x3 0 8).bind fun r6 =>
  if r6 = 0 then
    k33 ()
  else
  if x3 = 8 then
    some (h, 0)
  else
  (zg_aj 408 (h.2.2 3) ((24 * x1) + x2)).bind fun v12 =>
  some (h, ((((((v12).toUInt64 >>> (((8 * x3) : Int32).toInt64.toUInt64 &&& Int64.toUInt64 63)).toInt64) &&& 255) : Int64).toInt32))
set_option maxHeartbeats 1000000 in
set_option maxRecDepth 100000 in
theorem zh_X10_letter (q : Nat) (h0 : zc_H) (S : zm_S) (x1 : Int32) (x2 : Int32) (x3 : Int32) : zf_X10_letter (zm_h q h0 S) q x1 x2 x3 = (zg_X10_letter S x1 x2 x3).map (fun r => (zm_h q h0 r.1, r.2)) := by
  unfold zf_X10_letter zg_X10_letter
  simp only [zm_is, not_true_eq_false, if_false, zo_s, zo_m, zo_n0, zo_mi, zo_ms, zo_mb, zo_bm, zh_X10_isLine, zh_X10_isRevision, zh_X10_no, zh_X10_within, zm_a3, zm_gr3, zm_s3]
def zg_X10_former (h : zm_S) (x1 : Int32) : Option (zm_S × Int32) :=
  (zg_X10_isRevision h x1).bind fun r1 =>
  if r1 = 0 then
    (zg_X10_no10 h (-1)).bind fun r3 =>
    some (r3.1, r3.2)
  else
  (zg_ai 16 (h.2.1 1) x1).bind fun v7 =>
  some (h, v7)
set_option maxHeartbeats 1000000 in
set_option maxRecDepth 100000 in
theorem zh_X10_former (q : Nat) (h0 : zc_H) (S : zm_S) (x1 : Int32) : zf_X10_former (zm_h q h0 S) q x1 = (zg_X10_former S x1).map (fun r => (zm_h q h0 r.1, r.2)) := by
  unfold zf_X10_former zg_X10_former
  simp only [zm_is, not_true_eq_false, if_false, zo_s, zo_m, zo_n0, zo_mi, zo_ms, zo_mb, zo_bm, zh_X10_isRevision, zh_X10_no10, zm_a1, zm_gr1, zm_s1]
def zg_X10_rule_L74 (y3 : Int32) : Nat → zm_S → Int32 → Option (zm_S)
  | 0, _, _ => none
  | n + 1, h, y4 =>
    if (h.1 0) ≤ y4 then
      some h
    else
    (zg_X10_learns h y4).bind fun r20 =>
    zg_X10_rule_L74 y3 n r20 (y4 + 1)
set_option maxHeartbeats 1000000 in
set_option maxRecDepth 100000 in
theorem zh_X10_rule_L74 (q : Nat) (h0 : zc_H) (y3 : Int32) : ∀ (n : Nat) (S : zm_S) (y4 : Int32), zf_X10_rule_L74 q y3 n (zm_h q h0 S) y4 = (zg_X10_rule_L74 y3 n S y4).map (zm_h q h0) := by
  intro n
  induction n with
  | zero => intro S y4; rfl
  | succ n ih =>
    intro S y4
    unfold zf_X10_rule_L74 zg_X10_rule_L74
    simp only [zm_is, not_true_eq_false, if_false, zo_s, zo_m, zo_n0, zo_mi, zo_ms, zo_mb, zo_bm, ih, zh_X10_learns, zm_gi0]
def zg_X10_rule (h : zm_S) (x1 : Int32) (x2 : Int32) : Option (zm_S × Int32) :=
  (zg_X10_within h x1 0 2).bind fun r1 =>
  let k46 := fun (_ : Unit) =>
    (zg_X10_no h (-6)).bind fun r3 =>
    some (r3.1, r3.2)
  if r1 = 0 then
    k46 ()
  else
  let k19 := fun (s19_0 : Int32) (s19_1 : Int32) =>
    let k40 := fun (s40_0 : Int32) (s40_1 : Int32) (s40_2 : Int32) =>
      (zg_X10_within h s40_2 s40_1 s40_0).bind fun r6 =>
      if r6 = 0 then
        k46 ()
      else
      (zg_ai 3 (h.2.1 7) x1).bind fun v11 =>
      (zg_si 7 3 h x1 x2).bind fun h15 =>
      if x1 = 0 then
        (zg_X10_rule_L74 v11 2000 h15 0).bind fun w21 =>
        some (w21, v11)
      else
      some (h15, v11)
    if x1 = 0 then
      k40 9 s19_0 s19_1
    else
    if x1 = 1 then
      k40 99 s19_0 s19_1
    else
    k40 20 s19_0 s19_1
  if x1 = 0 then
    k19 1 x2
  else
  k19 0 x2
set_option maxHeartbeats 1000000 in
set_option maxRecDepth 100000 in
theorem zh_X10_rule (q : Nat) (h0 : zc_H) (S : zm_S) (x1 : Int32) (x2 : Int32) : zf_X10_rule (zm_h q h0 S) q x1 x2 = (zg_X10_rule S x1 x2).map (fun r => (zm_h q h0 r.1, r.2)) := by
  unfold zf_X10_rule zg_X10_rule
  simp only [zm_is, not_true_eq_false, if_false, zo_s, zo_m, zo_n0, zo_mi, zo_ms, zo_mb, zo_bm, zh_X10_no, zh_X10_rule_L74, zh_X10_within, zm_a7, zm_gr7, zm_s7]
def zg_X10_place (h : zm_S) (x1 : Int32) (x2 : Int32) (x3 : Int32) : Option (zm_S × Int32) :=
  (zg_X10_isRevision h x1).bind fun r1 =>
  let k16 := fun (_ : Unit) =>
    (zg_X10_no10 h (-1)).bind fun r3 =>
    some (r3.1, r3.2)
  if r1 = 0 then
    k16 ()
  else
  (zg_X10_isRevision h x2).bind fun r4 =>
  if r4 = 0 then
    k16 ()
  else
  (zg_X10_isLine h x1 x3).bind fun r6 =>
  if r6 = 0 then
    (zg_X10_no10 h (-5)).bind fun r13 =>
    some (r13.1, r13.2)
  else
  (zg_X10_places h x1 x2).bind fun r8 =>
  (zg_ai 24 (r8.2.1 26) x3).bind fun v12 =>
  some (r8, v12)
set_option maxHeartbeats 1000000 in
set_option maxRecDepth 100000 in
theorem zh_X10_place (q : Nat) (h0 : zc_H) (S : zm_S) (x1 : Int32) (x2 : Int32) (x3 : Int32) : zf_X10_place (zm_h q h0 S) q x1 x2 x3 = (zg_X10_place S x1 x2 x3).map (fun r => (zm_h q h0 r.1, r.2)) := by
  unfold zf_X10_place zg_X10_place
  simp only [zm_is, not_true_eq_false, if_false, zo_s, zo_m, zo_n0, zo_mi, zo_ms, zo_mb, zo_bm, zh_X10_isLine, zh_X10_isRevision, zh_X10_no10, zh_X10_places, zm_a26, zm_gr26, zm_s26]
def zg_X10_matched (h : zm_S) (x1 : Int32) (x2 : Int32) (x3 : Int32) : Option (zm_S × Int32) :=
  (zg_X10_isRevision h x1).bind fun r1 =>
  let k16 := fun (_ : Unit) =>
    (zg_X10_no h (-1)).bind fun r3 =>
    some (r3.1, r3.2)
  if r1 = 0 then
    k16 ()
  else
  (zg_X10_isRevision h x2).bind fun r4 =>
  if r4 = 0 then
    k16 ()
  else
  (zg_X10_within h x3 0 1).bind fun r6 =>
  if r6 = 0 then
    (zg_X10_no h (-5)).bind fun r14 =>
    some (r14.1, r14.2)
  else
  (zg_X10_places h x1 x2).bind fun r8 =>
  if x3 = 0 then
    some (r8, (r8.1 28))
  else
  some (r8, (r8.1 29))
set_option maxHeartbeats 1000000 in
set_option maxRecDepth 100000 in
theorem zh_X10_matched (q : Nat) (h0 : zc_H) (S : zm_S) (x1 : Int32) (x2 : Int32) (x3 : Int32) : zf_X10_matched (zm_h q h0 S) q x1 x2 x3 = (zg_X10_matched S x1 x2 x3).map (fun r => (zm_h q h0 r.1, r.2)) := by
  unfold zf_X10_matched zg_X10_matched
  simp only [zm_is, not_true_eq_false, if_false, zo_s, zo_m, zo_n0, zo_mi, zo_ms, zo_mb, zo_bm, zh_X10_isRevision, zh_X10_no, zh_X10_places, zh_X10_within, zm_gi28, zm_gi29]
def zg_X10_behind_L5 (y2 : Int32) : Nat → zm_S → Int32 → Int32 → Option (zm_S × ((Unit) ⊕ (Int32)))
  | 0, _, _, _ => none
  | n + 1, h, y3, y4 =>
    if y4 = (-1) then
      some (h, (.inl ()))
    else
    (zg_si 30 16 h y3 y4).bind fun h5 =>
    if y4 = y2 then
      some (h5, (.inr y3))
    else
    (zg_ai 16 (h5.2.1 1) y4).bind fun v10 =>
    zg_X10_behind_L5 y2 n h5 (y3 + 1) v10
set_option maxHeartbeats 1000000 in
set_option maxRecDepth 100000 in
theorem zh_X10_behind_L5 (q : Nat) (h0 : zc_H) (y2 : Int32) : ∀ (n : Nat) (S : zm_S) (y3 : Int32) (y4 : Int32), zf_X10_behind_L5 q y2 n (zm_h q h0 S) y3 y4 = (zg_X10_behind_L5 y2 n S y3 y4).map (fun r => (zm_h q h0 r.1, r.2)) := by
  intro n
  induction n with
  | zero => intro S y3 y4; rfl
  | succ n ih =>
    intro S y3 y4
    unfold zf_X10_behind_L5 zg_X10_behind_L5
    simp only [zm_is, not_true_eq_false, if_false, zo_s, zo_m, zo_n0, zo_mi, zo_ms, zo_mb, zo_bm, ih, zm_a1, zm_a30, zm_gr1, zm_gr30, zm_s1, zm_s30]
def zg_X10_behind (h : zm_S) (x1 : Int32) (x2 : Int32) : Option (zm_S × Int32) :=
  (zg_X10_behind_L5 x2 2000 h 0 x1).bind fun w11 =>
  Sum.elim (fun t12 =>
    some (w11.1, (-1))
    ) (fun t13 =>
    some (w11.1, t13)
    ) w11.2
set_option maxHeartbeats 1000000 in
set_option maxRecDepth 100000 in
theorem zh_X10_behind (q : Nat) (h0 : zc_H) (S : zm_S) (x1 : Int32) (x2 : Int32) : zf_X10_behind (zm_h q h0 S) q x1 x2 = (zg_X10_behind S x1 x2).map (fun r => (zm_h q h0 r.1, r.2)) := by
  unfold zf_X10_behind zg_X10_behind
  simp only [zm_is, not_true_eq_false, if_false, zo_s, zo_m, zo_n0, zo_mi, zo_ms, zo_mb, zo_bm, zh_X10_behind_L5]
def zg_X10_through_L68 (h : zm_S) : Nat → Int32 → Int32 → Option (Int32)
  | 0, _, _ => none
  | n + 1, y5, y6 =>
    if y6 < 0 then
      some y5
    else
    if y5 = (-1) then
      some y5
    else
    (zg_ai 16 (h.2.1 30) y6).bind fun v17 =>
    (zg_ai 384 (h.2.1 4) ((24 * v17) + y5)).bind fun v19 =>
    zg_X10_through_L68 h n v19 (y6 + (-1))
set_option maxHeartbeats 1000000 in
set_option maxRecDepth 100000 in
theorem zh_X10_through_L68 (q : Nat) (h0 : zc_H) (S : zm_S)  : ∀ (n : Nat) (y5 : Int32) (y6 : Int32), zf_X10_through_L68 (zm_h q h0 S) q  n y5 y6 = zg_X10_through_L68 S  n y5 y6 := by
  intro n
  induction n with
  | zero => intro y5 y6; rfl
  | succ n ih =>
    intro y5 y6
    unfold zf_X10_through_L68 zg_X10_through_L68
    simp only [zm_is, not_true_eq_false, if_false, zo_s, zo_m, zo_n0, zo_mi, zo_ms, zo_mb, zo_bm, ih, zm_a30, zm_a4, zm_gr30, zm_gr4, zm_s30, zm_s4]
def zg_X10_through (h : zm_S) (x1 : Int32) (x2 : Int32) (x3 : Int32) : Option (zm_S × Int32) :=
  (zg_X10_isRevision h x1).bind fun r1 =>
  let k16 := fun (_ : Unit) =>
    (zg_X10_no10 h (-1)).bind fun r3 =>
    some (r3.1, r3.2)
  if r1 = 0 then
    k16 ()
  else
  (zg_X10_isRevision h x2).bind fun r4 =>
  if r4 = 0 then
    k16 ()
  else
  (zg_X10_isLine h x1 x3).bind fun r6 =>
  if r6 = 0 then
    (zg_X10_no10 h (-5)).bind fun r22 =>
    some (r22.1, r22.2)
  else
  (zg_X10_behind h x2 x1).bind fun r8 =>
  if r8.2 = (-1) then
    (zg_X10_no10 r8.1 (-6)).bind fun r21 =>
    some (r21.1, r21.2)
  else
  (zg_X10_through_L68 r8.1 2000 x3 (r8.2 - 1)).bind fun w20 =>
  some (r8.1, w20)
set_option maxHeartbeats 1000000 in
set_option maxRecDepth 100000 in
theorem zh_X10_through (q : Nat) (h0 : zc_H) (S : zm_S) (x1 : Int32) (x2 : Int32) (x3 : Int32) : zf_X10_through (zm_h q h0 S) q x1 x2 x3 = (zg_X10_through S x1 x2 x3).map (fun r => (zm_h q h0 r.1, r.2)) := by
  unfold zf_X10_through zg_X10_through
  simp only [zm_is, not_true_eq_false, if_false, zo_s, zo_m, zo_n0, zo_mi, zo_ms, zo_mb, zo_bm, zh_X10_behind, zh_X10_isLine, zh_X10_isRevision, zh_X10_no10, zh_X10_through_L68]
def zg_X10_comesFrom_L14 (h : zm_S) (y1 : Int32) (y2 : Int32) : Nat → Int32 → Option ((Unit) ⊕ (Int32))
  | 0, _ => none
  | n + 1, y3 =>
    (zg_ai 16 (h.2.1 1) y1).bind fun v11 =>
    (zg_ai 17 (h.2.1 2) v11).bind fun v13 =>
    if v13 ≤ y3 then
      some (.inl ())
    else
    (zg_ai 384 (h.2.1 4) ((24 * y1) + y3)).bind fun v18 =>
    if v18 = y2 then
      some (.inr y3)
    else
    zg_X10_comesFrom_L14 h y1 y2 n (y3 + 1)
set_option maxHeartbeats 1000000 in
set_option maxRecDepth 100000 in
theorem zh_X10_comesFrom_L14 (q : Nat) (h0 : zc_H) (S : zm_S) (y1 : Int32) (y2 : Int32) : ∀ (n : Nat) (y3 : Int32), zf_X10_comesFrom_L14 (zm_h q h0 S) q y1 y2 n y3 = zg_X10_comesFrom_L14 S y1 y2 n y3 := by
  intro n
  induction n with
  | zero => intro y3; rfl
  | succ n ih =>
    intro y3
    unfold zf_X10_comesFrom_L14 zg_X10_comesFrom_L14
    simp only [zm_is, not_true_eq_false, if_false, zo_s, zo_m, zo_n0, zo_mi, zo_ms, zo_mb, zo_bm, ih, zm_a1, zm_a2, zm_a4, zm_gr1, zm_gr2, zm_gr4, zm_s1, zm_s2, zm_s4]
def zg_X10_comesFrom (h : zm_S) (x1 : Int32) (x2 : Int32) : Option (Int32) :=
  (zg_ai 16 (h.2.1 1) x1).bind fun v4 =>
  if v4 = (-1) then
    some (-1)
  else
  (zg_X10_comesFrom_L14 h x1 x2 2000 0).bind fun w20 =>
  Sum.elim (fun t21 =>
    some (-1)
    ) (fun t22 =>
    some t22
    ) w20
set_option maxHeartbeats 1000000 in
set_option maxRecDepth 100000 in
theorem zh_X10_comesFrom (q : Nat) (h0 : zc_H) (S : zm_S) (x1 : Int32) (x2 : Int32) : zf_X10_comesFrom (zm_h q h0 S) q x1 x2 = zg_X10_comesFrom S x1 x2 := by
  unfold zf_X10_comesFrom zg_X10_comesFrom
  simp only [zm_is, not_true_eq_false, if_false, zo_s, zo_m, zo_n0, zo_mi, zo_ms, zo_mb, zo_bm, zh_X10_comesFrom_L14, zm_a1, zm_gr1, zm_s1]
def zg_X10_origin_L55 (h : zm_S) (y3 : Int32) : Nat → Int32 → Int32 → Int32 → Option (Int32 × Int32)
  | 0, _, _, _ => none
  | n + 1, y4, y5, y6 =>
    if y6 = (-1) then
      some (y4, y5)
    else
    (zg_ai 16 (h.2.1 1) y4).bind fun v13 =>
    (zg_X10_comesFrom h v13 y6).bind fun r14 =>
    zg_X10_origin_L55 h y3 n v13 y6 r14
set_option maxHeartbeats 1000000 in
set_option maxRecDepth 100000 in
theorem zh_X10_origin_L55 (q : Nat) (h0 : zc_H) (S : zm_S) (y3 : Int32) : ∀ (n : Nat) (y4 : Int32) (y5 : Int32) (y6 : Int32), zf_X10_origin_L55 (zm_h q h0 S) q y3 n y4 y5 y6 = zg_X10_origin_L55 S y3 n y4 y5 y6 := by
  intro n
  induction n with
  | zero => intro y4 y5 y6; rfl
  | succ n ih =>
    intro y4 y5 y6
    unfold zf_X10_origin_L55 zg_X10_origin_L55
    simp only [zm_is, not_true_eq_false, if_false, zo_s, zo_m, zo_n0, zo_mi, zo_ms, zo_mb, zo_bm, ih, zh_X10_comesFrom, zm_a1, zm_gr1, zm_s1]
def zg_X10_origin (h : zm_S) (x1 : Int32) (x2 : Int32) (x3 : Int32) : Option (zm_S × Int32) :=
  (zg_X10_isRevision h x1).bind fun r1 =>
  if r1 = 0 then
    (zg_X10_no h (-1)).bind fun r17 =>
    some (r17.1, r17.2)
  else
  (zg_X10_isLine h x1 x2).bind fun r3 =>
  let k32 := fun (_ : Unit) =>
    (zg_X10_no h (-5)).bind fun r5 =>
    some (r5.1, r5.2)
  if r3 = 0 then
    k32 ()
  else
  (zg_X10_within h x3 0 1).bind fun r6 =>
  if r6 = 0 then
    k32 ()
  else
  (zg_X10_comesFrom h x1 x2).bind fun r8 =>
  (zg_X10_origin_L55 h x3 2000 x1 x2 r8).bind fun w15 =>
  if x3 = 0 then
    some (h, w15.1)
  else
  some (h, w15.2)
set_option maxHeartbeats 1000000 in
set_option maxRecDepth 100000 in
theorem zh_X10_origin (q : Nat) (h0 : zc_H) (S : zm_S) (x1 : Int32) (x2 : Int32) (x3 : Int32) : zf_X10_origin (zm_h q h0 S) q x1 x2 x3 = (zg_X10_origin S x1 x2 x3).map (fun r => (zm_h q h0 r.1, r.2)) := by
  unfold zf_X10_origin zg_X10_origin
  simp only [zm_is, not_true_eq_false, if_false, zo_s, zo_m, zo_n0, zo_mi, zo_ms, zo_mb, zo_bm, zh_X10_comesFrom, zh_X10_isLine, zh_X10_isRevision, zh_X10_no, zh_X10_origin_L55, zh_X10_within]
def zg_X10_newRemark (h : zm_S) (x1 : Int32) (x2 : Int32) (x3 : Int32) (x4 : Int32) (x5 : Int32) (x6 : Int32) : Option (zm_S × Int32) :=
  (zg_si 6 112 h (h.1 5) x1).bind fun h6 =>
  (zg_si 6 112 h6 (16 + (h6.1 5)) x2).bind fun h12 =>
  (zg_si 6 112 h12 (32 + (h12.1 5)) x3).bind fun h18 =>
  (zg_si 6 112 h18 (48 + (h18.1 5)) x4).bind fun h24 =>
  (zg_si 6 112 h24 (64 + (h24.1 5)) x5).bind fun h30 =>
  (zg_si 6 112 h30 (80 + (h30.1 5)) x6).bind fun h36 =>
  (zg_si 6 112 h36 (96 + (h36.1 5)) 0).bind fun h42 =>
  (some (zg_p h42 5 (((h42.1 5) + 1)))).bind fun h45 =>
  some (h45, (h42.1 5))
set_option maxHeartbeats 1000000 in
set_option maxRecDepth 100000 in
theorem zh_X10_newRemark (q : Nat) (h0 : zc_H) (S : zm_S) (x1 : Int32) (x2 : Int32) (x3 : Int32) (x4 : Int32) (x5 : Int32) (x6 : Int32) : zf_X10_newRemark (zm_h q h0 S) q x1 x2 x3 x4 x5 x6 = (zg_X10_newRemark S x1 x2 x3 x4 x5 x6).map (fun r => (zm_h q h0 r.1, r.2)) := by
  unfold zf_X10_newRemark zg_X10_newRemark
  simp only [zm_is, not_true_eq_false, if_false, zo_s, zo_m, zo_n0, zo_mi, zo_ms, zo_mb, zo_bm, zm_a6, zm_gi5, zm_gr6, zm_p5, zm_s6]
def zg_X10_remark (h : zm_S) (x1 : Int32) (x2 : Int32) (x3 : Int32) (x4 : Int32) (x5 : Int32) (x6 : Int32) : Option (zm_S × Int32) :=
  (zg_X10_within h x1 0 6).bind fun r1 =>
  let k33 := fun (_ : Unit) =>
    (zg_X10_no h (-1)).bind fun r3 =>
    some (r3.1, r3.2)
  if r1 = 0 then
    k33 ()
  else
  (zg_X10_isRevision h x3).bind fun r4 =>
  if r4 = 0 then
    k33 ()
  else
  let k39 := fun (_ : Unit) =>
    (zg_X10_isLine h x3 x4).bind fun r7 =>
    let k66 := fun (_ : Unit) =>
      (zg_X10_no h (-5)).bind fun r9 =>
      some (r9.1, r9.2)
    if r7 = 0 then
      k66 ()
    else
    (zg_X10_isLine h x3 x5).bind fun r10 =>
    if r10 = 0 then
      k66 ()
    else
    if x4 ≤ x5 then
      (zg_X10_within h x2 0 9).bind fun r13 =>
      if r13 = 0 then
        (zg_X10_no h (-6)).bind fun r20 =>
        some (r20.1, r20.2)
      else
      if (h.1 5) = 16 then
        (zg_X10_no h (-7)).bind fun r19 =>
        some (r19.1, r19.2)
      else
      (zg_X10_newRemark h x1 x2 x3 x4 x5 x6).bind fun r18 =>
      some (r18.1, r18.2)
    else
    k66 ()
  if x6 = (-1) then
    k39 ()
  else
  (zg_X10_isRemark h x6).bind fun r21 =>
  if r21 = 0 then
    k33 ()
  else
  k39 ()
set_option maxHeartbeats 1000000 in
set_option maxRecDepth 100000 in
theorem zh_X10_remark (q : Nat) (h0 : zc_H) (S : zm_S) (x1 : Int32) (x2 : Int32) (x3 : Int32) (x4 : Int32) (x5 : Int32) (x6 : Int32) : zf_X10_remark (zm_h q h0 S) q x1 x2 x3 x4 x5 x6 = (zg_X10_remark S x1 x2 x3 x4 x5 x6).map (fun r => (zm_h q h0 r.1, r.2)) := by
  unfold zf_X10_remark zg_X10_remark
  simp only [zm_is, not_true_eq_false, if_false, zo_s, zo_m, zo_n0, zo_mi, zo_ms, zo_mb, zo_bm, zh_X10_isLine, zh_X10_isRemark, zh_X10_isRevision, zh_X10_newRemark, zh_X10_no, zh_X10_within, zm_gi5]
def zg_X10_depth_L9 (h : zm_S) : Nat → Int32 → Int32 → Option (Int32)
  | 0, _, _ => none
  | n + 1, y2, y3 =>
    if y3 = (-1) then
      some y2
    else
    (zg_X10_of h 5 y3).bind fun r3 =>
    zg_X10_depth_L9 h n (y2 + 1) r3
set_option maxHeartbeats 1000000 in
set_option maxRecDepth 100000 in
theorem zh_X10_depth_L9 (q : Nat) (h0 : zc_H) (S : zm_S)  : ∀ (n : Nat) (y2 : Int32) (y3 : Int32), zf_X10_depth_L9 (zm_h q h0 S) q  n y2 y3 = zg_X10_depth_L9 S  n y2 y3 := by
  intro n
  induction n with
  | zero => intro y2 y3; rfl
  | succ n ih =>
    intro y2 y3
    unfold zf_X10_depth_L9 zg_X10_depth_L9
    simp only [zm_is, not_true_eq_false, if_false, zo_s, zo_m, zo_n0, zo_mi, zo_ms, zo_mb, zo_bm, ih, zh_X10_of]
def zg_X10_depth (h : zm_S) (x1 : Int32) : Option (Int32) :=
  (zg_X10_of h 5 x1).bind fun r1 =>
  (zg_X10_depth_L9 h 2000 0 r1).bind fun w4 =>
  some w4
set_option maxHeartbeats 1000000 in
set_option maxRecDepth 100000 in
theorem zh_X10_depth (q : Nat) (h0 : zc_H) (S : zm_S) (x1 : Int32) : zf_X10_depth (zm_h q h0 S) q x1 = zg_X10_depth S x1 := by
  unfold zf_X10_depth zg_X10_depth
  simp only [zm_is, not_true_eq_false, if_false, zo_s, zo_m, zo_n0, zo_mi, zo_ms, zo_mb, zo_bm, zh_X10_depth_L9, zh_X10_of]
def zg_X10_isIn_L7 (h : zm_S) (y2 : Int32) : Nat → Int32 → Option (Int32)
  | 0, _ => none
  | n + 1, y3 =>
    if y3 = (-1) then
      some y3
    else
    if y3 = y2 then
      some y3
    else
    (zg_X10_of h 5 y3).bind fun r4 =>
    zg_X10_isIn_L7 h y2 n r4
set_option maxHeartbeats 1000000 in
set_option maxRecDepth 100000 in
theorem zh_X10_isIn_L7 (q : Nat) (h0 : zc_H) (S : zm_S) (y2 : Int32) : ∀ (n : Nat) (y3 : Int32), zf_X10_isIn_L7 (zm_h q h0 S) q y2 n y3 = zg_X10_isIn_L7 S y2 n y3 := by
  intro n
  induction n with
  | zero => intro y3; rfl
  | succ n ih =>
    intro y3
    unfold zf_X10_isIn_L7 zg_X10_isIn_L7
    simp only [zm_is, not_true_eq_false, if_false, zo_s, zo_m, zo_n0, zo_mi, zo_ms, zo_mb, zo_bm, ih, zh_X10_of]
def zg_X10_isIn (h : zm_S) (x1 : Int32) (x2 : Int32) : Option (Int32) :=
  (zg_X10_of h 5 x1).bind fun r1 =>
  (zg_X10_isIn_L7 h x2 2000 r1).bind fun w5 =>
  if w5 = x2 then
    some 1
  else
  some 0
set_option maxHeartbeats 1000000 in
set_option maxRecDepth 100000 in
theorem zh_X10_isIn (q : Nat) (h0 : zc_H) (S : zm_S) (x1 : Int32) (x2 : Int32) : zf_X10_isIn (zm_h q h0 S) q x1 x2 = zg_X10_isIn S x1 x2 := by
  unfold zf_X10_isIn zg_X10_isIn
  simp only [zm_is, not_true_eq_false, if_false, zo_s, zo_m, zo_n0, zo_mi, zo_ms, zo_mb, zo_bm, zh_X10_isIn_L7, zh_X10_of]
def zg_X10_thread_L4 (h : zm_S) (y1 : Int32) : Nat → Int32 → Int32 → Option (Int32)
  | 0, _, _ => none
  | n + 1, y2, y3 =>
    if (h.1 5) ≤ y3 then
      some y2
    else
    (zg_X10_isIn h y3 y1).bind fun r4 =>
    let k24 := fun (y24_2 : Int32) =>
      zg_X10_thread_L4 h y1 n y24_2 (y3 + 1)
    if r4 = 0 then
      k24 y2
    else
    k24 (y2 + 1)
set_option maxHeartbeats 1000000 in
set_option maxRecDepth 100000 in
theorem zh_X10_thread_L4 (q : Nat) (h0 : zc_H) (S : zm_S) (y1 : Int32) : ∀ (n : Nat) (y2 : Int32) (y3 : Int32), zf_X10_thread_L4 (zm_h q h0 S) q y1 n y2 y3 = zg_X10_thread_L4 S y1 n y2 y3 := by
  intro n
  induction n with
  | zero => intro y2 y3; rfl
  | succ n ih =>
    intro y2 y3
    unfold zf_X10_thread_L4 zg_X10_thread_L4
    simp only [zm_is, not_true_eq_false, if_false, zo_s, zo_m, zo_n0, zo_mi, zo_ms, zo_mb, zo_bm, ih, zh_X10_isIn, zm_gi5]
def zg_X10_thread (h : zm_S) (x1 : Int32) : Option (Int32) :=
  (zg_X10_thread_L4 h x1 2000 0 0).bind fun w6 =>
  some w6
set_option maxHeartbeats 1000000 in
set_option maxRecDepth 100000 in
theorem zh_X10_thread (q : Nat) (h0 : zc_H) (S : zm_S) (x1 : Int32) : zf_X10_thread (zm_h q h0 S) q x1 = zg_X10_thread S x1 := by
  unfold zf_X10_thread zg_X10_thread
  simp only [zm_is, not_true_eq_false, if_false, zo_s, zo_m, zo_n0, zo_mi, zo_ms, zo_mb, zo_bm, zh_X10_thread_L4]
def zg_X10_isOpen_L2 (h : zm_S) (y1 : Int32) : Nat → Int32 → Option ((Unit) ⊕ (Unit))
  | 0, _ => none
  | n + 1, y2 =>
    if (h.1 5) ≤ y2 then
      some (.inl ())
    else
    let k36 := fun (_ : Unit) =>
      zg_X10_isOpen_L2 h y1 n (y2 + 1)
    let k24 := fun (_ : Unit) =>
      (zg_X10_of h 6 y2).bind fun r5 =>
      if r5 = 0 then
        some (.inr ())
      else
      k36 ()
    if y2 = y1 then
      k24 ()
    else
    (zg_X10_isIn h y2 y1).bind fun r7 =>
    if r7 = 0 then
      k36 ()
    else
    k24 ()
set_option maxHeartbeats 1000000 in
set_option maxRecDepth 100000 in
theorem zh_X10_isOpen_L2 (q : Nat) (h0 : zc_H) (S : zm_S) (y1 : Int32) : ∀ (n : Nat) (y2 : Int32), zf_X10_isOpen_L2 (zm_h q h0 S) q y1 n y2 = zg_X10_isOpen_L2 S y1 n y2 := by
  intro n
  induction n with
  | zero => intro y2; rfl
  | succ n ih =>
    intro y2
    unfold zf_X10_isOpen_L2 zg_X10_isOpen_L2
    simp only [zm_is, not_true_eq_false, if_false, zo_s, zo_m, zo_n0, zo_mi, zo_ms, zo_mb, zo_bm, ih, zh_X10_isIn, zh_X10_of, zm_gi5]
def zg_X10_isOpen (h : zm_S) (x1 : Int32) : Option (Int32) :=
  (zg_X10_isOpen_L2 h x1 2000 0).bind fun w9 =>
  Sum.elim (fun t10 =>
    some 0
    ) (fun t11 =>
    some 1
    ) w9
set_option maxHeartbeats 1000000 in
set_option maxRecDepth 100000 in
theorem zh_X10_isOpen (q : Nat) (h0 : zc_H) (S : zm_S) (x1 : Int32) : zf_X10_isOpen (zm_h q h0 S) q x1 = zg_X10_isOpen S x1 := by
  unfold zf_X10_isOpen zg_X10_isOpen
  simp only [zm_is, not_true_eq_false, if_false, zo_s, zo_m, zo_n0, zo_mi, zo_ms, zo_mb, zo_bm, zh_X10_isOpen_L2]
def zg_X10_remarkOf (h : zm_S) (x1 : Int32) (x2 : Int32) : Option (zm_S × Int32) :=
  (zg_X10_isRemark h x1).bind fun r1 =>
  if r1 = 0 then
    (zg_X10_no h (-5)).bind fun r14 =>
    some (r14.1, r14.2)
  else
  (zg_X10_within h x2 0 6).bind fun r3 =>
  if r3 = 0 then
    if x2 = 7 then
      (zg_X10_depth h x1).bind fun r6 =>
      some (h, r6)
    else
    if x2 = 8 then
      (zg_X10_thread h x1).bind fun r8 =>
      some (h, r8)
    else
    if x2 = 9 then
      (zg_X10_isOpen h x1).bind fun r10 =>
      if r10 = 0 then
        some (h, 0)
      else
      some (h, 1)
    else
    (zg_X10_no h (-5)).bind fun r12 =>
    some (r12.1, r12.2)
  else
  (zg_X10_of h x2 x1).bind fun r13 =>
  some (h, r13)
set_option maxHeartbeats 1000000 in
set_option maxRecDepth 100000 in
theorem zh_X10_remarkOf (q : Nat) (h0 : zc_H) (S : zm_S) (x1 : Int32) (x2 : Int32) : zf_X10_remarkOf (zm_h q h0 S) q x1 x2 = (zg_X10_remarkOf S x1 x2).map (fun r => (zm_h q h0 r.1, r.2)) := by
  unfold zf_X10_remarkOf zg_X10_remarkOf
  simp only [zm_is, not_true_eq_false, if_false, zo_s, zo_m, zo_n0, zo_mi, zo_ms, zo_mb, zo_bm, zh_X10_depth, zh_X10_isOpen, zh_X10_isRemark, zh_X10_no, zh_X10_of, zh_X10_thread, zh_X10_within]
def zg_X10_settle (h : zm_S) (x1 : Int32) (x2 : Int32) : Option (zm_S × Int32) :=
  (zg_X10_isRemark h x1).bind fun r1 =>
  if r1 = 0 then
    (zg_X10_no h (-1)).bind fun r9 =>
    some (r9.1, r9.2)
  else
  (zg_X10_of h 6 x1).bind fun r3 =>
  let k39 := fun (s39_0 : Int32) (s39_1 : Int32) =>
    (zg_si 6 112 h s39_1 s39_0).bind fun h8 =>
    some (h8, r3)
  if x2 = 0 then
    k39 0 (96 + x1)
  else
  k39 1 (96 + x1)
set_option maxHeartbeats 1000000 in
set_option maxRecDepth 100000 in
theorem zh_X10_settle (q : Nat) (h0 : zc_H) (S : zm_S) (x1 : Int32) (x2 : Int32) : zf_X10_settle (zm_h q h0 S) q x1 x2 = (zg_X10_settle S x1 x2).map (fun r => (zm_h q h0 r.1, r.2)) := by
  unfold zf_X10_settle zg_X10_settle
  simp only [zm_is, not_true_eq_false, if_false, zo_s, zo_m, zo_n0, zo_mi, zo_ms, zo_mb, zo_bm, zh_X10_isRemark, zh_X10_no, zh_X10_of, zm_a6, zm_gr6, zm_s6]
def zg_X10_follows_L13 (h : zm_S) (y1 : Int32) : Nat → Int32 → Int32 → Int32 → Int32 → Option (Int32 × Int32 × Int32)
  | 0, _, _, _, _ => none
  | n + 1, y2, y3, y4, y5 =>
    if (h.1 32) < y5 then
      some (y2, y3, y4)
    else
    (zg_ai 384 (h.2.1 4) ((24 * y1) + y5)).bind fun v9 =>
    let k72 := fun (y72_2 : Int32) (y72_3 : Int32) (y72_4 : Int32) =>
      zg_X10_follows_L13 h y1 n y72_2 y72_3 y72_4 (y5 + 1)
    if v9 = (-1) then
      k72 y2 y3 y4
    else
    let k61 := fun (s61_0 : Int32) =>
      k72 s61_0 (if y3 < v9 then v9 else y3) (y4 + 1)
    if y4 = 0 then
      k61 v9
    else
    k61 (if v9 < y2 then v9 else y2)
set_option maxHeartbeats 1000000 in
set_option maxRecDepth 100000 in
theorem zh_X10_follows_L13 (q : Nat) (h0 : zc_H) (S : zm_S) (y1 : Int32) : ∀ (n : Nat) (y2 : Int32) (y3 : Int32) (y4 : Int32) (y5 : Int32), zf_X10_follows_L13 (zm_h q h0 S) q y1 n y2 y3 y4 y5 = zg_X10_follows_L13 S y1 n y2 y3 y4 y5 := by
  intro n
  induction n with
  | zero => intro y2 y3 y4 y5; rfl
  | succ n ih =>
    intro y2 y3 y4 y5
    unfold zf_X10_follows_L13 zg_X10_follows_L13
    simp only [zm_is, not_true_eq_false, if_false, zo_s, zo_m, zo_n0, zo_mi, zo_ms, zo_mb, zo_bm, ih, zm_a4, zm_gi32, zm_gr4, zm_s4]
def zg_X10_follows (h : zm_S) (x1 : Int32) : Option (zm_S × Int32) :=
  (zg_X10_follows_L13 h x1 2000 (-1) (-1) 0 (h.1 31)).bind fun w12 =>
  (some (zg_p h 31 (w12.1))).bind fun h13 =>
  (some (zg_p h13 32 (w12.2.1))).bind fun h14 =>
  some (h14, w12.2.2)
set_option maxHeartbeats 1000000 in
set_option maxRecDepth 100000 in
theorem zh_X10_follows (q : Nat) (h0 : zc_H) (S : zm_S) (x1 : Int32) : zf_X10_follows (zm_h q h0 S) q x1 = (zg_X10_follows S x1).map (fun r => (zm_h q h0 r.1, r.2)) := by
  unfold zf_X10_follows zg_X10_follows
  simp only [zm_is, not_true_eq_false, if_false, zo_s, zo_m, zo_n0, zo_mi, zo_ms, zo_mb, zo_bm, zh_X10_follows_L13, zm_gi31, zm_p31, zm_p32]
def zg_X10_followsAsPoint_L5 (h : zm_S) (y1 : Int32) (y2 : Int32) : Nat → Int32 → Option (Int32)
  | 0, _ => none
  | n + 1, y3 =>
    if y2 = 0 then
      some y3
    else
    if y3 ≤ 0 then
      some y3
    else
    (zg_ai 384 (h.2.1 4) ((24 * y1) + y3)).bind fun v8 =>
    if v8 = (-1) then
      zg_X10_followsAsPoint_L5 h y1 y2 n (y3 + (-1))
    else
    some y3
set_option maxHeartbeats 1000000 in
set_option maxRecDepth 100000 in
theorem zh_X10_followsAsPoint_L5 (q : Nat) (h0 : zc_H) (S : zm_S) (y1 : Int32) (y2 : Int32) : ∀ (n : Nat) (y3 : Int32), zf_X10_followsAsPoint_L5 (zm_h q h0 S) q y1 y2 n y3 = zg_X10_followsAsPoint_L5 S y1 y2 n y3 := by
  intro n
  induction n with
  | zero => intro y3; rfl
  | succ n ih =>
    intro y3
    unfold zf_X10_followsAsPoint_L5 zg_X10_followsAsPoint_L5
    simp only [zm_is, not_true_eq_false, if_false, zo_s, zo_m, zo_n0, zo_mi, zo_ms, zo_mb, zo_bm, ih, zm_a4, zm_gr4, zm_s4]
def zg_X10_followsAsPoint (h : zm_S) (x1 : Int32) (x2 : Int32) : Option (zm_S × Int32) :=
  (zg_X10_followsAsPoint_L5 h x1 x2 2000 (h.1 31)).bind fun w10 =>
  (zg_ai 384 (h.2.1 4) ((24 * x1) + w10)).bind fun v14 =>
  (some (zg_p h 31 (v14))).bind fun h15 =>
  (some (zg_p h15 32 ((h15.1 31)))).bind fun h18 =>
  if (h18.1 31) = (-1) then
    some (h18, 0)
  else
  some (h18, 1)
set_option maxHeartbeats 1000000 in
set_option maxRecDepth 100000 in
theorem zh_X10_followsAsPoint (q : Nat) (h0 : zc_H) (S : zm_S) (x1 : Int32) (x2 : Int32) : zf_X10_followsAsPoint (zm_h q h0 S) q x1 x2 = (zg_X10_followsAsPoint S x1 x2).map (fun r => (zm_h q h0 r.1, r.2)) := by
  unfold zf_X10_followsAsPoint zg_X10_followsAsPoint
  simp only [zm_is, not_true_eq_false, if_false, zo_s, zo_m, zo_n0, zo_mi, zo_ms, zo_mb, zo_bm, zh_X10_followsAsPoint_L5, zm_a4, zm_gi31, zm_gr4, zm_p31, zm_p32, zm_s4]
def zg_X10_goesTo (h : zm_S) (x1 : Int32) (x2 : Int32) (x3 : Int32) : Option (zm_S × Int32) :=
  if x1 = 1 then
    (zg_X10_followsAsPoint h x3 0).bind fun r6 =>
    if ¬ (r6.2 = 0 ∨ r6.2 = 1) then none else
    some (r6.1, r6.2)
  else
  if x1 = 3 then
    (zg_X10_followsAsPoint h x3 1).bind fun r9 =>
    if ¬ (r9.2 = 0 ∨ r9.2 = 1) then none else
    some (r9.1, r9.2)
  else
  if x1 = 6 then
    (zg_X10_followsAsPoint h x3 1).bind fun r12 =>
    if r12.2 = 0 then
      some (r12.1, 0)
    else
    (zg_ai 17 (r12.1.2.1 2) x3).bind fun v17 =>
    (some (zg_p r12.1 32 ((v17 - 1)))).bind fun h18 =>
    some (h18, 1)
  else
  (zg_X10_follows h x3).bind fun r19 =>
  if r19.2 = 0 then
    some (r19.1, 0)
  else
  if x1 = 4 then
    if (10 * r19.2) < (x2 * (((h.1 32) - (h.1 31)) + 1)) then
      some (r19.1, 0)
    else
    some (r19.1, 1)
  else
  let k134 := fun (_ : Unit) =>
    if r19.2 = (((h.1 32) - (h.1 31)) + 1) then
      let k166 := fun (s166_0 : Int32) (s166_1 : Int32) =>
        if s166_0 < s166_1 then
          some (r19.1, 0)
        else
        some (r19.1, 1)
      if x1 = 5 then
        k166 ((((h.1 32) - (h.1 31)) + 1) + x2) (((r19.1.1 32) - (r19.1.1 31)) + 1)
      else
      k166 (((h.1 32) - (h.1 31)) + 1) (((r19.1.1 32) - (r19.1.1 31)) + 1)
    else
    some (r19.1, 0)
  if x1 = 2 then
    k134 ()
  else
  if x1 = 5 then
    k134 ()
  else
  some (r19.1, 1)
set_option maxHeartbeats 1000000 in
set_option maxRecDepth 100000 in
theorem zh_X10_goesTo (q : Nat) (h0 : zc_H) (S : zm_S) (x1 : Int32) (x2 : Int32) (x3 : Int32) : zf_X10_goesTo (zm_h q h0 S) q x1 x2 x3 = (zg_X10_goesTo S x1 x2 x3).map (fun r => (zm_h q h0 r.1, r.2)) := by
  unfold zf_X10_goesTo zg_X10_goesTo
  simp only [zm_is, not_true_eq_false, if_false, zo_s, zo_m, zo_n0, zo_mi, zo_ms, zo_mb, zo_bm, zh_X10_follows, zh_X10_followsAsPoint, zm_a2, zm_gi31, zm_gi32, zm_gr2, zm_p32, zm_s2]
def zg_X10_score_L18 (h : zm_S) (y1 : Int32) (y2 : Int32) (y3 : Int32) : Nat → Int32 → Int32 → Option (Int32)
  | 0, _, _ => none
  | n + 1, y4, y5 =>
    if y3 ≤ y5 then
      some y4
    else
    (zg_X10_isAlike h (h.1 34) ((h.1 35) + y5) y1 (y2 + y5)).bind fun r10 =>
    let k50 := fun (y50_4 : Int32) =>
      zg_X10_score_L18 h y1 y2 y3 n y50_4 (y5 + 1)
    if r10 = 0 then
      k50 y4
    else
    k50 (y4 + 3)
set_option maxHeartbeats 1000000 in
set_option maxRecDepth 100000 in
theorem zh_X10_score_L18 (q : Nat) (h0 : zc_H) (S : zm_S) (y1 : Int32) (y2 : Int32) (y3 : Int32) : ∀ (n : Nat) (y4 : Int32) (y5 : Int32), zf_X10_score_L18 (zm_h q h0 S) q y1 y2 y3 n y4 y5 = zg_X10_score_L18 S y1 y2 y3 n y4 y5 := by
  intro n
  induction n with
  | zero => intro y4 y5; rfl
  | succ n ih =>
    intro y4 y5
    unfold zf_X10_score_L18 zg_X10_score_L18
    simp only [zm_is, not_true_eq_false, if_false, zo_s, zo_m, zo_n0, zo_mi, zo_ms, zo_mb, zo_bm, ih, zh_X10_isAlike, zm_gi34, zm_gi35]
def zg_X10_score (h : zm_S) (x1 : Int32) (x2 : Int32) : Option (Int32) :=
  (zg_X10_score_L18 h x1 x2 (((h.1 36) - (h.1 35)) + 1) 2000 0 0).bind fun w12 =>
  let k68 := fun (s68_0 : Int32) =>
    let k81 := fun (s81_0 : Int32) (s81_1 : Int32) =>
      let k113 := fun (y113_4 : Int32) =>
        (zg_ai 17 (h.2.1 2) (h.1 34)).bind fun v25 =>
        let k136 := fun (s136_0 : Int32) =>
          (zg_ai 17 (h.2.1 2) x1).bind fun v30 =>
          let k157 := fun (s157_0 : Int32) (s157_1 : Int32) =>
            if s157_1 = s157_0 then
              let k186 := fun (_ : Unit) =>
                some (y113_4 + 2)
              if s136_0 = 0 then
                (zg_X10_isAlike h (h.1 34) ((h.1 36) + 1) x1 (x2 + (((h.1 36) - (h.1 35)) + 1))).bind fun r38 =>
                if r38 = 0 then
                  some y113_4
                else
                k186 ()
              else
              k186 ()
            else
            some y113_4
          if (x2 + (((h.1 36) - (h.1 35)) + 1)) = v30 then
            k157 1 s136_0
          else
          k157 0 s136_0
        if (h.1 36) = (v25 - 1) then
          k136 1
        else
        k136 0
      if s81_1 = s81_0 then
        let k110 := fun (_ : Unit) =>
          k113 (w12 + 2)
        if s68_0 = 0 then
          (zg_X10_isAlike h (h.1 34) ((h.1 35) - 1) x1 (x2 - 1)).bind fun r45 =>
          if r45 = 0 then
            k113 w12
          else
          k110 ()
        else
        k110 ()
      else
      k113 w12
    if x2 = 0 then
      k81 1 s68_0
    else
    k81 0 s68_0
  if (h.1 35) = 0 then
    k68 1
  else
  k68 0
set_option maxHeartbeats 1000000 in
set_option maxRecDepth 100000 in
theorem zh_X10_score (q : Nat) (h0 : zc_H) (S : zm_S) (x1 : Int32) (x2 : Int32) : zf_X10_score (zm_h q h0 S) q x1 x2 = zg_X10_score S x1 x2 := by
  unfold zf_X10_score zg_X10_score
  simp only [zm_is, not_true_eq_false, if_false, zo_s, zo_m, zo_n0, zo_mi, zo_ms, zo_mb, zo_bm, zh_X10_isAlike, zh_X10_score_L18, zm_a2, zm_gi34, zm_gi35, zm_gi36, zm_gr2, zm_s2]
def zg_X10_placesOn (h : zm_S) (x1 : Int32) : Option (Int32) :=
  (zg_ai 17 (h.2.1 2) x1).bind fun v4 =>
  some (if 0 < (v4 - ((h.1 36) - (h.1 35))) then (v4 - ((h.1 36) - (h.1 35))) else 0)
set_option maxHeartbeats 1000000 in
set_option maxRecDepth 100000 in
theorem zh_X10_placesOn (q : Nat) (h0 : zc_H) (S : zm_S) (x1 : Int32) : zf_X10_placesOn (zm_h q h0 S) q x1 = zg_X10_placesOn S x1 := by
  unfold zf_X10_placesOn zg_X10_placesOn
  simp only [zm_is, not_true_eq_false, if_false, zo_s, zo_m, zo_n0, zo_mi, zo_ms, zo_mb, zo_bm, zm_a2, zm_gi35, zm_gi36, zm_gr2, zm_s2]
def zg_X10_looks_L12 (y1 : Int32) : Nat → zm_S → Int32 → Option (zm_S)
  | 0, _, _ => none
  | n + 1, h, y2 =>
    (zg_X10_placesOn h y1).bind fun r3 =>
    if r3 ≤ y2 then
      some h
    else
    (zg_X10_score h y1 y2).bind fun r5 =>
    let k49 := fun (h49j : zm_S) =>
      zg_X10_looks_L12 y1 n h49j (y2 + 1)
    if (h.1 39) < r5 then
      (some (zg_p h 39 (r5))).bind fun h9 =>
      (some (zg_p h9 38 (y2))).bind fun h10 =>
      k49 h10
    else
    k49 h
set_option maxHeartbeats 1000000 in
set_option maxRecDepth 100000 in
theorem zh_X10_looks_L12 (q : Nat) (h0 : zc_H) (y1 : Int32) : ∀ (n : Nat) (S : zm_S) (y2 : Int32), zf_X10_looks_L12 q y1 n (zm_h q h0 S) y2 = (zg_X10_looks_L12 y1 n S y2).map (zm_h q h0) := by
  intro n
  induction n with
  | zero => intro S y2; rfl
  | succ n ih =>
    intro S y2
    unfold zf_X10_looks_L12 zg_X10_looks_L12
    dsimp only
    simp only [zm_is, not_true_eq_false, if_false, zo_s, zo_m, zo_n0, zo_mi, zo_ms, zo_mb, zo_bm, ih, zh_X10_placesOn, zh_X10_score, zm_gi39, zm_p38, zm_p39]
def zg_X10_looks_L74 (y1 : Int32) : Nat → zm_S → Int32 → Option (zm_S)
  | 0, _, _ => none
  | n + 1, h, y2 =>
    (zg_X10_placesOn h y1).bind fun r18 =>
    if r18 ≤ y2 then
      some h
    else
    let k116 := fun (h116j : zm_S) =>
      zg_X10_looks_L74 y1 n h116j (y2 + 1)
    if y2 = (h.1 38) then
      k116 h
    else
    (zg_X10_score h y1 y2).bind fun r25 =>
    (zg_ai 3 (h.2.1 7) 2).bind fun v29 =>
    if v29 ≤ ((h.1 39) - r25) then
      k116 h
    else
    (some (zg_p h 40 (0))).bind fun h31 =>
    k116 h31
set_option maxHeartbeats 1000000 in
set_option maxRecDepth 100000 in
theorem zh_X10_looks_L74 (q : Nat) (h0 : zc_H) (y1 : Int32) : ∀ (n : Nat) (S : zm_S) (y2 : Int32), zf_X10_looks_L74 q y1 n (zm_h q h0 S) y2 = (zg_X10_looks_L74 y1 n S y2).map (zm_h q h0) := by
  intro n
  induction n with
  | zero => intro S y2; rfl
  | succ n ih =>
    intro S y2
    unfold zf_X10_looks_L74 zg_X10_looks_L74
    try dsimp only
    rw [zh_X10_placesOn]
    refine zo_st (fun v => ?_)
    refine zo_if (fun _ => ?_) (fun _ => ?_)
    · rfl
    · rw [zm_gi38, zo_s]
      refine zo_if (fun _ => ?_) (fun _ => ?_)
      · exact ih _ _
      · rw [zm_gi39, zo_s]
        rw [zh_X10_score]
        refine zo_st (fun v => ?_)
        rw [zm_gr7, zo_s]
        rw [zo_s]
        rw [zm_a7]
        refine zo_st (fun v => ?_)
        refine zo_if (fun _ => ?_) (fun _ => ?_)
        · exact ih _ _
        · rw [zm_p40, zo_s, zo_s]
          exact ih _ _
def zg_X10_looks (h : zm_S) (x1 : Int32) : Option (zm_S) :=
  (some (zg_p h 38 ((-1)))).bind fun h1 =>
  (some (zg_p h1 39 ((-1)))).bind fun h2 =>
  (zg_X10_looks_L12 x1 2000 h2 0).bind fun w11 =>
  let k69 := fun (s69_0 : Int32) =>
    if ¬ (s69_0 = 0 ∨ s69_0 = 1) then none else
    (some (zg_p w11 40 (s69_0))).bind fun h17 =>
    (zg_X10_looks_L74 x1 2000 h17 0).bind fun w32 =>
    some w32
  if (w11.1 38) = (-1) then
    k69 0
  else
  k69 1
set_option maxHeartbeats 1000000 in
set_option maxRecDepth 100000 in
theorem zh_X10_looks (q : Nat) (h0 : zc_H) (S : zm_S) (x1 : Int32) : zf_X10_looks (zm_h q h0 S) q x1 = (zg_X10_looks S x1).map (zm_h q h0) := by
  unfold zf_X10_looks zg_X10_looks
  simp only [zm_is, not_true_eq_false, if_false, zo_s, zo_m, zo_n0, zo_mi, zo_ms, zo_mb, zo_bm, zh_X10_looks_L12, zh_X10_looks_L74, zm_gi38, zm_p38, zm_p39, zm_p40]
def zg_X10_steps (h : zm_S) (x1 : Int32) (x2 : Int32) (x3 : Int32) : Option (zm_S) :=
  let k90 := fun (h90j : zm_S) =>
    if (h90j.1 33) = 3 then
      (some (zg_p h90j 31 ((-1)))).bind fun h14 =>
      (some (zg_p h14 32 ((-1)))).bind fun h15 =>
      some h15
    else
    (some (zg_p h90j 34 (x3))).bind fun h7 =>
    (some (zg_p h7 35 ((h7.1 31)))).bind fun h10 =>
    (some (zg_p h10 36 ((h10.1 32)))).bind fun h13 =>
    some h13
  let k26 := fun (h26j : zm_S) =>
    (zg_X10_looks h26j x3).bind fun r16 =>
    let k85 := fun (_ : Unit) =>
      (some (zg_p r16 33 (3))).bind fun h20 =>
      k90 h20
    if (r16.1 40) = 0 then
      k85 ()
    else
    (zg_ai 3 (r16.2.1 7) 1).bind fun v26 =>
    if (r16.1 39) < v26 then
      k85 ()
    else
    (some (zg_p r16 33 (2))).bind fun h28 =>
    (some (zg_p h28 31 ((h28.1 38)))).bind fun h31 =>
    (some (zg_p h31 32 ((((h31.1 38) + (h31.1 36)) - (h31.1 35))))).bind fun h38 =>
    k90 h38
  if (h.1 33) = 3 then
    k26 h
  else
  (zg_X10_goesTo h x1 x2 x3).bind fun r39 =>
  if r39.2 = 0 then
    k26 r39.1
  else
  (some (zg_p r39.1 33 (1))).bind fun h41 =>
  k90 h41
set_option maxHeartbeats 1000000 in
set_option maxRecDepth 100000 in
theorem zh_X10_steps (q : Nat) (h0 : zc_H) (S : zm_S) (x1 : Int32) (x2 : Int32) (x3 : Int32) : zf_X10_steps (zm_h q h0 S) q x1 x2 x3 = (zg_X10_steps S x1 x2 x3).map (zm_h q h0) := by
  unfold zf_X10_steps zg_X10_steps
  try dsimp only
  rw [zm_is, if_neg (by simp)]
  rw [zm_gi33, zo_s]
  refine zo_if (fun _ => ?_) (fun _ => ?_)
  · rw [zh_X10_looks]
    refine zo_st2 (fun v => ?_)
    rw [zm_gi40, zo_s]
    refine zo_if (fun _ => ?_) (fun _ => ?_)
    · rw [zm_p33, zo_s, zo_s]
      rw [zm_gi33, zo_s]
      refine zo_if (fun _ => ?_) (fun _ => ?_)
      · rw [zm_p31, zo_s, zo_s]
        rw [zm_p32, zo_s, zo_s]
        rfl
      · rw [zm_p34, zo_s, zo_s]
        rw [zm_gi31, zo_s]
        rw [zm_p35, zo_s, zo_s]
        rw [zm_gi32, zo_s]
        rw [zm_p36, zo_s, zo_s]
        rfl
    · rw [zm_gi39, zo_s]
      rw [zm_gr7, zo_s]
      rw [zo_s]
      rw [zm_a7]
      refine zo_st (fun v => ?_)
      refine zo_if (fun _ => ?_) (fun _ => ?_)
      · rw [zm_p33, zo_s, zo_s]
        rw [zm_gi33, zo_s]
        refine zo_if (fun _ => ?_) (fun _ => ?_)
        · rw [zm_p31, zo_s, zo_s]
          rw [zm_p32, zo_s, zo_s]
          rfl
        · rw [zm_p34, zo_s, zo_s]
          rw [zm_gi31, zo_s]
          rw [zm_p35, zo_s, zo_s]
          rw [zm_gi32, zo_s]
          rw [zm_p36, zo_s, zo_s]
          rfl
      · rw [zm_p33, zo_s, zo_s]
        rw [zm_gi38, zo_s]
        rw [zm_p31, zo_s, zo_s]
        rw [zm_gi38, zo_s]
        rw [zm_gi36, zo_s]
        rw [zm_gi35, zo_s]
        rw [zm_p32, zo_s, zo_s]
        rw [zm_gi33, zo_s]
        refine zo_if (fun _ => ?_) (fun _ => ?_)
        · rw [zm_p31, zo_s, zo_s]
          rw [zm_p32, zo_s, zo_s]
          rfl
        · rw [zm_p34, zo_s, zo_s]
          rw [zm_gi31, zo_s]
          rw [zm_p35, zo_s, zo_s]
          rw [zm_gi32, zo_s]
          rw [zm_p36, zo_s, zo_s]
          rfl
  · rw [zh_X10_goesTo]
    refine zo_st2 (fun v => ?_)
    refine zo_if (fun _ => ?_) (fun _ => ?_)
    · rw [zh_X10_looks]
      refine zo_st2 (fun v => ?_)
      rw [zm_gi40, zo_s]
      refine zo_if (fun _ => ?_) (fun _ => ?_)
      · rw [zm_p33, zo_s, zo_s]
        rw [zm_gi33, zo_s]
        refine zo_if (fun _ => ?_) (fun _ => ?_)
        · rw [zm_p31, zo_s, zo_s]
          rw [zm_p32, zo_s, zo_s]
          rfl
        · rw [zm_p34, zo_s, zo_s]
          rw [zm_gi31, zo_s]
          rw [zm_p35, zo_s, zo_s]
          rw [zm_gi32, zo_s]
          rw [zm_p36, zo_s, zo_s]
          rfl
      · rw [zm_gi39, zo_s]
        rw [zm_gr7, zo_s]
        rw [zo_s]
        rw [zm_a7]
        refine zo_st (fun v => ?_)
        refine zo_if (fun _ => ?_) (fun _ => ?_)
        · rw [zm_p33, zo_s, zo_s]
          rw [zm_gi33, zo_s]
          refine zo_if (fun _ => ?_) (fun _ => ?_)
          · rw [zm_p31, zo_s, zo_s]
            rw [zm_p32, zo_s, zo_s]
            rfl
          · rw [zm_p34, zo_s, zo_s]
            rw [zm_gi31, zo_s]
            rw [zm_p35, zo_s, zo_s]
            rw [zm_gi32, zo_s]
            rw [zm_p36, zo_s, zo_s]
            rfl
        · rw [zm_p33, zo_s, zo_s]
          rw [zm_gi38, zo_s]
          rw [zm_p31, zo_s, zo_s]
          rw [zm_gi38, zo_s]
          rw [zm_gi36, zo_s]
          rw [zm_gi35, zo_s]
          rw [zm_p32, zo_s, zo_s]
          rw [zm_gi33, zo_s]
          refine zo_if (fun _ => ?_) (fun _ => ?_)
          · rw [zm_p31, zo_s, zo_s]
            rw [zm_p32, zo_s, zo_s]
            rfl
          · rw [zm_p34, zo_s, zo_s]
            rw [zm_gi31, zo_s]
            rw [zm_p35, zo_s, zo_s]
            rw [zm_gi32, zo_s]
            rw [zm_p36, zo_s, zo_s]
            rfl
    · rw [zm_p33, zo_s, zo_s]
      rw [zm_gi33, zo_s]
      refine zo_if (fun _ => ?_) (fun _ => ?_)
      · rw [zm_p31, zo_s, zo_s]
        rw [zm_p32, zo_s, zo_s]
        rfl
      · rw [zm_p34, zo_s, zo_s]
        rw [zm_gi31, zo_s]
        rw [zm_p35, zo_s, zo_s]
        rw [zm_gi32, zo_s]
        rw [zm_p36, zo_s, zo_s]
        rfl
def zg_X10_puts_L78 (y1 : Int32) (y2 : Int32) (y4 : Int32) : Nat → zm_S → Int32 → Option (zm_S)
  | 0, _, _ => none
  | n + 1, h, y6 =>
    if y6 < y4 then
      some h
    else
    (zg_X10_of h 1 y1).bind fun r18 =>
    (zg_ai 16 (h.2.1 30) y6).bind fun v22 =>
    (zg_X10_steps h y2 r18 v22).bind fun r23 =>
    zg_X10_puts_L78 y1 y2 y4 n r23 (y6 + (-1))
set_option maxHeartbeats 1000000 in
set_option maxRecDepth 100000 in
theorem zh_X10_puts_L78 (q : Nat) (h0 : zc_H) (y1 : Int32) (y2 : Int32) (y4 : Int32) : ∀ (n : Nat) (S : zm_S) (y6 : Int32), zf_X10_puts_L78 q y1 y2 y4 n (zm_h q h0 S) y6 = (zg_X10_puts_L78 y1 y2 y4 n S y6).map (zm_h q h0) := by
  intro n
  induction n with
  | zero => intro S y6; rfl
  | succ n ih =>
    intro S y6
    unfold zf_X10_puts_L78 zg_X10_puts_L78
    simp only [zm_is, not_true_eq_false, if_false, zo_s, zo_m, zo_n0, zo_mi, zo_ms, zo_mb, zo_bm, ih, zh_X10_of, zh_X10_steps, zm_a30, zm_gr30, zm_s30]
def zg_X10_puts (h : zm_S) (x1 : Int32) (x2 : Int32) (x3 : Int32) (x4 : Int32) : Option (zm_S × Int32) :=
  (zg_X10_of h 2 x1).bind fun r1 =>
  (zg_X10_behind h x3 r1).bind fun r2 =>
  if r2.2 = (-1) then
    some (r2.1, 0)
  else
  (some (zg_p r2.1 33 (0))).bind fun h4 =>
  (zg_X10_of h4 3 x1).bind fun r5 =>
  (some (zg_p h4 31 (r5))).bind fun h6 =>
  (zg_X10_of h6 4 x1).bind fun r7 =>
  (some (zg_p h6 32 (r7))).bind fun h8 =>
  (zg_X10_of h8 2 x1).bind fun r9 =>
  (some (zg_p h8 34 (r9))).bind fun h10 =>
  (some (zg_p h10 35 ((h10.1 31)))).bind fun h13 =>
  (some (zg_p h13 36 ((h13.1 32)))).bind fun h16 =>
  (zg_X10_puts_L78 x1 x2 x4 2000 h16 (r2.2 - 1)).bind fun w24 =>
  some (w24, 1)
set_option maxHeartbeats 1000000 in
set_option maxRecDepth 100000 in
theorem zh_X10_puts (q : Nat) (h0 : zc_H) (S : zm_S) (x1 : Int32) (x2 : Int32) (x3 : Int32) (x4 : Int32) : zf_X10_puts (zm_h q h0 S) q x1 x2 x3 x4 = (zg_X10_puts S x1 x2 x3 x4).map (fun r => (zm_h q h0 r.1, r.2)) := by
  unfold zf_X10_puts zg_X10_puts
  simp only [zm_is, not_true_eq_false, if_false, zo_s, zo_m, zo_n0, zo_mi, zo_ms, zo_mb, zo_bm, zh_X10_behind, zh_X10_of, zh_X10_puts_L78, zm_gi31, zm_gi32, zm_p31, zm_p32, zm_p33, zm_p34, zm_p35, zm_p36]
def zg_X10_put (h : zm_S) (x1 : Int32) (x2 : Int32) (x3 : Int32) : Option (zm_S × Int32) :=
  (zg_X10_isRemark h x1).bind fun r1 =>
  let k16 := fun (_ : Unit) =>
    (zg_X10_no10 h (-1)).bind fun r3 =>
    some (r3.1, r3.2)
  if r1 = 0 then
    k16 ()
  else
  (zg_X10_isRevision h x2).bind fun r4 =>
  if r4 = 0 then
    k16 ()
  else
  (zg_X10_within h x3 0 2).bind fun r6 =>
  if r6 = 0 then
    (zg_X10_no10 h (-5)).bind fun r20 =>
    some (r20.1, r20.2)
  else
  (zg_X10_of h 0 x1).bind fun r8 =>
  (zg_X10_puts h x1 r8 x2 0).bind fun r9 =>
  if r9.2 = 0 then
    (zg_X10_no10 r9.1 (-6)).bind fun r19 =>
    some (r19.1, r19.2)
  else
  if x3 = 0 then
    some (r9.1, (r9.1.1 31))
  else
  if x3 = 1 then
    some (r9.1, (r9.1.1 32))
  else
  some (r9.1, (r9.1.1 33))
set_option maxHeartbeats 1000000 in
set_option maxRecDepth 100000 in
theorem zh_X10_put (q : Nat) (h0 : zc_H) (S : zm_S) (x1 : Int32) (x2 : Int32) (x3 : Int32) : zf_X10_put (zm_h q h0 S) q x1 x2 x3 = (zg_X10_put S x1 x2 x3).map (fun r => (zm_h q h0 r.1, r.2)) := by
  unfold zf_X10_put zg_X10_put
  simp only [zm_is, not_true_eq_false, if_false, zo_s, zo_m, zo_n0, zo_mi, zo_ms, zo_mb, zo_bm, zh_X10_isRemark, zh_X10_isRevision, zh_X10_no10, zh_X10_of, zh_X10_puts, zh_X10_within, zm_gi31, zm_gi32, zm_gi33]
