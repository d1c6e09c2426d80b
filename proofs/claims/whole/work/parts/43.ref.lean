/-! the reference over its own state -/
def zg_X10_score_ (h : zm_S) (x1 : Int32) (x2 : Int32) (x3 : Int32) : Option (zm_S × Int32) :=
  (zg_X10_isRemark h x1).bind fun r1 =>
  let k16 := fun (_ : Unit) =>
    (zg_X10_no h (-1)).bind fun r3 =>
    some (r3.1, r3.2)
  if r1 = 0 then
    k16 ()
  else
  (zg_X10_isRevision h x2).bind fun r4 =>
  if r4 = 0 then
    k16 ()
  else
  (zg_X10_of h 2 x1).bind fun r6 =>
  let k48 := fun (h48j : zm_S) =>
    (zg_X10_no h48j (-6)).bind fun r8 =>
    some (r8.1, r8.2)
  if x2 = r6 then
    k48 h
  else
  (zg_X10_of h 0 x1).bind fun r9 =>
  (zg_X10_puts h x1 r9 x2 1).bind fun r10 =>
  if r10.2 = 0 then
    k48 r10.1
  else
  (zg_X10_placesOn r10.1 x2).bind fun r12 =>
  (zg_X10_within r10.1 x3 0 (r12 - 1)).bind fun r13 =>
  if r13 = 0 then
    (zg_X10_no r10.1 (-5)).bind fun r15 =>
    some (r15.1, r15.2)
  else
  (zg_X10_score r10.1 x2 x3).bind fun r16 =>
  some (r10.1, r16)
set_option maxHeartbeats 1000000 in
set_option maxRecDepth 100000 in
theorem zh_X10_score_ (q : Nat) (h0 : zc_H) (S : zm_S) (x1 : Int32) (x2 : Int32) (x3 : Int32) : zf_X10_score_ (zm_h q h0 S) q x1 x2 x3 = (zg_X10_score_ S x1 x2 x3).map (fun r => (zm_h q h0 r.1, r.2)) := by
  unfold zf_X10_score_ zg_X10_score_
  dsimp only
  simp only [zm_is, not_true_eq_false, if_false, zo_s, zo_m, zo_n0, zo_mi, zo_ms, zo_mb, zo_bm, zh_X10_isRemark, zh_X10_isRevision, zh_X10_no, zh_X10_of, zh_X10_placesOn, zh_X10_puts, zh_X10_score, zh_X10_within]
def zg_X10_leastNeed (h : zm_S) (x1 : Int32) (x2 : Int32) : Option (zm_S × Int32) :=
  (zg_X10_isRemark h x1).bind fun r1 =>
  let k16 := fun (_ : Unit) =>
    (zg_X10_no10 h (-1)).bind fun r3 =>
    some (r3.1, r3.2)
  if r1 = 0 then
    k16 ()
  else
  (zg_X10_isRevision h x2).bind fun r4 =>
  if r4 = 0 then
    k16 ()
  else
  (zg_X10_of h 2 x1).bind fun r6 =>
  let k48 := fun (h48j : zm_S) =>
    (zg_X10_no10 h48j (-6)).bind fun r8 =>
    some (r8.1, r8.2)
  if x2 = r6 then
    k48 h
  else
  (zg_X10_of h 0 x1).bind fun r9 =>
  (zg_X10_puts h x1 r9 x2 1).bind fun r10 =>
  if r10.2 = 0 then
    k48 r10.1
  else
  (zg_X10_looks r10.1 x2).bind fun r12 =>
  if (r12.1 40) = 0 then
    some (r12, (-1))
  else
  some (r12, (r12.1 39))
set_option maxHeartbeats 1000000 in
set_option maxRecDepth 100000 in
theorem zh_X10_leastNeed (q : Nat) (h0 : zc_H) (S : zm_S) (x1 : Int32) (x2 : Int32) : zf_X10_leastNeed (zm_h q h0 S) q x1 x2 = (zg_X10_leastNeed S x1 x2).map (fun r => (zm_h q h0 r.1, r.2)) := by
  unfold zf_X10_leastNeed zg_X10_leastNeed
  dsimp only
  simp only [zm_is, not_true_eq_false, if_false, zo_s, zo_m, zo_n0, zo_mi, zo_ms, zo_mb, zo_bm, zh_X10_isRemark, zh_X10_isRevision, zh_X10_looks, zh_X10_no10, zh_X10_of, zh_X10_puts, zm_gi39, zm_gi40]
def zg_X10_fitting_L49 (y1 : Int32) (y2 : Int32) : Nat → zm_S → Int32 → Int32 → Option (zm_S × Int32)
  | 0, _, _, _ => none
  | n + 1, h, y3, y4 =>
    if 7 ≤ y4 then
      some (h, y3)
    else
    (zg_X10_puts h y1 y4 y2 0).bind fun r10 =>
    let k81 := fun (y81_3 : Int32) =>
      zg_X10_fitting_L49 y1 y2 n r10.1 y81_3 (y4 + 1)
    if (r10.1.1 33) = 3 then
      k81 y3
    else
    k81 (y3 ||| (1 <<< (y4 &&& 31)))
set_option maxHeartbeats 1000000 in
set_option maxRecDepth 100000 in
theorem zh_X10_fitting_L49 (q : Nat) (h0 : zc_H) (y1 : Int32) (y2 : Int32) : ∀ (n : Nat) (S : zm_S) (y3 : Int32) (y4 : Int32), zf_X10_fitting_L49 q y1 y2 n (zm_h q h0 S) y3 y4 = (zg_X10_fitting_L49 y1 y2 n S y3 y4).map (fun r => (zm_h q h0 r.1, r.2)) := by
  intro n
  induction n with
  | zero => intro S y3 y4; rfl
  | succ n ih =>
    intro S y3 y4
    unfold zf_X10_fitting_L49 zg_X10_fitting_L49
    simp only [zm_is, not_true_eq_false, if_false, zo_s, zo_m, zo_n0, zo_mi, zo_ms, zo_mb, zo_bm, ih, zh_X10_puts, zm_gi33]
def zg_X10_fitting (h : zm_S) (x1 : Int32) (x2 : Int32) : Option (zm_S × Int32) :=
  (zg_X10_isRemark h x1).bind fun r1 =>
  let k16 := fun (_ : Unit) =>
    (zg_X10_no h (-1)).bind fun r3 =>
    some (r3.1, r3.2)
  if r1 = 0 then
    k16 ()
  else
  (zg_X10_isRevision h x2).bind fun r4 =>
  if r4 = 0 then
    k16 ()
  else
  (zg_X10_of h 2 x1).bind fun r6 =>
  (zg_X10_behind h x2 r6).bind fun r7 =>
  if r7.2 = (-1) then
    (zg_X10_no r7.1 (-6)).bind fun r15 =>
    some (r15.1, r15.2)
  else
  (zg_X10_fitting_L49 x1 x2 2000 r7.1 0 0).bind fun w14 =>
  some (w14.1, w14.2)
set_option maxHeartbeats 1000000 in
set_option maxRecDepth 100000 in
theorem zh_X10_fitting (q : Nat) (h0 : zc_H) (S : zm_S) (x1 : Int32) (x2 : Int32) : zf_X10_fitting (zm_h q h0 S) q x1 x2 = (zg_X10_fitting S x1 x2).map (fun r => (zm_h q h0 r.1, r.2)) := by
  unfold zf_X10_fitting zg_X10_fitting
  simp only [zm_is, not_true_eq_false, if_false, zo_s, zo_m, zo_n0, zo_mi, zo_ms, zo_mb, zo_bm, zh_X10_behind, zh_X10_fitting_L49, zh_X10_isRemark, zh_X10_isRevision, zh_X10_no, zh_X10_of]
def zg_X10_isPut (h : zm_S) (x1 : Int32) (x2 : Int32) : Option (zm_S × Int32) :=
  (zg_X10_of h 0 x1).bind fun r1 =>
  (zg_X10_puts h x1 r1 x2 0).bind fun r2 =>
  if r2.2 = 0 then
    some (r2.1, 0)
  else
  if (r2.1.1 33) = 3 then
    some (r2.1, 0)
  else
  some (r2.1, 1)
set_option maxHeartbeats 1000000 in
set_option maxRecDepth 100000 in
theorem zh_X10_isPut (q : Nat) (h0 : zc_H) (S : zm_S) (x1 : Int32) (x2 : Int32) : zf_X10_isPut (zm_h q h0 S) q x1 x2 = (zg_X10_isPut S x1 x2).map (fun r => (zm_h q h0 r.1, r.2)) := by
  unfold zf_X10_isPut zg_X10_isPut
  simp only [zm_is, not_true_eq_false, if_false, zo_s, zo_m, zo_n0, zo_mi, zo_ms, zo_mb, zo_bm, zh_X10_of, zh_X10_puts, zm_gi33]
def zg_X10_inOrder_L19 (y1 : Int32) (y2 : Int32) (y3 : Int32) : Nat → zm_S → Int32 → Option (zm_S)
  | 0, _, _ => none
  | n + 1, h, y4 =>
    if (h.1 5) ≤ y4 then
      some h
    else
    (zg_X10_isPut h y4 y1).bind fun r8 =>
    let k52 := fun (s52_0 : Int32) (s52_1 : Int32) =>
      (zg_si 37 16 r8.1 s52_1 s52_0).bind fun h11 =>
      zg_X10_inOrder_L19 y1 y2 y3 n h11 (y4 + 1)
    if r8.2 = 0 then
      k52 (-1) y4
    else
    k52 (r8.1.1 31) y4
set_option maxHeartbeats 1000000 in
set_option maxRecDepth 100000 in
theorem zh_X10_inOrder_L19 (q : Nat) (h0 : zc_H) (y1 : Int32) (y2 : Int32) (y3 : Int32) : ∀ (n : Nat) (S : zm_S) (y4 : Int32), zf_X10_inOrder_L19 q y1 y2 y3 n (zm_h q h0 S) y4 = (zg_X10_inOrder_L19 y1 y2 y3 n S y4).map (zm_h q h0) := by
  intro n
  induction n with
  | zero => intro S y4; rfl
  | succ n ih =>
    intro S y4
    unfold zf_X10_inOrder_L19 zg_X10_inOrder_L19
    simp only [zm_is, not_true_eq_false, if_false, zo_s, zo_m, zo_n0, zo_mi, zo_ms, zo_mb, zo_bm, ih, zh_X10_isPut, zm_a37, zm_gi31, zm_gi5, zm_gr37, zm_s37]
def zg_X10_inOrder_L76 (h : zm_S) (y2 : Int32) (y4 : Int32) : Nat → Int32 → Int32 → Option ((Int32) ⊕ (Int32))
  | 0, _, _ => none
  | n + 1, y3, y5 =>
    if (h.1 5) ≤ y5 then
      some (.inl y3)
    else
    (zg_ai 16 (h.2.1 37) y5).bind fun v23 =>
    let k110 := fun (y110_3 : Int32) =>
      zg_X10_inOrder_L76 h y2 y4 n y110_3 (y5 + 1)
    if v23 = y4 then
      if y3 = 0 then
        some (.inr y5)
      else
      k110 (y3 + (-1))
    else
    k110 y3
set_option maxHeartbeats 1000000 in
set_option maxRecDepth 100000 in
theorem zh_X10_inOrder_L76 (q : Nat) (h0 : zc_H) (S : zm_S) (y2 : Int32) (y4 : Int32) : ∀ (n : Nat) (y3 : Int32) (y5 : Int32), zf_X10_inOrder_L76 (zm_h q h0 S) q y2 y4 n y3 y5 = zg_X10_inOrder_L76 S y2 y4 n y3 y5 := by
  intro n
  induction n with
  | zero => intro y3 y5; rfl
  | succ n ih =>
    intro y3 y5
    unfold zf_X10_inOrder_L76 zg_X10_inOrder_L76
    simp only [zm_is, not_true_eq_false, if_false, zo_s, zo_m, zo_n0, zo_mi, zo_ms, zo_mb, zo_bm, ih, zm_a37, zm_gi5, zm_gr37, zm_s37]
def zg_X10_inOrder_L62 (h : zm_S) (y2 : Int32) : Nat → Int32 → Int32 → Option ((Unit) ⊕ (Int32))
  | 0, _, _ => none
  | n + 1, y3, y4 =>
    if 24 ≤ y4 then
      some (.inl ())
    else
    if y2 < 0 then
      some (.inl ())
    else
    (zg_X10_inOrder_L76 h y2 y4 2000 y3 0).bind fun w26 =>
    Sum.elim (fun t27 =>
      zg_X10_inOrder_L62 h y2 n t27 (y4 + 1)
      ) (fun t28 =>
      some (.inr t28)
      ) w26
set_option maxHeartbeats 1000000 in
set_option maxRecDepth 100000 in
theorem zh_X10_inOrder_L62 (q : Nat) (h0 : zc_H) (S : zm_S) (y2 : Int32) : ∀ (n : Nat) (y3 : Int32) (y4 : Int32), zf_X10_inOrder_L62 (zm_h q h0 S) q y2 n y3 y4 = zg_X10_inOrder_L62 S y2 n y3 y4 := by
  intro n
  induction n with
  | zero => intro y3 y4; rfl
  | succ n ih =>
    intro y3 y4
    unfold zf_X10_inOrder_L62 zg_X10_inOrder_L62
    simp only [zm_is, not_true_eq_false, if_false, zo_s, zo_m, zo_n0, zo_mi, zo_ms, zo_mb, zo_bm, ih, zh_X10_inOrder_L76]
def zg_X10_inOrder (h : zm_S) (x1 : Int32) (x2 : Int32) : Option (zm_S × Int32) :=
  (zg_X10_isRevision h x1).bind fun r1 =>
  if r1 = 0 then
    (zg_X10_no10 h (-1)).bind fun r32 =>
    some (r32.1, r32.2)
  else
  (zg_X10_inOrder_L19 x1 x2 x2 2000 h 0).bind fun w14 =>
  (zg_X10_inOrder_L62 w14 x2 2000 x2 0).bind fun w29 =>
  Sum.elim (fun t30 =>
    some (w14, (-1))
    ) (fun t31 =>
    some (w14, t31)
    ) w29
set_option maxHeartbeats 1000000 in
set_option maxRecDepth 100000 in
theorem zh_X10_inOrder (q : Nat) (h0 : zc_H) (S : zm_S) (x1 : Int32) (x2 : Int32) : zf_X10_inOrder (zm_h q h0 S) q x1 x2 = (zg_X10_inOrder S x1 x2).map (fun r => (zm_h q h0 r.1, r.2)) := by
  unfold zf_X10_inOrder zg_X10_inOrder
  simp only [zm_is, not_true_eq_false, if_false, zo_s, zo_m, zo_n0, zo_mi, zo_ms, zo_mb, zo_bm, zh_X10_inOrder_L19, zh_X10_inOrder_L62, zh_X10_isRevision, zh_X10_no10]
def zg_X10_heat_L2 (y1 : Int32) : Nat → zm_S → Int32 → Option (zm_S)
  | 0, _, _ => none
  | n + 1, h, y2 =>
    if 24 ≤ y2 then
      some h
    else
    (zg_si 26 24 h y2 0).bind fun h5 =>
    zg_X10_heat_L2 y1 n h5 (y2 + 1)
set_option maxHeartbeats 1000000 in
set_option maxRecDepth 100000 in
theorem zh_X10_heat_L2 (q : Nat) (h0 : zc_H) (y1 : Int32) : ∀ (n : Nat) (S : zm_S) (y2 : Int32), zf_X10_heat_L2 q y1 n (zm_h q h0 S) y2 = (zg_X10_heat_L2 y1 n S y2).map (zm_h q h0) := by
  intro n
  induction n with
  | zero => intro S y2; rfl
  | succ n ih =>
    intro S y2
    unfold zf_X10_heat_L2 zg_X10_heat_L2
    simp only [zm_is, not_true_eq_false, if_false, zo_s, zo_m, zo_n0, zo_mi, zo_ms, zo_mb, zo_bm, ih, zm_a26, zm_gr26, zm_s26]
def zg_X10_heat_L45 (y1 : Int32) (y2 : Int32) : Nat → zm_S → Int32 → Option (zm_S)
  | 0, _, _ => none
  | n + 1, h, y3 =>
    if (h.1 32) < y3 then
      some h
    else
    (zg_ai 24 (h.2.1 26) y3).bind fun v20 =>
    (zg_si 26 24 h y3 (v20 + 1)).bind fun h21 =>
    zg_X10_heat_L45 y1 y2 n h21 (y3 + 1)
set_option maxHeartbeats 1000000 in
set_option maxRecDepth 100000 in
theorem zh_X10_heat_L45 (q : Nat) (h0 : zc_H) (y1 : Int32) (y2 : Int32) : ∀ (n : Nat) (S : zm_S) (y3 : Int32), zf_X10_heat_L45 q y1 y2 n (zm_h q h0 S) y3 = (zg_X10_heat_L45 y1 y2 n S y3).map (zm_h q h0) := by
  intro n
  induction n with
  | zero => intro S y3; rfl
  | succ n ih =>
    intro S y3
    unfold zf_X10_heat_L45 zg_X10_heat_L45
    simp only [zm_is, not_true_eq_false, if_false, zo_s, zo_m, zo_n0, zo_mi, zo_ms, zo_mb, zo_bm, ih, zm_a26, zm_gi32, zm_gr26, zm_s26]
def zg_X10_heat_L23 (y1 : Int32) : Nat → zm_S → Int32 → Option (zm_S)
  | 0, _, _ => none
  | n + 1, h, y2 =>
    if (h.1 5) ≤ y2 then
      some h
    else
    (zg_X10_isPut h y2 y1).bind fun r10 =>
    let k69 := fun (h69j : zm_S) =>
      zg_X10_heat_L23 y1 n h69j (y2 + 1)
    if r10.2 = 0 then
      k69 r10.1
    else
    (zg_X10_heat_L45 y1 y2 2000 r10.1 (r10.1.1 31)).bind fun w22 =>
    k69 w22
set_option maxHeartbeats 1000000 in
set_option maxRecDepth 100000 in
theorem zh_X10_heat_L23 (q : Nat) (h0 : zc_H) (y1 : Int32) : ∀ (n : Nat) (S : zm_S) (y2 : Int32), zf_X10_heat_L23 q y1 n (zm_h q h0 S) y2 = (zg_X10_heat_L23 y1 n S y2).map (zm_h q h0) := by
  intro n
  induction n with
  | zero => intro S y2; rfl
  | succ n ih =>
    intro S y2
    unfold zf_X10_heat_L23 zg_X10_heat_L23
    dsimp only
    simp only [zm_is, not_true_eq_false, if_false, zo_s, zo_m, zo_n0, zo_mi, zo_ms, zo_mb, zo_bm, ih, zh_X10_heat_L45, zh_X10_isPut, zm_gi31, zm_gi5]
def zg_X10_heat_L79 (h : zm_S) : Nat → Int32 → Int32 → Option (Int32)
  | 0, _, _ => none
  | n + 1, y2, y3 =>
    if 24 ≤ y3 then
      some y2
    else
    (zg_ai 24 (h.2.1 26) y3).bind fun v28 =>
    (zg_ai 24 (h.2.1 26) y2).bind fun v32 =>
    let k102 := fun (y102_2 : Int32) =>
      zg_X10_heat_L79 h n y102_2 (y3 + 1)
    if v28 ≤ v32 then
      k102 y2
    else
    k102 y3
set_option maxHeartbeats 1000000 in
set_option maxRecDepth 100000 in
theorem zh_X10_heat_L79 (q : Nat) (h0 : zc_H) (S : zm_S)  : ∀ (n : Nat) (y2 : Int32) (y3 : Int32), zf_X10_heat_L79 (zm_h q h0 S) q  n y2 y3 = zg_X10_heat_L79 S  n y2 y3 := by
  intro n
  induction n with
  | zero => intro y2 y3; rfl
  | succ n ih =>
    intro y2 y3
    unfold zf_X10_heat_L79 zg_X10_heat_L79
    simp only [zm_is, not_true_eq_false, if_false, zo_s, zo_m, zo_n0, zo_mi, zo_ms, zo_mb, zo_bm, ih, zm_a26, zm_gr26, zm_s26]
def zg_X10_heat (h : zm_S) (x1 : Int32) : Option (zm_S × Int32) :=
  (zg_X10_heat_L2 x1 2000 h 0).bind fun w6 =>
  (zg_X10_heat_L23 x1 2000 w6 0).bind fun w23 =>
  (zg_X10_heat_L79 w23 2000 0 1).bind fun w34 =>
  (zg_ai 24 (w23.2.1 26) w34).bind fun v38 =>
  if v38 = 0 then
    some (w23, 99)
  else
  some (w23, w34)
set_option maxHeartbeats 1000000 in
set_option maxRecDepth 100000 in
theorem zh_X10_heat (q : Nat) (h0 : zc_H) (S : zm_S) (x1 : Int32) : zf_X10_heat (zm_h q h0 S) q x1 = (zg_X10_heat S x1).map (fun r => (zm_h q h0 r.1, r.2)) := by
  unfold zf_X10_heat zg_X10_heat
  simp only [zm_is, not_true_eq_false, if_false, zo_s, zo_m, zo_n0, zo_mi, zo_ms, zo_mb, zo_bm, zh_X10_heat_L2, zh_X10_heat_L23, zh_X10_heat_L79, zm_a26, zm_gr26, zm_s26]
def zg_X10_who_L46 (y1 : Int32) (y2 : Int32) : Nat → zm_S → Int32 → Int32 → Option (zm_S × Int32)
  | 0, _, _, _ => none
  | n + 1, h, y3, y4 =>
    if (h.1 5) ≤ y4 then
      some (h, y3)
    else
    (zg_X10_of h 0 y4).bind fun r9 =>
    (zg_X10_puts h y4 r9 y1 0).bind fun r10 =>
    let k106 := fun (y106_3 : Int32) =>
      zg_X10_who_L46 y1 y2 n r10.1 y106_3 (y4 + 1)
    if r10.2 = 0 then
      k106 y3
    else
    let k86 := fun (s86_0 : Int32) =>
      let k96 := fun (s96_0 : Int32) (s96_1 : Int32) =>
        if s96_1 = s96_0 then
          k106 (y3 ||| (1 <<< (y4 &&& 31)))
        else
        k106 y3
      if y2 = 1 then
        k96 1 s86_0
      else
      k96 0 s86_0
    if (r10.1.1 33) = 3 then
      k86 1
    else
    k86 0
set_option maxHeartbeats 1000000 in
set_option maxRecDepth 100000 in
theorem zh_X10_who_L46 (q : Nat) (h0 : zc_H) (y1 : Int32) (y2 : Int32) : ∀ (n : Nat) (S : zm_S) (y3 : Int32) (y4 : Int32), zf_X10_who_L46 q y1 y2 n (zm_h q h0 S) y3 y4 = (zg_X10_who_L46 y1 y2 n S y3 y4).map (fun r => (zm_h q h0 r.1, r.2)) := by
  intro n
  induction n with
  | zero => intro S y3 y4; rfl
  | succ n ih =>
    intro S y3 y4
    unfold zf_X10_who_L46 zg_X10_who_L46
    simp only [zm_is, not_true_eq_false, if_false, zo_s, zo_m, zo_n0, zo_mi, zo_ms, zo_mb, zo_bm, ih, zh_X10_of, zh_X10_puts, zm_gi33, zm_gi5]
def zg_X10_who (h : zm_S) (x1 : Int32) (x2 : Int32) : Option (zm_S × Int32) :=
  (zg_X10_isRevision h x1).bind fun r1 =>
  if r1 = 0 then
    (zg_X10_no h (-1)).bind fun r20 =>
    some (r20.1, r20.2)
  else
  (zg_X10_within h x2 0 2).bind fun r3 =>
  if r3 = 0 then
    (zg_X10_no h (-5)).bind fun r19 =>
    some (r19.1, r19.2)
  else
  if x2 = 2 then
    (zg_X10_heat h x1).bind fun r18 =>
    some (r18.1, r18.2)
  else
  (zg_X10_who_L46 x1 x2 2000 h 0 0).bind fun w17 =>
  some (w17.1, w17.2)
set_option maxHeartbeats 1000000 in
set_option maxRecDepth 100000 in
theorem zh_X10_who (q : Nat) (h0 : zc_H) (S : zm_S) (x1 : Int32) (x2 : Int32) : zf_X10_who (zm_h q h0 S) q x1 x2 = (zg_X10_who S x1 x2).map (fun r => (zm_h q h0 r.1, r.2)) := by
  unfold zf_X10_who zg_X10_who
  simp only [zm_is, not_true_eq_false, if_false, zo_s, zo_m, zo_n0, zo_mi, zo_ms, zo_mb, zo_bm, zh_X10_heat, zh_X10_isRevision, zh_X10_no, zh_X10_who_L46, zh_X10_within]
def zg_X10_covered_L41 (h : zm_S) (y1 : Int32) (y3 : Int32) : Nat → Int32 → Int32 → Option (Int32)
  | 0, _, _ => none
  | n + 1, y2, y4 =>
    if (h.1 32) < y4 then
      some y2
    else
    zg_X10_covered_L41 h y1 y3 n (y2 ||| (1 <<< (y4 &&& 31))) (y4 + 1)
set_option maxHeartbeats 1000000 in
set_option maxRecDepth 100000 in
theorem zh_X10_covered_L41 (q : Nat) (h0 : zc_H) (S : zm_S) (y1 : Int32) (y3 : Int32) : ∀ (n : Nat) (y2 : Int32) (y4 : Int32), zf_X10_covered_L41 (zm_h q h0 S) q y1 y3 n y2 y4 = zg_X10_covered_L41 S y1 y3 n y2 y4 := by
  intro n
  induction n with
  | zero => intro y2 y4; rfl
  | succ n ih =>
    intro y2 y4
    unfold zf_X10_covered_L41 zg_X10_covered_L41
    simp only [zm_is, not_true_eq_false, if_false, zo_s, zo_m, zo_n0, zo_mi, zo_ms, zo_mb, zo_bm, ih, zm_gi32]
def zg_X10_covered_L18 (y1 : Int32) : Nat → zm_S → Int32 → Int32 → Option (zm_S × Int32)
  | 0, _, _, _ => none
  | n + 1, h, y2, y3 =>
    if (h.1 5) ≤ y3 then
      some (h, y2)
    else
    (zg_X10_isPut h y3 y1).bind fun r6 =>
    let k63 := fun (y63_2 : Int32) =>
      zg_X10_covered_L18 y1 n r6.1 y63_2 (y3 + 1)
    if r6.2 = 0 then
      k63 y2
    else
    (zg_X10_covered_L41 r6.1 y1 y3 2000 y2 (r6.1.1 31)).bind fun w13 =>
    k63 w13
set_option maxHeartbeats 1000000 in
set_option maxRecDepth 100000 in
theorem zh_X10_covered_L18 (q : Nat) (h0 : zc_H) (y1 : Int32) : ∀ (n : Nat) (S : zm_S) (y2 : Int32) (y3 : Int32), zf_X10_covered_L18 q y1 n (zm_h q h0 S) y2 y3 = (zg_X10_covered_L18 y1 n S y2 y3).map (fun r => (zm_h q h0 r.1, r.2)) := by
  intro n
  induction n with
  | zero => intro S y2 y3; rfl
  | succ n ih =>
    intro S y2 y3
    unfold zf_X10_covered_L18 zg_X10_covered_L18
    simp only [zm_is, not_true_eq_false, if_false, zo_s, zo_m, zo_n0, zo_mi, zo_ms, zo_mb, zo_bm, ih, zh_X10_covered_L41, zh_X10_isPut, zm_gi31, zm_gi5]
def zg_X10_covered (h : zm_S) (x1 : Int32) : Option (zm_S × Int32) :=
  (zg_X10_isRevision h x1).bind fun r1 =>
  if r1 = 0 then
    (zg_X10_no h (-1)).bind fun r15 =>
    some (r15.1, r15.2)
  else
  (zg_X10_covered_L18 x1 2000 h 0 0).bind fun w14 =>
  some (w14.1, w14.2)
set_option maxHeartbeats 1000000 in
set_option maxRecDepth 100000 in
theorem zh_X10_covered (q : Nat) (h0 : zc_H) (S : zm_S) (x1 : Int32) : zf_X10_covered (zm_h q h0 S) q x1 = (zg_X10_covered S x1).map (fun r => (zm_h q h0 r.1, r.2)) := by
  unfold zf_X10_covered zg_X10_covered
  simp only [zm_is, not_true_eq_false, if_false, zo_s, zo_m, zo_n0, zo_mi, zo_ms, zo_mb, zo_bm, zh_X10_covered_L18, zh_X10_isRevision, zh_X10_no]
def zg_X10_judge_L94 (y1 : Int32) (y2 : Int32) (y3 : Int32) (y5 : Int32) : Nat → zm_S → Int32 → Option (zm_S × ((Unit) ⊕ (Int32)))
  | 0, _, _ => none
  | n + 1, h, y6 =>
    if y5 < y6 then
      some (h, (.inl ()))
    else
    (zg_X10_of h 0 y2).bind fun r18 =>
    (zg_X10_puts h y2 r18 y3 (y5 - y6)).bind fun r19 =>
    (zg_X10_read r19.1 y1 y6).bind fun r20 =>
    if r20 = (r19.1.1 31) then
      zg_X10_judge_L94 y1 y2 y3 y5 n r19.1 (y6 + 1)
    else
    some (r19.1, (.inr y6))
set_option maxHeartbeats 1000000 in
set_option maxRecDepth 100000 in
theorem zh_X10_judge_L94 (q : Nat) (h0 : zc_H) (y1 : Int32) (y2 : Int32) (y3 : Int32) (y5 : Int32) : ∀ (n : Nat) (S : zm_S) (y6 : Int32), zf_X10_judge_L94 q y1 y2 y3 y5 n (zm_h q h0 S) y6 = (zg_X10_judge_L94 y1 y2 y3 y5 n S y6).map (fun r => (zm_h q h0 r.1, r.2)) := by
  intro n
  induction n with
  | zero => intro S y6; rfl
  | succ n ih =>
    intro S y6
    unfold zf_X10_judge_L94 zg_X10_judge_L94
    simp only [zm_is, not_true_eq_false, if_false, zo_s, zo_m, zo_n0, zo_mi, zo_ms, zo_mb, zo_bm, ih, zh_X10_of, zh_X10_puts, zh_X10_read, zm_gi31]
def zg_X10_judge (h : zm_S) (x1 : Int32) (x2 : Int32) (x3 : Int32) : Option (zm_S × Int32) :=
  (zg_X10_noRow h x1).bind fun r1 =>
  let k29 := fun (_ : Unit) =>
    (zg_X10_no10 h (-1)).bind fun r3 =>
    some (r3.1, r3.2)
  if r1 = (-1) then
    k29 ()
  else
  (zg_X10_isRemark h x2).bind fun r4 =>
  if r4 = 0 then
    k29 ()
  else
  (zg_X10_isRevision h x3).bind fun r6 =>
  if r6 = 0 then
    k29 ()
  else
  if 0 ≤ r1 then
    (zg_X10_of h 2 x2).bind fun r9 =>
    (zg_X10_behind h x3 r9).bind fun r10 =>
    if r10.2 = (-1) then
      (zg_X10_no10 r10.1 (-6)).bind fun r28 =>
      some (r28.1, r28.2)
    else
    (zg_ai 8 (r10.1.2.1 10) x1).bind fun v15 =>
    if r10.2 < v15 then
      (zg_X10_judge_L94 x1 x2 x3 r10.2 2000 r10.1 0).bind fun w24 =>
      Sum.elim (fun t25 =>
        some (w24.1, (-1))
        ) (fun t26 =>
        some (w24.1, t26)
        ) w24.2
    else
    (zg_X10_no10 r10.1 (-5)).bind fun r27 =>
    some (r27.1, r27.2)
  else
  (zg_X10_no10 h r1).bind fun r29 =>
  some (r29.1, r29.2)
set_option maxHeartbeats 1000000 in
set_option maxRecDepth 100000 in
theorem zh_X10_judge (q : Nat) (h0 : zc_H) (S : zm_S) (x1 : Int32) (x2 : Int32) (x3 : Int32) : zf_X10_judge (zm_h q h0 S) q x1 x2 x3 = (zg_X10_judge S x1 x2 x3).map (fun r => (zm_h q h0 r.1, r.2)) := by
  unfold zf_X10_judge zg_X10_judge
  simp only [zm_is, not_true_eq_false, if_false, zo_s, zo_m, zo_n0, zo_mi, zo_ms, zo_mb, zo_bm, zh_X10_behind, zh_X10_isRemark, zh_X10_isRevision, zh_X10_judge_L94, zh_X10_no10, zh_X10_noRow, zh_X10_of, zm_a10, zm_gr10, zm_s10]
def zg_X10_copies_L17 (y1 : Int32) : Nat → zm_S → Int32 → Option (zm_S)
  | 0, _, _ => none
  | n + 1, h, y2 =>
    if 24 ≤ y2 then
      some h
    else
    (zg_aj 408 (h.2.2 3) ((24 * y1) + y2)).bind fun v19 =>
    (zg_sj 3 408 h ((24 * (h.1 0)) + y2) v19).bind fun h21 =>
    zg_X10_copies_L17 y1 n h21 (y2 + 1)
set_option maxHeartbeats 1000000 in
set_option maxRecDepth 100000 in
theorem zh_X10_copies_L17 (q : Nat) (h0 : zc_H) (y1 : Int32) : ∀ (n : Nat) (S : zm_S) (y2 : Int32), zf_X10_copies_L17 q y1 n (zm_h q h0 S) y2 = (zg_X10_copies_L17 y1 n S y2).map (zm_h q h0) := by
  intro n
  induction n with
  | zero => intro S y2; rfl
  | succ n ih =>
    intro S y2
    unfold zf_X10_copies_L17 zg_X10_copies_L17
    simp only [zm_is, not_true_eq_false, if_false, zo_s, zo_m, zo_n0, zo_mi, zo_ms, zo_mb, zo_bm, ih, zm_a3, zm_gi0, zm_gr3, zm_s3]
def zg_X10_copies (h : zm_S) (x1 : Int32) : Option (zm_S) :=
  (zg_ai 17 (h.2.1 2) x1).bind fun v8 =>
  (zg_si 2 17 h (h.1 0) v8).bind fun h10 =>
  (zg_X10_copies_L17 x1 2000 h10 0).bind fun w22 =>
  some w22
set_option maxHeartbeats 1000000 in
set_option maxRecDepth 100000 in
theorem zh_X10_copies (q : Nat) (h0 : zc_H) (S : zm_S) (x1 : Int32) : zf_X10_copies (zm_h q h0 S) q x1 = (zg_X10_copies S x1).map (zm_h q h0) := by
  unfold zf_X10_copies zg_X10_copies
  simp only [zm_is, not_true_eq_false, if_false, zo_s, zo_m, zo_n0, zo_mi, zo_ms, zo_mb, zo_bm, zh_X10_copies_L17, zm_a2, zm_gi0, zm_gr2, zm_s2]
def zg_X10_again_L44 (h : zm_S) (y1 : Int32) (y2 : Int32) : Nat → Int32 → Int32 → Option (Int32)
  | 0, _, _ => none
  | n + 1, y3, y4 =>
    if (h.1 5) ≤ y4 then
      some y3
    else
    (zg_X10_of h 2 y4).bind fun r11 =>
    let k78 := fun (y78_3 : Int32) =>
      zg_X10_again_L44 h y1 y2 n y78_3 (y4 + 1)
    if r11 = y1 then
      (zg_X10_of h 6 y4).bind fun r13 =>
      if r13 = 0 then
        k78 (y3 + 1)
      else
      k78 y3
    else
    k78 y3
set_option maxHeartbeats 1000000 in
set_option maxRecDepth 100000 in
theorem zh_X10_again_L44 (q : Nat) (h0 : zc_H) (S : zm_S) (y1 : Int32) (y2 : Int32) : ∀ (n : Nat) (y3 : Int32) (y4 : Int32), zf_X10_again_L44 (zm_h q h0 S) q y1 y2 n y3 y4 = zg_X10_again_L44 S y1 y2 n y3 y4 := by
  intro n
  induction n with
  | zero => intro y3 y4; rfl
  | succ n ih =>
    intro y3 y4
    unfold zf_X10_again_L44 zg_X10_again_L44
    simp only [zm_is, not_true_eq_false, if_false, zo_s, zo_m, zo_n0, zo_mi, zo_ms, zo_mb, zo_bm, ih, zh_X10_of, zm_gi5]
def zg_X10_again_L132 (y1 : Int32) (y3 : Int32) (y4 : Int32) (y5 : Int32) : Nat → zm_S → Int32 → Option (zm_S)
  | 0, _, _ => none
  | n + 1, h, y6 =>
    if y5 ≤ y6 then
      some h
    else
    (zg_X10_of h 2 y6).bind fun r28 =>
    let k203 := fun (h203j : zm_S) =>
      zg_X10_again_L132 y1 y3 y4 y5 n h203j (y6 + 1)
    if r28 = y1 then
      (zg_X10_of h 6 y6).bind fun r30 =>
      if r30 = 0 then
        (zg_X10_of h 0 y6).bind fun r32 =>
        (zg_X10_of h 1 y6).bind fun r33 =>
        (zg_X10_of h 3 y6).bind fun r34 =>
        (zg_X10_of h 4 y6).bind fun r35 =>
        (zg_X10_of h 5 y6).bind fun r36 =>
        (zg_X10_newRemark h r32 r33 y4 r34 r35 r36).bind fun r37 =>
        k203 r37.1
      else
      k203 h
    else
    k203 h
set_option maxHeartbeats 1000000 in
set_option maxRecDepth 100000 in
theorem zh_X10_again_L132 (q : Nat) (h0 : zc_H) (y1 : Int32) (y3 : Int32) (y4 : Int32) (y5 : Int32) : ∀ (n : Nat) (S : zm_S) (y6 : Int32), zf_X10_again_L132 q y1 y3 y4 y5 n (zm_h q h0 S) y6 = (zg_X10_again_L132 y1 y3 y4 y5 n S y6).map (zm_h q h0) := by
  intro n
  induction n with
  | zero => intro S y6; rfl
  | succ n ih =>
    intro S y6
    unfold zf_X10_again_L132 zg_X10_again_L132
    dsimp only
    simp only [zm_is, not_true_eq_false, if_false, zo_s, zo_m, zo_n0, zo_mi, zo_ms, zo_mb, zo_bm, ih, zh_X10_newRemark, zh_X10_of]
def zg_X10_again (h : zm_S) (x1 : Int32) (x2 : Int32) : Option (zm_S × Int32) :=
  (zg_X10_isRevision h x1).bind fun r1 =>
  let k16 := fun (_ : Unit) =>
    (zg_X10_no h (-1)).bind fun r3 =>
    some (r3.1, r3.2)
  if r1 = 0 then
    k16 ()
  else
  (zg_X10_isRevision h x2).bind fun r4 =>
  if r4 = 0 then
    k16 ()
  else
  (zg_X10_behind h x2 x1).bind fun r6 =>
  if r6.2 = (-1) then
    (zg_X10_again_L44 r6.1 x1 x2 2000 0 0).bind fun w15 =>
    let k104 := fun (_ : Unit) =>
      (zg_X10_no r6.1 (-7)).bind fun r19 =>
      some (r19.1, r19.2)
    if (r6.1.1 0) = 16 then
      k104 ()
    else
    if ((r6.1.1 5) + w15) ≤ 16 then
      (zg_X10_copies r6.1 x1).bind fun r23 =>
      (zg_X10_comesTo r23 x2).bind fun r24 =>
      (zg_X10_again_L132 x1 w15 r24.2 (r24.1.1 5) 2000 r24.1 0).bind fun w38 =>
      some (w38, w15)
    else
    k104 ()
  else
  (zg_X10_no r6.1 (-6)).bind fun r39 =>
  some (r39.1, r39.2)
set_option maxHeartbeats 1000000 in
set_option maxRecDepth 100000 in
theorem zh_X10_again (q : Nat) (h0 : zc_H) (S : zm_S) (x1 : Int32) (x2 : Int32) : zf_X10_again (zm_h q h0 S) q x1 x2 = (zg_X10_again S x1 x2).map (fun r => (zm_h q h0 r.1, r.2)) := by
  unfold zf_X10_again zg_X10_again
  simp only [zm_is, not_true_eq_false, if_false, zo_s, zo_m, zo_n0, zo_mi, zo_ms, zo_mb, zo_bm, zh_X10_again_L132, zh_X10_again_L44, zh_X10_behind, zh_X10_comesTo, zh_X10_copies, zh_X10_isRevision, zh_X10_no, zm_gi0, zm_gi5]
def zg_X10_draw (h : zm_S) (x1 : Int32) : Option (zm_S × Int32) :=
  (some (zg_p h 8 ((((h.1 8) * 1103515245) + 12345)))).bind fun h3 =>
  if x1 = 0 then none else
  some (h3, (((((h3.1 8)).toUInt32 >>> ((16 : Int32).toUInt32 &&& Int32.toUInt32 31)).toInt32) - ((((h3.1 8)).toUInt32 >>> ((16 : Int32).toUInt32 &&& Int32.toUInt32 31)).toInt32) / x1 * x1))
set_option maxHeartbeats 1000000 in
set_option maxRecDepth 100000 in
theorem zh_X10_draw (q : Nat) (h0 : zc_H) (S : zm_S) (x1 : Int32) : zf_X10_draw (zm_h q h0 S) q x1 = (zg_X10_draw S x1).map (fun r => (zm_h q h0 r.1, r.2)) := by
  unfold zf_X10_draw zg_X10_draw
  simp only [zm_is, not_true_eq_false, if_false, zo_s, zo_m, zo_n0, zo_mi, zo_ms, zo_mb, zo_bm, zm_gi8, zm_p8]
def zg_X10_drifts_L205 (y1 : Int32) (y2 : Int32) (y3 : Int32) (y4 : Int32) (y5 : Int32) (y6 : Int64) : Nat → zm_S → Int32 → Option (zm_S)
  | 0, _, _ => none
  | n + 1, h, y8 =>
    if y8 ≤ 0 then
      some h
    else
    (zg_aj 408 (h.2.2 3) ((y2 + y8) - 1)).bind fun v31 =>
    (zg_sj 3 408 h (y2 + y8) v31).bind fun h33 =>
    zg_X10_drifts_L205 y1 y2 y3 y4 y5 y6 n h33 (y8 + (-1))
set_option maxHeartbeats 1000000 in
set_option maxRecDepth 100000 in
theorem zh_X10_drifts_L205 (q : Nat) (h0 : zc_H) (y1 : Int32) (y2 : Int32) (y3 : Int32) (y4 : Int32) (y5 : Int32) (y6 : Int64) : ∀ (n : Nat) (S : zm_S) (y8 : Int32), zf_X10_drifts_L205 q y1 y2 y3 y4 y5 y6 n (zm_h q h0 S) y8 = (zg_X10_drifts_L205 y1 y2 y3 y4 y5 y6 n S y8).map (zm_h q h0) := by
  intro n
  induction n with
  | zero => intro S y8; rfl
  | succ n ih =>
    intro S y8
    unfold zf_X10_drifts_L205 zg_X10_drifts_L205
    simp only [zm_is, not_true_eq_false, if_false, zo_s, zo_m, zo_n0, zo_mi, zo_ms, zo_mb, zo_bm, ih, zm_a3, zm_gr3, zm_s3]
def zg_X10_drifts_L136 (y1 : Int32) (y2 : Int32) (y3 : Int32) (y4 : Int32) (y5 : Int32) : Nat → zm_S → Int32 → Option (zm_S)
  | 0, _, _ => none
  | n + 1, h, y6 =>
    if (y3 - 1) ≤ y6 then
      some h
    else
    (zg_aj 408 (h.2.2 3) ((y2 + y6) + 1)).bind fun v46 =>
    (zg_sj 3 408 h (y2 + y6) v46).bind fun h48 =>
    zg_X10_drifts_L136 y1 y2 y3 y4 y5 n h48 (y6 + 1)
set_option maxHeartbeats 1000000 in
set_option maxRecDepth 100000 in
theorem zh_X10_drifts_L136 (q : Nat) (h0 : zc_H) (y1 : Int32) (y2 : Int32) (y3 : Int32) (y4 : Int32) (y5 : Int32) : ∀ (n : Nat) (S : zm_S) (y6 : Int32), zf_X10_drifts_L136 q y1 y2 y3 y4 y5 n (zm_h q h0 S) y6 = (zg_X10_drifts_L136 y1 y2 y3 y4 y5 n S y6).map (zm_h q h0) := by
  intro n
  induction n with
  | zero => intro S y6; rfl
  | succ n ih =>
    intro S y6
    unfold zf_X10_drifts_L136 zg_X10_drifts_L136
    simp only [zm_is, not_true_eq_false, if_false, zo_s, zo_m, zo_n0, zo_mi, zo_ms, zo_mb, zo_bm, ih, zm_a3, zm_gr3, zm_s3]
def zg_X10_drifts_L60 (y1 : Int32) (y2 : Int32) (y3 : Int32) (y4 : Int32) (y5 : Int32) : Nat → zm_S → Int32 → Option (zm_S)
  | 0, _, _ => none
  | n + 1, h, y6 =>
    if y6 ≤ y5 then
      some h
    else
    (zg_aj 408 (h.2.2 3) ((y2 + y6) - 1)).bind fun v62 =>
    (zg_sj 3 408 h (y2 + y6) v62).bind fun h64 =>
    zg_X10_drifts_L60 y1 y2 y3 y4 y5 n h64 (y6 + (-1))
set_option maxHeartbeats 1000000 in
set_option maxRecDepth 100000 in
theorem zh_X10_drifts_L60 (q : Nat) (h0 : zc_H) (y1 : Int32) (y2 : Int32) (y3 : Int32) (y4 : Int32) (y5 : Int32) : ∀ (n : Nat) (S : zm_S) (y6 : Int32), zf_X10_drifts_L60 q y1 y2 y3 y4 y5 n (zm_h q h0 S) y6 = (zg_X10_drifts_L60 y1 y2 y3 y4 y5 n S y6).map (zm_h q h0) := by
  intro n
  induction n with
  | zero => intro S y6; rfl
  | succ n ih =>
    intro S y6
    unfold zf_X10_drifts_L60 zg_X10_drifts_L60
    simp only [zm_is, not_true_eq_false, if_false, zo_s, zo_m, zo_n0, zo_mi, zo_ms, zo_mb, zo_bm, ih, zm_a3, zm_gr3, zm_s3]
def zg_X10_drifts (h : zm_S) : Option (zm_S) :=
  (zg_X10_copies h ((h.1 0) - 1)).bind fun r3 =>
  (zg_ai 17 (r3.2.1 2) (h.1 0)).bind fun v7 =>
  (zg_X10_draw r3 4).bind fun r8 =>
  let k44 := fun (h44j : zm_S) (s44_0 : Int32) =>
    let k122 := fun (h122j : zm_S) =>
      let k180 := fun (h180j : zm_S) =>
        let k244 := fun (h244j : zm_S) =>
          let k266 := fun (h266j : zm_S) =>
            (zg_X10_comesTo h266j ((h.1 0) - 1)).bind fun r14 =>
            some r14.1
          if r8.2 = 3 then
            if v7 ≤ 0 then
              k266 h244j
            else
            (zg_sj 3 408 h244j ((24 * (h.1 0)) + s44_0) 122).bind fun h19 =>
            k266 h19
          else
          k266 h244j
        if r8.2 = 2 then
          if v7 ≤ 0 then
            k244 h180j
          else
          (zg_aj 408 (h180j.2.2 3) ((24 * (h.1 0)) + s44_0)).bind fun v24 =>
          (zg_X10_drifts_L205 (h.1 0) (24 * (h.1 0)) v7 r8.2 s44_0 v24 2000 h180j s44_0).bind fun w34 =>
          (zg_sj 3 408 w34 (24 * (h.1 0)) v24).bind fun h38 =>
          k244 h38
        else
        k244 h180j
      if r8.2 = 1 then
        if v7 ≤ 0 then
          k180 h122j
        else
        (zg_X10_drifts_L136 (h.1 0) (24 * (h.1 0)) v7 r8.2 s44_0 2000 h122j s44_0).bind fun w49 =>
        (zg_ai 17 (w49.2.1 2) (h.1 0)).bind fun v53 =>
        (zg_si 2 17 w49 (h.1 0) (v53 - 1)).bind fun h54 =>
        k180 h54
      else
      k180 h122j
    if r8.2 = 0 then
      if 24 ≤ v7 then
        k122 h44j
      else
      (zg_X10_drifts_L60 (h.1 0) (24 * (h.1 0)) v7 r8.2 s44_0 2000 h44j v7).bind fun w65 =>
      (zg_X10_draw w65 26).bind fun r68 =>
      (zg_sj 3 408 r68.1 ((24 * (h.1 0)) + s44_0) (((97 + r68.2) : Int32).toInt64)).bind fun h70 =>
      (zg_ai 17 (h70.2.1 2) (h.1 0)).bind fun v74 =>
      (zg_si 2 17 h70 (h.1 0) (v74 + 1)).bind fun h75 =>
      k122 h75
    else
    k122 h44j
  if v7 = 0 then
    k44 r8.1 0
  else
  (zg_X10_draw r8.1 v7).bind fun r76 =>
  k44 r76.1 r76.2
set_option maxHeartbeats 1000000 in
set_option maxRecDepth 100000 in
theorem zh_X10_drifts (q : Nat) (h0 : zc_H) (S : zm_S)  : zf_X10_drifts (zm_h q h0 S) q  = (zg_X10_drifts S ).map (zm_h q h0) := by
  unfold zf_X10_drifts zg_X10_drifts
  dsimp only
  simp only [zm_is, not_true_eq_false, if_false, zo_s, zo_m, zo_n0, zo_mi, zo_ms, zo_mb, zo_bm, zh_X10_comesTo, zh_X10_copies, zh_X10_draw, zh_X10_drifts_L136, zh_X10_drifts_L205, zh_X10_drifts_L60, zm_a2, zm_a3, zm_gi0, zm_gr2, zm_gr3, zm_s2, zm_s3]
def zg_X10_drift_L51 (y1 : Int32) : Nat → zm_S → Int32 → Option (zm_S)
  | 0, _, _ => none
  | n + 1, h, y2 =>
    if y1 ≤ y2 then
      some h
    else
    (zg_X10_drifts h).bind fun r10 =>
    zg_X10_drift_L51 y1 n r10 (y2 + 1)
set_option maxHeartbeats 1000000 in
set_option maxRecDepth 100000 in
theorem zh_X10_drift_L51 (q : Nat) (h0 : zc_H) (y1 : Int32) : ∀ (n : Nat) (S : zm_S) (y2 : Int32), zf_X10_drift_L51 q y1 n (zm_h q h0 S) y2 = (zg_X10_drift_L51 y1 n S y2).map (zm_h q h0) := by
  intro n
  induction n with
  | zero => intro S y2; rfl
  | succ n ih =>
    intro S y2
    unfold zf_X10_drift_L51 zg_X10_drift_L51
    simp only [zm_is, not_true_eq_false, if_false, zo_s, zo_m, zo_n0, zo_mi, zo_ms, zo_mb, zo_bm, ih, zh_X10_drifts]
def zg_X10_drift (h : zm_S) (x1 : Int32) : Option (zm_S × Int32) :=
  if (h.1 0) = 0 then
    (zg_X10_no h (-5)).bind fun r16 =>
    some (r16.1, r16.2)
  else
  (zg_X10_within h x1 1 15).bind fun r4 =>
  if r4 = 0 then
    (zg_X10_no h (-6)).bind fun r15 =>
    some (r15.1, r15.2)
  else
  if ((h.1 0) + x1) ≤ 16 then
    (zg_X10_drift_L51 x1 2000 h 0).bind fun w11 =>
    some (w11, ((w11.1 0) - 1))
  else
  (zg_X10_no h (-7)).bind fun r14 =>
  some (r14.1, r14.2)
set_option maxHeartbeats 1000000 in
set_option maxRecDepth 100000 in
theorem zh_X10_drift (q : Nat) (h0 : zc_H) (S : zm_S) (x1 : Int32) : zf_X10_drift (zm_h q h0 S) q x1 = (zg_X10_drift S x1).map (fun r => (zm_h q h0 r.1, r.2)) := by
  unfold zf_X10_drift zg_X10_drift
  simp only [zm_is, not_true_eq_false, if_false, zo_s, zo_m, zo_n0, zo_mi, zo_ms, zo_mb, zo_bm, zh_X10_drift_L51, zh_X10_no, zh_X10_within, zm_gi0]
def zg_X10_seed (h : zm_S) (x1 : Int32) : Option (zm_S × Int32) :=
  (some (zg_p h 8 (x1))).bind fun h3 =>
  some (h3, (h.1 8))
set_option maxHeartbeats 1000000 in
set_option maxRecDepth 100000 in
theorem zh_X10_seed (q : Nat) (h0 : zc_H) (S : zm_S) (x1 : Int32) : zf_X10_seed (zm_h q h0 S) q x1 = (zg_X10_seed S x1).map (fun r => (zm_h q h0 r.1, r.2)) := by
  unfold zf_X10_seed zg_X10_seed
  simp only [zm_is, not_true_eq_false, if_false, zo_s, zo_m, zo_n0, zo_mi, zo_ms, zo_mb, zo_bm, zm_gi8, zm_p8]
def zg_X10_ran (h : zm_S) (x1 : Int32) : Option (zm_S) :=
  let k19 := fun (h19j : zm_S) =>
    (some (zg_p h19j 13 (((h19j.1 13) + 1)))).bind fun h6 =>
    some h6
  if 20 ≤ (h.1 13) then
    k19 h
  else
  (zg_si 14 20 h (h.1 13) x1).bind fun h12 =>
  k19 h12
set_option maxHeartbeats 1000000 in
set_option maxRecDepth 100000 in
theorem zh_X10_ran (q : Nat) (h0 : zc_H) (S : zm_S) (x1 : Int32) : zf_X10_ran (zm_h q h0 S) q x1 = (zg_X10_ran S x1).map (zm_h q h0) := by
  unfold zf_X10_ran zg_X10_ran
  dsimp only
  simp only [zm_is, not_true_eq_false, if_false, zo_s, zo_m, zo_n0, zo_mi, zo_ms, zo_mb, zo_bm, zm_a14, zm_gi13, zm_gr14, zm_p13, zm_s14]
def zg_X10_points : Nat → zm_S → Int32 → Int32 → Int32 → Option (zm_S × Int32)
  | 0, _, _, _, _ => none
  | d + 1, h, x1, x2, x3 =>
    if x2 = 0 then
      (zg_X10_ran h 10).bind fun r2 =>
      some (r2, (x3 + x1))
    else
    if x2 = 1 then
      (zg_X10_ran h 20).bind fun r4 =>
      (zg_X10_points d r4 x1 0 x3).bind fun r5 =>
      (zg_X10_of r5.1 1 x1).bind fun r6 =>
      some (r5.1, (r5.2 + r6))
    else
    if x2 = 2 then
      (zg_X10_above h x2).bind fun r8 =>
      (zg_X10_points d h x1 r8 x3).bind fun r9 =>
      some (r9.1, r9.2)
    else
    if x2 = 3 then
      (zg_X10_ran h 40).bind fun r11 =>
      (zg_X10_points d r11 x1 1 (x3 + 1)).bind fun r12 =>
      some (r12.1, r12.2)
    else
    if x2 = 4 then
      (zg_X10_ran h 51).bind fun r14 =>
      (zg_X10_points d r14 x1 0 x3).bind fun r15 =>
      some (r15.1, (r15.2 - x1))
    else
    if x2 = 5 then
      (zg_X10_above h x2).bind fun r17 =>
      (zg_X10_points d h x1 r17 x3).bind fun r18 =>
      some (r18.1, r18.2)
    else
    if x2 = 6 then
      (zg_X10_ran h 70).bind fun r20 =>
      (zg_X10_points d r20 x1 3 x3).bind fun r21 =>
      some (r21.1, (r21.2 * 2))
    else
    (zg_X10_above h x2).bind fun r22 =>
    (zg_X10_points d h x1 r22 x3).bind fun r23 =>
    some (r23.1, r23.2)
set_option maxHeartbeats 1000000 in
set_option maxRecDepth 100000 in
theorem zh_X10_points (q : Nat) (h0 : zc_H) : ∀ (d : Nat) (S : zm_S) (x1 : Int32) (x2 : Int32) (x3 : Int32), zf_X10_points d (zm_h q h0 S) q x1 x2 x3 = (zg_X10_points d S x1 x2 x3).map (fun r => (zm_h q h0 r.1, r.2)) := by
  intro d
  induction d with
  | zero => intro S x1 x2 x3; rfl
  | succ d ih =>
    intro S x1 x2 x3
    unfold zf_X10_points zg_X10_points
    simp only [zm_is, not_true_eq_false, if_false, zo_s, zo_m, zo_n0, zo_mi, zo_ms, zo_mb, zo_bm, ih, zh_X10_above, zh_X10_of, zh_X10_ran]
def zg_X10_weighs : Nat → zm_S → Int32 → Int32 → Int32 → Option (zm_S × Int32)
  | 0, _, _, _, _ => none
  | d + 1, h, x1, x2, x3 =>
    if x2 = 0 then
      (zg_X10_ran h 11).bind fun r2 =>
      (zg_X10_of r2 0 x1).bind fun r3 =>
      (zg_X10_points 20 r2 x1 r3 x3).bind fun r4 =>
      some (r4.1, (r4.2 * 2))
    else
    if x2 = 2 then
      (zg_X10_ran h 30).bind fun r6 =>
      (zg_X10_weighs d r6 x1 0 x3).bind fun r7 =>
      some (r7.1, (r7.2 * 3))
    else
    if x2 = 6 then
      (zg_X10_ran h 71).bind fun r9 =>
      (zg_X10_of r9 1 x1).bind fun r10 =>
      (zg_X10_weighs d r9 x1 3 (x3 - r10)).bind fun r11 =>
      some (r11.1, r11.2)
    else
    (zg_X10_above h x2).bind fun r12 =>
    (zg_X10_weighs d h x1 r12 x3).bind fun r13 =>
    some (r13.1, r13.2)
set_option maxHeartbeats 1000000 in
set_option maxRecDepth 100000 in
theorem zh_X10_weighs (q : Nat) (h0 : zc_H) : ∀ (d : Nat) (S : zm_S) (x1 : Int32) (x2 : Int32) (x3 : Int32), zf_X10_weighs d (zm_h q h0 S) q x1 x2 x3 = (zg_X10_weighs d S x1 x2 x3).map (fun r => (zm_h q h0 r.1, r.2)) := by
  intro d
  induction d with
  | zero => intro S x1 x2 x3; rfl
  | succ d ih =>
    intro S x1 x2 x3
    unfold zf_X10_weighs zg_X10_weighs
    simp only [zm_is, not_true_eq_false, if_false, zo_s, zo_m, zo_n0, zo_mi, zo_ms, zo_mb, zo_bm, ih, zh_X10_above, zh_X10_of, zh_X10_points, zh_X10_ran]
def zg_X10_clings : Nat → zm_S → Int32 → Int32 → Int32 → Option (zm_S × Int32)
  | 0, _, _, _, _ => none
  | d + 1, h, x1, x2, x3 =>
    if x2 = 0 then
      (zg_X10_ran h 12).bind fun r2 =>
      (zg_X10_of r2 0 x1).bind fun r3 =>
      (zg_X10_weighs 20 r2 x1 r3 x3).bind fun r4 =>
      (zg_X10_of r4.1 0 x1).bind fun r5 =>
      (zg_X10_of r4.1 1 x1).bind fun r6 =>
      (zg_X10_points 20 r4.1 x1 r5 (x3 - r6)).bind fun r7 =>
      some (r7.1, (r4.2 ^^^ r7.2))
    else
    if x2 = 4 then
      (zg_X10_ran h 50).bind fun r9 =>
      (zg_X10_clings d r9 x1 0 x3).bind fun r10 =>
      some (r10.1, (-r10.2))
    else
    if x2 = 5 then
      (zg_X10_ran h 60).bind fun r12 =>
      (zg_X10_clings d r12 x1 2 x3).bind fun r13 =>
      some (r13.1, (r13.2 ^^^ 5))
    else
    (zg_X10_above h x2).bind fun r14 =>
    (zg_X10_clings d h x1 r14 x3).bind fun r15 =>
    some (r15.1, r15.2)
set_option maxHeartbeats 1000000 in
set_option maxRecDepth 100000 in
theorem zh_X10_clings (q : Nat) (h0 : zc_H) : ∀ (d : Nat) (S : zm_S) (x1 : Int32) (x2 : Int32) (x3 : Int32), zf_X10_clings d (zm_h q h0 S) q x1 x2 x3 = (zg_X10_clings d S x1 x2 x3).map (fun r => (zm_h q h0 r.1, r.2)) := by
  intro d
  induction d with
  | zero => intro S x1 x2 x3; rfl
  | succ d ih =>
    intro S x1 x2 x3
    unfold zf_X10_clings zg_X10_clings
    simp only [zm_is, not_true_eq_false, if_false, zo_s, zo_m, zo_n0, zo_mi, zo_ms, zo_mb, zo_bm, ih, zh_X10_above, zh_X10_of, zh_X10_points, zh_X10_ran, zh_X10_weighs]
def zg_X10_act (h : zm_S) (x1 : Int32) (x2 : Int32) (x3 : Int32) : Option (zm_S × Int32) :=
  (some (zg_p h 13 (0))).bind fun h1 =>
  (zg_X10_isRemark h1 x1).bind fun r2 =>
  if r2 = 0 then
    some (h1, 0)
  else
  (zg_X10_within h1 x2 0 2).bind fun r4 =>
  if r4 = 0 then
    some (h1, 0)
  else
  (zg_X10_of h1 0 x1).bind fun r6 =>
  if x2 = 0 then
    (zg_X10_points 20 h1 x1 r6 x3).bind fun r11 =>
    some (r11.1, r11.2)
  else
  if x2 = 1 then
    (zg_X10_weighs 20 h1 x1 r6 x3).bind fun r10 =>
    some (r10.1, r10.2)
  else
  (zg_X10_clings 20 h1 x1 r6 x3).bind fun r9 =>
  some (r9.1, r9.2)
set_option maxHeartbeats 1000000 in
set_option maxRecDepth 100000 in
theorem zh_X10_act (q : Nat) (h0 : zc_H) (S : zm_S) (x1 : Int32) (x2 : Int32) (x3 : Int32) : zf_X10_act (zm_h q h0 S) q x1 x2 x3 = (zg_X10_act S x1 x2 x3).map (fun r => (zm_h q h0 r.1, r.2)) := by
  unfold zf_X10_act zg_X10_act
  simp only [zm_is, not_true_eq_false, if_false, zo_s, zo_m, zo_n0, zo_mi, zo_ms, zo_mb, zo_bm, zh_X10_clings, zh_X10_isRemark, zh_X10_of, zh_X10_points, zh_X10_weighs, zh_X10_within, zm_p13]
def zg_X10_trace (h : zm_S) (x1 : Int32) : Option (Int32) :=
  (zg_X10_within h x1 0 ((if (h.1 13) < 20 then (h.1 13) else 20) - 1)).bind fun r3 =>
  if r3 = 0 then
    some (-1)
  else
  (zg_ai 20 (h.2.1 14) x1).bind fun v8 =>
  some v8
set_option maxHeartbeats 1000000 in
set_option maxRecDepth 100000 in
theorem zh_X10_trace (q : Nat) (h0 : zc_H) (S : zm_S) (x1 : Int32) : zf_X10_trace (zm_h q h0 S) q x1 = zg_X10_trace S x1 := by
  unfold zf_X10_trace zg_X10_trace
  simp only [zm_is, not_true_eq_false, if_false, zo_s, zo_m, zo_n0, zo_mi, zo_ms, zo_mb, zo_bm, zh_X10_within, zm_a14, zm_gi13, zm_gr14, zm_s14]
def zg_X10_image_L31 : Nat → zm_S → Int32 → Option (zm_S)
  | 0, _, _ => none
  | n + 1, h, y1 =>
    if 16 ≤ y1 then
      some h
    else
    (zg_ai 16 (h.2.1 1) y1).bind fun v17 =>
    (zg_si 18 16 h y1 v17).bind fun h19 =>
    (zg_ai 17 (h19.2.1 2) y1).bind fun v25 =>
    (zg_si 19 16 h19 y1 v25).bind fun h27 =>
    zg_X10_image_L31 n h27 (y1 + 1)
set_option maxHeartbeats 1000000 in
set_option maxRecDepth 100000 in
theorem zh_X10_image_L31 (q : Nat) (h0 : zc_H)  : ∀ (n : Nat) (S : zm_S) (y1 : Int32), zf_X10_image_L31 q  n (zm_h q h0 S) y1 = (zg_X10_image_L31  n S y1).map (zm_h q h0) := by
  intro n
  induction n with
  | zero => intro S y1; rfl
  | succ n ih =>
    intro S y1
    unfold zf_X10_image_L31 zg_X10_image_L31
    simp only [zm_is, not_true_eq_false, if_false, zo_s, zo_m, zo_n0, zo_mi, zo_ms, zo_mb, zo_bm, ih, zm_a1, zm_a18, zm_a19, zm_a2, zm_gr1, zm_gr18, zm_gr19, zm_gr2, zm_s1, zm_s18, zm_s19, zm_s2]
def zg_X10_image_L69 : Nat → zm_S → Int32 → Option (zm_S)
  | 0, _, _ => none
  | n + 1, h, y1 =>
    if 384 ≤ y1 then
      some h
    else
    (zg_aj 408 (h.2.2 3) y1).bind fun v35 =>
    (zg_sj 20 384 h y1 v35).bind fun h37 =>
    zg_X10_image_L69 n h37 (y1 + 1)
set_option maxHeartbeats 1000000 in
set_option maxRecDepth 100000 in
theorem zh_X10_image_L69 (q : Nat) (h0 : zc_H)  : ∀ (n : Nat) (S : zm_S) (y1 : Int32), zf_X10_image_L69 q  n (zm_h q h0 S) y1 = (zg_X10_image_L69  n S y1).map (zm_h q h0) := by
  intro n
  induction n with
  | zero => intro S y1; rfl
  | succ n ih =>
    intro S y1
    unfold zf_X10_image_L69 zg_X10_image_L69
    simp only [zm_is, not_true_eq_false, if_false, zo_s, zo_m, zo_n0, zo_mi, zo_ms, zo_mb, zo_bm, ih, zm_a20, zm_a3, zm_gr20, zm_gr3, zm_s20, zm_s3]
def zg_X10_image_L96 : Nat → zm_S → Int32 → Option (zm_S)
  | 0, _, _ => none
  | n + 1, h, y1 =>
    if 112 ≤ y1 then
      some h
    else
    (zg_ai 112 (h.2.1 6) y1).bind fun v45 =>
    (zg_si 22 112 h y1 v45).bind fun h47 =>
    zg_X10_image_L96 n h47 (y1 + 1)
set_option maxHeartbeats 1000000 in
set_option maxRecDepth 100000 in
theorem zh_X10_image_L96 (q : Nat) (h0 : zc_H)  : ∀ (n : Nat) (S : zm_S) (y1 : Int32), zf_X10_image_L96 q  n (zm_h q h0 S) y1 = (zg_X10_image_L96  n S y1).map (zm_h q h0) := by
  intro n
  induction n with
  | zero => intro S y1; rfl
  | succ n ih =>
    intro S y1
    unfold zf_X10_image_L96 zg_X10_image_L96
    simp only [zm_is, not_true_eq_false, if_false, zo_s, zo_m, zo_n0, zo_mi, zo_ms, zo_mb, zo_bm, ih, zm_a22, zm_a6, zm_gr22, zm_gr6, zm_s22, zm_s6]
def zg_X10_image_L122 : Nat → zm_S → Int32 → Option (zm_S)
  | 0, _, _ => none
  | n + 1, h, y1 =>
    if 3 ≤ y1 then
      some h
    else
    (zg_ai 3 (h.2.1 7) y1).bind fun v55 =>
    (zg_si 23 3 h y1 v55).bind fun h57 =>
    zg_X10_image_L122 n h57 (y1 + 1)
set_option maxHeartbeats 1000000 in
set_option maxRecDepth 100000 in
theorem zh_X10_image_L122 (q : Nat) (h0 : zc_H)  : ∀ (n : Nat) (S : zm_S) (y1 : Int32), zf_X10_image_L122 q  n (zm_h q h0 S) y1 = (zg_X10_image_L122  n S y1).map (zm_h q h0) := by
  intro n
  induction n with
  | zero => intro S y1; rfl
  | succ n ih =>
    intro S y1
    unfold zf_X10_image_L122 zg_X10_image_L122
    simp only [zm_is, not_true_eq_false, if_false, zo_s, zo_m, zo_n0, zo_mi, zo_ms, zo_mb, zo_bm, ih, zm_a23, zm_a7, zm_gr23, zm_gr7, zm_s23, zm_s7]
def zg_X10_image (h : zm_S) : Option (zm_S × Int32) :=
  (some (zg_p h 16 (1))).bind fun h1 =>
  (some (zg_p h1 17 ((h1.1 0)))).bind fun h4 =>
  (some (zg_p h4 21 ((h4.1 5)))).bind fun h7 =>
  (some (zg_p h7 24 ((h7.1 8)))).bind fun h10 =>
  (zg_X10_image_L31 2000 h10 0).bind fun w28 =>
  (zg_X10_image_L69 2000 w28 0).bind fun w38 =>
  (zg_X10_image_L96 2000 w38 0).bind fun w48 =>
  (zg_X10_image_L122 2000 w48 0).bind fun w58 =>
  some (w58, (w58.1 5))
set_option maxHeartbeats 1000000 in
set_option maxRecDepth 100000 in
theorem zh_X10_image (q : Nat) (h0 : zc_H) (S : zm_S)  : zf_X10_image (zm_h q h0 S) q  = (zg_X10_image S ).map (fun r => (zm_h q h0 r.1, r.2)) := by
  unfold zf_X10_image zg_X10_image
  simp only [zm_is, not_true_eq_false, if_false, zo_s, zo_m, zo_n0, zo_mi, zo_ms, zo_mb, zo_bm, zh_X10_image_L122, zh_X10_image_L31, zh_X10_image_L69, zh_X10_image_L96, zm_gi0, zm_gi5, zm_gi8, zm_p16, zm_p17, zm_p21, zm_p24]
def zg_X10_restore_L40 : Nat → zm_S → Int32 → Option (zm_S)
  | 0, _, _ => none
  | n + 1, h, y1 =>
    if 16 ≤ y1 then
      some h
    else
    (zg_ai 16 (h.2.1 18) y1).bind fun v19 =>
    (zg_si 1 16 h y1 v19).bind fun h21 =>
    (zg_ai 16 (h21.2.1 19) y1).bind fun v27 =>
    (zg_si 2 17 h21 y1 v27).bind fun h29 =>
    zg_X10_restore_L40 n h29 (y1 + 1)
set_option maxHeartbeats 1000000 in
set_option maxRecDepth 100000 in
theorem zh_X10_restore_L40 (q : Nat) (h0 : zc_H)  : ∀ (n : Nat) (S : zm_S) (y1 : Int32), zf_X10_restore_L40 q  n (zm_h q h0 S) y1 = (zg_X10_restore_L40  n S y1).map (zm_h q h0) := by
  intro n
  induction n with
  | zero => intro S y1; rfl
  | succ n ih =>
    intro S y1
    unfold zf_X10_restore_L40 zg_X10_restore_L40
    simp only [zm_is, not_true_eq_false, if_false, zo_s, zo_m, zo_n0, zo_mi, zo_ms, zo_mb, zo_bm, ih, zm_a1, zm_a18, zm_a19, zm_a2, zm_gr1, zm_gr18, zm_gr19, zm_gr2, zm_s1, zm_s18, zm_s19, zm_s2]
def zg_X10_restore_L78 : Nat → zm_S → Int32 → Option (zm_S)
  | 0, _, _ => none
  | n + 1, h, y1 =>
    if 384 ≤ y1 then
      some h
    else
    (zg_aj 384 (h.2.2 20) y1).bind fun v37 =>
    (zg_sj 3 408 h y1 v37).bind fun h39 =>
    zg_X10_restore_L78 n h39 (y1 + 1)
set_option maxHeartbeats 1000000 in
set_option maxRecDepth 100000 in
theorem zh_X10_restore_L78 (q : Nat) (h0 : zc_H)  : ∀ (n : Nat) (S : zm_S) (y1 : Int32), zf_X10_restore_L78 q  n (zm_h q h0 S) y1 = (zg_X10_restore_L78  n S y1).map (zm_h q h0) := by
  intro n
  induction n with
  | zero => intro S y1; rfl
  | succ n ih =>
    intro S y1
    unfold zf_X10_restore_L78 zg_X10_restore_L78
    simp only [zm_is, not_true_eq_false, if_false, zo_s, zo_m, zo_n0, zo_mi, zo_ms, zo_mb, zo_bm, ih, zm_a20, zm_a3, zm_gr20, zm_gr3, zm_s20, zm_s3]
def zg_X10_restore_L105 : Nat → zm_S → Int32 → Option (zm_S)
  | 0, _, _ => none
  | n + 1, h, y1 =>
    if 112 ≤ y1 then
      some h
    else
    (zg_ai 112 (h.2.1 22) y1).bind fun v47 =>
    (zg_si 6 112 h y1 v47).bind fun h49 =>
    zg_X10_restore_L105 n h49 (y1 + 1)
set_option maxHeartbeats 1000000 in
set_option maxRecDepth 100000 in
theorem zh_X10_restore_L105 (q : Nat) (h0 : zc_H)  : ∀ (n : Nat) (S : zm_S) (y1 : Int32), zf_X10_restore_L105 q  n (zm_h q h0 S) y1 = (zg_X10_restore_L105  n S y1).map (zm_h q h0) := by
  intro n
  induction n with
  | zero => intro S y1; rfl
  | succ n ih =>
    intro S y1
    unfold zf_X10_restore_L105 zg_X10_restore_L105
    simp only [zm_is, not_true_eq_false, if_false, zo_s, zo_m, zo_n0, zo_mi, zo_ms, zo_mb, zo_bm, ih, zm_a22, zm_a6, zm_gr22, zm_gr6, zm_s22, zm_s6]
def zg_X10_restore_L131 : Nat → zm_S → Int32 → Option (zm_S)
  | 0, _, _ => none
  | n + 1, h, y1 =>
    if 3 ≤ y1 then
      some h
    else
    (zg_ai 3 (h.2.1 23) y1).bind fun v57 =>
    (zg_si 7 3 h y1 v57).bind fun h59 =>
    zg_X10_restore_L131 n h59 (y1 + 1)
set_option maxHeartbeats 1000000 in
set_option maxRecDepth 100000 in
theorem zh_X10_restore_L131 (q : Nat) (h0 : zc_H)  : ∀ (n : Nat) (S : zm_S) (y1 : Int32), zf_X10_restore_L131 q  n (zm_h q h0 S) y1 = (zg_X10_restore_L131  n S y1).map (zm_h q h0) := by
  intro n
  induction n with
  | zero => intro S y1; rfl
  | succ n ih =>
    intro S y1
    unfold zf_X10_restore_L131 zg_X10_restore_L131
    simp only [zm_is, not_true_eq_false, if_false, zo_s, zo_m, zo_n0, zo_mi, zo_ms, zo_mb, zo_bm, ih, zm_a23, zm_a7, zm_gr23, zm_gr7, zm_s23, zm_s7]
def zg_X10_restore_L156 : Nat → zm_S → Int32 → Option (zm_S)
  | 0, _, _ => none
  | n + 1, h, y1 =>
    if (h.1 0) ≤ y1 then
      some h
    else
    (zg_X10_learns h y1).bind fun r64 =>
    zg_X10_restore_L156 n r64 (y1 + 1)
set_option maxHeartbeats 1000000 in
set_option maxRecDepth 100000 in
theorem zh_X10_restore_L156 (q : Nat) (h0 : zc_H)  : ∀ (n : Nat) (S : zm_S) (y1 : Int32), zf_X10_restore_L156 q  n (zm_h q h0 S) y1 = (zg_X10_restore_L156  n S y1).map (zm_h q h0) := by
  intro n
  induction n with
  | zero => intro S y1; rfl
  | succ n ih =>
    intro S y1
    unfold zf_X10_restore_L156 zg_X10_restore_L156
    simp only [zm_is, not_true_eq_false, if_false, zo_s, zo_m, zo_n0, zo_mi, zo_ms, zo_mb, zo_bm, ih, zh_X10_learns, zm_gi0]
def zg_X10_restore_L177 : Nat → zm_S → Int32 → Option (zm_S)
  | 0, _, _ => none
  | n + 1, h, y1 =>
    if 8 ≤ y1 then
      some h
    else
    (zg_X10_isRow h y1).bind fun r67 =>
    let k211 := fun (h211j : zm_S) =>
      zg_X10_restore_L177 n h211j (y1 + 1)
    if r67 = 0 then
      (zg_ai 8 (h.2.1 9) y1).bind fun v72 =>
      if v72 < (h.1 5) then
        k211 h
      else
      (zg_si 9 8 h y1 (-1)).bind fun h79 =>
      k211 h79
    else
    k211 h
set_option maxHeartbeats 1000000 in
set_option maxRecDepth 100000 in
theorem zh_X10_restore_L177 (q : Nat) (h0 : zc_H)  : ∀ (n : Nat) (S : zm_S) (y1 : Int32), zf_X10_restore_L177 q  n (zm_h q h0 S) y1 = (zg_X10_restore_L177  n S y1).map (zm_h q h0) := by
  intro n
  induction n with
  | zero => intro S y1; rfl
  | succ n ih =>
    intro S y1
    unfold zf_X10_restore_L177 zg_X10_restore_L177
    dsimp only
    simp only [zm_is, not_true_eq_false, if_false, zo_s, zo_m, zo_n0, zo_mi, zo_ms, zo_mb, zo_bm, ih, zh_X10_isRow, zm_a9, zm_gi5, zm_gr9, zm_s9]
def zg_X10_restore (h : zm_S) : Option (zm_S × Int32) :=
  if (h.1 16) = 0 then
    (zg_X10_no h (-6)).bind fun r83 =>
    some (r83.1, r83.2)
  else
  (some (zg_p h 0 ((h.1 17)))).bind fun h6 =>
  (some (zg_p h6 5 ((h6.1 21)))).bind fun h9 =>
  (some (zg_p h9 8 ((h9.1 24)))).bind fun h12 =>
  (zg_X10_restore_L40 2000 h12 0).bind fun w30 =>
  (zg_X10_restore_L78 2000 w30 0).bind fun w40 =>
  (zg_X10_restore_L105 2000 w40 0).bind fun w50 =>
  (zg_X10_restore_L131 2000 w50 0).bind fun w60 =>
  (zg_X10_restore_L156 2000 w60 0).bind fun w65 =>
  (zg_X10_restore_L177 2000 w65 0).bind fun w80 =>
  some (w80, (w80.1 5))
set_option maxHeartbeats 1000000 in
set_option maxRecDepth 100000 in
theorem zh_X10_restore (q : Nat) (h0 : zc_H) (S : zm_S)  : zf_X10_restore (zm_h q h0 S) q  = (zg_X10_restore S ).map (fun r => (zm_h q h0 r.1, r.2)) := by
  unfold zf_X10_restore zg_X10_restore
  try dsimp only
  rw [zm_is, if_neg (by simp)]
  rw [zm_gi16, zo_s]
  refine zo_if (fun _ => ?_) (fun _ => ?_)
  · rw [zh_X10_no]
    refine zo_st2 (fun v => ?_)
    rfl
  · rw [zm_gi17, zo_s]
    rw [zm_p0, zo_s, zo_s]
    rw [zm_gi21, zo_s]
    rw [zm_p5, zo_s, zo_s]
    rw [zm_gi24, zo_s]
    rw [zm_p8, zo_s, zo_s]
    rw [zh_X10_restore_L40]
    refine zo_st2 (fun v => ?_)
    rw [zh_X10_restore_L78]
    refine zo_st2 (fun v => ?_)
    rw [zh_X10_restore_L105]
    refine zo_st2 (fun v => ?_)
    rw [zh_X10_restore_L131]
    refine zo_st2 (fun v => ?_)
    rw [zh_X10_restore_L156]
    refine zo_st2 (fun v => ?_)
    rw [zh_X10_restore_L177]
    refine zo_st2 (fun v => ?_)
    rw [zm_gi5, zo_s]
    rfl
def zg_X10_settled_L4 (h : zm_S) : Nat → Int32 → Int32 → Option (Int32)
  | 0, _, _ => none
  | n + 1, y1, y2 =>
    if (h.1 5) ≤ y2 then
      some y1
    else
    (zg_X10_of h 6 y2).bind fun r4 =>
    zg_X10_settled_L4 h n (y1 + r4) (y2 + 1)
set_option maxHeartbeats 1000000 in
set_option maxRecDepth 100000 in
theorem zh_X10_settled_L4 (q : Nat) (h0 : zc_H) (S : zm_S)  : ∀ (n : Nat) (y1 : Int32) (y2 : Int32), zf_X10_settled_L4 (zm_h q h0 S) q  n y1 y2 = zg_X10_settled_L4 S  n y1 y2 := by
  intro n
  induction n with
  | zero => intro y1 y2; rfl
  | succ n ih =>
    intro y1 y2
    unfold zf_X10_settled_L4 zg_X10_settled_L4
    simp only [zm_is, not_true_eq_false, if_false, zo_s, zo_m, zo_n0, zo_mi, zo_ms, zo_mb, zo_bm, ih, zh_X10_of, zm_gi5]
def zg_X10_settled (h : zm_S) : Option (Int32) :=
  (zg_X10_settled_L4 h 2000 0 0).bind fun w5 =>
  some w5
set_option maxHeartbeats 1000000 in
set_option maxRecDepth 100000 in
theorem zh_X10_settled (q : Nat) (h0 : zc_H) (S : zm_S)  : zf_X10_settled (zm_h q h0 S) q  = zg_X10_settled S  := by
  unfold zf_X10_settled zg_X10_settled
  simp only [zm_is, not_true_eq_false, if_false, zo_s, zo_m, zo_n0, zo_mi, zo_ms, zo_mb, zo_bm, zh_X10_settled_L4]
def zg_X10_openOnes_L4 (h : zm_S) : Nat → Int32 → Int32 → Option (Int32)
  | 0, _, _ => none
  | n + 1, y1, y2 =>
    if (h.1 5) ≤ y2 then
      some y1
    else
    (zg_X10_of h 5 y2).bind fun r4 =>
    let k33 := fun (y33_1 : Int32) =>
      zg_X10_openOnes_L4 h n y33_1 (y2 + 1)
    if r4 = (-1) then
      (zg_X10_isOpen h y2).bind fun r6 =>
      if r6 = 0 then
        k33 y1
      else
      k33 (y1 + 1)
    else
    k33 y1
set_option maxHeartbeats 1000000 in
set_option maxRecDepth 100000 in
theorem zh_X10_openOnes_L4 (q : Nat) (h0 : zc_H) (S : zm_S)  : ∀ (n : Nat) (y1 : Int32) (y2 : Int32), zf_X10_openOnes_L4 (zm_h q h0 S) q  n y1 y2 = zg_X10_openOnes_L4 S  n y1 y2 := by
  intro n
  induction n with
  | zero => intro y1 y2; rfl
  | succ n ih =>
    intro y1 y2
    unfold zf_X10_openOnes_L4 zg_X10_openOnes_L4
    simp only [zm_is, not_true_eq_false, if_false, zo_s, zo_m, zo_n0, zo_mi, zo_ms, zo_mb, zo_bm, ih, zh_X10_isOpen, zh_X10_of, zm_gi5]
def zg_X10_openOnes (h : zm_S) : Option (Int32) :=
  (zg_X10_openOnes_L4 h 2000 0 0).bind fun w8 =>
  some w8
set_option maxHeartbeats 1000000 in
set_option maxRecDepth 100000 in
theorem zh_X10_openOnes (q : Nat) (h0 : zc_H) (S : zm_S)  : zf_X10_openOnes (zm_h q h0 S) q  = zg_X10_openOnes S  := by
  unfold zf_X10_openOnes zg_X10_openOnes
  simp only [zm_is, not_true_eq_false, if_false, zo_s, zo_m, zo_n0, zo_mi, zo_ms, zo_mb, zo_bm, zh_X10_openOnes_L4]
def zg_X10_status (h : zm_S) (x1 : Int32) : Option (Int32) :=
  (zg_X10_within h x1 11 17).bind fun r1 =>
  if r1 = 0 then
    if x1 = 0 then
      some (h.1 0)
    else
    if x1 = 1 then
      some (h.1 5)
    else
    if x1 = 2 then
      (zg_X10_settled h).bind fun r10 =>
      some r10
    else
    if x1 = 3 then
      (zg_X10_openOnes h).bind fun r12 =>
      some r12
    else
    if x1 = 4 then
      (zg_ai 3 (h.2.1 7) 0).bind fun v17 =>
      some v17
    else
    if x1 = 5 then
      (zg_ai 3 (h.2.1 7) 1).bind fun v22 =>
      some v22
    else
    if x1 = 6 then
      (zg_ai 3 (h.2.1 7) 2).bind fun v27 =>
      some v27
    else
    if x1 = 7 then
      some (h.1 8)
    else
    if x1 = 8 then
      if (h.1 0) = 0 then
        some 0
      else
      (zg_ai 17 (h.2.1 2) ((h.1 0) - 1)).bind fun v40 =>
      some v40
    else
    if x1 = 9 then
      some (h.1 13)
    else
    some (-1)
  else
  (zg_ai 8 (h.2.1 15) (x1 - 10)).bind fun v47 =>
  some v47
set_option maxHeartbeats 1000000 in
set_option maxRecDepth 100000 in
theorem zh_X10_status (q : Nat) (h0 : zc_H) (S : zm_S) (x1 : Int32) : zf_X10_status (zm_h q h0 S) q x1 = zg_X10_status S x1 := by
  unfold zf_X10_status zg_X10_status
  simp only [zm_is, not_true_eq_false, if_false, zo_s, zo_m, zo_n0, zo_mi, zo_ms, zo_mb, zo_bm, zh_X10_openOnes, zh_X10_settled, zh_X10_within, zm_a15, zm_a2, zm_a7, zm_gi0, zm_gi13, zm_gi5, zm_gi8, zm_gr15, zm_gr2, zm_gr7, zm_s15, zm_s2, zm_s7]
