/-! the reference over its own state -/
def zg_X10_no (h : zm_S) (x1 : Int32) : Option (zm_S × Int32) :=
  (zg_ai 8 (h.2.1 15) (-x1)).bind fun v4 =>
  (zg_si 15 8 h (-x1) (v4 + 1)).bind fun h5 =>
  some (h5, x1)
set_option maxHeartbeats 1000000 in
set_option maxRecDepth 100000 in
theorem zh_X10_no (q : Nat) (h0 : zc_H) (S : zm_S) (x1 : Int32) : zf_X10_no (zm_h q h0 S) q x1 = (zg_X10_no S x1).map (fun r => (zm_h q h0 r.1, r.2)) := by
  unfold zf_X10_no zg_X10_no
  simp only [zm_is, not_true_eq_false, if_false, zo_s, zo_m, zo_n0, zo_mi, zo_ms, zo_mb, zo_bm, zm_a15, zm_gr15, zm_s15]
def zg_X10_no10 (h : zm_S) (x1 : Int32) : Option (zm_S × Int32) :=
  (zg_X10_no h x1).bind fun r1 =>
  some (r1.1, (r1.2 - 10))
set_option maxHeartbeats 1000000 in
set_option maxRecDepth 100000 in
theorem zh_X10_no10 (q : Nat) (h0 : zc_H) (S : zm_S) (x1 : Int32) : zf_X10_no10 (zm_h q h0 S) q x1 = (zg_X10_no10 S x1).map (fun r => (zm_h q h0 r.1, r.2)) := by
  unfold zf_X10_no10 zg_X10_no10
  simp only [zm_is, not_true_eq_false, if_false, zo_s, zo_m, zo_n0, zo_mi, zo_ms, zo_mb, zo_bm, zh_X10_no]
def zg_X10_within (h : zm_S) (x0 : Int32) (x1 : Int32) (x2 : Int32) : Option (Int32) :=
  if x0 < x1 then
    some 0
  else
  if x2 < x0 then
    some 0
  else
  some 1
set_option maxHeartbeats 1000000 in
set_option maxRecDepth 100000 in
theorem zh_X10_within (q : Nat) (h0 : zc_H) (S : zm_S) (x0 : Int32) (x1 : Int32) (x2 : Int32) : zf_X10_within (zm_h q h0 S) x0 x1 x2 = zg_X10_within S x0 x1 x2 := by
  unfold zf_X10_within zg_X10_within
  simp only [zm_is, not_true_eq_false, if_false, zo_s, zo_m, zo_n0, zo_mi, zo_ms, zo_mb, zo_bm]
def zg_X10_isRevision (h : zm_S) (x1 : Int32) : Option (Int32) :=
  (zg_X10_within h x1 0 ((h.1 0) - 1)).bind fun r3 =>
  if ¬ (r3 = 0 ∨ r3 = 1) then none else
  some r3
set_option maxHeartbeats 1000000 in
set_option maxRecDepth 100000 in
theorem zh_X10_isRevision (q : Nat) (h0 : zc_H) (S : zm_S) (x1 : Int32) : zf_X10_isRevision (zm_h q h0 S) q x1 = zg_X10_isRevision S x1 := by
  unfold zf_X10_isRevision zg_X10_isRevision
  simp only [zm_is, not_true_eq_false, if_false, zo_s, zo_m, zo_n0, zo_mi, zo_ms, zo_mb, zo_bm, zh_X10_within, zm_gi0]
def zg_X10_isRemark (h : zm_S) (x1 : Int32) : Option (Int32) :=
  (zg_X10_within h x1 0 ((h.1 5) - 1)).bind fun r3 =>
  if ¬ (r3 = 0 ∨ r3 = 1) then none else
  some r3
set_option maxHeartbeats 1000000 in
set_option maxRecDepth 100000 in
theorem zh_X10_isRemark (q : Nat) (h0 : zc_H) (S : zm_S) (x1 : Int32) : zf_X10_isRemark (zm_h q h0 S) q x1 = zg_X10_isRemark S x1 := by
  unfold zf_X10_isRemark zg_X10_isRemark
  simp only [zm_is, not_true_eq_false, if_false, zo_s, zo_m, zo_n0, zo_mi, zo_ms, zo_mb, zo_bm, zh_X10_within, zm_gi5]
def zg_X10_isLine (h : zm_S) (x1 : Int32) (x2 : Int32) : Option (Int32) :=
  (zg_ai 17 (h.2.1 2) x1).bind fun v4 =>
  (zg_X10_within h x2 0 (v4 - 1)).bind fun r5 =>
  if ¬ (r5 = 0 ∨ r5 = 1) then none else
  some r5
set_option maxHeartbeats 1000000 in
set_option maxRecDepth 100000 in
theorem zh_X10_isLine (q : Nat) (h0 : zc_H) (S : zm_S) (x1 : Int32) (x2 : Int32) : zf_X10_isLine (zm_h q h0 S) q x1 x2 = zg_X10_isLine S x1 x2 := by
  unfold zf_X10_isLine zg_X10_isLine
  simp only [zm_is, not_true_eq_false, if_false, zo_s, zo_m, zo_n0, zo_mi, zo_ms, zo_mb, zo_bm, zh_X10_within, zm_a2, zm_gr2, zm_s2]
def zg_X10_isRow (h : zm_S) (x1 : Int32) : Option (Int32) :=
  (zg_ai 8 (h.2.1 9) x1).bind fun v4 =>
  if v4 < 100 then
    some 0
  else
  some 1
set_option maxHeartbeats 1000000 in
set_option maxRecDepth 100000 in
theorem zh_X10_isRow (q : Nat) (h0 : zc_H) (S : zm_S) (x1 : Int32) : zf_X10_isRow (zm_h q h0 S) q x1 = zg_X10_isRow S x1 := by
  unfold zf_X10_isRow zg_X10_isRow
  simp only [zm_is, not_true_eq_false, if_false, zo_s, zo_m, zo_n0, zo_mi, zo_ms, zo_mb, zo_bm, zm_a9, zm_gr9, zm_s9]
def zg_X10_row_L77 (y1 : Int32) : Nat → zm_S → Int32 → Option (zm_S)
  | 0, _, _ => none
  | n + 1, h, y4 =>
    if 160 ≤ y4 then
      some h
    else
    (zg_sj 11 1280 h ((160 * y1) + y4) 0).bind fun h19 =>
    zg_X10_row_L77 y1 n h19 (y4 + 1)
set_option maxHeartbeats 1000000 in
set_option maxRecDepth 100000 in
theorem zh_X10_row_L77 (q : Nat) (h0 : zc_H) (y1 : Int32) : ∀ (n : Nat) (S : zm_S) (y4 : Int32), zf_X10_row_L77 q y1 n (zm_h q h0 S) y4 = (zg_X10_row_L77 y1 n S y4).map (zm_h q h0) := by
  intro n
  induction n with
  | zero => intro S y4; rfl
  | succ n ih =>
    intro S y4
    unfold zf_X10_row_L77 zg_X10_row_L77
    simp only [zm_is, not_true_eq_false, if_false, zo_s, zo_m, zo_n0, zo_mi, zo_ms, zo_mb, zo_bm, ih, zm_a11, zm_gr11, zm_s11]
def zg_X10_row (h : zm_S) (x1 : Int32) (x2 : Int32) (x3 : Int32) : Option (zm_S × Int32) :=
  (zg_X10_within h x1 0 7).bind fun r1 =>
  if r1 = 0 then
    (zg_X10_no h (-1)).bind fun r24 =>
    some (r24.1, r24.2)
  else
  if 0 ≤ x3 then
    (zg_X10_within h x2 0 3).bind fun r4 =>
    if r4 = 0 then
      (zg_X10_no h (-6)).bind fun r22 =>
      some (r22.1, r22.2)
    else
    if x3 ≤ 160 then
      (zg_si 9 8 h x1 (100 + x2)).bind fun h10 =>
      (zg_si 10 8 h10 x1 x3).bind fun h14 =>
      (zg_X10_row_L77 x1 2000 h14 0).bind fun w20 =>
      some (w20, 1)
    else
    (zg_X10_no h (-7)).bind fun r21 =>
    some (r21.1, r21.2)
  else
  (zg_X10_no h (-4)).bind fun r23 =>
  some (r23.1, r23.2)
set_option maxHeartbeats 1000000 in
set_option maxRecDepth 100000 in
theorem zh_X10_row (q : Nat) (h0 : zc_H) (S : zm_S) (x1 : Int32) (x2 : Int32) (x3 : Int32) : zf_X10_row (zm_h q h0 S) q x1 x2 x3 = (zg_X10_row S x1 x2 x3).map (fun r => (zm_h q h0 r.1, r.2)) := by
  unfold zf_X10_row zg_X10_row
  simp only [zm_is, not_true_eq_false, if_false, zo_s, zo_m, zo_n0, zo_mi, zo_ms, zo_mb, zo_bm, zh_X10_no, zh_X10_row_L77, zh_X10_within, zm_a10, zm_a9, zm_gr10, zm_gr9, zm_s10, zm_s9]
def zg_X10_noRow (h : zm_S) (x1 : Int32) : Option (Int32) :=
  (zg_X10_within h x1 0 7).bind fun r1 =>
  if r1 = 0 then
    some (-1)
  else
  (zg_ai 8 (h.2.1 9) x1).bind fun v6 =>
  let k32 := fun (_ : Unit) =>
    (zg_ai 8 (h.2.1 9) x1).bind fun v11 =>
    if 0 ≤ v11 then
      some 0
    else
    some (-3)
  if v6 < 0 then
    k32 ()
  else
  (zg_X10_isRow h x1).bind fun r13 =>
  if r13 = 0 then
    some (-2)
  else
  k32 ()
set_option maxHeartbeats 1000000 in
set_option maxRecDepth 100000 in
theorem zh_X10_noRow (q : Nat) (h0 : zc_H) (S : zm_S) (x1 : Int32) : zf_X10_noRow (zm_h q h0 S) q x1 = zg_X10_noRow S x1 := by
  unfold zf_X10_noRow zg_X10_noRow
  simp only [zm_is, not_true_eq_false, if_false, zo_s, zo_m, zo_n0, zo_mi, zo_ms, zo_mb, zo_bm, zh_X10_isRow, zh_X10_within, zm_a9, zm_gr9, zm_s9]
def zg_X10_set (h : zm_S) (x1 : Int32) (x2 : Int32) (x3 : Int64) : Option (zm_S × Int32) :=
  (zg_X10_noRow h x1).bind fun r1 =>
  if 0 ≤ r1 then
    (zg_ai 8 (h.2.1 10) x1).bind fun v6 =>
    (zg_X10_within h x2 0 (v6 - 1)).bind fun r7 =>
    if r7 = 0 then
      (zg_X10_no h (-5)).bind fun r20 =>
      some (r20.1, r20.2)
    else
    (zg_ai 8 (h.2.1 9) x1).bind fun v12 =>
    let k102 := fun (s102_0 : Int64) (s102_1 : Int32) =>
      (zg_sj 11 1280 h s102_1 s102_0).bind fun h17 =>
      some (h17, 1)
    if (v12 - 100) = 0 then
      k102 ((((((x3 : Int64).toInt32) : Int32).toInt8.toInt32) : Int32).toInt64) ((160 * x1) + x2)
    else
    if (v12 - 100) = 1 then
      k102 ((((((x3 : Int64).toInt32) : Int32).toInt16.toInt32) : Int32).toInt64) ((160 * x1) + x2)
    else
    if (v12 - 100) = 2 then
      k102 ((((x3 : Int64).toInt32) : Int32).toInt64) ((160 * x1) + x2)
    else
    k102 x3 ((160 * x1) + x2)
  else
  (zg_X10_no h r1).bind fun r21 =>
  some (r21.1, r21.2)
set_option maxHeartbeats 1000000 in
set_option maxRecDepth 100000 in
theorem zh_X10_set (q : Nat) (h0 : zc_H) (S : zm_S) (x1 : Int32) (x2 : Int32) (x3 : Int64) : zf_X10_set (zm_h q h0 S) q x1 x2 x3 = (zg_X10_set S x1 x2 x3).map (fun r => (zm_h q h0 r.1, r.2)) := by
  unfold zf_X10_set zg_X10_set
  simp only [zm_is, not_true_eq_false, if_false, zo_s, zo_m, zo_n0, zo_mi, zo_ms, zo_mb, zo_bm, zh_X10_no, zh_X10_noRow, zh_X10_within, zm_a10, zm_a11, zm_a9, zm_gr10, zm_gr11, zm_gr9, zm_s10, zm_s11, zm_s9]
def zg_X10_copy_L251 (y1 : Int32) (y2 : Int32) (y3 : Int32) (y4 : Int32) (y5 : Int32) : Nat → zm_S → Int32 → Option (zm_S)
  | 0, _, _ => none
  | n + 1, h, y6 =>
    if y5 ≤ y6 then
      some h
    else
    (zg_aj 1280 (h.2.2 11) (((160 * y1) + y3) + y6)).bind fun v51 =>
    (zg_sj 11 1280 h (((160 * y2) + y4) + y6) v51).bind fun h53 =>
    zg_X10_copy_L251 y1 y2 y3 y4 y5 n h53 (y6 + 1)
set_option maxHeartbeats 1000000 in
set_option maxRecDepth 100000 in
theorem zh_X10_copy_L251 (q : Nat) (h0 : zc_H) (y1 : Int32) (y2 : Int32) (y3 : Int32) (y4 : Int32) (y5 : Int32) : ∀ (n : Nat) (S : zm_S) (y6 : Int32), zf_X10_copy_L251 q y1 y2 y3 y4 y5 n (zm_h q h0 S) y6 = (zg_X10_copy_L251 y1 y2 y3 y4 y5 n S y6).map (zm_h q h0) := by
  intro n
  induction n with
  | zero => intro S y6; rfl
  | succ n ih =>
    intro S y6
    unfold zf_X10_copy_L251 zg_X10_copy_L251
    simp only [zm_is, not_true_eq_false, if_false, zo_s, zo_m, zo_n0, zo_mi, zo_ms, zo_mb, zo_bm, ih, zm_a11, zm_gr11, zm_s11]
def zg_X10_copy_L203 (y1 : Int32) (y2 : Int32) (y3 : Int32) (y4 : Int32) : Nat → zm_S → Int32 → Option (zm_S)
  | 0, _, _ => none
  | n + 1, h, y6 =>
    if y6 < 0 then
      some h
    else
    (zg_aj 1280 (h.2.2 11) (((160 * y1) + y3) + y6)).bind fun v62 =>
    (zg_sj 11 1280 h (((160 * y2) + y4) + y6) v62).bind fun h64 =>
    zg_X10_copy_L203 y1 y2 y3 y4 n h64 (y6 + (-1))
set_option maxHeartbeats 1000000 in
set_option maxRecDepth 100000 in
theorem zh_X10_copy_L203 (q : Nat) (h0 : zc_H) (y1 : Int32) (y2 : Int32) (y3 : Int32) (y4 : Int32) : ∀ (n : Nat) (S : zm_S) (y6 : Int32), zf_X10_copy_L203 q y1 y2 y3 y4 n (zm_h q h0 S) y6 = (zg_X10_copy_L203 y1 y2 y3 y4 n S y6).map (zm_h q h0) := by
  intro n
  induction n with
  | zero => intro S y6; rfl
  | succ n ih =>
    intro S y6
    unfold zf_X10_copy_L203 zg_X10_copy_L203
    simp only [zm_is, not_true_eq_false, if_false, zo_s, zo_m, zo_n0, zo_mi, zo_ms, zo_mb, zo_bm, ih, zm_a11, zm_gr11, zm_s11]
def zg_X10_copy (h : zm_S) (x1 : Int32) (x2 : Int32) (x3 : Int32) (x4 : Int32) (x5 : Int32) : Option (zm_S × Int32) :=
  (zg_X10_within h x1 0 7).bind fun r1 =>
  let k20 := fun (_ : Unit) =>
    (zg_X10_no h (-1)).bind fun r3 =>
    some (r3.1, r3.2)
  if r1 = 0 then
    k20 ()
  else
  (zg_X10_within h x2 0 7).bind fun r4 =>
  if r4 = 0 then
    k20 ()
  else
  (zg_ai 8 (h.2.1 9) x1).bind fun v9 =>
  let k91 := fun (_ : Unit) =>
    (zg_X10_no h (-2)).bind fun r11 =>
    some (r11.1, r11.2)
  let k43 := fun (_ : Unit) =>
    (zg_ai 8 (h.2.1 9) x2).bind fun v15 =>
    let k60 := fun (_ : Unit) =>
      (zg_X10_isRow h x1).bind fun r17 =>
      let k98 := fun (_ : Unit) =>
        (zg_ai 8 (h.2.1 9) x1).bind fun v22 =>
        let k116 := fun (_ : Unit) =>
          (zg_X10_no h (-3)).bind fun r24 =>
          some (r24.1, r24.2)
        if v22 < 0 then
          k116 ()
        else
        (zg_ai 8 (h.2.1 9) x2).bind fun v28 =>
        if 0 ≤ v28 then
          if 0 ≤ x5 then
            let k179 := fun (_ : Unit) =>
              (zg_X10_no h (-5)).bind fun r32 =>
              some (r32.1, r32.2)
            if x3 < 0 then
              k179 ()
            else
            if x4 < 0 then
              k179 ()
            else
            (zg_ai 8 (h.2.1 10) x1).bind fun v37 =>
            if 0 < (lg_cmp (((x3 : Int32).toInt64) + ((x5 : Int32).toInt64)) ((v37 : Int32).toInt64)) then
              k179 ()
            else
            (zg_ai 8 (h.2.1 10) x2).bind fun v42 =>
            if (lg_cmp (((x4 : Int32).toInt64) + ((x5 : Int32).toInt64)) ((v42 : Int32).toInt64)) ≤ 0 then
              let k248 := fun (_ : Unit) =>
                (zg_X10_copy_L251 x1 x2 x3 x4 x5 2000 h 0).bind fun w54 =>
                some (w54, 1)
              if x1 = x2 then
                if x4 ≤ x3 then
                  k248 ()
                else
                (zg_X10_copy_L203 x1 x2 x3 x4 2000 h (x5 - 1)).bind fun w65 =>
                some (w65, 1)
              else
              k248 ()
            else
            k179 ()
          else
          (zg_X10_no h (-4)).bind fun r66 =>
          some (r66.1, r66.2)
        else
        k116 ()
      if r17 = 0 then
        k98 ()
      else
      (zg_X10_isRow h x2).bind fun r67 =>
      if r67 = 0 then
        k98 ()
      else
      (zg_ai 8 (h.2.1 9) x1).bind fun v72 =>
      (zg_ai 8 (h.2.1 9) x2).bind fun v76 =>
      if v72 = v76 then
        k98 ()
      else
      k91 ()
    if v15 < 0 then
      k60 ()
    else
    (zg_X10_isRow h x2).bind fun r78 =>
    if r78 = 0 then
      k91 ()
    else
    k60 ()
  if v9 < 0 then
    k43 ()
  else
  (zg_X10_isRow h x1).bind fun r80 =>
  if r80 = 0 then
    k91 ()
  else
  k43 ()
set_option maxHeartbeats 1000000 in
set_option maxRecDepth 100000 in
theorem zh_X10_copy (q : Nat) (h0 : zc_H) (S : zm_S) (x1 : Int32) (x2 : Int32) (x3 : Int32) (x4 : Int32) (x5 : Int32) : zf_X10_copy (zm_h q h0 S) q x1 x2 x3 x4 x5 = (zg_X10_copy S x1 x2 x3 x4 x5).map (fun r => (zm_h q h0 r.1, r.2)) := by
  unfold zf_X10_copy zg_X10_copy
  simp only [zm_is, not_true_eq_false, if_false, zo_s, zo_m, zo_n0, zo_mi, zo_ms, zo_mb, zo_bm, zh_X10_copy_L203, zh_X10_copy_L251, zh_X10_isRow, zh_X10_no, zh_X10_within, zm_a10, zm_a9, zm_gr10, zm_gr9, zm_s10, zm_s9]
def zg_X10_element (h : zm_S) (x1 : Int32) (x2 : Int32) : Option (Int64) :=
  (zg_X10_within h x1 0 7).bind fun r1 =>
  if r1 = 0 then
    some 0
  else
  (zg_X10_isRow h x1).bind fun r3 =>
  if r3 = 0 then
    some 0
  else
  (zg_ai 8 (h.2.1 10) x1).bind fun v8 =>
  (zg_X10_within h x2 0 (v8 - 1)).bind fun r9 =>
  if r9 = 0 then
    some 0
  else
  (zg_aj 1280 (h.2.2 11) ((160 * x1) + x2)).bind fun v14 =>
  some v14
set_option maxHeartbeats 1000000 in
set_option maxRecDepth 100000 in
theorem zh_X10_element (q : Nat) (h0 : zc_H) (S : zm_S) (x1 : Int32) (x2 : Int32) : zf_X10_element (zm_h q h0 S) q x1 x2 = zg_X10_element S x1 x2 := by
  unfold zf_X10_element zg_X10_element
  simp only [zm_is, not_true_eq_false, if_false, zo_s, zo_m, zo_n0, zo_mi, zo_ms, zo_mb, zo_bm, zh_X10_isRow, zh_X10_within, zm_a10, zm_a11, zm_gr10, zm_gr11, zm_s10, zm_s11]
def zg_X10_show (h : zm_S) (x1 : Int32) (x2 : Int32) : Option (zm_S × Int32) :=
  (zg_X10_within h x1 0 7).bind fun r1 =>
  let k23 := fun (_ : Unit) =>
    (zg_X10_no h (-1)).bind fun r3 =>
    some (r3.1, r3.2)
  if r1 = 0 then
    k23 ()
  else
  let k29 := fun (_ : Unit) =>
    (zg_si 9 8 h x1 x2).bind fun h8 =>
    if x2 = (-1) then
      some (h8, 0)
    else
    some (h8, 1)
  if x2 = (-1) then
    k29 ()
  else
  (zg_X10_isRemark h x2).bind fun r10 =>
  if r10 = 0 then
    k23 ()
  else
  k29 ()
set_option maxHeartbeats 1000000 in
set_option maxRecDepth 100000 in
theorem zh_X10_show (q : Nat) (h0 : zc_H) (S : zm_S) (x1 : Int32) (x2 : Int32) : zf_X10_show (zm_h q h0 S) q x1 x2 = (zg_X10_show S x1 x2).map (fun r => (zm_h q h0 r.1, r.2)) := by
  unfold zf_X10_show zg_X10_show
  simp only [zm_is, not_true_eq_false, if_false, zo_s, zo_m, zo_n0, zo_mi, zo_ms, zo_mb, zo_bm, zh_X10_isRemark, zh_X10_no, zh_X10_within, zm_a9, zm_gr9, zm_s9]
def zg_X10_holds (h : zm_S) (x1 : Int32) : Option (Int32) :=
  (zg_X10_within h x1 0 7).bind fun r1 =>
  if r1 = 0 then
    some (-1)
  else
  (zg_ai 8 (h.2.1 9) x1).bind fun v6 =>
  some v6
set_option maxHeartbeats 1000000 in
set_option maxRecDepth 100000 in
theorem zh_X10_holds (q : Nat) (h0 : zc_H) (S : zm_S) (x1 : Int32) : zf_X10_holds (zm_h q h0 S) q x1 = zg_X10_holds S x1 := by
  unfold zf_X10_holds zg_X10_holds
  simp only [zm_is, not_true_eq_false, if_false, zo_s, zo_m, zo_n0, zo_mi, zo_ms, zo_mb, zo_bm, zh_X10_within, zm_a9, zm_gr9, zm_s9]
def zg_X10_above (h : zm_S) (x0 : Int32) : Option (Int32) :=
  if x0 = 3 then
    some 1
  else
  if x0 = 5 then
    some 2
  else
  if x0 = 6 then
    some 3
  else
  some 0
set_option maxHeartbeats 1000000 in
set_option maxRecDepth 100000 in
theorem zh_X10_above (q : Nat) (h0 : zc_H) (S : zm_S) (x0 : Int32) : zf_X10_above (zm_h q h0 S) x0 = zg_X10_above S x0 := by
  unfold zf_X10_above zg_X10_above
  simp only [zm_is, not_true_eq_false, if_false, zo_s, zo_m, zo_n0, zo_mi, zo_ms, zo_mb, zo_bm]
def zg_X10_isUnder_L2 (h : zm_S) (y1 : Int32) : Nat → Int32 → Option (Int32)
  | 0, _ => none
  | n + 1, y2 =>
    if y2 = y1 then
      some y2
    else
    if y2 ≤ 0 then
      some y2
    else
    (zg_X10_above h y2).bind fun r3 =>
    zg_X10_isUnder_L2 h y1 n r3
set_option maxHeartbeats 1000000 in
set_option maxRecDepth 100000 in
theorem zh_X10_isUnder_L2 (q : Nat) (h0 : zc_H) (S : zm_S) (y1 : Int32) : ∀ (n : Nat) (y2 : Int32), zf_X10_isUnder_L2 (zm_h q h0 S) y1 n y2 = zg_X10_isUnder_L2 S y1 n y2 := by
  intro n
  induction n with
  | zero => intro y2; rfl
  | succ n ih =>
    intro y2
    unfold zf_X10_isUnder_L2 zg_X10_isUnder_L2
    simp only [zm_is, not_true_eq_false, if_false, zo_s, zo_m, zo_n0, zo_mi, zo_ms, zo_mb, zo_bm, ih, zh_X10_above]
def zg_X10_isUnder (h : zm_S) (x0 : Int32) (x1 : Int32) : Option (Int32) :=
  (zg_X10_isUnder_L2 h x1 2000 x0).bind fun w4 =>
  if w4 = x1 then
    some 1
  else
  some 0
set_option maxHeartbeats 1000000 in
set_option maxRecDepth 100000 in
theorem zh_X10_isUnder (q : Nat) (h0 : zc_H) (S : zm_S) (x0 : Int32) (x1 : Int32) : zf_X10_isUnder (zm_h q h0 S) x0 x1 = zg_X10_isUnder S x0 x1 := by
  unfold zf_X10_isUnder zg_X10_isUnder
  simp only [zm_is, not_true_eq_false, if_false, zo_s, zo_m, zo_n0, zo_mi, zo_ms, zo_mb, zo_bm, zh_X10_isUnder_L2]
def zg_X10_of (h : zm_S) (x1 : Int32) (x2 : Int32) : Option (Int32) :=
  (zg_ai 112 (h.2.1 6) ((16 * x1) + x2)).bind fun v4 =>
  some v4
set_option maxHeartbeats 1000000 in
set_option maxRecDepth 100000 in
theorem zh_X10_of (q : Nat) (h0 : zc_H) (S : zm_S) (x1 : Int32) (x2 : Int32) : zf_X10_of (zm_h q h0 S) q x1 x2 = zg_X10_of S x1 x2 := by
  unfold zf_X10_of zg_X10_of
  simp only [zm_is, not_true_eq_false, if_false, zo_s, zo_m, zo_n0, zo_mi, zo_ms, zo_mb, zo_bm, zm_a6, zm_gr6, zm_s6]
def zg_X10_says (h : zm_S) (x1 : Int32) (x2 : Int32) : Option (zm_S × Int32) :=
  (zg_X10_within h x1 0 7).bind fun r1 =>
  let k20 := fun (_ : Unit) =>
    (zg_X10_no h (-1)).bind fun r3 =>
    some (r3.1, r3.2)
  if r1 = 0 then
    k20 ()
  else
  (zg_X10_within h x2 0 6).bind fun r4 =>
  if r4 = 0 then
    k20 ()
  else
  (zg_ai 8 (h.2.1 9) x1).bind fun v9 =>
  let k65 := fun (_ : Unit) =>
    if 0 ≤ v9 then
      if x2 = 0 then
        (zg_X10_of h 3 v9).bind fun r13 =>
        some (h, r13)
      else
      if x2 = 1 then
        (zg_X10_of h 1 v9).bind fun r15 =>
        some (h, r15)
      else
      if x2 = 2 then
        (zg_X10_of h 4 v9).bind fun r17 =>
        (zg_X10_of h 3 v9).bind fun r18 =>
        some (h, ((r17 - r18) + 1))
      else
      if x2 = 3 then
        (zg_X10_of h 1 v9).bind fun r20 =>
        some (h, r20)
      else
      if x2 = 4 then
        (zg_X10_of h 4 v9).bind fun r22 =>
        some (h, r22)
      else
      if x2 = 5 then
        (zg_X10_of h 4 v9).bind fun r24 =>
        (zg_X10_of h 3 v9).bind fun r25 =>
        some (h, ((r24 - r25) + 1))
      else
      if x2 = 6 then
        (zg_X10_of h 2 v9).bind fun r27 =>
        some (h, r27)
      else
      (zg_X10_of h 4 v9).bind fun r28 =>
      (zg_X10_of h 3 v9).bind fun r29 =>
      some (h, ((r28 - r29) + 1))
    else
    (zg_X10_no h (-3)).bind fun r30 =>
    some (r30.1, r30.2)
  if v9 < 0 then
    k65 ()
  else
  (zg_X10_isRow h x1).bind fun r31 =>
  let k58 := fun (_ : Unit) =>
    (zg_X10_no h (-2)).bind fun r33 =>
    some (r33.1, r33.2)
  if r31 = 0 then
    (zg_X10_of h 0 v9).bind fun r34 =>
    (zg_X10_isUnder h r34 x2).bind fun r35 =>
    if r35 = 0 then
      k58 ()
    else
    k65 ()
  else
  k58 ()
set_option maxHeartbeats 1000000 in
set_option maxRecDepth 100000 in
theorem zh_X10_says (q : Nat) (h0 : zc_H) (S : zm_S) (x1 : Int32) (x2 : Int32) : zf_X10_says (zm_h q h0 S) q x1 x2 = (zg_X10_says S x1 x2).map (fun r => (zm_h q h0 r.1, r.2)) := by
  unfold zf_X10_says zg_X10_says
  simp only [zm_is, not_true_eq_false, if_false, zo_s, zo_m, zo_n0, zo_mi, zo_ms, zo_mb, zo_bm, zh_X10_isRow, zh_X10_isUnder, zh_X10_no, zh_X10_of, zh_X10_within, zm_a9, zm_gr9, zm_s9]
def zg_X10_read (h : zm_S) (x1 : Int32) (x2 : Int32) : Option (Int32) :=
  (zg_aj 1280 (h.2.2 11) ((160 * x1) + x2)).bind fun v4 =>
  some ((v4 : Int64).toInt32)
set_option maxHeartbeats 1000000 in
set_option maxRecDepth 100000 in
theorem zh_X10_read (q : Nat) (h0 : zc_H) (S : zm_S) (x1 : Int32) (x2 : Int32) : zf_X10_read (zm_h q h0 S) q x1 x2 = zg_X10_read S x1 x2 := by
  unfold zf_X10_read zg_X10_read
  simp only [zm_is, not_true_eq_false, if_false, zo_s, zo_m, zo_n0, zo_mi, zo_ms, zo_mb, zo_bm, zm_a11, zm_gr11, zm_s11]
def zg_X10_reads_L18 (y1 : Int32) (y2 : Int32) : Nat → zm_S → Int32 → Int32 → Int64 → Int32 → Option (zm_S × ((Int32 × Int32 × Int64) ⊕ (Int32)))
  | 0, _, _, _, _, _ => none
  | n + 1, h, y3, y4, y5, y7 =>
    if y2 ≤ y7 then
      some (h, (.inl (y3, y4, y5)))
    else
    (zg_X10_read h y1 y7).bind fun r6 =>
    let k56 := fun (s56_0 : Int32) =>
      let k85 := fun (_ : Unit) =>
        let k135 := fun (h135j : zm_S) (y135_3 : Int32) (y135_4 : Int32) (y135_5 : Int64) =>
          zg_X10_reads_L18 y1 y2 n h135j y135_3 y135_4 y135_5 (y7 + 1)
        if s56_0 = 0 then
          k135 h y3 (y4 + 1) (y5 ||| ((((r6 : Int32).toInt64) <<< (((8 * y4) : Int32).toInt64 &&& 63))))
        else
        (zg_sj 3 408 h ((24 * (h.1 0)) + y3) y5).bind fun h15 =>
        k135 h15 (y3 + 1) 0 0
      if s56_0 = 0 then
        (zg_X10_within h r6 97 122).bind fun r16 =>
        if r16 = 0 then
          some (h, (.inr y7))
        else
        if y4 = 8 then
          some (h, (.inr y7))
        else
        k85 ()
      else
      k85 ()
    let k55 := fun (_ : Unit) =>
      k56 0
    if r6 = 47 then
      if y4 ≤ 0 then
        k55 ()
      else
      if 23 ≤ y3 then
        k55 ()
      else
      k56 1
    else
    k55 ()
set_option maxHeartbeats 1000000 in
set_option maxRecDepth 100000 in
theorem zh_X10_reads_L18 (q : Nat) (h0 : zc_H) (y1 : Int32) (y2 : Int32) : ∀ (n : Nat) (S : zm_S) (y3 : Int32) (y4 : Int32) (y5 : Int64) (y7 : Int32), zf_X10_reads_L18 q y1 y2 n (zm_h q h0 S) y3 y4 y5 y7 = (zg_X10_reads_L18 y1 y2 n S y3 y4 y5 y7).map (fun r => (zm_h q h0 r.1, r.2)) := by
  intro n
  induction n with
  | zero => intro S y3 y4 y5 y7; rfl
  | succ n ih =>
    intro S y3 y4 y5 y7
    unfold zf_X10_reads_L18 zg_X10_reads_L18
    dsimp only
    simp only [zm_is, not_true_eq_false, if_false, zo_s, zo_m, zo_n0, zo_mi, zo_ms, zo_mb, zo_bm, ih, zh_X10_read, zh_X10_within, zm_a3, zm_gi0, zm_gr3, zm_s3]
def zg_X10_reads (h : zm_S) (x1 : Int32) : Option (zm_S × Int32) :=
  (zg_ai 8 (h.2.1 10) x1).bind fun v4 =>
  (zg_X10_reads_L18 x1 v4 2000 h 0 0 0 0).bind fun w21 =>
  Sum.elim (fun t22 =>
    let k152 := fun (_ : Unit) =>
      let k172 := fun (h172j : zm_S) =>
        let k191 := fun (s191_0 : Int32) (s191_1 : Int32) =>
          (zg_si 2 17 h172j s191_1 s191_0).bind fun h32 =>
          some (h32, (-1))
        if v4 ≤ 0 then
          k191 0 (h172j.1 0)
        else
        k191 (t22.1 + 1) (h172j.1 0)
      if v4 ≤ 0 then
        k172 w21.1
      else
      (zg_sj 3 408 w21.1 ((24 * (w21.1.1 0)) + t22.1) t22.2.2).bind fun h38 =>
      k172 h38
    if v4 ≤ 0 then
      k152 ()
    else
    if t22.2.1 = 0 then
      some (w21.1, v4)
    else
    k152 ()
    ) (fun t23 =>
    some (w21.1, t23)
    ) w21.2
set_option maxHeartbeats 1000000 in
set_option maxRecDepth 100000 in
theorem zh_X10_reads (q : Nat) (h0 : zc_H) (S : zm_S) (x1 : Int32) : zf_X10_reads (zm_h q h0 S) q x1 = (zg_X10_reads S x1).map (fun r => (zm_h q h0 r.1, r.2)) := by
  unfold zf_X10_reads zg_X10_reads
  dsimp only
  simp only [zm_is, not_true_eq_false, if_false, zo_s, zo_m, zo_n0, zo_mi, zo_ms, zo_mb, zo_bm, zh_X10_reads_L18, zm_a10, zm_a2, zm_a3, zm_gi0, zm_gr10, zm_gr2, zm_gr3, zm_s10, zm_s2, zm_s3]
def zg_X10_isAlike (h : zm_S) (x1 : Int32) (x2 : Int32) (x3 : Int32) (x4 : Int32) : Option (Int32) :=
  (zg_aj 408 (h.2.2 3) ((24 * x1) + x2)).bind fun v4 =>
  (zg_aj 408 (h.2.2 3) ((24 * x3) + x4)).bind fun v8 =>
  if (lg_cmp v4 v8) = 0 then
    some 1
  else
  some 0
set_option maxHeartbeats 1000000 in
set_option maxRecDepth 100000 in
theorem zh_X10_isAlike (q : Nat) (h0 : zc_H) (S : zm_S) (x1 : Int32) (x2 : Int32) (x3 : Int32) (x4 : Int32) : zf_X10_isAlike (zm_h q h0 S) q x1 x2 x3 x4 = zg_X10_isAlike S x1 x2 x3 x4 := by
  unfold zf_X10_isAlike zg_X10_isAlike
  simp only [zm_is, not_true_eq_false, if_false, zo_s, zo_m, zo_n0, zo_mi, zo_ms, zo_mb, zo_bm, zm_a3, zm_gr3, zm_s3]
def zg_X10_pairs_L27 (y1 : Int32) (y2 : Int32) (y3 : Int32) (y4 : Int32) (y5 : Int32) : Nat → zm_S → Int32 → Option (zm_S)
  | 0, _, _ => none
  | n + 1, h, y6 =>
    if y6 < 0 then
      some h
    else
    let k156 := fun (h156j : zm_S) =>
      zg_X10_pairs_L27 y1 y2 y3 y4 y5 n h156j (y6 + (-1))
    let k45 := fun (_ : Unit) =>
      (zg_si 25 625 h ((25 * y5) + y6) 0).bind fun h15 =>
      k156 h15
    if y5 = y3 then
      k45 ()
    else
    if y6 = y4 then
      k45 ()
    else
    (zg_X10_isAlike h y1 y5 y2 y6).bind fun r17 =>
    if r17 = 0 then
      (zg_ai 625 (h.2.1 25) (((25 * y5) + y6) + 25)).bind fun v24 =>
      (zg_ai 625 (h.2.1 25) (((25 * y5) + y6) + 1)).bind fun v28 =>
      (zg_si 25 625 h ((25 * y5) + y6) (if v24 < v28 then v28 else v24)).bind fun h30 =>
      k156 h30
    else
    (zg_ai 625 (h.2.1 25) (((25 * y5) + y6) + 26)).bind fun v36 =>
    (zg_si 25 625 h ((25 * y5) + y6) (v36 + 1)).bind fun h38 =>
    k156 h38
set_option maxHeartbeats 1000000 in
set_option maxRecDepth 100000 in
theorem zh_X10_pairs_L27 (q : Nat) (h0 : zc_H) (y1 : Int32) (y2 : Int32) (y3 : Int32) (y4 : Int32) (y5 : Int32) : ∀ (n : Nat) (S : zm_S) (y6 : Int32), zf_X10_pairs_L27 q y1 y2 y3 y4 y5 n (zm_h q h0 S) y6 = (zg_X10_pairs_L27 y1 y2 y3 y4 y5 n S y6).map (zm_h q h0) := by
  intro n
  induction n with
  | zero => intro S y6; rfl
  | succ n ih =>
    intro S y6
    unfold zf_X10_pairs_L27 zg_X10_pairs_L27
    dsimp only
    simp only [zm_is, not_true_eq_false, if_false, zo_s, zo_m, zo_n0, zo_mi, zo_ms, zo_mb, zo_bm, ih, zh_X10_isAlike, zm_a25, zm_gr25, zm_s25]
def zg_X10_pairs_L18 (y1 : Int32) (y2 : Int32) (y3 : Int32) (y4 : Int32) : Nat → zm_S → Int32 → Option (zm_S)
  | 0, _, _ => none
  | n + 1, h, y5 =>
    if y5 < 0 then
      some h
    else
    (zg_X10_pairs_L27 y1 y2 y3 y4 y5 2000 h y4).bind fun w39 =>
    zg_X10_pairs_L18 y1 y2 y3 y4 n w39 (y5 + (-1))
set_option maxHeartbeats 1000000 in
set_option maxRecDepth 100000 in
theorem zh_X10_pairs_L18 (q : Nat) (h0 : zc_H) (y1 : Int32) (y2 : Int32) (y3 : Int32) (y4 : Int32) : ∀ (n : Nat) (S : zm_S) (y5 : Int32), zf_X10_pairs_L18 q y1 y2 y3 y4 n (zm_h q h0 S) y5 = (zg_X10_pairs_L18 y1 y2 y3 y4 n S y5).map (zm_h q h0) := by
  intro n
  induction n with
  | zero => intro S y5; rfl
  | succ n ih =>
    intro S y5
    unfold zf_X10_pairs_L18 zg_X10_pairs_L18
    simp only [zm_is, not_true_eq_false, if_false, zo_s, zo_m, zo_n0, zo_mi, zo_ms, zo_mb, zo_bm, ih, zh_X10_pairs_L27]
def zg_X10_pairs_L174 (y1 : Int32) (y2 : Int32) (y3 : Int32) (y4 : Int32) : Nat → zm_S → Int32 → Int32 → Option (zm_S)
  | 0, _, _, _ => none
  | n + 1, h, y5, y6 =>
    if y3 ≤ y5 then
      some h
    else
    if y4 ≤ y6 then
      some h
    else
    (zg_X10_isAlike h y1 y5 y2 y6).bind fun r43 =>
    if r43 = 0 then
      (zg_ai 625 (h.2.1 25) (((25 * y5) + y6) + 25)).bind fun v48 =>
      (zg_ai 625 (h.2.1 25) (((25 * y5) + y6) + 1)).bind fun v52 =>
      if v48 < v52 then
        zg_X10_pairs_L174 y1 y2 y3 y4 n h y5 (y6 + 1)
      else
      zg_X10_pairs_L174 y1 y2 y3 y4 n h (y5 + 1) y6
    else
    (zg_si 26 24 h y5 y6).bind fun h57 =>
    (zg_si 27 24 h57 y6 (1 &&& 1)).bind fun h61 =>
    (some (zg_p h61 28 (((h61.1 28) + 1)))).bind fun h64 =>
    zg_X10_pairs_L174 y1 y2 y3 y4 n h64 (y5 + 1) (y6 + 1)
set_option maxHeartbeats 1000000 in
set_option maxRecDepth 100000 in
theorem zh_X10_pairs_L174 (q : Nat) (h0 : zc_H) (y1 : Int32) (y2 : Int32) (y3 : Int32) (y4 : Int32) : ∀ (n : Nat) (S : zm_S) (y5 : Int32) (y6 : Int32), zf_X10_pairs_L174 q y1 y2 y3 y4 n (zm_h q h0 S) y5 y6 = (zg_X10_pairs_L174 y1 y2 y3 y4 n S y5 y6).map (zm_h q h0) := by
  intro n
  induction n with
  | zero => intro S y5 y6; rfl
  | succ n ih =>
    intro S y5 y6
    unfold zf_X10_pairs_L174 zg_X10_pairs_L174
    simp only [zm_is, not_true_eq_false, if_false, zo_s, zo_m, zo_n0, zo_mi, zo_ms, zo_mb, zo_bm, ih, zh_X10_isAlike, zm_a25, zm_a26, zm_a27, zm_gi28, zm_gr25, zm_gr26, zm_gr27, zm_p28, zm_s25, zm_s26, zm_s27]
def zg_X10_pairs (h : zm_S) (x1 : Int32) (x2 : Int32) : Option (zm_S) :=
  (zg_ai 17 (h.2.1 2) x1).bind fun v4 =>
  (zg_ai 17 (h.2.1 2) x2).bind fun v8 =>
  (zg_X10_pairs_L18 x1 x2 v4 v8 2000 h v4).bind fun w40 =>
  (zg_X10_pairs_L174 x1 x2 v4 v8 2000 w40 0 0).bind fun w65 =>
  some w65
set_option maxHeartbeats 1000000 in
set_option maxRecDepth 100000 in
theorem zh_X10_pairs (q : Nat) (h0 : zc_H) (S : zm_S) (x1 : Int32) (x2 : Int32) : zf_X10_pairs (zm_h q h0 S) q x1 x2 = (zg_X10_pairs S x1 x2).map (zm_h q h0) := by
  unfold zf_X10_pairs zg_X10_pairs
  simp only [zm_is, not_true_eq_false, if_false, zo_s, zo_m, zo_n0, zo_mi, zo_ms, zo_mb, zo_bm, zh_X10_pairs_L174, zh_X10_pairs_L18, zm_a2, zm_gr2, zm_s2]
def zg_X10_run_L3 (h : zm_S) (y1 : Int32) (y2 : Int32) (y3 : Int32) (y4 : Int32) : Nat → Int32 → Option (Int32)
  | 0, _ => none
  | n + 1, y5 =>
    (zg_ai 17 (h.2.1 2) y1).bind fun v4 =>
    if v4 ≤ (y2 + y5) then
      some y5
    else
    (zg_ai 17 (h.2.1 2) y3).bind fun v9 =>
    if v9 ≤ (y4 + y5) then
      some y5
    else
    (zg_ai 24 (h.2.1 26) (y2 + y5)).bind fun v14 =>
    if v14 = (-1) then
      (zg_ai 24 (h.2.1 27) (y4 + y5)).bind fun v19 =>
      if v19 = 0 then
        (zg_X10_isAlike h y1 (y2 + y5) y3 (y4 + y5)).bind fun r21 =>
        if r21 = 0 then
          some y5
        else
        zg_X10_run_L3 h y1 y2 y3 y4 n (y5 + 1)
      else
      some y5
    else
    some y5
set_option maxHeartbeats 1000000 in
set_option maxRecDepth 100000 in
theorem zh_X10_run_L3 (q : Nat) (h0 : zc_H) (S : zm_S) (y1 : Int32) (y2 : Int32) (y3 : Int32) (y4 : Int32) : ∀ (n : Nat) (y5 : Int32), zf_X10_run_L3 (zm_h q h0 S) q y1 y2 y3 y4 n y5 = zg_X10_run_L3 S y1 y2 y3 y4 n y5 := by
  intro n
  induction n with
  | zero => intro y5; rfl
  | succ n ih =>
    intro y5
    unfold zf_X10_run_L3 zg_X10_run_L3
    simp only [zm_is, not_true_eq_false, if_false, zo_s, zo_m, zo_n0, zo_mi, zo_ms, zo_mb, zo_bm, ih, zh_X10_isAlike, zm_a2, zm_a26, zm_a27, zm_gr2, zm_gr26, zm_gr27, zm_s2, zm_s26, zm_s27]
def zg_X10_run (h : zm_S) (x1 : Int32) (x2 : Int32) (x3 : Int32) (x4 : Int32) : Option (Int32) :=
  (zg_X10_run_L3 h x1 x2 x3 x4 2000 0).bind fun w23 =>
  some w23
set_option maxHeartbeats 1000000 in
set_option maxRecDepth 100000 in
theorem zh_X10_run (q : Nat) (h0 : zc_H) (S : zm_S) (x1 : Int32) (x2 : Int32) (x3 : Int32) (x4 : Int32) : zf_X10_run (zm_h q h0 S) q x1 x2 x3 x4 = zg_X10_run S x1 x2 x3 x4 := by
  unfold zf_X10_run zg_X10_run
  simp only [zm_is, not_true_eq_false, if_false, zo_s, zo_m, zo_n0, zo_mi, zo_ms, zo_mb, zo_bm, zh_X10_run_L3]
def zg_X10_moves_L25 (h : zm_S) (y1 : Int32) (y2 : Int32) (y6 : Int32) : Nat → Int32 → Int32 → Int32 → Int32 → Option (Int32 × Int32 × Int32)
  | 0, _, _, _, _ => none
  | n + 1, y3, y4, y5, y7 =>
    (zg_ai 17 (h.2.1 2) y2).bind fun v9 =>
    if v9 ≤ y7 then
      some (y3, y4, y5)
    else
    (zg_X10_run h y1 y6 y2 y7).bind fun r11 =>
    let k68 := fun (y68_3 : Int32) (y68_4 : Int32) (y68_5 : Int32) =>
      zg_X10_moves_L25 h y1 y2 y6 n y68_3 y68_4 y68_5 (y7 + 1)
    if y3 < r11 then
      k68 r11 y6 y7
    else
    k68 y3 y4 y5
set_option maxHeartbeats 1000000 in
set_option maxRecDepth 100000 in
theorem zh_X10_moves_L25 (q : Nat) (h0 : zc_H) (S : zm_S) (y1 : Int32) (y2 : Int32) (y6 : Int32) : ∀ (n : Nat) (y3 : Int32) (y4 : Int32) (y5 : Int32) (y7 : Int32), zf_X10_moves_L25 (zm_h q h0 S) q y1 y2 y6 n y3 y4 y5 y7 = zg_X10_moves_L25 S y1 y2 y6 n y3 y4 y5 y7 := by
  intro n
  induction n with
  | zero => intro y3 y4 y5 y7; rfl
  | succ n ih =>
    intro y3 y4 y5 y7
    unfold zf_X10_moves_L25 zg_X10_moves_L25
    simp only [zm_is, not_true_eq_false, if_false, zo_s, zo_m, zo_n0, zo_mi, zo_ms, zo_mb, zo_bm, ih, zh_X10_run, zm_a2, zm_gr2, zm_s2]
def zg_X10_moves_L11 (h : zm_S) (y1 : Int32) (y2 : Int32) : Nat → Int32 → Int32 → Int32 → Int32 → Option (Int32 × Int32 × Int32)
  | 0, _, _, _, _ => none
  | n + 1, y3, y4, y5, y6 =>
    (zg_ai 17 (h.2.1 2) y1).bind fun v4 =>
    if v4 ≤ y6 then
      some (y3, y4, y5)
    else
    (zg_X10_moves_L25 h y1 y2 y6 2000 y3 y4 y5 0).bind fun w13 =>
    zg_X10_moves_L11 h y1 y2 n w13.1 w13.2.1 w13.2.2 (y6 + 1)
set_option maxHeartbeats 1000000 in
set_option maxRecDepth 100000 in
theorem zh_X10_moves_L11 (q : Nat) (h0 : zc_H) (S : zm_S) (y1 : Int32) (y2 : Int32) : ∀ (n : Nat) (y3 : Int32) (y4 : Int32) (y5 : Int32) (y6 : Int32), zf_X10_moves_L11 (zm_h q h0 S) q y1 y2 n y3 y4 y5 y6 = zg_X10_moves_L11 S y1 y2 n y3 y4 y5 y6 := by
  intro n
  induction n with
  | zero => intro y3 y4 y5 y6; rfl
  | succ n ih =>
    intro y3 y4 y5 y6
    unfold zf_X10_moves_L11 zg_X10_moves_L11
    simp only [zm_is, not_true_eq_false, if_false, zo_s, zo_m, zo_n0, zo_mi, zo_ms, zo_mb, zo_bm, ih, zh_X10_moves_L25, zm_a2, zm_gr2, zm_s2]
def zg_X10_moves_L95 (y3 : Int32) (y4 : Int32) (y5 : Int32) : Nat → zm_S → Int32 → Option (zm_S)
  | 0, _, _ => none
  | n + 1, h, y6 =>
    if y3 ≤ y6 then
      some h
    else
    (zg_si 26 24 h (y4 + y6) (y5 + y6)).bind fun h24 =>
    (zg_si 27 24 h24 (y5 + y6) (1 &&& 1)).bind fun h28 =>
    zg_X10_moves_L95 y3 y4 y5 n h28 (y6 + 1)
set_option maxHeartbeats 1000000 in
set_option maxRecDepth 100000 in
theorem zh_X10_moves_L95 (q : Nat) (h0 : zc_H) (y3 : Int32) (y4 : Int32) (y5 : Int32) : ∀ (n : Nat) (S : zm_S) (y6 : Int32), zf_X10_moves_L95 q y3 y4 y5 n (zm_h q h0 S) y6 = (zg_X10_moves_L95 y3 y4 y5 n S y6).map (zm_h q h0) := by
  intro n
  induction n with
  | zero => intro S y6; rfl
  | succ n ih =>
    intro S y6
    unfold zf_X10_moves_L95 zg_X10_moves_L95
    simp only [zm_is, not_true_eq_false, if_false, zo_s, zo_m, zo_n0, zo_mi, zo_ms, zo_mb, zo_bm, ih, zm_a26, zm_a27, zm_gr26, zm_gr27, zm_s26, zm_s27]
def zg_X10_moves (h : zm_S) (x1 : Int32) (x2 : Int32) : Option (zm_S × Int32) :=
  (zg_X10_moves_L11 h x1 x2 2000 0 0 0 0).bind fun w14 =>
  (zg_ai 3 (h.2.1 7) 0).bind fun v18 =>
  if v18 ≤ w14.1 then
    (zg_X10_moves_L95 w14.1 w14.2.1 w14.2.2 2000 h 0).bind fun w29 =>
    (some (zg_p w29 29 (((w29.1 29) + w14.1)))).bind fun h32 =>
    some (h32, 1)
  else
  some (h, 0)
set_option maxHeartbeats 1000000 in
set_option maxRecDepth 100000 in
theorem zh_X10_moves (q : Nat) (h0 : zc_H) (S : zm_S) (x1 : Int32) (x2 : Int32) : zf_X10_moves (zm_h q h0 S) q x1 x2 = (zg_X10_moves S x1 x2).map (fun r => (zm_h q h0 r.1, r.2)) := by
  unfold zf_X10_moves zg_X10_moves
  simp only [zm_is, not_true_eq_false, if_false, zo_s, zo_m, zo_n0, zo_mi, zo_ms, zo_mb, zo_bm, zh_X10_moves_L11, zh_X10_moves_L95, zm_a7, zm_gi29, zm_gr7, zm_p29, zm_s7]
def zg_X10_places_L12 (y1 : Int32) (y2 : Int32) : Nat → zm_S → Int32 → Option (zm_S)
  | 0, _, _ => none
  | n + 1, h, y3 =>
    if 24 ≤ y3 then
      some h
    else
    (zg_si 26 24 h y3 (-1)).bind fun h7 =>
    (zg_si 27 24 h7 y3 (0 &&& 1)).bind fun h11 =>
    zg_X10_places_L12 y1 y2 n h11 (y3 + 1)
set_option maxHeartbeats 1000000 in
set_option maxRecDepth 100000 in
theorem zh_X10_places_L12 (q : Nat) (h0 : zc_H) (y1 : Int32) (y2 : Int32) : ∀ (n : Nat) (S : zm_S) (y3 : Int32), zf_X10_places_L12 q y1 y2 n (zm_h q h0 S) y3 = (zg_X10_places_L12 y1 y2 n S y3).map (zm_h q h0) := by
  intro n
  induction n with
  | zero => intro S y3; rfl
  | succ n ih =>
    intro S y3
    unfold zf_X10_places_L12 zg_X10_places_L12
    simp only [zm_is, not_true_eq_false, if_false, zo_s, zo_m, zo_n0, zo_mi, zo_ms, zo_mb, zo_bm, ih, zm_a26, zm_a27, zm_gr26, zm_gr27, zm_s26, zm_s27]
def zg_X10_places_L46 (y1 : Int32) (y2 : Int32) : Nat → zm_S → Int32 → Option (zm_S)
  | 0, _, _ => none
  | n + 1, h, y3 =>
    if y3 = 0 then
      some h
    else
    (zg_X10_moves h y1 y2).bind fun r15 =>
    zg_X10_places_L46 y1 y2 n r15.1 r15.2
set_option maxHeartbeats 1000000 in
set_option maxRecDepth 100000 in
theorem zh_X10_places_L46 (q : Nat) (h0 : zc_H) (y1 : Int32) (y2 : Int32) : ∀ (n : Nat) (S : zm_S) (y3 : Int32), zf_X10_places_L46 q y1 y2 n (zm_h q h0 S) y3 = (zg_X10_places_L46 y1 y2 n S y3).map (zm_h q h0) := by
  intro n
  induction n with
  | zero => intro S y3; rfl
  | succ n ih =>
    intro S y3
    unfold zf_X10_places_L46 zg_X10_places_L46
    simp only [zm_is, not_true_eq_false, if_false, zo_s, zo_m, zo_n0, zo_mi, zo_ms, zo_mb, zo_bm, ih, zh_X10_moves]
def zg_X10_places (h : zm_S) (x1 : Int32) (x2 : Int32) : Option (zm_S) :=
  (some (zg_p h 28 (0))).bind fun h1 =>
  (some (zg_p h1 29 (0))).bind fun h2 =>
  (zg_X10_places_L12 x1 x2 2000 h2 0).bind fun w12 =>
  (zg_X10_pairs w12 x1 x2).bind fun r13 =>
  (zg_X10_places_L46 x1 x2 2000 r13 1).bind fun w16 =>
  some w16
set_option maxHeartbeats 1000000 in
set_option maxRecDepth 100000 in
theorem zh_X10_places (q : Nat) (h0 : zc_H) (S : zm_S) (x1 : Int32) (x2 : Int32) : zf_X10_places (zm_h q h0 S) q x1 x2 = (zg_X10_places S x1 x2).map (zm_h q h0) := by
  unfold zf_X10_places zg_X10_places
  simp only [zm_is, not_true_eq_false, if_false, zo_s, zo_m, zo_n0, zo_mi, zo_ms, zo_mb, zo_bm, zh_X10_pairs, zh_X10_places_L12, zh_X10_places_L46, zm_p28, zm_p29]
def zg_X10_learns_L24 (y1 : Int32) : Nat → zm_S → Int32 → Option (zm_S)
  | 0, _, _ => none
  | n + 1, h, y2 =>
    if 24 ≤ y2 then
      some h
    else
    (zg_ai 24 (h.2.1 26) y2).bind fun v17 =>
    (zg_si 4 384 h ((24 * y1) + y2) v17).bind fun h19 =>
    zg_X10_learns_L24 y1 n h19 (y2 + 1)
set_option maxHeartbeats 1000000 in
set_option maxRecDepth 100000 in
theorem zh_X10_learns_L24 (q : Nat) (h0 : zc_H) (y1 : Int32) : ∀ (n : Nat) (S : zm_S) (y2 : Int32), zf_X10_learns_L24 q y1 n (zm_h q h0 S) y2 = (zg_X10_learns_L24 y1 n S y2).map (zm_h q h0) := by
  intro n
  induction n with
  | zero => intro S y2; rfl
  | succ n ih =>
    intro S y2
    unfold zf_X10_learns_L24 zg_X10_learns_L24
    simp only [zm_is, not_true_eq_false, if_false, zo_s, zo_m, zo_n0, zo_mi, zo_ms, zo_mb, zo_bm, ih, zm_a26, zm_a4, zm_gr26, zm_gr4, zm_s26, zm_s4]
def zg_X10_learns (h : zm_S) (x1 : Int32) : Option (zm_S) :=
  (zg_ai 16 (h.2.1 1) x1).bind fun v4 =>
  if v4 = (-1) then
    some h
  else
  (zg_ai 16 (h.2.1 1) x1).bind fun v9 =>
  (zg_X10_places h v9 x1).bind fun r10 =>
  (zg_X10_learns_L24 x1 2000 r10 0).bind fun w20 =>
  some w20
set_option maxHeartbeats 1000000 in
set_option maxRecDepth 100000 in
theorem zh_X10_learns (q : Nat) (h0 : zc_H) (S : zm_S) (x1 : Int32) : zf_X10_learns (zm_h q h0 S) q x1 = (zg_X10_learns S x1).map (zm_h q h0) := by
  unfold zf_X10_learns zg_X10_learns
  simp only [zm_is, not_true_eq_false, if_false, zo_s, zo_m, zo_n0, zo_mi, zo_ms, zo_mb, zo_bm, zh_X10_learns_L24, zh_X10_places, zm_a1, zm_gr1, zm_s1]
def zg_X10_comesTo (h : zm_S) (x1 : Int32) : Option (zm_S × Int32) :=
  (zg_si 1 16 h (h.1 0) x1).bind fun h6 =>
  (zg_X10_learns h6 (h6.1 0)).bind fun r9 =>
  (some (zg_p r9 0 (((r9.1 0) + 1)))).bind fun h12 =>
  some (h12, (r9.1 0))
set_option maxHeartbeats 1000000 in
set_option maxRecDepth 100000 in
theorem zh_X10_comesTo (q : Nat) (h0 : zc_H) (S : zm_S) (x1 : Int32) : zf_X10_comesTo (zm_h q h0 S) q x1 = (zg_X10_comesTo S x1).map (fun r => (zm_h q h0 r.1, r.2)) := by
  unfold zf_X10_comesTo zg_X10_comesTo
  simp only [zm_is, not_true_eq_false, if_false, zo_s, zo_m, zo_n0, zo_mi, zo_ms, zo_mb, zo_bm, zh_X10_learns, zm_a1, zm_gi0, zm_gr1, zm_p0, zm_s1]
def zg_X10_revise (h : zm_S) (x1 : Int32) (x2 : Int32) : Option (zm_S × Int32) :=
  (zg_X10_noRow h x1).bind fun r1 =>
  let k24 := fun (_ : Unit) =>
    (zg_X10_no h (-1)).bind fun r3 =>
    some (r3.1, r3.2)
  if r1 = (-1) then
    k24 ()
  else
  let k30 := fun (_ : Unit) =>
    if 0 ≤ r1 then
      (zg_X10_reads h x1).bind fun r6 =>
      (some (zg_p r6.1 12 (r6.2))).bind fun h7 =>
      if (h7.1 12) = (-1) then
        if (h7.1 0) = 16 then
          (zg_X10_no h7 (-7)).bind fun r15 =>
          some (r15.1, r15.2)
        else
        (zg_X10_comesTo h7 x2).bind fun r14 =>
        some (r14.1, r14.2)
      else
      (zg_X10_no h7 (-6)).bind fun r16 =>
      some (r16.1, r16.2)
    else
    (zg_X10_no h r1).bind fun r17 =>
    some (r17.1, r17.2)
  if x2 = (-1) then
    k30 ()
  else
  (zg_X10_isRevision h x2).bind fun r18 =>
  if r18 = 0 then
    k24 ()
  else
  k30 ()
set_option maxHeartbeats 1000000 in
set_option maxRecDepth 100000 in
theorem zh_X10_revise (q : Nat) (h0 : zc_H) (S : zm_S) (x1 : Int32) (x2 : Int32) : zf_X10_revise (zm_h q h0 S) q x1 x2 = (zg_X10_revise S x1 x2).map (fun r => (zm_h q h0 r.1, r.2)) := by
  unfold zf_X10_revise zg_X10_revise
  simp only [zm_is, not_true_eq_false, if_false, zo_s, zo_m, zo_n0, zo_mi, zo_ms, zo_mb, zo_bm, zh_X10_comesTo, zh_X10_isRevision, zh_X10_no, zh_X10_noRow, zh_X10_reads, zm_gi0, zm_gi12, zm_p12]
