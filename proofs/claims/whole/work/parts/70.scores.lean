/-! scores: pure, the class's, the reference's -/
def zq_at (f : Nat → Int64) (n i : Nat) : Int64 := if 1 ≤ i ∧ i ≤ n then f (i - 1) else 0
def zq_scs (x y : Nat → Int64) (size : Nat) : Nat → Nat
  | 0 => 0
  | k + 1 => zq_scs x y size k + (if x k = y k then (if k = 0 ∨ k = size + 1 then 2 else 3) else 0)
def zq_s3 (x y : Nat → Int64) : Nat → Nat
  | 0 => 0
  | t + 1 => zq_s3 x y t + (if x t = y t then 3 else 0)
theorem zq_scs1 (x y : Nat → Int64) (size k : Nat) : zq_scs x y size (k + 1) = zq_scs x y size k + (if x k = y k then (if k = 0 ∨ k = size + 1 then 2 else 3) else 0) := rfl
theorem zq_s31 (x y : Nat → Int64) (t : Nat) : zq_s3 x y (t + 1) = zq_s3 x y t + (if x t = y t then 3 else 0) := rfl
theorem zq_scs_le (x y : Nat → Int64) (size : Nat) : ∀ k, zq_scs x y size k ≤ 3 * k := by
  intro k
  induction k with
  | zero => exact Nat.le_refl _
  | succ k ih =>
    unfold zq_scs
    split
    · split <;> omega
    · omega
theorem zq_scs_eq (x y : Nat → Int64) (size : Nat) : ∀ t, t ≤ size → zq_scs x y size (t + 1) = (if x 0 = y 0 then 2 else 0) + zq_s3 (fun k => x (k + 1)) (fun k => y (k + 1)) t := by
  intro t
  induction t with
  | zero =>
    intro _
    unfold zq_scs zq_scs zq_s3
    rw [if_pos (Or.inl rfl)]
    omega
  | succ t ih =>
    intro h
    have := ih (by omega)
    rw [show zq_scs x y size (t + 1 + 1) = zq_scs x y size (t + 1) + (if x (t + 1) = y (t + 1) then (if t + 1 = 0 ∨ t + 1 = size + 1 then 2 else 3) else 0) from rfl, this, show zq_s3 (fun k => x (k + 1)) (fun k => y (k + 1)) (t + 1) = zq_s3 (fun k => x (k + 1)) (fun k => y (k + 1)) t + (if x (t + 1) = y (t + 1) then 3 else 0) from rfl, if_neg (show ¬ (t + 1 = 0 ∨ t + 1 = size + 1) by omega)]
    omega
theorem zq_tot_eq (x y : Nat → Int64) (size : Nat) : zq_scs x y size (size + 2) = (if x 0 = y 0 then 2 else 0) + zq_s3 (fun k => x (k + 1)) (fun k => y (k + 1)) size + (if x (size + 1) = y (size + 1) then 2 else 0) := by
  rw [show zq_scs x y size (size + 2) = zq_scs x y size (size + 1) + (if x (size + 1) = y (size + 1) then (if size + 1 = 0 ∨ size + 1 = size + 1 then 2 else 3) else 0) from rfl, zq_scs_eq x y size size (Nat.le_refl _), if_pos (show size + 1 = 0 ∨ size + 1 = size + 1 from Or.inr rfl)]
/-- the score of a place s on lines g, for what stood about the lines p to p + size - 1 of f -/
def zq_sc (f : Nat → Int64) (n : Nat) (g : Nat → Int64) (m p size s : Nat) : Nat := zq_scs (fun k => zq_at f n (p + k)) (fun k => zq_at g m (s + k)) size (size + 2)
theorem zq_sc_le (f : Nat → Int64) (n : Nat) (g : Nat → Int64) (m p size s : Nat) : zq_sc f n g m p size s ≤ 3 * (size + 2) := zq_scs_le _ _ _ _
theorem za_subI {a b : Nat} (ha : a < 2 ^ 30) (hb : b < 2 ^ 30) : (nI a - nI b).toInt = (a : Int) - b := by
  rw [Int32.toInt_sub, nI_toInt (by omega), nI_toInt (by omega)]
  exact Int.bmod_eq_of_le (by omega) (by omega)
theorem za_sublt {a b c : Nat} (ha : a < 2 ^ 30) (hb : b < 2 ^ 30) (hc : c < 2 ^ 30) : nI a - nI b < nI c ↔ a < c + b := by
  rw [Int32.lt_iff_toInt_lt, za_subI ha hb, nI_toInt (by omega)]
  omega
theorem za_shift {s k : Nat} (h : 1 ≤ s + k) : nI s - 1 + nI k = nI (s + k - 1) := by
  have e : nI (s + k - 1) + 1 = nI (s + k) := by rw [← nI_succ]; congr 1; omega
  rw [← za_add] at e
  have e2 : nI (s + k - 1) = nI s + nI k - 1 := by rw [← e, Int32.add_sub_cancel]
  rw [e2, Int32.sub_eq_add_neg, Int32.sub_eq_add_neg, Int32.add_assoc, Int32.add_assoc, Int32.add_comm (-1) (nI k)]
theorem zk_lineS {h : zc_H} {b l m s k : Nat} {g : Nat → Int64} (R : zk_rv h b l m g) (hm : m < 2 ^ 20) (hs : s < 2 ^ 20) (hk : k < 2 ^ 20) : zf_X4_lineAt h b (nI s - 1 + nI k) = some (zq_at g m (s + k)) := by
  unfold zq_at
  by_cases c : 1 ≤ s + k
  · rw [za_shift c, zk_line R (by omega) (by omega)]
    by_cases d : s + k - 1 < m
    · rw [if_pos d, if_pos (by omega)]
    · rw [if_neg d, if_neg (by omega)]
  · have e1 : s = 0 := by omega
    have e2 : k = 0 := by omega
    subst e1 e2
    rw [show nI 0 - 1 + nI 0 = -1 by decide, zk_lineN R, if_neg (by omega)]
/-- a world whose Walk is told -/
def zk_w (h : zc_H) (W R0 : Nat) (v : Nat → Int32) (x : Nat → Int64) : zc_H := (fun y => if y = W then some (.inr (8, [.ref R0, .ref (W + 1), .int (v 2), .int (v 3), .ref (W + 2), .int (v 5), .int (v 6), .int (v 7), .int (v 8)])) else if y = W + 2 then some (.inl (1, 26, .inr (.inl x))) else h.1 y, h.2)
theorem zk_w0 {h : zc_H} {W R0 : Nat} {v : Nat → Int32} {x : Nat → Int64} : (zk_w h W R0 v x).1 W = some (.inr (8, [.ref R0, .ref (W + 1), .int (v 2), .int (v 3), .ref (W + 2), .int (v 5), .int (v 6), .int (v 7), .int (v 8)])) := by simp [zk_w]
theorem zk_wx {h : zc_H} {W R0 : Nat} {v : Nat → Int32} {x : Nat → Int64} : (zk_w h W R0 v x).1 (W + 2) = some (.inl (1, 26, .inr (.inl x))) := by simp [zk_w]
theorem zk_wn {h : zc_H} {W R0 y : Nat} {v : Nat → Int32} {x : Nat → Int64} (h1 : y ≠ W) (h2 : y ≠ W + 2) : (zk_w h W R0 v x).1 y = h.1 y := by
  unfold zk_w
  dsimp only
  rw [if_neg h1, if_neg h2]
theorem zk_wu0 {h : zc_H} {W R0 : Nat} {v v2 : Nat → Int32} {x : Nat → Int64} : zf_up (zk_w h W R0 v x) W (.inr (8, [.ref R0, .ref (W + 1), .int (v2 2), .int (v2 3), .ref (W + 2), .int (v2 5), .int (v2 6), .int (v2 7), .int (v2 8)])) = zk_w h W R0 v2 x := by
  refine Prod.ext ?_ rfl
  funext y
  unfold zf_up zk_w va_up
  dsimp only
  by_cases c : y = W
  · rw [if_pos c, if_pos c]
  · rw [if_neg c, if_neg c, if_neg c]
theorem zk_wux {h : zc_H} {W R0 : Nat} {v : Nat → Int32} {x x2 : Nat → Int64} : zf_up (zk_w h W R0 v x) (W + 2) (.inl (1, 26, .inr (.inl x2))) = zk_w h W R0 v x2 := by
  refine Prod.ext ?_ rfl
  funext y
  unfold zf_up zk_w va_up
  dsimp only
  by_cases c : y = W + 2
  · rw [if_pos c, if_neg (by omega), if_pos c]
  · simp [if_neg c]
theorem zk_wp {h : zc_H} {W R0 k : Nat} {v : Nat → Int32} {x : Nat → Int64} {y : Int32} (hk : k = 2 ∨ k = 3 ∨ k = 5 ∨ k = 6 ∨ k = 7 ∨ k = 8) : zf_p (zk_w h W R0 v x) W 8 k (.int y) = some (zk_w h W R0 (va_up v k y) x) := by
  rw [zb_p zk_w0 (by rcases hk with rfl | rfl | rfl | rfl | rfl | rfl <;> exact Nat.le_of_ble_eq_true rfl), ← zk_wu0 (v := v) (v2 := va_up v k y)]
  rcases hk with rfl | rfl | rfl | rfl | rfl | rfl <;> rfl
theorem zk_wg {h : zc_H} {W R0 k : Nat} {v : Nat → Int32} {x : Nat → Int64} (hk : k = 2 ∨ k = 3 ∨ k = 5 ∨ k = 6 ∨ k = 7 ∨ k = 8) : zf_gi (zk_w h W R0 v x) W 8 k = some (v k) := by
  refine zb_gi zk_w0 ?_
  rcases hk with rfl | rfl | rfl | rfl | rfl | rfl <;> rfl
theorem zk_scL {h : zc_H} {W R0 b lb m size s : Nat} {v : Nat → Int32} {x g : Nat → Int64} (RB : zk_rv (zk_w h W R0 v x) b lb m g) (hz : h.2.2 < W) (hm : m ≤ 24) (hs : s ≤ 24) (h5 : v 5 = nI size) (hz2 : size ≤ 24) : ∀ (r fu k : Nat), k + r = size + 2 → r < fu → zf_X8_scoreAt_L5 (zk_w h W R0 v x) W (some b) (nI s) fu (nI (zq_scs x (fun k => zq_at g m (s + k)) size k)) (nI k) = some (nI (zq_scs x (fun k => zq_at g m (s + k)) size (size + 2))) := by
  intro r
  induction r with
  | zero =>
    intro fu k h1 h2
    obtain ⟨fl, rfl⟩ : ∃ fl, fu = fl + 1 := ⟨fu - 1, by omega⟩
    unfold zf_X8_scoreAt_L5
    rw [zk_wg (by decide), zo_s, h5, show nI size + 2 = nI (size + 2) from za_add _ 2, if_pos (nI_le (by omega) (by omega)), show k = size + 2 by omega]
  | succ r ih =>
    intro fu k h1 h2
    obtain ⟨fl, rfl⟩ : ∃ fl, fu = fl + 1 := ⟨fu - 1, by omega⟩
    have hle := zq_scs_le x (fun k => zq_at g m (s + k)) size k
    have ih2 := ih fl (k + 1) (by omega) (by omega)
    rw [zq_scs1] at ih2
    unfold zf_X8_scoreAt_L5
    dsimp only
    rw [zk_wg (by decide), zo_s, h5, show nI size + 2 = nI (size + 2) from za_add _ 2, if_neg (nI_ge (by omega) (by omega)), zb_gr (x := some (W + 2)) zk_w0 rfl, zo_s, zo_s, zb_len zk_wx (by show W + 2 ≠ h.2.2; omega), zo_s, if_neg (nI_ge (show k < 26 by omega) (show (26 : Nat) < 2 ^ 31 by decide)), zo_s, zo_s, zb_aj zk_wx (by omega) (by decide), zo_s, zo_s, zk_lineS RB (by omega) (by omega) (by omega), zo_s, ← nI_succ]
    by_cases c : x k = zq_at g m (s + k)
    · rw [if_pos c] at ih2
      rw [if_pos (zl_cmp0.mpr c)]
      by_cases d : k = 0
      · rw [if_pos (by rw [d]; rfl)]
        rw [if_pos (Or.inl d)] at ih2
        rw [show nI (zq_scs x (fun k => zq_at g m (s + k)) size k) + 2 = nI (zq_scs x (fun k => zq_at g m (s + k)) size k + 2) from za_add _ 2]
        exact ih2
      · rw [if_neg (nI_ne0 (by omega) (by omega)), zo_s, ← nI_succ]
        by_cases e : k = size + 1
        · rw [if_pos (by rw [e])]
          rw [if_pos (Or.inr e)] at ih2
          rw [show nI (zq_scs x (fun k => zq_at g m (s + k)) size k) + 2 = nI (zq_scs x (fun k => zq_at g m (s + k)) size k + 2) from za_add _ 2]
          exact ih2
        · rw [if_neg (fun z => e ((za_eq (by omega) (by omega)).mp z))]
          rw [if_neg (by omega)] at ih2
          rw [show nI (zq_scs x (fun k => zq_at g m (s + k)) size k) + 3 = nI (zq_scs x (fun k => zq_at g m (s + k)) size k + 3) from za_add _ 3]
          exact ih2
    · rw [if_neg c] at ih2
      rw [if_neg (fun z => c (zl_cmp0.mp z))]
      exact ih2
theorem zk_score {h : zc_H} {W R0 b lb m size s : Nat} {v : Nat → Int32} {x g : Nat → Int64} (RB : zk_rv (zk_w h W R0 v x) b lb m g) (hz : h.2.2 < W) (hm : m ≤ 24) (hs : s ≤ 24) (h5 : v 5 = nI size) (hz2 : size ≤ 24) : zf_X8_scoreAt (zk_w h W R0 v x) W (some b) (nI s) = some (nI (zq_scs x (fun k => zq_at g m (s + k)) size (size + 2))) := by
  have e := zk_scL RB hz hm hs h5 hz2 (size + 2) 2000 0 (by omega) (by omega)
  unfold zf_X8_scoreAt
  rw [if_neg (zb_is zk_w0)]
  change (zf_X8_scoreAt_L5 (zk_w h W R0 v x) W (some b) (nI s) 2000 (nI (zq_scs x (fun k => zq_at g m (s + k)) size 0)) (nI 0)).bind _ = _
  rw [e, zo_s]
theorem zq_scs_c {x x2 y y2 : Nat → Int64} {size : Nat} : ∀ k, (∀ i, i < k → x i = x2 i ∧ y i = y2 i) → zq_scs x y size k = zq_scs x2 y2 size k := by
  intro k
  induction k with
  | zero => intro _; rfl
  | succ k ih =>
    intro h
    unfold zq_scs
    rw [ih (fun i hi => h i (by omega)), (h k (by omega)).1, (h k (by omega)).2]
theorem zq_s3_c {x x2 y y2 : Nat → Int64} : ∀ k, (∀ i, i < k → x i = x2 i ∧ y i = y2 i) → zq_s3 x y k = zq_s3 x2 y2 k := by
  intro k
  induction k with
  | zero => intro _; rfl
  | succ k ih =>
    intro h
    unfold zq_s3
    rw [ih (fun i hi => h i (by omega)), (h k (by omega)).1, (h k (by omega)).2]
theorem zq_s3_le (x y : Nat → Int64) : ∀ k, zq_s3 x y k ≤ 3 * k := by
  intro k
  induction k with
  | zero => exact Nat.le_refl _
  | succ k ih =>
    unfold zq_s3
    split <;> omega
theorem zr_scL {S : zm_S} {v : Nat → Int32} {a b p s size : Nat} (ha : a < 17) (hb : b < 17) (h34 : v 34 = nI a) (h35 : v 35 = nI p) (hp : p + size ≤ 24) (hs : s + size ≤ 24) : ∀ (r fu k : Nat), k + r = size → r < fu → zg_X10_score_L18 (zr_w S v) (nI b) (nI s) (nI size) fu (nI (zq_s3 (fun k => zr_ln S a (p + k)) (fun k => zr_ln S b (s + k)) k)) (nI k) = some (nI (zq_s3 (fun k => zr_ln S a (p + k)) (fun k => zr_ln S b (s + k)) size)) := by
  intro r
  induction r with
  | zero =>
    intro fu k h1 h2
    obtain ⟨fl, rfl⟩ : ∃ fl, fu = fl + 1 := ⟨fu - 1, by omega⟩
    unfold zg_X10_score_L18
    rw [if_pos (nI_le (by omega) (by omega)), show k = size by omega]
  | succ r ih =>
    intro fu k h1 h2
    obtain ⟨fl, rfl⟩ : ∃ fl, fu = fl + 1 := ⟨fu - 1, by omega⟩
    have ih2 := ih fl (k + 1) (by omega) (by omega)
    rw [zq_s31] at ih2
    unfold zg_X10_score_L18
    dsimp only
    rw [if_neg (nI_ge (by omega) (by omega)), zr_wg S v (by decide), zr_wg S v (by decide), h34, h35, za_add, za_add, zr_alike ha (by omega) hb (by omega), zo_s, zr_w2, ← nI_succ]
    by_cases c : S.2.2 3 (24 * a + (p + k)) = S.2.2 3 (24 * b + (s + k))
    · rw [if_pos c] at ih2
      rw [if_pos c, if_neg (by decide), show nI (zq_s3 (fun k => zr_ln S a (p + k)) (fun k => zr_ln S b (s + k)) k) + 3 = nI (zq_s3 (fun k => zr_ln S a (p + k)) (fun k => zr_ln S b (s + k)) k + 3) from za_add _ 3]
      exact ih2
    · rw [if_neg c] at ih2
      rw [if_neg c, if_pos rfl]
      exact ih2
/-- the end of a score -/
def zr_tail (h : zm_S) (x1 x2 y113_4 : Int32) : Option Int32 :=
        (zg_ai 17 (h.2.1 2) (h.1 34)).bind fun v25 =>
        let k136 := fun (s136_0 : Int32) =>
          (zg_ai 17 (h.2.1 2) x1).bind fun v30 =>
          let k157 := fun (s157_0 : Int32) (s157_1 : Int32) =>
            if s157_1 = s157_0 then
              let k186 := fun (_ : Unit) =>
                some (y113_4 + 2)
              if s136_0 = 0 then
                (zg_X10_isAlike h (h.1 34) ((h.1 36) + 1) x1 (x2 + (((h.1 36) - (h.1 35)) + 1))).bind fun r38 =>
                if r38 = 0 then
                  some y113_4
                else
                k186 ()
              else
              k186 ()
            else
            some y113_4
          if (x2 + (((h.1 36) - (h.1 35)) + 1)) = v30 then
            k157 1 s136_0
          else
          k157 0 s136_0
        if (h.1 36) = (v25 - 1) then
          k136 1
        else
        k136 0
theorem zr_tail_e {S : zm_S} {v : Nat → Int32} {a b n m p s size y : Nat} (ha : a < 17) (hb : b < 17) (hA : S.2.1 2 a = nI n) (hB : S.2.1 2 b = nI m) (hn : n ≤ 24) (hm : m ≤ 24) (h34 : v 34 = nI a) (h35 : v 35 = nI p) (h36 : v 36 = nI (p + size - 1)) (h1 : 1 ≤ size) (hp : p + size ≤ n) (hs : s + size ≤ m) (nza : ∀ i, i < n → zr_ln S a i ≠ 0) (nzb : ∀ i, i < m → zr_ln S b i ≠ 0) : zr_tail (zr_w S v) (nI b) (nI s) (nI y) = some (nI (y + (if zq_at (zr_ln S a) n (p + size + 1) = zq_at (zr_ln S b) m (s + size + 1) then 2 else 0))) := by
  have ex : nI (p + size - 1) - nI p + 1 = nI size := by
    rw [za_sub (by omega), ← nI_succ]
    congr 1
    omega
  have e1 : nI (p + size - 1) + 1 = nI (p + size) := by
    rw [← nI_succ]
    congr 1
    omega
  unfold zr_tail
  dsimp only
  rw [zr_wg S v (by decide), zr_wg S v (by decide), zr_wg S v (by decide), h34, h35, h36, zr_w2, ex, za_add, za_ai ha (by decide), zo_s, hA, e1, show nI n - 1 = nI (n - 1) from za_sub (show 1 ≤ n by omega), za_ai hb (by decide), zo_s, zo_s, hB, show nI y + 2 = nI (y + 2) from za_add _ 2]
  unfold zq_at
  by_cases c1 : p + size = n
  · rw [if_pos (by congr 1; omega), if_neg (show ¬ (1 ≤ p + size + 1 ∧ p + size + 1 ≤ n) by omega)]
    by_cases c2 : s + size = m
    · rw [if_pos (by rw [c2]), if_pos rfl, if_neg (by decide), if_neg (show ¬ (1 ≤ s + size + 1 ∧ s + size + 1 ≤ m) by omega), if_pos rfl]
    · rw [if_neg (fun z => c2 ((za_eq (by omega) (by omega)).mp z)), if_neg (by decide), if_pos (show 1 ≤ s + size + 1 ∧ s + size + 1 ≤ m by omega), if_neg (fun z => nzb (s + size) (by omega) z.symm)]
      rfl
  · rw [if_neg (fun z => (show ¬ p + size - 1 = n - 1 by omega) ((za_eq (by omega) (by omega)).mp z)), if_pos (show 1 ≤ p + size + 1 ∧ p + size + 1 ≤ n by omega)]
    by_cases c2 : s + size = m
    · rw [if_pos (by rw [c2]), if_neg (by decide), if_neg (show ¬ (1 ≤ s + size + 1 ∧ s + size + 1 ≤ m) by omega), if_neg (show ¬ zr_ln S a (p + size + 1 - 1) = 0 from nza (p + size) (by omega))]
      rfl
    · rw [if_neg (fun z => c2 ((za_eq (by omega) (by omega)).mp z)), if_pos rfl, if_pos rfl, zr_alike ha (by omega) hb (by omega), zo_s, zr_w2, if_pos (show 1 ≤ s + size + 1 ∧ s + size + 1 ≤ m by omega)]
      by_cases c3 : S.2.2 3 (24 * a + (p + size)) = S.2.2 3 (24 * b + (s + size))
      · rw [if_pos c3, if_neg (by decide), if_pos (show zr_ln S a (p + size + 1 - 1) = zr_ln S b (s + size + 1 - 1) from c3)]
      · rw [if_neg c3, if_pos rfl, if_neg (show ¬ zr_ln S a (p + size + 1 - 1) = zr_ln S b (s + size + 1 - 1) from c3)]
        rfl
theorem zr_score {S : zm_S} {v : Nat → Int32} {a b n m p s size : Nat} (ha : a < 17) (hb : b < 17) (hA : S.2.1 2 a = nI n) (hB : S.2.1 2 b = nI m) (hn : n ≤ 24) (hm : m ≤ 24) (h34 : v 34 = nI a) (h35 : v 35 = nI p) (h36 : v 36 = nI (p + size - 1)) (h1 : 1 ≤ size) (hp : p + size ≤ n) (hs : s + size ≤ m) (nza : ∀ i, i < n → zr_ln S a i ≠ 0) (nzb : ∀ i, i < m → zr_ln S b i ≠ 0) : zg_X10_score (zr_w S v) (nI b) (nI s) = some (nI (zq_sc (zr_ln S a) n (zr_ln S b) m p size s)) := by
  have e0 := zr_scL (S := S) (v := v) (size := size) (s := s) ha hb h34 h35 (by omega) (by omega) size 2000 0 (by omega) (by omega)
  have ex : nI (p + size - 1) - nI p + 1 = nI size := by
    rw [za_sub (by omega), ← nI_succ]
    congr 1
    omega
  have tot : zq_sc (zr_ln S a) n (zr_ln S b) m p size s = (if zq_at (zr_ln S a) n p = zq_at (zr_ln S b) m s then 2 else 0) + zq_s3 (fun k => zr_ln S a (p + k)) (fun k => zr_ln S b (s + k)) size + (if zq_at (zr_ln S a) n (p + size + 1) = zq_at (zr_ln S b) m (s + size + 1) then 2 else 0) := by
    unfold zq_sc
    rw [zq_tot_eq]
    congr 2
    refine zq_s3_c size (fun i hi => ⟨?_, ?_⟩)
    · unfold zq_at
      rw [if_pos (by omega)]
      congr 1
    · unfold zq_at
      rw [if_pos (by omega)]
      congr 1
  have fin := fun y => zr_tail_e (y := y) ha hb hA hB hn hm h34 h35 h36 h1 hp hs nza nzb
  have e0 : zg_X10_score_L18 (zr_w S v) (nI b) (nI s) (((zr_w S v).1 36) - ((zr_w S v).1 35) + 1) 2000 0 0 = some (nI (zq_s3 (fun k => zr_ln S a (p + k)) (fun k => zr_ln S b (s + k)) size)) := by
    rw [zr_wg S v (by decide), zr_wg S v (by decide), h35, h36, ex]
    exact e0
  rw [tot]
  unfold zg_X10_score
  rw [e0, zo_s]
  generalize zq_s3 (fun k => zr_ln S a (p + k)) (fun k => zr_ln S b (s + k)) size = T
  change (if (zr_w S v).1 35 = 0 then (if nI s = 0 then (if (1 : Int32) = 1 then (if (1 : Int32) = 0 then (zg_X10_isAlike (zr_w S v) ((zr_w S v).1 34) (((zr_w S v).1 35) - 1) (nI b) (nI s - 1)).bind fun r45 => if r45 = 0 then zr_tail (zr_w S v) (nI b) (nI s) (nI T) else zr_tail (zr_w S v) (nI b) (nI s) (nI T + 2) else zr_tail (zr_w S v) (nI b) (nI s) (nI T + 2)) else zr_tail (zr_w S v) (nI b) (nI s) (nI T)) else (if (1 : Int32) = 0 then (if (1 : Int32) = 0 then (zg_X10_isAlike (zr_w S v) ((zr_w S v).1 34) (((zr_w S v).1 35) - 1) (nI b) (nI s - 1)).bind fun r45 => if r45 = 0 then zr_tail (zr_w S v) (nI b) (nI s) (nI T) else zr_tail (zr_w S v) (nI b) (nI s) (nI T + 2) else zr_tail (zr_w S v) (nI b) (nI s) (nI T + 2)) else zr_tail (zr_w S v) (nI b) (nI s) (nI T))) else (if nI s = 0 then (if (0 : Int32) = 1 then (if (0 : Int32) = 0 then (zg_X10_isAlike (zr_w S v) ((zr_w S v).1 34) (((zr_w S v).1 35) - 1) (nI b) (nI s - 1)).bind fun r45 => if r45 = 0 then zr_tail (zr_w S v) (nI b) (nI s) (nI T) else zr_tail (zr_w S v) (nI b) (nI s) (nI T + 2) else zr_tail (zr_w S v) (nI b) (nI s) (nI T + 2)) else zr_tail (zr_w S v) (nI b) (nI s) (nI T)) else (if (0 : Int32) = 0 then (if (0 : Int32) = 0 then (zg_X10_isAlike (zr_w S v) ((zr_w S v).1 34) (((zr_w S v).1 35) - 1) (nI b) (nI s - 1)).bind fun r45 => if r45 = 0 then zr_tail (zr_w S v) (nI b) (nI s) (nI T) else zr_tail (zr_w S v) (nI b) (nI s) (nI T + 2) else zr_tail (zr_w S v) (nI b) (nI s) (nI T + 2)) else zr_tail (zr_w S v) (nI b) (nI s) (nI T)))) = _
  rw [zr_wg S v (by decide), zr_wg S v (by decide), h34, h35, show nI T + 2 = nI (T + 2) from za_add _ 2, fin T, fin (T + 2)]
  generalize (if zq_at (zr_ln S a) n (p + size + 1) = zq_at (zr_ln S b) m (s + size + 1) then 2 else 0) = E
  unfold zq_at
  by_cases c1 : p = 0
  · rw [if_pos (by rw [c1]; rfl), if_neg (show ¬ (1 ≤ p ∧ p ≤ n) by omega)]
    by_cases c2 : s = 0
    · rw [if_pos (by rw [c2]; rfl), if_pos rfl, if_neg (by decide), if_neg (show ¬ (1 ≤ s ∧ s ≤ m) by omega), if_pos rfl]
      congr 2
      omega
    · rw [if_neg (nI_ne0 (by omega) (by omega)), if_neg (by decide), if_pos (show 1 ≤ s ∧ s ≤ m by omega), if_neg (fun z => nzb (s - 1) (by omega) z.symm)]
      congr 2
      omega
  · rw [if_neg (nI_ne0 (by omega) (by omega)), if_pos (show 1 ≤ p ∧ p ≤ n by omega)]
    by_cases c2 : s = 0
    · rw [if_pos (by rw [c2]; rfl), if_neg (by decide), if_neg (show ¬ (1 ≤ s ∧ s ≤ m) by omega), if_neg (fun z => nza (p - 1) (by omega) z)]
      congr 2
      omega
    · rw [if_neg (nI_ne0 (by omega) (by omega)), if_pos rfl, if_pos rfl, if_pos (show 1 ≤ s ∧ s ≤ m by omega), show nI p - 1 = nI (p - 1) from za_sub (show 1 ≤ p by omega), show nI s - 1 = nI (s - 1) from za_sub (show 1 ≤ s by omega), zr_alike ha (by omega) hb (by omega), zo_s, zr_w2]
      by_cases c3 : S.2.2 3 (24 * a + (p - 1)) = S.2.2 3 (24 * b + (s - 1))
      · rw [if_pos c3, if_neg (by decide), if_pos (show zr_ln S a (p - 1) = zr_ln S b (s - 1) from c3)]
        congr 2
        omega
      · rw [if_neg c3, if_pos rfl, if_neg (show ¬ zr_ln S a (p - 1) = zr_ln S b (s - 1) from c3)]
        congr 2
        omega
