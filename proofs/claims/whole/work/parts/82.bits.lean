/-! bits of an int (rows of the kit's bits family, under names of ours) -/
theorem zb_ext {x y : Int32} (h : ∀ i, i < 32 → zx_bt x i = zx_bt y i) : x = y := Int32.toBitVec_inj.mp (BitVec.eq_of_getLsbD_eq (fun i hi => h i hi))
theorem zb_or (x y : Int32) (i : Nat) : zx_bt (x ||| y) i = (zx_bt x i || zx_bt y i) := by unfold zx_bt; rw [Int32.toBitVec_or, BitVec.getLsbD_or]
theorem zb_and (x y : Int32) (i : Nat) : zx_bt (x &&& y) i = (zx_bt x i && zx_bt y i) := by unfold zx_bt; rw [Int32.toBitVec_and, BitVec.getLsbD_and]
theorem zb_xor (x y : Int32) (i : Nat) : zx_bt (x ^^^ y) i = (zx_bt x i ^^ zx_bt y i) := by unfold zx_bt; rw [Int32.toBitVec_xor, BitVec.getLsbD_xor]
theorem zb_big {x : Int32} {i : Nat} (h : 32 ≤ i) : zx_bt x i = false := BitVec.getLsbD_of_ge _ _ h
theorem zb_m1 : ∀ i, i < 32 → zx_bt (-1) i = true := by decide +kernel
theorem zb_0 (i : Nat) : zx_bt 0 i = false := BitVec.getLsbD_zero
theorem zb_1 (i : Nat) : zx_bt 1 i = decide (i = 0) := by
  rcases Nat.lt_or_ge i 32 with h | h
  · exact (by decide +kernel : ∀ i, i < 32 → zx_bt 1 i = decide (i = 0)) i h
  · rw [zb_big h, decide_eq_false (by omega)]
theorem zb_sl : ∀ n, n < 32 → ((nI n &&& 31).toBitVec.smod 32).toNat = n := by decide +kernel
theorem zb_p2 : ∀ l, l < 32 → ((1 : Int32) <<< (nI l &&& 31)).toBitVec = BitVec.twoPow 32 l := by decide +kernel
theorem zb_one {m : Nat} (hm : m < 32) (i : Nat) : zx_bt ((1 : Int32) <<< (nI m &&& 31)) i = decide (i = m) := by
  unfold zx_bt
  rw [zb_p2 m hm, BitVec.getLsbD_twoPow]
  by_cases c : i = m
  · subst c
    simp [hm]
  · simp [c, Ne.symm c]
theorem zb_not {m : Nat} (hm : m < 32) {i : Nat} (hi : i < 32) : zx_bt (((1 : Int32) <<< (nI m &&& 31)) ^^^ (-1)) i = !decide (i = m) := by
  rw [zb_xor, zb_one hm, zb_m1 i hi, Bool.xor_true]
theorem zb_inv (x : Int32) {i : Nat} (hi : i < 32) : zx_bt (x ^^^ (-1)) i = !zx_bt x i := by
  rw [zb_xor, zb_m1 i hi, Bool.xor_true]
theorem zb_ss (n : Nat) (hn : n < 32) (x : Int32) {i : Nat} (hi : i < 32) : zx_bt (x >>> (nI n &&& 31)) i = if n + i < 32 then zx_bt x (n + i) else zx_bt x 31 := by
  unfold zx_bt
  rw [Int32.toBitVec_shiftRight]
  show (x.toBitVec.sshiftRight ((nI n &&& 31).toBitVec.smod 32).toNat).getLsbD i = _
  rw [zb_sl n hn, BitVec.getLsbD_sshiftRight, BitVec.msb_eq_getLsbD_last]
  simp [hi]
theorem zb_test {x : Int32} {m : Nat} (hm : m < 32) : (x >>> (nI m &&& 31)) &&& 1 = 1 ↔ zx_bt x m = true := by
  have e0 : zx_bt ((x >>> (nI m &&& 31)) &&& 1) 0 = zx_bt x m := by
    rw [zb_and, zb_1, zb_ss m hm x (by decide)]
    simp [hm]
  constructor
  · intro h
    rw [h, zb_1] at e0
    exact e0.symm.trans (by decide)
  · intro h
    refine zb_ext (fun i hi => ?_)
    by_cases c : i = 0
    · subst c
      rw [e0, h, zb_1]
      rfl
    · rw [zb_and, zb_1, decide_eq_false c, Bool.and_false]
theorem zb_nz {x : Int32} : ¬ x = 0 ↔ ∃ i, i < 32 ∧ zx_bt x i = true := by
  constructor
  · intro h
    refine Classical.byContradiction (fun q => h (zb_ext (fun i hi => ?_)))
    rw [zb_0]
    cases e : zx_bt x i with
    | false => rfl
    | true => exact absurd ⟨i, hi, e⟩ q
  · rintro ⟨i, hi, h⟩ rfl
    rw [zb_0] at h
    cases h
/-- how many of the lowest bits are set -/
def zq_cnt (b : Nat → Bool) : Nat → Nat
  | 0 => 0
  | k + 1 => zq_cnt b k + (if b k = true then 1 else 0)
theorem zq_cnt_le (b : Nat → Bool) : ∀ k, zq_cnt b k ≤ k := by
  intro k
  induction k with
  | zero => exact Nat.le_refl _
  | succ k ih =>
    unfold zq_cnt
    split <;> omega
theorem zq_cnt_c {b c : Nat → Bool} : ∀ k, (∀ i, i < k → b i = c i) → zq_cnt b k = zq_cnt c k := by
  intro k
  induction k with
  | zero => intro _; rfl
  | succ k ih =>
    intro h
    unfold zq_cnt
    rw [ih (fun i hi => h i (by omega)), h k (by omega)]
theorem zq_cnt_more {b : Nat → Bool} {k n : Nat} (hk : k ≤ n) (h : ∀ i, k ≤ i → b i = false) : zq_cnt b n = zq_cnt b k := by
  induction n with
  | zero =>
    have : k = 0 := by omega
    rw [this]
  | succ n ih =>
    by_cases c : k = n + 1
    · rw [c]
    · rw [show zq_cnt b (n + 1) = zq_cnt b n + (if b n = true then 1 else 0) from rfl, ih (by omega), h n (by omega)]
      rfl
/-- the JDK's count, on numbers below 2 to the 16 -/
theorem zn_and {u v m k : Nat} (hv : v < 256) (hk : k < 256) : (256 * u + v) &&& (256 * m + k) = 256 * (u &&& m) + (v &&& k) := by
  refine Nat.eq_of_testBit_eq (fun j => ?_)
  have hvk : v &&& k < 2 ^ 8 := Nat.and_lt_two_pow v hk
  rw [Nat.testBit_and, show (256 : Nat) = 2 ^ 8 by decide, Nat.testBit_two_pow_mul_add _ hv, Nat.testBit_two_pow_mul_add _ hk, Nat.testBit_two_pow_mul_add _ hvk]
  by_cases c : j < 8
  · rw [if_pos c, if_pos c, if_pos c, Nat.testBit_and]
  · rw [if_neg c, if_neg c, if_neg c, Nat.testBit_and]
def zq_l1 (b : Nat) : Nat := b - (b / 2 &&& 85)
def zq_l2 (x : Nat) : Nat := (x &&& 51) + (x / 4 &&& 51)
def zq_l3 (x : Nat) : Nat := (x + x / 16) &&& 15
def zq_h1 (b : Nat) : Nat := b - (b / 2 &&& 5592405)
def zq_h2 (x : Nat) : Nat := (x &&& 3355443) + (x / 4 &&& 3355443)
def zq_h3 (x : Nat) : Nat := (x + x / 16) &&& 986895
def zq_c8 (n : Nat) : Nat := n % 2 + n / 2 % 2 + n / 4 % 2 + n / 8 % 2 + n / 16 % 2 + n / 32 % 2 + n / 64 % 2 + n / 128 % 2
theorem zn_k1 : ∀ e : Fin 2, ∀ b : Fin 256, (128 * e.val + b.val / 2) &&& 85 = b.val / 2 &&& 85 := by decide +kernel
theorem zn_k2 : ∀ e : Fin 4, ∀ b : Fin 256, (64 * e.val + b.val / 4) &&& 51 = b.val / 4 &&& 51 := by decide +kernel
theorem zn_k3 : ∀ e : Fin 5, ∀ b : Fin 69, (b.val + (16 * e.val + b.val / 16)) &&& 15 = (b.val + b.val / 16) &&& 15 := by decide +kernel
theorem zn_a : ∀ a : Fin 256, zq_l1 a.val < 256 ∧ zq_l2 (zq_l1 a.val) < 69 ∧ zq_l3 (zq_l2 (zq_l1 a.val)) = zq_c8 a.val ∧ zq_h1 a.val < 256 ∧ zq_h2 (zq_h1 a.val) % 16 < 5 ∧ zq_h3 (zq_h2 (zq_h1 a.val)) = zq_c8 a.val := by decide +kernel
theorem zq_c8_le (n : Nat) : zq_c8 n ≤ 8 := by
  unfold zq_c8
  omega
def zq_p1 (n : Nat) : Nat := n - (n / 2 &&& 1431655765)
def zq_p2 (a : Nat) : Nat := (a &&& 858993459) + (a / 4 &&& 858993459)
def zq_p3 (b : Nat) : Nat := (b + b / 16) &&& 252645135
def zq_p4 (c : Nat) : Nat := c + c / 256
def zq_p5 (d : Nat) : Nat := (d + d / 65536) &&& 63
theorem zn_p1 {a b : Nat} (ha : a < 256) (hb : b < 256) : zq_p1 (256 * a + b) = 256 * zq_h1 a + zq_l1 b := by
  unfold zq_p1 zq_h1 zq_l1
  have e1 : (256 * a + b) / 2 = 256 * (a / 2) + (128 * (a % 2) + b / 2) := by omega
  have k := zn_k1 ⟨a % 2, Nat.mod_lt _ (by decide)⟩ ⟨b, hb⟩
  dsimp only at k
  rw [e1, show (1431655765 : Nat) = 256 * 5592405 + 85 by decide, zn_and (by omega) (by decide), k]
  have q1 := Nat.and_le_left (n := a / 2) (m := 5592405)
  have q2 := Nat.and_le_left (n := b / 2) (m := 85)
  omega
theorem zn_p2 {a b : Nat} (hb : b < 256) : zq_p2 (256 * a + b) = 256 * zq_h2 a + zq_l2 b := by
  unfold zq_p2 zq_h2 zq_l2
  have e1 : (256 * a + b) / 4 = 256 * (a / 4) + (64 * (a % 4) + b / 4) := by omega
  have k := zn_k2 ⟨a % 4, Nat.mod_lt _ (by decide)⟩ ⟨b, hb⟩
  dsimp only at k
  rw [e1, show (858993459 : Nat) = 256 * 3355443 + 51 by decide, zn_and hb (by decide), zn_and (by omega) (by decide), k]
  omega
theorem zn_p3 {a b : Nat} (ha : a % 16 < 5) (hb : b < 69) : zq_p3 (256 * a + b) = 256 * zq_h3 a + zq_l3 b := by
  unfold zq_p3 zq_h3 zq_l3
  have e1 : 256 * a + b + (256 * a + b) / 16 = 256 * (a + a / 16) + (b + (16 * (a % 16) + b / 16)) := by omega
  have k := zn_k3 ⟨a % 16, ha⟩ ⟨b, hb⟩
  dsimp only at k
  rw [e1, show (252645135 : Nat) = 256 * 986895 + 15 by decide, zn_and (by omega) (by decide), k]
theorem zn_pop {a b : Nat} (ha : a < 256) (hb : b < 256) : zq_p5 (zq_p4 (zq_p3 (zq_p2 (zq_p1 (256 * a + b))))) = zq_c8 a + zq_c8 b := by
  obtain ⟨-, -, -, q4, q5, q6⟩ := zn_a ⟨a, ha⟩
  obtain ⟨r1, r2, r3, -, -, -⟩ := zn_a ⟨b, hb⟩
  dsimp only at q4 q5 q6 r1 r2 r3
  rw [zn_p1 ha hb, zn_p2 r1, zn_p3 q5 r2, q6, r3]
  have k1 := zq_c8_le a
  have k2 := zq_c8_le b
  unfold zq_p5 zq_p4
  generalize zq_c8 a = A at k1
  generalize zq_c8 b = B at k2
  rw [show (256 * A + B) / 256 = A by omega, show (256 * A + B + A) / 65536 = 0 by omega, show (63 : Nat) = 2 ^ 6 - 1 by decide, Nat.and_two_pow_sub_one_eq_mod]
  omega
/-- bits of nI n -/
theorem zx_bt_nI {n i : Nat} (h : i < 32) : zx_bt (nI n) i = n.testBit i := by
  show (BitVec.ofNat 32 n).getLsbD i = _
  rw [BitVec.getLsbD_ofNat, decide_eq_true h, Bool.true_and]
theorem zq_c16 {a b : Nat} (ha : a < 256) (hb : b < 256) : zq_cnt (fun i => (256 * a + b).testBit i) 16 = zq_c8 a + zq_c8 b := by
  have e : ∀ n i : Nat, (if n.testBit i = true then 1 else 0) = n / 2 ^ i % 2 := by
    intro n i
    rw [Nat.testBit_eq_decide_div_mod_eq]
    by_cases c : n / 2 ^ i % 2 = 1
    · rw [if_pos (decide_eq_true c), c]
    · rw [if_neg (fun q => c (of_decide_eq_true q))]
      omega
  simp only [zq_cnt, e]
  unfold zq_c8
  have f0 : (256 * a + b) / 2 ^ 0 % 2 = b % 2 := by omega
  have f1 : (256 * a + b) / 2 ^ 1 % 2 = b / 2 % 2 := by omega
  have f2 : (256 * a + b) / 2 ^ 2 % 2 = b / 4 % 2 := by omega
  have f3 : (256 * a + b) / 2 ^ 3 % 2 = b / 8 % 2 := by omega
  have f4 : (256 * a + b) / 2 ^ 4 % 2 = b / 16 % 2 := by omega
  have f5 : (256 * a + b) / 2 ^ 5 % 2 = b / 32 % 2 := by omega
  have f6 : (256 * a + b) / 2 ^ 6 % 2 = b / 64 % 2 := by omega
  have f7 : (256 * a + b) / 2 ^ 7 % 2 = b / 128 % 2 := by omega
  have f8 : (256 * a + b) / 2 ^ 8 % 2 = a % 2 := by omega
  have f9 : (256 * a + b) / 2 ^ 9 % 2 = a / 2 % 2 := by omega
  have f10 : (256 * a + b) / 2 ^ 10 % 2 = a / 4 % 2 := by omega
  have f11 : (256 * a + b) / 2 ^ 11 % 2 = a / 8 % 2 := by omega
  have f12 : (256 * a + b) / 2 ^ 12 % 2 = a / 16 % 2 := by omega
  have f13 : (256 * a + b) / 2 ^ 13 % 2 = a / 32 % 2 := by omega
  have f14 : (256 * a + b) / 2 ^ 14 % 2 = a / 64 % 2 := by omega
  have f15 : (256 * a + b) / 2 ^ 15 % 2 = a / 128 % 2 := by omega
  rw [f0, f1, f2, f3, f4, f5, f6, f7, f8, f9, f10, f11, f12, f13, f14, f15]
  omega
theorem zx_and (a b : Nat) : nI a &&& nI b = nI (a &&& b) := by
  refine Int32.toBitVec_inj.mp ?_
  show BitVec.ofNat 32 a &&& BitVec.ofNat 32 b = BitVec.ofNat 32 (a &&& b)
  refine BitVec.eq_of_getLsbD_eq (fun i hi => ?_)
  simp [hi]
theorem zx_bc {n : Nat} (hn : n < 65536) (h : zc_H) : zf_J6_bitCount_0f7a4 h (nI n) = some (nI (zq_cnt (fun i => n.testBit i) 16)) := by
  have ha : n / 256 < 256 := by omega
  have hb : n % 256 < 256 := Nat.mod_lt _ (by decide)
  have e : n = 256 * (n / 256) + n % 256 := by omega
  have u : ∀ (m k p : Nat) (s : Int32), 2 ^ k = p → m < 2 ^ 32 → ((s.toUInt32 &&& Int32.toUInt32 31).toBitVec % 32).toNat = k → ((nI m).toUInt32 >>> (s.toUInt32 &&& Int32.toUInt32 31)).toInt32 = nI (m / p) := fun m k p s h0 h1 h2 => by rw [← h0]; exact pk_ushrN h1 s k h2
  have q1 := Nat.and_le_left (n := n / 2) (m := 1431655765)
  have s1 : nI n - (((nI n).toUInt32 >>> ((1 : Int32).toUInt32 &&& Int32.toUInt32 31)).toInt32 &&& 1431655765) = nI (zq_p1 n) := by
    rw [u n 1 2 1 rfl (by omega) (by decide +kernel), show (1431655765 : Int32) = nI 1431655765 by decide, zx_and, za_sub (by omega)]
    rfl
  have b1 : zq_p1 n < 65536 := by
    unfold zq_p1
    omega
  have s2 : (nI (zq_p1 n) &&& 858993459) + (((nI (zq_p1 n)).toUInt32 >>> ((2 : Int32).toUInt32 &&& Int32.toUInt32 31)).toInt32 &&& 858993459) = nI (zq_p2 (zq_p1 n)) := by
    rw [u _ 2 4 2 rfl (by omega) (by decide +kernel), show (858993459 : Int32) = nI 858993459 by decide, zx_and, zx_and, za_add]
    rfl
  have b2 : zq_p2 (zq_p1 n) < 2 ^ 18 := by
    unfold zq_p2
    have := Nat.and_le_left (n := zq_p1 n) (m := 858993459)
    have := Nat.and_le_left (n := zq_p1 n / 4) (m := 858993459)
    omega
  have s3 : (nI (zq_p2 (zq_p1 n)) + ((nI (zq_p2 (zq_p1 n))).toUInt32 >>> ((4 : Int32).toUInt32 &&& Int32.toUInt32 31)).toInt32) &&& 252645135 = nI (zq_p3 (zq_p2 (zq_p1 n))) := by
    rw [u _ 4 16 4 rfl (by omega) (by decide +kernel), show (252645135 : Int32) = nI 252645135 by decide, za_add, zx_and]
    rfl
  have b3 : zq_p3 (zq_p2 (zq_p1 n)) < 2 ^ 19 := by
    unfold zq_p3
    have := Nat.and_le_left (n := zq_p2 (zq_p1 n) + zq_p2 (zq_p1 n) / 16) (m := 252645135)
    omega
  have s4 : nI (zq_p3 (zq_p2 (zq_p1 n))) + ((nI (zq_p3 (zq_p2 (zq_p1 n)))).toUInt32 >>> ((8 : Int32).toUInt32 &&& Int32.toUInt32 31)).toInt32 = nI (zq_p4 (zq_p3 (zq_p2 (zq_p1 n)))) := by
    rw [u _ 8 256 8 rfl (by omega) (by decide +kernel), za_add]
    rfl
  have b4 : zq_p4 (zq_p3 (zq_p2 (zq_p1 n))) < 2 ^ 20 := by
    unfold zq_p4
    omega
  have s5 : (nI (zq_p4 (zq_p3 (zq_p2 (zq_p1 n)))) + ((nI (zq_p4 (zq_p3 (zq_p2 (zq_p1 n))))).toUInt32 >>> ((16 : Int32).toUInt32 &&& Int32.toUInt32 31)).toInt32) &&& 63 = nI (zq_p5 (zq_p4 (zq_p3 (zq_p2 (zq_p1 n))))) := by
    rw [u _ 16 65536 16 rfl (by omega) (by decide +kernel), show (63 : Int32) = nI 63 by decide, za_add, zx_and]
    rfl
  unfold zf_J6_bitCount_0f7a4
  rw [s1, s2, s3, s4, s5]
  congr 2
  rw [show zq_cnt (fun i => n.testBit i) 16 = zq_cnt (fun i => (256 * (n / 256) + n % 256).testBit i) 16 by rw [← e], zq_c16 ha hb, ← zn_pop ha hb, ← e]
/-- the count of an int whose bits from 16 on are not set -/
theorem zx_count {x : Int32} (hx : ∀ i, 16 ≤ i → zx_bt x i = false) (h : zc_H) : zf_J6_bitCount_0f7a4 h x = some (nI (zq_cnt (zx_bt x) 16)) := by
  obtain ⟨n, hn, rfl⟩ : ∃ n : Nat, n < 2 ^ 32 ∧ x = nI n := ⟨x.toBitVec.toNat, x.toBitVec.isLt, Int32.toBitVec_inj.mp (by show _ = BitVec.ofNat 32 _; simp)⟩
  have h16 : n < 65536 := by
    refine Nat.lt_pow_two_of_testBit n (n := 16) (fun i hi => ?_)
    by_cases c : i < 32
    · rw [← zx_bt_nI c]
      exact hx i hi
    · exact Nat.testBit_lt_two_pow (Nat.lt_of_lt_of_le hn (Nat.pow_le_pow_right (by decide) (by omega)))
  rw [zx_bc h16]
  congr 2
  exact zq_cnt_c 16 (fun i hi => (zx_bt_nI (by omega)).symm)
