/-! drawing, and the reference's shifts -/
theorem za_u32 (x : UInt32) : x.toInt32 = nI x.toNat := by
  refine Int32.toBitVec_inj.mp ?_
  show x.toBitVec = BitVec.ofNat 32 x.toNat
  rw [← UInt32.toNat_toBitVec, BitVec.ofNat_toNat, BitVec.setWidth_eq]
theorem za_draw (s : Int32) {x : Nat} (h0 : 0 < x) (h : x < 2 ^ 31) : ∃ d, d < x ∧ ((s.toUInt32 >>> ((16 : Int32).toUInt32 &&& Int32.toUInt32 31)).toInt32) - ((s.toUInt32 >>> ((16 : Int32).toUInt32 &&& Int32.toUInt32 31)).toInt32) / nI x * nI x = nI d := by
  have e16 : (16 : Int32).toUInt32 &&& Int32.toUInt32 31 = 16 := by decide
  rw [e16, za_u32]
  have hv : (s.toUInt32 >>> 16).toNat < 2 ^ 16 := by
    rw [UInt32.toNat_shiftRight]
    have e : (16 : UInt32).toNat % 32 = 16 := by decide
    rw [e, Nat.shiftRight_eq_div_pow]
    have := s.toUInt32.toNat_lt
    omega
  generalize (s.toUInt32 >>> 16).toNat = v at hv
  refine ⟨v % x, Nat.mod_lt _ h0, ?_⟩
  have ed : nI v / nI x = nI (v / x) := (Int32.ofNat_div (by omega) h).symm
  rw [ed, za_mul, za_sub (Nat.div_mul_le_self v x)]
  congr 1
  have := Nat.div_add_mod v x
  rw [Nat.mul_comm] at this
  omega
def zq_sd (s : Int32) : Int32 := s * 1103515245 + 12345
section ZV
variable {z : Nat} {w : zc_H} {D : zy_D} {S : zm_S} {E f g f' g' fb : Nat → Nat} {N M N' M' nb : Nat}
theorem zx_RR_8 {rdy : Nat → Int32 → Prop} (R : zx_RR z w D S rdy E f g f' g' fb N M N' M' nb) (a : Int32) : zx_RR z (zy_h z (zy_I D 2 6 a) w) (zy_I D 2 6 a) (zg_p S 8 a) rdy E f g f' g' fb N M N' M' nb := by
  obtain ⟨r1, r2, r3, r4, r5, r6⟩ := R
  have kp := zx_h_kp z (zy_I D 2 6 a) w
  have i1 : ∀ k, k ≠ 2 → (zy_I D 2 6 a).1 k = D.1 k := fun k h => zy_I1 h
  have p1 : ∀ k, k ≠ 8 → (zg_p S 8 a).1 k = S.1 k := fun k h => zg_pn h
  refine ⟨zy_is_h _ _ _, zx_V_t (w := w) (w2 := zy_h z (zy_I D 2 6 a) w) rfl (fun y hy => zy_o (Or.inr (by omega))) (fun k hk => zy_l hk) r2, zx_doc_t kp r3, zx_doc_t kp r4, ?_, ?_⟩
  · obtain ⟨d1, d2, d3, d4, d5, d6, d7, d8, d9, d10, d11⟩ := r5
    refine ⟨by rw [i1 0 (by decide), p1 16 (by decide)]; exact d1, by rw [i1 0 (by decide), p1 12 (by decide)]; exact d2, by rw [zy_In (by decide)]; exact d3, by rw [zy_In (by decide)]; exact d4, by rw [zy_In (by decide)]; exact d5, by rw [zy_Ii, zg_pp], by rw [zy_In (by decide)]; exact d7, d8, by rw [i1 20 (by decide), p1 13 (by decide)]; exact d9, d10, fun s hs => ?_⟩
    rw [i1 (22 + 2 * s) (by omega)]
    exact d11 s hs
  · unfold zx_im at r6 ⊢
    rw [i1 5 (by decide), p1 16 (by decide), p1 17 (by decide), p1 21 (by decide), p1 24 (by decide)]
    exact r6
theorem zs_draw (A : zy_is z D w) {s : Int32} (hs : D.1 2 6 = s) {x d : Nat} (h0 : 0 < x) (h : x < 2 ^ 31) (hd : (((zq_sd s).toUInt32 >>> ((16 : Int32).toUInt32 &&& Int32.toUInt32 31)).toInt32) - (((zq_sd s).toUInt32 >>> ((16 : Int32).toUInt32 &&& Int32.toUInt32 31)).toInt32) / nI x * nI x = nI d) : zf_X6_draw w (z + 2) (nI x) = some (zy_h z (zy_I D 2 6 (zq_sd s)) w, nI d) := by
  unfold zf_X6_draw
  rw [if_neg (zy_is2 A), zy_g2_6 A, zo_s, hs, zy_p2_6 A, zo_s, if_pos (show (0 : Int32) < nI x from nI_lt (show 0 < x from h0) h), zy_g2_6 (zy_is_h _ _ _), zo_s, if_neg (nI_ne0 h0 h), zy_Ii]
  exact congrArg (fun v => some (zy_h z (zy_I D 2 6 (zq_sd s)) w, v)) hd
theorem zr_draw {s : Int32} (hs : S.1 8 = s) {x d : Nat} (h0 : 0 < x) (h : x < 2 ^ 31) (hd : (((zq_sd s).toUInt32 >>> ((16 : Int32).toUInt32 &&& Int32.toUInt32 31)).toInt32) - (((zq_sd s).toUInt32 >>> ((16 : Int32).toUInt32 &&& Int32.toUInt32 31)).toInt32) / nI x * nI x = nI d) : zg_X10_draw S (nI x) = some (zg_p S 8 (zq_sd s), nI d) := by
  unfold zg_X10_draw
  rw [zo_s, hs, if_neg (nI_ne0 h0 h), zg_pp]
  exact congrArg (fun v => some (zg_p S 8 (zq_sd s), v)) hd
end ZV
/-! lines move in the reference -/
theorem za_sub1 {a b : Nat} (h : 1 ≤ b) : nI a + nI b - 1 = nI (a + (b - 1)) := by
  rw [za_add, show (1 : Int32) = nI 1 by decide, za_sub (by omega)]
  congr 1
  omega
theorem zr_sh60 {b s : Nat} {y1 y3 y4 : Int32} (hb : b + 24 ≤ 408) : ∀ (j k fu : Nat) (S : zm_S), s + j = k → k < 24 → j < fu → ∃ c, zg_X10_drifts_L60 y1 (nI b) y3 y4 (nI s) fu S (nI k) = some (zx_SJ S 3 c) ∧ (∀ i, i ≤ b + s ∨ b + k < i → c i = S.2.2 3 i) ∧ ∀ i, s < i → i ≤ k → c (b + i) = S.2.2 3 (b + (i - 1)) := by
  intro j
  induction j with
  | zero =>
    intro k fu S h1 h2 h3
    obtain ⟨fu, rfl⟩ : ∃ n, fu = n + 1 := ⟨fu - 1, by omega⟩
    refine ⟨S.2.2 3, ?_, fun _ _ => rfl, fun i h4 h5 => by omega⟩
    unfold zg_X10_drifts_L60
    rw [if_pos (nI_le (show k ≤ s by omega) (by omega)), zx_SJi]
  | succ j ih =>
    intro k fu S h1 h2 h3
    obtain ⟨fu, rfl⟩ : ∃ n, fu = n + 1 := ⟨fu - 1, by omega⟩
    obtain ⟨k, rfl⟩ : ∃ k', k = k' + 1 := ⟨k - 1, by omega⟩
    obtain ⟨c, e1, e2, e3⟩ := ih k fu (zx_SJ S 3 (va_up (S.2.2 3) (b + (k + 1)) (S.2.2 3 (b + k)))) (by omega) (by omega) (by omega)
    refine ⟨c, ?_, fun i hi => ?_, fun i h4 h5 => ?_⟩
    · unfold zg_X10_drifts_L60
      rw [if_neg (nI_ge (show s < k + 1 by omega) (by omega)), za_sub1 (by omega), Nat.add_sub_cancel, za_aj (by omega) (by decide), zo_s, za_add, zx_sj (by omega) (by decide), zo_s, za_pm, e1, zx_SJJ]
    · rw [e2 i (by omega), zx_SJj, va_up_ne _ _ (by omega)]
    · by_cases y : i = k + 1
      · subst y
        rw [e2 _ (by omega), zx_SJj, va_up_self, Nat.add_sub_cancel]
      · rw [e3 i h4 (by omega), zx_SJj, va_up_ne _ _ (by omega)]
theorem zr_sh205 {b : Nat} {y1 y3 y4 y5 : Int32} {y6 : Int64} (hb : b + 24 ≤ 408) : ∀ (k fu : Nat) (S : zm_S), k < 24 → k < fu → ∃ c, zg_X10_drifts_L205 y1 (nI b) y3 y4 y5 y6 fu S (nI k) = some (zx_SJ S 3 c) ∧ (∀ i, i ≤ b ∨ b + k < i → c i = S.2.2 3 i) ∧ ∀ i, 0 < i → i ≤ k → c (b + i) = S.2.2 3 (b + (i - 1)) := by
  intro k
  induction k with
  | zero =>
    intro fu S h2 h3
    obtain ⟨fu, rfl⟩ : ∃ n, fu = n + 1 := ⟨fu - 1, by omega⟩
    refine ⟨S.2.2 3, ?_, fun _ _ => rfl, fun i h4 h5 => by omega⟩
    unfold zg_X10_drifts_L205
    rw [if_pos (show nI 0 ≤ 0 by decide), zx_SJi]
  | succ k ih =>
    intro fu S h2 h3
    obtain ⟨fu, rfl⟩ : ∃ n, fu = n + 1 := ⟨fu - 1, by omega⟩
    obtain ⟨c, e1, e2, e3⟩ := ih fu (zx_SJ S 3 (va_up (S.2.2 3) (b + (k + 1)) (S.2.2 3 (b + k)))) (by omega) (by omega)
    refine ⟨c, ?_, fun i hi => ?_, fun i h4 h5 => ?_⟩
    · unfold zg_X10_drifts_L205
      rw [if_neg (show ¬ nI (k + 1) ≤ 0 from nI_ge (show 0 < k + 1 by omega) (by omega)), za_sub1 (by omega), Nat.add_sub_cancel, za_aj (by omega) (by decide), zo_s, za_add, zx_sj (by omega) (by decide), zo_s, za_pm, e1, zx_SJJ]
    · rw [e2 i (by omega), zx_SJj, va_up_ne _ _ (by omega)]
    · by_cases y : i = k + 1
      · subst y
        rw [e2 _ (by omega), zx_SJj, va_up_self, Nat.add_sub_cancel]
      · rw [e3 i h4 (by omega), zx_SJj, va_up_ne _ _ (by omega)]
theorem zr_sh136 {b n : Nat} {y1 y4 y5 : Int32} (hb : b + 24 ≤ 408) (hn : n + 1 ≤ 24) : ∀ (j k fu : Nat) (S : zm_S), k + j = n → j < fu → ∃ c, zg_X10_drifts_L136 y1 (nI b) (nI (n + 1)) y4 y5 fu S (nI k) = some (zx_SJ S 3 c) ∧ (∀ i, i < b + k → c i = S.2.2 3 i) ∧ ∀ i, k ≤ i → i < n → c (b + i) = S.2.2 3 (b + (i + 1)) := by
  intro j
  induction j with
  | zero =>
    intro k fu S h1 h3
    obtain ⟨fu, rfl⟩ : ∃ n, fu = n + 1 := ⟨fu - 1, by omega⟩
    refine ⟨S.2.2 3, ?_, fun _ _ => rfl, fun i h4 h5 => by omega⟩
    unfold zg_X10_drifts_L136
    rw [show (1 : Int32) = nI 1 by decide, za_sub (by omega), if_pos (nI_le (show n + 1 - 1 ≤ k by omega) (by omega)), zx_SJi]
  | succ j ih =>
    intro k fu S h1 h3
    obtain ⟨fu, rfl⟩ : ∃ n, fu = n + 1 := ⟨fu - 1, by omega⟩
    obtain ⟨c, e1, e2, e3⟩ := ih (k + 1) fu (zx_SJ S 3 (va_up (S.2.2 3) (b + k) (S.2.2 3 (b + (k + 1))))) (by omega) (by omega)
    refine ⟨c, ?_, fun i hi => ?_, fun i h4 h5 => ?_⟩
    · unfold zg_X10_drifts_L136
      rw [if_neg (show ¬ nI (n + 1) - 1 ≤ nI k from by
        rw [show (1 : Int32) = nI 1 by decide, za_sub (by omega)]
        exact nI_ge (show k < n + 1 - 1 by omega) (by omega)), za_add, ← nI_succ (b + k), show b + k + 1 = b + (k + 1) by omega, za_aj (by omega) (by decide), zo_s, zx_sj (by omega) (by decide), zo_s, ← nI_succ, e1, zx_SJJ]
    · rw [e2 i (by omega), zx_SJj, va_up_ne _ _ (by omega)]
    · by_cases y : i = k
      · subst y
        rw [e2 _ (by omega), zx_SJj, va_up_self]
      · rw [e3 i (by omega) h5, zx_SJj, va_up_ne _ _ (by omega)]
