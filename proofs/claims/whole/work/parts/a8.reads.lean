/-! a text is read -/
theorem za_64or {x y : Int64} (h : x ||| y = 0) : x = 0 := by
  have h1 := congrArg Int64.toBitVec h
  rw [Int64.toBitVec_or] at h1
  refine Int64.toBitVec_inj.mp (BitVec.eq_of_getLsbD_eq (fun i hi => ?_))
  have h2 := congrArg (fun b => b.getLsbD i) h1
  simp only [BitVec.getLsbD_or] at h2
  have z0 : (Int64.toBitVec 0).getLsbD i = false := BitVec.getLsbD_zero
  rw [z0] at h2 ⊢
  exact (Bool.or_eq_false_iff.mp h2).1
theorem za_64c {c : Int32} (h : ¬ c < 97) : ¬ (0 : Int64) ||| (c.toInt64 <<< ((8 * nI 0).toInt64 &&& 63)) = 0 := by
  intro e
  have e0 : ((8 : Int32) * nI 0).toInt64 &&& 63 = 0 := by decide
  rw [e0] at e
  have e1 : (0 : Int64) ||| (c.toInt64 <<< 0) = c.toInt64 := by
    refine Int64.toBitVec_inj.mp ?_
    simp
  rw [e1] at e
  have e2 := congrArg Int64.toInt32 e
  rw [Int32.toInt32_toInt64] at e2
  rw [e2] at h
  exact h (by decide)
def zx_rd (S S' : zm_S) (N m : Nat) (L : Nat → Int64) : Prop := S'.1 = S.1 ∧ S'.2.1 = S.2.1 ∧ (∀ k, k ≠ 3 → S'.2.2 k = S.2.2 k) ∧ (∀ j, j < 24 * N → S'.2.2 3 j = S.2.2 3 j) ∧ ∀ i, i < m → L i = S'.2.2 3 (24 * N + i) ∧ ¬ L i = 0
section ZV
variable {z : Nat} {w : zc_H} {S : zm_S} {N n s tt : Nat} {e : Nat → Int64}
theorem zx_readL (hz : w.2.2 < z) (hN : N ≤ 16) (h0 : S.1 0 = nI N) (hs : s < 8) (htt : tt < 4) (hn : n ≤ 160) (he : ∀ i, i < n → e i = S.2.2 11 (160 * s + i)) : ∀ (j k fu fu2 : Nat) (D : zy_D) (S' : zm_S) (m c : Nat) (L : Nat → Int64) (y : Int64), k + j = n → j < fu → j < fu2 → D.1 (22 + 2 * s) 0 = nI (100 + tt) → D.1 (22 + 2 * s) 1 = nI n → (∀ i, i < n → D.2.2 (23 + 2 * s) i = e i) → zy_dr D m L → zx_rd S S' N m L → m ≤ 23 → c ≤ 8 → (c = 0 → y = 0) → (¬ c = 0 → ¬ y = 0) → ∃ (D2 : zy_D) (S2 : zm_S) (m2 : Nat) (L2 : Nat → Int64) (o1 : (Int64 × Int32) ⊕ (Int32) ⊕ (Int32)) (o2 : (Int32 × Int32 × Int64) ⊕ (Int32)), zf_X0_readText_L13 (z + 9) (some (z + (22 + 2 * s))) fu (zy_h z D w) y (nI c) (nI k) = some (zy_h z D2 w, o1) ∧ zg_X10_reads_L18 (nI s) (nI n) fu2 S' (nI m) (nI c) y (nI k) = some (S2, o2) ∧ zx_eqD D D2 ∧ zy_dr D2 m2 L2 ∧ zx_rd S S2 N m2 L2 ∧ m2 ≤ 23 ∧ ((∃ c2 y2, c2 ≤ 8 ∧ (¬ c2 = 0 → ¬ y2 = 0) ∧ o1 = .inl (y2, nI c2) ∧ o2 = .inl (nI m2, nI c2, y2)) ∨ ∃ x, x < n ∧ o2 = .inr (nI x) ∧ (o1 = .inr (.inl (nI x)) ∨ o1 = .inr (.inr (nI x)))) := by
  intro j
  induction j with
  | zero =>
    intro k fu fu2 D S' m c L y h1 h2 h3 d0 d1 d2 V Q hm hc hy0 hy1
    obtain ⟨fu, rfl⟩ : ∃ n, fu = n + 1 := ⟨fu - 1, by omega⟩
    obtain ⟨fu2, rfl⟩ : ∃ n, fu2 = n + 1 := ⟨fu2 - 1, by omega⟩
    refine ⟨D, S', m, L, .inl (y, nI c), .inl (nI m, nI c, y), ?_, ?_, zx_eqD_refl D, V, Q, hm, Or.inl ⟨c, y, hc, hy1, rfl, rfl⟩⟩
    · unfold zf_X0_readText_L13
      rw [zo_s, zy_gS1 (zy_is_h _ _ _) hs, zo_s, d1, if_pos (nI_le (show n ≤ k by omega) (by omega))]
    · unfold zg_X10_reads_L18
      rw [if_pos (nI_le (show n ≤ k by omega) (by omega))]
  | succ j ih =>
    intro k fu fu2 D S' m c L y h1 h2 h3 d0 d1 d2 V Q hm hc hy0 hy1
    obtain ⟨fu, rfl⟩ : ∃ n, fu = n + 1 := ⟨fu - 1, by omega⟩
    obtain ⟨fu2, rfl⟩ : ∃ n, fu2 = n + 1 := ⟨fu2 - 1, by omega⟩
    have A := zy_is_h z D w
    obtain ⟨q1, q2, q3, q4, q5⟩ := id Q
    have nx : nI k + 1 = nI (k + 1) := (nI_succ k).symm
    have rd : zg_X10_read S' (nI s) (nI k) = some (e k).toInt32 := by
      unfold zg_X10_read
      rw [za_160, za_aj (by omega) (by decide), zo_s, q3 11 (by decide), ← he k (by omega)]
    have fault : ∃ (D2 : zy_D) (S2 : zm_S) (m2 : Nat) (L2 : Nat → Int64), zy_h z D w = zy_h z D2 w ∧ S' = S2 ∧ zx_eqD D D2 ∧ zy_dr D2 m2 L2 ∧ zx_rd S S2 N m2 L2 ∧ m2 ≤ 23 := ⟨D, S', m, L, rfl, rfl, zx_eqD_refl D, V, Q, hm⟩
    unfold zf_X0_readText_L13 zg_X10_reads_L18
    dsimp only
    rw [zo_s, zy_gS1 A hs, zo_s, d1, if_neg (nI_ge (show k < n by omega) (by omega)), if_neg (nI_ge (show k < n by omega) (by omega)), zs_num A hz hs htt d0 d1 hn (show k < n by omega), zo_s, d2 k (by omega), rd, zo_s ((e k).toInt32)]
    generalize (e k).toInt32 = r
    by_cases r47 : r = 47
    · have wn : zg_X10_within S' r 97 122 = some 0 := by
        unfold zg_X10_within
        rw [if_pos (by rw [r47]; decide)]
      rw [if_pos r47, if_pos r47]
      by_cases c0 : c = 0
      · rw [if_pos (show nI c = 0 by rw [c0]; rfl), if_pos (show nI c ≤ 0 by rw [c0]; decide), if_pos rfl, wn, zo_s, if_pos rfl]
        obtain ⟨D2, S2, m2, L2, f1, f2, f3, f4, f5, f6⟩ := fault
        exact ⟨D2, S2, m2, L2, _, _, by rw [f1], by rw [f2], f3, f4, f5, f6, Or.inr ⟨k, by omega, rfl, Or.inl rfl⟩⟩
      · rw [if_neg (nI_ne0 (by omega) (by omega)), if_neg (show ¬ nI c ≤ 0 from nI_ge (show 0 < c by omega) (by omega)), zy_g9_1 A, zo_s, V.1]
        by_cases y23 : m < 23
        · obtain ⟨D2, i1, i2, i3⟩ := zs_insert A hz V (show m < 24 by omega) (Nat.le_refl m) y
          rw [zy_hh] at i1
          have ee := i2 (22 + 2 * s) (by omega)
          have ee2 := i2 (23 + 2 * s) (by omega)
          obtain ⟨D3, S3, m3, L3, o1, o2, g1, g2, g3, g4, g5, g6, g7⟩ := ih (k + 1) fu fu2 D2 (zx_SJ S' 3 (va_up (S'.2.2 3) (24 * N + m) y)) (m + 1) 0 (zq_ins L m y) 0 (by omega) (by omega) (by omega) (by rw [ee.1]; exact d0) (by rw [ee.1]; exact d1) (fun i hi => by rw [ee2.2.2]; exact d2 i hi) i3 ⟨q1, q2, fun k hk => by
            show va_up S'.2.2 3 _ k = _
            rw [va_up_ne _ _ hk]
            exact q3 k hk, fun j hj => by
            rw [zx_SJj, va_up_ne _ _ (by omega)]
            exact q4 j hj, fun i hi => by
            rw [zx_SJj]
            unfold zq_ins
            by_cases y2 : i < m
            · rw [if_pos y2, va_up_ne _ _ (by omega)]
              exact q5 i y2
            · have : i = m := by omega
              subst this
              rw [if_neg y2, if_pos rfl, va_up_self]
              exact ⟨rfl, hy1 c0⟩⟩ (by omega) (by omega) (fun _ => rfl) (fun h => absurd rfl h)
          rw [if_pos (show nI m < 23 from nI_lt y23 (by decide)), zo_s, i1, zo_s, nx, if_neg (show ¬ (23 : Int32) ≤ nI m from nI_ge y23 (by decide)), if_neg (show ¬ (1 : Int32) = 0 by decide), if_neg (show ¬ (1 : Int32) = 0 by decide), q1, h0, za_24, zx_sj (by omega) (by decide), zo_s, ← nI_succ]
          exact ⟨D3, S3, m3, L3, o1, o2, g1, g2, zx_eqD_trans i2 g3, g4, g5, g6, g7⟩
        · rw [if_neg (show ¬ nI m < 23 from nI_nlt (show 23 ≤ m by omega) (by omega)), if_pos (show (23 : Int32) ≤ nI m from nI_le (show 23 ≤ m by omega) (by omega)), if_pos rfl, wn, zo_s, if_pos rfl]
          obtain ⟨D2, S2, m2, L2, f1, f2, f3, f4, f5, f6⟩ := fault
          exact ⟨D2, S2, m2, L2, _, _, by rw [f1], by rw [f2], f3, f4, f5, f6, Or.inr ⟨k, by omega, rfl, Or.inl rfl⟩⟩
    · rw [if_neg r47, if_neg r47, if_pos rfl]
      by_cases r97 : r < 97
      · have wn : zg_X10_within S' r 97 122 = some 0 := by
          unfold zg_X10_within
          rw [if_pos r97]
        rw [if_pos r97, wn, zo_s, if_pos rfl]
        obtain ⟨D2, S2, m2, L2, f1, f2, f3, f4, f5, f6⟩ := fault
        exact ⟨D2, S2, m2, L2, _, _, by rw [f1], by rw [f2], f3, f4, f5, f6, Or.inr ⟨k, by omega, rfl, Or.inr rfl⟩⟩
      · by_cases r122 : 122 < r
        · have wn : zg_X10_within S' r 97 122 = some 0 := by
            unfold zg_X10_within
            rw [if_neg r97, if_pos r122]
          rw [if_neg r97, if_pos r122, wn, zo_s, if_pos rfl]
          obtain ⟨D2, S2, m2, L2, f1, f2, f3, f4, f5, f6⟩ := fault
          exact ⟨D2, S2, m2, L2, _, _, by rw [f1], by rw [f2], f3, f4, f5, f6, Or.inr ⟨k, by omega, rfl, Or.inr rfl⟩⟩
        · have wn : zg_X10_within S' r 97 122 = some 1 := by
            unfold zg_X10_within
            rw [if_neg r97, if_neg r122]
          rw [if_neg r97, if_neg r122, wn, zo_s, if_neg (show ¬ (1 : Int32) = 0 by decide)]
          by_cases c8 : c < 8
          · have nz : ¬ y ||| (r.toInt64 <<< ((8 * nI c).toInt64 &&& 63)) = 0 := by
              by_cases c0 : c = 0
              · rw [hy0 c0, c0]
                exact za_64c r97
              · exact fun h => hy1 c0 (za_64or h)
            obtain ⟨D3, S3, m3, L3, o1, o2, g1, g2, g3, g4, g5, g6, g7⟩ := ih (k + 1) fu fu2 D S' m (c + 1) L (y ||| (r.toInt64 <<< ((8 * nI c).toInt64 &&& 63))) (by omega) (by omega) (by omega) d0 d1 d2 V Q hm (by omega) (fun h => absurd h (by omega)) (fun _ => nz)
            rw [if_pos (show nI c < 8 from nI_lt c8 (by decide)), if_neg (show ¬ nI c = 8 from fun h => by
              have := (za_eq (b := 8) (show c < 2 ^ 31 by omega) (by decide)).mp h
              omega), if_pos rfl, nx, ← nI_succ]
            exact ⟨D3, S3, m3, L3, o1, o2, g1, g2, g3, g4, g5, g6, g7⟩
          · have c8' : c = 8 := by omega
            rw [if_neg (show ¬ nI c < 8 from nI_nlt (show 8 ≤ c by omega) (by omega)), if_pos (show nI c = 8 by rw [c8']; rfl)]
            obtain ⟨D2, S2, m2, L2, f1, f2, f3, f4, f5, f6⟩ := fault
            exact ⟨D2, S2, m2, L2, _, _, by rw [f1], by rw [f2], f3, f4, f5, f6, Or.inr ⟨k, by omega, rfl, Or.inr rfl⟩⟩
end ZV
