theorem zx_SASJ {S : zm_S} {k j : Nat} {c : Nat → Int64} {d : Nat → Int32} : (zx_SA (zx_SJ S k c) j d).2.2 k = c := va_up_self _ _ _
section ZV
variable {z : Nat} {w : zc_H} {D : zy_D} {S : zm_S} {N n s tt : Nat} {e : Nat → Int64}
/-- what a reading leaves in the reference -/
def zx_rdd (S S2 : zm_S) (N : Nat) : Prop := S2.1 = S.1 ∧ (∀ k, k ≠ 2 → S2.2.1 k = S.2.1 k) ∧ (∀ r, r < N → S2.2.1 2 r = S.2.1 2 r) ∧ (∀ k, k ≠ 3 → S2.2.2 k = S.2.2 k) ∧ ∀ j, j < 24 * N → S2.2.2 3 j = S.2.2 3 j
theorem zx_reads (A : zy_is z D w) (hz : w.2.2 < z) (hN : N ≤ 16) (h0 : S.1 0 = nI N) (hs : s < 8) (htt : tt < 4) (hn : n ≤ 160) (h10 : S.2.1 10 s = nI n) (d0 : D.1 (22 + 2 * s) 0 = nI (100 + tt)) (d1 : D.1 (22 + 2 * s) 1 = nI n) (d2 : ∀ i, i < n → D.2.2 (23 + 2 * s) i = S.2.2 11 (160 * s + i)) : ∃ (D2 : zy_D) (S2 : zm_S) (a : Int32), zf_X0_readText w (z + 9) (some (z + (22 + 2 * s))) = some (zy_h z D2 w, a) ∧ zg_X10_reads S (nI s) = some (S2, a) ∧ zx_eqD D D2 ∧ zx_rdd S S2 N ∧ (a = -1 → ∃ n2 L2, zy_dr D2 n2 L2 ∧ S2.2.1 2 N = nI n2 ∧ ∀ i, i < n2 → L2 i = S2.2.2 3 (24 * N + i) ∧ ¬ L2 i = 0) := by
  have eD : zx_eqD D (zy_I D 9 1 0) := zx_eqD_I (by decide)
  have t1 := eD (22 + 2 * s) (by omega)
  have t2 := eD (23 + 2 * s) (by omega)
  obtain ⟨D2, S2, m2, L2, o1, o2, g1, g2, g3, g4, g5, g6, g7⟩ := zx_readL (e := fun i => S.2.2 11 (160 * s + i)) hz hN h0 hs htt hn (fun i hi => rfl) n 0 2000 2000 (zy_I D 9 1 0) S 0 0 (fun _ => 0) 0 (by omega) (by omega) (by omega) (by rw [t1.1]; exact d0) (by rw [t1.1]; exact d1) (fun i hi => by rw [t2.2.2]; exact d2 i hi) ⟨zy_Ii, by omega, fun i hi => absurd hi (by omega)⟩ ⟨rfl, rfl, fun _ _ => rfl, fun _ _ => rfl, fun i hi => absurd hi (by omega)⟩ (by omega) (by omega) (fun _ => rfl) (fun h => absurd rfl h)
  have eD2 := zx_eqD_trans eD g3
  have A2 := zy_is_h z D2 w
  have u1 := g3 (22 + 2 * s) (by omega)
  obtain ⟨q1, q2, q3, q4, q5⟩ := id g5
  have rdd : zx_rdd S S2 N := ⟨q1, fun k _ => by rw [q2], fun r _ => by rw [q2], q3, q4⟩
  have rs : ∀ x, zx_rdd S (zx_SA S2 2 (va_up (S2.2.1 2) N x)) N := fun x => ⟨q1, fun k hk => by rw [zx_SAn S2 _ hk, q2], fun r hr => by rw [zx_SAa, va_up_ne _ _ (by omega), q2], q3, q4⟩
  unfold zf_X0_readText zg_X10_reads
  dsimp only
  rw [if_neg (zy_is9 A), zy_p9_1 A, zo_s, show zf_X0_readText_L13 (z + 9) (some (z + (22 + 2 * s))) 2000 (zy_h z (zy_I D 9 1 0) w) 0 0 0 = some (zy_h z D2 w, o1) from g1, zo_s, za_ai hs (by decide), h10, zo_s (nI n), show zg_X10_reads_L18 (nI s) (nI n) 2000 S 0 0 0 0 = some (S2, o2) from g2, zo_s (S2, o2)]
  rcases g7 with ⟨c2, y2, c8, ny, rfl, rfl⟩ | ⟨x, xn, rfl, hx⟩
  · dsimp only [Sum.elim]
    by_cases n0 : n = 0
    · subst n0
      -- no letters were read
      have hk : zf_X0_readText_L13 (z + 9) (some (z + (22 + 2 * s))) 2000 (zy_h z (zy_I D 9 1 0) w) 0 0 0 = some (zy_h z (zy_I D 9 1 0) w, .inl (0, 0)) := by
        unfold zf_X0_readText_L13
        rw [zo_s, zy_gS1 (zy_is_h _ _ _) hs, zo_s, show (zy_I D 9 1 0).1 (22 + 2 * s) 1 = nI 0 by rw [t1.1]; exact d1, if_pos (show nI 0 ≤ 0 by decide)]
      have hk2 := hk.symm.trans (show zf_X0_readText_L13 (z + 9) (some (z + (22 + 2 * s))) 2000 (zy_h z (zy_I D 9 1 0) w) 0 0 0 = some (zy_h z D2 w, .inl (y2, nI c2)) from g1)
      simp only [Option.some.injEq, Prod.mk.injEq, Sum.inl.injEq] at hk2
      obtain ⟨hw, hy, hc⟩ := hk2
      have hc0 : c2 = 0 := ((za_eq (a := 0) (by decide) (by omega)).mp hc).symm
      have hk3 : zg_X10_reads_L18 (nI s) (nI 0) 2000 S 0 0 0 0 = some (S, .inl (0, 0, 0)) := by
        unfold zg_X10_reads_L18
        rw [if_pos (show nI 0 ≤ 0 by decide)]
      have hk4 := hk3.symm.trans (show zg_X10_reads_L18 (nI s) (nI 0) 2000 S 0 0 0 0 = some (S2, .inl (nI m2, nI c2, y2)) from g2)
      simp only [Option.some.injEq, Prod.mk.injEq, Sum.inl.injEq] at hk4
      have hm0 : m2 = 0 := ((za_eq (a := 0) (by decide) (by omega)).mp hk4.2.1).symm
      have dz : D2.1 (22 + 2 * s) 1 = nI 0 := by rw [u1.1, t1.1]; exact d1
      subst hc0
      subst hm0
      rw [if_pos (show nI 0 ≤ 0 by decide), zo_s, zy_gS1 A2 hs, zo_s, dz, if_pos (show nI 0 = 0 by decide), if_pos (show nI 0 ≤ 0 by decide), if_pos (show nI 0 ≤ 0 by decide), if_pos (show nI 0 ≤ 0 by decide), q1, h0, zx_si (by omega) (by decide), zo_s]
      refine ⟨D2, _, -1, rfl, rfl, eD2, rs _, fun _ => ⟨0, L2, g4, ?_, fun i hi => absurd hi (by omega)⟩⟩
      rw [zx_SAa, va_up_self]
      rfl
    · have np : ¬ nI n ≤ 0 := nI_ge (show 0 < n by omega) (by omega)
      by_cases c0 : c2 = 0
      · subst c0
        have dz : D2.1 (22 + 2 * s) 1 = nI n := by rw [u1.1, t1.1]; exact d1
        rw [if_pos (show nI 0 ≤ 0 by decide), zo_s, zy_gS1 A2 hs, zo_s, dz, if_neg (show ¬ nI n = 0 from nI_ne0 (by omega) (by omega)), zo_s, if_neg np, if_pos (show nI 0 = 0 by decide)]
        exact ⟨D2, S2, nI n, rfl, rfl, eD2, rdd, fun h => absurd h (za_ne _ (by omega))⟩
      · obtain ⟨D3, i1, i2, i3⟩ := zs_insert A2 hz g4 (show m2 < 24 by omega) (Nat.le_refl m2) y2
        rw [zy_hh] at i1
        rw [if_neg (show ¬ nI c2 ≤ 0 from nI_ge (show 0 < c2 by omega) (by omega)), zy_g9_1 A2, zo_s, g4.1, i1, zo_s, if_neg np, if_neg (show ¬ nI c2 = 0 from nI_ne0 (by omega) (by omega)), if_neg np, q1, h0, za_24, zx_sj (by omega) (by decide), zo_s, if_neg np, show (zx_SJ S2 3 (va_up (S2.2.2 3) (24 * N + m2) y2)).1 0 = nI N by rw [← h0, ← q1]; rfl, zx_si (by omega) (by decide), zo_s]
        refine ⟨D3, _, -1, rfl, rfl, zx_eqD_trans eD2 i2, ⟨q1, fun k hk => ?_, fun r hr => ?_, fun k hk => ?_, fun j hj => ?_⟩, fun _ => ⟨m2 + 1, _, i3, ?_, fun i hi => ?_⟩⟩
        · rw [zx_SAn _ _ hk]
          exact congrFun q2 k
        · rw [zx_SAa, va_up_ne _ _ (by omega)]
          exact congrFun (congrFun q2 2) r
        · show va_up S2.2.2 3 _ k = _
          rw [va_up_ne _ _ hk]
          exact q3 k hk
        · rw [zx_SASJ, va_up_ne _ _ (by omega)]
          exact q4 j hj
        · rw [zx_SAa, va_up_self, nI_succ]
        · rw [zx_SASJ]
          unfold zq_ins
          by_cases y3 : i < m2
          · rw [if_pos y3, va_up_ne _ _ (by omega)]
            exact q5 i y3
          · have : i = m2 := by omega
            subst this
            rw [if_neg y3, if_pos rfl, va_up_self]
            exact ⟨rfl, ny c0⟩
  · have key : nI x = -1 → ∃ n2 L2, zy_dr D2 n2 L2 ∧ S2.2.1 2 N = nI n2 ∧ ∀ i, i < n2 → L2 i = S2.2.2 3 (24 * N + i) ∧ ¬ L2 i = 0 := fun h => absurd h (za_ne _ (by omega))
    rcases hx with rfl | rfl
    · dsimp only [Sum.elim]
      exact ⟨D2, S2, nI x, rfl, rfl, eD2, rdd, key⟩
    · dsimp only [Sum.elim]
      exact ⟨D2, S2, nI x, rfl, rfl, eD2, rdd, key⟩
end ZV
