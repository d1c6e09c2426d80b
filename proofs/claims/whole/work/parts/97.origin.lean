/-! where a line first came in: origin -/
/-- the places that a revision's object holds -/
theorem zx_parr {z : Nat} {w : zc_H} {S : zm_S} {f g : Nat → Nat} {N M run : Nat} (B : zx_d1 z w f g N M S (fun _ x => x = S.2.1 7 0)) (hc : zx_co S N) (hrun : S.2.1 7 0 = nI run) (hr1 : 1 ≤ run) (hr9 : run ≤ 9) {b : Nat} (hb : b < N) : ∃ np p, w.1 (f b + 2) = some (.inl (0, np, .inl p)) ∧ ((S.2.1 1 b = -1 ∧ np = 0) ∨ ∃ k, k < b ∧ S.2.1 1 b = nI k ∧ np = zx_n (S.2.1 2) k ∧ ∀ i, i < np → p i = zr_co S b i) := by
  have B : zx_doc z w f g N M (S.2.1 1) (S.2.1 2) (S.2.2 3) (S.2.1 6) (fun _ x => x = S.2.1 7 0) := B
  have hN := B.1
  obtain ⟨o, rf, fo, c1, c2, c3, c4, c5⟩ := B.2.2.1 b hb
  obtain ⟨b1, b2, num, rf', fo', n, np, p, e1, e2, e3, e4, e5⟩ := o
  rw [c1] at e1
  simp only [Option.some.injEq, Sum.inr.injEq, Prod.mk.injEq, List.cons.injEq, Value.int.injEq, and_true, true_and] at e1
  obtain ⟨-, e7, e8⟩ := e1
  refine ⟨np, p, e3, ?_⟩
  rcases c5 with ⟨d1, d2⟩ | ⟨d1, d2, d3, d4⟩
  · subst d2
    cases fo' with
    | some b0 => simp [va_rf] at e7
    | none => exact Or.inl ⟨d1, e5⟩
  · subst d3
    cases fo' with
    | none => simp [va_rf] at e7
    | some b0 =>
      simp only [va_rf, Value.ref.injEq] at e7
      subst e7
      obtain ⟨g0, g1, g2, g3, g4, g5⟩ := e5
      have ok := (B.2.2.1 (zx_k (S.2.1 1) b) (by omega)).2
      obtain ⟨rfk, fok, k1, k2, k3, k4, -⟩ := ok
      rw [g4] at k2
      simp only [Option.some.injEq, Sum.inl.injEq, Prod.mk.injEq, and_true, true_and] at k2
      rw [c2] at e2
      simp only [Option.some.injEq, Sum.inl.injEq, Prod.mk.injEq, and_true, true_and] at e2
      have rfe : rf' = nI run := by rw [← e8, d4, hrun]
      refine Or.inr ⟨zx_k (S.2.1 1) b, d1, d2, k2, fun i hi => ?_⟩
      rcases g5 with q | ⟨run', q1, q2, q3, q4⟩
      · rw [rfe] at q
        exact absurd q (nI_ne0 (by omega) (by omega))
      · have er : run' = run := (za_eq (by omega) (by omega)).mp (q1.symm.trans rfe)
        subst er
        have pm : zp_match (zx_l w (f (zx_k (S.2.1 1) b))) (zx_l w (f b)) np n run' = zp_match (zr_ln S (zx_k (S.2.1 1) b)) (zr_ln S b) (zx_n (S.2.1 2) (zx_k (S.2.1 1) b)) (zx_n (S.2.1 2) b) run' := by
          rw [k2, ← e2]
          exact zp_match_fg (fun j hj => (k4 j hj).1) (fun j hj => (c4 j hj).1)
        have co : zr_co S b i = (zp_match (zr_ln S (zx_k (S.2.1 1) b)) (zr_ln S b) (zx_n (S.2.1 2) (zx_k (S.2.1 1) b)) (zx_n (S.2.1 2) b) run').1 i := by
          have := hc b hb _ d1 d2 i (by omega)
          rw [hrun, nI_clamp (by omega)] at this
          exact this
        rw [q4 i hi, pm, co]
/-- the first place that holds a line, or none -/
def zq_src (p : Nat → Int32) (x : Int32) : Nat → Nat → Option Nat
  | 0, _ => none
  | k + 1, i => if p i = x then some i else zq_src p x k (i + 1)
theorem zq_src_lt {p : Nat → Int32} {x : Int32} : ∀ (k i j : Nat), zq_src p x k i = some j → j < i + k := by
  intro k
  induction k with
  | zero => intro i j h; cases h
  | succ k ih =>
    intro i j h
    unfold zq_src at h
    by_cases d : p i = x
    · rw [if_pos d] at h
      cases h
      omega
    · rw [if_neg d] at h
      have := ih _ _ h
      omega
def zq_s1 : Option Nat → Int32
  | none => -1
  | some j => nI j
def zq_s2 : Option Nat → Unit ⊕ Int32
  | none => .inl ()
  | some j => .inr (nI j)
theorem zx_k31 {F : Nat → Int32} {r : Nat} (h : F r = -1) : zx_k F r < 2 ^ 31 := by
  have e : (-1 : Int32).toNatClampNeg = 0 := by decide
  unfold zx_k
  rw [h, e]
  omega
section ZV
variable {z : Nat} {w : zc_H} {D : zy_D} {S : zm_S} {f g f' g' : Nat → Nat} {N M N' M' : Nat}
theorem zs_srcL {a np : Nat} {p : Nat → Int32} {x : Int32} {vs : List Value} (h1 : w.1 a = some (.inr (4, vs))) (h3 : vs[3]? = some (.ref (a + 2))) (h2 : w.1 (a + 2) = some (.inl (0, np, .inl p))) (hw : w.2.2 < a) (hn : np ≤ 24) {p2 : Nat → Int32} (hp : ∀ i, i < np → p i = p2 i) : ∀ (k fu i : Nat), i + k = np → k < fu → zf_X4_sourceOf_L2 w a x fu (nI i) = some (zq_s2 (zq_src p2 x k i)) := by
  intro k
  induction k with
  | zero =>
    intro fu i e1 e2
    obtain ⟨fu, rfl⟩ : ∃ n, fu = n + 1 := ⟨fu - 1, by omega⟩
    unfold zf_X4_sourceOf_L2
    rw [zb_gr (x := some (a + 2)) h1 h3, zo_s, zo_s, zb_len h2 (by omega), zo_s, if_pos (nI_le (show np ≤ i by omega) (by omega))]
    rfl
  | succ k ih =>
    intro fu i e1 e2
    obtain ⟨fu, rfl⟩ : ∃ n, fu = n + 1 := ⟨fu - 1, by omega⟩
    unfold zf_X4_sourceOf_L2 zq_src
    rw [zb_gr (x := some (a + 2)) h1 h3, zo_s, zo_s, zb_len h2 (by omega), zo_s, if_neg (nI_ge (show i < np by omega) (by omega)), zo_s, zo_s, zb_ai h2 (by omega) (by omega), zo_s, hp i (by omega)]
    by_cases c : p2 i = x
    · rw [if_pos c, if_pos c]
      rfl
    · rw [if_neg c, if_neg c, ← nI_succ]
      exact ih fu (i + 1) (by omega) (by omega)
theorem zs_src {a np : Nat} {p : Nat → Int32} {x : Int32} {vs : List Value} (h1 : w.1 a = some (.inr (4, vs))) (h3 : vs[3]? = some (.ref (a + 2))) (h2 : w.1 (a + 2) = some (.inl (0, np, .inl p))) (hw : w.2.2 < a) (hn : np ≤ 24) {p2 : Nat → Int32} (hp : ∀ i, i < np → p i = p2 i) : zf_X4_sourceOf w a x = some (zq_s1 (zq_src p2 x np 0)) := by
  unfold zf_X4_sourceOf
  rw [if_neg (zb_is h1), show (0 : Int32) = nI 0 from rfl, zs_srcL h1 h3 h2 hw hn hp np 2000 0 (by omega) (by omega), zo_s]
  cases zq_src p2 x np 0 <;> rfl
theorem zr_srcL {r k0 n : Nat} {x : Int32} (hr : r < 16) (hk : k0 < r) (e : S.2.1 1 r = nI k0) (en : S.2.1 2 k0 = nI n) (hn : n ≤ 24) : ∀ (k fu i : Nat), i + k = n → k < fu → zg_X10_comesFrom_L14 S (nI r) x fu (nI i) = some (zq_s2 (zq_src (zr_co S r) x k i)) := by
  intro k
  induction k with
  | zero =>
    intro fu i e1 e2
    obtain ⟨fu, rfl⟩ : ∃ n, fu = n + 1 := ⟨fu - 1, by omega⟩
    unfold zg_X10_comesFrom_L14
    rw [za_ai hr (by decide), zo_s, e, za_ai (by omega) (by decide), zo_s, en, if_pos (nI_le (show n ≤ i by omega) (by omega))]
    rfl
  | succ k ih =>
    intro fu i e1 e2
    obtain ⟨fu, rfl⟩ : ∃ n, fu = n + 1 := ⟨fu - 1, by omega⟩
    unfold zg_X10_comesFrom_L14 zq_src
    rw [za_ai hr (by decide), zo_s, e, za_ai (by omega) (by decide), zo_s, en, if_neg (nI_ge (show i < n by omega) (by omega)), za_24, za_ai (by omega) (by decide), zo_s]
    by_cases c : zr_co S r i = x
    · rw [if_pos c, if_pos (show S.2.1 4 (24 * r + i) = x from c)]
      rfl
    · rw [if_neg c, if_neg (show ¬ S.2.1 4 (24 * r + i) = x from c), ← nI_succ]
      exact ih fu (i + 1) (by omega) (by omega)
/-- both sides find the same source -/
theorem zx_src (hz : w.2.2 < z) (B : zx_d1 z w f g N M S (fun _ x => x = S.2.1 7 0)) (hc : zx_co S N) (hr' : zx_rules (S.2.1 7)) {b : Nat} (hb : b < N) (x : Int32) : ∃ s, zf_X4_sourceOf w (f b) x = some s ∧ zg_X10_comesFrom S (nI b) x = some s ∧ ((S.2.1 1 b = -1 ∧ s = -1 ∧ zf_gr w (f b) 4 1 = some none) ∨ ∃ k, k < b ∧ S.2.1 1 b = nI k ∧ zf_gr w (f b) 4 1 = some (some (f k)) ∧ (s = -1 ∨ ∃ j, j < 24 ∧ s = nI j)) := by
  obtain ⟨run, need, margin, u1, u2, u3, u4, u5, u6, u7⟩ := hr'
  obtain ⟨np, p, h2, h4⟩ := zx_parr B hc u1 u4 u5 hb
  have doc : zx_doc z w f g N M (S.2.1 1) (S.2.1 2) (S.2.2 3) (S.2.1 6) (fun _ x => x = S.2.1 7 0) := B
  have hN := doc.1
  obtain ⟨o, rf, fo, c1, c2, -⟩ := doc.2.2.1 b hb
  have hf := zx_F doc hb
  rcases h4 with ⟨e1, e2⟩ | ⟨k, e1, e2, e3, e4⟩
  · subst e2
    refine ⟨-1, zs_src (p2 := zr_co S b) c1 rfl h2 (by have := o.1; omega) (by omega) (fun i hi => absurd hi (by omega)), ?_, Or.inl ⟨e1, rfl, ?_⟩⟩
    · unfold zg_X10_comesFrom
      rw [za_ai (by omega) (by decide), zo_s, e1, if_pos rfl]
    · rcases hf with ⟨-, h⟩ | ⟨-, h, -⟩
      · exact h
      · rw [e1] at h
        exact absurd h.symm (za_ne _ (zx_k31 e1))
  · have n24 := zx_n24 (S.2.1 2) k
    refine ⟨_, zs_src (p2 := zr_co S b) c1 rfl h2 (by have := o.1; omega) (by omega) e4, ?_, Or.inr ⟨k, e1, e2, ?_, ?_⟩⟩
    · unfold zg_X10_comesFrom
      rw [za_ai (by omega) (by decide), zo_s, e2, if_neg (za_ne _ (by omega)), show (0 : Int32) = nI 0 from rfl, zr_srcL (by omega) e1 e2 (zx_C doc (by omega)).1 n24 np 2000 0 (by omega) (by omega), zo_s]
      cases zq_src (zr_co S b) x np 0 <;> rfl
    · rcases hf with ⟨h, -⟩ | ⟨-, -, h⟩
      · rw [e2] at h
        exact absurd h (za_ne _ (by omega))
      · rw [h, zx_k_of e2 (by omega)]
    · cases q : zq_src (zr_co S b) x np 0 with
      | none => exact Or.inl rfl
      | some j => exact Or.inr ⟨j, by have := zq_src_lt _ _ _ q; omega, rfl⟩
theorem zx_origL (hz : w.2.2 < z) (B : zx_d1 z w f g N M S (fun _ x => x = S.2.1 7 0)) (hc : zx_co S N) (hr' : zx_rules (S.2.1 7)) (y3 : Int32) : ∀ (k b fu fu2 : Nat) (x s : Int32) (fo : Option Nat), b < k → b < N → b + 1 < fu → b + 1 < fu2 → zf_X4_sourceOf w (f b) x = some s → zg_X10_comesFrom S (nI b) x = some s → zf_gr w (f b) 4 1 = some fo → ∃ b2 x2, b2 < N ∧ zf_X9_origin_L65 w z y3 fu (some (f b)) x s fo = some (some (f b2), x2) ∧ zg_X10_origin_L55 S y3 fu2 (nI b) x s = some (nI b2, x2) := by
  intro k
  have doc : zx_doc z w f g N M (S.2.1 1) (S.2.1 2) (S.2.2 3) (S.2.1 6) (fun _ x => x = S.2.1 7 0) := B
  have hN := doc.1
  induction k with
  | zero => intro b fu fu2 x s fo h; omega
  | succ k ih =>
    intro b fu fu2 x s fo h1 h2 h3 h4 h5 h6 h7
    obtain ⟨fu, rfl⟩ : ∃ n, fu = n + 1 := ⟨fu - 1, by omega⟩
    obtain ⟨fu2, rfl⟩ : ∃ n, fu2 = n + 1 := ⟨fu2 - 1, by omega⟩
    obtain ⟨s', e1, e2, e3⟩ := zx_src hz B hc hr' h2 x
    rw [h5] at e1
    cases e1
    rcases e3 with ⟨d1, d2, d3⟩ | ⟨c, d1, d2, d3, d4⟩
    · rw [h7] at d3
      cases d3
      refine ⟨b, x, h2, ?_, ?_⟩
      · unfold zf_X9_origin_L65
        rw [if_pos rfl]
      · unfold zg_X10_origin_L55
        rw [d2, if_pos rfl]
    · rw [h7] at d3
      cases d3
      rcases d4 with rfl | ⟨j, hj, rfl⟩
      · refine ⟨b, x, h2, ?_, ?_⟩
        · unfold zf_X9_origin_L65
          rw [if_neg (by simp), if_pos rfl]
        · unfold zg_X10_origin_L55
          rw [if_pos rfl]
      · obtain ⟨s2, g1, g2, g3⟩ := zx_src hz B hc hr' (show c < N by omega) (nI j)
        have gf : ∃ fo2, zf_gr w (f c) 4 1 = some fo2 := by
          rcases g3 with ⟨-, -, q⟩ | ⟨_, -, -, q, -⟩
          · exact ⟨_, q⟩
          · exact ⟨_, q⟩
        obtain ⟨fo2, g4⟩ := gf
        obtain ⟨b2, x2, k1, k2, k3⟩ := ih c fu fu2 (nI j) s2 fo2 (by omega) (by omega) (by omega) (by omega) g1 g2 g4
        refine ⟨b2, x2, k1, ?_, ?_⟩
        · unfold zf_X9_origin_L65
          rw [if_neg (by simp), if_neg (za_ne _ (by omega)), zo_s, g1, zo_s, g4, zo_s]
          exact k2
        · unfold zg_X10_origin_L55
          rw [if_neg (za_ne _ (by omega)), za_ai (by omega) (by decide), zo_s, d2, g2, zo_s]
          exact k3
theorem ze_origin (R : zx_R z w D S N M) (x1 x2 x3 : Int32) : zx_res z w (zf_X9_origin w z x1 x2 x3) (zg_X10_origin S x1 x2 x3) := by
  have A := zx_R_is R
  have hz := (zx_R_z R).1
  obtain ⟨hN, hM⟩ := zx_R_16 R
  have n1 : ¬ (1 : Int32) = 0 := by decide
  obtain ⟨f, g, f', g', N', M', X⟩ := zx_R_X R
  obtain ⟨zs, D', E, fb, nb, RR⟩ := id X
  obtain ⟨A', ⟨-, -, -, al3, al4, -⟩, docd, -⟩ := id RR
  have doc : zx_doc z w f g N M (S.2.1 1) (S.2.1 2) (S.2.2 3) (S.2.1 6) (fun _ x => x = S.2.1 7 0) := docd
  unfold zf_X9_origin
  dsimp only
  rw [if_neg (zy_is0 A), zy_r0_1 A, zo_s, zo_s]
  rcases zn_rng x1 (n := N) (by omega) with hx | ⟨r, hr, rfl⟩
  · rw [zs_revN A al3 hx, zo_s, if_pos rfl]
    unfold zg_X10_origin
    dsimp only
    rw [zr_isRevN R.1.1 hN hx, zo_s, if_pos rfl]
    exact zx_no_res (c := 1) R (by decide) (by decide) (by decide) (by decide) rfl
  rw [zs_rev A al3 hN hr (zx_rev_is doc hr), zo_s, if_neg (by simp), zo_s]
  have h24 := zx_n24 (S.2.1 2) r
  rcases zn_rng x2 (n := zx_n (S.2.1 2) r) (by omega) with hx | ⟨i, hi, rfl⟩
  · rw [zs_hasLN (zx_rv doc hz hr) hx, zo_s, if_pos rfl]
    unfold zg_X10_origin
    dsimp only
    rw [zr_isRev R.1.1 hN hr, zo_s (1 : Int32), if_neg n1, zr_isLN (by omega) (zx_C doc hr).1 h24 hx, zo_s, if_pos rfl]
    exact zx_no_res (c := 5) R (by decide) (by decide) (by decide) (by decide) rfl
  rw [zs_hasL (zx_rv doc hz hr) h24 hi, zo_s, if_neg n1]
  unfold zg_X10_origin
  dsimp only
  rw [zr_isRev R.1.1 hN hr, zo_s (1 : Int32), if_neg n1, zr_isL (by omega) (zx_C doc hr).1 h24 hi, zo_s (1 : Int32), if_neg n1]
  rcases zn_rng x3 (n := 2) (by decide) with hx | ⟨k, hk, rfl⟩
  · rw [zg_wn S (n := 1) (y := 1) rfl hx (by decide), zo_s, if_pos rfl]
    by_cases c : x3 < 0
    · rw [if_pos c]
      exact zx_no_res (c := 5) R (by decide) (by decide) (by decide) (by decide) rfl
    · obtain ⟨j, hj, rfl⟩ := nI_of c
      have := (za_le (by decide) hj).mp (hx.resolve_left c)
      rw [if_neg c, if_neg (show ¬ nI j ≤ 1 from nI_ge (show 1 < j by omega) hj)]
      exact zx_no_res (c := 5) R (by decide) (by decide) (by decide) (by decide) rfl
  obtain ⟨s, e1, e2, e3⟩ := zx_src hz docd zs.2.2.2.1 zs.2.2.1 hr (nI i)
  have gf : ∃ fo2, zf_gr w (f r) 4 1 = some fo2 := by
    rcases e3 with ⟨-, -, q⟩ | ⟨_, -, -, q, -⟩
    · exact ⟨_, q⟩
    · exact ⟨_, q⟩
  obtain ⟨fo2, g4⟩ := gf
  obtain ⟨b2, y2, k1, k2, k3⟩ := zx_origL hz docd zs.2.2.2.1 zs.2.2.1 (nI k) 16 r 2000 2000 (nI i) s fo2 (by omega) hr (by omega) (by omega) e1 e2 g4
  rw [if_neg (nI_pos (by omega)), if_pos (show nI k ≤ 1 from nI_le (show k ≤ 1 by omega) (by decide)), e1, zo_s, g4, zo_s, k2, zo_s, zg_wy S (n := 1) (y := 1) rfl (by omega) (by decide), zo_s (1 : Int32), if_neg n1, e2, zo_s s, k3, zo_s (nI b2, y2)]
  dsimp only
  have hk2 : k = 0 ∨ k = 1 := by omega
  rcases hk2 with rfl | rfl
  · rw [if_pos (show nI 0 = 0 by decide), if_pos (show nI 0 = 0 by decide), zo_s, zx_num doc k1, zo_s]
    exact ⟨w, S, _, D, N, M, rfl, rfl, R, zx_blk_refl z w⟩
  · rw [if_neg (show ¬ nI 1 = 0 by decide), if_neg (show ¬ nI 1 = 0 by decide)]
    exact ⟨w, S, _, D, N, M, rfl, rfl, R, zx_blk_refl z w⟩
end ZV
