theorem zq_heat_c {Q Q' : Nat → Option (Option (Nat × Nat))} (y : Nat) : ∀ k, (∀ i, i < k → Q i = Q' i) → zq_heat Q k y = zq_heat Q' k y := by
  intro k
  induction k with
  | zero => intro h; rfl
  | succ k ih =>
    intro h
    rw [zq_heat1, zq_heat1, ih (fun i hi => h i (by omega))]
    have : zq_cov Q k y = zq_cov Q' k y := by
      unfold zq_cov
      rw [h k (by omega)]
    rw [this]
theorem zx_PM_heat (S : zm_S) {M : Nat} (hM : M ≤ 16) (t : Nat) : zq_heat (zx_PM S M t) 16 = zq_heat (zx_P S t) M := by
  funext y
  have := zq_heat_up (Q := zx_PM S M t) (M := M) (fun i hi => by unfold zx_PM; rw [if_neg (by omega)]) y (16 - M)
  rw [show M + (16 - M) = 16 by omega] at this
  rw [this]
  exact zq_heat_c y M (fun i hi => by unfold zx_PM; rw [if_pos hi])
theorem zx_PM_sv {S : zm_S} {M t : Nat} {D : zy_D} (V : zy_sv D (zx_P S t) M) : ∀ i, i < 16 → D.2.1 19 i = zq_sq (zx_PM S M t i) := fun i hi => by
  rw [V.1 i hi]
  unfold zx_PM
  by_cases c : i < M
  · rw [if_pos c, if_pos c]
  · rw [if_neg c, if_neg c]
    rfl
theorem zx_PM_ok {S : zm_S} {N M need margin t : Nat} (A : zr_env S N M need margin) (ht : t < N) (i : Nat) (x : Nat × Nat) (h : zx_PM S M t i = some (some x)) : x.1 ≤ x.2 ∧ x.2 < zx_n (S.2.1 2) t := by
  unfold zx_PM at h
  by_cases c : i < M
  · rw [if_pos c] at h
    exact zx_P_ok A c ht h
  · rw [if_neg c] at h
    cases h
section ZR
variable {S : zm_S} {N M need margin t : Nat}
theorem zr_whoL (A : zr_env S N M need margin) (ht : t < N) (e : Bool) : ∀ (j k fu : Nat) (S' : zm_S), k + j = M → j < fu → zx_eqS S S' → ∃ S2, zg_X10_who_L46 (nI t) (if e = true then 1 else 0) fu S' (zq_bits (fun i => if e = true then zq_lo (zx_P S t i) else zq_fo (zx_P S t i)) k) (nI k) = some (S2, zq_bits (fun i => if e = true then zq_lo (zx_P S t i) else zq_fo (zx_P S t i)) M) ∧ zx_eqS S S2 := by
  have hM := A.2.2.2.2.1
  intro j
  induction j with
  | zero =>
    intro k fu S' h1 h2 h3
    obtain ⟨fu, rfl⟩ : ∃ n, fu = n + 1 := ⟨fu - 1, by omega⟩
    have : k = M := by omega
    subst this
    refine ⟨S', ?_, h3⟩
    unfold zg_X10_who_L46
    rw [h3.1 5 (by decide), A.2.2.2.2.2.1, if_pos (nI_le (Nat.le_refl _) (by omega))]
  | succ j ih =>
    intro k fu S' h1 h2 h3
    obtain ⟨fu, rfl⟩ : ∃ n, fu = n + 1 := ⟨fu - 1, by omega⟩
    obtain ⟨S2, b, e1, e2, e3, e4⟩ := zr_put1 (zr_env_e h3 A) (show k < M by omega) ht
    have eS := zx_eqS_trans h3 e2
    obtain ⟨S3, n1, n2⟩ := ih (k + 1) fu S2 (by omega) (by omega) eS
    refine ⟨S3, ?_, n2⟩
    rw [zq_bits1] at n1
    rw [zx_P_e h3] at e4
    unfold zg_X10_who_L46
    dsimp only
    rw [h3.1 5 (by decide), A.2.2.2.2.2.1, if_neg (nI_ge (show k < M by omega) (by omega)), zr_of (k := 0) (by decide) (by omega) 0 rfl, show 16 * 0 + k = k by omega, zo_s, e1, zo_s]
    dsimp only
    rw [← nI_succ]
    cases q : zx_P S t k with
    | none =>
      rw [q] at e4 n1
      have e4 : b = 0 := e4
      rw [e4, if_pos rfl]
      have : ¬ (if e = true then zq_lo none else zq_fo none) = true := by cases e <;> decide
      rw [if_neg this] at n1
      exact n1
    | some o =>
      rw [q] at e4 n1
      cases o with
      | none =>
        obtain ⟨y1, y2⟩ := e4
        rw [y1, if_neg (show ¬ (1 : Int32) = 0 by decide), y2, if_pos rfl]
        cases e with
        | true =>
          rw [if_pos (show (if true = true then (1 : Int32) else 0) = 1 from rfl), if_pos rfl]
          rw [if_pos (show (if true = true then zq_lo (some none) else zq_fo (some none)) = true from rfl)] at n1
          exact n1
        | false =>
          rw [if_neg (show ¬ (if false = true then (1 : Int32) else 0) = 1 by decide), if_neg (show ¬ (1 : Int32) = 0 by decide)]
          rw [if_neg (show ¬ (if false = true then zq_lo (some none) else zq_fo (some none)) = true by decide)] at n1
          exact n1
      | some x =>
        obtain ⟨y1, y2, -⟩ := e4
        rw [y1, if_neg (show ¬ (1 : Int32) = 0 by decide), if_neg y2]
        cases e with
        | true =>
          rw [if_pos (show (if true = true then (1 : Int32) else 0) = 1 from rfl), if_neg (show ¬ (0 : Int32) = 1 by decide)]
          rw [if_neg (show ¬ (if true = true then zq_lo (some (some x)) else zq_fo (some (some x))) = true from fun h => by cases h)] at n1
          exact n1
        | false =>
          rw [if_neg (show ¬ (if false = true then (1 : Int32) else 0) = 1 by decide), if_pos rfl]
          rw [if_pos (show (if false = true then zq_lo (some (some x)) else zq_fo (some (some x))) = true from rfl)] at n1
          exact n1
theorem zr_cov1 {y1 y3 : Int32} {q : Nat} (hq : q < 24) (h3 : S.1 32 = nI q) : ∀ (j k fu : Nat) (y2 : Int32), k + j = q + 1 → j < fu → ∃ x, zg_X10_covered_L41 S y1 y3 fu y2 (nI k) = some x ∧ ∀ i, zx_bt x i = (zx_bt y2 i || (decide (k ≤ i) && decide (i ≤ q))) := by
  intro j
  induction j with
  | zero =>
    intro k fu y2 h1 h2
    obtain ⟨fu, rfl⟩ : ∃ n, fu = n + 1 := ⟨fu - 1, by omega⟩
    refine ⟨y2, ?_, fun i => ?_⟩
    · unfold zg_X10_covered_L41
      rw [h3, if_pos (nI_lt (show q < k by omega) (by omega))]
    · have : (decide (k ≤ i) && decide (i ≤ q)) = false := by
        by_cases c : k ≤ i
        · rw [decide_eq_false (show ¬ i ≤ q by omega), Bool.and_false]
        · rw [decide_eq_false c, Bool.false_and]
      rw [this, Bool.or_false]
  | succ j ih =>
    intro k fu y2 h1 h2
    obtain ⟨fu, rfl⟩ : ∃ n, fu = n + 1 := ⟨fu - 1, by omega⟩
    obtain ⟨x, e1, e2⟩ := ih (k + 1) fu (y2 ||| (1 <<< (nI k &&& 31))) (by omega) (by omega)
    refine ⟨x, ?_, fun i => ?_⟩
    · unfold zg_X10_covered_L41
      rw [h3, if_neg (nI_nlt (show k ≤ q by omega) (by omega)), ← nI_succ]
      exact e1
    · rw [e2 i, zb_or, zb_one (by omega), Bool.or_assoc]
      congr 1
      by_cases c : i = k
      · subst c
        rw [decide_eq_true rfl, Bool.true_or, decide_eq_true (Nat.le_refl _), decide_eq_true (show i ≤ q by omega)]
        rfl
      · rw [decide_eq_false c, Bool.false_or]
        congr 1
        exact decide_eq_decide.mpr ⟨fun h => by omega, fun h => by omega⟩
theorem zr_cov2 (A : zr_env S N M need margin) (ht : t < N) (h24 : zx_n (S.2.1 2) t ≤ 24) : ∀ (j k fu : Nat) (S' : zm_S) (y : Int32), k + j = M → j < fu → zx_eqS S S' → (∀ i, zx_bt y i = decide (0 < zq_heat (zx_P S t) k i)) → ∃ S2 x, zg_X10_covered_L18 (nI t) fu S' y (nI k) = some (S2, x) ∧ zx_eqS S S2 ∧ ∀ i, zx_bt x i = decide (0 < zq_heat (zx_P S t) M i) := by
  have hM := A.2.2.2.2.1
  intro j
  induction j with
  | zero =>
    intro k fu S' y h1 h2 h3 h4
    obtain ⟨fu, rfl⟩ : ∃ n, fu = n + 1 := ⟨fu - 1, by omega⟩
    have : k = M := by omega
    subst this
    refine ⟨S', y, ?_, h3, h4⟩
    unfold zg_X10_covered_L18
    rw [h3.1 5 (by decide), A.2.2.2.2.2.1, if_pos (nI_le (Nat.le_refl _) (by omega))]
  | succ j ih =>
    intro k fu S' y h1 h2 h3 h4
    obtain ⟨fu, rfl⟩ : ∃ n, fu = n + 1 := ⟨fu - 1, by omega⟩
    obtain ⟨S2, b, e1, e2, e3, e4⟩ := zr_isPut (zr_env_e h3 A) (show k < M by omega) ht
    have eS := zx_eqS_trans h3 e2
    unfold zg_X10_covered_L18
    dsimp only
    rw [h3.1 5 (by decide), A.2.2.2.2.2.1, if_neg (nI_ge (show k < M by omega) (by omega)), e1, zo_s]
    dsimp only
    rw [zx_P_e h3] at e4
    rcases e4 with ⟨x1, x2⟩ | ⟨x, x1, x2, x3, x4⟩
    · rw [x2, if_pos rfl, ← nI_succ]
      refine ih (k + 1) fu S2 y (by omega) (by omega) eS (fun i => ?_)
      rw [h4 i, zq_heat1, if_neg]
      unfold zq_cov
      intro e
      split at e
      · rename_i o q
        rw [q] at x1
        cases x1
      · cases e
    · obtain ⟨p1, p2⟩ := zx_P_ok A (show k < M by omega) ht x1
      obtain ⟨y', g1, g2⟩ := zr_cov1 (S := S2) (y1 := nI t) (y3 := nI k) (q := x.2) (by omega) x4 (x.2 + 1 - x.1) x.1 2000 y (by omega) (by omega)
      rw [x2, if_neg (show ¬ (1 : Int32) = 0 by decide), x3, g1, zo_s, ← nI_succ]
      refine ih (k + 1) fu _ y' (by omega) (by omega) eS (fun i => ?_)
      have ec : zq_cov (zx_P S t) k i = (decide (x.1 ≤ i) && decide (i ≤ x.2)) := by
        unfold zq_cov
        rw [x1]
      rw [g2 i, h4 i, zq_heat1, ← ec]
      by_cases c : zq_cov (zx_P S t) k i = true
      · rw [if_pos c, c, Bool.or_true, decide_eq_true (by omega)]
      · rw [if_neg c, (Bool.not_eq_true _).mp c, Bool.or_false]
end ZR
section ZV
variable {z : Nat} {w : zc_H} {D : zy_D} {S : zm_S} {N M : Nat}
theorem ze_covered (R : zx_R z w D S N M) (x1 : Int32) : zx_res z w (zf_X9_covered w z x1) (zg_X10_covered S x1) := by
  have A := zx_R_is R
  have hz := (zx_R_z R).1
  obtain ⟨hN, hM⟩ := zx_R_16 R
  have n1 : ¬ (1 : Int32) = 0 := by decide
  obtain ⟨f, g, f', g', N', M', X⟩ := zx_R_X R
  obtain ⟨zs, D', E, fb, nb, RR⟩ := id X
  obtain ⟨A', ⟨-, -, -, al3, al4, -⟩, docd, -⟩ := id RR
  have doc : zx_doc z w f g N M (S.2.1 1) (S.2.1 2) (S.2.2 3) (S.2.1 6) (fun _ x => x = S.2.1 7 0) := docd
  unfold zf_X9_covered
  rw [if_neg (zy_is0 A), zy_r0_1 A, zo_s, zo_s]
  rcases zn_rng x1 (n := N) (by omega) with hx | ⟨t, ht, rfl⟩
  · rw [zs_revN A al3 hx, zo_s, if_pos rfl]
    unfold zg_X10_covered
    rw [zr_isRevN R.1.1 hN hx, zo_s, if_pos rfl]
    exact zx_no_res (c := 1) R (by decide) (by decide) (by decide) (by decide) rfl
  obtain ⟨w2, D2, E2, fb2, nb2, k1, k2, k3, k4, k5⟩ := zs_taken RR zs ht
  obtain ⟨A2, ⟨hz2, -⟩, doc2d, -⟩ := id k2
  have doc2 : zx_doc z w2 f g N M (S.2.1 1) (S.2.1 2) (S.2.2 3) (S.2.1 6) (fun _ x => x = S.2.1 7 0) := doc2d
  obtain ⟨need, margin, en⟩ := zr_env_of zs docd
  have h24 := zx_n24 (S.2.1 2) t
  have hQ := zx_PM_ok en ht
  obtain ⟨S2, x, c1, c2, c3⟩ := zr_cov2 en ht h24 M 0 2000 S 0 (by omega) (by omega) (zx_eqS_refl S) (fun i => by rw [zb_0]; rfl)
  rw [zs_rev A al3 hN ht (zx_rev_is doc ht), zo_s, if_neg (by simp), zy_r0_9 A, zo_s, zo_s, k1, zo_s, zy_r0_9 A2, zo_s, zo_s, zk_count (zx_rv doc2 hz2 ht), zo_s, zo_s, zs_lines A2 hz2 (zx_PM_sv k3) (fun i x h => ⟨(hQ i x h).1, by have := (hQ i x h).2; omega⟩) h24, zo_s]
  unfold zg_X10_covered
  rw [zr_isRev R.1.1 hN ht, zo_s (1 : Int32), if_neg n1, show zg_X10_covered_L18 (nI t) 2000 S 0 0 = some (S2, x) from c1, zo_s]
  have ex : zq_bits (fun y => decide (0 < zq_heat (zx_PM S M t) 16 y)) (zx_n (S.2.1 2) t) = x := zb_ext (fun i hi => by
    rw [zq_bits_bt _ (by omega), c3 i, zx_PM_heat S hM t]
    by_cases c : i < zx_n (S.2.1 2) t
    · rw [decide_eq_true c, Bool.true_and]
    · rw [decide_eq_false c, Bool.false_and]
      have := zq_heat_out (Q := zx_PM S M t) (n := zx_n (S.2.1 2) t) (y := i) (fun i x h => (hQ i x h).2) (by omega) 16
      rw [zx_PM_heat S hM t] at this
      rw [this]
      rfl)
  rw [ex]
  exact ⟨w2, S2, x, D2, N, M, rfl, rfl, zx_R_of zs c2 (zx_RR_sc k2 rfl (fun _ _ => rfl) (fun _ _ => rfl) A2 (zx_eqD_refl _) c2), k4⟩
theorem ze_who (R : zx_R z w D S N M) (x1 x2 : Int32) : zx_res z w (zf_X9_who w z x1 x2) (zg_X10_who S x1 x2) := by
  have A := zx_R_is R
  have hz := (zx_R_z R).1
  obtain ⟨hN, hM⟩ := zx_R_16 R
  have n1 : ¬ (1 : Int32) = 0 := by decide
  obtain ⟨f, g, f', g', N', M', X⟩ := zx_R_X R
  obtain ⟨zs, D', E, fb, nb, RR⟩ := id X
  obtain ⟨A', ⟨-, -, -, al3, al4, -⟩, docd, -⟩ := id RR
  have doc : zx_doc z w f g N M (S.2.1 1) (S.2.1 2) (S.2.2 3) (S.2.1 6) (fun _ x => x = S.2.1 7 0) := docd
  unfold zf_X9_who
  dsimp only
  rw [if_neg (zy_is0 A), zy_r0_1 A, zo_s, zo_s]
  rcases zn_rng x1 (n := N) (by omega) with hx | ⟨t, ht, rfl⟩
  · rw [zs_revN A al3 hx, zo_s, if_pos rfl]
    unfold zg_X10_who
    rw [zr_isRevN R.1.1 hN hx, zo_s, if_pos rfl]
    exact zx_no_res (c := 1) R (by decide) (by decide) (by decide) (by decide) rfl
  rw [zs_rev A al3 hN ht (zx_rev_is doc ht), zo_s, if_neg (by simp)]
  unfold zg_X10_who
  rw [zr_isRev R.1.1 hN ht, zo_s (1 : Int32), if_neg n1]
  rcases zn_rng x2 (n := 3) (by decide) with hx | ⟨k, hk, rfl⟩
  · rw [zg_wn S (n := 2) (y := 2) rfl hx (by decide), zo_s (0 : Int32), if_pos rfl]
    by_cases c : x2 < 0
    · rw [if_pos c]
      exact zx_no_res (c := 5) R (by decide) (by decide) (by decide) (by decide) rfl
    · obtain ⟨j, hj, rfl⟩ := nI_of c
      have := (za_le (by decide) hj).mp (hx.resolve_left c)
      rw [if_neg c, if_neg (show ¬ nI j ≤ 2 from nI_ge (show 2 < j by omega) hj)]
      exact zx_no_res (c := 5) R (by decide) (by decide) (by decide) (by decide) rfl
  obtain ⟨w2, D2, E2, fb2, nb2, k1, k2, k3, k4, k5⟩ := zs_taken RR zs ht
  obtain ⟨A2, ⟨hz2, -⟩, doc2d, -⟩ := id k2
  have doc2 : zx_doc z w2 f g N M (S.2.1 1) (S.2.1 2) (S.2.2 3) (S.2.1 6) (fun _ x => x = S.2.1 7 0) := doc2d
  obtain ⟨need, margin, en⟩ := zr_env_of zs docd
  have h24 := zx_n24 (S.2.1 2) t
  have hQ := zx_PM_ok en ht
  have fin : ∀ S2, zx_eqS S S2 → zx_R z w2 D2 S2 N M := fun S2 c2 => zx_R_of zs c2 (zx_RR_sc k2 rfl (fun _ _ => rfl) (fun _ _ => rfl) A2 (zx_eqD_refl _) c2)
  rw [if_neg (nI_pos (by omega)), if_pos (show nI k ≤ 2 from nI_le (show k ≤ 2 by omega) (by decide)), zy_r0_9 A, zo_s, zo_s, k1, zo_s, zg_wy S (n := 2) (y := 2) rfl (by omega) (by decide), zo_s (1 : Int32), if_neg n1]
  have hk3 : k = 0 ∨ k = 1 ∨ k = 2 := by omega
  rcases hk3 with rfl | rfl | rfl
  · obtain ⟨S2, c1, c2⟩ := zr_whoL en ht false M 0 2000 S (by omega) (by omega) (zx_eqS_refl S)
    rw [if_pos (show nI 0 = 0 by decide), if_neg (show ¬ nI 0 = 2 by decide), zy_r0_9 A2, zo_s, zo_s, zy_g18_3 A2, zo_s, show zg_X10_who_L46 (nI t) (nI 0) 2000 S 0 0 = some (S2, zq_bits (fun i => zq_fo (zx_P S t i)) M) from c1, zo_s, k3.2.1]
    exact ⟨w2, S2, _, D2, N, M, rfl, rfl, fin S2 c2, k4⟩
  · obtain ⟨S2, c1, c2⟩ := zr_whoL en ht true M 0 2000 S (by omega) (by omega) (zx_eqS_refl S)
    rw [if_neg (show ¬ nI 1 = 0 by decide), if_pos (show nI 1 = 1 by decide), if_neg (show ¬ nI 1 = 2 by decide), zy_r0_9 A2, zo_s, zo_s, zy_g18_4 A2, zo_s, show zg_X10_who_L46 (nI t) (nI 1) 2000 S 0 0 = some (S2, zq_bits (fun i => zq_lo (zx_P S t i)) M) from c1, zo_s, k3.2.2]
    exact ⟨w2, S2, _, D2, N, M, rfl, rfl, fin S2 c2, k4⟩
  · obtain ⟨S2, c1, c2⟩ := zr_heat en ht h24
    rw [if_neg (show ¬ nI 2 = 0 by decide), if_neg (show ¬ nI 2 = 1 by decide), if_pos (show nI 2 = 2 by decide), zy_r0_9 A2, zo_s, zo_s, zk_count (zx_rv doc2 hz2 ht), zo_s, zo_s, zs_hot A2 hz2 (zx_PM_sv k3) (fun i x h => ⟨(hQ i x h).1, by have := (hQ i x h).2; omega⟩) h24 (fun i x h => (hQ i x h).2), zo_s, c1, zo_s, zx_PM_heat S hM t]
    exact ⟨w2, S2, _, D2, N, M, rfl, rfl, fin S2 c2, k4⟩
end ZV
