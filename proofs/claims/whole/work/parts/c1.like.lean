/-! one document's lists become like the other's -/
section ZV
variable {z : Nat} {w : zc_H} {D : zy_D} {E : Nat → Nat} {q s k l n n0 : Nat} {fn f0 : Nat → Nat}
theorem zs_like9 (hq : ∀ D u, zy_is z D u → zf_gr u (z + q) 6 0 = some (some (z + k))) (hs : ∀ D u, zy_is z D u → zf_gr u (z + s) 6 0 = some (some (z + l))) (hk : zy_n k = false) (hl : zy_n l = false) (hkl : l ≠ k) (A : zy_is z D w) (hz : w.2.2 < z) (hsz : z + 60 ≤ w.2.1) (hE : zx_E z w E) (alK : zk_al w (z + k) (E k) n0 f0) (alS : zk_al w (z + l) (E l) n fn) (hn : n ≤ 16) (hf : ∀ i, i < n → z + 60 ≤ fn i ∧ fn i < w.2.1 ∧ zf_is w (fn i) 4 = true) : ∀ (j i fu : Nat) (u : zc_H) (e : Nat), i + j = n → j < fu → zx_fr (z + k) w (E k) u e → zk_al u (z + k) e i fn → ∃ u2 e2, zf_X6_becomeLike_L9 (z + q) (some (z + s)) fu u (nI i) = some u2 ∧ zx_fr (z + k) w (E k) u2 e2 ∧ zk_al u2 (z + k) e2 n fn := by
  intro j
  induction j with
  | zero =>
    intro i fu u e h1 h2 B al
    obtain ⟨fu, rfl⟩ : ∃ n, fu = n + 1 := ⟨fu - 1, by omega⟩
    have : i = n := by omega
    subst this
    have Au := zx_fr_is hE hk hz hsz A B
    have als := zx_fr_al hE hk hl hkl hz hsz alS B
    refine ⟨u, e, ?_, B, al⟩
    unfold zf_X6_becomeLike_L9
    rw [zo_s, hs _ _ Au, zo_s, zo_s, zk_al_size als, zo_s, if_pos (nI_le (Nat.le_refl _) (by omega))]
  | succ j ih =>
    intro i fu u e h1 h2 B al
    obtain ⟨fu, rfl⟩ : ∃ n, fu = n + 1 := ⟨fu - 1, by omega⟩
    have Au := zx_fr_is hE hk hz hsz A B
    have als := zx_fr_al hE hk hl hkl hz hsz alS B
    have kp := zx_fr_kp (zx_n38 hk) alK B
    have is4 : ∀ j, j < n → zf_is u (fn j) 4 = true := fun j hj => zx_kp_is kp (hf j hj).1 (hf j hj).2.1 (hf j hj).2.2
    have hi := hf i (by omega)
    obtain ⟨u2, e2, a1, a2, a3, -⟩ := zx_fr_add (x := fn i) hE hk hz hsz B al (by omega) (Or.inl (is4 i (by omega))) (by have := kp.1; omega) (fun j hj => Or.inl (is4 j (by omega)))
    obtain ⟨u3, e3, g1, g2, g3⟩ := ih (i + 1) fu u2 e2 (by omega) (by omega) a3 (zk_al_f a2 (fun j hj => by rw [zu_self]))
    refine ⟨u3, e3, ?_, g2, g3⟩
    unfold zf_X6_becomeLike_L9
    rw [zo_s, hs _ _ Au, zo_s, zo_s, zk_al_size als, zo_s, if_neg (nI_ge (show i < n by omega) (by omega)), hq _ _ Au, zo_s, zo_s, zo_s, zk_al_get als (by omega), zo_s, if_neg (show ¬ ¬ zf_cc _ (some (fn i)) 4 = true from not_not_intro (is4 i (by omega))), zo_s, a1, zo_s, ← nI_succ]
    exact g1
theorem zs_like54 (hq : ∀ D u, zy_is z D u → zf_gr u (z + q) 6 1 = some (some (z + k))) (hs : ∀ D u, zy_is z D u → zf_gr u (z + s) 6 1 = some (some (z + l))) (hk : zy_n k = false) (hl : zy_n l = false) (hkl : l ≠ k) (A : zy_is z D w) (hz : w.2.2 < z) (hsz : z + 60 ≤ w.2.1) (hE : zx_E z w E) (alK : zk_al w (z + k) (E k) n0 f0) (alS : zk_al w (z + l) (E l) n fn) (hn : n ≤ 16) (hf : ∀ i, i < n → z + 60 ≤ fn i ∧ fn i < w.2.1 ∧ zf_is w (fn i) 3 = true) : ∀ (j i fu : Nat) (u : zc_H) (e : Nat), i + j = n → j < fu → zx_fr (z + k) w (E k) u e → zk_al u (z + k) e i fn → ∃ u2 e2, zf_X6_becomeLike_L54 (z + q) (some (z + s)) fu u (nI i) = some u2 ∧ zx_fr (z + k) w (E k) u2 e2 ∧ zk_al u2 (z + k) e2 n fn := by
  intro j
  induction j with
  | zero =>
    intro i fu u e h1 h2 B al
    obtain ⟨fu, rfl⟩ : ∃ n, fu = n + 1 := ⟨fu - 1, by omega⟩
    have : i = n := by omega
    subst this
    have Au := zx_fr_is hE hk hz hsz A B
    have als := zx_fr_al hE hk hl hkl hz hsz alS B
    refine ⟨u, e, ?_, B, al⟩
    unfold zf_X6_becomeLike_L54
    rw [zo_s, hs _ _ Au, zo_s, zo_s, zk_al_size als, zo_s, if_pos (nI_le (Nat.le_refl _) (by omega))]
  | succ j ih =>
    intro i fu u e h1 h2 B al
    obtain ⟨fu, rfl⟩ : ∃ n, fu = n + 1 := ⟨fu - 1, by omega⟩
    have Au := zx_fr_is hE hk hz hsz A B
    have als := zx_fr_al hE hk hl hkl hz hsz alS B
    have kp := zx_fr_kp (zx_n38 hk) alK B
    have is3 : ∀ j, j < n → zf_is u (fn j) 3 = true := fun j hj => zx_kp_is kp (hf j hj).1 (hf j hj).2.1 (hf j hj).2.2
    have hi := hf i (by omega)
    obtain ⟨u2, e2, a1, a2, a3, -⟩ := zx_fr_add (x := fn i) hE hk hz hsz B al (by omega) (Or.inr (is3 i (by omega))) (by have := kp.1; omega) (fun j hj => Or.inr (is3 j (by omega)))
    obtain ⟨u3, e3, g1, g2, g3⟩ := ih (i + 1) fu u2 e2 (by omega) (by omega) a3 (zk_al_f a2 (fun j hj => by rw [zu_self]))
    refine ⟨u3, e3, ?_, g2, g3⟩
    unfold zf_X6_becomeLike_L54
    rw [zo_s, hs _ _ Au, zo_s, zo_s, zk_al_size als, zo_s, if_neg (nI_ge (show i < n by omega) (by omega)), hq _ _ Au, zo_s, zo_s, zo_s, zk_al_get als (by omega), zo_s, if_neg (show ¬ ¬ zf_cc _ (some (fn i)) 3 = true from not_not_intro (is3 i (by omega))), zo_s, a1, zo_s, ← nI_succ]
    exact g1
/-- a list is emptied -/
theorem zs_clear (fn : Nat → Nat) (A : zk_al w (z + k) (E k) n f0) : ∃ u, zf_Jx4a65c_clear_da8c8 w (z + k) = some u ∧ zk_al u (z + k) (E k) 0 fn ∧ zx_fr (z + k) w (E k) u (E k) := by
  obtain ⟨u, a1, a2, a3, a4⟩ := zk_al_clear fn A
  exact ⟨u, a1, a2, by rw [a3]; exact Nat.le_refl _, by rw [a3], Or.inl rfl, fun y h1 h2 _ => a4 y h1 h2⟩
/-- both lists, one after the other -/
theorem zs_like {k0 k1 l0 l1 n1 m0 m1 : Nat} {f1 g0 g1 : Nat → Nat} (hq0 : ∀ D u, zy_is z D u → zf_gr u (z + q) 6 0 = some (some (z + k0))) (hs0 : ∀ D u, zy_is z D u → zf_gr u (z + s) 6 0 = some (some (z + l0))) (hq1 : ∀ D u, zy_is z D u → zf_gr u (z + q) 6 1 = some (some (z + k1))) (hs1 : ∀ D u, zy_is z D u → zf_gr u (z + s) 6 1 = some (some (z + l1))) (hk0 : zy_n k0 = false) (hk1 : zy_n k1 = false) (hl0 : zy_n l0 = false) (hl1 : zy_n l1 = false) (hne : l0 ≠ k0 ∧ l1 ≠ k1 ∧ k1 ≠ k0 ∧ l1 ≠ k0 ∧ l0 ≠ k1) (A : zy_is z D w) (hz : w.2.2 < z) (hsz : z + 60 ≤ w.2.1) (hE : zx_E z w E) (alK0 : zk_al w (z + k0) (E k0) m0 g0) (alK1 : zk_al w (z + k1) (E k1) m1 g1) (alS0 : zk_al w (z + l0) (E l0) n0 f0) (alS1 : zk_al w (z + l1) (E l1) n1 f1) (hn0 : n0 ≤ 16) (hn1 : n1 ≤ 16) (hf0 : ∀ i, i < n0 → z + 60 ≤ f0 i ∧ f0 i < w.2.1 ∧ zf_is w (f0 i) 4 = true) (hf1 : ∀ i, i < n1 → z + 60 ≤ f1 i ∧ f1 i < w.2.1 ∧ zf_is w (f1 i) 3 = true) : ∃ (w1 w2 w3 w4 : zc_H) (E2 : Nat → Nat), zf_Jx4a65c_clear_da8c8 w (z + k0) = some w1 ∧ zf_X6_becomeLike_L9 (z + q) (some (z + s)) 17 w1 0 = some w2 ∧ zf_Jx4a65c_clear_da8c8 w2 (z + k1) = some w3 ∧ zf_X6_becomeLike_L54 (z + q) (some (z + s)) 17 w3 0 = some w4 ∧ zy_is z D w2 ∧ zy_is z D w4 ∧ w4.2.2 < z ∧ z + 60 ≤ w4.2.1 ∧ zx_E z w4 E2 ∧ zx_kp z w w4 ∧ zx_blk z w w4 ∧ zk_al w4 (z + k0) (E2 k0) n0 f0 ∧ zk_al w4 (z + k1) (E2 k1) n1 f1 ∧ ∀ l n fn, zy_n l = false → l ≠ k0 → l ≠ k1 → zk_al w (z + l) (E l) n fn → zk_al w4 (z + l) (E2 l) n fn := by
  obtain ⟨e1, e2, e3, e4, e5⟩ := hne
  obtain ⟨w1, a1, a2, a3⟩ := zs_clear f0 alK0
  obtain ⟨w2, x2, b1, b2, b3⟩ := zs_like9 hq0 hs0 hk0 hl0 e1 A hz hsz hE alK0 alS0 hn0 hf0 n0 0 17 w1 (E k0) (by omega) (by omega) a3 a2
  have V2 : w2.2.2 < z := by rw [b2.2.1]; exact hz
  have V3 : z + 60 ≤ w2.2.1 := Nat.le_trans hsz b2.1
  have V4 := zx_fr_E hE hk0 hsz b2
  have kp2 := zx_fr_kp (zx_n38 hk0) alK0 b2
  have bl2 := zx_fr_blk hE hk0 hz hsz b2
  have A2 := zx_fr_is hE hk0 hz hsz A b2
  have al2 : ∀ l n fn, zy_n l = false → l ≠ k0 → zk_al w (z + l) (E l) n fn → zk_al w2 (z + l) (va_up E k0 x2 l) n fn := fun l n fn hl hne r => by
    rw [va_up_ne _ _ hne]
    exact zx_fr_al hE hk0 hl hne hz hsz r b2
  have alK1' := al2 k1 _ _ hk1 e3 alK1
  have alS1' := al2 l1 _ _ hl1 e4 alS1
  obtain ⟨w3, c1, c2, c3⟩ := zs_clear f1 alK1'
  obtain ⟨w4, x4, d1, d2, d3⟩ := zs_like54 hq1 hs1 hk1 hl1 e2 A2 V2 V3 V4 alK1' alS1' hn1 (fun i hi => ⟨(hf1 i hi).1, Nat.lt_of_lt_of_le (hf1 i hi).2.1 kp2.1, zx_kp_is kp2 (hf1 i hi).1 (hf1 i hi).2.1 (hf1 i hi).2.2⟩) n1 0 17 w3 _ (by omega) (by omega) c3 c2
  have kp4 := zx_fr_kp (zx_n38 hk1) alK1' d2
  have al4 : ∀ l n fn, zy_n l = false → l ≠ k1 → zk_al w2 (z + l) (va_up E k0 x2 l) n fn → zk_al w4 (z + l) (va_up (va_up E k0 x2) k1 x4 l) n fn := fun l n fn hl hne r => by
    rw [va_up_ne _ _ hne]
    exact zx_fr_al V4 hk1 hl hne V2 V3 r d2
  exact ⟨w1, w2, w3, w4, va_up (va_up E k0 x2) k1 x4, a1, b1, c1, d1, A2, zx_fr_is V4 hk1 V2 V3 A2 d2, by rw [d2.2.1]; exact V2, Nat.le_trans V3 d2.1, zx_fr_E V4 hk1 V3 d2, zx_kp_trans kp2 kp4, zx_blk_trans bl2 (zx_fr_blk V4 hk1 V2 V3 d2), al4 k0 _ _ hk0 (Ne.symm e3) (by rw [va_up_self]; exact b3), by rw [va_up_self]; exact d3, fun l n fn hl h0 h1 r => al4 l n fn hl h1 (al2 l n fn hl h0 r)⟩
end ZV
