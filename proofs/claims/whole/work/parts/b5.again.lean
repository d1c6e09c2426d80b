/-! again: open remarks are made once more -/
def zq_uns (T : Nat → Int32) (r m : Nat) : Bool := decide (T (32 + m) = nI r) && decide (T (96 + m) = 0)
theorem zq_uns_t {T : Nat → Int32} {r m : Nat} : zq_uns T r m = true ↔ T (32 + m) = nI r ∧ T (96 + m) = 0 := by
  unfold zq_uns
  simp only [Bool.and_eq_true, decide_eq_true_eq]
section ZV
variable {z : Nat} {w : zc_H} {D : zy_D} {S : zm_S} {E f g f' g' fb : Nat → Nat} {N M N' M' nb : Nat}
/-- what the class asks of a remark: its revision, and whether it is settled -/
theorem zs_uns {rdy : Nat → Int32 → Prop} (R : zx_RR z w D S rdy E f g f' g' fb N M N' M' nb) {r m : Nat} (hr : r < N) (hm : m < M) : ∃ (a : Nat) (b : Int32), zf_gr w (g m) 3 3 = some (some a) ∧ (some a = some (f r) ↔ S.2.1 6 (32 + m) = nI r) ∧ zf_X6_isSettled w (z + 2) (nI m) = some b ∧ (b = 0 ↔ S.2.1 6 (96 + m) = 0) := by
  obtain ⟨A, -, docd, -, ds, -⟩ := id R
  have doc : zx_doc z w f g N M (S.2.1 1) (S.2.1 2) (S.2.2 3) (S.2.1 6) rdy := docd
  obtain ⟨kind, a, r', p, q, an, Q, gm1, gm2⟩ := zx_rm_of docd hm
  obtain ⟨q1, q2, q3, q4, q5, q6, q7, q8, q9, q10, q11, q12⟩ := id Q
  have hN := doc.1
  have hM := doc.2.1
  have bt := ((ds.2.2.2.2.2.2.1) m).1 hm
  refine ⟨f r', if zx_bt (D.1 2 2) m = true then 1 else 0, zb_gr (x := some (f r')) q12 rfl, ⟨fun h => ?_, fun h => ?_⟩, ?_, ?_⟩
  · rw [q8, zx_inj doc q3 hr (Option.some.inj h)]
  · rw [q8] at h
    rw [(za_eq (by omega) (by omega)).mp h]
  · unfold zf_X6_isSettled
    rw [if_neg (zy_is2 A), zy_g2_2 A, zo_s]
    by_cases c : zx_bt (D.1 2 2) m = true
    · rw [if_pos ((zb_test (by omega)).mpr c), if_pos c]
    · rw [if_neg (fun h => c ((zb_test (by omega)).mp h)), if_neg c]
  · rw [bt]
theorem zs_unsL {rdy : Nat → Int32 → Prop} (R : zx_RR z w D S rdy E f g f' g' fb N M N' M' nb) {r : Nat} (hr : r < N) : ∀ (j k fu : Nat), k + j = M → j < fu → zf_X6_unsettledOn_L4 w (z + 2) (some (f r)) fu (nI (zq_ct (zq_uns (S.2.1 6) r) k)) (nI k) = some (nI (zq_ct (zq_uns (S.2.1 6) r) M)) := by
  obtain ⟨A, ⟨-, -, -, -, al4, -⟩, docd, -⟩ := id R
  have doc : zx_doc z w f g N M (S.2.1 1) (S.2.1 2) (S.2.2 3) (S.2.1 6) rdy := docd
  have hM := doc.2.1
  intro j
  induction j with
  | zero =>
    intro k fu h1 h2
    obtain ⟨fu, rfl⟩ : ∃ n, fu = n + 1 := ⟨fu - 1, by omega⟩
    have : k = M := by omega
    subst this
    unfold zf_X6_unsettledOn_L4
    rw [zy_r2_1 A, zo_s, zo_s, zk_al_size al4, zo_s, if_pos (nI_le (Nat.le_refl _) (by omega))]
  | succ j ih =>
    intro k fu h1 h2
    obtain ⟨fu, rfl⟩ : ∃ n, fu = n + 1 := ⟨fu - 1, by omega⟩
    have nx := ih (k + 1) fu (by omega) (by omega)
    obtain ⟨a, b, e1, e2, e3, e4⟩ := zs_uns R hr (show k < M by omega)
    rw [zq_ct1] at nx
    have ut := zq_uns_t (T := S.2.1 6) (r := r) (m := k)
    unfold zf_X6_unsettledOn_L4
    dsimp only
    rw [zy_r2_1 A, zo_s, zo_s, zk_al_size al4, zo_s, if_neg (nI_ge (show k < M by omega) (by omega)), zo_s, zo_s, zk_al_get al4 (by omega), zo_s, if_neg (show ¬ ¬ zf_cc _ (some (g k)) 3 = true from not_not_intro (zx_rem_e doc (by omega))), zo_s, e1, zo_s, ← nI_succ k]
    by_cases c : S.2.1 6 (32 + k) = nI r
    · rw [if_pos (e2.mpr c), e3, zo_s]
      by_cases d : S.2.1 6 (96 + k) = 0
      · rw [if_pos (e4.mpr d), ← nI_succ]
        rw [if_pos (ut.mpr ⟨c, d⟩)] at nx
        exact nx
      · rw [if_neg (fun h => d (e4.mp h))]
        rw [if_neg (fun h => d (ut.mp h).2)] at nx
        exact nx
    · rw [if_neg (fun h => c (e2.mp h))]
      rw [if_neg (fun h => c (ut.mp h).1)] at nx
      exact nx
theorem zr_unsL {y2 : Int32} (h5 : S.1 5 = nI M) (hM : M ≤ 16) {r : Nat} : ∀ (j k fu : Nat), k + j = M → j < fu → zg_X10_again_L44 S (nI r) y2 fu (nI (zq_ct (zq_uns (S.2.1 6) r) k)) (nI k) = some (nI (zq_ct (zq_uns (S.2.1 6) r) M)) := by
  intro j
  induction j with
  | zero =>
    intro k fu h1 h2
    obtain ⟨fu, rfl⟩ : ∃ n, fu = n + 1 := ⟨fu - 1, by omega⟩
    have : k = M := by omega
    subst this
    unfold zg_X10_again_L44
    rw [h5, if_pos (nI_le (Nat.le_refl _) (by omega))]
  | succ j ih =>
    intro k fu h1 h2
    obtain ⟨fu, rfl⟩ : ∃ n, fu = n + 1 := ⟨fu - 1, by omega⟩
    have nx := ih (k + 1) fu (by omega) (by omega)
    rw [zq_ct1] at nx
    have ut := zq_uns_t (T := S.2.1 6) (r := r) (m := k)
    unfold zg_X10_again_L44
    dsimp only
    rw [h5, if_neg (nI_ge (show k < M by omega) (by omega)), zr_of (k := 2) (by decide) (by omega) 2 rfl, show 16 * 2 + k = 32 + k by omega, zo_s, ← nI_succ k]
    by_cases c : S.2.1 6 (32 + k) = nI r
    · rw [if_pos c, zr_of6 (by omega), zo_s]
      by_cases d : S.2.1 6 (96 + k) = 0
      · rw [if_pos d, ← nI_succ]
        rw [if_pos (ut.mpr ⟨c, d⟩)] at nx
        exact nx
      · rw [if_neg d]
        rw [if_neg (fun h => d (ut.mp h).2)] at nx
        exact nx
    · rw [if_neg c]
      rw [if_neg (fun h => c (ut.mp h).1)] at nx
      exact nx
/-- a remark made anew on another revision -/
theorem zs_madeOn {w : zc_H} {b a : Nat} {v0 k x a' p an : Int32} {rf : Value} (h : w.1 b = some (.inr (3, [.int v0, .int k, .int a', rf, .int p, .int an]))) (hb : b < w.2.1) : ∃ u, zf_X3_madeOn w b (some a) x = some (u, some w.2.1) ∧ (∀ y, y < w.2.1 → u.1 y = w.1 y) ∧ u.2.1 = w.2.1 + 1 ∧ u.2.2 = w.2.2 ∧ u.1 w.2.1 = some (.inr (3, [.int x, .int k, .int a', .ref a, .int p, .int an])) := by
  obtain ⟨m1, m2, m3, m4⟩ := zn_new w (.inr (3, [.int 0, .int 0, .int 0, .null, .int 0, .int 0]))
  have e : (zf_new w (.inr (3, [.int 0, .int 0, .int 0, .null, .int 0, .int 0]))).1 b = some (.inr (3, [.int v0, .int k, .int a', rf, .int p, .int an])) := by
    rw [m4 b (by omega)]
    exact h
  refine ⟨zf_up (zf_new w (.inr (3, [.int 0, .int 0, .int 0, .null, .int 0, .int 0]))) w.2.1 (.inr (3, [.int x, .int k, .int a', va_rf (some a), .int p, .int an])), ?_, fun y hy => (va_up_ne _ _ (by omega)).trans (m4 y (by omega)), m2, m3, zb_up _ _ _⟩
  unfold zf_X3_madeOn
  rw [if_neg (zb_is h), zo_s, zb_gi e rfl, zo_s, zb_gi e rfl, zo_s, zb_gi e rfl, zo_s, zb_gi e rfl, zo_s, zs_init3 m1, zo_s]
theorem zx_againL {T0 : Nat → Int32} {r t : Nat} {y6 y3 : Int32} (hr : r < N) (ht : t < N) (hb : M + zq_ct (zq_uns T0 r) M ≤ 16) : ∀ (j k fu fu2 : Nat) (w : zc_H) (S : zm_S) (E g : Nat → Nat), k + j = M → j < fu → j < fu2 → zx_s S N (M + zq_ct (zq_uns T0 r) k) → zx_RR z w D S (fun _ x => x = S.2.1 7 0) E f g f' g' fb N (M + zq_ct (zq_uns T0 r) k) N' M' nb → (∀ j m, j < 7 → m < M → S.2.1 6 (16 * j + m) = T0 (16 * j + m)) → zx_n (S.2.1 2) t = zx_n (S.2.1 2) r → ∃ (w2 : zc_H) (S2 : zm_S) (E2 g2 : Nat → Nat), zf_X9_again_L123 z (some (f r)) (nI M) y6 (some (f t)) fu w (nI k) = some w2 ∧ zg_X10_again_L132 (nI r) y3 (nI t) (nI M) fu2 S (nI k) = some S2 ∧ zx_s S2 N (M + zq_ct (zq_uns T0 r) M) ∧ zx_RR z w2 D S2 (fun _ x => x = S2.2.1 7 0) E2 f g2 f' g' fb N (M + zq_ct (zq_uns T0 r) M) N' M' nb ∧ zx_blk z w w2 := by
  intro j
  induction j with
  | zero =>
    intro k fu fu2 w S E g h1 h2 h3 zs R hT hn
    obtain ⟨fu, rfl⟩ : ∃ n, fu = n + 1 := ⟨fu - 1, by omega⟩
    obtain ⟨fu2, rfl⟩ : ∃ n, fu2 = n + 1 := ⟨fu2 - 1, by omega⟩
    have : k = M := by omega
    subst this
    refine ⟨w, S, E, g, ?_, ?_, zs, R, zx_blk_refl z w⟩
    · unfold zf_X9_again_L123
      rw [if_pos (nI_le (Nat.le_refl _) (by omega))]
    · unfold zg_X10_again_L132
      rw [if_pos (nI_le (Nat.le_refl _) (by omega))]
  | succ j ih =>
    intro k fu fu2 w S E g h1 h2 h3 zs R hT hn
    obtain ⟨fu, rfl⟩ : ∃ n, fu = n + 1 := ⟨fu - 1, by omega⟩
    obtain ⟨fu2, rfl⟩ : ∃ n, fu2 = n + 1 := ⟨fu2 - 1, by omega⟩
    have hkM : k < M := by omega
    have hkM2 : k < M + zq_ct (zq_uns T0 r) k := by omega
    have nxt := ih (k + 1) fu fu2
    rw [zq_ct1] at nxt
    have ut := zq_uns_t (T := T0) (r := r) (m := k)
    have t2 := hT 2 k (by decide) hkM
    have t6 := hT 6 k (by decide) hkM
    rw [show 16 * 2 + k = 32 + k by omega] at t2
    rw [show 16 * 6 + k = 96 + k by omega] at t6
    obtain ⟨a, b, e1, e2, e3, e4⟩ := zs_uns R hr hkM2
    rw [t2] at e2
    rw [t6] at e4
    obtain ⟨A, ⟨-, -, -, -, al4, -⟩, docd, -⟩ := id R
    have doc : zx_doc z w f g N _ (S.2.1 1) (S.2.1 2) (S.2.2 3) (S.2.1 6) (fun _ x => x = S.2.1 7 0) := docd
    have hM2 := doc.2.1
    have skip : ¬ zq_uns T0 r k = true → ∃ (w2 : zc_H) (S2 : zm_S) (E2 g2 : Nat → Nat), zf_X9_again_L123 z (some (f r)) (nI M) y6 (some (f t)) fu w (nI (k + 1)) = some w2 ∧ zg_X10_again_L132 (nI r) y3 (nI t) (nI M) fu2 S (nI (k + 1)) = some S2 ∧ zx_s S2 N (M + zq_ct (zq_uns T0 r) M) ∧ zx_RR z w2 D S2 (fun _ x => x = S2.2.1 7 0) E2 f g2 f' g' fb N (M + zq_ct (zq_uns T0 r) M) N' M' nb ∧ zx_blk z w w2 := fun h => by
      rw [if_neg h] at nxt
      exact nxt w S E g (by omega) (by omega) (by omega) zs R hT hn
    unfold zf_X9_again_L123 zg_X10_again_L132
    dsimp only
    rw [if_neg (nI_ge hkM (by omega)), if_neg (nI_ge hkM (by omega)), zy_r0_1 A, zo_s, zo_s, zy_r2_1 A, zo_s, zo_s, zk_al_get al4 hkM2, zo_s, if_neg (show ¬ ¬ zf_cc _ (some (g k)) 3 = true from not_not_intro (zx_rem_e doc hkM2)), zo_s, e1, zo_s, zr_of (k := 2) (by decide) (by omega) 2 rfl, show 16 * 2 + k = 32 + k by omega, zo_s (S.2.1 6 (32 + k)), t2, ← nI_succ k]
    by_cases c : T0 (32 + k) = nI r
    · rw [if_pos (e2.mpr c), if_pos c, zo_s, zo_s, e3, zo_s, zr_of6 (by omega), zo_s (S.2.1 6 (96 + k)), t6]
      by_cases d : T0 (96 + k) = 0
      · have un : zq_uns T0 r k = true := ut.mpr ⟨c, d⟩
        rw [if_pos un] at nxt
        -- it is made anew
        obtain ⟨kind, a', r', p, q, an, Q, gm1, gm2⟩ := zx_rm_of docd hkM2
        obtain ⟨q1, q2, q3, q4, q5, q6, q7, q8, q9, q10, q11, q12⟩ := id Q
        have rr : r' = r := (za_eq (by have := doc.1; omega) (by have := doc.1; omega)).mp (q8.symm.trans (t2.trans c))
        subst rr
        have an2 : an = -1 ∨ ∃ k', k' < M + zq_ct (zq_uns T0 r') k ∧ an = nI k' := by
          obtain ⟨-, -, kind2, a2, r2, p2, q2', an', -, -, -, -, -, -, -, -, -, -, c11, c12, -⟩ := doc.2.2.2 k hkM2
          rw [q11] at c11
          subst c11
          rcases c12 with h | ⟨k', h1, h2⟩
          · exact Or.inl h
          · exact Or.inr ⟨k', by omega, h2⟩
        have mono : zq_ct (zq_uns T0 r') k + 1 ≤ zq_ct (zq_uns T0 r') M := by
          have : ∀ d, zq_ct (zq_uns T0 r') (k + 1) ≤ zq_ct (zq_uns T0 r') (k + 1 + d) := by
            intro d
            induction d with
            | zero => exact Nat.le_refl _
            | succ d ih =>
              rw [show k + 1 + (d + 1) = (k + 1 + d) + 1 by omega, zq_ct1 _ (k + 1 + d)]
              split <;> omega
          have := this (M - (k + 1))
          rw [show k + 1 + (M - (k + 1)) = M by omega, zq_ct1, if_pos un] at this
          exact this
        obtain ⟨u, m1, m2, m3, m4, m5⟩ := zs_madeOn (x := nI (M + zq_ct (zq_uns T0 r') k)) (a := f t) q12 gm2
        obtain ⟨w2, E2, k1, k2, k3⟩ := zx_addRem R (show M + zq_ct (zq_uns T0 r') k < 16 by omega) q1 q2 ht q4 (show q < zx_n (S.2.1 2) t by rw [hn]; exact q5) an2 m2 m3 m4 m5
        have zs2 := zx_s_rem (T := zx_T2 (S.2.1 6) (M + zq_ct (zq_uns T0 r') k) (nI kind) (nI a') (nI t) (nI p) (nI q) an) zs
        obtain ⟨w3, S3, E3, g3, n1, n2, n3, n4, n5⟩ := nxt w2 _ E2 _ (by omega) (by omega) (by omega) zs2 k2 (fun j m hj hm => by
          show (zx_SA S 6 _).2.1 6 _ = _
          rw [zx_SAa, zx_T2_old (by omega) (by omega)]
          exact hT j m hj hm) (by
          show zx_n ((zx_SA S 6 _).2.1 2) t = zx_n ((zx_SA S 6 _).2.1 2) r'
          rw [zx_SAn S _ (by decide)]
          exact hn)
        rw [if_pos (e4.mpr d), if_pos d, zo_s, zo_s, zy_r2_1 A, zo_s, zo_s, zo_s, zy_r2_1 A, zo_s, zo_s, zk_al_size al4, zo_s, m1, zo_s, zo_s, k1, zo_s, zr_of (k := 0) (by decide) (by omega) 0 rfl, show 16 * 0 + k = k by omega, zo_s (S.2.1 6 k), zr_of (k := 1) (by decide) (by omega) 1 rfl, show 16 * 1 + k = 16 + k by omega, zo_s (S.2.1 6 (16 + k)), zr_of (k := 3) (by decide) (by omega) 3 rfl, show 16 * 3 + k = 48 + k by omega, zo_s (S.2.1 6 (48 + k)), zr_of (k := 4) (by decide) (by omega) 4 rfl, show 16 * 4 + k = 64 + k by omega, zo_s (S.2.1 6 (64 + k)), zr_of (k := 5) (by decide) (by omega) 5 rfl, show 16 * 5 + k = 80 + k by omega, zo_s (S.2.1 6 (80 + k)), q6, q7, q9, q10, q11, zr_newRem zs.2.1 (by omega), zo_s (zg_p _ _ _, _)]
        exact ⟨w3, S3, E3, g3, n1, n2, n3, n4, zx_blk_trans k3 n5⟩
      · rw [if_neg (fun h => d (e4.mp h)), if_neg d]
        exact skip (fun h => d (ut.mp h).2)
    · rw [if_neg (fun h => c (e2.mp h)), if_neg c]
      exact skip (fun h => c (ut.mp h).1)
end ZV
