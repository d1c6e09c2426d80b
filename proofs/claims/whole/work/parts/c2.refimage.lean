/-! the reference: its image, and back -/
theorem zr_im31 : ∀ (j k fu : Nat) (S : zm_S), k + j = 16 → j < fu → (∀ i, i < k → S.2.1 18 i = S.2.1 1 i ∧ S.2.1 19 i = S.2.1 2 i) → ∃ S2, zg_X10_image_L31 fu S (nI k) = some S2 ∧ S2.1 = S.1 ∧ (∀ k, k ≠ 18 → k ≠ 19 → S2.2.1 k = S.2.1 k) ∧ S2.2.2 = S.2.2 ∧ ∀ i, i < 16 → S2.2.1 18 i = S.2.1 1 i ∧ S2.2.1 19 i = S.2.1 2 i := by
  intro j
  induction j with
  | zero =>
    intro k fu S h1 h2 h3
    obtain ⟨fu, rfl⟩ : ∃ n, fu = n + 1 := ⟨fu - 1, by omega⟩
    have : k = 16 := by omega
    subst this
    refine ⟨S, ?_, rfl, fun _ _ _ => rfl, rfl, h3⟩
    unfold zg_X10_image_L31
    rw [if_pos (show (16 : Int32) ≤ nI 16 by decide)]
  | succ j ih =>
    intro k fu S h1 h2 h3
    obtain ⟨fu, rfl⟩ : ∃ n, fu = n + 1 := ⟨fu - 1, by omega⟩
    have q1 : (zx_SA S 18 (va_up (S.2.1 18) k (S.2.1 1 k))).2.1 2 = S.2.1 2 := zx_SAn S _ (by decide)
    have q2 : (zx_SA S 18 (va_up (S.2.1 18) k (S.2.1 1 k))).2.1 19 = S.2.1 19 := zx_SAn S _ (by decide)
    have oth : ∀ k', k' ≠ 18 → k' ≠ 19 → (zx_SA (zx_SA S 18 (va_up (S.2.1 18) k (S.2.1 1 k))) 19 (va_up (S.2.1 19) k (S.2.1 2 k))).2.1 k' = S.2.1 k' := fun k' h1 h2 => (zx_SAn _ _ h2).trans (zx_SAn S _ h1)
    have r1 : (zx_SA (zx_SA S 18 (va_up (S.2.1 18) k (S.2.1 1 k))) 19 (va_up (S.2.1 19) k (S.2.1 2 k))).2.1 18 = va_up (S.2.1 18) k (S.2.1 1 k) := (zx_SAn _ _ (by decide)).trans zx_SAa
    have r2 : (zx_SA (zx_SA S 18 (va_up (S.2.1 18) k (S.2.1 1 k))) 19 (va_up (S.2.1 19) k (S.2.1 2 k))).2.1 19 = va_up (S.2.1 19) k (S.2.1 2 k) := zx_SAa
    obtain ⟨S2, e1, e2, e3, e4, e5⟩ := ih (k + 1) fu (zx_SA (zx_SA S 18 (va_up (S.2.1 18) k (S.2.1 1 k))) 19 (va_up (S.2.1 19) k (S.2.1 2 k))) (by omega) (by omega) (fun i hi => by
      rw [r1, r2, oth 1 (by decide) (by decide), oth 2 (by decide) (by decide)]
      by_cases y : i = k
      · subst y
        rw [va_up_self, va_up_self]
        exact ⟨rfl, rfl⟩
      · rw [va_up_ne _ _ y, va_up_ne _ _ y]
        exact h3 i (by omega))
    refine ⟨S2, ?_, e2, fun k' h1 h2 => (e3 k' h1 h2).trans (oth k' h1 h2), e4, fun i hi => ⟨(e5 i hi).1.trans (congrFun (oth 1 (by decide) (by decide)) i), (e5 i hi).2.trans (congrFun (oth 2 (by decide) (by decide)) i)⟩⟩
    unfold zg_X10_image_L31
    rw [if_neg (show ¬ (16 : Int32) ≤ nI k from nI_ge (show k < 16 by omega) (by decide)), za_ai (by omega) (by decide), zo_s, zx_si (by omega) (by decide), zo_s, q1, za_ai (by omega) (by decide), zo_s, zx_si (by omega) (by decide), zo_s, q2, ← nI_succ]
    exact e1
theorem zr_im69 : ∀ (j k fu : Nat) (S : zm_S), k + j = 384 → j < fu → (∀ i, i < k → S.2.2 20 i = S.2.2 3 i) → ∃ S2, zg_X10_image_L69 fu S (nI k) = some S2 ∧ S2.1 = S.1 ∧ S2.2.1 = S.2.1 ∧ (∀ k, k ≠ 20 → S2.2.2 k = S.2.2 k) ∧ ∀ i, i < 384 → S2.2.2 20 i = S.2.2 3 i := by
  intro j
  induction j with
  | zero =>
    intro k fu S h1 h2 h3
    obtain ⟨fu, rfl⟩ : ∃ n, fu = n + 1 := ⟨fu - 1, by omega⟩
    have : k = 384 := by omega
    subst this
    refine ⟨S, ?_, rfl, rfl, fun _ _ => rfl, h3⟩
    unfold zg_X10_image_L69
    rw [if_pos (show (384 : Int32) ≤ nI 384 by decide)]
  | succ j ih =>
    intro k fu S h1 h2 h3
    obtain ⟨fu, rfl⟩ : ∃ n, fu = n + 1 := ⟨fu - 1, by omega⟩
    have ne : (zx_SJ S 20 (va_up (S.2.2 20) k (S.2.2 3 k))).2.2 3 = S.2.2 3 := va_up_ne S.2.2 (va_up (S.2.2 20) k (S.2.2 3 k)) (show (3 : Nat) ≠ 20 by decide)
    obtain ⟨S2, e1, e2, e3, e4, e5⟩ := ih (k + 1) fu (zx_SJ S 20 (va_up (S.2.2 20) k (S.2.2 3 k))) (by omega) (by omega) (fun i hi => by
      rw [zx_SJj, ne]
      by_cases y : i = k
      · subst y
        rw [va_up_self]
      · rw [va_up_ne _ _ y]
        exact h3 i (by omega))
    refine ⟨S2, ?_, e2, e3, fun k hk => (e4 k hk).trans (va_up_ne S.2.2 _ hk), fun i hi => (e5 i hi).trans (congrFun ne i)⟩
    unfold zg_X10_image_L69
    rw [if_neg (show ¬ (384 : Int32) ≤ nI k from nI_ge (show k < 384 by omega) (by decide)), za_aj (by omega) (by decide), zo_s, zx_sj (by omega) (by decide), zo_s, ← nI_succ]
    exact e1
theorem zr_im96 : ∀ (j k fu : Nat) (S : zm_S), k + j = 112 → j < fu → (∀ i, i < k → S.2.1 22 i = S.2.1 6 i) → ∃ S2, zg_X10_image_L96 fu S (nI k) = some S2 ∧ S2.1 = S.1 ∧ (∀ k, k ≠ 22 → S2.2.1 k = S.2.1 k) ∧ S2.2.2 = S.2.2 ∧ ∀ i, i < 112 → S2.2.1 22 i = S.2.1 6 i := by
  intro j
  induction j with
  | zero =>
    intro k fu S h1 h2 h3
    obtain ⟨fu, rfl⟩ : ∃ n, fu = n + 1 := ⟨fu - 1, by omega⟩
    have : k = 112 := by omega
    subst this
    refine ⟨S, ?_, rfl, fun _ _ => rfl, rfl, h3⟩
    unfold zg_X10_image_L96
    rw [if_pos (show (112 : Int32) ≤ nI 112 by decide)]
  | succ j ih =>
    intro k fu S h1 h2 h3
    obtain ⟨fu, rfl⟩ : ∃ n, fu = n + 1 := ⟨fu - 1, by omega⟩
    obtain ⟨S2, e1, e2, e3, e4, e5⟩ := ih (k + 1) fu (zx_SA S 22 (va_up (S.2.1 22) k (S.2.1 6 k))) (by omega) (by omega) (fun i hi => by
      rw [zx_SAa, zx_SAn S _ (by decide)]
      by_cases y : i = k
      · subst y
        rw [va_up_self]
      · rw [va_up_ne _ _ y]
        exact h3 i (by omega))
    refine ⟨S2, ?_, e2, fun k hk => (e3 k hk).trans (zx_SAn S _ hk), e4, fun i hi => (e5 i hi).trans (congrFun (zx_SAn S _ (by decide)) i)⟩
    unfold zg_X10_image_L96
    rw [if_neg (show ¬ (112 : Int32) ≤ nI k from nI_ge (show k < 112 by omega) (by decide)), za_ai (by omega) (by decide), zo_s, zx_si (by omega) (by decide), zo_s, ← nI_succ]
    exact e1
theorem zr_im122 : ∀ (j k fu : Nat) (S : zm_S), k + j = 3 → j < fu → (∀ i, i < k → S.2.1 23 i = S.2.1 7 i) → ∃ S2, zg_X10_image_L122 fu S (nI k) = some S2 ∧ S2.1 = S.1 ∧ (∀ k, k ≠ 23 → S2.2.1 k = S.2.1 k) ∧ S2.2.2 = S.2.2 ∧ ∀ i, i < 3 → S2.2.1 23 i = S.2.1 7 i := by
  intro j
  induction j with
  | zero =>
    intro k fu S h1 h2 h3
    obtain ⟨fu, rfl⟩ : ∃ n, fu = n + 1 := ⟨fu - 1, by omega⟩
    have : k = 3 := by omega
    subst this
    refine ⟨S, ?_, rfl, fun _ _ => rfl, rfl, h3⟩
    unfold zg_X10_image_L122
    rw [if_pos (show (3 : Int32) ≤ nI 3 by decide)]
  | succ j ih =>
    intro k fu S h1 h2 h3
    obtain ⟨fu, rfl⟩ : ∃ n, fu = n + 1 := ⟨fu - 1, by omega⟩
    obtain ⟨S2, e1, e2, e3, e4, e5⟩ := ih (k + 1) fu (zx_SA S 23 (va_up (S.2.1 23) k (S.2.1 7 k))) (by omega) (by omega) (fun i hi => by
      rw [zx_SAa, zx_SAn S _ (by decide)]
      by_cases y : i = k
      · subst y
        rw [va_up_self]
      · rw [va_up_ne _ _ y]
        exact h3 i (by omega))
    refine ⟨S2, ?_, e2, fun k hk => (e3 k hk).trans (zx_SAn S _ hk), e4, fun i hi => (e5 i hi).trans (congrFun (zx_SAn S _ (by decide)) i)⟩
    unfold zg_X10_image_L122
    rw [if_neg (show ¬ (3 : Int32) ≤ nI k from nI_ge (show k < 3 by omega) (by decide)), za_ai (by omega) (by decide), zo_s, zx_si (by omega) (by decide), zo_s, ← nI_succ]
    exact e1
theorem zr_re40 : ∀ (j k fu : Nat) (S : zm_S), k + j = 16 → j < fu → (∀ i, i < k → S.2.1 1 i = S.2.1 18 i ∧ S.2.1 2 i = S.2.1 19 i) → ∃ S2, zg_X10_restore_L40 fu S (nI k) = some S2 ∧ S2.1 = S.1 ∧ (∀ k, k ≠ 1 → k ≠ 2 → S2.2.1 k = S.2.1 k) ∧ S2.2.2 = S.2.2 ∧ ∀ i, i < 16 → S2.2.1 1 i = S.2.1 18 i ∧ S2.2.1 2 i = S.2.1 19 i := by
  intro j
  induction j with
  | zero =>
    intro k fu S h1 h2 h3
    obtain ⟨fu, rfl⟩ : ∃ n, fu = n + 1 := ⟨fu - 1, by omega⟩
    have : k = 16 := by omega
    subst this
    refine ⟨S, ?_, rfl, fun _ _ _ => rfl, rfl, h3⟩
    unfold zg_X10_restore_L40
    rw [if_pos (show (16 : Int32) ≤ nI 16 by decide)]
  | succ j ih =>
    intro k fu S h1 h2 h3
    obtain ⟨fu, rfl⟩ : ∃ n, fu = n + 1 := ⟨fu - 1, by omega⟩
    have q1 : (zx_SA S 1 (va_up (S.2.1 1) k (S.2.1 18 k))).2.1 19 = S.2.1 19 := zx_SAn S _ (by decide)
    have q2 : (zx_SA S 1 (va_up (S.2.1 1) k (S.2.1 18 k))).2.1 2 = S.2.1 2 := zx_SAn S _ (by decide)
    have oth : ∀ k', k' ≠ 1 → k' ≠ 2 → (zx_SA (zx_SA S 1 (va_up (S.2.1 1) k (S.2.1 18 k))) 2 (va_up (S.2.1 2) k (S.2.1 19 k))).2.1 k' = S.2.1 k' := fun k' h1 h2 => (zx_SAn _ _ h2).trans (zx_SAn S _ h1)
    have r1 : (zx_SA (zx_SA S 1 (va_up (S.2.1 1) k (S.2.1 18 k))) 2 (va_up (S.2.1 2) k (S.2.1 19 k))).2.1 1 = va_up (S.2.1 1) k (S.2.1 18 k) := (zx_SAn _ _ (by decide)).trans zx_SAa
    have r2 : (zx_SA (zx_SA S 1 (va_up (S.2.1 1) k (S.2.1 18 k))) 2 (va_up (S.2.1 2) k (S.2.1 19 k))).2.1 2 = va_up (S.2.1 2) k (S.2.1 19 k) := zx_SAa
    obtain ⟨S2, e1, e2, e3, e4, e5⟩ := ih (k + 1) fu (zx_SA (zx_SA S 1 (va_up (S.2.1 1) k (S.2.1 18 k))) 2 (va_up (S.2.1 2) k (S.2.1 19 k))) (by omega) (by omega) (fun i hi => by
      rw [r1, r2, oth 18 (by decide) (by decide), oth 19 (by decide) (by decide)]
      by_cases y : i = k
      · subst y
        rw [va_up_self, va_up_self]
        exact ⟨rfl, rfl⟩
      · rw [va_up_ne _ _ y, va_up_ne _ _ y]
        exact h3 i (by omega))
    refine ⟨S2, ?_, e2, fun k' h1 h2 => (e3 k' h1 h2).trans (oth k' h1 h2), e4, fun i hi => ⟨(e5 i hi).1.trans (congrFun (oth 18 (by decide) (by decide)) i), (e5 i hi).2.trans (congrFun (oth 19 (by decide) (by decide)) i)⟩⟩
    unfold zg_X10_restore_L40
    rw [if_neg (show ¬ (16 : Int32) ≤ nI k from nI_ge (show k < 16 by omega) (by decide)), za_ai (by omega) (by decide), zo_s, zx_si (by omega) (by decide), zo_s, q1, za_ai (by omega) (by decide), zo_s, zx_si (by omega) (by decide), zo_s, q2, ← nI_succ]
    exact e1
theorem zr_re78 : ∀ (j k fu : Nat) (S : zm_S), k + j = 384 → j < fu → (∀ i, i < k → S.2.2 3 i = S.2.2 20 i) → ∃ S2, zg_X10_restore_L78 fu S (nI k) = some S2 ∧ S2.1 = S.1 ∧ S2.2.1 = S.2.1 ∧ (∀ k, k ≠ 3 → S2.2.2 k = S.2.2 k) ∧ ∀ i, i < 384 → S2.2.2 3 i = S.2.2 20 i := by
  intro j
  induction j with
  | zero =>
    intro k fu S h1 h2 h3
    obtain ⟨fu, rfl⟩ : ∃ n, fu = n + 1 := ⟨fu - 1, by omega⟩
    have : k = 384 := by omega
    subst this
    refine ⟨S, ?_, rfl, rfl, fun _ _ => rfl, h3⟩
    unfold zg_X10_restore_L78
    rw [if_pos (show (384 : Int32) ≤ nI 384 by decide)]
  | succ j ih =>
    intro k fu S h1 h2 h3
    obtain ⟨fu, rfl⟩ : ∃ n, fu = n + 1 := ⟨fu - 1, by omega⟩
    have ne : (zx_SJ S 3 (va_up (S.2.2 3) k (S.2.2 20 k))).2.2 20 = S.2.2 20 := va_up_ne S.2.2 (va_up (S.2.2 3) k (S.2.2 20 k)) (show (20 : Nat) ≠ 3 by decide)
    obtain ⟨S2, e1, e2, e3, e4, e5⟩ := ih (k + 1) fu (zx_SJ S 3 (va_up (S.2.2 3) k (S.2.2 20 k))) (by omega) (by omega) (fun i hi => by
      rw [zx_SJj, ne]
      by_cases y : i = k
      · subst y
        rw [va_up_self]
      · rw [va_up_ne _ _ y]
        exact h3 i (by omega))
    refine ⟨S2, ?_, e2, e3, fun k hk => (e4 k hk).trans (va_up_ne S.2.2 _ hk), fun i hi => (e5 i hi).trans (congrFun ne i)⟩
    unfold zg_X10_restore_L78
    rw [if_neg (show ¬ (384 : Int32) ≤ nI k from nI_ge (show k < 384 by omega) (by decide)), za_aj (by omega) (by decide), zo_s, zx_sj (by omega) (by decide), zo_s, ← nI_succ]
    exact e1
theorem zr_re105 : ∀ (j k fu : Nat) (S : zm_S), k + j = 112 → j < fu → (∀ i, i < k → S.2.1 6 i = S.2.1 22 i) → ∃ S2, zg_X10_restore_L105 fu S (nI k) = some S2 ∧ S2.1 = S.1 ∧ (∀ k, k ≠ 6 → S2.2.1 k = S.2.1 k) ∧ S2.2.2 = S.2.2 ∧ ∀ i, i < 112 → S2.2.1 6 i = S.2.1 22 i := by
  intro j
  induction j with
  | zero =>
    intro k fu S h1 h2 h3
    obtain ⟨fu, rfl⟩ : ∃ n, fu = n + 1 := ⟨fu - 1, by omega⟩
    have : k = 112 := by omega
    subst this
    refine ⟨S, ?_, rfl, fun _ _ => rfl, rfl, h3⟩
    unfold zg_X10_restore_L105
    rw [if_pos (show (112 : Int32) ≤ nI 112 by decide)]
  | succ j ih =>
    intro k fu S h1 h2 h3
    obtain ⟨fu, rfl⟩ : ∃ n, fu = n + 1 := ⟨fu - 1, by omega⟩
    obtain ⟨S2, e1, e2, e3, e4, e5⟩ := ih (k + 1) fu (zx_SA S 6 (va_up (S.2.1 6) k (S.2.1 22 k))) (by omega) (by omega) (fun i hi => by
      rw [zx_SAa, zx_SAn S _ (by decide)]
      by_cases y : i = k
      · subst y
        rw [va_up_self]
      · rw [va_up_ne _ _ y]
        exact h3 i (by omega))
    refine ⟨S2, ?_, e2, fun k hk => (e3 k hk).trans (zx_SAn S _ hk), e4, fun i hi => (e5 i hi).trans (congrFun (zx_SAn S _ (by decide)) i)⟩
    unfold zg_X10_restore_L105
    rw [if_neg (show ¬ (112 : Int32) ≤ nI k from nI_ge (show k < 112 by omega) (by decide)), za_ai (by omega) (by decide), zo_s, zx_si (by omega) (by decide), zo_s, ← nI_succ]
    exact e1
theorem zr_re131 : ∀ (j k fu : Nat) (S : zm_S), k + j = 3 → j < fu → (∀ i, i < k → S.2.1 7 i = S.2.1 23 i) → ∃ S2, zg_X10_restore_L131 fu S (nI k) = some S2 ∧ S2.1 = S.1 ∧ (∀ k, k ≠ 7 → S2.2.1 k = S.2.1 k) ∧ S2.2.2 = S.2.2 ∧ ∀ i, i < 3 → S2.2.1 7 i = S.2.1 23 i := by
  intro j
  induction j with
  | zero =>
    intro k fu S h1 h2 h3
    obtain ⟨fu, rfl⟩ : ∃ n, fu = n + 1 := ⟨fu - 1, by omega⟩
    have : k = 3 := by omega
    subst this
    refine ⟨S, ?_, rfl, fun _ _ => rfl, rfl, h3⟩
    unfold zg_X10_restore_L131
    rw [if_pos (show (3 : Int32) ≤ nI 3 by decide)]
  | succ j ih =>
    intro k fu S h1 h2 h3
    obtain ⟨fu, rfl⟩ : ∃ n, fu = n + 1 := ⟨fu - 1, by omega⟩
    obtain ⟨S2, e1, e2, e3, e4, e5⟩ := ih (k + 1) fu (zx_SA S 7 (va_up (S.2.1 7) k (S.2.1 23 k))) (by omega) (by omega) (fun i hi => by
      rw [zx_SAa, zx_SAn S _ (by decide)]
      by_cases y : i = k
      · subst y
        rw [va_up_self]
      · rw [va_up_ne _ _ y]
        exact h3 i (by omega))
    refine ⟨S2, ?_, e2, fun k hk => (e3 k hk).trans (zx_SAn S _ hk), e4, fun i hi => (e5 i hi).trans (congrFun (zx_SAn S _ (by decide)) i)⟩
    unfold zg_X10_restore_L131
    rw [if_neg (show ¬ (3 : Int32) ≤ nI k from nI_ge (show k < 3 by omega) (by decide)), za_ai (by omega) (by decide), zo_s, zx_si (by omega) (by decide), zo_s, ← nI_succ]
    exact e1
