/-! judge -/
theorem zs_num {z s t n i : Nat} {D : zy_D} {w : zc_H} (A : zy_is z D w) (hz : w.2.2 < z) (hs : s < 8) (ht : t < 4) (hv : D.1 (22 + 2 * s) 0 = nI (100 + t)) (hn : D.1 (22 + 2 * s) 1 = nI n) (h160 : n ≤ 160) (hi : i < n) : zf_X5_numberAt w (z + (22 + 2 * s)) (nI i) = some (D.2.2 (23 + 2 * s) i).toInt32 := by
  unfold zf_X5_numberAt zf_X5_elementAt
  rw [if_neg (zy_isS A hs), if_neg (zy_isS A hs), zs_hasEl A hz hs ht hv hn h160 hi, zo_s, if_neg (show ¬ (1 : Int32) = 0 by decide), zy_rS2 A hs, zo_s, zo_s, zy_aS A hs (by omega), zo_s, zo_s]
section ZQ
variable {z : Nat} {w : zc_H} {D : zy_D} {S : zm_S} {E f g f' g' fb : Nat → Nat} {N M N' M' nb need margin run : Nat}
/-- one step of the class, on a way -/
theorem zs_putS {u : zc_H} {Du : zy_D} {Eu fbu : Nat → Nat} {nbu : Nat} (R : zx_RR z u Du S (fun _ x => x = S.2.1 7 0) Eu f g f' g' fbu N M N' M' nbu) (hc : zx_co S N) (hrun : S.2.1 7 0 = nI run) (hr1 : 1 ≤ run) (hr9 : run ≤ 9) (H : zx_rl S need margin) {kind a r p q t m : Nat} {l : List Nat} (W : zq_wy (S.2.1 1) N r t l) (hp : p ≤ q) (hq : q < zx_n (S.2.1 2) r) (hk : kind < 7) (ha : a ≤ 9) (hg1 : z + 60 ≤ g m) (hg : ∃ vs, u.1 (g m) = some (.inr (3, vs)) ∧ vs[2]? = some (.int (nI a))) {k : Nat} {v : Nat → Int32} {x : Nat → Int64} (e1 : k + 1 ≤ l.length - 1) (e3 : zk_T (fun r => zx_l u (f r)) (zx_n (S.2.1 2)) v x (zx_T S need margin kind a r p q l k)) : ∃ v2 x2, zf_X8_step (zk_w u (z + 15) (z + 2) v x) (z + 15) (some (g m)) (nI kind) (some (f (l.getD (l.length - 1 - k) 0))) (some (f (l.getD (l.length - 2 - k) 0))) = some (zk_w u (z + 15) (z + 2) v2 x2) ∧ zk_T (fun r => zx_l u (f r)) (zx_n (S.2.1 2)) v2 x2 (zx_T S need margin kind a r p q l (k + 1)) := by
  obtain ⟨w1, w2, w3, w4, w5, w6⟩ := id W
  obtain ⟨A, ⟨hz, hsz, hE, -⟩, doc, -, ds, -⟩ := id R
  have doc : zx_doc z u f g N M (S.2.1 1) (S.2.1 2) (S.2.2 3) (S.2.1 6) (fun _ x => x = S.2.1 7 0) := doc
  have hb := w5 (l.length - 2 - k) (by omega)
  have ho := w5 (l.length - 1 - k) (by omega)
  obtain ⟨f1, f2⟩ := w6 (l.length - 2 - k) (by omega)
  obtain ⟨i1, i2, i3⟩ := zx_T_ok (need := need) (margin := margin) (kind := kind) (a := a) hc W hp hq k (by omega)
  have kpw := fun v x => zx_w_kp z u v x
  have docw := fun v x => zx_doc_t (kpw v x) doc
  have lw : ∀ v x b, b < N → zx_l (zk_w u (z + 15) (z + 2) v x) (f b) = zx_l u (f b) := fun v x b hb => by
    obtain ⟨o, rf, fo, c1, c2, -⟩ := doc.2.2.1 b hb
    exact zx_kp_l (kpw v x) o.1 o.2.1 c2
  have RV : ∀ b, b < N → ∀ v x, zk_rv (zk_w u (z + 15) (z + 2) v x) (f b) (f b + 1) (zx_n (S.2.1 2) b) (zx_l u (f b)) := fun b hb v x => by
    have := zx_rv (docw v x) (show (zk_w u (z + 15) (z + 2) v x).2.2 < z from hz) hb
    rwa [lw v x b hb] at this
  have env : zk_env u (z + 15) (z + 2) (g m) a need margin := ⟨by omega, ⟨by omega, by omega⟩, ⟨by omega, by omega⟩, hg, ⟨_, A 2 (by decide) rfl, by rw [← H.1, ← ds.2.2.2.1]; rfl, by rw [← H.2.1, ← ds.2.2.2.2.1]; rfl⟩, ha, H.2.2.1, H.2.2.2⟩
  obtain ⟨v2, x2, s1, s2, s3⟩ := zk_step (h := u) (W := z + 15) (R0 := z + 2) (rm := g m) (kind := kind) (on := f (l.getD (l.length - 1 - k) 0)) (lo := f (l.getD (l.length - 1 - k) 0) + 1) (b := f (l.getD (l.length - 2 - k) 0)) (lb := f (l.getD (l.length - 2 - k) 0) + 1) (bi := l.getD (l.length - 2 - k) 0) (ln := fun r => zx_l u (f r)) (cnt := zx_n (S.2.1 2)) (co := zr_co S) (v := v) (x := x) (T := zx_T S need margin kind a r p q l k) env (fun r => zx_n24 _ _) (fun hne v x => by
    rw [i3 hne]
    exact RV _ ho v x) (RV _ hb) (fun v x => zx_place (show (zk_w u (z + 15) (z + 2) v x).2.2 < z from hz) (docw v x) hc hrun hr1 hr9 hb (by rw [show l.length - 2 - k + 1 = l.length - 1 - k by omega] at f1; exact f1) (by rw [show l.length - 2 - k + 1 = l.length - 1 - k by omega] at f2; exact f2)) (zx_pl hc hb f1 f2) hk i1 e3
  have cong : zq_step (fun r => zx_l u (f r)) (zx_n (S.2.1 2)) (zr_co S) need margin kind a (l.getD (l.length - 2 - k) 0) (zx_T S need margin kind a r p q l k) = zx_T S need margin kind a r p q l (k + 1) := by
    rw [zx_T1]
    exact zq_step_c (fun i hi => ((zx_C doc i2).2 i hi).1) (fun i hi => ((zx_C doc hb).2 i hi).1) rfl
  rw [cong] at s2
  exact ⟨v2, x2, s1, s2⟩
/-- the walk begins -/
theorem zs_beg {u : zc_H} {Du : zy_D} (Au : zy_is z Du u) {m kind a r p q : Nat} {an : Int32} {need margin : Nat} {l : List Nat} (Q : zx_rm S u f g N m kind a r p q an) : ∃ v, zf_X8_begin u (z + 15) (some (g m)) = some (zk_w u (z + 15) (z + 2) v (Du.2.2 17)) ∧ zk_T (fun r => zx_l u (f r)) (zx_n (S.2.1 2)) v (Du.2.2 17) (zx_T S need margin kind a r p q l 0) := by
  obtain ⟨q1, q2, q3, q4, q5, q6, q7, q8, q9, q10, q11, q12⟩ := id Q
  refine ⟨va_up (va_up (Du.1 15) 2 (nI (32 * p + q))) 3 0, ?_, ⟨by rw [va_up_ne _ _ (by decide), va_up_self]; rfl, by rw [va_up_self]; rfl, fun h => (by cases h)⟩⟩
  have ew : zy_h z (zy_I (zy_I Du 15 2 (nI (32 * p + q))) 15 3 0) u = zk_w u (z + 15) (z + 2) (va_up (va_up (Du.1 15) 2 (nI (32 * p + q))) 3 0) (Du.2.2 17) := by
    rw [zy_w_e Au]
    congr 1
    unfold zy_W zy_I
    dsimp only
    rw [va_up_self, zu_twice, zu_self]
  unfold zf_X8_begin
  rw [if_neg (zy_is15 Au), zo_s, zb_gi q12 rfl, zo_s, zy_p15_2 Au, zo_s, zy_p15_3 (zy_is_h _ _ _), zo_s, zy_hh, ew]
theorem zx_wrongL {u : zc_H} {Du : zy_D} {Eu : Nat → Nat} {l : List Nat} (R : zx_RR z u Du S (fun _ x => x = S.2.1 7 0) Eu f g f' g' (fun i => f (l.getD i 0)) N M N' M' l.length) (zs : zx_s S N M) (hrun : S.2.1 7 0 = nI run) (hr1 : 1 ≤ run) (hr9 : run ≤ 9) (H : zx_rl S need margin) {kind a r p q t m s tt n : Nat} {an : Int32} (Q : zx_rm S u f g N m kind a r p q an) (hm : m < M) (ht : t < N) (hl : zq_way (S.2.1 1) r 17 t = some l) (W : zq_wy (S.2.1 1) N r t l) (hs : s < 8) (htt : tt < 4) (hv : S.2.1 9 s = nI (100 + tt)) (hn : S.2.1 10 s = nI n) (hn160 : n ≤ 160) (hln : l.length ≤ n) : ∀ (j k fu fu2 : Nat) (v : Nat → Int32) (x : Nat → Int64) (S' : zm_S), k + j = l.length → j < fu → j < fu2 → zx_eqS S S' → zk_T (fun r => zx_l u (f r)) (zx_n (S.2.1 2)) v x (zx_T S need margin kind a r p q l (k - 1)) → ∃ v2 x2 S2 o, zf_X8_firstWrong_L13 (z + 15) (some (g m)) (some (z + (22 + 2 * s))) fu (zk_w u (z + 15) (z + 2) v x) (some (f (l.getD (l.length - 1 - (k - 1)) 0))) (nI k) = some (zk_w u (z + 15) (z + 2) v2 x2, o) ∧ zg_X10_judge_L94 (nI s) (nI m) (nI t) (nI (l.length - 1)) fu2 S' (nI k) = some (S2, o) ∧ zx_eqS S S2 := by
  obtain ⟨w1, w2, w3, w4, w5, w6⟩ := id W
  obtain ⟨A, ⟨hz, hsz, hE, -, -, -, -, v8⟩, docd, -, ds, -⟩ := id R
  have doc : zx_doc z u f g N M (S.2.1 1) (S.2.1 2) (S.2.2 3) (S.2.1 6) (fun _ x => x = S.2.1 7 0) := docd
  have hc := zs.2.2.2.1
  obtain ⟨hN, hM, -⟩ := id doc
  obtain ⟨q1, q2, q3, q4, q5, q6, q7, q8, q9, q10, q11, q12⟩ := id Q
  obtain ⟨gm1, gm2, -⟩ := doc.2.2.2 m hm
  have ru : zx_R z u Du S N M := ⟨zs, _, _, _, _, _, _, _, _, _, R⟩
  obtain ⟨-, e0, ⟨n', hn', e1', e1d⟩, e2⟩ := zx_R_s ru hs
  have nn : n' = n := (za_eq (by omega) (by omega)).mp (e1'.symm.trans hn)
  subst nn
  have al2 : ∀ v x, zk_al (zk_w u (z + 15) (z + 2) v x) (z + 16) (Eu 16) l.length (fun i => f (l.getD i 0)) := fun v x => zk_al_same v8 (zk_wn (by omega) (by omega)) (fun hne => by
    have := ((hE 16 rfl).1.resolve_left hne).1
    exact zk_wn (by omega) (by omega)) rfl
  have num : ∀ v x i, i < n' → zf_X5_numberAt (zk_w u (z + 15) (z + 2) v x) (z + (22 + 2 * s)) (nI i) = some (S.2.2 11 (160 * s + i)).toInt32 := fun v x i hi => by
    have A2 := zy_W_is A v x
    have q := zy_W_eq Du v x (22 + 2 * s) (by omega)
    have q2 := zy_W_eq Du v x (23 + 2 * s) (by omega)
    rw [zs_num A2 (show (zk_w u (z + 15) (z + 2) v x).2.2 < z from hz) hs htt (by rw [q.1, e0, hv]) (by rw [q.1, e1d]) hn' hi, q2.2.2, e2 i (by omega)]
  have gl : ∀ v x, zf_gr (zk_w u (z + 15) (z + 2) v x) (z + 15) 8 1 = some (some (z + 16)) := fun v x => zb_gr (x := some (z + 15 + 1)) zk_w0 rfl
  have g2 : ∀ v x, zf_gi (zk_w u (z + 15) (z + 2) v x) (z + 15) 8 2 = some (v 2) := fun v x => zb_gi zk_w0 rfl
  have cm : ∀ v x, (zk_w u (z + 15) (z + 2) v x).1 (g m) = some (.inr (3, [.int (nI m), .int (nI kind), .int (nI a), .ref (f r), .int (nI (32 * p + q)), .int an])) := fun v x => by
    rw [zk_wn (by omega) (by omega)]
    exact q12
  intro j
  induction j with
  | zero =>
    intro k fu fu2 v x S' h1 h2 h3 h4 h5
    obtain ⟨fu, rfl⟩ : ∃ n, fu = n + 1 := ⟨fu - 1, by omega⟩
    obtain ⟨fu2, rfl⟩ : ∃ n, fu2 = n + 1 := ⟨fu2 - 1, by omega⟩
    refine ⟨v, x, S', .inl (), ?_, ?_, h4⟩
    · unfold zf_X8_firstWrong_L13
      rw [gl, zo_s, zo_s, zk_al_size (al2 v x), zo_s, if_pos (nI_le (show l.length ≤ k by omega) (by omega))]
    · unfold zg_X10_judge_L94
      rw [if_pos (nI_lt (show l.length - 1 < k by omega) (by omega))]
  | succ j ih =>
    intro k fu fu2 v x S' h1 h2 h3 h4 h5
    obtain ⟨fu, rfl⟩ : ∃ n, fu = n + 1 := ⟨fu - 1, by omega⟩
    obtain ⟨fu2, rfl⟩ : ∃ n, fu2 = n + 1 := ⟨fu2 - 1, by omega⟩
    -- the reference
    have R' := zx_RR_sc R rfl (fun _ _ => rfl) (fun _ _ => rfl) R.1 (zx_eqD_refl _) h4
    have d' : zx_d1 z u f g N M S' (fun _ x => x = S.2.1 7 0) := R'.2.2.1
    have dd' : zx_doc z u f g N M (S'.2.1 1) (S'.2.1 2) (S'.2.2 3) (S'.2.1 6) (fun _ x => x = S.2.1 7 0) := d'
    obtain ⟨-, -, -, o4, o5, o6, o7, o8, o9, o10, o11, o12⟩ := zx_rm_t h4 (zx_kp_refl z u) gm1 gm2 Q
    obtain ⟨S2, b', p1, p2, p3⟩ := zr_puts (zr_doc_of d' (zx_rl_e h4 H)) (zx_fm dd') (zx_s_eq h4 zs).2.2.2.1 o4 o5 q1 q2 (by omega) q3 ht o7 o8 o9 o10 (l.length - 1 - k) (Or.inr (Or.inr (fun l' hl' => by
      rw [h4.2.1 1 (by decide), hl] at hl'
      cases hl'
      omega)))
    rcases p3 with ⟨y1, -⟩ | ⟨l', c, v', y1, y2, y3, y4⟩
    · rw [h4.2.1 1 (by decide), hl] at y1
      cases y1
    rw [h4.2.1 1 (by decide), hl] at y1
    cases y1
    rw [zx_T_e h4, show l.length - 1 - (l.length - 1 - k) = k by omega] at y4
    have eS2 := zx_eqS_trans h4 p2
    have rd : zg_X10_read S2 (nI s) (nI k) = some (S.2.2 11 (160 * s + k)).toInt32 := by
      unfold zg_X10_read
      rw [za_160, za_aj (by omega) (by decide), zo_s, eS2.2.2]
    have s31 : S2.1 31 = v' 31 := by rw [y3]; exact zr_wg _ _ (by decide)
    -- the class
    have go : ∀ (vk : Nat → Int32) (xk : Nat → Int64), zk_T (fun r => zx_l u (f r)) (zx_n (S.2.1 2)) vk xk (zx_T S need margin kind a r p q l k) → ∃ v2 x2 S3 o, ((if (S.2.2 11 (160 * s + k)).toInt32 = v' 31 then zf_X8_firstWrong_L13 (z + 15) (some (g m)) (some (z + (22 + 2 * s))) fu (zk_w u (z + 15) (z + 2) vk xk) (some (f (l.getD (l.length - 1 - k) 0))) (nI k + 1) else some (zk_w u (z + 15) (z + 2) vk xk, .inr (nI k))) = some (zk_w u (z + 15) (z + 2) v2 x2, o)) ∧ ((if (S.2.2 11 (160 * s + k)).toInt32 = v' 31 then zg_X10_judge_L94 (nI s) (nI m) (nI t) (nI (l.length - 1)) fu2 S2 (nI k + 1) else some (S2, .inr (nI k))) = some (S3, o)) ∧ zx_eqS S S3 := fun vk xk hk => by
      by_cases y : (S.2.2 11 (160 * s + k)).toInt32 = v' 31
      · rw [if_pos y, if_pos y, ← nI_succ]
        exact ih (k + 1) fu fu2 vk xk S2 (by omega) (by omega) (by omega) eS2 hk
      · rw [if_neg y, if_neg y]
        exact ⟨vk, xk, S2, _, rfl, rfl, eS2⟩
    have fo : ∀ vk xk, zk_T (fun r => zx_l u (f r)) (zx_n (S.2.1 2)) vk xk (zx_T S need margin kind a r p q l k) → zf_X9_firstOf (zk_w u (z + 15) (z + 2) vk xk) (vk 2) = some (v' 31) := fun vk xk hk => by
      rw [hk.1]
      exact (zx_T_sp hc W q4 q5 (show k ≤ l.length - 1 by omega) y4 _).1
    unfold zf_X8_firstWrong_L13 zg_X10_judge_L94
    dsimp only
    rw [gl, zo_s, zo_s, zk_al_size (al2 v x), zo_s, if_neg (nI_ge (show k < l.length by omega) (by omega)), if_neg (nI_nlt (show k ≤ l.length - 1 by omega) (by omega)), zr_of (k := 0) (by decide) (by omega) 0 rfl, show 16 * 0 + m = m by omega, o6, zo_s (nI kind), za_sub (show k ≤ l.length - 1 by omega), p1, zo_s (S2, b')]
    dsimp only
    rw [rd, zo_s ((S.2.2 11 (160 * s + k)).toInt32), s31]
    by_cases k0 : k = 0
    · subst k0
      obtain ⟨v2, x2, S3, o, r1, r2, r3⟩ := go v x h5
      rw [if_pos (show nI 0 ≤ 0 by decide), zo_s, num v x 0 (by omega), zo_s, g2, zo_s, fo v x h5, zo_s]
      exact ⟨v2, x2, S3, o, r1, r2, r3⟩
    · obtain ⟨k', rfl⟩ : ∃ k', k = k' + 1 := ⟨k - 1, by omega⟩
      rw [Nat.add_sub_cancel] at h5 ⊢
      obtain ⟨v3, x3, s1, s2⟩ := zs_putS (need := need) (margin := margin) (kind := kind) (a := a) (m := m) R hc hrun hr1 hr9 H W q4 q5 q1 q2 gm1 ⟨_, q12, rfl⟩ (show k' + 1 ≤ l.length - 1 by omega) h5
      have is4 : zf_is (zk_w u (z + 15) (z + 2) v x) (f (l.getD (l.length - 2 - k') 0)) 4 = true := zx_rev_is (zx_doc_t (zx_w_kp z u v x) doc) (w5 _ (by omega))
      have get := zk_al_get (al2 v x) (i := l.length - 2 - k') (by omega)
      have ix : nI l.length - 1 - nI (k' + 1) = nI (l.length - 2 - k') := by
        rw [show (1 : Int32) = nI 1 by decide, za_sub (by omega), za_sub (by omega)]
        congr 1
        omega
      obtain ⟨v2, x2, S3, o, r1, r2, r3⟩ := go v3 x3 s2
      rw [show l.length - 1 - (k' + 1) = l.length - 2 - k' by omega] at r1
      rw [if_neg (show ¬ nI (k' + 1) ≤ 0 from nI_ge (show 0 < k' + 1 by omega) (by omega)), zo_s, zo_s, zo_s, zk_al_size (al2 v x), zo_s, zo_s, ix, get, zo_s, if_neg (show ¬ ¬ zf_cc _ (some (f (l.getD (l.length - 2 - k') 0))) 4 = true from not_not_intro is4), zo_s, zb_gi (cm v x) rfl, zo_s, s1, zo_s, zo_s, num v3 x3 (k' + 1) (by omega), zo_s, g2, zo_s, fo v3 x3 s2, zo_s]
      exact ⟨v2, x2, S3, o, r1, r2, r3⟩
end ZQ
