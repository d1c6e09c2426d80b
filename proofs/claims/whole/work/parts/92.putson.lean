/-! a remark is put on a revision: the class -/
def zy_W (D : zy_D) (v : Nat → Int32) (x : Nat → Int64) : zy_D := (va_up D.1 15 v, D.2.1, va_up D.2.2 17 x)
theorem zy_W15 (D : zy_D) (v : Nat → Int32) (x : Nat → Int64) : (zy_W D v x).1 15 = v := va_up_self D.1 15 v
theorem zy_W17 (D : zy_D) (v : Nat → Int32) (x : Nat → Int64) : (zy_W D v x).2.2 17 = x := va_up_self D.2.2 17 x
theorem zy_W_eq (D : zy_D) (v : Nat → Int32) (x : Nat → Int64) : zx_eqD D (zy_W D v x) := fun k hk => ⟨va_up_ne _ _ (by omega), rfl, va_up_ne _ _ (by omega)⟩
/-- all but the walk stays -/
def zx_eqW (D D2 : zy_D) : Prop := ∀ k, k ≠ 15 → k ≠ 17 → D2.1 k = D.1 k ∧ D2.2.1 k = D.2.1 k ∧ D2.2.2 k = D.2.2 k
theorem zx_eqW_refl (D : zy_D) : zx_eqW D D := fun _ _ _ => ⟨rfl, rfl, rfl⟩
theorem zx_eqW_D {D D2 : zy_D} (h : zx_eqW D D2) : zx_eqD D D2 := fun k hk => h k (by omega) (by omega)
theorem zy_W_eqW (D : zy_D) (v : Nat → Int32) (x : Nat → Int64) : zx_eqW D (zy_W D v x) := fun k h1 h2 => ⟨va_up_ne _ _ h1, rfl, va_up_ne _ _ h2⟩
theorem zy_W_is {z : Nat} {D : zy_D} {w : zc_H} (A : zy_is z D w) (v : Nat → Int32) (x : Nat → Int64) : zy_is z (zy_W D v x) (zk_w w (z + 15) (z + 2) v x) := by
  intro k hk hn
  by_cases c1 : k = 15
  · subst c1
    exact zk_w0
  by_cases c2 : k = 17
  · subst c2
    exact zk_wx
  rw [zk_wn (by omega) (by omega), A k hk hn]
  unfold zy_W
  dsimp only
  rw [va_up_ne _ _ c1, va_up_ne _ _ c2]
theorem zy_w_e {z : Nat} {D : zy_D} {w : zc_H} (A : zy_is z D w) (v : Nat → Int32) (x : Nat → Int64) : zk_w w (z + 15) (z + 2) v x = zy_h z (zy_W D v x) w := by
  rw [← zy_is_e (zy_W_is A v x)]
  refine Prod.ext ?_ rfl
  funext y
  unfold zy_h
  dsimp only
  by_cases c : z ≤ y ∧ y < z + 38 ∧ zy_n (y - z) = true
  · rw [if_pos c, if_pos c]
  · rw [if_neg c, if_neg c]
    refine zk_wn (fun e => c ⟨by omega, by omega, ?_⟩) (fun e => c ⟨by omega, by omega, ?_⟩)
    · rw [e, Nat.add_sub_cancel_left]; rfl
    · rw [e, show z + 15 + 2 - z = 17 by omega]; rfl
theorem zx_w_kp (z : Nat) (w : zc_H) (v : Nat → Int32) (x : Nat → Int64) : zx_kp z w (zk_w w (z + 15) (z + 2) v x) := zx_kp_same rfl (fun y hy => zk_wn (by omega) (by omega))
theorem zx_RR_w {z : Nat} {w : zc_H} {D : zy_D} {S S2 : zm_S} {rdy : Nat → Int32 → Prop} {E f g f' g' fb : Nat → Nat} {N M N' M' nb : Nat} (R : zx_RR z w D S rdy E f g f' g' fb N M N' M' nb) (hS : zx_eqS S S2) (v : Nat → Int32) (x : Nat → Int64) : zx_RR z (zk_w w (z + 15) (z + 2) v x) (zy_W D v x) S2 rdy E f g f' g' fb N M N' M' nb := zx_RR_sc R rfl (fun y hy => zk_wn (by omega) (by omega)) (fun k hk => zk_wn (by
  have := zx_n38 hk
  by_cases c : k = 15
  · rw [c] at hk
    cases hk
  · omega) (by
  by_cases c : k = 17
  · rw [c] at hk
    cases hk
  · omega)) (zy_W_is R.1 v x) (zy_W_eq D v x) hS
theorem zx_w_blk (z : Nat) (w : zc_H) (v : Nat → Int32) (x : Nat → Int64) : zx_blk z w (zk_w w (z + 15) (z + 2) v x) := fun y h1 h2 => zk_wn (by omega) (by omega)
section ZQ
variable {z : Nat} {w : zc_H} {D : zy_D} {S : zm_S} {E f g f' g' fb : Nat → Nat} {N M N' M' nb need margin run : Nat}
/-- a revision's places, as the class asks for them -/
theorem zx_place (hz : w.2.2 < z) (B : zx_d1 z w f g N M S (fun _ x => x = S.2.1 7 0)) (hc : zx_co S N) (hrun : S.2.1 7 0 = nI run) (hr1 : 1 ≤ run) (hr9 : run ≤ 9) {b k : Nat} (hb : b < N) (hk : k < b) (e : S.2.1 1 b = nI k) : zk_pl w (f b) (zr_co S b) := by
  have B : zx_doc z w f g N M (S.2.1 1) (S.2.1 2) (S.2.2 3) (S.2.1 6) (fun _ x => x = S.2.1 7 0) := B
  refine ⟨zx_rev_is B hb, fun i hi => ?_⟩
  have hN := B.1
  obtain ⟨o, rf, fo, c1, c2, c3, c4, c5⟩ := B.2.2.1 b hb
  rcases c5 with ⟨d1, -⟩ | ⟨d1, d2, d3, d4⟩
  · rw [e] at d1
    exact absurd d1 (za_ne _ (by omega))
  have ek : zx_k (S.2.1 1) b = k := zx_k_of e (by omega)
  rw [ek] at d1 d2 d3
  obtain ⟨b1, b2, num, rf', fo', n, np, p, e1, e2, e3, e4, e5⟩ := o
  rw [c1] at e1
  simp only [Option.some.injEq, Sum.inr.injEq, Prod.mk.injEq, List.cons.injEq, Value.int.injEq, and_true, true_and] at e1
  obtain ⟨-, e7, e8⟩ := e1
  subst d3
  cases fo' with
  | none => simp [va_rf] at e7
  | some b0 =>
    simp only [va_rf, Value.ref.injEq] at e7
    subst e7
    obtain ⟨g0, g1, g2, g3, g4, g5⟩ := e5
    -- its counts are the reference's
    have ok := (B.2.2.1 k (by omega)).2
    obtain ⟨rfk, fok, k1, k2, k3, k4, -⟩ := ok
    rw [g4] at k2
    simp only [Option.some.injEq, Sum.inl.injEq, Prod.mk.injEq, and_true, true_and] at k2
    rw [c2] at e2
    simp only [Option.some.injEq, Sum.inl.injEq, Prod.mk.injEq, and_true, true_and] at e2
    have rfe : rf' = nI run := by rw [← e8, d4, hrun]
    rcases g5 with q | ⟨run', q1, q2, q3, q4⟩
    · rw [rfe] at q
      exact absurd q (nI_ne0 (by omega) (by omega))
    · have er : run' = run := (za_eq (by omega) (by omega)).mp (q1.symm.trans rfe)
      subst er
      have pm : zp_match (zx_l w (f k)) (zx_l w (f b)) np n run' = zp_match (zr_ln S k) (zr_ln S b) (zx_n (S.2.1 2) k) (zx_n (S.2.1 2) b) run' := by
        rw [k2, ← e2]
        exact zp_match_fg (fun j hj => (k4 j hj).1) (fun j hj => (c4 j hj).1)
      have co : zr_co S b i = (zp_match (zr_ln S k) (zr_ln S b) (zx_n (S.2.1 2) k) (zx_n (S.2.1 2) b) run').1 i := by
        have := hc b hb k hk e i hi
        rw [hrun, nI_clamp (by omega)] at this
        exact this
      unfold zf_X4_placeOf
      rw [if_neg (zb_is c1), if_neg (nI_pos (by omega)), zb_gr (x := some (f b + 2)) c1 rfl, zo_s, zo_s, zb_len e3 (by omega), zo_s]
      by_cases y : i < np
      · rw [if_neg (nI_ge y (by omega)), zo_s, zo_s, zb_ai e3 y (by omega), zo_s, q4 i y, pm, co]
      · rw [if_pos (nI_le (show np ≤ i by omega) (by omega)), co, ((zp_match_good _ _ _ _ _) i).1 (by rw [← k2]; omega)]
/-- a step of the class, on a way -/
theorem zs_putL {u : zc_H} {Du : zy_D} {Eu fbu : Nat → Nat} {nbu : Nat} (R : zx_RR z u Du S (fun _ x => x = S.2.1 7 0) Eu f g f' g' fbu N M N' M' nbu) (hc : zx_co S N) (hrun : S.2.1 7 0 = nI run) (hr1 : 1 ≤ run) (hr9 : run ≤ 9) (H : zx_rl S need margin) {kind a r p q t m : Nat} {l : List Nat} (W : zq_wy (S.2.1 1) N r t l) (hp : p ≤ q) (hq : q < zx_n (S.2.1 2) r) (hk : kind < 7) (ha : a ≤ 9) (hg1 : z + 60 ≤ g m) (hg : ∃ vs, u.1 (g m) = some (.inr (3, vs)) ∧ vs[2]? = some (.int (nI a))) (al : zk_al u (z + 16) (Eu 16) l.length (fun i => f (l.getD i 0))) : ∀ (j k fu : Nat) (v : Nat → Int32) (x : Nat → Int64), k + j = l.length - 1 → j < fu → zk_T (fun r => zx_l u (f r)) (zx_n (S.2.1 2)) v x (zx_T S need margin kind a r p q l k) → ∃ v2 x2, zf_X8_putOn_L36 (z + 15) (some (g m)) (nI kind) fu (zk_w u (z + 15) (z + 2) v x) (some (f (l.getD (l.length - 1 - k) 0))) (nI j + (-1)) = some (zk_w u (z + 15) (z + 2) v2 x2) ∧ zk_T (fun r => zx_l u (f r)) (zx_n (S.2.1 2)) v2 x2 (zx_T S need margin kind a r p q l (l.length - 1)) ∧ (1 ≤ j → zk_ctx (fun r => zx_l u (f r)) (zx_n (S.2.1 2)) v2 x2 (zx_T S need margin kind a r p q l (l.length - 2))) := by
  obtain ⟨w1, w2, w3, w4, w5, w6⟩ := id W
  obtain ⟨A, ⟨hz, hsz, hE, -⟩, doc, -, ds, -⟩ := id R
  have doc : zx_doc z u f g N M (S.2.1 1) (S.2.1 2) (S.2.2 3) (S.2.1 6) (fun _ x => x = S.2.1 7 0) := doc
  intro j
  induction j with
  | zero =>
    intro k fu v x e1 e2 e3
    obtain ⟨fl, rfl⟩ : ∃ fl, fu = fl + 1 := ⟨fu - 1, by omega⟩
    refine ⟨v, x, ?_, by rw [show l.length - 1 = k by omega]; exact e3, fun h => absurd h (by decide)⟩
    unfold zf_X8_putOn_L36
    rw [if_pos (by decide)]
  | succ j ih =>
    intro k fu v x e1 e2 e3
    obtain ⟨fl, rfl⟩ : ∃ fl, fu = fl + 1 := ⟨fu - 1, by omega⟩
    have hb := w5 (l.length - 2 - k) (by omega)
    have ho := w5 (l.length - 1 - k) (by omega)
    obtain ⟨f1, f2⟩ := w6 (l.length - 2 - k) (by omega)
    obtain ⟨i1, i2, i3⟩ := zx_T_ok (need := need) (margin := margin) (kind := kind) (a := a) hc W hp hq k (by omega)
    have kpw := fun v x => zx_w_kp z u v x
    have docw := fun v x => zx_doc_t (kpw v x) doc
    have lw : ∀ v x b, b < N → zx_l (zk_w u (z + 15) (z + 2) v x) (f b) = zx_l u (f b) := fun v x b hb => by
      obtain ⟨o, rf, fo, c1, c2, -⟩ := doc.2.2.1 b hb
      exact zx_kp_l (kpw v x) o.1 o.2.1 c2
    have RV : ∀ b, b < N → ∀ v x, zk_rv (zk_w u (z + 15) (z + 2) v x) (f b) (f b + 1) (zx_n (S.2.1 2) b) (zx_l u (f b)) := fun b hb v x => by
      have := zx_rv (docw v x) (show (zk_w u (z + 15) (z + 2) v x).2.2 < z from hz) hb
      rwa [lw v x b hb] at this
    have env : zk_env u (z + 15) (z + 2) (g m) a need margin := ⟨by omega, ⟨by omega, by omega⟩, ⟨by omega, by omega⟩, hg, ⟨_, A 2 (by decide) rfl, by rw [← H.1, ← ds.2.2.2.1]; rfl, by rw [← H.2.1, ← ds.2.2.2.2.1]; rfl⟩, ha, H.2.2.1, H.2.2.2⟩
    obtain ⟨v2, x2, s1, s2, s3⟩ := zk_step (h := u) (W := z + 15) (R0 := z + 2) (rm := g m) (kind := kind) (on := f (l.getD (l.length - 1 - k) 0)) (lo := f (l.getD (l.length - 1 - k) 0) + 1) (b := f (l.getD (l.length - 2 - k) 0)) (lb := f (l.getD (l.length - 2 - k) 0) + 1) (bi := l.getD (l.length - 2 - k) 0) (ln := fun r => zx_l u (f r)) (cnt := zx_n (S.2.1 2)) (co := zr_co S) (v := v) (x := x) (T := zx_T S need margin kind a r p q l k) env (fun r => zx_n24 _ _) (fun hne v x => by
      rw [i3 hne]
      exact RV _ ho v x) (RV _ hb) (fun v x => zx_place (show (zk_w u (z + 15) (z + 2) v x).2.2 < z from hz) (docw v x) hc hrun hr1 hr9 hb (by rw [show l.length - 2 - k + 1 = l.length - 1 - k by omega] at f1; exact f1) (by rw [show l.length - 2 - k + 1 = l.length - 1 - k by omega] at f2; exact f2)) (zx_pl hc hb f1 f2) hk i1 e3
    have cong : zq_step (fun r => zx_l u (f r)) (zx_n (S.2.1 2)) (zr_co S) need margin kind a (l.getD (l.length - 2 - k) 0) (zx_T S need margin kind a r p q l k) = zx_T S need margin kind a r p q l (k + 1) := by
      rw [zx_T1]
      exact zq_step_c (fun i hi => ((zx_C doc i2).2 i hi).1) (fun i hi => ((zx_C doc hb).2 i hi).1) rfl
    rw [cong] at s2
    have is4 : zf_is (zk_w u (z + 15) (z + 2) v x) (f (l.getD (l.length - 2 - k) 0)) 4 = true := zx_rev_is (docw v x) hb
    have al2 : zk_al (zk_w u (z + 15) (z + 2) v x) (z + 16) (Eu 16) l.length (fun i => f (l.getD i 0)) := zk_al_same al (zk_wn (by omega) (by omega)) (fun hne => by
      have := ((hE 16 rfl).1.resolve_left hne).1
      exact zk_wn (by omega) (by omega)) rfl
    have get := zk_al_get al2 (i := j) (by omega)
    rw [show j = l.length - 2 - k by omega] at get
    obtain ⟨v3, x3, g1, g2, g3⟩ := ih (k + 1) fl v2 x2 (by omega) (by omega) s2
    refine ⟨v3, x3, ?_, g2, fun _ => ?_⟩
    · rw [za_pm]
      unfold zf_X8_putOn_L36
      rw [if_neg (nI_pos (by omega)), zb_gr (x := some (z + 15 + 1)) zk_w0 rfl, zo_s, zo_s, show z + 15 + 1 = z + 16 from rfl, show j = l.length - 2 - k by omega, get, zo_s, if_neg (show ¬ ¬ zf_cc _ (some (f (l.getD (l.length - 2 - k) 0))) 4 = true from not_not_intro is4), s1, zo_s, show l.length - 2 - k = l.length - 1 - (k + 1) by omega, show nI (l.length - 1 - (k + 1)) + (-1) = nI j + (-1) by congr 2; omega]
      exact g1
    · by_cases y : 1 ≤ j
      · exact g3 y
      · have j0 : j = 0 := by omega
        subst j0
        -- the last step's context stays
        obtain ⟨fm, rfl⟩ : ∃ fm, fl = fm + 1 := ⟨fl - 1, by omega⟩
        unfold zf_X8_putOn_L36 at g1
        rw [if_pos (by decide)] at g1
        have e5 := Option.some.inj g1
        have c0 := congrArg (fun w : zc_H => w.1 (z + 15)) e5
        have c1 := congrArg (fun w : zc_H => w.1 (z + 15 + 2)) e5
        rw [zk_w0, zk_w0] at c0
        rw [zk_wx, zk_wx] at c1
        simp only [Option.some.injEq, Sum.inr.injEq, Sum.inl.injEq, Prod.mk.injEq, List.cons.injEq, Value.int.injEq, and_true, true_and] at c0 c1
        subst c1
        rw [show l.length - 2 = k by omega]
        exact ⟨by rw [← c0.2.2.1]; exact s3.1, s3.2⟩
/-- what is told of a remark -/
def zx_rm (S : zm_S) (w : zc_H) (f g : Nat → Nat) (N m kind a r p q : Nat) (an : Int32) : Prop := kind < 7 ∧ a ≤ 9 ∧ r < N ∧ p ≤ q ∧ q < zx_n (S.2.1 2) r ∧ S.2.1 6 m = nI kind ∧ S.2.1 6 (16 + m) = nI a ∧ S.2.1 6 (32 + m) = nI r ∧ S.2.1 6 (48 + m) = nI p ∧ S.2.1 6 (64 + m) = nI q ∧ S.2.1 6 (80 + m) = an ∧ w.1 (g m) = some (.inr (3, [.int (nI m), .int (nI kind), .int (nI a), .ref (f r), .int (nI (32 * p + q)), .int an]))
theorem zx_rm_of {rdy : Nat → Int32 → Prop} (B : zx_d1 z w f g N M S rdy) {m : Nat} (hm : m < M) : ∃ kind a r p q an, zx_rm S w f g N m kind a r p q an ∧ z + 60 ≤ g m ∧ g m < w.2.1 := by
  obtain ⟨b1, b2, kind, a, r, p, q, an, c1, c2, c3, c4, c5, c6, c7, c8, c9, c10, c11, c12, c13⟩ := B.2.2.2 m hm
  exact ⟨kind, a, r, p, q, an, ⟨c1, c2, c3, c4, c5, c6, c7, c8, c9, c10, c11, c13⟩, b1, b2⟩
theorem za_len2 (n : Nat) : nI (n + 1) - 2 = nI n + (-1) := by
  rw [nI_succ, Int32.sub_eq_add_neg, Int32.add_assoc]
  rfl
/-- the class puts a remark, as one of a kind -/
theorem zs_putOnW (R : zx_RR z w D S (fun _ x => x = S.2.1 7 0) E f g f' g' fb N M N' M' nb) (hc : zx_co S N) (hrun : S.2.1 7 0 = nI run) (hr1 : 1 ≤ run) (hr9 : run ≤ 9) (H : zx_rl S need margin) {kind0 kind a r p q m t : Nat} {an : Int32} (Q : zx_rm S w f g N m kind0 a r p q an) (hm : m < M) (hk : kind < 7) (ht : t < N) : ∃ (w2 : zc_H) (D2 : zy_D) (e2 nb2 : Nat) (fb2 : Nat → Nat) (b : Int32), zf_X8_putOn w (z + 15) (some (g m)) (nI kind) (some (f t)) = some (w2, b) ∧ zx_RR z w2 D2 S (fun _ x => x = S.2.1 7 0) (va_up E 16 e2) f g f' g' fb2 N M N' M' nb2 ∧ zx_blk z w w2 ∧ zx_eqW D D2 ∧ zx_kp z w w2 ∧ ((zq_way (S.2.1 1) r 17 t = none ∧ b = 0) ∨ ∃ l, zq_way (S.2.1 1) r 17 t = some l ∧ b = 1 ∧ D2.1 15 2 = zq_sp (zx_T S need margin kind a r p q l (l.length - 1)).1 ∧ D2.1 15 3 = nI (zx_T S need margin kind a r p q l (l.length - 1)).2.1 ∧ (2 ≤ l.length → zk_ctx (fun r => zx_l w (f r)) (zx_n (S.2.1 2)) (D2.1 15) (D2.2.2 17) (zx_T S need margin kind a r p q l (l.length - 2)))) := by
  obtain ⟨A, ⟨hz, hsz, hE, v4, v5, v6, v7, v8⟩, doc, r4, r5, r6⟩ := id R
  have doc : zx_doc z w f g N M (S.2.1 1) (S.2.1 2) (S.2.2 3) (S.2.1 6) (fun _ x => x = S.2.1 7 0) := doc
  obtain ⟨q1, q2, q3, q4, q5, q6, q7, q8, q9, q10, q11, q12⟩ := id Q
  obtain ⟨gm1, gm2, -⟩ := doc.2.2.2 m hm
  obtain ⟨u, e2, b, l1, l2, l3⟩ := zs_lay A hz hsz hE v8 doc q3 ht
  have kp := zx_fr_kp (z := z) (k := 16) (by decide) v8 l2
  have Au := zx_fr_is hE rfl hz hsz A l2
  unfold zf_X8_putOn
  rw [if_neg (zy_is15 A), zo_s, zb_gr (x := some (f r)) q12 rfl, zo_s, l1, zo_s]
  dsimp only
  rcases l3 with ⟨l, m1, m2, m3⟩ | ⟨m1, m2, n, fn, m3⟩
  · subst m2
    have R2 := zx_RR_back R l2 m3
    have W := zq_wy_of (zx_fm doc) ht m1
    obtain ⟨w1, w2, w3, w4, w5, w6⟩ := id W
    have cu := kp.2.2 _ _ gm1 gm2 q12 (fun a h => by cases h)
    have lu : ∀ b, b < N → zx_l u (f b) = zx_l w (f b) := fun b hb => by
      obtain ⟨o, rf, fo, c1, c2, -⟩ := doc.2.2.1 b hb
      exact zx_kp_l kp o.1 o.2.1 c2
    rw [if_neg (by decide)]
    unfold zf_X8_begin
    have A2 := zy_is_h z (zy_I (zy_I D 15 2 (nI (32 * p + q))) 15 3 0) u
    rw [if_neg (zy_is15 Au), zo_s, zb_gi cu rfl, zo_s, zy_p15_2 Au, zo_s, zy_p15_3 (zy_is_h _ _ _), zo_s, zo_s, zy_hh]
    have ew : zy_h z (zy_I (zy_I D 15 2 (nI (32 * p + q))) 15 3 0) u = zk_w u (z + 15) (z + 2) (va_up (va_up (D.1 15) 2 (nI (32 * p + q))) 3 0) (D.2.2 17) := by
      rw [zy_w_e Au]
      congr 1
      unfold zy_W zy_I
      dsimp only
      rw [va_up_self, zu_twice, zu_self]
    have cw : (zk_w u (z + 15) (z + 2) (va_up (va_up (D.1 15) 2 (nI (32 * p + q))) 3 0) (D.2.2 17)).1 (g m) = some (.inr (3, [.int (nI m), .int (nI kind0), .int (nI a), .ref (f r), .int (nI (32 * p + q)), .int an])) := by
      rw [zk_wn (by omega) (by omega)]
      exact cu
    have alw : zk_al (zk_w u (z + 15) (z + 2) (va_up (va_up (D.1 15) 2 (nI (32 * p + q))) 3 0) (D.2.2 17)) (z + 16) e2 l.length (fun i => f (l.getD i 0)) := zk_al_same m3 (zk_wn (by omega) (by omega)) (fun hne => by
      have h16 := (R2.2.1.2.2.1 16 rfl).1
      rw [va_up_self] at h16
      have := (h16.resolve_left hne).1
      exact zk_wn (by omega) (by omega)) rfl
    obtain ⟨v2, x2, g1, g2, g3⟩ := zs_putL (need := need) (margin := margin) (kind := kind) (a := a) (m := m) R2 hc hrun hr1 hr9 H W q4 q5 hk q2 gm1 ⟨_, cu, rfl⟩ (by rw [va_up_self]; exact m3) (l.length - 1) 0 17 (va_up (va_up (D.1 15) 2 (nI (32 * p + q))) 3 0) (D.2.2 17) (by omega) (by omega) ⟨by rw [va_up_ne _ _ (by decide), va_up_self]; rfl, by rw [va_up_self]; rfl, fun h => (by cases h)⟩
    rw [ew, zb_gr (x := some (f r)) cw rfl, zo_s, zb_gr (x := some (z + 15 + 1)) zk_w0 rfl, zo_s, zo_s, show z + 15 + 1 = z + 16 from rfl, zk_al_size alw, zo_s]
    obtain ⟨n, hn⟩ : ∃ n, l.length = n + 1 := ⟨l.length - 1, by omega⟩
    rw [hn, za_len2, show n = l.length - 1 by omega]
    rw [Nat.sub_zero, w4] at g1
    rw [g1, zo_s]
    refine ⟨_, _, e2, _, _, 1, rfl, zx_RR_w R2 (zx_eqS_refl S) v2 x2, zx_blk_trans (zx_fr_blk hE rfl hz hsz l2) (zx_w_blk z u v2 x2), zy_W_eqW D v2 x2, zx_kp_trans kp (zx_w_kp z u v2 x2), Or.inr ⟨l, m1, rfl, ?_, ?_, fun h2 => ?_⟩⟩
    · show va_up D.1 15 v2 15 2 = _
      rw [va_up_self]
      exact g2.1
    · show va_up D.1 15 v2 15 3 = _
      rw [va_up_self]
      exact g2.2.1
    · have g4 := g3 (by omega)
      obtain ⟨i1, i2, -⟩ := zx_T_ok (need := need) (margin := margin) (kind := kind) (a := a) hc W q4 q5 (l.length - 2) (by omega)
      rw [zy_W15, zy_W17]
      refine ⟨g4.1, fun k hk => ?_⟩
      rw [g4.2 k hk]
      show zq_at (zx_l u (f _)) _ _ = zq_at (zx_l w (f _)) _ _
      rw [lu _ i2]
  · subst m2
    rw [if_pos rfl]
    exact ⟨u, D, e2, n, fn, 0, rfl, zx_RR_back R l2 m3, zx_fr_blk hE rfl hz hsz l2, zx_eqW_refl D, kp, Or.inl ⟨m1, rfl⟩⟩
theorem zs_putOn (R : zx_RR z w D S (fun _ x => x = S.2.1 7 0) E f g f' g' fb N M N' M' nb) (hc : zx_co S N) (hrun : S.2.1 7 0 = nI run) (hr1 : 1 ≤ run) (hr9 : run ≤ 9) (H : zx_rl S need margin) {kind0 kind a r p q m t : Nat} {an : Int32} (Q : zx_rm S w f g N m kind0 a r p q an) (hm : m < M) (hk : kind < 7) (ht : t < N) : ∃ (w2 : zc_H) (D2 : zy_D) (e2 nb2 : Nat) (fb2 : Nat → Nat) (b : Int32), zf_X8_putOn w (z + 15) (some (g m)) (nI kind) (some (f t)) = some (w2, b) ∧ zx_RR z w2 D2 S (fun _ x => x = S.2.1 7 0) (va_up E 16 e2) f g f' g' fb2 N M N' M' nb2 ∧ zx_blk z w w2 ∧ zx_eqD D D2 ∧ zx_kp z w w2 ∧ ((zq_way (S.2.1 1) r 17 t = none ∧ b = 0) ∨ ∃ l, zq_way (S.2.1 1) r 17 t = some l ∧ b = 1 ∧ D2.1 15 2 = zq_sp (zx_T S need margin kind a r p q l (l.length - 1)).1 ∧ D2.1 15 3 = nI (zx_T S need margin kind a r p q l (l.length - 1)).2.1 ∧ (2 ≤ l.length → zk_ctx (fun r => zx_l w (f r)) (zx_n (S.2.1 2)) (D2.1 15) (D2.2.2 17) (zx_T S need margin kind a r p q l (l.length - 2)))) := by
  obtain ⟨w2, D2, e2, nb2, fb2, b, a1, a2, a3, a4, a5⟩ := zs_putOnW R hc hrun hr1 hr9 H Q hm hk ht
  exact ⟨w2, D2, e2, nb2, fb2, b, a1, a2, a3, zx_eqW_D a4, a5⟩
end ZQ
