/-! a step of a remark: the class's -/
/-- the class's context is that of a remark's last span -/
def zk_ctx (ln : Nat → Nat → Int64) (cnt : Nat → Nat) (v : Nat → Int32) (x : Nat → Int64) (T : zq_T) : Prop := v 5 = nI (T.2.2.2.2 + 1 - T.2.2.2.1) ∧ ∀ k, k < T.2.2.2.2 + 1 - T.2.2.2.1 + 2 → x k = zq_at (ln T.2.2.1) (cnt T.2.2.1) (T.2.2.2.1 + k)
def zk_T (ln : Nat → Nat → Int64) (cnt : Nat → Nat) (v : Nat → Int32) (x : Nat → Int64) (T : zq_T) : Prop := v 2 = zq_sp T.1 ∧ v 3 = nI T.2.1 ∧ (T.1 = none → zk_ctx ln cnt v x T)
theorem zk_keepL {h : zc_H} {W R0 a la n p size : Nat} {v : Nat → Int32} {f : Nat → Int64} (RA : ∀ x, zk_rv (zk_w h W R0 v x) a la n f) (hz : h.2.2 < W) (hn : n ≤ 24) (hp : p ≤ 24) (h5 : v 5 = nI size) (hz2 : size ≤ 24) : ∀ (r fu k : Nat) (x : Nat → Int64), k + r = size + 2 → r < fu → (∀ i, i < k → x i = zq_at f n (p + i)) → ∃ x2, zf_X8_keepContext_L23 W (some a) (nI p - 1) fu (zk_w h W R0 v x) (nI k) = some (zk_w h W R0 v x2) ∧ ∀ i, i < size + 2 → x2 i = zq_at f n (p + i) := by
  intro r
  induction r with
  | zero =>
    intro fu k x h1 h2 h3
    obtain ⟨fl, rfl⟩ : ∃ fl, fu = fl + 1 := ⟨fu - 1, by omega⟩
    refine ⟨x, ?_, fun i hi => h3 i (by omega)⟩
    unfold zf_X8_keepContext_L23
    rw [zk_wg (by decide), zo_s, h5, show nI size + 2 = nI (size + 2) from za_add _ 2, if_pos (nI_le (by omega) (by omega))]
  | succ r ih =>
    intro fu k x h1 h2 h3
    obtain ⟨fl, rfl⟩ : ∃ fl, fu = fl + 1 := ⟨fu - 1, by omega⟩
    unfold zf_X8_keepContext_L23
    rw [zk_wg (by decide), zo_s, h5, show nI size + 2 = nI (size + 2) from za_add _ 2, if_neg (nI_ge (by omega) (by omega)), zb_gr (x := some (W + 2)) zk_w0 rfl, zo_s, zo_s, zb_len zk_wx (by show W + 2 ≠ h.2.2; omega), zo_s, if_neg (nI_ge (show k < 26 by omega) (show (26 : Nat) < 2 ^ 31 by decide)), zo_s, zo_s, zk_lineS (RA _) (by omega) (by omega) (by omega), zo_s, zo_s, zb_sj zk_wx (by omega) (by decide), zo_s, zk_wux, ← nI_succ]
    exact ih fl (k + 1) _ (by omega) (by omega) (fun i hi => by
      by_cases c : i = k
      · subst c
        rw [va_up_self]
      · rw [va_up_ne _ _ c]
        exact h3 i (by omega))
theorem zk_keep {h : zc_H} {W R0 a la n p q : Nat} {v : Nat → Int32} {x : Nat → Int64} {f : Nat → Int64} (RA : ∀ v x, zk_rv (zk_w h W R0 v x) a la n f) (hz : h.2.2 < W) (hn : n ≤ 24) (hp : p ≤ q) (hq : q < 24) (h2 : v 2 = nI (32 * p + q)) : ∃ x2, zf_X8_keepContext (zk_w h W R0 v x) W (some a) = some (zk_w h W R0 (va_up v 5 (nI (q + 1 - p))) x2) ∧ ∀ i, i < q + 1 - p + 2 → x2 i = zq_at f n (p + i) := by
  obtain ⟨x2, e1, e2⟩ := zk_keepL (h := h) (W := W) (R0 := R0) (a := a) (la := la) (n := n) (p := p) (size := q + 1 - p) (v := va_up v 5 (nI (q + 1 - p))) (f := f) (fun x => RA _ x) hz hn (by omega) (va_up_self _ _ _) (by omega) (q + 1 - p + 2) 2000 0 x (by omega) (by omega) (fun i hi => by omega)
  refine ⟨x2, ?_, e2⟩
  unfold zf_X8_keepContext
  rw [if_neg (zb_is zk_w0), zk_wg (by decide), zo_s, h2, zs_len hp (by omega), zo_s, show q - p + 1 = q + 1 - p by omega, zk_wp (by decide), zo_s, zk_wg (by decide), zo_s, va_up_ne _ _ (by decide), h2, zs_first (by omega) (by omega), zo_s, show (0 : Int32) = nI 0 by decide, e1, zo_s]
/-- what a step asks of the world: the remark, the rules, the lines of both revisions, the places -/
def zk_env (h : zc_H) (W R0 rm a need margin : Nat) : Prop := h.2.2 < W ∧ (R0 ≠ W ∧ R0 ≠ W + 2) ∧ (rm ≠ W ∧ rm ≠ W + 2) ∧ (∃ vs, h.1 rm = some (.inr (3, vs)) ∧ vs[2]? = some (.int (nI a))) ∧ (∃ vs, h.1 R0 = some (.inr (6, vs)) ∧ vs[4]? = some (.int (nI need)) ∧ vs[5]? = some (.int (nI margin))) ∧ a ≤ 9 ∧ need ≤ 99 ∧ margin ≤ 20
theorem zk_step {h : zc_H} {W R0 rm a need margin kind on lo b lb bi : Nat} {ln : Nat → Nat → Int64} {cnt : Nat → Nat} {co : Nat → Nat → Int32} {v : Nat → Int32} {x : Nat → Int64} {T : zq_T} (E : zk_env h W R0 rm a need margin) (hc : ∀ r, cnt r ≤ 24) (RA : T.1 ≠ none → ∀ v x, zk_rv (zk_w h W R0 v x) on lo (cnt T.2.2.1) (ln T.2.2.1)) (RB : ∀ v x, zk_rv (zk_w h W R0 v x) b lb (cnt bi) (ln bi)) (PB : ∀ v x, zk_pl (zk_w h W R0 v x) b (co bi)) (hco : zq_pl (cnt bi) (co bi)) (hk : kind < 7) (hT : zq_Tok cnt T) (hv : zk_T ln cnt v x T) : ∃ v2 x2, zf_X8_step (zk_w h W R0 v x) W (some rm) (nI kind) (some on) (some b) = some (zk_w h W R0 v2 x2) ∧ zk_T ln cnt v2 x2 (zq_step ln cnt co need margin kind a bi T) ∧ zk_ctx ln cnt v2 x2 T := by
  obtain ⟨hz, hR, hrm, ⟨vr, er1, er2⟩, ⟨vs, es1, es2, es3⟩, ha, hnd, hmg⟩ := E
  obtain ⟨sp, how, la, lp, lq⟩ := T
  obtain ⟨h1, h2, h3⟩ := hT
  obtain ⟨g1, g2, g3⟩ := hv
  dsimp only at h1 h2 h3 g1 g2 g3 RA
  have cla := hc la
  have cb := hc bi
  -- where it is looked for
  have look : ∀ (v1 : Nat → Int32) (x1 : Nat → Int64), v1 2 = -1 → zk_ctx ln cnt v1 x1 (sp, how, la, lp, lq) → ∃ v2 x2, ((some (-1 : Int32)).bind fun v4 => if v4 = (-1) then (zf_X8_weigh (zk_w h W R0 v1 x1) W (some b)).bind fun r7 => (zf_X8_keepsMargin r7 W).bind fun r8 => if r8 = 0 then (zf_p r7 W 8 3 (.int (3))).bind fun h10 => some h10 else (zf_gi r7 W 8 6).bind fun v11 => (zf_gr r7 W 8 0).bind fun v13 => v13.bind fun a15 => (zf_gi r7 a15 6 4).bind fun v16 => if v11 < v16 then (zf_p r7 W 8 3 (.int (3))).bind fun h10 => some h10 else (zf_gi r7 W 8 7).bind fun v19 => (zf_gi r7 W 8 7).bind fun v21 => (zf_gi r7 W 8 5).bind fun v23 => (zf_X9_spanOf r7 v19 ((v21 + v23) - 1)).bind fun r25 => (zf_p r7 W 8 2 (.int (r25))).bind fun h26 => (zf_p h26 W 8 3 (.int (2))).bind fun h27 => some h27 else (zf_p (zk_w h W R0 v1 x1) W 8 3 (.int (1))).bind fun h28 => some h28) = some (zk_w h W R0 v2 x2) ∧ zk_T ln cnt v2 x2 (zq_lost need margin bi (sp, how, la, lp, lq) (zq_best ln cnt bi (sp, how, la, lp, lq))) ∧ zk_ctx ln cnt v2 x2 (sp, how, la, lp, lq) := by
    intro v1 x1 k1 k2
    obtain ⟨c1, c2⟩ := k2
    dsimp only at c1 c2
    obtain ⟨v2, f1, f2, f3, f4, f5, f6, f7⟩ := zk_weigh (v := v1) (x := x1) (m := cnt bi) (size := lq + 1 - lp) RB hz cb (by omega) (by omega) c1
    have esc : (fun s => zq_scs x1 (fun k => zq_at (ln bi) (cnt bi) (s + k)) (lq + 1 - lp) (lq + 1 - lp + 2)) = zq_sc (ln la) (cnt la) (ln bi) (cnt bi) lp (lq + 1 - lp) := by
      funext s
      exact zq_scs_c _ (fun i hi => ⟨c2 i hi, rfl⟩)
    rw [esc] at f5 f6 f7
    have hle := zq_w_le (k := cnt bi + 1 - (lq + 1 - lp)) (N := 3 * 26) (sc := zq_sc (ln la) (cnt la) (ln bi) (cnt bi) lp (lq + 1 - lp)) (fun s => Nat.le_trans (zq_sc_le _ _ _ _ _ _ _) (by omega))
    rw [zo_s, if_pos rfl, f1, zo_s]
    unfold zq_best
    dsimp only
    have ctx2 : ∀ w : Nat → Int32, w 5 = nI (lq + 1 - lp) → zk_ctx ln cnt w x1 (sp, how, la, lp, lq) := fun w hw => ⟨hw, c2⟩
    have lost : ∃ v3 x3, ((zf_p (zk_w h W R0 v2 x1) W 8 3 (.int (3))).bind fun h10 => some h10) = some (zk_w h W R0 v3 x3) ∧ zk_T ln cnt v3 x3 (none, 3, la, lp, lq) ∧ zk_ctx ln cnt v3 x3 (sp, how, la, lp, lq) := by
      rw [zk_wp (by decide), zo_s]
      have c5 : va_up v2 3 3 5 = nI (lq + 1 - lp) := by rw [va_up_ne _ _ (by decide), f4]
      refine ⟨_, _, rfl, ⟨?_, ?_, fun _ => ⟨c5, c2⟩⟩, ctx2 _ c5⟩
      · rw [va_up_ne _ _ (by decide), f2, k1]; rfl
      · rw [va_up_self]; rfl
    obtain ⟨fl, m1, m2⟩ := zk_keeps (h := h) (W := W) (R0 := R0) (v := v2) (x := x1) (o := zq_w (zq_sc (ln la) (cnt la) (ln bi) (cnt bi) lp (lq + 1 - lp)) (cnt bi + 1 - (lq + 1 - lp))) hR es1 es3 hmg f5 f6 f7 (by
      revert hle
      cases zq_w (zq_sc (ln la) (cnt la) (ln bi) (cnt bi) lp (lq + 1 - lp)) (cnt bi + 1 - (lq + 1 - lp)) with
      | none => intro _; trivial
      | some y =>
        intro hle
        obtain ⟨l1, l2, l3⟩ := hle
        exact ⟨by omega, by omega, fun r hr => ⟨by have := (l3 r hr).1; omega, (l3 r hr).2⟩⟩)
    rw [m1, zo_s, zk_wg (by decide), zo_s, f5]
    revert hle m2 f5 f6
    cases zq_w (zq_sc (ln la) (cnt la) (ln bi) (cnt bi) lp (lq + 1 - lp)) (cnt bi + 1 - (lq + 1 - lp)) with
    | none =>
      intro f5 f6 hle m2
      have e0 : fl = 0 := by
        rcases m2 with ⟨e, _⟩ | ⟨_, e⟩
        · exact e
        · exact e.elim
      rw [if_pos e0]
      exact lost
    | some y =>
      intro f5 f6 hle m2
      obtain ⟨l1, l2, l3⟩ := hle
      unfold zq_lost
      dsimp only
      rcases m2 with ⟨e, e2⟩ | ⟨e, e2⟩
      · rw [if_pos e, if_neg (fun z => e2 ((zq_cl_iff _ _).mp z.1))]
        exact lost
      rw [if_neg (by rw [e]; decide), zb_gr (x := some R0) zk_w0 rfl, zo_s, zo_s, zb_gi (h := zk_w h W R0 v2 x1) (by rw [zk_wn hR.1 hR.2]; exact es1) es2, zo_s]
      by_cases c3 : need ≤ y.2.1
      · rw [if_neg (show ¬ zq_w2 (some y) < nI need from nI_nlt c3 (by omega)), if_pos ⟨(zq_cl_iff _ _).mpr e2, c3⟩, zk_wg (by decide), zo_s, zo_s, zk_wg (by decide), zo_s, f6, f4]
        rw [show zq_w1 (some y) = nI y.1 from rfl, za_add, show nI (y.1 + (lq + 1 - lp)) - 1 = nI (y.1 + (lq + 1 - lp) - 1) from za_sub (show 1 ≤ y.1 + (lq + 1 - lp) by omega), zs_span, zo_s, zk_wp (by decide), zo_s, zk_wp (by decide), zo_s, show y.1 + (lq + 1 - lp) - 1 = y.1 + lq - lp by omega]
        refine ⟨_, _, rfl, ⟨?_, ?_, fun z => (by cases z)⟩, ctx2 _ ?_⟩
        · rw [va_up_ne _ _ (by decide), va_up_self]
          rfl
        · rw [va_up_self]; rfl
        · rw [va_up_ne _ _ (by decide), va_up_ne _ _ (by decide), f4]
      · rw [if_pos (show zq_w2 (some y) < nI need from nI_lt (by omega) (by omega)), if_neg (fun z => c3 z.2)]
        exact lost
  unfold zf_X8_step
  dsimp only
  rw [if_neg (zb_is zk_w0), zk_wg (by decide), zo_s, g1]
  unfold zq_step zq_goT
  cases sp with
  | none =>
    dsimp only
    rw [if_pos (show zq_sp none = -1 from rfl)]
    exact look v x g1 (g3 rfl)
  | some y =>
    dsimp only at h3 ⊢
    obtain ⟨x2, e1, e2⟩ := zk_keep (v := v) (x := x) (p := y.1) (q := y.2) (RA (by simp)) hz cla (by omega) (by omega) g1
    have e5 : va_up v 5 (nI (y.2 + 1 - y.1)) 2 = nI (32 * y.1 + y.2) := by rw [va_up_ne _ _ (by decide), g1]; rfl
    rw [if_neg (show ¬ zq_sp (some y) = -1 from za_ne _ (by omega)), e1, zo_s, zk_wg (by decide), zo_s, e5, zs_first (by omega) (by omega), zo_s, zo_s, zs_last (by omega) (by omega), zo_s, zo_s, zk_followed hk (by rw [zk_wn hrm.1 hrm.2]; exact er1) er2 (PB _ _) (RB _ _) hco ha (by omega) (by omega), zo_s, zk_wp (by decide), zo_s]
    have ctx3 : ∀ w : Nat → Int32, w 5 = nI (y.2 + 1 - y.1) → zk_ctx ln cnt w x2 (some y, how, la, lp, lq) := fun w hw => by
      obtain ⟨-, i1, i2⟩ := h3
      subst i1 i2
      exact ⟨hw, e2⟩
    cases hg : zq_go (co bi) (cnt bi) kind a y.1 y.2 with
    | none =>
      dsimp only
      rw [zk_wg (by decide), va_up_self]
      exact look _ x2 (va_up_self _ _ _) (ctx3 _ (by rw [va_up_ne _ _ (by decide), va_up_self]))
    | some y2 =>
      have hy := zq_gook hco (by omega) (by omega) hg
      rw [zk_wg (by decide), va_up_self, zo_s, if_neg (show ¬ zq_sp (some y2) = -1 from za_ne _ (by omega)), zk_wp (by decide), zo_s]
      refine ⟨_, _, rfl, ⟨?_, ?_, fun z => (by cases z)⟩, ctx3 _ ?_⟩
      · rw [va_up_ne _ _ (by decide), va_up_self]
      · rw [va_up_self]; rfl
      · rw [va_up_ne _ _ (by decide), va_up_ne _ _ (by decide), va_up_self]
