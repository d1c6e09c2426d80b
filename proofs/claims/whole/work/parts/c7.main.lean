/-! both at the start; all operations; what is wanted -/
def zi_D : zy_D := (fun k f => if k = 0 ∧ f = 5 then -1 else if k = 2 ∨ k = 5 then (if f = 3 then 2 else if f = 4 then 6 else if f = 5 then 1 else if f = 6 then 1 else 0) else if k = 15 then (if f = 2 then -1 else if f = 3 then 3 else if 6 ≤ f then -1 else 0) else if 22 ≤ k then (if f = 0 then -1 else 0) else 0, fun _ _ => 0, fun _ _ => 0)
theorem zi_is0 (z t k : Nat) (hk : k < 38) (hn : zy_n k = true) : (zi_C z t)[k]? = some (zy_c z k (zi_D.1 k) (zi_D.2.1 k) (zi_D.2.2 k)) := by
  match k, hk, hn with
  | 0, _, hn => rfl
  | 1, _, hn => rfl
  | 2, _, hn => rfl
  | 3, _, hn => cases hn
  | 4, _, hn => cases hn
  | 5, _, hn => rfl
  | 6, _, hn => cases hn
  | 7, _, hn => cases hn
  | 8, _, hn => rfl
  | 9, _, hn => rfl
  | 10, _, hn => rfl
  | 11, _, hn => rfl
  | 12, _, hn => rfl
  | 13, _, hn => rfl
  | 14, _, hn => rfl
  | 15, _, hn => rfl
  | 16, _, hn => cases hn
  | 17, _, hn => rfl
  | 18, _, hn => rfl
  | 19, _, hn => rfl
  | 20, _, hn => rfl
  | 21, _, hn => rfl
  | 22, _, hn => rfl
  | 23, _, hn => rfl
  | 24, _, hn => rfl
  | 25, _, hn => rfl
  | 26, _, hn => rfl
  | 27, _, hn => rfl
  | 28, _, hn => rfl
  | 29, _, hn => rfl
  | 30, _, hn => rfl
  | 31, _, hn => rfl
  | 32, _, hn => rfl
  | 33, _, hn => rfl
  | 34, _, hn => rfl
  | 35, _, hn => rfl
  | 36, _, hn => rfl
  | 37, _, hn => rfl
  | k + 38, hk, _ => omega
def zi_1h (z t : Nat) : zc_H := zi_w (fun _ => none, z, t) (zi_C z t)
def zi_2h (z t : Nat) : zc_H := zm_h (z + 38) (zi_w (zi_1h z t) (zi_E (z + 38))) zi_S
theorem zi_2at {z t k : Nat} (hk : k < 38) : (zi_2h z t).1 (z + k) = (zi_C z t)[k]? := by
  unfold zi_2h
  rw [zi_mo (by omega), zi_o (show z + k < z + 38 by omega)]
  exact zi_at (h := (fun _ => none, z, t)) hk
theorem zi_al0 {z t k : Nat} {f : Nat → Nat} (hk : k < 38) (e : (zi_C z t)[k]? = some (.inr (11, [.int 0, .ref t, .int 0]))) : zk_al (zi_2h z t) (z + k) t 0 f := ⟨0, 0, fun _ => none, (zi_2at hk).trans e, Or.inl ⟨rfl, rfl⟩, Nat.le_refl _, fun i h => by omega⟩
theorem zi_s0 : zx_s zi_S 0 0 := ⟨rfl, rfl, ⟨2, 6, 1, rfl, rfl, rfl, by decide, by decide, by decide, by decide⟩, fun r hr => by omega, ⟨0, rfl, by decide⟩, fun s hs => Or.inl (by
  match s, hs with
  | 0, _ => rfl
  | 1, _ => rfl
  | 2, _ => rfl
  | 3, _ => rfl
  | 4, _ => rfl
  | 5, _ => rfl
  | 6, _ => rfl
  | 7, _ => rfl
  | s + 8, h => omega), fun s hs => ⟨0, by decide, rfl⟩⟩
theorem zi_bits0 (T : Nat → Int32) : zx_bits 0 0 T := fun i => ⟨fun h => by omega, fun _ => by
  unfold zx_bt
  show (0 : BitVec 32).getLsbD i = false
  simp⟩
theorem zi_ds0 : zx_ds zi_D zi_S 0 := ⟨rfl, rfl, rfl, rfl, rfl, rfl, zi_bits0 _, fun i hi => rfl, rfl, fun i hi => rfl, fun s hs => by
  match s, hs with
  | 0, _ => exact ⟨rfl, rfl, fun _ _ => rfl⟩
  | 1, _ => exact ⟨rfl, rfl, fun _ _ => rfl⟩
  | 2, _ => exact ⟨rfl, rfl, fun _ _ => rfl⟩
  | 3, _ => exact ⟨rfl, rfl, fun _ _ => rfl⟩
  | 4, _ => exact ⟨rfl, rfl, fun _ _ => rfl⟩
  | 5, _ => exact ⟨rfl, rfl, fun _ _ => rfl⟩
  | 6, _ => exact ⟨rfl, rfl, fun _ _ => rfl⟩
  | 7, _ => exact ⟨rfl, rfl, fun _ _ => rfl⟩
  | s + 8, h => omega⟩
theorem zi_doc0 (z : Nat) (h : zc_H) (f g : Nat → Nat) (F C : Nat → Int32) (L : Nat → Int64) (T : Nat → Int32) (rdy : Nat → Int32 → Prop) : zx_doc z h f g 0 0 F C L T rdy := ⟨by decide, by decide, fun r hr => by omega, fun m hm => by omega⟩
theorem zi_R0 {z t : Nat} (ht : t < z) : zx_R z (zi_2h z t) zi_D zi_S 0 0 := ⟨zi_s0, fun _ => t, fun _ => 0, fun _ => 0, fun _ => 0, fun _ => 0, fun _ => 0, 0, 0, 0, fun k hk hn => (zi_2at hk).trans (zi_is0 z t k hk hn), ⟨ht, Nat.le_refl _, fun k _ => ⟨Or.inl rfl, fun l _ _ _ => rfl⟩, zi_al0 (by decide) rfl, zi_al0 (by decide) rfl, zi_al0 (by decide) rfl, zi_al0 (by decide) rfl, zi_al0 (by decide) rfl⟩, zi_doc0 _ _ _ _ _ _ _ _ _, zi_doc0 _ _ _ _ _ _ _ _ _, zi_ds0, Or.inl ⟨rfl, rfl, rfl⟩⟩
/-! the relation as the law keeps it -/
def zz_I (z : Nat) (h : zc_H) : Prop := ∃ (D : zy_D) (S : zm_S) (N M : Nat), h = zm_h (z + 38) h S ∧ zx_R z h D S N M
theorem zz_hh (q : Nat) (w : zc_H) (S S2 : zm_S) : zm_h q (zm_h q w S) S2 = zm_h q w S2 := by
  refine Prod.ext ?_ rfl
  funext a
  unfold zm_h
  dsimp only
  by_cases c : a = q
  · rw [if_pos c, if_pos c]
  · rw [if_neg c, if_neg c, if_neg c]
    by_cases c2 : q < a ∧ a < q + 22
    · rw [if_pos c2, if_pos c2]
    · rw [if_neg c2, if_neg c2, if_neg c2]
theorem zz_w2 {z : Nat} {h w : zc_H} {S : zm_S} (e : h = zm_h (z + 38) h S) (B : zx_blk z h w) : w = zm_h (z + 38) w S := by
  refine Prod.ext ?_ rfl
  funext a
  by_cases c : z + 38 ≤ a ∧ a < z + 60
  · rw [B a c.1 c.2, e]
    unfold zm_h
    dsimp only
    by_cases c1 : a = z + 38
    · rw [if_pos c1, if_pos c1]
    · rw [if_neg c1, if_neg c1, if_pos ⟨by omega, by omega⟩, if_pos ⟨by omega, by omega⟩]
  · unfold zm_h
    dsimp only
    rw [if_neg (by omega), if_neg (by omega)]
theorem zz_keep {z : Nat} {w : zc_H} {D : zy_D} {S : zm_S} {N M : Nat} (R : zx_R z w D S N M) : zx_R z (zm_h (z + 38) w S) D S N M := by
  have lo : ∀ k, k < 38 → (zm_h (z + 38) w S).1 (z + k) = w.1 (z + k) := fun k hk => zi_mo (by omega)
  have hi : ∀ y, z + 60 ≤ y → (zm_h (z + 38) w S).1 y = w.1 y := fun y hy => by
    unfold zm_h
    dsimp only
    rw [if_neg (by omega), if_neg (by omega)]
  obtain ⟨r1, E, f, g, f', g', fb, N', M', nb, r2, r3, r4, r5, r6, r7⟩ := id R
  exact zx_R_ov R rfl hi (fun k hk => lo k (zx_n38 hk)) (zy_is_t r2 (fun k hk _ => lo k hk)) r1 ⟨rfl, rfl, rfl, fun _ _ => rfl, rfl, rfl, rfl, rfl⟩ rfl r6 (fun _ _ h => h)
theorem zz_step {z : Nat} {h : zc_H} {S : zm_S} {o1 : Option (zc_H × Int32)} {o2 : Option (zm_S × Int32)} (F : zc_H → Option (zc_H × Int32)) (e : h = zm_h (z + 38) h S) (A : zx_res z h o1 o2) (hF : ∀ h0, F (zm_h (z + 38) h0 S) = o2.map (fun r => (zm_h (z + 38) h0 r.1, r.2))) : ∃ r1 r2 : zc_H × Int32, o1 = some r1 ∧ F r1.1 = some r2 ∧ r1.2 = r2.2 ∧ zz_I z r2.1 := by
  obtain ⟨w2, S2, a, D2, N2, M2, e1, e2, R2, B⟩ := A
  refine ⟨(w2, a), (zm_h (z + 38) w2 S2, a), e1, ?_, rfl, D2, S2, N2, M2, (zz_hh _ _ _ _).symm, zz_keep R2⟩
  show F w2 = _
  rw [zz_w2 e B, hF w2, e2, zz_hh]
  rfl
theorem zz_pure {α : Type} {z : Nat} {h : zc_H} {S : zm_S} {o1 o2 : Option α} (F : zc_H → Option α) (I : zz_I z h) (e : h = zm_h (z + 38) h S) (A : ∃ a, o1 = some a ∧ o2 = some a) (hF : ∀ h0, F (zm_h (z + 38) h0 S) = o2) : ∃ r1 r2 : α, o1 = some r1 ∧ F h = some r2 ∧ r1 = r2 ∧ zz_I z h := by
  obtain ⟨a, e1, e2⟩ := A
  refine ⟨a, a, e1, ?_, rfl, I⟩
  rw [e, hF h, e2]
theorem zz_op0 (z : Nat) : zl_op0 (zz_I z) z (z + 38) := fun h a0 a1 a2 I => by
  obtain ⟨D, S, N, M, e, R⟩ := id I
  exact zz_step (fun w => zf_X10_row w (z + 38) a0 a1 a2) e (ze_row R a0 a1 a2) (fun h0 => zh_X10_row (z + 38) h0 S a0 a1 a2)
theorem zz_op1 (z : Nat) : zl_op1 (zz_I z) z (z + 38) := fun h a0 a1 a2 I => by
  obtain ⟨D, S, N, M, e, R⟩ := id I
  exact zz_step (fun w => zf_X10_set w (z + 38) a0 a1 a2) e (ze_set R a0 a1 a2) (fun h0 => zh_X10_set (z + 38) h0 S a0 a1 a2)
theorem zz_op2 (z : Nat) : zl_op2 (zz_I z) z (z + 38) := fun h a0 a1 a2 a3 a4 I => by
  obtain ⟨D, S, N, M, e, R⟩ := id I
  exact zz_step (fun w => zf_X10_copy w (z + 38) a0 a1 a2 a3 a4) e (ze_copy R a0 a1 a2 a3 a4) (fun h0 => zh_X10_copy (z + 38) h0 S a0 a1 a2 a3 a4)
theorem zz_op3 (z : Nat) : zl_op3 (zz_I z) z (z + 38) := fun h a0 a1 I => by
  obtain ⟨D, S, N, M, e, R⟩ := id I
  exact zz_pure (fun w => zf_X10_element w (z + 38) a0 a1) I e (ze_element R a0 a1) (fun h0 => zh_X10_element (z + 38) h0 S a0 a1)
theorem zz_op4 (z : Nat) : zl_op4 (zz_I z) z (z + 38) := fun h a0 a1 I => by
  obtain ⟨D, S, N, M, e, R⟩ := id I
  exact zz_step (fun w => zf_X10_show w (z + 38) a0 a1) e (ze_show R a0 a1) (fun h0 => zh_X10_show (z + 38) h0 S a0 a1)
theorem zz_op5 (z : Nat) : zl_op5 (zz_I z) z (z + 38) := fun h a0 I => by
  obtain ⟨D, S, N, M, e, R⟩ := id I
  exact zz_pure (fun w => zf_X10_holds w (z + 38) a0) I e (ze_holds R a0) (fun h0 => zh_X10_holds (z + 38) h0 S a0)
theorem zz_op6 (z : Nat) : zl_op6 (zz_I z) z (z + 38) := fun h a0 a1 I => by
  obtain ⟨D, S, N, M, e, R⟩ := id I
  exact zz_step (fun w => zf_X10_says w (z + 38) a0 a1) e (ze_says R a0 a1) (fun h0 => zh_X10_says (z + 38) h0 S a0 a1)
theorem zz_op7 (z : Nat) : zl_op7 (zz_I z) z (z + 38) := fun h a0 a1 I => by
  obtain ⟨D, S, N, M, e, R⟩ := id I
  exact zz_step (fun w => zf_X10_revise w (z + 38) a0 a1) e (ze_revise R a0 a1) (fun h0 => zh_X10_revise (z + 38) h0 S a0 a1)
theorem zz_op8 (z : Nat) : zl_op8 (zz_I z) z (z + 38) := fun h I => by
  obtain ⟨D, S, N, M, e, R⟩ := id I
  exact zz_pure (fun w => zf_X10_fault w (z + 38)) I e (ze_fault R) (fun h0 => zh_X10_fault (z + 38) h0 S)
theorem zz_op9 (z : Nat) : zl_op9 (zz_I z) z (z + 38) := fun h a0 I => by
  obtain ⟨D, S, N, M, e, R⟩ := id I
  exact zz_step (fun w => zf_X10_lines w (z + 38) a0) e (ze_lines R a0) (fun h0 => zh_X10_lines (z + 38) h0 S a0)
theorem zz_op10 (z : Nat) : zl_op10 (zz_I z) z (z + 38) := fun h a0 a1 a2 I => by
  obtain ⟨D, S, N, M, e, R⟩ := id I
  exact zz_step (fun w => zf_X10_letter w (z + 38) a0 a1 a2) e (ze_letter R a0 a1 a2) (fun h0 => zh_X10_letter (z + 38) h0 S a0 a1 a2)
theorem zz_op11 (z : Nat) : zl_op11 (zz_I z) z (z + 38) := fun h a0 I => by
  obtain ⟨D, S, N, M, e, R⟩ := id I
  exact zz_step (fun w => zf_X10_former w (z + 38) a0) e (ze_former R a0) (fun h0 => zh_X10_former (z + 38) h0 S a0)
theorem zz_op12 (z : Nat) : zl_op12 (zz_I z) z (z + 38) := fun h a0 a1 I => by
  obtain ⟨D, S, N, M, e, R⟩ := id I
  exact zz_step (fun w => zf_X10_rule w (z + 38) a0 a1) e (ze_rule R a0 a1) (fun h0 => zh_X10_rule (z + 38) h0 S a0 a1)
theorem zz_op13 (z : Nat) : zl_op13 (zz_I z) z (z + 38) := fun h a0 a1 a2 I => by
  obtain ⟨D, S, N, M, e, R⟩ := id I
  exact zz_step (fun w => zf_X10_place w (z + 38) a0 a1 a2) e (ze_place R a0 a1 a2) (fun h0 => zh_X10_place (z + 38) h0 S a0 a1 a2)
theorem zz_op14 (z : Nat) : zl_op14 (zz_I z) z (z + 38) := fun h a0 a1 a2 I => by
  obtain ⟨D, S, N, M, e, R⟩ := id I
  exact zz_step (fun w => zf_X10_matched w (z + 38) a0 a1 a2) e (ze_matched R a0 a1 a2) (fun h0 => zh_X10_matched (z + 38) h0 S a0 a1 a2)
theorem zz_op15 (z : Nat) : zl_op15 (zz_I z) z (z + 38) := fun h a0 a1 a2 I => by
  obtain ⟨D, S, N, M, e, R⟩ := id I
  exact zz_step (fun w => zf_X10_through w (z + 38) a0 a1 a2) e (ze_through R a0 a1 a2) (fun h0 => zh_X10_through (z + 38) h0 S a0 a1 a2)
theorem zz_op16 (z : Nat) : zl_op16 (zz_I z) z (z + 38) := fun h a0 a1 a2 I => by
  obtain ⟨D, S, N, M, e, R⟩ := id I
  exact zz_step (fun w => zf_X10_origin w (z + 38) a0 a1 a2) e (ze_origin R a0 a1 a2) (fun h0 => zh_X10_origin (z + 38) h0 S a0 a1 a2)
theorem zz_op17 (z : Nat) : zl_op17 (zz_I z) z (z + 38) := fun h a0 a1 a2 a3 a4 a5 I => by
  obtain ⟨D, S, N, M, e, R⟩ := id I
  exact zz_step (fun w => zf_X10_remark w (z + 38) a0 a1 a2 a3 a4 a5) e (ze_remark R a0 a1 a2 a3 a4 a5) (fun h0 => zh_X10_remark (z + 38) h0 S a0 a1 a2 a3 a4 a5)
theorem zz_op18 (z : Nat) : zl_op18 (zz_I z) z (z + 38) := fun h a0 a1 I => by
  obtain ⟨D, S, N, M, e, R⟩ := id I
  exact zz_step (fun w => zf_X10_remarkOf w (z + 38) a0 a1) e (ze_remarkOf R a0 a1) (fun h0 => zh_X10_remarkOf (z + 38) h0 S a0 a1)
theorem zz_op19 (z : Nat) : zl_op19 (zz_I z) z (z + 38) := fun h a0 a1 I => by
  obtain ⟨D, S, N, M, e, R⟩ := id I
  exact zz_step (fun w => zf_X10_settle w (z + 38) a0 a1) e (ze_settle R a0 a1) (fun h0 => zh_X10_settle (z + 38) h0 S a0 a1)
theorem zz_op20 (z : Nat) : zl_op20 (zz_I z) z (z + 38) := fun h a0 a1 a2 I => by
  obtain ⟨D, S, N, M, e, R⟩ := id I
  exact zz_step (fun w => zf_X10_put w (z + 38) a0 a1 a2) e (ze_put R a0 a1 a2) (fun h0 => zh_X10_put (z + 38) h0 S a0 a1 a2)
theorem zz_op21 (z : Nat) : zl_op21 (zz_I z) z (z + 38) := fun h a0 a1 a2 I => by
  obtain ⟨D, S, N, M, e, R⟩ := id I
  exact zz_step (fun w => zf_X10_score_ w (z + 38) a0 a1 a2) e (ze_score R a0 a1 a2) (fun h0 => zh_X10_score_ (z + 38) h0 S a0 a1 a2)
theorem zz_op22 (z : Nat) : zl_op22 (zz_I z) z (z + 38) := fun h a0 a1 I => by
  obtain ⟨D, S, N, M, e, R⟩ := id I
  exact zz_step (fun w => zf_X10_leastNeed w (z + 38) a0 a1) e (ze_leastNeed R a0 a1) (fun h0 => zh_X10_leastNeed (z + 38) h0 S a0 a1)
theorem zz_op23 (z : Nat) : zl_op23 (zz_I z) z (z + 38) := fun h a0 a1 I => by
  obtain ⟨D, S, N, M, e, R⟩ := id I
  exact zz_step (fun w => zf_X10_fitting w (z + 38) a0 a1) e (ze_fitting R a0 a1) (fun h0 => zh_X10_fitting (z + 38) h0 S a0 a1)
theorem zz_op24 (z : Nat) : zl_op24 (zz_I z) z (z + 38) := fun h a0 a1 I => by
  obtain ⟨D, S, N, M, e, R⟩ := id I
  exact zz_step (fun w => zf_X10_inOrder w (z + 38) a0 a1) e (ze_inOrder R a0 a1) (fun h0 => zh_X10_inOrder (z + 38) h0 S a0 a1)
theorem zz_op25 (z : Nat) : zl_op25 (zz_I z) z (z + 38) := fun h a0 a1 I => by
  obtain ⟨D, S, N, M, e, R⟩ := id I
  exact zz_step (fun w => zf_X10_who w (z + 38) a0 a1) e (ze_who R a0 a1) (fun h0 => zh_X10_who (z + 38) h0 S a0 a1)
theorem zz_op26 (z : Nat) : zl_op26 (zz_I z) z (z + 38) := fun h a0 I => by
  obtain ⟨D, S, N, M, e, R⟩ := id I
  exact zz_step (fun w => zf_X10_covered w (z + 38) a0) e (ze_covered R a0) (fun h0 => zh_X10_covered (z + 38) h0 S a0)
theorem zz_op27 (z : Nat) : zl_op27 (zz_I z) z (z + 38) := fun h a0 a1 a2 I => by
  obtain ⟨D, S, N, M, e, R⟩ := id I
  exact zz_step (fun w => zf_X10_judge w (z + 38) a0 a1 a2) e (ze_judge R a0 a1 a2) (fun h0 => zh_X10_judge (z + 38) h0 S a0 a1 a2)
theorem zz_op28 (z : Nat) : zl_op28 (zz_I z) z (z + 38) := fun h a0 a1 I => by
  obtain ⟨D, S, N, M, e, R⟩ := id I
  exact zz_step (fun w => zf_X10_again w (z + 38) a0 a1) e (ze_again R a0 a1) (fun h0 => zh_X10_again (z + 38) h0 S a0 a1)
theorem zz_op29 (z : Nat) : zl_op29 (zz_I z) z (z + 38) := fun h a0 I => by
  obtain ⟨D, S, N, M, e, R⟩ := id I
  exact zz_step (fun w => zf_X10_drift w (z + 38) a0) e (ze_drift R a0) (fun h0 => zh_X10_drift (z + 38) h0 S a0)
theorem zz_op30 (z : Nat) : zl_op30 (zz_I z) z (z + 38) := fun h a0 I => by
  obtain ⟨D, S, N, M, e, R⟩ := id I
  exact zz_step (fun w => zf_X10_seed w (z + 38) a0) e (ze_seed R a0) (fun h0 => zh_X10_seed (z + 38) h0 S a0)
theorem zz_op31 (z : Nat) : zl_op31 (zz_I z) z (z + 38) := fun h a0 a1 a2 I => by
  obtain ⟨D, S, N, M, e, R⟩ := id I
  exact zz_step (fun w => zf_X10_act w (z + 38) a0 a1 a2) e (ze_act R a0 a1 a2) (fun h0 => zh_X10_act (z + 38) h0 S a0 a1 a2)
theorem zz_op32 (z : Nat) : zl_op32 (zz_I z) z (z + 38) := fun h a0 I => by
  obtain ⟨D, S, N, M, e, R⟩ := id I
  exact zz_pure (fun w => zf_X10_trace w (z + 38) a0) I e (ze_trace R a0) (fun h0 => zh_X10_trace (z + 38) h0 S a0)
theorem zz_op33 (z : Nat) : zl_op33 (zz_I z) z (z + 38) := fun h I => by
  obtain ⟨D, S, N, M, e, R⟩ := id I
  exact zz_step (fun w => zf_X10_image w (z + 38)) e (ze_image R) (fun h0 => zh_X10_image (z + 38) h0 S)
theorem zz_op34 (z : Nat) : zl_op34 (zz_I z) z (z + 38) := fun h I => by
  obtain ⟨D, S, N, M, e, R⟩ := id I
  exact zz_step (fun w => zf_X10_restore w (z + 38)) e (ze_restore R) (fun h0 => zh_X10_restore (z + 38) h0 S)
theorem zz_op35 (z : Nat) : zl_op35 (zz_I z) z (z + 38) := fun h a0 I => by
  obtain ⟨D, S, N, M, e, R⟩ := id I
  exact zz_pure (fun w => zf_X10_status w (z + 38) a0) I e (ze_status R a0) (fun h0 => zh_X10_status (z + 38) h0 S a0)
theorem zz_main (z tD : Nat) (hlt : tD < z) : zz_Main z tD := ⟨zz_I z, z + 38, zi_1h z tD, zi_2h z tD, zi_X9 (fun _ => none, z, tD), rfl, zi_X10 (zi_1h z tD), ⟨zi_D, zi_S, 0, 0, (zz_hh _ _ _ _).symm, zi_R0 hlt⟩, zz_op0 z, zz_op1 z, zz_op2 z, zz_op3 z, zz_op4 z, zz_op5 z, zz_op6 z, zz_op7 z, zz_op8 z, zz_op9 z, zz_op10 z, zz_op11 z, zz_op12 z, zz_op13 z, zz_op14 z, zz_op15 z, zz_op16 z, zz_op17 z, zz_op18 z, zz_op19 z, zz_op20 z, zz_op21 z, zz_op22 z, zz_op23 z, zz_op24 z, zz_op25 z, zz_op26 z, zz_op27 z, zz_op28 z, zz_op29 z, zz_op30 z, zz_op31 z, zz_op32 z, zz_op33 z, zz_op34 z, zz_op35 z⟩
