/-! a revision is added -/
theorem zx_doc_c {z : Nat} {h : zc_H} {f g : Nat → Nat} {N M : Nat} {F F2 C C2 : Nat → Int32} {L L2 : Nat → Int64} {T T2 : Nat → Int32} {rdy rdy2 : Nat → Int32 → Prop} (hF : ∀ r, r < N → F2 r = F r) (hC : ∀ r, r < N → C2 r = C r) (hL : ∀ r, r < N → ∀ i, i < 24 → L2 (24 * r + i) = L (24 * r + i)) (hT : ∀ k m, k < 6 → m < M → T2 (16 * k + m) = T (16 * k + m)) (hr : ∀ r x, r < N → rdy r x → rdy2 r x) (B : zx_doc z h f g N M F C L T rdy) : zx_doc z h f g N M F2 C2 L2 T2 rdy2 := by
  have en : ∀ r, r < N → zx_n C2 r = zx_n C r := fun r h => by unfold zx_n; rw [hC r h]
  have ek : ∀ r, r < N → zx_k F2 r = zx_k F r := fun r h => by unfold zx_k; rw [hF r h]
  refine ⟨B.1, B.2.1, fun r hrN => ?_, fun m hm => ?_⟩
  · obtain ⟨o, rf, fo, c1, c2, c3, c4, c5⟩ := B.2.2.1 r hrN
    have h24 := zx_n24 C r
    refine ⟨o, rf, fo, c1, by rw [en r hrN]; exact c2, by rw [en r hrN, hC r hrN]; exact c3, by rw [en r hrN]; exact fun i hi => by rw [hL r hrN i (by omega)]; exact c4 i hi, ?_⟩
    rw [hF r hrN, ek r hrN]
    exact c5.imp (fun h => h) (fun h => ⟨h.1, h.2.1, h.2.2.1, hr r _ hrN h.2.2.2⟩)
  · obtain ⟨b1, b2, kind, a, r, p, q, an, c1, c2, c3, c4, c5, c6, c7, c8, c9, c10, c11, c12, c13⟩ := B.2.2.2 m hm
    have t0 := hT 0 m (by decide) hm
    have t1 := hT 1 m (by decide) hm
    have t2 := hT 2 m (by decide) hm
    have t3 := hT 3 m (by decide) hm
    have t4 := hT 4 m (by decide) hm
    have t5 := hT 5 m (by decide) hm
    rw [show 16 * 0 + m = m by omega] at t0
    exact ⟨b1, b2, kind, a, r, p, q, an, c1, c2, c3, c4, by rw [en r c3]; exact c5, t0.trans c6, t1.trans c7, t2.trans c8, t3.trans c9, t4.trans c10, t5.trans c11, c12, c13⟩
theorem zx_RR_rdy {z : Nat} {w : zc_H} {D : zy_D} {S : zm_S} {rdy rdy2 : Nat → Int32 → Prop} {E f g f' g' fb : Nat → Nat} {N M N' M' nb : Nat} (h : ∀ r x, r < N → rdy r x → rdy2 r x) (R : zx_RR z w D S rdy E f g f' g' fb N M N' M' nb) : zx_RR z w D S rdy2 E f g f' g' fb N M N' M' nb := by
  obtain ⟨r1, r2, r3, r4⟩ := R
  exact ⟨r1, r2, zx_doc_c (fun _ _ => rfl) (fun _ _ => rfl) (fun _ _ _ _ => rfl) (fun _ _ _ _ => rfl) h r3, r4⟩
/-- revision N, and then remark M, join a document -/
theorem zx_doc_addr {z : Nat} {h : zc_H} {f g : Nat → Nat} {N M a : Nat} {F C : Nat → Int32} {L : Nat → Int64} {T : Nat → Int32} {rdy : Nat → Int32 → Prop} (hN : N < 16) (B : zx_doc z h f g N M F C L T rdy) (A : zx_rev z h (va_up f N a) F C L (rdy N) N) : zx_doc z h (va_up f N a) g (N + 1) M F C L T rdy := by
  refine ⟨by omega, B.2.1, fun r hr => ?_, fun m hm => ?_⟩
  · by_cases y : r = N
    · subst y
      exact A
    · obtain ⟨o, rf, fo, c1, c2, c3, c4, c5⟩ := B.2.2.1 r (by omega)
      have ef : va_up f N a r = f r := va_up_ne _ _ y
      unfold zx_rev
      rw [ef]
      refine ⟨o, rf, fo, c1, c2, c3, c4, c5.imp (fun h => h) (fun h => ⟨h.1, h.2.1, ?_, h.2.2.2⟩)⟩
      rw [va_up_ne _ _ (by have := h.1; omega)]
      exact h.2.2.1
  · obtain ⟨b1, b2, kind, a', r, p, q, an, c1, c2, c3, c4, c5, c6, c7, c8, c9, c10, c11, c12, c13⟩ := B.2.2.2 m hm
    exact ⟨b1, b2, kind, a', r, p, q, an, c1, c2, by omega, c4, c5, c6, c7, c8, c9, c10, c11, c12, by rw [va_up_ne _ _ (by omega)]; exact c13⟩
theorem zx_doc_addm {z : Nat} {h : zc_H} {f g : Nat → Nat} {N M b : Nat} {F C : Nat → Int32} {L : Nat → Int64} {T : Nat → Int32} {rdy : Nat → Int32 → Prop} (hM : M < 16) (B : zx_doc z h f g N M F C L T rdy) (A : zx_rem z h f (va_up g M b) N C T M) : zx_doc z h f (va_up g M b) N (M + 1) F C L T rdy := by
  refine ⟨B.1, by omega, B.2.2.1, fun m hm => ?_⟩
  by_cases y : m = M
  · subst y
    exact A
  · have := B.2.2.2 m (by omega)
    unfold zx_rem at this ⊢
    rw [va_up_ne _ _ y]
    exact this
/-- new cells -/
theorem zx_kp_ext {z : Nat} {w w2 : zc_H} (h1 : ∀ y, y < w.2.1 → w2.1 y = w.1 y) (h2 : w.2.1 ≤ w2.2.1) (h3 : w2.2.2 = w.2.2) : zx_kp z w w2 := ⟨h2, h3, fun y c _ h5 h6 _ => (h1 y h5).trans h6⟩
theorem zx_RR_ext {z : Nat} {w w2 : zc_H} {D : zy_D} {S : zm_S} {rdy : Nat → Int32 → Prop} {E f g f' g' fb : Nat → Nat} {N M N' M' nb : Nat} (h1 : ∀ y, y < w.2.1 → w2.1 y = w.1 y) (h2 : w.2.1 ≤ w2.2.1) (h3 : w2.2.2 = w.2.2) (R : zx_RR z w D S rdy E f g f' g' fb N M N' M' nb) : zx_RR z w2 D S rdy E f g f' g' fb N M N' M' nb := by
  obtain ⟨r1, ⟨v1, v2, v3, v4, v5, v6, v7, v8⟩, r3, r4, r5⟩ := R
  have kp := zx_kp_ext (z := z) h1 h2 h3
  have al : ∀ l n fn, zy_n l = false → zk_al w (z + l) (E l) n fn → zk_al w2 (z + l) (E l) n fn := fun l n fn hl q => by
    have := zx_n38 hl
    exact zk_al_same q (h1 _ (by omega)) (fun hne => h1 _ (((v3 l hl).1.resolve_left hne).2)) h3
  exact ⟨zy_is_t r1 (fun k hk _ => h1 _ (by omega)), ⟨by rw [h3]; exact v1, by omega, fun k hk => by
    have := v3 k hk
    rw [h3]
    exact ⟨by omega, this.2⟩, al 3 _ _ rfl v4, al 4 _ _ rfl v5, al 6 _ _ rfl v6, al 7 _ _ rfl v7, al 16 _ _ rfl v8⟩, zx_doc_t kp r3, zx_doc_t kp r4, r5⟩
/-- one list changes: what stays -/
theorem zx_V_fr {z k e2 n0 : Nat} {w w2 : zc_H} {E f g f' g' fb f0 : Nat → Nat} {N M N' M' nb : Nat} (hk : zy_n k = false) (V : zx_V z w E f g f' g' fb N M N' M' nb) (A : zk_al w (z + k) (E k) n0 f0) (B : zx_fr (z + k) w (E k) w2 e2) : w2.2.2 < z ∧ z + 60 ≤ w2.2.1 ∧ zx_E z w2 (va_up E k e2) ∧ zx_kp z w w2 ∧ zx_blk z w w2 ∧ (∀ D, zy_is z D w → zy_is z D w2) ∧ ∀ l n fn, zy_n l = false → l ≠ k → zk_al w (z + l) (E l) n fn → zk_al w2 (z + l) (va_up E k e2 l) n fn := by
  obtain ⟨v1, v2, v3, -⟩ := V
  exact ⟨by rw [B.2.1]; exact v1, Nat.le_trans v2 B.1, zx_fr_E v3 hk v2 B, zx_fr_kp (zx_n38 hk) A B, zx_fr_blk v3 hk v1 v2 B, fun D r => zx_fr_is v3 hk v1 v2 r B, fun l n fn hl hne q => by
    rw [va_up_ne _ _ hne]
    exact zx_fr_al v3 hk hl hne v1 v2 q B⟩
/-- a new revision's object is made ready to be filled -/
theorem zs_init4 {w : zc_H} {a np : Nat} {num : Int32} {fo : Option Nat} {x0 x1 x2 x3 : Value} (h1 : w.1 a = some (.inr (4, [x0, x1, x2, x3, .int 0]))) (ha : a < w.2.1) (h2 : match fo with
  | none => np = 0
  | some b => b ≠ a ∧ b + 1 ≠ a ∧ b + 1 ≠ w.2.2 ∧ np ≤ 24 ∧ ∃ y0 y1 y3 y4 x, w.1 b = some (.inr (4, [y0, y1, .ref (b + 1), y3, y4])) ∧ w.1 (b + 1) = some (.inl (1, np, x))) : ∃ w2, zf_X4_init w a num fo (some (a + 1)) = some w2 ∧ w2.1 a = some (.inr (4, [.int num, va_rf fo, .ref (a + 1), .ref w.2.1, .int 0])) ∧ w2.1 w.2.1 = some (.inl (0, np, .inl (fun _ => 0))) ∧ w2.2.1 = w.2.1 + 1 ∧ w2.2.2 = w.2.2 ∧ ∀ y, y ≠ a → y ≠ w.2.1 → w2.1 y = w.1 y := by
  have p0 : zf_p w a 4 0 (.int num) = some (zf_up w a (.inr (4, [.int num, x1, x2, x3, .int 0]))) := zb_p h1 (by simp)
  have p1 : zf_p (zf_up w a (.inr (4, [.int num, x1, x2, x3, .int 0]))) a 4 1 (va_rf fo) = some (zf_up (zf_up w a (.inr (4, [.int num, x1, x2, x3, .int 0]))) a (.inr (4, [.int num, va_rf fo, x2, x3, .int 0]))) := zb_p (zb_up _ _ _) (by simp)
  have p2 : zf_p (zf_up w a (.inr (4, [.int num, va_rf fo, x2, x3, .int 0]))) a 4 2 (va_rf (some (a + 1))) = some (zf_up (zf_up w a (.inr (4, [.int num, va_rf fo, x2, x3, .int 0]))) a (.inr (4, [.int num, va_rf fo, .ref (a + 1), x3, .int 0]))) := zb_p (zb_up _ _ _) (by simp)
  have fin : ∀ np, ∃ w2, zf_p (zf_new (zf_up w a (.inr (4, [.int num, va_rf fo, .ref (a + 1), x3, .int 0]))) (.inl (0, np, .inl (fun _ => 0)))) a 4 3 (va_rf (some w.2.1)) = some w2 ∧ w2.1 a = some (.inr (4, [.int num, va_rf fo, .ref (a + 1), .ref w.2.1, .int 0])) ∧ w2.1 w.2.1 = some (.inl (0, np, .inl (fun _ => 0))) ∧ w2.2.1 = w.2.1 + 1 ∧ w2.2.2 = w.2.2 ∧ ∀ y, y ≠ a → y ≠ w.2.1 → w2.1 y = w.1 y := fun np => by
    obtain ⟨n1, n2, n3, n4⟩ := zn_new (zf_up w a (.inr (4, [.int num, va_rf fo, .ref (a + 1), x3, .int 0]))) (.inl (0, np, .inl (fun _ => 0)))
    have n1' : (zf_new (zf_up w a (.inr (4, [.int num, va_rf fo, .ref (a + 1), x3, .int 0]))) (.inl (0, np, .inl (fun _ => 0)))).1 w.2.1 = _ := n1
    have e : (zf_new (zf_up w a (.inr (4, [.int num, va_rf fo, .ref (a + 1), x3, .int 0]))) (.inl (0, np, .inl (fun _ => 0)))).1 a = some (.inr (4, [.int num, va_rf fo, .ref (a + 1), x3, .int 0])) := by
      rw [n4 a (by show a ≠ w.2.1; omega)]
      exact zb_up _ _ _
    refine ⟨_, zb_p e (by simp), zb_up _ _ _, ?_, n2, n3, fun y hy1 hy2 => ?_⟩
    · show va_up _ _ _ w.2.1 = _
      rw [va_up_ne _ _ (by omega)]
      exact n1'
    · show va_up _ _ _ y = _
      rw [va_up_ne _ _ hy1, n4 y hy2]
      exact va_up_ne _ _ hy1
  unfold zf_X4_init
  dsimp only
  rw [if_neg (zb_is h1), p0, zo_s, p1, zo_s, zf_upup, p2, zo_s, zf_upup]
  cases fo with
  | none =>
    have h2 : np = 0 := h2
    subst h2
    obtain ⟨w2, f1, f2⟩ := fin 0
    refine ⟨w2, ?_, f2⟩
    rw [if_pos rfl, if_neg (by decide), zo_s, zo_s]
    exact (congrArg (fun o => o.bind fun h8 => some h8) f1)
  | some b =>
    obtain ⟨b1, b2, b3, b4, y0, y1, y3, y4, x, c1, c2⟩ := h2
    obtain ⟨w2, f1, f2⟩ := fin np
    refine ⟨w2, ?_, f2⟩
    have d1 : (zf_up w a (.inr (4, [.int num, va_rf (some b), .ref (a + 1), x3, .int 0]))).1 b = some (.inr (4, [y0, y1, .ref (b + 1), y3, y4])) := (va_up_ne _ _ b1).trans c1
    have d2 : (zf_up w a (.inr (4, [.int num, va_rf (some b), .ref (a + 1), x3, .int 0]))).1 (b + 1) = some (.inl (1, np, x)) := (va_up_ne _ _ b2).trans c2
    rw [if_neg (by simp), zo_s, zb_gr (x := some (b + 1)) d1 rfl, zo_s, zo_s, zb_len d2 (by show b + 1 ≠ w.2.2; exact b3), zo_s, if_neg (by
      rw [nI_clamp (by show np < 2 ^ 31; omega)]
      intro h
      rcases h with h | h
      · exact nI_pos (by show np < 2 ^ 31; omega) h
      · have : np > 40 := h
        omega), zo_s, zo_s, nI_clamp (by show np < 2 ^ 31; omega)]
    exact (congrArg (fun o => o.bind fun h8 => some h8) f1)
def zx_eqN (S S2 : zm_S) (N : Nat) : Prop := (∀ k, k < 25 → k ≠ 0 → k ≠ 5 → S2.1 k = S.1 k) ∧ (∀ k, k < 25 → k ≠ 1 → k ≠ 2 → k ≠ 4 → S2.2.1 k = S.2.1 k) ∧ (∀ r, r < N → S2.2.1 1 r = S.2.1 1 r ∧ S2.2.1 2 r = S.2.1 2 r) ∧ (∀ k, k ≠ 3 → S2.2.2 k = S.2.2 k) ∧ ∀ j, j < 24 * N → S2.2.2 3 j = S.2.2 3 j
theorem zx_RR_N {z : Nat} {w : zc_H} {D : zy_D} {S S2 : zm_S} {rdy : Nat → Int32 → Prop} {E f g f' g' fb : Nat → Nat} {N M N' M' nb : Nat} (A : zx_eqN S S2 N) (R : zx_RR z w D S rdy E f g f' g' fb N M N' M' nb) : zx_RR z w D S2 rdy E f g f' g' fb N M N' M' nb := by
  obtain ⟨a1, a2, a3, a4, a5⟩ := A
  obtain ⟨r1, r2, r3, r4, r5, r6⟩ := R
  refine ⟨r1, r2, ?_, ?_, ?_, ?_⟩
  · unfold zx_d1 at r3 ⊢
    exact zx_doc_c (fun r h => (a3 r h).1) (fun r h => (a3 r h).2) (fun r h i hi => a5 _ (by omega)) (fun k m _ _ => by rw [a2 6 (by decide) (by decide) (by decide) (by decide)]) (fun _ _ _ h => h) r3
  · unfold zx_d2 at r4 ⊢
    rw [a2 18 (by decide) (by decide) (by decide) (by decide), a2 19 (by decide) (by decide) (by decide) (by decide), a4 20 (by decide), a2 22 (by decide) (by decide) (by decide) (by decide)]
    exact r4
  · unfold zx_ds zx_sh at r5 ⊢
    rw [a1 16 (by decide) (by decide) (by decide), a1 12 (by decide) (by decide) (by decide), a1 8 (by decide) (by decide) (by decide), a1 13 (by decide) (by decide) (by decide), a2 7 (by decide) (by decide) (by decide) (by decide), a2 6 (by decide) (by decide) (by decide) (by decide), a2 15 (by decide) (by decide) (by decide) (by decide), a2 14 (by decide) (by decide) (by decide) (by decide), a2 9 (by decide) (by decide) (by decide) (by decide), a2 10 (by decide) (by decide) (by decide) (by decide), a4 11 (by decide)]
    exact r5
  · unfold zx_im at r6 ⊢
    rw [a1 16 (by decide) (by decide) (by decide), a1 17 (by decide) (by decide) (by decide), a1 21 (by decide) (by decide) (by decide), a1 24 (by decide) (by decide) (by decide), a2 22 (by decide) (by decide) (by decide) (by decide), a2 23 (by decide) (by decide) (by decide) (by decide)]
    exact r6
