/-! where remarks are put on one revision: what both sides tell -/
def zx_rows (S : zm_S) (N m kind a r p q : Nat) : Prop := kind < 7 ∧ a ≤ 9 ∧ r < N ∧ p ≤ q ∧ q < zx_n (S.2.1 2) r ∧ S.2.1 6 m = nI kind ∧ S.2.1 6 (16 + m) = nI a ∧ S.2.1 6 (32 + m) = nI r ∧ S.2.1 6 (48 + m) = nI p ∧ S.2.1 6 (64 + m) = nI q
theorem zx_rows_of {S : zm_S} {w : zc_H} {f g : Nat → Nat} {N m kind a r p q : Nat} {an : Int32} (Q : zx_rm S w f g N m kind a r p q an) : zx_rows S N m kind a r p q := by
  obtain ⟨q1, q2, q3, q4, q5, q6, q7, q8, q9, q10, -⟩ := Q
  exact ⟨q1, q2, q3, q4, q5, q6, q7, q8, q9, q10⟩
/-- no way, lost, or a span -/
def zx_P (S : zm_S) (t m : Nat) : Option (Option (Nat × Nat)) := (zq_way (S.2.1 1) (zx_k (S.2.1 6) (32 + m)) 17 t).map (fun l => (zx_T S (zx_k (S.2.1 7) 1) (zx_k (S.2.1 7) 2) (zx_k (S.2.1 6) m) (zx_k (S.2.1 6) (16 + m)) (zx_k (S.2.1 6) (32 + m)) (zx_k (S.2.1 6) (48 + m)) (zx_k (S.2.1 6) (64 + m)) l (l.length - 1)).1)
theorem zx_P_e {S S2 : zm_S} (h : zx_eqS S S2) (t m : Nat) : zx_P S2 t m = zx_P S t m := by
  unfold zx_P
  rw [h.2.1 1 (by decide), h.2.1 6 (by decide), h.2.1 7 (by decide)]
  congr 1
  funext l
  rw [zx_T_e h]
theorem zx_P_of {S : zm_S} {N m kind a r p q need margin : Nat} (hN : N ≤ 16) (H : zx_rl S need margin) (Q : zx_rows S N m kind a r p q) (t : Nat) : zx_P S t m = (zq_way (S.2.1 1) r 17 t).map (fun l => (zx_T S need margin kind a r p q l (l.length - 1)).1) := by
  obtain ⟨q1, q2, q3, q4, q5, q6, q7, q8, q9, q10⟩ := Q
  obtain ⟨h1, h2, h3, h4⟩ := H
  have h24 := zx_n24 (S.2.1 2) r
  unfold zx_P
  rw [zx_k_of q6 (by omega), zx_k_of q7 (by omega), zx_k_of q8 (by omega), zx_k_of q9 (by omega), zx_k_of q10 (by omega), zx_k_of h1 (by omega), zx_k_of h2 (by omega)]
/-- what the reference alone is told -/
def zr_env (S : zm_S) (N M need margin : Nat) : Prop := zr_doc S N (zx_n (S.2.1 2)) need margin ∧ zq_fm (S.2.1 1) N ∧ zx_co S N ∧ zx_rl S need margin ∧ M ≤ 16 ∧ S.1 5 = nI M ∧ ∀ m, m < M → ∃ kind a r p q, zx_rows S N m kind a r p q
theorem zr_env_e {S S2 : zm_S} {N M need margin : Nat} (h : zx_eqS S S2) (A : zr_env S N M need margin) : zr_env S2 N M need margin := by
  obtain ⟨a1, a2, a3, a4, a5, a6, a7⟩ := A
  refine ⟨?_, by rw [h.2.1 1 (by decide)]; exact a2, zx_co_eq (h.2.1 1 (by decide)) (h.2.1 2 (by decide)) (by rw [h.2.2]) (h.2.1 4 (by decide)) (by rw [h.2.1 7 (by decide)]) a3, zx_rl_e h a4, a5, by rw [h.1 5 (by decide)]; exact a6, fun m hm => ?_⟩
  · unfold zr_doc zr_ln at a1 ⊢
    rw [h.2.1 2 (by decide), h.2.1 7 (by decide), h.2.2]
    exact a1
  · obtain ⟨kind, a, r, p, q, b⟩ := a7 m hm
    refine ⟨kind, a, r, p, q, ?_⟩
    unfold zx_rows at b ⊢
    rw [h.2.1 2 (by decide), h.2.1 6 (by decide)]
    exact b
theorem zr_env_of {z : Nat} {w : zc_H} {S : zm_S} {f g : Nat → Nat} {N M : Nat} {rdy : Nat → Int32 → Prop} (zs : zx_s S N M) (B : zx_d1 z w f g N M S rdy) : ∃ need margin, zr_env S N M need margin := by
  obtain ⟨run, need, margin, u1, u2, u3, u4, u5, u6, u7⟩ := zs.2.2.1
  have H : zx_rl S need margin := ⟨u2, u3, u6, u7⟩
  have doc : zx_doc z w f g N M (S.2.1 1) (S.2.1 2) (S.2.2 3) (S.2.1 6) rdy := B
  refine ⟨need, margin, zr_doc_of B H, zx_fm doc, zs.2.2.2.1, H, doc.2.1, zs.2.1, fun m hm => ?_⟩
  obtain ⟨kind, a, r, p, q, an, Q, -⟩ := zx_rm_of B hm
  exact ⟨kind, a, r, p, q, zx_rows_of Q⟩
def zr_isP (S2 : zm_S) (b : Int32) : Option (Option (Nat × Nat)) → Prop
  | none => b = 0
  | some none => b = 1 ∧ S2.1 33 = 3
  | some (some x) => b = 1 ∧ ¬ S2.1 33 = 3 ∧ S2.1 31 = nI x.1 ∧ S2.1 32 = nI x.2
section ZR
variable {S : zm_S} {N M need margin t m : Nat}
theorem zx_P_ok (A : zr_env S N M need margin) (hm : m < M) (ht : t < N) {x : Nat × Nat} (h : zx_P S t m = some (some x)) : x.1 ≤ x.2 ∧ x.2 < zx_n (S.2.1 2) t := by
  obtain ⟨a1, a2, a3, a4, a5, a6, a7⟩ := A
  obtain ⟨kind, a, r, p, q, Q⟩ := a7 m hm
  rw [zx_P_of a1.1 a4 Q] at h
  cases e : zq_way (S.2.1 1) r 17 t with
  | none => rw [e] at h; cases h
  | some l =>
    rw [e] at h
    have W := zq_wy_of a2 ht e
    obtain ⟨i1, i2, i3⟩ := zx_T_ok (need := need) (margin := margin) (kind := kind) (a := a) a3 W Q.2.2.2.1 Q.2.2.2.2.1 (l.length - 1) (Nat.le_refl _)
    have h' : (zx_T S need margin kind a r p q l (l.length - 1)).1 = some x := Option.some.inj h
    have i4 := i3 (by rw [h']; simp)
    rw [Nat.sub_self, W.2.2.1] at i4
    obtain ⟨j1, j2, j3⟩ := i1
    rw [h'] at j3
    rw [i4] at j2
    obtain ⟨-, j4, j5⟩ := j3
    omega
theorem zr_put1 (A : zr_env S N M need margin) (hm : m < M) (ht : t < N) : ∃ S2 b, zg_X10_puts S (nI m) (S.2.1 6 m) (nI t) 0 = some (S2, b) ∧ zx_eqS S S2 ∧ (∀ k, k ≠ 30 → S2.2.1 k = S.2.1 k) ∧ zr_isP S2 b (zx_P S t m) := by
  obtain ⟨a1, a2, a3, a4, a5, a6, a7⟩ := A
  obtain ⟨kind, a, r, p, q, Q⟩ := a7 m hm
  obtain ⟨q1, q2, q3, q4, q5, q6, q7, q8, q9, q10⟩ := id Q
  obtain ⟨S2, b, c1, ⟨c2, c3⟩, c4⟩ := zr_puts30 a1 a2 a3 q4 q5 q1 q2 (by omega) q3 ht q7 q8 q9 q10 0 (Or.inl rfl)
  rw [q6, show (0 : Int32) = nI 0 from rfl]
  refine ⟨S2, b, c1, c2, c3, ?_⟩
  rw [zx_P_of a1.1 a4 Q]
  rcases c4 with ⟨e1, e2⟩ | ⟨l, c, v, e1, e2, e3, e4⟩
  · rw [e1]
    exact e2
  · rw [e1, Option.map_some]
    rw [Nat.sub_zero] at e4
    have W := zq_wy_of a2 ht e1
    obtain ⟨i1, -, -⟩ := zx_T_ok (need := need) (margin := margin) (kind := kind) (a := a) a3 W q4 q5 (l.length - 1) (Nat.le_refl _)
    generalize zx_T S need margin kind a r p q l (l.length - 1) = T at *
    obtain ⟨sp, how, la, lp, lq⟩ := T
    obtain ⟨-, -, i3⟩ := i1
    obtain ⟨g1, g2, g3, g4, g5⟩ := e4
    dsimp only at *
    have sv : ∀ j, 31 ≤ j → j < 41 → S2.1 j = v j := fun j h1 h2 => by rw [e3]; exact zr_wg _ _ ⟨h1, h2⟩
    cases sp with
    | none =>
      dsimp only at i3 g5
      exact ⟨e2, by rw [sv 33 (by decide) (by decide), g1, i3]; rfl⟩
    | some x =>
      dsimp only at i3 g5
      refine ⟨e2, fun h => ?_, by rw [sv 31 (by decide) (by decide)]; exact g5.1, by rw [sv 32 (by decide) (by decide)]; exact g5.2⟩
      rw [sv 33 (by decide) (by decide), g1] at h
      have := (za_eq (show how < 2 ^ 31 by omega) (show 3 < 2 ^ 31 by decide)).mp h
      omega
end ZR
theorem zx_h_kp (z : Nat) (D : zy_D) (h : zc_H) : zx_kp z h (zy_h z D h) := zx_kp_same rfl (fun y hy => zy_o (Or.inr (by omega)))
/-! the class: all of them are put, one by one -/
def zq_sq : Option (Option (Nat × Nat)) → Int32
  | none => -1
  | some o => zq_sp o
def zq_fo : Option (Option (Nat × Nat)) → Bool
  | some (some _) => true
  | _ => false
def zq_lo : Option (Option (Nat × Nat)) → Bool
  | some none => true
  | _ => false
def zq_bits (b : Nat → Bool) : Nat → Int32
  | 0 => 0
  | k + 1 => if b k = true then zq_bits b k ||| (1 <<< (nI k &&& 31)) else zq_bits b k
section ZV
variable {z : Nat} {w : zc_H} {D : zy_D} {S : zm_S} {E f g f' g' fb : Nat → Nat} {N M N' M' nb : Nat}
theorem zs_put1 (R : zx_RR z w D S (fun _ x => x = S.2.1 7 0) E f g f' g' fb N M N' M' nb) (zs : zx_s S N M) {m t : Nat} (hm : m < M) (ht : t < N) : ∃ (w2 : zc_H) (D2 : zy_D) (e2 nb2 : Nat) (fb2 : Nat → Nat) (b : Int32), zf_X8_putOn w (z + 15) (some (g m)) (S.2.1 6 m) (some (f t)) = some (w2, b) ∧ zx_RR z w2 D2 S (fun _ x => x = S.2.1 7 0) (va_up E 16 e2) f g f' g' fb2 N M N' M' nb2 ∧ zx_blk z w w2 ∧ zx_eqW D D2 ∧ zx_kp z w w2 ∧ ((zx_P S t m = none ∧ b = 0) ∨ ∃ o, zx_P S t m = some o ∧ b = 1 ∧ D2.1 15 2 = zq_sp o) := by
  obtain ⟨run, need, margin, u1, u2, u3, u4, u5, u6, u7⟩ := zs.2.2.1
  have H : zx_rl S need margin := ⟨u2, u3, u6, u7⟩
  obtain ⟨-, -, doc, -⟩ := id R
  have doc' : zx_doc z w f g N M (S.2.1 1) (S.2.1 2) (S.2.2 3) (S.2.1 6) (fun _ x => x = S.2.1 7 0) := doc
  obtain ⟨kind, a, r, p, q, an, Q, -⟩ := zx_rm_of doc hm
  obtain ⟨w2, D2, e2, nb2, fb2, b, a1, a2, a3, a4, a5, a6⟩ := zs_putOnW R zs.2.2.2.1 u1 u4 u5 H Q hm Q.1 ht
  rw [Q.2.2.2.2.2.1]
  refine ⟨w2, D2, e2, nb2, fb2, b, a1, a2, a3, a4, a5, ?_⟩
  rw [zx_P_of doc'.1 H (zx_rows_of Q)]
  rcases a6 with ⟨x1, x2⟩ | ⟨l, x1, x2, x3, -⟩
  · rw [x1]
    exact Or.inl ⟨rfl, x2⟩
  · rw [x1]
    exact Or.inr ⟨_, rfl, x2, x3⟩
/-- what the survey holds after k remarks -/
def zy_sv (D : zy_D) (P : Nat → Option (Option (Nat × Nat))) (k : Nat) : Prop := (∀ i, i < 16 → D.2.1 19 i = if i < k then zq_sq (P i) else -1) ∧ D.1 18 3 = zq_bits (fun i => zq_fo (P i)) k ∧ D.1 18 4 = zq_bits (fun i => zq_lo (P i)) k
theorem zs_takeL {t : Nat} (ht : t < N) (zs : zx_s S N M) : ∀ (j k fu : Nat) (w : zc_H) (D : zy_D) (E fb : Nat → Nat) (nb : Nat), k + j = M → j < fu → zx_RR z w D S (fun _ x => x = S.2.1 7 0) E f g f' g' fb N M N' M' nb → zy_sv D (zx_P S t) k → ∃ (w2 : zc_H) (D2 : zy_D) (E2 fb2 : Nat → Nat) (nb2 : Nat), zf_X7_take_L20 (z + 18) (some (f t)) fu w (nI k) = some w2 ∧ zx_RR z w2 D2 S (fun _ x => x = S.2.1 7 0) E2 f g f' g' fb2 N M N' M' nb2 ∧ zy_sv D2 (zx_P S t) M ∧ zx_blk z w w2 ∧ zx_kp z w w2 := by
  intro j
  induction j with
  | zero =>
    intro k fu w D E fb nb h1 h2 R V
    obtain ⟨fu, rfl⟩ : ∃ n, fu = n + 1 := ⟨fu - 1, by omega⟩
    obtain ⟨A, ⟨hz, hsz, hE, al3, al4, -⟩, doc, -⟩ := id R
    have hM : M ≤ 16 := doc.2.1
    have : k = M := by omega
    subst this
    refine ⟨w, D, E, fb, nb, ?_, R, V, zx_blk_refl z w, zx_kp_refl z w⟩
    unfold zf_X7_take_L20
    rw [zy_r18_0 A, zo_s, zo_s, zy_r2_1 A, zo_s, zo_s, zk_al_size al4, zo_s, if_pos (nI_le (Nat.le_refl _) (by omega))]
  | succ j ih =>
    intro k fu w D E fb nb h1 h2 R V
    obtain ⟨fu, rfl⟩ : ∃ n, fu = n + 1 := ⟨fu - 1, by omega⟩
    obtain ⟨A, ⟨hz, hsz, hE, al3, al4, -⟩, docd, -⟩ := id R
    have doc : zx_doc z w f g N M (S.2.1 1) (S.2.1 2) (S.2.2 3) (S.2.1 6) (fun _ x => x = S.2.1 7 0) := docd
    have hM := doc.2.1
    have hm : k < M := by omega
    obtain ⟨kind, a, r, p, q, an, Q, gm1, gm2⟩ := zx_rm_of docd hm
    obtain ⟨w2, D2, e2, nb2, fb2, b, a1, a2, a3, a4, a5, a6⟩ := zs_put1 R zs hm ht
    have A2 := a2.1
    have e18 := a4 18 (by decide) (by decide)
    have e19 := a4 19 (by decide) (by decide)
    obtain ⟨v1, v2, v3⟩ := V
    -- the rest
    have go : ∀ (D3 : zy_D), zx_eqD D2 D3 → zy_sv D3 (zx_P S t) (k + 1) → ∃ (w4 : zc_H) (D4 : zy_D) (E4 fb4 : Nat → Nat) (nb4 : Nat), zf_X7_take_L20 (z + 18) (some (f t)) fu (zy_h z D3 w2) (nI k + 1) = some w4 ∧ zx_RR z w4 D4 S (fun _ x => x = S.2.1 7 0) E4 f g f' g' fb4 N M N' M' nb4 ∧ zy_sv D4 (zx_P S t) M ∧ zx_blk z w w4 ∧ zx_kp z w w4 := fun D3 hD hV => by
      obtain ⟨w4, D4, E4, fb4, nb4, g1, g2, g3, g4, g5⟩ := ih (k + 1) fu (zy_h z D3 w2) D3 _ fb2 nb2 (by omega) (by omega) (zx_RR_sh a2 hD (zx_eqS_refl S)) hV
      exact ⟨w4, D4, E4, fb4, nb4, by rw [← nI_succ]; exact g1, g2, g3, zx_blk_trans a3 (zx_blk_trans (zx_h_blk z D3 w2) g4), zx_kp_trans a5 (zx_kp_trans (zx_h_kp z D3 w2) g5)⟩
    unfold zf_X7_take_L20
    dsimp only
    rw [zy_r18_0 A, zo_s, zo_s, zy_r2_1 A, zo_s, zo_s, zk_al_size al4, zo_s, if_neg (nI_ge (show k < M by omega) (by omega)), zy_r18_2 A, zo_s, zo_s, zy_n19 A hz, zo_s, if_neg (show ¬ (16 : Int32) ≤ nI k from nI_ge (show k < 16 by omega) (by decide)), zo_s, zo_s, zy_r2_1 A, zo_s, zo_s, zk_al_get al4 hm, zo_s, if_neg (show ¬ ¬ zf_cc _ (some (g k)) 3 = true from not_not_intro (zx_rem_e doc hm)), zy_r18_1 A, zo_s, zo_s, zb_gi Q.2.2.2.2.2.2.2.2.2.2.2 rfl, zo_s, zo_s, ← Q.2.2.2.2.2.1, a1, zo_s]
    dsimp only
    rcases a6 with ⟨x1, x2⟩ | ⟨o, x1, x2, x3⟩
    · rw [x2, if_pos rfl]
      have := go D2 (zx_eqD_refl _) ⟨fun i hi => by
        rw [e19.2.1, v1 i hi]
        by_cases y : i < k
        · rw [if_pos y, if_pos (by omega)]
        · rw [if_neg y]
          by_cases y2 : i = k
          · subst y2
            rw [if_pos (by omega), x1]
            rfl
          · rw [if_neg (by omega)], by
        rw [e18.1, v2]
        show _ = if zq_fo (zx_P S t k) = true then _ else _
        rw [x1, if_neg (by decide)], by
        rw [e18.1, v3]
        show _ = if zq_lo (zx_P S t k) = true then _ else _
        rw [x1, if_neg (by decide)]⟩
      rw [zy_is_e A2] at this
      exact this
    · have spans : ∀ i, i < 16 → va_up (D2.2.1 19) k (zq_sp o) i = if i < k + 1 then zq_sq (zx_P S t i) else -1 := fun i hi => by
        by_cases y2 : i = k
        · subst y2
          rw [va_up_self, if_pos (by omega), x1]
          rfl
        · rw [va_up_ne _ _ y2, e19.2.1, v1 i hi]
          by_cases y : i < k
          · rw [if_pos y, if_pos (by omega)]
          · rw [if_neg y, if_neg (by omega)]
      rw [x2, if_neg (show ¬ (1 : Int32) = 0 by decide), zy_r18_2 A2, zo_s, zy_r18_1 A2, zo_s, zo_s, zy_g15_2 A2, zo_s, zo_s, zy_s19 A2 (by omega), zo_s, x3]
      have A3 := zy_is_h z (zy_A D2 19 (va_up (D2.2.1 19) k (zq_sp o))) w2
      have d15 : (zy_A D2 19 (va_up (D2.2.1 19) k (zq_sp o))).1 15 2 = zq_sp o := x3
      rw [zy_r18_1 A3, zo_s, zo_s, zy_g15_2 A3, zo_s, d15]
      cases o with
      | none =>
        rw [if_pos (show zq_sp none = -1 from rfl), zy_g18_4 A3, zo_s, zy_p18_4 A3, zo_s, zy_hh]
        refine go _ (zx_eqD_trans (zx_eqD_A (by decide)) (zx_eqD_I (by decide))) ⟨fun i hi => ?_, ?_, ?_⟩
        · show va_up D2.2.1 19 _ 19 i = _
          rw [va_up_self]
          exact spans i hi
        · rw [zy_In (by decide)]
          show D2.1 18 3 = if zq_fo (zx_P S t k) = true then _ else _
          rw [x1, if_neg (by decide), e18.1, v2]
        · rw [zy_Ii]
          show D2.1 18 4 ||| _ = if zq_lo (zx_P S t k) = true then _ else _
          rw [x1, if_pos (show zq_lo (some none) = true from rfl), e18.1, v3]
      | some x =>
        have ob : ∃ q', x.1 < 32 ∧ x.2 = q' ∧ x.2 < 32 := by
          obtain ⟨need, margin, en⟩ := zr_env_of zs docd
          have := zx_P_ok en hm ht x1
          have h24 := zx_n24 (S.2.1 2) t
          exact ⟨_, by omega, rfl, by omega⟩
        obtain ⟨q', y1, -, y3⟩ := ob
        rw [if_neg (show ¬ zq_sp (some x) = -1 from za_ne _ (by omega)), zy_g18_3 A3, zo_s, zy_p18_3 A3, zo_s, zy_hh]
        refine go _ (zx_eqD_trans (zx_eqD_A (by decide)) (zx_eqD_I (by decide))) ⟨fun i hi => ?_, ?_, ?_⟩
        · show va_up D2.2.1 19 _ 19 i = _
          rw [va_up_self]
          exact spans i hi
        · rw [zy_Ii]
          show D2.1 18 3 ||| _ = if zq_fo (zx_P S t k) = true then _ else _
          rw [x1, if_pos (show zq_fo (some (some x)) = true from rfl), e18.1, v2]
        · rw [zy_In (by decide)]
          show D2.1 18 4 = if zq_lo (zx_P S t k) = true then _ else _
          rw [x1, if_neg (show ¬ zq_lo (some (some x)) = true from fun h => by cases h), e18.1, v3]
theorem zs_fill19 {x : Int32} : ∀ (j k fu : Nat) (w : zc_H) (D : zy_D), zy_is z D w → k + j = 16 → j < fu → (∀ i, i < k → D.2.1 19 i = x) → ∃ c, zf_J7_fill_53178_L5 (some (z + 19)) x 16 fu w (nI k) = some (zy_h z (zy_A D 19 c) w) ∧ ∀ i, i < 16 → c i = x := by
  intro j
  induction j with
  | zero =>
    intro k fu w D A h1 h2 h3
    obtain ⟨fu, rfl⟩ : ∃ n, fu = n + 1 := ⟨fu - 1, by omega⟩
    have : k = 16 := by omega
    subst this
    refine ⟨D.2.1 19, ?_, h3⟩
    unfold zf_J7_fill_53178_L5
    rw [if_pos (show (16 : Int32) ≤ nI 16 by decide), zy_Ai, zy_is_e A]
  | succ j ih =>
    intro k fu w D A h1 h2 h3
    obtain ⟨fu, rfl⟩ : ∃ n, fu = n + 1 := ⟨fu - 1, by omega⟩
    obtain ⟨c, e1, e2⟩ := ih (k + 1) fu (zy_h z (zy_A D 19 (va_up (D.2.1 19) k x)) w) (zy_A D 19 (va_up (D.2.1 19) k x)) (zy_is_h _ _ _) (by omega) (by omega) (fun i hi => by
      rw [zy_Aa]
      by_cases y : i = k
      · subst y
        rw [va_up_self]
      · rw [va_up_ne _ _ y]
        exact h3 i (by omega))
    refine ⟨c, ?_, e2⟩
    unfold zf_J7_fill_53178_L5
    rw [if_neg (show ¬ (16 : Int32) ≤ nI k from nI_ge (show k < 16 by omega) (by decide)), zo_s, zy_s19 A (by omega), zo_s, ← nI_succ, e1, zy_hh, zy_AA]
theorem zs_taken (R : zx_RR z w D S (fun _ x => x = S.2.1 7 0) E f g f' g' fb N M N' M' nb) (zs : zx_s S N M) {t : Nat} (ht : t < N) : ∃ (w2 : zc_H) (D2 : zy_D) (E2 fb2 : Nat → Nat) (nb2 : Nat), zf_X7_take w (z + 18) (some (f t)) = some w2 ∧ zx_RR z w2 D2 S (fun _ x => x = S.2.1 7 0) E2 f g f' g' fb2 N M N' M' nb2 ∧ zy_sv D2 (zx_P S t) M ∧ zx_blk z w w2 ∧ zx_kp z w w2 := by
  obtain ⟨A, ⟨hz, -⟩, doc, -⟩ := id R
  have hM : M ≤ 16 := doc.2.1
  obtain ⟨c, e1, e2⟩ := zs_fill19 (x := -1) 16 0 2000 w D A rfl (by decide) (fun i hi => absurd hi (by omega))
  obtain ⟨w2, D2, E2, fb2, nb2, g1, g2, g3, g4, g5⟩ := zs_takeL (S := S) ht zs M 0 17 (zy_h z (zy_I (zy_I (zy_A D 19 c) 18 3 0) 18 4 0) w) (zy_I (zy_I (zy_A D 19 c) 18 3 0) 18 4 0) E fb nb (by omega) (by omega) (zx_RR_sh R (zx_eqD_trans (zx_eqD_trans (zx_eqD_A (by decide)) (zx_eqD_I (by decide))) (zx_eqD_I (by decide))) (zx_eqS_refl S)) ⟨fun i hi => by
    show va_up D.2.1 19 c 19 i = _
    rw [va_up_self, e2 i hi, if_neg (by omega)], by
    rw [zy_In (by decide), zy_Ii]
    rfl, by
    rw [zy_Ii]
    rfl⟩
  refine ⟨w2, D2, E2, fb2, nb2, ?_, g2, g3, zx_blk_trans (zx_h_blk z _ w) g4, zx_kp_trans (zx_h_kp z _ w) g5⟩
  unfold zf_X7_take zf_J7_fill_53178
  rw [if_neg (zy_is18 A), zy_r18_2 A, zo_s, zo_s, zy_n19 A hz, zo_s, show (0 : Int32) = nI 0 from rfl, e1, zo_s, zo_s, zy_p18_3 (zy_is_h _ _ _), zo_s, zy_hh, zy_p18_4 (zy_is_h _ _ _), zo_s, zy_hh]
  have g1' : zf_X7_take_L20 (z + 18) (some (f t)) 17 (zy_h z (zy_I (zy_I (zy_A D 19 c) 18 3 (nI 0)) 18 4 (nI 0)) w) (nI 0) = some w2 := g1
  rw [g1', zo_s]
end ZV
