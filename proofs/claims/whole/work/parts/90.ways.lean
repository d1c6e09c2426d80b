/-! ways: the chain of a revision, both sides -/
def zq_fm (F : Nat → Int32) (N : Nat) : Prop := N ≤ 16 ∧ ∀ r, r < N → F r = -1 ∨ (zx_k F r < r ∧ F r = nI (zx_k F r))
theorem zx_fm {z : Nat} {h : zc_H} {f g : Nat → Nat} {N M : Nat} {F C : Nat → Int32} {L : Nat → Int64} {T : Nat → Int32} {rdy : Nat → Int32 → Prop} (B : zx_doc z h f g N M F C L T rdy) : zq_fm F N := ⟨B.1, fun r hr => (zx_F B hr).imp (fun q => q.1) (fun q => ⟨q.1, q.2.1⟩)⟩
theorem zq_way_ok {F : Nat → Int32} {N r : Nat} (hF : zq_fm F N) : ∀ (k t : Nat) (l : List Nat), t < N → zq_way F r k t = some l → l.length ≤ t + 1 ∧ (∀ i, i < l.length → l.getD i 0 < N) ∧ ∀ i, i + 1 < l.length → l.getD (i + 1) 0 < l.getD i 0 ∧ F (l.getD i 0) = nI (l.getD (i + 1) 0) ∧ zx_k F (l.getD i 0) = l.getD (i + 1) 0 := by
  intro k
  induction k with
  | zero => intro t l _ h; cases h
  | succ k ih =>
    intro t l ht h
    unfold zq_way at h
    by_cases c : t = r
    · rw [if_pos c] at h
      cases h
      refine ⟨by show 1 ≤ t + 1; omega, fun i hi => ?_, fun i hi => ?_⟩
      · have : i = 0 := by
          have : i < 1 := hi
          omega
        subst this
        exact ht
      · have : i + 1 < 1 := hi
        omega
    · rw [if_neg c] at h
      rcases hF.2 t ht with e | ⟨e1, e2⟩
      · rw [if_pos e] at h
        cases h
      · rw [if_neg (by rw [e2]; exact za_ne _ (by have := hF.1; omega))] at h
        cases e : zq_way F r k (F t).toNatClampNeg with
        | none => rw [e] at h; cases h
        | some l2 =>
          rw [e] at h
          cases h
          obtain ⟨h1, h2, h3⟩ := ih _ l2 (show zx_k F t < N by omega) e
          have h0 := zq_way0 e
          have h1 : l2.length ≤ zx_k F t + 1 := h1
          refine ⟨by show l2.length + 1 ≤ t + 1; omega, fun i hi => ?_, fun i hi => ?_⟩
          · cases i with
            | zero => exact ht
            | succ i => exact h2 i (by have : i + 1 < l2.length + 1 := hi; omega)
          · cases i with
            | zero =>
              show l2.getD 0 0 < t ∧ F t = nI (l2.getD 0 0) ∧ zx_k F t = l2.getD 0 0
              rw [h0.2.1]
              exact ⟨e1, e2, rfl⟩
            | succ i => exact h3 i (by have : i + 1 + 1 < l2.length + 1 := hi; omega)
theorem zx_fr_e {z k : Nat} {w u : zc_H} {E : Nat → Nat} {e : Nat} (hE : zx_E z w E) (hk : zy_n k = false) (hz : w.2.2 < z) (hs : z + 60 ≤ w.2.1) (B : zx_fr (z + k) w (E k) u e) : e < u.2.1 := by
  have := (hE k hk).1
  have := B.1
  rcases B.2.2.1 with q | q
  · rw [q]
    omega
  · exact q.2
/-- one more in a list -/
theorem zx_fr_add {z k n x : Nat} {w u : zc_H} {E fn : Nat → Nat} {e : Nat} (hE : zx_E z w E) (hk : zy_n k = false) (hz : w.2.2 < z) (hs : z + 60 ≤ w.2.1) (B : zx_fr (z + k) w (E k) u e) (A : zk_al u (z + k) e n fn) (hn : n ≤ 16) (hx : zf_is u x 4 = true ∨ zf_is u x 3 = true) (hxl : x < u.2.1) (hf : ∀ i, i < n → zf_is u (fn i) 4 = true ∨ zf_is u (fn i) 3 = true) : ∃ u2 e2, zf_Jx4a65c_add_9ea2d u (z + k) (some x) = some (u2, 1) ∧ zk_al u2 (z + k) e2 (n + 1) (va_up fn n x) ∧ zx_fr (z + k) w (E k) u2 e2 ∧ zx_fr (z + k) u e u2 e2 := by
  have k38 := zx_n38 hk
  have he := zx_fr_e hE hk hz hs B
  have hu := B.1
  have ht := B.2.1
  obtain ⟨u2, e2, a1, a2, a3, a4, a5⟩ := zk_al_add A hn (by omega) he hx hxl hf (by omega)
  have F2 : zx_fr (z + k) u e u2 e2 := ⟨by omega, a4, by omega, fun y h1 h2 h3 => a5 y h1 h2 (by omega)⟩
  exact ⟨u2, e2, a1, a2, zx_fr_trans B F2, F2⟩
theorem zx_kp_is {z : Nat} {w u : zc_H} {y c : Nat} (A : zx_kp z w u) (h1 : z + 60 ≤ y) (h2 : y < w.2.1) (h : zf_is w y c = true) : zf_is u y c = true := by
  obtain ⟨fs, e⟩ := zf_is_e h
  have := A.2.2 y _ h1 h2 e (fun a q => by cases q)
  unfold zf_is
  rw [this]
  exact beq_iff_eq.mpr rfl
section ZL
variable {z : Nat} {w : zc_H} {D : zy_D} {E f g fb : Nat → Nat} {N M nb r : Nat} {F C : Nat → Int32} {L : Nat → Int64} {T : Nat → Int32} {rdy : Nat → Int32 → Prop}
theorem zs_layL (A : zy_is z D w) (hz : w.2.2 < z) (hs : z + 60 ≤ w.2.1) (hE : zx_E z w E) (al : zk_al w (z + 16) (E 16) nb fb) (B : zx_doc z w f g N M F C L T rdy) (hr : r < N) : ∀ (k t s fu : Nat) (u : zc_H) (e : Nat) (idx : Nat → Nat), t < k → t < N → s + t + 1 ≤ 16 → t + 1 < fu → zx_fr (z + 16) w (E 16) u e → zk_al u (z + 16) e s (fun i => f (idx i)) → (∀ i, i < s → idx i < N) → ∃ (u2 : zc_H) (e2 : Nat) (o : Unit ⊕ Unit), zf_X8_layWay_L9 (z + 15) (some (f r)) fu u (some (f t)) = some (u2, o) ∧ zx_fr (z + 16) w (E 16) u2 e2 ∧ ((∃ l, zq_way F r k t = some l ∧ o = .inr () ∧ zk_al u2 (z + 16) e2 (s + l.length) (fun i => if i < s then f (idx i) else f (l.getD (i - s) 0))) ∨ (zq_way F r k t = none ∧ o = .inl () ∧ ∃ n fn, zk_al u2 (z + 16) e2 n fn)) := by
  intro k
  induction k with
  | zero => intro t _ _ _ _ _ h; omega
  | succ k ih =>
    intro t s fu u e idx h1 h2 h3 h4 h5 h6 h7
    obtain ⟨fl, rfl⟩ : ∃ fl, fu = fl + 1 := ⟨fu - 1, by omega⟩
    have kp := zx_fr_kp (z := z) (k := 16) (by decide) al h5
    have is16 := zx_fr_is hE rfl hz hs A h5
    have isU : ∀ j, j < N → zf_is u (f j) 4 = true := fun j hj => zx_kp_is kp (B.2.2.1 j hj).1.1 (by have := (B.2.2.1 j hj).1.2.1; omega) (zx_rev_is B hj)
    have ltU : ∀ j, j < N → f j < u.2.1 := fun j hj => by have := (B.2.2.1 j hj).1.2.1; have := kp.1; omega
    obtain ⟨u2, e2, a1, a2, a3, -⟩ := zx_fr_add hE rfl hz hs h5 h6 (by omega) (Or.inl (isU t h2)) (ltU t h2) (fun i hi => Or.inl (isU _ (h7 i hi)))
    unfold zf_X8_layWay_L9 zq_way
    rw [if_neg (by simp), zy_r15_1 is16, zo_s, zo_s, a1, zo_s]
    dsimp only
    have a2' : zk_al u2 (z + 16) e2 (s + 1) (fun i => f (if i < s then idx i else t)) := zk_al_f a2 (fun i hi => by
      by_cases c : i = s
      · subst c
        rw [va_up_self, if_neg (Nat.lt_irrefl _)]
      · rw [va_up_ne _ _ c, if_pos (by omega)])
    by_cases c : t = r
    · subst c
      rw [if_pos rfl, if_pos rfl]
      refine ⟨u2, e2, _, rfl, a3, Or.inl ⟨[t], rfl, rfl, zk_al_f a2' (fun i hi => ?_)⟩⟩
      by_cases d : i < s
      · rw [if_pos d, if_pos d]
      · rw [if_neg d, if_neg d, show i - s = 0 by have : i < s + 1 := hi; omega]
        rfl
    · have kp2 := zx_fr_kp (z := z) (k := 16) (by decide) al a3
      have B2 := zx_doc_t kp2 B
      rw [if_neg (fun q => c (zx_inj B h2 hr (Option.some.inj q))), if_neg c, zo_s]
      rcases zx_F B2 h2 with ⟨q1, q2⟩ | ⟨q1, q2, q3⟩
      · rw [q2, zo_s, if_pos q1]
        obtain ⟨fm, rfl⟩ : ∃ fm, fl = fm + 1 := ⟨fl - 1, by omega⟩
        unfold zf_X8_layWay_L9
        rw [if_pos rfl]
        exact ⟨u2, e2, _, rfl, a3, Or.inr ⟨rfl, rfl, _, _, a2⟩⟩
      · rw [q3, zo_s, if_neg (by rw [q2]; exact za_ne _ (by have := B.1; omega))]
        obtain ⟨u3, e3, o, b1, b2, b3⟩ := ih (zx_k F t) (s + 1) fl u2 e2 (fun i => if i < s then idx i else t) (by omega) (by omega) (by omega) (by omega) a3 a2' (fun i hi => by
          by_cases d : i < s
          · rw [if_pos d]
            exact h7 i d
          · rw [if_neg d]
            exact h2)
        refine ⟨u3, e3, o, b1, b2, ?_⟩
        rcases b3 with ⟨l, c1, c2, c3⟩ | ⟨c1, c2, c3⟩
        · refine Or.inl ⟨t :: l, by rw [show (F t).toNatClampNeg = zx_k F t from rfl, c1]; rfl, c2, ?_⟩
          have el : s + (t :: l).length = s + 1 + l.length := by
            rw [List.length_cons]
            omega
          rw [el]
          refine zk_al_f c3 (fun i hi => ?_)
          by_cases d : i < s
          · rw [if_pos (by omega), if_pos d, if_pos d]
          · rw [if_neg d]
            by_cases d2 : i = s
            · subst d2
              rw [if_pos (by omega), if_neg (by omega), Nat.sub_self]
              rfl
            · rw [if_neg (by omega), show i - s = (i - (s + 1)) + 1 by omega, if_neg d]
              rfl
        · exact Or.inr ⟨by rw [show (F t).toNatClampNeg = zx_k F t from rfl, c1]; rfl, c2, c3⟩
theorem zs_lay (A : zy_is z D w) (hz : w.2.2 < z) (hs : z + 60 ≤ w.2.1) (hE : zx_E z w E) (al : zk_al w (z + 16) (E 16) nb fb) (B : zx_doc z w f g N M F C L T rdy) (hr : r < N) {t : Nat} (ht : t < N) : ∃ (u2 : zc_H) (e2 : Nat) (b : Int32), zf_X8_layWay w (z + 15) (some (f r)) (some (f t)) = some (u2, b) ∧ zx_fr (z + 16) w (E 16) u2 e2 ∧ ((∃ l, zq_way F r 17 t = some l ∧ b = 1 ∧ zk_al u2 (z + 16) e2 l.length (fun i => f (l.getD i 0))) ∨ (zq_way F r 17 t = none ∧ b = 0 ∧ ∃ n fn, zk_al u2 (z + 16) e2 n fn)) := by
  obtain ⟨u1, b1, b2, b3, b4⟩ := zk_al_clear (fun i => f ((fun _ => 0) i)) al
  have fr1 : zx_fr (z + 16) w (E 16) u1 (E 16) := ⟨by rw [b3]; exact Nat.le_refl _, by rw [b3], Or.inl rfl, fun y h1 h2 h3 => b4 y h1 h2⟩
  have hN := B.1
  obtain ⟨u2, e2, o, c1, c2, c3⟩ := zs_layL A hz hs hE al B hr 17 t 0 17 u1 (E 16) (fun _ => 0) (by omega) ht (by omega) (by omega) fr1 b2 (fun i hi => absurd hi (Nat.not_lt_zero i))
  unfold zf_X8_layWay
  rw [if_neg (zy_is15 A), zy_r15_1 A, zo_s, zo_s, b1, zo_s, c1, zo_s]
  rcases c3 with ⟨l, d1, d2, d3⟩ | ⟨d1, d2, d3⟩
  · subst d2
    refine ⟨u2, e2, 1, rfl, c2, Or.inl ⟨l, d1, rfl, ?_⟩⟩
    rw [Nat.zero_add] at d3
    exact zk_al_f d3 (fun i hi => by rw [if_neg (Nat.not_lt_zero i), Nat.sub_zero])
  · subst d2
    exact ⟨u2, e2, 0, rfl, c2, Or.inr ⟨d1, rfl, d3⟩⟩
/-- the class: is one behind another -/
theorem zs_behL (B : zx_doc z w f g N M F C L T rdy) (hr : r < N) : ∀ (k t fu : Nat), t < k → t < N → t + 1 < fu → ∃ o, zf_X4_isBehind_L2 w (f r) (some (f r)) fu (some (f t)) = some o ∧ ((∃ l, zq_way F r k t = some l ∧ o = .inr ()) ∨ (zq_way F r k t = none ∧ o = .inl ())) := by
  intro k
  induction k with
  | zero => intro t _ h; omega
  | succ k ih =>
    intro t fu h1 h2 h4
    obtain ⟨fl, rfl⟩ : ∃ fl, fu = fl + 1 := ⟨fu - 1, by omega⟩
    unfold zf_X4_isBehind_L2 zq_way
    rw [if_neg (by simp)]
    by_cases c : t = r
    · subst c
      rw [if_pos rfl, if_pos rfl]
      exact ⟨_, rfl, Or.inl ⟨_, rfl, rfl⟩⟩
    · rw [if_neg (fun q => c (zx_inj B h2 hr (Option.some.inj q))), if_neg c, zo_s]
      rcases zx_F B h2 with ⟨q1, q2⟩ | ⟨q1, q2, q3⟩
      · rw [q2, zo_s, if_pos q1]
        obtain ⟨fm, rfl⟩ : ∃ fm, fl = fm + 1 := ⟨fl - 1, by omega⟩
        unfold zf_X4_isBehind_L2
        rw [if_pos rfl]
        exact ⟨_, rfl, Or.inr ⟨rfl, rfl⟩⟩
      · rw [q3, zo_s, if_neg (by rw [q2]; exact za_ne _ (by have := B.1; omega))]
        obtain ⟨o, b1, b2⟩ := ih (zx_k F t) fl (by omega) (by omega) (by omega)
        refine ⟨o, b1, ?_⟩
        rw [show (F t).toNatClampNeg = zx_k F t from rfl]
        rcases b2 with ⟨l, c1, c2⟩ | ⟨c1, c2⟩
        · exact Or.inl ⟨t :: l, by rw [c1]; rfl, c2⟩
        · exact Or.inr ⟨by rw [c1]; rfl, c2⟩
theorem zs_beh (B : zx_doc z w f g N M F C L T rdy) (hr : r < N) {t : Nat} (ht : t < N) : ∃ b : Int32, zf_X4_isBehind w (f t) (some (f r)) = some b ∧ ((∃ l, zq_way F r 17 t = some l ∧ b = 1) ∨ (zq_way F r 17 t = none ∧ b = 0)) := by
  have hN := B.1
  obtain ⟨o, c1, c3⟩ := zs_behL B hr 17 t 2000 (by omega) ht (by omega)
  unfold zf_X4_isBehind
  rw [if_neg (not_not_intro (zx_rev_is B ht))]
  have e : ∀ n y, zf_X4_isBehind_L2 w (f t) (some (f r)) n y = zf_X4_isBehind_L2 w (f r) (some (f r)) n y := by
    intro n
    induction n with
    | zero => intro y; rfl
    | succ n ih =>
      intro y
      unfold zf_X4_isBehind_L2
      simp only [ih]
  rw [e, c1, zo_s]
  rcases c3 with ⟨l, d1, rfl⟩ | ⟨d1, rfl⟩
  · exact ⟨1, rfl, Or.inl ⟨l, d1, rfl⟩⟩
  · exact ⟨0, rfl, Or.inr ⟨d1, rfl⟩⟩
end ZL
/-- the reference's chain -/
theorem zr_behL {S : zm_S} {N r : Nat} (hF : zq_fm (S.2.1 1) N) (hr : r < N) : ∀ (k t n fu : Nat) (c : Nat → Int32), t < k → t < N → n + t + 1 ≤ 16 → t + 1 < fu → ∃ (c2 : Nat → Int32) (o : Unit ⊕ Int32), zg_X10_behind_L5 (nI r) fu (zx_SA S 30 c) (nI n) (nI t) = some (zx_SA S 30 c2, o) ∧ (∀ j, j < n → c2 j = c j) ∧ ((∃ l, zq_way (S.2.1 1) r k t = some l ∧ o = .inr (nI (n + l.length - 1)) ∧ ∀ i, i < l.length → c2 (n + i) = nI (l.getD i 0)) ∨ (zq_way (S.2.1 1) r k t = none ∧ o = .inl ())) := by
  intro k
  induction k with
  | zero => intro t _ _ _ h; omega
  | succ k ih =>
    intro t n fu c h1 h2 h3 h4
    obtain ⟨fl, rfl⟩ : ∃ fl, fu = fl + 1 := ⟨fu - 1, by omega⟩
    have hN := hF.1
    unfold zg_X10_behind_L5 zq_way
    rw [if_neg (za_ne _ (by omega)), zx_si (by omega) (by decide), zo_s, zx_SAA, zx_SAa]
    by_cases d : t = r
    · subst d
      rw [if_pos rfl, if_pos rfl]
      refine ⟨_, _, rfl, fun j hj => va_up_ne _ _ (by omega), Or.inl ⟨[t], rfl, by rw [show n + [t].length - 1 = n by simp], fun i hi => ?_⟩⟩
      have : i = 0 := by
        have : i < 1 := hi
        omega
      subst this
      rw [Nat.add_zero, va_up_self]
      rfl
    · rw [if_neg (fun q => d ((za_eq (by omega) (by omega)).mp q)), if_neg d, zx_SAn S _ (show (1 : Nat) ≠ 30 by decide), za_ai (by omega) (by decide), zo_s]
      rcases hF.2 t h2 with e | ⟨e1, e2⟩
      · rw [if_pos e, e]
        obtain ⟨fm, rfl⟩ : ∃ fm, fl = fm + 1 := ⟨fl - 1, by omega⟩
        unfold zg_X10_behind_L5
        rw [if_pos rfl]
        exact ⟨_, _, rfl, fun j hj => va_up_ne _ _ (by omega), Or.inr ⟨rfl, rfl⟩⟩
      · rw [if_neg (by rw [e2]; exact za_ne _ (by omega)), ← nI_succ]
        obtain ⟨c2, o, b1, b2, b3⟩ := ih (zx_k (S.2.1 1) t) (n + 1) fl (va_up c n (nI t)) (by omega) (by omega) (by omega) (by omega)
        rw [← e2] at b1
        refine ⟨c2, o, b1, fun j hj => by rw [b2 j (by omega), va_up_ne _ _ (by omega)], ?_⟩
        rw [show (S.2.1 1 t).toNatClampNeg = zx_k (S.2.1 1) t from rfl]
        rcases b3 with ⟨l, g1, g2, g3⟩ | ⟨g1, g2⟩
        · refine Or.inl ⟨t :: l, by rw [g1]; rfl, ?_, fun i hi => ?_⟩
          · rw [g2, List.length_cons]
            congr 2
            omega
          · cases i with
            | zero =>
              rw [Nat.add_zero, b2 n (by omega), va_up_self]
              rfl
            | succ i =>
              have := g3 i (by have : i + 1 < l.length + 1 := hi; omega)
              rw [show n + (i + 1) = n + 1 + i by omega, this]
              rfl
        · exact Or.inr ⟨by rw [g1]; rfl, g2⟩
theorem zr_beh {S : zm_S} {N r t : Nat} (hF : zq_fm (S.2.1 1) N) (hr : r < N) (ht : t < N) : ∃ (c : Nat → Int32) (b : Int32), zg_X10_behind S (nI t) (nI r) = some (zx_SA S 30 c, b) ∧ ((∃ l, zq_way (S.2.1 1) r 17 t = some l ∧ b = nI (l.length - 1) ∧ ∀ i, i < l.length → c i = nI (l.getD i 0)) ∨ (zq_way (S.2.1 1) r 17 t = none ∧ b = -1)) := by
  have hN := hF.1
  obtain ⟨c2, o, b1, -, b3⟩ := zr_behL hF hr 17 t 0 2000 (S.2.1 30) (by omega) ht (by omega) (by omega)
  rw [zx_SAi] at b1
  unfold zg_X10_behind
  rw [show (0 : Int32) = nI 0 by decide, b1, zo_s]
  rcases b3 with ⟨l, g1, g2, g3⟩ | ⟨g1, g2⟩
  · subst g2
    refine ⟨c2, _, rfl, Or.inl ⟨l, g1, by rw [Nat.zero_add], fun i hi => ?_⟩⟩
    have := g3 i hi
    rwa [Nat.zero_add] at this
  · subst g2
    exact ⟨c2, _, rfl, Or.inr ⟨g1, rfl⟩⟩
