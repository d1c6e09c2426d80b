/-! one step of a drift -/
def zd_k33 (q : Nat) (k v8 : Int32) (h33j : zc_H) (s33_0 : Int32) : Option zc_H :=
  if k = 0 then
    if 24 ≤ v8 then
      some h33j
    else
    (zf_gr h33j q 9 6).bind fun v28 =>
    (zf_gr h33j q 9 1).bind fun v30 =>
    v30.bind fun a32 =>
    (zf_X6_draw h33j a32 26).bind fun r33 =>
    v28.bind fun a34 =>
    (zf_X0_insert r33.1 a34 s33_0 (((97 + r33.2) : Int32).toInt64)).bind fun r35 =>
    some r35
  else
  if v8 = 0 then
    some h33j
  else
  (zf_gr h33j q 9 6).bind fun v13 =>
  v13.bind fun a15 =>
  (zf_X0_remove h33j a15 s33_0).bind fun r16 =>
  if k = 2 then
    (zf_gr r16.1 q 9 6).bind fun v23 =>
    v23.bind fun a25 =>
    (zf_X0_insert r16.1 a25 0 r16.2).bind fun r26 =>
    some r26
  else
  if k = 3 then
    (zf_gr r16.1 q 9 6).bind fun v19 =>
    v19.bind fun a21 =>
    (zf_X0_insert r16.1 a21 s33_0 122).bind fun r22 =>
    some r22
  else
  some r16.1
theorem zd_draft (h : zc_H) (q : Nat) : zf_X9_driftDraft h q = (if ¬ zf_is h q 9 = true then none else
  (zf_gr h q 9 1).bind fun v1 =>
  v1.bind fun a3 =>
  (zf_X6_draw h a3 4).bind fun r4 =>
  (zf_gr r4.1 q 9 6).bind fun v5 =>
  v5.bind fun a7 =>
  (zf_gi r4.1 a7 0 1).bind fun v8 =>
  if v8 = 0 then
    zd_k33 q r4.2 v8 r4.1 0
  else
  (zf_gr r4.1 q 9 1).bind fun v36 =>
  v36.bind fun a38 =>
  (zf_X6_draw r4.1 a38 v8).bind fun r39 =>
  zd_k33 q r4.2 v8 r39.1 r39.2) := rfl
def zd_k266 (n0 : Int32) (h : zm_S) : Option zm_S := (zg_X10_comesTo h (n0 - 1)).bind fun r14 => some r14.1
def zd_k244 (n0 v7 k s : Int32) (h : zm_S) : Option zm_S :=
  if k = 3 then
    if v7 ≤ 0 then
      zd_k266 n0 h
    else
    (zg_sj 3 408 h ((24 * n0) + s) 122).bind fun h19 =>
    zd_k266 n0 h19
  else
  zd_k266 n0 h
def zd_k180 (n0 v7 k s : Int32) (h : zm_S) : Option zm_S :=
  if k = 2 then
    if v7 ≤ 0 then
      zd_k244 n0 v7 k s h
    else
    (zg_aj 408 (h.2.2 3) ((24 * n0) + s)).bind fun v24 =>
    (zg_X10_drifts_L205 n0 (24 * n0) v7 k s v24 2000 h s).bind fun w34 =>
    (zg_sj 3 408 w34 (24 * n0) v24).bind fun h38 =>
    zd_k244 n0 v7 k s h38
  else
  zd_k244 n0 v7 k s h
def zd_k122 (n0 v7 k s : Int32) (h : zm_S) : Option zm_S :=
  if k = 1 then
    if v7 ≤ 0 then
      zd_k180 n0 v7 k s h
    else
    (zg_X10_drifts_L136 n0 (24 * n0) v7 k s 2000 h s).bind fun w49 =>
    (zg_ai 17 (w49.2.1 2) n0).bind fun v53 =>
    (zg_si 2 17 w49 n0 (v53 - 1)).bind fun h54 =>
    zd_k180 n0 v7 k s h54
  else
  zd_k180 n0 v7 k s h
def zd_k44 (n0 v7 k : Int32) (h : zm_S) (s : Int32) : Option zm_S :=
  if k = 0 then
    if 24 ≤ v7 then
      zd_k122 n0 v7 k s h
    else
    (zg_X10_drifts_L60 n0 (24 * n0) v7 k s 2000 h v7).bind fun w65 =>
    (zg_X10_draw w65 26).bind fun r68 =>
    (zg_sj 3 408 r68.1 ((24 * n0) + s) (((97 + r68.2) : Int32).toInt64)).bind fun h70 =>
    (zg_ai 17 (h70.2.1 2) n0).bind fun v74 =>
    (zg_si 2 17 h70 n0 (v74 + 1)).bind fun h75 =>
    zd_k122 n0 v7 k s h75
  else
  zd_k122 n0 v7 k s h
theorem zd_drifts (h : zm_S) : zg_X10_drifts h = ((zg_X10_copies h ((h.1 0) - 1)).bind fun r3 =>
  (zg_ai 17 (r3.2.1 2) (h.1 0)).bind fun v7 =>
  (zg_X10_draw r3 4).bind fun r8 =>
  if v7 = 0 then
    zd_k44 (h.1 0) v7 r8.2 r8.1 0
  else
  (zg_X10_draw r8.1 v7).bind fun r76 =>
  zd_k44 (h.1 0) v7 r8.2 r76.1 r76.2) := rfl
/-- both sides in the middle of a step -/
def zx_dft (z : Nat) (w : zc_H) (f g f' g' : Nat → Nat) (N M N' M' : Nat) (D' : zy_D) (S' : zm_S) (n : Nat) (L : Nat → Int64) : Prop := ∃ (Sh : zm_S) (E fb : Nat → Nat) (nb : Nat), zx_s Sh N M ∧ zx_RR z (zy_h z D' w) D' Sh (fun _ x => x = Sh.2.1 7 0) E f g f' g' fb N M N' M' nb ∧ zx_rdd Sh S' N ∧ zy_dr D' n L ∧ S'.2.1 2 N = nI n ∧ ∀ i, i < n → L i = S'.2.2 3 (24 * N + i) ∧ ¬ L i = 0
theorem zx_rdd_trans {S S2 S3 : zm_S} {N : Nat} (A : zx_rdd S S2 N) (B : zx_rdd S2 S3 N) : zx_rdd S S3 N := by
  obtain ⟨a1, a2, a3, a4, a5⟩ := A
  obtain ⟨b1, b2, b3, b4, b5⟩ := B
  exact ⟨b1.trans a1, fun k h => (b2 k h).trans (a2 k h), fun r h => (b3 r h).trans (a3 r h), fun k h => (b4 k h).trans (a4 k h), fun j h => (b5 j h).trans (a5 j h)⟩
section ZV
variable {z : Nat} {w : zc_H} {f g f' g' : Nat → Nat} {N M N' M' n : Nat} {D' : zy_D} {S' : zm_S} {L : Nat → Int64}
theorem zx_dft_draw (A : zx_dft z w f g f' g' N M N' M' D' S' n L) {x : Nat} (h0 : 0 < x) (h : x < 2 ^ 31) : ∃ (d : Nat) (D2 : zy_D) (v : Int32), d < x ∧ zf_X6_draw (zy_h z D' w) (z + 2) (nI x) = some (zy_h z D2 w, nI d) ∧ (∀ S'', S''.1 = S'.1 → zg_X10_draw S'' (nI x) = some (zg_p S'' 8 v, nI d)) ∧ zx_dft z w f g f' g' N M N' M' D2 (zg_p S' 8 v) n L := by
  obtain ⟨Sh, E, fb, nb, zs, R, Q, V, r2, r3⟩ := A
  obtain ⟨q1, q2, q3, q4, q5⟩ := id Q
  have e26 : D'.1 2 6 = Sh.1 8 := R.2.2.2.2.1.2.2.2.2.2.1
  obtain ⟨d, hd, ed⟩ := za_draw (zq_sd (Sh.1 8)) h0 h
  have R2 := zx_RR_8 R (zq_sd (Sh.1 8))
  rw [zy_hh] at R2
  refine ⟨d, zy_I D' 2 6 (zq_sd (Sh.1 8)), zq_sd (Sh.1 8), hd, ?_, fun S'' hS => ?_, zg_p Sh 8 (zq_sd (Sh.1 8)), E, fb, nb, zx_s_p (by decide) (by decide) (by decide) zs, R2, ⟨?_, q2, q3, q4, q5⟩, ⟨by rw [zy_I1 (by decide)]; exact V.1, V.2⟩, r2, r3⟩
  · rw [zs_draw R.1 e26 h0 h ed, zy_hh]
  · exact zr_draw (by rw [hS, q1]) h0 h ed
  · show va_up S'.1 8 _ = va_up Sh.1 8 _
    rw [q1]
theorem zx_dft_lines (A : zx_dft z w f g f' g' N M N' M' D' S' n L) {D2 : zy_D} {S2 : zm_S} {n2 : Nat} {L2 : Nat → Int64} (hD : zx_eqD D' D2) (V : zy_dr D2 n2 L2) (Q : zx_rdd S' S2 N) (r2 : S2.2.1 2 N = nI n2) (r3 : ∀ i, i < n2 → L2 i = S2.2.2 3 (24 * N + i) ∧ ¬ L2 i = 0) : zx_dft z w f g f' g' N M N' M' D2 S2 n2 L2 := by
  obtain ⟨Sh, E, fb, nb, zs, R, Q', -, -, -⟩ := A
  have R2 := zx_RR_sh R hD (zx_eqS_refl Sh)
  rw [zy_hh] at R2
  exact ⟨Sh, E, fb, nb, zs, R2, zx_rdd_trans Q' Q, V, r2, r3⟩
theorem zx_dft_is (A : zx_dft z w f g f' g' N M N' M' D' S' n L) : zy_is z D' (zy_h z D' w) ∧ w.2.2 < z ∧ zy_dr D' n L ∧ S'.2.1 2 N = nI n ∧ ∀ i, i < n → L i = S'.2.2 3 (24 * N + i) ∧ ¬ L i = 0 := by
  obtain ⟨Sh, E, fb, nb, zs, R, Q, V, r2, r3⟩ := A
  exact ⟨R.1, R.2.1.1, V, r2, r3⟩
theorem za_24m (N : Nat) : (24 : Int32) * nI N = nI (24 * N) := by rw [show (24 : Int32) = nI 24 by decide, za_mul]
theorem za_97 {d : Nat} (hd : d < 26) : ¬ ((97 + nI d : Int32)).toInt64 = 0 := by
  intro h
  have e := congrArg Int64.toInt32 h
  rw [Int32.toInt32_toInt64, show (97 : Int32) = nI 97 by decide, za_add] at e
  have e2 : nI (97 + d) = nI 0 := e
  have := (za_eq (by omega) (by decide)).mp e2
  omega
theorem zx_SJA_rdd {S : zm_S} {c : Nat → Int64} {r : Nat → Int32} (h3 : ∀ j, j < 24 * N → c j = S.2.2 3 j) (h2 : ∀ k, k < N → r k = S.2.1 2 k) : zx_rdd S (zx_SA (zx_SJ S 3 c) 2 r) N := ⟨rfl, fun k hk => zx_SAn (zx_SJ S 3 c) r hk, fun k hk => (congrFun (zx_SAa (S := zx_SJ S 3 c)) k).trans (h2 k hk), fun k hk => va_up_ne S.2.2 c hk, fun j hj => (congrFun (va_up_self S.2.2 3 c) j).trans (h3 j hj)⟩
theorem zx_SJ_rdd {S : zm_S} {c : Nat → Int64} (h3 : ∀ j, j < 24 * N → c j = S.2.2 3 j) : zx_rdd S (zx_SJ S 3 c) N := ⟨rfl, fun _ _ => rfl, fun _ _ => rfl, fun k hk => va_up_ne S.2.2 c hk, fun j hj => (congrFun (va_up_self S.2.2 3 c) j).trans (h3 j hj)⟩
theorem zx_dft_k (hN : N < 16) (A : zx_dft z w f g f' g' N M N' M' D' S' n L) {d s : Nat} (hd : d < 4) (hs : s < n ∨ (n = 0 ∧ s = 0)) : ∃ (D4 : zy_D) (S4 : zm_S) (n4 : Nat) (L4 : Nat → Int64), zd_k33 z (nI d) (nI n) (zy_h z D' w) (nI s) = some (zy_h z D4 w) ∧ zd_k44 (nI N) (nI n) (nI d) S' (nI s) = zd_k266 (nI N) S4 ∧ zx_dft z w f g f' g' N M N' M' D4 S4 n4 L4 := by
  obtain ⟨A1, hz, V, r2, r3⟩ := zx_dft_is A
  have hn := V.2.1
  have hb : 24 * N + 24 ≤ 408 := by omega
  have hd4 : d = 0 ∨ d = 1 ∨ d = 2 ∨ d = 3 := by omega
  rcases hd4 with rfl | rfl | rfl | rfl
  · -- a line is put in
    by_cases n24 : n = 24
    · subst n24
      refine ⟨D', S', 24, L, ?_, ?_, A⟩
      · unfold zd_k33
        rw [if_pos (show nI 0 = 0 by decide), if_pos (show (24 : Int32) ≤ nI 24 by decide)]
      · unfold zd_k44 zd_k122 zd_k180 zd_k244
        rw [if_pos (show nI 0 = 0 by decide), if_pos (show (24 : Int32) ≤ nI 24 by decide), if_neg (show ¬ nI 0 = 1 by decide), if_neg (show ¬ nI 0 = 2 by decide), if_neg (show ¬ nI 0 = 3 by decide)]
    · obtain ⟨e, D2, v, he, k1, k2, k3⟩ := zx_dft_draw A (x := 26) (by decide) (by decide)
      obtain ⟨A2, -, V2, -, -⟩ := zx_dft_is k3
      obtain ⟨D3, i1, i2, i3⟩ := zs_insert A2 hz V2 (show n < 24 by omega) (show s ≤ n by omega) ((97 + nI e : Int32)).toInt64
      rw [zy_hh] at i1
      obtain ⟨c, c1, c2, c3⟩ := zr_sh60 (b := 24 * N) (s := s) (y1 := nI N) (y3 := nI n) (y4 := nI 0) hb (n - s) n 2000 S' (by omega) (by omega) (by omega)
      refine ⟨D3, zx_SA (zx_SJ (zg_p S' 8 v) 3 (va_up c (24 * N + s) ((97 + nI e : Int32)).toInt64)) 2 (va_up (S'.2.1 2) N (nI n + 1)), n + 1, _, ?_, ?_, zx_dft_lines k3 i2 i3 (zx_SJA_rdd (fun j hj => ?_) (fun r hr => va_up_ne _ _ (by omega))) ?_ (fun i hi => ?_)⟩
      · unfold zd_k33
        rw [if_pos (show nI 0 = 0 by decide), if_neg (show ¬ (24 : Int32) ≤ nI n from nI_ge (show n < 24 by omega) (by decide)), zy_r0_6 A1, zo_s, zy_r0_1 A1, zo_s, zo_s, show (26 : Int32) = nI 26 by decide, k1, zo_s, zo_s, i1, zo_s]
      · have p1 : (zx_SJ (zg_p (zx_SJ S' 3 c) 8 v) 3 (va_up ((zg_p (zx_SJ S' 3 c) 8 v).2.2 3) (24 * N + s) ((97 + nI e : Int32)).toInt64)).2.1 2 = S'.2.1 2 := rfl
        unfold zd_k44 zd_k122 zd_k180 zd_k244
        rw [if_pos (show nI 0 = 0 by decide), if_neg (show ¬ (24 : Int32) ≤ nI n from nI_ge (show n < 24 by omega) (by decide)), za_24m, c1, zo_s, show (26 : Int32) = nI 26 by decide, k2 (zx_SJ S' 3 c) rfl, zo_s, za_add, zx_sj (by omega) (by decide), zo_s, za_ai (by omega) (by decide), p1, r2, zo_s, zx_si (by omega) (by decide), zo_s, if_neg (show ¬ nI 0 = 1 by decide), if_neg (show ¬ nI 0 = 2 by decide), if_neg (show ¬ nI 0 = 3 by decide), p1, show (zg_p (zx_SJ S' 3 c) 8 v).2.2 3 = c from va_up_self S'.2.2 3 c]
        have e1 : zx_SJ (zg_p (zx_SJ S' 3 c) 8 v) 3 (va_up c (24 * N + s) ((97 + nI e : Int32)).toInt64) = zx_SJ (zg_p S' 8 v) 3 (va_up c (24 * N + s) ((97 + nI e : Int32)).toInt64) := by
          show (_, _, va_up (va_up S'.2.2 3 c) 3 _) = _
          rw [zu_twice]
          rfl
        rw [e1]
      · rw [va_up_ne _ _ (by omega)]
        exact c2 j (by omega)
      · rw [zx_SAa, va_up_self, nI_succ]
      · rw [zx_SASJ]
        unfold zq_ins
        by_cases y1 : i < s
        · rw [if_pos y1, va_up_ne _ _ (by omega), c2 _ (by omega)]
          exact r3 i (by omega)
        · rw [if_neg y1]
          by_cases y2 : i = s
          · subst y2
            rw [if_pos rfl, va_up_self]
            exact ⟨rfl, za_97 he⟩
          · rw [if_neg y2, va_up_ne _ _ (by omega), c3 i (by omega) (by omega)]
            exact r3 _ (by omega)
  · -- a line is taken out
    by_cases n0 : n = 0
    · subst n0
      refine ⟨D', S', 0, L, ?_, ?_, A⟩
      · unfold zd_k33
        rw [if_neg (show ¬ nI 1 = 0 by decide), if_pos (show nI 0 = 0 by decide)]
      · unfold zd_k44 zd_k122 zd_k180 zd_k244
        rw [if_neg (show ¬ nI 1 = 0 by decide), if_pos (show nI 1 = 1 by decide), if_pos (show nI 0 ≤ 0 by decide), if_neg (show ¬ nI 1 = 2 by decide), if_neg (show ¬ nI 1 = 3 by decide)]
    · obtain ⟨m, rfl⟩ : ∃ m, n = m + 1 := ⟨n - 1, by omega⟩
      obtain ⟨D3, i1, i2, i3⟩ := zs_remove A1 hz V (show s < m + 1 by omega)
      rw [zy_hh] at i1
      obtain ⟨c, c1, c2, c3⟩ := zr_sh136 (b := 24 * N) (n := m) (y1 := nI N) (y4 := nI 1) (y5 := nI s) hb hn (m - s) s 2000 S' (by omega) (by omega)
      refine ⟨D3, zx_SA (zx_SJ S' 3 c) 2 (va_up (S'.2.1 2) N (nI m)), m, _, ?_, ?_, zx_dft_lines A i2 i3 (zx_SJA_rdd (fun j hj => c2 j (by omega)) (fun r hr => va_up_ne _ _ (by omega))) ?_ (fun i hi => ?_)⟩
      · unfold zd_k33
        rw [if_neg (show ¬ nI 1 = 0 by decide), if_neg (show ¬ nI (m + 1) = 0 from nI_ne0 (by omega) (by omega)), zy_r0_6 A1, zo_s, zo_s, i1, zo_s, if_neg (show ¬ nI 1 = 2 by decide), if_neg (show ¬ nI 1 = 3 by decide)]
      · have p1 : (zx_SJ S' 3 c).2.1 2 = S'.2.1 2 := rfl
        unfold zd_k44 zd_k122 zd_k180 zd_k244
        rw [if_neg (show ¬ nI 1 = 0 by decide), if_pos (show nI 1 = 1 by decide), if_neg (show ¬ nI (m + 1) ≤ 0 from nI_ge (show 0 < m + 1 by omega) (by omega)), za_24m, c1, zo_s, za_ai (by omega) (by decide), p1, r2, zo_s, zx_si (by omega) (by decide), zo_s, if_neg (show ¬ nI 1 = 2 by decide), if_neg (show ¬ nI 1 = 3 by decide), p1, show nI (m + 1) - 1 = nI m from by rw [show (1 : Int32) = nI 1 by decide, za_sub (by omega), Nat.add_sub_cancel]]
      · rw [zx_SAa, va_up_self]
      · rw [zx_SASJ]
        unfold zq_del
        by_cases y1 : i < s
        · rw [if_pos y1, c2 _ (by omega)]
          exact r3 i (by omega)
        · rw [if_neg y1, c3 i (by omega) hi]
          exact r3 _ (by omega)
  · -- a line goes to the top
    by_cases n0 : n = 0
    · subst n0
      refine ⟨D', S', 0, L, ?_, ?_, A⟩
      · unfold zd_k33
        rw [if_neg (show ¬ nI 2 = 0 by decide), if_pos (show nI 0 = 0 by decide)]
      · unfold zd_k44 zd_k122 zd_k180 zd_k244
        rw [if_neg (show ¬ nI 2 = 0 by decide), if_neg (show ¬ nI 2 = 1 by decide), if_pos (show nI 2 = 2 by decide), if_pos (show nI 0 ≤ 0 by decide), if_neg (show ¬ nI 2 = 3 by decide)]
    · obtain ⟨m, rfl⟩ : ∃ m, n = m + 1 := ⟨n - 1, by omega⟩
      obtain ⟨D3, i1, i2, i3⟩ := zs_remove A1 hz V (show s < m + 1 by omega)
      rw [zy_hh] at i1
      have A3 := zy_is_h z D3 w
      obtain ⟨D4, j1, j2, j3⟩ := zs_insert (p := 0) A3 hz i3 (by omega) (Nat.zero_le _) (L s)
      rw [zy_hh] at j1
      obtain ⟨c, c1, c2, c3⟩ := zr_sh205 (b := 24 * N) (y1 := nI N) (y3 := nI (m + 1)) (y4 := nI 2) (y5 := nI s) (y6 := L s) hb s 2000 S' (by omega) (by omega)
      refine ⟨D4, zx_SJ S' 3 (va_up c (24 * N) (L s)), m + 1, _, ?_, ?_, zx_dft_lines A (zx_eqD_trans i2 j2) j3 (zx_SJ_rdd (fun j hj => ?_)) r2 (fun i hi => ?_)⟩
      · unfold zd_k33
        rw [if_neg (show ¬ nI 2 = 0 by decide), if_neg (show ¬ nI (m + 1) = 0 from nI_ne0 (by omega) (by omega)), zy_r0_6 A1, zo_s, zo_s, i1, zo_s, if_pos (show nI 2 = 2 by decide), zy_r0_6 A3, zo_s, zo_s, show (0 : Int32) = nI 0 from rfl, j1, zo_s]
      · unfold zd_k44 zd_k122 zd_k180 zd_k244
        rw [if_neg (show ¬ nI 2 = 0 by decide), if_neg (show ¬ nI 2 = 1 by decide), if_pos (show nI 2 = 2 by decide), if_neg (show ¬ nI (m + 1) ≤ 0 from nI_ge (show 0 < m + 1 by omega) (by omega)), za_24m, za_add, za_aj (by omega) (by decide), zo_s, ← (r3 s (by omega)).1, c1, zo_s, zx_sj (by omega) (by decide), zo_s, if_neg (show ¬ nI 2 = 3 by decide), zx_SJj, zx_SJJ]
      · rw [va_up_ne _ _ (by omega)]
        exact c2 j (by omega)
      · rw [zx_SJj]
        unfold zq_ins zq_del
        rw [if_neg (Nat.not_lt_zero i)]
        by_cases y0 : i = 0
        · subst y0
          rw [if_pos rfl, Nat.add_zero, va_up_self]
          exact ⟨rfl, (r3 s (by omega)).2⟩
        · rw [if_neg y0, va_up_ne _ _ (by omega)]
          by_cases y1 : i - 1 < s
          · rw [if_pos y1, c3 i (by omega) (by omega)]
            exact r3 _ (by omega)
          · rw [if_neg y1, c2 _ (by omega), show i - 1 + 1 = i by omega]
            exact r3 i hi
  · -- a line becomes another
    by_cases n0 : n = 0
    · subst n0
      refine ⟨D', S', 0, L, ?_, ?_, A⟩
      · unfold zd_k33
        rw [if_neg (show ¬ nI 3 = 0 by decide), if_pos (show nI 0 = 0 by decide)]
      · unfold zd_k44 zd_k122 zd_k180 zd_k244
        rw [if_neg (show ¬ nI 3 = 0 by decide), if_neg (show ¬ nI 3 = 1 by decide), if_neg (show ¬ nI 3 = 2 by decide), if_pos (show nI 3 = 3 by decide), if_pos (show nI 0 ≤ 0 by decide)]
    · obtain ⟨m, rfl⟩ : ∃ m, n = m + 1 := ⟨n - 1, by omega⟩
      obtain ⟨D3, i1, i2, i3⟩ := zs_remove A1 hz V (show s < m + 1 by omega)
      rw [zy_hh] at i1
      have A3 := zy_is_h z D3 w
      obtain ⟨D4, j1, j2, j3⟩ := zs_insert A3 hz i3 (by omega) (show s ≤ m by omega) 122
      rw [zy_hh] at j1
      refine ⟨D4, zx_SJ S' 3 (va_up (S'.2.2 3) (24 * N + s) 122), m + 1, _, ?_, ?_, zx_dft_lines A (zx_eqD_trans i2 j2) j3 (zx_SJ_rdd (fun j hj => va_up_ne _ _ (by omega))) r2 (fun i hi => ?_)⟩
      · unfold zd_k33
        rw [if_neg (show ¬ nI 3 = 0 by decide), if_neg (show ¬ nI (m + 1) = 0 from nI_ne0 (by omega) (by omega)), zy_r0_6 A1, zo_s, zo_s, i1, zo_s, if_neg (show ¬ nI 3 = 2 by decide), if_pos (show nI 3 = 3 by decide), zy_r0_6 A3, zo_s, zo_s, j1, zo_s]
      · unfold zd_k44 zd_k122 zd_k180 zd_k244
        rw [if_neg (show ¬ nI 3 = 0 by decide), if_neg (show ¬ nI 3 = 1 by decide), if_neg (show ¬ nI 3 = 2 by decide), if_pos (show nI 3 = 3 by decide), if_neg (show ¬ nI (m + 1) ≤ 0 from nI_ge (show 0 < m + 1 by omega) (by omega)), za_24m, za_add, zx_sj (by omega) (by decide), zo_s]
      · rw [zx_SJj]
        unfold zq_ins zq_del
        by_cases y1 : i < s
        · rw [if_pos y1, if_pos y1, va_up_ne _ _ (by omega)]
          exact r3 i hi
        · rw [if_neg y1]
          by_cases y2 : i = s
          · subst y2
            rw [if_pos rfl, va_up_self]
            exact ⟨rfl, by decide⟩
          · rw [if_neg y2, if_neg (by omega), va_up_ne _ _ (by omega), show i - 1 + 1 = i by omega]
            exact r3 i hi
end ZV
