/-! moves of remarks: both sides in step -/
def zx_tr (D : zy_D) (S : zm_S) (t : Nat) : Prop := D.1 20 1 = nI t ∧ S.1 13 = nI t ∧ ∀ i, i < 20 → D.2.1 21 i = S.2.1 14 i
def zx_mv (D D2 : zy_D) : Prop := (∀ j, j ≠ 20 → D2.1 j = D.1 j) ∧ (∀ j, j ≠ 1 → D2.1 20 j = D.1 20 j) ∧ (∀ j, j ≠ 21 → D2.2.1 j = D.2.1 j) ∧ D2.2.2 = D.2.2
def zx_mS (S S2 : zm_S) : Prop := (∀ j, j ≠ 13 → S2.1 j = S.1 j) ∧ (∀ j, j ≠ 14 → S2.2.1 j = S.2.1 j) ∧ S2.2.2 = S.2.2
theorem zx_mv_trans {D D2 D3 : zy_D} (A : zx_mv D D2) (B : zx_mv D2 D3) : zx_mv D D3 := ⟨fun j h => (B.1 j h).trans (A.1 j h), fun j h => (B.2.1 j h).trans (A.2.1 j h), fun j h => (B.2.2.1 j h).trans (A.2.2.1 j h), B.2.2.2.trans A.2.2.2⟩
theorem zx_mS_trans {S S2 S3 : zm_S} (A : zx_mS S S2) (B : zx_mS S2 S3) : zx_mS S S3 := ⟨fun j h => (B.1 j h).trans (A.1 j h), fun j h => (B.2.1 j h).trans (A.2.1 j h), B.2.2.trans A.2.2⟩
/-- the remark that moves: its kind, number, a -/
def zx_mx (D : zy_D) (S : zm_S) (kd m k : Nat) : Prop := kd < 7 ∧ m < 16 ∧ D.1 20 2 = nI kd ∧ D.1 20 3 = nI m ∧ D.1 20 4 = nI k ∧ S.2.1 6 m = nI kd ∧ S.2.1 6 (16 + m) = nI k
theorem zx_mx_t {D D2 : zy_D} {S S2 : zm_S} {kd m k : Nat} (A : zx_mx D S kd m k) (B : zx_mv D D2) (C : zx_mS S S2) : zx_mx D2 S2 kd m k := by
  obtain ⟨a1, a2, a3, a4, a5, a6, a7⟩ := A
  exact ⟨a1, a2, by rw [B.2.1 2 (by decide)]; exact a3, by rw [B.2.1 3 (by decide)]; exact a4, by rw [B.2.1 4 (by decide)]; exact a5, by rw [C.2.1 6 (by decide)]; exact a6, by rw [C.2.1 6 (by decide)]; exact a7⟩
theorem zx_mx0 {D : zy_D} {S : zm_S} {kd m k : Nat} (A : zx_mx D S kd m k) : zg_X10_of S 0 (nI m) = some (nI kd) := by
  rw [zr_of (k := 0) (by decide) A.2.1 0 rfl, show 16 * 0 + m = m by omega, A.2.2.2.2.2.1]
theorem zx_mx1 {D : zy_D} {S : zm_S} {kd m k : Nat} (A : zx_mx D S kd m k) : zg_X10_of S 1 (nI m) = some (nI k) := by
  rw [zr_of (k := 1) (by decide) A.2.1 1 rfl, show 16 * 1 + m = 16 + m by omega, A.2.2.2.2.2.2]
def zx_go (z : Nat) (w : zc_H) (D : zy_D) (S : zm_S) (t c : Nat) (o1 : Option (zc_H × Int32)) (o2 : Option (zm_S × Int32)) : Prop := ∃ (D2 : zy_D) (S2 : zm_S) (t2 : Nat) (v : Int32), o1 = some (zy_h z D2 w, v) ∧ o2 = some (S2, v) ∧ zx_tr D2 S2 t2 ∧ zx_mv D D2 ∧ zx_mS S S2 ∧ t2 ≤ t + c
theorem zx_al_h {z k n : Nat} {w : zc_H} {D : zy_D} {E f : Nat → Nat} (hE : zx_E z w E) (hk : zy_n k = false) (B : zk_al w (z + k) (E k) n f) : zk_al (zy_h z D w) (z + k) (E k) n f := zk_al_same B (zy_l hk) (fun hne => zy_o (Or.inr (by
  have := ((hE k hk).1.resolve_left hne).1
  omega))) rfl
theorem zg_pp {S : zm_S} {k : Nat} {x : Int32} : (zg_p S k x).1 k = x := va_up_self _ _ _
theorem zy_In {D : zy_D} {k f j : Nat} {x : Int32} (h : j ≠ f) : (zy_I D k f x).1 k j = D.1 k j := by
  unfold zy_I
  dsimp only
  rw [va_up_self, va_up_ne _ _ h]
theorem zx_ran {z : Nat} {w : zc_H} {D : zy_D} {S : zm_S} {t : Nat} (hz : w.2.2 < z) (T : zx_tr D S t) (ht : t < 2 ^ 20) (body : Int32) : ∃ (D2 : zy_D) (S2 : zm_S), zf_X2_began (zy_h z D w) (z + 20) body = some (zy_h z D2 w) ∧ zg_X10_ran S body = some S2 ∧ zx_tr D2 S2 (t + 1) ∧ zx_mv D D2 ∧ zx_mS S S2 := by
  obtain ⟨t1, t2, t3⟩ := T
  have A := zy_is_h z D w
  unfold zf_X2_began zg_X10_ran
  dsimp only
  rw [if_neg (zy_is20 A), zy_g20_1 A, zo_s, t1, if_neg (nI_pos (by omega)), zo_s, zy_r20_0 A, zo_s, zo_s, zy_n21 A hz, zo_s, t2]
  by_cases c : 20 ≤ t
  · rw [if_pos (show (20 : Int32) ≤ nI t from nI_le c (by omega)), if_pos (show (20 : Int32) ≤ nI t from nI_le c (by omega)), zo_s, zy_p20_1 A, zo_s, zo_s, zy_hh, ← nI_succ]
    refine ⟨_, _, rfl, rfl, ⟨zy_Ii, zg_pp, t3⟩, ⟨fun j h => va_up_ne _ _ h, fun j h => ?_, fun _ _ => rfl, rfl⟩, ⟨fun j h => va_up_ne _ _ h, fun _ _ => rfl, rfl⟩⟩
    exact zy_In h
  · have c' : t < 20 := by omega
    have A2 := zy_is_h z (zy_A D 21 (va_up (D.2.1 21) t body)) (zy_h z D w)
    rw [if_neg (show ¬ (20 : Int32) ≤ nI t from nI_ge c' (by decide)), if_neg (show ¬ (20 : Int32) ≤ nI t from nI_ge c' (by decide)), zo_s, zo_s, zo_s, zy_s21 A c', zo_s, zy_g20_1 A2, zo_s, zy_p20_1 A2, zo_s, zx_si c' (by decide), zo_s, zo_s, show (zx_SA S 14 (va_up (S.2.1 14) t body)).1 13 = S.1 13 from rfl, t2, zy_hh, zy_hh, show (zy_A D 21 (va_up (D.2.1 21) t body)).1 20 1 = D.1 20 1 from rfl, t1, ← nI_succ]
    refine ⟨_, _, rfl, rfl, ⟨zy_Ii, zg_pp, fun i hi => ?_⟩, ⟨fun j h => va_up_ne _ _ h, fun j h => ?_, fun j h => va_up_ne _ _ h, rfl⟩, ⟨fun j h => va_up_ne _ _ h, fun j h => va_up_ne _ _ h, rfl⟩⟩
    · unfold zy_I zy_A zg_p zx_SA
      dsimp only
      rw [va_up_self, va_up_self]
      by_cases q : i = t
      · subst q
        rw [va_up_self, va_up_self]
      · rw [va_up_ne _ _ q, va_up_ne _ _ q, t3 i hi]
    · exact zy_In h
theorem zj_id {α β : Type} (x : Option (α × β)) : (x.bind fun r => some (r.1, r.2)) = x := by cases x <;> rfl
theorem zs_runE {w : zc_H} {q : Nat} {mv a b x dep : Int32} (h : zf_X2_bodyOf w mv a = zf_X2_bodyOf w mv b) : ∀ d, zf_X2_run d w q mv a x dep = zf_X2_run d w q mv b x dep := by
  intro d
  cases d with
  | zero => rfl
  | succ d =>
    unfold zf_X2_run
    rw [h]
section ZM
variable {z : Nat} {w : zc_H} {D : zy_D} {S : zm_S} {t kd m k : Nat}
theorem zj_p0 (hz : w.2.2 < z) {d e dep : Nat} {x : Int32} (hd : 1 ≤ d) (he : 1 ≤ e) (hp : dep + 1 ≤ 41) (T : zx_tr D S t) (X : zx_mx D S kd m k) (ht : t + 1 + 8 < 2 ^ 20) : zx_go z w D S t 1 (zf_X2_run d (zy_h z D w) (z + 20) 0 (nI 0) x (nI dep)) (zg_X10_points e S (nI m) (nI 0) x) := by
  obtain ⟨d', rfl⟩ : ∃ d', d = d' + 1 := ⟨d - 1, by omega⟩
  obtain ⟨e', rfl⟩ : ∃ e', e = e' + 1 := ⟨e - 1, by omega⟩
  obtain ⟨D2, S2, b1, b2, b3, b4, b5⟩ := zx_ran hz T (by omega) 10
  have X2 := zx_mx_t X b4 b5
  have A2 := zy_is_h z D2 w
  unfold zf_X2_run zf_X2_answerOf zg_X10_points
  rw [if_neg (zy_is20 (zy_is_h z D w)), show zf_X2_bodyOf (zy_h z D w) 0 (nI 0) = some 10 from rfl, zo_s, if_neg (show ¬ (10 : Int32) = 0 by decide), if_pos (show nI dep ≤ 40 from nI_le (show dep ≤ 40 by omega) (by decide)), b1, zo_s, zj_id, if_neg (zy_is20 A2), show ∀ h, zf_X2_aboveOf h (((10 : Int32) / 10) - 1) = some (-1) from fun _ => rfl, zo_s, if_pos rfl, if_pos (show nI 0 = 0 by decide), b2, zo_s, zy_g20_3 A2, zo_s, X2.2.2.2.1]
  exact ⟨D2, S2, t + 1, _, rfl, rfl, b3, b4, b5, Nat.le_refl _⟩
theorem zj_p1 (hz : w.2.2 < z) {d e dep : Nat} {x : Int32} (hd : 2 ≤ d) (he : 2 ≤ e) (hp : dep + 2 ≤ 41) (T : zx_tr D S t) (X : zx_mx D S kd m k) (ht : t + 2 + 8 < 2 ^ 20) : zx_go z w D S t 2 (zf_X2_run d (zy_h z D w) (z + 20) 0 (nI 1) x (nI dep)) (zg_X10_points e S (nI m) (nI 1) x) := by
  obtain ⟨d', rfl⟩ : ∃ d', d = d' + 1 := ⟨d - 1, by omega⟩
  obtain ⟨e', rfl⟩ : ∃ e', e = e' + 1 := ⟨e - 1, by omega⟩
  obtain ⟨D2, S2, b1, b2, b3, b4, b5⟩ := zx_ran hz T (by omega) 20
  have X2 := zx_mx_t X b4 b5
  have A2 := zy_is_h z D2 w
  unfold zf_X2_run zf_X2_answerOf zg_X10_points
  rw [if_neg (zy_is20 (zy_is_h z D w)), show zf_X2_bodyOf (zy_h z D w) 0 (nI 1) = some 20 from rfl, zo_s, if_neg (show ¬ (20 : Int32) = 0 by decide), if_pos (show nI dep ≤ 40 from nI_le (show dep ≤ 40 by omega) (by decide)), b1, zo_s, zj_id, if_neg (zy_is20 A2), show ∀ h, zf_X2_aboveOf h (((20 : Int32) / 10) - 1) = some 0 from fun _ => rfl, zo_s, if_neg (show ¬ (20 : Int32) = 10 by decide), if_neg (show ¬ (20 : Int32) = 11 by decide), if_neg (show ¬ (20 : Int32) = 12 by decide), if_pos rfl, if_neg (show ¬ nI 1 = 0 by decide), if_pos (show nI 1 = 1 by decide), b2, zo_s]
  obtain ⟨D3, S3, t3, v, g1, g2, g3, g4, g5, g6⟩ := zj_p0 (x := x) (d := d') (e := e') (dep := dep + 1) hz (by omega) (by omega) (by omega) b3 X2 (by omega)
  have X3 := zx_mx_t X2 g4 g5
  have A3 := zy_is_h z D3 w
  rw [show nI dep + 1 = nI (dep + 1) from (nI_succ dep).symm, show zf_X2_run d' (zy_h z D2 w) (z + 20) 0 0 (x) (nI (dep + 1)) = _ from g1, zo_s, show zg_X10_points e' S2 (nI m) 0 (x) = _ from g2, zo_s, zy_g20_4 A3, zo_s, zx_mx1 X3, zo_s, X3.2.2.2.2.1]
  exact ⟨D3, S3, t3, _, rfl, rfl, g3, zx_mv_trans b4 g4, zx_mS_trans b5 g5, by omega⟩
theorem zj_p3 (hz : w.2.2 < z) {d e dep : Nat} {x : Int32} (hd : 3 ≤ d) (he : 3 ≤ e) (hp : dep + 3 ≤ 41) (T : zx_tr D S t) (X : zx_mx D S kd m k) (ht : t + 3 + 8 < 2 ^ 20) : zx_go z w D S t 3 (zf_X2_run d (zy_h z D w) (z + 20) 0 (nI 3) x (nI dep)) (zg_X10_points e S (nI m) (nI 3) x) := by
  obtain ⟨d', rfl⟩ : ∃ d', d = d' + 1 := ⟨d - 1, by omega⟩
  obtain ⟨e', rfl⟩ : ∃ e', e = e' + 1 := ⟨e - 1, by omega⟩
  obtain ⟨D2, S2, b1, b2, b3, b4, b5⟩ := zx_ran hz T (by omega) 40
  have X2 := zx_mx_t X b4 b5
  have A2 := zy_is_h z D2 w
  unfold zf_X2_run zf_X2_answerOf zg_X10_points
  rw [if_neg (zy_is20 (zy_is_h z D w)), show zf_X2_bodyOf (zy_h z D w) 0 (nI 3) = some 40 from rfl, zo_s, if_neg (show ¬ (40 : Int32) = 0 by decide), if_pos (show nI dep ≤ 40 from nI_le (show dep ≤ 40 by omega) (by decide)), b1, zo_s, zj_id, if_neg (zy_is20 A2), show ∀ h, zf_X2_aboveOf h (((40 : Int32) / 10) - 1) = some 1 from fun _ => rfl, zo_s, if_neg (show ¬ (40 : Int32) = 10 by decide), if_neg (show ¬ (40 : Int32) = 11 by decide), if_neg (show ¬ (40 : Int32) = 12 by decide), if_neg (show ¬ (40 : Int32) = 20 by decide), if_neg (show ¬ (40 : Int32) = 30 by decide), if_pos rfl, if_neg (show ¬ nI 3 = 0 by decide), if_neg (show ¬ nI 3 = 1 by decide), if_neg (show ¬ nI 3 = 2 by decide), if_pos (show nI 3 = 3 by decide), b2, zo_s]
  obtain ⟨D3, S3, t3, v, g1, g2, g3, g4, g5, g6⟩ := zj_p1 (x := x + 1) (d := d') (e := e') (dep := dep + 1) hz (by omega) (by omega) (by omega) b3 X2 (by omega)
  have X3 := zx_mx_t X2 g4 g5
  have A3 := zy_is_h z D3 w
  rw [show nI dep + 1 = nI (dep + 1) from (nI_succ dep).symm, show zf_X2_run d' (zy_h z D2 w) (z + 20) 0 1 (x + 1) (nI (dep + 1)) = _ from g1, zo_s, show zg_X10_points e' S2 (nI m) 1 (x + 1) = _ from g2, zo_s]
  exact ⟨D3, S3, t3, _, rfl, rfl, g3, zx_mv_trans b4 g4, zx_mS_trans b5 g5, by omega⟩
theorem zj_p4 (hz : w.2.2 < z) {d e dep : Nat} {x : Int32} (hd : 2 ≤ d) (he : 2 ≤ e) (hp : dep + 2 ≤ 41) (T : zx_tr D S t) (X : zx_mx D S kd m k) (ht : t + 2 + 8 < 2 ^ 20) : zx_go z w D S t 2 (zf_X2_run d (zy_h z D w) (z + 20) 0 (nI 4) x (nI dep)) (zg_X10_points e S (nI m) (nI 4) x) := by
  obtain ⟨d', rfl⟩ : ∃ d', d = d' + 1 := ⟨d - 1, by omega⟩
  obtain ⟨e', rfl⟩ : ∃ e', e = e' + 1 := ⟨e - 1, by omega⟩
  obtain ⟨D2, S2, b1, b2, b3, b4, b5⟩ := zx_ran hz T (by omega) 51
  have X2 := zx_mx_t X b4 b5
  have A2 := zy_is_h z D2 w
  unfold zf_X2_run zf_X2_answerOf zg_X10_points
  rw [if_neg (zy_is20 (zy_is_h z D w)), show zf_X2_bodyOf (zy_h z D w) 0 (nI 4) = some 51 from rfl, zo_s, if_neg (show ¬ (51 : Int32) = 0 by decide), if_pos (show nI dep ≤ 40 from nI_le (show dep ≤ 40 by omega) (by decide)), b1, zo_s, zj_id, if_neg (zy_is20 A2), show ∀ h, zf_X2_aboveOf h (((51 : Int32) / 10) - 1) = some 0 from fun _ => rfl, zo_s, if_neg (show ¬ (51 : Int32) = 10 by decide), if_neg (show ¬ (51 : Int32) = 11 by decide), if_neg (show ¬ (51 : Int32) = 12 by decide), if_neg (show ¬ (51 : Int32) = 20 by decide), if_neg (show ¬ (51 : Int32) = 30 by decide), if_neg (show ¬ (51 : Int32) = 40 by decide), if_neg (show ¬ (51 : Int32) = 50 by decide), if_pos rfl, if_neg (show ¬ nI 4 = 0 by decide), if_neg (show ¬ nI 4 = 1 by decide), if_neg (show ¬ nI 4 = 2 by decide), if_neg (show ¬ nI 4 = 3 by decide), if_pos (show nI 4 = 4 by decide), b2, zo_s]
  obtain ⟨D3, S3, t3, v, g1, g2, g3, g4, g5, g6⟩ := zj_p0 (x := x) (d := d') (e := e') (dep := dep + 1) hz (by omega) (by omega) (by omega) b3 X2 (by omega)
  have X3 := zx_mx_t X2 g4 g5
  have A3 := zy_is_h z D3 w
  rw [show nI dep + 1 = nI (dep + 1) from (nI_succ dep).symm, show zf_X2_run d' (zy_h z D2 w) (z + 20) 0 0 (x) (nI (dep + 1)) = _ from g1, zo_s, show zg_X10_points e' S2 (nI m) 0 (x) = _ from g2, zo_s, zy_g20_3 A3, zo_s, X3.2.2.2.1]
  exact ⟨D3, S3, t3, _, rfl, rfl, g3, zx_mv_trans b4 g4, zx_mS_trans b5 g5, by omega⟩
theorem zj_p6 (hz : w.2.2 < z) {d e dep : Nat} {x : Int32} (hd : 4 ≤ d) (he : 4 ≤ e) (hp : dep + 4 ≤ 41) (T : zx_tr D S t) (X : zx_mx D S kd m k) (ht : t + 4 + 8 < 2 ^ 20) : zx_go z w D S t 4 (zf_X2_run d (zy_h z D w) (z + 20) 0 (nI 6) x (nI dep)) (zg_X10_points e S (nI m) (nI 6) x) := by
  obtain ⟨d', rfl⟩ : ∃ d', d = d' + 1 := ⟨d - 1, by omega⟩
  obtain ⟨e', rfl⟩ : ∃ e', e = e' + 1 := ⟨e - 1, by omega⟩
  obtain ⟨D2, S2, b1, b2, b3, b4, b5⟩ := zx_ran hz T (by omega) 70
  have X2 := zx_mx_t X b4 b5
  have A2 := zy_is_h z D2 w
  unfold zf_X2_run zf_X2_answerOf zg_X10_points
  rw [if_neg (zy_is20 (zy_is_h z D w)), show zf_X2_bodyOf (zy_h z D w) 0 (nI 6) = some 70 from rfl, zo_s, if_neg (show ¬ (70 : Int32) = 0 by decide), if_pos (show nI dep ≤ 40 from nI_le (show dep ≤ 40 by omega) (by decide)), b1, zo_s, zj_id, if_neg (zy_is20 A2), show ∀ h, zf_X2_aboveOf h (((70 : Int32) / 10) - 1) = some 3 from fun _ => rfl, zo_s, if_neg (show ¬ (70 : Int32) = 10 by decide), if_neg (show ¬ (70 : Int32) = 11 by decide), if_neg (show ¬ (70 : Int32) = 12 by decide), if_neg (show ¬ (70 : Int32) = 20 by decide), if_neg (show ¬ (70 : Int32) = 30 by decide), if_neg (show ¬ (70 : Int32) = 40 by decide), if_neg (show ¬ (70 : Int32) = 50 by decide), if_neg (show ¬ (70 : Int32) = 51 by decide), if_neg (show ¬ (70 : Int32) = 60 by decide), if_pos rfl, if_neg (show ¬ nI 6 = 0 by decide), if_neg (show ¬ nI 6 = 1 by decide), if_neg (show ¬ nI 6 = 2 by decide), if_neg (show ¬ nI 6 = 3 by decide), if_neg (show ¬ nI 6 = 4 by decide), if_neg (show ¬ nI 6 = 5 by decide), if_pos (show nI 6 = 6 by decide), b2, zo_s]
  obtain ⟨D3, S3, t3, v, g1, g2, g3, g4, g5, g6⟩ := zj_p3 (x := x) (d := d') (e := e') (dep := dep + 1) hz (by omega) (by omega) (by omega) b3 X2 (by omega)
  have X3 := zx_mx_t X2 g4 g5
  have A3 := zy_is_h z D3 w
  rw [show nI dep + 1 = nI (dep + 1) from (nI_succ dep).symm, show zf_X2_run d' (zy_h z D2 w) (z + 20) 0 3 (x) (nI (dep + 1)) = _ from g1, zo_s, show zg_X10_points e' S2 (nI m) 3 (x) = _ from g2, zo_s]
  exact ⟨D3, S3, t3, _, rfl, rfl, g3, zx_mv_trans b4 g4, zx_mS_trans b5 g5, by omega⟩
theorem zj_p2 (hz : w.2.2 < z) {d e dep : Nat} {x : Int32} (hd : 1 ≤ d) (he : 2 ≤ e) (hp : dep + 1 ≤ 41) (T : zx_tr D S t) (X : zx_mx D S kd m k) (ht : t + 1 + 8 < 2 ^ 20) : zx_go z w D S t 1 (zf_X2_run d (zy_h z D w) (z + 20) 0 (nI 2) x (nI dep)) (zg_X10_points e S (nI m) (nI 2) x) := by
  obtain ⟨e', rfl⟩ : ∃ e', e = e' + 1 := ⟨e - 1, by omega⟩
  obtain ⟨D3, S3, t3, v, g1, g2, g3, g4, g5, g6⟩ := zj_p0 (d := d) (e := e') (dep := dep) (x := x) hz (by omega) (by omega) (by omega) T X (by omega)
  unfold zg_X10_points
  rw [zs_runE (w := zy_h z D w) (q := z + 20) (mv := 0) (a := nI 2) (b := nI 0) (x := x) (dep := nI dep) rfl d, g1, if_neg (show ¬ nI 2 = 0 by decide), if_neg (show ¬ nI 2 = 1 by decide), if_pos (show nI 2 = 2 by decide), show zg_X10_above S (nI 2) = some 0 from rfl, zo_s, show zg_X10_points e' S (nI m) 0 x = _ from g2, zo_s]
  exact ⟨D3, S3, t3, _, rfl, rfl, g3, g4, g5, by omega⟩
theorem zj_p5 (hz : w.2.2 < z) {d e dep : Nat} {x : Int32} (hd : 1 ≤ d) (he : 3 ≤ e) (hp : dep + 1 ≤ 41) (T : zx_tr D S t) (X : zx_mx D S kd m k) (ht : t + 1 + 8 < 2 ^ 20) : zx_go z w D S t 1 (zf_X2_run d (zy_h z D w) (z + 20) 0 (nI 5) x (nI dep)) (zg_X10_points e S (nI m) (nI 5) x) := by
  obtain ⟨e', rfl⟩ : ∃ e', e = e' + 1 := ⟨e - 1, by omega⟩
  obtain ⟨D3, S3, t3, v, g1, g2, g3, g4, g5, g6⟩ := zj_p2 (d := d) (e := e') (dep := dep) (x := x) hz (by omega) (by omega) (by omega) T X (by omega)
  unfold zg_X10_points
  rw [zs_runE (w := zy_h z D w) (q := z + 20) (mv := 0) (a := nI 5) (b := nI 2) (x := x) (dep := nI dep) rfl d, g1, if_neg (show ¬ nI 5 = 0 by decide), if_neg (show ¬ nI 5 = 1 by decide), if_neg (show ¬ nI 5 = 2 by decide), if_neg (show ¬ nI 5 = 3 by decide), if_neg (show ¬ nI 5 = 4 by decide), if_pos (show nI 5 = 5 by decide), show zg_X10_above S (nI 5) = some 2 from rfl, zo_s, show zg_X10_points e' S (nI m) 2 x = _ from g2, zo_s]
  exact ⟨D3, S3, t3, _, rfl, rfl, g3, g4, g5, by omega⟩
theorem zj_pK {kk : Nat} (hkk : kk < 7) (hz : w.2.2 < z) {d e dep : Nat} {x : Int32} (hd : 4 ≤ d) (he : 4 ≤ e) (hp : dep + 4 ≤ 41) (T : zx_tr D S t) (X : zx_mx D S kd m k) (ht : t + 4 + 8 < 2 ^ 20) : zx_go z w D S t 4 (zf_X2_run d (zy_h z D w) (z + 20) 0 (nI kk) x (nI dep)) (zg_X10_points e S (nI m) (nI kk) x) := by
  have q : kk = 0 ∨ kk = 1 ∨ kk = 2 ∨ kk = 3 ∨ kk = 4 ∨ kk = 5 ∨ kk = 6 := by omega
  have up : ∀ c o1 o2, c ≤ 4 → zx_go z w D S t c o1 o2 → zx_go z w D S t 4 o1 o2 := fun c o1 o2 h ⟨D2, S2, t2, v, a1, a2, a3, a4, a5, a6⟩ => ⟨D2, S2, t2, v, a1, a2, a3, a4, a5, by omega⟩
  rcases q with rfl | rfl | rfl | rfl | rfl | rfl | rfl
  · exact up 1 _ _ (by decide) (zj_p0 hz (by omega) (by omega) (by omega) T X (by omega))
  · exact up 2 _ _ (by decide) (zj_p1 hz (by omega) (by omega) (by omega) T X (by omega))
  · exact up 1 _ _ (by decide) (zj_p2 hz (by omega) (by omega) (by omega) T X (by omega))
  · exact up 3 _ _ (by decide) (zj_p3 hz (by omega) (by omega) (by omega) T X (by omega))
  · exact up 2 _ _ (by decide) (zj_p4 hz (by omega) (by omega) (by omega) T X (by omega))
  · exact up 1 _ _ (by decide) (zj_p5 hz (by omega) (by omega) (by omega) T X (by omega))
  · exact up 4 _ _ (by decide) (zj_p6 hz (by omega) (by omega) (by omega) T X (by omega))
theorem zj_w0 (hz : w.2.2 < z) {d e dep : Nat} {x : Int32} (hd : 5 ≤ d) (he : 1 ≤ e) (hp : dep + 5 ≤ 41) (T : zx_tr D S t) (X : zx_mx D S kd m k) (ht : t + 5 + 8 < 2 ^ 20) : zx_go z w D S t 5 (zf_X2_run d (zy_h z D w) (z + 20) 1 (nI 0) x (nI dep)) (zg_X10_weighs e S (nI m) (nI 0) x) := by
  obtain ⟨d', rfl⟩ : ∃ d', d = d' + 1 := ⟨d - 1, by omega⟩
  obtain ⟨e', rfl⟩ : ∃ e', e = e' + 1 := ⟨e - 1, by omega⟩
  obtain ⟨D2, S2, b1, b2, b3, b4, b5⟩ := zx_ran hz T (by omega) 11
  have X2 := zx_mx_t X b4 b5
  have A2 := zy_is_h z D2 w
  unfold zf_X2_run zf_X2_answerOf zg_X10_weighs
  rw [if_neg (zy_is20 (zy_is_h z D w)), show zf_X2_bodyOf (zy_h z D w) 1 (nI 0) = some 11 from rfl, zo_s, if_neg (show ¬ (11 : Int32) = 0 by decide), if_pos (show nI dep ≤ 40 from nI_le (show dep ≤ 40 by omega) (by decide)), b1, zo_s, zj_id, if_neg (zy_is20 A2), show ∀ h, zf_X2_aboveOf h (((11 : Int32) / 10) - 1) = some (-1) from fun _ => rfl, zo_s, if_neg (show ¬ (11 : Int32) = 10 by decide), if_pos rfl, if_pos (show nI 0 = 0 by decide), b2, zo_s, zy_g20_2 A2, zo_s, zx_mx0 X2, zo_s, X2.2.2.1]
  obtain ⟨D3, S3, t3, v, g1, g2, g3, g4, g5, g6⟩ := zj_pK (x := x) (kk := kd) (d := d') (e := 20) (dep := dep + 1) X.1 hz (by omega) (by decide) (by omega) b3 X2 (by omega)
  rw [show nI dep + 1 = nI (dep + 1) from (nI_succ dep).symm, g1, zo_s, g2, zo_s]
  exact ⟨D3, S3, t3, _, rfl, rfl, g3, zx_mv_trans b4 g4, zx_mS_trans b5 g5, by omega⟩
theorem zj_w1 (hz : w.2.2 < z) {d e dep : Nat} {x : Int32} (hd : 5 ≤ d) (he : 2 ≤ e) (hp : dep + 5 ≤ 41) (T : zx_tr D S t) (X : zx_mx D S kd m k) (ht : t + 5 + 8 < 2 ^ 20) : zx_go z w D S t 5 (zf_X2_run d (zy_h z D w) (z + 20) 1 (nI 1) x (nI dep)) (zg_X10_weighs e S (nI m) (nI 1) x) := by
  obtain ⟨e', rfl⟩ : ∃ e', e = e' + 1 := ⟨e - 1, by omega⟩
  obtain ⟨D3, S3, t3, v, g1, g2, g3, g4, g5, g6⟩ := zj_w0 (d := d) (e := e') (dep := dep) (x := x) hz (by omega) (by omega) (by omega) T X (by omega)
  unfold zg_X10_weighs
  rw [zs_runE (w := zy_h z D w) (q := z + 20) (mv := 1) (a := nI 1) (b := nI 0) (x := x) (dep := nI dep) rfl d, g1, if_neg (show ¬ nI 1 = 0 by decide), if_neg (show ¬ nI 1 = 2 by decide), if_neg (show ¬ nI 1 = 6 by decide), show zg_X10_above S (nI 1) = some 0 from rfl, zo_s, show zg_X10_weighs e' S (nI m) 0 x = _ from g2, zo_s]
  exact ⟨D3, S3, t3, _, rfl, rfl, g3, g4, g5, by omega⟩
theorem zj_w2 (hz : w.2.2 < z) {d e dep : Nat} {x : Int32} (hd : 6 ≤ d) (he : 2 ≤ e) (hp : dep + 6 ≤ 41) (T : zx_tr D S t) (X : zx_mx D S kd m k) (ht : t + 6 + 8 < 2 ^ 20) : zx_go z w D S t 6 (zf_X2_run d (zy_h z D w) (z + 20) 1 (nI 2) x (nI dep)) (zg_X10_weighs e S (nI m) (nI 2) x) := by
  obtain ⟨d', rfl⟩ : ∃ d', d = d' + 1 := ⟨d - 1, by omega⟩
  obtain ⟨e', rfl⟩ : ∃ e', e = e' + 1 := ⟨e - 1, by omega⟩
  obtain ⟨D2, S2, b1, b2, b3, b4, b5⟩ := zx_ran hz T (by omega) 30
  have X2 := zx_mx_t X b4 b5
  have A2 := zy_is_h z D2 w
  unfold zf_X2_run zf_X2_answerOf zg_X10_weighs
  rw [if_neg (zy_is20 (zy_is_h z D w)), show zf_X2_bodyOf (zy_h z D w) 1 (nI 2) = some 30 from rfl, zo_s, if_neg (show ¬ (30 : Int32) = 0 by decide), if_pos (show nI dep ≤ 40 from nI_le (show dep ≤ 40 by omega) (by decide)), b1, zo_s, zj_id, if_neg (zy_is20 A2), show ∀ h, zf_X2_aboveOf h (((30 : Int32) / 10) - 1) = some 0 from fun _ => rfl, zo_s, if_neg (show ¬ (30 : Int32) = 10 by decide), if_neg (show ¬ (30 : Int32) = 11 by decide), if_neg (show ¬ (30 : Int32) = 12 by decide), if_neg (show ¬ (30 : Int32) = 20 by decide), if_pos rfl, if_neg (show ¬ nI 2 = 0 by decide), if_pos (show nI 2 = 2 by decide), b2, zo_s]
  obtain ⟨D3, S3, t3, v, g1, g2, g3, g4, g5, g6⟩ := zj_w0 (x := x) (d := d') (e := e') (dep := dep + 1) hz (by omega) (by omega) (by omega) b3 X2 (by omega)
  have X3 := zx_mx_t X2 g4 g5
  have A3 := zy_is_h z D3 w
  rw [show nI dep + 1 = nI (dep + 1) from (nI_succ dep).symm, show zf_X2_run d' (zy_h z D2 w) (z + 20) 1 0 (x) (nI (dep + 1)) = _ from g1, zo_s, show zg_X10_weighs e' S2 (nI m) 0 (x) = _ from g2, zo_s]
  exact ⟨D3, S3, t3, _, rfl, rfl, g3, zx_mv_trans b4 g4, zx_mS_trans b5 g5, by omega⟩
theorem zj_w3 (hz : w.2.2 < z) {d e dep : Nat} {x : Int32} (hd : 5 ≤ d) (he : 3 ≤ e) (hp : dep + 5 ≤ 41) (T : zx_tr D S t) (X : zx_mx D S kd m k) (ht : t + 5 + 8 < 2 ^ 20) : zx_go z w D S t 5 (zf_X2_run d (zy_h z D w) (z + 20) 1 (nI 3) x (nI dep)) (zg_X10_weighs e S (nI m) (nI 3) x) := by
  obtain ⟨e', rfl⟩ : ∃ e', e = e' + 1 := ⟨e - 1, by omega⟩
  obtain ⟨D3, S3, t3, v, g1, g2, g3, g4, g5, g6⟩ := zj_w1 (d := d) (e := e') (dep := dep) (x := x) hz (by omega) (by omega) (by omega) T X (by omega)
  unfold zg_X10_weighs
  rw [zs_runE (w := zy_h z D w) (q := z + 20) (mv := 1) (a := nI 3) (b := nI 1) (x := x) (dep := nI dep) rfl d, g1, if_neg (show ¬ nI 3 = 0 by decide), if_neg (show ¬ nI 3 = 2 by decide), if_neg (show ¬ nI 3 = 6 by decide), show zg_X10_above S (nI 3) = some 1 from rfl, zo_s, show zg_X10_weighs e' S (nI m) 1 x = _ from g2, zo_s]
  exact ⟨D3, S3, t3, _, rfl, rfl, g3, g4, g5, by omega⟩
theorem zj_w4 (hz : w.2.2 < z) {d e dep : Nat} {x : Int32} (hd : 5 ≤ d) (he : 2 ≤ e) (hp : dep + 5 ≤ 41) (T : zx_tr D S t) (X : zx_mx D S kd m k) (ht : t + 5 + 8 < 2 ^ 20) : zx_go z w D S t 5 (zf_X2_run d (zy_h z D w) (z + 20) 1 (nI 4) x (nI dep)) (zg_X10_weighs e S (nI m) (nI 4) x) := by
  obtain ⟨e', rfl⟩ : ∃ e', e = e' + 1 := ⟨e - 1, by omega⟩
  obtain ⟨D3, S3, t3, v, g1, g2, g3, g4, g5, g6⟩ := zj_w0 (d := d) (e := e') (dep := dep) (x := x) hz (by omega) (by omega) (by omega) T X (by omega)
  unfold zg_X10_weighs
  rw [zs_runE (w := zy_h z D w) (q := z + 20) (mv := 1) (a := nI 4) (b := nI 0) (x := x) (dep := nI dep) rfl d, g1, if_neg (show ¬ nI 4 = 0 by decide), if_neg (show ¬ nI 4 = 2 by decide), if_neg (show ¬ nI 4 = 6 by decide), show zg_X10_above S (nI 4) = some 0 from rfl, zo_s, show zg_X10_weighs e' S (nI m) 0 x = _ from g2, zo_s]
  exact ⟨D3, S3, t3, _, rfl, rfl, g3, g4, g5, by omega⟩
theorem zj_w5 (hz : w.2.2 < z) {d e dep : Nat} {x : Int32} (hd : 6 ≤ d) (he : 3 ≤ e) (hp : dep + 6 ≤ 41) (T : zx_tr D S t) (X : zx_mx D S kd m k) (ht : t + 6 + 8 < 2 ^ 20) : zx_go z w D S t 6 (zf_X2_run d (zy_h z D w) (z + 20) 1 (nI 5) x (nI dep)) (zg_X10_weighs e S (nI m) (nI 5) x) := by
  obtain ⟨e', rfl⟩ : ∃ e', e = e' + 1 := ⟨e - 1, by omega⟩
  obtain ⟨D3, S3, t3, v, g1, g2, g3, g4, g5, g6⟩ := zj_w2 (d := d) (e := e') (dep := dep) (x := x) hz (by omega) (by omega) (by omega) T X (by omega)
  unfold zg_X10_weighs
  rw [zs_runE (w := zy_h z D w) (q := z + 20) (mv := 1) (a := nI 5) (b := nI 2) (x := x) (dep := nI dep) rfl d, g1, if_neg (show ¬ nI 5 = 0 by decide), if_neg (show ¬ nI 5 = 2 by decide), if_neg (show ¬ nI 5 = 6 by decide), show zg_X10_above S (nI 5) = some 2 from rfl, zo_s, show zg_X10_weighs e' S (nI m) 2 x = _ from g2, zo_s]
  exact ⟨D3, S3, t3, _, rfl, rfl, g3, g4, g5, by omega⟩
theorem zj_w6 (hz : w.2.2 < z) {d e dep : Nat} {x : Int32} (hd : 6 ≤ d) (he : 4 ≤ e) (hp : dep + 6 ≤ 41) (T : zx_tr D S t) (X : zx_mx D S kd m k) (ht : t + 6 + 8 < 2 ^ 20) : zx_go z w D S t 6 (zf_X2_run d (zy_h z D w) (z + 20) 1 (nI 6) x (nI dep)) (zg_X10_weighs e S (nI m) (nI 6) x) := by
  obtain ⟨d', rfl⟩ : ∃ d', d = d' + 1 := ⟨d - 1, by omega⟩
  obtain ⟨e', rfl⟩ : ∃ e', e = e' + 1 := ⟨e - 1, by omega⟩
  obtain ⟨D2, S2, b1, b2, b3, b4, b5⟩ := zx_ran hz T (by omega) 71
  have X2 := zx_mx_t X b4 b5
  have A2 := zy_is_h z D2 w
  unfold zf_X2_run zf_X2_answerOf zg_X10_weighs
  rw [if_neg (zy_is20 (zy_is_h z D w)), show zf_X2_bodyOf (zy_h z D w) 1 (nI 6) = some 71 from rfl, zo_s, if_neg (show ¬ (71 : Int32) = 0 by decide), if_pos (show nI dep ≤ 40 from nI_le (show dep ≤ 40 by omega) (by decide)), b1, zo_s, zj_id, if_neg (zy_is20 A2), show ∀ h, zf_X2_aboveOf h (((71 : Int32) / 10) - 1) = some 3 from fun _ => rfl, zo_s, if_neg (show ¬ (71 : Int32) = 10 by decide), if_neg (show ¬ (71 : Int32) = 11 by decide), if_neg (show ¬ (71 : Int32) = 12 by decide), if_neg (show ¬ (71 : Int32) = 20 by decide), if_neg (show ¬ (71 : Int32) = 30 by decide), if_neg (show ¬ (71 : Int32) = 40 by decide), if_neg (show ¬ (71 : Int32) = 50 by decide), if_neg (show ¬ (71 : Int32) = 51 by decide), if_neg (show ¬ (71 : Int32) = 60 by decide), if_neg (show ¬ (71 : Int32) = 70 by decide), if_neg (show ¬ nI 6 = 0 by decide), if_neg (show ¬ nI 6 = 2 by decide), if_pos (show nI 6 = 6 by decide), b2, zo_s, zy_g20_4 A2, zo_s, zx_mx1 X2, zo_s, X2.2.2.2.2.1]
  obtain ⟨D3, S3, t3, v, g1, g2, g3, g4, g5, g6⟩ := zj_w3 (x := x - nI k) (d := d') (e := e') (dep := dep + 1) hz (by omega) (by omega) (by omega) b3 X2 (by omega)
  rw [show nI dep + 1 = nI (dep + 1) from (nI_succ dep).symm, show zf_X2_run d' (zy_h z D2 w) (z + 20) 1 3 (x - nI k) (nI (dep + 1)) = _ from g1, zo_s, show zg_X10_weighs e' S2 (nI m) 3 (x - nI k) = _ from g2, zo_s]
  exact ⟨D3, S3, t3, _, rfl, rfl, g3, zx_mv_trans b4 g4, zx_mS_trans b5 g5, by omega⟩
theorem zj_wK {kk : Nat} (hkk : kk < 7) (hz : w.2.2 < z) {d e dep : Nat} {x : Int32} (hd : 6 ≤ d) (he : 4 ≤ e) (hp : dep + 6 ≤ 41) (T : zx_tr D S t) (X : zx_mx D S kd m k) (ht : t + 6 + 8 < 2 ^ 20) : zx_go z w D S t 6 (zf_X2_run d (zy_h z D w) (z + 20) 1 (nI kk) x (nI dep)) (zg_X10_weighs e S (nI m) (nI kk) x) := by
  have q : kk = 0 ∨ kk = 1 ∨ kk = 2 ∨ kk = 3 ∨ kk = 4 ∨ kk = 5 ∨ kk = 6 := by omega
  have up : ∀ c o1 o2, c ≤ 6 → zx_go z w D S t c o1 o2 → zx_go z w D S t 6 o1 o2 := fun c o1 o2 h ⟨D2, S2, t2, v, a1, a2, a3, a4, a5, a6⟩ => ⟨D2, S2, t2, v, a1, a2, a3, a4, a5, by omega⟩
  rcases q with rfl | rfl | rfl | rfl | rfl | rfl | rfl
  · exact up 5 _ _ (by decide) (zj_w0 hz (by omega) (by omega) (by omega) T X (by omega))
  · exact up 5 _ _ (by decide) (zj_w1 hz (by omega) (by omega) (by omega) T X (by omega))
  · exact up 6 _ _ (by decide) (zj_w2 hz (by omega) (by omega) (by omega) T X (by omega))
  · exact up 5 _ _ (by decide) (zj_w3 hz (by omega) (by omega) (by omega) T X (by omega))
  · exact up 5 _ _ (by decide) (zj_w4 hz (by omega) (by omega) (by omega) T X (by omega))
  · exact up 6 _ _ (by decide) (zj_w5 hz (by omega) (by omega) (by omega) T X (by omega))
  · exact up 6 _ _ (by decide) (zj_w6 hz (by omega) (by omega) (by omega) T X (by omega))
theorem zj_c0 (hz : w.2.2 < z) {d e dep : Nat} {x : Int32} (hd : 7 ≤ d) (he : 1 ≤ e) (hp : dep + 7 ≤ 41) (T : zx_tr D S t) (X : zx_mx D S kd m k) (ht : t + 11 + 8 < 2 ^ 20) : zx_go z w D S t 11 (zf_X2_run d (zy_h z D w) (z + 20) 2 (nI 0) x (nI dep)) (zg_X10_clings e S (nI m) (nI 0) x) := by
  obtain ⟨d', rfl⟩ : ∃ d', d = d' + 1 := ⟨d - 1, by omega⟩
  obtain ⟨e', rfl⟩ : ∃ e', e = e' + 1 := ⟨e - 1, by omega⟩
  obtain ⟨D2, S2, b1, b2, b3, b4, b5⟩ := zx_ran hz T (by omega) 12
  have X2 := zx_mx_t X b4 b5
  have A2 := zy_is_h z D2 w
  unfold zf_X2_run zf_X2_answerOf zg_X10_clings
  rw [if_neg (zy_is20 (zy_is_h z D w)), show zf_X2_bodyOf (zy_h z D w) 2 (nI 0) = some 12 from rfl, zo_s, if_neg (show ¬ (12 : Int32) = 0 by decide), if_pos (show nI dep ≤ 40 from nI_le (show dep ≤ 40 by omega) (by decide)), b1, zo_s, zj_id, if_neg (zy_is20 A2), show ∀ h, zf_X2_aboveOf h (((12 : Int32) / 10) - 1) = some (-1) from fun _ => rfl, zo_s, if_neg (show ¬ (12 : Int32) = 10 by decide), if_neg (show ¬ (12 : Int32) = 11 by decide), if_pos rfl, if_pos (show nI 0 = 0 by decide), b2, zo_s, zy_g20_2 A2, zo_s, zx_mx0 X2, zo_s, X2.2.2.1]
  obtain ⟨D3, S3, t3, v, g1, g2, g3, g4, g5, g6⟩ := zj_wK (x := x) (kk := kd) (d := d') (e := 20) (dep := dep + 1) X.1 hz (by omega) (by decide) (by omega) b3 X2 (by omega)
  have X3 := zx_mx_t X2 g4 g5
  have A3 := zy_is_h z D3 w
  obtain ⟨D4, S4, t4, v4, k1, k2, k3, k4, k5, k6⟩ := zj_pK (x := x - nI k) (kk := kd) (d := d') (e := 20) (dep := dep + 1) X.1 hz (by omega) (by decide) (by omega) g3 X3 (by omega)
  rw [show nI dep + 1 = nI (dep + 1) from (nI_succ dep).symm, g1, zo_s, zy_g20_2 A3, zo_s, zy_g20_4 A3, zo_s, X3.2.2.1, X3.2.2.2.2.1, k1, zo_s, g2, zo_s, zx_mx0 X3, zo_s, zx_mx1 X3, zo_s, k2, zo_s]
  exact ⟨D4, S4, t4, _, rfl, rfl, k3, zx_mv_trans b4 (zx_mv_trans g4 k4), zx_mS_trans b5 (zx_mS_trans g5 k5), by omega⟩
theorem zj_c1 (hz : w.2.2 < z) {d e dep : Nat} {x : Int32} (hd : 7 ≤ d) (he : 2 ≤ e) (hp : dep + 7 ≤ 41) (T : zx_tr D S t) (X : zx_mx D S kd m k) (ht : t + 11 + 8 < 2 ^ 20) : zx_go z w D S t 11 (zf_X2_run d (zy_h z D w) (z + 20) 2 (nI 1) x (nI dep)) (zg_X10_clings e S (nI m) (nI 1) x) := by
  obtain ⟨e', rfl⟩ : ∃ e', e = e' + 1 := ⟨e - 1, by omega⟩
  obtain ⟨D3, S3, t3, v, g1, g2, g3, g4, g5, g6⟩ := zj_c0 (d := d) (e := e') (dep := dep) (x := x) hz (by omega) (by omega) (by omega) T X (by omega)
  unfold zg_X10_clings
  rw [zs_runE (w := zy_h z D w) (q := z + 20) (mv := 2) (a := nI 1) (b := nI 0) (x := x) (dep := nI dep) rfl d, g1, if_neg (show ¬ nI 1 = 0 by decide), if_neg (show ¬ nI 1 = 4 by decide), if_neg (show ¬ nI 1 = 5 by decide), show zg_X10_above S (nI 1) = some 0 from rfl, zo_s, show zg_X10_clings e' S (nI m) 0 x = _ from g2, zo_s]
  exact ⟨D3, S3, t3, _, rfl, rfl, g3, g4, g5, by omega⟩
theorem zj_c2 (hz : w.2.2 < z) {d e dep : Nat} {x : Int32} (hd : 7 ≤ d) (he : 2 ≤ e) (hp : dep + 7 ≤ 41) (T : zx_tr D S t) (X : zx_mx D S kd m k) (ht : t + 11 + 8 < 2 ^ 20) : zx_go z w D S t 11 (zf_X2_run d (zy_h z D w) (z + 20) 2 (nI 2) x (nI dep)) (zg_X10_clings e S (nI m) (nI 2) x) := by
  obtain ⟨e', rfl⟩ : ∃ e', e = e' + 1 := ⟨e - 1, by omega⟩
  obtain ⟨D3, S3, t3, v, g1, g2, g3, g4, g5, g6⟩ := zj_c0 (d := d) (e := e') (dep := dep) (x := x) hz (by omega) (by omega) (by omega) T X (by omega)
  unfold zg_X10_clings
  rw [zs_runE (w := zy_h z D w) (q := z + 20) (mv := 2) (a := nI 2) (b := nI 0) (x := x) (dep := nI dep) rfl d, g1, if_neg (show ¬ nI 2 = 0 by decide), if_neg (show ¬ nI 2 = 4 by decide), if_neg (show ¬ nI 2 = 5 by decide), show zg_X10_above S (nI 2) = some 0 from rfl, zo_s, show zg_X10_clings e' S (nI m) 0 x = _ from g2, zo_s]
  exact ⟨D3, S3, t3, _, rfl, rfl, g3, g4, g5, by omega⟩
theorem zj_c3 (hz : w.2.2 < z) {d e dep : Nat} {x : Int32} (hd : 7 ≤ d) (he : 3 ≤ e) (hp : dep + 7 ≤ 41) (T : zx_tr D S t) (X : zx_mx D S kd m k) (ht : t + 11 + 8 < 2 ^ 20) : zx_go z w D S t 11 (zf_X2_run d (zy_h z D w) (z + 20) 2 (nI 3) x (nI dep)) (zg_X10_clings e S (nI m) (nI 3) x) := by
  obtain ⟨e', rfl⟩ : ∃ e', e = e' + 1 := ⟨e - 1, by omega⟩
  obtain ⟨D3, S3, t3, v, g1, g2, g3, g4, g5, g6⟩ := zj_c1 (d := d) (e := e') (dep := dep) (x := x) hz (by omega) (by omega) (by omega) T X (by omega)
  unfold zg_X10_clings
  rw [zs_runE (w := zy_h z D w) (q := z + 20) (mv := 2) (a := nI 3) (b := nI 1) (x := x) (dep := nI dep) rfl d, g1, if_neg (show ¬ nI 3 = 0 by decide), if_neg (show ¬ nI 3 = 4 by decide), if_neg (show ¬ nI 3 = 5 by decide), show zg_X10_above S (nI 3) = some 1 from rfl, zo_s, show zg_X10_clings e' S (nI m) 1 x = _ from g2, zo_s]
  exact ⟨D3, S3, t3, _, rfl, rfl, g3, g4, g5, by omega⟩
theorem zj_c4 (hz : w.2.2 < z) {d e dep : Nat} {x : Int32} (hd : 8 ≤ d) (he : 2 ≤ e) (hp : dep + 8 ≤ 41) (T : zx_tr D S t) (X : zx_mx D S kd m k) (ht : t + 12 + 8 < 2 ^ 20) : zx_go z w D S t 12 (zf_X2_run d (zy_h z D w) (z + 20) 2 (nI 4) x (nI dep)) (zg_X10_clings e S (nI m) (nI 4) x) := by
  obtain ⟨d', rfl⟩ : ∃ d', d = d' + 1 := ⟨d - 1, by omega⟩
  obtain ⟨e', rfl⟩ : ∃ e', e = e' + 1 := ⟨e - 1, by omega⟩
  obtain ⟨D2, S2, b1, b2, b3, b4, b5⟩ := zx_ran hz T (by omega) 50
  have X2 := zx_mx_t X b4 b5
  have A2 := zy_is_h z D2 w
  unfold zf_X2_run zf_X2_answerOf zg_X10_clings
  rw [if_neg (zy_is20 (zy_is_h z D w)), show zf_X2_bodyOf (zy_h z D w) 2 (nI 4) = some 50 from rfl, zo_s, if_neg (show ¬ (50 : Int32) = 0 by decide), if_pos (show nI dep ≤ 40 from nI_le (show dep ≤ 40 by omega) (by decide)), b1, zo_s, zj_id, if_neg (zy_is20 A2), show ∀ h, zf_X2_aboveOf h (((50 : Int32) / 10) - 1) = some 0 from fun _ => rfl, zo_s, if_neg (show ¬ (50 : Int32) = 10 by decide), if_neg (show ¬ (50 : Int32) = 11 by decide), if_neg (show ¬ (50 : Int32) = 12 by decide), if_neg (show ¬ (50 : Int32) = 20 by decide), if_neg (show ¬ (50 : Int32) = 30 by decide), if_neg (show ¬ (50 : Int32) = 40 by decide), if_pos rfl, if_neg (show ¬ nI 4 = 0 by decide), if_pos (show nI 4 = 4 by decide), b2, zo_s]
  obtain ⟨D3, S3, t3, v, g1, g2, g3, g4, g5, g6⟩ := zj_c0 (x := x) (d := d') (e := e') (dep := dep + 1) hz (by omega) (by omega) (by omega) b3 X2 (by omega)
  have X3 := zx_mx_t X2 g4 g5
  have A3 := zy_is_h z D3 w
  rw [show nI dep + 1 = nI (dep + 1) from (nI_succ dep).symm, show zf_X2_run d' (zy_h z D2 w) (z + 20) 2 0 (x) (nI (dep + 1)) = _ from g1, zo_s, show zg_X10_clings e' S2 (nI m) 0 (x) = _ from g2, zo_s]
  exact ⟨D3, S3, t3, _, rfl, rfl, g3, zx_mv_trans b4 g4, zx_mS_trans b5 g5, by omega⟩
theorem zj_c5 (hz : w.2.2 < z) {d e dep : Nat} {x : Int32} (hd : 8 ≤ d) (he : 3 ≤ e) (hp : dep + 8 ≤ 41) (T : zx_tr D S t) (X : zx_mx D S kd m k) (ht : t + 12 + 8 < 2 ^ 20) : zx_go z w D S t 12 (zf_X2_run d (zy_h z D w) (z + 20) 2 (nI 5) x (nI dep)) (zg_X10_clings e S (nI m) (nI 5) x) := by
  obtain ⟨d', rfl⟩ : ∃ d', d = d' + 1 := ⟨d - 1, by omega⟩
  obtain ⟨e', rfl⟩ : ∃ e', e = e' + 1 := ⟨e - 1, by omega⟩
  obtain ⟨D2, S2, b1, b2, b3, b4, b5⟩ := zx_ran hz T (by omega) 60
  have X2 := zx_mx_t X b4 b5
  have A2 := zy_is_h z D2 w
  unfold zf_X2_run zf_X2_answerOf zg_X10_clings
  rw [if_neg (zy_is20 (zy_is_h z D w)), show zf_X2_bodyOf (zy_h z D w) 2 (nI 5) = some 60 from rfl, zo_s, if_neg (show ¬ (60 : Int32) = 0 by decide), if_pos (show nI dep ≤ 40 from nI_le (show dep ≤ 40 by omega) (by decide)), b1, zo_s, zj_id, if_neg (zy_is20 A2), show ∀ h, zf_X2_aboveOf h (((60 : Int32) / 10) - 1) = some 2 from fun _ => rfl, zo_s, if_neg (show ¬ (60 : Int32) = 10 by decide), if_neg (show ¬ (60 : Int32) = 11 by decide), if_neg (show ¬ (60 : Int32) = 12 by decide), if_neg (show ¬ (60 : Int32) = 20 by decide), if_neg (show ¬ (60 : Int32) = 30 by decide), if_neg (show ¬ (60 : Int32) = 40 by decide), if_neg (show ¬ (60 : Int32) = 50 by decide), if_neg (show ¬ (60 : Int32) = 51 by decide), if_pos rfl, if_neg (show ¬ nI 5 = 0 by decide), if_neg (show ¬ nI 5 = 4 by decide), if_pos (show nI 5 = 5 by decide), b2, zo_s]
  obtain ⟨D3, S3, t3, v, g1, g2, g3, g4, g5, g6⟩ := zj_c2 (x := x) (d := d') (e := e') (dep := dep + 1) hz (by omega) (by omega) (by omega) b3 X2 (by omega)
  have X3 := zx_mx_t X2 g4 g5
  have A3 := zy_is_h z D3 w
  rw [show nI dep + 1 = nI (dep + 1) from (nI_succ dep).symm, show zf_X2_run d' (zy_h z D2 w) (z + 20) 2 2 (x) (nI (dep + 1)) = _ from g1, zo_s, show zg_X10_clings e' S2 (nI m) 2 (x) = _ from g2, zo_s]
  exact ⟨D3, S3, t3, _, rfl, rfl, g3, zx_mv_trans b4 g4, zx_mS_trans b5 g5, by omega⟩
theorem zj_c6 (hz : w.2.2 < z) {d e dep : Nat} {x : Int32} (hd : 7 ≤ d) (he : 4 ≤ e) (hp : dep + 7 ≤ 41) (T : zx_tr D S t) (X : zx_mx D S kd m k) (ht : t + 11 + 8 < 2 ^ 20) : zx_go z w D S t 11 (zf_X2_run d (zy_h z D w) (z + 20) 2 (nI 6) x (nI dep)) (zg_X10_clings e S (nI m) (nI 6) x) := by
  obtain ⟨e', rfl⟩ : ∃ e', e = e' + 1 := ⟨e - 1, by omega⟩
  obtain ⟨D3, S3, t3, v, g1, g2, g3, g4, g5, g6⟩ := zj_c3 (d := d) (e := e') (dep := dep) (x := x) hz (by omega) (by omega) (by omega) T X (by omega)
  unfold zg_X10_clings
  rw [zs_runE (w := zy_h z D w) (q := z + 20) (mv := 2) (a := nI 6) (b := nI 3) (x := x) (dep := nI dep) rfl d, g1, if_neg (show ¬ nI 6 = 0 by decide), if_neg (show ¬ nI 6 = 4 by decide), if_neg (show ¬ nI 6 = 5 by decide), show zg_X10_above S (nI 6) = some 3 from rfl, zo_s, show zg_X10_clings e' S (nI m) 3 x = _ from g2, zo_s]
  exact ⟨D3, S3, t3, _, rfl, rfl, g3, g4, g5, by omega⟩
theorem zj_cK {kk : Nat} (hkk : kk < 7) (hz : w.2.2 < z) {d e dep : Nat} {x : Int32} (hd : 8 ≤ d) (he : 4 ≤ e) (hp : dep + 8 ≤ 41) (T : zx_tr D S t) (X : zx_mx D S kd m k) (ht : t + 12 + 8 < 2 ^ 20) : zx_go z w D S t 12 (zf_X2_run d (zy_h z D w) (z + 20) 2 (nI kk) x (nI dep)) (zg_X10_clings e S (nI m) (nI kk) x) := by
  have q : kk = 0 ∨ kk = 1 ∨ kk = 2 ∨ kk = 3 ∨ kk = 4 ∨ kk = 5 ∨ kk = 6 := by omega
  have up : ∀ c o1 o2, c ≤ 12 → zx_go z w D S t c o1 o2 → zx_go z w D S t 12 o1 o2 := fun c o1 o2 h ⟨D2, S2, t2, v, a1, a2, a3, a4, a5, a6⟩ => ⟨D2, S2, t2, v, a1, a2, a3, a4, a5, by omega⟩
  rcases q with rfl | rfl | rfl | rfl | rfl | rfl | rfl
  · exact up 11 _ _ (by decide) (zj_c0 hz (by omega) (by omega) (by omega) T X (by omega))
  · exact up 11 _ _ (by decide) (zj_c1 hz (by omega) (by omega) (by omega) T X (by omega))
  · exact up 11 _ _ (by decide) (zj_c2 hz (by omega) (by omega) (by omega) T X (by omega))
  · exact up 11 _ _ (by decide) (zj_c3 hz (by omega) (by omega) (by omega) T X (by omega))
  · exact up 12 _ _ (by decide) (zj_c4 hz (by omega) (by omega) (by omega) T X (by omega))
  · exact up 12 _ _ (by decide) (zj_c5 hz (by omega) (by omega) (by omega) T X (by omega))
  · exact up 11 _ _ (by decide) (zj_c6 hz (by omega) (by omega) (by omega) T X (by omega))
end ZM
theorem ze_act {z : Nat} {w : zc_H} {D : zy_D} {S : zm_S} {N M : Nat} (R : zx_R z w D S N M) (x1 x2 x3 : Int32) : zx_res z w (zf_X9_act w z x1 x2 x3) (zg_X10_act S x1 x2 x3) := by
  have A := zx_R_is R
  have hz := (zx_R_z R).1
  have hM := (zx_R_16 R).2
  have n1 : ¬ (1 : Int32) = 0 := by decide
  obtain ⟨-, E, f, g, f', g', fb, N', M', nb, -, ⟨-, -, hE, -, al4, -⟩, doc, -⟩ := id R
  obtain ⟨c1, c2, c3, c4, c5, c6, c7, c8, c9, c10, c11⟩ := zx_R_ds R
  -- what comes of it in the end
  have fin : ∀ (D2 : zy_D) (S2 : zm_S) (t : Nat), (∀ j, j ≠ 20 → D2.1 j = D.1 j) → (∀ j, j ≠ 21 → D2.2.1 j = D.2.1 j) → D2.2.2 = D.2.2 → (∀ j, j ≠ 13 → S2.1 j = S.1 j) → (∀ j, j ≠ 14 → S2.2.1 j = S.2.1 j) → S2.2.2 = S.2.2 → zx_tr D2 S2 t → t < 2 ^ 20 → zx_R z (zy_h z D2 w) D2 S2 N M := by
    intro D2 S2 t d1 d2 d3 s1 s2 s3 ⟨t1, t2, t3⟩ ht
    refine zx_R_ov R rfl (fun y hy => zy_o (Or.inr (by omega))) (fun k hk => zy_l hk) (zy_is_h _ _ _) ?_ ⟨s2 1 (by decide), s2 2 (by decide), by rw [s3], fun _ _ => by rw [s2 6 (by decide)], s2 18 (by decide), s2 19 (by decide), by rw [s3], s2 22 (by decide)⟩ (by rw [s2 7 (by decide)]) ?_ ?_
    · obtain ⟨⟨b1, b2, b3, b4, b5, b6, b7⟩, -⟩ := R
      exact ⟨by rw [s1 0 (by decide)]; exact b1, by rw [s1 5 (by decide)]; exact b2, by rw [s2 7 (by decide)]; exact b3, zx_co_eq (s2 1 (by decide)) (s2 2 (by decide)) (by rw [s3]) (s2 4 (by decide)) (by rw [s2 7 (by decide)]) b4, ⟨t, t2, ht⟩, by rw [s2 9 (by decide)]; exact b6, by rw [s2 10 (by decide)]; exact b7⟩
    · refine ⟨by rw [d1 0 (by decide), s1 16 (by decide)]; exact c1, by rw [d1 0 (by decide), s1 12 (by decide)]; exact c2, by rw [d1 2 (by decide), s2 7 (by decide)]; exact c3, by rw [d1 2 (by decide), s2 7 (by decide)]; exact c4, by rw [d1 2 (by decide), s2 7 (by decide)]; exact c5, by rw [d1 2 (by decide), s1 8 (by decide)]; exact c6, by rw [d1 2 (by decide), s2 6 (by decide)]; exact c7, by rw [d2 8 (by decide), s2 15 (by decide)]; exact c8, t1.trans t2.symm, t3, fun s hs => ?_⟩
      rw [d1 _ (by omega), s2 9 (by decide), s2 10 (by decide), d3, s3]
      exact c11 s hs
    · intro N' M' h
      unfold zx_im at h ⊢
      rw [d1 5 (by decide), s1 16 (by decide), s1 17 (by decide), s1 21 (by decide), s1 24 (by decide), s2 22 (by decide), s2 23 (by decide)]
      exact h
  have A1 := zy_is_h z (zy_I D 20 1 0) w
  have tr1 : zx_tr (zy_I D 20 1 0) (zg_p S 13 0) 0 := ⟨zy_Ii, zg_pp, c10⟩
  have d1 : ∀ j, j ≠ 20 → (zy_I D 20 1 0).1 j = D.1 j := fun j h => va_up_ne _ _ h
  have s1 : ∀ j, j ≠ 13 → (zg_p S 13 0).1 j = S.1 j := fun j h => va_up_ne _ _ h
  have al41 : zk_al (zy_h z (zy_I D 20 1 0) w) (z + 4) (E 4) M g := zx_al_h hE rfl al4
  have stop : zx_res z w (some (zy_h z (zy_I D 20 1 0) w, 0)) (some (zg_p S 13 0, 0)) := zx_res_i rfl rfl (fin _ _ 0 d1 (fun _ _ => rfl) rfl s1 (fun _ _ => rfl) rfl tr1 (by decide))
  unfold zf_X9_act
  rw [if_neg (zy_is0 A), zy_r0_10 A, zo_s, zo_s]
  unfold zf_X2_forget
  rw [if_neg (zy_is20 A), zy_p20_1 A, zo_s, zo_s, zy_r0_1 A1, zo_s, zo_s]
  unfold zg_X10_act
  rw [zo_s (zg_p S 13 0)]
  have h51 : (zg_p S 13 0).1 5 = nI M := R.1.2.1
  rcases zn_rng x1 (n := M) (by omega) with hx | ⟨m, hm, rfl⟩
  · rw [zs_remN A1 al41 hx, zo_s, if_pos rfl, zr_isRemN h51 hM hx, zo_s, if_pos rfl]
    exact stop
  obtain ⟨gm1, gm2, kind, a, r, p, q, an, u1, u2, u3, u4, u5, u6, u7, u8, u9, u10, u11, u12, u13⟩ := doc.2.2.2 m hm
  have cell : ∀ D2, (zy_h z D2 w).1 (g m) = some (.inr (3, [.int (nI m), .int (nI kind), .int (nI a), .ref (f r), .int (nI (32 * p + q)), .int an])) := fun D2 => (zy_o (Or.inr (by omega))).trans u13
  rw [zs_rem A1 al41 hM hm (Classical.not_not.mp (zb_is (cell _))), zo_s, if_neg (by simp), zr_isRem h51 hM hm, zo_s, if_neg n1]
  rcases zn_rng x2 (n := 3) (by decide) with hx | ⟨mv, hmv, rfl⟩
  · have e : ∀ X Y : Option (zc_H × Int32), (if x2 < 0 then X else if x2 < 3 then Y else X) = X := by
      intro X Y
      by_cases c : x2 < 0
      · rw [if_pos c]
      · rw [if_neg c, if_neg (show ¬ x2 < 3 from Int32.not_lt.mpr (hx.resolve_left c))]
    rw [e, zg_wn (zg_p S 13 0) (n := 2) (y := 2) rfl hx (by decide), zo_s, if_pos rfl]
    exact stop
  rw [if_neg (nI_pos (by omega)), if_pos (show nI mv < 3 from nI_lt hmv (by decide)), zy_r0_10 A1, zo_s, zo_s, zg_wy (zg_p S 13 0) (n := 2) (y := 2) rfl (by omega) (by decide), zo_s (1 : Int32), if_neg n1]
  unfold zf_X2_perform
  have A2 := zy_is_h z (zy_I (zy_I D 20 1 0) 20 2 (nI kind)) w
  have A3 := zy_is_h z (zy_I (zy_I (zy_I D 20 1 0) 20 2 (nI kind)) 20 3 (nI m)) w
  have A4 := zy_is_h z (zy_I (zy_I (zy_I (zy_I D 20 1 0) 20 2 (nI kind)) 20 3 (nI m)) 20 4 (nI a)) w
  rw [if_neg (zy_is20 A1), zo_s, zb_gi (cell _) rfl, zo_s, zy_p20_2 A1, zo_s, zy_hh, zb_gi (cell _) rfl, zo_s, zy_p20_3 A2, zo_s, zy_hh, zb_gi (cell _) rfl, zo_s, zy_p20_4 A3, zo_s, zy_hh, zy_g20_2 A4, zo_s]
  generalize hD4 : zy_I (zy_I (zy_I (zy_I D 20 1 0) 20 2 (nI kind)) 20 3 (nI m)) 20 4 (nI a) = D4 at A4
  have e1 : D4.1 20 1 = nI 0 := by rw [← hD4, zy_In (by decide), zy_In (by decide), zy_In (by decide), zy_Ii]; rfl
  have e2 : D4.1 20 2 = nI kind := by rw [← hD4, zy_In (by decide), zy_In (by decide), zy_Ii]
  have e3 : D4.1 20 3 = nI m := by rw [← hD4, zy_In (by decide), zy_Ii]
  have e4 : D4.1 20 4 = nI a := by rw [← hD4, zy_Ii]
  have d4 : ∀ j, j ≠ 20 → D4.1 j = D.1 j := fun j h => by
    rw [← hD4]
    unfold zy_I
    dsimp only
    rw [va_up_ne _ _ h, va_up_ne _ _ h, va_up_ne _ _ h, va_up_ne _ _ h]
  have d5 : D4.2 = D.2 := by rw [← hD4]; rfl
  have T : zx_tr D4 (zg_p S 13 0) 0 := ⟨e1, zg_pp, by rw [d5]; exact c10⟩
  have X : zx_mx D4 (zg_p S 13 0) kind m a := ⟨u1, by omega, e2, e3, e4, u6, u7⟩
  have close : ∀ o1 o2, zx_go z w D4 (zg_p S 13 0) 0 12 o1 o2 → zx_res z w ((o1.bind fun r13 => some (r13.1, r13.2)).bind fun r15 => some (r15.1, r15.2)) (o2.bind fun r => some (r.1, r.2)) := by
    rintro o1 o2 ⟨D5, S5, t5, v, g1, g2, g3, g4, g5, g6⟩
    rw [g1, g2]
    exact zx_res_i rfl rfl (fin D5 S5 t5 (fun j h => (g4.1 j h).trans (d4 j h)) (fun j h => (g4.2.2.1 j h).trans (by rw [d5])) (g4.2.2.2.trans (by rw [d5])) (fun j h => (g5.1 j h).trans (s1 j h)) (fun j h => g5.2.1 j h) g5.2.2 g3 (by omega))
  have up : ∀ c o1 o2, c ≤ 12 → zx_go z w D4 (zg_p S 13 0) 0 c o1 o2 → zx_go z w D4 (zg_p S 13 0) 0 12 o1 o2 := fun c o1 o2 h ⟨D2, S2, t2, v, a1, a2, a3, a4, a5, a6⟩ => ⟨D2, S2, t2, v, a1, a2, a3, a4, a5, by omega⟩
  rw [zx_mx0 X, zo_s (nI kind), e2]
  have hmv3 : mv = 0 ∨ mv = 1 ∨ mv = 2 := by omega
  rcases hmv3 with rfl | rfl | rfl
  · rw [if_pos (show nI 0 = 0 by decide)]
    exact close _ _ (up 4 _ _ (by decide) (zj_pK (d := 20) (e := 20) (dep := 0) (x := x3) u1 hz (by decide) (by decide) (by decide) T X (by decide)))
  · rw [if_neg (show ¬ nI 1 = 0 by decide), if_pos (show nI 1 = 1 by decide)]
    exact close _ _ (up 6 _ _ (by decide) (zj_wK (d := 20) (e := 20) (dep := 0) (x := x3) u1 hz (by decide) (by decide) (by decide) T X (by decide)))
  · rw [if_neg (show ¬ nI 2 = 0 by decide), if_neg (show ¬ nI 2 = 1 by decide)]
    exact close _ _ (zj_cK (d := 20) (e := 20) (dep := 0) (x := x3) u1 hz (by decide) (by decide) (by decide) T X (by decide))
