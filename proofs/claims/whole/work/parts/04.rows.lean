/-! rows over worlds as functions -/
def zc_cls (ci : Nat) (C : String) (T : u_T) (N : Nat) : Prop := zc_cl[ci]? = some (C, T, N) ∧ (∀ w ∈ u_ws C T N, w ∈ zc_T) ∧ (∃ ty0 : Nat → FieldType, ∀ k, k < N → parseFieldDescriptor (T k).2.2.1 = some (ty0 k)) ∧ (∀ a, a < N → ∀ b, b < N → a ≠ b → (T a).2.1 ≠ (T b).2.1)
section ZW
variable {p : Program} {l : Launch} {e : Env} {R : Room} {s : State} {m : MethodId} {args : Array Value} {below : List Frame} {meth : Method} {c : Code} {H : Heap} {locs : List Loc} {cells slots : Nat} {Q : State → Prop}
variable {cc : ByteArray} {pc nL : Nat} {ls : Array Slot} {rest : List Value} {own : String} {w0 : Cond} {g : zc_G} {h : zc_H} {index : Nat}
theorem zf_g_e {h : zc_H} {q c k : Nat} {v : Value} (hv : zf_g h q c k = some v) : ∃ fs : List Value, h.1 q = some (.inr (c, fs)) ∧ fs[k]? = some v := by
  unfold zf_g at hv
  split at hv
  · rename_i o ho
    split at hv
    · rename_i hc
      exact ⟨o.2, by rw [ho, ← hc], hv⟩
    · cases hv
  · cases hv
theorem zf_p_e {h h2 : zc_H} {q c k : Nat} {v : Value} (hv : zf_p h q c k v = some h2) : ∃ fs : List Value, h.1 q = some (.inr (c, fs)) ∧ k < fs.length ∧ h2 = zf_up h q (.inr (c, fs.set k v)) := by
  unfold zf_p at hv
  split at hv
  · rename_i o ho
    split at hv
    · rename_i hc
      cases hv
      exact ⟨o.2, by rw [ho, ← hc.1], hc.2, rfl⟩
    · cases hv
  · cases hv
theorem zc_W.obj (hw : zc_W g h H locs) {q ci : Nat} {fs : List Value} (hq : h.1 q = some (.inr (ci, fs))) : va_P g.1 zc_cl [(q, .inr (ci, fs))] H := by
  intro k x hk
  match k, hk with
  | 0, hk => cases hk; exact (hw.2.2.1 q _ hq).2
  | k + 1, hk => simp at hk
theorem zc_W.arr (hw : zc_W g h H locs) {q t : Nat} {x : vp_A} (hq : h.1 q = some (.inl (t, x))) : va_P g.1 zc_cl [(q, .inl (g.2.1 t, x))] H := by
  intro k y hk
  match k, hk with
  | 0, hk => cases hk; exact (hw.2.2.1 q _ hq).2.2
  | k + 1, hk => simp at hk
theorem zc_W.up (hw : zc_W g h H locs) {q : Nat} {e e0 : va_E} {H1 : Heap} {k : Nat} (hq : h.1 q = some e0) (he : zc_at g q e H1) (z : H1.size = H.size) (oq : ∀ x : Nat, x ≠ q → H1[x]? = H[x]?) : zc_W g (zf_up h q e) H1 (locs ++ [⟨q, k⟩]) := by
  obtain ⟨h1, h2, h3, h4, h5, h6⟩ := hw
  have hq0 := (h3 q e0 hq).1
  refine ⟨by rw [z]; exact h1, h2, fun x e' hx => ?_, fun x hx => ?_, h5, fun L hL => ?_⟩
  · by_cases hxq : x = q
    · subst hxq
      have he' : e = e' := by simpa [zf_up, va_up] using hx
      subst he'
      exact ⟨hq0, he⟩
    · have hx' : h.1 x = some e' := by simpa [zf_up, va_up, hxq] using hx
      obtain ⟨g1, g2⟩ := h3 x e' hx'
      refine ⟨g1, ?_⟩
      unfold zc_at at g2 ⊢
      cases e' with
      | inl y => exact ⟨g2.1, by rw [oq x hxq]; exact g2.2⟩
      | inr o => exact va_at.kept g2 (oq x hxq)
  · rw [oq x (by omega)]
    exact h4 x hx
  · rcases List.mem_append.mp hL with h | h
    · exact h6 L h
    · rw [List.mem_singleton.mp h]
      exact hq0
theorem zw_get {C ref O nm ds : String} {T : u_T} {N ci k a : Nat} {fin : Bool} {v : Value} (S : CallFix p m c cc nL s args (w0 :: zc_T) own) (hK : zc_K g s) (hw : zc_W g h H locs) (hc : zc_cls ci C T N) (hk : k < N) (hT : T k = (O, nm, ds, fin)) (hlink : Cond.fieldLink own index ref nm ds ∈ zc_T) (hsame : O = ref ∨ Cond.sameField ref O nm ds ∈ zc_T) (hv : zf_g h a ci k = some v) (hdg : decode cc pc = .ok (.getfield index, 3))
    (kk : W p l e R s m args below meth c H locs cells slots Q (F0 m (pc + 3) ls (v :: rest))) : W p l e R s m args below meth c H locs cells slots Q (F0 m pc ls (va_rf (some a) :: rest)) := by
  obtain ⟨hx, hb, hml, hown, hts⟩ := S
  obtain ⟨fs, hq, hf⟩ := zf_g_e hv
  obtain ⟨c1, c2, c3, c4⟩ := hc
  refine va_get hx hb hts (fun w h => List.mem_cons_of_mem _ (c2 w h)) hown hK.1 (hw.obj hq) 0 rfl c1 k hk (by rw [hT]; exact hts _ (List.mem_cons_of_mem _ hlink)) ?_ hf hdg kk
  rw [hT]
  rcases hsame with rfl | hs
  · exact fun x h => h
  · exact fun x h => u_same (hts _ (List.mem_cons_of_mem _ hs)) x h
theorem zw_put {C ref O nm ds : String} {T : u_T} {N ci k a : Nat} {v : Value} {h2 : zc_H} (S : CallFix p m c cc nL s args (w0 :: zc_T) own) (hK : zc_K g s) (hw : zc_W g h H locs) (hc : zc_cls ci C T N) (hk : k < N) (hT : T k = (O, nm, ds, false)) (hlink : Cond.fieldLink own index ref nm ds ∈ zc_T) (hsame : O = ref ∨ Cond.sameField ref O nm ds ∈ zc_T) (hv : zf_p h a ci k v = some h2) {ty : FieldType} (hd : parseFieldDescriptor ds = some ty) (hn : narrow ty v = v) (hfit : fits ty v = true) (hdg : decode cc pc = .ok (.putfield index, 3))
    (kk : ∀ (H1 : Heap) (locs1 : List Loc), zc_W g h2 H1 locs1 → W p l e R s m args below meth c H1 locs1 cells slots Q (F0 m (pc + 3) ls rest)) : W p l e R s m args below meth c H locs cells slots Q (F0 m pc ls (v :: va_rf (some a) :: rest)) := by
  obtain ⟨hx, hb, hml, hown, hts⟩ := S
  obtain ⟨fs, hq, hl, rfl⟩ := zf_p_e hv
  obtain ⟨c1, c2, ⟨ty0, c3⟩, c4⟩ := hc
  have hin : ∀ w ∈ u_ws C T N, w ∈ w0 :: zc_T := fun w h => List.mem_cons_of_mem _ (c2 w h)
  have hap := va_apart (own := own) hts hin ty0 c3 c4 hK.1 c1
  obtain ⟨r, h1, cell, q1, q2, q3, q4⟩ := hw.obj hq 0 _ rfl
  have hr : r = (C, T, N) := Option.some.inj (h1.symm.trans c1)
  subst hr
  obtain ⟨hS, hfc, kC, hkC, hkind⟩ := hK.1.1 ci _ c1
  obtain ⟨cf, kf, fi, f, hi, hsl⟩ := hS k hk
  have hlay := hts _ (hin _ (u_in_lay hk))
  unfold u_lay at hlay
  replace hi : s.fieldFound? (T k).1 (T k).2.1 (T k).2.2.1 = some (cf, kf, fi, f) := hi
  rw [hT] at hlay hi
  replace hlay : (Cond.lays C O nm ds).before args s = true := hlay
  have hst := (u_facts hfc hkC (Or.inl hlay) hi).1
  have h6 := u_store hfc hkC hkind hlay hi hd hn hfit
  have hsm : s.fieldFound? ref nm ds = some (cf, kf, fi, f) := by
    rcases hsame with rfl | hs
    · exact hi
    · exact u_same (hts _ (List.mem_cons_of_mem _ hs)) _ hi
  refine W.putK hx hb (f := f) ⟨hown, hts _ (List.mem_cons_of_mem _ hlink), ⟨_, _, _, hsm⟩, hst⟩ (by rw [q2]; exact h6) q1 q3 (by rw [hsl]; exact k2_hasslot (q4 k hk)) rfl rfl hdg fun H' e1 e2 e3 => ?_
  rw [hsl] at e1 ⊢
  exact kk H' _ (hw.up hq ⟨_, c1, t_OB.to (V := updV (vp_V fs) k v) ⟨_, e1, q2, q3, t_set q4 hap hk v⟩ (fun j _ => vp_updV_set hl v j)⟩ e2 e3)
theorem zw_putF {C nm ds : String} {T : u_T} {N ci k a : Nat} {v : Value} {h2 : zc_H} (S : CallFix p m c cc nL s args (w0 :: zc_T) C) (hK : zc_K g s) (hw : zc_W g h H locs) (hc : zc_cls ci C T N) (hk : k < N) (hT : T k = (C, nm, ds, true)) (hlink : Cond.fieldLink C index C nm ds ∈ zc_T) (hin2 : meth.name = "<init>") (hv : zf_p h a ci k v = some h2) {ty : FieldType} (hd : parseFieldDescriptor ds = some ty) (hn : narrow ty v = v) (hfit : fits ty v = true) (hdg : decode cc pc = .ok (.putfield index, 3))
    (kk : ∀ (H1 : Heap) (locs1 : List Loc), zc_W g h2 H1 locs1 → W p l e R s m args below meth c H1 locs1 cells slots Q (F0 m (pc + 3) ls rest)) : W p l e R s m args below meth c H locs cells slots Q (F0 m pc ls (v :: va_rf (some a) :: rest)) := by
  obtain ⟨hx, hb, hml, hown, hts⟩ := S
  obtain ⟨fs, hq, hl, rfl⟩ := zf_p_e hv
  obtain ⟨c1, c2, ⟨ty0, c3⟩, c4⟩ := hc
  have hin : ∀ w ∈ u_ws C T N, w ∈ w0 :: zc_T := fun w h => List.mem_cons_of_mem _ (c2 w h)
  have hap := va_apart (own := C) hts hin ty0 c3 c4 hK.1 c1
  obtain ⟨r, h1, cell, q1, q2, q3, q4⟩ := hw.obj hq 0 _ rfl
  have hr : r = (C, T, N) := Option.some.inj (h1.symm.trans c1)
  subst hr
  obtain ⟨hS, hfc, kC, hkC, hkind⟩ := hK.1.1 ci _ c1
  obtain ⟨cf, kf, fi, f, hi, hsl⟩ := hS k hk
  have hlay := hts _ (hin _ (u_in_lay hk))
  unfold u_lay at hlay
  replace hi : s.fieldFound? (T k).1 (T k).2.1 (T k).2.2.1 = some (cf, kf, fi, f) := hi
  rw [hT] at hlay hi
  replace hlay : (Cond.laysFinal C C nm ds).before args s = true := hlay
  have hst := (u_facts hfc hkC (Or.inr hlay) hi).1
  have h6 := u_fits hfc hkC hkind (Or.inr hlay) hi hd hn hfit
  have hcf : m.cls = cf := by
    obtain ⟨_, _, c', _, _, _, -, -, hf', -, -, -, hown2, -⟩ := Cond.laysFinal_spec hlay
    have e1 : c' = cf := by have := hi.symm.trans hf'; simp at this; exact this.1.symm
    rw [← e1]; exact Option.some.inj (hown.symm.trans hown2)
  refine W.putFinK hx hb (f := f) hown (hts _ (List.mem_cons_of_mem _ hlink)) hi hst hcf hin2 (by rw [q2]; exact h6) q1 q3 (by rw [hsl]; exact k2_hasslot (q4 k hk)) rfl rfl hdg fun H' e1 e2 e3 => ?_
  rw [hsl] at e1 ⊢
  exact kk H' _ (hw.up hq ⟨_, c1, t_OB.to (V := updV (vp_V fs) k v) ⟨_, e1, q2, q3, t_set q4 hap hk v⟩ (fun j _ => vp_updV_set hl v j)⟩ e2 e3)
end ZW
