/-! the classes of the worlds, by number -/
theorem zc_clsOf {ci : Nat} {C : String} {T : u_T} {N : Nat} (ty0 : Nat → FieldType) (h1 : zc_cl[ci]? = some (C, T, N)) (h2 : (u_ws C T N).all (fun w => decide (w ∈ lw_tbl) && goodWord w) = true) (h3 : ∀ k, k < N → parseFieldDescriptor (T k).2.2.1 = some (ty0 k)) (h4 : ∀ a, a < N → ∀ b, b < N → a ≠ b → (T a).2.1 ≠ (T b).2.1) : zc_cls ci C T N := ⟨h1, fun w hw => by
  have h := List.all_eq_true.mp h2 w hw
  simp only [Bool.and_eq_true, decide_eq_true_eq] at h
  exact List.mem_filter.mpr h, ⟨ty0, h3⟩, h4⟩
theorem zk_0 : zc_cls 0 RX0 TX0 2 := zc_clsOf tyX0 rfl (by decide +kernel) tyX0_ok nmX0
theorem zk_1 : zc_cls 1 RX1 TX1 5 := zc_clsOf tyX1 rfl (by decide +kernel) tyX1_ok nmX1
theorem zk_2 : zc_cls 2 RX2 TX2 5 := zc_clsOf tyX2 rfl (by decide +kernel) tyX2_ok nmX2
theorem zk_3 : zc_cls 3 RX3 TX3 6 := zc_clsOf tyX3 rfl (by decide +kernel) tyX3_ok nmX3
theorem zk_4 : zc_cls 4 RX4 TX4 5 := zc_clsOf tyX4 rfl (by decide +kernel) tyX4_ok nmX4
theorem zk_5 : zc_cls 5 RX5 TX5 3 := zc_clsOf tyX5 rfl (by decide +kernel) tyX5_ok nmX5
theorem zk_6 : zc_cls 6 RX6 TX6 7 := zc_clsOf tyX6 rfl (by decide +kernel) tyX6_ok nmX6
theorem zk_7 : zc_cls 7 RX7 TX7 5 := zc_clsOf tyX7 rfl (by decide +kernel) tyX7_ok nmX7
theorem zk_8 : zc_cls 8 RX8 TX8 9 := zc_clsOf tyX8 rfl (by decide +kernel) tyX8_ok nmX8
theorem zk_9 : zc_cls 9 RX9 TX9 11 := zc_clsOf tyX9 rfl (by decide +kernel) tyX9_ok nmX9
theorem zk_10 : zc_cls 10 RX10 TX10 41 := zc_clsOf tyX10 rfl (by decide +kernel) tyX10_ok nmX10
theorem zk_11 : zc_cls 11 RJx4a65c TJx4a65c 3 := zc_clsOf tyJx4a65c rfl (by decide +kernel) tyJx4a65c_ok nmJx4a65c
