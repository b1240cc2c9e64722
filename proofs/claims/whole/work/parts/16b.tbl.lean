/-! the lists of the check, out of the tables -/
theorem c_some {o : Option FieldType} (h : o.isSome = true) : o = some (o.getD .int) := by
  cases o with
  | none => cases h
  | some x => rfl
theorem c_alls {N : Nat} {f : Nat → Bool} (h : (List.range N).all f = true) {k : Nat} (hk : k < N) : f k = true := List.all_eq_true.mp h k (List.mem_range.mpr hk)
theorem c_dist {N : Nat} {f : Nat → String} (h : (List.range N).all (fun a => (List.range N).all (fun b => decide (a = b) || decide (f a ≠ f b))) = true) : ∀ a, a < N → ∀ b, b < N → a ≠ b → f a ≠ f b := by
  intro a ha b hb hab
  have h2 := c_alls (c_alls h ha) hb
  rcases Bool.or_eq_true_iff.mp h2 with z | z
  · exact absurd (of_decide_eq_true z) hab
  · exact of_decide_eq_true z
theorem acls_1 : a_cls 1 (RJ4, TJ4, 4) := ⟨rfl, (List.forall_mem_cons.mpr ⟨wd_0, List.forall_mem_cons.mpr ⟨wd_1, List.forall_mem_cons.mpr ⟨wd_2, List.forall_mem_cons.mpr ⟨wd_3, fun _ h => absurd h List.not_mem_nil⟩⟩⟩⟩ : ∀ w ∈ u_ws RJ4 TJ4 4, w ∈ am_ws), ⟨fun k => (parseFieldDescriptor (TJ4 k).2.2.1).getD .int, fun k hk => c_some (c_alls (N := 4) (f := fun k => (parseFieldDescriptor (TJ4 k).2.2.1).isSome) (by decide +kernel) hk)⟩, c_dist (by decide +kernel)⟩
theorem acls_2 : a_cls 2 (RX0, TX0, 3) := ⟨rfl, (List.forall_mem_cons.mpr ⟨wd_4, List.forall_mem_cons.mpr ⟨wd_5, List.forall_mem_cons.mpr ⟨wd_6, fun _ h => absurd h List.not_mem_nil⟩⟩⟩ : ∀ w ∈ u_ws RX0 TX0 3, w ∈ am_ws), ⟨fun k => (parseFieldDescriptor (TX0 k).2.2.1).getD .int, fun k hk => c_some (c_alls (N := 3) (f := fun k => (parseFieldDescriptor (TX0 k).2.2.1).isSome) (by decide +kernel) hk)⟩, c_dist (by decide +kernel)⟩
theorem acls_3 : a_cls 3 (RX1, TX1, 7) := ⟨rfl, (List.forall_mem_cons.mpr ⟨wd_7, List.forall_mem_cons.mpr ⟨wd_8, List.forall_mem_cons.mpr ⟨wd_9, List.forall_mem_cons.mpr ⟨wd_10, List.forall_mem_cons.mpr ⟨wd_11, List.forall_mem_cons.mpr ⟨wd_12, List.forall_mem_cons.mpr ⟨wd_13, fun _ h => absurd h List.not_mem_nil⟩⟩⟩⟩⟩⟩⟩ : ∀ w ∈ u_ws RX1 TX1 7, w ∈ am_ws), ⟨fun k => (parseFieldDescriptor (TX1 k).2.2.1).getD .int, fun k hk => c_some (c_alls (N := 7) (f := fun k => (parseFieldDescriptor (TX1 k).2.2.1).isSome) (by decide +kernel) hk)⟩, c_dist (by decide +kernel)⟩
theorem acls_4 : a_cls 4 (RX2, TX2, 2) := ⟨rfl, (List.forall_mem_cons.mpr ⟨wd_14, List.forall_mem_cons.mpr ⟨wd_15, fun _ h => absurd h List.not_mem_nil⟩⟩ : ∀ w ∈ u_ws RX2 TX2 2, w ∈ am_ws), ⟨fun k => (parseFieldDescriptor (TX2 k).2.2.1).getD .int, fun k hk => c_some (c_alls (N := 2) (f := fun k => (parseFieldDescriptor (TX2 k).2.2.1).isSome) (by decide +kernel) hk)⟩, c_dist (by decide +kernel)⟩
theorem acls_5 : a_cls 5 (RX3, TX3, 11) := ⟨rfl, (List.forall_mem_cons.mpr ⟨wd_16, List.forall_mem_cons.mpr ⟨wd_17, List.forall_mem_cons.mpr ⟨wd_18, List.forall_mem_cons.mpr ⟨wd_19, List.forall_mem_cons.mpr ⟨wd_20, List.forall_mem_cons.mpr ⟨wd_21, List.forall_mem_cons.mpr ⟨wd_22, List.forall_mem_cons.mpr ⟨wd_23, List.forall_mem_cons.mpr ⟨wd_24, List.forall_mem_cons.mpr ⟨wd_25, List.forall_mem_cons.mpr ⟨wd_26, fun _ h => absurd h List.not_mem_nil⟩⟩⟩⟩⟩⟩⟩⟩⟩⟩⟩ : ∀ w ∈ u_ws RX3 TX3 11, w ∈ am_ws), ⟨fun k => (parseFieldDescriptor (TX3 k).2.2.1).getD .int, fun k hk => c_some (c_alls (N := 11) (f := fun k => (parseFieldDescriptor (TX3 k).2.2.1).isSome) (by decide +kernel) hk)⟩, c_dist (by decide +kernel)⟩
theorem acls_6 : a_cls 6 (RX4, TX4, 3) := ⟨rfl, (List.forall_mem_cons.mpr ⟨wd_27, List.forall_mem_cons.mpr ⟨wd_28, List.forall_mem_cons.mpr ⟨wd_29, fun _ h => absurd h List.not_mem_nil⟩⟩⟩ : ∀ w ∈ u_ws RX4 TX4 3, w ∈ am_ws), ⟨fun k => (parseFieldDescriptor (TX4 k).2.2.1).getD .int, fun k hk => c_some (c_alls (N := 3) (f := fun k => (parseFieldDescriptor (TX4 k).2.2.1).isSome) (by decide +kernel) hk)⟩, c_dist (by decide +kernel)⟩
theorem acls_7 : a_cls 7 (RX5, TX5, 2) := ⟨rfl, (List.forall_mem_cons.mpr ⟨wd_30, List.forall_mem_cons.mpr ⟨wd_31, fun _ h => absurd h List.not_mem_nil⟩⟩ : ∀ w ∈ u_ws RX5 TX5 2, w ∈ am_ws), ⟨fun k => (parseFieldDescriptor (TX5 k).2.2.1).getD .int, fun k hk => c_some (c_alls (N := 2) (f := fun k => (parseFieldDescriptor (TX5 k).2.2.1).isSome) (by decide +kernel) hk)⟩, c_dist (by decide +kernel)⟩
theorem acls_8 : a_cls 8 (RX6, TX6, 10) := ⟨rfl, (List.forall_mem_cons.mpr ⟨wd_32, List.forall_mem_cons.mpr ⟨wd_33, List.forall_mem_cons.mpr ⟨wd_34, List.forall_mem_cons.mpr ⟨wd_35, List.forall_mem_cons.mpr ⟨wd_36, List.forall_mem_cons.mpr ⟨wd_37, List.forall_mem_cons.mpr ⟨wd_38, List.forall_mem_cons.mpr ⟨wd_39, List.forall_mem_cons.mpr ⟨wd_40, List.forall_mem_cons.mpr ⟨wd_41, fun _ h => absurd h List.not_mem_nil⟩⟩⟩⟩⟩⟩⟩⟩⟩⟩ : ∀ w ∈ u_ws RX6 TX6 10, w ∈ am_ws), ⟨fun k => (parseFieldDescriptor (TX6 k).2.2.1).getD .int, fun k hk => c_some (c_alls (N := 10) (f := fun k => (parseFieldDescriptor (TX6 k).2.2.1).isSome) (by decide +kernel) hk)⟩, c_dist (by decide +kernel)⟩
theorem acls_9 : a_cls 9 (RX7, TX7, 10) := ⟨rfl, (List.forall_mem_cons.mpr ⟨wd_42, List.forall_mem_cons.mpr ⟨wd_43, List.forall_mem_cons.mpr ⟨wd_44, List.forall_mem_cons.mpr ⟨wd_45, List.forall_mem_cons.mpr ⟨wd_46, List.forall_mem_cons.mpr ⟨wd_47, List.forall_mem_cons.mpr ⟨wd_48, List.forall_mem_cons.mpr ⟨wd_49, List.forall_mem_cons.mpr ⟨wd_50, List.forall_mem_cons.mpr ⟨wd_51, fun _ h => absurd h List.not_mem_nil⟩⟩⟩⟩⟩⟩⟩⟩⟩⟩ : ∀ w ∈ u_ws RX7 TX7 10, w ∈ am_ws), ⟨fun k => (parseFieldDescriptor (TX7 k).2.2.1).getD .int, fun k hk => c_some (c_alls (N := 10) (f := fun k => (parseFieldDescriptor (TX7 k).2.2.1).isSome) (by decide +kernel) hk)⟩, c_dist (by decide +kernel)⟩
theorem acls_10 : a_cls 10 (RX8, TX8, 35) := ⟨rfl, (List.forall_mem_cons.mpr ⟨wd_52, List.forall_mem_cons.mpr ⟨wd_53, List.forall_mem_cons.mpr ⟨wd_54, List.forall_mem_cons.mpr ⟨wd_55, List.forall_mem_cons.mpr ⟨wd_56, List.forall_mem_cons.mpr ⟨wd_57, List.forall_mem_cons.mpr ⟨wd_58, List.forall_mem_cons.mpr ⟨wd_59, List.forall_mem_cons.mpr ⟨wd_60, List.forall_mem_cons.mpr ⟨wd_61, List.forall_mem_cons.mpr ⟨wd_62, List.forall_mem_cons.mpr ⟨wd_63, List.forall_mem_cons.mpr ⟨wd_64, List.forall_mem_cons.mpr ⟨wd_65, List.forall_mem_cons.mpr ⟨wd_66, List.forall_mem_cons.mpr ⟨wd_67, List.forall_mem_cons.mpr ⟨wd_68, List.forall_mem_cons.mpr ⟨wd_69, List.forall_mem_cons.mpr ⟨wd_70, List.forall_mem_cons.mpr ⟨wd_71, List.forall_mem_cons.mpr ⟨wd_72, List.forall_mem_cons.mpr ⟨wd_73, List.forall_mem_cons.mpr ⟨wd_74, List.forall_mem_cons.mpr ⟨wd_75, List.forall_mem_cons.mpr ⟨wd_76, List.forall_mem_cons.mpr ⟨wd_77, List.forall_mem_cons.mpr ⟨wd_78, List.forall_mem_cons.mpr ⟨wd_79, List.forall_mem_cons.mpr ⟨wd_80, List.forall_mem_cons.mpr ⟨wd_81, List.forall_mem_cons.mpr ⟨wd_82, List.forall_mem_cons.mpr ⟨wd_83, List.forall_mem_cons.mpr ⟨wd_84, List.forall_mem_cons.mpr ⟨wd_85, List.forall_mem_cons.mpr ⟨wd_86, fun _ h => absurd h List.not_mem_nil⟩⟩⟩⟩⟩⟩⟩⟩⟩⟩⟩⟩⟩⟩⟩⟩⟩⟩⟩⟩⟩⟩⟩⟩⟩⟩⟩⟩⟩⟩⟩⟩⟩⟩⟩ : ∀ w ∈ u_ws RX8 TX8 35, w ∈ am_ws), ⟨fun k => (parseFieldDescriptor (TX8 k).2.2.1).getD .int, fun k hk => c_some (c_alls (N := 35) (f := fun k => (parseFieldDescriptor (TX8 k).2.2.1).isSome) (by decide +kernel) hk)⟩, c_dist (by decide +kernel)⟩
theorem okF_0 : a_wfF (n_cls 4) (6, 1, 0) 9 := ⟨_, acls_6, by decide, wd_87, .inr (.inl ⟨rfl, rfl, rfl⟩)⟩
theorem okF_1 : a_wfF (n_cls 4) (6, 0, 1) 15 := ⟨_, acls_6, by decide, wd_88, .inl ⟨rfl, rfl, ⟨_, rfl, .inr ⟨_, rfl⟩⟩⟩⟩
theorem okF_2 : a_wfF (n_cls 4) (6, 2, 0) 19 := ⟨_, acls_6, by decide, wd_89, .inr (.inl ⟨rfl, rfl, rfl⟩)⟩
theorem okF_3 : a_wfF (n_cls 6) (8, 0, 1) 9 := ⟨_, acls_8, by decide, wd_90, .inl ⟨rfl, rfl, ⟨_, rfl, .inr ⟨_, rfl⟩⟩⟩⟩
theorem okF_4 : a_wfF (n_cls 6) (8, 7, 1) 15 := ⟨_, acls_8, by decide, wd_91, .inl ⟨rfl, rfl, ⟨_, rfl, .inr ⟨_, rfl⟩⟩⟩⟩
theorem okF_5 : a_wfF (n_cls 6) (8, 9, 0) 18 := ⟨_, acls_8, by decide, wd_92, .inr (.inl ⟨rfl, rfl, rfl⟩)⟩
theorem okF_6 : a_wfF (n_cls 6) (8, 1, 0) 22 := ⟨_, acls_8, by decide, wd_93, .inr (.inl ⟨rfl, rfl, rfl⟩)⟩
theorem okF_7 : a_wfF (n_cls 6) (8, 2, 0) 25 := ⟨_, acls_8, by decide, wd_94, .inr (.inl ⟨rfl, rfl, rfl⟩)⟩
theorem okF_8 : a_wfF (n_cls 6) (8, 3, 0) 28 := ⟨_, acls_8, by decide, wd_95, .inr (.inl ⟨rfl, rfl, rfl⟩)⟩
theorem okF_9 : a_wfF (n_cls 6) (8, 8, 0) 31 := ⟨_, acls_8, by decide, wd_96, .inr (.inl ⟨rfl, rfl, rfl⟩)⟩
theorem okF_10 : a_wfF (n_cls 6) (8, 5, 0) 43 := ⟨_, acls_8, by decide, wd_97, .inr (.inl ⟨rfl, rfl, rfl⟩)⟩
theorem okF_11 : a_wfF (n_cls 6) (8, 6, 0) 46 := ⟨_, acls_8, by decide, wd_98, .inr (.inl ⟨rfl, rfl, rfl⟩)⟩
theorem okF_12 : a_wfF (n_cls 6) (8, 4, 0) 49 := ⟨_, acls_8, by decide, wd_99, .inr (.inl ⟨rfl, rfl, rfl⟩)⟩
theorem okF_13 : a_wfF (n_cls 1) (3, 0, 1) 14 := ⟨_, acls_3, by decide, wd_100, .inl ⟨rfl, rfl, ⟨_, rfl, .inl ⟨_, rfl⟩⟩⟩⟩
theorem okF_14 : a_wfF (n_cls 1) (3, 1, 1) 20 := ⟨_, acls_3, by decide, wd_101, .inl ⟨rfl, rfl, ⟨_, rfl, .inl ⟨_, rfl⟩⟩⟩⟩
theorem okF_15 : a_wfF (n_cls 1) (3, 2, 1) 23 := ⟨_, acls_3, by decide, wd_102, .inl ⟨rfl, rfl, ⟨_, rfl, .inl ⟨_, rfl⟩⟩⟩⟩
theorem okF_16 : a_wfF (n_cls 1) (3, 3, 1) 26 := ⟨_, acls_3, by decide, wd_103, .inl ⟨rfl, rfl, ⟨_, rfl, .inl ⟨_, rfl⟩⟩⟩⟩
theorem okF_17 : a_wfF (n_cls 1) (3, 4, 0) 36 := ⟨_, acls_3, by decide, wd_104, .inr (.inl ⟨rfl, rfl, rfl⟩)⟩
theorem okF_18 : a_wfF (n_cls 1) (3, 5, 0) 40 := ⟨_, acls_3, by decide, wd_105, .inr (.inl ⟨rfl, rfl, rfl⟩)⟩
theorem okF_19 : a_wfF (n_cls 1) (3, 6, 0) 43 := ⟨_, acls_3, by decide, wd_106, .inr (.inl ⟨rfl, rfl, rfl⟩)⟩
theorem okF_20 : a_wfF (n_cls 1) (6, 2, 0) 58 := ⟨_, acls_6, by decide, wd_107, .inr (.inl ⟨rfl, rfl, rfl⟩)⟩
theorem okF_21 : a_wfF (n_cls 0) (2, 0, 1) 11 := ⟨_, acls_2, by decide, wd_108, .inl ⟨rfl, rfl, ⟨_, rfl, .inr ⟨_, rfl⟩⟩⟩⟩
theorem okF_22 : a_wfF (n_cls 0) (2, 2, 0) 18 := ⟨_, acls_2, by decide, wd_109, .inr (.inl ⟨rfl, rfl, rfl⟩)⟩
theorem okF_23 : a_wfF (n_cls 0) (2, 1, 0) 22 := ⟨_, acls_2, by decide, wd_110, .inr (.inl ⟨rfl, rfl, rfl⟩)⟩
theorem okF_24 : a_wfF (n_cls 3) (5, 0, 1) 9 := ⟨_, acls_5, by decide, wd_111, .inl ⟨rfl, rfl, ⟨_, rfl, .inr ⟨_, rfl⟩⟩⟩⟩
theorem okF_25 : a_wfF (n_cls 3) (5, 1, 1) 15 := ⟨_, acls_5, by decide, wd_112, .inl ⟨rfl, rfl, ⟨_, rfl, .inr ⟨_, rfl⟩⟩⟩⟩
theorem okF_26 : a_wfF (n_cls 3) (5, 2, 1) 18 := ⟨_, acls_5, by decide, wd_113, .inl ⟨rfl, rfl, ⟨_, rfl, .inr ⟨_, rfl⟩⟩⟩⟩
theorem okF_27 : a_wfF (n_cls 3) (5, 3, 1) 21 := ⟨_, acls_5, by decide, wd_114, .inl ⟨rfl, rfl, ⟨_, rfl, .inr ⟨_, rfl⟩⟩⟩⟩
theorem okF_28 : a_wfF (n_cls 3) (5, 4, 1) 24 := ⟨_, acls_5, by decide, wd_115, .inl ⟨rfl, rfl, ⟨_, rfl, .inr ⟨_, rfl⟩⟩⟩⟩
theorem okF_29 : a_wfF (n_cls 3) (5, 7, 0) 39 := ⟨_, acls_5, by decide, wd_116, .inr (.inl ⟨rfl, rfl, rfl⟩)⟩
theorem okF_30 : a_wfF (n_cls 3) (5, 8, 0) 43 := ⟨_, acls_5, by decide, wd_117, .inr (.inl ⟨rfl, rfl, rfl⟩)⟩
theorem okF_31 : a_wfF (n_cls 3) (5, 9, 0) 46 := ⟨_, acls_5, by decide, wd_118, .inr (.inl ⟨rfl, rfl, rfl⟩)⟩
theorem okF_32 : a_wfF (n_cls 3) (3, 4, 0) 49 := ⟨_, acls_3, by decide, wd_119, .inr (.inl ⟨rfl, rfl, rfl⟩)⟩
theorem okF_33 : a_wfF (n_cls 3) (5, 6, 0) 54 := ⟨_, acls_5, by decide, wd_120, .inr (.inl ⟨rfl, rfl, rfl⟩)⟩
theorem okF_34 : a_wfF (n_cls 3) (5, 10, 0) 56 := ⟨_, acls_5, by decide, wd_121, .inr (.inl ⟨rfl, rfl, rfl⟩)⟩
theorem okF_35 : a_wfF (n_cls 3) (5, 5, 0) 65 := ⟨_, acls_5, by decide, wd_122, .inr (.inl ⟨rfl, rfl, rfl⟩)⟩
theorem okF_36 : a_wfF (n_cls 3) (3, 0, 1) 68 := ⟨_, acls_3, by decide, wd_123, .inl ⟨rfl, rfl, ⟨_, rfl, .inl ⟨_, rfl⟩⟩⟩⟩
theorem okF_37 : a_wfF (n_cls 3) (6, 2, 0) 72 := ⟨_, acls_6, by decide, wd_124, .inr (.inl ⟨rfl, rfl, rfl⟩)⟩
theorem okF_38 : a_wfF (n_cls 5) (7, 0, 1) 14 := ⟨_, acls_7, by decide, wd_125, .inl ⟨rfl, rfl, ⟨_, rfl, .inl ⟨_, rfl⟩⟩⟩⟩
theorem okF_39 : a_wfF (n_cls 5) (3, 4, 0) 77 := ⟨_, acls_3, by decide, wd_126, .inr (.inl ⟨rfl, rfl, rfl⟩)⟩
theorem okF_40 : a_wfF (n_cls 5) (3, 5, 0) 83 := ⟨_, acls_3, by decide, wd_127, .inr (.inl ⟨rfl, rfl, rfl⟩)⟩
theorem okF_41 : a_wfF (n_cls 5) (3, 0, 1) 85 := ⟨_, acls_3, by decide, wd_128, .inl ⟨rfl, rfl, ⟨_, rfl, .inl ⟨_, rfl⟩⟩⟩⟩
theorem okF_42 : a_wfF (n_cls 5) (3, 1, 1) 118 := ⟨_, acls_3, by decide, wd_129, .inl ⟨rfl, rfl, ⟨_, rfl, .inl ⟨_, rfl⟩⟩⟩⟩
theorem okF_43 : a_wfF (n_cls 5) (8, 6, 0) 154 := ⟨_, acls_8, by decide, wd_130, .inr (.inl ⟨rfl, rfl, rfl⟩)⟩
theorem okF_44 : a_wfF (n_cls 5) (7, 1, 0) 161 := ⟨_, acls_7, by decide, wd_131, .inr (.inl ⟨rfl, rfl, rfl⟩)⟩
theorem okF_45 : a_wfF (n_cls 2) (4, 0, 1) 16 := ⟨_, acls_4, by decide, wd_132, .inl ⟨rfl, rfl, ⟨_, rfl, .inl ⟨_, rfl⟩⟩⟩⟩
theorem okF_46 : a_wfF (n_cls 2) (4, 1, 0) 23 := ⟨_, acls_4, by decide, wd_133, .inr (.inl ⟨rfl, rfl, rfl⟩)⟩
theorem okF_47 : a_wfF (n_cls 2) (3, 1, 1) 27 := ⟨_, acls_3, by decide, wd_134, .inl ⟨rfl, rfl, ⟨_, rfl, .inl ⟨_, rfl⟩⟩⟩⟩
theorem okF_48 : a_wfF (n_cls 2) (6, 2, 0) 32 := ⟨_, acls_6, by decide, wd_135, .inr (.inl ⟨rfl, rfl, rfl⟩)⟩
theorem okF_49 : a_wfF (n_cls 2) (8, 6, 0) 128 := ⟨_, acls_8, by decide, wd_136, .inr (.inl ⟨rfl, rfl, rfl⟩)⟩
theorem okF_50 : a_wfF (n_cls 7) (9, 0, 1) 12 := ⟨_, acls_9, by decide, wd_137, .inl ⟨rfl, rfl, ⟨_, rfl, .inl ⟨_, rfl⟩⟩⟩⟩
theorem okF_51 : a_wfF (n_cls 7) (9, 1, 1) 16 := ⟨_, acls_9, by decide, wd_138, .inl ⟨rfl, rfl, ⟨_, rfl, .inl ⟨_, rfl⟩⟩⟩⟩
theorem okF_52 : a_wfF (n_cls 7) (9, 2, 1) 19 := ⟨_, acls_9, by decide, wd_139, .inl ⟨rfl, rfl, ⟨_, rfl, .inl ⟨_, rfl⟩⟩⟩⟩
theorem okF_53 : a_wfF (n_cls 7) (9, 4, 1) 25 := ⟨_, acls_9, by decide, wd_140, .inl ⟨rfl, rfl, ⟨_, rfl, .inl ⟨_, rfl⟩⟩⟩⟩
theorem okF_54 : a_wfF (n_cls 7) (9, 5, 1) 32 := ⟨_, acls_9, by decide, wd_141, .inl ⟨rfl, rfl, ⟨_, rfl, .inl ⟨_, rfl⟩⟩⟩⟩
theorem okF_55 : a_wfF (n_cls 7) (9, 6, 1) 39 := ⟨_, acls_9, by decide, wd_142, .inl ⟨rfl, rfl, ⟨_, rfl, .inl ⟨_, rfl⟩⟩⟩⟩
theorem okF_56 : a_wfF (n_cls 7) (9, 7, 1) 46 := ⟨_, acls_9, by decide, wd_143, .inl ⟨rfl, rfl, ⟨_, rfl, .inl ⟨_, rfl⟩⟩⟩⟩
theorem okF_57 : a_wfF (n_cls 7) (9, 8, 1) 53 := ⟨_, acls_9, by decide, wd_144, .inl ⟨rfl, rfl, ⟨_, rfl, .inl ⟨_, rfl⟩⟩⟩⟩
theorem okF_58 : a_wfF (n_cls 7) (9, 9, 1) 60 := ⟨_, acls_9, by decide, wd_145, .inl ⟨rfl, rfl, ⟨_, rfl, .inl ⟨_, rfl⟩⟩⟩⟩
theorem okF_59 : a_wfF (n_cls 7) (8, 1, 0) 75 := ⟨_, acls_8, by decide, wd_146, .inr (.inl ⟨rfl, rfl, rfl⟩)⟩
theorem okF_60 : a_wfF (n_cls 7) (8, 8, 0) 93 := ⟨_, acls_8, by decide, wd_147, .inr (.inl ⟨rfl, rfl, rfl⟩)⟩
theorem okF_61 : a_wfF (n_cls 7) (9, 3, 2) 103 := ⟨_, acls_9, by decide, wd_148, .inr (.inr ⟨rfl, rfl, .inl rfl⟩)⟩
theorem okF_62 : a_wfF (n_cls 7) (3, 0, 1) 107 := ⟨_, acls_3, by decide, wd_149, .inl ⟨rfl, rfl, ⟨_, rfl, .inl ⟨_, rfl⟩⟩⟩⟩
theorem okF_63 : a_wfF (n_cls 7) (6, 2, 0) 111 := ⟨_, acls_6, by decide, wd_150, .inr (.inl ⟨rfl, rfl, rfl⟩)⟩
theorem okF_64 : a_wfF (n_cls 7) (8, 9, 0) 116 := ⟨_, acls_8, by decide, wd_151, .inr (.inl ⟨rfl, rfl, rfl⟩)⟩
theorem okF_65 : a_wfF (n_cls 7) (7, 0, 1) 122 := ⟨_, acls_7, by decide, wd_152, .inl ⟨rfl, rfl, ⟨_, rfl, .inl ⟨_, rfl⟩⟩⟩⟩
theorem okF_66 : a_wfF (n_cls 7) (3, 1, 1) 147 := ⟨_, acls_3, by decide, wd_153, .inl ⟨rfl, rfl, ⟨_, rfl, .inl ⟨_, rfl⟩⟩⟩⟩
theorem okF_67 : a_wfF (n_cls 7) (3, 2, 1) 184 := ⟨_, acls_3, by decide, wd_154, .inl ⟨rfl, rfl, ⟨_, rfl, .inl ⟨_, rfl⟩⟩⟩⟩
theorem okF_68 : a_wfF (n_cls 7) (3, 4, 0) 187 := ⟨_, acls_3, by decide, wd_155, .inr (.inl ⟨rfl, rfl, rfl⟩)⟩
theorem okF_69 : a_wfF (n_cls 7) (3, 5, 0) 190 := ⟨_, acls_3, by decide, wd_156, .inr (.inl ⟨rfl, rfl, rfl⟩)⟩
theorem okF_70 : a_wfF (n_cls 7) (3, 6, 0) 193 := ⟨_, acls_3, by decide, wd_157, .inr (.inl ⟨rfl, rfl, rfl⟩)⟩
theorem okF_71 : a_wfF (n_cls 7) (3, 3, 1) 196 := ⟨_, acls_3, by decide, wd_158, .inl ⟨rfl, rfl, ⟨_, rfl, .inl ⟨_, rfl⟩⟩⟩⟩
theorem okF_72 : a_wfF (n_cls 7) (5, 10, 0) 244 := ⟨_, acls_5, by decide, wd_159, .inr (.inl ⟨rfl, rfl, rfl⟩)⟩
theorem okF_73 : a_wfF (n_cls 7) (2, 2, 0) 286 := ⟨_, acls_2, by decide, wd_160, .inr (.inl ⟨rfl, rfl, rfl⟩)⟩
theorem okF_74 : a_wfF (n_cls 8) (10, 0, 1) 9 := ⟨_, acls_10, by decide, wd_161, .inl ⟨rfl, rfl, ⟨_, rfl, .inr ⟨_, rfl⟩⟩⟩⟩
theorem okF_75 : a_wfF (n_cls 8) (10, 1, 1) 13 := ⟨_, acls_10, by decide, wd_162, .inl ⟨rfl, rfl, ⟨_, rfl, .inr ⟨_, rfl⟩⟩⟩⟩
theorem okF_76 : a_wfF (n_cls 8) (10, 2, 1) 16 := ⟨_, acls_10, by decide, wd_163, .inl ⟨rfl, rfl, ⟨_, rfl, .inr ⟨_, rfl⟩⟩⟩⟩
theorem okF_77 : a_wfF (n_cls 8) (10, 3, 1) 19 := ⟨_, acls_10, by decide, wd_164, .inl ⟨rfl, rfl, ⟨_, rfl, .inr ⟨_, rfl⟩⟩⟩⟩
theorem okF_78 : a_wfF (n_cls 8) (10, 4, 1) 22 := ⟨_, acls_10, by decide, wd_165, .inl ⟨rfl, rfl, ⟨_, rfl, .inr ⟨_, rfl⟩⟩⟩⟩
theorem okF_79 : a_wfF (n_cls 8) (10, 8, 1) 25 := ⟨_, acls_10, by decide, wd_166, .inl ⟨rfl, rfl, ⟨_, rfl, .inr ⟨_, rfl⟩⟩⟩⟩
theorem okF_80 : a_wfF (n_cls 8) (10, 9, 1) 28 := ⟨_, acls_10, by decide, wd_167, .inl ⟨rfl, rfl, ⟨_, rfl, .inr ⟨_, rfl⟩⟩⟩⟩
theorem okF_81 : a_wfF (n_cls 8) (10, 11, 1) 31 := ⟨_, acls_10, by decide, wd_168, .inl ⟨rfl, rfl, ⟨_, rfl, .inr ⟨_, rfl⟩⟩⟩⟩
theorem okF_82 : a_wfF (n_cls 8) (10, 12, 1) 34 := ⟨_, acls_10, by decide, wd_169, .inl ⟨rfl, rfl, ⟨_, rfl, .inr ⟨_, rfl⟩⟩⟩⟩
theorem okF_83 : a_wfF (n_cls 8) (10, 17, 1) 37 := ⟨_, acls_10, by decide, wd_170, .inl ⟨rfl, rfl, ⟨_, rfl, .inr ⟨_, rfl⟩⟩⟩⟩
theorem okF_84 : a_wfF (n_cls 8) (10, 19, 1) 40 := ⟨_, acls_10, by decide, wd_171, .inl ⟨rfl, rfl, ⟨_, rfl, .inr ⟨_, rfl⟩⟩⟩⟩
theorem okF_85 : a_wfF (n_cls 8) (10, 27, 0) 43 := ⟨_, acls_10, by decide, wd_172, .inr (.inl ⟨rfl, rfl, rfl⟩)⟩
theorem okF_86 : a_wfF (n_cls 8) (10, 29, 1) 47 := ⟨_, acls_10, by decide, wd_173, .inl ⟨rfl, rfl, ⟨_, rfl, .inr ⟨_, rfl⟩⟩⟩⟩
theorem okF_87 : a_wfF (n_cls 8) (10, 31, 1) 67 := ⟨_, acls_10, by decide, wd_174, .inl ⟨rfl, rfl, ⟨_, rfl, .inr ⟨_, rfl⟩⟩⟩⟩
theorem okF_88 : a_wfF (n_cls 8) (10, 32, 1) 71 := ⟨_, acls_10, by decide, wd_175, .inl ⟨rfl, rfl, ⟨_, rfl, .inr ⟨_, rfl⟩⟩⟩⟩
theorem okF_89 : a_wfF (n_cls 8) (10, 33, 1) 74 := ⟨_, acls_10, by decide, wd_176, .inl ⟨rfl, rfl, ⟨_, rfl, .inr ⟨_, rfl⟩⟩⟩⟩
theorem okF_90 : a_wfF (n_cls 8) (10, 6, 0) 81 := ⟨_, acls_10, by decide, wd_177, .inr (.inl ⟨rfl, rfl, rfl⟩)⟩
theorem okF_91 : a_wfF (n_cls 8) (10, 10, 0) 101 := ⟨_, acls_10, by decide, wd_178, .inr (.inl ⟨rfl, rfl, rfl⟩)⟩
theorem okF_92 : a_wfF (n_cls 8) (10, 16, 0) 132 := ⟨_, acls_10, by decide, wd_179, .inr (.inl ⟨rfl, rfl, rfl⟩)⟩
theorem okF_93 : a_wfF (n_cls 8) (10, 14, 0) 138 := ⟨_, acls_10, by decide, wd_180, .inr (.inl ⟨rfl, rfl, rfl⟩)⟩
theorem okF_94 : a_wfF (n_cls 8) (10, 15, 0) 141 := ⟨_, acls_10, by decide, wd_181, .inr (.inl ⟨rfl, rfl, rfl⟩)⟩
theorem okF_95 : a_wfF (n_cls 8) (10, 13, 0) 144 := ⟨_, acls_10, by decide, wd_182, .inr (.inl ⟨rfl, rfl, rfl⟩)⟩
theorem okF_96 : a_wfF (n_cls 8) (10, 18, 0) 235 := ⟨_, acls_10, by decide, wd_183, .inr (.inl ⟨rfl, rfl, rfl⟩)⟩
theorem okF_97 : a_wfF (n_cls 8) (10, 5, 0) 244 := ⟨_, acls_10, by decide, wd_184, .inr (.inl ⟨rfl, rfl, rfl⟩)⟩
theorem okF_98 : a_wfF (n_cls 8) (10, 7, 2) 251 := ⟨_, acls_10, by decide, wd_185, .inr (.inr ⟨rfl, rfl, .inl rfl⟩)⟩
theorem okF_99 : a_wfF (n_cls 8) (10, 20, 0) 255 := ⟨_, acls_10, by decide, wd_186, .inr (.inl ⟨rfl, rfl, rfl⟩)⟩
theorem okF_100 : a_wfF (n_cls 8) (10, 21, 0) 258 := ⟨_, acls_10, by decide, wd_187, .inr (.inl ⟨rfl, rfl, rfl⟩)⟩
theorem okF_101 : a_wfF (n_cls 8) (10, 22, 0) 264 := ⟨_, acls_10, by decide, wd_188, .inr (.inl ⟨rfl, rfl, rfl⟩)⟩
theorem okF_102 : a_wfF (n_cls 8) (10, 23, 0) 267 := ⟨_, acls_10, by decide, wd_189, .inr (.inl ⟨rfl, rfl, rfl⟩)⟩
theorem okF_103 : a_wfF (n_cls 8) (10, 24, 0) 270 := ⟨_, acls_10, by decide, wd_190, .inr (.inl ⟨rfl, rfl, rfl⟩)⟩
theorem okF_104 : a_wfF (n_cls 8) (10, 25, 0) 279 := ⟨_, acls_10, by decide, wd_191, .inr (.inl ⟨rfl, rfl, rfl⟩)⟩
theorem okF_105 : a_wfF (n_cls 8) (10, 28, 0) 282 := ⟨_, acls_10, by decide, wd_192, .inr (.inl ⟨rfl, rfl, rfl⟩)⟩
theorem okF_106 : a_wfF (n_cls 8) (10, 26, 0) 288 := ⟨_, acls_10, by decide, wd_193, .inr (.inl ⟨rfl, rfl, rfl⟩)⟩
theorem okF_107 : a_wfF (n_cls 8) (10, 30, 0) 334 := ⟨_, acls_10, by decide, wd_194, .inr (.inl ⟨rfl, rfl, rfl⟩)⟩
theorem okF_108 : a_wfF (n_cls 8) (10, 34, 0) 405 := ⟨_, acls_10, by decide, wd_195, .inr (.inl ⟨rfl, rfl, rfl⟩)⟩
theorem okF_ok : ∀ q ∈ okF, a_wfF (n_cls q.1) q.2.2 q.2.1 := List.forall_mem_cons.mpr ⟨okF_0, List.forall_mem_cons.mpr ⟨okF_1, List.forall_mem_cons.mpr ⟨okF_2, List.forall_mem_cons.mpr ⟨okF_3, List.forall_mem_cons.mpr ⟨okF_4, List.forall_mem_cons.mpr ⟨okF_5, List.forall_mem_cons.mpr ⟨okF_6, List.forall_mem_cons.mpr ⟨okF_7, List.forall_mem_cons.mpr ⟨okF_8, List.forall_mem_cons.mpr ⟨okF_9, List.forall_mem_cons.mpr ⟨okF_10, List.forall_mem_cons.mpr ⟨okF_11, List.forall_mem_cons.mpr ⟨okF_12, List.forall_mem_cons.mpr ⟨okF_13, List.forall_mem_cons.mpr ⟨okF_14, List.forall_mem_cons.mpr ⟨okF_15, List.forall_mem_cons.mpr ⟨okF_16, List.forall_mem_cons.mpr ⟨okF_17, List.forall_mem_cons.mpr ⟨okF_18, List.forall_mem_cons.mpr ⟨okF_19, List.forall_mem_cons.mpr ⟨okF_20, List.forall_mem_cons.mpr ⟨okF_21, List.forall_mem_cons.mpr ⟨okF_22, List.forall_mem_cons.mpr ⟨okF_23, List.forall_mem_cons.mpr ⟨okF_24, List.forall_mem_cons.mpr ⟨okF_25, List.forall_mem_cons.mpr ⟨okF_26, List.forall_mem_cons.mpr ⟨okF_27, List.forall_mem_cons.mpr ⟨okF_28, List.forall_mem_cons.mpr ⟨okF_29, List.forall_mem_cons.mpr ⟨okF_30, List.forall_mem_cons.mpr ⟨okF_31, List.forall_mem_cons.mpr ⟨okF_32, List.forall_mem_cons.mpr ⟨okF_33, List.forall_mem_cons.mpr ⟨okF_34, List.forall_mem_cons.mpr ⟨okF_35, List.forall_mem_cons.mpr ⟨okF_36, List.forall_mem_cons.mpr ⟨okF_37, List.forall_mem_cons.mpr ⟨okF_38, List.forall_mem_cons.mpr ⟨okF_39, List.forall_mem_cons.mpr ⟨okF_40, List.forall_mem_cons.mpr ⟨okF_41, List.forall_mem_cons.mpr ⟨okF_42, List.forall_mem_cons.mpr ⟨okF_43, List.forall_mem_cons.mpr ⟨okF_44, List.forall_mem_cons.mpr ⟨okF_45, List.forall_mem_cons.mpr ⟨okF_46, List.forall_mem_cons.mpr ⟨okF_47, List.forall_mem_cons.mpr ⟨okF_48, List.forall_mem_cons.mpr ⟨okF_49, List.forall_mem_cons.mpr ⟨okF_50, List.forall_mem_cons.mpr ⟨okF_51, List.forall_mem_cons.mpr ⟨okF_52, List.forall_mem_cons.mpr ⟨okF_53, List.forall_mem_cons.mpr ⟨okF_54, List.forall_mem_cons.mpr ⟨okF_55, List.forall_mem_cons.mpr ⟨okF_56, List.forall_mem_cons.mpr ⟨okF_57, List.forall_mem_cons.mpr ⟨okF_58, List.forall_mem_cons.mpr ⟨okF_59, List.forall_mem_cons.mpr ⟨okF_60, List.forall_mem_cons.mpr ⟨okF_61, List.forall_mem_cons.mpr ⟨okF_62, List.forall_mem_cons.mpr ⟨okF_63, List.forall_mem_cons.mpr ⟨okF_64, List.forall_mem_cons.mpr ⟨okF_65, List.forall_mem_cons.mpr ⟨okF_66, List.forall_mem_cons.mpr ⟨okF_67, List.forall_mem_cons.mpr ⟨okF_68, List.forall_mem_cons.mpr ⟨okF_69, List.forall_mem_cons.mpr ⟨okF_70, List.forall_mem_cons.mpr ⟨okF_71, List.forall_mem_cons.mpr ⟨okF_72, List.forall_mem_cons.mpr ⟨okF_73, List.forall_mem_cons.mpr ⟨okF_74, List.forall_mem_cons.mpr ⟨okF_75, List.forall_mem_cons.mpr ⟨okF_76, List.forall_mem_cons.mpr ⟨okF_77, List.forall_mem_cons.mpr ⟨okF_78, List.forall_mem_cons.mpr ⟨okF_79, List.forall_mem_cons.mpr ⟨okF_80, List.forall_mem_cons.mpr ⟨okF_81, List.forall_mem_cons.mpr ⟨okF_82, List.forall_mem_cons.mpr ⟨okF_83, List.forall_mem_cons.mpr ⟨okF_84, List.forall_mem_cons.mpr ⟨okF_85, List.forall_mem_cons.mpr ⟨okF_86, List.forall_mem_cons.mpr ⟨okF_87, List.forall_mem_cons.mpr ⟨okF_88, List.forall_mem_cons.mpr ⟨okF_89, List.forall_mem_cons.mpr ⟨okF_90, List.forall_mem_cons.mpr ⟨okF_91, List.forall_mem_cons.mpr ⟨okF_92, List.forall_mem_cons.mpr ⟨okF_93, List.forall_mem_cons.mpr ⟨okF_94, List.forall_mem_cons.mpr ⟨okF_95, List.forall_mem_cons.mpr ⟨okF_96, List.forall_mem_cons.mpr ⟨okF_97, List.forall_mem_cons.mpr ⟨okF_98, List.forall_mem_cons.mpr ⟨okF_99, List.forall_mem_cons.mpr ⟨okF_100, List.forall_mem_cons.mpr ⟨okF_101, List.forall_mem_cons.mpr ⟨okF_102, List.forall_mem_cons.mpr ⟨okF_103, List.forall_mem_cons.mpr ⟨okF_104, List.forall_mem_cons.mpr ⟨okF_105, List.forall_mem_cons.mpr ⟨okF_106, List.forall_mem_cons.mpr ⟨okF_107, List.forall_mem_cons.mpr ⟨okF_108, fun _ h => absurd h List.not_mem_nil⟩⟩⟩⟩⟩⟩⟩⟩⟩⟩⟩⟩⟩⟩⟩⟩⟩⟩⟩⟩⟩⟩⟩⟩⟩⟩⟩⟩⟩⟩⟩⟩⟩⟩⟩⟩⟩⟩⟩⟩⟩⟩⟩⟩⟩⟩⟩⟩⟩⟩⟩⟩⟩⟩⟩⟩⟩⟩⟩⟩⟩⟩⟩⟩⟩⟩⟩⟩⟩⟩⟩⟩⟩⟩⟩⟩⟩⟩⟩⟩⟩⟩⟩⟩⟩⟩⟩⟩⟩⟩⟩⟩⟩⟩⟩⟩⟩⟩⟩⟩⟩⟩⟩⟩⟩⟩⟩⟩⟩
def c_P (on : Nat) (ini : Bool) (r : aRef) : Bool := match vwCl[r.1]? with
  | some q => !(q.2.1 r.2.1).2.2.2 || (ini && decide ((q.2.1 r.2.1).1 = n_cls on))
  | none => false
theorem c_P_ok {on : Nat} {ini : Bool} {r : aRef} (h : c_P on ini r = true) : a_wfP (n_cls on) ini r := by
  unfold c_P at h
  split at h
  · rename_i q e1
    refine ⟨q, e1, ?_⟩
    rcases Bool.or_eq_true_iff.mp h with z | z
    · exact .inl (by simpa using z)
    · have z2 := Bool.and_eq_true_iff.mp z
      cases hf : (q.2.1 r.2.1).2.2.2
      · exact .inl rfl
      · exact .inr ⟨rfl, z2.1, of_decide_eq_true z2.2⟩
  · cases h
theorem okP_all : okP.all (fun q => c_P q.1 q.2.1 q.2.2) = true := by decide +kernel
theorem okP_ok : ∀ q ∈ okP, a_wfP (n_cls q.1) q.2.1 q.2.2 := fun q hq => c_P_ok (List.all_eq_true.mp okP_all q hq)
theorem okK_ok : ∀ q ∈ okK, Jvm.Cond.constant (n_cls q.1) q.2.1 q.2.2 ∈ am_ws := List.forall_mem_cons.mpr ⟨wd_196, List.forall_mem_cons.mpr ⟨wd_197, List.forall_mem_cons.mpr ⟨wd_198, List.forall_mem_cons.mpr ⟨wd_199, List.forall_mem_cons.mpr ⟨wd_200, List.forall_mem_cons.mpr ⟨wd_201, List.forall_mem_cons.mpr ⟨wd_202, List.forall_mem_cons.mpr ⟨wd_203, List.forall_mem_cons.mpr ⟨wd_204, List.forall_mem_cons.mpr ⟨wd_205, List.forall_mem_cons.mpr ⟨wd_206, List.forall_mem_cons.mpr ⟨wd_207, fun _ h => absurd h List.not_mem_nil⟩⟩⟩⟩⟩⟩⟩⟩⟩⟩⟩⟩
theorem okL_ok : ∀ q ∈ okL, Jvm.Cond.constantLong (n_cls q.1) q.2.1 q.2.2.toInt64 ∈ am_ws := List.forall_mem_cons.mpr ⟨wd_208, List.forall_mem_cons.mpr ⟨wd_209, List.forall_mem_cons.mpr ⟨wd_210, fun _ h => absurd h List.not_mem_nil⟩⟩⟩
theorem okS_all : okS.all (fun q => a_strs.any fun t => decide (t.1 = n_cls q.1) && (decide (t.2.1 = q.2.1) && decide (t.2.2.1 = q.2.2))) = true := by decide +kernel
theorem okS_lt : okS.all (fun q => decide (q.2.2 < 100)) = true := by decide +kernel
theorem okS_ok {F : aFix} (hF : f_T F = a_strs) : ∀ q ∈ okS, (∃ tx, (n_cls q.1, q.2.1, q.2.2, tx) ∈ f_T F) ∧ q.2.2 < 100 := fun q hq => by
  refine ⟨?_, of_decide_eq_true (List.all_eq_true.mp okS_lt q hq)⟩
  obtain ⟨t, ht, h2⟩ := List.any_eq_true.mp (List.all_eq_true.mp okS_all q hq)
  obtain ⟨t1, t2, t3, t4⟩ := t
  have z1 := Bool.and_eq_true_iff.mp h2
  have z2 := Bool.and_eq_true_iff.mp z1.2
  have e1 : t1 = n_cls q.1 := of_decide_eq_true z1.1
  have e2 : t2 = q.2.1 := of_decide_eq_true z2.1
  have e3 : t3 = q.2.2 := of_decide_eq_true z2.2
  subst e1 e2 e3
  rw [hF]
  exact ⟨t4, ht⟩
def c_dv (ty : FieldType) (c j : Nat) : Bool := match ty with
  | .object _ => a_tag c j
  | .array _ => a_tag c j
  | .long => false
  | .float => false
  | .double => false
  | _ => !a_tag c j
theorem c_dv_ok {ty : FieldType} {c j : Nat} (h : c_dv ty c j = true) : defaultValue ty = if a_tag c j = true then .null else .int 0 := by
  cases ty with
  | object n => rw [if_pos (show a_tag c j = true from h)]; rfl
  | array t => rw [if_pos (show a_tag c j = true from h)]; rfl
  | long => cases h
  | float => cases h
  | double => cases h
  | _ =>
    have h2 : (!a_tag c j) = true := h
    have h3 : a_tag c j = false := by simpa using h2
    rw [h3]
    rfl
theorem c_def {T : u_T} {N c : Nat} (h : (List.range N).all (fun j => match parseFieldDescriptor (T j).2.2.1 with | some ty => c_dv ty c j | none => true) = true) : ∀ j, j < N → ∀ ty, parseFieldDescriptor (T j).2.2.1 = some ty → defaultValue ty = if a_tag c j = true then .null else .int 0 := by
  intro j hj ty hty
  have h2 := c_alls h hj
  have h3 : (match parseFieldDescriptor (T j).2.2.1 with | some ty => c_dv ty c j | none => true) = true := h2
  rw [hty] at h3
  exact c_dv_ok h3
def a_wfN (own : String) (ix : Nat) (r : aRef) : Prop := ∃ q : vw_C, a_cls r.1 q ∧ r.2.1 = q.2.2 ∧ Jvm.Cond.classLink own ix q.1 ∈ am_ws ∧ Jvm.Cond.instantiable q.1 q.2.2 ∈ am_ws ∧ Jvm.Cond.initialized q.1 ∈ am_ws ∧ ∀ j, j < q.2.2 → ∀ ty, parseFieldDescriptor (q.2.1 j).2.2.1 = some ty → defaultValue ty = if a_tag r.1 j = true then .null else .int 0
theorem okN_0 : a_wfN (n_cls 1) 9 (6, 3, 0) := ⟨_, acls_6, rfl, wd_211, wd_212, wd_213, c_def (by decide +kernel)⟩
theorem okN_1 : a_wfN (n_cls 0) 9 (3, 7, 0) := ⟨_, acls_3, rfl, wd_214, wd_215, wd_216, c_def (by decide +kernel)⟩
theorem okN_2 : a_wfN (n_cls 5) 9 (6, 3, 0) := ⟨_, acls_6, rfl, wd_217, wd_212, wd_213, c_def (by decide +kernel)⟩
theorem okN_3 : a_wfN (n_cls 2) 9 (6, 3, 0) := ⟨_, acls_6, rfl, wd_218, wd_212, wd_213, c_def (by decide +kernel)⟩
theorem okN_4 : a_wfN (n_cls 7) 9 (3, 7, 0) := ⟨_, acls_3, rfl, wd_219, wd_215, wd_216, c_def (by decide +kernel)⟩
theorem okN_5 : a_wfN (n_cls 7) 22 (2, 3, 0) := ⟨_, acls_2, rfl, wd_220, wd_221, wd_222, c_def (by decide +kernel)⟩
theorem okN_6 : a_wfN (n_cls 7) 29 (8, 10, 0) := ⟨_, acls_8, rfl, wd_223, wd_224, wd_225, c_def (by decide +kernel)⟩
theorem okN_7 : a_wfN (n_cls 7) 36 (7, 2, 0) := ⟨_, acls_7, rfl, wd_226, wd_227, wd_228, c_def (by decide +kernel)⟩
theorem okN_8 : a_wfN (n_cls 7) 43 (4, 2, 0) := ⟨_, acls_4, rfl, wd_229, wd_230, wd_231, c_def (by decide +kernel)⟩
theorem okN_9 : a_wfN (n_cls 7) 50 (5, 11, 0) := ⟨_, acls_5, rfl, wd_232, wd_233, wd_234, c_def (by decide +kernel)⟩
theorem okN_10 : a_wfN (n_cls 7) 57 (1, 4, 0) := ⟨_, acls_1, rfl, wd_235, wd_236, wd_237, c_def (by decide +kernel)⟩
theorem okN_11 : a_wfN (n_cls 20) 8 (9, 10, 0) := ⟨_, acls_9, rfl, wd_238, wd_239, wd_240, c_def (by decide +kernel)⟩
theorem okN_12 : a_wfN (n_cls 20) 107 (10, 35, 0) := ⟨_, acls_10, rfl, wd_241, wd_242, wd_243, c_def (by decide +kernel)⟩
theorem okN_ok : ∀ q ∈ okN, a_wfN (n_cls q.1) q.2.1 q.2.2 := List.forall_mem_cons.mpr ⟨okN_0, List.forall_mem_cons.mpr ⟨okN_1, List.forall_mem_cons.mpr ⟨okN_2, List.forall_mem_cons.mpr ⟨okN_3, List.forall_mem_cons.mpr ⟨okN_4, List.forall_mem_cons.mpr ⟨okN_5, List.forall_mem_cons.mpr ⟨okN_6, List.forall_mem_cons.mpr ⟨okN_7, List.forall_mem_cons.mpr ⟨okN_8, List.forall_mem_cons.mpr ⟨okN_9, List.forall_mem_cons.mpr ⟨okN_10, List.forall_mem_cons.mpr ⟨okN_11, List.forall_mem_cons.mpr ⟨okN_12, fun _ h => absurd h List.not_mem_nil⟩⟩⟩⟩⟩⟩⟩⟩⟩⟩⟩⟩⟩
theorem okA_ok : ∀ q ∈ okA, ∃ C0, ((C0 = "java/lang/String" ∧ q.2.2 = 3) ∨ (C0 = "PaletteTubes$Palette" ∧ q.2.2 = 4)) ∧ Jvm.Cond.classLink (n_cls q.1) q.2.1 C0 ∈ am_ws := List.forall_mem_cons.mpr ⟨⟨_, .inr ⟨rfl, rfl⟩, wd_214⟩, List.forall_mem_cons.mpr ⟨⟨_, .inl ⟨rfl, rfl⟩, wd_244⟩, fun _ h => absurd h List.not_mem_nil⟩⟩
theorem okO_ok : ∀ q ∈ okO, Jvm.Cond.methodLink (n_cls q.1) q.2 Lib.objectInit ∈ am_ws := List.forall_mem_cons.mpr ⟨wd_245, List.forall_mem_cons.mpr ⟨wd_246, List.forall_mem_cons.mpr ⟨wd_247, List.forall_mem_cons.mpr ⟨wd_248, List.forall_mem_cons.mpr ⟨wd_249, List.forall_mem_cons.mpr ⟨wd_250, List.forall_mem_cons.mpr ⟨wd_251, List.forall_mem_cons.mpr ⟨wd_252, List.forall_mem_cons.mpr ⟨wd_253, fun _ h => absurd h List.not_mem_nil⟩⟩⟩⟩⟩⟩⟩⟩⟩
theorem okO_i : Jvm.Cond.instanceMethod Lib.objectInit ∈ am_ws ∧ Jvm.Cond.code Lib.objectInit ⟨#[0xb1]⟩ 1 none ∈ am_ws := ⟨wd_254, wd_255⟩
theorem okNA_int : Jvm.Cond.arrayClass (newarray.typeOf .int) ∈ am_ws := wd_256
theorem okNA_long : Jvm.Cond.arrayClass (newarray.typeOf .long) ∈ am_ws := wd_257
