/-! equations of the blocks, by program (wip/whole/tools/gen21.py) -/
theorem n_X8_init {P : aCall} {d : Nat} {σ : aSt} {a0 : Nat} (hd : 1 ≤ d) : a_call a_tab P d 143 [.ref a0] σ = b_R (a_call a_tab P (d - 1)) kX8_init [] (0, [some (.ref a0)], [], σ) := e_call hd at_X8_init rfl
theorem b_X8_init_0 {C : aCall} {σ : aSt} {a0 : Nat} (hk0 : a_kd (a_new σ 1 720 720) a0 = 20) (hn1 : 100 ≤ a0) : b_R C kX8_init [] (0, [some (.ref a0)], [], σ) = b_R C kX8_init [] (13, [some (.ref a0)], [], (a_setR (a_new σ 1 720 720) a0 0 (some (a_n σ)))) := by
  refine (e_aload_n (code := kX8_init) (pc := 0) rfl rfl).trans ?_
  refine (e_objInit (code := kX8_init) (pc := 1) rfl rfl).trans ?_
  refine (e_aload_n (code := kX8_init) (pc := 4) rfl rfl).trans ?_
  refine (e_sipush (code := kX8_init) (pc := 5) rfl).trans ?_
  refine (e_newarray (code := kX8_init) (pc := 8) (m := 720) rfl (by decide) (by decide) (Nat.le_of_ble_eq_true rfl)).trans ?_
  refine (e_putR (code := kX8_init) (pc := 10) (σ := (a_new σ 1 720 720)) (c := 10) rfl hk0 hn1).trans ?_
  rfl
theorem b_X8_init_13 {C : aCall} {σ : aSt} {a0 : Nat} (hk0 : a_kd (a_new σ 1 720 720) a0 = 20) (hn1 : 100 ≤ a0) : b_R C kX8_init [] (13, [some (.ref a0)], [], σ) = b_R C kX8_init [] (22, [some (.ref a0)], [], (a_setR (a_new σ 1 720 720) a0 1 (some (a_n σ)))) := by
  refine (e_aload_n (code := kX8_init) (pc := 13) rfl rfl).trans ?_
  refine (e_sipush (code := kX8_init) (pc := 14) rfl).trans ?_
  refine (e_newarray (code := kX8_init) (pc := 17) (m := 720) rfl (by decide) (by decide) (Nat.le_of_ble_eq_true rfl)).trans ?_
  refine (e_putR (code := kX8_init) (pc := 19) (σ := (a_new σ 1 720 720)) (c := 10) rfl hk0 hn1).trans ?_
  rfl
theorem b_X8_init_22 {C : aCall} {σ : aSt} {a0 : Nat} (hk0 : a_kd (a_new σ 1 720 720) a0 = 20) (hn1 : 100 ≤ a0) : b_R C kX8_init [] (22, [some (.ref a0)], [], σ) = b_R C kX8_init [] (31, [some (.ref a0)], [], (a_setR (a_new σ 1 720 720) a0 2 (some (a_n σ)))) := by
  refine (e_aload_n (code := kX8_init) (pc := 22) rfl rfl).trans ?_
  refine (e_sipush (code := kX8_init) (pc := 23) rfl).trans ?_
  refine (e_newarray (code := kX8_init) (pc := 26) (m := 720) rfl (by decide) (by decide) (Nat.le_of_ble_eq_true rfl)).trans ?_
  refine (e_putR (code := kX8_init) (pc := 28) (σ := (a_new σ 1 720 720)) (c := 10) rfl hk0 hn1).trans ?_
  rfl
theorem b_X8_init_31 {C : aCall} {σ : aSt} {a0 : Nat} (hk0 : a_kd (a_new σ 1 7200 7200) a0 = 20) (hn1 : 100 ≤ a0) : b_R C kX8_init [] (31, [some (.ref a0)], [], σ) = b_R C kX8_init [] (40, [some (.ref a0)], [], (a_setR (a_new σ 1 7200 7200) a0 3 (some (a_n σ)))) := by
  refine (e_aload_n (code := kX8_init) (pc := 31) rfl rfl).trans ?_
  refine (e_sipush (code := kX8_init) (pc := 32) rfl).trans ?_
  refine (e_newarray (code := kX8_init) (pc := 35) (m := 7200) rfl (by decide) (by decide) (Nat.le_of_ble_eq_true rfl)).trans ?_
  refine (e_putR (code := kX8_init) (pc := 37) (σ := (a_new σ 1 7200 7200)) (c := 10) rfl hk0 hn1).trans ?_
  rfl
theorem b_X8_init_40 {C : aCall} {σ : aSt} {r1 a0 : Nat} (hk0 : a_kd σ a0 = 20) (hr1 : a_R σ a0 0 = some r1) (hk2 : a_kd σ a0 = 20) (hn3 : 100 ≤ a0) : b_R C kX8_init [] (40, [some (.ref a0)], [], σ) = b_R C kX8_init [] (48, [some (.ref a0)], [], (a_setR σ a0 4 (some r1))) := by
  refine (e_aload_n (code := kX8_init) (pc := 40) rfl rfl).trans ?_
  refine (e_aload_n (code := kX8_init) (pc := 41) rfl rfl).trans ?_
  refine (e_getR (code := kX8_init) (pc := 42) (c := 10) rfl hk0 hr1).trans ?_
  refine (e_putR (code := kX8_init) (pc := 45) (c := 10) rfl hk2 hn3).trans ?_
  rfl
theorem b_X8_init_48 {C : aCall} {σ : aSt} {a0 : Nat} (hk0 : a_kd (a_new σ 1 4 4) a0 = 20) (hn1 : 100 ≤ a0) : b_R C kX8_init [] (48, [some (.ref a0)], [], σ) = b_R C kX8_init [] (55, [some (.ref a0)], [], (a_setR (a_new σ 1 4 4) a0 8 (some (a_n σ)))) := by
  refine (e_aload_n (code := kX8_init) (pc := 48) rfl rfl).trans ?_
  refine (e_iconst (code := kX8_init) (pc := 49) rfl).trans ?_
  refine (e_newarray (code := kX8_init) (pc := 50) (m := 4) rfl (by decide) (by decide) (Nat.le_of_ble_eq_true rfl)).trans ?_
  refine (e_putR (code := kX8_init) (pc := 52) (σ := (a_new σ 1 4 4)) (c := 10) rfl hk0 hn1).trans ?_
  rfl
theorem b_X8_init_55 {C : aCall} {σ : aSt} {a0 : Nat} (hk0 : a_kd (a_new σ 1 4 4) a0 = 20) (hn1 : 100 ≤ a0) : b_R C kX8_init [] (55, [some (.ref a0)], [], σ) = b_R C kX8_init [] (62, [some (.ref a0)], [], (a_setR (a_new σ 1 4 4) a0 9 (some (a_n σ)))) := by
  refine (e_aload_n (code := kX8_init) (pc := 55) rfl rfl).trans ?_
  refine (e_iconst (code := kX8_init) (pc := 56) rfl).trans ?_
  refine (e_newarray (code := kX8_init) (pc := 57) (m := 4) rfl (by decide) (by decide) (Nat.le_of_ble_eq_true rfl)).trans ?_
  refine (e_putR (code := kX8_init) (pc := 59) (σ := (a_new σ 1 4 4)) (c := 10) rfl hk0 hn1).trans ?_
  rfl
theorem b_X8_init_62 {C : aCall} {σ : aSt} {a0 : Nat} (hk0 : a_kd (a_new σ 1 3 3) a0 = 20) (hn1 : 100 ≤ a0) : b_R C kX8_init [] (62, [some (.ref a0)], [], σ) = b_R C kX8_init [] (69, [some (.ref a0)], [], (a_setR (a_new σ 1 3 3) a0 11 (some (a_n σ)))) := by
  refine (e_aload_n (code := kX8_init) (pc := 62) rfl rfl).trans ?_
  refine (e_iconst (code := kX8_init) (pc := 63) rfl).trans ?_
  refine (e_newarray (code := kX8_init) (pc := 64) (m := 3) rfl (by decide) (by decide) (Nat.le_of_ble_eq_true rfl)).trans ?_
  refine (e_putR (code := kX8_init) (pc := 66) (σ := (a_new σ 1 3 3)) (c := 10) rfl hk0 hn1).trans ?_
  rfl
theorem b_X8_init_69 {C : aCall} {σ : aSt} {a0 : Nat} (hk0 : a_kd (a_new σ 1 3 3) a0 = 20) (hn1 : 100 ≤ a0) : b_R C kX8_init [] (69, [some (.ref a0)], [], σ) = b_R C kX8_init [] (76, [some (.ref a0)], [], (a_setR (a_new σ 1 3 3) a0 12 (some (a_n σ)))) := by
  refine (e_aload_n (code := kX8_init) (pc := 69) rfl rfl).trans ?_
  refine (e_iconst (code := kX8_init) (pc := 70) rfl).trans ?_
  refine (e_newarray (code := kX8_init) (pc := 71) (m := 3) rfl (by decide) (by decide) (Nat.le_of_ble_eq_true rfl)).trans ?_
  refine (e_putR (code := kX8_init) (pc := 73) (σ := (a_new σ 1 3 3)) (c := 10) rfl hk0 hn1).trans ?_
  rfl
theorem b_X8_init_76 {C : aCall} {σ : aSt} {a0 : Nat} (hk0 : a_kd (a_new σ 1 80 80) a0 = 20) (hn1 : 100 ≤ a0) : b_R C kX8_init [] (76, [some (.ref a0)], [], σ) = b_R C kX8_init [] (84, [some (.ref a0)], [], (a_setR (a_new σ 1 80 80) a0 17 (some (a_n σ)))) := by
  refine (e_aload_n (code := kX8_init) (pc := 76) rfl rfl).trans ?_
  refine (e_bipush (code := kX8_init) (pc := 77) rfl).trans ?_
  refine (e_newarray (code := kX8_init) (pc := 79) (m := 80) rfl (by decide) (by decide) (Nat.le_of_ble_eq_true rfl)).trans ?_
  refine (e_putR (code := kX8_init) (pc := 81) (σ := (a_new σ 1 80 80)) (c := 10) rfl hk0 hn1).trans ?_
  rfl
theorem b_X8_init_84 {C : aCall} {σ : aSt} {a0 : Nat} (hk0 : a_kd (a_new σ 1 900 900) a0 = 20) (hn1 : 100 ≤ a0) : b_R C kX8_init [] (84, [some (.ref a0)], [], σ) = b_R C kX8_init [] (93, [some (.ref a0)], [], (a_setR (a_new σ 1 900 900) a0 19 (some (a_n σ)))) := by
  refine (e_aload_n (code := kX8_init) (pc := 84) rfl rfl).trans ?_
  refine (e_sipush (code := kX8_init) (pc := 85) rfl).trans ?_
  refine (e_newarray (code := kX8_init) (pc := 88) (m := 900) rfl (by decide) (by decide) (Nat.le_of_ble_eq_true rfl)).trans ?_
  refine (e_putR (code := kX8_init) (pc := 90) (σ := (a_new σ 1 900 900)) (c := 10) rfl hk0 hn1).trans ?_
  rfl
theorem b_X8_init_93 {C : aCall} {σ : aSt} {a0 : Nat} (hk0 : a_kd σ a0 = 20) (hn1 : 100 ≤ a0) : b_R C kX8_init [] (93, [some (.ref a0)], [], σ) = b_R C kX8_init [] (98, [some (.ref a0)], [], (a_setI σ a0 27 ((-1)))) := by
  refine (e_aload_n (code := kX8_init) (pc := 93) rfl rfl).trans ?_
  refine (e_iconst (code := kX8_init) (pc := 94) rfl).trans ?_
  refine (e_putI (code := kX8_init) (pc := 95) (c := 10) rfl hk0 hn1).trans ?_
  rfl
theorem b_X8_init_98 {C : aCall} {σ : aSt} {a0 : Nat} (hk0 : a_kd (a_new σ 1 8 8) a0 = 20) (hn1 : 100 ≤ a0) : b_R C kX8_init [] (98, [some (.ref a0)], [], σ) = b_R C kX8_init [] (106, [some (.ref a0)], [], (a_setR (a_new σ 1 8 8) a0 29 (some (a_n σ)))) := by
  refine (e_aload_n (code := kX8_init) (pc := 98) rfl rfl).trans ?_
  refine (e_bipush (code := kX8_init) (pc := 99) rfl).trans ?_
  refine (e_newarray (code := kX8_init) (pc := 101) (m := 8) rfl (by decide) (by decide) (Nat.le_of_ble_eq_true rfl)).trans ?_
  refine (e_putR (code := kX8_init) (pc := 103) (σ := (a_new σ 1 8 8)) (c := 10) rfl hk0 hn1).trans ?_
  rfl
theorem b_X8_init_106 {C : aCall} {σ : aSt} {N0 N4 N8 N12 N16 N20 N24 N28 a0 : Nat} (hl0 : a_ln (a_new σ 3 8 8) (a_n σ) = N0) (hs0 : N0 < 2147483648) (hk2 : (a_kd (a_new σ 3 8 8) (a_n σ) = 3 ∧ a_kd (a_new σ 3 8 8) 6 = 6) ∨ (a_kd (a_new σ 3 8 8) (a_n σ) = 4 ∧ a_kd (a_new σ 3 8 8) 6 = 13)) (hn3 : 100 ≤ a_n σ) (hl4 : a_ln (a_setR (a_new σ 3 8 8) (a_n σ) (Int32.toNatClampNeg (nI 0)) (some 6)) (a_n σ) = N4) (hs4 : N4 < 2147483648) (hk6 : (a_kd (a_setR (a_new σ 3 8 8) (a_n σ) (Int32.toNatClampNeg (nI 0)) (some 6)) (a_n σ) = 3 ∧ a_kd (a_setR (a_new σ 3 8 8) (a_n σ) (Int32.toNatClampNeg (nI 0)) (some 6)) 12 = 6) ∨ (a_kd (a_setR (a_new σ 3 8 8) (a_n σ) (Int32.toNatClampNeg (nI 0)) (some 6)) (a_n σ) = 4 ∧ a_kd (a_setR (a_new σ 3 8 8) (a_n σ) (Int32.toNatClampNeg (nI 0)) (some 6)) 12 = 13)) (hn7 : 100 ≤ a_n σ) (hl8 : a_ln (a_setR (a_setR (a_new σ 3 8 8) (a_n σ) (Int32.toNatClampNeg (nI 0)) (some 6)) (a_n σ) (Int32.toNatClampNeg (nI 1)) (some 12)) (a_n σ) = N8) (hs8 : N8 < 2147483648) (hk10 : (a_kd (a_setR (a_setR (a_new σ 3 8 8) (a_n σ) (Int32.toNatClampNeg (nI 0)) (some 6)) (a_n σ) (Int32.toNatClampNeg (nI 1)) (some 12)) (a_n σ) = 3 ∧ a_kd (a_setR (a_setR (a_new σ 3 8 8) (a_n σ) (Int32.toNatClampNeg (nI 0)) (some 6)) (a_n σ) (Int32.toNatClampNeg (nI 1)) (some 12)) 13 = 6) ∨ (a_kd (a_setR (a_setR (a_new σ 3 8 8) (a_n σ) (Int32.toNatClampNeg (nI 0)) (some 6)) (a_n σ) (Int32.toNatClampNeg (nI 1)) (some 12)) (a_n σ) = 4 ∧ a_kd (a_setR (a_setR (a_new σ 3 8 8) (a_n σ) (Int32.toNatClampNeg (nI 0)) (some 6)) (a_n σ) (Int32.toNatClampNeg (nI 1)) (some 12)) 13 = 13)) (hn11 : 100 ≤ a_n σ) (hl12 : a_ln (a_setR (a_setR (a_setR (a_new σ 3 8 8) (a_n σ) (Int32.toNatClampNeg (nI 0)) (some 6)) (a_n σ) (Int32.toNatClampNeg (nI 1)) (some 12)) (a_n σ) (Int32.toNatClampNeg (nI 2)) (some 13)) (a_n σ) = N12) (hs12 : N12 < 2147483648) (hk14 : (a_kd (a_setR (a_setR (a_setR (a_new σ 3 8 8) (a_n σ) (Int32.toNatClampNeg (nI 0)) (some 6)) (a_n σ) (Int32.toNatClampNeg (nI 1)) (some 12)) (a_n σ) (Int32.toNatClampNeg (nI 2)) (some 13)) (a_n σ) = 3 ∧ a_kd (a_setR (a_setR (a_setR (a_new σ 3 8 8) (a_n σ) (Int32.toNatClampNeg (nI 0)) (some 6)) (a_n σ) (Int32.toNatClampNeg (nI 1)) (some 12)) (a_n σ) (Int32.toNatClampNeg (nI 2)) (some 13)) 14 = 6) ∨ (a_kd (a_setR (a_setR (a_setR (a_new σ 3 8 8) (a_n σ) (Int32.toNatClampNeg (nI 0)) (some 6)) (a_n σ) (Int32.toNatClampNeg (nI 1)) (some 12)) (a_n σ) (Int32.toNatClampNeg (nI 2)) (some 13)) (a_n σ) = 4 ∧ a_kd (a_setR (a_setR (a_setR (a_new σ 3 8 8) (a_n σ) (Int32.toNatClampNeg (nI 0)) (some 6)) (a_n σ) (Int32.toNatClampNeg (nI 1)) (some 12)) (a_n σ) (Int32.toNatClampNeg (nI 2)) (some 13)) 14 = 13)) (hn15 : 100 ≤ a_n σ) (hl16 : a_ln (a_setR (a_setR (a_setR (a_setR (a_new σ 3 8 8) (a_n σ) (Int32.toNatClampNeg (nI 0)) (some 6)) (a_n σ) (Int32.toNatClampNeg (nI 1)) (some 12)) (a_n σ) (Int32.toNatClampNeg (nI 2)) (some 13)) (a_n σ) (Int32.toNatClampNeg (nI 3)) (some 14)) (a_n σ) = N16) (hs16 : N16 < 2147483648) (hk18 : (a_kd (a_setR (a_setR (a_setR (a_setR (a_new σ 3 8 8) (a_n σ) (Int32.toNatClampNeg (nI 0)) (some 6)) (a_n σ) (Int32.toNatClampNeg (nI 1)) (some 12)) (a_n σ) (Int32.toNatClampNeg (nI 2)) (some 13)) (a_n σ) (Int32.toNatClampNeg (nI 3)) (some 14)) (a_n σ) = 3 ∧ a_kd (a_setR (a_setR (a_setR (a_setR (a_new σ 3 8 8) (a_n σ) (Int32.toNatClampNeg (nI 0)) (some 6)) (a_n σ) (Int32.toNatClampNeg (nI 1)) (some 12)) (a_n σ) (Int32.toNatClampNeg (nI 2)) (some 13)) (a_n σ) (Int32.toNatClampNeg (nI 3)) (some 14)) 15 = 6) ∨ (a_kd (a_setR (a_setR (a_setR (a_setR (a_new σ 3 8 8) (a_n σ) (Int32.toNatClampNeg (nI 0)) (some 6)) (a_n σ) (Int32.toNatClampNeg (nI 1)) (some 12)) (a_n σ) (Int32.toNatClampNeg (nI 2)) (some 13)) (a_n σ) (Int32.toNatClampNeg (nI 3)) (some 14)) (a_n σ) = 4 ∧ a_kd (a_setR (a_setR (a_setR (a_setR (a_new σ 3 8 8) (a_n σ) (Int32.toNatClampNeg (nI 0)) (some 6)) (a_n σ) (Int32.toNatClampNeg (nI 1)) (some 12)) (a_n σ) (Int32.toNatClampNeg (nI 2)) (some 13)) (a_n σ) (Int32.toNatClampNeg (nI 3)) (some 14)) 15 = 13)) (hn19 : 100 ≤ a_n σ) (hl20 : a_ln (a_setR (a_setR (a_setR (a_setR (a_setR (a_new σ 3 8 8) (a_n σ) (Int32.toNatClampNeg (nI 0)) (some 6)) (a_n σ) (Int32.toNatClampNeg (nI 1)) (some 12)) (a_n σ) (Int32.toNatClampNeg (nI 2)) (some 13)) (a_n σ) (Int32.toNatClampNeg (nI 3)) (some 14)) (a_n σ) (Int32.toNatClampNeg (nI 4)) (some 15)) (a_n σ) = N20) (hs20 : N20 < 2147483648) (hk22 : (a_kd (a_setR (a_setR (a_setR (a_setR (a_setR (a_new σ 3 8 8) (a_n σ) (Int32.toNatClampNeg (nI 0)) (some 6)) (a_n σ) (Int32.toNatClampNeg (nI 1)) (some 12)) (a_n σ) (Int32.toNatClampNeg (nI 2)) (some 13)) (a_n σ) (Int32.toNatClampNeg (nI 3)) (some 14)) (a_n σ) (Int32.toNatClampNeg (nI 4)) (some 15)) (a_n σ) = 3 ∧ a_kd (a_setR (a_setR (a_setR (a_setR (a_setR (a_new σ 3 8 8) (a_n σ) (Int32.toNatClampNeg (nI 0)) (some 6)) (a_n σ) (Int32.toNatClampNeg (nI 1)) (some 12)) (a_n σ) (Int32.toNatClampNeg (nI 2)) (some 13)) (a_n σ) (Int32.toNatClampNeg (nI 3)) (some 14)) (a_n σ) (Int32.toNatClampNeg (nI 4)) (some 15)) 16 = 6) ∨ (a_kd (a_setR (a_setR (a_setR (a_setR (a_setR (a_new σ 3 8 8) (a_n σ) (Int32.toNatClampNeg (nI 0)) (some 6)) (a_n σ) (Int32.toNatClampNeg (nI 1)) (some 12)) (a_n σ) (Int32.toNatClampNeg (nI 2)) (some 13)) (a_n σ) (Int32.toNatClampNeg (nI 3)) (some 14)) (a_n σ) (Int32.toNatClampNeg (nI 4)) (some 15)) (a_n σ) = 4 ∧ a_kd (a_setR (a_setR (a_setR (a_setR (a_setR (a_new σ 3 8 8) (a_n σ) (Int32.toNatClampNeg (nI 0)) (some 6)) (a_n σ) (Int32.toNatClampNeg (nI 1)) (some 12)) (a_n σ) (Int32.toNatClampNeg (nI 2)) (some 13)) (a_n σ) (Int32.toNatClampNeg (nI 3)) (some 14)) (a_n σ) (Int32.toNatClampNeg (nI 4)) (some 15)) 16 = 13)) (hn23 : 100 ≤ a_n σ) (hl24 : a_ln (a_setR (a_setR (a_setR (a_setR (a_setR (a_setR (a_new σ 3 8 8) (a_n σ) (Int32.toNatClampNeg (nI 0)) (some 6)) (a_n σ) (Int32.toNatClampNeg (nI 1)) (some 12)) (a_n σ) (Int32.toNatClampNeg (nI 2)) (some 13)) (a_n σ) (Int32.toNatClampNeg (nI 3)) (some 14)) (a_n σ) (Int32.toNatClampNeg (nI 4)) (some 15)) (a_n σ) (Int32.toNatClampNeg (nI 5)) (some 16)) (a_n σ) = N24) (hs24 : N24 < 2147483648) (hk26 : (a_kd (a_setR (a_setR (a_setR (a_setR (a_setR (a_setR (a_new σ 3 8 8) (a_n σ) (Int32.toNatClampNeg (nI 0)) (some 6)) (a_n σ) (Int32.toNatClampNeg (nI 1)) (some 12)) (a_n σ) (Int32.toNatClampNeg (nI 2)) (some 13)) (a_n σ) (Int32.toNatClampNeg (nI 3)) (some 14)) (a_n σ) (Int32.toNatClampNeg (nI 4)) (some 15)) (a_n σ) (Int32.toNatClampNeg (nI 5)) (some 16)) (a_n σ) = 3 ∧ a_kd (a_setR (a_setR (a_setR (a_setR (a_setR (a_setR (a_new σ 3 8 8) (a_n σ) (Int32.toNatClampNeg (nI 0)) (some 6)) (a_n σ) (Int32.toNatClampNeg (nI 1)) (some 12)) (a_n σ) (Int32.toNatClampNeg (nI 2)) (some 13)) (a_n σ) (Int32.toNatClampNeg (nI 3)) (some 14)) (a_n σ) (Int32.toNatClampNeg (nI 4)) (some 15)) (a_n σ) (Int32.toNatClampNeg (nI 5)) (some 16)) 17 = 6) ∨ (a_kd (a_setR (a_setR (a_setR (a_setR (a_setR (a_setR (a_new σ 3 8 8) (a_n σ) (Int32.toNatClampNeg (nI 0)) (some 6)) (a_n σ) (Int32.toNatClampNeg (nI 1)) (some 12)) (a_n σ) (Int32.toNatClampNeg (nI 2)) (some 13)) (a_n σ) (Int32.toNatClampNeg (nI 3)) (some 14)) (a_n σ) (Int32.toNatClampNeg (nI 4)) (some 15)) (a_n σ) (Int32.toNatClampNeg (nI 5)) (some 16)) (a_n σ) = 4 ∧ a_kd (a_setR (a_setR (a_setR (a_setR (a_setR (a_setR (a_new σ 3 8 8) (a_n σ) (Int32.toNatClampNeg (nI 0)) (some 6)) (a_n σ) (Int32.toNatClampNeg (nI 1)) (some 12)) (a_n σ) (Int32.toNatClampNeg (nI 2)) (some 13)) (a_n σ) (Int32.toNatClampNeg (nI 3)) (some 14)) (a_n σ) (Int32.toNatClampNeg (nI 4)) (some 15)) (a_n σ) (Int32.toNatClampNeg (nI 5)) (some 16)) 17 = 13)) (hn27 : 100 ≤ a_n σ) (hl28 : a_ln (a_setR (a_setR (a_setR (a_setR (a_setR (a_setR (a_setR (a_new σ 3 8 8) (a_n σ) (Int32.toNatClampNeg (nI 0)) (some 6)) (a_n σ) (Int32.toNatClampNeg (nI 1)) (some 12)) (a_n σ) (Int32.toNatClampNeg (nI 2)) (some 13)) (a_n σ) (Int32.toNatClampNeg (nI 3)) (some 14)) (a_n σ) (Int32.toNatClampNeg (nI 4)) (some 15)) (a_n σ) (Int32.toNatClampNeg (nI 5)) (some 16)) (a_n σ) (Int32.toNatClampNeg (nI 6)) (some 17)) (a_n σ) = N28) (hs28 : N28 < 2147483648) (hk30 : (a_kd (a_setR (a_setR (a_setR (a_setR (a_setR (a_setR (a_setR (a_new σ 3 8 8) (a_n σ) (Int32.toNatClampNeg (nI 0)) (some 6)) (a_n σ) (Int32.toNatClampNeg (nI 1)) (some 12)) (a_n σ) (Int32.toNatClampNeg (nI 2)) (some 13)) (a_n σ) (Int32.toNatClampNeg (nI 3)) (some 14)) (a_n σ) (Int32.toNatClampNeg (nI 4)) (some 15)) (a_n σ) (Int32.toNatClampNeg (nI 5)) (some 16)) (a_n σ) (Int32.toNatClampNeg (nI 6)) (some 17)) (a_n σ) = 3 ∧ a_kd (a_setR (a_setR (a_setR (a_setR (a_setR (a_setR (a_setR (a_new σ 3 8 8) (a_n σ) (Int32.toNatClampNeg (nI 0)) (some 6)) (a_n σ) (Int32.toNatClampNeg (nI 1)) (some 12)) (a_n σ) (Int32.toNatClampNeg (nI 2)) (some 13)) (a_n σ) (Int32.toNatClampNeg (nI 3)) (some 14)) (a_n σ) (Int32.toNatClampNeg (nI 4)) (some 15)) (a_n σ) (Int32.toNatClampNeg (nI 5)) (some 16)) (a_n σ) (Int32.toNatClampNeg (nI 6)) (some 17)) 18 = 6) ∨ (a_kd (a_setR (a_setR (a_setR (a_setR (a_setR (a_setR (a_setR (a_new σ 3 8 8) (a_n σ) (Int32.toNatClampNeg (nI 0)) (some 6)) (a_n σ) (Int32.toNatClampNeg (nI 1)) (some 12)) (a_n σ) (Int32.toNatClampNeg (nI 2)) (some 13)) (a_n σ) (Int32.toNatClampNeg (nI 3)) (some 14)) (a_n σ) (Int32.toNatClampNeg (nI 4)) (some 15)) (a_n σ) (Int32.toNatClampNeg (nI 5)) (some 16)) (a_n σ) (Int32.toNatClampNeg (nI 6)) (some 17)) (a_n σ) = 4 ∧ a_kd (a_setR (a_setR (a_setR (a_setR (a_setR (a_setR (a_setR (a_new σ 3 8 8) (a_n σ) (Int32.toNatClampNeg (nI 0)) (some 6)) (a_n σ) (Int32.toNatClampNeg (nI 1)) (some 12)) (a_n σ) (Int32.toNatClampNeg (nI 2)) (some 13)) (a_n σ) (Int32.toNatClampNeg (nI 3)) (some 14)) (a_n σ) (Int32.toNatClampNeg (nI 4)) (some 15)) (a_n σ) (Int32.toNatClampNeg (nI 5)) (some 16)) (a_n σ) (Int32.toNatClampNeg (nI 6)) (some 17)) 18 = 13)) (hn31 : 100 ≤ a_n σ) (hk32 : a_kd (a_setR (a_setR (a_setR (a_setR (a_setR (a_setR (a_setR (a_setR (a_new σ 3 8 8) (a_n σ) (Int32.toNatClampNeg (nI 0)) (some 6)) (a_n σ) (Int32.toNatClampNeg (nI 1)) (some 12)) (a_n σ) (Int32.toNatClampNeg (nI 2)) (some 13)) (a_n σ) (Int32.toNatClampNeg (nI 3)) (some 14)) (a_n σ) (Int32.toNatClampNeg (nI 4)) (some 15)) (a_n σ) (Int32.toNatClampNeg (nI 5)) (some 16)) (a_n σ) (Int32.toNatClampNeg (nI 6)) (some 17)) (a_n σ) (Int32.toNatClampNeg (nI 7)) (some 18)) a0 = 20) (hn33 : 100 ≤ a0) : b_R C kX8_init [] (106, [some (.ref a0)], [], σ) = b_gd (a_in (nI 0) N0) (b_gd (a_in (nI 1) N4) (b_gd (a_in (nI 2) N8) (b_gd (a_in (nI 3) N12) (b_gd (a_in (nI 4) N16) (b_gd (a_in (nI 5) N20) (b_gd (a_in (nI 6) N24) (b_gd (a_in (nI 7) N28) (b_R C kX8_init [] (157, [some (.ref a0)], [], (a_setR (a_setR (a_setR (a_setR (a_setR (a_setR (a_setR (a_setR (a_setR (a_new σ 3 8 8) (a_n σ) (Int32.toNatClampNeg (nI 0)) (some 6)) (a_n σ) (Int32.toNatClampNeg (nI 1)) (some 12)) (a_n σ) (Int32.toNatClampNeg (nI 2)) (some 13)) (a_n σ) (Int32.toNatClampNeg (nI 3)) (some 14)) (a_n σ) (Int32.toNatClampNeg (nI 4)) (some 15)) (a_n σ) (Int32.toNatClampNeg (nI 5)) (some 16)) (a_n σ) (Int32.toNatClampNeg (nI 6)) (some 17)) (a_n σ) (Int32.toNatClampNeg (nI 7)) (some 18)) a0 31 (some (a_n σ)))))))))))) := by
  refine (e_aload_n (code := kX8_init) (pc := 106) rfl rfl).trans ?_
  refine (e_bipush (code := kX8_init) (pc := 107) rfl).trans ?_
  refine (e_anewarray (code := kX8_init) (pc := 109) (m := 8) rfl (by decide) (by decide) (Nat.le_of_ble_eq_true rfl)).trans ?_
  refine (e_dup (code := kX8_init) (pc := 112) (σ := (a_new σ 3 8 8)) rfl rfl).trans ?_
  refine (e_iconst (code := kX8_init) (pc := 113) (σ := (a_new σ 3 8 8)) rfl).trans ?_
  refine (e_ldcS (code := kX8_init) (pc := 114) (σ := (a_new σ 3 8 8)) rfl).trans ?_
  refine (e_aastore (code := kX8_init) (pc := 116) (σ := (a_new σ 3 8 8)) rfl hk2 hn3 hl0).trans ?_
  refine b_gd_c ?_
  refine (e_dup (code := kX8_init) (pc := 117) (σ := (a_setR (a_new σ 3 8 8) (a_n σ) (Int32.toNatClampNeg (nI 0)) (some 6))) rfl rfl).trans ?_
  refine (e_iconst (code := kX8_init) (pc := 118) (σ := (a_setR (a_new σ 3 8 8) (a_n σ) (Int32.toNatClampNeg (nI 0)) (some 6))) rfl).trans ?_
  refine (e_ldcS (code := kX8_init) (pc := 119) (σ := (a_setR (a_new σ 3 8 8) (a_n σ) (Int32.toNatClampNeg (nI 0)) (some 6))) rfl).trans ?_
  refine (e_aastore (code := kX8_init) (pc := 121) (σ := (a_setR (a_new σ 3 8 8) (a_n σ) (Int32.toNatClampNeg (nI 0)) (some 6))) rfl hk6 hn7 hl4).trans ?_
  refine b_gd_c ?_
  refine (e_dup (code := kX8_init) (pc := 122) (σ := (a_setR (a_setR (a_new σ 3 8 8) (a_n σ) (Int32.toNatClampNeg (nI 0)) (some 6)) (a_n σ) (Int32.toNatClampNeg (nI 1)) (some 12))) rfl rfl).trans ?_
  refine (e_iconst (code := kX8_init) (pc := 123) (σ := (a_setR (a_setR (a_new σ 3 8 8) (a_n σ) (Int32.toNatClampNeg (nI 0)) (some 6)) (a_n σ) (Int32.toNatClampNeg (nI 1)) (some 12))) rfl).trans ?_
  refine (e_ldcS (code := kX8_init) (pc := 124) (σ := (a_setR (a_setR (a_new σ 3 8 8) (a_n σ) (Int32.toNatClampNeg (nI 0)) (some 6)) (a_n σ) (Int32.toNatClampNeg (nI 1)) (some 12))) rfl).trans ?_
  refine (e_aastore (code := kX8_init) (pc := 126) (σ := (a_setR (a_setR (a_new σ 3 8 8) (a_n σ) (Int32.toNatClampNeg (nI 0)) (some 6)) (a_n σ) (Int32.toNatClampNeg (nI 1)) (some 12))) rfl hk10 hn11 hl8).trans ?_
  refine b_gd_c ?_
  refine (e_dup (code := kX8_init) (pc := 127) (σ := (a_setR (a_setR (a_setR (a_new σ 3 8 8) (a_n σ) (Int32.toNatClampNeg (nI 0)) (some 6)) (a_n σ) (Int32.toNatClampNeg (nI 1)) (some 12)) (a_n σ) (Int32.toNatClampNeg (nI 2)) (some 13))) rfl rfl).trans ?_
  refine (e_iconst (code := kX8_init) (pc := 128) (σ := (a_setR (a_setR (a_setR (a_new σ 3 8 8) (a_n σ) (Int32.toNatClampNeg (nI 0)) (some 6)) (a_n σ) (Int32.toNatClampNeg (nI 1)) (some 12)) (a_n σ) (Int32.toNatClampNeg (nI 2)) (some 13))) rfl).trans ?_
  refine (e_ldcS (code := kX8_init) (pc := 129) (σ := (a_setR (a_setR (a_setR (a_new σ 3 8 8) (a_n σ) (Int32.toNatClampNeg (nI 0)) (some 6)) (a_n σ) (Int32.toNatClampNeg (nI 1)) (some 12)) (a_n σ) (Int32.toNatClampNeg (nI 2)) (some 13))) rfl).trans ?_
  refine (e_aastore (code := kX8_init) (pc := 131) (σ := (a_setR (a_setR (a_setR (a_new σ 3 8 8) (a_n σ) (Int32.toNatClampNeg (nI 0)) (some 6)) (a_n σ) (Int32.toNatClampNeg (nI 1)) (some 12)) (a_n σ) (Int32.toNatClampNeg (nI 2)) (some 13))) rfl hk14 hn15 hl12).trans ?_
  refine b_gd_c ?_
  refine (e_dup (code := kX8_init) (pc := 132) (σ := (a_setR (a_setR (a_setR (a_setR (a_new σ 3 8 8) (a_n σ) (Int32.toNatClampNeg (nI 0)) (some 6)) (a_n σ) (Int32.toNatClampNeg (nI 1)) (some 12)) (a_n σ) (Int32.toNatClampNeg (nI 2)) (some 13)) (a_n σ) (Int32.toNatClampNeg (nI 3)) (some 14))) rfl rfl).trans ?_
  refine (e_iconst (code := kX8_init) (pc := 133) (σ := (a_setR (a_setR (a_setR (a_setR (a_new σ 3 8 8) (a_n σ) (Int32.toNatClampNeg (nI 0)) (some 6)) (a_n σ) (Int32.toNatClampNeg (nI 1)) (some 12)) (a_n σ) (Int32.toNatClampNeg (nI 2)) (some 13)) (a_n σ) (Int32.toNatClampNeg (nI 3)) (some 14))) rfl).trans ?_
  refine (e_ldcS (code := kX8_init) (pc := 134) (σ := (a_setR (a_setR (a_setR (a_setR (a_new σ 3 8 8) (a_n σ) (Int32.toNatClampNeg (nI 0)) (some 6)) (a_n σ) (Int32.toNatClampNeg (nI 1)) (some 12)) (a_n σ) (Int32.toNatClampNeg (nI 2)) (some 13)) (a_n σ) (Int32.toNatClampNeg (nI 3)) (some 14))) rfl).trans ?_
  refine (e_aastore (code := kX8_init) (pc := 136) (σ := (a_setR (a_setR (a_setR (a_setR (a_new σ 3 8 8) (a_n σ) (Int32.toNatClampNeg (nI 0)) (some 6)) (a_n σ) (Int32.toNatClampNeg (nI 1)) (some 12)) (a_n σ) (Int32.toNatClampNeg (nI 2)) (some 13)) (a_n σ) (Int32.toNatClampNeg (nI 3)) (some 14))) rfl hk18 hn19 hl16).trans ?_
  refine b_gd_c ?_
  refine (e_dup (code := kX8_init) (pc := 137) (σ := (a_setR (a_setR (a_setR (a_setR (a_setR (a_new σ 3 8 8) (a_n σ) (Int32.toNatClampNeg (nI 0)) (some 6)) (a_n σ) (Int32.toNatClampNeg (nI 1)) (some 12)) (a_n σ) (Int32.toNatClampNeg (nI 2)) (some 13)) (a_n σ) (Int32.toNatClampNeg (nI 3)) (some 14)) (a_n σ) (Int32.toNatClampNeg (nI 4)) (some 15))) rfl rfl).trans ?_
  refine (e_iconst (code := kX8_init) (pc := 138) (σ := (a_setR (a_setR (a_setR (a_setR (a_setR (a_new σ 3 8 8) (a_n σ) (Int32.toNatClampNeg (nI 0)) (some 6)) (a_n σ) (Int32.toNatClampNeg (nI 1)) (some 12)) (a_n σ) (Int32.toNatClampNeg (nI 2)) (some 13)) (a_n σ) (Int32.toNatClampNeg (nI 3)) (some 14)) (a_n σ) (Int32.toNatClampNeg (nI 4)) (some 15))) rfl).trans ?_
  refine (e_ldcS (code := kX8_init) (pc := 139) (σ := (a_setR (a_setR (a_setR (a_setR (a_setR (a_new σ 3 8 8) (a_n σ) (Int32.toNatClampNeg (nI 0)) (some 6)) (a_n σ) (Int32.toNatClampNeg (nI 1)) (some 12)) (a_n σ) (Int32.toNatClampNeg (nI 2)) (some 13)) (a_n σ) (Int32.toNatClampNeg (nI 3)) (some 14)) (a_n σ) (Int32.toNatClampNeg (nI 4)) (some 15))) rfl).trans ?_
  refine (e_aastore (code := kX8_init) (pc := 141) (σ := (a_setR (a_setR (a_setR (a_setR (a_setR (a_new σ 3 8 8) (a_n σ) (Int32.toNatClampNeg (nI 0)) (some 6)) (a_n σ) (Int32.toNatClampNeg (nI 1)) (some 12)) (a_n σ) (Int32.toNatClampNeg (nI 2)) (some 13)) (a_n σ) (Int32.toNatClampNeg (nI 3)) (some 14)) (a_n σ) (Int32.toNatClampNeg (nI 4)) (some 15))) rfl hk22 hn23 hl20).trans ?_
  refine b_gd_c ?_
  refine (e_dup (code := kX8_init) (pc := 142) (σ := (a_setR (a_setR (a_setR (a_setR (a_setR (a_setR (a_new σ 3 8 8) (a_n σ) (Int32.toNatClampNeg (nI 0)) (some 6)) (a_n σ) (Int32.toNatClampNeg (nI 1)) (some 12)) (a_n σ) (Int32.toNatClampNeg (nI 2)) (some 13)) (a_n σ) (Int32.toNatClampNeg (nI 3)) (some 14)) (a_n σ) (Int32.toNatClampNeg (nI 4)) (some 15)) (a_n σ) (Int32.toNatClampNeg (nI 5)) (some 16))) rfl rfl).trans ?_
  refine (e_bipush (code := kX8_init) (pc := 143) (σ := (a_setR (a_setR (a_setR (a_setR (a_setR (a_setR (a_new σ 3 8 8) (a_n σ) (Int32.toNatClampNeg (nI 0)) (some 6)) (a_n σ) (Int32.toNatClampNeg (nI 1)) (some 12)) (a_n σ) (Int32.toNatClampNeg (nI 2)) (some 13)) (a_n σ) (Int32.toNatClampNeg (nI 3)) (some 14)) (a_n σ) (Int32.toNatClampNeg (nI 4)) (some 15)) (a_n σ) (Int32.toNatClampNeg (nI 5)) (some 16))) rfl).trans ?_
  refine (e_ldcS (code := kX8_init) (pc := 145) (σ := (a_setR (a_setR (a_setR (a_setR (a_setR (a_setR (a_new σ 3 8 8) (a_n σ) (Int32.toNatClampNeg (nI 0)) (some 6)) (a_n σ) (Int32.toNatClampNeg (nI 1)) (some 12)) (a_n σ) (Int32.toNatClampNeg (nI 2)) (some 13)) (a_n σ) (Int32.toNatClampNeg (nI 3)) (some 14)) (a_n σ) (Int32.toNatClampNeg (nI 4)) (some 15)) (a_n σ) (Int32.toNatClampNeg (nI 5)) (some 16))) rfl).trans ?_
  refine (e_aastore (code := kX8_init) (pc := 147) (σ := (a_setR (a_setR (a_setR (a_setR (a_setR (a_setR (a_new σ 3 8 8) (a_n σ) (Int32.toNatClampNeg (nI 0)) (some 6)) (a_n σ) (Int32.toNatClampNeg (nI 1)) (some 12)) (a_n σ) (Int32.toNatClampNeg (nI 2)) (some 13)) (a_n σ) (Int32.toNatClampNeg (nI 3)) (some 14)) (a_n σ) (Int32.toNatClampNeg (nI 4)) (some 15)) (a_n σ) (Int32.toNatClampNeg (nI 5)) (some 16))) rfl hk26 hn27 hl24).trans ?_
  refine b_gd_c ?_
  refine (e_dup (code := kX8_init) (pc := 148) (σ := (a_setR (a_setR (a_setR (a_setR (a_setR (a_setR (a_setR (a_new σ 3 8 8) (a_n σ) (Int32.toNatClampNeg (nI 0)) (some 6)) (a_n σ) (Int32.toNatClampNeg (nI 1)) (some 12)) (a_n σ) (Int32.toNatClampNeg (nI 2)) (some 13)) (a_n σ) (Int32.toNatClampNeg (nI 3)) (some 14)) (a_n σ) (Int32.toNatClampNeg (nI 4)) (some 15)) (a_n σ) (Int32.toNatClampNeg (nI 5)) (some 16)) (a_n σ) (Int32.toNatClampNeg (nI 6)) (some 17))) rfl rfl).trans ?_
  refine (e_bipush (code := kX8_init) (pc := 149) (σ := (a_setR (a_setR (a_setR (a_setR (a_setR (a_setR (a_setR (a_new σ 3 8 8) (a_n σ) (Int32.toNatClampNeg (nI 0)) (some 6)) (a_n σ) (Int32.toNatClampNeg (nI 1)) (some 12)) (a_n σ) (Int32.toNatClampNeg (nI 2)) (some 13)) (a_n σ) (Int32.toNatClampNeg (nI 3)) (some 14)) (a_n σ) (Int32.toNatClampNeg (nI 4)) (some 15)) (a_n σ) (Int32.toNatClampNeg (nI 5)) (some 16)) (a_n σ) (Int32.toNatClampNeg (nI 6)) (some 17))) rfl).trans ?_
  refine (e_ldcS (code := kX8_init) (pc := 151) (σ := (a_setR (a_setR (a_setR (a_setR (a_setR (a_setR (a_setR (a_new σ 3 8 8) (a_n σ) (Int32.toNatClampNeg (nI 0)) (some 6)) (a_n σ) (Int32.toNatClampNeg (nI 1)) (some 12)) (a_n σ) (Int32.toNatClampNeg (nI 2)) (some 13)) (a_n σ) (Int32.toNatClampNeg (nI 3)) (some 14)) (a_n σ) (Int32.toNatClampNeg (nI 4)) (some 15)) (a_n σ) (Int32.toNatClampNeg (nI 5)) (some 16)) (a_n σ) (Int32.toNatClampNeg (nI 6)) (some 17))) rfl).trans ?_
  refine (e_aastore (code := kX8_init) (pc := 153) (σ := (a_setR (a_setR (a_setR (a_setR (a_setR (a_setR (a_setR (a_new σ 3 8 8) (a_n σ) (Int32.toNatClampNeg (nI 0)) (some 6)) (a_n σ) (Int32.toNatClampNeg (nI 1)) (some 12)) (a_n σ) (Int32.toNatClampNeg (nI 2)) (some 13)) (a_n σ) (Int32.toNatClampNeg (nI 3)) (some 14)) (a_n σ) (Int32.toNatClampNeg (nI 4)) (some 15)) (a_n σ) (Int32.toNatClampNeg (nI 5)) (some 16)) (a_n σ) (Int32.toNatClampNeg (nI 6)) (some 17))) rfl hk30 hn31 hl28).trans ?_
  refine b_gd_c ?_
  refine (e_putR (code := kX8_init) (pc := 154) (σ := (a_setR (a_setR (a_setR (a_setR (a_setR (a_setR (a_setR (a_setR (a_new σ 3 8 8) (a_n σ) (Int32.toNatClampNeg (nI 0)) (some 6)) (a_n σ) (Int32.toNatClampNeg (nI 1)) (some 12)) (a_n σ) (Int32.toNatClampNeg (nI 2)) (some 13)) (a_n σ) (Int32.toNatClampNeg (nI 3)) (some 14)) (a_n σ) (Int32.toNatClampNeg (nI 4)) (some 15)) (a_n σ) (Int32.toNatClampNeg (nI 5)) (some 16)) (a_n σ) (Int32.toNatClampNeg (nI 6)) (some 17)) (a_n σ) (Int32.toNatClampNeg (nI 7)) (some 18))) (c := 10) rfl hk32 hn33).trans ?_
  rfl
theorem b_X8_init_157 {C : aCall} {σ : aSt} {a0 : Nat} (hk0 : a_kd (a_new σ 1 200 200) a0 = 20) (hn1 : 100 ≤ a0) : b_R C kX8_init [] (157, [some (.ref a0)], [], σ) = b_R C kX8_init [] (166, [some (.ref a0)], [], (a_setR (a_new σ 1 200 200) a0 32 (some (a_n σ)))) := by
  refine (e_aload_n (code := kX8_init) (pc := 157) rfl rfl).trans ?_
  refine (e_sipush (code := kX8_init) (pc := 158) rfl).trans ?_
  refine (e_newarray (code := kX8_init) (pc := 161) (m := 200) rfl (by decide) (by decide) (Nat.le_of_ble_eq_true rfl)).trans ?_
  refine (e_putR (code := kX8_init) (pc := 163) (σ := (a_new σ 1 200 200)) (c := 10) rfl hk0 hn1).trans ?_
  rfl
theorem b_X8_init_166 {C : aCall} {σ : aSt} {a0 : Nat} (hk0 : a_kd (a_new σ 2 200 200) a0 = 20) (hn1 : 100 ≤ a0) : b_R C kX8_init [] (166, [some (.ref a0)], [], σ) = b_R C kX8_init [] (175, [some (.ref a0)], [], (a_setR (a_new σ 2 200 200) a0 33 (some (a_n σ)))) := by
  refine (e_aload_n (code := kX8_init) (pc := 166) rfl rfl).trans ?_
  refine (e_sipush (code := kX8_init) (pc := 167) rfl).trans ?_
  refine (e_newarray (code := kX8_init) (pc := 170) (m := 200) rfl (by decide) (by decide) (Nat.le_of_ble_eq_true rfl)).trans ?_
  refine (e_putR (code := kX8_init) (pc := 172) (σ := (a_new σ 2 200 200)) (c := 10) rfl hk0 hn1).trans ?_
  rfl
theorem b_X8_init_175 {C : aCall} {σ : aSt} {a0 : Nat} (hk0 : a_kd σ a0 = 20) : b_R C kX8_init [] (175, [some (.ref a0)], [], σ) = b_G C kX8_init [] 176 179 [some (.ref a0)] [] (C 144 [.ref a0] σ) := by
  refine (e_aload_n (code := kX8_init) (pc := 175) rfl rfl).trans ?_
  exact (e_callV (σ := σ) (code := kX8_init) (pc := 176) (len := 3) (k := 144) (n := 1) (c := 20) (as := [.ref a0]) (st0 := []) rfl rfl rfl rfl rfl hk0 rfl)
theorem b_X8_init_179 {C : aCall} {σ : aSt} {a0 : Nat} : b_R C kX8_init [] (179, [some (.ref a0)], [], σ) = some (.inl none, σ) := by
  exact e_return_ rfl
theorem n_X8_begin {P : aCall} {d : Nat} {σ : aSt} (hd : 1 ≤ d) : a_call a_tab P d 144 [.ref 237] σ = b_R (a_call a_tab P (d - 1)) kX8_begin [] (0, [some (.ref 237), none], [], σ) := e_call hd at_X8_begin rfl
theorem b_X8_begin_0 {C : aCall} {σ : aSt} : b_R C kX8_begin [] (0, [some (.ref 237), none], [], σ) = b_R C kX8_begin [] (2, [some (.ref 237), some (.int (nI 0))], [], σ) := by
  refine (e_iconst (code := kX8_begin) (pc := 0) rfl).trans ?_
  refine (e_istore_n (code := kX8_begin) (pc := 1) rfl rfl rfl).trans ?_
  rfl
theorem b_X8_begin_2 {C : aCall} {σ : aSt} {w : Nat} {x1 : Int32} (h : Sh σ) (hw : Rw σ w) : b_R C kX8_begin [] (2, [some (.ref 237), some (.int x1)], [], σ) = (if x1 < (nI 720) then b_gd (a_in x1 720) (b_R C kX8_begin [] (2, [some (.ref 237), some (.int (x1 + nI 1))], [], (a_setI σ w (Int32.toNatClampNeg x1) (nI 0)))) else b_gd (a_in (nI 2) 720) (b_gd (a_in (nI 3) 720) (b_gd (a_in (nI 4) 720) (some (.inl none, (a_setI (a_setI (a_setI σ w (Int32.toNatClampNeg (nI 2)) (nI 2)) w (Int32.toNatClampNeg (nI 3)) (nI 4)) w (Int32.toNatClampNeg (nI 4)) (nI 300))))))) := by
  refine (e_iload_n (code := kX8_begin) (pc := 2) rfl rfl).trans ?_
  refine (e_sipush (code := kX8_begin) (pc := 3) rfl).trans ?_
  refine (e_icge (code := kX8_begin) (pc := 6) rfl).trans ?_
  refine b_ite ?_ ?_
  · refine (e_aload_n (code := kX8_begin) (pc := 9) rfl rfl).trans ?_
    refine (e_getR (code := kX8_begin) (pc := 10) (c := 10) rfl (sk_237 (σ := σ) h) hw.1).trans ?_
    refine (e_iload_n (code := kX8_begin) (pc := 13) rfl rfl).trans ?_
    refine (e_iconst (code := kX8_begin) (pc := 14) rfl).trans ?_
    refine (e_iastore (code := kX8_begin) (pc := 15) rfl hw.2.1 hw.2.2.1 hw.2.2.2).trans ?_
    refine b_gd_c ?_
    refine (e_iinc (code := kX8_begin) (pc := 16) (σ := (a_setI σ w (Int32.toNatClampNeg x1) (nI 0))) rfl rfl rfl rfl).trans ?_
    refine (e_goto (code := kX8_begin) (pc := 19) (σ := (a_setI σ w (Int32.toNatClampNeg x1) (nI 0))) rfl).trans ?_
    rfl
  · refine (e_aload_n (code := kX8_begin) (pc := 22) rfl rfl).trans ?_
    refine (e_getR (code := kX8_begin) (pc := 23) (c := 10) rfl (sk_237 (σ := σ) h) hw.1).trans ?_
    refine (e_iconst (code := kX8_begin) (pc := 26) rfl).trans ?_
    refine (e_iconst (code := kX8_begin) (pc := 27) rfl).trans ?_
    refine (e_iastore (code := kX8_begin) (pc := 28) rfl hw.2.1 hw.2.2.1 hw.2.2.2).trans ?_
    refine b_gd_c ?_
    refine (e_aload_n (code := kX8_begin) (pc := 29) (σ := (a_setI σ w (Int32.toNatClampNeg (nI 2)) (nI 2))) rfl rfl).trans ?_
    refine (e_getR (code := kX8_begin) (pc := 30) (σ := (a_setI σ w (Int32.toNatClampNeg (nI 2)) (nI 2))) (c := 10) rfl (sk_237 (σ := σ) h) hw.1).trans ?_
    refine (e_iconst (code := kX8_begin) (pc := 33) (σ := (a_setI σ w (Int32.toNatClampNeg (nI 2)) (nI 2))) rfl).trans ?_
    refine (e_iconst (code := kX8_begin) (pc := 34) (σ := (a_setI σ w (Int32.toNatClampNeg (nI 2)) (nI 2))) rfl).trans ?_
    refine (e_iastore (code := kX8_begin) (pc := 35) (σ := (a_setI σ w (Int32.toNatClampNeg (nI 2)) (nI 2))) rfl hw.2.1 hw.2.2.1 hw.2.2.2).trans ?_
    refine b_gd_c ?_
    refine (e_aload_n (code := kX8_begin) (pc := 36) (σ := (a_setI (a_setI σ w (Int32.toNatClampNeg (nI 2)) (nI 2)) w (Int32.toNatClampNeg (nI 3)) (nI 4))) rfl rfl).trans ?_
    refine (e_getR (code := kX8_begin) (pc := 37) (σ := (a_setI (a_setI σ w (Int32.toNatClampNeg (nI 2)) (nI 2)) w (Int32.toNatClampNeg (nI 3)) (nI 4))) (c := 10) rfl (sk_237 (σ := σ) h) hw.1).trans ?_
    refine (e_iconst (code := kX8_begin) (pc := 40) (σ := (a_setI (a_setI σ w (Int32.toNatClampNeg (nI 2)) (nI 2)) w (Int32.toNatClampNeg (nI 3)) (nI 4))) rfl).trans ?_
    refine (e_sipush (code := kX8_begin) (pc := 41) (σ := (a_setI (a_setI σ w (Int32.toNatClampNeg (nI 2)) (nI 2)) w (Int32.toNatClampNeg (nI 3)) (nI 4))) rfl).trans ?_
    refine (e_iastore (code := kX8_begin) (pc := 44) (σ := (a_setI (a_setI σ w (Int32.toNatClampNeg (nI 2)) (nI 2)) w (Int32.toNatClampNeg (nI 3)) (nI 4))) rfl hw.2.1 hw.2.2.1 hw.2.2.2).trans ?_
    refine b_gd_c ?_
    exact e_return_ rfl
theorem n_X8_thrown {P : aCall} {d : Nat} {σ : aSt} (hd : 1 ≤ d) : a_call a_tab P d 145 [.ref 237] σ = b_R (a_call a_tab P (d - 1)) kX8_thrown [] (0, [some (.ref 237)], [], σ) := e_call hd at_X8_thrown rfl
theorem b_X8_thrown_0 {C : aCall} {σ : aSt} (h : Sh σ) : b_R C kX8_thrown [] (0, [some (.ref 237)], [], σ) = some (.inl (some (.int (a_I σ 237 6))), σ) := by
  refine (e_aload_n (code := kX8_thrown) (pc := 0) rfl rfl).trans ?_
  refine (e_getI (code := kX8_thrown) (pc := 1) (c := 10) rfl (sk_237 (σ := σ) h) rfl).trans ?_
  exact e_ireturn rfl
theorem n_X8_raise {P : aCall} {d : Nat} {σ : aSt} {x1 : Int32} (hd : 1 ≤ d) : a_call a_tab P d 146 [.ref 237, .int x1] σ = b_R (a_call a_tab P (d - 1)) kX8_raise [] (0, [some (.ref 237), some (.int x1)], [], σ) := e_call hd at_X8_raise rfl
theorem b_X8_raise_0 {C : aCall} {σ : aSt} {x1 : Int32} (h : Sh σ) : b_R C kX8_raise [] (0, [some (.ref 237), some (.int x1)], [], σ) = some (.inl (some (.int (nI 0))), (a_setI σ 237 6 x1)) := by
  refine (e_aload_n (code := kX8_raise) (pc := 0) rfl rfl).trans ?_
  refine (e_iload_n (code := kX8_raise) (pc := 1) rfl rfl).trans ?_
  refine (e_putI (code := kX8_raise) (pc := 2) (c := 10) rfl (sk_237 (σ := σ) h) (h_100 rfl)).trans ?_
  refine (e_iconst (code := kX8_raise) (pc := 5) (σ := (a_setI σ 237 6 x1)) rfl).trans ?_
  exact e_ireturn rfl
theorem n_X8_inRange {P : aCall} {d : Nat} {σ : aSt} {x0 x1 x2 : Int32} (hd : 1 ≤ d) : a_call a_tab P d 147 [.int x0, .int x1, .int x2] σ = b_R (a_call a_tab P (d - 1)) kX8_inRange [] (0, [some (.int x0), some (.int x1), some (.int x2)], [], σ) := e_call hd at_X8_inRange rfl
theorem b_X8_inRange_0 {C : aCall} {σ : aSt} {x0 x1 x2 : Int32} : b_R C kX8_inRange [] (0, [some (.int x0), some (.int x1), some (.int x2)], [], σ) = (if x0 < x1 then b_R C kX8_inRange [] (14, [some (.int x0), some (.int x1), some (.int x2)], [], σ) else (if x2 < x0 then b_R C kX8_inRange [] (14, [some (.int x0), some (.int x1), some (.int x2)], [], σ) else b_R C kX8_inRange [] (15, [some (.int x0), some (.int x1), some (.int x2)], [.int (nI 1)], σ))) := by
  refine (e_iload_n (code := kX8_inRange) (pc := 0) rfl rfl).trans ?_
  refine (e_iload_n (code := kX8_inRange) (pc := 1) rfl rfl).trans ?_
  refine (e_iclt (code := kX8_inRange) (pc := 2) rfl).trans ?_
  refine b_ite ?_ ?_
  · rfl
  · refine (e_iload_n (code := kX8_inRange) (pc := 5) rfl rfl).trans ?_
    refine (e_iload_n (code := kX8_inRange) (pc := 6) rfl rfl).trans ?_
    refine (e_icgt (code := kX8_inRange) (pc := 7) rfl).trans ?_
    refine b_ite ?_ ?_
    · rfl
    · refine (e_iconst (code := kX8_inRange) (pc := 10) rfl).trans ?_
      refine (e_goto (code := kX8_inRange) (pc := 11) rfl).trans ?_
      rfl
theorem b_X8_inRange_14 {C : aCall} {σ : aSt} {x0 x1 x2 : Int32} : b_R C kX8_inRange [] (14, [some (.int x0), some (.int x1), some (.int x2)], [], σ) = b_R C kX8_inRange [] (15, [some (.int x0), some (.int x1), some (.int x2)], [.int (nI 0)], σ) := by
  refine (e_iconst (code := kX8_inRange) (pc := 14) rfl).trans ?_
  rfl
theorem b_X8_inRange_15 {C : aCall} {σ : aSt} {x0 x1 x2 y0 : Int32} : b_R C kX8_inRange [] (15, [some (.int x0), some (.int x1), some (.int x2)], [.int y0], σ) = b_gd (y0 = 0 ∨ y0 = 1) (some (.inl (some (.int y0)), σ)) := by
  exact e_zreturn rfl
theorem n_X8_lacks {P : aCall} {d : Nat} {σ : aSt} {x1 : Int32} (hd : 1 ≤ d) : a_call a_tab P d 148 [.ref 237, .int x1] σ = b_R (a_call a_tab P (d - 1)) kX8_lacks [] (0, [some (.ref 237), some (.int x1)], [], σ) := e_call hd at_X8_lacks rfl
theorem b_X8_lacks_0 {C : aCall} {σ : aSt} {x1 : Int32} : b_R C kX8_lacks [] (0, [some (.ref 237), some (.int x1)], [], σ) = (if x1 = 0 then b_R C kX8_lacks [] (10, [some (.ref 237), some (.int x1)], [.int (nI 1), .ref 237], σ) else b_R C kX8_lacks [] (10, [some (.ref 237), some (.int x1)], [.int (nI 0), .ref 237], σ)) := by
  refine (e_aload_n (code := kX8_lacks) (pc := 0) rfl rfl).trans ?_
  refine (e_iload_n (code := kX8_lacks) (pc := 1) rfl rfl).trans ?_
  refine (e_ifeq (code := kX8_lacks) (pc := 2) rfl).trans ?_
  refine b_ite ?_ ?_
  · refine (e_iconst (code := kX8_lacks) (pc := 9) rfl).trans ?_
    rfl
  · refine (e_iconst (code := kX8_lacks) (pc := 5) rfl).trans ?_
    refine (e_goto (code := kX8_lacks) (pc := 6) rfl).trans ?_
    rfl
theorem b_X8_lacks_10 {C : aCall} {σ : aSt} {x1 y0 : Int32} (h : Sh σ) : b_R C kX8_lacks [] (10, [some (.ref 237), some (.int x1)], [.int y0, .ref 237], σ) = (if x1 = 0 then b_R C kX8_lacks [] (22, [some (.ref 237), some (.int x1)], [.int (nI 1)], (a_setI σ 237 6 y0)) else b_R C kX8_lacks [] (22, [some (.ref 237), some (.int x1)], [.int (nI 0)], (a_setI σ 237 6 y0))) := by
  refine (e_putI (code := kX8_lacks) (pc := 10) (c := 10) rfl (sk_237 (σ := σ) h) (h_100 rfl)).trans ?_
  refine (e_iload_n (code := kX8_lacks) (pc := 13) (σ := (a_setI σ 237 6 y0)) rfl rfl).trans ?_
  refine (e_ifne (code := kX8_lacks) (pc := 14) (σ := (a_setI σ 237 6 y0)) rfl).trans ?_
  refine b_ite ?_ ?_
  · refine (e_iconst (code := kX8_lacks) (pc := 17) (σ := (a_setI σ 237 6 y0)) rfl).trans ?_
    refine (e_goto (code := kX8_lacks) (pc := 18) (σ := (a_setI σ 237 6 y0)) rfl).trans ?_
    rfl
  · refine (e_iconst (code := kX8_lacks) (pc := 21) (σ := (a_setI σ 237 6 y0)) rfl).trans ?_
    rfl
theorem b_X8_lacks_22 {C : aCall} {σ : aSt} {x1 y0 : Int32} : b_R C kX8_lacks [] (22, [some (.ref 237), some (.int x1)], [.int y0], σ) = b_gd (y0 = 0 ∨ y0 = 1) (some (.inl (some (.int y0)), σ)) := by
  exact e_zreturn rfl
theorem n_X8_isTube {P : aCall} {d : Nat} {σ : aSt} {x1 : Int32} (hd : 1 ≤ d) : a_call a_tab P d 149 [.ref 237, .int x1] σ = b_R (a_call a_tab P (d - 1)) kX8_isTube [] (0, [some (.ref 237), some (.int x1)], [], σ) := e_call hd at_X8_isTube rfl
theorem b_X8_isTube_0 {C : aCall} {σ : aSt} {w : Nat} {x1 : Int32} (h : Sh σ) (hw : Rw σ w) : b_R C kX8_isTube [] (0, [some (.ref 237), some (.int x1)], [], σ) = b_gd (a_in (nI 0) 720) (b_G C kX8_isTube [] 10 13 [some (.ref 237), some (.int x1)] [] (C 147 [.int x1, .int (nI 0), .int ((a_I σ w (Int32.toNatClampNeg (nI 0))) - (nI 1))] σ)) := by
  refine (e_iload_n (code := kX8_isTube) (pc := 0) rfl rfl).trans ?_
  refine (e_iconst (code := kX8_isTube) (pc := 1) rfl).trans ?_
  refine (e_aload_n (code := kX8_isTube) (pc := 2) rfl rfl).trans ?_
  refine (e_getR (code := kX8_isTube) (pc := 3) (c := 10) rfl (sk_237 (σ := σ) h) hw.1).trans ?_
  refine (e_iconst (code := kX8_isTube) (pc := 6) rfl).trans ?_
  refine (e_iaload (code := kX8_isTube) (pc := 7) rfl (.inl hw.2.1) hw.2.2.2).trans ?_
  refine b_gd_c ?_
  refine (e_iconst (code := kX8_isTube) (pc := 8) rfl).trans ?_
  refine (e_isub (code := kX8_isTube) (pc := 9) rfl).trans ?_
  exact (e_callS (code := kX8_isTube) (pc := 10) (len := 3) (k := 147) (n := 3) (as := [.int x1, .int (nI 0), .int ((a_I σ w (Int32.toNatClampNeg (nI 0))) - (nI 1))]) (st0 := []) rfl rfl rfl rfl)
theorem b_X8_isTube_13 {C : aCall} {σ : aSt} {x1 y0 : Int32} : b_R C kX8_isTube [] (13, [some (.ref 237), some (.int x1)], [.int y0], σ) = b_gd (y0 = 0 ∨ y0 = 1) (some (.inl (some (.int y0)), σ)) := by
  exact e_zreturn rfl
theorem n_X8_isMix {P : aCall} {d : Nat} {σ : aSt} {x1 : Int32} (hd : 1 ≤ d) : a_call a_tab P d 150 [.ref 237, .int x1] σ = b_R (a_call a_tab P (d - 1)) kX8_isMix [] (0, [some (.ref 237), some (.int x1)], [], σ) := e_call hd at_X8_isMix rfl
theorem b_X8_isMix_0 {C : aCall} {σ : aSt} {w : Nat} {x1 : Int32} (h : Sh σ) (hw : Rw σ w) : b_R C kX8_isMix [] (0, [some (.ref 237), some (.int x1)], [], σ) = b_gd (a_in (nI 1) 720) (b_G C kX8_isMix [] 10 13 [some (.ref 237), some (.int x1)] [] (C 147 [.int x1, .int (nI 0), .int ((a_I σ w (Int32.toNatClampNeg (nI 1))) - (nI 1))] σ)) := by
  refine (e_iload_n (code := kX8_isMix) (pc := 0) rfl rfl).trans ?_
  refine (e_iconst (code := kX8_isMix) (pc := 1) rfl).trans ?_
  refine (e_aload_n (code := kX8_isMix) (pc := 2) rfl rfl).trans ?_
  refine (e_getR (code := kX8_isMix) (pc := 3) (c := 10) rfl (sk_237 (σ := σ) h) hw.1).trans ?_
  refine (e_iconst (code := kX8_isMix) (pc := 6) rfl).trans ?_
  refine (e_iaload (code := kX8_isMix) (pc := 7) rfl (.inl hw.2.1) hw.2.2.2).trans ?_
  refine b_gd_c ?_
  refine (e_iconst (code := kX8_isMix) (pc := 8) rfl).trans ?_
  refine (e_isub (code := kX8_isMix) (pc := 9) rfl).trans ?_
  exact (e_callS (code := kX8_isMix) (pc := 10) (len := 3) (k := 147) (n := 3) (as := [.int x1, .int (nI 0), .int ((a_I σ w (Int32.toNatClampNeg (nI 1))) - (nI 1))]) (st0 := []) rfl rfl rfl rfl)
theorem b_X8_isMix_13 {C : aCall} {σ : aSt} {x1 y0 : Int32} : b_R C kX8_isMix [] (13, [some (.ref 237), some (.int x1)], [.int y0], σ) = b_gd (y0 = 0 ∨ y0 = 1) (some (.inl (some (.int y0)), σ)) := by
  exact e_zreturn rfl
theorem n_X8_isBrush {P : aCall} {d : Nat} {σ : aSt} {x1 : Int32} (hd : 1 ≤ d) : a_call a_tab P d 151 [.ref 237, .int x1] σ = b_R (a_call a_tab P (d - 1)) kX8_isBrush [] (0, [some (.ref 237), some (.int x1)], [], σ) := e_call hd at_X8_isBrush rfl
theorem b_X8_isBrush_0 {C : aCall} {σ : aSt} {w : Nat} {x1 : Int32} (h : Sh σ) (hw : Rw σ w) : b_R C kX8_isBrush [] (0, [some (.ref 237), some (.int x1)], [], σ) = b_gd (a_in (nI 2) 720) (b_G C kX8_isBrush [] 10 13 [some (.ref 237), some (.int x1)] [] (C 147 [.int x1, .int (nI 0), .int ((a_I σ w (Int32.toNatClampNeg (nI 2))) - (nI 1))] σ)) := by
  refine (e_iload_n (code := kX8_isBrush) (pc := 0) rfl rfl).trans ?_
  refine (e_iconst (code := kX8_isBrush) (pc := 1) rfl).trans ?_
  refine (e_aload_n (code := kX8_isBrush) (pc := 2) rfl rfl).trans ?_
  refine (e_getR (code := kX8_isBrush) (pc := 3) (c := 10) rfl (sk_237 (σ := σ) h) hw.1).trans ?_
  refine (e_iconst (code := kX8_isBrush) (pc := 6) rfl).trans ?_
  refine (e_iaload (code := kX8_isBrush) (pc := 7) rfl (.inl hw.2.1) hw.2.2.2).trans ?_
  refine b_gd_c ?_
  refine (e_iconst (code := kX8_isBrush) (pc := 8) rfl).trans ?_
  refine (e_isub (code := kX8_isBrush) (pc := 9) rfl).trans ?_
  exact (e_callS (code := kX8_isBrush) (pc := 10) (len := 3) (k := 147) (n := 3) (as := [.int x1, .int (nI 0), .int ((a_I σ w (Int32.toNatClampNeg (nI 2))) - (nI 1))]) (st0 := []) rfl rfl rfl rfl)
theorem b_X8_isBrush_13 {C : aCall} {σ : aSt} {x1 y0 : Int32} : b_R C kX8_isBrush [] (13, [some (.ref 237), some (.int x1)], [.int y0], σ) = b_gd (y0 = 0 ∨ y0 = 1) (some (.inl (some (.int y0)), σ)) := by
  exact e_zreturn rfl
theorem n_X8_isColour {P : aCall} {d : Nat} {σ : aSt} {x0 : Int32} (hd : 1 ≤ d) : a_call a_tab P d 152 [.int x0] σ = b_R (a_call a_tab P (d - 1)) kX8_isColour [] (0, [some (.int x0)], [], σ) := e_call hd at_X8_isColour rfl
theorem b_X8_isColour_0 {C : aCall} {σ : aSt} {x0 : Int32} : b_R C kX8_isColour [] (0, [some (.int x0)], [], σ) = b_G C kX8_isColour [] 4 7 [some (.int x0)] [] (C 147 [.int x0, .int (nI 0), .int (nI 16777215)] σ) := by
  refine (e_iload_n (code := kX8_isColour) (pc := 0) rfl rfl).trans ?_
  refine (e_iconst (code := kX8_isColour) (pc := 1) rfl).trans ?_
  refine (e_ldcI (code := kX8_isColour) (pc := 2) rfl).trans ?_
  exact (e_callS (code := kX8_isColour) (pc := 4) (len := 3) (k := 147) (n := 3) (as := [.int x0, .int (nI 0), .int (nI 16777215)]) (st0 := []) rfl rfl rfl rfl)
theorem b_X8_isColour_7 {C : aCall} {σ : aSt} {x0 y0 : Int32} : b_R C kX8_isColour [] (7, [some (.int x0)], [.int y0], σ) = b_gd (y0 = 0 ∨ y0 = 1) (some (.inl (some (.int y0)), σ)) := by
  exact e_zreturn rfl
theorem n_X8_ofTube {P : aCall} {d : Nat} {σ : aSt} {x1 x2 : Int32} (hd : 1 ≤ d) : a_call a_tab P d 153 [.ref 237, .int x1, .int x2] σ = b_R (a_call a_tab P (d - 1)) kX8_ofTube [] (0, [some (.ref 237), some (.int x1), some (.int x2)], [], σ) := e_call hd at_X8_ofTube rfl
theorem b_X8_ofTube_0 {C : aCall} {σ : aSt} {w : Nat} {x1 x2 : Int32} (h : Sh σ) (hw : Rw σ w) : b_R C kX8_ofTube [] (0, [some (.ref 237), some (.int x1), some (.int x2)], [], σ) = b_gd (a_in (((nI 8) + ((nI 14) * x1)) + x2) 720) (some (.inl (some (.int (a_I σ w (Int32.toNatClampNeg (((nI 8) + ((nI 14) * x1)) + x2))))), σ)) := by
  refine (e_aload_n (code := kX8_ofTube) (pc := 0) rfl rfl).trans ?_
  refine (e_getR (code := kX8_ofTube) (pc := 1) (c := 10) rfl (sk_237 (σ := σ) h) hw.1).trans ?_
  refine (e_bipush (code := kX8_ofTube) (pc := 4) rfl).trans ?_
  refine (e_bipush (code := kX8_ofTube) (pc := 6) rfl).trans ?_
  refine (e_iload_n (code := kX8_ofTube) (pc := 8) rfl rfl).trans ?_
  refine (e_imul (code := kX8_ofTube) (pc := 9) rfl).trans ?_
  refine (e_iadd (code := kX8_ofTube) (pc := 10) rfl).trans ?_
  refine (e_iload_n (code := kX8_ofTube) (pc := 11) rfl rfl).trans ?_
  refine (e_iadd (code := kX8_ofTube) (pc := 12) rfl).trans ?_
  refine (e_iaload (code := kX8_ofTube) (pc := 13) rfl (.inl hw.2.1) hw.2.2.2).trans ?_
  refine b_gd_c ?_
  exact e_ireturn rfl
theorem n_X8_layTube {P : aCall} {d : Nat} {σ : aSt} {x1 x2 x3 : Int32} (hd : 1 ≤ d) : a_call a_tab P d 154 [.ref 237, .int x1, .int x2, .int x3] σ = b_R (a_call a_tab P (d - 1)) kX8_layTube [] (0, [some (.ref 237), some (.int x1), some (.int x2), some (.int x3)], [], σ) := e_call hd at_X8_layTube rfl
theorem b_X8_layTube_0 {C : aCall} {σ : aSt} {w : Nat} {x1 x2 x3 : Int32} (h : Sh σ) (hw : Rw σ w) : b_R C kX8_layTube [] (0, [some (.ref 237), some (.int x1), some (.int x2), some (.int x3)], [], σ) = b_gd (a_in (((nI 8) + ((nI 14) * x1)) + x2) 720) (some (.inl none, (a_setI σ w (Int32.toNatClampNeg (((nI 8) + ((nI 14) * x1)) + x2)) x3))) := by
  refine (e_aload_n (code := kX8_layTube) (pc := 0) rfl rfl).trans ?_
  refine (e_getR (code := kX8_layTube) (pc := 1) (c := 10) rfl (sk_237 (σ := σ) h) hw.1).trans ?_
  refine (e_bipush (code := kX8_layTube) (pc := 4) rfl).trans ?_
  refine (e_bipush (code := kX8_layTube) (pc := 6) rfl).trans ?_
  refine (e_iload_n (code := kX8_layTube) (pc := 8) rfl rfl).trans ?_
  refine (e_imul (code := kX8_layTube) (pc := 9) rfl).trans ?_
  refine (e_iadd (code := kX8_layTube) (pc := 10) rfl).trans ?_
  refine (e_iload_n (code := kX8_layTube) (pc := 11) rfl rfl).trans ?_
  refine (e_iadd (code := kX8_layTube) (pc := 12) rfl).trans ?_
  refine (e_iload_n (code := kX8_layTube) (pc := 13) rfl rfl).trans ?_
  refine (e_iastore (code := kX8_layTube) (pc := 14) rfl hw.2.1 hw.2.2.1 hw.2.2.2).trans ?_
  refine b_gd_c ?_
  exact e_return_ rfl
theorem n_X8_ofMix {P : aCall} {d : Nat} {σ : aSt} {x1 x2 : Int32} (hd : 1 ≤ d) : a_call a_tab P d 155 [.ref 237, .int x1, .int x2] σ = b_R (a_call a_tab P (d - 1)) kX8_ofMix [] (0, [some (.ref 237), some (.int x1), some (.int x2)], [], σ) := e_call hd at_X8_ofMix rfl
theorem b_X8_ofMix_0 {C : aCall} {σ : aSt} {w : Nat} {x1 x2 : Int32} (h : Sh σ) (hw : Rw σ w) : b_R C kX8_ofMix [] (0, [some (.ref 237), some (.int x1), some (.int x2)], [], σ) = b_gd (a_in (((nI 288) + ((nI 18) * x1)) + x2) 720) (some (.inl (some (.int (a_I σ w (Int32.toNatClampNeg (((nI 288) + ((nI 18) * x1)) + x2))))), σ)) := by
  refine (e_aload_n (code := kX8_ofMix) (pc := 0) rfl rfl).trans ?_
  refine (e_getR (code := kX8_ofMix) (pc := 1) (c := 10) rfl (sk_237 (σ := σ) h) hw.1).trans ?_
  refine (e_sipush (code := kX8_ofMix) (pc := 4) rfl).trans ?_
  refine (e_bipush (code := kX8_ofMix) (pc := 7) rfl).trans ?_
  refine (e_iload_n (code := kX8_ofMix) (pc := 9) rfl rfl).trans ?_
  refine (e_imul (code := kX8_ofMix) (pc := 10) rfl).trans ?_
  refine (e_iadd (code := kX8_ofMix) (pc := 11) rfl).trans ?_
  refine (e_iload_n (code := kX8_ofMix) (pc := 12) rfl rfl).trans ?_
  refine (e_iadd (code := kX8_ofMix) (pc := 13) rfl).trans ?_
  refine (e_iaload (code := kX8_ofMix) (pc := 14) rfl (.inl hw.2.1) hw.2.2.2).trans ?_
  refine b_gd_c ?_
  exact e_ireturn rfl
theorem n_X8_layMix {P : aCall} {d : Nat} {σ : aSt} {x1 x2 x3 : Int32} (hd : 1 ≤ d) : a_call a_tab P d 156 [.ref 237, .int x1, .int x2, .int x3] σ = b_R (a_call a_tab P (d - 1)) kX8_layMix [] (0, [some (.ref 237), some (.int x1), some (.int x2), some (.int x3)], [], σ) := e_call hd at_X8_layMix rfl
theorem b_X8_layMix_0 {C : aCall} {σ : aSt} {w : Nat} {x1 x2 x3 : Int32} (h : Sh σ) (hw : Rw σ w) : b_R C kX8_layMix [] (0, [some (.ref 237), some (.int x1), some (.int x2), some (.int x3)], [], σ) = b_gd (a_in (((nI 288) + ((nI 18) * x1)) + x2) 720) (some (.inl none, (a_setI σ w (Int32.toNatClampNeg (((nI 288) + ((nI 18) * x1)) + x2)) x3))) := by
  refine (e_aload_n (code := kX8_layMix) (pc := 0) rfl rfl).trans ?_
  refine (e_getR (code := kX8_layMix) (pc := 1) (c := 10) rfl (sk_237 (σ := σ) h) hw.1).trans ?_
  refine (e_sipush (code := kX8_layMix) (pc := 4) rfl).trans ?_
  refine (e_bipush (code := kX8_layMix) (pc := 7) rfl).trans ?_
  refine (e_iload_n (code := kX8_layMix) (pc := 9) rfl rfl).trans ?_
  refine (e_imul (code := kX8_layMix) (pc := 10) rfl).trans ?_
  refine (e_iadd (code := kX8_layMix) (pc := 11) rfl).trans ?_
  refine (e_iload_n (code := kX8_layMix) (pc := 12) rfl rfl).trans ?_
  refine (e_iadd (code := kX8_layMix) (pc := 13) rfl).trans ?_
  refine (e_iload_n (code := kX8_layMix) (pc := 14) rfl rfl).trans ?_
  refine (e_iastore (code := kX8_layMix) (pc := 15) rfl hw.2.1 hw.2.2.1 hw.2.2.2).trans ?_
  refine b_gd_c ?_
  exact e_return_ rfl
theorem n_X8_ofBrush {P : aCall} {d : Nat} {σ : aSt} {x1 x2 : Int32} (hd : 1 ≤ d) : a_call a_tab P d 157 [.ref 237, .int x1, .int x2] σ = b_R (a_call a_tab P (d - 1)) kX8_ofBrush [] (0, [some (.ref 237), some (.int x1), some (.int x2)], [], σ) := e_call hd at_X8_ofBrush rfl
theorem b_X8_ofBrush_0 {C : aCall} {σ : aSt} {w : Nat} {x1 x2 : Int32} (h : Sh σ) (hw : Rw σ w) : b_R C kX8_ofBrush [] (0, [some (.ref 237), some (.int x1), some (.int x2)], [], σ) = b_gd (a_in (((nI 648) + ((nI 4) * x1)) + x2) 720) (some (.inl (some (.int (a_I σ w (Int32.toNatClampNeg (((nI 648) + ((nI 4) * x1)) + x2))))), σ)) := by
  refine (e_aload_n (code := kX8_ofBrush) (pc := 0) rfl rfl).trans ?_
  refine (e_getR (code := kX8_ofBrush) (pc := 1) (c := 10) rfl (sk_237 (σ := σ) h) hw.1).trans ?_
  refine (e_sipush (code := kX8_ofBrush) (pc := 4) rfl).trans ?_
  refine (e_iconst (code := kX8_ofBrush) (pc := 7) rfl).trans ?_
  refine (e_iload_n (code := kX8_ofBrush) (pc := 8) rfl rfl).trans ?_
  refine (e_imul (code := kX8_ofBrush) (pc := 9) rfl).trans ?_
  refine (e_iadd (code := kX8_ofBrush) (pc := 10) rfl).trans ?_
  refine (e_iload_n (code := kX8_ofBrush) (pc := 11) rfl rfl).trans ?_
  refine (e_iadd (code := kX8_ofBrush) (pc := 12) rfl).trans ?_
  refine (e_iaload (code := kX8_ofBrush) (pc := 13) rfl (.inl hw.2.1) hw.2.2.2).trans ?_
  refine b_gd_c ?_
  exact e_ireturn rfl
theorem n_X8_layBrush {P : aCall} {d : Nat} {σ : aSt} {x1 x2 x3 : Int32} (hd : 1 ≤ d) : a_call a_tab P d 158 [.ref 237, .int x1, .int x2, .int x3] σ = b_R (a_call a_tab P (d - 1)) kX8_layBrush [] (0, [some (.ref 237), some (.int x1), some (.int x2), some (.int x3)], [], σ) := e_call hd at_X8_layBrush rfl
theorem b_X8_layBrush_0 {C : aCall} {σ : aSt} {w : Nat} {x1 x2 x3 : Int32} (h : Sh σ) (hw : Rw σ w) : b_R C kX8_layBrush [] (0, [some (.ref 237), some (.int x1), some (.int x2), some (.int x3)], [], σ) = b_gd (a_in (((nI 648) + ((nI 4) * x1)) + x2) 720) (some (.inl none, (a_setI σ w (Int32.toNatClampNeg (((nI 648) + ((nI 4) * x1)) + x2)) x3))) := by
  refine (e_aload_n (code := kX8_layBrush) (pc := 0) rfl rfl).trans ?_
  refine (e_getR (code := kX8_layBrush) (pc := 1) (c := 10) rfl (sk_237 (σ := σ) h) hw.1).trans ?_
  refine (e_sipush (code := kX8_layBrush) (pc := 4) rfl).trans ?_
  refine (e_iconst (code := kX8_layBrush) (pc := 7) rfl).trans ?_
  refine (e_iload_n (code := kX8_layBrush) (pc := 8) rfl rfl).trans ?_
  refine (e_imul (code := kX8_layBrush) (pc := 9) rfl).trans ?_
  refine (e_iadd (code := kX8_layBrush) (pc := 10) rfl).trans ?_
  refine (e_iload_n (code := kX8_layBrush) (pc := 11) rfl rfl).trans ?_
  refine (e_iadd (code := kX8_layBrush) (pc := 12) rfl).trans ?_
  refine (e_iload_n (code := kX8_layBrush) (pc := 13) rfl rfl).trans ?_
  refine (e_iastore (code := kX8_layBrush) (pc := 14) rfl hw.2.1 hw.2.2.1 hw.2.2.2).trans ?_
  refine b_gd_c ?_
  exact e_return_ rfl
theorem n_X8_rounded {P : aCall} {d : Nat} {σ : aSt} {x0 x1 : Int32} (hd : 1 ≤ d) : a_call a_tab P d 159 [.int x0, .int x1] σ = b_R (a_call a_tab P (d - 1)) kX8_rounded [] (0, [some (.int x0), some (.int x1)], [], σ) := e_call hd at_X8_rounded rfl
theorem b_X8_rounded_0 {C : aCall} {σ : aSt} {x0 x1 : Int32} : b_R C kX8_rounded [] (0, [some (.int x0), some (.int x1)], [], σ) = b_gd (((nI 2) * x1) ≠ 0) (some (.inl (some (.int ((((nI 2) * x0) + x1) / ((nI 2) * x1)))), σ)) := by
  refine (e_iconst (code := kX8_rounded) (pc := 0) rfl).trans ?_
  refine (e_iload_n (code := kX8_rounded) (pc := 1) rfl rfl).trans ?_
  refine (e_imul (code := kX8_rounded) (pc := 2) rfl).trans ?_
  refine (e_iload_n (code := kX8_rounded) (pc := 3) rfl rfl).trans ?_
  refine (e_iadd (code := kX8_rounded) (pc := 4) rfl).trans ?_
  refine (e_iconst (code := kX8_rounded) (pc := 5) rfl).trans ?_
  refine (e_iload_n (code := kX8_rounded) (pc := 6) rfl rfl).trans ?_
  refine (e_imul (code := kX8_rounded) (pc := 7) rfl).trans ?_
  refine (e_idiv (code := kX8_rounded) (pc := 8) rfl).trans ?_
  refine b_gd_c ?_
  exact e_ireturn rfl
theorem n_X8_valueOf {P : aCall} {d : Nat} {σ : aSt} {x0 x1 : Int32} (hd : 1 ≤ d) : a_call a_tab P d 160 [.int x0, .int x1] σ = b_R (a_call a_tab P (d - 1)) kX8_valueOf [] (0, [some (.int x0), some (.int x1)], [], σ) := e_call hd at_X8_valueOf rfl
theorem b_X8_valueOf_0 {C : aCall} {σ : aSt} {x0 x1 : Int32} : b_R C kX8_valueOf [] (0, [some (.int x0), some (.int x1)], [], σ) = (if x1 = 0 then b_R C kX8_valueOf [] (33, [some (.int x0), some (.int x1)], [.int (x0 / (nI 65536))], σ) else (if x1 = (nI 1) then b_R C kX8_valueOf [] (33, [some (.int x0), some (.int x1)], [.int ((x0 / (nI 256)) - (x0 / (nI 256)) / (nI 256) * (nI 256))], σ) else b_R C kX8_valueOf [] (33, [some (.int x0), some (.int x1)], [.int (x0 - x0 / (nI 256) * (nI 256))], σ))) := by
  refine (e_iload_n (code := kX8_valueOf) (pc := 0) rfl rfl).trans ?_
  refine (e_ifne (code := kX8_valueOf) (pc := 1) rfl).trans ?_
  refine b_ite ?_ ?_
  · refine (e_iload_n (code := kX8_valueOf) (pc := 4) rfl rfl).trans ?_
    refine (e_ldcI (code := kX8_valueOf) (pc := 5) rfl).trans ?_
    refine (e_idiv (code := kX8_valueOf) (pc := 7) rfl).trans ((b_gd_t (by decide)).trans ?_)
    refine (e_goto (code := kX8_valueOf) (pc := 8) rfl).trans ?_
    rfl
  · refine (e_iload_n (code := kX8_valueOf) (pc := 11) rfl rfl).trans ?_
    refine (e_iconst (code := kX8_valueOf) (pc := 12) rfl).trans ?_
    refine (e_icne (code := kX8_valueOf) (pc := 13) rfl).trans ?_
    refine b_ite ?_ ?_
    · refine (e_iload_n (code := kX8_valueOf) (pc := 16) rfl rfl).trans ?_
      refine (e_sipush (code := kX8_valueOf) (pc := 17) rfl).trans ?_
      refine (e_idiv (code := kX8_valueOf) (pc := 20) rfl).trans ((b_gd_t (by decide)).trans ?_)
      refine (e_sipush (code := kX8_valueOf) (pc := 21) rfl).trans ?_
      refine (e_irem (code := kX8_valueOf) (pc := 24) rfl).trans ((b_gd_t (by decide)).trans ?_)
      refine (e_goto (code := kX8_valueOf) (pc := 25) rfl).trans ?_
      rfl
    · refine (e_iload_n (code := kX8_valueOf) (pc := 28) rfl rfl).trans ?_
      refine (e_sipush (code := kX8_valueOf) (pc := 29) rfl).trans ?_
      refine (e_irem (code := kX8_valueOf) (pc := 32) rfl).trans ((b_gd_t (by decide)).trans ?_)
      rfl
theorem b_X8_valueOf_33 {C : aCall} {σ : aSt} {x0 x1 y0 : Int32} : b_R C kX8_valueOf [] (33, [some (.int x0), some (.int x1)], [.int y0], σ) = some (.inl (some (.int y0)), σ) := by
  exact e_ireturn rfl
theorem n_X8_square {P : aCall} {d : Nat} {σ : aSt} {x0 : Int32} (hd : 1 ≤ d) : a_call a_tab P d 161 [.int x0] σ = b_R (a_call a_tab P (d - 1)) kX8_square [] (0, [some (.int x0)], [], σ) := e_call hd at_X8_square rfl
theorem b_X8_square_0 {C : aCall} {σ : aSt} {x0 : Int32} : b_R C kX8_square [] (0, [some (.int x0)], [], σ) = some (.inl (some (.int (x0 * x0))), σ) := by
  refine (e_iload_n (code := kX8_square) (pc := 0) rfl rfl).trans ?_
  refine (e_iload_n (code := kX8_square) (pc := 1) rfl rfl).trans ?_
  refine (e_imul (code := kX8_square) (pc := 2) rfl).trans ?_
  exact e_ireturn rfl
theorem n_X8_far {P : aCall} {d : Nat} {σ : aSt} {x0 x1 : Int32} (hd : 1 ≤ d) : a_call a_tab P d 162 [.int x0, .int x1] σ = b_R (a_call a_tab P (d - 1)) kX8_far [] (0, [some (.int x0), some (.int x1), none], [], σ) := e_call hd at_X8_far rfl
theorem b_X8_far_0 {C : aCall} {σ : aSt} {x0 x1 : Int32} : b_R C kX8_far [] (0, [some (.int x0), some (.int x1), none], [], σ) = b_G C kX8_far [] 3 6 [some (.int x0), some (.int x1), none] [.int (nI 2)] (C 160 [.int x0, .int (nI 0)] σ) := by
  refine (e_iconst (code := kX8_far) (pc := 0) rfl).trans ?_
  refine (e_iload_n (code := kX8_far) (pc := 1) rfl rfl).trans ?_
  refine (e_iconst (code := kX8_far) (pc := 2) rfl).trans ?_
  exact (e_callS (code := kX8_far) (pc := 3) (len := 3) (k := 160) (n := 2) (as := [.int x0, .int (nI 0)]) (st0 := [.int (nI 2)]) rfl rfl rfl rfl)
theorem b_X8_far_6 {C : aCall} {σ : aSt} {x0 x1 y0 y1 : Int32} : b_R C kX8_far [] (6, [some (.int x0), some (.int x1), none], [.int y0, .int y1], σ) = b_G C kX8_far [] 8 11 [some (.int x0), some (.int x1), none] [.int y0, .int y1] (C 160 [.int x1, .int (nI 0)] σ) := by
  refine (e_iload_n (code := kX8_far) (pc := 6) rfl rfl).trans ?_
  refine (e_iconst (code := kX8_far) (pc := 7) rfl).trans ?_
  exact (e_callS (code := kX8_far) (pc := 8) (len := 3) (k := 160) (n := 2) (as := [.int x1, .int (nI 0)]) (st0 := [.int y0, .int y1]) rfl rfl rfl rfl)
theorem b_X8_far_11 {C : aCall} {σ : aSt} {x0 x1 y0 y1 y2 : Int32} : b_R C kX8_far [] (11, [some (.int x0), some (.int x1), none], [.int y0, .int y1, .int y2], σ) = b_G C kX8_far [] 12 15 [some (.int x0), some (.int x1), none] [.int y2] (C 161 [.int (y1 - y0)] σ) := by
  refine (e_isub (code := kX8_far) (pc := 11) rfl).trans ?_
  exact (e_callS (code := kX8_far) (pc := 12) (len := 3) (k := 161) (n := 1) (as := [.int (y1 - y0)]) (st0 := [.int y2]) rfl rfl rfl rfl)
theorem b_X8_far_15 {C : aCall} {σ : aSt} {x0 x1 y0 y1 : Int32} : b_R C kX8_far [] (15, [some (.int x0), some (.int x1), none], [.int y0, .int y1], σ) = b_G C kX8_far [] 21 24 [some (.int x0), some (.int x1), some (.int (y1 * y0))] [.int (nI 4), .int (y1 * y0)] (C 160 [.int x0, .int (nI 1)] σ) := by
  refine (e_imul (code := kX8_far) (pc := 15) rfl).trans ?_
  refine (e_istore_n (code := kX8_far) (pc := 16) rfl rfl rfl).trans ?_
  refine (e_iload_n (code := kX8_far) (pc := 17) rfl rfl).trans ?_
  refine (e_iconst (code := kX8_far) (pc := 18) rfl).trans ?_
  refine (e_iload_n (code := kX8_far) (pc := 19) rfl rfl).trans ?_
  refine (e_iconst (code := kX8_far) (pc := 20) rfl).trans ?_
  exact (e_callS (code := kX8_far) (pc := 21) (len := 3) (k := 160) (n := 2) (as := [.int x0, .int (nI 1)]) (st0 := [.int (nI 4), .int (y1 * y0)]) rfl rfl rfl rfl)
theorem b_X8_far_24 {C : aCall} {σ : aSt} {x0 x1 x2 y0 y1 y2 : Int32} : b_R C kX8_far [] (24, [some (.int x0), some (.int x1), some (.int x2)], [.int y0, .int y1, .int y2], σ) = b_G C kX8_far [] 26 29 [some (.int x0), some (.int x1), some (.int x2)] [.int y0, .int y1, .int y2] (C 160 [.int x1, .int (nI 1)] σ) := by
  refine (e_iload_n (code := kX8_far) (pc := 24) rfl rfl).trans ?_
  refine (e_iconst (code := kX8_far) (pc := 25) rfl).trans ?_
  exact (e_callS (code := kX8_far) (pc := 26) (len := 3) (k := 160) (n := 2) (as := [.int x1, .int (nI 1)]) (st0 := [.int y0, .int y1, .int y2]) rfl rfl rfl rfl)
theorem b_X8_far_29 {C : aCall} {σ : aSt} {x0 x1 x2 y0 y1 y2 y3 : Int32} : b_R C kX8_far [] (29, [some (.int x0), some (.int x1), some (.int x2)], [.int y0, .int y1, .int y2, .int y3], σ) = b_G C kX8_far [] 30 33 [some (.int x0), some (.int x1), some (.int x2)] [.int y2, .int y3] (C 161 [.int (y1 - y0)] σ) := by
  refine (e_isub (code := kX8_far) (pc := 29) rfl).trans ?_
  exact (e_callS (code := kX8_far) (pc := 30) (len := 3) (k := 161) (n := 1) (as := [.int (y1 - y0)]) (st0 := [.int y2, .int y3]) rfl rfl rfl rfl)
theorem b_X8_far_33 {C : aCall} {σ : aSt} {x0 x1 x2 y0 y1 y2 : Int32} : b_R C kX8_far [] (33, [some (.int x0), some (.int x1), some (.int x2)], [.int y0, .int y1, .int y2], σ) = b_G C kX8_far [] 40 43 [some (.int x0), some (.int x1), some (.int (y2 + (y1 * y0)))] [.int (nI 3), .int (y2 + (y1 * y0))] (C 160 [.int x0, .int (nI 2)] σ) := by
  refine (e_imul (code := kX8_far) (pc := 33) rfl).trans ?_
  refine (e_iadd (code := kX8_far) (pc := 34) rfl).trans ?_
  refine (e_istore_n (code := kX8_far) (pc := 35) rfl rfl rfl).trans ?_
  refine (e_iload_n (code := kX8_far) (pc := 36) rfl rfl).trans ?_
  refine (e_iconst (code := kX8_far) (pc := 37) rfl).trans ?_
  refine (e_iload_n (code := kX8_far) (pc := 38) rfl rfl).trans ?_
  refine (e_iconst (code := kX8_far) (pc := 39) rfl).trans ?_
  exact (e_callS (code := kX8_far) (pc := 40) (len := 3) (k := 160) (n := 2) (as := [.int x0, .int (nI 2)]) (st0 := [.int (nI 3), .int (y2 + (y1 * y0))]) rfl rfl rfl rfl)
theorem b_X8_far_43 {C : aCall} {σ : aSt} {x0 x1 x2 y0 y1 y2 : Int32} : b_R C kX8_far [] (43, [some (.int x0), some (.int x1), some (.int x2)], [.int y0, .int y1, .int y2], σ) = b_G C kX8_far [] 45 48 [some (.int x0), some (.int x1), some (.int x2)] [.int y0, .int y1, .int y2] (C 160 [.int x1, .int (nI 2)] σ) := by
  refine (e_iload_n (code := kX8_far) (pc := 43) rfl rfl).trans ?_
  refine (e_iconst (code := kX8_far) (pc := 44) rfl).trans ?_
  exact (e_callS (code := kX8_far) (pc := 45) (len := 3) (k := 160) (n := 2) (as := [.int x1, .int (nI 2)]) (st0 := [.int y0, .int y1, .int y2]) rfl rfl rfl rfl)
theorem b_X8_far_48 {C : aCall} {σ : aSt} {x0 x1 x2 y0 y1 y2 y3 : Int32} : b_R C kX8_far [] (48, [some (.int x0), some (.int x1), some (.int x2)], [.int y0, .int y1, .int y2, .int y3], σ) = b_G C kX8_far [] 49 52 [some (.int x0), some (.int x1), some (.int x2)] [.int y2, .int y3] (C 161 [.int (y1 - y0)] σ) := by
  refine (e_isub (code := kX8_far) (pc := 48) rfl).trans ?_
  exact (e_callS (code := kX8_far) (pc := 49) (len := 3) (k := 161) (n := 1) (as := [.int (y1 - y0)]) (st0 := [.int y2, .int y3]) rfl rfl rfl rfl)
theorem b_X8_far_52 {C : aCall} {σ : aSt} {x0 x1 x2 y0 y1 y2 : Int32} : b_R C kX8_far [] (52, [some (.int x0), some (.int x1), some (.int x2)], [.int y0, .int y1, .int y2], σ) = some (.inl (some (.int (y2 + (y1 * y0)))), σ) := by
  refine (e_imul (code := kX8_far) (pc := 52) rfl).trans ?_
  refine (e_iadd (code := kX8_far) (pc := 53) rfl).trans ?_
  exact e_ireturn rfl
theorem n_X8_take {P : aCall} {d : Nat} {σ : aSt} {x1 : Int32} (hd : 1 ≤ d) : a_call a_tab P d 163 [.ref 237, .int x1] σ = b_R (a_call a_tab P (d - 1)) kX8_take [] (0, [some (.ref 237), some (.int x1), none], [], σ) := e_call hd at_X8_take rfl
theorem b_X8_take_0 {C : aCall} {σ : aSt} {x1 : Int32} (h : Sh σ) : b_R C kX8_take [] (0, [some (.ref 237), some (.int x1), none], [], σ) = b_G C kX8_take [] 5 8 [some (.ref 237), some (.int x1), none] [.ref 237] (C 155 [.ref 237, .int x1, .int (nI 9)] σ) := by
  refine (e_aload_n (code := kX8_take) (pc := 0) rfl rfl).trans ?_
  refine (e_aload_n (code := kX8_take) (pc := 1) rfl rfl).trans ?_
  refine (e_iload_n (code := kX8_take) (pc := 2) rfl rfl).trans ?_
  refine (e_bipush (code := kX8_take) (pc := 3) rfl).trans ?_
  exact (e_callV (σ := σ) (code := kX8_take) (pc := 5) (len := 3) (k := 155) (n := 3) (c := 20) (as := [.ref 237, .int x1, .int (nI 9)]) (st0 := [.ref 237]) rfl rfl rfl rfl rfl (sk_237 (σ := σ) h) rfl)
theorem b_X8_take_8 {C : aCall} {σ : aSt} {x1 y0 : Int32} (h : Sh σ) : b_R C kX8_take [] (8, [some (.ref 237), some (.int x1), none], [.int y0, .ref 237], σ) = b_R C kX8_take [] (13, [some (.ref 237), some (.int x1), some (.int (nI 0))], [], (a_setI σ 237 10 y0)) := by
  refine (e_putI (code := kX8_take) (pc := 8) (c := 10) rfl (sk_237 (σ := σ) h) (h_100 rfl)).trans ?_
  refine (e_iconst (code := kX8_take) (pc := 11) (σ := (a_setI σ 237 10 y0)) rfl).trans ?_
  refine (e_istore_n (code := kX8_take) (pc := 12) (σ := (a_setI σ 237 10 y0)) rfl rfl rfl).trans ?_
  rfl
theorem b_X8_take_13 {C : aCall} {σ : aSt} {x1 x2 : Int32} (h : Sh σ) : b_R C kX8_take [] (13, [some (.ref 237), some (.int x1), some (.int x2)], [], σ) = (if x2 < (a_I σ 237 10) then b_G C kX8_take [] 32 35 [some (.ref 237), some (.int x1), some (.int x2)] [.int x2, .ref 242] (C 155 [.ref 237, .int x1, .int ((nI 10) + x2)] σ) else some (.inl none, σ)) := by
  refine (e_iload_n (code := kX8_take) (pc := 13) rfl rfl).trans ?_
  refine (e_aload_n (code := kX8_take) (pc := 14) rfl rfl).trans ?_
  refine (e_getI (code := kX8_take) (pc := 15) (c := 10) rfl (sk_237 (σ := σ) h) rfl).trans ?_
  refine (e_icge (code := kX8_take) (pc := 18) rfl).trans ?_
  refine b_ite ?_ ?_
  · refine (e_aload_n (code := kX8_take) (pc := 21) rfl rfl).trans ?_
    refine (e_getR (code := kX8_take) (pc := 22) (c := 10) rfl (sk_237 (σ := σ) h) (sr_237_8 (σ := σ) h)).trans ?_
    refine (e_iload_n (code := kX8_take) (pc := 25) rfl rfl).trans ?_
    refine (e_aload_n (code := kX8_take) (pc := 26) rfl rfl).trans ?_
    refine (e_iload_n (code := kX8_take) (pc := 27) rfl rfl).trans ?_
    refine (e_bipush (code := kX8_take) (pc := 28) rfl).trans ?_
    refine (e_iload_n (code := kX8_take) (pc := 30) rfl rfl).trans ?_
    refine (e_iadd (code := kX8_take) (pc := 31) rfl).trans ?_
    exact (e_callV (σ := σ) (code := kX8_take) (pc := 32) (len := 3) (k := 155) (n := 3) (c := 20) (as := [.ref 237, .int x1, .int ((nI 10) + x2)]) (st0 := [.int x2, .ref 242]) rfl rfl rfl rfl rfl (sk_237 (σ := σ) h) rfl)
  · exact e_return_ rfl
theorem b_X8_take_35 {C : aCall} {σ : aSt} {x1 x2 y0 y1 : Int32} (h : Sh σ) : b_R C kX8_take [] (35, [some (.ref 237), some (.int x1), some (.int x2)], [.int y0, .int y1, .ref 242], σ) = b_gd (a_in y1 4) (b_G C kX8_take [] 47 50 [some (.ref 237), some (.int x1), some (.int x2)] [.int x2, .ref 243] (C 155 [.ref 237, .int x1, .int ((nI 14) + x2)] (a_setI σ 242 (Int32.toNatClampNeg y1) y0))) := by
  refine (e_iastore (code := kX8_take) (pc := 35) rfl (sk_242 (σ := σ) h) (h_100 rfl) (sl_242 (σ := σ) h)).trans ?_
  refine b_gd_c ?_
  refine (e_aload_n (code := kX8_take) (pc := 36) (σ := (a_setI σ 242 (Int32.toNatClampNeg y1) y0)) rfl rfl).trans ?_
  refine (e_getR (code := kX8_take) (pc := 37) (σ := (a_setI σ 242 (Int32.toNatClampNeg y1) y0)) (c := 10) rfl (sk_237 (σ := σ) h) (sr_237_9 (σ := σ) h)).trans ?_
  refine (e_iload_n (code := kX8_take) (pc := 40) (σ := (a_setI σ 242 (Int32.toNatClampNeg y1) y0)) rfl rfl).trans ?_
  refine (e_aload_n (code := kX8_take) (pc := 41) (σ := (a_setI σ 242 (Int32.toNatClampNeg y1) y0)) rfl rfl).trans ?_
  refine (e_iload_n (code := kX8_take) (pc := 42) (σ := (a_setI σ 242 (Int32.toNatClampNeg y1) y0)) rfl rfl).trans ?_
  refine (e_bipush (code := kX8_take) (pc := 43) (σ := (a_setI σ 242 (Int32.toNatClampNeg y1) y0)) rfl).trans ?_
  refine (e_iload_n (code := kX8_take) (pc := 45) (σ := (a_setI σ 242 (Int32.toNatClampNeg y1) y0)) rfl rfl).trans ?_
  refine (e_iadd (code := kX8_take) (pc := 46) (σ := (a_setI σ 242 (Int32.toNatClampNeg y1) y0)) rfl).trans ?_
  exact (e_callV (σ := (a_setI σ 242 (Int32.toNatClampNeg y1) y0)) (code := kX8_take) (pc := 47) (len := 3) (k := 155) (n := 3) (c := 20) (as := [.ref 237, .int x1, .int ((nI 14) + x2)]) (st0 := [.int x2, .ref 243]) rfl rfl rfl rfl rfl (sk_237 (σ := σ) h) rfl)
theorem b_X8_take_50 {C : aCall} {σ : aSt} {x1 x2 y0 y1 : Int32} (h : Sh σ) : b_R C kX8_take [] (50, [some (.ref 237), some (.int x1), some (.int x2)], [.int y0, .int y1, .ref 243], σ) = b_gd (a_in y1 4) (b_R C kX8_take [] (13, [some (.ref 237), some (.int x1), some (.int (x2 + nI 1))], [], (a_setI σ 243 (Int32.toNatClampNeg y1) y0))) := by
  refine (e_iastore (code := kX8_take) (pc := 50) rfl (sk_243 (σ := σ) h) (h_100 rfl) (sl_243 (σ := σ) h)).trans ?_
  refine b_gd_c ?_
  refine (e_iinc (code := kX8_take) (pc := 51) (σ := (a_setI σ 243 (Int32.toNatClampNeg y1) y0)) rfl rfl rfl rfl).trans ?_
  refine (e_goto (code := kX8_take) (pc := 54) (σ := (a_setI σ 243 (Int32.toNatClampNeg y1) y0)) rfl).trans ?_
  rfl
theorem n_X8_allParts {P : aCall} {d : Nat} {σ : aSt} (hd : 1 ≤ d) : a_call a_tab P d 164 [.ref 237] σ = b_R (a_call a_tab P (d - 1)) kX8_allParts [] (0, [some (.ref 237), none, none], [], σ) := e_call hd at_X8_allParts rfl
theorem b_X8_allParts_0 {C : aCall} {σ : aSt} : b_R C kX8_allParts [] (0, [some (.ref 237), none, none], [], σ) = b_R C kX8_allParts [] (4, [some (.ref 237), some (.int (nI 0)), some (.int (nI 0))], [], σ) := by
  refine (e_iconst (code := kX8_allParts) (pc := 0) rfl).trans ?_
  refine (e_istore_n (code := kX8_allParts) (pc := 1) rfl rfl rfl).trans ?_
  refine (e_iconst (code := kX8_allParts) (pc := 2) rfl).trans ?_
  refine (e_istore_n (code := kX8_allParts) (pc := 3) rfl rfl rfl).trans ?_
  rfl
theorem b_X8_allParts_4 {C : aCall} {σ : aSt} {x1 x2 : Int32} (h : Sh σ) : b_R C kX8_allParts [] (4, [some (.ref 237), some (.int x1), some (.int x2)], [], σ) = (if x2 < (a_I σ 237 10) then b_gd (a_in x2 4) (b_R C kX8_allParts [] (4, [some (.ref 237), some (.int (x1 + (a_I σ 243 (Int32.toNatClampNeg x2)))), some (.int (x2 + nI 1))], [], σ)) else some (.inl (some (.int x1)), σ)) := by
  refine (e_iload_n (code := kX8_allParts) (pc := 4) rfl rfl).trans ?_
  refine (e_aload_n (code := kX8_allParts) (pc := 5) rfl rfl).trans ?_
  refine (e_getI (code := kX8_allParts) (pc := 6) (c := 10) rfl (sk_237 (σ := σ) h) rfl).trans ?_
  refine (e_icge (code := kX8_allParts) (pc := 9) rfl).trans ?_
  refine b_ite ?_ ?_
  · refine (e_iload_n (code := kX8_allParts) (pc := 12) rfl rfl).trans ?_
    refine (e_aload_n (code := kX8_allParts) (pc := 13) rfl rfl).trans ?_
    refine (e_getR (code := kX8_allParts) (pc := 14) (c := 10) rfl (sk_237 (σ := σ) h) (sr_237_9 (σ := σ) h)).trans ?_
    refine (e_iload_n (code := kX8_allParts) (pc := 17) rfl rfl).trans ?_
    refine (e_iaload (code := kX8_allParts) (pc := 18) rfl (.inl (sk_243 (σ := σ) h)) (sl_243 (σ := σ) h)).trans ?_
    refine b_gd_c ?_
    refine (e_iadd (code := kX8_allParts) (pc := 19) rfl).trans ?_
    refine (e_istore_n (code := kX8_allParts) (pc := 20) rfl rfl rfl).trans ?_
    refine (e_iinc (code := kX8_allParts) (pc := 21) rfl rfl rfl rfl).trans ?_
    refine (e_goto (code := kX8_allParts) (pc := 24) rfl).trans ?_
    rfl
  · refine (e_iload_n (code := kX8_allParts) (pc := 27) rfl rfl).trans ?_
    exact e_ireturn rfl
theorem n_X8_valueHere {P : aCall} {d : Nat} {σ : aSt} {x1 : Int32} (hd : 1 ≤ d) : a_call a_tab P d 165 [.ref 237, .int x1] σ = b_R (a_call a_tab P (d - 1)) kX8_valueHere [] (0, [some (.ref 237), some (.int x1), none, none], [], σ) := e_call hd at_X8_valueHere rfl
theorem b_X8_valueHere_0 {C : aCall} {σ : aSt} {x1 : Int32} : b_R C kX8_valueHere [] (0, [some (.ref 237), some (.int x1), none, none], [], σ) = b_R C kX8_valueHere [] (4, [some (.ref 237), some (.int x1), some (.int (nI 0)), some (.int (nI 0))], [], σ) := by
  refine (e_iconst (code := kX8_valueHere) (pc := 0) rfl).trans ?_
  refine (e_istore_n (code := kX8_valueHere) (pc := 1) rfl rfl rfl).trans ?_
  refine (e_iconst (code := kX8_valueHere) (pc := 2) rfl).trans ?_
  refine (e_istore_n (code := kX8_valueHere) (pc := 3) rfl rfl rfl).trans ?_
  rfl
theorem b_X8_valueHere_4 {C : aCall} {σ : aSt} {x1 x2 x3 : Int32} (h : Sh σ) : b_R C kX8_valueHere [] (4, [some (.ref 237), some (.int x1), some (.int x2), some (.int x3)], [], σ) = (if x3 < (a_I σ 237 10) then b_gd (a_in x3 4) (b_gd (a_in x3 4) (b_G C kX8_valueHere [] 27 30 [some (.ref 237), some (.int x1), some (.int x2), some (.int x3)] [.int (a_I σ 243 (Int32.toNatClampNeg x3)), .int x2] (C 153 [.ref 237, .int (a_I σ 242 (Int32.toNatClampNeg x3)), .int x1] σ))) else b_G C kX8_valueHere [] 41 44 [some (.ref 237), some (.int x1), some (.int x2), some (.int x3)] [.int x2] (C 164 [.ref 237] σ)) := by
  refine (e_iload_n (code := kX8_valueHere) (pc := 4) rfl rfl).trans ?_
  refine (e_aload_n (code := kX8_valueHere) (pc := 5) rfl rfl).trans ?_
  refine (e_getI (code := kX8_valueHere) (pc := 6) (c := 10) rfl (sk_237 (σ := σ) h) rfl).trans ?_
  refine (e_icge (code := kX8_valueHere) (pc := 9) rfl).trans ?_
  refine b_ite ?_ ?_
  · refine (e_iload_n (code := kX8_valueHere) (pc := 12) rfl rfl).trans ?_
    refine (e_aload_n (code := kX8_valueHere) (pc := 13) rfl rfl).trans ?_
    refine (e_getR (code := kX8_valueHere) (pc := 14) (c := 10) rfl (sk_237 (σ := σ) h) (sr_237_9 (σ := σ) h)).trans ?_
    refine (e_iload_n (code := kX8_valueHere) (pc := 17) rfl rfl).trans ?_
    refine (e_iaload (code := kX8_valueHere) (pc := 18) rfl (.inl (sk_243 (σ := σ) h)) (sl_243 (σ := σ) h)).trans ?_
    refine b_gd_c ?_
    refine (e_aload_n (code := kX8_valueHere) (pc := 19) rfl rfl).trans ?_
    refine (e_aload_n (code := kX8_valueHere) (pc := 20) rfl rfl).trans ?_
    refine (e_getR (code := kX8_valueHere) (pc := 21) (c := 10) rfl (sk_237 (σ := σ) h) (sr_237_8 (σ := σ) h)).trans ?_
    refine (e_iload_n (code := kX8_valueHere) (pc := 24) rfl rfl).trans ?_
    refine (e_iaload (code := kX8_valueHere) (pc := 25) rfl (.inl (sk_242 (σ := σ) h)) (sl_242 (σ := σ) h)).trans ?_
    refine b_gd_c ?_
    refine (e_iload_n (code := kX8_valueHere) (pc := 26) rfl rfl).trans ?_
    exact (e_callV (σ := σ) (code := kX8_valueHere) (pc := 27) (len := 3) (k := 153) (n := 3) (c := 20) (as := [.ref 237, .int (a_I σ 242 (Int32.toNatClampNeg x3)), .int x1]) (st0 := [.int (a_I σ 243 (Int32.toNatClampNeg x3)), .int x2]) rfl rfl rfl rfl rfl (sk_237 (σ := σ) h) rfl)
  · refine (e_iload_n (code := kX8_valueHere) (pc := 39) rfl rfl).trans ?_
    refine (e_aload_n (code := kX8_valueHere) (pc := 40) rfl rfl).trans ?_
    exact (e_callV (σ := σ) (code := kX8_valueHere) (pc := 41) (len := 3) (k := 164) (n := 1) (c := 20) (as := [.ref 237]) (st0 := [.int x2]) rfl rfl rfl rfl rfl (sk_237 (σ := σ) h) rfl)
theorem b_X8_valueHere_30 {C : aCall} {σ : aSt} {x1 x2 x3 y0 y1 y2 : Int32} : b_R C kX8_valueHere [] (30, [some (.ref 237), some (.int x1), some (.int x2), some (.int x3)], [.int y0, .int y1, .int y2], σ) = b_R C kX8_valueHere [] (4, [some (.ref 237), some (.int x1), some (.int (y2 + (y1 * y0))), some (.int (x3 + nI 1))], [], σ) := by
  refine (e_imul (code := kX8_valueHere) (pc := 30) rfl).trans ?_
  refine (e_iadd (code := kX8_valueHere) (pc := 31) rfl).trans ?_
  refine (e_istore_n (code := kX8_valueHere) (pc := 32) rfl rfl rfl).trans ?_
  refine (e_iinc (code := kX8_valueHere) (pc := 33) rfl rfl rfl rfl).trans ?_
  refine (e_goto (code := kX8_valueHere) (pc := 36) rfl).trans ?_
  rfl
theorem b_X8_valueHere_44 {C : aCall} {σ : aSt} {x1 x2 x3 y0 y1 : Int32} : b_R C kX8_valueHere [] (44, [some (.ref 237), some (.int x1), some (.int x2), some (.int x3)], [.int y0, .int y1], σ) = b_G C kX8_valueHere [] 44 47 [some (.ref 237), some (.int x1), some (.int x2), some (.int x3)] [] (C 159 [.int y1, .int y0] σ) := by
  exact (e_callS (code := kX8_valueHere) (pc := 44) (len := 3) (k := 159) (n := 2) (as := [.int y1, .int y0]) (st0 := []) rfl rfl rfl rfl)
theorem b_X8_valueHere_47 {C : aCall} {σ : aSt} {x1 x2 x3 y0 : Int32} : b_R C kX8_valueHere [] (47, [some (.ref 237), some (.int x1), some (.int x2), some (.int x3)], [.int y0], σ) = some (.inl (some (.int y0)), σ) := by
  exact e_ireturn rfl
theorem n_X8_colourHere {P : aCall} {d : Nat} {σ : aSt} (hd : 1 ≤ d) : a_call a_tab P d 166 [.ref 237] σ = b_R (a_call a_tab P (d - 1)) kX8_colourHere [] (0, [some (.ref 237), none, none], [], σ) := e_call hd at_X8_colourHere rfl
theorem b_X8_colourHere_0 {C : aCall} {σ : aSt} (h : Sh σ) : b_R C kX8_colourHere [] (0, [some (.ref 237), none, none], [], σ) = b_G C kX8_colourHere [] 2 5 [some (.ref 237), none, none] [] (C 165 [.ref 237, .int (nI 0)] σ) := by
  refine (e_aload_n (code := kX8_colourHere) (pc := 0) rfl rfl).trans ?_
  refine (e_iconst (code := kX8_colourHere) (pc := 1) rfl).trans ?_
  exact (e_callV (σ := σ) (code := kX8_colourHere) (pc := 2) (len := 3) (k := 165) (n := 2) (c := 20) (as := [.ref 237, .int (nI 0)]) (st0 := []) rfl rfl rfl rfl rfl (sk_237 (σ := σ) h) rfl)
theorem b_X8_colourHere_5 {C : aCall} {σ : aSt} {y0 : Int32} (h : Sh σ) : b_R C kX8_colourHere [] (5, [some (.ref 237), none, none], [.int y0], σ) = b_G C kX8_colourHere [] 8 11 [some (.ref 237), some (.int y0), none] [] (C 165 [.ref 237, .int (nI 1)] σ) := by
  refine (e_istore_n (code := kX8_colourHere) (pc := 5) rfl rfl rfl).trans ?_
  refine (e_aload_n (code := kX8_colourHere) (pc := 6) rfl rfl).trans ?_
  refine (e_iconst (code := kX8_colourHere) (pc := 7) rfl).trans ?_
  exact (e_callV (σ := σ) (code := kX8_colourHere) (pc := 8) (len := 3) (k := 165) (n := 2) (c := 20) (as := [.ref 237, .int (nI 1)]) (st0 := []) rfl rfl rfl rfl rfl (sk_237 (σ := σ) h) rfl)
theorem b_X8_colourHere_11 {C : aCall} {σ : aSt} {x1 y0 : Int32} (h : Sh σ) : b_R C kX8_colourHere [] (11, [some (.ref 237), some (.int x1), none], [.int y0], σ) = b_G C kX8_colourHere [] 24 27 [some (.ref 237), some (.int x1), some (.int y0)] [.int (((nI 65536) * x1) + ((nI 256) * y0))] (C 165 [.ref 237, .int (nI 2)] σ) := by
  refine (e_istore_n (code := kX8_colourHere) (pc := 11) rfl rfl rfl).trans ?_
  refine (e_ldcI (code := kX8_colourHere) (pc := 12) rfl).trans ?_
  refine (e_iload_n (code := kX8_colourHere) (pc := 14) rfl rfl).trans ?_
  refine (e_imul (code := kX8_colourHere) (pc := 15) rfl).trans ?_
  refine (e_sipush (code := kX8_colourHere) (pc := 16) rfl).trans ?_
  refine (e_iload_n (code := kX8_colourHere) (pc := 19) rfl rfl).trans ?_
  refine (e_imul (code := kX8_colourHere) (pc := 20) rfl).trans ?_
  refine (e_iadd (code := kX8_colourHere) (pc := 21) rfl).trans ?_
  refine (e_aload_n (code := kX8_colourHere) (pc := 22) rfl rfl).trans ?_
  refine (e_iconst (code := kX8_colourHere) (pc := 23) rfl).trans ?_
  exact (e_callV (σ := σ) (code := kX8_colourHere) (pc := 24) (len := 3) (k := 165) (n := 2) (c := 20) (as := [.ref 237, .int (nI 2)]) (st0 := [.int (((nI 65536) * x1) + ((nI 256) * y0))]) rfl rfl rfl rfl rfl (sk_237 (σ := σ) h) rfl)
theorem b_X8_colourHere_27 {C : aCall} {σ : aSt} {x1 x2 y0 y1 : Int32} : b_R C kX8_colourHere [] (27, [some (.ref 237), some (.int x1), some (.int x2)], [.int y0, .int y1], σ) = some (.inl (some (.int (y1 + y0))), σ) := by
  refine (e_iadd (code := kX8_colourHere) (pc := 27) rfl).trans ?_
  exact e_ireturn rfl
theorem n_X8_colourOf {P : aCall} {d : Nat} {σ : aSt} {x1 : Int32} (hd : 1 ≤ d) : a_call a_tab P d 167 [.ref 237, .int x1] σ = b_R (a_call a_tab P (d - 1)) kX8_colourOf [] (0, [some (.ref 237), some (.int x1)], [], σ) := e_call hd at_X8_colourOf rfl
theorem b_X8_colourOf_0 {C : aCall} {σ : aSt} {x1 : Int32} (h : Sh σ) : b_R C kX8_colourOf [] (0, [some (.ref 237), some (.int x1)], [], σ) = b_G C kX8_colourOf [] 2 5 [some (.ref 237), some (.int x1)] [] (C 163 [.ref 237, .int x1] σ) := by
  refine (e_aload_n (code := kX8_colourOf) (pc := 0) rfl rfl).trans ?_
  refine (e_iload_n (code := kX8_colourOf) (pc := 1) rfl rfl).trans ?_
  exact (e_callV (σ := σ) (code := kX8_colourOf) (pc := 2) (len := 3) (k := 163) (n := 2) (c := 20) (as := [.ref 237, .int x1]) (st0 := []) rfl rfl rfl rfl rfl (sk_237 (σ := σ) h) rfl)
theorem b_X8_colourOf_5 {C : aCall} {σ : aSt} {x1 : Int32} (h : Sh σ) : b_R C kX8_colourOf [] (5, [some (.ref 237), some (.int x1)], [], σ) = b_G C kX8_colourOf [] 6 9 [some (.ref 237), some (.int x1)] [] (C 166 [.ref 237] σ) := by
  refine (e_aload_n (code := kX8_colourOf) (pc := 5) rfl rfl).trans ?_
  exact (e_callV (σ := σ) (code := kX8_colourOf) (pc := 6) (len := 3) (k := 166) (n := 1) (c := 20) (as := [.ref 237]) (st0 := []) rfl rfl rfl rfl rfl (sk_237 (σ := σ) h) rfl)
theorem b_X8_colourOf_9 {C : aCall} {σ : aSt} {x1 y0 : Int32} : b_R C kX8_colourOf [] (9, [some (.ref 237), some (.int x1)], [.int y0], σ) = some (.inl (some (.int y0)), σ) := by
  exact e_ireturn rfl
theorem n_X8_uses {P : aCall} {d : Nat} {σ : aSt} {x1 x2 : Int32} (hd : 1 ≤ d) : a_call a_tab P d 168 [.ref 237, .int x1, .int x2] σ = b_R (a_call a_tab P (d - 1)) kX8_uses [] (0, [some (.ref 237), some (.int x1), some (.int x2), none, none], [], σ) := e_call hd at_X8_uses rfl
theorem b_X8_uses_0 {C : aCall} {σ : aSt} {x1 x2 : Int32} : b_R C kX8_uses [] (0, [some (.ref 237), some (.int x1), some (.int x2), none, none], [], σ) = b_R C kX8_uses [] (5, [some (.ref 237), some (.int x1), some (.int x2), some (.int (nI 0)), some (.int (nI 0))], [], σ) := by
  refine (e_iconst (code := kX8_uses) (pc := 0) rfl).trans ?_
  refine (e_istore_n (code := kX8_uses) (pc := 1) rfl rfl rfl).trans ?_
  refine (e_iconst (code := kX8_uses) (pc := 2) rfl).trans ?_
  refine (e_istore (code := kX8_uses) (pc := 3) rfl rfl rfl).trans ?_
  rfl
theorem b_X8_uses_5 {C : aCall} {σ : aSt} {x1 x2 x3 x4 : Int32} (h : Sh σ) : b_R C kX8_uses [] (5, [some (.ref 237), some (.int x1), some (.int x2), some (.int x3), some (.int x4)], [], σ) = b_G C kX8_uses [] 11 14 [some (.ref 237), some (.int x1), some (.int x2), some (.int x3), some (.int x4)] [.int x4] (C 155 [.ref 237, .int x1, .int (nI 9)] σ) := by
  refine (e_iload (code := kX8_uses) (pc := 5) rfl rfl).trans ?_
  refine (e_aload_n (code := kX8_uses) (pc := 7) rfl rfl).trans ?_
  refine (e_iload_n (code := kX8_uses) (pc := 8) rfl rfl).trans ?_
  refine (e_bipush (code := kX8_uses) (pc := 9) rfl).trans ?_
  exact (e_callV (σ := σ) (code := kX8_uses) (pc := 11) (len := 3) (k := 155) (n := 3) (c := 20) (as := [.ref 237, .int x1, .int (nI 9)]) (st0 := [.int x4]) rfl rfl rfl rfl rfl (sk_237 (σ := σ) h) rfl)
theorem b_X8_uses_14 {C : aCall} {σ : aSt} {x1 x2 x3 x4 y0 y1 : Int32} (h : Sh σ) : b_R C kX8_uses [] (14, [some (.ref 237), some (.int x1), some (.int x2), some (.int x3), some (.int x4)], [.int y0, .int y1], σ) = (if y1 < y0 then (if x3 = 0 then b_G C kX8_uses [] 28 31 [some (.ref 237), some (.int x1), some (.int x2), some (.int x3), some (.int x4)] [] (C 155 [.ref 237, .int x1, .int ((nI 10) + x4)] σ) else b_R C kX8_uses [] (35, [some (.ref 237), some (.int x1), some (.int x2), some (.int x3), some (.int x4)], [], σ)) else b_gd (x3 = 0 ∨ x3 = 1) (some (.inl (some (.int x3)), σ))) := by
  refine (e_icge (code := kX8_uses) (pc := 14) rfl).trans ?_
  refine b_ite ?_ ?_
  · refine (e_iload_n (code := kX8_uses) (pc := 17) rfl rfl).trans ?_
    refine (e_ifne (code := kX8_uses) (pc := 18) rfl).trans ?_
    refine b_ite ?_ ?_
    · refine (e_aload_n (code := kX8_uses) (pc := 21) rfl rfl).trans ?_
      refine (e_iload_n (code := kX8_uses) (pc := 22) rfl rfl).trans ?_
      refine (e_bipush (code := kX8_uses) (pc := 23) rfl).trans ?_
      refine (e_iload (code := kX8_uses) (pc := 25) rfl rfl).trans ?_
      refine (e_iadd (code := kX8_uses) (pc := 27) rfl).trans ?_
      exact (e_callV (σ := σ) (code := kX8_uses) (pc := 28) (len := 3) (k := 155) (n := 3) (c := 20) (as := [.ref 237, .int x1, .int ((nI 10) + x4)]) (st0 := []) rfl rfl rfl rfl rfl (sk_237 (σ := σ) h) rfl)
    · rfl
  · refine (e_iload_n (code := kX8_uses) (pc := 47) rfl rfl).trans ?_
    exact e_zreturn rfl
theorem b_X8_uses_31 {C : aCall} {σ : aSt} {x1 x2 x3 x4 y0 : Int32} : b_R C kX8_uses [] (31, [some (.ref 237), some (.int x1), some (.int x2), some (.int x3), some (.int x4)], [.int y0], σ) = (if y0 = x2 then b_R C kX8_uses [] (35, [some (.ref 237), some (.int x1), some (.int x2), some (.int x3), some (.int x4)], [], σ) else b_R C kX8_uses [] (40, [some (.ref 237), some (.int x1), some (.int x2), some (.int x3), some (.int x4)], [.int (nI 0)], σ)) := by
  refine (e_iload_n (code := kX8_uses) (pc := 31) rfl rfl).trans ?_
  refine (e_icne (code := kX8_uses) (pc := 32) rfl).trans ?_
  refine b_ite ?_ ?_
  · rfl
  · refine (e_iconst (code := kX8_uses) (pc := 39) rfl).trans ?_
    rfl
theorem b_X8_uses_35 {C : aCall} {σ : aSt} {x1 x2 x3 x4 : Int32} : b_R C kX8_uses [] (35, [some (.ref 237), some (.int x1), some (.int x2), some (.int x3), some (.int x4)], [], σ) = b_R C kX8_uses [] (40, [some (.ref 237), some (.int x1), some (.int x2), some (.int x3), some (.int x4)], [.int (nI 1)], σ) := by
  refine (e_iconst (code := kX8_uses) (pc := 35) rfl).trans ?_
  refine (e_goto (code := kX8_uses) (pc := 36) rfl).trans ?_
  rfl
theorem b_X8_uses_40 {C : aCall} {σ : aSt} {x1 x2 x3 x4 y0 : Int32} : b_R C kX8_uses [] (40, [some (.ref 237), some (.int x1), some (.int x2), some (.int x3), some (.int x4)], [.int y0], σ) = b_R C kX8_uses [] (5, [some (.ref 237), some (.int x1), some (.int x2), some (.int y0), some (.int (x4 + nI 1))], [], σ) := by
  refine (e_istore_n (code := kX8_uses) (pc := 40) rfl rfl rfl).trans ?_
  refine (e_iinc (code := kX8_uses) (pc := 41) rfl rfl rfl rfl).trans ?_
  refine (e_goto (code := kX8_uses) (pc := 44) rfl).trans ?_
  rfl
theorem n_X8_isBroken {P : aCall} {d : Nat} {σ : aSt} {x1 : Int32} (hd : 1 ≤ d) : a_call a_tab P d 169 [.ref 237, .int x1] σ = b_R (a_call a_tab P (d - 1)) kX8_isBroken [] (0, [some (.ref 237), some (.int x1), none, none], [], σ) := e_call hd at_X8_isBroken rfl
theorem b_X8_isBroken_0 {C : aCall} {σ : aSt} {x1 : Int32} : b_R C kX8_isBroken [] (0, [some (.ref 237), some (.int x1), none, none], [], σ) = b_R C kX8_isBroken [] (4, [some (.ref 237), some (.int x1), some (.int (nI 0)), some (.int (nI 0))], [], σ) := by
  refine (e_iconst (code := kX8_isBroken) (pc := 0) rfl).trans ?_
  refine (e_istore_n (code := kX8_isBroken) (pc := 1) rfl rfl rfl).trans ?_
  refine (e_iconst (code := kX8_isBroken) (pc := 2) rfl).trans ?_
  refine (e_istore_n (code := kX8_isBroken) (pc := 3) rfl rfl rfl).trans ?_
  rfl
theorem b_X8_isBroken_4 {C : aCall} {σ : aSt} {x1 x2 x3 : Int32} (h : Sh σ) : b_R C kX8_isBroken [] (4, [some (.ref 237), some (.int x1), some (.int x2), some (.int x3)], [], σ) = b_G C kX8_isBroken [] 9 12 [some (.ref 237), some (.int x1), some (.int x2), some (.int x3)] [.int x3] (C 155 [.ref 237, .int x1, .int (nI 9)] σ) := by
  refine (e_iload_n (code := kX8_isBroken) (pc := 4) rfl rfl).trans ?_
  refine (e_aload_n (code := kX8_isBroken) (pc := 5) rfl rfl).trans ?_
  refine (e_iload_n (code := kX8_isBroken) (pc := 6) rfl rfl).trans ?_
  refine (e_bipush (code := kX8_isBroken) (pc := 7) rfl).trans ?_
  exact (e_callV (σ := σ) (code := kX8_isBroken) (pc := 9) (len := 3) (k := 155) (n := 3) (c := 20) (as := [.ref 237, .int x1, .int (nI 9)]) (st0 := [.int x3]) rfl rfl rfl rfl rfl (sk_237 (σ := σ) h) rfl)
theorem b_X8_isBroken_12 {C : aCall} {σ : aSt} {x1 x2 x3 y0 y1 : Int32} (h : Sh σ) : b_R C kX8_isBroken [] (12, [some (.ref 237), some (.int x1), some (.int x2), some (.int x3)], [.int y0, .int y1], σ) = (if y1 < y0 then (if x2 = 0 then b_G C kX8_isBroken [] 26 29 [some (.ref 237), some (.int x1), some (.int x2), some (.int x3)] [.ref 237] (C 155 [.ref 237, .int x1, .int ((nI 10) + x3)] σ) else b_R C kX8_isBroken [] (36, [some (.ref 237), some (.int x1), some (.int x2), some (.int x3)], [], σ)) else b_gd (x2 = 0 ∨ x2 = 1) (some (.inl (some (.int x2)), σ))) := by
  refine (e_icge (code := kX8_isBroken) (pc := 12) rfl).trans ?_
  refine b_ite ?_ ?_
  · refine (e_iload_n (code := kX8_isBroken) (pc := 15) rfl rfl).trans ?_
    refine (e_ifne (code := kX8_isBroken) (pc := 16) rfl).trans ?_
    refine b_ite ?_ ?_
    · refine (e_aload_n (code := kX8_isBroken) (pc := 19) rfl rfl).trans ?_
      refine (e_aload_n (code := kX8_isBroken) (pc := 20) rfl rfl).trans ?_
      refine (e_iload_n (code := kX8_isBroken) (pc := 21) rfl rfl).trans ?_
      refine (e_bipush (code := kX8_isBroken) (pc := 22) rfl).trans ?_
      refine (e_iload_n (code := kX8_isBroken) (pc := 24) rfl rfl).trans ?_
      refine (e_iadd (code := kX8_isBroken) (pc := 25) rfl).trans ?_
      exact (e_callV (σ := σ) (code := kX8_isBroken) (pc := 26) (len := 3) (k := 155) (n := 3) (c := 20) (as := [.ref 237, .int x1, .int ((nI 10) + x3)]) (st0 := [.ref 237]) rfl rfl rfl rfl rfl (sk_237 (σ := σ) h) rfl)
    · rfl
  · refine (e_iload_n (code := kX8_isBroken) (pc := 48) rfl rfl).trans ?_
    exact e_zreturn rfl
theorem b_X8_isBroken_29 {C : aCall} {σ : aSt} {x1 x2 x3 y0 : Int32} (h : Sh σ) : b_R C kX8_isBroken [] (29, [some (.ref 237), some (.int x1), some (.int x2), some (.int x3)], [.int y0, .ref 237], σ) = b_G C kX8_isBroken [] 30 33 [some (.ref 237), some (.int x1), some (.int x2), some (.int x3)] [] (C 153 [.ref 237, .int y0, .int (nI 4)] σ) := by
  refine (e_iconst (code := kX8_isBroken) (pc := 29) rfl).trans ?_
  exact (e_callV (σ := σ) (code := kX8_isBroken) (pc := 30) (len := 3) (k := 153) (n := 3) (c := 20) (as := [.ref 237, .int y0, .int (nI 4)]) (st0 := []) rfl rfl rfl rfl rfl (sk_237 (σ := σ) h) rfl)
theorem b_X8_isBroken_33 {C : aCall} {σ : aSt} {x1 x2 x3 y0 : Int32} : b_R C kX8_isBroken [] (33, [some (.ref 237), some (.int x1), some (.int x2), some (.int x3)], [.int y0], σ) = (if y0 = 0 then b_R C kX8_isBroken [] (36, [some (.ref 237), some (.int x1), some (.int x2), some (.int x3)], [], σ) else b_R C kX8_isBroken [] (41, [some (.ref 237), some (.int x1), some (.int x2), some (.int x3)], [.int (nI 0)], σ)) := by
  refine (e_ifne (code := kX8_isBroken) (pc := 33) rfl).trans ?_
  refine b_ite ?_ ?_
  · rfl
  · refine (e_iconst (code := kX8_isBroken) (pc := 40) rfl).trans ?_
    rfl
theorem b_X8_isBroken_36 {C : aCall} {σ : aSt} {x1 x2 x3 : Int32} : b_R C kX8_isBroken [] (36, [some (.ref 237), some (.int x1), some (.int x2), some (.int x3)], [], σ) = b_R C kX8_isBroken [] (41, [some (.ref 237), some (.int x1), some (.int x2), some (.int x3)], [.int (nI 1)], σ) := by
  refine (e_iconst (code := kX8_isBroken) (pc := 36) rfl).trans ?_
  refine (e_goto (code := kX8_isBroken) (pc := 37) rfl).trans ?_
  rfl
theorem b_X8_isBroken_41 {C : aCall} {σ : aSt} {x1 x2 x3 y0 : Int32} : b_R C kX8_isBroken [] (41, [some (.ref 237), some (.int x1), some (.int x2), some (.int x3)], [.int y0], σ) = b_R C kX8_isBroken [] (4, [some (.ref 237), some (.int x1), some (.int y0), some (.int (x3 + nI 1))], [], σ) := by
  refine (e_istore_n (code := kX8_isBroken) (pc := 41) rfl rfl rfl).trans ?_
  refine (e_iinc (code := kX8_isBroken) (pc := 42) rfl rfl rfl rfl).trans ?_
  refine (e_goto (code := kX8_isBroken) (pc := 45) rfl).trans ?_
  rfl
theorem n_X8_broken {P : aCall} {d : Nat} {σ : aSt} (hd : 1 ≤ d) : a_call a_tab P d 170 [.ref 237] σ = b_R (a_call a_tab P (d - 1)) kX8_broken [] (0, [some (.ref 237), none, none], [], σ) := e_call hd at_X8_broken rfl
theorem b_X8_broken_0 {C : aCall} {σ : aSt} : b_R C kX8_broken [] (0, [some (.ref 237), none, none], [], σ) = b_R C kX8_broken [] (4, [some (.ref 237), some (.int (nI 0)), some (.int (nI 0))], [], σ) := by
  refine (e_iconst (code := kX8_broken) (pc := 0) rfl).trans ?_
  refine (e_istore_n (code := kX8_broken) (pc := 1) rfl rfl rfl).trans ?_
  refine (e_iconst (code := kX8_broken) (pc := 2) rfl).trans ?_
  refine (e_istore_n (code := kX8_broken) (pc := 3) rfl rfl rfl).trans ?_
  rfl
theorem b_X8_broken_4 {C : aCall} {σ : aSt} {w : Nat} {x1 x2 : Int32} (h : Sh σ) (hw : Rw σ w) : b_R C kX8_broken [] (4, [some (.ref 237), some (.int x1), some (.int x2)], [], σ) = b_gd (a_in (nI 1) 720) ((if x2 < (a_I σ w (Int32.toNatClampNeg (nI 1))) then b_G C kX8_broken [] 17 20 [some (.ref 237), some (.int x1), some (.int x2)] [.int x1] (C 169 [.ref 237, .int x2] σ) else some (.inl (some (.int x1)), σ))) := by
  refine (e_iload_n (code := kX8_broken) (pc := 4) rfl rfl).trans ?_
  refine (e_aload_n (code := kX8_broken) (pc := 5) rfl rfl).trans ?_
  refine (e_getR (code := kX8_broken) (pc := 6) (c := 10) rfl (sk_237 (σ := σ) h) hw.1).trans ?_
  refine (e_iconst (code := kX8_broken) (pc := 9) rfl).trans ?_
  refine (e_iaload (code := kX8_broken) (pc := 10) rfl (.inl hw.2.1) hw.2.2.2).trans ?_
  refine b_gd_c ?_
  refine (e_icge (code := kX8_broken) (pc := 11) rfl).trans ?_
  refine b_ite ?_ ?_
  · refine (e_iload_n (code := kX8_broken) (pc := 14) rfl rfl).trans ?_
    refine (e_aload_n (code := kX8_broken) (pc := 15) rfl rfl).trans ?_
    refine (e_iload_n (code := kX8_broken) (pc := 16) rfl rfl).trans ?_
    exact (e_callV (σ := σ) (code := kX8_broken) (pc := 17) (len := 3) (k := 169) (n := 2) (c := 20) (as := [.ref 237, .int x2]) (st0 := [.int x1]) rfl rfl rfl rfl rfl (sk_237 (σ := σ) h) rfl)
  · refine (e_iload_n (code := kX8_broken) (pc := 36) rfl rfl).trans ?_
    exact e_ireturn rfl
theorem b_X8_broken_20 {C : aCall} {σ : aSt} {x1 x2 y0 y1 : Int32} : b_R C kX8_broken [] (20, [some (.ref 237), some (.int x1), some (.int x2)], [.int y0, .int y1], σ) = (if y0 = 0 then b_R C kX8_broken [] (28, [some (.ref 237), some (.int x1), some (.int x2)], [.int (nI 0), .int y1], σ) else b_R C kX8_broken [] (28, [some (.ref 237), some (.int x1), some (.int x2)], [.int (nI 1), .int y1], σ)) := by
  refine (e_ifeq (code := kX8_broken) (pc := 20) rfl).trans ?_
  refine b_ite ?_ ?_
  · refine (e_iconst (code := kX8_broken) (pc := 27) rfl).trans ?_
    rfl
  · refine (e_iconst (code := kX8_broken) (pc := 23) rfl).trans ?_
    refine (e_goto (code := kX8_broken) (pc := 24) rfl).trans ?_
    rfl
theorem b_X8_broken_28 {C : aCall} {σ : aSt} {x1 x2 y0 y1 : Int32} : b_R C kX8_broken [] (28, [some (.ref 237), some (.int x1), some (.int x2)], [.int y0, .int y1], σ) = b_R C kX8_broken [] (4, [some (.ref 237), some (.int (y1 + y0)), some (.int (x2 + nI 1))], [], σ) := by
  refine (e_iadd (code := kX8_broken) (pc := 28) rfl).trans ?_
  refine (e_istore_n (code := kX8_broken) (pc := 29) rfl rfl rfl).trans ?_
  refine (e_iinc (code := kX8_broken) (pc := 30) rfl rfl rfl rfl).trans ?_
  refine (e_goto (code := kX8_broken) (pc := 33) rfl).trans ?_
  rfl
theorem n_X8_users {P : aCall} {d : Nat} {σ : aSt} {x1 : Int32} (hd : 1 ≤ d) : a_call a_tab P d 171 [.ref 237, .int x1] σ = b_R (a_call a_tab P (d - 1)) kX8_users [] (0, [some (.ref 237), some (.int x1), none, none], [], σ) := e_call hd at_X8_users rfl
theorem b_X8_users_0 {C : aCall} {σ : aSt} {x1 : Int32} : b_R C kX8_users [] (0, [some (.ref 237), some (.int x1), none, none], [], σ) = b_R C kX8_users [] (4, [some (.ref 237), some (.int x1), some (.int (nI 0)), some (.int (nI 0))], [], σ) := by
  refine (e_iconst (code := kX8_users) (pc := 0) rfl).trans ?_
  refine (e_istore_n (code := kX8_users) (pc := 1) rfl rfl rfl).trans ?_
  refine (e_iconst (code := kX8_users) (pc := 2) rfl).trans ?_
  refine (e_istore_n (code := kX8_users) (pc := 3) rfl rfl rfl).trans ?_
  rfl
theorem b_X8_users_4 {C : aCall} {σ : aSt} {w : Nat} {x1 x2 x3 : Int32} (h : Sh σ) (hw : Rw σ w) : b_R C kX8_users [] (4, [some (.ref 237), some (.int x1), some (.int x2), some (.int x3)], [], σ) = b_gd (a_in (nI 1) 720) ((if x3 < (a_I σ w (Int32.toNatClampNeg (nI 1))) then b_G C kX8_users [] 18 21 [some (.ref 237), some (.int x1), some (.int x2), some (.int x3)] [.int x2] (C 168 [.ref 237, .int x3, .int x1] σ) else some (.inl (some (.int x2)), σ))) := by
  refine (e_iload_n (code := kX8_users) (pc := 4) rfl rfl).trans ?_
  refine (e_aload_n (code := kX8_users) (pc := 5) rfl rfl).trans ?_
  refine (e_getR (code := kX8_users) (pc := 6) (c := 10) rfl (sk_237 (σ := σ) h) hw.1).trans ?_
  refine (e_iconst (code := kX8_users) (pc := 9) rfl).trans ?_
  refine (e_iaload (code := kX8_users) (pc := 10) rfl (.inl hw.2.1) hw.2.2.2).trans ?_
  refine b_gd_c ?_
  refine (e_icge (code := kX8_users) (pc := 11) rfl).trans ?_
  refine b_ite ?_ ?_
  · refine (e_iload_n (code := kX8_users) (pc := 14) rfl rfl).trans ?_
    refine (e_aload_n (code := kX8_users) (pc := 15) rfl rfl).trans ?_
    refine (e_iload_n (code := kX8_users) (pc := 16) rfl rfl).trans ?_
    refine (e_iload_n (code := kX8_users) (pc := 17) rfl rfl).trans ?_
    exact (e_callV (σ := σ) (code := kX8_users) (pc := 18) (len := 3) (k := 168) (n := 3) (c := 20) (as := [.ref 237, .int x3, .int x1]) (st0 := [.int x2]) rfl rfl rfl rfl rfl (sk_237 (σ := σ) h) rfl)
  · refine (e_iload_n (code := kX8_users) (pc := 37) rfl rfl).trans ?_
    exact e_ireturn rfl
theorem b_X8_users_21 {C : aCall} {σ : aSt} {x1 x2 x3 y0 y1 : Int32} : b_R C kX8_users [] (21, [some (.ref 237), some (.int x1), some (.int x2), some (.int x3)], [.int y0, .int y1], σ) = (if y0 = 0 then b_R C kX8_users [] (29, [some (.ref 237), some (.int x1), some (.int x2), some (.int x3)], [.int (nI 0), .int y1], σ) else b_R C kX8_users [] (29, [some (.ref 237), some (.int x1), some (.int x2), some (.int x3)], [.int (nI 1), .int y1], σ)) := by
  refine (e_ifeq (code := kX8_users) (pc := 21) rfl).trans ?_
  refine b_ite ?_ ?_
  · refine (e_iconst (code := kX8_users) (pc := 28) rfl).trans ?_
    rfl
  · refine (e_iconst (code := kX8_users) (pc := 24) rfl).trans ?_
    refine (e_goto (code := kX8_users) (pc := 25) rfl).trans ?_
    rfl
theorem b_X8_users_29 {C : aCall} {σ : aSt} {x1 x2 x3 y0 y1 : Int32} : b_R C kX8_users [] (29, [some (.ref 237), some (.int x1), some (.int x2), some (.int x3)], [.int y0, .int y1], σ) = b_R C kX8_users [] (4, [some (.ref 237), some (.int x1), some (.int (y1 + y0)), some (.int (x3 + nI 1))], [], σ) := by
  refine (e_iadd (code := kX8_users) (pc := 29) rfl).trans ?_
  refine (e_istore_n (code := kX8_users) (pc := 30) rfl rfl rfl).trans ?_
  refine (e_iinc (code := kX8_users) (pc := 31) rfl rfl rfl rfl).trans ?_
  refine (e_goto (code := kX8_users) (pc := 34) rfl).trans ?_
  rfl
theorem n_X8_tubesInUse {P : aCall} {d : Nat} {σ : aSt} (hd : 1 ≤ d) : a_call a_tab P d 172 [.ref 237] σ = b_R (a_call a_tab P (d - 1)) kX8_tubesInUse [] (0, [some (.ref 237), none, none], [], σ) := e_call hd at_X8_tubesInUse rfl
theorem b_X8_tubesInUse_0 {C : aCall} {σ : aSt} : b_R C kX8_tubesInUse [] (0, [some (.ref 237), none, none], [], σ) = b_R C kX8_tubesInUse [] (4, [some (.ref 237), some (.int (nI 0)), some (.int (nI 0))], [], σ) := by
  refine (e_iconst (code := kX8_tubesInUse) (pc := 0) rfl).trans ?_
  refine (e_istore_n (code := kX8_tubesInUse) (pc := 1) rfl rfl rfl).trans ?_
  refine (e_iconst (code := kX8_tubesInUse) (pc := 2) rfl).trans ?_
  refine (e_istore_n (code := kX8_tubesInUse) (pc := 3) rfl rfl rfl).trans ?_
  rfl
theorem b_X8_tubesInUse_4 {C : aCall} {σ : aSt} {w : Nat} {x1 x2 : Int32} (h : Sh σ) (hw : Rw σ w) : b_R C kX8_tubesInUse [] (4, [some (.ref 237), some (.int x1), some (.int x2)], [], σ) = b_gd (a_in (nI 0) 720) ((if x2 < (a_I σ w (Int32.toNatClampNeg (nI 0))) then b_G C kX8_tubesInUse [] 18 21 [some (.ref 237), some (.int x1), some (.int x2)] [.int x1] (C 153 [.ref 237, .int x2, .int (nI 4)] σ) else some (.inl (some (.int x1)), σ))) := by
  refine (e_iload_n (code := kX8_tubesInUse) (pc := 4) rfl rfl).trans ?_
  refine (e_aload_n (code := kX8_tubesInUse) (pc := 5) rfl rfl).trans ?_
  refine (e_getR (code := kX8_tubesInUse) (pc := 6) (c := 10) rfl (sk_237 (σ := σ) h) hw.1).trans ?_
  refine (e_iconst (code := kX8_tubesInUse) (pc := 9) rfl).trans ?_
  refine (e_iaload (code := kX8_tubesInUse) (pc := 10) rfl (.inl hw.2.1) hw.2.2.2).trans ?_
  refine b_gd_c ?_
  refine (e_icge (code := kX8_tubesInUse) (pc := 11) rfl).trans ?_
  refine b_ite ?_ ?_
  · refine (e_iload_n (code := kX8_tubesInUse) (pc := 14) rfl rfl).trans ?_
    refine (e_aload_n (code := kX8_tubesInUse) (pc := 15) rfl rfl).trans ?_
    refine (e_iload_n (code := kX8_tubesInUse) (pc := 16) rfl rfl).trans ?_
    refine (e_iconst (code := kX8_tubesInUse) (pc := 17) rfl).trans ?_
    exact (e_callV (σ := σ) (code := kX8_tubesInUse) (pc := 18) (len := 3) (k := 153) (n := 3) (c := 20) (as := [.ref 237, .int x2, .int (nI 4)]) (st0 := [.int x1]) rfl rfl rfl rfl rfl (sk_237 (σ := σ) h) rfl)
  · refine (e_iload_n (code := kX8_tubesInUse) (pc := 29) rfl rfl).trans ?_
    exact e_ireturn rfl
theorem b_X8_tubesInUse_21 {C : aCall} {σ : aSt} {x1 x2 y0 y1 : Int32} : b_R C kX8_tubesInUse [] (21, [some (.ref 237), some (.int x1), some (.int x2)], [.int y0, .int y1], σ) = b_R C kX8_tubesInUse [] (4, [some (.ref 237), some (.int (y1 + y0)), some (.int (x2 + nI 1))], [], σ) := by
  refine (e_iadd (code := kX8_tubesInUse) (pc := 21) rfl).trans ?_
  refine (e_istore_n (code := kX8_tubesInUse) (pc := 22) rfl rfl rfl).trans ?_
  refine (e_iinc (code := kX8_tubesInUse) (pc := 23) rfl rfl rfl rfl).trans ?_
  refine (e_goto (code := kX8_tubesInUse) (pc := 26) rfl).trans ?_
  rfl
theorem n_X8_weigh {P : aCall} {d : Nat} {σ : aSt} (hd : 1 ≤ d) : a_call a_tab P d 173 [.ref 237] σ = b_R (a_call a_tab P (d - 1)) kX8_weigh [] (0, [some (.ref 237), none, none, none], [], σ) := e_call hd at_X8_weigh rfl
theorem b_X8_weigh_0 {C : aCall} {σ : aSt} (h : Sh σ) : b_R C kX8_weigh [] (0, [some (.ref 237), none, none, none], [], σ) = b_G C kX8_weigh [] 1 4 [some (.ref 237), none, none, none] [] (C 166 [.ref 237] σ) := by
  refine (e_aload_n (code := kX8_weigh) (pc := 0) rfl rfl).trans ?_
  exact (e_callV (σ := σ) (code := kX8_weigh) (pc := 1) (len := 3) (k := 166) (n := 1) (c := 20) (as := [.ref 237]) (st0 := []) rfl rfl rfl rfl rfl (sk_237 (σ := σ) h) rfl)
theorem b_X8_weigh_4 {C : aCall} {σ : aSt} {y0 : Int32} (h : Sh σ) : b_R C kX8_weigh [] (4, [some (.ref 237), none, none, none], [.int y0], σ) = b_G C kX8_weigh [] 10 13 [some (.ref 237), some (.int y0), none, none] [] (C 162 [.int y0, .int (a_I σ 237 16)] σ) := by
  refine (e_istore_n (code := kX8_weigh) (pc := 4) rfl rfl rfl).trans ?_
  refine (e_iload_n (code := kX8_weigh) (pc := 5) rfl rfl).trans ?_
  refine (e_aload_n (code := kX8_weigh) (pc := 6) rfl rfl).trans ?_
  refine (e_getI (code := kX8_weigh) (pc := 7) (c := 10) rfl (sk_237 (σ := σ) h) rfl).trans ?_
  exact (e_callS (code := kX8_weigh) (pc := 10) (len := 3) (k := 162) (n := 2) (as := [.int y0, .int (a_I σ 237 16)]) (st0 := []) rfl rfl rfl rfl)
theorem b_X8_weigh_13 {C : aCall} {σ : aSt} {x1 y0 : Int32} (h : Sh σ) : b_R C kX8_weigh [] (13, [some (.ref 237), some (.int x1), none, none], [.int y0], σ) = (if (a_I σ 237 14) = ((-1)) then b_R C kX8_weigh [] (31, [some (.ref 237), some (.int x1), some (.int y0), none], [], σ) else (if y0 < (a_I σ 237 14) then b_R C kX8_weigh [] (31, [some (.ref 237), some (.int x1), some (.int y0), none], [], σ) else some (.inl none, σ))) := by
  refine (e_istore_n (code := kX8_weigh) (pc := 13) rfl rfl rfl).trans ?_
  refine (e_aload_n (code := kX8_weigh) (pc := 14) rfl rfl).trans ?_
  refine (e_getI (code := kX8_weigh) (pc := 15) (c := 10) rfl (sk_237 (σ := σ) h) rfl).trans ?_
  refine (e_iconst (code := kX8_weigh) (pc := 18) rfl).trans ?_
  refine (e_iceq (code := kX8_weigh) (pc := 19) rfl).trans ?_
  refine b_ite ?_ ?_
  · rfl
  · refine (e_iload_n (code := kX8_weigh) (pc := 22) rfl rfl).trans ?_
    refine (e_aload_n (code := kX8_weigh) (pc := 23) rfl rfl).trans ?_
    refine (e_getI (code := kX8_weigh) (pc := 24) (c := 10) rfl (sk_237 (σ := σ) h) rfl).trans ?_
    refine (e_iclt (code := kX8_weigh) (pc := 27) rfl).trans ?_
    refine b_ite ?_ ?_
    · rfl
    · exact e_return_ rfl
theorem b_X8_weigh_31 {C : aCall} {σ : aSt} {x1 x2 : Int32} (h : Sh σ) : b_R C kX8_weigh [] (31, [some (.ref 237), some (.int x1), some (.int x2), none], [], σ) = b_R C kX8_weigh [] (51, [some (.ref 237), some (.int x1), some (.int x2), some (.int (nI 0))], [], (a_setI (a_setI (a_setI σ 237 14 x2) 237 15 x1) 237 13 (a_I (a_setI (a_setI σ 237 14 x2) 237 15 x1) 237 10))) := by
  refine (e_aload_n (code := kX8_weigh) (pc := 31) rfl rfl).trans ?_
  refine (e_iload_n (code := kX8_weigh) (pc := 32) rfl rfl).trans ?_
  refine (e_putI (code := kX8_weigh) (pc := 33) (c := 10) rfl (sk_237 (σ := σ) h) (h_100 rfl)).trans ?_
  refine (e_aload_n (code := kX8_weigh) (pc := 36) (σ := (a_setI σ 237 14 x2)) rfl rfl).trans ?_
  refine (e_iload_n (code := kX8_weigh) (pc := 37) (σ := (a_setI σ 237 14 x2)) rfl rfl).trans ?_
  refine (e_putI (code := kX8_weigh) (pc := 38) (σ := (a_setI σ 237 14 x2)) (c := 10) rfl (sk_237 (σ := σ) h) (h_100 rfl)).trans ?_
  refine (e_aload_n (code := kX8_weigh) (pc := 41) (σ := (a_setI (a_setI σ 237 14 x2) 237 15 x1)) rfl rfl).trans ?_
  refine (e_aload_n (code := kX8_weigh) (pc := 42) (σ := (a_setI (a_setI σ 237 14 x2) 237 15 x1)) rfl rfl).trans ?_
  refine (e_getI (code := kX8_weigh) (pc := 43) (σ := (a_setI (a_setI σ 237 14 x2) 237 15 x1)) (c := 10) rfl (sk_237 (σ := σ) h) rfl).trans ?_
  refine (e_putI (code := kX8_weigh) (pc := 46) (σ := (a_setI (a_setI σ 237 14 x2) 237 15 x1)) (c := 10) rfl (sk_237 (σ := σ) h) (h_100 rfl)).trans ?_
  refine (e_iconst (code := kX8_weigh) (pc := 49) (σ := (a_setI (a_setI (a_setI σ 237 14 x2) 237 15 x1) 237 13 (a_I (a_setI (a_setI σ 237 14 x2) 237 15 x1) 237 10))) rfl).trans ?_
  refine (e_istore_n (code := kX8_weigh) (pc := 50) (σ := (a_setI (a_setI (a_setI σ 237 14 x2) 237 15 x1) 237 13 (a_I (a_setI (a_setI σ 237 14 x2) 237 15 x1) 237 10))) rfl rfl rfl).trans ?_
  rfl
theorem b_X8_weigh_51 {C : aCall} {σ : aSt} {x1 x2 x3 : Int32} (h : Sh σ) : b_R C kX8_weigh [] (51, [some (.ref 237), some (.int x1), some (.int x2), some (.int x3)], [], σ) = (if x3 < (a_I σ 237 10) then b_gd (a_in x3 4) (b_gd (a_in x3 3) (b_gd (a_in x3 4) (b_gd (a_in x3 3) (b_R C kX8_weigh [] (51, [some (.ref 237), some (.int x1), some (.int x2), some (.int (x3 + nI 1))], [], (a_setI (a_setI σ 244 (Int32.toNatClampNeg x3) (a_I σ 242 (Int32.toNatClampNeg x3))) 245 (Int32.toNatClampNeg x3) (a_I (a_setI σ 244 (Int32.toNatClampNeg x3) (a_I σ 242 (Int32.toNatClampNeg x3))) 243 (Int32.toNatClampNeg x3)))))))) else some (.inl none, σ)) := by
  refine (e_iload_n (code := kX8_weigh) (pc := 51) rfl rfl).trans ?_
  refine (e_aload_n (code := kX8_weigh) (pc := 52) rfl rfl).trans ?_
  refine (e_getI (code := kX8_weigh) (pc := 53) (c := 10) rfl (sk_237 (σ := σ) h) rfl).trans ?_
  refine (e_icge (code := kX8_weigh) (pc := 56) rfl).trans ?_
  refine b_ite ?_ ?_
  · refine (e_aload_n (code := kX8_weigh) (pc := 59) rfl rfl).trans ?_
    refine (e_getR (code := kX8_weigh) (pc := 60) (c := 10) rfl (sk_237 (σ := σ) h) (sr_237_11 (σ := σ) h)).trans ?_
    refine (e_iload_n (code := kX8_weigh) (pc := 63) rfl rfl).trans ?_
    refine (e_aload_n (code := kX8_weigh) (pc := 64) rfl rfl).trans ?_
    refine (e_getR (code := kX8_weigh) (pc := 65) (c := 10) rfl (sk_237 (σ := σ) h) (sr_237_8 (σ := σ) h)).trans ?_
    refine (e_iload_n (code := kX8_weigh) (pc := 68) rfl rfl).trans ?_
    refine (e_iaload (code := kX8_weigh) (pc := 69) rfl (.inl (sk_242 (σ := σ) h)) (sl_242 (σ := σ) h)).trans ?_
    refine b_gd_c ?_
    refine (e_iastore (code := kX8_weigh) (pc := 70) rfl (sk_244 (σ := σ) h) (h_100 rfl) (sl_244 (σ := σ) h)).trans ?_
    refine b_gd_c ?_
    refine (e_aload_n (code := kX8_weigh) (pc := 71) (σ := (a_setI σ 244 (Int32.toNatClampNeg x3) (a_I σ 242 (Int32.toNatClampNeg x3)))) rfl rfl).trans ?_
    refine (e_getR (code := kX8_weigh) (pc := 72) (σ := (a_setI σ 244 (Int32.toNatClampNeg x3) (a_I σ 242 (Int32.toNatClampNeg x3)))) (c := 10) rfl (sk_237 (σ := σ) h) (sr_237_12 (σ := σ) h)).trans ?_
    refine (e_iload_n (code := kX8_weigh) (pc := 75) (σ := (a_setI σ 244 (Int32.toNatClampNeg x3) (a_I σ 242 (Int32.toNatClampNeg x3)))) rfl rfl).trans ?_
    refine (e_aload_n (code := kX8_weigh) (pc := 76) (σ := (a_setI σ 244 (Int32.toNatClampNeg x3) (a_I σ 242 (Int32.toNatClampNeg x3)))) rfl rfl).trans ?_
    refine (e_getR (code := kX8_weigh) (pc := 77) (σ := (a_setI σ 244 (Int32.toNatClampNeg x3) (a_I σ 242 (Int32.toNatClampNeg x3)))) (c := 10) rfl (sk_237 (σ := σ) h) (sr_237_9 (σ := σ) h)).trans ?_
    refine (e_iload_n (code := kX8_weigh) (pc := 80) (σ := (a_setI σ 244 (Int32.toNatClampNeg x3) (a_I σ 242 (Int32.toNatClampNeg x3)))) rfl rfl).trans ?_
    refine (e_iaload (code := kX8_weigh) (pc := 81) (σ := (a_setI σ 244 (Int32.toNatClampNeg x3) (a_I σ 242 (Int32.toNatClampNeg x3)))) rfl (.inl (sk_243 (σ := σ) h)) (sl_243 (σ := σ) h)).trans ?_
    refine b_gd_c ?_
    refine (e_iastore (code := kX8_weigh) (pc := 82) (σ := (a_setI σ 244 (Int32.toNatClampNeg x3) (a_I σ 242 (Int32.toNatClampNeg x3)))) rfl (sk_245 (σ := σ) h) (h_100 rfl) (sl_245 (σ := σ) h)).trans ?_
    refine b_gd_c ?_
    refine (e_iinc (code := kX8_weigh) (pc := 83) (σ := (a_setI (a_setI σ 244 (Int32.toNatClampNeg x3) (a_I σ 242 (Int32.toNatClampNeg x3))) 245 (Int32.toNatClampNeg x3) (a_I (a_setI σ 244 (Int32.toNatClampNeg x3) (a_I σ 242 (Int32.toNatClampNeg x3))) 243 (Int32.toNatClampNeg x3)))) rfl rfl rfl rfl).trans ?_
    refine (e_goto (code := kX8_weigh) (pc := 86) (σ := (a_setI (a_setI σ 244 (Int32.toNatClampNeg x3) (a_I σ 242 (Int32.toNatClampNeg x3))) 245 (Int32.toNatClampNeg x3) (a_I (a_setI σ 244 (Int32.toNatClampNeg x3) (a_I σ 242 (Int32.toNatClampNeg x3))) 243 (Int32.toNatClampNeg x3)))) rfl).trans ?_
    rfl
  · exact e_return_ rfl
theorem n_X8_share {P : aCall} {d : Nat} {σ : aSt} {x1 x2 : Int32} (hd : 1 ≤ d) : a_call a_tab P d 174 [.ref 237, .int x1, .int x2] σ = b_R (a_call a_tab P (d - 1)) kX8_share [] (0, [some (.ref 237), some (.int x1), some (.int x2), none], [], σ) := e_call hd at_X8_share rfl
theorem b_X8_share_0 {C : aCall} {σ : aSt} {x1 x2 : Int32} (h : Sh σ) : b_R C kX8_share [] (0, [some (.ref 237), some (.int x1), some (.int x2), none], [], σ) = (if x1 = ((a_I σ 237 10) - (nI 1)) then b_gd (a_in x1 4) (b_G C kX8_share [] 18 21 [some (.ref 237), some (.int x1), some (.int x2), none] [] (C 173 [.ref 237] (a_setI σ 243 (Int32.toNatClampNeg x1) x2))) else b_R C kX8_share [] (24, [some (.ref 237), some (.int x1), some (.int x2), some (.int (nI 1))], [], σ)) := by
  refine (e_iload_n (code := kX8_share) (pc := 0) rfl rfl).trans ?_
  refine (e_aload_n (code := kX8_share) (pc := 1) rfl rfl).trans ?_
  refine (e_getI (code := kX8_share) (pc := 2) (c := 10) rfl (sk_237 (σ := σ) h) rfl).trans ?_
  refine (e_iconst (code := kX8_share) (pc := 5) rfl).trans ?_
  refine (e_isub (code := kX8_share) (pc := 6) rfl).trans ?_
  refine (e_icne (code := kX8_share) (pc := 7) rfl).trans ?_
  refine b_ite ?_ ?_
  · refine (e_aload_n (code := kX8_share) (pc := 10) rfl rfl).trans ?_
    refine (e_getR (code := kX8_share) (pc := 11) (c := 10) rfl (sk_237 (σ := σ) h) (sr_237_9 (σ := σ) h)).trans ?_
    refine (e_iload_n (code := kX8_share) (pc := 14) rfl rfl).trans ?_
    refine (e_iload_n (code := kX8_share) (pc := 15) rfl rfl).trans ?_
    refine (e_iastore (code := kX8_share) (pc := 16) rfl (sk_243 (σ := σ) h) (h_100 rfl) (sl_243 (σ := σ) h)).trans ?_
    refine b_gd_c ?_
    refine (e_aload_n (code := kX8_share) (pc := 17) (σ := (a_setI σ 243 (Int32.toNatClampNeg x1) x2)) rfl rfl).trans ?_
    exact (e_callV (σ := (a_setI σ 243 (Int32.toNatClampNeg x1) x2)) (code := kX8_share) (pc := 18) (len := 3) (k := 173) (n := 1) (c := 20) (as := [.ref 237]) (st0 := []) rfl rfl rfl rfl rfl (sk_237 (σ := σ) h) rfl)
  · refine (e_iconst (code := kX8_share) (pc := 22) rfl).trans ?_
    refine (e_istore_n (code := kX8_share) (pc := 23) rfl rfl rfl).trans ?_
    rfl
theorem b_X8_share_21 {C : aCall} {σ : aSt} {x1 x2 : Int32} : b_R C kX8_share [] (21, [some (.ref 237), some (.int x1), some (.int x2), none], [], σ) = some (.inl none, σ) := by
  exact e_return_ rfl
theorem b_X8_share_24 {C : aCall} {σ : aSt} {x1 x2 x3 : Int32} (h : Sh σ) : b_R C kX8_share [] (24, [some (.ref 237), some (.int x1), some (.int x2), some (.int x3)], [], σ) = (if (x2 - (((a_I σ 237 10) - (nI 1)) - x1)) < x3 then some (.inl none, σ) else b_gd (a_in x1 4) (b_G C kX8_share [] 52 55 [some (.ref 237), some (.int x1), some (.int x2), some (.int x3)] [] (C 174 [.ref 237, .int (x1 + (nI 1)), .int (x2 - x3)] (a_setI σ 243 (Int32.toNatClampNeg x1) x3)))) := by
  refine (e_iload_n (code := kX8_share) (pc := 24) rfl rfl).trans ?_
  refine (e_iload_n (code := kX8_share) (pc := 25) rfl rfl).trans ?_
  refine (e_aload_n (code := kX8_share) (pc := 26) rfl rfl).trans ?_
  refine (e_getI (code := kX8_share) (pc := 27) (c := 10) rfl (sk_237 (σ := σ) h) rfl).trans ?_
  refine (e_iconst (code := kX8_share) (pc := 30) rfl).trans ?_
  refine (e_isub (code := kX8_share) (pc := 31) rfl).trans ?_
  refine (e_iload_n (code := kX8_share) (pc := 32) rfl rfl).trans ?_
  refine (e_isub (code := kX8_share) (pc := 33) rfl).trans ?_
  refine (e_isub (code := kX8_share) (pc := 34) rfl).trans ?_
  refine (e_icgt (code := kX8_share) (pc := 35) rfl).trans ?_
  refine b_ite ?_ ?_
  · exact e_return_ rfl
  · refine (e_aload_n (code := kX8_share) (pc := 38) rfl rfl).trans ?_
    refine (e_getR (code := kX8_share) (pc := 39) (c := 10) rfl (sk_237 (σ := σ) h) (sr_237_9 (σ := σ) h)).trans ?_
    refine (e_iload_n (code := kX8_share) (pc := 42) rfl rfl).trans ?_
    refine (e_iload_n (code := kX8_share) (pc := 43) rfl rfl).trans ?_
    refine (e_iastore (code := kX8_share) (pc := 44) rfl (sk_243 (σ := σ) h) (h_100 rfl) (sl_243 (σ := σ) h)).trans ?_
    refine b_gd_c ?_
    refine (e_aload_n (code := kX8_share) (pc := 45) (σ := (a_setI σ 243 (Int32.toNatClampNeg x1) x3)) rfl rfl).trans ?_
    refine (e_iload_n (code := kX8_share) (pc := 46) (σ := (a_setI σ 243 (Int32.toNatClampNeg x1) x3)) rfl rfl).trans ?_
    refine (e_iconst (code := kX8_share) (pc := 47) (σ := (a_setI σ 243 (Int32.toNatClampNeg x1) x3)) rfl).trans ?_
    refine (e_iadd (code := kX8_share) (pc := 48) (σ := (a_setI σ 243 (Int32.toNatClampNeg x1) x3)) rfl).trans ?_
    refine (e_iload_n (code := kX8_share) (pc := 49) (σ := (a_setI σ 243 (Int32.toNatClampNeg x1) x3)) rfl rfl).trans ?_
    refine (e_iload_n (code := kX8_share) (pc := 50) (σ := (a_setI σ 243 (Int32.toNatClampNeg x1) x3)) rfl rfl).trans ?_
    refine (e_isub (code := kX8_share) (pc := 51) (σ := (a_setI σ 243 (Int32.toNatClampNeg x1) x3)) rfl).trans ?_
    exact (e_callV (σ := (a_setI σ 243 (Int32.toNatClampNeg x1) x3)) (code := kX8_share) (pc := 52) (len := 3) (k := 174) (n := 3) (c := 20) (as := [.ref 237, .int (x1 + (nI 1)), .int (x2 - x3)]) (st0 := []) rfl rfl rfl rfl rfl (sk_237 (σ := σ) h) rfl)
theorem b_X8_share_55 {C : aCall} {σ : aSt} {x1 x2 x3 : Int32} : b_R C kX8_share [] (55, [some (.ref 237), some (.int x1), some (.int x2), some (.int x3)], [], σ) = b_R C kX8_share [] (24, [some (.ref 237), some (.int x1), some (.int x2), some (.int (x3 + nI 1))], [], σ) := by
  refine (e_iinc (code := kX8_share) (pc := 55) rfl rfl rfl rfl).trans ?_
  refine (e_goto (code := kX8_share) (pc := 58) rfl).trans ?_
  rfl
theorem n_X8_choose {P : aCall} {d : Nat} {σ : aSt} {x1 x2 x3 : Int32} (hd : 1 ≤ d) : a_call a_tab P d 175 [.ref 237, .int x1, .int x2, .int x3] σ = b_R (a_call a_tab P (d - 1)) kX8_choose [] (0, [some (.ref 237), some (.int x1), some (.int x2), some (.int x3), none], [], σ) := e_call hd at_X8_choose rfl
theorem b_X8_choose_0 {C : aCall} {σ : aSt} {x1 x2 x3 : Int32} (h : Sh σ) : b_R C kX8_choose [] (0, [some (.ref 237), some (.int x1), some (.int x2), some (.int x3), none], [], σ) = (if x1 = (a_I σ 237 10) then b_G C kX8_choose [] 11 14 [some (.ref 237), some (.int x1), some (.int x2), some (.int x3), none] [] (C 174 [.ref 237, .int (nI 0), .int x3] σ) else b_R C kX8_choose [] (18, [some (.ref 237), some (.int x1), some (.int x2), some (.int x3), some (.int x2)], [], σ)) := by
  refine (e_iload_n (code := kX8_choose) (pc := 0) rfl rfl).trans ?_
  refine (e_aload_n (code := kX8_choose) (pc := 1) rfl rfl).trans ?_
  refine (e_getI (code := kX8_choose) (pc := 2) (c := 10) rfl (sk_237 (σ := σ) h) rfl).trans ?_
  refine (e_icne (code := kX8_choose) (pc := 5) rfl).trans ?_
  refine b_ite ?_ ?_
  · refine (e_aload_n (code := kX8_choose) (pc := 8) rfl rfl).trans ?_
    refine (e_iconst (code := kX8_choose) (pc := 9) rfl).trans ?_
    refine (e_iload_n (code := kX8_choose) (pc := 10) rfl rfl).trans ?_
    exact (e_callV (σ := σ) (code := kX8_choose) (pc := 11) (len := 3) (k := 174) (n := 3) (c := 20) (as := [.ref 237, .int (nI 0), .int x3]) (st0 := []) rfl rfl rfl rfl rfl (sk_237 (σ := σ) h) rfl)
  · refine (e_iload_n (code := kX8_choose) (pc := 15) rfl rfl).trans ?_
    refine (e_istore (code := kX8_choose) (pc := 16) rfl rfl rfl).trans ?_
    rfl
theorem b_X8_choose_14 {C : aCall} {σ : aSt} {x1 x2 x3 : Int32} : b_R C kX8_choose [] (14, [some (.ref 237), some (.int x1), some (.int x2), some (.int x3), none], [], σ) = some (.inl none, σ) := by
  exact e_return_ rfl
theorem b_X8_choose_18 {C : aCall} {σ : aSt} {w : Nat} {x1 x2 x3 x4 : Int32} (h : Sh σ) (hw : Rw σ w) : b_R C kX8_choose [] (18, [some (.ref 237), some (.int x1), some (.int x2), some (.int x3), some (.int x4)], [], σ) = b_gd (a_in (nI 0) 720) ((if x4 < (a_I σ w (Int32.toNatClampNeg (nI 0))) then b_G C kX8_choose [] 33 36 [some (.ref 237), some (.int x1), some (.int x2), some (.int x3), some (.int x4)] [] (C 153 [.ref 237, .int x4, .int (nI 4)] σ) else some (.inl none, σ))) := by
  refine (e_iload (code := kX8_choose) (pc := 18) rfl rfl).trans ?_
  refine (e_aload_n (code := kX8_choose) (pc := 20) rfl rfl).trans ?_
  refine (e_getR (code := kX8_choose) (pc := 21) (c := 10) rfl (sk_237 (σ := σ) h) hw.1).trans ?_
  refine (e_iconst (code := kX8_choose) (pc := 24) rfl).trans ?_
  refine (e_iaload (code := kX8_choose) (pc := 25) rfl (.inl hw.2.1) hw.2.2.2).trans ?_
  refine b_gd_c ?_
  refine (e_icge (code := kX8_choose) (pc := 26) rfl).trans ?_
  refine b_ite ?_ ?_
  · refine (e_aload_n (code := kX8_choose) (pc := 29) rfl rfl).trans ?_
    refine (e_iload (code := kX8_choose) (pc := 30) rfl rfl).trans ?_
    refine (e_iconst (code := kX8_choose) (pc := 32) rfl).trans ?_
    exact (e_callV (σ := σ) (code := kX8_choose) (pc := 33) (len := 3) (k := 153) (n := 3) (c := 20) (as := [.ref 237, .int x4, .int (nI 4)]) (st0 := []) rfl rfl rfl rfl rfl (sk_237 (σ := σ) h) rfl)
  · exact e_return_ rfl
theorem b_X8_choose_36 {C : aCall} {σ : aSt} {x1 x2 x3 x4 y0 : Int32} (h : Sh σ) : b_R C kX8_choose [] (36, [some (.ref 237), some (.int x1), some (.int x2), some (.int x3), some (.int x4)], [.int y0], σ) = (if y0 = (nI 1) then b_gd (a_in x1 4) (b_G C kX8_choose [] 57 60 [some (.ref 237), some (.int x1), some (.int x2), some (.int x3), some (.int x4)] [] (C 175 [.ref 237, .int (x1 + (nI 1)), .int (x4 + (nI 1)), .int x3] (a_setI σ 242 (Int32.toNatClampNeg x1) x4))) else b_R C kX8_choose [] (60, [some (.ref 237), some (.int x1), some (.int x2), some (.int x3), some (.int x4)], [], σ)) := by
  refine (e_iconst (code := kX8_choose) (pc := 36) rfl).trans ?_
  refine (e_icne (code := kX8_choose) (pc := 37) rfl).trans ?_
  refine b_ite ?_ ?_
  · refine (e_aload_n (code := kX8_choose) (pc := 40) rfl rfl).trans ?_
    refine (e_getR (code := kX8_choose) (pc := 41) (c := 10) rfl (sk_237 (σ := σ) h) (sr_237_8 (σ := σ) h)).trans ?_
    refine (e_iload_n (code := kX8_choose) (pc := 44) rfl rfl).trans ?_
    refine (e_iload (code := kX8_choose) (pc := 45) rfl rfl).trans ?_
    refine (e_iastore (code := kX8_choose) (pc := 47) rfl (sk_242 (σ := σ) h) (h_100 rfl) (sl_242 (σ := σ) h)).trans ?_
    refine b_gd_c ?_
    refine (e_aload_n (code := kX8_choose) (pc := 48) (σ := (a_setI σ 242 (Int32.toNatClampNeg x1) x4)) rfl rfl).trans ?_
    refine (e_iload_n (code := kX8_choose) (pc := 49) (σ := (a_setI σ 242 (Int32.toNatClampNeg x1) x4)) rfl rfl).trans ?_
    refine (e_iconst (code := kX8_choose) (pc := 50) (σ := (a_setI σ 242 (Int32.toNatClampNeg x1) x4)) rfl).trans ?_
    refine (e_iadd (code := kX8_choose) (pc := 51) (σ := (a_setI σ 242 (Int32.toNatClampNeg x1) x4)) rfl).trans ?_
    refine (e_iload (code := kX8_choose) (pc := 52) (σ := (a_setI σ 242 (Int32.toNatClampNeg x1) x4)) rfl rfl).trans ?_
    refine (e_iconst (code := kX8_choose) (pc := 54) (σ := (a_setI σ 242 (Int32.toNatClampNeg x1) x4)) rfl).trans ?_
    refine (e_iadd (code := kX8_choose) (pc := 55) (σ := (a_setI σ 242 (Int32.toNatClampNeg x1) x4)) rfl).trans ?_
    refine (e_iload_n (code := kX8_choose) (pc := 56) (σ := (a_setI σ 242 (Int32.toNatClampNeg x1) x4)) rfl rfl).trans ?_
    exact (e_callV (σ := (a_setI σ 242 (Int32.toNatClampNeg x1) x4)) (code := kX8_choose) (pc := 57) (len := 3) (k := 175) (n := 4) (c := 20) (as := [.ref 237, .int (x1 + (nI 1)), .int (x4 + (nI 1)), .int x3]) (st0 := []) rfl rfl rfl rfl rfl (sk_237 (σ := σ) h) rfl)
  · rfl
theorem b_X8_choose_60 {C : aCall} {σ : aSt} {x1 x2 x3 x4 : Int32} : b_R C kX8_choose [] (60, [some (.ref 237), some (.int x1), some (.int x2), some (.int x3), some (.int x4)], [], σ) = b_R C kX8_choose [] (18, [some (.ref 237), some (.int x1), some (.int x2), some (.int x3), some (.int (x4 + nI 1))], [], σ) := by
  refine (e_iinc (code := kX8_choose) (pc := 60) rfl rfl rfl rfl).trans ?_
  refine (e_goto (code := kX8_choose) (pc := 63) rfl).trans ?_
  rfl
theorem n_X8_findNearest {P : aCall} {d : Nat} {σ : aSt} {x1 x2 : Int32} (hd : 1 ≤ d) : a_call a_tab P d 176 [.ref 237, .int x1, .int x2] σ = b_R (a_call a_tab P (d - 1)) kX8_findNearest [] (0, [some (.ref 237), some (.int x1), some (.int x2), none, none], [], σ) := e_call hd at_X8_findNearest rfl
theorem b_X8_findNearest_0 {C : aCall} {σ : aSt} {x1 x2 : Int32} (h : Sh σ) : b_R C kX8_findNearest [] (0, [some (.ref 237), some (.int x1), some (.int x2), none, none], [], σ) = b_R C kX8_findNearest [] (17, [some (.ref 237), some (.int x1), some (.int x2), some (.int (nI 1)), none], [], (a_setI (a_setI (a_setI σ 237 16 x1) 237 14 ((-1))) 237 13 (nI 0))) := by
  refine (e_aload_n (code := kX8_findNearest) (pc := 0) rfl rfl).trans ?_
  refine (e_iload_n (code := kX8_findNearest) (pc := 1) rfl rfl).trans ?_
  refine (e_putI (code := kX8_findNearest) (pc := 2) (c := 10) rfl (sk_237 (σ := σ) h) (h_100 rfl)).trans ?_
  refine (e_aload_n (code := kX8_findNearest) (pc := 5) (σ := (a_setI σ 237 16 x1)) rfl rfl).trans ?_
  refine (e_iconst (code := kX8_findNearest) (pc := 6) (σ := (a_setI σ 237 16 x1)) rfl).trans ?_
  refine (e_putI (code := kX8_findNearest) (pc := 7) (σ := (a_setI σ 237 16 x1)) (c := 10) rfl (sk_237 (σ := σ) h) (h_100 rfl)).trans ?_
  refine (e_aload_n (code := kX8_findNearest) (pc := 10) (σ := (a_setI (a_setI σ 237 16 x1) 237 14 ((-1)))) rfl rfl).trans ?_
  refine (e_iconst (code := kX8_findNearest) (pc := 11) (σ := (a_setI (a_setI σ 237 16 x1) 237 14 ((-1)))) rfl).trans ?_
  refine (e_putI (code := kX8_findNearest) (pc := 12) (σ := (a_setI (a_setI σ 237 16 x1) 237 14 ((-1)))) (c := 10) rfl (sk_237 (σ := σ) h) (h_100 rfl)).trans ?_
  refine (e_iconst (code := kX8_findNearest) (pc := 15) (σ := (a_setI (a_setI (a_setI σ 237 16 x1) 237 14 ((-1))) 237 13 (nI 0))) rfl).trans ?_
  refine (e_istore_n (code := kX8_findNearest) (pc := 16) (σ := (a_setI (a_setI (a_setI σ 237 16 x1) 237 14 ((-1))) 237 13 (nI 0))) rfl rfl rfl).trans ?_
  rfl
theorem b_X8_findNearest_17 {C : aCall} {σ : aSt} {x1 x2 x3 : Int32} {o4 : Option Value} : b_R C kX8_findNearest [] (17, [some (.ref 237), some (.int x1), some (.int x2), some (.int x3), o4], [], σ) = (if x2 < x3 then some (.inl none, σ) else b_R C kX8_findNearest [] (25, [some (.ref 237), some (.int x1), some (.int x2), some (.int x3), some (.int x3)], [], σ)) := by
  refine (e_iload_n (code := kX8_findNearest) (pc := 17) rfl rfl).trans ?_
  refine (e_iload_n (code := kX8_findNearest) (pc := 18) rfl rfl).trans ?_
  refine (e_icgt (code := kX8_findNearest) (pc := 19) rfl).trans ?_
  refine b_ite ?_ ?_
  · exact e_return_ rfl
  · refine (e_iload_n (code := kX8_findNearest) (pc := 22) rfl rfl).trans ?_
    refine (e_istore (code := kX8_findNearest) (pc := 23) rfl rfl rfl).trans ?_
    rfl
theorem b_X8_findNearest_25 {C : aCall} {σ : aSt} {w : Nat} {x1 x2 x3 x4 : Int32} (h : Sh σ) (hw : Rw σ w) : b_R C kX8_findNearest [] (25, [some (.ref 237), some (.int x1), some (.int x2), some (.int x3), some (.int x4)], [], σ) = b_gd (a_in (nI 3) 720) ((if (a_I σ w (Int32.toNatClampNeg (nI 3))) < x4 then b_R C kX8_findNearest [] (17, [some (.ref 237), some (.int x1), some (.int x2), some (.int (x3 + nI 1)), some (.int x4)], [], σ) else b_G C kX8_findNearest [] 46 49 [some (.ref 237), some (.int x1), some (.int x2), some (.int x3), some (.int x4)] [] (C 175 [.ref 237, .int (nI 0), .int (nI 0), .int x4] (a_setI σ 237 10 x3)))) := by
  refine (e_iload (code := kX8_findNearest) (pc := 25) rfl rfl).trans ?_
  refine (e_aload_n (code := kX8_findNearest) (pc := 27) rfl rfl).trans ?_
  refine (e_getR (code := kX8_findNearest) (pc := 28) (c := 10) rfl (sk_237 (σ := σ) h) hw.1).trans ?_
  refine (e_iconst (code := kX8_findNearest) (pc := 31) rfl).trans ?_
  refine (e_iaload (code := kX8_findNearest) (pc := 32) rfl (.inl hw.2.1) hw.2.2.2).trans ?_
  refine b_gd_c ?_
  refine (e_icgt (code := kX8_findNearest) (pc := 33) rfl).trans ?_
  refine b_ite ?_ ?_
  · refine (e_iinc (code := kX8_findNearest) (pc := 55) rfl rfl rfl rfl).trans ?_
    refine (e_goto (code := kX8_findNearest) (pc := 58) rfl).trans ?_
    rfl
  · refine (e_aload_n (code := kX8_findNearest) (pc := 36) rfl rfl).trans ?_
    refine (e_iload_n (code := kX8_findNearest) (pc := 37) rfl rfl).trans ?_
    refine (e_putI (code := kX8_findNearest) (pc := 38) (c := 10) rfl (sk_237 (σ := σ) h) (h_100 rfl)).trans ?_
    refine (e_aload_n (code := kX8_findNearest) (pc := 41) (σ := (a_setI σ 237 10 x3)) rfl rfl).trans ?_
    refine (e_iconst (code := kX8_findNearest) (pc := 42) (σ := (a_setI σ 237 10 x3)) rfl).trans ?_
    refine (e_iconst (code := kX8_findNearest) (pc := 43) (σ := (a_setI σ 237 10 x3)) rfl).trans ?_
    refine (e_iload (code := kX8_findNearest) (pc := 44) (σ := (a_setI σ 237 10 x3)) rfl rfl).trans ?_
    exact (e_callV (σ := (a_setI σ 237 10 x3)) (code := kX8_findNearest) (pc := 46) (len := 3) (k := 175) (n := 4) (c := 20) (as := [.ref 237, .int (nI 0), .int (nI 0), .int x4]) (st0 := []) rfl rfl rfl rfl rfl (sk_237 (σ := σ) h) rfl)
theorem b_X8_findNearest_49 {C : aCall} {σ : aSt} {x1 x2 x3 x4 : Int32} : b_R C kX8_findNearest [] (49, [some (.ref 237), some (.int x1), some (.int x2), some (.int x3), some (.int x4)], [], σ) = b_R C kX8_findNearest [] (25, [some (.ref 237), some (.int x1), some (.int x2), some (.int x3), some (.int (x4 + nI 1))], [], σ) := by
  refine (e_iinc (code := kX8_findNearest) (pc := 49) rfl rfl rfl rfl).trans ?_
  refine (e_goto (code := kX8_findNearest) (pc := 52) rfl).trans ?_
  rfl
theorem n_X8_allDrops {P : aCall} {d : Nat} {σ : aSt} {x1 : Int32} (hd : 1 ≤ d) : a_call a_tab P d 177 [.ref 237, .int x1] σ = b_R (a_call a_tab P (d - 1)) kX8_allDrops [] (0, [some (.ref 237), some (.int x1), none, none], [], σ) := e_call hd at_X8_allDrops rfl
theorem b_X8_allDrops_0 {C : aCall} {σ : aSt} {x1 : Int32} : b_R C kX8_allDrops [] (0, [some (.ref 237), some (.int x1), none, none], [], σ) = b_R C kX8_allDrops [] (4, [some (.ref 237), some (.int x1), some (.int (nI 0)), some (.int (nI 0))], [], σ) := by
  refine (e_iconst (code := kX8_allDrops) (pc := 0) rfl).trans ?_
  refine (e_istore_n (code := kX8_allDrops) (pc := 1) rfl rfl rfl).trans ?_
  refine (e_iconst (code := kX8_allDrops) (pc := 2) rfl).trans ?_
  refine (e_istore_n (code := kX8_allDrops) (pc := 3) rfl rfl rfl).trans ?_
  rfl
theorem b_X8_allDrops_4 {C : aCall} {σ : aSt} {w : Nat} {x1 x2 x3 : Int32} (h : Sh σ) (hw : Rw σ w) : b_R C kX8_allDrops [] (4, [some (.ref 237), some (.int x1), some (.int x2), some (.int x3)], [], σ) = b_gd (a_in (nI 0) 720) ((if x3 < (a_I σ w (Int32.toNatClampNeg (nI 0))) then (if x1 = 0 then b_R C kX8_allDrops [] (29, [some (.ref 237), some (.int x1), some (.int x2), some (.int x3)], [.int x2], σ) else b_G C kX8_allDrops [] 22 25 [some (.ref 237), some (.int x1), some (.int x2), some (.int x3)] [.int x2] (C 153 [.ref 237, .int x3, .int (nI 4)] σ)) else some (.inl (some (.int x2)), σ))) := by
  refine (e_iload_n (code := kX8_allDrops) (pc := 4) rfl rfl).trans ?_
  refine (e_aload_n (code := kX8_allDrops) (pc := 5) rfl rfl).trans ?_
  refine (e_getR (code := kX8_allDrops) (pc := 6) (c := 10) rfl (sk_237 (σ := σ) h) hw.1).trans ?_
  refine (e_iconst (code := kX8_allDrops) (pc := 9) rfl).trans ?_
  refine (e_iaload (code := kX8_allDrops) (pc := 10) rfl (.inl hw.2.1) hw.2.2.2).trans ?_
  refine b_gd_c ?_
  refine (e_icge (code := kX8_allDrops) (pc := 11) rfl).trans ?_
  refine b_ite ?_ ?_
  · refine (e_iload_n (code := kX8_allDrops) (pc := 14) rfl rfl).trans ?_
    refine (e_iload_n (code := kX8_allDrops) (pc := 15) rfl rfl).trans ?_
    refine (e_ifeq (code := kX8_allDrops) (pc := 16) rfl).trans ?_
    refine b_ite ?_ ?_
    · rfl
    · refine (e_aload_n (code := kX8_allDrops) (pc := 19) rfl rfl).trans ?_
      refine (e_iload_n (code := kX8_allDrops) (pc := 20) rfl rfl).trans ?_
      refine (e_iconst (code := kX8_allDrops) (pc := 21) rfl).trans ?_
      exact (e_callV (σ := σ) (code := kX8_allDrops) (pc := 22) (len := 3) (k := 153) (n := 3) (c := 20) (as := [.ref 237, .int x3, .int (nI 4)]) (st0 := [.int x2]) rfl rfl rfl rfl rfl (sk_237 (σ := σ) h) rfl)
  · refine (e_iload_n (code := kX8_allDrops) (pc := 47) rfl rfl).trans ?_
    exact e_ireturn rfl
theorem b_X8_allDrops_25 {C : aCall} {σ : aSt} {x1 x2 x3 y0 y1 : Int32} : b_R C kX8_allDrops [] (25, [some (.ref 237), some (.int x1), some (.int x2), some (.int x3)], [.int y0, .int y1], σ) = (if y0 = (nI 1) then b_R C kX8_allDrops [] (29, [some (.ref 237), some (.int x1), some (.int x2), some (.int x3)], [.int y1], σ) else b_R C kX8_allDrops [] (39, [some (.ref 237), some (.int x1), some (.int x2), some (.int x3)], [.int (nI 0), .int y1], σ)) := by
  refine (e_iconst (code := kX8_allDrops) (pc := 25) rfl).trans ?_
  refine (e_icne (code := kX8_allDrops) (pc := 26) rfl).trans ?_
  refine b_ite ?_ ?_
  · rfl
  · refine (e_iconst (code := kX8_allDrops) (pc := 38) rfl).trans ?_
    rfl
theorem b_X8_allDrops_29 {C : aCall} {σ : aSt} {x1 x2 x3 y0 : Int32} (h : Sh σ) : b_R C kX8_allDrops [] (29, [some (.ref 237), some (.int x1), some (.int x2), some (.int x3)], [.int y0], σ) = b_G C kX8_allDrops [] 32 35 [some (.ref 237), some (.int x1), some (.int x2), some (.int x3)] [.int y0] (C 153 [.ref 237, .int x3, .int (nI 3)] σ) := by
  refine (e_aload_n (code := kX8_allDrops) (pc := 29) rfl rfl).trans ?_
  refine (e_iload_n (code := kX8_allDrops) (pc := 30) rfl rfl).trans ?_
  refine (e_iconst (code := kX8_allDrops) (pc := 31) rfl).trans ?_
  exact (e_callV (σ := σ) (code := kX8_allDrops) (pc := 32) (len := 3) (k := 153) (n := 3) (c := 20) (as := [.ref 237, .int x3, .int (nI 3)]) (st0 := [.int y0]) rfl rfl rfl rfl rfl (sk_237 (σ := σ) h) rfl)
theorem b_X8_allDrops_35 {C : aCall} {σ : aSt} {x1 x2 x3 y0 y1 : Int32} : b_R C kX8_allDrops [] (35, [some (.ref 237), some (.int x1), some (.int x2), some (.int x3)], [.int y0, .int y1], σ) = b_R C kX8_allDrops [] (39, [some (.ref 237), some (.int x1), some (.int x2), some (.int x3)], [.int y0, .int y1], σ) := by
  refine (e_goto (code := kX8_allDrops) (pc := 35) rfl).trans ?_
  rfl
theorem b_X8_allDrops_39 {C : aCall} {σ : aSt} {x1 x2 x3 y0 y1 : Int32} : b_R C kX8_allDrops [] (39, [some (.ref 237), some (.int x1), some (.int x2), some (.int x3)], [.int y0, .int y1], σ) = b_R C kX8_allDrops [] (4, [some (.ref 237), some (.int x1), some (.int (y1 + y0)), some (.int (x3 + nI 1))], [], σ) := by
  refine (e_iadd (code := kX8_allDrops) (pc := 39) rfl).trans ?_
  refine (e_istore_n (code := kX8_allDrops) (pc := 40) rfl rfl rfl).trans ?_
  refine (e_iinc (code := kX8_allDrops) (pc := 41) rfl rfl rfl rfl).trans ?_
  refine (e_goto (code := kX8_allDrops) (pc := 44) rfl).trans ?_
  rfl
theorem n_X8_size {P : aCall} {d : Nat} {σ : aSt} {x1 : Int32} (hd : 1 ≤ d) : a_call a_tab P d 178 [.ref 237, .int x1] σ = b_R (a_call a_tab P (d - 1)) kX8_size [] (0, [some (.ref 237), some (.int x1)], [], σ) := e_call hd at_X8_size rfl
theorem b_X8_size_0 {C : aCall} {σ : aSt} {x1 : Int32} (h : Sh σ) : b_R C kX8_size [] (0, [some (.ref 237), some (.int x1)], [], σ) = b_R C kX8_size [] (b_tsw 6 95 0 9 #[54, 61, 66, 73, 78, 78, 78, 78, 78, 89] x1, [some (.ref 237), some (.int x1)], [], (a_setI σ 237 6 (nI 0))) := by
  refine (e_aload_n (code := kX8_size) (pc := 0) rfl rfl).trans ?_
  refine (e_iconst (code := kX8_size) (pc := 1) rfl).trans ?_
  refine (e_putI (code := kX8_size) (pc := 2) (c := 10) rfl (sk_237 (σ := σ) h) (h_100 rfl)).trans ?_
  refine (e_iload_n (code := kX8_size) (pc := 5) (σ := (a_setI σ 237 6 (nI 0))) rfl rfl).trans ?_
  refine (e_tableswitch (code := kX8_size) (pc := 6) (σ := (a_setI σ 237 6 (nI 0))) rfl rfl).trans ?_
  rfl
theorem b_X8_size_60 {C : aCall} {σ : aSt} {w : Nat} {x1 : Int32} (h : Sh σ) (hw : Rw σ w) : b_R C kX8_size [] (60, [some (.ref 237), some (.int x1)], [], σ) = b_gd (a_in (nI 0) 720) (some (.inl (some (.int (a_I σ w (Int32.toNatClampNeg (nI 0))))), σ)) := by
  refine (e_aload_n (code := kX8_size) (pc := 60) rfl rfl).trans ?_
  refine (e_getR (code := kX8_size) (pc := 61) (c := 10) rfl (sk_237 (σ := σ) h) hw.1).trans ?_
  refine (e_iconst (code := kX8_size) (pc := 64) rfl).trans ?_
  refine (e_iaload (code := kX8_size) (pc := 65) rfl (.inl hw.2.1) hw.2.2.2).trans ?_
  refine b_gd_c ?_
  exact e_ireturn rfl
theorem b_X8_size_67 {C : aCall} {σ : aSt} {x1 : Int32} (h : Sh σ) : b_R C kX8_size [] (67, [some (.ref 237), some (.int x1)], [], σ) = b_G C kX8_size [] 68 71 [some (.ref 237), some (.int x1)] [] (C 172 [.ref 237] σ) := by
  refine (e_aload_n (code := kX8_size) (pc := 67) rfl rfl).trans ?_
  exact (e_callV (σ := σ) (code := kX8_size) (pc := 68) (len := 3) (k := 172) (n := 1) (c := 20) (as := [.ref 237]) (st0 := []) rfl rfl rfl rfl rfl (sk_237 (σ := σ) h) rfl)
theorem b_X8_size_71 {C : aCall} {σ : aSt} {x1 y0 : Int32} : b_R C kX8_size [] (71, [some (.ref 237), some (.int x1)], [.int y0], σ) = some (.inl (some (.int y0)), σ) := by
  exact e_ireturn rfl
theorem b_X8_size_72 {C : aCall} {σ : aSt} {w : Nat} {x1 : Int32} (h : Sh σ) (hw : Rw σ w) : b_R C kX8_size [] (72, [some (.ref 237), some (.int x1)], [], σ) = b_gd (a_in (nI 1) 720) (some (.inl (some (.int (a_I σ w (Int32.toNatClampNeg (nI 1))))), σ)) := by
  refine (e_aload_n (code := kX8_size) (pc := 72) rfl rfl).trans ?_
  refine (e_getR (code := kX8_size) (pc := 73) (c := 10) rfl (sk_237 (σ := σ) h) hw.1).trans ?_
  refine (e_iconst (code := kX8_size) (pc := 76) rfl).trans ?_
  refine (e_iaload (code := kX8_size) (pc := 77) rfl (.inl hw.2.1) hw.2.2.2).trans ?_
  refine b_gd_c ?_
  exact e_ireturn rfl
theorem b_X8_size_79 {C : aCall} {σ : aSt} {x1 : Int32} (h : Sh σ) : b_R C kX8_size [] (79, [some (.ref 237), some (.int x1)], [], σ) = b_G C kX8_size [] 80 83 [some (.ref 237), some (.int x1)] [] (C 170 [.ref 237] σ) := by
  refine (e_aload_n (code := kX8_size) (pc := 79) rfl rfl).trans ?_
  exact (e_callV (σ := σ) (code := kX8_size) (pc := 80) (len := 3) (k := 170) (n := 1) (c := 20) (as := [.ref 237]) (st0 := []) rfl rfl rfl rfl rfl (sk_237 (σ := σ) h) rfl)
theorem b_X8_size_83 {C : aCall} {σ : aSt} {x1 y0 : Int32} : b_R C kX8_size [] (83, [some (.ref 237), some (.int x1)], [.int y0], σ) = some (.inl (some (.int y0)), σ) := by
  exact e_ireturn rfl
theorem b_X8_size_84 {C : aCall} {σ : aSt} {w : Nat} {x1 : Int32} (h : Sh σ) (hw : Rw σ w) : b_R C kX8_size [] (84, [some (.ref 237), some (.int x1)], [], σ) = b_gd (a_in (((nI 2) + x1) - (nI 4)) 720) (some (.inl (some (.int (a_I σ w (Int32.toNatClampNeg (((nI 2) + x1) - (nI 4)))))), σ)) := by
  refine (e_aload_n (code := kX8_size) (pc := 84) rfl rfl).trans ?_
  refine (e_getR (code := kX8_size) (pc := 85) (c := 10) rfl (sk_237 (σ := σ) h) hw.1).trans ?_
  refine (e_iconst (code := kX8_size) (pc := 88) rfl).trans ?_
  refine (e_iload_n (code := kX8_size) (pc := 89) rfl rfl).trans ?_
  refine (e_iadd (code := kX8_size) (pc := 90) rfl).trans ?_
  refine (e_iconst (code := kX8_size) (pc := 91) rfl).trans ?_
  refine (e_isub (code := kX8_size) (pc := 92) rfl).trans ?_
  refine (e_iaload (code := kX8_size) (pc := 93) rfl (.inl hw.2.1) hw.2.2.2).trans ?_
  refine b_gd_c ?_
  exact e_ireturn rfl
theorem b_X8_size_95 {C : aCall} {σ : aSt} {x1 : Int32} (h : Sh σ) : b_R C kX8_size [] (95, [some (.ref 237), some (.int x1)], [], σ) = b_G C kX8_size [] 97 100 [some (.ref 237), some (.int x1)] [] (C 177 [.ref 237, .int (nI 0)] σ) := by
  refine (e_aload_n (code := kX8_size) (pc := 95) rfl rfl).trans ?_
  refine (e_iconst (code := kX8_size) (pc := 96) rfl).trans ?_
  exact (e_callV (σ := σ) (code := kX8_size) (pc := 97) (len := 3) (k := 177) (n := 2) (c := 20) (as := [.ref 237, .int (nI 0)]) (st0 := []) rfl rfl rfl rfl rfl (sk_237 (σ := σ) h) rfl)
theorem b_X8_size_100 {C : aCall} {σ : aSt} {x1 y0 : Int32} : b_R C kX8_size [] (100, [some (.ref 237), some (.int x1)], [.int y0], σ) = some (.inl (some (.int y0)), σ) := by
  exact e_ireturn rfl
theorem b_X8_size_101 {C : aCall} {σ : aSt} {x1 : Int32} (h : Sh σ) : b_R C kX8_size [] (101, [some (.ref 237), some (.int x1)], [], σ) = b_G C kX8_size [] 103 106 [some (.ref 237), some (.int x1)] [] (C 146 [.ref 237, .int (nI 1)] σ) := by
  refine (e_aload_n (code := kX8_size) (pc := 101) rfl rfl).trans ?_
  refine (e_iconst (code := kX8_size) (pc := 102) rfl).trans ?_
  exact (e_callV (σ := σ) (code := kX8_size) (pc := 103) (len := 3) (k := 146) (n := 2) (c := 20) (as := [.ref 237, .int (nI 1)]) (st0 := []) rfl rfl rfl rfl rfl (sk_237 (σ := σ) h) rfl)
theorem b_X8_size_106 {C : aCall} {σ : aSt} {x1 y0 : Int32} : b_R C kX8_size [] (106, [some (.ref 237), some (.int x1)], [.int y0], σ) = some (.inl (some (.int y0)), σ) := by
  exact e_ireturn rfl
theorem n_X8_tube {P : aCall} {d : Nat} {σ : aSt} {x1 x2 : Int32} (hd : 1 ≤ d) : a_call a_tab P d 179 [.ref 237, .int x1, .int x2] σ = b_R (a_call a_tab P (d - 1)) kX8_tube [] (0, [some (.ref 237), some (.int x1), some (.int x2)], [], σ) := e_call hd at_X8_tube rfl
theorem b_X8_tube_0 {C : aCall} {σ : aSt} {x1 x2 : Int32} (h : Sh σ) : b_R C kX8_tube [] (0, [some (.ref 237), some (.int x1), some (.int x2)], [], σ) = b_G C kX8_tube [] 3 6 [some (.ref 237), some (.int x1), some (.int x2)] [.ref 237] (C 149 [.ref 237, .int x1] σ) := by
  refine (e_aload_n (code := kX8_tube) (pc := 0) rfl rfl).trans ?_
  refine (e_aload_n (code := kX8_tube) (pc := 1) rfl rfl).trans ?_
  refine (e_iload_n (code := kX8_tube) (pc := 2) rfl rfl).trans ?_
  exact (e_callV (σ := σ) (code := kX8_tube) (pc := 3) (len := 3) (k := 149) (n := 2) (c := 20) (as := [.ref 237, .int x1]) (st0 := [.ref 237]) rfl rfl rfl rfl rfl (sk_237 (σ := σ) h) rfl)
theorem b_X8_tube_6 {C : aCall} {σ : aSt} {x1 x2 y0 : Int32} : b_R C kX8_tube [] (6, [some (.ref 237), some (.int x1), some (.int x2)], [.int y0, .ref 237], σ) = (if y0 = 0 then b_R C kX8_tube [] (22, [some (.ref 237), some (.int x1), some (.int x2)], [.ref 237], σ) else b_G C kX8_tube [] 12 15 [some (.ref 237), some (.int x1), some (.int x2)] [.ref 237] (C 147 [.int x2, .int (nI 0), .int (nI 5)] σ)) := by
  refine (e_ifeq (code := kX8_tube) (pc := 6) rfl).trans ?_
  refine b_ite ?_ ?_
  · rfl
  · refine (e_iload_n (code := kX8_tube) (pc := 9) rfl rfl).trans ?_
    refine (e_iconst (code := kX8_tube) (pc := 10) rfl).trans ?_
    refine (e_iconst (code := kX8_tube) (pc := 11) rfl).trans ?_
    exact (e_callS (code := kX8_tube) (pc := 12) (len := 3) (k := 147) (n := 3) (as := [.int x2, .int (nI 0), .int (nI 5)]) (st0 := [.ref 237]) rfl rfl rfl rfl)
theorem b_X8_tube_15 {C : aCall} {σ : aSt} {x1 x2 y0 : Int32} : b_R C kX8_tube [] (15, [some (.ref 237), some (.int x1), some (.int x2)], [.int y0, .ref 237], σ) = (if y0 = 0 then b_R C kX8_tube [] (22, [some (.ref 237), some (.int x1), some (.int x2)], [.ref 237], σ) else b_R C kX8_tube [] (23, [some (.ref 237), some (.int x1), some (.int x2)], [.int (nI 1), .ref 237], σ)) := by
  refine (e_ifeq (code := kX8_tube) (pc := 15) rfl).trans ?_
  refine b_ite ?_ ?_
  · rfl
  · refine (e_iconst (code := kX8_tube) (pc := 18) rfl).trans ?_
    refine (e_goto (code := kX8_tube) (pc := 19) rfl).trans ?_
    rfl
theorem b_X8_tube_22 {C : aCall} {σ : aSt} {x1 x2 : Int32} : b_R C kX8_tube [] (22, [some (.ref 237), some (.int x1), some (.int x2)], [.ref 237], σ) = b_R C kX8_tube [] (23, [some (.ref 237), some (.int x1), some (.int x2)], [.int (nI 0), .ref 237], σ) := by
  refine (e_iconst (code := kX8_tube) (pc := 22) rfl).trans ?_
  rfl
theorem b_X8_tube_23 {C : aCall} {σ : aSt} {x1 x2 y0 : Int32} (h : Sh σ) : b_R C kX8_tube [] (23, [some (.ref 237), some (.int x1), some (.int x2)], [.int y0, .ref 237], σ) = b_G C kX8_tube [] 23 26 [some (.ref 237), some (.int x1), some (.int x2)] [] (C 148 [.ref 237, .int y0] σ) := by
  exact (e_callV (σ := σ) (code := kX8_tube) (pc := 23) (len := 3) (k := 148) (n := 2) (c := 20) (as := [.ref 237, .int y0]) (st0 := []) rfl rfl rfl rfl rfl (sk_237 (σ := σ) h) rfl)
theorem b_X8_tube_26 {C : aCall} {σ : aSt} {x1 x2 y0 : Int32} (h : Sh σ) : b_R C kX8_tube [] (26, [some (.ref 237), some (.int x1), some (.int x2)], [.int y0], σ) = (if y0 = 0 then (if x2 = (nI 5) then b_G C kX8_tube [] 38 41 [some (.ref 237), some (.int x1), some (.int x2)] [] (C 171 [.ref 237, .int x1] σ) else b_G C kX8_tube [] 47 50 [some (.ref 237), some (.int x1), some (.int x2)] [] (C 153 [.ref 237, .int x1, .int x2] σ)) else some (.inl (some (.int (nI 0))), σ)) := by
  refine (e_ifeq (code := kX8_tube) (pc := 26) rfl).trans ?_
  refine b_ite ?_ ?_
  · refine (e_iload_n (code := kX8_tube) (pc := 31) rfl rfl).trans ?_
    refine (e_iconst (code := kX8_tube) (pc := 32) rfl).trans ?_
    refine (e_icne (code := kX8_tube) (pc := 33) rfl).trans ?_
    refine b_ite ?_ ?_
    · refine (e_aload_n (code := kX8_tube) (pc := 36) rfl rfl).trans ?_
      refine (e_iload_n (code := kX8_tube) (pc := 37) rfl rfl).trans ?_
      exact (e_callV (σ := σ) (code := kX8_tube) (pc := 38) (len := 3) (k := 171) (n := 2) (c := 20) (as := [.ref 237, .int x1]) (st0 := []) rfl rfl rfl rfl rfl (sk_237 (σ := σ) h) rfl)
    · refine (e_aload_n (code := kX8_tube) (pc := 44) rfl rfl).trans ?_
      refine (e_iload_n (code := kX8_tube) (pc := 45) rfl rfl).trans ?_
      refine (e_iload_n (code := kX8_tube) (pc := 46) rfl rfl).trans ?_
      exact (e_callV (σ := σ) (code := kX8_tube) (pc := 47) (len := 3) (k := 153) (n := 3) (c := 20) (as := [.ref 237, .int x1, .int x2]) (st0 := []) rfl rfl rfl rfl rfl (sk_237 (σ := σ) h) rfl)
  · refine (e_iconst (code := kX8_tube) (pc := 29) rfl).trans ?_
    exact e_ireturn rfl
theorem b_X8_tube_41 {C : aCall} {σ : aSt} {x1 x2 y0 : Int32} : b_R C kX8_tube [] (41, [some (.ref 237), some (.int x1), some (.int x2)], [.int y0], σ) = b_R C kX8_tube [] (50, [some (.ref 237), some (.int x1), some (.int x2)], [.int y0], σ) := by
  refine (e_goto (code := kX8_tube) (pc := 41) rfl).trans ?_
  rfl
theorem b_X8_tube_50 {C : aCall} {σ : aSt} {x1 x2 y0 : Int32} : b_R C kX8_tube [] (50, [some (.ref 237), some (.int x1), some (.int x2)], [.int y0], σ) = some (.inl (some (.int y0)), σ) := by
  exact e_ireturn rfl
theorem n_X8_mix {P : aCall} {d : Nat} {σ : aSt} {x1 x2 : Int32} (hd : 1 ≤ d) : a_call a_tab P d 180 [.ref 237, .int x1, .int x2] σ = b_R (a_call a_tab P (d - 1)) kX8_mix [] (0, [some (.ref 237), some (.int x1), some (.int x2)], [], σ) := e_call hd at_X8_mix rfl
theorem b_X8_mix_0 {C : aCall} {σ : aSt} {x1 x2 : Int32} (h : Sh σ) : b_R C kX8_mix [] (0, [some (.ref 237), some (.int x1), some (.int x2)], [], σ) = b_G C kX8_mix [] 3 6 [some (.ref 237), some (.int x1), some (.int x2)] [.ref 237] (C 150 [.ref 237, .int x1] σ) := by
  refine (e_aload_n (code := kX8_mix) (pc := 0) rfl rfl).trans ?_
  refine (e_aload_n (code := kX8_mix) (pc := 1) rfl rfl).trans ?_
  refine (e_iload_n (code := kX8_mix) (pc := 2) rfl rfl).trans ?_
  exact (e_callV (σ := σ) (code := kX8_mix) (pc := 3) (len := 3) (k := 150) (n := 2) (c := 20) (as := [.ref 237, .int x1]) (st0 := [.ref 237]) rfl rfl rfl rfl rfl (sk_237 (σ := σ) h) rfl)
theorem b_X8_mix_6 {C : aCall} {σ : aSt} {x1 x2 y0 : Int32} : b_R C kX8_mix [] (6, [some (.ref 237), some (.int x1), some (.int x2)], [.int y0, .ref 237], σ) = (if y0 = 0 then b_R C kX8_mix [] (22, [some (.ref 237), some (.int x1), some (.int x2)], [.ref 237], σ) else b_G C kX8_mix [] 12 15 [some (.ref 237), some (.int x1), some (.int x2)] [.ref 237] (C 147 [.int x2, .int (nI 0), .int (nI 5)] σ)) := by
  refine (e_ifeq (code := kX8_mix) (pc := 6) rfl).trans ?_
  refine b_ite ?_ ?_
  · rfl
  · refine (e_iload_n (code := kX8_mix) (pc := 9) rfl rfl).trans ?_
    refine (e_iconst (code := kX8_mix) (pc := 10) rfl).trans ?_
    refine (e_iconst (code := kX8_mix) (pc := 11) rfl).trans ?_
    exact (e_callS (code := kX8_mix) (pc := 12) (len := 3) (k := 147) (n := 3) (as := [.int x2, .int (nI 0), .int (nI 5)]) (st0 := [.ref 237]) rfl rfl rfl rfl)
theorem b_X8_mix_15 {C : aCall} {σ : aSt} {x1 x2 y0 : Int32} : b_R C kX8_mix [] (15, [some (.ref 237), some (.int x1), some (.int x2)], [.int y0, .ref 237], σ) = (if y0 = 0 then b_R C kX8_mix [] (22, [some (.ref 237), some (.int x1), some (.int x2)], [.ref 237], σ) else b_R C kX8_mix [] (23, [some (.ref 237), some (.int x1), some (.int x2)], [.int (nI 1), .ref 237], σ)) := by
  refine (e_ifeq (code := kX8_mix) (pc := 15) rfl).trans ?_
  refine b_ite ?_ ?_
  · rfl
  · refine (e_iconst (code := kX8_mix) (pc := 18) rfl).trans ?_
    refine (e_goto (code := kX8_mix) (pc := 19) rfl).trans ?_
    rfl
theorem b_X8_mix_22 {C : aCall} {σ : aSt} {x1 x2 : Int32} : b_R C kX8_mix [] (22, [some (.ref 237), some (.int x1), some (.int x2)], [.ref 237], σ) = b_R C kX8_mix [] (23, [some (.ref 237), some (.int x1), some (.int x2)], [.int (nI 0), .ref 237], σ) := by
  refine (e_iconst (code := kX8_mix) (pc := 22) rfl).trans ?_
  rfl
theorem b_X8_mix_23 {C : aCall} {σ : aSt} {x1 x2 y0 : Int32} (h : Sh σ) : b_R C kX8_mix [] (23, [some (.ref 237), some (.int x1), some (.int x2)], [.int y0, .ref 237], σ) = b_G C kX8_mix [] 23 26 [some (.ref 237), some (.int x1), some (.int x2)] [] (C 148 [.ref 237, .int y0] σ) := by
  exact (e_callV (σ := σ) (code := kX8_mix) (pc := 23) (len := 3) (k := 148) (n := 2) (c := 20) (as := [.ref 237, .int y0]) (st0 := []) rfl rfl rfl rfl rfl (sk_237 (σ := σ) h) rfl)
theorem b_X8_mix_26 {C : aCall} {σ : aSt} {x1 x2 y0 : Int32} (h : Sh σ) : b_R C kX8_mix [] (26, [some (.ref 237), some (.int x1), some (.int x2)], [.int y0], σ) = (if y0 = 0 then b_G C kX8_mix [] 33 36 [some (.ref 237), some (.int x1), some (.int x2)] [] (C 163 [.ref 237, .int x1] σ) else some (.inl (some (.int (nI 0))), σ)) := by
  refine (e_ifeq (code := kX8_mix) (pc := 26) rfl).trans ?_
  refine b_ite ?_ ?_
  · refine (e_aload_n (code := kX8_mix) (pc := 31) rfl rfl).trans ?_
    refine (e_iload_n (code := kX8_mix) (pc := 32) rfl rfl).trans ?_
    exact (e_callV (σ := σ) (code := kX8_mix) (pc := 33) (len := 3) (k := 163) (n := 2) (c := 20) (as := [.ref 237, .int x1]) (st0 := []) rfl rfl rfl rfl rfl (sk_237 (σ := σ) h) rfl)
  · refine (e_iconst (code := kX8_mix) (pc := 29) rfl).trans ?_
    exact e_ireturn rfl
theorem b_X8_mix_36 {C : aCall} {σ : aSt} {x1 x2 : Int32} (h : Sh σ) : b_R C kX8_mix [] (36, [some (.ref 237), some (.int x1), some (.int x2)], [], σ) = (if x2 < (nI 3) then b_G C kX8_mix [] 43 46 [some (.ref 237), some (.int x1), some (.int x2)] [] (C 165 [.ref 237, .int x2] σ) else (if x2 = (nI 3) then b_R C kX8_mix [] (86, [some (.ref 237), some (.int x1), some (.int x2)], [.int (a_I σ 237 10)], σ) else (if x2 = (nI 4) then b_G C kX8_mix [] 67 70 [some (.ref 237), some (.int x1), some (.int x2)] [] (C 164 [.ref 237] σ) else b_G C kX8_mix [] 75 78 [some (.ref 237), some (.int x1), some (.int x2)] [] (C 169 [.ref 237, .int x1] σ)))) := by
  refine (e_iload_n (code := kX8_mix) (pc := 36) rfl rfl).trans ?_
  refine (e_iconst (code := kX8_mix) (pc := 37) rfl).trans ?_
  refine (e_icge (code := kX8_mix) (pc := 38) rfl).trans ?_
  refine b_ite ?_ ?_
  · refine (e_aload_n (code := kX8_mix) (pc := 41) rfl rfl).trans ?_
    refine (e_iload_n (code := kX8_mix) (pc := 42) rfl rfl).trans ?_
    exact (e_callV (σ := σ) (code := kX8_mix) (pc := 43) (len := 3) (k := 165) (n := 2) (c := 20) (as := [.ref 237, .int x2]) (st0 := []) rfl rfl rfl rfl rfl (sk_237 (σ := σ) h) rfl)
  · refine (e_iload_n (code := kX8_mix) (pc := 49) rfl rfl).trans ?_
    refine (e_iconst (code := kX8_mix) (pc := 50) rfl).trans ?_
    refine (e_icne (code := kX8_mix) (pc := 51) rfl).trans ?_
    refine b_ite ?_ ?_
    · refine (e_aload_n (code := kX8_mix) (pc := 54) rfl rfl).trans ?_
      refine (e_getI (code := kX8_mix) (pc := 55) (c := 10) rfl (sk_237 (σ := σ) h) rfl).trans ?_
      refine (e_goto (code := kX8_mix) (pc := 58) rfl).trans ?_
      rfl
    · refine (e_iload_n (code := kX8_mix) (pc := 61) rfl rfl).trans ?_
      refine (e_iconst (code := kX8_mix) (pc := 62) rfl).trans ?_
      refine (e_icne (code := kX8_mix) (pc := 63) rfl).trans ?_
      refine b_ite ?_ ?_
      · refine (e_aload_n (code := kX8_mix) (pc := 66) rfl rfl).trans ?_
        exact (e_callV (σ := σ) (code := kX8_mix) (pc := 67) (len := 3) (k := 164) (n := 1) (c := 20) (as := [.ref 237]) (st0 := []) rfl rfl rfl rfl rfl (sk_237 (σ := σ) h) rfl)
      · refine (e_aload_n (code := kX8_mix) (pc := 73) rfl rfl).trans ?_
        refine (e_iload_n (code := kX8_mix) (pc := 74) rfl rfl).trans ?_
        exact (e_callV (σ := σ) (code := kX8_mix) (pc := 75) (len := 3) (k := 169) (n := 2) (c := 20) (as := [.ref 237, .int x1]) (st0 := []) rfl rfl rfl rfl rfl (sk_237 (σ := σ) h) rfl)
theorem b_X8_mix_46 {C : aCall} {σ : aSt} {x1 x2 y0 : Int32} : b_R C kX8_mix [] (46, [some (.ref 237), some (.int x1), some (.int x2)], [.int y0], σ) = b_R C kX8_mix [] (86, [some (.ref 237), some (.int x1), some (.int x2)], [.int y0], σ) := by
  refine (e_goto (code := kX8_mix) (pc := 46) rfl).trans ?_
  rfl
theorem b_X8_mix_70 {C : aCall} {σ : aSt} {x1 x2 y0 : Int32} : b_R C kX8_mix [] (70, [some (.ref 237), some (.int x1), some (.int x2)], [.int y0], σ) = b_R C kX8_mix [] (86, [some (.ref 237), some (.int x1), some (.int x2)], [.int y0], σ) := by
  refine (e_goto (code := kX8_mix) (pc := 70) rfl).trans ?_
  rfl
theorem b_X8_mix_78 {C : aCall} {σ : aSt} {x1 x2 y0 : Int32} : b_R C kX8_mix [] (78, [some (.ref 237), some (.int x1), some (.int x2)], [.int y0], σ) = (if y0 = 0 then b_R C kX8_mix [] (86, [some (.ref 237), some (.int x1), some (.int x2)], [.int (nI 0)], σ) else b_R C kX8_mix [] (86, [some (.ref 237), some (.int x1), some (.int x2)], [.int (nI 1)], σ)) := by
  refine (e_ifeq (code := kX8_mix) (pc := 78) rfl).trans ?_
  refine b_ite ?_ ?_
  · refine (e_iconst (code := kX8_mix) (pc := 85) rfl).trans ?_
    rfl
  · refine (e_iconst (code := kX8_mix) (pc := 81) rfl).trans ?_
    refine (e_goto (code := kX8_mix) (pc := 82) rfl).trans ?_
    rfl
theorem b_X8_mix_86 {C : aCall} {σ : aSt} {x1 x2 y0 : Int32} : b_R C kX8_mix [] (86, [some (.ref 237), some (.int x1), some (.int x2)], [.int y0], σ) = some (.inl (some (.int y0)), σ) := by
  exact e_ireturn rfl
theorem n_X8_partOf {P : aCall} {d : Nat} {σ : aSt} {x1 x2 x3 : Int32} (hd : 1 ≤ d) : a_call a_tab P d 181 [.ref 237, .int x1, .int x2, .int x3] σ = b_R (a_call a_tab P (d - 1)) kX8_partOf [] (0, [some (.ref 237), some (.int x1), some (.int x2), some (.int x3)], [], σ) := e_call hd at_X8_partOf rfl
theorem b_X8_partOf_0 {C : aCall} {σ : aSt} {x1 x2 x3 : Int32} (h : Sh σ) : b_R C kX8_partOf [] (0, [some (.ref 237), some (.int x1), some (.int x2), some (.int x3)], [], σ) = b_G C kX8_partOf [] 3 6 [some (.ref 237), some (.int x1), some (.int x2), some (.int x3)] [.ref 237] (C 150 [.ref 237, .int x1] σ) := by
  refine (e_aload_n (code := kX8_partOf) (pc := 0) rfl rfl).trans ?_
  refine (e_aload_n (code := kX8_partOf) (pc := 1) rfl rfl).trans ?_
  refine (e_iload_n (code := kX8_partOf) (pc := 2) rfl rfl).trans ?_
  exact (e_callV (σ := σ) (code := kX8_partOf) (pc := 3) (len := 3) (k := 150) (n := 2) (c := 20) (as := [.ref 237, .int x1]) (st0 := [.ref 237]) rfl rfl rfl rfl rfl (sk_237 (σ := σ) h) rfl)
theorem b_X8_partOf_6 {C : aCall} {σ : aSt} {x1 x2 x3 y0 : Int32} (h : Sh σ) : b_R C kX8_partOf [] (6, [some (.ref 237), some (.int x1), some (.int x2), some (.int x3)], [.int y0, .ref 237], σ) = (if y0 = 0 then b_R C kX8_partOf [] (30, [some (.ref 237), some (.int x1), some (.int x2), some (.int x3)], [.ref 237], σ) else b_G C kX8_partOf [] 15 18 [some (.ref 237), some (.int x1), some (.int x2), some (.int x3)] [.int (nI 0), .int x2, .ref 237] (C 155 [.ref 237, .int x1, .int (nI 9)] σ)) := by
  refine (e_ifeq (code := kX8_partOf) (pc := 6) rfl).trans ?_
  refine b_ite ?_ ?_
  · rfl
  · refine (e_iload_n (code := kX8_partOf) (pc := 9) rfl rfl).trans ?_
    refine (e_iconst (code := kX8_partOf) (pc := 10) rfl).trans ?_
    refine (e_aload_n (code := kX8_partOf) (pc := 11) rfl rfl).trans ?_
    refine (e_iload_n (code := kX8_partOf) (pc := 12) rfl rfl).trans ?_
    refine (e_bipush (code := kX8_partOf) (pc := 13) rfl).trans ?_
    exact (e_callV (σ := σ) (code := kX8_partOf) (pc := 15) (len := 3) (k := 155) (n := 3) (c := 20) (as := [.ref 237, .int x1, .int (nI 9)]) (st0 := [.int (nI 0), .int x2, .ref 237]) rfl rfl rfl rfl rfl (sk_237 (σ := σ) h) rfl)
theorem b_X8_partOf_18 {C : aCall} {σ : aSt} {x1 x2 x3 y0 y1 y2 : Int32} : b_R C kX8_partOf [] (18, [some (.ref 237), some (.int x1), some (.int x2), some (.int x3)], [.int y0, .int y1, .int y2, .ref 237], σ) = b_G C kX8_partOf [] 20 23 [some (.ref 237), some (.int x1), some (.int x2), some (.int x3)] [.ref 237] (C 147 [.int y2, .int y1, .int (y0 - (nI 1))] σ) := by
  refine (e_iconst (code := kX8_partOf) (pc := 18) rfl).trans ?_
  refine (e_isub (code := kX8_partOf) (pc := 19) rfl).trans ?_
  exact (e_callS (code := kX8_partOf) (pc := 20) (len := 3) (k := 147) (n := 3) (as := [.int y2, .int y1, .int (y0 - (nI 1))]) (st0 := [.ref 237]) rfl rfl rfl rfl)
theorem b_X8_partOf_23 {C : aCall} {σ : aSt} {x1 x2 x3 y0 : Int32} : b_R C kX8_partOf [] (23, [some (.ref 237), some (.int x1), some (.int x2), some (.int x3)], [.int y0, .ref 237], σ) = (if y0 = 0 then b_R C kX8_partOf [] (30, [some (.ref 237), some (.int x1), some (.int x2), some (.int x3)], [.ref 237], σ) else b_R C kX8_partOf [] (31, [some (.ref 237), some (.int x1), some (.int x2), some (.int x3)], [.int (nI 1), .ref 237], σ)) := by
  refine (e_ifeq (code := kX8_partOf) (pc := 23) rfl).trans ?_
  refine b_ite ?_ ?_
  · rfl
  · refine (e_iconst (code := kX8_partOf) (pc := 26) rfl).trans ?_
    refine (e_goto (code := kX8_partOf) (pc := 27) rfl).trans ?_
    rfl
theorem b_X8_partOf_30 {C : aCall} {σ : aSt} {x1 x2 x3 : Int32} : b_R C kX8_partOf [] (30, [some (.ref 237), some (.int x1), some (.int x2), some (.int x3)], [.ref 237], σ) = b_R C kX8_partOf [] (31, [some (.ref 237), some (.int x1), some (.int x2), some (.int x3)], [.int (nI 0), .ref 237], σ) := by
  refine (e_iconst (code := kX8_partOf) (pc := 30) rfl).trans ?_
  rfl
theorem b_X8_partOf_31 {C : aCall} {σ : aSt} {x1 x2 x3 y0 : Int32} (h : Sh σ) : b_R C kX8_partOf [] (31, [some (.ref 237), some (.int x1), some (.int x2), some (.int x3)], [.int y0, .ref 237], σ) = b_G C kX8_partOf [] 31 34 [some (.ref 237), some (.int x1), some (.int x2), some (.int x3)] [] (C 148 [.ref 237, .int y0] σ) := by
  exact (e_callV (σ := σ) (code := kX8_partOf) (pc := 31) (len := 3) (k := 148) (n := 2) (c := 20) (as := [.ref 237, .int y0]) (st0 := []) rfl rfl rfl rfl rfl (sk_237 (σ := σ) h) rfl)
theorem b_X8_partOf_34 {C : aCall} {σ : aSt} {x1 x2 x3 y0 : Int32} : b_R C kX8_partOf [] (34, [some (.ref 237), some (.int x1), some (.int x2), some (.int x3)], [.int y0], σ) = (if y0 = 0 then (if x3 = 0 then b_R C kX8_partOf [] (52, [some (.ref 237), some (.int x1), some (.int x2), some (.int x3)], [.int (nI 10), .int x1, .ref 237], σ) else b_R C kX8_partOf [] (52, [some (.ref 237), some (.int x1), some (.int x2), some (.int x3)], [.int (nI 14), .int x1, .ref 237], σ)) else some (.inl (some (.int (nI 0))), σ)) := by
  refine (e_ifeq (code := kX8_partOf) (pc := 34) rfl).trans ?_
  refine b_ite ?_ ?_
  · refine (e_aload_n (code := kX8_partOf) (pc := 39) rfl rfl).trans ?_
    refine (e_iload_n (code := kX8_partOf) (pc := 40) rfl rfl).trans ?_
    refine (e_iload_n (code := kX8_partOf) (pc := 41) rfl rfl).trans ?_
    refine (e_ifeq (code := kX8_partOf) (pc := 42) rfl).trans ?_
    refine b_ite ?_ ?_
    · refine (e_bipush (code := kX8_partOf) (pc := 50) rfl).trans ?_
      rfl
    · refine (e_bipush (code := kX8_partOf) (pc := 45) rfl).trans ?_
      refine (e_goto (code := kX8_partOf) (pc := 47) rfl).trans ?_
      rfl
  · refine (e_iconst (code := kX8_partOf) (pc := 37) rfl).trans ?_
    exact e_ireturn rfl
theorem b_X8_partOf_52 {C : aCall} {σ : aSt} {x1 x2 x3 y0 y1 : Int32} (h : Sh σ) : b_R C kX8_partOf [] (52, [some (.ref 237), some (.int x1), some (.int x2), some (.int x3)], [.int y0, .int y1, .ref 237], σ) = b_G C kX8_partOf [] 54 57 [some (.ref 237), some (.int x1), some (.int x2), some (.int x3)] [] (C 155 [.ref 237, .int y1, .int (y0 + x2)] σ) := by
  refine (e_iload_n (code := kX8_partOf) (pc := 52) rfl rfl).trans ?_
  refine (e_iadd (code := kX8_partOf) (pc := 53) rfl).trans ?_
  exact (e_callV (σ := σ) (code := kX8_partOf) (pc := 54) (len := 3) (k := 155) (n := 3) (c := 20) (as := [.ref 237, .int y1, .int (y0 + x2)]) (st0 := []) rfl rfl rfl rfl rfl (sk_237 (σ := σ) h) rfl)
theorem b_X8_partOf_57 {C : aCall} {σ : aSt} {x1 x2 x3 y0 : Int32} : b_R C kX8_partOf [] (57, [some (.ref 237), some (.int x1), some (.int x2), some (.int x3)], [.int y0], σ) = some (.inl (some (.int y0)), σ) := by
  exact e_ireturn rfl
theorem n_X8_letter {P : aCall} {d : Nat} {σ : aSt} {x1 x2 x3 : Int32} (hd : 1 ≤ d) : a_call a_tab P d 182 [.ref 237, .int x1, .int x2, .int x3] σ = b_R (a_call a_tab P (d - 1)) kX8_letter [] (0, [some (.ref 237), some (.int x1), some (.int x2), some (.int x3), none], [], σ) := e_call hd at_X8_letter rfl
theorem b_X8_letter_0 {C : aCall} {σ : aSt} {x1 x2 x3 : Int32} (h : Sh σ) : b_R C kX8_letter [] (0, [some (.ref 237), some (.int x1), some (.int x2), some (.int x3), none], [], σ) = (if x1 = 0 then b_G C kX8_letter [] 15 18 [some (.ref 237), some (.int x1), some (.int x2), some (.int x3), none] [.ref 237] (C 149 [.ref 237, .int x2] σ) else b_G C kX8_letter [] 7 10 [some (.ref 237), some (.int x1), some (.int x2), some (.int x3), none] [.ref 237] (C 150 [.ref 237, .int x2] σ)) := by
  refine (e_aload_n (code := kX8_letter) (pc := 0) rfl rfl).trans ?_
  refine (e_iload_n (code := kX8_letter) (pc := 1) rfl rfl).trans ?_
  refine (e_ifeq (code := kX8_letter) (pc := 2) rfl).trans ?_
  refine b_ite ?_ ?_
  · refine (e_aload_n (code := kX8_letter) (pc := 13) rfl rfl).trans ?_
    refine (e_iload_n (code := kX8_letter) (pc := 14) rfl rfl).trans ?_
    exact (e_callV (σ := σ) (code := kX8_letter) (pc := 15) (len := 3) (k := 149) (n := 2) (c := 20) (as := [.ref 237, .int x2]) (st0 := [.ref 237]) rfl rfl rfl rfl rfl (sk_237 (σ := σ) h) rfl)
  · refine (e_aload_n (code := kX8_letter) (pc := 5) rfl rfl).trans ?_
    refine (e_iload_n (code := kX8_letter) (pc := 6) rfl rfl).trans ?_
    exact (e_callV (σ := σ) (code := kX8_letter) (pc := 7) (len := 3) (k := 150) (n := 2) (c := 20) (as := [.ref 237, .int x2]) (st0 := [.ref 237]) rfl rfl rfl rfl rfl (sk_237 (σ := σ) h) rfl)
theorem b_X8_letter_10 {C : aCall} {σ : aSt} {x1 x2 x3 y0 : Int32} : b_R C kX8_letter [] (10, [some (.ref 237), some (.int x1), some (.int x2), some (.int x3), none], [.int y0, .ref 237], σ) = b_R C kX8_letter [] (18, [some (.ref 237), some (.int x1), some (.int x2), some (.int x3), none], [.int y0, .ref 237], σ) := by
  refine (e_goto (code := kX8_letter) (pc := 10) rfl).trans ?_
  rfl
theorem b_X8_letter_18 {C : aCall} {σ : aSt} {x1 x2 x3 y0 : Int32} (h : Sh σ) : b_R C kX8_letter [] (18, [some (.ref 237), some (.int x1), some (.int x2), some (.int x3), none], [.int y0, .ref 237], σ) = b_G C kX8_letter [] 18 21 [some (.ref 237), some (.int x1), some (.int x2), some (.int x3), none] [] (C 148 [.ref 237, .int y0] σ) := by
  exact (e_callV (σ := σ) (code := kX8_letter) (pc := 18) (len := 3) (k := 148) (n := 2) (c := 20) (as := [.ref 237, .int y0]) (st0 := []) rfl rfl rfl rfl rfl (sk_237 (σ := σ) h) rfl)
theorem b_X8_letter_21 {C : aCall} {σ : aSt} {x1 x2 x3 y0 : Int32} : b_R C kX8_letter [] (21, [some (.ref 237), some (.int x1), some (.int x2), some (.int x3), none], [.int y0], σ) = (if y0 = 0 then (if x1 = 0 then b_R C kX8_letter [] (52, [some (.ref 237), some (.int x1), some (.int x2), some (.int x3), none], [.int (((nI 8) + ((nI 14) * x2)) + (nI 5))], σ) else b_R C kX8_letter [] (52, [some (.ref 237), some (.int x1), some (.int x2), some (.int x3), none], [.int (((nI 288) + ((nI 18) * x2)) + (nI 0))], σ)) else some (.inl (some (.int (nI 0))), σ)) := by
  refine (e_ifeq (code := kX8_letter) (pc := 21) rfl).trans ?_
  refine b_ite ?_ ?_
  · refine (e_iload_n (code := kX8_letter) (pc := 26) rfl rfl).trans ?_
    refine (e_ifeq (code := kX8_letter) (pc := 27) rfl).trans ?_
    refine b_ite ?_ ?_
    · refine (e_bipush (code := kX8_letter) (pc := 43) rfl).trans ?_
      refine (e_bipush (code := kX8_letter) (pc := 45) rfl).trans ?_
      refine (e_iload_n (code := kX8_letter) (pc := 47) rfl rfl).trans ?_
      refine (e_imul (code := kX8_letter) (pc := 48) rfl).trans ?_
      refine (e_iadd (code := kX8_letter) (pc := 49) rfl).trans ?_
      refine (e_iconst (code := kX8_letter) (pc := 50) rfl).trans ?_
      refine (e_iadd (code := kX8_letter) (pc := 51) rfl).trans ?_
      rfl
    · refine (e_sipush (code := kX8_letter) (pc := 30) rfl).trans ?_
      refine (e_bipush (code := kX8_letter) (pc := 33) rfl).trans ?_
      refine (e_iload_n (code := kX8_letter) (pc := 35) rfl rfl).trans ?_
      refine (e_imul (code := kX8_letter) (pc := 36) rfl).trans ?_
      refine (e_iadd (code := kX8_letter) (pc := 37) rfl).trans ?_
      refine (e_iconst (code := kX8_letter) (pc := 38) rfl).trans ?_
      refine (e_iadd (code := kX8_letter) (pc := 39) rfl).trans ?_
      refine (e_goto (code := kX8_letter) (pc := 40) rfl).trans ?_
      rfl
  · refine (e_iconst (code := kX8_letter) (pc := 24) rfl).trans ?_
    exact e_ireturn rfl
theorem b_X8_letter_52 {C : aCall} {σ : aSt} {w : Nat} {x1 x2 x3 y0 : Int32} (h : Sh σ) (hw : Rw σ w) : b_R C kX8_letter [] (52, [some (.ref 237), some (.int x1), some (.int x2), some (.int x3), none], [.int y0], σ) = b_gd (a_in y0 720) (b_G C kX8_letter [] 65 68 [some (.ref 237), some (.int x1), some (.int x2), some (.int x3), some (.int y0)] [] (C 147 [.int x3, .int (nI 0), .int ((a_I σ w (Int32.toNatClampNeg y0)) - (nI 1))] σ)) := by
  refine (e_istore (code := kX8_letter) (pc := 52) rfl rfl rfl).trans ?_
  refine (e_iload_n (code := kX8_letter) (pc := 54) rfl rfl).trans ?_
  refine (e_iconst (code := kX8_letter) (pc := 55) rfl).trans ?_
  refine (e_aload_n (code := kX8_letter) (pc := 56) rfl rfl).trans ?_
  refine (e_getR (code := kX8_letter) (pc := 57) (c := 10) rfl (sk_237 (σ := σ) h) hw.1).trans ?_
  refine (e_iload (code := kX8_letter) (pc := 60) rfl rfl).trans ?_
  refine (e_iaload (code := kX8_letter) (pc := 62) rfl (.inl hw.2.1) hw.2.2.2).trans ?_
  refine b_gd_c ?_
  refine (e_iconst (code := kX8_letter) (pc := 63) rfl).trans ?_
  refine (e_isub (code := kX8_letter) (pc := 64) rfl).trans ?_
  exact (e_callS (code := kX8_letter) (pc := 65) (len := 3) (k := 147) (n := 3) (as := [.int x3, .int (nI 0), .int ((a_I σ w (Int32.toNatClampNeg y0)) - (nI 1))]) (st0 := []) rfl rfl rfl rfl)
theorem b_X8_letter_68 {C : aCall} {σ : aSt} {w : Nat} {x1 x2 x3 x4 y0 : Int32} (h : Sh σ) (hw : Rw σ w) : b_R C kX8_letter [] (68, [some (.ref 237), some (.int x1), some (.int x2), some (.int x3), some (.int x4)], [.int y0], σ) = (if y0 = 0 then b_R C kX8_letter [] (86, [some (.ref 237), some (.int x1), some (.int x2), some (.int x3), some (.int x4)], [.int ((-1))], σ) else b_gd (a_in ((x4 + (nI 1)) + x3) 720) (b_R C kX8_letter [] (86, [some (.ref 237), some (.int x1), some (.int x2), some (.int x3), some (.int x4)], [.int (a_I σ w (Int32.toNatClampNeg ((x4 + (nI 1)) + x3)))], σ))) := by
  refine (e_ifeq (code := kX8_letter) (pc := 68) rfl).trans ?_
  refine b_ite ?_ ?_
  · refine (e_iconst (code := kX8_letter) (pc := 85) rfl).trans ?_
    rfl
  · refine (e_aload_n (code := kX8_letter) (pc := 71) rfl rfl).trans ?_
    refine (e_getR (code := kX8_letter) (pc := 72) (c := 10) rfl (sk_237 (σ := σ) h) hw.1).trans ?_
    refine (e_iload (code := kX8_letter) (pc := 75) rfl rfl).trans ?_
    refine (e_iconst (code := kX8_letter) (pc := 77) rfl).trans ?_
    refine (e_iadd (code := kX8_letter) (pc := 78) rfl).trans ?_
    refine (e_iload_n (code := kX8_letter) (pc := 79) rfl rfl).trans ?_
    refine (e_iadd (code := kX8_letter) (pc := 80) rfl).trans ?_
    refine (e_iaload (code := kX8_letter) (pc := 81) rfl (.inl hw.2.1) hw.2.2.2).trans ?_
    refine b_gd_c ?_
    refine (e_goto (code := kX8_letter) (pc := 82) rfl).trans ?_
    rfl
theorem b_X8_letter_86 {C : aCall} {σ : aSt} {x1 x2 x3 x4 y0 : Int32} : b_R C kX8_letter [] (86, [some (.ref 237), some (.int x1), some (.int x2), some (.int x3), some (.int x4)], [.int y0], σ) = some (.inl (some (.int y0)), σ) := by
  exact e_ireturn rfl
theorem n_X8_apart {P : aCall} {d : Nat} {σ : aSt} {x1 x2 : Int32} (hd : 1 ≤ d) : a_call a_tab P d 183 [.ref 237, .int x1, .int x2] σ = b_R (a_call a_tab P (d - 1)) kX8_apart [] (0, [some (.ref 237), some (.int x1), some (.int x2)], [], σ) := e_call hd at_X8_apart rfl
theorem b_X8_apart_0 {C : aCall} {σ : aSt} {x1 x2 : Int32} : b_R C kX8_apart [] (0, [some (.ref 237), some (.int x1), some (.int x2)], [], σ) = b_G C kX8_apart [] 2 5 [some (.ref 237), some (.int x1), some (.int x2)] [.ref 237] (C 152 [.int x1] σ) := by
  refine (e_aload_n (code := kX8_apart) (pc := 0) rfl rfl).trans ?_
  refine (e_iload_n (code := kX8_apart) (pc := 1) rfl rfl).trans ?_
  exact (e_callS (code := kX8_apart) (pc := 2) (len := 3) (k := 152) (n := 1) (as := [.int x1]) (st0 := [.ref 237]) rfl rfl rfl rfl)
theorem b_X8_apart_5 {C : aCall} {σ : aSt} {x1 x2 y0 : Int32} : b_R C kX8_apart [] (5, [some (.ref 237), some (.int x1), some (.int x2)], [.int y0, .ref 237], σ) = (if y0 = 0 then b_R C kX8_apart [] (19, [some (.ref 237), some (.int x1), some (.int x2)], [.ref 237], σ) else b_G C kX8_apart [] 9 12 [some (.ref 237), some (.int x1), some (.int x2)] [.ref 237] (C 152 [.int x2] σ)) := by
  refine (e_ifeq (code := kX8_apart) (pc := 5) rfl).trans ?_
  refine b_ite ?_ ?_
  · rfl
  · refine (e_iload_n (code := kX8_apart) (pc := 8) rfl rfl).trans ?_
    exact (e_callS (code := kX8_apart) (pc := 9) (len := 3) (k := 152) (n := 1) (as := [.int x2]) (st0 := [.ref 237]) rfl rfl rfl rfl)
theorem b_X8_apart_12 {C : aCall} {σ : aSt} {x1 x2 y0 : Int32} : b_R C kX8_apart [] (12, [some (.ref 237), some (.int x1), some (.int x2)], [.int y0, .ref 237], σ) = (if y0 = 0 then b_R C kX8_apart [] (19, [some (.ref 237), some (.int x1), some (.int x2)], [.ref 237], σ) else b_R C kX8_apart [] (20, [some (.ref 237), some (.int x1), some (.int x2)], [.int (nI 1), .ref 237], σ)) := by
  refine (e_ifeq (code := kX8_apart) (pc := 12) rfl).trans ?_
  refine b_ite ?_ ?_
  · rfl
  · refine (e_iconst (code := kX8_apart) (pc := 15) rfl).trans ?_
    refine (e_goto (code := kX8_apart) (pc := 16) rfl).trans ?_
    rfl
theorem b_X8_apart_19 {C : aCall} {σ : aSt} {x1 x2 : Int32} : b_R C kX8_apart [] (19, [some (.ref 237), some (.int x1), some (.int x2)], [.ref 237], σ) = b_R C kX8_apart [] (20, [some (.ref 237), some (.int x1), some (.int x2)], [.int (nI 0), .ref 237], σ) := by
  refine (e_iconst (code := kX8_apart) (pc := 19) rfl).trans ?_
  rfl
theorem b_X8_apart_20 {C : aCall} {σ : aSt} {x1 x2 y0 : Int32} (h : Sh σ) : b_R C kX8_apart [] (20, [some (.ref 237), some (.int x1), some (.int x2)], [.int y0, .ref 237], σ) = b_G C kX8_apart [] 20 23 [some (.ref 237), some (.int x1), some (.int x2)] [] (C 148 [.ref 237, .int y0] σ) := by
  exact (e_callV (σ := σ) (code := kX8_apart) (pc := 20) (len := 3) (k := 148) (n := 2) (c := 20) (as := [.ref 237, .int y0]) (st0 := []) rfl rfl rfl rfl rfl (sk_237 (σ := σ) h) rfl)
theorem b_X8_apart_23 {C : aCall} {σ : aSt} {x1 x2 y0 : Int32} : b_R C kX8_apart [] (23, [some (.ref 237), some (.int x1), some (.int x2)], [.int y0], σ) = (if y0 = 0 then b_G C kX8_apart [] 32 35 [some (.ref 237), some (.int x1), some (.int x2)] [] (C 162 [.int x1, .int x2] σ) else b_R C kX8_apart [] (35, [some (.ref 237), some (.int x1), some (.int x2)], [.int (nI 0)], σ)) := by
  refine (e_ifeq (code := kX8_apart) (pc := 23) rfl).trans ?_
  refine b_ite ?_ ?_
  · refine (e_iload_n (code := kX8_apart) (pc := 30) rfl rfl).trans ?_
    refine (e_iload_n (code := kX8_apart) (pc := 31) rfl rfl).trans ?_
    exact (e_callS (code := kX8_apart) (pc := 32) (len := 3) (k := 162) (n := 2) (as := [.int x1, .int x2]) (st0 := []) rfl rfl rfl rfl)
  · refine (e_iconst (code := kX8_apart) (pc := 26) rfl).trans ?_
    refine (e_goto (code := kX8_apart) (pc := 27) rfl).trans ?_
    rfl
theorem b_X8_apart_35 {C : aCall} {σ : aSt} {x1 x2 y0 : Int32} : b_R C kX8_apart [] (35, [some (.ref 237), some (.int x1), some (.int x2)], [.int y0], σ) = some (.inl (some (.int y0)), σ) := by
  exact e_ireturn rfl
theorem n_X8_called {P : aCall} {d : Nat} {σ : aSt} {x1 : Int32} (hd : 1 ≤ d) : a_call a_tab P d 184 [.ref 237, .int x1] σ = b_R (a_call a_tab P (d - 1)) kX8_called [] (0, [some (.ref 237), some (.int x1), none, none, none, none], [], σ) := e_call hd at_X8_called rfl
theorem b_X8_called_0 {C : aCall} {σ : aSt} {x1 : Int32} : b_R C kX8_called [] (0, [some (.ref 237), some (.int x1), none, none, none, none], [], σ) = b_G C kX8_called [] 2 5 [some (.ref 237), some (.int x1), none, none, none, none] [.ref 237] (C 152 [.int x1] σ) := by
  refine (e_aload_n (code := kX8_called) (pc := 0) rfl rfl).trans ?_
  refine (e_iload_n (code := kX8_called) (pc := 1) rfl rfl).trans ?_
  exact (e_callS (code := kX8_called) (pc := 2) (len := 3) (k := 152) (n := 1) (as := [.int x1]) (st0 := [.ref 237]) rfl rfl rfl rfl)
theorem b_X8_called_5 {C : aCall} {σ : aSt} {x1 y0 : Int32} (h : Sh σ) : b_R C kX8_called [] (5, [some (.ref 237), some (.int x1), none, none, none, none], [.int y0, .ref 237], σ) = b_G C kX8_called [] 5 8 [some (.ref 237), some (.int x1), none, none, none, none] [] (C 148 [.ref 237, .int y0] σ) := by
  exact (e_callV (σ := σ) (code := kX8_called) (pc := 5) (len := 3) (k := 148) (n := 2) (c := 20) (as := [.ref 237, .int y0]) (st0 := []) rfl rfl rfl rfl rfl (sk_237 (σ := σ) h) rfl)
theorem b_X8_called_8 {C : aCall} {σ : aSt} {x1 y0 : Int32} : b_R C kX8_called [] (8, [some (.ref 237), some (.int x1), none, none, none, none], [.int y0], σ) = (if y0 = 0 then b_R C kX8_called [] (20, [some (.ref 237), some (.int x1), some (.int ((-1))), some (.int (nI 0)), some (.int (nI 0)), none], [], σ) else some (.inl (some (.int (nI 0))), σ)) := by
  refine (e_ifeq (code := kX8_called) (pc := 8) rfl).trans ?_
  refine b_ite ?_ ?_
  · refine (e_iconst (code := kX8_called) (pc := 13) rfl).trans ?_
    refine (e_istore_n (code := kX8_called) (pc := 14) rfl rfl rfl).trans ?_
    refine (e_iconst (code := kX8_called) (pc := 15) rfl).trans ?_
    refine (e_istore_n (code := kX8_called) (pc := 16) rfl rfl rfl).trans ?_
    refine (e_iconst (code := kX8_called) (pc := 17) rfl).trans ?_
    refine (e_istore (code := kX8_called) (pc := 18) rfl rfl rfl).trans ?_
    rfl
  · refine (e_iconst (code := kX8_called) (pc := 11) rfl).trans ?_
    exact e_ireturn rfl
theorem b_X8_called_20 {C : aCall} {σ : aSt} {w : Nat} {x1 x2 x3 x4 : Int32} {o5 : Option Value} (h : Sh σ) (hw : Rw σ w) : b_R C kX8_called [] (20, [some (.ref 237), some (.int x1), some (.int x2), some (.int x3), some (.int x4), o5], [], σ) = b_gd (a_in (nI 1) 720) ((if x4 < (a_I σ w (Int32.toNatClampNeg (nI 1))) then b_G C kX8_called [] 34 37 [some (.ref 237), some (.int x1), some (.int x2), some (.int x3), some (.int x4), o5] [] (C 167 [.ref 237, .int x4] σ) else some (.inl (some (.int x2)), σ))) := by
  refine (e_iload (code := kX8_called) (pc := 20) rfl rfl).trans ?_
  refine (e_aload_n (code := kX8_called) (pc := 22) rfl rfl).trans ?_
  refine (e_getR (code := kX8_called) (pc := 23) (c := 10) rfl (sk_237 (σ := σ) h) hw.1).trans ?_
  refine (e_iconst (code := kX8_called) (pc := 26) rfl).trans ?_
  refine (e_iaload (code := kX8_called) (pc := 27) rfl (.inl hw.2.1) hw.2.2.2).trans ?_
  refine b_gd_c ?_
  refine (e_icge (code := kX8_called) (pc := 28) rfl).trans ?_
  refine b_ite ?_ ?_
  · refine (e_aload_n (code := kX8_called) (pc := 31) rfl rfl).trans ?_
    refine (e_iload (code := kX8_called) (pc := 32) rfl rfl).trans ?_
    exact (e_callV (σ := σ) (code := kX8_called) (pc := 34) (len := 3) (k := 167) (n := 2) (c := 20) (as := [.ref 237, .int x4]) (st0 := []) rfl rfl rfl rfl rfl (sk_237 (σ := σ) h) rfl)
  · refine (e_iload_n (code := kX8_called) (pc := 66) rfl rfl).trans ?_
    exact e_ireturn rfl
theorem b_X8_called_37 {C : aCall} {σ : aSt} {x1 x2 x3 x4 y0 : Int32} {o5 : Option Value} : b_R C kX8_called [] (37, [some (.ref 237), some (.int x1), some (.int x2), some (.int x3), some (.int x4), o5], [.int y0], σ) = b_G C kX8_called [] 38 41 [some (.ref 237), some (.int x1), some (.int x2), some (.int x3), some (.int x4), o5] [] (C 162 [.int y0, .int x1] σ) := by
  refine (e_iload_n (code := kX8_called) (pc := 37) rfl rfl).trans ?_
  exact (e_callS (code := kX8_called) (pc := 38) (len := 3) (k := 162) (n := 2) (as := [.int y0, .int x1]) (st0 := []) rfl rfl rfl rfl)
theorem b_X8_called_41 {C : aCall} {σ : aSt} {x1 x2 x3 x4 y0 : Int32} {o5 : Option Value} : b_R C kX8_called [] (41, [some (.ref 237), some (.int x1), some (.int x2), some (.int x3), some (.int x4), o5], [.int y0], σ) = (if x2 = ((-1)) then b_R C kX8_called [] (54, [some (.ref 237), some (.int x1), some (.int x2), some (.int x3), some (.int x4), some (.int y0)], [], σ) else (if y0 < x3 then b_R C kX8_called [] (54, [some (.ref 237), some (.int x1), some (.int x2), some (.int x3), some (.int x4), some (.int y0)], [], σ) else b_R C kX8_called [] (60, [some (.ref 237), some (.int x1), some (.int x2), some (.int x3), some (.int x4), some (.int y0)], [], σ))) := by
  refine (e_istore (code := kX8_called) (pc := 41) rfl rfl rfl).trans ?_
  refine (e_iload_n (code := kX8_called) (pc := 43) rfl rfl).trans ?_
  refine (e_iconst (code := kX8_called) (pc := 44) rfl).trans ?_
  refine (e_iceq (code := kX8_called) (pc := 45) rfl).trans ?_
  refine b_ite ?_ ?_
  · rfl
  · refine (e_iload (code := kX8_called) (pc := 48) rfl rfl).trans ?_
    refine (e_iload_n (code := kX8_called) (pc := 50) rfl rfl).trans ?_
    refine (e_icge (code := kX8_called) (pc := 51) rfl).trans ?_
    refine b_ite ?_ ?_
    · rfl
    · rfl
theorem b_X8_called_54 {C : aCall} {σ : aSt} {x1 x2 x3 x4 x5 : Int32} : b_R C kX8_called [] (54, [some (.ref 237), some (.int x1), some (.int x2), some (.int x3), some (.int x4), some (.int x5)], [], σ) = b_R C kX8_called [] (60, [some (.ref 237), some (.int x1), some (.int x4), some (.int x5), some (.int x4), some (.int x5)], [], σ) := by
  refine (e_iload (code := kX8_called) (pc := 54) rfl rfl).trans ?_
  refine (e_istore_n (code := kX8_called) (pc := 56) rfl rfl rfl).trans ?_
  refine (e_iload (code := kX8_called) (pc := 57) rfl rfl).trans ?_
  refine (e_istore_n (code := kX8_called) (pc := 59) rfl rfl rfl).trans ?_
  rfl
theorem b_X8_called_60 {C : aCall} {σ : aSt} {x1 x2 x3 x4 x5 : Int32} : b_R C kX8_called [] (60, [some (.ref 237), some (.int x1), some (.int x2), some (.int x3), some (.int x4), some (.int x5)], [], σ) = b_R C kX8_called [] (20, [some (.ref 237), some (.int x1), some (.int x2), some (.int x3), some (.int (x4 + nI 1)), some (.int x5)], [], σ) := by
  refine (e_iinc (code := kX8_called) (pc := 60) rfl rfl rfl rfl).trans ?_
  refine (e_goto (code := kX8_called) (pc := 63) rfl).trans ?_
  rfl
theorem n_X8_allBestParts {P : aCall} {d : Nat} {σ : aSt} (hd : 1 ≤ d) : a_call a_tab P d 185 [.ref 237] σ = b_R (a_call a_tab P (d - 1)) kX8_allBestParts [] (0, [some (.ref 237), none, none], [], σ) := e_call hd at_X8_allBestParts rfl
theorem b_X8_allBestParts_0 {C : aCall} {σ : aSt} : b_R C kX8_allBestParts [] (0, [some (.ref 237), none, none], [], σ) = b_R C kX8_allBestParts [] (4, [some (.ref 237), some (.int (nI 0)), some (.int (nI 0))], [], σ) := by
  refine (e_iconst (code := kX8_allBestParts) (pc := 0) rfl).trans ?_
  refine (e_istore_n (code := kX8_allBestParts) (pc := 1) rfl rfl rfl).trans ?_
  refine (e_iconst (code := kX8_allBestParts) (pc := 2) rfl).trans ?_
  refine (e_istore_n (code := kX8_allBestParts) (pc := 3) rfl rfl rfl).trans ?_
  rfl
theorem b_X8_allBestParts_4 {C : aCall} {σ : aSt} {x1 x2 : Int32} (h : Sh σ) : b_R C kX8_allBestParts [] (4, [some (.ref 237), some (.int x1), some (.int x2)], [], σ) = (if x2 < (a_I σ 237 13) then b_gd (a_in x2 3) (b_R C kX8_allBestParts [] (4, [some (.ref 237), some (.int (x1 + (a_I σ 245 (Int32.toNatClampNeg x2)))), some (.int (x2 + nI 1))], [], σ)) else some (.inl (some (.int x1)), σ)) := by
  refine (e_iload_n (code := kX8_allBestParts) (pc := 4) rfl rfl).trans ?_
  refine (e_aload_n (code := kX8_allBestParts) (pc := 5) rfl rfl).trans ?_
  refine (e_getI (code := kX8_allBestParts) (pc := 6) (c := 10) rfl (sk_237 (σ := σ) h) rfl).trans ?_
  refine (e_icge (code := kX8_allBestParts) (pc := 9) rfl).trans ?_
  refine b_ite ?_ ?_
  · refine (e_iload_n (code := kX8_allBestParts) (pc := 12) rfl rfl).trans ?_
    refine (e_aload_n (code := kX8_allBestParts) (pc := 13) rfl rfl).trans ?_
    refine (e_getR (code := kX8_allBestParts) (pc := 14) (c := 10) rfl (sk_237 (σ := σ) h) (sr_237_12 (σ := σ) h)).trans ?_
    refine (e_iload_n (code := kX8_allBestParts) (pc := 17) rfl rfl).trans ?_
    refine (e_iaload (code := kX8_allBestParts) (pc := 18) rfl (.inl (sk_245 (σ := σ) h)) (sl_245 (σ := σ) h)).trans ?_
    refine b_gd_c ?_
    refine (e_iadd (code := kX8_allBestParts) (pc := 19) rfl).trans ?_
    refine (e_istore_n (code := kX8_allBestParts) (pc := 20) rfl rfl rfl).trans ?_
    refine (e_iinc (code := kX8_allBestParts) (pc := 21) rfl rfl rfl rfl).trans ?_
    refine (e_goto (code := kX8_allBestParts) (pc := 24) rfl).trans ?_
    rfl
  · refine (e_iload_n (code := kX8_allBestParts) (pc := 27) rfl rfl).trans ?_
    exact e_ireturn rfl
theorem n_X8_nearest {P : aCall} {d : Nat} {σ : aSt} {x1 x2 x3 : Int32} (hd : 1 ≤ d) : a_call a_tab P d 186 [.ref 237, .int x1, .int x2, .int x3] σ = b_R (a_call a_tab P (d - 1)) kX8_nearest [] (0, [some (.ref 237), some (.int x1), some (.int x2), some (.int x3), none], [], σ) := e_call hd at_X8_nearest rfl
theorem b_X8_nearest_0 {C : aCall} {σ : aSt} {x1 x2 x3 : Int32} : b_R C kX8_nearest [] (0, [some (.ref 237), some (.int x1), some (.int x2), some (.int x3), none], [], σ) = b_G C kX8_nearest [] 5 8 [some (.ref 237), some (.int x1), some (.int x2), some (.int x3), none] [.ref 237] (C 147 [.int x3, .int (nI 0), .int (nI 9)] σ) := by
  refine (e_aload_n (code := kX8_nearest) (pc := 0) rfl rfl).trans ?_
  refine (e_iload_n (code := kX8_nearest) (pc := 1) rfl rfl).trans ?_
  refine (e_iconst (code := kX8_nearest) (pc := 2) rfl).trans ?_
  refine (e_bipush (code := kX8_nearest) (pc := 3) rfl).trans ?_
  exact (e_callS (code := kX8_nearest) (pc := 5) (len := 3) (k := 147) (n := 3) (as := [.int x3, .int (nI 0), .int (nI 9)]) (st0 := [.ref 237]) rfl rfl rfl rfl)
theorem b_X8_nearest_8 {C : aCall} {σ : aSt} {x1 x2 x3 y0 : Int32} : b_R C kX8_nearest [] (8, [some (.ref 237), some (.int x1), some (.int x2), some (.int x3), none], [.int y0, .ref 237], σ) = (if y0 = 0 then b_R C kX8_nearest [] (36, [some (.ref 237), some (.int x1), some (.int x2), some (.int x3), none], [.int (nI 1), .ref 237], σ) else b_G C kX8_nearest [] 16 19 [some (.ref 237), some (.int x1), some (.int x2), some (.int x3), none] [.ref 237] (C 152 [.int x1] σ)) := by
  refine (e_ifne (code := kX8_nearest) (pc := 8) rfl).trans ?_
  refine b_ite ?_ ?_
  · refine (e_iconst (code := kX8_nearest) (pc := 11) rfl).trans ?_
    refine (e_goto (code := kX8_nearest) (pc := 12) rfl).trans ?_
    rfl
  · refine (e_iload_n (code := kX8_nearest) (pc := 15) rfl rfl).trans ?_
    exact (e_callS (code := kX8_nearest) (pc := 16) (len := 3) (k := 152) (n := 1) (as := [.int x1]) (st0 := [.ref 237]) rfl rfl rfl rfl)
theorem b_X8_nearest_19 {C : aCall} {σ : aSt} {x1 x2 x3 y0 : Int32} : b_R C kX8_nearest [] (19, [some (.ref 237), some (.int x1), some (.int x2), some (.int x3), none], [.int y0, .ref 237], σ) = (if y0 = 0 then b_R C kX8_nearest [] (35, [some (.ref 237), some (.int x1), some (.int x2), some (.int x3), none], [.ref 237], σ) else b_G C kX8_nearest [] 25 28 [some (.ref 237), some (.int x1), some (.int x2), some (.int x3), none] [.ref 237] (C 147 [.int x2, .int (nI 1), .int (nI 3)] σ)) := by
  refine (e_ifeq (code := kX8_nearest) (pc := 19) rfl).trans ?_
  refine b_ite ?_ ?_
  · rfl
  · refine (e_iload_n (code := kX8_nearest) (pc := 22) rfl rfl).trans ?_
    refine (e_iconst (code := kX8_nearest) (pc := 23) rfl).trans ?_
    refine (e_iconst (code := kX8_nearest) (pc := 24) rfl).trans ?_
    exact (e_callS (code := kX8_nearest) (pc := 25) (len := 3) (k := 147) (n := 3) (as := [.int x2, .int (nI 1), .int (nI 3)]) (st0 := [.ref 237]) rfl rfl rfl rfl)
theorem b_X8_nearest_28 {C : aCall} {σ : aSt} {x1 x2 x3 y0 : Int32} : b_R C kX8_nearest [] (28, [some (.ref 237), some (.int x1), some (.int x2), some (.int x3), none], [.int y0, .ref 237], σ) = (if y0 = 0 then b_R C kX8_nearest [] (35, [some (.ref 237), some (.int x1), some (.int x2), some (.int x3), none], [.ref 237], σ) else b_R C kX8_nearest [] (36, [some (.ref 237), some (.int x1), some (.int x2), some (.int x3), none], [.int (nI 0), .ref 237], σ)) := by
  refine (e_ifeq (code := kX8_nearest) (pc := 28) rfl).trans ?_
  refine b_ite ?_ ?_
  · rfl
  · refine (e_iconst (code := kX8_nearest) (pc := 31) rfl).trans ?_
    refine (e_goto (code := kX8_nearest) (pc := 32) rfl).trans ?_
    rfl
theorem b_X8_nearest_35 {C : aCall} {σ : aSt} {x1 x2 x3 : Int32} : b_R C kX8_nearest [] (35, [some (.ref 237), some (.int x1), some (.int x2), some (.int x3), none], [.ref 237], σ) = b_R C kX8_nearest [] (36, [some (.ref 237), some (.int x1), some (.int x2), some (.int x3), none], [.int (nI 2), .ref 237], σ) := by
  refine (e_iconst (code := kX8_nearest) (pc := 35) rfl).trans ?_
  rfl
theorem b_X8_nearest_36 {C : aCall} {σ : aSt} {x1 x2 x3 y0 : Int32} (h : Sh σ) : b_R C kX8_nearest [] (36, [some (.ref 237), some (.int x1), some (.int x2), some (.int x3), none], [.int y0, .ref 237], σ) = (if (a_I (a_setI σ 237 6 y0) 237 6) = 0 then b_G C kX8_nearest [] 51 54 [some (.ref 237), some (.int x1), some (.int x2), some (.int x3), none] [] (C 176 [.ref 237, .int x1, .int x2] (a_setI σ 237 6 y0)) else some (.inl (some (.int (nI 0))), (a_setI σ 237 6 y0))) := by
  refine (e_putI (code := kX8_nearest) (pc := 36) (c := 10) rfl (sk_237 (σ := σ) h) (h_100 rfl)).trans ?_
  refine (e_aload_n (code := kX8_nearest) (pc := 39) (σ := (a_setI σ 237 6 y0)) rfl rfl).trans ?_
  refine (e_getI (code := kX8_nearest) (pc := 40) (σ := (a_setI σ 237 6 y0)) (c := 10) rfl (sk_237 (σ := σ) h) rfl).trans ?_
  refine (e_ifeq (code := kX8_nearest) (pc := 43) (σ := (a_setI σ 237 6 y0)) rfl).trans ?_
  refine b_ite ?_ ?_
  · refine (e_aload_n (code := kX8_nearest) (pc := 48) (σ := (a_setI σ 237 6 y0)) rfl rfl).trans ?_
    refine (e_iload_n (code := kX8_nearest) (pc := 49) (σ := (a_setI σ 237 6 y0)) rfl rfl).trans ?_
    refine (e_iload_n (code := kX8_nearest) (pc := 50) (σ := (a_setI σ 237 6 y0)) rfl rfl).trans ?_
    exact (e_callV (σ := (a_setI σ 237 6 y0)) (code := kX8_nearest) (pc := 51) (len := 3) (k := 176) (n := 3) (c := 20) (as := [.ref 237, .int x1, .int x2]) (st0 := []) rfl rfl rfl rfl rfl (sk_237 (σ := σ) h) rfl)
  · refine (e_iconst (code := kX8_nearest) (pc := 46) (σ := (a_setI σ 237 6 y0)) rfl).trans ?_
    exact e_ireturn rfl
theorem b_X8_nearest_54 {C : aCall} {σ : aSt} {x1 x2 x3 : Int32} (h : Sh σ) : b_R C kX8_nearest [] (54, [some (.ref 237), some (.int x1), some (.int x2), some (.int x3), none], [], σ) = (if (a_I σ 237 13) = 0 then some (.inl (some (.int ((-1)))), σ) else b_R C kX8_nearest [] (b_tsw 64 52 0 3 #[32, 37, 42, 47] x3, [some (.ref 237), some (.int x1), some (.int x2), some (.int x3), none], [], σ)) := by
  refine (e_aload_n (code := kX8_nearest) (pc := 54) rfl rfl).trans ?_
  refine (e_getI (code := kX8_nearest) (pc := 55) (c := 10) rfl (sk_237 (σ := σ) h) rfl).trans ?_
  refine (e_ifne (code := kX8_nearest) (pc := 58) rfl).trans ?_
  refine b_ite ?_ ?_
  · refine (e_iconst (code := kX8_nearest) (pc := 61) rfl).trans ?_
    exact e_ireturn rfl
  · refine (e_iload_n (code := kX8_nearest) (pc := 63) rfl rfl).trans ?_
    refine (e_tableswitch (code := kX8_nearest) (pc := 64) rfl rfl).trans ?_
    rfl
theorem b_X8_nearest_96 {C : aCall} {σ : aSt} {x1 x2 x3 : Int32} (h : Sh σ) : b_R C kX8_nearest [] (96, [some (.ref 237), some (.int x1), some (.int x2), some (.int x3), none], [], σ) = some (.inl (some (.int (a_I σ 237 15))), σ) := by
  refine (e_aload_n (code := kX8_nearest) (pc := 96) rfl rfl).trans ?_
  refine (e_getI (code := kX8_nearest) (pc := 97) (c := 10) rfl (sk_237 (σ := σ) h) rfl).trans ?_
  exact e_ireturn rfl
theorem b_X8_nearest_101 {C : aCall} {σ : aSt} {x1 x2 x3 : Int32} (h : Sh σ) : b_R C kX8_nearest [] (101, [some (.ref 237), some (.int x1), some (.int x2), some (.int x3), none], [], σ) = some (.inl (some (.int (a_I σ 237 13))), σ) := by
  refine (e_aload_n (code := kX8_nearest) (pc := 101) rfl rfl).trans ?_
  refine (e_getI (code := kX8_nearest) (pc := 102) (c := 10) rfl (sk_237 (σ := σ) h) rfl).trans ?_
  exact e_ireturn rfl
theorem b_X8_nearest_106 {C : aCall} {σ : aSt} {x1 x2 x3 : Int32} (h : Sh σ) : b_R C kX8_nearest [] (106, [some (.ref 237), some (.int x1), some (.int x2), some (.int x3), none], [], σ) = b_G C kX8_nearest [] 107 110 [some (.ref 237), some (.int x1), some (.int x2), some (.int x3), none] [] (C 185 [.ref 237] σ) := by
  refine (e_aload_n (code := kX8_nearest) (pc := 106) rfl rfl).trans ?_
  exact (e_callV (σ := σ) (code := kX8_nearest) (pc := 107) (len := 3) (k := 185) (n := 1) (c := 20) (as := [.ref 237]) (st0 := []) rfl rfl rfl rfl rfl (sk_237 (σ := σ) h) rfl)
theorem b_X8_nearest_110 {C : aCall} {σ : aSt} {x1 x2 x3 y0 : Int32} : b_R C kX8_nearest [] (110, [some (.ref 237), some (.int x1), some (.int x2), some (.int x3), none], [.int y0], σ) = some (.inl (some (.int y0)), σ) := by
  exact e_ireturn rfl
theorem b_X8_nearest_111 {C : aCall} {σ : aSt} {x1 x2 x3 : Int32} (h : Sh σ) : b_R C kX8_nearest [] (111, [some (.ref 237), some (.int x1), some (.int x2), some (.int x3), none], [], σ) = some (.inl (some (.int (a_I σ 237 14))), σ) := by
  refine (e_aload_n (code := kX8_nearest) (pc := 111) rfl rfl).trans ?_
  refine (e_getI (code := kX8_nearest) (pc := 112) (c := 10) rfl (sk_237 (σ := σ) h) rfl).trans ?_
  exact e_ireturn rfl
theorem b_X8_nearest_116 {C : aCall} {σ : aSt} {x1 x2 x3 : Int32} (h : Sh σ) : b_R C kX8_nearest [] (116, [some (.ref 237), some (.int x1), some (.int x2), some (.int x3), none], [], σ) = (if ((x3 - (nI 4)) - (x3 - (nI 4)) / (nI 3) * (nI 3)) < (a_I σ 237 13) then (if x3 < (nI 7) then b_gd (a_in ((x3 - (nI 4)) - (x3 - (nI 4)) / (nI 3) * (nI 3)) 3) (b_R C kX8_nearest [] (159, [some (.ref 237), some (.int x1), some (.int x2), some (.int x3), some (.int ((x3 - (nI 4)) - (x3 - (nI 4)) / (nI 3) * (nI 3)))], [.int (a_I σ 244 (Int32.toNatClampNeg ((x3 - (nI 4)) - (x3 - (nI 4)) / (nI 3) * (nI 3))))], σ)) else b_gd (a_in ((x3 - (nI 4)) - (x3 - (nI 4)) / (nI 3) * (nI 3)) 3) (b_R C kX8_nearest [] (159, [some (.ref 237), some (.int x1), some (.int x2), some (.int x3), some (.int ((x3 - (nI 4)) - (x3 - (nI 4)) / (nI 3) * (nI 3)))], [.int (a_I σ 245 (Int32.toNatClampNeg ((x3 - (nI 4)) - (x3 - (nI 4)) / (nI 3) * (nI 3))))], σ))) else b_R C kX8_nearest [] (159, [some (.ref 237), some (.int x1), some (.int x2), some (.int x3), some (.int ((x3 - (nI 4)) - (x3 - (nI 4)) / (nI 3) * (nI 3)))], [.int ((-1))], σ)) := by
  refine (e_iload_n (code := kX8_nearest) (pc := 116) rfl rfl).trans ?_
  refine (e_iconst (code := kX8_nearest) (pc := 117) rfl).trans ?_
  refine (e_isub (code := kX8_nearest) (pc := 118) rfl).trans ?_
  refine (e_iconst (code := kX8_nearest) (pc := 119) rfl).trans ?_
  refine (e_irem (code := kX8_nearest) (pc := 120) rfl).trans ((b_gd_t (by decide)).trans ?_)
  refine (e_istore (code := kX8_nearest) (pc := 121) rfl rfl rfl).trans ?_
  refine (e_iload (code := kX8_nearest) (pc := 123) rfl rfl).trans ?_
  refine (e_aload_n (code := kX8_nearest) (pc := 125) rfl rfl).trans ?_
  refine (e_getI (code := kX8_nearest) (pc := 126) (c := 10) rfl (sk_237 (σ := σ) h) rfl).trans ?_
  refine (e_iclt (code := kX8_nearest) (pc := 129) rfl).trans ?_
  refine b_ite ?_ ?_
  · refine (e_iload_n (code := kX8_nearest) (pc := 136) rfl rfl).trans ?_
    refine (e_bipush (code := kX8_nearest) (pc := 137) rfl).trans ?_
    refine (e_icge (code := kX8_nearest) (pc := 139) rfl).trans ?_
    refine b_ite ?_ ?_
    · refine (e_aload_n (code := kX8_nearest) (pc := 142) rfl rfl).trans ?_
      refine (e_getR (code := kX8_nearest) (pc := 143) (c := 10) rfl (sk_237 (σ := σ) h) (sr_237_11 (σ := σ) h)).trans ?_
      refine (e_iload (code := kX8_nearest) (pc := 146) rfl rfl).trans ?_
      refine (e_iaload (code := kX8_nearest) (pc := 148) rfl (.inl (sk_244 (σ := σ) h)) (sl_244 (σ := σ) h)).trans ?_
      refine b_gd_c ?_
      refine (e_goto (code := kX8_nearest) (pc := 149) rfl).trans ?_
      rfl
    · refine (e_aload_n (code := kX8_nearest) (pc := 152) rfl rfl).trans ?_
      refine (e_getR (code := kX8_nearest) (pc := 153) (c := 10) rfl (sk_237 (σ := σ) h) (sr_237_12 (σ := σ) h)).trans ?_
      refine (e_iload (code := kX8_nearest) (pc := 156) rfl rfl).trans ?_
      refine (e_iaload (code := kX8_nearest) (pc := 158) rfl (.inl (sk_245 (σ := σ) h)) (sl_245 (σ := σ) h)).trans ?_
      refine b_gd_c ?_
      rfl
  · refine (e_iconst (code := kX8_nearest) (pc := 132) rfl).trans ?_
    refine (e_goto (code := kX8_nearest) (pc := 133) rfl).trans ?_
    rfl
theorem b_X8_nearest_159 {C : aCall} {σ : aSt} {x1 x2 x3 x4 y0 : Int32} : b_R C kX8_nearest [] (159, [some (.ref 237), some (.int x1), some (.int x2), some (.int x3), some (.int x4)], [.int y0], σ) = some (.inl (some (.int y0)), σ) := by
  exact e_ireturn rfl
theorem n_X8_fewest {P : aCall} {d : Nat} {σ : aSt} {x1 : Int32} (hd : 1 ≤ d) : a_call a_tab P d 187 [.ref 237, .int x1] σ = b_R (a_call a_tab P (d - 1)) kX8_fewest [] (0, [some (.ref 237), some (.int x1), none], [], σ) := e_call hd at_X8_fewest rfl
theorem b_X8_fewest_0 {C : aCall} {σ : aSt} {x1 : Int32} : b_R C kX8_fewest [] (0, [some (.ref 237), some (.int x1), none], [], σ) = b_G C kX8_fewest [] 2 5 [some (.ref 237), some (.int x1), none] [.ref 237] (C 152 [.int x1] σ) := by
  refine (e_aload_n (code := kX8_fewest) (pc := 0) rfl rfl).trans ?_
  refine (e_iload_n (code := kX8_fewest) (pc := 1) rfl rfl).trans ?_
  exact (e_callS (code := kX8_fewest) (pc := 2) (len := 3) (k := 152) (n := 1) (as := [.int x1]) (st0 := [.ref 237]) rfl rfl rfl rfl)
theorem b_X8_fewest_5 {C : aCall} {σ : aSt} {x1 y0 : Int32} (h : Sh σ) : b_R C kX8_fewest [] (5, [some (.ref 237), some (.int x1), none], [.int y0, .ref 237], σ) = b_G C kX8_fewest [] 5 8 [some (.ref 237), some (.int x1), none] [] (C 148 [.ref 237, .int y0] σ) := by
  exact (e_callV (σ := σ) (code := kX8_fewest) (pc := 5) (len := 3) (k := 148) (n := 2) (c := 20) (as := [.ref 237, .int y0]) (st0 := []) rfl rfl rfl rfl rfl (sk_237 (σ := σ) h) rfl)
theorem b_X8_fewest_8 {C : aCall} {σ : aSt} {x1 y0 : Int32} : b_R C kX8_fewest [] (8, [some (.ref 237), some (.int x1), none], [.int y0], σ) = (if y0 = 0 then b_R C kX8_fewest [] (15, [some (.ref 237), some (.int x1), some (.int (nI 1))], [], σ) else some (.inl (some (.int (nI 0))), σ)) := by
  refine (e_ifeq (code := kX8_fewest) (pc := 8) rfl).trans ?_
  refine b_ite ?_ ?_
  · refine (e_iconst (code := kX8_fewest) (pc := 13) rfl).trans ?_
    refine (e_istore_n (code := kX8_fewest) (pc := 14) rfl rfl rfl).trans ?_
    rfl
  · refine (e_iconst (code := kX8_fewest) (pc := 11) rfl).trans ?_
    exact e_ireturn rfl
theorem b_X8_fewest_15 {C : aCall} {σ : aSt} {x1 x2 : Int32} (h : Sh σ) : b_R C kX8_fewest [] (15, [some (.ref 237), some (.int x1), some (.int x2)], [], σ) = (if (nI 3) < x2 then some (.inl (some (.int ((-1)))), σ) else b_G C kX8_fewest [] 23 26 [some (.ref 237), some (.int x1), some (.int x2)] [] (C 176 [.ref 237, .int x1, .int x2] σ)) := by
  refine (e_iload_n (code := kX8_fewest) (pc := 15) rfl rfl).trans ?_
  refine (e_iconst (code := kX8_fewest) (pc := 16) rfl).trans ?_
  refine (e_icgt (code := kX8_fewest) (pc := 17) rfl).trans ?_
  refine b_ite ?_ ?_
  · refine (e_iconst (code := kX8_fewest) (pc := 54) rfl).trans ?_
    exact e_ireturn rfl
  · refine (e_aload_n (code := kX8_fewest) (pc := 20) rfl rfl).trans ?_
    refine (e_iload_n (code := kX8_fewest) (pc := 21) rfl rfl).trans ?_
    refine (e_iload_n (code := kX8_fewest) (pc := 22) rfl rfl).trans ?_
    exact (e_callV (σ := σ) (code := kX8_fewest) (pc := 23) (len := 3) (k := 176) (n := 3) (c := 20) (as := [.ref 237, .int x1, .int x2]) (st0 := []) rfl rfl rfl rfl rfl (sk_237 (σ := σ) h) rfl)
theorem b_X8_fewest_26 {C : aCall} {σ : aSt} {w : Nat} {x1 x2 : Int32} (h : Sh σ) (hw : Rw σ w) : b_R C kX8_fewest [] (26, [some (.ref 237), some (.int x1), some (.int x2)], [], σ) = (if 0 < (a_I σ 237 13) then b_gd (a_in (nI 4) 720) ((if (a_I σ w (Int32.toNatClampNeg (nI 4))) < (a_I σ 237 14) then b_R C kX8_fewest [] (48, [some (.ref 237), some (.int x1), some (.int x2)], [], σ) else some (.inl (some (.int x2)), σ))) else b_R C kX8_fewest [] (48, [some (.ref 237), some (.int x1), some (.int x2)], [], σ)) := by
  refine (e_aload_n (code := kX8_fewest) (pc := 26) rfl rfl).trans ?_
  refine (e_getI (code := kX8_fewest) (pc := 27) (c := 10) rfl (sk_237 (σ := σ) h) rfl).trans ?_
  refine (e_ifle (code := kX8_fewest) (pc := 30) rfl).trans ?_
  refine b_ite ?_ ?_
  · refine (e_aload_n (code := kX8_fewest) (pc := 33) rfl rfl).trans ?_
    refine (e_getI (code := kX8_fewest) (pc := 34) (c := 10) rfl (sk_237 (σ := σ) h) rfl).trans ?_
    refine (e_aload_n (code := kX8_fewest) (pc := 37) rfl rfl).trans ?_
    refine (e_getR (code := kX8_fewest) (pc := 38) (c := 10) rfl (sk_237 (σ := σ) h) hw.1).trans ?_
    refine (e_iconst (code := kX8_fewest) (pc := 41) rfl).trans ?_
    refine (e_iaload (code := kX8_fewest) (pc := 42) rfl (.inl hw.2.1) hw.2.2.2).trans ?_
    refine b_gd_c ?_
    refine (e_icgt (code := kX8_fewest) (pc := 43) rfl).trans ?_
    refine b_ite ?_ ?_
    · rfl
    · refine (e_iload_n (code := kX8_fewest) (pc := 46) rfl rfl).trans ?_
      exact e_ireturn rfl
  · rfl
theorem b_X8_fewest_48 {C : aCall} {σ : aSt} {x1 x2 : Int32} : b_R C kX8_fewest [] (48, [some (.ref 237), some (.int x1), some (.int x2)], [], σ) = b_R C kX8_fewest [] (15, [some (.ref 237), some (.int x1), some (.int (x2 + nI 1))], [], σ) := by
  refine (e_iinc (code := kX8_fewest) (pc := 48) rfl rfl rfl rfl).trans ?_
  refine (e_goto (code := kX8_fewest) (pc := 51) rfl).trans ?_
  rfl
theorem n_X8_strokesBy {P : aCall} {d : Nat} {σ : aSt} {x1 x2 : Int32} (hd : 1 ≤ d) : a_call a_tab P d 188 [.ref 237, .int x1, .int x2] σ = b_R (a_call a_tab P (d - 1)) kX8_strokesBy [] (0, [some (.ref 237), some (.int x1), some (.int x2)], [], σ) := e_call hd at_X8_strokesBy rfl
theorem b_X8_strokesBy_0 {C : aCall} {σ : aSt} {x1 x2 : Int32} (h : Sh σ) : b_R C kX8_strokesBy [] (0, [some (.ref 237), some (.int x1), some (.int x2)], [], σ) = b_G C kX8_strokesBy [] 7 10 [some (.ref 237), some (.int x1), some (.int x2)] [.ref 237] (C 155 [.ref 237, .int x1, .int ((nI 10) + x2)] σ) := by
  refine (e_aload_n (code := kX8_strokesBy) (pc := 0) rfl rfl).trans ?_
  refine (e_aload_n (code := kX8_strokesBy) (pc := 1) rfl rfl).trans ?_
  refine (e_iload_n (code := kX8_strokesBy) (pc := 2) rfl rfl).trans ?_
  refine (e_bipush (code := kX8_strokesBy) (pc := 3) rfl).trans ?_
  refine (e_iload_n (code := kX8_strokesBy) (pc := 5) rfl rfl).trans ?_
  refine (e_iadd (code := kX8_strokesBy) (pc := 6) rfl).trans ?_
  exact (e_callV (σ := σ) (code := kX8_strokesBy) (pc := 7) (len := 3) (k := 155) (n := 3) (c := 20) (as := [.ref 237, .int x1, .int ((nI 10) + x2)]) (st0 := [.ref 237]) rfl rfl rfl rfl rfl (sk_237 (σ := σ) h) rfl)
theorem b_X8_strokesBy_10 {C : aCall} {σ : aSt} {x1 x2 y0 : Int32} (h : Sh σ) : b_R C kX8_strokesBy [] (10, [some (.ref 237), some (.int x1), some (.int x2)], [.int y0, .ref 237], σ) = b_G C kX8_strokesBy [] 11 14 [some (.ref 237), some (.int x1), some (.int x2)] [] (C 153 [.ref 237, .int y0, .int (nI 3)] σ) := by
  refine (e_iconst (code := kX8_strokesBy) (pc := 10) rfl).trans ?_
  exact (e_callV (σ := σ) (code := kX8_strokesBy) (pc := 11) (len := 3) (k := 153) (n := 3) (c := 20) (as := [.ref 237, .int y0, .int (nI 3)]) (st0 := []) rfl rfl rfl rfl rfl (sk_237 (σ := σ) h) rfl)
theorem b_X8_strokesBy_14 {C : aCall} {σ : aSt} {x1 x2 y0 : Int32} (h : Sh σ) : b_R C kX8_strokesBy [] (14, [some (.ref 237), some (.int x1), some (.int x2)], [.int y0], σ) = b_G C kX8_strokesBy [] 20 23 [some (.ref 237), some (.int x1), some (.int x2)] [.int y0] (C 155 [.ref 237, .int x1, .int ((nI 14) + x2)] σ) := by
  refine (e_aload_n (code := kX8_strokesBy) (pc := 14) rfl rfl).trans ?_
  refine (e_iload_n (code := kX8_strokesBy) (pc := 15) rfl rfl).trans ?_
  refine (e_bipush (code := kX8_strokesBy) (pc := 16) rfl).trans ?_
  refine (e_iload_n (code := kX8_strokesBy) (pc := 18) rfl rfl).trans ?_
  refine (e_iadd (code := kX8_strokesBy) (pc := 19) rfl).trans ?_
  exact (e_callV (σ := σ) (code := kX8_strokesBy) (pc := 20) (len := 3) (k := 155) (n := 3) (c := 20) (as := [.ref 237, .int x1, .int ((nI 14) + x2)]) (st0 := [.int y0]) rfl rfl rfl rfl rfl (sk_237 (σ := σ) h) rfl)
theorem b_X8_strokesBy_23 {C : aCall} {σ : aSt} {x1 x2 y0 y1 : Int32} : b_R C kX8_strokesBy [] (23, [some (.ref 237), some (.int x1), some (.int x2)], [.int y0, .int y1], σ) = b_gd (y0 ≠ 0) (some (.inl (some (.int (y1 / y0))), σ)) := by
  refine (e_idiv (code := kX8_strokesBy) (pc := 23) rfl).trans ?_
  refine b_gd_c ?_
  exact e_ireturn rfl
theorem n_X8_strokesOf {P : aCall} {d : Nat} {σ : aSt} {x1 : Int32} (hd : 1 ≤ d) : a_call a_tab P d 189 [.ref 237, .int x1] σ = b_R (a_call a_tab P (d - 1)) kX8_strokesOf [] (0, [some (.ref 237), some (.int x1), none, none], [], σ) := e_call hd at_X8_strokesOf rfl
theorem b_X8_strokesOf_0 {C : aCall} {σ : aSt} {x1 : Int32} : b_R C kX8_strokesOf [] (0, [some (.ref 237), some (.int x1), none, none], [], σ) = b_R C kX8_strokesOf [] (4, [some (.ref 237), some (.int x1), some (.int ((-1))), some (.int (nI 0))], [], σ) := by
  refine (e_iconst (code := kX8_strokesOf) (pc := 0) rfl).trans ?_
  refine (e_istore_n (code := kX8_strokesOf) (pc := 1) rfl rfl rfl).trans ?_
  refine (e_iconst (code := kX8_strokesOf) (pc := 2) rfl).trans ?_
  refine (e_istore_n (code := kX8_strokesOf) (pc := 3) rfl rfl rfl).trans ?_
  rfl
theorem b_X8_strokesOf_4 {C : aCall} {σ : aSt} {x1 x2 x3 : Int32} (h : Sh σ) : b_R C kX8_strokesOf [] (4, [some (.ref 237), some (.int x1), some (.int x2), some (.int x3)], [], σ) = b_G C kX8_strokesOf [] 9 12 [some (.ref 237), some (.int x1), some (.int x2), some (.int x3)] [.int x3] (C 155 [.ref 237, .int x1, .int (nI 9)] σ) := by
  refine (e_iload_n (code := kX8_strokesOf) (pc := 4) rfl rfl).trans ?_
  refine (e_aload_n (code := kX8_strokesOf) (pc := 5) rfl rfl).trans ?_
  refine (e_iload_n (code := kX8_strokesOf) (pc := 6) rfl rfl).trans ?_
  refine (e_bipush (code := kX8_strokesOf) (pc := 7) rfl).trans ?_
  exact (e_callV (σ := σ) (code := kX8_strokesOf) (pc := 9) (len := 3) (k := 155) (n := 3) (c := 20) (as := [.ref 237, .int x1, .int (nI 9)]) (st0 := [.int x3]) rfl rfl rfl rfl rfl (sk_237 (σ := σ) h) rfl)
theorem b_X8_strokesOf_12 {C : aCall} {σ : aSt} {x1 x2 x3 y0 y1 : Int32} (h : Sh σ) : b_R C kX8_strokesOf [] (12, [some (.ref 237), some (.int x1), some (.int x2), some (.int x3)], [.int y0, .int y1], σ) = (if y1 < y0 then (if x2 = ((-1)) then b_G C kX8_strokesOf [] 23 26 [some (.ref 237), some (.int x1), some (.int x2), some (.int x3)] [] (C 188 [.ref 237, .int x1, .int x3] σ) else b_G C kX8_strokesOf [] 33 36 [some (.ref 237), some (.int x1), some (.int x2), some (.int x3)] [.int x2] (C 188 [.ref 237, .int x1, .int x3] σ)) else some (.inl (some (.int x2)), σ)) := by
  refine (e_icge (code := kX8_strokesOf) (pc := 12) rfl).trans ?_
  refine b_ite ?_ ?_
  · refine (e_iload_n (code := kX8_strokesOf) (pc := 15) rfl rfl).trans ?_
    refine (e_iconst (code := kX8_strokesOf) (pc := 16) rfl).trans ?_
    refine (e_icne (code := kX8_strokesOf) (pc := 17) rfl).trans ?_
    refine b_ite ?_ ?_
    · refine (e_aload_n (code := kX8_strokesOf) (pc := 20) rfl rfl).trans ?_
      refine (e_iload_n (code := kX8_strokesOf) (pc := 21) rfl rfl).trans ?_
      refine (e_iload_n (code := kX8_strokesOf) (pc := 22) rfl rfl).trans ?_
      exact (e_callV (σ := σ) (code := kX8_strokesOf) (pc := 23) (len := 3) (k := 188) (n := 3) (c := 20) (as := [.ref 237, .int x1, .int x3]) (st0 := []) rfl rfl rfl rfl rfl (sk_237 (σ := σ) h) rfl)
    · refine (e_iload_n (code := kX8_strokesOf) (pc := 29) rfl rfl).trans ?_
      refine (e_aload_n (code := kX8_strokesOf) (pc := 30) rfl rfl).trans ?_
      refine (e_iload_n (code := kX8_strokesOf) (pc := 31) rfl rfl).trans ?_
      refine (e_iload_n (code := kX8_strokesOf) (pc := 32) rfl rfl).trans ?_
      exact (e_callV (σ := σ) (code := kX8_strokesOf) (pc := 33) (len := 3) (k := 188) (n := 3) (c := 20) (as := [.ref 237, .int x1, .int x3]) (st0 := [.int x2]) rfl rfl rfl rfl rfl (sk_237 (σ := σ) h) rfl)
  · refine (e_iload_n (code := kX8_strokesOf) (pc := 46) rfl rfl).trans ?_
    exact e_ireturn rfl
theorem b_X8_strokesOf_26 {C : aCall} {σ : aSt} {x1 x2 x3 y0 : Int32} : b_R C kX8_strokesOf [] (26, [some (.ref 237), some (.int x1), some (.int x2), some (.int x3)], [.int y0], σ) = b_R C kX8_strokesOf [] (39, [some (.ref 237), some (.int x1), some (.int x2), some (.int x3)], [.int y0], σ) := by
  refine (e_goto (code := kX8_strokesOf) (pc := 26) rfl).trans ?_
  rfl
theorem b_X8_strokesOf_36 {C : aCall} {σ : aSt} {x1 x2 x3 y0 y1 : Int32} : b_R C kX8_strokesOf [] (36, [some (.ref 237), some (.int x1), some (.int x2), some (.int x3)], [.int y0, .int y1], σ) = b_G C kX8_strokesOf [] 36 39 [some (.ref 237), some (.int x1), some (.int x2), some (.int x3)] [] (C 1000 [.int y1, .int y0] σ) := by
  exact (e_callS (code := kX8_strokesOf) (pc := 36) (len := 3) (k := 1000) (n := 2) (as := [.int y1, .int y0]) (st0 := []) rfl rfl rfl rfl)
theorem b_X8_strokesOf_39 {C : aCall} {σ : aSt} {x1 x2 x3 y0 : Int32} : b_R C kX8_strokesOf [] (39, [some (.ref 237), some (.int x1), some (.int x2), some (.int x3)], [.int y0], σ) = b_R C kX8_strokesOf [] (4, [some (.ref 237), some (.int x1), some (.int y0), some (.int (x3 + nI 1))], [], σ) := by
  refine (e_istore_n (code := kX8_strokesOf) (pc := 39) rfl rfl rfl).trans ?_
  refine (e_iinc (code := kX8_strokesOf) (pc := 40) rfl rfl rfl rfl).trans ?_
  refine (e_goto (code := kX8_strokesOf) (pc := 43) rfl).trans ?_
  rfl
theorem n_X8_strokes {P : aCall} {d : Nat} {σ : aSt} {x1 : Int32} (hd : 1 ≤ d) : a_call a_tab P d 190 [.ref 237, .int x1] σ = b_R (a_call a_tab P (d - 1)) kX8_strokes [] (0, [some (.ref 237), some (.int x1)], [], σ) := e_call hd at_X8_strokes rfl
theorem b_X8_strokes_0 {C : aCall} {σ : aSt} {x1 : Int32} (h : Sh σ) : b_R C kX8_strokes [] (0, [some (.ref 237), some (.int x1)], [], σ) = b_G C kX8_strokes [] 3 6 [some (.ref 237), some (.int x1)] [.ref 237] (C 150 [.ref 237, .int x1] σ) := by
  refine (e_aload_n (code := kX8_strokes) (pc := 0) rfl rfl).trans ?_
  refine (e_aload_n (code := kX8_strokes) (pc := 1) rfl rfl).trans ?_
  refine (e_iload_n (code := kX8_strokes) (pc := 2) rfl rfl).trans ?_
  exact (e_callV (σ := σ) (code := kX8_strokes) (pc := 3) (len := 3) (k := 150) (n := 2) (c := 20) (as := [.ref 237, .int x1]) (st0 := [.ref 237]) rfl rfl rfl rfl rfl (sk_237 (σ := σ) h) rfl)
theorem b_X8_strokes_6 {C : aCall} {σ : aSt} {x1 y0 : Int32} (h : Sh σ) : b_R C kX8_strokes [] (6, [some (.ref 237), some (.int x1)], [.int y0, .ref 237], σ) = b_G C kX8_strokes [] 6 9 [some (.ref 237), some (.int x1)] [] (C 148 [.ref 237, .int y0] σ) := by
  exact (e_callV (σ := σ) (code := kX8_strokes) (pc := 6) (len := 3) (k := 148) (n := 2) (c := 20) (as := [.ref 237, .int y0]) (st0 := []) rfl rfl rfl rfl rfl (sk_237 (σ := σ) h) rfl)
theorem b_X8_strokes_9 {C : aCall} {σ : aSt} {x1 y0 : Int32} (h : Sh σ) : b_R C kX8_strokes [] (9, [some (.ref 237), some (.int x1)], [.int y0], σ) = (if y0 = 0 then b_G C kX8_strokes [] 18 21 [some (.ref 237), some (.int x1)] [] (C 189 [.ref 237, .int x1] σ) else b_R C kX8_strokes [] (21, [some (.ref 237), some (.int x1)], [.int (nI 0)], σ)) := by
  refine (e_ifeq (code := kX8_strokes) (pc := 9) rfl).trans ?_
  refine b_ite ?_ ?_
  · refine (e_aload_n (code := kX8_strokes) (pc := 16) rfl rfl).trans ?_
    refine (e_iload_n (code := kX8_strokes) (pc := 17) rfl rfl).trans ?_
    exact (e_callV (σ := σ) (code := kX8_strokes) (pc := 18) (len := 3) (k := 189) (n := 2) (c := 20) (as := [.ref 237, .int x1]) (st0 := []) rfl rfl rfl rfl rfl (sk_237 (σ := σ) h) rfl)
  · refine (e_iconst (code := kX8_strokes) (pc := 12) rfl).trans ?_
    refine (e_goto (code := kX8_strokes) (pc := 13) rfl).trans ?_
    rfl
theorem b_X8_strokes_21 {C : aCall} {σ : aSt} {x1 y0 : Int32} : b_R C kX8_strokes [] (21, [some (.ref 237), some (.int x1)], [.int y0], σ) = some (.inl (some (.int y0)), σ) := by
  exact e_ireturn rfl
theorem n_X8_shortest {P : aCall} {d : Nat} {σ : aSt} {x1 : Int32} (hd : 1 ≤ d) : a_call a_tab P d 191 [.ref 237, .int x1] σ = b_R (a_call a_tab P (d - 1)) kX8_shortest [] (0, [some (.ref 237), some (.int x1), none, none, none], [], σ) := e_call hd at_X8_shortest rfl
theorem b_X8_shortest_0 {C : aCall} {σ : aSt} {x1 : Int32} (h : Sh σ) : b_R C kX8_shortest [] (0, [some (.ref 237), some (.int x1), none, none, none], [], σ) = b_G C kX8_shortest [] 3 6 [some (.ref 237), some (.int x1), none, none, none] [.ref 237] (C 150 [.ref 237, .int x1] σ) := by
  refine (e_aload_n (code := kX8_shortest) (pc := 0) rfl rfl).trans ?_
  refine (e_aload_n (code := kX8_shortest) (pc := 1) rfl rfl).trans ?_
  refine (e_iload_n (code := kX8_shortest) (pc := 2) rfl rfl).trans ?_
  exact (e_callV (σ := σ) (code := kX8_shortest) (pc := 3) (len := 3) (k := 150) (n := 2) (c := 20) (as := [.ref 237, .int x1]) (st0 := [.ref 237]) rfl rfl rfl rfl rfl (sk_237 (σ := σ) h) rfl)
theorem b_X8_shortest_6 {C : aCall} {σ : aSt} {x1 y0 : Int32} (h : Sh σ) : b_R C kX8_shortest [] (6, [some (.ref 237), some (.int x1), none, none, none], [.int y0, .ref 237], σ) = b_G C kX8_shortest [] 6 9 [some (.ref 237), some (.int x1), none, none, none] [] (C 148 [.ref 237, .int y0] σ) := by
  exact (e_callV (σ := σ) (code := kX8_shortest) (pc := 6) (len := 3) (k := 148) (n := 2) (c := 20) (as := [.ref 237, .int y0]) (st0 := []) rfl rfl rfl rfl rfl (sk_237 (σ := σ) h) rfl)
theorem b_X8_shortest_9 {C : aCall} {σ : aSt} {x1 y0 : Int32} : b_R C kX8_shortest [] (9, [some (.ref 237), some (.int x1), none, none, none], [.int y0], σ) = (if y0 = 0 then b_R C kX8_shortest [] (18, [some (.ref 237), some (.int x1), some (.int ((-1))), some (.int (nI 0)), none], [], σ) else some (.inl (some (.int (nI 0))), σ)) := by
  refine (e_ifeq (code := kX8_shortest) (pc := 9) rfl).trans ?_
  refine b_ite ?_ ?_
  · refine (e_iconst (code := kX8_shortest) (pc := 14) rfl).trans ?_
    refine (e_istore_n (code := kX8_shortest) (pc := 15) rfl rfl rfl).trans ?_
    refine (e_iconst (code := kX8_shortest) (pc := 16) rfl).trans ?_
    refine (e_istore_n (code := kX8_shortest) (pc := 17) rfl rfl rfl).trans ?_
    rfl
  · refine (e_iconst (code := kX8_shortest) (pc := 12) rfl).trans ?_
    exact e_ireturn rfl
theorem b_X8_shortest_18 {C : aCall} {σ : aSt} {x1 x2 x3 : Int32} {o4 : Option Value} (h : Sh σ) : b_R C kX8_shortest [] (18, [some (.ref 237), some (.int x1), some (.int x2), some (.int x3), o4], [], σ) = b_G C kX8_shortest [] 23 26 [some (.ref 237), some (.int x1), some (.int x2), some (.int x3), o4] [.int x3] (C 155 [.ref 237, .int x1, .int (nI 9)] σ) := by
  refine (e_iload_n (code := kX8_shortest) (pc := 18) rfl rfl).trans ?_
  refine (e_aload_n (code := kX8_shortest) (pc := 19) rfl rfl).trans ?_
  refine (e_iload_n (code := kX8_shortest) (pc := 20) rfl rfl).trans ?_
  refine (e_bipush (code := kX8_shortest) (pc := 21) rfl).trans ?_
  exact (e_callV (σ := σ) (code := kX8_shortest) (pc := 23) (len := 3) (k := 155) (n := 3) (c := 20) (as := [.ref 237, .int x1, .int (nI 9)]) (st0 := [.int x3]) rfl rfl rfl rfl rfl (sk_237 (σ := σ) h) rfl)
theorem b_X8_shortest_26 {C : aCall} {σ : aSt} {x1 x2 x3 y0 y1 : Int32} {o4 : Option Value} (h : Sh σ) : b_R C kX8_shortest [] (26, [some (.ref 237), some (.int x1), some (.int x2), some (.int x3), o4], [.int y0, .int y1], σ) = (if y1 < y0 then b_G C kX8_shortest [] 35 38 [some (.ref 237), some (.int x1), some (.int x2), some (.int x3), o4] [] (C 155 [.ref 237, .int x1, .int ((nI 10) + x3)] σ) else some (.inl (some (.int x2)), σ)) := by
  refine (e_icge (code := kX8_shortest) (pc := 26) rfl).trans ?_
  refine b_ite ?_ ?_
  · refine (e_aload_n (code := kX8_shortest) (pc := 29) rfl rfl).trans ?_
    refine (e_iload_n (code := kX8_shortest) (pc := 30) rfl rfl).trans ?_
    refine (e_bipush (code := kX8_shortest) (pc := 31) rfl).trans ?_
    refine (e_iload_n (code := kX8_shortest) (pc := 33) rfl rfl).trans ?_
    refine (e_iadd (code := kX8_shortest) (pc := 34) rfl).trans ?_
    exact (e_callV (σ := σ) (code := kX8_shortest) (pc := 35) (len := 3) (k := 155) (n := 3) (c := 20) (as := [.ref 237, .int x1, .int ((nI 10) + x3)]) (st0 := []) rfl rfl rfl rfl rfl (sk_237 (σ := σ) h) rfl)
  · refine (e_iload_n (code := kX8_shortest) (pc := 78) rfl rfl).trans ?_
    exact e_ireturn rfl
theorem b_X8_shortest_38 {C : aCall} {σ : aSt} {x1 x2 x3 y0 : Int32} {o4 : Option Value} (h : Sh σ) : b_R C kX8_shortest [] (38, [some (.ref 237), some (.int x1), some (.int x2), some (.int x3), o4], [.int y0], σ) = b_G C kX8_shortest [] 43 46 [some (.ref 237), some (.int x1), some (.int x2), some (.int x3), some (.int y0)] [] (C 188 [.ref 237, .int x1, .int x3] σ) := by
  refine (e_istore (code := kX8_shortest) (pc := 38) rfl rfl rfl).trans ?_
  refine (e_aload_n (code := kX8_shortest) (pc := 40) rfl rfl).trans ?_
  refine (e_iload_n (code := kX8_shortest) (pc := 41) rfl rfl).trans ?_
  refine (e_iload_n (code := kX8_shortest) (pc := 42) rfl rfl).trans ?_
  exact (e_callV (σ := σ) (code := kX8_shortest) (pc := 43) (len := 3) (k := 188) (n := 3) (c := 20) (as := [.ref 237, .int x1, .int x3]) (st0 := []) rfl rfl rfl rfl rfl (sk_237 (σ := σ) h) rfl)
theorem b_X8_shortest_46 {C : aCall} {σ : aSt} {x1 x2 x3 x4 y0 : Int32} (h : Sh σ) : b_R C kX8_shortest [] (46, [some (.ref 237), some (.int x1), some (.int x2), some (.int x3), some (.int x4)], [.int y0], σ) = b_G C kX8_shortest [] 48 51 [some (.ref 237), some (.int x1), some (.int x2), some (.int x3), some (.int x4)] [.int y0] (C 189 [.ref 237, .int x1] σ) := by
  refine (e_aload_n (code := kX8_shortest) (pc := 46) rfl rfl).trans ?_
  refine (e_iload_n (code := kX8_shortest) (pc := 47) rfl rfl).trans ?_
  exact (e_callV (σ := σ) (code := kX8_shortest) (pc := 48) (len := 3) (k := 189) (n := 2) (c := 20) (as := [.ref 237, .int x1]) (st0 := [.int y0]) rfl rfl rfl rfl rfl (sk_237 (σ := σ) h) rfl)
theorem b_X8_shortest_51 {C : aCall} {σ : aSt} {x1 x2 x3 x4 y0 y1 : Int32} : b_R C kX8_shortest [] (51, [some (.ref 237), some (.int x1), some (.int x2), some (.int x3), some (.int x4)], [.int y0, .int y1], σ) = (if y1 = y0 then (if x2 = ((-1)) then b_R C kX8_shortest [] (65, [some (.ref 237), some (.int x1), some (.int x2), some (.int x3), some (.int x4)], [], σ) else (if x4 < x2 then b_R C kX8_shortest [] (65, [some (.ref 237), some (.int x1), some (.int x2), some (.int x3), some (.int x4)], [], σ) else b_R C kX8_shortest [] (70, [some (.ref 237), some (.int x1), some (.int x2), some (.int x3), some (.int x4)], [], σ))) else b_R C kX8_shortest [] (70, [some (.ref 237), some (.int x1), some (.int x2), some (.int x3), some (.int x4)], [], σ)) := by
  refine (e_icne (code := kX8_shortest) (pc := 51) rfl).trans ?_
  refine b_ite ?_ ?_
  · refine (e_iload_n (code := kX8_shortest) (pc := 54) rfl rfl).trans ?_
    refine (e_iconst (code := kX8_shortest) (pc := 55) rfl).trans ?_
    refine (e_iceq (code := kX8_shortest) (pc := 56) rfl).trans ?_
    refine b_ite ?_ ?_
    · rfl
    · refine (e_iload (code := kX8_shortest) (pc := 59) rfl rfl).trans ?_
      refine (e_iload_n (code := kX8_shortest) (pc := 61) rfl rfl).trans ?_
      refine (e_icge (code := kX8_shortest) (pc := 62) rfl).trans ?_
      refine b_ite ?_ ?_
      · rfl
      · rfl
  · rfl
theorem b_X8_shortest_65 {C : aCall} {σ : aSt} {x1 x2 x3 x4 : Int32} : b_R C kX8_shortest [] (65, [some (.ref 237), some (.int x1), some (.int x2), some (.int x3), some (.int x4)], [], σ) = b_R C kX8_shortest [] (71, [some (.ref 237), some (.int x1), some (.int x2), some (.int x3), some (.int x4)], [.int x4], σ) := by
  refine (e_iload (code := kX8_shortest) (pc := 65) rfl rfl).trans ?_
  refine (e_goto (code := kX8_shortest) (pc := 67) rfl).trans ?_
  rfl
theorem b_X8_shortest_70 {C : aCall} {σ : aSt} {x1 x2 x3 x4 : Int32} : b_R C kX8_shortest [] (70, [some (.ref 237), some (.int x1), some (.int x2), some (.int x3), some (.int x4)], [], σ) = b_R C kX8_shortest [] (71, [some (.ref 237), some (.int x1), some (.int x2), some (.int x3), some (.int x4)], [.int x2], σ) := by
  refine (e_iload_n (code := kX8_shortest) (pc := 70) rfl rfl).trans ?_
  rfl
theorem b_X8_shortest_71 {C : aCall} {σ : aSt} {x1 x2 x3 x4 y0 : Int32} : b_R C kX8_shortest [] (71, [some (.ref 237), some (.int x1), some (.int x2), some (.int x3), some (.int x4)], [.int y0], σ) = b_R C kX8_shortest [] (18, [some (.ref 237), some (.int x1), some (.int y0), some (.int (x3 + nI 1)), some (.int x4)], [], σ) := by
  refine (e_istore_n (code := kX8_shortest) (pc := 71) rfl rfl rfl).trans ?_
  refine (e_iinc (code := kX8_shortest) (pc := 72) rfl rfl rfl rfl).trans ?_
  refine (e_goto (code := kX8_shortest) (pc := 75) rfl).trans ?_
  rfl
theorem n_X8_painted {P : aCall} {d : Nat} {σ : aSt} {x1 x2 : Int32} (hd : 1 ≤ d) : a_call a_tab P d 192 [.ref 237, .int x1, .int x2] σ = b_R (a_call a_tab P (d - 1)) kX8_painted [] (0, [some (.ref 237), some (.int x1), some (.int x2), none, none, none], [], σ) := e_call hd at_X8_painted rfl
theorem b_X8_painted_0 {C : aCall} {σ : aSt} {x1 x2 : Int32} (h : Sh σ) : b_R C kX8_painted [] (0, [some (.ref 237), some (.int x1), some (.int x2), none, none, none], [], σ) = b_G C kX8_painted [] 2 5 [some (.ref 237), some (.int x1), some (.int x2), none, none, none] [] (C 163 [.ref 237, .int x2] σ) := by
  refine (e_aload_n (code := kX8_painted) (pc := 0) rfl rfl).trans ?_
  refine (e_iload_n (code := kX8_painted) (pc := 1) rfl rfl).trans ?_
  exact (e_callV (σ := σ) (code := kX8_painted) (pc := 2) (len := 3) (k := 163) (n := 2) (c := 20) (as := [.ref 237, .int x2]) (st0 := []) rfl rfl rfl rfl rfl (sk_237 (σ := σ) h) rfl)
theorem b_X8_painted_5 {C : aCall} {σ : aSt} {x1 x2 : Int32} (h : Sh σ) : b_R C kX8_painted [] (5, [some (.ref 237), some (.int x1), some (.int x2), none, none, none], [], σ) = b_G C kX8_painted [] 8 11 [some (.ref 237), some (.int x1), some (.int x2), none, none, none] [] (C 157 [.ref 237, .int x1, .int (nI 3)] σ) := by
  refine (e_aload_n (code := kX8_painted) (pc := 5) rfl rfl).trans ?_
  refine (e_iload_n (code := kX8_painted) (pc := 6) rfl rfl).trans ?_
  refine (e_iconst (code := kX8_painted) (pc := 7) rfl).trans ?_
  exact (e_callV (σ := σ) (code := kX8_painted) (pc := 8) (len := 3) (k := 157) (n := 3) (c := 20) (as := [.ref 237, .int x1, .int (nI 3)]) (st0 := []) rfl rfl rfl rfl rfl (sk_237 (σ := σ) h) rfl)
theorem b_X8_painted_11 {C : aCall} {σ : aSt} {x1 x2 y0 : Int32} : b_R C kX8_painted [] (11, [some (.ref 237), some (.int x1), some (.int x2), none, none, none], [.int y0], σ) = b_R C kX8_painted [] (18, [some (.ref 237), some (.int x1), some (.int x2), some (.int y0), some (.int (nI 0)), some (.int (nI 0))], [], σ) := by
  refine (e_istore_n (code := kX8_painted) (pc := 11) rfl rfl rfl).trans ?_
  refine (e_iconst (code := kX8_painted) (pc := 12) rfl).trans ?_
  refine (e_istore (code := kX8_painted) (pc := 13) rfl rfl rfl).trans ?_
  refine (e_iconst (code := kX8_painted) (pc := 15) rfl).trans ?_
  refine (e_istore (code := kX8_painted) (pc := 16) rfl rfl rfl).trans ?_
  rfl
theorem b_X8_painted_18 {C : aCall} {σ : aSt} {x1 x2 x3 x4 x5 : Int32} (h : Sh σ) : b_R C kX8_painted [] (18, [some (.ref 237), some (.int x1), some (.int x2), some (.int x3), some (.int x4), some (.int x5)], [], σ) = (if x5 < (nI 3) then b_G C kX8_painted [] 34 37 [some (.ref 237), some (.int x1), some (.int x2), some (.int x3), some (.int x4), some (.int x5)] [.int (nI 4), .int ((nI 256) * x4)] (C 165 [.ref 237, .int x5] σ) else some (.inl (some (.int x4)), σ)) := by
  refine (e_iload (code := kX8_painted) (pc := 18) rfl rfl).trans ?_
  refine (e_iconst (code := kX8_painted) (pc := 20) rfl).trans ?_
  refine (e_icge (code := kX8_painted) (pc := 21) rfl).trans ?_
  refine b_ite ?_ ?_
  · refine (e_sipush (code := kX8_painted) (pc := 24) rfl).trans ?_
    refine (e_iload (code := kX8_painted) (pc := 27) rfl rfl).trans ?_
    refine (e_imul (code := kX8_painted) (pc := 29) rfl).trans ?_
    refine (e_iconst (code := kX8_painted) (pc := 30) rfl).trans ?_
    refine (e_aload_n (code := kX8_painted) (pc := 31) rfl rfl).trans ?_
    refine (e_iload (code := kX8_painted) (pc := 32) rfl rfl).trans ?_
    exact (e_callV (σ := σ) (code := kX8_painted) (pc := 34) (len := 3) (k := 165) (n := 2) (c := 20) (as := [.ref 237, .int x5]) (st0 := [.int (nI 4), .int ((nI 256) * x4)]) rfl rfl rfl rfl rfl (sk_237 (σ := σ) h) rfl)
  · refine (e_iload (code := kX8_painted) (pc := 63) rfl rfl).trans ?_
    exact e_ireturn rfl
theorem b_X8_painted_37 {C : aCall} {σ : aSt} {x1 x2 x3 x4 x5 y0 y1 y2 : Int32} (h : Sh σ) : b_R C kX8_painted [] (37, [some (.ref 237), some (.int x1), some (.int x2), some (.int x3), some (.int x4), some (.int x5)], [.int y0, .int y1, .int y2], σ) = b_G C kX8_painted [] 43 46 [some (.ref 237), some (.int x1), some (.int x2), some (.int x3), some (.int x4), some (.int x5)] [.int x3, .int (y1 * y0), .int y2] (C 157 [.ref 237, .int x1, .int x5] σ) := by
  refine (e_imul (code := kX8_painted) (pc := 37) rfl).trans ?_
  refine (e_iload_n (code := kX8_painted) (pc := 38) rfl rfl).trans ?_
  refine (e_aload_n (code := kX8_painted) (pc := 39) rfl rfl).trans ?_
  refine (e_iload_n (code := kX8_painted) (pc := 40) rfl rfl).trans ?_
  refine (e_iload (code := kX8_painted) (pc := 41) rfl rfl).trans ?_
  exact (e_callV (σ := σ) (code := kX8_painted) (pc := 43) (len := 3) (k := 157) (n := 3) (c := 20) (as := [.ref 237, .int x1, .int x5]) (st0 := [.int x3, .int (y1 * y0), .int y2]) rfl rfl rfl rfl rfl (sk_237 (σ := σ) h) rfl)
theorem b_X8_painted_46 {C : aCall} {σ : aSt} {x1 x2 x3 x4 x5 y0 y1 y2 y3 : Int32} : b_R C kX8_painted [] (46, [some (.ref 237), some (.int x1), some (.int x2), some (.int x3), some (.int x4), some (.int x5)], [.int y0, .int y1, .int y2, .int y3], σ) = b_G C kX8_painted [] 51 54 [some (.ref 237), some (.int x1), some (.int x2), some (.int x3), some (.int x4), some (.int x5)] [.int y3] (C 159 [.int (y2 + (y1 * y0)), .int ((nI 4) + x3)] σ) := by
  refine (e_imul (code := kX8_painted) (pc := 46) rfl).trans ?_
  refine (e_iadd (code := kX8_painted) (pc := 47) rfl).trans ?_
  refine (e_iconst (code := kX8_painted) (pc := 48) rfl).trans ?_
  refine (e_iload_n (code := kX8_painted) (pc := 49) rfl rfl).trans ?_
  refine (e_iadd (code := kX8_painted) (pc := 50) rfl).trans ?_
  exact (e_callS (code := kX8_painted) (pc := 51) (len := 3) (k := 159) (n := 2) (as := [.int (y2 + (y1 * y0)), .int ((nI 4) + x3)]) (st0 := [.int y3]) rfl rfl rfl rfl)
theorem b_X8_painted_54 {C : aCall} {σ : aSt} {x1 x2 x3 x4 x5 y0 y1 : Int32} : b_R C kX8_painted [] (54, [some (.ref 237), some (.int x1), some (.int x2), some (.int x3), some (.int x4), some (.int x5)], [.int y0, .int y1], σ) = b_R C kX8_painted [] (18, [some (.ref 237), some (.int x1), some (.int x2), some (.int x3), some (.int (y1 + y0)), some (.int (x5 + nI 1))], [], σ) := by
  refine (e_iadd (code := kX8_painted) (pc := 54) rfl).trans ?_
  refine (e_istore (code := kX8_painted) (pc := 55) rfl rfl rfl).trans ?_
  refine (e_iinc (code := kX8_painted) (pc := 57) rfl rfl rfl rfl).trans ?_
  refine (e_goto (code := kX8_painted) (pc := 60) rfl).trans ?_
  rfl
theorem n_X8_wouldPaint {P : aCall} {d : Nat} {σ : aSt} {x1 x2 : Int32} (hd : 1 ≤ d) : a_call a_tab P d 193 [.ref 237, .int x1, .int x2] σ = b_R (a_call a_tab P (d - 1)) kX8_wouldPaint [] (0, [some (.ref 237), some (.int x1), some (.int x2)], [], σ) := e_call hd at_X8_wouldPaint rfl
theorem b_X8_wouldPaint_0 {C : aCall} {σ : aSt} {x1 x2 : Int32} (h : Sh σ) : b_R C kX8_wouldPaint [] (0, [some (.ref 237), some (.int x1), some (.int x2)], [], σ) = b_G C kX8_wouldPaint [] 3 6 [some (.ref 237), some (.int x1), some (.int x2)] [.ref 237] (C 151 [.ref 237, .int x1] σ) := by
  refine (e_aload_n (code := kX8_wouldPaint) (pc := 0) rfl rfl).trans ?_
  refine (e_aload_n (code := kX8_wouldPaint) (pc := 1) rfl rfl).trans ?_
  refine (e_iload_n (code := kX8_wouldPaint) (pc := 2) rfl rfl).trans ?_
  exact (e_callV (σ := σ) (code := kX8_wouldPaint) (pc := 3) (len := 3) (k := 151) (n := 2) (c := 20) (as := [.ref 237, .int x1]) (st0 := [.ref 237]) rfl rfl rfl rfl rfl (sk_237 (σ := σ) h) rfl)
theorem b_X8_wouldPaint_6 {C : aCall} {σ : aSt} {x1 x2 y0 : Int32} (h : Sh σ) : b_R C kX8_wouldPaint [] (6, [some (.ref 237), some (.int x1), some (.int x2)], [.int y0, .ref 237], σ) = (if y0 = 0 then b_R C kX8_wouldPaint [] (21, [some (.ref 237), some (.int x1), some (.int x2)], [.ref 237], σ) else b_G C kX8_wouldPaint [] 11 14 [some (.ref 237), some (.int x1), some (.int x2)] [.ref 237] (C 150 [.ref 237, .int x2] σ)) := by
  refine (e_ifeq (code := kX8_wouldPaint) (pc := 6) rfl).trans ?_
  refine b_ite ?_ ?_
  · rfl
  · refine (e_aload_n (code := kX8_wouldPaint) (pc := 9) rfl rfl).trans ?_
    refine (e_iload_n (code := kX8_wouldPaint) (pc := 10) rfl rfl).trans ?_
    exact (e_callV (σ := σ) (code := kX8_wouldPaint) (pc := 11) (len := 3) (k := 150) (n := 2) (c := 20) (as := [.ref 237, .int x2]) (st0 := [.ref 237]) rfl rfl rfl rfl rfl (sk_237 (σ := σ) h) rfl)
theorem b_X8_wouldPaint_14 {C : aCall} {σ : aSt} {x1 x2 y0 : Int32} : b_R C kX8_wouldPaint [] (14, [some (.ref 237), some (.int x1), some (.int x2)], [.int y0, .ref 237], σ) = (if y0 = 0 then b_R C kX8_wouldPaint [] (21, [some (.ref 237), some (.int x1), some (.int x2)], [.ref 237], σ) else b_R C kX8_wouldPaint [] (22, [some (.ref 237), some (.int x1), some (.int x2)], [.int (nI 1), .ref 237], σ)) := by
  refine (e_ifeq (code := kX8_wouldPaint) (pc := 14) rfl).trans ?_
  refine b_ite ?_ ?_
  · rfl
  · refine (e_iconst (code := kX8_wouldPaint) (pc := 17) rfl).trans ?_
    refine (e_goto (code := kX8_wouldPaint) (pc := 18) rfl).trans ?_
    rfl
theorem b_X8_wouldPaint_21 {C : aCall} {σ : aSt} {x1 x2 : Int32} : b_R C kX8_wouldPaint [] (21, [some (.ref 237), some (.int x1), some (.int x2)], [.ref 237], σ) = b_R C kX8_wouldPaint [] (22, [some (.ref 237), some (.int x1), some (.int x2)], [.int (nI 0), .ref 237], σ) := by
  refine (e_iconst (code := kX8_wouldPaint) (pc := 21) rfl).trans ?_
  rfl
theorem b_X8_wouldPaint_22 {C : aCall} {σ : aSt} {x1 x2 y0 : Int32} (h : Sh σ) : b_R C kX8_wouldPaint [] (22, [some (.ref 237), some (.int x1), some (.int x2)], [.int y0, .ref 237], σ) = b_G C kX8_wouldPaint [] 22 25 [some (.ref 237), some (.int x1), some (.int x2)] [] (C 148 [.ref 237, .int y0] σ) := by
  exact (e_callV (σ := σ) (code := kX8_wouldPaint) (pc := 22) (len := 3) (k := 148) (n := 2) (c := 20) (as := [.ref 237, .int y0]) (st0 := []) rfl rfl rfl rfl rfl (sk_237 (σ := σ) h) rfl)
theorem b_X8_wouldPaint_25 {C : aCall} {σ : aSt} {x1 x2 y0 : Int32} (h : Sh σ) : b_R C kX8_wouldPaint [] (25, [some (.ref 237), some (.int x1), some (.int x2)], [.int y0], σ) = (if y0 = 0 then b_G C kX8_wouldPaint [] 35 38 [some (.ref 237), some (.int x1), some (.int x2)] [] (C 192 [.ref 237, .int x1, .int x2] σ) else b_R C kX8_wouldPaint [] (38, [some (.ref 237), some (.int x1), some (.int x2)], [.int (nI 0)], σ)) := by
  refine (e_ifeq (code := kX8_wouldPaint) (pc := 25) rfl).trans ?_
  refine b_ite ?_ ?_
  · refine (e_aload_n (code := kX8_wouldPaint) (pc := 32) rfl rfl).trans ?_
    refine (e_iload_n (code := kX8_wouldPaint) (pc := 33) rfl rfl).trans ?_
    refine (e_iload_n (code := kX8_wouldPaint) (pc := 34) rfl rfl).trans ?_
    exact (e_callV (σ := σ) (code := kX8_wouldPaint) (pc := 35) (len := 3) (k := 192) (n := 3) (c := 20) (as := [.ref 237, .int x1, .int x2]) (st0 := []) rfl rfl rfl rfl rfl (sk_237 (σ := σ) h) rfl)
  · refine (e_iconst (code := kX8_wouldPaint) (pc := 28) rfl).trans ?_
    refine (e_goto (code := kX8_wouldPaint) (pc := 29) rfl).trans ?_
    rfl
theorem b_X8_wouldPaint_38 {C : aCall} {σ : aSt} {x1 x2 y0 : Int32} : b_R C kX8_wouldPaint [] (38, [some (.ref 237), some (.int x1), some (.int x2)], [.int y0], σ) = some (.inl (some (.int y0)), σ) := by
  exact e_ireturn rfl
theorem n_X8_brush {P : aCall} {d : Nat} {σ : aSt} {x1 x2 : Int32} (hd : 1 ≤ d) : a_call a_tab P d 194 [.ref 237, .int x1, .int x2] σ = b_R (a_call a_tab P (d - 1)) kX8_brush [] (0, [some (.ref 237), some (.int x1), some (.int x2)], [], σ) := e_call hd at_X8_brush rfl
theorem b_X8_brush_0 {C : aCall} {σ : aSt} {x1 x2 : Int32} (h : Sh σ) : b_R C kX8_brush [] (0, [some (.ref 237), some (.int x1), some (.int x2)], [], σ) = b_G C kX8_brush [] 3 6 [some (.ref 237), some (.int x1), some (.int x2)] [.ref 237] (C 151 [.ref 237, .int x1] σ) := by
  refine (e_aload_n (code := kX8_brush) (pc := 0) rfl rfl).trans ?_
  refine (e_aload_n (code := kX8_brush) (pc := 1) rfl rfl).trans ?_
  refine (e_iload_n (code := kX8_brush) (pc := 2) rfl rfl).trans ?_
  exact (e_callV (σ := σ) (code := kX8_brush) (pc := 3) (len := 3) (k := 151) (n := 2) (c := 20) (as := [.ref 237, .int x1]) (st0 := [.ref 237]) rfl rfl rfl rfl rfl (sk_237 (σ := σ) h) rfl)
theorem b_X8_brush_6 {C : aCall} {σ : aSt} {x1 x2 y0 : Int32} : b_R C kX8_brush [] (6, [some (.ref 237), some (.int x1), some (.int x2)], [.int y0, .ref 237], σ) = (if y0 = 0 then b_R C kX8_brush [] (22, [some (.ref 237), some (.int x1), some (.int x2)], [.ref 237], σ) else b_G C kX8_brush [] 12 15 [some (.ref 237), some (.int x1), some (.int x2)] [.ref 237] (C 147 [.int x2, .int (nI 0), .int (nI 3)] σ)) := by
  refine (e_ifeq (code := kX8_brush) (pc := 6) rfl).trans ?_
  refine b_ite ?_ ?_
  · rfl
  · refine (e_iload_n (code := kX8_brush) (pc := 9) rfl rfl).trans ?_
    refine (e_iconst (code := kX8_brush) (pc := 10) rfl).trans ?_
    refine (e_iconst (code := kX8_brush) (pc := 11) rfl).trans ?_
    exact (e_callS (code := kX8_brush) (pc := 12) (len := 3) (k := 147) (n := 3) (as := [.int x2, .int (nI 0), .int (nI 3)]) (st0 := [.ref 237]) rfl rfl rfl rfl)
theorem b_X8_brush_15 {C : aCall} {σ : aSt} {x1 x2 y0 : Int32} : b_R C kX8_brush [] (15, [some (.ref 237), some (.int x1), some (.int x2)], [.int y0, .ref 237], σ) = (if y0 = 0 then b_R C kX8_brush [] (22, [some (.ref 237), some (.int x1), some (.int x2)], [.ref 237], σ) else b_R C kX8_brush [] (23, [some (.ref 237), some (.int x1), some (.int x2)], [.int (nI 1), .ref 237], σ)) := by
  refine (e_ifeq (code := kX8_brush) (pc := 15) rfl).trans ?_
  refine b_ite ?_ ?_
  · rfl
  · refine (e_iconst (code := kX8_brush) (pc := 18) rfl).trans ?_
    refine (e_goto (code := kX8_brush) (pc := 19) rfl).trans ?_
    rfl
theorem b_X8_brush_22 {C : aCall} {σ : aSt} {x1 x2 : Int32} : b_R C kX8_brush [] (22, [some (.ref 237), some (.int x1), some (.int x2)], [.ref 237], σ) = b_R C kX8_brush [] (23, [some (.ref 237), some (.int x1), some (.int x2)], [.int (nI 0), .ref 237], σ) := by
  refine (e_iconst (code := kX8_brush) (pc := 22) rfl).trans ?_
  rfl
theorem b_X8_brush_23 {C : aCall} {σ : aSt} {x1 x2 y0 : Int32} (h : Sh σ) : b_R C kX8_brush [] (23, [some (.ref 237), some (.int x1), some (.int x2)], [.int y0, .ref 237], σ) = b_G C kX8_brush [] 23 26 [some (.ref 237), some (.int x1), some (.int x2)] [] (C 148 [.ref 237, .int y0] σ) := by
  exact (e_callV (σ := σ) (code := kX8_brush) (pc := 23) (len := 3) (k := 148) (n := 2) (c := 20) (as := [.ref 237, .int y0]) (st0 := []) rfl rfl rfl rfl rfl (sk_237 (σ := σ) h) rfl)
theorem b_X8_brush_26 {C : aCall} {σ : aSt} {x1 x2 y0 : Int32} (h : Sh σ) : b_R C kX8_brush [] (26, [some (.ref 237), some (.int x1), some (.int x2)], [.int y0], σ) = (if y0 = 0 then b_G C kX8_brush [] 36 39 [some (.ref 237), some (.int x1), some (.int x2)] [] (C 157 [.ref 237, .int x1, .int x2] σ) else b_R C kX8_brush [] (39, [some (.ref 237), some (.int x1), some (.int x2)], [.int (nI 0)], σ)) := by
  refine (e_ifeq (code := kX8_brush) (pc := 26) rfl).trans ?_
  refine b_ite ?_ ?_
  · refine (e_aload_n (code := kX8_brush) (pc := 33) rfl rfl).trans ?_
    refine (e_iload_n (code := kX8_brush) (pc := 34) rfl rfl).trans ?_
    refine (e_iload_n (code := kX8_brush) (pc := 35) rfl rfl).trans ?_
    exact (e_callV (σ := σ) (code := kX8_brush) (pc := 36) (len := 3) (k := 157) (n := 3) (c := 20) (as := [.ref 237, .int x1, .int x2]) (st0 := []) rfl rfl rfl rfl rfl (sk_237 (σ := σ) h) rfl)
  · refine (e_iconst (code := kX8_brush) (pc := 29) rfl).trans ?_
    refine (e_goto (code := kX8_brush) (pc := 30) rfl).trans ?_
    rfl
theorem b_X8_brush_39 {C : aCall} {σ : aSt} {x1 x2 y0 : Int32} : b_R C kX8_brush [] (39, [some (.ref 237), some (.int x1), some (.int x2)], [.int y0], σ) = some (.inl (some (.int y0)), σ) := by
  exact e_ireturn rfl
theorem n_X8_bestBrush {P : aCall} {d : Nat} {σ : aSt} {x1 : Int32} (hd : 1 ≤ d) : a_call a_tab P d 195 [.ref 237, .int x1] σ = b_R (a_call a_tab P (d - 1)) kX8_bestBrush [] (0, [some (.ref 237), some (.int x1), none, none, none], [], σ) := e_call hd at_X8_bestBrush rfl
theorem b_X8_bestBrush_0 {C : aCall} {σ : aSt} {x1 : Int32} (h : Sh σ) : b_R C kX8_bestBrush [] (0, [some (.ref 237), some (.int x1), none, none, none], [], σ) = b_G C kX8_bestBrush [] 3 6 [some (.ref 237), some (.int x1), none, none, none] [.ref 237] (C 150 [.ref 237, .int x1] σ) := by
  refine (e_aload_n (code := kX8_bestBrush) (pc := 0) rfl rfl).trans ?_
  refine (e_aload_n (code := kX8_bestBrush) (pc := 1) rfl rfl).trans ?_
  refine (e_iload_n (code := kX8_bestBrush) (pc := 2) rfl rfl).trans ?_
  exact (e_callV (σ := σ) (code := kX8_bestBrush) (pc := 3) (len := 3) (k := 150) (n := 2) (c := 20) (as := [.ref 237, .int x1]) (st0 := [.ref 237]) rfl rfl rfl rfl rfl (sk_237 (σ := σ) h) rfl)
theorem b_X8_bestBrush_6 {C : aCall} {σ : aSt} {x1 y0 : Int32} (h : Sh σ) : b_R C kX8_bestBrush [] (6, [some (.ref 237), some (.int x1), none, none, none], [.int y0, .ref 237], σ) = b_G C kX8_bestBrush [] 6 9 [some (.ref 237), some (.int x1), none, none, none] [] (C 148 [.ref 237, .int y0] σ) := by
  exact (e_callV (σ := σ) (code := kX8_bestBrush) (pc := 6) (len := 3) (k := 148) (n := 2) (c := 20) (as := [.ref 237, .int y0]) (st0 := []) rfl rfl rfl rfl rfl (sk_237 (σ := σ) h) rfl)
theorem b_X8_bestBrush_9 {C : aCall} {σ : aSt} {x1 y0 : Int32} (h : Sh σ) : b_R C kX8_bestBrush [] (9, [some (.ref 237), some (.int x1), none, none, none], [.int y0], σ) = (if y0 = 0 then b_G C kX8_bestBrush [] 16 19 [some (.ref 237), some (.int x1), none, none, none] [] (C 167 [.ref 237, .int x1] σ) else some (.inl (some (.int (nI 0))), σ)) := by
  refine (e_ifeq (code := kX8_bestBrush) (pc := 9) rfl).trans ?_
  refine b_ite ?_ ?_
  · refine (e_aload_n (code := kX8_bestBrush) (pc := 14) rfl rfl).trans ?_
    refine (e_iload_n (code := kX8_bestBrush) (pc := 15) rfl rfl).trans ?_
    exact (e_callV (σ := σ) (code := kX8_bestBrush) (pc := 16) (len := 3) (k := 167) (n := 2) (c := 20) (as := [.ref 237, .int x1]) (st0 := []) rfl rfl rfl rfl rfl (sk_237 (σ := σ) h) rfl)
  · refine (e_iconst (code := kX8_bestBrush) (pc := 12) rfl).trans ?_
    exact e_ireturn rfl
theorem b_X8_bestBrush_19 {C : aCall} {σ : aSt} {x1 y0 : Int32} : b_R C kX8_bestBrush [] (19, [some (.ref 237), some (.int x1), none, none, none], [.int y0], σ) = b_R C kX8_bestBrush [] (25, [some (.ref 237), some (.int x1), some (.int y0), some (.int (nI 0)), some (.int (nI 1))], [], σ) := by
  refine (e_istore_n (code := kX8_bestBrush) (pc := 19) rfl rfl rfl).trans ?_
  refine (e_iconst (code := kX8_bestBrush) (pc := 20) rfl).trans ?_
  refine (e_istore_n (code := kX8_bestBrush) (pc := 21) rfl rfl rfl).trans ?_
  refine (e_iconst (code := kX8_bestBrush) (pc := 22) rfl).trans ?_
  refine (e_istore (code := kX8_bestBrush) (pc := 23) rfl rfl rfl).trans ?_
  rfl
theorem b_X8_bestBrush_25 {C : aCall} {σ : aSt} {w : Nat} {x1 x2 x3 x4 : Int32} (h : Sh σ) (hw : Rw σ w) : b_R C kX8_bestBrush [] (25, [some (.ref 237), some (.int x1), some (.int x2), some (.int x3), some (.int x4)], [], σ) = b_gd (a_in (nI 2) 720) ((if x4 < (a_I σ w (Int32.toNatClampNeg (nI 2))) then b_G C kX8_bestBrush [] 40 43 [some (.ref 237), some (.int x1), some (.int x2), some (.int x3), some (.int x4)] [] (C 192 [.ref 237, .int x4, .int x1] σ) else some (.inl (some (.int x3)), σ))) := by
  refine (e_iload (code := kX8_bestBrush) (pc := 25) rfl rfl).trans ?_
  refine (e_aload_n (code := kX8_bestBrush) (pc := 27) rfl rfl).trans ?_
  refine (e_getR (code := kX8_bestBrush) (pc := 28) (c := 10) rfl (sk_237 (σ := σ) h) hw.1).trans ?_
  refine (e_iconst (code := kX8_bestBrush) (pc := 31) rfl).trans ?_
  refine (e_iaload (code := kX8_bestBrush) (pc := 32) rfl (.inl hw.2.1) hw.2.2.2).trans ?_
  refine b_gd_c ?_
  refine (e_icge (code := kX8_bestBrush) (pc := 33) rfl).trans ?_
  refine b_ite ?_ ?_
  · refine (e_aload_n (code := kX8_bestBrush) (pc := 36) rfl rfl).trans ?_
    refine (e_iload (code := kX8_bestBrush) (pc := 37) rfl rfl).trans ?_
    refine (e_iload_n (code := kX8_bestBrush) (pc := 39) rfl rfl).trans ?_
    exact (e_callV (σ := σ) (code := kX8_bestBrush) (pc := 40) (len := 3) (k := 192) (n := 3) (c := 20) (as := [.ref 237, .int x4, .int x1]) (st0 := []) rfl rfl rfl rfl rfl (sk_237 (σ := σ) h) rfl)
  · refine (e_iload_n (code := kX8_bestBrush) (pc := 73) rfl rfl).trans ?_
    exact e_ireturn rfl
theorem b_X8_bestBrush_43 {C : aCall} {σ : aSt} {x1 x2 x3 x4 y0 : Int32} : b_R C kX8_bestBrush [] (43, [some (.ref 237), some (.int x1), some (.int x2), some (.int x3), some (.int x4)], [.int y0], σ) = b_G C kX8_bestBrush [] 44 47 [some (.ref 237), some (.int x1), some (.int x2), some (.int x3), some (.int x4)] [] (C 162 [.int y0, .int x2] σ) := by
  refine (e_iload_n (code := kX8_bestBrush) (pc := 43) rfl rfl).trans ?_
  exact (e_callS (code := kX8_bestBrush) (pc := 44) (len := 3) (k := 162) (n := 2) (as := [.int y0, .int x2]) (st0 := []) rfl rfl rfl rfl)
theorem b_X8_bestBrush_47 {C : aCall} {σ : aSt} {x1 x2 x3 x4 y0 : Int32} (h : Sh σ) : b_R C kX8_bestBrush [] (47, [some (.ref 237), some (.int x1), some (.int x2), some (.int x3), some (.int x4)], [.int y0], σ) = b_G C kX8_bestBrush [] 50 53 [some (.ref 237), some (.int x1), some (.int x2), some (.int x3), some (.int x4)] [.int y0] (C 192 [.ref 237, .int x3, .int x1] σ) := by
  refine (e_aload_n (code := kX8_bestBrush) (pc := 47) rfl rfl).trans ?_
  refine (e_iload_n (code := kX8_bestBrush) (pc := 48) rfl rfl).trans ?_
  refine (e_iload_n (code := kX8_bestBrush) (pc := 49) rfl rfl).trans ?_
  exact (e_callV (σ := σ) (code := kX8_bestBrush) (pc := 50) (len := 3) (k := 192) (n := 3) (c := 20) (as := [.ref 237, .int x3, .int x1]) (st0 := [.int y0]) rfl rfl rfl rfl rfl (sk_237 (σ := σ) h) rfl)
theorem b_X8_bestBrush_53 {C : aCall} {σ : aSt} {x1 x2 x3 x4 y0 y1 : Int32} : b_R C kX8_bestBrush [] (53, [some (.ref 237), some (.int x1), some (.int x2), some (.int x3), some (.int x4)], [.int y0, .int y1], σ) = b_G C kX8_bestBrush [] 54 57 [some (.ref 237), some (.int x1), some (.int x2), some (.int x3), some (.int x4)] [.int y1] (C 162 [.int y0, .int x2] σ) := by
  refine (e_iload_n (code := kX8_bestBrush) (pc := 53) rfl rfl).trans ?_
  exact (e_callS (code := kX8_bestBrush) (pc := 54) (len := 3) (k := 162) (n := 2) (as := [.int y0, .int x2]) (st0 := [.int y1]) rfl rfl rfl rfl)
theorem b_X8_bestBrush_57 {C : aCall} {σ : aSt} {x1 x2 x3 x4 y0 y1 : Int32} : b_R C kX8_bestBrush [] (57, [some (.ref 237), some (.int x1), some (.int x2), some (.int x3), some (.int x4)], [.int y0, .int y1], σ) = (if y1 < y0 then b_R C kX8_bestBrush [] (66, [some (.ref 237), some (.int x1), some (.int x2), some (.int x3), some (.int x4)], [.int x4], σ) else b_R C kX8_bestBrush [] (66, [some (.ref 237), some (.int x1), some (.int x2), some (.int x3), some (.int x4)], [.int x3], σ)) := by
  refine (e_icge (code := kX8_bestBrush) (pc := 57) rfl).trans ?_
  refine b_ite ?_ ?_
  · refine (e_iload (code := kX8_bestBrush) (pc := 60) rfl rfl).trans ?_
    refine (e_goto (code := kX8_bestBrush) (pc := 62) rfl).trans ?_
    rfl
  · refine (e_iload_n (code := kX8_bestBrush) (pc := 65) rfl rfl).trans ?_
    rfl
theorem b_X8_bestBrush_66 {C : aCall} {σ : aSt} {x1 x2 x3 x4 y0 : Int32} : b_R C kX8_bestBrush [] (66, [some (.ref 237), some (.int x1), some (.int x2), some (.int x3), some (.int x4)], [.int y0], σ) = b_R C kX8_bestBrush [] (25, [some (.ref 237), some (.int x1), some (.int x2), some (.int y0), some (.int (x4 + nI 1))], [], σ) := by
  refine (e_istore_n (code := kX8_bestBrush) (pc := 66) rfl rfl rfl).trans ?_
  refine (e_iinc (code := kX8_bestBrush) (pc := 67) rfl rfl rfl rfl).trans ?_
  refine (e_goto (code := kX8_bestBrush) (pc := 70) rfl).trans ?_
  rfl
theorem n_X8_painting {P : aCall} {d : Nat} {σ : aSt} {x1 x2 : Int32} (hd : 1 ≤ d) : a_call a_tab P d 196 [.ref 237, .int x1, .int x2] σ = b_R (a_call a_tab P (d - 1)) kX8_painting [] (0, [some (.ref 237), some (.int x1), some (.int x2)], [], σ) := e_call hd at_X8_painting rfl
theorem b_X8_painting_0 {C : aCall} {σ : aSt} {w : Nat} {x1 x2 : Int32} (h : Sh σ) (hw : Rw σ w) : b_R C kX8_painting [] (0, [some (.ref 237), some (.int x1), some (.int x2)], [], σ) = b_gd (a_in (nI 6) 720) (b_G C kX8_painting [] 12 15 [some (.ref 237), some (.int x1), some (.int x2)] [.ref 237] (C 147 [.int x1, .int (nI 0), .int ((a_I σ w (Int32.toNatClampNeg (nI 6))) - (nI 1))] σ)) := by
  refine (e_aload_n (code := kX8_painting) (pc := 0) rfl rfl).trans ?_
  refine (e_iload_n (code := kX8_painting) (pc := 1) rfl rfl).trans ?_
  refine (e_iconst (code := kX8_painting) (pc := 2) rfl).trans ?_
  refine (e_aload_n (code := kX8_painting) (pc := 3) rfl rfl).trans ?_
  refine (e_getR (code := kX8_painting) (pc := 4) (c := 10) rfl (sk_237 (σ := σ) h) hw.1).trans ?_
  refine (e_bipush (code := kX8_painting) (pc := 7) rfl).trans ?_
  refine (e_iaload (code := kX8_painting) (pc := 9) rfl (.inl hw.2.1) hw.2.2.2).trans ?_
  refine b_gd_c ?_
  refine (e_iconst (code := kX8_painting) (pc := 10) rfl).trans ?_
  refine (e_isub (code := kX8_painting) (pc := 11) rfl).trans ?_
  exact (e_callS (code := kX8_painting) (pc := 12) (len := 3) (k := 147) (n := 3) (as := [.int x1, .int (nI 0), .int ((a_I σ w (Int32.toNatClampNeg (nI 6))) - (nI 1))]) (st0 := [.ref 237]) rfl rfl rfl rfl)
theorem b_X8_painting_15 {C : aCall} {σ : aSt} {x1 x2 y0 : Int32} : b_R C kX8_painting [] (15, [some (.ref 237), some (.int x1), some (.int x2)], [.int y0, .ref 237], σ) = (if y0 = 0 then b_R C kX8_painting [] (31, [some (.ref 237), some (.int x1), some (.int x2)], [.ref 237], σ) else b_G C kX8_painting [] 21 24 [some (.ref 237), some (.int x1), some (.int x2)] [.ref 237] (C 147 [.int x2, .int (nI 0), .int (nI 3)] σ)) := by
  refine (e_ifeq (code := kX8_painting) (pc := 15) rfl).trans ?_
  refine b_ite ?_ ?_
  · rfl
  · refine (e_iload_n (code := kX8_painting) (pc := 18) rfl rfl).trans ?_
    refine (e_iconst (code := kX8_painting) (pc := 19) rfl).trans ?_
    refine (e_iconst (code := kX8_painting) (pc := 20) rfl).trans ?_
    exact (e_callS (code := kX8_painting) (pc := 21) (len := 3) (k := 147) (n := 3) (as := [.int x2, .int (nI 0), .int (nI 3)]) (st0 := [.ref 237]) rfl rfl rfl rfl)
theorem b_X8_painting_24 {C : aCall} {σ : aSt} {x1 x2 y0 : Int32} : b_R C kX8_painting [] (24, [some (.ref 237), some (.int x1), some (.int x2)], [.int y0, .ref 237], σ) = (if y0 = 0 then b_R C kX8_painting [] (31, [some (.ref 237), some (.int x1), some (.int x2)], [.ref 237], σ) else b_R C kX8_painting [] (32, [some (.ref 237), some (.int x1), some (.int x2)], [.int (nI 1), .ref 237], σ)) := by
  refine (e_ifeq (code := kX8_painting) (pc := 24) rfl).trans ?_
  refine b_ite ?_ ?_
  · rfl
  · refine (e_iconst (code := kX8_painting) (pc := 27) rfl).trans ?_
    refine (e_goto (code := kX8_painting) (pc := 28) rfl).trans ?_
    rfl
theorem b_X8_painting_31 {C : aCall} {σ : aSt} {x1 x2 : Int32} : b_R C kX8_painting [] (31, [some (.ref 237), some (.int x1), some (.int x2)], [.ref 237], σ) = b_R C kX8_painting [] (32, [some (.ref 237), some (.int x1), some (.int x2)], [.int (nI 0), .ref 237], σ) := by
  refine (e_iconst (code := kX8_painting) (pc := 31) rfl).trans ?_
  rfl
theorem b_X8_painting_32 {C : aCall} {σ : aSt} {x1 x2 y0 : Int32} (h : Sh σ) : b_R C kX8_painting [] (32, [some (.ref 237), some (.int x1), some (.int x2)], [.int y0, .ref 237], σ) = b_G C kX8_painting [] 32 35 [some (.ref 237), some (.int x1), some (.int x2)] [] (C 148 [.ref 237, .int y0] σ) := by
  exact (e_callV (σ := σ) (code := kX8_painting) (pc := 32) (len := 3) (k := 148) (n := 2) (c := 20) (as := [.ref 237, .int y0]) (st0 := []) rfl rfl rfl rfl rfl (sk_237 (σ := σ) h) rfl)
theorem b_X8_painting_35 {C : aCall} {σ : aSt} {w : Nat} {x1 x2 y0 : Int32} (h : Sh σ) (hw : Rw σ w) : b_R C kX8_painting [] (35, [some (.ref 237), some (.int x1), some (.int x2)], [.int y0], σ) = (if y0 = 0 then b_gd (a_in (((nI 672) + ((nI 4) * x1)) + x2) 720) (b_R C kX8_painting [] (56, [some (.ref 237), some (.int x1), some (.int x2)], [.int (a_I σ w (Int32.toNatClampNeg (((nI 672) + ((nI 4) * x1)) + x2)))], σ)) else b_R C kX8_painting [] (56, [some (.ref 237), some (.int x1), some (.int x2)], [.int (nI 0)], σ)) := by
  refine (e_ifeq (code := kX8_painting) (pc := 35) rfl).trans ?_
  refine b_ite ?_ ?_
  · refine (e_aload_n (code := kX8_painting) (pc := 42) rfl rfl).trans ?_
    refine (e_getR (code := kX8_painting) (pc := 43) (c := 10) rfl (sk_237 (σ := σ) h) hw.1).trans ?_
    refine (e_sipush (code := kX8_painting) (pc := 46) rfl).trans ?_
    refine (e_iconst (code := kX8_painting) (pc := 49) rfl).trans ?_
    refine (e_iload_n (code := kX8_painting) (pc := 50) rfl rfl).trans ?_
    refine (e_imul (code := kX8_painting) (pc := 51) rfl).trans ?_
    refine (e_iadd (code := kX8_painting) (pc := 52) rfl).trans ?_
    refine (e_iload_n (code := kX8_painting) (pc := 53) rfl rfl).trans ?_
    refine (e_iadd (code := kX8_painting) (pc := 54) rfl).trans ?_
    refine (e_iaload (code := kX8_painting) (pc := 55) rfl (.inl hw.2.1) hw.2.2.2).trans ?_
    refine b_gd_c ?_
    rfl
  · refine (e_iconst (code := kX8_painting) (pc := 38) rfl).trans ?_
    refine (e_goto (code := kX8_painting) (pc := 39) rfl).trans ?_
    rfl
theorem b_X8_painting_56 {C : aCall} {σ : aSt} {x1 x2 y0 : Int32} : b_R C kX8_painting [] (56, [some (.ref 237), some (.int x1), some (.int x2)], [.int y0], σ) = some (.inl (some (.int y0)), σ) := by
  exact e_ireturn rfl
theorem n_X8_spare {P : aCall} {d : Nat} {σ : aSt} (hd : 1 ≤ d) : a_call a_tab P d 197 [.ref 237] σ = b_R (a_call a_tab P (d - 1)) kX8_spare [] (0, [some (.ref 237), none, none], [], σ) := e_call hd at_X8_spare rfl
theorem b_X8_spare_0 {C : aCall} {σ : aSt} (h : Sh σ) : b_R C kX8_spare [] (0, [some (.ref 237), none, none], [], σ) = b_R C kX8_spare [] (9, [some (.ref 237), some (.int ((-1))), some (.int (nI 0))], [], (a_setI σ 237 6 (nI 0))) := by
  refine (e_aload_n (code := kX8_spare) (pc := 0) rfl rfl).trans ?_
  refine (e_iconst (code := kX8_spare) (pc := 1) rfl).trans ?_
  refine (e_putI (code := kX8_spare) (pc := 2) (c := 10) rfl (sk_237 (σ := σ) h) (h_100 rfl)).trans ?_
  refine (e_iconst (code := kX8_spare) (pc := 5) (σ := (a_setI σ 237 6 (nI 0))) rfl).trans ?_
  refine (e_istore_n (code := kX8_spare) (pc := 6) (σ := (a_setI σ 237 6 (nI 0))) rfl rfl rfl).trans ?_
  refine (e_iconst (code := kX8_spare) (pc := 7) (σ := (a_setI σ 237 6 (nI 0))) rfl).trans ?_
  refine (e_istore_n (code := kX8_spare) (pc := 8) (σ := (a_setI σ 237 6 (nI 0))) rfl rfl rfl).trans ?_
  rfl
theorem b_X8_spare_9 {C : aCall} {σ : aSt} {w : Nat} {x1 x2 : Int32} (h : Sh σ) (hw : Rw σ w) : b_R C kX8_spare [] (9, [some (.ref 237), some (.int x1), some (.int x2)], [], σ) = b_gd (a_in (nI 0) 720) ((if x2 < (a_I σ w (Int32.toNatClampNeg (nI 0))) then b_G C kX8_spare [] 22 25 [some (.ref 237), some (.int x1), some (.int x2)] [] (C 153 [.ref 237, .int x2, .int (nI 4)] σ) else some (.inl (some (.int x1)), σ))) := by
  refine (e_iload_n (code := kX8_spare) (pc := 9) rfl rfl).trans ?_
  refine (e_aload_n (code := kX8_spare) (pc := 10) rfl rfl).trans ?_
  refine (e_getR (code := kX8_spare) (pc := 11) (c := 10) rfl (sk_237 (σ := σ) h) hw.1).trans ?_
  refine (e_iconst (code := kX8_spare) (pc := 14) rfl).trans ?_
  refine (e_iaload (code := kX8_spare) (pc := 15) rfl (.inl hw.2.1) hw.2.2.2).trans ?_
  refine b_gd_c ?_
  refine (e_icge (code := kX8_spare) (pc := 16) rfl).trans ?_
  refine b_ite ?_ ?_
  · refine (e_aload_n (code := kX8_spare) (pc := 19) rfl rfl).trans ?_
    refine (e_iload_n (code := kX8_spare) (pc := 20) rfl rfl).trans ?_
    refine (e_iconst (code := kX8_spare) (pc := 21) rfl).trans ?_
    exact (e_callV (σ := σ) (code := kX8_spare) (pc := 22) (len := 3) (k := 153) (n := 3) (c := 20) (as := [.ref 237, .int x2, .int (nI 4)]) (st0 := []) rfl rfl rfl rfl rfl (sk_237 (σ := σ) h) rfl)
  · refine (e_iload_n (code := kX8_spare) (pc := 55) rfl rfl).trans ?_
    exact e_ireturn rfl
theorem b_X8_spare_25 {C : aCall} {σ : aSt} {x1 x2 y0 : Int32} (h : Sh σ) : b_R C kX8_spare [] (25, [some (.ref 237), some (.int x1), some (.int x2)], [.int y0], σ) = (if y0 = (nI 1) then (if x1 = ((-1)) then b_R C kX8_spare [] (47, [some (.ref 237), some (.int x1), some (.int x2)], [], σ) else b_G C kX8_spare [] 36 39 [some (.ref 237), some (.int x1), some (.int x2)] [] (C 171 [.ref 237, .int x2] σ)) else b_R C kX8_spare [] (49, [some (.ref 237), some (.int x1), some (.int x2)], [], σ)) := by
  refine (e_iconst (code := kX8_spare) (pc := 25) rfl).trans ?_
  refine (e_icne (code := kX8_spare) (pc := 26) rfl).trans ?_
  refine b_ite ?_ ?_
  · refine (e_iload_n (code := kX8_spare) (pc := 29) rfl rfl).trans ?_
    refine (e_iconst (code := kX8_spare) (pc := 30) rfl).trans ?_
    refine (e_iceq (code := kX8_spare) (pc := 31) rfl).trans ?_
    refine b_ite ?_ ?_
    · rfl
    · refine (e_aload_n (code := kX8_spare) (pc := 34) rfl rfl).trans ?_
      refine (e_iload_n (code := kX8_spare) (pc := 35) rfl rfl).trans ?_
      exact (e_callV (σ := σ) (code := kX8_spare) (pc := 36) (len := 3) (k := 171) (n := 2) (c := 20) (as := [.ref 237, .int x2]) (st0 := []) rfl rfl rfl rfl rfl (sk_237 (σ := σ) h) rfl)
  · rfl
theorem b_X8_spare_39 {C : aCall} {σ : aSt} {x1 x2 y0 : Int32} (h : Sh σ) : b_R C kX8_spare [] (39, [some (.ref 237), some (.int x1), some (.int x2)], [.int y0], σ) = b_G C kX8_spare [] 41 44 [some (.ref 237), some (.int x1), some (.int x2)] [.int y0] (C 171 [.ref 237, .int x1] σ) := by
  refine (e_aload_n (code := kX8_spare) (pc := 39) rfl rfl).trans ?_
  refine (e_iload_n (code := kX8_spare) (pc := 40) rfl rfl).trans ?_
  exact (e_callV (σ := σ) (code := kX8_spare) (pc := 41) (len := 3) (k := 171) (n := 2) (c := 20) (as := [.ref 237, .int x1]) (st0 := [.int y0]) rfl rfl rfl rfl rfl (sk_237 (σ := σ) h) rfl)
theorem b_X8_spare_44 {C : aCall} {σ : aSt} {x1 x2 y0 y1 : Int32} : b_R C kX8_spare [] (44, [some (.ref 237), some (.int x1), some (.int x2)], [.int y0, .int y1], σ) = (if y1 < y0 then b_R C kX8_spare [] (47, [some (.ref 237), some (.int x1), some (.int x2)], [], σ) else b_R C kX8_spare [] (49, [some (.ref 237), some (.int x1), some (.int x2)], [], σ)) := by
  refine (e_icge (code := kX8_spare) (pc := 44) rfl).trans ?_
  refine b_ite ?_ ?_
  · rfl
  · rfl
theorem b_X8_spare_47 {C : aCall} {σ : aSt} {x1 x2 : Int32} : b_R C kX8_spare [] (47, [some (.ref 237), some (.int x1), some (.int x2)], [], σ) = b_R C kX8_spare [] (49, [some (.ref 237), some (.int x2), some (.int x2)], [], σ) := by
  refine (e_iload_n (code := kX8_spare) (pc := 47) rfl rfl).trans ?_
  refine (e_istore_n (code := kX8_spare) (pc := 48) rfl rfl rfl).trans ?_
  rfl
theorem b_X8_spare_49 {C : aCall} {σ : aSt} {x1 x2 : Int32} : b_R C kX8_spare [] (49, [some (.ref 237), some (.int x1), some (.int x2)], [], σ) = b_R C kX8_spare [] (9, [some (.ref 237), some (.int x1), some (.int (x2 + nI 1))], [], σ) := by
  refine (e_iinc (code := kX8_spare) (pc := 49) rfl rfl rfl rfl).trans ?_
  refine (e_goto (code := kX8_spare) (pc := 52) rfl).trans ?_
  rfl
theorem n_X8_closest {P : aCall} {d : Nat} {σ : aSt} (hd : 1 ≤ d) : a_call a_tab P d 198 [.ref 237] σ = b_R (a_call a_tab P (d - 1)) kX8_closest [] (0, [some (.ref 237), none, none, none, none, none], [], σ) := e_call hd at_X8_closest rfl
theorem b_X8_closest_0 {C : aCall} {σ : aSt} (h : Sh σ) : b_R C kX8_closest [] (0, [some (.ref 237), none, none, none, none, none], [], σ) = b_R C kX8_closest [] (11, [some (.ref 237), some (.int ((-1))), some (.int (nI 0)), some (.int (nI 0)), none, none], [], (a_setI σ 237 6 (nI 0))) := by
  refine (e_aload_n (code := kX8_closest) (pc := 0) rfl rfl).trans ?_
  refine (e_iconst (code := kX8_closest) (pc := 1) rfl).trans ?_
  refine (e_putI (code := kX8_closest) (pc := 2) (c := 10) rfl (sk_237 (σ := σ) h) (h_100 rfl)).trans ?_
  refine (e_iconst (code := kX8_closest) (pc := 5) (σ := (a_setI σ 237 6 (nI 0))) rfl).trans ?_
  refine (e_istore_n (code := kX8_closest) (pc := 6) (σ := (a_setI σ 237 6 (nI 0))) rfl rfl rfl).trans ?_
  refine (e_iconst (code := kX8_closest) (pc := 7) (σ := (a_setI σ 237 6 (nI 0))) rfl).trans ?_
  refine (e_istore_n (code := kX8_closest) (pc := 8) (σ := (a_setI σ 237 6 (nI 0))) rfl rfl rfl).trans ?_
  refine (e_iconst (code := kX8_closest) (pc := 9) (σ := (a_setI σ 237 6 (nI 0))) rfl).trans ?_
  refine (e_istore_n (code := kX8_closest) (pc := 10) (σ := (a_setI σ 237 6 (nI 0))) rfl rfl rfl).trans ?_
  rfl
theorem b_X8_closest_11 {C : aCall} {σ : aSt} {w : Nat} {x1 x2 x3 : Int32} {o4 o5 : Option Value} (h : Sh σ) (hw : Rw σ w) : b_R C kX8_closest [] (11, [some (.ref 237), some (.int x1), some (.int x2), some (.int x3), o4, o5], [], σ) = b_gd (a_in (nI 1) 720) ((if x3 < (a_I σ w (Int32.toNatClampNeg (nI 1))) then b_R C kX8_closest [] (26, [some (.ref 237), some (.int x1), some (.int x2), some (.int x3), some (.int (x3 + (nI 1))), o5], [], σ) else some (.inl (some (.int x1)), σ))) := by
  refine (e_iload_n (code := kX8_closest) (pc := 11) rfl rfl).trans ?_
  refine (e_aload_n (code := kX8_closest) (pc := 12) rfl rfl).trans ?_
  refine (e_getR (code := kX8_closest) (pc := 13) (c := 10) rfl (sk_237 (σ := σ) h) hw.1).trans ?_
  refine (e_iconst (code := kX8_closest) (pc := 16) rfl).trans ?_
  refine (e_iaload (code := kX8_closest) (pc := 17) rfl (.inl hw.2.1) hw.2.2.2).trans ?_
  refine b_gd_c ?_
  refine (e_icge (code := kX8_closest) (pc := 18) rfl).trans ?_
  refine b_ite ?_ ?_
  · refine (e_iload_n (code := kX8_closest) (pc := 21) rfl rfl).trans ?_
    refine (e_iconst (code := kX8_closest) (pc := 22) rfl).trans ?_
    refine (e_iadd (code := kX8_closest) (pc := 23) rfl).trans ?_
    refine (e_istore (code := kX8_closest) (pc := 24) rfl rfl rfl).trans ?_
    rfl
  · refine (e_iload_n (code := kX8_closest) (pc := 87) rfl rfl).trans ?_
    exact e_ireturn rfl
theorem b_X8_closest_26 {C : aCall} {σ : aSt} {w : Nat} {x1 x2 x3 x4 : Int32} {o5 : Option Value} (h : Sh σ) (hw : Rw σ w) : b_R C kX8_closest [] (26, [some (.ref 237), some (.int x1), some (.int x2), some (.int x3), some (.int x4), o5], [], σ) = b_gd (a_in (nI 1) 720) ((if x4 < (a_I σ w (Int32.toNatClampNeg (nI 1))) then b_G C kX8_closest [] 39 42 [some (.ref 237), some (.int x1), some (.int x2), some (.int x3), some (.int x4), o5] [] (C 167 [.ref 237, .int x3] σ) else b_R C kX8_closest [] (11, [some (.ref 237), some (.int x1), some (.int x2), some (.int (x3 + nI 1)), some (.int x4), o5], [], σ))) := by
  refine (e_iload (code := kX8_closest) (pc := 26) rfl rfl).trans ?_
  refine (e_aload_n (code := kX8_closest) (pc := 28) rfl rfl).trans ?_
  refine (e_getR (code := kX8_closest) (pc := 29) (c := 10) rfl (sk_237 (σ := σ) h) hw.1).trans ?_
  refine (e_iconst (code := kX8_closest) (pc := 32) rfl).trans ?_
  refine (e_iaload (code := kX8_closest) (pc := 33) rfl (.inl hw.2.1) hw.2.2.2).trans ?_
  refine b_gd_c ?_
  refine (e_icge (code := kX8_closest) (pc := 34) rfl).trans ?_
  refine b_ite ?_ ?_
  · refine (e_aload_n (code := kX8_closest) (pc := 37) rfl rfl).trans ?_
    refine (e_iload_n (code := kX8_closest) (pc := 38) rfl rfl).trans ?_
    exact (e_callV (σ := σ) (code := kX8_closest) (pc := 39) (len := 3) (k := 167) (n := 2) (c := 20) (as := [.ref 237, .int x3]) (st0 := []) rfl rfl rfl rfl rfl (sk_237 (σ := σ) h) rfl)
  · refine (e_iinc (code := kX8_closest) (pc := 81) rfl rfl rfl rfl).trans ?_
    refine (e_goto (code := kX8_closest) (pc := 84) rfl).trans ?_
    rfl
theorem b_X8_closest_42 {C : aCall} {σ : aSt} {x1 x2 x3 x4 y0 : Int32} {o5 : Option Value} (h : Sh σ) : b_R C kX8_closest [] (42, [some (.ref 237), some (.int x1), some (.int x2), some (.int x3), some (.int x4), o5], [.int y0], σ) = b_G C kX8_closest [] 45 48 [some (.ref 237), some (.int x1), some (.int x2), some (.int x3), some (.int x4), o5] [.int y0] (C 167 [.ref 237, .int x4] σ) := by
  refine (e_aload_n (code := kX8_closest) (pc := 42) rfl rfl).trans ?_
  refine (e_iload (code := kX8_closest) (pc := 43) rfl rfl).trans ?_
  exact (e_callV (σ := σ) (code := kX8_closest) (pc := 45) (len := 3) (k := 167) (n := 2) (c := 20) (as := [.ref 237, .int x4]) (st0 := [.int y0]) rfl rfl rfl rfl rfl (sk_237 (σ := σ) h) rfl)
theorem b_X8_closest_48 {C : aCall} {σ : aSt} {x1 x2 x3 x4 y0 y1 : Int32} {o5 : Option Value} : b_R C kX8_closest [] (48, [some (.ref 237), some (.int x1), some (.int x2), some (.int x3), some (.int x4), o5], [.int y0, .int y1], σ) = b_G C kX8_closest [] 48 51 [some (.ref 237), some (.int x1), some (.int x2), some (.int x3), some (.int x4), o5] [] (C 162 [.int y1, .int y0] σ) := by
  exact (e_callS (code := kX8_closest) (pc := 48) (len := 3) (k := 162) (n := 2) (as := [.int y1, .int y0]) (st0 := []) rfl rfl rfl rfl)
theorem b_X8_closest_51 {C : aCall} {σ : aSt} {x1 x2 x3 x4 y0 : Int32} {o5 : Option Value} : b_R C kX8_closest [] (51, [some (.ref 237), some (.int x1), some (.int x2), some (.int x3), some (.int x4), o5], [.int y0], σ) = (if x1 = ((-1)) then b_R C kX8_closest [] (64, [some (.ref 237), some (.int x1), some (.int x2), some (.int x3), some (.int x4), some (.int y0)], [], σ) else (if y0 < x2 then b_R C kX8_closest [] (64, [some (.ref 237), some (.int x1), some (.int x2), some (.int x3), some (.int x4), some (.int y0)], [], σ) else b_R C kX8_closest [] (75, [some (.ref 237), some (.int x1), some (.int x2), some (.int x3), some (.int x4), some (.int y0)], [], σ))) := by
  refine (e_istore (code := kX8_closest) (pc := 51) rfl rfl rfl).trans ?_
  refine (e_iload_n (code := kX8_closest) (pc := 53) rfl rfl).trans ?_
  refine (e_iconst (code := kX8_closest) (pc := 54) rfl).trans ?_
  refine (e_iceq (code := kX8_closest) (pc := 55) rfl).trans ?_
  refine b_ite ?_ ?_
  · rfl
  · refine (e_iload (code := kX8_closest) (pc := 58) rfl rfl).trans ?_
    refine (e_iload_n (code := kX8_closest) (pc := 60) rfl rfl).trans ?_
    refine (e_icge (code := kX8_closest) (pc := 61) rfl).trans ?_
    refine b_ite ?_ ?_
    · rfl
    · rfl
theorem b_X8_closest_64 {C : aCall} {σ : aSt} {x1 x2 x3 x4 x5 : Int32} : b_R C kX8_closest [] (64, [some (.ref 237), some (.int x1), some (.int x2), some (.int x3), some (.int x4), some (.int x5)], [], σ) = b_R C kX8_closest [] (75, [some (.ref 237), some (.int (((nI 100) * x3) + x4)), some (.int x5), some (.int x3), some (.int x4), some (.int x5)], [], σ) := by
  refine (e_bipush (code := kX8_closest) (pc := 64) rfl).trans ?_
  refine (e_iload_n (code := kX8_closest) (pc := 66) rfl rfl).trans ?_
  refine (e_imul (code := kX8_closest) (pc := 67) rfl).trans ?_
  refine (e_iload (code := kX8_closest) (pc := 68) rfl rfl).trans ?_
  refine (e_iadd (code := kX8_closest) (pc := 70) rfl).trans ?_
  refine (e_istore_n (code := kX8_closest) (pc := 71) rfl rfl rfl).trans ?_
  refine (e_iload (code := kX8_closest) (pc := 72) rfl rfl).trans ?_
  refine (e_istore_n (code := kX8_closest) (pc := 74) rfl rfl rfl).trans ?_
  rfl
theorem b_X8_closest_75 {C : aCall} {σ : aSt} {x1 x2 x3 x4 x5 : Int32} : b_R C kX8_closest [] (75, [some (.ref 237), some (.int x1), some (.int x2), some (.int x3), some (.int x4), some (.int x5)], [], σ) = b_R C kX8_closest [] (26, [some (.ref 237), some (.int x1), some (.int x2), some (.int x3), some (.int (x4 + nI 1)), some (.int x5)], [], σ) := by
  refine (e_iinc (code := kX8_closest) (pc := 75) rfl rfl rfl rfl).trans ?_
  refine (e_goto (code := kX8_closest) (pc := 78) rfl).trans ?_
  rfl
theorem n_X8_twins {P : aCall} {d : Nat} {σ : aSt} (hd : 1 ≤ d) : a_call a_tab P d 199 [.ref 237] σ = b_R (a_call a_tab P (d - 1)) kX8_twins [] (0, [some (.ref 237), none, none, none], [], σ) := e_call hd at_X8_twins rfl
theorem b_X8_twins_0 {C : aCall} {σ : aSt} (h : Sh σ) : b_R C kX8_twins [] (0, [some (.ref 237), none, none, none], [], σ) = b_R C kX8_twins [] (9, [some (.ref 237), some (.int (nI 0)), some (.int (nI 0)), none], [], (a_setI σ 237 6 (nI 0))) := by
  refine (e_aload_n (code := kX8_twins) (pc := 0) rfl rfl).trans ?_
  refine (e_iconst (code := kX8_twins) (pc := 1) rfl).trans ?_
  refine (e_putI (code := kX8_twins) (pc := 2) (c := 10) rfl (sk_237 (σ := σ) h) (h_100 rfl)).trans ?_
  refine (e_iconst (code := kX8_twins) (pc := 5) (σ := (a_setI σ 237 6 (nI 0))) rfl).trans ?_
  refine (e_istore_n (code := kX8_twins) (pc := 6) (σ := (a_setI σ 237 6 (nI 0))) rfl rfl rfl).trans ?_
  refine (e_iconst (code := kX8_twins) (pc := 7) (σ := (a_setI σ 237 6 (nI 0))) rfl).trans ?_
  refine (e_istore_n (code := kX8_twins) (pc := 8) (σ := (a_setI σ 237 6 (nI 0))) rfl rfl rfl).trans ?_
  rfl
theorem b_X8_twins_9 {C : aCall} {σ : aSt} {w : Nat} {x1 x2 : Int32} {o3 : Option Value} (h : Sh σ) (hw : Rw σ w) : b_R C kX8_twins [] (9, [some (.ref 237), some (.int x1), some (.int x2), o3], [], σ) = b_gd (a_in (nI 1) 720) ((if x2 < (a_I σ w (Int32.toNatClampNeg (nI 1))) then b_R C kX8_twins [] (23, [some (.ref 237), some (.int x1), some (.int x2), some (.int (x2 + (nI 1)))], [], σ) else some (.inl (some (.int x1)), σ))) := by
  refine (e_iload_n (code := kX8_twins) (pc := 9) rfl rfl).trans ?_
  refine (e_aload_n (code := kX8_twins) (pc := 10) rfl rfl).trans ?_
  refine (e_getR (code := kX8_twins) (pc := 11) (c := 10) rfl (sk_237 (σ := σ) h) hw.1).trans ?_
  refine (e_iconst (code := kX8_twins) (pc := 14) rfl).trans ?_
  refine (e_iaload (code := kX8_twins) (pc := 15) rfl (.inl hw.2.1) hw.2.2.2).trans ?_
  refine b_gd_c ?_
  refine (e_icge (code := kX8_twins) (pc := 16) rfl).trans ?_
  refine b_ite ?_ ?_
  · refine (e_iload_n (code := kX8_twins) (pc := 19) rfl rfl).trans ?_
    refine (e_iconst (code := kX8_twins) (pc := 20) rfl).trans ?_
    refine (e_iadd (code := kX8_twins) (pc := 21) rfl).trans ?_
    refine (e_istore_n (code := kX8_twins) (pc := 22) rfl rfl rfl).trans ?_
    rfl
  · refine (e_iload_n (code := kX8_twins) (pc := 66) rfl rfl).trans ?_
    exact e_ireturn rfl
theorem b_X8_twins_23 {C : aCall} {σ : aSt} {w : Nat} {x1 x2 x3 : Int32} (h : Sh σ) (hw : Rw σ w) : b_R C kX8_twins [] (23, [some (.ref 237), some (.int x1), some (.int x2), some (.int x3)], [], σ) = b_gd (a_in (nI 1) 720) ((if x3 < (a_I σ w (Int32.toNatClampNeg (nI 1))) then b_G C kX8_twins [] 36 39 [some (.ref 237), some (.int x1), some (.int x2), some (.int x3)] [.int x1] (C 167 [.ref 237, .int x2] σ) else b_R C kX8_twins [] (9, [some (.ref 237), some (.int x1), some (.int (x2 + nI 1)), some (.int x3)], [], σ))) := by
  refine (e_iload_n (code := kX8_twins) (pc := 23) rfl rfl).trans ?_
  refine (e_aload_n (code := kX8_twins) (pc := 24) rfl rfl).trans ?_
  refine (e_getR (code := kX8_twins) (pc := 25) (c := 10) rfl (sk_237 (σ := σ) h) hw.1).trans ?_
  refine (e_iconst (code := kX8_twins) (pc := 28) rfl).trans ?_
  refine (e_iaload (code := kX8_twins) (pc := 29) rfl (.inl hw.2.1) hw.2.2.2).trans ?_
  refine b_gd_c ?_
  refine (e_icge (code := kX8_twins) (pc := 30) rfl).trans ?_
  refine b_ite ?_ ?_
  · refine (e_iload_n (code := kX8_twins) (pc := 33) rfl rfl).trans ?_
    refine (e_aload_n (code := kX8_twins) (pc := 34) rfl rfl).trans ?_
    refine (e_iload_n (code := kX8_twins) (pc := 35) rfl rfl).trans ?_
    exact (e_callV (σ := σ) (code := kX8_twins) (pc := 36) (len := 3) (k := 167) (n := 2) (c := 20) (as := [.ref 237, .int x2]) (st0 := [.int x1]) rfl rfl rfl rfl rfl (sk_237 (σ := σ) h) rfl)
  · refine (e_iinc (code := kX8_twins) (pc := 60) rfl rfl rfl rfl).trans ?_
    refine (e_goto (code := kX8_twins) (pc := 63) rfl).trans ?_
    rfl
theorem b_X8_twins_39 {C : aCall} {σ : aSt} {x1 x2 x3 y0 y1 : Int32} (h : Sh σ) : b_R C kX8_twins [] (39, [some (.ref 237), some (.int x1), some (.int x2), some (.int x3)], [.int y0, .int y1], σ) = b_G C kX8_twins [] 41 44 [some (.ref 237), some (.int x1), some (.int x2), some (.int x3)] [.int y0, .int y1] (C 167 [.ref 237, .int x3] σ) := by
  refine (e_aload_n (code := kX8_twins) (pc := 39) rfl rfl).trans ?_
  refine (e_iload_n (code := kX8_twins) (pc := 40) rfl rfl).trans ?_
  exact (e_callV (σ := σ) (code := kX8_twins) (pc := 41) (len := 3) (k := 167) (n := 2) (c := 20) (as := [.ref 237, .int x3]) (st0 := [.int y0, .int y1]) rfl rfl rfl rfl rfl (sk_237 (σ := σ) h) rfl)
theorem b_X8_twins_44 {C : aCall} {σ : aSt} {x1 x2 x3 y0 y1 y2 : Int32} : b_R C kX8_twins [] (44, [some (.ref 237), some (.int x1), some (.int x2), some (.int x3)], [.int y0, .int y1, .int y2], σ) = (if y1 = y0 then b_R C kX8_twins [] (52, [some (.ref 237), some (.int x1), some (.int x2), some (.int x3)], [.int (nI 1), .int y2], σ) else b_R C kX8_twins [] (52, [some (.ref 237), some (.int x1), some (.int x2), some (.int x3)], [.int (nI 0), .int y2], σ)) := by
  refine (e_icne (code := kX8_twins) (pc := 44) rfl).trans ?_
  refine b_ite ?_ ?_
  · refine (e_iconst (code := kX8_twins) (pc := 47) rfl).trans ?_
    refine (e_goto (code := kX8_twins) (pc := 48) rfl).trans ?_
    rfl
  · refine (e_iconst (code := kX8_twins) (pc := 51) rfl).trans ?_
    rfl
theorem b_X8_twins_52 {C : aCall} {σ : aSt} {x1 x2 x3 y0 y1 : Int32} : b_R C kX8_twins [] (52, [some (.ref 237), some (.int x1), some (.int x2), some (.int x3)], [.int y0, .int y1], σ) = b_R C kX8_twins [] (23, [some (.ref 237), some (.int (y1 + y0)), some (.int x2), some (.int (x3 + nI 1))], [], σ) := by
  refine (e_iadd (code := kX8_twins) (pc := 52) rfl).trans ?_
  refine (e_istore_n (code := kX8_twins) (pc := 53) rfl rfl rfl).trans ?_
  refine (e_iinc (code := kX8_twins) (pc := 54) rfl rfl rfl rfl).trans ?_
  refine (e_goto (code := kX8_twins) (pc := 57) rfl).trans ?_
  rfl
theorem n_X8_loss {P : aCall} {d : Nat} {σ : aSt} {x1 : Int32} (hd : 1 ≤ d) : a_call a_tab P d 200 [.ref 237, .int x1] σ = b_R (a_call a_tab P (d - 1)) kX8_loss [] (0, [some (.ref 237), some (.int x1)], [], σ) := e_call hd at_X8_loss rfl
theorem b_X8_loss_0 {C : aCall} {σ : aSt} {x1 : Int32} (h : Sh σ) : b_R C kX8_loss [] (0, [some (.ref 237), some (.int x1)], [], σ) = b_G C kX8_loss [] 3 6 [some (.ref 237), some (.int x1)] [.ref 237] (C 150 [.ref 237, .int x1] σ) := by
  refine (e_aload_n (code := kX8_loss) (pc := 0) rfl rfl).trans ?_
  refine (e_aload_n (code := kX8_loss) (pc := 1) rfl rfl).trans ?_
  refine (e_iload_n (code := kX8_loss) (pc := 2) rfl rfl).trans ?_
  exact (e_callV (σ := σ) (code := kX8_loss) (pc := 3) (len := 3) (k := 150) (n := 2) (c := 20) (as := [.ref 237, .int x1]) (st0 := [.ref 237]) rfl rfl rfl rfl rfl (sk_237 (σ := σ) h) rfl)
theorem b_X8_loss_6 {C : aCall} {σ : aSt} {x1 y0 : Int32} (h : Sh σ) : b_R C kX8_loss [] (6, [some (.ref 237), some (.int x1)], [.int y0, .ref 237], σ) = b_G C kX8_loss [] 6 9 [some (.ref 237), some (.int x1)] [] (C 148 [.ref 237, .int y0] σ) := by
  exact (e_callV (σ := σ) (code := kX8_loss) (pc := 6) (len := 3) (k := 148) (n := 2) (c := 20) (as := [.ref 237, .int y0]) (st0 := []) rfl rfl rfl rfl rfl (sk_237 (σ := σ) h) rfl)
theorem b_X8_loss_9 {C : aCall} {σ : aSt} {x1 y0 : Int32} (h : Sh σ) : b_R C kX8_loss [] (9, [some (.ref 237), some (.int x1)], [.int y0], σ) = (if y0 = 0 then b_G C kX8_loss [] 17 20 [some (.ref 237), some (.int x1)] [.ref 237] (C 167 [.ref 237, .int x1] σ) else some (.inl (some (.int (nI 0))), σ)) := by
  refine (e_ifeq (code := kX8_loss) (pc := 9) rfl).trans ?_
  refine b_ite ?_ ?_
  · refine (e_aload_n (code := kX8_loss) (pc := 14) rfl rfl).trans ?_
    refine (e_aload_n (code := kX8_loss) (pc := 15) rfl rfl).trans ?_
    refine (e_iload_n (code := kX8_loss) (pc := 16) rfl rfl).trans ?_
    exact (e_callV (σ := σ) (code := kX8_loss) (pc := 17) (len := 3) (k := 167) (n := 2) (c := 20) (as := [.ref 237, .int x1]) (st0 := [.ref 237]) rfl rfl rfl rfl rfl (sk_237 (σ := σ) h) rfl)
  · refine (e_iconst (code := kX8_loss) (pc := 12) rfl).trans ?_
    exact e_ireturn rfl
theorem b_X8_loss_20 {C : aCall} {σ : aSt} {x1 y0 : Int32} (h : Sh σ) : b_R C kX8_loss [] (20, [some (.ref 237), some (.int x1)], [.int y0, .ref 237], σ) = b_G C kX8_loss [] 21 24 [some (.ref 237), some (.int x1)] [] (C 176 [.ref 237, .int y0, .int (nI 3)] σ) := by
  refine (e_iconst (code := kX8_loss) (pc := 20) rfl).trans ?_
  exact (e_callV (σ := σ) (code := kX8_loss) (pc := 21) (len := 3) (k := 176) (n := 3) (c := 20) (as := [.ref 237, .int y0, .int (nI 3)]) (st0 := []) rfl rfl rfl rfl rfl (sk_237 (σ := σ) h) rfl)
theorem b_X8_loss_24 {C : aCall} {σ : aSt} {x1 : Int32} (h : Sh σ) : b_R C kX8_loss [] (24, [some (.ref 237), some (.int x1)], [], σ) = some (.inl (some (.int (a_I σ 237 14))), σ) := by
  refine (e_aload_n (code := kX8_loss) (pc := 24) rfl rfl).trans ?_
  refine (e_getI (code := kX8_loss) (pc := 25) (c := 10) rfl (sk_237 (σ := σ) h) rfl).trans ?_
  exact e_ireturn rfl
theorem n_X8_meanDrops {P : aCall} {d : Nat} {σ : aSt} (hd : 1 ≤ d) : a_call a_tab P d 201 [.ref 237] σ = b_R (a_call a_tab P (d - 1)) kX8_meanDrops [] (0, [some (.ref 237)], [], σ) := e_call hd at_X8_meanDrops rfl
theorem b_X8_meanDrops_0 {C : aCall} {σ : aSt} (h : Sh σ) : b_R C kX8_meanDrops [] (0, [some (.ref 237)], [], σ) = b_G C kX8_meanDrops [] 6 9 [some (.ref 237)] [] (C 172 [.ref 237] (a_setI σ 237 6 (nI 0))) := by
  refine (e_aload_n (code := kX8_meanDrops) (pc := 0) rfl rfl).trans ?_
  refine (e_iconst (code := kX8_meanDrops) (pc := 1) rfl).trans ?_
  refine (e_putI (code := kX8_meanDrops) (pc := 2) (c := 10) rfl (sk_237 (σ := σ) h) (h_100 rfl)).trans ?_
  refine (e_aload_n (code := kX8_meanDrops) (pc := 5) (σ := (a_setI σ 237 6 (nI 0))) rfl rfl).trans ?_
  exact (e_callV (σ := (a_setI σ 237 6 (nI 0))) (code := kX8_meanDrops) (pc := 6) (len := 3) (k := 172) (n := 1) (c := 20) (as := [.ref 237]) (st0 := []) rfl rfl rfl rfl rfl (sk_237 (σ := σ) h) rfl)
theorem b_X8_meanDrops_9 {C : aCall} {σ : aSt} {y0 : Int32} (h : Sh σ) : b_R C kX8_meanDrops [] (9, [some (.ref 237)], [.int y0], σ) = (if y0 = 0 then b_R C kX8_meanDrops [] (28, [some (.ref 237)], [.double FP.dconst0], σ) else b_G C kX8_meanDrops [] 18 21 [some (.ref 237)] [] (C 177 [.ref 237, .int (nI 1)] σ)) := by
  refine (e_ifne (code := kX8_meanDrops) (pc := 9) rfl).trans ?_
  refine b_ite ?_ ?_
  · refine (e_dconst (code := kX8_meanDrops) (pc := 12) rfl).trans ?_
    refine (e_goto (code := kX8_meanDrops) (pc := 13) rfl).trans ?_
    rfl
  · refine (e_aload_n (code := kX8_meanDrops) (pc := 16) rfl rfl).trans ?_
    refine (e_iconst (code := kX8_meanDrops) (pc := 17) rfl).trans ?_
    exact (e_callV (σ := σ) (code := kX8_meanDrops) (pc := 18) (len := 3) (k := 177) (n := 2) (c := 20) (as := [.ref 237, .int (nI 1)]) (st0 := []) rfl rfl rfl rfl rfl (sk_237 (σ := σ) h) rfl)
theorem b_X8_meanDrops_21 {C : aCall} {σ : aSt} {y0 : Int32} (h : Sh σ) : b_R C kX8_meanDrops [] (21, [some (.ref 237)], [.int y0], σ) = b_G C kX8_meanDrops [] 23 26 [some (.ref 237)] [.double (FP.i2d y0)] (C 172 [.ref 237] σ) := by
  refine (e_i2d (code := kX8_meanDrops) (pc := 21) rfl).trans ?_
  refine (e_aload_n (code := kX8_meanDrops) (pc := 22) rfl rfl).trans ?_
  exact (e_callV (σ := σ) (code := kX8_meanDrops) (pc := 23) (len := 3) (k := 172) (n := 1) (c := 20) (as := [.ref 237]) (st0 := [.double (FP.i2d y0)]) rfl rfl rfl rfl rfl (sk_237 (σ := σ) h) rfl)
theorem b_X8_meanDrops_26 {C : aCall} {σ : aSt} {y0 : Int32} {y1 : UInt64} : b_R C kX8_meanDrops [] (26, [some (.ref 237)], [.int y0, .double y1], σ) = b_gd (FP.ddiv y1 (FP.i2d y0) &&& 0x7fffffffffffffff ≤ 0x7ff0000000000000) (b_R C kX8_meanDrops [] (28, [some (.ref 237)], [.double (FP.ddiv y1 (FP.i2d y0))], σ)) := by
  refine (e_i2d (code := kX8_meanDrops) (pc := 26) rfl).trans ?_
  refine (e_ddiv (code := kX8_meanDrops) (pc := 27) rfl).trans ?_
  refine b_gd_c ?_
  rfl
theorem b_X8_meanDrops_28 {C : aCall} {σ : aSt} {y0 : UInt64} : b_R C kX8_meanDrops [] (28, [some (.ref 237)], [.double y0], σ) = some (.inl (some (.double y0)), σ) := by
  exact e_dreturn rfl
theorem n_X8_brokenShare {P : aCall} {d : Nat} {σ : aSt} (hd : 1 ≤ d) : a_call a_tab P d 202 [.ref 237] σ = b_R (a_call a_tab P (d - 1)) kX8_brokenShare [] (0, [some (.ref 237)], [], σ) := e_call hd at_X8_brokenShare rfl
theorem b_X8_brokenShare_0 {C : aCall} {σ : aSt} {w : Nat} (h : Sh σ) (hw : Rw σ w) : b_R C kX8_brokenShare [] (0, [some (.ref 237)], [], σ) = b_gd (a_in (nI 1) 720) ((if (a_I (a_setI σ 237 6 (nI 0)) w (Int32.toNatClampNeg (nI 1))) = 0 then b_R C kX8_brokenShare [] (31, [some (.ref 237)], [.float FP.fconst0], (a_setI σ 237 6 (nI 0))) else b_G C kX8_brokenShare [] 19 22 [some (.ref 237)] [] (C 170 [.ref 237] (a_setI σ 237 6 (nI 0))))) := by
  refine (e_aload_n (code := kX8_brokenShare) (pc := 0) rfl rfl).trans ?_
  refine (e_iconst (code := kX8_brokenShare) (pc := 1) rfl).trans ?_
  refine (e_putI (code := kX8_brokenShare) (pc := 2) (c := 10) rfl (sk_237 (σ := σ) h) (h_100 rfl)).trans ?_
  refine (e_aload_n (code := kX8_brokenShare) (pc := 5) (σ := (a_setI σ 237 6 (nI 0))) rfl rfl).trans ?_
  refine (e_getR (code := kX8_brokenShare) (pc := 6) (σ := (a_setI σ 237 6 (nI 0))) (c := 10) rfl (sk_237 (σ := σ) h) hw.1).trans ?_
  refine (e_iconst (code := kX8_brokenShare) (pc := 9) (σ := (a_setI σ 237 6 (nI 0))) rfl).trans ?_
  refine (e_iaload (code := kX8_brokenShare) (pc := 10) (σ := (a_setI σ 237 6 (nI 0))) rfl (.inl hw.2.1) hw.2.2.2).trans ?_
  refine b_gd_c ?_
  refine (e_ifne (code := kX8_brokenShare) (pc := 11) (σ := (a_setI σ 237 6 (nI 0))) rfl).trans ?_
  refine b_ite ?_ ?_
  · refine (e_fconst (code := kX8_brokenShare) (pc := 14) (σ := (a_setI σ 237 6 (nI 0))) rfl).trans ?_
    refine (e_goto (code := kX8_brokenShare) (pc := 15) (σ := (a_setI σ 237 6 (nI 0))) rfl).trans ?_
    rfl
  · refine (e_aload_n (code := kX8_brokenShare) (pc := 18) (σ := (a_setI σ 237 6 (nI 0))) rfl rfl).trans ?_
    exact (e_callV (σ := (a_setI σ 237 6 (nI 0))) (code := kX8_brokenShare) (pc := 19) (len := 3) (k := 170) (n := 1) (c := 20) (as := [.ref 237]) (st0 := []) rfl rfl rfl rfl rfl (sk_237 (σ := σ) h) rfl)
theorem b_X8_brokenShare_22 {C : aCall} {σ : aSt} {w : Nat} {y0 : Int32} (h : Sh σ) (hw : Rw σ w) : b_R C kX8_brokenShare [] (22, [some (.ref 237)], [.int y0], σ) = b_gd (a_in (nI 1) 720) (b_gd (FP.fdiv (FP.i2f y0) (FP.i2f (a_I σ w (Int32.toNatClampNeg (nI 1)))) &&& 0x7fffffff ≤ 0x7f800000) (b_R C kX8_brokenShare [] (31, [some (.ref 237)], [.float (FP.fdiv (FP.i2f y0) (FP.i2f (a_I σ w (Int32.toNatClampNeg (nI 1)))))], σ))) := by
  refine (e_i2f (code := kX8_brokenShare) (pc := 22) rfl).trans ?_
  refine (e_aload_n (code := kX8_brokenShare) (pc := 23) rfl rfl).trans ?_
  refine (e_getR (code := kX8_brokenShare) (pc := 24) (c := 10) rfl (sk_237 (σ := σ) h) hw.1).trans ?_
  refine (e_iconst (code := kX8_brokenShare) (pc := 27) rfl).trans ?_
  refine (e_iaload (code := kX8_brokenShare) (pc := 28) rfl (.inl hw.2.1) hw.2.2.2).trans ?_
  refine b_gd_c ?_
  refine (e_i2f (code := kX8_brokenShare) (pc := 29) rfl).trans ?_
  refine (e_fdiv (code := kX8_brokenShare) (pc := 30) rfl).trans ?_
  refine b_gd_c ?_
  rfl
theorem b_X8_brokenShare_31 {C : aCall} {σ : aSt} {y0 : UInt32} : b_R C kX8_brokenShare [] (31, [some (.ref 237)], [.float y0], σ) = some (.inl (some (.float y0)), σ) := by
  exact e_freturn rfl
theorem n_X8_forget {P : aCall} {d : Nat} {σ : aSt} {x1 : Int32} (hd : 1 ≤ d) : a_call a_tab P d 203 [.ref 237, .int x1] σ = b_R (a_call a_tab P (d - 1)) kX8_forget [] (0, [some (.ref 237), some (.int x1), none], [], σ) := e_call hd at_X8_forget rfl
theorem b_X8_forget_0 {C : aCall} {σ : aSt} {x1 : Int32} (h : Sh σ) : b_R C kX8_forget [] (0, [some (.ref 237), some (.int x1), none], [], σ) = b_G C kX8_forget [] 3 6 [some (.ref 237), some (.int x1), none] [.ref 237] (C 150 [.ref 237, .int x1] σ) := by
  refine (e_aload_n (code := kX8_forget) (pc := 0) rfl rfl).trans ?_
  refine (e_aload_n (code := kX8_forget) (pc := 1) rfl rfl).trans ?_
  refine (e_iload_n (code := kX8_forget) (pc := 2) rfl rfl).trans ?_
  exact (e_callV (σ := σ) (code := kX8_forget) (pc := 3) (len := 3) (k := 150) (n := 2) (c := 20) (as := [.ref 237, .int x1]) (st0 := [.ref 237]) rfl rfl rfl rfl rfl (sk_237 (σ := σ) h) rfl)
theorem b_X8_forget_6 {C : aCall} {σ : aSt} {x1 y0 : Int32} (h : Sh σ) : b_R C kX8_forget [] (6, [some (.ref 237), some (.int x1), none], [.int y0, .ref 237], σ) = b_G C kX8_forget [] 6 9 [some (.ref 237), some (.int x1), none] [] (C 148 [.ref 237, .int y0] σ) := by
  exact (e_callV (σ := σ) (code := kX8_forget) (pc := 6) (len := 3) (k := 148) (n := 2) (c := 20) (as := [.ref 237, .int y0]) (st0 := []) rfl rfl rfl rfl rfl (sk_237 (σ := σ) h) rfl)
theorem b_X8_forget_9 {C : aCall} {σ : aSt} {x1 y0 : Int32} (h : Sh σ) : b_R C kX8_forget [] (9, [some (.ref 237), some (.int x1), none], [.int y0], σ) = (if y0 = 0 then b_G C kX8_forget [] 15 18 [some (.ref 237), some (.int x1), none] [] (C 219 [.ref 237] σ) else some (.inl (some (.int (nI 0))), σ)) := by
  refine (e_ifeq (code := kX8_forget) (pc := 9) rfl).trans ?_
  refine b_ite ?_ ?_
  · refine (e_aload_n (code := kX8_forget) (pc := 14) rfl rfl).trans ?_
    exact (e_callV (σ := σ) (code := kX8_forget) (pc := 15) (len := 3) (k := 219) (n := 1) (c := 20) (as := [.ref 237]) (st0 := []) rfl rfl rfl rfl rfl (sk_237 (σ := σ) h) rfl)
  · refine (e_iconst (code := kX8_forget) (pc := 12) rfl).trans ?_
    exact e_ireturn rfl
theorem b_X8_forget_18 {C : aCall} {σ : aSt} {w : Nat} {x1 : Int32} (h : Sh σ) (hw : Rw σ w) : b_R C kX8_forget [] (18, [some (.ref 237), some (.int x1), none], [], σ) = b_gd (a_in (nI 1) 720) (b_gd (a_in (nI 1) 720) (b_R C kX8_forget [] (37, [some (.ref 237), some (.int x1), some (.int ((nI 288) + ((nI 18) * x1)))], [], (a_setI σ w (Int32.toNatClampNeg (nI 1)) ((a_I σ w (Int32.toNatClampNeg (nI 1))) - (nI 1)))))) := by
  refine (e_aload_n (code := kX8_forget) (pc := 18) rfl rfl).trans ?_
  refine (e_getR (code := kX8_forget) (pc := 19) (c := 10) rfl (sk_237 (σ := σ) h) hw.1).trans ?_
  refine (e_iconst (code := kX8_forget) (pc := 22) rfl).trans ?_
  refine (e_dup2 (code := kX8_forget) (pc := 23) rfl rfl rfl).trans ?_
  refine (e_iaload (code := kX8_forget) (pc := 24) rfl (.inl hw.2.1) hw.2.2.2).trans ?_
  refine b_gd_c ?_
  refine (e_iconst (code := kX8_forget) (pc := 25) rfl).trans ?_
  refine (e_isub (code := kX8_forget) (pc := 26) rfl).trans ?_
  refine (e_iastore (code := kX8_forget) (pc := 27) rfl hw.2.1 hw.2.2.1 hw.2.2.2).trans ?_
  refine b_gd_c ?_
  refine (e_sipush (code := kX8_forget) (pc := 28) (σ := (a_setI σ w (Int32.toNatClampNeg (nI 1)) ((a_I σ w (Int32.toNatClampNeg (nI 1))) - (nI 1)))) rfl).trans ?_
  refine (e_bipush (code := kX8_forget) (pc := 31) (σ := (a_setI σ w (Int32.toNatClampNeg (nI 1)) ((a_I σ w (Int32.toNatClampNeg (nI 1))) - (nI 1)))) rfl).trans ?_
  refine (e_iload_n (code := kX8_forget) (pc := 33) (σ := (a_setI σ w (Int32.toNatClampNeg (nI 1)) ((a_I σ w (Int32.toNatClampNeg (nI 1))) - (nI 1)))) rfl rfl).trans ?_
  refine (e_imul (code := kX8_forget) (pc := 34) (σ := (a_setI σ w (Int32.toNatClampNeg (nI 1)) ((a_I σ w (Int32.toNatClampNeg (nI 1))) - (nI 1)))) rfl).trans ?_
  refine (e_iadd (code := kX8_forget) (pc := 35) (σ := (a_setI σ w (Int32.toNatClampNeg (nI 1)) ((a_I σ w (Int32.toNatClampNeg (nI 1))) - (nI 1)))) rfl).trans ?_
  refine (e_istore_n (code := kX8_forget) (pc := 36) (σ := (a_setI σ w (Int32.toNatClampNeg (nI 1)) ((a_I σ w (Int32.toNatClampNeg (nI 1))) - (nI 1)))) rfl rfl rfl).trans ?_
  rfl
theorem b_X8_forget_37 {C : aCall} {σ : aSt} {w : Nat} {x1 x2 : Int32} (h : Sh σ) (hw : Rw σ w) : b_R C kX8_forget [] (37, [some (.ref 237), some (.int x1), some (.int x2)], [], σ) = b_gd (a_in (nI 1) 720) ((if x2 < ((nI 288) + ((nI 18) * (a_I σ w (Int32.toNatClampNeg (nI 1))))) then b_gd (a_in (x2 + (nI 18)) 720) (b_gd (a_in x2 720) (b_R C kX8_forget [] (37, [some (.ref 237), some (.int x1), some (.int (x2 + nI 1))], [], (a_setI σ w (Int32.toNatClampNeg x2) (a_I σ w (Int32.toNatClampNeg (x2 + (nI 18)))))))) else b_R C kX8_forget [] (77, [some (.ref 237), some (.int x1), some (.int (nI 0))], [], σ))) := by
  refine (e_iload_n (code := kX8_forget) (pc := 37) rfl rfl).trans ?_
  refine (e_sipush (code := kX8_forget) (pc := 38) rfl).trans ?_
  refine (e_bipush (code := kX8_forget) (pc := 41) rfl).trans ?_
  refine (e_aload_n (code := kX8_forget) (pc := 43) rfl rfl).trans ?_
  refine (e_getR (code := kX8_forget) (pc := 44) (c := 10) rfl (sk_237 (σ := σ) h) hw.1).trans ?_
  refine (e_iconst (code := kX8_forget) (pc := 47) rfl).trans ?_
  refine (e_iaload (code := kX8_forget) (pc := 48) rfl (.inl hw.2.1) hw.2.2.2).trans ?_
  refine b_gd_c ?_
  refine (e_imul (code := kX8_forget) (pc := 49) rfl).trans ?_
  refine (e_iadd (code := kX8_forget) (pc := 50) rfl).trans ?_
  refine (e_icge (code := kX8_forget) (pc := 51) rfl).trans ?_
  refine b_ite ?_ ?_
  · refine (e_aload_n (code := kX8_forget) (pc := 54) rfl rfl).trans ?_
    refine (e_getR (code := kX8_forget) (pc := 55) (c := 10) rfl (sk_237 (σ := σ) h) hw.1).trans ?_
    refine (e_iload_n (code := kX8_forget) (pc := 58) rfl rfl).trans ?_
    refine (e_aload_n (code := kX8_forget) (pc := 59) rfl rfl).trans ?_
    refine (e_getR (code := kX8_forget) (pc := 60) (c := 10) rfl (sk_237 (σ := σ) h) hw.1).trans ?_
    refine (e_iload_n (code := kX8_forget) (pc := 63) rfl rfl).trans ?_
    refine (e_bipush (code := kX8_forget) (pc := 64) rfl).trans ?_
    refine (e_iadd (code := kX8_forget) (pc := 66) rfl).trans ?_
    refine (e_iaload (code := kX8_forget) (pc := 67) rfl (.inl hw.2.1) hw.2.2.2).trans ?_
    refine b_gd_c ?_
    refine (e_iastore (code := kX8_forget) (pc := 68) rfl hw.2.1 hw.2.2.1 hw.2.2.2).trans ?_
    refine b_gd_c ?_
    refine (e_iinc (code := kX8_forget) (pc := 69) (σ := (a_setI σ w (Int32.toNatClampNeg x2) (a_I σ w (Int32.toNatClampNeg (x2 + (nI 18)))))) rfl rfl rfl rfl).trans ?_
    refine (e_goto (code := kX8_forget) (pc := 72) (σ := (a_setI σ w (Int32.toNatClampNeg x2) (a_I σ w (Int32.toNatClampNeg (x2 + (nI 18)))))) rfl).trans ?_
    rfl
  · refine (e_iconst (code := kX8_forget) (pc := 75) rfl).trans ?_
    refine (e_istore_n (code := kX8_forget) (pc := 76) rfl rfl rfl).trans ?_
    rfl
theorem b_X8_forget_77 {C : aCall} {σ : aSt} {w : Nat} {x1 x2 : Int32} (h : Sh σ) (hw : Rw σ w) : b_R C kX8_forget [] (77, [some (.ref 237), some (.int x1), some (.int x2)], [], σ) = (if x2 < (nI 18) then b_gd (a_in (nI 1) 720) (b_G C kX8_forget [] 92 95 [some (.ref 237), some (.int x1), some (.int x2)] [] (C 156 [.ref 237, .int (a_I σ w (Int32.toNatClampNeg (nI 1))), .int x2, .int (nI 0)] σ)) else b_gd (a_in (nI 1) 720) (some (.inl (some (.int (a_I σ w (Int32.toNatClampNeg (nI 1))))), σ))) := by
  refine (e_iload_n (code := kX8_forget) (pc := 77) rfl rfl).trans ?_
  refine (e_bipush (code := kX8_forget) (pc := 78) rfl).trans ?_
  refine (e_icge (code := kX8_forget) (pc := 80) rfl).trans ?_
  refine b_ite ?_ ?_
  · refine (e_aload_n (code := kX8_forget) (pc := 83) rfl rfl).trans ?_
    refine (e_aload_n (code := kX8_forget) (pc := 84) rfl rfl).trans ?_
    refine (e_getR (code := kX8_forget) (pc := 85) (c := 10) rfl (sk_237 (σ := σ) h) hw.1).trans ?_
    refine (e_iconst (code := kX8_forget) (pc := 88) rfl).trans ?_
    refine (e_iaload (code := kX8_forget) (pc := 89) rfl (.inl hw.2.1) hw.2.2.2).trans ?_
    refine b_gd_c ?_
    refine (e_iload_n (code := kX8_forget) (pc := 90) rfl rfl).trans ?_
    refine (e_iconst (code := kX8_forget) (pc := 91) rfl).trans ?_
    exact (e_callV (σ := σ) (code := kX8_forget) (pc := 92) (len := 3) (k := 156) (n := 4) (c := 20) (as := [.ref 237, .int (a_I σ w (Int32.toNatClampNeg (nI 1))), .int x2, .int (nI 0)]) (st0 := []) rfl rfl rfl rfl rfl (sk_237 (σ := σ) h) rfl)
  · refine (e_aload_n (code := kX8_forget) (pc := 101) rfl rfl).trans ?_
    refine (e_getR (code := kX8_forget) (pc := 102) (c := 10) rfl (sk_237 (σ := σ) h) hw.1).trans ?_
    refine (e_iconst (code := kX8_forget) (pc := 105) rfl).trans ?_
    refine (e_iaload (code := kX8_forget) (pc := 106) rfl (.inl hw.2.1) hw.2.2.2).trans ?_
    refine b_gd_c ?_
    exact e_ireturn rfl
theorem b_X8_forget_95 {C : aCall} {σ : aSt} {x1 x2 : Int32} : b_R C kX8_forget [] (95, [some (.ref 237), some (.int x1), some (.int x2)], [], σ) = b_R C kX8_forget [] (77, [some (.ref 237), some (.int x1), some (.int (x2 + nI 1))], [], σ) := by
  refine (e_iinc (code := kX8_forget) (pc := 95) rfl rfl rfl rfl).trans ?_
  refine (e_goto (code := kX8_forget) (pc := 98) rfl).trans ?_
  rfl
theorem n_X8_retire {P : aCall} {d : Nat} {σ : aSt} {x1 x2 : Int32} (hd : 1 ≤ d) : a_call a_tab P d 204 [.ref 237, .int x1, .int x2] σ = b_R (a_call a_tab P (d - 1)) kX8_retire [] (0, [some (.ref 237), some (.int x1), some (.int x2)], [], σ) := e_call hd at_X8_retire rfl
theorem b_X8_retire_0 {C : aCall} {σ : aSt} {x1 x2 : Int32} (h : Sh σ) : b_R C kX8_retire [] (0, [some (.ref 237), some (.int x1), some (.int x2)], [], σ) = b_G C kX8_retire [] 3 6 [some (.ref 237), some (.int x1), some (.int x2)] [.ref 237] (C 149 [.ref 237, .int x1] σ) := by
  refine (e_aload_n (code := kX8_retire) (pc := 0) rfl rfl).trans ?_
  refine (e_aload_n (code := kX8_retire) (pc := 1) rfl rfl).trans ?_
  refine (e_iload_n (code := kX8_retire) (pc := 2) rfl rfl).trans ?_
  exact (e_callV (σ := σ) (code := kX8_retire) (pc := 3) (len := 3) (k := 149) (n := 2) (c := 20) (as := [.ref 237, .int x1]) (st0 := [.ref 237]) rfl rfl rfl rfl rfl (sk_237 (σ := σ) h) rfl)
theorem b_X8_retire_6 {C : aCall} {σ : aSt} {x1 x2 y0 : Int32} (h : Sh σ) : b_R C kX8_retire [] (6, [some (.ref 237), some (.int x1), some (.int x2)], [.int y0, .ref 237], σ) = b_G C kX8_retire [] 6 9 [some (.ref 237), some (.int x1), some (.int x2)] [] (C 148 [.ref 237, .int y0] σ) := by
  exact (e_callV (σ := σ) (code := kX8_retire) (pc := 6) (len := 3) (k := 148) (n := 2) (c := 20) (as := [.ref 237, .int y0]) (st0 := []) rfl rfl rfl rfl rfl (sk_237 (σ := σ) h) rfl)
theorem b_X8_retire_9 {C : aCall} {σ : aSt} {x1 x2 y0 : Int32} (h : Sh σ) : b_R C kX8_retire [] (9, [some (.ref 237), some (.int x1), some (.int x2)], [.int y0], σ) = (if y0 = 0 then b_G C kX8_retire [] 15 18 [some (.ref 237), some (.int x1), some (.int x2)] [] (C 219 [.ref 237] σ) else some (.inl (some (.int (nI 0))), σ)) := by
  refine (e_ifeq (code := kX8_retire) (pc := 9) rfl).trans ?_
  refine b_ite ?_ ?_
  · refine (e_aload_n (code := kX8_retire) (pc := 14) rfl rfl).trans ?_
    exact (e_callV (σ := σ) (code := kX8_retire) (pc := 15) (len := 3) (k := 219) (n := 1) (c := 20) (as := [.ref 237]) (st0 := []) rfl rfl rfl rfl rfl (sk_237 (σ := σ) h) rfl)
  · refine (e_iconst (code := kX8_retire) (pc := 12) rfl).trans ?_
    exact e_ireturn rfl
theorem b_X8_retire_18 {C : aCall} {σ : aSt} {x1 x2 : Int32} : b_R C kX8_retire [] (18, [some (.ref 237), some (.int x1), some (.int x2)], [], σ) = (if x2 = 0 then b_R C kX8_retire [] (30, [some (.ref 237), some (.int x1), some (.int x2)], [.int (nI 1), .int (nI 4), .int x1, .ref 237], σ) else b_R C kX8_retire [] (30, [some (.ref 237), some (.int x1), some (.int x2)], [.int (nI 0), .int (nI 4), .int x1, .ref 237], σ)) := by
  refine (e_aload_n (code := kX8_retire) (pc := 18) rfl rfl).trans ?_
  refine (e_iload_n (code := kX8_retire) (pc := 19) rfl rfl).trans ?_
  refine (e_iconst (code := kX8_retire) (pc := 20) rfl).trans ?_
  refine (e_iload_n (code := kX8_retire) (pc := 21) rfl rfl).trans ?_
  refine (e_ifeq (code := kX8_retire) (pc := 22) rfl).trans ?_
  refine b_ite ?_ ?_
  · refine (e_iconst (code := kX8_retire) (pc := 29) rfl).trans ?_
    rfl
  · refine (e_iconst (code := kX8_retire) (pc := 25) rfl).trans ?_
    refine (e_goto (code := kX8_retire) (pc := 26) rfl).trans ?_
    rfl
theorem b_X8_retire_30 {C : aCall} {σ : aSt} {x1 x2 y0 y1 y2 : Int32} (h : Sh σ) : b_R C kX8_retire [] (30, [some (.ref 237), some (.int x1), some (.int x2)], [.int y0, .int y1, .int y2, .ref 237], σ) = b_G C kX8_retire [] 30 33 [some (.ref 237), some (.int x1), some (.int x2)] [] (C 154 [.ref 237, .int y2, .int y1, .int y0] σ) := by
  exact (e_callV (σ := σ) (code := kX8_retire) (pc := 30) (len := 3) (k := 154) (n := 4) (c := 20) (as := [.ref 237, .int y2, .int y1, .int y0]) (st0 := []) rfl rfl rfl rfl rfl (sk_237 (σ := σ) h) rfl)
theorem b_X8_retire_33 {C : aCall} {σ : aSt} {x1 x2 : Int32} (h : Sh σ) : b_R C kX8_retire [] (33, [some (.ref 237), some (.int x1), some (.int x2)], [], σ) = b_G C kX8_retire [] 34 37 [some (.ref 237), some (.int x1), some (.int x2)] [] (C 170 [.ref 237] σ) := by
  refine (e_aload_n (code := kX8_retire) (pc := 33) rfl rfl).trans ?_
  exact (e_callV (σ := σ) (code := kX8_retire) (pc := 34) (len := 3) (k := 170) (n := 1) (c := 20) (as := [.ref 237]) (st0 := []) rfl rfl rfl rfl rfl (sk_237 (σ := σ) h) rfl)
theorem b_X8_retire_37 {C : aCall} {σ : aSt} {x1 x2 y0 : Int32} : b_R C kX8_retire [] (37, [some (.ref 237), some (.int x1), some (.int x2)], [.int y0], σ) = some (.inl (some (.int y0)), σ) := by
  exact e_ireturn rfl
theorem n_X8_heal {P : aCall} {d : Nat} {σ : aSt} {x1 : Int32} (hd : 1 ≤ d) : a_call a_tab P d 205 [.ref 237, .int x1] σ = b_R (a_call a_tab P (d - 1)) kX8_heal [] (0, [some (.ref 237), some (.int x1), none], [], σ) := e_call hd at_X8_heal rfl
theorem b_X8_heal_0 {C : aCall} {σ : aSt} {x1 : Int32} (h : Sh σ) : b_R C kX8_heal [] (0, [some (.ref 237), some (.int x1), none], [], σ) = b_G C kX8_heal [] 3 6 [some (.ref 237), some (.int x1), none] [.ref 237] (C 150 [.ref 237, .int x1] σ) := by
  refine (e_aload_n (code := kX8_heal) (pc := 0) rfl rfl).trans ?_
  refine (e_aload_n (code := kX8_heal) (pc := 1) rfl rfl).trans ?_
  refine (e_iload_n (code := kX8_heal) (pc := 2) rfl rfl).trans ?_
  exact (e_callV (σ := σ) (code := kX8_heal) (pc := 3) (len := 3) (k := 150) (n := 2) (c := 20) (as := [.ref 237, .int x1]) (st0 := [.ref 237]) rfl rfl rfl rfl rfl (sk_237 (σ := σ) h) rfl)
theorem b_X8_heal_6 {C : aCall} {σ : aSt} {x1 y0 : Int32} (h : Sh σ) : b_R C kX8_heal [] (6, [some (.ref 237), some (.int x1), none], [.int y0, .ref 237], σ) = b_G C kX8_heal [] 6 9 [some (.ref 237), some (.int x1), none] [] (C 148 [.ref 237, .int y0] σ) := by
  exact (e_callV (σ := σ) (code := kX8_heal) (pc := 6) (len := 3) (k := 148) (n := 2) (c := 20) (as := [.ref 237, .int y0]) (st0 := []) rfl rfl rfl rfl rfl (sk_237 (σ := σ) h) rfl)
theorem b_X8_heal_9 {C : aCall} {σ : aSt} {x1 y0 : Int32} (h : Sh σ) : b_R C kX8_heal [] (9, [some (.ref 237), some (.int x1), none], [.int y0], σ) = (if y0 = 0 then b_G C kX8_heal [] 16 19 [some (.ref 237), some (.int x1), none] [] (C 169 [.ref 237, .int x1] σ) else some (.inl (some (.int (nI 0))), σ)) := by
  refine (e_ifeq (code := kX8_heal) (pc := 9) rfl).trans ?_
  refine b_ite ?_ ?_
  · refine (e_aload_n (code := kX8_heal) (pc := 14) rfl rfl).trans ?_
    refine (e_iload_n (code := kX8_heal) (pc := 15) rfl rfl).trans ?_
    exact (e_callV (σ := σ) (code := kX8_heal) (pc := 16) (len := 3) (k := 169) (n := 2) (c := 20) (as := [.ref 237, .int x1]) (st0 := []) rfl rfl rfl rfl rfl (sk_237 (σ := σ) h) rfl)
  · refine (e_iconst (code := kX8_heal) (pc := 12) rfl).trans ?_
    exact e_ireturn rfl
theorem b_X8_heal_19 {C : aCall} {σ : aSt} {x1 y0 : Int32} (h : Sh σ) : b_R C kX8_heal [] (19, [some (.ref 237), some (.int x1), none], [.int y0], σ) = (if y0 = 0 then some (.inl (some (.int ((-2)))), σ) else b_G C kX8_heal [] 28 31 [some (.ref 237), some (.int x1), none] [.ref 237] (C 167 [.ref 237, .int x1] σ)) := by
  refine (e_ifne (code := kX8_heal) (pc := 19) rfl).trans ?_
  refine b_ite ?_ ?_
  · refine (e_bipush (code := kX8_heal) (pc := 22) rfl).trans ?_
    exact e_ireturn rfl
  · refine (e_aload_n (code := kX8_heal) (pc := 25) rfl rfl).trans ?_
    refine (e_aload_n (code := kX8_heal) (pc := 26) rfl rfl).trans ?_
    refine (e_iload_n (code := kX8_heal) (pc := 27) rfl rfl).trans ?_
    exact (e_callV (σ := σ) (code := kX8_heal) (pc := 28) (len := 3) (k := 167) (n := 2) (c := 20) (as := [.ref 237, .int x1]) (st0 := [.ref 237]) rfl rfl rfl rfl rfl (sk_237 (σ := σ) h) rfl)
theorem b_X8_heal_31 {C : aCall} {σ : aSt} {x1 y0 : Int32} (h : Sh σ) : b_R C kX8_heal [] (31, [some (.ref 237), some (.int x1), none], [.int y0, .ref 237], σ) = b_G C kX8_heal [] 32 35 [some (.ref 237), some (.int x1), none] [] (C 176 [.ref 237, .int y0, .int (nI 3)] σ) := by
  refine (e_iconst (code := kX8_heal) (pc := 31) rfl).trans ?_
  exact (e_callV (σ := σ) (code := kX8_heal) (pc := 32) (len := 3) (k := 176) (n := 3) (c := 20) (as := [.ref 237, .int y0, .int (nI 3)]) (st0 := []) rfl rfl rfl rfl rfl (sk_237 (σ := σ) h) rfl)
theorem b_X8_heal_35 {C : aCall} {σ : aSt} {w : Nat} {x1 : Int32} (h : Sh σ) (hw : Rw σ w) : b_R C kX8_heal [] (35, [some (.ref 237), some (.int x1), none], [], σ) = (if (a_I σ 237 13) = 0 then some (.inl (some (.int ((-3)))), σ) else b_gd (a_in (nI 4) 720) ((if (a_I σ w (Int32.toNatClampNeg (nI 4))) < (a_I σ 237 14) then some (.inl (some (.int ((-4)))), σ) else b_G C kX8_heal [] 62 65 [some (.ref 237), some (.int x1), none] [] (C 219 [.ref 237] σ)))) := by
  refine (e_aload_n (code := kX8_heal) (pc := 35) rfl rfl).trans ?_
  refine (e_getI (code := kX8_heal) (pc := 36) (c := 10) rfl (sk_237 (σ := σ) h) rfl).trans ?_
  refine (e_ifne (code := kX8_heal) (pc := 39) rfl).trans ?_
  refine b_ite ?_ ?_
  · refine (e_bipush (code := kX8_heal) (pc := 42) rfl).trans ?_
    exact e_ireturn rfl
  · refine (e_aload_n (code := kX8_heal) (pc := 45) rfl rfl).trans ?_
    refine (e_getI (code := kX8_heal) (pc := 46) (c := 10) rfl (sk_237 (σ := σ) h) rfl).trans ?_
    refine (e_aload_n (code := kX8_heal) (pc := 49) rfl rfl).trans ?_
    refine (e_getR (code := kX8_heal) (pc := 50) (c := 10) rfl (sk_237 (σ := σ) h) hw.1).trans ?_
    refine (e_iconst (code := kX8_heal) (pc := 53) rfl).trans ?_
    refine (e_iaload (code := kX8_heal) (pc := 54) rfl (.inl hw.2.1) hw.2.2.2).trans ?_
    refine b_gd_c ?_
    refine (e_icle (code := kX8_heal) (pc := 55) rfl).trans ?_
    refine b_ite ?_ ?_
    · refine (e_bipush (code := kX8_heal) (pc := 58) rfl).trans ?_
      exact e_ireturn rfl
    · refine (e_aload_n (code := kX8_heal) (pc := 61) rfl rfl).trans ?_
      exact (e_callV (σ := σ) (code := kX8_heal) (pc := 62) (len := 3) (k := 219) (n := 1) (c := 20) (as := [.ref 237]) (st0 := []) rfl rfl rfl rfl rfl (sk_237 (σ := σ) h) rfl)
theorem b_X8_heal_65 {C : aCall} {σ : aSt} {x1 : Int32} (h : Sh σ) : b_R C kX8_heal [] (65, [some (.ref 237), some (.int x1), none], [], σ) = b_G C kX8_heal [] 73 76 [some (.ref 237), some (.int x1), none] [] (C 156 [.ref 237, .int x1, .int (nI 9), .int (a_I σ 237 13)] σ) := by
  refine (e_aload_n (code := kX8_heal) (pc := 65) rfl rfl).trans ?_
  refine (e_iload_n (code := kX8_heal) (pc := 66) rfl rfl).trans ?_
  refine (e_bipush (code := kX8_heal) (pc := 67) rfl).trans ?_
  refine (e_aload_n (code := kX8_heal) (pc := 69) rfl rfl).trans ?_
  refine (e_getI (code := kX8_heal) (pc := 70) (c := 10) rfl (sk_237 (σ := σ) h) rfl).trans ?_
  exact (e_callV (σ := σ) (code := kX8_heal) (pc := 73) (len := 3) (k := 156) (n := 4) (c := 20) (as := [.ref 237, .int x1, .int (nI 9), .int (a_I σ 237 13)]) (st0 := []) rfl rfl rfl rfl rfl (sk_237 (σ := σ) h) rfl)
theorem b_X8_heal_76 {C : aCall} {σ : aSt} {x1 : Int32} : b_R C kX8_heal [] (76, [some (.ref 237), some (.int x1), none], [], σ) = b_R C kX8_heal [] (78, [some (.ref 237), some (.int x1), some (.int (nI 0))], [], σ) := by
  refine (e_iconst (code := kX8_heal) (pc := 76) rfl).trans ?_
  refine (e_istore_n (code := kX8_heal) (pc := 77) rfl rfl rfl).trans ?_
  rfl
theorem b_X8_heal_78 {C : aCall} {σ : aSt} {x1 x2 : Int32} (h : Sh σ) : b_R C kX8_heal [] (78, [some (.ref 237), some (.int x1), some (.int x2)], [], σ) = (if x2 < (nI 4) then (if x2 < (a_I σ 237 13) then b_gd (a_in x2 3) (b_R C kX8_heal [] (107, [some (.ref 237), some (.int x1), some (.int x2)], [.int (a_I σ 244 (Int32.toNatClampNeg x2)), .int ((nI 10) + x2), .int x1, .ref 237], σ)) else b_R C kX8_heal [] (107, [some (.ref 237), some (.int x1), some (.int x2)], [.int (nI 0), .int ((nI 10) + x2), .int x1, .ref 237], σ)) else some (.inl (some (.int (a_I σ 237 14))), σ)) := by
  refine (e_iload_n (code := kX8_heal) (pc := 78) rfl rfl).trans ?_
  refine (e_iconst (code := kX8_heal) (pc := 79) rfl).trans ?_
  refine (e_icge (code := kX8_heal) (pc := 80) rfl).trans ?_
  refine b_ite ?_ ?_
  · refine (e_aload_n (code := kX8_heal) (pc := 83) rfl rfl).trans ?_
    refine (e_iload_n (code := kX8_heal) (pc := 84) rfl rfl).trans ?_
    refine (e_bipush (code := kX8_heal) (pc := 85) rfl).trans ?_
    refine (e_iload_n (code := kX8_heal) (pc := 87) rfl rfl).trans ?_
    refine (e_iadd (code := kX8_heal) (pc := 88) rfl).trans ?_
    refine (e_iload_n (code := kX8_heal) (pc := 89) rfl rfl).trans ?_
    refine (e_aload_n (code := kX8_heal) (pc := 90) rfl rfl).trans ?_
    refine (e_getI (code := kX8_heal) (pc := 91) (c := 10) rfl (sk_237 (σ := σ) h) rfl).trans ?_
    refine (e_icge (code := kX8_heal) (pc := 94) rfl).trans ?_
    refine b_ite ?_ ?_
    · refine (e_aload_n (code := kX8_heal) (pc := 97) rfl rfl).trans ?_
      refine (e_getR (code := kX8_heal) (pc := 98) (c := 10) rfl (sk_237 (σ := σ) h) (sr_237_11 (σ := σ) h)).trans ?_
      refine (e_iload_n (code := kX8_heal) (pc := 101) rfl rfl).trans ?_
      refine (e_iaload (code := kX8_heal) (pc := 102) rfl (.inl (sk_244 (σ := σ) h)) (sl_244 (σ := σ) h)).trans ?_
      refine b_gd_c ?_
      refine (e_goto (code := kX8_heal) (pc := 103) rfl).trans ?_
      rfl
    · refine (e_iconst (code := kX8_heal) (pc := 106) rfl).trans ?_
      rfl
  · refine (e_aload_n (code := kX8_heal) (pc := 143) rfl rfl).trans ?_
    refine (e_getI (code := kX8_heal) (pc := 144) (c := 10) rfl (sk_237 (σ := σ) h) rfl).trans ?_
    exact e_ireturn rfl
theorem b_X8_heal_107 {C : aCall} {σ : aSt} {x1 x2 y0 y1 y2 : Int32} (h : Sh σ) : b_R C kX8_heal [] (107, [some (.ref 237), some (.int x1), some (.int x2)], [.int y0, .int y1, .int y2, .ref 237], σ) = b_G C kX8_heal [] 107 110 [some (.ref 237), some (.int x1), some (.int x2)] [] (C 156 [.ref 237, .int y2, .int y1, .int y0] σ) := by
  exact (e_callV (σ := σ) (code := kX8_heal) (pc := 107) (len := 3) (k := 156) (n := 4) (c := 20) (as := [.ref 237, .int y2, .int y1, .int y0]) (st0 := []) rfl rfl rfl rfl rfl (sk_237 (σ := σ) h) rfl)
theorem b_X8_heal_110 {C : aCall} {σ : aSt} {x1 x2 : Int32} (h : Sh σ) : b_R C kX8_heal [] (110, [some (.ref 237), some (.int x1), some (.int x2)], [], σ) = (if x2 < (a_I σ 237 13) then b_gd (a_in x2 3) (b_R C kX8_heal [] (134, [some (.ref 237), some (.int x1), some (.int x2)], [.int (a_I σ 245 (Int32.toNatClampNeg x2)), .int ((nI 14) + x2), .int x1, .ref 237], σ)) else b_R C kX8_heal [] (134, [some (.ref 237), some (.int x1), some (.int x2)], [.int (nI 0), .int ((nI 14) + x2), .int x1, .ref 237], σ)) := by
  refine (e_aload_n (code := kX8_heal) (pc := 110) rfl rfl).trans ?_
  refine (e_iload_n (code := kX8_heal) (pc := 111) rfl rfl).trans ?_
  refine (e_bipush (code := kX8_heal) (pc := 112) rfl).trans ?_
  refine (e_iload_n (code := kX8_heal) (pc := 114) rfl rfl).trans ?_
  refine (e_iadd (code := kX8_heal) (pc := 115) rfl).trans ?_
  refine (e_iload_n (code := kX8_heal) (pc := 116) rfl rfl).trans ?_
  refine (e_aload_n (code := kX8_heal) (pc := 117) rfl rfl).trans ?_
  refine (e_getI (code := kX8_heal) (pc := 118) (c := 10) rfl (sk_237 (σ := σ) h) rfl).trans ?_
  refine (e_icge (code := kX8_heal) (pc := 121) rfl).trans ?_
  refine b_ite ?_ ?_
  · refine (e_aload_n (code := kX8_heal) (pc := 124) rfl rfl).trans ?_
    refine (e_getR (code := kX8_heal) (pc := 125) (c := 10) rfl (sk_237 (σ := σ) h) (sr_237_12 (σ := σ) h)).trans ?_
    refine (e_iload_n (code := kX8_heal) (pc := 128) rfl rfl).trans ?_
    refine (e_iaload (code := kX8_heal) (pc := 129) rfl (.inl (sk_245 (σ := σ) h)) (sl_245 (σ := σ) h)).trans ?_
    refine b_gd_c ?_
    refine (e_goto (code := kX8_heal) (pc := 130) rfl).trans ?_
    rfl
  · refine (e_iconst (code := kX8_heal) (pc := 133) rfl).trans ?_
    rfl
theorem b_X8_heal_134 {C : aCall} {σ : aSt} {x1 x2 y0 y1 y2 : Int32} (h : Sh σ) : b_R C kX8_heal [] (134, [some (.ref 237), some (.int x1), some (.int x2)], [.int y0, .int y1, .int y2, .ref 237], σ) = b_G C kX8_heal [] 134 137 [some (.ref 237), some (.int x1), some (.int x2)] [] (C 156 [.ref 237, .int y2, .int y1, .int y0] σ) := by
  exact (e_callV (σ := σ) (code := kX8_heal) (pc := 134) (len := 3) (k := 156) (n := 4) (c := 20) (as := [.ref 237, .int y2, .int y1, .int y0]) (st0 := []) rfl rfl rfl rfl rfl (sk_237 (σ := σ) h) rfl)
theorem b_X8_heal_137 {C : aCall} {σ : aSt} {x1 x2 : Int32} : b_R C kX8_heal [] (137, [some (.ref 237), some (.int x1), some (.int x2)], [], σ) = b_R C kX8_heal [] (78, [some (.ref 237), some (.int x1), some (.int (x2 + nI 1))], [], σ) := by
  refine (e_iinc (code := kX8_heal) (pc := 137) rfl rfl rfl rfl).trans ?_
  refine (e_goto (code := kX8_heal) (pc := 140) rfl).trans ?_
  rfl
theorem n_X8_keepPainting {P : aCall} {d : Nat} {σ : aSt} {x1 x2 x3 x4 : Int32} (hd : 1 ≤ d) : a_call a_tab P d 206 [.ref 237, .int x1, .int x2, .int x3, .int x4] σ = b_R (a_call a_tab P (d - 1)) kX8_keepPainting [] (0, [some (.ref 237), some (.int x1), some (.int x2), some (.int x3), some (.int x4), none], [], σ) := e_call hd at_X8_keepPainting rfl
theorem b_X8_keepPainting_0 {C : aCall} {σ : aSt} {x1 x2 x3 x4 : Int32} : b_R C kX8_keepPainting [] (0, [some (.ref 237), some (.int x1), some (.int x2), some (.int x3), some (.int x4), none], [], σ) = b_R C kX8_keepPainting [] (5, [some (.ref 237), some (.int x1), some (.int x2), some (.int x3), some (.int x4), some (.int (nI 719))], [], σ) := by
  refine (e_sipush (code := kX8_keepPainting) (pc := 0) rfl).trans ?_
  refine (e_istore (code := kX8_keepPainting) (pc := 3) rfl rfl rfl).trans ?_
  rfl
theorem b_X8_keepPainting_5 {C : aCall} {σ : aSt} {w : Nat} {x1 x2 x3 x4 x5 : Int32} (h : Sh σ) (hw : Rw σ w) : b_R C kX8_keepPainting [] (5, [some (.ref 237), some (.int x1), some (.int x2), some (.int x3), some (.int x4), some (.int x5)], [], σ) = (if x5 < (nI 676) then b_gd (a_in (nI 672) 720) (b_gd (a_in (nI 673) 720) (b_gd (a_in (nI 674) 720) (b_gd (a_in (nI 675) 720) (b_gd (a_in (nI 6) 720) (b_G C kX8_keepPainting [] 89 92 [some (.ref 237), some (.int x1), some (.int x2), some (.int x3), some (.int x4), some (.int x5)] [.int (nI 6), .ref w] (C 1000 [.int (nI 12), .int ((a_I (a_setI (a_setI (a_setI (a_setI σ w (Int32.toNatClampNeg (nI 672)) x1) w (Int32.toNatClampNeg (nI 673)) x2) w (Int32.toNatClampNeg (nI 674)) x3) w (Int32.toNatClampNeg (nI 675)) x4) w (Int32.toNatClampNeg (nI 6))) + (nI 1))] (a_setI (a_setI (a_setI (a_setI σ w (Int32.toNatClampNeg (nI 672)) x1) w (Int32.toNatClampNeg (nI 673)) x2) w (Int32.toNatClampNeg (nI 674)) x3) w (Int32.toNatClampNeg (nI 675)) x4))))))) else b_gd (a_in (x5 - (nI 4)) 720) (b_gd (a_in x5 720) (b_R C kX8_keepPainting [] (5, [some (.ref 237), some (.int x1), some (.int x2), some (.int x3), some (.int x4), some (.int (x5 + (-1)))], [], (a_setI σ w (Int32.toNatClampNeg x5) (a_I σ w (Int32.toNatClampNeg (x5 - (nI 4))))))))) := by
  refine (e_iload (code := kX8_keepPainting) (pc := 5) rfl rfl).trans ?_
  refine (e_sipush (code := kX8_keepPainting) (pc := 7) rfl).trans ?_
  refine (e_iclt (code := kX8_keepPainting) (pc := 10) rfl).trans ?_
  refine b_ite ?_ ?_
  · refine (e_aload_n (code := kX8_keepPainting) (pc := 35) rfl rfl).trans ?_
    refine (e_getR (code := kX8_keepPainting) (pc := 36) (c := 10) rfl (sk_237 (σ := σ) h) hw.1).trans ?_
    refine (e_sipush (code := kX8_keepPainting) (pc := 39) rfl).trans ?_
    refine (e_iload_n (code := kX8_keepPainting) (pc := 42) rfl rfl).trans ?_
    refine (e_iastore (code := kX8_keepPainting) (pc := 43) rfl hw.2.1 hw.2.2.1 hw.2.2.2).trans ?_
    refine b_gd_c ?_
    refine (e_aload_n (code := kX8_keepPainting) (pc := 44) (σ := (a_setI σ w (Int32.toNatClampNeg (nI 672)) x1)) rfl rfl).trans ?_
    refine (e_getR (code := kX8_keepPainting) (pc := 45) (σ := (a_setI σ w (Int32.toNatClampNeg (nI 672)) x1)) (c := 10) rfl (sk_237 (σ := σ) h) hw.1).trans ?_
    refine (e_sipush (code := kX8_keepPainting) (pc := 48) (σ := (a_setI σ w (Int32.toNatClampNeg (nI 672)) x1)) rfl).trans ?_
    refine (e_iload_n (code := kX8_keepPainting) (pc := 51) (σ := (a_setI σ w (Int32.toNatClampNeg (nI 672)) x1)) rfl rfl).trans ?_
    refine (e_iastore (code := kX8_keepPainting) (pc := 52) (σ := (a_setI σ w (Int32.toNatClampNeg (nI 672)) x1)) rfl hw.2.1 hw.2.2.1 hw.2.2.2).trans ?_
    refine b_gd_c ?_
    refine (e_aload_n (code := kX8_keepPainting) (pc := 53) (σ := (a_setI (a_setI σ w (Int32.toNatClampNeg (nI 672)) x1) w (Int32.toNatClampNeg (nI 673)) x2)) rfl rfl).trans ?_
    refine (e_getR (code := kX8_keepPainting) (pc := 54) (σ := (a_setI (a_setI σ w (Int32.toNatClampNeg (nI 672)) x1) w (Int32.toNatClampNeg (nI 673)) x2)) (c := 10) rfl (sk_237 (σ := σ) h) hw.1).trans ?_
    refine (e_sipush (code := kX8_keepPainting) (pc := 57) (σ := (a_setI (a_setI σ w (Int32.toNatClampNeg (nI 672)) x1) w (Int32.toNatClampNeg (nI 673)) x2)) rfl).trans ?_
    refine (e_iload_n (code := kX8_keepPainting) (pc := 60) (σ := (a_setI (a_setI σ w (Int32.toNatClampNeg (nI 672)) x1) w (Int32.toNatClampNeg (nI 673)) x2)) rfl rfl).trans ?_
    refine (e_iastore (code := kX8_keepPainting) (pc := 61) (σ := (a_setI (a_setI σ w (Int32.toNatClampNeg (nI 672)) x1) w (Int32.toNatClampNeg (nI 673)) x2)) rfl hw.2.1 hw.2.2.1 hw.2.2.2).trans ?_
    refine b_gd_c ?_
    refine (e_aload_n (code := kX8_keepPainting) (pc := 62) (σ := (a_setI (a_setI (a_setI σ w (Int32.toNatClampNeg (nI 672)) x1) w (Int32.toNatClampNeg (nI 673)) x2) w (Int32.toNatClampNeg (nI 674)) x3)) rfl rfl).trans ?_
    refine (e_getR (code := kX8_keepPainting) (pc := 63) (σ := (a_setI (a_setI (a_setI σ w (Int32.toNatClampNeg (nI 672)) x1) w (Int32.toNatClampNeg (nI 673)) x2) w (Int32.toNatClampNeg (nI 674)) x3)) (c := 10) rfl (sk_237 (σ := σ) h) hw.1).trans ?_
    refine (e_sipush (code := kX8_keepPainting) (pc := 66) (σ := (a_setI (a_setI (a_setI σ w (Int32.toNatClampNeg (nI 672)) x1) w (Int32.toNatClampNeg (nI 673)) x2) w (Int32.toNatClampNeg (nI 674)) x3)) rfl).trans ?_
    refine (e_iload (code := kX8_keepPainting) (pc := 69) (σ := (a_setI (a_setI (a_setI σ w (Int32.toNatClampNeg (nI 672)) x1) w (Int32.toNatClampNeg (nI 673)) x2) w (Int32.toNatClampNeg (nI 674)) x3)) rfl rfl).trans ?_
    refine (e_iastore (code := kX8_keepPainting) (pc := 71) (σ := (a_setI (a_setI (a_setI σ w (Int32.toNatClampNeg (nI 672)) x1) w (Int32.toNatClampNeg (nI 673)) x2) w (Int32.toNatClampNeg (nI 674)) x3)) rfl hw.2.1 hw.2.2.1 hw.2.2.2).trans ?_
    refine b_gd_c ?_
    refine (e_aload_n (code := kX8_keepPainting) (pc := 72) (σ := (a_setI (a_setI (a_setI (a_setI σ w (Int32.toNatClampNeg (nI 672)) x1) w (Int32.toNatClampNeg (nI 673)) x2) w (Int32.toNatClampNeg (nI 674)) x3) w (Int32.toNatClampNeg (nI 675)) x4)) rfl rfl).trans ?_
    refine (e_getR (code := kX8_keepPainting) (pc := 73) (σ := (a_setI (a_setI (a_setI (a_setI σ w (Int32.toNatClampNeg (nI 672)) x1) w (Int32.toNatClampNeg (nI 673)) x2) w (Int32.toNatClampNeg (nI 674)) x3) w (Int32.toNatClampNeg (nI 675)) x4)) (c := 10) rfl (sk_237 (σ := σ) h) hw.1).trans ?_
    refine (e_bipush (code := kX8_keepPainting) (pc := 76) (σ := (a_setI (a_setI (a_setI (a_setI σ w (Int32.toNatClampNeg (nI 672)) x1) w (Int32.toNatClampNeg (nI 673)) x2) w (Int32.toNatClampNeg (nI 674)) x3) w (Int32.toNatClampNeg (nI 675)) x4)) rfl).trans ?_
    refine (e_bipush (code := kX8_keepPainting) (pc := 78) (σ := (a_setI (a_setI (a_setI (a_setI σ w (Int32.toNatClampNeg (nI 672)) x1) w (Int32.toNatClampNeg (nI 673)) x2) w (Int32.toNatClampNeg (nI 674)) x3) w (Int32.toNatClampNeg (nI 675)) x4)) rfl).trans ?_
    refine (e_aload_n (code := kX8_keepPainting) (pc := 80) (σ := (a_setI (a_setI (a_setI (a_setI σ w (Int32.toNatClampNeg (nI 672)) x1) w (Int32.toNatClampNeg (nI 673)) x2) w (Int32.toNatClampNeg (nI 674)) x3) w (Int32.toNatClampNeg (nI 675)) x4)) rfl rfl).trans ?_
    refine (e_getR (code := kX8_keepPainting) (pc := 81) (σ := (a_setI (a_setI (a_setI (a_setI σ w (Int32.toNatClampNeg (nI 672)) x1) w (Int32.toNatClampNeg (nI 673)) x2) w (Int32.toNatClampNeg (nI 674)) x3) w (Int32.toNatClampNeg (nI 675)) x4)) (c := 10) rfl (sk_237 (σ := σ) h) hw.1).trans ?_
    refine (e_bipush (code := kX8_keepPainting) (pc := 84) (σ := (a_setI (a_setI (a_setI (a_setI σ w (Int32.toNatClampNeg (nI 672)) x1) w (Int32.toNatClampNeg (nI 673)) x2) w (Int32.toNatClampNeg (nI 674)) x3) w (Int32.toNatClampNeg (nI 675)) x4)) rfl).trans ?_
    refine (e_iaload (code := kX8_keepPainting) (pc := 86) (σ := (a_setI (a_setI (a_setI (a_setI σ w (Int32.toNatClampNeg (nI 672)) x1) w (Int32.toNatClampNeg (nI 673)) x2) w (Int32.toNatClampNeg (nI 674)) x3) w (Int32.toNatClampNeg (nI 675)) x4)) rfl (.inl hw.2.1) hw.2.2.2).trans ?_
    refine b_gd_c ?_
    refine (e_iconst (code := kX8_keepPainting) (pc := 87) (σ := (a_setI (a_setI (a_setI (a_setI σ w (Int32.toNatClampNeg (nI 672)) x1) w (Int32.toNatClampNeg (nI 673)) x2) w (Int32.toNatClampNeg (nI 674)) x3) w (Int32.toNatClampNeg (nI 675)) x4)) rfl).trans ?_
    refine (e_iadd (code := kX8_keepPainting) (pc := 88) (σ := (a_setI (a_setI (a_setI (a_setI σ w (Int32.toNatClampNeg (nI 672)) x1) w (Int32.toNatClampNeg (nI 673)) x2) w (Int32.toNatClampNeg (nI 674)) x3) w (Int32.toNatClampNeg (nI 675)) x4)) rfl).trans ?_
    exact (e_callS (code := kX8_keepPainting) (pc := 89) (len := 3) (k := 1000) (n := 2) (as := [.int (nI 12), .int ((a_I (a_setI (a_setI (a_setI (a_setI σ w (Int32.toNatClampNeg (nI 672)) x1) w (Int32.toNatClampNeg (nI 673)) x2) w (Int32.toNatClampNeg (nI 674)) x3) w (Int32.toNatClampNeg (nI 675)) x4) w (Int32.toNatClampNeg (nI 6))) + (nI 1))]) (st0 := [.int (nI 6), .ref w]) rfl rfl rfl rfl)
  · refine (e_aload_n (code := kX8_keepPainting) (pc := 13) rfl rfl).trans ?_
    refine (e_getR (code := kX8_keepPainting) (pc := 14) (c := 10) rfl (sk_237 (σ := σ) h) hw.1).trans ?_
    refine (e_iload (code := kX8_keepPainting) (pc := 17) rfl rfl).trans ?_
    refine (e_aload_n (code := kX8_keepPainting) (pc := 19) rfl rfl).trans ?_
    refine (e_getR (code := kX8_keepPainting) (pc := 20) (c := 10) rfl (sk_237 (σ := σ) h) hw.1).trans ?_
    refine (e_iload (code := kX8_keepPainting) (pc := 23) rfl rfl).trans ?_
    refine (e_iconst (code := kX8_keepPainting) (pc := 25) rfl).trans ?_
    refine (e_isub (code := kX8_keepPainting) (pc := 26) rfl).trans ?_
    refine (e_iaload (code := kX8_keepPainting) (pc := 27) rfl (.inl hw.2.1) hw.2.2.2).trans ?_
    refine b_gd_c ?_
    refine (e_iastore (code := kX8_keepPainting) (pc := 28) rfl hw.2.1 hw.2.2.1 hw.2.2.2).trans ?_
    refine b_gd_c ?_
    refine (e_iinc (code := kX8_keepPainting) (pc := 29) (σ := (a_setI σ w (Int32.toNatClampNeg x5) (a_I σ w (Int32.toNatClampNeg (x5 - (nI 4)))))) rfl rfl rfl rfl).trans ?_
    refine (e_goto (code := kX8_keepPainting) (pc := 32) (σ := (a_setI σ w (Int32.toNatClampNeg x5) (a_I σ w (Int32.toNatClampNeg (x5 - (nI 4)))))) rfl).trans ?_
    rfl
theorem b_X8_keepPainting_92 {C : aCall} {σ : aSt} {w : Nat} {x1 x2 x3 x4 x5 y0 y1 : Int32} (hw : Rw σ w) : b_R C kX8_keepPainting [] (92, [some (.ref 237), some (.int x1), some (.int x2), some (.int x3), some (.int x4), some (.int x5)], [.int y0, .int y1, .ref w], σ) = b_gd (a_in y1 720) (some (.inl none, (a_setI σ w (Int32.toNatClampNeg y1) y0))) := by
  refine (e_iastore (code := kX8_keepPainting) (pc := 92) rfl hw.2.1 hw.2.2.1 hw.2.2.2).trans ?_
  refine b_gd_c ?_
  exact e_return_ rfl
theorem n_X8_paint {P : aCall} {d : Nat} {σ : aSt} {x1 x2 x3 : Int32} (hd : 1 ≤ d) : a_call a_tab P d 207 [.ref 237, .int x1, .int x2, .int x3] σ = b_R (a_call a_tab P (d - 1)) kX8_paint [] (0, [some (.ref 237), some (.int x1), some (.int x2), some (.int x3), none, none], [], σ) := e_call hd at_X8_paint rfl
theorem b_X8_paint_0 {C : aCall} {σ : aSt} {x1 x2 x3 : Int32} (h : Sh σ) : b_R C kX8_paint [] (0, [some (.ref 237), some (.int x1), some (.int x2), some (.int x3), none, none], [], σ) = b_G C kX8_paint [] 3 6 [some (.ref 237), some (.int x1), some (.int x2), some (.int x3), none, none] [.ref 237] (C 151 [.ref 237, .int x1] σ) := by
  refine (e_aload_n (code := kX8_paint) (pc := 0) rfl rfl).trans ?_
  refine (e_aload_n (code := kX8_paint) (pc := 1) rfl rfl).trans ?_
  refine (e_iload_n (code := kX8_paint) (pc := 2) rfl rfl).trans ?_
  exact (e_callV (σ := σ) (code := kX8_paint) (pc := 3) (len := 3) (k := 151) (n := 2) (c := 20) (as := [.ref 237, .int x1]) (st0 := [.ref 237]) rfl rfl rfl rfl rfl (sk_237 (σ := σ) h) rfl)
theorem b_X8_paint_6 {C : aCall} {σ : aSt} {x1 x2 x3 y0 : Int32} (h : Sh σ) : b_R C kX8_paint [] (6, [some (.ref 237), some (.int x1), some (.int x2), some (.int x3), none, none], [.int y0, .ref 237], σ) = (if y0 = 0 then b_R C kX8_paint [] (17, [some (.ref 237), some (.int x1), some (.int x2), some (.int x3), none, none], [.ref 237], σ) else b_G C kX8_paint [] 11 14 [some (.ref 237), some (.int x1), some (.int x2), some (.int x3), none, none] [.ref 237] (C 150 [.ref 237, .int x2] σ)) := by
  refine (e_ifeq (code := kX8_paint) (pc := 6) rfl).trans ?_
  refine b_ite ?_ ?_
  · rfl
  · refine (e_aload_n (code := kX8_paint) (pc := 9) rfl rfl).trans ?_
    refine (e_iload_n (code := kX8_paint) (pc := 10) rfl rfl).trans ?_
    exact (e_callV (σ := σ) (code := kX8_paint) (pc := 11) (len := 3) (k := 150) (n := 2) (c := 20) (as := [.ref 237, .int x2]) (st0 := [.ref 237]) rfl rfl rfl rfl rfl (sk_237 (σ := σ) h) rfl)
theorem b_X8_paint_14 {C : aCall} {σ : aSt} {x1 x2 x3 y0 : Int32} : b_R C kX8_paint [] (14, [some (.ref 237), some (.int x1), some (.int x2), some (.int x3), none, none], [.int y0, .ref 237], σ) = (if y0 = 0 then b_R C kX8_paint [] (17, [some (.ref 237), some (.int x1), some (.int x2), some (.int x3), none, none], [.ref 237], σ) else b_G C kX8_paint [] 25 28 [some (.ref 237), some (.int x1), some (.int x2), some (.int x3), none, none] [.ref 237] (C 147 [.int x3, .int (nI 1), .int (nI 99)] σ)) := by
  refine (e_ifne (code := kX8_paint) (pc := 14) rfl).trans ?_
  refine b_ite ?_ ?_
  · rfl
  · refine (e_iload_n (code := kX8_paint) (pc := 21) rfl rfl).trans ?_
    refine (e_iconst (code := kX8_paint) (pc := 22) rfl).trans ?_
    refine (e_bipush (code := kX8_paint) (pc := 23) rfl).trans ?_
    exact (e_callS (code := kX8_paint) (pc := 25) (len := 3) (k := 147) (n := 3) (as := [.int x3, .int (nI 1), .int (nI 99)]) (st0 := [.ref 237]) rfl rfl rfl rfl)
theorem b_X8_paint_17 {C : aCall} {σ : aSt} {x1 x2 x3 : Int32} : b_R C kX8_paint [] (17, [some (.ref 237), some (.int x1), some (.int x2), some (.int x3), none, none], [.ref 237], σ) = b_R C kX8_paint [] (36, [some (.ref 237), some (.int x1), some (.int x2), some (.int x3), none, none], [.int (nI 1), .ref 237], σ) := by
  refine (e_iconst (code := kX8_paint) (pc := 17) rfl).trans ?_
  refine (e_goto (code := kX8_paint) (pc := 18) rfl).trans ?_
  rfl
theorem b_X8_paint_28 {C : aCall} {σ : aSt} {x1 x2 x3 y0 : Int32} : b_R C kX8_paint [] (28, [some (.ref 237), some (.int x1), some (.int x2), some (.int x3), none, none], [.int y0, .ref 237], σ) = (if y0 = 0 then b_R C kX8_paint [] (36, [some (.ref 237), some (.int x1), some (.int x2), some (.int x3), none, none], [.int (nI 2), .ref 237], σ) else b_R C kX8_paint [] (36, [some (.ref 237), some (.int x1), some (.int x2), some (.int x3), none, none], [.int (nI 0), .ref 237], σ)) := by
  refine (e_ifeq (code := kX8_paint) (pc := 28) rfl).trans ?_
  refine b_ite ?_ ?_
  · refine (e_iconst (code := kX8_paint) (pc := 35) rfl).trans ?_
    rfl
  · refine (e_iconst (code := kX8_paint) (pc := 31) rfl).trans ?_
    refine (e_goto (code := kX8_paint) (pc := 32) rfl).trans ?_
    rfl
theorem b_X8_paint_36 {C : aCall} {σ : aSt} {x1 x2 x3 y0 : Int32} (h : Sh σ) : b_R C kX8_paint [] (36, [some (.ref 237), some (.int x1), some (.int x2), some (.int x3), none, none], [.int y0, .ref 237], σ) = (if (a_I (a_setI σ 237 6 y0) 237 6) = 0 then b_G C kX8_paint [] 50 53 [some (.ref 237), some (.int x1), some (.int x2), some (.int x3), none, none] [] (C 169 [.ref 237, .int x2] (a_setI σ 237 6 y0)) else some (.inl (some (.int (nI 0))), (a_setI σ 237 6 y0))) := by
  refine (e_putI (code := kX8_paint) (pc := 36) (c := 10) rfl (sk_237 (σ := σ) h) (h_100 rfl)).trans ?_
  refine (e_aload_n (code := kX8_paint) (pc := 39) (σ := (a_setI σ 237 6 y0)) rfl rfl).trans ?_
  refine (e_getI (code := kX8_paint) (pc := 40) (σ := (a_setI σ 237 6 y0)) (c := 10) rfl (sk_237 (σ := σ) h) rfl).trans ?_
  refine (e_ifeq (code := kX8_paint) (pc := 43) (σ := (a_setI σ 237 6 y0)) rfl).trans ?_
  refine b_ite ?_ ?_
  · refine (e_aload_n (code := kX8_paint) (pc := 48) (σ := (a_setI σ 237 6 y0)) rfl rfl).trans ?_
    refine (e_iload_n (code := kX8_paint) (pc := 49) (σ := (a_setI σ 237 6 y0)) rfl rfl).trans ?_
    exact (e_callV (σ := (a_setI σ 237 6 y0)) (code := kX8_paint) (pc := 50) (len := 3) (k := 169) (n := 2) (c := 20) (as := [.ref 237, .int x2]) (st0 := []) rfl rfl rfl rfl rfl (sk_237 (σ := σ) h) rfl)
  · refine (e_iconst (code := kX8_paint) (pc := 46) (σ := (a_setI σ 237 6 y0)) rfl).trans ?_
    exact e_ireturn rfl
theorem b_X8_paint_53 {C : aCall} {σ : aSt} {x1 x2 x3 y0 : Int32} (h : Sh σ) : b_R C kX8_paint [] (53, [some (.ref 237), some (.int x1), some (.int x2), some (.int x3), none, none], [.int y0], σ) = (if y0 = 0 then b_G C kX8_paint [] 61 64 [some (.ref 237), some (.int x1), some (.int x2), some (.int x3), none, none] [] (C 189 [.ref 237, .int x2] σ) else some (.inl (some (.int ((-2)))), σ)) := by
  refine (e_ifeq (code := kX8_paint) (pc := 53) rfl).trans ?_
  refine b_ite ?_ ?_
  · refine (e_aload_n (code := kX8_paint) (pc := 59) rfl rfl).trans ?_
    refine (e_iload_n (code := kX8_paint) (pc := 60) rfl rfl).trans ?_
    exact (e_callV (σ := σ) (code := kX8_paint) (pc := 61) (len := 3) (k := 189) (n := 2) (c := 20) (as := [.ref 237, .int x2]) (st0 := []) rfl rfl rfl rfl rfl (sk_237 (σ := σ) h) rfl)
  · refine (e_bipush (code := kX8_paint) (pc := 56) rfl).trans ?_
    exact e_ireturn rfl
theorem b_X8_paint_64 {C : aCall} {σ : aSt} {x1 x2 x3 y0 : Int32} (h : Sh σ) : b_R C kX8_paint [] (64, [some (.ref 237), some (.int x1), some (.int x2), some (.int x3), none, none], [.int y0], σ) = (if y0 < x3 then some (.inl (some (.int ((-3)))), σ) else b_G C kX8_paint [] 72 75 [some (.ref 237), some (.int x1), some (.int x2), some (.int x3), none, none] [] (C 219 [.ref 237] σ)) := by
  refine (e_iload_n (code := kX8_paint) (pc := 64) rfl rfl).trans ?_
  refine (e_icge (code := kX8_paint) (pc := 65) rfl).trans ?_
  refine b_ite ?_ ?_
  · refine (e_bipush (code := kX8_paint) (pc := 68) rfl).trans ?_
    exact e_ireturn rfl
  · refine (e_aload_n (code := kX8_paint) (pc := 71) rfl rfl).trans ?_
    exact (e_callV (σ := σ) (code := kX8_paint) (pc := 72) (len := 3) (k := 219) (n := 1) (c := 20) (as := [.ref 237]) (st0 := []) rfl rfl rfl rfl rfl (sk_237 (σ := σ) h) rfl)
theorem b_X8_paint_75 {C : aCall} {σ : aSt} {x1 x2 x3 : Int32} (h : Sh σ) : b_R C kX8_paint [] (75, [some (.ref 237), some (.int x1), some (.int x2), some (.int x3), none, none], [], σ) = b_G C kX8_paint [] 78 81 [some (.ref 237), some (.int x1), some (.int x2), some (.int x3), none, none] [] (C 192 [.ref 237, .int x1, .int x2] σ) := by
  refine (e_aload_n (code := kX8_paint) (pc := 75) rfl rfl).trans ?_
  refine (e_iload_n (code := kX8_paint) (pc := 76) rfl rfl).trans ?_
  refine (e_iload_n (code := kX8_paint) (pc := 77) rfl rfl).trans ?_
  exact (e_callV (σ := σ) (code := kX8_paint) (pc := 78) (len := 3) (k := 192) (n := 3) (c := 20) (as := [.ref 237, .int x1, .int x2]) (st0 := []) rfl rfl rfl rfl rfl (sk_237 (σ := σ) h) rfl)
theorem b_X8_paint_81 {C : aCall} {σ : aSt} {x1 x2 x3 y0 : Int32} : b_R C kX8_paint [] (81, [some (.ref 237), some (.int x1), some (.int x2), some (.int x3), none, none], [.int y0], σ) = b_R C kX8_paint [] (86, [some (.ref 237), some (.int x1), some (.int x2), some (.int x3), some (.int y0), some (.int (nI 0))], [], σ) := by
  refine (e_istore (code := kX8_paint) (pc := 81) rfl rfl rfl).trans ?_
  refine (e_iconst (code := kX8_paint) (pc := 83) rfl).trans ?_
  refine (e_istore (code := kX8_paint) (pc := 84) rfl rfl rfl).trans ?_
  rfl
theorem b_X8_paint_86 {C : aCall} {σ : aSt} {x1 x2 x3 x4 x5 : Int32} (h : Sh σ) : b_R C kX8_paint [] (86, [some (.ref 237), some (.int x1), some (.int x2), some (.int x3), some (.int x4), some (.int x5)], [], σ) = (if x5 < (a_I σ 237 10) then b_gd (a_in x5 4) (b_gd (a_in x5 4) (b_G C kX8_paint [] 113 116 [some (.ref 237), some (.int x1), some (.int x2), some (.int x3), some (.int x4), some (.int x5)] [.int (nI 3), .int (a_I σ 242 (Int32.toNatClampNeg x5)), .ref 237] (C 153 [.ref 237, .int (a_I σ 242 (Int32.toNatClampNeg x5)), .int (nI 3)] σ))) else b_R C kX8_paint [] (138, [some (.ref 237), some (.int x1), some (.int x2), some (.int x3), some (.int x4), some (.int (nI 0))], [], σ)) := by
  refine (e_iload (code := kX8_paint) (pc := 86) rfl rfl).trans ?_
  refine (e_aload_n (code := kX8_paint) (pc := 88) rfl rfl).trans ?_
  refine (e_getI (code := kX8_paint) (pc := 89) (c := 10) rfl (sk_237 (σ := σ) h) rfl).trans ?_
  refine (e_icge (code := kX8_paint) (pc := 92) rfl).trans ?_
  refine b_ite ?_ ?_
  · refine (e_aload_n (code := kX8_paint) (pc := 95) rfl rfl).trans ?_
    refine (e_aload_n (code := kX8_paint) (pc := 96) rfl rfl).trans ?_
    refine (e_getR (code := kX8_paint) (pc := 97) (c := 10) rfl (sk_237 (σ := σ) h) (sr_237_8 (σ := σ) h)).trans ?_
    refine (e_iload (code := kX8_paint) (pc := 100) rfl rfl).trans ?_
    refine (e_iaload (code := kX8_paint) (pc := 102) rfl (.inl (sk_242 (σ := σ) h)) (sl_242 (σ := σ) h)).trans ?_
    refine b_gd_c ?_
    refine (e_iconst (code := kX8_paint) (pc := 103) rfl).trans ?_
    refine (e_aload_n (code := kX8_paint) (pc := 104) rfl rfl).trans ?_
    refine (e_aload_n (code := kX8_paint) (pc := 105) rfl rfl).trans ?_
    refine (e_getR (code := kX8_paint) (pc := 106) (c := 10) rfl (sk_237 (σ := σ) h) (sr_237_8 (σ := σ) h)).trans ?_
    refine (e_iload (code := kX8_paint) (pc := 109) rfl rfl).trans ?_
    refine (e_iaload (code := kX8_paint) (pc := 111) rfl (.inl (sk_242 (σ := σ) h)) (sl_242 (σ := σ) h)).trans ?_
    refine b_gd_c ?_
    refine (e_iconst (code := kX8_paint) (pc := 112) rfl).trans ?_
    exact (e_callV (σ := σ) (code := kX8_paint) (pc := 113) (len := 3) (k := 153) (n := 3) (c := 20) (as := [.ref 237, .int (a_I σ 242 (Int32.toNatClampNeg x5)), .int (nI 3)]) (st0 := [.int (nI 3), .int (a_I σ 242 (Int32.toNatClampNeg x5)), .ref 237]) rfl rfl rfl rfl rfl (sk_237 (σ := σ) h) rfl)
  · refine (e_iconst (code := kX8_paint) (pc := 135) rfl).trans ?_
    refine (e_istore (code := kX8_paint) (pc := 136) rfl rfl rfl).trans ?_
    rfl
theorem b_X8_paint_116 {C : aCall} {σ : aSt} {x1 x2 x3 x4 x5 y0 y1 y2 : Int32} (h : Sh σ) : b_R C kX8_paint [] (116, [some (.ref 237), some (.int x1), some (.int x2), some (.int x3), some (.int x4), some (.int x5)], [.int y0, .int y1, .int y2, .ref 237], σ) = b_gd (a_in x5 4) (b_G C kX8_paint [] 126 129 [some (.ref 237), some (.int x1), some (.int x2), some (.int x3), some (.int x4), some (.int x5)] [] (C 154 [.ref 237, .int y2, .int y1, .int (y0 - (x3 * (a_I σ 243 (Int32.toNatClampNeg x5))))] σ)) := by
  refine (e_iload_n (code := kX8_paint) (pc := 116) rfl rfl).trans ?_
  refine (e_aload_n (code := kX8_paint) (pc := 117) rfl rfl).trans ?_
  refine (e_getR (code := kX8_paint) (pc := 118) (c := 10) rfl (sk_237 (σ := σ) h) (sr_237_9 (σ := σ) h)).trans ?_
  refine (e_iload (code := kX8_paint) (pc := 121) rfl rfl).trans ?_
  refine (e_iaload (code := kX8_paint) (pc := 123) rfl (.inl (sk_243 (σ := σ) h)) (sl_243 (σ := σ) h)).trans ?_
  refine b_gd_c ?_
  refine (e_imul (code := kX8_paint) (pc := 124) rfl).trans ?_
  refine (e_isub (code := kX8_paint) (pc := 125) rfl).trans ?_
  exact (e_callV (σ := σ) (code := kX8_paint) (pc := 126) (len := 3) (k := 154) (n := 4) (c := 20) (as := [.ref 237, .int y2, .int y1, .int (y0 - (x3 * (a_I σ 243 (Int32.toNatClampNeg x5))))]) (st0 := []) rfl rfl rfl rfl rfl (sk_237 (σ := σ) h) rfl)
theorem b_X8_paint_129 {C : aCall} {σ : aSt} {x1 x2 x3 x4 x5 : Int32} : b_R C kX8_paint [] (129, [some (.ref 237), some (.int x1), some (.int x2), some (.int x3), some (.int x4), some (.int x5)], [], σ) = b_R C kX8_paint [] (86, [some (.ref 237), some (.int x1), some (.int x2), some (.int x3), some (.int x4), some (.int (x5 + nI 1))], [], σ) := by
  refine (e_iinc (code := kX8_paint) (pc := 129) rfl rfl rfl rfl).trans ?_
  refine (e_goto (code := kX8_paint) (pc := 132) rfl).trans ?_
  rfl
theorem b_X8_paint_138 {C : aCall} {σ : aSt} {x1 x2 x3 x4 x5 : Int32} (h : Sh σ) : b_R C kX8_paint [] (138, [some (.ref 237), some (.int x1), some (.int x2), some (.int x3), some (.int x4), some (.int x5)], [], σ) = (if x5 < (nI 3) then b_G C kX8_paint [] 152 155 [some (.ref 237), some (.int x1), some (.int x2), some (.int x3), some (.int x4), some (.int x5)] [.int x5, .int x1, .ref 237] (C 160 [.int x4, .int x5] σ) else b_G C kX8_paint [] 171 174 [some (.ref 237), some (.int x1), some (.int x2), some (.int x3), some (.int x4), some (.int x5)] [.int (nI 3), .int (nI 3), .int x1, .ref 237] (C 157 [.ref 237, .int x1, .int (nI 3)] σ)) := by
  refine (e_iload (code := kX8_paint) (pc := 138) rfl rfl).trans ?_
  refine (e_iconst (code := kX8_paint) (pc := 140) rfl).trans ?_
  refine (e_icge (code := kX8_paint) (pc := 141) rfl).trans ?_
  refine b_ite ?_ ?_
  · refine (e_aload_n (code := kX8_paint) (pc := 144) rfl rfl).trans ?_
    refine (e_iload_n (code := kX8_paint) (pc := 145) rfl rfl).trans ?_
    refine (e_iload (code := kX8_paint) (pc := 146) rfl rfl).trans ?_
    refine (e_iload (code := kX8_paint) (pc := 148) rfl rfl).trans ?_
    refine (e_iload (code := kX8_paint) (pc := 150) rfl rfl).trans ?_
    exact (e_callS (code := kX8_paint) (pc := 152) (len := 3) (k := 160) (n := 2) (as := [.int x4, .int x5]) (st0 := [.int x5, .int x1, .ref 237]) rfl rfl rfl rfl)
  · refine (e_aload_n (code := kX8_paint) (pc := 164) rfl rfl).trans ?_
    refine (e_iload_n (code := kX8_paint) (pc := 165) rfl rfl).trans ?_
    refine (e_iconst (code := kX8_paint) (pc := 166) rfl).trans ?_
    refine (e_iconst (code := kX8_paint) (pc := 167) rfl).trans ?_
    refine (e_aload_n (code := kX8_paint) (pc := 168) rfl rfl).trans ?_
    refine (e_iload_n (code := kX8_paint) (pc := 169) rfl rfl).trans ?_
    refine (e_iconst (code := kX8_paint) (pc := 170) rfl).trans ?_
    exact (e_callV (σ := σ) (code := kX8_paint) (pc := 171) (len := 3) (k := 157) (n := 3) (c := 20) (as := [.ref 237, .int x1, .int (nI 3)]) (st0 := [.int (nI 3), .int (nI 3), .int x1, .ref 237]) rfl rfl rfl rfl rfl (sk_237 (σ := σ) h) rfl)
theorem b_X8_paint_155 {C : aCall} {σ : aSt} {x1 x2 x3 x4 x5 y0 y1 y2 : Int32} (h : Sh σ) : b_R C kX8_paint [] (155, [some (.ref 237), some (.int x1), some (.int x2), some (.int x3), some (.int x4), some (.int x5)], [.int y0, .int y1, .int y2, .ref 237], σ) = b_G C kX8_paint [] 155 158 [some (.ref 237), some (.int x1), some (.int x2), some (.int x3), some (.int x4), some (.int x5)] [] (C 158 [.ref 237, .int y2, .int y1, .int y0] σ) := by
  exact (e_callV (σ := σ) (code := kX8_paint) (pc := 155) (len := 3) (k := 158) (n := 4) (c := 20) (as := [.ref 237, .int y2, .int y1, .int y0]) (st0 := []) rfl rfl rfl rfl rfl (sk_237 (σ := σ) h) rfl)
theorem b_X8_paint_158 {C : aCall} {σ : aSt} {x1 x2 x3 x4 x5 : Int32} : b_R C kX8_paint [] (158, [some (.ref 237), some (.int x1), some (.int x2), some (.int x3), some (.int x4), some (.int x5)], [], σ) = b_R C kX8_paint [] (138, [some (.ref 237), some (.int x1), some (.int x2), some (.int x3), some (.int x4), some (.int (x5 + nI 1))], [], σ) := by
  refine (e_iinc (code := kX8_paint) (pc := 158) rfl rfl rfl rfl).trans ?_
  refine (e_goto (code := kX8_paint) (pc := 161) rfl).trans ?_
  rfl
theorem b_X8_paint_174 {C : aCall} {σ : aSt} {x1 x2 x3 x4 x5 y0 y1 y2 y3 : Int32} : b_R C kX8_paint [] (174, [some (.ref 237), some (.int x1), some (.int x2), some (.int x3), some (.int x4), some (.int x5)], [.int y0, .int y1, .int y2, .int y3, .ref 237], σ) = b_G C kX8_paint [] 176 179 [some (.ref 237), some (.int x1), some (.int x2), some (.int x3), some (.int x4), some (.int x5)] [.int y2, .int y3, .ref 237] (C 1000 [.int y1, .int (y0 + (nI 1))] σ) := by
  refine (e_iconst (code := kX8_paint) (pc := 174) rfl).trans ?_
  refine (e_iadd (code := kX8_paint) (pc := 175) rfl).trans ?_
  exact (e_callS (code := kX8_paint) (pc := 176) (len := 3) (k := 1000) (n := 2) (as := [.int y1, .int (y0 + (nI 1))]) (st0 := [.int y2, .int y3, .ref 237]) rfl rfl rfl rfl)
theorem b_X8_paint_179 {C : aCall} {σ : aSt} {x1 x2 x3 x4 x5 y0 y1 y2 : Int32} (h : Sh σ) : b_R C kX8_paint [] (179, [some (.ref 237), some (.int x1), some (.int x2), some (.int x3), some (.int x4), some (.int x5)], [.int y0, .int y1, .int y2, .ref 237], σ) = b_G C kX8_paint [] 179 182 [some (.ref 237), some (.int x1), some (.int x2), some (.int x3), some (.int x4), some (.int x5)] [] (C 158 [.ref 237, .int y2, .int y1, .int y0] σ) := by
  exact (e_callV (σ := σ) (code := kX8_paint) (pc := 179) (len := 3) (k := 158) (n := 4) (c := 20) (as := [.ref 237, .int y2, .int y1, .int y0]) (st0 := []) rfl rfl rfl rfl rfl (sk_237 (σ := σ) h) rfl)
theorem b_X8_paint_182 {C : aCall} {σ : aSt} {x1 x2 x3 x4 x5 : Int32} (h : Sh σ) : b_R C kX8_paint [] (182, [some (.ref 237), some (.int x1), some (.int x2), some (.int x3), some (.int x4), some (.int x5)], [], σ) = b_G C kX8_paint [] 189 192 [some (.ref 237), some (.int x1), some (.int x2), some (.int x3), some (.int x4), some (.int x5)] [.int x3, .int x1, .int x4, .ref 237] (C 167 [.ref 237, .int x2] σ) := by
  refine (e_aload_n (code := kX8_paint) (pc := 182) rfl rfl).trans ?_
  refine (e_iload (code := kX8_paint) (pc := 183) rfl rfl).trans ?_
  refine (e_iload_n (code := kX8_paint) (pc := 185) rfl rfl).trans ?_
  refine (e_iload_n (code := kX8_paint) (pc := 186) rfl rfl).trans ?_
  refine (e_aload_n (code := kX8_paint) (pc := 187) rfl rfl).trans ?_
  refine (e_iload_n (code := kX8_paint) (pc := 188) rfl rfl).trans ?_
  exact (e_callV (σ := σ) (code := kX8_paint) (pc := 189) (len := 3) (k := 167) (n := 2) (c := 20) (as := [.ref 237, .int x2]) (st0 := [.int x3, .int x1, .int x4, .ref 237]) rfl rfl rfl rfl rfl (sk_237 (σ := σ) h) rfl)
theorem b_X8_paint_192 {C : aCall} {σ : aSt} {x1 x2 x3 x4 x5 y0 y1 y2 y3 : Int32} (h : Sh σ) : b_R C kX8_paint [] (192, [some (.ref 237), some (.int x1), some (.int x2), some (.int x3), some (.int x4), some (.int x5)], [.int y0, .int y1, .int y2, .int y3, .ref 237], σ) = b_G C kX8_paint [] 192 195 [some (.ref 237), some (.int x1), some (.int x2), some (.int x3), some (.int x4), some (.int x5)] [] (C 206 [.ref 237, .int y3, .int y2, .int y1, .int y0] σ) := by
  exact (e_callV (σ := σ) (code := kX8_paint) (pc := 192) (len := 3) (k := 206) (n := 5) (c := 20) (as := [.ref 237, .int y3, .int y2, .int y1, .int y0]) (st0 := []) rfl rfl rfl rfl rfl (sk_237 (σ := σ) h) rfl)
theorem b_X8_paint_195 {C : aCall} {σ : aSt} {x1 x2 x3 x4 x5 : Int32} : b_R C kX8_paint [] (195, [some (.ref 237), some (.int x1), some (.int x2), some (.int x3), some (.int x4), some (.int x5)], [], σ) = some (.inl (some (.int x4)), σ) := by
  refine (e_iload (code := kX8_paint) (pc := 195) rfl rfl).trans ?_
  exact e_ireturn rfl
theorem n_X8_clean {P : aCall} {d : Nat} {σ : aSt} {x1 : Int32} (hd : 1 ≤ d) : a_call a_tab P d 208 [.ref 237, .int x1] σ = b_R (a_call a_tab P (d - 1)) kX8_clean [] (0, [some (.ref 237), some (.int x1), none], [], σ) := e_call hd at_X8_clean rfl
theorem b_X8_clean_0 {C : aCall} {σ : aSt} {x1 : Int32} (h : Sh σ) : b_R C kX8_clean [] (0, [some (.ref 237), some (.int x1), none], [], σ) = b_G C kX8_clean [] 3 6 [some (.ref 237), some (.int x1), none] [.ref 237] (C 151 [.ref 237, .int x1] σ) := by
  refine (e_aload_n (code := kX8_clean) (pc := 0) rfl rfl).trans ?_
  refine (e_aload_n (code := kX8_clean) (pc := 1) rfl rfl).trans ?_
  refine (e_iload_n (code := kX8_clean) (pc := 2) rfl rfl).trans ?_
  exact (e_callV (σ := σ) (code := kX8_clean) (pc := 3) (len := 3) (k := 151) (n := 2) (c := 20) (as := [.ref 237, .int x1]) (st0 := [.ref 237]) rfl rfl rfl rfl rfl (sk_237 (σ := σ) h) rfl)
theorem b_X8_clean_6 {C : aCall} {σ : aSt} {x1 y0 : Int32} (h : Sh σ) : b_R C kX8_clean [] (6, [some (.ref 237), some (.int x1), none], [.int y0, .ref 237], σ) = b_G C kX8_clean [] 6 9 [some (.ref 237), some (.int x1), none] [] (C 148 [.ref 237, .int y0] σ) := by
  exact (e_callV (σ := σ) (code := kX8_clean) (pc := 6) (len := 3) (k := 148) (n := 2) (c := 20) (as := [.ref 237, .int y0]) (st0 := []) rfl rfl rfl rfl rfl (sk_237 (σ := σ) h) rfl)
theorem b_X8_clean_9 {C : aCall} {σ : aSt} {x1 y0 : Int32} (h : Sh σ) : b_R C kX8_clean [] (9, [some (.ref 237), some (.int x1), none], [.int y0], σ) = (if y0 = 0 then b_G C kX8_clean [] 15 18 [some (.ref 237), some (.int x1), none] [] (C 219 [.ref 237] σ) else some (.inl (some (.int (nI 0))), σ)) := by
  refine (e_ifeq (code := kX8_clean) (pc := 9) rfl).trans ?_
  refine b_ite ?_ ?_
  · refine (e_aload_n (code := kX8_clean) (pc := 14) rfl rfl).trans ?_
    exact (e_callV (σ := σ) (code := kX8_clean) (pc := 15) (len := 3) (k := 219) (n := 1) (c := 20) (as := [.ref 237]) (st0 := []) rfl rfl rfl rfl rfl (sk_237 (σ := σ) h) rfl)
  · refine (e_iconst (code := kX8_clean) (pc := 12) rfl).trans ?_
    exact e_ireturn rfl
theorem b_X8_clean_18 {C : aCall} {σ : aSt} {x1 : Int32} (h : Sh σ) : b_R C kX8_clean [] (18, [some (.ref 237), some (.int x1), none], [], σ) = b_G C kX8_clean [] 21 24 [some (.ref 237), some (.int x1), none] [] (C 157 [.ref 237, .int x1, .int (nI 3)] σ) := by
  refine (e_aload_n (code := kX8_clean) (pc := 18) rfl rfl).trans ?_
  refine (e_iload_n (code := kX8_clean) (pc := 19) rfl rfl).trans ?_
  refine (e_iconst (code := kX8_clean) (pc := 20) rfl).trans ?_
  exact (e_callV (σ := σ) (code := kX8_clean) (pc := 21) (len := 3) (k := 157) (n := 3) (c := 20) (as := [.ref 237, .int x1, .int (nI 3)]) (st0 := []) rfl rfl rfl rfl rfl (sk_237 (σ := σ) h) rfl)
theorem b_X8_clean_24 {C : aCall} {σ : aSt} {w : Nat} {x1 y0 : Int32} (h : Sh σ) (hw : Rw σ w) : b_R C kX8_clean [] (24, [some (.ref 237), some (.int x1), none], [.int y0], σ) = b_gd (a_in (nI 5) 720) ((if (a_I σ w (Int32.toNatClampNeg (nI 5))) < (nI 5) then b_R C kX8_clean [] (47, [some (.ref 237), some (.int x1), some (.int y0)], [.int (nI 0), .int (nI 3), .int x1, .ref 237], σ) else b_G C kX8_clean [] 44 47 [some (.ref 237), some (.int x1), some (.int y0)] [.int (nI 3), .int x1, .ref 237] (C 1000 [.int (nI 1), .int y0] σ))) := by
  refine (e_istore_n (code := kX8_clean) (pc := 24) rfl rfl rfl).trans ?_
  refine (e_aload_n (code := kX8_clean) (pc := 25) rfl rfl).trans ?_
  refine (e_iload_n (code := kX8_clean) (pc := 26) rfl rfl).trans ?_
  refine (e_iconst (code := kX8_clean) (pc := 27) rfl).trans ?_
  refine (e_aload_n (code := kX8_clean) (pc := 28) rfl rfl).trans ?_
  refine (e_getR (code := kX8_clean) (pc := 29) (c := 10) rfl (sk_237 (σ := σ) h) hw.1).trans ?_
  refine (e_iconst (code := kX8_clean) (pc := 32) rfl).trans ?_
  refine (e_iaload (code := kX8_clean) (pc := 33) rfl (.inl hw.2.1) hw.2.2.2).trans ?_
  refine b_gd_c ?_
  refine (e_iconst (code := kX8_clean) (pc := 34) rfl).trans ?_
  refine (e_icge (code := kX8_clean) (pc := 35) rfl).trans ?_
  refine b_ite ?_ ?_
  · refine (e_iconst (code := kX8_clean) (pc := 38) rfl).trans ?_
    refine (e_goto (code := kX8_clean) (pc := 39) rfl).trans ?_
    rfl
  · refine (e_iconst (code := kX8_clean) (pc := 42) rfl).trans ?_
    refine (e_iload_n (code := kX8_clean) (pc := 43) rfl rfl).trans ?_
    exact (e_callS (code := kX8_clean) (pc := 44) (len := 3) (k := 1000) (n := 2) (as := [.int (nI 1), .int y0]) (st0 := [.int (nI 3), .int x1, .ref 237]) rfl rfl rfl rfl)
theorem b_X8_clean_47 {C : aCall} {σ : aSt} {x1 x2 y0 y1 y2 : Int32} (h : Sh σ) : b_R C kX8_clean [] (47, [some (.ref 237), some (.int x1), some (.int x2)], [.int y0, .int y1, .int y2, .ref 237], σ) = b_G C kX8_clean [] 47 50 [some (.ref 237), some (.int x1), some (.int x2)] [] (C 158 [.ref 237, .int y2, .int y1, .int y0] σ) := by
  exact (e_callV (σ := σ) (code := kX8_clean) (pc := 47) (len := 3) (k := 158) (n := 4) (c := 20) (as := [.ref 237, .int y2, .int y1, .int y0]) (st0 := []) rfl rfl rfl rfl rfl (sk_237 (σ := σ) h) rfl)
theorem b_X8_clean_50 {C : aCall} {σ : aSt} {w : Nat} {x1 x2 : Int32} (h : Sh σ) (hw : Rw σ w) : b_R C kX8_clean [] (50, [some (.ref 237), some (.int x1), some (.int x2)], [], σ) = b_gd (a_in (nI 5) 720) (b_G C kX8_clean [] 65 68 [some (.ref 237), some (.int x1), some (.int x2)] [.int (nI 5), .ref w] (C 1000 [.int (nI 9), .int ((a_I σ w (Int32.toNatClampNeg (nI 5))) + x2)] σ)) := by
  refine (e_aload_n (code := kX8_clean) (pc := 50) rfl rfl).trans ?_
  refine (e_getR (code := kX8_clean) (pc := 51) (c := 10) rfl (sk_237 (σ := σ) h) hw.1).trans ?_
  refine (e_iconst (code := kX8_clean) (pc := 54) rfl).trans ?_
  refine (e_bipush (code := kX8_clean) (pc := 55) rfl).trans ?_
  refine (e_aload_n (code := kX8_clean) (pc := 57) rfl rfl).trans ?_
  refine (e_getR (code := kX8_clean) (pc := 58) (c := 10) rfl (sk_237 (σ := σ) h) hw.1).trans ?_
  refine (e_iconst (code := kX8_clean) (pc := 61) rfl).trans ?_
  refine (e_iaload (code := kX8_clean) (pc := 62) rfl (.inl hw.2.1) hw.2.2.2).trans ?_
  refine b_gd_c ?_
  refine (e_iload_n (code := kX8_clean) (pc := 63) rfl rfl).trans ?_
  refine (e_iadd (code := kX8_clean) (pc := 64) rfl).trans ?_
  exact (e_callS (code := kX8_clean) (pc := 65) (len := 3) (k := 1000) (n := 2) (as := [.int (nI 9), .int ((a_I σ w (Int32.toNatClampNeg (nI 5))) + x2)]) (st0 := [.int (nI 5), .ref w]) rfl rfl rfl rfl)
theorem b_X8_clean_68 {C : aCall} {σ : aSt} {w : Nat} {x1 x2 y0 y1 : Int32} (h : Sh σ) (hw : Rw σ w) : b_R C kX8_clean [] (68, [some (.ref 237), some (.int x1), some (.int x2)], [.int y0, .int y1, .ref w], σ) = b_gd (a_in y1 720) (b_gd (a_in (nI 5) 720) (some (.inl (some (.int (a_I (a_setI σ w (Int32.toNatClampNeg y1) y0) w (Int32.toNatClampNeg (nI 5))))), (a_setI σ w (Int32.toNatClampNeg y1) y0)))) := by
  refine (e_iastore (code := kX8_clean) (pc := 68) rfl hw.2.1 hw.2.2.1 hw.2.2.2).trans ?_
  refine b_gd_c ?_
  refine (e_aload_n (code := kX8_clean) (pc := 69) (σ := (a_setI σ w (Int32.toNatClampNeg y1) y0)) rfl rfl).trans ?_
  refine (e_getR (code := kX8_clean) (pc := 70) (σ := (a_setI σ w (Int32.toNatClampNeg y1) y0)) (c := 10) rfl (sk_237 (σ := σ) h) hw.1).trans ?_
  refine (e_iconst (code := kX8_clean) (pc := 73) (σ := (a_setI σ w (Int32.toNatClampNeg y1) y0)) rfl).trans ?_
  refine (e_iaload (code := kX8_clean) (pc := 74) (σ := (a_setI σ w (Int32.toNatClampNeg y1) y0)) rfl (.inl hw.2.1) hw.2.2.2).trans ?_
  refine b_gd_c ?_
  exact e_ireturn rfl
theorem n_X8_set {P : aCall} {d : Nat} {σ : aSt} {x1 x2 : Int32} (hd : 1 ≤ d) : a_call a_tab P d 209 [.ref 237, .int x1, .int x2] σ = b_R (a_call a_tab P (d - 1)) kX8_set [] (0, [some (.ref 237), some (.int x1), some (.int x2), none], [], σ) := e_call hd at_X8_set rfl
theorem b_X8_set_0 {C : aCall} {σ : aSt} {x1 x2 : Int32} (h : Sh σ) : b_R C kX8_set [] (0, [some (.ref 237), some (.int x1), some (.int x2), none], [], σ) = b_G C kX8_set [] 1 4 [some (.ref 237), some (.int x1), some (.int x2), none] [] (C 219 [.ref 237] σ) := by
  refine (e_aload_n (code := kX8_set) (pc := 0) rfl rfl).trans ?_
  exact (e_callV (σ := σ) (code := kX8_set) (pc := 1) (len := 3) (k := 219) (n := 1) (c := 20) (as := [.ref 237]) (st0 := []) rfl rfl rfl rfl rfl (sk_237 (σ := σ) h) rfl)
theorem b_X8_set_4 {C : aCall} {σ : aSt} {w : Nat} {x1 x2 : Int32} (h : Sh σ) (hw : Rw σ w) : b_R C kX8_set [] (4, [some (.ref 237), some (.int x1), some (.int x2), none], [], σ) = b_gd (a_in x1 720) (b_gd (a_in x1 720) (some (.inl (some (.int (a_I σ w (Int32.toNatClampNeg x1)))), (a_setI σ w (Int32.toNatClampNeg x1) x2)))) := by
  refine (e_aload_n (code := kX8_set) (pc := 4) rfl rfl).trans ?_
  refine (e_getR (code := kX8_set) (pc := 5) (c := 10) rfl (sk_237 (σ := σ) h) hw.1).trans ?_
  refine (e_iload_n (code := kX8_set) (pc := 8) rfl rfl).trans ?_
  refine (e_iaload (code := kX8_set) (pc := 9) rfl (.inl hw.2.1) hw.2.2.2).trans ?_
  refine b_gd_c ?_
  refine (e_istore_n (code := kX8_set) (pc := 10) rfl rfl rfl).trans ?_
  refine (e_aload_n (code := kX8_set) (pc := 11) rfl rfl).trans ?_
  refine (e_getR (code := kX8_set) (pc := 12) (c := 10) rfl (sk_237 (σ := σ) h) hw.1).trans ?_
  refine (e_iload_n (code := kX8_set) (pc := 15) rfl rfl).trans ?_
  refine (e_iload_n (code := kX8_set) (pc := 16) rfl rfl).trans ?_
  refine (e_iastore (code := kX8_set) (pc := 17) rfl hw.2.1 hw.2.2.1 hw.2.2.2).trans ?_
  refine b_gd_c ?_
  refine (e_iload_n (code := kX8_set) (pc := 18) (σ := (a_setI σ w (Int32.toNatClampNeg x1) x2)) rfl rfl).trans ?_
  exact e_ireturn rfl
theorem n_X8_change {P : aCall} {d : Nat} {σ : aSt} (hd : 1 ≤ d) : a_call a_tab P d 210 [.ref 237] σ = b_R (a_call a_tab P (d - 1)) kX8_change [] (0, [some (.ref 237)], [], σ) := e_call hd at_X8_change rfl
theorem b_X8_change_0 {C : aCall} {σ : aSt} (h : Sh σ) : b_R C kX8_change [] (0, [some (.ref 237)], [], σ) = b_G C kX8_change [] 8 11 [some (.ref 237)] [] (C 209 [.ref 237, .int (nI 5), .int (nI 0)] (a_setI σ 237 6 (nI 0))) := by
  refine (e_aload_n (code := kX8_change) (pc := 0) rfl rfl).trans ?_
  refine (e_iconst (code := kX8_change) (pc := 1) rfl).trans ?_
  refine (e_putI (code := kX8_change) (pc := 2) (c := 10) rfl (sk_237 (σ := σ) h) (h_100 rfl)).trans ?_
  refine (e_aload_n (code := kX8_change) (pc := 5) (σ := (a_setI σ 237 6 (nI 0))) rfl rfl).trans ?_
  refine (e_iconst (code := kX8_change) (pc := 6) (σ := (a_setI σ 237 6 (nI 0))) rfl).trans ?_
  refine (e_iconst (code := kX8_change) (pc := 7) (σ := (a_setI σ 237 6 (nI 0))) rfl).trans ?_
  exact (e_callV (σ := (a_setI σ 237 6 (nI 0))) (code := kX8_change) (pc := 8) (len := 3) (k := 209) (n := 3) (c := 20) (as := [.ref 237, .int (nI 5), .int (nI 0)]) (st0 := []) rfl rfl rfl rfl rfl (sk_237 (σ := σ) h) rfl)
theorem b_X8_change_11 {C : aCall} {σ : aSt} {y0 : Int32} : b_R C kX8_change [] (11, [some (.ref 237)], [.int y0], σ) = some (.inl (some (.int y0)), σ) := by
  exact e_ireturn rfl
theorem n_X8_refill {P : aCall} {d : Nat} {σ : aSt} {x1 x2 : Int32} (hd : 1 ≤ d) : a_call a_tab P d 211 [.ref 237, .int x1, .int x2] σ = b_R (a_call a_tab P (d - 1)) kX8_refill [] (0, [some (.ref 237), some (.int x1), some (.int x2), none], [], σ) := e_call hd at_X8_refill rfl
theorem b_X8_refill_0 {C : aCall} {σ : aSt} {x1 x2 : Int32} (h : Sh σ) : b_R C kX8_refill [] (0, [some (.ref 237), some (.int x1), some (.int x2), none], [], σ) = b_G C kX8_refill [] 3 6 [some (.ref 237), some (.int x1), some (.int x2), none] [.ref 237] (C 149 [.ref 237, .int x1] σ) := by
  refine (e_aload_n (code := kX8_refill) (pc := 0) rfl rfl).trans ?_
  refine (e_aload_n (code := kX8_refill) (pc := 1) rfl rfl).trans ?_
  refine (e_iload_n (code := kX8_refill) (pc := 2) rfl rfl).trans ?_
  exact (e_callV (σ := σ) (code := kX8_refill) (pc := 3) (len := 3) (k := 149) (n := 2) (c := 20) (as := [.ref 237, .int x1]) (st0 := [.ref 237]) rfl rfl rfl rfl rfl (sk_237 (σ := σ) h) rfl)
theorem b_X8_refill_6 {C : aCall} {σ : aSt} {x1 x2 y0 : Int32} : b_R C kX8_refill [] (6, [some (.ref 237), some (.int x1), some (.int x2), none], [.int y0, .ref 237], σ) = (if y0 = 0 then b_R C kX8_refill [] (29, [some (.ref 237), some (.int x1), some (.int x2), none], [.int (nI 1), .ref 237], σ) else b_G C kX8_refill [] 18 21 [some (.ref 237), some (.int x1), some (.int x2), none] [.ref 237] (C 147 [.int x2, .int (nI 1), .int (nI 999)] σ)) := by
  refine (e_ifne (code := kX8_refill) (pc := 6) rfl).trans ?_
  refine b_ite ?_ ?_
  · refine (e_iconst (code := kX8_refill) (pc := 9) rfl).trans ?_
    refine (e_goto (code := kX8_refill) (pc := 10) rfl).trans ?_
    rfl
  · refine (e_iload_n (code := kX8_refill) (pc := 13) rfl rfl).trans ?_
    refine (e_iconst (code := kX8_refill) (pc := 14) rfl).trans ?_
    refine (e_sipush (code := kX8_refill) (pc := 15) rfl).trans ?_
    exact (e_callS (code := kX8_refill) (pc := 18) (len := 3) (k := 147) (n := 3) (as := [.int x2, .int (nI 1), .int (nI 999)]) (st0 := [.ref 237]) rfl rfl rfl rfl)
theorem b_X8_refill_21 {C : aCall} {σ : aSt} {x1 x2 y0 : Int32} : b_R C kX8_refill [] (21, [some (.ref 237), some (.int x1), some (.int x2), none], [.int y0, .ref 237], σ) = (if y0 = 0 then b_R C kX8_refill [] (29, [some (.ref 237), some (.int x1), some (.int x2), none], [.int (nI 2), .ref 237], σ) else b_R C kX8_refill [] (29, [some (.ref 237), some (.int x1), some (.int x2), none], [.int (nI 0), .ref 237], σ)) := by
  refine (e_ifeq (code := kX8_refill) (pc := 21) rfl).trans ?_
  refine b_ite ?_ ?_
  · refine (e_iconst (code := kX8_refill) (pc := 28) rfl).trans ?_
    rfl
  · refine (e_iconst (code := kX8_refill) (pc := 24) rfl).trans ?_
    refine (e_goto (code := kX8_refill) (pc := 25) rfl).trans ?_
    rfl
theorem b_X8_refill_29 {C : aCall} {σ : aSt} {x1 x2 y0 : Int32} (h : Sh σ) : b_R C kX8_refill [] (29, [some (.ref 237), some (.int x1), some (.int x2), none], [.int y0, .ref 237], σ) = (if (a_I (a_setI σ 237 6 y0) 237 6) = 0 then b_G C kX8_refill [] 44 47 [some (.ref 237), some (.int x1), some (.int x2), none] [] (C 153 [.ref 237, .int x1, .int (nI 3)] (a_setI σ 237 6 y0)) else some (.inl (some (.int (nI 0))), (a_setI σ 237 6 y0))) := by
  refine (e_putI (code := kX8_refill) (pc := 29) (c := 10) rfl (sk_237 (σ := σ) h) (h_100 rfl)).trans ?_
  refine (e_aload_n (code := kX8_refill) (pc := 32) (σ := (a_setI σ 237 6 y0)) rfl rfl).trans ?_
  refine (e_getI (code := kX8_refill) (pc := 33) (σ := (a_setI σ 237 6 y0)) (c := 10) rfl (sk_237 (σ := σ) h) rfl).trans ?_
  refine (e_ifeq (code := kX8_refill) (pc := 36) (σ := (a_setI σ 237 6 y0)) rfl).trans ?_
  refine b_ite ?_ ?_
  · refine (e_aload_n (code := kX8_refill) (pc := 41) (σ := (a_setI σ 237 6 y0)) rfl rfl).trans ?_
    refine (e_iload_n (code := kX8_refill) (pc := 42) (σ := (a_setI σ 237 6 y0)) rfl rfl).trans ?_
    refine (e_iconst (code := kX8_refill) (pc := 43) (σ := (a_setI σ 237 6 y0)) rfl).trans ?_
    exact (e_callV (σ := (a_setI σ 237 6 y0)) (code := kX8_refill) (pc := 44) (len := 3) (k := 153) (n := 3) (c := 20) (as := [.ref 237, .int x1, .int (nI 3)]) (st0 := []) rfl rfl rfl rfl rfl (sk_237 (σ := σ) h) rfl)
  · refine (e_iconst (code := kX8_refill) (pc := 39) (σ := (a_setI σ 237 6 y0)) rfl).trans ?_
    exact e_ireturn rfl
theorem b_X8_refill_47 {C : aCall} {σ : aSt} {x1 x2 y0 : Int32} (h : Sh σ) : b_R C kX8_refill [] (47, [some (.ref 237), some (.int x1), some (.int x2), none], [.int y0], σ) = (if (nI 9999) < (y0 + x2) then some (.inl (some (.int ((-2)))), σ) else b_G C kX8_refill [] 61 64 [some (.ref 237), some (.int x1), some (.int x2), some (.int (y0 + x2))] [] (C 219 [.ref 237] σ)) := by
  refine (e_iload_n (code := kX8_refill) (pc := 47) rfl rfl).trans ?_
  refine (e_iadd (code := kX8_refill) (pc := 48) rfl).trans ?_
  refine (e_istore_n (code := kX8_refill) (pc := 49) rfl rfl rfl).trans ?_
  refine (e_iload_n (code := kX8_refill) (pc := 50) rfl rfl).trans ?_
  refine (e_sipush (code := kX8_refill) (pc := 51) rfl).trans ?_
  refine (e_icle (code := kX8_refill) (pc := 54) rfl).trans ?_
  refine b_ite ?_ ?_
  · refine (e_bipush (code := kX8_refill) (pc := 57) rfl).trans ?_
    exact e_ireturn rfl
  · refine (e_aload_n (code := kX8_refill) (pc := 60) rfl rfl).trans ?_
    exact (e_callV (σ := σ) (code := kX8_refill) (pc := 61) (len := 3) (k := 219) (n := 1) (c := 20) (as := [.ref 237]) (st0 := []) rfl rfl rfl rfl rfl (sk_237 (σ := σ) h) rfl)
theorem b_X8_refill_64 {C : aCall} {σ : aSt} {x1 x2 x3 : Int32} (h : Sh σ) : b_R C kX8_refill [] (64, [some (.ref 237), some (.int x1), some (.int x2), some (.int x3)], [], σ) = b_G C kX8_refill [] 68 71 [some (.ref 237), some (.int x1), some (.int x2), some (.int x3)] [] (C 154 [.ref 237, .int x1, .int (nI 3), .int x3] σ) := by
  refine (e_aload_n (code := kX8_refill) (pc := 64) rfl rfl).trans ?_
  refine (e_iload_n (code := kX8_refill) (pc := 65) rfl rfl).trans ?_
  refine (e_iconst (code := kX8_refill) (pc := 66) rfl).trans ?_
  refine (e_iload_n (code := kX8_refill) (pc := 67) rfl rfl).trans ?_
  exact (e_callV (σ := σ) (code := kX8_refill) (pc := 68) (len := 3) (k := 154) (n := 4) (c := 20) (as := [.ref 237, .int x1, .int (nI 3), .int x3]) (st0 := []) rfl rfl rfl rfl rfl (sk_237 (σ := σ) h) rfl)
theorem b_X8_refill_71 {C : aCall} {σ : aSt} {x1 x2 x3 : Int32} : b_R C kX8_refill [] (71, [some (.ref 237), some (.int x1), some (.int x2), some (.int x3)], [], σ) = some (.inl (some (.int x3)), σ) := by
  refine (e_iload_n (code := kX8_refill) (pc := 71) rfl rfl).trans ?_
  exact e_ireturn rfl
theorem n_X8_setMost {P : aCall} {d : Nat} {σ : aSt} {x1 : Int32} (hd : 1 ≤ d) : a_call a_tab P d 212 [.ref 237, .int x1] σ = b_R (a_call a_tab P (d - 1)) kX8_setMost [] (0, [some (.ref 237), some (.int x1)], [], σ) := e_call hd at_X8_setMost rfl
theorem b_X8_setMost_0 {C : aCall} {σ : aSt} {x1 : Int32} : b_R C kX8_setMost [] (0, [some (.ref 237), some (.int x1)], [], σ) = b_G C kX8_setMost [] 5 8 [some (.ref 237), some (.int x1)] [.ref 237] (C 147 [.int x1, .int (nI 1), .int (nI 6)] σ) := by
  refine (e_aload_n (code := kX8_setMost) (pc := 0) rfl rfl).trans ?_
  refine (e_iload_n (code := kX8_setMost) (pc := 1) rfl rfl).trans ?_
  refine (e_iconst (code := kX8_setMost) (pc := 2) rfl).trans ?_
  refine (e_bipush (code := kX8_setMost) (pc := 3) rfl).trans ?_
  exact (e_callS (code := kX8_setMost) (pc := 5) (len := 3) (k := 147) (n := 3) (as := [.int x1, .int (nI 1), .int (nI 6)]) (st0 := [.ref 237]) rfl rfl rfl rfl)
theorem b_X8_setMost_8 {C : aCall} {σ : aSt} {x1 y0 : Int32} : b_R C kX8_setMost [] (8, [some (.ref 237), some (.int x1)], [.int y0, .ref 237], σ) = (if y0 = 0 then b_R C kX8_setMost [] (16, [some (.ref 237), some (.int x1)], [.int (nI 1), .ref 237], σ) else b_R C kX8_setMost [] (16, [some (.ref 237), some (.int x1)], [.int (nI 0), .ref 237], σ)) := by
  refine (e_ifeq (code := kX8_setMost) (pc := 8) rfl).trans ?_
  refine b_ite ?_ ?_
  · refine (e_iconst (code := kX8_setMost) (pc := 15) rfl).trans ?_
    rfl
  · refine (e_iconst (code := kX8_setMost) (pc := 11) rfl).trans ?_
    refine (e_goto (code := kX8_setMost) (pc := 12) rfl).trans ?_
    rfl
theorem b_X8_setMost_16 {C : aCall} {σ : aSt} {x1 y0 : Int32} (h : Sh σ) : b_R C kX8_setMost [] (16, [some (.ref 237), some (.int x1)], [.int y0, .ref 237], σ) = (if (a_I (a_setI σ 237 6 y0) 237 6) = 0 then b_G C kX8_setMost [] 29 32 [some (.ref 237), some (.int x1)] [] (C 209 [.ref 237, .int (nI 3), .int x1] (a_setI σ 237 6 y0)) else b_R C kX8_setMost [] (36, [some (.ref 237), some (.int x1)], [.int (nI 0)], (a_setI σ 237 6 y0))) := by
  refine (e_putI (code := kX8_setMost) (pc := 16) (c := 10) rfl (sk_237 (σ := σ) h) (h_100 rfl)).trans ?_
  refine (e_aload_n (code := kX8_setMost) (pc := 19) (σ := (a_setI σ 237 6 y0)) rfl rfl).trans ?_
  refine (e_getI (code := kX8_setMost) (pc := 20) (σ := (a_setI σ 237 6 y0)) (c := 10) rfl (sk_237 (σ := σ) h) rfl).trans ?_
  refine (e_ifne (code := kX8_setMost) (pc := 23) (σ := (a_setI σ 237 6 y0)) rfl).trans ?_
  refine b_ite ?_ ?_
  · refine (e_aload_n (code := kX8_setMost) (pc := 26) (σ := (a_setI σ 237 6 y0)) rfl rfl).trans ?_
    refine (e_iconst (code := kX8_setMost) (pc := 27) (σ := (a_setI σ 237 6 y0)) rfl).trans ?_
    refine (e_iload_n (code := kX8_setMost) (pc := 28) (σ := (a_setI σ 237 6 y0)) rfl rfl).trans ?_
    exact (e_callV (σ := (a_setI σ 237 6 y0)) (code := kX8_setMost) (pc := 29) (len := 3) (k := 209) (n := 3) (c := 20) (as := [.ref 237, .int (nI 3), .int x1]) (st0 := []) rfl rfl rfl rfl rfl (sk_237 (σ := σ) h) rfl)
  · refine (e_iconst (code := kX8_setMost) (pc := 35) (σ := (a_setI σ 237 6 y0)) rfl).trans ?_
    rfl
theorem b_X8_setMost_32 {C : aCall} {σ : aSt} {x1 y0 : Int32} : b_R C kX8_setMost [] (32, [some (.ref 237), some (.int x1)], [.int y0], σ) = b_R C kX8_setMost [] (36, [some (.ref 237), some (.int x1)], [.int y0], σ) := by
  refine (e_goto (code := kX8_setMost) (pc := 32) rfl).trans ?_
  rfl
theorem b_X8_setMost_36 {C : aCall} {σ : aSt} {x1 y0 : Int32} : b_R C kX8_setMost [] (36, [some (.ref 237), some (.int x1)], [.int y0], σ) = some (.inl (some (.int y0)), σ) := by
  exact e_ireturn rfl
theorem n_X8_setTolerance {P : aCall} {d : Nat} {σ : aSt} {x1 : Int32} (hd : 1 ≤ d) : a_call a_tab P d 213 [.ref 237, .int x1] σ = b_R (a_call a_tab P (d - 1)) kX8_setTolerance [] (0, [some (.ref 237), some (.int x1)], [], σ) := e_call hd at_X8_setTolerance rfl
theorem b_X8_setTolerance_0 {C : aCall} {σ : aSt} {x1 : Int32} : b_R C kX8_setTolerance [] (0, [some (.ref 237), some (.int x1)], [], σ) = b_G C kX8_setTolerance [] 5 8 [some (.ref 237), some (.int x1)] [.ref 237] (C 147 [.int x1, .int (nI 0), .int (nI 99999)] σ) := by
  refine (e_aload_n (code := kX8_setTolerance) (pc := 0) rfl rfl).trans ?_
  refine (e_iload_n (code := kX8_setTolerance) (pc := 1) rfl rfl).trans ?_
  refine (e_iconst (code := kX8_setTolerance) (pc := 2) rfl).trans ?_
  refine (e_ldcI (code := kX8_setTolerance) (pc := 3) rfl).trans ?_
  exact (e_callS (code := kX8_setTolerance) (pc := 5) (len := 3) (k := 147) (n := 3) (as := [.int x1, .int (nI 0), .int (nI 99999)]) (st0 := [.ref 237]) rfl rfl rfl rfl)
theorem b_X8_setTolerance_8 {C : aCall} {σ : aSt} {x1 y0 : Int32} : b_R C kX8_setTolerance [] (8, [some (.ref 237), some (.int x1)], [.int y0, .ref 237], σ) = (if y0 = 0 then b_R C kX8_setTolerance [] (16, [some (.ref 237), some (.int x1)], [.int (nI 1), .ref 237], σ) else b_R C kX8_setTolerance [] (16, [some (.ref 237), some (.int x1)], [.int (nI 0), .ref 237], σ)) := by
  refine (e_ifeq (code := kX8_setTolerance) (pc := 8) rfl).trans ?_
  refine b_ite ?_ ?_
  · refine (e_iconst (code := kX8_setTolerance) (pc := 15) rfl).trans ?_
    rfl
  · refine (e_iconst (code := kX8_setTolerance) (pc := 11) rfl).trans ?_
    refine (e_goto (code := kX8_setTolerance) (pc := 12) rfl).trans ?_
    rfl
theorem b_X8_setTolerance_16 {C : aCall} {σ : aSt} {x1 y0 : Int32} (h : Sh σ) : b_R C kX8_setTolerance [] (16, [some (.ref 237), some (.int x1)], [.int y0, .ref 237], σ) = (if (a_I (a_setI σ 237 6 y0) 237 6) = 0 then b_G C kX8_setTolerance [] 29 32 [some (.ref 237), some (.int x1)] [] (C 209 [.ref 237, .int (nI 4), .int x1] (a_setI σ 237 6 y0)) else b_R C kX8_setTolerance [] (36, [some (.ref 237), some (.int x1)], [.int (nI 0)], (a_setI σ 237 6 y0))) := by
  refine (e_putI (code := kX8_setTolerance) (pc := 16) (c := 10) rfl (sk_237 (σ := σ) h) (h_100 rfl)).trans ?_
  refine (e_aload_n (code := kX8_setTolerance) (pc := 19) (σ := (a_setI σ 237 6 y0)) rfl rfl).trans ?_
  refine (e_getI (code := kX8_setTolerance) (pc := 20) (σ := (a_setI σ 237 6 y0)) (c := 10) rfl (sk_237 (σ := σ) h) rfl).trans ?_
  refine (e_ifne (code := kX8_setTolerance) (pc := 23) (σ := (a_setI σ 237 6 y0)) rfl).trans ?_
  refine b_ite ?_ ?_
  · refine (e_aload_n (code := kX8_setTolerance) (pc := 26) (σ := (a_setI σ 237 6 y0)) rfl rfl).trans ?_
    refine (e_iconst (code := kX8_setTolerance) (pc := 27) (σ := (a_setI σ 237 6 y0)) rfl).trans ?_
    refine (e_iload_n (code := kX8_setTolerance) (pc := 28) (σ := (a_setI σ 237 6 y0)) rfl rfl).trans ?_
    exact (e_callV (σ := (a_setI σ 237 6 y0)) (code := kX8_setTolerance) (pc := 29) (len := 3) (k := 209) (n := 3) (c := 20) (as := [.ref 237, .int (nI 4), .int x1]) (st0 := []) rfl rfl rfl rfl rfl (sk_237 (σ := σ) h) rfl)
  · refine (e_iconst (code := kX8_setTolerance) (pc := 35) (σ := (a_setI σ 237 6 y0)) rfl).trans ?_
    rfl
theorem b_X8_setTolerance_32 {C : aCall} {σ : aSt} {x1 y0 : Int32} : b_R C kX8_setTolerance [] (32, [some (.ref 237), some (.int x1)], [.int y0], σ) = b_R C kX8_setTolerance [] (36, [some (.ref 237), some (.int x1)], [.int y0], σ) := by
  refine (e_goto (code := kX8_setTolerance) (pc := 32) rfl).trans ?_
  rfl
theorem b_X8_setTolerance_36 {C : aCall} {σ : aSt} {x1 y0 : Int32} : b_R C kX8_setTolerance [] (36, [some (.ref 237), some (.int x1)], [.int y0], σ) = some (.inl (some (.int y0)), σ) := by
  exact e_ireturn rfl
theorem n_X8_write {P : aCall} {d : Nat} {σ : aSt} {x1 : Int32} (hd : 1 ≤ d) : a_call a_tab P d 214 [.ref 237, .int x1] σ = b_R (a_call a_tab P (d - 1)) kX8_write [] (0, [some (.ref 237), some (.int x1)], [], σ) := e_call hd at_X8_write rfl
theorem b_X8_write_0 {C : aCall} {σ : aSt} {x1 : Int32} (h : Sh σ) : b_R C kX8_write [] (0, [some (.ref 237), some (.int x1)], [], σ) = b_gd (a_in (a_I σ 237 18) 80) (some (.inl none, (a_setI (a_setI σ 246 (Int32.toNatClampNeg (a_I σ 237 18)) x1) 237 18 ((a_I (a_setI σ 246 (Int32.toNatClampNeg (a_I σ 237 18)) x1) 237 18) + (nI 1))))) := by
  refine (e_aload_n (code := kX8_write) (pc := 0) rfl rfl).trans ?_
  refine (e_getR (code := kX8_write) (pc := 1) (c := 10) rfl (sk_237 (σ := σ) h) (sr_237_17 (σ := σ) h)).trans ?_
  refine (e_aload_n (code := kX8_write) (pc := 4) rfl rfl).trans ?_
  refine (e_getI (code := kX8_write) (pc := 5) (c := 10) rfl (sk_237 (σ := σ) h) rfl).trans ?_
  refine (e_iload_n (code := kX8_write) (pc := 8) rfl rfl).trans ?_
  refine (e_iastore (code := kX8_write) (pc := 9) rfl (sk_246 (σ := σ) h) (h_100 rfl) (sl_246 (σ := σ) h)).trans ?_
  refine b_gd_c ?_
  refine (e_aload_n (code := kX8_write) (pc := 10) (σ := (a_setI σ 246 (Int32.toNatClampNeg (a_I σ 237 18)) x1)) rfl rfl).trans ?_
  refine (e_dup (code := kX8_write) (pc := 11) (σ := (a_setI σ 246 (Int32.toNatClampNeg (a_I σ 237 18)) x1)) rfl rfl).trans ?_
  refine (e_getI (code := kX8_write) (pc := 12) (σ := (a_setI σ 246 (Int32.toNatClampNeg (a_I σ 237 18)) x1)) (c := 10) rfl (sk_237 (σ := σ) h) rfl).trans ?_
  refine (e_iconst (code := kX8_write) (pc := 15) (σ := (a_setI σ 246 (Int32.toNatClampNeg (a_I σ 237 18)) x1)) rfl).trans ?_
  refine (e_iadd (code := kX8_write) (pc := 16) (σ := (a_setI σ 246 (Int32.toNatClampNeg (a_I σ 237 18)) x1)) rfl).trans ?_
  refine (e_putI (code := kX8_write) (pc := 17) (σ := (a_setI σ 246 (Int32.toNatClampNeg (a_I σ 237 18)) x1)) (c := 10) rfl (sk_237 (σ := σ) h) (h_100 rfl)).trans ?_
  exact e_return_ rfl
theorem n_X8_writeName {P : aCall} {d : Nat} {σ : aSt} {x1 : Int32} (hd : 1 ≤ d) : a_call a_tab P d 215 [.ref 237, .int x1] σ = b_R (a_call a_tab P (d - 1)) kX8_writeName [] (0, [some (.ref 237), some (.int x1), none], [], σ) := e_call hd at_X8_writeName rfl
theorem b_X8_writeName_0 {C : aCall} {σ : aSt} {x1 : Int32} : b_R C kX8_writeName [] (0, [some (.ref 237), some (.int x1), none], [], σ) = b_R C kX8_writeName [] (2, [some (.ref 237), some (.int x1), some (.int (nI 0))], [], σ) := by
  refine (e_iconst (code := kX8_writeName) (pc := 0) rfl).trans ?_
  refine (e_istore_n (code := kX8_writeName) (pc := 1) rfl rfl rfl).trans ?_
  rfl
theorem b_X8_writeName_2 {C : aCall} {σ : aSt} {w : Nat} {x1 x2 : Int32} (h : Sh σ) (hw : Rw σ w) : b_R C kX8_writeName [] (2, [some (.ref 237), some (.int x1), some (.int x2)], [], σ) = b_gd (a_in x1 720) ((if x2 < (a_I σ w (Int32.toNatClampNeg x1)) then b_gd (a_in ((x1 + (nI 1)) + x2) 720) (b_G C kX8_writeName [] 23 26 [some (.ref 237), some (.int x1), some (.int x2)] [] (C 214 [.ref 237, .int (a_I σ w (Int32.toNatClampNeg ((x1 + (nI 1)) + x2)))] σ)) else some (.inl none, σ))) := by
  refine (e_iload_n (code := kX8_writeName) (pc := 2) rfl rfl).trans ?_
  refine (e_aload_n (code := kX8_writeName) (pc := 3) rfl rfl).trans ?_
  refine (e_getR (code := kX8_writeName) (pc := 4) (c := 10) rfl (sk_237 (σ := σ) h) hw.1).trans ?_
  refine (e_iload_n (code := kX8_writeName) (pc := 7) rfl rfl).trans ?_
  refine (e_iaload (code := kX8_writeName) (pc := 8) rfl (.inl hw.2.1) hw.2.2.2).trans ?_
  refine b_gd_c ?_
  refine (e_icge (code := kX8_writeName) (pc := 9) rfl).trans ?_
  refine b_ite ?_ ?_
  · refine (e_aload_n (code := kX8_writeName) (pc := 12) rfl rfl).trans ?_
    refine (e_aload_n (code := kX8_writeName) (pc := 13) rfl rfl).trans ?_
    refine (e_getR (code := kX8_writeName) (pc := 14) (c := 10) rfl (sk_237 (σ := σ) h) hw.1).trans ?_
    refine (e_iload_n (code := kX8_writeName) (pc := 17) rfl rfl).trans ?_
    refine (e_iconst (code := kX8_writeName) (pc := 18) rfl).trans ?_
    refine (e_iadd (code := kX8_writeName) (pc := 19) rfl).trans ?_
    refine (e_iload_n (code := kX8_writeName) (pc := 20) rfl rfl).trans ?_
    refine (e_iadd (code := kX8_writeName) (pc := 21) rfl).trans ?_
    refine (e_iaload (code := kX8_writeName) (pc := 22) rfl (.inl hw.2.1) hw.2.2.2).trans ?_
    refine b_gd_c ?_
    exact (e_callV (σ := σ) (code := kX8_writeName) (pc := 23) (len := 3) (k := 214) (n := 2) (c := 20) (as := [.ref 237, .int (a_I σ w (Int32.toNatClampNeg ((x1 + (nI 1)) + x2)))]) (st0 := []) rfl rfl rfl rfl rfl (sk_237 (σ := σ) h) rfl)
  · exact e_return_ rfl
theorem b_X8_writeName_26 {C : aCall} {σ : aSt} {x1 x2 : Int32} : b_R C kX8_writeName [] (26, [some (.ref 237), some (.int x1), some (.int x2)], [], σ) = b_R C kX8_writeName [] (2, [some (.ref 237), some (.int x1), some (.int (x2 + nI 1))], [], σ) := by
  refine (e_iinc (code := kX8_writeName) (pc := 26) rfl rfl rfl rfl).trans ?_
  refine (e_goto (code := kX8_writeName) (pc := 29) rfl).trans ?_
  rfl
theorem n_X8_format {P : aCall} {d : Nat} {σ : aSt} {x1 : Int32} (hd : 1 ≤ d) : a_call a_tab P d 216 [.ref 237, .int x1] σ = b_R (a_call a_tab P (d - 1)) kX8_format [] (0, [some (.ref 237), some (.int x1), none], [], σ) := e_call hd at_X8_format rfl
theorem b_X8_format_0 {C : aCall} {σ : aSt} {x1 : Int32} (h : Sh σ) : b_R C kX8_format [] (0, [some (.ref 237), some (.int x1), none], [], σ) = b_G C kX8_format [] 3 6 [some (.ref 237), some (.int x1), none] [.ref 237] (C 150 [.ref 237, .int x1] σ) := by
  refine (e_aload_n (code := kX8_format) (pc := 0) rfl rfl).trans ?_
  refine (e_aload_n (code := kX8_format) (pc := 1) rfl rfl).trans ?_
  refine (e_iload_n (code := kX8_format) (pc := 2) rfl rfl).trans ?_
  exact (e_callV (σ := σ) (code := kX8_format) (pc := 3) (len := 3) (k := 150) (n := 2) (c := 20) (as := [.ref 237, .int x1]) (st0 := [.ref 237]) rfl rfl rfl rfl rfl (sk_237 (σ := σ) h) rfl)
theorem b_X8_format_6 {C : aCall} {σ : aSt} {x1 y0 : Int32} (h : Sh σ) : b_R C kX8_format [] (6, [some (.ref 237), some (.int x1), none], [.int y0, .ref 237], σ) = b_G C kX8_format [] 6 9 [some (.ref 237), some (.int x1), none] [] (C 148 [.ref 237, .int y0] σ) := by
  exact (e_callV (σ := σ) (code := kX8_format) (pc := 6) (len := 3) (k := 148) (n := 2) (c := 20) (as := [.ref 237, .int y0]) (st0 := []) rfl rfl rfl rfl rfl (sk_237 (σ := σ) h) rfl)
theorem b_X8_format_9 {C : aCall} {σ : aSt} {x1 y0 : Int32} (h : Sh σ) : b_R C kX8_format [] (9, [some (.ref 237), some (.int x1), none], [.int y0], σ) = (if y0 = 0 then b_G C kX8_format [] 30 33 [some (.ref 237), some (.int x1), none] [] (C 215 [.ref 237, .int (((nI 288) + ((nI 18) * x1)) + (nI 0))] (a_setI σ 237 18 (nI 0))) else some (.inl (some (.int (nI 0))), σ)) := by
  refine (e_ifeq (code := kX8_format) (pc := 9) rfl).trans ?_
  refine b_ite ?_ ?_
  · refine (e_aload_n (code := kX8_format) (pc := 14) rfl rfl).trans ?_
    refine (e_iconst (code := kX8_format) (pc := 15) rfl).trans ?_
    refine (e_putI (code := kX8_format) (pc := 16) (c := 10) rfl (sk_237 (σ := σ) h) (h_100 rfl)).trans ?_
    refine (e_aload_n (code := kX8_format) (pc := 19) (σ := (a_setI σ 237 18 (nI 0))) rfl rfl).trans ?_
    refine (e_sipush (code := kX8_format) (pc := 20) (σ := (a_setI σ 237 18 (nI 0))) rfl).trans ?_
    refine (e_bipush (code := kX8_format) (pc := 23) (σ := (a_setI σ 237 18 (nI 0))) rfl).trans ?_
    refine (e_iload_n (code := kX8_format) (pc := 25) (σ := (a_setI σ 237 18 (nI 0))) rfl rfl).trans ?_
    refine (e_imul (code := kX8_format) (pc := 26) (σ := (a_setI σ 237 18 (nI 0))) rfl).trans ?_
    refine (e_iadd (code := kX8_format) (pc := 27) (σ := (a_setI σ 237 18 (nI 0))) rfl).trans ?_
    refine (e_iconst (code := kX8_format) (pc := 28) (σ := (a_setI σ 237 18 (nI 0))) rfl).trans ?_
    refine (e_iadd (code := kX8_format) (pc := 29) (σ := (a_setI σ 237 18 (nI 0))) rfl).trans ?_
    exact (e_callV (σ := (a_setI σ 237 18 (nI 0))) (code := kX8_format) (pc := 30) (len := 3) (k := 215) (n := 2) (c := 20) (as := [.ref 237, .int (((nI 288) + ((nI 18) * x1)) + (nI 0))]) (st0 := []) rfl rfl rfl rfl rfl (sk_237 (σ := σ) h) rfl)
  · refine (e_iconst (code := kX8_format) (pc := 12) rfl).trans ?_
    exact e_ireturn rfl
theorem b_X8_format_33 {C : aCall} {σ : aSt} {x1 : Int32} : b_R C kX8_format [] (33, [some (.ref 237), some (.int x1), none], [], σ) = b_R C kX8_format [] (35, [some (.ref 237), some (.int x1), some (.int (nI 0))], [], σ) := by
  refine (e_iconst (code := kX8_format) (pc := 33) rfl).trans ?_
  refine (e_istore_n (code := kX8_format) (pc := 34) rfl rfl rfl).trans ?_
  rfl
theorem b_X8_format_35 {C : aCall} {σ : aSt} {x1 x2 : Int32} (h : Sh σ) : b_R C kX8_format [] (35, [some (.ref 237), some (.int x1), some (.int x2)], [], σ) = b_G C kX8_format [] 40 43 [some (.ref 237), some (.int x1), some (.int x2)] [.int x2] (C 155 [.ref 237, .int x1, .int (nI 9)] σ) := by
  refine (e_iload_n (code := kX8_format) (pc := 35) rfl rfl).trans ?_
  refine (e_aload_n (code := kX8_format) (pc := 36) rfl rfl).trans ?_
  refine (e_iload_n (code := kX8_format) (pc := 37) rfl rfl).trans ?_
  refine (e_bipush (code := kX8_format) (pc := 38) rfl).trans ?_
  exact (e_callV (σ := σ) (code := kX8_format) (pc := 40) (len := 3) (k := 155) (n := 3) (c := 20) (as := [.ref 237, .int x1, .int (nI 9)]) (st0 := [.int x2]) rfl rfl rfl rfl rfl (sk_237 (σ := σ) h) rfl)
theorem b_X8_format_43 {C : aCall} {σ : aSt} {x1 x2 y0 y1 : Int32} (h : Sh σ) : b_R C kX8_format [] (43, [some (.ref 237), some (.int x1), some (.int x2)], [.int y0, .int y1], σ) = (if y1 < y0 then (if x2 = 0 then b_R C kX8_format [] (58, [some (.ref 237), some (.int x1), some (.int x2)], [.int (nI 61), .ref 237], σ) else b_R C kX8_format [] (58, [some (.ref 237), some (.int x1), some (.int x2)], [.int (nI 43), .ref 237], σ)) else b_G C kX8_format [] 106 109 [some (.ref 237), some (.int x1), some (.int x2)] [] (C 169 [.ref 237, .int x1] σ)) := by
  refine (e_icge (code := kX8_format) (pc := 43) rfl).trans ?_
  refine b_ite ?_ ?_
  · refine (e_aload_n (code := kX8_format) (pc := 46) rfl rfl).trans ?_
    refine (e_iload_n (code := kX8_format) (pc := 47) rfl rfl).trans ?_
    refine (e_ifne (code := kX8_format) (pc := 48) rfl).trans ?_
    refine b_ite ?_ ?_
    · refine (e_bipush (code := kX8_format) (pc := 51) rfl).trans ?_
      refine (e_goto (code := kX8_format) (pc := 53) rfl).trans ?_
      rfl
    · refine (e_bipush (code := kX8_format) (pc := 56) rfl).trans ?_
      rfl
  · refine (e_aload_n (code := kX8_format) (pc := 104) rfl rfl).trans ?_
    refine (e_iload_n (code := kX8_format) (pc := 105) rfl rfl).trans ?_
    exact (e_callV (σ := σ) (code := kX8_format) (pc := 106) (len := 3) (k := 169) (n := 2) (c := 20) (as := [.ref 237, .int x1]) (st0 := []) rfl rfl rfl rfl rfl (sk_237 (σ := σ) h) rfl)
theorem b_X8_format_58 {C : aCall} {σ : aSt} {x1 x2 y0 : Int32} (h : Sh σ) : b_R C kX8_format [] (58, [some (.ref 237), some (.int x1), some (.int x2)], [.int y0, .ref 237], σ) = b_G C kX8_format [] 58 61 [some (.ref 237), some (.int x1), some (.int x2)] [] (C 214 [.ref 237, .int y0] σ) := by
  exact (e_callV (σ := σ) (code := kX8_format) (pc := 58) (len := 3) (k := 214) (n := 2) (c := 20) (as := [.ref 237, .int y0]) (st0 := []) rfl rfl rfl rfl rfl (sk_237 (σ := σ) h) rfl)
theorem b_X8_format_61 {C : aCall} {σ : aSt} {x1 x2 : Int32} (h : Sh σ) : b_R C kX8_format [] (61, [some (.ref 237), some (.int x1), some (.int x2)], [], σ) = b_G C kX8_format [] 70 73 [some (.ref 237), some (.int x1), some (.int x2)] [.int (nI 48), .ref 237] (C 155 [.ref 237, .int x1, .int ((nI 14) + x2)] σ) := by
  refine (e_aload_n (code := kX8_format) (pc := 61) rfl rfl).trans ?_
  refine (e_bipush (code := kX8_format) (pc := 62) rfl).trans ?_
  refine (e_aload_n (code := kX8_format) (pc := 64) rfl rfl).trans ?_
  refine (e_iload_n (code := kX8_format) (pc := 65) rfl rfl).trans ?_
  refine (e_bipush (code := kX8_format) (pc := 66) rfl).trans ?_
  refine (e_iload_n (code := kX8_format) (pc := 68) rfl rfl).trans ?_
  refine (e_iadd (code := kX8_format) (pc := 69) rfl).trans ?_
  exact (e_callV (σ := σ) (code := kX8_format) (pc := 70) (len := 3) (k := 155) (n := 3) (c := 20) (as := [.ref 237, .int x1, .int ((nI 14) + x2)]) (st0 := [.int (nI 48), .ref 237]) rfl rfl rfl rfl rfl (sk_237 (σ := σ) h) rfl)
theorem b_X8_format_73 {C : aCall} {σ : aSt} {x1 x2 y0 y1 : Int32} (h : Sh σ) : b_R C kX8_format [] (73, [some (.ref 237), some (.int x1), some (.int x2)], [.int y0, .int y1, .ref 237], σ) = b_G C kX8_format [] 74 77 [some (.ref 237), some (.int x1), some (.int x2)] [] (C 214 [.ref 237, .int (y1 + y0)] σ) := by
  refine (e_iadd (code := kX8_format) (pc := 73) rfl).trans ?_
  exact (e_callV (σ := σ) (code := kX8_format) (pc := 74) (len := 3) (k := 214) (n := 2) (c := 20) (as := [.ref 237, .int (y1 + y0)]) (st0 := []) rfl rfl rfl rfl rfl (sk_237 (σ := σ) h) rfl)
theorem b_X8_format_77 {C : aCall} {σ : aSt} {x1 x2 : Int32} (h : Sh σ) : b_R C kX8_format [] (77, [some (.ref 237), some (.int x1), some (.int x2)], [], σ) = b_G C kX8_format [] 88 91 [some (.ref 237), some (.int x1), some (.int x2)] [.int (nI 14), .int (nI 8), .ref 237] (C 155 [.ref 237, .int x1, .int ((nI 10) + x2)] σ) := by
  refine (e_aload_n (code := kX8_format) (pc := 77) rfl rfl).trans ?_
  refine (e_bipush (code := kX8_format) (pc := 78) rfl).trans ?_
  refine (e_bipush (code := kX8_format) (pc := 80) rfl).trans ?_
  refine (e_aload_n (code := kX8_format) (pc := 82) rfl rfl).trans ?_
  refine (e_iload_n (code := kX8_format) (pc := 83) rfl rfl).trans ?_
  refine (e_bipush (code := kX8_format) (pc := 84) rfl).trans ?_
  refine (e_iload_n (code := kX8_format) (pc := 86) rfl rfl).trans ?_
  refine (e_iadd (code := kX8_format) (pc := 87) rfl).trans ?_
  exact (e_callV (σ := σ) (code := kX8_format) (pc := 88) (len := 3) (k := 155) (n := 3) (c := 20) (as := [.ref 237, .int x1, .int ((nI 10) + x2)]) (st0 := [.int (nI 14), .int (nI 8), .ref 237]) rfl rfl rfl rfl rfl (sk_237 (σ := σ) h) rfl)
theorem b_X8_format_91 {C : aCall} {σ : aSt} {x1 x2 y0 y1 y2 : Int32} (h : Sh σ) : b_R C kX8_format [] (91, [some (.ref 237), some (.int x1), some (.int x2)], [.int y0, .int y1, .int y2, .ref 237], σ) = b_G C kX8_format [] 95 98 [some (.ref 237), some (.int x1), some (.int x2)] [] (C 215 [.ref 237, .int ((y2 + (y1 * y0)) + (nI 5))] σ) := by
  refine (e_imul (code := kX8_format) (pc := 91) rfl).trans ?_
  refine (e_iadd (code := kX8_format) (pc := 92) rfl).trans ?_
  refine (e_iconst (code := kX8_format) (pc := 93) rfl).trans ?_
  refine (e_iadd (code := kX8_format) (pc := 94) rfl).trans ?_
  exact (e_callV (σ := σ) (code := kX8_format) (pc := 95) (len := 3) (k := 215) (n := 2) (c := 20) (as := [.ref 237, .int ((y2 + (y1 * y0)) + (nI 5))]) (st0 := []) rfl rfl rfl rfl rfl (sk_237 (σ := σ) h) rfl)
theorem b_X8_format_98 {C : aCall} {σ : aSt} {x1 x2 : Int32} : b_R C kX8_format [] (98, [some (.ref 237), some (.int x1), some (.int x2)], [], σ) = b_R C kX8_format [] (35, [some (.ref 237), some (.int x1), some (.int (x2 + nI 1))], [], σ) := by
  refine (e_iinc (code := kX8_format) (pc := 98) rfl rfl rfl rfl).trans ?_
  refine (e_goto (code := kX8_format) (pc := 101) rfl).trans ?_
  rfl
theorem b_X8_format_109 {C : aCall} {σ : aSt} {x1 x2 y0 : Int32} (h : Sh σ) : b_R C kX8_format [] (109, [some (.ref 237), some (.int x1), some (.int x2)], [.int y0], σ) = (if y0 = 0 then b_R C kX8_format [] (118, [some (.ref 237), some (.int x1), some (.int x2)], [], σ) else b_G C kX8_format [] 115 118 [some (.ref 237), some (.int x1), some (.int x2)] [] (C 214 [.ref 237, .int (nI 33)] σ)) := by
  refine (e_ifeq (code := kX8_format) (pc := 109) rfl).trans ?_
  refine b_ite ?_ ?_
  · rfl
  · refine (e_aload_n (code := kX8_format) (pc := 112) rfl rfl).trans ?_
    refine (e_bipush (code := kX8_format) (pc := 113) rfl).trans ?_
    exact (e_callV (σ := σ) (code := kX8_format) (pc := 115) (len := 3) (k := 214) (n := 2) (c := 20) (as := [.ref 237, .int (nI 33)]) (st0 := []) rfl rfl rfl rfl rfl (sk_237 (σ := σ) h) rfl)
theorem b_X8_format_118 {C : aCall} {σ : aSt} {x1 x2 : Int32} (h : Sh σ) : b_R C kX8_format [] (118, [some (.ref 237), some (.int x1), some (.int x2)], [], σ) = some (.inl (some (.int (a_I σ 237 18))), σ) := by
  refine (e_aload_n (code := kX8_format) (pc := 118) rfl rfl).trans ?_
  refine (e_getI (code := kX8_format) (pc := 119) (c := 10) rfl (sk_237 (σ := σ) h) rfl).trans ?_
  exact e_ireturn rfl
theorem n_X8_formattedByte {P : aCall} {d : Nat} {σ : aSt} {x1 : Int32} (hd : 1 ≤ d) : a_call a_tab P d 217 [.ref 237, .int x1] σ = b_R (a_call a_tab P (d - 1)) kX8_formattedByte [] (0, [some (.ref 237), some (.int x1)], [], σ) := e_call hd at_X8_formattedByte rfl
theorem b_X8_formattedByte_0 {C : aCall} {σ : aSt} {x1 : Int32} (h : Sh σ) : b_R C kX8_formattedByte [] (0, [some (.ref 237), some (.int x1)], [], σ) = b_G C kX8_formattedByte [] 13 16 [some (.ref 237), some (.int x1)] [] (C 147 [.int x1, .int (nI 0), .int ((a_I (a_setI σ 237 6 (nI 0)) 237 18) - (nI 1))] (a_setI σ 237 6 (nI 0))) := by
  refine (e_aload_n (code := kX8_formattedByte) (pc := 0) rfl rfl).trans ?_
  refine (e_iconst (code := kX8_formattedByte) (pc := 1) rfl).trans ?_
  refine (e_putI (code := kX8_formattedByte) (pc := 2) (c := 10) rfl (sk_237 (σ := σ) h) (h_100 rfl)).trans ?_
  refine (e_iload_n (code := kX8_formattedByte) (pc := 5) (σ := (a_setI σ 237 6 (nI 0))) rfl rfl).trans ?_
  refine (e_iconst (code := kX8_formattedByte) (pc := 6) (σ := (a_setI σ 237 6 (nI 0))) rfl).trans ?_
  refine (e_aload_n (code := kX8_formattedByte) (pc := 7) (σ := (a_setI σ 237 6 (nI 0))) rfl rfl).trans ?_
  refine (e_getI (code := kX8_formattedByte) (pc := 8) (σ := (a_setI σ 237 6 (nI 0))) (c := 10) rfl (sk_237 (σ := σ) h) rfl).trans ?_
  refine (e_iconst (code := kX8_formattedByte) (pc := 11) (σ := (a_setI σ 237 6 (nI 0))) rfl).trans ?_
  refine (e_isub (code := kX8_formattedByte) (pc := 12) (σ := (a_setI σ 237 6 (nI 0))) rfl).trans ?_
  exact (e_callS (code := kX8_formattedByte) (pc := 13) (len := 3) (k := 147) (n := 3) (as := [.int x1, .int (nI 0), .int ((a_I (a_setI σ 237 6 (nI 0)) 237 18) - (nI 1))]) (st0 := []) rfl rfl rfl rfl)
theorem b_X8_formattedByte_16 {C : aCall} {σ : aSt} {x1 y0 : Int32} (h : Sh σ) : b_R C kX8_formattedByte [] (16, [some (.ref 237), some (.int x1)], [.int y0], σ) = (if y0 = 0 then b_R C kX8_formattedByte [] (29, [some (.ref 237), some (.int x1)], [.int ((-1))], σ) else b_gd (a_in x1 80) (b_R C kX8_formattedByte [] (29, [some (.ref 237), some (.int x1)], [.int (a_I σ 246 (Int32.toNatClampNeg x1))], σ))) := by
  refine (e_ifeq (code := kX8_formattedByte) (pc := 16) rfl).trans ?_
  refine b_ite ?_ ?_
  · refine (e_iconst (code := kX8_formattedByte) (pc := 28) rfl).trans ?_
    rfl
  · refine (e_aload_n (code := kX8_formattedByte) (pc := 19) rfl rfl).trans ?_
    refine (e_getR (code := kX8_formattedByte) (pc := 20) (c := 10) rfl (sk_237 (σ := σ) h) (sr_237_17 (σ := σ) h)).trans ?_
    refine (e_iload_n (code := kX8_formattedByte) (pc := 23) rfl rfl).trans ?_
    refine (e_iaload (code := kX8_formattedByte) (pc := 24) rfl (.inl (sk_246 (σ := σ) h)) (sl_246 (σ := σ) h)).trans ?_
    refine b_gd_c ?_
    refine (e_goto (code := kX8_formattedByte) (pc := 25) rfl).trans ?_
    rfl
theorem b_X8_formattedByte_29 {C : aCall} {σ : aSt} {x1 y0 : Int32} : b_R C kX8_formattedByte [] (29, [some (.ref 237), some (.int x1)], [.int y0], σ) = some (.inl (some (.int y0)), σ) := by
  exact e_ireturn rfl
theorem n_X8_copy {P : aCall} {d : Nat} {σ : aSt} {a0 a2 : Nat} {x1 x3 : Int32} (hd : 1 ≤ d) : a_call a_tab P d 218 [.ref a0, .int x1, .ref a2, .int x3] σ = b_R (a_call a_tab P (d - 1)) kX8_copy [] (0, [some (.ref a0), some (.int x1), some (.ref a2), some (.int x3), none], [], σ) := e_call hd at_X8_copy rfl
theorem b_X8_copy_0 {C : aCall} {σ : aSt} {a0 a2 : Nat} {x1 x3 : Int32} : b_R C kX8_copy [] (0, [some (.ref a0), some (.int x1), some (.ref a2), some (.int x3), none], [], σ) = b_R C kX8_copy [] (3, [some (.ref a0), some (.int x1), some (.ref a2), some (.int x3), some (.int (nI 0))], [], σ) := by
  refine (e_iconst (code := kX8_copy) (pc := 0) rfl).trans ?_
  refine (e_istore (code := kX8_copy) (pc := 1) rfl rfl rfl).trans ?_
  rfl
theorem b_X8_copy_3 {C : aCall} {σ : aSt} {a0 N_a0 a2 N_a2 : Nat} {x1 x3 x4 : Int32} (hl_a0 : a_ln σ a0 = N_a0) (hs_a0 : N_a0 < 2147483648) (hk_a0 : a_kd σ a0 = 1) (hl_a2 : a_ln σ a2 = N_a2) (hs_a2 : N_a2 < 2147483648) (hk_a2 : a_kd σ a2 = 1) (h1_a2 : 100 ≤ a2) : b_R C kX8_copy [] (3, [some (.ref a0), some (.int x1), some (.ref a2), some (.int x3), some (.int x4)], [], σ) = (if x4 < (nI 720) then b_gd (a_in (((nI 720) * x1) + x4) N_a0) (b_gd (a_in (((nI 720) * x3) + x4) N_a2) (b_R C kX8_copy [] (3, [some (.ref a0), some (.int x1), some (.ref a2), some (.int x3), some (.int (x4 + nI 1))], [], (a_setI σ a2 (Int32.toNatClampNeg (((nI 720) * x3) + x4)) (a_I σ a0 (Int32.toNatClampNeg (((nI 720) * x1) + x4))))))) else some (.inl none, σ)) := by
  refine (e_iload (code := kX8_copy) (pc := 3) rfl rfl).trans ?_
  refine (e_sipush (code := kX8_copy) (pc := 5) rfl).trans ?_
  refine (e_icge (code := kX8_copy) (pc := 8) rfl).trans ?_
  refine b_ite ?_ ?_
  · refine (e_aload_n (code := kX8_copy) (pc := 11) rfl rfl).trans ?_
    refine (e_sipush (code := kX8_copy) (pc := 12) rfl).trans ?_
    refine (e_iload_n (code := kX8_copy) (pc := 15) rfl rfl).trans ?_
    refine (e_imul (code := kX8_copy) (pc := 16) rfl).trans ?_
    refine (e_iload (code := kX8_copy) (pc := 17) rfl rfl).trans ?_
    refine (e_iadd (code := kX8_copy) (pc := 19) rfl).trans ?_
    refine (e_aload_n (code := kX8_copy) (pc := 20) rfl rfl).trans ?_
    refine (e_sipush (code := kX8_copy) (pc := 21) rfl).trans ?_
    refine (e_iload_n (code := kX8_copy) (pc := 24) rfl rfl).trans ?_
    refine (e_imul (code := kX8_copy) (pc := 25) rfl).trans ?_
    refine (e_iload (code := kX8_copy) (pc := 26) rfl rfl).trans ?_
    refine (e_iadd (code := kX8_copy) (pc := 28) rfl).trans ?_
    refine (e_iaload (code := kX8_copy) (pc := 29) rfl (.inl hk_a0) hl_a0).trans ?_
    refine b_gd_c ?_
    refine (e_iastore (code := kX8_copy) (pc := 30) rfl hk_a2 h1_a2 hl_a2).trans ?_
    refine b_gd_c ?_
    refine (e_iinc (code := kX8_copy) (pc := 31) (σ := (a_setI σ a2 (Int32.toNatClampNeg (((nI 720) * x3) + x4)) (a_I σ a0 (Int32.toNatClampNeg (((nI 720) * x1) + x4))))) rfl rfl rfl rfl).trans ?_
    refine (e_goto (code := kX8_copy) (pc := 34) (σ := (a_setI σ a2 (Int32.toNatClampNeg (((nI 720) * x3) + x4)) (a_I σ a0 (Int32.toNatClampNeg (((nI 720) * x1) + x4))))) rfl).trans ?_
    rfl
  · exact e_return_ rfl
theorem n_X8_record {P : aCall} {d : Nat} {σ : aSt} (hd : 1 ≤ d) : a_call a_tab P d 219 [.ref 237] σ = b_R (a_call a_tab P (d - 1)) kX8_record [] (0, [some (.ref 237), none], [], σ) := e_call hd at_X8_record rfl
theorem b_X8_record_0 {C : aCall} {σ : aSt} (h : Sh σ) : b_R C kX8_record [] (0, [some (.ref 237), none], [], σ) = (if (a_I σ 237 5) = (nI 10) then b_R C kX8_record [] (11, [some (.ref 237), some (.int (nI 1))], [], σ) else b_R C kX8_record [] (48, [some (.ref 237), none], [], σ)) := by
  refine (e_aload_n (code := kX8_record) (pc := 0) rfl rfl).trans ?_
  refine (e_getI (code := kX8_record) (pc := 1) (c := 10) rfl (sk_237 (σ := σ) h) rfl).trans ?_
  refine (e_bipush (code := kX8_record) (pc := 4) rfl).trans ?_
  refine (e_icne (code := kX8_record) (pc := 6) rfl).trans ?_
  refine b_ite ?_ ?_
  · refine (e_iconst (code := kX8_record) (pc := 9) rfl).trans ?_
    refine (e_istore_n (code := kX8_record) (pc := 10) rfl rfl rfl).trans ?_
    rfl
  · rfl
theorem b_X8_record_11 {C : aCall} {σ : aSt} {x1 : Int32} (h : Sh σ) : b_R C kX8_record [] (11, [some (.ref 237), some (.int x1)], [], σ) = (if x1 < (nI 10) then b_G C kX8_record [] 29 32 [some (.ref 237), some (.int x1)] [] (C 218 [.ref 241, .int x1, .ref 241, .int (x1 - (nI 1))] σ) else b_R C kX8_record [] (48, [some (.ref 237), some (.int x1)], [], (a_setI σ 237 5 ((a_I σ 237 5) - (nI 1))))) := by
  refine (e_iload_n (code := kX8_record) (pc := 11) rfl rfl).trans ?_
  refine (e_bipush (code := kX8_record) (pc := 12) rfl).trans ?_
  refine (e_icge (code := kX8_record) (pc := 14) rfl).trans ?_
  refine b_ite ?_ ?_
  · refine (e_aload_n (code := kX8_record) (pc := 17) rfl rfl).trans ?_
    refine (e_getR (code := kX8_record) (pc := 18) (c := 10) rfl (sk_237 (σ := σ) h) (sr_237_3 (σ := σ) h)).trans ?_
    refine (e_iload_n (code := kX8_record) (pc := 21) rfl rfl).trans ?_
    refine (e_aload_n (code := kX8_record) (pc := 22) rfl rfl).trans ?_
    refine (e_getR (code := kX8_record) (pc := 23) (c := 10) rfl (sk_237 (σ := σ) h) (sr_237_3 (σ := σ) h)).trans ?_
    refine (e_iload_n (code := kX8_record) (pc := 26) rfl rfl).trans ?_
    refine (e_iconst (code := kX8_record) (pc := 27) rfl).trans ?_
    refine (e_isub (code := kX8_record) (pc := 28) rfl).trans ?_
    exact (e_callS (code := kX8_record) (pc := 29) (len := 3) (k := 218) (n := 4) (as := [.ref 241, .int x1, .ref 241, .int (x1 - (nI 1))]) (st0 := []) rfl rfl rfl rfl)
  · refine (e_aload_n (code := kX8_record) (pc := 38) rfl rfl).trans ?_
    refine (e_dup (code := kX8_record) (pc := 39) rfl rfl).trans ?_
    refine (e_getI (code := kX8_record) (pc := 40) (c := 10) rfl (sk_237 (σ := σ) h) rfl).trans ?_
    refine (e_iconst (code := kX8_record) (pc := 43) rfl).trans ?_
    refine (e_isub (code := kX8_record) (pc := 44) rfl).trans ?_
    refine (e_putI (code := kX8_record) (pc := 45) (c := 10) rfl (sk_237 (σ := σ) h) (h_100 rfl)).trans ?_
    rfl
theorem b_X8_record_32 {C : aCall} {σ : aSt} {x1 : Int32} : b_R C kX8_record [] (32, [some (.ref 237), some (.int x1)], [], σ) = b_R C kX8_record [] (11, [some (.ref 237), some (.int (x1 + nI 1))], [], σ) := by
  refine (e_iinc (code := kX8_record) (pc := 32) rfl rfl rfl rfl).trans ?_
  refine (e_goto (code := kX8_record) (pc := 35) rfl).trans ?_
  rfl
theorem b_X8_record_48 {C : aCall} {σ : aSt} {o1 : Option Value} (h : Sh σ) : b_R C kX8_record [] (48, [some (.ref 237), o1], [], σ) = b_G C kX8_record [] 61 64 [some (.ref 237), o1] [] (C 218 [.ref 238, .int (nI 0), .ref 241, .int (a_I σ 237 5)] σ) := by
  refine (e_aload_n (code := kX8_record) (pc := 48) rfl rfl).trans ?_
  refine (e_getR (code := kX8_record) (pc := 49) (c := 10) rfl (sk_237 (σ := σ) h) (sr_237_0 (σ := σ) h)).trans ?_
  refine (e_iconst (code := kX8_record) (pc := 52) rfl).trans ?_
  refine (e_aload_n (code := kX8_record) (pc := 53) rfl rfl).trans ?_
  refine (e_getR (code := kX8_record) (pc := 54) (c := 10) rfl (sk_237 (σ := σ) h) (sr_237_3 (σ := σ) h)).trans ?_
  refine (e_aload_n (code := kX8_record) (pc := 57) rfl rfl).trans ?_
  refine (e_getI (code := kX8_record) (pc := 58) (c := 10) rfl (sk_237 (σ := σ) h) rfl).trans ?_
  exact (e_callS (code := kX8_record) (pc := 61) (len := 3) (k := 218) (n := 4) (as := [.ref 238, .int (nI 0), .ref 241, .int (a_I σ 237 5)]) (st0 := []) rfl rfl rfl rfl)
theorem b_X8_record_64 {C : aCall} {σ : aSt} {o1 : Option Value} (h : Sh σ) : b_R C kX8_record [] (64, [some (.ref 237), o1], [], σ) = some (.inl none, (a_setI σ 237 5 ((a_I σ 237 5) + (nI 1)))) := by
  refine (e_aload_n (code := kX8_record) (pc := 64) rfl rfl).trans ?_
  refine (e_dup (code := kX8_record) (pc := 65) rfl rfl).trans ?_
  refine (e_getI (code := kX8_record) (pc := 66) (c := 10) rfl (sk_237 (σ := σ) h) rfl).trans ?_
  refine (e_iconst (code := kX8_record) (pc := 69) rfl).trans ?_
  refine (e_iadd (code := kX8_record) (pc := 70) rfl).trans ?_
  refine (e_putI (code := kX8_record) (pc := 71) (c := 10) rfl (sk_237 (σ := σ) h) (h_100 rfl)).trans ?_
  exact e_return_ rfl
theorem n_X8_undoCount {P : aCall} {d : Nat} {σ : aSt} (hd : 1 ≤ d) : a_call a_tab P d 220 [.ref 237] σ = b_R (a_call a_tab P (d - 1)) kX8_undoCount [] (0, [some (.ref 237)], [], σ) := e_call hd at_X8_undoCount rfl
theorem b_X8_undoCount_0 {C : aCall} {σ : aSt} (h : Sh σ) : b_R C kX8_undoCount [] (0, [some (.ref 237)], [], σ) = some (.inl (some (.int (a_I (a_setI σ 237 6 (nI 0)) 237 5))), (a_setI σ 237 6 (nI 0))) := by
  refine (e_aload_n (code := kX8_undoCount) (pc := 0) rfl rfl).trans ?_
  refine (e_iconst (code := kX8_undoCount) (pc := 1) rfl).trans ?_
  refine (e_putI (code := kX8_undoCount) (pc := 2) (c := 10) rfl (sk_237 (σ := σ) h) (h_100 rfl)).trans ?_
  refine (e_aload_n (code := kX8_undoCount) (pc := 5) (σ := (a_setI σ 237 6 (nI 0))) rfl rfl).trans ?_
  refine (e_getI (code := kX8_undoCount) (pc := 6) (σ := (a_setI σ 237 6 (nI 0))) (c := 10) rfl (sk_237 (σ := σ) h) rfl).trans ?_
  exact e_ireturn rfl
theorem n_X8_undo {P : aCall} {d : Nat} {σ : aSt} (hd : 1 ≤ d) : a_call a_tab P d 221 [.ref 237] σ = b_R (a_call a_tab P (d - 1)) kX8_undo [] (0, [some (.ref 237)], [], σ) := e_call hd at_X8_undo rfl
theorem b_X8_undo_0 {C : aCall} {σ : aSt} (h : Sh σ) : b_R C kX8_undo [] (0, [some (.ref 237)], [], σ) = (if (a_I (a_setI σ 237 6 (nI 0)) 237 5) = 0 then some (.inl (some (.int ((-1)))), (a_setI σ 237 6 (nI 0))) else b_G C kX8_undo [] 37 40 [some (.ref 237)] [] (C 218 [.ref 241, .int (a_I (a_setI (a_setI σ 237 6 (nI 0)) 237 5 ((a_I (a_setI σ 237 6 (nI 0)) 237 5) - (nI 1))) 237 5), .ref 238, .int (nI 0)] (a_setI (a_setI σ 237 6 (nI 0)) 237 5 ((a_I (a_setI σ 237 6 (nI 0)) 237 5) - (nI 1))))) := by
  refine (e_aload_n (code := kX8_undo) (pc := 0) rfl rfl).trans ?_
  refine (e_iconst (code := kX8_undo) (pc := 1) rfl).trans ?_
  refine (e_putI (code := kX8_undo) (pc := 2) (c := 10) rfl (sk_237 (σ := σ) h) (h_100 rfl)).trans ?_
  refine (e_aload_n (code := kX8_undo) (pc := 5) (σ := (a_setI σ 237 6 (nI 0))) rfl rfl).trans ?_
  refine (e_getI (code := kX8_undo) (pc := 6) (σ := (a_setI σ 237 6 (nI 0))) (c := 10) rfl (sk_237 (σ := σ) h) rfl).trans ?_
  refine (e_ifne (code := kX8_undo) (pc := 9) (σ := (a_setI σ 237 6 (nI 0))) rfl).trans ?_
  refine b_ite ?_ ?_
  · refine (e_iconst (code := kX8_undo) (pc := 12) (σ := (a_setI σ 237 6 (nI 0))) rfl).trans ?_
    exact e_ireturn rfl
  · refine (e_aload_n (code := kX8_undo) (pc := 14) (σ := (a_setI σ 237 6 (nI 0))) rfl rfl).trans ?_
    refine (e_dup (code := kX8_undo) (pc := 15) (σ := (a_setI σ 237 6 (nI 0))) rfl rfl).trans ?_
    refine (e_getI (code := kX8_undo) (pc := 16) (σ := (a_setI σ 237 6 (nI 0))) (c := 10) rfl (sk_237 (σ := σ) h) rfl).trans ?_
    refine (e_iconst (code := kX8_undo) (pc := 19) (σ := (a_setI σ 237 6 (nI 0))) rfl).trans ?_
    refine (e_isub (code := kX8_undo) (pc := 20) (σ := (a_setI σ 237 6 (nI 0))) rfl).trans ?_
    refine (e_putI (code := kX8_undo) (pc := 21) (σ := (a_setI σ 237 6 (nI 0))) (c := 10) rfl (sk_237 (σ := σ) h) (h_100 rfl)).trans ?_
    refine (e_aload_n (code := kX8_undo) (pc := 24) (σ := (a_setI (a_setI σ 237 6 (nI 0)) 237 5 ((a_I (a_setI σ 237 6 (nI 0)) 237 5) - (nI 1)))) rfl rfl).trans ?_
    refine (e_getR (code := kX8_undo) (pc := 25) (σ := (a_setI (a_setI σ 237 6 (nI 0)) 237 5 ((a_I (a_setI σ 237 6 (nI 0)) 237 5) - (nI 1)))) (c := 10) rfl (sk_237 (σ := σ) h) (sr_237_3 (σ := σ) h)).trans ?_
    refine (e_aload_n (code := kX8_undo) (pc := 28) (σ := (a_setI (a_setI σ 237 6 (nI 0)) 237 5 ((a_I (a_setI σ 237 6 (nI 0)) 237 5) - (nI 1)))) rfl rfl).trans ?_
    refine (e_getI (code := kX8_undo) (pc := 29) (σ := (a_setI (a_setI σ 237 6 (nI 0)) 237 5 ((a_I (a_setI σ 237 6 (nI 0)) 237 5) - (nI 1)))) (c := 10) rfl (sk_237 (σ := σ) h) rfl).trans ?_
    refine (e_aload_n (code := kX8_undo) (pc := 32) (σ := (a_setI (a_setI σ 237 6 (nI 0)) 237 5 ((a_I (a_setI σ 237 6 (nI 0)) 237 5) - (nI 1)))) rfl rfl).trans ?_
    refine (e_getR (code := kX8_undo) (pc := 33) (σ := (a_setI (a_setI σ 237 6 (nI 0)) 237 5 ((a_I (a_setI σ 237 6 (nI 0)) 237 5) - (nI 1)))) (c := 10) rfl (sk_237 (σ := σ) h) (sr_237_0 (σ := σ) h)).trans ?_
    refine (e_iconst (code := kX8_undo) (pc := 36) (σ := (a_setI (a_setI σ 237 6 (nI 0)) 237 5 ((a_I (a_setI σ 237 6 (nI 0)) 237 5) - (nI 1)))) rfl).trans ?_
    exact (e_callS (code := kX8_undo) (pc := 37) (len := 3) (k := 218) (n := 4) (as := [.ref 241, .int (a_I (a_setI (a_setI σ 237 6 (nI 0)) 237 5 ((a_I (a_setI σ 237 6 (nI 0)) 237 5) - (nI 1))) 237 5), .ref 238, .int (nI 0)]) (st0 := []) rfl rfl rfl rfl)
theorem b_X8_undo_40 {C : aCall} {σ : aSt} (h : Sh σ) : b_R C kX8_undo [] (40, [some (.ref 237)], [], σ) = some (.inl (some (.int (a_I σ 237 5))), σ) := by
  refine (e_aload_n (code := kX8_undo) (pc := 40) rfl rfl).trans ?_
  refine (e_getI (code := kX8_undo) (pc := 41) (c := 10) rfl (sk_237 (σ := σ) h) rfl).trans ?_
  exact e_ireturn rfl
theorem n_X8_saveSnapshot {P : aCall} {d : Nat} {σ : aSt} (hd : 1 ≤ d) : a_call a_tab P d 222 [.ref 237] σ = b_R (a_call a_tab P (d - 1)) kX8_saveSnapshot [] (0, [some (.ref 237)], [], σ) := e_call hd at_X8_saveSnapshot rfl
theorem b_X8_saveSnapshot_0 {C : aCall} {σ : aSt} (h : Sh σ) : b_R C kX8_saveSnapshot [] (0, [some (.ref 237)], [], σ) = b_G C kX8_saveSnapshot [] 15 18 [some (.ref 237)] [] (C 218 [.ref 238, .int (nI 0), .ref 240, .int (nI 0)] (a_setI σ 237 6 (nI 0))) := by
  refine (e_aload_n (code := kX8_saveSnapshot) (pc := 0) rfl rfl).trans ?_
  refine (e_iconst (code := kX8_saveSnapshot) (pc := 1) rfl).trans ?_
  refine (e_putI (code := kX8_saveSnapshot) (pc := 2) (c := 10) rfl (sk_237 (σ := σ) h) (h_100 rfl)).trans ?_
  refine (e_aload_n (code := kX8_saveSnapshot) (pc := 5) (σ := (a_setI σ 237 6 (nI 0))) rfl rfl).trans ?_
  refine (e_getR (code := kX8_saveSnapshot) (pc := 6) (σ := (a_setI σ 237 6 (nI 0))) (c := 10) rfl (sk_237 (σ := σ) h) (sr_237_0 (σ := σ) h)).trans ?_
  refine (e_iconst (code := kX8_saveSnapshot) (pc := 9) (σ := (a_setI σ 237 6 (nI 0))) rfl).trans ?_
  refine (e_aload_n (code := kX8_saveSnapshot) (pc := 10) (σ := (a_setI σ 237 6 (nI 0))) rfl rfl).trans ?_
  refine (e_getR (code := kX8_saveSnapshot) (pc := 11) (σ := (a_setI σ 237 6 (nI 0))) (c := 10) rfl (sk_237 (σ := σ) h) (sr_237_2 (σ := σ) h)).trans ?_
  refine (e_iconst (code := kX8_saveSnapshot) (pc := 14) (σ := (a_setI σ 237 6 (nI 0))) rfl).trans ?_
  exact (e_callS (code := kX8_saveSnapshot) (pc := 15) (len := 3) (k := 218) (n := 4) (as := [.ref 238, .int (nI 0), .ref 240, .int (nI 0)]) (st0 := []) rfl rfl rfl rfl)
theorem b_X8_saveSnapshot_18 {C : aCall} {σ : aSt} (h : Sh σ) : b_R C kX8_saveSnapshot [] (18, [some (.ref 237)], [], σ) = some (.inl none, (a_setI σ 237 7 (nI 1))) := by
  refine (e_aload_n (code := kX8_saveSnapshot) (pc := 18) rfl rfl).trans ?_
  refine (e_iconst (code := kX8_saveSnapshot) (pc := 19) rfl).trans ?_
  refine (e_putZ (code := kX8_saveSnapshot) (pc := 20) (c := 10) rfl (sk_237 (σ := σ) h) (h_100 rfl) (.inr rfl)).trans ?_
  exact e_return_ rfl
theorem n_X8_restoreSnapshot {P : aCall} {d : Nat} {σ : aSt} (hd : 1 ≤ d) : a_call a_tab P d 223 [.ref 237] σ = b_R (a_call a_tab P (d - 1)) kX8_restoreSnapshot [] (0, [some (.ref 237)], [], σ) := e_call hd at_X8_restoreSnapshot rfl
theorem b_X8_restoreSnapshot_0 {C : aCall} {σ : aSt} (h : Sh σ) : b_R C kX8_restoreSnapshot [] (0, [some (.ref 237)], [], σ) = (if (a_I (a_setI σ 237 6 (nI 0)) 237 7) = 0 then some (.inl (some (.int (nI 0))), (a_setI σ 237 6 (nI 0))) else b_G C kX8_restoreSnapshot [] 24 27 [some (.ref 237)] [] (C 218 [.ref 240, .int (nI 0), .ref 238, .int (nI 0)] (a_setI σ 237 6 (nI 0)))) := by
  refine (e_aload_n (code := kX8_restoreSnapshot) (pc := 0) rfl rfl).trans ?_
  refine (e_iconst (code := kX8_restoreSnapshot) (pc := 1) rfl).trans ?_
  refine (e_putI (code := kX8_restoreSnapshot) (pc := 2) (c := 10) rfl (sk_237 (σ := σ) h) (h_100 rfl)).trans ?_
  refine (e_aload_n (code := kX8_restoreSnapshot) (pc := 5) (σ := (a_setI σ 237 6 (nI 0))) rfl rfl).trans ?_
  refine (e_getI (code := kX8_restoreSnapshot) (pc := 6) (σ := (a_setI σ 237 6 (nI 0))) (c := 10) rfl (sk_237 (σ := σ) h) rfl).trans ?_
  refine (e_ifne (code := kX8_restoreSnapshot) (pc := 9) (σ := (a_setI σ 237 6 (nI 0))) rfl).trans ?_
  refine b_ite ?_ ?_
  · refine (e_iconst (code := kX8_restoreSnapshot) (pc := 12) (σ := (a_setI σ 237 6 (nI 0))) rfl).trans ?_
    exact (e_zreturn rfl).trans (b_gd_t (by decide))
  · refine (e_aload_n (code := kX8_restoreSnapshot) (pc := 14) (σ := (a_setI σ 237 6 (nI 0))) rfl rfl).trans ?_
    refine (e_getR (code := kX8_restoreSnapshot) (pc := 15) (σ := (a_setI σ 237 6 (nI 0))) (c := 10) rfl (sk_237 (σ := σ) h) (sr_237_2 (σ := σ) h)).trans ?_
    refine (e_iconst (code := kX8_restoreSnapshot) (pc := 18) (σ := (a_setI σ 237 6 (nI 0))) rfl).trans ?_
    refine (e_aload_n (code := kX8_restoreSnapshot) (pc := 19) (σ := (a_setI σ 237 6 (nI 0))) rfl rfl).trans ?_
    refine (e_getR (code := kX8_restoreSnapshot) (pc := 20) (σ := (a_setI σ 237 6 (nI 0))) (c := 10) rfl (sk_237 (σ := σ) h) (sr_237_0 (σ := σ) h)).trans ?_
    refine (e_iconst (code := kX8_restoreSnapshot) (pc := 23) (σ := (a_setI σ 237 6 (nI 0))) rfl).trans ?_
    exact (e_callS (code := kX8_restoreSnapshot) (pc := 24) (len := 3) (k := 218) (n := 4) (as := [.ref 240, .int (nI 0), .ref 238, .int (nI 0)]) (st0 := []) rfl rfl rfl rfl)
theorem b_X8_restoreSnapshot_27 {C : aCall} {σ : aSt} (h : Sh σ) : b_R C kX8_restoreSnapshot [] (27, [some (.ref 237)], [], σ) = some (.inl (some (.int (nI 1))), (a_setI σ 237 5 (nI 0))) := by
  refine (e_aload_n (code := kX8_restoreSnapshot) (pc := 27) rfl rfl).trans ?_
  refine (e_iconst (code := kX8_restoreSnapshot) (pc := 28) rfl).trans ?_
  refine (e_putI (code := kX8_restoreSnapshot) (pc := 29) (c := 10) rfl (sk_237 (σ := σ) h) (h_100 rfl)).trans ?_
  refine (e_iconst (code := kX8_restoreSnapshot) (pc := 32) (σ := (a_setI σ 237 5 (nI 0))) rfl).trans ?_
  exact (e_zreturn rfl).trans (b_gd_t (by decide))
theorem n_X8_feed {P : aCall} {d : Nat} {σ : aSt} {x1 x2 x3 x4 x5 : Int32} (hd : 1 ≤ d) : a_call a_tab P d 224 [.ref 237, .int x1, .int x2, .int x3, .int x4, .int x5] σ = b_R (a_call a_tab P (d - 1)) kX8_feed [] (0, [some (.ref 237), some (.int x1), some (.int x2), some (.int x3), some (.int x4), some (.int x5), none, none], [], σ) := e_call hd at_X8_feed rfl
theorem b_X8_feed_0 {C : aCall} {σ : aSt} {x1 x2 x3 x4 x5 : Int32} (h : Sh σ) : b_R C kX8_feed [] (0, [some (.ref 237), some (.int x1), some (.int x2), some (.int x3), some (.int x4), some (.int x5), none, none], [], σ) = (if (nI 900) < ((a_I (a_setI σ 237 6 (nI 0)) 237 20) + (nI 20)) then some (.inl (some (.int ((-1)))), (a_setI σ 237 6 (nI 0))) else b_R C kX8_feed [] (23, [some (.ref 237), some (.int x1), some (.int x2), some (.int x3), some (.int x4), some (.int x5), some (.int (nI 0)), none], [], (a_setI σ 237 6 (nI 0)))) := by
  refine (e_aload_n (code := kX8_feed) (pc := 0) rfl rfl).trans ?_
  refine (e_iconst (code := kX8_feed) (pc := 1) rfl).trans ?_
  refine (e_putI (code := kX8_feed) (pc := 2) (c := 10) rfl (sk_237 (σ := σ) h) (h_100 rfl)).trans ?_
  refine (e_aload_n (code := kX8_feed) (pc := 5) (σ := (a_setI σ 237 6 (nI 0))) rfl rfl).trans ?_
  refine (e_getI (code := kX8_feed) (pc := 6) (σ := (a_setI σ 237 6 (nI 0))) (c := 10) rfl (sk_237 (σ := σ) h) rfl).trans ?_
  refine (e_bipush (code := kX8_feed) (pc := 9) (σ := (a_setI σ 237 6 (nI 0))) rfl).trans ?_
  refine (e_iadd (code := kX8_feed) (pc := 11) (σ := (a_setI σ 237 6 (nI 0))) rfl).trans ?_
  refine (e_sipush (code := kX8_feed) (pc := 12) (σ := (a_setI σ 237 6 (nI 0))) rfl).trans ?_
  refine (e_icle (code := kX8_feed) (pc := 15) (σ := (a_setI σ 237 6 (nI 0))) rfl).trans ?_
  refine b_ite ?_ ?_
  · refine (e_iconst (code := kX8_feed) (pc := 18) (σ := (a_setI σ 237 6 (nI 0))) rfl).trans ?_
    exact e_ireturn rfl
  · refine (e_iconst (code := kX8_feed) (pc := 20) (σ := (a_setI σ 237 6 (nI 0))) rfl).trans ?_
    refine (e_istore (code := kX8_feed) (pc := 21) (σ := (a_setI σ 237 6 (nI 0))) rfl rfl rfl).trans ?_
    rfl
theorem b_X8_feed_23 {C : aCall} {σ : aSt} {x1 x2 x3 x4 x5 x6 : Int32} {o7 : Option Value} (h : Sh σ) : b_R C kX8_feed [] (23, [some (.ref 237), some (.int x1), some (.int x2), some (.int x3), some (.int x4), some (.int x5), some (.int x6), o7], [], σ) = (if x6 < (nI 20) then (if x6 < (nI 4) then b_R C kX8_feed [] (76, [some (.ref 237), some (.int x1), some (.int x2), some (.int x3), some (.int x4), some (.int x5), some (.int x6), o7], [.int x1], σ) else (if x6 < (nI 8) then b_R C kX8_feed [] (76, [some (.ref 237), some (.int x1), some (.int x2), some (.int x3), some (.int x4), some (.int x5), some (.int x6), o7], [.int x2], σ) else (if x6 < (nI 12) then b_R C kX8_feed [] (76, [some (.ref 237), some (.int x1), some (.int x2), some (.int x3), some (.int x4), some (.int x5), some (.int x6), o7], [.int x3], σ) else (if x6 < (nI 16) then b_R C kX8_feed [] (76, [some (.ref 237), some (.int x1), some (.int x2), some (.int x3), some (.int x4), some (.int x5), some (.int x6), o7], [.int x4], σ) else b_R C kX8_feed [] (76, [some (.ref 237), some (.int x1), some (.int x2), some (.int x3), some (.int x4), some (.int x5), some (.int x6), o7], [.int x5], σ))))) else some (.inl (some (.int (a_I σ 237 20))), σ)) := by
  refine (e_iload (code := kX8_feed) (pc := 23) rfl rfl).trans ?_
  refine (e_bipush (code := kX8_feed) (pc := 25) rfl).trans ?_
  refine (e_icge (code := kX8_feed) (pc := 27) rfl).trans ?_
  refine b_ite ?_ ?_
  · refine (e_iload (code := kX8_feed) (pc := 30) rfl rfl).trans ?_
    refine (e_iconst (code := kX8_feed) (pc := 32) rfl).trans ?_
    refine (e_icge (code := kX8_feed) (pc := 33) rfl).trans ?_
    refine b_ite ?_ ?_
    · refine (e_iload_n (code := kX8_feed) (pc := 36) rfl rfl).trans ?_
      refine (e_goto (code := kX8_feed) (pc := 37) rfl).trans ?_
      rfl
    · refine (e_iload (code := kX8_feed) (pc := 40) rfl rfl).trans ?_
      refine (e_bipush (code := kX8_feed) (pc := 42) rfl).trans ?_
      refine (e_icge (code := kX8_feed) (pc := 44) rfl).trans ?_
      refine b_ite ?_ ?_
      · refine (e_iload_n (code := kX8_feed) (pc := 47) rfl rfl).trans ?_
        refine (e_goto (code := kX8_feed) (pc := 48) rfl).trans ?_
        rfl
      · refine (e_iload (code := kX8_feed) (pc := 51) rfl rfl).trans ?_
        refine (e_bipush (code := kX8_feed) (pc := 53) rfl).trans ?_
        refine (e_icge (code := kX8_feed) (pc := 55) rfl).trans ?_
        refine b_ite ?_ ?_
        · refine (e_iload_n (code := kX8_feed) (pc := 58) rfl rfl).trans ?_
          refine (e_goto (code := kX8_feed) (pc := 59) rfl).trans ?_
          rfl
        · refine (e_iload (code := kX8_feed) (pc := 62) rfl rfl).trans ?_
          refine (e_bipush (code := kX8_feed) (pc := 64) rfl).trans ?_
          refine (e_icge (code := kX8_feed) (pc := 66) rfl).trans ?_
          refine b_ite ?_ ?_
          · refine (e_iload (code := kX8_feed) (pc := 69) rfl rfl).trans ?_
            refine (e_goto (code := kX8_feed) (pc := 71) rfl).trans ?_
            rfl
          · refine (e_iload (code := kX8_feed) (pc := 74) rfl rfl).trans ?_
            rfl
  · refine (e_aload_n (code := kX8_feed) (pc := 120) rfl rfl).trans ?_
    refine (e_getI (code := kX8_feed) (pc := 121) (c := 10) rfl (sk_237 (σ := σ) h) rfl).trans ?_
    exact e_ireturn rfl
theorem b_X8_feed_76 {C : aCall} {σ : aSt} {x1 x2 x3 x4 x5 x6 y0 : Int32} {o7 : Option Value} (h : Sh σ) : b_R C kX8_feed [] (76, [some (.ref 237), some (.int x1), some (.int x2), some (.int x3), some (.int x4), some (.int x5), some (.int x6), o7], [.int y0], σ) = b_gd (a_in (a_I σ 237 20) 900) (b_R C kX8_feed [] (23, [some (.ref 237), some (.int x1), some (.int x2), some (.int x3), some (.int x4), some (.int x5), some (.int (x6 + nI 1)), some (.int y0)], [], (a_setI (a_setI σ 247 (Int32.toNatClampNeg (a_I σ 237 20)) ((y0 >>> (((nI 24) - ((nI 8) * (x6 - x6 / (nI 4) * (nI 4)))) &&& 31)) &&& (nI 255))) 237 20 ((a_I (a_setI σ 247 (Int32.toNatClampNeg (a_I σ 237 20)) ((y0 >>> (((nI 24) - ((nI 8) * (x6 - x6 / (nI 4) * (nI 4)))) &&& 31)) &&& (nI 255))) 237 20) + (nI 1))))) := by
  refine (e_istore (code := kX8_feed) (pc := 76) rfl rfl rfl).trans ?_
  refine (e_aload_n (code := kX8_feed) (pc := 78) rfl rfl).trans ?_
  refine (e_getR (code := kX8_feed) (pc := 79) (c := 10) rfl (sk_237 (σ := σ) h) (sr_237_19 (σ := σ) h)).trans ?_
  refine (e_aload_n (code := kX8_feed) (pc := 82) rfl rfl).trans ?_
  refine (e_getI (code := kX8_feed) (pc := 83) (c := 10) rfl (sk_237 (σ := σ) h) rfl).trans ?_
  refine (e_iload (code := kX8_feed) (pc := 86) rfl rfl).trans ?_
  refine (e_bipush (code := kX8_feed) (pc := 88) rfl).trans ?_
  refine (e_bipush (code := kX8_feed) (pc := 90) rfl).trans ?_
  refine (e_iload (code := kX8_feed) (pc := 92) rfl rfl).trans ?_
  refine (e_iconst (code := kX8_feed) (pc := 94) rfl).trans ?_
  refine (e_irem (code := kX8_feed) (pc := 95) rfl).trans ((b_gd_t (by decide)).trans ?_)
  refine (e_imul (code := kX8_feed) (pc := 96) rfl).trans ?_
  refine (e_isub (code := kX8_feed) (pc := 97) rfl).trans ?_
  refine (e_ishr (code := kX8_feed) (pc := 98) rfl).trans ?_
  refine (e_sipush (code := kX8_feed) (pc := 99) rfl).trans ?_
  refine (e_iand (code := kX8_feed) (pc := 102) rfl).trans ?_
  refine (e_iastore (code := kX8_feed) (pc := 103) rfl (sk_247 (σ := σ) h) (h_100 rfl) (sl_247 (σ := σ) h)).trans ?_
  refine b_gd_c ?_
  refine (e_aload_n (code := kX8_feed) (pc := 104) (σ := (a_setI σ 247 (Int32.toNatClampNeg (a_I σ 237 20)) ((y0 >>> (((nI 24) - ((nI 8) * (x6 - x6 / (nI 4) * (nI 4)))) &&& 31)) &&& (nI 255)))) rfl rfl).trans ?_
  refine (e_dup (code := kX8_feed) (pc := 105) (σ := (a_setI σ 247 (Int32.toNatClampNeg (a_I σ 237 20)) ((y0 >>> (((nI 24) - ((nI 8) * (x6 - x6 / (nI 4) * (nI 4)))) &&& 31)) &&& (nI 255)))) rfl rfl).trans ?_
  refine (e_getI (code := kX8_feed) (pc := 106) (σ := (a_setI σ 247 (Int32.toNatClampNeg (a_I σ 237 20)) ((y0 >>> (((nI 24) - ((nI 8) * (x6 - x6 / (nI 4) * (nI 4)))) &&& 31)) &&& (nI 255)))) (c := 10) rfl (sk_237 (σ := σ) h) rfl).trans ?_
  refine (e_iconst (code := kX8_feed) (pc := 109) (σ := (a_setI σ 247 (Int32.toNatClampNeg (a_I σ 237 20)) ((y0 >>> (((nI 24) - ((nI 8) * (x6 - x6 / (nI 4) * (nI 4)))) &&& 31)) &&& (nI 255)))) rfl).trans ?_
  refine (e_iadd (code := kX8_feed) (pc := 110) (σ := (a_setI σ 247 (Int32.toNatClampNeg (a_I σ 237 20)) ((y0 >>> (((nI 24) - ((nI 8) * (x6 - x6 / (nI 4) * (nI 4)))) &&& 31)) &&& (nI 255)))) rfl).trans ?_
  refine (e_putI (code := kX8_feed) (pc := 111) (σ := (a_setI σ 247 (Int32.toNatClampNeg (a_I σ 237 20)) ((y0 >>> (((nI 24) - ((nI 8) * (x6 - x6 / (nI 4) * (nI 4)))) &&& 31)) &&& (nI 255)))) (c := 10) rfl (sk_237 (σ := σ) h) (h_100 rfl)).trans ?_
  refine (e_iinc (code := kX8_feed) (pc := 114) (σ := (a_setI (a_setI σ 247 (Int32.toNatClampNeg (a_I σ 237 20)) ((y0 >>> (((nI 24) - ((nI 8) * (x6 - x6 / (nI 4) * (nI 4)))) &&& 31)) &&& (nI 255))) 237 20 ((a_I (a_setI σ 247 (Int32.toNatClampNeg (a_I σ 237 20)) ((y0 >>> (((nI 24) - ((nI 8) * (x6 - x6 / (nI 4) * (nI 4)))) &&& 31)) &&& (nI 255))) 237 20) + (nI 1)))) rfl rfl rfl rfl).trans ?_
  refine (e_goto (code := kX8_feed) (pc := 117) (σ := (a_setI (a_setI σ 247 (Int32.toNatClampNeg (a_I σ 237 20)) ((y0 >>> (((nI 24) - ((nI 8) * (x6 - x6 / (nI 4) * (nI 4)))) &&& 31)) &&& (nI 255))) 237 20 ((a_I (a_setI σ 247 (Int32.toNatClampNeg (a_I σ 237 20)) ((y0 >>> (((nI 24) - ((nI 8) * (x6 - x6 / (nI 4) * (nI 4)))) &&& 31)) &&& (nI 255))) 237 20) + (nI 1)))) rfl).trans ?_
  rfl
theorem n_X8_errorPosition {P : aCall} {d : Nat} {σ : aSt} (hd : 1 ≤ d) : a_call a_tab P d 225 [.ref 237] σ = b_R (a_call a_tab P (d - 1)) kX8_errorPosition [] (0, [some (.ref 237)], [], σ) := e_call hd at_X8_errorPosition rfl
theorem b_X8_errorPosition_0 {C : aCall} {σ : aSt} (h : Sh σ) : b_R C kX8_errorPosition [] (0, [some (.ref 237)], [], σ) = some (.inl (some (.int (a_I (a_setI σ 237 6 (nI 0)) 237 27))), (a_setI σ 237 6 (nI 0))) := by
  refine (e_aload_n (code := kX8_errorPosition) (pc := 0) rfl rfl).trans ?_
  refine (e_iconst (code := kX8_errorPosition) (pc := 1) rfl).trans ?_
  refine (e_putI (code := kX8_errorPosition) (pc := 2) (c := 10) rfl (sk_237 (σ := σ) h) (h_100 rfl)).trans ?_
  refine (e_aload_n (code := kX8_errorPosition) (pc := 5) (σ := (a_setI σ 237 6 (nI 0))) rfl rfl).trans ?_
  refine (e_getI (code := kX8_errorPosition) (pc := 6) (σ := (a_setI σ 237 6 (nI 0))) (c := 10) rfl (sk_237 (σ := σ) h) rfl).trans ?_
  exact e_ireturn rfl
theorem n_X8_byteAt {P : aCall} {d : Nat} {σ : aSt} {x1 : Int32} (hd : 1 ≤ d) : a_call a_tab P d 226 [.ref 237, .int x1] σ = b_R (a_call a_tab P (d - 1)) kX8_byteAt [] (0, [some (.ref 237), some (.int x1)], [], σ) := e_call hd at_X8_byteAt rfl
theorem b_X8_byteAt_0 {C : aCall} {σ : aSt} {x1 : Int32} (h : Sh σ) : b_R C kX8_byteAt [] (0, [some (.ref 237), some (.int x1)], [], σ) = (if x1 < (a_I σ 237 21) then b_gd (a_in x1 900) (b_R C kX8_byteAt [] (18, [some (.ref 237), some (.int x1)], [.int (a_I σ 247 (Int32.toNatClampNeg x1))], σ)) else b_R C kX8_byteAt [] (18, [some (.ref 237), some (.int x1)], [.int ((-1))], σ)) := by
  refine (e_iload_n (code := kX8_byteAt) (pc := 0) rfl rfl).trans ?_
  refine (e_aload_n (code := kX8_byteAt) (pc := 1) rfl rfl).trans ?_
  refine (e_getI (code := kX8_byteAt) (pc := 2) (c := 10) rfl (sk_237 (σ := σ) h) rfl).trans ?_
  refine (e_icge (code := kX8_byteAt) (pc := 5) rfl).trans ?_
  refine b_ite ?_ ?_
  · refine (e_aload_n (code := kX8_byteAt) (pc := 8) rfl rfl).trans ?_
    refine (e_getR (code := kX8_byteAt) (pc := 9) (c := 10) rfl (sk_237 (σ := σ) h) (sr_237_19 (σ := σ) h)).trans ?_
    refine (e_iload_n (code := kX8_byteAt) (pc := 12) rfl rfl).trans ?_
    refine (e_iaload (code := kX8_byteAt) (pc := 13) rfl (.inl (sk_247 (σ := σ) h)) (sl_247 (σ := σ) h)).trans ?_
    refine b_gd_c ?_
    refine (e_goto (code := kX8_byteAt) (pc := 14) rfl).trans ?_
    rfl
  · refine (e_iconst (code := kX8_byteAt) (pc := 17) rfl).trans ?_
    rfl
theorem b_X8_byteAt_18 {C : aCall} {σ : aSt} {x1 y0 : Int32} : b_R C kX8_byteAt [] (18, [some (.ref 237), some (.int x1)], [.int y0], σ) = some (.inl (some (.int y0)), σ) := by
  exact e_ireturn rfl
theorem n_X8_isLetter {P : aCall} {d : Nat} {σ : aSt} {x1 : Int32} (hd : 1 ≤ d) : a_call a_tab P d 227 [.ref 237, .int x1] σ = b_R (a_call a_tab P (d - 1)) kX8_isLetter [] (0, [some (.ref 237), some (.int x1)], [], σ) := e_call hd at_X8_isLetter rfl
theorem b_X8_isLetter_0 {C : aCall} {σ : aSt} {x1 : Int32} (h : Sh σ) : b_R C kX8_isLetter [] (0, [some (.ref 237), some (.int x1)], [], σ) = b_G C kX8_isLetter [] 2 5 [some (.ref 237), some (.int x1)] [] (C 226 [.ref 237, .int x1] σ) := by
  refine (e_aload_n (code := kX8_isLetter) (pc := 0) rfl rfl).trans ?_
  refine (e_iload_n (code := kX8_isLetter) (pc := 1) rfl rfl).trans ?_
  exact (e_callV (σ := σ) (code := kX8_isLetter) (pc := 2) (len := 3) (k := 226) (n := 2) (c := 20) (as := [.ref 237, .int x1]) (st0 := []) rfl rfl rfl rfl rfl (sk_237 (σ := σ) h) rfl)
theorem b_X8_isLetter_5 {C : aCall} {σ : aSt} {x1 y0 : Int32} (h : Sh σ) : b_R C kX8_isLetter [] (5, [some (.ref 237), some (.int x1)], [.int y0], σ) = (if y0 < (nI 97) then b_R C kX8_isLetter [] (24, [some (.ref 237), some (.int x1)], [], σ) else b_G C kX8_isLetter [] 12 15 [some (.ref 237), some (.int x1)] [] (C 226 [.ref 237, .int x1] σ)) := by
  refine (e_bipush (code := kX8_isLetter) (pc := 5) rfl).trans ?_
  refine (e_iclt (code := kX8_isLetter) (pc := 7) rfl).trans ?_
  refine b_ite ?_ ?_
  · rfl
  · refine (e_aload_n (code := kX8_isLetter) (pc := 10) rfl rfl).trans ?_
    refine (e_iload_n (code := kX8_isLetter) (pc := 11) rfl rfl).trans ?_
    exact (e_callV (σ := σ) (code := kX8_isLetter) (pc := 12) (len := 3) (k := 226) (n := 2) (c := 20) (as := [.ref 237, .int x1]) (st0 := []) rfl rfl rfl rfl rfl (sk_237 (σ := σ) h) rfl)
theorem b_X8_isLetter_15 {C : aCall} {σ : aSt} {x1 y0 : Int32} : b_R C kX8_isLetter [] (15, [some (.ref 237), some (.int x1)], [.int y0], σ) = (if (nI 122) < y0 then b_R C kX8_isLetter [] (24, [some (.ref 237), some (.int x1)], [], σ) else b_R C kX8_isLetter [] (25, [some (.ref 237), some (.int x1)], [.int (nI 1)], σ)) := by
  refine (e_bipush (code := kX8_isLetter) (pc := 15) rfl).trans ?_
  refine (e_icgt (code := kX8_isLetter) (pc := 17) rfl).trans ?_
  refine b_ite ?_ ?_
  · rfl
  · refine (e_iconst (code := kX8_isLetter) (pc := 20) rfl).trans ?_
    refine (e_goto (code := kX8_isLetter) (pc := 21) rfl).trans ?_
    rfl
theorem b_X8_isLetter_24 {C : aCall} {σ : aSt} {x1 : Int32} : b_R C kX8_isLetter [] (24, [some (.ref 237), some (.int x1)], [], σ) = b_R C kX8_isLetter [] (25, [some (.ref 237), some (.int x1)], [.int (nI 0)], σ) := by
  refine (e_iconst (code := kX8_isLetter) (pc := 24) rfl).trans ?_
  rfl
theorem b_X8_isLetter_25 {C : aCall} {σ : aSt} {x1 y0 : Int32} : b_R C kX8_isLetter [] (25, [some (.ref 237), some (.int x1)], [.int y0], σ) = b_gd (y0 = 0 ∨ y0 = 1) (some (.inl (some (.int y0)), σ)) := by
  exact e_zreturn rfl
theorem n_X8_isDigit {P : aCall} {d : Nat} {σ : aSt} {x1 : Int32} (hd : 1 ≤ d) : a_call a_tab P d 228 [.ref 237, .int x1] σ = b_R (a_call a_tab P (d - 1)) kX8_isDigit [] (0, [some (.ref 237), some (.int x1)], [], σ) := e_call hd at_X8_isDigit rfl
theorem b_X8_isDigit_0 {C : aCall} {σ : aSt} {x1 : Int32} (h : Sh σ) : b_R C kX8_isDigit [] (0, [some (.ref 237), some (.int x1)], [], σ) = b_G C kX8_isDigit [] 2 5 [some (.ref 237), some (.int x1)] [] (C 226 [.ref 237, .int x1] σ) := by
  refine (e_aload_n (code := kX8_isDigit) (pc := 0) rfl rfl).trans ?_
  refine (e_iload_n (code := kX8_isDigit) (pc := 1) rfl rfl).trans ?_
  exact (e_callV (σ := σ) (code := kX8_isDigit) (pc := 2) (len := 3) (k := 226) (n := 2) (c := 20) (as := [.ref 237, .int x1]) (st0 := []) rfl rfl rfl rfl rfl (sk_237 (σ := σ) h) rfl)
theorem b_X8_isDigit_5 {C : aCall} {σ : aSt} {x1 y0 : Int32} (h : Sh σ) : b_R C kX8_isDigit [] (5, [some (.ref 237), some (.int x1)], [.int y0], σ) = (if y0 < (nI 48) then b_R C kX8_isDigit [] (24, [some (.ref 237), some (.int x1)], [], σ) else b_G C kX8_isDigit [] 12 15 [some (.ref 237), some (.int x1)] [] (C 226 [.ref 237, .int x1] σ)) := by
  refine (e_bipush (code := kX8_isDigit) (pc := 5) rfl).trans ?_
  refine (e_iclt (code := kX8_isDigit) (pc := 7) rfl).trans ?_
  refine b_ite ?_ ?_
  · rfl
  · refine (e_aload_n (code := kX8_isDigit) (pc := 10) rfl rfl).trans ?_
    refine (e_iload_n (code := kX8_isDigit) (pc := 11) rfl rfl).trans ?_
    exact (e_callV (σ := σ) (code := kX8_isDigit) (pc := 12) (len := 3) (k := 226) (n := 2) (c := 20) (as := [.ref 237, .int x1]) (st0 := []) rfl rfl rfl rfl rfl (sk_237 (σ := σ) h) rfl)
theorem b_X8_isDigit_15 {C : aCall} {σ : aSt} {x1 y0 : Int32} : b_R C kX8_isDigit [] (15, [some (.ref 237), some (.int x1)], [.int y0], σ) = (if (nI 57) < y0 then b_R C kX8_isDigit [] (24, [some (.ref 237), some (.int x1)], [], σ) else b_R C kX8_isDigit [] (25, [some (.ref 237), some (.int x1)], [.int (nI 1)], σ)) := by
  refine (e_bipush (code := kX8_isDigit) (pc := 15) rfl).trans ?_
  refine (e_icgt (code := kX8_isDigit) (pc := 17) rfl).trans ?_
  refine b_ite ?_ ?_
  · rfl
  · refine (e_iconst (code := kX8_isDigit) (pc := 20) rfl).trans ?_
    refine (e_goto (code := kX8_isDigit) (pc := 21) rfl).trans ?_
    rfl
theorem b_X8_isDigit_24 {C : aCall} {σ : aSt} {x1 : Int32} : b_R C kX8_isDigit [] (24, [some (.ref 237), some (.int x1)], [], σ) = b_R C kX8_isDigit [] (25, [some (.ref 237), some (.int x1)], [.int (nI 0)], σ) := by
  refine (e_iconst (code := kX8_isDigit) (pc := 24) rfl).trans ?_
  rfl
theorem b_X8_isDigit_25 {C : aCall} {σ : aSt} {x1 y0 : Int32} : b_R C kX8_isDigit [] (25, [some (.ref 237), some (.int x1)], [.int y0], σ) = b_gd (y0 = 0 ∨ y0 = 1) (some (.inl (some (.int y0)), σ)) := by
  exact e_zreturn rfl
theorem n_X8_scan {P : aCall} {d : Nat} {σ : aSt} (hd : 1 ≤ d) : a_call a_tab P d 229 [.ref 237] σ = b_R (a_call a_tab P (d - 1)) kX8_scan [] (0, [some (.ref 237)], [], σ) := e_call hd at_X8_scan rfl
theorem b_X8_scan_0 {C : aCall} {σ : aSt} (h : Sh σ) : b_R C kX8_scan [] (0, [some (.ref 237)], [], σ) = b_G C kX8_scan [] 5 8 [some (.ref 237)] [] (C 226 [.ref 237, .int (a_I σ 237 22)] σ) := by
  refine (e_aload_n (code := kX8_scan) (pc := 0) rfl rfl).trans ?_
  refine (e_aload_n (code := kX8_scan) (pc := 1) rfl rfl).trans ?_
  refine (e_getI (code := kX8_scan) (pc := 2) (c := 10) rfl (sk_237 (σ := σ) h) rfl).trans ?_
  exact (e_callV (σ := σ) (code := kX8_scan) (pc := 5) (len := 3) (k := 226) (n := 2) (c := 20) (as := [.ref 237, .int (a_I σ 237 22)]) (st0 := []) rfl rfl rfl rfl rfl (sk_237 (σ := σ) h) rfl)
theorem b_X8_scan_8 {C : aCall} {σ : aSt} {y0 : Int32} (h : Sh σ) : b_R C kX8_scan [] (8, [some (.ref 237)], [.int y0], σ) = (if y0 = (nI 32) then b_R C kX8_scan [] (26, [some (.ref 237)], [], σ) else b_G C kX8_scan [] 18 21 [some (.ref 237)] [] (C 226 [.ref 237, .int (a_I σ 237 22)] σ)) := by
  refine (e_bipush (code := kX8_scan) (pc := 8) rfl).trans ?_
  refine (e_iceq (code := kX8_scan) (pc := 10) rfl).trans ?_
  refine b_ite ?_ ?_
  · rfl
  · refine (e_aload_n (code := kX8_scan) (pc := 13) rfl rfl).trans ?_
    refine (e_aload_n (code := kX8_scan) (pc := 14) rfl rfl).trans ?_
    refine (e_getI (code := kX8_scan) (pc := 15) (c := 10) rfl (sk_237 (σ := σ) h) rfl).trans ?_
    exact (e_callV (σ := σ) (code := kX8_scan) (pc := 18) (len := 3) (k := 226) (n := 2) (c := 20) (as := [.ref 237, .int (a_I σ 237 22)]) (st0 := []) rfl rfl rfl rfl rfl (sk_237 (σ := σ) h) rfl)
theorem b_X8_scan_21 {C : aCall} {σ : aSt} {y0 : Int32} (h : Sh σ) : b_R C kX8_scan [] (21, [some (.ref 237)], [.int y0], σ) = (if y0 = (nI 10) then b_R C kX8_scan [] (26, [some (.ref 237)], [], σ) else (if (a_I (a_setI σ 237 23 (a_I σ 237 22)) 237 22) < (a_I (a_setI σ 237 23 (a_I σ 237 22)) 237 21) then b_G C kX8_scan [] 71 74 [some (.ref 237)] [] (C 227 [.ref 237, .int (a_I (a_setI σ 237 23 (a_I σ 237 22)) 237 22)] (a_setI σ 237 23 (a_I σ 237 22))) else b_R C kX8_scan [] (167, [some (.ref 237)], [], (a_setI (a_setI σ 237 23 (a_I σ 237 22)) 237 24 (nI 0))))) := by
  refine (e_bipush (code := kX8_scan) (pc := 21) rfl).trans ?_
  refine (e_icne (code := kX8_scan) (pc := 23) rfl).trans ?_
  refine b_ite ?_ ?_
  · rfl
  · refine (e_aload_n (code := kX8_scan) (pc := 39) rfl rfl).trans ?_
    refine (e_aload_n (code := kX8_scan) (pc := 40) rfl rfl).trans ?_
    refine (e_getI (code := kX8_scan) (pc := 41) (c := 10) rfl (sk_237 (σ := σ) h) rfl).trans ?_
    refine (e_putI (code := kX8_scan) (pc := 44) (c := 10) rfl (sk_237 (σ := σ) h) (h_100 rfl)).trans ?_
    refine (e_aload_n (code := kX8_scan) (pc := 47) (σ := (a_setI σ 237 23 (a_I σ 237 22))) rfl rfl).trans ?_
    refine (e_getI (code := kX8_scan) (pc := 48) (σ := (a_setI σ 237 23 (a_I σ 237 22))) (c := 10) rfl (sk_237 (σ := σ) h) rfl).trans ?_
    refine (e_aload_n (code := kX8_scan) (pc := 51) (σ := (a_setI σ 237 23 (a_I σ 237 22))) rfl rfl).trans ?_
    refine (e_getI (code := kX8_scan) (pc := 52) (σ := (a_setI σ 237 23 (a_I σ 237 22))) (c := 10) rfl (sk_237 (σ := σ) h) rfl).trans ?_
    refine (e_iclt (code := kX8_scan) (pc := 55) (σ := (a_setI σ 237 23 (a_I σ 237 22))) rfl).trans ?_
    refine b_ite ?_ ?_
    · refine (e_aload_n (code := kX8_scan) (pc := 66) (σ := (a_setI σ 237 23 (a_I σ 237 22))) rfl rfl).trans ?_
      refine (e_aload_n (code := kX8_scan) (pc := 67) (σ := (a_setI σ 237 23 (a_I σ 237 22))) rfl rfl).trans ?_
      refine (e_getI (code := kX8_scan) (pc := 68) (σ := (a_setI σ 237 23 (a_I σ 237 22))) (c := 10) rfl (sk_237 (σ := σ) h) rfl).trans ?_
      exact (e_callV (σ := (a_setI σ 237 23 (a_I σ 237 22))) (code := kX8_scan) (pc := 71) (len := 3) (k := 227) (n := 2) (c := 20) (as := [.ref 237, .int (a_I (a_setI σ 237 23 (a_I σ 237 22)) 237 22)]) (st0 := []) rfl rfl rfl rfl rfl (sk_237 (σ := σ) h) rfl)
    · refine (e_aload_n (code := kX8_scan) (pc := 58) (σ := (a_setI σ 237 23 (a_I σ 237 22))) rfl rfl).trans ?_
      refine (e_iconst (code := kX8_scan) (pc := 59) (σ := (a_setI σ 237 23 (a_I σ 237 22))) rfl).trans ?_
      refine (e_putI (code := kX8_scan) (pc := 60) (σ := (a_setI σ 237 23 (a_I σ 237 22))) (c := 10) rfl (sk_237 (σ := σ) h) (h_100 rfl)).trans ?_
      refine (e_goto (code := kX8_scan) (pc := 63) (σ := (a_setI (a_setI σ 237 23 (a_I σ 237 22)) 237 24 (nI 0))) rfl).trans ?_
      rfl
theorem b_X8_scan_26 {C : aCall} {σ : aSt} (h : Sh σ) : b_R C kX8_scan [] (26, [some (.ref 237)], [], σ) = b_R C kX8_scan [] (0, [some (.ref 237)], [], (a_setI σ 237 22 ((a_I σ 237 22) + (nI 1)))) := by
  refine (e_aload_n (code := kX8_scan) (pc := 26) rfl rfl).trans ?_
  refine (e_dup (code := kX8_scan) (pc := 27) rfl rfl).trans ?_
  refine (e_getI (code := kX8_scan) (pc := 28) (c := 10) rfl (sk_237 (σ := σ) h) rfl).trans ?_
  refine (e_iconst (code := kX8_scan) (pc := 31) rfl).trans ?_
  refine (e_iadd (code := kX8_scan) (pc := 32) rfl).trans ?_
  refine (e_putI (code := kX8_scan) (pc := 33) (c := 10) rfl (sk_237 (σ := σ) h) (h_100 rfl)).trans ?_
  refine (e_goto (code := kX8_scan) (pc := 36) (σ := (a_setI σ 237 22 ((a_I σ 237 22) + (nI 1)))) rfl).trans ?_
  rfl
theorem b_X8_scan_74 {C : aCall} {σ : aSt} {y0 : Int32} (h : Sh σ) : b_R C kX8_scan [] (74, [some (.ref 237)], [.int y0], σ) = (if y0 = 0 then b_G C kX8_scan [] 114 117 [some (.ref 237)] [] (C 228 [.ref 237, .int (a_I σ 237 22)] σ) else b_R C kX8_scan [] (77, [some (.ref 237)], [], σ)) := by
  refine (e_ifeq (code := kX8_scan) (pc := 74) rfl).trans ?_
  refine b_ite ?_ ?_
  · refine (e_aload_n (code := kX8_scan) (pc := 109) rfl rfl).trans ?_
    refine (e_aload_n (code := kX8_scan) (pc := 110) rfl rfl).trans ?_
    refine (e_getI (code := kX8_scan) (pc := 111) (c := 10) rfl (sk_237 (σ := σ) h) rfl).trans ?_
    exact (e_callV (σ := σ) (code := kX8_scan) (pc := 114) (len := 3) (k := 228) (n := 2) (c := 20) (as := [.ref 237, .int (a_I σ 237 22)]) (st0 := []) rfl rfl rfl rfl rfl (sk_237 (σ := σ) h) rfl)
  · rfl
theorem b_X8_scan_77 {C : aCall} {σ : aSt} (h : Sh σ) : b_R C kX8_scan [] (77, [some (.ref 237)], [], σ) = b_G C kX8_scan [] 82 85 [some (.ref 237)] [] (C 227 [.ref 237, .int (a_I σ 237 22)] σ) := by
  refine (e_aload_n (code := kX8_scan) (pc := 77) rfl rfl).trans ?_
  refine (e_aload_n (code := kX8_scan) (pc := 78) rfl rfl).trans ?_
  refine (e_getI (code := kX8_scan) (pc := 79) (c := 10) rfl (sk_237 (σ := σ) h) rfl).trans ?_
  exact (e_callV (σ := σ) (code := kX8_scan) (pc := 82) (len := 3) (k := 227) (n := 2) (c := 20) (as := [.ref 237, .int (a_I σ 237 22)]) (st0 := []) rfl rfl rfl rfl rfl (sk_237 (σ := σ) h) rfl)
theorem b_X8_scan_85 {C : aCall} {σ : aSt} {y0 : Int32} (h : Sh σ) : b_R C kX8_scan [] (85, [some (.ref 237)], [.int y0], σ) = (if y0 = 0 then b_R C kX8_scan [] (167, [some (.ref 237)], [], (a_setI σ 237 24 (nI 1))) else b_R C kX8_scan [] (77, [some (.ref 237)], [], (a_setI σ 237 22 ((a_I σ 237 22) + (nI 1))))) := by
  refine (e_ifeq (code := kX8_scan) (pc := 85) rfl).trans ?_
  refine b_ite ?_ ?_
  · refine (e_aload_n (code := kX8_scan) (pc := 101) rfl rfl).trans ?_
    refine (e_iconst (code := kX8_scan) (pc := 102) rfl).trans ?_
    refine (e_putI (code := kX8_scan) (pc := 103) (c := 10) rfl (sk_237 (σ := σ) h) (h_100 rfl)).trans ?_
    refine (e_goto (code := kX8_scan) (pc := 106) (σ := (a_setI σ 237 24 (nI 1))) rfl).trans ?_
    rfl
  · refine (e_aload_n (code := kX8_scan) (pc := 88) rfl rfl).trans ?_
    refine (e_dup (code := kX8_scan) (pc := 89) rfl rfl).trans ?_
    refine (e_getI (code := kX8_scan) (pc := 90) (c := 10) rfl (sk_237 (σ := σ) h) rfl).trans ?_
    refine (e_iconst (code := kX8_scan) (pc := 93) rfl).trans ?_
    refine (e_iadd (code := kX8_scan) (pc := 94) rfl).trans ?_
    refine (e_putI (code := kX8_scan) (pc := 95) (c := 10) rfl (sk_237 (σ := σ) h) (h_100 rfl)).trans ?_
    refine (e_goto (code := kX8_scan) (pc := 98) (σ := (a_setI σ 237 22 ((a_I σ 237 22) + (nI 1)))) rfl).trans ?_
    rfl
theorem b_X8_scan_117 {C : aCall} {σ : aSt} {y0 : Int32} (h : Sh σ) : b_R C kX8_scan [] (117, [some (.ref 237)], [.int y0], σ) = (if y0 = 0 then b_R C kX8_scan [] (167, [some (.ref 237)], [], (a_setI (a_setI σ 237 22 ((a_I σ 237 22) + (nI 1))) 237 24 (nI 3))) else b_R C kX8_scan [] (120, [some (.ref 237)], [], σ)) := by
  refine (e_ifeq (code := kX8_scan) (pc := 117) rfl).trans ?_
  refine b_ite ?_ ?_
  · refine (e_aload_n (code := kX8_scan) (pc := 152) rfl rfl).trans ?_
    refine (e_dup (code := kX8_scan) (pc := 153) rfl rfl).trans ?_
    refine (e_getI (code := kX8_scan) (pc := 154) (c := 10) rfl (sk_237 (σ := σ) h) rfl).trans ?_
    refine (e_iconst (code := kX8_scan) (pc := 157) rfl).trans ?_
    refine (e_iadd (code := kX8_scan) (pc := 158) rfl).trans ?_
    refine (e_putI (code := kX8_scan) (pc := 159) (c := 10) rfl (sk_237 (σ := σ) h) (h_100 rfl)).trans ?_
    refine (e_aload_n (code := kX8_scan) (pc := 162) (σ := (a_setI σ 237 22 ((a_I σ 237 22) + (nI 1)))) rfl rfl).trans ?_
    refine (e_iconst (code := kX8_scan) (pc := 163) (σ := (a_setI σ 237 22 ((a_I σ 237 22) + (nI 1)))) rfl).trans ?_
    refine (e_putI (code := kX8_scan) (pc := 164) (σ := (a_setI σ 237 22 ((a_I σ 237 22) + (nI 1)))) (c := 10) rfl (sk_237 (σ := σ) h) (h_100 rfl)).trans ?_
    rfl
  · rfl
theorem b_X8_scan_120 {C : aCall} {σ : aSt} (h : Sh σ) : b_R C kX8_scan [] (120, [some (.ref 237)], [], σ) = b_G C kX8_scan [] 125 128 [some (.ref 237)] [] (C 228 [.ref 237, .int (a_I σ 237 22)] σ) := by
  refine (e_aload_n (code := kX8_scan) (pc := 120) rfl rfl).trans ?_
  refine (e_aload_n (code := kX8_scan) (pc := 121) rfl rfl).trans ?_
  refine (e_getI (code := kX8_scan) (pc := 122) (c := 10) rfl (sk_237 (σ := σ) h) rfl).trans ?_
  exact (e_callV (σ := σ) (code := kX8_scan) (pc := 125) (len := 3) (k := 228) (n := 2) (c := 20) (as := [.ref 237, .int (a_I σ 237 22)]) (st0 := []) rfl rfl rfl rfl rfl (sk_237 (σ := σ) h) rfl)
theorem b_X8_scan_128 {C : aCall} {σ : aSt} {y0 : Int32} (h : Sh σ) : b_R C kX8_scan [] (128, [some (.ref 237)], [.int y0], σ) = (if y0 = 0 then b_R C kX8_scan [] (167, [some (.ref 237)], [], (a_setI σ 237 24 (nI 2))) else b_R C kX8_scan [] (120, [some (.ref 237)], [], (a_setI σ 237 22 ((a_I σ 237 22) + (nI 1))))) := by
  refine (e_ifeq (code := kX8_scan) (pc := 128) rfl).trans ?_
  refine b_ite ?_ ?_
  · refine (e_aload_n (code := kX8_scan) (pc := 144) rfl rfl).trans ?_
    refine (e_iconst (code := kX8_scan) (pc := 145) rfl).trans ?_
    refine (e_putI (code := kX8_scan) (pc := 146) (c := 10) rfl (sk_237 (σ := σ) h) (h_100 rfl)).trans ?_
    refine (e_goto (code := kX8_scan) (pc := 149) (σ := (a_setI σ 237 24 (nI 2))) rfl).trans ?_
    rfl
  · refine (e_aload_n (code := kX8_scan) (pc := 131) rfl rfl).trans ?_
    refine (e_dup (code := kX8_scan) (pc := 132) rfl rfl).trans ?_
    refine (e_getI (code := kX8_scan) (pc := 133) (c := 10) rfl (sk_237 (σ := σ) h) rfl).trans ?_
    refine (e_iconst (code := kX8_scan) (pc := 136) rfl).trans ?_
    refine (e_iadd (code := kX8_scan) (pc := 137) rfl).trans ?_
    refine (e_putI (code := kX8_scan) (pc := 138) (c := 10) rfl (sk_237 (σ := σ) h) (h_100 rfl)).trans ?_
    refine (e_goto (code := kX8_scan) (pc := 141) (σ := (a_setI σ 237 22 ((a_I σ 237 22) + (nI 1)))) rfl).trans ?_
    rfl
theorem b_X8_scan_167 {C : aCall} {σ : aSt} : b_R C kX8_scan [] (167, [some (.ref 237)], [], σ) = some (.inl none, σ) := by
  exact e_return_ rfl
theorem n_X8_startText {P : aCall} {d : Nat} {σ : aSt} {x1 : Int32} (hd : 1 ≤ d) : a_call a_tab P d 230 [.ref 237, .int x1] σ = b_R (a_call a_tab P (d - 1)) kX8_startText [] (0, [some (.ref 237), some (.int x1)], [], σ) := e_call hd at_X8_startText rfl
theorem b_X8_startText_0 {C : aCall} {σ : aSt} {x1 : Int32} (h : Sh σ) : b_R C kX8_startText [] (0, [some (.ref 237), some (.int x1)], [], σ) = b_G C kX8_startText [] 21 24 [some (.ref 237), some (.int x1)] [] (C 229 [.ref 237] (a_setI (a_setI (a_setI (a_setI σ 237 21 x1) 237 22 (nI 0)) 237 25 (nI 0)) 237 28 (nI 0))) := by
  refine (e_aload_n (code := kX8_startText) (pc := 0) rfl rfl).trans ?_
  refine (e_iload_n (code := kX8_startText) (pc := 1) rfl rfl).trans ?_
  refine (e_putI (code := kX8_startText) (pc := 2) (c := 10) rfl (sk_237 (σ := σ) h) (h_100 rfl)).trans ?_
  refine (e_aload_n (code := kX8_startText) (pc := 5) (σ := (a_setI σ 237 21 x1)) rfl rfl).trans ?_
  refine (e_iconst (code := kX8_startText) (pc := 6) (σ := (a_setI σ 237 21 x1)) rfl).trans ?_
  refine (e_putI (code := kX8_startText) (pc := 7) (σ := (a_setI σ 237 21 x1)) (c := 10) rfl (sk_237 (σ := σ) h) (h_100 rfl)).trans ?_
  refine (e_aload_n (code := kX8_startText) (pc := 10) (σ := (a_setI (a_setI σ 237 21 x1) 237 22 (nI 0))) rfl rfl).trans ?_
  refine (e_iconst (code := kX8_startText) (pc := 11) (σ := (a_setI (a_setI σ 237 21 x1) 237 22 (nI 0))) rfl).trans ?_
  refine (e_putI (code := kX8_startText) (pc := 12) (σ := (a_setI (a_setI σ 237 21 x1) 237 22 (nI 0))) (c := 10) rfl (sk_237 (σ := σ) h) (h_100 rfl)).trans ?_
  refine (e_aload_n (code := kX8_startText) (pc := 15) (σ := (a_setI (a_setI (a_setI σ 237 21 x1) 237 22 (nI 0)) 237 25 (nI 0))) rfl rfl).trans ?_
  refine (e_iconst (code := kX8_startText) (pc := 16) (σ := (a_setI (a_setI (a_setI σ 237 21 x1) 237 22 (nI 0)) 237 25 (nI 0))) rfl).trans ?_
  refine (e_putI (code := kX8_startText) (pc := 17) (σ := (a_setI (a_setI (a_setI σ 237 21 x1) 237 22 (nI 0)) 237 25 (nI 0))) (c := 10) rfl (sk_237 (σ := σ) h) (h_100 rfl)).trans ?_
  refine (e_aload_n (code := kX8_startText) (pc := 20) (σ := (a_setI (a_setI (a_setI (a_setI σ 237 21 x1) 237 22 (nI 0)) 237 25 (nI 0)) 237 28 (nI 0))) rfl rfl).trans ?_
  exact (e_callV (σ := (a_setI (a_setI (a_setI (a_setI σ 237 21 x1) 237 22 (nI 0)) 237 25 (nI 0)) 237 28 (nI 0))) (code := kX8_startText) (pc := 21) (len := 3) (k := 229) (n := 1) (c := 20) (as := [.ref 237]) (st0 := []) rfl rfl rfl rfl rfl (sk_237 (σ := σ) h) rfl)
theorem b_X8_startText_24 {C : aCall} {σ : aSt} {x1 : Int32} : b_R C kX8_startText [] (24, [some (.ref 237), some (.int x1)], [], σ) = some (.inl none, σ) := by
  exact e_return_ rfl
theorem n_X8_finish {P : aCall} {d : Nat} {σ : aSt} (hd : 1 ≤ d) : a_call a_tab P d 231 [.ref 237] σ = b_R (a_call a_tab P (d - 1)) kX8_finish [] (0, [some (.ref 237)], [], σ) := e_call hd at_X8_finish rfl
theorem b_X8_finish_0 {C : aCall} {σ : aSt} (h : Sh σ) : b_R C kX8_finish [] (0, [some (.ref 237)], [], σ) = (if (a_I (a_setI σ 237 20 (nI 0)) 237 25) = 0 then b_R C kX8_finish [] (21, [some (.ref 237)], [.int ((-1)), .ref 237], (a_setI σ 237 20 (nI 0))) else b_R C kX8_finish [] (21, [some (.ref 237)], [.int (a_I (a_setI σ 237 20 (nI 0)) 237 26), .ref 237], (a_setI σ 237 20 (nI 0)))) := by
  refine (e_aload_n (code := kX8_finish) (pc := 0) rfl rfl).trans ?_
  refine (e_iconst (code := kX8_finish) (pc := 1) rfl).trans ?_
  refine (e_putI (code := kX8_finish) (pc := 2) (c := 10) rfl (sk_237 (σ := σ) h) (h_100 rfl)).trans ?_
  refine (e_aload_n (code := kX8_finish) (pc := 5) (σ := (a_setI σ 237 20 (nI 0))) rfl rfl).trans ?_
  refine (e_aload_n (code := kX8_finish) (pc := 6) (σ := (a_setI σ 237 20 (nI 0))) rfl rfl).trans ?_
  refine (e_getI (code := kX8_finish) (pc := 7) (σ := (a_setI σ 237 20 (nI 0))) (c := 10) rfl (sk_237 (σ := σ) h) rfl).trans ?_
  refine (e_ifne (code := kX8_finish) (pc := 10) (σ := (a_setI σ 237 20 (nI 0))) rfl).trans ?_
  refine b_ite ?_ ?_
  · refine (e_iconst (code := kX8_finish) (pc := 13) (σ := (a_setI σ 237 20 (nI 0))) rfl).trans ?_
    refine (e_goto (code := kX8_finish) (pc := 14) (σ := (a_setI σ 237 20 (nI 0))) rfl).trans ?_
    rfl
  · refine (e_aload_n (code := kX8_finish) (pc := 17) (σ := (a_setI σ 237 20 (nI 0))) rfl rfl).trans ?_
    refine (e_getI (code := kX8_finish) (pc := 18) (σ := (a_setI σ 237 20 (nI 0))) (c := 10) rfl (sk_237 (σ := σ) h) rfl).trans ?_
    rfl
theorem b_X8_finish_21 {C : aCall} {σ : aSt} {y0 : Int32} (h : Sh σ) : b_R C kX8_finish [] (21, [some (.ref 237)], [.int y0, .ref 237], σ) = some (.inl (some (.int (a_I (a_setI σ 237 27 y0) 237 25))), (a_setI σ 237 27 y0)) := by
  refine (e_putI (code := kX8_finish) (pc := 21) (c := 10) rfl (sk_237 (σ := σ) h) (h_100 rfl)).trans ?_
  refine (e_aload_n (code := kX8_finish) (pc := 24) (σ := (a_setI σ 237 27 y0)) rfl rfl).trans ?_
  refine (e_getI (code := kX8_finish) (pc := 25) (σ := (a_setI σ 237 27 y0)) (c := 10) rfl (sk_237 (σ := σ) h) rfl).trans ?_
  exact e_ireturn rfl
theorem n_X8_flaw {P : aCall} {d : Nat} {σ : aSt} {x1 : Int32} (hd : 1 ≤ d) : a_call a_tab P d 232 [.ref 237, .int x1] σ = b_R (a_call a_tab P (d - 1)) kX8_flaw [] (0, [some (.ref 237), some (.int x1)], [], σ) := e_call hd at_X8_flaw rfl
theorem b_X8_flaw_0 {C : aCall} {σ : aSt} {x1 : Int32} (h : Sh σ) : b_R C kX8_flaw [] (0, [some (.ref 237), some (.int x1)], [], σ) = (if (a_I σ 237 25) = 0 then b_R C kX8_flaw [] (20, [some (.ref 237), some (.int x1)], [], (a_setI (a_setI σ 237 25 x1) 237 26 (a_I (a_setI σ 237 25 x1) 237 23))) else b_R C kX8_flaw [] (20, [some (.ref 237), some (.int x1)], [], σ)) := by
  refine (e_aload_n (code := kX8_flaw) (pc := 0) rfl rfl).trans ?_
  refine (e_getI (code := kX8_flaw) (pc := 1) (c := 10) rfl (sk_237 (σ := σ) h) rfl).trans ?_
  refine (e_ifne (code := kX8_flaw) (pc := 4) rfl).trans ?_
  refine b_ite ?_ ?_
  · refine (e_aload_n (code := kX8_flaw) (pc := 7) rfl rfl).trans ?_
    refine (e_iload_n (code := kX8_flaw) (pc := 8) rfl rfl).trans ?_
    refine (e_putI (code := kX8_flaw) (pc := 9) (c := 10) rfl (sk_237 (σ := σ) h) (h_100 rfl)).trans ?_
    refine (e_aload_n (code := kX8_flaw) (pc := 12) (σ := (a_setI σ 237 25 x1)) rfl rfl).trans ?_
    refine (e_aload_n (code := kX8_flaw) (pc := 13) (σ := (a_setI σ 237 25 x1)) rfl rfl).trans ?_
    refine (e_getI (code := kX8_flaw) (pc := 14) (σ := (a_setI σ 237 25 x1)) (c := 10) rfl (sk_237 (σ := σ) h) rfl).trans ?_
    refine (e_putI (code := kX8_flaw) (pc := 17) (σ := (a_setI σ 237 25 x1)) (c := 10) rfl (sk_237 (σ := σ) h) (h_100 rfl)).trans ?_
    rfl
  · rfl
theorem b_X8_flaw_20 {C : aCall} {σ : aSt} {x1 : Int32} : b_R C kX8_flaw [] (20, [some (.ref 237), some (.int x1)], [], σ) = some (.inl none, σ) := by
  exact e_return_ rfl
theorem n_X8_check {P : aCall} {d : Nat} {σ : aSt} {x1 x2 : Int32} (hd : 1 ≤ d) : a_call a_tab P d 233 [.ref 237, .int x1, .int x2] σ = b_R (a_call a_tab P (d - 1)) kX8_check [] (0, [some (.ref 237), some (.int x1), some (.int x2)], [], σ) := e_call hd at_X8_check rfl
theorem b_X8_check_0 {C : aCall} {σ : aSt} {x1 x2 : Int32} (h : Sh σ) : b_R C kX8_check [] (0, [some (.ref 237), some (.int x1), some (.int x2)], [], σ) = (if x1 = 0 then b_G C kX8_check [] 6 9 [some (.ref 237), some (.int x1), some (.int x2)] [] (C 232 [.ref 237, .int x2] σ) else b_R C kX8_check [] (9, [some (.ref 237), some (.int x1), some (.int x2)], [], σ)) := by
  refine (e_iload_n (code := kX8_check) (pc := 0) rfl rfl).trans ?_
  refine (e_ifne (code := kX8_check) (pc := 1) rfl).trans ?_
  refine b_ite ?_ ?_
  · refine (e_aload_n (code := kX8_check) (pc := 4) rfl rfl).trans ?_
    refine (e_iload_n (code := kX8_check) (pc := 5) rfl rfl).trans ?_
    exact (e_callV (σ := σ) (code := kX8_check) (pc := 6) (len := 3) (k := 232) (n := 2) (c := 20) (as := [.ref 237, .int x2]) (st0 := []) rfl rfl rfl rfl rfl (sk_237 (σ := σ) h) rfl)
  · rfl
theorem b_X8_check_9 {C : aCall} {σ : aSt} {x1 x2 : Int32} : b_R C kX8_check [] (9, [some (.ref 237), some (.int x1), some (.int x2)], [], σ) = some (.inl none, σ) := by
  exact e_return_ rfl
theorem n_X8_advance {P : aCall} {d : Nat} {σ : aSt} (hd : 1 ≤ d) : a_call a_tab P d 234 [.ref 237] σ = b_R (a_call a_tab P (d - 1)) kX8_advance [] (0, [some (.ref 237)], [], σ) := e_call hd at_X8_advance rfl
theorem b_X8_advance_0 {C : aCall} {σ : aSt} (h : Sh σ) : b_R C kX8_advance [] (0, [some (.ref 237)], [], σ) = (if (a_I σ 237 25) = 0 then b_G C kX8_advance [] 8 11 [some (.ref 237)] [] (C 229 [.ref 237] σ) else b_R C kX8_advance [] (11, [some (.ref 237)], [], σ)) := by
  refine (e_aload_n (code := kX8_advance) (pc := 0) rfl rfl).trans ?_
  refine (e_getI (code := kX8_advance) (pc := 1) (c := 10) rfl (sk_237 (σ := σ) h) rfl).trans ?_
  refine (e_ifne (code := kX8_advance) (pc := 4) rfl).trans ?_
  refine b_ite ?_ ?_
  · refine (e_aload_n (code := kX8_advance) (pc := 7) rfl rfl).trans ?_
    exact (e_callV (σ := σ) (code := kX8_advance) (pc := 8) (len := 3) (k := 229) (n := 1) (c := 20) (as := [.ref 237]) (st0 := []) rfl rfl rfl rfl rfl (sk_237 (σ := σ) h) rfl)
  · rfl
theorem b_X8_advance_11 {C : aCall} {σ : aSt} : b_R C kX8_advance [] (11, [some (.ref 237)], [], σ) = some (.inl none, σ) := by
  exact e_return_ rfl
theorem n_X8_isSymbol {P : aCall} {d : Nat} {σ : aSt} {x1 : Int32} (hd : 1 ≤ d) : a_call a_tab P d 235 [.ref 237, .int x1] σ = b_R (a_call a_tab P (d - 1)) kX8_isSymbol [] (0, [some (.ref 237), some (.int x1)], [], σ) := e_call hd at_X8_isSymbol rfl
theorem b_X8_isSymbol_0 {C : aCall} {σ : aSt} {x1 : Int32} (h : Sh σ) : b_R C kX8_isSymbol [] (0, [some (.ref 237), some (.int x1)], [], σ) = (if (a_I σ 237 25) = 0 then (if (a_I σ 237 24) = (nI 3) then b_gd (a_in (a_I σ 237 23) 900) ((if (a_I σ 247 (Int32.toNatClampNeg (a_I σ 237 23))) = x1 then b_R C kX8_isSymbol [] (33, [some (.ref 237), some (.int x1)], [.int (nI 1)], σ) else b_R C kX8_isSymbol [] (32, [some (.ref 237), some (.int x1)], [], σ))) else b_R C kX8_isSymbol [] (32, [some (.ref 237), some (.int x1)], [], σ)) else b_R C kX8_isSymbol [] (32, [some (.ref 237), some (.int x1)], [], σ)) := by
  refine (e_aload_n (code := kX8_isSymbol) (pc := 0) rfl rfl).trans ?_
  refine (e_getI (code := kX8_isSymbol) (pc := 1) (c := 10) rfl (sk_237 (σ := σ) h) rfl).trans ?_
  refine (e_ifne (code := kX8_isSymbol) (pc := 4) rfl).trans ?_
  refine b_ite ?_ ?_
  · refine (e_aload_n (code := kX8_isSymbol) (pc := 7) rfl rfl).trans ?_
    refine (e_getI (code := kX8_isSymbol) (pc := 8) (c := 10) rfl (sk_237 (σ := σ) h) rfl).trans ?_
    refine (e_iconst (code := kX8_isSymbol) (pc := 11) rfl).trans ?_
    refine (e_icne (code := kX8_isSymbol) (pc := 12) rfl).trans ?_
    refine b_ite ?_ ?_
    · refine (e_aload_n (code := kX8_isSymbol) (pc := 15) rfl rfl).trans ?_
      refine (e_getR (code := kX8_isSymbol) (pc := 16) (c := 10) rfl (sk_237 (σ := σ) h) (sr_237_19 (σ := σ) h)).trans ?_
      refine (e_aload_n (code := kX8_isSymbol) (pc := 19) rfl rfl).trans ?_
      refine (e_getI (code := kX8_isSymbol) (pc := 20) (c := 10) rfl (sk_237 (σ := σ) h) rfl).trans ?_
      refine (e_iaload (code := kX8_isSymbol) (pc := 23) rfl (.inl (sk_247 (σ := σ) h)) (sl_247 (σ := σ) h)).trans ?_
      refine b_gd_c ?_
      refine (e_iload_n (code := kX8_isSymbol) (pc := 24) rfl rfl).trans ?_
      refine (e_icne (code := kX8_isSymbol) (pc := 25) rfl).trans ?_
      refine b_ite ?_ ?_
      · refine (e_iconst (code := kX8_isSymbol) (pc := 28) rfl).trans ?_
        refine (e_goto (code := kX8_isSymbol) (pc := 29) rfl).trans ?_
        rfl
      · rfl
    · rfl
  · rfl
theorem b_X8_isSymbol_32 {C : aCall} {σ : aSt} {x1 : Int32} : b_R C kX8_isSymbol [] (32, [some (.ref 237), some (.int x1)], [], σ) = b_R C kX8_isSymbol [] (33, [some (.ref 237), some (.int x1)], [.int (nI 0)], σ) := by
  refine (e_iconst (code := kX8_isSymbol) (pc := 32) rfl).trans ?_
  rfl
theorem b_X8_isSymbol_33 {C : aCall} {σ : aSt} {x1 y0 : Int32} : b_R C kX8_isSymbol [] (33, [some (.ref 237), some (.int x1)], [.int y0], σ) = b_gd (y0 = 0 ∨ y0 = 1) (some (.inl (some (.int y0)), σ)) := by
  exact e_zreturn rfl
theorem n_X8_isWord {P : aCall} {d : Nat} {σ : aSt} {s1 : Nat} (hd : 1 ≤ d) : a_call a_tab P d 236 [.ref 237, .ref s1] σ = b_R (a_call a_tab P (d - 1)) kX8_isWord [] (0, [some (.ref 237), some (.ref s1), none, none], [], σ) := e_call hd at_X8_isWord rfl
theorem b_X8_isWord_0 {C : aCall} {σ : aSt} {s1 : Nat} (h : Sh σ) : b_R C kX8_isWord [] (0, [some (.ref 237), some (.ref s1), none, none], [], σ) = (if (a_I σ 237 25) = 0 then (if (a_I σ 237 24) = (nI 1) then b_G C kX8_isWord [] 16 19 [some (.ref 237), some (.ref s1), none, none] [] (C 1007 [.ref s1] σ) else b_R C kX8_isWord [] (35, [some (.ref 237), some (.ref s1), none, none], [], σ)) else b_R C kX8_isWord [] (35, [some (.ref 237), some (.ref s1), none, none], [], σ)) := by
  refine (e_aload_n (code := kX8_isWord) (pc := 0) rfl rfl).trans ?_
  refine (e_getI (code := kX8_isWord) (pc := 1) (c := 10) rfl (sk_237 (σ := σ) h) rfl).trans ?_
  refine (e_ifne (code := kX8_isWord) (pc := 4) rfl).trans ?_
  refine b_ite ?_ ?_
  · refine (e_aload_n (code := kX8_isWord) (pc := 7) rfl rfl).trans ?_
    refine (e_getI (code := kX8_isWord) (pc := 8) (c := 10) rfl (sk_237 (σ := σ) h) rfl).trans ?_
    refine (e_iconst (code := kX8_isWord) (pc := 11) rfl).trans ?_
    refine (e_icne (code := kX8_isWord) (pc := 12) rfl).trans ?_
    refine b_ite ?_ ?_
    · refine (e_aload_n (code := kX8_isWord) (pc := 15) rfl rfl).trans ?_
      exact (e_callP (code := kX8_isWord) (pc := 16) (len := 3) (k := 1007) (n := 1) (as := [.ref s1]) (st0 := []) rfl rfl rfl rfl)
    · rfl
  · rfl
theorem b_X8_isWord_19 {C : aCall} {σ : aSt} {s1 : Nat} {y0 : Int32} (h : Sh σ) : b_R C kX8_isWord [] (19, [some (.ref 237), some (.ref s1), none, none], [.int y0], σ) = (if y0 = ((a_I σ 237 22) - (a_I σ 237 23)) then b_R C kX8_isWord [] (36, [some (.ref 237), some (.ref s1), none, none], [.int (nI 1)], σ) else b_R C kX8_isWord [] (35, [some (.ref 237), some (.ref s1), none, none], [], σ)) := by
  refine (e_aload_n (code := kX8_isWord) (pc := 19) rfl rfl).trans ?_
  refine (e_getI (code := kX8_isWord) (pc := 20) (c := 10) rfl (sk_237 (σ := σ) h) rfl).trans ?_
  refine (e_aload_n (code := kX8_isWord) (pc := 23) rfl rfl).trans ?_
  refine (e_getI (code := kX8_isWord) (pc := 24) (c := 10) rfl (sk_237 (σ := σ) h) rfl).trans ?_
  refine (e_isub (code := kX8_isWord) (pc := 27) rfl).trans ?_
  refine (e_icne (code := kX8_isWord) (pc := 28) rfl).trans ?_
  refine b_ite ?_ ?_
  · refine (e_iconst (code := kX8_isWord) (pc := 31) rfl).trans ?_
    refine (e_goto (code := kX8_isWord) (pc := 32) rfl).trans ?_
    rfl
  · rfl
theorem b_X8_isWord_35 {C : aCall} {σ : aSt} {s1 : Nat} : b_R C kX8_isWord [] (35, [some (.ref 237), some (.ref s1), none, none], [], σ) = b_R C kX8_isWord [] (36, [some (.ref 237), some (.ref s1), none, none], [.int (nI 0)], σ) := by
  refine (e_iconst (code := kX8_isWord) (pc := 35) rfl).trans ?_
  rfl
theorem b_X8_isWord_36 {C : aCall} {σ : aSt} {s1 : Nat} {y0 : Int32} : b_R C kX8_isWord [] (36, [some (.ref 237), some (.ref s1), none, none], [.int y0], σ) = b_R C kX8_isWord [] (39, [some (.ref 237), some (.ref s1), some (.int y0), some (.int (nI 0))], [], σ) := by
  refine (e_istore_n (code := kX8_isWord) (pc := 36) rfl rfl rfl).trans ?_
  refine (e_iconst (code := kX8_isWord) (pc := 37) rfl).trans ?_
  refine (e_istore_n (code := kX8_isWord) (pc := 38) rfl rfl rfl).trans ?_
  rfl
theorem b_X8_isWord_39 {C : aCall} {σ : aSt} {s1 : Nat} {x2 x3 : Int32} : b_R C kX8_isWord [] (39, [some (.ref 237), some (.ref s1), some (.int x2), some (.int x3)], [], σ) = (if x2 = 0 then b_R C kX8_isWord [] (82, [some (.ref 237), some (.ref s1), some (.int x2), some (.int x3)], [], σ) else b_G C kX8_isWord [] 45 48 [some (.ref 237), some (.ref s1), some (.int x2), some (.int x3)] [.int x3] (C 1007 [.ref s1] σ)) := by
  refine (e_iload_n (code := kX8_isWord) (pc := 39) rfl rfl).trans ?_
  refine (e_ifeq (code := kX8_isWord) (pc := 40) rfl).trans ?_
  refine b_ite ?_ ?_
  · rfl
  · refine (e_iload_n (code := kX8_isWord) (pc := 43) rfl rfl).trans ?_
    refine (e_aload_n (code := kX8_isWord) (pc := 44) rfl rfl).trans ?_
    exact (e_callP (code := kX8_isWord) (pc := 45) (len := 3) (k := 1007) (n := 1) (as := [.ref s1]) (st0 := [.int x3]) rfl rfl rfl rfl)
theorem b_X8_isWord_48 {C : aCall} {σ : aSt} {s1 : Nat} {x2 x3 y0 y1 : Int32} : b_R C kX8_isWord [] (48, [some (.ref 237), some (.ref s1), some (.int x2), some (.int x3)], [.int y0, .int y1], σ) = (if y1 < y0 then b_G C kX8_isWord [] 53 56 [some (.ref 237), some (.ref s1), some (.int x2), some (.int x3)] [] (C 1008 [.ref s1, .int x3] σ) else b_R C kX8_isWord [] (82, [some (.ref 237), some (.ref s1), some (.int x2), some (.int x3)], [], σ)) := by
  refine (e_icge (code := kX8_isWord) (pc := 48) rfl).trans ?_
  refine b_ite ?_ ?_
  · refine (e_aload_n (code := kX8_isWord) (pc := 51) rfl rfl).trans ?_
    refine (e_iload_n (code := kX8_isWord) (pc := 52) rfl rfl).trans ?_
    exact (e_callP (code := kX8_isWord) (pc := 53) (len := 3) (k := 1008) (n := 2) (as := [.ref s1, .int x3]) (st0 := []) rfl rfl rfl rfl)
  · rfl
theorem b_X8_isWord_56 {C : aCall} {σ : aSt} {s1 : Nat} {x2 x3 y0 : Int32} (h : Sh σ) : b_R C kX8_isWord [] (56, [some (.ref 237), some (.ref s1), some (.int x2), some (.int x3)], [.int y0], σ) = b_gd (a_in ((a_I σ 237 23) + x3) 900) ((if y0 = (a_I σ 247 (Int32.toNatClampNeg ((a_I σ 237 23) + x3))) then b_R C kX8_isWord [] (75, [some (.ref 237), some (.ref s1), some (.int x2), some (.int x3)], [.int (nI 1)], σ) else b_R C kX8_isWord [] (75, [some (.ref 237), some (.ref s1), some (.int x2), some (.int x3)], [.int (nI 0)], σ))) := by
  refine (e_aload_n (code := kX8_isWord) (pc := 56) rfl rfl).trans ?_
  refine (e_getR (code := kX8_isWord) (pc := 57) (c := 10) rfl (sk_237 (σ := σ) h) (sr_237_19 (σ := σ) h)).trans ?_
  refine (e_aload_n (code := kX8_isWord) (pc := 60) rfl rfl).trans ?_
  refine (e_getI (code := kX8_isWord) (pc := 61) (c := 10) rfl (sk_237 (σ := σ) h) rfl).trans ?_
  refine (e_iload_n (code := kX8_isWord) (pc := 64) rfl rfl).trans ?_
  refine (e_iadd (code := kX8_isWord) (pc := 65) rfl).trans ?_
  refine (e_iaload (code := kX8_isWord) (pc := 66) rfl (.inl (sk_247 (σ := σ) h)) (sl_247 (σ := σ) h)).trans ?_
  refine b_gd_c ?_
  refine (e_icne (code := kX8_isWord) (pc := 67) rfl).trans ?_
  refine b_ite ?_ ?_
  · refine (e_iconst (code := kX8_isWord) (pc := 70) rfl).trans ?_
    refine (e_goto (code := kX8_isWord) (pc := 71) rfl).trans ?_
    rfl
  · refine (e_iconst (code := kX8_isWord) (pc := 74) rfl).trans ?_
    rfl
theorem b_X8_isWord_75 {C : aCall} {σ : aSt} {s1 : Nat} {x2 x3 y0 : Int32} : b_R C kX8_isWord [] (75, [some (.ref 237), some (.ref s1), some (.int x2), some (.int x3)], [.int y0], σ) = b_R C kX8_isWord [] (39, [some (.ref 237), some (.ref s1), some (.int y0), some (.int (x3 + nI 1))], [], σ) := by
  refine (e_istore_n (code := kX8_isWord) (pc := 75) rfl rfl rfl).trans ?_
  refine (e_iinc (code := kX8_isWord) (pc := 76) rfl rfl rfl rfl).trans ?_
  refine (e_goto (code := kX8_isWord) (pc := 79) rfl).trans ?_
  rfl
theorem b_X8_isWord_82 {C : aCall} {σ : aSt} {s1 : Nat} {x2 x3 : Int32} : b_R C kX8_isWord [] (82, [some (.ref 237), some (.ref s1), some (.int x2), some (.int x3)], [], σ) = b_gd (x2 = 0 ∨ x2 = 1) (some (.inl (some (.int x2)), σ)) := by
  refine (e_iload_n (code := kX8_isWord) (pc := 82) rfl rfl).trans ?_
  exact e_zreturn rfl
theorem n_X8_accept {P : aCall} {d : Nat} {σ : aSt} {s1 : Nat} (hd : 1 ≤ d) : a_call a_tab P d 237 [.ref 237, .ref s1] σ = b_R (a_call a_tab P (d - 1)) kX8_accept [] (0, [some (.ref 237), some (.ref s1), none], [], σ) := e_call hd at_X8_accept rfl
theorem b_X8_accept_0 {C : aCall} {σ : aSt} {s1 : Nat} (h : Sh σ) : b_R C kX8_accept [] (0, [some (.ref 237), some (.ref s1), none], [], σ) = b_G C kX8_accept [] 2 5 [some (.ref 237), some (.ref s1), none] [] (C 236 [.ref 237, .ref s1] σ) := by
  refine (e_aload_n (code := kX8_accept) (pc := 0) rfl rfl).trans ?_
  refine (e_aload_n (code := kX8_accept) (pc := 1) rfl rfl).trans ?_
  exact (e_callV (σ := σ) (code := kX8_accept) (pc := 2) (len := 3) (k := 236) (n := 2) (c := 20) (as := [.ref 237, .ref s1]) (st0 := []) rfl rfl rfl rfl rfl (sk_237 (σ := σ) h) rfl)
theorem b_X8_accept_5 {C : aCall} {σ : aSt} {s1 : Nat} {y0 : Int32} (h : Sh σ) : b_R C kX8_accept [] (5, [some (.ref 237), some (.ref s1), none], [.int y0], σ) = (if y0 = 0 then b_R C kX8_accept [] (14, [some (.ref 237), some (.ref s1), some (.int y0)], [], σ) else b_G C kX8_accept [] 11 14 [some (.ref 237), some (.ref s1), some (.int y0)] [] (C 229 [.ref 237] σ)) := by
  refine (e_istore_n (code := kX8_accept) (pc := 5) rfl rfl rfl).trans ?_
  refine (e_iload_n (code := kX8_accept) (pc := 6) rfl rfl).trans ?_
  refine (e_ifeq (code := kX8_accept) (pc := 7) rfl).trans ?_
  refine b_ite ?_ ?_
  · rfl
  · refine (e_aload_n (code := kX8_accept) (pc := 10) rfl rfl).trans ?_
    exact (e_callV (σ := σ) (code := kX8_accept) (pc := 11) (len := 3) (k := 229) (n := 1) (c := 20) (as := [.ref 237]) (st0 := []) rfl rfl rfl rfl rfl (sk_237 (σ := σ) h) rfl)
theorem b_X8_accept_14 {C : aCall} {σ : aSt} {s1 : Nat} {x2 : Int32} : b_R C kX8_accept [] (14, [some (.ref 237), some (.ref s1), some (.int x2)], [], σ) = b_gd (x2 = 0 ∨ x2 = 1) (some (.inl (some (.int x2)), σ)) := by
  refine (e_iload_n (code := kX8_accept) (pc := 14) rfl rfl).trans ?_
  exact e_zreturn rfl
theorem n_X8_expectWord {P : aCall} {d : Nat} {σ : aSt} {s1 : Nat} (hd : 1 ≤ d) : a_call a_tab P d 238 [.ref 237, .ref s1] σ = b_R (a_call a_tab P (d - 1)) kX8_expectWord [] (0, [some (.ref 237), some (.ref s1)], [], σ) := e_call hd at_X8_expectWord rfl
theorem b_X8_expectWord_0 {C : aCall} {σ : aSt} {s1 : Nat} (h : Sh σ) : b_R C kX8_expectWord [] (0, [some (.ref 237), some (.ref s1)], [], σ) = b_G C kX8_expectWord [] 3 6 [some (.ref 237), some (.ref s1)] [.ref 237] (C 236 [.ref 237, .ref s1] σ) := by
  refine (e_aload_n (code := kX8_expectWord) (pc := 0) rfl rfl).trans ?_
  refine (e_aload_n (code := kX8_expectWord) (pc := 1) rfl rfl).trans ?_
  refine (e_aload_n (code := kX8_expectWord) (pc := 2) rfl rfl).trans ?_
  exact (e_callV (σ := σ) (code := kX8_expectWord) (pc := 3) (len := 3) (k := 236) (n := 2) (c := 20) (as := [.ref 237, .ref s1]) (st0 := [.ref 237]) rfl rfl rfl rfl rfl (sk_237 (σ := σ) h) rfl)
theorem b_X8_expectWord_6 {C : aCall} {σ : aSt} {s1 : Nat} {y0 : Int32} (h : Sh σ) : b_R C kX8_expectWord [] (6, [some (.ref 237), some (.ref s1)], [.int y0, .ref 237], σ) = b_G C kX8_expectWord [] 7 10 [some (.ref 237), some (.ref s1)] [] (C 233 [.ref 237, .int y0, .int (nI 1)] σ) := by
  refine (e_iconst (code := kX8_expectWord) (pc := 6) rfl).trans ?_
  exact (e_callV (σ := σ) (code := kX8_expectWord) (pc := 7) (len := 3) (k := 233) (n := 3) (c := 20) (as := [.ref 237, .int y0, .int (nI 1)]) (st0 := []) rfl rfl rfl rfl rfl (sk_237 (σ := σ) h) rfl)
theorem b_X8_expectWord_10 {C : aCall} {σ : aSt} {s1 : Nat} (h : Sh σ) : b_R C kX8_expectWord [] (10, [some (.ref 237), some (.ref s1)], [], σ) = b_G C kX8_expectWord [] 11 14 [some (.ref 237), some (.ref s1)] [] (C 234 [.ref 237] σ) := by
  refine (e_aload_n (code := kX8_expectWord) (pc := 10) rfl rfl).trans ?_
  exact (e_callV (σ := σ) (code := kX8_expectWord) (pc := 11) (len := 3) (k := 234) (n := 1) (c := 20) (as := [.ref 237]) (st0 := []) rfl rfl rfl rfl rfl (sk_237 (σ := σ) h) rfl)
theorem b_X8_expectWord_14 {C : aCall} {σ : aSt} {s1 : Nat} : b_R C kX8_expectWord [] (14, [some (.ref 237), some (.ref s1)], [], σ) = some (.inl none, σ) := by
  exact e_return_ rfl
theorem n_X8_expect {P : aCall} {d : Nat} {σ : aSt} {x1 : Int32} (hd : 1 ≤ d) : a_call a_tab P d 239 [.ref 237, .int x1] σ = b_R (a_call a_tab P (d - 1)) kX8_expect [] (0, [some (.ref 237), some (.int x1)], [], σ) := e_call hd at_X8_expect rfl
theorem b_X8_expect_0 {C : aCall} {σ : aSt} {x1 : Int32} (h : Sh σ) : b_R C kX8_expect [] (0, [some (.ref 237), some (.int x1)], [], σ) = b_G C kX8_expect [] 3 6 [some (.ref 237), some (.int x1)] [.ref 237] (C 235 [.ref 237, .int x1] σ) := by
  refine (e_aload_n (code := kX8_expect) (pc := 0) rfl rfl).trans ?_
  refine (e_aload_n (code := kX8_expect) (pc := 1) rfl rfl).trans ?_
  refine (e_iload_n (code := kX8_expect) (pc := 2) rfl rfl).trans ?_
  exact (e_callV (σ := σ) (code := kX8_expect) (pc := 3) (len := 3) (k := 235) (n := 2) (c := 20) (as := [.ref 237, .int x1]) (st0 := [.ref 237]) rfl rfl rfl rfl rfl (sk_237 (σ := σ) h) rfl)
theorem b_X8_expect_6 {C : aCall} {σ : aSt} {x1 y0 : Int32} (h : Sh σ) : b_R C kX8_expect [] (6, [some (.ref 237), some (.int x1)], [.int y0, .ref 237], σ) = b_G C kX8_expect [] 7 10 [some (.ref 237), some (.int x1)] [] (C 233 [.ref 237, .int y0, .int (nI 1)] σ) := by
  refine (e_iconst (code := kX8_expect) (pc := 6) rfl).trans ?_
  exact (e_callV (σ := σ) (code := kX8_expect) (pc := 7) (len := 3) (k := 233) (n := 3) (c := 20) (as := [.ref 237, .int y0, .int (nI 1)]) (st0 := []) rfl rfl rfl rfl rfl (sk_237 (σ := σ) h) rfl)
theorem b_X8_expect_10 {C : aCall} {σ : aSt} {x1 : Int32} (h : Sh σ) : b_R C kX8_expect [] (10, [some (.ref 237), some (.int x1)], [], σ) = b_G C kX8_expect [] 11 14 [some (.ref 237), some (.int x1)] [] (C 234 [.ref 237] σ) := by
  refine (e_aload_n (code := kX8_expect) (pc := 10) rfl rfl).trans ?_
  exact (e_callV (σ := σ) (code := kX8_expect) (pc := 11) (len := 3) (k := 234) (n := 1) (c := 20) (as := [.ref 237]) (st0 := []) rfl rfl rfl rfl rfl (sk_237 (σ := σ) h) rfl)
theorem b_X8_expect_14 {C : aCall} {σ : aSt} {x1 : Int32} : b_R C kX8_expect [] (14, [some (.ref 237), some (.int x1)], [], σ) = some (.inl none, σ) := by
  exact e_return_ rfl
theorem n_X8_value {P : aCall} {d : Nat} {σ : aSt} (hd : 1 ≤ d) : a_call a_tab P d 240 [.ref 237] σ = b_R (a_call a_tab P (d - 1)) kX8_value [] (0, [some (.ref 237), none, none], [], σ) := e_call hd at_X8_value rfl
theorem b_X8_value_0 {C : aCall} {σ : aSt} (h : Sh σ) : b_R C kX8_value [] (0, [some (.ref 237), none, none], [], σ) = b_R C kX8_value [] (7, [some (.ref 237), some (.int (nI 0)), some (.int (a_I σ 237 23))], [], σ) := by
  refine (e_iconst (code := kX8_value) (pc := 0) rfl).trans ?_
  refine (e_istore_n (code := kX8_value) (pc := 1) rfl rfl rfl).trans ?_
  refine (e_aload_n (code := kX8_value) (pc := 2) rfl rfl).trans ?_
  refine (e_getI (code := kX8_value) (pc := 3) (c := 10) rfl (sk_237 (σ := σ) h) rfl).trans ?_
  refine (e_istore_n (code := kX8_value) (pc := 6) rfl rfl rfl).trans ?_
  rfl
theorem b_X8_value_7 {C : aCall} {σ : aSt} {x1 x2 : Int32} (h : Sh σ) : b_R C kX8_value [] (7, [some (.ref 237), some (.int x1), some (.int x2)], [], σ) = (if x2 < (a_I σ 237 22) then (if (a_I σ 237 24) = (nI 2) then b_gd (a_in x2 900) (b_G C kX8_value [] 44 47 [some (.ref 237), some (.int x1), some (.int x2)] [] (C 1001 [.long (Int32.toInt64 2000000000), .long ((((Int32.toInt64 10) * (Int32.toInt64 x1)) + (Int32.toInt64 (a_I σ 247 (Int32.toNatClampNeg x2)))) - (Int32.toInt64 48))] σ)) else b_R C kX8_value [] (55, [some (.ref 237), some (.int x1), some (.int x2)], [], σ)) else b_R C kX8_value [] (55, [some (.ref 237), some (.int x1), some (.int x2)], [], σ)) := by
  refine (e_iload_n (code := kX8_value) (pc := 7) rfl rfl).trans ?_
  refine (e_aload_n (code := kX8_value) (pc := 8) rfl rfl).trans ?_
  refine (e_getI (code := kX8_value) (pc := 9) (c := 10) rfl (sk_237 (σ := σ) h) rfl).trans ?_
  refine (e_icge (code := kX8_value) (pc := 12) rfl).trans ?_
  refine b_ite ?_ ?_
  · refine (e_aload_n (code := kX8_value) (pc := 15) rfl rfl).trans ?_
    refine (e_getI (code := kX8_value) (pc := 16) (c := 10) rfl (sk_237 (σ := σ) h) rfl).trans ?_
    refine (e_iconst (code := kX8_value) (pc := 19) rfl).trans ?_
    refine (e_icne (code := kX8_value) (pc := 20) rfl).trans ?_
    refine b_ite ?_ ?_
    · refine (e_ldc2_w (code := kX8_value) (pc := 23) rfl).trans ?_
      refine (e_ldc2_w (code := kX8_value) (pc := 26) rfl).trans ?_
      refine (e_iload_n (code := kX8_value) (pc := 29) rfl rfl).trans ?_
      refine (e_i2l (code := kX8_value) (pc := 30) rfl).trans ?_
      refine (e_lmul (code := kX8_value) (pc := 31) rfl).trans ?_
      refine (e_aload_n (code := kX8_value) (pc := 32) rfl rfl).trans ?_
      refine (e_getR (code := kX8_value) (pc := 33) (c := 10) rfl (sk_237 (σ := σ) h) (sr_237_19 (σ := σ) h)).trans ?_
      refine (e_iload_n (code := kX8_value) (pc := 36) rfl rfl).trans ?_
      refine (e_iaload (code := kX8_value) (pc := 37) rfl (.inl (sk_247 (σ := σ) h)) (sl_247 (σ := σ) h)).trans ?_
      refine b_gd_c ?_
      refine (e_i2l (code := kX8_value) (pc := 38) rfl).trans ?_
      refine (e_ladd (code := kX8_value) (pc := 39) rfl).trans ?_
      refine (e_ldc2_w (code := kX8_value) (pc := 40) rfl).trans ?_
      refine (e_lsub (code := kX8_value) (pc := 43) rfl).trans ?_
      exact (e_callS (code := kX8_value) (pc := 44) (len := 3) (k := 1001) (n := 2) (as := [.long (Int32.toInt64 2000000000), .long ((((Int32.toInt64 10) * (Int32.toInt64 x1)) + (Int32.toInt64 (a_I σ 247 (Int32.toNatClampNeg x2)))) - (Int32.toInt64 48))]) (st0 := []) rfl rfl rfl rfl)
    · rfl
  · rfl
theorem b_X8_value_47 {C : aCall} {σ : aSt} {x1 x2 : Int32} {y0 : Int64} : b_R C kX8_value [] (47, [some (.ref 237), some (.int x1), some (.int x2)], [.long y0], σ) = b_R C kX8_value [] (7, [some (.ref 237), some (.int (Int64.toInt32 y0)), some (.int (x2 + nI 1))], [], σ) := by
  refine (e_l2i (code := kX8_value) (pc := 47) rfl).trans ?_
  refine (e_istore_n (code := kX8_value) (pc := 48) rfl rfl rfl).trans ?_
  refine (e_iinc (code := kX8_value) (pc := 49) rfl rfl rfl rfl).trans ?_
  refine (e_goto (code := kX8_value) (pc := 52) rfl).trans ?_
  rfl
theorem b_X8_value_55 {C : aCall} {σ : aSt} {x1 x2 : Int32} : b_R C kX8_value [] (55, [some (.ref 237), some (.int x1), some (.int x2)], [], σ) = some (.inl (some (.int x1)), σ) := by
  refine (e_iload_n (code := kX8_value) (pc := 55) rfl rfl).trans ?_
  exact e_ireturn rfl
theorem n_X8_readNumber {P : aCall} {d : Nat} {σ : aSt} {x1 x2 : Int32} (hd : 1 ≤ d) : a_call a_tab P d 241 [.ref 237, .int x1, .int x2] σ = b_R (a_call a_tab P (d - 1)) kX8_readNumber [] (0, [some (.ref 237), some (.int x1), some (.int x2), none], [], σ) := e_call hd at_X8_readNumber rfl
theorem b_X8_readNumber_0 {C : aCall} {σ : aSt} {x1 x2 : Int32} (h : Sh σ) : b_R C kX8_readNumber [] (0, [some (.ref 237), some (.int x1), some (.int x2), none], [], σ) = (if (a_I σ 237 25) = 0 then (if (a_I σ 237 24) = (nI 2) then b_R C kX8_readNumber [] (16, [some (.ref 237), some (.int x1), some (.int x2), none], [.ref 237], σ) else b_R C kX8_readNumber [] (21, [some (.ref 237), some (.int x1), some (.int x2), none], [.int (nI 0), .ref 237], σ)) else b_R C kX8_readNumber [] (16, [some (.ref 237), some (.int x1), some (.int x2), none], [.ref 237], σ)) := by
  refine (e_aload_n (code := kX8_readNumber) (pc := 0) rfl rfl).trans ?_
  refine (e_aload_n (code := kX8_readNumber) (pc := 1) rfl rfl).trans ?_
  refine (e_getI (code := kX8_readNumber) (pc := 2) (c := 10) rfl (sk_237 (σ := σ) h) rfl).trans ?_
  refine (e_ifne (code := kX8_readNumber) (pc := 5) rfl).trans ?_
  refine b_ite ?_ ?_
  · refine (e_aload_n (code := kX8_readNumber) (pc := 8) rfl rfl).trans ?_
    refine (e_getI (code := kX8_readNumber) (pc := 9) (c := 10) rfl (sk_237 (σ := σ) h) rfl).trans ?_
    refine (e_iconst (code := kX8_readNumber) (pc := 12) rfl).trans ?_
    refine (e_icne (code := kX8_readNumber) (pc := 13) rfl).trans ?_
    refine b_ite ?_ ?_
    · rfl
    · refine (e_iconst (code := kX8_readNumber) (pc := 20) rfl).trans ?_
      rfl
  · rfl
theorem b_X8_readNumber_16 {C : aCall} {σ : aSt} {x1 x2 : Int32} : b_R C kX8_readNumber [] (16, [some (.ref 237), some (.int x1), some (.int x2), none], [.ref 237], σ) = b_R C kX8_readNumber [] (21, [some (.ref 237), some (.int x1), some (.int x2), none], [.int (nI 1), .ref 237], σ) := by
  refine (e_iconst (code := kX8_readNumber) (pc := 16) rfl).trans ?_
  refine (e_goto (code := kX8_readNumber) (pc := 17) rfl).trans ?_
  rfl
theorem b_X8_readNumber_21 {C : aCall} {σ : aSt} {x1 x2 y0 : Int32} (h : Sh σ) : b_R C kX8_readNumber [] (21, [some (.ref 237), some (.int x1), some (.int x2), none], [.int y0, .ref 237], σ) = b_G C kX8_readNumber [] 22 25 [some (.ref 237), some (.int x1), some (.int x2), none] [] (C 233 [.ref 237, .int y0, .int (nI 1)] σ) := by
  refine (e_iconst (code := kX8_readNumber) (pc := 21) rfl).trans ?_
  exact (e_callV (σ := σ) (code := kX8_readNumber) (pc := 22) (len := 3) (k := 233) (n := 3) (c := 20) (as := [.ref 237, .int y0, .int (nI 1)]) (st0 := []) rfl rfl rfl rfl rfl (sk_237 (σ := σ) h) rfl)
theorem b_X8_readNumber_25 {C : aCall} {σ : aSt} {x1 x2 : Int32} (h : Sh σ) : b_R C kX8_readNumber [] (25, [some (.ref 237), some (.int x1), some (.int x2), none], [], σ) = b_G C kX8_readNumber [] 26 29 [some (.ref 237), some (.int x1), some (.int x2), none] [] (C 240 [.ref 237] σ) := by
  refine (e_aload_n (code := kX8_readNumber) (pc := 25) rfl rfl).trans ?_
  exact (e_callV (σ := σ) (code := kX8_readNumber) (pc := 26) (len := 3) (k := 240) (n := 1) (c := 20) (as := [.ref 237]) (st0 := []) rfl rfl rfl rfl rfl (sk_237 (σ := σ) h) rfl)
theorem b_X8_readNumber_29 {C : aCall} {σ : aSt} {x1 x2 y0 : Int32} (h : Sh σ) : b_R C kX8_readNumber [] (29, [some (.ref 237), some (.int x1), some (.int x2), none], [.int y0], σ) = (if (a_I σ 237 25) = 0 then b_G C kX8_readNumber [] 41 44 [some (.ref 237), some (.int x1), some (.int x2), some (.int y0)] [.ref 237] (C 147 [.int y0, .int x1, .int x2] σ) else b_R C kX8_readNumber [] (47, [some (.ref 237), some (.int x1), some (.int x2), some (.int y0)], [.ref 237], σ)) := by
  refine (e_istore_n (code := kX8_readNumber) (pc := 29) rfl rfl rfl).trans ?_
  refine (e_aload_n (code := kX8_readNumber) (pc := 30) rfl rfl).trans ?_
  refine (e_aload_n (code := kX8_readNumber) (pc := 31) rfl rfl).trans ?_
  refine (e_getI (code := kX8_readNumber) (pc := 32) (c := 10) rfl (sk_237 (σ := σ) h) rfl).trans ?_
  refine (e_ifne (code := kX8_readNumber) (pc := 35) rfl).trans ?_
  refine b_ite ?_ ?_
  · refine (e_iload_n (code := kX8_readNumber) (pc := 38) rfl rfl).trans ?_
    refine (e_iload_n (code := kX8_readNumber) (pc := 39) rfl rfl).trans ?_
    refine (e_iload_n (code := kX8_readNumber) (pc := 40) rfl rfl).trans ?_
    exact (e_callS (code := kX8_readNumber) (pc := 41) (len := 3) (k := 147) (n := 3) (as := [.int y0, .int x1, .int x2]) (st0 := [.ref 237]) rfl rfl rfl rfl)
  · rfl
theorem b_X8_readNumber_44 {C : aCall} {σ : aSt} {x1 x2 x3 y0 : Int32} : b_R C kX8_readNumber [] (44, [some (.ref 237), some (.int x1), some (.int x2), some (.int x3)], [.int y0, .ref 237], σ) = (if y0 = 0 then b_R C kX8_readNumber [] (52, [some (.ref 237), some (.int x1), some (.int x2), some (.int x3)], [.int (nI 0), .ref 237], σ) else b_R C kX8_readNumber [] (47, [some (.ref 237), some (.int x1), some (.int x2), some (.int x3)], [.ref 237], σ)) := by
  refine (e_ifeq (code := kX8_readNumber) (pc := 44) rfl).trans ?_
  refine b_ite ?_ ?_
  · refine (e_iconst (code := kX8_readNumber) (pc := 51) rfl).trans ?_
    rfl
  · rfl
theorem b_X8_readNumber_47 {C : aCall} {σ : aSt} {x1 x2 x3 : Int32} : b_R C kX8_readNumber [] (47, [some (.ref 237), some (.int x1), some (.int x2), some (.int x3)], [.ref 237], σ) = b_R C kX8_readNumber [] (52, [some (.ref 237), some (.int x1), some (.int x2), some (.int x3)], [.int (nI 1), .ref 237], σ) := by
  refine (e_iconst (code := kX8_readNumber) (pc := 47) rfl).trans ?_
  refine (e_goto (code := kX8_readNumber) (pc := 48) rfl).trans ?_
  rfl
theorem b_X8_readNumber_52 {C : aCall} {σ : aSt} {x1 x2 x3 y0 : Int32} (h : Sh σ) : b_R C kX8_readNumber [] (52, [some (.ref 237), some (.int x1), some (.int x2), some (.int x3)], [.int y0, .ref 237], σ) = b_G C kX8_readNumber [] 53 56 [some (.ref 237), some (.int x1), some (.int x2), some (.int x3)] [] (C 233 [.ref 237, .int y0, .int (nI 2)] σ) := by
  refine (e_iconst (code := kX8_readNumber) (pc := 52) rfl).trans ?_
  exact (e_callV (σ := σ) (code := kX8_readNumber) (pc := 53) (len := 3) (k := 233) (n := 3) (c := 20) (as := [.ref 237, .int y0, .int (nI 2)]) (st0 := []) rfl rfl rfl rfl rfl (sk_237 (σ := σ) h) rfl)
theorem b_X8_readNumber_56 {C : aCall} {σ : aSt} {x1 x2 x3 : Int32} (h : Sh σ) : b_R C kX8_readNumber [] (56, [some (.ref 237), some (.int x1), some (.int x2), some (.int x3)], [], σ) = b_G C kX8_readNumber [] 57 60 [some (.ref 237), some (.int x1), some (.int x2), some (.int x3)] [] (C 234 [.ref 237] σ) := by
  refine (e_aload_n (code := kX8_readNumber) (pc := 56) rfl rfl).trans ?_
  exact (e_callV (σ := σ) (code := kX8_readNumber) (pc := 57) (len := 3) (k := 234) (n := 1) (c := 20) (as := [.ref 237]) (st0 := []) rfl rfl rfl rfl rfl (sk_237 (σ := σ) h) rfl)
theorem b_X8_readNumber_60 {C : aCall} {σ : aSt} {x1 x2 x3 : Int32} (h : Sh σ) : b_R C kX8_readNumber [] (60, [some (.ref 237), some (.int x1), some (.int x2), some (.int x3)], [], σ) = (if (a_I σ 237 25) = 0 then b_R C kX8_readNumber [] (72, [some (.ref 237), some (.int x1), some (.int x2), some (.int x3)], [.int x3], σ) else b_R C kX8_readNumber [] (72, [some (.ref 237), some (.int x1), some (.int x2), some (.int x3)], [.int x1], σ)) := by
  refine (e_aload_n (code := kX8_readNumber) (pc := 60) rfl rfl).trans ?_
  refine (e_getI (code := kX8_readNumber) (pc := 61) (c := 10) rfl (sk_237 (σ := σ) h) rfl).trans ?_
  refine (e_ifne (code := kX8_readNumber) (pc := 64) rfl).trans ?_
  refine b_ite ?_ ?_
  · refine (e_iload_n (code := kX8_readNumber) (pc := 67) rfl rfl).trans ?_
    refine (e_goto (code := kX8_readNumber) (pc := 68) rfl).trans ?_
    rfl
  · refine (e_iload_n (code := kX8_readNumber) (pc := 71) rfl rfl).trans ?_
    rfl
theorem b_X8_readNumber_72 {C : aCall} {σ : aSt} {x1 x2 x3 y0 : Int32} : b_R C kX8_readNumber [] (72, [some (.ref 237), some (.int x1), some (.int x2), some (.int x3)], [.int y0], σ) = some (.inl (some (.int y0)), σ) := by
  exact e_ireturn rfl
theorem n_X8_isWordHere {P : aCall} {d : Nat} {σ : aSt} (hd : 1 ≤ d) : a_call a_tab P d 242 [.ref 237] σ = b_R (a_call a_tab P (d - 1)) kX8_isWordHere [] (0, [some (.ref 237)], [], σ) := e_call hd at_X8_isWordHere rfl
theorem b_X8_isWordHere_0 {C : aCall} {σ : aSt} (h : Sh σ) : b_R C kX8_isWordHere [] (0, [some (.ref 237)], [], σ) = (if (a_I σ 237 25) = 0 then (if (a_I σ 237 24) = (nI 1) then b_R C kX8_isWordHere [] (20, [some (.ref 237)], [.int (nI 1)], σ) else b_R C kX8_isWordHere [] (19, [some (.ref 237)], [], σ)) else b_R C kX8_isWordHere [] (19, [some (.ref 237)], [], σ)) := by
  refine (e_aload_n (code := kX8_isWordHere) (pc := 0) rfl rfl).trans ?_
  refine (e_getI (code := kX8_isWordHere) (pc := 1) (c := 10) rfl (sk_237 (σ := σ) h) rfl).trans ?_
  refine (e_ifne (code := kX8_isWordHere) (pc := 4) rfl).trans ?_
  refine b_ite ?_ ?_
  · refine (e_aload_n (code := kX8_isWordHere) (pc := 7) rfl rfl).trans ?_
    refine (e_getI (code := kX8_isWordHere) (pc := 8) (c := 10) rfl (sk_237 (σ := σ) h) rfl).trans ?_
    refine (e_iconst (code := kX8_isWordHere) (pc := 11) rfl).trans ?_
    refine (e_icne (code := kX8_isWordHere) (pc := 12) rfl).trans ?_
    refine b_ite ?_ ?_
    · refine (e_iconst (code := kX8_isWordHere) (pc := 15) rfl).trans ?_
      refine (e_goto (code := kX8_isWordHere) (pc := 16) rfl).trans ?_
      rfl
    · rfl
  · rfl
theorem b_X8_isWordHere_19 {C : aCall} {σ : aSt} : b_R C kX8_isWordHere [] (19, [some (.ref 237)], [], σ) = b_R C kX8_isWordHere [] (20, [some (.ref 237)], [.int (nI 0)], σ) := by
  refine (e_iconst (code := kX8_isWordHere) (pc := 19) rfl).trans ?_
  rfl
theorem b_X8_isWordHere_20 {C : aCall} {σ : aSt} {y0 : Int32} : b_R C kX8_isWordHere [] (20, [some (.ref 237)], [.int y0], σ) = b_gd (y0 = 0 ∨ y0 = 1) (some (.inl (some (.int y0)), σ)) := by
  exact e_zreturn rfl
theorem n_X8_isNameAt {P : aCall} {d : Nat} {σ : aSt} {x1 : Int32} (hd : 1 ≤ d) : a_call a_tab P d 243 [.ref 237, .int x1] σ = b_R (a_call a_tab P (d - 1)) kX8_isNameAt [] (0, [some (.ref 237), some (.int x1), none, none], [], σ) := e_call hd at_X8_isNameAt rfl
theorem b_X8_isNameAt_0 {C : aCall} {σ : aSt} {w : Nat} {x1 : Int32} (h : Sh σ) (hw : Rw σ w) : b_R C kX8_isNameAt [] (0, [some (.ref 237), some (.int x1), none, none], [], σ) = b_gd (a_in x1 720) ((if (a_I σ w (Int32.toNatClampNeg x1)) = ((a_I σ 237 22) - (a_I σ 237 23)) then b_R C kX8_isNameAt [] (23, [some (.ref 237), some (.int x1), none, none], [.int (nI 1)], σ) else b_R C kX8_isNameAt [] (23, [some (.ref 237), some (.int x1), none, none], [.int (nI 0)], σ))) := by
  refine (e_aload_n (code := kX8_isNameAt) (pc := 0) rfl rfl).trans ?_
  refine (e_getR (code := kX8_isNameAt) (pc := 1) (c := 10) rfl (sk_237 (σ := σ) h) hw.1).trans ?_
  refine (e_iload_n (code := kX8_isNameAt) (pc := 4) rfl rfl).trans ?_
  refine (e_iaload (code := kX8_isNameAt) (pc := 5) rfl (.inl hw.2.1) hw.2.2.2).trans ?_
  refine b_gd_c ?_
  refine (e_aload_n (code := kX8_isNameAt) (pc := 6) rfl rfl).trans ?_
  refine (e_getI (code := kX8_isNameAt) (pc := 7) (c := 10) rfl (sk_237 (σ := σ) h) rfl).trans ?_
  refine (e_aload_n (code := kX8_isNameAt) (pc := 10) rfl rfl).trans ?_
  refine (e_getI (code := kX8_isNameAt) (pc := 11) (c := 10) rfl (sk_237 (σ := σ) h) rfl).trans ?_
  refine (e_isub (code := kX8_isNameAt) (pc := 14) rfl).trans ?_
  refine (e_icne (code := kX8_isNameAt) (pc := 15) rfl).trans ?_
  refine b_ite ?_ ?_
  · refine (e_iconst (code := kX8_isNameAt) (pc := 18) rfl).trans ?_
    refine (e_goto (code := kX8_isNameAt) (pc := 19) rfl).trans ?_
    rfl
  · refine (e_iconst (code := kX8_isNameAt) (pc := 22) rfl).trans ?_
    rfl
theorem b_X8_isNameAt_23 {C : aCall} {σ : aSt} {x1 y0 : Int32} : b_R C kX8_isNameAt [] (23, [some (.ref 237), some (.int x1), none, none], [.int y0], σ) = b_R C kX8_isNameAt [] (26, [some (.ref 237), some (.int x1), some (.int y0), some (.int (nI 0))], [], σ) := by
  refine (e_istore_n (code := kX8_isNameAt) (pc := 23) rfl rfl rfl).trans ?_
  refine (e_iconst (code := kX8_isNameAt) (pc := 24) rfl).trans ?_
  refine (e_istore_n (code := kX8_isNameAt) (pc := 25) rfl rfl rfl).trans ?_
  rfl
theorem b_X8_isNameAt_26 {C : aCall} {σ : aSt} {w : Nat} {x1 x2 x3 : Int32} (h : Sh σ) (hw : Rw σ w) : b_R C kX8_isNameAt [] (26, [some (.ref 237), some (.int x1), some (.int x2), some (.int x3)], [], σ) = b_gd (a_in x1 720) ((if x3 < (a_I σ w (Int32.toNatClampNeg x1)) then (if x2 = 0 then b_R C kX8_isNameAt [] (76, [some (.ref 237), some (.int x1), some (.int x2), some (.int x3)], [], σ) else b_gd (a_in ((x1 + (nI 1)) + x3) 720) (b_gd (a_in ((a_I σ 237 23) + x3) 900) ((if (a_I σ w (Int32.toNatClampNeg ((x1 + (nI 1)) + x3))) = (a_I σ 247 (Int32.toNatClampNeg ((a_I σ 237 23) + x3))) then b_R C kX8_isNameAt [] (69, [some (.ref 237), some (.int x1), some (.int x2), some (.int x3)], [.int (nI 1)], σ) else b_R C kX8_isNameAt [] (69, [some (.ref 237), some (.int x1), some (.int x2), some (.int x3)], [.int (nI 0)], σ))))) else b_R C kX8_isNameAt [] (76, [some (.ref 237), some (.int x1), some (.int x2), some (.int x3)], [], σ))) := by
  refine (e_iload_n (code := kX8_isNameAt) (pc := 26) rfl rfl).trans ?_
  refine (e_aload_n (code := kX8_isNameAt) (pc := 27) rfl rfl).trans ?_
  refine (e_getR (code := kX8_isNameAt) (pc := 28) (c := 10) rfl (sk_237 (σ := σ) h) hw.1).trans ?_
  refine (e_iload_n (code := kX8_isNameAt) (pc := 31) rfl rfl).trans ?_
  refine (e_iaload (code := kX8_isNameAt) (pc := 32) rfl (.inl hw.2.1) hw.2.2.2).trans ?_
  refine b_gd_c ?_
  refine (e_icge (code := kX8_isNameAt) (pc := 33) rfl).trans ?_
  refine b_ite ?_ ?_
  · refine (e_iload_n (code := kX8_isNameAt) (pc := 36) rfl rfl).trans ?_
    refine (e_ifeq (code := kX8_isNameAt) (pc := 37) rfl).trans ?_
    refine b_ite ?_ ?_
    · rfl
    · refine (e_aload_n (code := kX8_isNameAt) (pc := 40) rfl rfl).trans ?_
      refine (e_getR (code := kX8_isNameAt) (pc := 41) (c := 10) rfl (sk_237 (σ := σ) h) hw.1).trans ?_
      refine (e_iload_n (code := kX8_isNameAt) (pc := 44) rfl rfl).trans ?_
      refine (e_iconst (code := kX8_isNameAt) (pc := 45) rfl).trans ?_
      refine (e_iadd (code := kX8_isNameAt) (pc := 46) rfl).trans ?_
      refine (e_iload_n (code := kX8_isNameAt) (pc := 47) rfl rfl).trans ?_
      refine (e_iadd (code := kX8_isNameAt) (pc := 48) rfl).trans ?_
      refine (e_iaload (code := kX8_isNameAt) (pc := 49) rfl (.inl hw.2.1) hw.2.2.2).trans ?_
      refine b_gd_c ?_
      refine (e_aload_n (code := kX8_isNameAt) (pc := 50) rfl rfl).trans ?_
      refine (e_getR (code := kX8_isNameAt) (pc := 51) (c := 10) rfl (sk_237 (σ := σ) h) (sr_237_19 (σ := σ) h)).trans ?_
      refine (e_aload_n (code := kX8_isNameAt) (pc := 54) rfl rfl).trans ?_
      refine (e_getI (code := kX8_isNameAt) (pc := 55) (c := 10) rfl (sk_237 (σ := σ) h) rfl).trans ?_
      refine (e_iload_n (code := kX8_isNameAt) (pc := 58) rfl rfl).trans ?_
      refine (e_iadd (code := kX8_isNameAt) (pc := 59) rfl).trans ?_
      refine (e_iaload (code := kX8_isNameAt) (pc := 60) rfl (.inl (sk_247 (σ := σ) h)) (sl_247 (σ := σ) h)).trans ?_
      refine b_gd_c ?_
      refine (e_icne (code := kX8_isNameAt) (pc := 61) rfl).trans ?_
      refine b_ite ?_ ?_
      · refine (e_iconst (code := kX8_isNameAt) (pc := 64) rfl).trans ?_
        refine (e_goto (code := kX8_isNameAt) (pc := 65) rfl).trans ?_
        rfl
      · refine (e_iconst (code := kX8_isNameAt) (pc := 68) rfl).trans ?_
        rfl
  · rfl
theorem b_X8_isNameAt_69 {C : aCall} {σ : aSt} {x1 x2 x3 y0 : Int32} : b_R C kX8_isNameAt [] (69, [some (.ref 237), some (.int x1), some (.int x2), some (.int x3)], [.int y0], σ) = b_R C kX8_isNameAt [] (26, [some (.ref 237), some (.int x1), some (.int y0), some (.int (x3 + nI 1))], [], σ) := by
  refine (e_istore_n (code := kX8_isNameAt) (pc := 69) rfl rfl rfl).trans ?_
  refine (e_iinc (code := kX8_isNameAt) (pc := 70) rfl rfl rfl rfl).trans ?_
  refine (e_goto (code := kX8_isNameAt) (pc := 73) rfl).trans ?_
  rfl
theorem b_X8_isNameAt_76 {C : aCall} {σ : aSt} {x1 x2 x3 : Int32} : b_R C kX8_isNameAt [] (76, [some (.ref 237), some (.int x1), some (.int x2), some (.int x3)], [], σ) = b_gd (x2 = 0 ∨ x2 = 1) (some (.inl (some (.int x2)), σ)) := by
  refine (e_iload_n (code := kX8_isNameAt) (pc := 76) rfl rfl).trans ?_
  exact e_zreturn rfl
theorem n_X8_tubeHere {P : aCall} {d : Nat} {σ : aSt} (hd : 1 ≤ d) : a_call a_tab P d 244 [.ref 237] σ = b_R (a_call a_tab P (d - 1)) kX8_tubeHere [] (0, [some (.ref 237), none], [], σ) := e_call hd at_X8_tubeHere rfl
theorem b_X8_tubeHere_0 {C : aCall} {σ : aSt} : b_R C kX8_tubeHere [] (0, [some (.ref 237), none], [], σ) = b_R C kX8_tubeHere [] (2, [some (.ref 237), some (.int (nI 0))], [], σ) := by
  refine (e_iconst (code := kX8_tubeHere) (pc := 0) rfl).trans ?_
  refine (e_istore_n (code := kX8_tubeHere) (pc := 1) rfl rfl rfl).trans ?_
  rfl
theorem b_X8_tubeHere_2 {C : aCall} {σ : aSt} {w : Nat} {x1 : Int32} (h : Sh σ) (hw : Rw σ w) : b_R C kX8_tubeHere [] (2, [some (.ref 237), some (.int x1)], [], σ) = b_gd (a_in (nI 0) 720) ((if x1 < (a_I σ w (Int32.toNatClampNeg (nI 0))) then b_G C kX8_tubeHere [] 22 25 [some (.ref 237), some (.int x1)] [] (C 243 [.ref 237, .int (((nI 8) + ((nI 14) * x1)) + (nI 5))] σ) else some (.inl (some (.int ((-1)))), σ))) := by
  refine (e_iload_n (code := kX8_tubeHere) (pc := 2) rfl rfl).trans ?_
  refine (e_aload_n (code := kX8_tubeHere) (pc := 3) rfl rfl).trans ?_
  refine (e_getR (code := kX8_tubeHere) (pc := 4) (c := 10) rfl (sk_237 (σ := σ) h) hw.1).trans ?_
  refine (e_iconst (code := kX8_tubeHere) (pc := 7) rfl).trans ?_
  refine (e_iaload (code := kX8_tubeHere) (pc := 8) rfl (.inl hw.2.1) hw.2.2.2).trans ?_
  refine b_gd_c ?_
  refine (e_icge (code := kX8_tubeHere) (pc := 9) rfl).trans ?_
  refine b_ite ?_ ?_
  · refine (e_aload_n (code := kX8_tubeHere) (pc := 12) rfl rfl).trans ?_
    refine (e_bipush (code := kX8_tubeHere) (pc := 13) rfl).trans ?_
    refine (e_bipush (code := kX8_tubeHere) (pc := 15) rfl).trans ?_
    refine (e_iload_n (code := kX8_tubeHere) (pc := 17) rfl rfl).trans ?_
    refine (e_imul (code := kX8_tubeHere) (pc := 18) rfl).trans ?_
    refine (e_iadd (code := kX8_tubeHere) (pc := 19) rfl).trans ?_
    refine (e_iconst (code := kX8_tubeHere) (pc := 20) rfl).trans ?_
    refine (e_iadd (code := kX8_tubeHere) (pc := 21) rfl).trans ?_
    exact (e_callV (σ := σ) (code := kX8_tubeHere) (pc := 22) (len := 3) (k := 243) (n := 2) (c := 20) (as := [.ref 237, .int (((nI 8) + ((nI 14) * x1)) + (nI 5))]) (st0 := []) rfl rfl rfl rfl rfl (sk_237 (σ := σ) h) rfl)
  · refine (e_iconst (code := kX8_tubeHere) (pc := 36) rfl).trans ?_
    exact e_ireturn rfl
theorem b_X8_tubeHere_25 {C : aCall} {σ : aSt} {x1 y0 : Int32} : b_R C kX8_tubeHere [] (25, [some (.ref 237), some (.int x1)], [.int y0], σ) = (if y0 = 0 then b_R C kX8_tubeHere [] (2, [some (.ref 237), some (.int (x1 + nI 1))], [], σ) else some (.inl (some (.int x1)), σ)) := by
  refine (e_ifeq (code := kX8_tubeHere) (pc := 25) rfl).trans ?_
  refine b_ite ?_ ?_
  · refine (e_iinc (code := kX8_tubeHere) (pc := 30) rfl rfl rfl rfl).trans ?_
    refine (e_goto (code := kX8_tubeHere) (pc := 33) rfl).trans ?_
    rfl
  · refine (e_iload_n (code := kX8_tubeHere) (pc := 28) rfl rfl).trans ?_
    exact e_ireturn rfl
theorem n_X8_mixHere {P : aCall} {d : Nat} {σ : aSt} (hd : 1 ≤ d) : a_call a_tab P d 245 [.ref 237] σ = b_R (a_call a_tab P (d - 1)) kX8_mixHere [] (0, [some (.ref 237), none], [], σ) := e_call hd at_X8_mixHere rfl
theorem b_X8_mixHere_0 {C : aCall} {σ : aSt} : b_R C kX8_mixHere [] (0, [some (.ref 237), none], [], σ) = b_R C kX8_mixHere [] (2, [some (.ref 237), some (.int (nI 0))], [], σ) := by
  refine (e_iconst (code := kX8_mixHere) (pc := 0) rfl).trans ?_
  refine (e_istore_n (code := kX8_mixHere) (pc := 1) rfl rfl rfl).trans ?_
  rfl
theorem b_X8_mixHere_2 {C : aCall} {σ : aSt} {w : Nat} {x1 : Int32} (h : Sh σ) (hw : Rw σ w) : b_R C kX8_mixHere [] (2, [some (.ref 237), some (.int x1)], [], σ) = b_gd (a_in (nI 1) 720) ((if x1 < (a_I σ w (Int32.toNatClampNeg (nI 1))) then b_G C kX8_mixHere [] 23 26 [some (.ref 237), some (.int x1)] [] (C 243 [.ref 237, .int (((nI 288) + ((nI 18) * x1)) + (nI 0))] σ) else some (.inl (some (.int ((-1)))), σ))) := by
  refine (e_iload_n (code := kX8_mixHere) (pc := 2) rfl rfl).trans ?_
  refine (e_aload_n (code := kX8_mixHere) (pc := 3) rfl rfl).trans ?_
  refine (e_getR (code := kX8_mixHere) (pc := 4) (c := 10) rfl (sk_237 (σ := σ) h) hw.1).trans ?_
  refine (e_iconst (code := kX8_mixHere) (pc := 7) rfl).trans ?_
  refine (e_iaload (code := kX8_mixHere) (pc := 8) rfl (.inl hw.2.1) hw.2.2.2).trans ?_
  refine b_gd_c ?_
  refine (e_icge (code := kX8_mixHere) (pc := 9) rfl).trans ?_
  refine b_ite ?_ ?_
  · refine (e_aload_n (code := kX8_mixHere) (pc := 12) rfl rfl).trans ?_
    refine (e_sipush (code := kX8_mixHere) (pc := 13) rfl).trans ?_
    refine (e_bipush (code := kX8_mixHere) (pc := 16) rfl).trans ?_
    refine (e_iload_n (code := kX8_mixHere) (pc := 18) rfl rfl).trans ?_
    refine (e_imul (code := kX8_mixHere) (pc := 19) rfl).trans ?_
    refine (e_iadd (code := kX8_mixHere) (pc := 20) rfl).trans ?_
    refine (e_iconst (code := kX8_mixHere) (pc := 21) rfl).trans ?_
    refine (e_iadd (code := kX8_mixHere) (pc := 22) rfl).trans ?_
    exact (e_callV (σ := σ) (code := kX8_mixHere) (pc := 23) (len := 3) (k := 243) (n := 2) (c := 20) (as := [.ref 237, .int (((nI 288) + ((nI 18) * x1)) + (nI 0))]) (st0 := []) rfl rfl rfl rfl rfl (sk_237 (σ := σ) h) rfl)
  · refine (e_iconst (code := kX8_mixHere) (pc := 37) rfl).trans ?_
    exact e_ireturn rfl
theorem b_X8_mixHere_26 {C : aCall} {σ : aSt} {x1 y0 : Int32} : b_R C kX8_mixHere [] (26, [some (.ref 237), some (.int x1)], [.int y0], σ) = (if y0 = 0 then b_R C kX8_mixHere [] (2, [some (.ref 237), some (.int (x1 + nI 1))], [], σ) else some (.inl (some (.int x1)), σ)) := by
  refine (e_ifeq (code := kX8_mixHere) (pc := 26) rfl).trans ?_
  refine b_ite ?_ ?_
  · refine (e_iinc (code := kX8_mixHere) (pc := 31) rfl rfl rfl rfl).trans ?_
    refine (e_goto (code := kX8_mixHere) (pc := 34) rfl).trans ?_
    rfl
  · refine (e_iload_n (code := kX8_mixHere) (pc := 29) rfl rfl).trans ?_
    exact e_ireturn rfl
theorem n_X8_lookName {P : aCall} {d : Nat} {σ : aSt} (hd : 1 ≤ d) : a_call a_tab P d 246 [.ref 237] σ = b_R (a_call a_tab P (d - 1)) kX8_lookName [] (0, [some (.ref 237), none], [], σ) := e_call hd at_X8_lookName rfl
theorem b_X8_lookName_0 {C : aCall} {σ : aSt} (h : Sh σ) : b_R C kX8_lookName [] (0, [some (.ref 237), none], [], σ) = b_G C kX8_lookName [] 2 5 [some (.ref 237), none] [.ref 237] (C 242 [.ref 237] σ) := by
  refine (e_aload_n (code := kX8_lookName) (pc := 0) rfl rfl).trans ?_
  refine (e_aload_n (code := kX8_lookName) (pc := 1) rfl rfl).trans ?_
  exact (e_callV (σ := σ) (code := kX8_lookName) (pc := 2) (len := 3) (k := 242) (n := 1) (c := 20) (as := [.ref 237]) (st0 := [.ref 237]) rfl rfl rfl rfl rfl (sk_237 (σ := σ) h) rfl)
theorem b_X8_lookName_5 {C : aCall} {σ : aSt} {y0 : Int32} (h : Sh σ) : b_R C kX8_lookName [] (5, [some (.ref 237), none], [.int y0, .ref 237], σ) = b_G C kX8_lookName [] 6 9 [some (.ref 237), none] [] (C 233 [.ref 237, .int y0, .int (nI 1)] σ) := by
  refine (e_iconst (code := kX8_lookName) (pc := 5) rfl).trans ?_
  exact (e_callV (σ := σ) (code := kX8_lookName) (pc := 6) (len := 3) (k := 233) (n := 3) (c := 20) (as := [.ref 237, .int y0, .int (nI 1)]) (st0 := []) rfl rfl rfl rfl rfl (sk_237 (σ := σ) h) rfl)
theorem b_X8_lookName_9 {C : aCall} {σ : aSt} (h : Sh σ) : b_R C kX8_lookName [] (9, [some (.ref 237), none], [], σ) = (if (a_I σ 237 25) = 0 then b_R C kX8_lookName [] (30, [some (.ref 237), none], [.int ((a_I σ 237 22) - (a_I σ 237 23)), .ref 237], σ) else b_R C kX8_lookName [] (30, [some (.ref 237), none], [.int (nI 0), .ref 237], σ)) := by
  refine (e_aload_n (code := kX8_lookName) (pc := 9) rfl rfl).trans ?_
  refine (e_aload_n (code := kX8_lookName) (pc := 10) rfl rfl).trans ?_
  refine (e_getI (code := kX8_lookName) (pc := 11) (c := 10) rfl (sk_237 (σ := σ) h) rfl).trans ?_
  refine (e_ifne (code := kX8_lookName) (pc := 14) rfl).trans ?_
  refine b_ite ?_ ?_
  · refine (e_aload_n (code := kX8_lookName) (pc := 17) rfl rfl).trans ?_
    refine (e_getI (code := kX8_lookName) (pc := 18) (c := 10) rfl (sk_237 (σ := σ) h) rfl).trans ?_
    refine (e_aload_n (code := kX8_lookName) (pc := 21) rfl rfl).trans ?_
    refine (e_getI (code := kX8_lookName) (pc := 22) (c := 10) rfl (sk_237 (σ := σ) h) rfl).trans ?_
    refine (e_isub (code := kX8_lookName) (pc := 25) rfl).trans ?_
    refine (e_goto (code := kX8_lookName) (pc := 26) rfl).trans ?_
    rfl
  · refine (e_iconst (code := kX8_lookName) (pc := 29) rfl).trans ?_
    rfl
theorem b_X8_lookName_30 {C : aCall} {σ : aSt} {y0 : Int32} (h : Sh σ) : b_R C kX8_lookName [] (30, [some (.ref 237), none], [.int y0, .ref 237], σ) = (if (nI 8) < (a_I (a_setI σ 237 30 y0) 237 30) then b_R C kX8_lookName [] (48, [some (.ref 237), none], [.int (nI 0), .ref 237], (a_setI σ 237 30 y0)) else b_R C kX8_lookName [] (48, [some (.ref 237), none], [.int (nI 1), .ref 237], (a_setI σ 237 30 y0))) := by
  refine (e_putI (code := kX8_lookName) (pc := 30) (c := 10) rfl (sk_237 (σ := σ) h) (h_100 rfl)).trans ?_
  refine (e_aload_n (code := kX8_lookName) (pc := 33) (σ := (a_setI σ 237 30 y0)) rfl rfl).trans ?_
  refine (e_aload_n (code := kX8_lookName) (pc := 34) (σ := (a_setI σ 237 30 y0)) rfl rfl).trans ?_
  refine (e_getI (code := kX8_lookName) (pc := 35) (σ := (a_setI σ 237 30 y0)) (c := 10) rfl (sk_237 (σ := σ) h) rfl).trans ?_
  refine (e_bipush (code := kX8_lookName) (pc := 38) (σ := (a_setI σ 237 30 y0)) rfl).trans ?_
  refine (e_icgt (code := kX8_lookName) (pc := 40) (σ := (a_setI σ 237 30 y0)) rfl).trans ?_
  refine b_ite ?_ ?_
  · refine (e_iconst (code := kX8_lookName) (pc := 47) (σ := (a_setI σ 237 30 y0)) rfl).trans ?_
    rfl
  · refine (e_iconst (code := kX8_lookName) (pc := 43) (σ := (a_setI σ 237 30 y0)) rfl).trans ?_
    refine (e_goto (code := kX8_lookName) (pc := 44) (σ := (a_setI σ 237 30 y0)) rfl).trans ?_
    rfl
theorem b_X8_lookName_48 {C : aCall} {σ : aSt} {y0 : Int32} (h : Sh σ) : b_R C kX8_lookName [] (48, [some (.ref 237), none], [.int y0, .ref 237], σ) = b_G C kX8_lookName [] 49 52 [some (.ref 237), none] [] (C 233 [.ref 237, .int y0, .int (nI 2)] σ) := by
  refine (e_iconst (code := kX8_lookName) (pc := 48) rfl).trans ?_
  exact (e_callV (σ := σ) (code := kX8_lookName) (pc := 49) (len := 3) (k := 233) (n := 3) (c := 20) (as := [.ref 237, .int y0, .int (nI 2)]) (st0 := []) rfl rfl rfl rfl rfl (sk_237 (σ := σ) h) rfl)
theorem b_X8_lookName_52 {C : aCall} {σ : aSt} : b_R C kX8_lookName [] (52, [some (.ref 237), none], [], σ) = b_R C kX8_lookName [] (54, [some (.ref 237), some (.int (nI 0))], [], σ) := by
  refine (e_iconst (code := kX8_lookName) (pc := 52) rfl).trans ?_
  refine (e_istore_n (code := kX8_lookName) (pc := 53) rfl rfl rfl).trans ?_
  rfl
theorem b_X8_lookName_54 {C : aCall} {σ : aSt} {x1 : Int32} (h : Sh σ) : b_R C kX8_lookName [] (54, [some (.ref 237), some (.int x1)], [], σ) = (if x1 < (a_I σ 237 30) then (if (a_I σ 237 25) = 0 then b_gd (a_in ((a_I σ 237 23) + x1) 900) (b_gd (a_in x1 8) (b_R C kX8_lookName [] (54, [some (.ref 237), some (.int (x1 + nI 1))], [], (a_setI σ 248 (Int32.toNatClampNeg x1) (a_I σ 247 (Int32.toNatClampNeg ((a_I σ 237 23) + x1))))))) else b_R C kX8_lookName [] (92, [some (.ref 237), some (.int x1)], [], σ)) else b_R C kX8_lookName [] (92, [some (.ref 237), some (.int x1)], [], σ)) := by
  refine (e_iload_n (code := kX8_lookName) (pc := 54) rfl rfl).trans ?_
  refine (e_aload_n (code := kX8_lookName) (pc := 55) rfl rfl).trans ?_
  refine (e_getI (code := kX8_lookName) (pc := 56) (c := 10) rfl (sk_237 (σ := σ) h) rfl).trans ?_
  refine (e_icge (code := kX8_lookName) (pc := 59) rfl).trans ?_
  refine b_ite ?_ ?_
  · refine (e_aload_n (code := kX8_lookName) (pc := 62) rfl rfl).trans ?_
    refine (e_getI (code := kX8_lookName) (pc := 63) (c := 10) rfl (sk_237 (σ := σ) h) rfl).trans ?_
    refine (e_ifne (code := kX8_lookName) (pc := 66) rfl).trans ?_
    refine b_ite ?_ ?_
    · refine (e_aload_n (code := kX8_lookName) (pc := 69) rfl rfl).trans ?_
      refine (e_getR (code := kX8_lookName) (pc := 70) (c := 10) rfl (sk_237 (σ := σ) h) (sr_237_29 (σ := σ) h)).trans ?_
      refine (e_iload_n (code := kX8_lookName) (pc := 73) rfl rfl).trans ?_
      refine (e_aload_n (code := kX8_lookName) (pc := 74) rfl rfl).trans ?_
      refine (e_getR (code := kX8_lookName) (pc := 75) (c := 10) rfl (sk_237 (σ := σ) h) (sr_237_19 (σ := σ) h)).trans ?_
      refine (e_aload_n (code := kX8_lookName) (pc := 78) rfl rfl).trans ?_
      refine (e_getI (code := kX8_lookName) (pc := 79) (c := 10) rfl (sk_237 (σ := σ) h) rfl).trans ?_
      refine (e_iload_n (code := kX8_lookName) (pc := 82) rfl rfl).trans ?_
      refine (e_iadd (code := kX8_lookName) (pc := 83) rfl).trans ?_
      refine (e_iaload (code := kX8_lookName) (pc := 84) rfl (.inl (sk_247 (σ := σ) h)) (sl_247 (σ := σ) h)).trans ?_
      refine b_gd_c ?_
      refine (e_iastore (code := kX8_lookName) (pc := 85) rfl (sk_248 (σ := σ) h) (h_100 rfl) (sl_248 (σ := σ) h)).trans ?_
      refine b_gd_c ?_
      refine (e_iinc (code := kX8_lookName) (pc := 86) (σ := (a_setI σ 248 (Int32.toNatClampNeg x1) (a_I σ 247 (Int32.toNatClampNeg ((a_I σ 237 23) + x1))))) rfl rfl rfl rfl).trans ?_
      refine (e_goto (code := kX8_lookName) (pc := 89) (σ := (a_setI σ 248 (Int32.toNatClampNeg x1) (a_I σ 247 (Int32.toNatClampNeg ((a_I σ 237 23) + x1))))) rfl).trans ?_
      rfl
    · rfl
  · rfl
theorem b_X8_lookName_92 {C : aCall} {σ : aSt} {x1 : Int32} : b_R C kX8_lookName [] (92, [some (.ref 237), some (.int x1)], [], σ) = some (.inl none, σ) := by
  exact e_return_ rfl
theorem n_X8_layName {P : aCall} {d : Nat} {σ : aSt} {x1 : Int32} (hd : 1 ≤ d) : a_call a_tab P d 247 [.ref 237, .int x1] σ = b_R (a_call a_tab P (d - 1)) kX8_layName [] (0, [some (.ref 237), some (.int x1), none], [], σ) := e_call hd at_X8_layName rfl
theorem b_X8_layName_0 {C : aCall} {σ : aSt} {w : Nat} {x1 : Int32} (h : Sh σ) (hw : Rw σ w) : b_R C kX8_layName [] (0, [some (.ref 237), some (.int x1), none], [], σ) = b_gd (a_in x1 720) (b_R C kX8_layName [] (12, [some (.ref 237), some (.int x1), some (.int (nI 0))], [], (a_setI σ w (Int32.toNatClampNeg x1) (a_I σ 237 30)))) := by
  refine (e_aload_n (code := kX8_layName) (pc := 0) rfl rfl).trans ?_
  refine (e_getR (code := kX8_layName) (pc := 1) (c := 10) rfl (sk_237 (σ := σ) h) hw.1).trans ?_
  refine (e_iload_n (code := kX8_layName) (pc := 4) rfl rfl).trans ?_
  refine (e_aload_n (code := kX8_layName) (pc := 5) rfl rfl).trans ?_
  refine (e_getI (code := kX8_layName) (pc := 6) (c := 10) rfl (sk_237 (σ := σ) h) rfl).trans ?_
  refine (e_iastore (code := kX8_layName) (pc := 9) rfl hw.2.1 hw.2.2.1 hw.2.2.2).trans ?_
  refine b_gd_c ?_
  refine (e_iconst (code := kX8_layName) (pc := 10) (σ := (a_setI σ w (Int32.toNatClampNeg x1) (a_I σ 237 30))) rfl).trans ?_
  refine (e_istore_n (code := kX8_layName) (pc := 11) (σ := (a_setI σ w (Int32.toNatClampNeg x1) (a_I σ 237 30))) rfl rfl rfl).trans ?_
  rfl
theorem b_X8_layName_12 {C : aCall} {σ : aSt} {w : Nat} {x1 x2 : Int32} (h : Sh σ) (hw : Rw σ w) : b_R C kX8_layName [] (12, [some (.ref 237), some (.int x1), some (.int x2)], [], σ) = (if x2 < (nI 8) then (if x2 < (a_I σ 237 30) then b_gd (a_in x2 8) (b_R C kX8_layName [] (45, [some (.ref 237), some (.int x1), some (.int x2)], [.int (a_I σ 248 (Int32.toNatClampNeg x2)), .int ((x1 + (nI 1)) + x2), .ref w], σ)) else b_R C kX8_layName [] (45, [some (.ref 237), some (.int x1), some (.int x2)], [.int (nI 0), .int ((x1 + (nI 1)) + x2), .ref w], σ)) else some (.inl none, σ)) := by
  refine (e_iload_n (code := kX8_layName) (pc := 12) rfl rfl).trans ?_
  refine (e_bipush (code := kX8_layName) (pc := 13) rfl).trans ?_
  refine (e_icge (code := kX8_layName) (pc := 15) rfl).trans ?_
  refine b_ite ?_ ?_
  · refine (e_aload_n (code := kX8_layName) (pc := 18) rfl rfl).trans ?_
    refine (e_getR (code := kX8_layName) (pc := 19) (c := 10) rfl (sk_237 (σ := σ) h) hw.1).trans ?_
    refine (e_iload_n (code := kX8_layName) (pc := 22) rfl rfl).trans ?_
    refine (e_iconst (code := kX8_layName) (pc := 23) rfl).trans ?_
    refine (e_iadd (code := kX8_layName) (pc := 24) rfl).trans ?_
    refine (e_iload_n (code := kX8_layName) (pc := 25) rfl rfl).trans ?_
    refine (e_iadd (code := kX8_layName) (pc := 26) rfl).trans ?_
    refine (e_iload_n (code := kX8_layName) (pc := 27) rfl rfl).trans ?_
    refine (e_aload_n (code := kX8_layName) (pc := 28) rfl rfl).trans ?_
    refine (e_getI (code := kX8_layName) (pc := 29) (c := 10) rfl (sk_237 (σ := σ) h) rfl).trans ?_
    refine (e_icge (code := kX8_layName) (pc := 32) rfl).trans ?_
    refine b_ite ?_ ?_
    · refine (e_aload_n (code := kX8_layName) (pc := 35) rfl rfl).trans ?_
      refine (e_getR (code := kX8_layName) (pc := 36) (c := 10) rfl (sk_237 (σ := σ) h) (sr_237_29 (σ := σ) h)).trans ?_
      refine (e_iload_n (code := kX8_layName) (pc := 39) rfl rfl).trans ?_
      refine (e_iaload (code := kX8_layName) (pc := 40) rfl (.inl (sk_248 (σ := σ) h)) (sl_248 (σ := σ) h)).trans ?_
      refine b_gd_c ?_
      refine (e_goto (code := kX8_layName) (pc := 41) rfl).trans ?_
      rfl
    · refine (e_iconst (code := kX8_layName) (pc := 44) rfl).trans ?_
      rfl
  · exact e_return_ rfl
theorem b_X8_layName_45 {C : aCall} {σ : aSt} {w : Nat} {x1 x2 y0 y1 : Int32} (hw : Rw σ w) : b_R C kX8_layName [] (45, [some (.ref 237), some (.int x1), some (.int x2)], [.int y0, .int y1, .ref w], σ) = b_gd (a_in y1 720) (b_R C kX8_layName [] (12, [some (.ref 237), some (.int x1), some (.int (x2 + nI 1))], [], (a_setI σ w (Int32.toNatClampNeg y1) y0))) := by
  refine (e_iastore (code := kX8_layName) (pc := 45) rfl hw.2.1 hw.2.2.1 hw.2.2.2).trans ?_
  refine b_gd_c ?_
  refine (e_iinc (code := kX8_layName) (pc := 46) (σ := (a_setI σ w (Int32.toNatClampNeg y1) y0)) rfl rfl rfl rfl).trans ?_
  refine (e_goto (code := kX8_layName) (pc := 49) (σ := (a_setI σ w (Int32.toNatClampNeg y1) y0)) rfl).trans ?_
  rfl
theorem n_X8_readNew {P : aCall} {d : Nat} {σ : aSt} (hd : 1 ≤ d) : a_call a_tab P d 248 [.ref 237] σ = b_R (a_call a_tab P (d - 1)) kX8_readNew [] (0, [some (.ref 237)], [], σ) := e_call hd at_X8_readNew rfl
theorem b_X8_readNew_0 {C : aCall} {σ : aSt} (h : Sh σ) : b_R C kX8_readNew [] (0, [some (.ref 237)], [], σ) = b_G C kX8_readNew [] 1 4 [some (.ref 237)] [] (C 246 [.ref 237] σ) := by
  refine (e_aload_n (code := kX8_readNew) (pc := 0) rfl rfl).trans ?_
  exact (e_callV (σ := σ) (code := kX8_readNew) (pc := 1) (len := 3) (k := 246) (n := 1) (c := 20) (as := [.ref 237]) (st0 := []) rfl rfl rfl rfl rfl (sk_237 (σ := σ) h) rfl)
theorem b_X8_readNew_4 {C : aCall} {σ : aSt} (h : Sh σ) : b_R C kX8_readNew [] (4, [some (.ref 237)], [], σ) = (if (a_I σ 237 25) = 0 then b_G C kX8_readNew [] 13 16 [some (.ref 237)] [.ref 237] (C 244 [.ref 237] σ) else b_R C kX8_readNew [] (28, [some (.ref 237)], [.ref 237], σ)) := by
  refine (e_aload_n (code := kX8_readNew) (pc := 4) rfl rfl).trans ?_
  refine (e_aload_n (code := kX8_readNew) (pc := 5) rfl rfl).trans ?_
  refine (e_getI (code := kX8_readNew) (pc := 6) (c := 10) rfl (sk_237 (σ := σ) h) rfl).trans ?_
  refine (e_ifne (code := kX8_readNew) (pc := 9) rfl).trans ?_
  refine b_ite ?_ ?_
  · refine (e_aload_n (code := kX8_readNew) (pc := 12) rfl rfl).trans ?_
    exact (e_callV (σ := σ) (code := kX8_readNew) (pc := 13) (len := 3) (k := 244) (n := 1) (c := 20) (as := [.ref 237]) (st0 := [.ref 237]) rfl rfl rfl rfl rfl (sk_237 (σ := σ) h) rfl)
  · rfl
theorem b_X8_readNew_16 {C : aCall} {σ : aSt} {y0 : Int32} (h : Sh σ) : b_R C kX8_readNew [] (16, [some (.ref 237)], [.int y0, .ref 237], σ) = (if y0 = ((-1)) then b_G C kX8_readNew [] 21 24 [some (.ref 237)] [.ref 237] (C 245 [.ref 237] σ) else b_R C kX8_readNew [] (32, [some (.ref 237)], [.ref 237], σ)) := by
  refine (e_iconst (code := kX8_readNew) (pc := 16) rfl).trans ?_
  refine (e_icne (code := kX8_readNew) (pc := 17) rfl).trans ?_
  refine b_ite ?_ ?_
  · refine (e_aload_n (code := kX8_readNew) (pc := 20) rfl rfl).trans ?_
    exact (e_callV (σ := σ) (code := kX8_readNew) (pc := 21) (len := 3) (k := 245) (n := 1) (c := 20) (as := [.ref 237]) (st0 := [.ref 237]) rfl rfl rfl rfl rfl (sk_237 (σ := σ) h) rfl)
  · rfl
theorem b_X8_readNew_24 {C : aCall} {σ : aSt} {y0 : Int32} : b_R C kX8_readNew [] (24, [some (.ref 237)], [.int y0, .ref 237], σ) = (if y0 = ((-1)) then b_R C kX8_readNew [] (28, [some (.ref 237)], [.ref 237], σ) else b_R C kX8_readNew [] (32, [some (.ref 237)], [.ref 237], σ)) := by
  refine (e_iconst (code := kX8_readNew) (pc := 24) rfl).trans ?_
  refine (e_icne (code := kX8_readNew) (pc := 25) rfl).trans ?_
  refine b_ite ?_ ?_
  · rfl
  · rfl
theorem b_X8_readNew_28 {C : aCall} {σ : aSt} : b_R C kX8_readNew [] (28, [some (.ref 237)], [.ref 237], σ) = b_R C kX8_readNew [] (33, [some (.ref 237)], [.int (nI 1), .ref 237], σ) := by
  refine (e_iconst (code := kX8_readNew) (pc := 28) rfl).trans ?_
  refine (e_goto (code := kX8_readNew) (pc := 29) rfl).trans ?_
  rfl
theorem b_X8_readNew_32 {C : aCall} {σ : aSt} : b_R C kX8_readNew [] (32, [some (.ref 237)], [.ref 237], σ) = b_R C kX8_readNew [] (33, [some (.ref 237)], [.int (nI 0), .ref 237], σ) := by
  refine (e_iconst (code := kX8_readNew) (pc := 32) rfl).trans ?_
  rfl
theorem b_X8_readNew_33 {C : aCall} {σ : aSt} {y0 : Int32} (h : Sh σ) : b_R C kX8_readNew [] (33, [some (.ref 237)], [.int y0, .ref 237], σ) = b_G C kX8_readNew [] 34 37 [some (.ref 237)] [] (C 233 [.ref 237, .int y0, .int (nI 3)] σ) := by
  refine (e_iconst (code := kX8_readNew) (pc := 33) rfl).trans ?_
  exact (e_callV (σ := σ) (code := kX8_readNew) (pc := 34) (len := 3) (k := 233) (n := 3) (c := 20) (as := [.ref 237, .int y0, .int (nI 3)]) (st0 := []) rfl rfl rfl rfl rfl (sk_237 (σ := σ) h) rfl)
theorem b_X8_readNew_37 {C : aCall} {σ : aSt} (h : Sh σ) : b_R C kX8_readNew [] (37, [some (.ref 237)], [], σ) = b_G C kX8_readNew [] 38 41 [some (.ref 237)] [] (C 234 [.ref 237] σ) := by
  refine (e_aload_n (code := kX8_readNew) (pc := 37) rfl rfl).trans ?_
  exact (e_callV (σ := σ) (code := kX8_readNew) (pc := 38) (len := 3) (k := 234) (n := 1) (c := 20) (as := [.ref 237]) (st0 := []) rfl rfl rfl rfl rfl (sk_237 (σ := σ) h) rfl)
theorem b_X8_readNew_41 {C : aCall} {σ : aSt} : b_R C kX8_readNew [] (41, [some (.ref 237)], [], σ) = some (.inl none, σ) := by
  exact e_return_ rfl
theorem n_X8_readPart {P : aCall} {d : Nat} {σ : aSt} (hd : 1 ≤ d) : a_call a_tab P d 249 [.ref 237] σ = b_R (a_call a_tab P (d - 1)) kX8_readPart [] (0, [some (.ref 237), none, none, none, none], [], σ) := e_call hd at_X8_readPart rfl
theorem b_X8_readPart_0 {C : aCall} {σ : aSt} (h : Sh σ) : b_R C kX8_readPart [] (0, [some (.ref 237), none, none, none, none], [], σ) = (if (a_I σ 237 25) = 0 then (if (a_I σ 237 24) = (nI 2) then b_R C kX8_readPart [] (16, [some (.ref 237), none, none, none, none], [.ref 237], σ) else b_R C kX8_readPart [] (21, [some (.ref 237), none, none, none, none], [.int (nI 0), .ref 237], σ)) else b_R C kX8_readPart [] (16, [some (.ref 237), none, none, none, none], [.ref 237], σ)) := by
  refine (e_aload_n (code := kX8_readPart) (pc := 0) rfl rfl).trans ?_
  refine (e_aload_n (code := kX8_readPart) (pc := 1) rfl rfl).trans ?_
  refine (e_getI (code := kX8_readPart) (pc := 2) (c := 10) rfl (sk_237 (σ := σ) h) rfl).trans ?_
  refine (e_ifne (code := kX8_readPart) (pc := 5) rfl).trans ?_
  refine b_ite ?_ ?_
  · refine (e_aload_n (code := kX8_readPart) (pc := 8) rfl rfl).trans ?_
    refine (e_getI (code := kX8_readPart) (pc := 9) (c := 10) rfl (sk_237 (σ := σ) h) rfl).trans ?_
    refine (e_iconst (code := kX8_readPart) (pc := 12) rfl).trans ?_
    refine (e_icne (code := kX8_readPart) (pc := 13) rfl).trans ?_
    refine b_ite ?_ ?_
    · rfl
    · refine (e_iconst (code := kX8_readPart) (pc := 20) rfl).trans ?_
      rfl
  · rfl
theorem b_X8_readPart_16 {C : aCall} {σ : aSt} : b_R C kX8_readPart [] (16, [some (.ref 237), none, none, none, none], [.ref 237], σ) = b_R C kX8_readPart [] (21, [some (.ref 237), none, none, none, none], [.int (nI 1), .ref 237], σ) := by
  refine (e_iconst (code := kX8_readPart) (pc := 16) rfl).trans ?_
  refine (e_goto (code := kX8_readPart) (pc := 17) rfl).trans ?_
  rfl
theorem b_X8_readPart_21 {C : aCall} {σ : aSt} {y0 : Int32} (h : Sh σ) : b_R C kX8_readPart [] (21, [some (.ref 237), none, none, none, none], [.int y0, .ref 237], σ) = b_G C kX8_readPart [] 22 25 [some (.ref 237), none, none, none, none] [] (C 233 [.ref 237, .int y0, .int (nI 1)] σ) := by
  refine (e_iconst (code := kX8_readPart) (pc := 21) rfl).trans ?_
  exact (e_callV (σ := σ) (code := kX8_readPart) (pc := 22) (len := 3) (k := 233) (n := 3) (c := 20) (as := [.ref 237, .int y0, .int (nI 1)]) (st0 := []) rfl rfl rfl rfl rfl (sk_237 (σ := σ) h) rfl)
theorem b_X8_readPart_25 {C : aCall} {σ : aSt} (h : Sh σ) : b_R C kX8_readPart [] (25, [some (.ref 237), none, none, none, none], [], σ) = (if (a_I σ 237 25) = 0 then b_G C kX8_readPart [] 34 37 [some (.ref 237), none, none, none, none] [.ref 237] (C 240 [.ref 237] σ) else b_R C kX8_readPart [] (46, [some (.ref 237), none, none, none, none], [.ref 237], σ)) := by
  refine (e_aload_n (code := kX8_readPart) (pc := 25) rfl rfl).trans ?_
  refine (e_aload_n (code := kX8_readPart) (pc := 26) rfl rfl).trans ?_
  refine (e_getI (code := kX8_readPart) (pc := 27) (c := 10) rfl (sk_237 (σ := σ) h) rfl).trans ?_
  refine (e_ifne (code := kX8_readPart) (pc := 30) rfl).trans ?_
  refine b_ite ?_ ?_
  · refine (e_aload_n (code := kX8_readPart) (pc := 33) rfl rfl).trans ?_
    exact (e_callV (σ := σ) (code := kX8_readPart) (pc := 34) (len := 3) (k := 240) (n := 1) (c := 20) (as := [.ref 237]) (st0 := [.ref 237]) rfl rfl rfl rfl rfl (sk_237 (σ := σ) h) rfl)
  · rfl
theorem b_X8_readPart_37 {C : aCall} {σ : aSt} {y0 : Int32} : b_R C kX8_readPart [] (37, [some (.ref 237), none, none, none, none], [.int y0, .ref 237], σ) = b_G C kX8_readPart [] 40 43 [some (.ref 237), none, none, none, none] [.ref 237] (C 147 [.int y0, .int (nI 1), .int (nI 9)] σ) := by
  refine (e_iconst (code := kX8_readPart) (pc := 37) rfl).trans ?_
  refine (e_bipush (code := kX8_readPart) (pc := 38) rfl).trans ?_
  exact (e_callS (code := kX8_readPart) (pc := 40) (len := 3) (k := 147) (n := 3) (as := [.int y0, .int (nI 1), .int (nI 9)]) (st0 := [.ref 237]) rfl rfl rfl rfl)
theorem b_X8_readPart_43 {C : aCall} {σ : aSt} {y0 : Int32} : b_R C kX8_readPart [] (43, [some (.ref 237), none, none, none, none], [.int y0, .ref 237], σ) = (if y0 = 0 then b_R C kX8_readPart [] (51, [some (.ref 237), none, none, none, none], [.int (nI 0), .ref 237], σ) else b_R C kX8_readPart [] (46, [some (.ref 237), none, none, none, none], [.ref 237], σ)) := by
  refine (e_ifeq (code := kX8_readPart) (pc := 43) rfl).trans ?_
  refine b_ite ?_ ?_
  · refine (e_iconst (code := kX8_readPart) (pc := 50) rfl).trans ?_
    rfl
  · rfl
theorem b_X8_readPart_46 {C : aCall} {σ : aSt} : b_R C kX8_readPart [] (46, [some (.ref 237), none, none, none, none], [.ref 237], σ) = b_R C kX8_readPart [] (51, [some (.ref 237), none, none, none, none], [.int (nI 1), .ref 237], σ) := by
  refine (e_iconst (code := kX8_readPart) (pc := 46) rfl).trans ?_
  refine (e_goto (code := kX8_readPart) (pc := 47) rfl).trans ?_
  rfl
theorem b_X8_readPart_51 {C : aCall} {σ : aSt} {y0 : Int32} (h : Sh σ) : b_R C kX8_readPart [] (51, [some (.ref 237), none, none, none, none], [.int y0, .ref 237], σ) = b_G C kX8_readPart [] 52 55 [some (.ref 237), none, none, none, none] [] (C 233 [.ref 237, .int y0, .int (nI 2)] σ) := by
  refine (e_iconst (code := kX8_readPart) (pc := 51) rfl).trans ?_
  exact (e_callV (σ := σ) (code := kX8_readPart) (pc := 52) (len := 3) (k := 233) (n := 3) (c := 20) (as := [.ref 237, .int y0, .int (nI 2)]) (st0 := []) rfl rfl rfl rfl rfl (sk_237 (σ := σ) h) rfl)
theorem b_X8_readPart_55 {C : aCall} {σ : aSt} (h : Sh σ) : b_R C kX8_readPart [] (55, [some (.ref 237), none, none, none, none], [], σ) = (if (a_I σ 237 25) = 0 then (if (a_I σ 237 10) < (nI 4) then b_R C kX8_readPart [] (71, [some (.ref 237), none, none, none, none], [.ref 237], σ) else b_R C kX8_readPart [] (76, [some (.ref 237), none, none, none, none], [.int (nI 0), .ref 237], σ)) else b_R C kX8_readPart [] (71, [some (.ref 237), none, none, none, none], [.ref 237], σ)) := by
  refine (e_aload_n (code := kX8_readPart) (pc := 55) rfl rfl).trans ?_
  refine (e_aload_n (code := kX8_readPart) (pc := 56) rfl rfl).trans ?_
  refine (e_getI (code := kX8_readPart) (pc := 57) (c := 10) rfl (sk_237 (σ := σ) h) rfl).trans ?_
  refine (e_ifne (code := kX8_readPart) (pc := 60) rfl).trans ?_
  refine b_ite ?_ ?_
  · refine (e_aload_n (code := kX8_readPart) (pc := 63) rfl rfl).trans ?_
    refine (e_getI (code := kX8_readPart) (pc := 64) (c := 10) rfl (sk_237 (σ := σ) h) rfl).trans ?_
    refine (e_iconst (code := kX8_readPart) (pc := 67) rfl).trans ?_
    refine (e_icge (code := kX8_readPart) (pc := 68) rfl).trans ?_
    refine b_ite ?_ ?_
    · rfl
    · refine (e_iconst (code := kX8_readPart) (pc := 75) rfl).trans ?_
      rfl
  · rfl
theorem b_X8_readPart_71 {C : aCall} {σ : aSt} : b_R C kX8_readPart [] (71, [some (.ref 237), none, none, none, none], [.ref 237], σ) = b_R C kX8_readPart [] (76, [some (.ref 237), none, none, none, none], [.int (nI 1), .ref 237], σ) := by
  refine (e_iconst (code := kX8_readPart) (pc := 71) rfl).trans ?_
  refine (e_goto (code := kX8_readPart) (pc := 72) rfl).trans ?_
  rfl
theorem b_X8_readPart_76 {C : aCall} {σ : aSt} {y0 : Int32} (h : Sh σ) : b_R C kX8_readPart [] (76, [some (.ref 237), none, none, none, none], [.int y0, .ref 237], σ) = b_G C kX8_readPart [] 77 80 [some (.ref 237), none, none, none, none] [] (C 233 [.ref 237, .int y0, .int (nI 3)] σ) := by
  refine (e_iconst (code := kX8_readPart) (pc := 76) rfl).trans ?_
  exact (e_callV (σ := σ) (code := kX8_readPart) (pc := 77) (len := 3) (k := 233) (n := 3) (c := 20) (as := [.ref 237, .int y0, .int (nI 3)]) (st0 := []) rfl rfl rfl rfl rfl (sk_237 (σ := σ) h) rfl)
theorem b_X8_readPart_80 {C : aCall} {σ : aSt} (h : Sh σ) : b_R C kX8_readPart [] (80, [some (.ref 237), none, none, none, none], [], σ) = (if (a_I σ 237 25) = 0 then b_G C kX8_readPart [] 88 91 [some (.ref 237), none, none, none, none] [] (C 240 [.ref 237] σ) else b_R C kX8_readPart [] (95, [some (.ref 237), none, none, none, none], [.int (nI 0)], σ)) := by
  refine (e_aload_n (code := kX8_readPart) (pc := 80) rfl rfl).trans ?_
  refine (e_getI (code := kX8_readPart) (pc := 81) (c := 10) rfl (sk_237 (σ := σ) h) rfl).trans ?_
  refine (e_ifne (code := kX8_readPart) (pc := 84) rfl).trans ?_
  refine b_ite ?_ ?_
  · refine (e_aload_n (code := kX8_readPart) (pc := 87) rfl rfl).trans ?_
    exact (e_callV (σ := σ) (code := kX8_readPart) (pc := 88) (len := 3) (k := 240) (n := 1) (c := 20) (as := [.ref 237]) (st0 := []) rfl rfl rfl rfl rfl (sk_237 (σ := σ) h) rfl)
  · refine (e_iconst (code := kX8_readPart) (pc := 94) rfl).trans ?_
    rfl
theorem b_X8_readPart_91 {C : aCall} {σ : aSt} {y0 : Int32} : b_R C kX8_readPart [] (91, [some (.ref 237), none, none, none, none], [.int y0], σ) = b_R C kX8_readPart [] (95, [some (.ref 237), none, none, none, none], [.int y0], σ) := by
  refine (e_goto (code := kX8_readPart) (pc := 91) rfl).trans ?_
  rfl
theorem b_X8_readPart_95 {C : aCall} {σ : aSt} {y0 : Int32} (h : Sh σ) : b_R C kX8_readPart [] (95, [some (.ref 237), none, none, none, none], [.int y0], σ) = b_G C kX8_readPart [] 97 100 [some (.ref 237), some (.int y0), none, none, none] [] (C 234 [.ref 237] σ) := by
  refine (e_istore_n (code := kX8_readPart) (pc := 95) rfl rfl rfl).trans ?_
  refine (e_aload_n (code := kX8_readPart) (pc := 96) rfl rfl).trans ?_
  exact (e_callV (σ := σ) (code := kX8_readPart) (pc := 97) (len := 3) (k := 234) (n := 1) (c := 20) (as := [.ref 237]) (st0 := []) rfl rfl rfl rfl rfl (sk_237 (σ := σ) h) rfl)
theorem b_X8_readPart_100 {C : aCall} {σ : aSt} {x1 : Int32} (h : Sh σ) : b_R C kX8_readPart [] (100, [some (.ref 237), some (.int x1), none, none, none], [], σ) = b_G C kX8_readPart [] 102 105 [some (.ref 237), some (.int x1), none, none, none] [.ref 237] (C 242 [.ref 237] σ) := by
  refine (e_aload_n (code := kX8_readPart) (pc := 100) rfl rfl).trans ?_
  refine (e_aload_n (code := kX8_readPart) (pc := 101) rfl rfl).trans ?_
  exact (e_callV (σ := σ) (code := kX8_readPart) (pc := 102) (len := 3) (k := 242) (n := 1) (c := 20) (as := [.ref 237]) (st0 := [.ref 237]) rfl rfl rfl rfl rfl (sk_237 (σ := σ) h) rfl)
theorem b_X8_readPart_105 {C : aCall} {σ : aSt} {x1 y0 : Int32} (h : Sh σ) : b_R C kX8_readPart [] (105, [some (.ref 237), some (.int x1), none, none, none], [.int y0, .ref 237], σ) = b_G C kX8_readPart [] 106 109 [some (.ref 237), some (.int x1), none, none, none] [] (C 233 [.ref 237, .int y0, .int (nI 1)] σ) := by
  refine (e_iconst (code := kX8_readPart) (pc := 105) rfl).trans ?_
  exact (e_callV (σ := σ) (code := kX8_readPart) (pc := 106) (len := 3) (k := 233) (n := 3) (c := 20) (as := [.ref 237, .int y0, .int (nI 1)]) (st0 := []) rfl rfl rfl rfl rfl (sk_237 (σ := σ) h) rfl)
theorem b_X8_readPart_109 {C : aCall} {σ : aSt} {x1 : Int32} (h : Sh σ) : b_R C kX8_readPart [] (109, [some (.ref 237), some (.int x1), none, none, none], [], σ) = (if (a_I σ 237 25) = 0 then b_G C kX8_readPart [] 117 120 [some (.ref 237), some (.int x1), none, none, none] [] (C 244 [.ref 237] σ) else b_R C kX8_readPart [] (124, [some (.ref 237), some (.int x1), none, none, none], [.int ((-1))], σ)) := by
  refine (e_aload_n (code := kX8_readPart) (pc := 109) rfl rfl).trans ?_
  refine (e_getI (code := kX8_readPart) (pc := 110) (c := 10) rfl (sk_237 (σ := σ) h) rfl).trans ?_
  refine (e_ifne (code := kX8_readPart) (pc := 113) rfl).trans ?_
  refine b_ite ?_ ?_
  · refine (e_aload_n (code := kX8_readPart) (pc := 116) rfl rfl).trans ?_
    exact (e_callV (σ := σ) (code := kX8_readPart) (pc := 117) (len := 3) (k := 244) (n := 1) (c := 20) (as := [.ref 237]) (st0 := []) rfl rfl rfl rfl rfl (sk_237 (σ := σ) h) rfl)
  · refine (e_iconst (code := kX8_readPart) (pc := 123) rfl).trans ?_
    rfl
theorem b_X8_readPart_120 {C : aCall} {σ : aSt} {x1 y0 : Int32} : b_R C kX8_readPart [] (120, [some (.ref 237), some (.int x1), none, none, none], [.int y0], σ) = b_R C kX8_readPart [] (124, [some (.ref 237), some (.int x1), none, none, none], [.int y0], σ) := by
  refine (e_goto (code := kX8_readPart) (pc := 120) rfl).trans ?_
  rfl
theorem b_X8_readPart_124 {C : aCall} {σ : aSt} {x1 y0 : Int32} : b_R C kX8_readPart [] (124, [some (.ref 237), some (.int x1), none, none, none], [.int y0], σ) = b_R C kX8_readPart [] (130, [some (.ref 237), some (.int x1), some (.int y0), some (.int (nI 0)), some (.int (nI 0))], [], σ) := by
  refine (e_istore_n (code := kX8_readPart) (pc := 124) rfl rfl rfl).trans ?_
  refine (e_iconst (code := kX8_readPart) (pc := 125) rfl).trans ?_
  refine (e_istore_n (code := kX8_readPart) (pc := 126) rfl rfl rfl).trans ?_
  refine (e_iconst (code := kX8_readPart) (pc := 127) rfl).trans ?_
  refine (e_istore (code := kX8_readPart) (pc := 128) rfl rfl rfl).trans ?_
  rfl
theorem b_X8_readPart_130 {C : aCall} {σ : aSt} {x1 x2 x3 x4 : Int32} (h : Sh σ) : b_R C kX8_readPart [] (130, [some (.ref 237), some (.int x1), some (.int x2), some (.int x3), some (.int x4)], [], σ) = (if x4 < (a_I σ 237 10) then (if x3 = 0 then b_gd (a_in x4 4) ((if (a_I σ 242 (Int32.toNatClampNeg x4)) = x2 then b_R C kX8_readPart [] (154, [some (.ref 237), some (.int x1), some (.int x2), some (.int x3), some (.int x4)], [], σ) else b_R C kX8_readPart [] (159, [some (.ref 237), some (.int x1), some (.int x2), some (.int x3), some (.int x4)], [.int (nI 0)], σ))) else b_R C kX8_readPart [] (154, [some (.ref 237), some (.int x1), some (.int x2), some (.int x3), some (.int x4)], [], σ)) else (if (a_I σ 237 25) = 0 then (if x2 = ((-1)) then b_R C kX8_readPart [] (187, [some (.ref 237), some (.int x1), some (.int x2), some (.int x3), some (.int x4)], [.ref 237], σ) else (if x3 = 0 then b_R C kX8_readPart [] (183, [some (.ref 237), some (.int x1), some (.int x2), some (.int x3), some (.int x4)], [.ref 237], σ) else b_R C kX8_readPart [] (187, [some (.ref 237), some (.int x1), some (.int x2), some (.int x3), some (.int x4)], [.ref 237], σ))) else b_R C kX8_readPart [] (183, [some (.ref 237), some (.int x1), some (.int x2), some (.int x3), some (.int x4)], [.ref 237], σ))) := by
  refine (e_iload (code := kX8_readPart) (pc := 130) rfl rfl).trans ?_
  refine (e_aload_n (code := kX8_readPart) (pc := 132) rfl rfl).trans ?_
  refine (e_getI (code := kX8_readPart) (pc := 133) (c := 10) rfl (sk_237 (σ := σ) h) rfl).trans ?_
  refine (e_icge (code := kX8_readPart) (pc := 136) rfl).trans ?_
  refine b_ite ?_ ?_
  · refine (e_iload_n (code := kX8_readPart) (pc := 139) rfl rfl).trans ?_
    refine (e_ifne (code := kX8_readPart) (pc := 140) rfl).trans ?_
    refine b_ite ?_ ?_
    · refine (e_aload_n (code := kX8_readPart) (pc := 143) rfl rfl).trans ?_
      refine (e_getR (code := kX8_readPart) (pc := 144) (c := 10) rfl (sk_237 (σ := σ) h) (sr_237_8 (σ := σ) h)).trans ?_
      refine (e_iload (code := kX8_readPart) (pc := 147) rfl rfl).trans ?_
      refine (e_iaload (code := kX8_readPart) (pc := 149) rfl (.inl (sk_242 (σ := σ) h)) (sl_242 (σ := σ) h)).trans ?_
      refine b_gd_c ?_
      refine (e_iload_n (code := kX8_readPart) (pc := 150) rfl rfl).trans ?_
      refine (e_icne (code := kX8_readPart) (pc := 151) rfl).trans ?_
      refine b_ite ?_ ?_
      · rfl
      · refine (e_iconst (code := kX8_readPart) (pc := 158) rfl).trans ?_
        rfl
    · rfl
  · refine (e_aload_n (code := kX8_readPart) (pc := 166) rfl rfl).trans ?_
    refine (e_aload_n (code := kX8_readPart) (pc := 167) rfl rfl).trans ?_
    refine (e_getI (code := kX8_readPart) (pc := 168) (c := 10) rfl (sk_237 (σ := σ) h) rfl).trans ?_
    refine (e_ifne (code := kX8_readPart) (pc := 171) rfl).trans ?_
    refine b_ite ?_ ?_
    · refine (e_iload_n (code := kX8_readPart) (pc := 174) rfl rfl).trans ?_
      refine (e_iconst (code := kX8_readPart) (pc := 175) rfl).trans ?_
      refine (e_iceq (code := kX8_readPart) (pc := 176) rfl).trans ?_
      refine b_ite ?_ ?_
      · rfl
      · refine (e_iload_n (code := kX8_readPart) (pc := 179) rfl rfl).trans ?_
        refine (e_ifne (code := kX8_readPart) (pc := 180) rfl).trans ?_
        refine b_ite ?_ ?_
        · rfl
        · rfl
    · rfl
theorem b_X8_readPart_154 {C : aCall} {σ : aSt} {x1 x2 x3 x4 : Int32} : b_R C kX8_readPart [] (154, [some (.ref 237), some (.int x1), some (.int x2), some (.int x3), some (.int x4)], [], σ) = b_R C kX8_readPart [] (159, [some (.ref 237), some (.int x1), some (.int x2), some (.int x3), some (.int x4)], [.int (nI 1)], σ) := by
  refine (e_iconst (code := kX8_readPart) (pc := 154) rfl).trans ?_
  refine (e_goto (code := kX8_readPart) (pc := 155) rfl).trans ?_
  rfl
theorem b_X8_readPart_159 {C : aCall} {σ : aSt} {x1 x2 x3 x4 y0 : Int32} : b_R C kX8_readPart [] (159, [some (.ref 237), some (.int x1), some (.int x2), some (.int x3), some (.int x4)], [.int y0], σ) = b_R C kX8_readPart [] (130, [some (.ref 237), some (.int x1), some (.int x2), some (.int y0), some (.int (x4 + nI 1))], [], σ) := by
  refine (e_istore_n (code := kX8_readPart) (pc := 159) rfl rfl rfl).trans ?_
  refine (e_iinc (code := kX8_readPart) (pc := 160) rfl rfl rfl rfl).trans ?_
  refine (e_goto (code := kX8_readPart) (pc := 163) rfl).trans ?_
  rfl
theorem b_X8_readPart_183 {C : aCall} {σ : aSt} {x1 x2 x3 x4 : Int32} : b_R C kX8_readPart [] (183, [some (.ref 237), some (.int x1), some (.int x2), some (.int x3), some (.int x4)], [.ref 237], σ) = b_R C kX8_readPart [] (188, [some (.ref 237), some (.int x1), some (.int x2), some (.int x3), some (.int x4)], [.int (nI 1), .ref 237], σ) := by
  refine (e_iconst (code := kX8_readPart) (pc := 183) rfl).trans ?_
  refine (e_goto (code := kX8_readPart) (pc := 184) rfl).trans ?_
  rfl
theorem b_X8_readPart_187 {C : aCall} {σ : aSt} {x1 x2 x3 x4 : Int32} : b_R C kX8_readPart [] (187, [some (.ref 237), some (.int x1), some (.int x2), some (.int x3), some (.int x4)], [.ref 237], σ) = b_R C kX8_readPart [] (188, [some (.ref 237), some (.int x1), some (.int x2), some (.int x3), some (.int x4)], [.int (nI 0), .ref 237], σ) := by
  refine (e_iconst (code := kX8_readPart) (pc := 187) rfl).trans ?_
  rfl
theorem b_X8_readPart_188 {C : aCall} {σ : aSt} {x1 x2 x3 x4 y0 : Int32} (h : Sh σ) : b_R C kX8_readPart [] (188, [some (.ref 237), some (.int x1), some (.int x2), some (.int x3), some (.int x4)], [.int y0, .ref 237], σ) = b_G C kX8_readPart [] 189 192 [some (.ref 237), some (.int x1), some (.int x2), some (.int x3), some (.int x4)] [] (C 233 [.ref 237, .int y0, .int (nI 4)] σ) := by
  refine (e_iconst (code := kX8_readPart) (pc := 188) rfl).trans ?_
  exact (e_callV (σ := σ) (code := kX8_readPart) (pc := 189) (len := 3) (k := 233) (n := 3) (c := 20) (as := [.ref 237, .int y0, .int (nI 4)]) (st0 := []) rfl rfl rfl rfl rfl (sk_237 (σ := σ) h) rfl)
theorem b_X8_readPart_192 {C : aCall} {σ : aSt} {x1 x2 x3 x4 : Int32} (h : Sh σ) : b_R C kX8_readPart [] (192, [some (.ref 237), some (.int x1), some (.int x2), some (.int x3), some (.int x4)], [], σ) = (if (a_I σ 237 25) = 0 then b_gd (a_in (a_I σ 237 10) 4) (b_gd (a_in (a_I (a_setI σ 242 (Int32.toNatClampNeg (a_I σ 237 10)) x2) 237 10) 4) (b_R C kX8_readPart [] (229, [some (.ref 237), some (.int x1), some (.int x2), some (.int x3), some (.int x4)], [], (a_setI (a_setI (a_setI σ 242 (Int32.toNatClampNeg (a_I σ 237 10)) x2) 243 (Int32.toNatClampNeg (a_I (a_setI σ 242 (Int32.toNatClampNeg (a_I σ 237 10)) x2) 237 10)) x1) 237 10 ((a_I (a_setI (a_setI σ 242 (Int32.toNatClampNeg (a_I σ 237 10)) x2) 243 (Int32.toNatClampNeg (a_I (a_setI σ 242 (Int32.toNatClampNeg (a_I σ 237 10)) x2) 237 10)) x1) 237 10) + (nI 1)))))) else b_R C kX8_readPart [] (229, [some (.ref 237), some (.int x1), some (.int x2), some (.int x3), some (.int x4)], [], σ)) := by
  refine (e_aload_n (code := kX8_readPart) (pc := 192) rfl rfl).trans ?_
  refine (e_getI (code := kX8_readPart) (pc := 193) (c := 10) rfl (sk_237 (σ := σ) h) rfl).trans ?_
  refine (e_ifne (code := kX8_readPart) (pc := 196) rfl).trans ?_
  refine b_ite ?_ ?_
  · refine (e_aload_n (code := kX8_readPart) (pc := 199) rfl rfl).trans ?_
    refine (e_getR (code := kX8_readPart) (pc := 200) (c := 10) rfl (sk_237 (σ := σ) h) (sr_237_8 (σ := σ) h)).trans ?_
    refine (e_aload_n (code := kX8_readPart) (pc := 203) rfl rfl).trans ?_
    refine (e_getI (code := kX8_readPart) (pc := 204) (c := 10) rfl (sk_237 (σ := σ) h) rfl).trans ?_
    refine (e_iload_n (code := kX8_readPart) (pc := 207) rfl rfl).trans ?_
    refine (e_iastore (code := kX8_readPart) (pc := 208) rfl (sk_242 (σ := σ) h) (h_100 rfl) (sl_242 (σ := σ) h)).trans ?_
    refine b_gd_c ?_
    refine (e_aload_n (code := kX8_readPart) (pc := 209) (σ := (a_setI σ 242 (Int32.toNatClampNeg (a_I σ 237 10)) x2)) rfl rfl).trans ?_
    refine (e_getR (code := kX8_readPart) (pc := 210) (σ := (a_setI σ 242 (Int32.toNatClampNeg (a_I σ 237 10)) x2)) (c := 10) rfl (sk_237 (σ := σ) h) (sr_237_9 (σ := σ) h)).trans ?_
    refine (e_aload_n (code := kX8_readPart) (pc := 213) (σ := (a_setI σ 242 (Int32.toNatClampNeg (a_I σ 237 10)) x2)) rfl rfl).trans ?_
    refine (e_getI (code := kX8_readPart) (pc := 214) (σ := (a_setI σ 242 (Int32.toNatClampNeg (a_I σ 237 10)) x2)) (c := 10) rfl (sk_237 (σ := σ) h) rfl).trans ?_
    refine (e_iload_n (code := kX8_readPart) (pc := 217) (σ := (a_setI σ 242 (Int32.toNatClampNeg (a_I σ 237 10)) x2)) rfl rfl).trans ?_
    refine (e_iastore (code := kX8_readPart) (pc := 218) (σ := (a_setI σ 242 (Int32.toNatClampNeg (a_I σ 237 10)) x2)) rfl (sk_243 (σ := σ) h) (h_100 rfl) (sl_243 (σ := σ) h)).trans ?_
    refine b_gd_c ?_
    refine (e_aload_n (code := kX8_readPart) (pc := 219) (σ := (a_setI (a_setI σ 242 (Int32.toNatClampNeg (a_I σ 237 10)) x2) 243 (Int32.toNatClampNeg (a_I (a_setI σ 242 (Int32.toNatClampNeg (a_I σ 237 10)) x2) 237 10)) x1)) rfl rfl).trans ?_
    refine (e_dup (code := kX8_readPart) (pc := 220) (σ := (a_setI (a_setI σ 242 (Int32.toNatClampNeg (a_I σ 237 10)) x2) 243 (Int32.toNatClampNeg (a_I (a_setI σ 242 (Int32.toNatClampNeg (a_I σ 237 10)) x2) 237 10)) x1)) rfl rfl).trans ?_
    refine (e_getI (code := kX8_readPart) (pc := 221) (σ := (a_setI (a_setI σ 242 (Int32.toNatClampNeg (a_I σ 237 10)) x2) 243 (Int32.toNatClampNeg (a_I (a_setI σ 242 (Int32.toNatClampNeg (a_I σ 237 10)) x2) 237 10)) x1)) (c := 10) rfl (sk_237 (σ := σ) h) rfl).trans ?_
    refine (e_iconst (code := kX8_readPart) (pc := 224) (σ := (a_setI (a_setI σ 242 (Int32.toNatClampNeg (a_I σ 237 10)) x2) 243 (Int32.toNatClampNeg (a_I (a_setI σ 242 (Int32.toNatClampNeg (a_I σ 237 10)) x2) 237 10)) x1)) rfl).trans ?_
    refine (e_iadd (code := kX8_readPart) (pc := 225) (σ := (a_setI (a_setI σ 242 (Int32.toNatClampNeg (a_I σ 237 10)) x2) 243 (Int32.toNatClampNeg (a_I (a_setI σ 242 (Int32.toNatClampNeg (a_I σ 237 10)) x2) 237 10)) x1)) rfl).trans ?_
    refine (e_putI (code := kX8_readPart) (pc := 226) (σ := (a_setI (a_setI σ 242 (Int32.toNatClampNeg (a_I σ 237 10)) x2) 243 (Int32.toNatClampNeg (a_I (a_setI σ 242 (Int32.toNatClampNeg (a_I σ 237 10)) x2) 237 10)) x1)) (c := 10) rfl (sk_237 (σ := σ) h) (h_100 rfl)).trans ?_
    rfl
  · rfl
theorem b_X8_readPart_229 {C : aCall} {σ : aSt} {x1 x2 x3 x4 : Int32} (h : Sh σ) : b_R C kX8_readPart [] (229, [some (.ref 237), some (.int x1), some (.int x2), some (.int x3), some (.int x4)], [], σ) = b_G C kX8_readPart [] 230 233 [some (.ref 237), some (.int x1), some (.int x2), some (.int x3), some (.int x4)] [] (C 234 [.ref 237] σ) := by
  refine (e_aload_n (code := kX8_readPart) (pc := 229) rfl rfl).trans ?_
  exact (e_callV (σ := σ) (code := kX8_readPart) (pc := 230) (len := 3) (k := 234) (n := 1) (c := 20) (as := [.ref 237]) (st0 := []) rfl rfl rfl rfl rfl (sk_237 (σ := σ) h) rfl)
theorem b_X8_readPart_233 {C : aCall} {σ : aSt} {x1 x2 x3 x4 : Int32} : b_R C kX8_readPart [] (233, [some (.ref 237), some (.int x1), some (.int x2), some (.int x3), some (.int x4)], [], σ) = some (.inl none, σ) := by
  exact e_return_ rfl
theorem n_X8_readParts {P : aCall} {d : Nat} {σ : aSt} (hd : 1 ≤ d) : a_call a_tab P d 250 [.ref 237] σ = b_R (a_call a_tab P (d - 1)) kX8_readParts [] (0, [some (.ref 237)], [], σ) := e_call hd at_X8_readParts rfl
theorem b_X8_readParts_0 {C : aCall} {σ : aSt} (h : Sh σ) : b_R C kX8_readParts [] (0, [some (.ref 237)], [], σ) = b_G C kX8_readParts [] 6 9 [some (.ref 237)] [] (C 249 [.ref 237] (a_setI σ 237 10 (nI 0))) := by
  refine (e_aload_n (code := kX8_readParts) (pc := 0) rfl rfl).trans ?_
  refine (e_iconst (code := kX8_readParts) (pc := 1) rfl).trans ?_
  refine (e_putI (code := kX8_readParts) (pc := 2) (c := 10) rfl (sk_237 (σ := σ) h) (h_100 rfl)).trans ?_
  refine (e_aload_n (code := kX8_readParts) (pc := 5) (σ := (a_setI σ 237 10 (nI 0))) rfl rfl).trans ?_
  exact (e_callV (σ := (a_setI σ 237 10 (nI 0))) (code := kX8_readParts) (pc := 6) (len := 3) (k := 249) (n := 1) (c := 20) (as := [.ref 237]) (st0 := []) rfl rfl rfl rfl rfl (sk_237 (σ := σ) h) rfl)
theorem b_X8_readParts_9 {C : aCall} {σ : aSt} (h : Sh σ) : b_R C kX8_readParts [] (9, [some (.ref 237)], [], σ) = b_G C kX8_readParts [] 12 15 [some (.ref 237)] [] (C 235 [.ref 237, .int (nI 43)] σ) := by
  refine (e_aload_n (code := kX8_readParts) (pc := 9) rfl rfl).trans ?_
  refine (e_bipush (code := kX8_readParts) (pc := 10) rfl).trans ?_
  exact (e_callV (σ := σ) (code := kX8_readParts) (pc := 12) (len := 3) (k := 235) (n := 2) (c := 20) (as := [.ref 237, .int (nI 43)]) (st0 := []) rfl rfl rfl rfl rfl (sk_237 (σ := σ) h) rfl)
theorem b_X8_readParts_15 {C : aCall} {σ : aSt} {y0 : Int32} (h : Sh σ) : b_R C kX8_readParts [] (15, [some (.ref 237)], [.int y0], σ) = (if y0 = 0 then some (.inl none, σ) else b_G C kX8_readParts [] 19 22 [some (.ref 237)] [] (C 234 [.ref 237] σ)) := by
  refine (e_ifeq (code := kX8_readParts) (pc := 15) rfl).trans ?_
  refine b_ite ?_ ?_
  · exact e_return_ rfl
  · refine (e_aload_n (code := kX8_readParts) (pc := 18) rfl rfl).trans ?_
    exact (e_callV (σ := σ) (code := kX8_readParts) (pc := 19) (len := 3) (k := 234) (n := 1) (c := 20) (as := [.ref 237]) (st0 := []) rfl rfl rfl rfl rfl (sk_237 (σ := σ) h) rfl)
theorem b_X8_readParts_22 {C : aCall} {σ : aSt} (h : Sh σ) : b_R C kX8_readParts [] (22, [some (.ref 237)], [], σ) = b_G C kX8_readParts [] 23 26 [some (.ref 237)] [] (C 249 [.ref 237] σ) := by
  refine (e_aload_n (code := kX8_readParts) (pc := 22) rfl rfl).trans ?_
  exact (e_callV (σ := σ) (code := kX8_readParts) (pc := 23) (len := 3) (k := 249) (n := 1) (c := 20) (as := [.ref 237]) (st0 := []) rfl rfl rfl rfl rfl (sk_237 (σ := σ) h) rfl)
theorem b_X8_readParts_26 {C : aCall} {σ : aSt} : b_R C kX8_readParts [] (26, [some (.ref 237)], [], σ) = b_R C kX8_readParts [] (9, [some (.ref 237)], [], σ) := by
  refine (e_goto (code := kX8_readParts) (pc := 26) rfl).trans ?_
  rfl
theorem n_X8_layParts {P : aCall} {d : Nat} {σ : aSt} {x1 : Int32} (hd : 1 ≤ d) : a_call a_tab P d 251 [.ref 237, .int x1] σ = b_R (a_call a_tab P (d - 1)) kX8_layParts [] (0, [some (.ref 237), some (.int x1), none], [], σ) := e_call hd at_X8_layParts rfl
theorem b_X8_layParts_0 {C : aCall} {σ : aSt} {x1 : Int32} (h : Sh σ) : b_R C kX8_layParts [] (0, [some (.ref 237), some (.int x1), none], [], σ) = b_G C kX8_layParts [] 8 11 [some (.ref 237), some (.int x1), none] [] (C 156 [.ref 237, .int x1, .int (nI 9), .int (a_I σ 237 10)] σ) := by
  refine (e_aload_n (code := kX8_layParts) (pc := 0) rfl rfl).trans ?_
  refine (e_iload_n (code := kX8_layParts) (pc := 1) rfl rfl).trans ?_
  refine (e_bipush (code := kX8_layParts) (pc := 2) rfl).trans ?_
  refine (e_aload_n (code := kX8_layParts) (pc := 4) rfl rfl).trans ?_
  refine (e_getI (code := kX8_layParts) (pc := 5) (c := 10) rfl (sk_237 (σ := σ) h) rfl).trans ?_
  exact (e_callV (σ := σ) (code := kX8_layParts) (pc := 8) (len := 3) (k := 156) (n := 4) (c := 20) (as := [.ref 237, .int x1, .int (nI 9), .int (a_I σ 237 10)]) (st0 := []) rfl rfl rfl rfl rfl (sk_237 (σ := σ) h) rfl)
theorem b_X8_layParts_11 {C : aCall} {σ : aSt} {x1 : Int32} : b_R C kX8_layParts [] (11, [some (.ref 237), some (.int x1), none], [], σ) = b_R C kX8_layParts [] (13, [some (.ref 237), some (.int x1), some (.int (nI 0))], [], σ) := by
  refine (e_iconst (code := kX8_layParts) (pc := 11) rfl).trans ?_
  refine (e_istore_n (code := kX8_layParts) (pc := 12) rfl rfl rfl).trans ?_
  rfl
theorem b_X8_layParts_13 {C : aCall} {σ : aSt} {x1 x2 : Int32} (h : Sh σ) : b_R C kX8_layParts [] (13, [some (.ref 237), some (.int x1), some (.int x2)], [], σ) = (if x2 < (nI 4) then (if x2 < (a_I σ 237 10) then b_gd (a_in x2 4) (b_R C kX8_layParts [] (42, [some (.ref 237), some (.int x1), some (.int x2)], [.int (a_I σ 242 (Int32.toNatClampNeg x2)), .int ((nI 10) + x2), .int x1, .ref 237], σ)) else b_R C kX8_layParts [] (42, [some (.ref 237), some (.int x1), some (.int x2)], [.int (nI 0), .int ((nI 10) + x2), .int x1, .ref 237], σ)) else some (.inl none, σ)) := by
  refine (e_iload_n (code := kX8_layParts) (pc := 13) rfl rfl).trans ?_
  refine (e_iconst (code := kX8_layParts) (pc := 14) rfl).trans ?_
  refine (e_icge (code := kX8_layParts) (pc := 15) rfl).trans ?_
  refine b_ite ?_ ?_
  · refine (e_aload_n (code := kX8_layParts) (pc := 18) rfl rfl).trans ?_
    refine (e_iload_n (code := kX8_layParts) (pc := 19) rfl rfl).trans ?_
    refine (e_bipush (code := kX8_layParts) (pc := 20) rfl).trans ?_
    refine (e_iload_n (code := kX8_layParts) (pc := 22) rfl rfl).trans ?_
    refine (e_iadd (code := kX8_layParts) (pc := 23) rfl).trans ?_
    refine (e_iload_n (code := kX8_layParts) (pc := 24) rfl rfl).trans ?_
    refine (e_aload_n (code := kX8_layParts) (pc := 25) rfl rfl).trans ?_
    refine (e_getI (code := kX8_layParts) (pc := 26) (c := 10) rfl (sk_237 (σ := σ) h) rfl).trans ?_
    refine (e_icge (code := kX8_layParts) (pc := 29) rfl).trans ?_
    refine b_ite ?_ ?_
    · refine (e_aload_n (code := kX8_layParts) (pc := 32) rfl rfl).trans ?_
      refine (e_getR (code := kX8_layParts) (pc := 33) (c := 10) rfl (sk_237 (σ := σ) h) (sr_237_8 (σ := σ) h)).trans ?_
      refine (e_iload_n (code := kX8_layParts) (pc := 36) rfl rfl).trans ?_
      refine (e_iaload (code := kX8_layParts) (pc := 37) rfl (.inl (sk_242 (σ := σ) h)) (sl_242 (σ := σ) h)).trans ?_
      refine b_gd_c ?_
      refine (e_goto (code := kX8_layParts) (pc := 38) rfl).trans ?_
      rfl
    · refine (e_iconst (code := kX8_layParts) (pc := 41) rfl).trans ?_
      rfl
  · exact e_return_ rfl
theorem b_X8_layParts_42 {C : aCall} {σ : aSt} {x1 x2 y0 y1 y2 : Int32} (h : Sh σ) : b_R C kX8_layParts [] (42, [some (.ref 237), some (.int x1), some (.int x2)], [.int y0, .int y1, .int y2, .ref 237], σ) = b_G C kX8_layParts [] 42 45 [some (.ref 237), some (.int x1), some (.int x2)] [] (C 156 [.ref 237, .int y2, .int y1, .int y0] σ) := by
  exact (e_callV (σ := σ) (code := kX8_layParts) (pc := 42) (len := 3) (k := 156) (n := 4) (c := 20) (as := [.ref 237, .int y2, .int y1, .int y0]) (st0 := []) rfl rfl rfl rfl rfl (sk_237 (σ := σ) h) rfl)
theorem b_X8_layParts_45 {C : aCall} {σ : aSt} {x1 x2 : Int32} (h : Sh σ) : b_R C kX8_layParts [] (45, [some (.ref 237), some (.int x1), some (.int x2)], [], σ) = (if x2 < (a_I σ 237 10) then b_gd (a_in x2 4) (b_R C kX8_layParts [] (69, [some (.ref 237), some (.int x1), some (.int x2)], [.int (a_I σ 243 (Int32.toNatClampNeg x2)), .int ((nI 14) + x2), .int x1, .ref 237], σ)) else b_R C kX8_layParts [] (69, [some (.ref 237), some (.int x1), some (.int x2)], [.int (nI 0), .int ((nI 14) + x2), .int x1, .ref 237], σ)) := by
  refine (e_aload_n (code := kX8_layParts) (pc := 45) rfl rfl).trans ?_
  refine (e_iload_n (code := kX8_layParts) (pc := 46) rfl rfl).trans ?_
  refine (e_bipush (code := kX8_layParts) (pc := 47) rfl).trans ?_
  refine (e_iload_n (code := kX8_layParts) (pc := 49) rfl rfl).trans ?_
  refine (e_iadd (code := kX8_layParts) (pc := 50) rfl).trans ?_
  refine (e_iload_n (code := kX8_layParts) (pc := 51) rfl rfl).trans ?_
  refine (e_aload_n (code := kX8_layParts) (pc := 52) rfl rfl).trans ?_
  refine (e_getI (code := kX8_layParts) (pc := 53) (c := 10) rfl (sk_237 (σ := σ) h) rfl).trans ?_
  refine (e_icge (code := kX8_layParts) (pc := 56) rfl).trans ?_
  refine b_ite ?_ ?_
  · refine (e_aload_n (code := kX8_layParts) (pc := 59) rfl rfl).trans ?_
    refine (e_getR (code := kX8_layParts) (pc := 60) (c := 10) rfl (sk_237 (σ := σ) h) (sr_237_9 (σ := σ) h)).trans ?_
    refine (e_iload_n (code := kX8_layParts) (pc := 63) rfl rfl).trans ?_
    refine (e_iaload (code := kX8_layParts) (pc := 64) rfl (.inl (sk_243 (σ := σ) h)) (sl_243 (σ := σ) h)).trans ?_
    refine b_gd_c ?_
    refine (e_goto (code := kX8_layParts) (pc := 65) rfl).trans ?_
    rfl
  · refine (e_iconst (code := kX8_layParts) (pc := 68) rfl).trans ?_
    rfl
theorem b_X8_layParts_69 {C : aCall} {σ : aSt} {x1 x2 y0 y1 y2 : Int32} (h : Sh σ) : b_R C kX8_layParts [] (69, [some (.ref 237), some (.int x1), some (.int x2)], [.int y0, .int y1, .int y2, .ref 237], σ) = b_G C kX8_layParts [] 69 72 [some (.ref 237), some (.int x1), some (.int x2)] [] (C 156 [.ref 237, .int y2, .int y1, .int y0] σ) := by
  exact (e_callV (σ := σ) (code := kX8_layParts) (pc := 69) (len := 3) (k := 156) (n := 4) (c := 20) (as := [.ref 237, .int y2, .int y1, .int y0]) (st0 := []) rfl rfl rfl rfl rfl (sk_237 (σ := σ) h) rfl)
theorem b_X8_layParts_72 {C : aCall} {σ : aSt} {x1 x2 : Int32} : b_R C kX8_layParts [] (72, [some (.ref 237), some (.int x1), some (.int x2)], [], σ) = b_R C kX8_layParts [] (13, [some (.ref 237), some (.int x1), some (.int (x2 + nI 1))], [], σ) := by
  refine (e_iinc (code := kX8_layParts) (pc := 72) rfl rfl rfl rfl).trans ?_
  refine (e_goto (code := kX8_layParts) (pc := 75) rfl).trans ?_
  rfl
theorem n_X8_readTube {P : aCall} {d : Nat} {σ : aSt} (hd : 1 ≤ d) : a_call a_tab P d 252 [.ref 237] σ = b_R (a_call a_tab P (d - 1)) kX8_readTube [] (0, [some (.ref 237), none, none], [], σ) := e_call hd at_X8_readTube rfl
theorem b_X8_readTube_0 {C : aCall} {σ : aSt} {w : Nat} (h : Sh σ) (hw : Rw σ w) : b_R C kX8_readTube [] (0, [some (.ref 237), none, none], [], σ) = b_gd (a_in (nI 0) 720) ((if (a_I σ w (Int32.toNatClampNeg (nI 0))) < (nI 20) then b_R C kX8_readTube [] (17, [some (.ref 237), none, none], [.int (nI 1), .ref 237], σ) else b_R C kX8_readTube [] (17, [some (.ref 237), none, none], [.int (nI 0), .ref 237], σ))) := by
  refine (e_aload_n (code := kX8_readTube) (pc := 0) rfl rfl).trans ?_
  refine (e_aload_n (code := kX8_readTube) (pc := 1) rfl rfl).trans ?_
  refine (e_getR (code := kX8_readTube) (pc := 2) (c := 10) rfl (sk_237 (σ := σ) h) hw.1).trans ?_
  refine (e_iconst (code := kX8_readTube) (pc := 5) rfl).trans ?_
  refine (e_iaload (code := kX8_readTube) (pc := 6) rfl (.inl hw.2.1) hw.2.2.2).trans ?_
  refine b_gd_c ?_
  refine (e_bipush (code := kX8_readTube) (pc := 7) rfl).trans ?_
  refine (e_icge (code := kX8_readTube) (pc := 9) rfl).trans ?_
  refine b_ite ?_ ?_
  · refine (e_iconst (code := kX8_readTube) (pc := 12) rfl).trans ?_
    refine (e_goto (code := kX8_readTube) (pc := 13) rfl).trans ?_
    rfl
  · refine (e_iconst (code := kX8_readTube) (pc := 16) rfl).trans ?_
    rfl
theorem b_X8_readTube_17 {C : aCall} {σ : aSt} {y0 : Int32} (h : Sh σ) : b_R C kX8_readTube [] (17, [some (.ref 237), none, none], [.int y0, .ref 237], σ) = b_G C kX8_readTube [] 18 21 [some (.ref 237), none, none] [] (C 233 [.ref 237, .int y0, .int (nI 3)] σ) := by
  refine (e_iconst (code := kX8_readTube) (pc := 17) rfl).trans ?_
  exact (e_callV (σ := σ) (code := kX8_readTube) (pc := 18) (len := 3) (k := 233) (n := 3) (c := 20) (as := [.ref 237, .int y0, .int (nI 3)]) (st0 := []) rfl rfl rfl rfl rfl (sk_237 (σ := σ) h) rfl)
theorem b_X8_readTube_21 {C : aCall} {σ : aSt} (h : Sh σ) : b_R C kX8_readTube [] (21, [some (.ref 237), none, none], [], σ) = b_G C kX8_readTube [] 22 25 [some (.ref 237), none, none] [] (C 234 [.ref 237] σ) := by
  refine (e_aload_n (code := kX8_readTube) (pc := 21) rfl rfl).trans ?_
  exact (e_callV (σ := σ) (code := kX8_readTube) (pc := 22) (len := 3) (k := 234) (n := 1) (c := 20) (as := [.ref 237]) (st0 := []) rfl rfl rfl rfl rfl (sk_237 (σ := σ) h) rfl)
theorem b_X8_readTube_25 {C : aCall} {σ : aSt} (h : Sh σ) : b_R C kX8_readTube [] (25, [some (.ref 237), none, none], [], σ) = b_G C kX8_readTube [] 26 29 [some (.ref 237), none, none] [] (C 248 [.ref 237] σ) := by
  refine (e_aload_n (code := kX8_readTube) (pc := 25) rfl rfl).trans ?_
  exact (e_callV (σ := σ) (code := kX8_readTube) (pc := 26) (len := 3) (k := 248) (n := 1) (c := 20) (as := [.ref 237]) (st0 := []) rfl rfl rfl rfl rfl (sk_237 (σ := σ) h) rfl)
theorem b_X8_readTube_29 {C : aCall} {σ : aSt} {w : Nat} (h : Sh σ) (hw : Rw σ w) : b_R C kX8_readTube [] (29, [some (.ref 237), none, none], [], σ) = (if (a_I σ 237 25) = 0 then b_gd (a_in (nI 0) 720) (b_G C kX8_readTube [] 54 57 [some (.ref 237), some (.int (a_I σ w (Int32.toNatClampNeg (nI 0)))), none] [] (C 247 [.ref 237, .int (((nI 8) + ((nI 14) * (a_I σ w (Int32.toNatClampNeg (nI 0))))) + (nI 5))] σ)) else some (.inl none, σ)) := by
  refine (e_aload_n (code := kX8_readTube) (pc := 29) rfl rfl).trans ?_
  refine (e_getI (code := kX8_readTube) (pc := 30) (c := 10) rfl (sk_237 (σ := σ) h) rfl).trans ?_
  refine (e_ifeq (code := kX8_readTube) (pc := 33) rfl).trans ?_
  refine b_ite ?_ ?_
  · refine (e_aload_n (code := kX8_readTube) (pc := 37) rfl rfl).trans ?_
    refine (e_getR (code := kX8_readTube) (pc := 38) (c := 10) rfl (sk_237 (σ := σ) h) hw.1).trans ?_
    refine (e_iconst (code := kX8_readTube) (pc := 41) rfl).trans ?_
    refine (e_iaload (code := kX8_readTube) (pc := 42) rfl (.inl hw.2.1) hw.2.2.2).trans ?_
    refine b_gd_c ?_
    refine (e_istore_n (code := kX8_readTube) (pc := 43) rfl rfl rfl).trans ?_
    refine (e_aload_n (code := kX8_readTube) (pc := 44) rfl rfl).trans ?_
    refine (e_bipush (code := kX8_readTube) (pc := 45) rfl).trans ?_
    refine (e_bipush (code := kX8_readTube) (pc := 47) rfl).trans ?_
    refine (e_iload_n (code := kX8_readTube) (pc := 49) rfl rfl).trans ?_
    refine (e_imul (code := kX8_readTube) (pc := 50) rfl).trans ?_
    refine (e_iadd (code := kX8_readTube) (pc := 51) rfl).trans ?_
    refine (e_iconst (code := kX8_readTube) (pc := 52) rfl).trans ?_
    refine (e_iadd (code := kX8_readTube) (pc := 53) rfl).trans ?_
    exact (e_callV (σ := σ) (code := kX8_readTube) (pc := 54) (len := 3) (k := 247) (n := 2) (c := 20) (as := [.ref 237, .int (((nI 8) + ((nI 14) * (a_I σ w (Int32.toNatClampNeg (nI 0))))) + (nI 5))]) (st0 := []) rfl rfl rfl rfl rfl (sk_237 (σ := σ) h) rfl)
  · exact e_return_ rfl
theorem b_X8_readTube_57 {C : aCall} {σ : aSt} {x1 : Int32} : b_R C kX8_readTube [] (57, [some (.ref 237), some (.int x1), none], [], σ) = b_R C kX8_readTube [] (59, [some (.ref 237), some (.int x1), some (.int (nI 0))], [], σ) := by
  refine (e_iconst (code := kX8_readTube) (pc := 57) rfl).trans ?_
  refine (e_istore_n (code := kX8_readTube) (pc := 58) rfl rfl rfl).trans ?_
  rfl
theorem b_X8_readTube_59 {C : aCall} {σ : aSt} {x1 x2 : Int32} (h : Sh σ) : b_R C kX8_readTube [] (59, [some (.ref 237), some (.int x1), some (.int x2)], [], σ) = (if x2 < (nI 3) then b_G C kX8_readTube [] 72 75 [some (.ref 237), some (.int x1), some (.int x2)] [.int x2, .int x1, .ref 237] (C 241 [.ref 237, .int (nI 0), .int (nI 255)] σ) else (if (a_I σ 237 25) = 0 then (if (a_I σ 237 24) = (nI 2) then b_G C kX8_readTube [] 107 110 [some (.ref 237), some (.int x1), some (.int x2)] [.int (nI 3), .int x1, .ref 237] (C 241 [.ref 237, .int (nI 0), .int (nI 9999)] σ) else b_R C kX8_readTube [] (113, [some (.ref 237), some (.int x1), some (.int x2)], [.int (nI 3), .int x1, .ref 237], σ)) else b_R C kX8_readTube [] (113, [some (.ref 237), some (.int x1), some (.int x2)], [.int (nI 3), .int x1, .ref 237], σ))) := by
  refine (e_iload_n (code := kX8_readTube) (pc := 59) rfl rfl).trans ?_
  refine (e_iconst (code := kX8_readTube) (pc := 60) rfl).trans ?_
  refine (e_icge (code := kX8_readTube) (pc := 61) rfl).trans ?_
  refine b_ite ?_ ?_
  · refine (e_aload_n (code := kX8_readTube) (pc := 64) rfl rfl).trans ?_
    refine (e_iload_n (code := kX8_readTube) (pc := 65) rfl rfl).trans ?_
    refine (e_iload_n (code := kX8_readTube) (pc := 66) rfl rfl).trans ?_
    refine (e_aload_n (code := kX8_readTube) (pc := 67) rfl rfl).trans ?_
    refine (e_iconst (code := kX8_readTube) (pc := 68) rfl).trans ?_
    refine (e_sipush (code := kX8_readTube) (pc := 69) rfl).trans ?_
    exact (e_callV (σ := σ) (code := kX8_readTube) (pc := 72) (len := 3) (k := 241) (n := 3) (c := 20) (as := [.ref 237, .int (nI 0), .int (nI 255)]) (st0 := [.int x2, .int x1, .ref 237]) rfl rfl rfl rfl rfl (sk_237 (σ := σ) h) rfl)
  · refine (e_aload_n (code := kX8_readTube) (pc := 84) rfl rfl).trans ?_
    refine (e_iload_n (code := kX8_readTube) (pc := 85) rfl rfl).trans ?_
    refine (e_iconst (code := kX8_readTube) (pc := 86) rfl).trans ?_
    refine (e_aload_n (code := kX8_readTube) (pc := 87) rfl rfl).trans ?_
    refine (e_getI (code := kX8_readTube) (pc := 88) (c := 10) rfl (sk_237 (σ := σ) h) rfl).trans ?_
    refine (e_ifne (code := kX8_readTube) (pc := 91) rfl).trans ?_
    refine b_ite ?_ ?_
    · refine (e_aload_n (code := kX8_readTube) (pc := 94) rfl rfl).trans ?_
      refine (e_getI (code := kX8_readTube) (pc := 95) (c := 10) rfl (sk_237 (σ := σ) h) rfl).trans ?_
      refine (e_iconst (code := kX8_readTube) (pc := 98) rfl).trans ?_
      refine (e_icne (code := kX8_readTube) (pc := 99) rfl).trans ?_
      refine b_ite ?_ ?_
      · refine (e_aload_n (code := kX8_readTube) (pc := 102) rfl rfl).trans ?_
        refine (e_iconst (code := kX8_readTube) (pc := 103) rfl).trans ?_
        refine (e_sipush (code := kX8_readTube) (pc := 104) rfl).trans ?_
        exact (e_callV (σ := σ) (code := kX8_readTube) (pc := 107) (len := 3) (k := 241) (n := 3) (c := 20) (as := [.ref 237, .int (nI 0), .int (nI 9999)]) (st0 := [.int (nI 3), .int x1, .ref 237]) rfl rfl rfl rfl rfl (sk_237 (σ := σ) h) rfl)
      · rfl
    · rfl
theorem b_X8_readTube_75 {C : aCall} {σ : aSt} {x1 x2 y0 y1 y2 : Int32} (h : Sh σ) : b_R C kX8_readTube [] (75, [some (.ref 237), some (.int x1), some (.int x2)], [.int y0, .int y1, .int y2, .ref 237], σ) = b_G C kX8_readTube [] 75 78 [some (.ref 237), some (.int x1), some (.int x2)] [] (C 154 [.ref 237, .int y2, .int y1, .int y0] σ) := by
  exact (e_callV (σ := σ) (code := kX8_readTube) (pc := 75) (len := 3) (k := 154) (n := 4) (c := 20) (as := [.ref 237, .int y2, .int y1, .int y0]) (st0 := []) rfl rfl rfl rfl rfl (sk_237 (σ := σ) h) rfl)
theorem b_X8_readTube_78 {C : aCall} {σ : aSt} {x1 x2 : Int32} : b_R C kX8_readTube [] (78, [some (.ref 237), some (.int x1), some (.int x2)], [], σ) = b_R C kX8_readTube [] (59, [some (.ref 237), some (.int x1), some (.int (x2 + nI 1))], [], σ) := by
  refine (e_iinc (code := kX8_readTube) (pc := 78) rfl rfl rfl rfl).trans ?_
  refine (e_goto (code := kX8_readTube) (pc := 81) rfl).trans ?_
  rfl
theorem b_X8_readTube_110 {C : aCall} {σ : aSt} {x1 x2 y0 y1 y2 : Int32} : b_R C kX8_readTube [] (110, [some (.ref 237), some (.int x1), some (.int x2)], [.int y0, .int y1, .int y2, .ref 237], σ) = b_R C kX8_readTube [] (115, [some (.ref 237), some (.int x1), some (.int x2)], [.int y0, .int y1, .int y2, .ref 237], σ) := by
  refine (e_goto (code := kX8_readTube) (pc := 110) rfl).trans ?_
  rfl
theorem b_X8_readTube_113 {C : aCall} {σ : aSt} {x1 x2 y0 y1 : Int32} : b_R C kX8_readTube [] (113, [some (.ref 237), some (.int x1), some (.int x2)], [.int y0, .int y1, .ref 237], σ) = b_R C kX8_readTube [] (115, [some (.ref 237), some (.int x1), some (.int x2)], [.int (nI 100), .int y0, .int y1, .ref 237], σ) := by
  refine (e_bipush (code := kX8_readTube) (pc := 113) rfl).trans ?_
  rfl
theorem b_X8_readTube_115 {C : aCall} {σ : aSt} {x1 x2 y0 y1 y2 : Int32} (h : Sh σ) : b_R C kX8_readTube [] (115, [some (.ref 237), some (.int x1), some (.int x2)], [.int y0, .int y1, .int y2, .ref 237], σ) = b_G C kX8_readTube [] 115 118 [some (.ref 237), some (.int x1), some (.int x2)] [] (C 154 [.ref 237, .int y2, .int y1, .int y0] σ) := by
  exact (e_callV (σ := σ) (code := kX8_readTube) (pc := 115) (len := 3) (k := 154) (n := 4) (c := 20) (as := [.ref 237, .int y2, .int y1, .int y0]) (st0 := []) rfl rfl rfl rfl rfl (sk_237 (σ := σ) h) rfl)
theorem b_X8_readTube_118 {C : aCall} {σ : aSt} {x1 x2 : Int32} (h : Sh σ) : b_R C kX8_readTube [] (118, [some (.ref 237), some (.int x1), some (.int x2)], [], σ) = b_G C kX8_readTube [] 122 125 [some (.ref 237), some (.int x1), some (.int x2)] [] (C 154 [.ref 237, .int x1, .int (nI 4), .int (nI 1)] σ) := by
  refine (e_aload_n (code := kX8_readTube) (pc := 118) rfl rfl).trans ?_
  refine (e_iload_n (code := kX8_readTube) (pc := 119) rfl rfl).trans ?_
  refine (e_iconst (code := kX8_readTube) (pc := 120) rfl).trans ?_
  refine (e_iconst (code := kX8_readTube) (pc := 121) rfl).trans ?_
  exact (e_callV (σ := σ) (code := kX8_readTube) (pc := 122) (len := 3) (k := 154) (n := 4) (c := 20) (as := [.ref 237, .int x1, .int (nI 4), .int (nI 1)]) (st0 := []) rfl rfl rfl rfl rfl (sk_237 (σ := σ) h) rfl)
theorem b_X8_readTube_125 {C : aCall} {σ : aSt} {w : Nat} {x1 x2 : Int32} (h : Sh σ) (hw : Rw σ w) : b_R C kX8_readTube [] (125, [some (.ref 237), some (.int x1), some (.int x2)], [], σ) = b_gd (a_in (nI 0) 720) (b_gd (a_in (nI 0) 720) (some (.inl none, (a_setI σ w (Int32.toNatClampNeg (nI 0)) ((a_I σ w (Int32.toNatClampNeg (nI 0))) + (nI 1)))))) := by
  refine (e_aload_n (code := kX8_readTube) (pc := 125) rfl rfl).trans ?_
  refine (e_getR (code := kX8_readTube) (pc := 126) (c := 10) rfl (sk_237 (σ := σ) h) hw.1).trans ?_
  refine (e_iconst (code := kX8_readTube) (pc := 129) rfl).trans ?_
  refine (e_dup2 (code := kX8_readTube) (pc := 130) rfl rfl rfl).trans ?_
  refine (e_iaload (code := kX8_readTube) (pc := 131) rfl (.inl hw.2.1) hw.2.2.2).trans ?_
  refine b_gd_c ?_
  refine (e_iconst (code := kX8_readTube) (pc := 132) rfl).trans ?_
  refine (e_iadd (code := kX8_readTube) (pc := 133) rfl).trans ?_
  refine (e_iastore (code := kX8_readTube) (pc := 134) rfl hw.2.1 hw.2.2.1 hw.2.2.2).trans ?_
  refine b_gd_c ?_
  exact e_return_ rfl
theorem n_X8_readMix {P : aCall} {d : Nat} {σ : aSt} (hd : 1 ≤ d) : a_call a_tab P d 253 [.ref 237] σ = b_R (a_call a_tab P (d - 1)) kX8_readMix [] (0, [some (.ref 237)], [], σ) := e_call hd at_X8_readMix rfl
theorem b_X8_readMix_0 {C : aCall} {σ : aSt} (h : Sh σ) : b_R C kX8_readMix [] (0, [some (.ref 237)], [], σ) = b_G C kX8_readMix [] 4 7 [some (.ref 237)] [.ref 237] (C 236 [.ref 237, .ref 6] σ) := by
  refine (e_aload_n (code := kX8_readMix) (pc := 0) rfl rfl).trans ?_
  refine (e_aload_n (code := kX8_readMix) (pc := 1) rfl rfl).trans ?_
  refine (e_ldcS (code := kX8_readMix) (pc := 2) rfl).trans ?_
  exact (e_callV (σ := σ) (code := kX8_readMix) (pc := 4) (len := 3) (k := 236) (n := 2) (c := 20) (as := [.ref 237, .ref 6]) (st0 := [.ref 237]) rfl rfl rfl rfl rfl (sk_237 (σ := σ) h) rfl)
theorem b_X8_readMix_7 {C : aCall} {σ : aSt} {y0 : Int32} (h : Sh σ) : b_R C kX8_readMix [] (7, [some (.ref 237)], [.int y0, .ref 237], σ) = b_G C kX8_readMix [] 8 11 [some (.ref 237)] [] (C 233 [.ref 237, .int y0, .int (nI 1)] σ) := by
  refine (e_iconst (code := kX8_readMix) (pc := 7) rfl).trans ?_
  exact (e_callV (σ := σ) (code := kX8_readMix) (pc := 8) (len := 3) (k := 233) (n := 3) (c := 20) (as := [.ref 237, .int y0, .int (nI 1)]) (st0 := []) rfl rfl rfl rfl rfl (sk_237 (σ := σ) h) rfl)
theorem b_X8_readMix_11 {C : aCall} {σ : aSt} {w : Nat} (h : Sh σ) (hw : Rw σ w) : b_R C kX8_readMix [] (11, [some (.ref 237)], [], σ) = (if (a_I σ 237 25) = 0 then b_gd (a_in (nI 1) 720) ((if (a_I σ w (Int32.toNatClampNeg (nI 1))) < (nI 20) then b_R C kX8_readMix [] (30, [some (.ref 237)], [.ref 237], σ) else b_R C kX8_readMix [] (35, [some (.ref 237)], [.int (nI 0), .ref 237], σ))) else b_R C kX8_readMix [] (30, [some (.ref 237)], [.ref 237], σ)) := by
  refine (e_aload_n (code := kX8_readMix) (pc := 11) rfl rfl).trans ?_
  refine (e_aload_n (code := kX8_readMix) (pc := 12) rfl rfl).trans ?_
  refine (e_getI (code := kX8_readMix) (pc := 13) (c := 10) rfl (sk_237 (σ := σ) h) rfl).trans ?_
  refine (e_ifne (code := kX8_readMix) (pc := 16) rfl).trans ?_
  refine b_ite ?_ ?_
  · refine (e_aload_n (code := kX8_readMix) (pc := 19) rfl rfl).trans ?_
    refine (e_getR (code := kX8_readMix) (pc := 20) (c := 10) rfl (sk_237 (σ := σ) h) hw.1).trans ?_
    refine (e_iconst (code := kX8_readMix) (pc := 23) rfl).trans ?_
    refine (e_iaload (code := kX8_readMix) (pc := 24) rfl (.inl hw.2.1) hw.2.2.2).trans ?_
    refine b_gd_c ?_
    refine (e_bipush (code := kX8_readMix) (pc := 25) rfl).trans ?_
    refine (e_icge (code := kX8_readMix) (pc := 27) rfl).trans ?_
    refine b_ite ?_ ?_
    · rfl
    · refine (e_iconst (code := kX8_readMix) (pc := 34) rfl).trans ?_
      rfl
  · rfl
theorem b_X8_readMix_30 {C : aCall} {σ : aSt} : b_R C kX8_readMix [] (30, [some (.ref 237)], [.ref 237], σ) = b_R C kX8_readMix [] (35, [some (.ref 237)], [.int (nI 1), .ref 237], σ) := by
  refine (e_iconst (code := kX8_readMix) (pc := 30) rfl).trans ?_
  refine (e_goto (code := kX8_readMix) (pc := 31) rfl).trans ?_
  rfl
theorem b_X8_readMix_35 {C : aCall} {σ : aSt} {y0 : Int32} (h : Sh σ) : b_R C kX8_readMix [] (35, [some (.ref 237)], [.int y0, .ref 237], σ) = b_G C kX8_readMix [] 36 39 [some (.ref 237)] [] (C 233 [.ref 237, .int y0, .int (nI 3)] σ) := by
  refine (e_iconst (code := kX8_readMix) (pc := 35) rfl).trans ?_
  exact (e_callV (σ := σ) (code := kX8_readMix) (pc := 36) (len := 3) (k := 233) (n := 3) (c := 20) (as := [.ref 237, .int y0, .int (nI 3)]) (st0 := []) rfl rfl rfl rfl rfl (sk_237 (σ := σ) h) rfl)
theorem b_X8_readMix_39 {C : aCall} {σ : aSt} (h : Sh σ) : b_R C kX8_readMix [] (39, [some (.ref 237)], [], σ) = b_G C kX8_readMix [] 40 43 [some (.ref 237)] [] (C 234 [.ref 237] σ) := by
  refine (e_aload_n (code := kX8_readMix) (pc := 39) rfl rfl).trans ?_
  exact (e_callV (σ := σ) (code := kX8_readMix) (pc := 40) (len := 3) (k := 234) (n := 1) (c := 20) (as := [.ref 237]) (st0 := []) rfl rfl rfl rfl rfl (sk_237 (σ := σ) h) rfl)
theorem b_X8_readMix_43 {C : aCall} {σ : aSt} (h : Sh σ) : b_R C kX8_readMix [] (43, [some (.ref 237)], [], σ) = b_G C kX8_readMix [] 44 47 [some (.ref 237)] [] (C 248 [.ref 237] σ) := by
  refine (e_aload_n (code := kX8_readMix) (pc := 43) rfl rfl).trans ?_
  exact (e_callV (σ := σ) (code := kX8_readMix) (pc := 44) (len := 3) (k := 248) (n := 1) (c := 20) (as := [.ref 237]) (st0 := []) rfl rfl rfl rfl rfl (sk_237 (σ := σ) h) rfl)
theorem b_X8_readMix_47 {C : aCall} {σ : aSt} (h : Sh σ) : b_R C kX8_readMix [] (47, [some (.ref 237)], [], σ) = b_G C kX8_readMix [] 50 53 [some (.ref 237)] [] (C 239 [.ref 237, .int (nI 61)] σ) := by
  refine (e_aload_n (code := kX8_readMix) (pc := 47) rfl rfl).trans ?_
  refine (e_bipush (code := kX8_readMix) (pc := 48) rfl).trans ?_
  exact (e_callV (σ := σ) (code := kX8_readMix) (pc := 50) (len := 3) (k := 239) (n := 2) (c := 20) (as := [.ref 237, .int (nI 61)]) (st0 := []) rfl rfl rfl rfl rfl (sk_237 (σ := σ) h) rfl)
theorem b_X8_readMix_53 {C : aCall} {σ : aSt} (h : Sh σ) : b_R C kX8_readMix [] (53, [some (.ref 237)], [], σ) = b_G C kX8_readMix [] 54 57 [some (.ref 237)] [] (C 250 [.ref 237] σ) := by
  refine (e_aload_n (code := kX8_readMix) (pc := 53) rfl rfl).trans ?_
  exact (e_callV (σ := σ) (code := kX8_readMix) (pc := 54) (len := 3) (k := 250) (n := 1) (c := 20) (as := [.ref 237]) (st0 := []) rfl rfl rfl rfl rfl (sk_237 (σ := σ) h) rfl)
theorem b_X8_readMix_57 {C : aCall} {σ : aSt} {w : Nat} (h : Sh σ) (hw : Rw σ w) : b_R C kX8_readMix [] (57, [some (.ref 237)], [], σ) = (if (a_I σ 237 25) = 0 then b_gd (a_in (nI 1) 720) (b_G C kX8_readMix [] 80 83 [some (.ref 237)] [] (C 247 [.ref 237, .int (((nI 288) + ((nI 18) * (a_I σ w (Int32.toNatClampNeg (nI 1))))) + (nI 0))] σ)) else b_R C kX8_readMix [] (103, [some (.ref 237)], [], σ)) := by
  refine (e_aload_n (code := kX8_readMix) (pc := 57) rfl rfl).trans ?_
  refine (e_getI (code := kX8_readMix) (pc := 58) (c := 10) rfl (sk_237 (σ := σ) h) rfl).trans ?_
  refine (e_ifne (code := kX8_readMix) (pc := 61) rfl).trans ?_
  refine b_ite ?_ ?_
  · refine (e_aload_n (code := kX8_readMix) (pc := 64) rfl rfl).trans ?_
    refine (e_sipush (code := kX8_readMix) (pc := 65) rfl).trans ?_
    refine (e_bipush (code := kX8_readMix) (pc := 68) rfl).trans ?_
    refine (e_aload_n (code := kX8_readMix) (pc := 70) rfl rfl).trans ?_
    refine (e_getR (code := kX8_readMix) (pc := 71) (c := 10) rfl (sk_237 (σ := σ) h) hw.1).trans ?_
    refine (e_iconst (code := kX8_readMix) (pc := 74) rfl).trans ?_
    refine (e_iaload (code := kX8_readMix) (pc := 75) rfl (.inl hw.2.1) hw.2.2.2).trans ?_
    refine b_gd_c ?_
    refine (e_imul (code := kX8_readMix) (pc := 76) rfl).trans ?_
    refine (e_iadd (code := kX8_readMix) (pc := 77) rfl).trans ?_
    refine (e_iconst (code := kX8_readMix) (pc := 78) rfl).trans ?_
    refine (e_iadd (code := kX8_readMix) (pc := 79) rfl).trans ?_
    exact (e_callV (σ := σ) (code := kX8_readMix) (pc := 80) (len := 3) (k := 247) (n := 2) (c := 20) (as := [.ref 237, .int (((nI 288) + ((nI 18) * (a_I σ w (Int32.toNatClampNeg (nI 1))))) + (nI 0))]) (st0 := []) rfl rfl rfl rfl rfl (sk_237 (σ := σ) h) rfl)
  · rfl
theorem b_X8_readMix_83 {C : aCall} {σ : aSt} {w : Nat} (h : Sh σ) (hw : Rw σ w) : b_R C kX8_readMix [] (83, [some (.ref 237)], [], σ) = b_gd (a_in (nI 1) 720) (b_G C kX8_readMix [] 90 93 [some (.ref 237)] [] (C 251 [.ref 237, .int (a_I σ w (Int32.toNatClampNeg (nI 1)))] σ)) := by
  refine (e_aload_n (code := kX8_readMix) (pc := 83) rfl rfl).trans ?_
  refine (e_aload_n (code := kX8_readMix) (pc := 84) rfl rfl).trans ?_
  refine (e_getR (code := kX8_readMix) (pc := 85) (c := 10) rfl (sk_237 (σ := σ) h) hw.1).trans ?_
  refine (e_iconst (code := kX8_readMix) (pc := 88) rfl).trans ?_
  refine (e_iaload (code := kX8_readMix) (pc := 89) rfl (.inl hw.2.1) hw.2.2.2).trans ?_
  refine b_gd_c ?_
  exact (e_callV (σ := σ) (code := kX8_readMix) (pc := 90) (len := 3) (k := 251) (n := 2) (c := 20) (as := [.ref 237, .int (a_I σ w (Int32.toNatClampNeg (nI 1)))]) (st0 := []) rfl rfl rfl rfl rfl (sk_237 (σ := σ) h) rfl)
theorem b_X8_readMix_93 {C : aCall} {σ : aSt} {w : Nat} (h : Sh σ) (hw : Rw σ w) : b_R C kX8_readMix [] (93, [some (.ref 237)], [], σ) = b_gd (a_in (nI 1) 720) (b_gd (a_in (nI 1) 720) (b_R C kX8_readMix [] (103, [some (.ref 237)], [], (a_setI σ w (Int32.toNatClampNeg (nI 1)) ((a_I σ w (Int32.toNatClampNeg (nI 1))) + (nI 1)))))) := by
  refine (e_aload_n (code := kX8_readMix) (pc := 93) rfl rfl).trans ?_
  refine (e_getR (code := kX8_readMix) (pc := 94) (c := 10) rfl (sk_237 (σ := σ) h) hw.1).trans ?_
  refine (e_iconst (code := kX8_readMix) (pc := 97) rfl).trans ?_
  refine (e_dup2 (code := kX8_readMix) (pc := 98) rfl rfl rfl).trans ?_
  refine (e_iaload (code := kX8_readMix) (pc := 99) rfl (.inl hw.2.1) hw.2.2.2).trans ?_
  refine b_gd_c ?_
  refine (e_iconst (code := kX8_readMix) (pc := 100) rfl).trans ?_
  refine (e_iadd (code := kX8_readMix) (pc := 101) rfl).trans ?_
  refine (e_iastore (code := kX8_readMix) (pc := 102) rfl hw.2.1 hw.2.2.1 hw.2.2.2).trans ?_
  refine b_gd_c ?_
  rfl
theorem b_X8_readMix_103 {C : aCall} {σ : aSt} : b_R C kX8_readMix [] (103, [some (.ref 237)], [], σ) = some (.inl none, σ) := by
  exact e_return_ rfl
theorem n_X8_readAll {P : aCall} {d : Nat} {σ : aSt} (hd : 1 ≤ d) : a_call a_tab P d 254 [.ref 237] σ = b_R (a_call a_tab P (d - 1)) kX8_readAll [] (0, [some (.ref 237)], [], σ) := e_call hd at_X8_readAll rfl
theorem b_X8_readAll_0 {C : aCall} {σ : aSt} (h : Sh σ) : b_R C kX8_readAll [] (0, [some (.ref 237)], [], σ) = b_G C kX8_readAll [] 4 7 [some (.ref 237)] [] (C 238 [.ref 237, .ref 1] σ) := by
  refine (e_aload_n (code := kX8_readAll) (pc := 0) rfl rfl).trans ?_
  refine (e_ldc_wS (code := kX8_readAll) (pc := 1) rfl).trans ?_
  exact (e_callV (σ := σ) (code := kX8_readAll) (pc := 4) (len := 3) (k := 238) (n := 2) (c := 20) (as := [.ref 237, .ref 1]) (st0 := []) rfl rfl rfl rfl rfl (sk_237 (σ := σ) h) rfl)
theorem b_X8_readAll_7 {C : aCall} {σ : aSt} (h : Sh σ) : b_R C kX8_readAll [] (7, [some (.ref 237)], [], σ) = b_G C kX8_readAll [] 11 14 [some (.ref 237)] [] (C 237 [.ref 237, .ref 3] σ) := by
  refine (e_aload_n (code := kX8_readAll) (pc := 7) rfl rfl).trans ?_
  refine (e_ldc_wS (code := kX8_readAll) (pc := 8) rfl).trans ?_
  exact (e_callV (σ := σ) (code := kX8_readAll) (pc := 11) (len := 3) (k := 237) (n := 2) (c := 20) (as := [.ref 237, .ref 3]) (st0 := []) rfl rfl rfl rfl rfl (sk_237 (σ := σ) h) rfl)
theorem b_X8_readAll_14 {C : aCall} {σ : aSt} {w : Nat} {y0 : Int32} (h : Sh σ) (hw : Rw σ w) : b_R C kX8_readAll [] (14, [some (.ref 237)], [.int y0], σ) = (if y0 = 0 then b_R C kX8_readAll [] (30, [some (.ref 237)], [], σ) else b_G C kX8_readAll [] 26 29 [some (.ref 237)] [.int (nI 2), .ref w] (C 241 [.ref 237, .int (nI 1), .int (nI 6)] σ)) := by
  refine (e_ifeq (code := kX8_readAll) (pc := 14) rfl).trans ?_
  refine b_ite ?_ ?_
  · rfl
  · refine (e_aload_n (code := kX8_readAll) (pc := 17) rfl rfl).trans ?_
    refine (e_getR (code := kX8_readAll) (pc := 18) (c := 10) rfl (sk_237 (σ := σ) h) hw.1).trans ?_
    refine (e_iconst (code := kX8_readAll) (pc := 21) rfl).trans ?_
    refine (e_aload_n (code := kX8_readAll) (pc := 22) rfl rfl).trans ?_
    refine (e_iconst (code := kX8_readAll) (pc := 23) rfl).trans ?_
    refine (e_bipush (code := kX8_readAll) (pc := 24) rfl).trans ?_
    exact (e_callV (σ := σ) (code := kX8_readAll) (pc := 26) (len := 3) (k := 241) (n := 3) (c := 20) (as := [.ref 237, .int (nI 1), .int (nI 6)]) (st0 := [.int (nI 2), .ref w]) rfl rfl rfl rfl rfl (sk_237 (σ := σ) h) rfl)
theorem b_X8_readAll_29 {C : aCall} {σ : aSt} {w : Nat} {y0 y1 : Int32} (hw : Rw σ w) : b_R C kX8_readAll [] (29, [some (.ref 237)], [.int y0, .int y1, .ref w], σ) = b_gd (a_in y1 720) (b_R C kX8_readAll [] (30, [some (.ref 237)], [], (a_setI σ w (Int32.toNatClampNeg y1) y0))) := by
  refine (e_iastore (code := kX8_readAll) (pc := 29) rfl hw.2.1 hw.2.2.1 hw.2.2.2).trans ?_
  refine b_gd_c ?_
  rfl
theorem b_X8_readAll_30 {C : aCall} {σ : aSt} (h : Sh σ) : b_R C kX8_readAll [] (30, [some (.ref 237)], [], σ) = b_G C kX8_readAll [] 34 37 [some (.ref 237)] [] (C 237 [.ref 237, .ref 4] σ) := by
  refine (e_aload_n (code := kX8_readAll) (pc := 30) rfl rfl).trans ?_
  refine (e_ldc_wS (code := kX8_readAll) (pc := 31) rfl).trans ?_
  exact (e_callV (σ := σ) (code := kX8_readAll) (pc := 34) (len := 3) (k := 237) (n := 2) (c := 20) (as := [.ref 237, .ref 4]) (st0 := []) rfl rfl rfl rfl rfl (sk_237 (σ := σ) h) rfl)
theorem b_X8_readAll_37 {C : aCall} {σ : aSt} {w : Nat} {y0 : Int32} (h : Sh σ) (hw : Rw σ w) : b_R C kX8_readAll [] (37, [some (.ref 237)], [.int y0], σ) = (if y0 = 0 then b_R C kX8_readAll [] (53, [some (.ref 237)], [], σ) else b_G C kX8_readAll [] 49 52 [some (.ref 237)] [.int (nI 3), .ref w] (C 241 [.ref 237, .int (nI 1), .int (nI 6)] σ)) := by
  refine (e_ifeq (code := kX8_readAll) (pc := 37) rfl).trans ?_
  refine b_ite ?_ ?_
  · rfl
  · refine (e_aload_n (code := kX8_readAll) (pc := 40) rfl rfl).trans ?_
    refine (e_getR (code := kX8_readAll) (pc := 41) (c := 10) rfl (sk_237 (σ := σ) h) hw.1).trans ?_
    refine (e_iconst (code := kX8_readAll) (pc := 44) rfl).trans ?_
    refine (e_aload_n (code := kX8_readAll) (pc := 45) rfl rfl).trans ?_
    refine (e_iconst (code := kX8_readAll) (pc := 46) rfl).trans ?_
    refine (e_bipush (code := kX8_readAll) (pc := 47) rfl).trans ?_
    exact (e_callV (σ := σ) (code := kX8_readAll) (pc := 49) (len := 3) (k := 241) (n := 3) (c := 20) (as := [.ref 237, .int (nI 1), .int (nI 6)]) (st0 := [.int (nI 3), .ref w]) rfl rfl rfl rfl rfl (sk_237 (σ := σ) h) rfl)
theorem b_X8_readAll_52 {C : aCall} {σ : aSt} {w : Nat} {y0 y1 : Int32} (hw : Rw σ w) : b_R C kX8_readAll [] (52, [some (.ref 237)], [.int y0, .int y1, .ref w], σ) = b_gd (a_in y1 720) (b_R C kX8_readAll [] (53, [some (.ref 237)], [], (a_setI σ w (Int32.toNatClampNeg y1) y0))) := by
  refine (e_iastore (code := kX8_readAll) (pc := 52) rfl hw.2.1 hw.2.2.1 hw.2.2.2).trans ?_
  refine b_gd_c ?_
  rfl
theorem b_X8_readAll_53 {C : aCall} {σ : aSt} (h : Sh σ) : b_R C kX8_readAll [] (53, [some (.ref 237)], [], σ) = b_G C kX8_readAll [] 57 60 [some (.ref 237)] [] (C 237 [.ref 237, .ref 5] σ) := by
  refine (e_aload_n (code := kX8_readAll) (pc := 53) rfl rfl).trans ?_
  refine (e_ldc_wS (code := kX8_readAll) (pc := 54) rfl).trans ?_
  exact (e_callV (σ := σ) (code := kX8_readAll) (pc := 57) (len := 3) (k := 237) (n := 2) (c := 20) (as := [.ref 237, .ref 5]) (st0 := []) rfl rfl rfl rfl rfl (sk_237 (σ := σ) h) rfl)
theorem b_X8_readAll_60 {C : aCall} {σ : aSt} {w : Nat} {y0 : Int32} (h : Sh σ) (hw : Rw σ w) : b_R C kX8_readAll [] (60, [some (.ref 237)], [.int y0], σ) = (if y0 = 0 then b_R C kX8_readAll [] (76, [some (.ref 237)], [], σ) else b_G C kX8_readAll [] 72 75 [some (.ref 237)] [.int (nI 4), .ref w] (C 241 [.ref 237, .int (nI 0), .int (nI 99999)] σ)) := by
  refine (e_ifeq (code := kX8_readAll) (pc := 60) rfl).trans ?_
  refine b_ite ?_ ?_
  · rfl
  · refine (e_aload_n (code := kX8_readAll) (pc := 63) rfl rfl).trans ?_
    refine (e_getR (code := kX8_readAll) (pc := 64) (c := 10) rfl (sk_237 (σ := σ) h) hw.1).trans ?_
    refine (e_iconst (code := kX8_readAll) (pc := 67) rfl).trans ?_
    refine (e_aload_n (code := kX8_readAll) (pc := 68) rfl rfl).trans ?_
    refine (e_iconst (code := kX8_readAll) (pc := 69) rfl).trans ?_
    refine (e_ldcI (code := kX8_readAll) (pc := 70) rfl).trans ?_
    exact (e_callV (σ := σ) (code := kX8_readAll) (pc := 72) (len := 3) (k := 241) (n := 3) (c := 20) (as := [.ref 237, .int (nI 0), .int (nI 99999)]) (st0 := [.int (nI 4), .ref w]) rfl rfl rfl rfl rfl (sk_237 (σ := σ) h) rfl)
theorem b_X8_readAll_75 {C : aCall} {σ : aSt} {w : Nat} {y0 y1 : Int32} (hw : Rw σ w) : b_R C kX8_readAll [] (75, [some (.ref 237)], [.int y0, .int y1, .ref w], σ) = b_gd (a_in y1 720) (b_R C kX8_readAll [] (76, [some (.ref 237)], [], (a_setI σ w (Int32.toNatClampNeg y1) y0))) := by
  refine (e_iastore (code := kX8_readAll) (pc := 75) rfl hw.2.1 hw.2.2.1 hw.2.2.2).trans ?_
  refine b_gd_c ?_
  rfl
theorem b_X8_readAll_76 {C : aCall} {σ : aSt} (h : Sh σ) : b_R C kX8_readAll [] (76, [some (.ref 237)], [], σ) = b_G C kX8_readAll [] 79 82 [some (.ref 237)] [] (C 239 [.ref 237, .int (nI 59)] σ) := by
  refine (e_aload_n (code := kX8_readAll) (pc := 76) rfl rfl).trans ?_
  refine (e_bipush (code := kX8_readAll) (pc := 77) rfl).trans ?_
  exact (e_callV (σ := σ) (code := kX8_readAll) (pc := 79) (len := 3) (k := 239) (n := 2) (c := 20) (as := [.ref 237, .int (nI 59)]) (st0 := []) rfl rfl rfl rfl rfl (sk_237 (σ := σ) h) rfl)
theorem b_X8_readAll_82 {C : aCall} {σ : aSt} (h : Sh σ) : b_R C kX8_readAll [] (82, [some (.ref 237)], [], σ) = (if (a_I σ 237 25) = 0 then (if (a_I σ 237 24) = 0 then b_R C kX8_readAll [] (126, [some (.ref 237)], [], σ) else b_G C kX8_readAll [] 100 103 [some (.ref 237)] [] (C 236 [.ref 237, .ref 2] σ)) else b_R C kX8_readAll [] (126, [some (.ref 237)], [], σ)) := by
  refine (e_aload_n (code := kX8_readAll) (pc := 82) rfl rfl).trans ?_
  refine (e_getI (code := kX8_readAll) (pc := 83) (c := 10) rfl (sk_237 (σ := σ) h) rfl).trans ?_
  refine (e_ifne (code := kX8_readAll) (pc := 86) rfl).trans ?_
  refine b_ite ?_ ?_
  · refine (e_aload_n (code := kX8_readAll) (pc := 89) rfl rfl).trans ?_
    refine (e_getI (code := kX8_readAll) (pc := 90) (c := 10) rfl (sk_237 (σ := σ) h) rfl).trans ?_
    refine (e_ifeq (code := kX8_readAll) (pc := 93) rfl).trans ?_
    refine b_ite ?_ ?_
    · rfl
    · refine (e_aload_n (code := kX8_readAll) (pc := 96) rfl rfl).trans ?_
      refine (e_ldc_wS (code := kX8_readAll) (pc := 97) rfl).trans ?_
      exact (e_callV (σ := σ) (code := kX8_readAll) (pc := 100) (len := 3) (k := 236) (n := 2) (c := 20) (as := [.ref 237, .ref 2]) (st0 := []) rfl rfl rfl rfl rfl (sk_237 (σ := σ) h) rfl)
  · rfl
theorem b_X8_readAll_103 {C : aCall} {σ : aSt} {y0 : Int32} (h : Sh σ) : b_R C kX8_readAll [] (103, [some (.ref 237)], [.int y0], σ) = (if y0 = 0 then b_G C kX8_readAll [] 114 117 [some (.ref 237)] [] (C 253 [.ref 237] σ) else b_G C kX8_readAll [] 107 110 [some (.ref 237)] [] (C 252 [.ref 237] σ)) := by
  refine (e_ifeq (code := kX8_readAll) (pc := 103) rfl).trans ?_
  refine b_ite ?_ ?_
  · refine (e_aload_n (code := kX8_readAll) (pc := 113) rfl rfl).trans ?_
    exact (e_callV (σ := σ) (code := kX8_readAll) (pc := 114) (len := 3) (k := 253) (n := 1) (c := 20) (as := [.ref 237]) (st0 := []) rfl rfl rfl rfl rfl (sk_237 (σ := σ) h) rfl)
  · refine (e_aload_n (code := kX8_readAll) (pc := 106) rfl rfl).trans ?_
    exact (e_callV (σ := σ) (code := kX8_readAll) (pc := 107) (len := 3) (k := 252) (n := 1) (c := 20) (as := [.ref 237]) (st0 := []) rfl rfl rfl rfl rfl (sk_237 (σ := σ) h) rfl)
theorem b_X8_readAll_110 {C : aCall} {σ : aSt} : b_R C kX8_readAll [] (110, [some (.ref 237)], [], σ) = b_R C kX8_readAll [] (117, [some (.ref 237)], [], σ) := by
  refine (e_goto (code := kX8_readAll) (pc := 110) rfl).trans ?_
  rfl
theorem b_X8_readAll_117 {C : aCall} {σ : aSt} (h : Sh σ) : b_R C kX8_readAll [] (117, [some (.ref 237)], [], σ) = b_G C kX8_readAll [] 120 123 [some (.ref 237)] [] (C 239 [.ref 237, .int (nI 59)] σ) := by
  refine (e_aload_n (code := kX8_readAll) (pc := 117) rfl rfl).trans ?_
  refine (e_bipush (code := kX8_readAll) (pc := 118) rfl).trans ?_
  exact (e_callV (σ := σ) (code := kX8_readAll) (pc := 120) (len := 3) (k := 239) (n := 2) (c := 20) (as := [.ref 237, .int (nI 59)]) (st0 := []) rfl rfl rfl rfl rfl (sk_237 (σ := σ) h) rfl)
theorem b_X8_readAll_123 {C : aCall} {σ : aSt} : b_R C kX8_readAll [] (123, [some (.ref 237)], [], σ) = b_R C kX8_readAll [] (82, [some (.ref 237)], [], σ) := by
  refine (e_goto (code := kX8_readAll) (pc := 123) rfl).trans ?_
  rfl
theorem b_X8_readAll_126 {C : aCall} {σ : aSt} : b_R C kX8_readAll [] (126, [some (.ref 237)], [], σ) = some (.inl none, σ) := by
  exact e_return_ rfl
theorem n_X8_load {P : aCall} {d : Nat} {σ : aSt} {x1 : Int32} (hd : 1 ≤ d) : a_call a_tab P d 255 [.ref 237, .int x1] σ = b_R (a_call a_tab P (d - 1)) kX8_load [] (0, [some (.ref 237), some (.int x1)], [], σ) := e_call hd at_X8_load rfl
theorem b_X8_load_0 {C : aCall} {σ : aSt} {x1 : Int32} (h : Sh σ) : b_R C kX8_load [] (0, [some (.ref 237), some (.int x1)], [], σ) = b_G C kX8_load [] 11 14 [some (.ref 237), some (.int x1)] [] (C 147 [.int x1, .int (nI 0), .int (a_I (a_setI σ 237 6 (nI 0)) 237 20)] (a_setI σ 237 6 (nI 0))) := by
  refine (e_aload_n (code := kX8_load) (pc := 0) rfl rfl).trans ?_
  refine (e_iconst (code := kX8_load) (pc := 1) rfl).trans ?_
  refine (e_putI (code := kX8_load) (pc := 2) (c := 10) rfl (sk_237 (σ := σ) h) (h_100 rfl)).trans ?_
  refine (e_iload_n (code := kX8_load) (pc := 5) (σ := (a_setI σ 237 6 (nI 0))) rfl rfl).trans ?_
  refine (e_iconst (code := kX8_load) (pc := 6) (σ := (a_setI σ 237 6 (nI 0))) rfl).trans ?_
  refine (e_aload_n (code := kX8_load) (pc := 7) (σ := (a_setI σ 237 6 (nI 0))) rfl rfl).trans ?_
  refine (e_getI (code := kX8_load) (pc := 8) (σ := (a_setI σ 237 6 (nI 0))) (c := 10) rfl (sk_237 (σ := σ) h) rfl).trans ?_
  exact (e_callS (code := kX8_load) (pc := 11) (len := 3) (k := 147) (n := 3) (as := [.int x1, .int (nI 0), .int (a_I (a_setI σ 237 6 (nI 0)) 237 20)]) (st0 := []) rfl rfl rfl rfl)
theorem b_X8_load_14 {C : aCall} {σ : aSt} {x1 y0 : Int32} (h : Sh σ) : b_R C kX8_load [] (14, [some (.ref 237), some (.int x1)], [.int y0], σ) = (if y0 = 0 then b_G C kX8_load [] 19 22 [some (.ref 237), some (.int x1)] [] (C 146 [.ref 237, .int (nI 1)] σ) else b_G C kX8_load [] 25 28 [some (.ref 237), some (.int x1)] [] (C 230 [.ref 237, .int x1] σ)) := by
  refine (e_ifne (code := kX8_load) (pc := 14) rfl).trans ?_
  refine b_ite ?_ ?_
  · refine (e_aload_n (code := kX8_load) (pc := 17) rfl rfl).trans ?_
    refine (e_iconst (code := kX8_load) (pc := 18) rfl).trans ?_
    exact (e_callV (σ := σ) (code := kX8_load) (pc := 19) (len := 3) (k := 146) (n := 2) (c := 20) (as := [.ref 237, .int (nI 1)]) (st0 := []) rfl rfl rfl rfl rfl (sk_237 (σ := σ) h) rfl)
  · refine (e_aload_n (code := kX8_load) (pc := 23) rfl rfl).trans ?_
    refine (e_iload_n (code := kX8_load) (pc := 24) rfl rfl).trans ?_
    exact (e_callV (σ := σ) (code := kX8_load) (pc := 25) (len := 3) (k := 230) (n := 2) (c := 20) (as := [.ref 237, .int x1]) (st0 := []) rfl rfl rfl rfl rfl (sk_237 (σ := σ) h) rfl)
theorem b_X8_load_22 {C : aCall} {σ : aSt} {x1 y0 : Int32} : b_R C kX8_load [] (22, [some (.ref 237), some (.int x1)], [.int y0], σ) = some (.inl (some (.int y0)), σ) := by
  exact e_ireturn rfl
theorem b_X8_load_28 {C : aCall} {σ : aSt} {x1 : Int32} (h : Sh σ) : b_R C kX8_load [] (28, [some (.ref 237), some (.int x1)], [], σ) = b_G C kX8_load [] 37 40 [some (.ref 237), some (.int x1)] [] (C 144 [.ref 237] (a_setR σ 237 4 (some 239))) := by
  refine (e_aload_n (code := kX8_load) (pc := 28) rfl rfl).trans ?_
  refine (e_aload_n (code := kX8_load) (pc := 29) rfl rfl).trans ?_
  refine (e_getR (code := kX8_load) (pc := 30) (c := 10) rfl (sk_237 (σ := σ) h) (sr_237_1 (σ := σ) h)).trans ?_
  refine (e_putR (code := kX8_load) (pc := 33) (c := 10) rfl (sk_237 (σ := σ) h) (h_100 rfl)).trans ?_
  refine (e_aload_n (code := kX8_load) (pc := 36) (σ := (a_setR σ 237 4 (some 239))) rfl rfl).trans ?_
  exact (e_callV (σ := (a_setR σ 237 4 (some 239))) (code := kX8_load) (pc := 37) (len := 3) (k := 144) (n := 1) (c := 20) (as := [.ref 237]) (st0 := []) rfl rfl rfl rfl rfl (sk_237 (σ := σ) h) rfl)
theorem b_X8_load_40 {C : aCall} {σ : aSt} {x1 : Int32} (h : Sh σ) : b_R C kX8_load [] (40, [some (.ref 237), some (.int x1)], [], σ) = b_G C kX8_load [] 41 44 [some (.ref 237), some (.int x1)] [] (C 254 [.ref 237] σ) := by
  refine (e_aload_n (code := kX8_load) (pc := 40) rfl rfl).trans ?_
  exact (e_callV (σ := σ) (code := kX8_load) (pc := 41) (len := 3) (k := 254) (n := 1) (c := 20) (as := [.ref 237]) (st0 := []) rfl rfl rfl rfl rfl (sk_237 (σ := σ) h) rfl)
theorem b_X8_load_44 {C : aCall} {σ : aSt} {x1 : Int32} (h : Sh σ) : b_R C kX8_load [] (44, [some (.ref 237), some (.int x1)], [], σ) = b_G C kX8_load [] 53 56 [some (.ref 237), some (.int x1)] [] (C 231 [.ref 237] (a_setR σ 237 4 (some 238))) := by
  refine (e_aload_n (code := kX8_load) (pc := 44) rfl rfl).trans ?_
  refine (e_aload_n (code := kX8_load) (pc := 45) rfl rfl).trans ?_
  refine (e_getR (code := kX8_load) (pc := 46) (c := 10) rfl (sk_237 (σ := σ) h) (sr_237_0 (σ := σ) h)).trans ?_
  refine (e_putR (code := kX8_load) (pc := 49) (c := 10) rfl (sk_237 (σ := σ) h) (h_100 rfl)).trans ?_
  refine (e_aload_n (code := kX8_load) (pc := 52) (σ := (a_setR σ 237 4 (some 238))) rfl rfl).trans ?_
  exact (e_callV (σ := (a_setR σ 237 4 (some 238))) (code := kX8_load) (pc := 53) (len := 3) (k := 231) (n := 1) (c := 20) (as := [.ref 237]) (st0 := []) rfl rfl rfl rfl rfl (sk_237 (σ := σ) h) rfl)
theorem b_X8_load_56 {C : aCall} {σ : aSt} {x1 y0 : Int32} (h : Sh σ) : b_R C kX8_load [] (56, [some (.ref 237), some (.int x1)], [.int y0], σ) = (if y0 = 0 then b_G C kX8_load [] 77 80 [some (.ref 237), some (.int x1)] [] (C 218 [.ref 239, .int (nI 0), .ref 238, .int (nI 0)] σ) else some (.inl (some (.int (((-10)) - (a_I σ 237 25)))), σ)) := by
  refine (e_ifeq (code := kX8_load) (pc := 56) rfl).trans ?_
  refine b_ite ?_ ?_
  · refine (e_aload_n (code := kX8_load) (pc := 67) rfl rfl).trans ?_
    refine (e_getR (code := kX8_load) (pc := 68) (c := 10) rfl (sk_237 (σ := σ) h) (sr_237_1 (σ := σ) h)).trans ?_
    refine (e_iconst (code := kX8_load) (pc := 71) rfl).trans ?_
    refine (e_aload_n (code := kX8_load) (pc := 72) rfl rfl).trans ?_
    refine (e_getR (code := kX8_load) (pc := 73) (c := 10) rfl (sk_237 (σ := σ) h) (sr_237_0 (σ := σ) h)).trans ?_
    refine (e_iconst (code := kX8_load) (pc := 76) rfl).trans ?_
    exact (e_callS (code := kX8_load) (pc := 77) (len := 3) (k := 218) (n := 4) (as := [.ref 239, .int (nI 0), .ref 238, .int (nI 0)]) (st0 := []) rfl rfl rfl rfl)
  · refine (e_bipush (code := kX8_load) (pc := 59) rfl).trans ?_
    refine (e_aload_n (code := kX8_load) (pc := 61) rfl rfl).trans ?_
    refine (e_getI (code := kX8_load) (pc := 62) (c := 10) rfl (sk_237 (σ := σ) h) rfl).trans ?_
    refine (e_isub (code := kX8_load) (pc := 65) rfl).trans ?_
    exact e_ireturn rfl
theorem b_X8_load_80 {C : aCall} {σ : aSt} {x1 : Int32} (h : Sh σ) : b_R C kX8_load [] (80, [some (.ref 237), some (.int x1)], [], σ) = b_gd (a_in (nI 0) 720) (some (.inl (some (.int (a_I (a_setI (a_setI σ 237 5 (nI 0)) 237 7 (nI 0)) 238 (Int32.toNatClampNeg (nI 0))))), (a_setI (a_setI σ 237 5 (nI 0)) 237 7 (nI 0)))) := by
  refine (e_aload_n (code := kX8_load) (pc := 80) rfl rfl).trans ?_
  refine (e_iconst (code := kX8_load) (pc := 81) rfl).trans ?_
  refine (e_putI (code := kX8_load) (pc := 82) (c := 10) rfl (sk_237 (σ := σ) h) (h_100 rfl)).trans ?_
  refine (e_aload_n (code := kX8_load) (pc := 85) (σ := (a_setI σ 237 5 (nI 0))) rfl rfl).trans ?_
  refine (e_iconst (code := kX8_load) (pc := 86) (σ := (a_setI σ 237 5 (nI 0))) rfl).trans ?_
  refine (e_putZ (code := kX8_load) (pc := 87) (σ := (a_setI σ 237 5 (nI 0))) (c := 10) rfl (sk_237 (σ := σ) h) (h_100 rfl) (.inl rfl)).trans ?_
  refine (e_aload_n (code := kX8_load) (pc := 90) (σ := (a_setI (a_setI σ 237 5 (nI 0)) 237 7 (nI 0))) rfl rfl).trans ?_
  refine (e_getR (code := kX8_load) (pc := 91) (σ := (a_setI (a_setI σ 237 5 (nI 0)) 237 7 (nI 0))) (c := 10) rfl (sk_237 (σ := σ) h) (sr_237_0 (σ := σ) h)).trans ?_
  refine (e_iconst (code := kX8_load) (pc := 94) (σ := (a_setI (a_setI σ 237 5 (nI 0)) 237 7 (nI 0))) rfl).trans ?_
  refine (e_iaload (code := kX8_load) (pc := 95) (σ := (a_setI (a_setI σ 237 5 (nI 0)) 237 7 (nI 0))) rfl (.inl (sk_238 (σ := σ) h)) (sl_238 (σ := σ) h)).trans ?_
  refine b_gd_c ?_
  exact e_ireturn rfl
theorem n_X8_isShort {P : aCall} {d : Nat} {σ : aSt} {x1 : Int32} (hd : 1 ≤ d) : a_call a_tab P d 256 [.ref 237, .int x1] σ = b_R (a_call a_tab P (d - 1)) kX8_isShort [] (0, [some (.ref 237), some (.int x1)], [], σ) := e_call hd at_X8_isShort rfl
theorem b_X8_isShort_0 {C : aCall} {σ : aSt} {x1 : Int32} (h : Sh σ) : b_R C kX8_isShort [] (0, [some (.ref 237), some (.int x1)], [], σ) = b_G C kX8_isShort [] 10 13 [some (.ref 237), some (.int x1)] [.int (nI 0), .int x1, .ref 237] (C 1000 [.int (a_I σ 237 20), .int (nI 200)] σ) := by
  refine (e_aload_n (code := kX8_isShort) (pc := 0) rfl rfl).trans ?_
  refine (e_iload_n (code := kX8_isShort) (pc := 1) rfl rfl).trans ?_
  refine (e_iconst (code := kX8_isShort) (pc := 2) rfl).trans ?_
  refine (e_aload_n (code := kX8_isShort) (pc := 3) rfl rfl).trans ?_
  refine (e_getI (code := kX8_isShort) (pc := 4) (c := 10) rfl (sk_237 (σ := σ) h) rfl).trans ?_
  refine (e_sipush (code := kX8_isShort) (pc := 7) rfl).trans ?_
  exact (e_callS (code := kX8_isShort) (pc := 10) (len := 3) (k := 1000) (n := 2) (as := [.int (a_I σ 237 20), .int (nI 200)]) (st0 := [.int (nI 0), .int x1, .ref 237]) rfl rfl rfl rfl)
theorem b_X8_isShort_13 {C : aCall} {σ : aSt} {x1 y0 y1 y2 : Int32} : b_R C kX8_isShort [] (13, [some (.ref 237), some (.int x1)], [.int y0, .int y1, .int y2, .ref 237], σ) = b_G C kX8_isShort [] 13 16 [some (.ref 237), some (.int x1)] [.ref 237] (C 147 [.int y2, .int y1, .int y0] σ) := by
  exact (e_callS (code := kX8_isShort) (pc := 13) (len := 3) (k := 147) (n := 3) (as := [.int y2, .int y1, .int y0]) (st0 := [.ref 237]) rfl rfl rfl rfl)
theorem b_X8_isShort_16 {C : aCall} {σ : aSt} {x1 y0 : Int32} : b_R C kX8_isShort [] (16, [some (.ref 237), some (.int x1)], [.int y0, .ref 237], σ) = (if y0 = 0 then b_R C kX8_isShort [] (24, [some (.ref 237), some (.int x1)], [.int (nI 1), .ref 237], σ) else b_R C kX8_isShort [] (24, [some (.ref 237), some (.int x1)], [.int (nI 0), .ref 237], σ)) := by
  refine (e_ifeq (code := kX8_isShort) (pc := 16) rfl).trans ?_
  refine b_ite ?_ ?_
  · refine (e_iconst (code := kX8_isShort) (pc := 23) rfl).trans ?_
    rfl
  · refine (e_iconst (code := kX8_isShort) (pc := 19) rfl).trans ?_
    refine (e_goto (code := kX8_isShort) (pc := 20) rfl).trans ?_
    rfl
theorem b_X8_isShort_24 {C : aCall} {σ : aSt} {x1 y0 : Int32} (h : Sh σ) : b_R C kX8_isShort [] (24, [some (.ref 237), some (.int x1)], [.int y0, .ref 237], σ) = (if (a_I (a_setI σ 237 6 y0) 237 6) = 0 then b_R C kX8_isShort [] (39, [some (.ref 237), some (.int x1)], [.int (nI 1)], (a_setI σ 237 6 y0)) else b_R C kX8_isShort [] (39, [some (.ref 237), some (.int x1)], [.int (nI 0)], (a_setI σ 237 6 y0))) := by
  refine (e_putI (code := kX8_isShort) (pc := 24) (c := 10) rfl (sk_237 (σ := σ) h) (h_100 rfl)).trans ?_
  refine (e_aload_n (code := kX8_isShort) (pc := 27) (σ := (a_setI σ 237 6 y0)) rfl rfl).trans ?_
  refine (e_getI (code := kX8_isShort) (pc := 28) (σ := (a_setI σ 237 6 y0)) (c := 10) rfl (sk_237 (σ := σ) h) rfl).trans ?_
  refine (e_ifne (code := kX8_isShort) (pc := 31) (σ := (a_setI σ 237 6 y0)) rfl).trans ?_
  refine b_ite ?_ ?_
  · refine (e_iconst (code := kX8_isShort) (pc := 34) (σ := (a_setI σ 237 6 y0)) rfl).trans ?_
    refine (e_goto (code := kX8_isShort) (pc := 35) (σ := (a_setI σ 237 6 y0)) rfl).trans ?_
    rfl
  · refine (e_iconst (code := kX8_isShort) (pc := 38) (σ := (a_setI σ 237 6 y0)) rfl).trans ?_
    rfl
theorem b_X8_isShort_39 {C : aCall} {σ : aSt} {x1 y0 : Int32} : b_R C kX8_isShort [] (39, [some (.ref 237), some (.int x1)], [.int y0], σ) = b_gd (y0 = 0 ∨ y0 = 1) (some (.inl (some (.int y0)), σ)) := by
  exact e_zreturn rfl
theorem n_X8_mixed {P : aCall} {d : Nat} {σ : aSt} {x1 : Int32} (hd : 1 ≤ d) : a_call a_tab P d 257 [.ref 237, .int x1] σ = b_R (a_call a_tab P (d - 1)) kX8_mixed [] (0, [some (.ref 237), some (.int x1)], [], σ) := e_call hd at_X8_mixed rfl
theorem b_X8_mixed_0 {C : aCall} {σ : aSt} {x1 : Int32} (h : Sh σ) : b_R C kX8_mixed [] (0, [some (.ref 237), some (.int x1)], [], σ) = b_G C kX8_mixed [] 2 5 [some (.ref 237), some (.int x1)] [] (C 256 [.ref 237, .int x1] σ) := by
  refine (e_aload_n (code := kX8_mixed) (pc := 0) rfl rfl).trans ?_
  refine (e_iload_n (code := kX8_mixed) (pc := 1) rfl rfl).trans ?_
  exact (e_callV (σ := σ) (code := kX8_mixed) (pc := 2) (len := 3) (k := 256) (n := 2) (c := 20) (as := [.ref 237, .int x1]) (st0 := []) rfl rfl rfl rfl rfl (sk_237 (σ := σ) h) rfl)
theorem b_X8_mixed_5 {C : aCall} {σ : aSt} {x1 y0 : Int32} (h : Sh σ) : b_R C kX8_mixed [] (5, [some (.ref 237), some (.int x1)], [.int y0], σ) = (if y0 = 0 then some (.inl (some (.int (nI 0))), σ) else b_G C kX8_mixed [] 12 15 [some (.ref 237), some (.int x1)] [] (C 230 [.ref 237, .int x1] σ)) := by
  refine (e_ifne (code := kX8_mixed) (pc := 5) rfl).trans ?_
  refine b_ite ?_ ?_
  · refine (e_iconst (code := kX8_mixed) (pc := 8) rfl).trans ?_
    exact e_ireturn rfl
  · refine (e_aload_n (code := kX8_mixed) (pc := 10) rfl rfl).trans ?_
    refine (e_iload_n (code := kX8_mixed) (pc := 11) rfl rfl).trans ?_
    exact (e_callV (σ := σ) (code := kX8_mixed) (pc := 12) (len := 3) (k := 230) (n := 2) (c := 20) (as := [.ref 237, .int x1]) (st0 := []) rfl rfl rfl rfl rfl (sk_237 (σ := σ) h) rfl)
theorem b_X8_mixed_15 {C : aCall} {σ : aSt} {x1 : Int32} (h : Sh σ) : b_R C kX8_mixed [] (15, [some (.ref 237), some (.int x1)], [], σ) = b_G C kX8_mixed [] 16 19 [some (.ref 237), some (.int x1)] [] (C 250 [.ref 237] σ) := by
  refine (e_aload_n (code := kX8_mixed) (pc := 15) rfl rfl).trans ?_
  exact (e_callV (σ := σ) (code := kX8_mixed) (pc := 16) (len := 3) (k := 250) (n := 1) (c := 20) (as := [.ref 237]) (st0 := []) rfl rfl rfl rfl rfl (sk_237 (σ := σ) h) rfl)
theorem b_X8_mixed_19 {C : aCall} {σ : aSt} {x1 : Int32} (h : Sh σ) : b_R C kX8_mixed [] (19, [some (.ref 237), some (.int x1)], [], σ) = (if (a_I σ 237 25) = 0 then (if (a_I σ 237 24) = 0 then b_R C kX8_mixed [] (34, [some (.ref 237), some (.int x1)], [.ref 237], σ) else b_R C kX8_mixed [] (39, [some (.ref 237), some (.int x1)], [.int (nI 0), .ref 237], σ)) else b_R C kX8_mixed [] (34, [some (.ref 237), some (.int x1)], [.ref 237], σ)) := by
  refine (e_aload_n (code := kX8_mixed) (pc := 19) rfl rfl).trans ?_
  refine (e_aload_n (code := kX8_mixed) (pc := 20) rfl rfl).trans ?_
  refine (e_getI (code := kX8_mixed) (pc := 21) (c := 10) rfl (sk_237 (σ := σ) h) rfl).trans ?_
  refine (e_ifne (code := kX8_mixed) (pc := 24) rfl).trans ?_
  refine b_ite ?_ ?_
  · refine (e_aload_n (code := kX8_mixed) (pc := 27) rfl rfl).trans ?_
    refine (e_getI (code := kX8_mixed) (pc := 28) (c := 10) rfl (sk_237 (σ := σ) h) rfl).trans ?_
    refine (e_ifne (code := kX8_mixed) (pc := 31) rfl).trans ?_
    refine b_ite ?_ ?_
    · rfl
    · refine (e_iconst (code := kX8_mixed) (pc := 38) rfl).trans ?_
      rfl
  · rfl
theorem b_X8_mixed_34 {C : aCall} {σ : aSt} {x1 : Int32} : b_R C kX8_mixed [] (34, [some (.ref 237), some (.int x1)], [.ref 237], σ) = b_R C kX8_mixed [] (39, [some (.ref 237), some (.int x1)], [.int (nI 1), .ref 237], σ) := by
  refine (e_iconst (code := kX8_mixed) (pc := 34) rfl).trans ?_
  refine (e_goto (code := kX8_mixed) (pc := 35) rfl).trans ?_
  rfl
theorem b_X8_mixed_39 {C : aCall} {σ : aSt} {x1 y0 : Int32} (h : Sh σ) : b_R C kX8_mixed [] (39, [some (.ref 237), some (.int x1)], [.int y0, .ref 237], σ) = b_G C kX8_mixed [] 40 43 [some (.ref 237), some (.int x1)] [] (C 233 [.ref 237, .int y0, .int (nI 1)] σ) := by
  refine (e_iconst (code := kX8_mixed) (pc := 39) rfl).trans ?_
  exact (e_callV (σ := σ) (code := kX8_mixed) (pc := 40) (len := 3) (k := 233) (n := 3) (c := 20) (as := [.ref 237, .int y0, .int (nI 1)]) (st0 := []) rfl rfl rfl rfl rfl (sk_237 (σ := σ) h) rfl)
theorem b_X8_mixed_43 {C : aCall} {σ : aSt} {x1 : Int32} (h : Sh σ) : b_R C kX8_mixed [] (43, [some (.ref 237), some (.int x1)], [], σ) = b_G C kX8_mixed [] 44 47 [some (.ref 237), some (.int x1)] [] (C 231 [.ref 237] σ) := by
  refine (e_aload_n (code := kX8_mixed) (pc := 43) rfl rfl).trans ?_
  exact (e_callV (σ := σ) (code := kX8_mixed) (pc := 44) (len := 3) (k := 231) (n := 1) (c := 20) (as := [.ref 237]) (st0 := []) rfl rfl rfl rfl rfl (sk_237 (σ := σ) h) rfl)
theorem b_X8_mixed_47 {C : aCall} {σ : aSt} {x1 y0 : Int32} (h : Sh σ) : b_R C kX8_mixed [] (47, [some (.ref 237), some (.int x1)], [.int y0], σ) = (if y0 = 0 then b_G C kX8_mixed [] 51 54 [some (.ref 237), some (.int x1)] [] (C 166 [.ref 237] σ) else b_R C kX8_mixed [] (64, [some (.ref 237), some (.int x1)], [.int (((-10)) - (a_I σ 237 25))], σ)) := by
  refine (e_ifne (code := kX8_mixed) (pc := 47) rfl).trans ?_
  refine b_ite ?_ ?_
  · refine (e_aload_n (code := kX8_mixed) (pc := 50) rfl rfl).trans ?_
    exact (e_callV (σ := σ) (code := kX8_mixed) (pc := 51) (len := 3) (k := 166) (n := 1) (c := 20) (as := [.ref 237]) (st0 := []) rfl rfl rfl rfl rfl (sk_237 (σ := σ) h) rfl)
  · refine (e_bipush (code := kX8_mixed) (pc := 57) rfl).trans ?_
    refine (e_aload_n (code := kX8_mixed) (pc := 59) rfl rfl).trans ?_
    refine (e_getI (code := kX8_mixed) (pc := 60) (c := 10) rfl (sk_237 (σ := σ) h) rfl).trans ?_
    refine (e_isub (code := kX8_mixed) (pc := 63) rfl).trans ?_
    rfl
theorem b_X8_mixed_54 {C : aCall} {σ : aSt} {x1 y0 : Int32} : b_R C kX8_mixed [] (54, [some (.ref 237), some (.int x1)], [.int y0], σ) = b_R C kX8_mixed [] (64, [some (.ref 237), some (.int x1)], [.int y0], σ) := by
  refine (e_goto (code := kX8_mixed) (pc := 54) rfl).trans ?_
  rfl
theorem b_X8_mixed_64 {C : aCall} {σ : aSt} {x1 y0 : Int32} : b_R C kX8_mixed [] (64, [some (.ref 237), some (.int x1)], [.int y0], σ) = some (.inl (some (.int y0)), σ) := by
  exact e_ireturn rfl
theorem n_X8_define {P : aCall} {d : Nat} {σ : aSt} {x1 : Int32} (hd : 1 ≤ d) : a_call a_tab P d 258 [.ref 237, .int x1] σ = b_R (a_call a_tab P (d - 1)) kX8_define [] (0, [some (.ref 237), some (.int x1), none, none], [], σ) := e_call hd at_X8_define rfl
theorem b_X8_define_0 {C : aCall} {σ : aSt} {x1 : Int32} (h : Sh σ) : b_R C kX8_define [] (0, [some (.ref 237), some (.int x1), none, none], [], σ) = b_G C kX8_define [] 2 5 [some (.ref 237), some (.int x1), none, none] [] (C 256 [.ref 237, .int x1] σ) := by
  refine (e_aload_n (code := kX8_define) (pc := 0) rfl rfl).trans ?_
  refine (e_iload_n (code := kX8_define) (pc := 1) rfl rfl).trans ?_
  exact (e_callV (σ := σ) (code := kX8_define) (pc := 2) (len := 3) (k := 256) (n := 2) (c := 20) (as := [.ref 237, .int x1]) (st0 := []) rfl rfl rfl rfl rfl (sk_237 (σ := σ) h) rfl)
theorem b_X8_define_5 {C : aCall} {σ : aSt} {x1 y0 : Int32} (h : Sh σ) : b_R C kX8_define [] (5, [some (.ref 237), some (.int x1), none, none], [.int y0], σ) = (if y0 = 0 then some (.inl (some (.int (nI 0))), σ) else b_G C kX8_define [] 12 15 [some (.ref 237), some (.int x1), none, none] [] (C 230 [.ref 237, .int x1] σ)) := by
  refine (e_ifne (code := kX8_define) (pc := 5) rfl).trans ?_
  refine b_ite ?_ ?_
  · refine (e_iconst (code := kX8_define) (pc := 8) rfl).trans ?_
    exact e_ireturn rfl
  · refine (e_aload_n (code := kX8_define) (pc := 10) rfl rfl).trans ?_
    refine (e_iload_n (code := kX8_define) (pc := 11) rfl rfl).trans ?_
    exact (e_callV (σ := σ) (code := kX8_define) (pc := 12) (len := 3) (k := 230) (n := 2) (c := 20) (as := [.ref 237, .int x1]) (st0 := []) rfl rfl rfl rfl rfl (sk_237 (σ := σ) h) rfl)
theorem b_X8_define_15 {C : aCall} {σ : aSt} {x1 : Int32} (h : Sh σ) : b_R C kX8_define [] (15, [some (.ref 237), some (.int x1), none, none], [], σ) = b_G C kX8_define [] 16 19 [some (.ref 237), some (.int x1), none, none] [] (C 246 [.ref 237] σ) := by
  refine (e_aload_n (code := kX8_define) (pc := 15) rfl rfl).trans ?_
  exact (e_callV (σ := σ) (code := kX8_define) (pc := 16) (len := 3) (k := 246) (n := 1) (c := 20) (as := [.ref 237]) (st0 := []) rfl rfl rfl rfl rfl (sk_237 (σ := σ) h) rfl)
theorem b_X8_define_19 {C : aCall} {σ : aSt} {x1 : Int32} (h : Sh σ) : b_R C kX8_define [] (19, [some (.ref 237), some (.int x1), none, none], [], σ) = (if (a_I σ 237 25) = 0 then b_G C kX8_define [] 27 30 [some (.ref 237), some (.int x1), none, none] [] (C 245 [.ref 237] σ) else b_R C kX8_define [] (34, [some (.ref 237), some (.int x1), none, none], [.int ((-1))], σ)) := by
  refine (e_aload_n (code := kX8_define) (pc := 19) rfl rfl).trans ?_
  refine (e_getI (code := kX8_define) (pc := 20) (c := 10) rfl (sk_237 (σ := σ) h) rfl).trans ?_
  refine (e_ifne (code := kX8_define) (pc := 23) rfl).trans ?_
  refine b_ite ?_ ?_
  · refine (e_aload_n (code := kX8_define) (pc := 26) rfl rfl).trans ?_
    exact (e_callV (σ := σ) (code := kX8_define) (pc := 27) (len := 3) (k := 245) (n := 1) (c := 20) (as := [.ref 237]) (st0 := []) rfl rfl rfl rfl rfl (sk_237 (σ := σ) h) rfl)
  · refine (e_iconst (code := kX8_define) (pc := 33) rfl).trans ?_
    rfl
theorem b_X8_define_30 {C : aCall} {σ : aSt} {x1 y0 : Int32} : b_R C kX8_define [] (30, [some (.ref 237), some (.int x1), none, none], [.int y0], σ) = b_R C kX8_define [] (34, [some (.ref 237), some (.int x1), none, none], [.int y0], σ) := by
  refine (e_goto (code := kX8_define) (pc := 30) rfl).trans ?_
  rfl
theorem b_X8_define_34 {C : aCall} {σ : aSt} {x1 y0 : Int32} (h : Sh σ) : b_R C kX8_define [] (34, [some (.ref 237), some (.int x1), none, none], [.int y0], σ) = (if (a_I σ 237 25) = 0 then b_G C kX8_define [] 44 47 [some (.ref 237), some (.int x1), some (.int y0), none] [.ref 237] (C 244 [.ref 237] σ) else b_R C kX8_define [] (67, [some (.ref 237), some (.int x1), some (.int y0), none], [.ref 237], σ)) := by
  refine (e_istore_n (code := kX8_define) (pc := 34) rfl rfl rfl).trans ?_
  refine (e_aload_n (code := kX8_define) (pc := 35) rfl rfl).trans ?_
  refine (e_aload_n (code := kX8_define) (pc := 36) rfl rfl).trans ?_
  refine (e_getI (code := kX8_define) (pc := 37) (c := 10) rfl (sk_237 (σ := σ) h) rfl).trans ?_
  refine (e_ifne (code := kX8_define) (pc := 40) rfl).trans ?_
  refine b_ite ?_ ?_
  · refine (e_aload_n (code := kX8_define) (pc := 43) rfl rfl).trans ?_
    exact (e_callV (σ := σ) (code := kX8_define) (pc := 44) (len := 3) (k := 244) (n := 1) (c := 20) (as := [.ref 237]) (st0 := [.ref 237]) rfl rfl rfl rfl rfl (sk_237 (σ := σ) h) rfl)
  · rfl
theorem b_X8_define_47 {C : aCall} {σ : aSt} {w : Nat} {x1 x2 y0 : Int32} (h : Sh σ) (hw : Rw σ w) : b_R C kX8_define [] (47, [some (.ref 237), some (.int x1), some (.int x2), none], [.int y0, .ref 237], σ) = (if y0 = ((-1)) then (if x2 = ((-1)) then b_gd (a_in (nI 1) 720) ((if (a_I σ w (Int32.toNatClampNeg (nI 1))) < (nI 20) then b_R C kX8_define [] (67, [some (.ref 237), some (.int x1), some (.int x2), none], [.ref 237], σ) else b_R C kX8_define [] (71, [some (.ref 237), some (.int x1), some (.int x2), none], [.ref 237], σ))) else b_R C kX8_define [] (67, [some (.ref 237), some (.int x1), some (.int x2), none], [.ref 237], σ)) else b_R C kX8_define [] (71, [some (.ref 237), some (.int x1), some (.int x2), none], [.ref 237], σ)) := by
  refine (e_iconst (code := kX8_define) (pc := 47) rfl).trans ?_
  refine (e_icne (code := kX8_define) (pc := 48) rfl).trans ?_
  refine b_ite ?_ ?_
  · refine (e_iload_n (code := kX8_define) (pc := 51) rfl rfl).trans ?_
    refine (e_iconst (code := kX8_define) (pc := 52) rfl).trans ?_
    refine (e_icne (code := kX8_define) (pc := 53) rfl).trans ?_
    refine b_ite ?_ ?_
    · refine (e_aload_n (code := kX8_define) (pc := 56) rfl rfl).trans ?_
      refine (e_getR (code := kX8_define) (pc := 57) (c := 10) rfl (sk_237 (σ := σ) h) hw.1).trans ?_
      refine (e_iconst (code := kX8_define) (pc := 60) rfl).trans ?_
      refine (e_iaload (code := kX8_define) (pc := 61) rfl (.inl hw.2.1) hw.2.2.2).trans ?_
      refine b_gd_c ?_
      refine (e_bipush (code := kX8_define) (pc := 62) rfl).trans ?_
      refine (e_icge (code := kX8_define) (pc := 64) rfl).trans ?_
      refine b_ite ?_ ?_
      · rfl
      · rfl
    · rfl
  · rfl
theorem b_X8_define_67 {C : aCall} {σ : aSt} {x1 x2 : Int32} : b_R C kX8_define [] (67, [some (.ref 237), some (.int x1), some (.int x2), none], [.ref 237], σ) = b_R C kX8_define [] (72, [some (.ref 237), some (.int x1), some (.int x2), none], [.int (nI 1), .ref 237], σ) := by
  refine (e_iconst (code := kX8_define) (pc := 67) rfl).trans ?_
  refine (e_goto (code := kX8_define) (pc := 68) rfl).trans ?_
  rfl
theorem b_X8_define_71 {C : aCall} {σ : aSt} {x1 x2 : Int32} : b_R C kX8_define [] (71, [some (.ref 237), some (.int x1), some (.int x2), none], [.ref 237], σ) = b_R C kX8_define [] (72, [some (.ref 237), some (.int x1), some (.int x2), none], [.int (nI 0), .ref 237], σ) := by
  refine (e_iconst (code := kX8_define) (pc := 71) rfl).trans ?_
  rfl
theorem b_X8_define_72 {C : aCall} {σ : aSt} {x1 x2 y0 : Int32} (h : Sh σ) : b_R C kX8_define [] (72, [some (.ref 237), some (.int x1), some (.int x2), none], [.int y0, .ref 237], σ) = b_G C kX8_define [] 73 76 [some (.ref 237), some (.int x1), some (.int x2), none] [] (C 233 [.ref 237, .int y0, .int (nI 3)] σ) := by
  refine (e_iconst (code := kX8_define) (pc := 72) rfl).trans ?_
  exact (e_callV (σ := σ) (code := kX8_define) (pc := 73) (len := 3) (k := 233) (n := 3) (c := 20) (as := [.ref 237, .int y0, .int (nI 3)]) (st0 := []) rfl rfl rfl rfl rfl (sk_237 (σ := σ) h) rfl)
theorem b_X8_define_76 {C : aCall} {σ : aSt} {x1 x2 : Int32} (h : Sh σ) : b_R C kX8_define [] (76, [some (.ref 237), some (.int x1), some (.int x2), none], [], σ) = b_G C kX8_define [] 77 80 [some (.ref 237), some (.int x1), some (.int x2), none] [] (C 234 [.ref 237] σ) := by
  refine (e_aload_n (code := kX8_define) (pc := 76) rfl rfl).trans ?_
  exact (e_callV (σ := σ) (code := kX8_define) (pc := 77) (len := 3) (k := 234) (n := 1) (c := 20) (as := [.ref 237]) (st0 := []) rfl rfl rfl rfl rfl (sk_237 (σ := σ) h) rfl)
theorem b_X8_define_80 {C : aCall} {σ : aSt} {x1 x2 : Int32} (h : Sh σ) : b_R C kX8_define [] (80, [some (.ref 237), some (.int x1), some (.int x2), none], [], σ) = b_G C kX8_define [] 83 86 [some (.ref 237), some (.int x1), some (.int x2), none] [] (C 239 [.ref 237, .int (nI 61)] σ) := by
  refine (e_aload_n (code := kX8_define) (pc := 80) rfl rfl).trans ?_
  refine (e_bipush (code := kX8_define) (pc := 81) rfl).trans ?_
  exact (e_callV (σ := σ) (code := kX8_define) (pc := 83) (len := 3) (k := 239) (n := 2) (c := 20) (as := [.ref 237, .int (nI 61)]) (st0 := []) rfl rfl rfl rfl rfl (sk_237 (σ := σ) h) rfl)
theorem b_X8_define_86 {C : aCall} {σ : aSt} {x1 x2 : Int32} (h : Sh σ) : b_R C kX8_define [] (86, [some (.ref 237), some (.int x1), some (.int x2), none], [], σ) = b_G C kX8_define [] 87 90 [some (.ref 237), some (.int x1), some (.int x2), none] [] (C 250 [.ref 237] σ) := by
  refine (e_aload_n (code := kX8_define) (pc := 86) rfl rfl).trans ?_
  exact (e_callV (σ := σ) (code := kX8_define) (pc := 87) (len := 3) (k := 250) (n := 1) (c := 20) (as := [.ref 237]) (st0 := []) rfl rfl rfl rfl rfl (sk_237 (σ := σ) h) rfl)
theorem b_X8_define_90 {C : aCall} {σ : aSt} {x1 x2 : Int32} (h : Sh σ) : b_R C kX8_define [] (90, [some (.ref 237), some (.int x1), some (.int x2), none], [], σ) = (if (a_I σ 237 25) = 0 then (if (a_I σ 237 24) = 0 then b_R C kX8_define [] (105, [some (.ref 237), some (.int x1), some (.int x2), none], [.ref 237], σ) else b_R C kX8_define [] (110, [some (.ref 237), some (.int x1), some (.int x2), none], [.int (nI 0), .ref 237], σ)) else b_R C kX8_define [] (105, [some (.ref 237), some (.int x1), some (.int x2), none], [.ref 237], σ)) := by
  refine (e_aload_n (code := kX8_define) (pc := 90) rfl rfl).trans ?_
  refine (e_aload_n (code := kX8_define) (pc := 91) rfl rfl).trans ?_
  refine (e_getI (code := kX8_define) (pc := 92) (c := 10) rfl (sk_237 (σ := σ) h) rfl).trans ?_
  refine (e_ifne (code := kX8_define) (pc := 95) rfl).trans ?_
  refine b_ite ?_ ?_
  · refine (e_aload_n (code := kX8_define) (pc := 98) rfl rfl).trans ?_
    refine (e_getI (code := kX8_define) (pc := 99) (c := 10) rfl (sk_237 (σ := σ) h) rfl).trans ?_
    refine (e_ifne (code := kX8_define) (pc := 102) rfl).trans ?_
    refine b_ite ?_ ?_
    · rfl
    · refine (e_iconst (code := kX8_define) (pc := 109) rfl).trans ?_
      rfl
  · rfl
theorem b_X8_define_105 {C : aCall} {σ : aSt} {x1 x2 : Int32} : b_R C kX8_define [] (105, [some (.ref 237), some (.int x1), some (.int x2), none], [.ref 237], σ) = b_R C kX8_define [] (110, [some (.ref 237), some (.int x1), some (.int x2), none], [.int (nI 1), .ref 237], σ) := by
  refine (e_iconst (code := kX8_define) (pc := 105) rfl).trans ?_
  refine (e_goto (code := kX8_define) (pc := 106) rfl).trans ?_
  rfl
theorem b_X8_define_110 {C : aCall} {σ : aSt} {x1 x2 y0 : Int32} (h : Sh σ) : b_R C kX8_define [] (110, [some (.ref 237), some (.int x1), some (.int x2), none], [.int y0, .ref 237], σ) = b_G C kX8_define [] 111 114 [some (.ref 237), some (.int x1), some (.int x2), none] [] (C 233 [.ref 237, .int y0, .int (nI 1)] σ) := by
  refine (e_iconst (code := kX8_define) (pc := 110) rfl).trans ?_
  exact (e_callV (σ := σ) (code := kX8_define) (pc := 111) (len := 3) (k := 233) (n := 3) (c := 20) (as := [.ref 237, .int y0, .int (nI 1)]) (st0 := []) rfl rfl rfl rfl rfl (sk_237 (σ := σ) h) rfl)
theorem b_X8_define_114 {C : aCall} {σ : aSt} {x1 x2 : Int32} (h : Sh σ) : b_R C kX8_define [] (114, [some (.ref 237), some (.int x1), some (.int x2), none], [], σ) = b_G C kX8_define [] 115 118 [some (.ref 237), some (.int x1), some (.int x2), none] [] (C 231 [.ref 237] σ) := by
  refine (e_aload_n (code := kX8_define) (pc := 114) rfl rfl).trans ?_
  exact (e_callV (σ := σ) (code := kX8_define) (pc := 115) (len := 3) (k := 231) (n := 1) (c := 20) (as := [.ref 237]) (st0 := []) rfl rfl rfl rfl rfl (sk_237 (σ := σ) h) rfl)
theorem b_X8_define_118 {C : aCall} {σ : aSt} {x1 x2 y0 : Int32} (h : Sh σ) : b_R C kX8_define [] (118, [some (.ref 237), some (.int x1), some (.int x2), none], [.int y0], σ) = (if y0 = 0 then b_G C kX8_define [] 130 133 [some (.ref 237), some (.int x1), some (.int x2), none] [] (C 219 [.ref 237] σ) else some (.inl (some (.int (((-10)) - (a_I σ 237 25)))), σ)) := by
  refine (e_ifeq (code := kX8_define) (pc := 118) rfl).trans ?_
  refine b_ite ?_ ?_
  · refine (e_aload_n (code := kX8_define) (pc := 129) rfl rfl).trans ?_
    exact (e_callV (σ := σ) (code := kX8_define) (pc := 130) (len := 3) (k := 219) (n := 1) (c := 20) (as := [.ref 237]) (st0 := []) rfl rfl rfl rfl rfl (sk_237 (σ := σ) h) rfl)
  · refine (e_bipush (code := kX8_define) (pc := 121) rfl).trans ?_
    refine (e_aload_n (code := kX8_define) (pc := 123) rfl rfl).trans ?_
    refine (e_getI (code := kX8_define) (pc := 124) (c := 10) rfl (sk_237 (σ := σ) h) rfl).trans ?_
    refine (e_isub (code := kX8_define) (pc := 127) rfl).trans ?_
    exact e_ireturn rfl
theorem b_X8_define_133 {C : aCall} {σ : aSt} {w : Nat} {x1 x2 : Int32} (h : Sh σ) (hw : Rw σ w) : b_R C kX8_define [] (133, [some (.ref 237), some (.int x1), some (.int x2), none], [], σ) = (if x2 = ((-1)) then b_gd (a_in (nI 1) 720) (b_R C kX8_define [] (148, [some (.ref 237), some (.int x1), some (.int x2), none], [.int (a_I σ w (Int32.toNatClampNeg (nI 1)))], σ)) else b_R C kX8_define [] (148, [some (.ref 237), some (.int x1), some (.int x2), none], [.int x2], σ)) := by
  refine (e_iload_n (code := kX8_define) (pc := 133) rfl rfl).trans ?_
  refine (e_iconst (code := kX8_define) (pc := 134) rfl).trans ?_
  refine (e_icne (code := kX8_define) (pc := 135) rfl).trans ?_
  refine b_ite ?_ ?_
  · refine (e_aload_n (code := kX8_define) (pc := 138) rfl rfl).trans ?_
    refine (e_getR (code := kX8_define) (pc := 139) (c := 10) rfl (sk_237 (σ := σ) h) hw.1).trans ?_
    refine (e_iconst (code := kX8_define) (pc := 142) rfl).trans ?_
    refine (e_iaload (code := kX8_define) (pc := 143) rfl (.inl hw.2.1) hw.2.2.2).trans ?_
    refine b_gd_c ?_
    refine (e_goto (code := kX8_define) (pc := 144) rfl).trans ?_
    rfl
  · refine (e_iload_n (code := kX8_define) (pc := 147) rfl rfl).trans ?_
    rfl
theorem b_X8_define_148 {C : aCall} {σ : aSt} {x1 x2 y0 : Int32} (h : Sh σ) : b_R C kX8_define [] (148, [some (.ref 237), some (.int x1), some (.int x2), none], [.int y0], σ) = b_G C kX8_define [] 160 163 [some (.ref 237), some (.int x1), some (.int x2), some (.int y0)] [] (C 247 [.ref 237, .int (((nI 288) + ((nI 18) * y0)) + (nI 0))] σ) := by
  refine (e_istore_n (code := kX8_define) (pc := 148) rfl rfl rfl).trans ?_
  refine (e_aload_n (code := kX8_define) (pc := 149) rfl rfl).trans ?_
  refine (e_sipush (code := kX8_define) (pc := 150) rfl).trans ?_
  refine (e_bipush (code := kX8_define) (pc := 153) rfl).trans ?_
  refine (e_iload_n (code := kX8_define) (pc := 155) rfl rfl).trans ?_
  refine (e_imul (code := kX8_define) (pc := 156) rfl).trans ?_
  refine (e_iadd (code := kX8_define) (pc := 157) rfl).trans ?_
  refine (e_iconst (code := kX8_define) (pc := 158) rfl).trans ?_
  refine (e_iadd (code := kX8_define) (pc := 159) rfl).trans ?_
  exact (e_callV (σ := σ) (code := kX8_define) (pc := 160) (len := 3) (k := 247) (n := 2) (c := 20) (as := [.ref 237, .int (((nI 288) + ((nI 18) * y0)) + (nI 0))]) (st0 := []) rfl rfl rfl rfl rfl (sk_237 (σ := σ) h) rfl)
theorem b_X8_define_163 {C : aCall} {σ : aSt} {x1 x2 x3 : Int32} (h : Sh σ) : b_R C kX8_define [] (163, [some (.ref 237), some (.int x1), some (.int x2), some (.int x3)], [], σ) = b_G C kX8_define [] 165 168 [some (.ref 237), some (.int x1), some (.int x2), some (.int x3)] [] (C 251 [.ref 237, .int x3] σ) := by
  refine (e_aload_n (code := kX8_define) (pc := 163) rfl rfl).trans ?_
  refine (e_iload_n (code := kX8_define) (pc := 164) rfl rfl).trans ?_
  exact (e_callV (σ := σ) (code := kX8_define) (pc := 165) (len := 3) (k := 251) (n := 2) (c := 20) (as := [.ref 237, .int x3]) (st0 := []) rfl rfl rfl rfl rfl (sk_237 (σ := σ) h) rfl)
theorem b_X8_define_168 {C : aCall} {σ : aSt} {w : Nat} {x1 x2 x3 : Int32} (h : Sh σ) (hw : Rw σ w) : b_R C kX8_define [] (168, [some (.ref 237), some (.int x1), some (.int x2), some (.int x3)], [], σ) = b_gd (a_in (nI 1) 720) (b_G C kX8_define [] 182 185 [some (.ref 237), some (.int x1), some (.int x2), some (.int x3)] [.int (nI 1), .ref w] (C 1002 [.int (a_I σ w (Int32.toNatClampNeg (nI 1))), .int (x3 + (nI 1))] σ)) := by
  refine (e_aload_n (code := kX8_define) (pc := 168) rfl rfl).trans ?_
  refine (e_getR (code := kX8_define) (pc := 169) (c := 10) rfl (sk_237 (σ := σ) h) hw.1).trans ?_
  refine (e_iconst (code := kX8_define) (pc := 172) rfl).trans ?_
  refine (e_aload_n (code := kX8_define) (pc := 173) rfl rfl).trans ?_
  refine (e_getR (code := kX8_define) (pc := 174) (c := 10) rfl (sk_237 (σ := σ) h) hw.1).trans ?_
  refine (e_iconst (code := kX8_define) (pc := 177) rfl).trans ?_
  refine (e_iaload (code := kX8_define) (pc := 178) rfl (.inl hw.2.1) hw.2.2.2).trans ?_
  refine b_gd_c ?_
  refine (e_iload_n (code := kX8_define) (pc := 179) rfl rfl).trans ?_
  refine (e_iconst (code := kX8_define) (pc := 180) rfl).trans ?_
  refine (e_iadd (code := kX8_define) (pc := 181) rfl).trans ?_
  exact (e_callS (code := kX8_define) (pc := 182) (len := 3) (k := 1002) (n := 2) (as := [.int (a_I σ w (Int32.toNatClampNeg (nI 1))), .int (x3 + (nI 1))]) (st0 := [.int (nI 1), .ref w]) rfl rfl rfl rfl)
theorem b_X8_define_185 {C : aCall} {σ : aSt} {w : Nat} {x1 x2 x3 y0 y1 : Int32} (hw : Rw σ w) : b_R C kX8_define [] (185, [some (.ref 237), some (.int x1), some (.int x2), some (.int x3)], [.int y0, .int y1, .ref w], σ) = b_gd (a_in y1 720) (some (.inl (some (.int x3)), (a_setI σ w (Int32.toNatClampNeg y1) y0))) := by
  refine (e_iastore (code := kX8_define) (pc := 185) rfl hw.2.1 hw.2.2.1 hw.2.2.2).trans ?_
  refine b_gd_c ?_
  refine (e_iload_n (code := kX8_define) (pc := 186) (σ := (a_setI σ w (Int32.toNatClampNeg y1) y0)) rfl rfl).trans ?_
  exact e_ireturn rfl
theorem n_X8_property {P : aCall} {d : Nat} {σ : aSt} {x1 x2 : Int32} (hd : 1 ≤ d) : a_call a_tab P d 259 [.ref 237, .int x1, .int x2] σ = b_R (a_call a_tab P (d - 1)) kX8_property [] (0, [some (.ref 237), some (.int x1), some (.int x2)], [], σ) := e_call hd at_X8_property rfl
theorem b_X8_property_0 {C : aCall} {σ : aSt} {x1 x2 : Int32} (h : Sh σ) : b_R C kX8_property [] (0, [some (.ref 237), some (.int x1), some (.int x2)], [], σ) = b_G C kX8_property [] 2 5 [some (.ref 237), some (.int x1), some (.int x2)] [] (C 163 [.ref 237, .int x1] σ) := by
  refine (e_aload_n (code := kX8_property) (pc := 0) rfl rfl).trans ?_
  refine (e_iload_n (code := kX8_property) (pc := 1) rfl rfl).trans ?_
  exact (e_callV (σ := σ) (code := kX8_property) (pc := 2) (len := 3) (k := 163) (n := 2) (c := 20) (as := [.ref 237, .int x1]) (st0 := []) rfl rfl rfl rfl rfl (sk_237 (σ := σ) h) rfl)
theorem b_X8_property_5 {C : aCall} {σ : aSt} {x1 x2 : Int32} : b_R C kX8_property [] (5, [some (.ref 237), some (.int x1), some (.int x2)], [], σ) = b_R C kX8_property [] (b_tsw 6 76 0 6 #[42, 44, 49, 54, 54, 54, 62] x2, [some (.ref 237), some (.int x1), some (.int x2)], [], σ) := by
  refine (e_iload_n (code := kX8_property) (pc := 5) rfl rfl).trans ?_
  refine (e_tableswitch (code := kX8_property) (pc := 6) rfl rfl).trans ?_
  rfl
theorem b_X8_property_48 {C : aCall} {σ : aSt} {x1 x2 : Int32} : b_R C kX8_property [] (48, [some (.ref 237), some (.int x1), some (.int x2)], [], σ) = some (.inl (some (.int x1)), σ) := by
  refine (e_iload_n (code := kX8_property) (pc := 48) rfl rfl).trans ?_
  exact e_ireturn rfl
theorem b_X8_property_50 {C : aCall} {σ : aSt} {x1 x2 : Int32} (h : Sh σ) : b_R C kX8_property [] (50, [some (.ref 237), some (.int x1), some (.int x2)], [], σ) = some (.inl (some (.int (a_I σ 237 10))), σ) := by
  refine (e_aload_n (code := kX8_property) (pc := 50) rfl rfl).trans ?_
  refine (e_getI (code := kX8_property) (pc := 51) (c := 10) rfl (sk_237 (σ := σ) h) rfl).trans ?_
  exact e_ireturn rfl
theorem b_X8_property_55 {C : aCall} {σ : aSt} {x1 x2 : Int32} (h : Sh σ) : b_R C kX8_property [] (55, [some (.ref 237), some (.int x1), some (.int x2)], [], σ) = b_G C kX8_property [] 56 59 [some (.ref 237), some (.int x1), some (.int x2)] [] (C 164 [.ref 237] σ) := by
  refine (e_aload_n (code := kX8_property) (pc := 55) rfl rfl).trans ?_
  exact (e_callV (σ := σ) (code := kX8_property) (pc := 56) (len := 3) (k := 164) (n := 1) (c := 20) (as := [.ref 237]) (st0 := []) rfl rfl rfl rfl rfl (sk_237 (σ := σ) h) rfl)
theorem b_X8_property_59 {C : aCall} {σ : aSt} {x1 x2 y0 : Int32} : b_R C kX8_property [] (59, [some (.ref 237), some (.int x1), some (.int x2)], [.int y0], σ) = some (.inl (some (.int y0)), σ) := by
  exact e_ireturn rfl
theorem b_X8_property_60 {C : aCall} {σ : aSt} {x1 x2 : Int32} (h : Sh σ) : b_R C kX8_property [] (60, [some (.ref 237), some (.int x1), some (.int x2)], [], σ) = b_G C kX8_property [] 64 67 [some (.ref 237), some (.int x1), some (.int x2)] [] (C 165 [.ref 237, .int (x2 - (nI 3))] σ) := by
  refine (e_aload_n (code := kX8_property) (pc := 60) rfl rfl).trans ?_
  refine (e_iload_n (code := kX8_property) (pc := 61) rfl rfl).trans ?_
  refine (e_iconst (code := kX8_property) (pc := 62) rfl).trans ?_
  refine (e_isub (code := kX8_property) (pc := 63) rfl).trans ?_
  exact (e_callV (σ := σ) (code := kX8_property) (pc := 64) (len := 3) (k := 165) (n := 2) (c := 20) (as := [.ref 237, .int (x2 - (nI 3))]) (st0 := []) rfl rfl rfl rfl rfl (sk_237 (σ := σ) h) rfl)
theorem b_X8_property_67 {C : aCall} {σ : aSt} {x1 x2 y0 : Int32} : b_R C kX8_property [] (67, [some (.ref 237), some (.int x1), some (.int x2)], [.int y0], σ) = some (.inl (some (.int y0)), σ) := by
  exact e_ireturn rfl
theorem b_X8_property_68 {C : aCall} {σ : aSt} {x1 x2 : Int32} (h : Sh σ) : b_R C kX8_property [] (68, [some (.ref 237), some (.int x1), some (.int x2)], [], σ) = b_G C kX8_property [] 70 73 [some (.ref 237), some (.int x1), some (.int x2)] [] (C 169 [.ref 237, .int x1] σ) := by
  refine (e_aload_n (code := kX8_property) (pc := 68) rfl rfl).trans ?_
  refine (e_iload_n (code := kX8_property) (pc := 69) rfl rfl).trans ?_
  exact (e_callV (σ := σ) (code := kX8_property) (pc := 70) (len := 3) (k := 169) (n := 2) (c := 20) (as := [.ref 237, .int x1]) (st0 := []) rfl rfl rfl rfl rfl (sk_237 (σ := σ) h) rfl)
theorem b_X8_property_73 {C : aCall} {σ : aSt} {x1 x2 y0 : Int32} : b_R C kX8_property [] (73, [some (.ref 237), some (.int x1), some (.int x2)], [.int y0], σ) = (if y0 = 0 then b_R C kX8_property [] (81, [some (.ref 237), some (.int x1), some (.int x2)], [.int (nI 0)], σ) else b_R C kX8_property [] (81, [some (.ref 237), some (.int x1), some (.int x2)], [.int (nI 1)], σ)) := by
  refine (e_ifeq (code := kX8_property) (pc := 73) rfl).trans ?_
  refine b_ite ?_ ?_
  · refine (e_iconst (code := kX8_property) (pc := 80) rfl).trans ?_
    rfl
  · refine (e_iconst (code := kX8_property) (pc := 76) rfl).trans ?_
    refine (e_goto (code := kX8_property) (pc := 77) rfl).trans ?_
    rfl
theorem b_X8_property_81 {C : aCall} {σ : aSt} {x1 x2 y0 : Int32} : b_R C kX8_property [] (81, [some (.ref 237), some (.int x1), some (.int x2)], [.int y0], σ) = some (.inl (some (.int y0)), σ) := by
  exact e_ireturn rfl
theorem b_X8_property_82 {C : aCall} {σ : aSt} {x1 x2 : Int32} (h : Sh σ) : b_R C kX8_property [] (82, [some (.ref 237), some (.int x1), some (.int x2)], [], σ) = b_G C kX8_property [] 84 87 [some (.ref 237), some (.int x1), some (.int x2)] [] (C 189 [.ref 237, .int x1] σ) := by
  refine (e_aload_n (code := kX8_property) (pc := 82) rfl rfl).trans ?_
  refine (e_iload_n (code := kX8_property) (pc := 83) rfl rfl).trans ?_
  exact (e_callV (σ := σ) (code := kX8_property) (pc := 84) (len := 3) (k := 189) (n := 2) (c := 20) (as := [.ref 237, .int x1]) (st0 := []) rfl rfl rfl rfl rfl (sk_237 (σ := σ) h) rfl)
theorem b_X8_property_87 {C : aCall} {σ : aSt} {x1 x2 y0 : Int32} : b_R C kX8_property [] (87, [some (.ref 237), some (.int x1), some (.int x2)], [.int y0], σ) = some (.inl (some (.int y0)), σ) := by
  exact e_ireturn rfl
theorem n_X8_emit {P : aCall} {d : Nat} {σ : aSt} {x1 : Int32} (hd : 1 ≤ d) : a_call a_tab P d 260 [.ref 237, .int x1] σ = b_R (a_call a_tab P (d - 1)) kX8_emit [] (0, [some (.ref 237), some (.int x1)], [], σ) := e_call hd at_X8_emit rfl
theorem b_X8_emit_0 {C : aCall} {σ : aSt} {x1 : Int32} (h : Sh σ) : b_R C kX8_emit [] (0, [some (.ref 237), some (.int x1)], [], σ) = (if (a_I σ 237 25) = 0 then b_gd (a_in (a_I σ 237 34) 200) (b_R C kX8_emit [] (27, [some (.ref 237), some (.int x1)], [], (a_setI (a_setI σ 250 (Int32.toNatClampNeg (a_I σ 237 34)) x1) 237 34 ((a_I (a_setI σ 250 (Int32.toNatClampNeg (a_I σ 237 34)) x1) 237 34) + (nI 1))))) else b_R C kX8_emit [] (27, [some (.ref 237), some (.int x1)], [], σ)) := by
  refine (e_aload_n (code := kX8_emit) (pc := 0) rfl rfl).trans ?_
  refine (e_getI (code := kX8_emit) (pc := 1) (c := 10) rfl (sk_237 (σ := σ) h) rfl).trans ?_
  refine (e_ifne (code := kX8_emit) (pc := 4) rfl).trans ?_
  refine b_ite ?_ ?_
  · refine (e_aload_n (code := kX8_emit) (pc := 7) rfl rfl).trans ?_
    refine (e_getR (code := kX8_emit) (pc := 8) (c := 10) rfl (sk_237 (σ := σ) h) (sr_237_32 (σ := σ) h)).trans ?_
    refine (e_aload_n (code := kX8_emit) (pc := 11) rfl rfl).trans ?_
    refine (e_getI (code := kX8_emit) (pc := 12) (c := 10) rfl (sk_237 (σ := σ) h) rfl).trans ?_
    refine (e_iload_n (code := kX8_emit) (pc := 15) rfl rfl).trans ?_
    refine (e_iastore (code := kX8_emit) (pc := 16) rfl (sk_250 (σ := σ) h) (h_100 rfl) (sl_250 (σ := σ) h)).trans ?_
    refine b_gd_c ?_
    refine (e_aload_n (code := kX8_emit) (pc := 17) (σ := (a_setI σ 250 (Int32.toNatClampNeg (a_I σ 237 34)) x1)) rfl rfl).trans ?_
    refine (e_dup (code := kX8_emit) (pc := 18) (σ := (a_setI σ 250 (Int32.toNatClampNeg (a_I σ 237 34)) x1)) rfl rfl).trans ?_
    refine (e_getI (code := kX8_emit) (pc := 19) (σ := (a_setI σ 250 (Int32.toNatClampNeg (a_I σ 237 34)) x1)) (c := 10) rfl (sk_237 (σ := σ) h) rfl).trans ?_
    refine (e_iconst (code := kX8_emit) (pc := 22) (σ := (a_setI σ 250 (Int32.toNatClampNeg (a_I σ 237 34)) x1)) rfl).trans ?_
    refine (e_iadd (code := kX8_emit) (pc := 23) (σ := (a_setI σ 250 (Int32.toNatClampNeg (a_I σ 237 34)) x1)) rfl).trans ?_
    refine (e_putI (code := kX8_emit) (pc := 24) (σ := (a_setI σ 250 (Int32.toNatClampNeg (a_I σ 237 34)) x1)) (c := 10) rfl (sk_237 (σ := σ) h) (h_100 rfl)).trans ?_
    rfl
  · rfl
theorem b_X8_emit_27 {C : aCall} {σ : aSt} {x1 : Int32} : b_R C kX8_emit [] (27, [some (.ref 237), some (.int x1)], [], σ) = some (.inl none, σ) := by
  exact e_return_ rfl
theorem n_X8_enter {P : aCall} {d : Nat} {σ : aSt} (hd : 1 ≤ d) : a_call a_tab P d 261 [.ref 237] σ = b_R (a_call a_tab P (d - 1)) kX8_enter [] (0, [some (.ref 237)], [], σ) := e_call hd at_X8_enter rfl
theorem b_X8_enter_0 {C : aCall} {σ : aSt} (h : Sh σ) : b_R C kX8_enter [] (0, [some (.ref 237)], [], σ) = (if (a_I σ 237 28) < (nI 6) then b_R C kX8_enter [] (15, [some (.ref 237)], [.int (nI 1), .ref 237], σ) else b_R C kX8_enter [] (15, [some (.ref 237)], [.int (nI 0), .ref 237], σ)) := by
  refine (e_aload_n (code := kX8_enter) (pc := 0) rfl rfl).trans ?_
  refine (e_aload_n (code := kX8_enter) (pc := 1) rfl rfl).trans ?_
  refine (e_getI (code := kX8_enter) (pc := 2) (c := 10) rfl (sk_237 (σ := σ) h) rfl).trans ?_
  refine (e_bipush (code := kX8_enter) (pc := 5) rfl).trans ?_
  refine (e_icge (code := kX8_enter) (pc := 7) rfl).trans ?_
  refine b_ite ?_ ?_
  · refine (e_iconst (code := kX8_enter) (pc := 10) rfl).trans ?_
    refine (e_goto (code := kX8_enter) (pc := 11) rfl).trans ?_
    rfl
  · refine (e_iconst (code := kX8_enter) (pc := 14) rfl).trans ?_
    rfl
theorem b_X8_enter_15 {C : aCall} {σ : aSt} {y0 : Int32} (h : Sh σ) : b_R C kX8_enter [] (15, [some (.ref 237)], [.int y0, .ref 237], σ) = b_G C kX8_enter [] 16 19 [some (.ref 237)] [] (C 233 [.ref 237, .int y0, .int (nI 3)] σ) := by
  refine (e_iconst (code := kX8_enter) (pc := 15) rfl).trans ?_
  exact (e_callV (σ := σ) (code := kX8_enter) (pc := 16) (len := 3) (k := 233) (n := 3) (c := 20) (as := [.ref 237, .int y0, .int (nI 3)]) (st0 := []) rfl rfl rfl rfl rfl (sk_237 (σ := σ) h) rfl)
theorem b_X8_enter_19 {C : aCall} {σ : aSt} (h : Sh σ) : b_R C kX8_enter [] (19, [some (.ref 237)], [], σ) = b_G C kX8_enter [] 30 33 [some (.ref 237)] [] (C 234 [.ref 237] (a_setI σ 237 28 ((a_I σ 237 28) + (nI 1)))) := by
  refine (e_aload_n (code := kX8_enter) (pc := 19) rfl rfl).trans ?_
  refine (e_dup (code := kX8_enter) (pc := 20) rfl rfl).trans ?_
  refine (e_getI (code := kX8_enter) (pc := 21) (c := 10) rfl (sk_237 (σ := σ) h) rfl).trans ?_
  refine (e_iconst (code := kX8_enter) (pc := 24) rfl).trans ?_
  refine (e_iadd (code := kX8_enter) (pc := 25) rfl).trans ?_
  refine (e_putI (code := kX8_enter) (pc := 26) (c := 10) rfl (sk_237 (σ := σ) h) (h_100 rfl)).trans ?_
  refine (e_aload_n (code := kX8_enter) (pc := 29) (σ := (a_setI σ 237 28 ((a_I σ 237 28) + (nI 1)))) rfl rfl).trans ?_
  exact (e_callV (σ := (a_setI σ 237 28 ((a_I σ 237 28) + (nI 1)))) (code := kX8_enter) (pc := 30) (len := 3) (k := 234) (n := 1) (c := 20) (as := [.ref 237]) (st0 := []) rfl rfl rfl rfl rfl (sk_237 (σ := σ) h) rfl)
theorem b_X8_enter_33 {C : aCall} {σ : aSt} : b_R C kX8_enter [] (33, [some (.ref 237)], [], σ) = some (.inl none, σ) := by
  exact e_return_ rfl
theorem n_X8_compileValue {P : aCall} {d : Nat} {σ : aSt} (hd : 1 ≤ d) : a_call a_tab P d 262 [.ref 237] σ = b_R (a_call a_tab P (d - 1)) kX8_compileValue [] (0, [some (.ref 237), none], [], σ) := e_call hd at_X8_compileValue rfl
theorem b_X8_compileValue_0 {C : aCall} {σ : aSt} (h : Sh σ) : b_R C kX8_compileValue [] (0, [some (.ref 237), none], [], σ) = (if (a_I σ 237 25) = 0 then (if (a_I σ 237 24) = (nI 2) then b_R C kX8_compileValue [] (15, [some (.ref 237), none], [], σ) else b_R C kX8_compileValue [] (30, [some (.ref 237), some (.int (nI 0))], [], σ)) else b_R C kX8_compileValue [] (15, [some (.ref 237), none], [], σ)) := by
  refine (e_aload_n (code := kX8_compileValue) (pc := 0) rfl rfl).trans ?_
  refine (e_getI (code := kX8_compileValue) (pc := 1) (c := 10) rfl (sk_237 (σ := σ) h) rfl).trans ?_
  refine (e_ifne (code := kX8_compileValue) (pc := 4) rfl).trans ?_
  refine b_ite ?_ ?_
  · refine (e_aload_n (code := kX8_compileValue) (pc := 7) rfl rfl).trans ?_
    refine (e_getI (code := kX8_compileValue) (pc := 8) (c := 10) rfl (sk_237 (σ := σ) h) rfl).trans ?_
    refine (e_iconst (code := kX8_compileValue) (pc := 11) rfl).trans ?_
    refine (e_icne (code := kX8_compileValue) (pc := 12) rfl).trans ?_
    refine b_ite ?_ ?_
    · rfl
    · refine (e_iconst (code := kX8_compileValue) (pc := 28) rfl).trans ?_
      refine (e_istore_n (code := kX8_compileValue) (pc := 29) rfl rfl rfl).trans ?_
      rfl
  · rfl
theorem b_X8_compileValue_15 {C : aCall} {σ : aSt} (h : Sh σ) : b_R C kX8_compileValue [] (15, [some (.ref 237), none], [], σ) = b_G C kX8_compileValue [] 21 24 [some (.ref 237), none] [.ref 237] (C 241 [.ref 237, .int (nI 0), .int (nI 9999)] σ) := by
  refine (e_aload_n (code := kX8_compileValue) (pc := 15) rfl rfl).trans ?_
  refine (e_aload_n (code := kX8_compileValue) (pc := 16) rfl rfl).trans ?_
  refine (e_iconst (code := kX8_compileValue) (pc := 17) rfl).trans ?_
  refine (e_sipush (code := kX8_compileValue) (pc := 18) rfl).trans ?_
  exact (e_callV (σ := σ) (code := kX8_compileValue) (pc := 21) (len := 3) (k := 241) (n := 3) (c := 20) (as := [.ref 237, .int (nI 0), .int (nI 9999)]) (st0 := [.ref 237]) rfl rfl rfl rfl rfl (sk_237 (σ := σ) h) rfl)
theorem b_X8_compileValue_24 {C : aCall} {σ : aSt} {y0 : Int32} (h : Sh σ) : b_R C kX8_compileValue [] (24, [some (.ref 237), none], [.int y0, .ref 237], σ) = b_G C kX8_compileValue [] 24 27 [some (.ref 237), none] [] (C 260 [.ref 237, .int y0] σ) := by
  exact (e_callV (σ := σ) (code := kX8_compileValue) (pc := 24) (len := 3) (k := 260) (n := 2) (c := 20) (as := [.ref 237, .int y0]) (st0 := []) rfl rfl rfl rfl rfl (sk_237 (σ := σ) h) rfl)
theorem b_X8_compileValue_27 {C : aCall} {σ : aSt} : b_R C kX8_compileValue [] (27, [some (.ref 237), none], [], σ) = some (.inl none, σ) := by
  exact e_return_ rfl
theorem b_X8_compileValue_30 {C : aCall} {σ : aSt} {s : Nat} {x1 : Int32} (h : Sh σ) (hr_s : a_R σ 249 (Int32.toNatClampNeg x1) = some s) : b_R C kX8_compileValue [] (30, [some (.ref 237), some (.int x1)], [], σ) = (if x1 < (nI 8) then b_gd (a_in x1 8) (b_G C kX8_compileValue [] 46 49 [some (.ref 237), some (.int x1)] [] (C 236 [.ref 237, .ref s] σ)) else b_R C kX8_compileValue [] (58, [some (.ref 237), some (.int x1)], [], σ)) := by
  refine (e_iload_n (code := kX8_compileValue) (pc := 30) rfl rfl).trans ?_
  refine (e_aload_n (code := kX8_compileValue) (pc := 31) rfl rfl).trans ?_
  refine (e_getR (code := kX8_compileValue) (pc := 32) (c := 10) rfl (sk_237 (σ := σ) h) (sr_237_31 (σ := σ) h)).trans ?_
  refine (e_alen (code := kX8_compileValue) (pc := 35) rfl (by rw [show a_kd _ 249 = 3 from (sk_249 (σ := σ) h)]; exact ⟨rfl, rfl⟩) (sl_249 (σ := σ) h) (Nat.le_of_ble_eq_true rfl)).trans ?_
  refine (e_icge (code := kX8_compileValue) (pc := 36) rfl).trans ?_
  refine b_ite ?_ ?_
  · refine (e_aload_n (code := kX8_compileValue) (pc := 39) rfl rfl).trans ?_
    refine (e_aload_n (code := kX8_compileValue) (pc := 40) rfl rfl).trans ?_
    refine (e_getR (code := kX8_compileValue) (pc := 41) (c := 10) rfl (sk_237 (σ := σ) h) (sr_237_31 (σ := σ) h)).trans ?_
    refine (e_iload_n (code := kX8_compileValue) (pc := 44) rfl rfl).trans ?_
    refine (e_aaload (code := kX8_compileValue) (pc := 45) rfl (.inl (sk_249 (σ := σ) h)) (sl_249 (σ := σ) h) hr_s).trans ?_
    refine b_gd_c ?_
    exact (e_callV (σ := σ) (code := kX8_compileValue) (pc := 46) (len := 3) (k := 236) (n := 2) (c := 20) (as := [.ref 237, .ref s]) (st0 := []) rfl rfl rfl rfl rfl (sk_237 (σ := σ) h) rfl)
  · rfl
theorem b_X8_compileValue_49 {C : aCall} {σ : aSt} {x1 y0 : Int32} : b_R C kX8_compileValue [] (49, [some (.ref 237), some (.int x1)], [.int y0], σ) = (if y0 = 0 then b_R C kX8_compileValue [] (30, [some (.ref 237), some (.int (x1 + nI 1))], [], σ) else b_R C kX8_compileValue [] (58, [some (.ref 237), some (.int x1)], [], σ)) := by
  refine (e_ifne (code := kX8_compileValue) (pc := 49) rfl).trans ?_
  refine b_ite ?_ ?_
  · refine (e_iinc (code := kX8_compileValue) (pc := 52) rfl rfl rfl rfl).trans ?_
    refine (e_goto (code := kX8_compileValue) (pc := 55) rfl).trans ?_
    rfl
  · rfl
theorem b_X8_compileValue_58 {C : aCall} {σ : aSt} {x1 : Int32} (h : Sh σ) : b_R C kX8_compileValue [] (58, [some (.ref 237), some (.int x1)], [], σ) = (if x1 < (nI 8) then b_R C kX8_compileValue [] (73, [some (.ref 237), some (.int x1)], [.int (nI 1), .ref 237], σ) else b_R C kX8_compileValue [] (73, [some (.ref 237), some (.int x1)], [.int (nI 0), .ref 237], σ)) := by
  refine (e_aload_n (code := kX8_compileValue) (pc := 58) rfl rfl).trans ?_
  refine (e_iload_n (code := kX8_compileValue) (pc := 59) rfl rfl).trans ?_
  refine (e_aload_n (code := kX8_compileValue) (pc := 60) rfl rfl).trans ?_
  refine (e_getR (code := kX8_compileValue) (pc := 61) (c := 10) rfl (sk_237 (σ := σ) h) (sr_237_31 (σ := σ) h)).trans ?_
  refine (e_alen (code := kX8_compileValue) (pc := 64) rfl (by rw [show a_kd _ 249 = 3 from (sk_249 (σ := σ) h)]; exact ⟨rfl, rfl⟩) (sl_249 (σ := σ) h) (Nat.le_of_ble_eq_true rfl)).trans ?_
  refine (e_icge (code := kX8_compileValue) (pc := 65) rfl).trans ?_
  refine b_ite ?_ ?_
  · refine (e_iconst (code := kX8_compileValue) (pc := 68) rfl).trans ?_
    refine (e_goto (code := kX8_compileValue) (pc := 69) rfl).trans ?_
    rfl
  · refine (e_iconst (code := kX8_compileValue) (pc := 72) rfl).trans ?_
    rfl
theorem b_X8_compileValue_73 {C : aCall} {σ : aSt} {x1 y0 : Int32} (h : Sh σ) : b_R C kX8_compileValue [] (73, [some (.ref 237), some (.int x1)], [.int y0, .ref 237], σ) = b_G C kX8_compileValue [] 74 77 [some (.ref 237), some (.int x1)] [] (C 233 [.ref 237, .int y0, .int (nI 1)] σ) := by
  refine (e_iconst (code := kX8_compileValue) (pc := 73) rfl).trans ?_
  exact (e_callV (σ := σ) (code := kX8_compileValue) (pc := 74) (len := 3) (k := 233) (n := 3) (c := 20) (as := [.ref 237, .int y0, .int (nI 1)]) (st0 := []) rfl rfl rfl rfl rfl (sk_237 (σ := σ) h) rfl)
theorem b_X8_compileValue_77 {C : aCall} {σ : aSt} {x1 : Int32} (h : Sh σ) : b_R C kX8_compileValue [] (77, [some (.ref 237), some (.int x1)], [], σ) = b_G C kX8_compileValue [] 81 84 [some (.ref 237), some (.int x1)] [] (C 260 [.ref 237, .int (((-1)) - x1)] σ) := by
  refine (e_aload_n (code := kX8_compileValue) (pc := 77) rfl rfl).trans ?_
  refine (e_iconst (code := kX8_compileValue) (pc := 78) rfl).trans ?_
  refine (e_iload_n (code := kX8_compileValue) (pc := 79) rfl rfl).trans ?_
  refine (e_isub (code := kX8_compileValue) (pc := 80) rfl).trans ?_
  exact (e_callV (σ := σ) (code := kX8_compileValue) (pc := 81) (len := 3) (k := 260) (n := 2) (c := 20) (as := [.ref 237, .int (((-1)) - x1)]) (st0 := []) rfl rfl rfl rfl rfl (sk_237 (σ := σ) h) rfl)
theorem b_X8_compileValue_84 {C : aCall} {σ : aSt} {x1 : Int32} (h : Sh σ) : b_R C kX8_compileValue [] (84, [some (.ref 237), some (.int x1)], [], σ) = b_G C kX8_compileValue [] 85 88 [some (.ref 237), some (.int x1)] [] (C 234 [.ref 237] σ) := by
  refine (e_aload_n (code := kX8_compileValue) (pc := 84) rfl rfl).trans ?_
  exact (e_callV (σ := σ) (code := kX8_compileValue) (pc := 85) (len := 3) (k := 234) (n := 1) (c := 20) (as := [.ref 237]) (st0 := []) rfl rfl rfl rfl rfl (sk_237 (σ := σ) h) rfl)
theorem b_X8_compileValue_88 {C : aCall} {σ : aSt} {x1 : Int32} : b_R C kX8_compileValue [] (88, [some (.ref 237), some (.int x1)], [], σ) = some (.inl none, σ) := by
  exact e_return_ rfl
theorem n_X8_compileFactor {P : aCall} {d : Nat} {σ : aSt} (hd : 1 ≤ d) : a_call a_tab P d 263 [.ref 237] σ = b_R (a_call a_tab P (d - 1)) kX8_compileFactor [] (0, [some (.ref 237), none], [], σ) := e_call hd at_X8_compileFactor rfl
theorem b_X8_compileFactor_0 {C : aCall} {σ : aSt} (h : Sh σ) : b_R C kX8_compileFactor [] (0, [some (.ref 237), none], [], σ) = b_G C kX8_compileFactor [] 4 7 [some (.ref 237), none] [] (C 236 [.ref 237, .ref 11] σ) := by
  refine (e_aload_n (code := kX8_compileFactor) (pc := 0) rfl rfl).trans ?_
  refine (e_ldc_wS (code := kX8_compileFactor) (pc := 1) rfl).trans ?_
  exact (e_callV (σ := σ) (code := kX8_compileFactor) (pc := 4) (len := 3) (k := 236) (n := 2) (c := 20) (as := [.ref 237, .ref 11]) (st0 := []) rfl rfl rfl rfl rfl (sk_237 (σ := σ) h) rfl)
theorem b_X8_compileFactor_7 {C : aCall} {σ : aSt} {y0 : Int32} (h : Sh σ) : b_R C kX8_compileFactor [] (7, [some (.ref 237), none], [.int y0], σ) = (if y0 = 0 then b_G C kX8_compileFactor [] 47 50 [some (.ref 237), none] [] (C 235 [.ref 237, .int (nI 40)] σ) else b_G C kX8_compileFactor [] 11 14 [some (.ref 237), none] [] (C 261 [.ref 237] σ)) := by
  refine (e_ifeq (code := kX8_compileFactor) (pc := 7) rfl).trans ?_
  refine b_ite ?_ ?_
  · refine (e_aload_n (code := kX8_compileFactor) (pc := 44) rfl rfl).trans ?_
    refine (e_bipush (code := kX8_compileFactor) (pc := 45) rfl).trans ?_
    exact (e_callV (σ := σ) (code := kX8_compileFactor) (pc := 47) (len := 3) (k := 235) (n := 2) (c := 20) (as := [.ref 237, .int (nI 40)]) (st0 := []) rfl rfl rfl rfl rfl (sk_237 (σ := σ) h) rfl)
  · refine (e_aload_n (code := kX8_compileFactor) (pc := 10) rfl rfl).trans ?_
    exact (e_callV (σ := σ) (code := kX8_compileFactor) (pc := 11) (len := 3) (k := 261) (n := 1) (c := 20) (as := [.ref 237]) (st0 := []) rfl rfl rfl rfl rfl (sk_237 (σ := σ) h) rfl)
theorem b_X8_compileFactor_14 {C : aCall} {σ : aSt} (h : Sh σ) : b_R C kX8_compileFactor [] (14, [some (.ref 237), none], [], σ) = (if (a_I σ 237 25) = 0 then b_G C kX8_compileFactor [] 22 25 [some (.ref 237), none] [] (C 263 [.ref 237] σ) else b_R C kX8_compileFactor [] (25, [some (.ref 237), none], [], σ)) := by
  refine (e_aload_n (code := kX8_compileFactor) (pc := 14) rfl rfl).trans ?_
  refine (e_getI (code := kX8_compileFactor) (pc := 15) (c := 10) rfl (sk_237 (σ := σ) h) rfl).trans ?_
  refine (e_ifne (code := kX8_compileFactor) (pc := 18) rfl).trans ?_
  refine b_ite ?_ ?_
  · refine (e_aload_n (code := kX8_compileFactor) (pc := 21) rfl rfl).trans ?_
    exact (e_callV (σ := σ) (code := kX8_compileFactor) (pc := 22) (len := 3) (k := 263) (n := 1) (c := 20) (as := [.ref 237]) (st0 := []) rfl rfl rfl rfl rfl (sk_237 (σ := σ) h) rfl)
  · rfl
theorem b_X8_compileFactor_25 {C : aCall} {σ : aSt} (h : Sh σ) : b_R C kX8_compileFactor [] (25, [some (.ref 237), none], [], σ) = b_G C kX8_compileFactor [] 28 31 [some (.ref 237), none] [] (C 260 [.ref 237, .int ((-23))] σ) := by
  refine (e_aload_n (code := kX8_compileFactor) (pc := 25) rfl rfl).trans ?_
  refine (e_bipush (code := kX8_compileFactor) (pc := 26) rfl).trans ?_
  exact (e_callV (σ := σ) (code := kX8_compileFactor) (pc := 28) (len := 3) (k := 260) (n := 2) (c := 20) (as := [.ref 237, .int ((-23))]) (st0 := []) rfl rfl rfl rfl rfl (sk_237 (σ := σ) h) rfl)
theorem b_X8_compileFactor_31 {C : aCall} {σ : aSt} (h : Sh σ) : b_R C kX8_compileFactor [] (31, [some (.ref 237), none], [], σ) = b_R C kX8_compileFactor [] (160, [some (.ref 237), none], [], (a_setI σ 237 28 ((a_I σ 237 28) - (nI 1)))) := by
  refine (e_aload_n (code := kX8_compileFactor) (pc := 31) rfl rfl).trans ?_
  refine (e_dup (code := kX8_compileFactor) (pc := 32) rfl rfl).trans ?_
  refine (e_getI (code := kX8_compileFactor) (pc := 33) (c := 10) rfl (sk_237 (σ := σ) h) rfl).trans ?_
  refine (e_iconst (code := kX8_compileFactor) (pc := 36) rfl).trans ?_
  refine (e_isub (code := kX8_compileFactor) (pc := 37) rfl).trans ?_
  refine (e_putI (code := kX8_compileFactor) (pc := 38) (c := 10) rfl (sk_237 (σ := σ) h) (h_100 rfl)).trans ?_
  refine (e_goto (code := kX8_compileFactor) (pc := 41) (σ := (a_setI σ 237 28 ((a_I σ 237 28) - (nI 1)))) rfl).trans ?_
  rfl
theorem b_X8_compileFactor_50 {C : aCall} {σ : aSt} {y0 : Int32} (h : Sh σ) : b_R C kX8_compileFactor [] (50, [some (.ref 237), none], [.int y0], σ) = (if y0 = 0 then b_G C kX8_compileFactor [] 88 91 [some (.ref 237), none] [] (C 262 [.ref 237] σ) else b_G C kX8_compileFactor [] 54 57 [some (.ref 237), none] [] (C 261 [.ref 237] σ)) := by
  refine (e_ifeq (code := kX8_compileFactor) (pc := 50) rfl).trans ?_
  refine b_ite ?_ ?_
  · refine (e_aload_n (code := kX8_compileFactor) (pc := 87) rfl rfl).trans ?_
    exact (e_callV (σ := σ) (code := kX8_compileFactor) (pc := 88) (len := 3) (k := 262) (n := 1) (c := 20) (as := [.ref 237]) (st0 := []) rfl rfl rfl rfl rfl (sk_237 (σ := σ) h) rfl)
  · refine (e_aload_n (code := kX8_compileFactor) (pc := 53) rfl rfl).trans ?_
    exact (e_callV (σ := σ) (code := kX8_compileFactor) (pc := 54) (len := 3) (k := 261) (n := 1) (c := 20) (as := [.ref 237]) (st0 := []) rfl rfl rfl rfl rfl (sk_237 (σ := σ) h) rfl)
theorem b_X8_compileFactor_57 {C : aCall} {σ : aSt} (h : Sh σ) : b_R C kX8_compileFactor [] (57, [some (.ref 237), none], [], σ) = (if (a_I σ 237 25) = 0 then b_G C kX8_compileFactor [] 65 68 [some (.ref 237), none] [] (C 265 [.ref 237] σ) else b_R C kX8_compileFactor [] (68, [some (.ref 237), none], [], σ)) := by
  refine (e_aload_n (code := kX8_compileFactor) (pc := 57) rfl rfl).trans ?_
  refine (e_getI (code := kX8_compileFactor) (pc := 58) (c := 10) rfl (sk_237 (σ := σ) h) rfl).trans ?_
  refine (e_ifne (code := kX8_compileFactor) (pc := 61) rfl).trans ?_
  refine b_ite ?_ ?_
  · refine (e_aload_n (code := kX8_compileFactor) (pc := 64) rfl rfl).trans ?_
    exact (e_callV (σ := σ) (code := kX8_compileFactor) (pc := 65) (len := 3) (k := 265) (n := 1) (c := 20) (as := [.ref 237]) (st0 := []) rfl rfl rfl rfl rfl (sk_237 (σ := σ) h) rfl)
  · rfl
theorem b_X8_compileFactor_68 {C : aCall} {σ : aSt} (h : Sh σ) : b_R C kX8_compileFactor [] (68, [some (.ref 237), none], [], σ) = b_G C kX8_compileFactor [] 71 74 [some (.ref 237), none] [] (C 239 [.ref 237, .int (nI 41)] σ) := by
  refine (e_aload_n (code := kX8_compileFactor) (pc := 68) rfl rfl).trans ?_
  refine (e_bipush (code := kX8_compileFactor) (pc := 69) rfl).trans ?_
  exact (e_callV (σ := σ) (code := kX8_compileFactor) (pc := 71) (len := 3) (k := 239) (n := 2) (c := 20) (as := [.ref 237, .int (nI 41)]) (st0 := []) rfl rfl rfl rfl rfl (sk_237 (σ := σ) h) rfl)
theorem b_X8_compileFactor_74 {C : aCall} {σ : aSt} (h : Sh σ) : b_R C kX8_compileFactor [] (74, [some (.ref 237), none], [], σ) = b_R C kX8_compileFactor [] (160, [some (.ref 237), none], [], (a_setI σ 237 28 ((a_I σ 237 28) - (nI 1)))) := by
  refine (e_aload_n (code := kX8_compileFactor) (pc := 74) rfl rfl).trans ?_
  refine (e_dup (code := kX8_compileFactor) (pc := 75) rfl rfl).trans ?_
  refine (e_getI (code := kX8_compileFactor) (pc := 76) (c := 10) rfl (sk_237 (σ := σ) h) rfl).trans ?_
  refine (e_iconst (code := kX8_compileFactor) (pc := 79) rfl).trans ?_
  refine (e_isub (code := kX8_compileFactor) (pc := 80) rfl).trans ?_
  refine (e_putI (code := kX8_compileFactor) (pc := 81) (c := 10) rfl (sk_237 (σ := σ) h) (h_100 rfl)).trans ?_
  refine (e_goto (code := kX8_compileFactor) (pc := 84) (σ := (a_setI σ 237 28 ((a_I σ 237 28) - (nI 1)))) rfl).trans ?_
  rfl
theorem b_X8_compileFactor_91 {C : aCall} {σ : aSt} (h : Sh σ) : b_R C kX8_compileFactor [] (91, [some (.ref 237), none], [], σ) = b_G C kX8_compileFactor [] 94 97 [some (.ref 237), none] [] (C 235 [.ref 237, .int (nI 60)] σ) := by
  refine (e_aload_n (code := kX8_compileFactor) (pc := 91) rfl rfl).trans ?_
  refine (e_bipush (code := kX8_compileFactor) (pc := 92) rfl).trans ?_
  exact (e_callV (σ := σ) (code := kX8_compileFactor) (pc := 94) (len := 3) (k := 235) (n := 2) (c := 20) (as := [.ref 237, .int (nI 60)]) (st0 := []) rfl rfl rfl rfl rfl (sk_237 (σ := σ) h) rfl)
theorem b_X8_compileFactor_97 {C : aCall} {σ : aSt} {y0 : Int32} (h : Sh σ) : b_R C kX8_compileFactor [] (97, [some (.ref 237), none], [.int y0], σ) = (if y0 = 0 then b_G C kX8_compileFactor [] 108 111 [some (.ref 237), none] [] (C 235 [.ref 237, .int (nI 61)] σ) else b_R C kX8_compileFactor [] (121, [some (.ref 237), none], [.int ((-20))], σ)) := by
  refine (e_ifeq (code := kX8_compileFactor) (pc := 97) rfl).trans ?_
  refine b_ite ?_ ?_
  · refine (e_aload_n (code := kX8_compileFactor) (pc := 105) rfl rfl).trans ?_
    refine (e_bipush (code := kX8_compileFactor) (pc := 106) rfl).trans ?_
    exact (e_callV (σ := σ) (code := kX8_compileFactor) (pc := 108) (len := 3) (k := 235) (n := 2) (c := 20) (as := [.ref 237, .int (nI 61)]) (st0 := []) rfl rfl rfl rfl rfl (sk_237 (σ := σ) h) rfl)
  · refine (e_bipush (code := kX8_compileFactor) (pc := 100) rfl).trans ?_
    refine (e_goto (code := kX8_compileFactor) (pc := 102) rfl).trans ?_
    rfl
theorem b_X8_compileFactor_111 {C : aCall} {σ : aSt} {y0 : Int32} : b_R C kX8_compileFactor [] (111, [some (.ref 237), none], [.int y0], σ) = (if y0 = 0 then b_R C kX8_compileFactor [] (121, [some (.ref 237), none], [.int ((-22))], σ) else b_R C kX8_compileFactor [] (121, [some (.ref 237), none], [.int ((-21))], σ)) := by
  refine (e_ifeq (code := kX8_compileFactor) (pc := 111) rfl).trans ?_
  refine b_ite ?_ ?_
  · refine (e_bipush (code := kX8_compileFactor) (pc := 119) rfl).trans ?_
    rfl
  · refine (e_bipush (code := kX8_compileFactor) (pc := 114) rfl).trans ?_
    refine (e_goto (code := kX8_compileFactor) (pc := 116) rfl).trans ?_
    rfl
theorem b_X8_compileFactor_121 {C : aCall} {σ : aSt} {y0 : Int32} (h : Sh σ) : b_R C kX8_compileFactor [] (121, [some (.ref 237), none], [.int y0], σ) = (if y0 = ((-22)) then b_G C kX8_compileFactor [] 132 135 [some (.ref 237), some (.int y0)] [.ref 237] (C 235 [.ref 237, .int (nI 62)] σ) else b_R C kX8_compileFactor [] (138, [some (.ref 237), some (.int y0)], [.ref 237], σ)) := by
  refine (e_istore_n (code := kX8_compileFactor) (pc := 121) rfl rfl rfl).trans ?_
  refine (e_aload_n (code := kX8_compileFactor) (pc := 122) rfl rfl).trans ?_
  refine (e_iload_n (code := kX8_compileFactor) (pc := 123) rfl rfl).trans ?_
  refine (e_bipush (code := kX8_compileFactor) (pc := 124) rfl).trans ?_
  refine (e_icne (code := kX8_compileFactor) (pc := 126) rfl).trans ?_
  refine b_ite ?_ ?_
  · refine (e_aload_n (code := kX8_compileFactor) (pc := 129) rfl rfl).trans ?_
    refine (e_bipush (code := kX8_compileFactor) (pc := 130) rfl).trans ?_
    exact (e_callV (σ := σ) (code := kX8_compileFactor) (pc := 132) (len := 3) (k := 235) (n := 2) (c := 20) (as := [.ref 237, .int (nI 62)]) (st0 := [.ref 237]) rfl rfl rfl rfl rfl (sk_237 (σ := σ) h) rfl)
  · rfl
theorem b_X8_compileFactor_135 {C : aCall} {σ : aSt} {x1 y0 : Int32} : b_R C kX8_compileFactor [] (135, [some (.ref 237), some (.int x1)], [.int y0, .ref 237], σ) = (if y0 = 0 then b_R C kX8_compileFactor [] (143, [some (.ref 237), some (.int x1)], [.int (nI 0), .ref 237], σ) else b_R C kX8_compileFactor [] (138, [some (.ref 237), some (.int x1)], [.ref 237], σ)) := by
  refine (e_ifeq (code := kX8_compileFactor) (pc := 135) rfl).trans ?_
  refine b_ite ?_ ?_
  · refine (e_iconst (code := kX8_compileFactor) (pc := 142) rfl).trans ?_
    rfl
  · rfl
theorem b_X8_compileFactor_138 {C : aCall} {σ : aSt} {x1 : Int32} : b_R C kX8_compileFactor [] (138, [some (.ref 237), some (.int x1)], [.ref 237], σ) = b_R C kX8_compileFactor [] (143, [some (.ref 237), some (.int x1)], [.int (nI 1), .ref 237], σ) := by
  refine (e_iconst (code := kX8_compileFactor) (pc := 138) rfl).trans ?_
  refine (e_goto (code := kX8_compileFactor) (pc := 139) rfl).trans ?_
  rfl
theorem b_X8_compileFactor_143 {C : aCall} {σ : aSt} {x1 y0 : Int32} (h : Sh σ) : b_R C kX8_compileFactor [] (143, [some (.ref 237), some (.int x1)], [.int y0, .ref 237], σ) = b_G C kX8_compileFactor [] 144 147 [some (.ref 237), some (.int x1)] [] (C 233 [.ref 237, .int y0, .int (nI 1)] σ) := by
  refine (e_iconst (code := kX8_compileFactor) (pc := 143) rfl).trans ?_
  exact (e_callV (σ := σ) (code := kX8_compileFactor) (pc := 144) (len := 3) (k := 233) (n := 3) (c := 20) (as := [.ref 237, .int y0, .int (nI 1)]) (st0 := []) rfl rfl rfl rfl rfl (sk_237 (σ := σ) h) rfl)
theorem b_X8_compileFactor_147 {C : aCall} {σ : aSt} {x1 : Int32} (h : Sh σ) : b_R C kX8_compileFactor [] (147, [some (.ref 237), some (.int x1)], [], σ) = b_G C kX8_compileFactor [] 148 151 [some (.ref 237), some (.int x1)] [] (C 234 [.ref 237] σ) := by
  refine (e_aload_n (code := kX8_compileFactor) (pc := 147) rfl rfl).trans ?_
  exact (e_callV (σ := σ) (code := kX8_compileFactor) (pc := 148) (len := 3) (k := 234) (n := 1) (c := 20) (as := [.ref 237]) (st0 := []) rfl rfl rfl rfl rfl (sk_237 (σ := σ) h) rfl)
theorem b_X8_compileFactor_151 {C : aCall} {σ : aSt} {x1 : Int32} (h : Sh σ) : b_R C kX8_compileFactor [] (151, [some (.ref 237), some (.int x1)], [], σ) = b_G C kX8_compileFactor [] 152 155 [some (.ref 237), some (.int x1)] [] (C 262 [.ref 237] σ) := by
  refine (e_aload_n (code := kX8_compileFactor) (pc := 151) rfl rfl).trans ?_
  exact (e_callV (σ := σ) (code := kX8_compileFactor) (pc := 152) (len := 3) (k := 262) (n := 1) (c := 20) (as := [.ref 237]) (st0 := []) rfl rfl rfl rfl rfl (sk_237 (σ := σ) h) rfl)
theorem b_X8_compileFactor_155 {C : aCall} {σ : aSt} {x1 : Int32} (h : Sh σ) : b_R C kX8_compileFactor [] (155, [some (.ref 237), some (.int x1)], [], σ) = b_G C kX8_compileFactor [] 157 160 [some (.ref 237), some (.int x1)] [] (C 260 [.ref 237, .int x1] σ) := by
  refine (e_aload_n (code := kX8_compileFactor) (pc := 155) rfl rfl).trans ?_
  refine (e_iload_n (code := kX8_compileFactor) (pc := 156) rfl rfl).trans ?_
  exact (e_callV (σ := σ) (code := kX8_compileFactor) (pc := 157) (len := 3) (k := 260) (n := 2) (c := 20) (as := [.ref 237, .int x1]) (st0 := []) rfl rfl rfl rfl rfl (sk_237 (σ := σ) h) rfl)
theorem b_X8_compileFactor_160 {C : aCall} {σ : aSt} {o1 : Option Value} : b_R C kX8_compileFactor [] (160, [some (.ref 237), o1], [], σ) = some (.inl none, σ) := by
  exact e_return_ rfl
theorem n_X8_compileConjunction {P : aCall} {d : Nat} {σ : aSt} (hd : 1 ≤ d) : a_call a_tab P d 264 [.ref 237] σ = b_R (a_call a_tab P (d - 1)) kX8_compileConjunction [] (0, [some (.ref 237)], [], σ) := e_call hd at_X8_compileConjunction rfl
theorem b_X8_compileConjunction_0 {C : aCall} {σ : aSt} (h : Sh σ) : b_R C kX8_compileConjunction [] (0, [some (.ref 237)], [], σ) = b_G C kX8_compileConjunction [] 1 4 [some (.ref 237)] [] (C 263 [.ref 237] σ) := by
  refine (e_aload_n (code := kX8_compileConjunction) (pc := 0) rfl rfl).trans ?_
  exact (e_callV (σ := σ) (code := kX8_compileConjunction) (pc := 1) (len := 3) (k := 263) (n := 1) (c := 20) (as := [.ref 237]) (st0 := []) rfl rfl rfl rfl rfl (sk_237 (σ := σ) h) rfl)
theorem b_X8_compileConjunction_4 {C : aCall} {σ : aSt} (h : Sh σ) : b_R C kX8_compileConjunction [] (4, [some (.ref 237)], [], σ) = b_G C kX8_compileConjunction [] 8 11 [some (.ref 237)] [] (C 237 [.ref 237, .ref 9] σ) := by
  refine (e_aload_n (code := kX8_compileConjunction) (pc := 4) rfl rfl).trans ?_
  refine (e_ldc_wS (code := kX8_compileConjunction) (pc := 5) rfl).trans ?_
  exact (e_callV (σ := σ) (code := kX8_compileConjunction) (pc := 8) (len := 3) (k := 237) (n := 2) (c := 20) (as := [.ref 237, .ref 9]) (st0 := []) rfl rfl rfl rfl rfl (sk_237 (σ := σ) h) rfl)
theorem b_X8_compileConjunction_11 {C : aCall} {σ : aSt} {y0 : Int32} (h : Sh σ) : b_R C kX8_compileConjunction [] (11, [some (.ref 237)], [.int y0], σ) = (if y0 = 0 then some (.inl none, σ) else b_G C kX8_compileConjunction [] 15 18 [some (.ref 237)] [] (C 263 [.ref 237] σ)) := by
  refine (e_ifeq (code := kX8_compileConjunction) (pc := 11) rfl).trans ?_
  refine b_ite ?_ ?_
  · exact e_return_ rfl
  · refine (e_aload_n (code := kX8_compileConjunction) (pc := 14) rfl rfl).trans ?_
    exact (e_callV (σ := σ) (code := kX8_compileConjunction) (pc := 15) (len := 3) (k := 263) (n := 1) (c := 20) (as := [.ref 237]) (st0 := []) rfl rfl rfl rfl rfl (sk_237 (σ := σ) h) rfl)
theorem b_X8_compileConjunction_18 {C : aCall} {σ : aSt} (h : Sh σ) : b_R C kX8_compileConjunction [] (18, [some (.ref 237)], [], σ) = b_G C kX8_compileConjunction [] 21 24 [some (.ref 237)] [] (C 260 [.ref 237, .int ((-24))] σ) := by
  refine (e_aload_n (code := kX8_compileConjunction) (pc := 18) rfl rfl).trans ?_
  refine (e_bipush (code := kX8_compileConjunction) (pc := 19) rfl).trans ?_
  exact (e_callV (σ := σ) (code := kX8_compileConjunction) (pc := 21) (len := 3) (k := 260) (n := 2) (c := 20) (as := [.ref 237, .int ((-24))]) (st0 := []) rfl rfl rfl rfl rfl (sk_237 (σ := σ) h) rfl)
theorem b_X8_compileConjunction_24 {C : aCall} {σ : aSt} : b_R C kX8_compileConjunction [] (24, [some (.ref 237)], [], σ) = b_R C kX8_compileConjunction [] (4, [some (.ref 237)], [], σ) := by
  refine (e_goto (code := kX8_compileConjunction) (pc := 24) rfl).trans ?_
  rfl
theorem n_X8_compileTest {P : aCall} {d : Nat} {σ : aSt} (hd : 1 ≤ d) : a_call a_tab P d 265 [.ref 237] σ = b_R (a_call a_tab P (d - 1)) kX8_compileTest [] (0, [some (.ref 237)], [], σ) := e_call hd at_X8_compileTest rfl
theorem b_X8_compileTest_0 {C : aCall} {σ : aSt} (h : Sh σ) : b_R C kX8_compileTest [] (0, [some (.ref 237)], [], σ) = b_G C kX8_compileTest [] 1 4 [some (.ref 237)] [] (C 264 [.ref 237] σ) := by
  refine (e_aload_n (code := kX8_compileTest) (pc := 0) rfl rfl).trans ?_
  exact (e_callV (σ := σ) (code := kX8_compileTest) (pc := 1) (len := 3) (k := 264) (n := 1) (c := 20) (as := [.ref 237]) (st0 := []) rfl rfl rfl rfl rfl (sk_237 (σ := σ) h) rfl)
theorem b_X8_compileTest_4 {C : aCall} {σ : aSt} (h : Sh σ) : b_R C kX8_compileTest [] (4, [some (.ref 237)], [], σ) = b_G C kX8_compileTest [] 8 11 [some (.ref 237)] [] (C 237 [.ref 237, .ref 10] σ) := by
  refine (e_aload_n (code := kX8_compileTest) (pc := 4) rfl rfl).trans ?_
  refine (e_ldc_wS (code := kX8_compileTest) (pc := 5) rfl).trans ?_
  exact (e_callV (σ := σ) (code := kX8_compileTest) (pc := 8) (len := 3) (k := 237) (n := 2) (c := 20) (as := [.ref 237, .ref 10]) (st0 := []) rfl rfl rfl rfl rfl (sk_237 (σ := σ) h) rfl)
theorem b_X8_compileTest_11 {C : aCall} {σ : aSt} {y0 : Int32} (h : Sh σ) : b_R C kX8_compileTest [] (11, [some (.ref 237)], [.int y0], σ) = (if y0 = 0 then some (.inl none, σ) else b_G C kX8_compileTest [] 15 18 [some (.ref 237)] [] (C 264 [.ref 237] σ)) := by
  refine (e_ifeq (code := kX8_compileTest) (pc := 11) rfl).trans ?_
  refine b_ite ?_ ?_
  · exact e_return_ rfl
  · refine (e_aload_n (code := kX8_compileTest) (pc := 14) rfl rfl).trans ?_
    exact (e_callV (σ := σ) (code := kX8_compileTest) (pc := 15) (len := 3) (k := 264) (n := 1) (c := 20) (as := [.ref 237]) (st0 := []) rfl rfl rfl rfl rfl (sk_237 (σ := σ) h) rfl)
theorem b_X8_compileTest_18 {C : aCall} {σ : aSt} (h : Sh σ) : b_R C kX8_compileTest [] (18, [some (.ref 237)], [], σ) = b_G C kX8_compileTest [] 21 24 [some (.ref 237)] [] (C 260 [.ref 237, .int ((-25))] σ) := by
  refine (e_aload_n (code := kX8_compileTest) (pc := 18) rfl rfl).trans ?_
  refine (e_bipush (code := kX8_compileTest) (pc := 19) rfl).trans ?_
  exact (e_callV (σ := σ) (code := kX8_compileTest) (pc := 21) (len := 3) (k := 260) (n := 2) (c := 20) (as := [.ref 237, .int ((-25))]) (st0 := []) rfl rfl rfl rfl rfl (sk_237 (σ := σ) h) rfl)
theorem b_X8_compileTest_24 {C : aCall} {σ : aSt} : b_R C kX8_compileTest [] (24, [some (.ref 237)], [], σ) = b_R C kX8_compileTest [] (4, [some (.ref 237)], [], σ) := by
  refine (e_goto (code := kX8_compileTest) (pc := 24) rfl).trans ?_
  rfl
theorem n_X8_operate {P : aCall} {d : Nat} {σ : aSt} {x0 : Int32} {x1 x3 : Int64} (hd : 1 ≤ d) : a_call a_tab P d 266 [.int x0, .long x1, .long x3] σ = b_R (a_call a_tab P (d - 1)) kX8_operate [] (0, [some (.int x0), some (.long x1), none, some (.long x3), none], [], σ) := e_call hd at_X8_operate rfl
theorem b_X8_operate_0 {C : aCall} {σ : aSt} {x0 : Int32} {x1 x3 : Int64} : b_R C kX8_operate [] (0, [some (.int x0), some (.long x1), none, some (.long x3), none], [], σ) = b_R C kX8_operate [] (b_tsw 1 75 (-24) (-20) #[71, 75, 59, 47, 35] x0, [some (.int x0), some (.long x1), none, some (.long x3), none], [], σ) := by
  refine (e_iload_n (code := kX8_operate) (pc := 0) rfl rfl).trans ?_
  refine (e_tableswitch (code := kX8_operate) (pc := 1) rfl rfl).trans ?_
  rfl
theorem b_X8_operate_36 {C : aCall} {σ : aSt} {x0 : Int32} {x1 x3 : Int64} : b_R C kX8_operate [] (36, [some (.int x0), some (.long x1), none, some (.long x3), none], [], σ) = (if (lg_cmp x1 x3) < 0 then b_R C kX8_operate [] (47, [some (.int x0), some (.long x1), none, some (.long x3), none], [.long (Int64.ofNat 1)], σ) else b_R C kX8_operate [] (47, [some (.int x0), some (.long x1), none, some (.long x3), none], [.long (Int64.ofNat 0)], σ)) := by
  refine (e_lload_n (code := kX8_operate) (pc := 36) rfl rfl).trans ?_
  refine (e_lload_n (code := kX8_operate) (pc := 37) rfl rfl).trans ?_
  refine (e_lcmp (code := kX8_operate) (pc := 38) rfl).trans ?_
  refine (e_ifge (code := kX8_operate) (pc := 39) rfl).trans ?_
  refine b_ite ?_ ?_
  · refine (e_lconst (code := kX8_operate) (pc := 42) rfl).trans ?_
    refine (e_goto (code := kX8_operate) (pc := 43) rfl).trans ?_
    rfl
  · refine (e_lconst (code := kX8_operate) (pc := 46) rfl).trans ?_
    rfl
theorem b_X8_operate_47 {C : aCall} {σ : aSt} {x0 : Int32} {x1 x3 y0 : Int64} : b_R C kX8_operate [] (47, [some (.int x0), some (.long x1), none, some (.long x3), none], [.long y0], σ) = some (.inl (some (.long y0)), σ) := by
  exact e_lreturn rfl
theorem b_X8_operate_48 {C : aCall} {σ : aSt} {x0 : Int32} {x1 x3 : Int64} : b_R C kX8_operate [] (48, [some (.int x0), some (.long x1), none, some (.long x3), none], [], σ) = (if (lg_cmp x1 x3) = 0 then b_R C kX8_operate [] (59, [some (.int x0), some (.long x1), none, some (.long x3), none], [.long (Int64.ofNat 1)], σ) else b_R C kX8_operate [] (59, [some (.int x0), some (.long x1), none, some (.long x3), none], [.long (Int64.ofNat 0)], σ)) := by
  refine (e_lload_n (code := kX8_operate) (pc := 48) rfl rfl).trans ?_
  refine (e_lload_n (code := kX8_operate) (pc := 49) rfl rfl).trans ?_
  refine (e_lcmp (code := kX8_operate) (pc := 50) rfl).trans ?_
  refine (e_ifne (code := kX8_operate) (pc := 51) rfl).trans ?_
  refine b_ite ?_ ?_
  · refine (e_lconst (code := kX8_operate) (pc := 54) rfl).trans ?_
    refine (e_goto (code := kX8_operate) (pc := 55) rfl).trans ?_
    rfl
  · refine (e_lconst (code := kX8_operate) (pc := 58) rfl).trans ?_
    rfl
theorem b_X8_operate_59 {C : aCall} {σ : aSt} {x0 : Int32} {x1 x3 y0 : Int64} : b_R C kX8_operate [] (59, [some (.int x0), some (.long x1), none, some (.long x3), none], [.long y0], σ) = some (.inl (some (.long y0)), σ) := by
  exact e_lreturn rfl
theorem b_X8_operate_60 {C : aCall} {σ : aSt} {x0 : Int32} {x1 x3 : Int64} : b_R C kX8_operate [] (60, [some (.int x0), some (.long x1), none, some (.long x3), none], [], σ) = (if 0 < (lg_cmp x1 x3) then b_R C kX8_operate [] (71, [some (.int x0), some (.long x1), none, some (.long x3), none], [.long (Int64.ofNat 1)], σ) else b_R C kX8_operate [] (71, [some (.int x0), some (.long x1), none, some (.long x3), none], [.long (Int64.ofNat 0)], σ)) := by
  refine (e_lload_n (code := kX8_operate) (pc := 60) rfl rfl).trans ?_
  refine (e_lload_n (code := kX8_operate) (pc := 61) rfl rfl).trans ?_
  refine (e_lcmp (code := kX8_operate) (pc := 62) rfl).trans ?_
  refine (e_ifle (code := kX8_operate) (pc := 63) rfl).trans ?_
  refine b_ite ?_ ?_
  · refine (e_lconst (code := kX8_operate) (pc := 66) rfl).trans ?_
    refine (e_goto (code := kX8_operate) (pc := 67) rfl).trans ?_
    rfl
  · refine (e_lconst (code := kX8_operate) (pc := 70) rfl).trans ?_
    rfl
theorem b_X8_operate_71 {C : aCall} {σ : aSt} {x0 : Int32} {x1 x3 y0 : Int64} : b_R C kX8_operate [] (71, [some (.int x0), some (.long x1), none, some (.long x3), none], [.long y0], σ) = some (.inl (some (.long y0)), σ) := by
  exact e_lreturn rfl
theorem b_X8_operate_72 {C : aCall} {σ : aSt} {x0 : Int32} {x1 x3 : Int64} : b_R C kX8_operate [] (72, [some (.int x0), some (.long x1), none, some (.long x3), none], [], σ) = some (.inl (some (.long (x1 &&& x3))), σ) := by
  refine (e_lload_n (code := kX8_operate) (pc := 72) rfl rfl).trans ?_
  refine (e_lload_n (code := kX8_operate) (pc := 73) rfl rfl).trans ?_
  refine (e_land (code := kX8_operate) (pc := 74) rfl).trans ?_
  exact e_lreturn rfl
theorem b_X8_operate_76 {C : aCall} {σ : aSt} {x0 : Int32} {x1 x3 : Int64} : b_R C kX8_operate [] (76, [some (.int x0), some (.long x1), none, some (.long x3), none], [], σ) = some (.inl (some (.long (x1 ||| x3))), σ) := by
  refine (e_lload_n (code := kX8_operate) (pc := 76) rfl rfl).trans ?_
  refine (e_lload_n (code := kX8_operate) (pc := 77) rfl rfl).trans ?_
  refine (e_lor (code := kX8_operate) (pc := 78) rfl).trans ?_
  exact e_lreturn rfl
theorem n_X8_holdsFor {P : aCall} {d : Nat} {σ : aSt} {x1 : Int32} (hd : 1 ≤ d) : a_call a_tab P d 267 [.ref 237, .int x1] σ = b_R (a_call a_tab P (d - 1)) kX8_holdsFor [] (0, [some (.ref 237), some (.int x1), none, none, none], [], σ) := e_call hd at_X8_holdsFor rfl
theorem b_X8_holdsFor_0 {C : aCall} {σ : aSt} {x1 : Int32} : b_R C kX8_holdsFor [] (0, [some (.ref 237), some (.int x1), none, none, none], [], σ) = b_R C kX8_holdsFor [] (4, [some (.ref 237), some (.int x1), some (.int (nI 0)), some (.int (nI 0)), none], [], σ) := by
  refine (e_iconst (code := kX8_holdsFor) (pc := 0) rfl).trans ?_
  refine (e_istore_n (code := kX8_holdsFor) (pc := 1) rfl rfl rfl).trans ?_
  refine (e_iconst (code := kX8_holdsFor) (pc := 2) rfl).trans ?_
  refine (e_istore_n (code := kX8_holdsFor) (pc := 3) rfl rfl rfl).trans ?_
  rfl
theorem b_X8_holdsFor_4 {C : aCall} {σ : aSt} {x1 x2 x3 : Int32} {o4 : Option Value} (h : Sh σ) : b_R C kX8_holdsFor [] (4, [some (.ref 237), some (.int x1), some (.int x2), some (.int x3), o4], [], σ) = (if x3 < (a_I σ 237 34) then b_gd (a_in x3 200) ((if (a_I σ 250 (Int32.toNatClampNeg x3)) = ((-23)) then b_gd (a_in (x2 - (nI 1)) 200) (b_gd (a_in (x2 - (nI 1)) 200) (b_R C kX8_holdsFor [] (118, [some (.ref 237), some (.int x1), some (.int x2), some (.int x3), some (.int (a_I σ 250 (Int32.toNatClampNeg x3)))], [], (a_setL σ 251 (Int32.toNatClampNeg (x2 - (nI 1))) ((Int64.ofNat 1) - (a_L σ 251 (Int32.toNatClampNeg (x2 - (nI 1))))))))) else (if ((-20)) < (a_I σ 250 (Int32.toNatClampNeg x3)) then (if (a_I σ 250 (Int32.toNatClampNeg x3)) < 0 then b_G C kX8_holdsFor [] 77 80 [some (.ref 237), some (.int x1), some (.int x2), some (.int x3), some (.int (a_I σ 250 (Int32.toNatClampNeg x3)))] [.int x2, .ref 251] (C 259 [.ref 237, .int x1, .int (((-1)) - (a_I σ 250 (Int32.toNatClampNeg x3)))] σ) else b_R C kX8_holdsFor [] (81, [some (.ref 237), some (.int x1), some (.int x2), some (.int x3), some (.int (a_I σ 250 (Int32.toNatClampNeg x3)))], [.long (Int32.toInt64 (a_I σ 250 (Int32.toNatClampNeg x3))), .int x2, .ref 251], σ)) else b_gd (a_in ((x2 + (-1)) - (nI 1)) 200) (b_gd (a_in (x2 + (-1)) 200) (b_G C kX8_holdsFor [] 114 117 [some (.ref 237), some (.int x1), some (.int (x2 + (-1))), some (.int x3), some (.int (a_I σ 250 (Int32.toNatClampNeg x3)))] [.int ((x2 + (-1)) - (nI 1)), .ref 251] (C 266 [.int (a_I σ 250 (Int32.toNatClampNeg x3)), .long (a_L σ 251 (Int32.toNatClampNeg ((x2 + (-1)) - (nI 1)))), .long (a_L σ 251 (Int32.toNatClampNeg (x2 + (-1))))] σ)))))) else b_gd (a_in (nI 0) 200) ((if (lg_cmp (a_L σ 251 (Int32.toNatClampNeg (nI 0))) (Int64.ofNat 1)) = 0 then b_R C kX8_holdsFor [] (140, [some (.ref 237), some (.int x1), some (.int x2), some (.int x3), o4], [.int (nI 1)], σ) else b_R C kX8_holdsFor [] (140, [some (.ref 237), some (.int x1), some (.int x2), some (.int x3), o4], [.int (nI 0)], σ)))) := by
  refine (e_iload_n (code := kX8_holdsFor) (pc := 4) rfl rfl).trans ?_
  refine (e_aload_n (code := kX8_holdsFor) (pc := 5) rfl rfl).trans ?_
  refine (e_getI (code := kX8_holdsFor) (pc := 6) (c := 10) rfl (sk_237 (σ := σ) h) rfl).trans ?_
  refine (e_icge (code := kX8_holdsFor) (pc := 9) rfl).trans ?_
  refine b_ite ?_ ?_
  · refine (e_aload_n (code := kX8_holdsFor) (pc := 12) rfl rfl).trans ?_
    refine (e_getR (code := kX8_holdsFor) (pc := 13) (c := 10) rfl (sk_237 (σ := σ) h) (sr_237_32 (σ := σ) h)).trans ?_
    refine (e_iload_n (code := kX8_holdsFor) (pc := 16) rfl rfl).trans ?_
    refine (e_iaload (code := kX8_holdsFor) (pc := 17) rfl (.inl (sk_250 (σ := σ) h)) (sl_250 (σ := σ) h)).trans ?_
    refine b_gd_c ?_
    refine (e_istore (code := kX8_holdsFor) (pc := 18) rfl rfl rfl).trans ?_
    refine (e_iload (code := kX8_holdsFor) (pc := 20) rfl rfl).trans ?_
    refine (e_bipush (code := kX8_holdsFor) (pc := 22) rfl).trans ?_
    refine (e_icne (code := kX8_holdsFor) (pc := 24) rfl).trans ?_
    refine b_ite ?_ ?_
    · refine (e_aload_n (code := kX8_holdsFor) (pc := 27) rfl rfl).trans ?_
      refine (e_getR (code := kX8_holdsFor) (pc := 28) (c := 10) rfl (sk_237 (σ := σ) h) (sr_237_33 (σ := σ) h)).trans ?_
      refine (e_iload_n (code := kX8_holdsFor) (pc := 31) rfl rfl).trans ?_
      refine (e_iconst (code := kX8_holdsFor) (pc := 32) rfl).trans ?_
      refine (e_isub (code := kX8_holdsFor) (pc := 33) rfl).trans ?_
      refine (e_lconst (code := kX8_holdsFor) (pc := 34) rfl).trans ?_
      refine (e_aload_n (code := kX8_holdsFor) (pc := 35) rfl rfl).trans ?_
      refine (e_getR (code := kX8_holdsFor) (pc := 36) (c := 10) rfl (sk_237 (σ := σ) h) (sr_237_33 (σ := σ) h)).trans ?_
      refine (e_iload_n (code := kX8_holdsFor) (pc := 39) rfl rfl).trans ?_
      refine (e_iconst (code := kX8_holdsFor) (pc := 40) rfl).trans ?_
      refine (e_isub (code := kX8_holdsFor) (pc := 41) rfl).trans ?_
      refine (e_laload (code := kX8_holdsFor) (pc := 42) rfl (sk_251 (σ := σ) h) (sl_251 (σ := σ) h)).trans ?_
      refine b_gd_c ?_
      refine (e_lsub (code := kX8_holdsFor) (pc := 43) rfl).trans ?_
      refine (e_lastore (code := kX8_holdsFor) (pc := 44) rfl (sk_251 (σ := σ) h) (h_100 rfl) (sl_251 (σ := σ) h)).trans ?_
      refine b_gd_c ?_
      refine (e_goto (code := kX8_holdsFor) (pc := 45) (σ := (a_setL σ 251 (Int32.toNatClampNeg (x2 - (nI 1))) ((Int64.ofNat 1) - (a_L σ 251 (Int32.toNatClampNeg (x2 - (nI 1))))))) rfl).trans ?_
      rfl
    · refine (e_iload (code := kX8_holdsFor) (pc := 48) rfl rfl).trans ?_
      refine (e_bipush (code := kX8_holdsFor) (pc := 50) rfl).trans ?_
      refine (e_icle (code := kX8_holdsFor) (pc := 52) rfl).trans ?_
      refine b_ite ?_ ?_
      · refine (e_aload_n (code := kX8_holdsFor) (pc := 55) rfl rfl).trans ?_
        refine (e_getR (code := kX8_holdsFor) (pc := 56) (c := 10) rfl (sk_237 (σ := σ) h) (sr_237_33 (σ := σ) h)).trans ?_
        refine (e_iload_n (code := kX8_holdsFor) (pc := 59) rfl rfl).trans ?_
        refine (e_iload (code := kX8_holdsFor) (pc := 60) rfl rfl).trans ?_
        refine (e_iflt (code := kX8_holdsFor) (pc := 62) rfl).trans ?_
        refine b_ite ?_ ?_
        · refine (e_aload_n (code := kX8_holdsFor) (pc := 71) rfl rfl).trans ?_
          refine (e_iload_n (code := kX8_holdsFor) (pc := 72) rfl rfl).trans ?_
          refine (e_iconst (code := kX8_holdsFor) (pc := 73) rfl).trans ?_
          refine (e_iload (code := kX8_holdsFor) (pc := 74) rfl rfl).trans ?_
          refine (e_isub (code := kX8_holdsFor) (pc := 76) rfl).trans ?_
          exact (e_callV (σ := σ) (code := kX8_holdsFor) (pc := 77) (len := 3) (k := 259) (n := 3) (c := 20) (as := [.ref 237, .int x1, .int (((-1)) - (a_I σ 250 (Int32.toNatClampNeg x3)))]) (st0 := [.int x2, .ref 251]) rfl rfl rfl rfl rfl (sk_237 (σ := σ) h) rfl)
        · refine (e_iload (code := kX8_holdsFor) (pc := 65) rfl rfl).trans ?_
          refine (e_i2l (code := kX8_holdsFor) (pc := 67) rfl).trans ?_
          refine (e_goto (code := kX8_holdsFor) (pc := 68) rfl).trans ?_
          rfl
      · refine (e_iinc (code := kX8_holdsFor) (pc := 88) rfl rfl rfl rfl).trans ?_
        refine (e_aload_n (code := kX8_holdsFor) (pc := 91) rfl rfl).trans ?_
        refine (e_getR (code := kX8_holdsFor) (pc := 92) (c := 10) rfl (sk_237 (σ := σ) h) (sr_237_33 (σ := σ) h)).trans ?_
        refine (e_iload_n (code := kX8_holdsFor) (pc := 95) rfl rfl).trans ?_
        refine (e_iconst (code := kX8_holdsFor) (pc := 96) rfl).trans ?_
        refine (e_isub (code := kX8_holdsFor) (pc := 97) rfl).trans ?_
        refine (e_iload (code := kX8_holdsFor) (pc := 98) rfl rfl).trans ?_
        refine (e_aload_n (code := kX8_holdsFor) (pc := 100) rfl rfl).trans ?_
        refine (e_getR (code := kX8_holdsFor) (pc := 101) (c := 10) rfl (sk_237 (σ := σ) h) (sr_237_33 (σ := σ) h)).trans ?_
        refine (e_iload_n (code := kX8_holdsFor) (pc := 104) rfl rfl).trans ?_
        refine (e_iconst (code := kX8_holdsFor) (pc := 105) rfl).trans ?_
        refine (e_isub (code := kX8_holdsFor) (pc := 106) rfl).trans ?_
        refine (e_laload (code := kX8_holdsFor) (pc := 107) rfl (sk_251 (σ := σ) h) (sl_251 (σ := σ) h)).trans ?_
        refine b_gd_c ?_
        refine (e_aload_n (code := kX8_holdsFor) (pc := 108) rfl rfl).trans ?_
        refine (e_getR (code := kX8_holdsFor) (pc := 109) (c := 10) rfl (sk_237 (σ := σ) h) (sr_237_33 (σ := σ) h)).trans ?_
        refine (e_iload_n (code := kX8_holdsFor) (pc := 112) rfl rfl).trans ?_
        refine (e_laload (code := kX8_holdsFor) (pc := 113) rfl (sk_251 (σ := σ) h) (sl_251 (σ := σ) h)).trans ?_
        refine b_gd_c ?_
        exact (e_callS (code := kX8_holdsFor) (pc := 114) (len := 3) (k := 266) (n := 3) (as := [.int (a_I σ 250 (Int32.toNatClampNeg x3)), .long (a_L σ 251 (Int32.toNatClampNeg ((x2 + (-1)) - (nI 1)))), .long (a_L σ 251 (Int32.toNatClampNeg (x2 + (-1))))]) (st0 := [.int ((x2 + (-1)) - (nI 1)), .ref 251]) rfl rfl rfl rfl)
  · refine (e_aload_n (code := kX8_holdsFor) (pc := 124) rfl rfl).trans ?_
    refine (e_getR (code := kX8_holdsFor) (pc := 125) (c := 10) rfl (sk_237 (σ := σ) h) (sr_237_33 (σ := σ) h)).trans ?_
    refine (e_iconst (code := kX8_holdsFor) (pc := 128) rfl).trans ?_
    refine (e_laload (code := kX8_holdsFor) (pc := 129) rfl (sk_251 (σ := σ) h) (sl_251 (σ := σ) h)).trans ?_
    refine b_gd_c ?_
    refine (e_lconst (code := kX8_holdsFor) (pc := 130) rfl).trans ?_
    refine (e_lcmp (code := kX8_holdsFor) (pc := 131) rfl).trans ?_
    refine (e_ifne (code := kX8_holdsFor) (pc := 132) rfl).trans ?_
    refine b_ite ?_ ?_
    · refine (e_iconst (code := kX8_holdsFor) (pc := 135) rfl).trans ?_
      refine (e_goto (code := kX8_holdsFor) (pc := 136) rfl).trans ?_
      rfl
    · refine (e_iconst (code := kX8_holdsFor) (pc := 139) rfl).trans ?_
      rfl
theorem b_X8_holdsFor_80 {C : aCall} {σ : aSt} {x1 x2 x3 x4 y0 y1 : Int32} : b_R C kX8_holdsFor [] (80, [some (.ref 237), some (.int x1), some (.int x2), some (.int x3), some (.int x4)], [.int y0, .int y1, .ref 251], σ) = b_R C kX8_holdsFor [] (81, [some (.ref 237), some (.int x1), some (.int x2), some (.int x3), some (.int x4)], [.long (Int32.toInt64 y0), .int y1, .ref 251], σ) := by
  refine (e_i2l (code := kX8_holdsFor) (pc := 80) rfl).trans ?_
  rfl
theorem b_X8_holdsFor_81 {C : aCall} {σ : aSt} {x1 x2 x3 x4 y1 : Int32} {y0 : Int64} (h : Sh σ) : b_R C kX8_holdsFor [] (81, [some (.ref 237), some (.int x1), some (.int x2), some (.int x3), some (.int x4)], [.long y0, .int y1, .ref 251], σ) = b_gd (a_in y1 200) (b_R C kX8_holdsFor [] (118, [some (.ref 237), some (.int x1), some (.int (x2 + nI 1)), some (.int x3), some (.int x4)], [], (a_setL σ 251 (Int32.toNatClampNeg y1) y0))) := by
  refine (e_lastore (code := kX8_holdsFor) (pc := 81) rfl (sk_251 (σ := σ) h) (h_100 rfl) (sl_251 (σ := σ) h)).trans ?_
  refine b_gd_c ?_
  refine (e_iinc (code := kX8_holdsFor) (pc := 82) (σ := (a_setL σ 251 (Int32.toNatClampNeg y1) y0)) rfl rfl rfl rfl).trans ?_
  refine (e_goto (code := kX8_holdsFor) (pc := 85) (σ := (a_setL σ 251 (Int32.toNatClampNeg y1) y0)) rfl).trans ?_
  rfl
theorem b_X8_holdsFor_117 {C : aCall} {σ : aSt} {x1 x2 x3 x4 y1 : Int32} {y0 : Int64} (h : Sh σ) : b_R C kX8_holdsFor [] (117, [some (.ref 237), some (.int x1), some (.int x2), some (.int x3), some (.int x4)], [.long y0, .int y1, .ref 251], σ) = b_gd (a_in y1 200) (b_R C kX8_holdsFor [] (118, [some (.ref 237), some (.int x1), some (.int x2), some (.int x3), some (.int x4)], [], (a_setL σ 251 (Int32.toNatClampNeg y1) y0))) := by
  refine (e_lastore (code := kX8_holdsFor) (pc := 117) rfl (sk_251 (σ := σ) h) (h_100 rfl) (sl_251 (σ := σ) h)).trans ?_
  refine b_gd_c ?_
  rfl
theorem b_X8_holdsFor_118 {C : aCall} {σ : aSt} {x1 x2 x3 x4 : Int32} : b_R C kX8_holdsFor [] (118, [some (.ref 237), some (.int x1), some (.int x2), some (.int x3), some (.int x4)], [], σ) = b_R C kX8_holdsFor [] (4, [some (.ref 237), some (.int x1), some (.int x2), some (.int (x3 + nI 1)), some (.int x4)], [], σ) := by
  refine (e_iinc (code := kX8_holdsFor) (pc := 118) rfl rfl rfl rfl).trans ?_
  refine (e_goto (code := kX8_holdsFor) (pc := 121) rfl).trans ?_
  rfl
theorem b_X8_holdsFor_140 {C : aCall} {σ : aSt} {x1 x2 x3 y0 : Int32} {o4 : Option Value} : b_R C kX8_holdsFor [] (140, [some (.ref 237), some (.int x1), some (.int x2), some (.int x3), o4], [.int y0], σ) = b_gd (y0 = 0 ∨ y0 = 1) (some (.inl (some (.int y0)), σ)) := by
  exact e_zreturn rfl
theorem n_X8_query {P : aCall} {d : Nat} {σ : aSt} {x1 : Int32} (hd : 1 ≤ d) : a_call a_tab P d 268 [.ref 237, .int x1] σ = b_R (a_call a_tab P (d - 1)) kX8_query [] (0, [some (.ref 237), some (.int x1), none, none, none], [], σ) := e_call hd at_X8_query rfl
theorem b_X8_query_0 {C : aCall} {σ : aSt} {x1 : Int32} (h : Sh σ) : b_R C kX8_query [] (0, [some (.ref 237), some (.int x1), none, none, none], [], σ) = b_G C kX8_query [] 14 17 [some (.ref 237), some (.int x1), none, none, none] [.int (nI 0), .int x1] (C 1000 [.int (a_I (a_setI σ 237 6 (nI 0)) 237 20), .int (nI 200)] (a_setI σ 237 6 (nI 0))) := by
  refine (e_aload_n (code := kX8_query) (pc := 0) rfl rfl).trans ?_
  refine (e_iconst (code := kX8_query) (pc := 1) rfl).trans ?_
  refine (e_putI (code := kX8_query) (pc := 2) (c := 10) rfl (sk_237 (σ := σ) h) (h_100 rfl)).trans ?_
  refine (e_iload_n (code := kX8_query) (pc := 5) (σ := (a_setI σ 237 6 (nI 0))) rfl rfl).trans ?_
  refine (e_iconst (code := kX8_query) (pc := 6) (σ := (a_setI σ 237 6 (nI 0))) rfl).trans ?_
  refine (e_aload_n (code := kX8_query) (pc := 7) (σ := (a_setI σ 237 6 (nI 0))) rfl rfl).trans ?_
  refine (e_getI (code := kX8_query) (pc := 8) (σ := (a_setI σ 237 6 (nI 0))) (c := 10) rfl (sk_237 (σ := σ) h) rfl).trans ?_
  refine (e_sipush (code := kX8_query) (pc := 11) (σ := (a_setI σ 237 6 (nI 0))) rfl).trans ?_
  exact (e_callS (code := kX8_query) (pc := 14) (len := 3) (k := 1000) (n := 2) (as := [.int (a_I (a_setI σ 237 6 (nI 0)) 237 20), .int (nI 200)]) (st0 := [.int (nI 0), .int x1]) rfl rfl rfl rfl)
theorem b_X8_query_17 {C : aCall} {σ : aSt} {x1 y0 y1 y2 : Int32} : b_R C kX8_query [] (17, [some (.ref 237), some (.int x1), none, none, none], [.int y0, .int y1, .int y2], σ) = b_G C kX8_query [] 17 20 [some (.ref 237), some (.int x1), none, none, none] [] (C 147 [.int y2, .int y1, .int y0] σ) := by
  exact (e_callS (code := kX8_query) (pc := 17) (len := 3) (k := 147) (n := 3) (as := [.int y2, .int y1, .int y0]) (st0 := []) rfl rfl rfl rfl)
theorem b_X8_query_20 {C : aCall} {σ : aSt} {x1 y0 : Int32} (h : Sh σ) : b_R C kX8_query [] (20, [some (.ref 237), some (.int x1), none, none, none], [.int y0], σ) = (if y0 = 0 then b_G C kX8_query [] 25 28 [some (.ref 237), some (.int x1), none, none, none] [] (C 146 [.ref 237, .int (nI 1)] σ) else b_G C kX8_query [] 36 39 [some (.ref 237), some (.int x1), none, none, none] [] (C 230 [.ref 237, .int x1] (a_setI σ 237 34 (nI 0)))) := by
  refine (e_ifne (code := kX8_query) (pc := 20) rfl).trans ?_
  refine b_ite ?_ ?_
  · refine (e_aload_n (code := kX8_query) (pc := 23) rfl rfl).trans ?_
    refine (e_iconst (code := kX8_query) (pc := 24) rfl).trans ?_
    exact (e_callV (σ := σ) (code := kX8_query) (pc := 25) (len := 3) (k := 146) (n := 2) (c := 20) (as := [.ref 237, .int (nI 1)]) (st0 := []) rfl rfl rfl rfl rfl (sk_237 (σ := σ) h) rfl)
  · refine (e_aload_n (code := kX8_query) (pc := 29) rfl rfl).trans ?_
    refine (e_iconst (code := kX8_query) (pc := 30) rfl).trans ?_
    refine (e_putI (code := kX8_query) (pc := 31) (c := 10) rfl (sk_237 (σ := σ) h) (h_100 rfl)).trans ?_
    refine (e_aload_n (code := kX8_query) (pc := 34) (σ := (a_setI σ 237 34 (nI 0))) rfl rfl).trans ?_
    refine (e_iload_n (code := kX8_query) (pc := 35) (σ := (a_setI σ 237 34 (nI 0))) rfl rfl).trans ?_
    exact (e_callV (σ := (a_setI σ 237 34 (nI 0))) (code := kX8_query) (pc := 36) (len := 3) (k := 230) (n := 2) (c := 20) (as := [.ref 237, .int x1]) (st0 := []) rfl rfl rfl rfl rfl (sk_237 (σ := σ) h) rfl)
theorem b_X8_query_28 {C : aCall} {σ : aSt} {x1 y0 : Int32} : b_R C kX8_query [] (28, [some (.ref 237), some (.int x1), none, none, none], [.int y0], σ) = some (.inl (some (.int y0)), σ) := by
  exact e_ireturn rfl
theorem b_X8_query_39 {C : aCall} {σ : aSt} {x1 : Int32} (h : Sh σ) : b_R C kX8_query [] (39, [some (.ref 237), some (.int x1), none, none, none], [], σ) = b_G C kX8_query [] 43 46 [some (.ref 237), some (.int x1), none, none, none] [] (C 236 [.ref 237, .ref 8] σ) := by
  refine (e_aload_n (code := kX8_query) (pc := 39) rfl rfl).trans ?_
  refine (e_ldc_wS (code := kX8_query) (pc := 40) rfl).trans ?_
  exact (e_callV (σ := σ) (code := kX8_query) (pc := 43) (len := 3) (k := 236) (n := 2) (c := 20) (as := [.ref 237, .ref 8]) (st0 := []) rfl rfl rfl rfl rfl (sk_237 (σ := σ) h) rfl)
theorem b_X8_query_46 {C : aCall} {σ : aSt} {x1 y0 : Int32} (h : Sh σ) : b_R C kX8_query [] (46, [some (.ref 237), some (.int x1), none, none, none], [.int y0], σ) = (if y0 = 0 then b_G C kX8_query [] 56 59 [some (.ref 237), some (.int x1), some (.int y0), none, none] [.ref 237] (C 236 [.ref 237, .ref 7] σ) else b_R C kX8_query [] (62, [some (.ref 237), some (.int x1), some (.int y0), none, none], [.ref 237], σ)) := by
  refine (e_istore_n (code := kX8_query) (pc := 46) rfl rfl rfl).trans ?_
  refine (e_aload_n (code := kX8_query) (pc := 47) rfl rfl).trans ?_
  refine (e_iload_n (code := kX8_query) (pc := 48) rfl rfl).trans ?_
  refine (e_ifne (code := kX8_query) (pc := 49) rfl).trans ?_
  refine b_ite ?_ ?_
  · refine (e_aload_n (code := kX8_query) (pc := 52) rfl rfl).trans ?_
    refine (e_ldc_wS (code := kX8_query) (pc := 53) rfl).trans ?_
    exact (e_callV (σ := σ) (code := kX8_query) (pc := 56) (len := 3) (k := 236) (n := 2) (c := 20) (as := [.ref 237, .ref 7]) (st0 := [.ref 237]) rfl rfl rfl rfl rfl (sk_237 (σ := σ) h) rfl)
  · rfl
theorem b_X8_query_59 {C : aCall} {σ : aSt} {x1 x2 y0 : Int32} : b_R C kX8_query [] (59, [some (.ref 237), some (.int x1), some (.int x2), none, none], [.int y0, .ref 237], σ) = (if y0 = 0 then b_R C kX8_query [] (67, [some (.ref 237), some (.int x1), some (.int x2), none, none], [.int (nI 0), .ref 237], σ) else b_R C kX8_query [] (62, [some (.ref 237), some (.int x1), some (.int x2), none, none], [.ref 237], σ)) := by
  refine (e_ifeq (code := kX8_query) (pc := 59) rfl).trans ?_
  refine b_ite ?_ ?_
  · refine (e_iconst (code := kX8_query) (pc := 66) rfl).trans ?_
    rfl
  · rfl
theorem b_X8_query_62 {C : aCall} {σ : aSt} {x1 x2 : Int32} : b_R C kX8_query [] (62, [some (.ref 237), some (.int x1), some (.int x2), none, none], [.ref 237], σ) = b_R C kX8_query [] (67, [some (.ref 237), some (.int x1), some (.int x2), none, none], [.int (nI 1), .ref 237], σ) := by
  refine (e_iconst (code := kX8_query) (pc := 62) rfl).trans ?_
  refine (e_goto (code := kX8_query) (pc := 63) rfl).trans ?_
  rfl
theorem b_X8_query_67 {C : aCall} {σ : aSt} {x1 x2 y0 : Int32} (h : Sh σ) : b_R C kX8_query [] (67, [some (.ref 237), some (.int x1), some (.int x2), none, none], [.int y0, .ref 237], σ) = b_G C kX8_query [] 68 71 [some (.ref 237), some (.int x1), some (.int x2), none, none] [] (C 233 [.ref 237, .int y0, .int (nI 1)] σ) := by
  refine (e_iconst (code := kX8_query) (pc := 67) rfl).trans ?_
  exact (e_callV (σ := σ) (code := kX8_query) (pc := 68) (len := 3) (k := 233) (n := 3) (c := 20) (as := [.ref 237, .int y0, .int (nI 1)]) (st0 := []) rfl rfl rfl rfl rfl (sk_237 (σ := σ) h) rfl)
theorem b_X8_query_71 {C : aCall} {σ : aSt} {x1 x2 : Int32} (h : Sh σ) : b_R C kX8_query [] (71, [some (.ref 237), some (.int x1), some (.int x2), none, none], [], σ) = b_G C kX8_query [] 72 75 [some (.ref 237), some (.int x1), some (.int x2), none, none] [] (C 234 [.ref 237] σ) := by
  refine (e_aload_n (code := kX8_query) (pc := 71) rfl rfl).trans ?_
  exact (e_callV (σ := σ) (code := kX8_query) (pc := 72) (len := 3) (k := 234) (n := 1) (c := 20) (as := [.ref 237]) (st0 := []) rfl rfl rfl rfl rfl (sk_237 (σ := σ) h) rfl)
theorem b_X8_query_75 {C : aCall} {σ : aSt} {x1 x2 : Int32} (h : Sh σ) : b_R C kX8_query [] (75, [some (.ref 237), some (.int x1), some (.int x2), none, none], [], σ) = b_G C kX8_query [] 76 79 [some (.ref 237), some (.int x1), some (.int x2), none, none] [] (C 265 [.ref 237] σ) := by
  refine (e_aload_n (code := kX8_query) (pc := 75) rfl rfl).trans ?_
  exact (e_callV (σ := σ) (code := kX8_query) (pc := 76) (len := 3) (k := 265) (n := 1) (c := 20) (as := [.ref 237]) (st0 := []) rfl rfl rfl rfl rfl (sk_237 (σ := σ) h) rfl)
theorem b_X8_query_79 {C : aCall} {σ : aSt} {x1 x2 : Int32} (h : Sh σ) : b_R C kX8_query [] (79, [some (.ref 237), some (.int x1), some (.int x2), none, none], [], σ) = (if (a_I σ 237 25) = 0 then (if (a_I σ 237 24) = 0 then b_R C kX8_query [] (94, [some (.ref 237), some (.int x1), some (.int x2), none, none], [.ref 237], σ) else b_R C kX8_query [] (99, [some (.ref 237), some (.int x1), some (.int x2), none, none], [.int (nI 0), .ref 237], σ)) else b_R C kX8_query [] (94, [some (.ref 237), some (.int x1), some (.int x2), none, none], [.ref 237], σ)) := by
  refine (e_aload_n (code := kX8_query) (pc := 79) rfl rfl).trans ?_
  refine (e_aload_n (code := kX8_query) (pc := 80) rfl rfl).trans ?_
  refine (e_getI (code := kX8_query) (pc := 81) (c := 10) rfl (sk_237 (σ := σ) h) rfl).trans ?_
  refine (e_ifne (code := kX8_query) (pc := 84) rfl).trans ?_
  refine b_ite ?_ ?_
  · refine (e_aload_n (code := kX8_query) (pc := 87) rfl rfl).trans ?_
    refine (e_getI (code := kX8_query) (pc := 88) (c := 10) rfl (sk_237 (σ := σ) h) rfl).trans ?_
    refine (e_ifne (code := kX8_query) (pc := 91) rfl).trans ?_
    refine b_ite ?_ ?_
    · rfl
    · refine (e_iconst (code := kX8_query) (pc := 98) rfl).trans ?_
      rfl
  · rfl
theorem b_X8_query_94 {C : aCall} {σ : aSt} {x1 x2 : Int32} : b_R C kX8_query [] (94, [some (.ref 237), some (.int x1), some (.int x2), none, none], [.ref 237], σ) = b_R C kX8_query [] (99, [some (.ref 237), some (.int x1), some (.int x2), none, none], [.int (nI 1), .ref 237], σ) := by
  refine (e_iconst (code := kX8_query) (pc := 94) rfl).trans ?_
  refine (e_goto (code := kX8_query) (pc := 95) rfl).trans ?_
  rfl
theorem b_X8_query_99 {C : aCall} {σ : aSt} {x1 x2 y0 : Int32} (h : Sh σ) : b_R C kX8_query [] (99, [some (.ref 237), some (.int x1), some (.int x2), none, none], [.int y0, .ref 237], σ) = b_G C kX8_query [] 100 103 [some (.ref 237), some (.int x1), some (.int x2), none, none] [] (C 233 [.ref 237, .int y0, .int (nI 1)] σ) := by
  refine (e_iconst (code := kX8_query) (pc := 99) rfl).trans ?_
  exact (e_callV (σ := σ) (code := kX8_query) (pc := 100) (len := 3) (k := 233) (n := 3) (c := 20) (as := [.ref 237, .int y0, .int (nI 1)]) (st0 := []) rfl rfl rfl rfl rfl (sk_237 (σ := σ) h) rfl)
theorem b_X8_query_103 {C : aCall} {σ : aSt} {x1 x2 : Int32} (h : Sh σ) : b_R C kX8_query [] (103, [some (.ref 237), some (.int x1), some (.int x2), none, none], [], σ) = b_G C kX8_query [] 104 107 [some (.ref 237), some (.int x1), some (.int x2), none, none] [] (C 231 [.ref 237] σ) := by
  refine (e_aload_n (code := kX8_query) (pc := 103) rfl rfl).trans ?_
  exact (e_callV (σ := σ) (code := kX8_query) (pc := 104) (len := 3) (k := 231) (n := 1) (c := 20) (as := [.ref 237]) (st0 := []) rfl rfl rfl rfl rfl (sk_237 (σ := σ) h) rfl)
theorem b_X8_query_107 {C : aCall} {σ : aSt} {x1 x2 y0 : Int32} (h : Sh σ) : b_R C kX8_query [] (107, [some (.ref 237), some (.int x1), some (.int x2), none, none], [.int y0], σ) = (if y0 = 0 then b_R C kX8_query [] (124, [some (.ref 237), some (.int x1), some (.int x2), some (.int (nI 0)), some (.int (nI 0))], [], σ) else some (.inl (some (.int (((-1000000000)) - (a_I σ 237 25)))), σ)) := by
  refine (e_ifeq (code := kX8_query) (pc := 107) rfl).trans ?_
  refine b_ite ?_ ?_
  · refine (e_iconst (code := kX8_query) (pc := 119) rfl).trans ?_
    refine (e_istore_n (code := kX8_query) (pc := 120) rfl rfl rfl).trans ?_
    refine (e_iconst (code := kX8_query) (pc := 121) rfl).trans ?_
    refine (e_istore (code := kX8_query) (pc := 122) rfl rfl rfl).trans ?_
    rfl
  · refine (e_ldc_wI (code := kX8_query) (pc := 110) rfl).trans ?_
    refine (e_aload_n (code := kX8_query) (pc := 113) rfl rfl).trans ?_
    refine (e_getI (code := kX8_query) (pc := 114) (c := 10) rfl (sk_237 (σ := σ) h) rfl).trans ?_
    refine (e_isub (code := kX8_query) (pc := 117) rfl).trans ?_
    exact e_ireturn rfl
theorem b_X8_query_124 {C : aCall} {σ : aSt} {x1 x2 x3 x4 : Int32} (h : Sh σ) : b_R C kX8_query [] (124, [some (.ref 237), some (.int x1), some (.int x2), some (.int x3), some (.int x4)], [], σ) = b_gd (a_in (nI 1) 720) ((if x4 < (a_I σ 238 (Int32.toNatClampNeg (nI 1))) then b_G C kX8_query [] 138 141 [some (.ref 237), some (.int x1), some (.int x2), some (.int x3), some (.int x4)] [] (C 267 [.ref 237, .int x4] σ) else (if x2 = 0 then b_R C kX8_query [] (172, [some (.ref 237), some (.int x1), some (.int x2), some (.int x3), some (.int x4)], [.int x3], σ) else b_R C kX8_query [] (172, [some (.ref 237), some (.int x1), some (.int x2), some (.int x3), some (.int x4)], [.int ((-1))], σ)))) := by
  refine (e_iload (code := kX8_query) (pc := 124) rfl rfl).trans ?_
  refine (e_aload_n (code := kX8_query) (pc := 126) rfl rfl).trans ?_
  refine (e_getR (code := kX8_query) (pc := 127) (c := 10) rfl (sk_237 (σ := σ) h) (sr_237_0 (σ := σ) h)).trans ?_
  refine (e_iconst (code := kX8_query) (pc := 130) rfl).trans ?_
  refine (e_iaload (code := kX8_query) (pc := 131) rfl (.inl (sk_238 (σ := σ) h)) (sl_238 (σ := σ) h)).trans ?_
  refine b_gd_c ?_
  refine (e_icge (code := kX8_query) (pc := 132) rfl).trans ?_
  refine b_ite ?_ ?_
  · refine (e_aload_n (code := kX8_query) (pc := 135) rfl rfl).trans ?_
    refine (e_iload (code := kX8_query) (pc := 136) rfl rfl).trans ?_
    exact (e_callV (σ := σ) (code := kX8_query) (pc := 138) (len := 3) (k := 267) (n := 2) (c := 20) (as := [.ref 237, .int x4]) (st0 := []) rfl rfl rfl rfl rfl (sk_237 (σ := σ) h) rfl)
  · refine (e_iload_n (code := kX8_query) (pc := 163) rfl rfl).trans ?_
    refine (e_ifeq (code := kX8_query) (pc := 164) rfl).trans ?_
    refine b_ite ?_ ?_
    · refine (e_iload_n (code := kX8_query) (pc := 171) rfl rfl).trans ?_
      rfl
    · refine (e_iconst (code := kX8_query) (pc := 167) rfl).trans ?_
      refine (e_goto (code := kX8_query) (pc := 168) rfl).trans ?_
      rfl
theorem b_X8_query_141 {C : aCall} {σ : aSt} {x1 x2 x3 x4 y0 : Int32} : b_R C kX8_query [] (141, [some (.ref 237), some (.int x1), some (.int x2), some (.int x3), some (.int x4)], [.int y0], σ) = (if y0 = 0 then b_R C kX8_query [] (157, [some (.ref 237), some (.int x1), some (.int x2), some (.int x3), some (.int x4)], [], σ) else (if x2 = 0 then b_R C kX8_query [] (157, [some (.ref 237), some (.int x1), some (.int x2), some (.int (x3 + nI 1)), some (.int x4)], [], σ) else some (.inl (some (.int x4)), σ))) := by
  refine (e_ifne (code := kX8_query) (pc := 141) rfl).trans ?_
  refine b_ite ?_ ?_
  · refine (e_goto (code := kX8_query) (pc := 144) rfl).trans ?_
    rfl
  · refine (e_iload_n (code := kX8_query) (pc := 147) rfl rfl).trans ?_
    refine (e_ifeq (code := kX8_query) (pc := 148) rfl).trans ?_
    refine b_ite ?_ ?_
    · refine (e_iinc (code := kX8_query) (pc := 154) rfl rfl rfl rfl).trans ?_
      rfl
    · refine (e_iload (code := kX8_query) (pc := 151) rfl rfl).trans ?_
      exact e_ireturn rfl
theorem b_X8_query_157 {C : aCall} {σ : aSt} {x1 x2 x3 x4 : Int32} : b_R C kX8_query [] (157, [some (.ref 237), some (.int x1), some (.int x2), some (.int x3), some (.int x4)], [], σ) = b_R C kX8_query [] (124, [some (.ref 237), some (.int x1), some (.int x2), some (.int x3), some (.int (x4 + nI 1))], [], σ) := by
  refine (e_iinc (code := kX8_query) (pc := 157) rfl rfl rfl rfl).trans ?_
  refine (e_goto (code := kX8_query) (pc := 160) rfl).trans ?_
  rfl
theorem b_X8_query_172 {C : aCall} {σ : aSt} {x1 x2 x3 x4 y0 : Int32} : b_R C kX8_query [] (172, [some (.ref 237), some (.int x1), some (.int x2), some (.int x3), some (.int x4)], [.int y0], σ) = some (.inl (some (.int y0)), σ) := by
  exact e_ireturn rfl
