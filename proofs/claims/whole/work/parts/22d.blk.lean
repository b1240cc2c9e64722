/-! equations of the blocks, by program (wip/whole/tools/gen21.py) -/
theorem n_X3_init {P : aCall} {d : Nat} {σ : aSt} {a0 : Nat} (hd : 1 ≤ d) : a_call a_tab P d 57 [.ref a0] σ = b_R (a_call a_tab P (d - 1)) kX3_init [] (0, [some (.ref a0)], [], σ) := e_call hd at_X3_init rfl
theorem b_X3_init_0 {C : aCall} {σ : aSt} {a0 : Nat} (hk0 : a_kd (a_new σ 1 20 20) a0 = 15) (hn1 : 100 ≤ a0) : b_R C kX3_init [] (0, [some (.ref a0)], [], σ) = b_R C kX3_init [] (12, [some (.ref a0)], [], (a_setR (a_new σ 1 20 20) a0 0 (some (a_n σ)))) := by
  refine (e_aload_n (code := kX3_init) (pc := 0) rfl rfl).trans ?_
  refine (e_objInit (code := kX3_init) (pc := 1) rfl rfl).trans ?_
  refine (e_aload_n (code := kX3_init) (pc := 4) rfl rfl).trans ?_
  refine (e_bipush (code := kX3_init) (pc := 5) rfl).trans ?_
  refine (e_newarray (code := kX3_init) (pc := 7) (m := 20) rfl (by decide) (by decide) (Nat.le_of_ble_eq_true rfl)).trans ?_
  refine (e_putR (code := kX3_init) (pc := 9) (σ := (a_new σ 1 20 20)) (c := 5) rfl hk0 hn1).trans ?_
  rfl
theorem b_X3_init_12 {C : aCall} {σ : aSt} {a0 : Nat} (hk0 : a_kd (a_new σ 1 20 20) a0 = 15) (hn1 : 100 ≤ a0) : b_R C kX3_init [] (12, [some (.ref a0)], [], σ) = b_R C kX3_init [] (20, [some (.ref a0)], [], (a_setR (a_new σ 1 20 20) a0 1 (some (a_n σ)))) := by
  refine (e_aload_n (code := kX3_init) (pc := 12) rfl rfl).trans ?_
  refine (e_bipush (code := kX3_init) (pc := 13) rfl).trans ?_
  refine (e_newarray (code := kX3_init) (pc := 15) (m := 20) rfl (by decide) (by decide) (Nat.le_of_ble_eq_true rfl)).trans ?_
  refine (e_putR (code := kX3_init) (pc := 17) (σ := (a_new σ 1 20 20)) (c := 5) rfl hk0 hn1).trans ?_
  rfl
theorem b_X3_init_20 {C : aCall} {σ : aSt} {a0 : Nat} (hk0 : a_kd (a_new σ 1 20 20) a0 = 15) (hn1 : 100 ≤ a0) : b_R C kX3_init [] (20, [some (.ref a0)], [], σ) = b_R C kX3_init [] (28, [some (.ref a0)], [], (a_setR (a_new σ 1 20 20) a0 2 (some (a_n σ)))) := by
  refine (e_aload_n (code := kX3_init) (pc := 20) rfl rfl).trans ?_
  refine (e_bipush (code := kX3_init) (pc := 21) rfl).trans ?_
  refine (e_newarray (code := kX3_init) (pc := 23) (m := 20) rfl (by decide) (by decide) (Nat.le_of_ble_eq_true rfl)).trans ?_
  refine (e_putR (code := kX3_init) (pc := 25) (σ := (a_new σ 1 20 20)) (c := 5) rfl hk0 hn1).trans ?_
  rfl
theorem b_X3_init_28 {C : aCall} {σ : aSt} {a0 : Nat} (hk0 : a_kd (a_new σ 1 20 20) a0 = 15) (hn1 : 100 ≤ a0) : b_R C kX3_init [] (28, [some (.ref a0)], [], σ) = b_R C kX3_init [] (36, [some (.ref a0)], [], (a_setR (a_new σ 1 20 20) a0 3 (some (a_n σ)))) := by
  refine (e_aload_n (code := kX3_init) (pc := 28) rfl rfl).trans ?_
  refine (e_bipush (code := kX3_init) (pc := 29) rfl).trans ?_
  refine (e_newarray (code := kX3_init) (pc := 31) (m := 20) rfl (by decide) (by decide) (Nat.le_of_ble_eq_true rfl)).trans ?_
  refine (e_putR (code := kX3_init) (pc := 33) (σ := (a_new σ 1 20 20)) (c := 5) rfl hk0 hn1).trans ?_
  rfl
theorem b_X3_init_36 {C : aCall} {σ : aSt} {a0 : Nat} (hk0 : a_kd (a_new σ 1 10 10) a0 = 15) (hn1 : 100 ≤ a0) : b_R C kX3_init [] (36, [some (.ref a0)], [], σ) = b_R C kX3_init [] (44, [some (.ref a0)], [], (a_setR (a_new σ 1 10 10) a0 4 (some (a_n σ)))) := by
  refine (e_aload_n (code := kX3_init) (pc := 36) rfl rfl).trans ?_
  refine (e_bipush (code := kX3_init) (pc := 37) rfl).trans ?_
  refine (e_newarray (code := kX3_init) (pc := 39) (m := 10) rfl (by decide) (by decide) (Nat.le_of_ble_eq_true rfl)).trans ?_
  refine (e_putR (code := kX3_init) (pc := 41) (σ := (a_new σ 1 10 10)) (c := 5) rfl hk0 hn1).trans ?_
  rfl
theorem b_X3_init_44 {C : aCall} {σ : aSt} {a0 : Nat} : b_R C kX3_init [] (44, [some (.ref a0)], [], σ) = some (.inl none, σ) := by
  exact e_return_ rfl
theorem n_X3_run {P : aCall} {d : Nat} {σ : aSt} {p : Nat} {x2 x3 : Int32} (hd : 1 ≤ d) : a_call a_tab P d 58 [.ref 229, .ref p, .int x2, .int x3] σ = b_R (a_call a_tab P (d - 1)) kX3_run [] (0, [some (.ref 229), some (.ref p), some (.int x2), some (.int x3), none], [], σ) := e_call hd at_X3_run rfl
theorem b_X3_run_0 {C : aCall} {σ : aSt} {p : Nat} {x2 x3 : Int32} (h : Sh σ) : b_R C kX3_run [] (0, [some (.ref 229), some (.ref p), some (.int x2), some (.int x3), none], [], σ) = b_G C kX3_run [] 3 6 [some (.ref 229), some (.ref p), some (.int x2), some (.int x3), none] [] (C 59 [.ref 229, .ref p, .int x2] σ) := by
  refine (e_aload_n (code := kX3_run) (pc := 0) rfl rfl).trans ?_
  refine (e_aload_n (code := kX3_run) (pc := 1) rfl rfl).trans ?_
  refine (e_iload_n (code := kX3_run) (pc := 2) rfl rfl).trans ?_
  exact (e_callV (σ := σ) (code := kX3_run) (pc := 3) (len := 3) (k := 59) (n := 3) (c := 15) (as := [.ref 229, .ref p, .int x2]) (st0 := []) rfl rfl rfl rfl rfl (sk_229 (σ := σ) h) rfl)
theorem b_X3_run_6 {C : aCall} {σ : aSt} {p : Nat} {x2 x3 : Int32} : b_R C kX3_run [] (6, [some (.ref 229), some (.ref p), some (.int x2), some (.int x3), none], [], σ) = b_R C kX3_run [] (9, [some (.ref 229), some (.ref p), some (.int x2), some (.int x3), some (.int (nI 1))], [], σ) := by
  refine (e_iconst (code := kX3_run) (pc := 6) rfl).trans ?_
  refine (e_istore (code := kX3_run) (pc := 7) rfl rfl rfl).trans ?_
  rfl
theorem b_X3_run_9 {C : aCall} {σ : aSt} {p : Nat} {x2 x3 x4 : Int32} (h : Sh σ) : b_R C kX3_run [] (9, [some (.ref 229), some (.ref p), some (.int x2), some (.int x3), some (.int x4)], [], σ) = (if x3 < x4 then some (.inl none, σ) else b_G C kX3_run [] 18 21 [some (.ref 229), some (.ref p), some (.int x2), some (.int x3), some (.int x4)] [] (C 60 [.ref 229, .int x4] σ)) := by
  refine (e_iload (code := kX3_run) (pc := 9) rfl rfl).trans ?_
  refine (e_iload_n (code := kX3_run) (pc := 11) rfl rfl).trans ?_
  refine (e_icgt (code := kX3_run) (pc := 12) rfl).trans ?_
  refine b_ite ?_ ?_
  · exact e_return_ rfl
  · refine (e_aload_n (code := kX3_run) (pc := 15) rfl rfl).trans ?_
    refine (e_iload (code := kX3_run) (pc := 16) rfl rfl).trans ?_
    exact (e_callV (σ := σ) (code := kX3_run) (pc := 18) (len := 3) (k := 60) (n := 2) (c := 15) (as := [.ref 229, .int x4]) (st0 := []) rfl rfl rfl rfl rfl (sk_229 (σ := σ) h) rfl)
theorem b_X3_run_21 {C : aCall} {σ : aSt} {p : Nat} {x2 x3 x4 : Int32} : b_R C kX3_run [] (21, [some (.ref 229), some (.ref p), some (.int x2), some (.int x3), some (.int x4)], [], σ) = b_R C kX3_run [] (9, [some (.ref 229), some (.ref p), some (.int x2), some (.int x3), some (.int (x4 + nI 1))], [], σ) := by
  refine (e_iinc (code := kX3_run) (pc := 21) rfl rfl rfl rfl).trans ?_
  refine (e_goto (code := kX3_run) (pc := 24) rfl).trans ?_
  rfl
theorem n_X3_begin {P : aCall} {d : Nat} {σ : aSt} {p : Nat} {x2 : Int32} (hd : 1 ≤ d) : a_call a_tab P d 59 [.ref 229, .ref p, .int x2] σ = b_R (a_call a_tab P (d - 1)) kX3_begin [] (0, [some (.ref 229), some (.ref p), some (.int x2), none], [], σ) := e_call hd at_X3_begin rfl
theorem b_X3_begin_0 {C : aCall} {σ : aSt} {p : Nat} {x2 : Int32} : b_R C kX3_begin [] (0, [some (.ref 229), some (.ref p), some (.int x2), none], [], σ) = b_G C kX3_begin [] 3 6 [some (.ref 229), some (.ref p), some (.int x2), none] [.ref 229] (C 140 [.int x2, .int (nI 0)] σ) := by
  refine (e_aload_n (code := kX3_begin) (pc := 0) rfl rfl).trans ?_
  refine (e_iload_n (code := kX3_begin) (pc := 1) rfl rfl).trans ?_
  refine (e_iconst (code := kX3_begin) (pc := 2) rfl).trans ?_
  exact (e_callS (code := kX3_begin) (pc := 3) (len := 3) (k := 140) (n := 2) (as := [.int x2, .int (nI 0)]) (st0 := [.ref 229]) rfl rfl rfl rfl)
theorem b_X3_begin_6 {C : aCall} {σ : aSt} {p : Nat} {x2 y0 : Int32} (h : Sh σ) : b_R C kX3_begin [] (6, [some (.ref 229), some (.ref p), some (.int x2), none], [.int y0, .ref 229], σ) = b_G C kX3_begin [] 12 15 [some (.ref 229), some (.ref p), some (.int x2), none] [.ref 229] (C 140 [.int x2, .int (nI 1)] (a_setI σ 229 7 y0)) := by
  refine (e_putI (code := kX3_begin) (pc := 6) (c := 5) rfl (sk_229 (σ := σ) h) (h_100 rfl)).trans ?_
  refine (e_aload_n (code := kX3_begin) (pc := 9) (σ := (a_setI σ 229 7 y0)) rfl rfl).trans ?_
  refine (e_iload_n (code := kX3_begin) (pc := 10) (σ := (a_setI σ 229 7 y0)) rfl rfl).trans ?_
  refine (e_iconst (code := kX3_begin) (pc := 11) (σ := (a_setI σ 229 7 y0)) rfl).trans ?_
  exact (e_callS (code := kX3_begin) (pc := 12) (len := 3) (k := 140) (n := 2) (as := [.int x2, .int (nI 1)]) (st0 := [.ref 229]) rfl rfl rfl rfl)
theorem b_X3_begin_15 {C : aCall} {σ : aSt} {p : Nat} {x2 y0 : Int32} (h : Sh σ) : b_R C kX3_begin [] (15, [some (.ref 229), some (.ref p), some (.int x2), none], [.int y0, .ref 229], σ) = b_G C kX3_begin [] 21 24 [some (.ref 229), some (.ref p), some (.int x2), none] [.ref 229] (C 140 [.int x2, .int (nI 2)] (a_setI σ 229 8 y0)) := by
  refine (e_putI (code := kX3_begin) (pc := 15) (c := 5) rfl (sk_229 (σ := σ) h) (h_100 rfl)).trans ?_
  refine (e_aload_n (code := kX3_begin) (pc := 18) (σ := (a_setI σ 229 8 y0)) rfl rfl).trans ?_
  refine (e_iload_n (code := kX3_begin) (pc := 19) (σ := (a_setI σ 229 8 y0)) rfl rfl).trans ?_
  refine (e_iconst (code := kX3_begin) (pc := 20) (σ := (a_setI σ 229 8 y0)) rfl).trans ?_
  exact (e_callS (code := kX3_begin) (pc := 21) (len := 3) (k := 140) (n := 2) (as := [.int x2, .int (nI 2)]) (st0 := [.ref 229]) rfl rfl rfl rfl)
theorem b_X3_begin_24 {C : aCall} {σ : aSt} {p : Nat} {x2 y0 : Int32} (h : Sh σ) (hp : Pa σ p) : b_R C kX3_begin [] (24, [some (.ref 229), some (.ref p), some (.int x2), none], [.int y0, .ref 229], σ) = b_G C kX3_begin [] 46 49 [some (.ref 229), some (.ref p), some (.int x2), none] [] (C 1006 [.ref 234, .int ((-1))] (a_setI (a_setI (a_setI σ 229 9 y0) 229 6 (a_I (a_setI σ 229 9 y0) p 4)) 229 10 (nI 1000000))) := by
  refine (e_putI (code := kX3_begin) (pc := 24) (c := 5) rfl (sk_229 (σ := σ) h) (h_100 rfl)).trans ?_
  refine (e_aload_n (code := kX3_begin) (pc := 27) (σ := (a_setI σ 229 9 y0)) rfl rfl).trans ?_
  refine (e_aload_n (code := kX3_begin) (pc := 28) (σ := (a_setI σ 229 9 y0)) rfl rfl).trans ?_
  refine (e_getI (code := kX3_begin) (pc := 29) (σ := (a_setI σ 229 9 y0)) (c := 3) rfl hp.1 rfl).trans ?_
  refine (e_putI (code := kX3_begin) (pc := 32) (σ := (a_setI σ 229 9 y0)) (c := 5) rfl (sk_229 (σ := σ) h) (h_100 rfl)).trans ?_
  refine (e_aload_n (code := kX3_begin) (pc := 35) (σ := (a_setI (a_setI σ 229 9 y0) 229 6 (a_I (a_setI σ 229 9 y0) p 4))) rfl rfl).trans ?_
  refine (e_ldcI (code := kX3_begin) (pc := 36) (σ := (a_setI (a_setI σ 229 9 y0) 229 6 (a_I (a_setI σ 229 9 y0) p 4))) rfl).trans ?_
  refine (e_putI (code := kX3_begin) (pc := 38) (σ := (a_setI (a_setI σ 229 9 y0) 229 6 (a_I (a_setI σ 229 9 y0) p 4))) (c := 5) rfl (sk_229 (σ := σ) h) (h_100 rfl)).trans ?_
  refine (e_aload_n (code := kX3_begin) (pc := 41) (σ := (a_setI (a_setI (a_setI σ 229 9 y0) 229 6 (a_I (a_setI σ 229 9 y0) p 4)) 229 10 (nI 1000000))) rfl rfl).trans ?_
  refine (e_getR (code := kX3_begin) (pc := 42) (σ := (a_setI (a_setI (a_setI σ 229 9 y0) 229 6 (a_I (a_setI σ 229 9 y0) p 4)) 229 10 (nI 1000000))) (c := 5) rfl (sk_229 (σ := σ) h) (sr_229_4 (σ := σ) h)).trans ?_
  refine (e_iconst (code := kX3_begin) (pc := 45) (σ := (a_setI (a_setI (a_setI σ 229 9 y0) 229 6 (a_I (a_setI σ 229 9 y0) p 4)) 229 10 (nI 1000000))) rfl).trans ?_
  exact (e_callS (code := kX3_begin) (pc := 46) (len := 3) (k := 1006) (n := 2) (as := [.ref 234, .int ((-1))]) (st0 := []) rfl rfl rfl rfl)
theorem b_X3_begin_49 {C : aCall} {σ : aSt} {p : Nat} {x2 : Int32} (h : Sh σ) : b_R C kX3_begin [] (49, [some (.ref 229), some (.ref p), some (.int x2), none], [], σ) = b_R C kX3_begin [] (56, [some (.ref 229), some (.ref p), some (.int x2), some (.int (nI 0))], [], (a_setI σ 229 5 (nI 0))) := by
  refine (e_aload_n (code := kX3_begin) (pc := 49) rfl rfl).trans ?_
  refine (e_iconst (code := kX3_begin) (pc := 50) rfl).trans ?_
  refine (e_putI (code := kX3_begin) (pc := 51) (c := 5) rfl (sk_229 (σ := σ) h) (h_100 rfl)).trans ?_
  refine (e_iconst (code := kX3_begin) (pc := 54) (σ := (a_setI σ 229 5 (nI 0))) rfl).trans ?_
  refine (e_istore_n (code := kX3_begin) (pc := 55) (σ := (a_setI σ 229 5 (nI 0))) rfl rfl rfl).trans ?_
  rfl
theorem b_X3_begin_56 {C : aCall} {σ : aSt} {p : Nat} {x2 x3 : Int32} (hp : Pa σ p) : b_R C kX3_begin [] (56, [some (.ref 229), some (.ref p), some (.int x2), some (.int x3)], [], σ) = (if x3 < (a_I σ (p + 1) 2) then b_G C kX3_begin [] 69 72 [some (.ref 229), some (.ref p), some (.int x2), some (.int x3)] [] (C 36 [.ref p, .int x3] σ) else some (.inl none, σ)) := by
  refine (e_iload_n (code := kX3_begin) (pc := 56) rfl rfl).trans ?_
  refine (e_aload_n (code := kX3_begin) (pc := 57) rfl rfl).trans ?_
  refine (e_getR (code := kX3_begin) (pc := 58) (c := 3) rfl hp.1 hp.2.2.1).trans ?_
  refine (e_getI (code := kX3_begin) (pc := 61) (c := 6) rfl hp.2.2.2.2.2.2.1.1 rfl).trans ?_
  refine (e_icge (code := kX3_begin) (pc := 64) rfl).trans ?_
  refine b_ite ?_ ?_
  · refine (e_aload_n (code := kX3_begin) (pc := 67) rfl rfl).trans ?_
    refine (e_iload_n (code := kX3_begin) (pc := 68) rfl rfl).trans ?_
    exact (e_callV (σ := σ) (code := kX3_begin) (pc := 69) (len := 3) (k := 36) (n := 2) (c := 13) (as := [.ref p, .int x3]) (st0 := []) rfl rfl rfl rfl rfl hp.1 rfl)
  · exact e_return_ rfl
theorem b_X3_begin_72 {C : aCall} {σ : aSt} {p : Nat} {x2 x3 y0 : Int32} (h : Sh σ) (hp : Pa σ p) : b_R C kX3_begin [] (72, [some (.ref 229), some (.ref p), some (.int x2), some (.int x3)], [.int y0], σ) = (if y0 = 0 then b_R C kX3_begin [] (161, [some (.ref 229), some (.ref p), some (.int x2), some (.int x3)], [], σ) else (if (a_I σ 229 5) < (nI 20) then b_gd (a_in (a_I σ 229 5) 20) (b_G C kX3_begin [] 109 112 [some (.ref 229), some (.ref p), some (.int x2), some (.int x3)] [.int (a_I (a_setI σ 230 (Int32.toNatClampNeg (a_I σ 229 5)) x3) 229 5), .ref 231] (C 1 [.ref (p + 1), .int x3, .int (nI 8)] (a_setI σ 230 (Int32.toNatClampNeg (a_I σ 229 5)) x3))) else b_R C kX3_begin [] (161, [some (.ref 229), some (.ref p), some (.int x2), some (.int x3)], [], σ))) := by
  refine (e_ifeq (code := kX3_begin) (pc := 72) rfl).trans ?_
  refine b_ite ?_ ?_
  · rfl
  · refine (e_aload_n (code := kX3_begin) (pc := 75) rfl rfl).trans ?_
    refine (e_getI (code := kX3_begin) (pc := 76) (c := 5) rfl (sk_229 (σ := σ) h) rfl).trans ?_
    refine (e_bipush (code := kX3_begin) (pc := 79) rfl).trans ?_
    refine (e_icge (code := kX3_begin) (pc := 81) rfl).trans ?_
    refine b_ite ?_ ?_
    · refine (e_aload_n (code := kX3_begin) (pc := 84) rfl rfl).trans ?_
      refine (e_getR (code := kX3_begin) (pc := 85) (c := 5) rfl (sk_229 (σ := σ) h) (sr_229_0 (σ := σ) h)).trans ?_
      refine (e_aload_n (code := kX3_begin) (pc := 88) rfl rfl).trans ?_
      refine (e_getI (code := kX3_begin) (pc := 89) (c := 5) rfl (sk_229 (σ := σ) h) rfl).trans ?_
      refine (e_iload_n (code := kX3_begin) (pc := 92) rfl rfl).trans ?_
      refine (e_iastore (code := kX3_begin) (pc := 93) rfl (sk_230 (σ := σ) h) (h_100 rfl) (sl_230 (σ := σ) h)).trans ?_
      refine b_gd_c ?_
      refine (e_aload_n (code := kX3_begin) (pc := 94) (σ := (a_setI σ 230 (Int32.toNatClampNeg (a_I σ 229 5)) x3)) rfl rfl).trans ?_
      refine (e_getR (code := kX3_begin) (pc := 95) (σ := (a_setI σ 230 (Int32.toNatClampNeg (a_I σ 229 5)) x3)) (c := 5) rfl (sk_229 (σ := σ) h) (sr_229_1 (σ := σ) h)).trans ?_
      refine (e_aload_n (code := kX3_begin) (pc := 98) (σ := (a_setI σ 230 (Int32.toNatClampNeg (a_I σ 229 5)) x3)) rfl rfl).trans ?_
      refine (e_getI (code := kX3_begin) (pc := 99) (σ := (a_setI σ 230 (Int32.toNatClampNeg (a_I σ 229 5)) x3)) (c := 5) rfl (sk_229 (σ := σ) h) rfl).trans ?_
      refine (e_aload_n (code := kX3_begin) (pc := 102) (σ := (a_setI σ 230 (Int32.toNatClampNeg (a_I σ 229 5)) x3)) rfl rfl).trans ?_
      refine (e_getR (code := kX3_begin) (pc := 103) (σ := (a_setI σ 230 (Int32.toNatClampNeg (a_I σ 229 5)) x3)) (c := 3) rfl hp.1 hp.2.2.1).trans ?_
      refine (e_iload_n (code := kX3_begin) (pc := 106) (σ := (a_setI σ 230 (Int32.toNatClampNeg (a_I σ 229 5)) x3)) rfl rfl).trans ?_
      refine (e_bipush (code := kX3_begin) (pc := 107) (σ := (a_setI σ 230 (Int32.toNatClampNeg (a_I σ 229 5)) x3)) rfl).trans ?_
      exact (e_callV (σ := (a_setI σ 230 (Int32.toNatClampNeg (a_I σ 229 5)) x3)) (code := kX3_begin) (pc := 109) (len := 3) (k := 1) (n := 3) (c := 16) (as := [.ref (p + 1), .int x3, .int (nI 8)]) (st0 := [.int (a_I (a_setI σ 230 (Int32.toNatClampNeg (a_I σ 229 5)) x3) 229 5), .ref 231]) rfl rfl rfl rfl rfl hp.2.2.2.2.2.2.1.1 rfl)
    · rfl
theorem b_X3_begin_112 {C : aCall} {σ : aSt} {p : Nat} {x2 x3 y0 y1 : Int32} (h : Sh σ) (hp : Pa σ p) : b_R C kX3_begin [] (112, [some (.ref 229), some (.ref p), some (.int x2), some (.int x3)], [.int y0, .int y1, .ref 231], σ) = b_gd (a_in y1 20) (b_G C kX3_begin [] 128 131 [some (.ref 229), some (.ref p), some (.int x2), some (.int x3)] [.int (a_I (a_setI σ 231 (Int32.toNatClampNeg y1) y0) 229 5), .ref 232] (C 1 [.ref (p + 1), .int x3, .int (nI 9)] (a_setI σ 231 (Int32.toNatClampNeg y1) y0))) := by
  refine (e_iastore (code := kX3_begin) (pc := 112) rfl (sk_231 (σ := σ) h) (h_100 rfl) (sl_231 (σ := σ) h)).trans ?_
  refine b_gd_c ?_
  refine (e_aload_n (code := kX3_begin) (pc := 113) (σ := (a_setI σ 231 (Int32.toNatClampNeg y1) y0)) rfl rfl).trans ?_
  refine (e_getR (code := kX3_begin) (pc := 114) (σ := (a_setI σ 231 (Int32.toNatClampNeg y1) y0)) (c := 5) rfl (sk_229 (σ := σ) h) (sr_229_2 (σ := σ) h)).trans ?_
  refine (e_aload_n (code := kX3_begin) (pc := 117) (σ := (a_setI σ 231 (Int32.toNatClampNeg y1) y0)) rfl rfl).trans ?_
  refine (e_getI (code := kX3_begin) (pc := 118) (σ := (a_setI σ 231 (Int32.toNatClampNeg y1) y0)) (c := 5) rfl (sk_229 (σ := σ) h) rfl).trans ?_
  refine (e_aload_n (code := kX3_begin) (pc := 121) (σ := (a_setI σ 231 (Int32.toNatClampNeg y1) y0)) rfl rfl).trans ?_
  refine (e_getR (code := kX3_begin) (pc := 122) (σ := (a_setI σ 231 (Int32.toNatClampNeg y1) y0)) (c := 3) rfl hp.1 hp.2.2.1).trans ?_
  refine (e_iload_n (code := kX3_begin) (pc := 125) (σ := (a_setI σ 231 (Int32.toNatClampNeg y1) y0)) rfl rfl).trans ?_
  refine (e_bipush (code := kX3_begin) (pc := 126) (σ := (a_setI σ 231 (Int32.toNatClampNeg y1) y0)) rfl).trans ?_
  exact (e_callV (σ := (a_setI σ 231 (Int32.toNatClampNeg y1) y0)) (code := kX3_begin) (pc := 128) (len := 3) (k := 1) (n := 3) (c := 16) (as := [.ref (p + 1), .int x3, .int (nI 9)]) (st0 := [.int (a_I (a_setI σ 231 (Int32.toNatClampNeg y1) y0) 229 5), .ref 232]) rfl rfl rfl rfl rfl hp.2.2.2.2.2.2.1.1 rfl)
theorem b_X3_begin_131 {C : aCall} {σ : aSt} {p : Nat} {x2 x3 y0 y1 : Int32} (h : Sh σ) (hp : Pa σ p) : b_R C kX3_begin [] (131, [some (.ref 229), some (.ref p), some (.int x2), some (.int x3)], [.int y0, .int y1, .ref 232], σ) = b_gd (a_in y1 20) (b_G C kX3_begin [] 147 150 [some (.ref 229), some (.ref p), some (.int x2), some (.int x3)] [.int (a_I (a_setI σ 232 (Int32.toNatClampNeg y1) y0) 229 5), .ref 233] (C 1 [.ref (p + 1), .int x3, .int (nI 10)] (a_setI σ 232 (Int32.toNatClampNeg y1) y0))) := by
  refine (e_iastore (code := kX3_begin) (pc := 131) rfl (sk_232 (σ := σ) h) (h_100 rfl) (sl_232 (σ := σ) h)).trans ?_
  refine b_gd_c ?_
  refine (e_aload_n (code := kX3_begin) (pc := 132) (σ := (a_setI σ 232 (Int32.toNatClampNeg y1) y0)) rfl rfl).trans ?_
  refine (e_getR (code := kX3_begin) (pc := 133) (σ := (a_setI σ 232 (Int32.toNatClampNeg y1) y0)) (c := 5) rfl (sk_229 (σ := σ) h) (sr_229_3 (σ := σ) h)).trans ?_
  refine (e_aload_n (code := kX3_begin) (pc := 136) (σ := (a_setI σ 232 (Int32.toNatClampNeg y1) y0)) rfl rfl).trans ?_
  refine (e_getI (code := kX3_begin) (pc := 137) (σ := (a_setI σ 232 (Int32.toNatClampNeg y1) y0)) (c := 5) rfl (sk_229 (σ := σ) h) rfl).trans ?_
  refine (e_aload_n (code := kX3_begin) (pc := 140) (σ := (a_setI σ 232 (Int32.toNatClampNeg y1) y0)) rfl rfl).trans ?_
  refine (e_getR (code := kX3_begin) (pc := 141) (σ := (a_setI σ 232 (Int32.toNatClampNeg y1) y0)) (c := 3) rfl hp.1 hp.2.2.1).trans ?_
  refine (e_iload_n (code := kX3_begin) (pc := 144) (σ := (a_setI σ 232 (Int32.toNatClampNeg y1) y0)) rfl rfl).trans ?_
  refine (e_bipush (code := kX3_begin) (pc := 145) (σ := (a_setI σ 232 (Int32.toNatClampNeg y1) y0)) rfl).trans ?_
  exact (e_callV (σ := (a_setI σ 232 (Int32.toNatClampNeg y1) y0)) (code := kX3_begin) (pc := 147) (len := 3) (k := 1) (n := 3) (c := 16) (as := [.ref (p + 1), .int x3, .int (nI 10)]) (st0 := [.int (a_I (a_setI σ 232 (Int32.toNatClampNeg y1) y0) 229 5), .ref 233]) rfl rfl rfl rfl rfl hp.2.2.2.2.2.2.1.1 rfl)
theorem b_X3_begin_150 {C : aCall} {σ : aSt} {p : Nat} {x2 x3 y0 y1 : Int32} (h : Sh σ) : b_R C kX3_begin [] (150, [some (.ref 229), some (.ref p), some (.int x2), some (.int x3)], [.int y0, .int y1, .ref 233], σ) = b_gd (a_in y1 20) (b_R C kX3_begin [] (161, [some (.ref 229), some (.ref p), some (.int x2), some (.int x3)], [], (a_setI (a_setI σ 233 (Int32.toNatClampNeg y1) y0) 229 5 ((a_I (a_setI σ 233 (Int32.toNatClampNeg y1) y0) 229 5) + (nI 1))))) := by
  refine (e_iastore (code := kX3_begin) (pc := 150) rfl (sk_233 (σ := σ) h) (h_100 rfl) (sl_233 (σ := σ) h)).trans ?_
  refine b_gd_c ?_
  refine (e_aload_n (code := kX3_begin) (pc := 151) (σ := (a_setI σ 233 (Int32.toNatClampNeg y1) y0)) rfl rfl).trans ?_
  refine (e_dup (code := kX3_begin) (pc := 152) (σ := (a_setI σ 233 (Int32.toNatClampNeg y1) y0)) rfl rfl).trans ?_
  refine (e_getI (code := kX3_begin) (pc := 153) (σ := (a_setI σ 233 (Int32.toNatClampNeg y1) y0)) (c := 5) rfl (sk_229 (σ := σ) h) rfl).trans ?_
  refine (e_iconst (code := kX3_begin) (pc := 156) (σ := (a_setI σ 233 (Int32.toNatClampNeg y1) y0)) rfl).trans ?_
  refine (e_iadd (code := kX3_begin) (pc := 157) (σ := (a_setI σ 233 (Int32.toNatClampNeg y1) y0)) rfl).trans ?_
  refine (e_putI (code := kX3_begin) (pc := 158) (σ := (a_setI σ 233 (Int32.toNatClampNeg y1) y0)) (c := 5) rfl (sk_229 (σ := σ) h) (h_100 rfl)).trans ?_
  rfl
theorem b_X3_begin_161 {C : aCall} {σ : aSt} {p : Nat} {x2 x3 : Int32} : b_R C kX3_begin [] (161, [some (.ref 229), some (.ref p), some (.int x2), some (.int x3)], [], σ) = b_R C kX3_begin [] (56, [some (.ref 229), some (.ref p), some (.int x2), some (.int (x3 + nI 1))], [], σ) := by
  refine (e_iinc (code := kX3_begin) (pc := 161) rfl rfl rfl rfl).trans ?_
  refine (e_goto (code := kX3_begin) (pc := 164) rfl).trans ?_
  rfl
theorem n_X3_tryAllOf {P : aCall} {d : Nat} {σ : aSt} {x1 : Int32} (hd : 1 ≤ d) : a_call a_tab P d 60 [.ref 229, .int x1] σ = b_R (a_call a_tab P (d - 1)) kX3_tryAllOf [] (0, [some (.ref 229), some (.int x1), none, none], [], σ) := e_call hd at_X3_tryAllOf rfl
theorem b_X3_tryAllOf_0 {C : aCall} {σ : aSt} {x1 : Int32} : b_R C kX3_tryAllOf [] (0, [some (.ref 229), some (.int x1), none, none], [], σ) = b_R C kX3_tryAllOf [] (2, [some (.ref 229), some (.int x1), some (.int x1), none], [], σ) := by
  refine (e_iload_n (code := kX3_tryAllOf) (pc := 0) rfl rfl).trans ?_
  refine (e_istore_n (code := kX3_tryAllOf) (pc := 1) rfl rfl rfl).trans ?_
  rfl
theorem b_X3_tryAllOf_2 {C : aCall} {σ : aSt} {x1 x2 : Int32} {o3 : Option Value} (h : Sh σ) : b_R C kX3_tryAllOf [] (2, [some (.ref 229), some (.int x1), some (.int x2), o3], [], σ) = (if (a_I σ 229 6) < x2 then b_R C kX3_tryAllOf [] (77, [some (.ref 229), some (.int x1), some (.int x2), o3], [], σ) else (if 0 < (a_I σ 229 10) then b_R C kX3_tryAllOf [] (19, [some (.ref 229), some (.int x1), some (.int x2), some (.int (nI 0))], [], σ) else b_R C kX3_tryAllOf [] (77, [some (.ref 229), some (.int x1), some (.int x2), o3], [], σ))) := by
  refine (e_iload_n (code := kX3_tryAllOf) (pc := 2) rfl rfl).trans ?_
  refine (e_aload_n (code := kX3_tryAllOf) (pc := 3) rfl rfl).trans ?_
  refine (e_getI (code := kX3_tryAllOf) (pc := 4) (c := 5) rfl (sk_229 (σ := σ) h) rfl).trans ?_
  refine (e_icgt (code := kX3_tryAllOf) (pc := 7) rfl).trans ?_
  refine b_ite ?_ ?_
  · rfl
  · refine (e_aload_n (code := kX3_tryAllOf) (pc := 10) rfl rfl).trans ?_
    refine (e_getI (code := kX3_tryAllOf) (pc := 11) (c := 5) rfl (sk_229 (σ := σ) h) rfl).trans ?_
    refine (e_ifle (code := kX3_tryAllOf) (pc := 14) rfl).trans ?_
    refine b_ite ?_ ?_
    · refine (e_iconst (code := kX3_tryAllOf) (pc := 17) rfl).trans ?_
      refine (e_istore_n (code := kX3_tryAllOf) (pc := 18) rfl rfl rfl).trans ?_
      rfl
    · rfl
theorem b_X3_tryAllOf_19 {C : aCall} {σ : aSt} {x1 x2 x3 : Int32} (h : Sh σ) : b_R C kX3_tryAllOf [] (19, [some (.ref 229), some (.int x1), some (.int x2), some (.int x3)], [], σ) = (if x3 < (a_I σ 229 5) then (if x1 = (nI 1) then b_G C kX3_tryAllOf [] 39 42 [some (.ref 229), some (.int x1), some (.int x2), some (.int x3)] [] (C 63 [.ref 229, .int x3, .int x3, .int x3, .int x2, .int (nI 0), .int (nI 0)] σ) else (if x1 = (nI 2) then b_G C kX3_tryAllOf [] 53 56 [some (.ref 229), some (.int x1), some (.int x2), some (.int x3)] [] (C 61 [.ref 229, .int x3, .int x2] σ) else b_G C kX3_tryAllOf [] 62 65 [some (.ref 229), some (.int x1), some (.int x2), some (.int x3)] [] (C 62 [.ref 229, .int x3, .int x2] σ))) else b_R C kX3_tryAllOf [] (2, [some (.ref 229), some (.int x1), some (.int (x2 + nI 1)), some (.int x3)], [], σ)) := by
  refine (e_iload_n (code := kX3_tryAllOf) (pc := 19) rfl rfl).trans ?_
  refine (e_aload_n (code := kX3_tryAllOf) (pc := 20) rfl rfl).trans ?_
  refine (e_getI (code := kX3_tryAllOf) (pc := 21) (c := 5) rfl (sk_229 (σ := σ) h) rfl).trans ?_
  refine (e_icge (code := kX3_tryAllOf) (pc := 24) rfl).trans ?_
  refine b_ite ?_ ?_
  · refine (e_iload_n (code := kX3_tryAllOf) (pc := 27) rfl rfl).trans ?_
    refine (e_iconst (code := kX3_tryAllOf) (pc := 28) rfl).trans ?_
    refine (e_icne (code := kX3_tryAllOf) (pc := 29) rfl).trans ?_
    refine b_ite ?_ ?_
    · refine (e_aload_n (code := kX3_tryAllOf) (pc := 32) rfl rfl).trans ?_
      refine (e_iload_n (code := kX3_tryAllOf) (pc := 33) rfl rfl).trans ?_
      refine (e_iload_n (code := kX3_tryAllOf) (pc := 34) rfl rfl).trans ?_
      refine (e_iload_n (code := kX3_tryAllOf) (pc := 35) rfl rfl).trans ?_
      refine (e_iload_n (code := kX3_tryAllOf) (pc := 36) rfl rfl).trans ?_
      refine (e_iconst (code := kX3_tryAllOf) (pc := 37) rfl).trans ?_
      refine (e_iconst (code := kX3_tryAllOf) (pc := 38) rfl).trans ?_
      exact (e_callV (σ := σ) (code := kX3_tryAllOf) (pc := 39) (len := 3) (k := 63) (n := 7) (c := 15) (as := [.ref 229, .int x3, .int x3, .int x3, .int x2, .int (nI 0), .int (nI 0)]) (st0 := []) rfl rfl rfl rfl rfl (sk_229 (σ := σ) h) rfl)
    · refine (e_iload_n (code := kX3_tryAllOf) (pc := 45) rfl rfl).trans ?_
      refine (e_iconst (code := kX3_tryAllOf) (pc := 46) rfl).trans ?_
      refine (e_icne (code := kX3_tryAllOf) (pc := 47) rfl).trans ?_
      refine b_ite ?_ ?_
      · refine (e_aload_n (code := kX3_tryAllOf) (pc := 50) rfl rfl).trans ?_
        refine (e_iload_n (code := kX3_tryAllOf) (pc := 51) rfl rfl).trans ?_
        refine (e_iload_n (code := kX3_tryAllOf) (pc := 52) rfl rfl).trans ?_
        exact (e_callV (σ := σ) (code := kX3_tryAllOf) (pc := 53) (len := 3) (k := 61) (n := 3) (c := 15) (as := [.ref 229, .int x3, .int x2]) (st0 := []) rfl rfl rfl rfl rfl (sk_229 (σ := σ) h) rfl)
      · refine (e_aload_n (code := kX3_tryAllOf) (pc := 59) rfl rfl).trans ?_
        refine (e_iload_n (code := kX3_tryAllOf) (pc := 60) rfl rfl).trans ?_
        refine (e_iload_n (code := kX3_tryAllOf) (pc := 61) rfl rfl).trans ?_
        exact (e_callV (σ := σ) (code := kX3_tryAllOf) (pc := 62) (len := 3) (k := 62) (n := 3) (c := 15) (as := [.ref 229, .int x3, .int x2]) (st0 := []) rfl rfl rfl rfl rfl (sk_229 (σ := σ) h) rfl)
  · refine (e_iinc (code := kX3_tryAllOf) (pc := 71) rfl rfl rfl rfl).trans ?_
    refine (e_goto (code := kX3_tryAllOf) (pc := 74) rfl).trans ?_
    rfl
theorem b_X3_tryAllOf_42 {C : aCall} {σ : aSt} {x1 x2 x3 : Int32} : b_R C kX3_tryAllOf [] (42, [some (.ref 229), some (.int x1), some (.int x2), some (.int x3)], [], σ) = b_R C kX3_tryAllOf [] (65, [some (.ref 229), some (.int x1), some (.int x2), some (.int x3)], [], σ) := by
  refine (e_goto (code := kX3_tryAllOf) (pc := 42) rfl).trans ?_
  rfl
theorem b_X3_tryAllOf_56 {C : aCall} {σ : aSt} {x1 x2 x3 : Int32} : b_R C kX3_tryAllOf [] (56, [some (.ref 229), some (.int x1), some (.int x2), some (.int x3)], [], σ) = b_R C kX3_tryAllOf [] (65, [some (.ref 229), some (.int x1), some (.int x2), some (.int x3)], [], σ) := by
  refine (e_goto (code := kX3_tryAllOf) (pc := 56) rfl).trans ?_
  rfl
theorem b_X3_tryAllOf_65 {C : aCall} {σ : aSt} {x1 x2 x3 : Int32} : b_R C kX3_tryAllOf [] (65, [some (.ref 229), some (.int x1), some (.int x2), some (.int x3)], [], σ) = b_R C kX3_tryAllOf [] (19, [some (.ref 229), some (.int x1), some (.int x2), some (.int (x3 + nI 1))], [], σ) := by
  refine (e_iinc (code := kX3_tryAllOf) (pc := 65) rfl rfl rfl rfl).trans ?_
  refine (e_goto (code := kX3_tryAllOf) (pc := 68) rfl).trans ?_
  rfl
theorem b_X3_tryAllOf_77 {C : aCall} {σ : aSt} {x1 x2 : Int32} {o3 : Option Value} : b_R C kX3_tryAllOf [] (77, [some (.ref 229), some (.int x1), some (.int x2), o3], [], σ) = some (.inl none, σ) := by
  exact e_return_ rfl
theorem n_X3_tryPairs {P : aCall} {d : Nat} {σ : aSt} {x1 x2 : Int32} (hd : 1 ≤ d) : a_call a_tab P d 61 [.ref 229, .int x1, .int x2] σ = b_R (a_call a_tab P (d - 1)) kX3_tryPairs [] (0, [some (.ref 229), some (.int x1), some (.int x2), none, none], [], σ) := e_call hd at_X3_tryPairs rfl
theorem b_X3_tryPairs_0 {C : aCall} {σ : aSt} {x1 x2 : Int32} : b_R C kX3_tryPairs [] (0, [some (.ref 229), some (.int x1), some (.int x2), none, none], [], σ) = b_R C kX3_tryPairs [] (4, [some (.ref 229), some (.int x1), some (.int x2), some (.int (x1 + (nI 1))), none], [], σ) := by
  refine (e_iload_n (code := kX3_tryPairs) (pc := 0) rfl rfl).trans ?_
  refine (e_iconst (code := kX3_tryPairs) (pc := 1) rfl).trans ?_
  refine (e_iadd (code := kX3_tryPairs) (pc := 2) rfl).trans ?_
  refine (e_istore_n (code := kX3_tryPairs) (pc := 3) rfl rfl rfl).trans ?_
  rfl
theorem b_X3_tryPairs_4 {C : aCall} {σ : aSt} {x1 x2 x3 : Int32} {o4 : Option Value} (h : Sh σ) : b_R C kX3_tryPairs [] (4, [some (.ref 229), some (.int x1), some (.int x2), some (.int x3), o4], [], σ) = (if x3 < (a_I σ 229 5) then b_R C kX3_tryPairs [] (15, [some (.ref 229), some (.int x1), some (.int x2), some (.int x3), some (.int (nI 1))], [], σ) else some (.inl none, σ)) := by
  refine (e_iload_n (code := kX3_tryPairs) (pc := 4) rfl rfl).trans ?_
  refine (e_aload_n (code := kX3_tryPairs) (pc := 5) rfl rfl).trans ?_
  refine (e_getI (code := kX3_tryPairs) (pc := 6) (c := 5) rfl (sk_229 (σ := σ) h) rfl).trans ?_
  refine (e_icge (code := kX3_tryPairs) (pc := 9) rfl).trans ?_
  refine b_ite ?_ ?_
  · refine (e_iconst (code := kX3_tryPairs) (pc := 12) rfl).trans ?_
    refine (e_istore (code := kX3_tryPairs) (pc := 13) rfl rfl rfl).trans ?_
    rfl
  · exact e_return_ rfl
theorem b_X3_tryPairs_15 {C : aCall} {σ : aSt} {x1 x2 x3 x4 : Int32} (h : Sh σ) : b_R C kX3_tryPairs [] (15, [some (.ref 229), some (.int x1), some (.int x2), some (.int x3), some (.int x4)], [], σ) = (if x4 < x2 then b_G C kX3_tryPairs [] 32 35 [some (.ref 229), some (.int x1), some (.int x2), some (.int x3), some (.int x4)] [] (C 63 [.ref 229, .int x1, .int x3, .int x3, .int x4, .int (x2 - x4), .int (nI 0)] σ) else b_R C kX3_tryPairs [] (4, [some (.ref 229), some (.int x1), some (.int x2), some (.int (x3 + nI 1)), some (.int x4)], [], σ)) := by
  refine (e_iload (code := kX3_tryPairs) (pc := 15) rfl rfl).trans ?_
  refine (e_iload_n (code := kX3_tryPairs) (pc := 17) rfl rfl).trans ?_
  refine (e_icge (code := kX3_tryPairs) (pc := 18) rfl).trans ?_
  refine b_ite ?_ ?_
  · refine (e_aload_n (code := kX3_tryPairs) (pc := 21) rfl rfl).trans ?_
    refine (e_iload_n (code := kX3_tryPairs) (pc := 22) rfl rfl).trans ?_
    refine (e_iload_n (code := kX3_tryPairs) (pc := 23) rfl rfl).trans ?_
    refine (e_iload_n (code := kX3_tryPairs) (pc := 24) rfl rfl).trans ?_
    refine (e_iload (code := kX3_tryPairs) (pc := 25) rfl rfl).trans ?_
    refine (e_iload_n (code := kX3_tryPairs) (pc := 27) rfl rfl).trans ?_
    refine (e_iload (code := kX3_tryPairs) (pc := 28) rfl rfl).trans ?_
    refine (e_isub (code := kX3_tryPairs) (pc := 30) rfl).trans ?_
    refine (e_iconst (code := kX3_tryPairs) (pc := 31) rfl).trans ?_
    exact (e_callV (σ := σ) (code := kX3_tryPairs) (pc := 32) (len := 3) (k := 63) (n := 7) (c := 15) (as := [.ref 229, .int x1, .int x3, .int x3, .int x4, .int (x2 - x4), .int (nI 0)]) (st0 := []) rfl rfl rfl rfl rfl (sk_229 (σ := σ) h) rfl)
  · refine (e_iinc (code := kX3_tryPairs) (pc := 41) rfl rfl rfl rfl).trans ?_
    refine (e_goto (code := kX3_tryPairs) (pc := 44) rfl).trans ?_
    rfl
theorem b_X3_tryPairs_35 {C : aCall} {σ : aSt} {x1 x2 x3 x4 : Int32} : b_R C kX3_tryPairs [] (35, [some (.ref 229), some (.int x1), some (.int x2), some (.int x3), some (.int x4)], [], σ) = b_R C kX3_tryPairs [] (15, [some (.ref 229), some (.int x1), some (.int x2), some (.int x3), some (.int (x4 + nI 1))], [], σ) := by
  refine (e_iinc (code := kX3_tryPairs) (pc := 35) rfl rfl rfl rfl).trans ?_
  refine (e_goto (code := kX3_tryPairs) (pc := 38) rfl).trans ?_
  rfl
theorem n_X3_tryTriples {P : aCall} {d : Nat} {σ : aSt} {x1 x2 : Int32} (hd : 1 ≤ d) : a_call a_tab P d 62 [.ref 229, .int x1, .int x2] σ = b_R (a_call a_tab P (d - 1)) kX3_tryTriples [] (0, [some (.ref 229), some (.int x1), some (.int x2), none, none, none, none], [], σ) := e_call hd at_X3_tryTriples rfl
theorem b_X3_tryTriples_0 {C : aCall} {σ : aSt} {x1 x2 : Int32} : b_R C kX3_tryTriples [] (0, [some (.ref 229), some (.int x1), some (.int x2), none, none, none, none], [], σ) = b_R C kX3_tryTriples [] (4, [some (.ref 229), some (.int x1), some (.int x2), some (.int (x1 + (nI 1))), none, none, none], [], σ) := by
  refine (e_iload_n (code := kX3_tryTriples) (pc := 0) rfl rfl).trans ?_
  refine (e_iconst (code := kX3_tryTriples) (pc := 1) rfl).trans ?_
  refine (e_iadd (code := kX3_tryTriples) (pc := 2) rfl).trans ?_
  refine (e_istore_n (code := kX3_tryTriples) (pc := 3) rfl rfl rfl).trans ?_
  rfl
theorem b_X3_tryTriples_4 {C : aCall} {σ : aSt} {x1 x2 x3 : Int32} {o4 o5 o6 : Option Value} (h : Sh σ) : b_R C kX3_tryTriples [] (4, [some (.ref 229), some (.int x1), some (.int x2), some (.int x3), o4, o5, o6], [], σ) = (if x3 < (a_I σ 229 5) then b_R C kX3_tryTriples [] (17, [some (.ref 229), some (.int x1), some (.int x2), some (.int x3), some (.int (x3 + (nI 1))), o5, o6], [], σ) else some (.inl none, σ)) := by
  refine (e_iload_n (code := kX3_tryTriples) (pc := 4) rfl rfl).trans ?_
  refine (e_aload_n (code := kX3_tryTriples) (pc := 5) rfl rfl).trans ?_
  refine (e_getI (code := kX3_tryTriples) (pc := 6) (c := 5) rfl (sk_229 (σ := σ) h) rfl).trans ?_
  refine (e_icge (code := kX3_tryTriples) (pc := 9) rfl).trans ?_
  refine b_ite ?_ ?_
  · refine (e_iload_n (code := kX3_tryTriples) (pc := 12) rfl rfl).trans ?_
    refine (e_iconst (code := kX3_tryTriples) (pc := 13) rfl).trans ?_
    refine (e_iadd (code := kX3_tryTriples) (pc := 14) rfl).trans ?_
    refine (e_istore (code := kX3_tryTriples) (pc := 15) rfl rfl rfl).trans ?_
    rfl
  · exact e_return_ rfl
theorem b_X3_tryTriples_17 {C : aCall} {σ : aSt} {x1 x2 x3 x4 : Int32} {o5 o6 : Option Value} (h : Sh σ) : b_R C kX3_tryTriples [] (17, [some (.ref 229), some (.int x1), some (.int x2), some (.int x3), some (.int x4), o5, o6], [], σ) = (if x4 < (a_I σ 229 5) then b_R C kX3_tryTriples [] (29, [some (.ref 229), some (.int x1), some (.int x2), some (.int x3), some (.int x4), some (.int (nI 1)), o6], [], σ) else b_R C kX3_tryTriples [] (4, [some (.ref 229), some (.int x1), some (.int x2), some (.int (x3 + nI 1)), some (.int x4), o5, o6], [], σ)) := by
  refine (e_iload (code := kX3_tryTriples) (pc := 17) rfl rfl).trans ?_
  refine (e_aload_n (code := kX3_tryTriples) (pc := 19) rfl rfl).trans ?_
  refine (e_getI (code := kX3_tryTriples) (pc := 20) (c := 5) rfl (sk_229 (σ := σ) h) rfl).trans ?_
  refine (e_icge (code := kX3_tryTriples) (pc := 23) rfl).trans ?_
  refine b_ite ?_ ?_
  · refine (e_iconst (code := kX3_tryTriples) (pc := 26) rfl).trans ?_
    refine (e_istore (code := kX3_tryTriples) (pc := 27) rfl rfl rfl).trans ?_
    rfl
  · refine (e_iinc (code := kX3_tryTriples) (pc := 84) rfl rfl rfl rfl).trans ?_
    refine (e_goto (code := kX3_tryTriples) (pc := 87) rfl).trans ?_
    rfl
theorem b_X3_tryTriples_29 {C : aCall} {σ : aSt} {x1 x2 x3 x4 x5 : Int32} {o6 : Option Value} : b_R C kX3_tryTriples [] (29, [some (.ref 229), some (.int x1), some (.int x2), some (.int x3), some (.int x4), some (.int x5), o6], [], σ) = (if x5 < x2 then b_R C kX3_tryTriples [] (38, [some (.ref 229), some (.int x1), some (.int x2), some (.int x3), some (.int x4), some (.int x5), some (.int (nI 1))], [], σ) else b_R C kX3_tryTriples [] (17, [some (.ref 229), some (.int x1), some (.int x2), some (.int x3), some (.int (x4 + nI 1)), some (.int x5), o6], [], σ)) := by
  refine (e_iload (code := kX3_tryTriples) (pc := 29) rfl rfl).trans ?_
  refine (e_iload_n (code := kX3_tryTriples) (pc := 31) rfl rfl).trans ?_
  refine (e_icge (code := kX3_tryTriples) (pc := 32) rfl).trans ?_
  refine b_ite ?_ ?_
  · refine (e_iconst (code := kX3_tryTriples) (pc := 35) rfl).trans ?_
    refine (e_istore (code := kX3_tryTriples) (pc := 36) rfl rfl rfl).trans ?_
    rfl
  · refine (e_iinc (code := kX3_tryTriples) (pc := 78) rfl rfl rfl rfl).trans ?_
    refine (e_goto (code := kX3_tryTriples) (pc := 81) rfl).trans ?_
    rfl
theorem b_X3_tryTriples_38 {C : aCall} {σ : aSt} {x1 x2 x3 x4 x5 x6 : Int32} (h : Sh σ) : b_R C kX3_tryTriples [] (38, [some (.ref 229), some (.int x1), some (.int x2), some (.int x3), some (.int x4), some (.int x5), some (.int x6)], [], σ) = (if x6 < (x2 - x5) then b_G C kX3_tryTriples [] 63 66 [some (.ref 229), some (.int x1), some (.int x2), some (.int x3), some (.int x4), some (.int x5), some (.int x6)] [] (C 63 [.ref 229, .int x1, .int x3, .int x4, .int x5, .int x6, .int ((x2 - x5) - x6)] σ) else b_R C kX3_tryTriples [] (29, [some (.ref 229), some (.int x1), some (.int x2), some (.int x3), some (.int x4), some (.int (x5 + nI 1)), some (.int x6)], [], σ)) := by
  refine (e_iload (code := kX3_tryTriples) (pc := 38) rfl rfl).trans ?_
  refine (e_iload_n (code := kX3_tryTriples) (pc := 40) rfl rfl).trans ?_
  refine (e_iload (code := kX3_tryTriples) (pc := 41) rfl rfl).trans ?_
  refine (e_isub (code := kX3_tryTriples) (pc := 43) rfl).trans ?_
  refine (e_icge (code := kX3_tryTriples) (pc := 44) rfl).trans ?_
  refine b_ite ?_ ?_
  · refine (e_aload_n (code := kX3_tryTriples) (pc := 47) rfl rfl).trans ?_
    refine (e_iload_n (code := kX3_tryTriples) (pc := 48) rfl rfl).trans ?_
    refine (e_iload_n (code := kX3_tryTriples) (pc := 49) rfl rfl).trans ?_
    refine (e_iload (code := kX3_tryTriples) (pc := 50) rfl rfl).trans ?_
    refine (e_iload (code := kX3_tryTriples) (pc := 52) rfl rfl).trans ?_
    refine (e_iload (code := kX3_tryTriples) (pc := 54) rfl rfl).trans ?_
    refine (e_iload_n (code := kX3_tryTriples) (pc := 56) rfl rfl).trans ?_
    refine (e_iload (code := kX3_tryTriples) (pc := 57) rfl rfl).trans ?_
    refine (e_isub (code := kX3_tryTriples) (pc := 59) rfl).trans ?_
    refine (e_iload (code := kX3_tryTriples) (pc := 60) rfl rfl).trans ?_
    refine (e_isub (code := kX3_tryTriples) (pc := 62) rfl).trans ?_
    exact (e_callV (σ := σ) (code := kX3_tryTriples) (pc := 63) (len := 3) (k := 63) (n := 7) (c := 15) (as := [.ref 229, .int x1, .int x3, .int x4, .int x5, .int x6, .int ((x2 - x5) - x6)]) (st0 := []) rfl rfl rfl rfl rfl (sk_229 (σ := σ) h) rfl)
  · refine (e_iinc (code := kX3_tryTriples) (pc := 72) rfl rfl rfl rfl).trans ?_
    refine (e_goto (code := kX3_tryTriples) (pc := 75) rfl).trans ?_
    rfl
theorem b_X3_tryTriples_66 {C : aCall} {σ : aSt} {x1 x2 x3 x4 x5 x6 : Int32} : b_R C kX3_tryTriples [] (66, [some (.ref 229), some (.int x1), some (.int x2), some (.int x3), some (.int x4), some (.int x5), some (.int x6)], [], σ) = b_R C kX3_tryTriples [] (38, [some (.ref 229), some (.int x1), some (.int x2), some (.int x3), some (.int x4), some (.int x5), some (.int (x6 + nI 1))], [], σ) := by
  refine (e_iinc (code := kX3_tryTriples) (pc := 66) rfl rfl rfl rfl).trans ?_
  refine (e_goto (code := kX3_tryTriples) (pc := 69) rfl).trans ?_
  rfl
theorem n_X3_offer {P : aCall} {d : Nat} {σ : aSt} {x1 x2 x3 x4 x5 x6 : Int32} (hd : 1 ≤ d) : a_call a_tab P d 63 [.ref 229, .int x1, .int x2, .int x3, .int x4, .int x5, .int x6] σ = b_R (a_call a_tab P (d - 1)) kX3_offer [] (0, [some (.ref 229), some (.int x1), some (.int x2), some (.int x3), some (.int x4), some (.int x5), some (.int x6), none, none, none, none, none], [], σ) := e_call hd at_X3_offer rfl
theorem b_X3_offer_0 {C : aCall} {σ : aSt} {x1 x2 x3 x4 x5 x6 : Int32} (h : Sh σ) : b_R C kX3_offer [] (0, [some (.ref 229), some (.int x1), some (.int x2), some (.int x3), some (.int x4), some (.int x5), some (.int x6), none, none, none, none, none], [], σ) = (if x1 < 0 then b_R C kX3_offer [] (20, [some (.ref 229), some (.int x1), some (.int x2), some (.int x3), some (.int x4), some (.int x5), some (.int x6), none, none, none, none, none], [], σ) else (if x2 < x1 then b_R C kX3_offer [] (20, [some (.ref 229), some (.int x1), some (.int x2), some (.int x3), some (.int x4), some (.int x5), some (.int x6), none, none, none, none, none], [], σ) else (if x3 < x2 then b_R C kX3_offer [] (20, [some (.ref 229), some (.int x1), some (.int x2), some (.int x3), some (.int x4), some (.int x5), some (.int x6), none, none, none, none, none], [], σ) else (if x3 < (nI 20) then b_gd (a_in x1 20) (b_gd (a_in x2 20) (b_gd (a_in x3 20) (b_G C kX3_offer [] 62 65 [some (.ref 229), some (.int x1), some (.int x2), some (.int x3), some (.int x4), some (.int x5), some (.int x6), some (.int ((x4 + x5) + x6)), none, none, none, none] [] (C 142 [.int (((x4 * (a_I σ 231 (Int32.toNatClampNeg x1))) + (x5 * (a_I σ 231 (Int32.toNatClampNeg x2)))) + (x6 * (a_I σ 231 (Int32.toNatClampNeg x3)))), .int ((x4 + x5) + x6)] σ)))) else b_R C kX3_offer [] (20, [some (.ref 229), some (.int x1), some (.int x2), some (.int x3), some (.int x4), some (.int x5), some (.int x6), none, none, none, none, none], [], σ))))) := by
  refine (e_iload_n (code := kX3_offer) (pc := 0) rfl rfl).trans ?_
  refine (e_iflt (code := kX3_offer) (pc := 1) rfl).trans ?_
  refine b_ite ?_ ?_
  · rfl
  · refine (e_iload_n (code := kX3_offer) (pc := 4) rfl rfl).trans ?_
    refine (e_iload_n (code := kX3_offer) (pc := 5) rfl rfl).trans ?_
    refine (e_iclt (code := kX3_offer) (pc := 6) rfl).trans ?_
    refine b_ite ?_ ?_
    · rfl
    · refine (e_iload_n (code := kX3_offer) (pc := 9) rfl rfl).trans ?_
      refine (e_iload_n (code := kX3_offer) (pc := 10) rfl rfl).trans ?_
      refine (e_iclt (code := kX3_offer) (pc := 11) rfl).trans ?_
      refine b_ite ?_ ?_
      · rfl
      · refine (e_iload_n (code := kX3_offer) (pc := 14) rfl rfl).trans ?_
        refine (e_bipush (code := kX3_offer) (pc := 15) rfl).trans ?_
        refine (e_iclt (code := kX3_offer) (pc := 17) rfl).trans ?_
        refine b_ite ?_ ?_
        · refine (e_iload (code := kX3_offer) (pc := 21) rfl rfl).trans ?_
          refine (e_iload (code := kX3_offer) (pc := 23) rfl rfl).trans ?_
          refine (e_iadd (code := kX3_offer) (pc := 25) rfl).trans ?_
          refine (e_iload (code := kX3_offer) (pc := 26) rfl rfl).trans ?_
          refine (e_iadd (code := kX3_offer) (pc := 28) rfl).trans ?_
          refine (e_istore (code := kX3_offer) (pc := 29) rfl rfl rfl).trans ?_
          refine (e_iload (code := kX3_offer) (pc := 31) rfl rfl).trans ?_
          refine (e_aload_n (code := kX3_offer) (pc := 33) rfl rfl).trans ?_
          refine (e_getR (code := kX3_offer) (pc := 34) (c := 5) rfl (sk_229 (σ := σ) h) (sr_229_1 (σ := σ) h)).trans ?_
          refine (e_iload_n (code := kX3_offer) (pc := 37) rfl rfl).trans ?_
          refine (e_iaload (code := kX3_offer) (pc := 38) rfl (.inl (sk_231 (σ := σ) h)) (sl_231 (σ := σ) h)).trans ?_
          refine b_gd_c ?_
          refine (e_imul (code := kX3_offer) (pc := 39) rfl).trans ?_
          refine (e_iload (code := kX3_offer) (pc := 40) rfl rfl).trans ?_
          refine (e_aload_n (code := kX3_offer) (pc := 42) rfl rfl).trans ?_
          refine (e_getR (code := kX3_offer) (pc := 43) (c := 5) rfl (sk_229 (σ := σ) h) (sr_229_1 (σ := σ) h)).trans ?_
          refine (e_iload_n (code := kX3_offer) (pc := 46) rfl rfl).trans ?_
          refine (e_iaload (code := kX3_offer) (pc := 47) rfl (.inl (sk_231 (σ := σ) h)) (sl_231 (σ := σ) h)).trans ?_
          refine b_gd_c ?_
          refine (e_imul (code := kX3_offer) (pc := 48) rfl).trans ?_
          refine (e_iadd (code := kX3_offer) (pc := 49) rfl).trans ?_
          refine (e_iload (code := kX3_offer) (pc := 50) rfl rfl).trans ?_
          refine (e_aload_n (code := kX3_offer) (pc := 52) rfl rfl).trans ?_
          refine (e_getR (code := kX3_offer) (pc := 53) (c := 5) rfl (sk_229 (σ := σ) h) (sr_229_1 (σ := σ) h)).trans ?_
          refine (e_iload_n (code := kX3_offer) (pc := 56) rfl rfl).trans ?_
          refine (e_iaload (code := kX3_offer) (pc := 57) rfl (.inl (sk_231 (σ := σ) h)) (sl_231 (σ := σ) h)).trans ?_
          refine b_gd_c ?_
          refine (e_imul (code := kX3_offer) (pc := 58) rfl).trans ?_
          refine (e_iadd (code := kX3_offer) (pc := 59) rfl).trans ?_
          refine (e_iload (code := kX3_offer) (pc := 60) rfl rfl).trans ?_
          exact (e_callS (code := kX3_offer) (pc := 62) (len := 3) (k := 142) (n := 2) (as := [.int (((x4 * (a_I σ 231 (Int32.toNatClampNeg x1))) + (x5 * (a_I σ 231 (Int32.toNatClampNeg x2)))) + (x6 * (a_I σ 231 (Int32.toNatClampNeg x3)))), .int ((x4 + x5) + x6)]) (st0 := []) rfl rfl rfl rfl)
        · rfl
theorem b_X3_offer_20 {C : aCall} {σ : aSt} {x1 x2 x3 x4 x5 x6 : Int32} : b_R C kX3_offer [] (20, [some (.ref 229), some (.int x1), some (.int x2), some (.int x3), some (.int x4), some (.int x5), some (.int x6), none, none, none, none, none], [], σ) = some (.inl none, σ) := by
  exact e_return_ rfl
theorem b_X3_offer_65 {C : aCall} {σ : aSt} {x1 x2 x3 x4 x5 x6 x7 y0 : Int32} (h : Sh σ) : b_R C kX3_offer [] (65, [some (.ref 229), some (.int x1), some (.int x2), some (.int x3), some (.int x4), some (.int x5), some (.int x6), some (.int x7), none, none, none, none], [.int y0], σ) = (if (((nI 2) * (y0 - (a_I σ 229 7))) * (y0 - (a_I σ 229 7))) < (a_I σ 229 10) then b_gd (a_in x1 20) (b_gd (a_in x2 20) (b_gd (a_in x3 20) (b_G C kX3_offer [] 127 130 [some (.ref 229), some (.int x1), some (.int x2), some (.int x3), some (.int x4), some (.int x5), some (.int x6), some (.int x7), some (.int y0), some (.int (((nI 2) * (y0 - (a_I σ 229 7))) * (y0 - (a_I σ 229 7)))), none, none] [] (C 142 [.int (((x4 * (a_I σ 232 (Int32.toNatClampNeg x1))) + (x5 * (a_I σ 232 (Int32.toNatClampNeg x2)))) + (x6 * (a_I σ 232 (Int32.toNatClampNeg x3)))), .int x7] σ)))) else some (.inl none, σ)) := by
  refine (e_istore (code := kX3_offer) (pc := 65) rfl rfl rfl).trans ?_
  refine (e_iconst (code := kX3_offer) (pc := 67) rfl).trans ?_
  refine (e_iload (code := kX3_offer) (pc := 68) rfl rfl).trans ?_
  refine (e_aload_n (code := kX3_offer) (pc := 70) rfl rfl).trans ?_
  refine (e_getI (code := kX3_offer) (pc := 71) (c := 5) rfl (sk_229 (σ := σ) h) rfl).trans ?_
  refine (e_isub (code := kX3_offer) (pc := 74) rfl).trans ?_
  refine (e_imul (code := kX3_offer) (pc := 75) rfl).trans ?_
  refine (e_iload (code := kX3_offer) (pc := 76) rfl rfl).trans ?_
  refine (e_aload_n (code := kX3_offer) (pc := 78) rfl rfl).trans ?_
  refine (e_getI (code := kX3_offer) (pc := 79) (c := 5) rfl (sk_229 (σ := σ) h) rfl).trans ?_
  refine (e_isub (code := kX3_offer) (pc := 82) rfl).trans ?_
  refine (e_imul (code := kX3_offer) (pc := 83) rfl).trans ?_
  refine (e_istore (code := kX3_offer) (pc := 84) rfl rfl rfl).trans ?_
  refine (e_iload (code := kX3_offer) (pc := 86) rfl rfl).trans ?_
  refine (e_aload_n (code := kX3_offer) (pc := 88) rfl rfl).trans ?_
  refine (e_getI (code := kX3_offer) (pc := 89) (c := 5) rfl (sk_229 (σ := σ) h) rfl).trans ?_
  refine (e_iclt (code := kX3_offer) (pc := 92) rfl).trans ?_
  refine b_ite ?_ ?_
  · refine (e_iload (code := kX3_offer) (pc := 96) rfl rfl).trans ?_
    refine (e_aload_n (code := kX3_offer) (pc := 98) rfl rfl).trans ?_
    refine (e_getR (code := kX3_offer) (pc := 99) (c := 5) rfl (sk_229 (σ := σ) h) (sr_229_2 (σ := σ) h)).trans ?_
    refine (e_iload_n (code := kX3_offer) (pc := 102) rfl rfl).trans ?_
    refine (e_iaload (code := kX3_offer) (pc := 103) rfl (.inl (sk_232 (σ := σ) h)) (sl_232 (σ := σ) h)).trans ?_
    refine b_gd_c ?_
    refine (e_imul (code := kX3_offer) (pc := 104) rfl).trans ?_
    refine (e_iload (code := kX3_offer) (pc := 105) rfl rfl).trans ?_
    refine (e_aload_n (code := kX3_offer) (pc := 107) rfl rfl).trans ?_
    refine (e_getR (code := kX3_offer) (pc := 108) (c := 5) rfl (sk_229 (σ := σ) h) (sr_229_2 (σ := σ) h)).trans ?_
    refine (e_iload_n (code := kX3_offer) (pc := 111) rfl rfl).trans ?_
    refine (e_iaload (code := kX3_offer) (pc := 112) rfl (.inl (sk_232 (σ := σ) h)) (sl_232 (σ := σ) h)).trans ?_
    refine b_gd_c ?_
    refine (e_imul (code := kX3_offer) (pc := 113) rfl).trans ?_
    refine (e_iadd (code := kX3_offer) (pc := 114) rfl).trans ?_
    refine (e_iload (code := kX3_offer) (pc := 115) rfl rfl).trans ?_
    refine (e_aload_n (code := kX3_offer) (pc := 117) rfl rfl).trans ?_
    refine (e_getR (code := kX3_offer) (pc := 118) (c := 5) rfl (sk_229 (σ := σ) h) (sr_229_2 (σ := σ) h)).trans ?_
    refine (e_iload_n (code := kX3_offer) (pc := 121) rfl rfl).trans ?_
    refine (e_iaload (code := kX3_offer) (pc := 122) rfl (.inl (sk_232 (σ := σ) h)) (sl_232 (σ := σ) h)).trans ?_
    refine b_gd_c ?_
    refine (e_imul (code := kX3_offer) (pc := 123) rfl).trans ?_
    refine (e_iadd (code := kX3_offer) (pc := 124) rfl).trans ?_
    refine (e_iload (code := kX3_offer) (pc := 125) rfl rfl).trans ?_
    exact (e_callS (code := kX3_offer) (pc := 127) (len := 3) (k := 142) (n := 2) (as := [.int (((x4 * (a_I σ 232 (Int32.toNatClampNeg x1))) + (x5 * (a_I σ 232 (Int32.toNatClampNeg x2)))) + (x6 * (a_I σ 232 (Int32.toNatClampNeg x3)))), .int x7]) (st0 := []) rfl rfl rfl rfl)
  · exact e_return_ rfl
theorem b_X3_offer_130 {C : aCall} {σ : aSt} {x1 x2 x3 x4 x5 x6 x7 x8 x9 y0 : Int32} (h : Sh σ) : b_R C kX3_offer [] (130, [some (.ref 229), some (.int x1), some (.int x2), some (.int x3), some (.int x4), some (.int x5), some (.int x6), some (.int x7), some (.int x8), some (.int x9), none, none], [.int y0], σ) = (if (x9 + (((nI 4) * (y0 - (a_I σ 229 8))) * (y0 - (a_I σ 229 8)))) < (a_I σ 229 10) then b_gd (a_in x1 20) (b_gd (a_in x2 20) (b_gd (a_in x3 20) (b_G C kX3_offer [] 195 198 [some (.ref 229), some (.int x1), some (.int x2), some (.int x3), some (.int x4), some (.int x5), some (.int x6), some (.int x7), some (.int x8), some (.int (x9 + (((nI 4) * (y0 - (a_I σ 229 8))) * (y0 - (a_I σ 229 8))))), some (.int y0), none] [] (C 142 [.int (((x4 * (a_I σ 233 (Int32.toNatClampNeg x1))) + (x5 * (a_I σ 233 (Int32.toNatClampNeg x2)))) + (x6 * (a_I σ 233 (Int32.toNatClampNeg x3)))), .int x7] σ)))) else some (.inl none, σ)) := by
  refine (e_istore (code := kX3_offer) (pc := 130) rfl rfl rfl).trans ?_
  refine (e_iload (code := kX3_offer) (pc := 132) rfl rfl).trans ?_
  refine (e_iconst (code := kX3_offer) (pc := 134) rfl).trans ?_
  refine (e_iload (code := kX3_offer) (pc := 135) rfl rfl).trans ?_
  refine (e_aload_n (code := kX3_offer) (pc := 137) rfl rfl).trans ?_
  refine (e_getI (code := kX3_offer) (pc := 138) (c := 5) rfl (sk_229 (σ := σ) h) rfl).trans ?_
  refine (e_isub (code := kX3_offer) (pc := 141) rfl).trans ?_
  refine (e_imul (code := kX3_offer) (pc := 142) rfl).trans ?_
  refine (e_iload (code := kX3_offer) (pc := 143) rfl rfl).trans ?_
  refine (e_aload_n (code := kX3_offer) (pc := 145) rfl rfl).trans ?_
  refine (e_getI (code := kX3_offer) (pc := 146) (c := 5) rfl (sk_229 (σ := σ) h) rfl).trans ?_
  refine (e_isub (code := kX3_offer) (pc := 149) rfl).trans ?_
  refine (e_imul (code := kX3_offer) (pc := 150) rfl).trans ?_
  refine (e_iadd (code := kX3_offer) (pc := 151) rfl).trans ?_
  refine (e_istore (code := kX3_offer) (pc := 152) rfl rfl rfl).trans ?_
  refine (e_iload (code := kX3_offer) (pc := 154) rfl rfl).trans ?_
  refine (e_aload_n (code := kX3_offer) (pc := 156) rfl rfl).trans ?_
  refine (e_getI (code := kX3_offer) (pc := 157) (c := 5) rfl (sk_229 (σ := σ) h) rfl).trans ?_
  refine (e_iclt (code := kX3_offer) (pc := 160) rfl).trans ?_
  refine b_ite ?_ ?_
  · refine (e_iload (code := kX3_offer) (pc := 164) rfl rfl).trans ?_
    refine (e_aload_n (code := kX3_offer) (pc := 166) rfl rfl).trans ?_
    refine (e_getR (code := kX3_offer) (pc := 167) (c := 5) rfl (sk_229 (σ := σ) h) (sr_229_3 (σ := σ) h)).trans ?_
    refine (e_iload_n (code := kX3_offer) (pc := 170) rfl rfl).trans ?_
    refine (e_iaload (code := kX3_offer) (pc := 171) rfl (.inl (sk_233 (σ := σ) h)) (sl_233 (σ := σ) h)).trans ?_
    refine b_gd_c ?_
    refine (e_imul (code := kX3_offer) (pc := 172) rfl).trans ?_
    refine (e_iload (code := kX3_offer) (pc := 173) rfl rfl).trans ?_
    refine (e_aload_n (code := kX3_offer) (pc := 175) rfl rfl).trans ?_
    refine (e_getR (code := kX3_offer) (pc := 176) (c := 5) rfl (sk_229 (σ := σ) h) (sr_229_3 (σ := σ) h)).trans ?_
    refine (e_iload_n (code := kX3_offer) (pc := 179) rfl rfl).trans ?_
    refine (e_iaload (code := kX3_offer) (pc := 180) rfl (.inl (sk_233 (σ := σ) h)) (sl_233 (σ := σ) h)).trans ?_
    refine b_gd_c ?_
    refine (e_imul (code := kX3_offer) (pc := 181) rfl).trans ?_
    refine (e_iadd (code := kX3_offer) (pc := 182) rfl).trans ?_
    refine (e_iload (code := kX3_offer) (pc := 183) rfl rfl).trans ?_
    refine (e_aload_n (code := kX3_offer) (pc := 185) rfl rfl).trans ?_
    refine (e_getR (code := kX3_offer) (pc := 186) (c := 5) rfl (sk_229 (σ := σ) h) (sr_229_3 (σ := σ) h)).trans ?_
    refine (e_iload_n (code := kX3_offer) (pc := 189) rfl rfl).trans ?_
    refine (e_iaload (code := kX3_offer) (pc := 190) rfl (.inl (sk_233 (σ := σ) h)) (sl_233 (σ := σ) h)).trans ?_
    refine b_gd_c ?_
    refine (e_imul (code := kX3_offer) (pc := 191) rfl).trans ?_
    refine (e_iadd (code := kX3_offer) (pc := 192) rfl).trans ?_
    refine (e_iload (code := kX3_offer) (pc := 193) rfl rfl).trans ?_
    exact (e_callS (code := kX3_offer) (pc := 195) (len := 3) (k := 142) (n := 2) (as := [.int (((x4 * (a_I σ 233 (Int32.toNatClampNeg x1))) + (x5 * (a_I σ 233 (Int32.toNatClampNeg x2)))) + (x6 * (a_I σ 233 (Int32.toNatClampNeg x3)))), .int x7]) (st0 := []) rfl rfl rfl rfl)
  · exact e_return_ rfl
theorem b_X3_offer_198 {C : aCall} {σ : aSt} {x1 x2 x3 x4 x5 x6 x7 x8 x9 x10 y0 : Int32} (h : Sh σ) : b_R C kX3_offer [] (198, [some (.ref 229), some (.int x1), some (.int x2), some (.int x3), some (.int x4), some (.int x5), some (.int x6), some (.int x7), some (.int x8), some (.int x9), some (.int x10), none], [.int y0], σ) = (if (x9 + (((nI 3) * (y0 - (a_I σ 229 9))) * (y0 - (a_I σ 229 9)))) < (a_I σ 229 10) then b_gd (a_in (nI 3) 10) (b_gd (a_in (nI 0) 10) (b_gd (a_in (nI 1) 10) (b_gd (a_in (nI 2) 10) (b_gd (a_in x1 20) (b_G C kX3_offer [] 291 294 [some (.ref 229), some (.int x1), some (.int x2), some (.int x3), some (.int x4), some (.int x5), some (.int x6), some (.int x7), some (.int x8), some (.int (x9 + (((nI 3) * (y0 - (a_I σ 229 9))) * (y0 - (a_I σ 229 9))))), some (.int x10), some (.int y0)] [] (C 64 [.ref 229, .int (a_I (a_setI (a_setI (a_setI (a_setI (a_setI σ 229 10 (x9 + (((nI 3) * (y0 - (a_I σ 229 9))) * (y0 - (a_I σ 229 9))))) 234 (Int32.toNatClampNeg (nI 3)) (x9 + (((nI 3) * (y0 - (a_I σ 229 9))) * (y0 - (a_I σ 229 9))))) 234 (Int32.toNatClampNeg (nI 0)) ((((nI 65536) * x8) + ((nI 256) * x10)) + y0)) 234 (Int32.toNatClampNeg (nI 1)) (nI 0)) 234 (Int32.toNatClampNeg (nI 2)) x7) 230 (Int32.toNatClampNeg x1)), .int x4] (a_setI (a_setI (a_setI (a_setI (a_setI σ 229 10 (x9 + (((nI 3) * (y0 - (a_I σ 229 9))) * (y0 - (a_I σ 229 9))))) 234 (Int32.toNatClampNeg (nI 3)) (x9 + (((nI 3) * (y0 - (a_I σ 229 9))) * (y0 - (a_I σ 229 9))))) 234 (Int32.toNatClampNeg (nI 0)) ((((nI 65536) * x8) + ((nI 256) * x10)) + y0)) 234 (Int32.toNatClampNeg (nI 1)) (nI 0)) 234 (Int32.toNatClampNeg (nI 2)) x7))))))) else some (.inl none, σ)) := by
  refine (e_istore (code := kX3_offer) (pc := 198) rfl rfl rfl).trans ?_
  refine (e_iload (code := kX3_offer) (pc := 200) rfl rfl).trans ?_
  refine (e_iconst (code := kX3_offer) (pc := 202) rfl).trans ?_
  refine (e_iload (code := kX3_offer) (pc := 203) rfl rfl).trans ?_
  refine (e_aload_n (code := kX3_offer) (pc := 205) rfl rfl).trans ?_
  refine (e_getI (code := kX3_offer) (pc := 206) (c := 5) rfl (sk_229 (σ := σ) h) rfl).trans ?_
  refine (e_isub (code := kX3_offer) (pc := 209) rfl).trans ?_
  refine (e_imul (code := kX3_offer) (pc := 210) rfl).trans ?_
  refine (e_iload (code := kX3_offer) (pc := 211) rfl rfl).trans ?_
  refine (e_aload_n (code := kX3_offer) (pc := 213) rfl rfl).trans ?_
  refine (e_getI (code := kX3_offer) (pc := 214) (c := 5) rfl (sk_229 (σ := σ) h) rfl).trans ?_
  refine (e_isub (code := kX3_offer) (pc := 217) rfl).trans ?_
  refine (e_imul (code := kX3_offer) (pc := 218) rfl).trans ?_
  refine (e_iadd (code := kX3_offer) (pc := 219) rfl).trans ?_
  refine (e_istore (code := kX3_offer) (pc := 220) rfl rfl rfl).trans ?_
  refine (e_iload (code := kX3_offer) (pc := 222) rfl rfl).trans ?_
  refine (e_aload_n (code := kX3_offer) (pc := 224) rfl rfl).trans ?_
  refine (e_getI (code := kX3_offer) (pc := 225) (c := 5) rfl (sk_229 (σ := σ) h) rfl).trans ?_
  refine (e_iclt (code := kX3_offer) (pc := 228) rfl).trans ?_
  refine b_ite ?_ ?_
  · refine (e_aload_n (code := kX3_offer) (pc := 232) rfl rfl).trans ?_
    refine (e_iload (code := kX3_offer) (pc := 233) rfl rfl).trans ?_
    refine (e_putI (code := kX3_offer) (pc := 235) (c := 5) rfl (sk_229 (σ := σ) h) (h_100 rfl)).trans ?_
    refine (e_aload_n (code := kX3_offer) (pc := 238) (σ := (a_setI σ 229 10 (x9 + (((nI 3) * (y0 - (a_I σ 229 9))) * (y0 - (a_I σ 229 9)))))) rfl rfl).trans ?_
    refine (e_getR (code := kX3_offer) (pc := 239) (σ := (a_setI σ 229 10 (x9 + (((nI 3) * (y0 - (a_I σ 229 9))) * (y0 - (a_I σ 229 9)))))) (c := 5) rfl (sk_229 (σ := σ) h) (sr_229_4 (σ := σ) h)).trans ?_
    refine (e_iconst (code := kX3_offer) (pc := 242) (σ := (a_setI σ 229 10 (x9 + (((nI 3) * (y0 - (a_I σ 229 9))) * (y0 - (a_I σ 229 9)))))) rfl).trans ?_
    refine (e_iload (code := kX3_offer) (pc := 243) (σ := (a_setI σ 229 10 (x9 + (((nI 3) * (y0 - (a_I σ 229 9))) * (y0 - (a_I σ 229 9)))))) rfl rfl).trans ?_
    refine (e_iastore (code := kX3_offer) (pc := 245) (σ := (a_setI σ 229 10 (x9 + (((nI 3) * (y0 - (a_I σ 229 9))) * (y0 - (a_I σ 229 9)))))) rfl (sk_234 (σ := σ) h) (h_100 rfl) (sl_234 (σ := σ) h)).trans ?_
    refine b_gd_c ?_
    refine (e_aload_n (code := kX3_offer) (pc := 246) (σ := (a_setI (a_setI σ 229 10 (x9 + (((nI 3) * (y0 - (a_I σ 229 9))) * (y0 - (a_I σ 229 9))))) 234 (Int32.toNatClampNeg (nI 3)) (x9 + (((nI 3) * (y0 - (a_I σ 229 9))) * (y0 - (a_I σ 229 9)))))) rfl rfl).trans ?_
    refine (e_getR (code := kX3_offer) (pc := 247) (σ := (a_setI (a_setI σ 229 10 (x9 + (((nI 3) * (y0 - (a_I σ 229 9))) * (y0 - (a_I σ 229 9))))) 234 (Int32.toNatClampNeg (nI 3)) (x9 + (((nI 3) * (y0 - (a_I σ 229 9))) * (y0 - (a_I σ 229 9)))))) (c := 5) rfl (sk_229 (σ := σ) h) (sr_229_4 (σ := σ) h)).trans ?_
    refine (e_iconst (code := kX3_offer) (pc := 250) (σ := (a_setI (a_setI σ 229 10 (x9 + (((nI 3) * (y0 - (a_I σ 229 9))) * (y0 - (a_I σ 229 9))))) 234 (Int32.toNatClampNeg (nI 3)) (x9 + (((nI 3) * (y0 - (a_I σ 229 9))) * (y0 - (a_I σ 229 9)))))) rfl).trans ?_
    refine (e_ldcI (code := kX3_offer) (pc := 251) (σ := (a_setI (a_setI σ 229 10 (x9 + (((nI 3) * (y0 - (a_I σ 229 9))) * (y0 - (a_I σ 229 9))))) 234 (Int32.toNatClampNeg (nI 3)) (x9 + (((nI 3) * (y0 - (a_I σ 229 9))) * (y0 - (a_I σ 229 9)))))) rfl).trans ?_
    refine (e_iload (code := kX3_offer) (pc := 253) (σ := (a_setI (a_setI σ 229 10 (x9 + (((nI 3) * (y0 - (a_I σ 229 9))) * (y0 - (a_I σ 229 9))))) 234 (Int32.toNatClampNeg (nI 3)) (x9 + (((nI 3) * (y0 - (a_I σ 229 9))) * (y0 - (a_I σ 229 9)))))) rfl rfl).trans ?_
    refine (e_imul (code := kX3_offer) (pc := 255) (σ := (a_setI (a_setI σ 229 10 (x9 + (((nI 3) * (y0 - (a_I σ 229 9))) * (y0 - (a_I σ 229 9))))) 234 (Int32.toNatClampNeg (nI 3)) (x9 + (((nI 3) * (y0 - (a_I σ 229 9))) * (y0 - (a_I σ 229 9)))))) rfl).trans ?_
    refine (e_sipush (code := kX3_offer) (pc := 256) (σ := (a_setI (a_setI σ 229 10 (x9 + (((nI 3) * (y0 - (a_I σ 229 9))) * (y0 - (a_I σ 229 9))))) 234 (Int32.toNatClampNeg (nI 3)) (x9 + (((nI 3) * (y0 - (a_I σ 229 9))) * (y0 - (a_I σ 229 9)))))) rfl).trans ?_
    refine (e_iload (code := kX3_offer) (pc := 259) (σ := (a_setI (a_setI σ 229 10 (x9 + (((nI 3) * (y0 - (a_I σ 229 9))) * (y0 - (a_I σ 229 9))))) 234 (Int32.toNatClampNeg (nI 3)) (x9 + (((nI 3) * (y0 - (a_I σ 229 9))) * (y0 - (a_I σ 229 9)))))) rfl rfl).trans ?_
    refine (e_imul (code := kX3_offer) (pc := 261) (σ := (a_setI (a_setI σ 229 10 (x9 + (((nI 3) * (y0 - (a_I σ 229 9))) * (y0 - (a_I σ 229 9))))) 234 (Int32.toNatClampNeg (nI 3)) (x9 + (((nI 3) * (y0 - (a_I σ 229 9))) * (y0 - (a_I σ 229 9)))))) rfl).trans ?_
    refine (e_iadd (code := kX3_offer) (pc := 262) (σ := (a_setI (a_setI σ 229 10 (x9 + (((nI 3) * (y0 - (a_I σ 229 9))) * (y0 - (a_I σ 229 9))))) 234 (Int32.toNatClampNeg (nI 3)) (x9 + (((nI 3) * (y0 - (a_I σ 229 9))) * (y0 - (a_I σ 229 9)))))) rfl).trans ?_
    refine (e_iload (code := kX3_offer) (pc := 263) (σ := (a_setI (a_setI σ 229 10 (x9 + (((nI 3) * (y0 - (a_I σ 229 9))) * (y0 - (a_I σ 229 9))))) 234 (Int32.toNatClampNeg (nI 3)) (x9 + (((nI 3) * (y0 - (a_I σ 229 9))) * (y0 - (a_I σ 229 9)))))) rfl rfl).trans ?_
    refine (e_iadd (code := kX3_offer) (pc := 265) (σ := (a_setI (a_setI σ 229 10 (x9 + (((nI 3) * (y0 - (a_I σ 229 9))) * (y0 - (a_I σ 229 9))))) 234 (Int32.toNatClampNeg (nI 3)) (x9 + (((nI 3) * (y0 - (a_I σ 229 9))) * (y0 - (a_I σ 229 9)))))) rfl).trans ?_
    refine (e_iastore (code := kX3_offer) (pc := 266) (σ := (a_setI (a_setI σ 229 10 (x9 + (((nI 3) * (y0 - (a_I σ 229 9))) * (y0 - (a_I σ 229 9))))) 234 (Int32.toNatClampNeg (nI 3)) (x9 + (((nI 3) * (y0 - (a_I σ 229 9))) * (y0 - (a_I σ 229 9)))))) rfl (sk_234 (σ := σ) h) (h_100 rfl) (sl_234 (σ := σ) h)).trans ?_
    refine b_gd_c ?_
    refine (e_aload_n (code := kX3_offer) (pc := 267) (σ := (a_setI (a_setI (a_setI σ 229 10 (x9 + (((nI 3) * (y0 - (a_I σ 229 9))) * (y0 - (a_I σ 229 9))))) 234 (Int32.toNatClampNeg (nI 3)) (x9 + (((nI 3) * (y0 - (a_I σ 229 9))) * (y0 - (a_I σ 229 9))))) 234 (Int32.toNatClampNeg (nI 0)) ((((nI 65536) * x8) + ((nI 256) * x10)) + y0))) rfl rfl).trans ?_
    refine (e_getR (code := kX3_offer) (pc := 268) (σ := (a_setI (a_setI (a_setI σ 229 10 (x9 + (((nI 3) * (y0 - (a_I σ 229 9))) * (y0 - (a_I σ 229 9))))) 234 (Int32.toNatClampNeg (nI 3)) (x9 + (((nI 3) * (y0 - (a_I σ 229 9))) * (y0 - (a_I σ 229 9))))) 234 (Int32.toNatClampNeg (nI 0)) ((((nI 65536) * x8) + ((nI 256) * x10)) + y0))) (c := 5) rfl (sk_229 (σ := σ) h) (sr_229_4 (σ := σ) h)).trans ?_
    refine (e_iconst (code := kX3_offer) (pc := 271) (σ := (a_setI (a_setI (a_setI σ 229 10 (x9 + (((nI 3) * (y0 - (a_I σ 229 9))) * (y0 - (a_I σ 229 9))))) 234 (Int32.toNatClampNeg (nI 3)) (x9 + (((nI 3) * (y0 - (a_I σ 229 9))) * (y0 - (a_I σ 229 9))))) 234 (Int32.toNatClampNeg (nI 0)) ((((nI 65536) * x8) + ((nI 256) * x10)) + y0))) rfl).trans ?_
    refine (e_iconst (code := kX3_offer) (pc := 272) (σ := (a_setI (a_setI (a_setI σ 229 10 (x9 + (((nI 3) * (y0 - (a_I σ 229 9))) * (y0 - (a_I σ 229 9))))) 234 (Int32.toNatClampNeg (nI 3)) (x9 + (((nI 3) * (y0 - (a_I σ 229 9))) * (y0 - (a_I σ 229 9))))) 234 (Int32.toNatClampNeg (nI 0)) ((((nI 65536) * x8) + ((nI 256) * x10)) + y0))) rfl).trans ?_
    refine (e_iastore (code := kX3_offer) (pc := 273) (σ := (a_setI (a_setI (a_setI σ 229 10 (x9 + (((nI 3) * (y0 - (a_I σ 229 9))) * (y0 - (a_I σ 229 9))))) 234 (Int32.toNatClampNeg (nI 3)) (x9 + (((nI 3) * (y0 - (a_I σ 229 9))) * (y0 - (a_I σ 229 9))))) 234 (Int32.toNatClampNeg (nI 0)) ((((nI 65536) * x8) + ((nI 256) * x10)) + y0))) rfl (sk_234 (σ := σ) h) (h_100 rfl) (sl_234 (σ := σ) h)).trans ?_
    refine b_gd_c ?_
    refine (e_aload_n (code := kX3_offer) (pc := 274) (σ := (a_setI (a_setI (a_setI (a_setI σ 229 10 (x9 + (((nI 3) * (y0 - (a_I σ 229 9))) * (y0 - (a_I σ 229 9))))) 234 (Int32.toNatClampNeg (nI 3)) (x9 + (((nI 3) * (y0 - (a_I σ 229 9))) * (y0 - (a_I σ 229 9))))) 234 (Int32.toNatClampNeg (nI 0)) ((((nI 65536) * x8) + ((nI 256) * x10)) + y0)) 234 (Int32.toNatClampNeg (nI 1)) (nI 0))) rfl rfl).trans ?_
    refine (e_getR (code := kX3_offer) (pc := 275) (σ := (a_setI (a_setI (a_setI (a_setI σ 229 10 (x9 + (((nI 3) * (y0 - (a_I σ 229 9))) * (y0 - (a_I σ 229 9))))) 234 (Int32.toNatClampNeg (nI 3)) (x9 + (((nI 3) * (y0 - (a_I σ 229 9))) * (y0 - (a_I σ 229 9))))) 234 (Int32.toNatClampNeg (nI 0)) ((((nI 65536) * x8) + ((nI 256) * x10)) + y0)) 234 (Int32.toNatClampNeg (nI 1)) (nI 0))) (c := 5) rfl (sk_229 (σ := σ) h) (sr_229_4 (σ := σ) h)).trans ?_
    refine (e_iconst (code := kX3_offer) (pc := 278) (σ := (a_setI (a_setI (a_setI (a_setI σ 229 10 (x9 + (((nI 3) * (y0 - (a_I σ 229 9))) * (y0 - (a_I σ 229 9))))) 234 (Int32.toNatClampNeg (nI 3)) (x9 + (((nI 3) * (y0 - (a_I σ 229 9))) * (y0 - (a_I σ 229 9))))) 234 (Int32.toNatClampNeg (nI 0)) ((((nI 65536) * x8) + ((nI 256) * x10)) + y0)) 234 (Int32.toNatClampNeg (nI 1)) (nI 0))) rfl).trans ?_
    refine (e_iload (code := kX3_offer) (pc := 279) (σ := (a_setI (a_setI (a_setI (a_setI σ 229 10 (x9 + (((nI 3) * (y0 - (a_I σ 229 9))) * (y0 - (a_I σ 229 9))))) 234 (Int32.toNatClampNeg (nI 3)) (x9 + (((nI 3) * (y0 - (a_I σ 229 9))) * (y0 - (a_I σ 229 9))))) 234 (Int32.toNatClampNeg (nI 0)) ((((nI 65536) * x8) + ((nI 256) * x10)) + y0)) 234 (Int32.toNatClampNeg (nI 1)) (nI 0))) rfl rfl).trans ?_
    refine (e_iastore (code := kX3_offer) (pc := 281) (σ := (a_setI (a_setI (a_setI (a_setI σ 229 10 (x9 + (((nI 3) * (y0 - (a_I σ 229 9))) * (y0 - (a_I σ 229 9))))) 234 (Int32.toNatClampNeg (nI 3)) (x9 + (((nI 3) * (y0 - (a_I σ 229 9))) * (y0 - (a_I σ 229 9))))) 234 (Int32.toNatClampNeg (nI 0)) ((((nI 65536) * x8) + ((nI 256) * x10)) + y0)) 234 (Int32.toNatClampNeg (nI 1)) (nI 0))) rfl (sk_234 (σ := σ) h) (h_100 rfl) (sl_234 (σ := σ) h)).trans ?_
    refine b_gd_c ?_
    refine (e_aload_n (code := kX3_offer) (pc := 282) (σ := (a_setI (a_setI (a_setI (a_setI (a_setI σ 229 10 (x9 + (((nI 3) * (y0 - (a_I σ 229 9))) * (y0 - (a_I σ 229 9))))) 234 (Int32.toNatClampNeg (nI 3)) (x9 + (((nI 3) * (y0 - (a_I σ 229 9))) * (y0 - (a_I σ 229 9))))) 234 (Int32.toNatClampNeg (nI 0)) ((((nI 65536) * x8) + ((nI 256) * x10)) + y0)) 234 (Int32.toNatClampNeg (nI 1)) (nI 0)) 234 (Int32.toNatClampNeg (nI 2)) x7)) rfl rfl).trans ?_
    refine (e_aload_n (code := kX3_offer) (pc := 283) (σ := (a_setI (a_setI (a_setI (a_setI (a_setI σ 229 10 (x9 + (((nI 3) * (y0 - (a_I σ 229 9))) * (y0 - (a_I σ 229 9))))) 234 (Int32.toNatClampNeg (nI 3)) (x9 + (((nI 3) * (y0 - (a_I σ 229 9))) * (y0 - (a_I σ 229 9))))) 234 (Int32.toNatClampNeg (nI 0)) ((((nI 65536) * x8) + ((nI 256) * x10)) + y0)) 234 (Int32.toNatClampNeg (nI 1)) (nI 0)) 234 (Int32.toNatClampNeg (nI 2)) x7)) rfl rfl).trans ?_
    refine (e_getR (code := kX3_offer) (pc := 284) (σ := (a_setI (a_setI (a_setI (a_setI (a_setI σ 229 10 (x9 + (((nI 3) * (y0 - (a_I σ 229 9))) * (y0 - (a_I σ 229 9))))) 234 (Int32.toNatClampNeg (nI 3)) (x9 + (((nI 3) * (y0 - (a_I σ 229 9))) * (y0 - (a_I σ 229 9))))) 234 (Int32.toNatClampNeg (nI 0)) ((((nI 65536) * x8) + ((nI 256) * x10)) + y0)) 234 (Int32.toNatClampNeg (nI 1)) (nI 0)) 234 (Int32.toNatClampNeg (nI 2)) x7)) (c := 5) rfl (sk_229 (σ := σ) h) (sr_229_0 (σ := σ) h)).trans ?_
    refine (e_iload_n (code := kX3_offer) (pc := 287) (σ := (a_setI (a_setI (a_setI (a_setI (a_setI σ 229 10 (x9 + (((nI 3) * (y0 - (a_I σ 229 9))) * (y0 - (a_I σ 229 9))))) 234 (Int32.toNatClampNeg (nI 3)) (x9 + (((nI 3) * (y0 - (a_I σ 229 9))) * (y0 - (a_I σ 229 9))))) 234 (Int32.toNatClampNeg (nI 0)) ((((nI 65536) * x8) + ((nI 256) * x10)) + y0)) 234 (Int32.toNatClampNeg (nI 1)) (nI 0)) 234 (Int32.toNatClampNeg (nI 2)) x7)) rfl rfl).trans ?_
    refine (e_iaload (code := kX3_offer) (pc := 288) (σ := (a_setI (a_setI (a_setI (a_setI (a_setI σ 229 10 (x9 + (((nI 3) * (y0 - (a_I σ 229 9))) * (y0 - (a_I σ 229 9))))) 234 (Int32.toNatClampNeg (nI 3)) (x9 + (((nI 3) * (y0 - (a_I σ 229 9))) * (y0 - (a_I σ 229 9))))) 234 (Int32.toNatClampNeg (nI 0)) ((((nI 65536) * x8) + ((nI 256) * x10)) + y0)) 234 (Int32.toNatClampNeg (nI 1)) (nI 0)) 234 (Int32.toNatClampNeg (nI 2)) x7)) rfl (.inl (sk_230 (σ := σ) h)) (sl_230 (σ := σ) h)).trans ?_
    refine b_gd_c ?_
    refine (e_iload (code := kX3_offer) (pc := 289) (σ := (a_setI (a_setI (a_setI (a_setI (a_setI σ 229 10 (x9 + (((nI 3) * (y0 - (a_I σ 229 9))) * (y0 - (a_I σ 229 9))))) 234 (Int32.toNatClampNeg (nI 3)) (x9 + (((nI 3) * (y0 - (a_I σ 229 9))) * (y0 - (a_I σ 229 9))))) 234 (Int32.toNatClampNeg (nI 0)) ((((nI 65536) * x8) + ((nI 256) * x10)) + y0)) 234 (Int32.toNatClampNeg (nI 1)) (nI 0)) 234 (Int32.toNatClampNeg (nI 2)) x7)) rfl rfl).trans ?_
    exact (e_callV (σ := (a_setI (a_setI (a_setI (a_setI (a_setI σ 229 10 (x9 + (((nI 3) * (y0 - (a_I σ 229 9))) * (y0 - (a_I σ 229 9))))) 234 (Int32.toNatClampNeg (nI 3)) (x9 + (((nI 3) * (y0 - (a_I σ 229 9))) * (y0 - (a_I σ 229 9))))) 234 (Int32.toNatClampNeg (nI 0)) ((((nI 65536) * x8) + ((nI 256) * x10)) + y0)) 234 (Int32.toNatClampNeg (nI 1)) (nI 0)) 234 (Int32.toNatClampNeg (nI 2)) x7)) (code := kX3_offer) (pc := 291) (len := 3) (k := 64) (n := 3) (c := 15) (as := [.ref 229, .int (a_I (a_setI (a_setI (a_setI (a_setI (a_setI σ 229 10 (x9 + (((nI 3) * (y0 - (a_I σ 229 9))) * (y0 - (a_I σ 229 9))))) 234 (Int32.toNatClampNeg (nI 3)) (x9 + (((nI 3) * (y0 - (a_I σ 229 9))) * (y0 - (a_I σ 229 9))))) 234 (Int32.toNatClampNeg (nI 0)) ((((nI 65536) * x8) + ((nI 256) * x10)) + y0)) 234 (Int32.toNatClampNeg (nI 1)) (nI 0)) 234 (Int32.toNatClampNeg (nI 2)) x7) 230 (Int32.toNatClampNeg x1)), .int x4]) (st0 := []) rfl rfl rfl rfl rfl (sk_229 (σ := σ) h) rfl)
  · exact e_return_ rfl
theorem b_X3_offer_294 {C : aCall} {σ : aSt} {x1 x2 x3 x4 x5 x6 x7 x8 x9 x10 x11 : Int32} (h : Sh σ) : b_R C kX3_offer [] (294, [some (.ref 229), some (.int x1), some (.int x2), some (.int x3), some (.int x4), some (.int x5), some (.int x6), some (.int x7), some (.int x8), some (.int x9), some (.int x10), some (.int x11)], [], σ) = b_gd (a_in x2 20) (b_G C kX3_offer [] 303 306 [some (.ref 229), some (.int x1), some (.int x2), some (.int x3), some (.int x4), some (.int x5), some (.int x6), some (.int x7), some (.int x8), some (.int x9), some (.int x10), some (.int x11)] [] (C 64 [.ref 229, .int (a_I σ 230 (Int32.toNatClampNeg x2)), .int x5] σ)) := by
  refine (e_aload_n (code := kX3_offer) (pc := 294) rfl rfl).trans ?_
  refine (e_aload_n (code := kX3_offer) (pc := 295) rfl rfl).trans ?_
  refine (e_getR (code := kX3_offer) (pc := 296) (c := 5) rfl (sk_229 (σ := σ) h) (sr_229_0 (σ := σ) h)).trans ?_
  refine (e_iload_n (code := kX3_offer) (pc := 299) rfl rfl).trans ?_
  refine (e_iaload (code := kX3_offer) (pc := 300) rfl (.inl (sk_230 (σ := σ) h)) (sl_230 (σ := σ) h)).trans ?_
  refine b_gd_c ?_
  refine (e_iload (code := kX3_offer) (pc := 301) rfl rfl).trans ?_
  exact (e_callV (σ := σ) (code := kX3_offer) (pc := 303) (len := 3) (k := 64) (n := 3) (c := 15) (as := [.ref 229, .int (a_I σ 230 (Int32.toNatClampNeg x2)), .int x5]) (st0 := []) rfl rfl rfl rfl rfl (sk_229 (σ := σ) h) rfl)
theorem b_X3_offer_306 {C : aCall} {σ : aSt} {x1 x2 x3 x4 x5 x6 x7 x8 x9 x10 x11 : Int32} (h : Sh σ) : b_R C kX3_offer [] (306, [some (.ref 229), some (.int x1), some (.int x2), some (.int x3), some (.int x4), some (.int x5), some (.int x6), some (.int x7), some (.int x8), some (.int x9), some (.int x10), some (.int x11)], [], σ) = b_gd (a_in x3 20) (b_G C kX3_offer [] 315 318 [some (.ref 229), some (.int x1), some (.int x2), some (.int x3), some (.int x4), some (.int x5), some (.int x6), some (.int x7), some (.int x8), some (.int x9), some (.int x10), some (.int x11)] [] (C 64 [.ref 229, .int (a_I σ 230 (Int32.toNatClampNeg x3)), .int x6] σ)) := by
  refine (e_aload_n (code := kX3_offer) (pc := 306) rfl rfl).trans ?_
  refine (e_aload_n (code := kX3_offer) (pc := 307) rfl rfl).trans ?_
  refine (e_getR (code := kX3_offer) (pc := 308) (c := 5) rfl (sk_229 (σ := σ) h) (sr_229_0 (σ := σ) h)).trans ?_
  refine (e_iload_n (code := kX3_offer) (pc := 311) rfl rfl).trans ?_
  refine (e_iaload (code := kX3_offer) (pc := 312) rfl (.inl (sk_230 (σ := σ) h)) (sl_230 (σ := σ) h)).trans ?_
  refine b_gd_c ?_
  refine (e_iload (code := kX3_offer) (pc := 313) rfl rfl).trans ?_
  exact (e_callV (σ := σ) (code := kX3_offer) (pc := 315) (len := 3) (k := 64) (n := 3) (c := 15) (as := [.ref 229, .int (a_I σ 230 (Int32.toNatClampNeg x3)), .int x6]) (st0 := []) rfl rfl rfl rfl rfl (sk_229 (σ := σ) h) rfl)
theorem b_X3_offer_318 {C : aCall} {σ : aSt} {x1 x2 x3 x4 x5 x6 x7 x8 x9 x10 x11 : Int32} : b_R C kX3_offer [] (318, [some (.ref 229), some (.int x1), some (.int x2), some (.int x3), some (.int x4), some (.int x5), some (.int x6), some (.int x7), some (.int x8), some (.int x9), some (.int x10), some (.int x11)], [], σ) = some (.inl none, σ) := by
  exact e_return_ rfl
theorem n_X3_keepPart {P : aCall} {d : Nat} {σ : aSt} {x1 x2 : Int32} (hd : 1 ≤ d) : a_call a_tab P d 64 [.ref 229, .int x1, .int x2] σ = b_R (a_call a_tab P (d - 1)) kX3_keepPart [] (0, [some (.ref 229), some (.int x1), some (.int x2), none], [], σ) := e_call hd at_X3_keepPart rfl
theorem b_X3_keepPart_0 {C : aCall} {σ : aSt} {x1 x2 : Int32} (h : Sh σ) : b_R C kX3_keepPart [] (0, [some (.ref 229), some (.int x1), some (.int x2), none], [], σ) = b_gd (a_in (nI 1) 10) ((if 0 < x2 then (if (a_I σ 234 (Int32.toNatClampNeg (nI 1))) < 0 then b_R C kX3_keepPart [] (48, [some (.ref 229), some (.int x1), some (.int x2), some (.int (a_I σ 234 (Int32.toNatClampNeg (nI 1))))], [], σ) else (if (a_I σ 234 (Int32.toNatClampNeg (nI 1))) < (nI 3) then b_gd (a_in ((nI 4) + (a_I σ 234 (Int32.toNatClampNeg (nI 1)))) 10) (b_gd (a_in ((nI 7) + (a_I σ 234 (Int32.toNatClampNeg (nI 1)))) 10) (b_gd (a_in (nI 1) 10) (b_R C kX3_keepPart [] (48, [some (.ref 229), some (.int x1), some (.int x2), some (.int (a_I σ 234 (Int32.toNatClampNeg (nI 1))))], [], (a_setI (a_setI (a_setI σ 234 (Int32.toNatClampNeg ((nI 4) + (a_I σ 234 (Int32.toNatClampNeg (nI 1))))) x1) 234 (Int32.toNatClampNeg ((nI 7) + (a_I σ 234 (Int32.toNatClampNeg (nI 1))))) x2) 234 (Int32.toNatClampNeg (nI 1)) ((a_I σ 234 (Int32.toNatClampNeg (nI 1))) + (nI 1))))))) else b_R C kX3_keepPart [] (48, [some (.ref 229), some (.int x1), some (.int x2), some (.int (a_I σ 234 (Int32.toNatClampNeg (nI 1))))], [], σ))) else b_R C kX3_keepPart [] (48, [some (.ref 229), some (.int x1), some (.int x2), some (.int (a_I σ 234 (Int32.toNatClampNeg (nI 1))))], [], σ))) := by
  refine (e_aload_n (code := kX3_keepPart) (pc := 0) rfl rfl).trans ?_
  refine (e_getR (code := kX3_keepPart) (pc := 1) (c := 5) rfl (sk_229 (σ := σ) h) (sr_229_4 (σ := σ) h)).trans ?_
  refine (e_iconst (code := kX3_keepPart) (pc := 4) rfl).trans ?_
  refine (e_iaload (code := kX3_keepPart) (pc := 5) rfl (.inl (sk_234 (σ := σ) h)) (sl_234 (σ := σ) h)).trans ?_
  refine b_gd_c ?_
  refine (e_istore_n (code := kX3_keepPart) (pc := 6) rfl rfl rfl).trans ?_
  refine (e_iload_n (code := kX3_keepPart) (pc := 7) rfl rfl).trans ?_
  refine (e_ifle (code := kX3_keepPart) (pc := 8) rfl).trans ?_
  refine b_ite ?_ ?_
  · refine (e_iload_n (code := kX3_keepPart) (pc := 11) rfl rfl).trans ?_
    refine (e_iflt (code := kX3_keepPart) (pc := 12) rfl).trans ?_
    refine b_ite ?_ ?_
    · rfl
    · refine (e_iload_n (code := kX3_keepPart) (pc := 15) rfl rfl).trans ?_
      refine (e_iconst (code := kX3_keepPart) (pc := 16) rfl).trans ?_
      refine (e_icge (code := kX3_keepPart) (pc := 17) rfl).trans ?_
      refine b_ite ?_ ?_
      · refine (e_aload_n (code := kX3_keepPart) (pc := 20) rfl rfl).trans ?_
        refine (e_getR (code := kX3_keepPart) (pc := 21) (c := 5) rfl (sk_229 (σ := σ) h) (sr_229_4 (σ := σ) h)).trans ?_
        refine (e_iconst (code := kX3_keepPart) (pc := 24) rfl).trans ?_
        refine (e_iload_n (code := kX3_keepPart) (pc := 25) rfl rfl).trans ?_
        refine (e_iadd (code := kX3_keepPart) (pc := 26) rfl).trans ?_
        refine (e_iload_n (code := kX3_keepPart) (pc := 27) rfl rfl).trans ?_
        refine (e_iastore (code := kX3_keepPart) (pc := 28) rfl (sk_234 (σ := σ) h) (h_100 rfl) (sl_234 (σ := σ) h)).trans ?_
        refine b_gd_c ?_
        refine (e_aload_n (code := kX3_keepPart) (pc := 29) (σ := (a_setI σ 234 (Int32.toNatClampNeg ((nI 4) + (a_I σ 234 (Int32.toNatClampNeg (nI 1))))) x1)) rfl rfl).trans ?_
        refine (e_getR (code := kX3_keepPart) (pc := 30) (σ := (a_setI σ 234 (Int32.toNatClampNeg ((nI 4) + (a_I σ 234 (Int32.toNatClampNeg (nI 1))))) x1)) (c := 5) rfl (sk_229 (σ := σ) h) (sr_229_4 (σ := σ) h)).trans ?_
        refine (e_bipush (code := kX3_keepPart) (pc := 33) (σ := (a_setI σ 234 (Int32.toNatClampNeg ((nI 4) + (a_I σ 234 (Int32.toNatClampNeg (nI 1))))) x1)) rfl).trans ?_
        refine (e_iload_n (code := kX3_keepPart) (pc := 35) (σ := (a_setI σ 234 (Int32.toNatClampNeg ((nI 4) + (a_I σ 234 (Int32.toNatClampNeg (nI 1))))) x1)) rfl rfl).trans ?_
        refine (e_iadd (code := kX3_keepPart) (pc := 36) (σ := (a_setI σ 234 (Int32.toNatClampNeg ((nI 4) + (a_I σ 234 (Int32.toNatClampNeg (nI 1))))) x1)) rfl).trans ?_
        refine (e_iload_n (code := kX3_keepPart) (pc := 37) (σ := (a_setI σ 234 (Int32.toNatClampNeg ((nI 4) + (a_I σ 234 (Int32.toNatClampNeg (nI 1))))) x1)) rfl rfl).trans ?_
        refine (e_iastore (code := kX3_keepPart) (pc := 38) (σ := (a_setI σ 234 (Int32.toNatClampNeg ((nI 4) + (a_I σ 234 (Int32.toNatClampNeg (nI 1))))) x1)) rfl (sk_234 (σ := σ) h) (h_100 rfl) (sl_234 (σ := σ) h)).trans ?_
        refine b_gd_c ?_
        refine (e_aload_n (code := kX3_keepPart) (pc := 39) (σ := (a_setI (a_setI σ 234 (Int32.toNatClampNeg ((nI 4) + (a_I σ 234 (Int32.toNatClampNeg (nI 1))))) x1) 234 (Int32.toNatClampNeg ((nI 7) + (a_I σ 234 (Int32.toNatClampNeg (nI 1))))) x2)) rfl rfl).trans ?_
        refine (e_getR (code := kX3_keepPart) (pc := 40) (σ := (a_setI (a_setI σ 234 (Int32.toNatClampNeg ((nI 4) + (a_I σ 234 (Int32.toNatClampNeg (nI 1))))) x1) 234 (Int32.toNatClampNeg ((nI 7) + (a_I σ 234 (Int32.toNatClampNeg (nI 1))))) x2)) (c := 5) rfl (sk_229 (σ := σ) h) (sr_229_4 (σ := σ) h)).trans ?_
        refine (e_iconst (code := kX3_keepPart) (pc := 43) (σ := (a_setI (a_setI σ 234 (Int32.toNatClampNeg ((nI 4) + (a_I σ 234 (Int32.toNatClampNeg (nI 1))))) x1) 234 (Int32.toNatClampNeg ((nI 7) + (a_I σ 234 (Int32.toNatClampNeg (nI 1))))) x2)) rfl).trans ?_
        refine (e_iload_n (code := kX3_keepPart) (pc := 44) (σ := (a_setI (a_setI σ 234 (Int32.toNatClampNeg ((nI 4) + (a_I σ 234 (Int32.toNatClampNeg (nI 1))))) x1) 234 (Int32.toNatClampNeg ((nI 7) + (a_I σ 234 (Int32.toNatClampNeg (nI 1))))) x2)) rfl rfl).trans ?_
        refine (e_iconst (code := kX3_keepPart) (pc := 45) (σ := (a_setI (a_setI σ 234 (Int32.toNatClampNeg ((nI 4) + (a_I σ 234 (Int32.toNatClampNeg (nI 1))))) x1) 234 (Int32.toNatClampNeg ((nI 7) + (a_I σ 234 (Int32.toNatClampNeg (nI 1))))) x2)) rfl).trans ?_
        refine (e_iadd (code := kX3_keepPart) (pc := 46) (σ := (a_setI (a_setI σ 234 (Int32.toNatClampNeg ((nI 4) + (a_I σ 234 (Int32.toNatClampNeg (nI 1))))) x1) 234 (Int32.toNatClampNeg ((nI 7) + (a_I σ 234 (Int32.toNatClampNeg (nI 1))))) x2)) rfl).trans ?_
        refine (e_iastore (code := kX3_keepPart) (pc := 47) (σ := (a_setI (a_setI σ 234 (Int32.toNatClampNeg ((nI 4) + (a_I σ 234 (Int32.toNatClampNeg (nI 1))))) x1) 234 (Int32.toNatClampNeg ((nI 7) + (a_I σ 234 (Int32.toNatClampNeg (nI 1))))) x2)) rfl (sk_234 (σ := σ) h) (h_100 rfl) (sl_234 (σ := σ) h)).trans ?_
        refine b_gd_c ?_
        rfl
      · rfl
  · rfl
theorem b_X3_keepPart_48 {C : aCall} {σ : aSt} {x1 x2 x3 : Int32} : b_R C kX3_keepPart [] (48, [some (.ref 229), some (.int x1), some (.int x2), some (.int x3)], [], σ) = some (.inl none, σ) := by
  exact e_return_ rfl
theorem n_X3_figure {P : aCall} {d : Nat} {σ : aSt} {x1 : Int32} (hd : 1 ≤ d) : a_call a_tab P d 65 [.ref 229, .int x1] σ = b_R (a_call a_tab P (d - 1)) kX3_figure [] (0, [some (.ref 229), some (.int x1)], [], σ) := e_call hd at_X3_figure rfl
theorem b_X3_figure_0 {C : aCall} {σ : aSt} {x1 : Int32} (h : Sh σ) : b_R C kX3_figure [] (0, [some (.ref 229), some (.int x1)], [], σ) = (if x1 < 0 then b_R C kX3_figure [] (22, [some (.ref 229), some (.int x1)], [], σ) else (if x1 < (nI 10) then b_gd (a_in x1 10) (b_R C kX3_figure [] (23, [some (.ref 229), some (.int x1)], [.int (a_I σ 234 (Int32.toNatClampNeg x1))], σ)) else b_R C kX3_figure [] (22, [some (.ref 229), some (.int x1)], [], σ))) := by
  refine (e_iload_n (code := kX3_figure) (pc := 0) rfl rfl).trans ?_
  refine (e_iflt (code := kX3_figure) (pc := 1) rfl).trans ?_
  refine b_ite ?_ ?_
  · rfl
  · refine (e_iload_n (code := kX3_figure) (pc := 4) rfl rfl).trans ?_
    refine (e_aload_n (code := kX3_figure) (pc := 5) rfl rfl).trans ?_
    refine (e_getR (code := kX3_figure) (pc := 6) (c := 5) rfl (sk_229 (σ := σ) h) (sr_229_4 (σ := σ) h)).trans ?_
    refine (e_alen (code := kX3_figure) (pc := 9) rfl (by rw [show a_kd _ 234 = 1 from (sk_234 (σ := σ) h)]; exact ⟨rfl, rfl⟩) (sl_234 (σ := σ) h) (Nat.le_of_ble_eq_true rfl)).trans ?_
    refine (e_icge (code := kX3_figure) (pc := 10) rfl).trans ?_
    refine b_ite ?_ ?_
    · refine (e_aload_n (code := kX3_figure) (pc := 13) rfl rfl).trans ?_
      refine (e_getR (code := kX3_figure) (pc := 14) (c := 5) rfl (sk_229 (σ := σ) h) (sr_229_4 (σ := σ) h)).trans ?_
      refine (e_iload_n (code := kX3_figure) (pc := 17) rfl rfl).trans ?_
      refine (e_iaload (code := kX3_figure) (pc := 18) rfl (.inl (sk_234 (σ := σ) h)) (sl_234 (σ := σ) h)).trans ?_
      refine b_gd_c ?_
      refine (e_goto (code := kX3_figure) (pc := 19) rfl).trans ?_
      rfl
    · rfl
theorem b_X3_figure_22 {C : aCall} {σ : aSt} {x1 : Int32} : b_R C kX3_figure [] (22, [some (.ref 229), some (.int x1)], [], σ) = b_R C kX3_figure [] (23, [some (.ref 229), some (.int x1)], [.int ((-1))], σ) := by
  refine (e_iconst (code := kX3_figure) (pc := 22) rfl).trans ?_
  rfl
theorem b_X3_figure_23 {C : aCall} {σ : aSt} {x1 y0 : Int32} : b_R C kX3_figure [] (23, [some (.ref 229), some (.int x1)], [.int y0], σ) = some (.inl (some (.int y0)), σ) := by
  exact e_ireturn rfl
theorem n_X3_writeTo {P : aCall} {d : Nat} {σ : aSt} {t : Nat} {x2 : Int32} (hd : 1 ≤ d) : a_call a_tab P d 66 [.ref 229, .ref t, .int x2] σ = b_R (a_call a_tab P (d - 1)) kX3_writeTo [] (0, [some (.ref 229), some (.ref t), some (.int x2), none, none], [], σ) := e_call hd at_X3_writeTo rfl
theorem b_X3_writeTo_0 {C : aCall} {σ : aSt} {t c_t N_t : Nat} {x2 : Int32} (h : Sh σ) (ht : Tb σ t c_t N_t) : b_R C kX3_writeTo [] (0, [some (.ref 229), some (.ref t), some (.int x2), none, none], [], σ) = b_gd (a_in (nI 1) 10) (b_G C kX3_writeTo [] 12 15 [some (.ref 229), some (.ref t), some (.int x2), some (.int (a_I σ 234 (Int32.toNatClampNeg (nI 1)))), none] [] (C 2 [.ref t, .int x2, .int (nI 8), .int (a_I σ 234 (Int32.toNatClampNeg (nI 1)))] σ)) := by
  refine (e_aload_n (code := kX3_writeTo) (pc := 0) rfl rfl).trans ?_
  refine (e_getR (code := kX3_writeTo) (pc := 1) (c := 5) rfl (sk_229 (σ := σ) h) (sr_229_4 (σ := σ) h)).trans ?_
  refine (e_iconst (code := kX3_writeTo) (pc := 4) rfl).trans ?_
  refine (e_iaload (code := kX3_writeTo) (pc := 5) rfl (.inl (sk_234 (σ := σ) h)) (sl_234 (σ := σ) h)).trans ?_
  refine b_gd_c ?_
  refine (e_istore_n (code := kX3_writeTo) (pc := 6) rfl rfl rfl).trans ?_
  refine (e_aload_n (code := kX3_writeTo) (pc := 7) rfl rfl).trans ?_
  refine (e_iload_n (code := kX3_writeTo) (pc := 8) rfl rfl).trans ?_
  refine (e_bipush (code := kX3_writeTo) (pc := 9) rfl).trans ?_
  refine (e_iload_n (code := kX3_writeTo) (pc := 11) rfl rfl).trans ?_
  exact (e_callV (σ := σ) (code := kX3_writeTo) (pc := 12) (len := 3) (k := 2) (n := 4) (c := 16) (as := [.ref t, .int x2, .int (nI 8), .int (a_I σ 234 (Int32.toNatClampNeg (nI 1)))]) (st0 := []) rfl rfl rfl rfl rfl ht.1 rfl)
theorem b_X3_writeTo_15 {C : aCall} {σ : aSt} {t : Nat} {x2 x3 : Int32} : b_R C kX3_writeTo [] (15, [some (.ref 229), some (.ref t), some (.int x2), some (.int x3), none], [], σ) = b_R C kX3_writeTo [] (18, [some (.ref 229), some (.ref t), some (.int x2), some (.int x3), some (.int (nI 0))], [], σ) := by
  refine (e_iconst (code := kX3_writeTo) (pc := 15) rfl).trans ?_
  refine (e_istore (code := kX3_writeTo) (pc := 16) rfl rfl rfl).trans ?_
  rfl
theorem b_X3_writeTo_18 {C : aCall} {σ : aSt} {t : Nat} {x2 x3 x4 : Int32} (h : Sh σ) : b_R C kX3_writeTo [] (18, [some (.ref 229), some (.ref t), some (.int x2), some (.int x3), some (.int x4)], [], σ) = (if x4 < x3 then b_G C kX3_writeTo [] 36 39 [some (.ref 229), some (.ref t), some (.int x2), some (.int x3), some (.int x4)] [.int ((nI 9) + x4), .int x2, .ref t] (C 65 [.ref 229, .int ((nI 4) + x4)] σ) else some (.inl none, σ)) := by
  refine (e_iload (code := kX3_writeTo) (pc := 18) rfl rfl).trans ?_
  refine (e_iload_n (code := kX3_writeTo) (pc := 20) rfl rfl).trans ?_
  refine (e_icge (code := kX3_writeTo) (pc := 21) rfl).trans ?_
  refine b_ite ?_ ?_
  · refine (e_aload_n (code := kX3_writeTo) (pc := 24) rfl rfl).trans ?_
    refine (e_iload_n (code := kX3_writeTo) (pc := 25) rfl rfl).trans ?_
    refine (e_bipush (code := kX3_writeTo) (pc := 26) rfl).trans ?_
    refine (e_iload (code := kX3_writeTo) (pc := 28) rfl rfl).trans ?_
    refine (e_iadd (code := kX3_writeTo) (pc := 30) rfl).trans ?_
    refine (e_aload_n (code := kX3_writeTo) (pc := 31) rfl rfl).trans ?_
    refine (e_iconst (code := kX3_writeTo) (pc := 32) rfl).trans ?_
    refine (e_iload (code := kX3_writeTo) (pc := 33) rfl rfl).trans ?_
    refine (e_iadd (code := kX3_writeTo) (pc := 35) rfl).trans ?_
    exact (e_callV (σ := σ) (code := kX3_writeTo) (pc := 36) (len := 3) (k := 65) (n := 2) (c := 15) (as := [.ref 229, .int ((nI 4) + x4)]) (st0 := [.int ((nI 9) + x4), .int x2, .ref t]) rfl rfl rfl rfl rfl (sk_229 (σ := σ) h) rfl)
  · exact e_return_ rfl
theorem b_X3_writeTo_39 {C : aCall} {σ : aSt} {t c_t N_t : Nat} {x2 x3 x4 y0 y1 y2 : Int32} (ht : Tb σ t c_t N_t) : b_R C kX3_writeTo [] (39, [some (.ref 229), some (.ref t), some (.int x2), some (.int x3), some (.int x4)], [.int y0, .int y1, .int y2, .ref t], σ) = b_G C kX3_writeTo [] 39 42 [some (.ref 229), some (.ref t), some (.int x2), some (.int x3), some (.int x4)] [] (C 2 [.ref t, .int y2, .int y1, .int y0] σ) := by
  exact (e_callV (σ := σ) (code := kX3_writeTo) (pc := 39) (len := 3) (k := 2) (n := 4) (c := 16) (as := [.ref t, .int y2, .int y1, .int y0]) (st0 := []) rfl rfl rfl rfl rfl ht.1 rfl)
theorem b_X3_writeTo_42 {C : aCall} {σ : aSt} {t : Nat} {x2 x3 x4 : Int32} (h : Sh σ) : b_R C kX3_writeTo [] (42, [some (.ref 229), some (.ref t), some (.int x2), some (.int x3), some (.int x4)], [], σ) = b_G C kX3_writeTo [] 55 58 [some (.ref 229), some (.ref t), some (.int x2), some (.int x3), some (.int x4)] [.int ((nI 13) + x4), .int x2, .ref t] (C 65 [.ref 229, .int ((nI 7) + x4)] σ) := by
  refine (e_aload_n (code := kX3_writeTo) (pc := 42) rfl rfl).trans ?_
  refine (e_iload_n (code := kX3_writeTo) (pc := 43) rfl rfl).trans ?_
  refine (e_bipush (code := kX3_writeTo) (pc := 44) rfl).trans ?_
  refine (e_iload (code := kX3_writeTo) (pc := 46) rfl rfl).trans ?_
  refine (e_iadd (code := kX3_writeTo) (pc := 48) rfl).trans ?_
  refine (e_aload_n (code := kX3_writeTo) (pc := 49) rfl rfl).trans ?_
  refine (e_bipush (code := kX3_writeTo) (pc := 50) rfl).trans ?_
  refine (e_iload (code := kX3_writeTo) (pc := 52) rfl rfl).trans ?_
  refine (e_iadd (code := kX3_writeTo) (pc := 54) rfl).trans ?_
  exact (e_callV (σ := σ) (code := kX3_writeTo) (pc := 55) (len := 3) (k := 65) (n := 2) (c := 15) (as := [.ref 229, .int ((nI 7) + x4)]) (st0 := [.int ((nI 13) + x4), .int x2, .ref t]) rfl rfl rfl rfl rfl (sk_229 (σ := σ) h) rfl)
theorem b_X3_writeTo_58 {C : aCall} {σ : aSt} {t c_t N_t : Nat} {x2 x3 x4 y0 y1 y2 : Int32} (ht : Tb σ t c_t N_t) : b_R C kX3_writeTo [] (58, [some (.ref 229), some (.ref t), some (.int x2), some (.int x3), some (.int x4)], [.int y0, .int y1, .int y2, .ref t], σ) = b_G C kX3_writeTo [] 58 61 [some (.ref 229), some (.ref t), some (.int x2), some (.int x3), some (.int x4)] [] (C 2 [.ref t, .int y2, .int y1, .int y0] σ) := by
  exact (e_callV (σ := σ) (code := kX3_writeTo) (pc := 58) (len := 3) (k := 2) (n := 4) (c := 16) (as := [.ref t, .int y2, .int y1, .int y0]) (st0 := []) rfl rfl rfl rfl rfl ht.1 rfl)
theorem b_X3_writeTo_61 {C : aCall} {σ : aSt} {t : Nat} {x2 x3 x4 : Int32} : b_R C kX3_writeTo [] (61, [some (.ref 229), some (.ref t), some (.int x2), some (.int x3), some (.int x4)], [], σ) = b_R C kX3_writeTo [] (18, [some (.ref 229), some (.ref t), some (.int x2), some (.int x3), some (.int (x4 + nI 1))], [], σ) := by
  refine (e_iinc (code := kX3_writeTo) (pc := 61) rfl rfl rfl rfl).trans ?_
  refine (e_goto (code := kX3_writeTo) (pc := 64) rfl).trans ?_
  rfl
