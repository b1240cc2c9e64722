/-! equations of the blocks, by program (wip/whole/tools/gen21.py) -/
theorem n_X7_init {P : aCall} {d : Nat} {σ : aSt} {a0 : Nat} (hd : 1 ≤ d) : a_call a_tab P d 89 [.ref a0] σ = b_R (a_call a_tab P (d - 1)) kX7_init [] (0, [some (.ref a0)], [], σ) := e_call hd at_X7_init rfl
theorem b_X7_init_0 {C : aCall} {σ : aSt} {a0 : Nat} : b_R C kX7_init [] (0, [some (.ref a0)], [], σ) = b_G C kX7_init [] 9 12 [some (.ref a0)] [.ref (a_n σ), .ref a0] (C 32 [.ref (a_n σ)] (a_new σ 13 7 7)) := by
  refine (e_aload_n (code := kX7_init) (pc := 0) rfl rfl).trans ?_
  refine (e_objInit (code := kX7_init) (pc := 1) rfl rfl).trans ?_
  refine (e_aload_n (code := kX7_init) (pc := 4) rfl rfl).trans ?_
  refine (e_new (code := kX7_init) (pc := 5) rfl).trans ?_
  refine (e_dup (code := kX7_init) (pc := 8) (σ := (a_new σ 13 7 7)) rfl rfl).trans ?_
  exact (e_callI (code := kX7_init) (pc := 9) (len := 3) (k := 32) (n := 1) (as := [.ref (a_n σ)]) (st0 := [.ref (a_n σ), .ref a0]) rfl rfl rfl rfl rfl rfl)
theorem b_X7_init_12 {C : aCall} {σ : aSt} {a0 g0 : Nat} (hk0 : a_kd σ a0 = 19) (hn1 : 100 ≤ a0) : b_R C kX7_init [] (12, [some (.ref a0)], [.ref g0, .ref a0], σ) = b_R C kX7_init [] (15, [some (.ref a0)], [], (a_setR σ a0 0 (some g0))) := by
  refine (e_putR (code := kX7_init) (pc := 12) (c := 9) rfl hk0 hn1).trans ?_
  rfl
theorem b_X7_init_15 {C : aCall} {σ : aSt} {a0 : Nat} : b_R C kX7_init [] (15, [some (.ref a0)], [], σ) = b_G C kX7_init [] 20 23 [some (.ref a0)] [.ref (a_n σ), .ref a0] (C 32 [.ref (a_n σ)] (a_new σ 13 7 7)) := by
  refine (e_aload_n (code := kX7_init) (pc := 15) rfl rfl).trans ?_
  refine (e_new (code := kX7_init) (pc := 16) rfl).trans ?_
  refine (e_dup (code := kX7_init) (pc := 19) (σ := (a_new σ 13 7 7)) rfl rfl).trans ?_
  exact (e_callI (code := kX7_init) (pc := 20) (len := 3) (k := 32) (n := 1) (as := [.ref (a_n σ)]) (st0 := [.ref (a_n σ), .ref a0]) rfl rfl rfl rfl rfl rfl)
theorem b_X7_init_23 {C : aCall} {σ : aSt} {a0 g0 : Nat} (hk0 : a_kd σ a0 = 19) (hn1 : 100 ≤ a0) : b_R C kX7_init [] (23, [some (.ref a0)], [.ref g0, .ref a0], σ) = b_R C kX7_init [] (26, [some (.ref a0)], [], (a_setR σ a0 1 (some g0))) := by
  refine (e_putR (code := kX7_init) (pc := 23) (c := 9) rfl hk0 hn1).trans ?_
  rfl
theorem b_X7_init_26 {C : aCall} {σ : aSt} {a0 : Nat} : b_R C kX7_init [] (26, [some (.ref a0)], [], σ) = b_G C kX7_init [] 31 34 [some (.ref a0)] [.ref (a_n σ), .ref a0] (C 32 [.ref (a_n σ)] (a_new σ 13 7 7)) := by
  refine (e_aload_n (code := kX7_init) (pc := 26) rfl rfl).trans ?_
  refine (e_new (code := kX7_init) (pc := 27) rfl).trans ?_
  refine (e_dup (code := kX7_init) (pc := 30) (σ := (a_new σ 13 7 7)) rfl rfl).trans ?_
  exact (e_callI (code := kX7_init) (pc := 31) (len := 3) (k := 32) (n := 1) (as := [.ref (a_n σ)]) (st0 := [.ref (a_n σ), .ref a0]) rfl rfl rfl rfl rfl rfl)
theorem b_X7_init_34 {C : aCall} {σ : aSt} {a0 g0 : Nat} (hk0 : a_kd σ a0 = 19) (hn1 : 100 ≤ a0) : b_R C kX7_init [] (34, [some (.ref a0)], [.ref g0, .ref a0], σ) = b_R C kX7_init [] (37, [some (.ref a0)], [], (a_setR σ a0 2 (some g0))) := by
  refine (e_putR (code := kX7_init) (pc := 34) (c := 9) rfl hk0 hn1).trans ?_
  rfl
theorem b_X7_init_37 {C : aCall} {σ : aSt} {a0 : Nat} : b_R C kX7_init [] (37, [some (.ref a0)], [], σ) = b_G C kX7_init [] 42 45 [some (.ref a0)] [.ref (a_n σ), .ref a0] (C 52 [.ref (a_n σ)] (a_new σ 12 3 3)) := by
  refine (e_aload_n (code := kX7_init) (pc := 37) rfl rfl).trans ?_
  refine (e_new (code := kX7_init) (pc := 38) rfl).trans ?_
  refine (e_dup (code := kX7_init) (pc := 41) (σ := (a_new σ 12 3 3)) rfl rfl).trans ?_
  exact (e_callI (code := kX7_init) (pc := 42) (len := 3) (k := 52) (n := 1) (as := [.ref (a_n σ)]) (st0 := [.ref (a_n σ), .ref a0]) rfl rfl rfl rfl rfl rfl)
theorem b_X7_init_45 {C : aCall} {σ : aSt} {a0 g0 : Nat} (hk0 : a_kd σ a0 = 19) (hn1 : 100 ≤ a0) : b_R C kX7_init [] (45, [some (.ref a0)], [.ref g0, .ref a0], σ) = b_R C kX7_init [] (48, [some (.ref a0)], [], (a_setR σ a0 4 (some g0))) := by
  refine (e_putR (code := kX7_init) (pc := 45) (c := 9) rfl hk0 hn1).trans ?_
  rfl
theorem b_X7_init_48 {C : aCall} {σ : aSt} {a0 : Nat} : b_R C kX7_init [] (48, [some (.ref a0)], [], σ) = b_G C kX7_init [] 53 56 [some (.ref a0)] [.ref (a_n σ), .ref a0] (C 13 [.ref (a_n σ)] (a_new σ 18 10 10)) := by
  refine (e_aload_n (code := kX7_init) (pc := 48) rfl rfl).trans ?_
  refine (e_new (code := kX7_init) (pc := 49) rfl).trans ?_
  refine (e_dup (code := kX7_init) (pc := 52) (σ := (a_new σ 18 10 10)) rfl rfl).trans ?_
  exact (e_callI (code := kX7_init) (pc := 53) (len := 3) (k := 13) (n := 1) (as := [.ref (a_n σ)]) (st0 := [.ref (a_n σ), .ref a0]) rfl rfl rfl rfl rfl rfl)
theorem b_X7_init_56 {C : aCall} {σ : aSt} {a0 g0 : Nat} (hk0 : a_kd σ a0 = 19) (hn1 : 100 ≤ a0) : b_R C kX7_init [] (56, [some (.ref a0)], [.ref g0, .ref a0], σ) = b_R C kX7_init [] (59, [some (.ref a0)], [], (a_setR σ a0 5 (some g0))) := by
  refine (e_putR (code := kX7_init) (pc := 56) (c := 9) rfl hk0 hn1).trans ?_
  rfl
theorem b_X7_init_59 {C : aCall} {σ : aSt} {a0 : Nat} : b_R C kX7_init [] (59, [some (.ref a0)], [], σ) = b_G C kX7_init [] 64 67 [some (.ref a0)] [.ref (a_n σ), .ref a0] (C 67 [.ref (a_n σ)] (a_new σ 17 2 2)) := by
  refine (e_aload_n (code := kX7_init) (pc := 59) rfl rfl).trans ?_
  refine (e_new (code := kX7_init) (pc := 60) rfl).trans ?_
  refine (e_dup (code := kX7_init) (pc := 63) (σ := (a_new σ 17 2 2)) rfl rfl).trans ?_
  exact (e_callI (code := kX7_init) (pc := 64) (len := 3) (k := 67) (n := 1) (as := [.ref (a_n σ)]) (st0 := [.ref (a_n σ), .ref a0]) rfl rfl rfl rfl rfl rfl)
theorem b_X7_init_67 {C : aCall} {σ : aSt} {a0 g0 : Nat} (hk0 : a_kd σ a0 = 19) (hn1 : 100 ≤ a0) : b_R C kX7_init [] (67, [some (.ref a0)], [.ref g0, .ref a0], σ) = b_R C kX7_init [] (70, [some (.ref a0)], [], (a_setR σ a0 6 (some g0))) := by
  refine (e_putR (code := kX7_init) (pc := 67) (c := 9) rfl hk0 hn1).trans ?_
  rfl
theorem b_X7_init_70 {C : aCall} {σ : aSt} {a0 : Nat} : b_R C kX7_init [] (70, [some (.ref a0)], [], σ) = b_G C kX7_init [] 75 78 [some (.ref a0)] [.ref (a_n σ), .ref a0] (C 80 [.ref (a_n σ)] (a_new σ 14 2 2)) := by
  refine (e_aload_n (code := kX7_init) (pc := 70) rfl rfl).trans ?_
  refine (e_new (code := kX7_init) (pc := 71) rfl).trans ?_
  refine (e_dup (code := kX7_init) (pc := 74) (σ := (a_new σ 14 2 2)) rfl rfl).trans ?_
  exact (e_callI (code := kX7_init) (pc := 75) (len := 3) (k := 80) (n := 1) (as := [.ref (a_n σ)]) (st0 := [.ref (a_n σ), .ref a0]) rfl rfl rfl rfl rfl rfl)
theorem b_X7_init_78 {C : aCall} {σ : aSt} {a0 g0 : Nat} (hk0 : a_kd σ a0 = 19) (hn1 : 100 ≤ a0) : b_R C kX7_init [] (78, [some (.ref a0)], [.ref g0, .ref a0], σ) = b_R C kX7_init [] (81, [some (.ref a0)], [], (a_setR σ a0 7 (some g0))) := by
  refine (e_putR (code := kX7_init) (pc := 78) (c := 9) rfl hk0 hn1).trans ?_
  rfl
theorem b_X7_init_81 {C : aCall} {σ : aSt} {a0 : Nat} : b_R C kX7_init [] (81, [some (.ref a0)], [], σ) = b_G C kX7_init [] 86 89 [some (.ref a0)] [.ref (a_n σ), .ref a0] (C 57 [.ref (a_n σ)] (a_new σ 15 11 11)) := by
  refine (e_aload_n (code := kX7_init) (pc := 81) rfl rfl).trans ?_
  refine (e_new (code := kX7_init) (pc := 82) rfl).trans ?_
  refine (e_dup (code := kX7_init) (pc := 85) (σ := (a_new σ 15 11 11)) rfl rfl).trans ?_
  exact (e_callI (code := kX7_init) (pc := 86) (len := 3) (k := 57) (n := 1) (as := [.ref (a_n σ)]) (st0 := [.ref (a_n σ), .ref a0]) rfl rfl rfl rfl rfl rfl)
theorem b_X7_init_89 {C : aCall} {σ : aSt} {a0 g0 : Nat} (hk0 : a_kd σ a0 = 19) (hn1 : 100 ≤ a0) : b_R C kX7_init [] (89, [some (.ref a0)], [.ref g0, .ref a0], σ) = b_R C kX7_init [] (92, [some (.ref a0)], [], (a_setR σ a0 8 (some g0))) := by
  refine (e_putR (code := kX7_init) (pc := 89) (c := 9) rfl hk0 hn1).trans ?_
  rfl
theorem b_X7_init_92 {C : aCall} {σ : aSt} {a0 : Nat} : b_R C kX7_init [] (92, [some (.ref a0)], [], σ) = b_G C kX7_init [] 97 100 [some (.ref a0)] [.ref (a_n σ), .ref a0] (C 1010 [.ref (a_n σ)] (a_new σ 11 4 4)) := by
  refine (e_aload_n (code := kX7_init) (pc := 92) rfl rfl).trans ?_
  refine (e_new (code := kX7_init) (pc := 93) rfl).trans ?_
  refine (e_dup (code := kX7_init) (pc := 96) (σ := (a_new σ 11 4 4)) rfl rfl).trans ?_
  exact (e_callI (code := kX7_init) (pc := 97) (len := 3) (k := 1010) (n := 1) (as := [.ref (a_n σ)]) (st0 := [.ref (a_n σ), .ref a0]) rfl rfl rfl rfl rfl rfl)
theorem b_X7_init_100 {C : aCall} {σ : aSt} {a0 g0 : Nat} (hk0 : a_kd σ a0 = 19) (hn1 : 100 ≤ a0) : b_R C kX7_init [] (100, [some (.ref a0)], [.ref g0, .ref a0], σ) = b_R C kX7_init [] (103, [some (.ref a0)], [], (a_setR σ a0 9 (some g0))) := by
  refine (e_putR (code := kX7_init) (pc := 100) (c := 9) rfl hk0 hn1).trans ?_
  rfl
theorem b_X7_init_103 {C : aCall} {σ : aSt} {r1 a0 : Nat} (hk0 : a_kd σ a0 = 19) (hr1 : a_R σ a0 0 = some r1) (hk2 : a_kd σ r1 = 13) : b_R C kX7_init [] (103, [some (.ref a0)], [], σ) = b_G C kX7_init [] 107 110 [some (.ref a0)] [] (C 33 [.ref r1] σ) := by
  refine (e_aload_n (code := kX7_init) (pc := 103) rfl rfl).trans ?_
  refine (e_getR (code := kX7_init) (pc := 104) (c := 9) rfl hk0 hr1).trans ?_
  exact (e_callV (σ := σ) (code := kX7_init) (pc := 107) (len := 3) (k := 33) (n := 1) (c := 13) (as := [.ref r1]) (st0 := []) rfl rfl rfl rfl rfl hk2 rfl)
theorem b_X7_init_110 {C : aCall} {σ : aSt} {a0 : Nat} : b_R C kX7_init [] (110, [some (.ref a0)], [], σ) = some (.inl none, σ) := by
  exact e_return_ rfl
theorem n_X7_feed {P : aCall} {d : Nat} {σ : aSt} {x1 x2 x3 x4 x5 : Int32} (hd : 1 ≤ d) : a_call a_tab P d 90 [.ref 100, .int x1, .int x2, .int x3, .int x4, .int x5] σ = b_R (a_call a_tab P (d - 1)) kX7_feed [] (0, [some (.ref 100), some (.int x1), some (.int x2), some (.int x3), some (.int x4), some (.int x5)], [], σ) := e_call hd at_X7_feed rfl
theorem b_X7_feed_0 {C : aCall} {σ : aSt} {x1 x2 x3 x4 x5 : Int32} (h : Sh σ) : b_R C kX7_feed [] (0, [some (.ref 100), some (.int x1), some (.int x2), some (.int x3), some (.int x4), some (.int x5)], [], σ) = b_G C kX7_feed [] 6 9 [some (.ref 100), some (.int x1), some (.int x2), some (.int x3), some (.int x4), some (.int x5)] [] (C 14 [.ref 220, .int (nI 20)] σ) := by
  refine (e_aload_n (code := kX7_feed) (pc := 0) rfl rfl).trans ?_
  refine (e_getR (code := kX7_feed) (pc := 1) (c := 9) rfl (sk_100 (σ := σ) h) (sr_100_5 (σ := σ) h)).trans ?_
  refine (e_bipush (code := kX7_feed) (pc := 4) rfl).trans ?_
  exact (e_callV (σ := σ) (code := kX7_feed) (pc := 6) (len := 3) (k := 14) (n := 2) (c := 18) (as := [.ref 220, .int (nI 20)]) (st0 := []) rfl rfl rfl rfl rfl (sk_220 (σ := σ) h) rfl)
theorem b_X7_feed_9 {C : aCall} {σ : aSt} {x1 x2 x3 x4 x5 y0 : Int32} (h : Sh σ) : b_R C kX7_feed [] (9, [some (.ref 100), some (.int x1), some (.int x2), some (.int x3), some (.int x4), some (.int x5)], [.int y0], σ) = (if y0 = 0 then some (.inl (some (.int ((-1)))), σ) else b_G C kX7_feed [] 19 22 [some (.ref 100), some (.int x1), some (.int x2), some (.int x3), some (.int x4), some (.int x5)] [] (C 15 [.ref 220, .int x1] σ)) := by
  refine (e_ifne (code := kX7_feed) (pc := 9) rfl).trans ?_
  refine b_ite ?_ ?_
  · refine (e_iconst (code := kX7_feed) (pc := 12) rfl).trans ?_
    exact e_ireturn rfl
  · refine (e_aload_n (code := kX7_feed) (pc := 14) rfl rfl).trans ?_
    refine (e_getR (code := kX7_feed) (pc := 15) (c := 9) rfl (sk_100 (σ := σ) h) (sr_100_5 (σ := σ) h)).trans ?_
    refine (e_iload_n (code := kX7_feed) (pc := 18) rfl rfl).trans ?_
    exact (e_callV (σ := σ) (code := kX7_feed) (pc := 19) (len := 3) (k := 15) (n := 2) (c := 18) (as := [.ref 220, .int x1]) (st0 := []) rfl rfl rfl rfl rfl (sk_220 (σ := σ) h) rfl)
theorem b_X7_feed_22 {C : aCall} {σ : aSt} {x1 x2 x3 x4 x5 : Int32} (h : Sh σ) : b_R C kX7_feed [] (22, [some (.ref 100), some (.int x1), some (.int x2), some (.int x3), some (.int x4), some (.int x5)], [], σ) = b_G C kX7_feed [] 27 30 [some (.ref 100), some (.int x1), some (.int x2), some (.int x3), some (.int x4), some (.int x5)] [] (C 15 [.ref 220, .int x2] σ) := by
  refine (e_aload_n (code := kX7_feed) (pc := 22) rfl rfl).trans ?_
  refine (e_getR (code := kX7_feed) (pc := 23) (c := 9) rfl (sk_100 (σ := σ) h) (sr_100_5 (σ := σ) h)).trans ?_
  refine (e_iload_n (code := kX7_feed) (pc := 26) rfl rfl).trans ?_
  exact (e_callV (σ := σ) (code := kX7_feed) (pc := 27) (len := 3) (k := 15) (n := 2) (c := 18) (as := [.ref 220, .int x2]) (st0 := []) rfl rfl rfl rfl rfl (sk_220 (σ := σ) h) rfl)
theorem b_X7_feed_30 {C : aCall} {σ : aSt} {x1 x2 x3 x4 x5 : Int32} (h : Sh σ) : b_R C kX7_feed [] (30, [some (.ref 100), some (.int x1), some (.int x2), some (.int x3), some (.int x4), some (.int x5)], [], σ) = b_G C kX7_feed [] 35 38 [some (.ref 100), some (.int x1), some (.int x2), some (.int x3), some (.int x4), some (.int x5)] [] (C 15 [.ref 220, .int x3] σ) := by
  refine (e_aload_n (code := kX7_feed) (pc := 30) rfl rfl).trans ?_
  refine (e_getR (code := kX7_feed) (pc := 31) (c := 9) rfl (sk_100 (σ := σ) h) (sr_100_5 (σ := σ) h)).trans ?_
  refine (e_iload_n (code := kX7_feed) (pc := 34) rfl rfl).trans ?_
  exact (e_callV (σ := σ) (code := kX7_feed) (pc := 35) (len := 3) (k := 15) (n := 2) (c := 18) (as := [.ref 220, .int x3]) (st0 := []) rfl rfl rfl rfl rfl (sk_220 (σ := σ) h) rfl)
theorem b_X7_feed_38 {C : aCall} {σ : aSt} {x1 x2 x3 x4 x5 : Int32} (h : Sh σ) : b_R C kX7_feed [] (38, [some (.ref 100), some (.int x1), some (.int x2), some (.int x3), some (.int x4), some (.int x5)], [], σ) = b_G C kX7_feed [] 44 47 [some (.ref 100), some (.int x1), some (.int x2), some (.int x3), some (.int x4), some (.int x5)] [] (C 15 [.ref 220, .int x4] σ) := by
  refine (e_aload_n (code := kX7_feed) (pc := 38) rfl rfl).trans ?_
  refine (e_getR (code := kX7_feed) (pc := 39) (c := 9) rfl (sk_100 (σ := σ) h) (sr_100_5 (σ := σ) h)).trans ?_
  refine (e_iload (code := kX7_feed) (pc := 42) rfl rfl).trans ?_
  exact (e_callV (σ := σ) (code := kX7_feed) (pc := 44) (len := 3) (k := 15) (n := 2) (c := 18) (as := [.ref 220, .int x4]) (st0 := []) rfl rfl rfl rfl rfl (sk_220 (σ := σ) h) rfl)
theorem b_X7_feed_47 {C : aCall} {σ : aSt} {x1 x2 x3 x4 x5 : Int32} (h : Sh σ) : b_R C kX7_feed [] (47, [some (.ref 100), some (.int x1), some (.int x2), some (.int x3), some (.int x4), some (.int x5)], [], σ) = b_G C kX7_feed [] 53 56 [some (.ref 100), some (.int x1), some (.int x2), some (.int x3), some (.int x4), some (.int x5)] [] (C 15 [.ref 220, .int x5] σ) := by
  refine (e_aload_n (code := kX7_feed) (pc := 47) rfl rfl).trans ?_
  refine (e_getR (code := kX7_feed) (pc := 48) (c := 9) rfl (sk_100 (σ := σ) h) (sr_100_5 (σ := σ) h)).trans ?_
  refine (e_iload (code := kX7_feed) (pc := 51) rfl rfl).trans ?_
  exact (e_callV (σ := σ) (code := kX7_feed) (pc := 53) (len := 3) (k := 15) (n := 2) (c := 18) (as := [.ref 220, .int x5]) (st0 := []) rfl rfl rfl rfl rfl (sk_220 (σ := σ) h) rfl)
theorem b_X7_feed_56 {C : aCall} {σ : aSt} {x1 x2 x3 x4 x5 : Int32} (h : Sh σ) : b_R C kX7_feed [] (56, [some (.ref 100), some (.int x1), some (.int x2), some (.int x3), some (.int x4), some (.int x5)], [], σ) = some (.inl (some (.int (a_I σ 220 1))), σ) := by
  refine (e_aload_n (code := kX7_feed) (pc := 56) rfl rfl).trans ?_
  refine (e_getR (code := kX7_feed) (pc := 57) (c := 9) rfl (sk_100 (σ := σ) h) (sr_100_5 (σ := σ) h)).trans ?_
  refine (e_getI (code := kX7_feed) (pc := 60) (c := 8) rfl (sk_220 (σ := σ) h) rfl).trans ?_
  exact e_ireturn rfl
theorem n_X7_load {P : aCall} {d : Nat} {σ : aSt} {x1 : Int32} (hd : 1 ≤ d) : a_call a_tab P d 91 [.ref 100, .int x1] σ = b_R (a_call a_tab P (d - 1)) kX7_load [] (0, [some (.ref 100), some (.int x1), none], [], σ) := e_call hd at_X7_load rfl
theorem b_X7_load_0 {C : aCall} {σ : aSt} {x1 : Int32} (h : Sh σ) : b_R C kX7_load [] (0, [some (.ref 100), some (.int x1), none], [], σ) = b_G C kX7_load [] 5 8 [some (.ref 100), some (.int x1), none] [] (C 139 [.ref 100, .int x1, .int (nI 900)] σ) := by
  refine (e_aload_n (code := kX7_load) (pc := 0) rfl rfl).trans ?_
  refine (e_iload_n (code := kX7_load) (pc := 1) rfl rfl).trans ?_
  refine (e_sipush (code := kX7_load) (pc := 2) rfl).trans ?_
  exact (e_callV (σ := σ) (code := kX7_load) (pc := 5) (len := 3) (k := 139) (n := 3) (c := 19) (as := [.ref 100, .int x1, .int (nI 900)]) (st0 := []) rfl rfl rfl rfl rfl (sk_100 (σ := σ) h) rfl)
theorem b_X7_load_8 {C : aCall} {σ : aSt} {x1 : Int32} (h : Sh σ) : b_R C kX7_load [] (8, [some (.ref 100), some (.int x1), none], [], σ) = b_G C kX7_load [] 13 16 [some (.ref 100), some (.int x1), none] [] (C 17 [.ref 220, .int x1] σ) := by
  refine (e_aload_n (code := kX7_load) (pc := 8) rfl rfl).trans ?_
  refine (e_getR (code := kX7_load) (pc := 9) (c := 9) rfl (sk_100 (σ := σ) h) (sr_100_5 (σ := σ) h)).trans ?_
  refine (e_iload_n (code := kX7_load) (pc := 12) rfl rfl).trans ?_
  exact (e_callV (σ := σ) (code := kX7_load) (pc := 13) (len := 3) (k := 17) (n := 2) (c := 18) (as := [.ref 220, .int x1]) (st0 := []) rfl rfl rfl rfl rfl (sk_220 (σ := σ) h) rfl)
theorem b_X7_load_16 {C : aCall} {σ : aSt} {x1 : Int32} (h : Sh σ) : b_R C kX7_load [] (16, [some (.ref 100), some (.int x1), none], [], σ) = b_G C kX7_load [] 28 31 [some (.ref 100), some (.int x1), none] [] (C 68 [.ref 223, .ref 220, .ref 110] σ) := by
  refine (e_aload_n (code := kX7_load) (pc := 16) rfl rfl).trans ?_
  refine (e_getR (code := kX7_load) (pc := 17) (c := 9) rfl (sk_100 (σ := σ) h) (sr_100_6 (σ := σ) h)).trans ?_
  refine (e_aload_n (code := kX7_load) (pc := 20) rfl rfl).trans ?_
  refine (e_getR (code := kX7_load) (pc := 21) (c := 9) rfl (sk_100 (σ := σ) h) (sr_100_5 (σ := σ) h)).trans ?_
  refine (e_aload_n (code := kX7_load) (pc := 24) rfl rfl).trans ?_
  refine (e_getR (code := kX7_load) (pc := 25) (c := 9) rfl (sk_100 (σ := σ) h) (sr_100_1 (σ := σ) h)).trans ?_
  exact (e_callV (σ := σ) (code := kX7_load) (pc := 28) (len := 3) (k := 68) (n := 3) (c := 17) (as := [.ref 223, .ref 220, .ref 110]) (st0 := []) rfl rfl rfl rfl rfl (sk_223 (σ := σ) h) rfl)
theorem b_X7_load_31 {C : aCall} {σ : aSt} {x1 y0 : Int32} (h : Sh σ) : b_R C kX7_load [] (31, [some (.ref 100), some (.int x1), none], [.int y0], σ) = b_G C kX7_load [] 36 39 [some (.ref 100), some (.int x1), some (.int y0)] [] (C 16 [.ref 220] σ) := by
  refine (e_istore_n (code := kX7_load) (pc := 31) rfl rfl rfl).trans ?_
  refine (e_aload_n (code := kX7_load) (pc := 32) rfl rfl).trans ?_
  refine (e_getR (code := kX7_load) (pc := 33) (c := 9) rfl (sk_100 (σ := σ) h) (sr_100_5 (σ := σ) h)).trans ?_
  exact (e_callV (σ := σ) (code := kX7_load) (pc := 36) (len := 3) (k := 16) (n := 1) (c := 18) (as := [.ref 220]) (st0 := []) rfl rfl rfl rfl rfl (sk_220 (σ := σ) h) rfl)
theorem b_X7_load_39 {C : aCall} {σ : aSt} {x1 x2 : Int32} (h : Sh σ) : b_R C kX7_load [] (39, [some (.ref 100), some (.int x1), some (.int x2)], [], σ) = (if x2 = 0 then some (.inl (some (.int (((-10)) - (a_I σ 220 8)))), σ) else b_G C kX7_load [] 62 65 [some (.ref 100), some (.int x1), some (.int x2)] [] (C 35 [.ref 101, .ref 110] σ)) := by
  refine (e_iload_n (code := kX7_load) (pc := 39) rfl rfl).trans ?_
  refine (e_ifne (code := kX7_load) (pc := 40) rfl).trans ?_
  refine b_ite ?_ ?_
  · refine (e_bipush (code := kX7_load) (pc := 43) rfl).trans ?_
    refine (e_aload_n (code := kX7_load) (pc := 45) rfl rfl).trans ?_
    refine (e_getR (code := kX7_load) (pc := 46) (c := 9) rfl (sk_100 (σ := σ) h) (sr_100_5 (σ := σ) h)).trans ?_
    refine (e_getI (code := kX7_load) (pc := 49) (c := 8) rfl (sk_220 (σ := σ) h) rfl).trans ?_
    refine (e_isub (code := kX7_load) (pc := 52) rfl).trans ?_
    exact e_ireturn rfl
  · refine (e_aload_n (code := kX7_load) (pc := 54) rfl rfl).trans ?_
    refine (e_getR (code := kX7_load) (pc := 55) (c := 9) rfl (sk_100 (σ := σ) h) (sr_100_0 (σ := σ) h)).trans ?_
    refine (e_aload_n (code := kX7_load) (pc := 58) rfl rfl).trans ?_
    refine (e_getR (code := kX7_load) (pc := 59) (c := 9) rfl (sk_100 (σ := σ) h) (sr_100_1 (σ := σ) h)).trans ?_
    exact (e_callV (σ := σ) (code := kX7_load) (pc := 62) (len := 3) (k := 35) (n := 2) (c := 13) (as := [.ref 101, .ref 110]) (st0 := []) rfl rfl rfl rfl rfl (sk_101 (σ := σ) h) rfl)
theorem b_X7_load_65 {C : aCall} {σ : aSt} {x1 x2 : Int32} (h : Sh σ) : b_R C kX7_load [] (65, [some (.ref 100), some (.int x1), some (.int x2)], [], σ) = b_G C kX7_load [] 69 72 [some (.ref 100), some (.int x1), some (.int x2)] [] (C 54 [.ref 128] σ) := by
  refine (e_aload_n (code := kX7_load) (pc := 65) rfl rfl).trans ?_
  refine (e_getR (code := kX7_load) (pc := 66) (c := 9) rfl (sk_100 (σ := σ) h) (sr_100_4 (σ := σ) h)).trans ?_
  exact (e_callV (σ := σ) (code := kX7_load) (pc := 69) (len := 3) (k := 54) (n := 1) (c := 12) (as := [.ref 128]) (st0 := []) rfl rfl rfl rfl rfl (sk_128 (σ := σ) h) rfl)
theorem b_X7_load_72 {C : aCall} {σ : aSt} {x1 x2 : Int32} (h : Sh σ) : b_R C kX7_load [] (72, [some (.ref 100), some (.int x1), some (.int x2)], [], σ) = some (.inl (some (.int (a_I (a_setI σ 100 3 (nI 0)) 102 2))), (a_setI σ 100 3 (nI 0))) := by
  refine (e_aload_n (code := kX7_load) (pc := 72) rfl rfl).trans ?_
  refine (e_iconst (code := kX7_load) (pc := 73) rfl).trans ?_
  refine (e_putZ (code := kX7_load) (pc := 74) (c := 9) rfl (sk_100 (σ := σ) h) (h_100 rfl) (.inl rfl)).trans ?_
  refine (e_aload_n (code := kX7_load) (pc := 77) (σ := (a_setI σ 100 3 (nI 0))) rfl rfl).trans ?_
  refine (e_getR (code := kX7_load) (pc := 78) (σ := (a_setI σ 100 3 (nI 0))) (c := 9) rfl (sk_100 (σ := σ) h) (sr_100_0 (σ := σ) h)).trans ?_
  refine (e_getR (code := kX7_load) (pc := 81) (σ := (a_setI σ 100 3 (nI 0))) (c := 3) rfl (sk_101 (σ := σ) h) (sr_101_0 (σ := σ) h)).trans ?_
  refine (e_getI (code := kX7_load) (pc := 84) (σ := (a_setI σ 100 3 (nI 0))) (c := 6) rfl (sk_102 (σ := σ) h) rfl).trans ?_
  exact e_ireturn rfl
theorem n_X7_errorPosition {P : aCall} {d : Nat} {σ : aSt} (hd : 1 ≤ d) : a_call a_tab P d 92 [.ref 100] σ = b_R (a_call a_tab P (d - 1)) kX7_errorPosition [] (0, [some (.ref 100)], [], σ) := e_call hd at_X7_errorPosition rfl
theorem b_X7_errorPosition_0 {C : aCall} {σ : aSt} (h : Sh σ) : b_R C kX7_errorPosition [] (0, [some (.ref 100)], [], σ) = some (.inl (some (.int (a_I σ 220 9))), σ) := by
  refine (e_aload_n (code := kX7_errorPosition) (pc := 0) rfl rfl).trans ?_
  refine (e_getR (code := kX7_errorPosition) (pc := 1) (c := 9) rfl (sk_100 (σ := σ) h) (sr_100_5 (σ := σ) h)).trans ?_
  refine (e_getI (code := kX7_errorPosition) (pc := 4) (c := 8) rfl (sk_220 (σ := σ) h) rfl).trans ?_
  exact e_ireturn rfl
theorem n_X7_mixed {P : aCall} {d : Nat} {σ : aSt} {x1 : Int32} (hd : 1 ≤ d) : a_call a_tab P d 93 [.ref 100, .int x1] σ = b_R (a_call a_tab P (d - 1)) kX7_mixed [] (0, [some (.ref 100), some (.int x1), none], [], σ) := e_call hd at_X7_mixed rfl
theorem b_X7_mixed_0 {C : aCall} {σ : aSt} {x1 : Int32} (h : Sh σ) : b_R C kX7_mixed [] (0, [some (.ref 100), some (.int x1), none], [], σ) = b_G C kX7_mixed [] 5 8 [some (.ref 100), some (.int x1), none] [] (C 139 [.ref 100, .int x1, .int (nI 200)] σ) := by
  refine (e_aload_n (code := kX7_mixed) (pc := 0) rfl rfl).trans ?_
  refine (e_iload_n (code := kX7_mixed) (pc := 1) rfl rfl).trans ?_
  refine (e_sipush (code := kX7_mixed) (pc := 2) rfl).trans ?_
  exact (e_callV (σ := σ) (code := kX7_mixed) (pc := 5) (len := 3) (k := 139) (n := 3) (c := 19) (as := [.ref 100, .int x1, .int (nI 200)]) (st0 := []) rfl rfl rfl rfl rfl (sk_100 (σ := σ) h) rfl)
theorem b_X7_mixed_8 {C : aCall} {σ : aSt} {x1 : Int32} (h : Sh σ) : b_R C kX7_mixed [] (8, [some (.ref 100), some (.int x1), none], [], σ) = b_G C kX7_mixed [] 13 16 [some (.ref 100), some (.int x1), none] [] (C 17 [.ref 220, .int x1] σ) := by
  refine (e_aload_n (code := kX7_mixed) (pc := 8) rfl rfl).trans ?_
  refine (e_getR (code := kX7_mixed) (pc := 9) (c := 9) rfl (sk_100 (σ := σ) h) (sr_100_5 (σ := σ) h)).trans ?_
  refine (e_iload_n (code := kX7_mixed) (pc := 12) rfl rfl).trans ?_
  exact (e_callV (σ := σ) (code := kX7_mixed) (pc := 13) (len := 3) (k := 17) (n := 2) (c := 18) (as := [.ref 220, .int x1]) (st0 := []) rfl rfl rfl rfl rfl (sk_220 (σ := σ) h) rfl)
theorem b_X7_mixed_16 {C : aCall} {σ : aSt} {x1 : Int32} (h : Sh σ) : b_R C kX7_mixed [] (16, [some (.ref 100), some (.int x1), none], [], σ) = b_G C kX7_mixed [] 28 31 [some (.ref 100), some (.int x1), none] [] (C 77 [.ref 223, .ref 220, .ref 101] σ) := by
  refine (e_aload_n (code := kX7_mixed) (pc := 16) rfl rfl).trans ?_
  refine (e_getR (code := kX7_mixed) (pc := 17) (c := 9) rfl (sk_100 (σ := σ) h) (sr_100_6 (σ := σ) h)).trans ?_
  refine (e_aload_n (code := kX7_mixed) (pc := 20) rfl rfl).trans ?_
  refine (e_getR (code := kX7_mixed) (pc := 21) (c := 9) rfl (sk_100 (σ := σ) h) (sr_100_5 (σ := σ) h)).trans ?_
  refine (e_aload_n (code := kX7_mixed) (pc := 24) rfl rfl).trans ?_
  refine (e_getR (code := kX7_mixed) (pc := 25) (c := 9) rfl (sk_100 (σ := σ) h) (sr_100_0 (σ := σ) h)).trans ?_
  exact (e_callV (σ := σ) (code := kX7_mixed) (pc := 28) (len := 3) (k := 77) (n := 3) (c := 17) (as := [.ref 223, .ref 220, .ref 101]) (st0 := []) rfl rfl rfl rfl rfl (sk_223 (σ := σ) h) rfl)
theorem b_X7_mixed_31 {C : aCall} {σ : aSt} {x1 y0 : Int32} (h : Sh σ) : b_R C kX7_mixed [] (31, [some (.ref 100), some (.int x1), none], [.int y0], σ) = b_G C kX7_mixed [] 36 39 [some (.ref 100), some (.int x1), some (.int y0)] [] (C 16 [.ref 220] σ) := by
  refine (e_istore_n (code := kX7_mixed) (pc := 31) rfl rfl rfl).trans ?_
  refine (e_aload_n (code := kX7_mixed) (pc := 32) rfl rfl).trans ?_
  refine (e_getR (code := kX7_mixed) (pc := 33) (c := 9) rfl (sk_100 (σ := σ) h) (sr_100_5 (σ := σ) h)).trans ?_
  exact (e_callV (σ := σ) (code := kX7_mixed) (pc := 36) (len := 3) (k := 16) (n := 1) (c := 18) (as := [.ref 220]) (st0 := []) rfl rfl rfl rfl rfl (sk_220 (σ := σ) h) rfl)
theorem b_X7_mixed_39 {C : aCall} {σ : aSt} {x1 x2 : Int32} (h : Sh σ) : b_R C kX7_mixed [] (39, [some (.ref 100), some (.int x1), some (.int x2)], [], σ) = (if x2 = 0 then b_R C kX7_mixed [] (71, [some (.ref 100), some (.int x1), some (.int x2)], [.int (((-10)) - (a_I σ 220 8))], σ) else b_G C kX7_mixed [] 55 58 [some (.ref 100), some (.int x1), some (.int x2)] [] (C 45 [.ref 101, .ref 224, .int (nI 0)] σ)) := by
  refine (e_iload_n (code := kX7_mixed) (pc := 39) rfl rfl).trans ?_
  refine (e_ifeq (code := kX7_mixed) (pc := 40) rfl).trans ?_
  refine b_ite ?_ ?_
  · refine (e_bipush (code := kX7_mixed) (pc := 61) rfl).trans ?_
    refine (e_aload_n (code := kX7_mixed) (pc := 63) rfl rfl).trans ?_
    refine (e_getR (code := kX7_mixed) (pc := 64) (c := 9) rfl (sk_100 (σ := σ) h) (sr_100_5 (σ := σ) h)).trans ?_
    refine (e_getI (code := kX7_mixed) (pc := 67) (c := 8) rfl (sk_220 (σ := σ) h) rfl).trans ?_
    refine (e_isub (code := kX7_mixed) (pc := 70) rfl).trans ?_
    rfl
  · refine (e_aload_n (code := kX7_mixed) (pc := 43) rfl rfl).trans ?_
    refine (e_getR (code := kX7_mixed) (pc := 44) (c := 9) rfl (sk_100 (σ := σ) h) (sr_100_0 (σ := σ) h)).trans ?_
    refine (e_aload_n (code := kX7_mixed) (pc := 47) rfl rfl).trans ?_
    refine (e_getR (code := kX7_mixed) (pc := 48) (c := 9) rfl (sk_100 (σ := σ) h) (sr_100_6 (σ := σ) h)).trans ?_
    refine (e_getR (code := kX7_mixed) (pc := 51) (c := 7) rfl (sk_223 (σ := σ) h) (sr_223_0 (σ := σ) h)).trans ?_
    refine (e_iconst (code := kX7_mixed) (pc := 54) rfl).trans ?_
    exact (e_callV (σ := σ) (code := kX7_mixed) (pc := 55) (len := 3) (k := 45) (n := 3) (c := 13) (as := [.ref 101, .ref 224, .int (nI 0)]) (st0 := []) rfl rfl rfl rfl rfl (sk_101 (σ := σ) h) rfl)
theorem b_X7_mixed_58 {C : aCall} {σ : aSt} {x1 x2 y0 : Int32} : b_R C kX7_mixed [] (58, [some (.ref 100), some (.int x1), some (.int x2)], [.int y0], σ) = b_R C kX7_mixed [] (71, [some (.ref 100), some (.int x1), some (.int x2)], [.int y0], σ) := by
  refine (e_goto (code := kX7_mixed) (pc := 58) rfl).trans ?_
  rfl
theorem b_X7_mixed_71 {C : aCall} {σ : aSt} {x1 x2 y0 : Int32} : b_R C kX7_mixed [] (71, [some (.ref 100), some (.int x1), some (.int x2)], [.int y0], σ) = some (.inl (some (.int y0)), σ) := by
  exact e_ireturn rfl
theorem n_X7_query {P : aCall} {d : Nat} {σ : aSt} {x1 : Int32} (hd : 1 ≤ d) : a_call a_tab P d 94 [.ref 100, .int x1] σ = b_R (a_call a_tab P (d - 1)) kX7_query [] (0, [some (.ref 100), some (.int x1), none], [], σ) := e_call hd at_X7_query rfl
theorem b_X7_query_0 {C : aCall} {σ : aSt} {x1 : Int32} (h : Sh σ) : b_R C kX7_query [] (0, [some (.ref 100), some (.int x1), none], [], σ) = b_G C kX7_query [] 5 8 [some (.ref 100), some (.int x1), none] [] (C 139 [.ref 100, .int x1, .int (nI 200)] σ) := by
  refine (e_aload_n (code := kX7_query) (pc := 0) rfl rfl).trans ?_
  refine (e_iload_n (code := kX7_query) (pc := 1) rfl rfl).trans ?_
  refine (e_sipush (code := kX7_query) (pc := 2) rfl).trans ?_
  exact (e_callV (σ := σ) (code := kX7_query) (pc := 5) (len := 3) (k := 139) (n := 3) (c := 19) (as := [.ref 100, .int x1, .int (nI 200)]) (st0 := []) rfl rfl rfl rfl rfl (sk_100 (σ := σ) h) rfl)
theorem b_X7_query_8 {C : aCall} {σ : aSt} {x1 : Int32} (h : Sh σ) : b_R C kX7_query [] (8, [some (.ref 100), some (.int x1), none], [], σ) = b_G C kX7_query [] 13 16 [some (.ref 100), some (.int x1), none] [] (C 17 [.ref 220, .int x1] σ) := by
  refine (e_aload_n (code := kX7_query) (pc := 8) rfl rfl).trans ?_
  refine (e_getR (code := kX7_query) (pc := 9) (c := 9) rfl (sk_100 (σ := σ) h) (sr_100_5 (σ := σ) h)).trans ?_
  refine (e_iload_n (code := kX7_query) (pc := 12) rfl rfl).trans ?_
  exact (e_callV (σ := σ) (code := kX7_query) (pc := 13) (len := 3) (k := 17) (n := 2) (c := 18) (as := [.ref 220, .int x1]) (st0 := []) rfl rfl rfl rfl rfl (sk_220 (σ := σ) h) rfl)
theorem b_X7_query_16 {C : aCall} {σ : aSt} {x1 : Int32} (h : Sh σ) : b_R C kX7_query [] (16, [some (.ref 100), some (.int x1), none], [], σ) = b_G C kX7_query [] 24 27 [some (.ref 100), some (.int x1), none] [] (C 81 [.ref 226, .ref 101] σ) := by
  refine (e_aload_n (code := kX7_query) (pc := 16) rfl rfl).trans ?_
  refine (e_getR (code := kX7_query) (pc := 17) (c := 9) rfl (sk_100 (σ := σ) h) (sr_100_7 (σ := σ) h)).trans ?_
  refine (e_aload_n (code := kX7_query) (pc := 20) rfl rfl).trans ?_
  refine (e_getR (code := kX7_query) (pc := 21) (c := 9) rfl (sk_100 (σ := σ) h) (sr_100_0 (σ := σ) h)).trans ?_
  exact (e_callV (σ := σ) (code := kX7_query) (pc := 24) (len := 3) (k := 81) (n := 2) (c := 14) (as := [.ref 226, .ref 101]) (st0 := []) rfl rfl rfl rfl rfl (sk_226 (σ := σ) h) rfl)
theorem b_X7_query_27 {C : aCall} {σ : aSt} {x1 : Int32} (h : Sh σ) : b_R C kX7_query [] (27, [some (.ref 100), some (.int x1), none], [], σ) = b_G C kX7_query [] 35 38 [some (.ref 100), some (.int x1), none] [] (C 82 [.ref 226, .ref 220] σ) := by
  refine (e_aload_n (code := kX7_query) (pc := 27) rfl rfl).trans ?_
  refine (e_getR (code := kX7_query) (pc := 28) (c := 9) rfl (sk_100 (σ := σ) h) (sr_100_7 (σ := σ) h)).trans ?_
  refine (e_aload_n (code := kX7_query) (pc := 31) rfl rfl).trans ?_
  refine (e_getR (code := kX7_query) (pc := 32) (c := 9) rfl (sk_100 (σ := σ) h) (sr_100_5 (σ := σ) h)).trans ?_
  exact (e_callV (σ := σ) (code := kX7_query) (pc := 35) (len := 3) (k := 82) (n := 2) (c := 14) (as := [.ref 226, .ref 220]) (st0 := []) rfl rfl rfl rfl rfl (sk_226 (σ := σ) h) rfl)
theorem b_X7_query_38 {C : aCall} {σ : aSt} {x1 y0 : Int32} (h : Sh σ) : b_R C kX7_query [] (38, [some (.ref 100), some (.int x1), none], [.int y0], σ) = b_G C kX7_query [] 43 46 [some (.ref 100), some (.int x1), some (.int y0)] [] (C 16 [.ref 220] σ) := by
  refine (e_istore_n (code := kX7_query) (pc := 38) rfl rfl rfl).trans ?_
  refine (e_aload_n (code := kX7_query) (pc := 39) rfl rfl).trans ?_
  refine (e_getR (code := kX7_query) (pc := 40) (c := 9) rfl (sk_100 (σ := σ) h) (sr_100_5 (σ := σ) h)).trans ?_
  exact (e_callV (σ := σ) (code := kX7_query) (pc := 43) (len := 3) (k := 16) (n := 1) (c := 18) (as := [.ref 220]) (st0 := []) rfl rfl rfl rfl rfl (sk_220 (σ := σ) h) rfl)
theorem b_X7_query_46 {C : aCall} {σ : aSt} {x1 x2 : Int32} (h : Sh σ) : b_R C kX7_query [] (46, [some (.ref 100), some (.int x1), some (.int x2)], [], σ) = b_G C kX7_query [] 50 53 [some (.ref 100), some (.int x1), some (.int x2)] [] (C 26 [.ref 220] σ) := by
  refine (e_aload_n (code := kX7_query) (pc := 46) rfl rfl).trans ?_
  refine (e_getR (code := kX7_query) (pc := 47) (c := 9) rfl (sk_100 (σ := σ) h) (sr_100_5 (σ := σ) h)).trans ?_
  exact (e_callV (σ := σ) (code := kX7_query) (pc := 50) (len := 3) (k := 26) (n := 1) (c := 18) (as := [.ref 220]) (st0 := []) rfl rfl rfl rfl rfl (sk_220 (σ := σ) h) rfl)
theorem b_X7_query_53 {C : aCall} {σ : aSt} {x1 x2 y0 : Int32} (h : Sh σ) : b_R C kX7_query [] (53, [some (.ref 100), some (.int x1), some (.int x2)], [.int y0], σ) = (if y0 = 0 then b_R C kX7_query [] (70, [some (.ref 100), some (.int x1), some (.int x2)], [.int x2], σ) else b_R C kX7_query [] (70, [some (.ref 100), some (.int x1), some (.int x2)], [.int (((-1000000000)) - (a_I σ 220 8))], σ)) := by
  refine (e_ifeq (code := kX7_query) (pc := 53) rfl).trans ?_
  refine b_ite ?_ ?_
  · refine (e_iload_n (code := kX7_query) (pc := 69) rfl rfl).trans ?_
    rfl
  · refine (e_ldcI (code := kX7_query) (pc := 56) rfl).trans ?_
    refine (e_aload_n (code := kX7_query) (pc := 58) rfl rfl).trans ?_
    refine (e_getR (code := kX7_query) (pc := 59) (c := 9) rfl (sk_100 (σ := σ) h) (sr_100_5 (σ := σ) h)).trans ?_
    refine (e_getI (code := kX7_query) (pc := 62) (c := 8) rfl (sk_220 (σ := σ) h) rfl).trans ?_
    refine (e_isub (code := kX7_query) (pc := 65) rfl).trans ?_
    refine (e_goto (code := kX7_query) (pc := 66) rfl).trans ?_
    rfl
theorem b_X7_query_70 {C : aCall} {σ : aSt} {x1 x2 y0 : Int32} : b_R C kX7_query [] (70, [some (.ref 100), some (.int x1), some (.int x2)], [.int y0], σ) = some (.inl (some (.int y0)), σ) := by
  exact e_ireturn rfl
theorem n_X7_format {P : aCall} {d : Nat} {σ : aSt} {x1 : Int32} (hd : 1 ≤ d) : a_call a_tab P d 95 [.ref 100, .int x1] σ = b_R (a_call a_tab P (d - 1)) kX7_format [] (0, [some (.ref 100), some (.int x1), none, none], [], σ) := e_call hd at_X7_format rfl
theorem b_X7_format_0 {C : aCall} {σ : aSt} {x1 : Int32} (h : Sh σ) : b_R C kX7_format [] (0, [some (.ref 100), some (.int x1), none, none], [], σ) = b_G C kX7_format [] 2 5 [some (.ref 100), some (.int x1), none, none] [] (C 134 [.ref 100, .int x1] σ) := by
  refine (e_aload_n (code := kX7_format) (pc := 0) rfl rfl).trans ?_
  refine (e_iload_n (code := kX7_format) (pc := 1) rfl rfl).trans ?_
  exact (e_callV (σ := σ) (code := kX7_format) (pc := 2) (len := 3) (k := 134) (n := 2) (c := 19) (as := [.ref 100, .int x1]) (st0 := []) rfl rfl rfl rfl rfl (sk_100 (σ := σ) h) rfl)
theorem b_X7_format_5 {C : aCall} {σ : aSt} {x1 : Int32} (h : Sh σ) : b_R C kX7_format [] (5, [some (.ref 100), some (.int x1), none, none], [], σ) = b_G C kX7_format [] 10 13 [some (.ref 100), some (.int x1), none, none] [] (C 1015 [.ref 235, .int (nI 0)] σ) := by
  refine (e_aload_n (code := kX7_format) (pc := 5) rfl rfl).trans ?_
  refine (e_getR (code := kX7_format) (pc := 6) (c := 9) rfl (sk_100 (σ := σ) h) (sr_100_9 (σ := σ) h)).trans ?_
  refine (e_iconst (code := kX7_format) (pc := 9) rfl).trans ?_
  exact (e_callP (code := kX7_format) (pc := 10) (len := 3) (k := 1015) (n := 2) (as := [.ref 235, .int (nI 0)]) (st0 := []) rfl rfl rfl rfl)
theorem b_X7_format_13 {C : aCall} {σ : aSt} {x1 : Int32} (h : Sh σ) : b_R C kX7_format [] (13, [some (.ref 100), some (.int x1), none, none], [], σ) = b_G C kX7_format [] 22 25 [some (.ref 100), some (.int x1), none, none] [] (C 96 [.ref 100, .ref 104, .int x1] σ) := by
  refine (e_aload_n (code := kX7_format) (pc := 13) rfl rfl).trans ?_
  refine (e_aload_n (code := kX7_format) (pc := 14) rfl rfl).trans ?_
  refine (e_getR (code := kX7_format) (pc := 15) (c := 9) rfl (sk_100 (σ := σ) h) (sr_100_0 (σ := σ) h)).trans ?_
  refine (e_getR (code := kX7_format) (pc := 18) (c := 3) rfl (sk_101 (σ := σ) h) (sr_101_1 (σ := σ) h)).trans ?_
  refine (e_iload_n (code := kX7_format) (pc := 21) rfl rfl).trans ?_
  exact (e_callV (σ := σ) (code := kX7_format) (pc := 22) (len := 3) (k := 96) (n := 3) (c := 19) (as := [.ref 100, .ref 104, .int x1]) (st0 := []) rfl rfl rfl rfl rfl (sk_100 (σ := σ) h) rfl)
theorem b_X7_format_25 {C : aCall} {σ : aSt} {x1 : Int32} (h : Sh σ) : b_R C kX7_format [] (25, [some (.ref 100), some (.int x1), none, none], [], σ) = b_G C kX7_format [] 31 34 [some (.ref 100), some (.int x1), none, none] [] (C 1011 [.ref 235, .int (nI 61)] σ) := by
  refine (e_aload_n (code := kX7_format) (pc := 25) rfl rfl).trans ?_
  refine (e_getR (code := kX7_format) (pc := 26) (c := 9) rfl (sk_100 (σ := σ) h) (sr_100_9 (σ := σ) h)).trans ?_
  refine (e_bipush (code := kX7_format) (pc := 29) rfl).trans ?_
  exact (e_callP (code := kX7_format) (pc := 31) (len := 3) (k := 1011) (n := 2) (as := [.ref 235, .int (nI 61)]) (st0 := []) rfl rfl rfl rfl)
theorem b_X7_format_34 {C : aCall} {σ : aSt} {x1 : Int32} (h : Sh σ) : b_R C kX7_format [] (34, [some (.ref 100), some (.int x1), none, none], [.ref 235], σ) = b_G C kX7_format [] 45 48 [some (.ref 100), some (.int x1), none, none] [] (C 1 [.ref 104, .int x1, .int (nI 8)] σ) := by
  refine (e_pop (code := kX7_format) (pc := 34) rfl rfl).trans ?_
  refine (e_aload_n (code := kX7_format) (pc := 35) rfl rfl).trans ?_
  refine (e_getR (code := kX7_format) (pc := 36) (c := 9) rfl (sk_100 (σ := σ) h) (sr_100_0 (σ := σ) h)).trans ?_
  refine (e_getR (code := kX7_format) (pc := 39) (c := 3) rfl (sk_101 (σ := σ) h) (sr_101_1 (σ := σ) h)).trans ?_
  refine (e_iload_n (code := kX7_format) (pc := 42) rfl rfl).trans ?_
  refine (e_bipush (code := kX7_format) (pc := 43) rfl).trans ?_
  exact (e_callV (σ := σ) (code := kX7_format) (pc := 45) (len := 3) (k := 1) (n := 3) (c := 16) (as := [.ref 104, .int x1, .int (nI 8)]) (st0 := []) rfl rfl rfl rfl rfl (sk_104 (σ := σ) h) rfl)
theorem b_X7_format_48 {C : aCall} {σ : aSt} {x1 y0 : Int32} : b_R C kX7_format [] (48, [some (.ref 100), some (.int x1), none, none], [.int y0], σ) = b_R C kX7_format [] (51, [some (.ref 100), some (.int x1), some (.int y0), some (.int (nI 0))], [], σ) := by
  refine (e_istore_n (code := kX7_format) (pc := 48) rfl rfl rfl).trans ?_
  refine (e_iconst (code := kX7_format) (pc := 49) rfl).trans ?_
  refine (e_istore_n (code := kX7_format) (pc := 50) rfl rfl rfl).trans ?_
  rfl
theorem b_X7_format_51 {C : aCall} {σ : aSt} {x1 x2 x3 : Int32} (h : Sh σ) : b_R C kX7_format [] (51, [some (.ref 100), some (.int x1), some (.int x2), some (.int x3)], [], σ) = (if x3 < x2 then (if 0 < x3 then b_G C kX7_format [] 66 69 [some (.ref 100), some (.int x1), some (.int x2), some (.int x3)] [] (C 1011 [.ref 235, .int (nI 43)] σ) else b_R C kX7_format [] (70, [some (.ref 100), some (.int x1), some (.int x2), some (.int x3)], [], σ)) else b_G C kX7_format [] 130 133 [some (.ref 100), some (.int x1), some (.int x2), some (.int x3)] [] (C 41 [.ref 101, .int x1] σ)) := by
  refine (e_iload_n (code := kX7_format) (pc := 51) rfl rfl).trans ?_
  refine (e_iload_n (code := kX7_format) (pc := 52) rfl rfl).trans ?_
  refine (e_icge (code := kX7_format) (pc := 53) rfl).trans ?_
  refine b_ite ?_ ?_
  · refine (e_iload_n (code := kX7_format) (pc := 56) rfl rfl).trans ?_
    refine (e_ifle (code := kX7_format) (pc := 57) rfl).trans ?_
    refine b_ite ?_ ?_
    · refine (e_aload_n (code := kX7_format) (pc := 60) rfl rfl).trans ?_
      refine (e_getR (code := kX7_format) (pc := 61) (c := 9) rfl (sk_100 (σ := σ) h) (sr_100_9 (σ := σ) h)).trans ?_
      refine (e_bipush (code := kX7_format) (pc := 64) rfl).trans ?_
      exact (e_callP (code := kX7_format) (pc := 66) (len := 3) (k := 1011) (n := 2) (as := [.ref 235, .int (nI 43)]) (st0 := []) rfl rfl rfl rfl)
    · rfl
  · refine (e_aload_n (code := kX7_format) (pc := 125) rfl rfl).trans ?_
    refine (e_getR (code := kX7_format) (pc := 126) (c := 9) rfl (sk_100 (σ := σ) h) (sr_100_0 (σ := σ) h)).trans ?_
    refine (e_iload_n (code := kX7_format) (pc := 129) rfl rfl).trans ?_
    exact (e_callV (σ := σ) (code := kX7_format) (pc := 130) (len := 3) (k := 41) (n := 2) (c := 13) (as := [.ref 101, .int x1]) (st0 := []) rfl rfl rfl rfl rfl (sk_101 (σ := σ) h) rfl)
theorem b_X7_format_69 {C : aCall} {σ : aSt} {x1 x2 x3 : Int32} : b_R C kX7_format [] (69, [some (.ref 100), some (.int x1), some (.int x2), some (.int x3)], [.ref 235], σ) = b_R C kX7_format [] (70, [some (.ref 100), some (.int x1), some (.int x2), some (.int x3)], [], σ) := by
  refine (e_pop (code := kX7_format) (pc := 69) rfl rfl).trans ?_
  rfl
theorem b_X7_format_70 {C : aCall} {σ : aSt} {x1 x2 x3 : Int32} (h : Sh σ) : b_R C kX7_format [] (70, [some (.ref 100), some (.int x1), some (.int x2), some (.int x3)], [], σ) = b_G C kX7_format [] 86 89 [some (.ref 100), some (.int x1), some (.int x2), some (.int x3)] [.ref 235] (C 1 [.ref 104, .int x1, .int ((nI 13) + x3)] σ) := by
  refine (e_aload_n (code := kX7_format) (pc := 70) rfl rfl).trans ?_
  refine (e_getR (code := kX7_format) (pc := 71) (c := 9) rfl (sk_100 (σ := σ) h) (sr_100_9 (σ := σ) h)).trans ?_
  refine (e_aload_n (code := kX7_format) (pc := 74) rfl rfl).trans ?_
  refine (e_getR (code := kX7_format) (pc := 75) (c := 9) rfl (sk_100 (σ := σ) h) (sr_100_0 (σ := σ) h)).trans ?_
  refine (e_getR (code := kX7_format) (pc := 78) (c := 3) rfl (sk_101 (σ := σ) h) (sr_101_1 (σ := σ) h)).trans ?_
  refine (e_iload_n (code := kX7_format) (pc := 81) rfl rfl).trans ?_
  refine (e_bipush (code := kX7_format) (pc := 82) rfl).trans ?_
  refine (e_iload_n (code := kX7_format) (pc := 84) rfl rfl).trans ?_
  refine (e_iadd (code := kX7_format) (pc := 85) rfl).trans ?_
  exact (e_callV (σ := σ) (code := kX7_format) (pc := 86) (len := 3) (k := 1) (n := 3) (c := 16) (as := [.ref 104, .int x1, .int ((nI 13) + x3)]) (st0 := [.ref 235]) rfl rfl rfl rfl rfl (sk_104 (σ := σ) h) rfl)
theorem b_X7_format_89 {C : aCall} {σ : aSt} {x1 x2 x3 y0 : Int32} : b_R C kX7_format [] (89, [some (.ref 100), some (.int x1), some (.int x2), some (.int x3)], [.int y0, .ref 235], σ) = b_G C kX7_format [] 89 92 [some (.ref 100), some (.int x1), some (.int x2), some (.int x3)] [] (C 1012 [.ref 235, .int y0] σ) := by
  exact (e_callP (code := kX7_format) (pc := 89) (len := 3) (k := 1012) (n := 2) (as := [.ref 235, .int y0]) (st0 := []) rfl rfl rfl rfl)
theorem b_X7_format_92 {C : aCall} {σ : aSt} {x1 x2 x3 : Int32} (h : Sh σ) : b_R C kX7_format [] (92, [some (.ref 100), some (.int x1), some (.int x2), some (.int x3)], [.ref 235], σ) = b_G C kX7_format [] 113 116 [some (.ref 100), some (.int x1), some (.int x2), some (.int x3)] [.ref 102, .ref 100] (C 1 [.ref 104, .int x1, .int ((nI 9) + x3)] σ) := by
  refine (e_pop (code := kX7_format) (pc := 92) rfl rfl).trans ?_
  refine (e_aload_n (code := kX7_format) (pc := 93) rfl rfl).trans ?_
  refine (e_aload_n (code := kX7_format) (pc := 94) rfl rfl).trans ?_
  refine (e_getR (code := kX7_format) (pc := 95) (c := 9) rfl (sk_100 (σ := σ) h) (sr_100_0 (σ := σ) h)).trans ?_
  refine (e_getR (code := kX7_format) (pc := 98) (c := 3) rfl (sk_101 (σ := σ) h) (sr_101_0 (σ := σ) h)).trans ?_
  refine (e_aload_n (code := kX7_format) (pc := 101) rfl rfl).trans ?_
  refine (e_getR (code := kX7_format) (pc := 102) (c := 9) rfl (sk_100 (σ := σ) h) (sr_100_0 (σ := σ) h)).trans ?_
  refine (e_getR (code := kX7_format) (pc := 105) (c := 3) rfl (sk_101 (σ := σ) h) (sr_101_1 (σ := σ) h)).trans ?_
  refine (e_iload_n (code := kX7_format) (pc := 108) rfl rfl).trans ?_
  refine (e_bipush (code := kX7_format) (pc := 109) rfl).trans ?_
  refine (e_iload_n (code := kX7_format) (pc := 111) rfl rfl).trans ?_
  refine (e_iadd (code := kX7_format) (pc := 112) rfl).trans ?_
  exact (e_callV (σ := σ) (code := kX7_format) (pc := 113) (len := 3) (k := 1) (n := 3) (c := 16) (as := [.ref 104, .int x1, .int ((nI 9) + x3)]) (st0 := [.ref 102, .ref 100]) rfl rfl rfl rfl rfl (sk_104 (σ := σ) h) rfl)
theorem b_X7_format_116 {C : aCall} {σ : aSt} {x1 x2 x3 y0 : Int32} (h : Sh σ) : b_R C kX7_format [] (116, [some (.ref 100), some (.int x1), some (.int x2), some (.int x3)], [.int y0, .ref 102, .ref 100], σ) = b_G C kX7_format [] 116 119 [some (.ref 100), some (.int x1), some (.int x2), some (.int x3)] [] (C 96 [.ref 100, .ref 102, .int y0] σ) := by
  exact (e_callV (σ := σ) (code := kX7_format) (pc := 116) (len := 3) (k := 96) (n := 3) (c := 19) (as := [.ref 100, .ref 102, .int y0]) (st0 := []) rfl rfl rfl rfl rfl (sk_100 (σ := σ) h) rfl)
theorem b_X7_format_119 {C : aCall} {σ : aSt} {x1 x2 x3 : Int32} : b_R C kX7_format [] (119, [some (.ref 100), some (.int x1), some (.int x2), some (.int x3)], [], σ) = b_R C kX7_format [] (51, [some (.ref 100), some (.int x1), some (.int x2), some (.int (x3 + nI 1))], [], σ) := by
  refine (e_iinc (code := kX7_format) (pc := 119) rfl rfl rfl rfl).trans ?_
  refine (e_goto (code := kX7_format) (pc := 122) rfl).trans ?_
  rfl
theorem b_X7_format_133 {C : aCall} {σ : aSt} {x1 x2 x3 y0 : Int32} (h : Sh σ) : b_R C kX7_format [] (133, [some (.ref 100), some (.int x1), some (.int x2), some (.int x3)], [.int y0], σ) = (if y0 = 0 then b_R C kX7_format [] (146, [some (.ref 100), some (.int x1), some (.int x2), some (.int x3)], [], σ) else b_G C kX7_format [] 142 145 [some (.ref 100), some (.int x1), some (.int x2), some (.int x3)] [] (C 1011 [.ref 235, .int (nI 33)] σ)) := by
  refine (e_ifeq (code := kX7_format) (pc := 133) rfl).trans ?_
  refine b_ite ?_ ?_
  · rfl
  · refine (e_aload_n (code := kX7_format) (pc := 136) rfl rfl).trans ?_
    refine (e_getR (code := kX7_format) (pc := 137) (c := 9) rfl (sk_100 (σ := σ) h) (sr_100_9 (σ := σ) h)).trans ?_
    refine (e_bipush (code := kX7_format) (pc := 140) rfl).trans ?_
    exact (e_callP (code := kX7_format) (pc := 142) (len := 3) (k := 1011) (n := 2) (as := [.ref 235, .int (nI 33)]) (st0 := []) rfl rfl rfl rfl)
theorem b_X7_format_145 {C : aCall} {σ : aSt} {x1 x2 x3 : Int32} : b_R C kX7_format [] (145, [some (.ref 100), some (.int x1), some (.int x2), some (.int x3)], [.ref 235], σ) = b_R C kX7_format [] (146, [some (.ref 100), some (.int x1), some (.int x2), some (.int x3)], [], σ) := by
  refine (e_pop (code := kX7_format) (pc := 145) rfl rfl).trans ?_
  rfl
theorem b_X7_format_146 {C : aCall} {σ : aSt} {x1 x2 x3 : Int32} (h : Sh σ) : b_R C kX7_format [] (146, [some (.ref 100), some (.int x1), some (.int x2), some (.int x3)], [], σ) = b_G C kX7_format [] 150 153 [some (.ref 100), some (.int x1), some (.int x2), some (.int x3)] [] (C 1013 [.ref 235] σ) := by
  refine (e_aload_n (code := kX7_format) (pc := 146) rfl rfl).trans ?_
  refine (e_getR (code := kX7_format) (pc := 147) (c := 9) rfl (sk_100 (σ := σ) h) (sr_100_9 (σ := σ) h)).trans ?_
  exact (e_callP (code := kX7_format) (pc := 150) (len := 3) (k := 1013) (n := 1) (as := [.ref 235]) (st0 := []) rfl rfl rfl rfl)
theorem b_X7_format_153 {C : aCall} {σ : aSt} {x1 x2 x3 y0 : Int32} : b_R C kX7_format [] (153, [some (.ref 100), some (.int x1), some (.int x2), some (.int x3)], [.int y0], σ) = some (.inl (some (.int y0)), σ) := by
  exact e_ireturn rfl
theorem n_X7_appendName {P : aCall} {d : Nat} {σ : aSt} {t : Nat} {x2 : Int32} (hd : 1 ≤ d) : a_call a_tab P d 96 [.ref 100, .ref t, .int x2] σ = b_R (a_call a_tab P (d - 1)) kX7_appendName [] (0, [some (.ref 100), some (.ref t), some (.int x2), none, none], [], σ) := e_call hd at_X7_appendName rfl
theorem b_X7_appendName_0 {C : aCall} {σ : aSt} {t : Nat} {x2 : Int32} : b_R C kX7_appendName [] (0, [some (.ref 100), some (.ref t), some (.int x2), none, none], [], σ) = b_R C kX7_appendName [] (2, [some (.ref 100), some (.ref t), some (.int x2), some (.int (nI 0)), none], [], σ) := by
  refine (e_iconst (code := kX7_appendName) (pc := 0) rfl).trans ?_
  refine (e_istore_n (code := kX7_appendName) (pc := 1) rfl rfl rfl).trans ?_
  rfl
theorem b_X7_appendName_2 {C : aCall} {σ : aSt} {t c_t N_t : Nat} {x2 x3 : Int32} {o4 : Option Value} (ht : Tb σ t c_t N_t) : b_R C kX7_appendName [] (2, [some (.ref 100), some (.ref t), some (.int x2), some (.int x3), o4], [], σ) = (if x3 < (nI 8) then b_G C kX7_appendName [] 11 14 [some (.ref 100), some (.ref t), some (.int x2), some (.int x3), o4] [] (C 1 [.ref t, .int x2, .int x3] σ) else some (.inl none, σ)) := by
  refine (e_iload_n (code := kX7_appendName) (pc := 2) rfl rfl).trans ?_
  refine (e_bipush (code := kX7_appendName) (pc := 3) rfl).trans ?_
  refine (e_icge (code := kX7_appendName) (pc := 5) rfl).trans ?_
  refine b_ite ?_ ?_
  · refine (e_aload_n (code := kX7_appendName) (pc := 8) rfl rfl).trans ?_
    refine (e_iload_n (code := kX7_appendName) (pc := 9) rfl rfl).trans ?_
    refine (e_iload_n (code := kX7_appendName) (pc := 10) rfl rfl).trans ?_
    exact (e_callV (σ := σ) (code := kX7_appendName) (pc := 11) (len := 3) (k := 1) (n := 3) (c := 16) (as := [.ref t, .int x2, .int x3]) (st0 := []) rfl rfl rfl rfl rfl ht.1 rfl)
  · exact e_return_ rfl
theorem b_X7_appendName_14 {C : aCall} {σ : aSt} {t : Nat} {x2 x3 y0 : Int32} {o4 : Option Value} (h : Sh σ) : b_R C kX7_appendName [] (14, [some (.ref 100), some (.ref t), some (.int x2), some (.int x3), o4], [.int y0], σ) = (if y0 = 0 then b_R C kX7_appendName [] (32, [some (.ref 100), some (.ref t), some (.int x2), some (.int x3), some (.int y0)], [], σ) else b_G C kX7_appendName [] 28 31 [some (.ref 100), some (.ref t), some (.int x2), some (.int x3), some (.int y0)] [] (C 1011 [.ref 235, .int ((Int32.toUInt32 y0 % 65536).toInt32)] σ)) := by
  refine (e_istore (code := kX7_appendName) (pc := 14) rfl rfl rfl).trans ?_
  refine (e_iload (code := kX7_appendName) (pc := 16) rfl rfl).trans ?_
  refine (e_ifeq (code := kX7_appendName) (pc := 18) rfl).trans ?_
  refine b_ite ?_ ?_
  · rfl
  · refine (e_aload_n (code := kX7_appendName) (pc := 21) rfl rfl).trans ?_
    refine (e_getR (code := kX7_appendName) (pc := 22) (c := 9) rfl (sk_100 (σ := σ) h) (sr_100_9 (σ := σ) h)).trans ?_
    refine (e_iload (code := kX7_appendName) (pc := 25) rfl rfl).trans ?_
    refine (e_i2c (code := kX7_appendName) (pc := 27) rfl).trans ?_
    exact (e_callP (code := kX7_appendName) (pc := 28) (len := 3) (k := 1011) (n := 2) (as := [.ref 235, .int ((Int32.toUInt32 y0 % 65536).toInt32)]) (st0 := []) rfl rfl rfl rfl)
theorem b_X7_appendName_31 {C : aCall} {σ : aSt} {t : Nat} {x2 x3 x4 : Int32} : b_R C kX7_appendName [] (31, [some (.ref 100), some (.ref t), some (.int x2), some (.int x3), some (.int x4)], [.ref 235], σ) = b_R C kX7_appendName [] (32, [some (.ref 100), some (.ref t), some (.int x2), some (.int x3), some (.int x4)], [], σ) := by
  refine (e_pop (code := kX7_appendName) (pc := 31) rfl rfl).trans ?_
  rfl
theorem b_X7_appendName_32 {C : aCall} {σ : aSt} {t : Nat} {x2 x3 x4 : Int32} : b_R C kX7_appendName [] (32, [some (.ref 100), some (.ref t), some (.int x2), some (.int x3), some (.int x4)], [], σ) = b_R C kX7_appendName [] (2, [some (.ref 100), some (.ref t), some (.int x2), some (.int (x3 + nI 1)), some (.int x4)], [], σ) := by
  refine (e_iinc (code := kX7_appendName) (pc := 32) rfl rfl rfl rfl).trans ?_
  refine (e_goto (code := kX7_appendName) (pc := 35) rfl).trans ?_
  rfl
theorem n_X7_formattedByte {P : aCall} {d : Nat} {σ : aSt} {x1 : Int32} (hd : 1 ≤ d) : a_call a_tab P d 97 [.ref 100, .int x1] σ = b_R (a_call a_tab P (d - 1)) kX7_formattedByte [] (0, [some (.ref 100), some (.int x1)], [], σ) := e_call hd at_X7_formattedByte rfl
theorem b_X7_formattedByte_0 {C : aCall} {σ : aSt} {x1 : Int32} (h : Sh σ) : b_R C kX7_formattedByte [] (0, [some (.ref 100), some (.int x1)], [], σ) = (if x1 < 0 then b_R C kX7_formattedByte [] (26, [some (.ref 100), some (.int x1)], [], σ) else b_G C kX7_formattedByte [] 9 12 [some (.ref 100), some (.int x1)] [.int x1] (C 1013 [.ref 235] σ)) := by
  refine (e_iload_n (code := kX7_formattedByte) (pc := 0) rfl rfl).trans ?_
  refine (e_iflt (code := kX7_formattedByte) (pc := 1) rfl).trans ?_
  refine b_ite ?_ ?_
  · rfl
  · refine (e_iload_n (code := kX7_formattedByte) (pc := 4) rfl rfl).trans ?_
    refine (e_aload_n (code := kX7_formattedByte) (pc := 5) rfl rfl).trans ?_
    refine (e_getR (code := kX7_formattedByte) (pc := 6) (c := 9) rfl (sk_100 (σ := σ) h) (sr_100_9 (σ := σ) h)).trans ?_
    exact (e_callP (code := kX7_formattedByte) (pc := 9) (len := 3) (k := 1013) (n := 1) (as := [.ref 235]) (st0 := [.int x1]) rfl rfl rfl rfl)
theorem b_X7_formattedByte_12 {C : aCall} {σ : aSt} {x1 y0 y1 : Int32} (h : Sh σ) : b_R C kX7_formattedByte [] (12, [some (.ref 100), some (.int x1)], [.int y0, .int y1], σ) = (if y1 < y0 then b_G C kX7_formattedByte [] 20 23 [some (.ref 100), some (.int x1)] [] (C 1014 [.ref 235, .int x1] σ) else b_R C kX7_formattedByte [] (26, [some (.ref 100), some (.int x1)], [], σ)) := by
  refine (e_icge (code := kX7_formattedByte) (pc := 12) rfl).trans ?_
  refine b_ite ?_ ?_
  · refine (e_aload_n (code := kX7_formattedByte) (pc := 15) rfl rfl).trans ?_
    refine (e_getR (code := kX7_formattedByte) (pc := 16) (c := 9) rfl (sk_100 (σ := σ) h) (sr_100_9 (σ := σ) h)).trans ?_
    refine (e_iload_n (code := kX7_formattedByte) (pc := 19) rfl rfl).trans ?_
    exact (e_callP (code := kX7_formattedByte) (pc := 20) (len := 3) (k := 1014) (n := 2) (as := [.ref 235, .int x1]) (st0 := []) rfl rfl rfl rfl)
  · rfl
theorem b_X7_formattedByte_23 {C : aCall} {σ : aSt} {x1 y0 : Int32} : b_R C kX7_formattedByte [] (23, [some (.ref 100), some (.int x1)], [.int y0], σ) = b_R C kX7_formattedByte [] (27, [some (.ref 100), some (.int x1)], [.int y0], σ) := by
  refine (e_goto (code := kX7_formattedByte) (pc := 23) rfl).trans ?_
  rfl
theorem b_X7_formattedByte_26 {C : aCall} {σ : aSt} {x1 : Int32} : b_R C kX7_formattedByte [] (26, [some (.ref 100), some (.int x1)], [], σ) = b_R C kX7_formattedByte [] (27, [some (.ref 100), some (.int x1)], [.int ((-1))], σ) := by
  refine (e_iconst (code := kX7_formattedByte) (pc := 26) rfl).trans ?_
  rfl
theorem b_X7_formattedByte_27 {C : aCall} {σ : aSt} {x1 y0 : Int32} : b_R C kX7_formattedByte [] (27, [some (.ref 100), some (.int x1)], [.int y0], σ) = some (.inl (some (.int y0)), σ) := by
  exact e_ireturn rfl
theorem n_X7_size {P : aCall} {d : Nat} {σ : aSt} {x1 : Int32} (hd : 1 ≤ d) : a_call a_tab P d 98 [.ref 100, .int x1] σ = b_R (a_call a_tab P (d - 1)) kX7_size [] (0, [some (.ref 100), some (.int x1)], [], σ) := e_call hd at_X7_size rfl
theorem b_X7_size_0 {C : aCall} {σ : aSt} {x1 : Int32} : b_R C kX7_size [] (0, [some (.ref 100), some (.int x1)], [], σ) = b_G C kX7_size [] 3 6 [some (.ref 100), some (.int x1)] [] (C 136 [.int x1, .int (nI 9)] σ) := by
  refine (e_iload_n (code := kX7_size) (pc := 0) rfl rfl).trans ?_
  refine (e_bipush (code := kX7_size) (pc := 1) rfl).trans ?_
  exact (e_callS (code := kX7_size) (pc := 3) (len := 3) (k := 136) (n := 2) (as := [.int x1, .int (nI 9)]) (st0 := []) rfl rfl rfl rfl)
theorem b_X7_size_6 {C : aCall} {σ : aSt} {x1 : Int32} : b_R C kX7_size [] (6, [some (.ref 100), some (.int x1)], [], σ) = b_R C kX7_size [] (b_tsw 7 133 0 8 #[49, 60, 68, 79, 87, 98, 106, 114, 122] x1, [some (.ref 100), some (.int x1)], [], σ) := by
  refine (e_iload_n (code := kX7_size) (pc := 6) rfl rfl).trans ?_
  refine (e_tableswitch (code := kX7_size) (pc := 7) rfl rfl).trans ?_
  rfl
theorem b_X7_size_56 {C : aCall} {σ : aSt} {x1 : Int32} (h : Sh σ) : b_R C kX7_size [] (56, [some (.ref 100), some (.int x1)], [], σ) = some (.inl (some (.int (a_I σ 102 2))), σ) := by
  refine (e_aload_n (code := kX7_size) (pc := 56) rfl rfl).trans ?_
  refine (e_getR (code := kX7_size) (pc := 57) (c := 9) rfl (sk_100 (σ := σ) h) (sr_100_0 (σ := σ) h)).trans ?_
  refine (e_getR (code := kX7_size) (pc := 60) (c := 3) rfl (sk_101 (σ := σ) h) (sr_101_0 (σ := σ) h)).trans ?_
  refine (e_getI (code := kX7_size) (pc := 63) (c := 6) rfl (sk_102 (σ := σ) h) rfl).trans ?_
  exact e_ireturn rfl
theorem b_X7_size_67 {C : aCall} {σ : aSt} {x1 : Int32} (h : Sh σ) : b_R C kX7_size [] (67, [some (.ref 100), some (.int x1)], [], σ) = b_G C kX7_size [] 71 74 [some (.ref 100), some (.int x1)] [] (C 37 [.ref 101] σ) := by
  refine (e_aload_n (code := kX7_size) (pc := 67) rfl rfl).trans ?_
  refine (e_getR (code := kX7_size) (pc := 68) (c := 9) rfl (sk_100 (σ := σ) h) (sr_100_0 (σ := σ) h)).trans ?_
  exact (e_callV (σ := σ) (code := kX7_size) (pc := 71) (len := 3) (k := 37) (n := 1) (c := 13) (as := [.ref 101]) (st0 := []) rfl rfl rfl rfl rfl (sk_101 (σ := σ) h) rfl)
theorem b_X7_size_74 {C : aCall} {σ : aSt} {x1 y0 : Int32} : b_R C kX7_size [] (74, [some (.ref 100), some (.int x1)], [.int y0], σ) = some (.inl (some (.int y0)), σ) := by
  exact e_ireturn rfl
theorem b_X7_size_75 {C : aCall} {σ : aSt} {x1 : Int32} (h : Sh σ) : b_R C kX7_size [] (75, [some (.ref 100), some (.int x1)], [], σ) = some (.inl (some (.int (a_I σ 104 2))), σ) := by
  refine (e_aload_n (code := kX7_size) (pc := 75) rfl rfl).trans ?_
  refine (e_getR (code := kX7_size) (pc := 76) (c := 9) rfl (sk_100 (σ := σ) h) (sr_100_0 (σ := σ) h)).trans ?_
  refine (e_getR (code := kX7_size) (pc := 79) (c := 3) rfl (sk_101 (σ := σ) h) (sr_101_1 (σ := σ) h)).trans ?_
  refine (e_getI (code := kX7_size) (pc := 82) (c := 6) rfl (sk_104 (σ := σ) h) rfl).trans ?_
  exact e_ireturn rfl
theorem b_X7_size_86 {C : aCall} {σ : aSt} {x1 : Int32} (h : Sh σ) : b_R C kX7_size [] (86, [some (.ref 100), some (.int x1)], [], σ) = b_G C kX7_size [] 90 93 [some (.ref 100), some (.int x1)] [] (C 42 [.ref 101] σ) := by
  refine (e_aload_n (code := kX7_size) (pc := 86) rfl rfl).trans ?_
  refine (e_getR (code := kX7_size) (pc := 87) (c := 9) rfl (sk_100 (σ := σ) h) (sr_100_0 (σ := σ) h)).trans ?_
  exact (e_callV (σ := σ) (code := kX7_size) (pc := 90) (len := 3) (k := 42) (n := 1) (c := 13) (as := [.ref 101]) (st0 := []) rfl rfl rfl rfl rfl (sk_101 (σ := σ) h) rfl)
theorem b_X7_size_93 {C : aCall} {σ : aSt} {x1 y0 : Int32} : b_R C kX7_size [] (93, [some (.ref 100), some (.int x1)], [.int y0], σ) = some (.inl (some (.int y0)), σ) := by
  exact e_ireturn rfl
theorem b_X7_size_94 {C : aCall} {σ : aSt} {x1 : Int32} (h : Sh σ) : b_R C kX7_size [] (94, [some (.ref 100), some (.int x1)], [], σ) = some (.inl (some (.int (a_I σ 106 2))), σ) := by
  refine (e_aload_n (code := kX7_size) (pc := 94) rfl rfl).trans ?_
  refine (e_getR (code := kX7_size) (pc := 95) (c := 9) rfl (sk_100 (σ := σ) h) (sr_100_0 (σ := σ) h)).trans ?_
  refine (e_getR (code := kX7_size) (pc := 98) (c := 3) rfl (sk_101 (σ := σ) h) (sr_101_2 (σ := σ) h)).trans ?_
  refine (e_getI (code := kX7_size) (pc := 101) (c := 6) rfl (sk_106 (σ := σ) h) rfl).trans ?_
  exact e_ireturn rfl
theorem b_X7_size_105 {C : aCall} {σ : aSt} {x1 : Int32} (h : Sh σ) : b_R C kX7_size [] (105, [some (.ref 100), some (.int x1)], [], σ) = some (.inl (some (.int (a_I σ 101 4))), σ) := by
  refine (e_aload_n (code := kX7_size) (pc := 105) rfl rfl).trans ?_
  refine (e_getR (code := kX7_size) (pc := 106) (c := 9) rfl (sk_100 (σ := σ) h) (sr_100_0 (σ := σ) h)).trans ?_
  refine (e_getI (code := kX7_size) (pc := 109) (c := 3) rfl (sk_101 (σ := σ) h) rfl).trans ?_
  exact e_ireturn rfl
theorem b_X7_size_113 {C : aCall} {σ : aSt} {x1 : Int32} (h : Sh σ) : b_R C kX7_size [] (113, [some (.ref 100), some (.int x1)], [], σ) = some (.inl (some (.int (a_I σ 101 5))), σ) := by
  refine (e_aload_n (code := kX7_size) (pc := 113) rfl rfl).trans ?_
  refine (e_getR (code := kX7_size) (pc := 114) (c := 9) rfl (sk_100 (σ := σ) h) (sr_100_0 (σ := σ) h)).trans ?_
  refine (e_getI (code := kX7_size) (pc := 117) (c := 3) rfl (sk_101 (σ := σ) h) rfl).trans ?_
  exact e_ireturn rfl
theorem b_X7_size_121 {C : aCall} {σ : aSt} {x1 : Int32} (h : Sh σ) : b_R C kX7_size [] (121, [some (.ref 100), some (.int x1)], [], σ) = some (.inl (some (.int (a_I σ 101 6))), σ) := by
  refine (e_aload_n (code := kX7_size) (pc := 121) rfl rfl).trans ?_
  refine (e_getR (code := kX7_size) (pc := 122) (c := 9) rfl (sk_100 (σ := σ) h) (sr_100_0 (σ := σ) h)).trans ?_
  refine (e_getI (code := kX7_size) (pc := 125) (c := 3) rfl (sk_101 (σ := σ) h) rfl).trans ?_
  exact e_ireturn rfl
theorem b_X7_size_129 {C : aCall} {σ : aSt} {x1 : Int32} (h : Sh σ) : b_R C kX7_size [] (129, [some (.ref 100), some (.int x1)], [], σ) = some (.inl (some (.int (a_I σ 108 2))), σ) := by
  refine (e_aload_n (code := kX7_size) (pc := 129) rfl rfl).trans ?_
  refine (e_getR (code := kX7_size) (pc := 130) (c := 9) rfl (sk_100 (σ := σ) h) (sr_100_0 (σ := σ) h)).trans ?_
  refine (e_getR (code := kX7_size) (pc := 133) (c := 3) rfl (sk_101 (σ := σ) h) (sr_101_3 (σ := σ) h)).trans ?_
  refine (e_getI (code := kX7_size) (pc := 136) (c := 6) rfl (sk_108 (σ := σ) h) rfl).trans ?_
  exact e_ireturn rfl
theorem b_X7_size_140 {C : aCall} {σ : aSt} {x1 : Int32} (h : Sh σ) : b_R C kX7_size [] (140, [some (.ref 100), some (.int x1)], [], σ) = b_G C kX7_size [] 145 148 [some (.ref 100), some (.int x1)] [] (C 38 [.ref 101, .int (nI 1)] σ) := by
  refine (e_aload_n (code := kX7_size) (pc := 140) rfl rfl).trans ?_
  refine (e_getR (code := kX7_size) (pc := 141) (c := 9) rfl (sk_100 (σ := σ) h) (sr_100_0 (σ := σ) h)).trans ?_
  refine (e_iconst (code := kX7_size) (pc := 144) rfl).trans ?_
  exact (e_callV (σ := σ) (code := kX7_size) (pc := 145) (len := 3) (k := 38) (n := 2) (c := 13) (as := [.ref 101, .int (nI 1)]) (st0 := []) rfl rfl rfl rfl rfl (sk_101 (σ := σ) h) rfl)
theorem b_X7_size_148 {C : aCall} {σ : aSt} {x1 y0 : Int32} : b_R C kX7_size [] (148, [some (.ref 100), some (.int x1)], [.int y0], σ) = some (.inl (some (.int y0)), σ) := by
  exact e_ireturn rfl
theorem n_X7_tube {P : aCall} {d : Nat} {σ : aSt} {x1 x2 : Int32} (hd : 1 ≤ d) : a_call a_tab P d 99 [.ref 100, .int x1, .int x2] σ = b_R (a_call a_tab P (d - 1)) kX7_tube [] (0, [some (.ref 100), some (.int x1), some (.int x2)], [], σ) := e_call hd at_X7_tube rfl
theorem b_X7_tube_0 {C : aCall} {σ : aSt} {x1 x2 : Int32} (h : Sh σ) : b_R C kX7_tube [] (0, [some (.ref 100), some (.int x1), some (.int x2)], [], σ) = b_G C kX7_tube [] 2 5 [some (.ref 100), some (.int x1), some (.int x2)] [] (C 133 [.ref 100, .int x1] σ) := by
  refine (e_aload_n (code := kX7_tube) (pc := 0) rfl rfl).trans ?_
  refine (e_iload_n (code := kX7_tube) (pc := 1) rfl rfl).trans ?_
  exact (e_callV (σ := σ) (code := kX7_tube) (pc := 2) (len := 3) (k := 133) (n := 2) (c := 19) (as := [.ref 100, .int x1]) (st0 := []) rfl rfl rfl rfl rfl (sk_100 (σ := σ) h) rfl)
theorem b_X7_tube_5 {C : aCall} {σ : aSt} {x1 x2 : Int32} : b_R C kX7_tube [] (5, [some (.ref 100), some (.int x1), some (.int x2)], [], σ) = b_G C kX7_tube [] 7 10 [some (.ref 100), some (.int x1), some (.int x2)] [] (C 136 [.int x2, .int (nI 5)] σ) := by
  refine (e_iload_n (code := kX7_tube) (pc := 5) rfl rfl).trans ?_
  refine (e_iconst (code := kX7_tube) (pc := 6) rfl).trans ?_
  exact (e_callS (code := kX7_tube) (pc := 7) (len := 3) (k := 136) (n := 2) (as := [.int x2, .int (nI 5)]) (st0 := []) rfl rfl rfl rfl)
theorem b_X7_tube_10 {C : aCall} {σ : aSt} {x1 x2 : Int32} : b_R C kX7_tube [] (10, [some (.ref 100), some (.int x1), some (.int x2)], [], σ) = b_R C kX7_tube [] (b_tsw 11 65 3 5 #[25, 39, 56] x2, [some (.ref 100), some (.int x1), some (.int x2)], [], σ) := by
  refine (e_iload_n (code := kX7_tube) (pc := 10) rfl rfl).trans ?_
  refine (e_tableswitch (code := kX7_tube) (pc := 11) rfl rfl).trans ?_
  rfl
theorem b_X7_tube_36 {C : aCall} {σ : aSt} {x1 x2 : Int32} (h : Sh σ) : b_R C kX7_tube [] (36, [some (.ref 100), some (.int x1), some (.int x2)], [], σ) = b_G C kX7_tube [] 46 49 [some (.ref 100), some (.int x1), some (.int x2)] [] (C 1 [.ref 102, .int x1, .int (nI 11)] σ) := by
  refine (e_aload_n (code := kX7_tube) (pc := 36) rfl rfl).trans ?_
  refine (e_getR (code := kX7_tube) (pc := 37) (c := 9) rfl (sk_100 (σ := σ) h) (sr_100_0 (σ := σ) h)).trans ?_
  refine (e_getR (code := kX7_tube) (pc := 40) (c := 3) rfl (sk_101 (σ := σ) h) (sr_101_0 (σ := σ) h)).trans ?_
  refine (e_iload_n (code := kX7_tube) (pc := 43) rfl rfl).trans ?_
  refine (e_bipush (code := kX7_tube) (pc := 44) rfl).trans ?_
  exact (e_callV (σ := σ) (code := kX7_tube) (pc := 46) (len := 3) (k := 1) (n := 3) (c := 16) (as := [.ref 102, .int x1, .int (nI 11)]) (st0 := []) rfl rfl rfl rfl rfl (sk_102 (σ := σ) h) rfl)
theorem b_X7_tube_49 {C : aCall} {σ : aSt} {x1 x2 y0 : Int32} : b_R C kX7_tube [] (49, [some (.ref 100), some (.int x1), some (.int x2)], [.int y0], σ) = some (.inl (some (.int y0)), σ) := by
  exact e_ireturn rfl
theorem b_X7_tube_50 {C : aCall} {σ : aSt} {x1 x2 : Int32} (h : Sh σ) : b_R C kX7_tube [] (50, [some (.ref 100), some (.int x1), some (.int x2)], [], σ) = b_G C kX7_tube [] 55 58 [some (.ref 100), some (.int x1), some (.int x2)] [] (C 36 [.ref 101, .int x1] σ) := by
  refine (e_aload_n (code := kX7_tube) (pc := 50) rfl rfl).trans ?_
  refine (e_getR (code := kX7_tube) (pc := 51) (c := 9) rfl (sk_100 (σ := σ) h) (sr_100_0 (σ := σ) h)).trans ?_
  refine (e_iload_n (code := kX7_tube) (pc := 54) rfl rfl).trans ?_
  exact (e_callV (σ := σ) (code := kX7_tube) (pc := 55) (len := 3) (k := 36) (n := 2) (c := 13) (as := [.ref 101, .int x1]) (st0 := []) rfl rfl rfl rfl rfl (sk_101 (σ := σ) h) rfl)
theorem b_X7_tube_58 {C : aCall} {σ : aSt} {x1 x2 y0 : Int32} : b_R C kX7_tube [] (58, [some (.ref 100), some (.int x1), some (.int x2)], [.int y0], σ) = (if y0 = 0 then b_R C kX7_tube [] (66, [some (.ref 100), some (.int x1), some (.int x2)], [.int (nI 0)], σ) else b_R C kX7_tube [] (66, [some (.ref 100), some (.int x1), some (.int x2)], [.int (nI 1)], σ)) := by
  refine (e_ifeq (code := kX7_tube) (pc := 58) rfl).trans ?_
  refine b_ite ?_ ?_
  · refine (e_iconst (code := kX7_tube) (pc := 65) rfl).trans ?_
    rfl
  · refine (e_iconst (code := kX7_tube) (pc := 61) rfl).trans ?_
    refine (e_goto (code := kX7_tube) (pc := 62) rfl).trans ?_
    rfl
theorem b_X7_tube_66 {C : aCall} {σ : aSt} {x1 x2 y0 : Int32} : b_R C kX7_tube [] (66, [some (.ref 100), some (.int x1), some (.int x2)], [.int y0], σ) = some (.inl (some (.int y0)), σ) := by
  exact e_ireturn rfl
theorem b_X7_tube_67 {C : aCall} {σ : aSt} {x1 x2 : Int32} (h : Sh σ) : b_R C kX7_tube [] (67, [some (.ref 100), some (.int x1), some (.int x2)], [], σ) = b_G C kX7_tube [] 72 75 [some (.ref 100), some (.int x1), some (.int x2)] [] (C 40 [.ref 101, .int x1] σ) := by
  refine (e_aload_n (code := kX7_tube) (pc := 67) rfl rfl).trans ?_
  refine (e_getR (code := kX7_tube) (pc := 68) (c := 9) rfl (sk_100 (σ := σ) h) (sr_100_0 (σ := σ) h)).trans ?_
  refine (e_iload_n (code := kX7_tube) (pc := 71) rfl rfl).trans ?_
  exact (e_callV (σ := σ) (code := kX7_tube) (pc := 72) (len := 3) (k := 40) (n := 2) (c := 13) (as := [.ref 101, .int x1]) (st0 := []) rfl rfl rfl rfl rfl (sk_101 (σ := σ) h) rfl)
theorem b_X7_tube_75 {C : aCall} {σ : aSt} {x1 x2 y0 : Int32} : b_R C kX7_tube [] (75, [some (.ref 100), some (.int x1), some (.int x2)], [.int y0], σ) = some (.inl (some (.int y0)), σ) := by
  exact e_ireturn rfl
theorem b_X7_tube_76 {C : aCall} {σ : aSt} {x1 x2 : Int32} (h : Sh σ) : b_R C kX7_tube [] (76, [some (.ref 100), some (.int x1), some (.int x2)], [], σ) = b_G C kX7_tube [] 88 91 [some (.ref 100), some (.int x1), some (.int x2)] [] (C 1 [.ref 102, .int x1, .int ((nI 8) + x2)] σ) := by
  refine (e_aload_n (code := kX7_tube) (pc := 76) rfl rfl).trans ?_
  refine (e_getR (code := kX7_tube) (pc := 77) (c := 9) rfl (sk_100 (σ := σ) h) (sr_100_0 (σ := σ) h)).trans ?_
  refine (e_getR (code := kX7_tube) (pc := 80) (c := 3) rfl (sk_101 (σ := σ) h) (sr_101_0 (σ := σ) h)).trans ?_
  refine (e_iload_n (code := kX7_tube) (pc := 83) rfl rfl).trans ?_
  refine (e_bipush (code := kX7_tube) (pc := 84) rfl).trans ?_
  refine (e_iload_n (code := kX7_tube) (pc := 86) rfl rfl).trans ?_
  refine (e_iadd (code := kX7_tube) (pc := 87) rfl).trans ?_
  exact (e_callV (σ := σ) (code := kX7_tube) (pc := 88) (len := 3) (k := 1) (n := 3) (c := 16) (as := [.ref 102, .int x1, .int ((nI 8) + x2)]) (st0 := []) rfl rfl rfl rfl rfl (sk_102 (σ := σ) h) rfl)
theorem b_X7_tube_91 {C : aCall} {σ : aSt} {x1 x2 y0 : Int32} : b_R C kX7_tube [] (91, [some (.ref 100), some (.int x1), some (.int x2)], [.int y0], σ) = some (.inl (some (.int y0)), σ) := by
  exact e_ireturn rfl
theorem n_X7_mix {P : aCall} {d : Nat} {σ : aSt} {x1 x2 : Int32} (hd : 1 ≤ d) : a_call a_tab P d 100 [.ref 100, .int x1, .int x2] σ = b_R (a_call a_tab P (d - 1)) kX7_mix [] (0, [some (.ref 100), some (.int x1), some (.int x2)], [], σ) := e_call hd at_X7_mix rfl
theorem b_X7_mix_0 {C : aCall} {σ : aSt} {x1 x2 : Int32} (h : Sh σ) : b_R C kX7_mix [] (0, [some (.ref 100), some (.int x1), some (.int x2)], [], σ) = b_G C kX7_mix [] 2 5 [some (.ref 100), some (.int x1), some (.int x2)] [] (C 134 [.ref 100, .int x1] σ) := by
  refine (e_aload_n (code := kX7_mix) (pc := 0) rfl rfl).trans ?_
  refine (e_iload_n (code := kX7_mix) (pc := 1) rfl rfl).trans ?_
  exact (e_callV (σ := σ) (code := kX7_mix) (pc := 2) (len := 3) (k := 134) (n := 2) (c := 19) (as := [.ref 100, .int x1]) (st0 := []) rfl rfl rfl rfl rfl (sk_100 (σ := σ) h) rfl)
theorem b_X7_mix_5 {C : aCall} {σ : aSt} {x1 x2 : Int32} : b_R C kX7_mix [] (5, [some (.ref 100), some (.int x1), some (.int x2)], [], σ) = b_G C kX7_mix [] 7 10 [some (.ref 100), some (.int x1), some (.int x2)] [] (C 136 [.int x2, .int (nI 5)] σ) := by
  refine (e_iload_n (code := kX7_mix) (pc := 5) rfl rfl).trans ?_
  refine (e_iconst (code := kX7_mix) (pc := 6) rfl).trans ?_
  exact (e_callS (code := kX7_mix) (pc := 7) (len := 3) (k := 136) (n := 2) (as := [.int x2, .int (nI 5)]) (st0 := []) rfl rfl rfl rfl)
theorem b_X7_mix_10 {C : aCall} {σ : aSt} {x1 x2 : Int32} : b_R C kX7_mix [] (10, [some (.ref 100), some (.int x1), some (.int x2)], [], σ) = b_R C kX7_mix [] (b_tsw 11 65 3 5 #[25, 39, 48] x2, [some (.ref 100), some (.int x1), some (.int x2)], [], σ) := by
  refine (e_iload_n (code := kX7_mix) (pc := 10) rfl rfl).trans ?_
  refine (e_tableswitch (code := kX7_mix) (pc := 11) rfl rfl).trans ?_
  rfl
theorem b_X7_mix_36 {C : aCall} {σ : aSt} {x1 x2 : Int32} (h : Sh σ) : b_R C kX7_mix [] (36, [some (.ref 100), some (.int x1), some (.int x2)], [], σ) = b_G C kX7_mix [] 46 49 [some (.ref 100), some (.int x1), some (.int x2)] [] (C 1 [.ref 104, .int x1, .int (nI 8)] σ) := by
  refine (e_aload_n (code := kX7_mix) (pc := 36) rfl rfl).trans ?_
  refine (e_getR (code := kX7_mix) (pc := 37) (c := 9) rfl (sk_100 (σ := σ) h) (sr_100_0 (σ := σ) h)).trans ?_
  refine (e_getR (code := kX7_mix) (pc := 40) (c := 3) rfl (sk_101 (σ := σ) h) (sr_101_1 (σ := σ) h)).trans ?_
  refine (e_iload_n (code := kX7_mix) (pc := 43) rfl rfl).trans ?_
  refine (e_bipush (code := kX7_mix) (pc := 44) rfl).trans ?_
  exact (e_callV (σ := σ) (code := kX7_mix) (pc := 46) (len := 3) (k := 1) (n := 3) (c := 16) (as := [.ref 104, .int x1, .int (nI 8)]) (st0 := []) rfl rfl rfl rfl rfl (sk_104 (σ := σ) h) rfl)
theorem b_X7_mix_49 {C : aCall} {σ : aSt} {x1 x2 y0 : Int32} : b_R C kX7_mix [] (49, [some (.ref 100), some (.int x1), some (.int x2)], [.int y0], σ) = some (.inl (some (.int y0)), σ) := by
  exact e_ireturn rfl
theorem b_X7_mix_50 {C : aCall} {σ : aSt} {x1 x2 : Int32} (h : Sh σ) : b_R C kX7_mix [] (50, [some (.ref 100), some (.int x1), some (.int x2)], [], σ) = b_G C kX7_mix [] 55 58 [some (.ref 100), some (.int x1), some (.int x2)] [] (C 43 [.ref 101, .int x1] σ) := by
  refine (e_aload_n (code := kX7_mix) (pc := 50) rfl rfl).trans ?_
  refine (e_getR (code := kX7_mix) (pc := 51) (c := 9) rfl (sk_100 (σ := σ) h) (sr_100_0 (σ := σ) h)).trans ?_
  refine (e_iload_n (code := kX7_mix) (pc := 54) rfl rfl).trans ?_
  exact (e_callV (σ := σ) (code := kX7_mix) (pc := 55) (len := 3) (k := 43) (n := 2) (c := 13) (as := [.ref 101, .int x1]) (st0 := []) rfl rfl rfl rfl rfl (sk_101 (σ := σ) h) rfl)
theorem b_X7_mix_58 {C : aCall} {σ : aSt} {x1 x2 y0 : Int32} : b_R C kX7_mix [] (58, [some (.ref 100), some (.int x1), some (.int x2)], [.int y0], σ) = some (.inl (some (.int y0)), σ) := by
  exact e_ireturn rfl
theorem b_X7_mix_59 {C : aCall} {σ : aSt} {x1 x2 : Int32} (h : Sh σ) : b_R C kX7_mix [] (59, [some (.ref 100), some (.int x1), some (.int x2)], [], σ) = b_G C kX7_mix [] 64 67 [some (.ref 100), some (.int x1), some (.int x2)] [] (C 41 [.ref 101, .int x1] σ) := by
  refine (e_aload_n (code := kX7_mix) (pc := 59) rfl rfl).trans ?_
  refine (e_getR (code := kX7_mix) (pc := 60) (c := 9) rfl (sk_100 (σ := σ) h) (sr_100_0 (σ := σ) h)).trans ?_
  refine (e_iload_n (code := kX7_mix) (pc := 63) rfl rfl).trans ?_
  exact (e_callV (σ := σ) (code := kX7_mix) (pc := 64) (len := 3) (k := 41) (n := 2) (c := 13) (as := [.ref 101, .int x1]) (st0 := []) rfl rfl rfl rfl rfl (sk_101 (σ := σ) h) rfl)
theorem b_X7_mix_67 {C : aCall} {σ : aSt} {x1 x2 y0 : Int32} : b_R C kX7_mix [] (67, [some (.ref 100), some (.int x1), some (.int x2)], [.int y0], σ) = (if y0 = 0 then b_R C kX7_mix [] (75, [some (.ref 100), some (.int x1), some (.int x2)], [.int (nI 0)], σ) else b_R C kX7_mix [] (75, [some (.ref 100), some (.int x1), some (.int x2)], [.int (nI 1)], σ)) := by
  refine (e_ifeq (code := kX7_mix) (pc := 67) rfl).trans ?_
  refine b_ite ?_ ?_
  · refine (e_iconst (code := kX7_mix) (pc := 74) rfl).trans ?_
    rfl
  · refine (e_iconst (code := kX7_mix) (pc := 70) rfl).trans ?_
    refine (e_goto (code := kX7_mix) (pc := 71) rfl).trans ?_
    rfl
theorem b_X7_mix_75 {C : aCall} {σ : aSt} {x1 x2 y0 : Int32} : b_R C kX7_mix [] (75, [some (.ref 100), some (.int x1), some (.int x2)], [.int y0], σ) = some (.inl (some (.int y0)), σ) := by
  exact e_ireturn rfl
theorem b_X7_mix_76 {C : aCall} {σ : aSt} {x1 x2 : Int32} (h : Sh σ) : b_R C kX7_mix [] (76, [some (.ref 100), some (.int x1), some (.int x2)], [], σ) = b_G C kX7_mix [] 89 92 [some (.ref 100), some (.int x1), some (.int x2)] [] (C 44 [.ref 101, .ref 104, .int x1, .int x2] σ) := by
  refine (e_aload_n (code := kX7_mix) (pc := 76) rfl rfl).trans ?_
  refine (e_getR (code := kX7_mix) (pc := 77) (c := 9) rfl (sk_100 (σ := σ) h) (sr_100_0 (σ := σ) h)).trans ?_
  refine (e_aload_n (code := kX7_mix) (pc := 80) rfl rfl).trans ?_
  refine (e_getR (code := kX7_mix) (pc := 81) (c := 9) rfl (sk_100 (σ := σ) h) (sr_100_0 (σ := σ) h)).trans ?_
  refine (e_getR (code := kX7_mix) (pc := 84) (c := 3) rfl (sk_101 (σ := σ) h) (sr_101_1 (σ := σ) h)).trans ?_
  refine (e_iload_n (code := kX7_mix) (pc := 87) rfl rfl).trans ?_
  refine (e_iload_n (code := kX7_mix) (pc := 88) rfl rfl).trans ?_
  exact (e_callV (σ := σ) (code := kX7_mix) (pc := 89) (len := 3) (k := 44) (n := 4) (c := 13) (as := [.ref 101, .ref 104, .int x1, .int x2]) (st0 := []) rfl rfl rfl rfl rfl (sk_101 (σ := σ) h) rfl)
theorem b_X7_mix_92 {C : aCall} {σ : aSt} {x1 x2 y0 : Int32} : b_R C kX7_mix [] (92, [some (.ref 100), some (.int x1), some (.int x2)], [.int y0], σ) = some (.inl (some (.int y0)), σ) := by
  exact e_ireturn rfl
theorem n_X7_partOf {P : aCall} {d : Nat} {σ : aSt} {x1 x2 x3 : Int32} (hd : 1 ≤ d) : a_call a_tab P d 101 [.ref 100, .int x1, .int x2, .int x3] σ = b_R (a_call a_tab P (d - 1)) kX7_partOf [] (0, [some (.ref 100), some (.int x1), some (.int x2), some (.int x3)], [], σ) := e_call hd at_X7_partOf rfl
theorem b_X7_partOf_0 {C : aCall} {σ : aSt} {x1 x2 x3 : Int32} (h : Sh σ) : b_R C kX7_partOf [] (0, [some (.ref 100), some (.int x1), some (.int x2), some (.int x3)], [], σ) = b_G C kX7_partOf [] 2 5 [some (.ref 100), some (.int x1), some (.int x2), some (.int x3)] [] (C 134 [.ref 100, .int x1] σ) := by
  refine (e_aload_n (code := kX7_partOf) (pc := 0) rfl rfl).trans ?_
  refine (e_iload_n (code := kX7_partOf) (pc := 1) rfl rfl).trans ?_
  exact (e_callV (σ := σ) (code := kX7_partOf) (pc := 2) (len := 3) (k := 134) (n := 2) (c := 19) (as := [.ref 100, .int x1]) (st0 := []) rfl rfl rfl rfl rfl (sk_100 (σ := σ) h) rfl)
theorem b_X7_partOf_5 {C : aCall} {σ : aSt} {x1 x2 x3 : Int32} (h : Sh σ) : b_R C kX7_partOf [] (5, [some (.ref 100), some (.int x1), some (.int x2), some (.int x3)], [], σ) = b_G C kX7_partOf [] 16 19 [some (.ref 100), some (.int x1), some (.int x2), some (.int x3)] [.int x2] (C 1 [.ref 104, .int x1, .int (nI 8)] σ) := by
  refine (e_iload_n (code := kX7_partOf) (pc := 5) rfl rfl).trans ?_
  refine (e_aload_n (code := kX7_partOf) (pc := 6) rfl rfl).trans ?_
  refine (e_getR (code := kX7_partOf) (pc := 7) (c := 9) rfl (sk_100 (σ := σ) h) (sr_100_0 (σ := σ) h)).trans ?_
  refine (e_getR (code := kX7_partOf) (pc := 10) (c := 3) rfl (sk_101 (σ := σ) h) (sr_101_1 (σ := σ) h)).trans ?_
  refine (e_iload_n (code := kX7_partOf) (pc := 13) rfl rfl).trans ?_
  refine (e_bipush (code := kX7_partOf) (pc := 14) rfl).trans ?_
  exact (e_callV (σ := σ) (code := kX7_partOf) (pc := 16) (len := 3) (k := 1) (n := 3) (c := 16) (as := [.ref 104, .int x1, .int (nI 8)]) (st0 := [.int x2]) rfl rfl rfl rfl rfl (sk_104 (σ := σ) h) rfl)
theorem b_X7_partOf_19 {C : aCall} {σ : aSt} {x1 x2 x3 y0 y1 : Int32} : b_R C kX7_partOf [] (19, [some (.ref 100), some (.int x1), some (.int x2), some (.int x3)], [.int y0, .int y1], σ) = b_G C kX7_partOf [] 21 24 [some (.ref 100), some (.int x1), some (.int x2), some (.int x3)] [] (C 136 [.int y1, .int (y0 - (nI 1))] σ) := by
  refine (e_iconst (code := kX7_partOf) (pc := 19) rfl).trans ?_
  refine (e_isub (code := kX7_partOf) (pc := 20) rfl).trans ?_
  exact (e_callS (code := kX7_partOf) (pc := 21) (len := 3) (k := 136) (n := 2) (as := [.int y1, .int (y0 - (nI 1))]) (st0 := []) rfl rfl rfl rfl)
theorem b_X7_partOf_24 {C : aCall} {σ : aSt} {x1 x2 x3 : Int32} (h : Sh σ) : b_R C kX7_partOf [] (24, [some (.ref 100), some (.int x1), some (.int x2), some (.int x3)], [], σ) = (if x3 = 0 then b_R C kX7_partOf [] (43, [some (.ref 100), some (.int x1), some (.int x2), some (.int x3)], [.int (nI 9), .int x1, .ref 104], σ) else b_R C kX7_partOf [] (43, [some (.ref 100), some (.int x1), some (.int x2), some (.int x3)], [.int (nI 13), .int x1, .ref 104], σ)) := by
  refine (e_aload_n (code := kX7_partOf) (pc := 24) rfl rfl).trans ?_
  refine (e_getR (code := kX7_partOf) (pc := 25) (c := 9) rfl (sk_100 (σ := σ) h) (sr_100_0 (σ := σ) h)).trans ?_
  refine (e_getR (code := kX7_partOf) (pc := 28) (c := 3) rfl (sk_101 (σ := σ) h) (sr_101_1 (σ := σ) h)).trans ?_
  refine (e_iload_n (code := kX7_partOf) (pc := 31) rfl rfl).trans ?_
  refine (e_iload_n (code := kX7_partOf) (pc := 32) rfl rfl).trans ?_
  refine (e_ifeq (code := kX7_partOf) (pc := 33) rfl).trans ?_
  refine b_ite ?_ ?_
  · refine (e_bipush (code := kX7_partOf) (pc := 41) rfl).trans ?_
    rfl
  · refine (e_bipush (code := kX7_partOf) (pc := 36) rfl).trans ?_
    refine (e_goto (code := kX7_partOf) (pc := 38) rfl).trans ?_
    rfl
theorem b_X7_partOf_43 {C : aCall} {σ : aSt} {x1 x2 x3 y0 y1 : Int32} (h : Sh σ) : b_R C kX7_partOf [] (43, [some (.ref 100), some (.int x1), some (.int x2), some (.int x3)], [.int y0, .int y1, .ref 104], σ) = b_G C kX7_partOf [] 45 48 [some (.ref 100), some (.int x1), some (.int x2), some (.int x3)] [] (C 1 [.ref 104, .int y1, .int (y0 + x2)] σ) := by
  refine (e_iload_n (code := kX7_partOf) (pc := 43) rfl rfl).trans ?_
  refine (e_iadd (code := kX7_partOf) (pc := 44) rfl).trans ?_
  exact (e_callV (σ := σ) (code := kX7_partOf) (pc := 45) (len := 3) (k := 1) (n := 3) (c := 16) (as := [.ref 104, .int y1, .int (y0 + x2)]) (st0 := []) rfl rfl rfl rfl rfl (sk_104 (σ := σ) h) rfl)
theorem b_X7_partOf_48 {C : aCall} {σ : aSt} {x1 x2 x3 y0 : Int32} : b_R C kX7_partOf [] (48, [some (.ref 100), some (.int x1), some (.int x2), some (.int x3)], [.int y0], σ) = some (.inl (some (.int y0)), σ) := by
  exact e_ireturn rfl
theorem n_X7_letter {P : aCall} {d : Nat} {σ : aSt} {x1 x2 x3 : Int32} (hd : 1 ≤ d) : a_call a_tab P d 102 [.ref 100, .int x1, .int x2, .int x3] σ = b_R (a_call a_tab P (d - 1)) kX7_letter [] (0, [some (.ref 100), some (.int x1), some (.int x2), some (.int x3), none], [], σ) := e_call hd at_X7_letter rfl
theorem b_X7_letter_0 {C : aCall} {σ : aSt} {x1 x2 x3 : Int32} (h : Sh σ) : b_R C kX7_letter [] (0, [some (.ref 100), some (.int x1), some (.int x2), some (.int x3), none], [], σ) = (if x1 = 0 then b_G C kX7_letter [] 14 17 [some (.ref 100), some (.int x1), some (.int x2), some (.int x3), none] [] (C 133 [.ref 100, .int x2] σ) else b_G C kX7_letter [] 6 9 [some (.ref 100), some (.int x1), some (.int x2), some (.int x3), none] [] (C 134 [.ref 100, .int x2] σ)) := by
  refine (e_iload_n (code := kX7_letter) (pc := 0) rfl rfl).trans ?_
  refine (e_ifeq (code := kX7_letter) (pc := 1) rfl).trans ?_
  refine b_ite ?_ ?_
  · refine (e_aload_n (code := kX7_letter) (pc := 12) rfl rfl).trans ?_
    refine (e_iload_n (code := kX7_letter) (pc := 13) rfl rfl).trans ?_
    exact (e_callV (σ := σ) (code := kX7_letter) (pc := 14) (len := 3) (k := 133) (n := 2) (c := 19) (as := [.ref 100, .int x2]) (st0 := []) rfl rfl rfl rfl rfl (sk_100 (σ := σ) h) rfl)
  · refine (e_aload_n (code := kX7_letter) (pc := 4) rfl rfl).trans ?_
    refine (e_iload_n (code := kX7_letter) (pc := 5) rfl rfl).trans ?_
    exact (e_callV (σ := σ) (code := kX7_letter) (pc := 6) (len := 3) (k := 134) (n := 2) (c := 19) (as := [.ref 100, .int x2]) (st0 := []) rfl rfl rfl rfl rfl (sk_100 (σ := σ) h) rfl)
theorem b_X7_letter_9 {C : aCall} {σ : aSt} {x1 x2 x3 : Int32} : b_R C kX7_letter [] (9, [some (.ref 100), some (.int x1), some (.int x2), some (.int x3), none], [], σ) = b_R C kX7_letter [] (17, [some (.ref 100), some (.int x1), some (.int x2), some (.int x3), none], [], σ) := by
  refine (e_goto (code := kX7_letter) (pc := 9) rfl).trans ?_
  rfl
theorem b_X7_letter_17 {C : aCall} {σ : aSt} {x1 x2 x3 : Int32} (h : Sh σ) : b_R C kX7_letter [] (17, [some (.ref 100), some (.int x1), some (.int x2), some (.int x3), none], [], σ) = (if x3 < 0 then b_R C kX7_letter [] (27, [some (.ref 100), some (.int x1), some (.int x2), some (.int x3), none], [], σ) else (if x3 < (nI 8) then (if x1 = 0 then b_R C kX7_letter [] (50, [some (.ref 100), some (.int x1), some (.int x2), some (.int x3), none], [.ref 102], σ) else b_R C kX7_letter [] (50, [some (.ref 100), some (.int x1), some (.int x2), some (.int x3), none], [.ref 104], σ)) else b_R C kX7_letter [] (27, [some (.ref 100), some (.int x1), some (.int x2), some (.int x3), none], [], σ))) := by
  refine (e_iload_n (code := kX7_letter) (pc := 17) rfl rfl).trans ?_
  refine (e_iflt (code := kX7_letter) (pc := 18) rfl).trans ?_
  refine b_ite ?_ ?_
  · rfl
  · refine (e_iload_n (code := kX7_letter) (pc := 21) rfl rfl).trans ?_
    refine (e_bipush (code := kX7_letter) (pc := 22) rfl).trans ?_
    refine (e_iclt (code := kX7_letter) (pc := 24) rfl).trans ?_
    refine b_ite ?_ ?_
    · refine (e_iload_n (code := kX7_letter) (pc := 29) rfl rfl).trans ?_
      refine (e_ifeq (code := kX7_letter) (pc := 30) rfl).trans ?_
      refine b_ite ?_ ?_
      · refine (e_aload_n (code := kX7_letter) (pc := 43) rfl rfl).trans ?_
        refine (e_getR (code := kX7_letter) (pc := 44) (c := 9) rfl (sk_100 (σ := σ) h) (sr_100_0 (σ := σ) h)).trans ?_
        refine (e_getR (code := kX7_letter) (pc := 47) (c := 3) rfl (sk_101 (σ := σ) h) (sr_101_0 (σ := σ) h)).trans ?_
        rfl
      · refine (e_aload_n (code := kX7_letter) (pc := 33) rfl rfl).trans ?_
        refine (e_getR (code := kX7_letter) (pc := 34) (c := 9) rfl (sk_100 (σ := σ) h) (sr_100_0 (σ := σ) h)).trans ?_
        refine (e_getR (code := kX7_letter) (pc := 37) (c := 3) rfl (sk_101 (σ := σ) h) (sr_101_1 (σ := σ) h)).trans ?_
        refine (e_goto (code := kX7_letter) (pc := 40) rfl).trans ?_
        rfl
    · rfl
theorem b_X7_letter_27 {C : aCall} {σ : aSt} {x1 x2 x3 : Int32} : b_R C kX7_letter [] (27, [some (.ref 100), some (.int x1), some (.int x2), some (.int x3), none], [], σ) = some (.inl (some (.int ((-1)))), σ) := by
  refine (e_iconst (code := kX7_letter) (pc := 27) rfl).trans ?_
  exact e_ireturn rfl
theorem b_X7_letter_50 {C : aCall} {σ : aSt} {ry0 : Nat} {x1 x2 x3 : Int32} (hk_ry0 : a_kd σ ry0 = 16) : b_R C kX7_letter [] (50, [some (.ref 100), some (.int x1), some (.int x2), some (.int x3), none], [.ref ry0], σ) = b_G C kX7_letter [] 52 55 [some (.ref 100), some (.int x1), some (.int x2), some (.int x3), none] [] (C 1 [.ref ry0, .int x2, .int x3] σ) := by
  refine (e_iload_n (code := kX7_letter) (pc := 50) rfl rfl).trans ?_
  refine (e_iload_n (code := kX7_letter) (pc := 51) rfl rfl).trans ?_
  exact (e_callV (σ := σ) (code := kX7_letter) (pc := 52) (len := 3) (k := 1) (n := 3) (c := 16) (as := [.ref ry0, .int x2, .int x3]) (st0 := []) rfl rfl rfl rfl rfl hk_ry0 rfl)
theorem b_X7_letter_55 {C : aCall} {σ : aSt} {x1 x2 x3 y0 : Int32} : b_R C kX7_letter [] (55, [some (.ref 100), some (.int x1), some (.int x2), some (.int x3), none], [.int y0], σ) = (if y0 = 0 then b_R C kX7_letter [] (68, [some (.ref 100), some (.int x1), some (.int x2), some (.int x3), some (.int y0)], [.int ((-1))], σ) else b_R C kX7_letter [] (68, [some (.ref 100), some (.int x1), some (.int x2), some (.int x3), some (.int y0)], [.int y0], σ)) := by
  refine (e_istore (code := kX7_letter) (pc := 55) rfl rfl rfl).trans ?_
  refine (e_iload (code := kX7_letter) (pc := 57) rfl rfl).trans ?_
  refine (e_ifne (code := kX7_letter) (pc := 59) rfl).trans ?_
  refine b_ite ?_ ?_
  · refine (e_iconst (code := kX7_letter) (pc := 62) rfl).trans ?_
    refine (e_goto (code := kX7_letter) (pc := 63) rfl).trans ?_
    rfl
  · refine (e_iload (code := kX7_letter) (pc := 66) rfl rfl).trans ?_
    rfl
theorem b_X7_letter_68 {C : aCall} {σ : aSt} {x1 x2 x3 x4 y0 : Int32} : b_R C kX7_letter [] (68, [some (.ref 100), some (.int x1), some (.int x2), some (.int x3), some (.int x4)], [.int y0], σ) = some (.inl (some (.int y0)), σ) := by
  exact e_ireturn rfl
theorem n_X7_apart {P : aCall} {d : Nat} {σ : aSt} {x1 x2 : Int32} (hd : 1 ≤ d) : a_call a_tab P d 103 [.ref 100, .int x1, .int x2] σ = b_R (a_call a_tab P (d - 1)) kX7_apart [] (0, [some (.ref 100), some (.int x1), some (.int x2)], [], σ) := e_call hd at_X7_apart rfl
theorem b_X7_apart_0 {C : aCall} {σ : aSt} {x1 x2 : Int32} : b_R C kX7_apart [] (0, [some (.ref 100), some (.int x1), some (.int x2)], [], σ) = b_G C kX7_apart [] 1 4 [some (.ref 100), some (.int x1), some (.int x2)] [] (C 138 [.int x1] σ) := by
  refine (e_iload_n (code := kX7_apart) (pc := 0) rfl rfl).trans ?_
  exact (e_callS (code := kX7_apart) (pc := 1) (len := 3) (k := 138) (n := 1) (as := [.int x1]) (st0 := []) rfl rfl rfl rfl)
theorem b_X7_apart_4 {C : aCall} {σ : aSt} {x1 x2 : Int32} : b_R C kX7_apart [] (4, [some (.ref 100), some (.int x1), some (.int x2)], [], σ) = b_G C kX7_apart [] 5 8 [some (.ref 100), some (.int x1), some (.int x2)] [] (C 138 [.int x2] σ) := by
  refine (e_iload_n (code := kX7_apart) (pc := 4) rfl rfl).trans ?_
  exact (e_callS (code := kX7_apart) (pc := 5) (len := 3) (k := 138) (n := 1) (as := [.int x2]) (st0 := []) rfl rfl rfl rfl)
theorem b_X7_apart_8 {C : aCall} {σ : aSt} {x1 x2 : Int32} : b_R C kX7_apart [] (8, [some (.ref 100), some (.int x1), some (.int x2)], [], σ) = b_G C kX7_apart [] 10 13 [some (.ref 100), some (.int x1), some (.int x2)] [] (C 141 [.int x1, .int x2] σ) := by
  refine (e_iload_n (code := kX7_apart) (pc := 8) rfl rfl).trans ?_
  refine (e_iload_n (code := kX7_apart) (pc := 9) rfl rfl).trans ?_
  exact (e_callS (code := kX7_apart) (pc := 10) (len := 3) (k := 141) (n := 2) (as := [.int x1, .int x2]) (st0 := []) rfl rfl rfl rfl)
theorem b_X7_apart_13 {C : aCall} {σ : aSt} {x1 x2 y0 : Int32} : b_R C kX7_apart [] (13, [some (.ref 100), some (.int x1), some (.int x2)], [.int y0], σ) = some (.inl (some (.int y0)), σ) := by
  exact e_ireturn rfl
theorem n_X7_called {P : aCall} {d : Nat} {σ : aSt} {x1 : Int32} (hd : 1 ≤ d) : a_call a_tab P d 104 [.ref 100, .int x1] σ = b_R (a_call a_tab P (d - 1)) kX7_called [] (0, [some (.ref 100), some (.int x1), none, none, none, none], [], σ) := e_call hd at_X7_called rfl
theorem b_X7_called_0 {C : aCall} {σ : aSt} {x1 : Int32} : b_R C kX7_called [] (0, [some (.ref 100), some (.int x1), none, none, none, none], [], σ) = b_G C kX7_called [] 1 4 [some (.ref 100), some (.int x1), none, none, none, none] [] (C 138 [.int x1] σ) := by
  refine (e_iload_n (code := kX7_called) (pc := 0) rfl rfl).trans ?_
  exact (e_callS (code := kX7_called) (pc := 1) (len := 3) (k := 138) (n := 1) (as := [.int x1]) (st0 := []) rfl rfl rfl rfl)
theorem b_X7_called_4 {C : aCall} {σ : aSt} {x1 : Int32} : b_R C kX7_called [] (4, [some (.ref 100), some (.int x1), none, none, none, none], [], σ) = b_R C kX7_called [] (12, [some (.ref 100), some (.int x1), some (.int ((-1))), some (.int (nI 1000000)), some (.int (nI 0)), none], [], σ) := by
  refine (e_iconst (code := kX7_called) (pc := 4) rfl).trans ?_
  refine (e_istore_n (code := kX7_called) (pc := 5) rfl rfl rfl).trans ?_
  refine (e_ldcI (code := kX7_called) (pc := 6) rfl).trans ?_
  refine (e_istore_n (code := kX7_called) (pc := 8) rfl rfl rfl).trans ?_
  refine (e_iconst (code := kX7_called) (pc := 9) rfl).trans ?_
  refine (e_istore (code := kX7_called) (pc := 10) rfl rfl rfl).trans ?_
  rfl
theorem b_X7_called_12 {C : aCall} {σ : aSt} {x1 x2 x3 x4 : Int32} {o5 : Option Value} (h : Sh σ) : b_R C kX7_called [] (12, [some (.ref 100), some (.int x1), some (.int x2), some (.int x3), some (.int x4), o5], [], σ) = (if x4 < (a_I σ 104 2) then b_G C kX7_called [] 40 43 [some (.ref 100), some (.int x1), some (.int x2), some (.int x3), some (.int x4), o5] [] (C 45 [.ref 101, .ref 104, .int x4] σ) else some (.inl (some (.int x2)), σ)) := by
  refine (e_iload (code := kX7_called) (pc := 12) rfl rfl).trans ?_
  refine (e_aload_n (code := kX7_called) (pc := 14) rfl rfl).trans ?_
  refine (e_getR (code := kX7_called) (pc := 15) (c := 9) rfl (sk_100 (σ := σ) h) (sr_100_0 (σ := σ) h)).trans ?_
  refine (e_getR (code := kX7_called) (pc := 18) (c := 3) rfl (sk_101 (σ := σ) h) (sr_101_1 (σ := σ) h)).trans ?_
  refine (e_getI (code := kX7_called) (pc := 21) (c := 6) rfl (sk_104 (σ := σ) h) rfl).trans ?_
  refine (e_icge (code := kX7_called) (pc := 24) rfl).trans ?_
  refine b_ite ?_ ?_
  · refine (e_aload_n (code := kX7_called) (pc := 27) rfl rfl).trans ?_
    refine (e_getR (code := kX7_called) (pc := 28) (c := 9) rfl (sk_100 (σ := σ) h) (sr_100_0 (σ := σ) h)).trans ?_
    refine (e_aload_n (code := kX7_called) (pc := 31) rfl rfl).trans ?_
    refine (e_getR (code := kX7_called) (pc := 32) (c := 9) rfl (sk_100 (σ := σ) h) (sr_100_0 (σ := σ) h)).trans ?_
    refine (e_getR (code := kX7_called) (pc := 35) (c := 3) rfl (sk_101 (σ := σ) h) (sr_101_1 (σ := σ) h)).trans ?_
    refine (e_iload (code := kX7_called) (pc := 38) rfl rfl).trans ?_
    exact (e_callV (σ := σ) (code := kX7_called) (pc := 40) (len := 3) (k := 45) (n := 3) (c := 13) (as := [.ref 101, .ref 104, .int x4]) (st0 := []) rfl rfl rfl rfl rfl (sk_101 (σ := σ) h) rfl)
  · refine (e_iload_n (code := kX7_called) (pc := 67) rfl rfl).trans ?_
    exact e_ireturn rfl
theorem b_X7_called_43 {C : aCall} {σ : aSt} {x1 x2 x3 x4 y0 : Int32} {o5 : Option Value} : b_R C kX7_called [] (43, [some (.ref 100), some (.int x1), some (.int x2), some (.int x3), some (.int x4), o5], [.int y0], σ) = b_G C kX7_called [] 44 47 [some (.ref 100), some (.int x1), some (.int x2), some (.int x3), some (.int x4), o5] [] (C 141 [.int y0, .int x1] σ) := by
  refine (e_iload_n (code := kX7_called) (pc := 43) rfl rfl).trans ?_
  exact (e_callS (code := kX7_called) (pc := 44) (len := 3) (k := 141) (n := 2) (as := [.int y0, .int x1]) (st0 := []) rfl rfl rfl rfl)
theorem b_X7_called_47 {C : aCall} {σ : aSt} {x1 x2 x3 x4 y0 : Int32} {o5 : Option Value} : b_R C kX7_called [] (47, [some (.ref 100), some (.int x1), some (.int x2), some (.int x3), some (.int x4), o5], [.int y0], σ) = (if y0 < x3 then b_R C kX7_called [] (61, [some (.ref 100), some (.int x1), some (.int x4), some (.int y0), some (.int x4), some (.int y0)], [], σ) else b_R C kX7_called [] (61, [some (.ref 100), some (.int x1), some (.int x2), some (.int x3), some (.int x4), some (.int y0)], [], σ)) := by
  refine (e_istore (code := kX7_called) (pc := 47) rfl rfl rfl).trans ?_
  refine (e_iload (code := kX7_called) (pc := 49) rfl rfl).trans ?_
  refine (e_iload_n (code := kX7_called) (pc := 51) rfl rfl).trans ?_
  refine (e_icge (code := kX7_called) (pc := 52) rfl).trans ?_
  refine b_ite ?_ ?_
  · refine (e_iload (code := kX7_called) (pc := 55) rfl rfl).trans ?_
    refine (e_istore_n (code := kX7_called) (pc := 57) rfl rfl rfl).trans ?_
    refine (e_iload (code := kX7_called) (pc := 58) rfl rfl).trans ?_
    refine (e_istore_n (code := kX7_called) (pc := 60) rfl rfl rfl).trans ?_
    rfl
  · rfl
theorem b_X7_called_61 {C : aCall} {σ : aSt} {x1 x2 x3 x4 x5 : Int32} : b_R C kX7_called [] (61, [some (.ref 100), some (.int x1), some (.int x2), some (.int x3), some (.int x4), some (.int x5)], [], σ) = b_R C kX7_called [] (12, [some (.ref 100), some (.int x1), some (.int x2), some (.int x3), some (.int (x4 + nI 1)), some (.int x5)], [], σ) := by
  refine (e_iinc (code := kX7_called) (pc := 61) rfl rfl rfl rfl).trans ?_
  refine (e_goto (code := kX7_called) (pc := 64) rfl).trans ?_
  rfl
theorem n_X7_nearest {P : aCall} {d : Nat} {σ : aSt} {x1 x2 x3 : Int32} (hd : 1 ≤ d) : a_call a_tab P d 105 [.ref 100, .int x1, .int x2, .int x3] σ = b_R (a_call a_tab P (d - 1)) kX7_nearest [] (0, [some (.ref 100), some (.int x1), some (.int x2), some (.int x3)], [], σ) := e_call hd at_X7_nearest rfl
theorem b_X7_nearest_0 {C : aCall} {σ : aSt} {x1 x2 x3 : Int32} : b_R C kX7_nearest [] (0, [some (.ref 100), some (.int x1), some (.int x2), some (.int x3)], [], σ) = b_G C kX7_nearest [] 3 6 [some (.ref 100), some (.int x1), some (.int x2), some (.int x3)] [] (C 136 [.int x3, .int (nI 9)] σ) := by
  refine (e_iload_n (code := kX7_nearest) (pc := 0) rfl rfl).trans ?_
  refine (e_bipush (code := kX7_nearest) (pc := 1) rfl).trans ?_
  exact (e_callS (code := kX7_nearest) (pc := 3) (len := 3) (k := 136) (n := 2) (as := [.int x3, .int (nI 9)]) (st0 := []) rfl rfl rfl rfl)
theorem b_X7_nearest_6 {C : aCall} {σ : aSt} {x1 x2 x3 : Int32} : b_R C kX7_nearest [] (6, [some (.ref 100), some (.int x1), some (.int x2), some (.int x3)], [], σ) = b_G C kX7_nearest [] 7 10 [some (.ref 100), some (.int x1), some (.int x2), some (.int x3)] [] (C 138 [.int x1] σ) := by
  refine (e_iload_n (code := kX7_nearest) (pc := 6) rfl rfl).trans ?_
  exact (e_callS (code := kX7_nearest) (pc := 7) (len := 3) (k := 138) (n := 1) (as := [.int x1]) (st0 := []) rfl rfl rfl rfl)
theorem b_X7_nearest_10 {C : aCall} {σ : aSt} {x1 x2 x3 : Int32} : b_R C kX7_nearest [] (10, [some (.ref 100), some (.int x1), some (.int x2), some (.int x3)], [], σ) = b_G C kX7_nearest [] 13 16 [some (.ref 100), some (.int x1), some (.int x2), some (.int x3)] [] (C 137 [.int x2, .int (nI 1), .int (nI 3)] σ) := by
  refine (e_iload_n (code := kX7_nearest) (pc := 10) rfl rfl).trans ?_
  refine (e_iconst (code := kX7_nearest) (pc := 11) rfl).trans ?_
  refine (e_iconst (code := kX7_nearest) (pc := 12) rfl).trans ?_
  exact (e_callS (code := kX7_nearest) (pc := 13) (len := 3) (k := 137) (n := 3) (as := [.int x2, .int (nI 1), .int (nI 3)]) (st0 := []) rfl rfl rfl rfl)
theorem b_X7_nearest_16 {C : aCall} {σ : aSt} {x1 x2 x3 : Int32} (h : Sh σ) : b_R C kX7_nearest [] (16, [some (.ref 100), some (.int x1), some (.int x2), some (.int x3)], [], σ) = b_G C kX7_nearest [] 26 29 [some (.ref 100), some (.int x1), some (.int x2), some (.int x3)] [] (C 58 [.ref 229, .ref 101, .int x1, .int x2] σ) := by
  refine (e_aload_n (code := kX7_nearest) (pc := 16) rfl rfl).trans ?_
  refine (e_getR (code := kX7_nearest) (pc := 17) (c := 9) rfl (sk_100 (σ := σ) h) (sr_100_8 (σ := σ) h)).trans ?_
  refine (e_aload_n (code := kX7_nearest) (pc := 20) rfl rfl).trans ?_
  refine (e_getR (code := kX7_nearest) (pc := 21) (c := 9) rfl (sk_100 (σ := σ) h) (sr_100_0 (σ := σ) h)).trans ?_
  refine (e_iload_n (code := kX7_nearest) (pc := 24) rfl rfl).trans ?_
  refine (e_iload_n (code := kX7_nearest) (pc := 25) rfl rfl).trans ?_
  exact (e_callV (σ := σ) (code := kX7_nearest) (pc := 26) (len := 3) (k := 58) (n := 4) (c := 15) (as := [.ref 229, .ref 101, .int x1, .int x2]) (st0 := []) rfl rfl rfl rfl rfl (sk_229 (σ := σ) h) rfl)
theorem b_X7_nearest_29 {C : aCall} {σ : aSt} {x1 x2 x3 : Int32} (h : Sh σ) : b_R C kX7_nearest [] (29, [some (.ref 100), some (.int x1), some (.int x2), some (.int x3)], [], σ) = b_G C kX7_nearest [] 34 37 [some (.ref 100), some (.int x1), some (.int x2), some (.int x3)] [] (C 65 [.ref 229, .int x3] σ) := by
  refine (e_aload_n (code := kX7_nearest) (pc := 29) rfl rfl).trans ?_
  refine (e_getR (code := kX7_nearest) (pc := 30) (c := 9) rfl (sk_100 (σ := σ) h) (sr_100_8 (σ := σ) h)).trans ?_
  refine (e_iload_n (code := kX7_nearest) (pc := 33) rfl rfl).trans ?_
  exact (e_callV (σ := σ) (code := kX7_nearest) (pc := 34) (len := 3) (k := 65) (n := 2) (c := 15) (as := [.ref 229, .int x3]) (st0 := []) rfl rfl rfl rfl rfl (sk_229 (σ := σ) h) rfl)
theorem b_X7_nearest_37 {C : aCall} {σ : aSt} {x1 x2 x3 y0 : Int32} : b_R C kX7_nearest [] (37, [some (.ref 100), some (.int x1), some (.int x2), some (.int x3)], [.int y0], σ) = some (.inl (some (.int y0)), σ) := by
  exact e_ireturn rfl
theorem n_X7_fewest {P : aCall} {d : Nat} {σ : aSt} {x1 : Int32} (hd : 1 ≤ d) : a_call a_tab P d 106 [.ref 100, .int x1] σ = b_R (a_call a_tab P (d - 1)) kX7_fewest [] (0, [some (.ref 100), some (.int x1), none], [], σ) := e_call hd at_X7_fewest rfl
theorem b_X7_fewest_0 {C : aCall} {σ : aSt} {x1 : Int32} : b_R C kX7_fewest [] (0, [some (.ref 100), some (.int x1), none], [], σ) = b_G C kX7_fewest [] 1 4 [some (.ref 100), some (.int x1), none] [] (C 138 [.int x1] σ) := by
  refine (e_iload_n (code := kX7_fewest) (pc := 0) rfl rfl).trans ?_
  exact (e_callS (code := kX7_fewest) (pc := 1) (len := 3) (k := 138) (n := 1) (as := [.int x1]) (st0 := []) rfl rfl rfl rfl)
theorem b_X7_fewest_4 {C : aCall} {σ : aSt} {x1 : Int32} (h : Sh σ) : b_R C kX7_fewest [] (4, [some (.ref 100), some (.int x1), none], [], σ) = b_G C kX7_fewest [] 13 16 [some (.ref 100), some (.int x1), none] [] (C 59 [.ref 229, .ref 101, .int x1] σ) := by
  refine (e_aload_n (code := kX7_fewest) (pc := 4) rfl rfl).trans ?_
  refine (e_getR (code := kX7_fewest) (pc := 5) (c := 9) rfl (sk_100 (σ := σ) h) (sr_100_8 (σ := σ) h)).trans ?_
  refine (e_aload_n (code := kX7_fewest) (pc := 8) rfl rfl).trans ?_
  refine (e_getR (code := kX7_fewest) (pc := 9) (c := 9) rfl (sk_100 (σ := σ) h) (sr_100_0 (σ := σ) h)).trans ?_
  refine (e_iload_n (code := kX7_fewest) (pc := 12) rfl rfl).trans ?_
  exact (e_callV (σ := σ) (code := kX7_fewest) (pc := 13) (len := 3) (k := 59) (n := 3) (c := 15) (as := [.ref 229, .ref 101, .int x1]) (st0 := []) rfl rfl rfl rfl rfl (sk_229 (σ := σ) h) rfl)
theorem b_X7_fewest_16 {C : aCall} {σ : aSt} {x1 : Int32} : b_R C kX7_fewest [] (16, [some (.ref 100), some (.int x1), none], [], σ) = b_R C kX7_fewest [] (18, [some (.ref 100), some (.int x1), some (.int (nI 1))], [], σ) := by
  refine (e_iconst (code := kX7_fewest) (pc := 16) rfl).trans ?_
  refine (e_istore_n (code := kX7_fewest) (pc := 17) rfl rfl rfl).trans ?_
  rfl
theorem b_X7_fewest_18 {C : aCall} {σ : aSt} {x1 x2 : Int32} (h : Sh σ) : b_R C kX7_fewest [] (18, [some (.ref 100), some (.int x1), some (.int x2)], [], σ) = (if (nI 3) < x2 then some (.inl (some (.int ((-1)))), σ) else b_G C kX7_fewest [] 28 31 [some (.ref 100), some (.int x1), some (.int x2)] [] (C 60 [.ref 229, .int x2] σ)) := by
  refine (e_iload_n (code := kX7_fewest) (pc := 18) rfl rfl).trans ?_
  refine (e_iconst (code := kX7_fewest) (pc := 19) rfl).trans ?_
  refine (e_icgt (code := kX7_fewest) (pc := 20) rfl).trans ?_
  refine b_ite ?_ ?_
  · refine (e_iconst (code := kX7_fewest) (pc := 56) rfl).trans ?_
    exact e_ireturn rfl
  · refine (e_aload_n (code := kX7_fewest) (pc := 23) rfl rfl).trans ?_
    refine (e_getR (code := kX7_fewest) (pc := 24) (c := 9) rfl (sk_100 (σ := σ) h) (sr_100_8 (σ := σ) h)).trans ?_
    refine (e_iload_n (code := kX7_fewest) (pc := 27) rfl rfl).trans ?_
    exact (e_callV (σ := σ) (code := kX7_fewest) (pc := 28) (len := 3) (k := 60) (n := 2) (c := 15) (as := [.ref 229, .int x2]) (st0 := []) rfl rfl rfl rfl rfl (sk_229 (σ := σ) h) rfl)
theorem b_X7_fewest_31 {C : aCall} {σ : aSt} {x1 x2 : Int32} (h : Sh σ) : b_R C kX7_fewest [] (31, [some (.ref 100), some (.int x1), some (.int x2)], [], σ) = (if (a_I σ 101 5) < (a_I σ 229 10) then b_R C kX7_fewest [] (18, [some (.ref 100), some (.int x1), some (.int (x2 + nI 1))], [], σ) else some (.inl (some (.int x2)), σ)) := by
  refine (e_aload_n (code := kX7_fewest) (pc := 31) rfl rfl).trans ?_
  refine (e_getR (code := kX7_fewest) (pc := 32) (c := 9) rfl (sk_100 (σ := σ) h) (sr_100_8 (σ := σ) h)).trans ?_
  refine (e_getI (code := kX7_fewest) (pc := 35) (c := 5) rfl (sk_229 (σ := σ) h) rfl).trans ?_
  refine (e_aload_n (code := kX7_fewest) (pc := 38) rfl rfl).trans ?_
  refine (e_getR (code := kX7_fewest) (pc := 39) (c := 9) rfl (sk_100 (σ := σ) h) (sr_100_0 (σ := σ) h)).trans ?_
  refine (e_getI (code := kX7_fewest) (pc := 42) (c := 3) rfl (sk_101 (σ := σ) h) rfl).trans ?_
  refine (e_icgt (code := kX7_fewest) (pc := 45) rfl).trans ?_
  refine b_ite ?_ ?_
  · refine (e_iinc (code := kX7_fewest) (pc := 50) rfl rfl rfl rfl).trans ?_
    refine (e_goto (code := kX7_fewest) (pc := 53) rfl).trans ?_
    rfl
  · refine (e_iload_n (code := kX7_fewest) (pc := 48) rfl rfl).trans ?_
    exact e_ireturn rfl
theorem n_X7_strokes {P : aCall} {d : Nat} {σ : aSt} {x1 : Int32} (hd : 1 ≤ d) : a_call a_tab P d 107 [.ref 100, .int x1] σ = b_R (a_call a_tab P (d - 1)) kX7_strokes [] (0, [some (.ref 100), some (.int x1)], [], σ) := e_call hd at_X7_strokes rfl
theorem b_X7_strokes_0 {C : aCall} {σ : aSt} {x1 : Int32} (h : Sh σ) : b_R C kX7_strokes [] (0, [some (.ref 100), some (.int x1)], [], σ) = b_G C kX7_strokes [] 2 5 [some (.ref 100), some (.int x1)] [] (C 134 [.ref 100, .int x1] σ) := by
  refine (e_aload_n (code := kX7_strokes) (pc := 0) rfl rfl).trans ?_
  refine (e_iload_n (code := kX7_strokes) (pc := 1) rfl rfl).trans ?_
  exact (e_callV (σ := σ) (code := kX7_strokes) (pc := 2) (len := 3) (k := 134) (n := 2) (c := 19) (as := [.ref 100, .int x1]) (st0 := []) rfl rfl rfl rfl rfl (sk_100 (σ := σ) h) rfl)
theorem b_X7_strokes_5 {C : aCall} {σ : aSt} {x1 : Int32} (h : Sh σ) : b_R C kX7_strokes [] (5, [some (.ref 100), some (.int x1)], [], σ) = b_G C kX7_strokes [] 10 13 [some (.ref 100), some (.int x1)] [] (C 47 [.ref 101, .int x1] σ) := by
  refine (e_aload_n (code := kX7_strokes) (pc := 5) rfl rfl).trans ?_
  refine (e_getR (code := kX7_strokes) (pc := 6) (c := 9) rfl (sk_100 (σ := σ) h) (sr_100_0 (σ := σ) h)).trans ?_
  refine (e_iload_n (code := kX7_strokes) (pc := 9) rfl rfl).trans ?_
  exact (e_callV (σ := σ) (code := kX7_strokes) (pc := 10) (len := 3) (k := 47) (n := 2) (c := 13) (as := [.ref 101, .int x1]) (st0 := []) rfl rfl rfl rfl rfl (sk_101 (σ := σ) h) rfl)
theorem b_X7_strokes_13 {C : aCall} {σ : aSt} {x1 y0 : Int32} : b_R C kX7_strokes [] (13, [some (.ref 100), some (.int x1)], [.int y0], σ) = some (.inl (some (.int y0)), σ) := by
  exact e_ireturn rfl
theorem n_X7_shortest {P : aCall} {d : Nat} {σ : aSt} {x1 : Int32} (hd : 1 ≤ d) : a_call a_tab P d 108 [.ref 100, .int x1] σ = b_R (a_call a_tab P (d - 1)) kX7_shortest [] (0, [some (.ref 100), some (.int x1)], [], σ) := e_call hd at_X7_shortest rfl
theorem b_X7_shortest_0 {C : aCall} {σ : aSt} {x1 : Int32} (h : Sh σ) : b_R C kX7_shortest [] (0, [some (.ref 100), some (.int x1)], [], σ) = b_G C kX7_shortest [] 2 5 [some (.ref 100), some (.int x1)] [] (C 134 [.ref 100, .int x1] σ) := by
  refine (e_aload_n (code := kX7_shortest) (pc := 0) rfl rfl).trans ?_
  refine (e_iload_n (code := kX7_shortest) (pc := 1) rfl rfl).trans ?_
  exact (e_callV (σ := σ) (code := kX7_shortest) (pc := 2) (len := 3) (k := 134) (n := 2) (c := 19) (as := [.ref 100, .int x1]) (st0 := []) rfl rfl rfl rfl rfl (sk_100 (σ := σ) h) rfl)
theorem b_X7_shortest_5 {C : aCall} {σ : aSt} {x1 : Int32} (h : Sh σ) : b_R C kX7_shortest [] (5, [some (.ref 100), some (.int x1)], [], σ) = b_G C kX7_shortest [] 10 13 [some (.ref 100), some (.int x1)] [] (C 48 [.ref 101, .int x1] σ) := by
  refine (e_aload_n (code := kX7_shortest) (pc := 5) rfl rfl).trans ?_
  refine (e_getR (code := kX7_shortest) (pc := 6) (c := 9) rfl (sk_100 (σ := σ) h) (sr_100_0 (σ := σ) h)).trans ?_
  refine (e_iload_n (code := kX7_shortest) (pc := 9) rfl rfl).trans ?_
  exact (e_callV (σ := σ) (code := kX7_shortest) (pc := 10) (len := 3) (k := 48) (n := 2) (c := 13) (as := [.ref 101, .int x1]) (st0 := []) rfl rfl rfl rfl rfl (sk_101 (σ := σ) h) rfl)
theorem b_X7_shortest_13 {C : aCall} {σ : aSt} {x1 y0 : Int32} : b_R C kX7_shortest [] (13, [some (.ref 100), some (.int x1)], [.int y0], σ) = some (.inl (some (.int y0)), σ) := by
  exact e_ireturn rfl
theorem n_X7_wouldPaint {P : aCall} {d : Nat} {σ : aSt} {x1 x2 : Int32} (hd : 1 ≤ d) : a_call a_tab P d 109 [.ref 100, .int x1, .int x2] σ = b_R (a_call a_tab P (d - 1)) kX7_wouldPaint [] (0, [some (.ref 100), some (.int x1), some (.int x2)], [], σ) := e_call hd at_X7_wouldPaint rfl
theorem b_X7_wouldPaint_0 {C : aCall} {σ : aSt} {x1 x2 : Int32} (h : Sh σ) : b_R C kX7_wouldPaint [] (0, [some (.ref 100), some (.int x1), some (.int x2)], [], σ) = b_G C kX7_wouldPaint [] 2 5 [some (.ref 100), some (.int x1), some (.int x2)] [] (C 135 [.ref 100, .int x1] σ) := by
  refine (e_aload_n (code := kX7_wouldPaint) (pc := 0) rfl rfl).trans ?_
  refine (e_iload_n (code := kX7_wouldPaint) (pc := 1) rfl rfl).trans ?_
  exact (e_callV (σ := σ) (code := kX7_wouldPaint) (pc := 2) (len := 3) (k := 135) (n := 2) (c := 19) (as := [.ref 100, .int x1]) (st0 := []) rfl rfl rfl rfl rfl (sk_100 (σ := σ) h) rfl)
theorem b_X7_wouldPaint_5 {C : aCall} {σ : aSt} {x1 x2 : Int32} (h : Sh σ) : b_R C kX7_wouldPaint [] (5, [some (.ref 100), some (.int x1), some (.int x2)], [], σ) = b_G C kX7_wouldPaint [] 7 10 [some (.ref 100), some (.int x1), some (.int x2)] [] (C 134 [.ref 100, .int x2] σ) := by
  refine (e_aload_n (code := kX7_wouldPaint) (pc := 5) rfl rfl).trans ?_
  refine (e_iload_n (code := kX7_wouldPaint) (pc := 6) rfl rfl).trans ?_
  exact (e_callV (σ := σ) (code := kX7_wouldPaint) (pc := 7) (len := 3) (k := 134) (n := 2) (c := 19) (as := [.ref 100, .int x2]) (st0 := []) rfl rfl rfl rfl rfl (sk_100 (σ := σ) h) rfl)
theorem b_X7_wouldPaint_10 {C : aCall} {σ : aSt} {x1 x2 : Int32} (h : Sh σ) : b_R C kX7_wouldPaint [] (10, [some (.ref 100), some (.int x1), some (.int x2)], [], σ) = b_G C kX7_wouldPaint [] 16 19 [some (.ref 100), some (.int x1), some (.int x2)] [] (C 49 [.ref 101, .int x1, .int x2] σ) := by
  refine (e_aload_n (code := kX7_wouldPaint) (pc := 10) rfl rfl).trans ?_
  refine (e_getR (code := kX7_wouldPaint) (pc := 11) (c := 9) rfl (sk_100 (σ := σ) h) (sr_100_0 (σ := σ) h)).trans ?_
  refine (e_iload_n (code := kX7_wouldPaint) (pc := 14) rfl rfl).trans ?_
  refine (e_iload_n (code := kX7_wouldPaint) (pc := 15) rfl rfl).trans ?_
  exact (e_callV (σ := σ) (code := kX7_wouldPaint) (pc := 16) (len := 3) (k := 49) (n := 3) (c := 13) (as := [.ref 101, .int x1, .int x2]) (st0 := []) rfl rfl rfl rfl rfl (sk_101 (σ := σ) h) rfl)
theorem b_X7_wouldPaint_19 {C : aCall} {σ : aSt} {x1 x2 y0 : Int32} : b_R C kX7_wouldPaint [] (19, [some (.ref 100), some (.int x1), some (.int x2)], [.int y0], σ) = some (.inl (some (.int y0)), σ) := by
  exact e_ireturn rfl
theorem n_X7_brush {P : aCall} {d : Nat} {σ : aSt} {x1 x2 : Int32} (hd : 1 ≤ d) : a_call a_tab P d 110 [.ref 100, .int x1, .int x2] σ = b_R (a_call a_tab P (d - 1)) kX7_brush [] (0, [some (.ref 100), some (.int x1), some (.int x2)], [], σ) := e_call hd at_X7_brush rfl
theorem b_X7_brush_0 {C : aCall} {σ : aSt} {x1 x2 : Int32} (h : Sh σ) : b_R C kX7_brush [] (0, [some (.ref 100), some (.int x1), some (.int x2)], [], σ) = b_G C kX7_brush [] 2 5 [some (.ref 100), some (.int x1), some (.int x2)] [] (C 135 [.ref 100, .int x1] σ) := by
  refine (e_aload_n (code := kX7_brush) (pc := 0) rfl rfl).trans ?_
  refine (e_iload_n (code := kX7_brush) (pc := 1) rfl rfl).trans ?_
  exact (e_callV (σ := σ) (code := kX7_brush) (pc := 2) (len := 3) (k := 135) (n := 2) (c := 19) (as := [.ref 100, .int x1]) (st0 := []) rfl rfl rfl rfl rfl (sk_100 (σ := σ) h) rfl)
theorem b_X7_brush_5 {C : aCall} {σ : aSt} {x1 x2 : Int32} : b_R C kX7_brush [] (5, [some (.ref 100), some (.int x1), some (.int x2)], [], σ) = b_G C kX7_brush [] 7 10 [some (.ref 100), some (.int x1), some (.int x2)] [] (C 136 [.int x2, .int (nI 3)] σ) := by
  refine (e_iload_n (code := kX7_brush) (pc := 5) rfl rfl).trans ?_
  refine (e_iconst (code := kX7_brush) (pc := 6) rfl).trans ?_
  exact (e_callS (code := kX7_brush) (pc := 7) (len := 3) (k := 136) (n := 2) (as := [.int x2, .int (nI 3)]) (st0 := []) rfl rfl rfl rfl)
theorem b_X7_brush_10 {C : aCall} {σ : aSt} {x1 x2 : Int32} (h : Sh σ) : b_R C kX7_brush [] (10, [some (.ref 100), some (.int x1), some (.int x2)], [], σ) = b_G C kX7_brush [] 19 22 [some (.ref 100), some (.int x1), some (.int x2)] [] (C 1 [.ref 106, .int x1, .int x2] σ) := by
  refine (e_aload_n (code := kX7_brush) (pc := 10) rfl rfl).trans ?_
  refine (e_getR (code := kX7_brush) (pc := 11) (c := 9) rfl (sk_100 (σ := σ) h) (sr_100_0 (σ := σ) h)).trans ?_
  refine (e_getR (code := kX7_brush) (pc := 14) (c := 3) rfl (sk_101 (σ := σ) h) (sr_101_2 (σ := σ) h)).trans ?_
  refine (e_iload_n (code := kX7_brush) (pc := 17) rfl rfl).trans ?_
  refine (e_iload_n (code := kX7_brush) (pc := 18) rfl rfl).trans ?_
  exact (e_callV (σ := σ) (code := kX7_brush) (pc := 19) (len := 3) (k := 1) (n := 3) (c := 16) (as := [.ref 106, .int x1, .int x2]) (st0 := []) rfl rfl rfl rfl rfl (sk_106 (σ := σ) h) rfl)
theorem b_X7_brush_22 {C : aCall} {σ : aSt} {x1 x2 y0 : Int32} : b_R C kX7_brush [] (22, [some (.ref 100), some (.int x1), some (.int x2)], [.int y0], σ) = some (.inl (some (.int y0)), σ) := by
  exact e_ireturn rfl
theorem n_X7_bestBrush {P : aCall} {d : Nat} {σ : aSt} {x1 : Int32} (hd : 1 ≤ d) : a_call a_tab P d 111 [.ref 100, .int x1] σ = b_R (a_call a_tab P (d - 1)) kX7_bestBrush [] (0, [some (.ref 100), some (.int x1), none, none, none, none, none], [], σ) := e_call hd at_X7_bestBrush rfl
theorem b_X7_bestBrush_0 {C : aCall} {σ : aSt} {x1 : Int32} (h : Sh σ) : b_R C kX7_bestBrush [] (0, [some (.ref 100), some (.int x1), none, none, none, none, none], [], σ) = b_G C kX7_bestBrush [] 2 5 [some (.ref 100), some (.int x1), none, none, none, none, none] [] (C 134 [.ref 100, .int x1] σ) := by
  refine (e_aload_n (code := kX7_bestBrush) (pc := 0) rfl rfl).trans ?_
  refine (e_iload_n (code := kX7_bestBrush) (pc := 1) rfl rfl).trans ?_
  exact (e_callV (σ := σ) (code := kX7_bestBrush) (pc := 2) (len := 3) (k := 134) (n := 2) (c := 19) (as := [.ref 100, .int x1]) (st0 := []) rfl rfl rfl rfl rfl (sk_100 (σ := σ) h) rfl)
theorem b_X7_bestBrush_5 {C : aCall} {σ : aSt} {x1 : Int32} (h : Sh σ) : b_R C kX7_bestBrush [] (5, [some (.ref 100), some (.int x1), none, none, none, none, none], [], σ) = b_G C kX7_bestBrush [] 17 20 [some (.ref 100), some (.int x1), none, none, none, none, none] [] (C 45 [.ref 101, .ref 104, .int x1] σ) := by
  refine (e_aload_n (code := kX7_bestBrush) (pc := 5) rfl rfl).trans ?_
  refine (e_getR (code := kX7_bestBrush) (pc := 6) (c := 9) rfl (sk_100 (σ := σ) h) (sr_100_0 (σ := σ) h)).trans ?_
  refine (e_aload_n (code := kX7_bestBrush) (pc := 9) rfl rfl).trans ?_
  refine (e_getR (code := kX7_bestBrush) (pc := 10) (c := 9) rfl (sk_100 (σ := σ) h) (sr_100_0 (σ := σ) h)).trans ?_
  refine (e_getR (code := kX7_bestBrush) (pc := 13) (c := 3) rfl (sk_101 (σ := σ) h) (sr_101_1 (σ := σ) h)).trans ?_
  refine (e_iload_n (code := kX7_bestBrush) (pc := 16) rfl rfl).trans ?_
  exact (e_callV (σ := σ) (code := kX7_bestBrush) (pc := 17) (len := 3) (k := 45) (n := 3) (c := 13) (as := [.ref 101, .ref 104, .int x1]) (st0 := []) rfl rfl rfl rfl rfl (sk_101 (σ := σ) h) rfl)
theorem b_X7_bestBrush_20 {C : aCall} {σ : aSt} {x1 y0 : Int32} : b_R C kX7_bestBrush [] (20, [some (.ref 100), some (.int x1), none, none, none, none, none], [.int y0], σ) = b_R C kX7_bestBrush [] (30, [some (.ref 100), some (.int x1), some (.int y0), some (.int ((-1))), some (.int (nI 1000000)), some (.int (nI 0)), none], [], σ) := by
  refine (e_istore_n (code := kX7_bestBrush) (pc := 20) rfl rfl rfl).trans ?_
  refine (e_iconst (code := kX7_bestBrush) (pc := 21) rfl).trans ?_
  refine (e_istore_n (code := kX7_bestBrush) (pc := 22) rfl rfl rfl).trans ?_
  refine (e_ldcI (code := kX7_bestBrush) (pc := 23) rfl).trans ?_
  refine (e_istore (code := kX7_bestBrush) (pc := 25) rfl rfl rfl).trans ?_
  refine (e_iconst (code := kX7_bestBrush) (pc := 27) rfl).trans ?_
  refine (e_istore (code := kX7_bestBrush) (pc := 28) rfl rfl rfl).trans ?_
  rfl
theorem b_X7_bestBrush_30 {C : aCall} {σ : aSt} {x1 x2 x3 x4 x5 : Int32} {o6 : Option Value} (h : Sh σ) : b_R C kX7_bestBrush [] (30, [some (.ref 100), some (.int x1), some (.int x2), some (.int x3), some (.int x4), some (.int x5), o6], [], σ) = (if x5 < (a_I σ 106 2) then b_G C kX7_bestBrush [] 52 55 [some (.ref 100), some (.int x1), some (.int x2), some (.int x3), some (.int x4), some (.int x5), o6] [] (C 49 [.ref 101, .int x5, .int x1] σ) else some (.inl (some (.int x3)), σ)) := by
  refine (e_iload (code := kX7_bestBrush) (pc := 30) rfl rfl).trans ?_
  refine (e_aload_n (code := kX7_bestBrush) (pc := 32) rfl rfl).trans ?_
  refine (e_getR (code := kX7_bestBrush) (pc := 33) (c := 9) rfl (sk_100 (σ := σ) h) (sr_100_0 (σ := σ) h)).trans ?_
  refine (e_getR (code := kX7_bestBrush) (pc := 36) (c := 3) rfl (sk_101 (σ := σ) h) (sr_101_2 (σ := σ) h)).trans ?_
  refine (e_getI (code := kX7_bestBrush) (pc := 39) (c := 6) rfl (sk_106 (σ := σ) h) rfl).trans ?_
  refine (e_icge (code := kX7_bestBrush) (pc := 42) rfl).trans ?_
  refine b_ite ?_ ?_
  · refine (e_aload_n (code := kX7_bestBrush) (pc := 45) rfl rfl).trans ?_
    refine (e_getR (code := kX7_bestBrush) (pc := 46) (c := 9) rfl (sk_100 (σ := σ) h) (sr_100_0 (σ := σ) h)).trans ?_
    refine (e_iload (code := kX7_bestBrush) (pc := 49) rfl rfl).trans ?_
    refine (e_iload_n (code := kX7_bestBrush) (pc := 51) rfl rfl).trans ?_
    exact (e_callV (σ := σ) (code := kX7_bestBrush) (pc := 52) (len := 3) (k := 49) (n := 3) (c := 13) (as := [.ref 101, .int x5, .int x1]) (st0 := []) rfl rfl rfl rfl rfl (sk_101 (σ := σ) h) rfl)
  · refine (e_iload_n (code := kX7_bestBrush) (pc := 81) rfl rfl).trans ?_
    exact e_ireturn rfl
theorem b_X7_bestBrush_55 {C : aCall} {σ : aSt} {x1 x2 x3 x4 x5 y0 : Int32} {o6 : Option Value} : b_R C kX7_bestBrush [] (55, [some (.ref 100), some (.int x1), some (.int x2), some (.int x3), some (.int x4), some (.int x5), o6], [.int y0], σ) = b_G C kX7_bestBrush [] 56 59 [some (.ref 100), some (.int x1), some (.int x2), some (.int x3), some (.int x4), some (.int x5), o6] [] (C 141 [.int y0, .int x2] σ) := by
  refine (e_iload_n (code := kX7_bestBrush) (pc := 55) rfl rfl).trans ?_
  exact (e_callS (code := kX7_bestBrush) (pc := 56) (len := 3) (k := 141) (n := 2) (as := [.int y0, .int x2]) (st0 := []) rfl rfl rfl rfl)
theorem b_X7_bestBrush_59 {C : aCall} {σ : aSt} {x1 x2 x3 x4 x5 y0 : Int32} {o6 : Option Value} : b_R C kX7_bestBrush [] (59, [some (.ref 100), some (.int x1), some (.int x2), some (.int x3), some (.int x4), some (.int x5), o6], [.int y0], σ) = (if y0 < x4 then b_R C kX7_bestBrush [] (75, [some (.ref 100), some (.int x1), some (.int x2), some (.int x5), some (.int y0), some (.int x5), some (.int y0)], [], σ) else b_R C kX7_bestBrush [] (75, [some (.ref 100), some (.int x1), some (.int x2), some (.int x3), some (.int x4), some (.int x5), some (.int y0)], [], σ)) := by
  refine (e_istore (code := kX7_bestBrush) (pc := 59) rfl rfl rfl).trans ?_
  refine (e_iload (code := kX7_bestBrush) (pc := 61) rfl rfl).trans ?_
  refine (e_iload (code := kX7_bestBrush) (pc := 63) rfl rfl).trans ?_
  refine (e_icge (code := kX7_bestBrush) (pc := 65) rfl).trans ?_
  refine b_ite ?_ ?_
  · refine (e_iload (code := kX7_bestBrush) (pc := 68) rfl rfl).trans ?_
    refine (e_istore (code := kX7_bestBrush) (pc := 70) rfl rfl rfl).trans ?_
    refine (e_iload (code := kX7_bestBrush) (pc := 72) rfl rfl).trans ?_
    refine (e_istore_n (code := kX7_bestBrush) (pc := 74) rfl rfl rfl).trans ?_
    rfl
  · rfl
theorem b_X7_bestBrush_75 {C : aCall} {σ : aSt} {x1 x2 x3 x4 x5 x6 : Int32} : b_R C kX7_bestBrush [] (75, [some (.ref 100), some (.int x1), some (.int x2), some (.int x3), some (.int x4), some (.int x5), some (.int x6)], [], σ) = b_R C kX7_bestBrush [] (30, [some (.ref 100), some (.int x1), some (.int x2), some (.int x3), some (.int x4), some (.int (x5 + nI 1)), some (.int x6)], [], σ) := by
  refine (e_iinc (code := kX7_bestBrush) (pc := 75) rfl rfl rfl rfl).trans ?_
  refine (e_goto (code := kX7_bestBrush) (pc := 78) rfl).trans ?_
  rfl
theorem n_X7_painting {P : aCall} {d : Nat} {σ : aSt} {x1 x2 : Int32} (hd : 1 ≤ d) : a_call a_tab P d 112 [.ref 100, .int x1, .int x2] σ = b_R (a_call a_tab P (d - 1)) kX7_painting [] (0, [some (.ref 100), some (.int x1), some (.int x2)], [], σ) := e_call hd at_X7_painting rfl
theorem b_X7_painting_0 {C : aCall} {σ : aSt} {x1 x2 : Int32} (h : Sh σ) : b_R C kX7_painting [] (0, [some (.ref 100), some (.int x1), some (.int x2)], [], σ) = b_G C kX7_painting [] 13 16 [some (.ref 100), some (.int x1), some (.int x2)] [] (C 136 [.int x1, .int ((a_I σ 108 2) - (nI 1))] σ) := by
  refine (e_iload_n (code := kX7_painting) (pc := 0) rfl rfl).trans ?_
  refine (e_aload_n (code := kX7_painting) (pc := 1) rfl rfl).trans ?_
  refine (e_getR (code := kX7_painting) (pc := 2) (c := 9) rfl (sk_100 (σ := σ) h) (sr_100_0 (σ := σ) h)).trans ?_
  refine (e_getR (code := kX7_painting) (pc := 5) (c := 3) rfl (sk_101 (σ := σ) h) (sr_101_3 (σ := σ) h)).trans ?_
  refine (e_getI (code := kX7_painting) (pc := 8) (c := 6) rfl (sk_108 (σ := σ) h) rfl).trans ?_
  refine (e_iconst (code := kX7_painting) (pc := 11) rfl).trans ?_
  refine (e_isub (code := kX7_painting) (pc := 12) rfl).trans ?_
  exact (e_callS (code := kX7_painting) (pc := 13) (len := 3) (k := 136) (n := 2) (as := [.int x1, .int ((a_I σ 108 2) - (nI 1))]) (st0 := []) rfl rfl rfl rfl)
theorem b_X7_painting_16 {C : aCall} {σ : aSt} {x1 x2 : Int32} : b_R C kX7_painting [] (16, [some (.ref 100), some (.int x1), some (.int x2)], [], σ) = b_G C kX7_painting [] 18 21 [some (.ref 100), some (.int x1), some (.int x2)] [] (C 136 [.int x2, .int (nI 3)] σ) := by
  refine (e_iload_n (code := kX7_painting) (pc := 16) rfl rfl).trans ?_
  refine (e_iconst (code := kX7_painting) (pc := 17) rfl).trans ?_
  exact (e_callS (code := kX7_painting) (pc := 18) (len := 3) (k := 136) (n := 2) (as := [.int x2, .int (nI 3)]) (st0 := []) rfl rfl rfl rfl)
theorem b_X7_painting_21 {C : aCall} {σ : aSt} {x1 x2 : Int32} (h : Sh σ) : b_R C kX7_painting [] (21, [some (.ref 100), some (.int x1), some (.int x2)], [], σ) = b_G C kX7_painting [] 30 33 [some (.ref 100), some (.int x1), some (.int x2)] [] (C 1 [.ref 108, .int x1, .int x2] σ) := by
  refine (e_aload_n (code := kX7_painting) (pc := 21) rfl rfl).trans ?_
  refine (e_getR (code := kX7_painting) (pc := 22) (c := 9) rfl (sk_100 (σ := σ) h) (sr_100_0 (σ := σ) h)).trans ?_
  refine (e_getR (code := kX7_painting) (pc := 25) (c := 3) rfl (sk_101 (σ := σ) h) (sr_101_3 (σ := σ) h)).trans ?_
  refine (e_iload_n (code := kX7_painting) (pc := 28) rfl rfl).trans ?_
  refine (e_iload_n (code := kX7_painting) (pc := 29) rfl rfl).trans ?_
  exact (e_callV (σ := σ) (code := kX7_painting) (pc := 30) (len := 3) (k := 1) (n := 3) (c := 16) (as := [.ref 108, .int x1, .int x2]) (st0 := []) rfl rfl rfl rfl rfl (sk_108 (σ := σ) h) rfl)
theorem b_X7_painting_33 {C : aCall} {σ : aSt} {x1 x2 y0 : Int32} : b_R C kX7_painting [] (33, [some (.ref 100), some (.int x1), some (.int x2)], [.int y0], σ) = some (.inl (some (.int y0)), σ) := by
  exact e_ireturn rfl
theorem n_X7_spare {P : aCall} {d : Nat} {σ : aSt} (hd : 1 ≤ d) : a_call a_tab P d 113 [.ref 100] σ = b_R (a_call a_tab P (d - 1)) kX7_spare [] (0, [some (.ref 100), none, none, none, none], [], σ) := e_call hd at_X7_spare rfl
theorem b_X7_spare_0 {C : aCall} {σ : aSt} : b_R C kX7_spare [] (0, [some (.ref 100), none, none, none, none], [], σ) = b_R C kX7_spare [] (7, [some (.ref 100), some (.int ((-1))), some (.int (nI 21)), some (.int (nI 0)), none], [], σ) := by
  refine (e_iconst (code := kX7_spare) (pc := 0) rfl).trans ?_
  refine (e_istore_n (code := kX7_spare) (pc := 1) rfl rfl rfl).trans ?_
  refine (e_bipush (code := kX7_spare) (pc := 2) rfl).trans ?_
  refine (e_istore_n (code := kX7_spare) (pc := 4) rfl rfl rfl).trans ?_
  refine (e_iconst (code := kX7_spare) (pc := 5) rfl).trans ?_
  refine (e_istore_n (code := kX7_spare) (pc := 6) rfl rfl rfl).trans ?_
  rfl
theorem b_X7_spare_7 {C : aCall} {σ : aSt} {x1 x2 x3 : Int32} {o4 : Option Value} (h : Sh σ) : b_R C kX7_spare [] (7, [some (.ref 100), some (.int x1), some (.int x2), some (.int x3), o4], [], σ) = (if x3 < (a_I σ 102 2) then b_G C kX7_spare [] 26 29 [some (.ref 100), some (.int x1), some (.int x2), some (.int x3), o4] [] (C 40 [.ref 101, .int x3] σ) else some (.inl (some (.int x1)), σ)) := by
  refine (e_iload_n (code := kX7_spare) (pc := 7) rfl rfl).trans ?_
  refine (e_aload_n (code := kX7_spare) (pc := 8) rfl rfl).trans ?_
  refine (e_getR (code := kX7_spare) (pc := 9) (c := 9) rfl (sk_100 (σ := σ) h) (sr_100_0 (σ := σ) h)).trans ?_
  refine (e_getR (code := kX7_spare) (pc := 12) (c := 3) rfl (sk_101 (σ := σ) h) (sr_101_0 (σ := σ) h)).trans ?_
  refine (e_getI (code := kX7_spare) (pc := 15) (c := 6) rfl (sk_102 (σ := σ) h) rfl).trans ?_
  refine (e_icge (code := kX7_spare) (pc := 18) rfl).trans ?_
  refine b_ite ?_ ?_
  · refine (e_aload_n (code := kX7_spare) (pc := 21) rfl rfl).trans ?_
    refine (e_getR (code := kX7_spare) (pc := 22) (c := 9) rfl (sk_100 (σ := σ) h) (sr_100_0 (σ := σ) h)).trans ?_
    refine (e_iload_n (code := kX7_spare) (pc := 25) rfl rfl).trans ?_
    exact (e_callV (σ := σ) (code := kX7_spare) (pc := 26) (len := 3) (k := 40) (n := 2) (c := 13) (as := [.ref 101, .int x3]) (st0 := []) rfl rfl rfl rfl rfl (sk_101 (σ := σ) h) rfl)
  · refine (e_iload_n (code := kX7_spare) (pc := 59) rfl rfl).trans ?_
    exact e_ireturn rfl
theorem b_X7_spare_29 {C : aCall} {σ : aSt} {x1 x2 x3 y0 : Int32} {o4 : Option Value} (h : Sh σ) : b_R C kX7_spare [] (29, [some (.ref 100), some (.int x1), some (.int x2), some (.int x3), o4], [.int y0], σ) = b_G C kX7_spare [] 36 39 [some (.ref 100), some (.int x1), some (.int x2), some (.int x3), some (.int y0)] [] (C 36 [.ref 101, .int x3] σ) := by
  refine (e_istore (code := kX7_spare) (pc := 29) rfl rfl rfl).trans ?_
  refine (e_aload_n (code := kX7_spare) (pc := 31) rfl rfl).trans ?_
  refine (e_getR (code := kX7_spare) (pc := 32) (c := 9) rfl (sk_100 (σ := σ) h) (sr_100_0 (σ := σ) h)).trans ?_
  refine (e_iload_n (code := kX7_spare) (pc := 35) rfl rfl).trans ?_
  exact (e_callV (σ := σ) (code := kX7_spare) (pc := 36) (len := 3) (k := 36) (n := 2) (c := 13) (as := [.ref 101, .int x3]) (st0 := []) rfl rfl rfl rfl rfl (sk_101 (σ := σ) h) rfl)
theorem b_X7_spare_39 {C : aCall} {σ : aSt} {x1 x2 x3 x4 y0 : Int32} : b_R C kX7_spare [] (39, [some (.ref 100), some (.int x1), some (.int x2), some (.int x3), some (.int x4)], [.int y0], σ) = (if y0 = 0 then b_R C kX7_spare [] (53, [some (.ref 100), some (.int x1), some (.int x2), some (.int x3), some (.int x4)], [], σ) else (if x4 < x2 then b_R C kX7_spare [] (53, [some (.ref 100), some (.int x3), some (.int x4), some (.int x3), some (.int x4)], [], σ) else b_R C kX7_spare [] (53, [some (.ref 100), some (.int x1), some (.int x2), some (.int x3), some (.int x4)], [], σ))) := by
  refine (e_ifeq (code := kX7_spare) (pc := 39) rfl).trans ?_
  refine b_ite ?_ ?_
  · rfl
  · refine (e_iload (code := kX7_spare) (pc := 42) rfl rfl).trans ?_
    refine (e_iload_n (code := kX7_spare) (pc := 44) rfl rfl).trans ?_
    refine (e_icge (code := kX7_spare) (pc := 45) rfl).trans ?_
    refine b_ite ?_ ?_
    · refine (e_iload (code := kX7_spare) (pc := 48) rfl rfl).trans ?_
      refine (e_istore_n (code := kX7_spare) (pc := 50) rfl rfl rfl).trans ?_
      refine (e_iload_n (code := kX7_spare) (pc := 51) rfl rfl).trans ?_
      refine (e_istore_n (code := kX7_spare) (pc := 52) rfl rfl rfl).trans ?_
      rfl
    · rfl
theorem b_X7_spare_53 {C : aCall} {σ : aSt} {x1 x2 x3 x4 : Int32} : b_R C kX7_spare [] (53, [some (.ref 100), some (.int x1), some (.int x2), some (.int x3), some (.int x4)], [], σ) = b_R C kX7_spare [] (7, [some (.ref 100), some (.int x1), some (.int x2), some (.int (x3 + nI 1)), some (.int x4)], [], σ) := by
  refine (e_iinc (code := kX7_spare) (pc := 53) rfl rfl rfl rfl).trans ?_
  refine (e_goto (code := kX7_spare) (pc := 56) rfl).trans ?_
  rfl
theorem n_X7_closest {P : aCall} {d : Nat} {σ : aSt} (hd : 1 ≤ d) : a_call a_tab P d 114 [.ref 100] σ = b_R (a_call a_tab P (d - 1)) kX7_closest [] (0, [some (.ref 100), none, none, none, none, none, none], [], σ) := e_call hd at_X7_closest rfl
theorem b_X7_closest_0 {C : aCall} {σ : aSt} : b_R C kX7_closest [] (0, [some (.ref 100), none, none, none, none, none, none], [], σ) = b_R C kX7_closest [] (7, [some (.ref 100), some (.int ((-1))), some (.int (nI 1000000)), some (.int (nI 0)), none, none, none], [], σ) := by
  refine (e_iconst (code := kX7_closest) (pc := 0) rfl).trans ?_
  refine (e_istore_n (code := kX7_closest) (pc := 1) rfl rfl rfl).trans ?_
  refine (e_ldcI (code := kX7_closest) (pc := 2) rfl).trans ?_
  refine (e_istore_n (code := kX7_closest) (pc := 4) rfl rfl rfl).trans ?_
  refine (e_iconst (code := kX7_closest) (pc := 5) rfl).trans ?_
  refine (e_istore_n (code := kX7_closest) (pc := 6) rfl rfl rfl).trans ?_
  rfl
theorem b_X7_closest_7 {C : aCall} {σ : aSt} {x1 x2 x3 : Int32} {o4 o5 o6 : Option Value} (h : Sh σ) : b_R C kX7_closest [] (7, [some (.ref 100), some (.int x1), some (.int x2), some (.int x3), o4, o5, o6], [], σ) = (if x3 < (a_I σ 104 2) then b_G C kX7_closest [] 33 36 [some (.ref 100), some (.int x1), some (.int x2), some (.int x3), o4, o5, o6] [] (C 45 [.ref 101, .ref 104, .int x3] σ) else some (.inl (some (.int x1)), σ)) := by
  refine (e_iload_n (code := kX7_closest) (pc := 7) rfl rfl).trans ?_
  refine (e_aload_n (code := kX7_closest) (pc := 8) rfl rfl).trans ?_
  refine (e_getR (code := kX7_closest) (pc := 9) (c := 9) rfl (sk_100 (σ := σ) h) (sr_100_0 (σ := σ) h)).trans ?_
  refine (e_getR (code := kX7_closest) (pc := 12) (c := 3) rfl (sk_101 (σ := σ) h) (sr_101_1 (σ := σ) h)).trans ?_
  refine (e_getI (code := kX7_closest) (pc := 15) (c := 6) rfl (sk_104 (σ := σ) h) rfl).trans ?_
  refine (e_icge (code := kX7_closest) (pc := 18) rfl).trans ?_
  refine b_ite ?_ ?_
  · refine (e_aload_n (code := kX7_closest) (pc := 21) rfl rfl).trans ?_
    refine (e_getR (code := kX7_closest) (pc := 22) (c := 9) rfl (sk_100 (σ := σ) h) (sr_100_0 (σ := σ) h)).trans ?_
    refine (e_aload_n (code := kX7_closest) (pc := 25) rfl rfl).trans ?_
    refine (e_getR (code := kX7_closest) (pc := 26) (c := 9) rfl (sk_100 (σ := σ) h) (sr_100_0 (σ := σ) h)).trans ?_
    refine (e_getR (code := kX7_closest) (pc := 29) (c := 3) rfl (sk_101 (σ := σ) h) (sr_101_1 (σ := σ) h)).trans ?_
    refine (e_iload_n (code := kX7_closest) (pc := 32) rfl rfl).trans ?_
    exact (e_callV (σ := σ) (code := kX7_closest) (pc := 33) (len := 3) (k := 45) (n := 3) (c := 13) (as := [.ref 101, .ref 104, .int x3]) (st0 := []) rfl rfl rfl rfl rfl (sk_101 (σ := σ) h) rfl)
  · refine (e_iload_n (code := kX7_closest) (pc := 110) rfl rfl).trans ?_
    exact e_ireturn rfl
theorem b_X7_closest_36 {C : aCall} {σ : aSt} {x1 x2 x3 y0 : Int32} {o4 o5 o6 : Option Value} : b_R C kX7_closest [] (36, [some (.ref 100), some (.int x1), some (.int x2), some (.int x3), o4, o5, o6], [.int y0], σ) = b_R C kX7_closest [] (43, [some (.ref 100), some (.int x1), some (.int x2), some (.int x3), some (.int y0), some (.int (x3 + (nI 1))), o6], [], σ) := by
  refine (e_istore (code := kX7_closest) (pc := 36) rfl rfl rfl).trans ?_
  refine (e_iload_n (code := kX7_closest) (pc := 38) rfl rfl).trans ?_
  refine (e_iconst (code := kX7_closest) (pc := 39) rfl).trans ?_
  refine (e_iadd (code := kX7_closest) (pc := 40) rfl).trans ?_
  refine (e_istore (code := kX7_closest) (pc := 41) rfl rfl rfl).trans ?_
  rfl
theorem b_X7_closest_43 {C : aCall} {σ : aSt} {x1 x2 x3 x4 x5 : Int32} {o6 : Option Value} (h : Sh σ) : b_R C kX7_closest [] (43, [some (.ref 100), some (.int x1), some (.int x2), some (.int x3), some (.int x4), some (.int x5), o6], [], σ) = (if x5 < (a_I σ 104 2) then b_G C kX7_closest [] 73 76 [some (.ref 100), some (.int x1), some (.int x2), some (.int x3), some (.int x4), some (.int x5), o6] [.int x4] (C 45 [.ref 101, .ref 104, .int x5] σ) else b_R C kX7_closest [] (7, [some (.ref 100), some (.int x1), some (.int x2), some (.int (x3 + nI 1)), some (.int x4), some (.int x5), o6], [], σ)) := by
  refine (e_iload (code := kX7_closest) (pc := 43) rfl rfl).trans ?_
  refine (e_aload_n (code := kX7_closest) (pc := 45) rfl rfl).trans ?_
  refine (e_getR (code := kX7_closest) (pc := 46) (c := 9) rfl (sk_100 (σ := σ) h) (sr_100_0 (σ := σ) h)).trans ?_
  refine (e_getR (code := kX7_closest) (pc := 49) (c := 3) rfl (sk_101 (σ := σ) h) (sr_101_1 (σ := σ) h)).trans ?_
  refine (e_getI (code := kX7_closest) (pc := 52) (c := 6) rfl (sk_104 (σ := σ) h) rfl).trans ?_
  refine (e_icge (code := kX7_closest) (pc := 55) rfl).trans ?_
  refine b_ite ?_ ?_
  · refine (e_iload (code := kX7_closest) (pc := 58) rfl rfl).trans ?_
    refine (e_aload_n (code := kX7_closest) (pc := 60) rfl rfl).trans ?_
    refine (e_getR (code := kX7_closest) (pc := 61) (c := 9) rfl (sk_100 (σ := σ) h) (sr_100_0 (σ := σ) h)).trans ?_
    refine (e_aload_n (code := kX7_closest) (pc := 64) rfl rfl).trans ?_
    refine (e_getR (code := kX7_closest) (pc := 65) (c := 9) rfl (sk_100 (σ := σ) h) (sr_100_0 (σ := σ) h)).trans ?_
    refine (e_getR (code := kX7_closest) (pc := 68) (c := 3) rfl (sk_101 (σ := σ) h) (sr_101_1 (σ := σ) h)).trans ?_
    refine (e_iload (code := kX7_closest) (pc := 71) rfl rfl).trans ?_
    exact (e_callV (σ := σ) (code := kX7_closest) (pc := 73) (len := 3) (k := 45) (n := 3) (c := 13) (as := [.ref 101, .ref 104, .int x5]) (st0 := [.int x4]) rfl rfl rfl rfl rfl (sk_101 (σ := σ) h) rfl)
  · refine (e_iinc (code := kX7_closest) (pc := 104) rfl rfl rfl rfl).trans ?_
    refine (e_goto (code := kX7_closest) (pc := 107) rfl).trans ?_
    rfl
theorem b_X7_closest_76 {C : aCall} {σ : aSt} {x1 x2 x3 x4 x5 y0 y1 : Int32} {o6 : Option Value} : b_R C kX7_closest [] (76, [some (.ref 100), some (.int x1), some (.int x2), some (.int x3), some (.int x4), some (.int x5), o6], [.int y0, .int y1], σ) = b_G C kX7_closest [] 76 79 [some (.ref 100), some (.int x1), some (.int x2), some (.int x3), some (.int x4), some (.int x5), o6] [] (C 141 [.int y1, .int y0] σ) := by
  exact (e_callS (code := kX7_closest) (pc := 76) (len := 3) (k := 141) (n := 2) (as := [.int y1, .int y0]) (st0 := []) rfl rfl rfl rfl)
theorem b_X7_closest_79 {C : aCall} {σ : aSt} {x1 x2 x3 x4 x5 y0 : Int32} {o6 : Option Value} : b_R C kX7_closest [] (79, [some (.ref 100), some (.int x1), some (.int x2), some (.int x3), some (.int x4), some (.int x5), o6], [.int y0], σ) = (if y0 < x2 then b_R C kX7_closest [] (98, [some (.ref 100), some (.int (((nI 100) * x3) + x5)), some (.int y0), some (.int x3), some (.int x4), some (.int x5), some (.int y0)], [], σ) else b_R C kX7_closest [] (98, [some (.ref 100), some (.int x1), some (.int x2), some (.int x3), some (.int x4), some (.int x5), some (.int y0)], [], σ)) := by
  refine (e_istore (code := kX7_closest) (pc := 79) rfl rfl rfl).trans ?_
  refine (e_iload (code := kX7_closest) (pc := 81) rfl rfl).trans ?_
  refine (e_iload_n (code := kX7_closest) (pc := 83) rfl rfl).trans ?_
  refine (e_icge (code := kX7_closest) (pc := 84) rfl).trans ?_
  refine b_ite ?_ ?_
  · refine (e_iload (code := kX7_closest) (pc := 87) rfl rfl).trans ?_
    refine (e_istore_n (code := kX7_closest) (pc := 89) rfl rfl rfl).trans ?_
    refine (e_bipush (code := kX7_closest) (pc := 90) rfl).trans ?_
    refine (e_iload_n (code := kX7_closest) (pc := 92) rfl rfl).trans ?_
    refine (e_imul (code := kX7_closest) (pc := 93) rfl).trans ?_
    refine (e_iload (code := kX7_closest) (pc := 94) rfl rfl).trans ?_
    refine (e_iadd (code := kX7_closest) (pc := 96) rfl).trans ?_
    refine (e_istore_n (code := kX7_closest) (pc := 97) rfl rfl rfl).trans ?_
    rfl
  · rfl
theorem b_X7_closest_98 {C : aCall} {σ : aSt} {x1 x2 x3 x4 x5 x6 : Int32} : b_R C kX7_closest [] (98, [some (.ref 100), some (.int x1), some (.int x2), some (.int x3), some (.int x4), some (.int x5), some (.int x6)], [], σ) = b_R C kX7_closest [] (43, [some (.ref 100), some (.int x1), some (.int x2), some (.int x3), some (.int x4), some (.int (x5 + nI 1)), some (.int x6)], [], σ) := by
  refine (e_iinc (code := kX7_closest) (pc := 98) rfl rfl rfl rfl).trans ?_
  refine (e_goto (code := kX7_closest) (pc := 101) rfl).trans ?_
  rfl
theorem n_X7_twins {P : aCall} {d : Nat} {σ : aSt} (hd : 1 ≤ d) : a_call a_tab P d 115 [.ref 100] σ = b_R (a_call a_tab P (d - 1)) kX7_twins [] (0, [some (.ref 100), none, none, none, none], [], σ) := e_call hd at_X7_twins rfl
theorem b_X7_twins_0 {C : aCall} {σ : aSt} : b_R C kX7_twins [] (0, [some (.ref 100), none, none, none, none], [], σ) = b_R C kX7_twins [] (4, [some (.ref 100), some (.int (nI 0)), some (.int (nI 0)), none, none], [], σ) := by
  refine (e_iconst (code := kX7_twins) (pc := 0) rfl).trans ?_
  refine (e_istore_n (code := kX7_twins) (pc := 1) rfl rfl rfl).trans ?_
  refine (e_iconst (code := kX7_twins) (pc := 2) rfl).trans ?_
  refine (e_istore_n (code := kX7_twins) (pc := 3) rfl rfl rfl).trans ?_
  rfl
theorem b_X7_twins_4 {C : aCall} {σ : aSt} {x1 x2 : Int32} {o3 o4 : Option Value} (h : Sh σ) : b_R C kX7_twins [] (4, [some (.ref 100), some (.int x1), some (.int x2), o3, o4], [], σ) = (if x2 < (a_I σ 104 2) then b_G C kX7_twins [] 30 33 [some (.ref 100), some (.int x1), some (.int x2), o3, o4] [] (C 45 [.ref 101, .ref 104, .int x2] σ) else some (.inl (some (.int x1)), σ)) := by
  refine (e_iload_n (code := kX7_twins) (pc := 4) rfl rfl).trans ?_
  refine (e_aload_n (code := kX7_twins) (pc := 5) rfl rfl).trans ?_
  refine (e_getR (code := kX7_twins) (pc := 6) (c := 9) rfl (sk_100 (σ := σ) h) (sr_100_0 (σ := σ) h)).trans ?_
  refine (e_getR (code := kX7_twins) (pc := 9) (c := 3) rfl (sk_101 (σ := σ) h) (sr_101_1 (σ := σ) h)).trans ?_
  refine (e_getI (code := kX7_twins) (pc := 12) (c := 6) rfl (sk_104 (σ := σ) h) rfl).trans ?_
  refine (e_icge (code := kX7_twins) (pc := 15) rfl).trans ?_
  refine b_ite ?_ ?_
  · refine (e_aload_n (code := kX7_twins) (pc := 18) rfl rfl).trans ?_
    refine (e_getR (code := kX7_twins) (pc := 19) (c := 9) rfl (sk_100 (σ := σ) h) (sr_100_0 (σ := σ) h)).trans ?_
    refine (e_aload_n (code := kX7_twins) (pc := 22) rfl rfl).trans ?_
    refine (e_getR (code := kX7_twins) (pc := 23) (c := 9) rfl (sk_100 (σ := σ) h) (sr_100_0 (σ := σ) h)).trans ?_
    refine (e_getR (code := kX7_twins) (pc := 26) (c := 3) rfl (sk_101 (σ := σ) h) (sr_101_1 (σ := σ) h)).trans ?_
    refine (e_iload_n (code := kX7_twins) (pc := 29) rfl rfl).trans ?_
    exact (e_callV (σ := σ) (code := kX7_twins) (pc := 30) (len := 3) (k := 45) (n := 3) (c := 13) (as := [.ref 101, .ref 104, .int x2]) (st0 := []) rfl rfl rfl rfl rfl (sk_101 (σ := σ) h) rfl)
  · refine (e_iload_n (code := kX7_twins) (pc := 89) rfl rfl).trans ?_
    exact e_ireturn rfl
theorem b_X7_twins_33 {C : aCall} {σ : aSt} {x1 x2 y0 : Int32} {o3 o4 : Option Value} : b_R C kX7_twins [] (33, [some (.ref 100), some (.int x1), some (.int x2), o3, o4], [.int y0], σ) = b_R C kX7_twins [] (39, [some (.ref 100), some (.int x1), some (.int x2), some (.int y0), some (.int (x2 + (nI 1)))], [], σ) := by
  refine (e_istore_n (code := kX7_twins) (pc := 33) rfl rfl rfl).trans ?_
  refine (e_iload_n (code := kX7_twins) (pc := 34) rfl rfl).trans ?_
  refine (e_iconst (code := kX7_twins) (pc := 35) rfl).trans ?_
  refine (e_iadd (code := kX7_twins) (pc := 36) rfl).trans ?_
  refine (e_istore (code := kX7_twins) (pc := 37) rfl rfl rfl).trans ?_
  rfl
theorem b_X7_twins_39 {C : aCall} {σ : aSt} {x1 x2 x3 x4 : Int32} (h : Sh σ) : b_R C kX7_twins [] (39, [some (.ref 100), some (.int x1), some (.int x2), some (.int x3), some (.int x4)], [], σ) = (if x4 < (a_I σ 104 2) then b_G C kX7_twins [] 68 71 [some (.ref 100), some (.int x1), some (.int x2), some (.int x3), some (.int x4)] [.int x3] (C 45 [.ref 101, .ref 104, .int x4] σ) else b_R C kX7_twins [] (4, [some (.ref 100), some (.int x1), some (.int (x2 + nI 1)), some (.int x3), some (.int x4)], [], σ)) := by
  refine (e_iload (code := kX7_twins) (pc := 39) rfl rfl).trans ?_
  refine (e_aload_n (code := kX7_twins) (pc := 41) rfl rfl).trans ?_
  refine (e_getR (code := kX7_twins) (pc := 42) (c := 9) rfl (sk_100 (σ := σ) h) (sr_100_0 (σ := σ) h)).trans ?_
  refine (e_getR (code := kX7_twins) (pc := 45) (c := 3) rfl (sk_101 (σ := σ) h) (sr_101_1 (σ := σ) h)).trans ?_
  refine (e_getI (code := kX7_twins) (pc := 48) (c := 6) rfl (sk_104 (σ := σ) h) rfl).trans ?_
  refine (e_icge (code := kX7_twins) (pc := 51) rfl).trans ?_
  refine b_ite ?_ ?_
  · refine (e_iload_n (code := kX7_twins) (pc := 54) rfl rfl).trans ?_
    refine (e_aload_n (code := kX7_twins) (pc := 55) rfl rfl).trans ?_
    refine (e_getR (code := kX7_twins) (pc := 56) (c := 9) rfl (sk_100 (σ := σ) h) (sr_100_0 (σ := σ) h)).trans ?_
    refine (e_aload_n (code := kX7_twins) (pc := 59) rfl rfl).trans ?_
    refine (e_getR (code := kX7_twins) (pc := 60) (c := 9) rfl (sk_100 (σ := σ) h) (sr_100_0 (σ := σ) h)).trans ?_
    refine (e_getR (code := kX7_twins) (pc := 63) (c := 3) rfl (sk_101 (σ := σ) h) (sr_101_1 (σ := σ) h)).trans ?_
    refine (e_iload (code := kX7_twins) (pc := 66) rfl rfl).trans ?_
    exact (e_callV (σ := σ) (code := kX7_twins) (pc := 68) (len := 3) (k := 45) (n := 3) (c := 13) (as := [.ref 101, .ref 104, .int x4]) (st0 := [.int x3]) rfl rfl rfl rfl rfl (sk_101 (σ := σ) h) rfl)
  · refine (e_iinc (code := kX7_twins) (pc := 83) rfl rfl rfl rfl).trans ?_
    refine (e_goto (code := kX7_twins) (pc := 86) rfl).trans ?_
    rfl
theorem b_X7_twins_71 {C : aCall} {σ : aSt} {x1 x2 x3 x4 y0 y1 : Int32} : b_R C kX7_twins [] (71, [some (.ref 100), some (.int x1), some (.int x2), some (.int x3), some (.int x4)], [.int y0, .int y1], σ) = (if y1 = y0 then b_R C kX7_twins [] (77, [some (.ref 100), some (.int (x1 + nI 1)), some (.int x2), some (.int x3), some (.int x4)], [], σ) else b_R C kX7_twins [] (77, [some (.ref 100), some (.int x1), some (.int x2), some (.int x3), some (.int x4)], [], σ)) := by
  refine (e_icne (code := kX7_twins) (pc := 71) rfl).trans ?_
  refine b_ite ?_ ?_
  · refine (e_iinc (code := kX7_twins) (pc := 74) rfl rfl rfl rfl).trans ?_
    rfl
  · rfl
theorem b_X7_twins_77 {C : aCall} {σ : aSt} {x1 x2 x3 x4 : Int32} : b_R C kX7_twins [] (77, [some (.ref 100), some (.int x1), some (.int x2), some (.int x3), some (.int x4)], [], σ) = b_R C kX7_twins [] (39, [some (.ref 100), some (.int x1), some (.int x2), some (.int x3), some (.int (x4 + nI 1))], [], σ) := by
  refine (e_iinc (code := kX7_twins) (pc := 77) rfl rfl rfl rfl).trans ?_
  refine (e_goto (code := kX7_twins) (pc := 80) rfl).trans ?_
  rfl
theorem n_X7_loss {P : aCall} {d : Nat} {σ : aSt} {x1 : Int32} (hd : 1 ≤ d) : a_call a_tab P d 116 [.ref 100, .int x1] σ = b_R (a_call a_tab P (d - 1)) kX7_loss [] (0, [some (.ref 100), some (.int x1)], [], σ) := e_call hd at_X7_loss rfl
theorem b_X7_loss_0 {C : aCall} {σ : aSt} {x1 : Int32} (h : Sh σ) : b_R C kX7_loss [] (0, [some (.ref 100), some (.int x1)], [], σ) = b_G C kX7_loss [] 2 5 [some (.ref 100), some (.int x1)] [] (C 134 [.ref 100, .int x1] σ) := by
  refine (e_aload_n (code := kX7_loss) (pc := 0) rfl rfl).trans ?_
  refine (e_iload_n (code := kX7_loss) (pc := 1) rfl rfl).trans ?_
  exact (e_callV (σ := σ) (code := kX7_loss) (pc := 2) (len := 3) (k := 134) (n := 2) (c := 19) (as := [.ref 100, .int x1]) (st0 := []) rfl rfl rfl rfl rfl (sk_100 (σ := σ) h) rfl)
theorem b_X7_loss_5 {C : aCall} {σ : aSt} {x1 : Int32} (h : Sh σ) : b_R C kX7_loss [] (5, [some (.ref 100), some (.int x1)], [], σ) = b_G C kX7_loss [] 25 28 [some (.ref 100), some (.int x1)] [.ref 101, .ref 229] (C 45 [.ref 101, .ref 104, .int x1] σ) := by
  refine (e_aload_n (code := kX7_loss) (pc := 5) rfl rfl).trans ?_
  refine (e_getR (code := kX7_loss) (pc := 6) (c := 9) rfl (sk_100 (σ := σ) h) (sr_100_8 (σ := σ) h)).trans ?_
  refine (e_aload_n (code := kX7_loss) (pc := 9) rfl rfl).trans ?_
  refine (e_getR (code := kX7_loss) (pc := 10) (c := 9) rfl (sk_100 (σ := σ) h) (sr_100_0 (σ := σ) h)).trans ?_
  refine (e_aload_n (code := kX7_loss) (pc := 13) rfl rfl).trans ?_
  refine (e_getR (code := kX7_loss) (pc := 14) (c := 9) rfl (sk_100 (σ := σ) h) (sr_100_0 (σ := σ) h)).trans ?_
  refine (e_aload_n (code := kX7_loss) (pc := 17) rfl rfl).trans ?_
  refine (e_getR (code := kX7_loss) (pc := 18) (c := 9) rfl (sk_100 (σ := σ) h) (sr_100_0 (σ := σ) h)).trans ?_
  refine (e_getR (code := kX7_loss) (pc := 21) (c := 3) rfl (sk_101 (σ := σ) h) (sr_101_1 (σ := σ) h)).trans ?_
  refine (e_iload_n (code := kX7_loss) (pc := 24) rfl rfl).trans ?_
  exact (e_callV (σ := σ) (code := kX7_loss) (pc := 25) (len := 3) (k := 45) (n := 3) (c := 13) (as := [.ref 101, .ref 104, .int x1]) (st0 := [.ref 101, .ref 229]) rfl rfl rfl rfl rfl (sk_101 (σ := σ) h) rfl)
theorem b_X7_loss_28 {C : aCall} {σ : aSt} {x1 y0 : Int32} (h : Sh σ) : b_R C kX7_loss [] (28, [some (.ref 100), some (.int x1)], [.int y0, .ref 101, .ref 229], σ) = b_G C kX7_loss [] 29 32 [some (.ref 100), some (.int x1)] [] (C 58 [.ref 229, .ref 101, .int y0, .int (nI 3)] σ) := by
  refine (e_iconst (code := kX7_loss) (pc := 28) rfl).trans ?_
  exact (e_callV (σ := σ) (code := kX7_loss) (pc := 29) (len := 3) (k := 58) (n := 4) (c := 15) (as := [.ref 229, .ref 101, .int y0, .int (nI 3)]) (st0 := []) rfl rfl rfl rfl rfl (sk_229 (σ := σ) h) rfl)
theorem b_X7_loss_32 {C : aCall} {σ : aSt} {x1 : Int32} (h : Sh σ) : b_R C kX7_loss [] (32, [some (.ref 100), some (.int x1)], [], σ) = b_G C kX7_loss [] 37 40 [some (.ref 100), some (.int x1)] [] (C 65 [.ref 229, .int (nI 3)] σ) := by
  refine (e_aload_n (code := kX7_loss) (pc := 32) rfl rfl).trans ?_
  refine (e_getR (code := kX7_loss) (pc := 33) (c := 9) rfl (sk_100 (σ := σ) h) (sr_100_8 (σ := σ) h)).trans ?_
  refine (e_iconst (code := kX7_loss) (pc := 36) rfl).trans ?_
  exact (e_callV (σ := σ) (code := kX7_loss) (pc := 37) (len := 3) (k := 65) (n := 2) (c := 15) (as := [.ref 229, .int (nI 3)]) (st0 := []) rfl rfl rfl rfl rfl (sk_229 (σ := σ) h) rfl)
theorem b_X7_loss_40 {C : aCall} {σ : aSt} {x1 y0 : Int32} : b_R C kX7_loss [] (40, [some (.ref 100), some (.int x1)], [.int y0], σ) = some (.inl (some (.int y0)), σ) := by
  exact e_ireturn rfl
theorem n_X7_meanDrops {P : aCall} {d : Nat} {σ : aSt} (hd : 1 ≤ d) : a_call a_tab P d 117 [.ref 100] σ = b_R (a_call a_tab P (d - 1)) kX7_meanDrops [] (0, [some (.ref 100), none], [], σ) := e_call hd at_X7_meanDrops rfl
theorem b_X7_meanDrops_0 {C : aCall} {σ : aSt} (h : Sh σ) : b_R C kX7_meanDrops [] (0, [some (.ref 100), none], [], σ) = b_G C kX7_meanDrops [] 4 7 [some (.ref 100), none] [] (C 37 [.ref 101] σ) := by
  refine (e_aload_n (code := kX7_meanDrops) (pc := 0) rfl rfl).trans ?_
  refine (e_getR (code := kX7_meanDrops) (pc := 1) (c := 9) rfl (sk_100 (σ := σ) h) (sr_100_0 (σ := σ) h)).trans ?_
  exact (e_callV (σ := σ) (code := kX7_meanDrops) (pc := 4) (len := 3) (k := 37) (n := 1) (c := 13) (as := [.ref 101]) (st0 := []) rfl rfl rfl rfl rfl (sk_101 (σ := σ) h) rfl)
theorem b_X7_meanDrops_7 {C : aCall} {σ : aSt} {y0 : Int32} (h : Sh σ) : b_R C kX7_meanDrops [] (7, [some (.ref 100), none], [.int y0], σ) = (if y0 = 0 then b_R C kX7_meanDrops [] (28, [some (.ref 100), some (.int y0)], [.double FP.dconst0], σ) else b_G C kX7_meanDrops [] 21 24 [some (.ref 100), some (.int y0)] [] (C 38 [.ref 101, .int (nI 0)] σ)) := by
  refine (e_istore_n (code := kX7_meanDrops) (pc := 7) rfl rfl rfl).trans ?_
  refine (e_iload_n (code := kX7_meanDrops) (pc := 8) rfl rfl).trans ?_
  refine (e_ifne (code := kX7_meanDrops) (pc := 9) rfl).trans ?_
  refine b_ite ?_ ?_
  · refine (e_dconst (code := kX7_meanDrops) (pc := 12) rfl).trans ?_
    refine (e_goto (code := kX7_meanDrops) (pc := 13) rfl).trans ?_
    rfl
  · refine (e_aload_n (code := kX7_meanDrops) (pc := 16) rfl rfl).trans ?_
    refine (e_getR (code := kX7_meanDrops) (pc := 17) (c := 9) rfl (sk_100 (σ := σ) h) (sr_100_0 (σ := σ) h)).trans ?_
    refine (e_iconst (code := kX7_meanDrops) (pc := 20) rfl).trans ?_
    exact (e_callV (σ := σ) (code := kX7_meanDrops) (pc := 21) (len := 3) (k := 38) (n := 2) (c := 13) (as := [.ref 101, .int (nI 0)]) (st0 := []) rfl rfl rfl rfl rfl (sk_101 (σ := σ) h) rfl)
theorem b_X7_meanDrops_24 {C : aCall} {σ : aSt} {x1 y0 : Int32} : b_R C kX7_meanDrops [] (24, [some (.ref 100), some (.int x1)], [.int y0], σ) = b_gd (FP.ddiv (FP.i2d y0) (FP.i2d x1) &&& 0x7fffffffffffffff ≤ 0x7ff0000000000000) (b_R C kX7_meanDrops [] (28, [some (.ref 100), some (.int x1)], [.double (FP.ddiv (FP.i2d y0) (FP.i2d x1))], σ)) := by
  refine (e_i2d (code := kX7_meanDrops) (pc := 24) rfl).trans ?_
  refine (e_iload_n (code := kX7_meanDrops) (pc := 25) rfl rfl).trans ?_
  refine (e_i2d (code := kX7_meanDrops) (pc := 26) rfl).trans ?_
  refine (e_ddiv (code := kX7_meanDrops) (pc := 27) rfl).trans ?_
  refine b_gd_c ?_
  rfl
theorem b_X7_meanDrops_28 {C : aCall} {σ : aSt} {x1 : Int32} {y0 : UInt64} : b_R C kX7_meanDrops [] (28, [some (.ref 100), some (.int x1)], [.double y0], σ) = some (.inl (some (.double y0)), σ) := by
  exact e_dreturn rfl
theorem n_X7_brokenShare {P : aCall} {d : Nat} {σ : aSt} (hd : 1 ≤ d) : a_call a_tab P d 118 [.ref 100] σ = b_R (a_call a_tab P (d - 1)) kX7_brokenShare [] (0, [some (.ref 100), none], [], σ) := e_call hd at_X7_brokenShare rfl
theorem b_X7_brokenShare_0 {C : aCall} {σ : aSt} (h : Sh σ) : b_R C kX7_brokenShare [] (0, [some (.ref 100), none], [], σ) = (if (a_I σ 104 2) = 0 then b_R C kX7_brokenShare [] (30, [some (.ref 100), some (.int (a_I σ 104 2))], [.float FP.fconst0], σ) else b_G C kX7_brokenShare [] 23 26 [some (.ref 100), some (.int (a_I σ 104 2))] [] (C 42 [.ref 101] σ)) := by
  refine (e_aload_n (code := kX7_brokenShare) (pc := 0) rfl rfl).trans ?_
  refine (e_getR (code := kX7_brokenShare) (pc := 1) (c := 9) rfl (sk_100 (σ := σ) h) (sr_100_0 (σ := σ) h)).trans ?_
  refine (e_getR (code := kX7_brokenShare) (pc := 4) (c := 3) rfl (sk_101 (σ := σ) h) (sr_101_1 (σ := σ) h)).trans ?_
  refine (e_getI (code := kX7_brokenShare) (pc := 7) (c := 6) rfl (sk_104 (σ := σ) h) rfl).trans ?_
  refine (e_istore_n (code := kX7_brokenShare) (pc := 10) rfl rfl rfl).trans ?_
  refine (e_iload_n (code := kX7_brokenShare) (pc := 11) rfl rfl).trans ?_
  refine (e_ifne (code := kX7_brokenShare) (pc := 12) rfl).trans ?_
  refine b_ite ?_ ?_
  · refine (e_fconst (code := kX7_brokenShare) (pc := 15) rfl).trans ?_
    refine (e_goto (code := kX7_brokenShare) (pc := 16) rfl).trans ?_
    rfl
  · refine (e_aload_n (code := kX7_brokenShare) (pc := 19) rfl rfl).trans ?_
    refine (e_getR (code := kX7_brokenShare) (pc := 20) (c := 9) rfl (sk_100 (σ := σ) h) (sr_100_0 (σ := σ) h)).trans ?_
    exact (e_callV (σ := σ) (code := kX7_brokenShare) (pc := 23) (len := 3) (k := 42) (n := 1) (c := 13) (as := [.ref 101]) (st0 := []) rfl rfl rfl rfl rfl (sk_101 (σ := σ) h) rfl)
theorem b_X7_brokenShare_26 {C : aCall} {σ : aSt} {x1 y0 : Int32} : b_R C kX7_brokenShare [] (26, [some (.ref 100), some (.int x1)], [.int y0], σ) = b_gd (FP.fdiv (FP.i2f y0) (FP.i2f x1) &&& 0x7fffffff ≤ 0x7f800000) (b_R C kX7_brokenShare [] (30, [some (.ref 100), some (.int x1)], [.float (FP.fdiv (FP.i2f y0) (FP.i2f x1))], σ)) := by
  refine (e_i2f (code := kX7_brokenShare) (pc := 26) rfl).trans ?_
  refine (e_iload_n (code := kX7_brokenShare) (pc := 27) rfl rfl).trans ?_
  refine (e_i2f (code := kX7_brokenShare) (pc := 28) rfl).trans ?_
  refine (e_fdiv (code := kX7_brokenShare) (pc := 29) rfl).trans ?_
  refine b_gd_c ?_
  rfl
theorem b_X7_brokenShare_30 {C : aCall} {σ : aSt} {x1 : Int32} {y0 : UInt32} : b_R C kX7_brokenShare [] (30, [some (.ref 100), some (.int x1)], [.float y0], σ) = some (.inl (some (.float y0)), σ) := by
  exact e_freturn rfl
theorem n_X7_define {P : aCall} {d : Nat} {σ : aSt} {x1 : Int32} (hd : 1 ≤ d) : a_call a_tab P d 119 [.ref 100, .int x1] σ = b_R (a_call a_tab P (d - 1)) kX7_define [] (0, [some (.ref 100), some (.int x1), none], [], σ) := e_call hd at_X7_define rfl
theorem b_X7_define_0 {C : aCall} {σ : aSt} {x1 : Int32} (h : Sh σ) : b_R C kX7_define [] (0, [some (.ref 100), some (.int x1), none], [], σ) = b_G C kX7_define [] 5 8 [some (.ref 100), some (.int x1), none] [] (C 139 [.ref 100, .int x1, .int (nI 200)] σ) := by
  refine (e_aload_n (code := kX7_define) (pc := 0) rfl rfl).trans ?_
  refine (e_iload_n (code := kX7_define) (pc := 1) rfl rfl).trans ?_
  refine (e_sipush (code := kX7_define) (pc := 2) rfl).trans ?_
  exact (e_callV (σ := σ) (code := kX7_define) (pc := 5) (len := 3) (k := 139) (n := 3) (c := 19) (as := [.ref 100, .int x1, .int (nI 200)]) (st0 := []) rfl rfl rfl rfl rfl (sk_100 (σ := σ) h) rfl)
theorem b_X7_define_8 {C : aCall} {σ : aSt} {x1 : Int32} (h : Sh σ) : b_R C kX7_define [] (8, [some (.ref 100), some (.int x1), none], [], σ) = b_G C kX7_define [] 13 16 [some (.ref 100), some (.int x1), none] [] (C 17 [.ref 220, .int x1] σ) := by
  refine (e_aload_n (code := kX7_define) (pc := 8) rfl rfl).trans ?_
  refine (e_getR (code := kX7_define) (pc := 9) (c := 9) rfl (sk_100 (σ := σ) h) (sr_100_5 (σ := σ) h)).trans ?_
  refine (e_iload_n (code := kX7_define) (pc := 12) rfl rfl).trans ?_
  exact (e_callV (σ := σ) (code := kX7_define) (pc := 13) (len := 3) (k := 17) (n := 2) (c := 18) (as := [.ref 220, .int x1]) (st0 := []) rfl rfl rfl rfl rfl (sk_220 (σ := σ) h) rfl)
theorem b_X7_define_16 {C : aCall} {σ : aSt} {x1 : Int32} (h : Sh σ) : b_R C kX7_define [] (16, [some (.ref 100), some (.int x1), none], [], σ) = b_G C kX7_define [] 28 31 [some (.ref 100), some (.int x1), none] [] (C 78 [.ref 223, .ref 220, .ref 101] σ) := by
  refine (e_aload_n (code := kX7_define) (pc := 16) rfl rfl).trans ?_
  refine (e_getR (code := kX7_define) (pc := 17) (c := 9) rfl (sk_100 (σ := σ) h) (sr_100_6 (σ := σ) h)).trans ?_
  refine (e_aload_n (code := kX7_define) (pc := 20) rfl rfl).trans ?_
  refine (e_getR (code := kX7_define) (pc := 21) (c := 9) rfl (sk_100 (σ := σ) h) (sr_100_5 (σ := σ) h)).trans ?_
  refine (e_aload_n (code := kX7_define) (pc := 24) rfl rfl).trans ?_
  refine (e_getR (code := kX7_define) (pc := 25) (c := 9) rfl (sk_100 (σ := σ) h) (sr_100_0 (σ := σ) h)).trans ?_
  exact (e_callV (σ := σ) (code := kX7_define) (pc := 28) (len := 3) (k := 78) (n := 3) (c := 17) (as := [.ref 223, .ref 220, .ref 101]) (st0 := []) rfl rfl rfl rfl rfl (sk_223 (σ := σ) h) rfl)
theorem b_X7_define_31 {C : aCall} {σ : aSt} {x1 y0 : Int32} (h : Sh σ) : b_R C kX7_define [] (31, [some (.ref 100), some (.int x1), none], [.int y0], σ) = b_G C kX7_define [] 36 39 [some (.ref 100), some (.int x1), some (.int y0)] [] (C 16 [.ref 220] σ) := by
  refine (e_istore_n (code := kX7_define) (pc := 31) rfl rfl rfl).trans ?_
  refine (e_aload_n (code := kX7_define) (pc := 32) rfl rfl).trans ?_
  refine (e_getR (code := kX7_define) (pc := 33) (c := 9) rfl (sk_100 (σ := σ) h) (sr_100_5 (σ := σ) h)).trans ?_
  exact (e_callV (σ := σ) (code := kX7_define) (pc := 36) (len := 3) (k := 16) (n := 1) (c := 18) (as := [.ref 220]) (st0 := []) rfl rfl rfl rfl rfl (sk_220 (σ := σ) h) rfl)
theorem b_X7_define_39 {C : aCall} {σ : aSt} {x1 x2 : Int32} (h : Sh σ) : b_R C kX7_define [] (39, [some (.ref 100), some (.int x1), some (.int x2)], [], σ) = (if x2 = 0 then some (.inl (some (.int (((-10)) - (a_I σ 220 8)))), σ) else b_G C kX7_define [] 62 65 [some (.ref 100), some (.int x1), some (.int x2)] [] (C 55 [.ref 128, .ref 101] σ)) := by
  refine (e_iload_n (code := kX7_define) (pc := 39) rfl rfl).trans ?_
  refine (e_ifne (code := kX7_define) (pc := 40) rfl).trans ?_
  refine b_ite ?_ ?_
  · refine (e_bipush (code := kX7_define) (pc := 43) rfl).trans ?_
    refine (e_aload_n (code := kX7_define) (pc := 45) rfl rfl).trans ?_
    refine (e_getR (code := kX7_define) (pc := 46) (c := 9) rfl (sk_100 (σ := σ) h) (sr_100_5 (σ := σ) h)).trans ?_
    refine (e_getI (code := kX7_define) (pc := 49) (c := 8) rfl (sk_220 (σ := σ) h) rfl).trans ?_
    refine (e_isub (code := kX7_define) (pc := 52) rfl).trans ?_
    exact e_ireturn rfl
  · refine (e_aload_n (code := kX7_define) (pc := 54) rfl rfl).trans ?_
    refine (e_getR (code := kX7_define) (pc := 55) (c := 9) rfl (sk_100 (σ := σ) h) (sr_100_4 (σ := σ) h)).trans ?_
    refine (e_aload_n (code := kX7_define) (pc := 58) rfl rfl).trans ?_
    refine (e_getR (code := kX7_define) (pc := 59) (c := 9) rfl (sk_100 (σ := σ) h) (sr_100_0 (σ := σ) h)).trans ?_
    exact (e_callV (σ := σ) (code := kX7_define) (pc := 62) (len := 3) (k := 55) (n := 2) (c := 12) (as := [.ref 128, .ref 101]) (st0 := []) rfl rfl rfl rfl rfl (sk_128 (σ := σ) h) rfl)
theorem b_X7_define_65 {C : aCall} {σ : aSt} {x1 x2 : Int32} (h : Sh σ) : b_R C kX7_define [] (65, [some (.ref 100), some (.int x1), some (.int x2)], [], σ) = b_G C kX7_define [] 73 76 [some (.ref 100), some (.int x1), some (.int x2)] [] (C 79 [.ref 223, .ref 101] σ) := by
  refine (e_aload_n (code := kX7_define) (pc := 65) rfl rfl).trans ?_
  refine (e_getR (code := kX7_define) (pc := 66) (c := 9) rfl (sk_100 (σ := σ) h) (sr_100_6 (σ := σ) h)).trans ?_
  refine (e_aload_n (code := kX7_define) (pc := 69) rfl rfl).trans ?_
  refine (e_getR (code := kX7_define) (pc := 70) (c := 9) rfl (sk_100 (σ := σ) h) (sr_100_0 (σ := σ) h)).trans ?_
  exact (e_callV (σ := σ) (code := kX7_define) (pc := 73) (len := 3) (k := 79) (n := 2) (c := 17) (as := [.ref 223, .ref 101]) (st0 := []) rfl rfl rfl rfl rfl (sk_223 (σ := σ) h) rfl)
theorem b_X7_define_76 {C : aCall} {σ : aSt} {x1 x2 y0 : Int32} : b_R C kX7_define [] (76, [some (.ref 100), some (.int x1), some (.int x2)], [.int y0], σ) = some (.inl (some (.int y0)), σ) := by
  exact e_ireturn rfl
theorem n_X7_forget {P : aCall} {d : Nat} {σ : aSt} {x1 : Int32} (hd : 1 ≤ d) : a_call a_tab P d 120 [.ref 100, .int x1] σ = b_R (a_call a_tab P (d - 1)) kX7_forget [] (0, [some (.ref 100), some (.int x1)], [], σ) := e_call hd at_X7_forget rfl
theorem b_X7_forget_0 {C : aCall} {σ : aSt} {x1 : Int32} (h : Sh σ) : b_R C kX7_forget [] (0, [some (.ref 100), some (.int x1)], [], σ) = b_G C kX7_forget [] 2 5 [some (.ref 100), some (.int x1)] [] (C 134 [.ref 100, .int x1] σ) := by
  refine (e_aload_n (code := kX7_forget) (pc := 0) rfl rfl).trans ?_
  refine (e_iload_n (code := kX7_forget) (pc := 1) rfl rfl).trans ?_
  exact (e_callV (σ := σ) (code := kX7_forget) (pc := 2) (len := 3) (k := 134) (n := 2) (c := 19) (as := [.ref 100, .int x1]) (st0 := []) rfl rfl rfl rfl rfl (sk_100 (σ := σ) h) rfl)
theorem b_X7_forget_5 {C : aCall} {σ : aSt} {x1 : Int32} (h : Sh σ) : b_R C kX7_forget [] (5, [some (.ref 100), some (.int x1)], [], σ) = b_G C kX7_forget [] 13 16 [some (.ref 100), some (.int x1)] [] (C 55 [.ref 128, .ref 101] σ) := by
  refine (e_aload_n (code := kX7_forget) (pc := 5) rfl rfl).trans ?_
  refine (e_getR (code := kX7_forget) (pc := 6) (c := 9) rfl (sk_100 (σ := σ) h) (sr_100_4 (σ := σ) h)).trans ?_
  refine (e_aload_n (code := kX7_forget) (pc := 9) rfl rfl).trans ?_
  refine (e_getR (code := kX7_forget) (pc := 10) (c := 9) rfl (sk_100 (σ := σ) h) (sr_100_0 (σ := σ) h)).trans ?_
  exact (e_callV (σ := σ) (code := kX7_forget) (pc := 13) (len := 3) (k := 55) (n := 2) (c := 12) (as := [.ref 128, .ref 101]) (st0 := []) rfl rfl rfl rfl rfl (sk_128 (σ := σ) h) rfl)
theorem b_X7_forget_16 {C : aCall} {σ : aSt} {x1 : Int32} (h : Sh σ) : b_R C kX7_forget [] (16, [some (.ref 100), some (.int x1)], [], σ) = b_G C kX7_forget [] 24 27 [some (.ref 100), some (.int x1)] [] (C 7 [.ref 104, .int x1] σ) := by
  refine (e_aload_n (code := kX7_forget) (pc := 16) rfl rfl).trans ?_
  refine (e_getR (code := kX7_forget) (pc := 17) (c := 9) rfl (sk_100 (σ := σ) h) (sr_100_0 (σ := σ) h)).trans ?_
  refine (e_getR (code := kX7_forget) (pc := 20) (c := 3) rfl (sk_101 (σ := σ) h) (sr_101_1 (σ := σ) h)).trans ?_
  refine (e_iload_n (code := kX7_forget) (pc := 23) rfl rfl).trans ?_
  exact (e_callV (σ := σ) (code := kX7_forget) (pc := 24) (len := 3) (k := 7) (n := 2) (c := 16) (as := [.ref 104, .int x1]) (st0 := []) rfl rfl rfl rfl rfl (sk_104 (σ := σ) h) rfl)
theorem b_X7_forget_27 {C : aCall} {σ : aSt} {x1 : Int32} (h : Sh σ) : b_R C kX7_forget [] (27, [some (.ref 100), some (.int x1)], [], σ) = some (.inl (some (.int (a_I σ 104 2))), σ) := by
  refine (e_aload_n (code := kX7_forget) (pc := 27) rfl rfl).trans ?_
  refine (e_getR (code := kX7_forget) (pc := 28) (c := 9) rfl (sk_100 (σ := σ) h) (sr_100_0 (σ := σ) h)).trans ?_
  refine (e_getR (code := kX7_forget) (pc := 31) (c := 3) rfl (sk_101 (σ := σ) h) (sr_101_1 (σ := σ) h)).trans ?_
  refine (e_getI (code := kX7_forget) (pc := 34) (c := 6) rfl (sk_104 (σ := σ) h) rfl).trans ?_
  exact e_ireturn rfl
theorem n_X7_retire {P : aCall} {d : Nat} {σ : aSt} {x1 x2 : Int32} (hd : 1 ≤ d) : a_call a_tab P d 121 [.ref 100, .int x1, .int x2] σ = b_R (a_call a_tab P (d - 1)) kX7_retire [] (0, [some (.ref 100), some (.int x1), some (.int x2)], [], σ) := e_call hd at_X7_retire rfl
theorem b_X7_retire_0 {C : aCall} {σ : aSt} {x1 x2 : Int32} (h : Sh σ) : b_R C kX7_retire [] (0, [some (.ref 100), some (.int x1), some (.int x2)], [], σ) = b_G C kX7_retire [] 2 5 [some (.ref 100), some (.int x1), some (.int x2)] [] (C 133 [.ref 100, .int x1] σ) := by
  refine (e_aload_n (code := kX7_retire) (pc := 0) rfl rfl).trans ?_
  refine (e_iload_n (code := kX7_retire) (pc := 1) rfl rfl).trans ?_
  exact (e_callV (σ := σ) (code := kX7_retire) (pc := 2) (len := 3) (k := 133) (n := 2) (c := 19) (as := [.ref 100, .int x1]) (st0 := []) rfl rfl rfl rfl rfl (sk_100 (σ := σ) h) rfl)
theorem b_X7_retire_5 {C : aCall} {σ : aSt} {x1 x2 : Int32} (h : Sh σ) : b_R C kX7_retire [] (5, [some (.ref 100), some (.int x1), some (.int x2)], [], σ) = b_G C kX7_retire [] 13 16 [some (.ref 100), some (.int x1), some (.int x2)] [] (C 55 [.ref 128, .ref 101] σ) := by
  refine (e_aload_n (code := kX7_retire) (pc := 5) rfl rfl).trans ?_
  refine (e_getR (code := kX7_retire) (pc := 6) (c := 9) rfl (sk_100 (σ := σ) h) (sr_100_4 (σ := σ) h)).trans ?_
  refine (e_aload_n (code := kX7_retire) (pc := 9) rfl rfl).trans ?_
  refine (e_getR (code := kX7_retire) (pc := 10) (c := 9) rfl (sk_100 (σ := σ) h) (sr_100_0 (σ := σ) h)).trans ?_
  exact (e_callV (σ := σ) (code := kX7_retire) (pc := 13) (len := 3) (k := 55) (n := 2) (c := 12) (as := [.ref 128, .ref 101]) (st0 := []) rfl rfl rfl rfl rfl (sk_128 (σ := σ) h) rfl)
theorem b_X7_retire_16 {C : aCall} {σ : aSt} {x1 x2 : Int32} (h : Sh σ) : b_R C kX7_retire [] (16, [some (.ref 100), some (.int x1), some (.int x2)], [], σ) = (if x2 = 0 then b_R C kX7_retire [] (35, [some (.ref 100), some (.int x1), some (.int x2)], [.int (nI 0), .int (nI 12), .int x1, .ref 102], σ) else b_R C kX7_retire [] (35, [some (.ref 100), some (.int x1), some (.int x2)], [.int (nI 1), .int (nI 12), .int x1, .ref 102], σ)) := by
  refine (e_aload_n (code := kX7_retire) (pc := 16) rfl rfl).trans ?_
  refine (e_getR (code := kX7_retire) (pc := 17) (c := 9) rfl (sk_100 (σ := σ) h) (sr_100_0 (σ := σ) h)).trans ?_
  refine (e_getR (code := kX7_retire) (pc := 20) (c := 3) rfl (sk_101 (σ := σ) h) (sr_101_0 (σ := σ) h)).trans ?_
  refine (e_iload_n (code := kX7_retire) (pc := 23) rfl rfl).trans ?_
  refine (e_bipush (code := kX7_retire) (pc := 24) rfl).trans ?_
  refine (e_iload_n (code := kX7_retire) (pc := 26) rfl rfl).trans ?_
  refine (e_ifeq (code := kX7_retire) (pc := 27) rfl).trans ?_
  refine b_ite ?_ ?_
  · refine (e_iconst (code := kX7_retire) (pc := 34) rfl).trans ?_
    rfl
  · refine (e_iconst (code := kX7_retire) (pc := 30) rfl).trans ?_
    refine (e_goto (code := kX7_retire) (pc := 31) rfl).trans ?_
    rfl
theorem b_X7_retire_35 {C : aCall} {σ : aSt} {x1 x2 y0 y1 y2 : Int32} (h : Sh σ) : b_R C kX7_retire [] (35, [some (.ref 100), some (.int x1), some (.int x2)], [.int y0, .int y1, .int y2, .ref 102], σ) = b_G C kX7_retire [] 35 38 [some (.ref 100), some (.int x1), some (.int x2)] [] (C 2 [.ref 102, .int y2, .int y1, .int y0] σ) := by
  exact (e_callV (σ := σ) (code := kX7_retire) (pc := 35) (len := 3) (k := 2) (n := 4) (c := 16) (as := [.ref 102, .int y2, .int y1, .int y0]) (st0 := []) rfl rfl rfl rfl rfl (sk_102 (σ := σ) h) rfl)
theorem b_X7_retire_38 {C : aCall} {σ : aSt} {x1 x2 : Int32} (h : Sh σ) : b_R C kX7_retire [] (38, [some (.ref 100), some (.int x1), some (.int x2)], [], σ) = b_G C kX7_retire [] 42 45 [some (.ref 100), some (.int x1), some (.int x2)] [] (C 42 [.ref 101] σ) := by
  refine (e_aload_n (code := kX7_retire) (pc := 38) rfl rfl).trans ?_
  refine (e_getR (code := kX7_retire) (pc := 39) (c := 9) rfl (sk_100 (σ := σ) h) (sr_100_0 (σ := σ) h)).trans ?_
  exact (e_callV (σ := σ) (code := kX7_retire) (pc := 42) (len := 3) (k := 42) (n := 1) (c := 13) (as := [.ref 101]) (st0 := []) rfl rfl rfl rfl rfl (sk_101 (σ := σ) h) rfl)
theorem b_X7_retire_45 {C : aCall} {σ : aSt} {x1 x2 y0 : Int32} : b_R C kX7_retire [] (45, [some (.ref 100), some (.int x1), some (.int x2)], [.int y0], σ) = some (.inl (some (.int y0)), σ) := by
  exact e_ireturn rfl
theorem n_X7_heal {P : aCall} {d : Nat} {σ : aSt} {x1 : Int32} (hd : 1 ≤ d) : a_call a_tab P d 122 [.ref 100, .int x1] σ = b_R (a_call a_tab P (d - 1)) kX7_heal [] (0, [some (.ref 100), some (.int x1)], [], σ) := e_call hd at_X7_heal rfl
theorem b_X7_heal_0 {C : aCall} {σ : aSt} {x1 : Int32} (h : Sh σ) : b_R C kX7_heal [] (0, [some (.ref 100), some (.int x1)], [], σ) = b_G C kX7_heal [] 2 5 [some (.ref 100), some (.int x1)] [] (C 134 [.ref 100, .int x1] σ) := by
  refine (e_aload_n (code := kX7_heal) (pc := 0) rfl rfl).trans ?_
  refine (e_iload_n (code := kX7_heal) (pc := 1) rfl rfl).trans ?_
  exact (e_callV (σ := σ) (code := kX7_heal) (pc := 2) (len := 3) (k := 134) (n := 2) (c := 19) (as := [.ref 100, .int x1]) (st0 := []) rfl rfl rfl rfl rfl (sk_100 (σ := σ) h) rfl)
theorem b_X7_heal_5 {C : aCall} {σ : aSt} {x1 : Int32} (h : Sh σ) : b_R C kX7_heal [] (5, [some (.ref 100), some (.int x1)], [], σ) = b_G C kX7_heal [] 10 13 [some (.ref 100), some (.int x1)] [] (C 41 [.ref 101, .int x1] σ) := by
  refine (e_aload_n (code := kX7_heal) (pc := 5) rfl rfl).trans ?_
  refine (e_getR (code := kX7_heal) (pc := 6) (c := 9) rfl (sk_100 (σ := σ) h) (sr_100_0 (σ := σ) h)).trans ?_
  refine (e_iload_n (code := kX7_heal) (pc := 9) rfl rfl).trans ?_
  exact (e_callV (σ := σ) (code := kX7_heal) (pc := 10) (len := 3) (k := 41) (n := 2) (c := 13) (as := [.ref 101, .int x1]) (st0 := []) rfl rfl rfl rfl rfl (sk_101 (σ := σ) h) rfl)
theorem b_X7_heal_13 {C : aCall} {σ : aSt} {x1 y0 : Int32} (h : Sh σ) : b_R C kX7_heal [] (13, [some (.ref 100), some (.int x1)], [.int y0], σ) = (if y0 = 0 then some (.inl (some (.int ((-2)))), σ) else b_G C kX7_heal [] 23 26 [some (.ref 100), some (.int x1)] [] (C 37 [.ref 101] σ)) := by
  refine (e_ifne (code := kX7_heal) (pc := 13) rfl).trans ?_
  refine b_ite ?_ ?_
  · refine (e_bipush (code := kX7_heal) (pc := 16) rfl).trans ?_
    exact e_ireturn rfl
  · refine (e_aload_n (code := kX7_heal) (pc := 19) rfl rfl).trans ?_
    refine (e_getR (code := kX7_heal) (pc := 20) (c := 9) rfl (sk_100 (σ := σ) h) (sr_100_0 (σ := σ) h)).trans ?_
    exact (e_callV (σ := σ) (code := kX7_heal) (pc := 23) (len := 3) (k := 37) (n := 1) (c := 13) (as := [.ref 101]) (st0 := []) rfl rfl rfl rfl rfl (sk_101 (σ := σ) h) rfl)
theorem b_X7_heal_26 {C : aCall} {σ : aSt} {x1 y0 : Int32} (h : Sh σ) : b_R C kX7_heal [] (26, [some (.ref 100), some (.int x1)], [.int y0], σ) = (if y0 = 0 then some (.inl (some (.int ((-3)))), σ) else b_G C kX7_heal [] 52 55 [some (.ref 100), some (.int x1)] [.ref 101, .ref 229] (C 45 [.ref 101, .ref 104, .int x1] σ)) := by
  refine (e_ifne (code := kX7_heal) (pc := 26) rfl).trans ?_
  refine b_ite ?_ ?_
  · refine (e_bipush (code := kX7_heal) (pc := 29) rfl).trans ?_
    exact e_ireturn rfl
  · refine (e_aload_n (code := kX7_heal) (pc := 32) rfl rfl).trans ?_
    refine (e_getR (code := kX7_heal) (pc := 33) (c := 9) rfl (sk_100 (σ := σ) h) (sr_100_8 (σ := σ) h)).trans ?_
    refine (e_aload_n (code := kX7_heal) (pc := 36) rfl rfl).trans ?_
    refine (e_getR (code := kX7_heal) (pc := 37) (c := 9) rfl (sk_100 (σ := σ) h) (sr_100_0 (σ := σ) h)).trans ?_
    refine (e_aload_n (code := kX7_heal) (pc := 40) rfl rfl).trans ?_
    refine (e_getR (code := kX7_heal) (pc := 41) (c := 9) rfl (sk_100 (σ := σ) h) (sr_100_0 (σ := σ) h)).trans ?_
    refine (e_aload_n (code := kX7_heal) (pc := 44) rfl rfl).trans ?_
    refine (e_getR (code := kX7_heal) (pc := 45) (c := 9) rfl (sk_100 (σ := σ) h) (sr_100_0 (σ := σ) h)).trans ?_
    refine (e_getR (code := kX7_heal) (pc := 48) (c := 3) rfl (sk_101 (σ := σ) h) (sr_101_1 (σ := σ) h)).trans ?_
    refine (e_iload_n (code := kX7_heal) (pc := 51) rfl rfl).trans ?_
    exact (e_callV (σ := σ) (code := kX7_heal) (pc := 52) (len := 3) (k := 45) (n := 3) (c := 13) (as := [.ref 101, .ref 104, .int x1]) (st0 := [.ref 101, .ref 229]) rfl rfl rfl rfl rfl (sk_101 (σ := σ) h) rfl)
theorem b_X7_heal_55 {C : aCall} {σ : aSt} {x1 y0 : Int32} (h : Sh σ) : b_R C kX7_heal [] (55, [some (.ref 100), some (.int x1)], [.int y0, .ref 101, .ref 229], σ) = b_G C kX7_heal [] 56 59 [some (.ref 100), some (.int x1)] [] (C 58 [.ref 229, .ref 101, .int y0, .int (nI 3)] σ) := by
  refine (e_iconst (code := kX7_heal) (pc := 55) rfl).trans ?_
  exact (e_callV (σ := σ) (code := kX7_heal) (pc := 56) (len := 3) (k := 58) (n := 4) (c := 15) (as := [.ref 229, .ref 101, .int y0, .int (nI 3)]) (st0 := []) rfl rfl rfl rfl rfl (sk_229 (σ := σ) h) rfl)
theorem b_X7_heal_59 {C : aCall} {σ : aSt} {x1 : Int32} (h : Sh σ) : b_R C kX7_heal [] (59, [some (.ref 100), some (.int x1)], [], σ) = (if (a_I σ 101 5) < (a_I σ 229 10) then some (.inl (some (.int ((-4)))), σ) else b_G C kX7_heal [] 87 90 [some (.ref 100), some (.int x1)] [] (C 55 [.ref 128, .ref 101] σ)) := by
  refine (e_aload_n (code := kX7_heal) (pc := 59) rfl rfl).trans ?_
  refine (e_getR (code := kX7_heal) (pc := 60) (c := 9) rfl (sk_100 (σ := σ) h) (sr_100_8 (σ := σ) h)).trans ?_
  refine (e_getI (code := kX7_heal) (pc := 63) (c := 5) rfl (sk_229 (σ := σ) h) rfl).trans ?_
  refine (e_aload_n (code := kX7_heal) (pc := 66) rfl rfl).trans ?_
  refine (e_getR (code := kX7_heal) (pc := 67) (c := 9) rfl (sk_100 (σ := σ) h) (sr_100_0 (σ := σ) h)).trans ?_
  refine (e_getI (code := kX7_heal) (pc := 70) (c := 3) rfl (sk_101 (σ := σ) h) rfl).trans ?_
  refine (e_icle (code := kX7_heal) (pc := 73) rfl).trans ?_
  refine b_ite ?_ ?_
  · refine (e_bipush (code := kX7_heal) (pc := 76) rfl).trans ?_
    exact e_ireturn rfl
  · refine (e_aload_n (code := kX7_heal) (pc := 79) rfl rfl).trans ?_
    refine (e_getR (code := kX7_heal) (pc := 80) (c := 9) rfl (sk_100 (σ := σ) h) (sr_100_4 (σ := σ) h)).trans ?_
    refine (e_aload_n (code := kX7_heal) (pc := 83) rfl rfl).trans ?_
    refine (e_getR (code := kX7_heal) (pc := 84) (c := 9) rfl (sk_100 (σ := σ) h) (sr_100_0 (σ := σ) h)).trans ?_
    exact (e_callV (σ := σ) (code := kX7_heal) (pc := 87) (len := 3) (k := 55) (n := 2) (c := 12) (as := [.ref 128, .ref 101]) (st0 := []) rfl rfl rfl rfl rfl (sk_128 (σ := σ) h) rfl)
theorem b_X7_heal_90 {C : aCall} {σ : aSt} {x1 : Int32} (h : Sh σ) : b_R C kX7_heal [] (90, [some (.ref 100), some (.int x1)], [], σ) = b_G C kX7_heal [] 102 105 [some (.ref 100), some (.int x1)] [] (C 66 [.ref 229, .ref 104, .int x1] σ) := by
  refine (e_aload_n (code := kX7_heal) (pc := 90) rfl rfl).trans ?_
  refine (e_getR (code := kX7_heal) (pc := 91) (c := 9) rfl (sk_100 (σ := σ) h) (sr_100_8 (σ := σ) h)).trans ?_
  refine (e_aload_n (code := kX7_heal) (pc := 94) rfl rfl).trans ?_
  refine (e_getR (code := kX7_heal) (pc := 95) (c := 9) rfl (sk_100 (σ := σ) h) (sr_100_0 (σ := σ) h)).trans ?_
  refine (e_getR (code := kX7_heal) (pc := 98) (c := 3) rfl (sk_101 (σ := σ) h) (sr_101_1 (σ := σ) h)).trans ?_
  refine (e_iload_n (code := kX7_heal) (pc := 101) rfl rfl).trans ?_
  exact (e_callV (σ := σ) (code := kX7_heal) (pc := 102) (len := 3) (k := 66) (n := 3) (c := 15) (as := [.ref 229, .ref 104, .int x1]) (st0 := []) rfl rfl rfl rfl rfl (sk_229 (σ := σ) h) rfl)
theorem b_X7_heal_105 {C : aCall} {σ : aSt} {x1 : Int32} (h : Sh σ) : b_R C kX7_heal [] (105, [some (.ref 100), some (.int x1)], [], σ) = some (.inl (some (.int (a_I σ 229 10))), σ) := by
  refine (e_aload_n (code := kX7_heal) (pc := 105) rfl rfl).trans ?_
  refine (e_getR (code := kX7_heal) (pc := 106) (c := 9) rfl (sk_100 (σ := σ) h) (sr_100_8 (σ := σ) h)).trans ?_
  refine (e_getI (code := kX7_heal) (pc := 109) (c := 5) rfl (sk_229 (σ := σ) h) rfl).trans ?_
  exact e_ireturn rfl
theorem n_X7_paint {P : aCall} {d : Nat} {σ : aSt} {x1 x2 x3 : Int32} (hd : 1 ≤ d) : a_call a_tab P d 123 [.ref 100, .int x1, .int x2, .int x3] σ = b_R (a_call a_tab P (d - 1)) kX7_paint [] (0, [some (.ref 100), some (.int x1), some (.int x2), some (.int x3)], [], σ) := e_call hd at_X7_paint rfl
theorem b_X7_paint_0 {C : aCall} {σ : aSt} {x1 x2 x3 : Int32} (h : Sh σ) : b_R C kX7_paint [] (0, [some (.ref 100), some (.int x1), some (.int x2), some (.int x3)], [], σ) = b_G C kX7_paint [] 2 5 [some (.ref 100), some (.int x1), some (.int x2), some (.int x3)] [] (C 135 [.ref 100, .int x1] σ) := by
  refine (e_aload_n (code := kX7_paint) (pc := 0) rfl rfl).trans ?_
  refine (e_iload_n (code := kX7_paint) (pc := 1) rfl rfl).trans ?_
  exact (e_callV (σ := σ) (code := kX7_paint) (pc := 2) (len := 3) (k := 135) (n := 2) (c := 19) (as := [.ref 100, .int x1]) (st0 := []) rfl rfl rfl rfl rfl (sk_100 (σ := σ) h) rfl)
theorem b_X7_paint_5 {C : aCall} {σ : aSt} {x1 x2 x3 : Int32} (h : Sh σ) : b_R C kX7_paint [] (5, [some (.ref 100), some (.int x1), some (.int x2), some (.int x3)], [], σ) = b_G C kX7_paint [] 7 10 [some (.ref 100), some (.int x1), some (.int x2), some (.int x3)] [] (C 134 [.ref 100, .int x2] σ) := by
  refine (e_aload_n (code := kX7_paint) (pc := 5) rfl rfl).trans ?_
  refine (e_iload_n (code := kX7_paint) (pc := 6) rfl rfl).trans ?_
  exact (e_callV (σ := σ) (code := kX7_paint) (pc := 7) (len := 3) (k := 134) (n := 2) (c := 19) (as := [.ref 100, .int x2]) (st0 := []) rfl rfl rfl rfl rfl (sk_100 (σ := σ) h) rfl)
theorem b_X7_paint_10 {C : aCall} {σ : aSt} {x1 x2 x3 : Int32} : b_R C kX7_paint [] (10, [some (.ref 100), some (.int x1), some (.int x2), some (.int x3)], [], σ) = b_G C kX7_paint [] 14 17 [some (.ref 100), some (.int x1), some (.int x2), some (.int x3)] [] (C 137 [.int x3, .int (nI 1), .int (nI 99)] σ) := by
  refine (e_iload_n (code := kX7_paint) (pc := 10) rfl rfl).trans ?_
  refine (e_iconst (code := kX7_paint) (pc := 11) rfl).trans ?_
  refine (e_bipush (code := kX7_paint) (pc := 12) rfl).trans ?_
  exact (e_callS (code := kX7_paint) (pc := 14) (len := 3) (k := 137) (n := 3) (as := [.int x3, .int (nI 1), .int (nI 99)]) (st0 := []) rfl rfl rfl rfl)
theorem b_X7_paint_17 {C : aCall} {σ : aSt} {x1 x2 x3 : Int32} (h : Sh σ) : b_R C kX7_paint [] (17, [some (.ref 100), some (.int x1), some (.int x2), some (.int x3)], [], σ) = b_G C kX7_paint [] 22 25 [some (.ref 100), some (.int x1), some (.int x2), some (.int x3)] [] (C 41 [.ref 101, .int x2] σ) := by
  refine (e_aload_n (code := kX7_paint) (pc := 17) rfl rfl).trans ?_
  refine (e_getR (code := kX7_paint) (pc := 18) (c := 9) rfl (sk_100 (σ := σ) h) (sr_100_0 (σ := σ) h)).trans ?_
  refine (e_iload_n (code := kX7_paint) (pc := 21) rfl rfl).trans ?_
  exact (e_callV (σ := σ) (code := kX7_paint) (pc := 22) (len := 3) (k := 41) (n := 2) (c := 13) (as := [.ref 101, .int x2]) (st0 := []) rfl rfl rfl rfl rfl (sk_101 (σ := σ) h) rfl)
theorem b_X7_paint_25 {C : aCall} {σ : aSt} {x1 x2 x3 y0 : Int32} (h : Sh σ) : b_R C kX7_paint [] (25, [some (.ref 100), some (.int x1), some (.int x2), some (.int x3)], [.int y0], σ) = (if y0 = 0 then b_G C kX7_paint [] 36 39 [some (.ref 100), some (.int x1), some (.int x2), some (.int x3)] [] (C 47 [.ref 101, .int x2] σ) else some (.inl (some (.int ((-2)))), σ)) := by
  refine (e_ifeq (code := kX7_paint) (pc := 25) rfl).trans ?_
  refine b_ite ?_ ?_
  · refine (e_aload_n (code := kX7_paint) (pc := 31) rfl rfl).trans ?_
    refine (e_getR (code := kX7_paint) (pc := 32) (c := 9) rfl (sk_100 (σ := σ) h) (sr_100_0 (σ := σ) h)).trans ?_
    refine (e_iload_n (code := kX7_paint) (pc := 35) rfl rfl).trans ?_
    exact (e_callV (σ := σ) (code := kX7_paint) (pc := 36) (len := 3) (k := 47) (n := 2) (c := 13) (as := [.ref 101, .int x2]) (st0 := []) rfl rfl rfl rfl rfl (sk_101 (σ := σ) h) rfl)
  · refine (e_bipush (code := kX7_paint) (pc := 28) rfl).trans ?_
    exact e_ireturn rfl
theorem b_X7_paint_39 {C : aCall} {σ : aSt} {x1 x2 x3 y0 : Int32} (h : Sh σ) : b_R C kX7_paint [] (39, [some (.ref 100), some (.int x1), some (.int x2), some (.int x3)], [.int y0], σ) = (if y0 < x3 then some (.inl (some (.int ((-3)))), σ) else b_G C kX7_paint [] 54 57 [some (.ref 100), some (.int x1), some (.int x2), some (.int x3)] [] (C 55 [.ref 128, .ref 101] σ)) := by
  refine (e_iload_n (code := kX7_paint) (pc := 39) rfl rfl).trans ?_
  refine (e_icge (code := kX7_paint) (pc := 40) rfl).trans ?_
  refine b_ite ?_ ?_
  · refine (e_bipush (code := kX7_paint) (pc := 43) rfl).trans ?_
    exact e_ireturn rfl
  · refine (e_aload_n (code := kX7_paint) (pc := 46) rfl rfl).trans ?_
    refine (e_getR (code := kX7_paint) (pc := 47) (c := 9) rfl (sk_100 (σ := σ) h) (sr_100_4 (σ := σ) h)).trans ?_
    refine (e_aload_n (code := kX7_paint) (pc := 50) rfl rfl).trans ?_
    refine (e_getR (code := kX7_paint) (pc := 51) (c := 9) rfl (sk_100 (σ := σ) h) (sr_100_0 (σ := σ) h)).trans ?_
    exact (e_callV (σ := σ) (code := kX7_paint) (pc := 54) (len := 3) (k := 55) (n := 2) (c := 12) (as := [.ref 128, .ref 101]) (st0 := []) rfl rfl rfl rfl rfl (sk_128 (σ := σ) h) rfl)
theorem b_X7_paint_57 {C : aCall} {σ : aSt} {x1 x2 x3 : Int32} (h : Sh σ) : b_R C kX7_paint [] (57, [some (.ref 100), some (.int x1), some (.int x2), some (.int x3)], [], σ) = b_G C kX7_paint [] 64 67 [some (.ref 100), some (.int x1), some (.int x2), some (.int x3)] [] (C 50 [.ref 101, .int x1, .int x2, .int x3] σ) := by
  refine (e_aload_n (code := kX7_paint) (pc := 57) rfl rfl).trans ?_
  refine (e_getR (code := kX7_paint) (pc := 58) (c := 9) rfl (sk_100 (σ := σ) h) (sr_100_0 (σ := σ) h)).trans ?_
  refine (e_iload_n (code := kX7_paint) (pc := 61) rfl rfl).trans ?_
  refine (e_iload_n (code := kX7_paint) (pc := 62) rfl rfl).trans ?_
  refine (e_iload_n (code := kX7_paint) (pc := 63) rfl rfl).trans ?_
  exact (e_callV (σ := σ) (code := kX7_paint) (pc := 64) (len := 3) (k := 50) (n := 4) (c := 13) (as := [.ref 101, .int x1, .int x2, .int x3]) (st0 := []) rfl rfl rfl rfl rfl (sk_101 (σ := σ) h) rfl)
theorem b_X7_paint_67 {C : aCall} {σ : aSt} {x1 x2 x3 y0 : Int32} : b_R C kX7_paint [] (67, [some (.ref 100), some (.int x1), some (.int x2), some (.int x3)], [.int y0], σ) = some (.inl (some (.int y0)), σ) := by
  exact e_ireturn rfl
theorem n_X7_clean {P : aCall} {d : Nat} {σ : aSt} {x1 : Int32} (hd : 1 ≤ d) : a_call a_tab P d 124 [.ref 100, .int x1] σ = b_R (a_call a_tab P (d - 1)) kX7_clean [] (0, [some (.ref 100), some (.int x1)], [], σ) := e_call hd at_X7_clean rfl
theorem b_X7_clean_0 {C : aCall} {σ : aSt} {x1 : Int32} (h : Sh σ) : b_R C kX7_clean [] (0, [some (.ref 100), some (.int x1)], [], σ) = b_G C kX7_clean [] 2 5 [some (.ref 100), some (.int x1)] [] (C 135 [.ref 100, .int x1] σ) := by
  refine (e_aload_n (code := kX7_clean) (pc := 0) rfl rfl).trans ?_
  refine (e_iload_n (code := kX7_clean) (pc := 1) rfl rfl).trans ?_
  exact (e_callV (σ := σ) (code := kX7_clean) (pc := 2) (len := 3) (k := 135) (n := 2) (c := 19) (as := [.ref 100, .int x1]) (st0 := []) rfl rfl rfl rfl rfl (sk_100 (σ := σ) h) rfl)
theorem b_X7_clean_5 {C : aCall} {σ : aSt} {x1 : Int32} (h : Sh σ) : b_R C kX7_clean [] (5, [some (.ref 100), some (.int x1)], [], σ) = b_G C kX7_clean [] 13 16 [some (.ref 100), some (.int x1)] [] (C 55 [.ref 128, .ref 101] σ) := by
  refine (e_aload_n (code := kX7_clean) (pc := 5) rfl rfl).trans ?_
  refine (e_getR (code := kX7_clean) (pc := 6) (c := 9) rfl (sk_100 (σ := σ) h) (sr_100_4 (σ := σ) h)).trans ?_
  refine (e_aload_n (code := kX7_clean) (pc := 9) rfl rfl).trans ?_
  refine (e_getR (code := kX7_clean) (pc := 10) (c := 9) rfl (sk_100 (σ := σ) h) (sr_100_0 (σ := σ) h)).trans ?_
  exact (e_callV (σ := σ) (code := kX7_clean) (pc := 13) (len := 3) (k := 55) (n := 2) (c := 12) (as := [.ref 128, .ref 101]) (st0 := []) rfl rfl rfl rfl rfl (sk_128 (σ := σ) h) rfl)
theorem b_X7_clean_16 {C : aCall} {σ : aSt} {x1 : Int32} (h : Sh σ) : b_R C kX7_clean [] (16, [some (.ref 100), some (.int x1)], [], σ) = b_G C kX7_clean [] 21 24 [some (.ref 100), some (.int x1)] [] (C 51 [.ref 101, .int x1] σ) := by
  refine (e_aload_n (code := kX7_clean) (pc := 16) rfl rfl).trans ?_
  refine (e_getR (code := kX7_clean) (pc := 17) (c := 9) rfl (sk_100 (σ := σ) h) (sr_100_0 (σ := σ) h)).trans ?_
  refine (e_iload_n (code := kX7_clean) (pc := 20) rfl rfl).trans ?_
  exact (e_callV (σ := σ) (code := kX7_clean) (pc := 21) (len := 3) (k := 51) (n := 2) (c := 13) (as := [.ref 101, .int x1]) (st0 := []) rfl rfl rfl rfl rfl (sk_101 (σ := σ) h) rfl)
theorem b_X7_clean_24 {C : aCall} {σ : aSt} {x1 y0 : Int32} : b_R C kX7_clean [] (24, [some (.ref 100), some (.int x1)], [.int y0], σ) = some (.inl (some (.int y0)), σ) := by
  exact e_ireturn rfl
theorem n_X7_change {P : aCall} {d : Nat} {σ : aSt} (hd : 1 ≤ d) : a_call a_tab P d 125 [.ref 100] σ = b_R (a_call a_tab P (d - 1)) kX7_change [] (0, [some (.ref 100), none], [], σ) := e_call hd at_X7_change rfl
theorem b_X7_change_0 {C : aCall} {σ : aSt} (h : Sh σ) : b_R C kX7_change [] (0, [some (.ref 100), none], [], σ) = b_G C kX7_change [] 8 11 [some (.ref 100), none] [] (C 55 [.ref 128, .ref 101] σ) := by
  refine (e_aload_n (code := kX7_change) (pc := 0) rfl rfl).trans ?_
  refine (e_getR (code := kX7_change) (pc := 1) (c := 9) rfl (sk_100 (σ := σ) h) (sr_100_4 (σ := σ) h)).trans ?_
  refine (e_aload_n (code := kX7_change) (pc := 4) rfl rfl).trans ?_
  refine (e_getR (code := kX7_change) (pc := 5) (c := 9) rfl (sk_100 (σ := σ) h) (sr_100_0 (σ := σ) h)).trans ?_
  exact (e_callV (σ := σ) (code := kX7_change) (pc := 8) (len := 3) (k := 55) (n := 2) (c := 12) (as := [.ref 128, .ref 101]) (st0 := []) rfl rfl rfl rfl rfl (sk_128 (σ := σ) h) rfl)
theorem b_X7_change_11 {C : aCall} {σ : aSt} (h : Sh σ) : b_R C kX7_change [] (11, [some (.ref 100), none], [], σ) = some (.inl (some (.int (a_I σ 101 6))), (a_setI σ 101 6 (nI 0))) := by
  refine (e_aload_n (code := kX7_change) (pc := 11) rfl rfl).trans ?_
  refine (e_getR (code := kX7_change) (pc := 12) (c := 9) rfl (sk_100 (σ := σ) h) (sr_100_0 (σ := σ) h)).trans ?_
  refine (e_getI (code := kX7_change) (pc := 15) (c := 3) rfl (sk_101 (σ := σ) h) rfl).trans ?_
  refine (e_istore_n (code := kX7_change) (pc := 18) rfl rfl rfl).trans ?_
  refine (e_aload_n (code := kX7_change) (pc := 19) rfl rfl).trans ?_
  refine (e_getR (code := kX7_change) (pc := 20) (c := 9) rfl (sk_100 (σ := σ) h) (sr_100_0 (σ := σ) h)).trans ?_
  refine (e_iconst (code := kX7_change) (pc := 23) rfl).trans ?_
  refine (e_putI (code := kX7_change) (pc := 24) (c := 3) rfl (sk_101 (σ := σ) h) (h_100 rfl)).trans ?_
  refine (e_iload_n (code := kX7_change) (pc := 27) (σ := (a_setI σ 101 6 (nI 0))) rfl rfl).trans ?_
  exact e_ireturn rfl
theorem n_X7_refill {P : aCall} {d : Nat} {σ : aSt} {x1 x2 : Int32} (hd : 1 ≤ d) : a_call a_tab P d 126 [.ref 100, .int x1, .int x2] σ = b_R (a_call a_tab P (d - 1)) kX7_refill [] (0, [some (.ref 100), some (.int x1), some (.int x2), none], [], σ) := e_call hd at_X7_refill rfl
theorem b_X7_refill_0 {C : aCall} {σ : aSt} {x1 x2 : Int32} (h : Sh σ) : b_R C kX7_refill [] (0, [some (.ref 100), some (.int x1), some (.int x2), none], [], σ) = b_G C kX7_refill [] 2 5 [some (.ref 100), some (.int x1), some (.int x2), none] [] (C 133 [.ref 100, .int x1] σ) := by
  refine (e_aload_n (code := kX7_refill) (pc := 0) rfl rfl).trans ?_
  refine (e_iload_n (code := kX7_refill) (pc := 1) rfl rfl).trans ?_
  exact (e_callV (σ := σ) (code := kX7_refill) (pc := 2) (len := 3) (k := 133) (n := 2) (c := 19) (as := [.ref 100, .int x1]) (st0 := []) rfl rfl rfl rfl rfl (sk_100 (σ := σ) h) rfl)
theorem b_X7_refill_5 {C : aCall} {σ : aSt} {x1 x2 : Int32} : b_R C kX7_refill [] (5, [some (.ref 100), some (.int x1), some (.int x2), none], [], σ) = b_G C kX7_refill [] 10 13 [some (.ref 100), some (.int x1), some (.int x2), none] [] (C 137 [.int x2, .int (nI 1), .int (nI 999)] σ) := by
  refine (e_iload_n (code := kX7_refill) (pc := 5) rfl rfl).trans ?_
  refine (e_iconst (code := kX7_refill) (pc := 6) rfl).trans ?_
  refine (e_sipush (code := kX7_refill) (pc := 7) rfl).trans ?_
  exact (e_callS (code := kX7_refill) (pc := 10) (len := 3) (k := 137) (n := 3) (as := [.int x2, .int (nI 1), .int (nI 999)]) (st0 := []) rfl rfl rfl rfl)
theorem b_X7_refill_13 {C : aCall} {σ : aSt} {x1 x2 : Int32} (h : Sh σ) : b_R C kX7_refill [] (13, [some (.ref 100), some (.int x1), some (.int x2), none], [], σ) = b_G C kX7_refill [] 23 26 [some (.ref 100), some (.int x1), some (.int x2), none] [] (C 1 [.ref 102, .int x1, .int (nI 11)] σ) := by
  refine (e_aload_n (code := kX7_refill) (pc := 13) rfl rfl).trans ?_
  refine (e_getR (code := kX7_refill) (pc := 14) (c := 9) rfl (sk_100 (σ := σ) h) (sr_100_0 (σ := σ) h)).trans ?_
  refine (e_getR (code := kX7_refill) (pc := 17) (c := 3) rfl (sk_101 (σ := σ) h) (sr_101_0 (σ := σ) h)).trans ?_
  refine (e_iload_n (code := kX7_refill) (pc := 20) rfl rfl).trans ?_
  refine (e_bipush (code := kX7_refill) (pc := 21) rfl).trans ?_
  exact (e_callV (σ := σ) (code := kX7_refill) (pc := 23) (len := 3) (k := 1) (n := 3) (c := 16) (as := [.ref 102, .int x1, .int (nI 11)]) (st0 := []) rfl rfl rfl rfl rfl (sk_102 (σ := σ) h) rfl)
theorem b_X7_refill_26 {C : aCall} {σ : aSt} {x1 x2 y0 : Int32} (h : Sh σ) : b_R C kX7_refill [] (26, [some (.ref 100), some (.int x1), some (.int x2), none], [.int y0], σ) = (if (nI 9999) < (y0 + x2) then some (.inl (some (.int ((-2)))), σ) else b_G C kX7_refill [] 47 50 [some (.ref 100), some (.int x1), some (.int x2), some (.int (y0 + x2))] [] (C 55 [.ref 128, .ref 101] σ)) := by
  refine (e_iload_n (code := kX7_refill) (pc := 26) rfl rfl).trans ?_
  refine (e_iadd (code := kX7_refill) (pc := 27) rfl).trans ?_
  refine (e_istore_n (code := kX7_refill) (pc := 28) rfl rfl rfl).trans ?_
  refine (e_iload_n (code := kX7_refill) (pc := 29) rfl rfl).trans ?_
  refine (e_sipush (code := kX7_refill) (pc := 30) rfl).trans ?_
  refine (e_icle (code := kX7_refill) (pc := 33) rfl).trans ?_
  refine b_ite ?_ ?_
  · refine (e_bipush (code := kX7_refill) (pc := 36) rfl).trans ?_
    exact e_ireturn rfl
  · refine (e_aload_n (code := kX7_refill) (pc := 39) rfl rfl).trans ?_
    refine (e_getR (code := kX7_refill) (pc := 40) (c := 9) rfl (sk_100 (σ := σ) h) (sr_100_4 (σ := σ) h)).trans ?_
    refine (e_aload_n (code := kX7_refill) (pc := 43) rfl rfl).trans ?_
    refine (e_getR (code := kX7_refill) (pc := 44) (c := 9) rfl (sk_100 (σ := σ) h) (sr_100_0 (σ := σ) h)).trans ?_
    exact (e_callV (σ := σ) (code := kX7_refill) (pc := 47) (len := 3) (k := 55) (n := 2) (c := 12) (as := [.ref 128, .ref 101]) (st0 := []) rfl rfl rfl rfl rfl (sk_128 (σ := σ) h) rfl)
theorem b_X7_refill_50 {C : aCall} {σ : aSt} {x1 x2 x3 : Int32} (h : Sh σ) : b_R C kX7_refill [] (50, [some (.ref 100), some (.int x1), some (.int x2), some (.int x3)], [], σ) = b_G C kX7_refill [] 61 64 [some (.ref 100), some (.int x1), some (.int x2), some (.int x3)] [] (C 2 [.ref 102, .int x1, .int (nI 11), .int x3] σ) := by
  refine (e_aload_n (code := kX7_refill) (pc := 50) rfl rfl).trans ?_
  refine (e_getR (code := kX7_refill) (pc := 51) (c := 9) rfl (sk_100 (σ := σ) h) (sr_100_0 (σ := σ) h)).trans ?_
  refine (e_getR (code := kX7_refill) (pc := 54) (c := 3) rfl (sk_101 (σ := σ) h) (sr_101_0 (σ := σ) h)).trans ?_
  refine (e_iload_n (code := kX7_refill) (pc := 57) rfl rfl).trans ?_
  refine (e_bipush (code := kX7_refill) (pc := 58) rfl).trans ?_
  refine (e_iload_n (code := kX7_refill) (pc := 60) rfl rfl).trans ?_
  exact (e_callV (σ := σ) (code := kX7_refill) (pc := 61) (len := 3) (k := 2) (n := 4) (c := 16) (as := [.ref 102, .int x1, .int (nI 11), .int x3]) (st0 := []) rfl rfl rfl rfl rfl (sk_102 (σ := σ) h) rfl)
theorem b_X7_refill_64 {C : aCall} {σ : aSt} {x1 x2 x3 : Int32} : b_R C kX7_refill [] (64, [some (.ref 100), some (.int x1), some (.int x2), some (.int x3)], [], σ) = some (.inl (some (.int x3)), σ) := by
  refine (e_iload_n (code := kX7_refill) (pc := 64) rfl rfl).trans ?_
  exact e_ireturn rfl
theorem n_X7_setMost {P : aCall} {d : Nat} {σ : aSt} {x1 : Int32} (hd : 1 ≤ d) : a_call a_tab P d 127 [.ref 100, .int x1] σ = b_R (a_call a_tab P (d - 1)) kX7_setMost [] (0, [some (.ref 100), some (.int x1), none], [], σ) := e_call hd at_X7_setMost rfl
theorem b_X7_setMost_0 {C : aCall} {σ : aSt} {x1 : Int32} : b_R C kX7_setMost [] (0, [some (.ref 100), some (.int x1), none], [], σ) = b_G C kX7_setMost [] 4 7 [some (.ref 100), some (.int x1), none] [] (C 137 [.int x1, .int (nI 1), .int (nI 6)] σ) := by
  refine (e_iload_n (code := kX7_setMost) (pc := 0) rfl rfl).trans ?_
  refine (e_iconst (code := kX7_setMost) (pc := 1) rfl).trans ?_
  refine (e_bipush (code := kX7_setMost) (pc := 2) rfl).trans ?_
  exact (e_callS (code := kX7_setMost) (pc := 4) (len := 3) (k := 137) (n := 3) (as := [.int x1, .int (nI 1), .int (nI 6)]) (st0 := []) rfl rfl rfl rfl)
theorem b_X7_setMost_7 {C : aCall} {σ : aSt} {x1 : Int32} (h : Sh σ) : b_R C kX7_setMost [] (7, [some (.ref 100), some (.int x1), none], [], σ) = b_G C kX7_setMost [] 15 18 [some (.ref 100), some (.int x1), none] [] (C 55 [.ref 128, .ref 101] σ) := by
  refine (e_aload_n (code := kX7_setMost) (pc := 7) rfl rfl).trans ?_
  refine (e_getR (code := kX7_setMost) (pc := 8) (c := 9) rfl (sk_100 (σ := σ) h) (sr_100_4 (σ := σ) h)).trans ?_
  refine (e_aload_n (code := kX7_setMost) (pc := 11) rfl rfl).trans ?_
  refine (e_getR (code := kX7_setMost) (pc := 12) (c := 9) rfl (sk_100 (σ := σ) h) (sr_100_0 (σ := σ) h)).trans ?_
  exact (e_callV (σ := σ) (code := kX7_setMost) (pc := 15) (len := 3) (k := 55) (n := 2) (c := 12) (as := [.ref 128, .ref 101]) (st0 := []) rfl rfl rfl rfl rfl (sk_128 (σ := σ) h) rfl)
theorem b_X7_setMost_18 {C : aCall} {σ : aSt} {x1 : Int32} (h : Sh σ) : b_R C kX7_setMost [] (18, [some (.ref 100), some (.int x1), none], [], σ) = some (.inl (some (.int (a_I σ 101 4))), (a_setI σ 101 4 x1)) := by
  refine (e_aload_n (code := kX7_setMost) (pc := 18) rfl rfl).trans ?_
  refine (e_getR (code := kX7_setMost) (pc := 19) (c := 9) rfl (sk_100 (σ := σ) h) (sr_100_0 (σ := σ) h)).trans ?_
  refine (e_getI (code := kX7_setMost) (pc := 22) (c := 3) rfl (sk_101 (σ := σ) h) rfl).trans ?_
  refine (e_istore_n (code := kX7_setMost) (pc := 25) rfl rfl rfl).trans ?_
  refine (e_aload_n (code := kX7_setMost) (pc := 26) rfl rfl).trans ?_
  refine (e_getR (code := kX7_setMost) (pc := 27) (c := 9) rfl (sk_100 (σ := σ) h) (sr_100_0 (σ := σ) h)).trans ?_
  refine (e_iload_n (code := kX7_setMost) (pc := 30) rfl rfl).trans ?_
  refine (e_putI (code := kX7_setMost) (pc := 31) (c := 3) rfl (sk_101 (σ := σ) h) (h_100 rfl)).trans ?_
  refine (e_iload_n (code := kX7_setMost) (pc := 34) (σ := (a_setI σ 101 4 x1)) rfl rfl).trans ?_
  exact e_ireturn rfl
theorem n_X7_setTolerance {P : aCall} {d : Nat} {σ : aSt} {x1 : Int32} (hd : 1 ≤ d) : a_call a_tab P d 128 [.ref 100, .int x1] σ = b_R (a_call a_tab P (d - 1)) kX7_setTolerance [] (0, [some (.ref 100), some (.int x1), none], [], σ) := e_call hd at_X7_setTolerance rfl
theorem b_X7_setTolerance_0 {C : aCall} {σ : aSt} {x1 : Int32} : b_R C kX7_setTolerance [] (0, [some (.ref 100), some (.int x1), none], [], σ) = b_G C kX7_setTolerance [] 5 8 [some (.ref 100), some (.int x1), none] [] (C 137 [.int x1, .int (nI 0), .int (nI 99999)] σ) := by
  refine (e_iload_n (code := kX7_setTolerance) (pc := 0) rfl rfl).trans ?_
  refine (e_iconst (code := kX7_setTolerance) (pc := 1) rfl).trans ?_
  refine (e_ldc_wI (code := kX7_setTolerance) (pc := 2) rfl).trans ?_
  exact (e_callS (code := kX7_setTolerance) (pc := 5) (len := 3) (k := 137) (n := 3) (as := [.int x1, .int (nI 0), .int (nI 99999)]) (st0 := []) rfl rfl rfl rfl)
theorem b_X7_setTolerance_8 {C : aCall} {σ : aSt} {x1 : Int32} (h : Sh σ) : b_R C kX7_setTolerance [] (8, [some (.ref 100), some (.int x1), none], [], σ) = b_G C kX7_setTolerance [] 16 19 [some (.ref 100), some (.int x1), none] [] (C 55 [.ref 128, .ref 101] σ) := by
  refine (e_aload_n (code := kX7_setTolerance) (pc := 8) rfl rfl).trans ?_
  refine (e_getR (code := kX7_setTolerance) (pc := 9) (c := 9) rfl (sk_100 (σ := σ) h) (sr_100_4 (σ := σ) h)).trans ?_
  refine (e_aload_n (code := kX7_setTolerance) (pc := 12) rfl rfl).trans ?_
  refine (e_getR (code := kX7_setTolerance) (pc := 13) (c := 9) rfl (sk_100 (σ := σ) h) (sr_100_0 (σ := σ) h)).trans ?_
  exact (e_callV (σ := σ) (code := kX7_setTolerance) (pc := 16) (len := 3) (k := 55) (n := 2) (c := 12) (as := [.ref 128, .ref 101]) (st0 := []) rfl rfl rfl rfl rfl (sk_128 (σ := σ) h) rfl)
theorem b_X7_setTolerance_19 {C : aCall} {σ : aSt} {x1 : Int32} (h : Sh σ) : b_R C kX7_setTolerance [] (19, [some (.ref 100), some (.int x1), none], [], σ) = some (.inl (some (.int (a_I σ 101 5))), (a_setI σ 101 5 x1)) := by
  refine (e_aload_n (code := kX7_setTolerance) (pc := 19) rfl rfl).trans ?_
  refine (e_getR (code := kX7_setTolerance) (pc := 20) (c := 9) rfl (sk_100 (σ := σ) h) (sr_100_0 (σ := σ) h)).trans ?_
  refine (e_getI (code := kX7_setTolerance) (pc := 23) (c := 3) rfl (sk_101 (σ := σ) h) rfl).trans ?_
  refine (e_istore_n (code := kX7_setTolerance) (pc := 26) rfl rfl rfl).trans ?_
  refine (e_aload_n (code := kX7_setTolerance) (pc := 27) rfl rfl).trans ?_
  refine (e_getR (code := kX7_setTolerance) (pc := 28) (c := 9) rfl (sk_100 (σ := σ) h) (sr_100_0 (σ := σ) h)).trans ?_
  refine (e_iload_n (code := kX7_setTolerance) (pc := 31) rfl rfl).trans ?_
  refine (e_putI (code := kX7_setTolerance) (pc := 32) (c := 3) rfl (sk_101 (σ := σ) h) (h_100 rfl)).trans ?_
  refine (e_iload_n (code := kX7_setTolerance) (pc := 35) (σ := (a_setI σ 101 5 x1)) rfl rfl).trans ?_
  exact e_ireturn rfl
theorem n_X7_undoCount {P : aCall} {d : Nat} {σ : aSt} (hd : 1 ≤ d) : a_call a_tab P d 129 [.ref 100] σ = b_R (a_call a_tab P (d - 1)) kX7_undoCount [] (0, [some (.ref 100)], [], σ) := e_call hd at_X7_undoCount rfl
theorem b_X7_undoCount_0 {C : aCall} {σ : aSt} (h : Sh σ) : b_R C kX7_undoCount [] (0, [some (.ref 100)], [], σ) = some (.inl (some (.int (a_I σ 128 2))), σ) := by
  refine (e_aload_n (code := kX7_undoCount) (pc := 0) rfl rfl).trans ?_
  refine (e_getR (code := kX7_undoCount) (pc := 1) (c := 9) rfl (sk_100 (σ := σ) h) (sr_100_4 (σ := σ) h)).trans ?_
  refine (e_getI (code := kX7_undoCount) (pc := 4) (c := 2) rfl (sk_128 (σ := σ) h) rfl).trans ?_
  exact e_ireturn rfl
theorem n_X7_undo {P : aCall} {d : Nat} {σ : aSt} (hd : 1 ≤ d) : a_call a_tab P d 130 [.ref 100] σ = b_R (a_call a_tab P (d - 1)) kX7_undo [] (0, [some (.ref 100)], [], σ) := e_call hd at_X7_undo rfl
theorem b_X7_undo_0 {C : aCall} {σ : aSt} (h : Sh σ) : b_R C kX7_undo [] (0, [some (.ref 100)], [], σ) = b_G C kX7_undo [] 8 11 [some (.ref 100)] [] (C 56 [.ref 128, .ref 101] σ) := by
  refine (e_aload_n (code := kX7_undo) (pc := 0) rfl rfl).trans ?_
  refine (e_getR (code := kX7_undo) (pc := 1) (c := 9) rfl (sk_100 (σ := σ) h) (sr_100_4 (σ := σ) h)).trans ?_
  refine (e_aload_n (code := kX7_undo) (pc := 4) rfl rfl).trans ?_
  refine (e_getR (code := kX7_undo) (pc := 5) (c := 9) rfl (sk_100 (σ := σ) h) (sr_100_0 (σ := σ) h)).trans ?_
  exact (e_callV (σ := σ) (code := kX7_undo) (pc := 8) (len := 3) (k := 56) (n := 2) (c := 12) (as := [.ref 128, .ref 101]) (st0 := []) rfl rfl rfl rfl rfl (sk_128 (σ := σ) h) rfl)
theorem b_X7_undo_11 {C : aCall} {σ : aSt} {y0 : Int32} (h : Sh σ) : b_R C kX7_undo [] (11, [some (.ref 100)], [.int y0], σ) = (if y0 = 0 then b_R C kX7_undo [] (25, [some (.ref 100)], [.int ((-1))], σ) else b_R C kX7_undo [] (25, [some (.ref 100)], [.int (a_I σ 128 2)], σ)) := by
  refine (e_ifeq (code := kX7_undo) (pc := 11) rfl).trans ?_
  refine b_ite ?_ ?_
  · refine (e_iconst (code := kX7_undo) (pc := 24) rfl).trans ?_
    rfl
  · refine (e_aload_n (code := kX7_undo) (pc := 14) rfl rfl).trans ?_
    refine (e_getR (code := kX7_undo) (pc := 15) (c := 9) rfl (sk_100 (σ := σ) h) (sr_100_4 (σ := σ) h)).trans ?_
    refine (e_getI (code := kX7_undo) (pc := 18) (c := 2) rfl (sk_128 (σ := σ) h) rfl).trans ?_
    refine (e_goto (code := kX7_undo) (pc := 21) rfl).trans ?_
    rfl
theorem b_X7_undo_25 {C : aCall} {σ : aSt} {y0 : Int32} : b_R C kX7_undo [] (25, [some (.ref 100)], [.int y0], σ) = some (.inl (some (.int y0)), σ) := by
  exact e_ireturn rfl
theorem n_X7_saveSnapshot {P : aCall} {d : Nat} {σ : aSt} (hd : 1 ≤ d) : a_call a_tab P d 131 [.ref 100] σ = b_R (a_call a_tab P (d - 1)) kX7_saveSnapshot [] (0, [some (.ref 100)], [], σ) := e_call hd at_X7_saveSnapshot rfl
theorem b_X7_saveSnapshot_0 {C : aCall} {σ : aSt} (h : Sh σ) : b_R C kX7_saveSnapshot [] (0, [some (.ref 100)], [], σ) = b_G C kX7_saveSnapshot [] 8 11 [some (.ref 100)] [] (C 35 [.ref 119, .ref 101] σ) := by
  refine (e_aload_n (code := kX7_saveSnapshot) (pc := 0) rfl rfl).trans ?_
  refine (e_getR (code := kX7_saveSnapshot) (pc := 1) (c := 9) rfl (sk_100 (σ := σ) h) (sr_100_2 (σ := σ) h)).trans ?_
  refine (e_aload_n (code := kX7_saveSnapshot) (pc := 4) rfl rfl).trans ?_
  refine (e_getR (code := kX7_saveSnapshot) (pc := 5) (c := 9) rfl (sk_100 (σ := σ) h) (sr_100_0 (σ := σ) h)).trans ?_
  exact (e_callV (σ := σ) (code := kX7_saveSnapshot) (pc := 8) (len := 3) (k := 35) (n := 2) (c := 13) (as := [.ref 119, .ref 101]) (st0 := []) rfl rfl rfl rfl rfl (sk_119 (σ := σ) h) rfl)
theorem b_X7_saveSnapshot_11 {C : aCall} {σ : aSt} (h : Sh σ) : b_R C kX7_saveSnapshot [] (11, [some (.ref 100)], [], σ) = some (.inl none, (a_setI σ 100 3 (nI 1))) := by
  refine (e_aload_n (code := kX7_saveSnapshot) (pc := 11) rfl rfl).trans ?_
  refine (e_iconst (code := kX7_saveSnapshot) (pc := 12) rfl).trans ?_
  refine (e_putZ (code := kX7_saveSnapshot) (pc := 13) (c := 9) rfl (sk_100 (σ := σ) h) (h_100 rfl) (.inr rfl)).trans ?_
  exact e_return_ rfl
theorem n_X7_restoreSnapshot {P : aCall} {d : Nat} {σ : aSt} (hd : 1 ≤ d) : a_call a_tab P d 132 [.ref 100] σ = b_R (a_call a_tab P (d - 1)) kX7_restoreSnapshot [] (0, [some (.ref 100)], [], σ) := e_call hd at_X7_restoreSnapshot rfl
theorem b_X7_restoreSnapshot_0 {C : aCall} {σ : aSt} (h : Sh σ) : b_R C kX7_restoreSnapshot [] (0, [some (.ref 100)], [], σ) = (if (a_I σ 100 3) = 0 then some (.inl (some (.int (nI 0))), σ) else b_G C kX7_restoreSnapshot [] 17 20 [some (.ref 100)] [] (C 35 [.ref 101, .ref 119] σ)) := by
  refine (e_aload_n (code := kX7_restoreSnapshot) (pc := 0) rfl rfl).trans ?_
  refine (e_getI (code := kX7_restoreSnapshot) (pc := 1) (c := 9) rfl (sk_100 (σ := σ) h) rfl).trans ?_
  refine (e_ifne (code := kX7_restoreSnapshot) (pc := 4) rfl).trans ?_
  refine b_ite ?_ ?_
  · refine (e_iconst (code := kX7_restoreSnapshot) (pc := 7) rfl).trans ?_
    exact (e_zreturn rfl).trans (b_gd_t (by decide))
  · refine (e_aload_n (code := kX7_restoreSnapshot) (pc := 9) rfl rfl).trans ?_
    refine (e_getR (code := kX7_restoreSnapshot) (pc := 10) (c := 9) rfl (sk_100 (σ := σ) h) (sr_100_0 (σ := σ) h)).trans ?_
    refine (e_aload_n (code := kX7_restoreSnapshot) (pc := 13) rfl rfl).trans ?_
    refine (e_getR (code := kX7_restoreSnapshot) (pc := 14) (c := 9) rfl (sk_100 (σ := σ) h) (sr_100_2 (σ := σ) h)).trans ?_
    exact (e_callV (σ := σ) (code := kX7_restoreSnapshot) (pc := 17) (len := 3) (k := 35) (n := 2) (c := 13) (as := [.ref 101, .ref 119]) (st0 := []) rfl rfl rfl rfl rfl (sk_101 (σ := σ) h) rfl)
theorem b_X7_restoreSnapshot_20 {C : aCall} {σ : aSt} (h : Sh σ) : b_R C kX7_restoreSnapshot [] (20, [some (.ref 100)], [], σ) = b_G C kX7_restoreSnapshot [] 24 27 [some (.ref 100)] [] (C 54 [.ref 128] σ) := by
  refine (e_aload_n (code := kX7_restoreSnapshot) (pc := 20) rfl rfl).trans ?_
  refine (e_getR (code := kX7_restoreSnapshot) (pc := 21) (c := 9) rfl (sk_100 (σ := σ) h) (sr_100_4 (σ := σ) h)).trans ?_
  exact (e_callV (σ := σ) (code := kX7_restoreSnapshot) (pc := 24) (len := 3) (k := 54) (n := 1) (c := 12) (as := [.ref 128]) (st0 := []) rfl rfl rfl rfl rfl (sk_128 (σ := σ) h) rfl)
theorem b_X7_restoreSnapshot_27 {C : aCall} {σ : aSt} : b_R C kX7_restoreSnapshot [] (27, [some (.ref 100)], [], σ) = some (.inl (some (.int (nI 1))), σ) := by
  refine (e_iconst (code := kX7_restoreSnapshot) (pc := 27) rfl).trans ?_
  exact (e_zreturn rfl).trans (b_gd_t (by decide))
theorem n_X7_requireTube {P : aCall} {d : Nat} {σ : aSt} {x1 : Int32} (hd : 1 ≤ d) : a_call a_tab P d 133 [.ref 100, .int x1] σ = b_R (a_call a_tab P (d - 1)) kX7_requireTube [] (0, [some (.ref 100), some (.int x1)], [], σ) := e_call hd at_X7_requireTube rfl
theorem b_X7_requireTube_0 {C : aCall} {σ : aSt} {x1 : Int32} (h : Sh σ) : b_R C kX7_requireTube [] (0, [some (.ref 100), some (.int x1)], [], σ) = (if x1 < 0 then b_R C kX7_requireTube [] (18, [some (.ref 100), some (.int x1)], [], σ) else (if x1 < (a_I σ 102 2) then some (.inl none, σ) else b_R C kX7_requireTube [] (18, [some (.ref 100), some (.int x1)], [], σ))) := by
  refine (e_iload_n (code := kX7_requireTube) (pc := 0) rfl rfl).trans ?_
  refine (e_iflt (code := kX7_requireTube) (pc := 1) rfl).trans ?_
  refine b_ite ?_ ?_
  · rfl
  · refine (e_iload_n (code := kX7_requireTube) (pc := 4) rfl rfl).trans ?_
    refine (e_aload_n (code := kX7_requireTube) (pc := 5) rfl rfl).trans ?_
    refine (e_getR (code := kX7_requireTube) (pc := 6) (c := 9) rfl (sk_100 (σ := σ) h) (sr_100_0 (σ := σ) h)).trans ?_
    refine (e_getR (code := kX7_requireTube) (pc := 9) (c := 3) rfl (sk_101 (σ := σ) h) (sr_101_0 (σ := σ) h)).trans ?_
    refine (e_getI (code := kX7_requireTube) (pc := 12) (c := 6) rfl (sk_102 (σ := σ) h) rfl).trans ?_
    refine (e_iclt (code := kX7_requireTube) (pc := 15) rfl).trans ?_
    refine b_ite ?_ ?_
    · exact e_return_ rfl
    · rfl
theorem b_X7_requireTube_18 {C : aCall} {σ : aSt} {x1 : Int32} : b_R C kX7_requireTube [] (18, [some (.ref 100), some (.int x1)], [], σ) = some (.inr 0, a_made σ) := by
  exact e_throw rfl rfl
theorem n_X7_requireMix {P : aCall} {d : Nat} {σ : aSt} {x1 : Int32} (hd : 1 ≤ d) : a_call a_tab P d 134 [.ref 100, .int x1] σ = b_R (a_call a_tab P (d - 1)) kX7_requireMix [] (0, [some (.ref 100), some (.int x1)], [], σ) := e_call hd at_X7_requireMix rfl
theorem b_X7_requireMix_0 {C : aCall} {σ : aSt} {x1 : Int32} (h : Sh σ) : b_R C kX7_requireMix [] (0, [some (.ref 100), some (.int x1)], [], σ) = (if x1 < 0 then b_R C kX7_requireMix [] (18, [some (.ref 100), some (.int x1)], [], σ) else (if x1 < (a_I σ 104 2) then some (.inl none, σ) else b_R C kX7_requireMix [] (18, [some (.ref 100), some (.int x1)], [], σ))) := by
  refine (e_iload_n (code := kX7_requireMix) (pc := 0) rfl rfl).trans ?_
  refine (e_iflt (code := kX7_requireMix) (pc := 1) rfl).trans ?_
  refine b_ite ?_ ?_
  · rfl
  · refine (e_iload_n (code := kX7_requireMix) (pc := 4) rfl rfl).trans ?_
    refine (e_aload_n (code := kX7_requireMix) (pc := 5) rfl rfl).trans ?_
    refine (e_getR (code := kX7_requireMix) (pc := 6) (c := 9) rfl (sk_100 (σ := σ) h) (sr_100_0 (σ := σ) h)).trans ?_
    refine (e_getR (code := kX7_requireMix) (pc := 9) (c := 3) rfl (sk_101 (σ := σ) h) (sr_101_1 (σ := σ) h)).trans ?_
    refine (e_getI (code := kX7_requireMix) (pc := 12) (c := 6) rfl (sk_104 (σ := σ) h) rfl).trans ?_
    refine (e_iclt (code := kX7_requireMix) (pc := 15) rfl).trans ?_
    refine b_ite ?_ ?_
    · exact e_return_ rfl
    · rfl
theorem b_X7_requireMix_18 {C : aCall} {σ : aSt} {x1 : Int32} : b_R C kX7_requireMix [] (18, [some (.ref 100), some (.int x1)], [], σ) = some (.inr 0, a_made σ) := by
  exact e_throw rfl rfl
theorem n_X7_requireBrush {P : aCall} {d : Nat} {σ : aSt} {x1 : Int32} (hd : 1 ≤ d) : a_call a_tab P d 135 [.ref 100, .int x1] σ = b_R (a_call a_tab P (d - 1)) kX7_requireBrush [] (0, [some (.ref 100), some (.int x1)], [], σ) := e_call hd at_X7_requireBrush rfl
theorem b_X7_requireBrush_0 {C : aCall} {σ : aSt} {x1 : Int32} (h : Sh σ) : b_R C kX7_requireBrush [] (0, [some (.ref 100), some (.int x1)], [], σ) = (if x1 < 0 then b_R C kX7_requireBrush [] (18, [some (.ref 100), some (.int x1)], [], σ) else (if x1 < (a_I σ 106 2) then some (.inl none, σ) else b_R C kX7_requireBrush [] (18, [some (.ref 100), some (.int x1)], [], σ))) := by
  refine (e_iload_n (code := kX7_requireBrush) (pc := 0) rfl rfl).trans ?_
  refine (e_iflt (code := kX7_requireBrush) (pc := 1) rfl).trans ?_
  refine b_ite ?_ ?_
  · rfl
  · refine (e_iload_n (code := kX7_requireBrush) (pc := 4) rfl rfl).trans ?_
    refine (e_aload_n (code := kX7_requireBrush) (pc := 5) rfl rfl).trans ?_
    refine (e_getR (code := kX7_requireBrush) (pc := 6) (c := 9) rfl (sk_100 (σ := σ) h) (sr_100_0 (σ := σ) h)).trans ?_
    refine (e_getR (code := kX7_requireBrush) (pc := 9) (c := 3) rfl (sk_101 (σ := σ) h) (sr_101_2 (σ := σ) h)).trans ?_
    refine (e_getI (code := kX7_requireBrush) (pc := 12) (c := 6) rfl (sk_106 (σ := σ) h) rfl).trans ?_
    refine (e_iclt (code := kX7_requireBrush) (pc := 15) rfl).trans ?_
    refine b_ite ?_ ?_
    · exact e_return_ rfl
    · rfl
theorem b_X7_requireBrush_18 {C : aCall} {σ : aSt} {x1 : Int32} : b_R C kX7_requireBrush [] (18, [some (.ref 100), some (.int x1)], [], σ) = some (.inr 0, a_made σ) := by
  exact e_throw rfl rfl
theorem n_X7_requireWhat {P : aCall} {d : Nat} {σ : aSt} {x0 x1 : Int32} (hd : 1 ≤ d) : a_call a_tab P d 136 [.int x0, .int x1] σ = b_R (a_call a_tab P (d - 1)) kX7_requireWhat [] (0, [some (.int x0), some (.int x1)], [], σ) := e_call hd at_X7_requireWhat rfl
theorem b_X7_requireWhat_0 {C : aCall} {σ : aSt} {x0 x1 : Int32} : b_R C kX7_requireWhat [] (0, [some (.int x0), some (.int x1)], [], σ) = (if x0 < 0 then b_R C kX7_requireWhat [] (9, [some (.int x0), some (.int x1)], [], σ) else (if x1 < x0 then b_R C kX7_requireWhat [] (9, [some (.int x0), some (.int x1)], [], σ) else some (.inl none, σ))) := by
  refine (e_iload_n (code := kX7_requireWhat) (pc := 0) rfl rfl).trans ?_
  refine (e_iflt (code := kX7_requireWhat) (pc := 1) rfl).trans ?_
  refine b_ite ?_ ?_
  · rfl
  · refine (e_iload_n (code := kX7_requireWhat) (pc := 4) rfl rfl).trans ?_
    refine (e_iload_n (code := kX7_requireWhat) (pc := 5) rfl rfl).trans ?_
    refine (e_icle (code := kX7_requireWhat) (pc := 6) rfl).trans ?_
    refine b_ite ?_ ?_
    · rfl
    · exact e_return_ rfl
theorem b_X7_requireWhat_9 {C : aCall} {σ : aSt} {x0 x1 : Int32} : b_R C kX7_requireWhat [] (9, [some (.int x0), some (.int x1)], [], σ) = some (.inr 0, a_made σ) := by
  exact e_throw rfl rfl
theorem n_X7_requireArgument {P : aCall} {d : Nat} {σ : aSt} {x0 x1 x2 : Int32} (hd : 1 ≤ d) : a_call a_tab P d 137 [.int x0, .int x1, .int x2] σ = b_R (a_call a_tab P (d - 1)) kX7_requireArgument [] (0, [some (.int x0), some (.int x1), some (.int x2)], [], σ) := e_call hd at_X7_requireArgument rfl
theorem b_X7_requireArgument_0 {C : aCall} {σ : aSt} {x0 x1 x2 : Int32} : b_R C kX7_requireArgument [] (0, [some (.int x0), some (.int x1), some (.int x2)], [], σ) = (if x0 < x1 then b_R C kX7_requireArgument [] (10, [some (.int x0), some (.int x1), some (.int x2)], [], σ) else (if x2 < x0 then b_R C kX7_requireArgument [] (10, [some (.int x0), some (.int x1), some (.int x2)], [], σ) else some (.inl none, σ))) := by
  refine (e_iload_n (code := kX7_requireArgument) (pc := 0) rfl rfl).trans ?_
  refine (e_iload_n (code := kX7_requireArgument) (pc := 1) rfl rfl).trans ?_
  refine (e_iclt (code := kX7_requireArgument) (pc := 2) rfl).trans ?_
  refine b_ite ?_ ?_
  · rfl
  · refine (e_iload_n (code := kX7_requireArgument) (pc := 5) rfl rfl).trans ?_
    refine (e_iload_n (code := kX7_requireArgument) (pc := 6) rfl rfl).trans ?_
    refine (e_icle (code := kX7_requireArgument) (pc := 7) rfl).trans ?_
    refine b_ite ?_ ?_
    · rfl
    · exact e_return_ rfl
theorem b_X7_requireArgument_10 {C : aCall} {σ : aSt} {x0 x1 x2 : Int32} : b_R C kX7_requireArgument [] (10, [some (.int x0), some (.int x1), some (.int x2)], [], σ) = some (.inr 1, a_made σ) := by
  exact e_throw rfl rfl
theorem n_X7_requireColour {P : aCall} {d : Nat} {σ : aSt} {x0 : Int32} (hd : 1 ≤ d) : a_call a_tab P d 138 [.int x0] σ = b_R (a_call a_tab P (d - 1)) kX7_requireColour [] (0, [some (.int x0)], [], σ) := e_call hd at_X7_requireColour rfl
theorem b_X7_requireColour_0 {C : aCall} {σ : aSt} {x0 : Int32} : b_R C kX7_requireColour [] (0, [some (.int x0)], [], σ) = b_G C kX7_requireColour [] 5 8 [some (.int x0)] [] (C 137 [.int x0, .int (nI 0), .int (nI 16777215)] σ) := by
  refine (e_iload_n (code := kX7_requireColour) (pc := 0) rfl rfl).trans ?_
  refine (e_iconst (code := kX7_requireColour) (pc := 1) rfl).trans ?_
  refine (e_ldc_wI (code := kX7_requireColour) (pc := 2) rfl).trans ?_
  exact (e_callS (code := kX7_requireColour) (pc := 5) (len := 3) (k := 137) (n := 3) (as := [.int x0, .int (nI 0), .int (nI 16777215)]) (st0 := []) rfl rfl rfl rfl)
theorem b_X7_requireColour_8 {C : aCall} {σ : aSt} {x0 : Int32} : b_R C kX7_requireColour [] (8, [some (.int x0)], [], σ) = some (.inl none, σ) := by
  exact e_return_ rfl
theorem n_X7_requireLength {P : aCall} {d : Nat} {σ : aSt} {x1 x2 : Int32} (hd : 1 ≤ d) : a_call a_tab P d 139 [.ref 100, .int x1, .int x2] σ = b_R (a_call a_tab P (d - 1)) kX7_requireLength [] (0, [some (.ref 100), some (.int x1), some (.int x2)], [], σ) := e_call hd at_X7_requireLength rfl
theorem b_X7_requireLength_0 {C : aCall} {σ : aSt} {x1 x2 : Int32} (h : Sh σ) : b_R C kX7_requireLength [] (0, [some (.ref 100), some (.int x1), some (.int x2)], [], σ) = b_G C kX7_requireLength [] 10 13 [some (.ref 100), some (.int x1), some (.int x2)] [.int (nI 0), .int x1] (C 1000 [.int x2, .int (a_I σ 220 1)] σ) := by
  refine (e_iload_n (code := kX7_requireLength) (pc := 0) rfl rfl).trans ?_
  refine (e_iconst (code := kX7_requireLength) (pc := 1) rfl).trans ?_
  refine (e_iload_n (code := kX7_requireLength) (pc := 2) rfl rfl).trans ?_
  refine (e_aload_n (code := kX7_requireLength) (pc := 3) rfl rfl).trans ?_
  refine (e_getR (code := kX7_requireLength) (pc := 4) (c := 9) rfl (sk_100 (σ := σ) h) (sr_100_5 (σ := σ) h)).trans ?_
  refine (e_getI (code := kX7_requireLength) (pc := 7) (c := 8) rfl (sk_220 (σ := σ) h) rfl).trans ?_
  exact (e_callS (code := kX7_requireLength) (pc := 10) (len := 3) (k := 1000) (n := 2) (as := [.int x2, .int (a_I σ 220 1)]) (st0 := [.int (nI 0), .int x1]) rfl rfl rfl rfl)
theorem b_X7_requireLength_13 {C : aCall} {σ : aSt} {x1 x2 y0 y1 y2 : Int32} : b_R C kX7_requireLength [] (13, [some (.ref 100), some (.int x1), some (.int x2)], [.int y0, .int y1, .int y2], σ) = b_G C kX7_requireLength [] 13 16 [some (.ref 100), some (.int x1), some (.int x2)] [] (C 137 [.int y2, .int y1, .int y0] σ) := by
  exact (e_callS (code := kX7_requireLength) (pc := 13) (len := 3) (k := 137) (n := 3) (as := [.int y2, .int y1, .int y0]) (st0 := []) rfl rfl rfl rfl)
theorem b_X7_requireLength_16 {C : aCall} {σ : aSt} {x1 x2 : Int32} : b_R C kX7_requireLength [] (16, [some (.ref 100), some (.int x1), some (.int x2)], [], σ) = some (.inl none, σ) := by
  exact e_return_ rfl
theorem n_X7_channel {P : aCall} {d : Nat} {σ : aSt} {x0 x1 : Int32} (hd : 1 ≤ d) : a_call a_tab P d 140 [.int x0, .int x1] σ = b_R (a_call a_tab P (d - 1)) kX7_channel [] (0, [some (.int x0), some (.int x1)], [], σ) := e_call hd at_X7_channel rfl
theorem b_X7_channel_0 {C : aCall} {σ : aSt} {x0 x1 : Int32} : b_R C kX7_channel [] (0, [some (.int x0), some (.int x1)], [], σ) = some (.inl (some (.int ((x0 >>> (((nI 16) - ((nI 8) * x1)) &&& 31)) &&& (nI 255)))), σ) := by
  refine (e_iload_n (code := kX7_channel) (pc := 0) rfl rfl).trans ?_
  refine (e_bipush (code := kX7_channel) (pc := 1) rfl).trans ?_
  refine (e_bipush (code := kX7_channel) (pc := 3) rfl).trans ?_
  refine (e_iload_n (code := kX7_channel) (pc := 5) rfl rfl).trans ?_
  refine (e_imul (code := kX7_channel) (pc := 6) rfl).trans ?_
  refine (e_isub (code := kX7_channel) (pc := 7) rfl).trans ?_
  refine (e_ishr (code := kX7_channel) (pc := 8) rfl).trans ?_
  refine (e_sipush (code := kX7_channel) (pc := 9) rfl).trans ?_
  refine (e_iand (code := kX7_channel) (pc := 12) rfl).trans ?_
  exact e_ireturn rfl
theorem n_X7_farBetween {P : aCall} {d : Nat} {σ : aSt} {x0 x1 : Int32} (hd : 1 ≤ d) : a_call a_tab P d 141 [.int x0, .int x1] σ = b_R (a_call a_tab P (d - 1)) kX7_farBetween [] (0, [some (.int x0), some (.int x1), none, none, none], [], σ) := e_call hd at_X7_farBetween rfl
theorem b_X7_farBetween_0 {C : aCall} {σ : aSt} {x0 x1 : Int32} : b_R C kX7_farBetween [] (0, [some (.int x0), some (.int x1), none, none, none], [], σ) = b_G C kX7_farBetween [] 2 5 [some (.int x0), some (.int x1), none, none, none] [] (C 140 [.int x0, .int (nI 0)] σ) := by
  refine (e_iload_n (code := kX7_farBetween) (pc := 0) rfl rfl).trans ?_
  refine (e_iconst (code := kX7_farBetween) (pc := 1) rfl).trans ?_
  exact (e_callS (code := kX7_farBetween) (pc := 2) (len := 3) (k := 140) (n := 2) (as := [.int x0, .int (nI 0)]) (st0 := []) rfl rfl rfl rfl)
theorem b_X7_farBetween_5 {C : aCall} {σ : aSt} {x0 x1 y0 : Int32} : b_R C kX7_farBetween [] (5, [some (.int x0), some (.int x1), none, none, none], [.int y0], σ) = b_G C kX7_farBetween [] 7 10 [some (.int x0), some (.int x1), none, none, none] [.int y0] (C 140 [.int x1, .int (nI 0)] σ) := by
  refine (e_iload_n (code := kX7_farBetween) (pc := 5) rfl rfl).trans ?_
  refine (e_iconst (code := kX7_farBetween) (pc := 6) rfl).trans ?_
  exact (e_callS (code := kX7_farBetween) (pc := 7) (len := 3) (k := 140) (n := 2) (as := [.int x1, .int (nI 0)]) (st0 := [.int y0]) rfl rfl rfl rfl)
theorem b_X7_farBetween_10 {C : aCall} {σ : aSt} {x0 x1 y0 y1 : Int32} : b_R C kX7_farBetween [] (10, [some (.int x0), some (.int x1), none, none, none], [.int y0, .int y1], σ) = b_G C kX7_farBetween [] 14 17 [some (.int x0), some (.int x1), some (.int (y1 - y0)), none, none] [] (C 140 [.int x0, .int (nI 1)] σ) := by
  refine (e_isub (code := kX7_farBetween) (pc := 10) rfl).trans ?_
  refine (e_istore_n (code := kX7_farBetween) (pc := 11) rfl rfl rfl).trans ?_
  refine (e_iload_n (code := kX7_farBetween) (pc := 12) rfl rfl).trans ?_
  refine (e_iconst (code := kX7_farBetween) (pc := 13) rfl).trans ?_
  exact (e_callS (code := kX7_farBetween) (pc := 14) (len := 3) (k := 140) (n := 2) (as := [.int x0, .int (nI 1)]) (st0 := []) rfl rfl rfl rfl)
theorem b_X7_farBetween_17 {C : aCall} {σ : aSt} {x0 x1 x2 y0 : Int32} : b_R C kX7_farBetween [] (17, [some (.int x0), some (.int x1), some (.int x2), none, none], [.int y0], σ) = b_G C kX7_farBetween [] 19 22 [some (.int x0), some (.int x1), some (.int x2), none, none] [.int y0] (C 140 [.int x1, .int (nI 1)] σ) := by
  refine (e_iload_n (code := kX7_farBetween) (pc := 17) rfl rfl).trans ?_
  refine (e_iconst (code := kX7_farBetween) (pc := 18) rfl).trans ?_
  exact (e_callS (code := kX7_farBetween) (pc := 19) (len := 3) (k := 140) (n := 2) (as := [.int x1, .int (nI 1)]) (st0 := [.int y0]) rfl rfl rfl rfl)
theorem b_X7_farBetween_22 {C : aCall} {σ : aSt} {x0 x1 x2 y0 y1 : Int32} : b_R C kX7_farBetween [] (22, [some (.int x0), some (.int x1), some (.int x2), none, none], [.int y0, .int y1], σ) = b_G C kX7_farBetween [] 26 29 [some (.int x0), some (.int x1), some (.int x2), some (.int (y1 - y0)), none] [] (C 140 [.int x0, .int (nI 2)] σ) := by
  refine (e_isub (code := kX7_farBetween) (pc := 22) rfl).trans ?_
  refine (e_istore_n (code := kX7_farBetween) (pc := 23) rfl rfl rfl).trans ?_
  refine (e_iload_n (code := kX7_farBetween) (pc := 24) rfl rfl).trans ?_
  refine (e_iconst (code := kX7_farBetween) (pc := 25) rfl).trans ?_
  exact (e_callS (code := kX7_farBetween) (pc := 26) (len := 3) (k := 140) (n := 2) (as := [.int x0, .int (nI 2)]) (st0 := []) rfl rfl rfl rfl)
theorem b_X7_farBetween_29 {C : aCall} {σ : aSt} {x0 x1 x2 x3 y0 : Int32} : b_R C kX7_farBetween [] (29, [some (.int x0), some (.int x1), some (.int x2), some (.int x3), none], [.int y0], σ) = b_G C kX7_farBetween [] 31 34 [some (.int x0), some (.int x1), some (.int x2), some (.int x3), none] [.int y0] (C 140 [.int x1, .int (nI 2)] σ) := by
  refine (e_iload_n (code := kX7_farBetween) (pc := 29) rfl rfl).trans ?_
  refine (e_iconst (code := kX7_farBetween) (pc := 30) rfl).trans ?_
  exact (e_callS (code := kX7_farBetween) (pc := 31) (len := 3) (k := 140) (n := 2) (as := [.int x1, .int (nI 2)]) (st0 := [.int y0]) rfl rfl rfl rfl)
theorem b_X7_farBetween_34 {C : aCall} {σ : aSt} {x0 x1 x2 x3 y0 y1 : Int32} : b_R C kX7_farBetween [] (34, [some (.int x0), some (.int x1), some (.int x2), some (.int x3), none], [.int y0, .int y1], σ) = some (.inl (some (.int (((((nI 2) * x2) * x2) + (((nI 4) * x3) * x3)) + (((nI 3) * (y1 - y0)) * (y1 - y0))))), σ) := by
  refine (e_isub (code := kX7_farBetween) (pc := 34) rfl).trans ?_
  refine (e_istore (code := kX7_farBetween) (pc := 35) rfl rfl rfl).trans ?_
  refine (e_iconst (code := kX7_farBetween) (pc := 37) rfl).trans ?_
  refine (e_iload_n (code := kX7_farBetween) (pc := 38) rfl rfl).trans ?_
  refine (e_imul (code := kX7_farBetween) (pc := 39) rfl).trans ?_
  refine (e_iload_n (code := kX7_farBetween) (pc := 40) rfl rfl).trans ?_
  refine (e_imul (code := kX7_farBetween) (pc := 41) rfl).trans ?_
  refine (e_iconst (code := kX7_farBetween) (pc := 42) rfl).trans ?_
  refine (e_iload_n (code := kX7_farBetween) (pc := 43) rfl rfl).trans ?_
  refine (e_imul (code := kX7_farBetween) (pc := 44) rfl).trans ?_
  refine (e_iload_n (code := kX7_farBetween) (pc := 45) rfl rfl).trans ?_
  refine (e_imul (code := kX7_farBetween) (pc := 46) rfl).trans ?_
  refine (e_iadd (code := kX7_farBetween) (pc := 47) rfl).trans ?_
  refine (e_iconst (code := kX7_farBetween) (pc := 48) rfl).trans ?_
  refine (e_iload (code := kX7_farBetween) (pc := 49) rfl rfl).trans ?_
  refine (e_imul (code := kX7_farBetween) (pc := 51) rfl).trans ?_
  refine (e_iload (code := kX7_farBetween) (pc := 52) rfl rfl).trans ?_
  refine (e_imul (code := kX7_farBetween) (pc := 54) rfl).trans ?_
  refine (e_iadd (code := kX7_farBetween) (pc := 55) rfl).trans ?_
  exact e_ireturn rfl
theorem n_X7_rounded {P : aCall} {d : Nat} {σ : aSt} {x0 x1 : Int32} (hd : 1 ≤ d) : a_call a_tab P d 142 [.int x0, .int x1] σ = b_R (a_call a_tab P (d - 1)) kX7_rounded [] (0, [some (.int x0), some (.int x1)], [], σ) := e_call hd at_X7_rounded rfl
theorem b_X7_rounded_0 {C : aCall} {σ : aSt} {x0 x1 : Int32} : b_R C kX7_rounded [] (0, [some (.int x0), some (.int x1)], [], σ) = (if 0 < x1 then b_gd (((nI 2) * x1) ≠ 0) (b_R C kX7_rounded [] (17, [some (.int x0), some (.int x1)], [.int ((((nI 2) * x0) + x1) / ((nI 2) * x1))], σ)) else b_R C kX7_rounded [] (17, [some (.int x0), some (.int x1)], [.int (nI 0)], σ)) := by
  refine (e_iload_n (code := kX7_rounded) (pc := 0) rfl rfl).trans ?_
  refine (e_ifgt (code := kX7_rounded) (pc := 1) rfl).trans ?_
  refine b_ite ?_ ?_
  · refine (e_iconst (code := kX7_rounded) (pc := 8) rfl).trans ?_
    refine (e_iload_n (code := kX7_rounded) (pc := 9) rfl rfl).trans ?_
    refine (e_imul (code := kX7_rounded) (pc := 10) rfl).trans ?_
    refine (e_iload_n (code := kX7_rounded) (pc := 11) rfl rfl).trans ?_
    refine (e_iadd (code := kX7_rounded) (pc := 12) rfl).trans ?_
    refine (e_iconst (code := kX7_rounded) (pc := 13) rfl).trans ?_
    refine (e_iload_n (code := kX7_rounded) (pc := 14) rfl rfl).trans ?_
    refine (e_imul (code := kX7_rounded) (pc := 15) rfl).trans ?_
    refine (e_idiv (code := kX7_rounded) (pc := 16) rfl).trans ?_
    refine b_gd_c ?_
    rfl
  · refine (e_iconst (code := kX7_rounded) (pc := 4) rfl).trans ?_
    refine (e_goto (code := kX7_rounded) (pc := 5) rfl).trans ?_
    rfl
theorem b_X7_rounded_17 {C : aCall} {σ : aSt} {x0 x1 y0 : Int32} : b_R C kX7_rounded [] (17, [some (.int x0), some (.int x1)], [.int y0], σ) = some (.inl (some (.int y0)), σ) := by
  exact e_ireturn rfl
