/-! equations of the blocks, by program (wip/whole/tools/gen21.py) -/
theorem n_X5_init {P : aCall} {d : Nat} {σ : aSt} {a0 : Nat} (hd : 1 ≤ d) : a_call a_tab P d 67 [.ref a0] σ = b_R (a_call a_tab P (d - 1)) kX5_init [] (0, [some (.ref a0)], [], σ) := e_call hd at_X5_init rfl
theorem b_X5_init_0 {C : aCall} {σ : aSt} {a0 : Nat} : b_R C kX5_init [] (0, [some (.ref a0)], [], σ) = b_G C kX5_init [] 12 15 [some (.ref a0)] [.ref (a_n σ), .ref a0] (C 0 [.ref (a_n σ), .int (nI 1), .int (nI 17)] (a_new σ 16 3 3)) := by
  refine (e_aload_n (code := kX5_init) (pc := 0) rfl rfl).trans ?_
  refine (e_objInit (code := kX5_init) (pc := 1) rfl rfl).trans ?_
  refine (e_aload_n (code := kX5_init) (pc := 4) rfl rfl).trans ?_
  refine (e_new (code := kX5_init) (pc := 5) rfl).trans ?_
  refine (e_dup (code := kX5_init) (pc := 8) (σ := (a_new σ 16 3 3)) rfl rfl).trans ?_
  refine (e_iconst (code := kX5_init) (pc := 9) (σ := (a_new σ 16 3 3)) rfl).trans ?_
  refine (e_bipush (code := kX5_init) (pc := 10) (σ := (a_new σ 16 3 3)) rfl).trans ?_
  exact (e_callI (code := kX5_init) (pc := 12) (len := 3) (k := 0) (n := 3) (as := [.ref (a_n σ), .int (nI 1), .int (nI 17)]) (st0 := [.ref (a_n σ), .ref a0]) rfl rfl rfl rfl rfl rfl)
theorem b_X5_init_15 {C : aCall} {σ : aSt} {a0 g0 : Nat} (hk0 : a_kd σ a0 = 17) (hn1 : 100 ≤ a0) : b_R C kX5_init [] (15, [some (.ref a0)], [.ref g0, .ref a0], σ) = b_R C kX5_init [] (18, [some (.ref a0)], [], (a_setR σ a0 0 (some g0))) := by
  refine (e_putR (code := kX5_init) (pc := 15) (c := 7) rfl hk0 hn1).trans ?_
  rfl
theorem b_X5_init_18 {C : aCall} {σ : aSt} {a0 : Nat} : b_R C kX5_init [] (18, [some (.ref a0)], [], σ) = some (.inl none, σ) := by
  exact e_return_ rfl
theorem n_X5_readPalette {P : aCall} {d : Nat} {σ : aSt} {p : Nat} (hd : 1 ≤ d) : a_call a_tab P d 68 [.ref 223, .ref 220, .ref p] σ = b_R (a_call a_tab P (d - 1)) kX5_readPalette [] (0, [some (.ref 223), some (.ref 220), some (.ref p), none, none], [], σ) := e_call hd at_X5_readPalette rfl
theorem b_X5_readPalette_0 {C : aCall} {σ : aSt} {p : Nat} (hp : Pa σ p) : b_R C kX5_readPalette [] (0, [some (.ref 223), some (.ref 220), some (.ref p), none, none], [], σ) = b_G C kX5_readPalette [] 1 4 [some (.ref 223), some (.ref 220), some (.ref p), none, none] [] (C 33 [.ref p] σ) := by
  refine (e_aload_n (code := kX5_readPalette) (pc := 0) rfl rfl).trans ?_
  exact (e_callV (σ := σ) (code := kX5_readPalette) (pc := 1) (len := 3) (k := 33) (n := 1) (c := 13) (as := [.ref p]) (st0 := []) rfl rfl rfl rfl rfl hp.1 rfl)
theorem b_X5_readPalette_4 {C : aCall} {σ : aSt} {p : Nat} (h : Sh σ) : b_R C kX5_readPalette [] (4, [some (.ref 223), some (.ref 220), some (.ref p), none, none], [], σ) = b_G C kX5_readPalette [] 7 10 [some (.ref 223), some (.ref 220), some (.ref p), none, none] [] (C 28 [.ref 220, .ref 1] σ) := by
  refine (e_aload_n (code := kX5_readPalette) (pc := 4) rfl rfl).trans ?_
  refine (e_ldcS (code := kX5_readPalette) (pc := 5) rfl).trans ?_
  exact (e_callV (σ := σ) (code := kX5_readPalette) (pc := 7) (len := 3) (k := 28) (n := 2) (c := 18) (as := [.ref 220, .ref 1]) (st0 := []) rfl rfl rfl rfl rfl (sk_220 (σ := σ) h) rfl)
theorem b_X5_readPalette_10 {C : aCall} {σ : aSt} {p : Nat} {y0 : Int32} (h : Sh σ) : b_R C kX5_readPalette [] (10, [some (.ref 223), some (.ref 220), some (.ref p), none, none], [.int y0], σ) = (if y0 = 0 then b_R C kX5_readPalette [] (31, [some (.ref 223), some (.ref 220), some (.ref p), none, none], [], σ) else b_G C kX5_readPalette [] 16 19 [some (.ref 223), some (.ref 220), some (.ref p), none, none] [] (C 69 [.ref 223, .ref 220, .ref p] σ)) := by
  refine (e_ifeq (code := kX5_readPalette) (pc := 10) rfl).trans ?_
  refine b_ite ?_ ?_
  · rfl
  · refine (e_aload_n (code := kX5_readPalette) (pc := 13) rfl rfl).trans ?_
    refine (e_aload_n (code := kX5_readPalette) (pc := 14) rfl rfl).trans ?_
    refine (e_aload_n (code := kX5_readPalette) (pc := 15) rfl rfl).trans ?_
    exact (e_callV (σ := σ) (code := kX5_readPalette) (pc := 16) (len := 3) (k := 69) (n := 3) (c := 17) (as := [.ref 223, .ref 220, .ref p]) (st0 := []) rfl rfl rfl rfl rfl (sk_223 (σ := σ) h) rfl)
theorem b_X5_readPalette_19 {C : aCall} {σ : aSt} {p : Nat} {y0 : Int32} (h : Sh σ) : b_R C kX5_readPalette [] (19, [some (.ref 223), some (.ref 220), some (.ref p), none, none], [.int y0], σ) = (if y0 = 0 then b_R C kX5_readPalette [] (31, [some (.ref 223), some (.ref 220), some (.ref p), none, none], [], σ) else b_G C kX5_readPalette [] 25 28 [some (.ref 223), some (.ref 220), some (.ref p), none, none] [] (C 29 [.ref 220, .int (nI 59)] σ)) := by
  refine (e_ifeq (code := kX5_readPalette) (pc := 19) rfl).trans ?_
  refine b_ite ?_ ?_
  · rfl
  · refine (e_aload_n (code := kX5_readPalette) (pc := 22) rfl rfl).trans ?_
    refine (e_bipush (code := kX5_readPalette) (pc := 23) rfl).trans ?_
    exact (e_callV (σ := σ) (code := kX5_readPalette) (pc := 25) (len := 3) (k := 29) (n := 2) (c := 18) (as := [.ref 220, .int (nI 59)]) (st0 := []) rfl rfl rfl rfl rfl (sk_220 (σ := σ) h) rfl)
theorem b_X5_readPalette_28 {C : aCall} {σ : aSt} {p : Nat} {y0 : Int32} : b_R C kX5_readPalette [] (28, [some (.ref 223), some (.ref 220), some (.ref p), none, none], [.int y0], σ) = (if y0 = 0 then b_R C kX5_readPalette [] (31, [some (.ref 223), some (.ref 220), some (.ref p), none, none], [], σ) else b_R C kX5_readPalette [] (35, [some (.ref 223), some (.ref 220), some (.ref p), some (.int (nI 0)), none], [], σ)) := by
  refine (e_ifne (code := kX5_readPalette) (pc := 28) rfl).trans ?_
  refine b_ite ?_ ?_
  · rfl
  · refine (e_iconst (code := kX5_readPalette) (pc := 33) rfl).trans ?_
    refine (e_istore_n (code := kX5_readPalette) (pc := 34) rfl rfl rfl).trans ?_
    rfl
theorem b_X5_readPalette_31 {C : aCall} {σ : aSt} {p : Nat} : b_R C kX5_readPalette [] (31, [some (.ref 223), some (.ref 220), some (.ref p), none, none], [], σ) = some (.inl (some (.int (nI 0))), σ) := by
  refine (e_iconst (code := kX5_readPalette) (pc := 31) rfl).trans ?_
  exact (e_zreturn rfl).trans (b_gd_t (by decide))
theorem b_X5_readPalette_35 {C : aCall} {σ : aSt} {p : Nat} {x3 : Int32} {o4 : Option Value} (h : Sh σ) : b_R C kX5_readPalette [] (35, [some (.ref 223), some (.ref 220), some (.ref p), some (.int x3), o4], [], σ) = (if x3 < (nI 900) then b_G C kX5_readPalette [] 43 46 [some (.ref 223), some (.ref 220), some (.ref p), some (.int x3), o4] [] (C 19 [.ref 220] σ) else b_R C kX5_readPalette [] (97, [some (.ref 223), some (.ref 220), some (.ref p), some (.int x3), o4], [], σ)) := by
  refine (e_iload_n (code := kX5_readPalette) (pc := 35) rfl rfl).trans ?_
  refine (e_sipush (code := kX5_readPalette) (pc := 36) rfl).trans ?_
  refine (e_icge (code := kX5_readPalette) (pc := 39) rfl).trans ?_
  refine b_ite ?_ ?_
  · refine (e_aload_n (code := kX5_readPalette) (pc := 42) rfl rfl).trans ?_
    exact (e_callV (σ := σ) (code := kX5_readPalette) (pc := 43) (len := 3) (k := 19) (n := 1) (c := 18) (as := [.ref 220]) (st0 := []) rfl rfl rfl rfl rfl (sk_220 (σ := σ) h) rfl)
  · rfl
theorem b_X5_readPalette_46 {C : aCall} {σ : aSt} {p : Nat} {x3 y0 : Int32} {o4 : Option Value} (h : Sh σ) : b_R C kX5_readPalette [] (46, [some (.ref 223), some (.ref 220), some (.ref p), some (.int x3), o4], [.int y0], σ) = (if y0 = 0 then b_G C kX5_readPalette [] 52 55 [some (.ref 223), some (.ref 220), some (.ref p), some (.int x3), o4] [] (C 25 [.ref 220, .ref 2] σ) else b_R C kX5_readPalette [] (97, [some (.ref 223), some (.ref 220), some (.ref p), some (.int x3), o4], [], σ)) := by
  refine (e_ifne (code := kX5_readPalette) (pc := 46) rfl).trans ?_
  refine b_ite ?_ ?_
  · refine (e_aload_n (code := kX5_readPalette) (pc := 49) rfl rfl).trans ?_
    refine (e_ldcS (code := kX5_readPalette) (pc := 50) rfl).trans ?_
    exact (e_callV (σ := σ) (code := kX5_readPalette) (pc := 52) (len := 3) (k := 25) (n := 2) (c := 18) (as := [.ref 220, .ref 2]) (st0 := []) rfl rfl rfl rfl rfl (sk_220 (σ := σ) h) rfl)
  · rfl
theorem b_X5_readPalette_55 {C : aCall} {σ : aSt} {p : Nat} {x3 y0 : Int32} {o4 : Option Value} (h : Sh σ) : b_R C kX5_readPalette [] (55, [some (.ref 223), some (.ref 220), some (.ref p), some (.int x3), o4], [.int y0], σ) = (if y0 = 0 then b_G C kX5_readPalette [] 70 73 [some (.ref 223), some (.ref 220), some (.ref p), some (.int x3), o4] [] (C 71 [.ref 223, .ref 220, .ref p] σ) else b_G C kX5_readPalette [] 61 64 [some (.ref 223), some (.ref 220), some (.ref p), some (.int x3), o4] [] (C 70 [.ref 223, .ref 220, .ref p] σ)) := by
  refine (e_ifeq (code := kX5_readPalette) (pc := 55) rfl).trans ?_
  refine b_ite ?_ ?_
  · refine (e_aload_n (code := kX5_readPalette) (pc := 67) rfl rfl).trans ?_
    refine (e_aload_n (code := kX5_readPalette) (pc := 68) rfl rfl).trans ?_
    refine (e_aload_n (code := kX5_readPalette) (pc := 69) rfl rfl).trans ?_
    exact (e_callV (σ := σ) (code := kX5_readPalette) (pc := 70) (len := 3) (k := 71) (n := 3) (c := 17) (as := [.ref 223, .ref 220, .ref p]) (st0 := []) rfl rfl rfl rfl rfl (sk_223 (σ := σ) h) rfl)
  · refine (e_aload_n (code := kX5_readPalette) (pc := 58) rfl rfl).trans ?_
    refine (e_aload_n (code := kX5_readPalette) (pc := 59) rfl rfl).trans ?_
    refine (e_aload_n (code := kX5_readPalette) (pc := 60) rfl rfl).trans ?_
    exact (e_callV (σ := σ) (code := kX5_readPalette) (pc := 61) (len := 3) (k := 70) (n := 3) (c := 17) (as := [.ref 223, .ref 220, .ref p]) (st0 := []) rfl rfl rfl rfl rfl (sk_223 (σ := σ) h) rfl)
theorem b_X5_readPalette_64 {C : aCall} {σ : aSt} {p : Nat} {x3 y0 : Int32} {o4 : Option Value} : b_R C kX5_readPalette [] (64, [some (.ref 223), some (.ref 220), some (.ref p), some (.int x3), o4], [.int y0], σ) = b_R C kX5_readPalette [] (73, [some (.ref 223), some (.ref 220), some (.ref p), some (.int x3), o4], [.int y0], σ) := by
  refine (e_goto (code := kX5_readPalette) (pc := 64) rfl).trans ?_
  rfl
theorem b_X5_readPalette_73 {C : aCall} {σ : aSt} {p : Nat} {x3 y0 : Int32} {o4 : Option Value} (h : Sh σ) : b_R C kX5_readPalette [] (73, [some (.ref 223), some (.ref 220), some (.ref p), some (.int x3), o4], [.int y0], σ) = (if y0 = 0 then b_R C kX5_readPalette [] (89, [some (.ref 223), some (.ref 220), some (.ref p), some (.int x3), some (.int y0)], [], σ) else b_G C kX5_readPalette [] 83 86 [some (.ref 223), some (.ref 220), some (.ref p), some (.int x3), some (.int y0)] [] (C 29 [.ref 220, .int (nI 59)] σ)) := by
  refine (e_istore (code := kX5_readPalette) (pc := 73) rfl rfl rfl).trans ?_
  refine (e_iload (code := kX5_readPalette) (pc := 75) rfl rfl).trans ?_
  refine (e_ifeq (code := kX5_readPalette) (pc := 77) rfl).trans ?_
  refine b_ite ?_ ?_
  · rfl
  · refine (e_aload_n (code := kX5_readPalette) (pc := 80) rfl rfl).trans ?_
    refine (e_bipush (code := kX5_readPalette) (pc := 81) rfl).trans ?_
    exact (e_callV (σ := σ) (code := kX5_readPalette) (pc := 83) (len := 3) (k := 29) (n := 2) (c := 18) (as := [.ref 220, .int (nI 59)]) (st0 := []) rfl rfl rfl rfl rfl (sk_220 (σ := σ) h) rfl)
theorem b_X5_readPalette_86 {C : aCall} {σ : aSt} {p : Nat} {x3 x4 y0 : Int32} : b_R C kX5_readPalette [] (86, [some (.ref 223), some (.ref 220), some (.ref p), some (.int x3), some (.int x4)], [.int y0], σ) = (if y0 = 0 then b_R C kX5_readPalette [] (89, [some (.ref 223), some (.ref 220), some (.ref p), some (.int x3), some (.int x4)], [], σ) else b_R C kX5_readPalette [] (35, [some (.ref 223), some (.ref 220), some (.ref p), some (.int (x3 + nI 1)), some (.int x4)], [], σ)) := by
  refine (e_ifne (code := kX5_readPalette) (pc := 86) rfl).trans ?_
  refine b_ite ?_ ?_
  · rfl
  · refine (e_iinc (code := kX5_readPalette) (pc := 91) rfl rfl rfl rfl).trans ?_
    refine (e_goto (code := kX5_readPalette) (pc := 94) rfl).trans ?_
    rfl
theorem b_X5_readPalette_89 {C : aCall} {σ : aSt} {p : Nat} {x3 x4 : Int32} : b_R C kX5_readPalette [] (89, [some (.ref 223), some (.ref 220), some (.ref p), some (.int x3), some (.int x4)], [], σ) = some (.inl (some (.int (nI 0))), σ) := by
  refine (e_iconst (code := kX5_readPalette) (pc := 89) rfl).trans ?_
  exact (e_zreturn rfl).trans (b_gd_t (by decide))
theorem b_X5_readPalette_97 {C : aCall} {σ : aSt} {p : Nat} {x3 : Int32} {o4 : Option Value} (h : Sh σ) : b_R C kX5_readPalette [] (97, [some (.ref 223), some (.ref 220), some (.ref p), some (.int x3), o4], [], σ) = b_G C kX5_readPalette [] 98 101 [some (.ref 223), some (.ref 220), some (.ref p), some (.int x3), o4] [] (C 30 [.ref 220] σ) := by
  refine (e_aload_n (code := kX5_readPalette) (pc := 97) rfl rfl).trans ?_
  exact (e_callV (σ := σ) (code := kX5_readPalette) (pc := 98) (len := 3) (k := 30) (n := 1) (c := 18) (as := [.ref 220]) (st0 := []) rfl rfl rfl rfl rfl (sk_220 (σ := σ) h) rfl)
theorem b_X5_readPalette_101 {C : aCall} {σ : aSt} {p : Nat} {x3 y0 : Int32} {o4 : Option Value} : b_R C kX5_readPalette [] (101, [some (.ref 223), some (.ref 220), some (.ref p), some (.int x3), o4], [.int y0], σ) = b_gd (y0 = 0 ∨ y0 = 1) (some (.inl (some (.int y0)), σ)) := by
  exact e_zreturn rfl
theorem n_X5_readSettings {P : aCall} {d : Nat} {σ : aSt} {p : Nat} (hd : 1 ≤ d) : a_call a_tab P d 69 [.ref 223, .ref 220, .ref p] σ = b_R (a_call a_tab P (d - 1)) kX5_readSettings [] (0, [some (.ref 223), some (.ref 220), some (.ref p)], [], σ) := e_call hd at_X5_readSettings rfl
theorem b_X5_readSettings_0 {C : aCall} {σ : aSt} {p : Nat} (h : Sh σ) : b_R C kX5_readSettings [] (0, [some (.ref 223), some (.ref 220), some (.ref p)], [], σ) = b_G C kX5_readSettings [] 3 6 [some (.ref 223), some (.ref 220), some (.ref p)] [] (C 25 [.ref 220, .ref 3] σ) := by
  refine (e_aload_n (code := kX5_readSettings) (pc := 0) rfl rfl).trans ?_
  refine (e_ldcS (code := kX5_readSettings) (pc := 1) rfl).trans ?_
  exact (e_callV (σ := σ) (code := kX5_readSettings) (pc := 3) (len := 3) (k := 25) (n := 2) (c := 18) (as := [.ref 220, .ref 3]) (st0 := []) rfl rfl rfl rfl rfl (sk_220 (σ := σ) h) rfl)
theorem b_X5_readSettings_6 {C : aCall} {σ : aSt} {p : Nat} {y0 : Int32} (h : Sh σ) : b_R C kX5_readSettings [] (6, [some (.ref 223), some (.ref 220), some (.ref p)], [.int y0], σ) = (if y0 = 0 then b_R C kX5_readSettings [] (24, [some (.ref 223), some (.ref 220), some (.ref p)], [], σ) else b_G C kX5_readSettings [] 10 13 [some (.ref 223), some (.ref 220), some (.ref p)] [] (C 18 [.ref 220] σ)) := by
  refine (e_ifeq (code := kX5_readSettings) (pc := 6) rfl).trans ?_
  refine b_ite ?_ ?_
  · rfl
  · refine (e_aload_n (code := kX5_readSettings) (pc := 9) rfl rfl).trans ?_
    exact (e_callV (σ := σ) (code := kX5_readSettings) (pc := 10) (len := 3) (k := 18) (n := 1) (c := 18) (as := [.ref 220]) (st0 := []) rfl rfl rfl rfl rfl (sk_220 (σ := σ) h) rfl)
theorem b_X5_readSettings_13 {C : aCall} {σ : aSt} {p : Nat} (h : Sh σ) : b_R C kX5_readSettings [] (13, [some (.ref 223), some (.ref 220), some (.ref p)], [], σ) = b_G C kX5_readSettings [] 18 21 [some (.ref 223), some (.ref 220), some (.ref p)] [.ref p] (C 31 [.ref 220, .int (nI 1), .int (nI 6)] σ) := by
  refine (e_aload_n (code := kX5_readSettings) (pc := 13) rfl rfl).trans ?_
  refine (e_aload_n (code := kX5_readSettings) (pc := 14) rfl rfl).trans ?_
  refine (e_iconst (code := kX5_readSettings) (pc := 15) rfl).trans ?_
  refine (e_bipush (code := kX5_readSettings) (pc := 16) rfl).trans ?_
  exact (e_callV (σ := σ) (code := kX5_readSettings) (pc := 18) (len := 3) (k := 31) (n := 3) (c := 18) (as := [.ref 220, .int (nI 1), .int (nI 6)]) (st0 := [.ref p]) rfl rfl rfl rfl rfl (sk_220 (σ := σ) h) rfl)
theorem b_X5_readSettings_21 {C : aCall} {σ : aSt} {p : Nat} {y0 : Int32} (hp : Pa σ p) : b_R C kX5_readSettings [] (21, [some (.ref 223), some (.ref 220), some (.ref p)], [.int y0, .ref p], σ) = b_G C kX5_readSettings [] 21 24 [some (.ref 223), some (.ref 220), some (.ref p)] [] (C 34 [.ref p, .int y0] σ) := by
  exact (e_callV (σ := σ) (code := kX5_readSettings) (pc := 21) (len := 3) (k := 34) (n := 2) (c := 13) (as := [.ref p, .int y0]) (st0 := []) rfl rfl rfl rfl rfl hp.1 rfl)
theorem b_X5_readSettings_24 {C : aCall} {σ : aSt} {p : Nat} (h : Sh σ) : b_R C kX5_readSettings [] (24, [some (.ref 223), some (.ref 220), some (.ref p)], [], σ) = b_G C kX5_readSettings [] 25 28 [some (.ref 223), some (.ref 220), some (.ref p)] [] (C 26 [.ref 220] σ) := by
  refine (e_aload_n (code := kX5_readSettings) (pc := 24) rfl rfl).trans ?_
  exact (e_callV (σ := σ) (code := kX5_readSettings) (pc := 25) (len := 3) (k := 26) (n := 1) (c := 18) (as := [.ref 220]) (st0 := []) rfl rfl rfl rfl rfl (sk_220 (σ := σ) h) rfl)
theorem b_X5_readSettings_28 {C : aCall} {σ : aSt} {p : Nat} {y0 : Int32} (h : Sh σ) : b_R C kX5_readSettings [] (28, [some (.ref 223), some (.ref 220), some (.ref p)], [.int y0], σ) = (if y0 = 0 then b_G C kX5_readSettings [] 34 37 [some (.ref 223), some (.ref 220), some (.ref p)] [] (C 25 [.ref 220, .ref 4] σ) else b_R C kX5_readSettings [] (55, [some (.ref 223), some (.ref 220), some (.ref p)], [], σ)) := by
  refine (e_ifne (code := kX5_readSettings) (pc := 28) rfl).trans ?_
  refine b_ite ?_ ?_
  · refine (e_aload_n (code := kX5_readSettings) (pc := 31) rfl rfl).trans ?_
    refine (e_ldcS (code := kX5_readSettings) (pc := 32) rfl).trans ?_
    exact (e_callV (σ := σ) (code := kX5_readSettings) (pc := 34) (len := 3) (k := 25) (n := 2) (c := 18) (as := [.ref 220, .ref 4]) (st0 := []) rfl rfl rfl rfl rfl (sk_220 (σ := σ) h) rfl)
  · rfl
theorem b_X5_readSettings_37 {C : aCall} {σ : aSt} {p : Nat} {y0 : Int32} (h : Sh σ) : b_R C kX5_readSettings [] (37, [some (.ref 223), some (.ref 220), some (.ref p)], [.int y0], σ) = (if y0 = 0 then b_R C kX5_readSettings [] (55, [some (.ref 223), some (.ref 220), some (.ref p)], [], σ) else b_G C kX5_readSettings [] 41 44 [some (.ref 223), some (.ref 220), some (.ref p)] [] (C 18 [.ref 220] σ)) := by
  refine (e_ifeq (code := kX5_readSettings) (pc := 37) rfl).trans ?_
  refine b_ite ?_ ?_
  · rfl
  · refine (e_aload_n (code := kX5_readSettings) (pc := 40) rfl rfl).trans ?_
    exact (e_callV (σ := σ) (code := kX5_readSettings) (pc := 41) (len := 3) (k := 18) (n := 1) (c := 18) (as := [.ref 220]) (st0 := []) rfl rfl rfl rfl rfl (sk_220 (σ := σ) h) rfl)
theorem b_X5_readSettings_44 {C : aCall} {σ : aSt} {p : Nat} (h : Sh σ) : b_R C kX5_readSettings [] (44, [some (.ref 223), some (.ref 220), some (.ref p)], [], σ) = b_G C kX5_readSettings [] 49 52 [some (.ref 223), some (.ref 220), some (.ref p)] [.ref p] (C 31 [.ref 220, .int (nI 1), .int (nI 6)] σ) := by
  refine (e_aload_n (code := kX5_readSettings) (pc := 44) rfl rfl).trans ?_
  refine (e_aload_n (code := kX5_readSettings) (pc := 45) rfl rfl).trans ?_
  refine (e_iconst (code := kX5_readSettings) (pc := 46) rfl).trans ?_
  refine (e_bipush (code := kX5_readSettings) (pc := 47) rfl).trans ?_
  exact (e_callV (σ := σ) (code := kX5_readSettings) (pc := 49) (len := 3) (k := 31) (n := 3) (c := 18) (as := [.ref 220, .int (nI 1), .int (nI 6)]) (st0 := [.ref p]) rfl rfl rfl rfl rfl (sk_220 (σ := σ) h) rfl)
theorem b_X5_readSettings_52 {C : aCall} {σ : aSt} {p : Nat} {y0 : Int32} (hp : Pa σ p) : b_R C kX5_readSettings [] (52, [some (.ref 223), some (.ref 220), some (.ref p)], [.int y0, .ref p], σ) = b_R C kX5_readSettings [] (55, [some (.ref 223), some (.ref 220), some (.ref p)], [], (a_setI σ p 4 y0)) := by
  refine (e_putI (code := kX5_readSettings) (pc := 52) (c := 3) rfl hp.1 hp.2.1).trans ?_
  rfl
theorem b_X5_readSettings_55 {C : aCall} {σ : aSt} {p : Nat} (h : Sh σ) : b_R C kX5_readSettings [] (55, [some (.ref 223), some (.ref 220), some (.ref p)], [], σ) = b_G C kX5_readSettings [] 56 59 [some (.ref 223), some (.ref 220), some (.ref p)] [] (C 26 [.ref 220] σ) := by
  refine (e_aload_n (code := kX5_readSettings) (pc := 55) rfl rfl).trans ?_
  exact (e_callV (σ := σ) (code := kX5_readSettings) (pc := 56) (len := 3) (k := 26) (n := 1) (c := 18) (as := [.ref 220]) (st0 := []) rfl rfl rfl rfl rfl (sk_220 (σ := σ) h) rfl)
theorem b_X5_readSettings_59 {C : aCall} {σ : aSt} {p : Nat} {y0 : Int32} (h : Sh σ) : b_R C kX5_readSettings [] (59, [some (.ref 223), some (.ref 220), some (.ref p)], [.int y0], σ) = (if y0 = 0 then b_G C kX5_readSettings [] 65 68 [some (.ref 223), some (.ref 220), some (.ref p)] [] (C 25 [.ref 220, .ref 5] σ) else b_R C kX5_readSettings [] (86, [some (.ref 223), some (.ref 220), some (.ref p)], [], σ)) := by
  refine (e_ifne (code := kX5_readSettings) (pc := 59) rfl).trans ?_
  refine b_ite ?_ ?_
  · refine (e_aload_n (code := kX5_readSettings) (pc := 62) rfl rfl).trans ?_
    refine (e_ldcS (code := kX5_readSettings) (pc := 63) rfl).trans ?_
    exact (e_callV (σ := σ) (code := kX5_readSettings) (pc := 65) (len := 3) (k := 25) (n := 2) (c := 18) (as := [.ref 220, .ref 5]) (st0 := []) rfl rfl rfl rfl rfl (sk_220 (σ := σ) h) rfl)
  · rfl
theorem b_X5_readSettings_68 {C : aCall} {σ : aSt} {p : Nat} {y0 : Int32} (h : Sh σ) : b_R C kX5_readSettings [] (68, [some (.ref 223), some (.ref 220), some (.ref p)], [.int y0], σ) = (if y0 = 0 then b_R C kX5_readSettings [] (86, [some (.ref 223), some (.ref 220), some (.ref p)], [], σ) else b_G C kX5_readSettings [] 72 75 [some (.ref 223), some (.ref 220), some (.ref p)] [] (C 18 [.ref 220] σ)) := by
  refine (e_ifeq (code := kX5_readSettings) (pc := 68) rfl).trans ?_
  refine b_ite ?_ ?_
  · rfl
  · refine (e_aload_n (code := kX5_readSettings) (pc := 71) rfl rfl).trans ?_
    exact (e_callV (σ := σ) (code := kX5_readSettings) (pc := 72) (len := 3) (k := 18) (n := 1) (c := 18) (as := [.ref 220]) (st0 := []) rfl rfl rfl rfl rfl (sk_220 (σ := σ) h) rfl)
theorem b_X5_readSettings_75 {C : aCall} {σ : aSt} {p : Nat} (h : Sh σ) : b_R C kX5_readSettings [] (75, [some (.ref 223), some (.ref 220), some (.ref p)], [], σ) = b_G C kX5_readSettings [] 80 83 [some (.ref 223), some (.ref 220), some (.ref p)] [.ref p] (C 31 [.ref 220, .int (nI 0), .int (nI 99999)] σ) := by
  refine (e_aload_n (code := kX5_readSettings) (pc := 75) rfl rfl).trans ?_
  refine (e_aload_n (code := kX5_readSettings) (pc := 76) rfl rfl).trans ?_
  refine (e_iconst (code := kX5_readSettings) (pc := 77) rfl).trans ?_
  refine (e_ldcI (code := kX5_readSettings) (pc := 78) rfl).trans ?_
  exact (e_callV (σ := σ) (code := kX5_readSettings) (pc := 80) (len := 3) (k := 31) (n := 3) (c := 18) (as := [.ref 220, .int (nI 0), .int (nI 99999)]) (st0 := [.ref p]) rfl rfl rfl rfl rfl (sk_220 (σ := σ) h) rfl)
theorem b_X5_readSettings_83 {C : aCall} {σ : aSt} {p : Nat} {y0 : Int32} (hp : Pa σ p) : b_R C kX5_readSettings [] (83, [some (.ref 223), some (.ref 220), some (.ref p)], [.int y0, .ref p], σ) = b_R C kX5_readSettings [] (86, [some (.ref 223), some (.ref 220), some (.ref p)], [], (a_setI σ p 5 y0)) := by
  refine (e_putI (code := kX5_readSettings) (pc := 83) (c := 3) rfl hp.1 hp.2.1).trans ?_
  rfl
theorem b_X5_readSettings_86 {C : aCall} {σ : aSt} {p : Nat} (h : Sh σ) : b_R C kX5_readSettings [] (86, [some (.ref 223), some (.ref 220), some (.ref p)], [], σ) = b_G C kX5_readSettings [] 87 90 [some (.ref 223), some (.ref 220), some (.ref p)] [] (C 26 [.ref 220] σ) := by
  refine (e_aload_n (code := kX5_readSettings) (pc := 86) rfl rfl).trans ?_
  exact (e_callV (σ := σ) (code := kX5_readSettings) (pc := 87) (len := 3) (k := 26) (n := 1) (c := 18) (as := [.ref 220]) (st0 := []) rfl rfl rfl rfl rfl (sk_220 (σ := σ) h) rfl)
theorem b_X5_readSettings_90 {C : aCall} {σ : aSt} {p : Nat} {y0 : Int32} : b_R C kX5_readSettings [] (90, [some (.ref 223), some (.ref 220), some (.ref p)], [.int y0], σ) = (if y0 = 0 then b_R C kX5_readSettings [] (98, [some (.ref 223), some (.ref 220), some (.ref p)], [.int (nI 1)], σ) else b_R C kX5_readSettings [] (98, [some (.ref 223), some (.ref 220), some (.ref p)], [.int (nI 0)], σ)) := by
  refine (e_ifne (code := kX5_readSettings) (pc := 90) rfl).trans ?_
  refine b_ite ?_ ?_
  · refine (e_iconst (code := kX5_readSettings) (pc := 93) rfl).trans ?_
    refine (e_goto (code := kX5_readSettings) (pc := 94) rfl).trans ?_
    rfl
  · refine (e_iconst (code := kX5_readSettings) (pc := 97) rfl).trans ?_
    rfl
theorem b_X5_readSettings_98 {C : aCall} {σ : aSt} {p : Nat} {y0 : Int32} : b_R C kX5_readSettings [] (98, [some (.ref 223), some (.ref 220), some (.ref p)], [.int y0], σ) = b_gd (y0 = 0 ∨ y0 = 1) (some (.inl (some (.int y0)), σ)) := by
  exact e_zreturn rfl
theorem n_X5_readTube {P : aCall} {d : Nat} {σ : aSt} {p : Nat} (hd : 1 ≤ d) : a_call a_tab P d 70 [.ref 223, .ref 220, .ref p] σ = b_R (a_call a_tab P (d - 1)) kX5_readTube [] (0, [some (.ref 223), some (.ref 220), some (.ref p), none, none, none], [], σ) := e_call hd at_X5_readTube rfl
theorem b_X5_readTube_0 {C : aCall} {σ : aSt} {p : Nat} (hp : Pa σ p) : b_R C kX5_readTube [] (0, [some (.ref 223), some (.ref 220), some (.ref p), none, none, none], [], σ) = b_G C kX5_readTube [] 4 7 [some (.ref 223), some (.ref 220), some (.ref p), none, none, none] [] (C 3 [.ref (p + 1)] σ) := by
  refine (e_aload_n (code := kX5_readTube) (pc := 0) rfl rfl).trans ?_
  refine (e_getR (code := kX5_readTube) (pc := 1) (c := 3) rfl hp.1 hp.2.2.1).trans ?_
  exact (e_callV (σ := σ) (code := kX5_readTube) (pc := 4) (len := 3) (k := 3) (n := 1) (c := 16) (as := [.ref (p + 1)]) (st0 := []) rfl rfl rfl rfl rfl hp.2.2.2.2.2.2.1.1 rfl)
theorem b_X5_readTube_7 {C : aCall} {σ : aSt} {p : Nat} {y0 : Int32} (h : Sh σ) : b_R C kX5_readTube [] (7, [some (.ref 223), some (.ref 220), some (.ref p), none, none, none], [.int y0], σ) = (if y0 = 0 then b_G C kX5_readTube [] 17 20 [some (.ref 223), some (.ref 220), some (.ref p), none, none, none] [] (C 18 [.ref 220] σ) else b_G C kX5_readTube [] 12 15 [some (.ref 223), some (.ref 220), some (.ref p), none, none, none] [] (C 27 [.ref 220, .int (nI 3)] σ)) := by
  refine (e_ifeq (code := kX5_readTube) (pc := 7) rfl).trans ?_
  refine b_ite ?_ ?_
  · refine (e_aload_n (code := kX5_readTube) (pc := 16) rfl rfl).trans ?_
    exact (e_callV (σ := σ) (code := kX5_readTube) (pc := 17) (len := 3) (k := 18) (n := 1) (c := 18) (as := [.ref 220]) (st0 := []) rfl rfl rfl rfl rfl (sk_220 (σ := σ) h) rfl)
  · refine (e_aload_n (code := kX5_readTube) (pc := 10) rfl rfl).trans ?_
    refine (e_iconst (code := kX5_readTube) (pc := 11) rfl).trans ?_
    exact (e_callV (σ := σ) (code := kX5_readTube) (pc := 12) (len := 3) (k := 27) (n := 2) (c := 18) (as := [.ref 220, .int (nI 3)]) (st0 := []) rfl rfl rfl rfl rfl (sk_220 (σ := σ) h) rfl)
theorem b_X5_readTube_15 {C : aCall} {σ : aSt} {p : Nat} {y0 : Int32} : b_R C kX5_readTube [] (15, [some (.ref 223), some (.ref 220), some (.ref p), none, none, none], [.int y0], σ) = b_gd (y0 = 0 ∨ y0 = 1) (some (.inl (some (.int y0)), σ)) := by
  exact e_zreturn rfl
theorem b_X5_readTube_20 {C : aCall} {σ : aSt} {p : Nat} (h : Sh σ) : b_R C kX5_readTube [] (20, [some (.ref 223), some (.ref 220), some (.ref p), none, none, none], [], σ) = b_G C kX5_readTube [] 23 26 [some (.ref 223), some (.ref 220), some (.ref p), none, none, none] [] (C 73 [.ref 223, .ref 220, .ref p] σ) := by
  refine (e_aload_n (code := kX5_readTube) (pc := 20) rfl rfl).trans ?_
  refine (e_aload_n (code := kX5_readTube) (pc := 21) rfl rfl).trans ?_
  refine (e_aload_n (code := kX5_readTube) (pc := 22) rfl rfl).trans ?_
  exact (e_callV (σ := σ) (code := kX5_readTube) (pc := 23) (len := 3) (k := 73) (n := 3) (c := 17) (as := [.ref 223, .ref 220, .ref p]) (st0 := []) rfl rfl rfl rfl rfl (sk_223 (σ := σ) h) rfl)
theorem b_X5_readTube_26 {C : aCall} {σ : aSt} {p : Nat} {y0 : Int32} (hp : Pa σ p) : b_R C kX5_readTube [] (26, [some (.ref 223), some (.ref 220), some (.ref p), none, none, none], [.int y0], σ) = (if y0 = 0 then some (.inl (some (.int (nI 0))), σ) else b_G C kX5_readTube [] 35 38 [some (.ref 223), some (.ref 220), some (.ref p), none, none, none] [] (C 5 [.ref (p + 1)] σ)) := by
  refine (e_ifne (code := kX5_readTube) (pc := 26) rfl).trans ?_
  refine b_ite ?_ ?_
  · refine (e_iconst (code := kX5_readTube) (pc := 29) rfl).trans ?_
    exact (e_zreturn rfl).trans (b_gd_t (by decide))
  · refine (e_aload_n (code := kX5_readTube) (pc := 31) rfl rfl).trans ?_
    refine (e_getR (code := kX5_readTube) (pc := 32) (c := 3) rfl hp.1 hp.2.2.1).trans ?_
    exact (e_callV (σ := σ) (code := kX5_readTube) (pc := 35) (len := 3) (k := 5) (n := 1) (c := 16) (as := [.ref (p + 1)]) (st0 := []) rfl rfl rfl rfl rfl hp.2.2.2.2.2.2.1.1 rfl)
theorem b_X5_readTube_38 {C : aCall} {σ : aSt} {p : Nat} {y0 : Int32} (h : Sh σ) (hp : Pa σ p) : b_R C kX5_readTube [] (38, [some (.ref 223), some (.ref 220), some (.ref p), none, none, none], [.int y0], σ) = b_G C kX5_readTube [] 45 48 [some (.ref 223), some (.ref 220), some (.ref p), some (.int y0), none, none] [.int y0, .ref (p + 1)] (C 23 [.ref 220] σ) := by
  refine (e_istore_n (code := kX5_readTube) (pc := 38) rfl rfl rfl).trans ?_
  refine (e_aload_n (code := kX5_readTube) (pc := 39) rfl rfl).trans ?_
  refine (e_getR (code := kX5_readTube) (pc := 40) (c := 3) rfl hp.1 hp.2.2.1).trans ?_
  refine (e_iload_n (code := kX5_readTube) (pc := 43) rfl rfl).trans ?_
  refine (e_aload_n (code := kX5_readTube) (pc := 44) rfl rfl).trans ?_
  exact (e_callV (σ := σ) (code := kX5_readTube) (pc := 45) (len := 3) (k := 23) (n := 1) (c := 18) (as := [.ref 220]) (st0 := [.int y0, .ref (p + 1)]) rfl rfl rfl rfl rfl (sk_220 (σ := σ) h) rfl)
theorem b_X5_readTube_48 {C : aCall} {σ : aSt} {p : Nat} {x3 y1 : Int32} (hp : Pa σ p) : b_R C kX5_readTube [] (48, [some (.ref 223), some (.ref 220), some (.ref p), some (.int x3), none, none], [.ref 222, .int y1, .ref (p + 1)], σ) = b_G C kX5_readTube [] 48 51 [some (.ref 223), some (.ref 220), some (.ref p), some (.int x3), none, none] [] (C 10 [.ref (p + 1), .int y1, .ref 222] σ) := by
  exact (e_callV (σ := σ) (code := kX5_readTube) (pc := 48) (len := 3) (k := 10) (n := 3) (c := 16) (as := [.ref (p + 1), .int y1, .ref 222]) (st0 := []) rfl rfl rfl rfl rfl hp.2.2.2.2.2.2.1.1 rfl)
theorem b_X5_readTube_51 {C : aCall} {σ : aSt} {p : Nat} {x3 : Int32} (h : Sh σ) : b_R C kX5_readTube [] (51, [some (.ref 223), some (.ref 220), some (.ref p), some (.int x3), none, none], [], σ) = b_G C kX5_readTube [] 52 55 [some (.ref 223), some (.ref 220), some (.ref p), some (.int x3), none, none] [] (C 18 [.ref 220] σ) := by
  refine (e_aload_n (code := kX5_readTube) (pc := 51) rfl rfl).trans ?_
  exact (e_callV (σ := σ) (code := kX5_readTube) (pc := 52) (len := 3) (k := 18) (n := 1) (c := 18) (as := [.ref 220]) (st0 := []) rfl rfl rfl rfl rfl (sk_220 (σ := σ) h) rfl)
theorem b_X5_readTube_55 {C : aCall} {σ : aSt} {p : Nat} {x3 : Int32} : b_R C kX5_readTube [] (55, [some (.ref 223), some (.ref 220), some (.ref p), some (.int x3), none, none], [], σ) = b_R C kX5_readTube [] (58, [some (.ref 223), some (.ref 220), some (.ref p), some (.int x3), some (.int (nI 0)), none], [], σ) := by
  refine (e_iconst (code := kX5_readTube) (pc := 55) rfl).trans ?_
  refine (e_istore (code := kX5_readTube) (pc := 56) rfl rfl rfl).trans ?_
  rfl
theorem b_X5_readTube_58 {C : aCall} {σ : aSt} {p : Nat} {x3 x4 : Int32} {o5 : Option Value} (h : Sh σ) : b_R C kX5_readTube [] (58, [some (.ref 223), some (.ref 220), some (.ref p), some (.int x3), some (.int x4), o5], [], σ) = (if x4 < (nI 3) then b_G C kX5_readTube [] 69 72 [some (.ref 223), some (.ref 220), some (.ref p), some (.int x3), some (.int x4), o5] [] (C 31 [.ref 220, .int (nI 0), .int (nI 255)] σ) else b_G C kX5_readTube [] 104 107 [some (.ref 223), some (.ref 220), some (.ref p), some (.int x3), some (.int x4), o5] [] (C 20 [.ref 220] σ)) := by
  refine (e_iload (code := kX5_readTube) (pc := 58) rfl rfl).trans ?_
  refine (e_iconst (code := kX5_readTube) (pc := 60) rfl).trans ?_
  refine (e_icge (code := kX5_readTube) (pc := 61) rfl).trans ?_
  refine b_ite ?_ ?_
  · refine (e_aload_n (code := kX5_readTube) (pc := 64) rfl rfl).trans ?_
    refine (e_iconst (code := kX5_readTube) (pc := 65) rfl).trans ?_
    refine (e_sipush (code := kX5_readTube) (pc := 66) rfl).trans ?_
    exact (e_callV (σ := σ) (code := kX5_readTube) (pc := 69) (len := 3) (k := 31) (n := 3) (c := 18) (as := [.ref 220, .int (nI 0), .int (nI 255)]) (st0 := []) rfl rfl rfl rfl rfl (sk_220 (σ := σ) h) rfl)
  · refine (e_aload_n (code := kX5_readTube) (pc := 103) rfl rfl).trans ?_
    exact (e_callV (σ := σ) (code := kX5_readTube) (pc := 104) (len := 3) (k := 20) (n := 1) (c := 18) (as := [.ref 220]) (st0 := []) rfl rfl rfl rfl rfl (sk_220 (σ := σ) h) rfl)
theorem b_X5_readTube_72 {C : aCall} {σ : aSt} {p : Nat} {x3 x4 y0 : Int32} {o5 : Option Value} (hp : Pa σ p) : b_R C kX5_readTube [] (72, [some (.ref 223), some (.ref 220), some (.ref p), some (.int x3), some (.int x4), o5], [.int y0], σ) = (if y0 = ((-1)) then some (.inl (some (.int (nI 0))), σ) else b_G C kX5_readTube [] 94 97 [some (.ref 223), some (.ref 220), some (.ref p), some (.int x3), some (.int x4), some (.int y0)] [] (C 2 [.ref (p + 1), .int x3, .int ((nI 8) + x4), .int y0] σ)) := by
  refine (e_istore (code := kX5_readTube) (pc := 72) rfl rfl rfl).trans ?_
  refine (e_iload (code := kX5_readTube) (pc := 74) rfl rfl).trans ?_
  refine (e_iconst (code := kX5_readTube) (pc := 76) rfl).trans ?_
  refine (e_icne (code := kX5_readTube) (pc := 77) rfl).trans ?_
  refine b_ite ?_ ?_
  · refine (e_iconst (code := kX5_readTube) (pc := 80) rfl).trans ?_
    exact (e_zreturn rfl).trans (b_gd_t (by decide))
  · refine (e_aload_n (code := kX5_readTube) (pc := 82) rfl rfl).trans ?_
    refine (e_getR (code := kX5_readTube) (pc := 83) (c := 3) rfl hp.1 hp.2.2.1).trans ?_
    refine (e_iload_n (code := kX5_readTube) (pc := 86) rfl rfl).trans ?_
    refine (e_bipush (code := kX5_readTube) (pc := 87) rfl).trans ?_
    refine (e_iload (code := kX5_readTube) (pc := 89) rfl rfl).trans ?_
    refine (e_iadd (code := kX5_readTube) (pc := 91) rfl).trans ?_
    refine (e_iload (code := kX5_readTube) (pc := 92) rfl rfl).trans ?_
    exact (e_callV (σ := σ) (code := kX5_readTube) (pc := 94) (len := 3) (k := 2) (n := 4) (c := 16) (as := [.ref (p + 1), .int x3, .int ((nI 8) + x4), .int y0]) (st0 := []) rfl rfl rfl rfl rfl hp.2.2.2.2.2.2.1.1 rfl)
theorem b_X5_readTube_97 {C : aCall} {σ : aSt} {p : Nat} {x3 x4 x5 : Int32} : b_R C kX5_readTube [] (97, [some (.ref 223), some (.ref 220), some (.ref p), some (.int x3), some (.int x4), some (.int x5)], [], σ) = b_R C kX5_readTube [] (58, [some (.ref 223), some (.ref 220), some (.ref p), some (.int x3), some (.int (x4 + nI 1)), some (.int x5)], [], σ) := by
  refine (e_iinc (code := kX5_readTube) (pc := 97) rfl rfl rfl rfl).trans ?_
  refine (e_goto (code := kX5_readTube) (pc := 100) rfl).trans ?_
  rfl
theorem b_X5_readTube_107 {C : aCall} {σ : aSt} {p : Nat} {x3 x4 y0 : Int32} {o5 : Option Value} (h : Sh σ) : b_R C kX5_readTube [] (107, [some (.ref 223), some (.ref 220), some (.ref p), some (.int x3), some (.int x4), o5], [.int y0], σ) = (if y0 = 0 then b_R C kX5_readTube [] (123, [some (.ref 223), some (.ref 220), some (.ref p), some (.int x3), some (.int x4), o5], [.int (nI 100)], σ) else b_G C kX5_readTube [] 115 118 [some (.ref 223), some (.ref 220), some (.ref p), some (.int x3), some (.int x4), o5] [] (C 31 [.ref 220, .int (nI 0), .int (nI 9999)] σ)) := by
  refine (e_ifeq (code := kX5_readTube) (pc := 107) rfl).trans ?_
  refine b_ite ?_ ?_
  · refine (e_bipush (code := kX5_readTube) (pc := 121) rfl).trans ?_
    rfl
  · refine (e_aload_n (code := kX5_readTube) (pc := 110) rfl rfl).trans ?_
    refine (e_iconst (code := kX5_readTube) (pc := 111) rfl).trans ?_
    refine (e_sipush (code := kX5_readTube) (pc := 112) rfl).trans ?_
    exact (e_callV (σ := σ) (code := kX5_readTube) (pc := 115) (len := 3) (k := 31) (n := 3) (c := 18) (as := [.ref 220, .int (nI 0), .int (nI 9999)]) (st0 := []) rfl rfl rfl rfl rfl (sk_220 (σ := σ) h) rfl)
theorem b_X5_readTube_118 {C : aCall} {σ : aSt} {p : Nat} {x3 x4 y0 : Int32} {o5 : Option Value} : b_R C kX5_readTube [] (118, [some (.ref 223), some (.ref 220), some (.ref p), some (.int x3), some (.int x4), o5], [.int y0], σ) = b_R C kX5_readTube [] (123, [some (.ref 223), some (.ref 220), some (.ref p), some (.int x3), some (.int x4), o5], [.int y0], σ) := by
  refine (e_goto (code := kX5_readTube) (pc := 118) rfl).trans ?_
  rfl
theorem b_X5_readTube_123 {C : aCall} {σ : aSt} {p : Nat} {x3 x4 y0 : Int32} {o5 : Option Value} (hp : Pa σ p) : b_R C kX5_readTube [] (123, [some (.ref 223), some (.ref 220), some (.ref p), some (.int x3), some (.int x4), o5], [.int y0], σ) = b_G C kX5_readTube [] 134 137 [some (.ref 223), some (.ref 220), some (.ref p), some (.int x3), some (.int y0), o5] [] (C 2 [.ref (p + 1), .int x3, .int (nI 11), .int y0] σ) := by
  refine (e_istore (code := kX5_readTube) (pc := 123) rfl rfl rfl).trans ?_
  refine (e_aload_n (code := kX5_readTube) (pc := 125) rfl rfl).trans ?_
  refine (e_getR (code := kX5_readTube) (pc := 126) (c := 3) rfl hp.1 hp.2.2.1).trans ?_
  refine (e_iload_n (code := kX5_readTube) (pc := 129) rfl rfl).trans ?_
  refine (e_bipush (code := kX5_readTube) (pc := 130) rfl).trans ?_
  refine (e_iload (code := kX5_readTube) (pc := 132) rfl rfl).trans ?_
  exact (e_callV (σ := σ) (code := kX5_readTube) (pc := 134) (len := 3) (k := 2) (n := 4) (c := 16) (as := [.ref (p + 1), .int x3, .int (nI 11), .int y0]) (st0 := []) rfl rfl rfl rfl rfl hp.2.2.2.2.2.2.1.1 rfl)
theorem b_X5_readTube_137 {C : aCall} {σ : aSt} {p : Nat} {x3 x4 : Int32} {o5 : Option Value} : b_R C kX5_readTube [] (137, [some (.ref 223), some (.ref 220), some (.ref p), some (.int x3), some (.int x4), o5], [], σ) = (if x4 = ((-1)) then b_R C kX5_readTube [] (148, [some (.ref 223), some (.ref 220), some (.ref p), some (.int x3), some (.int x4), o5], [.int (nI 0)], σ) else b_R C kX5_readTube [] (148, [some (.ref 223), some (.ref 220), some (.ref p), some (.int x3), some (.int x4), o5], [.int (nI 1)], σ)) := by
  refine (e_iload (code := kX5_readTube) (pc := 137) rfl rfl).trans ?_
  refine (e_iconst (code := kX5_readTube) (pc := 139) rfl).trans ?_
  refine (e_iceq (code := kX5_readTube) (pc := 140) rfl).trans ?_
  refine b_ite ?_ ?_
  · refine (e_iconst (code := kX5_readTube) (pc := 147) rfl).trans ?_
    rfl
  · refine (e_iconst (code := kX5_readTube) (pc := 143) rfl).trans ?_
    refine (e_goto (code := kX5_readTube) (pc := 144) rfl).trans ?_
    rfl
theorem b_X5_readTube_148 {C : aCall} {σ : aSt} {p : Nat} {x3 x4 y0 : Int32} {o5 : Option Value} : b_R C kX5_readTube [] (148, [some (.ref 223), some (.ref 220), some (.ref p), some (.int x3), some (.int x4), o5], [.int y0], σ) = b_gd (y0 = 0 ∨ y0 = 1) (some (.inl (some (.int y0)), σ)) := by
  exact e_zreturn rfl
theorem n_X5_readMix {P : aCall} {d : Nat} {σ : aSt} {p : Nat} (hd : 1 ≤ d) : a_call a_tab P d 71 [.ref 223, .ref 220, .ref p] σ = b_R (a_call a_tab P (d - 1)) kX5_readMix [] (0, [some (.ref 223), some (.ref 220), some (.ref p)], [], σ) := e_call hd at_X5_readMix rfl
theorem b_X5_readMix_0 {C : aCall} {σ : aSt} {p : Nat} (h : Sh σ) : b_R C kX5_readMix [] (0, [some (.ref 223), some (.ref 220), some (.ref p)], [], σ) = b_G C kX5_readMix [] 3 6 [some (.ref 223), some (.ref 220), some (.ref p)] [] (C 25 [.ref 220, .ref 6] σ) := by
  refine (e_aload_n (code := kX5_readMix) (pc := 0) rfl rfl).trans ?_
  refine (e_ldcS (code := kX5_readMix) (pc := 1) rfl).trans ?_
  exact (e_callV (σ := σ) (code := kX5_readMix) (pc := 3) (len := 3) (k := 25) (n := 2) (c := 18) (as := [.ref 220, .ref 6]) (st0 := []) rfl rfl rfl rfl rfl (sk_220 (σ := σ) h) rfl)
theorem b_X5_readMix_6 {C : aCall} {σ : aSt} {p : Nat} {y0 : Int32} (h : Sh σ) (hp : Pa σ p) : b_R C kX5_readMix [] (6, [some (.ref 223), some (.ref 220), some (.ref p)], [.int y0], σ) = (if y0 = 0 then b_G C kX5_readMix [] 11 14 [some (.ref 223), some (.ref 220), some (.ref p)] [] (C 27 [.ref 220, .int (nI 1)] σ) else b_G C kX5_readMix [] 19 22 [some (.ref 223), some (.ref 220), some (.ref p)] [] (C 3 [.ref (p + 3)] σ)) := by
  refine (e_ifne (code := kX5_readMix) (pc := 6) rfl).trans ?_
  refine b_ite ?_ ?_
  · refine (e_aload_n (code := kX5_readMix) (pc := 9) rfl rfl).trans ?_
    refine (e_iconst (code := kX5_readMix) (pc := 10) rfl).trans ?_
    exact (e_callV (σ := σ) (code := kX5_readMix) (pc := 11) (len := 3) (k := 27) (n := 2) (c := 18) (as := [.ref 220, .int (nI 1)]) (st0 := []) rfl rfl rfl rfl rfl (sk_220 (σ := σ) h) rfl)
  · refine (e_aload_n (code := kX5_readMix) (pc := 15) rfl rfl).trans ?_
    refine (e_getR (code := kX5_readMix) (pc := 16) (c := 3) rfl hp.1 hp.2.2.2.1).trans ?_
    exact (e_callV (σ := σ) (code := kX5_readMix) (pc := 19) (len := 3) (k := 3) (n := 1) (c := 16) (as := [.ref (p + 3)]) (st0 := []) rfl rfl rfl rfl rfl hp.2.2.2.2.2.2.2.1.1 rfl)
theorem b_X5_readMix_14 {C : aCall} {σ : aSt} {p : Nat} {y0 : Int32} : b_R C kX5_readMix [] (14, [some (.ref 223), some (.ref 220), some (.ref p)], [.int y0], σ) = b_gd (y0 = 0 ∨ y0 = 1) (some (.inl (some (.int y0)), σ)) := by
  exact e_zreturn rfl
theorem b_X5_readMix_22 {C : aCall} {σ : aSt} {p : Nat} {y0 : Int32} (h : Sh σ) : b_R C kX5_readMix [] (22, [some (.ref 223), some (.ref 220), some (.ref p)], [.int y0], σ) = (if y0 = 0 then b_G C kX5_readMix [] 32 35 [some (.ref 223), some (.ref 220), some (.ref p)] [] (C 18 [.ref 220] σ) else b_G C kX5_readMix [] 27 30 [some (.ref 223), some (.ref 220), some (.ref p)] [] (C 27 [.ref 220, .int (nI 3)] σ)) := by
  refine (e_ifeq (code := kX5_readMix) (pc := 22) rfl).trans ?_
  refine b_ite ?_ ?_
  · refine (e_aload_n (code := kX5_readMix) (pc := 31) rfl rfl).trans ?_
    exact (e_callV (σ := σ) (code := kX5_readMix) (pc := 32) (len := 3) (k := 18) (n := 1) (c := 18) (as := [.ref 220]) (st0 := []) rfl rfl rfl rfl rfl (sk_220 (σ := σ) h) rfl)
  · refine (e_aload_n (code := kX5_readMix) (pc := 25) rfl rfl).trans ?_
    refine (e_iconst (code := kX5_readMix) (pc := 26) rfl).trans ?_
    exact (e_callV (σ := σ) (code := kX5_readMix) (pc := 27) (len := 3) (k := 27) (n := 2) (c := 18) (as := [.ref 220, .int (nI 3)]) (st0 := []) rfl rfl rfl rfl rfl (sk_220 (σ := σ) h) rfl)
theorem b_X5_readMix_30 {C : aCall} {σ : aSt} {p : Nat} {y0 : Int32} : b_R C kX5_readMix [] (30, [some (.ref 223), some (.ref 220), some (.ref p)], [.int y0], σ) = b_gd (y0 = 0 ∨ y0 = 1) (some (.inl (some (.int y0)), σ)) := by
  exact e_zreturn rfl
theorem b_X5_readMix_35 {C : aCall} {σ : aSt} {p : Nat} (h : Sh σ) : b_R C kX5_readMix [] (35, [some (.ref 223), some (.ref 220), some (.ref p)], [], σ) = b_G C kX5_readMix [] 38 41 [some (.ref 223), some (.ref 220), some (.ref p)] [] (C 73 [.ref 223, .ref 220, .ref p] σ) := by
  refine (e_aload_n (code := kX5_readMix) (pc := 35) rfl rfl).trans ?_
  refine (e_aload_n (code := kX5_readMix) (pc := 36) rfl rfl).trans ?_
  refine (e_aload_n (code := kX5_readMix) (pc := 37) rfl rfl).trans ?_
  exact (e_callV (σ := σ) (code := kX5_readMix) (pc := 38) (len := 3) (k := 73) (n := 3) (c := 17) (as := [.ref 223, .ref 220, .ref p]) (st0 := []) rfl rfl rfl rfl rfl (sk_223 (σ := σ) h) rfl)
theorem b_X5_readMix_41 {C : aCall} {σ : aSt} {p : Nat} {y0 : Int32} (h : Sh σ) : b_R C kX5_readMix [] (41, [some (.ref 223), some (.ref 220), some (.ref p)], [.int y0], σ) = (if y0 = 0 then b_R C kX5_readMix [] (61, [some (.ref 223), some (.ref 220), some (.ref p)], [], σ) else b_G C kX5_readMix [] 46 49 [some (.ref 223), some (.ref 220), some (.ref p)] [] (C 74 [.ref 223, .ref 220] σ)) := by
  refine (e_ifeq (code := kX5_readMix) (pc := 41) rfl).trans ?_
  refine b_ite ?_ ?_
  · rfl
  · refine (e_aload_n (code := kX5_readMix) (pc := 44) rfl rfl).trans ?_
    refine (e_aload_n (code := kX5_readMix) (pc := 45) rfl rfl).trans ?_
    exact (e_callV (σ := σ) (code := kX5_readMix) (pc := 46) (len := 3) (k := 74) (n := 2) (c := 17) (as := [.ref 223, .ref 220]) (st0 := []) rfl rfl rfl rfl rfl (sk_223 (σ := σ) h) rfl)
theorem b_X5_readMix_49 {C : aCall} {σ : aSt} {p : Nat} {y0 : Int32} (h : Sh σ) : b_R C kX5_readMix [] (49, [some (.ref 223), some (.ref 220), some (.ref p)], [.int y0], σ) = (if y0 = 0 then b_R C kX5_readMix [] (61, [some (.ref 223), some (.ref 220), some (.ref p)], [], σ) else b_G C kX5_readMix [] 55 58 [some (.ref 223), some (.ref 220), some (.ref p)] [] (C 75 [.ref 223, .ref 220, .ref p] σ)) := by
  refine (e_ifeq (code := kX5_readMix) (pc := 49) rfl).trans ?_
  refine b_ite ?_ ?_
  · rfl
  · refine (e_aload_n (code := kX5_readMix) (pc := 52) rfl rfl).trans ?_
    refine (e_aload_n (code := kX5_readMix) (pc := 53) rfl rfl).trans ?_
    refine (e_aload_n (code := kX5_readMix) (pc := 54) rfl rfl).trans ?_
    exact (e_callV (σ := σ) (code := kX5_readMix) (pc := 55) (len := 3) (k := 75) (n := 3) (c := 17) (as := [.ref 223, .ref 220, .ref p]) (st0 := []) rfl rfl rfl rfl rfl (sk_223 (σ := σ) h) rfl)
theorem b_X5_readMix_58 {C : aCall} {σ : aSt} {p : Nat} {y0 : Int32} (hp : Pa σ p) : b_R C kX5_readMix [] (58, [some (.ref 223), some (.ref 220), some (.ref p)], [.int y0], σ) = (if y0 = 0 then b_R C kX5_readMix [] (61, [some (.ref 223), some (.ref 220), some (.ref p)], [], σ) else b_G C kX5_readMix [] 71 74 [some (.ref 223), some (.ref 220), some (.ref p)] [.ref (p + 3)] (C 5 [.ref (p + 3)] σ)) := by
  refine (e_ifne (code := kX5_readMix) (pc := 58) rfl).trans ?_
  refine b_ite ?_ ?_
  · rfl
  · refine (e_aload_n (code := kX5_readMix) (pc := 63) rfl rfl).trans ?_
    refine (e_getR (code := kX5_readMix) (pc := 64) (c := 3) rfl hp.1 hp.2.2.2.1).trans ?_
    refine (e_aload_n (code := kX5_readMix) (pc := 67) rfl rfl).trans ?_
    refine (e_getR (code := kX5_readMix) (pc := 68) (c := 3) rfl hp.1 hp.2.2.2.1).trans ?_
    exact (e_callV (σ := σ) (code := kX5_readMix) (pc := 71) (len := 3) (k := 5) (n := 1) (c := 16) (as := [.ref (p + 3)]) (st0 := [.ref (p + 3)]) rfl rfl rfl rfl rfl hp.2.2.2.2.2.2.2.1.1 rfl)
theorem b_X5_readMix_61 {C : aCall} {σ : aSt} {p : Nat} : b_R C kX5_readMix [] (61, [some (.ref 223), some (.ref 220), some (.ref p)], [], σ) = some (.inl (some (.int (nI 0))), σ) := by
  refine (e_iconst (code := kX5_readMix) (pc := 61) rfl).trans ?_
  exact (e_zreturn rfl).trans (b_gd_t (by decide))
theorem b_X5_readMix_74 {C : aCall} {σ : aSt} {p : Nat} {y0 : Int32} (h : Sh σ) (hp : Pa σ p) : b_R C kX5_readMix [] (74, [some (.ref 223), some (.ref 220), some (.ref p)], [.int y0, .ref (p + 3)], σ) = b_G C kX5_readMix [] 79 82 [some (.ref 223), some (.ref 220), some (.ref p)] [] (C 8 [.ref (p + 3), .int y0, .ref 224, .int (nI 0)] σ) := by
  refine (e_aload_n (code := kX5_readMix) (pc := 74) rfl rfl).trans ?_
  refine (e_getR (code := kX5_readMix) (pc := 75) (c := 7) rfl (sk_223 (σ := σ) h) (sr_223_0 (σ := σ) h)).trans ?_
  refine (e_iconst (code := kX5_readMix) (pc := 78) rfl).trans ?_
  exact (e_callV (σ := σ) (code := kX5_readMix) (pc := 79) (len := 3) (k := 8) (n := 4) (c := 16) (as := [.ref (p + 3), .int y0, .ref 224, .int (nI 0)]) (st0 := []) rfl rfl rfl rfl rfl hp.2.2.2.2.2.2.2.1.1 rfl)
theorem b_X5_readMix_82 {C : aCall} {σ : aSt} {p : Nat} : b_R C kX5_readMix [] (82, [some (.ref 223), some (.ref 220), some (.ref p)], [], σ) = some (.inl (some (.int (nI 1))), σ) := by
  refine (e_iconst (code := kX5_readMix) (pc := 82) rfl).trans ?_
  exact (e_zreturn rfl).trans (b_gd_t (by decide))
theorem n_X5_checkName {P : aCall} {d : Nat} {σ : aSt} (hd : 1 ≤ d) : a_call a_tab P d 72 [.ref 223, .ref 220] σ = b_R (a_call a_tab P (d - 1)) kX5_checkName [] (0, [some (.ref 223), some (.ref 220)], [], σ) := e_call hd at_X5_checkName rfl
theorem b_X5_checkName_0 {C : aCall} {σ : aSt} (h : Sh σ) : b_R C kX5_checkName [] (0, [some (.ref 223), some (.ref 220)], [], σ) = b_G C kX5_checkName [] 1 4 [some (.ref 223), some (.ref 220)] [] (C 21 [.ref 220] σ) := by
  refine (e_aload_n (code := kX5_checkName) (pc := 0) rfl rfl).trans ?_
  exact (e_callV (σ := σ) (code := kX5_checkName) (pc := 1) (len := 3) (k := 21) (n := 1) (c := 18) (as := [.ref 220]) (st0 := []) rfl rfl rfl rfl rfl (sk_220 (σ := σ) h) rfl)
theorem b_X5_checkName_4 {C : aCall} {σ : aSt} {y0 : Int32} (h : Sh σ) : b_R C kX5_checkName [] (4, [some (.ref 223), some (.ref 220)], [.int y0], σ) = (if y0 = 0 then b_G C kX5_checkName [] 9 12 [some (.ref 223), some (.ref 220)] [] (C 27 [.ref 220, .int (nI 1)] σ) else b_G C kX5_checkName [] 14 17 [some (.ref 223), some (.ref 220)] [] (C 22 [.ref 220] σ)) := by
  refine (e_ifne (code := kX5_checkName) (pc := 4) rfl).trans ?_
  refine b_ite ?_ ?_
  · refine (e_aload_n (code := kX5_checkName) (pc := 7) rfl rfl).trans ?_
    refine (e_iconst (code := kX5_checkName) (pc := 8) rfl).trans ?_
    exact (e_callV (σ := σ) (code := kX5_checkName) (pc := 9) (len := 3) (k := 27) (n := 2) (c := 18) (as := [.ref 220, .int (nI 1)]) (st0 := []) rfl rfl rfl rfl rfl (sk_220 (σ := σ) h) rfl)
  · refine (e_aload_n (code := kX5_checkName) (pc := 13) rfl rfl).trans ?_
    exact (e_callV (σ := σ) (code := kX5_checkName) (pc := 14) (len := 3) (k := 22) (n := 1) (c := 18) (as := [.ref 220]) (st0 := []) rfl rfl rfl rfl rfl (sk_220 (σ := σ) h) rfl)
theorem b_X5_checkName_12 {C : aCall} {σ : aSt} {y0 : Int32} : b_R C kX5_checkName [] (12, [some (.ref 223), some (.ref 220)], [.int y0], σ) = b_gd (y0 = 0 ∨ y0 = 1) (some (.inl (some (.int y0)), σ)) := by
  exact e_zreturn rfl
theorem b_X5_checkName_17 {C : aCall} {σ : aSt} {y0 : Int32} (h : Sh σ) : b_R C kX5_checkName [] (17, [some (.ref 223), some (.ref 220)], [.int y0], σ) = (if y0 = 0 then b_R C kX5_checkName [] (28, [some (.ref 223), some (.ref 220)], [], σ) else b_G C kX5_checkName [] 22 25 [some (.ref 223), some (.ref 220)] [] (C 27 [.ref 220, .int (nI 2)] σ)) := by
  refine (e_ifeq (code := kX5_checkName) (pc := 17) rfl).trans ?_
  refine b_ite ?_ ?_
  · rfl
  · refine (e_aload_n (code := kX5_checkName) (pc := 20) rfl rfl).trans ?_
    refine (e_iconst (code := kX5_checkName) (pc := 21) rfl).trans ?_
    exact (e_callV (σ := σ) (code := kX5_checkName) (pc := 22) (len := 3) (k := 27) (n := 2) (c := 18) (as := [.ref 220, .int (nI 2)]) (st0 := []) rfl rfl rfl rfl rfl (sk_220 (σ := σ) h) rfl)
theorem b_X5_checkName_25 {C : aCall} {σ : aSt} {y0 : Int32} : b_R C kX5_checkName [] (25, [some (.ref 223), some (.ref 220)], [.int y0], σ) = (if y0 = 0 then b_R C kX5_checkName [] (33, [some (.ref 223), some (.ref 220)], [.int (nI 0)], σ) else b_R C kX5_checkName [] (28, [some (.ref 223), some (.ref 220)], [], σ)) := by
  refine (e_ifeq (code := kX5_checkName) (pc := 25) rfl).trans ?_
  refine b_ite ?_ ?_
  · refine (e_iconst (code := kX5_checkName) (pc := 32) rfl).trans ?_
    rfl
  · rfl
theorem b_X5_checkName_28 {C : aCall} {σ : aSt} : b_R C kX5_checkName [] (28, [some (.ref 223), some (.ref 220)], [], σ) = b_R C kX5_checkName [] (33, [some (.ref 223), some (.ref 220)], [.int (nI 1)], σ) := by
  refine (e_iconst (code := kX5_checkName) (pc := 28) rfl).trans ?_
  refine (e_goto (code := kX5_checkName) (pc := 29) rfl).trans ?_
  rfl
theorem b_X5_checkName_33 {C : aCall} {σ : aSt} {y0 : Int32} : b_R C kX5_checkName [] (33, [some (.ref 223), some (.ref 220)], [.int y0], σ) = b_gd (y0 = 0 ∨ y0 = 1) (some (.inl (some (.int y0)), σ)) := by
  exact e_zreturn rfl
theorem n_X5_checkFreeName {P : aCall} {d : Nat} {σ : aSt} {p : Nat} (hd : 1 ≤ d) : a_call a_tab P d 73 [.ref 223, .ref 220, .ref p] σ = b_R (a_call a_tab P (d - 1)) kX5_checkFreeName [] (0, [some (.ref 223), some (.ref 220), some (.ref p), none, none], [], σ) := e_call hd at_X5_checkFreeName rfl
theorem b_X5_checkFreeName_0 {C : aCall} {σ : aSt} {p : Nat} (h : Sh σ) : b_R C kX5_checkFreeName [] (0, [some (.ref 223), some (.ref 220), some (.ref p), none, none], [], σ) = b_G C kX5_checkFreeName [] 2 5 [some (.ref 223), some (.ref 220), some (.ref p), none, none] [] (C 72 [.ref 223, .ref 220] σ) := by
  refine (e_aload_n (code := kX5_checkFreeName) (pc := 0) rfl rfl).trans ?_
  refine (e_aload_n (code := kX5_checkFreeName) (pc := 1) rfl rfl).trans ?_
  exact (e_callV (σ := σ) (code := kX5_checkFreeName) (pc := 2) (len := 3) (k := 72) (n := 2) (c := 17) (as := [.ref 223, .ref 220]) (st0 := []) rfl rfl rfl rfl rfl (sk_223 (σ := σ) h) rfl)
theorem b_X5_checkFreeName_5 {C : aCall} {σ : aSt} {p : Nat} {y0 : Int32} (h : Sh σ) : b_R C kX5_checkFreeName [] (5, [some (.ref 223), some (.ref 220), some (.ref p), none, none], [.int y0], σ) = (if y0 = 0 then some (.inl (some (.int (nI 0))), σ) else b_G C kX5_checkFreeName [] 11 14 [some (.ref 223), some (.ref 220), some (.ref p), none, none] [] (C 23 [.ref 220] σ)) := by
  refine (e_ifne (code := kX5_checkFreeName) (pc := 5) rfl).trans ?_
  refine b_ite ?_ ?_
  · refine (e_iconst (code := kX5_checkFreeName) (pc := 8) rfl).trans ?_
    exact (e_zreturn rfl).trans (b_gd_t (by decide))
  · refine (e_aload_n (code := kX5_checkFreeName) (pc := 10) rfl rfl).trans ?_
    exact (e_callV (σ := σ) (code := kX5_checkFreeName) (pc := 11) (len := 3) (k := 23) (n := 1) (c := 18) (as := [.ref 220]) (st0 := []) rfl rfl rfl rfl rfl (sk_220 (σ := σ) h) rfl)
theorem b_X5_checkFreeName_14 {C : aCall} {σ : aSt} {p : Nat} (hp : Pa σ p) : b_R C kX5_checkFreeName [] (14, [some (.ref 223), some (.ref 220), some (.ref p), none, none], [.ref 222], σ) = b_G C kX5_checkFreeName [] 20 23 [some (.ref 223), some (.ref 220), some (.ref p), some (.ref 222), none] [] (C 11 [.ref (p + 1), .ref 222] σ) := by
  refine (e_astore_n (code := kX5_checkFreeName) (pc := 14) rfl rfl rfl).trans ?_
  refine (e_aload_n (code := kX5_checkFreeName) (pc := 15) rfl rfl).trans ?_
  refine (e_getR (code := kX5_checkFreeName) (pc := 16) (c := 3) rfl hp.1 hp.2.2.1).trans ?_
  refine (e_aload_n (code := kX5_checkFreeName) (pc := 19) rfl rfl).trans ?_
  exact (e_callV (σ := σ) (code := kX5_checkFreeName) (pc := 20) (len := 3) (k := 11) (n := 2) (c := 16) (as := [.ref (p + 1), .ref 222]) (st0 := []) rfl rfl rfl rfl rfl hp.2.2.2.2.2.2.1.1 rfl)
theorem b_X5_checkFreeName_23 {C : aCall} {σ : aSt} {p : Nat} {y0 : Int32} (hp : Pa σ p) : b_R C kX5_checkFreeName [] (23, [some (.ref 223), some (.ref 220), some (.ref p), some (.ref 222), none], [.int y0], σ) = (if y0 = ((-1)) then b_G C kX5_checkFreeName [] 32 35 [some (.ref 223), some (.ref 220), some (.ref p), some (.ref 222), none] [] (C 11 [.ref (p + 3), .ref 222] σ) else b_R C kX5_checkFreeName [] (39, [some (.ref 223), some (.ref 220), some (.ref p), some (.ref 222), none], [], σ)) := by
  refine (e_iconst (code := kX5_checkFreeName) (pc := 23) rfl).trans ?_
  refine (e_icne (code := kX5_checkFreeName) (pc := 24) rfl).trans ?_
  refine b_ite ?_ ?_
  · refine (e_aload_n (code := kX5_checkFreeName) (pc := 27) rfl rfl).trans ?_
    refine (e_getR (code := kX5_checkFreeName) (pc := 28) (c := 3) rfl hp.1 hp.2.2.2.1).trans ?_
    refine (e_aload_n (code := kX5_checkFreeName) (pc := 31) rfl rfl).trans ?_
    exact (e_callV (σ := σ) (code := kX5_checkFreeName) (pc := 32) (len := 3) (k := 11) (n := 2) (c := 16) (as := [.ref (p + 3), .ref 222]) (st0 := []) rfl rfl rfl rfl rfl hp.2.2.2.2.2.2.2.1.1 rfl)
  · rfl
theorem b_X5_checkFreeName_35 {C : aCall} {σ : aSt} {p : Nat} {y0 : Int32} : b_R C kX5_checkFreeName [] (35, [some (.ref 223), some (.ref 220), some (.ref p), some (.ref 222), none], [.int y0], σ) = (if y0 = ((-1)) then b_R C kX5_checkFreeName [] (44, [some (.ref 223), some (.ref 220), some (.ref p), some (.ref 222), none], [.int (nI 0)], σ) else b_R C kX5_checkFreeName [] (39, [some (.ref 223), some (.ref 220), some (.ref p), some (.ref 222), none], [], σ)) := by
  refine (e_iconst (code := kX5_checkFreeName) (pc := 35) rfl).trans ?_
  refine (e_iceq (code := kX5_checkFreeName) (pc := 36) rfl).trans ?_
  refine b_ite ?_ ?_
  · refine (e_iconst (code := kX5_checkFreeName) (pc := 43) rfl).trans ?_
    rfl
  · rfl
theorem b_X5_checkFreeName_39 {C : aCall} {σ : aSt} {p : Nat} : b_R C kX5_checkFreeName [] (39, [some (.ref 223), some (.ref 220), some (.ref p), some (.ref 222), none], [], σ) = b_R C kX5_checkFreeName [] (44, [some (.ref 223), some (.ref 220), some (.ref p), some (.ref 222), none], [.int (nI 1)], σ) := by
  refine (e_iconst (code := kX5_checkFreeName) (pc := 39) rfl).trans ?_
  refine (e_goto (code := kX5_checkFreeName) (pc := 40) rfl).trans ?_
  rfl
theorem b_X5_checkFreeName_44 {C : aCall} {σ : aSt} {p : Nat} {y0 : Int32} (h : Sh σ) : b_R C kX5_checkFreeName [] (44, [some (.ref 223), some (.ref 220), some (.ref p), some (.ref 222), none], [.int y0], σ) = (if y0 = 0 then b_R C kX5_checkFreeName [] (59, [some (.ref 223), some (.ref 220), some (.ref p), some (.ref 222), some (.int y0)], [], σ) else b_G C kX5_checkFreeName [] 53 56 [some (.ref 223), some (.ref 220), some (.ref p), some (.ref 222), some (.int y0)] [] (C 27 [.ref 220, .int (nI 3)] σ)) := by
  refine (e_istore (code := kX5_checkFreeName) (pc := 44) rfl rfl rfl).trans ?_
  refine (e_iload (code := kX5_checkFreeName) (pc := 46) rfl rfl).trans ?_
  refine (e_ifeq (code := kX5_checkFreeName) (pc := 48) rfl).trans ?_
  refine b_ite ?_ ?_
  · rfl
  · refine (e_aload_n (code := kX5_checkFreeName) (pc := 51) rfl rfl).trans ?_
    refine (e_iconst (code := kX5_checkFreeName) (pc := 52) rfl).trans ?_
    exact (e_callV (σ := σ) (code := kX5_checkFreeName) (pc := 53) (len := 3) (k := 27) (n := 2) (c := 18) (as := [.ref 220, .int (nI 3)]) (st0 := []) rfl rfl rfl rfl rfl (sk_220 (σ := σ) h) rfl)
theorem b_X5_checkFreeName_56 {C : aCall} {σ : aSt} {p : Nat} {x4 y0 : Int32} : b_R C kX5_checkFreeName [] (56, [some (.ref 223), some (.ref 220), some (.ref p), some (.ref 222), some (.int x4)], [.int y0], σ) = (if y0 = 0 then b_R C kX5_checkFreeName [] (64, [some (.ref 223), some (.ref 220), some (.ref p), some (.ref 222), some (.int x4)], [.int (nI 0)], σ) else b_R C kX5_checkFreeName [] (59, [some (.ref 223), some (.ref 220), some (.ref p), some (.ref 222), some (.int x4)], [], σ)) := by
  refine (e_ifeq (code := kX5_checkFreeName) (pc := 56) rfl).trans ?_
  refine b_ite ?_ ?_
  · refine (e_iconst (code := kX5_checkFreeName) (pc := 63) rfl).trans ?_
    rfl
  · rfl
theorem b_X5_checkFreeName_59 {C : aCall} {σ : aSt} {p : Nat} {x4 : Int32} : b_R C kX5_checkFreeName [] (59, [some (.ref 223), some (.ref 220), some (.ref p), some (.ref 222), some (.int x4)], [], σ) = b_R C kX5_checkFreeName [] (64, [some (.ref 223), some (.ref 220), some (.ref p), some (.ref 222), some (.int x4)], [.int (nI 1)], σ) := by
  refine (e_iconst (code := kX5_checkFreeName) (pc := 59) rfl).trans ?_
  refine (e_goto (code := kX5_checkFreeName) (pc := 60) rfl).trans ?_
  rfl
theorem b_X5_checkFreeName_64 {C : aCall} {σ : aSt} {p : Nat} {x4 y0 : Int32} : b_R C kX5_checkFreeName [] (64, [some (.ref 223), some (.ref 220), some (.ref p), some (.ref 222), some (.int x4)], [.int y0], σ) = b_gd (y0 = 0 ∨ y0 = 1) (some (.inl (some (.int y0)), σ)) := by
  exact e_zreturn rfl
theorem n_X5_startMix {P : aCall} {d : Nat} {σ : aSt} (hd : 1 ≤ d) : a_call a_tab P d 74 [.ref 223, .ref 220] σ = b_R (a_call a_tab P (d - 1)) kX5_startMix [] (0, [some (.ref 223), some (.ref 220)], [], σ) := e_call hd at_X5_startMix rfl
theorem b_X5_startMix_0 {C : aCall} {σ : aSt} (h : Sh σ) : b_R C kX5_startMix [] (0, [some (.ref 223), some (.ref 220)], [], σ) = b_G C kX5_startMix [] 4 7 [some (.ref 223), some (.ref 220)] [] (C 4 [.ref 224] σ) := by
  refine (e_aload_n (code := kX5_startMix) (pc := 0) rfl rfl).trans ?_
  refine (e_getR (code := kX5_startMix) (pc := 1) (c := 7) rfl (sk_223 (σ := σ) h) (sr_223_0 (σ := σ) h)).trans ?_
  exact (e_callV (σ := σ) (code := kX5_startMix) (pc := 4) (len := 3) (k := 4) (n := 1) (c := 16) (as := [.ref 224]) (st0 := []) rfl rfl rfl rfl rfl (sk_224 (σ := σ) h) rfl)
theorem b_X5_startMix_7 {C : aCall} {σ : aSt} (h : Sh σ) : b_R C kX5_startMix [] (7, [some (.ref 223), some (.ref 220)], [], σ) = b_G C kX5_startMix [] 11 14 [some (.ref 223), some (.ref 220)] [] (C 5 [.ref 224] σ) := by
  refine (e_aload_n (code := kX5_startMix) (pc := 7) rfl rfl).trans ?_
  refine (e_getR (code := kX5_startMix) (pc := 8) (c := 7) rfl (sk_223 (σ := σ) h) (sr_223_0 (σ := σ) h)).trans ?_
  exact (e_callV (σ := σ) (code := kX5_startMix) (pc := 11) (len := 3) (k := 5) (n := 1) (c := 16) (as := [.ref 224]) (st0 := []) rfl rfl rfl rfl rfl (sk_224 (σ := σ) h) rfl)
theorem b_X5_startMix_14 {C : aCall} {σ : aSt} {y0 : Int32} (h : Sh σ) : b_R C kX5_startMix [] (14, [some (.ref 223), some (.ref 220)], [.int y0], σ) = b_G C kX5_startMix [] 21 24 [some (.ref 223), some (.ref 220)] [.int (nI 0), .ref 224] (C 23 [.ref 220] σ) := by
  refine (e_pop (code := kX5_startMix) (pc := 14) rfl rfl).trans ?_
  refine (e_aload_n (code := kX5_startMix) (pc := 15) rfl rfl).trans ?_
  refine (e_getR (code := kX5_startMix) (pc := 16) (c := 7) rfl (sk_223 (σ := σ) h) (sr_223_0 (σ := σ) h)).trans ?_
  refine (e_iconst (code := kX5_startMix) (pc := 19) rfl).trans ?_
  refine (e_aload_n (code := kX5_startMix) (pc := 20) rfl rfl).trans ?_
  exact (e_callV (σ := σ) (code := kX5_startMix) (pc := 21) (len := 3) (k := 23) (n := 1) (c := 18) (as := [.ref 220]) (st0 := [.int (nI 0), .ref 224]) rfl rfl rfl rfl rfl (sk_220 (σ := σ) h) rfl)
theorem b_X5_startMix_24 {C : aCall} {σ : aSt} {y1 : Int32} (h : Sh σ) : b_R C kX5_startMix [] (24, [some (.ref 223), some (.ref 220)], [.ref 222, .int y1, .ref 224], σ) = b_G C kX5_startMix [] 24 27 [some (.ref 223), some (.ref 220)] [] (C 10 [.ref 224, .int y1, .ref 222] σ) := by
  exact (e_callV (σ := σ) (code := kX5_startMix) (pc := 24) (len := 3) (k := 10) (n := 3) (c := 16) (as := [.ref 224, .int y1, .ref 222]) (st0 := []) rfl rfl rfl rfl rfl (sk_224 (σ := σ) h) rfl)
theorem b_X5_startMix_27 {C : aCall} {σ : aSt} (h : Sh σ) : b_R C kX5_startMix [] (27, [some (.ref 223), some (.ref 220)], [], σ) = b_G C kX5_startMix [] 28 31 [some (.ref 223), some (.ref 220)] [] (C 18 [.ref 220] σ) := by
  refine (e_aload_n (code := kX5_startMix) (pc := 27) rfl rfl).trans ?_
  exact (e_callV (σ := σ) (code := kX5_startMix) (pc := 28) (len := 3) (k := 18) (n := 1) (c := 18) (as := [.ref 220]) (st0 := []) rfl rfl rfl rfl rfl (sk_220 (σ := σ) h) rfl)
theorem b_X5_startMix_31 {C : aCall} {σ : aSt} (h : Sh σ) : b_R C kX5_startMix [] (31, [some (.ref 223), some (.ref 220)], [], σ) = b_G C kX5_startMix [] 34 37 [some (.ref 223), some (.ref 220)] [] (C 29 [.ref 220, .int (nI 61)] σ) := by
  refine (e_aload_n (code := kX5_startMix) (pc := 31) rfl rfl).trans ?_
  refine (e_bipush (code := kX5_startMix) (pc := 32) rfl).trans ?_
  exact (e_callV (σ := σ) (code := kX5_startMix) (pc := 34) (len := 3) (k := 29) (n := 2) (c := 18) (as := [.ref 220, .int (nI 61)]) (st0 := []) rfl rfl rfl rfl rfl (sk_220 (σ := σ) h) rfl)
theorem b_X5_startMix_37 {C : aCall} {σ : aSt} {y0 : Int32} : b_R C kX5_startMix [] (37, [some (.ref 223), some (.ref 220)], [.int y0], σ) = b_gd (y0 = 0 ∨ y0 = 1) (some (.inl (some (.int y0)), σ)) := by
  exact e_zreturn rfl
theorem n_X5_readParts {P : aCall} {d : Nat} {σ : aSt} {p : Nat} (hd : 1 ≤ d) : a_call a_tab P d 75 [.ref 223, .ref 220, .ref p] σ = b_R (a_call a_tab P (d - 1)) kX5_readParts [] (0, [some (.ref 223), some (.ref 220), some (.ref p), none], [], σ) := e_call hd at_X5_readParts rfl
theorem b_X5_readParts_0 {C : aCall} {σ : aSt} {p : Nat} : b_R C kX5_readParts [] (0, [some (.ref 223), some (.ref 220), some (.ref p), none], [], σ) = b_R C kX5_readParts [] (2, [some (.ref 223), some (.ref 220), some (.ref p), some (.int (nI 0))], [], σ) := by
  refine (e_iconst (code := kX5_readParts) (pc := 0) rfl).trans ?_
  refine (e_istore_n (code := kX5_readParts) (pc := 1) rfl rfl rfl).trans ?_
  rfl
theorem b_X5_readParts_2 {C : aCall} {σ : aSt} {p : Nat} {x3 : Int32} (h : Sh σ) : b_R C kX5_readParts [] (2, [some (.ref 223), some (.ref 220), some (.ref p), some (.int x3)], [], σ) = (if (nI 4) < x3 then some (.inl (some (.int (nI 0))), σ) else b_G C kX5_readParts [] 11 14 [some (.ref 223), some (.ref 220), some (.ref p), some (.int x3)] [] (C 76 [.ref 223, .ref 220, .ref p, .int x3] σ)) := by
  refine (e_iload_n (code := kX5_readParts) (pc := 2) rfl rfl).trans ?_
  refine (e_iconst (code := kX5_readParts) (pc := 3) rfl).trans ?_
  refine (e_icgt (code := kX5_readParts) (pc := 4) rfl).trans ?_
  refine b_ite ?_ ?_
  · refine (e_iconst (code := kX5_readParts) (pc := 40) rfl).trans ?_
    exact (e_zreturn rfl).trans (b_gd_t (by decide))
  · refine (e_aload_n (code := kX5_readParts) (pc := 7) rfl rfl).trans ?_
    refine (e_aload_n (code := kX5_readParts) (pc := 8) rfl rfl).trans ?_
    refine (e_aload_n (code := kX5_readParts) (pc := 9) rfl rfl).trans ?_
    refine (e_iload_n (code := kX5_readParts) (pc := 10) rfl rfl).trans ?_
    exact (e_callV (σ := σ) (code := kX5_readParts) (pc := 11) (len := 3) (k := 76) (n := 4) (c := 17) (as := [.ref 223, .ref 220, .ref p, .int x3]) (st0 := []) rfl rfl rfl rfl rfl (sk_223 (σ := σ) h) rfl)
theorem b_X5_readParts_14 {C : aCall} {σ : aSt} {p : Nat} {x3 y0 : Int32} (h : Sh σ) : b_R C kX5_readParts [] (14, [some (.ref 223), some (.ref 220), some (.ref p), some (.int x3)], [.int y0], σ) = (if y0 = 0 then some (.inl (some (.int (nI 0))), σ) else b_G C kX5_readParts [] 22 25 [some (.ref 223), some (.ref 220), some (.ref p), some (.int x3)] [] (C 24 [.ref 220, .int (nI 43)] σ)) := by
  refine (e_ifne (code := kX5_readParts) (pc := 14) rfl).trans ?_
  refine b_ite ?_ ?_
  · refine (e_iconst (code := kX5_readParts) (pc := 17) rfl).trans ?_
    exact (e_zreturn rfl).trans (b_gd_t (by decide))
  · refine (e_aload_n (code := kX5_readParts) (pc := 19) rfl rfl).trans ?_
    refine (e_bipush (code := kX5_readParts) (pc := 20) rfl).trans ?_
    exact (e_callV (σ := σ) (code := kX5_readParts) (pc := 22) (len := 3) (k := 24) (n := 2) (c := 18) (as := [.ref 220, .int (nI 43)]) (st0 := []) rfl rfl rfl rfl rfl (sk_220 (σ := σ) h) rfl)
theorem b_X5_readParts_25 {C : aCall} {σ : aSt} {p : Nat} {x3 y0 : Int32} (h : Sh σ) : b_R C kX5_readParts [] (25, [some (.ref 223), some (.ref 220), some (.ref p), some (.int x3)], [.int y0], σ) = (if y0 = 0 then some (.inl (some (.int (nI 1))), σ) else b_G C kX5_readParts [] 31 34 [some (.ref 223), some (.ref 220), some (.ref p), some (.int x3)] [] (C 18 [.ref 220] σ)) := by
  refine (e_ifne (code := kX5_readParts) (pc := 25) rfl).trans ?_
  refine b_ite ?_ ?_
  · refine (e_iconst (code := kX5_readParts) (pc := 28) rfl).trans ?_
    exact (e_zreturn rfl).trans (b_gd_t (by decide))
  · refine (e_aload_n (code := kX5_readParts) (pc := 30) rfl rfl).trans ?_
    exact (e_callV (σ := σ) (code := kX5_readParts) (pc := 31) (len := 3) (k := 18) (n := 1) (c := 18) (as := [.ref 220]) (st0 := []) rfl rfl rfl rfl rfl (sk_220 (σ := σ) h) rfl)
theorem b_X5_readParts_34 {C : aCall} {σ : aSt} {p : Nat} {x3 : Int32} : b_R C kX5_readParts [] (34, [some (.ref 223), some (.ref 220), some (.ref p), some (.int x3)], [], σ) = b_R C kX5_readParts [] (2, [some (.ref 223), some (.ref 220), some (.ref p), some (.int (x3 + nI 1))], [], σ) := by
  refine (e_iinc (code := kX5_readParts) (pc := 34) rfl rfl rfl rfl).trans ?_
  refine (e_goto (code := kX5_readParts) (pc := 37) rfl).trans ?_
  rfl
theorem n_X5_readPart {P : aCall} {d : Nat} {σ : aSt} {p : Nat} {x3 : Int32} (hd : 1 ≤ d) : a_call a_tab P d 76 [.ref 223, .ref 220, .ref p, .int x3] σ = b_R (a_call a_tab P (d - 1)) kX5_readPart [] (0, [some (.ref 223), some (.ref 220), some (.ref p), some (.int x3), none, none], [], σ) := e_call hd at_X5_readPart rfl
theorem b_X5_readPart_0 {C : aCall} {σ : aSt} {p : Nat} {x3 : Int32} (h : Sh σ) : b_R C kX5_readPart [] (0, [some (.ref 223), some (.ref 220), some (.ref p), some (.int x3), none, none], [], σ) = (if x3 < (nI 4) then b_R C kX5_readPart [] (35, [some (.ref 223), some (.ref 220), some (.ref p), some (.int x3), none, none], [], σ) else b_G C kX5_readPart [] 6 9 [some (.ref 223), some (.ref 220), some (.ref p), some (.int x3), none, none] [] (C 20 [.ref 220] σ)) := by
  refine (e_iload_n (code := kX5_readPart) (pc := 0) rfl rfl).trans ?_
  refine (e_iconst (code := kX5_readPart) (pc := 1) rfl).trans ?_
  refine (e_iclt (code := kX5_readPart) (pc := 2) rfl).trans ?_
  refine b_ite ?_ ?_
  · rfl
  · refine (e_aload_n (code := kX5_readPart) (pc := 5) rfl rfl).trans ?_
    exact (e_callV (σ := σ) (code := kX5_readPart) (pc := 6) (len := 3) (k := 20) (n := 1) (c := 18) (as := [.ref 220]) (st0 := []) rfl rfl rfl rfl rfl (sk_220 (σ := σ) h) rfl)
theorem b_X5_readPart_9 {C : aCall} {σ : aSt} {p : Nat} {x3 y0 : Int32} (h : Sh σ) : b_R C kX5_readPart [] (9, [some (.ref 223), some (.ref 220), some (.ref p), some (.int x3), none, none], [.int y0], σ) = (if y0 = 0 then b_R C kX5_readPart [] (35, [some (.ref 223), some (.ref 220), some (.ref p), some (.int x3), none, none], [], σ) else (if (a_I σ 220 6) < (nI 1) then b_R C kX5_readPart [] (35, [some (.ref 223), some (.ref 220), some (.ref p), some (.int x3), none, none], [], σ) else (if (nI 9) < (a_I σ 220 6) then b_R C kX5_readPart [] (35, [some (.ref 223), some (.ref 220), some (.ref p), some (.int x3), none, none], [], σ) else b_G C kX5_readPart [] 31 34 [some (.ref 223), some (.ref 220), some (.ref p), some (.int x3), none, none] [] (C 27 [.ref 220, .int (nI 3)] σ)))) := by
  refine (e_ifeq (code := kX5_readPart) (pc := 9) rfl).trans ?_
  refine b_ite ?_ ?_
  · rfl
  · refine (e_aload_n (code := kX5_readPart) (pc := 12) rfl rfl).trans ?_
    refine (e_getI (code := kX5_readPart) (pc := 13) (c := 8) rfl (sk_220 (σ := σ) h) rfl).trans ?_
    refine (e_iconst (code := kX5_readPart) (pc := 16) rfl).trans ?_
    refine (e_iclt (code := kX5_readPart) (pc := 17) rfl).trans ?_
    refine b_ite ?_ ?_
    · rfl
    · refine (e_aload_n (code := kX5_readPart) (pc := 20) rfl rfl).trans ?_
      refine (e_getI (code := kX5_readPart) (pc := 21) (c := 8) rfl (sk_220 (σ := σ) h) rfl).trans ?_
      refine (e_bipush (code := kX5_readPart) (pc := 24) rfl).trans ?_
      refine (e_icgt (code := kX5_readPart) (pc := 26) rfl).trans ?_
      refine b_ite ?_ ?_
      · rfl
      · refine (e_aload_n (code := kX5_readPart) (pc := 29) rfl rfl).trans ?_
        refine (e_iconst (code := kX5_readPart) (pc := 30) rfl).trans ?_
        exact (e_callV (σ := σ) (code := kX5_readPart) (pc := 31) (len := 3) (k := 27) (n := 2) (c := 18) (as := [.ref 220, .int (nI 3)]) (st0 := []) rfl rfl rfl rfl rfl (sk_220 (σ := σ) h) rfl)
theorem b_X5_readPart_34 {C : aCall} {σ : aSt} {p : Nat} {x3 y0 : Int32} : b_R C kX5_readPart [] (34, [some (.ref 223), some (.ref 220), some (.ref p), some (.int x3), none, none], [.int y0], σ) = b_gd (y0 = 0 ∨ y0 = 1) (some (.inl (some (.int y0)), σ)) := by
  exact e_zreturn rfl
theorem b_X5_readPart_35 {C : aCall} {σ : aSt} {p : Nat} {x3 : Int32} (h : Sh σ) : b_R C kX5_readPart [] (35, [some (.ref 223), some (.ref 220), some (.ref p), some (.int x3), none, none], [], σ) = b_G C kX5_readPart [] 39 42 [some (.ref 223), some (.ref 220), some (.ref p), some (.int x3), none, none] [] (C 31 [.ref 220, .int (nI 1), .int (nI 9)] σ) := by
  refine (e_aload_n (code := kX5_readPart) (pc := 35) rfl rfl).trans ?_
  refine (e_iconst (code := kX5_readPart) (pc := 36) rfl).trans ?_
  refine (e_bipush (code := kX5_readPart) (pc := 37) rfl).trans ?_
  exact (e_callV (σ := σ) (code := kX5_readPart) (pc := 39) (len := 3) (k := 31) (n := 3) (c := 18) (as := [.ref 220, .int (nI 1), .int (nI 9)]) (st0 := []) rfl rfl rfl rfl rfl (sk_220 (σ := σ) h) rfl)
theorem b_X5_readPart_42 {C : aCall} {σ : aSt} {p : Nat} {x3 y0 : Int32} (h : Sh σ) : b_R C kX5_readPart [] (42, [some (.ref 223), some (.ref 220), some (.ref p), some (.int x3), none, none], [.int y0], σ) = (if y0 = ((-1)) then some (.inl (some (.int (nI 0))), σ) else b_G C kX5_readPart [] 53 56 [some (.ref 223), some (.ref 220), some (.ref p), some (.int x3), some (.int y0), none] [] (C 21 [.ref 220] σ)) := by
  refine (e_istore (code := kX5_readPart) (pc := 42) rfl rfl rfl).trans ?_
  refine (e_iload (code := kX5_readPart) (pc := 44) rfl rfl).trans ?_
  refine (e_iconst (code := kX5_readPart) (pc := 46) rfl).trans ?_
  refine (e_icne (code := kX5_readPart) (pc := 47) rfl).trans ?_
  refine b_ite ?_ ?_
  · refine (e_iconst (code := kX5_readPart) (pc := 50) rfl).trans ?_
    exact (e_zreturn rfl).trans (b_gd_t (by decide))
  · refine (e_aload_n (code := kX5_readPart) (pc := 52) rfl rfl).trans ?_
    exact (e_callV (σ := σ) (code := kX5_readPart) (pc := 53) (len := 3) (k := 21) (n := 1) (c := 18) (as := [.ref 220]) (st0 := []) rfl rfl rfl rfl rfl (sk_220 (σ := σ) h) rfl)
theorem b_X5_readPart_56 {C : aCall} {σ : aSt} {p : Nat} {x3 x4 y0 : Int32} (h : Sh σ) : b_R C kX5_readPart [] (56, [some (.ref 223), some (.ref 220), some (.ref p), some (.int x3), some (.int x4), none], [.int y0], σ) = (if y0 = 0 then b_G C kX5_readPart [] 61 64 [some (.ref 223), some (.ref 220), some (.ref p), some (.int x3), some (.int x4), none] [] (C 27 [.ref 220, .int (nI 1)] σ) else b_G C kX5_readPart [] 66 69 [some (.ref 223), some (.ref 220), some (.ref p), some (.int x3), some (.int x4), none] [] (C 22 [.ref 220] σ)) := by
  refine (e_ifne (code := kX5_readPart) (pc := 56) rfl).trans ?_
  refine b_ite ?_ ?_
  · refine (e_aload_n (code := kX5_readPart) (pc := 59) rfl rfl).trans ?_
    refine (e_iconst (code := kX5_readPart) (pc := 60) rfl).trans ?_
    exact (e_callV (σ := σ) (code := kX5_readPart) (pc := 61) (len := 3) (k := 27) (n := 2) (c := 18) (as := [.ref 220, .int (nI 1)]) (st0 := []) rfl rfl rfl rfl rfl (sk_220 (σ := σ) h) rfl)
  · refine (e_aload_n (code := kX5_readPart) (pc := 65) rfl rfl).trans ?_
    exact (e_callV (σ := σ) (code := kX5_readPart) (pc := 66) (len := 3) (k := 22) (n := 1) (c := 18) (as := [.ref 220]) (st0 := []) rfl rfl rfl rfl rfl (sk_220 (σ := σ) h) rfl)
theorem b_X5_readPart_64 {C : aCall} {σ : aSt} {p : Nat} {x3 x4 y0 : Int32} : b_R C kX5_readPart [] (64, [some (.ref 223), some (.ref 220), some (.ref p), some (.int x3), some (.int x4), none], [.int y0], σ) = b_gd (y0 = 0 ∨ y0 = 1) (some (.inl (some (.int y0)), σ)) := by
  exact e_zreturn rfl
theorem b_X5_readPart_69 {C : aCall} {σ : aSt} {p : Nat} {x3 x4 y0 : Int32} (h : Sh σ) (hp : Pa σ p) : b_R C kX5_readPart [] (69, [some (.ref 223), some (.ref 220), some (.ref p), some (.int x3), some (.int x4), none], [.int y0], σ) = (if y0 = 0 then b_G C kX5_readPart [] 81 84 [some (.ref 223), some (.ref 220), some (.ref p), some (.int x3), some (.int x4), none] [.ref (p + 1)] (C 23 [.ref 220] σ) else b_R C kX5_readPart [] (87, [some (.ref 223), some (.ref 220), some (.ref p), some (.int x3), some (.int x4), none], [.int ((-1))], σ)) := by
  refine (e_ifeq (code := kX5_readPart) (pc := 69) rfl).trans ?_
  refine b_ite ?_ ?_
  · refine (e_aload_n (code := kX5_readPart) (pc := 76) rfl rfl).trans ?_
    refine (e_getR (code := kX5_readPart) (pc := 77) (c := 3) rfl hp.1 hp.2.2.1).trans ?_
    refine (e_aload_n (code := kX5_readPart) (pc := 80) rfl rfl).trans ?_
    exact (e_callV (σ := σ) (code := kX5_readPart) (pc := 81) (len := 3) (k := 23) (n := 1) (c := 18) (as := [.ref 220]) (st0 := [.ref (p + 1)]) rfl rfl rfl rfl rfl (sk_220 (σ := σ) h) rfl)
  · refine (e_iconst (code := kX5_readPart) (pc := 72) rfl).trans ?_
    refine (e_goto (code := kX5_readPart) (pc := 73) rfl).trans ?_
    rfl
theorem b_X5_readPart_84 {C : aCall} {σ : aSt} {p : Nat} {x3 x4 : Int32} (hp : Pa σ p) : b_R C kX5_readPart [] (84, [some (.ref 223), some (.ref 220), some (.ref p), some (.int x3), some (.int x4), none], [.ref 222, .ref (p + 1)], σ) = b_G C kX5_readPart [] 84 87 [some (.ref 223), some (.ref 220), some (.ref p), some (.int x3), some (.int x4), none] [] (C 11 [.ref (p + 1), .ref 222] σ) := by
  exact (e_callV (σ := σ) (code := kX5_readPart) (pc := 84) (len := 3) (k := 11) (n := 2) (c := 16) (as := [.ref (p + 1), .ref 222]) (st0 := []) rfl rfl rfl rfl rfl hp.2.2.2.2.2.2.1.1 rfl)
theorem b_X5_readPart_87 {C : aCall} {σ : aSt} {p : Nat} {x3 x4 y0 : Int32} (h : Sh σ) (hp : Pa σ p) : b_R C kX5_readPart [] (87, [some (.ref 223), some (.ref 220), some (.ref p), some (.int x3), some (.int x4), none], [.int y0], σ) = (if y0 = ((-1)) then b_R C kX5_readPart [] (109, [some (.ref 223), some (.ref 220), some (.ref p), some (.int x3), some (.int x4), some (.int y0)], [], σ) else b_G C kX5_readPart [] 103 106 [some (.ref 223), some (.ref 220), some (.ref p), some (.int x3), some (.int x4), some (.int y0)] [] (C 39 [.ref p, .ref 224, .int (nI 0), .int y0] σ)) := by
  refine (e_istore (code := kX5_readPart) (pc := 87) rfl rfl rfl).trans ?_
  refine (e_iload (code := kX5_readPart) (pc := 89) rfl rfl).trans ?_
  refine (e_iconst (code := kX5_readPart) (pc := 91) rfl).trans ?_
  refine (e_iceq (code := kX5_readPart) (pc := 92) rfl).trans ?_
  refine b_ite ?_ ?_
  · rfl
  · refine (e_aload_n (code := kX5_readPart) (pc := 95) rfl rfl).trans ?_
    refine (e_aload_n (code := kX5_readPart) (pc := 96) rfl rfl).trans ?_
    refine (e_getR (code := kX5_readPart) (pc := 97) (c := 7) rfl (sk_223 (σ := σ) h) (sr_223_0 (σ := σ) h)).trans ?_
    refine (e_iconst (code := kX5_readPart) (pc := 100) rfl).trans ?_
    refine (e_iload (code := kX5_readPart) (pc := 101) rfl rfl).trans ?_
    exact (e_callV (σ := σ) (code := kX5_readPart) (pc := 103) (len := 3) (k := 39) (n := 4) (c := 13) (as := [.ref p, .ref 224, .int (nI 0), .int y0]) (st0 := []) rfl rfl rfl rfl rfl hp.1 rfl)
theorem b_X5_readPart_106 {C : aCall} {σ : aSt} {p : Nat} {x3 x4 x5 y0 : Int32} (h : Sh σ) : b_R C kX5_readPart [] (106, [some (.ref 223), some (.ref 220), some (.ref p), some (.int x3), some (.int x4), some (.int x5)], [.int y0], σ) = (if y0 = 0 then b_G C kX5_readPart [] 126 129 [some (.ref 223), some (.ref 220), some (.ref p), some (.int x3), some (.int x4), some (.int x5)] [] (C 2 [.ref 224, .int (nI 0), .int ((nI 9) + x3), .int x5] σ) else b_R C kX5_readPart [] (109, [some (.ref 223), some (.ref 220), some (.ref p), some (.int x3), some (.int x4), some (.int x5)], [], σ)) := by
  refine (e_ifeq (code := kX5_readPart) (pc := 106) rfl).trans ?_
  refine b_ite ?_ ?_
  · refine (e_aload_n (code := kX5_readPart) (pc := 115) rfl rfl).trans ?_
    refine (e_getR (code := kX5_readPart) (pc := 116) (c := 7) rfl (sk_223 (σ := σ) h) (sr_223_0 (σ := σ) h)).trans ?_
    refine (e_iconst (code := kX5_readPart) (pc := 119) rfl).trans ?_
    refine (e_bipush (code := kX5_readPart) (pc := 120) rfl).trans ?_
    refine (e_iload_n (code := kX5_readPart) (pc := 122) rfl rfl).trans ?_
    refine (e_iadd (code := kX5_readPart) (pc := 123) rfl).trans ?_
    refine (e_iload (code := kX5_readPart) (pc := 124) rfl rfl).trans ?_
    exact (e_callV (σ := σ) (code := kX5_readPart) (pc := 126) (len := 3) (k := 2) (n := 4) (c := 16) (as := [.ref 224, .int (nI 0), .int ((nI 9) + x3), .int x5]) (st0 := []) rfl rfl rfl rfl rfl (sk_224 (σ := σ) h) rfl)
  · rfl
theorem b_X5_readPart_109 {C : aCall} {σ : aSt} {p : Nat} {x3 x4 x5 : Int32} (h : Sh σ) : b_R C kX5_readPart [] (109, [some (.ref 223), some (.ref 220), some (.ref p), some (.int x3), some (.int x4), some (.int x5)], [], σ) = b_G C kX5_readPart [] 111 114 [some (.ref 223), some (.ref 220), some (.ref p), some (.int x3), some (.int x4), some (.int x5)] [] (C 27 [.ref 220, .int (nI 4)] σ) := by
  refine (e_aload_n (code := kX5_readPart) (pc := 109) rfl rfl).trans ?_
  refine (e_iconst (code := kX5_readPart) (pc := 110) rfl).trans ?_
  exact (e_callV (σ := σ) (code := kX5_readPart) (pc := 111) (len := 3) (k := 27) (n := 2) (c := 18) (as := [.ref 220, .int (nI 4)]) (st0 := []) rfl rfl rfl rfl rfl (sk_220 (σ := σ) h) rfl)
theorem b_X5_readPart_114 {C : aCall} {σ : aSt} {p : Nat} {x3 x4 x5 y0 : Int32} : b_R C kX5_readPart [] (114, [some (.ref 223), some (.ref 220), some (.ref p), some (.int x3), some (.int x4), some (.int x5)], [.int y0], σ) = b_gd (y0 = 0 ∨ y0 = 1) (some (.inl (some (.int y0)), σ)) := by
  exact e_zreturn rfl
theorem b_X5_readPart_129 {C : aCall} {σ : aSt} {p : Nat} {x3 x4 x5 : Int32} (h : Sh σ) : b_R C kX5_readPart [] (129, [some (.ref 223), some (.ref 220), some (.ref p), some (.int x3), some (.int x4), some (.int x5)], [], σ) = b_G C kX5_readPart [] 140 143 [some (.ref 223), some (.ref 220), some (.ref p), some (.int x3), some (.int x4), some (.int x5)] [] (C 2 [.ref 224, .int (nI 0), .int ((nI 13) + x3), .int x4] σ) := by
  refine (e_aload_n (code := kX5_readPart) (pc := 129) rfl rfl).trans ?_
  refine (e_getR (code := kX5_readPart) (pc := 130) (c := 7) rfl (sk_223 (σ := σ) h) (sr_223_0 (σ := σ) h)).trans ?_
  refine (e_iconst (code := kX5_readPart) (pc := 133) rfl).trans ?_
  refine (e_bipush (code := kX5_readPart) (pc := 134) rfl).trans ?_
  refine (e_iload_n (code := kX5_readPart) (pc := 136) rfl rfl).trans ?_
  refine (e_iadd (code := kX5_readPart) (pc := 137) rfl).trans ?_
  refine (e_iload (code := kX5_readPart) (pc := 138) rfl rfl).trans ?_
  exact (e_callV (σ := σ) (code := kX5_readPart) (pc := 140) (len := 3) (k := 2) (n := 4) (c := 16) (as := [.ref 224, .int (nI 0), .int ((nI 13) + x3), .int x4]) (st0 := []) rfl rfl rfl rfl rfl (sk_224 (σ := σ) h) rfl)
theorem b_X5_readPart_143 {C : aCall} {σ : aSt} {p : Nat} {x3 x4 x5 : Int32} (h : Sh σ) : b_R C kX5_readPart [] (143, [some (.ref 223), some (.ref 220), some (.ref p), some (.int x3), some (.int x4), some (.int x5)], [], σ) = b_G C kX5_readPart [] 153 156 [some (.ref 223), some (.ref 220), some (.ref p), some (.int x3), some (.int x4), some (.int x5)] [] (C 2 [.ref 224, .int (nI 0), .int (nI 8), .int (x3 + (nI 1))] σ) := by
  refine (e_aload_n (code := kX5_readPart) (pc := 143) rfl rfl).trans ?_
  refine (e_getR (code := kX5_readPart) (pc := 144) (c := 7) rfl (sk_223 (σ := σ) h) (sr_223_0 (σ := σ) h)).trans ?_
  refine (e_iconst (code := kX5_readPart) (pc := 147) rfl).trans ?_
  refine (e_bipush (code := kX5_readPart) (pc := 148) rfl).trans ?_
  refine (e_iload_n (code := kX5_readPart) (pc := 150) rfl rfl).trans ?_
  refine (e_iconst (code := kX5_readPart) (pc := 151) rfl).trans ?_
  refine (e_iadd (code := kX5_readPart) (pc := 152) rfl).trans ?_
  exact (e_callV (σ := σ) (code := kX5_readPart) (pc := 153) (len := 3) (k := 2) (n := 4) (c := 16) (as := [.ref 224, .int (nI 0), .int (nI 8), .int (x3 + (nI 1))]) (st0 := []) rfl rfl rfl rfl rfl (sk_224 (σ := σ) h) rfl)
theorem b_X5_readPart_156 {C : aCall} {σ : aSt} {p : Nat} {x3 x4 x5 : Int32} (h : Sh σ) : b_R C kX5_readPart [] (156, [some (.ref 223), some (.ref 220), some (.ref p), some (.int x3), some (.int x4), some (.int x5)], [], σ) = b_G C kX5_readPart [] 157 160 [some (.ref 223), some (.ref 220), some (.ref p), some (.int x3), some (.int x4), some (.int x5)] [] (C 18 [.ref 220] σ) := by
  refine (e_aload_n (code := kX5_readPart) (pc := 156) rfl rfl).trans ?_
  exact (e_callV (σ := σ) (code := kX5_readPart) (pc := 157) (len := 3) (k := 18) (n := 1) (c := 18) (as := [.ref 220]) (st0 := []) rfl rfl rfl rfl rfl (sk_220 (σ := σ) h) rfl)
theorem b_X5_readPart_160 {C : aCall} {σ : aSt} {p : Nat} {x3 x4 x5 : Int32} : b_R C kX5_readPart [] (160, [some (.ref 223), some (.ref 220), some (.ref p), some (.int x3), some (.int x4), some (.int x5)], [], σ) = some (.inl (some (.int (nI 1))), σ) := by
  refine (e_iconst (code := kX5_readPart) (pc := 160) rfl).trans ?_
  exact (e_zreturn rfl).trans (b_gd_t (by decide))
theorem n_X5_readBareMix {P : aCall} {d : Nat} {σ : aSt} {p : Nat} (hd : 1 ≤ d) : a_call a_tab P d 77 [.ref 223, .ref 220, .ref p] σ = b_R (a_call a_tab P (d - 1)) kX5_readBareMix [] (0, [some (.ref 223), some (.ref 220), some (.ref p)], [], σ) := e_call hd at_X5_readBareMix rfl
theorem b_X5_readBareMix_0 {C : aCall} {σ : aSt} {p : Nat} (h : Sh σ) : b_R C kX5_readBareMix [] (0, [some (.ref 223), some (.ref 220), some (.ref p)], [], σ) = b_G C kX5_readBareMix [] 4 7 [some (.ref 223), some (.ref 220), some (.ref p)] [] (C 4 [.ref 224] σ) := by
  refine (e_aload_n (code := kX5_readBareMix) (pc := 0) rfl rfl).trans ?_
  refine (e_getR (code := kX5_readBareMix) (pc := 1) (c := 7) rfl (sk_223 (σ := σ) h) (sr_223_0 (σ := σ) h)).trans ?_
  exact (e_callV (σ := σ) (code := kX5_readBareMix) (pc := 4) (len := 3) (k := 4) (n := 1) (c := 16) (as := [.ref 224]) (st0 := []) rfl rfl rfl rfl rfl (sk_224 (σ := σ) h) rfl)
theorem b_X5_readBareMix_7 {C : aCall} {σ : aSt} {p : Nat} (h : Sh σ) : b_R C kX5_readBareMix [] (7, [some (.ref 223), some (.ref 220), some (.ref p)], [], σ) = b_G C kX5_readBareMix [] 11 14 [some (.ref 223), some (.ref 220), some (.ref p)] [] (C 5 [.ref 224] σ) := by
  refine (e_aload_n (code := kX5_readBareMix) (pc := 7) rfl rfl).trans ?_
  refine (e_getR (code := kX5_readBareMix) (pc := 8) (c := 7) rfl (sk_223 (σ := σ) h) (sr_223_0 (σ := σ) h)).trans ?_
  exact (e_callV (σ := σ) (code := kX5_readBareMix) (pc := 11) (len := 3) (k := 5) (n := 1) (c := 16) (as := [.ref 224]) (st0 := []) rfl rfl rfl rfl rfl (sk_224 (σ := σ) h) rfl)
theorem b_X5_readBareMix_14 {C : aCall} {σ : aSt} {p : Nat} {y0 : Int32} (h : Sh σ) : b_R C kX5_readBareMix [] (14, [some (.ref 223), some (.ref 220), some (.ref p)], [.int y0], σ) = b_G C kX5_readBareMix [] 18 21 [some (.ref 223), some (.ref 220), some (.ref p)] [] (C 75 [.ref 223, .ref 220, .ref p] σ) := by
  refine (e_pop (code := kX5_readBareMix) (pc := 14) rfl rfl).trans ?_
  refine (e_aload_n (code := kX5_readBareMix) (pc := 15) rfl rfl).trans ?_
  refine (e_aload_n (code := kX5_readBareMix) (pc := 16) rfl rfl).trans ?_
  refine (e_aload_n (code := kX5_readBareMix) (pc := 17) rfl rfl).trans ?_
  exact (e_callV (σ := σ) (code := kX5_readBareMix) (pc := 18) (len := 3) (k := 75) (n := 3) (c := 17) (as := [.ref 223, .ref 220, .ref p]) (st0 := []) rfl rfl rfl rfl rfl (sk_223 (σ := σ) h) rfl)
theorem b_X5_readBareMix_21 {C : aCall} {σ : aSt} {p : Nat} {y0 : Int32} (h : Sh σ) : b_R C kX5_readBareMix [] (21, [some (.ref 223), some (.ref 220), some (.ref p)], [.int y0], σ) = (if y0 = 0 then b_R C kX5_readBareMix [] (35, [some (.ref 223), some (.ref 220), some (.ref p)], [], σ) else b_G C kX5_readBareMix [] 25 28 [some (.ref 223), some (.ref 220), some (.ref p)] [] (C 30 [.ref 220] σ)) := by
  refine (e_ifeq (code := kX5_readBareMix) (pc := 21) rfl).trans ?_
  refine b_ite ?_ ?_
  · rfl
  · refine (e_aload_n (code := kX5_readBareMix) (pc := 24) rfl rfl).trans ?_
    exact (e_callV (σ := σ) (code := kX5_readBareMix) (pc := 25) (len := 3) (k := 30) (n := 1) (c := 18) (as := [.ref 220]) (st0 := []) rfl rfl rfl rfl rfl (sk_220 (σ := σ) h) rfl)
theorem b_X5_readBareMix_28 {C : aCall} {σ : aSt} {p : Nat} {y0 : Int32} : b_R C kX5_readBareMix [] (28, [some (.ref 223), some (.ref 220), some (.ref p)], [.int y0], σ) = (if y0 = 0 then b_R C kX5_readBareMix [] (35, [some (.ref 223), some (.ref 220), some (.ref p)], [], σ) else b_R C kX5_readBareMix [] (36, [some (.ref 223), some (.ref 220), some (.ref p)], [.int (nI 1)], σ)) := by
  refine (e_ifeq (code := kX5_readBareMix) (pc := 28) rfl).trans ?_
  refine b_ite ?_ ?_
  · rfl
  · refine (e_iconst (code := kX5_readBareMix) (pc := 31) rfl).trans ?_
    refine (e_goto (code := kX5_readBareMix) (pc := 32) rfl).trans ?_
    rfl
theorem b_X5_readBareMix_35 {C : aCall} {σ : aSt} {p : Nat} : b_R C kX5_readBareMix [] (35, [some (.ref 223), some (.ref 220), some (.ref p)], [], σ) = b_R C kX5_readBareMix [] (36, [some (.ref 223), some (.ref 220), some (.ref p)], [.int (nI 0)], σ) := by
  refine (e_iconst (code := kX5_readBareMix) (pc := 35) rfl).trans ?_
  rfl
theorem b_X5_readBareMix_36 {C : aCall} {σ : aSt} {p : Nat} {y0 : Int32} : b_R C kX5_readBareMix [] (36, [some (.ref 223), some (.ref 220), some (.ref p)], [.int y0], σ) = b_gd (y0 = 0 ∨ y0 = 1) (some (.inl (some (.int y0)), σ)) := by
  exact e_zreturn rfl
theorem n_X5_readDefinition {P : aCall} {d : Nat} {σ : aSt} {p : Nat} (hd : 1 ≤ d) : a_call a_tab P d 78 [.ref 223, .ref 220, .ref p] σ = b_R (a_call a_tab P (d - 1)) kX5_readDefinition [] (0, [some (.ref 223), some (.ref 220), some (.ref p), none], [], σ) := e_call hd at_X5_readDefinition rfl
theorem b_X5_readDefinition_0 {C : aCall} {σ : aSt} {p : Nat} (h : Sh σ) : b_R C kX5_readDefinition [] (0, [some (.ref 223), some (.ref 220), some (.ref p), none], [], σ) = b_G C kX5_readDefinition [] 2 5 [some (.ref 223), some (.ref 220), some (.ref p), none] [] (C 72 [.ref 223, .ref 220] σ) := by
  refine (e_aload_n (code := kX5_readDefinition) (pc := 0) rfl rfl).trans ?_
  refine (e_aload_n (code := kX5_readDefinition) (pc := 1) rfl rfl).trans ?_
  exact (e_callV (σ := σ) (code := kX5_readDefinition) (pc := 2) (len := 3) (k := 72) (n := 2) (c := 17) (as := [.ref 223, .ref 220]) (st0 := []) rfl rfl rfl rfl rfl (sk_223 (σ := σ) h) rfl)
theorem b_X5_readDefinition_5 {C : aCall} {σ : aSt} {p : Nat} {y0 : Int32} (h : Sh σ) : b_R C kX5_readDefinition [] (5, [some (.ref 223), some (.ref 220), some (.ref p), none], [.int y0], σ) = (if y0 = 0 then some (.inl (some (.int (nI 0))), σ) else b_G C kX5_readDefinition [] 11 14 [some (.ref 223), some (.ref 220), some (.ref p), none] [] (C 23 [.ref 220] σ)) := by
  refine (e_ifne (code := kX5_readDefinition) (pc := 5) rfl).trans ?_
  refine b_ite ?_ ?_
  · refine (e_iconst (code := kX5_readDefinition) (pc := 8) rfl).trans ?_
    exact (e_zreturn rfl).trans (b_gd_t (by decide))
  · refine (e_aload_n (code := kX5_readDefinition) (pc := 10) rfl rfl).trans ?_
    exact (e_callV (σ := σ) (code := kX5_readDefinition) (pc := 11) (len := 3) (k := 23) (n := 1) (c := 18) (as := [.ref 220]) (st0 := []) rfl rfl rfl rfl rfl (sk_220 (σ := σ) h) rfl)
theorem b_X5_readDefinition_14 {C : aCall} {σ : aSt} {p : Nat} (hp : Pa σ p) : b_R C kX5_readDefinition [] (14, [some (.ref 223), some (.ref 220), some (.ref p), none], [.ref 222], σ) = b_G C kX5_readDefinition [] 21 24 [some (.ref 223), some (.ref 220), some (.ref p), some (.ref 222)] [.ref 223] (C 11 [.ref (p + 3), .ref 222] σ) := by
  refine (e_astore_n (code := kX5_readDefinition) (pc := 14) rfl rfl rfl).trans ?_
  refine (e_aload_n (code := kX5_readDefinition) (pc := 15) rfl rfl).trans ?_
  refine (e_aload_n (code := kX5_readDefinition) (pc := 16) rfl rfl).trans ?_
  refine (e_getR (code := kX5_readDefinition) (pc := 17) (c := 3) rfl hp.1 hp.2.2.2.1).trans ?_
  refine (e_aload_n (code := kX5_readDefinition) (pc := 20) rfl rfl).trans ?_
  exact (e_callV (σ := σ) (code := kX5_readDefinition) (pc := 21) (len := 3) (k := 11) (n := 2) (c := 16) (as := [.ref (p + 3), .ref 222]) (st0 := [.ref 223]) rfl rfl rfl rfl rfl hp.2.2.2.2.2.2.2.1.1 rfl)
theorem b_X5_readDefinition_24 {C : aCall} {σ : aSt} {p : Nat} {y0 : Int32} (h : Sh σ) (hp : Pa σ p) : b_R C kX5_readDefinition [] (24, [some (.ref 223), some (.ref 220), some (.ref p), some (.ref 222)], [.int y0, .ref 223], σ) = b_G C kX5_readDefinition [] 32 35 [some (.ref 223), some (.ref 220), some (.ref p), some (.ref 222)] [] (C 11 [.ref (p + 1), .ref 222] (a_setI σ 223 1 y0)) := by
  refine (e_putI (code := kX5_readDefinition) (pc := 24) (c := 7) rfl (sk_223 (σ := σ) h) (h_100 rfl)).trans ?_
  refine (e_aload_n (code := kX5_readDefinition) (pc := 27) (σ := (a_setI σ 223 1 y0)) rfl rfl).trans ?_
  refine (e_getR (code := kX5_readDefinition) (pc := 28) (σ := (a_setI σ 223 1 y0)) (c := 3) rfl hp.1 hp.2.2.1).trans ?_
  refine (e_aload_n (code := kX5_readDefinition) (pc := 31) (σ := (a_setI σ 223 1 y0)) rfl rfl).trans ?_
  exact (e_callV (σ := (a_setI σ 223 1 y0)) (code := kX5_readDefinition) (pc := 32) (len := 3) (k := 11) (n := 2) (c := 16) (as := [.ref (p + 1), .ref 222]) (st0 := []) rfl rfl rfl rfl rfl hp.2.2.2.2.2.2.1.1 rfl)
theorem b_X5_readDefinition_35 {C : aCall} {σ : aSt} {p : Nat} {y0 : Int32} (h : Sh σ) (hp : Pa σ p) : b_R C kX5_readDefinition [] (35, [some (.ref 223), some (.ref 220), some (.ref p), some (.ref 222)], [.int y0], σ) = (if y0 = ((-1)) then (if (a_I σ 223 1) = ((-1)) then b_G C kX5_readDefinition [] 51 54 [some (.ref 223), some (.ref 220), some (.ref p), some (.ref 222)] [] (C 3 [.ref (p + 3)] σ) else b_R C kX5_readDefinition [] (63, [some (.ref 223), some (.ref 220), some (.ref p), some (.ref 222)], [], σ)) else b_R C kX5_readDefinition [] (57, [some (.ref 223), some (.ref 220), some (.ref p), some (.ref 222)], [], σ)) := by
  refine (e_iconst (code := kX5_readDefinition) (pc := 35) rfl).trans ?_
  refine (e_icne (code := kX5_readDefinition) (pc := 36) rfl).trans ?_
  refine b_ite ?_ ?_
  · refine (e_aload_n (code := kX5_readDefinition) (pc := 39) rfl rfl).trans ?_
    refine (e_getI (code := kX5_readDefinition) (pc := 40) (c := 7) rfl (sk_223 (σ := σ) h) rfl).trans ?_
    refine (e_iconst (code := kX5_readDefinition) (pc := 43) rfl).trans ?_
    refine (e_icne (code := kX5_readDefinition) (pc := 44) rfl).trans ?_
    refine b_ite ?_ ?_
    · refine (e_aload_n (code := kX5_readDefinition) (pc := 47) rfl rfl).trans ?_
      refine (e_getR (code := kX5_readDefinition) (pc := 48) (c := 3) rfl hp.1 hp.2.2.2.1).trans ?_
      exact (e_callV (σ := σ) (code := kX5_readDefinition) (pc := 51) (len := 3) (k := 3) (n := 1) (c := 16) (as := [.ref (p + 3)]) (st0 := []) rfl rfl rfl rfl rfl hp.2.2.2.2.2.2.2.1.1 rfl)
    · rfl
  · rfl
theorem b_X5_readDefinition_54 {C : aCall} {σ : aSt} {p : Nat} {y0 : Int32} : b_R C kX5_readDefinition [] (54, [some (.ref 223), some (.ref 220), some (.ref p), some (.ref 222)], [.int y0], σ) = (if y0 = 0 then b_R C kX5_readDefinition [] (63, [some (.ref 223), some (.ref 220), some (.ref p), some (.ref 222)], [], σ) else b_R C kX5_readDefinition [] (57, [some (.ref 223), some (.ref 220), some (.ref p), some (.ref 222)], [], σ)) := by
  refine (e_ifeq (code := kX5_readDefinition) (pc := 54) rfl).trans ?_
  refine b_ite ?_ ?_
  · rfl
  · rfl
theorem b_X5_readDefinition_57 {C : aCall} {σ : aSt} {p : Nat} (h : Sh σ) : b_R C kX5_readDefinition [] (57, [some (.ref 223), some (.ref 220), some (.ref p), some (.ref 222)], [], σ) = b_G C kX5_readDefinition [] 59 62 [some (.ref 223), some (.ref 220), some (.ref p), some (.ref 222)] [] (C 27 [.ref 220, .int (nI 3)] σ) := by
  refine (e_aload_n (code := kX5_readDefinition) (pc := 57) rfl rfl).trans ?_
  refine (e_iconst (code := kX5_readDefinition) (pc := 58) rfl).trans ?_
  exact (e_callV (σ := σ) (code := kX5_readDefinition) (pc := 59) (len := 3) (k := 27) (n := 2) (c := 18) (as := [.ref 220, .int (nI 3)]) (st0 := []) rfl rfl rfl rfl rfl (sk_220 (σ := σ) h) rfl)
theorem b_X5_readDefinition_62 {C : aCall} {σ : aSt} {p : Nat} {y0 : Int32} : b_R C kX5_readDefinition [] (62, [some (.ref 223), some (.ref 220), some (.ref p), some (.ref 222)], [.int y0], σ) = b_gd (y0 = 0 ∨ y0 = 1) (some (.inl (some (.int y0)), σ)) := by
  exact e_zreturn rfl
theorem b_X5_readDefinition_63 {C : aCall} {σ : aSt} {p : Nat} (h : Sh σ) : b_R C kX5_readDefinition [] (63, [some (.ref 223), some (.ref 220), some (.ref p), some (.ref 222)], [], σ) = b_G C kX5_readDefinition [] 65 68 [some (.ref 223), some (.ref 220), some (.ref p), some (.ref 222)] [] (C 74 [.ref 223, .ref 220] σ) := by
  refine (e_aload_n (code := kX5_readDefinition) (pc := 63) rfl rfl).trans ?_
  refine (e_aload_n (code := kX5_readDefinition) (pc := 64) rfl rfl).trans ?_
  exact (e_callV (σ := σ) (code := kX5_readDefinition) (pc := 65) (len := 3) (k := 74) (n := 2) (c := 17) (as := [.ref 223, .ref 220]) (st0 := []) rfl rfl rfl rfl rfl (sk_223 (σ := σ) h) rfl)
theorem b_X5_readDefinition_68 {C : aCall} {σ : aSt} {p : Nat} {y0 : Int32} (h : Sh σ) : b_R C kX5_readDefinition [] (68, [some (.ref 223), some (.ref 220), some (.ref p), some (.ref 222)], [.int y0], σ) = (if y0 = 0 then b_R C kX5_readDefinition [] (91, [some (.ref 223), some (.ref 220), some (.ref p), some (.ref 222)], [], σ) else b_G C kX5_readDefinition [] 74 77 [some (.ref 223), some (.ref 220), some (.ref p), some (.ref 222)] [] (C 75 [.ref 223, .ref 220, .ref p] σ)) := by
  refine (e_ifeq (code := kX5_readDefinition) (pc := 68) rfl).trans ?_
  refine b_ite ?_ ?_
  · rfl
  · refine (e_aload_n (code := kX5_readDefinition) (pc := 71) rfl rfl).trans ?_
    refine (e_aload_n (code := kX5_readDefinition) (pc := 72) rfl rfl).trans ?_
    refine (e_aload_n (code := kX5_readDefinition) (pc := 73) rfl rfl).trans ?_
    exact (e_callV (σ := σ) (code := kX5_readDefinition) (pc := 74) (len := 3) (k := 75) (n := 3) (c := 17) (as := [.ref 223, .ref 220, .ref p]) (st0 := []) rfl rfl rfl rfl rfl (sk_223 (σ := σ) h) rfl)
theorem b_X5_readDefinition_77 {C : aCall} {σ : aSt} {p : Nat} {y0 : Int32} (h : Sh σ) : b_R C kX5_readDefinition [] (77, [some (.ref 223), some (.ref 220), some (.ref p), some (.ref 222)], [.int y0], σ) = (if y0 = 0 then b_R C kX5_readDefinition [] (91, [some (.ref 223), some (.ref 220), some (.ref p), some (.ref 222)], [], σ) else b_G C kX5_readDefinition [] 81 84 [some (.ref 223), some (.ref 220), some (.ref p), some (.ref 222)] [] (C 30 [.ref 220] σ)) := by
  refine (e_ifeq (code := kX5_readDefinition) (pc := 77) rfl).trans ?_
  refine b_ite ?_ ?_
  · rfl
  · refine (e_aload_n (code := kX5_readDefinition) (pc := 80) rfl rfl).trans ?_
    exact (e_callV (σ := σ) (code := kX5_readDefinition) (pc := 81) (len := 3) (k := 30) (n := 1) (c := 18) (as := [.ref 220]) (st0 := []) rfl rfl rfl rfl rfl (sk_220 (σ := σ) h) rfl)
theorem b_X5_readDefinition_84 {C : aCall} {σ : aSt} {p : Nat} {y0 : Int32} : b_R C kX5_readDefinition [] (84, [some (.ref 223), some (.ref 220), some (.ref p), some (.ref 222)], [.int y0], σ) = (if y0 = 0 then b_R C kX5_readDefinition [] (91, [some (.ref 223), some (.ref 220), some (.ref p), some (.ref 222)], [], σ) else b_R C kX5_readDefinition [] (92, [some (.ref 223), some (.ref 220), some (.ref p), some (.ref 222)], [.int (nI 1)], σ)) := by
  refine (e_ifeq (code := kX5_readDefinition) (pc := 84) rfl).trans ?_
  refine b_ite ?_ ?_
  · rfl
  · refine (e_iconst (code := kX5_readDefinition) (pc := 87) rfl).trans ?_
    refine (e_goto (code := kX5_readDefinition) (pc := 88) rfl).trans ?_
    rfl
theorem b_X5_readDefinition_91 {C : aCall} {σ : aSt} {p : Nat} : b_R C kX5_readDefinition [] (91, [some (.ref 223), some (.ref 220), some (.ref p), some (.ref 222)], [], σ) = b_R C kX5_readDefinition [] (92, [some (.ref 223), some (.ref 220), some (.ref p), some (.ref 222)], [.int (nI 0)], σ) := by
  refine (e_iconst (code := kX5_readDefinition) (pc := 91) rfl).trans ?_
  rfl
theorem b_X5_readDefinition_92 {C : aCall} {σ : aSt} {p : Nat} {y0 : Int32} : b_R C kX5_readDefinition [] (92, [some (.ref 223), some (.ref 220), some (.ref p), some (.ref 222)], [.int y0], σ) = b_gd (y0 = 0 ∨ y0 = 1) (some (.inl (some (.int y0)), σ)) := by
  exact e_zreturn rfl
theorem n_X5_placeTold {P : aCall} {d : Nat} {σ : aSt} {p : Nat} (hd : 1 ≤ d) : a_call a_tab P d 79 [.ref 223, .ref p] σ = b_R (a_call a_tab P (d - 1)) kX5_placeTold [] (0, [some (.ref 223), some (.ref p), none], [], σ) := e_call hd at_X5_placeTold rfl
theorem b_X5_placeTold_0 {C : aCall} {σ : aSt} {p : Nat} (h : Sh σ) (hp : Pa σ p) : b_R C kX5_placeTold [] (0, [some (.ref 223), some (.ref p), none], [], σ) = (if (a_I σ 223 1) = ((-1)) then b_G C kX5_placeTold [] 12 15 [some (.ref 223), some (.ref p), none] [] (C 5 [.ref (p + 3)] σ) else b_R C kX5_placeTold [] (22, [some (.ref 223), some (.ref p), none], [.int (a_I σ 223 1)], σ)) := by
  refine (e_aload_n (code := kX5_placeTold) (pc := 0) rfl rfl).trans ?_
  refine (e_getI (code := kX5_placeTold) (pc := 1) (c := 7) rfl (sk_223 (σ := σ) h) rfl).trans ?_
  refine (e_iconst (code := kX5_placeTold) (pc := 4) rfl).trans ?_
  refine (e_icne (code := kX5_placeTold) (pc := 5) rfl).trans ?_
  refine b_ite ?_ ?_
  · refine (e_aload_n (code := kX5_placeTold) (pc := 8) rfl rfl).trans ?_
    refine (e_getR (code := kX5_placeTold) (pc := 9) (c := 3) rfl hp.1 hp.2.2.2.1).trans ?_
    exact (e_callV (σ := σ) (code := kX5_placeTold) (pc := 12) (len := 3) (k := 5) (n := 1) (c := 16) (as := [.ref (p + 3)]) (st0 := []) rfl rfl rfl rfl rfl hp.2.2.2.2.2.2.2.1.1 rfl)
  · refine (e_aload_n (code := kX5_placeTold) (pc := 18) rfl rfl).trans ?_
    refine (e_getI (code := kX5_placeTold) (pc := 19) (c := 7) rfl (sk_223 (σ := σ) h) rfl).trans ?_
    rfl
theorem b_X5_placeTold_15 {C : aCall} {σ : aSt} {p : Nat} {y0 : Int32} : b_R C kX5_placeTold [] (15, [some (.ref 223), some (.ref p), none], [.int y0], σ) = b_R C kX5_placeTold [] (22, [some (.ref 223), some (.ref p), none], [.int y0], σ) := by
  refine (e_goto (code := kX5_placeTold) (pc := 15) rfl).trans ?_
  rfl
theorem b_X5_placeTold_22 {C : aCall} {σ : aSt} {p : Nat} {y0 : Int32} (h : Sh σ) (hp : Pa σ p) : b_R C kX5_placeTold [] (22, [some (.ref 223), some (.ref p), none], [.int y0], σ) = b_G C kX5_placeTold [] 33 36 [some (.ref 223), some (.ref p), some (.int y0)] [] (C 8 [.ref (p + 3), .int y0, .ref 224, .int (nI 0)] σ) := by
  refine (e_istore_n (code := kX5_placeTold) (pc := 22) rfl rfl rfl).trans ?_
  refine (e_aload_n (code := kX5_placeTold) (pc := 23) rfl rfl).trans ?_
  refine (e_getR (code := kX5_placeTold) (pc := 24) (c := 3) rfl hp.1 hp.2.2.2.1).trans ?_
  refine (e_iload_n (code := kX5_placeTold) (pc := 27) rfl rfl).trans ?_
  refine (e_aload_n (code := kX5_placeTold) (pc := 28) rfl rfl).trans ?_
  refine (e_getR (code := kX5_placeTold) (pc := 29) (c := 7) rfl (sk_223 (σ := σ) h) (sr_223_0 (σ := σ) h)).trans ?_
  refine (e_iconst (code := kX5_placeTold) (pc := 32) rfl).trans ?_
  exact (e_callV (σ := σ) (code := kX5_placeTold) (pc := 33) (len := 3) (k := 8) (n := 4) (c := 16) (as := [.ref (p + 3), .int y0, .ref 224, .int (nI 0)]) (st0 := []) rfl rfl rfl rfl rfl hp.2.2.2.2.2.2.2.1.1 rfl)
theorem b_X5_placeTold_36 {C : aCall} {σ : aSt} {p : Nat} {x2 : Int32} : b_R C kX5_placeTold [] (36, [some (.ref 223), some (.ref p), some (.int x2)], [], σ) = some (.inl (some (.int x2)), σ) := by
  refine (e_iload_n (code := kX5_placeTold) (pc := 36) rfl rfl).trans ?_
  exact e_ireturn rfl
theorem n_X2_init {P : aCall} {d : Nat} {σ : aSt} {a0 : Nat} (hd : 1 ≤ d) : a_call a_tab P d 80 [.ref a0] σ = b_R (a_call a_tab P (d - 1)) kX2_init [] (0, [some (.ref a0)], [], σ) := e_call hd at_X2_init rfl
theorem b_X2_init_0 {C : aCall} {σ : aSt} {a0 : Nat} : b_R C kX2_init [] (0, [some (.ref a0)], [], σ) = b_G C kX2_init [] 13 16 [some (.ref a0)] [.ref (a_n σ), .ref a0] (C 0 [.ref (a_n σ), .int (nI 20), .int (nI 8)] (a_new σ 16 3 3)) := by
  refine (e_aload_n (code := kX2_init) (pc := 0) rfl rfl).trans ?_
  refine (e_objInit (code := kX2_init) (pc := 1) rfl rfl).trans ?_
  refine (e_aload_n (code := kX2_init) (pc := 4) rfl rfl).trans ?_
  refine (e_new (code := kX2_init) (pc := 5) rfl).trans ?_
  refine (e_dup (code := kX2_init) (pc := 8) (σ := (a_new σ 16 3 3)) rfl rfl).trans ?_
  refine (e_bipush (code := kX2_init) (pc := 9) (σ := (a_new σ 16 3 3)) rfl).trans ?_
  refine (e_bipush (code := kX2_init) (pc := 11) (σ := (a_new σ 16 3 3)) rfl).trans ?_
  exact (e_callI (code := kX2_init) (pc := 13) (len := 3) (k := 0) (n := 3) (as := [.ref (a_n σ), .int (nI 20), .int (nI 8)]) (st0 := [.ref (a_n σ), .ref a0]) rfl rfl rfl rfl rfl rfl)
theorem b_X2_init_16 {C : aCall} {σ : aSt} {a0 g0 : Nat} (hk0 : a_kd σ a0 = 14) (hn1 : 100 ≤ a0) : b_R C kX2_init [] (16, [some (.ref a0)], [.ref g0, .ref a0], σ) = b_R C kX2_init [] (19, [some (.ref a0)], [], (a_setR σ a0 0 (some g0))) := by
  refine (e_putR (code := kX2_init) (pc := 16) (c := 4) rfl hk0 hn1).trans ?_
  rfl
theorem b_X2_init_19 {C : aCall} {σ : aSt} {a0 : Nat} : b_R C kX2_init [] (19, [some (.ref a0)], [], σ) = some (.inl none, σ) := by
  exact e_return_ rfl
theorem n_X2_prepare {P : aCall} {d : Nat} {σ : aSt} {p : Nat} (hd : 1 ≤ d) : a_call a_tab P d 81 [.ref 226, .ref p] σ = b_R (a_call a_tab P (d - 1)) kX2_prepare [] (0, [some (.ref 226), some (.ref p), none, none], [], σ) := e_call hd at_X2_prepare rfl
theorem b_X2_prepare_0 {C : aCall} {σ : aSt} {p : Nat} (h : Sh σ) : b_R C kX2_prepare [] (0, [some (.ref 226), some (.ref p), none, none], [], σ) = b_G C kX2_prepare [] 4 7 [some (.ref 226), some (.ref p), none, none] [] (C 4 [.ref 227] σ) := by
  refine (e_aload_n (code := kX2_prepare) (pc := 0) rfl rfl).trans ?_
  refine (e_getR (code := kX2_prepare) (pc := 1) (c := 4) rfl (sk_226 (σ := σ) h) (sr_226_0 (σ := σ) h)).trans ?_
  exact (e_callV (σ := σ) (code := kX2_prepare) (pc := 4) (len := 3) (k := 4) (n := 1) (c := 16) (as := [.ref 227]) (st0 := []) rfl rfl rfl rfl rfl (sk_227 (σ := σ) h) rfl)
theorem b_X2_prepare_7 {C : aCall} {σ : aSt} {p : Nat} (h : Sh σ) : b_R C kX2_prepare [] (7, [some (.ref 226), some (.ref p), none, none], [], σ) = b_R C kX2_prepare [] (14, [some (.ref 226), some (.ref p), some (.int (nI 0)), none], [], (a_setI σ 226 1 (nI 0))) := by
  refine (e_aload_n (code := kX2_prepare) (pc := 7) rfl rfl).trans ?_
  refine (e_iconst (code := kX2_prepare) (pc := 8) rfl).trans ?_
  refine (e_putI (code := kX2_prepare) (pc := 9) (c := 4) rfl (sk_226 (σ := σ) h) (h_100 rfl)).trans ?_
  refine (e_iconst (code := kX2_prepare) (pc := 12) (σ := (a_setI σ 226 1 (nI 0))) rfl).trans ?_
  refine (e_istore_n (code := kX2_prepare) (pc := 13) (σ := (a_setI σ 226 1 (nI 0))) rfl rfl rfl).trans ?_
  rfl
theorem b_X2_prepare_14 {C : aCall} {σ : aSt} {p : Nat} {x2 : Int32} {o3 : Option Value} (h : Sh σ) (hp : Pa σ p) : b_R C kX2_prepare [] (14, [some (.ref 226), some (.ref p), some (.int x2), o3], [], σ) = (if x2 < (a_I σ (p + 3) 2) then b_G C kX2_prepare [] 41 44 [some (.ref 226), some (.ref p), some (.int x2), o3] [] (C 5 [.ref 227] (a_setI σ 226 1 ((a_I σ 226 1) ||| ((nI 1) <<< (x2 &&& 31))))) else some (.inl none, σ)) := by
  refine (e_iload_n (code := kX2_prepare) (pc := 14) rfl rfl).trans ?_
  refine (e_aload_n (code := kX2_prepare) (pc := 15) rfl rfl).trans ?_
  refine (e_getR (code := kX2_prepare) (pc := 16) (c := 3) rfl hp.1 hp.2.2.2.1).trans ?_
  refine (e_getI (code := kX2_prepare) (pc := 19) (c := 6) rfl hp.2.2.2.2.2.2.2.1.1 rfl).trans ?_
  refine (e_icge (code := kX2_prepare) (pc := 22) rfl).trans ?_
  refine b_ite ?_ ?_
  · refine (e_aload_n (code := kX2_prepare) (pc := 25) rfl rfl).trans ?_
    refine (e_dup (code := kX2_prepare) (pc := 26) rfl rfl).trans ?_
    refine (e_getI (code := kX2_prepare) (pc := 27) (c := 4) rfl (sk_226 (σ := σ) h) rfl).trans ?_
    refine (e_iconst (code := kX2_prepare) (pc := 30) rfl).trans ?_
    refine (e_iload_n (code := kX2_prepare) (pc := 31) rfl rfl).trans ?_
    refine (e_ishl (code := kX2_prepare) (pc := 32) rfl).trans ?_
    refine (e_ior (code := kX2_prepare) (pc := 33) rfl).trans ?_
    refine (e_putI (code := kX2_prepare) (pc := 34) (c := 4) rfl (sk_226 (σ := σ) h) (h_100 rfl)).trans ?_
    refine (e_aload_n (code := kX2_prepare) (pc := 37) (σ := (a_setI σ 226 1 ((a_I σ 226 1) ||| ((nI 1) <<< (x2 &&& 31))))) rfl rfl).trans ?_
    refine (e_getR (code := kX2_prepare) (pc := 38) (σ := (a_setI σ 226 1 ((a_I σ 226 1) ||| ((nI 1) <<< (x2 &&& 31))))) (c := 4) rfl (sk_226 (σ := σ) h) (sr_226_0 (σ := σ) h)).trans ?_
    exact (e_callV (σ := (a_setI σ 226 1 ((a_I σ 226 1) ||| ((nI 1) <<< (x2 &&& 31))))) (code := kX2_prepare) (pc := 41) (len := 3) (k := 5) (n := 1) (c := 16) (as := [.ref 227]) (st0 := []) rfl rfl rfl rfl rfl (sk_227 (σ := σ) h) rfl)
  · exact e_return_ rfl
theorem b_X2_prepare_44 {C : aCall} {σ : aSt} {p : Nat} {x2 y0 : Int32} {o3 : Option Value} (h : Sh σ) : b_R C kX2_prepare [] (44, [some (.ref 226), some (.ref p), some (.int x2), o3], [.int y0], σ) = b_G C kX2_prepare [] 52 55 [some (.ref 226), some (.ref p), some (.int x2), o3] [] (C 2 [.ref 227, .int x2, .int (nI 0), .int x2] σ) := by
  refine (e_pop (code := kX2_prepare) (pc := 44) rfl rfl).trans ?_
  refine (e_aload_n (code := kX2_prepare) (pc := 45) rfl rfl).trans ?_
  refine (e_getR (code := kX2_prepare) (pc := 46) (c := 4) rfl (sk_226 (σ := σ) h) (sr_226_0 (σ := σ) h)).trans ?_
  refine (e_iload_n (code := kX2_prepare) (pc := 49) rfl rfl).trans ?_
  refine (e_iconst (code := kX2_prepare) (pc := 50) rfl).trans ?_
  refine (e_iload_n (code := kX2_prepare) (pc := 51) rfl rfl).trans ?_
  exact (e_callV (σ := σ) (code := kX2_prepare) (pc := 52) (len := 3) (k := 2) (n := 4) (c := 16) (as := [.ref 227, .int x2, .int (nI 0), .int x2]) (st0 := []) rfl rfl rfl rfl rfl (sk_227 (σ := σ) h) rfl)
theorem b_X2_prepare_55 {C : aCall} {σ : aSt} {p : Nat} {x2 : Int32} {o3 : Option Value} (h : Sh σ) (hp : Pa σ p) : b_R C kX2_prepare [] (55, [some (.ref 226), some (.ref p), some (.int x2), o3], [], σ) = b_G C kX2_prepare [] 68 71 [some (.ref 226), some (.ref p), some (.int x2), o3] [.int (nI 1), .int x2, .ref 227] (C 1 [.ref (p + 3), .int x2, .int (nI 8)] σ) := by
  refine (e_aload_n (code := kX2_prepare) (pc := 55) rfl rfl).trans ?_
  refine (e_getR (code := kX2_prepare) (pc := 56) (c := 4) rfl (sk_226 (σ := σ) h) (sr_226_0 (σ := σ) h)).trans ?_
  refine (e_iload_n (code := kX2_prepare) (pc := 59) rfl rfl).trans ?_
  refine (e_iconst (code := kX2_prepare) (pc := 60) rfl).trans ?_
  refine (e_aload_n (code := kX2_prepare) (pc := 61) rfl rfl).trans ?_
  refine (e_getR (code := kX2_prepare) (pc := 62) (c := 3) rfl hp.1 hp.2.2.2.1).trans ?_
  refine (e_iload_n (code := kX2_prepare) (pc := 65) rfl rfl).trans ?_
  refine (e_bipush (code := kX2_prepare) (pc := 66) rfl).trans ?_
  exact (e_callV (σ := σ) (code := kX2_prepare) (pc := 68) (len := 3) (k := 1) (n := 3) (c := 16) (as := [.ref (p + 3), .int x2, .int (nI 8)]) (st0 := [.int (nI 1), .int x2, .ref 227]) rfl rfl rfl rfl rfl hp.2.2.2.2.2.2.2.1.1 rfl)
theorem b_X2_prepare_71 {C : aCall} {σ : aSt} {p : Nat} {x2 y0 y1 y2 : Int32} {o3 : Option Value} (h : Sh σ) : b_R C kX2_prepare [] (71, [some (.ref 226), some (.ref p), some (.int x2), o3], [.int y0, .int y1, .int y2, .ref 227], σ) = b_G C kX2_prepare [] 71 74 [some (.ref 226), some (.ref p), some (.int x2), o3] [] (C 2 [.ref 227, .int y2, .int y1, .int y0] σ) := by
  exact (e_callV (σ := σ) (code := kX2_prepare) (pc := 71) (len := 3) (k := 2) (n := 4) (c := 16) (as := [.ref 227, .int y2, .int y1, .int y0]) (st0 := []) rfl rfl rfl rfl rfl (sk_227 (σ := σ) h) rfl)
theorem b_X2_prepare_74 {C : aCall} {σ : aSt} {p : Nat} {x2 : Int32} {o3 : Option Value} (h : Sh σ) (hp : Pa σ p) : b_R C kX2_prepare [] (74, [some (.ref 226), some (.ref p), some (.int x2), o3], [], σ) = b_G C kX2_prepare [] 82 85 [some (.ref 226), some (.ref p), some (.int x2), o3] [.int (nI 2), .int x2, .ref 227] (C 43 [.ref p, .int x2] σ) := by
  refine (e_aload_n (code := kX2_prepare) (pc := 74) rfl rfl).trans ?_
  refine (e_getR (code := kX2_prepare) (pc := 75) (c := 4) rfl (sk_226 (σ := σ) h) (sr_226_0 (σ := σ) h)).trans ?_
  refine (e_iload_n (code := kX2_prepare) (pc := 78) rfl rfl).trans ?_
  refine (e_iconst (code := kX2_prepare) (pc := 79) rfl).trans ?_
  refine (e_aload_n (code := kX2_prepare) (pc := 80) rfl rfl).trans ?_
  refine (e_iload_n (code := kX2_prepare) (pc := 81) rfl rfl).trans ?_
  exact (e_callV (σ := σ) (code := kX2_prepare) (pc := 82) (len := 3) (k := 43) (n := 2) (c := 13) (as := [.ref p, .int x2]) (st0 := [.int (nI 2), .int x2, .ref 227]) rfl rfl rfl rfl rfl hp.1 rfl)
theorem b_X2_prepare_85 {C : aCall} {σ : aSt} {p : Nat} {x2 y0 y1 y2 : Int32} {o3 : Option Value} (h : Sh σ) : b_R C kX2_prepare [] (85, [some (.ref 226), some (.ref p), some (.int x2), o3], [.int y0, .int y1, .int y2, .ref 227], σ) = b_G C kX2_prepare [] 85 88 [some (.ref 226), some (.ref p), some (.int x2), o3] [] (C 2 [.ref 227, .int y2, .int y1, .int y0] σ) := by
  exact (e_callV (σ := σ) (code := kX2_prepare) (pc := 85) (len := 3) (k := 2) (n := 4) (c := 16) (as := [.ref 227, .int y2, .int y1, .int y0]) (st0 := []) rfl rfl rfl rfl rfl (sk_227 (σ := σ) h) rfl)
theorem b_X2_prepare_88 {C : aCall} {σ : aSt} {p : Nat} {x2 : Int32} {o3 : Option Value} : b_R C kX2_prepare [] (88, [some (.ref 226), some (.ref p), some (.int x2), o3], [], σ) = b_R C kX2_prepare [] (90, [some (.ref 226), some (.ref p), some (.int x2), some (.int (nI 0))], [], σ) := by
  refine (e_iconst (code := kX2_prepare) (pc := 88) rfl).trans ?_
  refine (e_istore_n (code := kX2_prepare) (pc := 89) rfl rfl rfl).trans ?_
  rfl
theorem b_X2_prepare_90 {C : aCall} {σ : aSt} {p : Nat} {x2 x3 : Int32} (h : Sh σ) (hp : Pa σ p) : b_R C kX2_prepare [] (90, [some (.ref 226), some (.ref p), some (.int x2), some (.int x3)], [], σ) = (if x3 < (nI 3) then b_G C kX2_prepare [] 110 113 [some (.ref 226), some (.ref p), some (.int x2), some (.int x3)] [.int ((nI 3) + x3), .int x2, .ref 227] (C 44 [.ref p, .ref (p + 3), .int x2, .int x3] σ) else b_G C kX2_prepare [] 131 134 [some (.ref 226), some (.ref p), some (.int x2), some (.int x3)] [.int (nI 6), .int x2, .ref 227] (C 41 [.ref p, .int x2] σ)) := by
  refine (e_iload_n (code := kX2_prepare) (pc := 90) rfl rfl).trans ?_
  refine (e_iconst (code := kX2_prepare) (pc := 91) rfl).trans ?_
  refine (e_icge (code := kX2_prepare) (pc := 92) rfl).trans ?_
  refine b_ite ?_ ?_
  · refine (e_aload_n (code := kX2_prepare) (pc := 95) rfl rfl).trans ?_
    refine (e_getR (code := kX2_prepare) (pc := 96) (c := 4) rfl (sk_226 (σ := σ) h) (sr_226_0 (σ := σ) h)).trans ?_
    refine (e_iload_n (code := kX2_prepare) (pc := 99) rfl rfl).trans ?_
    refine (e_iconst (code := kX2_prepare) (pc := 100) rfl).trans ?_
    refine (e_iload_n (code := kX2_prepare) (pc := 101) rfl rfl).trans ?_
    refine (e_iadd (code := kX2_prepare) (pc := 102) rfl).trans ?_
    refine (e_aload_n (code := kX2_prepare) (pc := 103) rfl rfl).trans ?_
    refine (e_aload_n (code := kX2_prepare) (pc := 104) rfl rfl).trans ?_
    refine (e_getR (code := kX2_prepare) (pc := 105) (c := 3) rfl hp.1 hp.2.2.2.1).trans ?_
    refine (e_iload_n (code := kX2_prepare) (pc := 108) rfl rfl).trans ?_
    refine (e_iload_n (code := kX2_prepare) (pc := 109) rfl rfl).trans ?_
    exact (e_callV (σ := σ) (code := kX2_prepare) (pc := 110) (len := 3) (k := 44) (n := 4) (c := 13) (as := [.ref p, .ref (p + 3), .int x2, .int x3]) (st0 := [.int ((nI 3) + x3), .int x2, .ref 227]) rfl rfl rfl rfl rfl hp.1 rfl)
  · refine (e_aload_n (code := kX2_prepare) (pc := 122) rfl rfl).trans ?_
    refine (e_getR (code := kX2_prepare) (pc := 123) (c := 4) rfl (sk_226 (σ := σ) h) (sr_226_0 (σ := σ) h)).trans ?_
    refine (e_iload_n (code := kX2_prepare) (pc := 126) rfl rfl).trans ?_
    refine (e_bipush (code := kX2_prepare) (pc := 127) rfl).trans ?_
    refine (e_aload_n (code := kX2_prepare) (pc := 129) rfl rfl).trans ?_
    refine (e_iload_n (code := kX2_prepare) (pc := 130) rfl rfl).trans ?_
    exact (e_callV (σ := σ) (code := kX2_prepare) (pc := 131) (len := 3) (k := 41) (n := 2) (c := 13) (as := [.ref p, .int x2]) (st0 := [.int (nI 6), .int x2, .ref 227]) rfl rfl rfl rfl rfl hp.1 rfl)
theorem b_X2_prepare_113 {C : aCall} {σ : aSt} {p : Nat} {x2 x3 y0 y1 y2 : Int32} (h : Sh σ) : b_R C kX2_prepare [] (113, [some (.ref 226), some (.ref p), some (.int x2), some (.int x3)], [.int y0, .int y1, .int y2, .ref 227], σ) = b_G C kX2_prepare [] 113 116 [some (.ref 226), some (.ref p), some (.int x2), some (.int x3)] [] (C 2 [.ref 227, .int y2, .int y1, .int y0] σ) := by
  exact (e_callV (σ := σ) (code := kX2_prepare) (pc := 113) (len := 3) (k := 2) (n := 4) (c := 16) (as := [.ref 227, .int y2, .int y1, .int y0]) (st0 := []) rfl rfl rfl rfl rfl (sk_227 (σ := σ) h) rfl)
theorem b_X2_prepare_116 {C : aCall} {σ : aSt} {p : Nat} {x2 x3 : Int32} : b_R C kX2_prepare [] (116, [some (.ref 226), some (.ref p), some (.int x2), some (.int x3)], [], σ) = b_R C kX2_prepare [] (90, [some (.ref 226), some (.ref p), some (.int x2), some (.int (x3 + nI 1))], [], σ) := by
  refine (e_iinc (code := kX2_prepare) (pc := 116) rfl rfl rfl rfl).trans ?_
  refine (e_goto (code := kX2_prepare) (pc := 119) rfl).trans ?_
  rfl
theorem b_X2_prepare_134 {C : aCall} {σ : aSt} {p : Nat} {x2 x3 y0 y1 y2 : Int32} : b_R C kX2_prepare [] (134, [some (.ref 226), some (.ref p), some (.int x2), some (.int x3)], [.int y0, .int y1, .int y2, .ref 227], σ) = (if y0 = 0 then b_R C kX2_prepare [] (142, [some (.ref 226), some (.ref p), some (.int x2), some (.int x3)], [.int (nI 0), .int y1, .int y2, .ref 227], σ) else b_R C kX2_prepare [] (142, [some (.ref 226), some (.ref p), some (.int x2), some (.int x3)], [.int (nI 1), .int y1, .int y2, .ref 227], σ)) := by
  refine (e_ifeq (code := kX2_prepare) (pc := 134) rfl).trans ?_
  refine b_ite ?_ ?_
  · refine (e_iconst (code := kX2_prepare) (pc := 141) rfl).trans ?_
    rfl
  · refine (e_iconst (code := kX2_prepare) (pc := 137) rfl).trans ?_
    refine (e_goto (code := kX2_prepare) (pc := 138) rfl).trans ?_
    rfl
theorem b_X2_prepare_142 {C : aCall} {σ : aSt} {p : Nat} {x2 x3 y0 y1 y2 : Int32} (h : Sh σ) : b_R C kX2_prepare [] (142, [some (.ref 226), some (.ref p), some (.int x2), some (.int x3)], [.int y0, .int y1, .int y2, .ref 227], σ) = b_G C kX2_prepare [] 142 145 [some (.ref 226), some (.ref p), some (.int x2), some (.int x3)] [] (C 2 [.ref 227, .int y2, .int y1, .int y0] σ) := by
  exact (e_callV (σ := σ) (code := kX2_prepare) (pc := 142) (len := 3) (k := 2) (n := 4) (c := 16) (as := [.ref 227, .int y2, .int y1, .int y0]) (st0 := []) rfl rfl rfl rfl rfl (sk_227 (σ := σ) h) rfl)
theorem b_X2_prepare_145 {C : aCall} {σ : aSt} {p : Nat} {x2 x3 : Int32} (h : Sh σ) (hp : Pa σ p) : b_R C kX2_prepare [] (145, [some (.ref 226), some (.ref p), some (.int x2), some (.int x3)], [], σ) = b_G C kX2_prepare [] 154 157 [some (.ref 226), some (.ref p), some (.int x2), some (.int x3)] [.int (nI 7), .int x2, .ref 227] (C 47 [.ref p, .int x2] σ) := by
  refine (e_aload_n (code := kX2_prepare) (pc := 145) rfl rfl).trans ?_
  refine (e_getR (code := kX2_prepare) (pc := 146) (c := 4) rfl (sk_226 (σ := σ) h) (sr_226_0 (σ := σ) h)).trans ?_
  refine (e_iload_n (code := kX2_prepare) (pc := 149) rfl rfl).trans ?_
  refine (e_bipush (code := kX2_prepare) (pc := 150) rfl).trans ?_
  refine (e_aload_n (code := kX2_prepare) (pc := 152) rfl rfl).trans ?_
  refine (e_iload_n (code := kX2_prepare) (pc := 153) rfl rfl).trans ?_
  exact (e_callV (σ := σ) (code := kX2_prepare) (pc := 154) (len := 3) (k := 47) (n := 2) (c := 13) (as := [.ref p, .int x2]) (st0 := [.int (nI 7), .int x2, .ref 227]) rfl rfl rfl rfl rfl hp.1 rfl)
theorem b_X2_prepare_157 {C : aCall} {σ : aSt} {p : Nat} {x2 x3 y0 y1 y2 : Int32} (h : Sh σ) : b_R C kX2_prepare [] (157, [some (.ref 226), some (.ref p), some (.int x2), some (.int x3)], [.int y0, .int y1, .int y2, .ref 227], σ) = b_G C kX2_prepare [] 157 160 [some (.ref 226), some (.ref p), some (.int x2), some (.int x3)] [] (C 2 [.ref 227, .int y2, .int y1, .int y0] σ) := by
  exact (e_callV (σ := σ) (code := kX2_prepare) (pc := 157) (len := 3) (k := 2) (n := 4) (c := 16) (as := [.ref 227, .int y2, .int y1, .int y0]) (st0 := []) rfl rfl rfl rfl rfl (sk_227 (σ := σ) h) rfl)
theorem b_X2_prepare_160 {C : aCall} {σ : aSt} {p : Nat} {x2 x3 : Int32} : b_R C kX2_prepare [] (160, [some (.ref 226), some (.ref p), some (.int x2), some (.int x3)], [], σ) = b_R C kX2_prepare [] (14, [some (.ref 226), some (.ref p), some (.int (x2 + nI 1)), some (.int x3)], [], σ) := by
  refine (e_iinc (code := kX2_prepare) (pc := 160) rfl rfl rfl rfl).trans ?_
  refine (e_goto (code := kX2_prepare) (pc := 163) rfl).trans ?_
  rfl
theorem n_X2_answerOf {P : aCall} {d : Nat} {σ : aSt} (hd : 1 ≤ d) : a_call a_tab P d 82 [.ref 226, .ref 220] σ = b_R (a_call a_tab P (d - 1)) kX2_answerOf [] (0, [some (.ref 226), some (.ref 220), none, none], [], σ) := e_call hd at_X2_answerOf rfl
theorem b_X2_answerOf_0 {C : aCall} {σ : aSt} (h : Sh σ) : b_R C kX2_answerOf [] (0, [some (.ref 226), some (.ref 220), none, none], [], σ) = b_G C kX2_answerOf [] 3 6 [some (.ref 226), some (.ref 220), none, none] [] (C 25 [.ref 220, .ref 7] σ) := by
  refine (e_aload_n (code := kX2_answerOf) (pc := 0) rfl rfl).trans ?_
  refine (e_ldcS (code := kX2_answerOf) (pc := 1) rfl).trans ?_
  exact (e_callV (σ := σ) (code := kX2_answerOf) (pc := 3) (len := 3) (k := 25) (n := 2) (c := 18) (as := [.ref 220, .ref 7]) (st0 := []) rfl rfl rfl rfl rfl (sk_220 (σ := σ) h) rfl)
theorem b_X2_answerOf_6 {C : aCall} {σ : aSt} {y0 : Int32} (h : Sh σ) : b_R C kX2_answerOf [] (6, [some (.ref 226), some (.ref 220), none, none], [.int y0], σ) = (if y0 = 0 then b_G C kX2_answerOf [] 14 17 [some (.ref 226), some (.ref 220), some (.int y0), none] [] (C 25 [.ref 220, .ref 8] σ) else b_R C kX2_answerOf [] (28, [some (.ref 226), some (.ref 220), some (.int y0), none], [], σ)) := by
  refine (e_istore_n (code := kX2_answerOf) (pc := 6) rfl rfl rfl).trans ?_
  refine (e_iload_n (code := kX2_answerOf) (pc := 7) rfl rfl).trans ?_
  refine (e_ifne (code := kX2_answerOf) (pc := 8) rfl).trans ?_
  refine b_ite ?_ ?_
  · refine (e_aload_n (code := kX2_answerOf) (pc := 11) rfl rfl).trans ?_
    refine (e_ldcS (code := kX2_answerOf) (pc := 12) rfl).trans ?_
    exact (e_callV (σ := σ) (code := kX2_answerOf) (pc := 14) (len := 3) (k := 25) (n := 2) (c := 18) (as := [.ref 220, .ref 8]) (st0 := []) rfl rfl rfl rfl rfl (sk_220 (σ := σ) h) rfl)
  · rfl
theorem b_X2_answerOf_17 {C : aCall} {σ : aSt} {x2 y0 : Int32} (h : Sh σ) : b_R C kX2_answerOf [] (17, [some (.ref 226), some (.ref 220), some (.int x2), none], [.int y0], σ) = (if y0 = 0 then b_G C kX2_answerOf [] 22 25 [some (.ref 226), some (.ref 220), some (.int x2), none] [] (C 27 [.ref 220, .int (nI 1)] σ) else b_R C kX2_answerOf [] (28, [some (.ref 226), some (.ref 220), some (.int x2), none], [], σ)) := by
  refine (e_ifne (code := kX2_answerOf) (pc := 17) rfl).trans ?_
  refine b_ite ?_ ?_
  · refine (e_aload_n (code := kX2_answerOf) (pc := 20) rfl rfl).trans ?_
    refine (e_iconst (code := kX2_answerOf) (pc := 21) rfl).trans ?_
    exact (e_callV (σ := σ) (code := kX2_answerOf) (pc := 22) (len := 3) (k := 27) (n := 2) (c := 18) (as := [.ref 220, .int (nI 1)]) (st0 := []) rfl rfl rfl rfl rfl (sk_220 (σ := σ) h) rfl)
  · rfl
theorem b_X2_answerOf_25 {C : aCall} {σ : aSt} {x2 y0 : Int32} : b_R C kX2_answerOf [] (25, [some (.ref 226), some (.ref 220), some (.int x2), none], [.int y0], σ) = some (.inl (some (.int ((-1)))), σ) := by
  refine (e_pop (code := kX2_answerOf) (pc := 25) rfl rfl).trans ?_
  refine (e_iconst (code := kX2_answerOf) (pc := 26) rfl).trans ?_
  exact e_ireturn rfl
theorem b_X2_answerOf_28 {C : aCall} {σ : aSt} {x2 : Int32} (h : Sh σ) : b_R C kX2_answerOf [] (28, [some (.ref 226), some (.ref 220), some (.int x2), none], [], σ) = b_G C kX2_answerOf [] 29 32 [some (.ref 226), some (.ref 220), some (.int x2), none] [] (C 18 [.ref 220] σ) := by
  refine (e_aload_n (code := kX2_answerOf) (pc := 28) rfl rfl).trans ?_
  exact (e_callV (σ := σ) (code := kX2_answerOf) (pc := 29) (len := 3) (k := 18) (n := 1) (c := 18) (as := [.ref 220]) (st0 := []) rfl rfl rfl rfl rfl (sk_220 (σ := σ) h) rfl)
theorem b_X2_answerOf_32 {C : aCall} {σ : aSt} {x2 : Int32} (h : Sh σ) : b_R C kX2_answerOf [] (32, [some (.ref 226), some (.ref 220), some (.int x2), none], [], σ) = b_G C kX2_answerOf [] 35 38 [some (.ref 226), some (.ref 220), some (.int x2), none] [] (C 84 [.ref 226, .ref 220, .int (nI 0)] σ) := by
  refine (e_aload_n (code := kX2_answerOf) (pc := 32) rfl rfl).trans ?_
  refine (e_aload_n (code := kX2_answerOf) (pc := 33) rfl rfl).trans ?_
  refine (e_iconst (code := kX2_answerOf) (pc := 34) rfl).trans ?_
  exact (e_callV (σ := σ) (code := kX2_answerOf) (pc := 35) (len := 3) (k := 84) (n := 3) (c := 14) (as := [.ref 226, .ref 220, .int (nI 0)]) (st0 := []) rfl rfl rfl rfl rfl (sk_226 (σ := σ) h) rfl)
theorem b_X2_answerOf_38 {C : aCall} {σ : aSt} {x2 y0 : Int32} (h : Sh σ) : b_R C kX2_answerOf [] (38, [some (.ref 226), some (.ref 220), some (.int x2), none], [.int y0], σ) = b_G C kX2_answerOf [] 40 43 [some (.ref 226), some (.ref 220), some (.int x2), some (.int y0)] [] (C 30 [.ref 220] σ) := by
  refine (e_istore_n (code := kX2_answerOf) (pc := 38) rfl rfl rfl).trans ?_
  refine (e_aload_n (code := kX2_answerOf) (pc := 39) rfl rfl).trans ?_
  exact (e_callV (σ := σ) (code := kX2_answerOf) (pc := 40) (len := 3) (k := 30) (n := 1) (c := 18) (as := [.ref 220]) (st0 := []) rfl rfl rfl rfl rfl (sk_220 (σ := σ) h) rfl)
theorem b_X2_answerOf_43 {C : aCall} {σ : aSt} {x2 x3 y0 : Int32} (h : Sh σ) : b_R C kX2_answerOf [] (43, [some (.ref 226), some (.ref 220), some (.int x2), some (.int x3)], [.int y0], σ) = (if x2 = 0 then b_G C kX2_answerOf [] 57 60 [some (.ref 226), some (.ref 220), some (.int x2), some (.int x3)] [] (C 83 [.ref 226, .int x3] σ) else b_G C kX2_answerOf [] 49 52 [some (.ref 226), some (.ref 220), some (.int x2), some (.int x3)] [] (C 1004 [.int x3] σ)) := by
  refine (e_pop (code := kX2_answerOf) (pc := 43) rfl rfl).trans ?_
  refine (e_iload_n (code := kX2_answerOf) (pc := 44) rfl rfl).trans ?_
  refine (e_ifeq (code := kX2_answerOf) (pc := 45) rfl).trans ?_
  refine b_ite ?_ ?_
  · refine (e_aload_n (code := kX2_answerOf) (pc := 55) rfl rfl).trans ?_
    refine (e_iload_n (code := kX2_answerOf) (pc := 56) rfl rfl).trans ?_
    exact (e_callV (σ := σ) (code := kX2_answerOf) (pc := 57) (len := 3) (k := 83) (n := 2) (c := 14) (as := [.ref 226, .int x3]) (st0 := []) rfl rfl rfl rfl rfl (sk_226 (σ := σ) h) rfl)
  · refine (e_iload_n (code := kX2_answerOf) (pc := 48) rfl rfl).trans ?_
    exact (e_callS (code := kX2_answerOf) (pc := 49) (len := 3) (k := 1004) (n := 1) (as := [.int x3]) (st0 := []) rfl rfl rfl rfl)
theorem b_X2_answerOf_52 {C : aCall} {σ : aSt} {x2 x3 y0 : Int32} : b_R C kX2_answerOf [] (52, [some (.ref 226), some (.ref 220), some (.int x2), some (.int x3)], [.int y0], σ) = b_R C kX2_answerOf [] (60, [some (.ref 226), some (.ref 220), some (.int x2), some (.int x3)], [.int y0], σ) := by
  refine (e_goto (code := kX2_answerOf) (pc := 52) rfl).trans ?_
  rfl
theorem b_X2_answerOf_60 {C : aCall} {σ : aSt} {x2 x3 y0 : Int32} : b_R C kX2_answerOf [] (60, [some (.ref 226), some (.ref 220), some (.int x2), some (.int x3)], [.int y0], σ) = some (.inl (some (.int y0)), σ) := by
  exact e_ireturn rfl
theorem n_X2_smallestOf {P : aCall} {d : Nat} {σ : aSt} {x1 : Int32} (hd : 1 ≤ d) : a_call a_tab P d 83 [.ref 226, .int x1] σ = b_R (a_call a_tab P (d - 1)) kX2_smallestOf [] (0, [some (.ref 226), some (.int x1), none], [], σ) := e_call hd at_X2_smallestOf rfl
theorem b_X2_smallestOf_0 {C : aCall} {σ : aSt} {x1 : Int32} : b_R C kX2_smallestOf [] (0, [some (.ref 226), some (.int x1), none], [], σ) = b_R C kX2_smallestOf [] (2, [some (.ref 226), some (.int x1), some (.int (nI 0))], [], σ) := by
  refine (e_iconst (code := kX2_smallestOf) (pc := 0) rfl).trans ?_
  refine (e_istore_n (code := kX2_smallestOf) (pc := 1) rfl rfl rfl).trans ?_
  rfl
theorem b_X2_smallestOf_2 {C : aCall} {σ : aSt} {x1 x2 : Int32} : b_R C kX2_smallestOf [] (2, [some (.ref 226), some (.int x1), some (.int x2)], [], σ) = (if x2 < (nI 20) then (if ((x1 >>> (x2 &&& 31)) &&& (nI 1)) = 0 then b_R C kX2_smallestOf [] (2, [some (.ref 226), some (.int x1), some (.int (x2 + nI 1))], [], σ) else some (.inl (some (.int x2)), σ)) else some (.inl (some (.int ((-1)))), σ)) := by
  refine (e_iload_n (code := kX2_smallestOf) (pc := 2) rfl rfl).trans ?_
  refine (e_bipush (code := kX2_smallestOf) (pc := 3) rfl).trans ?_
  refine (e_icge (code := kX2_smallestOf) (pc := 5) rfl).trans ?_
  refine b_ite ?_ ?_
  · refine (e_iload_n (code := kX2_smallestOf) (pc := 8) rfl rfl).trans ?_
    refine (e_iload_n (code := kX2_smallestOf) (pc := 9) rfl rfl).trans ?_
    refine (e_ishr (code := kX2_smallestOf) (pc := 10) rfl).trans ?_
    refine (e_iconst (code := kX2_smallestOf) (pc := 11) rfl).trans ?_
    refine (e_iand (code := kX2_smallestOf) (pc := 12) rfl).trans ?_
    refine (e_ifeq (code := kX2_smallestOf) (pc := 13) rfl).trans ?_
    refine b_ite ?_ ?_
    · refine (e_iinc (code := kX2_smallestOf) (pc := 18) rfl rfl rfl rfl).trans ?_
      refine (e_goto (code := kX2_smallestOf) (pc := 21) rfl).trans ?_
      rfl
    · refine (e_iload_n (code := kX2_smallestOf) (pc := 16) rfl rfl).trans ?_
      exact e_ireturn rfl
  · refine (e_iconst (code := kX2_smallestOf) (pc := 24) rfl).trans ?_
    exact e_ireturn rfl
theorem n_X2_test {P : aCall} {d : Nat} {σ : aSt} {x2 : Int32} (hd : 1 ≤ d) : a_call a_tab P d 84 [.ref 226, .ref 220, .int x2] σ = b_R (a_call a_tab P (d - 1)) kX2_test [] (0, [some (.ref 226), some (.ref 220), some (.int x2), none, none, none], [], σ) := e_call hd at_X2_test rfl
theorem b_X2_test_0 {C : aCall} {σ : aSt} {x2 : Int32} (h : Sh σ) : b_R C kX2_test [] (0, [some (.ref 226), some (.ref 220), some (.int x2), none, none, none], [], σ) = b_R C kX2_test [] (11, [some (.ref 226), some (.ref 220), some (.int x2), some (.int (nI 0)), some (.int (a_I σ 226 1)), some (.int (nI 0))], [], σ) := by
  refine (e_iconst (code := kX2_test) (pc := 0) rfl).trans ?_
  refine (e_istore_n (code := kX2_test) (pc := 1) rfl rfl rfl).trans ?_
  refine (e_aload_n (code := kX2_test) (pc := 2) rfl rfl).trans ?_
  refine (e_getI (code := kX2_test) (pc := 3) (c := 4) rfl (sk_226 (σ := σ) h) rfl).trans ?_
  refine (e_istore (code := kX2_test) (pc := 6) rfl rfl rfl).trans ?_
  refine (e_iconst (code := kX2_test) (pc := 8) rfl).trans ?_
  refine (e_istore (code := kX2_test) (pc := 9) rfl rfl rfl).trans ?_
  rfl
theorem b_X2_test_11 {C : aCall} {σ : aSt} {x2 x3 x4 x5 : Int32} (h : Sh σ) : b_R C kX2_test [] (11, [some (.ref 226), some (.ref 220), some (.int x2), some (.int x3), some (.int x4), some (.int x5)], [], σ) = (if x5 < (nI 200) then b_G C kX2_test [] 20 23 [some (.ref 226), some (.ref 220), some (.int x2), some (.int x3), some (.int x4), some (.int x5)] [] (C 26 [.ref 220] σ) else b_R C kX2_test [] (85, [some (.ref 226), some (.ref 220), some (.int x2), some (.int x3), some (.int x4), some (.int x5)], [], σ)) := by
  refine (e_iload (code := kX2_test) (pc := 11) rfl rfl).trans ?_
  refine (e_sipush (code := kX2_test) (pc := 13) rfl).trans ?_
  refine (e_icge (code := kX2_test) (pc := 16) rfl).trans ?_
  refine b_ite ?_ ?_
  · refine (e_aload_n (code := kX2_test) (pc := 19) rfl rfl).trans ?_
    exact (e_callV (σ := σ) (code := kX2_test) (pc := 20) (len := 3) (k := 26) (n := 1) (c := 18) (as := [.ref 220]) (st0 := []) rfl rfl rfl rfl rfl (sk_220 (σ := σ) h) rfl)
  · rfl
theorem b_X2_test_23 {C : aCall} {σ : aSt} {x2 x3 x4 x5 y0 : Int32} (h : Sh σ) : b_R C kX2_test [] (23, [some (.ref 226), some (.ref 220), some (.int x2), some (.int x3), some (.int x4), some (.int x5)], [.int y0], σ) = (if y0 = 0 then b_G C kX2_test [] 31 34 [some (.ref 226), some (.ref 220), some (.int x2), some (.int x3), some (.int x4), some (.int x5)] [.int x4] (C 85 [.ref 226, .ref 220, .int x2] σ) else b_R C kX2_test [] (85, [some (.ref 226), some (.ref 220), some (.int x2), some (.int x3), some (.int x4), some (.int x5)], [], σ)) := by
  refine (e_ifne (code := kX2_test) (pc := 23) rfl).trans ?_
  refine b_ite ?_ ?_
  · refine (e_iload (code := kX2_test) (pc := 26) rfl rfl).trans ?_
    refine (e_aload_n (code := kX2_test) (pc := 28) rfl rfl).trans ?_
    refine (e_aload_n (code := kX2_test) (pc := 29) rfl rfl).trans ?_
    refine (e_iload_n (code := kX2_test) (pc := 30) rfl rfl).trans ?_
    exact (e_callV (σ := σ) (code := kX2_test) (pc := 31) (len := 3) (k := 85) (n := 3) (c := 14) (as := [.ref 226, .ref 220, .int x2]) (st0 := [.int x4]) rfl rfl rfl rfl rfl (sk_226 (σ := σ) h) rfl)
  · rfl
theorem b_X2_test_34 {C : aCall} {σ : aSt} {x2 x3 x4 x5 y0 y1 : Int32} (h : Sh σ) : b_R C kX2_test [] (34, [some (.ref 226), some (.ref 220), some (.int x2), some (.int x3), some (.int x4), some (.int x5)], [.int y0, .int y1], σ) = b_G C kX2_test [] 40 43 [some (.ref 226), some (.ref 220), some (.int x2), some (.int x3), some (.int (y1 &&& y0)), some (.int x5)] [] (C 25 [.ref 220, .ref 9] σ) := by
  refine (e_iand (code := kX2_test) (pc := 34) rfl).trans ?_
  refine (e_istore (code := kX2_test) (pc := 35) rfl rfl rfl).trans ?_
  refine (e_aload_n (code := kX2_test) (pc := 37) rfl rfl).trans ?_
  refine (e_ldcS (code := kX2_test) (pc := 38) rfl).trans ?_
  exact (e_callV (σ := σ) (code := kX2_test) (pc := 40) (len := 3) (k := 25) (n := 2) (c := 18) (as := [.ref 220, .ref 9]) (st0 := []) rfl rfl rfl rfl rfl (sk_220 (σ := σ) h) rfl)
theorem b_X2_test_43 {C : aCall} {σ : aSt} {x2 x3 x4 x5 y0 : Int32} (h : Sh σ) : b_R C kX2_test [] (43, [some (.ref 226), some (.ref 220), some (.int x2), some (.int x3), some (.int x4), some (.int x5)], [.int y0], σ) = (if y0 = 0 then b_G C kX2_test [] 61 64 [some (.ref 226), some (.ref 220), some (.int x2), some (.int (x3 ||| x4)), some (.int x4), some (.int x5)] [] (C 25 [.ref 220, .ref 10] σ) else b_G C kX2_test [] 47 50 [some (.ref 226), some (.ref 220), some (.int x2), some (.int x3), some (.int x4), some (.int x5)] [] (C 18 [.ref 220] σ)) := by
  refine (e_ifeq (code := kX2_test) (pc := 43) rfl).trans ?_
  refine b_ite ?_ ?_
  · refine (e_iload_n (code := kX2_test) (pc := 53) rfl rfl).trans ?_
    refine (e_iload (code := kX2_test) (pc := 54) rfl rfl).trans ?_
    refine (e_ior (code := kX2_test) (pc := 56) rfl).trans ?_
    refine (e_istore_n (code := kX2_test) (pc := 57) rfl rfl rfl).trans ?_
    refine (e_aload_n (code := kX2_test) (pc := 58) rfl rfl).trans ?_
    refine (e_ldcS (code := kX2_test) (pc := 59) rfl).trans ?_
    exact (e_callV (σ := σ) (code := kX2_test) (pc := 61) (len := 3) (k := 25) (n := 2) (c := 18) (as := [.ref 220, .ref 10]) (st0 := []) rfl rfl rfl rfl rfl (sk_220 (σ := σ) h) rfl)
  · refine (e_aload_n (code := kX2_test) (pc := 46) rfl rfl).trans ?_
    exact (e_callV (σ := σ) (code := kX2_test) (pc := 47) (len := 3) (k := 18) (n := 1) (c := 18) (as := [.ref 220]) (st0 := []) rfl rfl rfl rfl rfl (sk_220 (σ := σ) h) rfl)
theorem b_X2_test_50 {C : aCall} {σ : aSt} {x2 x3 x4 x5 : Int32} : b_R C kX2_test [] (50, [some (.ref 226), some (.ref 220), some (.int x2), some (.int x3), some (.int x4), some (.int x5)], [], σ) = b_R C kX2_test [] (79, [some (.ref 226), some (.ref 220), some (.int x2), some (.int x3), some (.int x4), some (.int x5)], [], σ) := by
  refine (e_goto (code := kX2_test) (pc := 50) rfl).trans ?_
  rfl
theorem b_X2_test_64 {C : aCall} {σ : aSt} {x2 x3 x4 x5 y0 : Int32} (h : Sh σ) : b_R C kX2_test [] (64, [some (.ref 226), some (.ref 220), some (.int x2), some (.int x3), some (.int x4), some (.int x5)], [.int y0], σ) = (if y0 = 0 then some (.inl (some (.int x3)), σ) else b_G C kX2_test [] 76 79 [some (.ref 226), some (.ref 220), some (.int x2), some (.int x3), some (.int (a_I σ 226 1)), some (.int x5)] [] (C 18 [.ref 220] σ)) := by
  refine (e_ifne (code := kX2_test) (pc := 64) rfl).trans ?_
  refine b_ite ?_ ?_
  · refine (e_iload_n (code := kX2_test) (pc := 67) rfl rfl).trans ?_
    exact e_ireturn rfl
  · refine (e_aload_n (code := kX2_test) (pc := 69) rfl rfl).trans ?_
    refine (e_getI (code := kX2_test) (pc := 70) (c := 4) rfl (sk_226 (σ := σ) h) rfl).trans ?_
    refine (e_istore (code := kX2_test) (pc := 73) rfl rfl rfl).trans ?_
    refine (e_aload_n (code := kX2_test) (pc := 75) rfl rfl).trans ?_
    exact (e_callV (σ := σ) (code := kX2_test) (pc := 76) (len := 3) (k := 18) (n := 1) (c := 18) (as := [.ref 220]) (st0 := []) rfl rfl rfl rfl rfl (sk_220 (σ := σ) h) rfl)
theorem b_X2_test_79 {C : aCall} {σ : aSt} {x2 x3 x4 x5 : Int32} : b_R C kX2_test [] (79, [some (.ref 226), some (.ref 220), some (.int x2), some (.int x3), some (.int x4), some (.int x5)], [], σ) = b_R C kX2_test [] (11, [some (.ref 226), some (.ref 220), some (.int x2), some (.int x3), some (.int x4), some (.int (x5 + nI 1))], [], σ) := by
  refine (e_iinc (code := kX2_test) (pc := 79) rfl rfl rfl rfl).trans ?_
  refine (e_goto (code := kX2_test) (pc := 82) rfl).trans ?_
  rfl
theorem b_X2_test_85 {C : aCall} {σ : aSt} {x2 x3 x4 x5 : Int32} : b_R C kX2_test [] (85, [some (.ref 226), some (.ref 220), some (.int x2), some (.int x3), some (.int x4), some (.int x5)], [], σ) = some (.inl (some (.int x3)), σ) := by
  refine (e_iload_n (code := kX2_test) (pc := 85) rfl rfl).trans ?_
  exact e_ireturn rfl
theorem n_X2_factor {P : aCall} {d : Nat} {σ : aSt} {x2 : Int32} (hd : 1 ≤ d) : a_call a_tab P d 85 [.ref 226, .ref 220, .int x2] σ = b_R (a_call a_tab P (d - 1)) kX2_factor [] (0, [some (.ref 226), some (.ref 220), some (.int x2), none, none], [], σ) := e_call hd at_X2_factor rfl
theorem b_X2_factor_0 {C : aCall} {σ : aSt} {x2 : Int32} (h : Sh σ) : b_R C kX2_factor [] (0, [some (.ref 226), some (.ref 220), some (.int x2), none, none], [], σ) = b_G C kX2_factor [] 3 6 [some (.ref 226), some (.ref 220), some (.int x2), none, none] [] (C 25 [.ref 220, .ref 11] σ) := by
  refine (e_aload_n (code := kX2_factor) (pc := 0) rfl rfl).trans ?_
  refine (e_ldcS (code := kX2_factor) (pc := 1) rfl).trans ?_
  exact (e_callV (σ := σ) (code := kX2_factor) (pc := 3) (len := 3) (k := 25) (n := 2) (c := 18) (as := [.ref 220, .ref 11]) (st0 := []) rfl rfl rfl rfl rfl (sk_220 (σ := σ) h) rfl)
theorem b_X2_factor_6 {C : aCall} {σ : aSt} {x2 y0 : Int32} (h : Sh σ) : b_R C kX2_factor [] (6, [some (.ref 226), some (.ref 220), some (.int x2), none, none], [.int y0], σ) = (if y0 = 0 then b_G C kX2_factor [] 14 17 [some (.ref 226), some (.ref 220), some (.int x2), some (.int y0), none] [] (C 24 [.ref 220, .int (nI 40)] σ) else b_R C kX2_factor [] (26, [some (.ref 226), some (.ref 220), some (.int x2), some (.int y0), none], [], σ)) := by
  refine (e_istore_n (code := kX2_factor) (pc := 6) rfl rfl rfl).trans ?_
  refine (e_iload_n (code := kX2_factor) (pc := 7) rfl rfl).trans ?_
  refine (e_ifne (code := kX2_factor) (pc := 8) rfl).trans ?_
  refine b_ite ?_ ?_
  · refine (e_aload_n (code := kX2_factor) (pc := 11) rfl rfl).trans ?_
    refine (e_bipush (code := kX2_factor) (pc := 12) rfl).trans ?_
    exact (e_callV (σ := σ) (code := kX2_factor) (pc := 14) (len := 3) (k := 24) (n := 2) (c := 18) (as := [.ref 220, .int (nI 40)]) (st0 := []) rfl rfl rfl rfl rfl (sk_220 (σ := σ) h) rfl)
  · rfl
theorem b_X2_factor_17 {C : aCall} {σ : aSt} {x2 x3 y0 : Int32} (h : Sh σ) : b_R C kX2_factor [] (17, [some (.ref 226), some (.ref 220), some (.int x2), some (.int x3), none], [.int y0], σ) = (if y0 = 0 then b_G C kX2_factor [] 22 25 [some (.ref 226), some (.ref 220), some (.int x2), some (.int x3), none] [] (C 86 [.ref 226, .ref 220] σ) else b_R C kX2_factor [] (26, [some (.ref 226), some (.ref 220), some (.int x2), some (.int x3), none], [], σ)) := by
  refine (e_ifne (code := kX2_factor) (pc := 17) rfl).trans ?_
  refine b_ite ?_ ?_
  · refine (e_aload_n (code := kX2_factor) (pc := 20) rfl rfl).trans ?_
    refine (e_aload_n (code := kX2_factor) (pc := 21) rfl rfl).trans ?_
    exact (e_callV (σ := σ) (code := kX2_factor) (pc := 22) (len := 3) (k := 86) (n := 2) (c := 14) (as := [.ref 226, .ref 220]) (st0 := []) rfl rfl rfl rfl rfl (sk_226 (σ := σ) h) rfl)
  · rfl
theorem b_X2_factor_25 {C : aCall} {σ : aSt} {x2 x3 y0 : Int32} : b_R C kX2_factor [] (25, [some (.ref 226), some (.ref 220), some (.int x2), some (.int x3), none], [.int y0], σ) = some (.inl (some (.int y0)), σ) := by
  exact e_ireturn rfl
theorem b_X2_factor_26 {C : aCall} {σ : aSt} {x2 x3 : Int32} (h : Sh σ) : b_R C kX2_factor [] (26, [some (.ref 226), some (.ref 220), some (.int x2), some (.int x3), none], [], σ) = (if x2 < (nI 6) then b_G C kX2_factor [] 41 44 [some (.ref 226), some (.ref 220), some (.int x2), some (.int x3), none] [] (C 18 [.ref 220] σ) else b_G C kX2_factor [] 34 37 [some (.ref 226), some (.ref 220), some (.int x2), some (.int x3), none] [] (C 27 [.ref 220, .int (nI 3)] σ)) := by
  refine (e_iload_n (code := kX2_factor) (pc := 26) rfl rfl).trans ?_
  refine (e_bipush (code := kX2_factor) (pc := 27) rfl).trans ?_
  refine (e_iclt (code := kX2_factor) (pc := 29) rfl).trans ?_
  refine b_ite ?_ ?_
  · refine (e_aload_n (code := kX2_factor) (pc := 40) rfl rfl).trans ?_
    exact (e_callV (σ := σ) (code := kX2_factor) (pc := 41) (len := 3) (k := 18) (n := 1) (c := 18) (as := [.ref 220]) (st0 := []) rfl rfl rfl rfl rfl (sk_220 (σ := σ) h) rfl)
  · refine (e_aload_n (code := kX2_factor) (pc := 32) rfl rfl).trans ?_
    refine (e_iconst (code := kX2_factor) (pc := 33) rfl).trans ?_
    exact (e_callV (σ := σ) (code := kX2_factor) (pc := 34) (len := 3) (k := 27) (n := 2) (c := 18) (as := [.ref 220, .int (nI 3)]) (st0 := []) rfl rfl rfl rfl rfl (sk_220 (σ := σ) h) rfl)
theorem b_X2_factor_37 {C : aCall} {σ : aSt} {x2 x3 y0 : Int32} : b_R C kX2_factor [] (37, [some (.ref 226), some (.ref 220), some (.int x2), some (.int x3), none], [.int y0], σ) = some (.inl (some (.int (nI 0))), σ) := by
  refine (e_pop (code := kX2_factor) (pc := 37) rfl rfl).trans ?_
  refine (e_iconst (code := kX2_factor) (pc := 38) rfl).trans ?_
  exact e_ireturn rfl
theorem b_X2_factor_44 {C : aCall} {σ : aSt} {x2 x3 : Int32} (h : Sh σ) : b_R C kX2_factor [] (44, [some (.ref 226), some (.ref 220), some (.int x2), some (.int x3), none], [], σ) = (if x3 = 0 then b_G C kX2_factor [] 69 72 [some (.ref 226), some (.ref 220), some (.int x2), some (.int x3), none] [] (C 84 [.ref 226, .ref 220, .int (x2 + (nI 1))] σ) else b_G C kX2_factor [] 57 60 [some (.ref 226), some (.ref 220), some (.int x2), some (.int x3), none] [.int (a_I σ 226 1)] (C 85 [.ref 226, .ref 220, .int (x2 + (nI 1))] σ)) := by
  refine (e_iload_n (code := kX2_factor) (pc := 44) rfl rfl).trans ?_
  refine (e_ifeq (code := kX2_factor) (pc := 45) rfl).trans ?_
  refine b_ite ?_ ?_
  · refine (e_aload_n (code := kX2_factor) (pc := 64) rfl rfl).trans ?_
    refine (e_aload_n (code := kX2_factor) (pc := 65) rfl rfl).trans ?_
    refine (e_iload_n (code := kX2_factor) (pc := 66) rfl rfl).trans ?_
    refine (e_iconst (code := kX2_factor) (pc := 67) rfl).trans ?_
    refine (e_iadd (code := kX2_factor) (pc := 68) rfl).trans ?_
    exact (e_callV (σ := σ) (code := kX2_factor) (pc := 69) (len := 3) (k := 84) (n := 3) (c := 14) (as := [.ref 226, .ref 220, .int (x2 + (nI 1))]) (st0 := []) rfl rfl rfl rfl rfl (sk_226 (σ := σ) h) rfl)
  · refine (e_aload_n (code := kX2_factor) (pc := 48) rfl rfl).trans ?_
    refine (e_getI (code := kX2_factor) (pc := 49) (c := 4) rfl (sk_226 (σ := σ) h) rfl).trans ?_
    refine (e_aload_n (code := kX2_factor) (pc := 52) rfl rfl).trans ?_
    refine (e_aload_n (code := kX2_factor) (pc := 53) rfl rfl).trans ?_
    refine (e_iload_n (code := kX2_factor) (pc := 54) rfl rfl).trans ?_
    refine (e_iconst (code := kX2_factor) (pc := 55) rfl).trans ?_
    refine (e_iadd (code := kX2_factor) (pc := 56) rfl).trans ?_
    exact (e_callV (σ := σ) (code := kX2_factor) (pc := 57) (len := 3) (k := 85) (n := 3) (c := 14) (as := [.ref 226, .ref 220, .int (x2 + (nI 1))]) (st0 := [.int (a_I σ 226 1)]) rfl rfl rfl rfl rfl (sk_226 (σ := σ) h) rfl)
theorem b_X2_factor_60 {C : aCall} {σ : aSt} {x2 x3 y0 y1 : Int32} : b_R C kX2_factor [] (60, [some (.ref 226), some (.ref 220), some (.int x2), some (.int x3), none], [.int y0, .int y1], σ) = some (.inl (some (.int (y1 &&& (y0 ^^^ ((-1)))))), σ) := by
  refine (e_iconst (code := kX2_factor) (pc := 60) rfl).trans ?_
  refine (e_ixor (code := kX2_factor) (pc := 61) rfl).trans ?_
  refine (e_iand (code := kX2_factor) (pc := 62) rfl).trans ?_
  exact e_ireturn rfl
theorem b_X2_factor_72 {C : aCall} {σ : aSt} {x2 x3 y0 : Int32} (h : Sh σ) : b_R C kX2_factor [] (72, [some (.ref 226), some (.ref 220), some (.int x2), some (.int x3), none], [.int y0], σ) = b_G C kX2_factor [] 77 80 [some (.ref 226), some (.ref 220), some (.int x2), some (.int x3), some (.int y0)] [] (C 29 [.ref 220, .int (nI 41)] σ) := by
  refine (e_istore (code := kX2_factor) (pc := 72) rfl rfl rfl).trans ?_
  refine (e_aload_n (code := kX2_factor) (pc := 74) rfl rfl).trans ?_
  refine (e_bipush (code := kX2_factor) (pc := 75) rfl).trans ?_
  exact (e_callV (σ := σ) (code := kX2_factor) (pc := 77) (len := 3) (k := 29) (n := 2) (c := 18) (as := [.ref 220, .int (nI 41)]) (st0 := []) rfl rfl rfl rfl rfl (sk_220 (σ := σ) h) rfl)
theorem b_X2_factor_80 {C : aCall} {σ : aSt} {x2 x3 x4 y0 : Int32} : b_R C kX2_factor [] (80, [some (.ref 226), some (.ref 220), some (.int x2), some (.int x3), some (.int x4)], [.int y0], σ) = some (.inl (some (.int x4)), σ) := by
  refine (e_pop (code := kX2_factor) (pc := 80) rfl rfl).trans ?_
  refine (e_iload (code := kX2_factor) (pc := 81) rfl rfl).trans ?_
  exact e_ireturn rfl
theorem n_X2_comparison {P : aCall} {d : Nat} {σ : aSt} (hd : 1 ≤ d) : a_call a_tab P d 86 [.ref 226, .ref 220] σ = b_R (a_call a_tab P (d - 1)) kX2_comparison [] (0, [some (.ref 226), some (.ref 220), none, none, none, none, none, none, none], [], σ) := e_call hd at_X2_comparison rfl
theorem b_X2_comparison_0 {C : aCall} {σ : aSt} (h : Sh σ) : b_R C kX2_comparison [] (0, [some (.ref 226), some (.ref 220), none, none, none, none, none, none, none], [], σ) = b_G C kX2_comparison [] 2 5 [some (.ref 226), some (.ref 220), none, none, none, none, none, none, none] [] (C 88 [.ref 226, .ref 220] σ) := by
  refine (e_aload_n (code := kX2_comparison) (pc := 0) rfl rfl).trans ?_
  refine (e_aload_n (code := kX2_comparison) (pc := 1) rfl rfl).trans ?_
  exact (e_callV (σ := σ) (code := kX2_comparison) (pc := 2) (len := 3) (k := 88) (n := 2) (c := 14) (as := [.ref 226, .ref 220]) (st0 := []) rfl rfl rfl rfl rfl (sk_226 (σ := σ) h) rfl)
theorem b_X2_comparison_5 {C : aCall} {σ : aSt} {y0 : Int32} (h : Sh σ) : b_R C kX2_comparison [] (5, [some (.ref 226), some (.ref 220), none, none, none, none, none, none, none], [.int y0], σ) = b_G C kX2_comparison [] 7 10 [some (.ref 226), some (.ref 220), some (.int y0), none, none, none, none, none, none] [] (C 26 [.ref 220] σ) := by
  refine (e_istore_n (code := kX2_comparison) (pc := 5) rfl rfl rfl).trans ?_
  refine (e_aload_n (code := kX2_comparison) (pc := 6) rfl rfl).trans ?_
  exact (e_callV (σ := σ) (code := kX2_comparison) (pc := 7) (len := 3) (k := 26) (n := 1) (c := 18) (as := [.ref 220]) (st0 := []) rfl rfl rfl rfl rfl (sk_220 (σ := σ) h) rfl)
theorem b_X2_comparison_10 {C : aCall} {σ : aSt} {x2 y0 : Int32} (h : Sh σ) : b_R C kX2_comparison [] (10, [some (.ref 226), some (.ref 220), some (.int x2), none, none, none, none, none, none], [.int y0], σ) = (if y0 = 0 then b_G C kX2_comparison [] 18 21 [some (.ref 226), some (.ref 220), some (.int x2), none, none, none, none, none, none] [] (C 24 [.ref 220, .int (nI 60)] σ) else some (.inl (some (.int (nI 0))), σ)) := by
  refine (e_ifeq (code := kX2_comparison) (pc := 10) rfl).trans ?_
  refine b_ite ?_ ?_
  · refine (e_aload_n (code := kX2_comparison) (pc := 15) rfl rfl).trans ?_
    refine (e_bipush (code := kX2_comparison) (pc := 16) rfl).trans ?_
    exact (e_callV (σ := σ) (code := kX2_comparison) (pc := 18) (len := 3) (k := 24) (n := 2) (c := 18) (as := [.ref 220, .int (nI 60)]) (st0 := []) rfl rfl rfl rfl rfl (sk_220 (σ := σ) h) rfl)
  · refine (e_iconst (code := kX2_comparison) (pc := 13) rfl).trans ?_
    exact e_ireturn rfl
theorem b_X2_comparison_21 {C : aCall} {σ : aSt} {x2 y0 : Int32} (h : Sh σ) : b_R C kX2_comparison [] (21, [some (.ref 226), some (.ref 220), some (.int x2), none, none, none, none, none, none], [.int y0], σ) = b_G C kX2_comparison [] 25 28 [some (.ref 226), some (.ref 220), some (.int x2), some (.int y0), none, none, none, none, none] [] (C 24 [.ref 220, .int (nI 62)] σ) := by
  refine (e_istore_n (code := kX2_comparison) (pc := 21) rfl rfl rfl).trans ?_
  refine (e_aload_n (code := kX2_comparison) (pc := 22) rfl rfl).trans ?_
  refine (e_bipush (code := kX2_comparison) (pc := 23) rfl).trans ?_
  exact (e_callV (σ := σ) (code := kX2_comparison) (pc := 25) (len := 3) (k := 24) (n := 2) (c := 18) (as := [.ref 220, .int (nI 62)]) (st0 := []) rfl rfl rfl rfl rfl (sk_220 (σ := σ) h) rfl)
theorem b_X2_comparison_28 {C : aCall} {σ : aSt} {x2 x3 y0 : Int32} (h : Sh σ) : b_R C kX2_comparison [] (28, [some (.ref 226), some (.ref 220), some (.int x2), some (.int x3), none, none, none, none, none], [.int y0], σ) = (if x3 = 0 then (if y0 = 0 then b_G C kX2_comparison [] 42 45 [some (.ref 226), some (.ref 220), some (.int x2), some (.int x3), some (.int y0), none, none, none, none] [] (C 24 [.ref 220, .int (nI 61)] σ) else b_R C kX2_comparison [] (56, [some (.ref 226), some (.ref 220), some (.int x2), some (.int x3), some (.int y0), none, none, none, none], [], σ)) else b_R C kX2_comparison [] (56, [some (.ref 226), some (.ref 220), some (.int x2), some (.int x3), some (.int y0), none, none, none, none], [], σ)) := by
  refine (e_istore (code := kX2_comparison) (pc := 28) rfl rfl rfl).trans ?_
  refine (e_iload_n (code := kX2_comparison) (pc := 30) rfl rfl).trans ?_
  refine (e_ifne (code := kX2_comparison) (pc := 31) rfl).trans ?_
  refine b_ite ?_ ?_
  · refine (e_iload (code := kX2_comparison) (pc := 34) rfl rfl).trans ?_
    refine (e_ifne (code := kX2_comparison) (pc := 36) rfl).trans ?_
    refine b_ite ?_ ?_
    · refine (e_aload_n (code := kX2_comparison) (pc := 39) rfl rfl).trans ?_
      refine (e_bipush (code := kX2_comparison) (pc := 40) rfl).trans ?_
      exact (e_callV (σ := σ) (code := kX2_comparison) (pc := 42) (len := 3) (k := 24) (n := 2) (c := 18) (as := [.ref 220, .int (nI 61)]) (st0 := []) rfl rfl rfl rfl rfl (sk_220 (σ := σ) h) rfl)
    · rfl
  · rfl
theorem b_X2_comparison_45 {C : aCall} {σ : aSt} {x2 x3 x4 y0 : Int32} (h : Sh σ) : b_R C kX2_comparison [] (45, [some (.ref 226), some (.ref 220), some (.int x2), some (.int x3), some (.int x4), none, none, none, none], [.int y0], σ) = (if y0 = 0 then b_G C kX2_comparison [] 50 53 [some (.ref 226), some (.ref 220), some (.int x2), some (.int x3), some (.int x4), none, none, none, none] [] (C 27 [.ref 220, .int (nI 1)] σ) else b_R C kX2_comparison [] (56, [some (.ref 226), some (.ref 220), some (.int x2), some (.int x3), some (.int x4), none, none, none, none], [], σ)) := by
  refine (e_ifne (code := kX2_comparison) (pc := 45) rfl).trans ?_
  refine b_ite ?_ ?_
  · refine (e_aload_n (code := kX2_comparison) (pc := 48) rfl rfl).trans ?_
    refine (e_iconst (code := kX2_comparison) (pc := 49) rfl).trans ?_
    exact (e_callV (σ := σ) (code := kX2_comparison) (pc := 50) (len := 3) (k := 27) (n := 2) (c := 18) (as := [.ref 220, .int (nI 1)]) (st0 := []) rfl rfl rfl rfl rfl (sk_220 (σ := σ) h) rfl)
  · rfl
theorem b_X2_comparison_53 {C : aCall} {σ : aSt} {x2 x3 x4 y0 : Int32} : b_R C kX2_comparison [] (53, [some (.ref 226), some (.ref 220), some (.int x2), some (.int x3), some (.int x4), none, none, none, none], [.int y0], σ) = some (.inl (some (.int (nI 0))), σ) := by
  refine (e_pop (code := kX2_comparison) (pc := 53) rfl rfl).trans ?_
  refine (e_iconst (code := kX2_comparison) (pc := 54) rfl).trans ?_
  exact e_ireturn rfl
theorem b_X2_comparison_56 {C : aCall} {σ : aSt} {x2 x3 x4 : Int32} (h : Sh σ) : b_R C kX2_comparison [] (56, [some (.ref 226), some (.ref 220), some (.int x2), some (.int x3), some (.int x4), none, none, none, none], [], σ) = b_G C kX2_comparison [] 57 60 [some (.ref 226), some (.ref 220), some (.int x2), some (.int x3), some (.int x4), none, none, none, none] [] (C 18 [.ref 220] σ) := by
  refine (e_aload_n (code := kX2_comparison) (pc := 56) rfl rfl).trans ?_
  exact (e_callV (σ := σ) (code := kX2_comparison) (pc := 57) (len := 3) (k := 18) (n := 1) (c := 18) (as := [.ref 220]) (st0 := []) rfl rfl rfl rfl rfl (sk_220 (σ := σ) h) rfl)
theorem b_X2_comparison_60 {C : aCall} {σ : aSt} {x2 x3 x4 : Int32} (h : Sh σ) : b_R C kX2_comparison [] (60, [some (.ref 226), some (.ref 220), some (.int x2), some (.int x3), some (.int x4), none, none, none, none], [], σ) = b_G C kX2_comparison [] 62 65 [some (.ref 226), some (.ref 220), some (.int x2), some (.int x3), some (.int x4), none, none, none, none] [] (C 88 [.ref 226, .ref 220] σ) := by
  refine (e_aload_n (code := kX2_comparison) (pc := 60) rfl rfl).trans ?_
  refine (e_aload_n (code := kX2_comparison) (pc := 61) rfl rfl).trans ?_
  exact (e_callV (σ := σ) (code := kX2_comparison) (pc := 62) (len := 3) (k := 88) (n := 2) (c := 14) (as := [.ref 226, .ref 220]) (st0 := []) rfl rfl rfl rfl rfl (sk_226 (σ := σ) h) rfl)
theorem b_X2_comparison_65 {C : aCall} {σ : aSt} {x2 x3 x4 y0 : Int32} : b_R C kX2_comparison [] (65, [some (.ref 226), some (.ref 220), some (.int x2), some (.int x3), some (.int x4), none, none, none, none], [.int y0], σ) = b_R C kX2_comparison [] (73, [some (.ref 226), some (.ref 220), some (.int x2), some (.int x3), some (.int x4), some (.int y0), some (.int (nI 0)), some (.int (nI 0)), none], [], σ) := by
  refine (e_istore (code := kX2_comparison) (pc := 65) rfl rfl rfl).trans ?_
  refine (e_iconst (code := kX2_comparison) (pc := 67) rfl).trans ?_
  refine (e_istore (code := kX2_comparison) (pc := 68) rfl rfl rfl).trans ?_
  refine (e_iconst (code := kX2_comparison) (pc := 70) rfl).trans ?_
  refine (e_istore (code := kX2_comparison) (pc := 71) rfl rfl rfl).trans ?_
  rfl
theorem b_X2_comparison_73 {C : aCall} {σ : aSt} {x2 x3 x4 x5 x6 x7 : Int32} {o8 : Option Value} (h : Sh σ) : b_R C kX2_comparison [] (73, [some (.ref 226), some (.ref 220), some (.int x2), some (.int x3), some (.int x4), some (.int x5), some (.int x6), some (.int x7), o8], [], σ) = (if x7 < (a_I σ 227 2) then b_G C kX2_comparison [] 89 92 [some (.ref 226), some (.ref 220), some (.int x2), some (.int x3), some (.int x4), some (.int x5), some (.int x6), some (.int x7), o8] [] (C 87 [.ref 226, .int x2, .int x7] σ) else some (.inl (some (.int x6)), σ)) := by
  refine (e_iload (code := kX2_comparison) (pc := 73) rfl rfl).trans ?_
  refine (e_aload_n (code := kX2_comparison) (pc := 75) rfl rfl).trans ?_
  refine (e_getR (code := kX2_comparison) (pc := 76) (c := 4) rfl (sk_226 (σ := σ) h) (sr_226_0 (σ := σ) h)).trans ?_
  refine (e_getI (code := kX2_comparison) (pc := 79) (c := 6) rfl (sk_227 (σ := σ) h) rfl).trans ?_
  refine (e_icge (code := kX2_comparison) (pc := 82) rfl).trans ?_
  refine b_ite ?_ ?_
  · refine (e_aload_n (code := kX2_comparison) (pc := 85) rfl rfl).trans ?_
    refine (e_iload_n (code := kX2_comparison) (pc := 86) rfl rfl).trans ?_
    refine (e_iload (code := kX2_comparison) (pc := 87) rfl rfl).trans ?_
    exact (e_callV (σ := σ) (code := kX2_comparison) (pc := 89) (len := 3) (k := 87) (n := 3) (c := 14) (as := [.ref 226, .int x2, .int x7]) (st0 := []) rfl rfl rfl rfl rfl (sk_226 (σ := σ) h) rfl)
  · refine (e_iload (code := kX2_comparison) (pc := 150) rfl rfl).trans ?_
    exact e_ireturn rfl
theorem b_X2_comparison_92 {C : aCall} {σ : aSt} {x2 x3 x4 x5 x6 x7 y0 : Int32} {o8 : Option Value} (h : Sh σ) : b_R C kX2_comparison [] (92, [some (.ref 226), some (.ref 220), some (.int x2), some (.int x3), some (.int x4), some (.int x5), some (.int x6), some (.int x7), o8], [.int y0], σ) = b_G C kX2_comparison [] 97 100 [some (.ref 226), some (.ref 220), some (.int x2), some (.int x3), some (.int x4), some (.int x5), some (.int x6), some (.int x7), o8] [.int y0] (C 87 [.ref 226, .int x5, .int x7] σ) := by
  refine (e_aload_n (code := kX2_comparison) (pc := 92) rfl rfl).trans ?_
  refine (e_iload (code := kX2_comparison) (pc := 93) rfl rfl).trans ?_
  refine (e_iload (code := kX2_comparison) (pc := 95) rfl rfl).trans ?_
  exact (e_callV (σ := σ) (code := kX2_comparison) (pc := 97) (len := 3) (k := 87) (n := 3) (c := 14) (as := [.ref 226, .int x5, .int x7]) (st0 := [.int y0]) rfl rfl rfl rfl rfl (sk_226 (σ := σ) h) rfl)
theorem b_X2_comparison_100 {C : aCall} {σ : aSt} {x2 x3 x4 x5 x6 x7 y0 y1 : Int32} {o8 : Option Value} : b_R C kX2_comparison [] (100, [some (.ref 226), some (.ref 220), some (.int x2), some (.int x3), some (.int x4), some (.int x5), some (.int x6), some (.int x7), o8], [.int y0, .int y1], σ) = b_G C kX2_comparison [] 100 103 [some (.ref 226), some (.ref 220), some (.int x2), some (.int x3), some (.int x4), some (.int x5), some (.int x6), some (.int x7), o8] [] (C 1003 [.int y1, .int y0] σ) := by
  exact (e_callS (code := kX2_comparison) (pc := 100) (len := 3) (k := 1003) (n := 2) (as := [.int y1, .int y0]) (st0 := []) rfl rfl rfl rfl)
theorem b_X2_comparison_103 {C : aCall} {σ : aSt} {x2 x3 x4 x5 x6 x7 y0 : Int32} {o8 : Option Value} : b_R C kX2_comparison [] (103, [some (.ref 226), some (.ref 220), some (.int x2), some (.int x3), some (.int x4), some (.int x5), some (.int x6), some (.int x7), o8], [.int y0], σ) = (if x3 = 0 then (if x4 = 0 then (if y0 = 0 then b_R C kX2_comparison [] (135, [some (.ref 226), some (.ref 220), some (.int x2), some (.int x3), some (.int x4), some (.int x5), some (.int x6), some (.int x7), some (.int y0)], [], σ) else b_R C kX2_comparison [] (144, [some (.ref 226), some (.ref 220), some (.int x2), some (.int x3), some (.int x4), some (.int x5), some (.int x6), some (.int x7), some (.int y0)], [], σ)) else (if 0 < y0 then b_R C kX2_comparison [] (135, [some (.ref 226), some (.ref 220), some (.int x2), some (.int x3), some (.int x4), some (.int x5), some (.int x6), some (.int x7), some (.int y0)], [], σ) else b_R C kX2_comparison [] (144, [some (.ref 226), some (.ref 220), some (.int x2), some (.int x3), some (.int x4), some (.int x5), some (.int x6), some (.int x7), some (.int y0)], [], σ))) else (if y0 < 0 then b_R C kX2_comparison [] (135, [some (.ref 226), some (.ref 220), some (.int x2), some (.int x3), some (.int x4), some (.int x5), some (.int x6), some (.int x7), some (.int y0)], [], σ) else b_R C kX2_comparison [] (144, [some (.ref 226), some (.ref 220), some (.int x2), some (.int x3), some (.int x4), some (.int x5), some (.int x6), some (.int x7), some (.int y0)], [], σ))) := by
  refine (e_istore (code := kX2_comparison) (pc := 103) rfl rfl rfl).trans ?_
  refine (e_iload_n (code := kX2_comparison) (pc := 105) rfl rfl).trans ?_
  refine (e_ifeq (code := kX2_comparison) (pc := 106) rfl).trans ?_
  refine b_ite ?_ ?_
  · refine (e_iload (code := kX2_comparison) (pc := 117) rfl rfl).trans ?_
    refine (e_ifeq (code := kX2_comparison) (pc := 119) rfl).trans ?_
    refine b_ite ?_ ?_
    · refine (e_iload (code := kX2_comparison) (pc := 130) rfl rfl).trans ?_
      refine (e_ifne (code := kX2_comparison) (pc := 132) rfl).trans ?_
      refine b_ite ?_ ?_
      · rfl
      · rfl
    · refine (e_iload (code := kX2_comparison) (pc := 122) rfl rfl).trans ?_
      refine (e_ifle (code := kX2_comparison) (pc := 124) rfl).trans ?_
      refine b_ite ?_ ?_
      · refine (e_goto (code := kX2_comparison) (pc := 127) rfl).trans ?_
        rfl
      · rfl
  · refine (e_iload (code := kX2_comparison) (pc := 109) rfl rfl).trans ?_
    refine (e_ifge (code := kX2_comparison) (pc := 111) rfl).trans ?_
    refine b_ite ?_ ?_
    · refine (e_goto (code := kX2_comparison) (pc := 114) rfl).trans ?_
      rfl
    · rfl
theorem b_X2_comparison_135 {C : aCall} {σ : aSt} {x2 x3 x4 x5 x6 x7 x8 : Int32} : b_R C kX2_comparison [] (135, [some (.ref 226), some (.ref 220), some (.int x2), some (.int x3), some (.int x4), some (.int x5), some (.int x6), some (.int x7), some (.int x8)], [], σ) = b_R C kX2_comparison [] (144, [some (.ref 226), some (.ref 220), some (.int x2), some (.int x3), some (.int x4), some (.int x5), some (.int (x6 ||| ((nI 1) <<< (x7 &&& 31)))), some (.int x7), some (.int x8)], [], σ) := by
  refine (e_iload (code := kX2_comparison) (pc := 135) rfl rfl).trans ?_
  refine (e_iconst (code := kX2_comparison) (pc := 137) rfl).trans ?_
  refine (e_iload (code := kX2_comparison) (pc := 138) rfl rfl).trans ?_
  refine (e_ishl (code := kX2_comparison) (pc := 140) rfl).trans ?_
  refine (e_ior (code := kX2_comparison) (pc := 141) rfl).trans ?_
  refine (e_istore (code := kX2_comparison) (pc := 142) rfl rfl rfl).trans ?_
  rfl
theorem b_X2_comparison_144 {C : aCall} {σ : aSt} {x2 x3 x4 x5 x6 x7 x8 : Int32} : b_R C kX2_comparison [] (144, [some (.ref 226), some (.ref 220), some (.int x2), some (.int x3), some (.int x4), some (.int x5), some (.int x6), some (.int x7), some (.int x8)], [], σ) = b_R C kX2_comparison [] (73, [some (.ref 226), some (.ref 220), some (.int x2), some (.int x3), some (.int x4), some (.int x5), some (.int x6), some (.int (x7 + nI 1)), some (.int x8)], [], σ) := by
  refine (e_iinc (code := kX2_comparison) (pc := 144) rfl rfl rfl rfl).trans ?_
  refine (e_goto (code := kX2_comparison) (pc := 147) rfl).trans ?_
  rfl
theorem n_X2_numberOf {P : aCall} {d : Nat} {σ : aSt} {x1 x2 : Int32} (hd : 1 ≤ d) : a_call a_tab P d 87 [.ref 226, .int x1, .int x2] σ = b_R (a_call a_tab P (d - 1)) kX2_numberOf [] (0, [some (.ref 226), some (.int x1), some (.int x2)], [], σ) := e_call hd at_X2_numberOf rfl
theorem b_X2_numberOf_0 {C : aCall} {σ : aSt} {x1 x2 : Int32} (h : Sh σ) : b_R C kX2_numberOf [] (0, [some (.ref 226), some (.int x1), some (.int x2)], [], σ) = (if x1 < 0 then b_G C kX2_numberOf [] 16 19 [some (.ref 226), some (.int x1), some (.int x2)] [] (C 1 [.ref 227, .int x2, .int (((-1)) - x1)] σ) else b_R C kX2_numberOf [] (19, [some (.ref 226), some (.int x1), some (.int x2)], [.int x1], σ)) := by
  refine (e_iload_n (code := kX2_numberOf) (pc := 0) rfl rfl).trans ?_
  refine (e_iflt (code := kX2_numberOf) (pc := 1) rfl).trans ?_
  refine b_ite ?_ ?_
  · refine (e_aload_n (code := kX2_numberOf) (pc := 8) rfl rfl).trans ?_
    refine (e_getR (code := kX2_numberOf) (pc := 9) (c := 4) rfl (sk_226 (σ := σ) h) (sr_226_0 (σ := σ) h)).trans ?_
    refine (e_iload_n (code := kX2_numberOf) (pc := 12) rfl rfl).trans ?_
    refine (e_iconst (code := kX2_numberOf) (pc := 13) rfl).trans ?_
    refine (e_iload_n (code := kX2_numberOf) (pc := 14) rfl rfl).trans ?_
    refine (e_isub (code := kX2_numberOf) (pc := 15) rfl).trans ?_
    exact (e_callV (σ := σ) (code := kX2_numberOf) (pc := 16) (len := 3) (k := 1) (n := 3) (c := 16) (as := [.ref 227, .int x2, .int (((-1)) - x1)]) (st0 := []) rfl rfl rfl rfl rfl (sk_227 (σ := σ) h) rfl)
  · refine (e_iload_n (code := kX2_numberOf) (pc := 4) rfl rfl).trans ?_
    refine (e_goto (code := kX2_numberOf) (pc := 5) rfl).trans ?_
    rfl
theorem b_X2_numberOf_19 {C : aCall} {σ : aSt} {x1 x2 y0 : Int32} : b_R C kX2_numberOf [] (19, [some (.ref 226), some (.int x1), some (.int x2)], [.int y0], σ) = some (.inl (some (.int y0)), σ) := by
  exact e_ireturn rfl
theorem n_X2_operand {P : aCall} {d : Nat} {σ : aSt} (hd : 1 ≤ d) : a_call a_tab P d 88 [.ref 226, .ref 220] σ = b_R (a_call a_tab P (d - 1)) kX2_operand [] (0, [some (.ref 226), some (.ref 220), none], [], σ) := e_call hd at_X2_operand rfl
theorem b_X2_operand_0 {C : aCall} {σ : aSt} (h : Sh σ) : b_R C kX2_operand [] (0, [some (.ref 226), some (.ref 220), none], [], σ) = b_G C kX2_operand [] 1 4 [some (.ref 226), some (.ref 220), none] [] (C 20 [.ref 220] σ) := by
  refine (e_aload_n (code := kX2_operand) (pc := 0) rfl rfl).trans ?_
  exact (e_callV (σ := σ) (code := kX2_operand) (pc := 1) (len := 3) (k := 20) (n := 1) (c := 18) (as := [.ref 220]) (st0 := []) rfl rfl rfl rfl rfl (sk_220 (σ := σ) h) rfl)
theorem b_X2_operand_4 {C : aCall} {σ : aSt} {y0 : Int32} (h : Sh σ) : b_R C kX2_operand [] (4, [some (.ref 226), some (.ref 220), none], [.int y0], σ) = (if y0 = 0 then b_G C kX2_operand [] 38 41 [some (.ref 226), some (.ref 220), some (.int ((-1)))] [] (C 25 [.ref 220, .ref 6] σ) else (if (nI 9999) < (a_I σ 220 6) then b_G C kX2_operand [] 21 24 [some (.ref 226), some (.ref 220), some (.int (a_I σ 220 6))] [] (C 27 [.ref 220, .int (nI 2)] σ) else b_G C kX2_operand [] 28 31 [some (.ref 226), some (.ref 220), some (.int (a_I σ 220 6))] [] (C 18 [.ref 220] σ))) := by
  refine (e_ifeq (code := kX2_operand) (pc := 4) rfl).trans ?_
  refine b_ite ?_ ?_
  · refine (e_iconst (code := kX2_operand) (pc := 33) rfl).trans ?_
    refine (e_istore_n (code := kX2_operand) (pc := 34) rfl rfl rfl).trans ?_
    refine (e_aload_n (code := kX2_operand) (pc := 35) rfl rfl).trans ?_
    refine (e_ldcS (code := kX2_operand) (pc := 36) rfl).trans ?_
    exact (e_callV (σ := σ) (code := kX2_operand) (pc := 38) (len := 3) (k := 25) (n := 2) (c := 18) (as := [.ref 220, .ref 6]) (st0 := []) rfl rfl rfl rfl rfl (sk_220 (σ := σ) h) rfl)
  · refine (e_aload_n (code := kX2_operand) (pc := 7) rfl rfl).trans ?_
    refine (e_getI (code := kX2_operand) (pc := 8) (c := 8) rfl (sk_220 (σ := σ) h) rfl).trans ?_
    refine (e_istore_n (code := kX2_operand) (pc := 11) rfl rfl rfl).trans ?_
    refine (e_iload_n (code := kX2_operand) (pc := 12) rfl rfl).trans ?_
    refine (e_sipush (code := kX2_operand) (pc := 13) rfl).trans ?_
    refine (e_icle (code := kX2_operand) (pc := 16) rfl).trans ?_
    refine b_ite ?_ ?_
    · refine (e_aload_n (code := kX2_operand) (pc := 19) rfl rfl).trans ?_
      refine (e_iconst (code := kX2_operand) (pc := 20) rfl).trans ?_
      exact (e_callV (σ := σ) (code := kX2_operand) (pc := 21) (len := 3) (k := 27) (n := 2) (c := 18) (as := [.ref 220, .int (nI 2)]) (st0 := []) rfl rfl rfl rfl rfl (sk_220 (σ := σ) h) rfl)
    · refine (e_aload_n (code := kX2_operand) (pc := 27) rfl rfl).trans ?_
      exact (e_callV (σ := σ) (code := kX2_operand) (pc := 28) (len := 3) (k := 18) (n := 1) (c := 18) (as := [.ref 220]) (st0 := []) rfl rfl rfl rfl rfl (sk_220 (σ := σ) h) rfl)
theorem b_X2_operand_24 {C : aCall} {σ : aSt} {x2 y0 : Int32} : b_R C kX2_operand [] (24, [some (.ref 226), some (.ref 220), some (.int x2)], [.int y0], σ) = some (.inl (some (.int (nI 0))), σ) := by
  refine (e_pop (code := kX2_operand) (pc := 24) rfl rfl).trans ?_
  refine (e_iconst (code := kX2_operand) (pc := 25) rfl).trans ?_
  exact e_ireturn rfl
theorem b_X2_operand_31 {C : aCall} {σ : aSt} {x2 : Int32} : b_R C kX2_operand [] (31, [some (.ref 226), some (.ref 220), some (.int x2)], [], σ) = some (.inl (some (.int x2)), σ) := by
  refine (e_iload_n (code := kX2_operand) (pc := 31) rfl rfl).trans ?_
  exact e_ireturn rfl
theorem b_X2_operand_41 {C : aCall} {σ : aSt} {x2 y0 : Int32} (h : Sh σ) : b_R C kX2_operand [] (41, [some (.ref 226), some (.ref 220), some (.int x2)], [.int y0], σ) = (if y0 = 0 then b_G C kX2_operand [] 52 55 [some (.ref 226), some (.ref 220), some (.int x2)] [] (C 25 [.ref 220, .ref 12] σ) else b_R C kX2_operand [] (146, [some (.ref 226), some (.ref 220), some (.int (nI 0))], [], σ)) := by
  refine (e_ifeq (code := kX2_operand) (pc := 41) rfl).trans ?_
  refine b_ite ?_ ?_
  · refine (e_aload_n (code := kX2_operand) (pc := 49) rfl rfl).trans ?_
    refine (e_ldcS (code := kX2_operand) (pc := 50) rfl).trans ?_
    exact (e_callV (σ := σ) (code := kX2_operand) (pc := 52) (len := 3) (k := 25) (n := 2) (c := 18) (as := [.ref 220, .ref 12]) (st0 := []) rfl rfl rfl rfl rfl (sk_220 (σ := σ) h) rfl)
  · refine (e_iconst (code := kX2_operand) (pc := 44) rfl).trans ?_
    refine (e_istore_n (code := kX2_operand) (pc := 45) rfl rfl rfl).trans ?_
    refine (e_goto (code := kX2_operand) (pc := 46) rfl).trans ?_
    rfl
theorem b_X2_operand_55 {C : aCall} {σ : aSt} {x2 y0 : Int32} (h : Sh σ) : b_R C kX2_operand [] (55, [some (.ref 226), some (.ref 220), some (.int x2)], [.int y0], σ) = (if y0 = 0 then b_G C kX2_operand [] 66 69 [some (.ref 226), some (.ref 220), some (.int x2)] [] (C 25 [.ref 220, .ref 13] σ) else b_R C kX2_operand [] (146, [some (.ref 226), some (.ref 220), some (.int (nI 1))], [], σ)) := by
  refine (e_ifeq (code := kX2_operand) (pc := 55) rfl).trans ?_
  refine b_ite ?_ ?_
  · refine (e_aload_n (code := kX2_operand) (pc := 63) rfl rfl).trans ?_
    refine (e_ldcS (code := kX2_operand) (pc := 64) rfl).trans ?_
    exact (e_callV (σ := σ) (code := kX2_operand) (pc := 66) (len := 3) (k := 25) (n := 2) (c := 18) (as := [.ref 220, .ref 13]) (st0 := []) rfl rfl rfl rfl rfl (sk_220 (σ := σ) h) rfl)
  · refine (e_iconst (code := kX2_operand) (pc := 58) rfl).trans ?_
    refine (e_istore_n (code := kX2_operand) (pc := 59) rfl rfl rfl).trans ?_
    refine (e_goto (code := kX2_operand) (pc := 60) rfl).trans ?_
    rfl
theorem b_X2_operand_69 {C : aCall} {σ : aSt} {x2 y0 : Int32} (h : Sh σ) : b_R C kX2_operand [] (69, [some (.ref 226), some (.ref 220), some (.int x2)], [.int y0], σ) = (if y0 = 0 then b_G C kX2_operand [] 80 83 [some (.ref 226), some (.ref 220), some (.int x2)] [] (C 25 [.ref 220, .ref 14] σ) else b_R C kX2_operand [] (146, [some (.ref 226), some (.ref 220), some (.int (nI 2))], [], σ)) := by
  refine (e_ifeq (code := kX2_operand) (pc := 69) rfl).trans ?_
  refine b_ite ?_ ?_
  · refine (e_aload_n (code := kX2_operand) (pc := 77) rfl rfl).trans ?_
    refine (e_ldcS (code := kX2_operand) (pc := 78) rfl).trans ?_
    exact (e_callV (σ := σ) (code := kX2_operand) (pc := 80) (len := 3) (k := 25) (n := 2) (c := 18) (as := [.ref 220, .ref 14]) (st0 := []) rfl rfl rfl rfl rfl (sk_220 (σ := σ) h) rfl)
  · refine (e_iconst (code := kX2_operand) (pc := 72) rfl).trans ?_
    refine (e_istore_n (code := kX2_operand) (pc := 73) rfl rfl rfl).trans ?_
    refine (e_goto (code := kX2_operand) (pc := 74) rfl).trans ?_
    rfl
theorem b_X2_operand_83 {C : aCall} {σ : aSt} {x2 y0 : Int32} (h : Sh σ) : b_R C kX2_operand [] (83, [some (.ref 226), some (.ref 220), some (.int x2)], [.int y0], σ) = (if y0 = 0 then b_G C kX2_operand [] 94 97 [some (.ref 226), some (.ref 220), some (.int x2)] [] (C 25 [.ref 220, .ref 15] σ) else b_R C kX2_operand [] (146, [some (.ref 226), some (.ref 220), some (.int (nI 3))], [], σ)) := by
  refine (e_ifeq (code := kX2_operand) (pc := 83) rfl).trans ?_
  refine b_ite ?_ ?_
  · refine (e_aload_n (code := kX2_operand) (pc := 91) rfl rfl).trans ?_
    refine (e_ldcS (code := kX2_operand) (pc := 92) rfl).trans ?_
    exact (e_callV (σ := σ) (code := kX2_operand) (pc := 94) (len := 3) (k := 25) (n := 2) (c := 18) (as := [.ref 220, .ref 15]) (st0 := []) rfl rfl rfl rfl rfl (sk_220 (σ := σ) h) rfl)
  · refine (e_iconst (code := kX2_operand) (pc := 86) rfl).trans ?_
    refine (e_istore_n (code := kX2_operand) (pc := 87) rfl rfl rfl).trans ?_
    refine (e_goto (code := kX2_operand) (pc := 88) rfl).trans ?_
    rfl
theorem b_X2_operand_97 {C : aCall} {σ : aSt} {x2 y0 : Int32} (h : Sh σ) : b_R C kX2_operand [] (97, [some (.ref 226), some (.ref 220), some (.int x2)], [.int y0], σ) = (if y0 = 0 then b_G C kX2_operand [] 108 111 [some (.ref 226), some (.ref 220), some (.int x2)] [] (C 25 [.ref 220, .ref 16] σ) else b_R C kX2_operand [] (146, [some (.ref 226), some (.ref 220), some (.int (nI 4))], [], σ)) := by
  refine (e_ifeq (code := kX2_operand) (pc := 97) rfl).trans ?_
  refine b_ite ?_ ?_
  · refine (e_aload_n (code := kX2_operand) (pc := 105) rfl rfl).trans ?_
    refine (e_ldcS (code := kX2_operand) (pc := 106) rfl).trans ?_
    exact (e_callV (σ := σ) (code := kX2_operand) (pc := 108) (len := 3) (k := 25) (n := 2) (c := 18) (as := [.ref 220, .ref 16]) (st0 := []) rfl rfl rfl rfl rfl (sk_220 (σ := σ) h) rfl)
  · refine (e_iconst (code := kX2_operand) (pc := 100) rfl).trans ?_
    refine (e_istore_n (code := kX2_operand) (pc := 101) rfl rfl rfl).trans ?_
    refine (e_goto (code := kX2_operand) (pc := 102) rfl).trans ?_
    rfl
theorem b_X2_operand_111 {C : aCall} {σ : aSt} {x2 y0 : Int32} (h : Sh σ) : b_R C kX2_operand [] (111, [some (.ref 226), some (.ref 220), some (.int x2)], [.int y0], σ) = (if y0 = 0 then b_G C kX2_operand [] 122 125 [some (.ref 226), some (.ref 220), some (.int x2)] [] (C 25 [.ref 220, .ref 17] σ) else b_R C kX2_operand [] (146, [some (.ref 226), some (.ref 220), some (.int (nI 5))], [], σ)) := by
  refine (e_ifeq (code := kX2_operand) (pc := 111) rfl).trans ?_
  refine b_ite ?_ ?_
  · refine (e_aload_n (code := kX2_operand) (pc := 119) rfl rfl).trans ?_
    refine (e_ldcS (code := kX2_operand) (pc := 120) rfl).trans ?_
    exact (e_callV (σ := σ) (code := kX2_operand) (pc := 122) (len := 3) (k := 25) (n := 2) (c := 18) (as := [.ref 220, .ref 17]) (st0 := []) rfl rfl rfl rfl rfl (sk_220 (σ := σ) h) rfl)
  · refine (e_iconst (code := kX2_operand) (pc := 114) rfl).trans ?_
    refine (e_istore_n (code := kX2_operand) (pc := 115) rfl rfl rfl).trans ?_
    refine (e_goto (code := kX2_operand) (pc := 116) rfl).trans ?_
    rfl
theorem b_X2_operand_125 {C : aCall} {σ : aSt} {x2 y0 : Int32} (h : Sh σ) : b_R C kX2_operand [] (125, [some (.ref 226), some (.ref 220), some (.int x2)], [.int y0], σ) = (if y0 = 0 then b_G C kX2_operand [] 137 140 [some (.ref 226), some (.ref 220), some (.int x2)] [] (C 25 [.ref 220, .ref 18] σ) else b_R C kX2_operand [] (146, [some (.ref 226), some (.ref 220), some (.int (nI 6))], [], σ)) := by
  refine (e_ifeq (code := kX2_operand) (pc := 125) rfl).trans ?_
  refine b_ite ?_ ?_
  · refine (e_aload_n (code := kX2_operand) (pc := 134) rfl rfl).trans ?_
    refine (e_ldcS (code := kX2_operand) (pc := 135) rfl).trans ?_
    exact (e_callV (σ := σ) (code := kX2_operand) (pc := 137) (len := 3) (k := 25) (n := 2) (c := 18) (as := [.ref 220, .ref 18]) (st0 := []) rfl rfl rfl rfl rfl (sk_220 (σ := σ) h) rfl)
  · refine (e_bipush (code := kX2_operand) (pc := 128) rfl).trans ?_
    refine (e_istore_n (code := kX2_operand) (pc := 130) rfl rfl rfl).trans ?_
    refine (e_goto (code := kX2_operand) (pc := 131) rfl).trans ?_
    rfl
theorem b_X2_operand_140 {C : aCall} {σ : aSt} {x2 y0 : Int32} : b_R C kX2_operand [] (140, [some (.ref 226), some (.ref 220), some (.int x2)], [.int y0], σ) = (if y0 = 0 then b_R C kX2_operand [] (146, [some (.ref 226), some (.ref 220), some (.int x2)], [], σ) else b_R C kX2_operand [] (146, [some (.ref 226), some (.ref 220), some (.int (nI 7))], [], σ)) := by
  refine (e_ifeq (code := kX2_operand) (pc := 140) rfl).trans ?_
  refine b_ite ?_ ?_
  · rfl
  · refine (e_bipush (code := kX2_operand) (pc := 143) rfl).trans ?_
    refine (e_istore_n (code := kX2_operand) (pc := 145) rfl rfl rfl).trans ?_
    rfl
theorem b_X2_operand_146 {C : aCall} {σ : aSt} {x2 : Int32} (h : Sh σ) : b_R C kX2_operand [] (146, [some (.ref 226), some (.ref 220), some (.int x2)], [], σ) = (if x2 = ((-1)) then b_G C kX2_operand [] 153 156 [some (.ref 226), some (.ref 220), some (.int x2)] [] (C 27 [.ref 220, .int (nI 1)] σ) else b_G C kX2_operand [] 160 163 [some (.ref 226), some (.ref 220), some (.int x2)] [] (C 18 [.ref 220] σ)) := by
  refine (e_iload_n (code := kX2_operand) (pc := 146) rfl rfl).trans ?_
  refine (e_iconst (code := kX2_operand) (pc := 147) rfl).trans ?_
  refine (e_icne (code := kX2_operand) (pc := 148) rfl).trans ?_
  refine b_ite ?_ ?_
  · refine (e_aload_n (code := kX2_operand) (pc := 151) rfl rfl).trans ?_
    refine (e_iconst (code := kX2_operand) (pc := 152) rfl).trans ?_
    exact (e_callV (σ := σ) (code := kX2_operand) (pc := 153) (len := 3) (k := 27) (n := 2) (c := 18) (as := [.ref 220, .int (nI 1)]) (st0 := []) rfl rfl rfl rfl rfl (sk_220 (σ := σ) h) rfl)
  · refine (e_aload_n (code := kX2_operand) (pc := 159) rfl rfl).trans ?_
    exact (e_callV (σ := σ) (code := kX2_operand) (pc := 160) (len := 3) (k := 18) (n := 1) (c := 18) (as := [.ref 220]) (st0 := []) rfl rfl rfl rfl rfl (sk_220 (σ := σ) h) rfl)
theorem b_X2_operand_156 {C : aCall} {σ : aSt} {x2 y0 : Int32} : b_R C kX2_operand [] (156, [some (.ref 226), some (.ref 220), some (.int x2)], [.int y0], σ) = some (.inl (some (.int (nI 0))), σ) := by
  refine (e_pop (code := kX2_operand) (pc := 156) rfl rfl).trans ?_
  refine (e_iconst (code := kX2_operand) (pc := 157) rfl).trans ?_
  exact e_ireturn rfl
theorem b_X2_operand_163 {C : aCall} {σ : aSt} {x2 : Int32} : b_R C kX2_operand [] (163, [some (.ref 226), some (.ref 220), some (.int x2)], [], σ) = some (.inl (some (.int (((-1)) - x2))), σ) := by
  refine (e_iconst (code := kX2_operand) (pc := 163) rfl).trans ?_
  refine (e_iload_n (code := kX2_operand) (pc := 164) rfl rfl).trans ?_
  refine (e_isub (code := kX2_operand) (pc := 165) rfl).trans ?_
  exact e_ireturn rfl
