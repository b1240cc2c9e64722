/-! equations of the blocks, by program (wip/whole/tools/gen21.py) -/
theorem n_X1_init {P : aCall} {d : Nat} {σ : aSt} {a0 : Nat} (hd : 1 ≤ d) : a_call a_tab P d 32 [.ref a0] σ = b_R (a_call a_tab P (d - 1)) kX1_init [] (0, [some (.ref a0)], [], σ) := e_call hd at_X1_init rfl
theorem b_X1_init_0 {C : aCall} {σ : aSt} {a0 : Nat} : b_R C kX1_init [] (0, [some (.ref a0)], [], σ) = b_G C kX1_init [] 13 16 [some (.ref a0)] [.ref (a_n σ), .ref a0] (C 0 [.ref (a_n σ), .int (nI 20), .int (nI 13)] (a_new σ 16 3 3)) := by
  refine (e_aload_n (code := kX1_init) (pc := 0) rfl rfl).trans ?_
  refine (e_objInit (code := kX1_init) (pc := 1) rfl rfl).trans ?_
  refine (e_aload_n (code := kX1_init) (pc := 4) rfl rfl).trans ?_
  refine (e_new (code := kX1_init) (pc := 5) rfl).trans ?_
  refine (e_dup (code := kX1_init) (pc := 8) (σ := (a_new σ 16 3 3)) rfl rfl).trans ?_
  refine (e_bipush (code := kX1_init) (pc := 9) (σ := (a_new σ 16 3 3)) rfl).trans ?_
  refine (e_bipush (code := kX1_init) (pc := 11) (σ := (a_new σ 16 3 3)) rfl).trans ?_
  exact (e_callI (code := kX1_init) (pc := 13) (len := 3) (k := 0) (n := 3) (as := [.ref (a_n σ), .int (nI 20), .int (nI 13)]) (st0 := [.ref (a_n σ), .ref a0]) rfl rfl rfl rfl rfl rfl)
theorem b_X1_init_16 {C : aCall} {σ : aSt} {a0 g0 : Nat} (hk0 : a_kd σ a0 = 13) (hn1 : 100 ≤ a0) : b_R C kX1_init [] (16, [some (.ref a0)], [.ref g0, .ref a0], σ) = b_R C kX1_init [] (19, [some (.ref a0)], [], (a_setR σ a0 0 (some g0))) := by
  refine (e_putR (code := kX1_init) (pc := 16) (c := 3) rfl hk0 hn1).trans ?_
  rfl
theorem b_X1_init_19 {C : aCall} {σ : aSt} {a0 : Nat} : b_R C kX1_init [] (19, [some (.ref a0)], [], σ) = b_G C kX1_init [] 28 31 [some (.ref a0)] [.ref (a_n σ), .ref a0] (C 0 [.ref (a_n σ), .int (nI 20), .int (nI 17)] (a_new σ 16 3 3)) := by
  refine (e_aload_n (code := kX1_init) (pc := 19) rfl rfl).trans ?_
  refine (e_new (code := kX1_init) (pc := 20) rfl).trans ?_
  refine (e_dup (code := kX1_init) (pc := 23) (σ := (a_new σ 16 3 3)) rfl rfl).trans ?_
  refine (e_bipush (code := kX1_init) (pc := 24) (σ := (a_new σ 16 3 3)) rfl).trans ?_
  refine (e_bipush (code := kX1_init) (pc := 26) (σ := (a_new σ 16 3 3)) rfl).trans ?_
  exact (e_callI (code := kX1_init) (pc := 28) (len := 3) (k := 0) (n := 3) (as := [.ref (a_n σ), .int (nI 20), .int (nI 17)]) (st0 := [.ref (a_n σ), .ref a0]) rfl rfl rfl rfl rfl rfl)
theorem b_X1_init_31 {C : aCall} {σ : aSt} {a0 g0 : Nat} (hk0 : a_kd σ a0 = 13) (hn1 : 100 ≤ a0) : b_R C kX1_init [] (31, [some (.ref a0)], [.ref g0, .ref a0], σ) = b_R C kX1_init [] (34, [some (.ref a0)], [], (a_setR σ a0 1 (some g0))) := by
  refine (e_putR (code := kX1_init) (pc := 31) (c := 3) rfl hk0 hn1).trans ?_
  rfl
theorem b_X1_init_34 {C : aCall} {σ : aSt} {a0 : Nat} : b_R C kX1_init [] (34, [some (.ref a0)], [], σ) = b_G C kX1_init [] 42 45 [some (.ref a0)] [.ref (a_n σ), .ref a0] (C 0 [.ref (a_n σ), .int (nI 6), .int (nI 4)] (a_new σ 16 3 3)) := by
  refine (e_aload_n (code := kX1_init) (pc := 34) rfl rfl).trans ?_
  refine (e_new (code := kX1_init) (pc := 35) rfl).trans ?_
  refine (e_dup (code := kX1_init) (pc := 38) (σ := (a_new σ 16 3 3)) rfl rfl).trans ?_
  refine (e_bipush (code := kX1_init) (pc := 39) (σ := (a_new σ 16 3 3)) rfl).trans ?_
  refine (e_iconst (code := kX1_init) (pc := 41) (σ := (a_new σ 16 3 3)) rfl).trans ?_
  exact (e_callI (code := kX1_init) (pc := 42) (len := 3) (k := 0) (n := 3) (as := [.ref (a_n σ), .int (nI 6), .int (nI 4)]) (st0 := [.ref (a_n σ), .ref a0]) rfl rfl rfl rfl rfl rfl)
theorem b_X1_init_45 {C : aCall} {σ : aSt} {a0 g0 : Nat} (hk0 : a_kd σ a0 = 13) (hn1 : 100 ≤ a0) : b_R C kX1_init [] (45, [some (.ref a0)], [.ref g0, .ref a0], σ) = b_R C kX1_init [] (48, [some (.ref a0)], [], (a_setR σ a0 2 (some g0))) := by
  refine (e_putR (code := kX1_init) (pc := 45) (c := 3) rfl hk0 hn1).trans ?_
  rfl
theorem b_X1_init_48 {C : aCall} {σ : aSt} {a0 : Nat} : b_R C kX1_init [] (48, [some (.ref a0)], [], σ) = b_G C kX1_init [] 56 59 [some (.ref a0)] [.ref (a_n σ), .ref a0] (C 0 [.ref (a_n σ), .int (nI 12), .int (nI 4)] (a_new σ 16 3 3)) := by
  refine (e_aload_n (code := kX1_init) (pc := 48) rfl rfl).trans ?_
  refine (e_new (code := kX1_init) (pc := 49) rfl).trans ?_
  refine (e_dup (code := kX1_init) (pc := 52) (σ := (a_new σ 16 3 3)) rfl rfl).trans ?_
  refine (e_bipush (code := kX1_init) (pc := 53) (σ := (a_new σ 16 3 3)) rfl).trans ?_
  refine (e_iconst (code := kX1_init) (pc := 55) (σ := (a_new σ 16 3 3)) rfl).trans ?_
  exact (e_callI (code := kX1_init) (pc := 56) (len := 3) (k := 0) (n := 3) (as := [.ref (a_n σ), .int (nI 12), .int (nI 4)]) (st0 := [.ref (a_n σ), .ref a0]) rfl rfl rfl rfl rfl rfl)
theorem b_X1_init_59 {C : aCall} {σ : aSt} {a0 g0 : Nat} (hk0 : a_kd σ a0 = 13) (hn1 : 100 ≤ a0) : b_R C kX1_init [] (59, [some (.ref a0)], [.ref g0, .ref a0], σ) = b_R C kX1_init [] (62, [some (.ref a0)], [], (a_setR σ a0 3 (some g0))) := by
  refine (e_putR (code := kX1_init) (pc := 59) (c := 3) rfl hk0 hn1).trans ?_
  rfl
theorem b_X1_init_62 {C : aCall} {σ : aSt} {a0 : Nat} : b_R C kX1_init [] (62, [some (.ref a0)], [], σ) = some (.inl none, σ) := by
  exact e_return_ rfl
theorem n_X1_reset {P : aCall} {d : Nat} {σ : aSt} {p : Nat} (hd : 1 ≤ d) : a_call a_tab P d 33 [.ref p] σ = b_R (a_call a_tab P (d - 1)) kX1_reset [] (0, [some (.ref p)], [], σ) := e_call hd at_X1_reset rfl
theorem b_X1_reset_0 {C : aCall} {σ : aSt} {p : Nat} (hp : Pa σ p) : b_R C kX1_reset [] (0, [some (.ref p)], [], σ) = b_G C kX1_reset [] 4 7 [some (.ref p)] [] (C 4 [.ref (p + 1)] σ) := by
  refine (e_aload_n (code := kX1_reset) (pc := 0) rfl rfl).trans ?_
  refine (e_getR (code := kX1_reset) (pc := 1) (c := 3) rfl hp.1 hp.2.2.1).trans ?_
  exact (e_callV (σ := σ) (code := kX1_reset) (pc := 4) (len := 3) (k := 4) (n := 1) (c := 16) (as := [.ref (p + 1)]) (st0 := []) rfl rfl rfl rfl rfl hp.2.2.2.2.2.2.1.1 rfl)
theorem b_X1_reset_7 {C : aCall} {σ : aSt} {p : Nat} (hp : Pa σ p) : b_R C kX1_reset [] (7, [some (.ref p)], [], σ) = b_G C kX1_reset [] 11 14 [some (.ref p)] [] (C 4 [.ref (p + 3)] σ) := by
  refine (e_aload_n (code := kX1_reset) (pc := 7) rfl rfl).trans ?_
  refine (e_getR (code := kX1_reset) (pc := 8) (c := 3) rfl hp.1 hp.2.2.2.1).trans ?_
  exact (e_callV (σ := σ) (code := kX1_reset) (pc := 11) (len := 3) (k := 4) (n := 1) (c := 16) (as := [.ref (p + 3)]) (st0 := []) rfl rfl rfl rfl rfl hp.2.2.2.2.2.2.2.1.1 rfl)
theorem b_X1_reset_14 {C : aCall} {σ : aSt} {p : Nat} (hp : Pa σ p) : b_R C kX1_reset [] (14, [some (.ref p)], [], σ) = b_G C kX1_reset [] 18 21 [some (.ref p)] [] (C 4 [.ref (p + 7)] σ) := by
  refine (e_aload_n (code := kX1_reset) (pc := 14) rfl rfl).trans ?_
  refine (e_getR (code := kX1_reset) (pc := 15) (c := 3) rfl hp.1 hp.2.2.2.2.2.1).trans ?_
  exact (e_callV (σ := σ) (code := kX1_reset) (pc := 18) (len := 3) (k := 4) (n := 1) (c := 16) (as := [.ref (p + 7)]) (st0 := []) rfl rfl rfl rfl rfl hp.2.2.2.2.2.2.2.2.2.1 rfl)
theorem b_X1_reset_21 {C : aCall} {σ : aSt} {p : Nat} (hp : Pa σ p) : b_R C kX1_reset [] (21, [some (.ref p)], [], σ) = b_G C kX1_reset [] 23 26 [some (.ref p)] [] (C 34 [.ref p, .int (nI 2)] σ) := by
  refine (e_aload_n (code := kX1_reset) (pc := 21) rfl rfl).trans ?_
  refine (e_iconst (code := kX1_reset) (pc := 22) rfl).trans ?_
  exact (e_callV (σ := σ) (code := kX1_reset) (pc := 23) (len := 3) (k := 34) (n := 2) (c := 13) (as := [.ref p, .int (nI 2)]) (st0 := []) rfl rfl rfl rfl rfl hp.1 rfl)
theorem b_X1_reset_26 {C : aCall} {σ : aSt} {p : Nat} (hp : Pa σ p) : b_R C kX1_reset [] (26, [some (.ref p)], [], σ) = some (.inl none, (a_setI (a_setI (a_setI σ p 4 (nI 4)) p 5 (nI 300)) p 6 (nI 0))) := by
  refine (e_aload_n (code := kX1_reset) (pc := 26) rfl rfl).trans ?_
  refine (e_iconst (code := kX1_reset) (pc := 27) rfl).trans ?_
  refine (e_putI (code := kX1_reset) (pc := 28) (c := 3) rfl hp.1 hp.2.1).trans ?_
  refine (e_aload_n (code := kX1_reset) (pc := 31) (σ := (a_setI σ p 4 (nI 4))) rfl rfl).trans ?_
  refine (e_sipush (code := kX1_reset) (pc := 32) (σ := (a_setI σ p 4 (nI 4))) rfl).trans ?_
  refine (e_putI (code := kX1_reset) (pc := 35) (σ := (a_setI σ p 4 (nI 4))) (c := 3) rfl hp.1 hp.2.1).trans ?_
  refine (e_aload_n (code := kX1_reset) (pc := 38) (σ := (a_setI (a_setI σ p 4 (nI 4)) p 5 (nI 300))) rfl rfl).trans ?_
  refine (e_iconst (code := kX1_reset) (pc := 39) (σ := (a_setI (a_setI σ p 4 (nI 4)) p 5 (nI 300))) rfl).trans ?_
  refine (e_putI (code := kX1_reset) (pc := 40) (σ := (a_setI (a_setI σ p 4 (nI 4)) p 5 (nI 300))) (c := 3) rfl hp.1 hp.2.1).trans ?_
  exact e_return_ rfl
theorem n_X1_setBrushes {P : aCall} {d : Nat} {σ : aSt} {p : Nat} {x1 : Int32} (hd : 1 ≤ d) : a_call a_tab P d 34 [.ref p, .int x1] σ = b_R (a_call a_tab P (d - 1)) kX1_setBrushes [] (0, [some (.ref p), some (.int x1), none], [], σ) := e_call hd at_X1_setBrushes rfl
theorem b_X1_setBrushes_0 {C : aCall} {σ : aSt} {p : Nat} {x1 : Int32} (hp : Pa σ p) : b_R C kX1_setBrushes [] (0, [some (.ref p), some (.int x1), none], [], σ) = b_G C kX1_setBrushes [] 4 7 [some (.ref p), some (.int x1), none] [] (C 4 [.ref (p + 5)] σ) := by
  refine (e_aload_n (code := kX1_setBrushes) (pc := 0) rfl rfl).trans ?_
  refine (e_getR (code := kX1_setBrushes) (pc := 1) (c := 3) rfl hp.1 hp.2.2.2.2.1).trans ?_
  exact (e_callV (σ := σ) (code := kX1_setBrushes) (pc := 4) (len := 3) (k := 4) (n := 1) (c := 16) (as := [.ref (p + 5)]) (st0 := []) rfl rfl rfl rfl rfl hp.2.2.2.2.2.2.2.2.1.1 rfl)
theorem b_X1_setBrushes_7 {C : aCall} {σ : aSt} {p : Nat} {x1 : Int32} : b_R C kX1_setBrushes [] (7, [some (.ref p), some (.int x1), none], [], σ) = b_R C kX1_setBrushes [] (9, [some (.ref p), some (.int x1), some (.int (nI 0))], [], σ) := by
  refine (e_iconst (code := kX1_setBrushes) (pc := 7) rfl).trans ?_
  refine (e_istore_n (code := kX1_setBrushes) (pc := 8) rfl rfl rfl).trans ?_
  rfl
theorem b_X1_setBrushes_9 {C : aCall} {σ : aSt} {p : Nat} {x1 x2 : Int32} (hp : Pa σ p) : b_R C kX1_setBrushes [] (9, [some (.ref p), some (.int x1), some (.int x2)], [], σ) = (if x2 < x1 then b_G C kX1_setBrushes [] 18 21 [some (.ref p), some (.int x1), some (.int x2)] [] (C 5 [.ref (p + 5)] σ) else some (.inl none, σ)) := by
  refine (e_iload_n (code := kX1_setBrushes) (pc := 9) rfl rfl).trans ?_
  refine (e_iload_n (code := kX1_setBrushes) (pc := 10) rfl rfl).trans ?_
  refine (e_icge (code := kX1_setBrushes) (pc := 11) rfl).trans ?_
  refine b_ite ?_ ?_
  · refine (e_aload_n (code := kX1_setBrushes) (pc := 14) rfl rfl).trans ?_
    refine (e_getR (code := kX1_setBrushes) (pc := 15) (c := 3) rfl hp.1 hp.2.2.2.2.1).trans ?_
    exact (e_callV (σ := σ) (code := kX1_setBrushes) (pc := 18) (len := 3) (k := 5) (n := 1) (c := 16) (as := [.ref (p + 5)]) (st0 := []) rfl rfl rfl rfl rfl hp.2.2.2.2.2.2.2.2.1.1 rfl)
  · exact e_return_ rfl
theorem b_X1_setBrushes_21 {C : aCall} {σ : aSt} {p : Nat} {x1 x2 y0 : Int32} : b_R C kX1_setBrushes [] (21, [some (.ref p), some (.int x1), some (.int x2)], [.int y0], σ) = b_R C kX1_setBrushes [] (9, [some (.ref p), some (.int x1), some (.int (x2 + nI 1))], [], σ) := by
  refine (e_pop (code := kX1_setBrushes) (pc := 21) rfl rfl).trans ?_
  refine (e_iinc (code := kX1_setBrushes) (pc := 22) rfl rfl rfl rfl).trans ?_
  refine (e_goto (code := kX1_setBrushes) (pc := 25) rfl).trans ?_
  rfl
theorem n_X1_copyFrom {P : aCall} {d : Nat} {σ : aSt} {p q : Nat} (hd : 1 ≤ d) : a_call a_tab P d 35 [.ref p, .ref q] σ = b_R (a_call a_tab P (d - 1)) kX1_copyFrom [] (0, [some (.ref p), some (.ref q)], [], σ) := e_call hd at_X1_copyFrom rfl
theorem b_X1_copyFrom_0 {C : aCall} {σ : aSt} {p q : Nat} (hp : Pa σ p) (hq : Pa σ q) : b_R C kX1_copyFrom [] (0, [some (.ref p), some (.ref q)], [], σ) = b_G C kX1_copyFrom [] 8 11 [some (.ref p), some (.ref q)] [] (C 9 [.ref (p + 1), .ref (q + 1)] σ) := by
  refine (e_aload_n (code := kX1_copyFrom) (pc := 0) rfl rfl).trans ?_
  refine (e_getR (code := kX1_copyFrom) (pc := 1) (c := 3) rfl hp.1 hp.2.2.1).trans ?_
  refine (e_aload_n (code := kX1_copyFrom) (pc := 4) rfl rfl).trans ?_
  refine (e_getR (code := kX1_copyFrom) (pc := 5) (c := 3) rfl hq.1 hq.2.2.1).trans ?_
  exact (e_callV (σ := σ) (code := kX1_copyFrom) (pc := 8) (len := 3) (k := 9) (n := 2) (c := 16) (as := [.ref (p + 1), .ref (q + 1)]) (st0 := []) rfl rfl rfl rfl rfl hp.2.2.2.2.2.2.1.1 rfl)
theorem b_X1_copyFrom_11 {C : aCall} {σ : aSt} {p q : Nat} (hp : Pa σ p) (hq : Pa σ q) : b_R C kX1_copyFrom [] (11, [some (.ref p), some (.ref q)], [], σ) = b_G C kX1_copyFrom [] 19 22 [some (.ref p), some (.ref q)] [] (C 9 [.ref (p + 3), .ref (q + 3)] σ) := by
  refine (e_aload_n (code := kX1_copyFrom) (pc := 11) rfl rfl).trans ?_
  refine (e_getR (code := kX1_copyFrom) (pc := 12) (c := 3) rfl hp.1 hp.2.2.2.1).trans ?_
  refine (e_aload_n (code := kX1_copyFrom) (pc := 15) rfl rfl).trans ?_
  refine (e_getR (code := kX1_copyFrom) (pc := 16) (c := 3) rfl hq.1 hq.2.2.2.1).trans ?_
  exact (e_callV (σ := σ) (code := kX1_copyFrom) (pc := 19) (len := 3) (k := 9) (n := 2) (c := 16) (as := [.ref (p + 3), .ref (q + 3)]) (st0 := []) rfl rfl rfl rfl rfl hp.2.2.2.2.2.2.2.1.1 rfl)
theorem b_X1_copyFrom_22 {C : aCall} {σ : aSt} {p q : Nat} (hp : Pa σ p) (hq : Pa σ q) : b_R C kX1_copyFrom [] (22, [some (.ref p), some (.ref q)], [], σ) = b_G C kX1_copyFrom [] 30 33 [some (.ref p), some (.ref q)] [] (C 9 [.ref (p + 5), .ref (q + 5)] σ) := by
  refine (e_aload_n (code := kX1_copyFrom) (pc := 22) rfl rfl).trans ?_
  refine (e_getR (code := kX1_copyFrom) (pc := 23) (c := 3) rfl hp.1 hp.2.2.2.2.1).trans ?_
  refine (e_aload_n (code := kX1_copyFrom) (pc := 26) rfl rfl).trans ?_
  refine (e_getR (code := kX1_copyFrom) (pc := 27) (c := 3) rfl hq.1 hq.2.2.2.2.1).trans ?_
  exact (e_callV (σ := σ) (code := kX1_copyFrom) (pc := 30) (len := 3) (k := 9) (n := 2) (c := 16) (as := [.ref (p + 5), .ref (q + 5)]) (st0 := []) rfl rfl rfl rfl rfl hp.2.2.2.2.2.2.2.2.1.1 rfl)
theorem b_X1_copyFrom_33 {C : aCall} {σ : aSt} {p q : Nat} (hp : Pa σ p) (hq : Pa σ q) : b_R C kX1_copyFrom [] (33, [some (.ref p), some (.ref q)], [], σ) = b_G C kX1_copyFrom [] 41 44 [some (.ref p), some (.ref q)] [] (C 9 [.ref (p + 7), .ref (q + 7)] σ) := by
  refine (e_aload_n (code := kX1_copyFrom) (pc := 33) rfl rfl).trans ?_
  refine (e_getR (code := kX1_copyFrom) (pc := 34) (c := 3) rfl hp.1 hp.2.2.2.2.2.1).trans ?_
  refine (e_aload_n (code := kX1_copyFrom) (pc := 37) rfl rfl).trans ?_
  refine (e_getR (code := kX1_copyFrom) (pc := 38) (c := 3) rfl hq.1 hq.2.2.2.2.2.1).trans ?_
  exact (e_callV (σ := σ) (code := kX1_copyFrom) (pc := 41) (len := 3) (k := 9) (n := 2) (c := 16) (as := [.ref (p + 7), .ref (q + 7)]) (st0 := []) rfl rfl rfl rfl rfl hp.2.2.2.2.2.2.2.2.2.1 rfl)
theorem b_X1_copyFrom_44 {C : aCall} {σ : aSt} {q p : Nat} (hp : Pa σ p) (hq : Pa σ q) : b_R C kX1_copyFrom [] (44, [some (.ref p), some (.ref q)], [], σ) = some (.inl none, (a_setI (a_setI (a_setI σ p 4 (a_I σ q 4)) p 5 (a_I (a_setI σ p 4 (a_I σ q 4)) q 5)) p 6 (a_I (a_setI (a_setI σ p 4 (a_I σ q 4)) p 5 (a_I (a_setI σ p 4 (a_I σ q 4)) q 5)) q 6))) := by
  refine (e_aload_n (code := kX1_copyFrom) (pc := 44) rfl rfl).trans ?_
  refine (e_aload_n (code := kX1_copyFrom) (pc := 45) rfl rfl).trans ?_
  refine (e_getI (code := kX1_copyFrom) (pc := 46) (c := 3) rfl hq.1 rfl).trans ?_
  refine (e_putI (code := kX1_copyFrom) (pc := 49) (c := 3) rfl hp.1 hp.2.1).trans ?_
  refine (e_aload_n (code := kX1_copyFrom) (pc := 52) (σ := (a_setI σ p 4 (a_I σ q 4))) rfl rfl).trans ?_
  refine (e_aload_n (code := kX1_copyFrom) (pc := 53) (σ := (a_setI σ p 4 (a_I σ q 4))) rfl rfl).trans ?_
  refine (e_getI (code := kX1_copyFrom) (pc := 54) (σ := (a_setI σ p 4 (a_I σ q 4))) (c := 3) rfl hq.1 rfl).trans ?_
  refine (e_putI (code := kX1_copyFrom) (pc := 57) (σ := (a_setI σ p 4 (a_I σ q 4))) (c := 3) rfl hp.1 hp.2.1).trans ?_
  refine (e_aload_n (code := kX1_copyFrom) (pc := 60) (σ := (a_setI (a_setI σ p 4 (a_I σ q 4)) p 5 (a_I (a_setI σ p 4 (a_I σ q 4)) q 5))) rfl rfl).trans ?_
  refine (e_aload_n (code := kX1_copyFrom) (pc := 61) (σ := (a_setI (a_setI σ p 4 (a_I σ q 4)) p 5 (a_I (a_setI σ p 4 (a_I σ q 4)) q 5))) rfl rfl).trans ?_
  refine (e_getI (code := kX1_copyFrom) (pc := 62) (σ := (a_setI (a_setI σ p 4 (a_I σ q 4)) p 5 (a_I (a_setI σ p 4 (a_I σ q 4)) q 5))) (c := 3) rfl hq.1 rfl).trans ?_
  refine (e_putI (code := kX1_copyFrom) (pc := 65) (σ := (a_setI (a_setI σ p 4 (a_I σ q 4)) p 5 (a_I (a_setI σ p 4 (a_I σ q 4)) q 5))) (c := 3) rfl hp.1 hp.2.1).trans ?_
  exact e_return_ rfl
theorem n_X1_isInUse {P : aCall} {d : Nat} {σ : aSt} {p : Nat} {x1 : Int32} (hd : 1 ≤ d) : a_call a_tab P d 36 [.ref p, .int x1] σ = b_R (a_call a_tab P (d - 1)) kX1_isInUse [] (0, [some (.ref p), some (.int x1)], [], σ) := e_call hd at_X1_isInUse rfl
theorem b_X1_isInUse_0 {C : aCall} {σ : aSt} {p : Nat} {x1 : Int32} (hp : Pa σ p) : b_R C kX1_isInUse [] (0, [some (.ref p), some (.int x1)], [], σ) = b_G C kX1_isInUse [] 7 10 [some (.ref p), some (.int x1)] [] (C 1 [.ref (p + 1), .int x1, .int (nI 12)] σ) := by
  refine (e_aload_n (code := kX1_isInUse) (pc := 0) rfl rfl).trans ?_
  refine (e_getR (code := kX1_isInUse) (pc := 1) (c := 3) rfl hp.1 hp.2.2.1).trans ?_
  refine (e_iload_n (code := kX1_isInUse) (pc := 4) rfl rfl).trans ?_
  refine (e_bipush (code := kX1_isInUse) (pc := 5) rfl).trans ?_
  exact (e_callV (σ := σ) (code := kX1_isInUse) (pc := 7) (len := 3) (k := 1) (n := 3) (c := 16) (as := [.ref (p + 1), .int x1, .int (nI 12)]) (st0 := []) rfl rfl rfl rfl rfl hp.2.2.2.2.2.2.1.1 rfl)
theorem b_X1_isInUse_10 {C : aCall} {σ : aSt} {p : Nat} {x1 y0 : Int32} : b_R C kX1_isInUse [] (10, [some (.ref p), some (.int x1)], [.int y0], σ) = (if y0 = 0 then b_R C kX1_isInUse [] (18, [some (.ref p), some (.int x1)], [.int (nI 1)], σ) else b_R C kX1_isInUse [] (18, [some (.ref p), some (.int x1)], [.int (nI 0)], σ)) := by
  refine (e_ifne (code := kX1_isInUse) (pc := 10) rfl).trans ?_
  refine b_ite ?_ ?_
  · refine (e_iconst (code := kX1_isInUse) (pc := 13) rfl).trans ?_
    refine (e_goto (code := kX1_isInUse) (pc := 14) rfl).trans ?_
    rfl
  · refine (e_iconst (code := kX1_isInUse) (pc := 17) rfl).trans ?_
    rfl
theorem b_X1_isInUse_18 {C : aCall} {σ : aSt} {p : Nat} {x1 y0 : Int32} : b_R C kX1_isInUse [] (18, [some (.ref p), some (.int x1)], [.int y0], σ) = b_gd (y0 = 0 ∨ y0 = 1) (some (.inl (some (.int y0)), σ)) := by
  exact e_zreturn rfl
theorem n_X1_tubesInUse {P : aCall} {d : Nat} {σ : aSt} {p : Nat} (hd : 1 ≤ d) : a_call a_tab P d 37 [.ref p] σ = b_R (a_call a_tab P (d - 1)) kX1_tubesInUse [] (0, [some (.ref p), none, none], [], σ) := e_call hd at_X1_tubesInUse rfl
theorem b_X1_tubesInUse_0 {C : aCall} {σ : aSt} {p : Nat} : b_R C kX1_tubesInUse [] (0, [some (.ref p), none, none], [], σ) = b_R C kX1_tubesInUse [] (4, [some (.ref p), some (.int (nI 0)), some (.int (nI 0))], [], σ) := by
  refine (e_iconst (code := kX1_tubesInUse) (pc := 0) rfl).trans ?_
  refine (e_istore_n (code := kX1_tubesInUse) (pc := 1) rfl rfl rfl).trans ?_
  refine (e_iconst (code := kX1_tubesInUse) (pc := 2) rfl).trans ?_
  refine (e_istore_n (code := kX1_tubesInUse) (pc := 3) rfl rfl rfl).trans ?_
  rfl
theorem b_X1_tubesInUse_4 {C : aCall} {σ : aSt} {p : Nat} {x1 x2 : Int32} (hp : Pa σ p) : b_R C kX1_tubesInUse [] (4, [some (.ref p), some (.int x1), some (.int x2)], [], σ) = (if x2 < (a_I σ (p + 1) 2) then b_G C kX1_tubesInUse [] 18 21 [some (.ref p), some (.int x1), some (.int x2)] [.int x1] (C 36 [.ref p, .int x2] σ) else some (.inl (some (.int x1)), σ)) := by
  refine (e_iload_n (code := kX1_tubesInUse) (pc := 4) rfl rfl).trans ?_
  refine (e_aload_n (code := kX1_tubesInUse) (pc := 5) rfl rfl).trans ?_
  refine (e_getR (code := kX1_tubesInUse) (pc := 6) (c := 3) rfl hp.1 hp.2.2.1).trans ?_
  refine (e_getI (code := kX1_tubesInUse) (pc := 9) (c := 6) rfl hp.2.2.2.2.2.2.1.1 rfl).trans ?_
  refine (e_icge (code := kX1_tubesInUse) (pc := 12) rfl).trans ?_
  refine b_ite ?_ ?_
  · refine (e_iload_n (code := kX1_tubesInUse) (pc := 15) rfl rfl).trans ?_
    refine (e_aload_n (code := kX1_tubesInUse) (pc := 16) rfl rfl).trans ?_
    refine (e_iload_n (code := kX1_tubesInUse) (pc := 17) rfl rfl).trans ?_
    exact (e_callV (σ := σ) (code := kX1_tubesInUse) (pc := 18) (len := 3) (k := 36) (n := 2) (c := 13) (as := [.ref p, .int x2]) (st0 := [.int x1]) rfl rfl rfl rfl rfl hp.1 rfl)
  · refine (e_iload_n (code := kX1_tubesInUse) (pc := 37) rfl rfl).trans ?_
    exact e_ireturn rfl
theorem b_X1_tubesInUse_21 {C : aCall} {σ : aSt} {p : Nat} {x1 x2 y0 y1 : Int32} : b_R C kX1_tubesInUse [] (21, [some (.ref p), some (.int x1), some (.int x2)], [.int y0, .int y1], σ) = (if y0 = 0 then b_R C kX1_tubesInUse [] (29, [some (.ref p), some (.int x1), some (.int x2)], [.int (nI 0), .int y1], σ) else b_R C kX1_tubesInUse [] (29, [some (.ref p), some (.int x1), some (.int x2)], [.int (nI 1), .int y1], σ)) := by
  refine (e_ifeq (code := kX1_tubesInUse) (pc := 21) rfl).trans ?_
  refine b_ite ?_ ?_
  · refine (e_iconst (code := kX1_tubesInUse) (pc := 28) rfl).trans ?_
    rfl
  · refine (e_iconst (code := kX1_tubesInUse) (pc := 24) rfl).trans ?_
    refine (e_goto (code := kX1_tubesInUse) (pc := 25) rfl).trans ?_
    rfl
theorem b_X1_tubesInUse_29 {C : aCall} {σ : aSt} {p : Nat} {x1 x2 y0 y1 : Int32} : b_R C kX1_tubesInUse [] (29, [some (.ref p), some (.int x1), some (.int x2)], [.int y0, .int y1], σ) = b_R C kX1_tubesInUse [] (4, [some (.ref p), some (.int (y1 + y0)), some (.int (x2 + nI 1))], [], σ) := by
  refine (e_iadd (code := kX1_tubesInUse) (pc := 29) rfl).trans ?_
  refine (e_istore_n (code := kX1_tubesInUse) (pc := 30) rfl rfl rfl).trans ?_
  refine (e_iinc (code := kX1_tubesInUse) (pc := 31) rfl rfl rfl rfl).trans ?_
  refine (e_goto (code := kX1_tubesInUse) (pc := 34) rfl).trans ?_
  rfl
theorem n_X1_dropsLeft {P : aCall} {d : Nat} {σ : aSt} {p : Nat} {x1 : Int32} (hd : 1 ≤ d) : a_call a_tab P d 38 [.ref p, .int x1] σ = b_R (a_call a_tab P (d - 1)) kX1_dropsLeft [] (0, [some (.ref p), some (.int x1), none, none], [], σ) := e_call hd at_X1_dropsLeft rfl
theorem b_X1_dropsLeft_0 {C : aCall} {σ : aSt} {p : Nat} {x1 : Int32} : b_R C kX1_dropsLeft [] (0, [some (.ref p), some (.int x1), none, none], [], σ) = b_R C kX1_dropsLeft [] (4, [some (.ref p), some (.int x1), some (.int (nI 0)), some (.int (nI 0))], [], σ) := by
  refine (e_iconst (code := kX1_dropsLeft) (pc := 0) rfl).trans ?_
  refine (e_istore_n (code := kX1_dropsLeft) (pc := 1) rfl rfl rfl).trans ?_
  refine (e_iconst (code := kX1_dropsLeft) (pc := 2) rfl).trans ?_
  refine (e_istore_n (code := kX1_dropsLeft) (pc := 3) rfl rfl rfl).trans ?_
  rfl
theorem b_X1_dropsLeft_4 {C : aCall} {σ : aSt} {p : Nat} {x1 x2 x3 : Int32} (hp : Pa σ p) : b_R C kX1_dropsLeft [] (4, [some (.ref p), some (.int x1), some (.int x2), some (.int x3)], [], σ) = (if x3 < (a_I σ (p + 1) 2) then (if x1 = 0 then b_G C kX1_dropsLeft [] 21 24 [some (.ref p), some (.int x1), some (.int x2), some (.int x3)] [] (C 36 [.ref p, .int x3] σ) else b_R C kX1_dropsLeft [] (27, [some (.ref p), some (.int x1), some (.int x2), some (.int x3)], [], σ)) else some (.inl (some (.int x2)), σ)) := by
  refine (e_iload_n (code := kX1_dropsLeft) (pc := 4) rfl rfl).trans ?_
  refine (e_aload_n (code := kX1_dropsLeft) (pc := 5) rfl rfl).trans ?_
  refine (e_getR (code := kX1_dropsLeft) (pc := 6) (c := 3) rfl hp.1 hp.2.2.1).trans ?_
  refine (e_getI (code := kX1_dropsLeft) (pc := 9) (c := 6) rfl hp.2.2.2.2.2.2.1.1 rfl).trans ?_
  refine (e_icge (code := kX1_dropsLeft) (pc := 12) rfl).trans ?_
  refine b_ite ?_ ?_
  · refine (e_iload_n (code := kX1_dropsLeft) (pc := 15) rfl rfl).trans ?_
    refine (e_ifne (code := kX1_dropsLeft) (pc := 16) rfl).trans ?_
    refine b_ite ?_ ?_
    · refine (e_aload_n (code := kX1_dropsLeft) (pc := 19) rfl rfl).trans ?_
      refine (e_iload_n (code := kX1_dropsLeft) (pc := 20) rfl rfl).trans ?_
      exact (e_callV (σ := σ) (code := kX1_dropsLeft) (pc := 21) (len := 3) (k := 36) (n := 2) (c := 13) (as := [.ref p, .int x3]) (st0 := []) rfl rfl rfl rfl rfl hp.1 rfl)
    · rfl
  · refine (e_iload_n (code := kX1_dropsLeft) (pc := 46) rfl rfl).trans ?_
    exact e_ireturn rfl
theorem b_X1_dropsLeft_24 {C : aCall} {σ : aSt} {p : Nat} {x1 x2 x3 y0 : Int32} : b_R C kX1_dropsLeft [] (24, [some (.ref p), some (.int x1), some (.int x2), some (.int x3)], [.int y0], σ) = (if y0 = 0 then b_R C kX1_dropsLeft [] (40, [some (.ref p), some (.int x1), some (.int x2), some (.int x3)], [], σ) else b_R C kX1_dropsLeft [] (27, [some (.ref p), some (.int x1), some (.int x2), some (.int x3)], [], σ)) := by
  refine (e_ifeq (code := kX1_dropsLeft) (pc := 24) rfl).trans ?_
  refine b_ite ?_ ?_
  · rfl
  · rfl
theorem b_X1_dropsLeft_27 {C : aCall} {σ : aSt} {p : Nat} {x1 x2 x3 : Int32} (hp : Pa σ p) : b_R C kX1_dropsLeft [] (27, [some (.ref p), some (.int x1), some (.int x2), some (.int x3)], [], σ) = b_G C kX1_dropsLeft [] 35 38 [some (.ref p), some (.int x1), some (.int x2), some (.int x3)] [.int x2] (C 1 [.ref (p + 1), .int x3, .int (nI 11)] σ) := by
  refine (e_iload_n (code := kX1_dropsLeft) (pc := 27) rfl rfl).trans ?_
  refine (e_aload_n (code := kX1_dropsLeft) (pc := 28) rfl rfl).trans ?_
  refine (e_getR (code := kX1_dropsLeft) (pc := 29) (c := 3) rfl hp.1 hp.2.2.1).trans ?_
  refine (e_iload_n (code := kX1_dropsLeft) (pc := 32) rfl rfl).trans ?_
  refine (e_bipush (code := kX1_dropsLeft) (pc := 33) rfl).trans ?_
  exact (e_callV (σ := σ) (code := kX1_dropsLeft) (pc := 35) (len := 3) (k := 1) (n := 3) (c := 16) (as := [.ref (p + 1), .int x3, .int (nI 11)]) (st0 := [.int x2]) rfl rfl rfl rfl rfl hp.2.2.2.2.2.2.1.1 rfl)
theorem b_X1_dropsLeft_38 {C : aCall} {σ : aSt} {p : Nat} {x1 x2 x3 y0 y1 : Int32} : b_R C kX1_dropsLeft [] (38, [some (.ref p), some (.int x1), some (.int x2), some (.int x3)], [.int y0, .int y1], σ) = b_R C kX1_dropsLeft [] (40, [some (.ref p), some (.int x1), some (.int (y1 + y0)), some (.int x3)], [], σ) := by
  refine (e_iadd (code := kX1_dropsLeft) (pc := 38) rfl).trans ?_
  refine (e_istore_n (code := kX1_dropsLeft) (pc := 39) rfl rfl rfl).trans ?_
  rfl
theorem b_X1_dropsLeft_40 {C : aCall} {σ : aSt} {p : Nat} {x1 x2 x3 : Int32} : b_R C kX1_dropsLeft [] (40, [some (.ref p), some (.int x1), some (.int x2), some (.int x3)], [], σ) = b_R C kX1_dropsLeft [] (4, [some (.ref p), some (.int x1), some (.int x2), some (.int (x3 + nI 1))], [], σ) := by
  refine (e_iinc (code := kX1_dropsLeft) (pc := 40) rfl rfl rfl rfl).trans ?_
  refine (e_goto (code := kX1_dropsLeft) (pc := 43) rfl).trans ?_
  rfl
theorem n_X1_uses {P : aCall} {d : Nat} {σ : aSt} {p t : Nat} {x2 x3 : Int32} (hd : 1 ≤ d) : a_call a_tab P d 39 [.ref p, .ref t, .int x2, .int x3] σ = b_R (a_call a_tab P (d - 1)) kX1_uses [] (0, [some (.ref p), some (.ref t), some (.int x2), some (.int x3), none, none], [], σ) := e_call hd at_X1_uses rfl
theorem b_X1_uses_0 {C : aCall} {σ : aSt} {t c_t N_t p : Nat} {x2 x3 : Int32} (ht : Tb σ t c_t N_t) : b_R C kX1_uses [] (0, [some (.ref p), some (.ref t), some (.int x2), some (.int x3), none, none], [], σ) = b_G C kX1_uses [] 4 7 [some (.ref p), some (.ref t), some (.int x2), some (.int x3), none, none] [] (C 1 [.ref t, .int x2, .int (nI 8)] σ) := by
  refine (e_aload_n (code := kX1_uses) (pc := 0) rfl rfl).trans ?_
  refine (e_iload_n (code := kX1_uses) (pc := 1) rfl rfl).trans ?_
  refine (e_bipush (code := kX1_uses) (pc := 2) rfl).trans ?_
  exact (e_callV (σ := σ) (code := kX1_uses) (pc := 4) (len := 3) (k := 1) (n := 3) (c := 16) (as := [.ref t, .int x2, .int (nI 8)]) (st0 := []) rfl rfl rfl rfl rfl ht.1 rfl)
theorem b_X1_uses_7 {C : aCall} {σ : aSt} {p t : Nat} {x2 x3 y0 : Int32} : b_R C kX1_uses [] (7, [some (.ref p), some (.ref t), some (.int x2), some (.int x3), none, none], [.int y0], σ) = b_R C kX1_uses [] (12, [some (.ref p), some (.ref t), some (.int x2), some (.int x3), some (.int y0), some (.int (nI 0))], [], σ) := by
  refine (e_istore (code := kX1_uses) (pc := 7) rfl rfl rfl).trans ?_
  refine (e_iconst (code := kX1_uses) (pc := 9) rfl).trans ?_
  refine (e_istore (code := kX1_uses) (pc := 10) rfl rfl rfl).trans ?_
  rfl
theorem b_X1_uses_12 {C : aCall} {σ : aSt} {t c_t N_t p : Nat} {x2 x3 x4 x5 : Int32} (ht : Tb σ t c_t N_t) : b_R C kX1_uses [] (12, [some (.ref p), some (.ref t), some (.int x2), some (.int x3), some (.int x4), some (.int x5)], [], σ) = (if x5 < x4 then b_G C kX1_uses [] 26 29 [some (.ref p), some (.ref t), some (.int x2), some (.int x3), some (.int x4), some (.int x5)] [] (C 1 [.ref t, .int x2, .int ((nI 9) + x5)] σ) else some (.inl (some (.int (nI 0))), σ)) := by
  refine (e_iload (code := kX1_uses) (pc := 12) rfl rfl).trans ?_
  refine (e_iload (code := kX1_uses) (pc := 14) rfl rfl).trans ?_
  refine (e_icge (code := kX1_uses) (pc := 16) rfl).trans ?_
  refine b_ite ?_ ?_
  · refine (e_aload_n (code := kX1_uses) (pc := 19) rfl rfl).trans ?_
    refine (e_iload_n (code := kX1_uses) (pc := 20) rfl rfl).trans ?_
    refine (e_bipush (code := kX1_uses) (pc := 21) rfl).trans ?_
    refine (e_iload (code := kX1_uses) (pc := 23) rfl rfl).trans ?_
    refine (e_iadd (code := kX1_uses) (pc := 25) rfl).trans ?_
    exact (e_callV (σ := σ) (code := kX1_uses) (pc := 26) (len := 3) (k := 1) (n := 3) (c := 16) (as := [.ref t, .int x2, .int ((nI 9) + x5)]) (st0 := []) rfl rfl rfl rfl rfl ht.1 rfl)
  · refine (e_iconst (code := kX1_uses) (pc := 41) rfl).trans ?_
    exact (e_zreturn rfl).trans (b_gd_t (by decide))
theorem b_X1_uses_29 {C : aCall} {σ : aSt} {p t : Nat} {x2 x3 x4 x5 y0 : Int32} : b_R C kX1_uses [] (29, [some (.ref p), some (.ref t), some (.int x2), some (.int x3), some (.int x4), some (.int x5)], [.int y0], σ) = (if y0 = x3 then some (.inl (some (.int (nI 1))), σ) else b_R C kX1_uses [] (12, [some (.ref p), some (.ref t), some (.int x2), some (.int x3), some (.int x4), some (.int (x5 + nI 1))], [], σ)) := by
  refine (e_iload_n (code := kX1_uses) (pc := 29) rfl rfl).trans ?_
  refine (e_icne (code := kX1_uses) (pc := 30) rfl).trans ?_
  refine b_ite ?_ ?_
  · refine (e_iconst (code := kX1_uses) (pc := 33) rfl).trans ?_
    exact (e_zreturn rfl).trans (b_gd_t (by decide))
  · refine (e_iinc (code := kX1_uses) (pc := 35) rfl rfl rfl rfl).trans ?_
    refine (e_goto (code := kX1_uses) (pc := 38) rfl).trans ?_
    rfl
theorem n_X1_usersOf {P : aCall} {d : Nat} {σ : aSt} {p : Nat} {x1 : Int32} (hd : 1 ≤ d) : a_call a_tab P d 40 [.ref p, .int x1] σ = b_R (a_call a_tab P (d - 1)) kX1_usersOf [] (0, [some (.ref p), some (.int x1), none, none], [], σ) := e_call hd at_X1_usersOf rfl
theorem b_X1_usersOf_0 {C : aCall} {σ : aSt} {p : Nat} {x1 : Int32} : b_R C kX1_usersOf [] (0, [some (.ref p), some (.int x1), none, none], [], σ) = b_R C kX1_usersOf [] (4, [some (.ref p), some (.int x1), some (.int (nI 0)), some (.int (nI 0))], [], σ) := by
  refine (e_iconst (code := kX1_usersOf) (pc := 0) rfl).trans ?_
  refine (e_istore_n (code := kX1_usersOf) (pc := 1) rfl rfl rfl).trans ?_
  refine (e_iconst (code := kX1_usersOf) (pc := 2) rfl).trans ?_
  refine (e_istore_n (code := kX1_usersOf) (pc := 3) rfl rfl rfl).trans ?_
  rfl
theorem b_X1_usersOf_4 {C : aCall} {σ : aSt} {p : Nat} {x1 x2 x3 : Int32} (hp : Pa σ p) : b_R C kX1_usersOf [] (4, [some (.ref p), some (.int x1), some (.int x2), some (.int x3)], [], σ) = (if x3 < (a_I σ (p + 3) 2) then b_G C kX1_usersOf [] 23 26 [some (.ref p), some (.int x1), some (.int x2), some (.int x3)] [.int x2] (C 39 [.ref p, .ref (p + 3), .int x3, .int x1] σ) else some (.inl (some (.int x2)), σ)) := by
  refine (e_iload_n (code := kX1_usersOf) (pc := 4) rfl rfl).trans ?_
  refine (e_aload_n (code := kX1_usersOf) (pc := 5) rfl rfl).trans ?_
  refine (e_getR (code := kX1_usersOf) (pc := 6) (c := 3) rfl hp.1 hp.2.2.2.1).trans ?_
  refine (e_getI (code := kX1_usersOf) (pc := 9) (c := 6) rfl hp.2.2.2.2.2.2.2.1.1 rfl).trans ?_
  refine (e_icge (code := kX1_usersOf) (pc := 12) rfl).trans ?_
  refine b_ite ?_ ?_
  · refine (e_iload_n (code := kX1_usersOf) (pc := 15) rfl rfl).trans ?_
    refine (e_aload_n (code := kX1_usersOf) (pc := 16) rfl rfl).trans ?_
    refine (e_aload_n (code := kX1_usersOf) (pc := 17) rfl rfl).trans ?_
    refine (e_getR (code := kX1_usersOf) (pc := 18) (c := 3) rfl hp.1 hp.2.2.2.1).trans ?_
    refine (e_iload_n (code := kX1_usersOf) (pc := 21) rfl rfl).trans ?_
    refine (e_iload_n (code := kX1_usersOf) (pc := 22) rfl rfl).trans ?_
    exact (e_callV (σ := σ) (code := kX1_usersOf) (pc := 23) (len := 3) (k := 39) (n := 4) (c := 13) (as := [.ref p, .ref (p + 3), .int x3, .int x1]) (st0 := [.int x2]) rfl rfl rfl rfl rfl hp.1 rfl)
  · refine (e_iload_n (code := kX1_usersOf) (pc := 42) rfl rfl).trans ?_
    exact e_ireturn rfl
theorem b_X1_usersOf_26 {C : aCall} {σ : aSt} {p : Nat} {x1 x2 x3 y0 y1 : Int32} : b_R C kX1_usersOf [] (26, [some (.ref p), some (.int x1), some (.int x2), some (.int x3)], [.int y0, .int y1], σ) = (if y0 = 0 then b_R C kX1_usersOf [] (34, [some (.ref p), some (.int x1), some (.int x2), some (.int x3)], [.int (nI 0), .int y1], σ) else b_R C kX1_usersOf [] (34, [some (.ref p), some (.int x1), some (.int x2), some (.int x3)], [.int (nI 1), .int y1], σ)) := by
  refine (e_ifeq (code := kX1_usersOf) (pc := 26) rfl).trans ?_
  refine b_ite ?_ ?_
  · refine (e_iconst (code := kX1_usersOf) (pc := 33) rfl).trans ?_
    rfl
  · refine (e_iconst (code := kX1_usersOf) (pc := 29) rfl).trans ?_
    refine (e_goto (code := kX1_usersOf) (pc := 30) rfl).trans ?_
    rfl
theorem b_X1_usersOf_34 {C : aCall} {σ : aSt} {p : Nat} {x1 x2 x3 y0 y1 : Int32} : b_R C kX1_usersOf [] (34, [some (.ref p), some (.int x1), some (.int x2), some (.int x3)], [.int y0, .int y1], σ) = b_R C kX1_usersOf [] (4, [some (.ref p), some (.int x1), some (.int (y1 + y0)), some (.int (x3 + nI 1))], [], σ) := by
  refine (e_iadd (code := kX1_usersOf) (pc := 34) rfl).trans ?_
  refine (e_istore_n (code := kX1_usersOf) (pc := 35) rfl rfl rfl).trans ?_
  refine (e_iinc (code := kX1_usersOf) (pc := 36) rfl rfl rfl rfl).trans ?_
  refine (e_goto (code := kX1_usersOf) (pc := 39) rfl).trans ?_
  rfl
theorem n_X1_isBroken {P : aCall} {d : Nat} {σ : aSt} {p : Nat} {x1 : Int32} (hd : 1 ≤ d) : a_call a_tab P d 41 [.ref p, .int x1] σ = b_R (a_call a_tab P (d - 1)) kX1_isBroken [] (0, [some (.ref p), some (.int x1), none, none], [], σ) := e_call hd at_X1_isBroken rfl
theorem b_X1_isBroken_0 {C : aCall} {σ : aSt} {p : Nat} {x1 : Int32} (hp : Pa σ p) : b_R C kX1_isBroken [] (0, [some (.ref p), some (.int x1), none, none], [], σ) = b_G C kX1_isBroken [] 7 10 [some (.ref p), some (.int x1), none, none] [] (C 1 [.ref (p + 3), .int x1, .int (nI 8)] σ) := by
  refine (e_aload_n (code := kX1_isBroken) (pc := 0) rfl rfl).trans ?_
  refine (e_getR (code := kX1_isBroken) (pc := 1) (c := 3) rfl hp.1 hp.2.2.2.1).trans ?_
  refine (e_iload_n (code := kX1_isBroken) (pc := 4) rfl rfl).trans ?_
  refine (e_bipush (code := kX1_isBroken) (pc := 5) rfl).trans ?_
  exact (e_callV (σ := σ) (code := kX1_isBroken) (pc := 7) (len := 3) (k := 1) (n := 3) (c := 16) (as := [.ref (p + 3), .int x1, .int (nI 8)]) (st0 := []) rfl rfl rfl rfl rfl hp.2.2.2.2.2.2.2.1.1 rfl)
theorem b_X1_isBroken_10 {C : aCall} {σ : aSt} {p : Nat} {x1 y0 : Int32} : b_R C kX1_isBroken [] (10, [some (.ref p), some (.int x1), none, none], [.int y0], σ) = b_R C kX1_isBroken [] (13, [some (.ref p), some (.int x1), some (.int y0), some (.int (nI 0))], [], σ) := by
  refine (e_istore_n (code := kX1_isBroken) (pc := 10) rfl rfl rfl).trans ?_
  refine (e_iconst (code := kX1_isBroken) (pc := 11) rfl).trans ?_
  refine (e_istore_n (code := kX1_isBroken) (pc := 12) rfl rfl rfl).trans ?_
  rfl
theorem b_X1_isBroken_13 {C : aCall} {σ : aSt} {p : Nat} {x1 x2 x3 : Int32} (hp : Pa σ p) : b_R C kX1_isBroken [] (13, [some (.ref p), some (.int x1), some (.int x2), some (.int x3)], [], σ) = (if x3 < x2 then b_G C kX1_isBroken [] 28 31 [some (.ref p), some (.int x1), some (.int x2), some (.int x3)] [.ref p] (C 1 [.ref (p + 3), .int x1, .int ((nI 9) + x3)] σ) else some (.inl (some (.int (nI 0))), σ)) := by
  refine (e_iload_n (code := kX1_isBroken) (pc := 13) rfl rfl).trans ?_
  refine (e_iload_n (code := kX1_isBroken) (pc := 14) rfl rfl).trans ?_
  refine (e_icge (code := kX1_isBroken) (pc := 15) rfl).trans ?_
  refine b_ite ?_ ?_
  · refine (e_aload_n (code := kX1_isBroken) (pc := 18) rfl rfl).trans ?_
    refine (e_aload_n (code := kX1_isBroken) (pc := 19) rfl rfl).trans ?_
    refine (e_getR (code := kX1_isBroken) (pc := 20) (c := 3) rfl hp.1 hp.2.2.2.1).trans ?_
    refine (e_iload_n (code := kX1_isBroken) (pc := 23) rfl rfl).trans ?_
    refine (e_bipush (code := kX1_isBroken) (pc := 24) rfl).trans ?_
    refine (e_iload_n (code := kX1_isBroken) (pc := 26) rfl rfl).trans ?_
    refine (e_iadd (code := kX1_isBroken) (pc := 27) rfl).trans ?_
    exact (e_callV (σ := σ) (code := kX1_isBroken) (pc := 28) (len := 3) (k := 1) (n := 3) (c := 16) (as := [.ref (p + 3), .int x1, .int ((nI 9) + x3)]) (st0 := [.ref p]) rfl rfl rfl rfl rfl hp.2.2.2.2.2.2.2.1.1 rfl)
  · refine (e_iconst (code := kX1_isBroken) (pc := 45) rfl).trans ?_
    exact (e_zreturn rfl).trans (b_gd_t (by decide))
theorem b_X1_isBroken_31 {C : aCall} {σ : aSt} {p : Nat} {x1 x2 x3 y0 : Int32} (hp : Pa σ p) : b_R C kX1_isBroken [] (31, [some (.ref p), some (.int x1), some (.int x2), some (.int x3)], [.int y0, .ref p], σ) = b_G C kX1_isBroken [] 31 34 [some (.ref p), some (.int x1), some (.int x2), some (.int x3)] [] (C 36 [.ref p, .int y0] σ) := by
  exact (e_callV (σ := σ) (code := kX1_isBroken) (pc := 31) (len := 3) (k := 36) (n := 2) (c := 13) (as := [.ref p, .int y0]) (st0 := []) rfl rfl rfl rfl rfl hp.1 rfl)
theorem b_X1_isBroken_34 {C : aCall} {σ : aSt} {p : Nat} {x1 x2 x3 y0 : Int32} : b_R C kX1_isBroken [] (34, [some (.ref p), some (.int x1), some (.int x2), some (.int x3)], [.int y0], σ) = (if y0 = 0 then some (.inl (some (.int (nI 1))), σ) else b_R C kX1_isBroken [] (13, [some (.ref p), some (.int x1), some (.int x2), some (.int (x3 + nI 1))], [], σ)) := by
  refine (e_ifne (code := kX1_isBroken) (pc := 34) rfl).trans ?_
  refine b_ite ?_ ?_
  · refine (e_iconst (code := kX1_isBroken) (pc := 37) rfl).trans ?_
    exact (e_zreturn rfl).trans (b_gd_t (by decide))
  · refine (e_iinc (code := kX1_isBroken) (pc := 39) rfl rfl rfl rfl).trans ?_
    refine (e_goto (code := kX1_isBroken) (pc := 42) rfl).trans ?_
    rfl
theorem n_X1_brokenMixes {P : aCall} {d : Nat} {σ : aSt} {p : Nat} (hd : 1 ≤ d) : a_call a_tab P d 42 [.ref p] σ = b_R (a_call a_tab P (d - 1)) kX1_brokenMixes [] (0, [some (.ref p), none, none], [], σ) := e_call hd at_X1_brokenMixes rfl
theorem b_X1_brokenMixes_0 {C : aCall} {σ : aSt} {p : Nat} : b_R C kX1_brokenMixes [] (0, [some (.ref p), none, none], [], σ) = b_R C kX1_brokenMixes [] (4, [some (.ref p), some (.int (nI 0)), some (.int (nI 0))], [], σ) := by
  refine (e_iconst (code := kX1_brokenMixes) (pc := 0) rfl).trans ?_
  refine (e_istore_n (code := kX1_brokenMixes) (pc := 1) rfl rfl rfl).trans ?_
  refine (e_iconst (code := kX1_brokenMixes) (pc := 2) rfl).trans ?_
  refine (e_istore_n (code := kX1_brokenMixes) (pc := 3) rfl rfl rfl).trans ?_
  rfl
theorem b_X1_brokenMixes_4 {C : aCall} {σ : aSt} {p : Nat} {x1 x2 : Int32} (hp : Pa σ p) : b_R C kX1_brokenMixes [] (4, [some (.ref p), some (.int x1), some (.int x2)], [], σ) = (if x2 < (a_I σ (p + 3) 2) then b_G C kX1_brokenMixes [] 18 21 [some (.ref p), some (.int x1), some (.int x2)] [.int x1] (C 41 [.ref p, .int x2] σ) else some (.inl (some (.int x1)), σ)) := by
  refine (e_iload_n (code := kX1_brokenMixes) (pc := 4) rfl rfl).trans ?_
  refine (e_aload_n (code := kX1_brokenMixes) (pc := 5) rfl rfl).trans ?_
  refine (e_getR (code := kX1_brokenMixes) (pc := 6) (c := 3) rfl hp.1 hp.2.2.2.1).trans ?_
  refine (e_getI (code := kX1_brokenMixes) (pc := 9) (c := 6) rfl hp.2.2.2.2.2.2.2.1.1 rfl).trans ?_
  refine (e_icge (code := kX1_brokenMixes) (pc := 12) rfl).trans ?_
  refine b_ite ?_ ?_
  · refine (e_iload_n (code := kX1_brokenMixes) (pc := 15) rfl rfl).trans ?_
    refine (e_aload_n (code := kX1_brokenMixes) (pc := 16) rfl rfl).trans ?_
    refine (e_iload_n (code := kX1_brokenMixes) (pc := 17) rfl rfl).trans ?_
    exact (e_callV (σ := σ) (code := kX1_brokenMixes) (pc := 18) (len := 3) (k := 41) (n := 2) (c := 13) (as := [.ref p, .int x2]) (st0 := [.int x1]) rfl rfl rfl rfl rfl hp.1 rfl)
  · refine (e_iload_n (code := kX1_brokenMixes) (pc := 37) rfl rfl).trans ?_
    exact e_ireturn rfl
theorem b_X1_brokenMixes_21 {C : aCall} {σ : aSt} {p : Nat} {x1 x2 y0 y1 : Int32} : b_R C kX1_brokenMixes [] (21, [some (.ref p), some (.int x1), some (.int x2)], [.int y0, .int y1], σ) = (if y0 = 0 then b_R C kX1_brokenMixes [] (29, [some (.ref p), some (.int x1), some (.int x2)], [.int (nI 0), .int y1], σ) else b_R C kX1_brokenMixes [] (29, [some (.ref p), some (.int x1), some (.int x2)], [.int (nI 1), .int y1], σ)) := by
  refine (e_ifeq (code := kX1_brokenMixes) (pc := 21) rfl).trans ?_
  refine b_ite ?_ ?_
  · refine (e_iconst (code := kX1_brokenMixes) (pc := 28) rfl).trans ?_
    rfl
  · refine (e_iconst (code := kX1_brokenMixes) (pc := 24) rfl).trans ?_
    refine (e_goto (code := kX1_brokenMixes) (pc := 25) rfl).trans ?_
    rfl
theorem b_X1_brokenMixes_29 {C : aCall} {σ : aSt} {p : Nat} {x1 x2 y0 y1 : Int32} : b_R C kX1_brokenMixes [] (29, [some (.ref p), some (.int x1), some (.int x2)], [.int y0, .int y1], σ) = b_R C kX1_brokenMixes [] (4, [some (.ref p), some (.int (y1 + y0)), some (.int (x2 + nI 1))], [], σ) := by
  refine (e_iadd (code := kX1_brokenMixes) (pc := 29) rfl).trans ?_
  refine (e_istore_n (code := kX1_brokenMixes) (pc := 30) rfl rfl rfl).trans ?_
  refine (e_iinc (code := kX1_brokenMixes) (pc := 31) rfl rfl rfl rfl).trans ?_
  refine (e_goto (code := kX1_brokenMixes) (pc := 34) rfl).trans ?_
  rfl
theorem n_X1_partsOf {P : aCall} {d : Nat} {σ : aSt} {p : Nat} {x1 : Int32} (hd : 1 ≤ d) : a_call a_tab P d 43 [.ref p, .int x1] σ = b_R (a_call a_tab P (d - 1)) kX1_partsOf [] (0, [some (.ref p), some (.int x1), none, none, none], [], σ) := e_call hd at_X1_partsOf rfl
theorem b_X1_partsOf_0 {C : aCall} {σ : aSt} {p : Nat} {x1 : Int32} (hp : Pa σ p) : b_R C kX1_partsOf [] (0, [some (.ref p), some (.int x1), none, none, none], [], σ) = b_G C kX1_partsOf [] 9 12 [some (.ref p), some (.int x1), some (.int (nI 0)), none, none] [] (C 1 [.ref (p + 3), .int x1, .int (nI 8)] σ) := by
  refine (e_iconst (code := kX1_partsOf) (pc := 0) rfl).trans ?_
  refine (e_istore_n (code := kX1_partsOf) (pc := 1) rfl rfl rfl).trans ?_
  refine (e_aload_n (code := kX1_partsOf) (pc := 2) rfl rfl).trans ?_
  refine (e_getR (code := kX1_partsOf) (pc := 3) (c := 3) rfl hp.1 hp.2.2.2.1).trans ?_
  refine (e_iload_n (code := kX1_partsOf) (pc := 6) rfl rfl).trans ?_
  refine (e_bipush (code := kX1_partsOf) (pc := 7) rfl).trans ?_
  exact (e_callV (σ := σ) (code := kX1_partsOf) (pc := 9) (len := 3) (k := 1) (n := 3) (c := 16) (as := [.ref (p + 3), .int x1, .int (nI 8)]) (st0 := []) rfl rfl rfl rfl rfl hp.2.2.2.2.2.2.2.1.1 rfl)
theorem b_X1_partsOf_12 {C : aCall} {σ : aSt} {p : Nat} {x1 x2 y0 : Int32} : b_R C kX1_partsOf [] (12, [some (.ref p), some (.int x1), some (.int x2), none, none], [.int y0], σ) = b_R C kX1_partsOf [] (16, [some (.ref p), some (.int x1), some (.int x2), some (.int y0), some (.int (nI 0))], [], σ) := by
  refine (e_istore_n (code := kX1_partsOf) (pc := 12) rfl rfl rfl).trans ?_
  refine (e_iconst (code := kX1_partsOf) (pc := 13) rfl).trans ?_
  refine (e_istore (code := kX1_partsOf) (pc := 14) rfl rfl rfl).trans ?_
  rfl
theorem b_X1_partsOf_16 {C : aCall} {σ : aSt} {p : Nat} {x1 x2 x3 x4 : Int32} (hp : Pa σ p) : b_R C kX1_partsOf [] (16, [some (.ref p), some (.int x1), some (.int x2), some (.int x3), some (.int x4)], [], σ) = (if x4 < x3 then b_G C kX1_partsOf [] 33 36 [some (.ref p), some (.int x1), some (.int x2), some (.int x3), some (.int x4)] [.int x2] (C 1 [.ref (p + 3), .int x1, .int ((nI 13) + x4)] σ) else some (.inl (some (.int x2)), σ)) := by
  refine (e_iload (code := kX1_partsOf) (pc := 16) rfl rfl).trans ?_
  refine (e_iload_n (code := kX1_partsOf) (pc := 18) rfl rfl).trans ?_
  refine (e_icge (code := kX1_partsOf) (pc := 19) rfl).trans ?_
  refine b_ite ?_ ?_
  · refine (e_iload_n (code := kX1_partsOf) (pc := 22) rfl rfl).trans ?_
    refine (e_aload_n (code := kX1_partsOf) (pc := 23) rfl rfl).trans ?_
    refine (e_getR (code := kX1_partsOf) (pc := 24) (c := 3) rfl hp.1 hp.2.2.2.1).trans ?_
    refine (e_iload_n (code := kX1_partsOf) (pc := 27) rfl rfl).trans ?_
    refine (e_bipush (code := kX1_partsOf) (pc := 28) rfl).trans ?_
    refine (e_iload (code := kX1_partsOf) (pc := 30) rfl rfl).trans ?_
    refine (e_iadd (code := kX1_partsOf) (pc := 32) rfl).trans ?_
    exact (e_callV (σ := σ) (code := kX1_partsOf) (pc := 33) (len := 3) (k := 1) (n := 3) (c := 16) (as := [.ref (p + 3), .int x1, .int ((nI 13) + x4)]) (st0 := [.int x2]) rfl rfl rfl rfl rfl hp.2.2.2.2.2.2.2.1.1 rfl)
  · refine (e_iload_n (code := kX1_partsOf) (pc := 44) rfl rfl).trans ?_
    exact e_ireturn rfl
theorem b_X1_partsOf_36 {C : aCall} {σ : aSt} {p : Nat} {x1 x2 x3 x4 y0 y1 : Int32} : b_R C kX1_partsOf [] (36, [some (.ref p), some (.int x1), some (.int x2), some (.int x3), some (.int x4)], [.int y0, .int y1], σ) = b_R C kX1_partsOf [] (16, [some (.ref p), some (.int x1), some (.int (y1 + y0)), some (.int x3), some (.int (x4 + nI 1))], [], σ) := by
  refine (e_iadd (code := kX1_partsOf) (pc := 36) rfl).trans ?_
  refine (e_istore_n (code := kX1_partsOf) (pc := 37) rfl rfl rfl).trans ?_
  refine (e_iinc (code := kX1_partsOf) (pc := 38) rfl rfl rfl rfl).trans ?_
  refine (e_goto (code := kX1_partsOf) (pc := 41) rfl).trans ?_
  rfl
theorem n_X1_valueOf {P : aCall} {d : Nat} {σ : aSt} {p t : Nat} {x2 x3 : Int32} (hd : 1 ≤ d) : a_call a_tab P d 44 [.ref p, .ref t, .int x2, .int x3] σ = b_R (a_call a_tab P (d - 1)) kX1_valueOf [] (0, [some (.ref p), some (.ref t), some (.int x2), some (.int x3), none, none, none, none, none], [], σ) := e_call hd at_X1_valueOf rfl
theorem b_X1_valueOf_0 {C : aCall} {σ : aSt} {t c_t N_t p : Nat} {x2 x3 : Int32} (ht : Tb σ t c_t N_t) : b_R C kX1_valueOf [] (0, [some (.ref p), some (.ref t), some (.int x2), some (.int x3), none, none, none, none, none], [], σ) = b_G C kX1_valueOf [] 10 13 [some (.ref p), some (.ref t), some (.int x2), some (.int x3), some (.int (nI 0)), some (.int (nI 0)), none, none, none] [] (C 1 [.ref t, .int x2, .int (nI 8)] σ) := by
  refine (e_iconst (code := kX1_valueOf) (pc := 0) rfl).trans ?_
  refine (e_istore (code := kX1_valueOf) (pc := 1) rfl rfl rfl).trans ?_
  refine (e_iconst (code := kX1_valueOf) (pc := 3) rfl).trans ?_
  refine (e_istore (code := kX1_valueOf) (pc := 4) rfl rfl rfl).trans ?_
  refine (e_aload_n (code := kX1_valueOf) (pc := 6) rfl rfl).trans ?_
  refine (e_iload_n (code := kX1_valueOf) (pc := 7) rfl rfl).trans ?_
  refine (e_bipush (code := kX1_valueOf) (pc := 8) rfl).trans ?_
  exact (e_callV (σ := σ) (code := kX1_valueOf) (pc := 10) (len := 3) (k := 1) (n := 3) (c := 16) (as := [.ref t, .int x2, .int (nI 8)]) (st0 := []) rfl rfl rfl rfl rfl ht.1 rfl)
theorem b_X1_valueOf_13 {C : aCall} {σ : aSt} {p t : Nat} {x2 x3 x4 x5 y0 : Int32} : b_R C kX1_valueOf [] (13, [some (.ref p), some (.ref t), some (.int x2), some (.int x3), some (.int x4), some (.int x5), none, none, none], [.int y0], σ) = b_R C kX1_valueOf [] (18, [some (.ref p), some (.ref t), some (.int x2), some (.int x3), some (.int x4), some (.int x5), some (.int y0), some (.int (nI 0)), none], [], σ) := by
  refine (e_istore (code := kX1_valueOf) (pc := 13) rfl rfl rfl).trans ?_
  refine (e_iconst (code := kX1_valueOf) (pc := 15) rfl).trans ?_
  refine (e_istore (code := kX1_valueOf) (pc := 16) rfl rfl rfl).trans ?_
  rfl
theorem b_X1_valueOf_18 {C : aCall} {σ : aSt} {t c_t N_t p : Nat} {x2 x3 x4 x5 x6 x7 : Int32} {o8 : Option Value} (ht : Tb σ t c_t N_t) : b_R C kX1_valueOf [] (18, [some (.ref p), some (.ref t), some (.int x2), some (.int x3), some (.int x4), some (.int x5), some (.int x6), some (.int x7), o8], [], σ) = (if x7 < x6 then b_G C kX1_valueOf [] 32 35 [some (.ref p), some (.ref t), some (.int x2), some (.int x3), some (.int x4), some (.int x5), some (.int x6), some (.int x7), o8] [] (C 1 [.ref t, .int x2, .int ((nI 13) + x7)] σ) else b_G C kX1_valueOf [] 83 86 [some (.ref p), some (.ref t), some (.int x2), some (.int x3), some (.int x4), some (.int x5), some (.int x6), some (.int x7), o8] [] (C 142 [.int x4, .int x5] σ)) := by
  refine (e_iload (code := kX1_valueOf) (pc := 18) rfl rfl).trans ?_
  refine (e_iload (code := kX1_valueOf) (pc := 20) rfl rfl).trans ?_
  refine (e_icge (code := kX1_valueOf) (pc := 22) rfl).trans ?_
  refine b_ite ?_ ?_
  · refine (e_aload_n (code := kX1_valueOf) (pc := 25) rfl rfl).trans ?_
    refine (e_iload_n (code := kX1_valueOf) (pc := 26) rfl rfl).trans ?_
    refine (e_bipush (code := kX1_valueOf) (pc := 27) rfl).trans ?_
    refine (e_iload (code := kX1_valueOf) (pc := 29) rfl rfl).trans ?_
    refine (e_iadd (code := kX1_valueOf) (pc := 31) rfl).trans ?_
    exact (e_callV (σ := σ) (code := kX1_valueOf) (pc := 32) (len := 3) (k := 1) (n := 3) (c := 16) (as := [.ref t, .int x2, .int ((nI 13) + x7)]) (st0 := []) rfl rfl rfl rfl rfl ht.1 rfl)
  · refine (e_iload (code := kX1_valueOf) (pc := 79) rfl rfl).trans ?_
    refine (e_iload (code := kX1_valueOf) (pc := 81) rfl rfl).trans ?_
    exact (e_callS (code := kX1_valueOf) (pc := 83) (len := 3) (k := 142) (n := 2) (as := [.int x4, .int x5]) (st0 := []) rfl rfl rfl rfl)
theorem b_X1_valueOf_35 {C : aCall} {σ : aSt} {p t c_t N_t : Nat} {x2 x3 x4 x5 x6 x7 y0 : Int32} {o8 : Option Value} (hp : Pa σ p) (ht : Tb σ t c_t N_t) : b_R C kX1_valueOf [] (35, [some (.ref p), some (.ref t), some (.int x2), some (.int x3), some (.int x4), some (.int x5), some (.int x6), some (.int x7), o8], [.int y0], σ) = b_G C kX1_valueOf [] 52 55 [some (.ref p), some (.ref t), some (.int x2), some (.int x3), some (.int x4), some (.int x5), some (.int x6), some (.int x7), some (.int y0)] [.ref (p + 1), .int y0, .int x4] (C 1 [.ref t, .int x2, .int ((nI 9) + x7)] σ) := by
  refine (e_istore (code := kX1_valueOf) (pc := 35) rfl rfl rfl).trans ?_
  refine (e_iload (code := kX1_valueOf) (pc := 37) rfl rfl).trans ?_
  refine (e_iload (code := kX1_valueOf) (pc := 39) rfl rfl).trans ?_
  refine (e_aload_n (code := kX1_valueOf) (pc := 41) rfl rfl).trans ?_
  refine (e_getR (code := kX1_valueOf) (pc := 42) (c := 3) rfl hp.1 hp.2.2.1).trans ?_
  refine (e_aload_n (code := kX1_valueOf) (pc := 45) rfl rfl).trans ?_
  refine (e_iload_n (code := kX1_valueOf) (pc := 46) rfl rfl).trans ?_
  refine (e_bipush (code := kX1_valueOf) (pc := 47) rfl).trans ?_
  refine (e_iload (code := kX1_valueOf) (pc := 49) rfl rfl).trans ?_
  refine (e_iadd (code := kX1_valueOf) (pc := 51) rfl).trans ?_
  exact (e_callV (σ := σ) (code := kX1_valueOf) (pc := 52) (len := 3) (k := 1) (n := 3) (c := 16) (as := [.ref t, .int x2, .int ((nI 9) + x7)]) (st0 := [.ref (p + 1), .int y0, .int x4]) rfl rfl rfl rfl rfl ht.1 rfl)
theorem b_X1_valueOf_55 {C : aCall} {σ : aSt} {p t : Nat} {x2 x3 x4 x5 x6 x7 x8 y0 y2 y3 : Int32} (hp : Pa σ p) : b_R C kX1_valueOf [] (55, [some (.ref p), some (.ref t), some (.int x2), some (.int x3), some (.int x4), some (.int x5), some (.int x6), some (.int x7), some (.int x8)], [.int y0, .ref (p + 1), .int y2, .int y3], σ) = b_G C kX1_valueOf [] 59 62 [some (.ref p), some (.ref t), some (.int x2), some (.int x3), some (.int x4), some (.int x5), some (.int x6), some (.int x7), some (.int x8)] [.int y2, .int y3] (C 1 [.ref (p + 1), .int y0, .int ((nI 8) + x3)] σ) := by
  refine (e_bipush (code := kX1_valueOf) (pc := 55) rfl).trans ?_
  refine (e_iload_n (code := kX1_valueOf) (pc := 57) rfl rfl).trans ?_
  refine (e_iadd (code := kX1_valueOf) (pc := 58) rfl).trans ?_
  exact (e_callV (σ := σ) (code := kX1_valueOf) (pc := 59) (len := 3) (k := 1) (n := 3) (c := 16) (as := [.ref (p + 1), .int y0, .int ((nI 8) + x3)]) (st0 := [.int y2, .int y3]) rfl rfl rfl rfl rfl hp.2.2.2.2.2.2.1.1 rfl)
theorem b_X1_valueOf_62 {C : aCall} {σ : aSt} {p t : Nat} {x2 x3 x4 x5 x6 x7 x8 y0 y1 y2 : Int32} : b_R C kX1_valueOf [] (62, [some (.ref p), some (.ref t), some (.int x2), some (.int x3), some (.int x4), some (.int x5), some (.int x6), some (.int x7), some (.int x8)], [.int y0, .int y1, .int y2], σ) = b_R C kX1_valueOf [] (18, [some (.ref p), some (.ref t), some (.int x2), some (.int x3), some (.int (y2 + (y1 * y0))), some (.int (x5 + x8)), some (.int x6), some (.int (x7 + nI 1)), some (.int x8)], [], σ) := by
  refine (e_imul (code := kX1_valueOf) (pc := 62) rfl).trans ?_
  refine (e_iadd (code := kX1_valueOf) (pc := 63) rfl).trans ?_
  refine (e_istore (code := kX1_valueOf) (pc := 64) rfl rfl rfl).trans ?_
  refine (e_iload (code := kX1_valueOf) (pc := 66) rfl rfl).trans ?_
  refine (e_iload (code := kX1_valueOf) (pc := 68) rfl rfl).trans ?_
  refine (e_iadd (code := kX1_valueOf) (pc := 70) rfl).trans ?_
  refine (e_istore (code := kX1_valueOf) (pc := 71) rfl rfl rfl).trans ?_
  refine (e_iinc (code := kX1_valueOf) (pc := 73) rfl rfl rfl rfl).trans ?_
  refine (e_goto (code := kX1_valueOf) (pc := 76) rfl).trans ?_
  rfl
theorem b_X1_valueOf_86 {C : aCall} {σ : aSt} {p t : Nat} {x2 x3 x4 x5 x6 x7 y0 : Int32} {o8 : Option Value} : b_R C kX1_valueOf [] (86, [some (.ref p), some (.ref t), some (.int x2), some (.int x3), some (.int x4), some (.int x5), some (.int x6), some (.int x7), o8], [.int y0], σ) = some (.inl (some (.int y0)), σ) := by
  exact e_ireturn rfl
theorem n_X1_colourOf {P : aCall} {d : Nat} {σ : aSt} {p t : Nat} {x2 : Int32} (hd : 1 ≤ d) : a_call a_tab P d 45 [.ref p, .ref t, .int x2] σ = b_R (a_call a_tab P (d - 1)) kX1_colourOf [] (0, [some (.ref p), some (.ref t), some (.int x2), none, none], [], σ) := e_call hd at_X1_colourOf rfl
theorem b_X1_colourOf_0 {C : aCall} {σ : aSt} {p t : Nat} {x2 : Int32} : b_R C kX1_colourOf [] (0, [some (.ref p), some (.ref t), some (.int x2), none, none], [], σ) = b_R C kX1_colourOf [] (5, [some (.ref p), some (.ref t), some (.int x2), some (.int (nI 0)), some (.int (nI 0))], [], σ) := by
  refine (e_iconst (code := kX1_colourOf) (pc := 0) rfl).trans ?_
  refine (e_istore_n (code := kX1_colourOf) (pc := 1) rfl rfl rfl).trans ?_
  refine (e_iconst (code := kX1_colourOf) (pc := 2) rfl).trans ?_
  refine (e_istore (code := kX1_colourOf) (pc := 3) rfl rfl rfl).trans ?_
  rfl
theorem b_X1_colourOf_5 {C : aCall} {σ : aSt} {p t : Nat} {x2 x3 x4 : Int32} (hp : Pa σ p) : b_R C kX1_colourOf [] (5, [some (.ref p), some (.ref t), some (.int x2), some (.int x3), some (.int x4)], [], σ) = (if x4 < (nI 3) then b_G C kX1_colourOf [] 21 24 [some (.ref p), some (.ref t), some (.int x2), some (.int x3), some (.int x4)] [.int ((nI 256) * x3)] (C 44 [.ref p, .ref t, .int x2, .int x4] σ) else some (.inl (some (.int x3)), σ)) := by
  refine (e_iload (code := kX1_colourOf) (pc := 5) rfl rfl).trans ?_
  refine (e_iconst (code := kX1_colourOf) (pc := 7) rfl).trans ?_
  refine (e_icge (code := kX1_colourOf) (pc := 8) rfl).trans ?_
  refine b_ite ?_ ?_
  · refine (e_sipush (code := kX1_colourOf) (pc := 11) rfl).trans ?_
    refine (e_iload_n (code := kX1_colourOf) (pc := 14) rfl rfl).trans ?_
    refine (e_imul (code := kX1_colourOf) (pc := 15) rfl).trans ?_
    refine (e_aload_n (code := kX1_colourOf) (pc := 16) rfl rfl).trans ?_
    refine (e_aload_n (code := kX1_colourOf) (pc := 17) rfl rfl).trans ?_
    refine (e_iload_n (code := kX1_colourOf) (pc := 18) rfl rfl).trans ?_
    refine (e_iload (code := kX1_colourOf) (pc := 19) rfl rfl).trans ?_
    exact (e_callV (σ := σ) (code := kX1_colourOf) (pc := 21) (len := 3) (k := 44) (n := 4) (c := 13) (as := [.ref p, .ref t, .int x2, .int x4]) (st0 := [.int ((nI 256) * x3)]) rfl rfl rfl rfl rfl hp.1 rfl)
  · refine (e_iload_n (code := kX1_colourOf) (pc := 32) rfl rfl).trans ?_
    exact e_ireturn rfl
theorem b_X1_colourOf_24 {C : aCall} {σ : aSt} {p t : Nat} {x2 x3 x4 y0 y1 : Int32} : b_R C kX1_colourOf [] (24, [some (.ref p), some (.ref t), some (.int x2), some (.int x3), some (.int x4)], [.int y0, .int y1], σ) = b_R C kX1_colourOf [] (5, [some (.ref p), some (.ref t), some (.int x2), some (.int (y1 + y0)), some (.int (x4 + nI 1))], [], σ) := by
  refine (e_iadd (code := kX1_colourOf) (pc := 24) rfl).trans ?_
  refine (e_istore_n (code := kX1_colourOf) (pc := 25) rfl rfl rfl).trans ?_
  refine (e_iinc (code := kX1_colourOf) (pc := 26) rfl rfl rfl rfl).trans ?_
  refine (e_goto (code := kX1_colourOf) (pc := 29) rfl).trans ?_
  rfl
theorem n_X1_strokesOfPart {P : aCall} {d : Nat} {σ : aSt} {p : Nat} {x1 x2 : Int32} (hd : 1 ≤ d) : a_call a_tab P d 46 [.ref p, .int x1, .int x2] σ = b_R (a_call a_tab P (d - 1)) kX1_strokesOfPart [] (0, [some (.ref p), some (.int x1), some (.int x2), none], [], σ) := e_call hd at_X1_strokesOfPart rfl
theorem b_X1_strokesOfPart_0 {C : aCall} {σ : aSt} {p : Nat} {x1 x2 : Int32} (hp : Pa σ p) : b_R C kX1_strokesOfPart [] (0, [some (.ref p), some (.int x1), some (.int x2), none], [], σ) = b_G C kX1_strokesOfPart [] 9 12 [some (.ref p), some (.int x1), some (.int x2), none] [] (C 1 [.ref (p + 3), .int x1, .int ((nI 13) + x2)] σ) := by
  refine (e_aload_n (code := kX1_strokesOfPart) (pc := 0) rfl rfl).trans ?_
  refine (e_getR (code := kX1_strokesOfPart) (pc := 1) (c := 3) rfl hp.1 hp.2.2.2.1).trans ?_
  refine (e_iload_n (code := kX1_strokesOfPart) (pc := 4) rfl rfl).trans ?_
  refine (e_bipush (code := kX1_strokesOfPart) (pc := 5) rfl).trans ?_
  refine (e_iload_n (code := kX1_strokesOfPart) (pc := 7) rfl rfl).trans ?_
  refine (e_iadd (code := kX1_strokesOfPart) (pc := 8) rfl).trans ?_
  exact (e_callV (σ := σ) (code := kX1_strokesOfPart) (pc := 9) (len := 3) (k := 1) (n := 3) (c := 16) (as := [.ref (p + 3), .int x1, .int ((nI 13) + x2)]) (st0 := []) rfl rfl rfl rfl rfl hp.2.2.2.2.2.2.2.1.1 rfl)
theorem b_X1_strokesOfPart_12 {C : aCall} {σ : aSt} {p : Nat} {x1 x2 y0 : Int32} (hp : Pa σ p) : b_R C kX1_strokesOfPart [] (12, [some (.ref p), some (.int x1), some (.int x2), none], [.int y0], σ) = (if 0 < y0 then b_G C kX1_strokesOfPart [] 34 37 [some (.ref p), some (.int x1), some (.int x2), some (.int y0)] [.ref (p + 1)] (C 1 [.ref (p + 3), .int x1, .int ((nI 9) + x2)] σ) else b_R C kX1_strokesOfPart [] (44, [some (.ref p), some (.int x1), some (.int x2), some (.int y0)], [.int (nI 0)], σ)) := by
  refine (e_istore_n (code := kX1_strokesOfPart) (pc := 12) rfl rfl rfl).trans ?_
  refine (e_iload_n (code := kX1_strokesOfPart) (pc := 13) rfl rfl).trans ?_
  refine (e_ifgt (code := kX1_strokesOfPart) (pc := 14) rfl).trans ?_
  refine b_ite ?_ ?_
  · refine (e_aload_n (code := kX1_strokesOfPart) (pc := 21) rfl rfl).trans ?_
    refine (e_getR (code := kX1_strokesOfPart) (pc := 22) (c := 3) rfl hp.1 hp.2.2.1).trans ?_
    refine (e_aload_n (code := kX1_strokesOfPart) (pc := 25) rfl rfl).trans ?_
    refine (e_getR (code := kX1_strokesOfPart) (pc := 26) (c := 3) rfl hp.1 hp.2.2.2.1).trans ?_
    refine (e_iload_n (code := kX1_strokesOfPart) (pc := 29) rfl rfl).trans ?_
    refine (e_bipush (code := kX1_strokesOfPart) (pc := 30) rfl).trans ?_
    refine (e_iload_n (code := kX1_strokesOfPart) (pc := 32) rfl rfl).trans ?_
    refine (e_iadd (code := kX1_strokesOfPart) (pc := 33) rfl).trans ?_
    exact (e_callV (σ := σ) (code := kX1_strokesOfPart) (pc := 34) (len := 3) (k := 1) (n := 3) (c := 16) (as := [.ref (p + 3), .int x1, .int ((nI 9) + x2)]) (st0 := [.ref (p + 1)]) rfl rfl rfl rfl rfl hp.2.2.2.2.2.2.2.1.1 rfl)
  · refine (e_iconst (code := kX1_strokesOfPart) (pc := 17) rfl).trans ?_
    refine (e_goto (code := kX1_strokesOfPart) (pc := 18) rfl).trans ?_
    rfl
theorem b_X1_strokesOfPart_37 {C : aCall} {σ : aSt} {p : Nat} {x1 x2 x3 y0 : Int32} (hp : Pa σ p) : b_R C kX1_strokesOfPart [] (37, [some (.ref p), some (.int x1), some (.int x2), some (.int x3)], [.int y0, .ref (p + 1)], σ) = b_G C kX1_strokesOfPart [] 39 42 [some (.ref p), some (.int x1), some (.int x2), some (.int x3)] [] (C 1 [.ref (p + 1), .int y0, .int (nI 11)] σ) := by
  refine (e_bipush (code := kX1_strokesOfPart) (pc := 37) rfl).trans ?_
  exact (e_callV (σ := σ) (code := kX1_strokesOfPart) (pc := 39) (len := 3) (k := 1) (n := 3) (c := 16) (as := [.ref (p + 1), .int y0, .int (nI 11)]) (st0 := []) rfl rfl rfl rfl rfl hp.2.2.2.2.2.2.1.1 rfl)
theorem b_X1_strokesOfPart_42 {C : aCall} {σ : aSt} {p : Nat} {x1 x2 x3 y0 : Int32} : b_R C kX1_strokesOfPart [] (42, [some (.ref p), some (.int x1), some (.int x2), some (.int x3)], [.int y0], σ) = b_gd (x3 ≠ 0) (b_R C kX1_strokesOfPart [] (44, [some (.ref p), some (.int x1), some (.int x2), some (.int x3)], [.int (y0 / x3)], σ)) := by
  refine (e_iload_n (code := kX1_strokesOfPart) (pc := 42) rfl rfl).trans ?_
  refine (e_idiv (code := kX1_strokesOfPart) (pc := 43) rfl).trans ?_
  refine b_gd_c ?_
  rfl
theorem b_X1_strokesOfPart_44 {C : aCall} {σ : aSt} {p : Nat} {x1 x2 x3 y0 : Int32} : b_R C kX1_strokesOfPart [] (44, [some (.ref p), some (.int x1), some (.int x2), some (.int x3)], [.int y0], σ) = some (.inl (some (.int y0)), σ) := by
  exact e_ireturn rfl
theorem n_X1_strokesLeft {P : aCall} {d : Nat} {σ : aSt} {p : Nat} {x1 : Int32} (hd : 1 ≤ d) : a_call a_tab P d 47 [.ref p, .int x1] σ = b_R (a_call a_tab P (d - 1)) kX1_strokesLeft [] (0, [some (.ref p), some (.int x1), none, none, none], [], σ) := e_call hd at_X1_strokesLeft rfl
theorem b_X1_strokesLeft_0 {C : aCall} {σ : aSt} {p : Nat} {x1 : Int32} (hp : Pa σ p) : b_R C kX1_strokesLeft [] (0, [some (.ref p), some (.int x1), none, none, none], [], σ) = b_G C kX1_strokesLeft [] 11 14 [some (.ref p), some (.int x1), some (.int (nI 9999)), none, none] [] (C 1 [.ref (p + 3), .int x1, .int (nI 8)] σ) := by
  refine (e_sipush (code := kX1_strokesLeft) (pc := 0) rfl).trans ?_
  refine (e_istore_n (code := kX1_strokesLeft) (pc := 3) rfl rfl rfl).trans ?_
  refine (e_aload_n (code := kX1_strokesLeft) (pc := 4) rfl rfl).trans ?_
  refine (e_getR (code := kX1_strokesLeft) (pc := 5) (c := 3) rfl hp.1 hp.2.2.2.1).trans ?_
  refine (e_iload_n (code := kX1_strokesLeft) (pc := 8) rfl rfl).trans ?_
  refine (e_bipush (code := kX1_strokesLeft) (pc := 9) rfl).trans ?_
  exact (e_callV (σ := σ) (code := kX1_strokesLeft) (pc := 11) (len := 3) (k := 1) (n := 3) (c := 16) (as := [.ref (p + 3), .int x1, .int (nI 8)]) (st0 := []) rfl rfl rfl rfl rfl hp.2.2.2.2.2.2.2.1.1 rfl)
theorem b_X1_strokesLeft_14 {C : aCall} {σ : aSt} {p : Nat} {x1 x2 y0 : Int32} : b_R C kX1_strokesLeft [] (14, [some (.ref p), some (.int x1), some (.int x2), none, none], [.int y0], σ) = b_R C kX1_strokesLeft [] (18, [some (.ref p), some (.int x1), some (.int x2), some (.int y0), some (.int (nI 0))], [], σ) := by
  refine (e_istore_n (code := kX1_strokesLeft) (pc := 14) rfl rfl rfl).trans ?_
  refine (e_iconst (code := kX1_strokesLeft) (pc := 15) rfl).trans ?_
  refine (e_istore (code := kX1_strokesLeft) (pc := 16) rfl rfl rfl).trans ?_
  rfl
theorem b_X1_strokesLeft_18 {C : aCall} {σ : aSt} {p : Nat} {x1 x2 x3 x4 : Int32} (hp : Pa σ p) : b_R C kX1_strokesLeft [] (18, [some (.ref p), some (.int x1), some (.int x2), some (.int x3), some (.int x4)], [], σ) = (if x4 < x3 then b_G C kX1_strokesLeft [] 29 32 [some (.ref p), some (.int x1), some (.int x2), some (.int x3), some (.int x4)] [.int x2] (C 46 [.ref p, .int x1, .int x4] σ) else some (.inl (some (.int x2)), σ)) := by
  refine (e_iload (code := kX1_strokesLeft) (pc := 18) rfl rfl).trans ?_
  refine (e_iload_n (code := kX1_strokesLeft) (pc := 20) rfl rfl).trans ?_
  refine (e_icge (code := kX1_strokesLeft) (pc := 21) rfl).trans ?_
  refine b_ite ?_ ?_
  · refine (e_iload_n (code := kX1_strokesLeft) (pc := 24) rfl rfl).trans ?_
    refine (e_aload_n (code := kX1_strokesLeft) (pc := 25) rfl rfl).trans ?_
    refine (e_iload_n (code := kX1_strokesLeft) (pc := 26) rfl rfl).trans ?_
    refine (e_iload (code := kX1_strokesLeft) (pc := 27) rfl rfl).trans ?_
    exact (e_callV (σ := σ) (code := kX1_strokesLeft) (pc := 29) (len := 3) (k := 46) (n := 3) (c := 13) (as := [.ref p, .int x1, .int x4]) (st0 := [.int x2]) rfl rfl rfl rfl rfl hp.1 rfl)
  · refine (e_iload_n (code := kX1_strokesLeft) (pc := 42) rfl rfl).trans ?_
    exact e_ireturn rfl
theorem b_X1_strokesLeft_32 {C : aCall} {σ : aSt} {p : Nat} {x1 x2 x3 x4 y0 y1 : Int32} : b_R C kX1_strokesLeft [] (32, [some (.ref p), some (.int x1), some (.int x2), some (.int x3), some (.int x4)], [.int y0, .int y1], σ) = b_G C kX1_strokesLeft [] 32 35 [some (.ref p), some (.int x1), some (.int x2), some (.int x3), some (.int x4)] [] (C 1000 [.int y1, .int y0] σ) := by
  exact (e_callS (code := kX1_strokesLeft) (pc := 32) (len := 3) (k := 1000) (n := 2) (as := [.int y1, .int y0]) (st0 := []) rfl rfl rfl rfl)
theorem b_X1_strokesLeft_35 {C : aCall} {σ : aSt} {p : Nat} {x1 x2 x3 x4 y0 : Int32} : b_R C kX1_strokesLeft [] (35, [some (.ref p), some (.int x1), some (.int x2), some (.int x3), some (.int x4)], [.int y0], σ) = b_R C kX1_strokesLeft [] (18, [some (.ref p), some (.int x1), some (.int y0), some (.int x3), some (.int (x4 + nI 1))], [], σ) := by
  refine (e_istore_n (code := kX1_strokesLeft) (pc := 35) rfl rfl rfl).trans ?_
  refine (e_iinc (code := kX1_strokesLeft) (pc := 36) rfl rfl rfl rfl).trans ?_
  refine (e_goto (code := kX1_strokesLeft) (pc := 39) rfl).trans ?_
  rfl
theorem n_X1_tubeUsedUpFirst {P : aCall} {d : Nat} {σ : aSt} {p : Nat} {x1 : Int32} (hd : 1 ≤ d) : a_call a_tab P d 48 [.ref p, .int x1] σ = b_R (a_call a_tab P (d - 1)) kX1_tubeUsedUpFirst [] (0, [some (.ref p), some (.int x1), none, none, none, none], [], σ) := e_call hd at_X1_tubeUsedUpFirst rfl
theorem b_X1_tubeUsedUpFirst_0 {C : aCall} {σ : aSt} {p : Nat} {x1 : Int32} (hp : Pa σ p) : b_R C kX1_tubeUsedUpFirst [] (0, [some (.ref p), some (.int x1), none, none, none, none], [], σ) = b_G C kX1_tubeUsedUpFirst [] 2 5 [some (.ref p), some (.int x1), none, none, none, none] [] (C 47 [.ref p, .int x1] σ) := by
  refine (e_aload_n (code := kX1_tubeUsedUpFirst) (pc := 0) rfl rfl).trans ?_
  refine (e_iload_n (code := kX1_tubeUsedUpFirst) (pc := 1) rfl rfl).trans ?_
  exact (e_callV (σ := σ) (code := kX1_tubeUsedUpFirst) (pc := 2) (len := 3) (k := 47) (n := 2) (c := 13) (as := [.ref p, .int x1]) (st0 := []) rfl rfl rfl rfl rfl hp.1 rfl)
theorem b_X1_tubeUsedUpFirst_5 {C : aCall} {σ : aSt} {p : Nat} {x1 y0 : Int32} (hp : Pa σ p) : b_R C kX1_tubeUsedUpFirst [] (5, [some (.ref p), some (.int x1), none, none, none, none], [.int y0], σ) = b_G C kX1_tubeUsedUpFirst [] 16 19 [some (.ref p), some (.int x1), some (.int y0), some (.int (nI 20)), none, none] [] (C 1 [.ref (p + 3), .int x1, .int (nI 8)] σ) := by
  refine (e_istore_n (code := kX1_tubeUsedUpFirst) (pc := 5) rfl rfl rfl).trans ?_
  refine (e_bipush (code := kX1_tubeUsedUpFirst) (pc := 6) rfl).trans ?_
  refine (e_istore_n (code := kX1_tubeUsedUpFirst) (pc := 8) rfl rfl rfl).trans ?_
  refine (e_aload_n (code := kX1_tubeUsedUpFirst) (pc := 9) rfl rfl).trans ?_
  refine (e_getR (code := kX1_tubeUsedUpFirst) (pc := 10) (c := 3) rfl hp.1 hp.2.2.2.1).trans ?_
  refine (e_iload_n (code := kX1_tubeUsedUpFirst) (pc := 13) rfl rfl).trans ?_
  refine (e_bipush (code := kX1_tubeUsedUpFirst) (pc := 14) rfl).trans ?_
  exact (e_callV (σ := σ) (code := kX1_tubeUsedUpFirst) (pc := 16) (len := 3) (k := 1) (n := 3) (c := 16) (as := [.ref (p + 3), .int x1, .int (nI 8)]) (st0 := []) rfl rfl rfl rfl rfl hp.2.2.2.2.2.2.2.1.1 rfl)
theorem b_X1_tubeUsedUpFirst_19 {C : aCall} {σ : aSt} {p : Nat} {x1 x2 x3 y0 : Int32} : b_R C kX1_tubeUsedUpFirst [] (19, [some (.ref p), some (.int x1), some (.int x2), some (.int x3), none, none], [.int y0], σ) = b_R C kX1_tubeUsedUpFirst [] (24, [some (.ref p), some (.int x1), some (.int x2), some (.int x3), some (.int y0), some (.int (nI 0))], [], σ) := by
  refine (e_istore (code := kX1_tubeUsedUpFirst) (pc := 19) rfl rfl rfl).trans ?_
  refine (e_iconst (code := kX1_tubeUsedUpFirst) (pc := 21) rfl).trans ?_
  refine (e_istore (code := kX1_tubeUsedUpFirst) (pc := 22) rfl rfl rfl).trans ?_
  rfl
theorem b_X1_tubeUsedUpFirst_24 {C : aCall} {σ : aSt} {p : Nat} {x1 x2 x3 x4 x5 : Int32} (hp : Pa σ p) : b_R C kX1_tubeUsedUpFirst [] (24, [some (.ref p), some (.int x1), some (.int x2), some (.int x3), some (.int x4), some (.int x5)], [], σ) = (if x5 < x4 then b_G C kX1_tubeUsedUpFirst [] 35 38 [some (.ref p), some (.int x1), some (.int x2), some (.int x3), some (.int x4), some (.int x5)] [] (C 46 [.ref p, .int x1, .int x5] σ) else some (.inl (some (.int x3)), σ)) := by
  refine (e_iload (code := kX1_tubeUsedUpFirst) (pc := 24) rfl rfl).trans ?_
  refine (e_iload (code := kX1_tubeUsedUpFirst) (pc := 26) rfl rfl).trans ?_
  refine (e_icge (code := kX1_tubeUsedUpFirst) (pc := 28) rfl).trans ?_
  refine b_ite ?_ ?_
  · refine (e_aload_n (code := kX1_tubeUsedUpFirst) (pc := 31) rfl rfl).trans ?_
    refine (e_iload_n (code := kX1_tubeUsedUpFirst) (pc := 32) rfl rfl).trans ?_
    refine (e_iload (code := kX1_tubeUsedUpFirst) (pc := 33) rfl rfl).trans ?_
    exact (e_callV (σ := σ) (code := kX1_tubeUsedUpFirst) (pc := 35) (len := 3) (k := 46) (n := 3) (c := 13) (as := [.ref p, .int x1, .int x5]) (st0 := []) rfl rfl rfl rfl rfl hp.1 rfl)
  · refine (e_iload_n (code := kX1_tubeUsedUpFirst) (pc := 66) rfl rfl).trans ?_
    exact e_ireturn rfl
theorem b_X1_tubeUsedUpFirst_38 {C : aCall} {σ : aSt} {p : Nat} {x1 x2 x3 x4 x5 y0 : Int32} (hp : Pa σ p) : b_R C kX1_tubeUsedUpFirst [] (38, [some (.ref p), some (.int x1), some (.int x2), some (.int x3), some (.int x4), some (.int x5)], [.int y0], σ) = (if y0 = x2 then b_G C kX1_tubeUsedUpFirst [] 53 56 [some (.ref p), some (.int x1), some (.int x2), some (.int x3), some (.int x4), some (.int x5)] [.int x3] (C 1 [.ref (p + 3), .int x1, .int ((nI 9) + x5)] σ) else b_R C kX1_tubeUsedUpFirst [] (60, [some (.ref p), some (.int x1), some (.int x2), some (.int x3), some (.int x4), some (.int x5)], [], σ)) := by
  refine (e_iload_n (code := kX1_tubeUsedUpFirst) (pc := 38) rfl rfl).trans ?_
  refine (e_icne (code := kX1_tubeUsedUpFirst) (pc := 39) rfl).trans ?_
  refine b_ite ?_ ?_
  · refine (e_iload_n (code := kX1_tubeUsedUpFirst) (pc := 42) rfl rfl).trans ?_
    refine (e_aload_n (code := kX1_tubeUsedUpFirst) (pc := 43) rfl rfl).trans ?_
    refine (e_getR (code := kX1_tubeUsedUpFirst) (pc := 44) (c := 3) rfl hp.1 hp.2.2.2.1).trans ?_
    refine (e_iload_n (code := kX1_tubeUsedUpFirst) (pc := 47) rfl rfl).trans ?_
    refine (e_bipush (code := kX1_tubeUsedUpFirst) (pc := 48) rfl).trans ?_
    refine (e_iload (code := kX1_tubeUsedUpFirst) (pc := 50) rfl rfl).trans ?_
    refine (e_iadd (code := kX1_tubeUsedUpFirst) (pc := 52) rfl).trans ?_
    exact (e_callV (σ := σ) (code := kX1_tubeUsedUpFirst) (pc := 53) (len := 3) (k := 1) (n := 3) (c := 16) (as := [.ref (p + 3), .int x1, .int ((nI 9) + x5)]) (st0 := [.int x3]) rfl rfl rfl rfl rfl hp.2.2.2.2.2.2.2.1.1 rfl)
  · rfl
theorem b_X1_tubeUsedUpFirst_56 {C : aCall} {σ : aSt} {p : Nat} {x1 x2 x3 x4 x5 y0 y1 : Int32} : b_R C kX1_tubeUsedUpFirst [] (56, [some (.ref p), some (.int x1), some (.int x2), some (.int x3), some (.int x4), some (.int x5)], [.int y0, .int y1], σ) = b_G C kX1_tubeUsedUpFirst [] 56 59 [some (.ref p), some (.int x1), some (.int x2), some (.int x3), some (.int x4), some (.int x5)] [] (C 1000 [.int y1, .int y0] σ) := by
  exact (e_callS (code := kX1_tubeUsedUpFirst) (pc := 56) (len := 3) (k := 1000) (n := 2) (as := [.int y1, .int y0]) (st0 := []) rfl rfl rfl rfl)
theorem b_X1_tubeUsedUpFirst_59 {C : aCall} {σ : aSt} {p : Nat} {x1 x2 x3 x4 x5 y0 : Int32} : b_R C kX1_tubeUsedUpFirst [] (59, [some (.ref p), some (.int x1), some (.int x2), some (.int x3), some (.int x4), some (.int x5)], [.int y0], σ) = b_R C kX1_tubeUsedUpFirst [] (60, [some (.ref p), some (.int x1), some (.int x2), some (.int y0), some (.int x4), some (.int x5)], [], σ) := by
  refine (e_istore_n (code := kX1_tubeUsedUpFirst) (pc := 59) rfl rfl rfl).trans ?_
  rfl
theorem b_X1_tubeUsedUpFirst_60 {C : aCall} {σ : aSt} {p : Nat} {x1 x2 x3 x4 x5 : Int32} : b_R C kX1_tubeUsedUpFirst [] (60, [some (.ref p), some (.int x1), some (.int x2), some (.int x3), some (.int x4), some (.int x5)], [], σ) = b_R C kX1_tubeUsedUpFirst [] (24, [some (.ref p), some (.int x1), some (.int x2), some (.int x3), some (.int x4), some (.int (x5 + nI 1))], [], σ) := by
  refine (e_iinc (code := kX1_tubeUsedUpFirst) (pc := 60) rfl rfl rfl rfl).trans ?_
  refine (e_goto (code := kX1_tubeUsedUpFirst) (pc := 63) rfl).trans ?_
  rfl
theorem n_X1_paintedColour {P : aCall} {d : Nat} {σ : aSt} {p : Nat} {x1 x2 : Int32} (hd : 1 ≤ d) : a_call a_tab P d 49 [.ref p, .int x1, .int x2] σ = b_R (a_call a_tab P (d - 1)) kX1_paintedColour [] (0, [some (.ref p), some (.int x1), some (.int x2), none, none, none, none], [], σ) := e_call hd at_X1_paintedColour rfl
theorem b_X1_paintedColour_0 {C : aCall} {σ : aSt} {p : Nat} {x1 x2 : Int32} (hp : Pa σ p) : b_R C kX1_paintedColour [] (0, [some (.ref p), some (.int x1), some (.int x2), none, none, none, none], [], σ) = b_G C kX1_paintedColour [] 6 9 [some (.ref p), some (.int x1), some (.int x2), none, none, none, none] [] (C 1 [.ref (p + 5), .int x1, .int (nI 3)] σ) := by
  refine (e_aload_n (code := kX1_paintedColour) (pc := 0) rfl rfl).trans ?_
  refine (e_getR (code := kX1_paintedColour) (pc := 1) (c := 3) rfl hp.1 hp.2.2.2.2.1).trans ?_
  refine (e_iload_n (code := kX1_paintedColour) (pc := 4) rfl rfl).trans ?_
  refine (e_iconst (code := kX1_paintedColour) (pc := 5) rfl).trans ?_
  exact (e_callV (σ := σ) (code := kX1_paintedColour) (pc := 6) (len := 3) (k := 1) (n := 3) (c := 16) (as := [.ref (p + 5), .int x1, .int (nI 3)]) (st0 := []) rfl rfl rfl rfl rfl hp.2.2.2.2.2.2.2.2.1.1 rfl)
theorem b_X1_paintedColour_9 {C : aCall} {σ : aSt} {p : Nat} {x1 x2 y0 : Int32} : b_R C kX1_paintedColour [] (9, [some (.ref p), some (.int x1), some (.int x2), none, none, none, none], [.int y0], σ) = b_R C kX1_paintedColour [] (16, [some (.ref p), some (.int x1), some (.int x2), some (.int y0), some (.int (nI 0)), some (.int (nI 0)), none], [], σ) := by
  refine (e_istore_n (code := kX1_paintedColour) (pc := 9) rfl rfl rfl).trans ?_
  refine (e_iconst (code := kX1_paintedColour) (pc := 10) rfl).trans ?_
  refine (e_istore (code := kX1_paintedColour) (pc := 11) rfl rfl rfl).trans ?_
  refine (e_iconst (code := kX1_paintedColour) (pc := 13) rfl).trans ?_
  refine (e_istore (code := kX1_paintedColour) (pc := 14) rfl rfl rfl).trans ?_
  rfl
theorem b_X1_paintedColour_16 {C : aCall} {σ : aSt} {p : Nat} {x1 x2 x3 x4 x5 : Int32} {o6 : Option Value} (hp : Pa σ p) : b_R C kX1_paintedColour [] (16, [some (.ref p), some (.int x1), some (.int x2), some (.int x3), some (.int x4), some (.int x5), o6], [], σ) = (if x5 < (nI 3) then b_G C kX1_paintedColour [] 31 34 [some (.ref p), some (.int x1), some (.int x2), some (.int x3), some (.int x4), some (.int x5), o6] [.int (nI 4)] (C 44 [.ref p, .ref (p + 3), .int x2, .int x5] σ) else some (.inl (some (.int x4)), σ)) := by
  refine (e_iload (code := kX1_paintedColour) (pc := 16) rfl rfl).trans ?_
  refine (e_iconst (code := kX1_paintedColour) (pc := 18) rfl).trans ?_
  refine (e_icge (code := kX1_paintedColour) (pc := 19) rfl).trans ?_
  refine b_ite ?_ ?_
  · refine (e_iconst (code := kX1_paintedColour) (pc := 22) rfl).trans ?_
    refine (e_aload_n (code := kX1_paintedColour) (pc := 23) rfl rfl).trans ?_
    refine (e_aload_n (code := kX1_paintedColour) (pc := 24) rfl rfl).trans ?_
    refine (e_getR (code := kX1_paintedColour) (pc := 25) (c := 3) rfl hp.1 hp.2.2.2.1).trans ?_
    refine (e_iload_n (code := kX1_paintedColour) (pc := 28) rfl rfl).trans ?_
    refine (e_iload (code := kX1_paintedColour) (pc := 29) rfl rfl).trans ?_
    exact (e_callV (σ := σ) (code := kX1_paintedColour) (pc := 31) (len := 3) (k := 44) (n := 4) (c := 13) (as := [.ref p, .ref (p + 3), .int x2, .int x5]) (st0 := [.int (nI 4)]) rfl rfl rfl rfl rfl hp.1 rfl)
  · refine (e_iload (code := kX1_paintedColour) (pc := 73) rfl rfl).trans ?_
    exact e_ireturn rfl
theorem b_X1_paintedColour_34 {C : aCall} {σ : aSt} {p : Nat} {x1 x2 x3 x4 x5 y0 y1 : Int32} {o6 : Option Value} (hp : Pa σ p) : b_R C kX1_paintedColour [] (34, [some (.ref p), some (.int x1), some (.int x2), some (.int x3), some (.int x4), some (.int x5), o6], [.int y0, .int y1], σ) = b_G C kX1_paintedColour [] 43 46 [some (.ref p), some (.int x1), some (.int x2), some (.int x3), some (.int x4), some (.int x5), o6] [.int x3, .int (y1 * y0)] (C 1 [.ref (p + 5), .int x1, .int x5] σ) := by
  refine (e_imul (code := kX1_paintedColour) (pc := 34) rfl).trans ?_
  refine (e_iload_n (code := kX1_paintedColour) (pc := 35) rfl rfl).trans ?_
  refine (e_aload_n (code := kX1_paintedColour) (pc := 36) rfl rfl).trans ?_
  refine (e_getR (code := kX1_paintedColour) (pc := 37) (c := 3) rfl hp.1 hp.2.2.2.2.1).trans ?_
  refine (e_iload_n (code := kX1_paintedColour) (pc := 40) rfl rfl).trans ?_
  refine (e_iload (code := kX1_paintedColour) (pc := 41) rfl rfl).trans ?_
  exact (e_callV (σ := σ) (code := kX1_paintedColour) (pc := 43) (len := 3) (k := 1) (n := 3) (c := 16) (as := [.ref (p + 5), .int x1, .int x5]) (st0 := [.int x3, .int (y1 * y0)]) rfl rfl rfl rfl rfl hp.2.2.2.2.2.2.2.2.1.1 rfl)
theorem b_X1_paintedColour_46 {C : aCall} {σ : aSt} {p : Nat} {x1 x2 x3 x4 x5 y0 y1 y2 : Int32} {o6 : Option Value} : b_R C kX1_paintedColour [] (46, [some (.ref p), some (.int x1), some (.int x2), some (.int x3), some (.int x4), some (.int x5), o6], [.int y0, .int y1, .int y2], σ) = b_G C kX1_paintedColour [] 61 64 [some (.ref p), some (.int x1), some (.int x2), some (.int x3), some (.int x4), some (.int x5), some (.int (y2 + (y1 * y0)))] [.int ((nI 256) * x4)] (C 142 [.int (y2 + (y1 * y0)), .int ((nI 4) + x3)] σ) := by
  refine (e_imul (code := kX1_paintedColour) (pc := 46) rfl).trans ?_
  refine (e_iadd (code := kX1_paintedColour) (pc := 47) rfl).trans ?_
  refine (e_istore (code := kX1_paintedColour) (pc := 48) rfl rfl rfl).trans ?_
  refine (e_sipush (code := kX1_paintedColour) (pc := 50) rfl).trans ?_
  refine (e_iload (code := kX1_paintedColour) (pc := 53) rfl rfl).trans ?_
  refine (e_imul (code := kX1_paintedColour) (pc := 55) rfl).trans ?_
  refine (e_iload (code := kX1_paintedColour) (pc := 56) rfl rfl).trans ?_
  refine (e_iconst (code := kX1_paintedColour) (pc := 58) rfl).trans ?_
  refine (e_iload_n (code := kX1_paintedColour) (pc := 59) rfl rfl).trans ?_
  refine (e_iadd (code := kX1_paintedColour) (pc := 60) rfl).trans ?_
  exact (e_callS (code := kX1_paintedColour) (pc := 61) (len := 3) (k := 142) (n := 2) (as := [.int (y2 + (y1 * y0)), .int ((nI 4) + x3)]) (st0 := [.int ((nI 256) * x4)]) rfl rfl rfl rfl)
theorem b_X1_paintedColour_64 {C : aCall} {σ : aSt} {p : Nat} {x1 x2 x3 x4 x5 x6 y0 y1 : Int32} : b_R C kX1_paintedColour [] (64, [some (.ref p), some (.int x1), some (.int x2), some (.int x3), some (.int x4), some (.int x5), some (.int x6)], [.int y0, .int y1], σ) = b_R C kX1_paintedColour [] (16, [some (.ref p), some (.int x1), some (.int x2), some (.int x3), some (.int (y1 + y0)), some (.int (x5 + nI 1)), some (.int x6)], [], σ) := by
  refine (e_iadd (code := kX1_paintedColour) (pc := 64) rfl).trans ?_
  refine (e_istore (code := kX1_paintedColour) (pc := 65) rfl rfl rfl).trans ?_
  refine (e_iinc (code := kX1_paintedColour) (pc := 67) rfl rfl rfl rfl).trans ?_
  refine (e_goto (code := kX1_paintedColour) (pc := 70) rfl).trans ?_
  rfl
theorem n_X1_paintStrokes {P : aCall} {d : Nat} {σ : aSt} {p : Nat} {x1 x2 x3 : Int32} (hd : 1 ≤ d) : a_call a_tab P d 50 [.ref p, .int x1, .int x2, .int x3] σ = b_R (a_call a_tab P (d - 1)) kX1_paintStrokes [] (0, [some (.ref p), some (.int x1), some (.int x2), some (.int x3), none, none, none, none], [], σ) := e_call hd at_X1_paintStrokes rfl
theorem b_X1_paintStrokes_0 {C : aCall} {σ : aSt} {p : Nat} {x1 x2 x3 : Int32} (hp : Pa σ p) : b_R C kX1_paintStrokes [] (0, [some (.ref p), some (.int x1), some (.int x2), some (.int x3), none, none, none, none], [], σ) = b_G C kX1_paintStrokes [] 3 6 [some (.ref p), some (.int x1), some (.int x2), some (.int x3), none, none, none, none] [] (C 49 [.ref p, .int x1, .int x2] σ) := by
  refine (e_aload_n (code := kX1_paintStrokes) (pc := 0) rfl rfl).trans ?_
  refine (e_iload_n (code := kX1_paintStrokes) (pc := 1) rfl rfl).trans ?_
  refine (e_iload_n (code := kX1_paintStrokes) (pc := 2) rfl rfl).trans ?_
  exact (e_callV (σ := σ) (code := kX1_paintStrokes) (pc := 3) (len := 3) (k := 49) (n := 3) (c := 13) (as := [.ref p, .int x1, .int x2]) (st0 := []) rfl rfl rfl rfl rfl hp.1 rfl)
theorem b_X1_paintStrokes_6 {C : aCall} {σ : aSt} {p : Nat} {x1 x2 x3 y0 : Int32} (hp : Pa σ p) : b_R C kX1_paintStrokes [] (6, [some (.ref p), some (.int x1), some (.int x2), some (.int x3), none, none, none, none], [.int y0], σ) = b_G C kX1_paintStrokes [] 12 15 [some (.ref p), some (.int x1), some (.int x2), some (.int x3), some (.int y0), none, none, none] [] (C 6 [.ref (p + 7)] σ) := by
  refine (e_istore (code := kX1_paintStrokes) (pc := 6) rfl rfl rfl).trans ?_
  refine (e_aload_n (code := kX1_paintStrokes) (pc := 8) rfl rfl).trans ?_
  refine (e_getR (code := kX1_paintStrokes) (pc := 9) (c := 3) rfl hp.1 hp.2.2.2.2.2.1).trans ?_
  exact (e_callV (σ := σ) (code := kX1_paintStrokes) (pc := 12) (len := 3) (k := 6) (n := 1) (c := 16) (as := [.ref (p + 7)]) (st0 := []) rfl rfl rfl rfl rfl hp.2.2.2.2.2.2.2.2.2.1 rfl)
theorem b_X1_paintStrokes_15 {C : aCall} {σ : aSt} {p : Nat} {x1 x2 x3 x4 : Int32} (hp : Pa σ p) : b_R C kX1_paintStrokes [] (15, [some (.ref p), some (.int x1), some (.int x2), some (.int x3), some (.int x4), none, none, none], [], σ) = b_G C kX1_paintStrokes [] 23 26 [some (.ref p), some (.int x1), some (.int x2), some (.int x3), some (.int x4), none, none, none] [] (C 2 [.ref (p + 7), .int (nI 0), .int (nI 0), .int x4] σ) := by
  refine (e_aload_n (code := kX1_paintStrokes) (pc := 15) rfl rfl).trans ?_
  refine (e_getR (code := kX1_paintStrokes) (pc := 16) (c := 3) rfl hp.1 hp.2.2.2.2.2.1).trans ?_
  refine (e_iconst (code := kX1_paintStrokes) (pc := 19) rfl).trans ?_
  refine (e_iconst (code := kX1_paintStrokes) (pc := 20) rfl).trans ?_
  refine (e_iload (code := kX1_paintStrokes) (pc := 21) rfl rfl).trans ?_
  exact (e_callV (σ := σ) (code := kX1_paintStrokes) (pc := 23) (len := 3) (k := 2) (n := 4) (c := 16) (as := [.ref (p + 7), .int (nI 0), .int (nI 0), .int x4]) (st0 := []) rfl rfl rfl rfl rfl hp.2.2.2.2.2.2.2.2.2.1 rfl)
theorem b_X1_paintStrokes_26 {C : aCall} {σ : aSt} {p : Nat} {x1 x2 x3 x4 : Int32} (hp : Pa σ p) : b_R C kX1_paintStrokes [] (26, [some (.ref p), some (.int x1), some (.int x2), some (.int x3), some (.int x4), none, none, none], [], σ) = b_G C kX1_paintStrokes [] 33 36 [some (.ref p), some (.int x1), some (.int x2), some (.int x3), some (.int x4), none, none, none] [] (C 2 [.ref (p + 7), .int (nI 0), .int (nI 1), .int x1] σ) := by
  refine (e_aload_n (code := kX1_paintStrokes) (pc := 26) rfl rfl).trans ?_
  refine (e_getR (code := kX1_paintStrokes) (pc := 27) (c := 3) rfl hp.1 hp.2.2.2.2.2.1).trans ?_
  refine (e_iconst (code := kX1_paintStrokes) (pc := 30) rfl).trans ?_
  refine (e_iconst (code := kX1_paintStrokes) (pc := 31) rfl).trans ?_
  refine (e_iload_n (code := kX1_paintStrokes) (pc := 32) rfl rfl).trans ?_
  exact (e_callV (σ := σ) (code := kX1_paintStrokes) (pc := 33) (len := 3) (k := 2) (n := 4) (c := 16) (as := [.ref (p + 7), .int (nI 0), .int (nI 1), .int x1]) (st0 := []) rfl rfl rfl rfl rfl hp.2.2.2.2.2.2.2.2.2.1 rfl)
theorem b_X1_paintStrokes_36 {C : aCall} {σ : aSt} {p : Nat} {x1 x2 x3 x4 : Int32} (hp : Pa σ p) : b_R C kX1_paintStrokes [] (36, [some (.ref p), some (.int x1), some (.int x2), some (.int x3), some (.int x4), none, none, none], [], σ) = b_G C kX1_paintStrokes [] 43 46 [some (.ref p), some (.int x1), some (.int x2), some (.int x3), some (.int x4), none, none, none] [] (C 2 [.ref (p + 7), .int (nI 0), .int (nI 2), .int x3] σ) := by
  refine (e_aload_n (code := kX1_paintStrokes) (pc := 36) rfl rfl).trans ?_
  refine (e_getR (code := kX1_paintStrokes) (pc := 37) (c := 3) rfl hp.1 hp.2.2.2.2.2.1).trans ?_
  refine (e_iconst (code := kX1_paintStrokes) (pc := 40) rfl).trans ?_
  refine (e_iconst (code := kX1_paintStrokes) (pc := 41) rfl).trans ?_
  refine (e_iload_n (code := kX1_paintStrokes) (pc := 42) rfl rfl).trans ?_
  exact (e_callV (σ := σ) (code := kX1_paintStrokes) (pc := 43) (len := 3) (k := 2) (n := 4) (c := 16) (as := [.ref (p + 7), .int (nI 0), .int (nI 2), .int x3]) (st0 := []) rfl rfl rfl rfl rfl hp.2.2.2.2.2.2.2.2.2.1 rfl)
theorem b_X1_paintStrokes_46 {C : aCall} {σ : aSt} {p : Nat} {x1 x2 x3 x4 : Int32} (hp : Pa σ p) : b_R C kX1_paintStrokes [] (46, [some (.ref p), some (.int x1), some (.int x2), some (.int x3), some (.int x4), none, none, none], [], σ) = b_G C kX1_paintStrokes [] 58 61 [some (.ref p), some (.int x1), some (.int x2), some (.int x3), some (.int x4), none, none, none] [.int (nI 3), .int (nI 0), .ref (p + 7)] (C 45 [.ref p, .ref (p + 3), .int x2] σ) := by
  refine (e_aload_n (code := kX1_paintStrokes) (pc := 46) rfl rfl).trans ?_
  refine (e_getR (code := kX1_paintStrokes) (pc := 47) (c := 3) rfl hp.1 hp.2.2.2.2.2.1).trans ?_
  refine (e_iconst (code := kX1_paintStrokes) (pc := 50) rfl).trans ?_
  refine (e_iconst (code := kX1_paintStrokes) (pc := 51) rfl).trans ?_
  refine (e_aload_n (code := kX1_paintStrokes) (pc := 52) rfl rfl).trans ?_
  refine (e_aload_n (code := kX1_paintStrokes) (pc := 53) rfl rfl).trans ?_
  refine (e_getR (code := kX1_paintStrokes) (pc := 54) (c := 3) rfl hp.1 hp.2.2.2.1).trans ?_
  refine (e_iload_n (code := kX1_paintStrokes) (pc := 57) rfl rfl).trans ?_
  exact (e_callV (σ := σ) (code := kX1_paintStrokes) (pc := 58) (len := 3) (k := 45) (n := 3) (c := 13) (as := [.ref p, .ref (p + 3), .int x2]) (st0 := [.int (nI 3), .int (nI 0), .ref (p + 7)]) rfl rfl rfl rfl rfl hp.1 rfl)
theorem b_X1_paintStrokes_61 {C : aCall} {σ : aSt} {p : Nat} {x1 x2 x3 x4 y0 y1 y2 : Int32} (hp : Pa σ p) : b_R C kX1_paintStrokes [] (61, [some (.ref p), some (.int x1), some (.int x2), some (.int x3), some (.int x4), none, none, none], [.int y0, .int y1, .int y2, .ref (p + 7)], σ) = b_G C kX1_paintStrokes [] 61 64 [some (.ref p), some (.int x1), some (.int x2), some (.int x3), some (.int x4), none, none, none] [] (C 2 [.ref (p + 7), .int y2, .int y1, .int y0] σ) := by
  exact (e_callV (σ := σ) (code := kX1_paintStrokes) (pc := 61) (len := 3) (k := 2) (n := 4) (c := 16) (as := [.ref (p + 7), .int y2, .int y1, .int y0]) (st0 := []) rfl rfl rfl rfl rfl hp.2.2.2.2.2.2.2.2.2.1 rfl)
theorem b_X1_paintStrokes_64 {C : aCall} {σ : aSt} {p : Nat} {x1 x2 x3 x4 : Int32} (hp : Pa σ p) : b_R C kX1_paintStrokes [] (64, [some (.ref p), some (.int x1), some (.int x2), some (.int x3), some (.int x4), none, none, none], [], σ) = b_G C kX1_paintStrokes [] 71 74 [some (.ref p), some (.int x1), some (.int x2), some (.int x3), some (.int x4), none, none, none] [] (C 1 [.ref (p + 3), .int x2, .int (nI 8)] σ) := by
  refine (e_aload_n (code := kX1_paintStrokes) (pc := 64) rfl rfl).trans ?_
  refine (e_getR (code := kX1_paintStrokes) (pc := 65) (c := 3) rfl hp.1 hp.2.2.2.1).trans ?_
  refine (e_iload_n (code := kX1_paintStrokes) (pc := 68) rfl rfl).trans ?_
  refine (e_bipush (code := kX1_paintStrokes) (pc := 69) rfl).trans ?_
  exact (e_callV (σ := σ) (code := kX1_paintStrokes) (pc := 71) (len := 3) (k := 1) (n := 3) (c := 16) (as := [.ref (p + 3), .int x2, .int (nI 8)]) (st0 := []) rfl rfl rfl rfl rfl hp.2.2.2.2.2.2.2.1.1 rfl)
theorem b_X1_paintStrokes_74 {C : aCall} {σ : aSt} {p : Nat} {x1 x2 x3 x4 y0 : Int32} : b_R C kX1_paintStrokes [] (74, [some (.ref p), some (.int x1), some (.int x2), some (.int x3), some (.int x4), none, none, none], [.int y0], σ) = b_R C kX1_paintStrokes [] (79, [some (.ref p), some (.int x1), some (.int x2), some (.int x3), some (.int x4), some (.int y0), some (.int (nI 0)), none], [], σ) := by
  refine (e_istore (code := kX1_paintStrokes) (pc := 74) rfl rfl rfl).trans ?_
  refine (e_iconst (code := kX1_paintStrokes) (pc := 76) rfl).trans ?_
  refine (e_istore (code := kX1_paintStrokes) (pc := 77) rfl rfl rfl).trans ?_
  rfl
theorem b_X1_paintStrokes_79 {C : aCall} {σ : aSt} {p : Nat} {x1 x2 x3 x4 x5 x6 : Int32} {o7 : Option Value} (hp : Pa σ p) : b_R C kX1_paintStrokes [] (79, [some (.ref p), some (.int x1), some (.int x2), some (.int x3), some (.int x4), some (.int x5), some (.int x6), o7], [], σ) = (if x6 < x5 then b_G C kX1_paintStrokes [] 96 99 [some (.ref p), some (.int x1), some (.int x2), some (.int x3), some (.int x4), some (.int x5), some (.int x6), o7] [] (C 1 [.ref (p + 3), .int x2, .int ((nI 9) + x6)] σ) else b_R C kX1_paintStrokes [] (148, [some (.ref p), some (.int x1), some (.int x2), some (.int x3), some (.int x4), some (.int x5), some (.int (nI 0)), o7], [], σ)) := by
  refine (e_iload (code := kX1_paintStrokes) (pc := 79) rfl rfl).trans ?_
  refine (e_iload (code := kX1_paintStrokes) (pc := 81) rfl rfl).trans ?_
  refine (e_icge (code := kX1_paintStrokes) (pc := 83) rfl).trans ?_
  refine b_ite ?_ ?_
  · refine (e_aload_n (code := kX1_paintStrokes) (pc := 86) rfl rfl).trans ?_
    refine (e_getR (code := kX1_paintStrokes) (pc := 87) (c := 3) rfl hp.1 hp.2.2.2.1).trans ?_
    refine (e_iload_n (code := kX1_paintStrokes) (pc := 90) rfl rfl).trans ?_
    refine (e_bipush (code := kX1_paintStrokes) (pc := 91) rfl).trans ?_
    refine (e_iload (code := kX1_paintStrokes) (pc := 93) rfl rfl).trans ?_
    refine (e_iadd (code := kX1_paintStrokes) (pc := 95) rfl).trans ?_
    exact (e_callV (σ := σ) (code := kX1_paintStrokes) (pc := 96) (len := 3) (k := 1) (n := 3) (c := 16) (as := [.ref (p + 3), .int x2, .int ((nI 9) + x6)]) (st0 := []) rfl rfl rfl rfl rfl hp.2.2.2.2.2.2.2.1.1 rfl)
  · refine (e_iconst (code := kX1_paintStrokes) (pc := 145) rfl).trans ?_
    refine (e_istore (code := kX1_paintStrokes) (pc := 146) rfl rfl rfl).trans ?_
    rfl
theorem b_X1_paintStrokes_99 {C : aCall} {σ : aSt} {p : Nat} {x1 x2 x3 x4 x5 x6 y0 : Int32} {o7 : Option Value} (hp : Pa σ p) : b_R C kX1_paintStrokes [] (99, [some (.ref p), some (.int x1), some (.int x2), some (.int x3), some (.int x4), some (.int x5), some (.int x6), o7], [.int y0], σ) = b_G C kX1_paintStrokes [] 117 120 [some (.ref p), some (.int x1), some (.int x2), some (.int x3), some (.int x4), some (.int x5), some (.int x6), some (.int y0)] [.int (nI 11), .int y0, .ref (p + 1)] (C 1 [.ref (p + 1), .int y0, .int (nI 11)] σ) := by
  refine (e_istore (code := kX1_paintStrokes) (pc := 99) rfl rfl rfl).trans ?_
  refine (e_aload_n (code := kX1_paintStrokes) (pc := 101) rfl rfl).trans ?_
  refine (e_getR (code := kX1_paintStrokes) (pc := 102) (c := 3) rfl hp.1 hp.2.2.1).trans ?_
  refine (e_iload (code := kX1_paintStrokes) (pc := 105) rfl rfl).trans ?_
  refine (e_bipush (code := kX1_paintStrokes) (pc := 107) rfl).trans ?_
  refine (e_aload_n (code := kX1_paintStrokes) (pc := 109) rfl rfl).trans ?_
  refine (e_getR (code := kX1_paintStrokes) (pc := 110) (c := 3) rfl hp.1 hp.2.2.1).trans ?_
  refine (e_iload (code := kX1_paintStrokes) (pc := 113) rfl rfl).trans ?_
  refine (e_bipush (code := kX1_paintStrokes) (pc := 115) rfl).trans ?_
  exact (e_callV (σ := σ) (code := kX1_paintStrokes) (pc := 117) (len := 3) (k := 1) (n := 3) (c := 16) (as := [.ref (p + 1), .int y0, .int (nI 11)]) (st0 := [.int (nI 11), .int y0, .ref (p + 1)]) rfl rfl rfl rfl rfl hp.2.2.2.2.2.2.1.1 rfl)
theorem b_X1_paintStrokes_120 {C : aCall} {σ : aSt} {p : Nat} {x1 x2 x3 x4 x5 x6 x7 y0 y1 y2 : Int32} (hp : Pa σ p) : b_R C kX1_paintStrokes [] (120, [some (.ref p), some (.int x1), some (.int x2), some (.int x3), some (.int x4), some (.int x5), some (.int x6), some (.int x7)], [.int y0, .int y1, .int y2, .ref (p + 1)], σ) = b_G C kX1_paintStrokes [] 131 134 [some (.ref p), some (.int x1), some (.int x2), some (.int x3), some (.int x4), some (.int x5), some (.int x6), some (.int x7)] [.int x3, .int y0, .int y1, .int y2, .ref (p + 1)] (C 1 [.ref (p + 3), .int x2, .int ((nI 13) + x6)] σ) := by
  refine (e_iload_n (code := kX1_paintStrokes) (pc := 120) rfl rfl).trans ?_
  refine (e_aload_n (code := kX1_paintStrokes) (pc := 121) rfl rfl).trans ?_
  refine (e_getR (code := kX1_paintStrokes) (pc := 122) (c := 3) rfl hp.1 hp.2.2.2.1).trans ?_
  refine (e_iload_n (code := kX1_paintStrokes) (pc := 125) rfl rfl).trans ?_
  refine (e_bipush (code := kX1_paintStrokes) (pc := 126) rfl).trans ?_
  refine (e_iload (code := kX1_paintStrokes) (pc := 128) rfl rfl).trans ?_
  refine (e_iadd (code := kX1_paintStrokes) (pc := 130) rfl).trans ?_
  exact (e_callV (σ := σ) (code := kX1_paintStrokes) (pc := 131) (len := 3) (k := 1) (n := 3) (c := 16) (as := [.ref (p + 3), .int x2, .int ((nI 13) + x6)]) (st0 := [.int x3, .int y0, .int y1, .int y2, .ref (p + 1)]) rfl rfl rfl rfl rfl hp.2.2.2.2.2.2.2.1.1 rfl)
theorem b_X1_paintStrokes_134 {C : aCall} {σ : aSt} {p : Nat} {x1 x2 x3 x4 x5 x6 x7 y0 y1 y2 y3 y4 : Int32} (hp : Pa σ p) : b_R C kX1_paintStrokes [] (134, [some (.ref p), some (.int x1), some (.int x2), some (.int x3), some (.int x4), some (.int x5), some (.int x6), some (.int x7)], [.int y0, .int y1, .int y2, .int y3, .int y4, .ref (p + 1)], σ) = b_G C kX1_paintStrokes [] 136 139 [some (.ref p), some (.int x1), some (.int x2), some (.int x3), some (.int x4), some (.int x5), some (.int x6), some (.int x7)] [] (C 2 [.ref (p + 1), .int y4, .int y3, .int (y2 - (y1 * y0))] σ) := by
  refine (e_imul (code := kX1_paintStrokes) (pc := 134) rfl).trans ?_
  refine (e_isub (code := kX1_paintStrokes) (pc := 135) rfl).trans ?_
  exact (e_callV (σ := σ) (code := kX1_paintStrokes) (pc := 136) (len := 3) (k := 2) (n := 4) (c := 16) (as := [.ref (p + 1), .int y4, .int y3, .int (y2 - (y1 * y0))]) (st0 := []) rfl rfl rfl rfl rfl hp.2.2.2.2.2.2.1.1 rfl)
theorem b_X1_paintStrokes_139 {C : aCall} {σ : aSt} {p : Nat} {x1 x2 x3 x4 x5 x6 x7 : Int32} : b_R C kX1_paintStrokes [] (139, [some (.ref p), some (.int x1), some (.int x2), some (.int x3), some (.int x4), some (.int x5), some (.int x6), some (.int x7)], [], σ) = b_R C kX1_paintStrokes [] (79, [some (.ref p), some (.int x1), some (.int x2), some (.int x3), some (.int x4), some (.int x5), some (.int (x6 + nI 1)), some (.int x7)], [], σ) := by
  refine (e_iinc (code := kX1_paintStrokes) (pc := 139) rfl rfl rfl rfl).trans ?_
  refine (e_goto (code := kX1_paintStrokes) (pc := 142) rfl).trans ?_
  rfl
theorem b_X1_paintStrokes_148 {C : aCall} {σ : aSt} {p : Nat} {x1 x2 x3 x4 x5 x6 : Int32} {o7 : Option Value} (hp : Pa σ p) : b_R C kX1_paintStrokes [] (148, [some (.ref p), some (.int x1), some (.int x2), some (.int x3), some (.int x4), some (.int x5), some (.int x6), o7], [], σ) = (if x6 < (nI 3) then b_G C kX1_paintStrokes [] 165 168 [some (.ref p), some (.int x1), some (.int x2), some (.int x3), some (.int x4), some (.int x5), some (.int x6), o7] [.int x6, .int x1, .ref (p + 5)] (C 140 [.int x4, .int x6] σ) else b_G C kX1_paintStrokes [] 190 193 [some (.ref p), some (.int x1), some (.int x2), some (.int x3), some (.int x4), some (.int x5), some (.int x6), o7] [.int (nI 3), .int (nI 3), .int x1, .ref (p + 5)] (C 1 [.ref (p + 5), .int x1, .int (nI 3)] σ)) := by
  refine (e_iload (code := kX1_paintStrokes) (pc := 148) rfl rfl).trans ?_
  refine (e_iconst (code := kX1_paintStrokes) (pc := 150) rfl).trans ?_
  refine (e_icge (code := kX1_paintStrokes) (pc := 151) rfl).trans ?_
  refine b_ite ?_ ?_
  · refine (e_aload_n (code := kX1_paintStrokes) (pc := 154) rfl rfl).trans ?_
    refine (e_getR (code := kX1_paintStrokes) (pc := 155) (c := 3) rfl hp.1 hp.2.2.2.2.1).trans ?_
    refine (e_iload_n (code := kX1_paintStrokes) (pc := 158) rfl rfl).trans ?_
    refine (e_iload (code := kX1_paintStrokes) (pc := 159) rfl rfl).trans ?_
    refine (e_iload (code := kX1_paintStrokes) (pc := 161) rfl rfl).trans ?_
    refine (e_iload (code := kX1_paintStrokes) (pc := 163) rfl rfl).trans ?_
    exact (e_callS (code := kX1_paintStrokes) (pc := 165) (len := 3) (k := 140) (n := 2) (as := [.int x4, .int x6]) (st0 := [.int x6, .int x1, .ref (p + 5)]) rfl rfl rfl rfl)
  · refine (e_aload_n (code := kX1_paintStrokes) (pc := 177) rfl rfl).trans ?_
    refine (e_getR (code := kX1_paintStrokes) (pc := 178) (c := 3) rfl hp.1 hp.2.2.2.2.1).trans ?_
    refine (e_iload_n (code := kX1_paintStrokes) (pc := 181) rfl rfl).trans ?_
    refine (e_iconst (code := kX1_paintStrokes) (pc := 182) rfl).trans ?_
    refine (e_iconst (code := kX1_paintStrokes) (pc := 183) rfl).trans ?_
    refine (e_aload_n (code := kX1_paintStrokes) (pc := 184) rfl rfl).trans ?_
    refine (e_getR (code := kX1_paintStrokes) (pc := 185) (c := 3) rfl hp.1 hp.2.2.2.2.1).trans ?_
    refine (e_iload_n (code := kX1_paintStrokes) (pc := 188) rfl rfl).trans ?_
    refine (e_iconst (code := kX1_paintStrokes) (pc := 189) rfl).trans ?_
    exact (e_callV (σ := σ) (code := kX1_paintStrokes) (pc := 190) (len := 3) (k := 1) (n := 3) (c := 16) (as := [.ref (p + 5), .int x1, .int (nI 3)]) (st0 := [.int (nI 3), .int (nI 3), .int x1, .ref (p + 5)]) rfl rfl rfl rfl rfl hp.2.2.2.2.2.2.2.2.1.1 rfl)
theorem b_X1_paintStrokes_168 {C : aCall} {σ : aSt} {p : Nat} {x1 x2 x3 x4 x5 x6 y0 y1 y2 : Int32} {o7 : Option Value} (hp : Pa σ p) : b_R C kX1_paintStrokes [] (168, [some (.ref p), some (.int x1), some (.int x2), some (.int x3), some (.int x4), some (.int x5), some (.int x6), o7], [.int y0, .int y1, .int y2, .ref (p + 5)], σ) = b_G C kX1_paintStrokes [] 168 171 [some (.ref p), some (.int x1), some (.int x2), some (.int x3), some (.int x4), some (.int x5), some (.int x6), o7] [] (C 2 [.ref (p + 5), .int y2, .int y1, .int y0] σ) := by
  exact (e_callV (σ := σ) (code := kX1_paintStrokes) (pc := 168) (len := 3) (k := 2) (n := 4) (c := 16) (as := [.ref (p + 5), .int y2, .int y1, .int y0]) (st0 := []) rfl rfl rfl rfl rfl hp.2.2.2.2.2.2.2.2.1.1 rfl)
theorem b_X1_paintStrokes_171 {C : aCall} {σ : aSt} {p : Nat} {x1 x2 x3 x4 x5 x6 : Int32} {o7 : Option Value} : b_R C kX1_paintStrokes [] (171, [some (.ref p), some (.int x1), some (.int x2), some (.int x3), some (.int x4), some (.int x5), some (.int x6), o7], [], σ) = b_R C kX1_paintStrokes [] (148, [some (.ref p), some (.int x1), some (.int x2), some (.int x3), some (.int x4), some (.int x5), some (.int (x6 + nI 1)), o7], [], σ) := by
  refine (e_iinc (code := kX1_paintStrokes) (pc := 171) rfl rfl rfl rfl).trans ?_
  refine (e_goto (code := kX1_paintStrokes) (pc := 174) rfl).trans ?_
  rfl
theorem b_X1_paintStrokes_193 {C : aCall} {σ : aSt} {p : Nat} {x1 x2 x3 x4 x5 x6 y0 y1 y2 y3 : Int32} {o7 : Option Value} : b_R C kX1_paintStrokes [] (193, [some (.ref p), some (.int x1), some (.int x2), some (.int x3), some (.int x4), some (.int x5), some (.int x6), o7], [.int y0, .int y1, .int y2, .int y3, .ref (p + 5)], σ) = b_G C kX1_paintStrokes [] 195 198 [some (.ref p), some (.int x1), some (.int x2), some (.int x3), some (.int x4), some (.int x5), some (.int x6), o7] [.int y2, .int y3, .ref (p + 5)] (C 1000 [.int y1, .int (y0 + (nI 1))] σ) := by
  refine (e_iconst (code := kX1_paintStrokes) (pc := 193) rfl).trans ?_
  refine (e_iadd (code := kX1_paintStrokes) (pc := 194) rfl).trans ?_
  exact (e_callS (code := kX1_paintStrokes) (pc := 195) (len := 3) (k := 1000) (n := 2) (as := [.int y1, .int (y0 + (nI 1))]) (st0 := [.int y2, .int y3, .ref (p + 5)]) rfl rfl rfl rfl)
theorem b_X1_paintStrokes_198 {C : aCall} {σ : aSt} {p : Nat} {x1 x2 x3 x4 x5 x6 y0 y1 y2 : Int32} {o7 : Option Value} (hp : Pa σ p) : b_R C kX1_paintStrokes [] (198, [some (.ref p), some (.int x1), some (.int x2), some (.int x3), some (.int x4), some (.int x5), some (.int x6), o7], [.int y0, .int y1, .int y2, .ref (p + 5)], σ) = b_G C kX1_paintStrokes [] 198 201 [some (.ref p), some (.int x1), some (.int x2), some (.int x3), some (.int x4), some (.int x5), some (.int x6), o7] [] (C 2 [.ref (p + 5), .int y2, .int y1, .int y0] σ) := by
  exact (e_callV (σ := σ) (code := kX1_paintStrokes) (pc := 198) (len := 3) (k := 2) (n := 4) (c := 16) (as := [.ref (p + 5), .int y2, .int y1, .int y0]) (st0 := []) rfl rfl rfl rfl rfl hp.2.2.2.2.2.2.2.2.1.1 rfl)
theorem b_X1_paintStrokes_201 {C : aCall} {σ : aSt} {p : Nat} {x1 x2 x3 x4 x5 x6 : Int32} {o7 : Option Value} : b_R C kX1_paintStrokes [] (201, [some (.ref p), some (.int x1), some (.int x2), some (.int x3), some (.int x4), some (.int x5), some (.int x6), o7], [], σ) = some (.inl (some (.int x4)), σ) := by
  refine (e_iload (code := kX1_paintStrokes) (pc := 201) rfl rfl).trans ?_
  exact e_ireturn rfl
theorem n_X1_cleanBrush {P : aCall} {d : Nat} {σ : aSt} {p : Nat} {x1 : Int32} (hd : 1 ≤ d) : a_call a_tab P d 51 [.ref p, .int x1] σ = b_R (a_call a_tab P (d - 1)) kX1_cleanBrush [] (0, [some (.ref p), some (.int x1), none], [], σ) := e_call hd at_X1_cleanBrush rfl
theorem b_X1_cleanBrush_0 {C : aCall} {σ : aSt} {p : Nat} {x1 : Int32} (hp : Pa σ p) : b_R C kX1_cleanBrush [] (0, [some (.ref p), some (.int x1), none], [], σ) = b_G C kX1_cleanBrush [] 6 9 [some (.ref p), some (.int x1), none] [] (C 1 [.ref (p + 5), .int x1, .int (nI 3)] σ) := by
  refine (e_aload_n (code := kX1_cleanBrush) (pc := 0) rfl rfl).trans ?_
  refine (e_getR (code := kX1_cleanBrush) (pc := 1) (c := 3) rfl hp.1 hp.2.2.2.2.1).trans ?_
  refine (e_iload_n (code := kX1_cleanBrush) (pc := 4) rfl rfl).trans ?_
  refine (e_iconst (code := kX1_cleanBrush) (pc := 5) rfl).trans ?_
  exact (e_callV (σ := σ) (code := kX1_cleanBrush) (pc := 6) (len := 3) (k := 1) (n := 3) (c := 16) (as := [.ref (p + 5), .int x1, .int (nI 3)]) (st0 := []) rfl rfl rfl rfl rfl hp.2.2.2.2.2.2.2.2.1.1 rfl)
theorem b_X1_cleanBrush_9 {C : aCall} {σ : aSt} {p : Nat} {x1 y0 : Int32} (hp : Pa σ p) : b_R C kX1_cleanBrush [] (9, [some (.ref p), some (.int x1), none], [.int y0], σ) = (if (a_I σ p 6) < (nI 5) then b_R C kX1_cleanBrush [] (33, [some (.ref p), some (.int x1), some (.int y0)], [.int (nI 0), .int (nI 3), .int x1, .ref (p + 5)], σ) else b_G C kX1_cleanBrush [] 30 33 [some (.ref p), some (.int x1), some (.int y0)] [.int (nI 3), .int x1, .ref (p + 5)] (C 1000 [.int (nI 1), .int y0] σ)) := by
  refine (e_istore_n (code := kX1_cleanBrush) (pc := 9) rfl rfl rfl).trans ?_
  refine (e_aload_n (code := kX1_cleanBrush) (pc := 10) rfl rfl).trans ?_
  refine (e_getR (code := kX1_cleanBrush) (pc := 11) (c := 3) rfl hp.1 hp.2.2.2.2.1).trans ?_
  refine (e_iload_n (code := kX1_cleanBrush) (pc := 14) rfl rfl).trans ?_
  refine (e_iconst (code := kX1_cleanBrush) (pc := 15) rfl).trans ?_
  refine (e_aload_n (code := kX1_cleanBrush) (pc := 16) rfl rfl).trans ?_
  refine (e_getI (code := kX1_cleanBrush) (pc := 17) (c := 3) rfl hp.1 rfl).trans ?_
  refine (e_iconst (code := kX1_cleanBrush) (pc := 20) rfl).trans ?_
  refine (e_icge (code := kX1_cleanBrush) (pc := 21) rfl).trans ?_
  refine b_ite ?_ ?_
  · refine (e_iconst (code := kX1_cleanBrush) (pc := 24) rfl).trans ?_
    refine (e_goto (code := kX1_cleanBrush) (pc := 25) rfl).trans ?_
    rfl
  · refine (e_iconst (code := kX1_cleanBrush) (pc := 28) rfl).trans ?_
    refine (e_iload_n (code := kX1_cleanBrush) (pc := 29) rfl rfl).trans ?_
    exact (e_callS (code := kX1_cleanBrush) (pc := 30) (len := 3) (k := 1000) (n := 2) (as := [.int (nI 1), .int y0]) (st0 := [.int (nI 3), .int x1, .ref (p + 5)]) rfl rfl rfl rfl)
theorem b_X1_cleanBrush_33 {C : aCall} {σ : aSt} {p : Nat} {x1 x2 y0 y1 y2 : Int32} (hp : Pa σ p) : b_R C kX1_cleanBrush [] (33, [some (.ref p), some (.int x1), some (.int x2)], [.int y0, .int y1, .int y2, .ref (p + 5)], σ) = b_G C kX1_cleanBrush [] 33 36 [some (.ref p), some (.int x1), some (.int x2)] [] (C 2 [.ref (p + 5), .int y2, .int y1, .int y0] σ) := by
  exact (e_callV (σ := σ) (code := kX1_cleanBrush) (pc := 33) (len := 3) (k := 2) (n := 4) (c := 16) (as := [.ref (p + 5), .int y2, .int y1, .int y0]) (st0 := []) rfl rfl rfl rfl rfl hp.2.2.2.2.2.2.2.2.1.1 rfl)
theorem b_X1_cleanBrush_36 {C : aCall} {σ : aSt} {p : Nat} {x1 x2 : Int32} (hp : Pa σ p) : b_R C kX1_cleanBrush [] (36, [some (.ref p), some (.int x1), some (.int x2)], [], σ) = b_G C kX1_cleanBrush [] 45 48 [some (.ref p), some (.int x1), some (.int x2)] [.ref p] (C 1000 [.int (nI 9), .int ((a_I σ p 6) + x2)] σ) := by
  refine (e_aload_n (code := kX1_cleanBrush) (pc := 36) rfl rfl).trans ?_
  refine (e_bipush (code := kX1_cleanBrush) (pc := 37) rfl).trans ?_
  refine (e_aload_n (code := kX1_cleanBrush) (pc := 39) rfl rfl).trans ?_
  refine (e_getI (code := kX1_cleanBrush) (pc := 40) (c := 3) rfl hp.1 rfl).trans ?_
  refine (e_iload_n (code := kX1_cleanBrush) (pc := 43) rfl rfl).trans ?_
  refine (e_iadd (code := kX1_cleanBrush) (pc := 44) rfl).trans ?_
  exact (e_callS (code := kX1_cleanBrush) (pc := 45) (len := 3) (k := 1000) (n := 2) (as := [.int (nI 9), .int ((a_I σ p 6) + x2)]) (st0 := [.ref p]) rfl rfl rfl rfl)
theorem b_X1_cleanBrush_48 {C : aCall} {σ : aSt} {p : Nat} {x1 x2 y0 : Int32} (hp : Pa σ p) : b_R C kX1_cleanBrush [] (48, [some (.ref p), some (.int x1), some (.int x2)], [.int y0, .ref p], σ) = some (.inl (some (.int (a_I (a_setI σ p 6 y0) p 6))), (a_setI σ p 6 y0)) := by
  refine (e_putI (code := kX1_cleanBrush) (pc := 48) (c := 3) rfl hp.1 hp.2.1).trans ?_
  refine (e_aload_n (code := kX1_cleanBrush) (pc := 51) (σ := (a_setI σ p 6 y0)) rfl rfl).trans ?_
  refine (e_getI (code := kX1_cleanBrush) (pc := 52) (σ := (a_setI σ p 6 y0)) (c := 3) rfl hp.1 rfl).trans ?_
  exact e_ireturn rfl
theorem n_X0_init {P : aCall} {d : Nat} {σ : aSt} {a0 : Nat} (hd : 1 ≤ d) : a_call a_tab P d 52 [.ref a0] σ = b_R (a_call a_tab P (d - 1)) kX0_init [] (0, [some (.ref a0), none], [], σ) := e_call hd at_X0_init rfl
theorem b_X0_init_0 {C : aCall} {σ : aSt} {a0 : Nat} (hk0 : a_kd (a_new σ 4 10 10) a0 = 12) (hn1 : 100 ≤ a0) : b_R C kX0_init [] (0, [some (.ref a0), none], [], σ) = b_R C kX0_init [] (13, [some (.ref a0), none], [], (a_setR (a_new σ 4 10 10) a0 0 (some (a_n σ)))) := by
  refine (e_aload_n (code := kX0_init) (pc := 0) rfl rfl).trans ?_
  refine (e_objInit (code := kX0_init) (pc := 1) rfl rfl).trans ?_
  refine (e_aload_n (code := kX0_init) (pc := 4) rfl rfl).trans ?_
  refine (e_bipush (code := kX0_init) (pc := 5) rfl).trans ?_
  refine (e_anewarray (code := kX0_init) (pc := 7) (m := 10) rfl (by decide) (by decide) (Nat.le_of_ble_eq_true rfl)).trans ?_
  refine (e_putR (code := kX0_init) (pc := 10) (σ := (a_new σ 4 10 10)) (c := 2) rfl hk0 hn1).trans ?_
  rfl
theorem b_X0_init_13 {C : aCall} {σ : aSt} {a0 : Nat} : b_R C kX0_init [] (13, [some (.ref a0), none], [], σ) = b_R C kX0_init [] (15, [some (.ref a0), some (.int (nI 0))], [], σ) := by
  refine (e_iconst (code := kX0_init) (pc := 13) rfl).trans ?_
  refine (e_istore_n (code := kX0_init) (pc := 14) rfl rfl rfl).trans ?_
  rfl
theorem b_X0_init_15 {C : aCall} {σ : aSt} {r1 N2 r6 a0 : Nat} {x1 : Int32} (hk0 : a_kd σ a0 = 12) (hr1 : a_R σ a0 0 = some r1) (hl2 : a_ln σ r1 = N2) (hs2 : N2 < 2147483648) (hq4 : Nat.ble 1 (a_kd σ r1) = true ∧ Nat.ble (a_kd σ r1) 5 = true) (hk5 : a_kd σ a0 = 12) (hr6 : a_R σ a0 0 = some r6) : b_R C kX0_init [] (15, [some (.ref a0), some (.int x1)], [], σ) = (if x1 < (nI N2) then b_G C kX0_init [] 33 36 [some (.ref a0), some (.int x1)] [.ref (a_n σ), .int x1, .ref r6] (C 32 [.ref (a_n σ)] (a_new σ 13 7 7)) else some (.inl none, σ)) := by
  refine (e_iload_n (code := kX0_init) (pc := 15) rfl rfl).trans ?_
  refine (e_aload_n (code := kX0_init) (pc := 16) rfl rfl).trans ?_
  refine (e_getR (code := kX0_init) (pc := 17) (c := 2) rfl hk0 hr1).trans ?_
  refine (e_alen (code := kX0_init) (pc := 20) rfl hq4 hl2 hs2).trans ?_
  refine (e_icge (code := kX0_init) (pc := 21) rfl).trans ?_
  refine b_ite ?_ ?_
  · refine (e_aload_n (code := kX0_init) (pc := 24) rfl rfl).trans ?_
    refine (e_getR (code := kX0_init) (pc := 25) (c := 2) rfl hk5 hr6).trans ?_
    refine (e_iload_n (code := kX0_init) (pc := 28) rfl rfl).trans ?_
    refine (e_new (code := kX0_init) (pc := 29) rfl).trans ?_
    refine (e_dup (code := kX0_init) (pc := 32) (σ := (a_new σ 13 7 7)) rfl rfl).trans ?_
    exact (e_callI (code := kX0_init) (pc := 33) (len := 3) (k := 32) (n := 1) (as := [.ref (a_n σ)]) (st0 := [.ref (a_n σ), .int x1, .ref r6]) rfl rfl rfl rfl rfl rfl)
  · exact e_return_ rfl
theorem b_X0_init_36 {C : aCall} {σ : aSt} {N0 a0 g0 r6 : Nat} {x1 y1 : Int32} (hl0 : a_ln σ r6 = N0) (hs0 : N0 < 2147483648) (hk2 : (a_kd σ r6 = 3 ∧ a_kd σ g0 = 6) ∨ (a_kd σ r6 = 4 ∧ a_kd σ g0 = 13)) (hn3 : 100 ≤ r6) : b_R C kX0_init [] (36, [some (.ref a0), some (.int x1)], [.ref g0, .int y1, .ref r6], σ) = b_gd (a_in y1 N0) (b_R C kX0_init [] (15, [some (.ref a0), some (.int (x1 + nI 1))], [], (a_setR σ r6 (Int32.toNatClampNeg y1) (some g0)))) := by
  refine (e_aastore (code := kX0_init) (pc := 36) rfl hk2 hn3 hl0).trans ?_
  refine b_gd_c ?_
  refine (e_iinc (code := kX0_init) (pc := 37) (σ := (a_setR σ r6 (Int32.toNatClampNeg y1) (some g0))) rfl rfl rfl rfl).trans ?_
  refine (e_goto (code := kX0_init) (pc := 40) (σ := (a_setR σ r6 (Int32.toNatClampNeg y1) (some g0))) rfl).trans ?_
  rfl
theorem n_X0_slot {P : aCall} {d : Nat} {σ : aSt} {x1 : Int32} (hd : 1 ≤ d) : a_call a_tab P d 53 [.ref 128, .int x1] σ = b_R (a_call a_tab P (d - 1)) kX0_slot [] (0, [some (.ref 128), some (.int x1)], [], σ) := e_call hd at_X0_slot rfl
theorem b_X0_slot_0 {C : aCall} {σ : aSt} {q : Nat} {x1 : Int32} (h : Sh σ) (hr_q : a_R σ 129 (Int32.toNatClampNeg x1) = some q) : b_R C kX0_slot [] (0, [some (.ref 128), some (.int x1)], [], σ) = (if x1 < 0 then b_R C kX0_slot [] (22, [some (.ref 128), some (.int x1)], [], σ) else (if x1 < (nI 10) then b_gd (a_in x1 10) (b_R C kX0_slot [] (23, [some (.ref 128), some (.int x1)], [.ref q], σ)) else b_R C kX0_slot [] (22, [some (.ref 128), some (.int x1)], [], σ))) := by
  refine (e_iload_n (code := kX0_slot) (pc := 0) rfl rfl).trans ?_
  refine (e_iflt (code := kX0_slot) (pc := 1) rfl).trans ?_
  refine b_ite ?_ ?_
  · rfl
  · refine (e_iload_n (code := kX0_slot) (pc := 4) rfl rfl).trans ?_
    refine (e_aload_n (code := kX0_slot) (pc := 5) rfl rfl).trans ?_
    refine (e_getR (code := kX0_slot) (pc := 6) (c := 2) rfl (sk_128 (σ := σ) h) (sr_128_0 (σ := σ) h)).trans ?_
    refine (e_alen (code := kX0_slot) (pc := 9) rfl (by rw [show a_kd _ 129 = 4 from (sk_129 (σ := σ) h)]; exact ⟨rfl, rfl⟩) (sl_129 (σ := σ) h) (Nat.le_of_ble_eq_true rfl)).trans ?_
    refine (e_icge (code := kX0_slot) (pc := 10) rfl).trans ?_
    refine b_ite ?_ ?_
    · refine (e_aload_n (code := kX0_slot) (pc := 13) rfl rfl).trans ?_
      refine (e_getR (code := kX0_slot) (pc := 14) (c := 2) rfl (sk_128 (σ := σ) h) (sr_128_0 (σ := σ) h)).trans ?_
      refine (e_iload_n (code := kX0_slot) (pc := 17) rfl rfl).trans ?_
      refine (e_aaload (code := kX0_slot) (pc := 18) rfl (.inr (sk_129 (σ := σ) h)) (sl_129 (σ := σ) h) hr_q).trans ?_
      refine b_gd_c ?_
      refine (e_goto (code := kX0_slot) (pc := 19) rfl).trans ?_
      rfl
    · rfl
theorem b_X0_slot_22 {C : aCall} {σ : aSt} {x1 : Int32} : b_R C kX0_slot [] (22, [some (.ref 128), some (.int x1)], [], σ) = b_R C kX0_slot [] (23, [some (.ref 128), some (.int x1)], [.null], σ) := by
  refine (e_aconst_null (code := kX0_slot) (pc := 22) rfl).trans ?_
  rfl
theorem n_X0_forgetAll {P : aCall} {d : Nat} {σ : aSt} (hd : 1 ≤ d) : a_call a_tab P d 54 [.ref 128] σ = b_R (a_call a_tab P (d - 1)) kX0_forgetAll [] (0, [some (.ref 128)], [], σ) := e_call hd at_X0_forgetAll rfl
theorem b_X0_forgetAll_0 {C : aCall} {σ : aSt} (h : Sh σ) : b_R C kX0_forgetAll [] (0, [some (.ref 128)], [], σ) = some (.inl none, (a_setI σ 128 2 (nI 0))) := by
  refine (e_aload_n (code := kX0_forgetAll) (pc := 0) rfl rfl).trans ?_
  refine (e_iconst (code := kX0_forgetAll) (pc := 1) rfl).trans ?_
  refine (e_putI (code := kX0_forgetAll) (pc := 2) (c := 2) rfl (sk_128 (σ := σ) h) (h_100 rfl)).trans ?_
  exact e_return_ rfl
theorem n_X0_record {P : aCall} {d : Nat} {σ : aSt} {p : Nat} (hd : 1 ≤ d) : a_call a_tab P d 55 [.ref 128, .ref p] σ = b_R (a_call a_tab P (d - 1)) kX0_record [] (0, [some (.ref 128), some (.ref p), none], [], σ) := e_call hd at_X0_record rfl
theorem b_X0_record_0 {C : aCall} {σ : aSt} {p : Nat} (h : Sh σ) : b_R C kX0_record [] (0, [some (.ref 128), some (.ref p), none], [], σ) = b_G C kX0_record [] 5 8 [some (.ref 128), some (.ref p), none] [] (C 53 [.ref 128, .int (a_I σ 128 1)] σ) := by
  refine (e_aload_n (code := kX0_record) (pc := 0) rfl rfl).trans ?_
  refine (e_aload_n (code := kX0_record) (pc := 1) rfl rfl).trans ?_
  refine (e_getI (code := kX0_record) (pc := 2) (c := 2) rfl (sk_128 (σ := σ) h) rfl).trans ?_
  exact (e_callV (σ := σ) (code := kX0_record) (pc := 5) (len := 3) (k := 53) (n := 2) (c := 12) (as := [.ref 128, .int (a_I σ 128 1)]) (st0 := []) rfl rfl rfl rfl rfl (sk_128 (σ := σ) h) rfl)
theorem b_X0_record_8 {C : aCall} {σ : aSt} {q p : Nat} (hq : Pa σ q) : b_R C kX0_record [] (8, [some (.ref 128), some (.ref p), none], [.ref q], σ) = b_G C kX0_record [] 16 19 [some (.ref 128), some (.ref p), some (.ref q)] [] (C 35 [.ref q, .ref p] σ) := by
  refine (e_astore_n (code := kX0_record) (pc := 8) rfl rfl rfl).trans ?_
  refine (e_aload_n (code := kX0_record) (pc := 9) rfl rfl).trans ?_
  refine (e_ifnonnullR (code := kX0_record) (pc := 10) rfl).trans ?_
  refine (e_aload_n (code := kX0_record) (pc := 14) rfl rfl).trans ?_
  refine (e_aload_n (code := kX0_record) (pc := 15) rfl rfl).trans ?_
  exact (e_callV (σ := σ) (code := kX0_record) (pc := 16) (len := 3) (k := 35) (n := 2) (c := 13) (as := [.ref q, .ref p]) (st0 := []) rfl rfl rfl rfl rfl hq.1 rfl)
theorem b_X0_record_19 {C : aCall} {σ : aSt} {p q : Nat} (h : Sh σ) : b_R C kX0_record [] (19, [some (.ref 128), some (.ref p), some (.ref q)], [], σ) = b_G C kX0_record [] 41 44 [some (.ref 128), some (.ref p), some (.ref q)] [.ref 128] (C 1000 [.int (nI 10), .int ((a_I (a_setI σ 128 1 (((a_I σ 128 1) + (nI 1)) - ((a_I σ 128 1) + (nI 1)) / (nI 10) * (nI 10))) 128 2) + (nI 1))] (a_setI σ 128 1 (((a_I σ 128 1) + (nI 1)) - ((a_I σ 128 1) + (nI 1)) / (nI 10) * (nI 10)))) := by
  refine (e_aload_n (code := kX0_record) (pc := 19) rfl rfl).trans ?_
  refine (e_aload_n (code := kX0_record) (pc := 20) rfl rfl).trans ?_
  refine (e_getI (code := kX0_record) (pc := 21) (c := 2) rfl (sk_128 (σ := σ) h) rfl).trans ?_
  refine (e_iconst (code := kX0_record) (pc := 24) rfl).trans ?_
  refine (e_iadd (code := kX0_record) (pc := 25) rfl).trans ?_
  refine (e_bipush (code := kX0_record) (pc := 26) rfl).trans ?_
  refine (e_irem (code := kX0_record) (pc := 28) rfl).trans ((b_gd_t (by decide)).trans ?_)
  refine (e_putI (code := kX0_record) (pc := 29) (c := 2) rfl (sk_128 (σ := σ) h) (h_100 rfl)).trans ?_
  refine (e_aload_n (code := kX0_record) (pc := 32) (σ := (a_setI σ 128 1 (((a_I σ 128 1) + (nI 1)) - ((a_I σ 128 1) + (nI 1)) / (nI 10) * (nI 10)))) rfl rfl).trans ?_
  refine (e_bipush (code := kX0_record) (pc := 33) (σ := (a_setI σ 128 1 (((a_I σ 128 1) + (nI 1)) - ((a_I σ 128 1) + (nI 1)) / (nI 10) * (nI 10)))) rfl).trans ?_
  refine (e_aload_n (code := kX0_record) (pc := 35) (σ := (a_setI σ 128 1 (((a_I σ 128 1) + (nI 1)) - ((a_I σ 128 1) + (nI 1)) / (nI 10) * (nI 10)))) rfl rfl).trans ?_
  refine (e_getI (code := kX0_record) (pc := 36) (σ := (a_setI σ 128 1 (((a_I σ 128 1) + (nI 1)) - ((a_I σ 128 1) + (nI 1)) / (nI 10) * (nI 10)))) (c := 2) rfl (sk_128 (σ := σ) h) rfl).trans ?_
  refine (e_iconst (code := kX0_record) (pc := 39) (σ := (a_setI σ 128 1 (((a_I σ 128 1) + (nI 1)) - ((a_I σ 128 1) + (nI 1)) / (nI 10) * (nI 10)))) rfl).trans ?_
  refine (e_iadd (code := kX0_record) (pc := 40) (σ := (a_setI σ 128 1 (((a_I σ 128 1) + (nI 1)) - ((a_I σ 128 1) + (nI 1)) / (nI 10) * (nI 10)))) rfl).trans ?_
  exact (e_callS (code := kX0_record) (pc := 41) (len := 3) (k := 1000) (n := 2) (as := [.int (nI 10), .int ((a_I (a_setI σ 128 1 (((a_I σ 128 1) + (nI 1)) - ((a_I σ 128 1) + (nI 1)) / (nI 10) * (nI 10))) 128 2) + (nI 1))]) (st0 := [.ref 128]) rfl rfl rfl rfl)
theorem b_X0_record_44 {C : aCall} {σ : aSt} {p q : Nat} {y0 : Int32} (h : Sh σ) : b_R C kX0_record [] (44, [some (.ref 128), some (.ref p), some (.ref q)], [.int y0, .ref 128], σ) = some (.inl none, (a_setI σ 128 2 y0)) := by
  refine (e_putI (code := kX0_record) (pc := 44) (c := 2) rfl (sk_128 (σ := σ) h) (h_100 rfl)).trans ?_
  exact e_return_ rfl
theorem n_X0_stepBack {P : aCall} {d : Nat} {σ : aSt} {p : Nat} (hd : 1 ≤ d) : a_call a_tab P d 56 [.ref 128, .ref p] σ = b_R (a_call a_tab P (d - 1)) kX0_stepBack [] (0, [some (.ref 128), some (.ref p), none, none], [], σ) := e_call hd at_X0_stepBack rfl
theorem b_X0_stepBack_0 {C : aCall} {σ : aSt} {p : Nat} (h : Sh σ) : b_R C kX0_stepBack [] (0, [some (.ref 128), some (.ref p), none, none], [], σ) = b_G C kX0_stepBack [] 15 18 [some (.ref 128), some (.ref p), some (.int ((((a_I σ 128 1) + (nI 10)) - (nI 1)) - (((a_I σ 128 1) + (nI 10)) - (nI 1)) / (nI 10) * (nI 10))), none] [] (C 53 [.ref 128, .int ((((a_I σ 128 1) + (nI 10)) - (nI 1)) - (((a_I σ 128 1) + (nI 10)) - (nI 1)) / (nI 10) * (nI 10))] σ) := by
  refine (e_aload_n (code := kX0_stepBack) (pc := 0) rfl rfl).trans ?_
  refine (e_getI (code := kX0_stepBack) (pc := 1) (c := 2) rfl (sk_128 (σ := σ) h) rfl).trans ?_
  refine (e_bipush (code := kX0_stepBack) (pc := 4) rfl).trans ?_
  refine (e_iadd (code := kX0_stepBack) (pc := 6) rfl).trans ?_
  refine (e_iconst (code := kX0_stepBack) (pc := 7) rfl).trans ?_
  refine (e_isub (code := kX0_stepBack) (pc := 8) rfl).trans ?_
  refine (e_bipush (code := kX0_stepBack) (pc := 9) rfl).trans ?_
  refine (e_irem (code := kX0_stepBack) (pc := 11) rfl).trans ((b_gd_t (by decide)).trans ?_)
  refine (e_istore_n (code := kX0_stepBack) (pc := 12) rfl rfl rfl).trans ?_
  refine (e_aload_n (code := kX0_stepBack) (pc := 13) rfl rfl).trans ?_
  refine (e_iload_n (code := kX0_stepBack) (pc := 14) rfl rfl).trans ?_
  exact (e_callV (σ := σ) (code := kX0_stepBack) (pc := 15) (len := 3) (k := 53) (n := 2) (c := 12) (as := [.ref 128, .int ((((a_I σ 128 1) + (nI 10)) - (nI 1)) - (((a_I σ 128 1) + (nI 10)) - (nI 1)) / (nI 10) * (nI 10))]) (st0 := []) rfl rfl rfl rfl rfl (sk_128 (σ := σ) h) rfl)
theorem b_X0_stepBack_18 {C : aCall} {σ : aSt} {p q : Nat} {x2 : Int32} (h : Sh σ) (hp : Pa σ p) : b_R C kX0_stepBack [] (18, [some (.ref 128), some (.ref p), some (.int x2), none], [.ref q], σ) = (if (a_I σ 128 2) = 0 then b_R C kX0_stepBack [] (30, [some (.ref 128), some (.ref p), some (.int x2), some (.ref q)], [], σ) else b_G C kX0_stepBack [] 34 37 [some (.ref 128), some (.ref p), some (.int x2), some (.ref q)] [] (C 35 [.ref p, .ref q] σ)) := by
  refine (e_astore_n (code := kX0_stepBack) (pc := 18) rfl rfl rfl).trans ?_
  refine (e_aload_n (code := kX0_stepBack) (pc := 19) rfl rfl).trans ?_
  refine (e_getI (code := kX0_stepBack) (pc := 20) (c := 2) rfl (sk_128 (σ := σ) h) rfl).trans ?_
  refine (e_ifeq (code := kX0_stepBack) (pc := 23) rfl).trans ?_
  refine b_ite ?_ ?_
  · rfl
  · refine (e_aload_n (code := kX0_stepBack) (pc := 26) rfl rfl).trans ?_
    refine (e_ifnonnullR (code := kX0_stepBack) (pc := 27) rfl).trans ?_
    refine (e_aload_n (code := kX0_stepBack) (pc := 32) rfl rfl).trans ?_
    refine (e_aload_n (code := kX0_stepBack) (pc := 33) rfl rfl).trans ?_
    exact (e_callV (σ := σ) (code := kX0_stepBack) (pc := 34) (len := 3) (k := 35) (n := 2) (c := 13) (as := [.ref p, .ref q]) (st0 := []) rfl rfl rfl rfl rfl hp.1 rfl)
theorem b_X0_stepBack_30 {C : aCall} {σ : aSt} {p q : Nat} {x2 : Int32} : b_R C kX0_stepBack [] (30, [some (.ref 128), some (.ref p), some (.int x2), some (.ref q)], [], σ) = some (.inl (some (.int (nI 0))), σ) := by
  refine (e_iconst (code := kX0_stepBack) (pc := 30) rfl).trans ?_
  exact (e_zreturn rfl).trans (b_gd_t (by decide))
theorem b_X0_stepBack_37 {C : aCall} {σ : aSt} {p q : Nat} {x2 : Int32} (h : Sh σ) : b_R C kX0_stepBack [] (37, [some (.ref 128), some (.ref p), some (.int x2), some (.ref q)], [], σ) = some (.inl (some (.int (nI 1))), (a_setI (a_setI σ 128 1 x2) 128 2 ((a_I (a_setI σ 128 1 x2) 128 2) - (nI 1)))) := by
  refine (e_aload_n (code := kX0_stepBack) (pc := 37) rfl rfl).trans ?_
  refine (e_iload_n (code := kX0_stepBack) (pc := 38) rfl rfl).trans ?_
  refine (e_putI (code := kX0_stepBack) (pc := 39) (c := 2) rfl (sk_128 (σ := σ) h) (h_100 rfl)).trans ?_
  refine (e_aload_n (code := kX0_stepBack) (pc := 42) (σ := (a_setI σ 128 1 x2)) rfl rfl).trans ?_
  refine (e_dup (code := kX0_stepBack) (pc := 43) (σ := (a_setI σ 128 1 x2)) rfl rfl).trans ?_
  refine (e_getI (code := kX0_stepBack) (pc := 44) (σ := (a_setI σ 128 1 x2)) (c := 2) rfl (sk_128 (σ := σ) h) rfl).trans ?_
  refine (e_iconst (code := kX0_stepBack) (pc := 47) (σ := (a_setI σ 128 1 x2)) rfl).trans ?_
  refine (e_isub (code := kX0_stepBack) (pc := 48) (σ := (a_setI σ 128 1 x2)) rfl).trans ?_
  refine (e_putI (code := kX0_stepBack) (pc := 49) (σ := (a_setI σ 128 1 x2)) (c := 2) rfl (sk_128 (σ := σ) h) (h_100 rfl)).trans ?_
  refine (e_iconst (code := kX0_stepBack) (pc := 52) (σ := (a_setI (a_setI σ 128 1 x2) 128 2 ((a_I (a_setI σ 128 1 x2) 128 2) - (nI 1)))) rfl).trans ?_
  exact (e_zreturn rfl).trans (b_gd_t (by decide))
