/-! equations of the blocks, by program (wip/whole/tools/gen21.py) -/
theorem n_X6_init {P : aCall} {d : Nat} {σ : aSt} {a0 : Nat} (hd : 1 ≤ d) : a_call a_tab P d 13 [.ref a0] σ = b_R (a_call a_tab P (d - 1)) kX6_init [] (0, [some (.ref a0)], [], σ) := e_call hd at_X6_init rfl
theorem b_X6_init_0 {C : aCall} {σ : aSt} {a0 : Nat} (hk0 : a_kd (a_new σ 1 900 900) a0 = 18) (hn1 : 100 ≤ a0) : b_R C kX6_init [] (0, [some (.ref a0)], [], σ) = b_R C kX6_init [] (13, [some (.ref a0)], [], (a_setR (a_new σ 1 900 900) a0 0 (some (a_n σ)))) := by
  refine (e_aload_n (code := kX6_init) (pc := 0) rfl rfl).trans ?_
  refine (e_objInit (code := kX6_init) (pc := 1) rfl rfl).trans ?_
  refine (e_aload_n (code := kX6_init) (pc := 4) rfl rfl).trans ?_
  refine (e_sipush (code := kX6_init) (pc := 5) rfl).trans ?_
  refine (e_newarray (code := kX6_init) (pc := 8) (m := 900) rfl (by decide) (by decide) (Nat.le_of_ble_eq_true rfl)).trans ?_
  refine (e_putR (code := kX6_init) (pc := 10) (σ := (a_new σ 1 900 900)) (c := 8) rfl hk0 hn1).trans ?_
  rfl
theorem b_X6_init_13 {C : aCall} {σ : aSt} {a0 : Nat} (hk0 : a_kd (a_new σ 1 8 8) a0 = 18) (hn1 : 100 ≤ a0) : b_R C kX6_init [] (13, [some (.ref a0)], [], σ) = b_R C kX6_init [] (21, [some (.ref a0)], [], (a_setR (a_new σ 1 8 8) a0 7 (some (a_n σ)))) := by
  refine (e_aload_n (code := kX6_init) (pc := 13) rfl rfl).trans ?_
  refine (e_bipush (code := kX6_init) (pc := 14) rfl).trans ?_
  refine (e_newarray (code := kX6_init) (pc := 16) (m := 8) rfl (by decide) (by decide) (Nat.le_of_ble_eq_true rfl)).trans ?_
  refine (e_putR (code := kX6_init) (pc := 18) (σ := (a_new σ 1 8 8)) (c := 8) rfl hk0 hn1).trans ?_
  rfl
theorem b_X6_init_21 {C : aCall} {σ : aSt} {a0 : Nat} (hk0 : a_kd σ a0 = 18) (hn1 : 100 ≤ a0) : b_R C kX6_init [] (21, [some (.ref a0)], [], σ) = b_R C kX6_init [] (26, [some (.ref a0)], [], (a_setI σ a0 9 ((-1)))) := by
  refine (e_aload_n (code := kX6_init) (pc := 21) rfl rfl).trans ?_
  refine (e_iconst (code := kX6_init) (pc := 22) rfl).trans ?_
  refine (e_putI (code := kX6_init) (pc := 23) (c := 8) rfl hk0 hn1).trans ?_
  rfl
theorem b_X6_init_26 {C : aCall} {σ : aSt} {a0 : Nat} : b_R C kX6_init [] (26, [some (.ref a0)], [], σ) = some (.inl none, σ) := by
  exact e_return_ rfl
theorem n_X6_hasRoom {P : aCall} {d : Nat} {σ : aSt} {x1 : Int32} (hd : 1 ≤ d) : a_call a_tab P d 14 [.ref 220, .int x1] σ = b_R (a_call a_tab P (d - 1)) kX6_hasRoom [] (0, [some (.ref 220), some (.int x1)], [], σ) := e_call hd at_X6_hasRoom rfl
theorem b_X6_hasRoom_0 {C : aCall} {σ : aSt} {x1 : Int32} (h : Sh σ) : b_R C kX6_hasRoom [] (0, [some (.ref 220), some (.int x1)], [], σ) = (if (nI 900) < ((a_I σ 220 1) + x1) then b_R C kX6_hasRoom [] (17, [some (.ref 220), some (.int x1)], [.int (nI 0)], σ) else b_R C kX6_hasRoom [] (17, [some (.ref 220), some (.int x1)], [.int (nI 1)], σ)) := by
  refine (e_aload_n (code := kX6_hasRoom) (pc := 0) rfl rfl).trans ?_
  refine (e_getI (code := kX6_hasRoom) (pc := 1) (c := 8) rfl (sk_220 (σ := σ) h) rfl).trans ?_
  refine (e_iload_n (code := kX6_hasRoom) (pc := 4) rfl rfl).trans ?_
  refine (e_iadd (code := kX6_hasRoom) (pc := 5) rfl).trans ?_
  refine (e_sipush (code := kX6_hasRoom) (pc := 6) rfl).trans ?_
  refine (e_icgt (code := kX6_hasRoom) (pc := 9) rfl).trans ?_
  refine b_ite ?_ ?_
  · refine (e_iconst (code := kX6_hasRoom) (pc := 16) rfl).trans ?_
    rfl
  · refine (e_iconst (code := kX6_hasRoom) (pc := 12) rfl).trans ?_
    refine (e_goto (code := kX6_hasRoom) (pc := 13) rfl).trans ?_
    rfl
theorem b_X6_hasRoom_17 {C : aCall} {σ : aSt} {x1 y0 : Int32} : b_R C kX6_hasRoom [] (17, [some (.ref 220), some (.int x1)], [.int y0], σ) = b_gd (y0 = 0 ∨ y0 = 1) (some (.inl (some (.int y0)), σ)) := by
  exact e_zreturn rfl
theorem n_X6_append {P : aCall} {d : Nat} {σ : aSt} {x1 : Int32} (hd : 1 ≤ d) : a_call a_tab P d 15 [.ref 220, .int x1] σ = b_R (a_call a_tab P (d - 1)) kX6_append [] (0, [some (.ref 220), some (.int x1), none], [], σ) := e_call hd at_X6_append rfl
theorem b_X6_append_0 {C : aCall} {σ : aSt} {x1 : Int32} : b_R C kX6_append [] (0, [some (.ref 220), some (.int x1), none], [], σ) = b_R C kX6_append [] (3, [some (.ref 220), some (.int x1), some (.int (nI 24))], [], σ) := by
  refine (e_bipush (code := kX6_append) (pc := 0) rfl).trans ?_
  refine (e_istore_n (code := kX6_append) (pc := 2) rfl rfl rfl).trans ?_
  rfl
theorem b_X6_append_3 {C : aCall} {σ : aSt} {x1 x2 : Int32} (h : Sh σ) : b_R C kX6_append [] (3, [some (.ref 220), some (.int x1), some (.int x2)], [], σ) = (if x2 < 0 then some (.inl none, σ) else (if (a_I σ 220 1) < 0 then b_R C kX6_append [] (52, [some (.ref 220), some (.int x1), some (.int x2)], [], σ) else (if (a_I σ 220 1) < (nI 900) then b_gd (a_in (a_I σ 220 1) 900) (b_R C kX6_append [] (52, [some (.ref 220), some (.int x1), some (.int x2)], [], (a_setI (a_setI σ 221 (Int32.toNatClampNeg (a_I σ 220 1)) ((x1 >>> (x2 &&& 31)) &&& (nI 255))) 220 1 ((a_I (a_setI σ 221 (Int32.toNatClampNeg (a_I σ 220 1)) ((x1 >>> (x2 &&& 31)) &&& (nI 255))) 220 1) + (nI 1))))) else b_R C kX6_append [] (52, [some (.ref 220), some (.int x1), some (.int x2)], [], σ)))) := by
  refine (e_iload_n (code := kX6_append) (pc := 3) rfl rfl).trans ?_
  refine (e_iflt (code := kX6_append) (pc := 4) rfl).trans ?_
  refine b_ite ?_ ?_
  · exact e_return_ rfl
  · refine (e_aload_n (code := kX6_append) (pc := 7) rfl rfl).trans ?_
    refine (e_getI (code := kX6_append) (pc := 8) (c := 8) rfl (sk_220 (σ := σ) h) rfl).trans ?_
    refine (e_iflt (code := kX6_append) (pc := 11) rfl).trans ?_
    refine b_ite ?_ ?_
    · rfl
    · refine (e_aload_n (code := kX6_append) (pc := 14) rfl rfl).trans ?_
      refine (e_getI (code := kX6_append) (pc := 15) (c := 8) rfl (sk_220 (σ := σ) h) rfl).trans ?_
      refine (e_aload_n (code := kX6_append) (pc := 18) rfl rfl).trans ?_
      refine (e_getR (code := kX6_append) (pc := 19) (c := 8) rfl (sk_220 (σ := σ) h) (sr_220_0 (σ := σ) h)).trans ?_
      refine (e_alen (code := kX6_append) (pc := 22) rfl (by rw [show a_kd _ 221 = 1 from (sk_221 (σ := σ) h)]; exact ⟨rfl, rfl⟩) (sl_221 (σ := σ) h) (Nat.le_of_ble_eq_true rfl)).trans ?_
      refine (e_icge (code := kX6_append) (pc := 23) rfl).trans ?_
      refine b_ite ?_ ?_
      · refine (e_aload_n (code := kX6_append) (pc := 26) rfl rfl).trans ?_
        refine (e_getR (code := kX6_append) (pc := 27) (c := 8) rfl (sk_220 (σ := σ) h) (sr_220_0 (σ := σ) h)).trans ?_
        refine (e_aload_n (code := kX6_append) (pc := 30) rfl rfl).trans ?_
        refine (e_getI (code := kX6_append) (pc := 31) (c := 8) rfl (sk_220 (σ := σ) h) rfl).trans ?_
        refine (e_iload_n (code := kX6_append) (pc := 34) rfl rfl).trans ?_
        refine (e_iload_n (code := kX6_append) (pc := 35) rfl rfl).trans ?_
        refine (e_ishr (code := kX6_append) (pc := 36) rfl).trans ?_
        refine (e_sipush (code := kX6_append) (pc := 37) rfl).trans ?_
        refine (e_iand (code := kX6_append) (pc := 40) rfl).trans ?_
        refine (e_iastore (code := kX6_append) (pc := 41) rfl (sk_221 (σ := σ) h) (h_100 rfl) (sl_221 (σ := σ) h)).trans ?_
        refine b_gd_c ?_
        refine (e_aload_n (code := kX6_append) (pc := 42) (σ := (a_setI σ 221 (Int32.toNatClampNeg (a_I σ 220 1)) ((x1 >>> (x2 &&& 31)) &&& (nI 255)))) rfl rfl).trans ?_
        refine (e_dup (code := kX6_append) (pc := 43) (σ := (a_setI σ 221 (Int32.toNatClampNeg (a_I σ 220 1)) ((x1 >>> (x2 &&& 31)) &&& (nI 255)))) rfl rfl).trans ?_
        refine (e_getI (code := kX6_append) (pc := 44) (σ := (a_setI σ 221 (Int32.toNatClampNeg (a_I σ 220 1)) ((x1 >>> (x2 &&& 31)) &&& (nI 255)))) (c := 8) rfl (sk_220 (σ := σ) h) rfl).trans ?_
        refine (e_iconst (code := kX6_append) (pc := 47) (σ := (a_setI σ 221 (Int32.toNatClampNeg (a_I σ 220 1)) ((x1 >>> (x2 &&& 31)) &&& (nI 255)))) rfl).trans ?_
        refine (e_iadd (code := kX6_append) (pc := 48) (σ := (a_setI σ 221 (Int32.toNatClampNeg (a_I σ 220 1)) ((x1 >>> (x2 &&& 31)) &&& (nI 255)))) rfl).trans ?_
        refine (e_putI (code := kX6_append) (pc := 49) (σ := (a_setI σ 221 (Int32.toNatClampNeg (a_I σ 220 1)) ((x1 >>> (x2 &&& 31)) &&& (nI 255)))) (c := 8) rfl (sk_220 (σ := σ) h) (h_100 rfl)).trans ?_
        rfl
      · rfl
theorem b_X6_append_52 {C : aCall} {σ : aSt} {x1 x2 : Int32} : b_R C kX6_append [] (52, [some (.ref 220), some (.int x1), some (.int x2)], [], σ) = b_R C kX6_append [] (3, [some (.ref 220), some (.int x1), some (.int (x2 + (-8)))], [], σ) := by
  refine (e_iinc (code := kX6_append) (pc := 52) rfl rfl rfl rfl).trans ?_
  refine (e_goto (code := kX6_append) (pc := 55) rfl).trans ?_
  rfl
theorem n_X6_discard {P : aCall} {d : Nat} {σ : aSt} (hd : 1 ≤ d) : a_call a_tab P d 16 [.ref 220] σ = b_R (a_call a_tab P (d - 1)) kX6_discard [] (0, [some (.ref 220)], [], σ) := e_call hd at_X6_discard rfl
theorem b_X6_discard_0 {C : aCall} {σ : aSt} (h : Sh σ) : b_R C kX6_discard [] (0, [some (.ref 220)], [], σ) = some (.inl none, (a_setI σ 220 1 (nI 0))) := by
  refine (e_aload_n (code := kX6_discard) (pc := 0) rfl rfl).trans ?_
  refine (e_iconst (code := kX6_discard) (pc := 1) rfl).trans ?_
  refine (e_putI (code := kX6_discard) (pc := 2) (c := 8) rfl (sk_220 (σ := σ) h) (h_100 rfl)).trans ?_
  exact e_return_ rfl
theorem n_X6_begin {P : aCall} {d : Nat} {σ : aSt} {x1 : Int32} (hd : 1 ≤ d) : a_call a_tab P d 17 [.ref 220, .int x1] σ = b_R (a_call a_tab P (d - 1)) kX6_begin [] (0, [some (.ref 220), some (.int x1)], [], σ) := e_call hd at_X6_begin rfl
theorem b_X6_begin_0 {C : aCall} {σ : aSt} {x1 : Int32} (h : Sh σ) : b_R C kX6_begin [] (0, [some (.ref 220), some (.int x1)], [], σ) = b_G C kX6_begin [] 21 24 [some (.ref 220), some (.int x1)] [] (C 18 [.ref 220] (a_setI (a_setI (a_setI (a_setI σ 220 2 x1) 220 3 (nI 0)) 220 8 (nI 0)) 220 9 ((-1)))) := by
  refine (e_aload_n (code := kX6_begin) (pc := 0) rfl rfl).trans ?_
  refine (e_iload_n (code := kX6_begin) (pc := 1) rfl rfl).trans ?_
  refine (e_putI (code := kX6_begin) (pc := 2) (c := 8) rfl (sk_220 (σ := σ) h) (h_100 rfl)).trans ?_
  refine (e_aload_n (code := kX6_begin) (pc := 5) (σ := (a_setI σ 220 2 x1)) rfl rfl).trans ?_
  refine (e_iconst (code := kX6_begin) (pc := 6) (σ := (a_setI σ 220 2 x1)) rfl).trans ?_
  refine (e_putI (code := kX6_begin) (pc := 7) (σ := (a_setI σ 220 2 x1)) (c := 8) rfl (sk_220 (σ := σ) h) (h_100 rfl)).trans ?_
  refine (e_aload_n (code := kX6_begin) (pc := 10) (σ := (a_setI (a_setI σ 220 2 x1) 220 3 (nI 0))) rfl rfl).trans ?_
  refine (e_iconst (code := kX6_begin) (pc := 11) (σ := (a_setI (a_setI σ 220 2 x1) 220 3 (nI 0))) rfl).trans ?_
  refine (e_putI (code := kX6_begin) (pc := 12) (σ := (a_setI (a_setI σ 220 2 x1) 220 3 (nI 0))) (c := 8) rfl (sk_220 (σ := σ) h) (h_100 rfl)).trans ?_
  refine (e_aload_n (code := kX6_begin) (pc := 15) (σ := (a_setI (a_setI (a_setI σ 220 2 x1) 220 3 (nI 0)) 220 8 (nI 0))) rfl rfl).trans ?_
  refine (e_iconst (code := kX6_begin) (pc := 16) (σ := (a_setI (a_setI (a_setI σ 220 2 x1) 220 3 (nI 0)) 220 8 (nI 0))) rfl).trans ?_
  refine (e_putI (code := kX6_begin) (pc := 17) (σ := (a_setI (a_setI (a_setI σ 220 2 x1) 220 3 (nI 0)) 220 8 (nI 0))) (c := 8) rfl (sk_220 (σ := σ) h) (h_100 rfl)).trans ?_
  refine (e_aload_n (code := kX6_begin) (pc := 20) (σ := (a_setI (a_setI (a_setI (a_setI σ 220 2 x1) 220 3 (nI 0)) 220 8 (nI 0)) 220 9 ((-1)))) rfl rfl).trans ?_
  exact (e_callV (σ := (a_setI (a_setI (a_setI (a_setI σ 220 2 x1) 220 3 (nI 0)) 220 8 (nI 0)) 220 9 ((-1)))) (code := kX6_begin) (pc := 21) (len := 3) (k := 18) (n := 1) (c := 18) (as := [.ref 220]) (st0 := []) rfl rfl rfl rfl rfl (sk_220 (σ := σ) h) rfl)
theorem b_X6_begin_24 {C : aCall} {σ : aSt} {x1 : Int32} : b_R C kX6_begin [] (24, [some (.ref 220), some (.int x1)], [], σ) = some (.inl none, σ) := by
  exact e_return_ rfl
theorem n_X6_advance {P : aCall} {d : Nat} {σ : aSt} (hd : 1 ≤ d) : a_call a_tab P d 18 [.ref 220] σ = b_R (a_call a_tab P (d - 1)) kX6_advance [] (0, [some (.ref 220), none], [], σ) := e_call hd at_X6_advance rfl
theorem b_X6_advance_0 {C : aCall} {σ : aSt} (h : Sh σ) : b_R C kX6_advance [] (0, [some (.ref 220), none], [], σ) = b_G C kX6_advance [] 9 12 [some (.ref 220), none] [] (C 1000 [.int (a_I σ 220 2), .int (nI 900)] σ) := by
  refine (e_aload_n (code := kX6_advance) (pc := 0) rfl rfl).trans ?_
  refine (e_getI (code := kX6_advance) (pc := 1) (c := 8) rfl (sk_220 (σ := σ) h) rfl).trans ?_
  refine (e_aload_n (code := kX6_advance) (pc := 4) rfl rfl).trans ?_
  refine (e_getR (code := kX6_advance) (pc := 5) (c := 8) rfl (sk_220 (σ := σ) h) (sr_220_0 (σ := σ) h)).trans ?_
  refine (e_alen (code := kX6_advance) (pc := 8) rfl (by rw [show a_kd _ 221 = 1 from (sk_221 (σ := σ) h)]; exact ⟨rfl, rfl⟩) (sl_221 (σ := σ) h) (Nat.le_of_ble_eq_true rfl)).trans ?_
  exact (e_callS (code := kX6_advance) (pc := 9) (len := 3) (k := 1000) (n := 2) (as := [.int (a_I σ 220 2), .int (nI 900)]) (st0 := []) rfl rfl rfl rfl)
theorem b_X6_advance_12 {C : aCall} {σ : aSt} {y0 : Int32} : b_R C kX6_advance [] (12, [some (.ref 220), none], [.int y0], σ) = b_R C kX6_advance [] (13, [some (.ref 220), some (.int y0)], [], σ) := by
  refine (e_istore_n (code := kX6_advance) (pc := 12) rfl rfl rfl).trans ?_
  rfl
theorem b_X6_advance_13 {C : aCall} {σ : aSt} {x1 : Int32} (h : Sh σ) : b_R C kX6_advance [] (13, [some (.ref 220), some (.int x1)], [], σ) = (if (a_I σ 220 3) < x1 then b_gd (a_in (a_I σ 220 3) 900) ((if (a_I σ 221 (Int32.toNatClampNeg (a_I σ 220 3))) = (nI 32) then b_R C kX6_advance [] (49, [some (.ref 220), some (.int x1)], [], σ) else b_gd (a_in (a_I σ 220 3) 900) ((if (a_I σ 221 (Int32.toNatClampNeg (a_I σ 220 3))) = (nI 10) then b_R C kX6_advance [] (49, [some (.ref 220), some (.int x1)], [], σ) else b_R C kX6_advance [] (62, [some (.ref 220), some (.int x1)], [], σ))))) else b_R C kX6_advance [] (62, [some (.ref 220), some (.int x1)], [], σ)) := by
  refine (e_aload_n (code := kX6_advance) (pc := 13) rfl rfl).trans ?_
  refine (e_getI (code := kX6_advance) (pc := 14) (c := 8) rfl (sk_220 (σ := σ) h) rfl).trans ?_
  refine (e_iload_n (code := kX6_advance) (pc := 17) rfl rfl).trans ?_
  refine (e_icge (code := kX6_advance) (pc := 18) rfl).trans ?_
  refine b_ite ?_ ?_
  · refine (e_aload_n (code := kX6_advance) (pc := 21) rfl rfl).trans ?_
    refine (e_getR (code := kX6_advance) (pc := 22) (c := 8) rfl (sk_220 (σ := σ) h) (sr_220_0 (σ := σ) h)).trans ?_
    refine (e_aload_n (code := kX6_advance) (pc := 25) rfl rfl).trans ?_
    refine (e_getI (code := kX6_advance) (pc := 26) (c := 8) rfl (sk_220 (σ := σ) h) rfl).trans ?_
    refine (e_iaload (code := kX6_advance) (pc := 29) rfl (.inl (sk_221 (σ := σ) h)) (sl_221 (σ := σ) h)).trans ?_
    refine b_gd_c ?_
    refine (e_bipush (code := kX6_advance) (pc := 30) rfl).trans ?_
    refine (e_iceq (code := kX6_advance) (pc := 32) rfl).trans ?_
    refine b_ite ?_ ?_
    · rfl
    · refine (e_aload_n (code := kX6_advance) (pc := 35) rfl rfl).trans ?_
      refine (e_getR (code := kX6_advance) (pc := 36) (c := 8) rfl (sk_220 (σ := σ) h) (sr_220_0 (σ := σ) h)).trans ?_
      refine (e_aload_n (code := kX6_advance) (pc := 39) rfl rfl).trans ?_
      refine (e_getI (code := kX6_advance) (pc := 40) (c := 8) rfl (sk_220 (σ := σ) h) rfl).trans ?_
      refine (e_iaload (code := kX6_advance) (pc := 43) rfl (.inl (sk_221 (σ := σ) h)) (sl_221 (σ := σ) h)).trans ?_
      refine b_gd_c ?_
      refine (e_bipush (code := kX6_advance) (pc := 44) rfl).trans ?_
      refine (e_icne (code := kX6_advance) (pc := 46) rfl).trans ?_
      refine b_ite ?_ ?_
      · rfl
      · rfl
  · rfl
theorem b_X6_advance_49 {C : aCall} {σ : aSt} {x1 : Int32} (h : Sh σ) : b_R C kX6_advance [] (49, [some (.ref 220), some (.int x1)], [], σ) = b_R C kX6_advance [] (13, [some (.ref 220), some (.int x1)], [], (a_setI σ 220 3 ((a_I σ 220 3) + (nI 1)))) := by
  refine (e_aload_n (code := kX6_advance) (pc := 49) rfl rfl).trans ?_
  refine (e_dup (code := kX6_advance) (pc := 50) rfl rfl).trans ?_
  refine (e_getI (code := kX6_advance) (pc := 51) (c := 8) rfl (sk_220 (σ := σ) h) rfl).trans ?_
  refine (e_iconst (code := kX6_advance) (pc := 54) rfl).trans ?_
  refine (e_iadd (code := kX6_advance) (pc := 55) rfl).trans ?_
  refine (e_putI (code := kX6_advance) (pc := 56) (c := 8) rfl (sk_220 (σ := σ) h) (h_100 rfl)).trans ?_
  refine (e_goto (code := kX6_advance) (pc := 59) (σ := (a_setI σ 220 3 ((a_I σ 220 3) + (nI 1)))) rfl).trans ?_
  rfl
theorem b_X6_advance_62 {C : aCall} {σ : aSt} {x1 : Int32} (h : Sh σ) : b_R C kX6_advance [] (62, [some (.ref 220), some (.int x1)], [], σ) = b_R C kX6_advance [] (75, [some (.ref 220), some (.int x1)], [], (a_setI (a_setI σ 220 5 (a_I σ 220 3)) 220 6 (nI 0))) := by
  refine (e_aload_n (code := kX6_advance) (pc := 62) rfl rfl).trans ?_
  refine (e_aload_n (code := kX6_advance) (pc := 63) rfl rfl).trans ?_
  refine (e_getI (code := kX6_advance) (pc := 64) (c := 8) rfl (sk_220 (σ := σ) h) rfl).trans ?_
  refine (e_putI (code := kX6_advance) (pc := 67) (c := 8) rfl (sk_220 (σ := σ) h) (h_100 rfl)).trans ?_
  refine (e_aload_n (code := kX6_advance) (pc := 70) (σ := (a_setI σ 220 5 (a_I σ 220 3))) rfl rfl).trans ?_
  refine (e_iconst (code := kX6_advance) (pc := 71) (σ := (a_setI σ 220 5 (a_I σ 220 3))) rfl).trans ?_
  refine (e_putI (code := kX6_advance) (pc := 72) (σ := (a_setI σ 220 5 (a_I σ 220 3))) (c := 8) rfl (sk_220 (σ := σ) h) (h_100 rfl)).trans ?_
  rfl
theorem b_X6_advance_75 {C : aCall} {σ : aSt} {x1 : Int32} (h : Sh σ) : b_R C kX6_advance [] (75, [some (.ref 220), some (.int x1)], [], σ) = (if (a_I σ 220 3) < x1 then b_gd (a_in (a_I σ 220 3) 900) ((if (a_I σ 221 (Int32.toNatClampNeg (a_I σ 220 3))) < (nI 97) then b_R C kX6_advance [] (124, [some (.ref 220), some (.int x1)], [], σ) else b_gd (a_in (a_I σ 220 3) 900) ((if (nI 122) < (a_I σ 221 (Int32.toNatClampNeg (a_I σ 220 3))) then b_R C kX6_advance [] (124, [some (.ref 220), some (.int x1)], [], σ) else b_R C kX6_advance [] (75, [some (.ref 220), some (.int x1)], [], (a_setI σ 220 3 ((a_I σ 220 3) + (nI 1)))))))) else b_R C kX6_advance [] (124, [some (.ref 220), some (.int x1)], [], σ)) := by
  refine (e_aload_n (code := kX6_advance) (pc := 75) rfl rfl).trans ?_
  refine (e_getI (code := kX6_advance) (pc := 76) (c := 8) rfl (sk_220 (σ := σ) h) rfl).trans ?_
  refine (e_iload_n (code := kX6_advance) (pc := 79) rfl rfl).trans ?_
  refine (e_icge (code := kX6_advance) (pc := 80) rfl).trans ?_
  refine b_ite ?_ ?_
  · refine (e_aload_n (code := kX6_advance) (pc := 83) rfl rfl).trans ?_
    refine (e_getR (code := kX6_advance) (pc := 84) (c := 8) rfl (sk_220 (σ := σ) h) (sr_220_0 (σ := σ) h)).trans ?_
    refine (e_aload_n (code := kX6_advance) (pc := 87) rfl rfl).trans ?_
    refine (e_getI (code := kX6_advance) (pc := 88) (c := 8) rfl (sk_220 (σ := σ) h) rfl).trans ?_
    refine (e_iaload (code := kX6_advance) (pc := 91) rfl (.inl (sk_221 (σ := σ) h)) (sl_221 (σ := σ) h)).trans ?_
    refine b_gd_c ?_
    refine (e_bipush (code := kX6_advance) (pc := 92) rfl).trans ?_
    refine (e_iclt (code := kX6_advance) (pc := 94) rfl).trans ?_
    refine b_ite ?_ ?_
    · rfl
    · refine (e_aload_n (code := kX6_advance) (pc := 97) rfl rfl).trans ?_
      refine (e_getR (code := kX6_advance) (pc := 98) (c := 8) rfl (sk_220 (σ := σ) h) (sr_220_0 (σ := σ) h)).trans ?_
      refine (e_aload_n (code := kX6_advance) (pc := 101) rfl rfl).trans ?_
      refine (e_getI (code := kX6_advance) (pc := 102) (c := 8) rfl (sk_220 (σ := σ) h) rfl).trans ?_
      refine (e_iaload (code := kX6_advance) (pc := 105) rfl (.inl (sk_221 (σ := σ) h)) (sl_221 (σ := σ) h)).trans ?_
      refine b_gd_c ?_
      refine (e_bipush (code := kX6_advance) (pc := 106) rfl).trans ?_
      refine (e_icgt (code := kX6_advance) (pc := 108) rfl).trans ?_
      refine b_ite ?_ ?_
      · rfl
      · refine (e_aload_n (code := kX6_advance) (pc := 111) rfl rfl).trans ?_
        refine (e_dup (code := kX6_advance) (pc := 112) rfl rfl).trans ?_
        refine (e_getI (code := kX6_advance) (pc := 113) (c := 8) rfl (sk_220 (σ := σ) h) rfl).trans ?_
        refine (e_iconst (code := kX6_advance) (pc := 116) rfl).trans ?_
        refine (e_iadd (code := kX6_advance) (pc := 117) rfl).trans ?_
        refine (e_putI (code := kX6_advance) (pc := 118) (c := 8) rfl (sk_220 (σ := σ) h) (h_100 rfl)).trans ?_
        refine (e_goto (code := kX6_advance) (pc := 121) (σ := (a_setI σ 220 3 ((a_I σ 220 3) + (nI 1)))) rfl).trans ?_
        rfl
  · rfl
theorem b_X6_advance_124 {C : aCall} {σ : aSt} {x1 : Int32} (h : Sh σ) : b_R C kX6_advance [] (124, [some (.ref 220), some (.int x1)], [], σ) = (if (a_I σ 220 5) < (a_I σ 220 3) then some (.inl none, (a_setI σ 220 4 (nI 1))) else b_R C kX6_advance [] (141, [some (.ref 220), some (.int x1)], [], σ)) := by
  refine (e_aload_n (code := kX6_advance) (pc := 124) rfl rfl).trans ?_
  refine (e_getI (code := kX6_advance) (pc := 125) (c := 8) rfl (sk_220 (σ := σ) h) rfl).trans ?_
  refine (e_aload_n (code := kX6_advance) (pc := 128) rfl rfl).trans ?_
  refine (e_getI (code := kX6_advance) (pc := 129) (c := 8) rfl (sk_220 (σ := σ) h) rfl).trans ?_
  refine (e_icle (code := kX6_advance) (pc := 132) rfl).trans ?_
  refine b_ite ?_ ?_
  · refine (e_aload_n (code := kX6_advance) (pc := 135) rfl rfl).trans ?_
    refine (e_iconst (code := kX6_advance) (pc := 136) rfl).trans ?_
    refine (e_putI (code := kX6_advance) (pc := 137) (c := 8) rfl (sk_220 (σ := σ) h) (h_100 rfl)).trans ?_
    exact e_return_ rfl
  · rfl
theorem b_X6_advance_141 {C : aCall} {σ : aSt} {x1 : Int32} (h : Sh σ) : b_R C kX6_advance [] (141, [some (.ref 220), some (.int x1)], [], σ) = (if (a_I σ 220 3) < x1 then b_gd (a_in (a_I σ 220 3) 900) ((if (a_I σ 221 (Int32.toNatClampNeg (a_I σ 220 3))) < (nI 48) then b_R C kX6_advance [] (219, [some (.ref 220), some (.int x1)], [], σ) else b_gd (a_in (a_I σ 220 3) 900) ((if (nI 57) < (a_I σ 221 (Int32.toNatClampNeg (a_I σ 220 3))) then b_R C kX6_advance [] (219, [some (.ref 220), some (.int x1)], [], σ) else b_gd (a_in (a_I σ 220 3) 900) (b_G C kX6_advance [] 200 203 [some (.ref 220), some (.int x1)] [.ref 220] (C 1000 [.int (nI 1000000), .int ((((nI 10) * (a_I σ 220 6)) + (a_I σ 221 (Int32.toNatClampNeg (a_I σ 220 3)))) - (nI 48))] σ)))))) else b_R C kX6_advance [] (219, [some (.ref 220), some (.int x1)], [], σ)) := by
  refine (e_aload_n (code := kX6_advance) (pc := 141) rfl rfl).trans ?_
  refine (e_getI (code := kX6_advance) (pc := 142) (c := 8) rfl (sk_220 (σ := σ) h) rfl).trans ?_
  refine (e_iload_n (code := kX6_advance) (pc := 145) rfl rfl).trans ?_
  refine (e_icge (code := kX6_advance) (pc := 146) rfl).trans ?_
  refine b_ite ?_ ?_
  · refine (e_aload_n (code := kX6_advance) (pc := 149) rfl rfl).trans ?_
    refine (e_getR (code := kX6_advance) (pc := 150) (c := 8) rfl (sk_220 (σ := σ) h) (sr_220_0 (σ := σ) h)).trans ?_
    refine (e_aload_n (code := kX6_advance) (pc := 153) rfl rfl).trans ?_
    refine (e_getI (code := kX6_advance) (pc := 154) (c := 8) rfl (sk_220 (σ := σ) h) rfl).trans ?_
    refine (e_iaload (code := kX6_advance) (pc := 157) rfl (.inl (sk_221 (σ := σ) h)) (sl_221 (σ := σ) h)).trans ?_
    refine b_gd_c ?_
    refine (e_bipush (code := kX6_advance) (pc := 158) rfl).trans ?_
    refine (e_iclt (code := kX6_advance) (pc := 160) rfl).trans ?_
    refine b_ite ?_ ?_
    · rfl
    · refine (e_aload_n (code := kX6_advance) (pc := 163) rfl rfl).trans ?_
      refine (e_getR (code := kX6_advance) (pc := 164) (c := 8) rfl (sk_220 (σ := σ) h) (sr_220_0 (σ := σ) h)).trans ?_
      refine (e_aload_n (code := kX6_advance) (pc := 167) rfl rfl).trans ?_
      refine (e_getI (code := kX6_advance) (pc := 168) (c := 8) rfl (sk_220 (σ := σ) h) rfl).trans ?_
      refine (e_iaload (code := kX6_advance) (pc := 171) rfl (.inl (sk_221 (σ := σ) h)) (sl_221 (σ := σ) h)).trans ?_
      refine b_gd_c ?_
      refine (e_bipush (code := kX6_advance) (pc := 172) rfl).trans ?_
      refine (e_icgt (code := kX6_advance) (pc := 174) rfl).trans ?_
      refine b_ite ?_ ?_
      · rfl
      · refine (e_aload_n (code := kX6_advance) (pc := 177) rfl rfl).trans ?_
        refine (e_ldcI (code := kX6_advance) (pc := 178) rfl).trans ?_
        refine (e_bipush (code := kX6_advance) (pc := 180) rfl).trans ?_
        refine (e_aload_n (code := kX6_advance) (pc := 182) rfl rfl).trans ?_
        refine (e_getI (code := kX6_advance) (pc := 183) (c := 8) rfl (sk_220 (σ := σ) h) rfl).trans ?_
        refine (e_imul (code := kX6_advance) (pc := 186) rfl).trans ?_
        refine (e_aload_n (code := kX6_advance) (pc := 187) rfl rfl).trans ?_
        refine (e_getR (code := kX6_advance) (pc := 188) (c := 8) rfl (sk_220 (σ := σ) h) (sr_220_0 (σ := σ) h)).trans ?_
        refine (e_aload_n (code := kX6_advance) (pc := 191) rfl rfl).trans ?_
        refine (e_getI (code := kX6_advance) (pc := 192) (c := 8) rfl (sk_220 (σ := σ) h) rfl).trans ?_
        refine (e_iaload (code := kX6_advance) (pc := 195) rfl (.inl (sk_221 (σ := σ) h)) (sl_221 (σ := σ) h)).trans ?_
        refine b_gd_c ?_
        refine (e_iadd (code := kX6_advance) (pc := 196) rfl).trans ?_
        refine (e_bipush (code := kX6_advance) (pc := 197) rfl).trans ?_
        refine (e_isub (code := kX6_advance) (pc := 199) rfl).trans ?_
        exact (e_callS (code := kX6_advance) (pc := 200) (len := 3) (k := 1000) (n := 2) (as := [.int (nI 1000000), .int ((((nI 10) * (a_I σ 220 6)) + (a_I σ 221 (Int32.toNatClampNeg (a_I σ 220 3)))) - (nI 48))]) (st0 := [.ref 220]) rfl rfl rfl rfl)
  · rfl
theorem b_X6_advance_203 {C : aCall} {σ : aSt} {x1 y0 : Int32} (h : Sh σ) : b_R C kX6_advance [] (203, [some (.ref 220), some (.int x1)], [.int y0, .ref 220], σ) = b_R C kX6_advance [] (141, [some (.ref 220), some (.int x1)], [], (a_setI (a_setI σ 220 6 y0) 220 3 ((a_I (a_setI σ 220 6 y0) 220 3) + (nI 1)))) := by
  refine (e_putI (code := kX6_advance) (pc := 203) (c := 8) rfl (sk_220 (σ := σ) h) (h_100 rfl)).trans ?_
  refine (e_aload_n (code := kX6_advance) (pc := 206) (σ := (a_setI σ 220 6 y0)) rfl rfl).trans ?_
  refine (e_dup (code := kX6_advance) (pc := 207) (σ := (a_setI σ 220 6 y0)) rfl rfl).trans ?_
  refine (e_getI (code := kX6_advance) (pc := 208) (σ := (a_setI σ 220 6 y0)) (c := 8) rfl (sk_220 (σ := σ) h) rfl).trans ?_
  refine (e_iconst (code := kX6_advance) (pc := 211) (σ := (a_setI σ 220 6 y0)) rfl).trans ?_
  refine (e_iadd (code := kX6_advance) (pc := 212) (σ := (a_setI σ 220 6 y0)) rfl).trans ?_
  refine (e_putI (code := kX6_advance) (pc := 213) (σ := (a_setI σ 220 6 y0)) (c := 8) rfl (sk_220 (σ := σ) h) (h_100 rfl)).trans ?_
  refine (e_goto (code := kX6_advance) (pc := 216) (σ := (a_setI (a_setI σ 220 6 y0) 220 3 ((a_I (a_setI σ 220 6 y0) 220 3) + (nI 1)))) rfl).trans ?_
  rfl
theorem b_X6_advance_219 {C : aCall} {σ : aSt} {x1 : Int32} (h : Sh σ) : b_R C kX6_advance [] (219, [some (.ref 220), some (.int x1)], [], σ) = (if (a_I σ 220 5) < (a_I σ 220 3) then b_R C kX6_advance [] (282, [some (.ref 220), some (.int x1)], [], (a_setI σ 220 4 (nI 2))) else (if (a_I σ 220 3) < x1 then b_gd (a_in (a_I (a_setI σ 220 4 (nI 3)) 220 3) 900) (b_R C kX6_advance [] (282, [some (.ref 220), some (.int x1)], [], (a_setI (a_setI (a_setI σ 220 4 (nI 3)) 220 6 (a_I (a_setI σ 220 4 (nI 3)) 221 (Int32.toNatClampNeg (a_I (a_setI σ 220 4 (nI 3)) 220 3)))) 220 3 ((a_I (a_setI (a_setI σ 220 4 (nI 3)) 220 6 (a_I (a_setI σ 220 4 (nI 3)) 221 (Int32.toNatClampNeg (a_I (a_setI σ 220 4 (nI 3)) 220 3)))) 220 3) + (nI 1))))) else b_R C kX6_advance [] (282, [some (.ref 220), some (.int x1)], [], (a_setI σ 220 4 (nI 0))))) := by
  refine (e_aload_n (code := kX6_advance) (pc := 219) rfl rfl).trans ?_
  refine (e_getI (code := kX6_advance) (pc := 220) (c := 8) rfl (sk_220 (σ := σ) h) rfl).trans ?_
  refine (e_aload_n (code := kX6_advance) (pc := 223) rfl rfl).trans ?_
  refine (e_getI (code := kX6_advance) (pc := 224) (c := 8) rfl (sk_220 (σ := σ) h) rfl).trans ?_
  refine (e_icle (code := kX6_advance) (pc := 227) rfl).trans ?_
  refine b_ite ?_ ?_
  · refine (e_aload_n (code := kX6_advance) (pc := 230) rfl rfl).trans ?_
    refine (e_iconst (code := kX6_advance) (pc := 231) rfl).trans ?_
    refine (e_putI (code := kX6_advance) (pc := 232) (c := 8) rfl (sk_220 (σ := σ) h) (h_100 rfl)).trans ?_
    refine (e_goto (code := kX6_advance) (pc := 235) (σ := (a_setI σ 220 4 (nI 2))) rfl).trans ?_
    rfl
  · refine (e_aload_n (code := kX6_advance) (pc := 238) rfl rfl).trans ?_
    refine (e_getI (code := kX6_advance) (pc := 239) (c := 8) rfl (sk_220 (σ := σ) h) rfl).trans ?_
    refine (e_iload_n (code := kX6_advance) (pc := 242) rfl rfl).trans ?_
    refine (e_icge (code := kX6_advance) (pc := 243) rfl).trans ?_
    refine b_ite ?_ ?_
    · refine (e_aload_n (code := kX6_advance) (pc := 246) rfl rfl).trans ?_
      refine (e_iconst (code := kX6_advance) (pc := 247) rfl).trans ?_
      refine (e_putI (code := kX6_advance) (pc := 248) (c := 8) rfl (sk_220 (σ := σ) h) (h_100 rfl)).trans ?_
      refine (e_aload_n (code := kX6_advance) (pc := 251) (σ := (a_setI σ 220 4 (nI 3))) rfl rfl).trans ?_
      refine (e_aload_n (code := kX6_advance) (pc := 252) (σ := (a_setI σ 220 4 (nI 3))) rfl rfl).trans ?_
      refine (e_getR (code := kX6_advance) (pc := 253) (σ := (a_setI σ 220 4 (nI 3))) (c := 8) rfl (sk_220 (σ := σ) h) (sr_220_0 (σ := σ) h)).trans ?_
      refine (e_aload_n (code := kX6_advance) (pc := 256) (σ := (a_setI σ 220 4 (nI 3))) rfl rfl).trans ?_
      refine (e_getI (code := kX6_advance) (pc := 257) (σ := (a_setI σ 220 4 (nI 3))) (c := 8) rfl (sk_220 (σ := σ) h) rfl).trans ?_
      refine (e_iaload (code := kX6_advance) (pc := 260) (σ := (a_setI σ 220 4 (nI 3))) rfl (.inl (sk_221 (σ := σ) h)) (sl_221 (σ := σ) h)).trans ?_
      refine b_gd_c ?_
      refine (e_putI (code := kX6_advance) (pc := 261) (σ := (a_setI σ 220 4 (nI 3))) (c := 8) rfl (sk_220 (σ := σ) h) (h_100 rfl)).trans ?_
      refine (e_aload_n (code := kX6_advance) (pc := 264) (σ := (a_setI (a_setI σ 220 4 (nI 3)) 220 6 (a_I (a_setI σ 220 4 (nI 3)) 221 (Int32.toNatClampNeg (a_I (a_setI σ 220 4 (nI 3)) 220 3))))) rfl rfl).trans ?_
      refine (e_dup (code := kX6_advance) (pc := 265) (σ := (a_setI (a_setI σ 220 4 (nI 3)) 220 6 (a_I (a_setI σ 220 4 (nI 3)) 221 (Int32.toNatClampNeg (a_I (a_setI σ 220 4 (nI 3)) 220 3))))) rfl rfl).trans ?_
      refine (e_getI (code := kX6_advance) (pc := 266) (σ := (a_setI (a_setI σ 220 4 (nI 3)) 220 6 (a_I (a_setI σ 220 4 (nI 3)) 221 (Int32.toNatClampNeg (a_I (a_setI σ 220 4 (nI 3)) 220 3))))) (c := 8) rfl (sk_220 (σ := σ) h) rfl).trans ?_
      refine (e_iconst (code := kX6_advance) (pc := 269) (σ := (a_setI (a_setI σ 220 4 (nI 3)) 220 6 (a_I (a_setI σ 220 4 (nI 3)) 221 (Int32.toNatClampNeg (a_I (a_setI σ 220 4 (nI 3)) 220 3))))) rfl).trans ?_
      refine (e_iadd (code := kX6_advance) (pc := 270) (σ := (a_setI (a_setI σ 220 4 (nI 3)) 220 6 (a_I (a_setI σ 220 4 (nI 3)) 221 (Int32.toNatClampNeg (a_I (a_setI σ 220 4 (nI 3)) 220 3))))) rfl).trans ?_
      refine (e_putI (code := kX6_advance) (pc := 271) (σ := (a_setI (a_setI σ 220 4 (nI 3)) 220 6 (a_I (a_setI σ 220 4 (nI 3)) 221 (Int32.toNatClampNeg (a_I (a_setI σ 220 4 (nI 3)) 220 3))))) (c := 8) rfl (sk_220 (σ := σ) h) (h_100 rfl)).trans ?_
      refine (e_goto (code := kX6_advance) (pc := 274) (σ := (a_setI (a_setI (a_setI σ 220 4 (nI 3)) 220 6 (a_I (a_setI σ 220 4 (nI 3)) 221 (Int32.toNatClampNeg (a_I (a_setI σ 220 4 (nI 3)) 220 3)))) 220 3 ((a_I (a_setI (a_setI σ 220 4 (nI 3)) 220 6 (a_I (a_setI σ 220 4 (nI 3)) 221 (Int32.toNatClampNeg (a_I (a_setI σ 220 4 (nI 3)) 220 3)))) 220 3) + (nI 1)))) rfl).trans ?_
      rfl
    · refine (e_aload_n (code := kX6_advance) (pc := 277) rfl rfl).trans ?_
      refine (e_iconst (code := kX6_advance) (pc := 278) rfl).trans ?_
      refine (e_putI (code := kX6_advance) (pc := 279) (c := 8) rfl (sk_220 (σ := σ) h) (h_100 rfl)).trans ?_
      rfl
theorem b_X6_advance_282 {C : aCall} {σ : aSt} {x1 : Int32} : b_R C kX6_advance [] (282, [some (.ref 220), some (.int x1)], [], σ) = some (.inl none, σ) := by
  exact e_return_ rfl
theorem n_X6_atEnd {P : aCall} {d : Nat} {σ : aSt} (hd : 1 ≤ d) : a_call a_tab P d 19 [.ref 220] σ = b_R (a_call a_tab P (d - 1)) kX6_atEnd [] (0, [some (.ref 220)], [], σ) := e_call hd at_X6_atEnd rfl
theorem b_X6_atEnd_0 {C : aCall} {σ : aSt} (h : Sh σ) : b_R C kX6_atEnd [] (0, [some (.ref 220)], [], σ) = (if (a_I σ 220 4) = 0 then b_R C kX6_atEnd [] (12, [some (.ref 220)], [.int (nI 1)], σ) else b_R C kX6_atEnd [] (12, [some (.ref 220)], [.int (nI 0)], σ)) := by
  refine (e_aload_n (code := kX6_atEnd) (pc := 0) rfl rfl).trans ?_
  refine (e_getI (code := kX6_atEnd) (pc := 1) (c := 8) rfl (sk_220 (σ := σ) h) rfl).trans ?_
  refine (e_ifne (code := kX6_atEnd) (pc := 4) rfl).trans ?_
  refine b_ite ?_ ?_
  · refine (e_iconst (code := kX6_atEnd) (pc := 7) rfl).trans ?_
    refine (e_goto (code := kX6_atEnd) (pc := 8) rfl).trans ?_
    rfl
  · refine (e_iconst (code := kX6_atEnd) (pc := 11) rfl).trans ?_
    rfl
theorem b_X6_atEnd_12 {C : aCall} {σ : aSt} {y0 : Int32} : b_R C kX6_atEnd [] (12, [some (.ref 220)], [.int y0], σ) = b_gd (y0 = 0 ∨ y0 = 1) (some (.inl (some (.int y0)), σ)) := by
  exact e_zreturn rfl
theorem n_X6_isNumber {P : aCall} {d : Nat} {σ : aSt} (hd : 1 ≤ d) : a_call a_tab P d 20 [.ref 220] σ = b_R (a_call a_tab P (d - 1)) kX6_isNumber [] (0, [some (.ref 220)], [], σ) := e_call hd at_X6_isNumber rfl
theorem b_X6_isNumber_0 {C : aCall} {σ : aSt} (h : Sh σ) : b_R C kX6_isNumber [] (0, [some (.ref 220)], [], σ) = (if (a_I σ 220 4) = (nI 2) then b_R C kX6_isNumber [] (13, [some (.ref 220)], [.int (nI 1)], σ) else b_R C kX6_isNumber [] (13, [some (.ref 220)], [.int (nI 0)], σ)) := by
  refine (e_aload_n (code := kX6_isNumber) (pc := 0) rfl rfl).trans ?_
  refine (e_getI (code := kX6_isNumber) (pc := 1) (c := 8) rfl (sk_220 (σ := σ) h) rfl).trans ?_
  refine (e_iconst (code := kX6_isNumber) (pc := 4) rfl).trans ?_
  refine (e_icne (code := kX6_isNumber) (pc := 5) rfl).trans ?_
  refine b_ite ?_ ?_
  · refine (e_iconst (code := kX6_isNumber) (pc := 8) rfl).trans ?_
    refine (e_goto (code := kX6_isNumber) (pc := 9) rfl).trans ?_
    rfl
  · refine (e_iconst (code := kX6_isNumber) (pc := 12) rfl).trans ?_
    rfl
theorem b_X6_isNumber_13 {C : aCall} {σ : aSt} {y0 : Int32} : b_R C kX6_isNumber [] (13, [some (.ref 220)], [.int y0], σ) = b_gd (y0 = 0 ∨ y0 = 1) (some (.inl (some (.int y0)), σ)) := by
  exact e_zreturn rfl
theorem n_X6_isWord {P : aCall} {d : Nat} {σ : aSt} (hd : 1 ≤ d) : a_call a_tab P d 21 [.ref 220] σ = b_R (a_call a_tab P (d - 1)) kX6_isWord [] (0, [some (.ref 220)], [], σ) := e_call hd at_X6_isWord rfl
theorem b_X6_isWord_0 {C : aCall} {σ : aSt} (h : Sh σ) : b_R C kX6_isWord [] (0, [some (.ref 220)], [], σ) = (if (a_I σ 220 4) = (nI 1) then b_R C kX6_isWord [] (13, [some (.ref 220)], [.int (nI 1)], σ) else b_R C kX6_isWord [] (13, [some (.ref 220)], [.int (nI 0)], σ)) := by
  refine (e_aload_n (code := kX6_isWord) (pc := 0) rfl rfl).trans ?_
  refine (e_getI (code := kX6_isWord) (pc := 1) (c := 8) rfl (sk_220 (σ := σ) h) rfl).trans ?_
  refine (e_iconst (code := kX6_isWord) (pc := 4) rfl).trans ?_
  refine (e_icne (code := kX6_isWord) (pc := 5) rfl).trans ?_
  refine b_ite ?_ ?_
  · refine (e_iconst (code := kX6_isWord) (pc := 8) rfl).trans ?_
    refine (e_goto (code := kX6_isWord) (pc := 9) rfl).trans ?_
    rfl
  · refine (e_iconst (code := kX6_isWord) (pc := 12) rfl).trans ?_
    rfl
theorem b_X6_isWord_13 {C : aCall} {σ : aSt} {y0 : Int32} : b_R C kX6_isWord [] (13, [some (.ref 220)], [.int y0], σ) = b_gd (y0 = 0 ∨ y0 = 1) (some (.inl (some (.int y0)), σ)) := by
  exact e_zreturn rfl
theorem n_X6_isTooLong {P : aCall} {d : Nat} {σ : aSt} (hd : 1 ≤ d) : a_call a_tab P d 22 [.ref 220] σ = b_R (a_call a_tab P (d - 1)) kX6_isTooLong [] (0, [some (.ref 220)], [], σ) := e_call hd at_X6_isTooLong rfl
theorem b_X6_isTooLong_0 {C : aCall} {σ : aSt} (h : Sh σ) : b_R C kX6_isTooLong [] (0, [some (.ref 220)], [], σ) = (if (nI 8) < ((a_I σ 220 3) - (a_I σ 220 5)) then b_R C kX6_isTooLong [] (19, [some (.ref 220)], [.int (nI 1)], σ) else b_R C kX6_isTooLong [] (19, [some (.ref 220)], [.int (nI 0)], σ)) := by
  refine (e_aload_n (code := kX6_isTooLong) (pc := 0) rfl rfl).trans ?_
  refine (e_getI (code := kX6_isTooLong) (pc := 1) (c := 8) rfl (sk_220 (σ := σ) h) rfl).trans ?_
  refine (e_aload_n (code := kX6_isTooLong) (pc := 4) rfl rfl).trans ?_
  refine (e_getI (code := kX6_isTooLong) (pc := 5) (c := 8) rfl (sk_220 (σ := σ) h) rfl).trans ?_
  refine (e_isub (code := kX6_isTooLong) (pc := 8) rfl).trans ?_
  refine (e_bipush (code := kX6_isTooLong) (pc := 9) rfl).trans ?_
  refine (e_icle (code := kX6_isTooLong) (pc := 11) rfl).trans ?_
  refine b_ite ?_ ?_
  · refine (e_iconst (code := kX6_isTooLong) (pc := 14) rfl).trans ?_
    refine (e_goto (code := kX6_isTooLong) (pc := 15) rfl).trans ?_
    rfl
  · refine (e_iconst (code := kX6_isTooLong) (pc := 18) rfl).trans ?_
    rfl
theorem b_X6_isTooLong_19 {C : aCall} {σ : aSt} {y0 : Int32} : b_R C kX6_isTooLong [] (19, [some (.ref 220)], [.int y0], σ) = b_gd (y0 = 0 ∨ y0 = 1) (some (.inl (some (.int y0)), σ)) := by
  exact e_zreturn rfl
theorem n_X6_name {P : aCall} {d : Nat} {σ : aSt} (hd : 1 ≤ d) : a_call a_tab P d 23 [.ref 220] σ = b_R (a_call a_tab P (d - 1)) kX6_name [] (0, [some (.ref 220), none, none], [], σ) := e_call hd at_X6_name rfl
theorem b_X6_name_0 {C : aCall} {σ : aSt} : b_R C kX6_name [] (0, [some (.ref 220), none, none], [], σ) = b_R C kX6_name [] (2, [some (.ref 220), some (.int (nI 0)), none], [], σ) := by
  refine (e_iconst (code := kX6_name) (pc := 0) rfl).trans ?_
  refine (e_istore_n (code := kX6_name) (pc := 1) rfl rfl rfl).trans ?_
  rfl
theorem b_X6_name_2 {C : aCall} {σ : aSt} {x1 : Int32} {o2 : Option Value} (h : Sh σ) : b_R C kX6_name [] (2, [some (.ref 220), some (.int x1), o2], [], σ) = (if x1 < (nI 8) then (if ((a_I σ 220 5) + x1) < 0 then b_R C kX6_name [] (53, [some (.ref 220), some (.int x1), some (.int ((a_I σ 220 5) + x1))], [.int x1, .ref 222], σ) else (if ((a_I σ 220 5) + x1) < (a_I σ 220 3) then (if ((a_I σ 220 5) + x1) < (nI 900) then b_gd (a_in ((a_I σ 220 5) + x1) 900) (b_R C kX6_name [] (54, [some (.ref 220), some (.int x1), some (.int ((a_I σ 220 5) + x1))], [.int (a_I σ 221 (Int32.toNatClampNeg ((a_I σ 220 5) + x1))), .int x1, .ref 222], σ)) else b_R C kX6_name [] (53, [some (.ref 220), some (.int x1), some (.int ((a_I σ 220 5) + x1))], [.int x1, .ref 222], σ)) else b_R C kX6_name [] (53, [some (.ref 220), some (.int x1), some (.int ((a_I σ 220 5) + x1))], [.int x1, .ref 222], σ))) else some (.inl (some (.ref 222)), σ)) := by
  refine (e_iload_n (code := kX6_name) (pc := 2) rfl rfl).trans ?_
  refine (e_aload_n (code := kX6_name) (pc := 3) rfl rfl).trans ?_
  refine (e_getR (code := kX6_name) (pc := 4) (c := 8) rfl (sk_220 (σ := σ) h) (sr_220_7 (σ := σ) h)).trans ?_
  refine (e_alen (code := kX6_name) (pc := 7) rfl (by rw [show a_kd _ 222 = 1 from (sk_222 (σ := σ) h)]; exact ⟨rfl, rfl⟩) (sl_222 (σ := σ) h) (Nat.le_of_ble_eq_true rfl)).trans ?_
  refine (e_icge (code := kX6_name) (pc := 8) rfl).trans ?_
  refine b_ite ?_ ?_
  · refine (e_aload_n (code := kX6_name) (pc := 11) rfl rfl).trans ?_
    refine (e_getI (code := kX6_name) (pc := 12) (c := 8) rfl (sk_220 (σ := σ) h) rfl).trans ?_
    refine (e_iload_n (code := kX6_name) (pc := 15) rfl rfl).trans ?_
    refine (e_iadd (code := kX6_name) (pc := 16) rfl).trans ?_
    refine (e_istore_n (code := kX6_name) (pc := 17) rfl rfl rfl).trans ?_
    refine (e_aload_n (code := kX6_name) (pc := 18) rfl rfl).trans ?_
    refine (e_getR (code := kX6_name) (pc := 19) (c := 8) rfl (sk_220 (σ := σ) h) (sr_220_7 (σ := σ) h)).trans ?_
    refine (e_iload_n (code := kX6_name) (pc := 22) rfl rfl).trans ?_
    refine (e_iload_n (code := kX6_name) (pc := 23) rfl rfl).trans ?_
    refine (e_iflt (code := kX6_name) (pc := 24) rfl).trans ?_
    refine b_ite ?_ ?_
    · rfl
    · refine (e_iload_n (code := kX6_name) (pc := 27) rfl rfl).trans ?_
      refine (e_aload_n (code := kX6_name) (pc := 28) rfl rfl).trans ?_
      refine (e_getI (code := kX6_name) (pc := 29) (c := 8) rfl (sk_220 (σ := σ) h) rfl).trans ?_
      refine (e_icge (code := kX6_name) (pc := 32) rfl).trans ?_
      refine b_ite ?_ ?_
      · refine (e_iload_n (code := kX6_name) (pc := 35) rfl rfl).trans ?_
        refine (e_aload_n (code := kX6_name) (pc := 36) rfl rfl).trans ?_
        refine (e_getR (code := kX6_name) (pc := 37) (c := 8) rfl (sk_220 (σ := σ) h) (sr_220_0 (σ := σ) h)).trans ?_
        refine (e_alen (code := kX6_name) (pc := 40) rfl (by rw [show a_kd _ 221 = 1 from (sk_221 (σ := σ) h)]; exact ⟨rfl, rfl⟩) (sl_221 (σ := σ) h) (Nat.le_of_ble_eq_true rfl)).trans ?_
        refine (e_icge (code := kX6_name) (pc := 41) rfl).trans ?_
        refine b_ite ?_ ?_
        · refine (e_aload_n (code := kX6_name) (pc := 44) rfl rfl).trans ?_
          refine (e_getR (code := kX6_name) (pc := 45) (c := 8) rfl (sk_220 (σ := σ) h) (sr_220_0 (σ := σ) h)).trans ?_
          refine (e_iload_n (code := kX6_name) (pc := 48) rfl rfl).trans ?_
          refine (e_iaload (code := kX6_name) (pc := 49) rfl (.inl (sk_221 (σ := σ) h)) (sl_221 (σ := σ) h)).trans ?_
          refine b_gd_c ?_
          refine (e_goto (code := kX6_name) (pc := 50) rfl).trans ?_
          rfl
        · rfl
      · rfl
  · refine (e_aload_n (code := kX6_name) (pc := 61) rfl rfl).trans ?_
    refine (e_getR (code := kX6_name) (pc := 62) (c := 8) rfl (sk_220 (σ := σ) h) (sr_220_7 (σ := σ) h)).trans ?_
    exact e_areturnR rfl
theorem b_X6_name_53 {C : aCall} {σ : aSt} {x1 x2 y0 : Int32} : b_R C kX6_name [] (53, [some (.ref 220), some (.int x1), some (.int x2)], [.int y0, .ref 222], σ) = b_R C kX6_name [] (54, [some (.ref 220), some (.int x1), some (.int x2)], [.int (nI 0), .int y0, .ref 222], σ) := by
  refine (e_iconst (code := kX6_name) (pc := 53) rfl).trans ?_
  rfl
theorem b_X6_name_54 {C : aCall} {σ : aSt} {x1 x2 y0 y1 : Int32} (h : Sh σ) : b_R C kX6_name [] (54, [some (.ref 220), some (.int x1), some (.int x2)], [.int y0, .int y1, .ref 222], σ) = b_gd (a_in y1 8) (b_R C kX6_name [] (2, [some (.ref 220), some (.int (x1 + nI 1)), some (.int x2)], [], (a_setI σ 222 (Int32.toNatClampNeg y1) y0))) := by
  refine (e_iastore (code := kX6_name) (pc := 54) rfl (sk_222 (σ := σ) h) (h_100 rfl) (sl_222 (σ := σ) h)).trans ?_
  refine b_gd_c ?_
  refine (e_iinc (code := kX6_name) (pc := 55) (σ := (a_setI σ 222 (Int32.toNatClampNeg y1) y0)) rfl rfl rfl rfl).trans ?_
  refine (e_goto (code := kX6_name) (pc := 58) (σ := (a_setI σ 222 (Int32.toNatClampNeg y1) y0)) rfl).trans ?_
  rfl
theorem n_X6_isSign {P : aCall} {d : Nat} {σ : aSt} {x1 : Int32} (hd : 1 ≤ d) : a_call a_tab P d 24 [.ref 220, .int x1] σ = b_R (a_call a_tab P (d - 1)) kX6_isSign [] (0, [some (.ref 220), some (.int x1)], [], σ) := e_call hd at_X6_isSign rfl
theorem b_X6_isSign_0 {C : aCall} {σ : aSt} {x1 : Int32} (h : Sh σ) : b_R C kX6_isSign [] (0, [some (.ref 220), some (.int x1)], [], σ) = (if (a_I σ 220 4) = (nI 3) then (if (a_I σ 220 6) = x1 then b_R C kX6_isSign [] (21, [some (.ref 220), some (.int x1)], [.int (nI 1)], σ) else b_R C kX6_isSign [] (20, [some (.ref 220), some (.int x1)], [], σ)) else b_R C kX6_isSign [] (20, [some (.ref 220), some (.int x1)], [], σ)) := by
  refine (e_aload_n (code := kX6_isSign) (pc := 0) rfl rfl).trans ?_
  refine (e_getI (code := kX6_isSign) (pc := 1) (c := 8) rfl (sk_220 (σ := σ) h) rfl).trans ?_
  refine (e_iconst (code := kX6_isSign) (pc := 4) rfl).trans ?_
  refine (e_icne (code := kX6_isSign) (pc := 5) rfl).trans ?_
  refine b_ite ?_ ?_
  · refine (e_aload_n (code := kX6_isSign) (pc := 8) rfl rfl).trans ?_
    refine (e_getI (code := kX6_isSign) (pc := 9) (c := 8) rfl (sk_220 (σ := σ) h) rfl).trans ?_
    refine (e_iload_n (code := kX6_isSign) (pc := 12) rfl rfl).trans ?_
    refine (e_icne (code := kX6_isSign) (pc := 13) rfl).trans ?_
    refine b_ite ?_ ?_
    · refine (e_iconst (code := kX6_isSign) (pc := 16) rfl).trans ?_
      refine (e_goto (code := kX6_isSign) (pc := 17) rfl).trans ?_
      rfl
    · rfl
  · rfl
theorem b_X6_isSign_20 {C : aCall} {σ : aSt} {x1 : Int32} : b_R C kX6_isSign [] (20, [some (.ref 220), some (.int x1)], [], σ) = b_R C kX6_isSign [] (21, [some (.ref 220), some (.int x1)], [.int (nI 0)], σ) := by
  refine (e_iconst (code := kX6_isSign) (pc := 20) rfl).trans ?_
  rfl
theorem b_X6_isSign_21 {C : aCall} {σ : aSt} {x1 y0 : Int32} : b_R C kX6_isSign [] (21, [some (.ref 220), some (.int x1)], [.int y0], σ) = b_gd (y0 = 0 ∨ y0 = 1) (some (.inl (some (.int y0)), σ)) := by
  exact e_zreturn rfl
theorem n_X6_isWord_ {P : aCall} {d : Nat} {σ : aSt} {s1 : Nat} (hd : 1 ≤ d) : a_call a_tab P d 25 [.ref 220, .ref s1] σ = b_R (a_call a_tab P (d - 1)) kX6_isWord_ [] (0, [some (.ref 220), some (.ref s1), none, none], [], σ) := e_call hd at_X6_isWord_ rfl
theorem b_X6_isWord__0 {C : aCall} {σ : aSt} {s1 : Nat} (h : Sh σ) : b_R C kX6_isWord_ [] (0, [some (.ref 220), some (.ref s1), none, none], [], σ) = (if (a_I σ 220 4) = (nI 1) then b_G C kX6_isWord_ [] 18 21 [some (.ref 220), some (.ref s1), none, none] [.int ((a_I σ 220 3) - (a_I σ 220 5))] (C 1007 [.ref s1] σ) else b_R C kX6_isWord_ [] (24, [some (.ref 220), some (.ref s1), none, none], [], σ)) := by
  refine (e_aload_n (code := kX6_isWord_) (pc := 0) rfl rfl).trans ?_
  refine (e_getI (code := kX6_isWord_) (pc := 1) (c := 8) rfl (sk_220 (σ := σ) h) rfl).trans ?_
  refine (e_iconst (code := kX6_isWord_) (pc := 4) rfl).trans ?_
  refine (e_icne (code := kX6_isWord_) (pc := 5) rfl).trans ?_
  refine b_ite ?_ ?_
  · refine (e_aload_n (code := kX6_isWord_) (pc := 8) rfl rfl).trans ?_
    refine (e_getI (code := kX6_isWord_) (pc := 9) (c := 8) rfl (sk_220 (σ := σ) h) rfl).trans ?_
    refine (e_aload_n (code := kX6_isWord_) (pc := 12) rfl rfl).trans ?_
    refine (e_getI (code := kX6_isWord_) (pc := 13) (c := 8) rfl (sk_220 (σ := σ) h) rfl).trans ?_
    refine (e_isub (code := kX6_isWord_) (pc := 16) rfl).trans ?_
    refine (e_aload_n (code := kX6_isWord_) (pc := 17) rfl rfl).trans ?_
    exact (e_callP (code := kX6_isWord_) (pc := 18) (len := 3) (k := 1007) (n := 1) (as := [.ref s1]) (st0 := [.int ((a_I σ 220 3) - (a_I σ 220 5))]) rfl rfl rfl rfl)
  · rfl
theorem b_X6_isWord__21 {C : aCall} {σ : aSt} {s1 : Nat} {y0 y1 : Int32} : b_R C kX6_isWord_ [] (21, [some (.ref 220), some (.ref s1), none, none], [.int y0, .int y1], σ) = (if y1 = y0 then b_R C kX6_isWord_ [] (28, [some (.ref 220), some (.ref s1), some (.int (nI 0)), none], [], σ) else b_R C kX6_isWord_ [] (24, [some (.ref 220), some (.ref s1), none, none], [], σ)) := by
  refine (e_iceq (code := kX6_isWord_) (pc := 21) rfl).trans ?_
  refine b_ite ?_ ?_
  · refine (e_iconst (code := kX6_isWord_) (pc := 26) rfl).trans ?_
    refine (e_istore_n (code := kX6_isWord_) (pc := 27) rfl rfl rfl).trans ?_
    rfl
  · rfl
theorem b_X6_isWord__24 {C : aCall} {σ : aSt} {s1 : Nat} : b_R C kX6_isWord_ [] (24, [some (.ref 220), some (.ref s1), none, none], [], σ) = some (.inl (some (.int (nI 0))), σ) := by
  refine (e_iconst (code := kX6_isWord_) (pc := 24) rfl).trans ?_
  exact (e_zreturn rfl).trans (b_gd_t (by decide))
theorem b_X6_isWord__28 {C : aCall} {σ : aSt} {s1 : Nat} {x2 : Int32} {o3 : Option Value} : b_R C kX6_isWord_ [] (28, [some (.ref 220), some (.ref s1), some (.int x2), o3], [], σ) = b_G C kX6_isWord_ [] 30 33 [some (.ref 220), some (.ref s1), some (.int x2), o3] [.int x2] (C 1007 [.ref s1] σ) := by
  refine (e_iload_n (code := kX6_isWord_) (pc := 28) rfl rfl).trans ?_
  refine (e_aload_n (code := kX6_isWord_) (pc := 29) rfl rfl).trans ?_
  exact (e_callP (code := kX6_isWord_) (pc := 30) (len := 3) (k := 1007) (n := 1) (as := [.ref s1]) (st0 := [.int x2]) rfl rfl rfl rfl)
theorem b_X6_isWord__33 {C : aCall} {σ : aSt} {s1 : Nat} {x2 y0 y1 : Int32} {o3 : Option Value} (h : Sh σ) : b_R C kX6_isWord_ [] (33, [some (.ref 220), some (.ref s1), some (.int x2), o3], [.int y0, .int y1], σ) = (if y1 < y0 then (if ((a_I σ 220 5) + x2) < 0 then b_R C kX6_isWord_ [] (70, [some (.ref 220), some (.ref s1), some (.int x2), some (.int ((a_I σ 220 5) + x2))], [], σ) else (if ((a_I σ 220 5) + x2) < (nI 900) then b_gd (a_in ((a_I σ 220 5) + x2) 900) (b_G C kX6_isWord_ [] 64 67 [some (.ref 220), some (.ref s1), some (.int x2), some (.int ((a_I σ 220 5) + x2))] [.int (a_I σ 221 (Int32.toNatClampNeg ((a_I σ 220 5) + x2)))] (C 1008 [.ref s1, .int x2] σ)) else b_R C kX6_isWord_ [] (70, [some (.ref 220), some (.ref s1), some (.int x2), some (.int ((a_I σ 220 5) + x2))], [], σ))) else some (.inl (some (.int (nI 1))), σ)) := by
  refine (e_icge (code := kX6_isWord_) (pc := 33) rfl).trans ?_
  refine b_ite ?_ ?_
  · refine (e_aload_n (code := kX6_isWord_) (pc := 36) rfl rfl).trans ?_
    refine (e_getI (code := kX6_isWord_) (pc := 37) (c := 8) rfl (sk_220 (σ := σ) h) rfl).trans ?_
    refine (e_iload_n (code := kX6_isWord_) (pc := 40) rfl rfl).trans ?_
    refine (e_iadd (code := kX6_isWord_) (pc := 41) rfl).trans ?_
    refine (e_istore_n (code := kX6_isWord_) (pc := 42) rfl rfl rfl).trans ?_
    refine (e_iload_n (code := kX6_isWord_) (pc := 43) rfl rfl).trans ?_
    refine (e_iflt (code := kX6_isWord_) (pc := 44) rfl).trans ?_
    refine b_ite ?_ ?_
    · rfl
    · refine (e_iload_n (code := kX6_isWord_) (pc := 47) rfl rfl).trans ?_
      refine (e_aload_n (code := kX6_isWord_) (pc := 48) rfl rfl).trans ?_
      refine (e_getR (code := kX6_isWord_) (pc := 49) (c := 8) rfl (sk_220 (σ := σ) h) (sr_220_0 (σ := σ) h)).trans ?_
      refine (e_alen (code := kX6_isWord_) (pc := 52) rfl (by rw [show a_kd _ 221 = 1 from (sk_221 (σ := σ) h)]; exact ⟨rfl, rfl⟩) (sl_221 (σ := σ) h) (Nat.le_of_ble_eq_true rfl)).trans ?_
      refine (e_icge (code := kX6_isWord_) (pc := 53) rfl).trans ?_
      refine b_ite ?_ ?_
      · refine (e_aload_n (code := kX6_isWord_) (pc := 56) rfl rfl).trans ?_
        refine (e_getR (code := kX6_isWord_) (pc := 57) (c := 8) rfl (sk_220 (σ := σ) h) (sr_220_0 (σ := σ) h)).trans ?_
        refine (e_iload_n (code := kX6_isWord_) (pc := 60) rfl rfl).trans ?_
        refine (e_iaload (code := kX6_isWord_) (pc := 61) rfl (.inl (sk_221 (σ := σ) h)) (sl_221 (σ := σ) h)).trans ?_
        refine b_gd_c ?_
        refine (e_aload_n (code := kX6_isWord_) (pc := 62) rfl rfl).trans ?_
        refine (e_iload_n (code := kX6_isWord_) (pc := 63) rfl rfl).trans ?_
        exact (e_callP (code := kX6_isWord_) (pc := 64) (len := 3) (k := 1008) (n := 2) (as := [.ref s1, .int x2]) (st0 := [.int (a_I σ 221 (Int32.toNatClampNeg ((a_I σ 220 5) + x2)))]) rfl rfl rfl rfl)
      · rfl
  · refine (e_iconst (code := kX6_isWord_) (pc := 78) rfl).trans ?_
    exact (e_zreturn rfl).trans (b_gd_t (by decide))
theorem b_X6_isWord__67 {C : aCall} {σ : aSt} {s1 : Nat} {x2 x3 y0 y1 : Int32} : b_R C kX6_isWord_ [] (67, [some (.ref 220), some (.ref s1), some (.int x2), some (.int x3)], [.int y0, .int y1], σ) = (if y1 = y0 then b_R C kX6_isWord_ [] (28, [some (.ref 220), some (.ref s1), some (.int (x2 + nI 1)), some (.int x3)], [], σ) else b_R C kX6_isWord_ [] (70, [some (.ref 220), some (.ref s1), some (.int x2), some (.int x3)], [], σ)) := by
  refine (e_iceq (code := kX6_isWord_) (pc := 67) rfl).trans ?_
  refine b_ite ?_ ?_
  · refine (e_iinc (code := kX6_isWord_) (pc := 72) rfl rfl rfl rfl).trans ?_
    refine (e_goto (code := kX6_isWord_) (pc := 75) rfl).trans ?_
    rfl
  · rfl
theorem b_X6_isWord__70 {C : aCall} {σ : aSt} {s1 : Nat} {x2 x3 : Int32} : b_R C kX6_isWord_ [] (70, [some (.ref 220), some (.ref s1), some (.int x2), some (.int x3)], [], σ) = some (.inl (some (.int (nI 0))), σ) := by
  refine (e_iconst (code := kX6_isWord_) (pc := 70) rfl).trans ?_
  exact (e_zreturn rfl).trans (b_gd_t (by decide))
theorem n_X6_failed {P : aCall} {d : Nat} {σ : aSt} (hd : 1 ≤ d) : a_call a_tab P d 26 [.ref 220] σ = b_R (a_call a_tab P (d - 1)) kX6_failed [] (0, [some (.ref 220)], [], σ) := e_call hd at_X6_failed rfl
theorem b_X6_failed_0 {C : aCall} {σ : aSt} (h : Sh σ) : b_R C kX6_failed [] (0, [some (.ref 220)], [], σ) = (if (a_I σ 220 8) = 0 then b_R C kX6_failed [] (12, [some (.ref 220)], [.int (nI 0)], σ) else b_R C kX6_failed [] (12, [some (.ref 220)], [.int (nI 1)], σ)) := by
  refine (e_aload_n (code := kX6_failed) (pc := 0) rfl rfl).trans ?_
  refine (e_getI (code := kX6_failed) (pc := 1) (c := 8) rfl (sk_220 (σ := σ) h) rfl).trans ?_
  refine (e_ifeq (code := kX6_failed) (pc := 4) rfl).trans ?_
  refine b_ite ?_ ?_
  · refine (e_iconst (code := kX6_failed) (pc := 11) rfl).trans ?_
    rfl
  · refine (e_iconst (code := kX6_failed) (pc := 7) rfl).trans ?_
    refine (e_goto (code := kX6_failed) (pc := 8) rfl).trans ?_
    rfl
theorem b_X6_failed_12 {C : aCall} {σ : aSt} {y0 : Int32} : b_R C kX6_failed [] (12, [some (.ref 220)], [.int y0], σ) = b_gd (y0 = 0 ∨ y0 = 1) (some (.inl (some (.int y0)), σ)) := by
  exact e_zreturn rfl
theorem n_X6_fail {P : aCall} {d : Nat} {σ : aSt} {x1 : Int32} (hd : 1 ≤ d) : a_call a_tab P d 27 [.ref 220, .int x1] σ = b_R (a_call a_tab P (d - 1)) kX6_fail [] (0, [some (.ref 220), some (.int x1)], [], σ) := e_call hd at_X6_fail rfl
theorem b_X6_fail_0 {C : aCall} {σ : aSt} {x1 : Int32} (h : Sh σ) : b_R C kX6_fail [] (0, [some (.ref 220), some (.int x1)], [], σ) = (if (a_I σ 220 8) = 0 then b_R C kX6_fail [] (20, [some (.ref 220), some (.int x1)], [], (a_setI (a_setI σ 220 8 x1) 220 9 (a_I (a_setI σ 220 8 x1) 220 5))) else b_R C kX6_fail [] (20, [some (.ref 220), some (.int x1)], [], σ)) := by
  refine (e_aload_n (code := kX6_fail) (pc := 0) rfl rfl).trans ?_
  refine (e_getI (code := kX6_fail) (pc := 1) (c := 8) rfl (sk_220 (σ := σ) h) rfl).trans ?_
  refine (e_ifne (code := kX6_fail) (pc := 4) rfl).trans ?_
  refine b_ite ?_ ?_
  · refine (e_aload_n (code := kX6_fail) (pc := 7) rfl rfl).trans ?_
    refine (e_iload_n (code := kX6_fail) (pc := 8) rfl rfl).trans ?_
    refine (e_putI (code := kX6_fail) (pc := 9) (c := 8) rfl (sk_220 (σ := σ) h) (h_100 rfl)).trans ?_
    refine (e_aload_n (code := kX6_fail) (pc := 12) (σ := (a_setI σ 220 8 x1)) rfl rfl).trans ?_
    refine (e_aload_n (code := kX6_fail) (pc := 13) (σ := (a_setI σ 220 8 x1)) rfl rfl).trans ?_
    refine (e_getI (code := kX6_fail) (pc := 14) (σ := (a_setI σ 220 8 x1)) (c := 8) rfl (sk_220 (σ := σ) h) rfl).trans ?_
    refine (e_putI (code := kX6_fail) (pc := 17) (σ := (a_setI σ 220 8 x1)) (c := 8) rfl (sk_220 (σ := σ) h) (h_100 rfl)).trans ?_
    rfl
  · rfl
theorem b_X6_fail_20 {C : aCall} {σ : aSt} {x1 : Int32} : b_R C kX6_fail [] (20, [some (.ref 220), some (.int x1)], [], σ) = some (.inl (some (.int (nI 0))), σ) := by
  refine (e_iconst (code := kX6_fail) (pc := 20) rfl).trans ?_
  exact (e_zreturn rfl).trans (b_gd_t (by decide))
theorem n_X6_takeWord {P : aCall} {d : Nat} {σ : aSt} {s1 : Nat} (hd : 1 ≤ d) : a_call a_tab P d 28 [.ref 220, .ref s1] σ = b_R (a_call a_tab P (d - 1)) kX6_takeWord [] (0, [some (.ref 220), some (.ref s1)], [], σ) := e_call hd at_X6_takeWord rfl
theorem b_X6_takeWord_0 {C : aCall} {σ : aSt} {s1 : Nat} (h : Sh σ) : b_R C kX6_takeWord [] (0, [some (.ref 220), some (.ref s1)], [], σ) = b_G C kX6_takeWord [] 2 5 [some (.ref 220), some (.ref s1)] [] (C 25 [.ref 220, .ref s1] σ) := by
  refine (e_aload_n (code := kX6_takeWord) (pc := 0) rfl rfl).trans ?_
  refine (e_aload_n (code := kX6_takeWord) (pc := 1) rfl rfl).trans ?_
  exact (e_callV (σ := σ) (code := kX6_takeWord) (pc := 2) (len := 3) (k := 25) (n := 2) (c := 18) (as := [.ref 220, .ref s1]) (st0 := []) rfl rfl rfl rfl rfl (sk_220 (σ := σ) h) rfl)
theorem b_X6_takeWord_5 {C : aCall} {σ : aSt} {s1 : Nat} {y0 : Int32} (h : Sh σ) : b_R C kX6_takeWord [] (5, [some (.ref 220), some (.ref s1)], [.int y0], σ) = (if y0 = 0 then b_G C kX6_takeWord [] 10 13 [some (.ref 220), some (.ref s1)] [] (C 27 [.ref 220, .int (nI 1)] σ) else b_G C kX6_takeWord [] 15 18 [some (.ref 220), some (.ref s1)] [] (C 18 [.ref 220] σ)) := by
  refine (e_ifne (code := kX6_takeWord) (pc := 5) rfl).trans ?_
  refine b_ite ?_ ?_
  · refine (e_aload_n (code := kX6_takeWord) (pc := 8) rfl rfl).trans ?_
    refine (e_iconst (code := kX6_takeWord) (pc := 9) rfl).trans ?_
    exact (e_callV (σ := σ) (code := kX6_takeWord) (pc := 10) (len := 3) (k := 27) (n := 2) (c := 18) (as := [.ref 220, .int (nI 1)]) (st0 := []) rfl rfl rfl rfl rfl (sk_220 (σ := σ) h) rfl)
  · refine (e_aload_n (code := kX6_takeWord) (pc := 14) rfl rfl).trans ?_
    exact (e_callV (σ := σ) (code := kX6_takeWord) (pc := 15) (len := 3) (k := 18) (n := 1) (c := 18) (as := [.ref 220]) (st0 := []) rfl rfl rfl rfl rfl (sk_220 (σ := σ) h) rfl)
theorem b_X6_takeWord_13 {C : aCall} {σ : aSt} {s1 : Nat} {y0 : Int32} : b_R C kX6_takeWord [] (13, [some (.ref 220), some (.ref s1)], [.int y0], σ) = b_gd (y0 = 0 ∨ y0 = 1) (some (.inl (some (.int y0)), σ)) := by
  exact e_zreturn rfl
theorem b_X6_takeWord_18 {C : aCall} {σ : aSt} {s1 : Nat} : b_R C kX6_takeWord [] (18, [some (.ref 220), some (.ref s1)], [], σ) = some (.inl (some (.int (nI 1))), σ) := by
  refine (e_iconst (code := kX6_takeWord) (pc := 18) rfl).trans ?_
  exact (e_zreturn rfl).trans (b_gd_t (by decide))
theorem n_X6_takeSign {P : aCall} {d : Nat} {σ : aSt} {x1 : Int32} (hd : 1 ≤ d) : a_call a_tab P d 29 [.ref 220, .int x1] σ = b_R (a_call a_tab P (d - 1)) kX6_takeSign [] (0, [some (.ref 220), some (.int x1)], [], σ) := e_call hd at_X6_takeSign rfl
theorem b_X6_takeSign_0 {C : aCall} {σ : aSt} {x1 : Int32} (h : Sh σ) : b_R C kX6_takeSign [] (0, [some (.ref 220), some (.int x1)], [], σ) = b_G C kX6_takeSign [] 2 5 [some (.ref 220), some (.int x1)] [] (C 24 [.ref 220, .int x1] σ) := by
  refine (e_aload_n (code := kX6_takeSign) (pc := 0) rfl rfl).trans ?_
  refine (e_iload_n (code := kX6_takeSign) (pc := 1) rfl rfl).trans ?_
  exact (e_callV (σ := σ) (code := kX6_takeSign) (pc := 2) (len := 3) (k := 24) (n := 2) (c := 18) (as := [.ref 220, .int x1]) (st0 := []) rfl rfl rfl rfl rfl (sk_220 (σ := σ) h) rfl)
theorem b_X6_takeSign_5 {C : aCall} {σ : aSt} {x1 y0 : Int32} (h : Sh σ) : b_R C kX6_takeSign [] (5, [some (.ref 220), some (.int x1)], [.int y0], σ) = (if y0 = 0 then b_G C kX6_takeSign [] 10 13 [some (.ref 220), some (.int x1)] [] (C 27 [.ref 220, .int (nI 1)] σ) else b_G C kX6_takeSign [] 15 18 [some (.ref 220), some (.int x1)] [] (C 18 [.ref 220] σ)) := by
  refine (e_ifne (code := kX6_takeSign) (pc := 5) rfl).trans ?_
  refine b_ite ?_ ?_
  · refine (e_aload_n (code := kX6_takeSign) (pc := 8) rfl rfl).trans ?_
    refine (e_iconst (code := kX6_takeSign) (pc := 9) rfl).trans ?_
    exact (e_callV (σ := σ) (code := kX6_takeSign) (pc := 10) (len := 3) (k := 27) (n := 2) (c := 18) (as := [.ref 220, .int (nI 1)]) (st0 := []) rfl rfl rfl rfl rfl (sk_220 (σ := σ) h) rfl)
  · refine (e_aload_n (code := kX6_takeSign) (pc := 14) rfl rfl).trans ?_
    exact (e_callV (σ := σ) (code := kX6_takeSign) (pc := 15) (len := 3) (k := 18) (n := 1) (c := 18) (as := [.ref 220]) (st0 := []) rfl rfl rfl rfl rfl (sk_220 (σ := σ) h) rfl)
theorem b_X6_takeSign_13 {C : aCall} {σ : aSt} {x1 y0 : Int32} : b_R C kX6_takeSign [] (13, [some (.ref 220), some (.int x1)], [.int y0], σ) = b_gd (y0 = 0 ∨ y0 = 1) (some (.inl (some (.int y0)), σ)) := by
  exact e_zreturn rfl
theorem b_X6_takeSign_18 {C : aCall} {σ : aSt} {x1 : Int32} : b_R C kX6_takeSign [] (18, [some (.ref 220), some (.int x1)], [], σ) = some (.inl (some (.int (nI 1))), σ) := by
  refine (e_iconst (code := kX6_takeSign) (pc := 18) rfl).trans ?_
  exact (e_zreturn rfl).trans (b_gd_t (by decide))
theorem n_X6_takeEnd {P : aCall} {d : Nat} {σ : aSt} (hd : 1 ≤ d) : a_call a_tab P d 30 [.ref 220] σ = b_R (a_call a_tab P (d - 1)) kX6_takeEnd [] (0, [some (.ref 220)], [], σ) := e_call hd at_X6_takeEnd rfl
theorem b_X6_takeEnd_0 {C : aCall} {σ : aSt} (h : Sh σ) : b_R C kX6_takeEnd [] (0, [some (.ref 220)], [], σ) = b_G C kX6_takeEnd [] 1 4 [some (.ref 220)] [] (C 19 [.ref 220] σ) := by
  refine (e_aload_n (code := kX6_takeEnd) (pc := 0) rfl rfl).trans ?_
  exact (e_callV (σ := σ) (code := kX6_takeEnd) (pc := 1) (len := 3) (k := 19) (n := 1) (c := 18) (as := [.ref 220]) (st0 := []) rfl rfl rfl rfl rfl (sk_220 (σ := σ) h) rfl)
theorem b_X6_takeEnd_4 {C : aCall} {σ : aSt} {y0 : Int32} (h : Sh σ) : b_R C kX6_takeEnd [] (4, [some (.ref 220)], [.int y0], σ) = (if y0 = 0 then b_G C kX6_takeEnd [] 9 12 [some (.ref 220)] [] (C 27 [.ref 220, .int (nI 1)] σ) else b_R C kX6_takeEnd [] (15, [some (.ref 220)], [], σ)) := by
  refine (e_ifne (code := kX6_takeEnd) (pc := 4) rfl).trans ?_
  refine b_ite ?_ ?_
  · refine (e_aload_n (code := kX6_takeEnd) (pc := 7) rfl rfl).trans ?_
    refine (e_iconst (code := kX6_takeEnd) (pc := 8) rfl).trans ?_
    exact (e_callV (σ := σ) (code := kX6_takeEnd) (pc := 9) (len := 3) (k := 27) (n := 2) (c := 18) (as := [.ref 220, .int (nI 1)]) (st0 := []) rfl rfl rfl rfl rfl (sk_220 (σ := σ) h) rfl)
  · rfl
theorem b_X6_takeEnd_12 {C : aCall} {σ : aSt} {y0 : Int32} : b_R C kX6_takeEnd [] (12, [some (.ref 220)], [.int y0], σ) = (if y0 = 0 then b_R C kX6_takeEnd [] (20, [some (.ref 220)], [.int (nI 0)], σ) else b_R C kX6_takeEnd [] (15, [some (.ref 220)], [], σ)) := by
  refine (e_ifeq (code := kX6_takeEnd) (pc := 12) rfl).trans ?_
  refine b_ite ?_ ?_
  · refine (e_iconst (code := kX6_takeEnd) (pc := 19) rfl).trans ?_
    rfl
  · rfl
theorem b_X6_takeEnd_15 {C : aCall} {σ : aSt} : b_R C kX6_takeEnd [] (15, [some (.ref 220)], [], σ) = b_R C kX6_takeEnd [] (20, [some (.ref 220)], [.int (nI 1)], σ) := by
  refine (e_iconst (code := kX6_takeEnd) (pc := 15) rfl).trans ?_
  refine (e_goto (code := kX6_takeEnd) (pc := 16) rfl).trans ?_
  rfl
theorem b_X6_takeEnd_20 {C : aCall} {σ : aSt} {y0 : Int32} : b_R C kX6_takeEnd [] (20, [some (.ref 220)], [.int y0], σ) = b_gd (y0 = 0 ∨ y0 = 1) (some (.inl (some (.int y0)), σ)) := by
  exact e_zreturn rfl
theorem n_X6_takeNumber {P : aCall} {d : Nat} {σ : aSt} {x1 x2 : Int32} (hd : 1 ≤ d) : a_call a_tab P d 31 [.ref 220, .int x1, .int x2] σ = b_R (a_call a_tab P (d - 1)) kX6_takeNumber [] (0, [some (.ref 220), some (.int x1), some (.int x2), none], [], σ) := e_call hd at_X6_takeNumber rfl
theorem b_X6_takeNumber_0 {C : aCall} {σ : aSt} {x1 x2 : Int32} (h : Sh σ) : b_R C kX6_takeNumber [] (0, [some (.ref 220), some (.int x1), some (.int x2), none], [], σ) = (if (a_I σ 220 4) = (nI 2) then (if (a_I σ 220 6) < x1 then b_R C kX6_takeNumber [] (31, [some (.ref 220), some (.int x1), some (.int x2), some (.int (a_I σ 220 6))], [], σ) else (if x2 < (a_I σ 220 6) then b_R C kX6_takeNumber [] (31, [some (.ref 220), some (.int x1), some (.int x2), some (.int (a_I σ 220 6))], [], σ) else b_G C kX6_takeNumber [] 40 43 [some (.ref 220), some (.int x1), some (.int x2), some (.int (a_I σ 220 6))] [] (C 18 [.ref 220] σ))) else b_G C kX6_takeNumber [] 10 13 [some (.ref 220), some (.int x1), some (.int x2), none] [] (C 27 [.ref 220, .int (nI 1)] σ)) := by
  refine (e_aload_n (code := kX6_takeNumber) (pc := 0) rfl rfl).trans ?_
  refine (e_getI (code := kX6_takeNumber) (pc := 1) (c := 8) rfl (sk_220 (σ := σ) h) rfl).trans ?_
  refine (e_iconst (code := kX6_takeNumber) (pc := 4) rfl).trans ?_
  refine (e_iceq (code := kX6_takeNumber) (pc := 5) rfl).trans ?_
  refine b_ite ?_ ?_
  · refine (e_aload_n (code := kX6_takeNumber) (pc := 16) rfl rfl).trans ?_
    refine (e_getI (code := kX6_takeNumber) (pc := 17) (c := 8) rfl (sk_220 (σ := σ) h) rfl).trans ?_
    refine (e_istore_n (code := kX6_takeNumber) (pc := 20) rfl rfl rfl).trans ?_
    refine (e_iload_n (code := kX6_takeNumber) (pc := 21) rfl rfl).trans ?_
    refine (e_iload_n (code := kX6_takeNumber) (pc := 22) rfl rfl).trans ?_
    refine (e_iclt (code := kX6_takeNumber) (pc := 23) rfl).trans ?_
    refine b_ite ?_ ?_
    · rfl
    · refine (e_iload_n (code := kX6_takeNumber) (pc := 26) rfl rfl).trans ?_
      refine (e_iload_n (code := kX6_takeNumber) (pc := 27) rfl rfl).trans ?_
      refine (e_icle (code := kX6_takeNumber) (pc := 28) rfl).trans ?_
      refine b_ite ?_ ?_
      · rfl
      · refine (e_aload_n (code := kX6_takeNumber) (pc := 39) rfl rfl).trans ?_
        exact (e_callV (σ := σ) (code := kX6_takeNumber) (pc := 40) (len := 3) (k := 18) (n := 1) (c := 18) (as := [.ref 220]) (st0 := []) rfl rfl rfl rfl rfl (sk_220 (σ := σ) h) rfl)
  · refine (e_aload_n (code := kX6_takeNumber) (pc := 8) rfl rfl).trans ?_
    refine (e_iconst (code := kX6_takeNumber) (pc := 9) rfl).trans ?_
    exact (e_callV (σ := σ) (code := kX6_takeNumber) (pc := 10) (len := 3) (k := 27) (n := 2) (c := 18) (as := [.ref 220, .int (nI 1)]) (st0 := []) rfl rfl rfl rfl rfl (sk_220 (σ := σ) h) rfl)
theorem b_X6_takeNumber_13 {C : aCall} {σ : aSt} {x1 x2 y0 : Int32} : b_R C kX6_takeNumber [] (13, [some (.ref 220), some (.int x1), some (.int x2), none], [.int y0], σ) = some (.inl (some (.int ((-1)))), σ) := by
  refine (e_pop (code := kX6_takeNumber) (pc := 13) rfl rfl).trans ?_
  refine (e_iconst (code := kX6_takeNumber) (pc := 14) rfl).trans ?_
  exact e_ireturn rfl
theorem b_X6_takeNumber_31 {C : aCall} {σ : aSt} {x1 x2 x3 : Int32} (h : Sh σ) : b_R C kX6_takeNumber [] (31, [some (.ref 220), some (.int x1), some (.int x2), some (.int x3)], [], σ) = b_G C kX6_takeNumber [] 33 36 [some (.ref 220), some (.int x1), some (.int x2), some (.int x3)] [] (C 27 [.ref 220, .int (nI 2)] σ) := by
  refine (e_aload_n (code := kX6_takeNumber) (pc := 31) rfl rfl).trans ?_
  refine (e_iconst (code := kX6_takeNumber) (pc := 32) rfl).trans ?_
  exact (e_callV (σ := σ) (code := kX6_takeNumber) (pc := 33) (len := 3) (k := 27) (n := 2) (c := 18) (as := [.ref 220, .int (nI 2)]) (st0 := []) rfl rfl rfl rfl rfl (sk_220 (σ := σ) h) rfl)
theorem b_X6_takeNumber_36 {C : aCall} {σ : aSt} {x1 x2 x3 y0 : Int32} : b_R C kX6_takeNumber [] (36, [some (.ref 220), some (.int x1), some (.int x2), some (.int x3)], [.int y0], σ) = some (.inl (some (.int ((-1)))), σ) := by
  refine (e_pop (code := kX6_takeNumber) (pc := 36) rfl rfl).trans ?_
  refine (e_iconst (code := kX6_takeNumber) (pc := 37) rfl).trans ?_
  exact e_ireturn rfl
theorem b_X6_takeNumber_43 {C : aCall} {σ : aSt} {x1 x2 x3 : Int32} : b_R C kX6_takeNumber [] (43, [some (.ref 220), some (.int x1), some (.int x2), some (.int x3)], [], σ) = some (.inl (some (.int x3)), σ) := by
  refine (e_iload_n (code := kX6_takeNumber) (pc := 43) rfl rfl).trans ?_
  exact e_ireturn rfl
