/-! equations of the blocks, by program (wip/whole/tools/gen21.py) -/
theorem n_X4_init {P : aCall} {d : Nat} {σ : aSt} {a0 : Nat} {x1 x2 : Int32} (hd : 1 ≤ d) : a_call a_tab P d 0 [.ref a0, .int x1, .int x2] σ = b_R (a_call a_tab P (d - 1)) kX4_init [] (0, [some (.ref a0), some (.int x1), some (.int x2), none], [], σ) := e_call hd at_X4_init rfl
theorem b_X4_init_0 {C : aCall} {σ : aSt} {a0 : Nat} {x1 x2 : Int32} (hk0 : a_kd σ a0 = 16) (hn1 : 100 ≤ a0) : b_R C kX4_init [] (0, [some (.ref a0), some (.int x1), some (.int x2), none], [], σ) = b_R C kX4_init [] (13, [some (.ref a0), some (.int x1), some (.int x2), some (.int (x1 * x2))], [], (a_setI σ a0 1 x2)) := by
  refine (e_aload_n (code := kX4_init) (pc := 0) rfl rfl).trans ?_
  refine (e_objInit (code := kX4_init) (pc := 1) rfl rfl).trans ?_
  refine (e_iload_n (code := kX4_init) (pc := 4) rfl rfl).trans ?_
  refine (e_iload_n (code := kX4_init) (pc := 5) rfl rfl).trans ?_
  refine (e_imul (code := kX4_init) (pc := 6) rfl).trans ?_
  refine (e_istore_n (code := kX4_init) (pc := 7) rfl rfl rfl).trans ?_
  refine (e_aload_n (code := kX4_init) (pc := 8) rfl rfl).trans ?_
  refine (e_iload_n (code := kX4_init) (pc := 9) rfl rfl).trans ?_
  refine (e_putI (code := kX4_init) (pc := 10) (c := 6) rfl hk0 hn1).trans ?_
  rfl
theorem b_X4_init_13 {C : aCall} {σ : aSt} {a0 : Nat} {x1 x2 x3 : Int32} : b_R C kX4_init [] (13, [some (.ref a0), some (.int x1), some (.int x2), some (.int x3)], [], σ) = (if x3 < 0 then b_R C kX4_init [] (23, [some (.ref a0), some (.int x1), some (.int x2), some (.int x3)], [.int (nI 0), .ref a0], σ) else b_R C kX4_init [] (23, [some (.ref a0), some (.int x1), some (.int x2), some (.int x3)], [.int x3, .ref a0], σ)) := by
  refine (e_aload_n (code := kX4_init) (pc := 13) rfl rfl).trans ?_
  refine (e_iload_n (code := kX4_init) (pc := 14) rfl rfl).trans ?_
  refine (e_ifge (code := kX4_init) (pc := 15) rfl).trans ?_
  refine b_ite ?_ ?_
  · refine (e_iconst (code := kX4_init) (pc := 18) rfl).trans ?_
    refine (e_goto (code := kX4_init) (pc := 19) rfl).trans ?_
    rfl
  · refine (e_iload_n (code := kX4_init) (pc := 22) rfl rfl).trans ?_
    rfl
theorem b_X4_init_23 {C : aCall} {σ : aSt} {m0 a0 : Nat} {x1 x2 x3 y0 : Int32} (ha0 : ¬ y0 < 0) (hb0 : Int32.toNatClampNeg y0 = m0) (hc0 : m0 ≤ 65536) (hk3 : a_kd (a_new σ 1 m0 m0) a0 = 16) (hn4 : 100 ≤ a0) : b_R C kX4_init [] (23, [some (.ref a0), some (.int x1), some (.int x2), some (.int x3)], [.int y0, .ref a0], σ) = b_R C kX4_init [] (28, [some (.ref a0), some (.int x1), some (.int x2), some (.int x3)], [], (a_setR (a_new σ 1 m0 m0) a0 0 (some (a_n σ)))) := by
  refine (e_newarray (code := kX4_init) (pc := 23) (m := m0) rfl ha0 hb0 hc0).trans ?_
  refine (e_putR (code := kX4_init) (pc := 25) (σ := (a_new σ 1 m0 m0)) (c := 6) rfl hk3 hn4).trans ?_
  rfl
theorem b_X4_init_28 {C : aCall} {σ : aSt} {a0 : Nat} {x1 x2 x3 : Int32} : b_R C kX4_init [] (28, [some (.ref a0), some (.int x1), some (.int x2), some (.int x3)], [], σ) = some (.inl none, σ) := by
  exact e_return_ rfl
theorem n_X4_get {P : aCall} {d : Nat} {σ : aSt} {t : Nat} {x1 x2 : Int32} (hd : 1 ≤ d) : a_call a_tab P d 1 [.ref t, .int x1, .int x2] σ = b_R (a_call a_tab P (d - 1)) kX4_get [] (0, [some (.ref t), some (.int x1), some (.int x2), none, none], [], σ) := e_call hd at_X4_get rfl
theorem b_X4_get_0 {C : aCall} {σ : aSt} {t c_t N_t : Nat} {x1 x2 : Int32} (ht : Tb σ t c_t N_t) : b_R C kX4_get [] (0, [some (.ref t), some (.int x1), some (.int x2), none, none], [], σ) = (if x1 < 0 then b_R C kX4_get [] (37, [some (.ref t), some (.int x1), some (.int x2), some (.int ((x1 * (a_I σ t 1)) + x2)), none], [], σ) else (if x1 < (a_I σ t 2) then (if x2 < 0 then b_R C kX4_get [] (37, [some (.ref t), some (.int x1), some (.int x2), some (.int ((x1 * (a_I σ t 1)) + x2)), none], [], σ) else (if x2 < (a_I σ t 1) then b_R C kX4_get [] (38, [some (.ref t), some (.int x1), some (.int x2), some (.int ((x1 * (a_I σ t 1)) + x2)), none], [.int (nI 1)], σ) else b_R C kX4_get [] (37, [some (.ref t), some (.int x1), some (.int x2), some (.int ((x1 * (a_I σ t 1)) + x2)), none], [], σ))) else b_R C kX4_get [] (37, [some (.ref t), some (.int x1), some (.int x2), some (.int ((x1 * (a_I σ t 1)) + x2)), none], [], σ))) := by
  refine (e_iload_n (code := kX4_get) (pc := 0) rfl rfl).trans ?_
  refine (e_aload_n (code := kX4_get) (pc := 1) rfl rfl).trans ?_
  refine (e_getI (code := kX4_get) (pc := 2) (c := 6) rfl ht.1 rfl).trans ?_
  refine (e_imul (code := kX4_get) (pc := 5) rfl).trans ?_
  refine (e_iload_n (code := kX4_get) (pc := 6) rfl rfl).trans ?_
  refine (e_iadd (code := kX4_get) (pc := 7) rfl).trans ?_
  refine (e_istore_n (code := kX4_get) (pc := 8) rfl rfl rfl).trans ?_
  refine (e_iload_n (code := kX4_get) (pc := 9) rfl rfl).trans ?_
  refine (e_iflt (code := kX4_get) (pc := 10) rfl).trans ?_
  refine b_ite ?_ ?_
  · rfl
  · refine (e_iload_n (code := kX4_get) (pc := 13) rfl rfl).trans ?_
    refine (e_aload_n (code := kX4_get) (pc := 14) rfl rfl).trans ?_
    refine (e_getI (code := kX4_get) (pc := 15) (c := 6) rfl ht.1 rfl).trans ?_
    refine (e_icge (code := kX4_get) (pc := 18) rfl).trans ?_
    refine b_ite ?_ ?_
    · refine (e_iload_n (code := kX4_get) (pc := 21) rfl rfl).trans ?_
      refine (e_iflt (code := kX4_get) (pc := 22) rfl).trans ?_
      refine b_ite ?_ ?_
      · rfl
      · refine (e_iload_n (code := kX4_get) (pc := 25) rfl rfl).trans ?_
        refine (e_aload_n (code := kX4_get) (pc := 26) rfl rfl).trans ?_
        refine (e_getI (code := kX4_get) (pc := 27) (c := 6) rfl ht.1 rfl).trans ?_
        refine (e_icge (code := kX4_get) (pc := 30) rfl).trans ?_
        refine b_ite ?_ ?_
        · refine (e_iconst (code := kX4_get) (pc := 33) rfl).trans ?_
          refine (e_goto (code := kX4_get) (pc := 34) rfl).trans ?_
          rfl
        · rfl
    · rfl
theorem b_X4_get_37 {C : aCall} {σ : aSt} {t : Nat} {x1 x2 x3 : Int32} : b_R C kX4_get [] (37, [some (.ref t), some (.int x1), some (.int x2), some (.int x3), none], [], σ) = b_R C kX4_get [] (38, [some (.ref t), some (.int x1), some (.int x2), some (.int x3), none], [.int (nI 0)], σ) := by
  refine (e_iconst (code := kX4_get) (pc := 37) rfl).trans ?_
  rfl
theorem b_X4_get_38 {C : aCall} {σ : aSt} {t c_t N_t : Nat} {x1 x2 x3 y0 : Int32} (ht : Tb σ t c_t N_t) : b_R C kX4_get [] (38, [some (.ref t), some (.int x1), some (.int x2), some (.int x3), none], [.int y0], σ) = (if y0 = 0 then b_R C kX4_get [] (67, [some (.ref t), some (.int x1), some (.int x2), some (.int x3), some (.int y0)], [], σ) else (if x3 < 0 then b_R C kX4_get [] (67, [some (.ref t), some (.int x1), some (.int x2), some (.int x3), some (.int y0)], [], σ) else (if x3 < (nI N_t) then b_gd (a_in x3 N_t) (b_R C kX4_get [] (68, [some (.ref t), some (.int x1), some (.int x2), some (.int x3), some (.int y0)], [.int (a_I σ c_t (Int32.toNatClampNeg x3))], σ)) else b_R C kX4_get [] (67, [some (.ref t), some (.int x1), some (.int x2), some (.int x3), some (.int y0)], [], σ)))) := by
  refine (e_istore (code := kX4_get) (pc := 38) rfl rfl rfl).trans ?_
  refine (e_iload (code := kX4_get) (pc := 40) rfl rfl).trans ?_
  refine (e_ifeq (code := kX4_get) (pc := 42) rfl).trans ?_
  refine b_ite ?_ ?_
  · rfl
  · refine (e_iload_n (code := kX4_get) (pc := 45) rfl rfl).trans ?_
    refine (e_iflt (code := kX4_get) (pc := 46) rfl).trans ?_
    refine b_ite ?_ ?_
    · rfl
    · refine (e_iload_n (code := kX4_get) (pc := 49) rfl rfl).trans ?_
      refine (e_aload_n (code := kX4_get) (pc := 50) rfl rfl).trans ?_
      refine (e_getR (code := kX4_get) (pc := 51) (c := 6) rfl ht.1 ht.2.2.1).trans ?_
      refine (e_alen (code := kX4_get) (pc := 54) rfl (by rw [show a_kd _ c_t = 1 from ht.2.2.2.1]; exact ⟨rfl, rfl⟩) ht.2.2.2.2.2.1 ht.2.2.2.2.2.2).trans ?_
      refine (e_icge (code := kX4_get) (pc := 55) rfl).trans ?_
      refine b_ite ?_ ?_
      · refine (e_aload_n (code := kX4_get) (pc := 58) rfl rfl).trans ?_
        refine (e_getR (code := kX4_get) (pc := 59) (c := 6) rfl ht.1 ht.2.2.1).trans ?_
        refine (e_iload_n (code := kX4_get) (pc := 62) rfl rfl).trans ?_
        refine (e_iaload (code := kX4_get) (pc := 63) rfl (.inl ht.2.2.2.1) ht.2.2.2.2.2.1).trans ?_
        refine b_gd_c ?_
        refine (e_goto (code := kX4_get) (pc := 64) rfl).trans ?_
        rfl
      · rfl
theorem b_X4_get_67 {C : aCall} {σ : aSt} {t : Nat} {x1 x2 x3 x4 : Int32} : b_R C kX4_get [] (67, [some (.ref t), some (.int x1), some (.int x2), some (.int x3), some (.int x4)], [], σ) = b_R C kX4_get [] (68, [some (.ref t), some (.int x1), some (.int x2), some (.int x3), some (.int x4)], [.int (nI 0)], σ) := by
  refine (e_iconst (code := kX4_get) (pc := 67) rfl).trans ?_
  rfl
theorem b_X4_get_68 {C : aCall} {σ : aSt} {t : Nat} {x1 x2 x3 x4 y0 : Int32} : b_R C kX4_get [] (68, [some (.ref t), some (.int x1), some (.int x2), some (.int x3), some (.int x4)], [.int y0], σ) = some (.inl (some (.int y0)), σ) := by
  exact e_ireturn rfl
theorem n_X4_set {P : aCall} {d : Nat} {σ : aSt} {t : Nat} {x1 x2 x3 : Int32} (hd : 1 ≤ d) : a_call a_tab P d 2 [.ref t, .int x1, .int x2, .int x3] σ = b_R (a_call a_tab P (d - 1)) kX4_set [] (0, [some (.ref t), some (.int x1), some (.int x2), some (.int x3), none, none], [], σ) := e_call hd at_X4_set rfl
theorem b_X4_set_0 {C : aCall} {σ : aSt} {t c_t N_t : Nat} {x1 x2 x3 : Int32} (ht : Tb σ t c_t N_t) : b_R C kX4_set [] (0, [some (.ref t), some (.int x1), some (.int x2), some (.int x3), none, none], [], σ) = (if x1 < 0 then b_R C kX4_set [] (38, [some (.ref t), some (.int x1), some (.int x2), some (.int x3), some (.int ((x1 * (a_I σ t 1)) + x2)), none], [], σ) else (if x1 < (a_I σ t 2) then (if x2 < 0 then b_R C kX4_set [] (38, [some (.ref t), some (.int x1), some (.int x2), some (.int x3), some (.int ((x1 * (a_I σ t 1)) + x2)), none], [], σ) else (if x2 < (a_I σ t 1) then b_R C kX4_set [] (39, [some (.ref t), some (.int x1), some (.int x2), some (.int x3), some (.int ((x1 * (a_I σ t 1)) + x2)), none], [.int (nI 1)], σ) else b_R C kX4_set [] (38, [some (.ref t), some (.int x1), some (.int x2), some (.int x3), some (.int ((x1 * (a_I σ t 1)) + x2)), none], [], σ))) else b_R C kX4_set [] (38, [some (.ref t), some (.int x1), some (.int x2), some (.int x3), some (.int ((x1 * (a_I σ t 1)) + x2)), none], [], σ))) := by
  refine (e_iload_n (code := kX4_set) (pc := 0) rfl rfl).trans ?_
  refine (e_aload_n (code := kX4_set) (pc := 1) rfl rfl).trans ?_
  refine (e_getI (code := kX4_set) (pc := 2) (c := 6) rfl ht.1 rfl).trans ?_
  refine (e_imul (code := kX4_set) (pc := 5) rfl).trans ?_
  refine (e_iload_n (code := kX4_set) (pc := 6) rfl rfl).trans ?_
  refine (e_iadd (code := kX4_set) (pc := 7) rfl).trans ?_
  refine (e_istore (code := kX4_set) (pc := 8) rfl rfl rfl).trans ?_
  refine (e_iload_n (code := kX4_set) (pc := 10) rfl rfl).trans ?_
  refine (e_iflt (code := kX4_set) (pc := 11) rfl).trans ?_
  refine b_ite ?_ ?_
  · rfl
  · refine (e_iload_n (code := kX4_set) (pc := 14) rfl rfl).trans ?_
    refine (e_aload_n (code := kX4_set) (pc := 15) rfl rfl).trans ?_
    refine (e_getI (code := kX4_set) (pc := 16) (c := 6) rfl ht.1 rfl).trans ?_
    refine (e_icge (code := kX4_set) (pc := 19) rfl).trans ?_
    refine b_ite ?_ ?_
    · refine (e_iload_n (code := kX4_set) (pc := 22) rfl rfl).trans ?_
      refine (e_iflt (code := kX4_set) (pc := 23) rfl).trans ?_
      refine b_ite ?_ ?_
      · rfl
      · refine (e_iload_n (code := kX4_set) (pc := 26) rfl rfl).trans ?_
        refine (e_aload_n (code := kX4_set) (pc := 27) rfl rfl).trans ?_
        refine (e_getI (code := kX4_set) (pc := 28) (c := 6) rfl ht.1 rfl).trans ?_
        refine (e_icge (code := kX4_set) (pc := 31) rfl).trans ?_
        refine b_ite ?_ ?_
        · refine (e_iconst (code := kX4_set) (pc := 34) rfl).trans ?_
          refine (e_goto (code := kX4_set) (pc := 35) rfl).trans ?_
          rfl
        · rfl
    · rfl
theorem b_X4_set_38 {C : aCall} {σ : aSt} {t : Nat} {x1 x2 x3 x4 : Int32} : b_R C kX4_set [] (38, [some (.ref t), some (.int x1), some (.int x2), some (.int x3), some (.int x4), none], [], σ) = b_R C kX4_set [] (39, [some (.ref t), some (.int x1), some (.int x2), some (.int x3), some (.int x4), none], [.int (nI 0)], σ) := by
  refine (e_iconst (code := kX4_set) (pc := 38) rfl).trans ?_
  rfl
theorem b_X4_set_39 {C : aCall} {σ : aSt} {t c_t N_t : Nat} {x1 x2 x3 x4 y0 : Int32} (ht : Tb σ t c_t N_t) : b_R C kX4_set [] (39, [some (.ref t), some (.int x1), some (.int x2), some (.int x3), some (.int x4), none], [.int y0], σ) = (if y0 = 0 then b_R C kX4_set [] (69, [some (.ref t), some (.int x1), some (.int x2), some (.int x3), some (.int x4), some (.int y0)], [], σ) else (if x4 < 0 then b_R C kX4_set [] (69, [some (.ref t), some (.int x1), some (.int x2), some (.int x3), some (.int x4), some (.int y0)], [], σ) else (if x4 < (nI N_t) then b_gd (a_in x4 N_t) (b_R C kX4_set [] (69, [some (.ref t), some (.int x1), some (.int x2), some (.int x3), some (.int x4), some (.int y0)], [], (a_setI σ c_t (Int32.toNatClampNeg x4) x3))) else b_R C kX4_set [] (69, [some (.ref t), some (.int x1), some (.int x2), some (.int x3), some (.int x4), some (.int y0)], [], σ)))) := by
  refine (e_istore (code := kX4_set) (pc := 39) rfl rfl rfl).trans ?_
  refine (e_iload (code := kX4_set) (pc := 41) rfl rfl).trans ?_
  refine (e_ifeq (code := kX4_set) (pc := 43) rfl).trans ?_
  refine b_ite ?_ ?_
  · rfl
  · refine (e_iload (code := kX4_set) (pc := 46) rfl rfl).trans ?_
    refine (e_iflt (code := kX4_set) (pc := 48) rfl).trans ?_
    refine b_ite ?_ ?_
    · rfl
    · refine (e_iload (code := kX4_set) (pc := 51) rfl rfl).trans ?_
      refine (e_aload_n (code := kX4_set) (pc := 53) rfl rfl).trans ?_
      refine (e_getR (code := kX4_set) (pc := 54) (c := 6) rfl ht.1 ht.2.2.1).trans ?_
      refine (e_alen (code := kX4_set) (pc := 57) rfl (by rw [show a_kd _ c_t = 1 from ht.2.2.2.1]; exact ⟨rfl, rfl⟩) ht.2.2.2.2.2.1 ht.2.2.2.2.2.2).trans ?_
      refine (e_icge (code := kX4_set) (pc := 58) rfl).trans ?_
      refine b_ite ?_ ?_
      · refine (e_aload_n (code := kX4_set) (pc := 61) rfl rfl).trans ?_
        refine (e_getR (code := kX4_set) (pc := 62) (c := 6) rfl ht.1 ht.2.2.1).trans ?_
        refine (e_iload (code := kX4_set) (pc := 65) rfl rfl).trans ?_
        refine (e_iload_n (code := kX4_set) (pc := 67) rfl rfl).trans ?_
        refine (e_iastore (code := kX4_set) (pc := 68) rfl ht.2.2.2.1 ht.2.2.2.2.1 ht.2.2.2.2.2.1).trans ?_
        refine b_gd_c ?_
        rfl
      · rfl
theorem b_X4_set_69 {C : aCall} {σ : aSt} {t : Nat} {x1 x2 x3 x4 x5 : Int32} : b_R C kX4_set [] (69, [some (.ref t), some (.int x1), some (.int x2), some (.int x3), some (.int x4), some (.int x5)], [], σ) = some (.inl none, σ) := by
  exact e_return_ rfl
theorem n_X4_isFull {P : aCall} {d : Nat} {σ : aSt} {t : Nat} (hd : 1 ≤ d) : a_call a_tab P d 3 [.ref t] σ = b_R (a_call a_tab P (d - 1)) kX4_isFull [] (0, [some (.ref t)], [], σ) := e_call hd at_X4_isFull rfl
theorem b_X4_isFull_0 {C : aCall} {σ : aSt} {t c_t N_t : Nat} (ht : Tb σ t c_t N_t) : b_R C kX4_isFull [] (0, [some (.ref t)], [], σ) = (if (nI N_t) < (((a_I σ t 2) + (nI 1)) * (a_I σ t 1)) then b_R C kX4_isFull [] (24, [some (.ref t)], [.int (nI 1)], σ) else b_R C kX4_isFull [] (24, [some (.ref t)], [.int (nI 0)], σ)) := by
  refine (e_aload_n (code := kX4_isFull) (pc := 0) rfl rfl).trans ?_
  refine (e_getI (code := kX4_isFull) (pc := 1) (c := 6) rfl ht.1 rfl).trans ?_
  refine (e_iconst (code := kX4_isFull) (pc := 4) rfl).trans ?_
  refine (e_iadd (code := kX4_isFull) (pc := 5) rfl).trans ?_
  refine (e_aload_n (code := kX4_isFull) (pc := 6) rfl rfl).trans ?_
  refine (e_getI (code := kX4_isFull) (pc := 7) (c := 6) rfl ht.1 rfl).trans ?_
  refine (e_imul (code := kX4_isFull) (pc := 10) rfl).trans ?_
  refine (e_aload_n (code := kX4_isFull) (pc := 11) rfl rfl).trans ?_
  refine (e_getR (code := kX4_isFull) (pc := 12) (c := 6) rfl ht.1 ht.2.2.1).trans ?_
  refine (e_alen (code := kX4_isFull) (pc := 15) rfl (by rw [show a_kd _ c_t = 1 from ht.2.2.2.1]; exact ⟨rfl, rfl⟩) ht.2.2.2.2.2.1 ht.2.2.2.2.2.2).trans ?_
  refine (e_icle (code := kX4_isFull) (pc := 16) rfl).trans ?_
  refine b_ite ?_ ?_
  · refine (e_iconst (code := kX4_isFull) (pc := 19) rfl).trans ?_
    refine (e_goto (code := kX4_isFull) (pc := 20) rfl).trans ?_
    rfl
  · refine (e_iconst (code := kX4_isFull) (pc := 23) rfl).trans ?_
    rfl
theorem b_X4_isFull_24 {C : aCall} {σ : aSt} {t : Nat} {y0 : Int32} : b_R C kX4_isFull [] (24, [some (.ref t)], [.int y0], σ) = b_gd (y0 = 0 ∨ y0 = 1) (some (.inl (some (.int y0)), σ)) := by
  exact e_zreturn rfl
theorem n_X4_removeAll {P : aCall} {d : Nat} {σ : aSt} {t : Nat} (hd : 1 ≤ d) : a_call a_tab P d 4 [.ref t] σ = b_R (a_call a_tab P (d - 1)) kX4_removeAll [] (0, [some (.ref t)], [], σ) := e_call hd at_X4_removeAll rfl
theorem b_X4_removeAll_0 {C : aCall} {σ : aSt} {t c_t N_t : Nat} (ht : Tb σ t c_t N_t) : b_R C kX4_removeAll [] (0, [some (.ref t)], [], σ) = some (.inl none, (a_setI σ t 2 (nI 0))) := by
  refine (e_aload_n (code := kX4_removeAll) (pc := 0) rfl rfl).trans ?_
  refine (e_iconst (code := kX4_removeAll) (pc := 1) rfl).trans ?_
  refine (e_putI (code := kX4_removeAll) (pc := 2) (c := 6) rfl ht.1 ht.2.1).trans ?_
  exact e_return_ rfl
theorem n_X4_addRow {P : aCall} {d : Nat} {σ : aSt} {t : Nat} (hd : 1 ≤ d) : a_call a_tab P d 5 [.ref t] σ = b_R (a_call a_tab P (d - 1)) kX4_addRow [] (0, [some (.ref t), none], [], σ) := e_call hd at_X4_addRow rfl
theorem b_X4_addRow_0 {C : aCall} {σ : aSt} {t c_t N_t : Nat} (ht : Tb σ t c_t N_t) : b_R C kX4_addRow [] (0, [some (.ref t), none], [], σ) = b_G C kX4_addRow [] 1 4 [some (.ref t), none] [] (C 3 [.ref t] σ) := by
  refine (e_aload_n (code := kX4_addRow) (pc := 0) rfl rfl).trans ?_
  exact (e_callV (σ := σ) (code := kX4_addRow) (pc := 1) (len := 3) (k := 3) (n := 1) (c := 16) (as := [.ref t]) (st0 := []) rfl rfl rfl rfl rfl ht.1 rfl)
theorem b_X4_addRow_4 {C : aCall} {σ : aSt} {t c_t N_t : Nat} {y0 : Int32} (ht : Tb σ t c_t N_t) : b_R C kX4_addRow [] (4, [some (.ref t), none], [.int y0], σ) = (if y0 = 0 then b_R C kX4_addRow [] (21, [some (.ref t), some (.int (nI 0))], [], (a_setI σ t 2 ((a_I σ t 2) + (nI 1)))) else some (.inl (some (.int ((-1)))), σ)) := by
  refine (e_ifeq (code := kX4_addRow) (pc := 4) rfl).trans ?_
  refine b_ite ?_ ?_
  · refine (e_aload_n (code := kX4_addRow) (pc := 9) rfl rfl).trans ?_
    refine (e_dup (code := kX4_addRow) (pc := 10) rfl rfl).trans ?_
    refine (e_getI (code := kX4_addRow) (pc := 11) (c := 6) rfl ht.1 rfl).trans ?_
    refine (e_iconst (code := kX4_addRow) (pc := 14) rfl).trans ?_
    refine (e_iadd (code := kX4_addRow) (pc := 15) rfl).trans ?_
    refine (e_putI (code := kX4_addRow) (pc := 16) (c := 6) rfl ht.1 ht.2.1).trans ?_
    refine (e_iconst (code := kX4_addRow) (pc := 19) (σ := (a_setI σ t 2 ((a_I σ t 2) + (nI 1)))) rfl).trans ?_
    refine (e_istore_n (code := kX4_addRow) (pc := 20) (σ := (a_setI σ t 2 ((a_I σ t 2) + (nI 1)))) rfl rfl rfl).trans ?_
    rfl
  · refine (e_iconst (code := kX4_addRow) (pc := 7) rfl).trans ?_
    exact e_ireturn rfl
theorem b_X4_addRow_21 {C : aCall} {σ : aSt} {t c_t N_t : Nat} {x1 : Int32} (ht : Tb σ t c_t N_t) : b_R C kX4_addRow [] (21, [some (.ref t), some (.int x1)], [], σ) = (if x1 < (a_I σ t 1) then b_G C kX4_addRow [] 38 41 [some (.ref t), some (.int x1)] [] (C 2 [.ref t, .int ((a_I σ t 2) - (nI 1)), .int x1, .int (nI 0)] σ) else some (.inl (some (.int ((a_I σ t 2) - (nI 1)))), σ)) := by
  refine (e_iload_n (code := kX4_addRow) (pc := 21) rfl rfl).trans ?_
  refine (e_aload_n (code := kX4_addRow) (pc := 22) rfl rfl).trans ?_
  refine (e_getI (code := kX4_addRow) (pc := 23) (c := 6) rfl ht.1 rfl).trans ?_
  refine (e_icge (code := kX4_addRow) (pc := 26) rfl).trans ?_
  refine b_ite ?_ ?_
  · refine (e_aload_n (code := kX4_addRow) (pc := 29) rfl rfl).trans ?_
    refine (e_aload_n (code := kX4_addRow) (pc := 30) rfl rfl).trans ?_
    refine (e_getI (code := kX4_addRow) (pc := 31) (c := 6) rfl ht.1 rfl).trans ?_
    refine (e_iconst (code := kX4_addRow) (pc := 34) rfl).trans ?_
    refine (e_isub (code := kX4_addRow) (pc := 35) rfl).trans ?_
    refine (e_iload_n (code := kX4_addRow) (pc := 36) rfl rfl).trans ?_
    refine (e_iconst (code := kX4_addRow) (pc := 37) rfl).trans ?_
    exact (e_callV (σ := σ) (code := kX4_addRow) (pc := 38) (len := 3) (k := 2) (n := 4) (c := 16) (as := [.ref t, .int ((a_I σ t 2) - (nI 1)), .int x1, .int (nI 0)]) (st0 := []) rfl rfl rfl rfl rfl ht.1 rfl)
  · refine (e_aload_n (code := kX4_addRow) (pc := 47) rfl rfl).trans ?_
    refine (e_getI (code := kX4_addRow) (pc := 48) (c := 6) rfl ht.1 rfl).trans ?_
    refine (e_iconst (code := kX4_addRow) (pc := 51) rfl).trans ?_
    refine (e_isub (code := kX4_addRow) (pc := 52) rfl).trans ?_
    exact e_ireturn rfl
theorem b_X4_addRow_41 {C : aCall} {σ : aSt} {t : Nat} {x1 : Int32} : b_R C kX4_addRow [] (41, [some (.ref t), some (.int x1)], [], σ) = b_R C kX4_addRow [] (21, [some (.ref t), some (.int (x1 + nI 1))], [], σ) := by
  refine (e_iinc (code := kX4_addRow) (pc := 41) rfl rfl rfl rfl).trans ?_
  refine (e_goto (code := kX4_addRow) (pc := 44) rfl).trans ?_
  rfl
theorem n_X4_addFirst {P : aCall} {d : Nat} {σ : aSt} {t : Nat} (hd : 1 ≤ d) : a_call a_tab P d 6 [.ref t] σ = b_R (a_call a_tab P (d - 1)) kX4_addFirst [] (0, [some (.ref t), none], [], σ) := e_call hd at_X4_addFirst rfl
theorem b_X4_addFirst_0 {C : aCall} {σ : aSt} {t c_t N_t : Nat} (ht : Tb σ t c_t N_t) : b_R C kX4_addFirst [] (0, [some (.ref t), none], [], σ) = b_G C kX4_addFirst [] 1 4 [some (.ref t), none] [] (C 3 [.ref t] σ) := by
  refine (e_aload_n (code := kX4_addFirst) (pc := 0) rfl rfl).trans ?_
  exact (e_callV (σ := σ) (code := kX4_addFirst) (pc := 1) (len := 3) (k := 3) (n := 1) (c := 16) (as := [.ref t]) (st0 := []) rfl rfl rfl rfl rfl ht.1 rfl)
theorem b_X4_addFirst_4 {C : aCall} {σ : aSt} {t c_t N_t : Nat} {y0 : Int32} (ht : Tb σ t c_t N_t) : b_R C kX4_addFirst [] (4, [some (.ref t), none], [.int y0], σ) = (if y0 = 0 then b_R C kX4_addFirst [] (17, [some (.ref t), none], [], (a_setI σ t 2 ((a_I σ t 2) + (nI 1)))) else b_R C kX4_addFirst [] (17, [some (.ref t), none], [], σ)) := by
  refine (e_ifne (code := kX4_addFirst) (pc := 4) rfl).trans ?_
  refine b_ite ?_ ?_
  · refine (e_aload_n (code := kX4_addFirst) (pc := 7) rfl rfl).trans ?_
    refine (e_dup (code := kX4_addFirst) (pc := 8) rfl rfl).trans ?_
    refine (e_getI (code := kX4_addFirst) (pc := 9) (c := 6) rfl ht.1 rfl).trans ?_
    refine (e_iconst (code := kX4_addFirst) (pc := 12) rfl).trans ?_
    refine (e_iadd (code := kX4_addFirst) (pc := 13) rfl).trans ?_
    refine (e_putI (code := kX4_addFirst) (pc := 14) (c := 6) rfl ht.1 ht.2.1).trans ?_
    rfl
  · rfl
theorem b_X4_addFirst_17 {C : aCall} {σ : aSt} {t c_t N_t : Nat} (ht : Tb σ t c_t N_t) : b_R C kX4_addFirst [] (17, [some (.ref t), none], [], σ) = b_R C kX4_addFirst [] (24, [some (.ref t), some (.int ((a_I σ t 2) - (nI 1)))], [], σ) := by
  refine (e_aload_n (code := kX4_addFirst) (pc := 17) rfl rfl).trans ?_
  refine (e_getI (code := kX4_addFirst) (pc := 18) (c := 6) rfl ht.1 rfl).trans ?_
  refine (e_iconst (code := kX4_addFirst) (pc := 21) rfl).trans ?_
  refine (e_isub (code := kX4_addFirst) (pc := 22) rfl).trans ?_
  refine (e_istore_n (code := kX4_addFirst) (pc := 23) rfl rfl rfl).trans ?_
  rfl
theorem b_X4_addFirst_24 {C : aCall} {σ : aSt} {t c_t N_t : Nat} {x1 : Int32} (ht : Tb σ t c_t N_t) : b_R C kX4_addFirst [] (24, [some (.ref t), some (.int x1)], [], σ) = (if 0 < x1 then b_G C kX4_addFirst [] 34 37 [some (.ref t), some (.int x1)] [] (C 8 [.ref t, .int x1, .ref t, .int (x1 - (nI 1))] σ) else some (.inl none, σ)) := by
  refine (e_iload_n (code := kX4_addFirst) (pc := 24) rfl rfl).trans ?_
  refine (e_ifle (code := kX4_addFirst) (pc := 25) rfl).trans ?_
  refine b_ite ?_ ?_
  · refine (e_aload_n (code := kX4_addFirst) (pc := 28) rfl rfl).trans ?_
    refine (e_iload_n (code := kX4_addFirst) (pc := 29) rfl rfl).trans ?_
    refine (e_aload_n (code := kX4_addFirst) (pc := 30) rfl rfl).trans ?_
    refine (e_iload_n (code := kX4_addFirst) (pc := 31) rfl rfl).trans ?_
    refine (e_iconst (code := kX4_addFirst) (pc := 32) rfl).trans ?_
    refine (e_isub (code := kX4_addFirst) (pc := 33) rfl).trans ?_
    exact (e_callV (σ := σ) (code := kX4_addFirst) (pc := 34) (len := 3) (k := 8) (n := 4) (c := 16) (as := [.ref t, .int x1, .ref t, .int (x1 - (nI 1))]) (st0 := []) rfl rfl rfl rfl rfl ht.1 rfl)
  · exact e_return_ rfl
theorem b_X4_addFirst_37 {C : aCall} {σ : aSt} {t : Nat} {x1 : Int32} : b_R C kX4_addFirst [] (37, [some (.ref t), some (.int x1)], [], σ) = b_R C kX4_addFirst [] (24, [some (.ref t), some (.int (x1 + (-1)))], [], σ) := by
  refine (e_iinc (code := kX4_addFirst) (pc := 37) rfl rfl rfl rfl).trans ?_
  refine (e_goto (code := kX4_addFirst) (pc := 40) rfl).trans ?_
  rfl
theorem n_X4_removeRow {P : aCall} {d : Nat} {σ : aSt} {t : Nat} {x1 : Int32} (hd : 1 ≤ d) : a_call a_tab P d 7 [.ref t, .int x1] σ = b_R (a_call a_tab P (d - 1)) kX4_removeRow [] (0, [some (.ref t), some (.int x1), none], [], σ) := e_call hd at_X4_removeRow rfl
theorem b_X4_removeRow_0 {C : aCall} {σ : aSt} {t : Nat} {x1 : Int32} : b_R C kX4_removeRow [] (0, [some (.ref t), some (.int x1), none], [], σ) = b_R C kX4_removeRow [] (2, [some (.ref t), some (.int x1), some (.int x1)], [], σ) := by
  refine (e_iload_n (code := kX4_removeRow) (pc := 0) rfl rfl).trans ?_
  refine (e_istore_n (code := kX4_removeRow) (pc := 1) rfl rfl rfl).trans ?_
  rfl
theorem b_X4_removeRow_2 {C : aCall} {σ : aSt} {t c_t N_t : Nat} {x1 x2 : Int32} (ht : Tb σ t c_t N_t) : b_R C kX4_removeRow [] (2, [some (.ref t), some (.int x1), some (.int x2)], [], σ) = (if x2 < ((a_I σ t 2) - (nI 1)) then b_G C kX4_removeRow [] 18 21 [some (.ref t), some (.int x1), some (.int x2)] [] (C 8 [.ref t, .int x2, .ref t, .int (x2 + (nI 1))] σ) else (if x1 < 0 then b_R C kX4_removeRow [] (49, [some (.ref t), some (.int x1), some (.int x2)], [], σ) else (if x1 < (a_I σ t 2) then b_R C kX4_removeRow [] (49, [some (.ref t), some (.int x1), some (.int x2)], [], (a_setI σ t 2 ((a_I σ t 2) - (nI 1)))) else b_R C kX4_removeRow [] (49, [some (.ref t), some (.int x1), some (.int x2)], [], σ)))) := by
  refine (e_iload_n (code := kX4_removeRow) (pc := 2) rfl rfl).trans ?_
  refine (e_aload_n (code := kX4_removeRow) (pc := 3) rfl rfl).trans ?_
  refine (e_getI (code := kX4_removeRow) (pc := 4) (c := 6) rfl ht.1 rfl).trans ?_
  refine (e_iconst (code := kX4_removeRow) (pc := 7) rfl).trans ?_
  refine (e_isub (code := kX4_removeRow) (pc := 8) rfl).trans ?_
  refine (e_icge (code := kX4_removeRow) (pc := 9) rfl).trans ?_
  refine b_ite ?_ ?_
  · refine (e_aload_n (code := kX4_removeRow) (pc := 12) rfl rfl).trans ?_
    refine (e_iload_n (code := kX4_removeRow) (pc := 13) rfl rfl).trans ?_
    refine (e_aload_n (code := kX4_removeRow) (pc := 14) rfl rfl).trans ?_
    refine (e_iload_n (code := kX4_removeRow) (pc := 15) rfl rfl).trans ?_
    refine (e_iconst (code := kX4_removeRow) (pc := 16) rfl).trans ?_
    refine (e_iadd (code := kX4_removeRow) (pc := 17) rfl).trans ?_
    exact (e_callV (σ := σ) (code := kX4_removeRow) (pc := 18) (len := 3) (k := 8) (n := 4) (c := 16) (as := [.ref t, .int x2, .ref t, .int (x2 + (nI 1))]) (st0 := []) rfl rfl rfl rfl rfl ht.1 rfl)
  · refine (e_iload_n (code := kX4_removeRow) (pc := 27) rfl rfl).trans ?_
    refine (e_iflt (code := kX4_removeRow) (pc := 28) rfl).trans ?_
    refine b_ite ?_ ?_
    · rfl
    · refine (e_iload_n (code := kX4_removeRow) (pc := 31) rfl rfl).trans ?_
      refine (e_aload_n (code := kX4_removeRow) (pc := 32) rfl rfl).trans ?_
      refine (e_getI (code := kX4_removeRow) (pc := 33) (c := 6) rfl ht.1 rfl).trans ?_
      refine (e_icge (code := kX4_removeRow) (pc := 36) rfl).trans ?_
      refine b_ite ?_ ?_
      · refine (e_aload_n (code := kX4_removeRow) (pc := 39) rfl rfl).trans ?_
        refine (e_dup (code := kX4_removeRow) (pc := 40) rfl rfl).trans ?_
        refine (e_getI (code := kX4_removeRow) (pc := 41) (c := 6) rfl ht.1 rfl).trans ?_
        refine (e_iconst (code := kX4_removeRow) (pc := 44) rfl).trans ?_
        refine (e_isub (code := kX4_removeRow) (pc := 45) rfl).trans ?_
        refine (e_putI (code := kX4_removeRow) (pc := 46) (c := 6) rfl ht.1 ht.2.1).trans ?_
        rfl
      · rfl
theorem b_X4_removeRow_21 {C : aCall} {σ : aSt} {t : Nat} {x1 x2 : Int32} : b_R C kX4_removeRow [] (21, [some (.ref t), some (.int x1), some (.int x2)], [], σ) = b_R C kX4_removeRow [] (2, [some (.ref t), some (.int x1), some (.int (x2 + nI 1))], [], σ) := by
  refine (e_iinc (code := kX4_removeRow) (pc := 21) rfl rfl rfl rfl).trans ?_
  refine (e_goto (code := kX4_removeRow) (pc := 24) rfl).trans ?_
  rfl
theorem b_X4_removeRow_49 {C : aCall} {σ : aSt} {t : Nat} {x1 x2 : Int32} : b_R C kX4_removeRow [] (49, [some (.ref t), some (.int x1), some (.int x2)], [], σ) = some (.inl none, σ) := by
  exact e_return_ rfl
theorem n_X4_copyRow {P : aCall} {d : Nat} {σ : aSt} {t u : Nat} {x1 x3 : Int32} (hd : 1 ≤ d) : a_call a_tab P d 8 [.ref t, .int x1, .ref u, .int x3] σ = b_R (a_call a_tab P (d - 1)) kX4_copyRow [] (0, [some (.ref t), some (.int x1), some (.ref u), some (.int x3), none], [], σ) := e_call hd at_X4_copyRow rfl
theorem b_X4_copyRow_0 {C : aCall} {σ : aSt} {t u : Nat} {x1 x3 : Int32} : b_R C kX4_copyRow [] (0, [some (.ref t), some (.int x1), some (.ref u), some (.int x3), none], [], σ) = b_R C kX4_copyRow [] (3, [some (.ref t), some (.int x1), some (.ref u), some (.int x3), some (.int (nI 0))], [], σ) := by
  refine (e_iconst (code := kX4_copyRow) (pc := 0) rfl).trans ?_
  refine (e_istore (code := kX4_copyRow) (pc := 1) rfl rfl rfl).trans ?_
  rfl
theorem b_X4_copyRow_3 {C : aCall} {σ : aSt} {t c_t N_t u c_u N_u : Nat} {x1 x3 x4 : Int32} (ht : Tb σ t c_t N_t) (hu : Tb σ u c_u N_u) : b_R C kX4_copyRow [] (3, [some (.ref t), some (.int x1), some (.ref u), some (.int x3), some (.int x4)], [], σ) = (if x4 < (a_I σ t 1) then b_G C kX4_copyRow [] 20 23 [some (.ref t), some (.int x1), some (.ref u), some (.int x3), some (.int x4)] [.int x4, .int x1, .ref t] (C 1 [.ref u, .int x3, .int x4] σ) else some (.inl none, σ)) := by
  refine (e_iload (code := kX4_copyRow) (pc := 3) rfl rfl).trans ?_
  refine (e_aload_n (code := kX4_copyRow) (pc := 5) rfl rfl).trans ?_
  refine (e_getI (code := kX4_copyRow) (pc := 6) (c := 6) rfl ht.1 rfl).trans ?_
  refine (e_icge (code := kX4_copyRow) (pc := 9) rfl).trans ?_
  refine b_ite ?_ ?_
  · refine (e_aload_n (code := kX4_copyRow) (pc := 12) rfl rfl).trans ?_
    refine (e_iload_n (code := kX4_copyRow) (pc := 13) rfl rfl).trans ?_
    refine (e_iload (code := kX4_copyRow) (pc := 14) rfl rfl).trans ?_
    refine (e_aload_n (code := kX4_copyRow) (pc := 16) rfl rfl).trans ?_
    refine (e_iload_n (code := kX4_copyRow) (pc := 17) rfl rfl).trans ?_
    refine (e_iload (code := kX4_copyRow) (pc := 18) rfl rfl).trans ?_
    exact (e_callV (σ := σ) (code := kX4_copyRow) (pc := 20) (len := 3) (k := 1) (n := 3) (c := 16) (as := [.ref u, .int x3, .int x4]) (st0 := [.int x4, .int x1, .ref t]) rfl rfl rfl rfl rfl hu.1 rfl)
  · exact e_return_ rfl
theorem b_X4_copyRow_23 {C : aCall} {σ : aSt} {t c_t N_t u : Nat} {x1 x3 x4 y0 y1 y2 : Int32} (ht : Tb σ t c_t N_t) : b_R C kX4_copyRow [] (23, [some (.ref t), some (.int x1), some (.ref u), some (.int x3), some (.int x4)], [.int y0, .int y1, .int y2, .ref t], σ) = b_G C kX4_copyRow [] 23 26 [some (.ref t), some (.int x1), some (.ref u), some (.int x3), some (.int x4)] [] (C 2 [.ref t, .int y2, .int y1, .int y0] σ) := by
  exact (e_callV (σ := σ) (code := kX4_copyRow) (pc := 23) (len := 3) (k := 2) (n := 4) (c := 16) (as := [.ref t, .int y2, .int y1, .int y0]) (st0 := []) rfl rfl rfl rfl rfl ht.1 rfl)
theorem b_X4_copyRow_26 {C : aCall} {σ : aSt} {t u : Nat} {x1 x3 x4 : Int32} : b_R C kX4_copyRow [] (26, [some (.ref t), some (.int x1), some (.ref u), some (.int x3), some (.int x4)], [], σ) = b_R C kX4_copyRow [] (3, [some (.ref t), some (.int x1), some (.ref u), some (.int x3), some (.int (x4 + nI 1))], [], σ) := by
  refine (e_iinc (code := kX4_copyRow) (pc := 26) rfl rfl rfl rfl).trans ?_
  refine (e_goto (code := kX4_copyRow) (pc := 29) rfl).trans ?_
  rfl
theorem n_X4_copyFrom {P : aCall} {d : Nat} {σ : aSt} {t u : Nat} (hd : 1 ≤ d) : a_call a_tab P d 9 [.ref t, .ref u] σ = b_R (a_call a_tab P (d - 1)) kX4_copyFrom [] (0, [some (.ref t), some (.ref u), none], [], σ) := e_call hd at_X4_copyFrom rfl
theorem b_X4_copyFrom_0 {C : aCall} {σ : aSt} {u c_u N_u t c_t N_t : Nat} (ht : Tb σ t c_t N_t) (hu : Tb σ u c_u N_u) : b_R C kX4_copyFrom [] (0, [some (.ref t), some (.ref u), none], [], σ) = (if ((a_I σ u 2) * (a_I σ u 1)) < 0 then b_R C kX4_copyFrom [] (54, [some (.ref t), some (.ref u), some (.int ((a_I σ u 2) * (a_I σ u 1)))], [], σ) else (if (nI N_t) < ((a_I σ u 2) * (a_I σ u 1)) then b_R C kX4_copyFrom [] (54, [some (.ref t), some (.ref u), some (.int ((a_I σ u 2) * (a_I σ u 1)))], [], σ) else (if (nI N_u) < ((a_I σ u 2) * (a_I σ u 1)) then b_R C kX4_copyFrom [] (54, [some (.ref t), some (.ref u), some (.int ((a_I σ u 2) * (a_I σ u 1)))], [], σ) else b_G C kX4_copyFrom [] 43 46 [some (.ref t), some (.ref u), some (.int ((a_I σ u 2) * (a_I σ u 1)))] [] (C 1005 [.ref c_u, .int (nI 0), .ref c_t, .int (nI 0), .int ((a_I σ u 2) * (a_I σ u 1))] σ)))) := by
  refine (e_aload_n (code := kX4_copyFrom) (pc := 0) rfl rfl).trans ?_
  refine (e_getI (code := kX4_copyFrom) (pc := 1) (c := 6) rfl hu.1 rfl).trans ?_
  refine (e_aload_n (code := kX4_copyFrom) (pc := 4) rfl rfl).trans ?_
  refine (e_getI (code := kX4_copyFrom) (pc := 5) (c := 6) rfl hu.1 rfl).trans ?_
  refine (e_imul (code := kX4_copyFrom) (pc := 8) rfl).trans ?_
  refine (e_istore_n (code := kX4_copyFrom) (pc := 9) rfl rfl rfl).trans ?_
  refine (e_iload_n (code := kX4_copyFrom) (pc := 10) rfl rfl).trans ?_
  refine (e_iflt (code := kX4_copyFrom) (pc := 11) rfl).trans ?_
  refine b_ite ?_ ?_
  · rfl
  · refine (e_iload_n (code := kX4_copyFrom) (pc := 14) rfl rfl).trans ?_
    refine (e_aload_n (code := kX4_copyFrom) (pc := 15) rfl rfl).trans ?_
    refine (e_getR (code := kX4_copyFrom) (pc := 16) (c := 6) rfl ht.1 ht.2.2.1).trans ?_
    refine (e_alen (code := kX4_copyFrom) (pc := 19) rfl (by rw [show a_kd _ c_t = 1 from ht.2.2.2.1]; exact ⟨rfl, rfl⟩) ht.2.2.2.2.2.1 ht.2.2.2.2.2.2).trans ?_
    refine (e_icgt (code := kX4_copyFrom) (pc := 20) rfl).trans ?_
    refine b_ite ?_ ?_
    · rfl
    · refine (e_iload_n (code := kX4_copyFrom) (pc := 23) rfl rfl).trans ?_
      refine (e_aload_n (code := kX4_copyFrom) (pc := 24) rfl rfl).trans ?_
      refine (e_getR (code := kX4_copyFrom) (pc := 25) (c := 6) rfl hu.1 hu.2.2.1).trans ?_
      refine (e_alen (code := kX4_copyFrom) (pc := 28) rfl (by rw [show a_kd _ c_u = 1 from hu.2.2.2.1]; exact ⟨rfl, rfl⟩) hu.2.2.2.2.2.1 hu.2.2.2.2.2.2).trans ?_
      refine (e_icgt (code := kX4_copyFrom) (pc := 29) rfl).trans ?_
      refine b_ite ?_ ?_
      · rfl
      · refine (e_aload_n (code := kX4_copyFrom) (pc := 32) rfl rfl).trans ?_
        refine (e_getR (code := kX4_copyFrom) (pc := 33) (c := 6) rfl hu.1 hu.2.2.1).trans ?_
        refine (e_iconst (code := kX4_copyFrom) (pc := 36) rfl).trans ?_
        refine (e_aload_n (code := kX4_copyFrom) (pc := 37) rfl rfl).trans ?_
        refine (e_getR (code := kX4_copyFrom) (pc := 38) (c := 6) rfl ht.1 ht.2.2.1).trans ?_
        refine (e_iconst (code := kX4_copyFrom) (pc := 41) rfl).trans ?_
        refine (e_iload_n (code := kX4_copyFrom) (pc := 42) rfl rfl).trans ?_
        exact (e_callS (code := kX4_copyFrom) (pc := 43) (len := 3) (k := 1005) (n := 5) (as := [.ref c_u, .int (nI 0), .ref c_t, .int (nI 0), .int ((a_I σ u 2) * (a_I σ u 1))]) (st0 := []) rfl rfl rfl rfl)
theorem b_X4_copyFrom_46 {C : aCall} {σ : aSt} {u c_u N_u t c_t N_t : Nat} {x2 : Int32} (ht : Tb σ t c_t N_t) (hu : Tb σ u c_u N_u) : b_R C kX4_copyFrom [] (46, [some (.ref t), some (.ref u), some (.int x2)], [], σ) = b_R C kX4_copyFrom [] (54, [some (.ref t), some (.ref u), some (.int x2)], [], (a_setI σ t 2 (a_I σ u 2))) := by
  refine (e_aload_n (code := kX4_copyFrom) (pc := 46) rfl rfl).trans ?_
  refine (e_aload_n (code := kX4_copyFrom) (pc := 47) rfl rfl).trans ?_
  refine (e_getI (code := kX4_copyFrom) (pc := 48) (c := 6) rfl hu.1 rfl).trans ?_
  refine (e_putI (code := kX4_copyFrom) (pc := 51) (c := 6) rfl ht.1 ht.2.1).trans ?_
  rfl
theorem b_X4_copyFrom_54 {C : aCall} {σ : aSt} {t u : Nat} {x2 : Int32} : b_R C kX4_copyFrom [] (54, [some (.ref t), some (.ref u), some (.int x2)], [], σ) = some (.inl none, σ) := by
  exact e_return_ rfl
theorem n_X4_setName {P : aCall} {d : Nat} {σ : aSt} {t : Nat} {x1 : Int32} (hd : 1 ≤ d) : a_call a_tab P d 10 [.ref t, .int x1, .ref 222] σ = b_R (a_call a_tab P (d - 1)) kX4_setName [] (0, [some (.ref t), some (.int x1), some (.ref 222), none], [], σ) := e_call hd at_X4_setName rfl
theorem b_X4_setName_0 {C : aCall} {σ : aSt} {t : Nat} {x1 : Int32} : b_R C kX4_setName [] (0, [some (.ref t), some (.int x1), some (.ref 222), none], [], σ) = b_R C kX4_setName [] (2, [some (.ref t), some (.int x1), some (.ref 222), some (.int (nI 0))], [], σ) := by
  refine (e_iconst (code := kX4_setName) (pc := 0) rfl).trans ?_
  refine (e_istore_n (code := kX4_setName) (pc := 1) rfl rfl rfl).trans ?_
  rfl
theorem b_X4_setName_2 {C : aCall} {σ : aSt} {t c_t N_t : Nat} {x1 x3 : Int32} (h : Sh σ) (ht : Tb σ t c_t N_t) : b_R C kX4_setName [] (2, [some (.ref t), some (.int x1), some (.ref 222), some (.int x3)], [], σ) = (if x3 < (nI 8) then b_gd (a_in x3 8) (b_G C kX4_setName [] 14 17 [some (.ref t), some (.int x1), some (.ref 222), some (.int x3)] [] (C 2 [.ref t, .int x1, .int x3, .int (a_I σ 222 (Int32.toNatClampNeg x3))] σ)) else some (.inl none, σ)) := by
  refine (e_iload_n (code := kX4_setName) (pc := 2) rfl rfl).trans ?_
  refine (e_aload_n (code := kX4_setName) (pc := 3) rfl rfl).trans ?_
  refine (e_alen (code := kX4_setName) (pc := 4) rfl (by rw [show a_kd _ 222 = 1 from (sk_222 (σ := σ) h)]; exact ⟨rfl, rfl⟩) (sl_222 (σ := σ) h) (Nat.le_of_ble_eq_true rfl)).trans ?_
  refine (e_icge (code := kX4_setName) (pc := 5) rfl).trans ?_
  refine b_ite ?_ ?_
  · refine (e_aload_n (code := kX4_setName) (pc := 8) rfl rfl).trans ?_
    refine (e_iload_n (code := kX4_setName) (pc := 9) rfl rfl).trans ?_
    refine (e_iload_n (code := kX4_setName) (pc := 10) rfl rfl).trans ?_
    refine (e_aload_n (code := kX4_setName) (pc := 11) rfl rfl).trans ?_
    refine (e_iload_n (code := kX4_setName) (pc := 12) rfl rfl).trans ?_
    refine (e_iaload (code := kX4_setName) (pc := 13) rfl (.inl (sk_222 (σ := σ) h)) (sl_222 (σ := σ) h)).trans ?_
    refine b_gd_c ?_
    exact (e_callV (σ := σ) (code := kX4_setName) (pc := 14) (len := 3) (k := 2) (n := 4) (c := 16) (as := [.ref t, .int x1, .int x3, .int (a_I σ 222 (Int32.toNatClampNeg x3))]) (st0 := []) rfl rfl rfl rfl rfl ht.1 rfl)
  · exact e_return_ rfl
theorem b_X4_setName_17 {C : aCall} {σ : aSt} {t : Nat} {x1 x3 : Int32} : b_R C kX4_setName [] (17, [some (.ref t), some (.int x1), some (.ref 222), some (.int x3)], [], σ) = b_R C kX4_setName [] (2, [some (.ref t), some (.int x1), some (.ref 222), some (.int (x3 + nI 1))], [], σ) := by
  refine (e_iinc (code := kX4_setName) (pc := 17) rfl rfl rfl rfl).trans ?_
  refine (e_goto (code := kX4_setName) (pc := 20) rfl).trans ?_
  rfl
theorem n_X4_rowNamed {P : aCall} {d : Nat} {σ : aSt} {t : Nat} (hd : 1 ≤ d) : a_call a_tab P d 11 [.ref t, .ref 222] σ = b_R (a_call a_tab P (d - 1)) kX4_rowNamed [] (0, [some (.ref t), some (.ref 222), none], [], σ) := e_call hd at_X4_rowNamed rfl
theorem b_X4_rowNamed_0 {C : aCall} {σ : aSt} {t : Nat} : b_R C kX4_rowNamed [] (0, [some (.ref t), some (.ref 222), none], [], σ) = b_R C kX4_rowNamed [] (2, [some (.ref t), some (.ref 222), some (.int (nI 0))], [], σ) := by
  refine (e_iconst (code := kX4_rowNamed) (pc := 0) rfl).trans ?_
  refine (e_istore_n (code := kX4_rowNamed) (pc := 1) rfl rfl rfl).trans ?_
  rfl
theorem b_X4_rowNamed_2 {C : aCall} {σ : aSt} {t c_t N_t : Nat} {x2 : Int32} (ht : Tb σ t c_t N_t) : b_R C kX4_rowNamed [] (2, [some (.ref t), some (.ref 222), some (.int x2)], [], σ) = (if x2 < (a_I σ t 2) then b_G C kX4_rowNamed [] 13 16 [some (.ref t), some (.ref 222), some (.int x2)] [] (C 12 [.ref t, .int x2, .ref 222] σ) else some (.inl (some (.int ((-1)))), σ)) := by
  refine (e_iload_n (code := kX4_rowNamed) (pc := 2) rfl rfl).trans ?_
  refine (e_aload_n (code := kX4_rowNamed) (pc := 3) rfl rfl).trans ?_
  refine (e_getI (code := kX4_rowNamed) (pc := 4) (c := 6) rfl ht.1 rfl).trans ?_
  refine (e_icge (code := kX4_rowNamed) (pc := 7) rfl).trans ?_
  refine b_ite ?_ ?_
  · refine (e_aload_n (code := kX4_rowNamed) (pc := 10) rfl rfl).trans ?_
    refine (e_iload_n (code := kX4_rowNamed) (pc := 11) rfl rfl).trans ?_
    refine (e_aload_n (code := kX4_rowNamed) (pc := 12) rfl rfl).trans ?_
    exact (e_callV (σ := σ) (code := kX4_rowNamed) (pc := 13) (len := 3) (k := 12) (n := 3) (c := 16) (as := [.ref t, .int x2, .ref 222]) (st0 := []) rfl rfl rfl rfl rfl ht.1 rfl)
  · refine (e_iconst (code := kX4_rowNamed) (pc := 27) rfl).trans ?_
    exact e_ireturn rfl
theorem b_X4_rowNamed_16 {C : aCall} {σ : aSt} {t : Nat} {x2 y0 : Int32} : b_R C kX4_rowNamed [] (16, [some (.ref t), some (.ref 222), some (.int x2)], [.int y0], σ) = (if y0 = 0 then b_R C kX4_rowNamed [] (2, [some (.ref t), some (.ref 222), some (.int (x2 + nI 1))], [], σ) else some (.inl (some (.int x2)), σ)) := by
  refine (e_ifeq (code := kX4_rowNamed) (pc := 16) rfl).trans ?_
  refine b_ite ?_ ?_
  · refine (e_iinc (code := kX4_rowNamed) (pc := 21) rfl rfl rfl rfl).trans ?_
    refine (e_goto (code := kX4_rowNamed) (pc := 24) rfl).trans ?_
    rfl
  · refine (e_iload_n (code := kX4_rowNamed) (pc := 19) rfl rfl).trans ?_
    exact e_ireturn rfl
theorem n_X4_hasName {P : aCall} {d : Nat} {σ : aSt} {t : Nat} {x1 : Int32} (hd : 1 ≤ d) : a_call a_tab P d 12 [.ref t, .int x1, .ref 222] σ = b_R (a_call a_tab P (d - 1)) kX4_hasName [] (0, [some (.ref t), some (.int x1), some (.ref 222), none], [], σ) := e_call hd at_X4_hasName rfl
theorem b_X4_hasName_0 {C : aCall} {σ : aSt} {t : Nat} {x1 : Int32} : b_R C kX4_hasName [] (0, [some (.ref t), some (.int x1), some (.ref 222), none], [], σ) = b_R C kX4_hasName [] (2, [some (.ref t), some (.int x1), some (.ref 222), some (.int (nI 0))], [], σ) := by
  refine (e_iconst (code := kX4_hasName) (pc := 0) rfl).trans ?_
  refine (e_istore_n (code := kX4_hasName) (pc := 1) rfl rfl rfl).trans ?_
  rfl
theorem b_X4_hasName_2 {C : aCall} {σ : aSt} {t c_t N_t : Nat} {x1 x3 : Int32} (h : Sh σ) (ht : Tb σ t c_t N_t) : b_R C kX4_hasName [] (2, [some (.ref t), some (.int x1), some (.ref 222), some (.int x3)], [], σ) = (if x3 < (nI 8) then b_G C kX4_hasName [] 11 14 [some (.ref t), some (.int x1), some (.ref 222), some (.int x3)] [] (C 1 [.ref t, .int x1, .int x3] σ) else some (.inl (some (.int (nI 1))), σ)) := by
  refine (e_iload_n (code := kX4_hasName) (pc := 2) rfl rfl).trans ?_
  refine (e_aload_n (code := kX4_hasName) (pc := 3) rfl rfl).trans ?_
  refine (e_alen (code := kX4_hasName) (pc := 4) rfl (by rw [show a_kd _ 222 = 1 from (sk_222 (σ := σ) h)]; exact ⟨rfl, rfl⟩) (sl_222 (σ := σ) h) (Nat.le_of_ble_eq_true rfl)).trans ?_
  refine (e_icge (code := kX4_hasName) (pc := 5) rfl).trans ?_
  refine b_ite ?_ ?_
  · refine (e_aload_n (code := kX4_hasName) (pc := 8) rfl rfl).trans ?_
    refine (e_iload_n (code := kX4_hasName) (pc := 9) rfl rfl).trans ?_
    refine (e_iload_n (code := kX4_hasName) (pc := 10) rfl rfl).trans ?_
    exact (e_callV (σ := σ) (code := kX4_hasName) (pc := 11) (len := 3) (k := 1) (n := 3) (c := 16) (as := [.ref t, .int x1, .int x3]) (st0 := []) rfl rfl rfl rfl rfl ht.1 rfl)
  · refine (e_iconst (code := kX4_hasName) (pc := 28) rfl).trans ?_
    exact (e_zreturn rfl).trans (b_gd_t (by decide))
theorem b_X4_hasName_14 {C : aCall} {σ : aSt} {t : Nat} {x1 x3 y0 : Int32} (h : Sh σ) : b_R C kX4_hasName [] (14, [some (.ref t), some (.int x1), some (.ref 222), some (.int x3)], [.int y0], σ) = b_gd (a_in x3 8) ((if y0 = (a_I σ 222 (Int32.toNatClampNeg x3)) then b_R C kX4_hasName [] (2, [some (.ref t), some (.int x1), some (.ref 222), some (.int (x3 + nI 1))], [], σ) else some (.inl (some (.int (nI 0))), σ))) := by
  refine (e_aload_n (code := kX4_hasName) (pc := 14) rfl rfl).trans ?_
  refine (e_iload_n (code := kX4_hasName) (pc := 15) rfl rfl).trans ?_
  refine (e_iaload (code := kX4_hasName) (pc := 16) rfl (.inl (sk_222 (σ := σ) h)) (sl_222 (σ := σ) h)).trans ?_
  refine b_gd_c ?_
  refine (e_iceq (code := kX4_hasName) (pc := 17) rfl).trans ?_
  refine b_ite ?_ ?_
  · refine (e_iinc (code := kX4_hasName) (pc := 22) rfl rfl rfl rfl).trans ?_
    refine (e_goto (code := kX4_hasName) (pc := 25) rfl).trans ?_
    rfl
  · refine (e_iconst (code := kX4_hasName) (pc := 20) rfl).trans ?_
    exact (e_zreturn rfl).trans (b_gd_t (by decide))
