/-! equations of the blocks, by program (wip/whole/tools/gen21.py) -/
theorem n_X4_init {P : aCall} {d : Nat} {σ : aSt} {a0 : Nat} {x1 x2 : Int32} (hd : 1 ≤ d) : a_call a_tab P d 0 [.ref a0, .int x1, .int x2] σ = b_R (a_call a_tab P (d - 1)) kX4_init [] (0, [some (.ref a0), some (.int x1), some (.int x2), none], [], σ) := e_call hd at_X4_init rfl
theorem b_X4_init_0 {C : aCall} {σ : aSt} {a0 : Nat} {x1 x2 : Int32} (hk0 : a_kd σ a0 = 16) (hn1 : 100 ≤ a0) : b_R C kX4_init [] (0, [some (.ref a0), some (.int x1), some (.int x2), none], [], σ) = b_R C kX4_init [] (13, [some (.ref a0), some (.int x1), some (.int x2), some (.int (x1 * x2))], [], (a_setI σ a0 1 x2)) := by
  refine (e_aload_n rfl rfl).trans ?_
  refine (e_objInit rfl rfl).trans ?_
  refine (e_iload_n rfl rfl).trans ?_
  refine (e_iload_n rfl rfl).trans ?_
  refine (e_imul rfl).trans ?_
  refine (e_istore_n rfl rfl rfl).trans ?_
  refine (e_aload_n rfl rfl).trans ?_
  refine (e_iload_n rfl rfl).trans ?_
  refine (e_putI rfl hk0 hn1).trans ?_
  rfl
theorem b_X4_init_13 {C : aCall} {σ : aSt} {a0 : Nat} {x1 x2 x3 : Int32} : b_R C kX4_init [] (13, [some (.ref a0), some (.int x1), some (.int x2), some (.int x3)], [], σ) = (if x3 < 0 then b_R C kX4_init [] (23, [some (.ref a0), some (.int x1), some (.int x2), some (.int x3)], [.int 0, .ref a0], σ) else b_R C kX4_init [] (23, [some (.ref a0), some (.int x1), some (.int x2), some (.int x3)], [.int x3, .ref a0], σ)) := by
  refine (e_aload_n rfl rfl).trans ?_
  refine (e_iload_n rfl rfl).trans ?_
  refine (e_ifge rfl).trans ?_
  refine b_ite ?_ ?_
  · refine (e_iconst rfl).trans ?_
    refine (e_goto rfl).trans ?_
    rfl
  · refine (e_iload_n rfl rfl).trans ?_
    rfl
theorem b_X4_init_23 {C : aCall} {σ : aSt} {m0 a0 : Nat} {x1 x2 x3 y0 : Int32} (ha0 : ¬ y0 < 0) (hb0 : Int32.toNatClampNeg y0 = m0) (hc0 : m0 ≤ 65536) (hk3 : a_kd (a_new σ 1 m0 m0) a0 = 16) (hn4 : 100 ≤ a0) : b_R C kX4_init [] (23, [some (.ref a0), some (.int x1), some (.int x2), some (.int x3)], [.int y0, .ref a0], σ) = b_R C kX4_init [] (28, [some (.ref a0), some (.int x1), some (.int x2), some (.int x3)], [], (a_setR (a_new σ 1 m0 m0) a0 0 (some (a_n σ)))) := by
  refine (e_newarray (m := m0) rfl ha0 hb0 hc0).trans ?_
  refine (e_putR rfl hk3 hn4).trans ?_
  rfl
theorem b_X4_init_28 {C : aCall} {σ : aSt} {a0 : Nat} {x1 x2 x3 : Int32} : b_R C kX4_init [] (28, [some (.ref a0), some (.int x1), some (.int x2), some (.int x3)], [], σ) = some (.inl none, σ) := by
  exact e_return_ rfl
theorem n_X4_get {P : aCall} {d : Nat} {σ : aSt} {t : Nat} {x1 x2 : Int32} (hd : 1 ≤ d) : a_call a_tab P d 1 [.ref t, .int x1, .int x2] σ = b_R (a_call a_tab P (d - 1)) kX4_get [] (0, [some (.ref t), some (.int x1), some (.int x2), none, none], [], σ) := e_call hd at_X4_get rfl
theorem b_X4_get_0 {C : aCall} {σ : aSt} {t c_t N_t : Nat} {x1 x2 : Int32} (ht : Tb σ t c_t N_t) : b_R C kX4_get [] (0, [some (.ref t), some (.int x1), some (.int x2), none, none], [], σ) = (if x1 < 0 then b_R C kX4_get [] (37, [some (.ref t), some (.int x1), some (.int x2), some (.int ((x1 * (a_I σ t 1)) + x2)), none], [], σ) else (if x1 < (a_I σ t 2) then (if x2 < 0 then b_R C kX4_get [] (37, [some (.ref t), some (.int x1), some (.int x2), some (.int ((x1 * (a_I σ t 1)) + x2)), none], [], σ) else (if x2 < (a_I σ t 1) then b_R C kX4_get [] (38, [some (.ref t), some (.int x1), some (.int x2), some (.int ((x1 * (a_I σ t 1)) + x2)), none], [.int 1], σ) else b_R C kX4_get [] (37, [some (.ref t), some (.int x1), some (.int x2), some (.int ((x1 * (a_I σ t 1)) + x2)), none], [], σ))) else b_R C kX4_get [] (37, [some (.ref t), some (.int x1), some (.int x2), some (.int ((x1 * (a_I σ t 1)) + x2)), none], [], σ))) := by
  refine (e_iload_n rfl rfl).trans ?_
  refine (e_aload_n rfl rfl).trans ?_
  refine (e_getI rfl ht.1 rfl).trans ?_
  refine (e_imul rfl).trans ?_
  refine (e_iload_n rfl rfl).trans ?_
  refine (e_iadd rfl).trans ?_
  refine (e_istore_n rfl rfl rfl).trans ?_
  refine (e_iload_n rfl rfl).trans ?_
  refine (e_iflt rfl).trans ?_
  refine b_ite ?_ ?_
  · rfl
  · refine (e_iload_n rfl rfl).trans ?_
    refine (e_aload_n rfl rfl).trans ?_
    refine (e_getI rfl ht.1 rfl).trans ?_
    refine (e_icge rfl).trans ?_
    refine b_ite ?_ ?_
    · refine (e_iload_n rfl rfl).trans ?_
      refine (e_iflt rfl).trans ?_
      refine b_ite ?_ ?_
      · rfl
      · refine (e_iload_n rfl rfl).trans ?_
        refine (e_aload_n rfl rfl).trans ?_
        refine (e_getI rfl ht.1 rfl).trans ?_
        refine (e_icge rfl).trans ?_
        refine b_ite ?_ ?_
        · refine (e_iconst rfl).trans ?_
          refine (e_goto rfl).trans ?_
          rfl
        · rfl
    · rfl
theorem b_X4_get_37 {C : aCall} {σ : aSt} {t : Nat} {x1 x2 x3 : Int32} : b_R C kX4_get [] (37, [some (.ref t), some (.int x1), some (.int x2), some (.int x3), none], [], σ) = b_R C kX4_get [] (38, [some (.ref t), some (.int x1), some (.int x2), some (.int x3), none], [.int 0], σ) := by
  refine (e_iconst rfl).trans ?_
  rfl
theorem b_X4_get_38 {C : aCall} {σ : aSt} {t c_t N_t : Nat} {x1 x2 x3 y0 : Int32} (ht : Tb σ t c_t N_t) : b_R C kX4_get [] (38, [some (.ref t), some (.int x1), some (.int x2), some (.int x3), none], [.int y0], σ) = (if y0 = 0 then b_R C kX4_get [] (67, [some (.ref t), some (.int x1), some (.int x2), some (.int x3), some (.int y0)], [], σ) else (if x3 < 0 then b_R C kX4_get [] (67, [some (.ref t), some (.int x1), some (.int x2), some (.int x3), some (.int y0)], [], σ) else (if x3 < (Int32.ofNat N_t) then b_gd (a_in x3 N_t) (b_R C kX4_get [] (68, [some (.ref t), some (.int x1), some (.int x2), some (.int x3), some (.int y0)], [.int (a_I σ c_t (Int32.toNatClampNeg x3))], σ)) else b_R C kX4_get [] (67, [some (.ref t), some (.int x1), some (.int x2), some (.int x3), some (.int y0)], [], σ)))) := by
  refine (e_istore rfl rfl rfl).trans ?_
  refine (e_iload rfl rfl).trans ?_
  refine (e_ifeq rfl).trans ?_
  refine b_ite ?_ ?_
  · rfl
  · refine (e_iload_n rfl rfl).trans ?_
    refine (e_iflt rfl).trans ?_
    refine b_ite ?_ ?_
    · rfl
    · refine (e_iload_n rfl rfl).trans ?_
      refine (e_aload_n rfl rfl).trans ?_
      refine (e_getR rfl ht.1 ht.2.2.1).trans ?_
      refine (e_alen rfl (by rw [show a_kd _ c_t = 1 from ht.2.2.2.1]; exact ⟨rfl, rfl⟩) ht.2.2.2.2.2.1 ht.2.2.2.2.2.2).trans ?_
      refine (e_icge rfl).trans ?_
      refine b_ite ?_ ?_
      · refine (e_aload_n rfl rfl).trans ?_
        refine (e_getR rfl ht.1 ht.2.2.1).trans ?_
        refine (e_iload_n rfl rfl).trans ?_
        refine (e_iaload rfl (.inl ht.2.2.2.1) ht.2.2.2.2.2.1).trans ?_
        refine b_gd_c ?_
        refine (e_goto rfl).trans ?_
        rfl
      · rfl
theorem b_X4_get_67 {C : aCall} {σ : aSt} {t : Nat} {x1 x2 x3 x4 : Int32} : b_R C kX4_get [] (67, [some (.ref t), some (.int x1), some (.int x2), some (.int x3), some (.int x4)], [], σ) = b_R C kX4_get [] (68, [some (.ref t), some (.int x1), some (.int x2), some (.int x3), some (.int x4)], [.int 0], σ) := by
  refine (e_iconst rfl).trans ?_
  rfl
theorem b_X4_get_68 {C : aCall} {σ : aSt} {t : Nat} {x1 x2 x3 x4 y0 : Int32} : b_R C kX4_get [] (68, [some (.ref t), some (.int x1), some (.int x2), some (.int x3), some (.int x4)], [.int y0], σ) = some (.inl (some (.int y0)), σ) := by
  exact e_ireturn rfl
theorem n_X4_set {P : aCall} {d : Nat} {σ : aSt} {t : Nat} {x1 x2 x3 : Int32} (hd : 1 ≤ d) : a_call a_tab P d 2 [.ref t, .int x1, .int x2, .int x3] σ = b_R (a_call a_tab P (d - 1)) kX4_set [] (0, [some (.ref t), some (.int x1), some (.int x2), some (.int x3), none, none], [], σ) := e_call hd at_X4_set rfl
theorem b_X4_set_0 {C : aCall} {σ : aSt} {t c_t N_t : Nat} {x1 x2 x3 : Int32} (ht : Tb σ t c_t N_t) : b_R C kX4_set [] (0, [some (.ref t), some (.int x1), some (.int x2), some (.int x3), none, none], [], σ) = (if x1 < 0 then b_R C kX4_set [] (38, [some (.ref t), some (.int x1), some (.int x2), some (.int x3), some (.int ((x1 * (a_I σ t 1)) + x2)), none], [], σ) else (if x1 < (a_I σ t 2) then (if x2 < 0 then b_R C kX4_set [] (38, [some (.ref t), some (.int x1), some (.int x2), some (.int x3), some (.int ((x1 * (a_I σ t 1)) + x2)), none], [], σ) else (if x2 < (a_I σ t 1) then b_R C kX4_set [] (39, [some (.ref t), some (.int x1), some (.int x2), some (.int x3), some (.int ((x1 * (a_I σ t 1)) + x2)), none], [.int 1], σ) else b_R C kX4_set [] (38, [some (.ref t), some (.int x1), some (.int x2), some (.int x3), some (.int ((x1 * (a_I σ t 1)) + x2)), none], [], σ))) else b_R C kX4_set [] (38, [some (.ref t), some (.int x1), some (.int x2), some (.int x3), some (.int ((x1 * (a_I σ t 1)) + x2)), none], [], σ))) := by
  refine (e_iload_n rfl rfl).trans ?_
  refine (e_aload_n rfl rfl).trans ?_
  refine (e_getI rfl ht.1 rfl).trans ?_
  refine (e_imul rfl).trans ?_
  refine (e_iload_n rfl rfl).trans ?_
  refine (e_iadd rfl).trans ?_
  refine (e_istore rfl rfl rfl).trans ?_
  refine (e_iload_n rfl rfl).trans ?_
  refine (e_iflt rfl).trans ?_
  refine b_ite ?_ ?_
  · rfl
  · refine (e_iload_n rfl rfl).trans ?_
    refine (e_aload_n rfl rfl).trans ?_
    refine (e_getI rfl ht.1 rfl).trans ?_
    refine (e_icge rfl).trans ?_
    refine b_ite ?_ ?_
    · refine (e_iload_n rfl rfl).trans ?_
      refine (e_iflt rfl).trans ?_
      refine b_ite ?_ ?_
      · rfl
      · refine (e_iload_n rfl rfl).trans ?_
        refine (e_aload_n rfl rfl).trans ?_
        refine (e_getI rfl ht.1 rfl).trans ?_
        refine (e_icge rfl).trans ?_
        refine b_ite ?_ ?_
        · refine (e_iconst rfl).trans ?_
          refine (e_goto rfl).trans ?_
          rfl
        · rfl
    · rfl
theorem b_X4_set_38 {C : aCall} {σ : aSt} {t : Nat} {x1 x2 x3 x4 : Int32} : b_R C kX4_set [] (38, [some (.ref t), some (.int x1), some (.int x2), some (.int x3), some (.int x4), none], [], σ) = b_R C kX4_set [] (39, [some (.ref t), some (.int x1), some (.int x2), some (.int x3), some (.int x4), none], [.int 0], σ) := by
  refine (e_iconst rfl).trans ?_
  rfl
theorem b_X4_set_39 {C : aCall} {σ : aSt} {t c_t N_t : Nat} {x1 x2 x3 x4 y0 : Int32} (ht : Tb σ t c_t N_t) : b_R C kX4_set [] (39, [some (.ref t), some (.int x1), some (.int x2), some (.int x3), some (.int x4), none], [.int y0], σ) = (if y0 = 0 then b_R C kX4_set [] (69, [some (.ref t), some (.int x1), some (.int x2), some (.int x3), some (.int x4), some (.int y0)], [], σ) else (if x4 < 0 then b_R C kX4_set [] (69, [some (.ref t), some (.int x1), some (.int x2), some (.int x3), some (.int x4), some (.int y0)], [], σ) else (if x4 < (Int32.ofNat N_t) then b_gd (a_in x4 N_t) (b_R C kX4_set [] (69, [some (.ref t), some (.int x1), some (.int x2), some (.int x3), some (.int x4), some (.int y0)], [], (a_setI σ c_t (Int32.toNatClampNeg x4) x3))) else b_R C kX4_set [] (69, [some (.ref t), some (.int x1), some (.int x2), some (.int x3), some (.int x4), some (.int y0)], [], σ)))) := by
  refine (e_istore rfl rfl rfl).trans ?_
  refine (e_iload rfl rfl).trans ?_
  refine (e_ifeq rfl).trans ?_
  refine b_ite ?_ ?_
  · rfl
  · refine (e_iload rfl rfl).trans ?_
    refine (e_iflt rfl).trans ?_
    refine b_ite ?_ ?_
    · rfl
    · refine (e_iload rfl rfl).trans ?_
      refine (e_aload_n rfl rfl).trans ?_
      refine (e_getR rfl ht.1 ht.2.2.1).trans ?_
      refine (e_alen rfl (by rw [show a_kd _ c_t = 1 from ht.2.2.2.1]; exact ⟨rfl, rfl⟩) ht.2.2.2.2.2.1 ht.2.2.2.2.2.2).trans ?_
      refine (e_icge rfl).trans ?_
      refine b_ite ?_ ?_
      · refine (e_aload_n rfl rfl).trans ?_
        refine (e_getR rfl ht.1 ht.2.2.1).trans ?_
        refine (e_iload rfl rfl).trans ?_
        refine (e_iload_n rfl rfl).trans ?_
        refine (e_iastore rfl ht.2.2.2.1 ht.2.2.2.2.1 ht.2.2.2.2.2.1).trans ?_
        refine b_gd_c ?_
        rfl
      · rfl
theorem b_X4_set_69 {C : aCall} {σ : aSt} {t : Nat} {x1 x2 x3 x4 x5 : Int32} : b_R C kX4_set [] (69, [some (.ref t), some (.int x1), some (.int x2), some (.int x3), some (.int x4), some (.int x5)], [], σ) = some (.inl none, σ) := by
  exact e_return_ rfl
theorem n_X4_isFull {P : aCall} {d : Nat} {σ : aSt} {t : Nat} (hd : 1 ≤ d) : a_call a_tab P d 3 [.ref t] σ = b_R (a_call a_tab P (d - 1)) kX4_isFull [] (0, [some (.ref t)], [], σ) := e_call hd at_X4_isFull rfl
theorem b_X4_isFull_0 {C : aCall} {σ : aSt} {t c_t N_t : Nat} (ht : Tb σ t c_t N_t) : b_R C kX4_isFull [] (0, [some (.ref t)], [], σ) = (if (Int32.ofNat N_t) < (((a_I σ t 2) + 1) * (a_I σ t 1)) then b_R C kX4_isFull [] (24, [some (.ref t)], [.int 1], σ) else b_R C kX4_isFull [] (24, [some (.ref t)], [.int 0], σ)) := by
  refine (e_aload_n rfl rfl).trans ?_
  refine (e_getI rfl ht.1 rfl).trans ?_
  refine (e_iconst rfl).trans ?_
  refine (e_iadd rfl).trans ?_
  refine (e_aload_n rfl rfl).trans ?_
  refine (e_getI rfl ht.1 rfl).trans ?_
  refine (e_imul rfl).trans ?_
  refine (e_aload_n rfl rfl).trans ?_
  refine (e_getR rfl ht.1 ht.2.2.1).trans ?_
  refine (e_alen rfl (by rw [show a_kd _ c_t = 1 from ht.2.2.2.1]; exact ⟨rfl, rfl⟩) ht.2.2.2.2.2.1 ht.2.2.2.2.2.2).trans ?_
  refine (e_icle rfl).trans ?_
  refine b_ite ?_ ?_
  · refine (e_iconst rfl).trans ?_
    refine (e_goto rfl).trans ?_
    rfl
  · refine (e_iconst rfl).trans ?_
    rfl
theorem b_X4_isFull_24 {C : aCall} {σ : aSt} {t : Nat} {y0 : Int32} : b_R C kX4_isFull [] (24, [some (.ref t)], [.int y0], σ) = b_gd (y0 = 0 ∨ y0 = 1) (some (.inl (some (.int y0)), σ)) := by
  exact e_zreturn rfl
theorem n_X4_removeAll {P : aCall} {d : Nat} {σ : aSt} {t : Nat} (hd : 1 ≤ d) : a_call a_tab P d 4 [.ref t] σ = b_R (a_call a_tab P (d - 1)) kX4_removeAll [] (0, [some (.ref t)], [], σ) := e_call hd at_X4_removeAll rfl
theorem b_X4_removeAll_0 {C : aCall} {σ : aSt} {t c_t N_t : Nat} (ht : Tb σ t c_t N_t) : b_R C kX4_removeAll [] (0, [some (.ref t)], [], σ) = some (.inl none, (a_setI σ t 2 0)) := by
  refine (e_aload_n rfl rfl).trans ?_
  refine (e_iconst rfl).trans ?_
  refine (e_putI rfl ht.1 ht.2.1).trans ?_
  exact e_return_ rfl
theorem n_X4_addRow {P : aCall} {d : Nat} {σ : aSt} {t : Nat} (hd : 1 ≤ d) : a_call a_tab P d 5 [.ref t] σ = b_R (a_call a_tab P (d - 1)) kX4_addRow [] (0, [some (.ref t), none], [], σ) := e_call hd at_X4_addRow rfl
theorem b_X4_addRow_0 {C : aCall} {σ : aSt} {t c_t N_t : Nat} (ht : Tb σ t c_t N_t) : b_R C kX4_addRow [] (0, [some (.ref t), none], [], σ) = b_G C kX4_addRow [] 1 4 [some (.ref t), none] [] (C 3 [.ref t] σ) := by
  refine (e_aload_n rfl rfl).trans ?_
  exact (e_callV (as := [.ref t]) (st0 := []) rfl rfl rfl rfl rfl ht.1 rfl)
theorem b_X4_addRow_4 {C : aCall} {σ : aSt} {t c_t N_t : Nat} {y0 : Int32} (ht : Tb σ t c_t N_t) : b_R C kX4_addRow [] (4, [some (.ref t), none], [.int y0], σ) = (if y0 = 0 then b_R C kX4_addRow [] (21, [some (.ref t), some (.int 0)], [], (a_setI σ t 2 ((a_I σ t 2) + 1))) else some (.inl (some (.int ((-1)))), σ)) := by
  refine (e_ifeq rfl).trans ?_
  refine b_ite ?_ ?_
  · refine (e_aload_n rfl rfl).trans ?_
    refine (e_dup rfl rfl).trans ?_
    refine (e_getI rfl ht.1 rfl).trans ?_
    refine (e_iconst rfl).trans ?_
    refine (e_iadd rfl).trans ?_
    refine (e_putI rfl ht.1 ht.2.1).trans ?_
    refine (e_iconst rfl).trans ?_
    refine (e_istore_n rfl rfl rfl).trans ?_
    rfl
  · refine (e_iconst rfl).trans ?_
    exact e_ireturn rfl
theorem b_X4_addRow_21 {C : aCall} {σ : aSt} {t c_t N_t : Nat} {x1 : Int32} (ht : Tb σ t c_t N_t) : b_R C kX4_addRow [] (21, [some (.ref t), some (.int x1)], [], σ) = (if x1 < (a_I σ t 1) then b_G C kX4_addRow [] 38 41 [some (.ref t), some (.int x1)] [] (C 2 [.ref t, .int ((a_I σ t 2) - 1), .int x1, .int 0] σ) else some (.inl (some (.int ((a_I σ t 2) - 1))), σ)) := by
  refine (e_iload_n rfl rfl).trans ?_
  refine (e_aload_n rfl rfl).trans ?_
  refine (e_getI rfl ht.1 rfl).trans ?_
  refine (e_icge rfl).trans ?_
  refine b_ite ?_ ?_
  · refine (e_aload_n rfl rfl).trans ?_
    refine (e_aload_n rfl rfl).trans ?_
    refine (e_getI rfl ht.1 rfl).trans ?_
    refine (e_iconst rfl).trans ?_
    refine (e_isub rfl).trans ?_
    refine (e_iload_n rfl rfl).trans ?_
    refine (e_iconst rfl).trans ?_
    exact (e_callV (as := [.ref t, .int ((a_I σ t 2) - 1), .int x1, .int 0]) (st0 := []) rfl rfl rfl rfl rfl ht.1 rfl)
  · refine (e_aload_n rfl rfl).trans ?_
    refine (e_getI rfl ht.1 rfl).trans ?_
    refine (e_iconst rfl).trans ?_
    refine (e_isub rfl).trans ?_
    exact e_ireturn rfl
theorem b_X4_addRow_41 {C : aCall} {σ : aSt} {t : Nat} {x1 : Int32} : b_R C kX4_addRow [] (41, [some (.ref t), some (.int x1)], [], σ) = b_R C kX4_addRow [] (21, [some (.ref t), some (.int (x1 + 1))], [], σ) := by
  refine (e_iinc rfl rfl rfl rfl).trans ?_
  refine (e_goto rfl).trans ?_
  rfl
theorem n_X4_addFirst {P : aCall} {d : Nat} {σ : aSt} {t : Nat} (hd : 1 ≤ d) : a_call a_tab P d 6 [.ref t] σ = b_R (a_call a_tab P (d - 1)) kX4_addFirst [] (0, [some (.ref t), none], [], σ) := e_call hd at_X4_addFirst rfl
theorem b_X4_addFirst_0 {C : aCall} {σ : aSt} {t c_t N_t : Nat} (ht : Tb σ t c_t N_t) : b_R C kX4_addFirst [] (0, [some (.ref t), none], [], σ) = b_G C kX4_addFirst [] 1 4 [some (.ref t), none] [] (C 3 [.ref t] σ) := by
  refine (e_aload_n rfl rfl).trans ?_
  exact (e_callV (as := [.ref t]) (st0 := []) rfl rfl rfl rfl rfl ht.1 rfl)
theorem b_X4_addFirst_4 {C : aCall} {σ : aSt} {t c_t N_t : Nat} {y0 : Int32} (ht : Tb σ t c_t N_t) : b_R C kX4_addFirst [] (4, [some (.ref t), none], [.int y0], σ) = (if y0 = 0 then b_R C kX4_addFirst [] (17, [some (.ref t), none], [], (a_setI σ t 2 ((a_I σ t 2) + 1))) else b_R C kX4_addFirst [] (17, [some (.ref t), none], [], σ)) := by
  refine (e_ifne rfl).trans ?_
  refine b_ite ?_ ?_
  · refine (e_aload_n rfl rfl).trans ?_
    refine (e_dup rfl rfl).trans ?_
    refine (e_getI rfl ht.1 rfl).trans ?_
    refine (e_iconst rfl).trans ?_
    refine (e_iadd rfl).trans ?_
    refine (e_putI rfl ht.1 ht.2.1).trans ?_
    rfl
  · rfl
theorem b_X4_addFirst_17 {C : aCall} {σ : aSt} {t c_t N_t : Nat} (ht : Tb σ t c_t N_t) : b_R C kX4_addFirst [] (17, [some (.ref t), none], [], σ) = b_R C kX4_addFirst [] (24, [some (.ref t), some (.int ((a_I σ t 2) - 1))], [], σ) := by
  refine (e_aload_n rfl rfl).trans ?_
  refine (e_getI rfl ht.1 rfl).trans ?_
  refine (e_iconst rfl).trans ?_
  refine (e_isub rfl).trans ?_
  refine (e_istore_n rfl rfl rfl).trans ?_
  rfl
theorem b_X4_addFirst_24 {C : aCall} {σ : aSt} {t c_t N_t : Nat} {x1 : Int32} (ht : Tb σ t c_t N_t) : b_R C kX4_addFirst [] (24, [some (.ref t), some (.int x1)], [], σ) = (if 0 < x1 then b_G C kX4_addFirst [] 34 37 [some (.ref t), some (.int x1)] [] (C 8 [.ref t, .int x1, .ref t, .int (x1 - 1)] σ) else some (.inl none, σ)) := by
  refine (e_iload_n rfl rfl).trans ?_
  refine (e_ifle rfl).trans ?_
  refine b_ite ?_ ?_
  · refine (e_aload_n rfl rfl).trans ?_
    refine (e_iload_n rfl rfl).trans ?_
    refine (e_aload_n rfl rfl).trans ?_
    refine (e_iload_n rfl rfl).trans ?_
    refine (e_iconst rfl).trans ?_
    refine (e_isub rfl).trans ?_
    exact (e_callV (as := [.ref t, .int x1, .ref t, .int (x1 - 1)]) (st0 := []) rfl rfl rfl rfl rfl ht.1 rfl)
  · exact e_return_ rfl
theorem b_X4_addFirst_37 {C : aCall} {σ : aSt} {t : Nat} {x1 : Int32} : b_R C kX4_addFirst [] (37, [some (.ref t), some (.int x1)], [], σ) = b_R C kX4_addFirst [] (24, [some (.ref t), some (.int (x1 + (-1)))], [], σ) := by
  refine (e_iinc rfl rfl rfl rfl).trans ?_
  refine (e_goto rfl).trans ?_
  rfl
theorem n_X4_removeRow {P : aCall} {d : Nat} {σ : aSt} {t : Nat} {x1 : Int32} (hd : 1 ≤ d) : a_call a_tab P d 7 [.ref t, .int x1] σ = b_R (a_call a_tab P (d - 1)) kX4_removeRow [] (0, [some (.ref t), some (.int x1), none], [], σ) := e_call hd at_X4_removeRow rfl
theorem b_X4_removeRow_0 {C : aCall} {σ : aSt} {t : Nat} {x1 : Int32} : b_R C kX4_removeRow [] (0, [some (.ref t), some (.int x1), none], [], σ) = b_R C kX4_removeRow [] (2, [some (.ref t), some (.int x1), some (.int x1)], [], σ) := by
  refine (e_iload_n rfl rfl).trans ?_
  refine (e_istore_n rfl rfl rfl).trans ?_
  rfl
theorem b_X4_removeRow_2 {C : aCall} {σ : aSt} {t c_t N_t : Nat} {x1 x2 : Int32} (ht : Tb σ t c_t N_t) : b_R C kX4_removeRow [] (2, [some (.ref t), some (.int x1), some (.int x2)], [], σ) = (if x2 < ((a_I σ t 2) - 1) then b_G C kX4_removeRow [] 18 21 [some (.ref t), some (.int x1), some (.int x2)] [] (C 8 [.ref t, .int x2, .ref t, .int (x2 + 1)] σ) else (if x1 < 0 then b_R C kX4_removeRow [] (49, [some (.ref t), some (.int x1), some (.int x2)], [], σ) else (if x1 < (a_I σ t 2) then b_R C kX4_removeRow [] (49, [some (.ref t), some (.int x1), some (.int x2)], [], (a_setI σ t 2 ((a_I σ t 2) - 1))) else b_R C kX4_removeRow [] (49, [some (.ref t), some (.int x1), some (.int x2)], [], σ)))) := by
  refine (e_iload_n rfl rfl).trans ?_
  refine (e_aload_n rfl rfl).trans ?_
  refine (e_getI rfl ht.1 rfl).trans ?_
  refine (e_iconst rfl).trans ?_
  refine (e_isub rfl).trans ?_
  refine (e_icge rfl).trans ?_
  refine b_ite ?_ ?_
  · refine (e_aload_n rfl rfl).trans ?_
    refine (e_iload_n rfl rfl).trans ?_
    refine (e_aload_n rfl rfl).trans ?_
    refine (e_iload_n rfl rfl).trans ?_
    refine (e_iconst rfl).trans ?_
    refine (e_iadd rfl).trans ?_
    exact (e_callV (as := [.ref t, .int x2, .ref t, .int (x2 + 1)]) (st0 := []) rfl rfl rfl rfl rfl ht.1 rfl)
  · refine (e_iload_n rfl rfl).trans ?_
    refine (e_iflt rfl).trans ?_
    refine b_ite ?_ ?_
    · rfl
    · refine (e_iload_n rfl rfl).trans ?_
      refine (e_aload_n rfl rfl).trans ?_
      refine (e_getI rfl ht.1 rfl).trans ?_
      refine (e_icge rfl).trans ?_
      refine b_ite ?_ ?_
      · refine (e_aload_n rfl rfl).trans ?_
        refine (e_dup rfl rfl).trans ?_
        refine (e_getI rfl ht.1 rfl).trans ?_
        refine (e_iconst rfl).trans ?_
        refine (e_isub rfl).trans ?_
        refine (e_putI rfl ht.1 ht.2.1).trans ?_
        rfl
      · rfl
theorem b_X4_removeRow_21 {C : aCall} {σ : aSt} {t : Nat} {x1 x2 : Int32} : b_R C kX4_removeRow [] (21, [some (.ref t), some (.int x1), some (.int x2)], [], σ) = b_R C kX4_removeRow [] (2, [some (.ref t), some (.int x1), some (.int (x2 + 1))], [], σ) := by
  refine (e_iinc rfl rfl rfl rfl).trans ?_
  refine (e_goto rfl).trans ?_
  rfl
theorem b_X4_removeRow_49 {C : aCall} {σ : aSt} {t : Nat} {x1 x2 : Int32} : b_R C kX4_removeRow [] (49, [some (.ref t), some (.int x1), some (.int x2)], [], σ) = some (.inl none, σ) := by
  exact e_return_ rfl
theorem n_X4_copyRow {P : aCall} {d : Nat} {σ : aSt} {t u : Nat} {x1 x3 : Int32} (hd : 1 ≤ d) : a_call a_tab P d 8 [.ref t, .int x1, .ref u, .int x3] σ = b_R (a_call a_tab P (d - 1)) kX4_copyRow [] (0, [some (.ref t), some (.int x1), some (.ref u), some (.int x3), none], [], σ) := e_call hd at_X4_copyRow rfl
theorem b_X4_copyRow_0 {C : aCall} {σ : aSt} {t u : Nat} {x1 x3 : Int32} : b_R C kX4_copyRow [] (0, [some (.ref t), some (.int x1), some (.ref u), some (.int x3), none], [], σ) = b_R C kX4_copyRow [] (3, [some (.ref t), some (.int x1), some (.ref u), some (.int x3), some (.int 0)], [], σ) := by
  refine (e_iconst rfl).trans ?_
  refine (e_istore rfl rfl rfl).trans ?_
  rfl
theorem b_X4_copyRow_3 {C : aCall} {σ : aSt} {t c_t N_t u c_u N_u : Nat} {x1 x3 x4 : Int32} (ht : Tb σ t c_t N_t) (hu : Tb σ u c_u N_u) : b_R C kX4_copyRow [] (3, [some (.ref t), some (.int x1), some (.ref u), some (.int x3), some (.int x4)], [], σ) = (if x4 < (a_I σ t 1) then b_G C kX4_copyRow [] 20 23 [some (.ref t), some (.int x1), some (.ref u), some (.int x3), some (.int x4)] [.int x4, .int x1, .ref t] (C 1 [.ref u, .int x3, .int x4] σ) else some (.inl none, σ)) := by
  refine (e_iload rfl rfl).trans ?_
  refine (e_aload_n rfl rfl).trans ?_
  refine (e_getI rfl ht.1 rfl).trans ?_
  refine (e_icge rfl).trans ?_
  refine b_ite ?_ ?_
  · refine (e_aload_n rfl rfl).trans ?_
    refine (e_iload_n rfl rfl).trans ?_
    refine (e_iload rfl rfl).trans ?_
    refine (e_aload_n rfl rfl).trans ?_
    refine (e_iload_n rfl rfl).trans ?_
    refine (e_iload rfl rfl).trans ?_
    exact (e_callV (as := [.ref u, .int x3, .int x4]) (st0 := [.int x4, .int x1, .ref t]) rfl rfl rfl rfl rfl hu.1 rfl)
  · exact e_return_ rfl
theorem b_X4_copyRow_23 {C : aCall} {σ : aSt} {t c_t N_t u : Nat} {x1 x3 x4 y0 y1 y2 : Int32} (ht : Tb σ t c_t N_t) : b_R C kX4_copyRow [] (23, [some (.ref t), some (.int x1), some (.ref u), some (.int x3), some (.int x4)], [.int y0, .int y1, .int y2, .ref t], σ) = b_G C kX4_copyRow [] 23 26 [some (.ref t), some (.int x1), some (.ref u), some (.int x3), some (.int x4)] [] (C 2 [.ref t, .int y2, .int y1, .int y0] σ) := by
  exact (e_callV (as := [.ref t, .int y2, .int y1, .int y0]) (st0 := []) rfl rfl rfl rfl rfl ht.1 rfl)
theorem b_X4_copyRow_26 {C : aCall} {σ : aSt} {t u : Nat} {x1 x3 x4 : Int32} : b_R C kX4_copyRow [] (26, [some (.ref t), some (.int x1), some (.ref u), some (.int x3), some (.int x4)], [], σ) = b_R C kX4_copyRow [] (3, [some (.ref t), some (.int x1), some (.ref u), some (.int x3), some (.int (x4 + 1))], [], σ) := by
  refine (e_iinc rfl rfl rfl rfl).trans ?_
  refine (e_goto rfl).trans ?_
  rfl
theorem n_X4_copyFrom {P : aCall} {d : Nat} {σ : aSt} {t u : Nat} (hd : 1 ≤ d) : a_call a_tab P d 9 [.ref t, .ref u] σ = b_R (a_call a_tab P (d - 1)) kX4_copyFrom [] (0, [some (.ref t), some (.ref u), none], [], σ) := e_call hd at_X4_copyFrom rfl
theorem b_X4_copyFrom_0 {C : aCall} {σ : aSt} {u c_u N_u t c_t N_t : Nat} (ht : Tb σ t c_t N_t) (hu : Tb σ u c_u N_u) : b_R C kX4_copyFrom [] (0, [some (.ref t), some (.ref u), none], [], σ) = (if ((a_I σ u 2) * (a_I σ u 1)) < 0 then b_R C kX4_copyFrom [] (54, [some (.ref t), some (.ref u), some (.int ((a_I σ u 2) * (a_I σ u 1)))], [], σ) else (if (Int32.ofNat N_t) < ((a_I σ u 2) * (a_I σ u 1)) then b_R C kX4_copyFrom [] (54, [some (.ref t), some (.ref u), some (.int ((a_I σ u 2) * (a_I σ u 1)))], [], σ) else (if (Int32.ofNat N_u) < ((a_I σ u 2) * (a_I σ u 1)) then b_R C kX4_copyFrom [] (54, [some (.ref t), some (.ref u), some (.int ((a_I σ u 2) * (a_I σ u 1)))], [], σ) else b_G C kX4_copyFrom [] 43 46 [some (.ref t), some (.ref u), some (.int ((a_I σ u 2) * (a_I σ u 1)))] [] (C 1005 [.ref c_u, .int 0, .ref c_t, .int 0, .int ((a_I σ u 2) * (a_I σ u 1))] σ)))) := by
  refine (e_aload_n rfl rfl).trans ?_
  refine (e_getI rfl hu.1 rfl).trans ?_
  refine (e_aload_n rfl rfl).trans ?_
  refine (e_getI rfl hu.1 rfl).trans ?_
  refine (e_imul rfl).trans ?_
  refine (e_istore_n rfl rfl rfl).trans ?_
  refine (e_iload_n rfl rfl).trans ?_
  refine (e_iflt rfl).trans ?_
  refine b_ite ?_ ?_
  · rfl
  · refine (e_iload_n rfl rfl).trans ?_
    refine (e_aload_n rfl rfl).trans ?_
    refine (e_getR rfl ht.1 ht.2.2.1).trans ?_
    refine (e_alen rfl (by rw [show a_kd _ c_t = 1 from ht.2.2.2.1]; exact ⟨rfl, rfl⟩) ht.2.2.2.2.2.1 ht.2.2.2.2.2.2).trans ?_
    refine (e_icgt rfl).trans ?_
    refine b_ite ?_ ?_
    · rfl
    · refine (e_iload_n rfl rfl).trans ?_
      refine (e_aload_n rfl rfl).trans ?_
      refine (e_getR rfl hu.1 hu.2.2.1).trans ?_
      refine (e_alen rfl (by rw [show a_kd _ c_u = 1 from hu.2.2.2.1]; exact ⟨rfl, rfl⟩) hu.2.2.2.2.2.1 hu.2.2.2.2.2.2).trans ?_
      refine (e_icgt rfl).trans ?_
      refine b_ite ?_ ?_
      · rfl
      · refine (e_aload_n rfl rfl).trans ?_
        refine (e_getR rfl hu.1 hu.2.2.1).trans ?_
        refine (e_iconst rfl).trans ?_
        refine (e_aload_n rfl rfl).trans ?_
        refine (e_getR rfl ht.1 ht.2.2.1).trans ?_
        refine (e_iconst rfl).trans ?_
        refine (e_iload_n rfl rfl).trans ?_
        exact (e_callS (as := [.ref c_u, .int 0, .ref c_t, .int 0, .int ((a_I σ u 2) * (a_I σ u 1))]) (st0 := []) rfl rfl rfl rfl)
theorem b_X4_copyFrom_46 {C : aCall} {σ : aSt} {u c_u N_u t c_t N_t : Nat} {x2 : Int32} (ht : Tb σ t c_t N_t) (hu : Tb σ u c_u N_u) : b_R C kX4_copyFrom [] (46, [some (.ref t), some (.ref u), some (.int x2)], [], σ) = b_R C kX4_copyFrom [] (54, [some (.ref t), some (.ref u), some (.int x2)], [], (a_setI σ t 2 (a_I σ u 2))) := by
  refine (e_aload_n rfl rfl).trans ?_
  refine (e_aload_n rfl rfl).trans ?_
  refine (e_getI rfl hu.1 rfl).trans ?_
  refine (e_putI rfl ht.1 ht.2.1).trans ?_
  rfl
theorem b_X4_copyFrom_54 {C : aCall} {σ : aSt} {t u : Nat} {x2 : Int32} : b_R C kX4_copyFrom [] (54, [some (.ref t), some (.ref u), some (.int x2)], [], σ) = some (.inl none, σ) := by
  exact e_return_ rfl
theorem n_X4_setName {P : aCall} {d : Nat} {σ : aSt} {t : Nat} {x1 : Int32} (hd : 1 ≤ d) : a_call a_tab P d 10 [.ref t, .int x1, .ref 222] σ = b_R (a_call a_tab P (d - 1)) kX4_setName [] (0, [some (.ref t), some (.int x1), some (.ref 222), none], [], σ) := e_call hd at_X4_setName rfl
theorem b_X4_setName_0 {C : aCall} {σ : aSt} {t : Nat} {x1 : Int32} : b_R C kX4_setName [] (0, [some (.ref t), some (.int x1), some (.ref 222), none], [], σ) = b_R C kX4_setName [] (2, [some (.ref t), some (.int x1), some (.ref 222), some (.int 0)], [], σ) := by
  refine (e_iconst rfl).trans ?_
  refine (e_istore_n rfl rfl rfl).trans ?_
  rfl
theorem b_X4_setName_2 {C : aCall} {σ : aSt} {t c_t N_t : Nat} {x1 x3 : Int32} (h : Sh σ) (ht : Tb σ t c_t N_t) : b_R C kX4_setName [] (2, [some (.ref t), some (.int x1), some (.ref 222), some (.int x3)], [], σ) = (if x3 < (Int32.ofNat 8) then b_gd (a_in x3 8) (b_G C kX4_setName [] 14 17 [some (.ref t), some (.int x1), some (.ref 222), some (.int x3)] [] (C 2 [.ref t, .int x1, .int x3, .int (a_I σ 222 (Int32.toNatClampNeg x3))] σ)) else some (.inl none, σ)) := by
  refine (e_iload_n rfl rfl).trans ?_
  refine (e_aload_n rfl rfl).trans ?_
  refine (e_alen rfl (by rw [show a_kd _ 222 = 1 from (sk_222 h)]; exact ⟨rfl, rfl⟩) (sl_222 h) (Nat.le_of_ble_eq_true rfl)).trans ?_
  refine (e_icge rfl).trans ?_
  refine b_ite ?_ ?_
  · refine (e_aload_n rfl rfl).trans ?_
    refine (e_iload_n rfl rfl).trans ?_
    refine (e_iload_n rfl rfl).trans ?_
    refine (e_aload_n rfl rfl).trans ?_
    refine (e_iload_n rfl rfl).trans ?_
    refine (e_iaload rfl (.inl (sk_222 h)) (sl_222 h)).trans ?_
    refine b_gd_c ?_
    exact (e_callV (as := [.ref t, .int x1, .int x3, .int (a_I σ 222 (Int32.toNatClampNeg x3))]) (st0 := []) rfl rfl rfl rfl rfl ht.1 rfl)
  · exact e_return_ rfl
theorem b_X4_setName_17 {C : aCall} {σ : aSt} {t : Nat} {x1 x3 : Int32} : b_R C kX4_setName [] (17, [some (.ref t), some (.int x1), some (.ref 222), some (.int x3)], [], σ) = b_R C kX4_setName [] (2, [some (.ref t), some (.int x1), some (.ref 222), some (.int (x3 + 1))], [], σ) := by
  refine (e_iinc rfl rfl rfl rfl).trans ?_
  refine (e_goto rfl).trans ?_
  rfl
theorem n_X4_rowNamed {P : aCall} {d : Nat} {σ : aSt} {t : Nat} (hd : 1 ≤ d) : a_call a_tab P d 11 [.ref t, .ref 222] σ = b_R (a_call a_tab P (d - 1)) kX4_rowNamed [] (0, [some (.ref t), some (.ref 222), none], [], σ) := e_call hd at_X4_rowNamed rfl
theorem b_X4_rowNamed_0 {C : aCall} {σ : aSt} {t : Nat} : b_R C kX4_rowNamed [] (0, [some (.ref t), some (.ref 222), none], [], σ) = b_R C kX4_rowNamed [] (2, [some (.ref t), some (.ref 222), some (.int 0)], [], σ) := by
  refine (e_iconst rfl).trans ?_
  refine (e_istore_n rfl rfl rfl).trans ?_
  rfl
theorem b_X4_rowNamed_2 {C : aCall} {σ : aSt} {t c_t N_t : Nat} {x2 : Int32} (ht : Tb σ t c_t N_t) : b_R C kX4_rowNamed [] (2, [some (.ref t), some (.ref 222), some (.int x2)], [], σ) = (if x2 < (a_I σ t 2) then b_G C kX4_rowNamed [] 13 16 [some (.ref t), some (.ref 222), some (.int x2)] [] (C 12 [.ref t, .int x2, .ref 222] σ) else some (.inl (some (.int ((-1)))), σ)) := by
  refine (e_iload_n rfl rfl).trans ?_
  refine (e_aload_n rfl rfl).trans ?_
  refine (e_getI rfl ht.1 rfl).trans ?_
  refine (e_icge rfl).trans ?_
  refine b_ite ?_ ?_
  · refine (e_aload_n rfl rfl).trans ?_
    refine (e_iload_n rfl rfl).trans ?_
    refine (e_aload_n rfl rfl).trans ?_
    exact (e_callV (as := [.ref t, .int x2, .ref 222]) (st0 := []) rfl rfl rfl rfl rfl ht.1 rfl)
  · refine (e_iconst rfl).trans ?_
    exact e_ireturn rfl
theorem b_X4_rowNamed_16 {C : aCall} {σ : aSt} {t : Nat} {x2 y0 : Int32} : b_R C kX4_rowNamed [] (16, [some (.ref t), some (.ref 222), some (.int x2)], [.int y0], σ) = (if y0 = 0 then b_R C kX4_rowNamed [] (2, [some (.ref t), some (.ref 222), some (.int (x2 + 1))], [], σ) else some (.inl (some (.int x2)), σ)) := by
  refine (e_ifeq rfl).trans ?_
  refine b_ite ?_ ?_
  · refine (e_iinc rfl rfl rfl rfl).trans ?_
    refine (e_goto rfl).trans ?_
    rfl
  · refine (e_iload_n rfl rfl).trans ?_
    exact e_ireturn rfl
theorem n_X4_hasName {P : aCall} {d : Nat} {σ : aSt} {t : Nat} {x1 : Int32} (hd : 1 ≤ d) : a_call a_tab P d 12 [.ref t, .int x1, .ref 222] σ = b_R (a_call a_tab P (d - 1)) kX4_hasName [] (0, [some (.ref t), some (.int x1), some (.ref 222), none], [], σ) := e_call hd at_X4_hasName rfl
theorem b_X4_hasName_0 {C : aCall} {σ : aSt} {t : Nat} {x1 : Int32} : b_R C kX4_hasName [] (0, [some (.ref t), some (.int x1), some (.ref 222), none], [], σ) = b_R C kX4_hasName [] (2, [some (.ref t), some (.int x1), some (.ref 222), some (.int 0)], [], σ) := by
  refine (e_iconst rfl).trans ?_
  refine (e_istore_n rfl rfl rfl).trans ?_
  rfl
theorem b_X4_hasName_2 {C : aCall} {σ : aSt} {t c_t N_t : Nat} {x1 x3 : Int32} (h : Sh σ) (ht : Tb σ t c_t N_t) : b_R C kX4_hasName [] (2, [some (.ref t), some (.int x1), some (.ref 222), some (.int x3)], [], σ) = (if x3 < (Int32.ofNat 8) then b_G C kX4_hasName [] 11 14 [some (.ref t), some (.int x1), some (.ref 222), some (.int x3)] [] (C 1 [.ref t, .int x1, .int x3] σ) else some (.inl (some (.int 1)), σ)) := by
  refine (e_iload_n rfl rfl).trans ?_
  refine (e_aload_n rfl rfl).trans ?_
  refine (e_alen rfl (by rw [show a_kd _ 222 = 1 from (sk_222 h)]; exact ⟨rfl, rfl⟩) (sl_222 h) (Nat.le_of_ble_eq_true rfl)).trans ?_
  refine (e_icge rfl).trans ?_
  refine b_ite ?_ ?_
  · refine (e_aload_n rfl rfl).trans ?_
    refine (e_iload_n rfl rfl).trans ?_
    refine (e_iload_n rfl rfl).trans ?_
    exact (e_callV (as := [.ref t, .int x1, .int x3]) (st0 := []) rfl rfl rfl rfl rfl ht.1 rfl)
  · refine (e_iconst rfl).trans ?_
    exact (e_zreturn rfl).trans (b_gd_t (by decide))
theorem b_X4_hasName_14 {C : aCall} {σ : aSt} {t : Nat} {x1 x3 y0 : Int32} (h : Sh σ) : b_R C kX4_hasName [] (14, [some (.ref t), some (.int x1), some (.ref 222), some (.int x3)], [.int y0], σ) = b_gd (a_in x3 8) ((if y0 = (a_I σ 222 (Int32.toNatClampNeg x3)) then b_R C kX4_hasName [] (2, [some (.ref t), some (.int x1), some (.ref 222), some (.int (x3 + 1))], [], σ) else some (.inl (some (.int 0)), σ))) := by
  refine (e_aload_n rfl rfl).trans ?_
  refine (e_iload_n rfl rfl).trans ?_
  refine (e_iaload rfl (.inl (sk_222 h)) (sl_222 h)).trans ?_
  refine b_gd_c ?_
  refine (e_iceq rfl).trans ?_
  refine b_ite ?_ ?_
  · refine (e_iinc rfl rfl rfl rfl).trans ?_
    refine (e_goto rfl).trans ?_
    rfl
  · refine (e_iconst rfl).trans ?_
    exact (e_zreturn rfl).trans (b_gd_t (by decide))
