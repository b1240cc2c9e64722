/-! equations of the blocks, by program (wip/whole/tools/gen21.py) -/
theorem n_L_load {P : aCall} {d : Nat} {σ : aSt} {x1 : Int32} (hd : 1 ≤ d) : a_call a_tab P d 269 [.ref 100, .int x1, .ref 252] σ = b_R (a_call a_tab P (d - 1)) kL_load (m_hh qL_load) (0, [some (.ref 100), some (.int x1), some (.ref 252), none], [], σ) := e_call hd at_L_load rfl
theorem b_L_load_0 {C : aCall} {σ : aSt} {x1 : Int32} (h : Sh σ) : b_R C kL_load (m_hh qL_load) (0, [some (.ref 100), some (.int x1), some (.ref 252), none], [], σ) = b_G C kL_load (m_hh qL_load) 4 7 [some (.ref 100), some (.int x1), some (.ref 252), none] [.int (nI 0), .ref 252] (C 91 [.ref 100, .int x1] σ) := by
  refine (e_aload_n (code := kL_load) (pc := 0) rfl rfl).trans ?_
  refine (e_iconst (code := kL_load) (pc := 1) rfl).trans ?_
  refine (e_aload_n (code := kL_load) (pc := 2) rfl rfl).trans ?_
  refine (e_iload_n (code := kL_load) (pc := 3) rfl rfl).trans ?_
  exact (e_callV (σ := σ) (code := kL_load) (pc := 4) (len := 3) (k := 91) (n := 2) (c := 19) (as := [.ref 100, .int x1]) (st0 := [.int (nI 0), .ref 252]) rfl rfl rfl rfl rfl (sk_100 (σ := σ) h) rfl)
theorem b_L_load_7 {C : aCall} {σ : aSt} {x1 y0 y1 : Int32} (h : Sh σ) : b_R C kL_load (m_hh qL_load) (7, [some (.ref 100), some (.int x1), some (.ref 252), none], [.int y0, .int y1, .ref 252], σ) = b_gd (a_in y1 1) (some (.inl (some (.int (nI 0))), (a_setL σ 252 (Int32.toNatClampNeg y1) (Int32.toInt64 y0)))) := by
  refine (e_i2l (code := kL_load) (pc := 7) rfl).trans ?_
  refine (e_lastore (code := kL_load) (pc := 8) rfl (sk_252 (σ := σ) h) (h_100 rfl) (sl_252 (σ := σ) h)).trans ?_
  refine b_gd_c ?_
  refine (e_goto (code := kL_load) (pc := 9) (σ := (a_setL σ 252 (Int32.toNatClampNeg y1) (Int32.toInt64 y0))) rfl).trans ?_
  refine (e_iconst (code := kL_load) (pc := 15) (σ := (a_setL σ 252 (Int32.toNatClampNeg y1) (Int32.toInt64 y0))) rfl).trans ?_
  exact e_ireturn rfl
theorem b_L_load_12 {C : aCall} {σ : aSt} {e0 : Nat} {x1 : Int32} : b_R C kL_load (m_hh qL_load) (12, [some (.ref 100), some (.int x1), some (.ref 252), none], [.ref e0], σ) = some (.inl (some (.int (nI 1))), σ) := by
  refine (e_astore_n (code := kL_load) (pc := 12) rfl rfl rfl).trans ?_
  refine (e_iconst (code := kL_load) (pc := 13) rfl).trans ?_
  exact e_ireturn rfl
theorem n_L_size {P : aCall} {d : Nat} {σ : aSt} {x1 : Int32} (hd : 1 ≤ d) : a_call a_tab P d 270 [.ref 100, .int x1, .ref 252] σ = b_R (a_call a_tab P (d - 1)) kL_size (m_hh qL_size) (0, [some (.ref 100), some (.int x1), some (.ref 252), none], [], σ) := e_call hd at_L_size rfl
theorem b_L_size_0 {C : aCall} {σ : aSt} {x1 : Int32} (h : Sh σ) : b_R C kL_size (m_hh qL_size) (0, [some (.ref 100), some (.int x1), some (.ref 252), none], [], σ) = b_G C kL_size (m_hh qL_size) 4 7 [some (.ref 100), some (.int x1), some (.ref 252), none] [.int (nI 0), .ref 252] (C 98 [.ref 100, .int x1] σ) := by
  refine (e_aload_n (code := kL_size) (pc := 0) rfl rfl).trans ?_
  refine (e_iconst (code := kL_size) (pc := 1) rfl).trans ?_
  refine (e_aload_n (code := kL_size) (pc := 2) rfl rfl).trans ?_
  refine (e_iload_n (code := kL_size) (pc := 3) rfl rfl).trans ?_
  exact (e_callV (σ := σ) (code := kL_size) (pc := 4) (len := 3) (k := 98) (n := 2) (c := 19) (as := [.ref 100, .int x1]) (st0 := [.int (nI 0), .ref 252]) rfl rfl rfl rfl rfl (sk_100 (σ := σ) h) rfl)
theorem b_L_size_7 {C : aCall} {σ : aSt} {x1 y0 y1 : Int32} (h : Sh σ) : b_R C kL_size (m_hh qL_size) (7, [some (.ref 100), some (.int x1), some (.ref 252), none], [.int y0, .int y1, .ref 252], σ) = b_gd (a_in y1 1) (some (.inl (some (.int (nI 0))), (a_setL σ 252 (Int32.toNatClampNeg y1) (Int32.toInt64 y0)))) := by
  refine (e_i2l (code := kL_size) (pc := 7) rfl).trans ?_
  refine (e_lastore (code := kL_size) (pc := 8) rfl (sk_252 (σ := σ) h) (h_100 rfl) (sl_252 (σ := σ) h)).trans ?_
  refine b_gd_c ?_
  refine (e_goto (code := kL_size) (pc := 9) (σ := (a_setL σ 252 (Int32.toNatClampNeg y1) (Int32.toInt64 y0))) rfl).trans ?_
  refine (e_iconst (code := kL_size) (pc := 15) (σ := (a_setL σ 252 (Int32.toNatClampNeg y1) (Int32.toInt64 y0))) rfl).trans ?_
  exact e_ireturn rfl
theorem b_L_size_12 {C : aCall} {σ : aSt} {e0 : Nat} {x1 : Int32} : b_R C kL_size (m_hh qL_size) (12, [some (.ref 100), some (.int x1), some (.ref 252), none], [.ref e0], σ) = some (.inl (some (.int (nI 1))), σ) := by
  refine (e_astore_n (code := kL_size) (pc := 12) rfl rfl rfl).trans ?_
  refine (e_iconst (code := kL_size) (pc := 13) rfl).trans ?_
  exact e_ireturn rfl
theorem n_L_tube {P : aCall} {d : Nat} {σ : aSt} {x1 x2 : Int32} (hd : 1 ≤ d) : a_call a_tab P d 271 [.ref 100, .int x1, .int x2, .ref 252] σ = b_R (a_call a_tab P (d - 1)) kL_tube (m_hh qL_tube) (0, [some (.ref 100), some (.int x1), some (.int x2), some (.ref 252), none], [], σ) := e_call hd at_L_tube rfl
theorem b_L_tube_0 {C : aCall} {σ : aSt} {x1 x2 : Int32} (h : Sh σ) : b_R C kL_tube (m_hh qL_tube) (0, [some (.ref 100), some (.int x1), some (.int x2), some (.ref 252), none], [], σ) = b_G C kL_tube (m_hh qL_tube) 5 8 [some (.ref 100), some (.int x1), some (.int x2), some (.ref 252), none] [.int (nI 0), .ref 252] (C 99 [.ref 100, .int x1, .int x2] σ) := by
  refine (e_aload_n (code := kL_tube) (pc := 0) rfl rfl).trans ?_
  refine (e_iconst (code := kL_tube) (pc := 1) rfl).trans ?_
  refine (e_aload_n (code := kL_tube) (pc := 2) rfl rfl).trans ?_
  refine (e_iload_n (code := kL_tube) (pc := 3) rfl rfl).trans ?_
  refine (e_iload_n (code := kL_tube) (pc := 4) rfl rfl).trans ?_
  exact (e_callV (σ := σ) (code := kL_tube) (pc := 5) (len := 3) (k := 99) (n := 3) (c := 19) (as := [.ref 100, .int x1, .int x2]) (st0 := [.int (nI 0), .ref 252]) rfl rfl rfl rfl rfl (sk_100 (σ := σ) h) rfl)
theorem b_L_tube_8 {C : aCall} {σ : aSt} {x1 x2 y0 y1 : Int32} (h : Sh σ) : b_R C kL_tube (m_hh qL_tube) (8, [some (.ref 100), some (.int x1), some (.int x2), some (.ref 252), none], [.int y0, .int y1, .ref 252], σ) = b_gd (a_in y1 1) (some (.inl (some (.int (nI 0))), (a_setL σ 252 (Int32.toNatClampNeg y1) (Int32.toInt64 y0)))) := by
  refine (e_i2l (code := kL_tube) (pc := 8) rfl).trans ?_
  refine (e_lastore (code := kL_tube) (pc := 9) rfl (sk_252 (σ := σ) h) (h_100 rfl) (sl_252 (σ := σ) h)).trans ?_
  refine b_gd_c ?_
  refine (e_goto (code := kL_tube) (pc := 10) (σ := (a_setL σ 252 (Int32.toNatClampNeg y1) (Int32.toInt64 y0))) rfl).trans ?_
  refine (e_iconst (code := kL_tube) (pc := 17) (σ := (a_setL σ 252 (Int32.toNatClampNeg y1) (Int32.toInt64 y0))) rfl).trans ?_
  exact e_ireturn rfl
theorem b_L_tube_13 {C : aCall} {σ : aSt} {e0 : Nat} {x1 x2 : Int32} : b_R C kL_tube (m_hh qL_tube) (13, [some (.ref 100), some (.int x1), some (.int x2), some (.ref 252), none], [.ref e0], σ) = some (.inl (some (.int (nI 1))), σ) := by
  refine (e_astore (code := kL_tube) (pc := 13) rfl rfl rfl).trans ?_
  refine (e_iconst (code := kL_tube) (pc := 15) rfl).trans ?_
  exact e_ireturn rfl
theorem n_L_mix {P : aCall} {d : Nat} {σ : aSt} {x1 x2 : Int32} (hd : 1 ≤ d) : a_call a_tab P d 272 [.ref 100, .int x1, .int x2, .ref 252] σ = b_R (a_call a_tab P (d - 1)) kL_mix (m_hh qL_mix) (0, [some (.ref 100), some (.int x1), some (.int x2), some (.ref 252), none], [], σ) := e_call hd at_L_mix rfl
theorem b_L_mix_0 {C : aCall} {σ : aSt} {x1 x2 : Int32} (h : Sh σ) : b_R C kL_mix (m_hh qL_mix) (0, [some (.ref 100), some (.int x1), some (.int x2), some (.ref 252), none], [], σ) = b_G C kL_mix (m_hh qL_mix) 5 8 [some (.ref 100), some (.int x1), some (.int x2), some (.ref 252), none] [.int (nI 0), .ref 252] (C 100 [.ref 100, .int x1, .int x2] σ) := by
  refine (e_aload_n (code := kL_mix) (pc := 0) rfl rfl).trans ?_
  refine (e_iconst (code := kL_mix) (pc := 1) rfl).trans ?_
  refine (e_aload_n (code := kL_mix) (pc := 2) rfl rfl).trans ?_
  refine (e_iload_n (code := kL_mix) (pc := 3) rfl rfl).trans ?_
  refine (e_iload_n (code := kL_mix) (pc := 4) rfl rfl).trans ?_
  exact (e_callV (σ := σ) (code := kL_mix) (pc := 5) (len := 3) (k := 100) (n := 3) (c := 19) (as := [.ref 100, .int x1, .int x2]) (st0 := [.int (nI 0), .ref 252]) rfl rfl rfl rfl rfl (sk_100 (σ := σ) h) rfl)
theorem b_L_mix_8 {C : aCall} {σ : aSt} {x1 x2 y0 y1 : Int32} (h : Sh σ) : b_R C kL_mix (m_hh qL_mix) (8, [some (.ref 100), some (.int x1), some (.int x2), some (.ref 252), none], [.int y0, .int y1, .ref 252], σ) = b_gd (a_in y1 1) (some (.inl (some (.int (nI 0))), (a_setL σ 252 (Int32.toNatClampNeg y1) (Int32.toInt64 y0)))) := by
  refine (e_i2l (code := kL_mix) (pc := 8) rfl).trans ?_
  refine (e_lastore (code := kL_mix) (pc := 9) rfl (sk_252 (σ := σ) h) (h_100 rfl) (sl_252 (σ := σ) h)).trans ?_
  refine b_gd_c ?_
  refine (e_goto (code := kL_mix) (pc := 10) (σ := (a_setL σ 252 (Int32.toNatClampNeg y1) (Int32.toInt64 y0))) rfl).trans ?_
  refine (e_iconst (code := kL_mix) (pc := 17) (σ := (a_setL σ 252 (Int32.toNatClampNeg y1) (Int32.toInt64 y0))) rfl).trans ?_
  exact e_ireturn rfl
theorem b_L_mix_13 {C : aCall} {σ : aSt} {e0 : Nat} {x1 x2 : Int32} : b_R C kL_mix (m_hh qL_mix) (13, [some (.ref 100), some (.int x1), some (.int x2), some (.ref 252), none], [.ref e0], σ) = some (.inl (some (.int (nI 1))), σ) := by
  refine (e_astore (code := kL_mix) (pc := 13) rfl rfl rfl).trans ?_
  refine (e_iconst (code := kL_mix) (pc := 15) rfl).trans ?_
  exact e_ireturn rfl
theorem n_L_partOf {P : aCall} {d : Nat} {σ : aSt} {x1 x2 x3 : Int32} (hd : 1 ≤ d) : a_call a_tab P d 273 [.ref 100, .int x1, .int x2, .int x3, .ref 252] σ = b_R (a_call a_tab P (d - 1)) kL_partOf (m_hh qL_partOf) (0, [some (.ref 100), some (.int x1), some (.int x2), some (.int x3), some (.ref 252), none], [], σ) := e_call hd at_L_partOf rfl
theorem b_L_partOf_0 {C : aCall} {σ : aSt} {x1 x2 x3 : Int32} (h : Sh σ) : b_R C kL_partOf (m_hh qL_partOf) (0, [some (.ref 100), some (.int x1), some (.int x2), some (.int x3), some (.ref 252), none], [], σ) = b_G C kL_partOf (m_hh qL_partOf) 7 10 [some (.ref 100), some (.int x1), some (.int x2), some (.int x3), some (.ref 252), none] [.int (nI 0), .ref 252] (C 101 [.ref 100, .int x1, .int x2, .int x3] σ) := by
  refine (e_aload (code := kL_partOf) (pc := 0) rfl rfl).trans ?_
  refine (e_iconst (code := kL_partOf) (pc := 2) rfl).trans ?_
  refine (e_aload_n (code := kL_partOf) (pc := 3) rfl rfl).trans ?_
  refine (e_iload_n (code := kL_partOf) (pc := 4) rfl rfl).trans ?_
  refine (e_iload_n (code := kL_partOf) (pc := 5) rfl rfl).trans ?_
  refine (e_iload_n (code := kL_partOf) (pc := 6) rfl rfl).trans ?_
  exact (e_callV (σ := σ) (code := kL_partOf) (pc := 7) (len := 3) (k := 101) (n := 4) (c := 19) (as := [.ref 100, .int x1, .int x2, .int x3]) (st0 := [.int (nI 0), .ref 252]) rfl rfl rfl rfl rfl (sk_100 (σ := σ) h) rfl)
theorem b_L_partOf_10 {C : aCall} {σ : aSt} {x1 x2 x3 y0 y1 : Int32} (h : Sh σ) : b_R C kL_partOf (m_hh qL_partOf) (10, [some (.ref 100), some (.int x1), some (.int x2), some (.int x3), some (.ref 252), none], [.int y0, .int y1, .ref 252], σ) = b_gd (a_in y1 1) (some (.inl (some (.int (nI 0))), (a_setL σ 252 (Int32.toNatClampNeg y1) (Int32.toInt64 y0)))) := by
  refine (e_i2l (code := kL_partOf) (pc := 10) rfl).trans ?_
  refine (e_lastore (code := kL_partOf) (pc := 11) rfl (sk_252 (σ := σ) h) (h_100 rfl) (sl_252 (σ := σ) h)).trans ?_
  refine b_gd_c ?_
  refine (e_goto (code := kL_partOf) (pc := 12) (σ := (a_setL σ 252 (Int32.toNatClampNeg y1) (Int32.toInt64 y0))) rfl).trans ?_
  refine (e_iconst (code := kL_partOf) (pc := 19) (σ := (a_setL σ 252 (Int32.toNatClampNeg y1) (Int32.toInt64 y0))) rfl).trans ?_
  exact e_ireturn rfl
theorem b_L_partOf_15 {C : aCall} {σ : aSt} {e0 : Nat} {x1 x2 x3 : Int32} : b_R C kL_partOf (m_hh qL_partOf) (15, [some (.ref 100), some (.int x1), some (.int x2), some (.int x3), some (.ref 252), none], [.ref e0], σ) = some (.inl (some (.int (nI 1))), σ) := by
  refine (e_astore (code := kL_partOf) (pc := 15) rfl rfl rfl).trans ?_
  refine (e_iconst (code := kL_partOf) (pc := 17) rfl).trans ?_
  exact e_ireturn rfl
theorem n_L_letter {P : aCall} {d : Nat} {σ : aSt} {x1 x2 x3 : Int32} (hd : 1 ≤ d) : a_call a_tab P d 274 [.ref 100, .int x1, .int x2, .int x3, .ref 252] σ = b_R (a_call a_tab P (d - 1)) kL_letter (m_hh qL_letter) (0, [some (.ref 100), some (.int x1), some (.int x2), some (.int x3), some (.ref 252), none], [], σ) := e_call hd at_L_letter rfl
theorem b_L_letter_0 {C : aCall} {σ : aSt} {x1 x2 x3 : Int32} (h : Sh σ) : b_R C kL_letter (m_hh qL_letter) (0, [some (.ref 100), some (.int x1), some (.int x2), some (.int x3), some (.ref 252), none], [], σ) = b_G C kL_letter (m_hh qL_letter) 7 10 [some (.ref 100), some (.int x1), some (.int x2), some (.int x3), some (.ref 252), none] [.int (nI 0), .ref 252] (C 102 [.ref 100, .int x1, .int x2, .int x3] σ) := by
  refine (e_aload (code := kL_letter) (pc := 0) rfl rfl).trans ?_
  refine (e_iconst (code := kL_letter) (pc := 2) rfl).trans ?_
  refine (e_aload_n (code := kL_letter) (pc := 3) rfl rfl).trans ?_
  refine (e_iload_n (code := kL_letter) (pc := 4) rfl rfl).trans ?_
  refine (e_iload_n (code := kL_letter) (pc := 5) rfl rfl).trans ?_
  refine (e_iload_n (code := kL_letter) (pc := 6) rfl rfl).trans ?_
  exact (e_callV (σ := σ) (code := kL_letter) (pc := 7) (len := 3) (k := 102) (n := 4) (c := 19) (as := [.ref 100, .int x1, .int x2, .int x3]) (st0 := [.int (nI 0), .ref 252]) rfl rfl rfl rfl rfl (sk_100 (σ := σ) h) rfl)
theorem b_L_letter_10 {C : aCall} {σ : aSt} {x1 x2 x3 y0 y1 : Int32} (h : Sh σ) : b_R C kL_letter (m_hh qL_letter) (10, [some (.ref 100), some (.int x1), some (.int x2), some (.int x3), some (.ref 252), none], [.int y0, .int y1, .ref 252], σ) = b_gd (a_in y1 1) (some (.inl (some (.int (nI 0))), (a_setL σ 252 (Int32.toNatClampNeg y1) (Int32.toInt64 y0)))) := by
  refine (e_i2l (code := kL_letter) (pc := 10) rfl).trans ?_
  refine (e_lastore (code := kL_letter) (pc := 11) rfl (sk_252 (σ := σ) h) (h_100 rfl) (sl_252 (σ := σ) h)).trans ?_
  refine b_gd_c ?_
  refine (e_goto (code := kL_letter) (pc := 12) (σ := (a_setL σ 252 (Int32.toNatClampNeg y1) (Int32.toInt64 y0))) rfl).trans ?_
  refine (e_iconst (code := kL_letter) (pc := 19) (σ := (a_setL σ 252 (Int32.toNatClampNeg y1) (Int32.toInt64 y0))) rfl).trans ?_
  exact e_ireturn rfl
theorem b_L_letter_15 {C : aCall} {σ : aSt} {e0 : Nat} {x1 x2 x3 : Int32} : b_R C kL_letter (m_hh qL_letter) (15, [some (.ref 100), some (.int x1), some (.int x2), some (.int x3), some (.ref 252), none], [.ref e0], σ) = some (.inl (some (.int (nI 1))), σ) := by
  refine (e_astore (code := kL_letter) (pc := 15) rfl rfl rfl).trans ?_
  refine (e_iconst (code := kL_letter) (pc := 17) rfl).trans ?_
  exact e_ireturn rfl
theorem n_L_mixed {P : aCall} {d : Nat} {σ : aSt} {x1 : Int32} (hd : 1 ≤ d) : a_call a_tab P d 275 [.ref 100, .int x1, .ref 252] σ = b_R (a_call a_tab P (d - 1)) kL_mixed (m_hh qL_mixed) (0, [some (.ref 100), some (.int x1), some (.ref 252), none], [], σ) := e_call hd at_L_mixed rfl
theorem b_L_mixed_0 {C : aCall} {σ : aSt} {x1 : Int32} (h : Sh σ) : b_R C kL_mixed (m_hh qL_mixed) (0, [some (.ref 100), some (.int x1), some (.ref 252), none], [], σ) = b_G C kL_mixed (m_hh qL_mixed) 4 7 [some (.ref 100), some (.int x1), some (.ref 252), none] [.int (nI 0), .ref 252] (C 93 [.ref 100, .int x1] σ) := by
  refine (e_aload_n (code := kL_mixed) (pc := 0) rfl rfl).trans ?_
  refine (e_iconst (code := kL_mixed) (pc := 1) rfl).trans ?_
  refine (e_aload_n (code := kL_mixed) (pc := 2) rfl rfl).trans ?_
  refine (e_iload_n (code := kL_mixed) (pc := 3) rfl rfl).trans ?_
  exact (e_callV (σ := σ) (code := kL_mixed) (pc := 4) (len := 3) (k := 93) (n := 2) (c := 19) (as := [.ref 100, .int x1]) (st0 := [.int (nI 0), .ref 252]) rfl rfl rfl rfl rfl (sk_100 (σ := σ) h) rfl)
theorem b_L_mixed_7 {C : aCall} {σ : aSt} {x1 y0 y1 : Int32} (h : Sh σ) : b_R C kL_mixed (m_hh qL_mixed) (7, [some (.ref 100), some (.int x1), some (.ref 252), none], [.int y0, .int y1, .ref 252], σ) = b_gd (a_in y1 1) (some (.inl (some (.int (nI 0))), (a_setL σ 252 (Int32.toNatClampNeg y1) (Int32.toInt64 y0)))) := by
  refine (e_i2l (code := kL_mixed) (pc := 7) rfl).trans ?_
  refine (e_lastore (code := kL_mixed) (pc := 8) rfl (sk_252 (σ := σ) h) (h_100 rfl) (sl_252 (σ := σ) h)).trans ?_
  refine b_gd_c ?_
  refine (e_goto (code := kL_mixed) (pc := 9) (σ := (a_setL σ 252 (Int32.toNatClampNeg y1) (Int32.toInt64 y0))) rfl).trans ?_
  refine (e_iconst (code := kL_mixed) (pc := 15) (σ := (a_setL σ 252 (Int32.toNatClampNeg y1) (Int32.toInt64 y0))) rfl).trans ?_
  exact e_ireturn rfl
theorem b_L_mixed_12 {C : aCall} {σ : aSt} {e0 : Nat} {x1 : Int32} : b_R C kL_mixed (m_hh qL_mixed) (12, [some (.ref 100), some (.int x1), some (.ref 252), none], [.ref e0], σ) = some (.inl (some (.int (nI 1))), σ) := by
  refine (e_astore_n (code := kL_mixed) (pc := 12) rfl rfl rfl).trans ?_
  refine (e_iconst (code := kL_mixed) (pc := 13) rfl).trans ?_
  exact e_ireturn rfl
theorem n_L_apart {P : aCall} {d : Nat} {σ : aSt} {x1 x2 : Int32} (hd : 1 ≤ d) : a_call a_tab P d 276 [.ref 100, .int x1, .int x2, .ref 252] σ = b_R (a_call a_tab P (d - 1)) kL_apart (m_hh qL_apart) (0, [some (.ref 100), some (.int x1), some (.int x2), some (.ref 252), none], [], σ) := e_call hd at_L_apart rfl
theorem b_L_apart_0 {C : aCall} {σ : aSt} {x1 x2 : Int32} (h : Sh σ) : b_R C kL_apart (m_hh qL_apart) (0, [some (.ref 100), some (.int x1), some (.int x2), some (.ref 252), none], [], σ) = b_G C kL_apart (m_hh qL_apart) 5 8 [some (.ref 100), some (.int x1), some (.int x2), some (.ref 252), none] [.int (nI 0), .ref 252] (C 103 [.ref 100, .int x1, .int x2] σ) := by
  refine (e_aload_n (code := kL_apart) (pc := 0) rfl rfl).trans ?_
  refine (e_iconst (code := kL_apart) (pc := 1) rfl).trans ?_
  refine (e_aload_n (code := kL_apart) (pc := 2) rfl rfl).trans ?_
  refine (e_iload_n (code := kL_apart) (pc := 3) rfl rfl).trans ?_
  refine (e_iload_n (code := kL_apart) (pc := 4) rfl rfl).trans ?_
  exact (e_callV (σ := σ) (code := kL_apart) (pc := 5) (len := 3) (k := 103) (n := 3) (c := 19) (as := [.ref 100, .int x1, .int x2]) (st0 := [.int (nI 0), .ref 252]) rfl rfl rfl rfl rfl (sk_100 (σ := σ) h) rfl)
theorem b_L_apart_8 {C : aCall} {σ : aSt} {x1 x2 y0 y1 : Int32} (h : Sh σ) : b_R C kL_apart (m_hh qL_apart) (8, [some (.ref 100), some (.int x1), some (.int x2), some (.ref 252), none], [.int y0, .int y1, .ref 252], σ) = b_gd (a_in y1 1) (some (.inl (some (.int (nI 0))), (a_setL σ 252 (Int32.toNatClampNeg y1) (Int32.toInt64 y0)))) := by
  refine (e_i2l (code := kL_apart) (pc := 8) rfl).trans ?_
  refine (e_lastore (code := kL_apart) (pc := 9) rfl (sk_252 (σ := σ) h) (h_100 rfl) (sl_252 (σ := σ) h)).trans ?_
  refine b_gd_c ?_
  refine (e_goto (code := kL_apart) (pc := 10) (σ := (a_setL σ 252 (Int32.toNatClampNeg y1) (Int32.toInt64 y0))) rfl).trans ?_
  refine (e_iconst (code := kL_apart) (pc := 17) (σ := (a_setL σ 252 (Int32.toNatClampNeg y1) (Int32.toInt64 y0))) rfl).trans ?_
  exact e_ireturn rfl
theorem b_L_apart_13 {C : aCall} {σ : aSt} {e0 : Nat} {x1 x2 : Int32} : b_R C kL_apart (m_hh qL_apart) (13, [some (.ref 100), some (.int x1), some (.int x2), some (.ref 252), none], [.ref e0], σ) = some (.inl (some (.int (nI 1))), σ) := by
  refine (e_astore (code := kL_apart) (pc := 13) rfl rfl rfl).trans ?_
  refine (e_iconst (code := kL_apart) (pc := 15) rfl).trans ?_
  exact e_ireturn rfl
theorem n_L_called {P : aCall} {d : Nat} {σ : aSt} {x1 : Int32} (hd : 1 ≤ d) : a_call a_tab P d 277 [.ref 100, .int x1, .ref 252] σ = b_R (a_call a_tab P (d - 1)) kL_called (m_hh qL_called) (0, [some (.ref 100), some (.int x1), some (.ref 252), none], [], σ) := e_call hd at_L_called rfl
theorem b_L_called_0 {C : aCall} {σ : aSt} {x1 : Int32} (h : Sh σ) : b_R C kL_called (m_hh qL_called) (0, [some (.ref 100), some (.int x1), some (.ref 252), none], [], σ) = b_G C kL_called (m_hh qL_called) 4 7 [some (.ref 100), some (.int x1), some (.ref 252), none] [.int (nI 0), .ref 252] (C 104 [.ref 100, .int x1] σ) := by
  refine (e_aload_n (code := kL_called) (pc := 0) rfl rfl).trans ?_
  refine (e_iconst (code := kL_called) (pc := 1) rfl).trans ?_
  refine (e_aload_n (code := kL_called) (pc := 2) rfl rfl).trans ?_
  refine (e_iload_n (code := kL_called) (pc := 3) rfl rfl).trans ?_
  exact (e_callV (σ := σ) (code := kL_called) (pc := 4) (len := 3) (k := 104) (n := 2) (c := 19) (as := [.ref 100, .int x1]) (st0 := [.int (nI 0), .ref 252]) rfl rfl rfl rfl rfl (sk_100 (σ := σ) h) rfl)
theorem b_L_called_7 {C : aCall} {σ : aSt} {x1 y0 y1 : Int32} (h : Sh σ) : b_R C kL_called (m_hh qL_called) (7, [some (.ref 100), some (.int x1), some (.ref 252), none], [.int y0, .int y1, .ref 252], σ) = b_gd (a_in y1 1) (some (.inl (some (.int (nI 0))), (a_setL σ 252 (Int32.toNatClampNeg y1) (Int32.toInt64 y0)))) := by
  refine (e_i2l (code := kL_called) (pc := 7) rfl).trans ?_
  refine (e_lastore (code := kL_called) (pc := 8) rfl (sk_252 (σ := σ) h) (h_100 rfl) (sl_252 (σ := σ) h)).trans ?_
  refine b_gd_c ?_
  refine (e_goto (code := kL_called) (pc := 9) (σ := (a_setL σ 252 (Int32.toNatClampNeg y1) (Int32.toInt64 y0))) rfl).trans ?_
  refine (e_iconst (code := kL_called) (pc := 15) (σ := (a_setL σ 252 (Int32.toNatClampNeg y1) (Int32.toInt64 y0))) rfl).trans ?_
  exact e_ireturn rfl
theorem b_L_called_12 {C : aCall} {σ : aSt} {e0 : Nat} {x1 : Int32} : b_R C kL_called (m_hh qL_called) (12, [some (.ref 100), some (.int x1), some (.ref 252), none], [.ref e0], σ) = some (.inl (some (.int (nI 1))), σ) := by
  refine (e_astore_n (code := kL_called) (pc := 12) rfl rfl rfl).trans ?_
  refine (e_iconst (code := kL_called) (pc := 13) rfl).trans ?_
  exact e_ireturn rfl
theorem n_L_nearest {P : aCall} {d : Nat} {σ : aSt} {x1 x2 x3 : Int32} (hd : 1 ≤ d) : a_call a_tab P d 278 [.ref 100, .int x1, .int x2, .int x3, .ref 252] σ = b_R (a_call a_tab P (d - 1)) kL_nearest (m_hh qL_nearest) (0, [some (.ref 100), some (.int x1), some (.int x2), some (.int x3), some (.ref 252), none], [], σ) := e_call hd at_L_nearest rfl
theorem b_L_nearest_0 {C : aCall} {σ : aSt} {x1 x2 x3 : Int32} (h : Sh σ) : b_R C kL_nearest (m_hh qL_nearest) (0, [some (.ref 100), some (.int x1), some (.int x2), some (.int x3), some (.ref 252), none], [], σ) = b_G C kL_nearest (m_hh qL_nearest) 7 10 [some (.ref 100), some (.int x1), some (.int x2), some (.int x3), some (.ref 252), none] [.int (nI 0), .ref 252] (C 105 [.ref 100, .int x1, .int x2, .int x3] σ) := by
  refine (e_aload (code := kL_nearest) (pc := 0) rfl rfl).trans ?_
  refine (e_iconst (code := kL_nearest) (pc := 2) rfl).trans ?_
  refine (e_aload_n (code := kL_nearest) (pc := 3) rfl rfl).trans ?_
  refine (e_iload_n (code := kL_nearest) (pc := 4) rfl rfl).trans ?_
  refine (e_iload_n (code := kL_nearest) (pc := 5) rfl rfl).trans ?_
  refine (e_iload_n (code := kL_nearest) (pc := 6) rfl rfl).trans ?_
  exact (e_callV (σ := σ) (code := kL_nearest) (pc := 7) (len := 3) (k := 105) (n := 4) (c := 19) (as := [.ref 100, .int x1, .int x2, .int x3]) (st0 := [.int (nI 0), .ref 252]) rfl rfl rfl rfl rfl (sk_100 (σ := σ) h) rfl)
theorem b_L_nearest_10 {C : aCall} {σ : aSt} {x1 x2 x3 y0 y1 : Int32} (h : Sh σ) : b_R C kL_nearest (m_hh qL_nearest) (10, [some (.ref 100), some (.int x1), some (.int x2), some (.int x3), some (.ref 252), none], [.int y0, .int y1, .ref 252], σ) = b_gd (a_in y1 1) (some (.inl (some (.int (nI 0))), (a_setL σ 252 (Int32.toNatClampNeg y1) (Int32.toInt64 y0)))) := by
  refine (e_i2l (code := kL_nearest) (pc := 10) rfl).trans ?_
  refine (e_lastore (code := kL_nearest) (pc := 11) rfl (sk_252 (σ := σ) h) (h_100 rfl) (sl_252 (σ := σ) h)).trans ?_
  refine b_gd_c ?_
  refine (e_goto (code := kL_nearest) (pc := 12) (σ := (a_setL σ 252 (Int32.toNatClampNeg y1) (Int32.toInt64 y0))) rfl).trans ?_
  refine (e_iconst (code := kL_nearest) (pc := 23) (σ := (a_setL σ 252 (Int32.toNatClampNeg y1) (Int32.toInt64 y0))) rfl).trans ?_
  exact e_ireturn rfl
theorem b_L_nearest_15 {C : aCall} {σ : aSt} {e0 : Nat} {x1 x2 x3 : Int32} : b_R C kL_nearest (m_hh qL_nearest) (15, [some (.ref 100), some (.int x1), some (.int x2), some (.int x3), some (.ref 252), none], [.ref e0], σ) = some (.inl (some (.int (nI 1))), σ) := by
  refine (e_astore (code := kL_nearest) (pc := 15) rfl rfl rfl).trans ?_
  refine (e_iconst (code := kL_nearest) (pc := 17) rfl).trans ?_
  exact e_ireturn rfl
theorem b_L_nearest_19 {C : aCall} {σ : aSt} {e0 : Nat} {x1 x2 x3 : Int32} : b_R C kL_nearest (m_hh qL_nearest) (19, [some (.ref 100), some (.int x1), some (.int x2), some (.int x3), some (.ref 252), none], [.ref e0], σ) = some (.inl (some (.int (nI 2))), σ) := by
  refine (e_astore (code := kL_nearest) (pc := 19) rfl rfl rfl).trans ?_
  refine (e_iconst (code := kL_nearest) (pc := 21) rfl).trans ?_
  exact e_ireturn rfl
theorem n_L_fewest {P : aCall} {d : Nat} {σ : aSt} {x1 : Int32} (hd : 1 ≤ d) : a_call a_tab P d 279 [.ref 100, .int x1, .ref 252] σ = b_R (a_call a_tab P (d - 1)) kL_fewest (m_hh qL_fewest) (0, [some (.ref 100), some (.int x1), some (.ref 252), none], [], σ) := e_call hd at_L_fewest rfl
theorem b_L_fewest_0 {C : aCall} {σ : aSt} {x1 : Int32} (h : Sh σ) : b_R C kL_fewest (m_hh qL_fewest) (0, [some (.ref 100), some (.int x1), some (.ref 252), none], [], σ) = b_G C kL_fewest (m_hh qL_fewest) 4 7 [some (.ref 100), some (.int x1), some (.ref 252), none] [.int (nI 0), .ref 252] (C 106 [.ref 100, .int x1] σ) := by
  refine (e_aload_n (code := kL_fewest) (pc := 0) rfl rfl).trans ?_
  refine (e_iconst (code := kL_fewest) (pc := 1) rfl).trans ?_
  refine (e_aload_n (code := kL_fewest) (pc := 2) rfl rfl).trans ?_
  refine (e_iload_n (code := kL_fewest) (pc := 3) rfl rfl).trans ?_
  exact (e_callV (σ := σ) (code := kL_fewest) (pc := 4) (len := 3) (k := 106) (n := 2) (c := 19) (as := [.ref 100, .int x1]) (st0 := [.int (nI 0), .ref 252]) rfl rfl rfl rfl rfl (sk_100 (σ := σ) h) rfl)
theorem b_L_fewest_7 {C : aCall} {σ : aSt} {x1 y0 y1 : Int32} (h : Sh σ) : b_R C kL_fewest (m_hh qL_fewest) (7, [some (.ref 100), some (.int x1), some (.ref 252), none], [.int y0, .int y1, .ref 252], σ) = b_gd (a_in y1 1) (some (.inl (some (.int (nI 0))), (a_setL σ 252 (Int32.toNatClampNeg y1) (Int32.toInt64 y0)))) := by
  refine (e_i2l (code := kL_fewest) (pc := 7) rfl).trans ?_
  refine (e_lastore (code := kL_fewest) (pc := 8) rfl (sk_252 (σ := σ) h) (h_100 rfl) (sl_252 (σ := σ) h)).trans ?_
  refine b_gd_c ?_
  refine (e_goto (code := kL_fewest) (pc := 9) (σ := (a_setL σ 252 (Int32.toNatClampNeg y1) (Int32.toInt64 y0))) rfl).trans ?_
  refine (e_iconst (code := kL_fewest) (pc := 15) (σ := (a_setL σ 252 (Int32.toNatClampNeg y1) (Int32.toInt64 y0))) rfl).trans ?_
  exact e_ireturn rfl
theorem b_L_fewest_12 {C : aCall} {σ : aSt} {e0 : Nat} {x1 : Int32} : b_R C kL_fewest (m_hh qL_fewest) (12, [some (.ref 100), some (.int x1), some (.ref 252), none], [.ref e0], σ) = some (.inl (some (.int (nI 1))), σ) := by
  refine (e_astore_n (code := kL_fewest) (pc := 12) rfl rfl rfl).trans ?_
  refine (e_iconst (code := kL_fewest) (pc := 13) rfl).trans ?_
  exact e_ireturn rfl
theorem n_L_strokes {P : aCall} {d : Nat} {σ : aSt} {x1 : Int32} (hd : 1 ≤ d) : a_call a_tab P d 280 [.ref 100, .int x1, .ref 252] σ = b_R (a_call a_tab P (d - 1)) kL_strokes (m_hh qL_strokes) (0, [some (.ref 100), some (.int x1), some (.ref 252), none], [], σ) := e_call hd at_L_strokes rfl
theorem b_L_strokes_0 {C : aCall} {σ : aSt} {x1 : Int32} (h : Sh σ) : b_R C kL_strokes (m_hh qL_strokes) (0, [some (.ref 100), some (.int x1), some (.ref 252), none], [], σ) = b_G C kL_strokes (m_hh qL_strokes) 4 7 [some (.ref 100), some (.int x1), some (.ref 252), none] [.int (nI 0), .ref 252] (C 107 [.ref 100, .int x1] σ) := by
  refine (e_aload_n (code := kL_strokes) (pc := 0) rfl rfl).trans ?_
  refine (e_iconst (code := kL_strokes) (pc := 1) rfl).trans ?_
  refine (e_aload_n (code := kL_strokes) (pc := 2) rfl rfl).trans ?_
  refine (e_iload_n (code := kL_strokes) (pc := 3) rfl rfl).trans ?_
  exact (e_callV (σ := σ) (code := kL_strokes) (pc := 4) (len := 3) (k := 107) (n := 2) (c := 19) (as := [.ref 100, .int x1]) (st0 := [.int (nI 0), .ref 252]) rfl rfl rfl rfl rfl (sk_100 (σ := σ) h) rfl)
theorem b_L_strokes_7 {C : aCall} {σ : aSt} {x1 y0 y1 : Int32} (h : Sh σ) : b_R C kL_strokes (m_hh qL_strokes) (7, [some (.ref 100), some (.int x1), some (.ref 252), none], [.int y0, .int y1, .ref 252], σ) = b_gd (a_in y1 1) (some (.inl (some (.int (nI 0))), (a_setL σ 252 (Int32.toNatClampNeg y1) (Int32.toInt64 y0)))) := by
  refine (e_i2l (code := kL_strokes) (pc := 7) rfl).trans ?_
  refine (e_lastore (code := kL_strokes) (pc := 8) rfl (sk_252 (σ := σ) h) (h_100 rfl) (sl_252 (σ := σ) h)).trans ?_
  refine b_gd_c ?_
  refine (e_goto (code := kL_strokes) (pc := 9) (σ := (a_setL σ 252 (Int32.toNatClampNeg y1) (Int32.toInt64 y0))) rfl).trans ?_
  refine (e_iconst (code := kL_strokes) (pc := 15) (σ := (a_setL σ 252 (Int32.toNatClampNeg y1) (Int32.toInt64 y0))) rfl).trans ?_
  exact e_ireturn rfl
theorem b_L_strokes_12 {C : aCall} {σ : aSt} {e0 : Nat} {x1 : Int32} : b_R C kL_strokes (m_hh qL_strokes) (12, [some (.ref 100), some (.int x1), some (.ref 252), none], [.ref e0], σ) = some (.inl (some (.int (nI 1))), σ) := by
  refine (e_astore_n (code := kL_strokes) (pc := 12) rfl rfl rfl).trans ?_
  refine (e_iconst (code := kL_strokes) (pc := 13) rfl).trans ?_
  exact e_ireturn rfl
theorem n_L_shortest {P : aCall} {d : Nat} {σ : aSt} {x1 : Int32} (hd : 1 ≤ d) : a_call a_tab P d 281 [.ref 100, .int x1, .ref 252] σ = b_R (a_call a_tab P (d - 1)) kL_shortest (m_hh qL_shortest) (0, [some (.ref 100), some (.int x1), some (.ref 252), none], [], σ) := e_call hd at_L_shortest rfl
theorem b_L_shortest_0 {C : aCall} {σ : aSt} {x1 : Int32} (h : Sh σ) : b_R C kL_shortest (m_hh qL_shortest) (0, [some (.ref 100), some (.int x1), some (.ref 252), none], [], σ) = b_G C kL_shortest (m_hh qL_shortest) 4 7 [some (.ref 100), some (.int x1), some (.ref 252), none] [.int (nI 0), .ref 252] (C 108 [.ref 100, .int x1] σ) := by
  refine (e_aload_n (code := kL_shortest) (pc := 0) rfl rfl).trans ?_
  refine (e_iconst (code := kL_shortest) (pc := 1) rfl).trans ?_
  refine (e_aload_n (code := kL_shortest) (pc := 2) rfl rfl).trans ?_
  refine (e_iload_n (code := kL_shortest) (pc := 3) rfl rfl).trans ?_
  exact (e_callV (σ := σ) (code := kL_shortest) (pc := 4) (len := 3) (k := 108) (n := 2) (c := 19) (as := [.ref 100, .int x1]) (st0 := [.int (nI 0), .ref 252]) rfl rfl rfl rfl rfl (sk_100 (σ := σ) h) rfl)
theorem b_L_shortest_7 {C : aCall} {σ : aSt} {x1 y0 y1 : Int32} (h : Sh σ) : b_R C kL_shortest (m_hh qL_shortest) (7, [some (.ref 100), some (.int x1), some (.ref 252), none], [.int y0, .int y1, .ref 252], σ) = b_gd (a_in y1 1) (some (.inl (some (.int (nI 0))), (a_setL σ 252 (Int32.toNatClampNeg y1) (Int32.toInt64 y0)))) := by
  refine (e_i2l (code := kL_shortest) (pc := 7) rfl).trans ?_
  refine (e_lastore (code := kL_shortest) (pc := 8) rfl (sk_252 (σ := σ) h) (h_100 rfl) (sl_252 (σ := σ) h)).trans ?_
  refine b_gd_c ?_
  refine (e_goto (code := kL_shortest) (pc := 9) (σ := (a_setL σ 252 (Int32.toNatClampNeg y1) (Int32.toInt64 y0))) rfl).trans ?_
  refine (e_iconst (code := kL_shortest) (pc := 15) (σ := (a_setL σ 252 (Int32.toNatClampNeg y1) (Int32.toInt64 y0))) rfl).trans ?_
  exact e_ireturn rfl
theorem b_L_shortest_12 {C : aCall} {σ : aSt} {e0 : Nat} {x1 : Int32} : b_R C kL_shortest (m_hh qL_shortest) (12, [some (.ref 100), some (.int x1), some (.ref 252), none], [.ref e0], σ) = some (.inl (some (.int (nI 1))), σ) := by
  refine (e_astore_n (code := kL_shortest) (pc := 12) rfl rfl rfl).trans ?_
  refine (e_iconst (code := kL_shortest) (pc := 13) rfl).trans ?_
  exact e_ireturn rfl
theorem n_L_wouldPaint {P : aCall} {d : Nat} {σ : aSt} {x1 x2 : Int32} (hd : 1 ≤ d) : a_call a_tab P d 282 [.ref 100, .int x1, .int x2, .ref 252] σ = b_R (a_call a_tab P (d - 1)) kL_wouldPaint (m_hh qL_wouldPaint) (0, [some (.ref 100), some (.int x1), some (.int x2), some (.ref 252), none], [], σ) := e_call hd at_L_wouldPaint rfl
theorem b_L_wouldPaint_0 {C : aCall} {σ : aSt} {x1 x2 : Int32} (h : Sh σ) : b_R C kL_wouldPaint (m_hh qL_wouldPaint) (0, [some (.ref 100), some (.int x1), some (.int x2), some (.ref 252), none], [], σ) = b_G C kL_wouldPaint (m_hh qL_wouldPaint) 5 8 [some (.ref 100), some (.int x1), some (.int x2), some (.ref 252), none] [.int (nI 0), .ref 252] (C 109 [.ref 100, .int x1, .int x2] σ) := by
  refine (e_aload_n (code := kL_wouldPaint) (pc := 0) rfl rfl).trans ?_
  refine (e_iconst (code := kL_wouldPaint) (pc := 1) rfl).trans ?_
  refine (e_aload_n (code := kL_wouldPaint) (pc := 2) rfl rfl).trans ?_
  refine (e_iload_n (code := kL_wouldPaint) (pc := 3) rfl rfl).trans ?_
  refine (e_iload_n (code := kL_wouldPaint) (pc := 4) rfl rfl).trans ?_
  exact (e_callV (σ := σ) (code := kL_wouldPaint) (pc := 5) (len := 3) (k := 109) (n := 3) (c := 19) (as := [.ref 100, .int x1, .int x2]) (st0 := [.int (nI 0), .ref 252]) rfl rfl rfl rfl rfl (sk_100 (σ := σ) h) rfl)
theorem b_L_wouldPaint_8 {C : aCall} {σ : aSt} {x1 x2 y0 y1 : Int32} (h : Sh σ) : b_R C kL_wouldPaint (m_hh qL_wouldPaint) (8, [some (.ref 100), some (.int x1), some (.int x2), some (.ref 252), none], [.int y0, .int y1, .ref 252], σ) = b_gd (a_in y1 1) (some (.inl (some (.int (nI 0))), (a_setL σ 252 (Int32.toNatClampNeg y1) (Int32.toInt64 y0)))) := by
  refine (e_i2l (code := kL_wouldPaint) (pc := 8) rfl).trans ?_
  refine (e_lastore (code := kL_wouldPaint) (pc := 9) rfl (sk_252 (σ := σ) h) (h_100 rfl) (sl_252 (σ := σ) h)).trans ?_
  refine b_gd_c ?_
  refine (e_goto (code := kL_wouldPaint) (pc := 10) (σ := (a_setL σ 252 (Int32.toNatClampNeg y1) (Int32.toInt64 y0))) rfl).trans ?_
  refine (e_iconst (code := kL_wouldPaint) (pc := 17) (σ := (a_setL σ 252 (Int32.toNatClampNeg y1) (Int32.toInt64 y0))) rfl).trans ?_
  exact e_ireturn rfl
theorem b_L_wouldPaint_13 {C : aCall} {σ : aSt} {e0 : Nat} {x1 x2 : Int32} : b_R C kL_wouldPaint (m_hh qL_wouldPaint) (13, [some (.ref 100), some (.int x1), some (.int x2), some (.ref 252), none], [.ref e0], σ) = some (.inl (some (.int (nI 1))), σ) := by
  refine (e_astore (code := kL_wouldPaint) (pc := 13) rfl rfl rfl).trans ?_
  refine (e_iconst (code := kL_wouldPaint) (pc := 15) rfl).trans ?_
  exact e_ireturn rfl
theorem n_L_brush {P : aCall} {d : Nat} {σ : aSt} {x1 x2 : Int32} (hd : 1 ≤ d) : a_call a_tab P d 283 [.ref 100, .int x1, .int x2, .ref 252] σ = b_R (a_call a_tab P (d - 1)) kL_brush (m_hh qL_brush) (0, [some (.ref 100), some (.int x1), some (.int x2), some (.ref 252), none], [], σ) := e_call hd at_L_brush rfl
theorem b_L_brush_0 {C : aCall} {σ : aSt} {x1 x2 : Int32} (h : Sh σ) : b_R C kL_brush (m_hh qL_brush) (0, [some (.ref 100), some (.int x1), some (.int x2), some (.ref 252), none], [], σ) = b_G C kL_brush (m_hh qL_brush) 5 8 [some (.ref 100), some (.int x1), some (.int x2), some (.ref 252), none] [.int (nI 0), .ref 252] (C 110 [.ref 100, .int x1, .int x2] σ) := by
  refine (e_aload_n (code := kL_brush) (pc := 0) rfl rfl).trans ?_
  refine (e_iconst (code := kL_brush) (pc := 1) rfl).trans ?_
  refine (e_aload_n (code := kL_brush) (pc := 2) rfl rfl).trans ?_
  refine (e_iload_n (code := kL_brush) (pc := 3) rfl rfl).trans ?_
  refine (e_iload_n (code := kL_brush) (pc := 4) rfl rfl).trans ?_
  exact (e_callV (σ := σ) (code := kL_brush) (pc := 5) (len := 3) (k := 110) (n := 3) (c := 19) (as := [.ref 100, .int x1, .int x2]) (st0 := [.int (nI 0), .ref 252]) rfl rfl rfl rfl rfl (sk_100 (σ := σ) h) rfl)
theorem b_L_brush_8 {C : aCall} {σ : aSt} {x1 x2 y0 y1 : Int32} (h : Sh σ) : b_R C kL_brush (m_hh qL_brush) (8, [some (.ref 100), some (.int x1), some (.int x2), some (.ref 252), none], [.int y0, .int y1, .ref 252], σ) = b_gd (a_in y1 1) (some (.inl (some (.int (nI 0))), (a_setL σ 252 (Int32.toNatClampNeg y1) (Int32.toInt64 y0)))) := by
  refine (e_i2l (code := kL_brush) (pc := 8) rfl).trans ?_
  refine (e_lastore (code := kL_brush) (pc := 9) rfl (sk_252 (σ := σ) h) (h_100 rfl) (sl_252 (σ := σ) h)).trans ?_
  refine b_gd_c ?_
  refine (e_goto (code := kL_brush) (pc := 10) (σ := (a_setL σ 252 (Int32.toNatClampNeg y1) (Int32.toInt64 y0))) rfl).trans ?_
  refine (e_iconst (code := kL_brush) (pc := 17) (σ := (a_setL σ 252 (Int32.toNatClampNeg y1) (Int32.toInt64 y0))) rfl).trans ?_
  exact e_ireturn rfl
theorem b_L_brush_13 {C : aCall} {σ : aSt} {e0 : Nat} {x1 x2 : Int32} : b_R C kL_brush (m_hh qL_brush) (13, [some (.ref 100), some (.int x1), some (.int x2), some (.ref 252), none], [.ref e0], σ) = some (.inl (some (.int (nI 1))), σ) := by
  refine (e_astore (code := kL_brush) (pc := 13) rfl rfl rfl).trans ?_
  refine (e_iconst (code := kL_brush) (pc := 15) rfl).trans ?_
  exact e_ireturn rfl
theorem n_L_bestBrush {P : aCall} {d : Nat} {σ : aSt} {x1 : Int32} (hd : 1 ≤ d) : a_call a_tab P d 284 [.ref 100, .int x1, .ref 252] σ = b_R (a_call a_tab P (d - 1)) kL_bestBrush (m_hh qL_bestBrush) (0, [some (.ref 100), some (.int x1), some (.ref 252), none], [], σ) := e_call hd at_L_bestBrush rfl
theorem b_L_bestBrush_0 {C : aCall} {σ : aSt} {x1 : Int32} (h : Sh σ) : b_R C kL_bestBrush (m_hh qL_bestBrush) (0, [some (.ref 100), some (.int x1), some (.ref 252), none], [], σ) = b_G C kL_bestBrush (m_hh qL_bestBrush) 4 7 [some (.ref 100), some (.int x1), some (.ref 252), none] [.int (nI 0), .ref 252] (C 111 [.ref 100, .int x1] σ) := by
  refine (e_aload_n (code := kL_bestBrush) (pc := 0) rfl rfl).trans ?_
  refine (e_iconst (code := kL_bestBrush) (pc := 1) rfl).trans ?_
  refine (e_aload_n (code := kL_bestBrush) (pc := 2) rfl rfl).trans ?_
  refine (e_iload_n (code := kL_bestBrush) (pc := 3) rfl rfl).trans ?_
  exact (e_callV (σ := σ) (code := kL_bestBrush) (pc := 4) (len := 3) (k := 111) (n := 2) (c := 19) (as := [.ref 100, .int x1]) (st0 := [.int (nI 0), .ref 252]) rfl rfl rfl rfl rfl (sk_100 (σ := σ) h) rfl)
theorem b_L_bestBrush_7 {C : aCall} {σ : aSt} {x1 y0 y1 : Int32} (h : Sh σ) : b_R C kL_bestBrush (m_hh qL_bestBrush) (7, [some (.ref 100), some (.int x1), some (.ref 252), none], [.int y0, .int y1, .ref 252], σ) = b_gd (a_in y1 1) (some (.inl (some (.int (nI 0))), (a_setL σ 252 (Int32.toNatClampNeg y1) (Int32.toInt64 y0)))) := by
  refine (e_i2l (code := kL_bestBrush) (pc := 7) rfl).trans ?_
  refine (e_lastore (code := kL_bestBrush) (pc := 8) rfl (sk_252 (σ := σ) h) (h_100 rfl) (sl_252 (σ := σ) h)).trans ?_
  refine b_gd_c ?_
  refine (e_goto (code := kL_bestBrush) (pc := 9) (σ := (a_setL σ 252 (Int32.toNatClampNeg y1) (Int32.toInt64 y0))) rfl).trans ?_
  refine (e_iconst (code := kL_bestBrush) (pc := 15) (σ := (a_setL σ 252 (Int32.toNatClampNeg y1) (Int32.toInt64 y0))) rfl).trans ?_
  exact e_ireturn rfl
theorem b_L_bestBrush_12 {C : aCall} {σ : aSt} {e0 : Nat} {x1 : Int32} : b_R C kL_bestBrush (m_hh qL_bestBrush) (12, [some (.ref 100), some (.int x1), some (.ref 252), none], [.ref e0], σ) = some (.inl (some (.int (nI 1))), σ) := by
  refine (e_astore_n (code := kL_bestBrush) (pc := 12) rfl rfl rfl).trans ?_
  refine (e_iconst (code := kL_bestBrush) (pc := 13) rfl).trans ?_
  exact e_ireturn rfl
theorem n_L_painting {P : aCall} {d : Nat} {σ : aSt} {x1 x2 : Int32} (hd : 1 ≤ d) : a_call a_tab P d 285 [.ref 100, .int x1, .int x2, .ref 252] σ = b_R (a_call a_tab P (d - 1)) kL_painting (m_hh qL_painting) (0, [some (.ref 100), some (.int x1), some (.int x2), some (.ref 252), none], [], σ) := e_call hd at_L_painting rfl
theorem b_L_painting_0 {C : aCall} {σ : aSt} {x1 x2 : Int32} (h : Sh σ) : b_R C kL_painting (m_hh qL_painting) (0, [some (.ref 100), some (.int x1), some (.int x2), some (.ref 252), none], [], σ) = b_G C kL_painting (m_hh qL_painting) 5 8 [some (.ref 100), some (.int x1), some (.int x2), some (.ref 252), none] [.int (nI 0), .ref 252] (C 112 [.ref 100, .int x1, .int x2] σ) := by
  refine (e_aload_n (code := kL_painting) (pc := 0) rfl rfl).trans ?_
  refine (e_iconst (code := kL_painting) (pc := 1) rfl).trans ?_
  refine (e_aload_n (code := kL_painting) (pc := 2) rfl rfl).trans ?_
  refine (e_iload_n (code := kL_painting) (pc := 3) rfl rfl).trans ?_
  refine (e_iload_n (code := kL_painting) (pc := 4) rfl rfl).trans ?_
  exact (e_callV (σ := σ) (code := kL_painting) (pc := 5) (len := 3) (k := 112) (n := 3) (c := 19) (as := [.ref 100, .int x1, .int x2]) (st0 := [.int (nI 0), .ref 252]) rfl rfl rfl rfl rfl (sk_100 (σ := σ) h) rfl)
theorem b_L_painting_8 {C : aCall} {σ : aSt} {x1 x2 y0 y1 : Int32} (h : Sh σ) : b_R C kL_painting (m_hh qL_painting) (8, [some (.ref 100), some (.int x1), some (.int x2), some (.ref 252), none], [.int y0, .int y1, .ref 252], σ) = b_gd (a_in y1 1) (some (.inl (some (.int (nI 0))), (a_setL σ 252 (Int32.toNatClampNeg y1) (Int32.toInt64 y0)))) := by
  refine (e_i2l (code := kL_painting) (pc := 8) rfl).trans ?_
  refine (e_lastore (code := kL_painting) (pc := 9) rfl (sk_252 (σ := σ) h) (h_100 rfl) (sl_252 (σ := σ) h)).trans ?_
  refine b_gd_c ?_
  refine (e_goto (code := kL_painting) (pc := 10) (σ := (a_setL σ 252 (Int32.toNatClampNeg y1) (Int32.toInt64 y0))) rfl).trans ?_
  refine (e_iconst (code := kL_painting) (pc := 17) (σ := (a_setL σ 252 (Int32.toNatClampNeg y1) (Int32.toInt64 y0))) rfl).trans ?_
  exact e_ireturn rfl
theorem b_L_painting_13 {C : aCall} {σ : aSt} {e0 : Nat} {x1 x2 : Int32} : b_R C kL_painting (m_hh qL_painting) (13, [some (.ref 100), some (.int x1), some (.int x2), some (.ref 252), none], [.ref e0], σ) = some (.inl (some (.int (nI 1))), σ) := by
  refine (e_astore (code := kL_painting) (pc := 13) rfl rfl rfl).trans ?_
  refine (e_iconst (code := kL_painting) (pc := 15) rfl).trans ?_
  exact e_ireturn rfl
theorem n_L_loss {P : aCall} {d : Nat} {σ : aSt} {x1 : Int32} (hd : 1 ≤ d) : a_call a_tab P d 286 [.ref 100, .int x1, .ref 252] σ = b_R (a_call a_tab P (d - 1)) kL_loss (m_hh qL_loss) (0, [some (.ref 100), some (.int x1), some (.ref 252), none], [], σ) := e_call hd at_L_loss rfl
theorem b_L_loss_0 {C : aCall} {σ : aSt} {x1 : Int32} (h : Sh σ) : b_R C kL_loss (m_hh qL_loss) (0, [some (.ref 100), some (.int x1), some (.ref 252), none], [], σ) = b_G C kL_loss (m_hh qL_loss) 4 7 [some (.ref 100), some (.int x1), some (.ref 252), none] [.int (nI 0), .ref 252] (C 116 [.ref 100, .int x1] σ) := by
  refine (e_aload_n (code := kL_loss) (pc := 0) rfl rfl).trans ?_
  refine (e_iconst (code := kL_loss) (pc := 1) rfl).trans ?_
  refine (e_aload_n (code := kL_loss) (pc := 2) rfl rfl).trans ?_
  refine (e_iload_n (code := kL_loss) (pc := 3) rfl rfl).trans ?_
  exact (e_callV (σ := σ) (code := kL_loss) (pc := 4) (len := 3) (k := 116) (n := 2) (c := 19) (as := [.ref 100, .int x1]) (st0 := [.int (nI 0), .ref 252]) rfl rfl rfl rfl rfl (sk_100 (σ := σ) h) rfl)
theorem b_L_loss_7 {C : aCall} {σ : aSt} {x1 y0 y1 : Int32} (h : Sh σ) : b_R C kL_loss (m_hh qL_loss) (7, [some (.ref 100), some (.int x1), some (.ref 252), none], [.int y0, .int y1, .ref 252], σ) = b_gd (a_in y1 1) (some (.inl (some (.int (nI 0))), (a_setL σ 252 (Int32.toNatClampNeg y1) (Int32.toInt64 y0)))) := by
  refine (e_i2l (code := kL_loss) (pc := 7) rfl).trans ?_
  refine (e_lastore (code := kL_loss) (pc := 8) rfl (sk_252 (σ := σ) h) (h_100 rfl) (sl_252 (σ := σ) h)).trans ?_
  refine b_gd_c ?_
  refine (e_goto (code := kL_loss) (pc := 9) (σ := (a_setL σ 252 (Int32.toNatClampNeg y1) (Int32.toInt64 y0))) rfl).trans ?_
  refine (e_iconst (code := kL_loss) (pc := 15) (σ := (a_setL σ 252 (Int32.toNatClampNeg y1) (Int32.toInt64 y0))) rfl).trans ?_
  exact e_ireturn rfl
theorem b_L_loss_12 {C : aCall} {σ : aSt} {e0 : Nat} {x1 : Int32} : b_R C kL_loss (m_hh qL_loss) (12, [some (.ref 100), some (.int x1), some (.ref 252), none], [.ref e0], σ) = some (.inl (some (.int (nI 1))), σ) := by
  refine (e_astore_n (code := kL_loss) (pc := 12) rfl rfl rfl).trans ?_
  refine (e_iconst (code := kL_loss) (pc := 13) rfl).trans ?_
  exact e_ireturn rfl
theorem n_L_define {P : aCall} {d : Nat} {σ : aSt} {x1 : Int32} (hd : 1 ≤ d) : a_call a_tab P d 287 [.ref 100, .int x1, .ref 252] σ = b_R (a_call a_tab P (d - 1)) kL_define (m_hh qL_define) (0, [some (.ref 100), some (.int x1), some (.ref 252), none], [], σ) := e_call hd at_L_define rfl
theorem b_L_define_0 {C : aCall} {σ : aSt} {x1 : Int32} (h : Sh σ) : b_R C kL_define (m_hh qL_define) (0, [some (.ref 100), some (.int x1), some (.ref 252), none], [], σ) = b_G C kL_define (m_hh qL_define) 4 7 [some (.ref 100), some (.int x1), some (.ref 252), none] [.int (nI 0), .ref 252] (C 119 [.ref 100, .int x1] σ) := by
  refine (e_aload_n (code := kL_define) (pc := 0) rfl rfl).trans ?_
  refine (e_iconst (code := kL_define) (pc := 1) rfl).trans ?_
  refine (e_aload_n (code := kL_define) (pc := 2) rfl rfl).trans ?_
  refine (e_iload_n (code := kL_define) (pc := 3) rfl rfl).trans ?_
  exact (e_callV (σ := σ) (code := kL_define) (pc := 4) (len := 3) (k := 119) (n := 2) (c := 19) (as := [.ref 100, .int x1]) (st0 := [.int (nI 0), .ref 252]) rfl rfl rfl rfl rfl (sk_100 (σ := σ) h) rfl)
theorem b_L_define_7 {C : aCall} {σ : aSt} {x1 y0 y1 : Int32} (h : Sh σ) : b_R C kL_define (m_hh qL_define) (7, [some (.ref 100), some (.int x1), some (.ref 252), none], [.int y0, .int y1, .ref 252], σ) = b_gd (a_in y1 1) (some (.inl (some (.int (nI 0))), (a_setL σ 252 (Int32.toNatClampNeg y1) (Int32.toInt64 y0)))) := by
  refine (e_i2l (code := kL_define) (pc := 7) rfl).trans ?_
  refine (e_lastore (code := kL_define) (pc := 8) rfl (sk_252 (σ := σ) h) (h_100 rfl) (sl_252 (σ := σ) h)).trans ?_
  refine b_gd_c ?_
  refine (e_goto (code := kL_define) (pc := 9) (σ := (a_setL σ 252 (Int32.toNatClampNeg y1) (Int32.toInt64 y0))) rfl).trans ?_
  refine (e_iconst (code := kL_define) (pc := 15) (σ := (a_setL σ 252 (Int32.toNatClampNeg y1) (Int32.toInt64 y0))) rfl).trans ?_
  exact e_ireturn rfl
theorem b_L_define_12 {C : aCall} {σ : aSt} {e0 : Nat} {x1 : Int32} : b_R C kL_define (m_hh qL_define) (12, [some (.ref 100), some (.int x1), some (.ref 252), none], [.ref e0], σ) = some (.inl (some (.int (nI 1))), σ) := by
  refine (e_astore_n (code := kL_define) (pc := 12) rfl rfl rfl).trans ?_
  refine (e_iconst (code := kL_define) (pc := 13) rfl).trans ?_
  exact e_ireturn rfl
theorem n_L_forget {P : aCall} {d : Nat} {σ : aSt} {x1 : Int32} (hd : 1 ≤ d) : a_call a_tab P d 288 [.ref 100, .int x1, .ref 252] σ = b_R (a_call a_tab P (d - 1)) kL_forget (m_hh qL_forget) (0, [some (.ref 100), some (.int x1), some (.ref 252), none], [], σ) := e_call hd at_L_forget rfl
theorem b_L_forget_0 {C : aCall} {σ : aSt} {x1 : Int32} (h : Sh σ) : b_R C kL_forget (m_hh qL_forget) (0, [some (.ref 100), some (.int x1), some (.ref 252), none], [], σ) = b_G C kL_forget (m_hh qL_forget) 4 7 [some (.ref 100), some (.int x1), some (.ref 252), none] [.int (nI 0), .ref 252] (C 120 [.ref 100, .int x1] σ) := by
  refine (e_aload_n (code := kL_forget) (pc := 0) rfl rfl).trans ?_
  refine (e_iconst (code := kL_forget) (pc := 1) rfl).trans ?_
  refine (e_aload_n (code := kL_forget) (pc := 2) rfl rfl).trans ?_
  refine (e_iload_n (code := kL_forget) (pc := 3) rfl rfl).trans ?_
  exact (e_callV (σ := σ) (code := kL_forget) (pc := 4) (len := 3) (k := 120) (n := 2) (c := 19) (as := [.ref 100, .int x1]) (st0 := [.int (nI 0), .ref 252]) rfl rfl rfl rfl rfl (sk_100 (σ := σ) h) rfl)
theorem b_L_forget_7 {C : aCall} {σ : aSt} {x1 y0 y1 : Int32} (h : Sh σ) : b_R C kL_forget (m_hh qL_forget) (7, [some (.ref 100), some (.int x1), some (.ref 252), none], [.int y0, .int y1, .ref 252], σ) = b_gd (a_in y1 1) (some (.inl (some (.int (nI 0))), (a_setL σ 252 (Int32.toNatClampNeg y1) (Int32.toInt64 y0)))) := by
  refine (e_i2l (code := kL_forget) (pc := 7) rfl).trans ?_
  refine (e_lastore (code := kL_forget) (pc := 8) rfl (sk_252 (σ := σ) h) (h_100 rfl) (sl_252 (σ := σ) h)).trans ?_
  refine b_gd_c ?_
  refine (e_goto (code := kL_forget) (pc := 9) (σ := (a_setL σ 252 (Int32.toNatClampNeg y1) (Int32.toInt64 y0))) rfl).trans ?_
  refine (e_iconst (code := kL_forget) (pc := 15) (σ := (a_setL σ 252 (Int32.toNatClampNeg y1) (Int32.toInt64 y0))) rfl).trans ?_
  exact e_ireturn rfl
theorem b_L_forget_12 {C : aCall} {σ : aSt} {e0 : Nat} {x1 : Int32} : b_R C kL_forget (m_hh qL_forget) (12, [some (.ref 100), some (.int x1), some (.ref 252), none], [.ref e0], σ) = some (.inl (some (.int (nI 1))), σ) := by
  refine (e_astore_n (code := kL_forget) (pc := 12) rfl rfl rfl).trans ?_
  refine (e_iconst (code := kL_forget) (pc := 13) rfl).trans ?_
  exact e_ireturn rfl
theorem n_L_retire {P : aCall} {d : Nat} {σ : aSt} {x1 x2 : Int32} (hd : 1 ≤ d) : a_call a_tab P d 289 [.ref 100, .int x1, .int x2, .ref 252] σ = b_R (a_call a_tab P (d - 1)) kL_retire (m_hh qL_retire) (0, [some (.ref 100), some (.int x1), some (.int x2), some (.ref 252), none], [], σ) := e_call hd at_L_retire rfl
theorem b_L_retire_0 {C : aCall} {σ : aSt} {x1 x2 : Int32} (h : Sh σ) : b_R C kL_retire (m_hh qL_retire) (0, [some (.ref 100), some (.int x1), some (.int x2), some (.ref 252), none], [], σ) = b_G C kL_retire (m_hh qL_retire) 5 8 [some (.ref 100), some (.int x1), some (.int x2), some (.ref 252), none] [.int (nI 0), .ref 252] (C 121 [.ref 100, .int x1, .int x2] σ) := by
  refine (e_aload_n (code := kL_retire) (pc := 0) rfl rfl).trans ?_
  refine (e_iconst (code := kL_retire) (pc := 1) rfl).trans ?_
  refine (e_aload_n (code := kL_retire) (pc := 2) rfl rfl).trans ?_
  refine (e_iload_n (code := kL_retire) (pc := 3) rfl rfl).trans ?_
  refine (e_iload_n (code := kL_retire) (pc := 4) rfl rfl).trans ?_
  exact (e_callV (σ := σ) (code := kL_retire) (pc := 5) (len := 3) (k := 121) (n := 3) (c := 19) (as := [.ref 100, .int x1, .int x2]) (st0 := [.int (nI 0), .ref 252]) rfl rfl rfl rfl rfl (sk_100 (σ := σ) h) rfl)
theorem b_L_retire_8 {C : aCall} {σ : aSt} {x1 x2 y0 y1 : Int32} (h : Sh σ) : b_R C kL_retire (m_hh qL_retire) (8, [some (.ref 100), some (.int x1), some (.int x2), some (.ref 252), none], [.int y0, .int y1, .ref 252], σ) = b_gd (a_in y1 1) (some (.inl (some (.int (nI 0))), (a_setL σ 252 (Int32.toNatClampNeg y1) (Int32.toInt64 y0)))) := by
  refine (e_i2l (code := kL_retire) (pc := 8) rfl).trans ?_
  refine (e_lastore (code := kL_retire) (pc := 9) rfl (sk_252 (σ := σ) h) (h_100 rfl) (sl_252 (σ := σ) h)).trans ?_
  refine b_gd_c ?_
  refine (e_goto (code := kL_retire) (pc := 10) (σ := (a_setL σ 252 (Int32.toNatClampNeg y1) (Int32.toInt64 y0))) rfl).trans ?_
  refine (e_iconst (code := kL_retire) (pc := 17) (σ := (a_setL σ 252 (Int32.toNatClampNeg y1) (Int32.toInt64 y0))) rfl).trans ?_
  exact e_ireturn rfl
theorem b_L_retire_13 {C : aCall} {σ : aSt} {e0 : Nat} {x1 x2 : Int32} : b_R C kL_retire (m_hh qL_retire) (13, [some (.ref 100), some (.int x1), some (.int x2), some (.ref 252), none], [.ref e0], σ) = some (.inl (some (.int (nI 1))), σ) := by
  refine (e_astore (code := kL_retire) (pc := 13) rfl rfl rfl).trans ?_
  refine (e_iconst (code := kL_retire) (pc := 15) rfl).trans ?_
  exact e_ireturn rfl
theorem n_L_heal {P : aCall} {d : Nat} {σ : aSt} {x1 : Int32} (hd : 1 ≤ d) : a_call a_tab P d 290 [.ref 100, .int x1, .ref 252] σ = b_R (a_call a_tab P (d - 1)) kL_heal (m_hh qL_heal) (0, [some (.ref 100), some (.int x1), some (.ref 252), none], [], σ) := e_call hd at_L_heal rfl
theorem b_L_heal_0 {C : aCall} {σ : aSt} {x1 : Int32} (h : Sh σ) : b_R C kL_heal (m_hh qL_heal) (0, [some (.ref 100), some (.int x1), some (.ref 252), none], [], σ) = b_G C kL_heal (m_hh qL_heal) 4 7 [some (.ref 100), some (.int x1), some (.ref 252), none] [.int (nI 0), .ref 252] (C 122 [.ref 100, .int x1] σ) := by
  refine (e_aload_n (code := kL_heal) (pc := 0) rfl rfl).trans ?_
  refine (e_iconst (code := kL_heal) (pc := 1) rfl).trans ?_
  refine (e_aload_n (code := kL_heal) (pc := 2) rfl rfl).trans ?_
  refine (e_iload_n (code := kL_heal) (pc := 3) rfl rfl).trans ?_
  exact (e_callV (σ := σ) (code := kL_heal) (pc := 4) (len := 3) (k := 122) (n := 2) (c := 19) (as := [.ref 100, .int x1]) (st0 := [.int (nI 0), .ref 252]) rfl rfl rfl rfl rfl (sk_100 (σ := σ) h) rfl)
theorem b_L_heal_7 {C : aCall} {σ : aSt} {x1 y0 y1 : Int32} (h : Sh σ) : b_R C kL_heal (m_hh qL_heal) (7, [some (.ref 100), some (.int x1), some (.ref 252), none], [.int y0, .int y1, .ref 252], σ) = b_gd (a_in y1 1) (some (.inl (some (.int (nI 0))), (a_setL σ 252 (Int32.toNatClampNeg y1) (Int32.toInt64 y0)))) := by
  refine (e_i2l (code := kL_heal) (pc := 7) rfl).trans ?_
  refine (e_lastore (code := kL_heal) (pc := 8) rfl (sk_252 (σ := σ) h) (h_100 rfl) (sl_252 (σ := σ) h)).trans ?_
  refine b_gd_c ?_
  refine (e_goto (code := kL_heal) (pc := 9) (σ := (a_setL σ 252 (Int32.toNatClampNeg y1) (Int32.toInt64 y0))) rfl).trans ?_
  refine (e_iconst (code := kL_heal) (pc := 15) (σ := (a_setL σ 252 (Int32.toNatClampNeg y1) (Int32.toInt64 y0))) rfl).trans ?_
  exact e_ireturn rfl
theorem b_L_heal_12 {C : aCall} {σ : aSt} {e0 : Nat} {x1 : Int32} : b_R C kL_heal (m_hh qL_heal) (12, [some (.ref 100), some (.int x1), some (.ref 252), none], [.ref e0], σ) = some (.inl (some (.int (nI 1))), σ) := by
  refine (e_astore_n (code := kL_heal) (pc := 12) rfl rfl rfl).trans ?_
  refine (e_iconst (code := kL_heal) (pc := 13) rfl).trans ?_
  exact e_ireturn rfl
theorem n_L_paint {P : aCall} {d : Nat} {σ : aSt} {x1 x2 x3 : Int32} (hd : 1 ≤ d) : a_call a_tab P d 291 [.ref 100, .int x1, .int x2, .int x3, .ref 252] σ = b_R (a_call a_tab P (d - 1)) kL_paint (m_hh qL_paint) (0, [some (.ref 100), some (.int x1), some (.int x2), some (.int x3), some (.ref 252), none], [], σ) := e_call hd at_L_paint rfl
theorem b_L_paint_0 {C : aCall} {σ : aSt} {x1 x2 x3 : Int32} (h : Sh σ) : b_R C kL_paint (m_hh qL_paint) (0, [some (.ref 100), some (.int x1), some (.int x2), some (.int x3), some (.ref 252), none], [], σ) = b_G C kL_paint (m_hh qL_paint) 7 10 [some (.ref 100), some (.int x1), some (.int x2), some (.int x3), some (.ref 252), none] [.int (nI 0), .ref 252] (C 123 [.ref 100, .int x1, .int x2, .int x3] σ) := by
  refine (e_aload (code := kL_paint) (pc := 0) rfl rfl).trans ?_
  refine (e_iconst (code := kL_paint) (pc := 2) rfl).trans ?_
  refine (e_aload_n (code := kL_paint) (pc := 3) rfl rfl).trans ?_
  refine (e_iload_n (code := kL_paint) (pc := 4) rfl rfl).trans ?_
  refine (e_iload_n (code := kL_paint) (pc := 5) rfl rfl).trans ?_
  refine (e_iload_n (code := kL_paint) (pc := 6) rfl rfl).trans ?_
  exact (e_callV (σ := σ) (code := kL_paint) (pc := 7) (len := 3) (k := 123) (n := 4) (c := 19) (as := [.ref 100, .int x1, .int x2, .int x3]) (st0 := [.int (nI 0), .ref 252]) rfl rfl rfl rfl rfl (sk_100 (σ := σ) h) rfl)
theorem b_L_paint_10 {C : aCall} {σ : aSt} {x1 x2 x3 y0 y1 : Int32} (h : Sh σ) : b_R C kL_paint (m_hh qL_paint) (10, [some (.ref 100), some (.int x1), some (.int x2), some (.int x3), some (.ref 252), none], [.int y0, .int y1, .ref 252], σ) = b_gd (a_in y1 1) (some (.inl (some (.int (nI 0))), (a_setL σ 252 (Int32.toNatClampNeg y1) (Int32.toInt64 y0)))) := by
  refine (e_i2l (code := kL_paint) (pc := 10) rfl).trans ?_
  refine (e_lastore (code := kL_paint) (pc := 11) rfl (sk_252 (σ := σ) h) (h_100 rfl) (sl_252 (σ := σ) h)).trans ?_
  refine b_gd_c ?_
  refine (e_goto (code := kL_paint) (pc := 12) (σ := (a_setL σ 252 (Int32.toNatClampNeg y1) (Int32.toInt64 y0))) rfl).trans ?_
  refine (e_iconst (code := kL_paint) (pc := 23) (σ := (a_setL σ 252 (Int32.toNatClampNeg y1) (Int32.toInt64 y0))) rfl).trans ?_
  exact e_ireturn rfl
theorem b_L_paint_15 {C : aCall} {σ : aSt} {e0 : Nat} {x1 x2 x3 : Int32} : b_R C kL_paint (m_hh qL_paint) (15, [some (.ref 100), some (.int x1), some (.int x2), some (.int x3), some (.ref 252), none], [.ref e0], σ) = some (.inl (some (.int (nI 1))), σ) := by
  refine (e_astore (code := kL_paint) (pc := 15) rfl rfl rfl).trans ?_
  refine (e_iconst (code := kL_paint) (pc := 17) rfl).trans ?_
  exact e_ireturn rfl
theorem b_L_paint_19 {C : aCall} {σ : aSt} {e0 : Nat} {x1 x2 x3 : Int32} : b_R C kL_paint (m_hh qL_paint) (19, [some (.ref 100), some (.int x1), some (.int x2), some (.int x3), some (.ref 252), none], [.ref e0], σ) = some (.inl (some (.int (nI 2))), σ) := by
  refine (e_astore (code := kL_paint) (pc := 19) rfl rfl rfl).trans ?_
  refine (e_iconst (code := kL_paint) (pc := 21) rfl).trans ?_
  exact e_ireturn rfl
theorem n_L_clean {P : aCall} {d : Nat} {σ : aSt} {x1 : Int32} (hd : 1 ≤ d) : a_call a_tab P d 292 [.ref 100, .int x1, .ref 252] σ = b_R (a_call a_tab P (d - 1)) kL_clean (m_hh qL_clean) (0, [some (.ref 100), some (.int x1), some (.ref 252), none], [], σ) := e_call hd at_L_clean rfl
theorem b_L_clean_0 {C : aCall} {σ : aSt} {x1 : Int32} (h : Sh σ) : b_R C kL_clean (m_hh qL_clean) (0, [some (.ref 100), some (.int x1), some (.ref 252), none], [], σ) = b_G C kL_clean (m_hh qL_clean) 4 7 [some (.ref 100), some (.int x1), some (.ref 252), none] [.int (nI 0), .ref 252] (C 124 [.ref 100, .int x1] σ) := by
  refine (e_aload_n (code := kL_clean) (pc := 0) rfl rfl).trans ?_
  refine (e_iconst (code := kL_clean) (pc := 1) rfl).trans ?_
  refine (e_aload_n (code := kL_clean) (pc := 2) rfl rfl).trans ?_
  refine (e_iload_n (code := kL_clean) (pc := 3) rfl rfl).trans ?_
  exact (e_callV (σ := σ) (code := kL_clean) (pc := 4) (len := 3) (k := 124) (n := 2) (c := 19) (as := [.ref 100, .int x1]) (st0 := [.int (nI 0), .ref 252]) rfl rfl rfl rfl rfl (sk_100 (σ := σ) h) rfl)
theorem b_L_clean_7 {C : aCall} {σ : aSt} {x1 y0 y1 : Int32} (h : Sh σ) : b_R C kL_clean (m_hh qL_clean) (7, [some (.ref 100), some (.int x1), some (.ref 252), none], [.int y0, .int y1, .ref 252], σ) = b_gd (a_in y1 1) (some (.inl (some (.int (nI 0))), (a_setL σ 252 (Int32.toNatClampNeg y1) (Int32.toInt64 y0)))) := by
  refine (e_i2l (code := kL_clean) (pc := 7) rfl).trans ?_
  refine (e_lastore (code := kL_clean) (pc := 8) rfl (sk_252 (σ := σ) h) (h_100 rfl) (sl_252 (σ := σ) h)).trans ?_
  refine b_gd_c ?_
  refine (e_goto (code := kL_clean) (pc := 9) (σ := (a_setL σ 252 (Int32.toNatClampNeg y1) (Int32.toInt64 y0))) rfl).trans ?_
  refine (e_iconst (code := kL_clean) (pc := 15) (σ := (a_setL σ 252 (Int32.toNatClampNeg y1) (Int32.toInt64 y0))) rfl).trans ?_
  exact e_ireturn rfl
theorem b_L_clean_12 {C : aCall} {σ : aSt} {e0 : Nat} {x1 : Int32} : b_R C kL_clean (m_hh qL_clean) (12, [some (.ref 100), some (.int x1), some (.ref 252), none], [.ref e0], σ) = some (.inl (some (.int (nI 1))), σ) := by
  refine (e_astore_n (code := kL_clean) (pc := 12) rfl rfl rfl).trans ?_
  refine (e_iconst (code := kL_clean) (pc := 13) rfl).trans ?_
  exact e_ireturn rfl
theorem n_L_refill {P : aCall} {d : Nat} {σ : aSt} {x1 x2 : Int32} (hd : 1 ≤ d) : a_call a_tab P d 293 [.ref 100, .int x1, .int x2, .ref 252] σ = b_R (a_call a_tab P (d - 1)) kL_refill (m_hh qL_refill) (0, [some (.ref 100), some (.int x1), some (.int x2), some (.ref 252), none], [], σ) := e_call hd at_L_refill rfl
theorem b_L_refill_0 {C : aCall} {σ : aSt} {x1 x2 : Int32} (h : Sh σ) : b_R C kL_refill (m_hh qL_refill) (0, [some (.ref 100), some (.int x1), some (.int x2), some (.ref 252), none], [], σ) = b_G C kL_refill (m_hh qL_refill) 5 8 [some (.ref 100), some (.int x1), some (.int x2), some (.ref 252), none] [.int (nI 0), .ref 252] (C 126 [.ref 100, .int x1, .int x2] σ) := by
  refine (e_aload_n (code := kL_refill) (pc := 0) rfl rfl).trans ?_
  refine (e_iconst (code := kL_refill) (pc := 1) rfl).trans ?_
  refine (e_aload_n (code := kL_refill) (pc := 2) rfl rfl).trans ?_
  refine (e_iload_n (code := kL_refill) (pc := 3) rfl rfl).trans ?_
  refine (e_iload_n (code := kL_refill) (pc := 4) rfl rfl).trans ?_
  exact (e_callV (σ := σ) (code := kL_refill) (pc := 5) (len := 3) (k := 126) (n := 3) (c := 19) (as := [.ref 100, .int x1, .int x2]) (st0 := [.int (nI 0), .ref 252]) rfl rfl rfl rfl rfl (sk_100 (σ := σ) h) rfl)
theorem b_L_refill_8 {C : aCall} {σ : aSt} {x1 x2 y0 y1 : Int32} (h : Sh σ) : b_R C kL_refill (m_hh qL_refill) (8, [some (.ref 100), some (.int x1), some (.int x2), some (.ref 252), none], [.int y0, .int y1, .ref 252], σ) = b_gd (a_in y1 1) (some (.inl (some (.int (nI 0))), (a_setL σ 252 (Int32.toNatClampNeg y1) (Int32.toInt64 y0)))) := by
  refine (e_i2l (code := kL_refill) (pc := 8) rfl).trans ?_
  refine (e_lastore (code := kL_refill) (pc := 9) rfl (sk_252 (σ := σ) h) (h_100 rfl) (sl_252 (σ := σ) h)).trans ?_
  refine b_gd_c ?_
  refine (e_goto (code := kL_refill) (pc := 10) (σ := (a_setL σ 252 (Int32.toNatClampNeg y1) (Int32.toInt64 y0))) rfl).trans ?_
  refine (e_iconst (code := kL_refill) (pc := 21) (σ := (a_setL σ 252 (Int32.toNatClampNeg y1) (Int32.toInt64 y0))) rfl).trans ?_
  exact e_ireturn rfl
theorem b_L_refill_13 {C : aCall} {σ : aSt} {e0 : Nat} {x1 x2 : Int32} : b_R C kL_refill (m_hh qL_refill) (13, [some (.ref 100), some (.int x1), some (.int x2), some (.ref 252), none], [.ref e0], σ) = some (.inl (some (.int (nI 1))), σ) := by
  refine (e_astore (code := kL_refill) (pc := 13) rfl rfl rfl).trans ?_
  refine (e_iconst (code := kL_refill) (pc := 15) rfl).trans ?_
  exact e_ireturn rfl
theorem b_L_refill_17 {C : aCall} {σ : aSt} {e0 : Nat} {x1 x2 : Int32} : b_R C kL_refill (m_hh qL_refill) (17, [some (.ref 100), some (.int x1), some (.int x2), some (.ref 252), none], [.ref e0], σ) = some (.inl (some (.int (nI 2))), σ) := by
  refine (e_astore (code := kL_refill) (pc := 17) rfl rfl rfl).trans ?_
  refine (e_iconst (code := kL_refill) (pc := 19) rfl).trans ?_
  exact e_ireturn rfl
theorem n_L_setMost {P : aCall} {d : Nat} {σ : aSt} {x1 : Int32} (hd : 1 ≤ d) : a_call a_tab P d 294 [.ref 100, .int x1, .ref 252] σ = b_R (a_call a_tab P (d - 1)) kL_setMost (m_hh qL_setMost) (0, [some (.ref 100), some (.int x1), some (.ref 252), none], [], σ) := e_call hd at_L_setMost rfl
theorem b_L_setMost_0 {C : aCall} {σ : aSt} {x1 : Int32} (h : Sh σ) : b_R C kL_setMost (m_hh qL_setMost) (0, [some (.ref 100), some (.int x1), some (.ref 252), none], [], σ) = b_G C kL_setMost (m_hh qL_setMost) 4 7 [some (.ref 100), some (.int x1), some (.ref 252), none] [.int (nI 0), .ref 252] (C 127 [.ref 100, .int x1] σ) := by
  refine (e_aload_n (code := kL_setMost) (pc := 0) rfl rfl).trans ?_
  refine (e_iconst (code := kL_setMost) (pc := 1) rfl).trans ?_
  refine (e_aload_n (code := kL_setMost) (pc := 2) rfl rfl).trans ?_
  refine (e_iload_n (code := kL_setMost) (pc := 3) rfl rfl).trans ?_
  exact (e_callV (σ := σ) (code := kL_setMost) (pc := 4) (len := 3) (k := 127) (n := 2) (c := 19) (as := [.ref 100, .int x1]) (st0 := [.int (nI 0), .ref 252]) rfl rfl rfl rfl rfl (sk_100 (σ := σ) h) rfl)
theorem b_L_setMost_7 {C : aCall} {σ : aSt} {x1 y0 y1 : Int32} (h : Sh σ) : b_R C kL_setMost (m_hh qL_setMost) (7, [some (.ref 100), some (.int x1), some (.ref 252), none], [.int y0, .int y1, .ref 252], σ) = b_gd (a_in y1 1) (some (.inl (some (.int (nI 0))), (a_setL σ 252 (Int32.toNatClampNeg y1) (Int32.toInt64 y0)))) := by
  refine (e_i2l (code := kL_setMost) (pc := 7) rfl).trans ?_
  refine (e_lastore (code := kL_setMost) (pc := 8) rfl (sk_252 (σ := σ) h) (h_100 rfl) (sl_252 (σ := σ) h)).trans ?_
  refine b_gd_c ?_
  refine (e_goto (code := kL_setMost) (pc := 9) (σ := (a_setL σ 252 (Int32.toNatClampNeg y1) (Int32.toInt64 y0))) rfl).trans ?_
  refine (e_iconst (code := kL_setMost) (pc := 15) (σ := (a_setL σ 252 (Int32.toNatClampNeg y1) (Int32.toInt64 y0))) rfl).trans ?_
  exact e_ireturn rfl
theorem b_L_setMost_12 {C : aCall} {σ : aSt} {e0 : Nat} {x1 : Int32} : b_R C kL_setMost (m_hh qL_setMost) (12, [some (.ref 100), some (.int x1), some (.ref 252), none], [.ref e0], σ) = some (.inl (some (.int (nI 1))), σ) := by
  refine (e_astore_n (code := kL_setMost) (pc := 12) rfl rfl rfl).trans ?_
  refine (e_iconst (code := kL_setMost) (pc := 13) rfl).trans ?_
  exact e_ireturn rfl
theorem n_L_setTolerance {P : aCall} {d : Nat} {σ : aSt} {x1 : Int32} (hd : 1 ≤ d) : a_call a_tab P d 295 [.ref 100, .int x1, .ref 252] σ = b_R (a_call a_tab P (d - 1)) kL_setTolerance (m_hh qL_setTolerance) (0, [some (.ref 100), some (.int x1), some (.ref 252), none], [], σ) := e_call hd at_L_setTolerance rfl
theorem b_L_setTolerance_0 {C : aCall} {σ : aSt} {x1 : Int32} (h : Sh σ) : b_R C kL_setTolerance (m_hh qL_setTolerance) (0, [some (.ref 100), some (.int x1), some (.ref 252), none], [], σ) = b_G C kL_setTolerance (m_hh qL_setTolerance) 4 7 [some (.ref 100), some (.int x1), some (.ref 252), none] [.int (nI 0), .ref 252] (C 128 [.ref 100, .int x1] σ) := by
  refine (e_aload_n (code := kL_setTolerance) (pc := 0) rfl rfl).trans ?_
  refine (e_iconst (code := kL_setTolerance) (pc := 1) rfl).trans ?_
  refine (e_aload_n (code := kL_setTolerance) (pc := 2) rfl rfl).trans ?_
  refine (e_iload_n (code := kL_setTolerance) (pc := 3) rfl rfl).trans ?_
  exact (e_callV (σ := σ) (code := kL_setTolerance) (pc := 4) (len := 3) (k := 128) (n := 2) (c := 19) (as := [.ref 100, .int x1]) (st0 := [.int (nI 0), .ref 252]) rfl rfl rfl rfl rfl (sk_100 (σ := σ) h) rfl)
theorem b_L_setTolerance_7 {C : aCall} {σ : aSt} {x1 y0 y1 : Int32} (h : Sh σ) : b_R C kL_setTolerance (m_hh qL_setTolerance) (7, [some (.ref 100), some (.int x1), some (.ref 252), none], [.int y0, .int y1, .ref 252], σ) = b_gd (a_in y1 1) (some (.inl (some (.int (nI 0))), (a_setL σ 252 (Int32.toNatClampNeg y1) (Int32.toInt64 y0)))) := by
  refine (e_i2l (code := kL_setTolerance) (pc := 7) rfl).trans ?_
  refine (e_lastore (code := kL_setTolerance) (pc := 8) rfl (sk_252 (σ := σ) h) (h_100 rfl) (sl_252 (σ := σ) h)).trans ?_
  refine b_gd_c ?_
  refine (e_goto (code := kL_setTolerance) (pc := 9) (σ := (a_setL σ 252 (Int32.toNatClampNeg y1) (Int32.toInt64 y0))) rfl).trans ?_
  refine (e_iconst (code := kL_setTolerance) (pc := 15) (σ := (a_setL σ 252 (Int32.toNatClampNeg y1) (Int32.toInt64 y0))) rfl).trans ?_
  exact e_ireturn rfl
theorem b_L_setTolerance_12 {C : aCall} {σ : aSt} {e0 : Nat} {x1 : Int32} : b_R C kL_setTolerance (m_hh qL_setTolerance) (12, [some (.ref 100), some (.int x1), some (.ref 252), none], [.ref e0], σ) = some (.inl (some (.int (nI 1))), σ) := by
  refine (e_astore_n (code := kL_setTolerance) (pc := 12) rfl rfl rfl).trans ?_
  refine (e_iconst (code := kL_setTolerance) (pc := 13) rfl).trans ?_
  exact e_ireturn rfl
theorem n_L_format {P : aCall} {d : Nat} {σ : aSt} {x1 : Int32} (hd : 1 ≤ d) : a_call a_tab P d 296 [.ref 100, .int x1, .ref 252] σ = b_R (a_call a_tab P (d - 1)) kL_format (m_hh qL_format) (0, [some (.ref 100), some (.int x1), some (.ref 252), none], [], σ) := e_call hd at_L_format rfl
theorem b_L_format_0 {C : aCall} {σ : aSt} {x1 : Int32} (h : Sh σ) : b_R C kL_format (m_hh qL_format) (0, [some (.ref 100), some (.int x1), some (.ref 252), none], [], σ) = b_G C kL_format (m_hh qL_format) 4 7 [some (.ref 100), some (.int x1), some (.ref 252), none] [.int (nI 0), .ref 252] (C 95 [.ref 100, .int x1] σ) := by
  refine (e_aload_n (code := kL_format) (pc := 0) rfl rfl).trans ?_
  refine (e_iconst (code := kL_format) (pc := 1) rfl).trans ?_
  refine (e_aload_n (code := kL_format) (pc := 2) rfl rfl).trans ?_
  refine (e_iload_n (code := kL_format) (pc := 3) rfl rfl).trans ?_
  exact (e_callV (σ := σ) (code := kL_format) (pc := 4) (len := 3) (k := 95) (n := 2) (c := 19) (as := [.ref 100, .int x1]) (st0 := [.int (nI 0), .ref 252]) rfl rfl rfl rfl rfl (sk_100 (σ := σ) h) rfl)
theorem b_L_format_7 {C : aCall} {σ : aSt} {x1 y0 y1 : Int32} (h : Sh σ) : b_R C kL_format (m_hh qL_format) (7, [some (.ref 100), some (.int x1), some (.ref 252), none], [.int y0, .int y1, .ref 252], σ) = b_gd (a_in y1 1) (some (.inl (some (.int (nI 0))), (a_setL σ 252 (Int32.toNatClampNeg y1) (Int32.toInt64 y0)))) := by
  refine (e_i2l (code := kL_format) (pc := 7) rfl).trans ?_
  refine (e_lastore (code := kL_format) (pc := 8) rfl (sk_252 (σ := σ) h) (h_100 rfl) (sl_252 (σ := σ) h)).trans ?_
  refine b_gd_c ?_
  refine (e_goto (code := kL_format) (pc := 9) (σ := (a_setL σ 252 (Int32.toNatClampNeg y1) (Int32.toInt64 y0))) rfl).trans ?_
  refine (e_iconst (code := kL_format) (pc := 15) (σ := (a_setL σ 252 (Int32.toNatClampNeg y1) (Int32.toInt64 y0))) rfl).trans ?_
  exact e_ireturn rfl
theorem b_L_format_12 {C : aCall} {σ : aSt} {e0 : Nat} {x1 : Int32} : b_R C kL_format (m_hh qL_format) (12, [some (.ref 100), some (.int x1), some (.ref 252), none], [.ref e0], σ) = some (.inl (some (.int (nI 1))), σ) := by
  refine (e_astore_n (code := kL_format) (pc := 12) rfl rfl rfl).trans ?_
  refine (e_iconst (code := kL_format) (pc := 13) rfl).trans ?_
  exact e_ireturn rfl
theorem n_L_query {P : aCall} {d : Nat} {σ : aSt} {x1 : Int32} (hd : 1 ≤ d) : a_call a_tab P d 297 [.ref 100, .int x1, .ref 252] σ = b_R (a_call a_tab P (d - 1)) kL_query (m_hh qL_query) (0, [some (.ref 100), some (.int x1), some (.ref 252), none], [], σ) := e_call hd at_L_query rfl
theorem b_L_query_0 {C : aCall} {σ : aSt} {x1 : Int32} (h : Sh σ) : b_R C kL_query (m_hh qL_query) (0, [some (.ref 100), some (.int x1), some (.ref 252), none], [], σ) = b_G C kL_query (m_hh qL_query) 4 7 [some (.ref 100), some (.int x1), some (.ref 252), none] [.int (nI 0), .ref 252] (C 94 [.ref 100, .int x1] σ) := by
  refine (e_aload_n (code := kL_query) (pc := 0) rfl rfl).trans ?_
  refine (e_iconst (code := kL_query) (pc := 1) rfl).trans ?_
  refine (e_aload_n (code := kL_query) (pc := 2) rfl rfl).trans ?_
  refine (e_iload_n (code := kL_query) (pc := 3) rfl rfl).trans ?_
  exact (e_callV (σ := σ) (code := kL_query) (pc := 4) (len := 3) (k := 94) (n := 2) (c := 19) (as := [.ref 100, .int x1]) (st0 := [.int (nI 0), .ref 252]) rfl rfl rfl rfl rfl (sk_100 (σ := σ) h) rfl)
theorem b_L_query_7 {C : aCall} {σ : aSt} {x1 y0 y1 : Int32} (h : Sh σ) : b_R C kL_query (m_hh qL_query) (7, [some (.ref 100), some (.int x1), some (.ref 252), none], [.int y0, .int y1, .ref 252], σ) = b_gd (a_in y1 1) (some (.inl (some (.int (nI 0))), (a_setL σ 252 (Int32.toNatClampNeg y1) (Int32.toInt64 y0)))) := by
  refine (e_i2l (code := kL_query) (pc := 7) rfl).trans ?_
  refine (e_lastore (code := kL_query) (pc := 8) rfl (sk_252 (σ := σ) h) (h_100 rfl) (sl_252 (σ := σ) h)).trans ?_
  refine b_gd_c ?_
  refine (e_goto (code := kL_query) (pc := 9) (σ := (a_setL σ 252 (Int32.toNatClampNeg y1) (Int32.toInt64 y0))) rfl).trans ?_
  refine (e_iconst (code := kL_query) (pc := 15) (σ := (a_setL σ 252 (Int32.toNatClampNeg y1) (Int32.toInt64 y0))) rfl).trans ?_
  exact e_ireturn rfl
theorem b_L_query_12 {C : aCall} {σ : aSt} {e0 : Nat} {x1 : Int32} : b_R C kL_query (m_hh qL_query) (12, [some (.ref 100), some (.int x1), some (.ref 252), none], [.ref e0], σ) = some (.inl (some (.int (nI 1))), σ) := by
  refine (e_astore_n (code := kL_query) (pc := 12) rfl rfl rfl).trans ?_
  refine (e_iconst (code := kL_query) (pc := 13) rfl).trans ?_
  exact e_ireturn rfl
theorem n_L_law {P : aCall} {d : Nat} {σ : aSt} (hd : 1 ≤ d) : a_call a_tab P d 298 [.ref 0] σ = b_R (a_call a_tab P (d - 1)) kL_law [] (0, [some (.ref 0), none, none, none, none, none, none, none, none], [], σ) := e_call hd at_L_law rfl
set_option maxRecDepth 30000 in
theorem b_L_law_0 {C : aCall} {σ : aSt} : b_R C kL_law [] (0, [some (.ref 0), none, none, none, none, none, none, none, none], [], σ) = b_G C kL_law [] 4 7 [some (.ref 0), none, none, none, none, none, none, none, none] [.ref (a_n σ)] (C 89 [.ref (a_n σ)] (a_new σ 19 10 10)) := by
  refine (e_new (code := kL_law) (pc := 0) rfl).trans ?_
  refine (e_dup (code := kL_law) (pc := 3) (σ := (a_new σ 19 10 10)) rfl rfl).trans ?_
  exact (e_callI (code := kL_law) (pc := 4) (len := 3) (k := 89) (n := 1) (as := [.ref (a_n σ)]) (st0 := [.ref (a_n σ)]) rfl rfl rfl rfl rfl rfl)
set_option maxRecDepth 30000 in
theorem b_L_law_7 {C : aCall} {σ : aSt} : b_R C kL_law [] (7, [some (.ref 0), none, none, none, none, none, none, none, none], [.ref 100], σ) = b_G C kL_law [] 12 15 [some (.ref 0), some (.ref 100), none, none, none, none, none, none, none] [.ref (a_n σ)] (C 143 [.ref (a_n σ)] (a_new σ 20 35 35)) := by
  refine (e_astore_n (code := kL_law) (pc := 7) rfl rfl rfl).trans ?_
  refine (e_new (code := kL_law) (pc := 8) rfl).trans ?_
  refine (e_dup (code := kL_law) (pc := 11) (σ := (a_new σ 20 35 35)) rfl rfl).trans ?_
  exact (e_callI (code := kL_law) (pc := 12) (len := 3) (k := 143) (n := 1) (as := [.ref (a_n σ)]) (st0 := [.ref (a_n σ)]) rfl rfl rfl rfl rfl rfl)
set_option maxRecDepth 30000 in
theorem b_L_law_15 {C : aCall} {σ : aSt} : b_R C kL_law [] (15, [some (.ref 0), some (.ref 100), none, none, none, none, none, none, none], [.ref 237], σ) = b_R C kL_law [] (23, [some (.ref 0), some (.ref 100), some (.ref 237), some (.ref (a_n σ)), some (.int (nI 0)), none, none, none, none], [], (a_new σ 2 1 1)) := by
  refine (e_astore_n (code := kL_law) (pc := 15) rfl rfl rfl).trans ?_
  refine (e_iconst (code := kL_law) (pc := 16) rfl).trans ?_
  refine (e_newarray (code := kL_law) (pc := 17) (m := 1) rfl (by decide) (by decide) (Nat.le_of_ble_eq_true rfl)).trans ?_
  refine (e_astore_n (code := kL_law) (pc := 19) (σ := (a_new σ 2 1 1)) rfl rfl rfl).trans ?_
  refine (e_iconst (code := kL_law) (pc := 20) (σ := (a_new σ 2 1 1)) rfl).trans ?_
  refine (e_istore (code := kL_law) (pc := 21) (σ := (a_new σ 2 1 1)) rfl rfl rfl).trans ?_
  rfl
set_option maxRecDepth 30000 in
theorem b_L_law_23 {C : aCall} {σ : aSt} {n0 : Nat} {x4 : Int32} {o5 o6 o7 : Option Value} (hs : Sc σ n0) : b_R C kL_law [] (23, [some (.ref 0), some (.ref 100), some (.ref 237), some (.ref 252), some (.int x4), o5, o6, o7, none], [], σ) = (if ((nI n0) - (nI 6)) < x4 then some (.inl (some (.int (nI 1))), σ) else b_gd (a_in x4 n0) (b_R C kL_law [] (b_tsw 40 2345 0 41 #[184, 257, 313, 326, 382, 450, 518, 614, 710, 766, 834, 890, 970, 1026, 1082, 1138, 1206, 1274, 1330, 1398, 1411, 1424, 1437, 1493, 1534, 1577, 1633, 1689, 1773, 1829, 1909, 1965, 1978, 2046, 2102, 2158, 2214, 2239, 2252, 2265, 2276, 2289] ((a_I σ 0 (Int32.toNatClampNeg x4)) &&& (nI 63)), [some (.ref 0), some (.ref 100), some (.ref 237), some (.ref 252), some (.int x4), o5, o6, o7, none], [], σ))) := by
  refine (e_iload (code := kL_law) (pc := 23) rfl rfl).trans ?_
  refine (e_aload_n (code := kL_law) (pc := 25) rfl rfl).trans ?_
  refine (e_alen (code := kL_law) (pc := 26) rfl (by rw [show a_kd _ 0 = 5 from hs.1]; exact ⟨rfl, rfl⟩) hs.2.1 hs.2.2).trans ?_
  refine (e_bipush (code := kL_law) (pc := 27) rfl).trans ?_
  refine (e_isub (code := kL_law) (pc := 29) rfl).trans ?_
  refine (e_icgt (code := kL_law) (pc := 30) rfl).trans ?_
  refine b_ite ?_ ?_
  · refine (e_iconst (code := kL_law) (pc := 2391) rfl).trans ?_
    exact (e_zreturn rfl).trans (b_gd_t (by decide))
  · refine (e_aload_n (code := kL_law) (pc := 33) rfl rfl).trans ?_
    refine (e_iload (code := kL_law) (pc := 34) rfl rfl).trans ?_
    refine (e_iaload (code := kL_law) (pc := 36) rfl (.inr hs.1) hs.2.1).trans ?_
    refine b_gd_c ?_
    refine (e_bipush (code := kL_law) (pc := 37) rfl).trans ?_
    refine (e_iand (code := kL_law) (pc := 39) rfl).trans ?_
    refine (e_tableswitch (code := kL_law) (pc := 40) rfl rfl).trans ?_
    rfl
set_option maxRecDepth 30000 in
theorem b_L_law_224 {C : aCall} {σ : aSt} {n0 : Nat} {x4 : Int32} {o5 o6 o7 : Option Value} (h : Sh σ) (hs : Sc σ n0) : b_R C kL_law [] (224, [some (.ref 0), some (.ref 100), some (.ref 237), some (.ref 252), some (.int x4), o5, o6, o7, none], [], σ) = b_gd (a_in (x4 + (nI 1)) n0) (b_gd (a_in (x4 + (nI 2)) n0) (b_gd (a_in (x4 + (nI 3)) n0) (b_gd (a_in (x4 + (nI 4)) n0) (b_gd (a_in (x4 + (nI 5)) n0) (b_G C kL_law [] 255 258 [some (.ref 0), some (.ref 100), some (.ref 237), some (.ref 252), some (.int x4), o5, o6, o7, none] [] (C 90 [.ref 100, .int (a_I σ 0 (Int32.toNatClampNeg (x4 + (nI 1)))), .int (a_I σ 0 (Int32.toNatClampNeg (x4 + (nI 2)))), .int (a_I σ 0 (Int32.toNatClampNeg (x4 + (nI 3)))), .int (a_I σ 0 (Int32.toNatClampNeg (x4 + (nI 4)))), .int (a_I σ 0 (Int32.toNatClampNeg (x4 + (nI 5))))] σ)))))) := by
  refine (e_aload_n (code := kL_law) (pc := 224) rfl rfl).trans ?_
  refine (e_aload_n (code := kL_law) (pc := 225) rfl rfl).trans ?_
  refine (e_iload (code := kL_law) (pc := 226) rfl rfl).trans ?_
  refine (e_iconst (code := kL_law) (pc := 228) rfl).trans ?_
  refine (e_iadd (code := kL_law) (pc := 229) rfl).trans ?_
  refine (e_iaload (code := kL_law) (pc := 230) rfl (.inr hs.1) hs.2.1).trans ?_
  refine b_gd_c ?_
  refine (e_aload_n (code := kL_law) (pc := 231) rfl rfl).trans ?_
  refine (e_iload (code := kL_law) (pc := 232) rfl rfl).trans ?_
  refine (e_iconst (code := kL_law) (pc := 234) rfl).trans ?_
  refine (e_iadd (code := kL_law) (pc := 235) rfl).trans ?_
  refine (e_iaload (code := kL_law) (pc := 236) rfl (.inr hs.1) hs.2.1).trans ?_
  refine b_gd_c ?_
  refine (e_aload_n (code := kL_law) (pc := 237) rfl rfl).trans ?_
  refine (e_iload (code := kL_law) (pc := 238) rfl rfl).trans ?_
  refine (e_iconst (code := kL_law) (pc := 240) rfl).trans ?_
  refine (e_iadd (code := kL_law) (pc := 241) rfl).trans ?_
  refine (e_iaload (code := kL_law) (pc := 242) rfl (.inr hs.1) hs.2.1).trans ?_
  refine b_gd_c ?_
  refine (e_aload_n (code := kL_law) (pc := 243) rfl rfl).trans ?_
  refine (e_iload (code := kL_law) (pc := 244) rfl rfl).trans ?_
  refine (e_iconst (code := kL_law) (pc := 246) rfl).trans ?_
  refine (e_iadd (code := kL_law) (pc := 247) rfl).trans ?_
  refine (e_iaload (code := kL_law) (pc := 248) rfl (.inr hs.1) hs.2.1).trans ?_
  refine b_gd_c ?_
  refine (e_aload_n (code := kL_law) (pc := 249) rfl rfl).trans ?_
  refine (e_iload (code := kL_law) (pc := 250) rfl rfl).trans ?_
  refine (e_iconst (code := kL_law) (pc := 252) rfl).trans ?_
  refine (e_iadd (code := kL_law) (pc := 253) rfl).trans ?_
  refine (e_iaload (code := kL_law) (pc := 254) rfl (.inr hs.1) hs.2.1).trans ?_
  refine b_gd_c ?_
  exact (e_callV (σ := σ) (code := kL_law) (pc := 255) (len := 3) (k := 90) (n := 6) (c := 19) (as := [.ref 100, .int (a_I σ 0 (Int32.toNatClampNeg (x4 + (nI 1)))), .int (a_I σ 0 (Int32.toNatClampNeg (x4 + (nI 2)))), .int (a_I σ 0 (Int32.toNatClampNeg (x4 + (nI 3)))), .int (a_I σ 0 (Int32.toNatClampNeg (x4 + (nI 4)))), .int (a_I σ 0 (Int32.toNatClampNeg (x4 + (nI 5))))]) (st0 := []) rfl rfl rfl rfl rfl (sk_100 (σ := σ) h) rfl)
set_option maxRecDepth 30000 in
theorem b_L_law_258 {C : aCall} {σ : aSt} {n0 : Nat} {x4 y0 : Int32} {o5 o6 o7 : Option Value} (h : Sh σ) (hs : Sc σ n0) : b_R C kL_law [] (258, [some (.ref 0), some (.ref 100), some (.ref 237), some (.ref 252), some (.int x4), o5, o6, o7, none], [.int y0], σ) = b_gd (a_in (x4 + (nI 1)) n0) (b_gd (a_in (x4 + (nI 2)) n0) (b_gd (a_in (x4 + (nI 3)) n0) (b_gd (a_in (x4 + (nI 4)) n0) (b_gd (a_in (x4 + (nI 5)) n0) (b_G C kL_law [] 289 292 [some (.ref 0), some (.ref 100), some (.ref 237), some (.ref 252), some (.int x4), o5, o6, o7, none] [.int y0] (C 224 [.ref 237, .int (a_I σ 0 (Int32.toNatClampNeg (x4 + (nI 1)))), .int (a_I σ 0 (Int32.toNatClampNeg (x4 + (nI 2)))), .int (a_I σ 0 (Int32.toNatClampNeg (x4 + (nI 3)))), .int (a_I σ 0 (Int32.toNatClampNeg (x4 + (nI 4)))), .int (a_I σ 0 (Int32.toNatClampNeg (x4 + (nI 5))))] σ)))))) := by
  refine (e_aload_n (code := kL_law) (pc := 258) rfl rfl).trans ?_
  refine (e_aload_n (code := kL_law) (pc := 259) rfl rfl).trans ?_
  refine (e_iload (code := kL_law) (pc := 260) rfl rfl).trans ?_
  refine (e_iconst (code := kL_law) (pc := 262) rfl).trans ?_
  refine (e_iadd (code := kL_law) (pc := 263) rfl).trans ?_
  refine (e_iaload (code := kL_law) (pc := 264) rfl (.inr hs.1) hs.2.1).trans ?_
  refine b_gd_c ?_
  refine (e_aload_n (code := kL_law) (pc := 265) rfl rfl).trans ?_
  refine (e_iload (code := kL_law) (pc := 266) rfl rfl).trans ?_
  refine (e_iconst (code := kL_law) (pc := 268) rfl).trans ?_
  refine (e_iadd (code := kL_law) (pc := 269) rfl).trans ?_
  refine (e_iaload (code := kL_law) (pc := 270) rfl (.inr hs.1) hs.2.1).trans ?_
  refine b_gd_c ?_
  refine (e_aload_n (code := kL_law) (pc := 271) rfl rfl).trans ?_
  refine (e_iload (code := kL_law) (pc := 272) rfl rfl).trans ?_
  refine (e_iconst (code := kL_law) (pc := 274) rfl).trans ?_
  refine (e_iadd (code := kL_law) (pc := 275) rfl).trans ?_
  refine (e_iaload (code := kL_law) (pc := 276) rfl (.inr hs.1) hs.2.1).trans ?_
  refine b_gd_c ?_
  refine (e_aload_n (code := kL_law) (pc := 277) rfl rfl).trans ?_
  refine (e_iload (code := kL_law) (pc := 278) rfl rfl).trans ?_
  refine (e_iconst (code := kL_law) (pc := 280) rfl).trans ?_
  refine (e_iadd (code := kL_law) (pc := 281) rfl).trans ?_
  refine (e_iaload (code := kL_law) (pc := 282) rfl (.inr hs.1) hs.2.1).trans ?_
  refine b_gd_c ?_
  refine (e_aload_n (code := kL_law) (pc := 283) rfl rfl).trans ?_
  refine (e_iload (code := kL_law) (pc := 284) rfl rfl).trans ?_
  refine (e_iconst (code := kL_law) (pc := 286) rfl).trans ?_
  refine (e_iadd (code := kL_law) (pc := 287) rfl).trans ?_
  refine (e_iaload (code := kL_law) (pc := 288) rfl (.inr hs.1) hs.2.1).trans ?_
  refine b_gd_c ?_
  exact (e_callV (σ := σ) (code := kL_law) (pc := 289) (len := 3) (k := 224) (n := 6) (c := 20) (as := [.ref 237, .int (a_I σ 0 (Int32.toNatClampNeg (x4 + (nI 1)))), .int (a_I σ 0 (Int32.toNatClampNeg (x4 + (nI 2)))), .int (a_I σ 0 (Int32.toNatClampNeg (x4 + (nI 3)))), .int (a_I σ 0 (Int32.toNatClampNeg (x4 + (nI 4)))), .int (a_I σ 0 (Int32.toNatClampNeg (x4 + (nI 5))))]) (st0 := [.int y0]) rfl rfl rfl rfl rfl (sk_237 (σ := σ) h) rfl)
set_option maxRecDepth 30000 in
theorem b_L_law_292 {C : aCall} {σ : aSt} {x4 y0 y1 : Int32} {o5 o6 o7 : Option Value} : b_R C kL_law [] (292, [some (.ref 0), some (.ref 100), some (.ref 237), some (.ref 252), some (.int x4), o5, o6, o7, none], [.int y0, .int y1], σ) = (if y1 = y0 then b_R C kL_law [] (2385, [some (.ref 0), some (.ref 100), some (.ref 237), some (.ref 252), some (.int x4), o5, o6, o7, none], [], σ) else some (.inl (some (.int (nI 0))), σ)) := by
  refine (e_iceq (code := kL_law) (pc := 292) rfl).trans ?_
  refine b_ite ?_ ?_
  · rfl
  · refine (e_iconst (code := kL_law) (pc := 295) rfl).trans ?_
    exact (e_zreturn rfl).trans (b_gd_t (by decide))
set_option maxRecDepth 30000 in
theorem b_L_law_297 {C : aCall} {σ : aSt} {n0 : Nat} {x4 : Int32} {o5 o6 o7 : Option Value} (hs : Sc σ n0) : b_R C kL_law [] (297, [some (.ref 0), some (.ref 100), some (.ref 237), some (.ref 252), some (.int x4), o5, o6, o7, none], [], σ) = b_gd (a_in (x4 + (nI 1)) n0) (b_G C kL_law [] 305 308 [some (.ref 0), some (.ref 100), some (.ref 237), some (.ref 252), some (.int x4), o5, o6, o7, none] [] (C 269 [.ref 100, .int (a_I σ 0 (Int32.toNatClampNeg (x4 + (nI 1)))), .ref 252] σ)) := by
  refine (e_aload_n (code := kL_law) (pc := 297) rfl rfl).trans ?_
  refine (e_aload_n (code := kL_law) (pc := 298) rfl rfl).trans ?_
  refine (e_iload (code := kL_law) (pc := 299) rfl rfl).trans ?_
  refine (e_iconst (code := kL_law) (pc := 301) rfl).trans ?_
  refine (e_iadd (code := kL_law) (pc := 302) rfl).trans ?_
  refine (e_iaload (code := kL_law) (pc := 303) rfl (.inr hs.1) hs.2.1).trans ?_
  refine b_gd_c ?_
  refine (e_aload_n (code := kL_law) (pc := 304) rfl rfl).trans ?_
  exact (e_callS (code := kL_law) (pc := 305) (len := 3) (k := 269) (n := 3) (as := [.ref 100, .int (a_I σ 0 (Int32.toNatClampNeg (x4 + (nI 1)))), .ref 252]) (st0 := []) rfl rfl rfl rfl)
set_option maxRecDepth 30000 in
theorem b_L_law_308 {C : aCall} {σ : aSt} {n0 : Nat} {x4 y0 : Int32} {o5 o6 o7 : Option Value} (h : Sh σ) (hs : Sc σ n0) : b_R C kL_law [] (308, [some (.ref 0), some (.ref 100), some (.ref 237), some (.ref 252), some (.int x4), o5, o6, o7, none], [.int y0], σ) = b_gd (a_in (x4 + (nI 1)) n0) (b_G C kL_law [] 317 320 [some (.ref 0), some (.ref 100), some (.ref 237), some (.ref 252), some (.int x4), some (.int y0), o6, o7, none] [] (C 255 [.ref 237, .int (a_I σ 0 (Int32.toNatClampNeg (x4 + (nI 1))))] σ)) := by
  refine (e_istore (code := kL_law) (pc := 308) rfl rfl rfl).trans ?_
  refine (e_aload_n (code := kL_law) (pc := 310) rfl rfl).trans ?_
  refine (e_aload_n (code := kL_law) (pc := 311) rfl rfl).trans ?_
  refine (e_iload (code := kL_law) (pc := 312) rfl rfl).trans ?_
  refine (e_iconst (code := kL_law) (pc := 314) rfl).trans ?_
  refine (e_iadd (code := kL_law) (pc := 315) rfl).trans ?_
  refine (e_iaload (code := kL_law) (pc := 316) rfl (.inr hs.1) hs.2.1).trans ?_
  refine b_gd_c ?_
  exact (e_callV (σ := σ) (code := kL_law) (pc := 317) (len := 3) (k := 255) (n := 2) (c := 20) (as := [.ref 237, .int (a_I σ 0 (Int32.toNatClampNeg (x4 + (nI 1))))]) (st0 := []) rfl rfl rfl rfl rfl (sk_237 (σ := σ) h) rfl)
set_option maxRecDepth 30000 in
theorem b_L_law_320 {C : aCall} {σ : aSt} {x4 x5 y0 : Int32} {o6 o7 : Option Value} (h : Sh σ) : b_R C kL_law [] (320, [some (.ref 0), some (.ref 100), some (.ref 237), some (.ref 252), some (.int x4), some (.int x5), o6, o7, none], [.int y0], σ) = b_G C kL_law [] 323 326 [some (.ref 0), some (.ref 100), some (.ref 237), some (.ref 252), some (.int x4), some (.int x5), some (.int y0), o7, none] [] (C 145 [.ref 237] σ) := by
  refine (e_istore (code := kL_law) (pc := 320) rfl rfl rfl).trans ?_
  refine (e_aload_n (code := kL_law) (pc := 322) rfl rfl).trans ?_
  exact (e_callV (σ := σ) (code := kL_law) (pc := 323) (len := 3) (k := 145) (n := 1) (c := 20) (as := [.ref 237]) (st0 := []) rfl rfl rfl rfl rfl (sk_237 (σ := σ) h) rfl)
set_option maxRecDepth 30000 in
theorem b_L_law_326 {C : aCall} {σ : aSt} {x4 x5 x6 y0 : Int32} {o7 : Option Value} (h : Sh σ) : b_R C kL_law [] (326, [some (.ref 0), some (.ref 100), some (.ref 237), some (.ref 252), some (.int x4), some (.int x5), some (.int x6), o7, none], [.int y0], σ) = (if y0 = x5 then (if x5 = 0 then b_gd (a_in (nI 0) 1) ((if (lg_cmp (a_L σ 252 (Int32.toNatClampNeg (nI 0))) (Int32.toInt64 x6)) = 0 then b_R C kL_law [] (350, [some (.ref 0), some (.ref 100), some (.ref 237), some (.ref 252), some (.int x4), some (.int x5), some (.int x6), o7, none], [], σ) else some (.inl (some (.int (nI 0))), σ))) else b_R C kL_law [] (350, [some (.ref 0), some (.ref 100), some (.ref 237), some (.ref 252), some (.int x4), some (.int x5), some (.int x6), o7, none], [], σ)) else some (.inl (some (.int (nI 0))), σ)) := by
  refine (e_iload (code := kL_law) (pc := 326) rfl rfl).trans ?_
  refine (e_iceq (code := kL_law) (pc := 328) rfl).trans ?_
  refine b_ite ?_ ?_
  · refine (e_iload (code := kL_law) (pc := 333) rfl rfl).trans ?_
    refine (e_ifne (code := kL_law) (pc := 335) rfl).trans ?_
    refine b_ite ?_ ?_
    · refine (e_aload_n (code := kL_law) (pc := 338) rfl rfl).trans ?_
      refine (e_iconst (code := kL_law) (pc := 339) rfl).trans ?_
      refine (e_laload (code := kL_law) (pc := 340) rfl (sk_252 (σ := σ) h) (sl_252 (σ := σ) h)).trans ?_
      refine b_gd_c ?_
      refine (e_iload (code := kL_law) (pc := 341) rfl rfl).trans ?_
      refine (e_i2l (code := kL_law) (pc := 343) rfl).trans ?_
      refine (e_lcmp (code := kL_law) (pc := 344) rfl).trans ?_
      refine (e_ifeq (code := kL_law) (pc := 345) rfl).trans ?_
      refine b_ite ?_ ?_
      · rfl
      · refine (e_iconst (code := kL_law) (pc := 348) rfl).trans ?_
        exact (e_zreturn rfl).trans (b_gd_t (by decide))
    · rfl
  · refine (e_iconst (code := kL_law) (pc := 331) rfl).trans ?_
    exact (e_zreturn rfl).trans (b_gd_t (by decide))
set_option maxRecDepth 30000 in
theorem b_L_law_350 {C : aCall} {σ : aSt} {x4 x5 x6 : Int32} {o7 : Option Value} : b_R C kL_law [] (350, [some (.ref 0), some (.ref 100), some (.ref 237), some (.ref 252), some (.int x4), some (.int x5), some (.int x6), o7, none], [], σ) = b_R C kL_law [] (2385, [some (.ref 0), some (.ref 100), some (.ref 237), some (.ref 252), some (.int x4), some (.int x5), some (.int x6), o7, none], [], σ) := by
  refine (e_goto (code := kL_law) (pc := 350) rfl).trans ?_
  rfl
set_option maxRecDepth 30000 in
theorem b_L_law_353 {C : aCall} {σ : aSt} {x4 : Int32} {o5 o6 o7 : Option Value} (h : Sh σ) : b_R C kL_law [] (353, [some (.ref 0), some (.ref 100), some (.ref 237), some (.ref 252), some (.int x4), o5, o6, o7, none], [], σ) = b_G C kL_law [] 354 357 [some (.ref 0), some (.ref 100), some (.ref 237), some (.ref 252), some (.int x4), o5, o6, o7, none] [] (C 92 [.ref 100] σ) := by
  refine (e_aload_n (code := kL_law) (pc := 353) rfl rfl).trans ?_
  exact (e_callV (σ := σ) (code := kL_law) (pc := 354) (len := 3) (k := 92) (n := 1) (c := 19) (as := [.ref 100]) (st0 := []) rfl rfl rfl rfl rfl (sk_100 (σ := σ) h) rfl)
set_option maxRecDepth 30000 in
theorem b_L_law_357 {C : aCall} {σ : aSt} {x4 y0 : Int32} {o5 o6 o7 : Option Value} (h : Sh σ) : b_R C kL_law [] (357, [some (.ref 0), some (.ref 100), some (.ref 237), some (.ref 252), some (.int x4), o5, o6, o7, none], [.int y0], σ) = b_G C kL_law [] 358 361 [some (.ref 0), some (.ref 100), some (.ref 237), some (.ref 252), some (.int x4), o5, o6, o7, none] [.int y0] (C 225 [.ref 237] σ) := by
  refine (e_aload_n (code := kL_law) (pc := 357) rfl rfl).trans ?_
  exact (e_callV (σ := σ) (code := kL_law) (pc := 358) (len := 3) (k := 225) (n := 1) (c := 20) (as := [.ref 237]) (st0 := [.int y0]) rfl rfl rfl rfl rfl (sk_237 (σ := σ) h) rfl)
set_option maxRecDepth 30000 in
theorem b_L_law_361 {C : aCall} {σ : aSt} {x4 y0 y1 : Int32} {o5 o6 o7 : Option Value} : b_R C kL_law [] (361, [some (.ref 0), some (.ref 100), some (.ref 237), some (.ref 252), some (.int x4), o5, o6, o7, none], [.int y0, .int y1], σ) = (if y1 = y0 then b_R C kL_law [] (2385, [some (.ref 0), some (.ref 100), some (.ref 237), some (.ref 252), some (.int x4), o5, o6, o7, none], [], σ) else some (.inl (some (.int (nI 0))), σ)) := by
  refine (e_iceq (code := kL_law) (pc := 361) rfl).trans ?_
  refine b_ite ?_ ?_
  · rfl
  · refine (e_iconst (code := kL_law) (pc := 364) rfl).trans ?_
    exact (e_zreturn rfl).trans (b_gd_t (by decide))
set_option maxRecDepth 30000 in
theorem b_L_law_366 {C : aCall} {σ : aSt} {n0 : Nat} {x4 : Int32} {o5 o6 o7 : Option Value} (hs : Sc σ n0) : b_R C kL_law [] (366, [some (.ref 0), some (.ref 100), some (.ref 237), some (.ref 252), some (.int x4), o5, o6, o7, none], [], σ) = b_gd (a_in (x4 + (nI 1)) n0) (b_G C kL_law [] 374 377 [some (.ref 0), some (.ref 100), some (.ref 237), some (.ref 252), some (.int x4), o5, o6, o7, none] [] (C 270 [.ref 100, .int (a_I σ 0 (Int32.toNatClampNeg (x4 + (nI 1)))), .ref 252] σ)) := by
  refine (e_aload_n (code := kL_law) (pc := 366) rfl rfl).trans ?_
  refine (e_aload_n (code := kL_law) (pc := 367) rfl rfl).trans ?_
  refine (e_iload (code := kL_law) (pc := 368) rfl rfl).trans ?_
  refine (e_iconst (code := kL_law) (pc := 370) rfl).trans ?_
  refine (e_iadd (code := kL_law) (pc := 371) rfl).trans ?_
  refine (e_iaload (code := kL_law) (pc := 372) rfl (.inr hs.1) hs.2.1).trans ?_
  refine b_gd_c ?_
  refine (e_aload_n (code := kL_law) (pc := 373) rfl rfl).trans ?_
  exact (e_callS (code := kL_law) (pc := 374) (len := 3) (k := 270) (n := 3) (as := [.ref 100, .int (a_I σ 0 (Int32.toNatClampNeg (x4 + (nI 1)))), .ref 252]) (st0 := []) rfl rfl rfl rfl)
set_option maxRecDepth 30000 in
theorem b_L_law_377 {C : aCall} {σ : aSt} {n0 : Nat} {x4 y0 : Int32} {o5 o6 o7 : Option Value} (h : Sh σ) (hs : Sc σ n0) : b_R C kL_law [] (377, [some (.ref 0), some (.ref 100), some (.ref 237), some (.ref 252), some (.int x4), o5, o6, o7, none], [.int y0], σ) = b_gd (a_in (x4 + (nI 1)) n0) (b_G C kL_law [] 386 389 [some (.ref 0), some (.ref 100), some (.ref 237), some (.ref 252), some (.int x4), some (.int y0), o6, o7, none] [] (C 178 [.ref 237, .int (a_I σ 0 (Int32.toNatClampNeg (x4 + (nI 1))))] σ)) := by
  refine (e_istore (code := kL_law) (pc := 377) rfl rfl rfl).trans ?_
  refine (e_aload_n (code := kL_law) (pc := 379) rfl rfl).trans ?_
  refine (e_aload_n (code := kL_law) (pc := 380) rfl rfl).trans ?_
  refine (e_iload (code := kL_law) (pc := 381) rfl rfl).trans ?_
  refine (e_iconst (code := kL_law) (pc := 383) rfl).trans ?_
  refine (e_iadd (code := kL_law) (pc := 384) rfl).trans ?_
  refine (e_iaload (code := kL_law) (pc := 385) rfl (.inr hs.1) hs.2.1).trans ?_
  refine b_gd_c ?_
  exact (e_callV (σ := σ) (code := kL_law) (pc := 386) (len := 3) (k := 178) (n := 2) (c := 20) (as := [.ref 237, .int (a_I σ 0 (Int32.toNatClampNeg (x4 + (nI 1))))]) (st0 := []) rfl rfl rfl rfl rfl (sk_237 (σ := σ) h) rfl)
set_option maxRecDepth 30000 in
theorem b_L_law_389 {C : aCall} {σ : aSt} {x4 x5 y0 : Int32} {o6 o7 : Option Value} (h : Sh σ) : b_R C kL_law [] (389, [some (.ref 0), some (.ref 100), some (.ref 237), some (.ref 252), some (.int x4), some (.int x5), o6, o7, none], [.int y0], σ) = b_G C kL_law [] 392 395 [some (.ref 0), some (.ref 100), some (.ref 237), some (.ref 252), some (.int x4), some (.int x5), some (.int y0), o7, none] [] (C 145 [.ref 237] σ) := by
  refine (e_istore (code := kL_law) (pc := 389) rfl rfl rfl).trans ?_
  refine (e_aload_n (code := kL_law) (pc := 391) rfl rfl).trans ?_
  exact (e_callV (σ := σ) (code := kL_law) (pc := 392) (len := 3) (k := 145) (n := 1) (c := 20) (as := [.ref 237]) (st0 := []) rfl rfl rfl rfl rfl (sk_237 (σ := σ) h) rfl)
set_option maxRecDepth 30000 in
theorem b_L_law_395 {C : aCall} {σ : aSt} {x4 x5 x6 y0 : Int32} {o7 : Option Value} (h : Sh σ) : b_R C kL_law [] (395, [some (.ref 0), some (.ref 100), some (.ref 237), some (.ref 252), some (.int x4), some (.int x5), some (.int x6), o7, none], [.int y0], σ) = (if y0 = x5 then (if x5 = 0 then b_gd (a_in (nI 0) 1) ((if (lg_cmp (a_L σ 252 (Int32.toNatClampNeg (nI 0))) (Int32.toInt64 x6)) = 0 then b_R C kL_law [] (419, [some (.ref 0), some (.ref 100), some (.ref 237), some (.ref 252), some (.int x4), some (.int x5), some (.int x6), o7, none], [], σ) else some (.inl (some (.int (nI 0))), σ))) else b_R C kL_law [] (419, [some (.ref 0), some (.ref 100), some (.ref 237), some (.ref 252), some (.int x4), some (.int x5), some (.int x6), o7, none], [], σ)) else some (.inl (some (.int (nI 0))), σ)) := by
  refine (e_iload (code := kL_law) (pc := 395) rfl rfl).trans ?_
  refine (e_iceq (code := kL_law) (pc := 397) rfl).trans ?_
  refine b_ite ?_ ?_
  · refine (e_iload (code := kL_law) (pc := 402) rfl rfl).trans ?_
    refine (e_ifne (code := kL_law) (pc := 404) rfl).trans ?_
    refine b_ite ?_ ?_
    · refine (e_aload_n (code := kL_law) (pc := 407) rfl rfl).trans ?_
      refine (e_iconst (code := kL_law) (pc := 408) rfl).trans ?_
      refine (e_laload (code := kL_law) (pc := 409) rfl (sk_252 (σ := σ) h) (sl_252 (σ := σ) h)).trans ?_
      refine b_gd_c ?_
      refine (e_iload (code := kL_law) (pc := 410) rfl rfl).trans ?_
      refine (e_i2l (code := kL_law) (pc := 412) rfl).trans ?_
      refine (e_lcmp (code := kL_law) (pc := 413) rfl).trans ?_
      refine (e_ifeq (code := kL_law) (pc := 414) rfl).trans ?_
      refine b_ite ?_ ?_
      · rfl
      · refine (e_iconst (code := kL_law) (pc := 417) rfl).trans ?_
        exact (e_zreturn rfl).trans (b_gd_t (by decide))
    · rfl
  · refine (e_iconst (code := kL_law) (pc := 400) rfl).trans ?_
    exact (e_zreturn rfl).trans (b_gd_t (by decide))
set_option maxRecDepth 30000 in
theorem b_L_law_419 {C : aCall} {σ : aSt} {x4 x5 x6 : Int32} {o7 : Option Value} : b_R C kL_law [] (419, [some (.ref 0), some (.ref 100), some (.ref 237), some (.ref 252), some (.int x4), some (.int x5), some (.int x6), o7, none], [], σ) = b_R C kL_law [] (2385, [some (.ref 0), some (.ref 100), some (.ref 237), some (.ref 252), some (.int x4), some (.int x5), some (.int x6), o7, none], [], σ) := by
  refine (e_goto (code := kL_law) (pc := 419) rfl).trans ?_
  rfl
set_option maxRecDepth 30000 in
theorem b_L_law_422 {C : aCall} {σ : aSt} {n0 : Nat} {x4 : Int32} {o5 o6 o7 : Option Value} (hs : Sc σ n0) : b_R C kL_law [] (422, [some (.ref 0), some (.ref 100), some (.ref 237), some (.ref 252), some (.int x4), o5, o6, o7, none], [], σ) = b_gd (a_in (x4 + (nI 1)) n0) (b_gd (a_in (x4 + (nI 2)) n0) (b_G C kL_law [] 436 439 [some (.ref 0), some (.ref 100), some (.ref 237), some (.ref 252), some (.int x4), o5, o6, o7, none] [] (C 271 [.ref 100, .int (a_I σ 0 (Int32.toNatClampNeg (x4 + (nI 1)))), .int (a_I σ 0 (Int32.toNatClampNeg (x4 + (nI 2)))), .ref 252] σ))) := by
  refine (e_aload_n (code := kL_law) (pc := 422) rfl rfl).trans ?_
  refine (e_aload_n (code := kL_law) (pc := 423) rfl rfl).trans ?_
  refine (e_iload (code := kL_law) (pc := 424) rfl rfl).trans ?_
  refine (e_iconst (code := kL_law) (pc := 426) rfl).trans ?_
  refine (e_iadd (code := kL_law) (pc := 427) rfl).trans ?_
  refine (e_iaload (code := kL_law) (pc := 428) rfl (.inr hs.1) hs.2.1).trans ?_
  refine b_gd_c ?_
  refine (e_aload_n (code := kL_law) (pc := 429) rfl rfl).trans ?_
  refine (e_iload (code := kL_law) (pc := 430) rfl rfl).trans ?_
  refine (e_iconst (code := kL_law) (pc := 432) rfl).trans ?_
  refine (e_iadd (code := kL_law) (pc := 433) rfl).trans ?_
  refine (e_iaload (code := kL_law) (pc := 434) rfl (.inr hs.1) hs.2.1).trans ?_
  refine b_gd_c ?_
  refine (e_aload_n (code := kL_law) (pc := 435) rfl rfl).trans ?_
  exact (e_callS (code := kL_law) (pc := 436) (len := 3) (k := 271) (n := 4) (as := [.ref 100, .int (a_I σ 0 (Int32.toNatClampNeg (x4 + (nI 1)))), .int (a_I σ 0 (Int32.toNatClampNeg (x4 + (nI 2)))), .ref 252]) (st0 := []) rfl rfl rfl rfl)
set_option maxRecDepth 30000 in
theorem b_L_law_439 {C : aCall} {σ : aSt} {n0 : Nat} {x4 y0 : Int32} {o5 o6 o7 : Option Value} (h : Sh σ) (hs : Sc σ n0) : b_R C kL_law [] (439, [some (.ref 0), some (.ref 100), some (.ref 237), some (.ref 252), some (.int x4), o5, o6, o7, none], [.int y0], σ) = b_gd (a_in (x4 + (nI 1)) n0) (b_gd (a_in (x4 + (nI 2)) n0) (b_G C kL_law [] 454 457 [some (.ref 0), some (.ref 100), some (.ref 237), some (.ref 252), some (.int x4), some (.int y0), o6, o7, none] [] (C 179 [.ref 237, .int (a_I σ 0 (Int32.toNatClampNeg (x4 + (nI 1)))), .int (a_I σ 0 (Int32.toNatClampNeg (x4 + (nI 2))))] σ))) := by
  refine (e_istore (code := kL_law) (pc := 439) rfl rfl rfl).trans ?_
  refine (e_aload_n (code := kL_law) (pc := 441) rfl rfl).trans ?_
  refine (e_aload_n (code := kL_law) (pc := 442) rfl rfl).trans ?_
  refine (e_iload (code := kL_law) (pc := 443) rfl rfl).trans ?_
  refine (e_iconst (code := kL_law) (pc := 445) rfl).trans ?_
  refine (e_iadd (code := kL_law) (pc := 446) rfl).trans ?_
  refine (e_iaload (code := kL_law) (pc := 447) rfl (.inr hs.1) hs.2.1).trans ?_
  refine b_gd_c ?_
  refine (e_aload_n (code := kL_law) (pc := 448) rfl rfl).trans ?_
  refine (e_iload (code := kL_law) (pc := 449) rfl rfl).trans ?_
  refine (e_iconst (code := kL_law) (pc := 451) rfl).trans ?_
  refine (e_iadd (code := kL_law) (pc := 452) rfl).trans ?_
  refine (e_iaload (code := kL_law) (pc := 453) rfl (.inr hs.1) hs.2.1).trans ?_
  refine b_gd_c ?_
  exact (e_callV (σ := σ) (code := kL_law) (pc := 454) (len := 3) (k := 179) (n := 3) (c := 20) (as := [.ref 237, .int (a_I σ 0 (Int32.toNatClampNeg (x4 + (nI 1)))), .int (a_I σ 0 (Int32.toNatClampNeg (x4 + (nI 2))))]) (st0 := []) rfl rfl rfl rfl rfl (sk_237 (σ := σ) h) rfl)
set_option maxRecDepth 30000 in
theorem b_L_law_457 {C : aCall} {σ : aSt} {x4 x5 y0 : Int32} {o6 o7 : Option Value} (h : Sh σ) : b_R C kL_law [] (457, [some (.ref 0), some (.ref 100), some (.ref 237), some (.ref 252), some (.int x4), some (.int x5), o6, o7, none], [.int y0], σ) = b_G C kL_law [] 460 463 [some (.ref 0), some (.ref 100), some (.ref 237), some (.ref 252), some (.int x4), some (.int x5), some (.int y0), o7, none] [] (C 145 [.ref 237] σ) := by
  refine (e_istore (code := kL_law) (pc := 457) rfl rfl rfl).trans ?_
  refine (e_aload_n (code := kL_law) (pc := 459) rfl rfl).trans ?_
  exact (e_callV (σ := σ) (code := kL_law) (pc := 460) (len := 3) (k := 145) (n := 1) (c := 20) (as := [.ref 237]) (st0 := []) rfl rfl rfl rfl rfl (sk_237 (σ := σ) h) rfl)
set_option maxRecDepth 30000 in
theorem b_L_law_463 {C : aCall} {σ : aSt} {x4 x5 x6 y0 : Int32} {o7 : Option Value} (h : Sh σ) : b_R C kL_law [] (463, [some (.ref 0), some (.ref 100), some (.ref 237), some (.ref 252), some (.int x4), some (.int x5), some (.int x6), o7, none], [.int y0], σ) = (if y0 = x5 then (if x5 = 0 then b_gd (a_in (nI 0) 1) ((if (lg_cmp (a_L σ 252 (Int32.toNatClampNeg (nI 0))) (Int32.toInt64 x6)) = 0 then b_R C kL_law [] (487, [some (.ref 0), some (.ref 100), some (.ref 237), some (.ref 252), some (.int x4), some (.int x5), some (.int x6), o7, none], [], σ) else some (.inl (some (.int (nI 0))), σ))) else b_R C kL_law [] (487, [some (.ref 0), some (.ref 100), some (.ref 237), some (.ref 252), some (.int x4), some (.int x5), some (.int x6), o7, none], [], σ)) else some (.inl (some (.int (nI 0))), σ)) := by
  refine (e_iload (code := kL_law) (pc := 463) rfl rfl).trans ?_
  refine (e_iceq (code := kL_law) (pc := 465) rfl).trans ?_
  refine b_ite ?_ ?_
  · refine (e_iload (code := kL_law) (pc := 470) rfl rfl).trans ?_
    refine (e_ifne (code := kL_law) (pc := 472) rfl).trans ?_
    refine b_ite ?_ ?_
    · refine (e_aload_n (code := kL_law) (pc := 475) rfl rfl).trans ?_
      refine (e_iconst (code := kL_law) (pc := 476) rfl).trans ?_
      refine (e_laload (code := kL_law) (pc := 477) rfl (sk_252 (σ := σ) h) (sl_252 (σ := σ) h)).trans ?_
      refine b_gd_c ?_
      refine (e_iload (code := kL_law) (pc := 478) rfl rfl).trans ?_
      refine (e_i2l (code := kL_law) (pc := 480) rfl).trans ?_
      refine (e_lcmp (code := kL_law) (pc := 481) rfl).trans ?_
      refine (e_ifeq (code := kL_law) (pc := 482) rfl).trans ?_
      refine b_ite ?_ ?_
      · rfl
      · refine (e_iconst (code := kL_law) (pc := 485) rfl).trans ?_
        exact (e_zreturn rfl).trans (b_gd_t (by decide))
    · rfl
  · refine (e_iconst (code := kL_law) (pc := 468) rfl).trans ?_
    exact (e_zreturn rfl).trans (b_gd_t (by decide))
set_option maxRecDepth 30000 in
theorem b_L_law_487 {C : aCall} {σ : aSt} {x4 x5 x6 : Int32} {o7 : Option Value} : b_R C kL_law [] (487, [some (.ref 0), some (.ref 100), some (.ref 237), some (.ref 252), some (.int x4), some (.int x5), some (.int x6), o7, none], [], σ) = b_R C kL_law [] (2385, [some (.ref 0), some (.ref 100), some (.ref 237), some (.ref 252), some (.int x4), some (.int x5), some (.int x6), o7, none], [], σ) := by
  refine (e_goto (code := kL_law) (pc := 487) rfl).trans ?_
  rfl
set_option maxRecDepth 30000 in
theorem b_L_law_490 {C : aCall} {σ : aSt} {n0 : Nat} {x4 : Int32} {o5 o6 o7 : Option Value} (hs : Sc σ n0) : b_R C kL_law [] (490, [some (.ref 0), some (.ref 100), some (.ref 237), some (.ref 252), some (.int x4), o5, o6, o7, none], [], σ) = b_gd (a_in (x4 + (nI 1)) n0) (b_gd (a_in (x4 + (nI 2)) n0) (b_G C kL_law [] 504 507 [some (.ref 0), some (.ref 100), some (.ref 237), some (.ref 252), some (.int x4), o5, o6, o7, none] [] (C 272 [.ref 100, .int (a_I σ 0 (Int32.toNatClampNeg (x4 + (nI 1)))), .int (a_I σ 0 (Int32.toNatClampNeg (x4 + (nI 2)))), .ref 252] σ))) := by
  refine (e_aload_n (code := kL_law) (pc := 490) rfl rfl).trans ?_
  refine (e_aload_n (code := kL_law) (pc := 491) rfl rfl).trans ?_
  refine (e_iload (code := kL_law) (pc := 492) rfl rfl).trans ?_
  refine (e_iconst (code := kL_law) (pc := 494) rfl).trans ?_
  refine (e_iadd (code := kL_law) (pc := 495) rfl).trans ?_
  refine (e_iaload (code := kL_law) (pc := 496) rfl (.inr hs.1) hs.2.1).trans ?_
  refine b_gd_c ?_
  refine (e_aload_n (code := kL_law) (pc := 497) rfl rfl).trans ?_
  refine (e_iload (code := kL_law) (pc := 498) rfl rfl).trans ?_
  refine (e_iconst (code := kL_law) (pc := 500) rfl).trans ?_
  refine (e_iadd (code := kL_law) (pc := 501) rfl).trans ?_
  refine (e_iaload (code := kL_law) (pc := 502) rfl (.inr hs.1) hs.2.1).trans ?_
  refine b_gd_c ?_
  refine (e_aload_n (code := kL_law) (pc := 503) rfl rfl).trans ?_
  exact (e_callS (code := kL_law) (pc := 504) (len := 3) (k := 272) (n := 4) (as := [.ref 100, .int (a_I σ 0 (Int32.toNatClampNeg (x4 + (nI 1)))), .int (a_I σ 0 (Int32.toNatClampNeg (x4 + (nI 2)))), .ref 252]) (st0 := []) rfl rfl rfl rfl)
set_option maxRecDepth 30000 in
theorem b_L_law_507 {C : aCall} {σ : aSt} {n0 : Nat} {x4 y0 : Int32} {o5 o6 o7 : Option Value} (h : Sh σ) (hs : Sc σ n0) : b_R C kL_law [] (507, [some (.ref 0), some (.ref 100), some (.ref 237), some (.ref 252), some (.int x4), o5, o6, o7, none], [.int y0], σ) = b_gd (a_in (x4 + (nI 1)) n0) (b_gd (a_in (x4 + (nI 2)) n0) (b_G C kL_law [] 522 525 [some (.ref 0), some (.ref 100), some (.ref 237), some (.ref 252), some (.int x4), some (.int y0), o6, o7, none] [] (C 180 [.ref 237, .int (a_I σ 0 (Int32.toNatClampNeg (x4 + (nI 1)))), .int (a_I σ 0 (Int32.toNatClampNeg (x4 + (nI 2))))] σ))) := by
  refine (e_istore (code := kL_law) (pc := 507) rfl rfl rfl).trans ?_
  refine (e_aload_n (code := kL_law) (pc := 509) rfl rfl).trans ?_
  refine (e_aload_n (code := kL_law) (pc := 510) rfl rfl).trans ?_
  refine (e_iload (code := kL_law) (pc := 511) rfl rfl).trans ?_
  refine (e_iconst (code := kL_law) (pc := 513) rfl).trans ?_
  refine (e_iadd (code := kL_law) (pc := 514) rfl).trans ?_
  refine (e_iaload (code := kL_law) (pc := 515) rfl (.inr hs.1) hs.2.1).trans ?_
  refine b_gd_c ?_
  refine (e_aload_n (code := kL_law) (pc := 516) rfl rfl).trans ?_
  refine (e_iload (code := kL_law) (pc := 517) rfl rfl).trans ?_
  refine (e_iconst (code := kL_law) (pc := 519) rfl).trans ?_
  refine (e_iadd (code := kL_law) (pc := 520) rfl).trans ?_
  refine (e_iaload (code := kL_law) (pc := 521) rfl (.inr hs.1) hs.2.1).trans ?_
  refine b_gd_c ?_
  exact (e_callV (σ := σ) (code := kL_law) (pc := 522) (len := 3) (k := 180) (n := 3) (c := 20) (as := [.ref 237, .int (a_I σ 0 (Int32.toNatClampNeg (x4 + (nI 1)))), .int (a_I σ 0 (Int32.toNatClampNeg (x4 + (nI 2))))]) (st0 := []) rfl rfl rfl rfl rfl (sk_237 (σ := σ) h) rfl)
set_option maxRecDepth 30000 in
theorem b_L_law_525 {C : aCall} {σ : aSt} {x4 x5 y0 : Int32} {o6 o7 : Option Value} (h : Sh σ) : b_R C kL_law [] (525, [some (.ref 0), some (.ref 100), some (.ref 237), some (.ref 252), some (.int x4), some (.int x5), o6, o7, none], [.int y0], σ) = b_G C kL_law [] 528 531 [some (.ref 0), some (.ref 100), some (.ref 237), some (.ref 252), some (.int x4), some (.int x5), some (.int y0), o7, none] [] (C 145 [.ref 237] σ) := by
  refine (e_istore (code := kL_law) (pc := 525) rfl rfl rfl).trans ?_
  refine (e_aload_n (code := kL_law) (pc := 527) rfl rfl).trans ?_
  exact (e_callV (σ := σ) (code := kL_law) (pc := 528) (len := 3) (k := 145) (n := 1) (c := 20) (as := [.ref 237]) (st0 := []) rfl rfl rfl rfl rfl (sk_237 (σ := σ) h) rfl)
set_option maxRecDepth 30000 in
theorem b_L_law_531 {C : aCall} {σ : aSt} {x4 x5 x6 y0 : Int32} {o7 : Option Value} (h : Sh σ) : b_R C kL_law [] (531, [some (.ref 0), some (.ref 100), some (.ref 237), some (.ref 252), some (.int x4), some (.int x5), some (.int x6), o7, none], [.int y0], σ) = (if y0 = x5 then (if x5 = 0 then b_gd (a_in (nI 0) 1) ((if (lg_cmp (a_L σ 252 (Int32.toNatClampNeg (nI 0))) (Int32.toInt64 x6)) = 0 then b_R C kL_law [] (555, [some (.ref 0), some (.ref 100), some (.ref 237), some (.ref 252), some (.int x4), some (.int x5), some (.int x6), o7, none], [], σ) else some (.inl (some (.int (nI 0))), σ))) else b_R C kL_law [] (555, [some (.ref 0), some (.ref 100), some (.ref 237), some (.ref 252), some (.int x4), some (.int x5), some (.int x6), o7, none], [], σ)) else some (.inl (some (.int (nI 0))), σ)) := by
  refine (e_iload (code := kL_law) (pc := 531) rfl rfl).trans ?_
  refine (e_iceq (code := kL_law) (pc := 533) rfl).trans ?_
  refine b_ite ?_ ?_
  · refine (e_iload (code := kL_law) (pc := 538) rfl rfl).trans ?_
    refine (e_ifne (code := kL_law) (pc := 540) rfl).trans ?_
    refine b_ite ?_ ?_
    · refine (e_aload_n (code := kL_law) (pc := 543) rfl rfl).trans ?_
      refine (e_iconst (code := kL_law) (pc := 544) rfl).trans ?_
      refine (e_laload (code := kL_law) (pc := 545) rfl (sk_252 (σ := σ) h) (sl_252 (σ := σ) h)).trans ?_
      refine b_gd_c ?_
      refine (e_iload (code := kL_law) (pc := 546) rfl rfl).trans ?_
      refine (e_i2l (code := kL_law) (pc := 548) rfl).trans ?_
      refine (e_lcmp (code := kL_law) (pc := 549) rfl).trans ?_
      refine (e_ifeq (code := kL_law) (pc := 550) rfl).trans ?_
      refine b_ite ?_ ?_
      · rfl
      · refine (e_iconst (code := kL_law) (pc := 553) rfl).trans ?_
        exact (e_zreturn rfl).trans (b_gd_t (by decide))
    · rfl
  · refine (e_iconst (code := kL_law) (pc := 536) rfl).trans ?_
    exact (e_zreturn rfl).trans (b_gd_t (by decide))
set_option maxRecDepth 30000 in
theorem b_L_law_555 {C : aCall} {σ : aSt} {x4 x5 x6 : Int32} {o7 : Option Value} : b_R C kL_law [] (555, [some (.ref 0), some (.ref 100), some (.ref 237), some (.ref 252), some (.int x4), some (.int x5), some (.int x6), o7, none], [], σ) = b_R C kL_law [] (2385, [some (.ref 0), some (.ref 100), some (.ref 237), some (.ref 252), some (.int x4), some (.int x5), some (.int x6), o7, none], [], σ) := by
  refine (e_goto (code := kL_law) (pc := 555) rfl).trans ?_
  rfl
set_option maxRecDepth 30000 in
theorem b_L_law_558 {C : aCall} {σ : aSt} {n0 : Nat} {x4 : Int32} {o5 o6 o7 : Option Value} (hs : Sc σ n0) : b_R C kL_law [] (558, [some (.ref 0), some (.ref 100), some (.ref 237), some (.ref 252), some (.int x4), o5, o6, o7, none], [], σ) = b_gd (a_in (x4 + (nI 1)) n0) (b_gd (a_in (x4 + (nI 2)) n0) (b_gd (a_in (x4 + (nI 3)) n0) ((if (a_I σ 0 (Int32.toNatClampNeg (x4 + (nI 3)))) = 0 then b_R C kL_law [] (585, [some (.ref 0), some (.ref 100), some (.ref 237), some (.ref 252), some (.int x4), o5, o6, o7, none], [.int (nI 0), .int (a_I σ 0 (Int32.toNatClampNeg (x4 + (nI 2)))), .int (a_I σ 0 (Int32.toNatClampNeg (x4 + (nI 1)))), .ref 100], σ) else b_R C kL_law [] (585, [some (.ref 0), some (.ref 100), some (.ref 237), some (.ref 252), some (.int x4), o5, o6, o7, none], [.int (nI 1), .int (a_I σ 0 (Int32.toNatClampNeg (x4 + (nI 2)))), .int (a_I σ 0 (Int32.toNatClampNeg (x4 + (nI 1)))), .ref 100], σ))))) := by
  refine (e_aload_n (code := kL_law) (pc := 558) rfl rfl).trans ?_
  refine (e_aload_n (code := kL_law) (pc := 559) rfl rfl).trans ?_
  refine (e_iload (code := kL_law) (pc := 560) rfl rfl).trans ?_
  refine (e_iconst (code := kL_law) (pc := 562) rfl).trans ?_
  refine (e_iadd (code := kL_law) (pc := 563) rfl).trans ?_
  refine (e_iaload (code := kL_law) (pc := 564) rfl (.inr hs.1) hs.2.1).trans ?_
  refine b_gd_c ?_
  refine (e_aload_n (code := kL_law) (pc := 565) rfl rfl).trans ?_
  refine (e_iload (code := kL_law) (pc := 566) rfl rfl).trans ?_
  refine (e_iconst (code := kL_law) (pc := 568) rfl).trans ?_
  refine (e_iadd (code := kL_law) (pc := 569) rfl).trans ?_
  refine (e_iaload (code := kL_law) (pc := 570) rfl (.inr hs.1) hs.2.1).trans ?_
  refine b_gd_c ?_
  refine (e_aload_n (code := kL_law) (pc := 571) rfl rfl).trans ?_
  refine (e_iload (code := kL_law) (pc := 572) rfl rfl).trans ?_
  refine (e_iconst (code := kL_law) (pc := 574) rfl).trans ?_
  refine (e_iadd (code := kL_law) (pc := 575) rfl).trans ?_
  refine (e_iaload (code := kL_law) (pc := 576) rfl (.inr hs.1) hs.2.1).trans ?_
  refine b_gd_c ?_
  refine (e_ifeq (code := kL_law) (pc := 577) rfl).trans ?_
  refine b_ite ?_ ?_
  · refine (e_iconst (code := kL_law) (pc := 584) rfl).trans ?_
    rfl
  · refine (e_iconst (code := kL_law) (pc := 580) rfl).trans ?_
    refine (e_goto (code := kL_law) (pc := 581) rfl).trans ?_
    rfl
set_option maxRecDepth 30000 in
theorem b_L_law_585 {C : aCall} {σ : aSt} {x4 y0 y1 y2 : Int32} {o5 o6 o7 : Option Value} : b_R C kL_law [] (585, [some (.ref 0), some (.ref 100), some (.ref 237), some (.ref 252), some (.int x4), o5, o6, o7, none], [.int y0, .int y1, .int y2, .ref 100], σ) = b_G C kL_law [] 586 589 [some (.ref 0), some (.ref 100), some (.ref 237), some (.ref 252), some (.int x4), o5, o6, o7, none] [] (C 273 [.ref 100, .int y2, .int y1, .int y0, .ref 252] σ) := by
  refine (e_aload_n (code := kL_law) (pc := 585) rfl rfl).trans ?_
  exact (e_callS (code := kL_law) (pc := 586) (len := 3) (k := 273) (n := 5) (as := [.ref 100, .int y2, .int y1, .int y0, .ref 252]) (st0 := []) rfl rfl rfl rfl)
set_option maxRecDepth 30000 in
theorem b_L_law_589 {C : aCall} {σ : aSt} {n0 : Nat} {x4 y0 : Int32} {o5 o6 o7 : Option Value} (hs : Sc σ n0) : b_R C kL_law [] (589, [some (.ref 0), some (.ref 100), some (.ref 237), some (.ref 252), some (.int x4), o5, o6, o7, none], [.int y0], σ) = b_gd (a_in (x4 + (nI 1)) n0) (b_gd (a_in (x4 + (nI 2)) n0) (b_gd (a_in (x4 + (nI 3)) n0) ((if (a_I σ 0 (Int32.toNatClampNeg (x4 + (nI 3)))) = 0 then b_R C kL_law [] (618, [some (.ref 0), some (.ref 100), some (.ref 237), some (.ref 252), some (.int x4), some (.int y0), o6, o7, none], [.int (nI 0), .int (a_I σ 0 (Int32.toNatClampNeg (x4 + (nI 2)))), .int (a_I σ 0 (Int32.toNatClampNeg (x4 + (nI 1)))), .ref 237], σ) else b_R C kL_law [] (618, [some (.ref 0), some (.ref 100), some (.ref 237), some (.ref 252), some (.int x4), some (.int y0), o6, o7, none], [.int (nI 1), .int (a_I σ 0 (Int32.toNatClampNeg (x4 + (nI 2)))), .int (a_I σ 0 (Int32.toNatClampNeg (x4 + (nI 1)))), .ref 237], σ))))) := by
  refine (e_istore (code := kL_law) (pc := 589) rfl rfl rfl).trans ?_
  refine (e_aload_n (code := kL_law) (pc := 591) rfl rfl).trans ?_
  refine (e_aload_n (code := kL_law) (pc := 592) rfl rfl).trans ?_
  refine (e_iload (code := kL_law) (pc := 593) rfl rfl).trans ?_
  refine (e_iconst (code := kL_law) (pc := 595) rfl).trans ?_
  refine (e_iadd (code := kL_law) (pc := 596) rfl).trans ?_
  refine (e_iaload (code := kL_law) (pc := 597) rfl (.inr hs.1) hs.2.1).trans ?_
  refine b_gd_c ?_
  refine (e_aload_n (code := kL_law) (pc := 598) rfl rfl).trans ?_
  refine (e_iload (code := kL_law) (pc := 599) rfl rfl).trans ?_
  refine (e_iconst (code := kL_law) (pc := 601) rfl).trans ?_
  refine (e_iadd (code := kL_law) (pc := 602) rfl).trans ?_
  refine (e_iaload (code := kL_law) (pc := 603) rfl (.inr hs.1) hs.2.1).trans ?_
  refine b_gd_c ?_
  refine (e_aload_n (code := kL_law) (pc := 604) rfl rfl).trans ?_
  refine (e_iload (code := kL_law) (pc := 605) rfl rfl).trans ?_
  refine (e_iconst (code := kL_law) (pc := 607) rfl).trans ?_
  refine (e_iadd (code := kL_law) (pc := 608) rfl).trans ?_
  refine (e_iaload (code := kL_law) (pc := 609) rfl (.inr hs.1) hs.2.1).trans ?_
  refine b_gd_c ?_
  refine (e_ifeq (code := kL_law) (pc := 610) rfl).trans ?_
  refine b_ite ?_ ?_
  · refine (e_iconst (code := kL_law) (pc := 617) rfl).trans ?_
    rfl
  · refine (e_iconst (code := kL_law) (pc := 613) rfl).trans ?_
    refine (e_goto (code := kL_law) (pc := 614) rfl).trans ?_
    rfl
set_option maxRecDepth 30000 in
theorem b_L_law_618 {C : aCall} {σ : aSt} {x4 x5 y0 y1 y2 : Int32} {o6 o7 : Option Value} (h : Sh σ) : b_R C kL_law [] (618, [some (.ref 0), some (.ref 100), some (.ref 237), some (.ref 252), some (.int x4), some (.int x5), o6, o7, none], [.int y0, .int y1, .int y2, .ref 237], σ) = b_G C kL_law [] 618 621 [some (.ref 0), some (.ref 100), some (.ref 237), some (.ref 252), some (.int x4), some (.int x5), o6, o7, none] [] (C 181 [.ref 237, .int y2, .int y1, .int y0] σ) := by
  exact (e_callV (σ := σ) (code := kL_law) (pc := 618) (len := 3) (k := 181) (n := 4) (c := 20) (as := [.ref 237, .int y2, .int y1, .int y0]) (st0 := []) rfl rfl rfl rfl rfl (sk_237 (σ := σ) h) rfl)
set_option maxRecDepth 30000 in
theorem b_L_law_621 {C : aCall} {σ : aSt} {x4 x5 y0 : Int32} {o6 o7 : Option Value} (h : Sh σ) : b_R C kL_law [] (621, [some (.ref 0), some (.ref 100), some (.ref 237), some (.ref 252), some (.int x4), some (.int x5), o6, o7, none], [.int y0], σ) = b_G C kL_law [] 624 627 [some (.ref 0), some (.ref 100), some (.ref 237), some (.ref 252), some (.int x4), some (.int x5), some (.int y0), o7, none] [] (C 145 [.ref 237] σ) := by
  refine (e_istore (code := kL_law) (pc := 621) rfl rfl rfl).trans ?_
  refine (e_aload_n (code := kL_law) (pc := 623) rfl rfl).trans ?_
  exact (e_callV (σ := σ) (code := kL_law) (pc := 624) (len := 3) (k := 145) (n := 1) (c := 20) (as := [.ref 237]) (st0 := []) rfl rfl rfl rfl rfl (sk_237 (σ := σ) h) rfl)
set_option maxRecDepth 30000 in
theorem b_L_law_627 {C : aCall} {σ : aSt} {x4 x5 x6 y0 : Int32} {o7 : Option Value} (h : Sh σ) : b_R C kL_law [] (627, [some (.ref 0), some (.ref 100), some (.ref 237), some (.ref 252), some (.int x4), some (.int x5), some (.int x6), o7, none], [.int y0], σ) = (if y0 = x5 then (if x5 = 0 then b_gd (a_in (nI 0) 1) ((if (lg_cmp (a_L σ 252 (Int32.toNatClampNeg (nI 0))) (Int32.toInt64 x6)) = 0 then b_R C kL_law [] (651, [some (.ref 0), some (.ref 100), some (.ref 237), some (.ref 252), some (.int x4), some (.int x5), some (.int x6), o7, none], [], σ) else some (.inl (some (.int (nI 0))), σ))) else b_R C kL_law [] (651, [some (.ref 0), some (.ref 100), some (.ref 237), some (.ref 252), some (.int x4), some (.int x5), some (.int x6), o7, none], [], σ)) else some (.inl (some (.int (nI 0))), σ)) := by
  refine (e_iload (code := kL_law) (pc := 627) rfl rfl).trans ?_
  refine (e_iceq (code := kL_law) (pc := 629) rfl).trans ?_
  refine b_ite ?_ ?_
  · refine (e_iload (code := kL_law) (pc := 634) rfl rfl).trans ?_
    refine (e_ifne (code := kL_law) (pc := 636) rfl).trans ?_
    refine b_ite ?_ ?_
    · refine (e_aload_n (code := kL_law) (pc := 639) rfl rfl).trans ?_
      refine (e_iconst (code := kL_law) (pc := 640) rfl).trans ?_
      refine (e_laload (code := kL_law) (pc := 641) rfl (sk_252 (σ := σ) h) (sl_252 (σ := σ) h)).trans ?_
      refine b_gd_c ?_
      refine (e_iload (code := kL_law) (pc := 642) rfl rfl).trans ?_
      refine (e_i2l (code := kL_law) (pc := 644) rfl).trans ?_
      refine (e_lcmp (code := kL_law) (pc := 645) rfl).trans ?_
      refine (e_ifeq (code := kL_law) (pc := 646) rfl).trans ?_
      refine b_ite ?_ ?_
      · rfl
      · refine (e_iconst (code := kL_law) (pc := 649) rfl).trans ?_
        exact (e_zreturn rfl).trans (b_gd_t (by decide))
    · rfl
  · refine (e_iconst (code := kL_law) (pc := 632) rfl).trans ?_
    exact (e_zreturn rfl).trans (b_gd_t (by decide))
set_option maxRecDepth 30000 in
theorem b_L_law_651 {C : aCall} {σ : aSt} {x4 x5 x6 : Int32} {o7 : Option Value} : b_R C kL_law [] (651, [some (.ref 0), some (.ref 100), some (.ref 237), some (.ref 252), some (.int x4), some (.int x5), some (.int x6), o7, none], [], σ) = b_R C kL_law [] (2385, [some (.ref 0), some (.ref 100), some (.ref 237), some (.ref 252), some (.int x4), some (.int x5), some (.int x6), o7, none], [], σ) := by
  refine (e_goto (code := kL_law) (pc := 651) rfl).trans ?_
  rfl
set_option maxRecDepth 30000 in
theorem b_L_law_654 {C : aCall} {σ : aSt} {n0 : Nat} {x4 : Int32} {o5 o6 o7 : Option Value} (hs : Sc σ n0) : b_R C kL_law [] (654, [some (.ref 0), some (.ref 100), some (.ref 237), some (.ref 252), some (.int x4), o5, o6, o7, none], [], σ) = b_gd (a_in (x4 + (nI 1)) n0) ((if (a_I σ 0 (Int32.toNatClampNeg (x4 + (nI 1)))) = 0 then b_R C kL_law [] (669, [some (.ref 0), some (.ref 100), some (.ref 237), some (.ref 252), some (.int x4), o5, o6, o7, none], [.int (nI 0), .ref 100], σ) else b_R C kL_law [] (669, [some (.ref 0), some (.ref 100), some (.ref 237), some (.ref 252), some (.int x4), o5, o6, o7, none], [.int (nI 1), .ref 100], σ))) := by
  refine (e_aload_n (code := kL_law) (pc := 654) rfl rfl).trans ?_
  refine (e_aload_n (code := kL_law) (pc := 655) rfl rfl).trans ?_
  refine (e_iload (code := kL_law) (pc := 656) rfl rfl).trans ?_
  refine (e_iconst (code := kL_law) (pc := 658) rfl).trans ?_
  refine (e_iadd (code := kL_law) (pc := 659) rfl).trans ?_
  refine (e_iaload (code := kL_law) (pc := 660) rfl (.inr hs.1) hs.2.1).trans ?_
  refine b_gd_c ?_
  refine (e_ifeq (code := kL_law) (pc := 661) rfl).trans ?_
  refine b_ite ?_ ?_
  · refine (e_iconst (code := kL_law) (pc := 668) rfl).trans ?_
    rfl
  · refine (e_iconst (code := kL_law) (pc := 664) rfl).trans ?_
    refine (e_goto (code := kL_law) (pc := 665) rfl).trans ?_
    rfl
set_option maxRecDepth 30000 in
theorem b_L_law_669 {C : aCall} {σ : aSt} {n0 : Nat} {x4 y0 : Int32} {o5 o6 o7 : Option Value} (hs : Sc σ n0) : b_R C kL_law [] (669, [some (.ref 0), some (.ref 100), some (.ref 237), some (.ref 252), some (.int x4), o5, o6, o7, none], [.int y0, .ref 100], σ) = b_gd (a_in (x4 + (nI 2)) n0) (b_gd (a_in (x4 + (nI 3)) n0) (b_G C kL_law [] 682 685 [some (.ref 0), some (.ref 100), some (.ref 237), some (.ref 252), some (.int x4), o5, o6, o7, none] [] (C 274 [.ref 100, .int y0, .int (a_I σ 0 (Int32.toNatClampNeg (x4 + (nI 2)))), .int (a_I σ 0 (Int32.toNatClampNeg (x4 + (nI 3)))), .ref 252] σ))) := by
  refine (e_aload_n (code := kL_law) (pc := 669) rfl rfl).trans ?_
  refine (e_iload (code := kL_law) (pc := 670) rfl rfl).trans ?_
  refine (e_iconst (code := kL_law) (pc := 672) rfl).trans ?_
  refine (e_iadd (code := kL_law) (pc := 673) rfl).trans ?_
  refine (e_iaload (code := kL_law) (pc := 674) rfl (.inr hs.1) hs.2.1).trans ?_
  refine b_gd_c ?_
  refine (e_aload_n (code := kL_law) (pc := 675) rfl rfl).trans ?_
  refine (e_iload (code := kL_law) (pc := 676) rfl rfl).trans ?_
  refine (e_iconst (code := kL_law) (pc := 678) rfl).trans ?_
  refine (e_iadd (code := kL_law) (pc := 679) rfl).trans ?_
  refine (e_iaload (code := kL_law) (pc := 680) rfl (.inr hs.1) hs.2.1).trans ?_
  refine b_gd_c ?_
  refine (e_aload_n (code := kL_law) (pc := 681) rfl rfl).trans ?_
  exact (e_callS (code := kL_law) (pc := 682) (len := 3) (k := 274) (n := 5) (as := [.ref 100, .int y0, .int (a_I σ 0 (Int32.toNatClampNeg (x4 + (nI 2)))), .int (a_I σ 0 (Int32.toNatClampNeg (x4 + (nI 3)))), .ref 252]) (st0 := []) rfl rfl rfl rfl)
set_option maxRecDepth 30000 in
theorem b_L_law_685 {C : aCall} {σ : aSt} {n0 : Nat} {x4 y0 : Int32} {o5 o6 o7 : Option Value} (hs : Sc σ n0) : b_R C kL_law [] (685, [some (.ref 0), some (.ref 100), some (.ref 237), some (.ref 252), some (.int x4), o5, o6, o7, none], [.int y0], σ) = b_gd (a_in (x4 + (nI 1)) n0) ((if (a_I σ 0 (Int32.toNatClampNeg (x4 + (nI 1)))) = 0 then b_R C kL_law [] (702, [some (.ref 0), some (.ref 100), some (.ref 237), some (.ref 252), some (.int x4), some (.int y0), o6, o7, none], [.int (nI 0), .ref 237], σ) else b_R C kL_law [] (702, [some (.ref 0), some (.ref 100), some (.ref 237), some (.ref 252), some (.int x4), some (.int y0), o6, o7, none], [.int (nI 1), .ref 237], σ))) := by
  refine (e_istore (code := kL_law) (pc := 685) rfl rfl rfl).trans ?_
  refine (e_aload_n (code := kL_law) (pc := 687) rfl rfl).trans ?_
  refine (e_aload_n (code := kL_law) (pc := 688) rfl rfl).trans ?_
  refine (e_iload (code := kL_law) (pc := 689) rfl rfl).trans ?_
  refine (e_iconst (code := kL_law) (pc := 691) rfl).trans ?_
  refine (e_iadd (code := kL_law) (pc := 692) rfl).trans ?_
  refine (e_iaload (code := kL_law) (pc := 693) rfl (.inr hs.1) hs.2.1).trans ?_
  refine b_gd_c ?_
  refine (e_ifeq (code := kL_law) (pc := 694) rfl).trans ?_
  refine b_ite ?_ ?_
  · refine (e_iconst (code := kL_law) (pc := 701) rfl).trans ?_
    rfl
  · refine (e_iconst (code := kL_law) (pc := 697) rfl).trans ?_
    refine (e_goto (code := kL_law) (pc := 698) rfl).trans ?_
    rfl
set_option maxRecDepth 30000 in
theorem b_L_law_702 {C : aCall} {σ : aSt} {n0 : Nat} {x4 x5 y0 : Int32} {o6 o7 : Option Value} (h : Sh σ) (hs : Sc σ n0) : b_R C kL_law [] (702, [some (.ref 0), some (.ref 100), some (.ref 237), some (.ref 252), some (.int x4), some (.int x5), o6, o7, none], [.int y0, .ref 237], σ) = b_gd (a_in (x4 + (nI 2)) n0) (b_gd (a_in (x4 + (nI 3)) n0) (b_G C kL_law [] 714 717 [some (.ref 0), some (.ref 100), some (.ref 237), some (.ref 252), some (.int x4), some (.int x5), o6, o7, none] [] (C 182 [.ref 237, .int y0, .int (a_I σ 0 (Int32.toNatClampNeg (x4 + (nI 2)))), .int (a_I σ 0 (Int32.toNatClampNeg (x4 + (nI 3))))] σ))) := by
  refine (e_aload_n (code := kL_law) (pc := 702) rfl rfl).trans ?_
  refine (e_iload (code := kL_law) (pc := 703) rfl rfl).trans ?_
  refine (e_iconst (code := kL_law) (pc := 705) rfl).trans ?_
  refine (e_iadd (code := kL_law) (pc := 706) rfl).trans ?_
  refine (e_iaload (code := kL_law) (pc := 707) rfl (.inr hs.1) hs.2.1).trans ?_
  refine b_gd_c ?_
  refine (e_aload_n (code := kL_law) (pc := 708) rfl rfl).trans ?_
  refine (e_iload (code := kL_law) (pc := 709) rfl rfl).trans ?_
  refine (e_iconst (code := kL_law) (pc := 711) rfl).trans ?_
  refine (e_iadd (code := kL_law) (pc := 712) rfl).trans ?_
  refine (e_iaload (code := kL_law) (pc := 713) rfl (.inr hs.1) hs.2.1).trans ?_
  refine b_gd_c ?_
  exact (e_callV (σ := σ) (code := kL_law) (pc := 714) (len := 3) (k := 182) (n := 4) (c := 20) (as := [.ref 237, .int y0, .int (a_I σ 0 (Int32.toNatClampNeg (x4 + (nI 2)))), .int (a_I σ 0 (Int32.toNatClampNeg (x4 + (nI 3))))]) (st0 := []) rfl rfl rfl rfl rfl (sk_237 (σ := σ) h) rfl)
set_option maxRecDepth 30000 in
theorem b_L_law_717 {C : aCall} {σ : aSt} {x4 x5 y0 : Int32} {o6 o7 : Option Value} (h : Sh σ) : b_R C kL_law [] (717, [some (.ref 0), some (.ref 100), some (.ref 237), some (.ref 252), some (.int x4), some (.int x5), o6, o7, none], [.int y0], σ) = b_G C kL_law [] 720 723 [some (.ref 0), some (.ref 100), some (.ref 237), some (.ref 252), some (.int x4), some (.int x5), some (.int y0), o7, none] [] (C 145 [.ref 237] σ) := by
  refine (e_istore (code := kL_law) (pc := 717) rfl rfl rfl).trans ?_
  refine (e_aload_n (code := kL_law) (pc := 719) rfl rfl).trans ?_
  exact (e_callV (σ := σ) (code := kL_law) (pc := 720) (len := 3) (k := 145) (n := 1) (c := 20) (as := [.ref 237]) (st0 := []) rfl rfl rfl rfl rfl (sk_237 (σ := σ) h) rfl)
set_option maxRecDepth 30000 in
theorem b_L_law_723 {C : aCall} {σ : aSt} {x4 x5 x6 y0 : Int32} {o7 : Option Value} (h : Sh σ) : b_R C kL_law [] (723, [some (.ref 0), some (.ref 100), some (.ref 237), some (.ref 252), some (.int x4), some (.int x5), some (.int x6), o7, none], [.int y0], σ) = (if y0 = x5 then (if x5 = 0 then b_gd (a_in (nI 0) 1) ((if (lg_cmp (a_L σ 252 (Int32.toNatClampNeg (nI 0))) (Int32.toInt64 x6)) = 0 then b_R C kL_law [] (747, [some (.ref 0), some (.ref 100), some (.ref 237), some (.ref 252), some (.int x4), some (.int x5), some (.int x6), o7, none], [], σ) else some (.inl (some (.int (nI 0))), σ))) else b_R C kL_law [] (747, [some (.ref 0), some (.ref 100), some (.ref 237), some (.ref 252), some (.int x4), some (.int x5), some (.int x6), o7, none], [], σ)) else some (.inl (some (.int (nI 0))), σ)) := by
  refine (e_iload (code := kL_law) (pc := 723) rfl rfl).trans ?_
  refine (e_iceq (code := kL_law) (pc := 725) rfl).trans ?_
  refine b_ite ?_ ?_
  · refine (e_iload (code := kL_law) (pc := 730) rfl rfl).trans ?_
    refine (e_ifne (code := kL_law) (pc := 732) rfl).trans ?_
    refine b_ite ?_ ?_
    · refine (e_aload_n (code := kL_law) (pc := 735) rfl rfl).trans ?_
      refine (e_iconst (code := kL_law) (pc := 736) rfl).trans ?_
      refine (e_laload (code := kL_law) (pc := 737) rfl (sk_252 (σ := σ) h) (sl_252 (σ := σ) h)).trans ?_
      refine b_gd_c ?_
      refine (e_iload (code := kL_law) (pc := 738) rfl rfl).trans ?_
      refine (e_i2l (code := kL_law) (pc := 740) rfl).trans ?_
      refine (e_lcmp (code := kL_law) (pc := 741) rfl).trans ?_
      refine (e_ifeq (code := kL_law) (pc := 742) rfl).trans ?_
      refine b_ite ?_ ?_
      · rfl
      · refine (e_iconst (code := kL_law) (pc := 745) rfl).trans ?_
        exact (e_zreturn rfl).trans (b_gd_t (by decide))
    · rfl
  · refine (e_iconst (code := kL_law) (pc := 728) rfl).trans ?_
    exact (e_zreturn rfl).trans (b_gd_t (by decide))
set_option maxRecDepth 30000 in
theorem b_L_law_747 {C : aCall} {σ : aSt} {x4 x5 x6 : Int32} {o7 : Option Value} : b_R C kL_law [] (747, [some (.ref 0), some (.ref 100), some (.ref 237), some (.ref 252), some (.int x4), some (.int x5), some (.int x6), o7, none], [], σ) = b_R C kL_law [] (2385, [some (.ref 0), some (.ref 100), some (.ref 237), some (.ref 252), some (.int x4), some (.int x5), some (.int x6), o7, none], [], σ) := by
  refine (e_goto (code := kL_law) (pc := 747) rfl).trans ?_
  rfl
set_option maxRecDepth 30000 in
theorem b_L_law_750 {C : aCall} {σ : aSt} {n0 : Nat} {x4 : Int32} {o5 o6 o7 : Option Value} (hs : Sc σ n0) : b_R C kL_law [] (750, [some (.ref 0), some (.ref 100), some (.ref 237), some (.ref 252), some (.int x4), o5, o6, o7, none], [], σ) = b_gd (a_in (x4 + (nI 1)) n0) (b_G C kL_law [] 758 761 [some (.ref 0), some (.ref 100), some (.ref 237), some (.ref 252), some (.int x4), o5, o6, o7, none] [] (C 275 [.ref 100, .int (a_I σ 0 (Int32.toNatClampNeg (x4 + (nI 1)))), .ref 252] σ)) := by
  refine (e_aload_n (code := kL_law) (pc := 750) rfl rfl).trans ?_
  refine (e_aload_n (code := kL_law) (pc := 751) rfl rfl).trans ?_
  refine (e_iload (code := kL_law) (pc := 752) rfl rfl).trans ?_
  refine (e_iconst (code := kL_law) (pc := 754) rfl).trans ?_
  refine (e_iadd (code := kL_law) (pc := 755) rfl).trans ?_
  refine (e_iaload (code := kL_law) (pc := 756) rfl (.inr hs.1) hs.2.1).trans ?_
  refine b_gd_c ?_
  refine (e_aload_n (code := kL_law) (pc := 757) rfl rfl).trans ?_
  exact (e_callS (code := kL_law) (pc := 758) (len := 3) (k := 275) (n := 3) (as := [.ref 100, .int (a_I σ 0 (Int32.toNatClampNeg (x4 + (nI 1)))), .ref 252]) (st0 := []) rfl rfl rfl rfl)
set_option maxRecDepth 30000 in
theorem b_L_law_761 {C : aCall} {σ : aSt} {n0 : Nat} {x4 y0 : Int32} {o5 o6 o7 : Option Value} (h : Sh σ) (hs : Sc σ n0) : b_R C kL_law [] (761, [some (.ref 0), some (.ref 100), some (.ref 237), some (.ref 252), some (.int x4), o5, o6, o7, none], [.int y0], σ) = b_gd (a_in (x4 + (nI 1)) n0) (b_G C kL_law [] 770 773 [some (.ref 0), some (.ref 100), some (.ref 237), some (.ref 252), some (.int x4), some (.int y0), o6, o7, none] [] (C 257 [.ref 237, .int (a_I σ 0 (Int32.toNatClampNeg (x4 + (nI 1))))] σ)) := by
  refine (e_istore (code := kL_law) (pc := 761) rfl rfl rfl).trans ?_
  refine (e_aload_n (code := kL_law) (pc := 763) rfl rfl).trans ?_
  refine (e_aload_n (code := kL_law) (pc := 764) rfl rfl).trans ?_
  refine (e_iload (code := kL_law) (pc := 765) rfl rfl).trans ?_
  refine (e_iconst (code := kL_law) (pc := 767) rfl).trans ?_
  refine (e_iadd (code := kL_law) (pc := 768) rfl).trans ?_
  refine (e_iaload (code := kL_law) (pc := 769) rfl (.inr hs.1) hs.2.1).trans ?_
  refine b_gd_c ?_
  exact (e_callV (σ := σ) (code := kL_law) (pc := 770) (len := 3) (k := 257) (n := 2) (c := 20) (as := [.ref 237, .int (a_I σ 0 (Int32.toNatClampNeg (x4 + (nI 1))))]) (st0 := []) rfl rfl rfl rfl rfl (sk_237 (σ := σ) h) rfl)
set_option maxRecDepth 30000 in
theorem b_L_law_773 {C : aCall} {σ : aSt} {x4 x5 y0 : Int32} {o6 o7 : Option Value} (h : Sh σ) : b_R C kL_law [] (773, [some (.ref 0), some (.ref 100), some (.ref 237), some (.ref 252), some (.int x4), some (.int x5), o6, o7, none], [.int y0], σ) = b_G C kL_law [] 776 779 [some (.ref 0), some (.ref 100), some (.ref 237), some (.ref 252), some (.int x4), some (.int x5), some (.int y0), o7, none] [] (C 145 [.ref 237] σ) := by
  refine (e_istore (code := kL_law) (pc := 773) rfl rfl rfl).trans ?_
  refine (e_aload_n (code := kL_law) (pc := 775) rfl rfl).trans ?_
  exact (e_callV (σ := σ) (code := kL_law) (pc := 776) (len := 3) (k := 145) (n := 1) (c := 20) (as := [.ref 237]) (st0 := []) rfl rfl rfl rfl rfl (sk_237 (σ := σ) h) rfl)
set_option maxRecDepth 30000 in
theorem b_L_law_779 {C : aCall} {σ : aSt} {x4 x5 x6 y0 : Int32} {o7 : Option Value} (h : Sh σ) : b_R C kL_law [] (779, [some (.ref 0), some (.ref 100), some (.ref 237), some (.ref 252), some (.int x4), some (.int x5), some (.int x6), o7, none], [.int y0], σ) = (if y0 = x5 then (if x5 = 0 then b_gd (a_in (nI 0) 1) ((if (lg_cmp (a_L σ 252 (Int32.toNatClampNeg (nI 0))) (Int32.toInt64 x6)) = 0 then b_R C kL_law [] (803, [some (.ref 0), some (.ref 100), some (.ref 237), some (.ref 252), some (.int x4), some (.int x5), some (.int x6), o7, none], [], σ) else some (.inl (some (.int (nI 0))), σ))) else b_R C kL_law [] (803, [some (.ref 0), some (.ref 100), some (.ref 237), some (.ref 252), some (.int x4), some (.int x5), some (.int x6), o7, none], [], σ)) else some (.inl (some (.int (nI 0))), σ)) := by
  refine (e_iload (code := kL_law) (pc := 779) rfl rfl).trans ?_
  refine (e_iceq (code := kL_law) (pc := 781) rfl).trans ?_
  refine b_ite ?_ ?_
  · refine (e_iload (code := kL_law) (pc := 786) rfl rfl).trans ?_
    refine (e_ifne (code := kL_law) (pc := 788) rfl).trans ?_
    refine b_ite ?_ ?_
    · refine (e_aload_n (code := kL_law) (pc := 791) rfl rfl).trans ?_
      refine (e_iconst (code := kL_law) (pc := 792) rfl).trans ?_
      refine (e_laload (code := kL_law) (pc := 793) rfl (sk_252 (σ := σ) h) (sl_252 (σ := σ) h)).trans ?_
      refine b_gd_c ?_
      refine (e_iload (code := kL_law) (pc := 794) rfl rfl).trans ?_
      refine (e_i2l (code := kL_law) (pc := 796) rfl).trans ?_
      refine (e_lcmp (code := kL_law) (pc := 797) rfl).trans ?_
      refine (e_ifeq (code := kL_law) (pc := 798) rfl).trans ?_
      refine b_ite ?_ ?_
      · rfl
      · refine (e_iconst (code := kL_law) (pc := 801) rfl).trans ?_
        exact (e_zreturn rfl).trans (b_gd_t (by decide))
    · rfl
  · refine (e_iconst (code := kL_law) (pc := 784) rfl).trans ?_
    exact (e_zreturn rfl).trans (b_gd_t (by decide))
set_option maxRecDepth 30000 in
theorem b_L_law_803 {C : aCall} {σ : aSt} {x4 x5 x6 : Int32} {o7 : Option Value} : b_R C kL_law [] (803, [some (.ref 0), some (.ref 100), some (.ref 237), some (.ref 252), some (.int x4), some (.int x5), some (.int x6), o7, none], [], σ) = b_R C kL_law [] (2385, [some (.ref 0), some (.ref 100), some (.ref 237), some (.ref 252), some (.int x4), some (.int x5), some (.int x6), o7, none], [], σ) := by
  refine (e_goto (code := kL_law) (pc := 803) rfl).trans ?_
  rfl
set_option maxRecDepth 30000 in
theorem b_L_law_806 {C : aCall} {σ : aSt} {n0 : Nat} {x4 : Int32} {o5 o6 o7 : Option Value} (hs : Sc σ n0) : b_R C kL_law [] (806, [some (.ref 0), some (.ref 100), some (.ref 237), some (.ref 252), some (.int x4), o5, o6, o7, none], [], σ) = b_gd (a_in (x4 + (nI 1)) n0) (b_gd (a_in (x4 + (nI 2)) n0) (b_G C kL_law [] 820 823 [some (.ref 0), some (.ref 100), some (.ref 237), some (.ref 252), some (.int x4), o5, o6, o7, none] [] (C 276 [.ref 100, .int (a_I σ 0 (Int32.toNatClampNeg (x4 + (nI 1)))), .int (a_I σ 0 (Int32.toNatClampNeg (x4 + (nI 2)))), .ref 252] σ))) := by
  refine (e_aload_n (code := kL_law) (pc := 806) rfl rfl).trans ?_
  refine (e_aload_n (code := kL_law) (pc := 807) rfl rfl).trans ?_
  refine (e_iload (code := kL_law) (pc := 808) rfl rfl).trans ?_
  refine (e_iconst (code := kL_law) (pc := 810) rfl).trans ?_
  refine (e_iadd (code := kL_law) (pc := 811) rfl).trans ?_
  refine (e_iaload (code := kL_law) (pc := 812) rfl (.inr hs.1) hs.2.1).trans ?_
  refine b_gd_c ?_
  refine (e_aload_n (code := kL_law) (pc := 813) rfl rfl).trans ?_
  refine (e_iload (code := kL_law) (pc := 814) rfl rfl).trans ?_
  refine (e_iconst (code := kL_law) (pc := 816) rfl).trans ?_
  refine (e_iadd (code := kL_law) (pc := 817) rfl).trans ?_
  refine (e_iaload (code := kL_law) (pc := 818) rfl (.inr hs.1) hs.2.1).trans ?_
  refine b_gd_c ?_
  refine (e_aload_n (code := kL_law) (pc := 819) rfl rfl).trans ?_
  exact (e_callS (code := kL_law) (pc := 820) (len := 3) (k := 276) (n := 4) (as := [.ref 100, .int (a_I σ 0 (Int32.toNatClampNeg (x4 + (nI 1)))), .int (a_I σ 0 (Int32.toNatClampNeg (x4 + (nI 2)))), .ref 252]) (st0 := []) rfl rfl rfl rfl)
set_option maxRecDepth 30000 in
theorem b_L_law_823 {C : aCall} {σ : aSt} {n0 : Nat} {x4 y0 : Int32} {o5 o6 o7 : Option Value} (h : Sh σ) (hs : Sc σ n0) : b_R C kL_law [] (823, [some (.ref 0), some (.ref 100), some (.ref 237), some (.ref 252), some (.int x4), o5, o6, o7, none], [.int y0], σ) = b_gd (a_in (x4 + (nI 1)) n0) (b_gd (a_in (x4 + (nI 2)) n0) (b_G C kL_law [] 838 841 [some (.ref 0), some (.ref 100), some (.ref 237), some (.ref 252), some (.int x4), some (.int y0), o6, o7, none] [] (C 183 [.ref 237, .int (a_I σ 0 (Int32.toNatClampNeg (x4 + (nI 1)))), .int (a_I σ 0 (Int32.toNatClampNeg (x4 + (nI 2))))] σ))) := by
  refine (e_istore (code := kL_law) (pc := 823) rfl rfl rfl).trans ?_
  refine (e_aload_n (code := kL_law) (pc := 825) rfl rfl).trans ?_
  refine (e_aload_n (code := kL_law) (pc := 826) rfl rfl).trans ?_
  refine (e_iload (code := kL_law) (pc := 827) rfl rfl).trans ?_
  refine (e_iconst (code := kL_law) (pc := 829) rfl).trans ?_
  refine (e_iadd (code := kL_law) (pc := 830) rfl).trans ?_
  refine (e_iaload (code := kL_law) (pc := 831) rfl (.inr hs.1) hs.2.1).trans ?_
  refine b_gd_c ?_
  refine (e_aload_n (code := kL_law) (pc := 832) rfl rfl).trans ?_
  refine (e_iload (code := kL_law) (pc := 833) rfl rfl).trans ?_
  refine (e_iconst (code := kL_law) (pc := 835) rfl).trans ?_
  refine (e_iadd (code := kL_law) (pc := 836) rfl).trans ?_
  refine (e_iaload (code := kL_law) (pc := 837) rfl (.inr hs.1) hs.2.1).trans ?_
  refine b_gd_c ?_
  exact (e_callV (σ := σ) (code := kL_law) (pc := 838) (len := 3) (k := 183) (n := 3) (c := 20) (as := [.ref 237, .int (a_I σ 0 (Int32.toNatClampNeg (x4 + (nI 1)))), .int (a_I σ 0 (Int32.toNatClampNeg (x4 + (nI 2))))]) (st0 := []) rfl rfl rfl rfl rfl (sk_237 (σ := σ) h) rfl)
set_option maxRecDepth 30000 in
theorem b_L_law_841 {C : aCall} {σ : aSt} {x4 x5 y0 : Int32} {o6 o7 : Option Value} (h : Sh σ) : b_R C kL_law [] (841, [some (.ref 0), some (.ref 100), some (.ref 237), some (.ref 252), some (.int x4), some (.int x5), o6, o7, none], [.int y0], σ) = b_G C kL_law [] 844 847 [some (.ref 0), some (.ref 100), some (.ref 237), some (.ref 252), some (.int x4), some (.int x5), some (.int y0), o7, none] [] (C 145 [.ref 237] σ) := by
  refine (e_istore (code := kL_law) (pc := 841) rfl rfl rfl).trans ?_
  refine (e_aload_n (code := kL_law) (pc := 843) rfl rfl).trans ?_
  exact (e_callV (σ := σ) (code := kL_law) (pc := 844) (len := 3) (k := 145) (n := 1) (c := 20) (as := [.ref 237]) (st0 := []) rfl rfl rfl rfl rfl (sk_237 (σ := σ) h) rfl)
set_option maxRecDepth 30000 in
theorem b_L_law_847 {C : aCall} {σ : aSt} {x4 x5 x6 y0 : Int32} {o7 : Option Value} (h : Sh σ) : b_R C kL_law [] (847, [some (.ref 0), some (.ref 100), some (.ref 237), some (.ref 252), some (.int x4), some (.int x5), some (.int x6), o7, none], [.int y0], σ) = (if y0 = x5 then (if x5 = 0 then b_gd (a_in (nI 0) 1) ((if (lg_cmp (a_L σ 252 (Int32.toNatClampNeg (nI 0))) (Int32.toInt64 x6)) = 0 then b_R C kL_law [] (871, [some (.ref 0), some (.ref 100), some (.ref 237), some (.ref 252), some (.int x4), some (.int x5), some (.int x6), o7, none], [], σ) else some (.inl (some (.int (nI 0))), σ))) else b_R C kL_law [] (871, [some (.ref 0), some (.ref 100), some (.ref 237), some (.ref 252), some (.int x4), some (.int x5), some (.int x6), o7, none], [], σ)) else some (.inl (some (.int (nI 0))), σ)) := by
  refine (e_iload (code := kL_law) (pc := 847) rfl rfl).trans ?_
  refine (e_iceq (code := kL_law) (pc := 849) rfl).trans ?_
  refine b_ite ?_ ?_
  · refine (e_iload (code := kL_law) (pc := 854) rfl rfl).trans ?_
    refine (e_ifne (code := kL_law) (pc := 856) rfl).trans ?_
    refine b_ite ?_ ?_
    · refine (e_aload_n (code := kL_law) (pc := 859) rfl rfl).trans ?_
      refine (e_iconst (code := kL_law) (pc := 860) rfl).trans ?_
      refine (e_laload (code := kL_law) (pc := 861) rfl (sk_252 (σ := σ) h) (sl_252 (σ := σ) h)).trans ?_
      refine b_gd_c ?_
      refine (e_iload (code := kL_law) (pc := 862) rfl rfl).trans ?_
      refine (e_i2l (code := kL_law) (pc := 864) rfl).trans ?_
      refine (e_lcmp (code := kL_law) (pc := 865) rfl).trans ?_
      refine (e_ifeq (code := kL_law) (pc := 866) rfl).trans ?_
      refine b_ite ?_ ?_
      · rfl
      · refine (e_iconst (code := kL_law) (pc := 869) rfl).trans ?_
        exact (e_zreturn rfl).trans (b_gd_t (by decide))
    · rfl
  · refine (e_iconst (code := kL_law) (pc := 852) rfl).trans ?_
    exact (e_zreturn rfl).trans (b_gd_t (by decide))
set_option maxRecDepth 30000 in
theorem b_L_law_871 {C : aCall} {σ : aSt} {x4 x5 x6 : Int32} {o7 : Option Value} : b_R C kL_law [] (871, [some (.ref 0), some (.ref 100), some (.ref 237), some (.ref 252), some (.int x4), some (.int x5), some (.int x6), o7, none], [], σ) = b_R C kL_law [] (2385, [some (.ref 0), some (.ref 100), some (.ref 237), some (.ref 252), some (.int x4), some (.int x5), some (.int x6), o7, none], [], σ) := by
  refine (e_goto (code := kL_law) (pc := 871) rfl).trans ?_
  rfl
set_option maxRecDepth 30000 in
theorem b_L_law_874 {C : aCall} {σ : aSt} {n0 : Nat} {x4 : Int32} {o5 o6 o7 : Option Value} (hs : Sc σ n0) : b_R C kL_law [] (874, [some (.ref 0), some (.ref 100), some (.ref 237), some (.ref 252), some (.int x4), o5, o6, o7, none], [], σ) = b_gd (a_in (x4 + (nI 1)) n0) (b_G C kL_law [] 882 885 [some (.ref 0), some (.ref 100), some (.ref 237), some (.ref 252), some (.int x4), o5, o6, o7, none] [] (C 277 [.ref 100, .int (a_I σ 0 (Int32.toNatClampNeg (x4 + (nI 1)))), .ref 252] σ)) := by
  refine (e_aload_n (code := kL_law) (pc := 874) rfl rfl).trans ?_
  refine (e_aload_n (code := kL_law) (pc := 875) rfl rfl).trans ?_
  refine (e_iload (code := kL_law) (pc := 876) rfl rfl).trans ?_
  refine (e_iconst (code := kL_law) (pc := 878) rfl).trans ?_
  refine (e_iadd (code := kL_law) (pc := 879) rfl).trans ?_
  refine (e_iaload (code := kL_law) (pc := 880) rfl (.inr hs.1) hs.2.1).trans ?_
  refine b_gd_c ?_
  refine (e_aload_n (code := kL_law) (pc := 881) rfl rfl).trans ?_
  exact (e_callS (code := kL_law) (pc := 882) (len := 3) (k := 277) (n := 3) (as := [.ref 100, .int (a_I σ 0 (Int32.toNatClampNeg (x4 + (nI 1)))), .ref 252]) (st0 := []) rfl rfl rfl rfl)
set_option maxRecDepth 30000 in
theorem b_L_law_885 {C : aCall} {σ : aSt} {n0 : Nat} {x4 y0 : Int32} {o5 o6 o7 : Option Value} (h : Sh σ) (hs : Sc σ n0) : b_R C kL_law [] (885, [some (.ref 0), some (.ref 100), some (.ref 237), some (.ref 252), some (.int x4), o5, o6, o7, none], [.int y0], σ) = b_gd (a_in (x4 + (nI 1)) n0) (b_G C kL_law [] 894 897 [some (.ref 0), some (.ref 100), some (.ref 237), some (.ref 252), some (.int x4), some (.int y0), o6, o7, none] [] (C 184 [.ref 237, .int (a_I σ 0 (Int32.toNatClampNeg (x4 + (nI 1))))] σ)) := by
  refine (e_istore (code := kL_law) (pc := 885) rfl rfl rfl).trans ?_
  refine (e_aload_n (code := kL_law) (pc := 887) rfl rfl).trans ?_
  refine (e_aload_n (code := kL_law) (pc := 888) rfl rfl).trans ?_
  refine (e_iload (code := kL_law) (pc := 889) rfl rfl).trans ?_
  refine (e_iconst (code := kL_law) (pc := 891) rfl).trans ?_
  refine (e_iadd (code := kL_law) (pc := 892) rfl).trans ?_
  refine (e_iaload (code := kL_law) (pc := 893) rfl (.inr hs.1) hs.2.1).trans ?_
  refine b_gd_c ?_
  exact (e_callV (σ := σ) (code := kL_law) (pc := 894) (len := 3) (k := 184) (n := 2) (c := 20) (as := [.ref 237, .int (a_I σ 0 (Int32.toNatClampNeg (x4 + (nI 1))))]) (st0 := []) rfl rfl rfl rfl rfl (sk_237 (σ := σ) h) rfl)
set_option maxRecDepth 30000 in
theorem b_L_law_897 {C : aCall} {σ : aSt} {x4 x5 y0 : Int32} {o6 o7 : Option Value} (h : Sh σ) : b_R C kL_law [] (897, [some (.ref 0), some (.ref 100), some (.ref 237), some (.ref 252), some (.int x4), some (.int x5), o6, o7, none], [.int y0], σ) = b_G C kL_law [] 900 903 [some (.ref 0), some (.ref 100), some (.ref 237), some (.ref 252), some (.int x4), some (.int x5), some (.int y0), o7, none] [] (C 145 [.ref 237] σ) := by
  refine (e_istore (code := kL_law) (pc := 897) rfl rfl rfl).trans ?_
  refine (e_aload_n (code := kL_law) (pc := 899) rfl rfl).trans ?_
  exact (e_callV (σ := σ) (code := kL_law) (pc := 900) (len := 3) (k := 145) (n := 1) (c := 20) (as := [.ref 237]) (st0 := []) rfl rfl rfl rfl rfl (sk_237 (σ := σ) h) rfl)
set_option maxRecDepth 30000 in
theorem b_L_law_903 {C : aCall} {σ : aSt} {x4 x5 x6 y0 : Int32} {o7 : Option Value} (h : Sh σ) : b_R C kL_law [] (903, [some (.ref 0), some (.ref 100), some (.ref 237), some (.ref 252), some (.int x4), some (.int x5), some (.int x6), o7, none], [.int y0], σ) = (if y0 = x5 then (if x5 = 0 then b_gd (a_in (nI 0) 1) ((if (lg_cmp (a_L σ 252 (Int32.toNatClampNeg (nI 0))) (Int32.toInt64 x6)) = 0 then b_R C kL_law [] (927, [some (.ref 0), some (.ref 100), some (.ref 237), some (.ref 252), some (.int x4), some (.int x5), some (.int x6), o7, none], [], σ) else some (.inl (some (.int (nI 0))), σ))) else b_R C kL_law [] (927, [some (.ref 0), some (.ref 100), some (.ref 237), some (.ref 252), some (.int x4), some (.int x5), some (.int x6), o7, none], [], σ)) else some (.inl (some (.int (nI 0))), σ)) := by
  refine (e_iload (code := kL_law) (pc := 903) rfl rfl).trans ?_
  refine (e_iceq (code := kL_law) (pc := 905) rfl).trans ?_
  refine b_ite ?_ ?_
  · refine (e_iload (code := kL_law) (pc := 910) rfl rfl).trans ?_
    refine (e_ifne (code := kL_law) (pc := 912) rfl).trans ?_
    refine b_ite ?_ ?_
    · refine (e_aload_n (code := kL_law) (pc := 915) rfl rfl).trans ?_
      refine (e_iconst (code := kL_law) (pc := 916) rfl).trans ?_
      refine (e_laload (code := kL_law) (pc := 917) rfl (sk_252 (σ := σ) h) (sl_252 (σ := σ) h)).trans ?_
      refine b_gd_c ?_
      refine (e_iload (code := kL_law) (pc := 918) rfl rfl).trans ?_
      refine (e_i2l (code := kL_law) (pc := 920) rfl).trans ?_
      refine (e_lcmp (code := kL_law) (pc := 921) rfl).trans ?_
      refine (e_ifeq (code := kL_law) (pc := 922) rfl).trans ?_
      refine b_ite ?_ ?_
      · rfl
      · refine (e_iconst (code := kL_law) (pc := 925) rfl).trans ?_
        exact (e_zreturn rfl).trans (b_gd_t (by decide))
    · rfl
  · refine (e_iconst (code := kL_law) (pc := 908) rfl).trans ?_
    exact (e_zreturn rfl).trans (b_gd_t (by decide))
set_option maxRecDepth 30000 in
theorem b_L_law_927 {C : aCall} {σ : aSt} {x4 x5 x6 : Int32} {o7 : Option Value} : b_R C kL_law [] (927, [some (.ref 0), some (.ref 100), some (.ref 237), some (.ref 252), some (.int x4), some (.int x5), some (.int x6), o7, none], [], σ) = b_R C kL_law [] (2385, [some (.ref 0), some (.ref 100), some (.ref 237), some (.ref 252), some (.int x4), some (.int x5), some (.int x6), o7, none], [], σ) := by
  refine (e_goto (code := kL_law) (pc := 927) rfl).trans ?_
  rfl
set_option maxRecDepth 30000 in
theorem b_L_law_930 {C : aCall} {σ : aSt} {n0 : Nat} {x4 : Int32} {o5 o6 o7 : Option Value} (hs : Sc σ n0) : b_R C kL_law [] (930, [some (.ref 0), some (.ref 100), some (.ref 237), some (.ref 252), some (.int x4), o5, o6, o7, none], [], σ) = b_gd (a_in (x4 + (nI 1)) n0) (b_gd (a_in (x4 + (nI 2)) n0) (b_gd (a_in (x4 + (nI 3)) n0) (b_G C kL_law [] 950 953 [some (.ref 0), some (.ref 100), some (.ref 237), some (.ref 252), some (.int x4), o5, o6, o7, none] [] (C 278 [.ref 100, .int (a_I σ 0 (Int32.toNatClampNeg (x4 + (nI 1)))), .int (a_I σ 0 (Int32.toNatClampNeg (x4 + (nI 2)))), .int (a_I σ 0 (Int32.toNatClampNeg (x4 + (nI 3)))), .ref 252] σ)))) := by
  refine (e_aload_n (code := kL_law) (pc := 930) rfl rfl).trans ?_
  refine (e_aload_n (code := kL_law) (pc := 931) rfl rfl).trans ?_
  refine (e_iload (code := kL_law) (pc := 932) rfl rfl).trans ?_
  refine (e_iconst (code := kL_law) (pc := 934) rfl).trans ?_
  refine (e_iadd (code := kL_law) (pc := 935) rfl).trans ?_
  refine (e_iaload (code := kL_law) (pc := 936) rfl (.inr hs.1) hs.2.1).trans ?_
  refine b_gd_c ?_
  refine (e_aload_n (code := kL_law) (pc := 937) rfl rfl).trans ?_
  refine (e_iload (code := kL_law) (pc := 938) rfl rfl).trans ?_
  refine (e_iconst (code := kL_law) (pc := 940) rfl).trans ?_
  refine (e_iadd (code := kL_law) (pc := 941) rfl).trans ?_
  refine (e_iaload (code := kL_law) (pc := 942) rfl (.inr hs.1) hs.2.1).trans ?_
  refine b_gd_c ?_
  refine (e_aload_n (code := kL_law) (pc := 943) rfl rfl).trans ?_
  refine (e_iload (code := kL_law) (pc := 944) rfl rfl).trans ?_
  refine (e_iconst (code := kL_law) (pc := 946) rfl).trans ?_
  refine (e_iadd (code := kL_law) (pc := 947) rfl).trans ?_
  refine (e_iaload (code := kL_law) (pc := 948) rfl (.inr hs.1) hs.2.1).trans ?_
  refine b_gd_c ?_
  refine (e_aload_n (code := kL_law) (pc := 949) rfl rfl).trans ?_
  exact (e_callS (code := kL_law) (pc := 950) (len := 3) (k := 278) (n := 5) (as := [.ref 100, .int (a_I σ 0 (Int32.toNatClampNeg (x4 + (nI 1)))), .int (a_I σ 0 (Int32.toNatClampNeg (x4 + (nI 2)))), .int (a_I σ 0 (Int32.toNatClampNeg (x4 + (nI 3)))), .ref 252]) (st0 := []) rfl rfl rfl rfl)
set_option maxRecDepth 30000 in
theorem b_L_law_953 {C : aCall} {σ : aSt} {n0 : Nat} {x4 y0 : Int32} {o5 o6 o7 : Option Value} (h : Sh σ) (hs : Sc σ n0) : b_R C kL_law [] (953, [some (.ref 0), some (.ref 100), some (.ref 237), some (.ref 252), some (.int x4), o5, o6, o7, none], [.int y0], σ) = b_gd (a_in (x4 + (nI 1)) n0) (b_gd (a_in (x4 + (nI 2)) n0) (b_gd (a_in (x4 + (nI 3)) n0) (b_G C kL_law [] 974 977 [some (.ref 0), some (.ref 100), some (.ref 237), some (.ref 252), some (.int x4), some (.int y0), o6, o7, none] [] (C 186 [.ref 237, .int (a_I σ 0 (Int32.toNatClampNeg (x4 + (nI 1)))), .int (a_I σ 0 (Int32.toNatClampNeg (x4 + (nI 2)))), .int (a_I σ 0 (Int32.toNatClampNeg (x4 + (nI 3))))] σ)))) := by
  refine (e_istore (code := kL_law) (pc := 953) rfl rfl rfl).trans ?_
  refine (e_aload_n (code := kL_law) (pc := 955) rfl rfl).trans ?_
  refine (e_aload_n (code := kL_law) (pc := 956) rfl rfl).trans ?_
  refine (e_iload (code := kL_law) (pc := 957) rfl rfl).trans ?_
  refine (e_iconst (code := kL_law) (pc := 959) rfl).trans ?_
  refine (e_iadd (code := kL_law) (pc := 960) rfl).trans ?_
  refine (e_iaload (code := kL_law) (pc := 961) rfl (.inr hs.1) hs.2.1).trans ?_
  refine b_gd_c ?_
  refine (e_aload_n (code := kL_law) (pc := 962) rfl rfl).trans ?_
  refine (e_iload (code := kL_law) (pc := 963) rfl rfl).trans ?_
  refine (e_iconst (code := kL_law) (pc := 965) rfl).trans ?_
  refine (e_iadd (code := kL_law) (pc := 966) rfl).trans ?_
  refine (e_iaload (code := kL_law) (pc := 967) rfl (.inr hs.1) hs.2.1).trans ?_
  refine b_gd_c ?_
  refine (e_aload_n (code := kL_law) (pc := 968) rfl rfl).trans ?_
  refine (e_iload (code := kL_law) (pc := 969) rfl rfl).trans ?_
  refine (e_iconst (code := kL_law) (pc := 971) rfl).trans ?_
  refine (e_iadd (code := kL_law) (pc := 972) rfl).trans ?_
  refine (e_iaload (code := kL_law) (pc := 973) rfl (.inr hs.1) hs.2.1).trans ?_
  refine b_gd_c ?_
  exact (e_callV (σ := σ) (code := kL_law) (pc := 974) (len := 3) (k := 186) (n := 4) (c := 20) (as := [.ref 237, .int (a_I σ 0 (Int32.toNatClampNeg (x4 + (nI 1)))), .int (a_I σ 0 (Int32.toNatClampNeg (x4 + (nI 2)))), .int (a_I σ 0 (Int32.toNatClampNeg (x4 + (nI 3))))]) (st0 := []) rfl rfl rfl rfl rfl (sk_237 (σ := σ) h) rfl)
set_option maxRecDepth 30000 in
theorem b_L_law_977 {C : aCall} {σ : aSt} {x4 x5 y0 : Int32} {o6 o7 : Option Value} (h : Sh σ) : b_R C kL_law [] (977, [some (.ref 0), some (.ref 100), some (.ref 237), some (.ref 252), some (.int x4), some (.int x5), o6, o7, none], [.int y0], σ) = b_G C kL_law [] 980 983 [some (.ref 0), some (.ref 100), some (.ref 237), some (.ref 252), some (.int x4), some (.int x5), some (.int y0), o7, none] [] (C 145 [.ref 237] σ) := by
  refine (e_istore (code := kL_law) (pc := 977) rfl rfl rfl).trans ?_
  refine (e_aload_n (code := kL_law) (pc := 979) rfl rfl).trans ?_
  exact (e_callV (σ := σ) (code := kL_law) (pc := 980) (len := 3) (k := 145) (n := 1) (c := 20) (as := [.ref 237]) (st0 := []) rfl rfl rfl rfl rfl (sk_237 (σ := σ) h) rfl)
set_option maxRecDepth 30000 in
theorem b_L_law_983 {C : aCall} {σ : aSt} {x4 x5 x6 y0 : Int32} {o7 : Option Value} (h : Sh σ) : b_R C kL_law [] (983, [some (.ref 0), some (.ref 100), some (.ref 237), some (.ref 252), some (.int x4), some (.int x5), some (.int x6), o7, none], [.int y0], σ) = (if y0 = x5 then (if x5 = 0 then b_gd (a_in (nI 0) 1) ((if (lg_cmp (a_L σ 252 (Int32.toNatClampNeg (nI 0))) (Int32.toInt64 x6)) = 0 then b_R C kL_law [] (1007, [some (.ref 0), some (.ref 100), some (.ref 237), some (.ref 252), some (.int x4), some (.int x5), some (.int x6), o7, none], [], σ) else some (.inl (some (.int (nI 0))), σ))) else b_R C kL_law [] (1007, [some (.ref 0), some (.ref 100), some (.ref 237), some (.ref 252), some (.int x4), some (.int x5), some (.int x6), o7, none], [], σ)) else some (.inl (some (.int (nI 0))), σ)) := by
  refine (e_iload (code := kL_law) (pc := 983) rfl rfl).trans ?_
  refine (e_iceq (code := kL_law) (pc := 985) rfl).trans ?_
  refine b_ite ?_ ?_
  · refine (e_iload (code := kL_law) (pc := 990) rfl rfl).trans ?_
    refine (e_ifne (code := kL_law) (pc := 992) rfl).trans ?_
    refine b_ite ?_ ?_
    · refine (e_aload_n (code := kL_law) (pc := 995) rfl rfl).trans ?_
      refine (e_iconst (code := kL_law) (pc := 996) rfl).trans ?_
      refine (e_laload (code := kL_law) (pc := 997) rfl (sk_252 (σ := σ) h) (sl_252 (σ := σ) h)).trans ?_
      refine b_gd_c ?_
      refine (e_iload (code := kL_law) (pc := 998) rfl rfl).trans ?_
      refine (e_i2l (code := kL_law) (pc := 1000) rfl).trans ?_
      refine (e_lcmp (code := kL_law) (pc := 1001) rfl).trans ?_
      refine (e_ifeq (code := kL_law) (pc := 1002) rfl).trans ?_
      refine b_ite ?_ ?_
      · rfl
      · refine (e_iconst (code := kL_law) (pc := 1005) rfl).trans ?_
        exact (e_zreturn rfl).trans (b_gd_t (by decide))
    · rfl
  · refine (e_iconst (code := kL_law) (pc := 988) rfl).trans ?_
    exact (e_zreturn rfl).trans (b_gd_t (by decide))
set_option maxRecDepth 30000 in
theorem b_L_law_1007 {C : aCall} {σ : aSt} {x4 x5 x6 : Int32} {o7 : Option Value} : b_R C kL_law [] (1007, [some (.ref 0), some (.ref 100), some (.ref 237), some (.ref 252), some (.int x4), some (.int x5), some (.int x6), o7, none], [], σ) = b_R C kL_law [] (2385, [some (.ref 0), some (.ref 100), some (.ref 237), some (.ref 252), some (.int x4), some (.int x5), some (.int x6), o7, none], [], σ) := by
  refine (e_goto (code := kL_law) (pc := 1007) rfl).trans ?_
  rfl
set_option maxRecDepth 30000 in
theorem b_L_law_1010 {C : aCall} {σ : aSt} {n0 : Nat} {x4 : Int32} {o5 o6 o7 : Option Value} (hs : Sc σ n0) : b_R C kL_law [] (1010, [some (.ref 0), some (.ref 100), some (.ref 237), some (.ref 252), some (.int x4), o5, o6, o7, none], [], σ) = b_gd (a_in (x4 + (nI 1)) n0) (b_G C kL_law [] 1018 1021 [some (.ref 0), some (.ref 100), some (.ref 237), some (.ref 252), some (.int x4), o5, o6, o7, none] [] (C 279 [.ref 100, .int (a_I σ 0 (Int32.toNatClampNeg (x4 + (nI 1)))), .ref 252] σ)) := by
  refine (e_aload_n (code := kL_law) (pc := 1010) rfl rfl).trans ?_
  refine (e_aload_n (code := kL_law) (pc := 1011) rfl rfl).trans ?_
  refine (e_iload (code := kL_law) (pc := 1012) rfl rfl).trans ?_
  refine (e_iconst (code := kL_law) (pc := 1014) rfl).trans ?_
  refine (e_iadd (code := kL_law) (pc := 1015) rfl).trans ?_
  refine (e_iaload (code := kL_law) (pc := 1016) rfl (.inr hs.1) hs.2.1).trans ?_
  refine b_gd_c ?_
  refine (e_aload_n (code := kL_law) (pc := 1017) rfl rfl).trans ?_
  exact (e_callS (code := kL_law) (pc := 1018) (len := 3) (k := 279) (n := 3) (as := [.ref 100, .int (a_I σ 0 (Int32.toNatClampNeg (x4 + (nI 1)))), .ref 252]) (st0 := []) rfl rfl rfl rfl)
set_option maxRecDepth 30000 in
theorem b_L_law_1021 {C : aCall} {σ : aSt} {n0 : Nat} {x4 y0 : Int32} {o5 o6 o7 : Option Value} (h : Sh σ) (hs : Sc σ n0) : b_R C kL_law [] (1021, [some (.ref 0), some (.ref 100), some (.ref 237), some (.ref 252), some (.int x4), o5, o6, o7, none], [.int y0], σ) = b_gd (a_in (x4 + (nI 1)) n0) (b_G C kL_law [] 1030 1033 [some (.ref 0), some (.ref 100), some (.ref 237), some (.ref 252), some (.int x4), some (.int y0), o6, o7, none] [] (C 187 [.ref 237, .int (a_I σ 0 (Int32.toNatClampNeg (x4 + (nI 1))))] σ)) := by
  refine (e_istore (code := kL_law) (pc := 1021) rfl rfl rfl).trans ?_
  refine (e_aload_n (code := kL_law) (pc := 1023) rfl rfl).trans ?_
  refine (e_aload_n (code := kL_law) (pc := 1024) rfl rfl).trans ?_
  refine (e_iload (code := kL_law) (pc := 1025) rfl rfl).trans ?_
  refine (e_iconst (code := kL_law) (pc := 1027) rfl).trans ?_
  refine (e_iadd (code := kL_law) (pc := 1028) rfl).trans ?_
  refine (e_iaload (code := kL_law) (pc := 1029) rfl (.inr hs.1) hs.2.1).trans ?_
  refine b_gd_c ?_
  exact (e_callV (σ := σ) (code := kL_law) (pc := 1030) (len := 3) (k := 187) (n := 2) (c := 20) (as := [.ref 237, .int (a_I σ 0 (Int32.toNatClampNeg (x4 + (nI 1))))]) (st0 := []) rfl rfl rfl rfl rfl (sk_237 (σ := σ) h) rfl)
set_option maxRecDepth 30000 in
theorem b_L_law_1033 {C : aCall} {σ : aSt} {x4 x5 y0 : Int32} {o6 o7 : Option Value} (h : Sh σ) : b_R C kL_law [] (1033, [some (.ref 0), some (.ref 100), some (.ref 237), some (.ref 252), some (.int x4), some (.int x5), o6, o7, none], [.int y0], σ) = b_G C kL_law [] 1036 1039 [some (.ref 0), some (.ref 100), some (.ref 237), some (.ref 252), some (.int x4), some (.int x5), some (.int y0), o7, none] [] (C 145 [.ref 237] σ) := by
  refine (e_istore (code := kL_law) (pc := 1033) rfl rfl rfl).trans ?_
  refine (e_aload_n (code := kL_law) (pc := 1035) rfl rfl).trans ?_
  exact (e_callV (σ := σ) (code := kL_law) (pc := 1036) (len := 3) (k := 145) (n := 1) (c := 20) (as := [.ref 237]) (st0 := []) rfl rfl rfl rfl rfl (sk_237 (σ := σ) h) rfl)
set_option maxRecDepth 30000 in
theorem b_L_law_1039 {C : aCall} {σ : aSt} {x4 x5 x6 y0 : Int32} {o7 : Option Value} (h : Sh σ) : b_R C kL_law [] (1039, [some (.ref 0), some (.ref 100), some (.ref 237), some (.ref 252), some (.int x4), some (.int x5), some (.int x6), o7, none], [.int y0], σ) = (if y0 = x5 then (if x5 = 0 then b_gd (a_in (nI 0) 1) ((if (lg_cmp (a_L σ 252 (Int32.toNatClampNeg (nI 0))) (Int32.toInt64 x6)) = 0 then b_R C kL_law [] (1063, [some (.ref 0), some (.ref 100), some (.ref 237), some (.ref 252), some (.int x4), some (.int x5), some (.int x6), o7, none], [], σ) else some (.inl (some (.int (nI 0))), σ))) else b_R C kL_law [] (1063, [some (.ref 0), some (.ref 100), some (.ref 237), some (.ref 252), some (.int x4), some (.int x5), some (.int x6), o7, none], [], σ)) else some (.inl (some (.int (nI 0))), σ)) := by
  refine (e_iload (code := kL_law) (pc := 1039) rfl rfl).trans ?_
  refine (e_iceq (code := kL_law) (pc := 1041) rfl).trans ?_
  refine b_ite ?_ ?_
  · refine (e_iload (code := kL_law) (pc := 1046) rfl rfl).trans ?_
    refine (e_ifne (code := kL_law) (pc := 1048) rfl).trans ?_
    refine b_ite ?_ ?_
    · refine (e_aload_n (code := kL_law) (pc := 1051) rfl rfl).trans ?_
      refine (e_iconst (code := kL_law) (pc := 1052) rfl).trans ?_
      refine (e_laload (code := kL_law) (pc := 1053) rfl (sk_252 (σ := σ) h) (sl_252 (σ := σ) h)).trans ?_
      refine b_gd_c ?_
      refine (e_iload (code := kL_law) (pc := 1054) rfl rfl).trans ?_
      refine (e_i2l (code := kL_law) (pc := 1056) rfl).trans ?_
      refine (e_lcmp (code := kL_law) (pc := 1057) rfl).trans ?_
      refine (e_ifeq (code := kL_law) (pc := 1058) rfl).trans ?_
      refine b_ite ?_ ?_
      · rfl
      · refine (e_iconst (code := kL_law) (pc := 1061) rfl).trans ?_
        exact (e_zreturn rfl).trans (b_gd_t (by decide))
    · rfl
  · refine (e_iconst (code := kL_law) (pc := 1044) rfl).trans ?_
    exact (e_zreturn rfl).trans (b_gd_t (by decide))
set_option maxRecDepth 30000 in
theorem b_L_law_1063 {C : aCall} {σ : aSt} {x4 x5 x6 : Int32} {o7 : Option Value} : b_R C kL_law [] (1063, [some (.ref 0), some (.ref 100), some (.ref 237), some (.ref 252), some (.int x4), some (.int x5), some (.int x6), o7, none], [], σ) = b_R C kL_law [] (2385, [some (.ref 0), some (.ref 100), some (.ref 237), some (.ref 252), some (.int x4), some (.int x5), some (.int x6), o7, none], [], σ) := by
  refine (e_goto (code := kL_law) (pc := 1063) rfl).trans ?_
  rfl
set_option maxRecDepth 30000 in
theorem b_L_law_1066 {C : aCall} {σ : aSt} {n0 : Nat} {x4 : Int32} {o5 o6 o7 : Option Value} (hs : Sc σ n0) : b_R C kL_law [] (1066, [some (.ref 0), some (.ref 100), some (.ref 237), some (.ref 252), some (.int x4), o5, o6, o7, none], [], σ) = b_gd (a_in (x4 + (nI 1)) n0) (b_G C kL_law [] 1074 1077 [some (.ref 0), some (.ref 100), some (.ref 237), some (.ref 252), some (.int x4), o5, o6, o7, none] [] (C 280 [.ref 100, .int (a_I σ 0 (Int32.toNatClampNeg (x4 + (nI 1)))), .ref 252] σ)) := by
  refine (e_aload_n (code := kL_law) (pc := 1066) rfl rfl).trans ?_
  refine (e_aload_n (code := kL_law) (pc := 1067) rfl rfl).trans ?_
  refine (e_iload (code := kL_law) (pc := 1068) rfl rfl).trans ?_
  refine (e_iconst (code := kL_law) (pc := 1070) rfl).trans ?_
  refine (e_iadd (code := kL_law) (pc := 1071) rfl).trans ?_
  refine (e_iaload (code := kL_law) (pc := 1072) rfl (.inr hs.1) hs.2.1).trans ?_
  refine b_gd_c ?_
  refine (e_aload_n (code := kL_law) (pc := 1073) rfl rfl).trans ?_
  exact (e_callS (code := kL_law) (pc := 1074) (len := 3) (k := 280) (n := 3) (as := [.ref 100, .int (a_I σ 0 (Int32.toNatClampNeg (x4 + (nI 1)))), .ref 252]) (st0 := []) rfl rfl rfl rfl)
set_option maxRecDepth 30000 in
theorem b_L_law_1077 {C : aCall} {σ : aSt} {n0 : Nat} {x4 y0 : Int32} {o5 o6 o7 : Option Value} (h : Sh σ) (hs : Sc σ n0) : b_R C kL_law [] (1077, [some (.ref 0), some (.ref 100), some (.ref 237), some (.ref 252), some (.int x4), o5, o6, o7, none], [.int y0], σ) = b_gd (a_in (x4 + (nI 1)) n0) (b_G C kL_law [] 1086 1089 [some (.ref 0), some (.ref 100), some (.ref 237), some (.ref 252), some (.int x4), some (.int y0), o6, o7, none] [] (C 190 [.ref 237, .int (a_I σ 0 (Int32.toNatClampNeg (x4 + (nI 1))))] σ)) := by
  refine (e_istore (code := kL_law) (pc := 1077) rfl rfl rfl).trans ?_
  refine (e_aload_n (code := kL_law) (pc := 1079) rfl rfl).trans ?_
  refine (e_aload_n (code := kL_law) (pc := 1080) rfl rfl).trans ?_
  refine (e_iload (code := kL_law) (pc := 1081) rfl rfl).trans ?_
  refine (e_iconst (code := kL_law) (pc := 1083) rfl).trans ?_
  refine (e_iadd (code := kL_law) (pc := 1084) rfl).trans ?_
  refine (e_iaload (code := kL_law) (pc := 1085) rfl (.inr hs.1) hs.2.1).trans ?_
  refine b_gd_c ?_
  exact (e_callV (σ := σ) (code := kL_law) (pc := 1086) (len := 3) (k := 190) (n := 2) (c := 20) (as := [.ref 237, .int (a_I σ 0 (Int32.toNatClampNeg (x4 + (nI 1))))]) (st0 := []) rfl rfl rfl rfl rfl (sk_237 (σ := σ) h) rfl)
set_option maxRecDepth 30000 in
theorem b_L_law_1089 {C : aCall} {σ : aSt} {x4 x5 y0 : Int32} {o6 o7 : Option Value} (h : Sh σ) : b_R C kL_law [] (1089, [some (.ref 0), some (.ref 100), some (.ref 237), some (.ref 252), some (.int x4), some (.int x5), o6, o7, none], [.int y0], σ) = b_G C kL_law [] 1092 1095 [some (.ref 0), some (.ref 100), some (.ref 237), some (.ref 252), some (.int x4), some (.int x5), some (.int y0), o7, none] [] (C 145 [.ref 237] σ) := by
  refine (e_istore (code := kL_law) (pc := 1089) rfl rfl rfl).trans ?_
  refine (e_aload_n (code := kL_law) (pc := 1091) rfl rfl).trans ?_
  exact (e_callV (σ := σ) (code := kL_law) (pc := 1092) (len := 3) (k := 145) (n := 1) (c := 20) (as := [.ref 237]) (st0 := []) rfl rfl rfl rfl rfl (sk_237 (σ := σ) h) rfl)
set_option maxRecDepth 30000 in
theorem b_L_law_1095 {C : aCall} {σ : aSt} {x4 x5 x6 y0 : Int32} {o7 : Option Value} (h : Sh σ) : b_R C kL_law [] (1095, [some (.ref 0), some (.ref 100), some (.ref 237), some (.ref 252), some (.int x4), some (.int x5), some (.int x6), o7, none], [.int y0], σ) = (if y0 = x5 then (if x5 = 0 then b_gd (a_in (nI 0) 1) ((if (lg_cmp (a_L σ 252 (Int32.toNatClampNeg (nI 0))) (Int32.toInt64 x6)) = 0 then b_R C kL_law [] (1119, [some (.ref 0), some (.ref 100), some (.ref 237), some (.ref 252), some (.int x4), some (.int x5), some (.int x6), o7, none], [], σ) else some (.inl (some (.int (nI 0))), σ))) else b_R C kL_law [] (1119, [some (.ref 0), some (.ref 100), some (.ref 237), some (.ref 252), some (.int x4), some (.int x5), some (.int x6), o7, none], [], σ)) else some (.inl (some (.int (nI 0))), σ)) := by
  refine (e_iload (code := kL_law) (pc := 1095) rfl rfl).trans ?_
  refine (e_iceq (code := kL_law) (pc := 1097) rfl).trans ?_
  refine b_ite ?_ ?_
  · refine (e_iload (code := kL_law) (pc := 1102) rfl rfl).trans ?_
    refine (e_ifne (code := kL_law) (pc := 1104) rfl).trans ?_
    refine b_ite ?_ ?_
    · refine (e_aload_n (code := kL_law) (pc := 1107) rfl rfl).trans ?_
      refine (e_iconst (code := kL_law) (pc := 1108) rfl).trans ?_
      refine (e_laload (code := kL_law) (pc := 1109) rfl (sk_252 (σ := σ) h) (sl_252 (σ := σ) h)).trans ?_
      refine b_gd_c ?_
      refine (e_iload (code := kL_law) (pc := 1110) rfl rfl).trans ?_
      refine (e_i2l (code := kL_law) (pc := 1112) rfl).trans ?_
      refine (e_lcmp (code := kL_law) (pc := 1113) rfl).trans ?_
      refine (e_ifeq (code := kL_law) (pc := 1114) rfl).trans ?_
      refine b_ite ?_ ?_
      · rfl
      · refine (e_iconst (code := kL_law) (pc := 1117) rfl).trans ?_
        exact (e_zreturn rfl).trans (b_gd_t (by decide))
    · rfl
  · refine (e_iconst (code := kL_law) (pc := 1100) rfl).trans ?_
    exact (e_zreturn rfl).trans (b_gd_t (by decide))
set_option maxRecDepth 30000 in
theorem b_L_law_1119 {C : aCall} {σ : aSt} {x4 x5 x6 : Int32} {o7 : Option Value} : b_R C kL_law [] (1119, [some (.ref 0), some (.ref 100), some (.ref 237), some (.ref 252), some (.int x4), some (.int x5), some (.int x6), o7, none], [], σ) = b_R C kL_law [] (2385, [some (.ref 0), some (.ref 100), some (.ref 237), some (.ref 252), some (.int x4), some (.int x5), some (.int x6), o7, none], [], σ) := by
  refine (e_goto (code := kL_law) (pc := 1119) rfl).trans ?_
  rfl
set_option maxRecDepth 30000 in
theorem b_L_law_1122 {C : aCall} {σ : aSt} {n0 : Nat} {x4 : Int32} {o5 o6 o7 : Option Value} (hs : Sc σ n0) : b_R C kL_law [] (1122, [some (.ref 0), some (.ref 100), some (.ref 237), some (.ref 252), some (.int x4), o5, o6, o7, none], [], σ) = b_gd (a_in (x4 + (nI 1)) n0) (b_G C kL_law [] 1130 1133 [some (.ref 0), some (.ref 100), some (.ref 237), some (.ref 252), some (.int x4), o5, o6, o7, none] [] (C 281 [.ref 100, .int (a_I σ 0 (Int32.toNatClampNeg (x4 + (nI 1)))), .ref 252] σ)) := by
  refine (e_aload_n (code := kL_law) (pc := 1122) rfl rfl).trans ?_
  refine (e_aload_n (code := kL_law) (pc := 1123) rfl rfl).trans ?_
  refine (e_iload (code := kL_law) (pc := 1124) rfl rfl).trans ?_
  refine (e_iconst (code := kL_law) (pc := 1126) rfl).trans ?_
  refine (e_iadd (code := kL_law) (pc := 1127) rfl).trans ?_
  refine (e_iaload (code := kL_law) (pc := 1128) rfl (.inr hs.1) hs.2.1).trans ?_
  refine b_gd_c ?_
  refine (e_aload_n (code := kL_law) (pc := 1129) rfl rfl).trans ?_
  exact (e_callS (code := kL_law) (pc := 1130) (len := 3) (k := 281) (n := 3) (as := [.ref 100, .int (a_I σ 0 (Int32.toNatClampNeg (x4 + (nI 1)))), .ref 252]) (st0 := []) rfl rfl rfl rfl)
set_option maxRecDepth 30000 in
theorem b_L_law_1133 {C : aCall} {σ : aSt} {n0 : Nat} {x4 y0 : Int32} {o5 o6 o7 : Option Value} (h : Sh σ) (hs : Sc σ n0) : b_R C kL_law [] (1133, [some (.ref 0), some (.ref 100), some (.ref 237), some (.ref 252), some (.int x4), o5, o6, o7, none], [.int y0], σ) = b_gd (a_in (x4 + (nI 1)) n0) (b_G C kL_law [] 1142 1145 [some (.ref 0), some (.ref 100), some (.ref 237), some (.ref 252), some (.int x4), some (.int y0), o6, o7, none] [] (C 191 [.ref 237, .int (a_I σ 0 (Int32.toNatClampNeg (x4 + (nI 1))))] σ)) := by
  refine (e_istore (code := kL_law) (pc := 1133) rfl rfl rfl).trans ?_
  refine (e_aload_n (code := kL_law) (pc := 1135) rfl rfl).trans ?_
  refine (e_aload_n (code := kL_law) (pc := 1136) rfl rfl).trans ?_
  refine (e_iload (code := kL_law) (pc := 1137) rfl rfl).trans ?_
  refine (e_iconst (code := kL_law) (pc := 1139) rfl).trans ?_
  refine (e_iadd (code := kL_law) (pc := 1140) rfl).trans ?_
  refine (e_iaload (code := kL_law) (pc := 1141) rfl (.inr hs.1) hs.2.1).trans ?_
  refine b_gd_c ?_
  exact (e_callV (σ := σ) (code := kL_law) (pc := 1142) (len := 3) (k := 191) (n := 2) (c := 20) (as := [.ref 237, .int (a_I σ 0 (Int32.toNatClampNeg (x4 + (nI 1))))]) (st0 := []) rfl rfl rfl rfl rfl (sk_237 (σ := σ) h) rfl)
set_option maxRecDepth 30000 in
theorem b_L_law_1145 {C : aCall} {σ : aSt} {x4 x5 y0 : Int32} {o6 o7 : Option Value} (h : Sh σ) : b_R C kL_law [] (1145, [some (.ref 0), some (.ref 100), some (.ref 237), some (.ref 252), some (.int x4), some (.int x5), o6, o7, none], [.int y0], σ) = b_G C kL_law [] 1148 1151 [some (.ref 0), some (.ref 100), some (.ref 237), some (.ref 252), some (.int x4), some (.int x5), some (.int y0), o7, none] [] (C 145 [.ref 237] σ) := by
  refine (e_istore (code := kL_law) (pc := 1145) rfl rfl rfl).trans ?_
  refine (e_aload_n (code := kL_law) (pc := 1147) rfl rfl).trans ?_
  exact (e_callV (σ := σ) (code := kL_law) (pc := 1148) (len := 3) (k := 145) (n := 1) (c := 20) (as := [.ref 237]) (st0 := []) rfl rfl rfl rfl rfl (sk_237 (σ := σ) h) rfl)
set_option maxRecDepth 30000 in
theorem b_L_law_1151 {C : aCall} {σ : aSt} {x4 x5 x6 y0 : Int32} {o7 : Option Value} (h : Sh σ) : b_R C kL_law [] (1151, [some (.ref 0), some (.ref 100), some (.ref 237), some (.ref 252), some (.int x4), some (.int x5), some (.int x6), o7, none], [.int y0], σ) = (if y0 = x5 then (if x5 = 0 then b_gd (a_in (nI 0) 1) ((if (lg_cmp (a_L σ 252 (Int32.toNatClampNeg (nI 0))) (Int32.toInt64 x6)) = 0 then b_R C kL_law [] (1175, [some (.ref 0), some (.ref 100), some (.ref 237), some (.ref 252), some (.int x4), some (.int x5), some (.int x6), o7, none], [], σ) else some (.inl (some (.int (nI 0))), σ))) else b_R C kL_law [] (1175, [some (.ref 0), some (.ref 100), some (.ref 237), some (.ref 252), some (.int x4), some (.int x5), some (.int x6), o7, none], [], σ)) else some (.inl (some (.int (nI 0))), σ)) := by
  refine (e_iload (code := kL_law) (pc := 1151) rfl rfl).trans ?_
  refine (e_iceq (code := kL_law) (pc := 1153) rfl).trans ?_
  refine b_ite ?_ ?_
  · refine (e_iload (code := kL_law) (pc := 1158) rfl rfl).trans ?_
    refine (e_ifne (code := kL_law) (pc := 1160) rfl).trans ?_
    refine b_ite ?_ ?_
    · refine (e_aload_n (code := kL_law) (pc := 1163) rfl rfl).trans ?_
      refine (e_iconst (code := kL_law) (pc := 1164) rfl).trans ?_
      refine (e_laload (code := kL_law) (pc := 1165) rfl (sk_252 (σ := σ) h) (sl_252 (σ := σ) h)).trans ?_
      refine b_gd_c ?_
      refine (e_iload (code := kL_law) (pc := 1166) rfl rfl).trans ?_
      refine (e_i2l (code := kL_law) (pc := 1168) rfl).trans ?_
      refine (e_lcmp (code := kL_law) (pc := 1169) rfl).trans ?_
      refine (e_ifeq (code := kL_law) (pc := 1170) rfl).trans ?_
      refine b_ite ?_ ?_
      · rfl
      · refine (e_iconst (code := kL_law) (pc := 1173) rfl).trans ?_
        exact (e_zreturn rfl).trans (b_gd_t (by decide))
    · rfl
  · refine (e_iconst (code := kL_law) (pc := 1156) rfl).trans ?_
    exact (e_zreturn rfl).trans (b_gd_t (by decide))
set_option maxRecDepth 30000 in
theorem b_L_law_1175 {C : aCall} {σ : aSt} {x4 x5 x6 : Int32} {o7 : Option Value} : b_R C kL_law [] (1175, [some (.ref 0), some (.ref 100), some (.ref 237), some (.ref 252), some (.int x4), some (.int x5), some (.int x6), o7, none], [], σ) = b_R C kL_law [] (2385, [some (.ref 0), some (.ref 100), some (.ref 237), some (.ref 252), some (.int x4), some (.int x5), some (.int x6), o7, none], [], σ) := by
  refine (e_goto (code := kL_law) (pc := 1175) rfl).trans ?_
  rfl
set_option maxRecDepth 30000 in
theorem b_L_law_1178 {C : aCall} {σ : aSt} {n0 : Nat} {x4 : Int32} {o5 o6 o7 : Option Value} (hs : Sc σ n0) : b_R C kL_law [] (1178, [some (.ref 0), some (.ref 100), some (.ref 237), some (.ref 252), some (.int x4), o5, o6, o7, none], [], σ) = b_gd (a_in (x4 + (nI 1)) n0) (b_gd (a_in (x4 + (nI 2)) n0) (b_G C kL_law [] 1192 1195 [some (.ref 0), some (.ref 100), some (.ref 237), some (.ref 252), some (.int x4), o5, o6, o7, none] [] (C 282 [.ref 100, .int (a_I σ 0 (Int32.toNatClampNeg (x4 + (nI 1)))), .int (a_I σ 0 (Int32.toNatClampNeg (x4 + (nI 2)))), .ref 252] σ))) := by
  refine (e_aload_n (code := kL_law) (pc := 1178) rfl rfl).trans ?_
  refine (e_aload_n (code := kL_law) (pc := 1179) rfl rfl).trans ?_
  refine (e_iload (code := kL_law) (pc := 1180) rfl rfl).trans ?_
  refine (e_iconst (code := kL_law) (pc := 1182) rfl).trans ?_
  refine (e_iadd (code := kL_law) (pc := 1183) rfl).trans ?_
  refine (e_iaload (code := kL_law) (pc := 1184) rfl (.inr hs.1) hs.2.1).trans ?_
  refine b_gd_c ?_
  refine (e_aload_n (code := kL_law) (pc := 1185) rfl rfl).trans ?_
  refine (e_iload (code := kL_law) (pc := 1186) rfl rfl).trans ?_
  refine (e_iconst (code := kL_law) (pc := 1188) rfl).trans ?_
  refine (e_iadd (code := kL_law) (pc := 1189) rfl).trans ?_
  refine (e_iaload (code := kL_law) (pc := 1190) rfl (.inr hs.1) hs.2.1).trans ?_
  refine b_gd_c ?_
  refine (e_aload_n (code := kL_law) (pc := 1191) rfl rfl).trans ?_
  exact (e_callS (code := kL_law) (pc := 1192) (len := 3) (k := 282) (n := 4) (as := [.ref 100, .int (a_I σ 0 (Int32.toNatClampNeg (x4 + (nI 1)))), .int (a_I σ 0 (Int32.toNatClampNeg (x4 + (nI 2)))), .ref 252]) (st0 := []) rfl rfl rfl rfl)
set_option maxRecDepth 30000 in
theorem b_L_law_1195 {C : aCall} {σ : aSt} {n0 : Nat} {x4 y0 : Int32} {o5 o6 o7 : Option Value} (h : Sh σ) (hs : Sc σ n0) : b_R C kL_law [] (1195, [some (.ref 0), some (.ref 100), some (.ref 237), some (.ref 252), some (.int x4), o5, o6, o7, none], [.int y0], σ) = b_gd (a_in (x4 + (nI 1)) n0) (b_gd (a_in (x4 + (nI 2)) n0) (b_G C kL_law [] 1210 1213 [some (.ref 0), some (.ref 100), some (.ref 237), some (.ref 252), some (.int x4), some (.int y0), o6, o7, none] [] (C 193 [.ref 237, .int (a_I σ 0 (Int32.toNatClampNeg (x4 + (nI 1)))), .int (a_I σ 0 (Int32.toNatClampNeg (x4 + (nI 2))))] σ))) := by
  refine (e_istore (code := kL_law) (pc := 1195) rfl rfl rfl).trans ?_
  refine (e_aload_n (code := kL_law) (pc := 1197) rfl rfl).trans ?_
  refine (e_aload_n (code := kL_law) (pc := 1198) rfl rfl).trans ?_
  refine (e_iload (code := kL_law) (pc := 1199) rfl rfl).trans ?_
  refine (e_iconst (code := kL_law) (pc := 1201) rfl).trans ?_
  refine (e_iadd (code := kL_law) (pc := 1202) rfl).trans ?_
  refine (e_iaload (code := kL_law) (pc := 1203) rfl (.inr hs.1) hs.2.1).trans ?_
  refine b_gd_c ?_
  refine (e_aload_n (code := kL_law) (pc := 1204) rfl rfl).trans ?_
  refine (e_iload (code := kL_law) (pc := 1205) rfl rfl).trans ?_
  refine (e_iconst (code := kL_law) (pc := 1207) rfl).trans ?_
  refine (e_iadd (code := kL_law) (pc := 1208) rfl).trans ?_
  refine (e_iaload (code := kL_law) (pc := 1209) rfl (.inr hs.1) hs.2.1).trans ?_
  refine b_gd_c ?_
  exact (e_callV (σ := σ) (code := kL_law) (pc := 1210) (len := 3) (k := 193) (n := 3) (c := 20) (as := [.ref 237, .int (a_I σ 0 (Int32.toNatClampNeg (x4 + (nI 1)))), .int (a_I σ 0 (Int32.toNatClampNeg (x4 + (nI 2))))]) (st0 := []) rfl rfl rfl rfl rfl (sk_237 (σ := σ) h) rfl)
set_option maxRecDepth 30000 in
theorem b_L_law_1213 {C : aCall} {σ : aSt} {x4 x5 y0 : Int32} {o6 o7 : Option Value} (h : Sh σ) : b_R C kL_law [] (1213, [some (.ref 0), some (.ref 100), some (.ref 237), some (.ref 252), some (.int x4), some (.int x5), o6, o7, none], [.int y0], σ) = b_G C kL_law [] 1216 1219 [some (.ref 0), some (.ref 100), some (.ref 237), some (.ref 252), some (.int x4), some (.int x5), some (.int y0), o7, none] [] (C 145 [.ref 237] σ) := by
  refine (e_istore (code := kL_law) (pc := 1213) rfl rfl rfl).trans ?_
  refine (e_aload_n (code := kL_law) (pc := 1215) rfl rfl).trans ?_
  exact (e_callV (σ := σ) (code := kL_law) (pc := 1216) (len := 3) (k := 145) (n := 1) (c := 20) (as := [.ref 237]) (st0 := []) rfl rfl rfl rfl rfl (sk_237 (σ := σ) h) rfl)
set_option maxRecDepth 30000 in
theorem b_L_law_1219 {C : aCall} {σ : aSt} {x4 x5 x6 y0 : Int32} {o7 : Option Value} (h : Sh σ) : b_R C kL_law [] (1219, [some (.ref 0), some (.ref 100), some (.ref 237), some (.ref 252), some (.int x4), some (.int x5), some (.int x6), o7, none], [.int y0], σ) = (if y0 = x5 then (if x5 = 0 then b_gd (a_in (nI 0) 1) ((if (lg_cmp (a_L σ 252 (Int32.toNatClampNeg (nI 0))) (Int32.toInt64 x6)) = 0 then b_R C kL_law [] (1243, [some (.ref 0), some (.ref 100), some (.ref 237), some (.ref 252), some (.int x4), some (.int x5), some (.int x6), o7, none], [], σ) else some (.inl (some (.int (nI 0))), σ))) else b_R C kL_law [] (1243, [some (.ref 0), some (.ref 100), some (.ref 237), some (.ref 252), some (.int x4), some (.int x5), some (.int x6), o7, none], [], σ)) else some (.inl (some (.int (nI 0))), σ)) := by
  refine (e_iload (code := kL_law) (pc := 1219) rfl rfl).trans ?_
  refine (e_iceq (code := kL_law) (pc := 1221) rfl).trans ?_
  refine b_ite ?_ ?_
  · refine (e_iload (code := kL_law) (pc := 1226) rfl rfl).trans ?_
    refine (e_ifne (code := kL_law) (pc := 1228) rfl).trans ?_
    refine b_ite ?_ ?_
    · refine (e_aload_n (code := kL_law) (pc := 1231) rfl rfl).trans ?_
      refine (e_iconst (code := kL_law) (pc := 1232) rfl).trans ?_
      refine (e_laload (code := kL_law) (pc := 1233) rfl (sk_252 (σ := σ) h) (sl_252 (σ := σ) h)).trans ?_
      refine b_gd_c ?_
      refine (e_iload (code := kL_law) (pc := 1234) rfl rfl).trans ?_
      refine (e_i2l (code := kL_law) (pc := 1236) rfl).trans ?_
      refine (e_lcmp (code := kL_law) (pc := 1237) rfl).trans ?_
      refine (e_ifeq (code := kL_law) (pc := 1238) rfl).trans ?_
      refine b_ite ?_ ?_
      · rfl
      · refine (e_iconst (code := kL_law) (pc := 1241) rfl).trans ?_
        exact (e_zreturn rfl).trans (b_gd_t (by decide))
    · rfl
  · refine (e_iconst (code := kL_law) (pc := 1224) rfl).trans ?_
    exact (e_zreturn rfl).trans (b_gd_t (by decide))
set_option maxRecDepth 30000 in
theorem b_L_law_1243 {C : aCall} {σ : aSt} {x4 x5 x6 : Int32} {o7 : Option Value} : b_R C kL_law [] (1243, [some (.ref 0), some (.ref 100), some (.ref 237), some (.ref 252), some (.int x4), some (.int x5), some (.int x6), o7, none], [], σ) = b_R C kL_law [] (2385, [some (.ref 0), some (.ref 100), some (.ref 237), some (.ref 252), some (.int x4), some (.int x5), some (.int x6), o7, none], [], σ) := by
  refine (e_goto (code := kL_law) (pc := 1243) rfl).trans ?_
  rfl
set_option maxRecDepth 30000 in
theorem b_L_law_1246 {C : aCall} {σ : aSt} {n0 : Nat} {x4 : Int32} {o5 o6 o7 : Option Value} (hs : Sc σ n0) : b_R C kL_law [] (1246, [some (.ref 0), some (.ref 100), some (.ref 237), some (.ref 252), some (.int x4), o5, o6, o7, none], [], σ) = b_gd (a_in (x4 + (nI 1)) n0) (b_gd (a_in (x4 + (nI 2)) n0) (b_G C kL_law [] 1260 1263 [some (.ref 0), some (.ref 100), some (.ref 237), some (.ref 252), some (.int x4), o5, o6, o7, none] [] (C 283 [.ref 100, .int (a_I σ 0 (Int32.toNatClampNeg (x4 + (nI 1)))), .int (a_I σ 0 (Int32.toNatClampNeg (x4 + (nI 2)))), .ref 252] σ))) := by
  refine (e_aload_n (code := kL_law) (pc := 1246) rfl rfl).trans ?_
  refine (e_aload_n (code := kL_law) (pc := 1247) rfl rfl).trans ?_
  refine (e_iload (code := kL_law) (pc := 1248) rfl rfl).trans ?_
  refine (e_iconst (code := kL_law) (pc := 1250) rfl).trans ?_
  refine (e_iadd (code := kL_law) (pc := 1251) rfl).trans ?_
  refine (e_iaload (code := kL_law) (pc := 1252) rfl (.inr hs.1) hs.2.1).trans ?_
  refine b_gd_c ?_
  refine (e_aload_n (code := kL_law) (pc := 1253) rfl rfl).trans ?_
  refine (e_iload (code := kL_law) (pc := 1254) rfl rfl).trans ?_
  refine (e_iconst (code := kL_law) (pc := 1256) rfl).trans ?_
  refine (e_iadd (code := kL_law) (pc := 1257) rfl).trans ?_
  refine (e_iaload (code := kL_law) (pc := 1258) rfl (.inr hs.1) hs.2.1).trans ?_
  refine b_gd_c ?_
  refine (e_aload_n (code := kL_law) (pc := 1259) rfl rfl).trans ?_
  exact (e_callS (code := kL_law) (pc := 1260) (len := 3) (k := 283) (n := 4) (as := [.ref 100, .int (a_I σ 0 (Int32.toNatClampNeg (x4 + (nI 1)))), .int (a_I σ 0 (Int32.toNatClampNeg (x4 + (nI 2)))), .ref 252]) (st0 := []) rfl rfl rfl rfl)
set_option maxRecDepth 30000 in
theorem b_L_law_1263 {C : aCall} {σ : aSt} {n0 : Nat} {x4 y0 : Int32} {o5 o6 o7 : Option Value} (h : Sh σ) (hs : Sc σ n0) : b_R C kL_law [] (1263, [some (.ref 0), some (.ref 100), some (.ref 237), some (.ref 252), some (.int x4), o5, o6, o7, none], [.int y0], σ) = b_gd (a_in (x4 + (nI 1)) n0) (b_gd (a_in (x4 + (nI 2)) n0) (b_G C kL_law [] 1278 1281 [some (.ref 0), some (.ref 100), some (.ref 237), some (.ref 252), some (.int x4), some (.int y0), o6, o7, none] [] (C 194 [.ref 237, .int (a_I σ 0 (Int32.toNatClampNeg (x4 + (nI 1)))), .int (a_I σ 0 (Int32.toNatClampNeg (x4 + (nI 2))))] σ))) := by
  refine (e_istore (code := kL_law) (pc := 1263) rfl rfl rfl).trans ?_
  refine (e_aload_n (code := kL_law) (pc := 1265) rfl rfl).trans ?_
  refine (e_aload_n (code := kL_law) (pc := 1266) rfl rfl).trans ?_
  refine (e_iload (code := kL_law) (pc := 1267) rfl rfl).trans ?_
  refine (e_iconst (code := kL_law) (pc := 1269) rfl).trans ?_
  refine (e_iadd (code := kL_law) (pc := 1270) rfl).trans ?_
  refine (e_iaload (code := kL_law) (pc := 1271) rfl (.inr hs.1) hs.2.1).trans ?_
  refine b_gd_c ?_
  refine (e_aload_n (code := kL_law) (pc := 1272) rfl rfl).trans ?_
  refine (e_iload (code := kL_law) (pc := 1273) rfl rfl).trans ?_
  refine (e_iconst (code := kL_law) (pc := 1275) rfl).trans ?_
  refine (e_iadd (code := kL_law) (pc := 1276) rfl).trans ?_
  refine (e_iaload (code := kL_law) (pc := 1277) rfl (.inr hs.1) hs.2.1).trans ?_
  refine b_gd_c ?_
  exact (e_callV (σ := σ) (code := kL_law) (pc := 1278) (len := 3) (k := 194) (n := 3) (c := 20) (as := [.ref 237, .int (a_I σ 0 (Int32.toNatClampNeg (x4 + (nI 1)))), .int (a_I σ 0 (Int32.toNatClampNeg (x4 + (nI 2))))]) (st0 := []) rfl rfl rfl rfl rfl (sk_237 (σ := σ) h) rfl)
set_option maxRecDepth 30000 in
theorem b_L_law_1281 {C : aCall} {σ : aSt} {x4 x5 y0 : Int32} {o6 o7 : Option Value} (h : Sh σ) : b_R C kL_law [] (1281, [some (.ref 0), some (.ref 100), some (.ref 237), some (.ref 252), some (.int x4), some (.int x5), o6, o7, none], [.int y0], σ) = b_G C kL_law [] 1284 1287 [some (.ref 0), some (.ref 100), some (.ref 237), some (.ref 252), some (.int x4), some (.int x5), some (.int y0), o7, none] [] (C 145 [.ref 237] σ) := by
  refine (e_istore (code := kL_law) (pc := 1281) rfl rfl rfl).trans ?_
  refine (e_aload_n (code := kL_law) (pc := 1283) rfl rfl).trans ?_
  exact (e_callV (σ := σ) (code := kL_law) (pc := 1284) (len := 3) (k := 145) (n := 1) (c := 20) (as := [.ref 237]) (st0 := []) rfl rfl rfl rfl rfl (sk_237 (σ := σ) h) rfl)
set_option maxRecDepth 30000 in
theorem b_L_law_1287 {C : aCall} {σ : aSt} {x4 x5 x6 y0 : Int32} {o7 : Option Value} (h : Sh σ) : b_R C kL_law [] (1287, [some (.ref 0), some (.ref 100), some (.ref 237), some (.ref 252), some (.int x4), some (.int x5), some (.int x6), o7, none], [.int y0], σ) = (if y0 = x5 then (if x5 = 0 then b_gd (a_in (nI 0) 1) ((if (lg_cmp (a_L σ 252 (Int32.toNatClampNeg (nI 0))) (Int32.toInt64 x6)) = 0 then b_R C kL_law [] (1311, [some (.ref 0), some (.ref 100), some (.ref 237), some (.ref 252), some (.int x4), some (.int x5), some (.int x6), o7, none], [], σ) else some (.inl (some (.int (nI 0))), σ))) else b_R C kL_law [] (1311, [some (.ref 0), some (.ref 100), some (.ref 237), some (.ref 252), some (.int x4), some (.int x5), some (.int x6), o7, none], [], σ)) else some (.inl (some (.int (nI 0))), σ)) := by
  refine (e_iload (code := kL_law) (pc := 1287) rfl rfl).trans ?_
  refine (e_iceq (code := kL_law) (pc := 1289) rfl).trans ?_
  refine b_ite ?_ ?_
  · refine (e_iload (code := kL_law) (pc := 1294) rfl rfl).trans ?_
    refine (e_ifne (code := kL_law) (pc := 1296) rfl).trans ?_
    refine b_ite ?_ ?_
    · refine (e_aload_n (code := kL_law) (pc := 1299) rfl rfl).trans ?_
      refine (e_iconst (code := kL_law) (pc := 1300) rfl).trans ?_
      refine (e_laload (code := kL_law) (pc := 1301) rfl (sk_252 (σ := σ) h) (sl_252 (σ := σ) h)).trans ?_
      refine b_gd_c ?_
      refine (e_iload (code := kL_law) (pc := 1302) rfl rfl).trans ?_
      refine (e_i2l (code := kL_law) (pc := 1304) rfl).trans ?_
      refine (e_lcmp (code := kL_law) (pc := 1305) rfl).trans ?_
      refine (e_ifeq (code := kL_law) (pc := 1306) rfl).trans ?_
      refine b_ite ?_ ?_
      · rfl
      · refine (e_iconst (code := kL_law) (pc := 1309) rfl).trans ?_
        exact (e_zreturn rfl).trans (b_gd_t (by decide))
    · rfl
  · refine (e_iconst (code := kL_law) (pc := 1292) rfl).trans ?_
    exact (e_zreturn rfl).trans (b_gd_t (by decide))
set_option maxRecDepth 30000 in
theorem b_L_law_1311 {C : aCall} {σ : aSt} {x4 x5 x6 : Int32} {o7 : Option Value} : b_R C kL_law [] (1311, [some (.ref 0), some (.ref 100), some (.ref 237), some (.ref 252), some (.int x4), some (.int x5), some (.int x6), o7, none], [], σ) = b_R C kL_law [] (2385, [some (.ref 0), some (.ref 100), some (.ref 237), some (.ref 252), some (.int x4), some (.int x5), some (.int x6), o7, none], [], σ) := by
  refine (e_goto (code := kL_law) (pc := 1311) rfl).trans ?_
  rfl
set_option maxRecDepth 30000 in
theorem b_L_law_1314 {C : aCall} {σ : aSt} {n0 : Nat} {x4 : Int32} {o5 o6 o7 : Option Value} (hs : Sc σ n0) : b_R C kL_law [] (1314, [some (.ref 0), some (.ref 100), some (.ref 237), some (.ref 252), some (.int x4), o5, o6, o7, none], [], σ) = b_gd (a_in (x4 + (nI 1)) n0) (b_G C kL_law [] 1322 1325 [some (.ref 0), some (.ref 100), some (.ref 237), some (.ref 252), some (.int x4), o5, o6, o7, none] [] (C 284 [.ref 100, .int (a_I σ 0 (Int32.toNatClampNeg (x4 + (nI 1)))), .ref 252] σ)) := by
  refine (e_aload_n (code := kL_law) (pc := 1314) rfl rfl).trans ?_
  refine (e_aload_n (code := kL_law) (pc := 1315) rfl rfl).trans ?_
  refine (e_iload (code := kL_law) (pc := 1316) rfl rfl).trans ?_
  refine (e_iconst (code := kL_law) (pc := 1318) rfl).trans ?_
  refine (e_iadd (code := kL_law) (pc := 1319) rfl).trans ?_
  refine (e_iaload (code := kL_law) (pc := 1320) rfl (.inr hs.1) hs.2.1).trans ?_
  refine b_gd_c ?_
  refine (e_aload_n (code := kL_law) (pc := 1321) rfl rfl).trans ?_
  exact (e_callS (code := kL_law) (pc := 1322) (len := 3) (k := 284) (n := 3) (as := [.ref 100, .int (a_I σ 0 (Int32.toNatClampNeg (x4 + (nI 1)))), .ref 252]) (st0 := []) rfl rfl rfl rfl)
set_option maxRecDepth 30000 in
theorem b_L_law_1325 {C : aCall} {σ : aSt} {n0 : Nat} {x4 y0 : Int32} {o5 o6 o7 : Option Value} (h : Sh σ) (hs : Sc σ n0) : b_R C kL_law [] (1325, [some (.ref 0), some (.ref 100), some (.ref 237), some (.ref 252), some (.int x4), o5, o6, o7, none], [.int y0], σ) = b_gd (a_in (x4 + (nI 1)) n0) (b_G C kL_law [] 1334 1337 [some (.ref 0), some (.ref 100), some (.ref 237), some (.ref 252), some (.int x4), some (.int y0), o6, o7, none] [] (C 195 [.ref 237, .int (a_I σ 0 (Int32.toNatClampNeg (x4 + (nI 1))))] σ)) := by
  refine (e_istore (code := kL_law) (pc := 1325) rfl rfl rfl).trans ?_
  refine (e_aload_n (code := kL_law) (pc := 1327) rfl rfl).trans ?_
  refine (e_aload_n (code := kL_law) (pc := 1328) rfl rfl).trans ?_
  refine (e_iload (code := kL_law) (pc := 1329) rfl rfl).trans ?_
  refine (e_iconst (code := kL_law) (pc := 1331) rfl).trans ?_
  refine (e_iadd (code := kL_law) (pc := 1332) rfl).trans ?_
  refine (e_iaload (code := kL_law) (pc := 1333) rfl (.inr hs.1) hs.2.1).trans ?_
  refine b_gd_c ?_
  exact (e_callV (σ := σ) (code := kL_law) (pc := 1334) (len := 3) (k := 195) (n := 2) (c := 20) (as := [.ref 237, .int (a_I σ 0 (Int32.toNatClampNeg (x4 + (nI 1))))]) (st0 := []) rfl rfl rfl rfl rfl (sk_237 (σ := σ) h) rfl)
set_option maxRecDepth 30000 in
theorem b_L_law_1337 {C : aCall} {σ : aSt} {x4 x5 y0 : Int32} {o6 o7 : Option Value} (h : Sh σ) : b_R C kL_law [] (1337, [some (.ref 0), some (.ref 100), some (.ref 237), some (.ref 252), some (.int x4), some (.int x5), o6, o7, none], [.int y0], σ) = b_G C kL_law [] 1340 1343 [some (.ref 0), some (.ref 100), some (.ref 237), some (.ref 252), some (.int x4), some (.int x5), some (.int y0), o7, none] [] (C 145 [.ref 237] σ) := by
  refine (e_istore (code := kL_law) (pc := 1337) rfl rfl rfl).trans ?_
  refine (e_aload_n (code := kL_law) (pc := 1339) rfl rfl).trans ?_
  exact (e_callV (σ := σ) (code := kL_law) (pc := 1340) (len := 3) (k := 145) (n := 1) (c := 20) (as := [.ref 237]) (st0 := []) rfl rfl rfl rfl rfl (sk_237 (σ := σ) h) rfl)
set_option maxRecDepth 30000 in
theorem b_L_law_1343 {C : aCall} {σ : aSt} {x4 x5 x6 y0 : Int32} {o7 : Option Value} (h : Sh σ) : b_R C kL_law [] (1343, [some (.ref 0), some (.ref 100), some (.ref 237), some (.ref 252), some (.int x4), some (.int x5), some (.int x6), o7, none], [.int y0], σ) = (if y0 = x5 then (if x5 = 0 then b_gd (a_in (nI 0) 1) ((if (lg_cmp (a_L σ 252 (Int32.toNatClampNeg (nI 0))) (Int32.toInt64 x6)) = 0 then b_R C kL_law [] (1367, [some (.ref 0), some (.ref 100), some (.ref 237), some (.ref 252), some (.int x4), some (.int x5), some (.int x6), o7, none], [], σ) else some (.inl (some (.int (nI 0))), σ))) else b_R C kL_law [] (1367, [some (.ref 0), some (.ref 100), some (.ref 237), some (.ref 252), some (.int x4), some (.int x5), some (.int x6), o7, none], [], σ)) else some (.inl (some (.int (nI 0))), σ)) := by
  refine (e_iload (code := kL_law) (pc := 1343) rfl rfl).trans ?_
  refine (e_iceq (code := kL_law) (pc := 1345) rfl).trans ?_
  refine b_ite ?_ ?_
  · refine (e_iload (code := kL_law) (pc := 1350) rfl rfl).trans ?_
    refine (e_ifne (code := kL_law) (pc := 1352) rfl).trans ?_
    refine b_ite ?_ ?_
    · refine (e_aload_n (code := kL_law) (pc := 1355) rfl rfl).trans ?_
      refine (e_iconst (code := kL_law) (pc := 1356) rfl).trans ?_
      refine (e_laload (code := kL_law) (pc := 1357) rfl (sk_252 (σ := σ) h) (sl_252 (σ := σ) h)).trans ?_
      refine b_gd_c ?_
      refine (e_iload (code := kL_law) (pc := 1358) rfl rfl).trans ?_
      refine (e_i2l (code := kL_law) (pc := 1360) rfl).trans ?_
      refine (e_lcmp (code := kL_law) (pc := 1361) rfl).trans ?_
      refine (e_ifeq (code := kL_law) (pc := 1362) rfl).trans ?_
      refine b_ite ?_ ?_
      · rfl
      · refine (e_iconst (code := kL_law) (pc := 1365) rfl).trans ?_
        exact (e_zreturn rfl).trans (b_gd_t (by decide))
    · rfl
  · refine (e_iconst (code := kL_law) (pc := 1348) rfl).trans ?_
    exact (e_zreturn rfl).trans (b_gd_t (by decide))
set_option maxRecDepth 30000 in
theorem b_L_law_1367 {C : aCall} {σ : aSt} {x4 x5 x6 : Int32} {o7 : Option Value} : b_R C kL_law [] (1367, [some (.ref 0), some (.ref 100), some (.ref 237), some (.ref 252), some (.int x4), some (.int x5), some (.int x6), o7, none], [], σ) = b_R C kL_law [] (2385, [some (.ref 0), some (.ref 100), some (.ref 237), some (.ref 252), some (.int x4), some (.int x5), some (.int x6), o7, none], [], σ) := by
  refine (e_goto (code := kL_law) (pc := 1367) rfl).trans ?_
  rfl
set_option maxRecDepth 30000 in
theorem b_L_law_1370 {C : aCall} {σ : aSt} {n0 : Nat} {x4 : Int32} {o5 o6 o7 : Option Value} (hs : Sc σ n0) : b_R C kL_law [] (1370, [some (.ref 0), some (.ref 100), some (.ref 237), some (.ref 252), some (.int x4), o5, o6, o7, none], [], σ) = b_gd (a_in (x4 + (nI 1)) n0) (b_gd (a_in (x4 + (nI 2)) n0) (b_G C kL_law [] 1384 1387 [some (.ref 0), some (.ref 100), some (.ref 237), some (.ref 252), some (.int x4), o5, o6, o7, none] [] (C 285 [.ref 100, .int (a_I σ 0 (Int32.toNatClampNeg (x4 + (nI 1)))), .int (a_I σ 0 (Int32.toNatClampNeg (x4 + (nI 2)))), .ref 252] σ))) := by
  refine (e_aload_n (code := kL_law) (pc := 1370) rfl rfl).trans ?_
  refine (e_aload_n (code := kL_law) (pc := 1371) rfl rfl).trans ?_
  refine (e_iload (code := kL_law) (pc := 1372) rfl rfl).trans ?_
  refine (e_iconst (code := kL_law) (pc := 1374) rfl).trans ?_
  refine (e_iadd (code := kL_law) (pc := 1375) rfl).trans ?_
  refine (e_iaload (code := kL_law) (pc := 1376) rfl (.inr hs.1) hs.2.1).trans ?_
  refine b_gd_c ?_
  refine (e_aload_n (code := kL_law) (pc := 1377) rfl rfl).trans ?_
  refine (e_iload (code := kL_law) (pc := 1378) rfl rfl).trans ?_
  refine (e_iconst (code := kL_law) (pc := 1380) rfl).trans ?_
  refine (e_iadd (code := kL_law) (pc := 1381) rfl).trans ?_
  refine (e_iaload (code := kL_law) (pc := 1382) rfl (.inr hs.1) hs.2.1).trans ?_
  refine b_gd_c ?_
  refine (e_aload_n (code := kL_law) (pc := 1383) rfl rfl).trans ?_
  exact (e_callS (code := kL_law) (pc := 1384) (len := 3) (k := 285) (n := 4) (as := [.ref 100, .int (a_I σ 0 (Int32.toNatClampNeg (x4 + (nI 1)))), .int (a_I σ 0 (Int32.toNatClampNeg (x4 + (nI 2)))), .ref 252]) (st0 := []) rfl rfl rfl rfl)
set_option maxRecDepth 30000 in
theorem b_L_law_1387 {C : aCall} {σ : aSt} {n0 : Nat} {x4 y0 : Int32} {o5 o6 o7 : Option Value} (h : Sh σ) (hs : Sc σ n0) : b_R C kL_law [] (1387, [some (.ref 0), some (.ref 100), some (.ref 237), some (.ref 252), some (.int x4), o5, o6, o7, none], [.int y0], σ) = b_gd (a_in (x4 + (nI 1)) n0) (b_gd (a_in (x4 + (nI 2)) n0) (b_G C kL_law [] 1402 1405 [some (.ref 0), some (.ref 100), some (.ref 237), some (.ref 252), some (.int x4), some (.int y0), o6, o7, none] [] (C 196 [.ref 237, .int (a_I σ 0 (Int32.toNatClampNeg (x4 + (nI 1)))), .int (a_I σ 0 (Int32.toNatClampNeg (x4 + (nI 2))))] σ))) := by
  refine (e_istore (code := kL_law) (pc := 1387) rfl rfl rfl).trans ?_
  refine (e_aload_n (code := kL_law) (pc := 1389) rfl rfl).trans ?_
  refine (e_aload_n (code := kL_law) (pc := 1390) rfl rfl).trans ?_
  refine (e_iload (code := kL_law) (pc := 1391) rfl rfl).trans ?_
  refine (e_iconst (code := kL_law) (pc := 1393) rfl).trans ?_
  refine (e_iadd (code := kL_law) (pc := 1394) rfl).trans ?_
  refine (e_iaload (code := kL_law) (pc := 1395) rfl (.inr hs.1) hs.2.1).trans ?_
  refine b_gd_c ?_
  refine (e_aload_n (code := kL_law) (pc := 1396) rfl rfl).trans ?_
  refine (e_iload (code := kL_law) (pc := 1397) rfl rfl).trans ?_
  refine (e_iconst (code := kL_law) (pc := 1399) rfl).trans ?_
  refine (e_iadd (code := kL_law) (pc := 1400) rfl).trans ?_
  refine (e_iaload (code := kL_law) (pc := 1401) rfl (.inr hs.1) hs.2.1).trans ?_
  refine b_gd_c ?_
  exact (e_callV (σ := σ) (code := kL_law) (pc := 1402) (len := 3) (k := 196) (n := 3) (c := 20) (as := [.ref 237, .int (a_I σ 0 (Int32.toNatClampNeg (x4 + (nI 1)))), .int (a_I σ 0 (Int32.toNatClampNeg (x4 + (nI 2))))]) (st0 := []) rfl rfl rfl rfl rfl (sk_237 (σ := σ) h) rfl)
set_option maxRecDepth 30000 in
theorem b_L_law_1405 {C : aCall} {σ : aSt} {x4 x5 y0 : Int32} {o6 o7 : Option Value} (h : Sh σ) : b_R C kL_law [] (1405, [some (.ref 0), some (.ref 100), some (.ref 237), some (.ref 252), some (.int x4), some (.int x5), o6, o7, none], [.int y0], σ) = b_G C kL_law [] 1408 1411 [some (.ref 0), some (.ref 100), some (.ref 237), some (.ref 252), some (.int x4), some (.int x5), some (.int y0), o7, none] [] (C 145 [.ref 237] σ) := by
  refine (e_istore (code := kL_law) (pc := 1405) rfl rfl rfl).trans ?_
  refine (e_aload_n (code := kL_law) (pc := 1407) rfl rfl).trans ?_
  exact (e_callV (σ := σ) (code := kL_law) (pc := 1408) (len := 3) (k := 145) (n := 1) (c := 20) (as := [.ref 237]) (st0 := []) rfl rfl rfl rfl rfl (sk_237 (σ := σ) h) rfl)
set_option maxRecDepth 30000 in
theorem b_L_law_1411 {C : aCall} {σ : aSt} {x4 x5 x6 y0 : Int32} {o7 : Option Value} (h : Sh σ) : b_R C kL_law [] (1411, [some (.ref 0), some (.ref 100), some (.ref 237), some (.ref 252), some (.int x4), some (.int x5), some (.int x6), o7, none], [.int y0], σ) = (if y0 = x5 then (if x5 = 0 then b_gd (a_in (nI 0) 1) ((if (lg_cmp (a_L σ 252 (Int32.toNatClampNeg (nI 0))) (Int32.toInt64 x6)) = 0 then b_R C kL_law [] (1435, [some (.ref 0), some (.ref 100), some (.ref 237), some (.ref 252), some (.int x4), some (.int x5), some (.int x6), o7, none], [], σ) else some (.inl (some (.int (nI 0))), σ))) else b_R C kL_law [] (1435, [some (.ref 0), some (.ref 100), some (.ref 237), some (.ref 252), some (.int x4), some (.int x5), some (.int x6), o7, none], [], σ)) else some (.inl (some (.int (nI 0))), σ)) := by
  refine (e_iload (code := kL_law) (pc := 1411) rfl rfl).trans ?_
  refine (e_iceq (code := kL_law) (pc := 1413) rfl).trans ?_
  refine b_ite ?_ ?_
  · refine (e_iload (code := kL_law) (pc := 1418) rfl rfl).trans ?_
    refine (e_ifne (code := kL_law) (pc := 1420) rfl).trans ?_
    refine b_ite ?_ ?_
    · refine (e_aload_n (code := kL_law) (pc := 1423) rfl rfl).trans ?_
      refine (e_iconst (code := kL_law) (pc := 1424) rfl).trans ?_
      refine (e_laload (code := kL_law) (pc := 1425) rfl (sk_252 (σ := σ) h) (sl_252 (σ := σ) h)).trans ?_
      refine b_gd_c ?_
      refine (e_iload (code := kL_law) (pc := 1426) rfl rfl).trans ?_
      refine (e_i2l (code := kL_law) (pc := 1428) rfl).trans ?_
      refine (e_lcmp (code := kL_law) (pc := 1429) rfl).trans ?_
      refine (e_ifeq (code := kL_law) (pc := 1430) rfl).trans ?_
      refine b_ite ?_ ?_
      · rfl
      · refine (e_iconst (code := kL_law) (pc := 1433) rfl).trans ?_
        exact (e_zreturn rfl).trans (b_gd_t (by decide))
    · rfl
  · refine (e_iconst (code := kL_law) (pc := 1416) rfl).trans ?_
    exact (e_zreturn rfl).trans (b_gd_t (by decide))
set_option maxRecDepth 30000 in
theorem b_L_law_1435 {C : aCall} {σ : aSt} {x4 x5 x6 : Int32} {o7 : Option Value} : b_R C kL_law [] (1435, [some (.ref 0), some (.ref 100), some (.ref 237), some (.ref 252), some (.int x4), some (.int x5), some (.int x6), o7, none], [], σ) = b_R C kL_law [] (2385, [some (.ref 0), some (.ref 100), some (.ref 237), some (.ref 252), some (.int x4), some (.int x5), some (.int x6), o7, none], [], σ) := by
  refine (e_goto (code := kL_law) (pc := 1435) rfl).trans ?_
  rfl
set_option maxRecDepth 30000 in
theorem b_L_law_1438 {C : aCall} {σ : aSt} {x4 : Int32} {o5 o6 o7 : Option Value} (h : Sh σ) : b_R C kL_law [] (1438, [some (.ref 0), some (.ref 100), some (.ref 237), some (.ref 252), some (.int x4), o5, o6, o7, none], [], σ) = b_G C kL_law [] 1439 1442 [some (.ref 0), some (.ref 100), some (.ref 237), some (.ref 252), some (.int x4), o5, o6, o7, none] [] (C 113 [.ref 100] σ) := by
  refine (e_aload_n (code := kL_law) (pc := 1438) rfl rfl).trans ?_
  exact (e_callV (σ := σ) (code := kL_law) (pc := 1439) (len := 3) (k := 113) (n := 1) (c := 19) (as := [.ref 100]) (st0 := []) rfl rfl rfl rfl rfl (sk_100 (σ := σ) h) rfl)
set_option maxRecDepth 30000 in
theorem b_L_law_1442 {C : aCall} {σ : aSt} {x4 y0 : Int32} {o5 o6 o7 : Option Value} (h : Sh σ) : b_R C kL_law [] (1442, [some (.ref 0), some (.ref 100), some (.ref 237), some (.ref 252), some (.int x4), o5, o6, o7, none], [.int y0], σ) = b_G C kL_law [] 1443 1446 [some (.ref 0), some (.ref 100), some (.ref 237), some (.ref 252), some (.int x4), o5, o6, o7, none] [.int y0] (C 197 [.ref 237] σ) := by
  refine (e_aload_n (code := kL_law) (pc := 1442) rfl rfl).trans ?_
  exact (e_callV (σ := σ) (code := kL_law) (pc := 1443) (len := 3) (k := 197) (n := 1) (c := 20) (as := [.ref 237]) (st0 := [.int y0]) rfl rfl rfl rfl rfl (sk_237 (σ := σ) h) rfl)
set_option maxRecDepth 30000 in
theorem b_L_law_1446 {C : aCall} {σ : aSt} {x4 y0 y1 : Int32} {o5 o6 o7 : Option Value} : b_R C kL_law [] (1446, [some (.ref 0), some (.ref 100), some (.ref 237), some (.ref 252), some (.int x4), o5, o6, o7, none], [.int y0, .int y1], σ) = (if y1 = y0 then b_R C kL_law [] (2385, [some (.ref 0), some (.ref 100), some (.ref 237), some (.ref 252), some (.int x4), o5, o6, o7, none], [], σ) else some (.inl (some (.int (nI 0))), σ)) := by
  refine (e_iceq (code := kL_law) (pc := 1446) rfl).trans ?_
  refine b_ite ?_ ?_
  · rfl
  · refine (e_iconst (code := kL_law) (pc := 1449) rfl).trans ?_
    exact (e_zreturn rfl).trans (b_gd_t (by decide))
set_option maxRecDepth 30000 in
theorem b_L_law_1451 {C : aCall} {σ : aSt} {x4 : Int32} {o5 o6 o7 : Option Value} (h : Sh σ) : b_R C kL_law [] (1451, [some (.ref 0), some (.ref 100), some (.ref 237), some (.ref 252), some (.int x4), o5, o6, o7, none], [], σ) = b_G C kL_law [] 1452 1455 [some (.ref 0), some (.ref 100), some (.ref 237), some (.ref 252), some (.int x4), o5, o6, o7, none] [] (C 114 [.ref 100] σ) := by
  refine (e_aload_n (code := kL_law) (pc := 1451) rfl rfl).trans ?_
  exact (e_callV (σ := σ) (code := kL_law) (pc := 1452) (len := 3) (k := 114) (n := 1) (c := 19) (as := [.ref 100]) (st0 := []) rfl rfl rfl rfl rfl (sk_100 (σ := σ) h) rfl)
set_option maxRecDepth 30000 in
theorem b_L_law_1455 {C : aCall} {σ : aSt} {x4 y0 : Int32} {o5 o6 o7 : Option Value} (h : Sh σ) : b_R C kL_law [] (1455, [some (.ref 0), some (.ref 100), some (.ref 237), some (.ref 252), some (.int x4), o5, o6, o7, none], [.int y0], σ) = b_G C kL_law [] 1456 1459 [some (.ref 0), some (.ref 100), some (.ref 237), some (.ref 252), some (.int x4), o5, o6, o7, none] [.int y0] (C 198 [.ref 237] σ) := by
  refine (e_aload_n (code := kL_law) (pc := 1455) rfl rfl).trans ?_
  exact (e_callV (σ := σ) (code := kL_law) (pc := 1456) (len := 3) (k := 198) (n := 1) (c := 20) (as := [.ref 237]) (st0 := [.int y0]) rfl rfl rfl rfl rfl (sk_237 (σ := σ) h) rfl)
set_option maxRecDepth 30000 in
theorem b_L_law_1459 {C : aCall} {σ : aSt} {x4 y0 y1 : Int32} {o5 o6 o7 : Option Value} : b_R C kL_law [] (1459, [some (.ref 0), some (.ref 100), some (.ref 237), some (.ref 252), some (.int x4), o5, o6, o7, none], [.int y0, .int y1], σ) = (if y1 = y0 then b_R C kL_law [] (2385, [some (.ref 0), some (.ref 100), some (.ref 237), some (.ref 252), some (.int x4), o5, o6, o7, none], [], σ) else some (.inl (some (.int (nI 0))), σ)) := by
  refine (e_iceq (code := kL_law) (pc := 1459) rfl).trans ?_
  refine b_ite ?_ ?_
  · rfl
  · refine (e_iconst (code := kL_law) (pc := 1462) rfl).trans ?_
    exact (e_zreturn rfl).trans (b_gd_t (by decide))
set_option maxRecDepth 30000 in
theorem b_L_law_1464 {C : aCall} {σ : aSt} {x4 : Int32} {o5 o6 o7 : Option Value} (h : Sh σ) : b_R C kL_law [] (1464, [some (.ref 0), some (.ref 100), some (.ref 237), some (.ref 252), some (.int x4), o5, o6, o7, none], [], σ) = b_G C kL_law [] 1465 1468 [some (.ref 0), some (.ref 100), some (.ref 237), some (.ref 252), some (.int x4), o5, o6, o7, none] [] (C 115 [.ref 100] σ) := by
  refine (e_aload_n (code := kL_law) (pc := 1464) rfl rfl).trans ?_
  exact (e_callV (σ := σ) (code := kL_law) (pc := 1465) (len := 3) (k := 115) (n := 1) (c := 19) (as := [.ref 100]) (st0 := []) rfl rfl rfl rfl rfl (sk_100 (σ := σ) h) rfl)
set_option maxRecDepth 30000 in
theorem b_L_law_1468 {C : aCall} {σ : aSt} {x4 y0 : Int32} {o5 o6 o7 : Option Value} (h : Sh σ) : b_R C kL_law [] (1468, [some (.ref 0), some (.ref 100), some (.ref 237), some (.ref 252), some (.int x4), o5, o6, o7, none], [.int y0], σ) = b_G C kL_law [] 1469 1472 [some (.ref 0), some (.ref 100), some (.ref 237), some (.ref 252), some (.int x4), o5, o6, o7, none] [.int y0] (C 199 [.ref 237] σ) := by
  refine (e_aload_n (code := kL_law) (pc := 1468) rfl rfl).trans ?_
  exact (e_callV (σ := σ) (code := kL_law) (pc := 1469) (len := 3) (k := 199) (n := 1) (c := 20) (as := [.ref 237]) (st0 := [.int y0]) rfl rfl rfl rfl rfl (sk_237 (σ := σ) h) rfl)
set_option maxRecDepth 30000 in
theorem b_L_law_1472 {C : aCall} {σ : aSt} {x4 y0 y1 : Int32} {o5 o6 o7 : Option Value} : b_R C kL_law [] (1472, [some (.ref 0), some (.ref 100), some (.ref 237), some (.ref 252), some (.int x4), o5, o6, o7, none], [.int y0, .int y1], σ) = (if y1 = y0 then b_R C kL_law [] (2385, [some (.ref 0), some (.ref 100), some (.ref 237), some (.ref 252), some (.int x4), o5, o6, o7, none], [], σ) else some (.inl (some (.int (nI 0))), σ)) := by
  refine (e_iceq (code := kL_law) (pc := 1472) rfl).trans ?_
  refine b_ite ?_ ?_
  · rfl
  · refine (e_iconst (code := kL_law) (pc := 1475) rfl).trans ?_
    exact (e_zreturn rfl).trans (b_gd_t (by decide))
set_option maxRecDepth 30000 in
theorem b_L_law_1477 {C : aCall} {σ : aSt} {n0 : Nat} {x4 : Int32} {o5 o6 o7 : Option Value} (hs : Sc σ n0) : b_R C kL_law [] (1477, [some (.ref 0), some (.ref 100), some (.ref 237), some (.ref 252), some (.int x4), o5, o6, o7, none], [], σ) = b_gd (a_in (x4 + (nI 1)) n0) (b_G C kL_law [] 1485 1488 [some (.ref 0), some (.ref 100), some (.ref 237), some (.ref 252), some (.int x4), o5, o6, o7, none] [] (C 286 [.ref 100, .int (a_I σ 0 (Int32.toNatClampNeg (x4 + (nI 1)))), .ref 252] σ)) := by
  refine (e_aload_n (code := kL_law) (pc := 1477) rfl rfl).trans ?_
  refine (e_aload_n (code := kL_law) (pc := 1478) rfl rfl).trans ?_
  refine (e_iload (code := kL_law) (pc := 1479) rfl rfl).trans ?_
  refine (e_iconst (code := kL_law) (pc := 1481) rfl).trans ?_
  refine (e_iadd (code := kL_law) (pc := 1482) rfl).trans ?_
  refine (e_iaload (code := kL_law) (pc := 1483) rfl (.inr hs.1) hs.2.1).trans ?_
  refine b_gd_c ?_
  refine (e_aload_n (code := kL_law) (pc := 1484) rfl rfl).trans ?_
  exact (e_callS (code := kL_law) (pc := 1485) (len := 3) (k := 286) (n := 3) (as := [.ref 100, .int (a_I σ 0 (Int32.toNatClampNeg (x4 + (nI 1)))), .ref 252]) (st0 := []) rfl rfl rfl rfl)
set_option maxRecDepth 30000 in
theorem b_L_law_1488 {C : aCall} {σ : aSt} {n0 : Nat} {x4 y0 : Int32} {o5 o6 o7 : Option Value} (h : Sh σ) (hs : Sc σ n0) : b_R C kL_law [] (1488, [some (.ref 0), some (.ref 100), some (.ref 237), some (.ref 252), some (.int x4), o5, o6, o7, none], [.int y0], σ) = b_gd (a_in (x4 + (nI 1)) n0) (b_G C kL_law [] 1497 1500 [some (.ref 0), some (.ref 100), some (.ref 237), some (.ref 252), some (.int x4), some (.int y0), o6, o7, none] [] (C 200 [.ref 237, .int (a_I σ 0 (Int32.toNatClampNeg (x4 + (nI 1))))] σ)) := by
  refine (e_istore (code := kL_law) (pc := 1488) rfl rfl rfl).trans ?_
  refine (e_aload_n (code := kL_law) (pc := 1490) rfl rfl).trans ?_
  refine (e_aload_n (code := kL_law) (pc := 1491) rfl rfl).trans ?_
  refine (e_iload (code := kL_law) (pc := 1492) rfl rfl).trans ?_
  refine (e_iconst (code := kL_law) (pc := 1494) rfl).trans ?_
  refine (e_iadd (code := kL_law) (pc := 1495) rfl).trans ?_
  refine (e_iaload (code := kL_law) (pc := 1496) rfl (.inr hs.1) hs.2.1).trans ?_
  refine b_gd_c ?_
  exact (e_callV (σ := σ) (code := kL_law) (pc := 1497) (len := 3) (k := 200) (n := 2) (c := 20) (as := [.ref 237, .int (a_I σ 0 (Int32.toNatClampNeg (x4 + (nI 1))))]) (st0 := []) rfl rfl rfl rfl rfl (sk_237 (σ := σ) h) rfl)
set_option maxRecDepth 30000 in
theorem b_L_law_1500 {C : aCall} {σ : aSt} {x4 x5 y0 : Int32} {o6 o7 : Option Value} (h : Sh σ) : b_R C kL_law [] (1500, [some (.ref 0), some (.ref 100), some (.ref 237), some (.ref 252), some (.int x4), some (.int x5), o6, o7, none], [.int y0], σ) = b_G C kL_law [] 1503 1506 [some (.ref 0), some (.ref 100), some (.ref 237), some (.ref 252), some (.int x4), some (.int x5), some (.int y0), o7, none] [] (C 145 [.ref 237] σ) := by
  refine (e_istore (code := kL_law) (pc := 1500) rfl rfl rfl).trans ?_
  refine (e_aload_n (code := kL_law) (pc := 1502) rfl rfl).trans ?_
  exact (e_callV (σ := σ) (code := kL_law) (pc := 1503) (len := 3) (k := 145) (n := 1) (c := 20) (as := [.ref 237]) (st0 := []) rfl rfl rfl rfl rfl (sk_237 (σ := σ) h) rfl)
set_option maxRecDepth 30000 in
theorem b_L_law_1506 {C : aCall} {σ : aSt} {x4 x5 x6 y0 : Int32} {o7 : Option Value} (h : Sh σ) : b_R C kL_law [] (1506, [some (.ref 0), some (.ref 100), some (.ref 237), some (.ref 252), some (.int x4), some (.int x5), some (.int x6), o7, none], [.int y0], σ) = (if y0 = x5 then (if x5 = 0 then b_gd (a_in (nI 0) 1) ((if (lg_cmp (a_L σ 252 (Int32.toNatClampNeg (nI 0))) (Int32.toInt64 x6)) = 0 then b_R C kL_law [] (1530, [some (.ref 0), some (.ref 100), some (.ref 237), some (.ref 252), some (.int x4), some (.int x5), some (.int x6), o7, none], [], σ) else some (.inl (some (.int (nI 0))), σ))) else b_R C kL_law [] (1530, [some (.ref 0), some (.ref 100), some (.ref 237), some (.ref 252), some (.int x4), some (.int x5), some (.int x6), o7, none], [], σ)) else some (.inl (some (.int (nI 0))), σ)) := by
  refine (e_iload (code := kL_law) (pc := 1506) rfl rfl).trans ?_
  refine (e_iceq (code := kL_law) (pc := 1508) rfl).trans ?_
  refine b_ite ?_ ?_
  · refine (e_iload (code := kL_law) (pc := 1513) rfl rfl).trans ?_
    refine (e_ifne (code := kL_law) (pc := 1515) rfl).trans ?_
    refine b_ite ?_ ?_
    · refine (e_aload_n (code := kL_law) (pc := 1518) rfl rfl).trans ?_
      refine (e_iconst (code := kL_law) (pc := 1519) rfl).trans ?_
      refine (e_laload (code := kL_law) (pc := 1520) rfl (sk_252 (σ := σ) h) (sl_252 (σ := σ) h)).trans ?_
      refine b_gd_c ?_
      refine (e_iload (code := kL_law) (pc := 1521) rfl rfl).trans ?_
      refine (e_i2l (code := kL_law) (pc := 1523) rfl).trans ?_
      refine (e_lcmp (code := kL_law) (pc := 1524) rfl).trans ?_
      refine (e_ifeq (code := kL_law) (pc := 1525) rfl).trans ?_
      refine b_ite ?_ ?_
      · rfl
      · refine (e_iconst (code := kL_law) (pc := 1528) rfl).trans ?_
        exact (e_zreturn rfl).trans (b_gd_t (by decide))
    · rfl
  · refine (e_iconst (code := kL_law) (pc := 1511) rfl).trans ?_
    exact (e_zreturn rfl).trans (b_gd_t (by decide))
set_option maxRecDepth 30000 in
theorem b_L_law_1530 {C : aCall} {σ : aSt} {x4 x5 x6 : Int32} {o7 : Option Value} : b_R C kL_law [] (1530, [some (.ref 0), some (.ref 100), some (.ref 237), some (.ref 252), some (.int x4), some (.int x5), some (.int x6), o7, none], [], σ) = b_R C kL_law [] (2385, [some (.ref 0), some (.ref 100), some (.ref 237), some (.ref 252), some (.int x4), some (.int x5), some (.int x6), o7, none], [], σ) := by
  refine (e_goto (code := kL_law) (pc := 1530) rfl).trans ?_
  rfl
set_option maxRecDepth 30000 in
theorem b_L_law_1533 {C : aCall} {σ : aSt} {x4 : Int32} {o5 o6 o7 : Option Value} (h : Sh σ) : b_R C kL_law [] (1533, [some (.ref 0), some (.ref 100), some (.ref 237), some (.ref 252), some (.int x4), o5, o6, o7, none], [], σ) = b_G C kL_law [] 1534 1537 [some (.ref 0), some (.ref 100), some (.ref 237), some (.ref 252), some (.int x4), o5, o6, o7, none] [] (C 117 [.ref 100] σ) := by
  refine (e_aload_n (code := kL_law) (pc := 1533) rfl rfl).trans ?_
  exact (e_callV (σ := σ) (code := kL_law) (pc := 1534) (len := 3) (k := 117) (n := 1) (c := 19) (as := [.ref 100]) (st0 := []) rfl rfl rfl rfl rfl (sk_100 (σ := σ) h) rfl)
set_option maxRecDepth 30000 in
theorem b_L_law_1537 {C : aCall} {σ : aSt} {x4 : Int32} {y0 : UInt64} {o5 o6 o7 : Option Value} (h : Sh σ) : b_R C kL_law [] (1537, [some (.ref 0), some (.ref 100), some (.ref 237), some (.ref 252), some (.int x4), o5, o6, o7, none], [.double y0], σ) = b_G C kL_law [] 1540 1543 [some (.ref 0), some (.ref 100), some (.ref 237), some (.ref 252), some (.int x4), some (.double y0), none, o7, none] [] (C 201 [.ref 237] σ) := by
  refine (e_dstore (code := kL_law) (pc := 1537) rfl rfl rfl).trans ?_
  refine (e_aload_n (code := kL_law) (pc := 1539) rfl rfl).trans ?_
  exact (e_callV (σ := σ) (code := kL_law) (pc := 1540) (len := 3) (k := 201) (n := 1) (c := 20) (as := [.ref 237]) (st0 := []) rfl rfl rfl rfl rfl (sk_237 (σ := σ) h) rfl)
set_option maxRecDepth 30000 in
theorem b_L_law_1543 {C : aCall} {σ : aSt} {x4 : Int32} {x5 y0 : UInt64} {o7 : Option Value} : b_R C kL_law [] (1543, [some (.ref 0), some (.ref 100), some (.ref 237), some (.ref 252), some (.int x4), some (.double x5), none, o7, none], [.double y0], σ) = (if (Op.cmpValue (FP.dcmp x5 y0) .l) = 0 then b_R C kL_law [] (1571, [some (.ref 0), some (.ref 100), some (.ref 237), some (.ref 252), some (.int x4), some (.double x5), none, some (.double y0), none], [], σ) else (if (Op.cmpValue (FP.dcmp x5 x5) .l) = 0 then b_R C kL_law [] (1569, [some (.ref 0), some (.ref 100), some (.ref 237), some (.ref 252), some (.int x4), some (.double x5), none, some (.double y0), none], [], σ) else (if (Op.cmpValue (FP.dcmp y0 y0) .l) = 0 then b_R C kL_law [] (1569, [some (.ref 0), some (.ref 100), some (.ref 237), some (.ref 252), some (.int x4), some (.double x5), none, some (.double y0), none], [], σ) else b_R C kL_law [] (1571, [some (.ref 0), some (.ref 100), some (.ref 237), some (.ref 252), some (.int x4), some (.double x5), none, some (.double y0), none], [], σ)))) := by
  refine (e_dstore (code := kL_law) (pc := 1543) rfl rfl rfl).trans ?_
  refine (e_dload (code := kL_law) (pc := 1545) rfl rfl).trans ?_
  refine (e_dload (code := kL_law) (pc := 1547) rfl rfl).trans ?_
  refine (e_dcmp (code := kL_law) (pc := 1549) rfl).trans ?_
  refine (e_ifeq (code := kL_law) (pc := 1550) rfl).trans ?_
  refine b_ite ?_ ?_
  · rfl
  · refine (e_dload (code := kL_law) (pc := 1553) rfl rfl).trans ?_
    refine (e_dload (code := kL_law) (pc := 1555) rfl rfl).trans ?_
    refine (e_dcmp (code := kL_law) (pc := 1557) rfl).trans ?_
    refine (e_ifeq (code := kL_law) (pc := 1558) rfl).trans ?_
    refine b_ite ?_ ?_
    · rfl
    · refine (e_dload (code := kL_law) (pc := 1561) rfl rfl).trans ?_
      refine (e_dload (code := kL_law) (pc := 1563) rfl rfl).trans ?_
      refine (e_dcmp (code := kL_law) (pc := 1565) rfl).trans ?_
      refine (e_ifne (code := kL_law) (pc := 1566) rfl).trans ?_
      refine b_ite ?_ ?_
      · rfl
      · rfl
set_option maxRecDepth 30000 in
theorem b_L_law_1569 {C : aCall} {σ : aSt} {x4 : Int32} {x5 x7 : UInt64} : b_R C kL_law [] (1569, [some (.ref 0), some (.ref 100), some (.ref 237), some (.ref 252), some (.int x4), some (.double x5), none, some (.double x7), none], [], σ) = some (.inl (some (.int (nI 0))), σ) := by
  refine (e_iconst (code := kL_law) (pc := 1569) rfl).trans ?_
  exact (e_zreturn rfl).trans (b_gd_t (by decide))
set_option maxRecDepth 30000 in
theorem b_L_law_1571 {C : aCall} {σ : aSt} {x4 : Int32} {x5 x7 : UInt64} : b_R C kL_law [] (1571, [some (.ref 0), some (.ref 100), some (.ref 237), some (.ref 252), some (.int x4), some (.double x5), none, some (.double x7), none], [], σ) = b_R C kL_law [] (2385, [some (.ref 0), some (.ref 100), some (.ref 237), some (.ref 252), some (.int x4), some (.double x5), none, some (.double x7), none], [], σ) := by
  refine (e_goto (code := kL_law) (pc := 1571) rfl).trans ?_
  rfl
set_option maxRecDepth 30000 in
theorem b_L_law_1574 {C : aCall} {σ : aSt} {x4 : Int32} {o5 o6 o7 : Option Value} (h : Sh σ) : b_R C kL_law [] (1574, [some (.ref 0), some (.ref 100), some (.ref 237), some (.ref 252), some (.int x4), o5, o6, o7, none], [], σ) = b_G C kL_law [] 1575 1578 [some (.ref 0), some (.ref 100), some (.ref 237), some (.ref 252), some (.int x4), o5, o6, o7, none] [] (C 118 [.ref 100] σ) := by
  refine (e_aload_n (code := kL_law) (pc := 1574) rfl rfl).trans ?_
  exact (e_callV (σ := σ) (code := kL_law) (pc := 1575) (len := 3) (k := 118) (n := 1) (c := 19) (as := [.ref 100]) (st0 := []) rfl rfl rfl rfl rfl (sk_100 (σ := σ) h) rfl)
set_option maxRecDepth 30000 in
theorem b_L_law_1578 {C : aCall} {σ : aSt} {x4 : Int32} {y0 : UInt32} {o5 o6 o7 : Option Value} (h : Sh σ) : b_R C kL_law [] (1578, [some (.ref 0), some (.ref 100), some (.ref 237), some (.ref 252), some (.int x4), o5, o6, o7, none], [.float y0], σ) = b_gd (FP.f2d y0 &&& 0x7fffffffffffffff ≤ 0x7ff0000000000000) (b_G C kL_law [] 1582 1585 [some (.ref 0), some (.ref 100), some (.ref 237), some (.ref 252), some (.int x4), some (.double (FP.f2d y0)), none, o7, none] [] (C 202 [.ref 237] σ)) := by
  refine (e_f2d (code := kL_law) (pc := 1578) rfl).trans ?_
  refine b_gd_c ?_
  refine (e_dstore (code := kL_law) (pc := 1579) rfl rfl rfl).trans ?_
  refine (e_aload_n (code := kL_law) (pc := 1581) rfl rfl).trans ?_
  exact (e_callV (σ := σ) (code := kL_law) (pc := 1582) (len := 3) (k := 202) (n := 1) (c := 20) (as := [.ref 237]) (st0 := []) rfl rfl rfl rfl rfl (sk_237 (σ := σ) h) rfl)
set_option maxRecDepth 30000 in
theorem b_L_law_1585 {C : aCall} {σ : aSt} {x4 : Int32} {x5 : UInt64} {y0 : UInt32} {o7 : Option Value} : b_R C kL_law [] (1585, [some (.ref 0), some (.ref 100), some (.ref 237), some (.ref 252), some (.int x4), some (.double x5), none, o7, none], [.float y0], σ) = b_gd (FP.f2d y0 &&& 0x7fffffffffffffff ≤ 0x7ff0000000000000) ((if (Op.cmpValue (FP.dcmp x5 (FP.f2d y0)) .l) = 0 then b_R C kL_law [] (1614, [some (.ref 0), some (.ref 100), some (.ref 237), some (.ref 252), some (.int x4), some (.double x5), none, some (.double (FP.f2d y0)), none], [], σ) else (if (Op.cmpValue (FP.dcmp x5 x5) .l) = 0 then b_R C kL_law [] (1612, [some (.ref 0), some (.ref 100), some (.ref 237), some (.ref 252), some (.int x4), some (.double x5), none, some (.double (FP.f2d y0)), none], [], σ) else (if (Op.cmpValue (FP.dcmp (FP.f2d y0) (FP.f2d y0)) .l) = 0 then b_R C kL_law [] (1612, [some (.ref 0), some (.ref 100), some (.ref 237), some (.ref 252), some (.int x4), some (.double x5), none, some (.double (FP.f2d y0)), none], [], σ) else b_R C kL_law [] (1614, [some (.ref 0), some (.ref 100), some (.ref 237), some (.ref 252), some (.int x4), some (.double x5), none, some (.double (FP.f2d y0)), none], [], σ))))) := by
  refine (e_f2d (code := kL_law) (pc := 1585) rfl).trans ?_
  refine b_gd_c ?_
  refine (e_dstore (code := kL_law) (pc := 1586) rfl rfl rfl).trans ?_
  refine (e_dload (code := kL_law) (pc := 1588) rfl rfl).trans ?_
  refine (e_dload (code := kL_law) (pc := 1590) rfl rfl).trans ?_
  refine (e_dcmp (code := kL_law) (pc := 1592) rfl).trans ?_
  refine (e_ifeq (code := kL_law) (pc := 1593) rfl).trans ?_
  refine b_ite ?_ ?_
  · rfl
  · refine (e_dload (code := kL_law) (pc := 1596) rfl rfl).trans ?_
    refine (e_dload (code := kL_law) (pc := 1598) rfl rfl).trans ?_
    refine (e_dcmp (code := kL_law) (pc := 1600) rfl).trans ?_
    refine (e_ifeq (code := kL_law) (pc := 1601) rfl).trans ?_
    refine b_ite ?_ ?_
    · rfl
    · refine (e_dload (code := kL_law) (pc := 1604) rfl rfl).trans ?_
      refine (e_dload (code := kL_law) (pc := 1606) rfl rfl).trans ?_
      refine (e_dcmp (code := kL_law) (pc := 1608) rfl).trans ?_
      refine (e_ifne (code := kL_law) (pc := 1609) rfl).trans ?_
      refine b_ite ?_ ?_
      · rfl
      · rfl
set_option maxRecDepth 30000 in
theorem b_L_law_1612 {C : aCall} {σ : aSt} {x4 : Int32} {x5 x7 : UInt64} : b_R C kL_law [] (1612, [some (.ref 0), some (.ref 100), some (.ref 237), some (.ref 252), some (.int x4), some (.double x5), none, some (.double x7), none], [], σ) = some (.inl (some (.int (nI 0))), σ) := by
  refine (e_iconst (code := kL_law) (pc := 1612) rfl).trans ?_
  exact (e_zreturn rfl).trans (b_gd_t (by decide))
set_option maxRecDepth 30000 in
theorem b_L_law_1614 {C : aCall} {σ : aSt} {x4 : Int32} {x5 x7 : UInt64} : b_R C kL_law [] (1614, [some (.ref 0), some (.ref 100), some (.ref 237), some (.ref 252), some (.int x4), some (.double x5), none, some (.double x7), none], [], σ) = b_R C kL_law [] (2385, [some (.ref 0), some (.ref 100), some (.ref 237), some (.ref 252), some (.int x4), some (.double x5), none, some (.double x7), none], [], σ) := by
  refine (e_goto (code := kL_law) (pc := 1614) rfl).trans ?_
  rfl
set_option maxRecDepth 30000 in
theorem b_L_law_1617 {C : aCall} {σ : aSt} {n0 : Nat} {x4 : Int32} {o5 o6 o7 : Option Value} (hs : Sc σ n0) : b_R C kL_law [] (1617, [some (.ref 0), some (.ref 100), some (.ref 237), some (.ref 252), some (.int x4), o5, o6, o7, none], [], σ) = b_gd (a_in (x4 + (nI 1)) n0) (b_G C kL_law [] 1625 1628 [some (.ref 0), some (.ref 100), some (.ref 237), some (.ref 252), some (.int x4), o5, o6, o7, none] [] (C 287 [.ref 100, .int (a_I σ 0 (Int32.toNatClampNeg (x4 + (nI 1)))), .ref 252] σ)) := by
  refine (e_aload_n (code := kL_law) (pc := 1617) rfl rfl).trans ?_
  refine (e_aload_n (code := kL_law) (pc := 1618) rfl rfl).trans ?_
  refine (e_iload (code := kL_law) (pc := 1619) rfl rfl).trans ?_
  refine (e_iconst (code := kL_law) (pc := 1621) rfl).trans ?_
  refine (e_iadd (code := kL_law) (pc := 1622) rfl).trans ?_
  refine (e_iaload (code := kL_law) (pc := 1623) rfl (.inr hs.1) hs.2.1).trans ?_
  refine b_gd_c ?_
  refine (e_aload_n (code := kL_law) (pc := 1624) rfl rfl).trans ?_
  exact (e_callS (code := kL_law) (pc := 1625) (len := 3) (k := 287) (n := 3) (as := [.ref 100, .int (a_I σ 0 (Int32.toNatClampNeg (x4 + (nI 1)))), .ref 252]) (st0 := []) rfl rfl rfl rfl)
set_option maxRecDepth 30000 in
theorem b_L_law_1628 {C : aCall} {σ : aSt} {n0 : Nat} {x4 y0 : Int32} {o5 o6 o7 : Option Value} (h : Sh σ) (hs : Sc σ n0) : b_R C kL_law [] (1628, [some (.ref 0), some (.ref 100), some (.ref 237), some (.ref 252), some (.int x4), o5, o6, o7, none], [.int y0], σ) = b_gd (a_in (x4 + (nI 1)) n0) (b_G C kL_law [] 1637 1640 [some (.ref 0), some (.ref 100), some (.ref 237), some (.ref 252), some (.int x4), some (.int y0), o6, o7, none] [] (C 258 [.ref 237, .int (a_I σ 0 (Int32.toNatClampNeg (x4 + (nI 1))))] σ)) := by
  refine (e_istore (code := kL_law) (pc := 1628) rfl rfl rfl).trans ?_
  refine (e_aload_n (code := kL_law) (pc := 1630) rfl rfl).trans ?_
  refine (e_aload_n (code := kL_law) (pc := 1631) rfl rfl).trans ?_
  refine (e_iload (code := kL_law) (pc := 1632) rfl rfl).trans ?_
  refine (e_iconst (code := kL_law) (pc := 1634) rfl).trans ?_
  refine (e_iadd (code := kL_law) (pc := 1635) rfl).trans ?_
  refine (e_iaload (code := kL_law) (pc := 1636) rfl (.inr hs.1) hs.2.1).trans ?_
  refine b_gd_c ?_
  exact (e_callV (σ := σ) (code := kL_law) (pc := 1637) (len := 3) (k := 258) (n := 2) (c := 20) (as := [.ref 237, .int (a_I σ 0 (Int32.toNatClampNeg (x4 + (nI 1))))]) (st0 := []) rfl rfl rfl rfl rfl (sk_237 (σ := σ) h) rfl)
set_option maxRecDepth 30000 in
theorem b_L_law_1640 {C : aCall} {σ : aSt} {x4 x5 y0 : Int32} {o6 o7 : Option Value} (h : Sh σ) : b_R C kL_law [] (1640, [some (.ref 0), some (.ref 100), some (.ref 237), some (.ref 252), some (.int x4), some (.int x5), o6, o7, none], [.int y0], σ) = b_G C kL_law [] 1643 1646 [some (.ref 0), some (.ref 100), some (.ref 237), some (.ref 252), some (.int x4), some (.int x5), some (.int y0), o7, none] [] (C 145 [.ref 237] σ) := by
  refine (e_istore (code := kL_law) (pc := 1640) rfl rfl rfl).trans ?_
  refine (e_aload_n (code := kL_law) (pc := 1642) rfl rfl).trans ?_
  exact (e_callV (σ := σ) (code := kL_law) (pc := 1643) (len := 3) (k := 145) (n := 1) (c := 20) (as := [.ref 237]) (st0 := []) rfl rfl rfl rfl rfl (sk_237 (σ := σ) h) rfl)
set_option maxRecDepth 30000 in
theorem b_L_law_1646 {C : aCall} {σ : aSt} {x4 x5 x6 y0 : Int32} {o7 : Option Value} (h : Sh σ) : b_R C kL_law [] (1646, [some (.ref 0), some (.ref 100), some (.ref 237), some (.ref 252), some (.int x4), some (.int x5), some (.int x6), o7, none], [.int y0], σ) = (if y0 = x5 then (if x5 = 0 then b_gd (a_in (nI 0) 1) ((if (lg_cmp (a_L σ 252 (Int32.toNatClampNeg (nI 0))) (Int32.toInt64 x6)) = 0 then b_R C kL_law [] (1670, [some (.ref 0), some (.ref 100), some (.ref 237), some (.ref 252), some (.int x4), some (.int x5), some (.int x6), o7, none], [], σ) else some (.inl (some (.int (nI 0))), σ))) else b_R C kL_law [] (1670, [some (.ref 0), some (.ref 100), some (.ref 237), some (.ref 252), some (.int x4), some (.int x5), some (.int x6), o7, none], [], σ)) else some (.inl (some (.int (nI 0))), σ)) := by
  refine (e_iload (code := kL_law) (pc := 1646) rfl rfl).trans ?_
  refine (e_iceq (code := kL_law) (pc := 1648) rfl).trans ?_
  refine b_ite ?_ ?_
  · refine (e_iload (code := kL_law) (pc := 1653) rfl rfl).trans ?_
    refine (e_ifne (code := kL_law) (pc := 1655) rfl).trans ?_
    refine b_ite ?_ ?_
    · refine (e_aload_n (code := kL_law) (pc := 1658) rfl rfl).trans ?_
      refine (e_iconst (code := kL_law) (pc := 1659) rfl).trans ?_
      refine (e_laload (code := kL_law) (pc := 1660) rfl (sk_252 (σ := σ) h) (sl_252 (σ := σ) h)).trans ?_
      refine b_gd_c ?_
      refine (e_iload (code := kL_law) (pc := 1661) rfl rfl).trans ?_
      refine (e_i2l (code := kL_law) (pc := 1663) rfl).trans ?_
      refine (e_lcmp (code := kL_law) (pc := 1664) rfl).trans ?_
      refine (e_ifeq (code := kL_law) (pc := 1665) rfl).trans ?_
      refine b_ite ?_ ?_
      · rfl
      · refine (e_iconst (code := kL_law) (pc := 1668) rfl).trans ?_
        exact (e_zreturn rfl).trans (b_gd_t (by decide))
    · rfl
  · refine (e_iconst (code := kL_law) (pc := 1651) rfl).trans ?_
    exact (e_zreturn rfl).trans (b_gd_t (by decide))
set_option maxRecDepth 30000 in
theorem b_L_law_1670 {C : aCall} {σ : aSt} {x4 x5 x6 : Int32} {o7 : Option Value} : b_R C kL_law [] (1670, [some (.ref 0), some (.ref 100), some (.ref 237), some (.ref 252), some (.int x4), some (.int x5), some (.int x6), o7, none], [], σ) = b_R C kL_law [] (2385, [some (.ref 0), some (.ref 100), some (.ref 237), some (.ref 252), some (.int x4), some (.int x5), some (.int x6), o7, none], [], σ) := by
  refine (e_goto (code := kL_law) (pc := 1670) rfl).trans ?_
  rfl
set_option maxRecDepth 30000 in
theorem b_L_law_1673 {C : aCall} {σ : aSt} {n0 : Nat} {x4 : Int32} {o5 o6 o7 : Option Value} (hs : Sc σ n0) : b_R C kL_law [] (1673, [some (.ref 0), some (.ref 100), some (.ref 237), some (.ref 252), some (.int x4), o5, o6, o7, none], [], σ) = b_gd (a_in (x4 + (nI 1)) n0) (b_G C kL_law [] 1681 1684 [some (.ref 0), some (.ref 100), some (.ref 237), some (.ref 252), some (.int x4), o5, o6, o7, none] [] (C 288 [.ref 100, .int (a_I σ 0 (Int32.toNatClampNeg (x4 + (nI 1)))), .ref 252] σ)) := by
  refine (e_aload_n (code := kL_law) (pc := 1673) rfl rfl).trans ?_
  refine (e_aload_n (code := kL_law) (pc := 1674) rfl rfl).trans ?_
  refine (e_iload (code := kL_law) (pc := 1675) rfl rfl).trans ?_
  refine (e_iconst (code := kL_law) (pc := 1677) rfl).trans ?_
  refine (e_iadd (code := kL_law) (pc := 1678) rfl).trans ?_
  refine (e_iaload (code := kL_law) (pc := 1679) rfl (.inr hs.1) hs.2.1).trans ?_
  refine b_gd_c ?_
  refine (e_aload_n (code := kL_law) (pc := 1680) rfl rfl).trans ?_
  exact (e_callS (code := kL_law) (pc := 1681) (len := 3) (k := 288) (n := 3) (as := [.ref 100, .int (a_I σ 0 (Int32.toNatClampNeg (x4 + (nI 1)))), .ref 252]) (st0 := []) rfl rfl rfl rfl)
set_option maxRecDepth 30000 in
theorem b_L_law_1684 {C : aCall} {σ : aSt} {n0 : Nat} {x4 y0 : Int32} {o5 o6 o7 : Option Value} (h : Sh σ) (hs : Sc σ n0) : b_R C kL_law [] (1684, [some (.ref 0), some (.ref 100), some (.ref 237), some (.ref 252), some (.int x4), o5, o6, o7, none], [.int y0], σ) = b_gd (a_in (x4 + (nI 1)) n0) (b_G C kL_law [] 1693 1696 [some (.ref 0), some (.ref 100), some (.ref 237), some (.ref 252), some (.int x4), some (.int y0), o6, o7, none] [] (C 203 [.ref 237, .int (a_I σ 0 (Int32.toNatClampNeg (x4 + (nI 1))))] σ)) := by
  refine (e_istore (code := kL_law) (pc := 1684) rfl rfl rfl).trans ?_
  refine (e_aload_n (code := kL_law) (pc := 1686) rfl rfl).trans ?_
  refine (e_aload_n (code := kL_law) (pc := 1687) rfl rfl).trans ?_
  refine (e_iload (code := kL_law) (pc := 1688) rfl rfl).trans ?_
  refine (e_iconst (code := kL_law) (pc := 1690) rfl).trans ?_
  refine (e_iadd (code := kL_law) (pc := 1691) rfl).trans ?_
  refine (e_iaload (code := kL_law) (pc := 1692) rfl (.inr hs.1) hs.2.1).trans ?_
  refine b_gd_c ?_
  exact (e_callV (σ := σ) (code := kL_law) (pc := 1693) (len := 3) (k := 203) (n := 2) (c := 20) (as := [.ref 237, .int (a_I σ 0 (Int32.toNatClampNeg (x4 + (nI 1))))]) (st0 := []) rfl rfl rfl rfl rfl (sk_237 (σ := σ) h) rfl)
set_option maxRecDepth 30000 in
theorem b_L_law_1696 {C : aCall} {σ : aSt} {x4 x5 y0 : Int32} {o6 o7 : Option Value} (h : Sh σ) : b_R C kL_law [] (1696, [some (.ref 0), some (.ref 100), some (.ref 237), some (.ref 252), some (.int x4), some (.int x5), o6, o7, none], [.int y0], σ) = b_G C kL_law [] 1699 1702 [some (.ref 0), some (.ref 100), some (.ref 237), some (.ref 252), some (.int x4), some (.int x5), some (.int y0), o7, none] [] (C 145 [.ref 237] σ) := by
  refine (e_istore (code := kL_law) (pc := 1696) rfl rfl rfl).trans ?_
  refine (e_aload_n (code := kL_law) (pc := 1698) rfl rfl).trans ?_
  exact (e_callV (σ := σ) (code := kL_law) (pc := 1699) (len := 3) (k := 145) (n := 1) (c := 20) (as := [.ref 237]) (st0 := []) rfl rfl rfl rfl rfl (sk_237 (σ := σ) h) rfl)
set_option maxRecDepth 30000 in
theorem b_L_law_1702 {C : aCall} {σ : aSt} {x4 x5 x6 y0 : Int32} {o7 : Option Value} (h : Sh σ) : b_R C kL_law [] (1702, [some (.ref 0), some (.ref 100), some (.ref 237), some (.ref 252), some (.int x4), some (.int x5), some (.int x6), o7, none], [.int y0], σ) = (if y0 = x5 then (if x5 = 0 then b_gd (a_in (nI 0) 1) ((if (lg_cmp (a_L σ 252 (Int32.toNatClampNeg (nI 0))) (Int32.toInt64 x6)) = 0 then b_R C kL_law [] (1726, [some (.ref 0), some (.ref 100), some (.ref 237), some (.ref 252), some (.int x4), some (.int x5), some (.int x6), o7, none], [], σ) else some (.inl (some (.int (nI 0))), σ))) else b_R C kL_law [] (1726, [some (.ref 0), some (.ref 100), some (.ref 237), some (.ref 252), some (.int x4), some (.int x5), some (.int x6), o7, none], [], σ)) else some (.inl (some (.int (nI 0))), σ)) := by
  refine (e_iload (code := kL_law) (pc := 1702) rfl rfl).trans ?_
  refine (e_iceq (code := kL_law) (pc := 1704) rfl).trans ?_
  refine b_ite ?_ ?_
  · refine (e_iload (code := kL_law) (pc := 1709) rfl rfl).trans ?_
    refine (e_ifne (code := kL_law) (pc := 1711) rfl).trans ?_
    refine b_ite ?_ ?_
    · refine (e_aload_n (code := kL_law) (pc := 1714) rfl rfl).trans ?_
      refine (e_iconst (code := kL_law) (pc := 1715) rfl).trans ?_
      refine (e_laload (code := kL_law) (pc := 1716) rfl (sk_252 (σ := σ) h) (sl_252 (σ := σ) h)).trans ?_
      refine b_gd_c ?_
      refine (e_iload (code := kL_law) (pc := 1717) rfl rfl).trans ?_
      refine (e_i2l (code := kL_law) (pc := 1719) rfl).trans ?_
      refine (e_lcmp (code := kL_law) (pc := 1720) rfl).trans ?_
      refine (e_ifeq (code := kL_law) (pc := 1721) rfl).trans ?_
      refine b_ite ?_ ?_
      · rfl
      · refine (e_iconst (code := kL_law) (pc := 1724) rfl).trans ?_
        exact (e_zreturn rfl).trans (b_gd_t (by decide))
    · rfl
  · refine (e_iconst (code := kL_law) (pc := 1707) rfl).trans ?_
    exact (e_zreturn rfl).trans (b_gd_t (by decide))
set_option maxRecDepth 30000 in
theorem b_L_law_1726 {C : aCall} {σ : aSt} {x4 x5 x6 : Int32} {o7 : Option Value} : b_R C kL_law [] (1726, [some (.ref 0), some (.ref 100), some (.ref 237), some (.ref 252), some (.int x4), some (.int x5), some (.int x6), o7, none], [], σ) = b_R C kL_law [] (2385, [some (.ref 0), some (.ref 100), some (.ref 237), some (.ref 252), some (.int x4), some (.int x5), some (.int x6), o7, none], [], σ) := by
  refine (e_goto (code := kL_law) (pc := 1726) rfl).trans ?_
  rfl
set_option maxRecDepth 30000 in
theorem b_L_law_1729 {C : aCall} {σ : aSt} {n0 : Nat} {x4 : Int32} {o5 o6 o7 : Option Value} (hs : Sc σ n0) : b_R C kL_law [] (1729, [some (.ref 0), some (.ref 100), some (.ref 237), some (.ref 252), some (.int x4), o5, o6, o7, none], [], σ) = b_gd (a_in (x4 + (nI 1)) n0) (b_gd (a_in (x4 + (nI 2)) n0) ((if (a_I σ 0 (Int32.toNatClampNeg (x4 + (nI 2)))) = 0 then b_R C kL_law [] (1750, [some (.ref 0), some (.ref 100), some (.ref 237), some (.ref 252), some (.int x4), o5, o6, o7, none], [.int (nI 0), .int (a_I σ 0 (Int32.toNatClampNeg (x4 + (nI 1)))), .ref 100], σ) else b_R C kL_law [] (1750, [some (.ref 0), some (.ref 100), some (.ref 237), some (.ref 252), some (.int x4), o5, o6, o7, none], [.int (nI 1), .int (a_I σ 0 (Int32.toNatClampNeg (x4 + (nI 1)))), .ref 100], σ)))) := by
  refine (e_aload_n (code := kL_law) (pc := 1729) rfl rfl).trans ?_
  refine (e_aload_n (code := kL_law) (pc := 1730) rfl rfl).trans ?_
  refine (e_iload (code := kL_law) (pc := 1731) rfl rfl).trans ?_
  refine (e_iconst (code := kL_law) (pc := 1733) rfl).trans ?_
  refine (e_iadd (code := kL_law) (pc := 1734) rfl).trans ?_
  refine (e_iaload (code := kL_law) (pc := 1735) rfl (.inr hs.1) hs.2.1).trans ?_
  refine b_gd_c ?_
  refine (e_aload_n (code := kL_law) (pc := 1736) rfl rfl).trans ?_
  refine (e_iload (code := kL_law) (pc := 1737) rfl rfl).trans ?_
  refine (e_iconst (code := kL_law) (pc := 1739) rfl).trans ?_
  refine (e_iadd (code := kL_law) (pc := 1740) rfl).trans ?_
  refine (e_iaload (code := kL_law) (pc := 1741) rfl (.inr hs.1) hs.2.1).trans ?_
  refine b_gd_c ?_
  refine (e_ifeq (code := kL_law) (pc := 1742) rfl).trans ?_
  refine b_ite ?_ ?_
  · refine (e_iconst (code := kL_law) (pc := 1749) rfl).trans ?_
    rfl
  · refine (e_iconst (code := kL_law) (pc := 1745) rfl).trans ?_
    refine (e_goto (code := kL_law) (pc := 1746) rfl).trans ?_
    rfl
set_option maxRecDepth 30000 in
theorem b_L_law_1750 {C : aCall} {σ : aSt} {x4 y0 y1 : Int32} {o5 o6 o7 : Option Value} : b_R C kL_law [] (1750, [some (.ref 0), some (.ref 100), some (.ref 237), some (.ref 252), some (.int x4), o5, o6, o7, none], [.int y0, .int y1, .ref 100], σ) = b_G C kL_law [] 1751 1754 [some (.ref 0), some (.ref 100), some (.ref 237), some (.ref 252), some (.int x4), o5, o6, o7, none] [] (C 289 [.ref 100, .int y1, .int y0, .ref 252] σ) := by
  refine (e_aload_n (code := kL_law) (pc := 1750) rfl rfl).trans ?_
  exact (e_callS (code := kL_law) (pc := 1751) (len := 3) (k := 289) (n := 4) (as := [.ref 100, .int y1, .int y0, .ref 252]) (st0 := []) rfl rfl rfl rfl)
set_option maxRecDepth 30000 in
theorem b_L_law_1754 {C : aCall} {σ : aSt} {n0 : Nat} {x4 y0 : Int32} {o5 o6 o7 : Option Value} (hs : Sc σ n0) : b_R C kL_law [] (1754, [some (.ref 0), some (.ref 100), some (.ref 237), some (.ref 252), some (.int x4), o5, o6, o7, none], [.int y0], σ) = b_gd (a_in (x4 + (nI 1)) n0) (b_gd (a_in (x4 + (nI 2)) n0) ((if (a_I σ 0 (Int32.toNatClampNeg (x4 + (nI 2)))) = 0 then b_R C kL_law [] (1777, [some (.ref 0), some (.ref 100), some (.ref 237), some (.ref 252), some (.int x4), some (.int y0), o6, o7, none], [.int (nI 0), .int (a_I σ 0 (Int32.toNatClampNeg (x4 + (nI 1)))), .ref 237], σ) else b_R C kL_law [] (1777, [some (.ref 0), some (.ref 100), some (.ref 237), some (.ref 252), some (.int x4), some (.int y0), o6, o7, none], [.int (nI 1), .int (a_I σ 0 (Int32.toNatClampNeg (x4 + (nI 1)))), .ref 237], σ)))) := by
  refine (e_istore (code := kL_law) (pc := 1754) rfl rfl rfl).trans ?_
  refine (e_aload_n (code := kL_law) (pc := 1756) rfl rfl).trans ?_
  refine (e_aload_n (code := kL_law) (pc := 1757) rfl rfl).trans ?_
  refine (e_iload (code := kL_law) (pc := 1758) rfl rfl).trans ?_
  refine (e_iconst (code := kL_law) (pc := 1760) rfl).trans ?_
  refine (e_iadd (code := kL_law) (pc := 1761) rfl).trans ?_
  refine (e_iaload (code := kL_law) (pc := 1762) rfl (.inr hs.1) hs.2.1).trans ?_
  refine b_gd_c ?_
  refine (e_aload_n (code := kL_law) (pc := 1763) rfl rfl).trans ?_
  refine (e_iload (code := kL_law) (pc := 1764) rfl rfl).trans ?_
  refine (e_iconst (code := kL_law) (pc := 1766) rfl).trans ?_
  refine (e_iadd (code := kL_law) (pc := 1767) rfl).trans ?_
  refine (e_iaload (code := kL_law) (pc := 1768) rfl (.inr hs.1) hs.2.1).trans ?_
  refine b_gd_c ?_
  refine (e_ifeq (code := kL_law) (pc := 1769) rfl).trans ?_
  refine b_ite ?_ ?_
  · refine (e_iconst (code := kL_law) (pc := 1776) rfl).trans ?_
    rfl
  · refine (e_iconst (code := kL_law) (pc := 1772) rfl).trans ?_
    refine (e_goto (code := kL_law) (pc := 1773) rfl).trans ?_
    rfl
set_option maxRecDepth 30000 in
theorem b_L_law_1777 {C : aCall} {σ : aSt} {x4 x5 y0 y1 : Int32} {o6 o7 : Option Value} (h : Sh σ) : b_R C kL_law [] (1777, [some (.ref 0), some (.ref 100), some (.ref 237), some (.ref 252), some (.int x4), some (.int x5), o6, o7, none], [.int y0, .int y1, .ref 237], σ) = b_G C kL_law [] 1777 1780 [some (.ref 0), some (.ref 100), some (.ref 237), some (.ref 252), some (.int x4), some (.int x5), o6, o7, none] [] (C 204 [.ref 237, .int y1, .int y0] σ) := by
  exact (e_callV (σ := σ) (code := kL_law) (pc := 1777) (len := 3) (k := 204) (n := 3) (c := 20) (as := [.ref 237, .int y1, .int y0]) (st0 := []) rfl rfl rfl rfl rfl (sk_237 (σ := σ) h) rfl)
set_option maxRecDepth 30000 in
theorem b_L_law_1780 {C : aCall} {σ : aSt} {x4 x5 y0 : Int32} {o6 o7 : Option Value} (h : Sh σ) : b_R C kL_law [] (1780, [some (.ref 0), some (.ref 100), some (.ref 237), some (.ref 252), some (.int x4), some (.int x5), o6, o7, none], [.int y0], σ) = b_G C kL_law [] 1783 1786 [some (.ref 0), some (.ref 100), some (.ref 237), some (.ref 252), some (.int x4), some (.int x5), some (.int y0), o7, none] [] (C 145 [.ref 237] σ) := by
  refine (e_istore (code := kL_law) (pc := 1780) rfl rfl rfl).trans ?_
  refine (e_aload_n (code := kL_law) (pc := 1782) rfl rfl).trans ?_
  exact (e_callV (σ := σ) (code := kL_law) (pc := 1783) (len := 3) (k := 145) (n := 1) (c := 20) (as := [.ref 237]) (st0 := []) rfl rfl rfl rfl rfl (sk_237 (σ := σ) h) rfl)
set_option maxRecDepth 30000 in
theorem b_L_law_1786 {C : aCall} {σ : aSt} {x4 x5 x6 y0 : Int32} {o7 : Option Value} (h : Sh σ) : b_R C kL_law [] (1786, [some (.ref 0), some (.ref 100), some (.ref 237), some (.ref 252), some (.int x4), some (.int x5), some (.int x6), o7, none], [.int y0], σ) = (if y0 = x5 then (if x5 = 0 then b_gd (a_in (nI 0) 1) ((if (lg_cmp (a_L σ 252 (Int32.toNatClampNeg (nI 0))) (Int32.toInt64 x6)) = 0 then b_R C kL_law [] (1810, [some (.ref 0), some (.ref 100), some (.ref 237), some (.ref 252), some (.int x4), some (.int x5), some (.int x6), o7, none], [], σ) else some (.inl (some (.int (nI 0))), σ))) else b_R C kL_law [] (1810, [some (.ref 0), some (.ref 100), some (.ref 237), some (.ref 252), some (.int x4), some (.int x5), some (.int x6), o7, none], [], σ)) else some (.inl (some (.int (nI 0))), σ)) := by
  refine (e_iload (code := kL_law) (pc := 1786) rfl rfl).trans ?_
  refine (e_iceq (code := kL_law) (pc := 1788) rfl).trans ?_
  refine b_ite ?_ ?_
  · refine (e_iload (code := kL_law) (pc := 1793) rfl rfl).trans ?_
    refine (e_ifne (code := kL_law) (pc := 1795) rfl).trans ?_
    refine b_ite ?_ ?_
    · refine (e_aload_n (code := kL_law) (pc := 1798) rfl rfl).trans ?_
      refine (e_iconst (code := kL_law) (pc := 1799) rfl).trans ?_
      refine (e_laload (code := kL_law) (pc := 1800) rfl (sk_252 (σ := σ) h) (sl_252 (σ := σ) h)).trans ?_
      refine b_gd_c ?_
      refine (e_iload (code := kL_law) (pc := 1801) rfl rfl).trans ?_
      refine (e_i2l (code := kL_law) (pc := 1803) rfl).trans ?_
      refine (e_lcmp (code := kL_law) (pc := 1804) rfl).trans ?_
      refine (e_ifeq (code := kL_law) (pc := 1805) rfl).trans ?_
      refine b_ite ?_ ?_
      · rfl
      · refine (e_iconst (code := kL_law) (pc := 1808) rfl).trans ?_
        exact (e_zreturn rfl).trans (b_gd_t (by decide))
    · rfl
  · refine (e_iconst (code := kL_law) (pc := 1791) rfl).trans ?_
    exact (e_zreturn rfl).trans (b_gd_t (by decide))
set_option maxRecDepth 30000 in
theorem b_L_law_1810 {C : aCall} {σ : aSt} {x4 x5 x6 : Int32} {o7 : Option Value} : b_R C kL_law [] (1810, [some (.ref 0), some (.ref 100), some (.ref 237), some (.ref 252), some (.int x4), some (.int x5), some (.int x6), o7, none], [], σ) = b_R C kL_law [] (2385, [some (.ref 0), some (.ref 100), some (.ref 237), some (.ref 252), some (.int x4), some (.int x5), some (.int x6), o7, none], [], σ) := by
  refine (e_goto (code := kL_law) (pc := 1810) rfl).trans ?_
  rfl
set_option maxRecDepth 30000 in
theorem b_L_law_1813 {C : aCall} {σ : aSt} {n0 : Nat} {x4 : Int32} {o5 o6 o7 : Option Value} (hs : Sc σ n0) : b_R C kL_law [] (1813, [some (.ref 0), some (.ref 100), some (.ref 237), some (.ref 252), some (.int x4), o5, o6, o7, none], [], σ) = b_gd (a_in (x4 + (nI 1)) n0) (b_G C kL_law [] 1821 1824 [some (.ref 0), some (.ref 100), some (.ref 237), some (.ref 252), some (.int x4), o5, o6, o7, none] [] (C 290 [.ref 100, .int (a_I σ 0 (Int32.toNatClampNeg (x4 + (nI 1)))), .ref 252] σ)) := by
  refine (e_aload_n (code := kL_law) (pc := 1813) rfl rfl).trans ?_
  refine (e_aload_n (code := kL_law) (pc := 1814) rfl rfl).trans ?_
  refine (e_iload (code := kL_law) (pc := 1815) rfl rfl).trans ?_
  refine (e_iconst (code := kL_law) (pc := 1817) rfl).trans ?_
  refine (e_iadd (code := kL_law) (pc := 1818) rfl).trans ?_
  refine (e_iaload (code := kL_law) (pc := 1819) rfl (.inr hs.1) hs.2.1).trans ?_
  refine b_gd_c ?_
  refine (e_aload_n (code := kL_law) (pc := 1820) rfl rfl).trans ?_
  exact (e_callS (code := kL_law) (pc := 1821) (len := 3) (k := 290) (n := 3) (as := [.ref 100, .int (a_I σ 0 (Int32.toNatClampNeg (x4 + (nI 1)))), .ref 252]) (st0 := []) rfl rfl rfl rfl)
set_option maxRecDepth 30000 in
theorem b_L_law_1824 {C : aCall} {σ : aSt} {n0 : Nat} {x4 y0 : Int32} {o5 o6 o7 : Option Value} (h : Sh σ) (hs : Sc σ n0) : b_R C kL_law [] (1824, [some (.ref 0), some (.ref 100), some (.ref 237), some (.ref 252), some (.int x4), o5, o6, o7, none], [.int y0], σ) = b_gd (a_in (x4 + (nI 1)) n0) (b_G C kL_law [] 1833 1836 [some (.ref 0), some (.ref 100), some (.ref 237), some (.ref 252), some (.int x4), some (.int y0), o6, o7, none] [] (C 205 [.ref 237, .int (a_I σ 0 (Int32.toNatClampNeg (x4 + (nI 1))))] σ)) := by
  refine (e_istore (code := kL_law) (pc := 1824) rfl rfl rfl).trans ?_
  refine (e_aload_n (code := kL_law) (pc := 1826) rfl rfl).trans ?_
  refine (e_aload_n (code := kL_law) (pc := 1827) rfl rfl).trans ?_
  refine (e_iload (code := kL_law) (pc := 1828) rfl rfl).trans ?_
  refine (e_iconst (code := kL_law) (pc := 1830) rfl).trans ?_
  refine (e_iadd (code := kL_law) (pc := 1831) rfl).trans ?_
  refine (e_iaload (code := kL_law) (pc := 1832) rfl (.inr hs.1) hs.2.1).trans ?_
  refine b_gd_c ?_
  exact (e_callV (σ := σ) (code := kL_law) (pc := 1833) (len := 3) (k := 205) (n := 2) (c := 20) (as := [.ref 237, .int (a_I σ 0 (Int32.toNatClampNeg (x4 + (nI 1))))]) (st0 := []) rfl rfl rfl rfl rfl (sk_237 (σ := σ) h) rfl)
set_option maxRecDepth 30000 in
theorem b_L_law_1836 {C : aCall} {σ : aSt} {x4 x5 y0 : Int32} {o6 o7 : Option Value} (h : Sh σ) : b_R C kL_law [] (1836, [some (.ref 0), some (.ref 100), some (.ref 237), some (.ref 252), some (.int x4), some (.int x5), o6, o7, none], [.int y0], σ) = b_G C kL_law [] 1839 1842 [some (.ref 0), some (.ref 100), some (.ref 237), some (.ref 252), some (.int x4), some (.int x5), some (.int y0), o7, none] [] (C 145 [.ref 237] σ) := by
  refine (e_istore (code := kL_law) (pc := 1836) rfl rfl rfl).trans ?_
  refine (e_aload_n (code := kL_law) (pc := 1838) rfl rfl).trans ?_
  exact (e_callV (σ := σ) (code := kL_law) (pc := 1839) (len := 3) (k := 145) (n := 1) (c := 20) (as := [.ref 237]) (st0 := []) rfl rfl rfl rfl rfl (sk_237 (σ := σ) h) rfl)
set_option maxRecDepth 30000 in
theorem b_L_law_1842 {C : aCall} {σ : aSt} {x4 x5 x6 y0 : Int32} {o7 : Option Value} (h : Sh σ) : b_R C kL_law [] (1842, [some (.ref 0), some (.ref 100), some (.ref 237), some (.ref 252), some (.int x4), some (.int x5), some (.int x6), o7, none], [.int y0], σ) = (if y0 = x5 then (if x5 = 0 then b_gd (a_in (nI 0) 1) ((if (lg_cmp (a_L σ 252 (Int32.toNatClampNeg (nI 0))) (Int32.toInt64 x6)) = 0 then b_R C kL_law [] (1866, [some (.ref 0), some (.ref 100), some (.ref 237), some (.ref 252), some (.int x4), some (.int x5), some (.int x6), o7, none], [], σ) else some (.inl (some (.int (nI 0))), σ))) else b_R C kL_law [] (1866, [some (.ref 0), some (.ref 100), some (.ref 237), some (.ref 252), some (.int x4), some (.int x5), some (.int x6), o7, none], [], σ)) else some (.inl (some (.int (nI 0))), σ)) := by
  refine (e_iload (code := kL_law) (pc := 1842) rfl rfl).trans ?_
  refine (e_iceq (code := kL_law) (pc := 1844) rfl).trans ?_
  refine b_ite ?_ ?_
  · refine (e_iload (code := kL_law) (pc := 1849) rfl rfl).trans ?_
    refine (e_ifne (code := kL_law) (pc := 1851) rfl).trans ?_
    refine b_ite ?_ ?_
    · refine (e_aload_n (code := kL_law) (pc := 1854) rfl rfl).trans ?_
      refine (e_iconst (code := kL_law) (pc := 1855) rfl).trans ?_
      refine (e_laload (code := kL_law) (pc := 1856) rfl (sk_252 (σ := σ) h) (sl_252 (σ := σ) h)).trans ?_
      refine b_gd_c ?_
      refine (e_iload (code := kL_law) (pc := 1857) rfl rfl).trans ?_
      refine (e_i2l (code := kL_law) (pc := 1859) rfl).trans ?_
      refine (e_lcmp (code := kL_law) (pc := 1860) rfl).trans ?_
      refine (e_ifeq (code := kL_law) (pc := 1861) rfl).trans ?_
      refine b_ite ?_ ?_
      · rfl
      · refine (e_iconst (code := kL_law) (pc := 1864) rfl).trans ?_
        exact (e_zreturn rfl).trans (b_gd_t (by decide))
    · rfl
  · refine (e_iconst (code := kL_law) (pc := 1847) rfl).trans ?_
    exact (e_zreturn rfl).trans (b_gd_t (by decide))
set_option maxRecDepth 30000 in
theorem b_L_law_1866 {C : aCall} {σ : aSt} {x4 x5 x6 : Int32} {o7 : Option Value} : b_R C kL_law [] (1866, [some (.ref 0), some (.ref 100), some (.ref 237), some (.ref 252), some (.int x4), some (.int x5), some (.int x6), o7, none], [], σ) = b_R C kL_law [] (2385, [some (.ref 0), some (.ref 100), some (.ref 237), some (.ref 252), some (.int x4), some (.int x5), some (.int x6), o7, none], [], σ) := by
  refine (e_goto (code := kL_law) (pc := 1866) rfl).trans ?_
  rfl
set_option maxRecDepth 30000 in
theorem b_L_law_1869 {C : aCall} {σ : aSt} {n0 : Nat} {x4 : Int32} {o5 o6 o7 : Option Value} (hs : Sc σ n0) : b_R C kL_law [] (1869, [some (.ref 0), some (.ref 100), some (.ref 237), some (.ref 252), some (.int x4), o5, o6, o7, none], [], σ) = b_gd (a_in (x4 + (nI 1)) n0) (b_gd (a_in (x4 + (nI 2)) n0) (b_gd (a_in (x4 + (nI 3)) n0) (b_G C kL_law [] 1889 1892 [some (.ref 0), some (.ref 100), some (.ref 237), some (.ref 252), some (.int x4), o5, o6, o7, none] [] (C 291 [.ref 100, .int (a_I σ 0 (Int32.toNatClampNeg (x4 + (nI 1)))), .int (a_I σ 0 (Int32.toNatClampNeg (x4 + (nI 2)))), .int (a_I σ 0 (Int32.toNatClampNeg (x4 + (nI 3)))), .ref 252] σ)))) := by
  refine (e_aload_n (code := kL_law) (pc := 1869) rfl rfl).trans ?_
  refine (e_aload_n (code := kL_law) (pc := 1870) rfl rfl).trans ?_
  refine (e_iload (code := kL_law) (pc := 1871) rfl rfl).trans ?_
  refine (e_iconst (code := kL_law) (pc := 1873) rfl).trans ?_
  refine (e_iadd (code := kL_law) (pc := 1874) rfl).trans ?_
  refine (e_iaload (code := kL_law) (pc := 1875) rfl (.inr hs.1) hs.2.1).trans ?_
  refine b_gd_c ?_
  refine (e_aload_n (code := kL_law) (pc := 1876) rfl rfl).trans ?_
  refine (e_iload (code := kL_law) (pc := 1877) rfl rfl).trans ?_
  refine (e_iconst (code := kL_law) (pc := 1879) rfl).trans ?_
  refine (e_iadd (code := kL_law) (pc := 1880) rfl).trans ?_
  refine (e_iaload (code := kL_law) (pc := 1881) rfl (.inr hs.1) hs.2.1).trans ?_
  refine b_gd_c ?_
  refine (e_aload_n (code := kL_law) (pc := 1882) rfl rfl).trans ?_
  refine (e_iload (code := kL_law) (pc := 1883) rfl rfl).trans ?_
  refine (e_iconst (code := kL_law) (pc := 1885) rfl).trans ?_
  refine (e_iadd (code := kL_law) (pc := 1886) rfl).trans ?_
  refine (e_iaload (code := kL_law) (pc := 1887) rfl (.inr hs.1) hs.2.1).trans ?_
  refine b_gd_c ?_
  refine (e_aload_n (code := kL_law) (pc := 1888) rfl rfl).trans ?_
  exact (e_callS (code := kL_law) (pc := 1889) (len := 3) (k := 291) (n := 5) (as := [.ref 100, .int (a_I σ 0 (Int32.toNatClampNeg (x4 + (nI 1)))), .int (a_I σ 0 (Int32.toNatClampNeg (x4 + (nI 2)))), .int (a_I σ 0 (Int32.toNatClampNeg (x4 + (nI 3)))), .ref 252]) (st0 := []) rfl rfl rfl rfl)
set_option maxRecDepth 30000 in
theorem b_L_law_1892 {C : aCall} {σ : aSt} {n0 : Nat} {x4 y0 : Int32} {o5 o6 o7 : Option Value} (h : Sh σ) (hs : Sc σ n0) : b_R C kL_law [] (1892, [some (.ref 0), some (.ref 100), some (.ref 237), some (.ref 252), some (.int x4), o5, o6, o7, none], [.int y0], σ) = b_gd (a_in (x4 + (nI 1)) n0) (b_gd (a_in (x4 + (nI 2)) n0) (b_gd (a_in (x4 + (nI 3)) n0) (b_G C kL_law [] 1913 1916 [some (.ref 0), some (.ref 100), some (.ref 237), some (.ref 252), some (.int x4), some (.int y0), o6, o7, none] [] (C 207 [.ref 237, .int (a_I σ 0 (Int32.toNatClampNeg (x4 + (nI 1)))), .int (a_I σ 0 (Int32.toNatClampNeg (x4 + (nI 2)))), .int (a_I σ 0 (Int32.toNatClampNeg (x4 + (nI 3))))] σ)))) := by
  refine (e_istore (code := kL_law) (pc := 1892) rfl rfl rfl).trans ?_
  refine (e_aload_n (code := kL_law) (pc := 1894) rfl rfl).trans ?_
  refine (e_aload_n (code := kL_law) (pc := 1895) rfl rfl).trans ?_
  refine (e_iload (code := kL_law) (pc := 1896) rfl rfl).trans ?_
  refine (e_iconst (code := kL_law) (pc := 1898) rfl).trans ?_
  refine (e_iadd (code := kL_law) (pc := 1899) rfl).trans ?_
  refine (e_iaload (code := kL_law) (pc := 1900) rfl (.inr hs.1) hs.2.1).trans ?_
  refine b_gd_c ?_
  refine (e_aload_n (code := kL_law) (pc := 1901) rfl rfl).trans ?_
  refine (e_iload (code := kL_law) (pc := 1902) rfl rfl).trans ?_
  refine (e_iconst (code := kL_law) (pc := 1904) rfl).trans ?_
  refine (e_iadd (code := kL_law) (pc := 1905) rfl).trans ?_
  refine (e_iaload (code := kL_law) (pc := 1906) rfl (.inr hs.1) hs.2.1).trans ?_
  refine b_gd_c ?_
  refine (e_aload_n (code := kL_law) (pc := 1907) rfl rfl).trans ?_
  refine (e_iload (code := kL_law) (pc := 1908) rfl rfl).trans ?_
  refine (e_iconst (code := kL_law) (pc := 1910) rfl).trans ?_
  refine (e_iadd (code := kL_law) (pc := 1911) rfl).trans ?_
  refine (e_iaload (code := kL_law) (pc := 1912) rfl (.inr hs.1) hs.2.1).trans ?_
  refine b_gd_c ?_
  exact (e_callV (σ := σ) (code := kL_law) (pc := 1913) (len := 3) (k := 207) (n := 4) (c := 20) (as := [.ref 237, .int (a_I σ 0 (Int32.toNatClampNeg (x4 + (nI 1)))), .int (a_I σ 0 (Int32.toNatClampNeg (x4 + (nI 2)))), .int (a_I σ 0 (Int32.toNatClampNeg (x4 + (nI 3))))]) (st0 := []) rfl rfl rfl rfl rfl (sk_237 (σ := σ) h) rfl)
set_option maxRecDepth 30000 in
theorem b_L_law_1916 {C : aCall} {σ : aSt} {x4 x5 y0 : Int32} {o6 o7 : Option Value} (h : Sh σ) : b_R C kL_law [] (1916, [some (.ref 0), some (.ref 100), some (.ref 237), some (.ref 252), some (.int x4), some (.int x5), o6, o7, none], [.int y0], σ) = b_G C kL_law [] 1919 1922 [some (.ref 0), some (.ref 100), some (.ref 237), some (.ref 252), some (.int x4), some (.int x5), some (.int y0), o7, none] [] (C 145 [.ref 237] σ) := by
  refine (e_istore (code := kL_law) (pc := 1916) rfl rfl rfl).trans ?_
  refine (e_aload_n (code := kL_law) (pc := 1918) rfl rfl).trans ?_
  exact (e_callV (σ := σ) (code := kL_law) (pc := 1919) (len := 3) (k := 145) (n := 1) (c := 20) (as := [.ref 237]) (st0 := []) rfl rfl rfl rfl rfl (sk_237 (σ := σ) h) rfl)
set_option maxRecDepth 30000 in
theorem b_L_law_1922 {C : aCall} {σ : aSt} {x4 x5 x6 y0 : Int32} {o7 : Option Value} (h : Sh σ) : b_R C kL_law [] (1922, [some (.ref 0), some (.ref 100), some (.ref 237), some (.ref 252), some (.int x4), some (.int x5), some (.int x6), o7, none], [.int y0], σ) = (if y0 = x5 then (if x5 = 0 then b_gd (a_in (nI 0) 1) ((if (lg_cmp (a_L σ 252 (Int32.toNatClampNeg (nI 0))) (Int32.toInt64 x6)) = 0 then b_R C kL_law [] (1946, [some (.ref 0), some (.ref 100), some (.ref 237), some (.ref 252), some (.int x4), some (.int x5), some (.int x6), o7, none], [], σ) else some (.inl (some (.int (nI 0))), σ))) else b_R C kL_law [] (1946, [some (.ref 0), some (.ref 100), some (.ref 237), some (.ref 252), some (.int x4), some (.int x5), some (.int x6), o7, none], [], σ)) else some (.inl (some (.int (nI 0))), σ)) := by
  refine (e_iload (code := kL_law) (pc := 1922) rfl rfl).trans ?_
  refine (e_iceq (code := kL_law) (pc := 1924) rfl).trans ?_
  refine b_ite ?_ ?_
  · refine (e_iload (code := kL_law) (pc := 1929) rfl rfl).trans ?_
    refine (e_ifne (code := kL_law) (pc := 1931) rfl).trans ?_
    refine b_ite ?_ ?_
    · refine (e_aload_n (code := kL_law) (pc := 1934) rfl rfl).trans ?_
      refine (e_iconst (code := kL_law) (pc := 1935) rfl).trans ?_
      refine (e_laload (code := kL_law) (pc := 1936) rfl (sk_252 (σ := σ) h) (sl_252 (σ := σ) h)).trans ?_
      refine b_gd_c ?_
      refine (e_iload (code := kL_law) (pc := 1937) rfl rfl).trans ?_
      refine (e_i2l (code := kL_law) (pc := 1939) rfl).trans ?_
      refine (e_lcmp (code := kL_law) (pc := 1940) rfl).trans ?_
      refine (e_ifeq (code := kL_law) (pc := 1941) rfl).trans ?_
      refine b_ite ?_ ?_
      · rfl
      · refine (e_iconst (code := kL_law) (pc := 1944) rfl).trans ?_
        exact (e_zreturn rfl).trans (b_gd_t (by decide))
    · rfl
  · refine (e_iconst (code := kL_law) (pc := 1927) rfl).trans ?_
    exact (e_zreturn rfl).trans (b_gd_t (by decide))
set_option maxRecDepth 30000 in
theorem b_L_law_1946 {C : aCall} {σ : aSt} {x4 x5 x6 : Int32} {o7 : Option Value} : b_R C kL_law [] (1946, [some (.ref 0), some (.ref 100), some (.ref 237), some (.ref 252), some (.int x4), some (.int x5), some (.int x6), o7, none], [], σ) = b_R C kL_law [] (2385, [some (.ref 0), some (.ref 100), some (.ref 237), some (.ref 252), some (.int x4), some (.int x5), some (.int x6), o7, none], [], σ) := by
  refine (e_goto (code := kL_law) (pc := 1946) rfl).trans ?_
  rfl
set_option maxRecDepth 30000 in
theorem b_L_law_1949 {C : aCall} {σ : aSt} {n0 : Nat} {x4 : Int32} {o5 o6 o7 : Option Value} (hs : Sc σ n0) : b_R C kL_law [] (1949, [some (.ref 0), some (.ref 100), some (.ref 237), some (.ref 252), some (.int x4), o5, o6, o7, none], [], σ) = b_gd (a_in (x4 + (nI 1)) n0) (b_G C kL_law [] 1957 1960 [some (.ref 0), some (.ref 100), some (.ref 237), some (.ref 252), some (.int x4), o5, o6, o7, none] [] (C 292 [.ref 100, .int (a_I σ 0 (Int32.toNatClampNeg (x4 + (nI 1)))), .ref 252] σ)) := by
  refine (e_aload_n (code := kL_law) (pc := 1949) rfl rfl).trans ?_
  refine (e_aload_n (code := kL_law) (pc := 1950) rfl rfl).trans ?_
  refine (e_iload (code := kL_law) (pc := 1951) rfl rfl).trans ?_
  refine (e_iconst (code := kL_law) (pc := 1953) rfl).trans ?_
  refine (e_iadd (code := kL_law) (pc := 1954) rfl).trans ?_
  refine (e_iaload (code := kL_law) (pc := 1955) rfl (.inr hs.1) hs.2.1).trans ?_
  refine b_gd_c ?_
  refine (e_aload_n (code := kL_law) (pc := 1956) rfl rfl).trans ?_
  exact (e_callS (code := kL_law) (pc := 1957) (len := 3) (k := 292) (n := 3) (as := [.ref 100, .int (a_I σ 0 (Int32.toNatClampNeg (x4 + (nI 1)))), .ref 252]) (st0 := []) rfl rfl rfl rfl)
set_option maxRecDepth 30000 in
theorem b_L_law_1960 {C : aCall} {σ : aSt} {n0 : Nat} {x4 y0 : Int32} {o5 o6 o7 : Option Value} (h : Sh σ) (hs : Sc σ n0) : b_R C kL_law [] (1960, [some (.ref 0), some (.ref 100), some (.ref 237), some (.ref 252), some (.int x4), o5, o6, o7, none], [.int y0], σ) = b_gd (a_in (x4 + (nI 1)) n0) (b_G C kL_law [] 1969 1972 [some (.ref 0), some (.ref 100), some (.ref 237), some (.ref 252), some (.int x4), some (.int y0), o6, o7, none] [] (C 208 [.ref 237, .int (a_I σ 0 (Int32.toNatClampNeg (x4 + (nI 1))))] σ)) := by
  refine (e_istore (code := kL_law) (pc := 1960) rfl rfl rfl).trans ?_
  refine (e_aload_n (code := kL_law) (pc := 1962) rfl rfl).trans ?_
  refine (e_aload_n (code := kL_law) (pc := 1963) rfl rfl).trans ?_
  refine (e_iload (code := kL_law) (pc := 1964) rfl rfl).trans ?_
  refine (e_iconst (code := kL_law) (pc := 1966) rfl).trans ?_
  refine (e_iadd (code := kL_law) (pc := 1967) rfl).trans ?_
  refine (e_iaload (code := kL_law) (pc := 1968) rfl (.inr hs.1) hs.2.1).trans ?_
  refine b_gd_c ?_
  exact (e_callV (σ := σ) (code := kL_law) (pc := 1969) (len := 3) (k := 208) (n := 2) (c := 20) (as := [.ref 237, .int (a_I σ 0 (Int32.toNatClampNeg (x4 + (nI 1))))]) (st0 := []) rfl rfl rfl rfl rfl (sk_237 (σ := σ) h) rfl)
set_option maxRecDepth 30000 in
theorem b_L_law_1972 {C : aCall} {σ : aSt} {x4 x5 y0 : Int32} {o6 o7 : Option Value} (h : Sh σ) : b_R C kL_law [] (1972, [some (.ref 0), some (.ref 100), some (.ref 237), some (.ref 252), some (.int x4), some (.int x5), o6, o7, none], [.int y0], σ) = b_G C kL_law [] 1975 1978 [some (.ref 0), some (.ref 100), some (.ref 237), some (.ref 252), some (.int x4), some (.int x5), some (.int y0), o7, none] [] (C 145 [.ref 237] σ) := by
  refine (e_istore (code := kL_law) (pc := 1972) rfl rfl rfl).trans ?_
  refine (e_aload_n (code := kL_law) (pc := 1974) rfl rfl).trans ?_
  exact (e_callV (σ := σ) (code := kL_law) (pc := 1975) (len := 3) (k := 145) (n := 1) (c := 20) (as := [.ref 237]) (st0 := []) rfl rfl rfl rfl rfl (sk_237 (σ := σ) h) rfl)
set_option maxRecDepth 30000 in
theorem b_L_law_1978 {C : aCall} {σ : aSt} {x4 x5 x6 y0 : Int32} {o7 : Option Value} (h : Sh σ) : b_R C kL_law [] (1978, [some (.ref 0), some (.ref 100), some (.ref 237), some (.ref 252), some (.int x4), some (.int x5), some (.int x6), o7, none], [.int y0], σ) = (if y0 = x5 then (if x5 = 0 then b_gd (a_in (nI 0) 1) ((if (lg_cmp (a_L σ 252 (Int32.toNatClampNeg (nI 0))) (Int32.toInt64 x6)) = 0 then b_R C kL_law [] (2002, [some (.ref 0), some (.ref 100), some (.ref 237), some (.ref 252), some (.int x4), some (.int x5), some (.int x6), o7, none], [], σ) else some (.inl (some (.int (nI 0))), σ))) else b_R C kL_law [] (2002, [some (.ref 0), some (.ref 100), some (.ref 237), some (.ref 252), some (.int x4), some (.int x5), some (.int x6), o7, none], [], σ)) else some (.inl (some (.int (nI 0))), σ)) := by
  refine (e_iload (code := kL_law) (pc := 1978) rfl rfl).trans ?_
  refine (e_iceq (code := kL_law) (pc := 1980) rfl).trans ?_
  refine b_ite ?_ ?_
  · refine (e_iload (code := kL_law) (pc := 1985) rfl rfl).trans ?_
    refine (e_ifne (code := kL_law) (pc := 1987) rfl).trans ?_
    refine b_ite ?_ ?_
    · refine (e_aload_n (code := kL_law) (pc := 1990) rfl rfl).trans ?_
      refine (e_iconst (code := kL_law) (pc := 1991) rfl).trans ?_
      refine (e_laload (code := kL_law) (pc := 1992) rfl (sk_252 (σ := σ) h) (sl_252 (σ := σ) h)).trans ?_
      refine b_gd_c ?_
      refine (e_iload (code := kL_law) (pc := 1993) rfl rfl).trans ?_
      refine (e_i2l (code := kL_law) (pc := 1995) rfl).trans ?_
      refine (e_lcmp (code := kL_law) (pc := 1996) rfl).trans ?_
      refine (e_ifeq (code := kL_law) (pc := 1997) rfl).trans ?_
      refine b_ite ?_ ?_
      · rfl
      · refine (e_iconst (code := kL_law) (pc := 2000) rfl).trans ?_
        exact (e_zreturn rfl).trans (b_gd_t (by decide))
    · rfl
  · refine (e_iconst (code := kL_law) (pc := 1983) rfl).trans ?_
    exact (e_zreturn rfl).trans (b_gd_t (by decide))
set_option maxRecDepth 30000 in
theorem b_L_law_2002 {C : aCall} {σ : aSt} {x4 x5 x6 : Int32} {o7 : Option Value} : b_R C kL_law [] (2002, [some (.ref 0), some (.ref 100), some (.ref 237), some (.ref 252), some (.int x4), some (.int x5), some (.int x6), o7, none], [], σ) = b_R C kL_law [] (2385, [some (.ref 0), some (.ref 100), some (.ref 237), some (.ref 252), some (.int x4), some (.int x5), some (.int x6), o7, none], [], σ) := by
  refine (e_goto (code := kL_law) (pc := 2002) rfl).trans ?_
  rfl
set_option maxRecDepth 30000 in
theorem b_L_law_2005 {C : aCall} {σ : aSt} {x4 : Int32} {o5 o6 o7 : Option Value} (h : Sh σ) : b_R C kL_law [] (2005, [some (.ref 0), some (.ref 100), some (.ref 237), some (.ref 252), some (.int x4), o5, o6, o7, none], [], σ) = b_G C kL_law [] 2006 2009 [some (.ref 0), some (.ref 100), some (.ref 237), some (.ref 252), some (.int x4), o5, o6, o7, none] [] (C 125 [.ref 100] σ) := by
  refine (e_aload_n (code := kL_law) (pc := 2005) rfl rfl).trans ?_
  exact (e_callV (σ := σ) (code := kL_law) (pc := 2006) (len := 3) (k := 125) (n := 1) (c := 19) (as := [.ref 100]) (st0 := []) rfl rfl rfl rfl rfl (sk_100 (σ := σ) h) rfl)
set_option maxRecDepth 30000 in
theorem b_L_law_2009 {C : aCall} {σ : aSt} {x4 y0 : Int32} {o5 o6 o7 : Option Value} (h : Sh σ) : b_R C kL_law [] (2009, [some (.ref 0), some (.ref 100), some (.ref 237), some (.ref 252), some (.int x4), o5, o6, o7, none], [.int y0], σ) = b_G C kL_law [] 2010 2013 [some (.ref 0), some (.ref 100), some (.ref 237), some (.ref 252), some (.int x4), o5, o6, o7, none] [.int y0] (C 210 [.ref 237] σ) := by
  refine (e_aload_n (code := kL_law) (pc := 2009) rfl rfl).trans ?_
  exact (e_callV (σ := σ) (code := kL_law) (pc := 2010) (len := 3) (k := 210) (n := 1) (c := 20) (as := [.ref 237]) (st0 := [.int y0]) rfl rfl rfl rfl rfl (sk_237 (σ := σ) h) rfl)
set_option maxRecDepth 30000 in
theorem b_L_law_2013 {C : aCall} {σ : aSt} {x4 y0 y1 : Int32} {o5 o6 o7 : Option Value} : b_R C kL_law [] (2013, [some (.ref 0), some (.ref 100), some (.ref 237), some (.ref 252), some (.int x4), o5, o6, o7, none], [.int y0, .int y1], σ) = (if y1 = y0 then b_R C kL_law [] (2385, [some (.ref 0), some (.ref 100), some (.ref 237), some (.ref 252), some (.int x4), o5, o6, o7, none], [], σ) else some (.inl (some (.int (nI 0))), σ)) := by
  refine (e_iceq (code := kL_law) (pc := 2013) rfl).trans ?_
  refine b_ite ?_ ?_
  · rfl
  · refine (e_iconst (code := kL_law) (pc := 2016) rfl).trans ?_
    exact (e_zreturn rfl).trans (b_gd_t (by decide))
set_option maxRecDepth 30000 in
theorem b_L_law_2018 {C : aCall} {σ : aSt} {n0 : Nat} {x4 : Int32} {o5 o6 o7 : Option Value} (hs : Sc σ n0) : b_R C kL_law [] (2018, [some (.ref 0), some (.ref 100), some (.ref 237), some (.ref 252), some (.int x4), o5, o6, o7, none], [], σ) = b_gd (a_in (x4 + (nI 1)) n0) (b_gd (a_in (x4 + (nI 2)) n0) (b_G C kL_law [] 2032 2035 [some (.ref 0), some (.ref 100), some (.ref 237), some (.ref 252), some (.int x4), o5, o6, o7, none] [] (C 293 [.ref 100, .int (a_I σ 0 (Int32.toNatClampNeg (x4 + (nI 1)))), .int (a_I σ 0 (Int32.toNatClampNeg (x4 + (nI 2)))), .ref 252] σ))) := by
  refine (e_aload_n (code := kL_law) (pc := 2018) rfl rfl).trans ?_
  refine (e_aload_n (code := kL_law) (pc := 2019) rfl rfl).trans ?_
  refine (e_iload (code := kL_law) (pc := 2020) rfl rfl).trans ?_
  refine (e_iconst (code := kL_law) (pc := 2022) rfl).trans ?_
  refine (e_iadd (code := kL_law) (pc := 2023) rfl).trans ?_
  refine (e_iaload (code := kL_law) (pc := 2024) rfl (.inr hs.1) hs.2.1).trans ?_
  refine b_gd_c ?_
  refine (e_aload_n (code := kL_law) (pc := 2025) rfl rfl).trans ?_
  refine (e_iload (code := kL_law) (pc := 2026) rfl rfl).trans ?_
  refine (e_iconst (code := kL_law) (pc := 2028) rfl).trans ?_
  refine (e_iadd (code := kL_law) (pc := 2029) rfl).trans ?_
  refine (e_iaload (code := kL_law) (pc := 2030) rfl (.inr hs.1) hs.2.1).trans ?_
  refine b_gd_c ?_
  refine (e_aload_n (code := kL_law) (pc := 2031) rfl rfl).trans ?_
  exact (e_callS (code := kL_law) (pc := 2032) (len := 3) (k := 293) (n := 4) (as := [.ref 100, .int (a_I σ 0 (Int32.toNatClampNeg (x4 + (nI 1)))), .int (a_I σ 0 (Int32.toNatClampNeg (x4 + (nI 2)))), .ref 252]) (st0 := []) rfl rfl rfl rfl)
set_option maxRecDepth 30000 in
theorem b_L_law_2035 {C : aCall} {σ : aSt} {n0 : Nat} {x4 y0 : Int32} {o5 o6 o7 : Option Value} (h : Sh σ) (hs : Sc σ n0) : b_R C kL_law [] (2035, [some (.ref 0), some (.ref 100), some (.ref 237), some (.ref 252), some (.int x4), o5, o6, o7, none], [.int y0], σ) = b_gd (a_in (x4 + (nI 1)) n0) (b_gd (a_in (x4 + (nI 2)) n0) (b_G C kL_law [] 2050 2053 [some (.ref 0), some (.ref 100), some (.ref 237), some (.ref 252), some (.int x4), some (.int y0), o6, o7, none] [] (C 211 [.ref 237, .int (a_I σ 0 (Int32.toNatClampNeg (x4 + (nI 1)))), .int (a_I σ 0 (Int32.toNatClampNeg (x4 + (nI 2))))] σ))) := by
  refine (e_istore (code := kL_law) (pc := 2035) rfl rfl rfl).trans ?_
  refine (e_aload_n (code := kL_law) (pc := 2037) rfl rfl).trans ?_
  refine (e_aload_n (code := kL_law) (pc := 2038) rfl rfl).trans ?_
  refine (e_iload (code := kL_law) (pc := 2039) rfl rfl).trans ?_
  refine (e_iconst (code := kL_law) (pc := 2041) rfl).trans ?_
  refine (e_iadd (code := kL_law) (pc := 2042) rfl).trans ?_
  refine (e_iaload (code := kL_law) (pc := 2043) rfl (.inr hs.1) hs.2.1).trans ?_
  refine b_gd_c ?_
  refine (e_aload_n (code := kL_law) (pc := 2044) rfl rfl).trans ?_
  refine (e_iload (code := kL_law) (pc := 2045) rfl rfl).trans ?_
  refine (e_iconst (code := kL_law) (pc := 2047) rfl).trans ?_
  refine (e_iadd (code := kL_law) (pc := 2048) rfl).trans ?_
  refine (e_iaload (code := kL_law) (pc := 2049) rfl (.inr hs.1) hs.2.1).trans ?_
  refine b_gd_c ?_
  exact (e_callV (σ := σ) (code := kL_law) (pc := 2050) (len := 3) (k := 211) (n := 3) (c := 20) (as := [.ref 237, .int (a_I σ 0 (Int32.toNatClampNeg (x4 + (nI 1)))), .int (a_I σ 0 (Int32.toNatClampNeg (x4 + (nI 2))))]) (st0 := []) rfl rfl rfl rfl rfl (sk_237 (σ := σ) h) rfl)
set_option maxRecDepth 30000 in
theorem b_L_law_2053 {C : aCall} {σ : aSt} {x4 x5 y0 : Int32} {o6 o7 : Option Value} (h : Sh σ) : b_R C kL_law [] (2053, [some (.ref 0), some (.ref 100), some (.ref 237), some (.ref 252), some (.int x4), some (.int x5), o6, o7, none], [.int y0], σ) = b_G C kL_law [] 2056 2059 [some (.ref 0), some (.ref 100), some (.ref 237), some (.ref 252), some (.int x4), some (.int x5), some (.int y0), o7, none] [] (C 145 [.ref 237] σ) := by
  refine (e_istore (code := kL_law) (pc := 2053) rfl rfl rfl).trans ?_
  refine (e_aload_n (code := kL_law) (pc := 2055) rfl rfl).trans ?_
  exact (e_callV (σ := σ) (code := kL_law) (pc := 2056) (len := 3) (k := 145) (n := 1) (c := 20) (as := [.ref 237]) (st0 := []) rfl rfl rfl rfl rfl (sk_237 (σ := σ) h) rfl)
set_option maxRecDepth 30000 in
theorem b_L_law_2059 {C : aCall} {σ : aSt} {x4 x5 x6 y0 : Int32} {o7 : Option Value} (h : Sh σ) : b_R C kL_law [] (2059, [some (.ref 0), some (.ref 100), some (.ref 237), some (.ref 252), some (.int x4), some (.int x5), some (.int x6), o7, none], [.int y0], σ) = (if y0 = x5 then (if x5 = 0 then b_gd (a_in (nI 0) 1) ((if (lg_cmp (a_L σ 252 (Int32.toNatClampNeg (nI 0))) (Int32.toInt64 x6)) = 0 then b_R C kL_law [] (2083, [some (.ref 0), some (.ref 100), some (.ref 237), some (.ref 252), some (.int x4), some (.int x5), some (.int x6), o7, none], [], σ) else some (.inl (some (.int (nI 0))), σ))) else b_R C kL_law [] (2083, [some (.ref 0), some (.ref 100), some (.ref 237), some (.ref 252), some (.int x4), some (.int x5), some (.int x6), o7, none], [], σ)) else some (.inl (some (.int (nI 0))), σ)) := by
  refine (e_iload (code := kL_law) (pc := 2059) rfl rfl).trans ?_
  refine (e_iceq (code := kL_law) (pc := 2061) rfl).trans ?_
  refine b_ite ?_ ?_
  · refine (e_iload (code := kL_law) (pc := 2066) rfl rfl).trans ?_
    refine (e_ifne (code := kL_law) (pc := 2068) rfl).trans ?_
    refine b_ite ?_ ?_
    · refine (e_aload_n (code := kL_law) (pc := 2071) rfl rfl).trans ?_
      refine (e_iconst (code := kL_law) (pc := 2072) rfl).trans ?_
      refine (e_laload (code := kL_law) (pc := 2073) rfl (sk_252 (σ := σ) h) (sl_252 (σ := σ) h)).trans ?_
      refine b_gd_c ?_
      refine (e_iload (code := kL_law) (pc := 2074) rfl rfl).trans ?_
      refine (e_i2l (code := kL_law) (pc := 2076) rfl).trans ?_
      refine (e_lcmp (code := kL_law) (pc := 2077) rfl).trans ?_
      refine (e_ifeq (code := kL_law) (pc := 2078) rfl).trans ?_
      refine b_ite ?_ ?_
      · rfl
      · refine (e_iconst (code := kL_law) (pc := 2081) rfl).trans ?_
        exact (e_zreturn rfl).trans (b_gd_t (by decide))
    · rfl
  · refine (e_iconst (code := kL_law) (pc := 2064) rfl).trans ?_
    exact (e_zreturn rfl).trans (b_gd_t (by decide))
set_option maxRecDepth 30000 in
theorem b_L_law_2083 {C : aCall} {σ : aSt} {x4 x5 x6 : Int32} {o7 : Option Value} : b_R C kL_law [] (2083, [some (.ref 0), some (.ref 100), some (.ref 237), some (.ref 252), some (.int x4), some (.int x5), some (.int x6), o7, none], [], σ) = b_R C kL_law [] (2385, [some (.ref 0), some (.ref 100), some (.ref 237), some (.ref 252), some (.int x4), some (.int x5), some (.int x6), o7, none], [], σ) := by
  refine (e_goto (code := kL_law) (pc := 2083) rfl).trans ?_
  rfl
set_option maxRecDepth 30000 in
theorem b_L_law_2086 {C : aCall} {σ : aSt} {n0 : Nat} {x4 : Int32} {o5 o6 o7 : Option Value} (hs : Sc σ n0) : b_R C kL_law [] (2086, [some (.ref 0), some (.ref 100), some (.ref 237), some (.ref 252), some (.int x4), o5, o6, o7, none], [], σ) = b_gd (a_in (x4 + (nI 1)) n0) (b_G C kL_law [] 2094 2097 [some (.ref 0), some (.ref 100), some (.ref 237), some (.ref 252), some (.int x4), o5, o6, o7, none] [] (C 294 [.ref 100, .int (a_I σ 0 (Int32.toNatClampNeg (x4 + (nI 1)))), .ref 252] σ)) := by
  refine (e_aload_n (code := kL_law) (pc := 2086) rfl rfl).trans ?_
  refine (e_aload_n (code := kL_law) (pc := 2087) rfl rfl).trans ?_
  refine (e_iload (code := kL_law) (pc := 2088) rfl rfl).trans ?_
  refine (e_iconst (code := kL_law) (pc := 2090) rfl).trans ?_
  refine (e_iadd (code := kL_law) (pc := 2091) rfl).trans ?_
  refine (e_iaload (code := kL_law) (pc := 2092) rfl (.inr hs.1) hs.2.1).trans ?_
  refine b_gd_c ?_
  refine (e_aload_n (code := kL_law) (pc := 2093) rfl rfl).trans ?_
  exact (e_callS (code := kL_law) (pc := 2094) (len := 3) (k := 294) (n := 3) (as := [.ref 100, .int (a_I σ 0 (Int32.toNatClampNeg (x4 + (nI 1)))), .ref 252]) (st0 := []) rfl rfl rfl rfl)
set_option maxRecDepth 30000 in
theorem b_L_law_2097 {C : aCall} {σ : aSt} {n0 : Nat} {x4 y0 : Int32} {o5 o6 o7 : Option Value} (h : Sh σ) (hs : Sc σ n0) : b_R C kL_law [] (2097, [some (.ref 0), some (.ref 100), some (.ref 237), some (.ref 252), some (.int x4), o5, o6, o7, none], [.int y0], σ) = b_gd (a_in (x4 + (nI 1)) n0) (b_G C kL_law [] 2106 2109 [some (.ref 0), some (.ref 100), some (.ref 237), some (.ref 252), some (.int x4), some (.int y0), o6, o7, none] [] (C 212 [.ref 237, .int (a_I σ 0 (Int32.toNatClampNeg (x4 + (nI 1))))] σ)) := by
  refine (e_istore (code := kL_law) (pc := 2097) rfl rfl rfl).trans ?_
  refine (e_aload_n (code := kL_law) (pc := 2099) rfl rfl).trans ?_
  refine (e_aload_n (code := kL_law) (pc := 2100) rfl rfl).trans ?_
  refine (e_iload (code := kL_law) (pc := 2101) rfl rfl).trans ?_
  refine (e_iconst (code := kL_law) (pc := 2103) rfl).trans ?_
  refine (e_iadd (code := kL_law) (pc := 2104) rfl).trans ?_
  refine (e_iaload (code := kL_law) (pc := 2105) rfl (.inr hs.1) hs.2.1).trans ?_
  refine b_gd_c ?_
  exact (e_callV (σ := σ) (code := kL_law) (pc := 2106) (len := 3) (k := 212) (n := 2) (c := 20) (as := [.ref 237, .int (a_I σ 0 (Int32.toNatClampNeg (x4 + (nI 1))))]) (st0 := []) rfl rfl rfl rfl rfl (sk_237 (σ := σ) h) rfl)
set_option maxRecDepth 30000 in
theorem b_L_law_2109 {C : aCall} {σ : aSt} {x4 x5 y0 : Int32} {o6 o7 : Option Value} (h : Sh σ) : b_R C kL_law [] (2109, [some (.ref 0), some (.ref 100), some (.ref 237), some (.ref 252), some (.int x4), some (.int x5), o6, o7, none], [.int y0], σ) = b_G C kL_law [] 2112 2115 [some (.ref 0), some (.ref 100), some (.ref 237), some (.ref 252), some (.int x4), some (.int x5), some (.int y0), o7, none] [] (C 145 [.ref 237] σ) := by
  refine (e_istore (code := kL_law) (pc := 2109) rfl rfl rfl).trans ?_
  refine (e_aload_n (code := kL_law) (pc := 2111) rfl rfl).trans ?_
  exact (e_callV (σ := σ) (code := kL_law) (pc := 2112) (len := 3) (k := 145) (n := 1) (c := 20) (as := [.ref 237]) (st0 := []) rfl rfl rfl rfl rfl (sk_237 (σ := σ) h) rfl)
set_option maxRecDepth 30000 in
theorem b_L_law_2115 {C : aCall} {σ : aSt} {x4 x5 x6 y0 : Int32} {o7 : Option Value} (h : Sh σ) : b_R C kL_law [] (2115, [some (.ref 0), some (.ref 100), some (.ref 237), some (.ref 252), some (.int x4), some (.int x5), some (.int x6), o7, none], [.int y0], σ) = (if y0 = x5 then (if x5 = 0 then b_gd (a_in (nI 0) 1) ((if (lg_cmp (a_L σ 252 (Int32.toNatClampNeg (nI 0))) (Int32.toInt64 x6)) = 0 then b_R C kL_law [] (2139, [some (.ref 0), some (.ref 100), some (.ref 237), some (.ref 252), some (.int x4), some (.int x5), some (.int x6), o7, none], [], σ) else some (.inl (some (.int (nI 0))), σ))) else b_R C kL_law [] (2139, [some (.ref 0), some (.ref 100), some (.ref 237), some (.ref 252), some (.int x4), some (.int x5), some (.int x6), o7, none], [], σ)) else some (.inl (some (.int (nI 0))), σ)) := by
  refine (e_iload (code := kL_law) (pc := 2115) rfl rfl).trans ?_
  refine (e_iceq (code := kL_law) (pc := 2117) rfl).trans ?_
  refine b_ite ?_ ?_
  · refine (e_iload (code := kL_law) (pc := 2122) rfl rfl).trans ?_
    refine (e_ifne (code := kL_law) (pc := 2124) rfl).trans ?_
    refine b_ite ?_ ?_
    · refine (e_aload_n (code := kL_law) (pc := 2127) rfl rfl).trans ?_
      refine (e_iconst (code := kL_law) (pc := 2128) rfl).trans ?_
      refine (e_laload (code := kL_law) (pc := 2129) rfl (sk_252 (σ := σ) h) (sl_252 (σ := σ) h)).trans ?_
      refine b_gd_c ?_
      refine (e_iload (code := kL_law) (pc := 2130) rfl rfl).trans ?_
      refine (e_i2l (code := kL_law) (pc := 2132) rfl).trans ?_
      refine (e_lcmp (code := kL_law) (pc := 2133) rfl).trans ?_
      refine (e_ifeq (code := kL_law) (pc := 2134) rfl).trans ?_
      refine b_ite ?_ ?_
      · rfl
      · refine (e_iconst (code := kL_law) (pc := 2137) rfl).trans ?_
        exact (e_zreturn rfl).trans (b_gd_t (by decide))
    · rfl
  · refine (e_iconst (code := kL_law) (pc := 2120) rfl).trans ?_
    exact (e_zreturn rfl).trans (b_gd_t (by decide))
set_option maxRecDepth 30000 in
theorem b_L_law_2139 {C : aCall} {σ : aSt} {x4 x5 x6 : Int32} {o7 : Option Value} : b_R C kL_law [] (2139, [some (.ref 0), some (.ref 100), some (.ref 237), some (.ref 252), some (.int x4), some (.int x5), some (.int x6), o7, none], [], σ) = b_R C kL_law [] (2385, [some (.ref 0), some (.ref 100), some (.ref 237), some (.ref 252), some (.int x4), some (.int x5), some (.int x6), o7, none], [], σ) := by
  refine (e_goto (code := kL_law) (pc := 2139) rfl).trans ?_
  rfl
set_option maxRecDepth 30000 in
theorem b_L_law_2142 {C : aCall} {σ : aSt} {n0 : Nat} {x4 : Int32} {o5 o6 o7 : Option Value} (hs : Sc σ n0) : b_R C kL_law [] (2142, [some (.ref 0), some (.ref 100), some (.ref 237), some (.ref 252), some (.int x4), o5, o6, o7, none], [], σ) = b_gd (a_in (x4 + (nI 1)) n0) (b_G C kL_law [] 2150 2153 [some (.ref 0), some (.ref 100), some (.ref 237), some (.ref 252), some (.int x4), o5, o6, o7, none] [] (C 295 [.ref 100, .int (a_I σ 0 (Int32.toNatClampNeg (x4 + (nI 1)))), .ref 252] σ)) := by
  refine (e_aload_n (code := kL_law) (pc := 2142) rfl rfl).trans ?_
  refine (e_aload_n (code := kL_law) (pc := 2143) rfl rfl).trans ?_
  refine (e_iload (code := kL_law) (pc := 2144) rfl rfl).trans ?_
  refine (e_iconst (code := kL_law) (pc := 2146) rfl).trans ?_
  refine (e_iadd (code := kL_law) (pc := 2147) rfl).trans ?_
  refine (e_iaload (code := kL_law) (pc := 2148) rfl (.inr hs.1) hs.2.1).trans ?_
  refine b_gd_c ?_
  refine (e_aload_n (code := kL_law) (pc := 2149) rfl rfl).trans ?_
  exact (e_callS (code := kL_law) (pc := 2150) (len := 3) (k := 295) (n := 3) (as := [.ref 100, .int (a_I σ 0 (Int32.toNatClampNeg (x4 + (nI 1)))), .ref 252]) (st0 := []) rfl rfl rfl rfl)
set_option maxRecDepth 30000 in
theorem b_L_law_2153 {C : aCall} {σ : aSt} {n0 : Nat} {x4 y0 : Int32} {o5 o6 o7 : Option Value} (h : Sh σ) (hs : Sc σ n0) : b_R C kL_law [] (2153, [some (.ref 0), some (.ref 100), some (.ref 237), some (.ref 252), some (.int x4), o5, o6, o7, none], [.int y0], σ) = b_gd (a_in (x4 + (nI 1)) n0) (b_G C kL_law [] 2162 2165 [some (.ref 0), some (.ref 100), some (.ref 237), some (.ref 252), some (.int x4), some (.int y0), o6, o7, none] [] (C 213 [.ref 237, .int (a_I σ 0 (Int32.toNatClampNeg (x4 + (nI 1))))] σ)) := by
  refine (e_istore (code := kL_law) (pc := 2153) rfl rfl rfl).trans ?_
  refine (e_aload_n (code := kL_law) (pc := 2155) rfl rfl).trans ?_
  refine (e_aload_n (code := kL_law) (pc := 2156) rfl rfl).trans ?_
  refine (e_iload (code := kL_law) (pc := 2157) rfl rfl).trans ?_
  refine (e_iconst (code := kL_law) (pc := 2159) rfl).trans ?_
  refine (e_iadd (code := kL_law) (pc := 2160) rfl).trans ?_
  refine (e_iaload (code := kL_law) (pc := 2161) rfl (.inr hs.1) hs.2.1).trans ?_
  refine b_gd_c ?_
  exact (e_callV (σ := σ) (code := kL_law) (pc := 2162) (len := 3) (k := 213) (n := 2) (c := 20) (as := [.ref 237, .int (a_I σ 0 (Int32.toNatClampNeg (x4 + (nI 1))))]) (st0 := []) rfl rfl rfl rfl rfl (sk_237 (σ := σ) h) rfl)
set_option maxRecDepth 30000 in
theorem b_L_law_2165 {C : aCall} {σ : aSt} {x4 x5 y0 : Int32} {o6 o7 : Option Value} (h : Sh σ) : b_R C kL_law [] (2165, [some (.ref 0), some (.ref 100), some (.ref 237), some (.ref 252), some (.int x4), some (.int x5), o6, o7, none], [.int y0], σ) = b_G C kL_law [] 2168 2171 [some (.ref 0), some (.ref 100), some (.ref 237), some (.ref 252), some (.int x4), some (.int x5), some (.int y0), o7, none] [] (C 145 [.ref 237] σ) := by
  refine (e_istore (code := kL_law) (pc := 2165) rfl rfl rfl).trans ?_
  refine (e_aload_n (code := kL_law) (pc := 2167) rfl rfl).trans ?_
  exact (e_callV (σ := σ) (code := kL_law) (pc := 2168) (len := 3) (k := 145) (n := 1) (c := 20) (as := [.ref 237]) (st0 := []) rfl rfl rfl rfl rfl (sk_237 (σ := σ) h) rfl)
set_option maxRecDepth 30000 in
theorem b_L_law_2171 {C : aCall} {σ : aSt} {x4 x5 x6 y0 : Int32} {o7 : Option Value} (h : Sh σ) : b_R C kL_law [] (2171, [some (.ref 0), some (.ref 100), some (.ref 237), some (.ref 252), some (.int x4), some (.int x5), some (.int x6), o7, none], [.int y0], σ) = (if y0 = x5 then (if x5 = 0 then b_gd (a_in (nI 0) 1) ((if (lg_cmp (a_L σ 252 (Int32.toNatClampNeg (nI 0))) (Int32.toInt64 x6)) = 0 then b_R C kL_law [] (2195, [some (.ref 0), some (.ref 100), some (.ref 237), some (.ref 252), some (.int x4), some (.int x5), some (.int x6), o7, none], [], σ) else some (.inl (some (.int (nI 0))), σ))) else b_R C kL_law [] (2195, [some (.ref 0), some (.ref 100), some (.ref 237), some (.ref 252), some (.int x4), some (.int x5), some (.int x6), o7, none], [], σ)) else some (.inl (some (.int (nI 0))), σ)) := by
  refine (e_iload (code := kL_law) (pc := 2171) rfl rfl).trans ?_
  refine (e_iceq (code := kL_law) (pc := 2173) rfl).trans ?_
  refine b_ite ?_ ?_
  · refine (e_iload (code := kL_law) (pc := 2178) rfl rfl).trans ?_
    refine (e_ifne (code := kL_law) (pc := 2180) rfl).trans ?_
    refine b_ite ?_ ?_
    · refine (e_aload_n (code := kL_law) (pc := 2183) rfl rfl).trans ?_
      refine (e_iconst (code := kL_law) (pc := 2184) rfl).trans ?_
      refine (e_laload (code := kL_law) (pc := 2185) rfl (sk_252 (σ := σ) h) (sl_252 (σ := σ) h)).trans ?_
      refine b_gd_c ?_
      refine (e_iload (code := kL_law) (pc := 2186) rfl rfl).trans ?_
      refine (e_i2l (code := kL_law) (pc := 2188) rfl).trans ?_
      refine (e_lcmp (code := kL_law) (pc := 2189) rfl).trans ?_
      refine (e_ifeq (code := kL_law) (pc := 2190) rfl).trans ?_
      refine b_ite ?_ ?_
      · rfl
      · refine (e_iconst (code := kL_law) (pc := 2193) rfl).trans ?_
        exact (e_zreturn rfl).trans (b_gd_t (by decide))
    · rfl
  · refine (e_iconst (code := kL_law) (pc := 2176) rfl).trans ?_
    exact (e_zreturn rfl).trans (b_gd_t (by decide))
set_option maxRecDepth 30000 in
theorem b_L_law_2195 {C : aCall} {σ : aSt} {x4 x5 x6 : Int32} {o7 : Option Value} : b_R C kL_law [] (2195, [some (.ref 0), some (.ref 100), some (.ref 237), some (.ref 252), some (.int x4), some (.int x5), some (.int x6), o7, none], [], σ) = b_R C kL_law [] (2385, [some (.ref 0), some (.ref 100), some (.ref 237), some (.ref 252), some (.int x4), some (.int x5), some (.int x6), o7, none], [], σ) := by
  refine (e_goto (code := kL_law) (pc := 2195) rfl).trans ?_
  rfl
set_option maxRecDepth 30000 in
theorem b_L_law_2198 {C : aCall} {σ : aSt} {n0 : Nat} {x4 : Int32} {o5 o6 o7 : Option Value} (hs : Sc σ n0) : b_R C kL_law [] (2198, [some (.ref 0), some (.ref 100), some (.ref 237), some (.ref 252), some (.int x4), o5, o6, o7, none], [], σ) = b_gd (a_in (x4 + (nI 1)) n0) (b_G C kL_law [] 2206 2209 [some (.ref 0), some (.ref 100), some (.ref 237), some (.ref 252), some (.int x4), o5, o6, o7, none] [] (C 296 [.ref 100, .int (a_I σ 0 (Int32.toNatClampNeg (x4 + (nI 1)))), .ref 252] σ)) := by
  refine (e_aload_n (code := kL_law) (pc := 2198) rfl rfl).trans ?_
  refine (e_aload_n (code := kL_law) (pc := 2199) rfl rfl).trans ?_
  refine (e_iload (code := kL_law) (pc := 2200) rfl rfl).trans ?_
  refine (e_iconst (code := kL_law) (pc := 2202) rfl).trans ?_
  refine (e_iadd (code := kL_law) (pc := 2203) rfl).trans ?_
  refine (e_iaload (code := kL_law) (pc := 2204) rfl (.inr hs.1) hs.2.1).trans ?_
  refine b_gd_c ?_
  refine (e_aload_n (code := kL_law) (pc := 2205) rfl rfl).trans ?_
  exact (e_callS (code := kL_law) (pc := 2206) (len := 3) (k := 296) (n := 3) (as := [.ref 100, .int (a_I σ 0 (Int32.toNatClampNeg (x4 + (nI 1)))), .ref 252]) (st0 := []) rfl rfl rfl rfl)
set_option maxRecDepth 30000 in
theorem b_L_law_2209 {C : aCall} {σ : aSt} {n0 : Nat} {x4 y0 : Int32} {o5 o6 o7 : Option Value} (h : Sh σ) (hs : Sc σ n0) : b_R C kL_law [] (2209, [some (.ref 0), some (.ref 100), some (.ref 237), some (.ref 252), some (.int x4), o5, o6, o7, none], [.int y0], σ) = b_gd (a_in (x4 + (nI 1)) n0) (b_G C kL_law [] 2218 2221 [some (.ref 0), some (.ref 100), some (.ref 237), some (.ref 252), some (.int x4), some (.int y0), o6, o7, none] [] (C 216 [.ref 237, .int (a_I σ 0 (Int32.toNatClampNeg (x4 + (nI 1))))] σ)) := by
  refine (e_istore (code := kL_law) (pc := 2209) rfl rfl rfl).trans ?_
  refine (e_aload_n (code := kL_law) (pc := 2211) rfl rfl).trans ?_
  refine (e_aload_n (code := kL_law) (pc := 2212) rfl rfl).trans ?_
  refine (e_iload (code := kL_law) (pc := 2213) rfl rfl).trans ?_
  refine (e_iconst (code := kL_law) (pc := 2215) rfl).trans ?_
  refine (e_iadd (code := kL_law) (pc := 2216) rfl).trans ?_
  refine (e_iaload (code := kL_law) (pc := 2217) rfl (.inr hs.1) hs.2.1).trans ?_
  refine b_gd_c ?_
  exact (e_callV (σ := σ) (code := kL_law) (pc := 2218) (len := 3) (k := 216) (n := 2) (c := 20) (as := [.ref 237, .int (a_I σ 0 (Int32.toNatClampNeg (x4 + (nI 1))))]) (st0 := []) rfl rfl rfl rfl rfl (sk_237 (σ := σ) h) rfl)
set_option maxRecDepth 30000 in
theorem b_L_law_2221 {C : aCall} {σ : aSt} {x4 x5 y0 : Int32} {o6 o7 : Option Value} (h : Sh σ) : b_R C kL_law [] (2221, [some (.ref 0), some (.ref 100), some (.ref 237), some (.ref 252), some (.int x4), some (.int x5), o6, o7, none], [.int y0], σ) = b_G C kL_law [] 2224 2227 [some (.ref 0), some (.ref 100), some (.ref 237), some (.ref 252), some (.int x4), some (.int x5), some (.int y0), o7, none] [] (C 145 [.ref 237] σ) := by
  refine (e_istore (code := kL_law) (pc := 2221) rfl rfl rfl).trans ?_
  refine (e_aload_n (code := kL_law) (pc := 2223) rfl rfl).trans ?_
  exact (e_callV (σ := σ) (code := kL_law) (pc := 2224) (len := 3) (k := 145) (n := 1) (c := 20) (as := [.ref 237]) (st0 := []) rfl rfl rfl rfl rfl (sk_237 (σ := σ) h) rfl)
set_option maxRecDepth 30000 in
theorem b_L_law_2227 {C : aCall} {σ : aSt} {x4 x5 x6 y0 : Int32} {o7 : Option Value} (h : Sh σ) : b_R C kL_law [] (2227, [some (.ref 0), some (.ref 100), some (.ref 237), some (.ref 252), some (.int x4), some (.int x5), some (.int x6), o7, none], [.int y0], σ) = (if y0 = x5 then (if x5 = 0 then b_gd (a_in (nI 0) 1) ((if (lg_cmp (a_L σ 252 (Int32.toNatClampNeg (nI 0))) (Int32.toInt64 x6)) = 0 then b_R C kL_law [] (2251, [some (.ref 0), some (.ref 100), some (.ref 237), some (.ref 252), some (.int x4), some (.int x5), some (.int x6), o7, none], [], σ) else some (.inl (some (.int (nI 0))), σ))) else b_R C kL_law [] (2251, [some (.ref 0), some (.ref 100), some (.ref 237), some (.ref 252), some (.int x4), some (.int x5), some (.int x6), o7, none], [], σ)) else some (.inl (some (.int (nI 0))), σ)) := by
  refine (e_iload (code := kL_law) (pc := 2227) rfl rfl).trans ?_
  refine (e_iceq (code := kL_law) (pc := 2229) rfl).trans ?_
  refine b_ite ?_ ?_
  · refine (e_iload (code := kL_law) (pc := 2234) rfl rfl).trans ?_
    refine (e_ifne (code := kL_law) (pc := 2236) rfl).trans ?_
    refine b_ite ?_ ?_
    · refine (e_aload_n (code := kL_law) (pc := 2239) rfl rfl).trans ?_
      refine (e_iconst (code := kL_law) (pc := 2240) rfl).trans ?_
      refine (e_laload (code := kL_law) (pc := 2241) rfl (sk_252 (σ := σ) h) (sl_252 (σ := σ) h)).trans ?_
      refine b_gd_c ?_
      refine (e_iload (code := kL_law) (pc := 2242) rfl rfl).trans ?_
      refine (e_i2l (code := kL_law) (pc := 2244) rfl).trans ?_
      refine (e_lcmp (code := kL_law) (pc := 2245) rfl).trans ?_
      refine (e_ifeq (code := kL_law) (pc := 2246) rfl).trans ?_
      refine b_ite ?_ ?_
      · rfl
      · refine (e_iconst (code := kL_law) (pc := 2249) rfl).trans ?_
        exact (e_zreturn rfl).trans (b_gd_t (by decide))
    · rfl
  · refine (e_iconst (code := kL_law) (pc := 2232) rfl).trans ?_
    exact (e_zreturn rfl).trans (b_gd_t (by decide))
set_option maxRecDepth 30000 in
theorem b_L_law_2251 {C : aCall} {σ : aSt} {x4 x5 x6 : Int32} {o7 : Option Value} : b_R C kL_law [] (2251, [some (.ref 0), some (.ref 100), some (.ref 237), some (.ref 252), some (.int x4), some (.int x5), some (.int x6), o7, none], [], σ) = b_R C kL_law [] (2385, [some (.ref 0), some (.ref 100), some (.ref 237), some (.ref 252), some (.int x4), some (.int x5), some (.int x6), o7, none], [], σ) := by
  refine (e_goto (code := kL_law) (pc := 2251) rfl).trans ?_
  rfl
set_option maxRecDepth 30000 in
theorem b_L_law_2254 {C : aCall} {σ : aSt} {n0 : Nat} {x4 : Int32} {o5 o6 o7 : Option Value} (h : Sh σ) (hs : Sc σ n0) : b_R C kL_law [] (2254, [some (.ref 0), some (.ref 100), some (.ref 237), some (.ref 252), some (.int x4), o5, o6, o7, none], [], σ) = b_gd (a_in (x4 + (nI 1)) n0) (b_G C kL_law [] 2261 2264 [some (.ref 0), some (.ref 100), some (.ref 237), some (.ref 252), some (.int x4), o5, o6, o7, none] [] (C 97 [.ref 100, .int (a_I σ 0 (Int32.toNatClampNeg (x4 + (nI 1))))] σ)) := by
  refine (e_aload_n (code := kL_law) (pc := 2254) rfl rfl).trans ?_
  refine (e_aload_n (code := kL_law) (pc := 2255) rfl rfl).trans ?_
  refine (e_iload (code := kL_law) (pc := 2256) rfl rfl).trans ?_
  refine (e_iconst (code := kL_law) (pc := 2258) rfl).trans ?_
  refine (e_iadd (code := kL_law) (pc := 2259) rfl).trans ?_
  refine (e_iaload (code := kL_law) (pc := 2260) rfl (.inr hs.1) hs.2.1).trans ?_
  refine b_gd_c ?_
  exact (e_callV (σ := σ) (code := kL_law) (pc := 2261) (len := 3) (k := 97) (n := 2) (c := 19) (as := [.ref 100, .int (a_I σ 0 (Int32.toNatClampNeg (x4 + (nI 1))))]) (st0 := []) rfl rfl rfl rfl rfl (sk_100 (σ := σ) h) rfl)
set_option maxRecDepth 30000 in
theorem b_L_law_2264 {C : aCall} {σ : aSt} {n0 : Nat} {x4 y0 : Int32} {o5 o6 o7 : Option Value} (h : Sh σ) (hs : Sc σ n0) : b_R C kL_law [] (2264, [some (.ref 0), some (.ref 100), some (.ref 237), some (.ref 252), some (.int x4), o5, o6, o7, none], [.int y0], σ) = b_gd (a_in (x4 + (nI 1)) n0) (b_G C kL_law [] 2271 2274 [some (.ref 0), some (.ref 100), some (.ref 237), some (.ref 252), some (.int x4), o5, o6, o7, none] [.int y0] (C 217 [.ref 237, .int (a_I σ 0 (Int32.toNatClampNeg (x4 + (nI 1))))] σ)) := by
  refine (e_aload_n (code := kL_law) (pc := 2264) rfl rfl).trans ?_
  refine (e_aload_n (code := kL_law) (pc := 2265) rfl rfl).trans ?_
  refine (e_iload (code := kL_law) (pc := 2266) rfl rfl).trans ?_
  refine (e_iconst (code := kL_law) (pc := 2268) rfl).trans ?_
  refine (e_iadd (code := kL_law) (pc := 2269) rfl).trans ?_
  refine (e_iaload (code := kL_law) (pc := 2270) rfl (.inr hs.1) hs.2.1).trans ?_
  refine b_gd_c ?_
  exact (e_callV (σ := σ) (code := kL_law) (pc := 2271) (len := 3) (k := 217) (n := 2) (c := 20) (as := [.ref 237, .int (a_I σ 0 (Int32.toNatClampNeg (x4 + (nI 1))))]) (st0 := [.int y0]) rfl rfl rfl rfl rfl (sk_237 (σ := σ) h) rfl)
set_option maxRecDepth 30000 in
theorem b_L_law_2274 {C : aCall} {σ : aSt} {x4 y0 y1 : Int32} {o5 o6 o7 : Option Value} : b_R C kL_law [] (2274, [some (.ref 0), some (.ref 100), some (.ref 237), some (.ref 252), some (.int x4), o5, o6, o7, none], [.int y0, .int y1], σ) = (if y1 = y0 then b_R C kL_law [] (2385, [some (.ref 0), some (.ref 100), some (.ref 237), some (.ref 252), some (.int x4), o5, o6, o7, none], [], σ) else some (.inl (some (.int (nI 0))), σ)) := by
  refine (e_iceq (code := kL_law) (pc := 2274) rfl).trans ?_
  refine b_ite ?_ ?_
  · rfl
  · refine (e_iconst (code := kL_law) (pc := 2277) rfl).trans ?_
    exact (e_zreturn rfl).trans (b_gd_t (by decide))
set_option maxRecDepth 30000 in
theorem b_L_law_2279 {C : aCall} {σ : aSt} {x4 : Int32} {o5 o6 o7 : Option Value} (h : Sh σ) : b_R C kL_law [] (2279, [some (.ref 0), some (.ref 100), some (.ref 237), some (.ref 252), some (.int x4), o5, o6, o7, none], [], σ) = b_G C kL_law [] 2280 2283 [some (.ref 0), some (.ref 100), some (.ref 237), some (.ref 252), some (.int x4), o5, o6, o7, none] [] (C 129 [.ref 100] σ) := by
  refine (e_aload_n (code := kL_law) (pc := 2279) rfl rfl).trans ?_
  exact (e_callV (σ := σ) (code := kL_law) (pc := 2280) (len := 3) (k := 129) (n := 1) (c := 19) (as := [.ref 100]) (st0 := []) rfl rfl rfl rfl rfl (sk_100 (σ := σ) h) rfl)
set_option maxRecDepth 30000 in
theorem b_L_law_2283 {C : aCall} {σ : aSt} {x4 y0 : Int32} {o5 o6 o7 : Option Value} (h : Sh σ) : b_R C kL_law [] (2283, [some (.ref 0), some (.ref 100), some (.ref 237), some (.ref 252), some (.int x4), o5, o6, o7, none], [.int y0], σ) = b_G C kL_law [] 2284 2287 [some (.ref 0), some (.ref 100), some (.ref 237), some (.ref 252), some (.int x4), o5, o6, o7, none] [.int y0] (C 220 [.ref 237] σ) := by
  refine (e_aload_n (code := kL_law) (pc := 2283) rfl rfl).trans ?_
  exact (e_callV (σ := σ) (code := kL_law) (pc := 2284) (len := 3) (k := 220) (n := 1) (c := 20) (as := [.ref 237]) (st0 := [.int y0]) rfl rfl rfl rfl rfl (sk_237 (σ := σ) h) rfl)
set_option maxRecDepth 30000 in
theorem b_L_law_2287 {C : aCall} {σ : aSt} {x4 y0 y1 : Int32} {o5 o6 o7 : Option Value} : b_R C kL_law [] (2287, [some (.ref 0), some (.ref 100), some (.ref 237), some (.ref 252), some (.int x4), o5, o6, o7, none], [.int y0, .int y1], σ) = (if y1 = y0 then b_R C kL_law [] (2385, [some (.ref 0), some (.ref 100), some (.ref 237), some (.ref 252), some (.int x4), o5, o6, o7, none], [], σ) else some (.inl (some (.int (nI 0))), σ)) := by
  refine (e_iceq (code := kL_law) (pc := 2287) rfl).trans ?_
  refine b_ite ?_ ?_
  · rfl
  · refine (e_iconst (code := kL_law) (pc := 2290) rfl).trans ?_
    exact (e_zreturn rfl).trans (b_gd_t (by decide))
set_option maxRecDepth 30000 in
theorem b_L_law_2292 {C : aCall} {σ : aSt} {x4 : Int32} {o5 o6 o7 : Option Value} (h : Sh σ) : b_R C kL_law [] (2292, [some (.ref 0), some (.ref 100), some (.ref 237), some (.ref 252), some (.int x4), o5, o6, o7, none], [], σ) = b_G C kL_law [] 2293 2296 [some (.ref 0), some (.ref 100), some (.ref 237), some (.ref 252), some (.int x4), o5, o6, o7, none] [] (C 130 [.ref 100] σ) := by
  refine (e_aload_n (code := kL_law) (pc := 2292) rfl rfl).trans ?_
  exact (e_callV (σ := σ) (code := kL_law) (pc := 2293) (len := 3) (k := 130) (n := 1) (c := 19) (as := [.ref 100]) (st0 := []) rfl rfl rfl rfl rfl (sk_100 (σ := σ) h) rfl)
set_option maxRecDepth 30000 in
theorem b_L_law_2296 {C : aCall} {σ : aSt} {x4 y0 : Int32} {o5 o6 o7 : Option Value} (h : Sh σ) : b_R C kL_law [] (2296, [some (.ref 0), some (.ref 100), some (.ref 237), some (.ref 252), some (.int x4), o5, o6, o7, none], [.int y0], σ) = b_G C kL_law [] 2297 2300 [some (.ref 0), some (.ref 100), some (.ref 237), some (.ref 252), some (.int x4), o5, o6, o7, none] [.int y0] (C 221 [.ref 237] σ) := by
  refine (e_aload_n (code := kL_law) (pc := 2296) rfl rfl).trans ?_
  exact (e_callV (σ := σ) (code := kL_law) (pc := 2297) (len := 3) (k := 221) (n := 1) (c := 20) (as := [.ref 237]) (st0 := [.int y0]) rfl rfl rfl rfl rfl (sk_237 (σ := σ) h) rfl)
set_option maxRecDepth 30000 in
theorem b_L_law_2300 {C : aCall} {σ : aSt} {x4 y0 y1 : Int32} {o5 o6 o7 : Option Value} : b_R C kL_law [] (2300, [some (.ref 0), some (.ref 100), some (.ref 237), some (.ref 252), some (.int x4), o5, o6, o7, none], [.int y0, .int y1], σ) = (if y1 = y0 then b_R C kL_law [] (2385, [some (.ref 0), some (.ref 100), some (.ref 237), some (.ref 252), some (.int x4), o5, o6, o7, none], [], σ) else some (.inl (some (.int (nI 0))), σ)) := by
  refine (e_iceq (code := kL_law) (pc := 2300) rfl).trans ?_
  refine b_ite ?_ ?_
  · rfl
  · refine (e_iconst (code := kL_law) (pc := 2303) rfl).trans ?_
    exact (e_zreturn rfl).trans (b_gd_t (by decide))
set_option maxRecDepth 30000 in
theorem b_L_law_2305 {C : aCall} {σ : aSt} {x4 : Int32} {o5 o6 o7 : Option Value} (h : Sh σ) : b_R C kL_law [] (2305, [some (.ref 0), some (.ref 100), some (.ref 237), some (.ref 252), some (.int x4), o5, o6, o7, none], [], σ) = b_G C kL_law [] 2306 2309 [some (.ref 0), some (.ref 100), some (.ref 237), some (.ref 252), some (.int x4), o5, o6, o7, none] [] (C 131 [.ref 100] σ) := by
  refine (e_aload_n (code := kL_law) (pc := 2305) rfl rfl).trans ?_
  exact (e_callV (σ := σ) (code := kL_law) (pc := 2306) (len := 3) (k := 131) (n := 1) (c := 19) (as := [.ref 100]) (st0 := []) rfl rfl rfl rfl rfl (sk_100 (σ := σ) h) rfl)
set_option maxRecDepth 30000 in
theorem b_L_law_2309 {C : aCall} {σ : aSt} {x4 : Int32} {o5 o6 o7 : Option Value} (h : Sh σ) : b_R C kL_law [] (2309, [some (.ref 0), some (.ref 100), some (.ref 237), some (.ref 252), some (.int x4), o5, o6, o7, none], [], σ) = b_G C kL_law [] 2310 2313 [some (.ref 0), some (.ref 100), some (.ref 237), some (.ref 252), some (.int x4), o5, o6, o7, none] [] (C 222 [.ref 237] σ) := by
  refine (e_aload_n (code := kL_law) (pc := 2309) rfl rfl).trans ?_
  exact (e_callV (σ := σ) (code := kL_law) (pc := 2310) (len := 3) (k := 222) (n := 1) (c := 20) (as := [.ref 237]) (st0 := []) rfl rfl rfl rfl rfl (sk_237 (σ := σ) h) rfl)
set_option maxRecDepth 30000 in
theorem b_L_law_2313 {C : aCall} {σ : aSt} {x4 : Int32} {o5 o6 o7 : Option Value} : b_R C kL_law [] (2313, [some (.ref 0), some (.ref 100), some (.ref 237), some (.ref 252), some (.int x4), o5, o6, o7, none], [], σ) = b_R C kL_law [] (2385, [some (.ref 0), some (.ref 100), some (.ref 237), some (.ref 252), some (.int x4), o5, o6, o7, none], [], σ) := by
  refine (e_goto (code := kL_law) (pc := 2313) rfl).trans ?_
  rfl
set_option maxRecDepth 30000 in
theorem b_L_law_2316 {C : aCall} {σ : aSt} {x4 : Int32} {o5 o6 o7 : Option Value} (h : Sh σ) : b_R C kL_law [] (2316, [some (.ref 0), some (.ref 100), some (.ref 237), some (.ref 252), some (.int x4), o5, o6, o7, none], [], σ) = b_G C kL_law [] 2317 2320 [some (.ref 0), some (.ref 100), some (.ref 237), some (.ref 252), some (.int x4), o5, o6, o7, none] [] (C 132 [.ref 100] σ) := by
  refine (e_aload_n (code := kL_law) (pc := 2316) rfl rfl).trans ?_
  exact (e_callV (σ := σ) (code := kL_law) (pc := 2317) (len := 3) (k := 132) (n := 1) (c := 19) (as := [.ref 100]) (st0 := []) rfl rfl rfl rfl rfl (sk_100 (σ := σ) h) rfl)
set_option maxRecDepth 30000 in
theorem b_L_law_2320 {C : aCall} {σ : aSt} {x4 y0 : Int32} {o5 o6 o7 : Option Value} (h : Sh σ) : b_R C kL_law [] (2320, [some (.ref 0), some (.ref 100), some (.ref 237), some (.ref 252), some (.int x4), o5, o6, o7, none], [.int y0], σ) = b_G C kL_law [] 2321 2324 [some (.ref 0), some (.ref 100), some (.ref 237), some (.ref 252), some (.int x4), o5, o6, o7, none] [.int y0] (C 223 [.ref 237] σ) := by
  refine (e_aload_n (code := kL_law) (pc := 2320) rfl rfl).trans ?_
  exact (e_callV (σ := σ) (code := kL_law) (pc := 2321) (len := 3) (k := 223) (n := 1) (c := 20) (as := [.ref 237]) (st0 := [.int y0]) rfl rfl rfl rfl rfl (sk_237 (σ := σ) h) rfl)
set_option maxRecDepth 30000 in
theorem b_L_law_2324 {C : aCall} {σ : aSt} {x4 y0 y1 : Int32} {o5 o6 o7 : Option Value} : b_R C kL_law [] (2324, [some (.ref 0), some (.ref 100), some (.ref 237), some (.ref 252), some (.int x4), o5, o6, o7, none], [.int y0, .int y1], σ) = (if y1 = y0 then b_R C kL_law [] (2385, [some (.ref 0), some (.ref 100), some (.ref 237), some (.ref 252), some (.int x4), o5, o6, o7, none], [], σ) else some (.inl (some (.int (nI 0))), σ)) := by
  refine (e_iceq (code := kL_law) (pc := 2324) rfl).trans ?_
  refine b_ite ?_ ?_
  · rfl
  · refine (e_iconst (code := kL_law) (pc := 2327) rfl).trans ?_
    exact (e_zreturn rfl).trans (b_gd_t (by decide))
set_option maxRecDepth 30000 in
theorem b_L_law_2329 {C : aCall} {σ : aSt} {n0 : Nat} {x4 : Int32} {o5 o6 o7 : Option Value} (hs : Sc σ n0) : b_R C kL_law [] (2329, [some (.ref 0), some (.ref 100), some (.ref 237), some (.ref 252), some (.int x4), o5, o6, o7, none], [], σ) = b_gd (a_in (x4 + (nI 1)) n0) (b_G C kL_law [] 2337 2340 [some (.ref 0), some (.ref 100), some (.ref 237), some (.ref 252), some (.int x4), o5, o6, o7, none] [] (C 297 [.ref 100, .int (a_I σ 0 (Int32.toNatClampNeg (x4 + (nI 1)))), .ref 252] σ)) := by
  refine (e_aload_n (code := kL_law) (pc := 2329) rfl rfl).trans ?_
  refine (e_aload_n (code := kL_law) (pc := 2330) rfl rfl).trans ?_
  refine (e_iload (code := kL_law) (pc := 2331) rfl rfl).trans ?_
  refine (e_iconst (code := kL_law) (pc := 2333) rfl).trans ?_
  refine (e_iadd (code := kL_law) (pc := 2334) rfl).trans ?_
  refine (e_iaload (code := kL_law) (pc := 2335) rfl (.inr hs.1) hs.2.1).trans ?_
  refine b_gd_c ?_
  refine (e_aload_n (code := kL_law) (pc := 2336) rfl rfl).trans ?_
  exact (e_callS (code := kL_law) (pc := 2337) (len := 3) (k := 297) (n := 3) (as := [.ref 100, .int (a_I σ 0 (Int32.toNatClampNeg (x4 + (nI 1)))), .ref 252]) (st0 := []) rfl rfl rfl rfl)
set_option maxRecDepth 30000 in
theorem b_L_law_2340 {C : aCall} {σ : aSt} {n0 : Nat} {x4 y0 : Int32} {o5 o6 o7 : Option Value} (h : Sh σ) (hs : Sc σ n0) : b_R C kL_law [] (2340, [some (.ref 0), some (.ref 100), some (.ref 237), some (.ref 252), some (.int x4), o5, o6, o7, none], [.int y0], σ) = b_gd (a_in (x4 + (nI 1)) n0) (b_G C kL_law [] 2349 2352 [some (.ref 0), some (.ref 100), some (.ref 237), some (.ref 252), some (.int x4), some (.int y0), o6, o7, none] [] (C 268 [.ref 237, .int (a_I σ 0 (Int32.toNatClampNeg (x4 + (nI 1))))] σ)) := by
  refine (e_istore (code := kL_law) (pc := 2340) rfl rfl rfl).trans ?_
  refine (e_aload_n (code := kL_law) (pc := 2342) rfl rfl).trans ?_
  refine (e_aload_n (code := kL_law) (pc := 2343) rfl rfl).trans ?_
  refine (e_iload (code := kL_law) (pc := 2344) rfl rfl).trans ?_
  refine (e_iconst (code := kL_law) (pc := 2346) rfl).trans ?_
  refine (e_iadd (code := kL_law) (pc := 2347) rfl).trans ?_
  refine (e_iaload (code := kL_law) (pc := 2348) rfl (.inr hs.1) hs.2.1).trans ?_
  refine b_gd_c ?_
  exact (e_callV (σ := σ) (code := kL_law) (pc := 2349) (len := 3) (k := 268) (n := 2) (c := 20) (as := [.ref 237, .int (a_I σ 0 (Int32.toNatClampNeg (x4 + (nI 1))))]) (st0 := []) rfl rfl rfl rfl rfl (sk_237 (σ := σ) h) rfl)
set_option maxRecDepth 30000 in
theorem b_L_law_2352 {C : aCall} {σ : aSt} {x4 x5 y0 : Int32} {o6 o7 : Option Value} (h : Sh σ) : b_R C kL_law [] (2352, [some (.ref 0), some (.ref 100), some (.ref 237), some (.ref 252), some (.int x4), some (.int x5), o6, o7, none], [.int y0], σ) = b_G C kL_law [] 2355 2358 [some (.ref 0), some (.ref 100), some (.ref 237), some (.ref 252), some (.int x4), some (.int x5), some (.int y0), o7, none] [] (C 145 [.ref 237] σ) := by
  refine (e_istore (code := kL_law) (pc := 2352) rfl rfl rfl).trans ?_
  refine (e_aload_n (code := kL_law) (pc := 2354) rfl rfl).trans ?_
  exact (e_callV (σ := σ) (code := kL_law) (pc := 2355) (len := 3) (k := 145) (n := 1) (c := 20) (as := [.ref 237]) (st0 := []) rfl rfl rfl rfl rfl (sk_237 (σ := σ) h) rfl)
set_option maxRecDepth 30000 in
theorem b_L_law_2358 {C : aCall} {σ : aSt} {x4 x5 x6 y0 : Int32} {o7 : Option Value} (h : Sh σ) : b_R C kL_law [] (2358, [some (.ref 0), some (.ref 100), some (.ref 237), some (.ref 252), some (.int x4), some (.int x5), some (.int x6), o7, none], [.int y0], σ) = (if y0 = x5 then (if x5 = 0 then b_gd (a_in (nI 0) 1) ((if (lg_cmp (a_L σ 252 (Int32.toNatClampNeg (nI 0))) (Int32.toInt64 x6)) = 0 then b_R C kL_law [] (2382, [some (.ref 0), some (.ref 100), some (.ref 237), some (.ref 252), some (.int x4), some (.int x5), some (.int x6), o7, none], [], σ) else some (.inl (some (.int (nI 0))), σ))) else b_R C kL_law [] (2382, [some (.ref 0), some (.ref 100), some (.ref 237), some (.ref 252), some (.int x4), some (.int x5), some (.int x6), o7, none], [], σ)) else some (.inl (some (.int (nI 0))), σ)) := by
  refine (e_iload (code := kL_law) (pc := 2358) rfl rfl).trans ?_
  refine (e_iceq (code := kL_law) (pc := 2360) rfl).trans ?_
  refine b_ite ?_ ?_
  · refine (e_iload (code := kL_law) (pc := 2365) rfl rfl).trans ?_
    refine (e_ifne (code := kL_law) (pc := 2367) rfl).trans ?_
    refine b_ite ?_ ?_
    · refine (e_aload_n (code := kL_law) (pc := 2370) rfl rfl).trans ?_
      refine (e_iconst (code := kL_law) (pc := 2371) rfl).trans ?_
      refine (e_laload (code := kL_law) (pc := 2372) rfl (sk_252 (σ := σ) h) (sl_252 (σ := σ) h)).trans ?_
      refine b_gd_c ?_
      refine (e_iload (code := kL_law) (pc := 2373) rfl rfl).trans ?_
      refine (e_i2l (code := kL_law) (pc := 2375) rfl).trans ?_
      refine (e_lcmp (code := kL_law) (pc := 2376) rfl).trans ?_
      refine (e_ifeq (code := kL_law) (pc := 2377) rfl).trans ?_
      refine b_ite ?_ ?_
      · rfl
      · refine (e_iconst (code := kL_law) (pc := 2380) rfl).trans ?_
        exact (e_zreturn rfl).trans (b_gd_t (by decide))
    · rfl
  · refine (e_iconst (code := kL_law) (pc := 2363) rfl).trans ?_
    exact (e_zreturn rfl).trans (b_gd_t (by decide))
set_option maxRecDepth 30000 in
theorem b_L_law_2382 {C : aCall} {σ : aSt} {x4 x5 x6 : Int32} {o7 : Option Value} : b_R C kL_law [] (2382, [some (.ref 0), some (.ref 100), some (.ref 237), some (.ref 252), some (.int x4), some (.int x5), some (.int x6), o7, none], [], σ) = b_R C kL_law [] (2385, [some (.ref 0), some (.ref 100), some (.ref 237), some (.ref 252), some (.int x4), some (.int x5), some (.int x6), o7, none], [], σ) := by
  refine (e_goto (code := kL_law) (pc := 2382) rfl).trans ?_
  rfl
set_option maxRecDepth 30000 in
theorem b_L_law_2385 {C : aCall} {σ : aSt} {x4 : Int32} {o5 o6 o7 : Option Value} : b_R C kL_law [] (2385, [some (.ref 0), some (.ref 100), some (.ref 237), some (.ref 252), some (.int x4), o5, o6, o7, none], [], σ) = b_R C kL_law [] (23, [some (.ref 0), some (.ref 100), some (.ref 237), some (.ref 252), some (.int (x4 + nI 6)), o5, o6, o7, none], [], σ) := by
  refine (e_iinc (code := kL_law) (pc := 2385) rfl rfl rfl rfl).trans ?_
  refine (e_goto (code := kL_law) (pc := 2388) rfl).trans ?_
  rfl
