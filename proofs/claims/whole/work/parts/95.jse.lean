/-! the JDK's methods, run (by program: wip/whole/genS.py) -/
section JEQ
variable {C : aCall} {code : aCode} {hh : List (Nat × Nat × Nat × Nat × Nat)} {pc len tgt : Nat} {r : aRef} {z : Int32} {L : List (Option Value)} {st : List Value} {σ : aSt}
theorem e_gets {i a b : Nat} (h : code.lookup pc = some (.getstatic i, len, (0, a, b), z, tgt)) : b_R C code hh (pc, L, st, σ) = b_R C code hh (pc + len, L, .int z :: st, σ) := b_R_go (b_st h rfl)
theorem e_getsR {i a b : Nat} (h : code.lookup pc = some (.getstatic i, len, (1, a, b), z, tgt)) (ha : Nat.blt a 100 = true) : b_R C code hh (pc, L, st, σ) = b_R C code hh (pc + len, L, .ref a :: st, σ) := b_R_go (b_st h (by
  simp only [a_exec]
  rw [if_neg (by decide), if_neg (by decide), if_pos (show a < 100 from Nat.le_of_ble_eq_true ha)]
  rfl))
theorem e_getsN {i a b : Nat} (h : code.lookup pc = some (.getstatic i, len, (2, a, b), z, tgt)) : b_R C code hh (pc, L, st, σ) = b_R C code hh (pc + len, L, .null :: st, σ) := b_R_go (b_st h rfl)
theorem e_iushr {x y : Int32} (h : code.lookup pc = some (.iushr, len, r, z, tgt)) : b_R C code hh (pc, L, .int y :: .int x :: st, σ) = b_R C code hh (pc + len, L, .int (x.toUInt32 >>> (y.toUInt32 &&& Int32.toUInt32 31)).toInt32 :: st, σ) := b_R_go (b_st h rfl)
theorem e_ineg {x : Int32} (h : code.lookup pc = some (.ineg, len, r, z, tgt)) : b_R C code hh (pc, L, .int x :: st, σ) = b_R C code hh (pc + len, L, .int (-x) :: st, σ) := b_R_go (b_st h rfl)
theorem e_i2b {x : Int32} (h : code.lookup pc = some (.i2b, len, r, z, tgt)) : b_R C code hh (pc, L, .int x :: st, σ) = b_R C code hh (pc + len, L, .int x.toInt8.toInt32 :: st, σ) := b_R_go (b_st h rfl)
theorem e_baload {a : Nat} {i : Int32} (h : code.lookup pc = some (.baload, len, r, z, tgt)) (hk : a_kd σ a = 7) (ha : 100 ≤ a) (hi : a_in i (a_ln σ a)) : b_R C code hh (pc, L, .int i :: .ref a :: st, σ) = b_R C code hh (pc + len, L, .int (a_I σ a i.toNatClampNeg) :: st, σ) := by
  have h5 : ¬ (60 ≤ a ∧ a ≤ 78 ∧ a_in i (a_tbl a).length) := fun z => by
    have h6 := z.2.1
    clear z hi
    omega
  exact b_R_go (b_st h ((if_neg h5).trans (if_pos ⟨hk, hi⟩)))
theorem e_baloadT {a : Nat} {i : Int32} (h : code.lookup pc = some (.baload, len, r, z, tgt)) (ha : 60 ≤ a ∧ a ≤ 78) (hi : a_in i (a_tbl a).length) : b_R C code hh (pc, L, .int i :: .ref a :: st, σ) = b_R C code hh (pc + len, L, .int (Int32.ofNat ((a_tbl a).getD i.toNatClampNeg 0)) :: st, σ) := b_R_go (b_st h (if_pos ⟨ha.1, ha.2, hi⟩))
theorem e_bastore {a : Nat} {i x : Int32} (h : code.lookup pc = some (.bastore, len, r, z, tgt)) (hk : a_kd σ a = 7) (ha : 100 ≤ a) (hi : a_in i (a_ln σ a)) : b_R C code hh (pc, L, .int x :: .int i :: .ref a :: st, σ) = b_R C code hh (pc + len, L, st, a_setI σ a i.toNatClampNeg (vp_nar .byte x)) := b_R_go (b_st h (if_pos ⟨hk, ha, hi⟩))
theorem e_alen7 {a n : Nat} (h : code.lookup pc = some (.arraylength, len, r, z, tgt)) (hk : a_kd σ a = 7) (hn : a_ln σ a = n) (h2 : n < 2147483648) : b_R C code hh (pc, L, .ref a :: st, σ) = b_R C code hh (pc + len, L, .int (nI n) :: st, σ) := by
  subst hn
  have h5 : ¬ (1 ≤ a_kd σ a ∧ a_kd σ a ≤ 5 ∧ a_ln σ a < 2147483648) := fun z => by omega
  exact b_R_go (b_st h ((if_neg h5).trans (if_pos ⟨hk, h2⟩)))
theorem e_alenT {a : Nat} (h : code.lookup pc = some (.arraylength, len, r, z, tgt)) (hk : a_kd σ a = 0) (ha : 60 ≤ a ∧ a ≤ 78) : b_R C code hh (pc, L, .ref a :: st, σ) = b_R C code hh (pc + len, L, .int (nI (a_tbl a).length) :: st, σ) := by
  have h5 : ¬ (1 ≤ a_kd σ a ∧ a_kd σ a ≤ 5 ∧ a_ln σ a < 2147483648) := fun z => by omega
  have h6 : ¬ (a_kd σ a = 7 ∧ a_ln σ a < 2147483648) := fun z => by omega
  exact b_R_go (b_st h ((if_neg h5).trans ((if_neg h6).trans (if_pos ha))))
theorem e_getSv {i a : Nat} (h : code.lookup pc = some (.getfield i, len, (0, 0, 1), z, tgt)) (hk : a_kd σ a = 6) (ha : 1 ≤ a ∧ a ≤ 18) : b_R C code hh (pc, L, .ref a :: st, σ) = b_R C code hh (pc + len, L, .ref (60 + a) :: st, σ) := by
  have h5 : ¬ a_kd σ a = 10 + 0 := by omega
  exact b_R_go (b_st h ((if_neg h5).trans ((if_pos ⟨hk, ha.1, ha.2, rfl, by decide⟩).trans rfl)))
theorem e_getSc {i a : Nat} (h : code.lookup pc = some (.getfield i, len, (0, 1, 2), z, tgt)) (hk : a_kd σ a = 6) (ha : 1 ≤ a ∧ a ≤ 18) : b_R C code hh (pc, L, .ref a :: st, σ) = b_R C code hh (pc + len, L, .int 0 :: st, σ) := by
  have h5 : ¬ a_kd σ a = 10 + 0 := by omega
  exact b_R_go (b_st h ((if_neg h5).trans ((if_pos ⟨hk, ha.1, ha.2, rfl, by decide⟩).trans rfl)))
theorem e_callU {i k n c b : Nat} {as st0 : List Value} (h : code.lookup pc = some (.invokespecial i, len, (k, n, c), z, tgt)) (he : st = as.reverse ++ st0) (hn : as.length = n) (hb : as.head? = some (.ref b)) (hc9 : Nat.beq c 0 = false) (hk : a_kd σ b = c) (hs : Nat.ble (st0.map fun v => v.category).sum 8 = true) :
    b_R C code hh (pc, L, st, σ) = b_G C code hh pc (pc + len) L st0 (C k as σ) := by
  subst he
  have h1 := Nat.le_of_ble_eq_true hs
  have h2 : c ≠ 0 := fun q => by subst q; cases hc9
  have h3 : (as.reverse ++ st0).drop n = st0 := by subst hn; rw [List.drop_append_of_le_length (by simp), List.drop_of_length_le (by simp)]; rfl
  have h4 : (as.reverse ++ st0)[n - 1]? = some (.ref b) := by
    subst hn
    cases as with
    | nil => cases hb
    | cons v as =>
      cases hb
      simp
  have h5 : n ≤ (as.reverse ++ st0).length := by subst hn; simp
  refine (b_R_cl (pc := pc + len) (L := L) (st := st0) (k := k) (as := as) (σ := σ) (b_st h ?_))
  simp only [a_exec]
  rw [if_neg h2, h4]
  simp only [a_inv, h3, b_take hn, h5, h1, hk, or_true, and_self, if_pos]
theorem e_creturn {x : Int32} {k b : Nat} (h : code.lookup pc = some (.ireturn, len, (2, k, b), z, tgt)) (hx : narrow .char (.int x) = .int x) : b_R C code hh (pc, L, [.int x], σ) = some (.inl (some (.int x)), σ) := b_R_rt (b_st h (if_pos (.inr (.inr ⟨rfl, hx⟩))))
theorem e_zret1 {x : Int32} {k b : Nat} (h : code.lookup pc = some (.ireturn, len, (1, k, b), z, tgt)) (hx : x = 0 ∨ x = 1) : b_R C code hh (pc, L, [.int x], σ) = some (.inl (some (.int x)), σ) := b_R_rt (b_st h (if_pos (.inr (.inl ⟨rfl, hx⟩))))
theorem e_sio {i : Nat} {b : Bool} (h : code.lookup pc = some (.getstatic i, len, J_sio b, z, tgt)) : b_R C code hh (pc, L, st, σ) = b_R C code hh (pc + len, L, (if b then .ref 59 else .null) :: st, σ) := by
  cases b
  · exact e_getsN h
  · exact e_getsR h rfl
end JEQ
theorem jz_shr (x : Int32) : x >>> ((0 : Int32) &&& 31) = x := by
  have : ((0 : Int32) &&& 31) = 0 := rfl
  rw [this]
  exact Int32.shiftRight_zero
theorem jz_shl (x : Int32) : x <<< ((0 : Int32) &&& 31) = x := by
  have : ((0 : Int32) &&& 31) = 0 := rfl
  rw [this]
  exact Int32.shiftLeft_zero
theorem n_subT {a b : Nat} (ha : a < 2147483648) (hb : b < 2147483648) : (nI a - nI b).toInt = (a : Int) - b := by
  rw [Int32.toInt_sub, nI_toInt (by omega), nI_toInt (by omega)]
  exact Int.bmod_eq_of_le (by omega) (by omega)
theorem n_subn {k m : Nat} (h : k ≤ m) (hm9 : m < 2147483648) : ¬ (0 : Int32) < nI k - nI m := by
  intro z
  have z1 := Int32.lt_iff_toInt_lt.mp z
  rw [n_subT (by omega) hm9] at z1
  have z2 : ((0 : Int32).toInt) = 0 := rfl
  omega
theorem n_subp {k m : Nat} (h : m < k) (hk : k < 2147483648) : (0 : Int32) < nI k - nI m := by
  refine Int32.lt_iff_toInt_lt.mpr ?_
  rw [n_subT hk (by omega)]
  have z2 : ((0 : Int32).toInt) = 0 := rfl
  omega
/-- what growing leaves: the new array, with the old letters -/
def J_gr (σ : aSt) (v q m : Nat) : aSt := a_cpx (a_new σ 7 q q) v (a_n σ) 0 0 m
theorem j_dig : ∀ v, v < 10 → ¬ nI v < 0 ∧ (-100 : Int32) < -(nI v) ∧ ¬ -(nI v) < (-9 : Int32) ∧ (-10 : Int32) < -(nI v) ∧ -(-(nI v)) = nI v := by decide +kernel
theorem j_chr : ∀ c, c < 256 → ((nI c &&& 255).toUInt32 % 65536).toInt32 = nI c ∧ (nI c).toUInt32.toUInt16.toUInt32.toInt32 = nI c := by decide +kernel
theorem j_byt : ∀ c, c < 128 → vp_nar .byte (nI c).toInt8.toInt32 = nI c ∧ vp_nar .byte (nI c) = nI c ∧ fits .byte (.int (nI c)) = true := by decide +kernel
theorem j_tbl : ∀ v, v < 10 → (a_tbl 60).getD v 0 = 48 + v := by decide +kernel
theorem J_r_at {a : Nat} {tl : List Value} {σ : aSt} {r : Option (aRes × aSt)} (hk : a_kd σ a = 11) : J_r (.ref a :: tl) σ r = J_l r := if_pos hk
section JSE
variable {b : Bool} {d lv : Nat} {σ : aSt}
theorem js_compare {x y : Int32} (hd : 1 ≤ d) : a_call (a_tabJ b) (P_J b lv) d 2019 [.int x, .int y] σ = some (.inl (some (.int (q_cmp x y))), σ) := by
  refine (e_call hd aj_J6_compare_7cf53 rfl).trans ?_
  show b_R _ kJ6_compare_7cf53 [] (0, [some (.int x), some (.int y)], [], _) = _
  refine (e_iload_n (code := kJ6_compare_7cf53) (pc := 0) rfl rfl).trans ?_
  refine (e_iload_n (code := kJ6_compare_7cf53) (pc := 1) rfl rfl).trans ?_
  refine (e_icge (code := kJ6_compare_7cf53) (pc := 2) rfl).trans ?_
  unfold q_cmp
  by_cases h : x < y
  · rw [if_pos h, if_pos h]
    refine (e_iconst (code := kJ6_compare_7cf53) (pc := 5) rfl).trans ?_
    refine (e_goto (code := kJ6_compare_7cf53) (pc := 6) rfl).trans ?_
    exact e_ireturn rfl
  · rw [if_neg h, if_neg h]
    refine (e_iload_n (code := kJ6_compare_7cf53) (pc := 9) rfl rfl).trans ?_
    refine (e_iload_n (code := kJ6_compare_7cf53) (pc := 10) rfl rfl).trans ?_
    refine (e_icne (code := kJ6_compare_7cf53) (pc := 11) rfl).trans ?_
    by_cases h2 : x = y
    · rw [if_pos h2, if_pos h2]
      refine (e_iconst (code := kJ6_compare_7cf53) (pc := 14) rfl).trans ?_
      refine (e_goto (code := kJ6_compare_7cf53) (pc := 15) rfl).trans ?_
      exact e_ireturn rfl
    · rw [if_neg h2, if_neg h2]
      refine (e_iconst (code := kJ6_compare_7cf53) (pc := 18) rfl).trans ?_
      exact e_ireturn rfl
def J_bc0 (x : Int32) : Int32 := (x.toUInt32 >>> ((1 : Int32).toUInt32 &&& Int32.toUInt32 31)).toInt32
def J_u (x k : Int32) : Int32 := (x.toUInt32 >>> (k.toUInt32 &&& Int32.toUInt32 31)).toInt32
def J_b1 (x : Int32) : Int32 := x - (J_u x 1 &&& 1431655765)
def J_b2 (x : Int32) : Int32 := (x &&& 858993459) + (J_u x 2 &&& 858993459)
def J_b3 (x : Int32) : Int32 := (x + J_u x 4) &&& 252645135
def J_b4 (x : Int32) : Int32 := x + J_u x 8
def J_b5 (x : Int32) : Int32 := x + J_u x 16
def J_bits (x : Int32) : Int32 := J_b5 (J_b4 (J_b3 (J_b2 (J_b1 x)))) &&& 63
theorem js_bits {x : Int32} (hd : 1 ≤ d) : a_call (a_tabJ b) (P_J b lv) d 2020 [.int x] σ = some (.inl (some (.int (J_bits x))), σ) := by
  refine (e_call hd aj_J6_bitCount_0f7a4 rfl).trans ?_
  show b_R _ kJ6_bitCount_0f7a4 [] (0, [some (.int x)], [], _) = _
  refine (e_iload_n (code := kJ6_bitCount_0f7a4) (pc := 0) rfl rfl).trans ?_
  refine (e_iload_n (code := kJ6_bitCount_0f7a4) (pc := 1) rfl rfl).trans ?_
  refine (e_iconst (code := kJ6_bitCount_0f7a4) (pc := 2) rfl).trans ?_
  refine (e_iushr (code := kJ6_bitCount_0f7a4) (pc := 3) rfl).trans ?_
  refine (e_ldc_wI (code := kJ6_bitCount_0f7a4) (pc := 4) rfl).trans ?_
  refine (e_iand (code := kJ6_bitCount_0f7a4) (pc := 7) rfl).trans ?_
  refine (e_isub (code := kJ6_bitCount_0f7a4) (pc := 8) rfl).trans ?_
  refine (e_istore_n (code := kJ6_bitCount_0f7a4) (pc := 9) rfl rfl rfl).trans ?_
  refine (e_iload_n (code := kJ6_bitCount_0f7a4) (pc := 10) rfl rfl).trans ?_
  refine (e_ldc_wI (code := kJ6_bitCount_0f7a4) (pc := 11) rfl).trans ?_
  refine (e_iand (code := kJ6_bitCount_0f7a4) (pc := 14) rfl).trans ?_
  refine (e_iload_n (code := kJ6_bitCount_0f7a4) (pc := 15) rfl rfl).trans ?_
  refine (e_iconst (code := kJ6_bitCount_0f7a4) (pc := 16) rfl).trans ?_
  refine (e_iushr (code := kJ6_bitCount_0f7a4) (pc := 17) rfl).trans ?_
  refine (e_ldc_wI (code := kJ6_bitCount_0f7a4) (pc := 18) rfl).trans ?_
  refine (e_iand (code := kJ6_bitCount_0f7a4) (pc := 21) rfl).trans ?_
  refine (e_iadd (code := kJ6_bitCount_0f7a4) (pc := 22) rfl).trans ?_
  refine (e_istore_n (code := kJ6_bitCount_0f7a4) (pc := 23) rfl rfl rfl).trans ?_
  refine (e_iload_n (code := kJ6_bitCount_0f7a4) (pc := 24) rfl rfl).trans ?_
  refine (e_iload_n (code := kJ6_bitCount_0f7a4) (pc := 25) rfl rfl).trans ?_
  refine (e_iconst (code := kJ6_bitCount_0f7a4) (pc := 26) rfl).trans ?_
  refine (e_iushr (code := kJ6_bitCount_0f7a4) (pc := 27) rfl).trans ?_
  refine (e_iadd (code := kJ6_bitCount_0f7a4) (pc := 28) rfl).trans ?_
  refine (e_ldc_wI (code := kJ6_bitCount_0f7a4) (pc := 29) rfl).trans ?_
  refine (e_iand (code := kJ6_bitCount_0f7a4) (pc := 32) rfl).trans ?_
  refine (e_istore_n (code := kJ6_bitCount_0f7a4) (pc := 33) rfl rfl rfl).trans ?_
  refine (e_iload_n (code := kJ6_bitCount_0f7a4) (pc := 34) rfl rfl).trans ?_
  refine (e_iload_n (code := kJ6_bitCount_0f7a4) (pc := 35) rfl rfl).trans ?_
  refine (e_bipush (code := kJ6_bitCount_0f7a4) (pc := 36) rfl).trans ?_
  refine (e_iushr (code := kJ6_bitCount_0f7a4) (pc := 38) rfl).trans ?_
  refine (e_iadd (code := kJ6_bitCount_0f7a4) (pc := 39) rfl).trans ?_
  refine (e_istore_n (code := kJ6_bitCount_0f7a4) (pc := 40) rfl rfl rfl).trans ?_
  refine (e_iload_n (code := kJ6_bitCount_0f7a4) (pc := 41) rfl rfl).trans ?_
  refine (e_iload_n (code := kJ6_bitCount_0f7a4) (pc := 42) rfl rfl).trans ?_
  refine (e_bipush (code := kJ6_bitCount_0f7a4) (pc := 43) rfl).trans ?_
  refine (e_iushr (code := kJ6_bitCount_0f7a4) (pc := 45) rfl).trans ?_
  refine (e_iadd (code := kJ6_bitCount_0f7a4) (pc := 46) rfl).trans ?_
  refine (e_istore_n (code := kJ6_bitCount_0f7a4) (pc := 47) rfl rfl rfl).trans ?_
  refine (e_iload_n (code := kJ6_bitCount_0f7a4) (pc := 48) rfl rfl).trans ?_
  refine (e_bipush (code := kJ6_bitCount_0f7a4) (pc := 49) rfl).trans ?_
  refine (e_iand (code := kJ6_bitCount_0f7a4) (pc := 51) rfl).trans ?_
  exact e_ireturn rfl
theorem js_lat {a : Nat} (hk : a_kd σ a = 11) (h0 : a_I σ a 1 = 0) (hd : 1 ≤ d) : a_call (a_tabJ b) (P_J b lv) d 2014 [.ref a] σ = some (.inl (some (.int (nI 1))), σ) := by
  refine (e_call hd aj_J5_isLatin1_aae02 rfl).trans ?_
  show b_R _ kJ5_isLatin1_aae02 [] (0, [some (.ref a)], [], _) = _
  refine (e_gets (code := kJ5_isLatin1_aae02) (pc := 0) rfl).trans ?_
  refine ((e_ifeq (code := kJ5_isLatin1_aae02) (pc := 3) rfl).trans (if_neg (by decide))).trans ?_
  refine (e_aload_n (code := kJ5_isLatin1_aae02) (pc := 6) rfl rfl).trans ?_
  refine (e_getI (code := kJ5_isLatin1_aae02) (pc := 7) rfl hk rfl).trans ?_
  refine ((e_ifne (code := kJ5_isLatin1_aae02) (pc := 10) rfl).trans (if_pos h0)).trans ?_
  refine (e_iconst (code := kJ5_isLatin1_aae02) (pc := 13) rfl).trans ?_
  refine (e_goto (code := kJ5_isLatin1_aae02) (pc := 14) rfl).trans ?_
  exact e_zret1 rfl (.inr rfl)
theorem js_enc {c : Nat} (hc9 : c < 256) (hd : 1 ≤ d) : a_call (a_tabJ b) (P_J b lv) d 2022 [.int (nI c)] σ = some (.inl (some (.int (nI 1))), σ) := by
  refine (e_call hd aj_J1_canEncode_fc78d rfl).trans ?_
  show b_R _ kJ1_canEncode_fc78d [] (0, [some (.int (nI c))], [], _) = _
  refine (e_iload_n (code := kJ1_canEncode_fc78d) (pc := 0) rfl rfl).trans ?_
  refine (e_sipush (code := kJ1_canEncode_fc78d) (pc := 1) rfl).trans ?_
  refine ((e_icgt (code := kJ1_canEncode_fc78d) (pc := 4) rfl).trans (if_neg (nIn (a := 255) (b := c) (by omega) (by decide)))).trans ?_
  refine (e_iconst (code := kJ1_canEncode_fc78d) (pc := 7) rfl).trans ?_
  refine (e_goto (code := kJ1_canEncode_fc78d) (pc := 8) rfl).trans ?_
  exact e_zret1 rfl (.inr rfl)
theorem js_lenA {a : Nat} (hk : a_kd σ a = 11) (hd : 1 ≤ d) : a_call (a_tabJ b) (P_J b lv) d 2009 [.ref a] σ = some (.inl (some (.int (a_I σ a 3))), σ) := by
  refine (e_call hd aj_J5_length_8abf5 rfl).trans ?_
  show b_R _ kJ5_length_8abf5 [] (0, [some (.ref a)], [], _) = _
  refine (e_aload_n (code := kJ5_length_8abf5) (pc := 0) rfl rfl).trans ?_
  refine (e_getI (code := kJ5_length_8abf5) (pc := 1) rfl hk rfl).trans ?_
  exact e_ireturn rfl
theorem js_len {a : Nat} (hk : a_kd σ a = 11) (hd : 2 ≤ d) : a_call (a_tabJ b) (P_J b lv) d 2008 [.ref a] σ = some (.inl (some (.int (a_I σ a 3))), σ) := by
  have hd1 : 1 ≤ d - 1 := by omega
  have hd : 1 ≤ d := by omega
  refine (e_call hd aj_J4_length_8abf5 rfl).trans ?_
  show b_R _ kJ4_length_8abf5 [] (0, [some (.ref a)], [], _) = _
  refine (e_aload_n (code := kJ4_length_8abf5) (pc := 0) rfl rfl).trans ?_
  refine (e_callU (code := kJ4_length_8abf5) (pc := 1) (len := 3) (k := 2009) (n := 1) (c := 11) (as := [.ref a]) (st0 := []) rfl rfl rfl rfl rfl hk rfl).trans ?_
  rw [js_lenA hk hd1, g_v]
  exact e_ireturn rfl
def J_sl (σ : aSt) (a : Nat) : aSt := if nI 0 < a_I σ a 3 then a_setI (a_setI σ a 2 1) a 3 (nI 0) else a_setI σ a 3 (nI 0)
theorem js_ens {a v m k : Nat} (hk : a_kd σ a = 11) (hv : a_R σ a 0 = some v) (h7 : a_kd σ v = 7) (hm9 : a_ln σ v = m) (hm2 : m < 2147483648) (h0 : a_I σ a 1 = 0) (hkm : k ≤ m) (hd : 1 ≤ d) : a_call (a_tabJ b) (P_J b lv) d 2012 [.ref a, .int (nI k)] σ = some (.inl none, σ) := by
  refine (e_call hd aj_J5_ensureCapacityInternal_d00df rfl).trans ?_
  show b_R _ kJ5_ensureCapacityInternal_d00df [] (0, [some (.ref a), some (.int (nI k)), none], [], _) = _
  refine (e_aload_n (code := kJ5_ensureCapacityInternal_d00df) (pc := 0) rfl rfl).trans ?_
  refine (e_getR (code := kJ5_ensureCapacityInternal_d00df) (pc := 1) rfl hk hv).trans ?_
  refine (e_alen7 (code := kJ5_ensureCapacityInternal_d00df) (pc := 4) rfl h7 hm9 hm2).trans ?_
  refine (e_aload_n (code := kJ5_ensureCapacityInternal_d00df) (pc := 5) rfl rfl).trans ?_
  refine (e_getI (code := kJ5_ensureCapacityInternal_d00df) (pc := 6) rfl hk rfl).trans ?_
  rw [h0]
  refine (e_ishr (code := kJ5_ensureCapacityInternal_d00df) (pc := 9) rfl).trans ?_
  rw [jz_shr]
  refine (e_istore_n (code := kJ5_ensureCapacityInternal_d00df) (pc := 10) rfl rfl rfl).trans ?_
  refine (e_iload_n (code := kJ5_ensureCapacityInternal_d00df) (pc := 11) rfl rfl).trans ?_
  refine (e_iload_n (code := kJ5_ensureCapacityInternal_d00df) (pc := 12) rfl rfl).trans ?_
  refine (e_isub (code := kJ5_ensureCapacityInternal_d00df) (pc := 13) rfl).trans ?_
  refine ((e_ifle (code := kJ5_ensureCapacityInternal_d00df) (pc := 14) rfl).trans (if_neg ?_)).trans ?_
  · exact n_subn hkm hm2
  exact e_return_ rfl
theorem js_P20e {a v m k : Nat} (hk : a_kd σ a = 11) (hv : a_R σ a 0 = some v) (h7 : a_kd σ v = 7) (hm9 : a_ln σ v = m) (hm2 : m < 2147483648) (h0 : a_I σ a 1 = 0) (hkm : k ≤ m) : P_J b (lv + 1) 1020 [.ref a, .int (nI k)] σ = some (.inl none, σ) := by
  rw [P_J_ens]
  rw [J_r_at hk, js_ens hk hv h7 hm9 hm2 h0 hkm (by decide)]
  rfl
theorem js_setA {a v m : Nat} (hk : a_kd σ a = 11) (ha : 100 ≤ a) (hv : a_R σ a 0 = some v) (h7 : a_kd σ v = 7) (hm9 : a_ln σ v = m) (hm2 : m < 2147483648) (h0 : a_I σ a 1 = 0) (h3 : ¬ a_I σ a 3 < nI 0) (hd : 2 ≤ d) : a_call (a_tabJ b) (P_J b (lv + 1)) d 2007 [.ref a, .int (nI 0)] σ = some (.inl none, J_sl σ a) := by
  have hd1 : 1 ≤ d - 1 := by omega
  have hd : 1 ≤ d := by omega
  refine (e_call hd aj_J5_setLength_d00df rfl).trans ?_
  show b_R _ kJ5_setLength_d00df [] (0, [some (.ref a), some (.int (nI 0))], [], _) = _
  refine (e_iload_n (code := kJ5_setLength_d00df) (pc := 0) rfl rfl).trans ?_
  refine ((e_ifge (code := kJ5_setLength_d00df) (pc := 1) rfl).trans (if_neg (by decide))).trans ?_
  refine (e_aload_n (code := kJ5_setLength_d00df) (pc := 13) rfl rfl).trans ?_
  refine (e_iload_n (code := kJ5_setLength_d00df) (pc := 14) rfl rfl).trans ?_
  refine (e_callP (code := kJ5_setLength_d00df) (pc := 15) (len := 3) (k := 1020) (n := 2) (as := [.ref a, .int (nI 0)]) (st0 := []) rfl rfl rfl rfl).trans ?_
  rw [e_callP0 (show a_tabJ b 1020 = none from rfl), js_P20e hk hv h7 hm9 hm2 h0 (Nat.zero_le m), g_n]
  refine (e_aload_n (code := kJ5_setLength_d00df) (pc := 18) rfl rfl).trans ?_
  refine (e_getI (code := kJ5_setLength_d00df) (pc := 19) rfl hk rfl).trans ?_
  refine (e_iload_n (code := kJ5_setLength_d00df) (pc := 22) rfl rfl).trans ?_
  refine ((e_icge (code := kJ5_setLength_d00df) (pc := 23) rfl).trans (if_neg h3)).trans ?_
  refine (e_aload_n (code := kJ5_setLength_d00df) (pc := 63) rfl rfl).trans ?_
  refine (e_getI (code := kJ5_setLength_d00df) (pc := 64) rfl hk rfl).trans ?_
  refine (e_iload_n (code := kJ5_setLength_d00df) (pc := 67) rfl rfl).trans ?_
  unfold J_sl
  refine (e_icle (code := kJ5_setLength_d00df) (pc := 68) rfl).trans ?_
  by_cases h : nI 0 < a_I σ a 3
  · rw [if_pos h, if_pos h]
    refine (e_aload_n (code := kJ5_setLength_d00df) (pc := 71) rfl rfl).trans ?_
    refine (e_iconst (code := kJ5_setLength_d00df) (pc := 72) rfl).trans ?_
    refine (e_putZ (code := kJ5_setLength_d00df) (pc := 73) rfl hk ha (.inr rfl)).trans ?_
    refine (e_aload_n (code := kJ5_setLength_d00df) (pc := 76) rfl rfl).trans ?_
    refine (e_iload_n (code := kJ5_setLength_d00df) (pc := 77) rfl rfl).trans ?_
    refine (e_putI (code := kJ5_setLength_d00df) (pc := 78) (σ := a_setI σ a 2 1) rfl hk ha).trans ?_
    exact e_return_ rfl
  · rw [if_neg h, if_neg h]
    refine (e_aload_n (code := kJ5_setLength_d00df) (pc := 76) rfl rfl).trans ?_
    refine (e_iload_n (code := kJ5_setLength_d00df) (pc := 77) rfl rfl).trans ?_
    refine (e_putI (code := kJ5_setLength_d00df) (pc := 78) rfl hk ha).trans ?_
    exact e_return_ rfl
theorem js_set {a v m : Nat} (hk : a_kd σ a = 11) (ha : 100 ≤ a) (hv : a_R σ a 0 = some v) (h7 : a_kd σ v = 7) (hm9 : a_ln σ v = m) (hm2 : m < 2147483648) (h0 : a_I σ a 1 = 0) (h3 : ¬ a_I σ a 3 < nI 0) (hd : 3 ≤ d) : a_call (a_tabJ b) (P_J b (lv + 1)) d 2006 [.ref a, .int (nI 0)] σ = some (.inl none, J_sl σ a) := by
  have hd1 : 2 ≤ d - 1 := by omega
  have hd : 1 ≤ d := by omega
  refine (e_call hd aj_J4_setLength_d00df rfl).trans ?_
  show b_R _ kJ4_setLength_d00df [] (0, [some (.ref a), some (.int (nI 0))], [], _) = _
  refine (e_aload_n (code := kJ4_setLength_d00df) (pc := 0) rfl rfl).trans ?_
  refine (e_iload_n (code := kJ4_setLength_d00df) (pc := 1) rfl rfl).trans ?_
  refine (e_callU (code := kJ4_setLength_d00df) (pc := 2) (len := 3) (k := 2007) (n := 2) (c := 11) (as := [.ref a, .int (nI 0)]) (st0 := []) rfl rfl rfl rfl rfl hk rfl).trans ?_
  rw [js_setA hk ha hv h7 hm9 hm2 h0 h3 hd1, g_n]
  exact e_return_ rfl
theorem js_newl {m : Nat} (hm9 : m < 1000) (hd : 1 ≤ d) : a_call (a_tabJ b) (P_J b lv) d 2015 [.int (nI m), .int (nI 1), .int (nI (m + 2))] σ = some (.inl (some (.int (nI (2 * m + 2)))), σ) := by
  refine (e_call hd aj_J8_newLength_cabcc rfl).trans ?_
  show b_R _ kJ8_newLength_cabcc [] (0, [some (.int (nI m)), some (.int (nI 1)), some (.int (nI (m + 2))), none], [], _) = _
  refine (e_iload_n (code := kJ8_newLength_cabcc) (pc := 0) rfl rfl).trans ?_
  refine (e_iload_n (code := kJ8_newLength_cabcc) (pc := 1) rfl rfl).trans ?_
  refine (e_iload_n (code := kJ8_newLength_cabcc) (pc := 2) rfl rfl).trans ?_
  refine (e_callS (code := kJ8_newLength_cabcc) (pc := 3) (len := 3) (k := 1002) (n := 2) (as := [.int (nI 1), .int (nI (m + 2))]) (st0 := [.int (nI m)]) rfl rfl rfl rfl).trans ?_
  rw [j_max hm9, g_v]
  refine (e_iadd (code := kJ8_newLength_cabcc) (pc := 6) rfl).trans ?_
  rw [nI_add, show m + (m + 2) = 2 * m + 2 by omega]
  refine (e_istore_n (code := kJ8_newLength_cabcc) (pc := 7) rfl rfl rfl).trans ?_
  refine (e_iconst (code := kJ8_newLength_cabcc) (pc := 8) rfl).trans ?_
  refine (e_iload_n (code := kJ8_newLength_cabcc) (pc := 9) rfl rfl).trans ?_
  refine ((e_icge (code := kJ8_newLength_cabcc) (pc := 10) rfl).trans (if_pos (nIl (a := 0) (by omega) (by omega)))).trans ?_
  refine (e_iload_n (code := kJ8_newLength_cabcc) (pc := 13) rfl rfl).trans ?_
  refine (e_ldcI (code := kJ8_newLength_cabcc) (pc := 14) rfl).trans ?_
  refine ((e_icgt (code := kJ8_newLength_cabcc) (pc := 16) rfl).trans (if_neg (nIn (a := 2147483639) (by omega) (by decide)))).trans ?_
  refine (e_iload_n (code := kJ8_newLength_cabcc) (pc := 19) rfl rfl).trans ?_
  exact e_ireturn rfl
theorem js_newc {a v m : Nat} (hk : a_kd σ a = 11) (hv : a_R σ a 0 = some v) (h7 : a_kd σ v = 7) (hm9 : a_ln σ v = m) (hm2 : m < 1000) (h0 : a_I σ a 1 = 0) (hd : 2 ≤ d) : a_call (a_tabJ b) (P_J b lv) d 2013 [.ref a, .int (nI (m + 1))] σ = some (.inl (some (.int (nI (2 * m + 2)))), σ) := by
  have hd1 : 1 ≤ d - 1 := by omega
  have hd : 1 ≤ d := by omega
  refine (e_call hd aj_J5_newCapacity_0f7a4 rfl).trans ?_
  show b_R _ kJ5_newCapacity_0f7a4 [] (0, [some (.ref a), some (.int (nI (m + 1))), none, none, none, none], [], _) = _
  refine (e_aload_n (code := kJ5_newCapacity_0f7a4) (pc := 0) rfl rfl).trans ?_
  refine (e_getR (code := kJ5_newCapacity_0f7a4) (pc := 1) rfl hk hv).trans ?_
  refine (e_alen7 (code := kJ5_newCapacity_0f7a4) (pc := 4) rfl h7 hm9 (by omega)).trans ?_
  refine (e_istore_n (code := kJ5_newCapacity_0f7a4) (pc := 5) rfl rfl rfl).trans ?_
  refine (e_iload_n (code := kJ5_newCapacity_0f7a4) (pc := 6) rfl rfl).trans ?_
  refine (e_aload_n (code := kJ5_newCapacity_0f7a4) (pc := 7) rfl rfl).trans ?_
  refine (e_getI (code := kJ5_newCapacity_0f7a4) (pc := 8) rfl hk rfl).trans ?_
  rw [h0]
  refine (e_ishl (code := kJ5_newCapacity_0f7a4) (pc := 11) rfl).trans ?_
  rw [jz_shl]
  refine (e_istore_n (code := kJ5_newCapacity_0f7a4) (pc := 12) rfl rfl rfl).trans ?_
  refine (e_iload_n (code := kJ5_newCapacity_0f7a4) (pc := 13) rfl rfl).trans ?_
  refine (e_iload_n (code := kJ5_newCapacity_0f7a4) (pc := 14) rfl rfl).trans ?_
  refine (e_isub (code := kJ5_newCapacity_0f7a4) (pc := 15) rfl).trans ?_
  rw [pk_sub (Nat.le_succ m), show m + 1 - m = 1 by omega]
  refine (e_istore (code := kJ5_newCapacity_0f7a4) (pc := 16) rfl rfl rfl).trans ?_
  refine (e_iload_n (code := kJ5_newCapacity_0f7a4) (pc := 18) rfl rfl).trans ?_
  refine (e_iload (code := kJ5_newCapacity_0f7a4) (pc := 19) rfl rfl).trans ?_
  refine (e_iload_n (code := kJ5_newCapacity_0f7a4) (pc := 21) rfl rfl).trans ?_
  refine (e_iconst (code := kJ5_newCapacity_0f7a4) (pc := 22) rfl).trans ?_
  refine (e_aload_n (code := kJ5_newCapacity_0f7a4) (pc := 23) rfl rfl).trans ?_
  refine (e_getI (code := kJ5_newCapacity_0f7a4) (pc := 24) rfl hk rfl).trans ?_
  rw [h0]
  refine (e_ishl (code := kJ5_newCapacity_0f7a4) (pc := 27) rfl).trans ?_
  rw [jz_shl]
  refine (e_iadd (code := kJ5_newCapacity_0f7a4) (pc := 28) rfl).trans ?_
  rw [show (2 : Int32) = nI 2 from rfl, nI_add]
  refine (e_callS (code := kJ5_newCapacity_0f7a4) (pc := 29) (len := 3) (k := 2015) (n := 3) (as := [.int (nI m), .int (nI 1), .int (nI (m + 2))]) (st0 := []) rfl rfl rfl rfl).trans ?_
  rw [js_newl hm2 hd1, g_v]
  refine (e_istore (code := kJ5_newCapacity_0f7a4) (pc := 32) rfl rfl rfl).trans ?_
  refine (e_iload (code := kJ5_newCapacity_0f7a4) (pc := 34) rfl rfl).trans ?_
  refine (e_ldcI (code := kJ5_newCapacity_0f7a4) (pc := 36) rfl).trans ?_
  refine ((e_icne (code := kJ5_newCapacity_0f7a4) (pc := 38) rfl).trans (if_neg (fun z => absurd ((nI_eq (a := 2 * m + 2) (b := 2147483647) (by omega) (by decide)).mp z) (by omega)))).trans ?_
  refine (e_iload (code := kJ5_newCapacity_0f7a4) (pc := 51) rfl rfl).trans ?_
  refine (e_aload_n (code := kJ5_newCapacity_0f7a4) (pc := 53) rfl rfl).trans ?_
  refine (e_getI (code := kJ5_newCapacity_0f7a4) (pc := 54) rfl hk rfl).trans ?_
  rw [h0]
  refine (e_ishr (code := kJ5_newCapacity_0f7a4) (pc := 57) rfl).trans ?_
  rw [jz_shr]
  exact e_ireturn rfl
theorem js_P21 {a v m : Nat} (hk : a_kd σ a = 11) (hv : a_R σ a 0 = some v) (h7 : a_kd σ v = 7) (hm9 : a_ln σ v = m) (hm2 : m < 1000) (h0 : a_I σ a 1 = 0) : P_J b (lv + 1) 1021 [.ref a, .int (nI (m + 1))] σ = some (.inl (some (.int (nI (2 * m + 2)))), σ) := by
  rw [P_J_new]
  rw [J_r_at hk, js_newc hk hv h7 hm9 hm2 h0 (by decide)]
  rfl
theorem js_copy {v m q : Nat} (h7 : a_kd σ v = 7) (hm9 : a_ln σ v = m) (hvn : v < a_n σ) (hmq : m < q) (hq : q ≤ 65536) (hf : ∀ i, i < m → fits .byte (.int (a_I σ v i)) = true) (hd : 1 ≤ d) : a_call (a_tabJ b) (P_J b lv) d 2016 [.ref v, .int (nI q)] σ = some (.inl (some (.ref (a_n σ))), J_gr σ v q m) := by
  have hv2 : v ≠ a_n σ := by omega
  have k1 : a_kd (a_new σ 7 q q) v = 7 := (congrArg Prod.fst (if_neg hv2)).trans h7
  have k2 : a_ln (a_new σ 7 q q) v = m := (congrArg Prod.snd (if_neg hv2)).trans hm9
  have k3 : a_kd (a_new σ 7 q q) (a_n σ) = 7 := congrArg Prod.fst (if_pos rfl)
  have k4 : m ≤ a_ln (a_new σ 7 q q) (a_n σ) := by rw [show a_ln (a_new σ 7 q q) (a_n σ) = q from congrArg Prod.snd (if_pos rfl)]; exact Nat.le_of_lt hmq
  have hm3 : m < 2147483648 := by omega
  have hf2 : ∀ i, i < m → fits .byte (.int (a_I (a_new σ 7 q q) v i)) = true := fun i hi => by rw [show a_I (a_new σ 7 q q) v i = a_I σ v i from if_neg hv2]; exact hf i hi
  refine (e_call hd aj_J7_copyOf_9075b rfl).trans ?_
  show b_R _ kJ7_copyOf_9075b [] (0, [some (.ref v), some (.int (nI q)), none], [], _) = _
  refine (e_iload_n (code := kJ7_copyOf_9075b) (pc := 0) rfl rfl).trans ?_
  refine (e_aload_n (code := kJ7_copyOf_9075b) (pc := 1) rfl rfl).trans ?_
  refine (e_alen7 (code := kJ7_copyOf_9075b) (pc := 2) rfl h7 hm9 (by omega)).trans ?_
  refine ((e_icne (code := kJ7_copyOf_9075b) (pc := 3) rfl).trans (if_neg (fun z => absurd ((nI_eq (by omega) (by omega)).mp z) (by omega)))).trans ?_
  refine (e_iload_n (code := kJ7_copyOf_9075b) (pc := 14) rfl rfl).trans ?_
  refine (e_newarray (code := kJ7_copyOf_9075b) (pc := 15) (m := q) rfl (nI_pos (by omega)) (nI_clamp (by omega)) hq).trans ?_
  refine (e_astore_n (code := kJ7_copyOf_9075b) (pc := 17) rfl rfl rfl).trans ?_
  refine (e_aload_n (code := kJ7_copyOf_9075b) (pc := 18) rfl rfl).trans ?_
  refine (e_iconst (code := kJ7_copyOf_9075b) (pc := 19) rfl).trans ?_
  refine (e_aload_n (code := kJ7_copyOf_9075b) (pc := 20) rfl rfl).trans ?_
  refine (e_iconst (code := kJ7_copyOf_9075b) (pc := 21) rfl).trans ?_
  refine (e_aload_n (code := kJ7_copyOf_9075b) (pc := 22) rfl rfl).trans ?_
  refine (e_alen7 (code := kJ7_copyOf_9075b) (pc := 23) rfl k1 k2 (by omega)).trans ?_
  refine (e_iload_n (code := kJ7_copyOf_9075b) (pc := 24) rfl rfl).trans ?_
  refine (e_callS (code := kJ7_copyOf_9075b) (pc := 25) (len := 3) (k := 1000) (n := 2) (as := [.int (nI m), .int (nI q)]) (st0 := [.int 0, .ref (a_n σ), .int 0, .ref v]) rfl rfl rfl rfl).trans ?_
  rw [j_min (Nat.le_of_lt hmq) (Nat.lt_of_le_of_lt hq (by decide)), g_v]
  refine (e_callS (code := kJ7_copyOf_9075b) (pc := 28) (len := 3) (k := 1005) (n := 5) (as := [.ref v, .int 0, .ref (a_n σ), .int 0, .int (nI m)]) (st0 := []) rfl rfl rfl rfl).trans ?_
  rw [j_cpy k1 k3 k2 k4 hm3 hf2, g_n]
  refine (e_aload_n (code := kJ7_copyOf_9075b) (pc := 31) rfl rfl).trans ?_
  exact e_areturnR rfl
theorem js_eng {a v m : Nat} (hk : a_kd σ a = 11) (ha : 100 ≤ a) (hv : a_R σ a 0 = some v) (h7 : a_kd σ v = 7) (hvn : v < a_n σ) (han : a < a_n σ) (hm9 : a_ln σ v = m) (hm2 : m < 1000) (h0 : a_I σ a 1 = 0) (hf : ∀ i, i < m → fits .byte (.int (a_I σ v i)) = true) (hd : 3 ≤ d) : a_call (a_tabJ b) (P_J b (lv + 1)) d 2012 [.ref a, .int (nI (m + 1))] σ = some (.inl none, a_setR (J_gr σ v (2 * m + 2) m) a 0 (some (a_n σ))) := by
  have hd1 : 1 ≤ d - 1 := by omega
  have hd2 : 2 ≤ d - 1 := by omega
  have hd : 1 ≤ d := by omega
  have kk : a_kd (J_gr σ v (2 * m + 2) m) a = 11 := (congrArg Prod.fst (if_neg (show a ≠ a_n σ by omega))).trans hk
  refine (e_call hd aj_J5_ensureCapacityInternal_d00df rfl).trans ?_
  show b_R _ kJ5_ensureCapacityInternal_d00df [] (0, [some (.ref a), some (.int (nI (m + 1))), none], [], _) = _
  refine (e_aload_n (code := kJ5_ensureCapacityInternal_d00df) (pc := 0) rfl rfl).trans ?_
  refine (e_getR (code := kJ5_ensureCapacityInternal_d00df) (pc := 1) rfl hk hv).trans ?_
  refine (e_alen7 (code := kJ5_ensureCapacityInternal_d00df) (pc := 4) rfl h7 hm9 (by omega)).trans ?_
  refine (e_aload_n (code := kJ5_ensureCapacityInternal_d00df) (pc := 5) rfl rfl).trans ?_
  refine (e_getI (code := kJ5_ensureCapacityInternal_d00df) (pc := 6) rfl hk rfl).trans ?_
  rw [h0]
  refine (e_ishr (code := kJ5_ensureCapacityInternal_d00df) (pc := 9) rfl).trans ?_
  rw [jz_shr]
  refine (e_istore_n (code := kJ5_ensureCapacityInternal_d00df) (pc := 10) rfl rfl rfl).trans ?_
  refine (e_iload_n (code := kJ5_ensureCapacityInternal_d00df) (pc := 11) rfl rfl).trans ?_
  refine (e_iload_n (code := kJ5_ensureCapacityInternal_d00df) (pc := 12) rfl rfl).trans ?_
  refine (e_isub (code := kJ5_ensureCapacityInternal_d00df) (pc := 13) rfl).trans ?_
  refine ((e_ifle (code := kJ5_ensureCapacityInternal_d00df) (pc := 14) rfl).trans (if_pos (n_subp (Nat.lt_succ_self m) (by omega)))).trans ?_
  refine (e_aload_n (code := kJ5_ensureCapacityInternal_d00df) (pc := 17) rfl rfl).trans ?_
  refine (e_aload_n (code := kJ5_ensureCapacityInternal_d00df) (pc := 18) rfl rfl).trans ?_
  refine (e_getR (code := kJ5_ensureCapacityInternal_d00df) (pc := 19) rfl hk hv).trans ?_
  refine (e_aload_n (code := kJ5_ensureCapacityInternal_d00df) (pc := 22) rfl rfl).trans ?_
  refine (e_iload_n (code := kJ5_ensureCapacityInternal_d00df) (pc := 23) rfl rfl).trans ?_
  refine (e_callP (code := kJ5_ensureCapacityInternal_d00df) (pc := 24) (len := 3) (k := 1021) (n := 2) (as := [.ref a, .int (nI (m + 1))]) (st0 := [.ref v, .ref a]) rfl rfl rfl rfl).trans ?_
  rw [e_callP0 (show a_tabJ b 1021 = none from rfl), js_P21 hk hv h7 hm9 hm2 h0, g_v]
  refine (e_aload_n (code := kJ5_ensureCapacityInternal_d00df) (pc := 27) rfl rfl).trans ?_
  refine (e_getI (code := kJ5_ensureCapacityInternal_d00df) (pc := 28) rfl hk rfl).trans ?_
  rw [h0]
  refine (e_ishl (code := kJ5_ensureCapacityInternal_d00df) (pc := 31) rfl).trans ?_
  rw [jz_shl]
  refine (e_callS (code := kJ5_ensureCapacityInternal_d00df) (pc := 32) (len := 3) (k := 2016) (n := 2) (as := [.ref v, .int (nI (2 * m + 2))]) (st0 := [.ref a]) rfl rfl rfl rfl).trans ?_
  rw [js_copy (q := 2 * m + 2) h7 hm9 hvn (by omega) (by omega) hf hd1, g_v]
  refine (e_putR (code := kJ5_ensureCapacityInternal_d00df) (pc := 35) rfl kk ha).trans ?_
  exact e_return_ rfl
theorem js_P20g {a v m : Nat} (hk : a_kd σ a = 11) (ha : 100 ≤ a) (hv : a_R σ a 0 = some v) (h7 : a_kd σ v = 7) (hvn : v < a_n σ) (han : a < a_n σ) (hm9 : a_ln σ v = m) (hm2 : m < 1000) (h0 : a_I σ a 1 = 0) (hf : ∀ i, i < m → fits .byte (.int (a_I σ v i)) = true) : P_J b (lv + 1 + 1) 1020 [.ref a, .int (nI (m + 1))] σ = some (.inl none, a_setR (J_gr σ v (2 * m + 2) m) a 0 (some (a_n σ))) := by
  rw [P_J_ens]
  rw [J_r_at hk, js_eng hk ha hv h7 hvn han hm9 hm2 h0 hf (by decide)]
  rfl
theorem js_appA {τ : aSt} {a v n c : Nat} (he : P_J b lv 1020 [.ref a, .int (nI (n + 1))] σ = some (.inl none, τ)) (hk0 : a_kd σ a = 11) (h30 : a_I σ a 3 = nI n) (hk : a_kd τ a = 11) (ha : 100 ≤ a) (hv : a_R τ a 0 = some v) (hva : v ≠ a) (hv1 : 100 ≤ v) (h7 : a_kd τ v = 7) (hn : n < a_ln τ v) (hn2 : n < 100000) (h0 : a_I τ a 1 = 0) (h3 : a_I τ a 3 = nI n) (hc9 : c < 128) (hd : 2 ≤ d) : a_call (a_tabJ b) (P_J b lv) d 2003 [.ref a, .int (nI c)] σ = some (.inl (some (.ref a)), a_setI (a_setI τ a 3 (nI (n + 1))) v n (nI c)) := by
  have hd1 : 1 ≤ d - 1 := by omega
  have hd : 1 ≤ d := by omega
  refine (e_call hd aj_J5_append_3fe6f rfl).trans ?_
  show b_R _ kJ5_append_3fe6f [] (0, [some (.ref a), some (.int (nI c))], [], _) = _
  refine (e_aload_n (code := kJ5_append_3fe6f) (pc := 0) rfl rfl).trans ?_
  refine (e_aload_n (code := kJ5_append_3fe6f) (pc := 1) rfl rfl).trans ?_
  refine (e_getI (code := kJ5_append_3fe6f) (pc := 2) rfl hk0 rfl).trans ?_
  refine (e_iconst (code := kJ5_append_3fe6f) (pc := 5) rfl).trans ?_
  refine (e_iadd (code := kJ5_append_3fe6f) (pc := 6) rfl).trans ?_
  rw [h30, show (1 : Int32) = nI 1 from rfl, nI_add]
  refine (e_callP (code := kJ5_append_3fe6f) (pc := 7) (len := 3) (k := 1020) (n := 2) (as := [.ref a, .int (nI (n + 1))]) (st0 := []) rfl rfl rfl rfl).trans ?_
  rw [e_callP0 (show a_tabJ b 1020 = none from rfl), he, g_n]
  refine (e_aload_n (code := kJ5_append_3fe6f) (pc := 10) rfl rfl).trans ?_
  refine (e_callV (code := kJ5_append_3fe6f) (pc := 11) (len := 3) (k := 2014) (n := 1) (c := 11) (as := [.ref a]) (st0 := []) rfl rfl rfl rfl rfl hk rfl).trans ?_
  rw [js_lat hk h0 hd1, g_v]
  refine ((e_ifeq (code := kJ5_append_3fe6f) (pc := 14) rfl).trans (if_neg (by decide))).trans ?_
  refine (e_iload_n (code := kJ5_append_3fe6f) (pc := 17) rfl rfl).trans ?_
  refine (e_callS (code := kJ5_append_3fe6f) (pc := 18) (len := 3) (k := 2022) (n := 1) (as := [.int (nI c)]) (st0 := []) rfl rfl rfl rfl).trans ?_
  rw [js_enc (c := c) (by omega) hd1, g_v]
  refine ((e_ifeq (code := kJ5_append_3fe6f) (pc := 21) rfl).trans (if_neg (by decide))).trans ?_
  refine (e_aload_n (code := kJ5_append_3fe6f) (pc := 24) rfl rfl).trans ?_
  refine (e_getR (code := kJ5_append_3fe6f) (pc := 25) rfl hk hv).trans ?_
  refine (e_aload_n (code := kJ5_append_3fe6f) (pc := 28) rfl rfl).trans ?_
  refine (e_dup (code := kJ5_append_3fe6f) (pc := 29) rfl rfl).trans ?_
  refine (e_getI (code := kJ5_append_3fe6f) (pc := 30) rfl hk rfl).trans ?_
  refine (e_dup_x1 (code := kJ5_append_3fe6f) (pc := 33) rfl rfl rfl).trans ?_
  refine (e_iconst (code := kJ5_append_3fe6f) (pc := 34) rfl).trans ?_
  refine (e_iadd (code := kJ5_append_3fe6f) (pc := 35) rfl).trans ?_
  refine (e_putI (code := kJ5_append_3fe6f) (pc := 36) rfl hk ha).trans ?_
  refine (e_iload_n (code := kJ5_append_3fe6f) (pc := 39) rfl rfl).trans ?_
  refine (e_i2b (code := kJ5_append_3fe6f) (pc := 40) rfl).trans ?_
  rw [h3, show (1 : Int32) = nI 1 from rfl, nI_add]
  refine (e_bastore (code := kJ5_append_3fe6f) (pc := 41) (σ := a_setI τ a 3 (nI (n + 1))) rfl h7 hv1 ⟨nI_pos (by omega), by rw [nI_clamp (by omega)]; exact hn⟩).trans ?_
  rw [nI_clamp (by omega), (j_byt c hc9).1]
  refine (e_goto (code := kJ5_append_3fe6f) (pc := 42) rfl).trans ?_
  refine (e_aload_n (code := kJ5_append_3fe6f) (pc := 75) rfl rfl).trans ?_
  exact e_areturnR rfl
theorem js_app {τ : aSt} {a : Nat} {x : Int32} (he : a_call (a_tabJ b) (P_J b lv) (d - 1) 2003 [.ref a, .int x] σ = some (.inl (some (.ref a)), τ)) (hk : a_kd σ a = 11) (hd : 1 ≤ d) : a_call (a_tabJ b) (P_J b lv) d 2002 [.ref a, .int x] σ = some (.inl (some (.ref a)), τ) := by
  refine (e_call hd aj_J4_append_cf468 rfl).trans ?_
  show b_R _ kJ4_append_cf468 [] (0, [some (.ref a), some (.int x)], [], _) = _
  refine (e_aload_n (code := kJ4_append_cf468) (pc := 0) rfl rfl).trans ?_
  refine (e_iload_n (code := kJ4_append_cf468) (pc := 1) rfl rfl).trans ?_
  refine (e_callU (code := kJ4_append_cf468) (pc := 2) (len := 3) (k := 2003) (n := 2) (c := 11) (as := [.ref a, .int x]) (st0 := []) rfl rfl rfl rfl rfl hk rfl).trans ?_
  rw [he, g_v]
  refine (e_pop (code := kJ4_append_cf468) (pc := 5) rfl rfl).trans ?_
  refine (e_aload_n (code := kJ4_append_cf468) (pc := 6) rfl rfl).trans ?_
  exact e_areturnR rfl
theorem js_ssz {v : Nat} (hv : v < 10) (hd : 1 ≤ d) : a_call (a_tabJ b) (P_J b lv) d 2017 [.int (nI v)] σ = some (.inl (some (.int (nI 1))), σ) := by
  obtain ⟨q1, q2, q39, q49, q59⟩ := j_dig v hv
  refine (e_call hd aj_J6_stringSize_0f7a4 rfl).trans ?_
  show b_R _ kJ6_stringSize_0f7a4 [] (0, [some (.int (nI v)), none, none, none], [], _) = _
  refine (e_iconst (code := kJ6_stringSize_0f7a4) (pc := 0) rfl).trans ?_
  refine (e_istore_n (code := kJ6_stringSize_0f7a4) (pc := 1) rfl rfl rfl).trans ?_
  refine (e_iload_n (code := kJ6_stringSize_0f7a4) (pc := 2) rfl rfl).trans ?_
  refine ((e_iflt (code := kJ6_stringSize_0f7a4) (pc := 3) rfl).trans (if_neg q1)).trans ?_
  refine (e_iconst (code := kJ6_stringSize_0f7a4) (pc := 6) rfl).trans ?_
  refine (e_istore_n (code := kJ6_stringSize_0f7a4) (pc := 7) rfl rfl rfl).trans ?_
  refine (e_iload_n (code := kJ6_stringSize_0f7a4) (pc := 8) rfl rfl).trans ?_
  refine (e_ineg (code := kJ6_stringSize_0f7a4) (pc := 9) rfl).trans ?_
  refine (e_istore_n (code := kJ6_stringSize_0f7a4) (pc := 10) rfl rfl rfl).trans ?_
  refine (e_bipush (code := kJ6_stringSize_0f7a4) (pc := 11) rfl).trans ?_
  refine (e_istore_n (code := kJ6_stringSize_0f7a4) (pc := 13) rfl rfl rfl).trans ?_
  refine (e_iconst (code := kJ6_stringSize_0f7a4) (pc := 14) rfl).trans ?_
  refine (e_istore_n (code := kJ6_stringSize_0f7a4) (pc := 15) rfl rfl rfl).trans ?_
  refine (e_iload_n (code := kJ6_stringSize_0f7a4) (pc := 16) rfl rfl).trans ?_
  refine (e_bipush (code := kJ6_stringSize_0f7a4) (pc := 17) rfl).trans ?_
  refine ((e_icge (code := kJ6_stringSize_0f7a4) (pc := 19) rfl).trans (if_pos (by decide))).trans ?_
  refine (e_iload_n (code := kJ6_stringSize_0f7a4) (pc := 22) rfl rfl).trans ?_
  refine (e_iload_n (code := kJ6_stringSize_0f7a4) (pc := 23) rfl rfl).trans ?_
  refine ((e_icle (code := kJ6_stringSize_0f7a4) (pc := 24) rfl).trans (if_pos q49)).trans ?_
  refine (e_iload_n (code := kJ6_stringSize_0f7a4) (pc := 27) rfl rfl).trans ?_
  refine (e_iload_n (code := kJ6_stringSize_0f7a4) (pc := 28) rfl rfl).trans ?_
  refine (e_iadd (code := kJ6_stringSize_0f7a4) (pc := 29) rfl).trans ?_
  exact e_ireturn rfl
theorem js_gch {v n a : Nat} (hv : v < 10) (h7 : a_kd σ a = 7) (ha : 100 ≤ a) (hn : n < a_ln σ a) (hn2 : n < 100000) (hd : 1 ≤ d) : a_call (a_tabJ b) (P_J b lv) d 2018 [.int (nI v), .int (nI (n + 1)), .ref a] σ = some (.inl (some (.int (nI n))), a_setI σ a n (nI (48 + v))) := by
  obtain ⟨q1, q2, q39, q49, q59⟩ := j_dig v hv
  refine (e_call hd aj_J6_getChars_ba4f3 rfl).trans ?_
  show b_R _ kJ6_getChars_ba4f3 [] (0, [some (.int (nI v)), some (.int (nI (n + 1))), some (.ref a), none, none, none, none], [], _) = _
  refine (e_iload_n (code := kJ6_getChars_ba4f3) (pc := 0) rfl rfl).trans ?_
  refine (e_istore (code := kJ6_getChars_ba4f3) (pc := 1) rfl rfl rfl).trans ?_
  refine (e_iload_n (code := kJ6_getChars_ba4f3) (pc := 3) rfl rfl).trans ?_
  refine ((e_ifge (code := kJ6_getChars_ba4f3) (pc := 4) rfl).trans (if_neg q1)).trans ?_
  refine (e_iconst (code := kJ6_getChars_ba4f3) (pc := 11) rfl).trans ?_
  refine (e_istore (code := kJ6_getChars_ba4f3) (pc := 12) rfl rfl rfl).trans ?_
  refine (e_iload (code := kJ6_getChars_ba4f3) (pc := 14) rfl rfl).trans ?_
  refine ((e_ifne (code := kJ6_getChars_ba4f3) (pc := 16) rfl).trans (if_pos rfl)).trans ?_
  refine (e_iload_n (code := kJ6_getChars_ba4f3) (pc := 19) rfl rfl).trans ?_
  refine (e_ineg (code := kJ6_getChars_ba4f3) (pc := 20) rfl).trans ?_
  refine (e_istore_n (code := kJ6_getChars_ba4f3) (pc := 21) rfl rfl rfl).trans ?_
  refine (e_iload_n (code := kJ6_getChars_ba4f3) (pc := 22) rfl rfl).trans ?_
  refine (e_bipush (code := kJ6_getChars_ba4f3) (pc := 23) rfl).trans ?_
  refine ((e_icgt (code := kJ6_getChars_ba4f3) (pc := 25) rfl).trans (if_pos q2)).trans ?_
  refine (e_aload_n (code := kJ6_getChars_ba4f3) (pc := 72) rfl rfl).trans ?_
  refine (e_iinc (code := kJ6_getChars_ba4f3) (pc := 73) rfl rfl rfl rfl).trans ?_
  refine (e_iload (code := kJ6_getChars_ba4f3) (pc := 76) rfl rfl).trans ?_
  rw [pk_m1]
  refine (e_getsR (code := kJ6_getChars_ba4f3) (pc := 78) rfl rfl).trans ?_
  refine (e_iload_n (code := kJ6_getChars_ba4f3) (pc := 81) rfl rfl).trans ?_
  refine (e_ineg (code := kJ6_getChars_ba4f3) (pc := 82) rfl).trans ?_
  rw [q59]
  refine (e_baloadT (code := kJ6_getChars_ba4f3) (pc := 83) rfl (by decide) ⟨nI_pos (by omega), by rw [nI_clamp (by omega)]; exact Nat.lt_of_lt_of_le hv (by decide)⟩).trans ?_
  rw [nI_clamp (n := v) (by omega), j_tbl v hv]
  have e48 : vp_nar .byte (Int32.ofNat (48 + v)) = nI (48 + v) := (j_byt (48 + v) (by omega)).2.1
  refine (e_bastore (code := kJ6_getChars_ba4f3) (pc := 84) rfl h7 ha ⟨nI_pos (by omega), by rw [nI_clamp (by omega)]; exact hn⟩).trans ?_
  rw [nI_clamp (n := n) (by omega), e48]
  refine (e_iload_n (code := kJ6_getChars_ba4f3) (pc := 85) rfl rfl).trans ?_
  refine (e_bipush (code := kJ6_getChars_ba4f3) (pc := 86) rfl).trans ?_
  refine ((e_icge (code := kJ6_getChars_ba4f3) (pc := 88) rfl).trans (if_neg q39)).trans ?_
  refine (e_iload (code := kJ6_getChars_ba4f3) (pc := 104) rfl rfl).trans ?_
  refine ((e_ifeq (code := kJ6_getChars_ba4f3) (pc := 106) rfl).trans (if_pos rfl)).trans ?_
  refine (e_iload (code := kJ6_getChars_ba4f3) (pc := 118) rfl rfl).trans ?_
  exact e_ireturn rfl
theorem js_apiA {τ : aSt} {a v n c : Nat} (he : P_J b lv 1020 [.ref a, .int (nI (n + 1))] σ = some (.inl none, τ)) (hk0 : a_kd σ a = 11) (h30 : a_I σ a 3 = nI n) (hk : a_kd τ a = 11) (ha : 100 ≤ a) (hv : a_R τ a 0 = some v) (hva : v ≠ a) (hv1 : 100 ≤ v) (h7 : a_kd τ v = 7) (hn : n < a_ln τ v) (hn2 : n < 100000) (h0 : a_I τ a 1 = 0) (hc9 : c < 10) (hd : 2 ≤ d) : a_call (a_tabJ b) (P_J b lv) d 2005 [.ref a, .int (nI c)] σ = some (.inl (some (.ref a)), a_setI (a_setI τ v n (nI (48 + c))) a 3 (nI (n + 1))) := by
  have hd1 : 1 ≤ d - 1 := by omega
  have hd : 1 ≤ d := by omega
  refine (e_call hd aj_J5_append_c97b9 rfl).trans ?_
  show b_R _ kJ5_append_c97b9 [] (0, [some (.ref a), some (.int (nI c)), none, none], [], _) = _
  refine (e_aload_n (code := kJ5_append_c97b9) (pc := 0) rfl rfl).trans ?_
  refine (e_getI (code := kJ5_append_c97b9) (pc := 1) rfl hk0 rfl).trans ?_
  refine (e_istore_n (code := kJ5_append_c97b9) (pc := 4) rfl rfl rfl).trans ?_
  refine (e_iload_n (code := kJ5_append_c97b9) (pc := 5) rfl rfl).trans ?_
  refine (e_iload_n (code := kJ5_append_c97b9) (pc := 6) rfl rfl).trans ?_
  refine (e_callS (code := kJ5_append_c97b9) (pc := 7) (len := 3) (k := 2017) (n := 1) (as := [.int (nI c)]) (st0 := [.int (a_I σ a 3)]) rfl rfl rfl rfl).trans ?_
  rw [js_ssz hc9 hd1, g_v]
  refine (e_iadd (code := kJ5_append_c97b9) (pc := 10) rfl).trans ?_
  rw [h30, nI_add]
  refine (e_istore_n (code := kJ5_append_c97b9) (pc := 11) rfl rfl rfl).trans ?_
  refine (e_aload_n (code := kJ5_append_c97b9) (pc := 12) rfl rfl).trans ?_
  refine (e_iload_n (code := kJ5_append_c97b9) (pc := 13) rfl rfl).trans ?_
  refine (e_callP (code := kJ5_append_c97b9) (pc := 14) (len := 3) (k := 1020) (n := 2) (as := [.ref a, .int (nI (n + 1))]) (st0 := []) rfl rfl rfl rfl).trans ?_
  rw [e_callP0 (show a_tabJ b 1020 = none from rfl), he, g_n]
  refine (e_aload_n (code := kJ5_append_c97b9) (pc := 17) rfl rfl).trans ?_
  refine (e_callV (code := kJ5_append_c97b9) (pc := 18) (len := 3) (k := 2014) (n := 1) (c := 11) (as := [.ref a]) (st0 := []) rfl rfl rfl rfl rfl hk rfl).trans ?_
  rw [js_lat hk h0 hd1, g_v]
  refine ((e_ifeq (code := kJ5_append_c97b9) (pc := 21) rfl).trans (if_neg (by decide))).trans ?_
  refine (e_iload_n (code := kJ5_append_c97b9) (pc := 24) rfl rfl).trans ?_
  refine (e_iload_n (code := kJ5_append_c97b9) (pc := 25) rfl rfl).trans ?_
  refine (e_aload_n (code := kJ5_append_c97b9) (pc := 26) rfl rfl).trans ?_
  refine (e_getR (code := kJ5_append_c97b9) (pc := 27) rfl hk hv).trans ?_
  refine (e_callS (code := kJ5_append_c97b9) (pc := 30) (len := 3) (k := 2018) (n := 3) (as := [.int (nI c), .int (nI (n + 1)), .ref v]) (st0 := []) rfl rfl rfl rfl).trans ?_
  rw [js_gch hc9 h7 hv1 hn hn2 hd1, g_v]
  refine (e_pop (code := kJ5_append_c97b9) (pc := 33) rfl rfl).trans ?_
  refine (e_goto (code := kJ5_append_c97b9) (pc := 34) rfl).trans ?_
  refine (e_aload_n (code := kJ5_append_c97b9) (pc := 48) rfl rfl).trans ?_
  refine (e_iload_n (code := kJ5_append_c97b9) (pc := 49) rfl rfl).trans ?_
  refine (e_putI (code := kJ5_append_c97b9) (pc := 50) (σ := a_setI τ v n (nI (48 + c))) rfl hk ha).trans ?_
  refine (e_aload_n (code := kJ5_append_c97b9) (pc := 53) rfl rfl).trans ?_
  exact e_areturnR rfl
theorem js_api {τ : aSt} {a : Nat} {x : Int32} (he : a_call (a_tabJ b) (P_J b lv) (d - 1) 2005 [.ref a, .int x] σ = some (.inl (some (.ref a)), τ)) (hk : a_kd σ a = 11) (hd : 1 ≤ d) : a_call (a_tabJ b) (P_J b lv) d 2004 [.ref a, .int x] σ = some (.inl (some (.ref a)), τ) := by
  refine (e_call hd aj_J4_append_bf812 rfl).trans ?_
  show b_R _ kJ4_append_bf812 [] (0, [some (.ref a), some (.int x)], [], _) = _
  refine (e_aload_n (code := kJ4_append_bf812) (pc := 0) rfl rfl).trans ?_
  refine (e_iload_n (code := kJ4_append_bf812) (pc := 1) rfl rfl).trans ?_
  refine (e_callU (code := kJ4_append_bf812) (pc := 2) (len := 3) (k := 2005) (n := 2) (c := 11) (as := [.ref a, .int x]) (st0 := []) rfl rfl rfl rfl rfl hk rfl).trans ?_
  rw [he, g_v]
  refine (e_pop (code := kJ4_append_bf812) (pc := 5) rfl rfl).trans ?_
  refine (e_aload_n (code := kJ4_append_bf812) (pc := 6) rfl rfl).trans ?_
  exact e_areturnR rfl
theorem js_prcR {i n : Nat} (hi : i < n) (hn : n < 2147483648) (hd : 1 ≤ d) : a_call (a_tabJ b) (P_J b lv) d 2029 [.int (nI i), .int (nI n), .ref 59] σ = some (.inl (some (.int (nI i))), σ) := by
  refine (e_call hd aj_J3_checkIndex_8e157 rfl).trans ?_
  show b_R _ kJ3_checkIndex_8e157 [] (0, [some (.int (nI i)), some (.int (nI n)), some (.ref 59)], [], _) = _
  refine (e_iload_n (code := kJ3_checkIndex_8e157) (pc := 0) rfl rfl).trans ?_
  refine ((e_iflt (code := kJ3_checkIndex_8e157) (pc := 1) rfl).trans (if_neg (nI_pos (by omega)))).trans ?_
  refine (e_iload_n (code := kJ3_checkIndex_8e157) (pc := 4) rfl rfl).trans ?_
  refine (e_iload_n (code := kJ3_checkIndex_8e157) (pc := 5) rfl rfl).trans ?_
  refine ((e_iclt (code := kJ3_checkIndex_8e157) (pc := 6) rfl).trans (if_pos (nIl hi hn))).trans ?_
  refine (e_iload_n (code := kJ3_checkIndex_8e157) (pc := 16) rfl rfl).trans ?_
  exact e_ireturn rfl
theorem js_prcN {i n : Nat} (hi : i < n) (hn : n < 2147483648) (hd : 1 ≤ d) : a_call (a_tabJ b) (P_J b lv) d 2029 [.int (nI i), .int (nI n), .null] σ = some (.inl (some (.int (nI i))), σ) := by
  refine (e_call hd aj_J3_checkIndex_8e157 rfl).trans ?_
  show b_R _ kJ3_checkIndex_8e157 [] (0, [some (.int (nI i)), some (.int (nI n)), some (.null)], [], _) = _
  refine (e_iload_n (code := kJ3_checkIndex_8e157) (pc := 0) rfl rfl).trans ?_
  refine ((e_iflt (code := kJ3_checkIndex_8e157) (pc := 1) rfl).trans (if_neg (nI_pos (by omega)))).trans ?_
  refine (e_iload_n (code := kJ3_checkIndex_8e157) (pc := 4) rfl rfl).trans ?_
  refine (e_iload_n (code := kJ3_checkIndex_8e157) (pc := 5) rfl rfl).trans ?_
  refine ((e_iclt (code := kJ3_checkIndex_8e157) (pc := 6) rfl).trans (if_pos (nIl hi hn))).trans ?_
  refine (e_iload_n (code := kJ3_checkIndex_8e157) (pc := 16) rfl rfl).trans ?_
  exact e_ireturn rfl
theorem js_chk {i n : Nat} (hi : i < n) (hn : n < 2147483648) (hd : 2 ≤ d) : a_call (a_tabJ b) (P_J b lv) d 2028 [.int (nI i), .int (nI n)] σ = some (.inl none, σ) := by
  have hd1 : 1 ≤ d - 1 := by omega
  have hd : 1 ≤ d := by omega
  cases b
  · refine (e_call hd aj_J0_checkIndex_df160 rfl).trans ?_
    show b_R _ (kJ0_checkIndex_df160 false) [] (0, [some (.int (nI i)), some (.int (nI n))], [], σ) = _
    refine (e_iload_n (code := (kJ0_checkIndex_df160 false)) (pc := 0) rfl rfl).trans ?_
    refine (e_iload_n (code := (kJ0_checkIndex_df160 false)) (pc := 1) rfl rfl).trans ?_
    refine (e_getsN (code := (kJ0_checkIndex_df160 false)) (pc := 2) rfl).trans ?_
    refine (e_callS (code := (kJ0_checkIndex_df160 false)) (pc := 5) (len := 3) (k := 2029) (n := 3) (as := [.int (nI i), .int (nI n), .null]) (st0 := []) rfl rfl rfl rfl).trans ?_
    rw [js_prcN hi hn hd1, g_v]
    refine (e_pop (code := (kJ0_checkIndex_df160 false)) (pc := 8) rfl rfl).trans ?_
    exact e_return_ rfl
  · refine (e_call hd aj_J0_checkIndex_df160 rfl).trans ?_
    show b_R _ (kJ0_checkIndex_df160 true) [] (0, [some (.int (nI i)), some (.int (nI n))], [], σ) = _
    refine (e_iload_n (code := (kJ0_checkIndex_df160 true)) (pc := 0) rfl rfl).trans ?_
    refine (e_iload_n (code := (kJ0_checkIndex_df160 true)) (pc := 1) rfl rfl).trans ?_
    refine (e_getsR (code := (kJ0_checkIndex_df160 true)) (pc := 2) rfl rfl).trans ?_
    refine (e_callS (code := (kJ0_checkIndex_df160 true)) (pc := 5) (len := 3) (k := 2029) (n := 3) (as := [.int (nI i), .int (nI n), .ref 59]) (st0 := []) rfl rfl rfl rfl).trans ?_
    rw [js_prcR hi hn hd1, g_v]
    refine (e_pop (code := (kJ0_checkIndex_df160 true)) (pc := 8) rfl rfl).trans ?_
    exact e_return_ rfl
theorem js_chaA {a v n m i c : Nat} (hk : a_kd σ a = 11) (hv : a_R σ a 0 = some v) (h7 : a_kd σ v = 7) (hv1 : 100 ≤ v) (hm9 : a_ln σ v = m) (hm2 : m < 100000) (h0 : a_I σ a 1 = 0) (h3 : a_I σ a 3 = nI n) (hnm : n ≤ m) (hi : i < n) (hc9 : c < 128) (hx : a_I σ v i = nI c) (hd : 3 ≤ d) : a_call (a_tabJ b) (P_J b lv) d 2011 [.ref a, .int (nI i)] σ = some (.inl (some (.int (nI c))), σ) := by
  have hd2 : 2 ≤ d - 1 := by omega
  have hd : 1 ≤ d := by omega
  refine (e_call hd aj_J5_charAt_5068e rfl).trans ?_
  show b_R _ kJ5_charAt_5068e [] (0, [some (.ref a), some (.int (nI i)), none, none, none], [], _) = _
  refine (e_aload_n (code := kJ5_charAt_5068e) (pc := 0) rfl rfl).trans ?_
  refine (e_getI (code := kJ5_charAt_5068e) (pc := 1) rfl hk rfl).trans ?_
  rw [h0]
  refine (e_istore_n (code := kJ5_charAt_5068e) (pc := 4) rfl rfl rfl).trans ?_
  refine (e_aload_n (code := kJ5_charAt_5068e) (pc := 5) rfl rfl).trans ?_
  refine (e_getR (code := kJ5_charAt_5068e) (pc := 6) rfl hk hv).trans ?_
  refine (e_astore_n (code := kJ5_charAt_5068e) (pc := 9) rfl rfl rfl).trans ?_
  refine (e_aload_n (code := kJ5_charAt_5068e) (pc := 10) rfl rfl).trans ?_
  refine (e_getI (code := kJ5_charAt_5068e) (pc := 11) rfl hk rfl).trans ?_
  refine (e_aload_n (code := kJ5_charAt_5068e) (pc := 14) rfl rfl).trans ?_
  refine (e_alen7 (code := kJ5_charAt_5068e) (pc := 15) rfl h7 hm9 (by omega)).trans ?_
  refine (e_iload_n (code := kJ5_charAt_5068e) (pc := 16) rfl rfl).trans ?_
  rw [h3]
  refine (e_ishr (code := kJ5_charAt_5068e) (pc := 17) rfl).trans ?_
  rw [jz_shr]
  refine (e_callS (code := kJ5_charAt_5068e) (pc := 18) (len := 3) (k := 1000) (n := 2) (as := [.int (nI n), .int (nI m)]) (st0 := []) rfl rfl rfl rfl).trans ?_
  rw [j_min hnm (Nat.lt_trans hm2 (by decide)), g_v]
  refine (e_istore (code := kJ5_charAt_5068e) (pc := 21) rfl rfl rfl).trans ?_
  refine (e_iload_n (code := kJ5_charAt_5068e) (pc := 23) rfl rfl).trans ?_
  refine (e_iload (code := kJ5_charAt_5068e) (pc := 24) rfl rfl).trans ?_
  refine (e_callS (code := kJ5_charAt_5068e) (pc := 26) (len := 3) (k := 2028) (n := 2) (as := [.int (nI i), .int (nI n)]) (st0 := []) rfl rfl rfl rfl).trans ?_
  rw [js_chk hi (by omega) hd2, g_n]
  refine (e_iload_n (code := kJ5_charAt_5068e) (pc := 29) rfl rfl).trans ?_
  refine ((e_ifne (code := kJ5_charAt_5068e) (pc := 30) rfl).trans (if_pos rfl)).trans ?_
  refine (e_aload_n (code := kJ5_charAt_5068e) (pc := 33) rfl rfl).trans ?_
  refine (e_iload_n (code := kJ5_charAt_5068e) (pc := 34) rfl rfl).trans ?_
  refine (e_baload (code := kJ5_charAt_5068e) (pc := 35) rfl h7 hv1 ⟨nI_pos (by omega), by rw [nI_clamp (by omega), hm9]; omega⟩).trans ?_
  rw [nI_clamp (n := i) (by omega), hx]
  refine (e_sipush (code := kJ5_charAt_5068e) (pc := 36) rfl).trans ?_
  refine (e_iand (code := kJ5_charAt_5068e) (pc := 39) rfl).trans ?_
  refine (e_i2c (code := kJ5_charAt_5068e) (pc := 40) rfl).trans ?_
  rw [(j_chr c (by omega)).1]
  exact e_creturn rfl (congrArg Value.int (j_chr c (by omega)).2)
theorem js_cha {a : Nat} {x y : Int32} (he : a_call (a_tabJ b) (P_J b lv) (d - 1) 2011 [.ref a, .int x] σ = some (.inl (some (.int y)), σ)) (hy : narrow .char (.int y) = .int y) (hk : a_kd σ a = 11) (hd : 1 ≤ d) : a_call (a_tabJ b) (P_J b lv) d 2010 [.ref a, .int x] σ = some (.inl (some (.int y)), σ) := by
  refine (e_call hd aj_J4_charAt_5068e rfl).trans ?_
  show b_R _ kJ4_charAt_5068e [] (0, [some (.ref a), some (.int x)], [], _) = _
  refine (e_aload_n (code := kJ4_charAt_5068e) (pc := 0) rfl rfl).trans ?_
  refine (e_iload_n (code := kJ4_charAt_5068e) (pc := 1) rfl rfl).trans ?_
  refine (e_callU (code := kJ4_charAt_5068e) (pc := 2) (len := 3) (k := 2011) (n := 2) (c := 11) (as := [.ref a, .int x]) (st0 := []) rfl rfl rfl rfl rfl hk rfl).trans ?_
  rw [he, g_v]
  exact e_creturn rfl hy
theorem js_iniA {a : Nat} (hk : a_kd σ a = 11) (ha : 100 ≤ a) (han : a < a_n σ) (hd : 1 ≤ d) : a_call (a_tabJ b) (P_J b lv) d 2001 [.ref a, .int (nI 16)] σ = some (.inl none, a_sbi σ a) := by
  have kk : a_kd (a_new σ 7 16 16) a = 11 := (congrArg Prod.fst (if_neg (show a ≠ a_n σ by omega))).trans hk
  refine (e_call hd aj_J5_init_d00df rfl).trans ?_
  show b_R _ kJ5_init_d00df [] (0, [some (.ref a), some (.int (nI 16))], [], _) = _
  refine (e_aload_n (code := kJ5_init_d00df) (pc := 0) rfl rfl).trans ?_
  refine (e_objInit (code := kJ5_init_d00df) (pc := 1) rfl rfl).trans ?_
  refine (e_gets (code := kJ5_init_d00df) (pc := 4) rfl).trans ?_
  refine ((e_ifeq (code := kJ5_init_d00df) (pc := 7) rfl).trans (if_neg (by decide))).trans ?_
  refine (e_aload_n (code := kJ5_init_d00df) (pc := 10) rfl rfl).trans ?_
  refine (e_iload_n (code := kJ5_init_d00df) (pc := 11) rfl rfl).trans ?_
  refine (e_newarray (code := kJ5_init_d00df) (pc := 12) (m := 16) rfl (by decide) (by decide) (by decide)).trans ?_
  refine (e_putR (code := kJ5_init_d00df) (pc := 14) (σ := a_new σ 7 16 16) rfl kk ha).trans ?_
  refine (e_aload_n (code := kJ5_init_d00df) (pc := 17) rfl rfl).trans ?_
  refine (e_iconst (code := kJ5_init_d00df) (pc := 18) rfl).trans ?_
  refine (e_putZ (code := kJ5_init_d00df) (pc := 19) (σ := a_setR (a_new σ 7 16 16) a 0 (some (a_n σ))) rfl kk ha (.inl rfl)).trans ?_
  refine (e_goto (code := kJ5_init_d00df) (pc := 22) rfl).trans ?_
  exact e_return_ rfl
theorem js_ini {a : Nat} (hk : a_kd σ a = 11) (ha : 100 ≤ a) (han : a < a_n σ) (hd : 2 ≤ d) : a_call (a_tabJ b) (P_J b lv) d 2000 [.ref a] σ = some (.inl none, a_sbi σ a) := by
  have hd1 : 1 ≤ d - 1 := by omega
  have hd : 1 ≤ d := by omega
  refine (e_call hd aj_J4_init_da8c8 rfl).trans ?_
  show b_R _ kJ4_init_da8c8 [] (0, [some (.ref a)], [], _) = _
  refine (e_aload_n (code := kJ4_init_da8c8) (pc := 0) rfl rfl).trans ?_
  refine (e_bipush (code := kJ4_init_da8c8) (pc := 1) rfl).trans ?_
  refine (e_callI (code := kJ4_init_da8c8) (pc := 3) (len := 3) (k := 2001) (n := 2) (as := [.ref a, .int (nI 16)]) (st0 := []) rfl rfl rfl rfl rfl rfl).trans ?_
  rw [js_iniA hk ha han hd1, g_n]
  exact e_return_ rfl
theorem js_cod {s : Nat} (hk : a_kd σ s = 6) (hs : 1 ≤ s ∧ s ≤ 18) (hd : 1 ≤ d) : a_call (a_tabJ b) (P_J b lv) d 2025 [.ref s] σ = some (.inl (some (.int 0)), σ) := by
  refine (e_call hd aj_J0_coder_7d493 rfl).trans ?_
  show b_R _ kJ0_coder_7d493 [] (0, [some (.ref s)], [], _) = _
  refine (e_gets (code := kJ0_coder_7d493) (pc := 0) rfl).trans ?_
  refine ((e_ifeq (code := kJ0_coder_7d493) (pc := 3) rfl).trans (if_neg (by decide))).trans ?_
  refine (e_aload_n (code := kJ0_coder_7d493) (pc := 6) rfl rfl).trans ?_
  refine (e_getSc (code := kJ0_coder_7d493) (pc := 7) rfl hk hs).trans ?_
  refine (e_goto (code := kJ0_coder_7d493) (pc := 10) rfl).trans ?_
  exact e_zret1 rfl (.inl rfl)
theorem js_slat {s : Nat} (hk : a_kd σ s = 6) (hs : 1 ≤ s ∧ s ≤ 18) (hd : 1 ≤ d) : a_call (a_tabJ b) (P_J b lv) d 2026 [.ref s] σ = some (.inl (some (.int (nI 1))), σ) := by
  refine (e_call hd aj_J0_isLatin1_aae02 rfl).trans ?_
  show b_R _ kJ0_isLatin1_aae02 [] (0, [some (.ref s)], [], _) = _
  refine (e_gets (code := kJ0_isLatin1_aae02) (pc := 0) rfl).trans ?_
  refine ((e_ifeq (code := kJ0_isLatin1_aae02) (pc := 3) rfl).trans (if_neg (by decide))).trans ?_
  refine (e_aload_n (code := kJ0_isLatin1_aae02) (pc := 6) rfl rfl).trans ?_
  refine (e_getSc (code := kJ0_isLatin1_aae02) (pc := 7) rfl hk hs).trans ?_
  refine ((e_ifne (code := kJ0_isLatin1_aae02) (pc := 10) rfl).trans (if_pos rfl)).trans ?_
  refine (e_iconst (code := kJ0_isLatin1_aae02) (pc := 13) rfl).trans ?_
  refine (e_goto (code := kJ0_isLatin1_aae02) (pc := 14) rfl).trans ?_
  exact e_zret1 rfl (.inr rfl)
theorem js_slen {s : Nat} (hk : a_kd σ s = 6) (hs : 1 ≤ s ∧ s ≤ 18) (hz : a_kd σ (60 + s) = 0) (hd : 2 ≤ d) : a_call (a_tabJ b) (P_J b lv) d 2024 [.ref s] σ = some (.inl (some (.int (nI (a_tbl (60 + s)).length))), σ) := by
  have hd1 : 1 ≤ d - 1 := by omega
  have hd : 1 ≤ d := by omega
  refine (e_call hd aj_J0_length_8abf5 rfl).trans ?_
  show b_R _ kJ0_length_8abf5 [] (0, [some (.ref s)], [], _) = _
  refine (e_aload_n (code := kJ0_length_8abf5) (pc := 0) rfl rfl).trans ?_
  refine (e_getSv (code := kJ0_length_8abf5) (pc := 1) rfl hk hs).trans ?_
  refine (e_alenT (code := kJ0_length_8abf5) (pc := 4) rfl hz (by omega)).trans ?_
  refine (e_aload_n (code := kJ0_length_8abf5) (pc := 5) rfl rfl).trans ?_
  refine (e_callV (code := kJ0_length_8abf5) (pc := 6) (len := 3) (k := 2025) (n := 1) (c := 6) (as := [.ref s]) (st0 := [.int (nI (a_tbl (60 + s)).length)]) rfl rfl rfl rfl rfl hk rfl).trans ?_
  rw [js_cod hk hs hd1, g_v]
  refine (e_ishr (code := kJ0_length_8abf5) (pc := 9) rfl).trans ?_
  rw [jz_shr]
  exact e_ireturn rfl
theorem js_lch {a i c : Nat} (ha : 60 ≤ a ∧ a ≤ 78) (hz : a_kd σ a = 0) (hi : i < (a_tbl a).length) (hl : (a_tbl a).length < 100000) (hx : (a_tbl a).getD i 0 = c) (hc9 : c < 128) (hd : 3 ≤ d) : a_call (a_tabJ b) (P_J b lv) d 2023 [.ref a, .int (nI i)] σ = some (.inl (some (.int (nI c))), σ) := by
  have hd2 : 2 ≤ d - 1 := by omega
  have hd : 1 ≤ d := by omega
  refine (e_call hd aj_J1_charAt_3b067 rfl).trans ?_
  show b_R _ kJ1_charAt_3b067 [] (0, [some (.ref a), some (.int (nI i))], [], _) = _
  refine (e_iload_n (code := kJ1_charAt_3b067) (pc := 0) rfl rfl).trans ?_
  refine (e_aload_n (code := kJ1_charAt_3b067) (pc := 1) rfl rfl).trans ?_
  refine (e_alenT (code := kJ1_charAt_3b067) (pc := 2) rfl hz ha).trans ?_
  refine (e_callS (code := kJ1_charAt_3b067) (pc := 3) (len := 3) (k := 2028) (n := 2) (as := [.int (nI i), .int (nI (a_tbl a).length)]) (st0 := []) rfl rfl rfl rfl).trans ?_
  rw [js_chk hi (by omega) hd2, g_n]
  refine (e_aload_n (code := kJ1_charAt_3b067) (pc := 6) rfl rfl).trans ?_
  refine (e_iload_n (code := kJ1_charAt_3b067) (pc := 7) rfl rfl).trans ?_
  refine (e_baloadT (code := kJ1_charAt_3b067) (pc := 8) rfl ha ⟨nI_pos (by omega), by rw [nI_clamp (by omega)]; exact hi⟩).trans ?_
  rw [nI_clamp (n := i) (by omega), hx]
  refine (e_sipush (code := kJ1_charAt_3b067) (pc := 9) rfl).trans ?_
  refine (e_iand (code := kJ1_charAt_3b067) (pc := 12) rfl).trans ?_
  refine (e_i2c (code := kJ1_charAt_3b067) (pc := 13) rfl).trans ?_
  rw [show Int32.ofNat c = nI c from rfl, (j_chr c (by omega)).1]
  exact e_creturn rfl (congrArg Value.int (j_chr c (by omega)).2)
theorem js_sch {s i c : Nat} (hk : a_kd σ s = 6) (hs : 1 ≤ s ∧ s ≤ 18) (hz : a_kd σ (60 + s) = 0) (hi : i < (a_tbl (60 + s)).length) (hl : (a_tbl (60 + s)).length < 100000) (hx : (a_tbl (60 + s)).getD i 0 = c) (hc9 : c < 128) (hd : 4 ≤ d) : a_call (a_tabJ b) (P_J b lv) d 2027 [.ref s, .int (nI i)] σ = some (.inl (some (.int (nI c))), σ) := by
  have hd1 : 1 ≤ d - 1 := by omega
  have hd3 : 3 ≤ d - 1 := by omega
  have hd : 1 ≤ d := by omega
  refine (e_call hd aj_J0_charAt_5068e rfl).trans ?_
  show b_R _ kJ0_charAt_5068e [] (0, [some (.ref s), some (.int (nI i))], [], _) = _
  refine (e_aload_n (code := kJ0_charAt_5068e) (pc := 0) rfl rfl).trans ?_
  refine (e_callV (code := kJ0_charAt_5068e) (pc := 1) (len := 3) (k := 2026) (n := 1) (c := 6) (as := [.ref s]) (st0 := []) rfl rfl rfl rfl rfl hk rfl).trans ?_
  rw [js_slat hk hs hd1, g_v]
  refine ((e_ifeq (code := kJ0_charAt_5068e) (pc := 4) rfl).trans (if_neg (by decide))).trans ?_
  refine (e_aload_n (code := kJ0_charAt_5068e) (pc := 7) rfl rfl).trans ?_
  refine (e_getSv (code := kJ0_charAt_5068e) (pc := 8) rfl hk hs).trans ?_
  refine (e_iload_n (code := kJ0_charAt_5068e) (pc := 11) rfl rfl).trans ?_
  refine (e_callS (code := kJ0_charAt_5068e) (pc := 12) (len := 3) (k := 2023) (n := 2) (as := [.ref (60 + s), .int (nI i)]) (st0 := []) rfl rfl rfl rfl).trans ?_
  rw [js_lch (by omega) hz hi hl hx hc9 hd3, g_v]
  exact e_creturn rfl (congrArg Value.int (j_chr c (by omega)).2)
theorem js_fstep {a : Nat} {x : Int32} {N i : Nat} {C : aCall} (h1 : a_kd σ a = 1) (ha : 100 ≤ a) (hN9 : a_ln σ a = N) (hN2 : N ≤ 65536) (hi : i < N) : b_R C kJ7_fill_53178 [] (5, [some (.ref a), some (.int x), some (.int (nI i)), some (.int (nI N))], [], σ) = b_R C kJ7_fill_53178 [] (5, [some (.ref a), some (.int x), some (.int (nI (i + 1))), some (.int (nI N))], [], a_setI σ a i x) := by
  refine (e_iload_n (code := kJ7_fill_53178) (pc := 5) rfl rfl).trans ?_
  refine (e_iload_n (code := kJ7_fill_53178) (pc := 6) rfl rfl).trans ?_
  refine ((e_icge (code := kJ7_fill_53178) (pc := 7) rfl).trans (if_pos (nIl hi (by omega)))).trans ?_
  refine (e_aload_n (code := kJ7_fill_53178) (pc := 10) rfl rfl).trans ?_
  refine (e_iload_n (code := kJ7_fill_53178) (pc := 11) rfl rfl).trans ?_
  refine (e_iload_n (code := kJ7_fill_53178) (pc := 12) rfl rfl).trans ?_
  refine ((e_iastore (code := kJ7_fill_53178) (pc := 13) rfl h1 ha hN9).trans (b_gd_t (nIi hi (by omega)))).trans ?_
  rw [nI_clamp (n := i) (by omega)]
  refine (e_iinc (code := kJ7_fill_53178) (pc := 14) rfl rfl rfl rfl).trans ?_
  refine (e_goto (code := kJ7_fill_53178) (pc := 17) rfl).trans ?_
  rw [nI_1]
  rfl
theorem js_fend {a N : Nat} {x : Int32} {C : aCall} (hN2 : N ≤ 65536) : b_R C kJ7_fill_53178 [] (5, [some (.ref a), some (.int x), some (.int (nI N)), some (.int (nI N))], [], σ) = some (.inl none, σ) := by
  refine (e_iload_n (code := kJ7_fill_53178) (pc := 5) rfl rfl).trans ?_
  refine (e_iload_n (code := kJ7_fill_53178) (pc := 6) rfl rfl).trans ?_
  refine ((e_icge (code := kJ7_fill_53178) (pc := 7) rfl).trans (if_neg (nIn (Nat.le_refl N) (by omega)))).trans ?_
  exact e_return_ rfl
theorem js_f0 {a N : Nat} {x : Int32} (h1 : a_kd σ a = 1) (hN9 : a_ln σ a = N) (hN2 : N ≤ 65536) (hd : 1 ≤ d) : a_call (a_tabJ b) (P_J b lv) d 2021 [.ref a, .int x] σ = b_R (a_call (a_tabJ b) (P_J b lv) (d - 1)) kJ7_fill_53178 [] (5, [some (.ref a), some (.int x), some (.int (nI 0)), some (.int (nI N))], [], σ) := by
  refine (e_call hd aj_J7_fill_53178 rfl).trans ?_
  show b_R _ kJ7_fill_53178 [] (0, [some (.ref a), some (.int x), none, none], [], _) = _
  refine (e_iconst (code := kJ7_fill_53178) (pc := 0) rfl).trans ?_
  refine (e_istore_n (code := kJ7_fill_53178) (pc := 1) rfl rfl rfl).trans ?_
  refine (e_aload_n (code := kJ7_fill_53178) (pc := 2) rfl rfl).trans ?_
  refine (e_alen (code := kJ7_fill_53178) (pc := 3) rfl (by rw [h1]; exact ⟨rfl, rfl⟩) hN9 (by omega)).trans ?_
  refine (e_istore_n (code := kJ7_fill_53178) (pc := 4) rfl rfl rfl).trans ?_
  rfl
end JSE
