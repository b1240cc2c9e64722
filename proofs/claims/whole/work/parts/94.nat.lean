/-! the given members that the machine has itself; the JDK's methods as a system -/
theorem st_of {st as : List Value} {n : Nat} (h : (st.take n).reverse = as) : st = as.reverse ++ st.drop n := by rw [← h, List.reverse_reverse, List.take_append_drop]
/-- what the machine's copying asks -/
def p_okc (σ : aSt) (a b : Nat) (sp dp n : Int32) : Prop := ((a_kd σ a = 1 ∧ a_kd σ b = 1) ∨ (a_kd σ a = 7 ∧ a_kd σ b = 7 ∧ ∀ i, i < n.toNatClampNeg → fits .byte (.int (a_I σ a (sp.toNatClampNeg + i))) = true)) ∧ ¬ sp < 0 ∧ ¬ dp < 0 ∧ ¬ n < 0 ∧ sp.toNatClampNeg + n.toNatClampNeg ≤ a_ln σ a ∧ dp.toNatClampNeg + n.toNatClampNeg ≤ a_ln σ b
noncomputable def p_nat : aCall := fun k as σ => match as with
  | [.int x, .int y] => if k = 1000 then some (.inl (some (.int (if x ≤ y then x else y))), σ) else if k = 1002 then some (.inl (some (.int (if y ≤ x then x else y))), σ) else none
  | [.long x, .long y] => if k = 1001 then some (.inl (some (.long (if x ≤ y then x else y))), σ) else none
  | [.ref a, .int sp, .ref b, .int dp, .int n] => if k = 1005 then @ite _ (p_okc σ a b sp dp n) (Classical.propDecidable _) (some (.inl none, a_cpx σ a b sp.toNatClampNeg dp.toNatClampNeg n.toNatClampNeg)) none else none
  | _ => none
theorem p_nat_0 {as : List Value} {σ σ' : aSt} {res : aRes} (h : p_nat 1000 as σ = some (res, σ')) : ∃ x y, as = [.int x, .int y] ∧ res = .inl (some (.int (if x ≤ y then x else y))) ∧ σ' = σ := by
  unfold p_nat at h
  split at h
  · rw [if_pos rfl] at h; cases h; exact ⟨_, _, rfl, rfl, rfl⟩
  · rw [if_neg (by decide)] at h; cases h
  · rw [if_neg (by decide)] at h; cases h
  · cases h
theorem p_nat_1 {as : List Value} {σ σ' : aSt} {res : aRes} (h : p_nat 1001 as σ = some (res, σ')) : ∃ x y, as = [.long x, .long y] ∧ res = .inl (some (.long (if x ≤ y then x else y))) ∧ σ' = σ := by
  unfold p_nat at h
  split at h
  · rw [if_neg (by decide), if_neg (by decide)] at h; cases h
  · rw [if_pos rfl] at h; cases h; exact ⟨_, _, rfl, rfl, rfl⟩
  · rw [if_neg (by decide)] at h; cases h
  · cases h
theorem p_nat_2 {as : List Value} {σ σ' : aSt} {res : aRes} (h : p_nat 1002 as σ = some (res, σ')) : ∃ x y, as = [.int x, .int y] ∧ res = .inl (some (.int (if y ≤ x then x else y))) ∧ σ' = σ := by
  unfold p_nat at h
  split at h
  · rw [if_neg (by decide), if_pos rfl] at h; cases h; exact ⟨_, _, rfl, rfl, rfl⟩
  · rw [if_neg (by decide)] at h; cases h
  · rw [if_neg (by decide)] at h; cases h
  · cases h
theorem p_nat_5 {as : List Value} {σ σ' : aSt} {res : aRes} (h : p_nat 1005 as σ = some (res, σ')) : ∃ a b sp dp n, as = [.ref a, .int sp, .ref b, .int dp, .int n] ∧ p_okc σ a b sp dp n ∧ res = .inl none ∧ σ' = a_cpx σ a b sp.toNatClampNeg dp.toNatClampNeg n.toNatClampNeg := by
  unfold p_nat at h
  split at h
  · rw [if_neg (by decide), if_neg (by decide)] at h; cases h
  · rw [if_neg (by decide)] at h; cases h
  · rename_i a sp b dp n
    rw [if_pos rfl] at h
    by_cases hc9 : p_okc σ a b sp dp n
    · rw [if_pos hc9] at h; cases h; exact ⟨_, _, _, _, _, rfl, hc9, rfl, rfl⟩
    · rw [if_neg hc9] at h; cases h
  · cases h
theorem p_nat_k {k : Nat} {as : List Value} {σ σ' : aSt} {res : aRes} (h : p_nat k as σ = some (res, σ')) : k = 1000 ∨ k = 1001 ∨ k = 1002 ∨ k = 1005 := by
  unfold p_nat at h
  split at h
  · split at h
    · rename_i e; exact .inl e
    · split at h
      · rename_i e; exact .inr (.inr (.inl e))
      · cases h
  · split at h
    · rename_i e; exact .inr (.inl e)
    · cases h
  · split at h
    · rename_i e; exact .inr (.inr (.inr e))
    · cases h
  · cases h
theorem p_nat_good : a_gcall p_nat := fun k as σ res σ' h hb hR => by
  rcases p_nat_k h with rfl | rfl | rfl | rfl
  · obtain ⟨x, y, -, rfl, rfl⟩ := p_nat_0 h
    exact ⟨a_le.refl _, hR, fun v hv => by cases hv; trivial⟩
  · obtain ⟨x, y, -, rfl, rfl⟩ := p_nat_1 h
    exact ⟨a_le.refl _, hR, fun v hv => by cases hv; trivial⟩
  · obtain ⟨x, y, -, rfl, rfl⟩ := p_nat_2 h
    exact ⟨a_le.refl _, hR, fun v hv => by cases hv; trivial⟩
  · obtain ⟨a, b, sp, dp, n, -, -, rfl, rfl⟩ := p_nat_5 h
    exact ⟨a_le.refl σ, hR, fun v hv => by cases hv⟩
theorem p_nat_ret {k : Nat} {as : List Value} {σ σ' : aSt} {res : aRes} (h : p_nat k as σ = some (res, σ')) : ∃ v, res = .inl v := by
  rcases p_nat_k h with rfl | rfl | rfl | rfl
  · obtain ⟨x, y, -, rfl, rfl⟩ := p_nat_0 h; exact ⟨_, rfl⟩
  · obtain ⟨x, y, -, rfl, rfl⟩ := p_nat_1 h; exact ⟨_, rfl⟩
  · obtain ⟨x, y, -, rfl, rfl⟩ := p_nat_2 h; exact ⟨_, rfl⟩
  · obtain ⟨a, b, sp, dp, n, -, -, rfl, rfl⟩ := p_nat_5 h; exact ⟨_, rfl⟩
theorem p_nat_ok {l : Launch} {F : aFix} {b9 : Nat} : a_prok l F pr_nat b9 p_nat := by
  intro p e R s m args below meth c Q cc nL n0 u0 v0 own ini ρ1 pc L st σ σ' i k n v C hf1 hf2 hd hpr hlen hsum hP hst hL hR hB9 K
  obtain ⟨ix, rfl, h⟩ := hpr
  rcases h with ⟨rfl, rfl, hl⟩ | ⟨rfl, rfl, hl⟩ | ⟨rfl, rfl, hl⟩ | ⟨rfl, rfl, hl⟩
  · obtain ⟨x, y, e19, e29, e39⟩ := p_nat_0 hP
    have e49 := st_of e19
    cases e29; subst e39
    have hs2 : a_bds (a_n σ') (st.drop 2) := fun v hv => hst v (List.mem_of_mem_drop hv)
    obtain ⟨rest, hrest⟩ : ∃ r, r = st.drop 2 := ⟨_, rfl⟩
    rw [← hrest] at e49 hs2 hsum K
    subst e49
    exact as_min C hd hl hsum hB9 ⟨hL, a_bds_cons.mpr ⟨trivial, hs2⟩, hR⟩ K
  · obtain ⟨x, y, e19, e29, e39⟩ := p_nat_1 hP
    have e49 := st_of e19
    cases e29; subst e39
    have hs2 : a_bds (a_n σ') (st.drop 2) := fun v hv => hst v (List.mem_of_mem_drop hv)
    obtain ⟨rest, hrest⟩ : ∃ r, r = st.drop 2 := ⟨_, rfl⟩
    rw [← hrest] at e49 hs2 hsum K
    subst e49
    exact as_minL C hd hl hsum hB9 ⟨hL, a_bds_cons.mpr ⟨trivial, hs2⟩, hR⟩ K
  · obtain ⟨x, y, e19, e29, e39⟩ := p_nat_2 hP
    have e49 := st_of e19
    cases e29; subst e39
    have hs2 : a_bds (a_n σ') (st.drop 2) := fun v hv => hst v (List.mem_of_mem_drop hv)
    obtain ⟨rest, hrest⟩ : ∃ r, r = st.drop 2 := ⟨_, rfl⟩
    rw [← hrest] at e49 hs2 hsum K
    subst e49
    exact as_max C hd hl hsum hB9 ⟨hL, a_bds_cons.mpr ⟨trivial, hs2⟩, hR⟩ K
  · obtain ⟨a, b, sp, dp, n, e19, hok, e29, e39⟩ := p_nat_5 hP
    have e49 := st_of e19
    cases e29; subst e39
    have hs2 : a_bds (a_n σ) (st.drop 5) := fun v hv => hst v (List.mem_of_mem_drop hv)
    obtain ⟨rest, hrest⟩ : ∃ r, r = st.drop 5 := ⟨_, rfl⟩
    rw [← hrest] at e49 hs2 hsum K
    subst e49
    obtain ⟨hk, k1, k2, k3, k4, k5⟩ := hok
    rcases hk with ⟨q1, q2⟩ | ⟨q1, q2, q39⟩
    · exact as_cpy (kd := 1) (ty := .int) C hd hl hsum (.inl ⟨rfl, rfl⟩) q1 q2 k1 k2 k3 k4 k5 (fun _ _ => rfl) ⟨hL, hs2, hR⟩ K
    · exact as_cpy (kd := 7) (ty := .byte) C hd hl hsum (.inr ⟨rfl, rfl⟩) q1 q2 k1 k2 k3 k4 k5 q39 ⟨hL, hs2, hR⟩ K
theorem J_mem {b : Bool} {k : Nat} {k9 : aMeth} (h : a_tabJ b k = some k9) : 2000 ≤ k ∧ k9 ∈ a_lJ b := by
  unfold a_tabJ at h
  split at h
  · cases h
  · exact ⟨by omega, List.mem_of_getElem? h⟩
theorem J_all {F : aFix} {b : Bool} (hF : J_fix F b) : ∀ k9 ∈ a_lJ b, a_mok k9 ∧ a_codeok (a_tabJ b) F pr_J k9 ∧ a_hhok F k9 := List.forall_mem_cons.mpr ⟨⟨okm_J4_init_da8c8, jc_J4_init_da8c8 hF, fun _ h => absurd h List.not_mem_nil⟩, List.forall_mem_cons.mpr ⟨⟨okm_J5_init_d00df, jc_J5_init_d00df hF, fun _ h => absurd h List.not_mem_nil⟩, List.forall_mem_cons.mpr ⟨⟨okm_J4_append_cf468, jc_J4_append_cf468 hF, fun _ h => absurd h List.not_mem_nil⟩, List.forall_mem_cons.mpr ⟨⟨okm_J5_append_3fe6f, jc_J5_append_3fe6f hF, fun _ h => absurd h List.not_mem_nil⟩, List.forall_mem_cons.mpr ⟨⟨okm_J4_append_bf812, jc_J4_append_bf812 hF, fun _ h => absurd h List.not_mem_nil⟩, List.forall_mem_cons.mpr ⟨⟨okm_J5_append_c97b9, jc_J5_append_c97b9 hF, fun _ h => absurd h List.not_mem_nil⟩, List.forall_mem_cons.mpr ⟨⟨okm_J4_setLength_d00df, jc_J4_setLength_d00df hF, fun _ h => absurd h List.not_mem_nil⟩, List.forall_mem_cons.mpr ⟨⟨okm_J5_setLength_d00df, jc_J5_setLength_d00df hF, fun _ h => absurd h List.not_mem_nil⟩, List.forall_mem_cons.mpr ⟨⟨okm_J4_length_8abf5, jc_J4_length_8abf5 hF, fun _ h => absurd h List.not_mem_nil⟩, List.forall_mem_cons.mpr ⟨⟨okm_J5_length_8abf5, jc_J5_length_8abf5 hF, fun _ h => absurd h List.not_mem_nil⟩, List.forall_mem_cons.mpr ⟨⟨okm_J4_charAt_5068e, jc_J4_charAt_5068e hF, fun _ h => absurd h List.not_mem_nil⟩, List.forall_mem_cons.mpr ⟨⟨okm_J5_charAt_5068e, jc_J5_charAt_5068e hF, fun _ h => absurd h List.not_mem_nil⟩, List.forall_mem_cons.mpr ⟨⟨okm_J5_ensureCapacityInternal_d00df, jc_J5_ensureCapacityInternal_d00df hF, fun _ h => absurd h List.not_mem_nil⟩, List.forall_mem_cons.mpr ⟨⟨okm_J5_newCapacity_0f7a4, jc_J5_newCapacity_0f7a4 hF, fun _ h => absurd h List.not_mem_nil⟩, List.forall_mem_cons.mpr ⟨⟨okm_J5_isLatin1_aae02, jc_J5_isLatin1_aae02 hF, fun _ h => absurd h List.not_mem_nil⟩, List.forall_mem_cons.mpr ⟨⟨okm_J8_newLength_cabcc, jc_J8_newLength_cabcc hF, fun _ h => absurd h List.not_mem_nil⟩, List.forall_mem_cons.mpr ⟨⟨okm_J7_copyOf_9075b, jc_J7_copyOf_9075b hF, fun _ h => absurd h List.not_mem_nil⟩, List.forall_mem_cons.mpr ⟨⟨okm_J6_stringSize_0f7a4, jc_J6_stringSize_0f7a4 hF, fun _ h => absurd h List.not_mem_nil⟩, List.forall_mem_cons.mpr ⟨⟨okm_J6_getChars_ba4f3, jc_J6_getChars_ba4f3 hF, fun _ h => absurd h List.not_mem_nil⟩, List.forall_mem_cons.mpr ⟨⟨okm_J6_compare_7cf53, jc_J6_compare_7cf53 hF, fun _ h => absurd h List.not_mem_nil⟩, List.forall_mem_cons.mpr ⟨⟨okm_J6_bitCount_0f7a4, jc_J6_bitCount_0f7a4 hF, fun _ h => absurd h List.not_mem_nil⟩, List.forall_mem_cons.mpr ⟨⟨okm_J7_fill_53178, jc_J7_fill_53178 hF, fun _ h => absurd h List.not_mem_nil⟩, List.forall_mem_cons.mpr ⟨⟨okm_J1_canEncode_fc78d, jc_J1_canEncode_fc78d hF, fun _ h => absurd h List.not_mem_nil⟩, List.forall_mem_cons.mpr ⟨⟨okm_J1_charAt_3b067, jc_J1_charAt_3b067 hF, fun _ h => absurd h List.not_mem_nil⟩, List.forall_mem_cons.mpr ⟨⟨okm_J0_length_8abf5, jc_J0_length_8abf5 hF, fun _ h => absurd h List.not_mem_nil⟩, List.forall_mem_cons.mpr ⟨⟨okm_J0_coder_7d493, jc_J0_coder_7d493 hF, fun _ h => absurd h List.not_mem_nil⟩, List.forall_mem_cons.mpr ⟨⟨okm_J0_isLatin1_aae02, jc_J0_isLatin1_aae02 hF, fun _ h => absurd h List.not_mem_nil⟩, List.forall_mem_cons.mpr ⟨⟨okm_J0_charAt_5068e, jc_J0_charAt_5068e hF, fun _ h => absurd h List.not_mem_nil⟩, List.forall_mem_cons.mpr ⟨⟨okm_J0_checkIndex_df160, jc_J0_checkIndex_df160 hF, fun _ h => absurd h List.not_mem_nil⟩, List.forall_mem_cons.mpr ⟨⟨okm_J3_checkIndex_8e157, jc_J3_checkIndex_8e157 hF, fun _ h => absurd h List.not_mem_nil⟩, fun _ h => absurd h List.not_mem_nil⟩⟩⟩⟩⟩⟩⟩⟩⟩⟩⟩⟩⟩⟩⟩⟩⟩⟩⟩⟩⟩⟩⟩⟩⟩⟩⟩⟩⟩⟩
def J_l (r : Option (aRes × aSt)) : Option (aRes × aSt) := match r with
  | some (.inl v, σ') => some (.inl v, σ')
  | _ => none
theorem J_l_some {r : Option (aRes × aSt)} {res : aRes} {σ' : aSt} (h : J_l r = some (res, σ')) : ∃ v, res = .inl v ∧ r = some (.inl v, σ') := by
  unfold J_l at h
  split at h
  · cases h; exact ⟨_, rfl, rfl⟩
  · cases h
def J_r (as : List Value) (σ : aSt) (r : Option (aRes × aSt)) : Option (aRes × aSt) := match as with
  | .ref a :: _ => if a_kd σ a = 11 then J_l r else none
  | _ => none
theorem J_r_some {as : List Value} {σ σ' : aSt} {r : Option (aRes × aSt)} {res : aRes} (h : J_r as σ r = some (res, σ')) : ∃ a tl v, as = .ref a :: tl ∧ a_kd σ a = 11 ∧ res = .inl v ∧ r = some (.inl v, σ') := by
  unfold J_r at h
  split at h
  · split at h
    · rename_i a tl hk
      obtain ⟨v, z1, z2⟩ := J_l_some h
      exact ⟨_, _, v, rfl, hk, z1, z2⟩
    · cases h
  · cases h
/-- the given members of the JDK's methods: the machine's own, and the two private ones, each by the system below it -/
noncomputable def P_J (b : Bool) : Nat → aCall
  | 0 => p_nat
  | n + 1 => fun k as σ => if k = 1020 then J_r as σ (a_call (a_tabJ b) (P_J b n) 12 2012 as σ) else if k = 1021 then J_r as σ (a_call (a_tabJ b) (P_J b n) 12 2013 as σ) else p_nat k as σ
theorem P_J_nat {b : Bool} {k : Nat} {as : List Value} {σ : aSt} (h1 : k ≠ 1020) (h2 : k ≠ 1021) : ∀ n, P_J b n k as σ = p_nat k as σ
  | 0 => rfl
  | n + 1 => by
    show (if k = 1020 then J_r as σ (a_call (a_tabJ b) (P_J b n) 12 2012 as σ) else if k = 1021 then J_r as σ (a_call (a_tabJ b) (P_J b n) 12 2013 as σ) else p_nat k as σ) = _
    rw [if_neg h1, if_neg h2]
theorem P_J_ens {b : Bool} {n : Nat} {as : List Value} {σ : aSt} : P_J b (n + 1) 1020 as σ = J_r as σ (a_call (a_tabJ b) (P_J b n) 12 2012 as σ) := by
  show (if 1020 = 1020 then J_r as σ (a_call (a_tabJ b) (P_J b n) 12 2012 as σ) else if 1020 = 1021 then J_r as σ (a_call (a_tabJ b) (P_J b n) 12 2013 as σ) else p_nat 1020 as σ) = _
  rw [if_pos rfl]
theorem P_J_new {b : Bool} {n : Nat} {as : List Value} {σ : aSt} : P_J b (n + 1) 1021 as σ = J_r as σ (a_call (a_tabJ b) (P_J b n) 12 2013 as σ) := by
  show (if 1021 = 1020 then J_r as σ (a_call (a_tabJ b) (P_J b n) 12 2012 as σ) else if 1021 = 1021 then J_r as σ (a_call (a_tabJ b) (P_J b n) 12 2013 as σ) else p_nat 1021 as σ) = _
  rw [if_neg (by decide), if_pos rfl]
theorem P_J_cs {b : Bool} {n k : Nat} {as : List Value} {σ σ' : aSt} {res : aRes} (h : P_J b n k as σ = some (res, σ')) : p_nat k as σ = some (res, σ') ∨ ∃ m id a tl v, n = m + 1 ∧ (k = 1020 ∧ id = 2012 ∨ k = 1021 ∧ id = 2013) ∧ as = .ref a :: tl ∧ a_kd σ a = 11 ∧ res = .inl v ∧ a_call (a_tabJ b) (P_J b m) 12 id as σ = some (.inl v, σ') := by
  cases n with
  | zero => exact .inl h
  | succ m =>
    have h : (if k = 1020 then J_r as σ (a_call (a_tabJ b) (P_J b m) 12 2012 as σ) else if k = 1021 then J_r as σ (a_call (a_tabJ b) (P_J b m) 12 2013 as σ) else p_nat k as σ) = some (res, σ') := h
    split at h
    · rename_i hk
      obtain ⟨a, tl, v, z1, z2, z3, z4⟩ := J_r_some h
      exact .inr ⟨m, 2012, a, tl, v, rfl, .inl ⟨hk, rfl⟩, z1, z2, z3, z4⟩
    · split at h
      · rename_i hk
        obtain ⟨a, tl, v, z1, z2, z3, z4⟩ := J_r_some h
        exact .inr ⟨m, 2013, a, tl, v, rfl, .inr ⟨hk, rfl⟩, z1, z2, z3, z4⟩
      · exact .inl h
theorem P_J_k {b : Bool} {n k : Nat} {as : List Value} {σ : aSt} (h : 2000 ≤ k) : P_J b n k as σ = none := by
  cases hp : P_J b n k as σ with
  | none => rfl
  | some r =>
    obtain ⟨res, σ'⟩ := r
    rcases P_J_cs hp with z | ⟨m, id, a, tl, v, -, z, -⟩
    · rcases p_nat_k z with w | w | w | w <;> omega
    · omega
theorem P_J_ret {b : Bool} {n k : Nat} {as : List Value} {σ σ' : aSt} {res : aRes} (h : P_J b n k as σ = some (res, σ')) : ∃ v, res = .inl v := by
  rcases P_J_cs h with z | ⟨m, id, a, tl, v, -, -, -, -, z, -⟩
  · exact p_nat_ret z
  · exact ⟨v, z⟩
theorem st_at {st tl : List Value} {v : Value} {n : Nat} (h : (st.take n).reverse = v :: tl) (hn : n ≤ st.length) : st[n - 1]? = some v := by
  have h1 : n = tl.length + 1 := by
    have := congrArg List.length h
    simp at this
    omega
  have h2 := st_of h
  rw [h2, h1]
  simp
section ACALLP
variable {p : Program} {l : Launch} {e : Env} {R : Room} {s : State} {m : MethodId} {args : Array Value} {below : List Frame} {meth : Method} {c : Code} {Q : State → Prop} {cc : ByteArray} {nL n0 u0 v0 : Nat} {own : String} {ini : Bool} {F : aFix} {ρ1 : Nat → Nat}
variable {pc : Nat} {L : List (Option Value)} {st : List Value} {σ : aSt}
/-- a call on a text builder whose selection is given -/
theorem a_callP {ix n d : Nat} {m9 : aMeth} {res : aRes} {σ' : aSt} {b0 : Nat} (C : a_ctx p l R s m args meth c cc nL own ini F) (hd : decode cc pc = .ok (.invokevirtual ix, 3)) (hok : a_mok m9) (h0 : m_hh m9 = []) (w1 : Jvm.Cond.methodLink own ix (m_y m9) ∈ am_ws) (w2 : Jvm.Cond.instanceMethod (m_y m9) ∈ am_ws) (h1 : 1 ≤ n) (hnp : a_npar (m_y m9) (n - 1)) (hsel : (Jvm.Cond.selects RJ4 (m_y m9) (m_y m9)).before args s = true) (hlen : n ≤ st.length) (hsum : ((st.drop n).map fun v => v.category).sum ≤ 8) (hb0 : st[n - 1]? = some (.ref b0)) (hk0 : a_kd σ b0 = 11)
    (hM9 : a_met l F m9 d ((st.take n).reverse) σ res σ') (hRf : d + 17 ≤ R.frames) (hRl : 60 * d + 360 ≤ R.locals) (hbs : a_bds (a_n σ) st) (hle : a_le σ σ') (hR : a_bdR σ') (hv : ∀ v, res = .inl (some v) → a_bd (a_n σ') v) (hB9 : a_uc σ' ≤ u0 + R.cells ∧ a_us σ' ≤ v0 + R.slots)
    (kk : ∀ v, res = .inl v → a_W p l e R s m args below meth c Q nL n0 u0 v0 F ρ1 (pc + 3, L, v.toList ++ st.drop n, σ'))
    (kx : ∀ x, res = .inr x → a_KX p l e R s m args below meth c Q nL n0 u0 v0 F ρ1 pc L (st.drop n) σ' x) : a_W p l e R s m args below meth c Q nL n0 u0 v0 F ρ1 (pc, L, st, σ) := by
  intro ρ H locs cells slots ls h
  obtain ⟨As, a1, a2, a3⟩ := a_split h1 hb0
  have g7 : a_uc σ = u0 + cells := h.2.2.2.2.2.2.1
  have g8 : a_us σ = v0 + slots := h.2.2.2.2.2.2.2
  have hh : a_hp F ρ σ H := h.1
  obtain ⟨hx, hb, hml, hown, hts, hE, -⟩ := id C
  obtain ⟨ok1, ok2, ok3, ok4, ok5, ok6⟩ := id hok
  obtain ⟨-, -, cell, q1, q2, q39, -⟩ := a_obj (k := 1) hh hk0 (q := (RJ4, TJ4, 4)) rfl
  have hrecv : ∃ cellB : Cell, H[ρ b0]? = some cellB ∧ cellB.vm.isStatics = false ∧ s.vm.findClass RJ4 = some cellB.cls := ⟨cell, q1, by rw [q39]; rfl, by rw [q2]; exact (hE.1.1 1 (RJ4, TJ4, 4) rfl).2.1⟩
  obtain ⟨l1, l2, l3⟩ := id hle
  have hf1 : (a_room d (a_uc σ' - a_uc σ) (a_us σ' - a_us σ)).frames + 1 ≤ R.frames := (fun x hx => by omega : ∀ x : Nat, x = d + 16 → x + 1 ≤ R.frames) _ (a_room_f _ _ _)
  have hf2 : 8 + (m_L m9 + 11) + (a_room d (a_uc σ' - a_uc σ) (a_us σ' - a_us σ)).locals ≤ R.locals := (fun x hx => by omega : ∀ x : Nat, x = 60 * d + 300 → 8 + (m_L m9 + 11) + x ≤ R.locals) _ (a_room_l _ _ _)
  have cw : CallW R s args own RJ4 ix (m_y m9) (m_cc m9) (m_L m9) (m_ret m9) (a_mws m9) (a_room d (a_uc σ' - a_uc σ) (a_us σ' - a_us σ)) (a_uc σ' - a_uc σ) (a_us σ' - a_us σ) (n - 1) := ⟨callB_of (n - 1) hts (a_mws_good hok) (a_cword0 h0) rfl rfl (hts _ ok4) (hts _ w1) ⟨ok3.1, ok3.2, hnp⟩ ⟨hf1, hf2⟩, hts _ w2, hsel⟩
  have hstk : st.map (a_vm ρ) = (As.map (a_vm ρ)).reverse ++ .ref (ρ b0) :: (st.drop n).map (a_vm ρ) := by
    conv => lhs; rw [a2]
    rw [List.map_append, List.map_cons, List.map_reverse]
    rfl
  have hav : (Value.ref (ρ b0) :: As.map (a_vm ρ)).toArray = (((st.take n).reverse).map (a_vm ρ)).toArray := by rw [a1]; rfl
  have hrun := vx_runV (H := H) (locs := locs) (cells := cells) (slots := slots) (g := F0 m pc ls (st.map (a_vm ρ))) (As := As.map (a_vm ρ)) (rest := (st.drop n).map (a_vm ρ)) (b := ρ b0) (below := below) (meth := meth) (e := e)
    ⟨hx, hb, hml, hown, hts⟩ (hM9 ρ) cw ⟨a_Pc_blind C.2.2.2.2.2.2.2.2.2.2.2.2, hrecv, a_pre C h hav⟩ rfl (by rw [List.length_map]; exact a3) h.2.2.1.2.1 hstk (lv_room (by rw [a_vm_sum]; exact hsum)) hd ⟨by omega, by omega⟩
  exact a_call_run h (fun v hv => hbs v (List.mem_of_mem_drop hv)) hle hR hv hrun kk kx
end ACALLP
theorem p_nat_pr {own : String} {i : Instr} {k n : Nat} (h : pr_nat own i k n) : k ≠ 1020 ∧ k ≠ 1021 := by
  obtain ⟨ix, -, z⟩ := h
  omega
theorem J_sys {l : Launch} {F : aFix} {b : Bool} (hF : J_fix F b) (hS9 : J_sel F) (hn : a_ncok F) (hx : a_fix F) (hl : l.stackTraces = false) : ∀ lv, a_sys l F (a_tabJ b) pr_J (12 * lv) (P_J b lv)
  | 0 => ⟨fun k k9 h => J_all hF k9 (J_mem h).2, hn, hx, hl, p_nat_good, by
      intro p e R s m args below meth c Q cc nL n0 u0 v0 own ini ρ1 pc L st σ σ' i k n v C hf1 hf2 hd hpr hlen hsum hP hst hL hR hB9 K
      rcases hpr with hpr | ⟨ix, -, -, z⟩
      · exact p_nat_ok (b9 := 12 * 0) C hf1 hf2 hd hpr hlen hsum hP hst hL hR hB9 K
      · have hP : p_nat k (st.take n).reverse σ = some (.inl v, σ') := hP
        rcases p_nat_k hP with w | w | w | w <;> omega, fun k as σ res σ' h => p_nat_ret h, fun k k9 as σ h => P_J_k (J_mem h).1⟩
  | lv + 1 => by
    have S := J_sys hF hS9 hn hx hl lv
    obtain ⟨g1, g2⟩ := a_call_snd S 12
    refine ⟨fun k k9 h => J_all hF k9 (J_mem h).2, hn, hx, hl, ?_, ?_, fun k as σ res σ' h => P_J_ret h, fun k k9 as σ h => P_J_k (J_mem h).1⟩
    · intro k as σ res σ' h hb hR
      rcases P_J_cs h with z | ⟨m, id, a, tl, v, z1, -, -, -, z2, z3⟩
      · exact p_nat_good _ _ _ _ _ z hb hR
      · cases z1
        rw [z2]
        exact g1 _ _ _ _ _ z3 hb hR
    · intro p e R s m args below meth c Q cc nL n0 u0 v0 own ini ρ1 pc L st σ σ' i k n v C hf1 hf2 hd hpr hlen hsum hP hst hL hR hB9 K
      rcases hpr with hpr | ⟨ix, rfl, rfl, z⟩
      · rw [P_J_nat (p_nat_pr hpr).1 (p_nat_pr hpr).2] at hP
        exact p_nat_ok (b9 := 12 * (lv + 1)) C hf1 hf2 hd hpr hlen hsum hP hst hL hR hB9 K
      · rcases P_J_cs hP with y | ⟨m9, id, a, tl, v2, y1, y2, y3, y4, y5, y6⟩
        · rcases p_nat_k y with w | w | w | w <;> omega
        · cases y1
          cases y5
          have hbs : a_bds (a_n σ) (st.take n).reverse := fun w hw => hst w (List.mem_of_mem_take (List.mem_reverse.mp hw))
          obtain ⟨l1, l2, l3⟩ := g1 _ _ _ _ _ y6 hbs hR
          have hfx := hS9 s s.heap C.2.2.2.2.2.1.2.2.2.2.2.2.2
          rcases z with ⟨rfl, rfl, w1⟩ | ⟨rfl, rfl, w1⟩
          · obtain ⟨-, rfl⟩ : 1020 = 1020 ∧ id = 2012 := by omega
            exact a_callP (n := 2) (m9 := qJ5_ensureCapacityInternal_d00df) C hd okm_J5_ensureCapacityInternal_d00df rfl w1 wj_13 (by decide) rfl (va_Nw.use rfl hfx.1) hlen hsum (st_at y3 hlen) y4 (g2 2012 _ _ _ _ _ aj_J5_ensureCapacityInternal_d00df y6 hbs hR) (by omega) (by omega) hst l1 l2 l3 hB9 (fun v e => by cases e; exact K) (fun x e => by cases e)
          · obtain ⟨-, rfl⟩ : 1021 = 1021 ∧ id = 2013 := by omega
            exact a_callP (n := 2) (m9 := qJ5_newCapacity_0f7a4) C hd okm_J5_newCapacity_0f7a4 rfl w1 wj_40 (by decide) rfl (va_Nw.use rfl hfx.2) hlen hsum (st_at y3 hlen) y4 (g2 2013 _ _ _ _ _ aj_J5_newCapacity_0f7a4 y6 hbs hR) (by omega) (by omega) hst l1 l2 l3 hB9 (fun v e => by cases e; exact K) (fun x e => by cases e)
section JNAT
variable {b : Bool} {d lv : Nat} {σ : aSt}
theorem n_P {k : Nat} {as : List Value} (h : a_tabJ b k = none) (h1 : k ≠ 1020) (h2 : k ≠ 1021) : a_call (a_tabJ b) (P_J b lv) d k as σ = p_nat k as σ := (e_callP0 h).trans (P_J_nat h1 h2 lv)
theorem j_min {x y : Nat} (h : x ≤ y) (hy : y < 2147483648) : a_call (a_tabJ b) (P_J b lv) d 1000 [.int (nI x), .int (nI y)] σ = some (.inl (some (.int (nI x))), σ) := by
  refine (n_P rfl (by decide) (by decide)).trans ?_
  have h0 : p_nat 1000 [.int (nI x), .int (nI y)] σ = some (.inl (some (.int (if nI x ≤ nI y then nI x else nI y))), σ) := rfl
  rw [h0, if_pos (nI_le h hy)]
theorem j_max {m : Nat} (hm9 : m < 1000) : a_call (a_tabJ b) (P_J b lv) d 1002 [.int (nI 1), .int (nI (m + 2))] σ = some (.inl (some (.int (nI (m + 2)))), σ) := by
  refine (n_P rfl (by decide) (by decide)).trans ?_
  have h0 : p_nat 1002 [.int (nI 1), .int (nI (m + 2))] σ = some (.inl (some (.int (if nI (m + 2) ≤ nI 1 then nI 1 else nI (m + 2)))), σ) := rfl
  rw [h0, if_neg (nI_ge (by omega) (by omega))]
theorem j_cpy {v w m : Nat} (k1 : a_kd σ v = 7) (k2 : a_kd σ w = 7) (l1 : a_ln σ v = m) (l2 : m ≤ a_ln σ w) (hm9 : m < 2147483648) (hf : ∀ i, i < m → fits .byte (.int (a_I σ v i)) = true) : a_call (a_tabJ b) (P_J b lv) d 1005 [.ref v, .int 0, .ref w, .int 0, .int (nI m)] σ = some (.inl none, a_cpx σ v w 0 0 m) := by
  refine (n_P rfl (by decide) (by decide)).trans ?_
  have z0 : (0 : Int32).toNatClampNeg = 0 := rfl
  have zm : (nI m).toNatClampNeg = m := nI_clamp (by omega)
  have ok : p_okc σ v w 0 0 (nI m) := by
    refine ⟨.inr ⟨k1, k2, fun i hi => ?_⟩, by decide, by decide, nI_pos (by omega), ?_, ?_⟩
    · rw [zm] at hi
      rw [z0, Nat.zero_add]
      exact hf i hi
    · rw [z0, zm, l1]; omega
    · rw [z0, zm]; omega
  have h0 : p_nat 1005 [.ref v, .int 0, .ref w, .int 0, .int (nI m)] σ = @ite _ (p_okc σ v w 0 0 (nI m)) (Classical.propDecidable _) (some (.inl none, a_cpx σ v w (0 : Int32).toNatClampNeg (0 : Int32).toNatClampNeg (nI m).toNatClampNeg)) none := rfl
  rw [h0, if_pos ok, z0, zm]
theorem j_cpi {v w m : Nat} (k1 : a_kd σ v = 1) (k2 : a_kd σ w = 1) (l1 : m ≤ a_ln σ v) (l2 : m ≤ a_ln σ w) (hm9 : m < 2147483648) : p_nat 1005 [.ref v, .int (nI 0), .ref w, .int (nI 0), .int (nI m)] σ = some (.inl none, a_cpx σ v w 0 0 m) := by
  have z0 : (nI 0).toNatClampNeg = 0 := rfl
  have zm : (nI m).toNatClampNeg = m := nI_clamp (by omega)
  have ok : p_okc σ v w (nI 0) (nI 0) (nI m) := by
    refine ⟨.inl ⟨k1, k2⟩, by decide, by decide, nI_pos (by omega), ?_, ?_⟩
    · rw [z0, zm]; omega
    · rw [z0, zm]; omega
  have h0 : p_nat 1005 [.ref v, .int (nI 0), .ref w, .int (nI 0), .int (nI m)] σ = @ite _ (p_okc σ v w (nI 0) (nI 0) (nI m)) (Classical.propDecidable _) (some (.inl none, a_cpx σ v w (nI 0).toNatClampNeg (nI 0).toNatClampNeg (nI m).toNatClampNeg)) none := rfl
  rw [h0, if_pos ok, z0, zm]
end JNAT
