/-! THE RUN AS A FUNCTION: what the abstract machine comes to, with an equation for each instruction. -/
noncomputable def b_R (C : aCall) (code : aCode) (hh : List (Nat × Nat × Nat × Nat × Nat)) (c : aCfg) : Option (aRes × aSt) := a_lim (fun n => a_runN C code hh n c)
/-- what goes on behind a call -/
noncomputable def b_G (C : aCall) (code : aCode) (hh : List (Nat × Nat × Nat × Nat × Nat)) (pc0 pc : Nat) (L : List (Option Value)) (st : List Value) (r : Option (aRes × aSt)) : Option (aRes × aSt) := match r with
  | none => none
  | some (.inl v, σ') => b_R C code hh (pc, L, v.toList ++ st, σ')
  | some (.inr x, σ') => match a_hand hh pc0 x with
    | some h => b_R C code hh (h, L, [.ref (a_n σ')], a_name σ')
    | none => some (.inr x, σ')
def b_gd (p : Prop) [Decidable p] (x : Option (aRes × aSt)) : Option (aRes × aSt) := if p then x else none
theorem b_gd_t {p : Prop} [Decidable p] {x : Option (aRes × aSt)} (h : p) : b_gd p x = x := if_pos h
theorem b_gd_c {p : Prop} [Decidable p] {x y : Option (aRes × aSt)} (h : x = y) : b_gd p x = b_gd p y := by rw [h]
theorem b_ite {p : Prop} [Decidable p] {a a' b b' : Option (aRes × aSt)} (h1 : a = a') (h2 : b = b') : (if p then a else b) = (if p then a' else b') := by rw [h1, h2]
section RUN
variable {C : aCall} {code : aCode} {hh : List (Nat × Nat × Nat × Nat × Nat)}
theorem a_runN_mono : ∀ {n : Nat} {c : aCfg} {r : aRes × aSt}, a_runN C code hh n c = some r → a_runN C code hh (n + 1) c = some r
  | 0, c, r, h => by cases h
  | n + 1, c, r, h => by
    unfold a_runN at h
    unfold a_runN
    split at h
    · cases h
    · rename_i c' e1
      exact a_runN_mono h
    · exact h
    · rename_i k as pc L st σ e1
      split at h
      · cases h
      · exact a_runN_mono h
      · split at h
        · exact a_runN_mono h
        · exact h
theorem a_runN_le {n m : Nat} {c : aCfg} {r : aRes × aSt} (h : a_runN C code hh n c = some r) (hm : n ≤ m) : a_runN C code hh m c = some r := by
  obtain ⟨k, rfl⟩ := Nat.le.dest hm
  induction k with
  | zero => exact h
  | succ k ih => exact a_runN_mono (ih (Nat.le_add_right _ _))
theorem b_R_iff {c : aCfg} {r : aRes × aSt} : b_R C code hh c = some r ↔ ∃ n, a_runN C code hh n c = some r := by
  constructor
  · exact fun h => a_lim_spec h
  · rintro ⟨n, hn⟩
    unfold b_R a_lim
    have hex : ∃ n, (a_runN C code hh n c).isSome := ⟨n, by rw [hn]; rfl⟩
    rw [dif_pos hex]
    have h2 := Classical.choose_spec hex
    obtain ⟨r2, h3⟩ := Option.isSome_iff_exists.mp h2
    have h4 := a_runN_le h3 (Nat.le_max_left _ n)
    have h5 := a_runN_le hn (Nat.le_max_right (Classical.choose hex) n)
    rw [h5] at h4
    cases h4
    exact h3
theorem b_R_ext {c c' : aCfg} (h : ∀ r, (∃ n, a_runN C code hh n c = some r) ↔ ∃ n, a_runN C code hh n c' = some r) : b_R C code hh c = b_R C code hh c' := by
  cases h1 : b_R C code hh c with
  | some r => exact ((b_R_iff.mpr ((h r).mp (b_R_iff.mp h1)))).symm
  | none =>
    cases h2 : b_R C code hh c' with
    | none => rfl
    | some r =>
      rw [b_R_iff.mpr ((h r).mpr (b_R_iff.mp h2))] at h1
      cases h1
theorem b_R_go {c c' : aCfg} (h : a_step code c = some (.inl c')) : b_R C code hh c = b_R C code hh c' := by
  refine b_R_ext fun r => ⟨fun ⟨n, hn⟩ => ?_, fun ⟨n, hn⟩ => ⟨n + 1, ?_⟩⟩
  · cases n with
    | zero => cases hn
    | succ n =>
      unfold a_runN at hn
      rw [h] at hn
      exact ⟨n, hn⟩
  · unfold a_runN
    rw [h]
    exact hn
theorem b_R_no {c : aCfg} (h : a_step code c = none) : b_R C code hh c = none := by
  cases h1 : b_R C code hh c with
  | none => rfl
  | some r =>
    obtain ⟨n, hn⟩ := b_R_iff.mp h1
    cases n with
    | zero => cases hn
    | succ n =>
      unfold a_runN at hn
      rw [h] at hn
      cases hn
theorem b_R_rt {c : aCfg} {r : aRes} {σ : aSt} (h : a_step code c = some (.inr (.inl (r, σ)))) : b_R C code hh c = some (r, σ) :=
  b_R_iff.mpr ⟨1, by unfold a_runN; rw [h]⟩
theorem b_R_cl {c : aCfg} {k pc : Nat} {as st : List Value} {L : List (Option Value)} {σ : aSt} (h : a_step code c = some (.inr (.inr (k, as, (pc, L, st, σ))))) : b_R C code hh c = b_G C code hh c.1 pc L st (C k as σ) := by
  cases hc : C k as σ with
  | none =>
    cases h1 : b_R C code hh c with
    | none => rfl
    | some r =>
      obtain ⟨n, hn⟩ := b_R_iff.mp h1
      cases n with
      | zero => cases hn
      | succ n =>
        unfold a_runN at hn
        rw [h] at hn
        dsimp only at hn
        rw [hc] at hn
        cases hn
  | some rs =>
    obtain ⟨res, σ'⟩ := rs
    cases res with
    | inl v =>
      show _ = b_R C code hh (pc, L, v.toList ++ st, σ')
      refine b_R_ext fun r => ⟨fun ⟨n, hn⟩ => ?_, fun ⟨n, hn⟩ => ⟨n + 1, ?_⟩⟩
      · cases n with
        | zero => cases hn
        | succ n =>
          unfold a_runN at hn
          rw [h] at hn
          dsimp only at hn
          rw [hc] at hn
          exact ⟨n, hn⟩
      · unfold a_runN
        rw [h]
        dsimp only
        rw [hc]
        exact hn
    | inr x =>
      show _ = (match a_hand hh c.1 x with | some h => b_R C code hh (h, L, [.ref (a_n σ')], a_name σ') | none => some (.inr x, σ'))
      cases hd : a_hand hh c.1 x with
      | none =>
        refine b_R_iff.mpr ⟨1, ?_⟩
        unfold a_runN
        rw [h]
        dsimp only
        rw [hc]
        dsimp only
        rw [hd]
      | some h9 =>
        refine b_R_ext fun r => ⟨fun ⟨n, hn⟩ => ?_, fun ⟨n, hn⟩ => ⟨n + 1, ?_⟩⟩
        · cases n with
          | zero => cases hn
          | succ n =>
            unfold a_runN at hn
            rw [h] at hn
            dsimp only at hn
            rw [hc] at hn
            dsimp only at hn
            rw [hd] at hn
            exact ⟨n, hn⟩
        · unfold a_runN
          rw [h]
          dsimp only
          rw [hc]
          dsimp only
          rw [hd]
          exact hn
theorem b_st {c : aCfg} {i : Instr} {len tgt : Nat} {r : aRef} {z : Int32} {o : Option aAct} (h : code.lookup c.1 = some (i, len, r, z, tgt)) (e : a_exec i len r z tgt c.1 c.2.1 c.2.2.1 c.2.2.2 = o) : a_step code c = o := by
  unfold a_step
  rw [h]
  exact e
variable {pc len tgt : Nat} {r : aRef} {z : Int32} {L : List (Option Value)} {st : List Value} {σ : aSt}
theorem e_iconst {n : Int} (h : code.lookup pc = some (.iconst n, len, r, z, tgt)) : b_R C code hh (pc, L, st, σ) = b_R C code hh (pc + len, L, .int z :: st, σ) := b_R_go (b_st h rfl)
theorem e_bipush {n : Int} (h : code.lookup pc = some (.bipush n, len, r, z, tgt)) : b_R C code hh (pc, L, st, σ) = b_R C code hh (pc + len, L, .int z :: st, σ) := b_R_go (b_st h rfl)
theorem e_sipush {n : Int} (h : code.lookup pc = some (.sipush n, len, r, z, tgt)) : b_R C code hh (pc, L, st, σ) = b_R C code hh (pc + len, L, .int z :: st, σ) := b_R_go (b_st h rfl)
theorem e_ldcI {i len a b : Nat} (h : code.lookup pc = some (.ldc i, len, (0, a, b), z, tgt)) : b_R C code hh (pc, L, st, σ) = b_R C code hh (pc + len, L, .int z :: st, σ) := b_R_go (b_st h rfl)
theorem e_ldcS {i len a b : Nat} (h : code.lookup pc = some (.ldc i, len, (1, a, b), z, tgt)) : b_R C code hh (pc, L, st, σ) = b_R C code hh (pc + len, L, .ref a :: st, σ) := b_R_go (b_st h rfl)
theorem e_ldc_wI {i len a b : Nat} (h : code.lookup pc = some (.ldc_w i, len, (0, a, b), z, tgt)) : b_R C code hh (pc, L, st, σ) = b_R C code hh (pc + len, L, .int z :: st, σ) := b_R_go (b_st h rfl)
theorem e_ldc_wS {i len a b : Nat} (h : code.lookup pc = some (.ldc_w i, len, (1, a, b), z, tgt)) : b_R C code hh (pc, L, st, σ) = b_R C code hh (pc + len, L, .ref a :: st, σ) := b_R_go (b_st h rfl)
theorem e_ldc2_w {i : Nat} (h : code.lookup pc = some (.ldc2_w i, len, r, z, tgt)) : b_R C code hh (pc, L, st, σ) = b_R C code hh (pc + len, L, .long z.toInt64 :: st, σ) := b_R_go (b_st h rfl)
theorem e_lconst {n : Fin 2} (h : code.lookup pc = some (.lconst n, len, r, z, tgt)) : b_R C code hh (pc, L, st, σ) = b_R C code hh (pc + len, L, .long (Int64.ofNat n.val) :: st, σ) := b_R_go (b_st h rfl)
theorem e_fconst (h : code.lookup pc = some (.fconst 0, len, r, z, tgt)) : b_R C code hh (pc, L, st, σ) = b_R C code hh (pc + len, L, .float FP.fconst0 :: st, σ) := b_R_go (b_st h rfl)
theorem e_dconst (h : code.lookup pc = some (.dconst 0, len, r, z, tgt)) : b_R C code hh (pc, L, st, σ) = b_R C code hh (pc + len, L, .double FP.dconst0 :: st, σ) := b_R_go (b_st h rfl)
theorem e_aconst_null (h : code.lookup pc = some (.aconst_null, len, r, z, tgt)) : b_R C code hh (pc, L, st, σ) = b_R C code hh (pc + len, L, .null :: st, σ) := b_R_go (b_st h rfl)
theorem e_iload {i : Nat} {x : Int32} (h : code.lookup pc = some (.iload i, len, r, z, tgt)) (hL : L.getD i none = some (.int x)) : b_R C code hh (pc, L, st, σ) = b_R C code hh (pc + len, L, .int x :: st, σ) := b_R_go (b_st h (by simp only [a_exec, a_ldI, hL, a_go]))
theorem e_iload_n {i : Fin 4} {x : Int32} (h : code.lookup pc = some (.iload_n i, len, r, z, tgt)) (hL : L.getD i.val none = some (.int x)) : b_R C code hh (pc, L, st, σ) = b_R C code hh (pc + len, L, .int x :: st, σ) := b_R_go (b_st h (by simp only [a_exec, a_ldI, hL, a_go]))
theorem e_lload_n {i : Fin 4} {x : Int64} (h : code.lookup pc = some (.lload_n i, len, r, z, tgt)) (hL : L.getD i.val none = some (.long x)) : b_R C code hh (pc, L, st, σ) = b_R C code hh (pc + len, L, .long x :: st, σ) := b_R_go (b_st h (by simp only [a_exec, a_ldL, hL, a_go]))
theorem e_dload {i : Nat} {x : UInt64} (h : code.lookup pc = some (.dload i, len, r, z, tgt)) (hL : L.getD i none = some (.double x)) : b_R C code hh (pc, L, st, σ) = b_R C code hh (pc + len, L, .double x :: st, σ) := b_R_go (b_st h (by simp only [a_exec, a_ldD, hL, a_go]))
theorem e_aload {i a : Nat} (h : code.lookup pc = some (.aload i, len, r, z, tgt)) (hL : L.getD i none = some (.ref a)) : b_R C code hh (pc, L, st, σ) = b_R C code hh (pc + len, L, .ref a :: st, σ) := b_R_go (b_st h (by simp only [a_exec, a_ldA, hL, a_go]))
theorem e_aload_n {i : Fin 4} {a : Nat} (h : code.lookup pc = some (.aload_n i, len, r, z, tgt)) (hL : L.getD i.val none = some (.ref a)) : b_R C code hh (pc, L, st, σ) = b_R C code hh (pc + len, L, .ref a :: st, σ) := b_R_go (b_st h (by simp only [a_exec, a_ldA, hL, a_go]))
theorem e_st1 {L : List (Option Value)} {i : Nat} {v : Value} (h1 : Nat.blt i L.length = true) (h2 : a_c1 (L.getD (i - 1) none) = true) : a_st1 L i v = some (L.set i (some v)) := if_pos ⟨Nat.le_of_ble_eq_true h1, .inr h2⟩
theorem e_st2 {L : List (Option Value)} {i : Nat} {v : Value} (h1 : Nat.blt (i + 1) L.length = true) (h2 : a_c1 (L.getD (i - 1) none) = true) : a_st2 L i v = some ((L.set i (some v)).set (i + 1) none) := if_pos ⟨Nat.le_of_ble_eq_true h1, .inr h2⟩
theorem e_istore {i : Nat} {x : Int32} (h : code.lookup pc = some (.istore i, len, r, z, tgt)) (h1 : Nat.blt i L.length = true) (h2 : a_c1 (L.getD (i - 1) none) = true) : b_R C code hh (pc, L, .int x :: st, σ) = b_R C code hh (pc + len, L.set i (some (.int x)), st, σ) := b_R_go (b_st h (by simp only [a_exec, a_stI, e_st1 h1 h2, a_sto, a_go]))
theorem e_istore_n {i : Fin 4} {x : Int32} (h : code.lookup pc = some (.istore_n i, len, r, z, tgt)) (h1 : Nat.blt i.val L.length = true) (h2 : a_c1 (L.getD (i.val - 1) none) = true) : b_R C code hh (pc, L, .int x :: st, σ) = b_R C code hh (pc + len, L.set i.val (some (.int x)), st, σ) := b_R_go (b_st h (by simp only [a_exec, a_stI, e_st1 h1 h2, a_sto, a_go]))
theorem e_astore {i a : Nat} (h : code.lookup pc = some (.astore i, len, r, z, tgt)) (h1 : Nat.blt i L.length = true) (h2 : a_c1 (L.getD (i - 1) none) = true) : b_R C code hh (pc, L, .ref a :: st, σ) = b_R C code hh (pc + len, L.set i (some (.ref a)), st, σ) := b_R_go (b_st h (by simp only [a_exec, a_stA, e_st1 h1 h2, a_sto, a_go]))
theorem e_astore_n {i : Fin 4} {a : Nat} (h : code.lookup pc = some (.astore_n i, len, r, z, tgt)) (h1 : Nat.blt i.val L.length = true) (h2 : a_c1 (L.getD (i.val - 1) none) = true) : b_R C code hh (pc, L, .ref a :: st, σ) = b_R C code hh (pc + len, L.set i.val (some (.ref a)), st, σ) := b_R_go (b_st h (by simp only [a_exec, a_stA, e_st1 h1 h2, a_sto, a_go]))
theorem e_dstore {i : Nat} {x : UInt64} (h : code.lookup pc = some (.dstore i, len, r, z, tgt)) (h1 : Nat.blt (i + 1) L.length = true) (h2 : a_c1 (L.getD (i - 1) none) = true) : b_R C code hh (pc, L, .double x :: st, σ) = b_R C code hh (pc + len, (L.set i (some (.double x))).set (i + 1) none, st, σ) := b_R_go (b_st h (by simp only [a_exec, a_stD, e_st2 h1 h2, a_sto, a_go]))
theorem e_iinc {i : Nat} {n : Int} {x : Int32} (h : code.lookup pc = some (.iinc i n, len, r, z, tgt)) (hL : L.getD i none = some (.int x)) (h1 : Nat.blt i L.length = true) (h2 : a_c1 (L.getD (i - 1) none) = true) : b_R C code hh (pc, L, st, σ) = b_R C code hh (pc + len, L.set i (some (.int (x + z))), st, σ) := b_R_go (b_st h (by simp only [a_exec, hL, e_st1 h1 h2, a_sto, a_go]))
theorem e_iadd {x y : Int32} (h : code.lookup pc = some (.iadd, len, r, z, tgt)) : b_R C code hh (pc, L, .int y :: .int x :: st, σ) = b_R C code hh (pc + len, L, .int (x + y) :: st, σ) := b_R_go (b_st h rfl)
theorem e_isub {x y : Int32} (h : code.lookup pc = some (.isub, len, r, z, tgt)) : b_R C code hh (pc, L, .int y :: .int x :: st, σ) = b_R C code hh (pc + len, L, .int (x - y) :: st, σ) := b_R_go (b_st h rfl)
theorem e_imul {x y : Int32} (h : code.lookup pc = some (.imul, len, r, z, tgt)) : b_R C code hh (pc, L, .int y :: .int x :: st, σ) = b_R C code hh (pc + len, L, .int (x * y) :: st, σ) := b_R_go (b_st h rfl)
theorem e_iand {x y : Int32} (h : code.lookup pc = some (.iand, len, r, z, tgt)) : b_R C code hh (pc, L, .int y :: .int x :: st, σ) = b_R C code hh (pc + len, L, .int (x &&& y) :: st, σ) := b_R_go (b_st h rfl)
theorem e_ior {x y : Int32} (h : code.lookup pc = some (.ior, len, r, z, tgt)) : b_R C code hh (pc, L, .int y :: .int x :: st, σ) = b_R C code hh (pc + len, L, .int (x ||| y) :: st, σ) := b_R_go (b_st h rfl)
theorem e_ixor {x y : Int32} (h : code.lookup pc = some (.ixor, len, r, z, tgt)) : b_R C code hh (pc, L, .int y :: .int x :: st, σ) = b_R C code hh (pc + len, L, .int (x ^^^ y) :: st, σ) := b_R_go (b_st h rfl)
theorem e_ishl {x y : Int32} (h : code.lookup pc = some (.ishl, len, r, z, tgt)) : b_R C code hh (pc, L, .int y :: .int x :: st, σ) = b_R C code hh (pc + len, L, .int (x <<< (y &&& 31)) :: st, σ) := b_R_go (b_st h rfl)
theorem e_ishr {x y : Int32} (h : code.lookup pc = some (.ishr, len, r, z, tgt)) : b_R C code hh (pc, L, .int y :: .int x :: st, σ) = b_R C code hh (pc + len, L, .int (x >>> (y &&& 31)) :: st, σ) := b_R_go (b_st h rfl)
theorem e_idiv {x y : Int32} (h : code.lookup pc = some (.idiv, len, r, z, tgt)) : b_R C code hh (pc, L, .int y :: .int x :: st, σ) = b_gd (y ≠ 0) (b_R C code hh (pc + len, L, .int (x / y) :: st, σ)) := by
  by_cases hy : y = 0
  · rw [b_R_no (b_st h (by simp only [a_exec, a_div, hy, if_pos]))]
    exact (if_neg (fun z => z hy)).symm
  · rw [b_gd_t hy]
    exact b_R_go (b_st h (by simp only [a_exec, a_div, hy, if_neg, a_go, not_false_eq_true]))
theorem e_irem {x y : Int32} (h : code.lookup pc = some (.irem, len, r, z, tgt)) : b_R C code hh (pc, L, .int y :: .int x :: st, σ) = b_gd (y ≠ 0) (b_R C code hh (pc + len, L, .int (x - x / y * y) :: st, σ)) := by
  by_cases hy : y = 0
  · rw [b_R_no (b_st h (by simp only [a_exec, a_div, hy, if_pos]))]
    exact (if_neg (fun z => z hy)).symm
  · rw [b_gd_t hy]
    exact b_R_go (b_st h (by simp only [a_exec, a_div, hy, if_neg, a_go, not_false_eq_true]))
theorem e_ladd {x y : Int64} (h : code.lookup pc = some (.ladd, len, r, z, tgt)) : b_R C code hh (pc, L, .long y :: .long x :: st, σ) = b_R C code hh (pc + len, L, .long (x + y) :: st, σ) := b_R_go (b_st h rfl)
theorem e_lsub {x y : Int64} (h : code.lookup pc = some (.lsub, len, r, z, tgt)) : b_R C code hh (pc, L, .long y :: .long x :: st, σ) = b_R C code hh (pc + len, L, .long (x - y) :: st, σ) := b_R_go (b_st h rfl)
theorem e_lmul {x y : Int64} (h : code.lookup pc = some (.lmul, len, r, z, tgt)) : b_R C code hh (pc, L, .long y :: .long x :: st, σ) = b_R C code hh (pc + len, L, .long (x * y) :: st, σ) := b_R_go (b_st h rfl)
theorem e_land {x y : Int64} (h : code.lookup pc = some (.land, len, r, z, tgt)) : b_R C code hh (pc, L, .long y :: .long x :: st, σ) = b_R C code hh (pc + len, L, .long (x &&& y) :: st, σ) := b_R_go (b_st h rfl)
theorem e_lor {x y : Int64} (h : code.lookup pc = some (.lor, len, r, z, tgt)) : b_R C code hh (pc, L, .long y :: .long x :: st, σ) = b_R C code hh (pc + len, L, .long (x ||| y) :: st, σ) := b_R_go (b_st h rfl)
theorem e_i2l {x : Int32} (h : code.lookup pc = some (.i2l, len, r, z, tgt)) : b_R C code hh (pc, L, .int x :: st, σ) = b_R C code hh (pc + len, L, .long x.toInt64 :: st, σ) := b_R_go (b_st h rfl)
theorem e_l2i {x : Int64} (h : code.lookup pc = some (.l2i, len, r, z, tgt)) : b_R C code hh (pc, L, .long x :: st, σ) = b_R C code hh (pc + len, L, .int x.toInt32 :: st, σ) := b_R_go (b_st h rfl)
theorem e_i2c {x : Int32} (h : code.lookup pc = some (.i2c, len, r, z, tgt)) : b_R C code hh (pc, L, .int x :: st, σ) = b_R C code hh (pc + len, L, .int (x.toUInt32 % 65536).toInt32 :: st, σ) := b_R_go (b_st h rfl)
theorem e_i2d {x : Int32} (h : code.lookup pc = some (.i2d, len, r, z, tgt)) : b_R C code hh (pc, L, .int x :: st, σ) = b_R C code hh (pc + len, L, .double (FP.i2d x) :: st, σ) := b_R_go (b_st h rfl)
theorem e_i2f {x : Int32} (h : code.lookup pc = some (.i2f, len, r, z, tgt)) : b_R C code hh (pc, L, .int x :: st, σ) = b_R C code hh (pc + len, L, .float (FP.i2f x) :: st, σ) := b_R_go (b_st h rfl)
theorem e_lcmp {x y : Int64} (h : code.lookup pc = some (.lcmp, len, r, z, tgt)) : b_R C code hh (pc, L, .long y :: .long x :: st, σ) = b_R C code hh (pc + len, L, .int (lg_cmp x y) :: st, σ) := b_R_go (b_st h rfl)
theorem e_dcmp {op : _} {x y : UInt64} (h : code.lookup pc = some (.dcmp op, len, r, z, tgt)) : b_R C code hh (pc, L, .double y :: .double x :: st, σ) = b_R C code hh (pc + len, L, .int (Op.cmpValue (FP.dcmp x y) op) :: st, σ) := b_R_go (b_st h rfl)
theorem i_le {x y : Int32} : x ≤ y ↔ ¬ y < x := Int32.not_lt.symm
theorem e_br {p : Prop} [Decidable p] {b : Bool} {t q : Nat} (hb : b = decide p) : (b_R C code hh (if b then t else q, L, st, σ)) = if p then b_R C code hh (t, L, st, σ) else b_R C code hh (q, L, st, σ) := by
  subst hb
  by_cases hp : p
  · rw [if_pos hp, if_pos (decide_eq_true hp)]
  · rw [if_neg hp, if_neg (by rw [decide_eq_false hp]; exact Bool.false_ne_true)]
theorem e_swap {p : Prop} [Decidable p] {a b : Option (aRes × aSt)} : (if ¬ p then a else b) = if p then b else a := by
  by_cases hp : p
  · rw [if_pos hp, if_neg (fun z => z hp)]
  · rw [if_neg hp, if_pos hp]
theorem e_ifeq {x : Int32} {o : Int} (h : code.lookup pc = some (.ifCond .eq o, len, r, z, tgt)) : b_R C code hh (pc, L, .int x :: st, σ) = if x = 0 then b_R C code hh (tgt, L, st, σ) else b_R C code hh (pc + len, L, st, σ) := (b_R_go (b_st h rfl)).trans (e_br rfl)
theorem e_ifne {x : Int32} {o : Int} (h : code.lookup pc = some (.ifCond .ne o, len, r, z, tgt)) : b_R C code hh (pc, L, .int x :: st, σ) = if x = 0 then b_R C code hh (pc + len, L, st, σ) else b_R C code hh (tgt, L, st, σ) := ((b_R_go (b_st h rfl)).trans (e_br rfl)).trans e_swap
theorem e_iflt {x : Int32} {o : Int} (h : code.lookup pc = some (.ifCond .lt o, len, r, z, tgt)) : b_R C code hh (pc, L, .int x :: st, σ) = if x < 0 then b_R C code hh (tgt, L, st, σ) else b_R C code hh (pc + len, L, st, σ) := (b_R_go (b_st h rfl)).trans (e_br rfl)
theorem e_ifgt {x : Int32} {o : Int} (h : code.lookup pc = some (.ifCond .gt o, len, r, z, tgt)) : b_R C code hh (pc, L, .int x :: st, σ) = if 0 < x then b_R C code hh (tgt, L, st, σ) else b_R C code hh (pc + len, L, st, σ) := (b_R_go (b_st h rfl)).trans (e_br rfl)
theorem e_ifge {x : Int32} {o : Int} (h : code.lookup pc = some (.ifCond .ge o, len, r, z, tgt)) : b_R C code hh (pc, L, .int x :: st, σ) = if x < 0 then b_R C code hh (pc + len, L, st, σ) else b_R C code hh (tgt, L, st, σ) := ((b_R_go (b_st h rfl)).trans (e_br (p := ¬ x < 0) (decide_eq_decide.mpr i_le))).trans e_swap
theorem e_ifle {x : Int32} {o : Int} (h : code.lookup pc = some (.ifCond .le o, len, r, z, tgt)) : b_R C code hh (pc, L, .int x :: st, σ) = if 0 < x then b_R C code hh (pc + len, L, st, σ) else b_R C code hh (tgt, L, st, σ) := ((b_R_go (b_st h rfl)).trans (e_br (p := ¬ 0 < x) (decide_eq_decide.mpr i_le))).trans e_swap
theorem e_iceq {x y : Int32} {o : Int} (h : code.lookup pc = some (.if_icmp .eq o, len, r, z, tgt)) : b_R C code hh (pc, L, .int y :: .int x :: st, σ) = if x = y then b_R C code hh (tgt, L, st, σ) else b_R C code hh (pc + len, L, st, σ) := (b_R_go (b_st h rfl)).trans (e_br rfl)
theorem e_icne {x y : Int32} {o : Int} (h : code.lookup pc = some (.if_icmp .ne o, len, r, z, tgt)) : b_R C code hh (pc, L, .int y :: .int x :: st, σ) = if x = y then b_R C code hh (pc + len, L, st, σ) else b_R C code hh (tgt, L, st, σ) := ((b_R_go (b_st h rfl)).trans (e_br rfl)).trans e_swap
theorem e_iclt {x y : Int32} {o : Int} (h : code.lookup pc = some (.if_icmp .lt o, len, r, z, tgt)) : b_R C code hh (pc, L, .int y :: .int x :: st, σ) = if x < y then b_R C code hh (tgt, L, st, σ) else b_R C code hh (pc + len, L, st, σ) := (b_R_go (b_st h rfl)).trans (e_br rfl)
theorem e_icgt {x y : Int32} {o : Int} (h : code.lookup pc = some (.if_icmp .gt o, len, r, z, tgt)) : b_R C code hh (pc, L, .int y :: .int x :: st, σ) = if y < x then b_R C code hh (tgt, L, st, σ) else b_R C code hh (pc + len, L, st, σ) := (b_R_go (b_st h rfl)).trans (e_br rfl)
theorem e_icge {x y : Int32} {o : Int} (h : code.lookup pc = some (.if_icmp .ge o, len, r, z, tgt)) : b_R C code hh (pc, L, .int y :: .int x :: st, σ) = if x < y then b_R C code hh (pc + len, L, st, σ) else b_R C code hh (tgt, L, st, σ) := ((b_R_go (b_st h rfl)).trans (e_br (p := ¬ x < y) (decide_eq_decide.mpr i_le))).trans e_swap
theorem e_icle {x y : Int32} {o : Int} (h : code.lookup pc = some (.if_icmp .le o, len, r, z, tgt)) : b_R C code hh (pc, L, .int y :: .int x :: st, σ) = if y < x then b_R C code hh (pc + len, L, st, σ) else b_R C code hh (tgt, L, st, σ) := ((b_R_go (b_st h rfl)).trans (e_br (p := ¬ y < x) (decide_eq_decide.mpr i_le))).trans e_swap
theorem e_goto {o : Int} (h : code.lookup pc = some (.goto o, len, r, z, tgt)) : b_R C code hh (pc, L, st, σ) = b_R C code hh (tgt, L, st, σ) := b_R_go (b_st h rfl)
theorem e_ifnonnullR {o : Int} {a : Nat} (h : code.lookup pc = some (.ifnonnull o, len, r, z, tgt)) : b_R C code hh (pc, L, .ref a :: st, σ) = b_R C code hh (tgt, L, st, σ) := b_R_go (b_st h rfl)
theorem e_ifnonnullN {o : Int} (h : code.lookup pc = some (.ifnonnull o, len, r, z, tgt)) : b_R C code hh (pc, L, .null :: st, σ) = b_R C code hh (pc + len, L, st, σ) := b_R_go (b_st h rfl)
/-- the place that a switch goes to -/
def b_tsw (pc : Nat) (d lo hi : Int) (offs : Array Int) (x : Int32) : Nat := if x.toInt < lo ∨ hi < x.toInt then ((pc : Int) + d).toNat else ((pc : Int) + offs.getD (x.toInt - lo).toNat 0).toNat
theorem e_tableswitch {x : Int32} {d lo hi : Int} {offs : Array Int} (h : code.lookup pc = some (.tableswitch d lo hi offs, len, r, z, tgt)) (hs : decide (hi + 1 = lo + offs.size) = true) : b_R C code hh (pc, L, .int x :: st, σ) = b_R C code hh (b_tsw pc d lo hi offs x, L, st, σ) := by
  have hs := of_decide_eq_true hs
  refine b_R_go (b_st h ?_)
  simp only [a_exec, a_tsw]
  unfold b_tsw
  by_cases hx : x.toInt < lo ∨ hi < x.toInt
  · rw [if_pos hx, if_pos hx]; rfl
  · rw [if_neg hx, if_neg hx]
    have h1 : (x.toInt - lo).toNat < offs.size := by omega
    rw [Array.getElem?_eq_getElem h1, Array.getD_eq_getD_getElem?, Array.getElem?_eq_getElem h1]
    rfl
theorem e_dup {v : Value} (h : code.lookup pc = some (.dup, len, r, z, tgt)) (hv : v.category = 1) : b_R C code hh (pc, L, v :: st, σ) = b_R C code hh (pc + len, L, v :: v :: st, σ) := b_R_go (b_st h (by simp only [a_exec, hv, if_pos, a_go]))
theorem e_dup_x1 {v w : Value} (h : code.lookup pc = some (.dup_x1, len, r, z, tgt)) (hv : v.category = 1) (hw : w.category = 1) : b_R C code hh (pc, L, v :: w :: st, σ) = b_R C code hh (pc + len, L, v :: w :: v :: st, σ) := b_R_go (b_st h (by simp only [a_exec, hv, hw, and_self, if_pos, a_go]))
theorem e_dup2 {v w : Value} (h : code.lookup pc = some (.dup2, len, r, z, tgt)) (hv : v.category = 1) (hw : w.category = 1) : b_R C code hh (pc, L, v :: w :: st, σ) = b_R C code hh (pc + len, L, v :: w :: v :: w :: st, σ) := b_R_go (b_st h (by simp only [a_exec, hv, hw, and_self, if_pos, a_go]))
theorem e_pop {v : Value} (h : code.lookup pc = some (.pop, len, r, z, tgt)) (hv : v.category = 1) : b_R C code hh (pc, L, v :: st, σ) = b_R C code hh (pc + len, L, st, σ) := b_R_go (b_st h (by simp only [a_exec, hv, if_pos, a_go]))
theorem e_getI {i a c k y : Nat} (h : code.lookup pc = some (.getfield i, len, (c, k, y), z, tgt)) (hk : a_kd σ a = 10 + c) (hy : Nat.beq y 1 = false) : b_R C code hh (pc, L, .ref a :: st, σ) = b_R C code hh (pc + len, L, .int (a_I σ a k) :: st, σ) := b_R_go (b_st h (by
  have hy' : y ≠ 1 := fun q => by subst q; cases hy
  simp only [a_exec, a_get, hk, if_pos, hy', if_neg, a_go, not_false_eq_true]))
theorem e_getR {i a b c k : Nat} (h : code.lookup pc = some (.getfield i, len, (c, k, 1), z, tgt)) (hk : a_kd σ a = 10 + c) (hr : a_R σ a k = some b) : b_R C code hh (pc, L, .ref a :: st, σ) = b_R C code hh (pc + len, L, .ref b :: st, σ) := b_R_go (b_st h (by simp only [a_exec, a_get, hk, if_pos, a_go, hr, a_rf]))
theorem e_putI {i a c k : Nat} {x : Int32} (h : code.lookup pc = some (.putfield i, len, (c, k, 0), z, tgt)) (hk : a_kd σ a = 10 + c) (ha : 100 ≤ a) : b_R C code hh (pc, L, .int x :: .ref a :: st, σ) = b_R C code hh (pc + len, L, st, a_setI σ a k x) := b_R_go (b_st h (by simp only [a_exec, a_put, hk, ha, a_go]; simp))
theorem e_putZ {i a c k : Nat} {x : Int32} (h : code.lookup pc = some (.putfield i, len, (c, k, 2), z, tgt)) (hk : a_kd σ a = 10 + c) (ha : 100 ≤ a) (hx : x = 0 ∨ x = 1) : b_R C code hh (pc, L, .int x :: .ref a :: st, σ) = b_R C code hh (pc + len, L, st, a_setI σ a k x) := b_R_go (b_st h (by simp only [a_exec, a_put, hk, ha, hx, a_go]; simp))
theorem e_putR {i a b c k : Nat} (h : code.lookup pc = some (.putfield i, len, (c, k, 1), z, tgt)) (hk : a_kd σ a = 10 + c) (ha : 100 ≤ a) : b_R C code hh (pc, L, .ref b :: .ref a :: st, σ) = b_R C code hh (pc + len, L, st, a_setR σ a k (some b)) := b_R_go (b_st h (by simp only [a_exec, a_put, hk, ha, a_go]; simp))
theorem e_alen {a n : Nat} (h : code.lookup pc = some (.arraylength, len, r, z, tgt)) (hk : Nat.ble 1 (a_kd σ a) = true ∧ Nat.ble (a_kd σ a) 5 = true) (hn : a_ln σ a = n) (h2 : n < 2147483648) : b_R C code hh (pc, L, .ref a :: st, σ) = b_R C code hh (pc + len, L, .int (Int32.ofNat n) :: st, σ) := b_R_go (b_st h (by
  have h1 : 1 ≤ a_kd σ a := Nat.le_of_ble_eq_true hk.1
  have h3 : a_kd σ a ≤ 5 := Nat.le_of_ble_eq_true hk.2
  simp only [a_exec, hn, h1, h2, h3, and_self, if_pos, a_go]))
theorem e_iaload {a n : Nat} {i : Int32} (h : code.lookup pc = some (.iaload, len, r, z, tgt)) (hk : a_kd σ a = 1 ∨ a_kd σ a = 5) (hn : a_ln σ a = n) : b_R C code hh (pc, L, .int i :: .ref a :: st, σ) = b_gd (a_in i n) (b_R C code hh (pc + len, L, .int (a_I σ a i.toNatClampNeg) :: st, σ)) := by
  subst hn
  by_cases hi : a_in i (a_ln σ a)
  · rw [b_gd_t hi]
    exact b_R_go (b_st h (if_pos ⟨hk, hi⟩))
  · refine Eq.trans (b := none) ?_ (if_neg hi).symm
    exact b_R_no (b_st h (if_neg (fun q => hi q.2)))
theorem e_laload {a n : Nat} {i : Int32} (h : code.lookup pc = some (.laload, len, r, z, tgt)) (hk : a_kd σ a = 2) (hn : a_ln σ a = n) : b_R C code hh (pc, L, .int i :: .ref a :: st, σ) = b_gd (a_in i n) (b_R C code hh (pc + len, L, .long (a_L σ a i.toNatClampNeg) :: st, σ)) := by
  subst hn
  by_cases hi : a_in i (a_ln σ a)
  · rw [b_gd_t hi]
    exact b_R_go (b_st h (if_pos ⟨hk, hi⟩))
  · refine Eq.trans (b := none) ?_ (if_neg hi).symm
    exact b_R_no (b_st h (if_neg (fun q => hi q.2)))
theorem e_aaload {a n b : Nat} {i : Int32} (h : code.lookup pc = some (.aaload, len, r, z, tgt)) (hk : a_kd σ a = 3 ∨ a_kd σ a = 4) (hn : a_ln σ a = n) (hr : a_R σ a i.toNatClampNeg = some b) : b_R C code hh (pc, L, .int i :: .ref a :: st, σ) = b_gd (a_in i n) (b_R C code hh (pc + len, L, .ref b :: st, σ)) := by
  subst hn
  by_cases hi : a_in i (a_ln σ a)
  · rw [b_gd_t hi]
    exact b_R_go (b_st h ((if_pos ⟨hk, hi⟩).trans (by rw [hr]; rfl)))
  · refine Eq.trans (b := none) ?_ (if_neg hi).symm
    exact b_R_no (b_st h (if_neg (fun q => hi q.2)))
theorem e_iastore {a n : Nat} {i x : Int32} (h : code.lookup pc = some (.iastore, len, r, z, tgt)) (hk : a_kd σ a = 1) (ha : 100 ≤ a) (hn : a_ln σ a = n) : b_R C code hh (pc, L, .int x :: .int i :: .ref a :: st, σ) = b_gd (a_in i n) (b_R C code hh (pc + len, L, st, a_setI σ a i.toNatClampNeg x)) := by
  subst hn
  by_cases hi : a_in i (a_ln σ a)
  · rw [b_gd_t hi]
    exact b_R_go (b_st h (if_pos ⟨hk, ha, hi⟩))
  · refine Eq.trans (b := none) ?_ (if_neg hi).symm
    exact b_R_no (b_st h (if_neg (fun q => hi q.2.2)))
theorem e_lastore {a n : Nat} {i : Int32} {x : Int64} (h : code.lookup pc = some (.lastore, len, r, z, tgt)) (hk : a_kd σ a = 2) (ha : 100 ≤ a) (hn : a_ln σ a = n) : b_R C code hh (pc, L, .long x :: .int i :: .ref a :: st, σ) = b_gd (a_in i n) (b_R C code hh (pc + len, L, st, a_setL σ a i.toNatClampNeg x)) := by
  subst hn
  by_cases hi : a_in i (a_ln σ a)
  · rw [b_gd_t hi]
    exact b_R_go (b_st h (if_pos ⟨hk, ha, hi⟩))
  · refine Eq.trans (b := none) ?_ (if_neg hi).symm
    exact b_R_no (b_st h (if_neg (fun q => hi q.2.2)))
theorem e_aastore {a n b : Nat} {i : Int32} (h : code.lookup pc = some (.aastore, len, r, z, tgt)) (hk : (a_kd σ a = 3 ∧ a_kd σ b = 6) ∨ (a_kd σ a = 4 ∧ a_kd σ b = 13)) (ha : 100 ≤ a) (hn : a_ln σ a = n) : b_R C code hh (pc, L, .ref b :: .int i :: .ref a :: st, σ) = b_gd (a_in i n) (b_R C code hh (pc + len, L, st, a_setR σ a i.toNatClampNeg (some b))) := by
  subst hn
  by_cases hi : a_in i (a_ln σ a)
  · rw [b_gd_t hi]
    exact b_R_go (b_st h (if_pos ⟨hk, ha, hi⟩))
  · refine Eq.trans (b := none) ?_ (if_neg hi).symm
    exact b_R_no (b_st h (if_neg (fun q => hi q.2.2)))
theorem e_new {i c n : Nat} (h : code.lookup pc = some (.new i, len, (c, n, 0), z, tgt)) : b_R C code hh (pc, L, st, σ) = b_R C code hh (pc + len, L, .ref (a_n σ) :: st, a_new σ (10 + c) n n) := b_R_go (b_st h rfl)
theorem e_throw {i x a : Nat} (h : code.lookup pc = some (.new i, len, (x, a, 1), z, tgt)) (hs : Nat.ble (st.map fun v => v.category).sum 8 = true) : b_R C code hh (pc, L, st, σ) = some (.inr x, a_made σ) := b_R_rt (b_st h (by
  have h1 := Nat.le_of_ble_eq_true hs
  simp only [a_exec]
  rw [if_neg (by decide), if_pos h1]
  rfl))
theorem e_newarray {k a b : Nat} {ty : _} {n : Int32} {m : Nat} (h : code.lookup pc = some (.newarray ty, len, (k, a, b), z, tgt)) (h1 : ¬ n < 0) (h2 : n.toNatClampNeg = m) (h3 : m ≤ 65536) : b_R C code hh (pc, L, .int n :: st, σ) = b_R C code hh (pc + len, L, .ref (a_n σ) :: st, a_new σ k m m) := b_R_go (b_st h (by
  subst h2
  simp only [a_exec, h1, h3, not_false_eq_true, and_self, if_pos, a_go]))
theorem e_anewarray {i k a b : Nat} {n : Int32} {m : Nat} (h : code.lookup pc = some (.anewarray i, len, (k, a, b), z, tgt)) (h1 : ¬ n < 0) (h2 : n.toNatClampNeg = m) (h3 : m ≤ 65536) : b_R C code hh (pc, L, .int n :: st, σ) = b_R C code hh (pc + len, L, .ref (a_n σ) :: st, a_new σ k m m) := b_R_go (b_st h (by
  subst h2
  simp only [a_exec, h1, h3, not_false_eq_true, and_self, if_pos, a_go]))
theorem b_take {n : Nat} {as st0 : List Value} (hn : as.length = n) : ((as.reverse ++ st0).take n).reverse = as := by
  subst hn
  rw [List.take_append_of_le_length (by simp), List.take_of_length_le (by simp), List.reverse_reverse]
theorem e_callV {i k n c b : Nat} {as st0 : List Value} (h : code.lookup pc = some (.invokevirtual i, len, (k, n, c), z, tgt)) (he : st = as.reverse ++ st0) (hn : as.length = n) (hb : as.head? = some (.ref b)) (hc : Nat.beq c 0 = false) (hk : a_kd σ b = c) (hs : Nat.ble (st0.map fun v => v.category).sum 8 = true) :
    b_R C code hh (pc, L, st, σ) = b_G C code hh pc (pc + len) L st0 (C k as σ) := by
  subst he
  have h1 := Nat.le_of_ble_eq_true hs
  have h2 : c ≠ 0 := fun q => by subst q; cases hc
  have h3 : (as.reverse ++ st0).drop n = st0 := by subst hn; rw [List.drop_append_of_le_length (by simp), List.drop_of_length_le (by simp)]; rfl
  have h4 : (as.reverse ++ st0)[n - 1]? = some (.ref b) := by
    subst hn
    cases as with
    | nil => cases hb
    | cons v as =>
      cases hb
      simp
  have h5 : n ≤ (as.reverse ++ st0).length := by subst hn; simp
  refine (b_R_cl (pc := pc + len) (L := L) (st := st0) (k := k) (as := as) (σ := σ) (b_st h ?_))
  simp only [a_exec]
  rw [if_neg h2, h4]
  simp only [hk, if_pos, a_inv, h3, b_take hn, h5, h1, and_self]
theorem e_callP {i k n : Nat} {as st0 : List Value} (h : code.lookup pc = some (.invokevirtual i, len, (k, n, 0), z, tgt)) (he : st = as.reverse ++ st0) (hn : as.length = n) (hs : Nat.ble (st0.map fun v => v.category).sum 8 = true) :
    b_R C code hh (pc, L, st, σ) = b_G C code hh pc (pc + len) L st0 (C k as σ) := by
  subst he
  have h1 := Nat.le_of_ble_eq_true hs
  have h3 : (as.reverse ++ st0).drop n = st0 := by subst hn; rw [List.drop_append_of_le_length (by simp), List.drop_of_length_le (by simp)]; rfl
  have h5 : n ≤ (as.reverse ++ st0).length := by subst hn; simp
  refine (b_R_cl (pc := pc + len) (L := L) (st := st0) (k := k) (as := as) (σ := σ) (b_st h ?_))
  simp only [a_exec, if_pos, a_inv, h3, b_take hn, h5, h1, and_self]
theorem e_callS {i k n c : Nat} {as st0 : List Value} (h : code.lookup pc = some (.invokestatic i, len, (k, n, c), z, tgt)) (he : st = as.reverse ++ st0) (hn : as.length = n) (hs : Nat.ble (st0.map fun v => v.category).sum 8 = true) :
    b_R C code hh (pc, L, st, σ) = b_G C code hh pc (pc + len) L st0 (C k as σ) := by
  subst he
  have h1 := Nat.le_of_ble_eq_true hs
  have h3 : (as.reverse ++ st0).drop n = st0 := by subst hn; rw [List.drop_append_of_le_length (by simp), List.drop_of_length_le (by simp)]; rfl
  have h5 : n ≤ (as.reverse ++ st0).length := by subst hn; simp
  refine (b_R_cl (pc := pc + len) (L := L) (st := st0) (k := k) (as := as) (σ := σ) (b_st h ?_))
  simp only [a_exec, a_inv, h3, b_take hn, h5, h1, and_self, if_pos]
theorem e_callI {i k n c b : Nat} {as st0 : List Value} (h : code.lookup pc = some (.invokespecial i, len, (k, n, c), z, tgt)) (he : st = as.reverse ++ st0) (hn : as.length = n) (hb : as.head? = some (.ref b)) (hc : (!(Nat.beq c 0) && Nat.blt c 10) = true) (hs : Nat.ble (st0.map fun v => v.category).sum 8 = true) :
    b_R C code hh (pc, L, st, σ) = b_G C code hh pc (pc + len) L st0 (C k as σ) := by
  subst he
  have h1 := Nat.le_of_ble_eq_true hs
  have h2 : c ≠ 0 := fun q => by subst q; cases hc
  have h8 : c < 10 := by
    rw [Bool.and_eq_true] at hc
    exact Nat.le_of_ble_eq_true hc.2
  have h3 : (as.reverse ++ st0).drop n = st0 := by subst hn; rw [List.drop_append_of_le_length (by simp), List.drop_of_length_le (by simp)]; rfl
  have h4 : (as.reverse ++ st0)[n - 1]? = some (.ref b) := by
    subst hn
    cases as with
    | nil => cases hb
    | cons v as =>
      cases hb
      simp
  have h5 : n ≤ (as.reverse ++ st0).length := by subst hn; simp
  refine (b_R_cl (pc := pc + len) (L := L) (st := st0) (k := k) (as := as) (σ := σ) (b_st h ?_))
  simp only [a_exec]
  rw [if_neg h2, h4]
  simp only [a_inv, h3, b_take hn, h5, h1, h8, true_or, and_self, if_pos]
theorem e_objInit {i k n a : Nat} (h : code.lookup pc = some (.invokespecial i, len, (k, n, 0), z, tgt)) (hs : Nat.ble (st.map fun v => v.category).sum 8 = true) : b_R C code hh (pc, L, .ref a :: st, σ) = b_R C code hh (pc + len, L, st, σ) := b_R_go (b_st h (by
  have h1 := Nat.le_of_ble_eq_true hs
  simp only [a_exec, if_pos, h1, a_go]))
theorem e_ireturn {x : Int32} {k b : Nat} (h : code.lookup pc = some (.ireturn, len, (0, k, b), z, tgt)) : b_R C code hh (pc, L, [.int x], σ) = some (.inl (some (.int x)), σ) := b_R_rt (b_st h rfl)
theorem e_zreturn {x : Int32} {k b : Nat} (h : code.lookup pc = some (.ireturn, len, (1, k, b), z, tgt)) : b_R C code hh (pc, L, [.int x], σ) = b_gd (x = 0 ∨ x = 1) (some (.inl (some (.int x)), σ)) := by
  by_cases hx : x = 0 ∨ x = 1
  · rw [b_gd_t hx]
    exact b_R_rt (b_st h (by simp only [a_exec, hx, and_self, or_true, true_or, if_pos, a_rt]))
  · rw [b_R_no (b_st h (by simp only [a_exec, hx, and_false, false_or, or_false]; rfl))]
    exact (if_neg hx).symm
theorem e_lreturn {x : Int64} (h : code.lookup pc = some (.lreturn, len, r, z, tgt)) : b_R C code hh (pc, L, [.long x], σ) = some (.inl (some (.long x)), σ) := b_R_rt (b_st h rfl)
theorem e_dreturn {x : UInt64} (h : code.lookup pc = some (.dreturn, len, r, z, tgt)) : b_R C code hh (pc, L, [.double x], σ) = some (.inl (some (.double x)), σ) := b_R_rt (b_st h rfl)
theorem e_freturn {x : UInt32} (h : code.lookup pc = some (.freturn, len, r, z, tgt)) : b_R C code hh (pc, L, [.float x], σ) = some (.inl (some (.float x)), σ) := b_R_rt (b_st h rfl)
theorem e_areturnR {a : Nat} (h : code.lookup pc = some (.areturn, len, r, z, tgt)) : b_R C code hh (pc, L, [.ref a], σ) = some (.inl (some (.ref a)), σ) := b_R_rt (b_st h rfl)
theorem e_areturnN (h : code.lookup pc = some (.areturn, len, r, z, tgt)) : b_R C code hh (pc, L, [.null], σ) = some (.inl (some .null), σ) := b_R_rt (b_st h rfl)
theorem e_return_ (h : code.lookup pc = some (.return_, len, r, z, tgt)) : b_R C code hh (pc, L, [], σ) = some (.inl none, σ) := b_R_rt (b_st h rfl)
theorem e_ddiv {x y : UInt64} (h : code.lookup pc = some (.ddiv, len, r, z, tgt)) : b_R C code hh (pc, L, .double y :: .double x :: st, σ) = b_gd (FP.ddiv x y &&& 0x7fffffffffffffff ≤ 0x7ff0000000000000) (b_R C code hh (pc + len, L, .double (FP.ddiv x y) :: st, σ)) := by
  by_cases hx : FP.ddiv x y &&& 0x7fffffffffffffff ≤ 0x7ff0000000000000
  · rw [b_gd_t hx]
    exact b_R_go (b_st h (by simp only [a_exec, hx, if_pos, a_go]))
  · rw [b_R_no (b_st h (by simp only [a_exec, hx, if_neg, not_false_eq_true]))]
    exact (if_neg hx).symm
theorem e_fdiv {x y : UInt32} (h : code.lookup pc = some (.fdiv, len, r, z, tgt)) : b_R C code hh (pc, L, .float y :: .float x :: st, σ) = b_gd (FP.fdiv x y &&& 0x7fffffff ≤ 0x7f800000) (b_R C code hh (pc + len, L, .float (FP.fdiv x y) :: st, σ)) := by
  by_cases hx : FP.fdiv x y &&& 0x7fffffff ≤ 0x7f800000
  · rw [b_gd_t hx]
    exact b_R_go (b_st h (by simp only [a_exec, hx, if_pos, a_go]))
  · rw [b_R_no (b_st h (by simp only [a_exec, hx, if_neg, not_false_eq_true]))]
    exact (if_neg hx).symm
theorem e_f2d {x : UInt32} (h : code.lookup pc = some (.f2d, len, r, z, tgt)) : b_R C code hh (pc, L, .float x :: st, σ) = b_gd (FP.f2d x &&& 0x7fffffffffffffff ≤ 0x7ff0000000000000) (b_R C code hh (pc + len, L, .double (FP.f2d x) :: st, σ)) := by
  by_cases hx : FP.f2d x &&& 0x7fffffffffffffff ≤ 0x7ff0000000000000
  · rw [b_gd_t hx]
    exact b_R_go (b_st h (by simp only [a_exec, hx, if_pos, a_go]))
  · rw [b_R_no (b_st h (by simp only [a_exec, hx, if_neg, not_false_eq_true]))]
    exact (if_neg hx).symm
end RUN
/-- a call of the table -/
theorem e_call {M : aTab} {P : aCall} {d k : Nat} {m : aMeth} {as : List Value} {σ : aSt} (hd : 1 ≤ d) (hM : M k = some m) (hl : Nat.ble (a_ent as).length m.2.2.1 = true) : a_call M P d k as σ = b_R (a_call M P (d - 1)) m.2.2.2.2.2.1 m.2.2.2.2.2.2 (0, a_pad m.2.2.1 (a_ent as), [], σ) := by
  obtain ⟨e, rfl⟩ : ∃ e, d = e + 1 := ⟨d - 1, by omega⟩
  conv => lhs; unfold a_call
  rw [hM]
  exact if_pos (Nat.le_of_ble_eq_true hl)
theorem e_callP0 {M : aTab} {P : aCall} {d k : Nat} {as : List Value} {σ : aSt} (hM : M k = none) : a_call M P d k as σ = P k as σ := by
  cases d with
  | zero => rfl
  | succ d =>
    conv => lhs; unfold a_call
    rw [hM]
