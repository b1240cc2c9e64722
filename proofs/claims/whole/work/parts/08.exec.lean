/-! THE STEP: what is asked of each instruction of a method's table, and that the machine follows the step. -/
def a_exn : Nat → String
  | 0 => "java/util/NoSuchElementException"
  | _ => "java/lang/IllegalArgumentException"
def m_y (m : aMeth) : MethodName := m.1
def m_cc (m : aMeth) : ByteArray := m.2.1
def m_L (m : aMeth) : Nat := m.2.2.1
def m_ret (m : aMeth) : Option FieldType := m.2.2.2.1
def m_own (m : aMeth) : String := m.2.2.2.2.1
def m_code (m : aMeth) : aCode := m.2.2.2.2.2.1
def m_hh (m : aMeth) : List (Nat × Nat × Nat × Nat × Nat) := m.2.2.2.2.2.2
def m_ini (m : aMeth) : Bool := decide ((m_y m).name = "<init>")
def a_hr (m : aMeth) : List (Nat × Nat × Nat × Nat) := (m_hh m).map fun q => (q.1, q.2.1, q.2.2.1, q.2.2.2.2)
def a_cword (m : aMeth) : Jvm.Cond := match m_hh m with
  | [] => .code (m_y m) (m_cc m) (m_L m) (m_ret m)
  | _ => .codeWith (m_y m) (m_cc m) (m_L m) (m_ret m) (a_hr m)
def a_mws (m : aMeth) : List Jvm.Cond := a_cword m :: am_ws
def a_notMH (y : MethodName) : Prop := y.cls ≠ "java/lang/invoke/MethodHandle" ∧ y.cls ≠ "java/lang/invoke/VarHandle"
def a_npar (y : MethodName) (n : Nat) : Prop := (parseMethodDescriptor y.desc).map (fun d => d.parameters.length) = some n
/-- a method of the table, as it is called -/
def a_mok (m : aMeth) : Prop := a_cword m ∈ am_ws ∧ plainName (m_y m).cls = true ∧ a_notMH (m_y m) ∧ Jvm.Cond.initialized (m_y m).cls ∈ am_ws ∧ m_own m = (m_y m).cls ∧ m_L m ≤ 40
/-- a call on an object of class C selects y: by a word of the tables, or since y is private -/
def a_selw (C : String) (y : MethodName) : Prop := Jvm.Cond.selects C y y ∈ am_ws ∨ (Jvm.Cond.superclass C y.cls ∈ am_ws ∧ Jvm.Cond.sameMethod y.cls y.cls y.name y.desc ∈ am_ws ∧ Jvm.Cond.privateMethod y ∈ am_ws)
theorem a_selw_snd {C : String} {y : MethodName} {args : Array Value} {s : State} (h : a_selw C y) (hi : Jvm.Cond.instanceMethod y ∈ am_ws) (hts : ∀ w ∈ am_ws, w.before args s = true) : (Jvm.Cond.selects C y y).before args s = true := by
  rcases h with h | ⟨h1, h2, h3⟩
  · exact hts _ h
  · have h1 := hts _ h1
    obtain ⟨c, k, r, hc, hk, hki, hf, hn⟩ := Cond.sameMethod_found (hts _ h2)
    obtain ⟨mk, methM, hnamed, hmethM, -, -⟩ := Cond.instanceMethod_spec (hts _ hi)
    have hn' : s.methodNamed? y = some r := hn
    cases hnamed.symm.trans hn'
    have hsel : ∀ d, selectMethod {} s.vm d r = .method r := fun d => selectMethod_private hmethM (Cond.privateMethod_at (hts _ h3) r methM hnamed hmethM)
    have hcls : r.cls = c := Option.some.inj ((findClass_of_methodNamed hnamed).symm.trans hc)
    cases hC : s.vm.findClass C with
    | none => simp [Cond.before, Cond.holds, Cond.value, hC] at h1
    | some d =>
      simp only [Cond.before, Cond.holds, Cond.value, hC, hf, hnamed, hsel, hcls, hk]
      simp [hki]
def a_wfV (own : String) (ix : Nat) (r : aRef) (m : aMeth) : Prop := a_mok m ∧ m_hh m = [] ∧ Jvm.Cond.methodLink own ix (m_y m) ∈ am_ws ∧ Jvm.Cond.instanceMethod (m_y m) ∈ am_ws ∧ 1 ≤ r.2.1 ∧ a_npar (m_y m) (r.2.1 - 1) ∧ ((∃ k q, vwCl[k]? = some q ∧ r.2.2 = 10 + k ∧ a_selw q.1 (m_y m)) ∨ (r.2.2 = 6 ∧ a_selw "java/lang/String" (m_y m)))
def a_wfU (own : String) (ix : Nat) (r : aRef) (m : aMeth) : Prop := a_mok m ∧ m_hh m = [] ∧ (m_y m).name ≠ "<init>" ∧ Jvm.Cond.methodLink own ix (m_y m) ∈ am_ws ∧ Jvm.Cond.instanceMethod (m_y m) ∈ am_ws ∧ Jvm.Cond.sameMethod (m_y m).cls (m_y m).cls (m_y m).name (m_y m).desc ∈ am_ws ∧ Jvm.Cond.superclass own (m_y m).cls ∈ am_ws ∧ 1 ≤ r.2.1 ∧ a_npar (m_y m) (r.2.1 - 1) ∧ ∃ k q, vwCl[k]? = some q ∧ r.2.2 = 10 + k
def a_wfS (F : aFix) (own : String) (ix : Nat) (r : aRef) (m : aMeth) : Prop := a_mok m ∧ Jvm.Cond.static (m_y m) ∈ am_ws ∧ a_npar (m_y m) r.2.1 ∧ (Jvm.Cond.methodLink own ix (m_y m) ∈ am_ws ∨ (m_hh m = [] ∧ ∃ host, Jvm.Cond.methodLinkNest own ix (m_y m) host ∈ f_N F))
def a_wfI (own : String) (ix : Nat) (r : aRef) (m : aMeth) : Prop := a_mok m ∧ m_hh m = [] ∧ m_ret m = none ∧ (m_y m).name = "<init>" ∧ Jvm.Cond.methodLink own ix (m_y m) ∈ am_ws ∧ Jvm.Cond.instanceMethod (m_y m) ∈ am_ws ∧ 1 ≤ r.2.1 ∧ a_npar (m_y m) (r.2.1 - 1)
/-- an instruction of a method's table that stays in the method -/
def a_wf (F : aFix) (own : String) (ini : Bool) (pc : Nat) (i : Instr) (len : Nat) (r : aRef) (z : Int32) (tgt : Nat) : Prop := match i with
  | .iconst n => len = 1 ∧ Int32.ofInt n = z
  | .bipush n => len = 2 ∧ (Int8.ofInt n).toInt32 = z
  | .sipush n => len = 3 ∧ (Int16.ofInt n).toInt32 = z
  | .ldc ix => len = 2 ∧ ((r.1 = 0 ∧ Jvm.Cond.constant own ix z ∈ am_ws) ∨ (r.1 = 1 ∧ ∃ tx, (own, ix, r.2.1, tx) ∈ f_T F))
  | .ldc_w ix => len = 3 ∧ ((r.1 = 0 ∧ Jvm.Cond.constant own ix z ∈ am_ws) ∨ (r.1 = 1 ∧ ∃ tx, (own, ix, r.2.1, tx) ∈ f_T F))
  | .ldc2_w ix => len = 3 ∧ Jvm.Cond.constantLong own ix z.toInt64 ∈ am_ws
  | .iload _ | .aload _ | .dload _ | .istore _ | .astore _ | .dstore _ => len = 2
  | .iinc _ n => len = 3 ∧ Int32.ofInt n = z
  | .ifCond _ off | .if_icmp _ off | .ifnull off | .ifnonnull off | .goto off => len = 3 ∧ (pc : Int) + off = (tgt : Int)
  | .tableswitch d _ _ offs => 0 ≤ (pc : Int) + d ∧ ∀ o ∈ offs.toList, 0 ≤ (pc : Int) + o
  | .getfield ix => len = 3 ∧ a_wfF own r ix
  | .putfield ix => len = 3 ∧ a_wfF own r ix ∧ a_wfP own ini r
  | .new ix => len = 3 ∧ (r.2.2 = 0 → ∃ q, a_cls r.1 q ∧ r.2.1 = q.2.2 ∧ Jvm.Cond.classLink own ix q.1 ∈ am_ws ∧ Jvm.Cond.instantiable q.1 q.2.2 ∈ am_ws ∧ Jvm.Cond.initialized q.1 ∈ am_ws ∧ ∀ j, j < q.2.2 → ∀ ty, parseFieldDescriptor (q.2.1 j).2.2.1 = some ty → defaultValue ty = if a_tag r.1 j = true then .null else .int 0)
  | .getstatic ix => len = 3 ∧ ∃ Cn n d, Jvm.Cond.fieldLink own ix Cn n d ∈ am_ws ∧ ∀ (U : State) (H : Heap), f_X F U H → va_Z Cn n d (if r.1 = 0 then .int z else if r.1 = 2 then .null else .ref (f_r F r.2.1)) (f_A F) U H
  | .newarray at9 => len = 2 ∧ ((at9 = .int ∧ r.1 = 1) ∨ (at9 = .long ∧ r.1 = 2) ∨ (at9 = .byte ∧ r.1 = 7)) ∧ Jvm.Cond.arrayClass (newarray.typeOf at9) ∈ am_ws
  | .anewarray ix => len = 3 ∧ ∃ C0, ((C0 = "java/lang/String" ∧ r.1 = 3) ∨ (C0 = "PaletteTubes$Palette" ∧ r.1 = 4)) ∧ Jvm.Cond.classLink own ix C0 ∈ am_ws
  | .invokespecial ix => len = 3 ∧ (r.2.2 = 0 → Jvm.Cond.methodLink own ix Lib.objectInit ∈ am_ws ∧ Jvm.Cond.instanceMethod Lib.objectInit ∈ am_ws ∧ Jvm.Cond.code Lib.objectInit ⟨#[0xb1]⟩ 1 none ∈ am_ws)
  | .invokevirtual _ | .invokestatic _ => len = 3
  | _ => len = 1
section AEXEC
variable {p : Program} {l : Launch} {e : Env} {R : Room} {s : State} {m : MethodId} {args : Array Value} {below : List Frame} {meth : Method} {c : Code} {Q : State → Prop} {cc : ByteArray} {nL n0 u0 v0 : Nat} {own : String} {ini : Bool} {F : aFix} {ρ1 : Nat → Nat}
variable {pc : Nat} {L : List (Option Value)} {st : List Value} {σ : aSt}
theorem a_ldcwS {T : State} {locs : List Loc} {cells slots : Nat} (X : Stand p l e R s m args below meth c T locs cells slots) (hexec : p.tables.exec = Jvm.exec) {text : String} {index : Nat} {a : Addr} (hown : s.vm.findClass own = some m.cls)
    (hconst : (Jvm.Cond.stringRef own index text).before args s = true) (hev : (Term.string own index).eval args s none [] s = some (.ref a)) {g : JFrame} (hg : g.method = m) (hdg : decode c.code g.pc = .ok (.ldc_w index, 3)) :
    ∀ target, Steps p.tables e below (T.setTop { g with pc := g.pc + 3, stack := .ref a :: g.stack }) target → Steps p.tables e below (T.setTop g) target := by
  obtain ⟨k, cf, i, a', hk, hcf, hcp, -, hr, hev'⟩ := Cond.stringRef_spec hown hconst
  cases hev.symm.trans hev'
  obtain ⟨k', hk', he⟩ := X.warmed.alike.2.2 _ _ hk
  have hr' : k'.resolved[index]? = some (some (.string a)) := by
    rcases X.warmed.entry hk hk' index with h | ⟨h, -⟩
    · rw [h]; exact hr
    · rw [hr] at h; cases h
  intro target hrest
  subst hg
  jvm_step X.here [hexec, hdg, ldc_w.wp_string (e := e) (s := T) (f := g) X.here.top hk' (by rw [he]; exact hcf) hcp hr']
  exact hrest
theorem as_ldcS {ix id : Nat} {tx : String} (C : a_ctx p l R s m args meth c cc nL own ini F) {len : Nat} (hlen : (decode cc pc = .ok (.ldc ix, 2) ∧ len = 2) ∨ (decode cc pc = .ok (.ldc_w ix, 3) ∧ len = 3)) (hw : (own, ix, id, tx) ∈ f_T F) (hg : a_bdc (pc + len, L, .ref id :: st, σ)) (K : a_W p l e R s m args below meth c Q nL n0 u0 v0 F ρ1 (pc + len, L, .ref id :: st, σ)) : a_W p l e R s m args below meth c Q nL n0 u0 v0 F ρ1 (pc, L, st, σ) := by
  intro ρ H locs cells slots ls h
  have hh : a_hp F ρ σ H := h.1
  obtain ⟨hx, hb, hml, hown, hts, hE, -⟩ := C
  obtain ⟨h1, -, h3⟩ := hE.2.2.2.2.1 _ hw
  have e1 : ρ id = f_r F id := hh.1 id h3
  have K' := K ρ H locs cells slots ls (a_at_go h hg)
  have e2 : ((pc + len, L, Value.ref id :: st, σ) : aCfg).2.2.1.map (a_vm ρ) = .ref (f_r F id) :: st.map (a_vm ρ) := by rw [← e1]; rfl
  rw [e2] at K'
  rcases hlen with ⟨hd, rfl⟩ | ⟨hd, rfl⟩
  · exact va_ldcS hx hb hown h1 hd K'
  · intro T hT X
    obtain ⟨t, a1, b1⟩ := K' T hT X
    exact ⟨t, a_ldcwS X hx hown (text := tx) (a := f_r F id) h1.1 h1.2 (g := F0 m pc ls (st.map (a_vm ρ))) rfl (by rw [hb]; exact hd) t a1, b1⟩
set_option maxHeartbeats 2000000 in
theorem a_exec_snd {i : Instr} {len tgt : Nat} {r : aRef} {z : Int32} {c' : aCfg} (C : a_ctx p l R s m args meth c cc nL own ini F) (hd : decode cc pc = .ok (i, len)) (hw : a_wf F own ini pc i len r z tgt) (hst : a_exec i len r z tgt pc L st σ = some (.inl c')) (hg : a_bdc c') (hB : a_uc c'.2.2.2 ≤ u0 + R.cells ∧ a_us c'.2.2.2 ≤ v0 + R.slots) (K : a_W p l e R s m args below meth c Q nL n0 u0 v0 F ρ1 c') : a_W p l e R s m args below meth c Q nL n0 u0 v0 F ρ1 (pc, L, st, σ) := by
  cases i
  case iconst n =>
    obtain ⟨rfl, hz⟩ := hw
    simp only [a_exec] at hst
    simp only [a_go] at hst; cases hst
    exact as_iconst C hd hz hg K
  case bipush n =>
    obtain ⟨rfl, hz⟩ := hw
    simp only [a_exec] at hst
    simp only [a_go] at hst; cases hst
    exact as_bipush C hd hz hg K
  case sipush n =>
    obtain ⟨rfl, hz⟩ := hw
    simp only [a_exec] at hst
    simp only [a_go] at hst; cases hst
    exact as_sipush C hd hz hg K
  case lconst n =>
    obtain rfl : len = 1 := hw
    simp only [a_exec] at hst
    simp only [a_go] at hst; cases hst
    exact as_lconst C hd  hg K
  case aconst_null =>
    obtain rfl : len = 1 := hw
    simp only [a_exec] at hst
    simp only [a_go] at hst; cases hst
    exact as_null C hd  hg K
  case fconst n =>
    obtain rfl : len = 1 := hw
    simp only [a_exec] at hst
    split at hst
    · rename_i h0; subst h0; simp only [a_go] at hst; cases hst; exact as_fconst C hd hg K
    · cases hst
  case dconst n =>
    obtain rfl : len = 1 := hw
    simp only [a_exec] at hst
    split at hst
    · rename_i h0; subst h0; simp only [a_go] at hst; cases hst; exact as_dconst C hd hg K
    · cases hst
  case ldc ix =>
    obtain ⟨rfl, hw⟩ := hw
    simp only [a_exec] at hst
    rcases hw with ⟨h0, hw⟩ | ⟨h1, tx, hw⟩
    · rw [if_pos h0] at hst; simp only [a_go] at hst; cases hst; exact as_ldc C hd hw hg K
    · rw [if_neg (by omega)] at hst; simp only [a_go] at hst; cases hst; exact as_ldcS C (Or.inl ⟨hd, rfl⟩) hw hg K
  case ldc_w ix =>
    obtain ⟨rfl, hw⟩ := hw
    simp only [a_exec] at hst
    rcases hw with ⟨h0, hw⟩ | ⟨h1, tx, hw⟩
    · rw [if_pos h0] at hst; simp only [a_go] at hst; cases hst; exact as_ldcw C hd hw hg K
    · rw [if_neg (by omega)] at hst; simp only [a_go] at hst; cases hst; exact as_ldcS C (Or.inr ⟨hd, rfl⟩) hw hg K
  case ldc2_w ix =>
    obtain ⟨rfl, hw⟩ := hw
    simp only [a_exec] at hst
    simp only [a_go] at hst; cases hst
    exact as_ldc2 C hd hw hg K
  case iload n =>
    obtain rfl : len = 2 := hw
    simp only [a_exec, a_ldI] at hst
    split at hst
    · rename_i hv; simp only [a_go] at hst; cases hst; exact as_iload C hd hv hg K
    · cases hst
  case iload_n n =>
    obtain rfl : len = 1 := hw
    simp only [a_exec, a_ldI] at hst
    split at hst
    · rename_i hv; simp only [a_go] at hst; cases hst; exact as_iload_n C hd hv hg K
    · cases hst
  case aload n =>
    obtain rfl : len = 2 := hw
    simp only [a_exec, a_ldA] at hst
    split at hst
    · rename_i hv; simp only [a_go] at hst; cases hst; exact as_aload C hd hv hg K
    · rename_i hv; simp only [a_go] at hst; cases hst; exact as_aloadN C hd hv hg K
    · cases hst
  case aload_n n =>
    obtain rfl : len = 1 := hw
    simp only [a_exec, a_ldA] at hst
    split at hst
    · rename_i hv; simp only [a_go] at hst; cases hst; exact as_aload_n C hd hv hg K
    · rename_i hv; simp only [a_go] at hst; cases hst; exact as_aload_nN C hd hv hg K
    · cases hst
  case lload_n n =>
    obtain rfl : len = 1 := hw
    simp only [a_exec, a_ldL] at hst
    split at hst
    · rename_i hv; simp only [a_go] at hst; cases hst; exact as_lload_n C hd hv hg K
    · cases hst
  case dload n =>
    obtain rfl : len = 2 := hw
    simp only [a_exec, a_ldD] at hst
    split at hst
    · rename_i hv; simp only [a_go] at hst; cases hst; exact as_dload C hd hv hg K
    · cases hst
  case istore n =>
    obtain rfl : len = 2 := hw
    simp only [a_exec, a_stI] at hst
    split at hst
    · generalize hs : a_st1 _ _ _ = o at hst
      cases o with
      | none => cases hst
      | some L' => simp only [a_sto, a_go] at hst; cases hst; exact as_istore C hd hs hg K
    · cases hst
  case istore_n n =>
    obtain rfl : len = 1 := hw
    simp only [a_exec, a_stI] at hst
    split at hst
    · generalize hs : a_st1 _ _ _ = o at hst
      cases o with
      | none => cases hst
      | some L' => simp only [a_sto, a_go] at hst; cases hst; exact as_istore_n C hd hs hg K
    · cases hst
  case astore n =>
    obtain rfl : len = 2 := hw
    simp only [a_exec, a_stA] at hst
    split at hst
    · generalize hs : a_st1 _ _ _ = o at hst
      cases o with
      | none => cases hst
      | some L' => simp only [a_sto, a_go] at hst; cases hst; exact as_astore C hd hs hg K
    · generalize hs : a_st1 _ _ _ = o at hst
      cases o with
      | none => cases hst
      | some L' => simp only [a_sto, a_go] at hst; cases hst; exact as_astoreN C hd hs hg K
    · cases hst
  case astore_n n =>
    obtain rfl : len = 1 := hw
    simp only [a_exec, a_stA] at hst
    split at hst
    · generalize hs : a_st1 _ _ _ = o at hst
      cases o with
      | none => cases hst
      | some L' => simp only [a_sto, a_go] at hst; cases hst; exact as_astore_n C hd hs hg K
    · generalize hs : a_st1 _ _ _ = o at hst
      cases o with
      | none => cases hst
      | some L' => simp only [a_sto, a_go] at hst; cases hst; exact as_astore_nN C hd hs hg K
    · cases hst
  case dstore n =>
    obtain rfl : len = 2 := hw
    simp only [a_exec, a_stD] at hst
    split at hst
    · generalize hs : a_st2 _ _ _ = o at hst
      cases o with
      | none => cases hst
      | some L' => simp only [a_sto, a_go] at hst; cases hst; exact as_dstore C hd hs hg K
    · cases hst
  case iinc n k =>
    obtain ⟨rfl, hz⟩ := hw
    simp only [a_exec] at hst
    split at hst
    · rename_i hv
      generalize hs : a_st1 _ _ _ = o at hst
      cases o with
      | none => cases hst
      | some L' => simp only [a_sto, a_go] at hst; cases hst; exact as_iinc C hd hz hv hs hg K
    · cases hst
  case iadd =>
    obtain rfl : len = 1 := hw
    simp only [a_exec, a_binI] at hst
    split at hst
    · simp only [a_go] at hst; cases hst; exact as_iadd C hd hg K
    · cases hst
  case isub =>
    obtain rfl : len = 1 := hw
    simp only [a_exec, a_binI] at hst
    split at hst
    · simp only [a_go] at hst; cases hst; exact as_isub C hd hg K
    · cases hst
  case imul =>
    obtain rfl : len = 1 := hw
    simp only [a_exec, a_binI] at hst
    split at hst
    · simp only [a_go] at hst; cases hst; exact as_imul C hd hg K
    · cases hst
  case iand =>
    obtain rfl : len = 1 := hw
    simp only [a_exec, a_binI] at hst
    split at hst
    · simp only [a_go] at hst; cases hst; exact as_iand C hd hg K
    · cases hst
  case ior =>
    obtain rfl : len = 1 := hw
    simp only [a_exec, a_binI] at hst
    split at hst
    · simp only [a_go] at hst; cases hst; exact as_ior C hd hg K
    · cases hst
  case ixor =>
    obtain rfl : len = 1 := hw
    simp only [a_exec, a_binI] at hst
    split at hst
    · simp only [a_go] at hst; cases hst; exact as_ixor C hd hg K
    · cases hst
  case ishl =>
    obtain rfl : len = 1 := hw
    simp only [a_exec, a_binI] at hst
    split at hst
    · simp only [a_go] at hst; cases hst; exact as_ishl C hd hg K
    · cases hst
  case ishr =>
    obtain rfl : len = 1 := hw
    simp only [a_exec, a_binI] at hst
    split at hst
    · simp only [a_go] at hst; cases hst; exact as_ishr C hd hg K
    · cases hst
  case iushr =>
    obtain rfl : len = 1 := hw
    simp only [a_exec, a_binI] at hst
    split at hst
    · simp only [a_go] at hst; cases hst; exact as_iushr C hd hg K
    · cases hst
  case i2b =>
    obtain rfl : len = 1 := hw
    simp only [a_exec] at hst
    split at hst
    · simp only [a_go] at hst; cases hst; exact as_i2b C hd hg K
    · cases hst
  case getstatic ix =>
    obtain ⟨rfl, Cn, n, d, h1, h2⟩ := hw
    simp only [a_exec, a_go] at hst
    split at hst
    · rename_i hr
      rw [if_pos hr] at h2
      cases hst
      exact as_gets C hd h1 h2 hg K
    · rename_i hr
      rw [if_neg hr] at h2
      split at hst
      · rename_i hr2
        rw [if_pos hr2] at h2
        cases hst
        exact as_getsN C hd h1 h2 hg K
      · rename_i hr2
        rw [if_neg hr2] at h2
        split at hst
        · rename_i hk
          cases hst
          exact as_getsR C hd h1 hk h2 hg K
        · cases hst
  case ineg =>
    obtain rfl : len = 1 := hw
    simp only [a_exec] at hst
    split at hst
    · simp only [a_go] at hst; cases hst; exact as_ineg C hd hg K
    · cases hst
  case baload =>
    obtain rfl : len = 1 := hw
    simp only [a_exec] at hst
    split at hst
    · split at hst
      · rename_i hk; simp only [a_go] at hst; cases hst; exact as_baldT C hd ⟨hk.1, hk.2.1⟩ hk.2.2 hg K
      · split at hst
        · rename_i hk; simp only [a_go] at hst; cases hst; exact as_bald C hd hk.1 hk.2 hg K
        · cases hst
    · cases hst
  case bastore =>
    obtain rfl : len = 1 := hw
    simp only [a_exec] at hst
    split at hst
    · split at hst
      · rename_i hk; simp only [a_go] at hst; cases hst; exact as_bast C hd hk.1 hk.2.2 hg K
      · cases hst
    · cases hst
  case ladd =>
    obtain rfl : len = 1 := hw
    simp only [a_exec, a_binL] at hst
    split at hst
    · simp only [a_go] at hst; cases hst; exact as_ladd C hd hg K
    · cases hst
  case lsub =>
    obtain rfl : len = 1 := hw
    simp only [a_exec, a_binL] at hst
    split at hst
    · simp only [a_go] at hst; cases hst; exact as_lsub C hd hg K
    · cases hst
  case lmul =>
    obtain rfl : len = 1 := hw
    simp only [a_exec, a_binL] at hst
    split at hst
    · simp only [a_go] at hst; cases hst; exact as_lmul C hd hg K
    · cases hst
  case land =>
    obtain rfl : len = 1 := hw
    simp only [a_exec, a_binL] at hst
    split at hst
    · simp only [a_go] at hst; cases hst; exact as_land C hd hg K
    · cases hst
  case lor =>
    obtain rfl : len = 1 := hw
    simp only [a_exec, a_binL] at hst
    split at hst
    · simp only [a_go] at hst; cases hst; exact as_lor C hd hg K
    · cases hst
  case idiv =>
    obtain rfl : len = 1 := hw
    simp only [a_exec, a_div] at hst
    split at hst
    · split at hst
      · cases hst
      · rename_i hne; simp only [a_go] at hst; cases hst; exact as_idiv C hd hne hg K
    · cases hst
  case irem =>
    obtain rfl : len = 1 := hw
    simp only [a_exec, a_div] at hst
    split at hst
    · split at hst
      · cases hst
      · rename_i hne; simp only [a_go] at hst; cases hst; exact as_irem C hd hne hg K
    · cases hst
  case i2l =>
    obtain rfl : len = 1 := hw
    simp only [a_exec] at hst
    split at hst
    · simp only [a_go] at hst; cases hst; exact as_i2l C hd hg K
    · cases hst
  case l2i =>
    obtain rfl : len = 1 := hw
    simp only [a_exec] at hst
    split at hst
    · simp only [a_go] at hst; cases hst; exact as_l2i C hd hg K
    · cases hst
  case i2c =>
    obtain rfl : len = 1 := hw
    simp only [a_exec] at hst
    split at hst
    · simp only [a_go] at hst; cases hst; exact as_i2c C hd hg K
    · cases hst
  case i2d =>
    obtain rfl : len = 1 := hw
    simp only [a_exec] at hst
    split at hst
    · simp only [a_go] at hst; cases hst; exact as_i2d C hd hg K
    · cases hst
  case i2f =>
    obtain rfl : len = 1 := hw
    simp only [a_exec] at hst
    split at hst
    · simp only [a_go] at hst; cases hst; exact as_i2f C hd hg K
    · cases hst
  case lcmp =>
    obtain rfl : len = 1 := hw
    simp only [a_exec] at hst
    split at hst
    · simp only [a_go] at hst; cases hst; exact as_lcmp C hd hg K
    · cases hst
  case dcmp op =>
    obtain rfl : len = 1 := hw
    simp only [a_exec] at hst
    split at hst
    · simp only [a_go] at hst; cases hst; exact as_dcmp C hd hg K
    · cases hst
  case ddiv =>
    obtain rfl : len = 1 := hw
    simp only [a_exec] at hst
    split at hst
    · split at hst
      · rename_i hn; simp only [a_go] at hst; cases hst; exact as_ddiv C hd hn hg K
      · cases hst
    · cases hst
  case fdiv =>
    obtain rfl : len = 1 := hw
    simp only [a_exec] at hst
    split at hst
    · split at hst
      · rename_i hn; simp only [a_go] at hst; cases hst; exact as_fdiv C hd hn hg K
      · cases hst
    · cases hst
  case f2d =>
    obtain rfl : len = 1 := hw
    simp only [a_exec] at hst
    split at hst
    · split at hst
      · rename_i hn; simp only [a_go] at hst; cases hst; exact as_f2d C hd hn hg K
      · cases hst
    · cases hst
  case ifCond cd off =>
    obtain ⟨rfl, ht⟩ := hw
    simp only [a_exec] at hst
    split at hst
    · simp only [a_br, a_go] at hst
      cases hst
      cases cd
      · exact as_if_eq C hd ht hg K
      · exact as_if_ne C hd ht hg K
      · exact as_if_lt C hd ht hg K
      · exact as_if_ge C hd ht hg K
      · exact as_if_gt C hd ht hg K
      · exact as_if_le C hd ht hg K
    · cases hst
  case if_icmp cd off =>
    obtain ⟨rfl, ht⟩ := hw
    simp only [a_exec] at hst
    split at hst
    · simp only [a_br, a_go] at hst
      cases hst
      cases cd
      · exact as_icmp_eq C hd ht hg K
      · exact as_icmp_ne C hd ht hg K
      · exact as_icmp_lt C hd ht hg K
      · exact as_icmp_ge C hd ht hg K
      · exact as_icmp_gt C hd ht hg K
      · exact as_icmp_le C hd ht hg K
    · cases hst
  case ifnonnull off =>
    obtain ⟨rfl, ht⟩ := hw
    simp only [a_exec] at hst
    split at hst
    · simp only [a_go] at hst; cases hst; exact as_ifnonnull C hd ht hg K
    · simp only [a_go] at hst; cases hst; exact as_ifnonnullN C hd hg K
    · cases hst
  case ifnull off =>
    obtain ⟨rfl, ht⟩ := hw
    simp only [a_exec] at hst
    split at hst
    · simp only [a_go] at hst; cases hst; exact as_ifnull C hd hg K
    · simp only [a_go] at hst; cases hst; exact as_ifnullN C hd ht hg K
    · cases hst
  case goto off =>
    obtain ⟨rfl, ht⟩ := hw
    simp only [a_exec] at hst
    simp only [a_go] at hst; cases hst
    exact as_goto C hd ht hg K
  case tableswitch d lo hi offs =>
    obtain ⟨h0, h1⟩ := hw
    simp only [a_exec] at hst
    cases st with
    | nil => simp only [a_tsw] at hst; cases hst
    | cons v st =>
      cases v with
      | int x => exact as_tsw C hd h0 h1 hst hg K
      | _ => simp only [a_tsw] at hst; cases hst
  case dup =>
    obtain rfl : len = 1 := hw
    simp only [a_exec] at hst
    split at hst
    · split at hst
      · rename_i hv; simp only [a_go] at hst; cases hst; exact as_dup C hd hv hg K
      · cases hst
    · cases hst
  case pop =>
    obtain rfl : len = 1 := hw
    simp only [a_exec] at hst
    split at hst
    · split at hst
      · rename_i hv; simp only [a_go] at hst; cases hst; exact as_pop C hd hv hg K
      · cases hst
    · cases hst
  case dup_x1 =>
    obtain rfl : len = 1 := hw
    simp only [a_exec] at hst
    split at hst
    · split at hst
      · rename_i hv; simp only [a_go] at hst; cases hst; exact as_dup_x1 C hd hv.1 hv.2 hg K
      · cases hst
    · cases hst
  case dup2 =>
    obtain rfl : len = 1 := hw
    simp only [a_exec] at hst
    split at hst
    · split at hst
      · rename_i hv; simp only [a_go] at hst; cases hst; exact as_dup2 C hd hv.1 hv.2 hg K
      · cases hst
    · cases hst
  case getfield ix =>
    obtain ⟨rfl, hw⟩ := hw
    simp only [a_exec, a_get] at hst
    split at hst
    · split at hst
      · rename_i hk
        split at hst
        · rename_i ht; simp only [a_go] at hst; cases hst; exact as_getfield C hd hw hk (by rw [if_pos ht]) hg K
        · rename_i ht; simp only [a_go] at hst; cases hst; exact as_getfield C hd hw hk (by rw [if_neg ht]) hg K
      · split at hst
        · rename_i hk
          split at hst
          · rename_i ht; simp only [a_go] at hst; cases hst; exact as_getS C hd hw hk (by rw [if_pos ht]) hg K
          · rename_i ht; simp only [a_go] at hst; cases hst; exact as_getS C hd hw hk (by rw [if_neg ht]) hg K
        · cases hst
    · cases hst
  case putfield ix =>
    obtain ⟨rfl, hw, hp⟩ := hw
    simp only [a_exec, a_put] at hst
    split at hst
    · split at hst
      · rename_i hk; simp only [a_go] at hst; cases hst; exact as_putI C hd hw hp hk.1 hk.2.2 hg K
      · cases hst
    · split at hst
      · rename_i hk; simp only [a_go] at hst; cases hst; exact as_putR C hd hw hp hk.1 hk.2.2 hg K
      · cases hst
    · cases hst
  case arraylength =>
    obtain rfl : len = 1 := hw
    simp only [a_exec] at hst
    split at hst
    · split at hst
      · rename_i hk; simp only [a_go] at hst; cases hst; exact as_alen C hd hk hg K
      · split at hst
        · rename_i hk; simp only [a_go] at hst; cases hst; exact as_alen7 C hd hk hg K
        · split at hst
          · rename_i hk; simp only [a_go] at hst; cases hst; exact as_alenT C hd hk hg K
          · cases hst
    · cases hst
  case iaload =>
    obtain rfl : len = 1 := hw
    simp only [a_exec] at hst
    split at hst
    · split at hst
      · rename_i hk; simp only [a_go] at hst; cases hst; exact as_iald C hd hk.1 hk.2 hg K
      · cases hst
    · cases hst
  case laload =>
    obtain rfl : len = 1 := hw
    simp only [a_exec] at hst
    split at hst
    · split at hst
      · rename_i hk; simp only [a_go] at hst; cases hst; exact as_lald C hd hk.1 hk.2 hg K
      · cases hst
    · cases hst
  case aaload =>
    obtain rfl : len = 1 := hw
    simp only [a_exec] at hst
    split at hst
    · split at hst
      · rename_i hk; simp only [a_go] at hst; cases hst; exact as_aald C hd hk.1 hk.2 hg K
      · cases hst
    · cases hst
  case iastore =>
    obtain rfl : len = 1 := hw
    simp only [a_exec] at hst
    split at hst
    · split at hst
      · rename_i hk; simp only [a_go] at hst; cases hst; exact as_iast C hd hk.1 hk.2.2 hg K
      · cases hst
    · cases hst
  case lastore =>
    obtain rfl : len = 1 := hw
    simp only [a_exec] at hst
    split at hst
    · split at hst
      · rename_i hk; simp only [a_go] at hst; cases hst; exact as_last C hd hk.1 hk.2.2 hg K
      · cases hst
    · cases hst
  case aastore =>
    obtain rfl : len = 1 := hw
    simp only [a_exec] at hst
    split at hst
    · split at hst
      · rename_i hk; simp only [a_go] at hst; cases hst; exact as_aast C hd hk.1 hk.2.2 hg K
      · cases hst
    · cases hst
  case new ix =>
    obtain ⟨rfl, hw⟩ := hw
    simp only [a_exec] at hst
    split at hst
    · rename_i h0
      obtain ⟨q, h1, h2, h3, h4, h5, h6⟩ := hw h0
      rw [h2] at hst
      simp only [a_go] at hst; cases hst
      exact as_new C hd h1 h3 h4 h5 h6 hB hg K
    · split at hst
      · cases hst
      · cases hst
  case newarray at9 =>
    obtain ⟨rfl, h1, h2⟩ := hw
    simp only [a_exec] at hst
    split at hst
    · split at hst
      · rename_i hn; simp only [a_go] at hst; cases hst
        rcases h1 with h1 | h1 | ⟨h1, h3⟩
        · exact as_newarray C hd (Or.inl h1) h2 hn hB hg K
        · exact as_newarray C hd (Or.inr h1) h2 hn hB hg K
        · subst h1
          rw [h3] at hB hg K
          exact as_newb C hd h2 hn hB hg K
      · cases hst
    · cases hst
  case anewarray ix =>
    obtain ⟨rfl, C0, h1, h2⟩ := hw
    simp only [a_exec] at hst
    split at hst
    · split at hst
      · rename_i hn; simp only [a_go] at hst; cases hst; exact as_anewarray C hd h1 h2 hn hB hg K
      · cases hst
    · cases hst
  case invokespecial ix =>
    obtain ⟨rfl, hw⟩ := hw
    simp only [a_exec] at hst
    split at hst
    · rename_i h0
      obtain ⟨h1, h2, h3⟩ := hw h0
      split at hst
      · split at hst
        · rename_i hs; simp only [a_go] at hst; cases hst; exact as_objInit C hd h1 h2 h3 hs hg K
        · cases hst
      · cases hst
    · simp only [a_inv] at hst
      repeat' split at hst
      all_goals cases hst
  all_goals (first | (simp only [a_exec] at hst; cases hst; done) | skip)
  all_goals (simp only [a_exec, a_inv, a_rt] at hst)
  all_goals (repeat' split at hst)
  all_goals (cases hst)
end AEXEC
