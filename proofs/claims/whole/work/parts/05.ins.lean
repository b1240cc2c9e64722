/-! EACH INSTRUCTION of the abstract machine is the real one's. -/
def a_ctx (p : Program) (l : Launch) (R : Room) (s : State) (m : MethodId) (args : Array Value) (meth : Method) (c : Code) (cc : ByteArray) (nL : Nat) (own : String) (ini : Bool) (F : aFix) : Prop :=
  p.tables.exec = Jvm.exec ∧ c.code = cc ∧ c.maxLocals = nL ∧ s.vm.findClass own = some m.cls ∧ (∀ w ∈ am_ws, w.before args s = true) ∧ a_env F s s.heap ∧ (∀ q, s.heap.size ≤ q → f_A F q) ∧ meth.locks = false ∧ l.stackTraces = false ∧ (ini = true → meth.name = "<init>") ∧ 16 ≤ R.frames ∧ 300 ≤ R.locals ∧ a_fix F
/-- a class of vwCl, with what its fields' rows need -/
def a_cls (c : Nat) (q : vw_C) : Prop := vwCl[c]? = some q ∧ (∀ w ∈ u_ws q.1 q.2.1 q.2.2, w ∈ am_ws) ∧ (∃ ty : Nat → FieldType, ∀ k, k < q.2.2 → parseFieldDescriptor (q.2.1 k).2.2.1 = some (ty k)) ∧ ∀ a, a < q.2.2 → ∀ b, b < q.2.2 → a ≠ b → (q.2.1 a).2.1 ≠ (q.2.1 b).2.1
def a_isref (ty : FieldType) : Prop := (∃ n, ty = .object n) ∨ ∃ t, ty = .array t
def a_wfF (own : String) (r : aRef) (ix : Nat) : Prop := ∃ q : vw_C, a_cls r.1 q ∧ r.2.1 < q.2.2 ∧ Jvm.Cond.fieldLink own ix (q.2.1 r.2.1).1 (q.2.1 r.2.1).2.1 (q.2.1 r.2.1).2.2.1 ∈ am_ws ∧
  ((r.2.2 = 1 ∧ a_tag r.1 r.2.1 = true ∧ ∃ ty, parseFieldDescriptor (q.2.1 r.2.1).2.2.1 = some ty ∧ a_isref ty) ∨ (r.2.2 = 0 ∧ a_tag r.1 r.2.1 = false ∧ parseFieldDescriptor (q.2.1 r.2.1).2.2.1 = some .int) ∨ (r.2.2 = 2 ∧ a_tag r.1 r.2.1 = false ∧ (parseFieldDescriptor (q.2.1 r.2.1).2.2.1 = some .boolean ∨ parseFieldDescriptor (q.2.1 r.2.1).2.2.1 = some .byte)))
def a_wfP (own : String) (ini : Bool) (r : aRef) : Prop := ∃ q : vw_C, vwCl[r.1]? = some q ∧ ((q.2.1 r.2.1).2.2.2 = false ∨ ((q.2.1 r.2.1).2.2.2 = true ∧ ini = true ∧ (q.2.1 r.2.1).1 = own))
def a_at (F : aFix) (s : State) (nL n0 : Nat) (ρ1 : Nat → Nat) (u0 v0 : Nat) (cf : aCfg) (ρ : Nat → Nat) (H : Heap) (locs : List Loc) (cells slots : Nat) (ls : Array Slot) : Prop :=
  a_hp F ρ cf.2.2.2 H ∧ a_bdc cf ∧ a_lo ρ cf.2.1 nL ls ∧ va_S (f_A F) s.heap H locs ∧ (∀ i, i < n0 → ρ i = ρ1 i) ∧ n0 ≤ a_n cf.2.2.2 ∧ a_uc cf.2.2.2 = u0 + cells ∧ a_us cf.2.2.2 = v0 + slots
theorem a_at_go {F : aFix} {s : State} {nL n0 u0 v0 : Nat} {ρ1 ρ : Nat → Nat} {pc pc' : Nat} {L : List (Option Value)} {st st' : List Value} {σ : aSt} {H : Heap} {locs : List Loc} {cells slots : Nat} {ls : Array Slot} (h : a_at F s nL n0 ρ1 u0 v0 (pc, L, st, σ) ρ H locs cells slots ls) (hb : a_bdc (pc', L, st', σ)) : a_at F s nL n0 ρ1 u0 v0 (pc', L, st', σ) ρ H locs cells slots ls :=
  ⟨h.1, hb, h.2.2⟩
theorem a_at_lo {F : aFix} {s : State} {nL n0 u0 v0 : Nat} {ρ1 ρ : Nat → Nat} {pc pc' : Nat} {L L' : List (Option Value)} {st st' : List Value} {σ : aSt} {H : Heap} {locs : List Loc} {cells slots : Nat} {ls ls' : Array Slot} (h : a_at F s nL n0 ρ1 u0 v0 (pc, L, st, σ) ρ H locs cells slots ls) (hb : a_bdc (pc', L', st', σ)) (hl : a_lo ρ L' nL ls') : a_at F s nL n0 ρ1 u0 v0 (pc', L', st', σ) ρ H locs cells slots ls' :=
  ⟨h.1, hb, hl, h.2.2.2⟩
/-- the heap was written at one of our cells -/
theorem a_at_put {F : aFix} {s : State} {nL n0 u0 v0 : Nat} {ρ1 ρ : Nat → Nat} {pc pc' : Nat} {L : List (Option Value)} {st st' : List Value} {σ σ' : aSt} {H H' : Heap} {locs : List Loc} {cells slots k : Nat} {ls : Array Slot} {a : Nat} (h : a_at F s nL n0 ρ1 u0 v0 (pc, L, st, σ) ρ H locs cells slots ls) (hb : a_bdc (pc', L, st', σ')) (ha : f_A F (ρ a)) (hz : H'.size = H.size) (oq : ∀ q, q ≠ ρ a → H'[q]? = H[q]?) (hh : a_hp F ρ σ' H') (hn : σ'.2.2.2.2 = σ.2.2.2.2) : a_at F s nL n0 ρ1 u0 v0 (pc', L, st', σ') ρ H' (locs ++ [⟨ρ a, k⟩]) cells slots ls := by
  obtain ⟨-, -, h3, h4, h5, h6, h7, h8⟩ := h
  have e1 : a_n σ' = a_n σ := congrArg (fun x => x.1) hn
  have e2 : a_uc σ' = a_uc σ := congrArg (fun x => x.2.1) hn
  have e3 : a_us σ' = a_us σ := congrArg (fun x => x.2.2) hn
  refine ⟨hh, hb, h3, h4.put hz oq ha, h5, ?_, ?_, ?_⟩
  · show n0 ≤ a_n σ'
    rw [e1]; exact h6
  · show a_uc σ' = _
    rw [e2]; exact h7
  · show a_us σ' = _
    rw [e3]; exact h8
theorem a_100 {F : aFix} {ρ : Nat → Nat} {σ : aSt} {H : Heap} {a : Nat} (h : a_hp F ρ σ H) (h0 : a_kd σ a ≠ 0) (h5 : a_kd σ a ≠ 5) (h6 : a_kd σ a ≠ 6) : 100 ≤ a :=
  Nat.le_of_not_lt fun hlt => (h.2.2.2.2.2.2.2 a hlt).elim h0 fun z => z.elim h5 h6
section ASND
variable {p : Program} {l : Launch} {e : Env} {R : Room} {s : State} {m : MethodId} {args : Array Value} {below : List Frame} {meth : Method} {c : Code} {Q : State → Prop} {cc : ByteArray} {nL n0 u0 v0 : Nat} {own : String} {ini : Bool} {F : aFix} {ρ1 : Nat → Nat}
variable {pc : Nat} {L : List (Option Value)} {st : List Value} {σ : aSt}
def a_W (p : Program) (l : Launch) (e : Env) (R : Room) (s : State) (m : MethodId) (args : Array Value) (below : List Frame) (meth : Method) (c : Code) (Q : State → Prop) (nL n0 u0 v0 : Nat) (F : aFix) (ρ1 : Nat → Nat) (cf : aCfg) : Prop :=
  ∀ (ρ : Nat → Nat) (H : Heap) (locs : List Loc) (cells slots : Nat) (ls : Array Slot), a_at F s nL n0 ρ1 u0 v0 cf ρ H locs cells slots ls → W p l e R s m args below meth c H locs cells slots Q (F0 m cf.1 ls (cf.2.2.1.map (a_vm ρ)))

theorem as_iconst {n : Int} {z : Int32} (C : a_ctx p l R s m args meth c cc nL own ini F) (hd : decode cc pc = .ok (.iconst n, 1)) (hz : Int32.ofInt n = z) (hg : a_bdc (pc + 1, L, .int z :: st, σ)) (K : a_W p l e R s m args below meth c Q nL n0 u0 v0 F ρ1 (pc + 1, L, .int z :: st, σ)) : a_W p l e R s m args below meth c Q nL n0 u0 v0 F ρ1 (pc, L, st, σ) :=
  fun ρ H locs cells slots ls h => lv_iconst C.1 C.2.1 hd hz (K ρ H locs cells slots ls (a_at_go h hg))
theorem as_bipush {n : Int} {z : Int32} (C : a_ctx p l R s m args meth c cc nL own ini F) (hd : decode cc pc = .ok (.bipush n, 2)) (hz : (Int8.ofInt n).toInt32 = z) (hg : a_bdc (pc + 2, L, .int z :: st, σ)) (K : a_W p l e R s m args below meth c Q nL n0 u0 v0 F ρ1 (pc + 2, L, .int z :: st, σ)) : a_W p l e R s m args below meth c Q nL n0 u0 v0 F ρ1 (pc, L, st, σ) :=
  fun ρ H locs cells slots ls h => lv_bipush C.1 C.2.1 hd hz (K ρ H locs cells slots ls (a_at_go h hg))
theorem as_sipush {n : Int} {z : Int32} (C : a_ctx p l R s m args meth c cc nL own ini F) (hd : decode cc pc = .ok (.sipush n, 3)) (hz : (Int16.ofInt n).toInt32 = z) (hg : a_bdc (pc + 3, L, .int z :: st, σ)) (K : a_W p l e R s m args below meth c Q nL n0 u0 v0 F ρ1 (pc + 3, L, .int z :: st, σ)) : a_W p l e R s m args below meth c Q nL n0 u0 v0 F ρ1 (pc, L, st, σ) :=
  fun ρ H locs cells slots ls h => lv_sipush C.1 C.2.1 hd hz (K ρ H locs cells slots ls (a_at_go h hg))
theorem as_lconst {n : Fin 2} (C : a_ctx p l R s m args meth c cc nL own ini F) (hd : decode cc pc = .ok (.lconst n, 1))  (hg : a_bdc (pc + 1, L, .long (Int64.ofNat n) :: st, σ)) (K : a_W p l e R s m args below meth c Q nL n0 u0 v0 F ρ1 (pc + 1, L, .long (Int64.ofNat n) :: st, σ)) : a_W p l e R s m args below meth c Q nL n0 u0 v0 F ρ1 (pc, L, st, σ) :=
  fun ρ H locs cells slots ls h => lv_lconst C.1 C.2.1 hd rfl (K ρ H locs cells slots ls (a_at_go h hg))
theorem as_fconst  (C : a_ctx p l R s m args meth c cc nL own ini F) (hd : decode cc pc = .ok (.fconst 0, 1))  (hg : a_bdc (pc + 1, L, .float FP.fconst0 :: st, σ)) (K : a_W p l e R s m args below meth c Q nL n0 u0 v0 F ρ1 (pc + 1, L, .float FP.fconst0 :: st, σ)) : a_W p l e R s m args below meth c Q nL n0 u0 v0 F ρ1 (pc, L, st, σ) :=
  fun ρ H locs cells slots ls h => lv_fconst0 C.1 C.2.1 hd (K ρ H locs cells slots ls (a_at_go h hg))
theorem as_dconst  (C : a_ctx p l R s m args meth c cc nL own ini F) (hd : decode cc pc = .ok (.dconst 0, 1))  (hg : a_bdc (pc + 1, L, .double FP.dconst0 :: st, σ)) (K : a_W p l e R s m args below meth c Q nL n0 u0 v0 F ρ1 (pc + 1, L, .double FP.dconst0 :: st, σ)) : a_W p l e R s m args below meth c Q nL n0 u0 v0 F ρ1 (pc, L, st, σ) :=
  fun ρ H locs cells slots ls h => lv_dconst0 C.1 C.2.1 hd (K ρ H locs cells slots ls (a_at_go h hg))
theorem as_null  (C : a_ctx p l R s m args meth c cc nL own ini F) (hd : decode cc pc = .ok (.aconst_null, 1))  (hg : a_bdc (pc + 1, L, .null :: st, σ)) (K : a_W p l e R s m args below meth c Q nL n0 u0 v0 F ρ1 (pc + 1, L, .null :: st, σ)) : a_W p l e R s m args below meth c Q nL n0 u0 v0 F ρ1 (pc, L, st, σ) :=
  fun ρ H locs cells slots ls h => lv_null C.1 C.2.1 hd (K ρ H locs cells slots ls (a_at_go h hg))
theorem as_ldc {ix : Nat} {z : Int32} (C : a_ctx p l R s m args meth c cc nL own ini F) (hd : decode cc pc = .ok (.ldc ix, 2)) (hw : Jvm.Cond.constant own ix z ∈ am_ws) (hg : a_bdc (pc + 2, L, .int z :: st, σ)) (K : a_W p l e R s m args below meth c Q nL n0 u0 v0 F ρ1 (pc + 2, L, .int z :: st, σ)) : a_W p l e R s m args below meth c Q nL n0 u0 v0 F ρ1 (pc, L, st, σ) :=
  fun ρ H locs cells slots ls h => lv_ldc C.1 C.2.1 C.2.2.2.1 (C.2.2.2.2.1 _ hw) hd (K ρ H locs cells slots ls (a_at_go h hg))
theorem as_ldcw {ix : Nat} {z : Int32} (C : a_ctx p l R s m args meth c cc nL own ini F) (hd : decode cc pc = .ok (.ldc_w ix, 3)) (hw : Jvm.Cond.constant own ix z ∈ am_ws) (hg : a_bdc (pc + 3, L, .int z :: st, σ)) (K : a_W p l e R s m args below meth c Q nL n0 u0 v0 F ρ1 (pc + 3, L, .int z :: st, σ)) : a_W p l e R s m args below meth c Q nL n0 u0 v0 F ρ1 (pc, L, st, σ) :=
  fun ρ H locs cells slots ls h => lv_ldcw C.1 C.2.1 C.2.2.2.1 (C.2.2.2.2.1 _ hw) hd (K ρ H locs cells slots ls (a_at_go h hg))
theorem as_ldc2 {ix : Nat} {z : Int64} (C : a_ctx p l R s m args meth c cc nL own ini F) (hd : decode cc pc = .ok (.ldc2_w ix, 3)) (hw : Jvm.Cond.constantLong own ix z ∈ am_ws) (hg : a_bdc (pc + 3, L, .long z :: st, σ)) (K : a_W p l e R s m args below meth c Q nL n0 u0 v0 F ρ1 (pc + 3, L, .long z :: st, σ)) : a_W p l e R s m args below meth c Q nL n0 u0 v0 F ρ1 (pc, L, st, σ) :=
  fun ρ H locs cells slots ls h => lv_ldc2 C.1 C.2.1 C.2.2.2.1 (C.2.2.2.2.1 _ hw) hd (K ρ H locs cells slots ls (a_at_go h hg))
theorem as_iload_n {i : Fin 4} {x : Int32} (C : a_ctx p l R s m args meth c cc nL own ini F) (hd : decode cc pc = .ok (.iload_n i, 1)) (hv : L.getD i none = some (.int x)) (hg : a_bdc (pc + 1, L, .int x :: st, σ)) (K : a_W p l e R s m args below meth c Q nL n0 u0 v0 F ρ1 (pc + 1, L, .int x :: st, σ)) : a_W p l e R s m args below meth c Q nL n0 u0 v0 F ρ1 (pc, L, st, σ) :=
  fun ρ H locs cells slots ls h => lv_iload_n C.1 C.2.1 hd rfl (a_lo_at h.2.2.1 hv) (K ρ H locs cells slots ls (a_at_go h hg))
theorem as_iload {i : Nat} {x : Int32} (C : a_ctx p l R s m args meth c cc nL own ini F) (hd : decode cc pc = .ok (.iload i, 2)) (hv : L.getD i none = some (.int x)) (hg : a_bdc (pc + 2, L, .int x :: st, σ)) (K : a_W p l e R s m args below meth c Q nL n0 u0 v0 F ρ1 (pc + 2, L, .int x :: st, σ)) : a_W p l e R s m args below meth c Q nL n0 u0 v0 F ρ1 (pc, L, st, σ) :=
  fun ρ H locs cells slots ls h => lv_iload C.1 C.2.1 hd (a_lo_at h.2.2.1 hv) (K ρ H locs cells slots ls (a_at_go h hg))
theorem as_aload_n {i : Fin 4} {x : Nat} (C : a_ctx p l R s m args meth c cc nL own ini F) (hd : decode cc pc = .ok (.aload_n i, 1)) (hv : L.getD i none = some (.ref x)) (hg : a_bdc (pc + 1, L, .ref x :: st, σ)) (K : a_W p l e R s m args below meth c Q nL n0 u0 v0 F ρ1 (pc + 1, L, .ref x :: st, σ)) : a_W p l e R s m args below meth c Q nL n0 u0 v0 F ρ1 (pc, L, st, σ) :=
  fun ρ H locs cells slots ls h => lv_aload_n C.1 C.2.1 hd rfl (a_lo_at h.2.2.1 hv) (K ρ H locs cells slots ls (a_at_go h hg))
theorem as_aload {i : Nat} {x : Nat} (C : a_ctx p l R s m args meth c cc nL own ini F) (hd : decode cc pc = .ok (.aload i, 2)) (hv : L.getD i none = some (.ref x)) (hg : a_bdc (pc + 2, L, .ref x :: st, σ)) (K : a_W p l e R s m args below meth c Q nL n0 u0 v0 F ρ1 (pc + 2, L, .ref x :: st, σ)) : a_W p l e R s m args below meth c Q nL n0 u0 v0 F ρ1 (pc, L, st, σ) :=
  fun ρ H locs cells slots ls h => lv_aload C.1 C.2.1 hd (a_lo_at h.2.2.1 hv) (K ρ H locs cells slots ls (a_at_go h hg))
theorem as_lload_n {i : Fin 4} {x : Int64} (C : a_ctx p l R s m args meth c cc nL own ini F) (hd : decode cc pc = .ok (.lload_n i, 1)) (hv : L.getD i none = some (.long x)) (hg : a_bdc (pc + 1, L, .long x :: st, σ)) (K : a_W p l e R s m args below meth c Q nL n0 u0 v0 F ρ1 (pc + 1, L, .long x :: st, σ)) : a_W p l e R s m args below meth c Q nL n0 u0 v0 F ρ1 (pc, L, st, σ) :=
  fun ρ H locs cells slots ls h => lv_lload_n C.1 C.2.1 hd rfl (a_lo_at h.2.2.1 hv) (K ρ H locs cells slots ls (a_at_go h hg))
theorem as_lload {i : Nat} {x : Int64} (C : a_ctx p l R s m args meth c cc nL own ini F) (hd : decode cc pc = .ok (.lload i, 2)) (hv : L.getD i none = some (.long x)) (hg : a_bdc (pc + 2, L, .long x :: st, σ)) (K : a_W p l e R s m args below meth c Q nL n0 u0 v0 F ρ1 (pc + 2, L, .long x :: st, σ)) : a_W p l e R s m args below meth c Q nL n0 u0 v0 F ρ1 (pc, L, st, σ) :=
  fun ρ H locs cells slots ls h => lv_lload C.1 C.2.1 hd (a_lo_at h.2.2.1 hv) (K ρ H locs cells slots ls (a_at_go h hg))
theorem as_dload_n {i : Fin 4} {x : UInt64} (C : a_ctx p l R s m args meth c cc nL own ini F) (hd : decode cc pc = .ok (.dload_n i, 1)) (hv : L.getD i none = some (.double x)) (hg : a_bdc (pc + 1, L, .double x :: st, σ)) (K : a_W p l e R s m args below meth c Q nL n0 u0 v0 F ρ1 (pc + 1, L, .double x :: st, σ)) : a_W p l e R s m args below meth c Q nL n0 u0 v0 F ρ1 (pc, L, st, σ) :=
  fun ρ H locs cells slots ls h => lv_dload_n C.1 C.2.1 hd rfl (a_lo_at h.2.2.1 hv) (K ρ H locs cells slots ls (a_at_go h hg))
theorem as_dload {i : Nat} {x : UInt64} (C : a_ctx p l R s m args meth c cc nL own ini F) (hd : decode cc pc = .ok (.dload i, 2)) (hv : L.getD i none = some (.double x)) (hg : a_bdc (pc + 2, L, .double x :: st, σ)) (K : a_W p l e R s m args below meth c Q nL n0 u0 v0 F ρ1 (pc + 2, L, .double x :: st, σ)) : a_W p l e R s m args below meth c Q nL n0 u0 v0 F ρ1 (pc, L, st, σ) :=
  fun ρ H locs cells slots ls h => lv_dload C.1 C.2.1 hd (a_lo_at h.2.2.1 hv) (K ρ H locs cells slots ls (a_at_go h hg))
theorem as_aload_nN {i : Fin 4} (C : a_ctx p l R s m args meth c cc nL own ini F) (hd : decode cc pc = .ok (.aload_n i, 1)) (hv : L.getD i none = some .null) (hg : a_bdc (pc + 1, L, .null :: st, σ)) (K : a_W p l e R s m args below meth c Q nL n0 u0 v0 F ρ1 (pc + 1, L, .null :: st, σ)) : a_W p l e R s m args below meth c Q nL n0 u0 v0 F ρ1 (pc, L, st, σ) :=
  fun ρ H locs cells slots ls h => lv_aload_nN C.1 C.2.1 hd rfl (a_lo_at h.2.2.1 hv) (K ρ H locs cells slots ls (a_at_go h hg))
theorem as_aloadN {i : Nat} (C : a_ctx p l R s m args meth c cc nL own ini F) (hd : decode cc pc = .ok (.aload i, 2)) (hv : L.getD i none = some .null) (hg : a_bdc (pc + 2, L, .null :: st, σ)) (K : a_W p l e R s m args below meth c Q nL n0 u0 v0 F ρ1 (pc + 2, L, .null :: st, σ)) : a_W p l e R s m args below meth c Q nL n0 u0 v0 F ρ1 (pc, L, st, σ) :=
  fun ρ H locs cells slots ls h => lv_aloadN C.1 C.2.1 hd (a_lo_at h.2.2.1 hv) (K ρ H locs cells slots ls (a_at_go h hg))
theorem as_iadd {x y : Int32} (C : a_ctx p l R s m args meth c cc nL own ini F) (hd : decode cc pc = .ok (.iadd, 1))  (hg : a_bdc (pc + 1, L, .int (x + y) :: st, σ)) (K : a_W p l e R s m args below meth c Q nL n0 u0 v0 F ρ1 (pc + 1, L, .int (x + y) :: st, σ)) : a_W p l e R s m args below meth c Q nL n0 u0 v0 F ρ1 (pc, L, .int y :: .int x :: st, σ) :=
  fun ρ H locs cells slots ls h => lv_iadd C.1 C.2.1 hd (K ρ H locs cells slots ls (a_at_go h hg))
theorem as_isub {x y : Int32} (C : a_ctx p l R s m args meth c cc nL own ini F) (hd : decode cc pc = .ok (.isub, 1))  (hg : a_bdc (pc + 1, L, .int (x - y) :: st, σ)) (K : a_W p l e R s m args below meth c Q nL n0 u0 v0 F ρ1 (pc + 1, L, .int (x - y) :: st, σ)) : a_W p l e R s m args below meth c Q nL n0 u0 v0 F ρ1 (pc, L, .int y :: .int x :: st, σ) :=
  fun ρ H locs cells slots ls h => lv_isub C.1 C.2.1 hd (K ρ H locs cells slots ls (a_at_go h hg))
theorem as_imul {x y : Int32} (C : a_ctx p l R s m args meth c cc nL own ini F) (hd : decode cc pc = .ok (.imul, 1))  (hg : a_bdc (pc + 1, L, .int (x * y) :: st, σ)) (K : a_W p l e R s m args below meth c Q nL n0 u0 v0 F ρ1 (pc + 1, L, .int (x * y) :: st, σ)) : a_W p l e R s m args below meth c Q nL n0 u0 v0 F ρ1 (pc, L, .int y :: .int x :: st, σ) :=
  fun ρ H locs cells slots ls h => lv_imul C.1 C.2.1 hd (K ρ H locs cells slots ls (a_at_go h hg))
theorem as_iand {x y : Int32} (C : a_ctx p l R s m args meth c cc nL own ini F) (hd : decode cc pc = .ok (.iand, 1))  (hg : a_bdc (pc + 1, L, .int (x &&& y) :: st, σ)) (K : a_W p l e R s m args below meth c Q nL n0 u0 v0 F ρ1 (pc + 1, L, .int (x &&& y) :: st, σ)) : a_W p l e R s m args below meth c Q nL n0 u0 v0 F ρ1 (pc, L, .int y :: .int x :: st, σ) :=
  fun ρ H locs cells slots ls h => lv_iand C.1 C.2.1 hd (K ρ H locs cells slots ls (a_at_go h hg))
theorem as_ior {x y : Int32} (C : a_ctx p l R s m args meth c cc nL own ini F) (hd : decode cc pc = .ok (.ior, 1))  (hg : a_bdc (pc + 1, L, .int (x ||| y) :: st, σ)) (K : a_W p l e R s m args below meth c Q nL n0 u0 v0 F ρ1 (pc + 1, L, .int (x ||| y) :: st, σ)) : a_W p l e R s m args below meth c Q nL n0 u0 v0 F ρ1 (pc, L, .int y :: .int x :: st, σ) :=
  fun ρ H locs cells slots ls h => lv_ior C.1 C.2.1 hd (K ρ H locs cells slots ls (a_at_go h hg))
theorem as_ixor {x y : Int32} (C : a_ctx p l R s m args meth c cc nL own ini F) (hd : decode cc pc = .ok (.ixor, 1))  (hg : a_bdc (pc + 1, L, .int (x ^^^ y) :: st, σ)) (K : a_W p l e R s m args below meth c Q nL n0 u0 v0 F ρ1 (pc + 1, L, .int (x ^^^ y) :: st, σ)) : a_W p l e R s m args below meth c Q nL n0 u0 v0 F ρ1 (pc, L, .int y :: .int x :: st, σ) :=
  fun ρ H locs cells slots ls h => lv_ixor C.1 C.2.1 hd (K ρ H locs cells slots ls (a_at_go h hg))
theorem as_ishl {x y : Int32} (C : a_ctx p l R s m args meth c cc nL own ini F) (hd : decode cc pc = .ok (.ishl, 1))  (hg : a_bdc (pc + 1, L, .int (x <<< (y &&& 31)) :: st, σ)) (K : a_W p l e R s m args below meth c Q nL n0 u0 v0 F ρ1 (pc + 1, L, .int (x <<< (y &&& 31)) :: st, σ)) : a_W p l e R s m args below meth c Q nL n0 u0 v0 F ρ1 (pc, L, .int y :: .int x :: st, σ) :=
  fun ρ H locs cells slots ls h => lv_ishl C.1 C.2.1 hd (K ρ H locs cells slots ls (a_at_go h hg))
theorem as_ishr {x y : Int32} (C : a_ctx p l R s m args meth c cc nL own ini F) (hd : decode cc pc = .ok (.ishr, 1))  (hg : a_bdc (pc + 1, L, .int (x >>> (y &&& 31)) :: st, σ)) (K : a_W p l e R s m args below meth c Q nL n0 u0 v0 F ρ1 (pc + 1, L, .int (x >>> (y &&& 31)) :: st, σ)) : a_W p l e R s m args below meth c Q nL n0 u0 v0 F ρ1 (pc, L, .int y :: .int x :: st, σ) :=
  fun ρ H locs cells slots ls h => lv_ishr C.1 C.2.1 hd (K ρ H locs cells slots ls (a_at_go h hg))
theorem as_idiv {x y : Int32} (C : a_ctx p l R s m args meth c cc nL own ini F) (hd : decode cc pc = .ok (.idiv, 1)) (hne : ¬ y = 0) (hg : a_bdc (pc + 1, L, .int (x / y) :: st, σ)) (K : a_W p l e R s m args below meth c Q nL n0 u0 v0 F ρ1 (pc + 1, L, .int (x / y) :: st, σ)) : a_W p l e R s m args below meth c Q nL n0 u0 v0 F ρ1 (pc, L, .int y :: .int x :: st, σ) :=
  fun ρ H locs cells slots ls h => lv_idiv C.1 C.2.1 hd hne (K ρ H locs cells slots ls (a_at_go h hg))
theorem as_irem {x y : Int32} (C : a_ctx p l R s m args meth c cc nL own ini F) (hd : decode cc pc = .ok (.irem, 1)) (hne : ¬ y = 0) (hg : a_bdc (pc + 1, L, .int (x - x / y * y) :: st, σ)) (K : a_W p l e R s m args below meth c Q nL n0 u0 v0 F ρ1 (pc + 1, L, .int (x - x / y * y) :: st, σ)) : a_W p l e R s m args below meth c Q nL n0 u0 v0 F ρ1 (pc, L, .int y :: .int x :: st, σ) :=
  fun ρ H locs cells slots ls h => lv_irem C.1 C.2.1 hd hne (K ρ H locs cells slots ls (a_at_go h hg))
theorem as_ladd {x y : Int64} (C : a_ctx p l R s m args meth c cc nL own ini F) (hd : decode cc pc = .ok (.ladd, 1))  (hg : a_bdc (pc + 1, L, .long (x + y) :: st, σ)) (K : a_W p l e R s m args below meth c Q nL n0 u0 v0 F ρ1 (pc + 1, L, .long (x + y) :: st, σ)) : a_W p l e R s m args below meth c Q nL n0 u0 v0 F ρ1 (pc, L, .long y :: .long x :: st, σ) :=
  fun ρ H locs cells slots ls h => lv_ladd C.1 C.2.1 hd (K ρ H locs cells slots ls (a_at_go h hg))
theorem as_lsub {x y : Int64} (C : a_ctx p l R s m args meth c cc nL own ini F) (hd : decode cc pc = .ok (.lsub, 1))  (hg : a_bdc (pc + 1, L, .long (x - y) :: st, σ)) (K : a_W p l e R s m args below meth c Q nL n0 u0 v0 F ρ1 (pc + 1, L, .long (x - y) :: st, σ)) : a_W p l e R s m args below meth c Q nL n0 u0 v0 F ρ1 (pc, L, .long y :: .long x :: st, σ) :=
  fun ρ H locs cells slots ls h => lv_lsub C.1 C.2.1 hd (K ρ H locs cells slots ls (a_at_go h hg))
theorem as_lmul {x y : Int64} (C : a_ctx p l R s m args meth c cc nL own ini F) (hd : decode cc pc = .ok (.lmul, 1))  (hg : a_bdc (pc + 1, L, .long (x * y) :: st, σ)) (K : a_W p l e R s m args below meth c Q nL n0 u0 v0 F ρ1 (pc + 1, L, .long (x * y) :: st, σ)) : a_W p l e R s m args below meth c Q nL n0 u0 v0 F ρ1 (pc, L, .long y :: .long x :: st, σ) :=
  fun ρ H locs cells slots ls h => lv_lmul C.1 C.2.1 hd (K ρ H locs cells slots ls (a_at_go h hg))
theorem as_land {x y : Int64} (C : a_ctx p l R s m args meth c cc nL own ini F) (hd : decode cc pc = .ok (.land, 1))  (hg : a_bdc (pc + 1, L, .long (x &&& y) :: st, σ)) (K : a_W p l e R s m args below meth c Q nL n0 u0 v0 F ρ1 (pc + 1, L, .long (x &&& y) :: st, σ)) : a_W p l e R s m args below meth c Q nL n0 u0 v0 F ρ1 (pc, L, .long y :: .long x :: st, σ) :=
  fun ρ H locs cells slots ls h => lv_land C.1 C.2.1 hd (K ρ H locs cells slots ls (a_at_go h hg))
theorem as_lor {x y : Int64} (C : a_ctx p l R s m args meth c cc nL own ini F) (hd : decode cc pc = .ok (.lor, 1))  (hg : a_bdc (pc + 1, L, .long (x ||| y) :: st, σ)) (K : a_W p l e R s m args below meth c Q nL n0 u0 v0 F ρ1 (pc + 1, L, .long (x ||| y) :: st, σ)) : a_W p l e R s m args below meth c Q nL n0 u0 v0 F ρ1 (pc, L, .long y :: .long x :: st, σ) :=
  fun ρ H locs cells slots ls h => lv_lor C.1 C.2.1 hd (K ρ H locs cells slots ls (a_at_go h hg))
theorem as_i2l {x : Int32} (C : a_ctx p l R s m args meth c cc nL own ini F) (hd : decode cc pc = .ok (.i2l, 1))  (hg : a_bdc (pc + 1, L, .long x.toInt64 :: st, σ)) (K : a_W p l e R s m args below meth c Q nL n0 u0 v0 F ρ1 (pc + 1, L, .long x.toInt64 :: st, σ)) : a_W p l e R s m args below meth c Q nL n0 u0 v0 F ρ1 (pc, L, .int x :: st, σ) :=
  fun ρ H locs cells slots ls h => lv_i2l C.1 C.2.1 hd rfl (K ρ H locs cells slots ls (a_at_go h hg))
theorem as_l2i {x : Int64} (C : a_ctx p l R s m args meth c cc nL own ini F) (hd : decode cc pc = .ok (.l2i, 1))  (hg : a_bdc (pc + 1, L, .int x.toInt32 :: st, σ)) (K : a_W p l e R s m args below meth c Q nL n0 u0 v0 F ρ1 (pc + 1, L, .int x.toInt32 :: st, σ)) : a_W p l e R s m args below meth c Q nL n0 u0 v0 F ρ1 (pc, L, .long x :: st, σ) :=
  fun ρ H locs cells slots ls h => lv_l2i C.1 C.2.1 hd rfl (K ρ H locs cells slots ls (a_at_go h hg))
theorem as_i2c {x : Int32} (C : a_ctx p l R s m args meth c cc nL own ini F) (hd : decode cc pc = .ok (.i2c, 1))  (hg : a_bdc (pc + 1, L, .int (x.toUInt32 % 65536).toInt32 :: st, σ)) (K : a_W p l e R s m args below meth c Q nL n0 u0 v0 F ρ1 (pc + 1, L, .int (x.toUInt32 % 65536).toInt32 :: st, σ)) : a_W p l e R s m args below meth c Q nL n0 u0 v0 F ρ1 (pc, L, .int x :: st, σ) :=
  fun ρ H locs cells slots ls h => lv_i2c C.1 C.2.1 hd rfl (K ρ H locs cells slots ls (a_at_go h hg))
theorem as_i2d {x : Int32} (C : a_ctx p l R s m args meth c cc nL own ini F) (hd : decode cc pc = .ok (.i2d, 1))  (hg : a_bdc (pc + 1, L, .double (FP.i2d x) :: st, σ)) (K : a_W p l e R s m args below meth c Q nL n0 u0 v0 F ρ1 (pc + 1, L, .double (FP.i2d x) :: st, σ)) : a_W p l e R s m args below meth c Q nL n0 u0 v0 F ρ1 (pc, L, .int x :: st, σ) :=
  fun ρ H locs cells slots ls h => lv_i2d C.1 C.2.1 hd (K ρ H locs cells slots ls (a_at_go h hg))
theorem as_i2f {x : Int32} (C : a_ctx p l R s m args meth c cc nL own ini F) (hd : decode cc pc = .ok (.i2f, 1))  (hg : a_bdc (pc + 1, L, .float (FP.i2f x) :: st, σ)) (K : a_W p l e R s m args below meth c Q nL n0 u0 v0 F ρ1 (pc + 1, L, .float (FP.i2f x) :: st, σ)) : a_W p l e R s m args below meth c Q nL n0 u0 v0 F ρ1 (pc, L, .int x :: st, σ) :=
  fun ρ H locs cells slots ls h => lv_i2f C.1 C.2.1 hd (K ρ H locs cells slots ls (a_at_go h hg))
theorem as_lcmp {x y : Int64} (C : a_ctx p l R s m args meth c cc nL own ini F) (hd : decode cc pc = .ok (.lcmp, 1))  (hg : a_bdc (pc + 1, L, .int (lg_cmp x y) :: st, σ)) (K : a_W p l e R s m args below meth c Q nL n0 u0 v0 F ρ1 (pc + 1, L, .int (lg_cmp x y) :: st, σ)) : a_W p l e R s m args below meth c Q nL n0 u0 v0 F ρ1 (pc, L, .long y :: .long x :: st, σ) :=
  fun ρ H locs cells slots ls h => W.lcmp C.1 C.2.1 hd (K ρ H locs cells slots ls (a_at_go h hg))
theorem as_dcmp {x y : UInt64} {op : CmpOp} (C : a_ctx p l R s m args meth c cc nL own ini F) (hd : decode cc pc = .ok (.dcmp op, 1))  (hg : a_bdc (pc + 1, L, .int (Op.cmpValue (FP.dcmp x y) op) :: st, σ)) (K : a_W p l e R s m args below meth c Q nL n0 u0 v0 F ρ1 (pc + 1, L, .int (Op.cmpValue (FP.dcmp x y) op) :: st, σ)) : a_W p l e R s m args below meth c Q nL n0 u0 v0 F ρ1 (pc, L, .double y :: .double x :: st, σ) :=
  fun ρ H locs cells slots ls h => lv_dcmp C.1 C.2.1 hd (K ρ H locs cells slots ls (a_at_go h hg))
theorem as_ddiv {x y : UInt64} (C : a_ctx p l R s m args meth c cc nL own ini F) (hd : decode cc pc = .ok (.ddiv, 1)) (hn : FP.ddiv x y &&& 0x7fffffffffffffff ≤ 0x7ff0000000000000) (hg : a_bdc (pc + 1, L, .double (FP.ddiv x y) :: st, σ)) (K : a_W p l e R s m args below meth c Q nL n0 u0 v0 F ρ1 (pc + 1, L, .double (FP.ddiv x y) :: st, σ)) : a_W p l e R s m args below meth c Q nL n0 u0 v0 F ρ1 (pc, L, .double y :: .double x :: st, σ) :=
  fun ρ H locs cells slots ls h => lv_ddiv C.1 C.2.1 hd hn (K ρ H locs cells slots ls (a_at_go h hg))
theorem as_fdiv {x y : UInt32} (C : a_ctx p l R s m args meth c cc nL own ini F) (hd : decode cc pc = .ok (.fdiv, 1)) (hn : FP.fdiv x y &&& 0x7fffffff ≤ 0x7f800000) (hg : a_bdc (pc + 1, L, .float (FP.fdiv x y) :: st, σ)) (K : a_W p l e R s m args below meth c Q nL n0 u0 v0 F ρ1 (pc + 1, L, .float (FP.fdiv x y) :: st, σ)) : a_W p l e R s m args below meth c Q nL n0 u0 v0 F ρ1 (pc, L, .float y :: .float x :: st, σ) :=
  fun ρ H locs cells slots ls h => lv_fdiv C.1 C.2.1 hd hn (K ρ H locs cells slots ls (a_at_go h hg))
theorem as_f2d {x : UInt32} (C : a_ctx p l R s m args meth c cc nL own ini F) (hd : decode cc pc = .ok (.f2d, 1)) (hn : FP.f2d x &&& 0x7fffffffffffffff ≤ 0x7ff0000000000000) (hg : a_bdc (pc + 1, L, .double (FP.f2d x) :: st, σ)) (K : a_W p l e R s m args below meth c Q nL n0 u0 v0 F ρ1 (pc + 1, L, .double (FP.f2d x) :: st, σ)) : a_W p l e R s m args below meth c Q nL n0 u0 v0 F ρ1 (pc, L, .float x :: st, σ) :=
  fun ρ H locs cells slots ls h => lv_f2d C.1 C.2.1 hd hn (K ρ H locs cells slots ls (a_at_go h hg))
theorem as_dup {v : Value} (C : a_ctx p l R s m args meth c cc nL own ini F) (hd : decode cc pc = .ok (.dup, 1)) (hv : v.category = 1) (hg : a_bdc (pc + 1, L, v :: v :: st, σ)) (K : a_W p l e R s m args below meth c Q nL n0 u0 v0 F ρ1 (pc + 1, L, v :: v :: st, σ)) : a_W p l e R s m args below meth c Q nL n0 u0 v0 F ρ1 (pc, L, v :: st, σ) :=
  fun ρ H locs cells slots ls h => lv_dup C.1 C.2.1 hd ((a_vm_cat ρ v).trans hv) (K ρ H locs cells slots ls (a_at_go h hg))
theorem as_pop {v : Value} (C : a_ctx p l R s m args meth c cc nL own ini F) (hd : decode cc pc = .ok (.pop, 1)) (hv : v.category = 1) (hg : a_bdc (pc + 1, L, st, σ)) (K : a_W p l e R s m args below meth c Q nL n0 u0 v0 F ρ1 (pc + 1, L, st, σ)) : a_W p l e R s m args below meth c Q nL n0 u0 v0 F ρ1 (pc, L, v :: st, σ) :=
  fun ρ H locs cells slots ls h => lv_pop C.1 C.2.1 hd ((a_vm_cat ρ v).trans hv) (K ρ H locs cells slots ls (a_at_go h hg))
theorem as_dup_x1 {v w : Value} (C : a_ctx p l R s m args meth c cc nL own ini F) (hd : decode cc pc = .ok (.dup_x1, 1)) (hv : v.category = 1) (hw : w.category = 1) (hg : a_bdc (pc + 1, L, v :: w :: v :: st, σ)) (K : a_W p l e R s m args below meth c Q nL n0 u0 v0 F ρ1 (pc + 1, L, v :: w :: v :: st, σ)) : a_W p l e R s m args below meth c Q nL n0 u0 v0 F ρ1 (pc, L, v :: w :: st, σ) :=
  fun ρ H locs cells slots ls h => lv_dup_x1 C.1 C.2.1 hd ((a_vm_cat ρ v).trans hv) ((a_vm_cat ρ w).trans hw) (K ρ H locs cells slots ls (a_at_go h hg))
theorem as_dup2 {v w : Value} (C : a_ctx p l R s m args meth c cc nL own ini F) (hd : decode cc pc = .ok (.dup2, 1)) (hv : v.category = 1) (hw : w.category = 1) (hg : a_bdc (pc + 1, L, v :: w :: v :: w :: st, σ)) (K : a_W p l e R s m args below meth c Q nL n0 u0 v0 F ρ1 (pc + 1, L, v :: w :: v :: w :: st, σ)) : a_W p l e R s m args below meth c Q nL n0 u0 v0 F ρ1 (pc, L, v :: w :: st, σ) :=
  fun ρ H locs cells slots ls h => lv_dup2_11 C.1 C.2.1 hd ((a_vm_cat ρ v).trans hv) ((a_vm_cat ρ w).trans hw) (K ρ H locs cells slots ls (a_at_go h hg))
theorem as_istore_n {i : Fin 4} {x : Int32} {L' : List (Option Value)} (C : a_ctx p l R s m args meth c cc nL own ini F) (hd : decode cc pc = .ok (.istore_n i, 1)) (hs : a_st1 L i (.int x) = some L') (hg : a_bdc (pc + 1, L', st, σ)) (K : a_W p l e R s m args below meth c Q nL n0 u0 v0 F ρ1 (pc + 1, L', st, σ)) : a_W p l e R s m args below meth c Q nL n0 u0 v0 F ρ1 (pc, L, .int x :: st, σ) := by
  intro ρ H locs cells slots ls h
  have hi : (i : Nat) < nL := by
    have hl := h.2.2.1.1
    have hl : L.length = nL := hl
    unfold a_st1 at hs
    split at hs
    · rename_i q; omega
    · cases hs
  exact lv_istore_n C.1 C.2.1 hd rfl h.2.2.1.2 hi rfl (fun ls' hl' => K ρ H locs cells slots ls' (a_at_lo h hg (a_lo_st1 (v := .int x) h.2.2.1.1 hs hl')))
theorem as_istore {i : Nat} {x : Int32} {L' : List (Option Value)} (C : a_ctx p l R s m args meth c cc nL own ini F) (hd : decode cc pc = .ok (.istore i, 2)) (hs : a_st1 L i (.int x) = some L') (hg : a_bdc (pc + 2, L', st, σ)) (K : a_W p l e R s m args below meth c Q nL n0 u0 v0 F ρ1 (pc + 2, L', st, σ)) : a_W p l e R s m args below meth c Q nL n0 u0 v0 F ρ1 (pc, L, .int x :: st, σ) := by
  intro ρ H locs cells slots ls h
  have hi : (i : Nat) < nL := by
    have hl := h.2.2.1.1
    have hl : L.length = nL := hl
    unfold a_st1 at hs
    split at hs
    · rename_i q; omega
    · cases hs
  exact lv_istore C.1 C.2.1 hd h.2.2.1.2 hi rfl (fun ls' hl' => K ρ H locs cells slots ls' (a_at_lo h hg (a_lo_st1 (v := .int x) h.2.2.1.1 hs hl')))
theorem as_astore_n {i : Fin 4} {x : Nat} {L' : List (Option Value)} (C : a_ctx p l R s m args meth c cc nL own ini F) (hd : decode cc pc = .ok (.astore_n i, 1)) (hs : a_st1 L i (.ref x) = some L') (hg : a_bdc (pc + 1, L', st, σ)) (K : a_W p l e R s m args below meth c Q nL n0 u0 v0 F ρ1 (pc + 1, L', st, σ)) : a_W p l e R s m args below meth c Q nL n0 u0 v0 F ρ1 (pc, L, .ref x :: st, σ) := by
  intro ρ H locs cells slots ls h
  have hi : (i : Nat) < nL := by
    have hl := h.2.2.1.1
    have hl : L.length = nL := hl
    unfold a_st1 at hs
    split at hs
    · rename_i q; omega
    · cases hs
  exact lv_astore_n C.1 C.2.1 hd rfl h.2.2.1.2 hi rfl (fun ls' hl' => K ρ H locs cells slots ls' (a_at_lo h hg (a_lo_st1 (v := .ref x) h.2.2.1.1 hs hl')))
theorem as_astore {i : Nat} {x : Nat} {L' : List (Option Value)} (C : a_ctx p l R s m args meth c cc nL own ini F) (hd : decode cc pc = .ok (.astore i, 2)) (hs : a_st1 L i (.ref x) = some L') (hg : a_bdc (pc + 2, L', st, σ)) (K : a_W p l e R s m args below meth c Q nL n0 u0 v0 F ρ1 (pc + 2, L', st, σ)) : a_W p l e R s m args below meth c Q nL n0 u0 v0 F ρ1 (pc, L, .ref x :: st, σ) := by
  intro ρ H locs cells slots ls h
  have hi : (i : Nat) < nL := by
    have hl := h.2.2.1.1
    have hl : L.length = nL := hl
    unfold a_st1 at hs
    split at hs
    · rename_i q; omega
    · cases hs
  exact lv_astore C.1 C.2.1 hd h.2.2.1.2 hi rfl (fun ls' hl' => K ρ H locs cells slots ls' (a_at_lo h hg (a_lo_st1 (v := .ref x) h.2.2.1.1 hs hl')))
theorem as_astore_nN {i : Fin 4}  {L' : List (Option Value)} (C : a_ctx p l R s m args meth c cc nL own ini F) (hd : decode cc pc = .ok (.astore_n i, 1)) (hs : a_st1 L i (.null) = some L') (hg : a_bdc (pc + 1, L', st, σ)) (K : a_W p l e R s m args below meth c Q nL n0 u0 v0 F ρ1 (pc + 1, L', st, σ)) : a_W p l e R s m args below meth c Q nL n0 u0 v0 F ρ1 (pc, L, .null :: st, σ) := by
  intro ρ H locs cells slots ls h
  have hi : (i : Nat) < nL := by
    have hl := h.2.2.1.1
    have hl : L.length = nL := hl
    unfold a_st1 at hs
    split at hs
    · rename_i q; omega
    · cases hs
  exact lv_astore_nN C.1 C.2.1 hd rfl h.2.2.1.2 hi rfl (fun ls' hl' => K ρ H locs cells slots ls' (a_at_lo h hg (a_lo_st1 (v := .null) h.2.2.1.1 hs hl')))
theorem as_astoreN {i : Nat}  {L' : List (Option Value)} (C : a_ctx p l R s m args meth c cc nL own ini F) (hd : decode cc pc = .ok (.astore i, 2)) (hs : a_st1 L i (.null) = some L') (hg : a_bdc (pc + 2, L', st, σ)) (K : a_W p l e R s m args below meth c Q nL n0 u0 v0 F ρ1 (pc + 2, L', st, σ)) : a_W p l e R s m args below meth c Q nL n0 u0 v0 F ρ1 (pc, L, .null :: st, σ) := by
  intro ρ H locs cells slots ls h
  have hi : (i : Nat) < nL := by
    have hl := h.2.2.1.1
    have hl : L.length = nL := hl
    unfold a_st1 at hs
    split at hs
    · rename_i q; omega
    · cases hs
  exact lv_astoreN C.1 C.2.1 hd h.2.2.1.2 hi rfl (fun ls' hl' => K ρ H locs cells slots ls' (a_at_lo h hg (a_lo_st1 (v := .null) h.2.2.1.1 hs hl')))
theorem as_dstore {i : Nat} {x : UInt64} {L' : List (Option Value)} (C : a_ctx p l R s m args meth c cc nL own ini F) (hd : decode cc pc = .ok (.dstore i, 2)) (hs : a_st2 L i (.double x) = some L') (hg : a_bdc (pc + 2, L', st, σ)) (K : a_W p l e R s m args below meth c Q nL n0 u0 v0 F ρ1 (pc + 2, L', st, σ)) : a_W p l e R s m args below meth c Q nL n0 u0 v0 F ρ1 (pc, L, .double x :: st, σ) := by
  intro ρ H locs cells slots ls h
  have hi : (i : Nat) + 1 < nL := by
    have hl := h.2.2.1.1
    have hl : L.length = nL := hl
    unfold a_st2 at hs
    split at hs
    · rename_i q; omega
    · cases hs
  exact lv_dstore C.1 C.2.1 hd h.2.2.1.2 hi rfl (fun ls' hl' => K ρ H locs cells slots ls' (a_at_lo h hg (a_lo_st2 (v := .double x) h.2.2.1.1 hs hl')))
theorem as_iinc {i : Nat} {n : Int} {x z : Int32} {L' : List (Option Value)} (C : a_ctx p l R s m args meth c cc nL own ini F) (hd : decode cc pc = .ok (.iinc i n, 3)) (hz : Int32.ofInt n = z) (hv : L.getD i none = some (.int x)) (hs : a_st1 L i (.int (x + z)) = some L') (hg : a_bdc (pc + 3, L', st, σ)) (K : a_W p l e R s m args below meth c Q nL n0 u0 v0 F ρ1 (pc + 3, L', st, σ)) : a_W p l e R s m args below meth c Q nL n0 u0 v0 F ρ1 (pc, L, st, σ) := by
  intro ρ H locs cells slots ls h
  have hi : i < nL := by
    have hl : L.length = nL := h.2.2.1.1
    unfold a_st1 at hs
    split at hs
    · rename_i q; omega
    · cases hs
  have hm : (i, Value.int x) ∈ a_lv ρ 0 L := a_lv_mem.mpr ⟨i, .int x, (Nat.zero_add i).symm, a_getD hv, rfl⟩
  obtain ⟨k, hk⟩ := List.getElem?_of_mem hm
  exact lv_iinc (v := x + z) C.1 C.2.1 hd h.2.2.1.2 hk (by rw [hz]) hi rfl (fun ls' hl' => K ρ H locs cells slots ls' (a_at_lo h hg (a_lo_st1 (v := .int (x + z)) h.2.2.1.1 hs hl')))
theorem as_icmp_eq {x y : Int32} {off : Int} {tgt : Nat} (C : a_ctx p l R s m args meth c cc nL own ini F) (hd : decode cc pc = .ok (.if_icmp .eq off, 3)) (ht : (pc : Int) + off = (tgt : Int)) (hg : a_bdc (pc + 3, L, st, σ)) (K : a_W p l e R s m args below meth c Q nL n0 u0 v0 F ρ1 (if a_cmp .eq x y = true then tgt else pc + 3, L, st, σ)) : a_W p l e R s m args below meth c Q nL n0 u0 v0 F ρ1 (pc, L, .int y :: .int x :: st, σ) := by
  intro ρ H locs cells slots ls h
  refine lv_icmp_eq C.1 C.2.1 hd ht (fun hc => ?_) (fun hc => ?_)
  · have e1 : (if a_cmp .eq x y = true then tgt else pc + 3) = tgt := if_pos (by simp only [a_cmp]; exact decide_eq_true (by first | exact hc | (simpa using hc)))
    rw [e1] at K
    exact K ρ H locs cells slots ls (a_at_go h hg)
  · have e1 : (if a_cmp .eq x y = true then tgt else pc + 3) = pc + 3 := if_neg (by simp only [a_cmp]; intro hz; first | exact hc (of_decide_eq_true hz) | exact (of_decide_eq_true hz) hc)
    rw [e1] at K
    exact K ρ H locs cells slots ls (a_at_go h hg)
theorem as_if_eq {x : Int32} {off : Int} {tgt : Nat} (C : a_ctx p l R s m args meth c cc nL own ini F) (hd : decode cc pc = .ok (.ifCond .eq off, 3)) (ht : (pc : Int) + off = (tgt : Int)) (hg : a_bdc (pc + 3, L, st, σ)) (K : a_W p l e R s m args below meth c Q nL n0 u0 v0 F ρ1 (if a_cmp .eq x 0 = true then tgt else pc + 3, L, st, σ)) : a_W p l e R s m args below meth c Q nL n0 u0 v0 F ρ1 (pc, L, .int x :: st, σ) := by
  intro ρ H locs cells slots ls h
  refine lv_if_eq C.1 C.2.1 hd ht (fun hc => ?_) (fun hc => ?_)
  · have e1 : (if a_cmp .eq x 0 = true then tgt else pc + 3) = tgt := if_pos (by simp only [a_cmp]; exact decide_eq_true (by first | exact hc | (simpa using hc)))
    rw [e1] at K
    exact K ρ H locs cells slots ls (a_at_go h hg)
  · have e1 : (if a_cmp .eq x 0 = true then tgt else pc + 3) = pc + 3 := if_neg (by simp only [a_cmp]; intro hz; first | exact hc (of_decide_eq_true hz) | exact (of_decide_eq_true hz) hc)
    rw [e1] at K
    exact K ρ H locs cells slots ls (a_at_go h hg)
theorem as_icmp_ne {x y : Int32} {off : Int} {tgt : Nat} (C : a_ctx p l R s m args meth c cc nL own ini F) (hd : decode cc pc = .ok (.if_icmp .ne off, 3)) (ht : (pc : Int) + off = (tgt : Int)) (hg : a_bdc (pc + 3, L, st, σ)) (K : a_W p l e R s m args below meth c Q nL n0 u0 v0 F ρ1 (if a_cmp .ne x y = true then tgt else pc + 3, L, st, σ)) : a_W p l e R s m args below meth c Q nL n0 u0 v0 F ρ1 (pc, L, .int y :: .int x :: st, σ) := by
  intro ρ H locs cells slots ls h
  refine lv_icmp_ne C.1 C.2.1 hd ht (fun hc => ?_) (fun hc => ?_)
  · have e1 : (if a_cmp .ne x y = true then tgt else pc + 3) = tgt := if_pos (by simp only [a_cmp]; exact decide_eq_true (by first | exact hc | (simpa using hc)))
    rw [e1] at K
    exact K ρ H locs cells slots ls (a_at_go h hg)
  · have e1 : (if a_cmp .ne x y = true then tgt else pc + 3) = pc + 3 := if_neg (by simp only [a_cmp]; intro hz; first | exact hc (of_decide_eq_true hz) | exact (of_decide_eq_true hz) hc)
    rw [e1] at K
    exact K ρ H locs cells slots ls (a_at_go h hg)
theorem as_if_ne {x : Int32} {off : Int} {tgt : Nat} (C : a_ctx p l R s m args meth c cc nL own ini F) (hd : decode cc pc = .ok (.ifCond .ne off, 3)) (ht : (pc : Int) + off = (tgt : Int)) (hg : a_bdc (pc + 3, L, st, σ)) (K : a_W p l e R s m args below meth c Q nL n0 u0 v0 F ρ1 (if a_cmp .ne x 0 = true then tgt else pc + 3, L, st, σ)) : a_W p l e R s m args below meth c Q nL n0 u0 v0 F ρ1 (pc, L, .int x :: st, σ) := by
  intro ρ H locs cells slots ls h
  refine lv_if_ne C.1 C.2.1 hd ht (fun hc => ?_) (fun hc => ?_)
  · have e1 : (if a_cmp .ne x 0 = true then tgt else pc + 3) = tgt := if_pos (by simp only [a_cmp]; exact decide_eq_true (by first | exact hc | (simpa using hc)))
    rw [e1] at K
    exact K ρ H locs cells slots ls (a_at_go h hg)
  · have e1 : (if a_cmp .ne x 0 = true then tgt else pc + 3) = pc + 3 := if_neg (by simp only [a_cmp]; intro hz; first | exact hc (of_decide_eq_true hz) | exact (of_decide_eq_true hz) hc)
    rw [e1] at K
    exact K ρ H locs cells slots ls (a_at_go h hg)
theorem as_icmp_lt {x y : Int32} {off : Int} {tgt : Nat} (C : a_ctx p l R s m args meth c cc nL own ini F) (hd : decode cc pc = .ok (.if_icmp .lt off, 3)) (ht : (pc : Int) + off = (tgt : Int)) (hg : a_bdc (pc + 3, L, st, σ)) (K : a_W p l e R s m args below meth c Q nL n0 u0 v0 F ρ1 (if a_cmp .lt x y = true then tgt else pc + 3, L, st, σ)) : a_W p l e R s m args below meth c Q nL n0 u0 v0 F ρ1 (pc, L, .int y :: .int x :: st, σ) := by
  intro ρ H locs cells slots ls h
  refine lv_icmp_lt C.1 C.2.1 hd ht (fun hc => ?_) (fun hc => ?_)
  · have e1 : (if a_cmp .lt x y = true then tgt else pc + 3) = tgt := if_pos (by simp only [a_cmp]; exact decide_eq_true (by first | exact hc | (simpa using hc)))
    rw [e1] at K
    exact K ρ H locs cells slots ls (a_at_go h hg)
  · have e1 : (if a_cmp .lt x y = true then tgt else pc + 3) = pc + 3 := if_neg (by simp only [a_cmp]; intro hz; first | exact hc (of_decide_eq_true hz) | exact (of_decide_eq_true hz) hc)
    rw [e1] at K
    exact K ρ H locs cells slots ls (a_at_go h hg)
theorem as_if_lt {x : Int32} {off : Int} {tgt : Nat} (C : a_ctx p l R s m args meth c cc nL own ini F) (hd : decode cc pc = .ok (.ifCond .lt off, 3)) (ht : (pc : Int) + off = (tgt : Int)) (hg : a_bdc (pc + 3, L, st, σ)) (K : a_W p l e R s m args below meth c Q nL n0 u0 v0 F ρ1 (if a_cmp .lt x 0 = true then tgt else pc + 3, L, st, σ)) : a_W p l e R s m args below meth c Q nL n0 u0 v0 F ρ1 (pc, L, .int x :: st, σ) := by
  intro ρ H locs cells slots ls h
  refine lv_if_lt C.1 C.2.1 hd ht (fun hc => ?_) (fun hc => ?_)
  · have e1 : (if a_cmp .lt x 0 = true then tgt else pc + 3) = tgt := if_pos (by simp only [a_cmp]; exact decide_eq_true (by first | exact hc | (simpa using hc)))
    rw [e1] at K
    exact K ρ H locs cells slots ls (a_at_go h hg)
  · have e1 : (if a_cmp .lt x 0 = true then tgt else pc + 3) = pc + 3 := if_neg (by simp only [a_cmp]; intro hz; first | exact hc (of_decide_eq_true hz) | exact (of_decide_eq_true hz) hc)
    rw [e1] at K
    exact K ρ H locs cells slots ls (a_at_go h hg)
theorem as_icmp_ge {x y : Int32} {off : Int} {tgt : Nat} (C : a_ctx p l R s m args meth c cc nL own ini F) (hd : decode cc pc = .ok (.if_icmp .ge off, 3)) (ht : (pc : Int) + off = (tgt : Int)) (hg : a_bdc (pc + 3, L, st, σ)) (K : a_W p l e R s m args below meth c Q nL n0 u0 v0 F ρ1 (if a_cmp .ge x y = true then tgt else pc + 3, L, st, σ)) : a_W p l e R s m args below meth c Q nL n0 u0 v0 F ρ1 (pc, L, .int y :: .int x :: st, σ) := by
  intro ρ H locs cells slots ls h
  refine lv_icmp_ge C.1 C.2.1 hd ht (fun hc => ?_) (fun hc => ?_)
  · have e1 : (if a_cmp .ge x y = true then tgt else pc + 3) = tgt := if_pos (by simp only [a_cmp]; exact decide_eq_true (by first | exact hc | (simpa using hc)))
    rw [e1] at K
    exact K ρ H locs cells slots ls (a_at_go h hg)
  · have e1 : (if a_cmp .ge x y = true then tgt else pc + 3) = pc + 3 := if_neg (by simp only [a_cmp]; intro hz; first | exact hc (of_decide_eq_true hz) | exact (of_decide_eq_true hz) hc)
    rw [e1] at K
    exact K ρ H locs cells slots ls (a_at_go h hg)
theorem as_if_ge {x : Int32} {off : Int} {tgt : Nat} (C : a_ctx p l R s m args meth c cc nL own ini F) (hd : decode cc pc = .ok (.ifCond .ge off, 3)) (ht : (pc : Int) + off = (tgt : Int)) (hg : a_bdc (pc + 3, L, st, σ)) (K : a_W p l e R s m args below meth c Q nL n0 u0 v0 F ρ1 (if a_cmp .ge x 0 = true then tgt else pc + 3, L, st, σ)) : a_W p l e R s m args below meth c Q nL n0 u0 v0 F ρ1 (pc, L, .int x :: st, σ) := by
  intro ρ H locs cells slots ls h
  refine lv_if_ge C.1 C.2.1 hd ht (fun hc => ?_) (fun hc => ?_)
  · have e1 : (if a_cmp .ge x 0 = true then tgt else pc + 3) = tgt := if_pos (by simp only [a_cmp]; exact decide_eq_true (by first | exact hc | (simpa using hc)))
    rw [e1] at K
    exact K ρ H locs cells slots ls (a_at_go h hg)
  · have e1 : (if a_cmp .ge x 0 = true then tgt else pc + 3) = pc + 3 := if_neg (by simp only [a_cmp]; intro hz; first | exact hc (of_decide_eq_true hz) | exact (of_decide_eq_true hz) hc)
    rw [e1] at K
    exact K ρ H locs cells slots ls (a_at_go h hg)
theorem as_icmp_gt {x y : Int32} {off : Int} {tgt : Nat} (C : a_ctx p l R s m args meth c cc nL own ini F) (hd : decode cc pc = .ok (.if_icmp .gt off, 3)) (ht : (pc : Int) + off = (tgt : Int)) (hg : a_bdc (pc + 3, L, st, σ)) (K : a_W p l e R s m args below meth c Q nL n0 u0 v0 F ρ1 (if a_cmp .gt x y = true then tgt else pc + 3, L, st, σ)) : a_W p l e R s m args below meth c Q nL n0 u0 v0 F ρ1 (pc, L, .int y :: .int x :: st, σ) := by
  intro ρ H locs cells slots ls h
  refine lv_icmp_gt C.1 C.2.1 hd ht (fun hc => ?_) (fun hc => ?_)
  · have e1 : (if a_cmp .gt x y = true then tgt else pc + 3) = tgt := if_pos (by simp only [a_cmp]; exact decide_eq_true (by first | exact hc | (simpa using hc)))
    rw [e1] at K
    exact K ρ H locs cells slots ls (a_at_go h hg)
  · have e1 : (if a_cmp .gt x y = true then tgt else pc + 3) = pc + 3 := if_neg (by simp only [a_cmp]; intro hz; first | exact hc (of_decide_eq_true hz) | exact (of_decide_eq_true hz) hc)
    rw [e1] at K
    exact K ρ H locs cells slots ls (a_at_go h hg)
theorem as_if_gt {x : Int32} {off : Int} {tgt : Nat} (C : a_ctx p l R s m args meth c cc nL own ini F) (hd : decode cc pc = .ok (.ifCond .gt off, 3)) (ht : (pc : Int) + off = (tgt : Int)) (hg : a_bdc (pc + 3, L, st, σ)) (K : a_W p l e R s m args below meth c Q nL n0 u0 v0 F ρ1 (if a_cmp .gt x 0 = true then tgt else pc + 3, L, st, σ)) : a_W p l e R s m args below meth c Q nL n0 u0 v0 F ρ1 (pc, L, .int x :: st, σ) := by
  intro ρ H locs cells slots ls h
  refine lv_if_gt C.1 C.2.1 hd ht (fun hc => ?_) (fun hc => ?_)
  · have e1 : (if a_cmp .gt x 0 = true then tgt else pc + 3) = tgt := if_pos (by simp only [a_cmp]; exact decide_eq_true (by first | exact hc | (simpa using hc)))
    rw [e1] at K
    exact K ρ H locs cells slots ls (a_at_go h hg)
  · have e1 : (if a_cmp .gt x 0 = true then tgt else pc + 3) = pc + 3 := if_neg (by simp only [a_cmp]; intro hz; first | exact hc (of_decide_eq_true hz) | exact (of_decide_eq_true hz) hc)
    rw [e1] at K
    exact K ρ H locs cells slots ls (a_at_go h hg)
theorem as_icmp_le {x y : Int32} {off : Int} {tgt : Nat} (C : a_ctx p l R s m args meth c cc nL own ini F) (hd : decode cc pc = .ok (.if_icmp .le off, 3)) (ht : (pc : Int) + off = (tgt : Int)) (hg : a_bdc (pc + 3, L, st, σ)) (K : a_W p l e R s m args below meth c Q nL n0 u0 v0 F ρ1 (if a_cmp .le x y = true then tgt else pc + 3, L, st, σ)) : a_W p l e R s m args below meth c Q nL n0 u0 v0 F ρ1 (pc, L, .int y :: .int x :: st, σ) := by
  intro ρ H locs cells slots ls h
  refine lv_icmp_le C.1 C.2.1 hd ht (fun hc => ?_) (fun hc => ?_)
  · have e1 : (if a_cmp .le x y = true then tgt else pc + 3) = tgt := if_pos (by simp only [a_cmp]; exact decide_eq_true (by first | exact hc | (simpa using hc)))
    rw [e1] at K
    exact K ρ H locs cells slots ls (a_at_go h hg)
  · have e1 : (if a_cmp .le x y = true then tgt else pc + 3) = pc + 3 := if_neg (by simp only [a_cmp]; intro hz; first | exact hc (of_decide_eq_true hz) | exact (of_decide_eq_true hz) hc)
    rw [e1] at K
    exact K ρ H locs cells slots ls (a_at_go h hg)
theorem as_if_le {x : Int32} {off : Int} {tgt : Nat} (C : a_ctx p l R s m args meth c cc nL own ini F) (hd : decode cc pc = .ok (.ifCond .le off, 3)) (ht : (pc : Int) + off = (tgt : Int)) (hg : a_bdc (pc + 3, L, st, σ)) (K : a_W p l e R s m args below meth c Q nL n0 u0 v0 F ρ1 (if a_cmp .le x 0 = true then tgt else pc + 3, L, st, σ)) : a_W p l e R s m args below meth c Q nL n0 u0 v0 F ρ1 (pc, L, .int x :: st, σ) := by
  intro ρ H locs cells slots ls h
  refine lv_if_le C.1 C.2.1 hd ht (fun hc => ?_) (fun hc => ?_)
  · have e1 : (if a_cmp .le x 0 = true then tgt else pc + 3) = tgt := if_pos (by simp only [a_cmp]; exact decide_eq_true (by first | exact hc | (simpa using hc)))
    rw [e1] at K
    exact K ρ H locs cells slots ls (a_at_go h hg)
  · have e1 : (if a_cmp .le x 0 = true then tgt else pc + 3) = pc + 3 := if_neg (by simp only [a_cmp]; intro hz; first | exact hc (of_decide_eq_true hz) | exact (of_decide_eq_true hz) hc)
    rw [e1] at K
    exact K ρ H locs cells slots ls (a_at_go h hg)
theorem as_goto  {off : Int} {tgt : Nat} (C : a_ctx p l R s m args meth c cc nL own ini F) (hd : decode cc pc = .ok (.goto off, 3)) (ht : (pc : Int) + off = (tgt : Int)) (hg : a_bdc (tgt, L, st, σ)) (K : a_W p l e R s m args below meth c Q nL n0 u0 v0 F ρ1 (tgt, L, st, σ)) : a_W p l e R s m args below meth c Q nL n0 u0 v0 F ρ1 (pc, L, st, σ) :=
  fun ρ H locs cells slots ls h => lv_goto C.1 C.2.1 hd ht (K ρ H locs cells slots ls (a_at_go h hg))
theorem as_ifnonnull {x : Nat} {off : Int} {tgt : Nat} (C : a_ctx p l R s m args meth c cc nL own ini F) (hd : decode cc pc = .ok (.ifnonnull off, 3)) (ht : (pc : Int) + off = (tgt : Int)) (hg : a_bdc (tgt, L, st, σ)) (K : a_W p l e R s m args below meth c Q nL n0 u0 v0 F ρ1 (tgt, L, st, σ)) : a_W p l e R s m args below meth c Q nL n0 u0 v0 F ρ1 (pc, L, .ref x :: st, σ) :=
  fun ρ H locs cells slots ls h => lv_ifnonnull C.1 C.2.1 hd ht (K ρ H locs cells slots ls (a_at_go h hg))
theorem as_ifnullN  {off : Int} {tgt : Nat} (C : a_ctx p l R s m args meth c cc nL own ini F) (hd : decode cc pc = .ok (.ifnull off, 3)) (ht : (pc : Int) + off = (tgt : Int)) (hg : a_bdc (tgt, L, st, σ)) (K : a_W p l e R s m args below meth c Q nL n0 u0 v0 F ρ1 (tgt, L, st, σ)) : a_W p l e R s m args below meth c Q nL n0 u0 v0 F ρ1 (pc, L, .null :: st, σ) :=
  fun ρ H locs cells slots ls h => lv_ifnullN C.1 C.2.1 hd ht (K ρ H locs cells slots ls (a_at_go h hg))
theorem as_ifnull {x : Nat} {off : Int} (C : a_ctx p l R s m args meth c cc nL own ini F) (hd : decode cc pc = .ok (.ifnull off, 3))  (hg : a_bdc (pc + 3, L, st, σ)) (K : a_W p l e R s m args below meth c Q nL n0 u0 v0 F ρ1 (pc + 3, L, st, σ)) : a_W p l e R s m args below meth c Q nL n0 u0 v0 F ρ1 (pc, L, .ref x :: st, σ) :=
  fun ρ H locs cells slots ls h => lv_ifnull C.1 C.2.1 hd (K ρ H locs cells slots ls (a_at_go h hg))
theorem as_ifnonnullN {off : Int} (C : a_ctx p l R s m args meth c cc nL own ini F) (hd : decode cc pc = .ok (.ifnonnull off, 3))  (hg : a_bdc (pc + 3, L, st, σ)) (K : a_W p l e R s m args below meth c Q nL n0 u0 v0 F ρ1 (pc + 3, L, st, σ)) : a_W p l e R s m args below meth c Q nL n0 u0 v0 F ρ1 (pc, L, .null :: st, σ) :=
  fun ρ H locs cells slots ls h => lv_ifnonnullN C.1 C.2.1 hd (K ρ H locs cells slots ls (a_at_go h hg))
theorem as_tsw {dflt lo hi : Int} {offs : Array Int} {len : Nat} {x : Int32} {c' : aCfg} (C : a_ctx p l R s m args meth c cc nL own ini F) (hd : decode cc pc = .ok (.tableswitch dflt lo hi offs, len)) (h0 : 0 ≤ (pc : Int) + dflt) (h1 : ∀ o ∈ offs.toList, 0 ≤ (pc : Int) + o) (hs : a_tsw pc dflt lo hi offs L (.int x :: st) σ = some (.inl c')) (hg : a_bdc c') (K : a_W p l e R s m args below meth c Q nL n0 u0 v0 F ρ1 c') : a_W p l e R s m args below meth c Q nL n0 u0 v0 F ρ1 (pc, L, .int x :: st, σ) := by
  intro ρ H locs cells slots ls h
  simp only [a_tsw] at hs
  split at hs
  · rename_i ho
    cases hs
    exact lv_tableOut C.1 C.2.1 hd ho (by omega) (K ρ H locs cells slots ls (a_at_go h hg))
  · rename_i ho
    split at hs
    · rename_i o hoff
      cases hs
      have hm : o ∈ offs.toList := by
        have := Array.mem_of_getElem? hoff
        exact Array.mem_toList_iff.mpr this
      have := h1 o hm
      exact lv_tableIn C.1 C.2.1 hd (fun z => ho (Or.inl z)) (fun z => ho (Or.inr z)) hoff (by omega) (K ρ H locs cells slots ls (a_at_go h hg))
    · cases hs
theorem as_i2b {x : Int32} (C : a_ctx p l R s m args meth c cc nL own ini F) (hd : decode cc pc = .ok (.i2b, 1)) (hg : a_bdc (pc + 1, L, .int x.toInt8.toInt32 :: st, σ)) (K : a_W p l e R s m args below meth c Q nL n0 u0 v0 F ρ1 (pc + 1, L, .int x.toInt8.toInt32 :: st, σ)) : a_W p l e R s m args below meth c Q nL n0 u0 v0 F ρ1 (pc, L, .int x :: st, σ) :=
  fun ρ H locs cells slots ls h => lv_i2b C.1 C.2.1 hd rfl (K ρ H locs cells slots ls (a_at_go h hg))
theorem as_iushr {x y : Int32} (C : a_ctx p l R s m args meth c cc nL own ini F) (hd : decode cc pc = .ok (.iushr, 1)) (hg : a_bdc (pc + 1, L, .int (x.toUInt32 >>> (y.toUInt32 &&& Int32.toUInt32 31)).toInt32 :: st, σ)) (K : a_W p l e R s m args below meth c Q nL n0 u0 v0 F ρ1 (pc + 1, L, .int (x.toUInt32 >>> (y.toUInt32 &&& Int32.toUInt32 31)).toInt32 :: st, σ)) : a_W p l e R s m args below meth c Q nL n0 u0 v0 F ρ1 (pc, L, .int y :: .int x :: st, σ) :=
  fun ρ H locs cells slots ls h => lv_iushr C.1 C.2.1 hd rfl (K ρ H locs cells slots ls (a_at_go h hg))
theorem as_gets {ix : Nat} {Cn n d : String} {z : Int32} (C : a_ctx p l R s m args meth c cc nL own ini F) (hd : decode cc pc = .ok (.getstatic ix, 3)) (hw : Jvm.Cond.fieldLink own ix Cn n d ∈ am_ws) (hZ : ∀ (U : State) (H : Heap), f_X F U H → va_Z Cn n d (.int z) (f_A F) U H) (hg : a_bdc (pc + 3, L, .int z :: st, σ)) (K : a_W p l e R s m args below meth c Q nL n0 u0 v0 F ρ1 (pc + 3, L, .int z :: st, σ)) : a_W p l e R s m args below meth c Q nL n0 u0 v0 F ρ1 (pc, L, st, σ) := by
  intro ρ H locs cells slots ls h
  have hS0 : va_S (f_A F) s.heap H locs := h.2.2.2.1
  obtain ⟨hx, hb, hml, hown, hts, hE, -⟩ := C
  exact va_gets hx hb (hZ s s.heap hE.2.2.2.2.2.2.2) hS0 hown (hts _ hw) (fun _ q => q) hd (K ρ H locs cells slots ls (a_at_go h hg))
theorem as_getsN {ix : Nat} {Cn n d : String} (C : a_ctx p l R s m args meth c cc nL own ini F) (hd : decode cc pc = .ok (.getstatic ix, 3)) (hw : Jvm.Cond.fieldLink own ix Cn n d ∈ am_ws) (hZ : ∀ (U : State) (H : Heap), f_X F U H → va_Z Cn n d .null (f_A F) U H) (hg : a_bdc (pc + 3, L, .null :: st, σ)) (K : a_W p l e R s m args below meth c Q nL n0 u0 v0 F ρ1 (pc + 3, L, .null :: st, σ)) : a_W p l e R s m args below meth c Q nL n0 u0 v0 F ρ1 (pc, L, st, σ) := by
  intro ρ H locs cells slots ls h
  have hS0 : va_S (f_A F) s.heap H locs := h.2.2.2.1
  obtain ⟨hx, hb, hml, hown, hts, hE, -⟩ := C
  exact va_gets hx hb (hZ s s.heap hE.2.2.2.2.2.2.2) hS0 hown (hts _ hw) (fun _ q => q) hd (K ρ H locs cells slots ls (a_at_go h hg))
theorem as_ineg {x : Int32} (C : a_ctx p l R s m args meth c cc nL own ini F) (hd : decode cc pc = .ok (.ineg, 1)) (hg : a_bdc (pc + 1, L, .int (-x) :: st, σ)) (K : a_W p l e R s m args below meth c Q nL n0 u0 v0 F ρ1 (pc + 1, L, .int (-x) :: st, σ)) : a_W p l e R s m args below meth c Q nL n0 u0 v0 F ρ1 (pc, L, .int x :: st, σ) :=
  fun ρ H locs cells slots ls h => lv_ineg C.1 C.2.1 hd (K ρ H locs cells slots ls (a_at_go h hg))
theorem as_getsR {ix k : Nat} {Cn n d : String} (C : a_ctx p l R s m args meth c cc nL own ini F) (hd : decode cc pc = .ok (.getstatic ix, 3)) (hw : Jvm.Cond.fieldLink own ix Cn n d ∈ am_ws) (hk : k < 100) (hZ : ∀ (U : State) (H : Heap), f_X F U H → va_Z Cn n d (.ref (f_r F k)) (f_A F) U H) (hg : a_bdc (pc + 3, L, .ref k :: st, σ)) (K : a_W p l e R s m args below meth c Q nL n0 u0 v0 F ρ1 (pc + 3, L, .ref k :: st, σ)) : a_W p l e R s m args below meth c Q nL n0 u0 v0 F ρ1 (pc, L, st, σ) := by
  intro ρ H locs cells slots ls h
  have hS0 : va_S (f_A F) s.heap H locs := h.2.2.2.1
  have hh : a_hp F ρ σ H := h.1
  obtain ⟨hx, hb, hml, hown, hts, hE, -⟩ := C
  have K' := K ρ H locs cells slots ls (a_at_go h hg)
  have e1 : ((pc + 3, L, Value.ref k :: st, σ) : aCfg).2.2.1.map (a_vm ρ) = .ref (f_r F k) :: st.map (a_vm ρ) := by
    show Value.ref (ρ k) :: _ = _
    rw [hh.1 k hk]
  rw [e1] at K'
  exact va_gets hx hb (hZ s s.heap hE.2.2.2.2.2.2.2) hS0 hown (hts _ hw) (fun _ q => q) hd K'
end ASND
