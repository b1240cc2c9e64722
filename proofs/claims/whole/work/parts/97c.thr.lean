/-! THROWS of a class whose constructor names its superclass's constructor at a place of its own. vy_chain, vy_ctor follow proofs of the library with one case more: JvmDerived/BundleChainS.lean, BundleOwnThrow.lean, Shelf42/F29a.lean. -/
def vy_ch (X : String) (iy : Nat) (rx9 : ByteArray) : List String → List Jvm.Cond
  | [] => Bundle.passSAtoms X Bundle.tN iy rx9
  | Y :: r => Bundle.passSAtoms X Y iy rx9 ++ Bundle.chainSAtoms Y r
theorem vy_chain {args : Array Value} {s : State} {pl : Platform} (hpl : pl.magicAccessors = ({} : Platform).magicAccessors) {top : MethodId} (htop : s.methodNamed? (Bundle.initS Bundle.tN) = some top)
    {iy : Nat} {rx9 : ByteArray} (x0 : decode rx9 0 = .ok (.aload_n 0, 1)) (x1 : decode rx9 1 = .ok (.aload_n 1, 1)) (x29 : decode rx9 2 = .ok (.invokespecial iy, 3)) (x59 : decode rx9 5 = .ok (.return_, 1)) :
    ∀ (names : List String) (X : String), Bundle.fit X = true → (∀ n ∈ names, Bundle.fit n = true) → (∀ c ∈ vy_ch X iy rx9 names, c.before args s = true) →
      ∃ (P19 : PassC) (Ps9 : List PassC), Ps9.length = names.length ∧ P19.LinksS pl s ∧ (∀ P, P ∈ Ps9 → P.LinksS pl s) ∧ s.methodNamed? (Bundle.initS X) = some P19.m ∧
        P19.sup = firstOf top (Ps9.map (·.toPassT)) ∧ PassesOn top (Ps9.map (·.toPassT)) := by
  intro names
  cases names with
  | nil =>
    intro X hX _ h
    obtain ⟨P, L, hm9, hs⟩ := PassC.ofS_atoms (args := args) (s := s) hpl (X := X) (Y := Bundle.tN) (Bundle.fit_spec hX).1 (by decide) x0 x1 x29 x59 h
    exact ⟨P, [], rfl, L, (fun _ hP => by cases hP), hm9, Option.some.inj (hs.symm.trans htop), trivial⟩
  | cons Y r =>
    intro X hX hn h
    obtain ⟨P, L, hm9, hs⟩ := PassC.ofS_atoms (args := args) (s := s) hpl (X := X) (Y := Y) (Bundle.fit_spec hX).1 (Bundle.fit_spec (hn Y List.mem_cons_self)).2 x0 x1 x29 x59
      (fun c hc9 => h c (by simp only [vy_ch, List.mem_append]; exact Or.inl hc9))
    obtain ⟨Pz9, Ps9, hlen, L', hL, hm', hsup, hpass⟩ := Bundle.chainS (args := args) hpl htop r Y (hn Y List.mem_cons_self) (fun n hn' => hn n (List.mem_cons_of_mem _ hn')) (fun c hc9 => h c (by simp only [vy_ch, List.mem_append]; exact Or.inr hc9))
    refine ⟨P, Pz9 :: Ps9, by simp [hlen], L, ?_, hm9, Option.some.inj (hs.symm.trans hm'), hsup, hpass⟩
    intro Q hQ
    rcases List.mem_cons.mp hQ with rfl | hQ
    · exact L'
    · exact hL Q hQ
def vy_own (own : String) (ic : Nat) (X : String) (iy : Nat) (rx9 : ByteArray) (names : List String) : List Jvm.Cond :=
  Bundle.throwableAtoms ++ Bundle.throwableSAtoms ++ vy_ch X iy rx9 names ++
  [.methodLink own ic (Bundle.initS X), .instantiable X 6, .castable X X, .selects X Bundle.tFill0 Bundle.tFill0, .selects X Bundle.tFill Bundle.tFill,
   .lays X Bundle.tN "cause" "Ljava/lang/Throwable;", .lays X Bundle.tN "stackTrace" Bundle.steD, .lays X Bundle.tN "suppressedExceptions" Bundle.listD, .lays X Bundle.tN "detailMessage" "Ljava/lang/String;",
   .isRef (.static Bundle.tN "UNASSIGNED_STACK" Bundle.steD), .isRef (.static Bundle.tN "SUPPRESSED_SENTINEL" Bundle.listD),
   .fieldLink Bundle.tN 198 Bundle.tN "backtrace" "Ljava/lang/Object;", .lays Bundle.tN Bundle.tN "backtrace" "Ljava/lang/Object;", .lays X Bundle.tN "backtrace" "Ljava/lang/Object;"]
def vy_atS (own : String) (ic : Nat) (X : String) (iy : Nat) (rx9 : ByteArray) (names : List String) : List Jvm.Cond := (vy_own own ic X iy rx9 names).filter vx_no

section VYC
variable {p : Program} {l : Launch} {e : Env} {R : Room} {s : State} {m₀ : MethodId} {args : Array Value} {below : List Frame} {meth : Method} {c : Code} {W : State} {locs : List Loc} {cells slots : Nat}
set_option maxHeartbeats 1000000 in
theorem vy_ctor (X : Stand p l e R s m₀ args below meth c W locs cells slots) (hexec : p.tables.exec = Jvm.exec) (htr : e.platform.stackTraces = false) {own cls : String} {names : List String} {ic iy : Nat} {rx9 : ByteArray} (x0 : decode rx9 0 = .ok (.aload_n 0, 1)) (x1 : decode rx9 1 = .ok (.aload_n 1, 1)) (x29 : decode rx9 2 = .ok (.invokespecial iy, 3)) (x59 : decode rx9 5 = .ok (.return_, 1))
    (hown : s.vm.findClass own = some m₀.cls) (hcls : Bundle.fit cls = true) (hnames : ∀ n ∈ names, Bundle.fit n = true)
    (h : ∀ a ∈ vy_own own ic cls iy rx9 names, a.before args s = true)
    (hlocs : ∀ x ∈ locs, ∀ cell, s.heap[x.base]? = some cell → cell.vm.isStatics = false)
    {a : Addr} {cX : ClassId} {kX : Class} (hfoundX : s.vm.findClass cls = some cX) (hkX : s.vm.classes[cX]? = some kX) (hcell : W.heap[a]? = some (freshCell cX kX)) (hnew : s.heap.size ≤ a)
    {msg : Value} (hmsg : msg.isRef = true)
    {g : JFrame} (hg : g.method = m₀) (hsize : g.locals.size = c.maxLocals) (hlocked : g.locked = none) (hentered : g.entered = []) {rest : List Value} (hstack : g.stack = msg :: .ref a :: .ref a :: rest)
    (hd6 : decode c.code g.pc = .ok (.invokespecial ic, 3)) (hd9 : decode c.code (g.pc + 3) = .ok (.athrow, 1)) (hout : ∀ x ∈ c.exceptionTable.toList, covers x (g.pc + 3) = false)
    (hRframes : names.length + 3 < R.frames) (hRlocals : 2 * g.monitorRoom + ((Value.ref a :: rest).map fun v => v.category).sum + (13 * (names.length + 1) + 42) ≤ R.locals) (hlocks : meth.locks = false) :
    ∃ U : State, Steps p.tables e below (W.setTop g) U ∧ U.status = .running ∧ Ended U below (.threw a) ∧ s.WarmedH U.vm ∧ s.sameButNew ({ U with vm := s.vm } : State) locs cells slots ∧
      ∃ ce, U.heap[a]? = some ce ∧ Bundle.OwnCell args s cls a msg ce := by
  have howns : e.platform.frameOwnsMonitors = true := by rw [X.admits.platform]
  have hfin : e.platform.finalization = false := by rw [X.admits.platform]
  have hpl : e.platform.magicAccessors = ({} : Platform).magicAccessors := by rw [X.admits.platform]
  have a' : ∀ x, x ∈ vy_own own ic cls iy rx9 names → x.holds args s none s [] = true := fun x hx => h x hx
  obtain ⟨T, Z0, L, -, Y⟩ := ThrowableC.of_atoms (args := args) howns hfin hpl (fun x hx => h x (by simp [vy_own, hx]))
  obtain ⟨Z, M, LZ, LM, hnZ⟩ := Init0T.ofS_atoms (args := args) hpl L Y (fun x hx => h x (by simp [vy_own, hx]))
  obtain ⟨P19, Ps9, hlen, L1, hL, hP1m, hlink1, hlink⟩ := vy_chain (args := args) hpl hnZ x0 x1 x29 x59 names cls hcls hnames (fun x hx => h x (by simp [vy_own, hx]))
  have hfound : s.vm.findClass cls = some P19.m.cls := findClass_of_methodNamed hP1m
  cases Option.some.inj (hfoundX.symm.trans hfound)
  obtain ⟨c1, kX', hc1, hk, hord, -, -, hn6⟩ := Cond.instantiable_spec (a' (.instantiable cls 6) (by simp [vy_own]))
  cases Option.some.inj (hc1.symm.trans hfound)
  cases Option.some.inj (hkX.symm.trans hk)
  have hsel0 : selectMethod e.platform s.vm P19.m.cls T.fill0 = .method T.fill0 := by
    obtain ⟨c2, r2, m2, q1, q2, q39, q49, -⟩ := Cond.selects_spec (a' (.selects cls Bundle.tFill0 Bundle.tFill0) (by simp [vy_own]))
    cases Option.some.inj (q1.symm.trans hfound)
    cases Option.some.inj (q2.symm.trans (State.methodFound?_of_named Y.fill0 (by decide)))
    cases Option.some.inj (q39.symm.trans Y.fill0)
    rw [Launch.admits_selectMethod X.admits]; exact q49
  have hselF : selectMethod e.platform s.vm P19.m.cls T.fill = .method T.fill := by
    obtain ⟨c2, r2, m2, q1, q2, q39, q49, -⟩ := Cond.selects_spec (a' (.selects cls Bundle.tFill Bundle.tFill) (by simp [vy_own]))
    cases Option.some.inj (q1.symm.trans hfound)
    cases Option.some.inj (q2.symm.trans (State.methodFound?_of_named Y.fill (by decide)))
    cases Option.some.inj (q39.symm.trans Y.fill)
    rw [Launch.admits_selectMethod X.admits]; exact q49
  obtain ⟨cellS0, hcS0, hiss⟩ := Y.statics
  obtain ⟨u0, hu0⟩ := Cond.staticRefV Y.unassigned L.unassignedStatic L.statics hcS0 hiss (a' (.isRef (.static Bundle.tN "UNASSIGNED_STACK" Bundle.steD)) (by simp [vy_own]))
  obtain ⟨sen, hsen⟩ := Cond.staticRefV Y.sentinel L.sentinelStatic L.statics hcS0 hiss (a' (.isRef (.static Bundle.tN "SUPPRESSED_SENTINEL" Bundle.listD)) (by simp [vy_own]))
  obtain ⟨ci198, i198, fB9, hk198, hg198, ha198, hsB, -, hnB, htB, hffB⟩ := Cond.ownField (t := .object "java/lang/Object") Y.found L.cls (by decide +kernel) (a' (.fieldLink Bundle.tN 198 Bundle.tN "backtrace" "Ljava/lang/Object;") (by simp [vy_own])) (a' (.lays Bundle.tN Bundle.tN "backtrace" "Ljava/lang/Object;") (by simp [vy_own])) e.platform hpl
  obtain ⟨cellS, hcS', heS, -, hkeep⟩ := X.same.2.2.2.2.2 T.aS cellS0 hcS0
  have hcellS : W.heap[T.aS]? = some cellS := hcS'
  have hout' : ∀ i, (⟨T.aS, i⟩ : Loc) ∉ locs := fun i hmem => by
    have := hlocs _ hmem cellS0 hcS0
    rw [hiss] at this; cases this
  have hknownS : cellS.vm ≠ .unknown := by
    rw [heS]; intro hu
    rw [show cellS0.vm = .unknown from hu] at hiss
    cases hiss
  have hneS : T.aS ≠ a := Nat.ne_of_lt (Nat.lt_of_lt_of_le (Array.getElem?_eq_some_iff.mp hcS0).1 hnew)
  obtain ⟨iM, hffM⟩ := Y.msg
  obtain ⟨tyC, dC, hdC, hdnC⟩ := Cond.laysAt hfound hk Y.cause (a' (.lays cls Bundle.tN "cause" "Ljava/lang/Throwable;") (by simp [vy_own]))
  obtain ⟨tyS, dS, hdS, hdnS⟩ := Cond.laysAt hfound hk Y.stack (a' (.lays cls Bundle.tN "stackTrace" Bundle.steD) (by simp [vy_own]))
  obtain ⟨tyP, dP, hdP, hdnP⟩ := Cond.laysAt hfound hk Y.supp (a' (.lays cls Bundle.tN "suppressedExceptions" Bundle.listD) (by simp [vy_own]))
  obtain ⟨tyM, dM, hdM, hdnM⟩ := Cond.laysAt hfound hk hffM (a' (.lays cls Bundle.tN "detailMessage" "Ljava/lang/String;") (by simp [vy_own]))
  obtain ⟨tyB, dB, hdB, hdnB⟩ := Cond.laysAt hfound hk hffB (a' (.lays cls Bundle.tN "backtrace" "Ljava/lang/Object;") (by simp [vy_own]))
  have bC := Cond.laysApart hdB hdC hdnB hdnC (by rw [hnB, Y.causeName]; decide)
  have bS := Cond.laysApart hdB hdS hdnB hdnS (by rw [hnB, Y.stackName]; decide)
  have bP := Cond.laysApart hdB hdP hdnB hdnP (by rw [hnB, Y.suppName]; decide)
  have hskip : SkipFacts T e.platform s (fun u => u) u0 ((preparedCellV T.toThrowableT (freshCell P19.m.cls kX) a u0 sen).withEntry W.cur) :=
    ⟨{ ci198 := ci198, i198 := i198, fBack := fB9 }, ⟨hk198, hg198, ha198, hsB⟩, by
      have := fresh_default (c := P19.m.cls) tyB
      rw [htB] at this
      simpa [preparedCellV, Cell.setSlot, Cell.withEntry, Array.getElem?_setIfInBounds, bC, bS, bP, bC.symm, bS.symm, bP.symm, defaultValue] using this, fun _ _ => rfl⟩
  obtain ⟨tm, methC, cdC, kC, vm₁, hnC, -, -, -, -, -, -, -, hW₁, st1⟩ := Steps.initColdS (tb := p.tables) (e := e) (below := below) (s := s) (U := W) X.here hexec X.warmed hpl hown (t := Bundle.initS cls) rfl rfl (Bundle.fit_spec hcls).2
    (a' (.methodLink own ic (Bundle.initS cls)) (by simp [vy_own])) (h (.instanceMethod (Bundle.initS cls)) (by cases names <;> simp [vy_own, vy_ch, Bundle.passSAtoms])) (bytes := rx9) (maxL := 2) (h (.code (Bundle.initS cls) rx9 2 none) (by cases names <;> simp [vy_own, vy_ch, Bundle.passSAtoms]))
    (f := g) hg (a := a) (msg := msg) (rest := .ref a :: rest) hstack hd6
  cases Option.some.inj (hnC.symm.trans hP1m)
  have X₁ := X.noted hW₁
  obtain ⟨vm₂, X₂, st29⟩ := X₁.ctorMessageOffV hexec (g := { g with stack := .ref a :: rest }) hg hsize T L Z LZ M LM (P19 :: Ps9)
    (fun P hP => by rcases List.mem_cons.mp hP with rfl | hP; exact L1; exact hL P hP) ⟨hlink1, hlink⟩ (u0 := u0) (sen := sen) (self := a) hmsg (cell := freshCell P19.m.cls kX) (cellS := cellS)
    hcell (fun _ => by simp) (by simp) rfl rfl hsel0 hselF hcellS hneS hknownS (by rw [hkeep _ (hout' _)]; exact hu0) (by rw [hkeep _ (hout' _)]; exact hsen)
    (Takes.of_laid hk hord tyC (by rw [Y.causeType]; rfl)) (Takes.of_laid hk hord tyS (by rw [Y.stackType]; exact fits_refV_array _ u0)) (Takes.of_laid hk hord tyP (by rw [Y.suppType]; exact fits_refV_object _ sen))
    (Takes.of_laid hk hord tyM (by rw [Y.msgType]; exact fits_refV_object _ ⟨msg, hmsg⟩)) Y.objLocals hskip htr [] hd6
    (by simp only [List.length_cons, hlen]; omega) (by simp only [List.length_cons, hlen]; exact hRlocals)
  obtain ⟨hwalk, hrun, hended, hWU, hsame⟩ := X₂.athrowLeaves hexec (g := { g with stack := .ref a :: rest, pc := g.pc + 3 }) hg hlocked hentered hout (a := a) (rest := rest) rfl hd9
  obtain ⟨c3, c4, hc3, hc4, hasg⟩ := Cond.castable_spec (a' (.castable cls cls) (by simp [vy_own]))
  cases Option.some.inj (hc3.symm.trans hfound)
  cases Option.some.inj (hc4.symm.trans hfound)
  have hlt : a < ((W.setVm vm₁).setVm vm₂).heap.size := (Array.getElem?_eq_some_iff.mp hcell).1
  have hU := heapAt_setCell_self (s := (W.setVm vm₁).setVm vm₂) (plainBareV T.toThrowableT (freshCell P19.m.cls kX) a u0 sen msg) hlt
  have hnM : T.fMsg.name = "detailMessage" := (State.fieldFound?_type hffM (t := .object "java/lang/String") (by decide +kernel)).1
  have nCS := Cond.laysApart hdC hdS hdnC hdnS (by rw [Y.causeName, Y.stackName]; decide)
  have nCP := Cond.laysApart hdC hdP hdnC hdnP (by rw [Y.causeName, Y.suppName]; decide)
  have nCM := Cond.laysApart hdC hdM hdnC hdnM (by rw [Y.causeName, hnM]; decide)
  have nSP := Cond.laysApart hdS hdP hdnS hdnP (by rw [Y.stackName, Y.suppName]; decide)
  have nSM := Cond.laysApart hdS hdM hdnS hdnM (by rw [Y.stackName, hnM]; decide)
  have nPM := Cond.laysApart hdP hdM hdnP hdnM (by rw [Y.suppName, hnM]; decide)
  have lC : T.fCause.slot < kX.instanceTypes.size := (Array.getElem?_eq_some_iff.mp tyC).1
  have lS : T.fStack.slot < kX.instanceTypes.size := (Array.getElem?_eq_some_iff.mp tyS).1
  have lP : T.fSupp.slot < kX.instanceTypes.size := (Array.getElem?_eq_some_iff.mp tyP).1
  have lM : T.fMsg.slot < kX.instanceTypes.size := (Array.getElem?_eq_some_iff.mp tyM).1
  have evU : ∀ o, (Term.static Bundle.tN "UNASSIGNED_STACK" Bundle.steD).eval args s o [] s = some u0.v := by
    intro o
    simp [Term.eval, State.fieldNamed?, Y.unassigned, L.unassignedStatic, L.statics, hcS0, hiss, hu0]
  have evS : ∀ o, (Term.static Bundle.tN "SUPPRESSED_SENTINEL" Bundle.listD).eval args s o [] s = some sen.v := by
    intro o
    simp [Term.eval, State.fieldNamed?, Y.sentinel, L.sentinelStatic, L.statics, hcS0, hiss, hsen]
  refine ⟨_, st1 _ (fun acts => ?_), hrun, hended, hWU, hsame.weaken (fun y hy hlt' => ?_) (Nat.le_refl _) (Nat.le_refl _), _, hU, ?_⟩
  · rw [doInvoke_state]
    exact st29 _ hwalk
  · rcases List.mem_append.mp hy with h1 | h1
    · exact h1
    · exfalso
      have hb : y.base = a := by
        simp only [List.mem_cons, List.not_mem_nil, or_false] at h1
        rcases h1 with rfl | rfl | rfl | rfl | rfl <;> rfl
      rw [hb] at hlt'
      exact Nat.not_lt.mpr hnew hlt'
  · exact { cls := hfound, self := hasg, monitor := rfl, hash := rfl, vm := rfl, size := by simp [plainBareV, preparedCellV, Cell.setSlot, hn6]
            cause := ⟨_, _, _, _, Y.cause, by simp [plainBareV, preparedCellV, Cell.setSlot, nCS.symm, nCP.symm, nCM.symm, lC]⟩
            stack := ⟨_, _, _, _, u0, Y.stack, by simp [plainBareV, preparedCellV, Cell.setSlot, nSM.symm, lS], evU⟩
            supp := ⟨_, _, _, _, sen, Y.supp, by simp [plainBareV, preparedCellV, Cell.setSlot, nSP, nPM.symm, lP], evS⟩
            msg := ⟨_, _, _, _, hffM, by simp [plainBareV, preparedCellV, Cell.setSlot, lM]⟩
            other := fun O f d c k i fd9 hf hy n1 n2 n3 n4 => by
              obtain ⟨ty, dd, hdd, hddn⟩ := Cond.laysAt hfound hk hf hy
              have m1 := Cond.laysApart hdd hdC hddn hdnC (by rw [Y.causeName]; exact n1)
              have m2 := Cond.laysApart hdd hdS hddn hdnS (by rw [Y.stackName]; exact n2)
              have m3 := Cond.laysApart hdd hdP hddn hdnP (by rw [Y.suppName]; exact n3)
              have m4 := Cond.laysApart hdd hdM hddn hdnM (by rw [hnM]; exact n4)
              have := fresh_default (c := P19.m.cls) ty
              simpa [plainBareV, preparedCellV, Cell.setSlot, Array.getElem?_setIfInBounds, m1, m2, m3, m4, m1.symm, m2.symm, m3.symm, m4.symm] using this }
end VYC
section VYE
variable {p : Program} {l : Launch} {e : Env} {R : Room} {s : State} {m : MethodId} {args : Array Value} {below : List Frame} {meth : Method} {c : Code} {H : Heap} {locs : List Loc} {cells slots : Nat} {Q : State → Prop}
variable {mc9 ms : Nat} {free : Addr → Prop} {A0 A1 : Nat → Prop} {H0 : Heap} {a : Array Value} {ls : Array Slot} {st0 rest : List Value}
variable {Qc : Array Value → State → Outcome → State → Prop} {XC : String → State → State → Prop}
theorem vy_throwS {cc : ByteArray} {pc : Nat} (hexec : p.tables.exec = Jvm.exec) (hb : c.code = cc) (hl : l.stackTraces = false) {own cls text : String} {names : List String} {ik is ic mc9 ms sa : Nat} {A : Nat → Prop} {iy : Nat} {rx9 : ByteArray} (x0 : decode rx9 0 = .ok (.aload_n 0, 1)) (x1 : decode rx9 1 = .ok (.aload_n 1, 1)) (x29 : decode rx9 2 = .ok (.invokespecial iy, 3)) (x59 : decode rx9 5 = .ok (.return_, 1))
    (hown : s.vm.findClass own = some m.cls) (hcls : Bundle.fit cls = true) (hnames : ∀ n ∈ names, Bundle.fit n = true)
    (hk : (Cond.classLink own ik cls).before args s = true) (hini : (Cond.initialized cls).before args s = true) (hstr : vk_R own is text sa s) (hat : ∀ w ∈ vy_atS own ic cls iy rx9 names, w.before args s = true)
    (hgood : ∀ w ∈ Cond.classLink own ik cls :: Cond.initialized cls :: vy_atS own ic cls iy rx9 names, vx_ot w = true)
    (hU : vx_Zq Bundle.tN "UNASSIGNED_STACK" Bundle.steD A s s.heap) (hN9 : vx_Zq Bundle.tN "SUPPRESSED_SENTINEL" Bundle.listD A s s.heap) (hS9 : va_S A s.heap H locs) (hsize : ls.size = c.maxLocals)
    (d0 : decode cc pc = .ok (.new ik, 3)) (d3 : decode cc (pc + 3) = .ok (.dup, 1)) (d4 : decode cc (pc + 4) = .ok (.ldc is, 2)) (d6 : decode cc (pc + 6) = .ok (.invokespecial ic, 3)) (d9 : decode cc (pc + 9) = .ok (.athrow, 1))
    (hout : ∀ x ∈ c.exceptionTable.toList, covers x (pc + 9) = false)
    (hRframes : names.length + 3 < R.frames) (hRlocals : (rest.map fun v => v.category).sum + (13 * (names.length + 1) + 43) ≤ R.locals) (hRcells : cells + 1 ≤ R.cells) (hRslots : slots + 6 ≤ R.slots) (hlocks : meth.locks = false)
    (hx : ∀ t : State, s.vm.Alike t.vm → H.size ≤ t.heap.size → (∀ q : Nat, q < H.size → t.heap[q]? = H[q]?) → XC cls s t)
    (hf : ∀ z ∈ locs, free z.base) (hc9 : cells + 1 ≤ mc9) (hs : slots + 6 ≤ ms) :
    W p l e R s m args below meth c H locs cells slots (vx_MQ below Qc XC args s mc9 ms free) (F0 m pc ls rest) := by
  intro T hT9 X
  have htr : e.platform.stackTraces = false := (show e.platform.stackTraces = l.stackTraces by rw [X.admits.platform]).trans hl
  have Y := vx_rebase X (R' := { frames := R.frames, locals := R.locals, cells := 1, slots := 6 }) (Nat.le_refl _) (Nat.le_refl _) hRcells hRslots
  obtain ⟨s', hA⟩ : ∃ z, z = (T.setVm s.vm).setFrames (.invoking m args :: below) := ⟨_, rfl⟩
  rw [← hA] at Y
  have hvm : s'.vm = s.vm := by rw [hA]; rfl
  have hhp : s'.heap = H := by rw [hA]; exact hT9
  have hW0 : s.WarmedH s'.vm := by rw [hvm]; exact State.WarmedH.refl s
  have hat' : ∀ w ∈ vy_atS own ic cls iy rx9 names, w.before args s' = true := fun w hw => vx_ot_at hW0 hvm.symm (hgood w (List.mem_cons_of_mem _ (List.mem_cons_of_mem _ hw))) (hat w hw)
  have hk' : (Cond.classLink own ik cls).before args s' = true := vx_ot_at hW0 hvm.symm (hgood _ List.mem_cons_self) hk
  have hini' : (Cond.initialized cls).before args s' = true := vx_ot_at hW0 hvm.symm (hgood _ (List.mem_cons_of_mem _ List.mem_cons_self)) hini
  have hU' : vx_Zq Bundle.tN "UNASSIGNED_STACK" Bundle.steD A s' s'.heap := by rw [hhp]; exact vx_Zq.moved hW0.alike (hU.kept hS9.2.1)
  have hN' : vx_Zq Bundle.tN "SUPPRESSED_SENTINEL" Bundle.listD A s' s'.heap := by rw [hhp]; exact vx_Zq.moved hW0.alike (hN9.kept hS9.2.1)
  have h : ∀ w ∈ vy_own own ic cls iy rx9 names, w.before args s' = true := vx_own hat' (vx_isRefq hU'.1) (vx_isRefq hN'.1) hU'.2.word hN'.2.word
  have hown' : s'.vm.findClass own = some m.cls := by rw [hvm]; exact hown
  have hins : (Cond.instantiable cls 6).before args s' = true := h _ (by simp [vy_own])
  obtain ⟨vm₁, cX, kX, hfX, hkX, -, -, X₁, st1⟩ := Y.newCold hexec (own := own) (C := cls) (index := ik) (n := 6) hown' hk' hins hini'
    (g := F0 m pc ls rest) rfl (by rw [hb]; exact d0) (Nat.le_refl _) (Nat.le_refl _)
  generalize hT1 : (T.setVm vm₁).pushCell { cls := cX, slots := kX.instanceTypes.map defaultValue, vm := .none } = T1 at X₁ st1
  have hcat : (Value.ref T.heap.size).category = 1 := rfl
  have hcellA : T1.heap[T.heap.size]? = some (freshCell cX kX) := by rw [← hT1]; exact State.heap_pushCell_size _ _
  have d3' : decode c.code (pc + 3) = .ok (.dup, 1) := by rw [hb]; exact d3
  have d4' : decode c.code (pc + 4) = .ok (.ldc is, 2) := by rw [hb]; exact d4
  have hstr' : vk_R own is text sa s' := vk_R.warm hW0 hstr
  obtain ⟨U, hsteps, hrun, hend, hW, hsame, ce, hce, hO⟩ := vy_ctor X₁ hexec htr x0 x1 x29 x59 (own := own) (cls := cls) (names := names) (ic := ic) hown' hcls hnames h (fun x hx => nomatch hx) hfX hkX hcellA (by rw [hhp, hT9]; exact Nat.le_refl _) (msg := .ref sa) rfl
    (g := { method := m, pc := pc + 6, locals := ls, stack := .ref sa :: .ref T.heap.size :: .ref T.heap.size :: rest, locked := none }) rfl hsize rfl rfl (rest := rest) rfl
    (by rw [hb]; exact d6) (by rw [hb]; exact d9) hout hRframes (by simp only [List.map_cons, List.sum_cons, hcat]; omega) hlocks
  obtain ⟨f1, f2⟩ := vx_frame hsame
  rw [hhp] at f1 f2
  have hWs : s.WarmedH U.vm := State.WarmedH.trans hW0 hW
  have hcl : s.vm.findClass cls = some ce.cls := by
    have h9 := hO.cls
    rw [hvm] at h9
    exact h9
  have hall : s.sameButNew ({ U with vm := s.vm } : State) locs mc9 ms := by
    subst hA
    obtain ⟨e19, e29⟩ := hsame
    rw [State.setFrames_setFrames] at e19
    have h2 : (T.setVm s.vm).sameButNew ({ U with vm := s.vm } : State) [] (0 + 1) (0 + 6) := ⟨e19, e29⟩
    have h3 := X.same.trans h2
    rw [List.append_nil] at h3
    exact h3.mono hc9 hs
  refine ⟨U, ?_, .threw T.heap.size, hrun, hend, Or.inr ⟨T.heap.size, rfl, cls, ce, locs, hx U hWs.alike f1 (fun q hq => f2 q hq (fun z hz => nomatch hz)), hce, hO.vm, hcl, hWs, hall, hf⟩⟩
  refine st1 _ ?_
  show Steps p.tables e below (T1.setTop { method := m, pc := pc + 3, locals := ls, stack := .ref T.heap.size :: rest, locked := none }) _
  jvm_step X₁.here [X₁.here.top, hexec, d3', Value.category]
  exact X₁.ldcString hexec (own := own) (text := text) (index := is) (a := sa) hown' hstr'.1 hstr'.2
    (g := { method := m, pc := pc + 4, locals := ls, stack := .ref T.heap.size :: .ref T.heap.size :: rest, locked := none }) rfl d4' _ hsteps

theorem vy_throwSW {cc : ByteArray} {pc : Nat} (hexec : p.tables.exec = Jvm.exec) (hb : c.code = cc) (hl : l.stackTraces = false) {own cls text : String} {names : List String} {ik is ic mc9 ms sa : Nat} {A : Nat → Prop} {iy : Nat} {rx9 : ByteArray} (x0 : decode rx9 0 = .ok (.aload_n 0, 1)) (x1 : decode rx9 1 = .ok (.aload_n 1, 1)) (x29 : decode rx9 2 = .ok (.invokespecial iy, 3)) (x59 : decode rx9 5 = .ok (.return_, 1))
    (hown : s.vm.findClass own = some m.cls) (hcls : Bundle.fit cls = true) (hnames : ∀ n ∈ names, Bundle.fit n = true)
    (hk : (Cond.classLink own ik cls).before args s = true) (hini : (Cond.initialized cls).before args s = true) (hstr : vk_R own is text sa s) (hat : ∀ w ∈ vy_atS own ic cls iy rx9 names, w.before args s = true)
    (hgood : ∀ w ∈ Cond.classLink own ik cls :: Cond.initialized cls :: vy_atS own ic cls iy rx9 names, vx_ot w = true)
    (hU : vx_Zq Bundle.tN "UNASSIGNED_STACK" Bundle.steD A s s.heap) (hN9 : vx_Zq Bundle.tN "SUPPRESSED_SENTINEL" Bundle.listD A s s.heap) (hS9 : va_S A s.heap H locs) (hsize : ls.size = c.maxLocals)
    (d0 : decode cc pc = .ok (.new ik, 3)) (d3 : decode cc (pc + 3) = .ok (.dup, 1)) (d4 : decode cc (pc + 4) = .ok (.ldc_w is, 3)) (d7 : decode cc (pc + 7) = .ok (.invokespecial ic, 3)) (d10 : decode cc (pc + 10) = .ok (.athrow, 1))
    (hout : ∀ x ∈ c.exceptionTable.toList, covers x (pc + 10) = false)
    (hRframes : names.length + 3 < R.frames) (hRlocals : (rest.map fun v => v.category).sum + (13 * (names.length + 1) + 43) ≤ R.locals) (hRcells : cells + 1 ≤ R.cells) (hRslots : slots + 6 ≤ R.slots) (hlocks : meth.locks = false)
    (hx : ∀ t : State, s.vm.Alike t.vm → H.size ≤ t.heap.size → (∀ q : Nat, q < H.size → t.heap[q]? = H[q]?) → XC cls s t)
    (hf : ∀ z ∈ locs, free z.base) (hc9 : cells + 1 ≤ mc9) (hs : slots + 6 ≤ ms) :
    W p l e R s m args below meth c H locs cells slots (vx_MQ below Qc XC args s mc9 ms free) (F0 m pc ls rest) := by
  intro T hT9 X
  have htr : e.platform.stackTraces = false := (show e.platform.stackTraces = l.stackTraces by rw [X.admits.platform]).trans hl
  have Y := vx_rebase X (R' := { frames := R.frames, locals := R.locals, cells := 1, slots := 6 }) (Nat.le_refl _) (Nat.le_refl _) hRcells hRslots
  obtain ⟨s', hA⟩ : ∃ z, z = (T.setVm s.vm).setFrames (.invoking m args :: below) := ⟨_, rfl⟩
  rw [← hA] at Y
  have hvm : s'.vm = s.vm := by rw [hA]; rfl
  have hhp : s'.heap = H := by rw [hA]; exact hT9
  have hW0 : s.WarmedH s'.vm := by rw [hvm]; exact State.WarmedH.refl s
  have hat' : ∀ w ∈ vy_atS own ic cls iy rx9 names, w.before args s' = true := fun w hw => vx_ot_at hW0 hvm.symm (hgood w (List.mem_cons_of_mem _ (List.mem_cons_of_mem _ hw))) (hat w hw)
  have hk' : (Cond.classLink own ik cls).before args s' = true := vx_ot_at hW0 hvm.symm (hgood _ List.mem_cons_self) hk
  have hini' : (Cond.initialized cls).before args s' = true := vx_ot_at hW0 hvm.symm (hgood _ (List.mem_cons_of_mem _ List.mem_cons_self)) hini
  have hU' : vx_Zq Bundle.tN "UNASSIGNED_STACK" Bundle.steD A s' s'.heap := by rw [hhp]; exact vx_Zq.moved hW0.alike (hU.kept hS9.2.1)
  have hN' : vx_Zq Bundle.tN "SUPPRESSED_SENTINEL" Bundle.listD A s' s'.heap := by rw [hhp]; exact vx_Zq.moved hW0.alike (hN9.kept hS9.2.1)
  have h : ∀ w ∈ vy_own own ic cls iy rx9 names, w.before args s' = true := vx_own hat' (vx_isRefq hU'.1) (vx_isRefq hN'.1) hU'.2.word hN'.2.word
  have hown' : s'.vm.findClass own = some m.cls := by rw [hvm]; exact hown
  have hins : (Cond.instantiable cls 6).before args s' = true := h _ (by simp [vy_own])
  obtain ⟨vm₁, cX, kX, hfX, hkX, -, -, X₁, st1⟩ := Y.newCold hexec (own := own) (C := cls) (index := ik) (n := 6) hown' hk' hins hini'
    (g := F0 m pc ls rest) rfl (by rw [hb]; exact d0) (Nat.le_refl _) (Nat.le_refl _)
  generalize hT1 : (T.setVm vm₁).pushCell { cls := cX, slots := kX.instanceTypes.map defaultValue, vm := .none } = T1 at X₁ st1
  have hcat : (Value.ref T.heap.size).category = 1 := rfl
  have hcellA : T1.heap[T.heap.size]? = some (freshCell cX kX) := by rw [← hT1]; exact State.heap_pushCell_size _ _
  have d3' : decode c.code (pc + 3) = .ok (.dup, 1) := by rw [hb]; exact d3
  have d4' : decode c.code (pc + 4) = .ok (.ldc_w is, 3) := by rw [hb]; exact d4
  have hstr' : vk_R own is text sa s' := vk_R.warm hW0 hstr
  obtain ⟨U, hsteps, hrun, hend, hW, hsame, ce, hce, hO⟩ := vy_ctor X₁ hexec htr x0 x1 x29 x59 (own := own) (cls := cls) (names := names) (ic := ic) hown' hcls hnames h (fun x hx => nomatch hx) hfX hkX hcellA (by rw [hhp, hT9]; exact Nat.le_refl _) (msg := .ref sa) rfl
    (g := { method := m, pc := pc + 7, locals := ls, stack := .ref sa :: .ref T.heap.size :: .ref T.heap.size :: rest, locked := none }) rfl hsize rfl rfl (rest := rest) rfl
    (by rw [hb]; exact d7) (by rw [hb]; exact d10) hout hRframes (by simp only [List.map_cons, List.sum_cons, hcat]; omega) hlocks
  obtain ⟨f1, f2⟩ := vx_frame hsame
  rw [hhp] at f1 f2
  have hWs : s.WarmedH U.vm := State.WarmedH.trans hW0 hW
  have hcl : s.vm.findClass cls = some ce.cls := by
    have h9 := hO.cls
    rw [hvm] at h9
    exact h9
  have hall : s.sameButNew ({ U with vm := s.vm } : State) locs mc9 ms := by
    subst hA
    obtain ⟨e19, e29⟩ := hsame
    rw [State.setFrames_setFrames] at e19
    have h2 : (T.setVm s.vm).sameButNew ({ U with vm := s.vm } : State) [] (0 + 1) (0 + 6) := ⟨e19, e29⟩
    have h3 := X.same.trans h2
    rw [List.append_nil] at h3
    exact h3.mono hc9 hs
  refine ⟨U, ?_, .threw T.heap.size, hrun, hend, Or.inr ⟨T.heap.size, rfl, cls, ce, locs, hx U hWs.alike f1 (fun q hq => f2 q hq (fun z hz => nomatch hz)), hce, hO.vm, hcl, hWs, hall, hf⟩⟩
  refine st1 _ ?_
  show Steps p.tables e below (T1.setTop { method := m, pc := pc + 3, locals := ls, stack := .ref T.heap.size :: rest, locked := none }) _
  jvm_step X₁.here [X₁.here.top, hexec, d3', Value.category]
  exact X₁.ldcStringW hexec (own := own) (text := text) (index := is) (a := sa) hown' hstr'.1 hstr'.2
    (g := { method := m, pc := pc + 4, locals := ls, stack := .ref T.heap.size :: .ref T.heap.size :: rest, locked := none }) rfl d4' _ hsteps
end VYE
def t_wfT (F : aFix) (m9 : aMeth) (pc ix : Nat) (r : aRef) : Prop := m_hh m9 = [] ∧ ∃ (is ic id : Nat) (tx : String) (names : List String) (iy : Nat) (rx9 : ByteArray), (decode rx9 0 = .ok (.aload_n 0, 1) ∧ decode rx9 1 = .ok (.aload_n 1, 1) ∧ decode rx9 2 = .ok (.invokespecial iy, 3) ∧ decode rx9 5 = .ok (.return_, 1)) ∧ (m_own m9, is, id, tx) ∈ f_T F ∧ Bundle.fit (a_exn r.1) = true ∧ (∀ n ∈ names, Bundle.fit n = true) ∧ names.length ≤ 4 ∧
  Jvm.Cond.classLink (m_own m9) ix (a_exn r.1) ∈ am_ws ∧ Jvm.Cond.initialized (a_exn r.1) ∈ am_ws ∧ (∀ (U : State) (H : Heap) (av : Array Value), f_X F U H → (∀ w ∈ am_ws, w.before av U = true) → ∀ w ∈ vy_atS (m_own m9) ic (a_exn r.1) iy rx9 names, w.before av U = true) ∧
  (∀ w ∈ Jvm.Cond.classLink (m_own m9) ix (a_exn r.1) :: Jvm.Cond.initialized (a_exn r.1) :: vy_atS (m_own m9) ic (a_exn r.1) iy rx9 names, vx_ot w = true) ∧
  decode (m_cc m9) (pc + 3) = .ok (.dup, 1) ∧ ((decode (m_cc m9) (pc + 4) = .ok (.ldc is, 2) ∧ decode (m_cc m9) (pc + 6) = .ok (.invokespecial ic, 3) ∧ decode (m_cc m9) (pc + 9) = .ok (.athrow, 1)) ∨ (decode (m_cc m9) (pc + 4) = .ok (.ldc_w is, 3) ∧ decode (m_cc m9) (pc + 7) = .ok (.invokespecial ic, 3) ∧ decode (m_cc m9) (pc + 10) = .ok (.athrow, 1)))
def t_wfC (M : aTab) (F : aFix) (pr : aPr) (m9 : aMeth) (pc : Nat) (i : Instr) (r : aRef) : Prop := match i with
  | .invokevirtual ix => (r.2.2 ≠ 0 ∧ ∃ k9, M r.1 = some k9 ∧ a_wfV (m_own m9) ix r k9) ∨ (r.2.2 = 0 ∧ M r.1 = none ∧ pr (m_own m9) i r.1 r.2.1)
  | .invokestatic ix => (∃ k9, M r.1 = some k9 ∧ a_wfS F (m_own m9) ix r k9) ∨ (M r.1 = none ∧ pr (m_own m9) i r.1 r.2.1)
  | .invokespecial ix => r.2.2 ≠ 0 → (∃ k9, M r.1 = some k9 ∧ ((r.2.2 < 10 ∧ a_wfI (m_own m9) ix r k9) ∨ (10 ≤ r.2.2 ∧ a_wfU (m_own m9) ix r k9))) ∨ (M r.1 = none ∧ pr (m_own m9) i r.1 r.2.1)
  | .new ix => r.2.2 ≠ 0 → t_wfT F m9 pc ix r
  | _ => a_wfR m9 i r
def t_codeok (M : aTab) (F : aFix) (pr : aPr) (m9 : aMeth) : Prop := ∀ pc o, (m_code m9).lookup pc = some o → decode (m_cc m9) pc = .ok (o.1, o.2.1) ∧ a_wf F (m_own m9) (m_ini m9) pc o.1 o.2.1 o.2.2.1 o.2.2.2.1 o.2.2.2.2 ∧ t_wfC M F pr m9 pc o.1 o.2.2.1 ∧ (∀ ix, (o.1 = .ldc ix ∨ o.1 = .ldc_w ix) → o.2.2.1.1 = 0 ∨ o.2.2.1.2.1 < 100)
theorem t_step_good {M : aTab} {F : aFix} {pr : aPr} {m9 : aMeth} (hc9 : t_codeok M F pr m9) {c : aCfg} (hb : a_bdc c) : a_good c.2.2.2 (a_step (m_code m9) c) := by
  unfold a_step
  split
  · trivial
  · rename_i i len r z tgt ho
    exact a_exec_good hb (hc9 c.1 _ ho).2.2.2
theorem t_runN_good {M : aTab} {F : aFix} {pr : aPr} {m9 : aMeth} {call : aCall} (hc9 : t_codeok M F pr m9) (hg : a_gcall call) : ∀ (n : Nat) (c : aCfg) (res : aRes) (σf : aSt), a_runN call (m_code m9) (m_hh m9) n c = some (res, σf) → a_bdc c → a_le c.2.2.2 σf ∧ a_bdR σf ∧ ∀ v, res = .inl (some v) → a_bd (a_n σf) v
  | 0, c, res, σf, h, _ => by cases h
  | n + 1, c, res, σf, h, hb => by
    have hs := t_step_good hc9 hb
    unfold a_runN at h
    split at h
    · cases h
    · rename_i c' e19
      rw [e19] at hs
      obtain ⟨g1, g2, g39⟩ := t_runN_good hc9 hg n c' res σf h hs.1
      exact ⟨hs.2.trans g1, g2, g39⟩
    · rename_i r σ' e19
      rw [e19] at hs
      cases h
      exact ⟨hs.2.1, hs.1, hs.2.2⟩
    · rename_i k as pc L st σ e19
      rw [e19] at hs
      obtain ⟨g1, g2, g39⟩ := hs
      have g2 : σ = c.2.2.2 := g2
      subst g2
      split at h
      · cases h
      · rename_i v σ' e29
        obtain ⟨l1, l2, l3⟩ := hg _ _ _ _ _ e29 g39 g1.2.2
        obtain ⟨k1, k2, k3⟩ := t_runN_good hc9 hg n _ res σf h ⟨g1.1.mono l1.1, a_bds_app (fun w hw => l3 w (by rw [hw])) (g1.2.1.mono l1.1), l2⟩
        exact ⟨l1.trans k1, k2, k3⟩
      · rename_i x σ' e29
        obtain ⟨l1, l2, l3⟩ := hg _ _ _ _ _ e29 g39 g1.2.2
        split at h
        · rename_i h9 e39
          obtain ⟨k1, k2, k3⟩ := t_runN_good hc9 hg n _ res σf h ⟨g1.1.mono (Nat.le_succ_of_le l1.1), a_bds_cons.mpr ⟨Nat.lt_succ_self _, a_bds_nil _⟩, a_name_bd l2⟩
          exact ⟨(l1.trans (a_le_name σ')).trans k1, k2, k3⟩
        · cases h
          exact ⟨l1, l2, fun v hv => by cases hv⟩

section TEND
variable {p : Program} {l : Launch} {e : Env} {R : Room} {s : State} {m : MethodId} {args : Array Value} {below : List Frame} {meth : Method} {c : Code} {Q : State → Prop} {nL n0 u0 v0 : Nat} {ini : Bool} {F : aFix} {ρ1 : Nat → Nat} {m9 : aMeth}
variable {pc : Nat} {L : List (Option Value)} {st : List Value} {σ : aSt}
theorem t_end {res : aRes} {σ0 σf : aSt} {M : aTab} {pr : aPr} {i : Instr} {len tgt : Nat} {r : aRef} {z : Int32} (C : a_ctx p l R s m args meth c (m_cc m9) nL (m_own m9) ini F) (htab : c.exceptionTable.toList = tableOf (a_hr m9)) (hret : meth.sig.returnType = m_ret m9) (hd : decode (m_cc m9) pc = .ok (i, len)) (hw : a_wf F (m_own m9) ini pc i len r z tgt) (hw2 : t_wfC M F pr m9 pc i r) (hst : a_exec i len r z tgt pc L st σ = some (.inr (.inl (res, σf)))) (hB9 : a_uc σf ≤ u0 + R.cells ∧ a_us σf ≤ v0 + R.slots)
    (hQ : Q = vx_MQ below (a_Qc F ρ1 σ0 res σf) (a_Xc F ρ1 σ0 res σf) args s (a_uc σf - u0) (a_us σf - v0) (f_A F)) (hn0 : n0 = a_n σ0) : a_W p l e R s m args below meth c Q nL n0 u0 v0 F ρ1 (pc, L, st, σ) := by
  intro ρ H locs cells slots ls h
  have hh : a_hp F ρ σ H := h.1
  have hS9 : va_S (f_A F) s.heap H locs := h.2.2.2.1
  have hext : ∀ i, i < a_n σ0 → ρ i = ρ1 i := fun i hi => h.2.2.2.2.1 i (by omega)
  have g7 : a_uc σ = u0 + cells := h.2.2.2.2.2.2.1
  have g8 : a_us σ = v0 + slots := h.2.2.2.2.2.2.2
  have hls : ls.size = nL := h.2.2.1.2.1
  obtain ⟨hx, hb, hml, hown, hts, hE, hA, hlk, hst9, hini, hRf, hRl, hF⟩ := id C
  subst hQ
  have fin : ∀ (v : Option Value), res = .inl v → σf = σ → ∀ t : State, t.heap = H → s.WarmedH t.vm → a_Qc F ρ1 σ0 res σf args s (.returned (v.map (a_vm ρ))) t := fun v e19 e29 t ht hW => ⟨v, ρ, e19, rfl, hext, by rw [ht, e29]; exact hh, hS9.F ht⟩
  cases i
  case ireturn =>
    obtain rfl : len = 1 := hw
    simp only [a_exec] at hst
    split at hst
    · rename_i x
      split at hst
      · rename_i hr
        simp only [a_rt] at hst
        cases hst
        have e19 : a_uc σ - u0 = cells := by omega
        have e29 : a_us σ - v0 = slots := by omega
        rw [e19, e29]
        refine vx_ret ?_
        rcases hw2 with ⟨r1, r2⟩ | ⟨r1, r2⟩ | ⟨r1, r2⟩
        · exact W.iret hx hb (by rw [hret, r2]) (fun t ht hW => fin (some (.int x)) rfl rfl t ht hW) hS9.2.2 hd
        · have hx01 : x = 0 ∨ x = 1 := by
            rcases hr with z | z | z
            · omega
            · exact z.2
            · omega
          rcases r2 with r2 | r2
          · exact W.zret (ty := .boolean) hx hb (by rw [hret, r2]) (by rcases hx01 with rfl | rfl <;> rfl) (fun t ht hW => fin (some (.int x)) rfl rfl t ht hW) hS9.2.2 hd
          · exact W.zret (ty := .byte) hx hb (by rw [hret, r2]) (by rcases hx01 with rfl | rfl <;> rfl) (fun t ht hW => fin (some (.int x)) rfl rfl t ht hW) hS9.2.2 hd
        · have hxc : narrow .char (.int x) = .int x := by
            rcases hr with z | z | z
            · omega
            · omega
            · exact z.2
          exact W.zret (ty := .char) hx hb (by rw [hret, r2]) hxc (fun t ht hW => fin (some (.int x)) rfl rfl t ht hW) hS9.2.2 hd
      · cases hst
    · cases hst
  case lreturn =>
    obtain rfl : len = 1 := hw
    simp only [a_exec] at hst
    split at hst
    · rename_i x
      simp only [a_rt] at hst
      cases hst
      have e19 : a_uc σ - u0 = cells := by omega
      have e29 : a_us σ - v0 = slots := by omega
      rw [e19, e29]
      exact vx_ret (W.lret hx hb (by rw [hret]; exact hw2) (fun t ht hW => fin (some (.long x)) rfl rfl t ht hW) hS9.2.2 hd)
    · cases hst
  case dreturn =>
    obtain rfl : len = 1 := hw
    simp only [a_exec] at hst
    split at hst
    · rename_i x
      simp only [a_rt] at hst
      cases hst
      have e19 : a_uc σ - u0 = cells := by omega
      have e29 : a_us σ - v0 = slots := by omega
      rw [e19, e29]
      exact vx_ret (W.dret hx hb (by rw [hret]; exact hw2) (fun t ht hW => fin (some (.double x)) rfl rfl t ht hW) hS9.2.2 hd)
    · cases hst
  case freturn =>
    obtain rfl : len = 1 := hw
    simp only [a_exec] at hst
    split at hst
    · rename_i x
      simp only [a_rt] at hst
      cases hst
      have e19 : a_uc σ - u0 = cells := by omega
      have e29 : a_us σ - v0 = slots := by omega
      rw [e19, e29]
      exact vx_ret (W.fret hx hb (by rw [hret]; exact hw2) (fun t ht hW => fin (some (.float x)) rfl rfl t ht hW) hS9.2.2 hd)
    · cases hst
  case areturn =>
    obtain rfl : len = 1 := hw
    obtain ⟨ty, r1, r2⟩ := hw2
    simp only [a_exec] at hst
    split at hst
    · rename_i x
      simp only [a_rt] at hst
      cases hst
      have e19 : a_uc σ - u0 = cells := by omega
      have e29 : a_us σ - v0 = slots := by omega
      rw [e19, e29]
      exact vx_ret (W.aret (v := .ref (ρ x)) hx hb (by rw [hret, r1]) r2 (Or.inr ⟨_, rfl⟩) (fun t ht hW => fin (some (.ref x)) rfl rfl t ht hW) hS9.2.2 hd)
    · simp only [a_rt] at hst
      cases hst
      have e19 : a_uc σ - u0 = cells := by omega
      have e29 : a_us σ - v0 = slots := by omega
      rw [e19, e29]
      exact vx_ret (W.aret (v := .null) hx hb (by rw [hret, r1]) r2 (Or.inl rfl) (fun t ht hW => fin (some .null) rfl rfl t ht hW) hS9.2.2 hd)
    · cases hst
  case return_ =>
    obtain rfl : len = 1 := hw
    simp only [a_exec] at hst
    split at hst
    · simp only [a_rt] at hst
      cases hst
      have e19 : a_uc σ - u0 = cells := by omega
      have e29 : a_us σ - v0 = slots := by omega
      rw [e19, e29]
      exact vx_ret (W.vret hx hb (by rw [hret]; exact hw2) (fun t ht hW => fin none rfl rfl t ht hW) hS9.2.2 hd)
    · cases hst
  case new ix =>
    obtain ⟨rfl, -⟩ := hw
    simp only [a_exec] at hst
    split at hst
    · cases hst
    · rename_i hr0
      split at hst
      · rename_i hsum
        simp only [a_rt] at hst
        cases hst
        obtain ⟨t0, is, ic, id9, tx, names, iy, rx9, ⟨x0, x1, x29, x59⟩, t1, t2, t3, t4, t5, t6, t7, t8, t9, t10⟩ := hw2 hr0
        obtain ⟨q1, -, q39⟩ := hE.2.2.2.2.1 _ t1
        have hout : ∀ k, ∀ y ∈ c.exceptionTable.toList, covers y k = false := fun k y hy => by
          rw [htab, a_table, t0] at hy; cases hy
        have g9 : a_uc (a_made σ) = a_uc σ + 1 := rfl
        have g10 : a_us (a_made σ) = a_us σ + 6 := rfl
        have hsum' : (((st.map (a_vm ρ))).map fun v => v.category).sum ≤ 8 := by rw [a_vm_sum]; exact hsum
        have hXC : ∀ t : State, s.vm.Alike t.vm → H.size ≤ t.heap.size → (∀ q : Nat, q < H.size → t.heap[q]? = H[q]?) → a_Xc F ρ1 σ0 (.inr r.1) (a_made σ) (a_exn r.1) s t := fun t _ hz hq =>
          ⟨r.1, ρ, rfl, rfl, hext, a_hp_grow hh hz hq, Nat.le_trans hS9.1 hz, fun q h1 h2 => (hq q (Nat.lt_of_lt_of_le h1 hS9.1)).trans (hS9.2.1 q h1 h2)⟩
        show W p l e R s m args below meth c H locs cells slots _ (F0 m pc ls (st.map (a_vm ρ)))
        rcases t10 with ⟨d4, d6, d9⟩ | ⟨d4, d6, d9⟩
        · exact vy_throwS hx hb hst9 x0 x1 x29 x59 hown t2 t3 (hts _ t5) (hts _ t6) q1 (t7 s s.heap args hE.2.2.2.2.2.2.2 hts) t8 hE.2.2.1.1 hE.2.2.1.2 hS9 (by rw [hls, hml]) hd t9 d4 d6 d9 (hout _) (by omega) (by omega) (by omega) (by omega) hlk hXC hS9.2.2 (by omega) (by omega)
        · exact vy_throwSW hx hb hst9 x0 x1 x29 x59 hown t2 t3 (hts _ t5) (hts _ t6) q1 (t7 s s.heap args hE.2.2.2.2.2.2.2 hts) t8 hE.2.2.1.1 hE.2.2.1.2 hS9 (by rw [hls, hml]) hd t9 d4 d6 d9 (hout _) (by omega) (by omega) (by omega) (by omega) hlk hXC hS9.2.2 (by omega) (by omega)
      · cases hst
  all_goals (exfalso; clear fin hw2 hw C)
  all_goals (simp only [a_exec, a_ldI, a_ldA, a_ldL, a_ldD, a_stI, a_stA, a_stD, a_binI, a_binL, a_div, a_br, a_get, a_put, a_tsw, a_inv, a_go, a_sto] at hst)
  all_goals (repeat' split at hst)
  all_goals (cases hst)
end TEND
section TRUN2
variable {p : Program} {l : Launch} {e : Env} {R : Room} {s : State} {m : MethodId} {args : Array Value} {below : List Frame} {meth : Method} {c : Code} {Q : State → Prop} {nL n0 u0 v0 : Nat} {ini : Bool} {F : aFix} {ρ1 : Nat → Nat} {m9 : aMeth}
/-- the run of a body, by the ends that are given -/
theorem t_run_snd {M : aTab} {pr : aPr} {P : aCall} {call : aCall} {d b9 : Nat} {res : aRes} {σf : aSt} (C : a_ctx p l R s m args meth c (m_cc m9) nL (m_own m9) (m_ini m9) F) (hc9 : t_codeok M F pr m9) (hg : a_gcall call)
    (hP : a_prok l F pr b9 P) (hRb : b9 + 17 ≤ R.frames) (hRc : 60 * b9 + 360 ≤ R.locals) (hPret : ∀ k as σ res σ', P k as σ = some (res, σ') → ∃ v, res = .inl v) (hcallP : ∀ k as σ, M k = none → call k as σ = P k as σ)
    (hcallM : ∀ k k9 as σ res σ', M k = some k9 → call k as σ = some (res, σ') → a_bds (a_n σ) as → a_bdR σ → a_met l F k9 d as σ res σ') (hRf : d + 17 ≤ R.frames) (hRl : 60 * d + 360 ≤ R.locals)
    (hB9 : a_uc σf ≤ u0 + R.cells ∧ a_us σf ≤ v0 + R.slots)
    (hend : ∀ (pc : Nat) (L : List (Option Value)) (st : List Value) (σ : aSt) (i : Instr) (len : Nat) (r : aRef) (z : Int32) (tgt : Nat), decode (m_cc m9) pc = .ok (i, len) → a_wf F (m_own m9) (m_ini m9) pc i len r z tgt → t_wfC M F pr m9 pc i r → a_exec i len r z tgt pc L st σ = some (.inr (.inl (res, σf))) → a_W p l e R s m args below meth c Q nL n0 u0 v0 F ρ1 (pc, L, st, σ))
    (hcatch : ∀ (pc : Nat) (L : List (Option Value)) (rest : List Value) (σ : aSt) (x h9 : Nat), a_hand (m_hh m9) pc x = some h9 → a_W p l e R s m args below meth c Q nL n0 u0 v0 F ρ1 (h9, L, [.ref (a_n σ)], a_name σ) → a_KX p l e R s m args below meth c Q nL n0 u0 v0 F ρ1 pc L rest σ x)
    (hout : ∀ (pc : Nat) (L : List (Option Value)) (rest : List Value) (x : Nat), a_hand (m_hh m9) pc x = none → res = .inr x → a_KX p l e R s m args below meth c Q nL n0 u0 v0 F ρ1 pc L rest σf x) :
    ∀ (n : Nat) (cf : aCfg), a_runN call (m_code m9) (m_hh m9) n cf = some (res, σf) → a_bdc cf → a_W p l e R s m args below meth c Q nL n0 u0 v0 F ρ1 cf
  | 0, cf, h, _ => by cases h
  | n + 1, (pc, L, st, σ), h, hb => by
    have IH := t_run_snd C hc9 hg hP hRb hRc hPret hcallP hcallM hRf hRl hB9 hend hcatch hout n
    have hs := t_step_good hc9 hb
    unfold a_runN at h
    cases hstq : a_step (m_code m9) (pc, L, st, σ) with
    | none => rw [hstq] at h; cases h
    | some act =>
    rw [hstq] at h hs
    have ho : ∃ i len r z tgt, (m_code m9).lookup pc = some (i, len, r, z, tgt) ∧ a_exec i len r z tgt pc L st σ = some act := by
      unfold a_step at hstq
      split at hstq
      · cases hstq
      · rename_i i len r z tgt ho
        exact ⟨i, len, r, z, tgt, ho, hstq⟩
    obtain ⟨i, len, r, z, tgt, ho, hex⟩ := ho
    obtain ⟨w1, w2, w3, w4⟩ := hc9 pc _ ho
    match act, h, hs, hex with
    | .inl c', h, hs, hex =>
      have hgood := t_runN_good hc9 hg n c' res σf h hs.1
      exact a_exec_snd C w1 w2 hex hs.1 ⟨Nat.le_trans hgood.1.2.1 hB9.1, Nat.le_trans hgood.1.2.2 hB9.2⟩ (IH c' h hs.1)
    | .inr (.inl (r9, σ9)), h, hs, hex =>
      cases h
      exact hend pc L st σ i len r z tgt w1 w2 w3 hex
    | .inr (.inr (k, as, (pc', L', st', σ'))), h, hs, hex =>
      obtain ⟨g1, g2, g39⟩ := hs
      have g2 : σ' = σ := g2
      subst g2
      have h : (match call k as σ' with | none => none | some (.inl v, σ2) => a_runN call (m_code m9) (m_hh m9) n (pc', L', v.toList ++ st', σ2) | some (.inr x, σ2) => match a_hand (m_hh m9) pc x with | some h9 => a_runN call (m_code m9) (m_hh m9) n (h9, L', [.ref (a_n σ2)], a_name σ2) | none => some (.inr x, σ2)) = some (res, σf) := h
      have hb2 : a_bdl (a_n σ') L' := g1.1
      have hb3 : a_bds (a_n σ') st' := g1.2.1
      have hb4 : a_bdR σ' := g1.2.2
      cases hcl : call k as σ' with
      | none => rw [hcl] at h; cases h
      | some rs =>
      obtain ⟨res2, σ2⟩ := rs
      rw [hcl] at h
      obtain ⟨l1, l2, l3⟩ := hg _ _ _ _ _ hcl g39 hb4
      have hB2 : a_uc σ2 ≤ u0 + R.cells ∧ a_us σ2 ≤ v0 + R.slots := by
        match res2, h, l3 with
        | .inl v, h, l3 =>
          have q := t_runN_good hc9 hg n _ res σf h ⟨hb2.mono l1.1, a_bds_app (fun w hw => l3 w (by rw [hw])) (hb3.mono l1.1), l2⟩
          exact ⟨Nat.le_trans q.1.2.1 hB9.1, Nat.le_trans q.1.2.2 hB9.2⟩
        | .inr x, h, l3 =>
          have h : (match a_hand (m_hh m9) pc x with | some h9 => a_runN call (m_code m9) (m_hh m9) n (h9, L', [.ref (a_n σ2)], a_name σ2) | none => some (.inr x, σ2)) = some (res, σf) := h
          cases hh : a_hand (m_hh m9) pc x with
          | none => rw [hh] at h; cases h; exact hB9
          | some h9 =>
            rw [hh] at h
            have q := t_runN_good hc9 hg n _ res σf h ⟨hb2.mono (Nat.le_succ_of_le l1.1), a_bds_cons.mpr ⟨Nat.lt_succ_self _, a_bds_nil _⟩, a_name_bd l2⟩
            exact ⟨Nat.le_trans q.1.2.1 hB9.1, Nat.le_trans q.1.2.2 hB9.2⟩
      have hkk : ∀ v, res2 = .inl v → a_W p l e R s m args below meth c Q nL n0 u0 v0 F ρ1 (pc', L', v.toList ++ st', σ2) := fun v e19 => by
        subst e19
        exact IH _ h ⟨hb2.mono l1.1, a_bds_app (fun w hw => l3 w (by rw [hw])) (hb3.mono l1.1), l2⟩
      have hkx : ∀ x, res2 = .inr x → a_KX p l e R s m args below meth c Q nL n0 u0 v0 F ρ1 pc L' st' σ2 x := fun x e19 => by
        subst e19
        have h : (match a_hand (m_hh m9) pc x with | some h9 => a_runN call (m_code m9) (m_hh m9) n (h9, L', [.ref (a_n σ2)], a_name σ2) | none => some (.inr x, σ2)) = some (res, σf) := h
        cases hh : a_hand (m_hh m9) pc x with
        | none => rw [hh] at h; cases h; exact hout pc L' st' x hh rfl
        | some h9 =>
          rw [hh] at h
          exact hcatch pc L' st' σ2 x h9 hh (IH _ h ⟨hb2.mono (Nat.le_succ_of_le l1.1), a_bds_cons.mpr ⟨Nat.lt_succ_self _, a_bds_nil _⟩, a_name_bd l2⟩)
      have hst0 : a_bds (a_n σ') st := hb.2.1
      cases i
      case invokevirtual ix =>
        obtain rfl : len = 3 := w2
        simp only [a_exec] at hex
        split at hex
        · rename_i hr0
          simp only [a_inv] at hex
          split at hex
          · rename_i hlen
            cases hex
            rcases w3 with ⟨q1, -⟩ | ⟨q1, q2, q39⟩
            · exact absurd hr0 q1
            · rw [hcallP _ _ _ q2] at hcl
              obtain ⟨v, rfl⟩ := hPret _ _ _ _ _ hcl
              exact hP C hRb hRc w1 q39 hlen.1 hlen.2 hcl hst0 hb2 hb4 hB2 (hkk v rfl)
          · cases hex
        · rename_i hr0
          split at hex
          · rename_i b0 hb0
            split at hex
            · rename_i hk0
              simp only [a_inv] at hex
              split at hex
              · rename_i hlen
                cases hex
                rcases w3 with ⟨q1, k9, q2, q39⟩ | ⟨q1, -⟩
                · exact a_callV C w1 q39 rfl hlen.1 hlen.2 hb0 hk0 (hcallM _ k9 _ _ _ _ q2 hcl g39 hb4) hRf hRl hst0 l1 l2 l3 hB2 hkk hkx
                · exact absurd q1 hr0
              · cases hex
            · cases hex
          · cases hex
      case invokestatic ix =>
        obtain rfl : len = 3 := w2
        simp only [a_exec, a_inv] at hex
        split at hex
        · rename_i hlen
          cases hex
          rcases w3 with ⟨k9, q2, q39⟩ | ⟨q2, q39⟩
          · exact a_callS C w1 q39 rfl hlen.1 hlen.2 (hcallM _ k9 _ _ _ _ q2 hcl g39 hb4) hRf hRl hst0 l1 l2 l3 hB2 hkk hkx
          · rw [hcallP _ _ _ q2] at hcl
            obtain ⟨v, rfl⟩ := hPret _ _ _ _ _ hcl
            exact hP C hRb hRc w1 q39 hlen.1 hlen.2 hcl hst0 hb2 hb4 hB2 (hkk v rfl)
        · cases hex
      case invokespecial ix =>
        obtain ⟨rfl, -⟩ := w2
        simp only [a_exec] at hex
        split at hex
        · split at hex
          · split at hex
            · cases hex
            · cases hex
          · cases hex
        · rename_i hr0
          split at hex
          · rename_i b0 hb0
            simp only [a_inv] at hex
            split at hex
            rotate_left
            · cases hex
            rename_i hkd
            split at hex
            · rename_i hlen
              cases hex
              rcases w3 hr0 with ⟨k9, q2, q39⟩ | ⟨q2, q39⟩
              · rcases q39 with ⟨-, q39⟩ | ⟨q49, q39⟩
                · exact a_callI C w1 q39 rfl hlen.1 hlen.2 hb0 (hcallM _ k9 _ _ _ _ q2 hcl g39 hb4) hRf hRl hst0 l1 l2 l3 hB2 hkk hkx
                · exact a_callU C w1 q39 rfl hlen.1 hlen.2 hb0 (hkd.resolve_left (Nat.not_lt.mpr q49)) (hcallM _ k9 _ _ _ _ q2 hcl g39 hb4) hRf hRl hst0 l1 l2 l3 hB2 hkk hkx
              · rw [hcallP _ _ _ q2] at hcl
                obtain ⟨v, rfl⟩ := hPret _ _ _ _ _ hcl
                exact hP C hRb hRc w1 q39 hlen.1 hlen.2 hcl hst0 hb2 hb4 hB2 (hkk v rfl)
            · cases hex
          · cases hex
      all_goals (exfalso; clear hkk hkx hB2 hcallM w3 w2 hP hend hcatch hout IH)
      all_goals (simp only [a_exec, a_ldI, a_ldA, a_ldL, a_ldD, a_stI, a_stA, a_stD, a_binI, a_binL, a_div, a_br, a_get, a_put, a_tsw, a_inv, a_go, a_sto, a_rt] at hex)
      all_goals (repeat' split at hex)
      all_goals (cases hex)
end TRUN2

def t_sys (l : Launch) (F : aFix) (M : aTab) (pr : aPr) (b : Nat) (P : aCall) : Prop :=
  (∀ k k9, M k = some k9 → a_mok k9 ∧ t_codeok M F pr k9 ∧ a_hhok F k9) ∧ a_ncok F ∧ a_fix F ∧ l.stackTraces = false ∧ a_gcall P ∧ a_prok l F pr b P ∧ (∀ k as σ res σ', P k as σ = some (res, σ') → ∃ v, res = .inl v) ∧ ∀ k k9 as σ, M k = some k9 → P k as σ = none
theorem t_meth_snd {l : Launch} {F : aFix} {M : aTab} {pr : aPr} {P : aCall} {call : aCall} {d n b9 : Nat} {m9 : aMeth} {as : List Value} {σ σf : aSt} {res : aRes} (hbd : b9 ≤ d) (S : t_sys l F M pr b9 P) (hok : a_mok m9) (hc9 : t_codeok M F pr m9) (hh : a_hhok F m9) (hg : a_gcall call) (hcallP : ∀ k as σ, M k = none → call k as σ = P k as σ)
    (hcallM : ∀ k k9 as σ res σ', M k = some k9 → call k as σ = some (res, σ') → a_bds (a_n σ) as → a_bdR σ → a_met l F k9 d as σ res σ') (hlen : (a_ent as).length ≤ m_L m9) (hbs : a_bds (a_n σ) as) (hR : a_bdR σ)
    (hrun : a_runN call (m_code m9) (m_hh m9) n (0, a_pad (m_L m9) (a_ent as), [], σ) = some (res, σf)) : a_met l F m9 (d + 1) as σ res σf := by
  intro ρ
  obtain ⟨S1, hn, hF, hl, S4, S5, S6, S7⟩ := S
  obtain ⟨ok1, ok2, ok3, ok4, ok5, ok6⟩ := hok
  have hb : a_bdc (0, a_pad (m_L m9) (a_ent as), [], σ) := ⟨a_bdl_pad (a_bdl_ent hbs), a_bds_nil _, hR⟩
  obtain ⟨⟨l1, l2, l3⟩, -, -⟩ := t_runN_good hc9 hg n _ res σf hrun hb
  have l2 : a_uc σ ≤ a_uc σf := l2
  have l3 : a_us σ ≤ a_us σf := l3
  have body : ∀ (p : Program) (e : Env) (s : State) (m : MethodId) (args : Array Value) (below : List Frame) (meth : Method) (c : Code), p.tables.exec = Jvm.exec → c.code = m_cc m9 → meth.sig.returnType = m_ret m9 → (∀ w ∈ a_mws m9, w.before args s = true) → s.vm.findClass (m_y m9).cls = some m.cls → meth.locks = false → meth.name = (m_y m9).name → c.maxLocals = m_L m9 → c.exceptionTable.toList = tableOf (a_hr m9) → a_Pc F ρ as σ args s →
      W p l e (a_room (d + 1) (a_uc σf - a_uc σ) (a_us σf - a_us σ)) s m args below meth c s.heap [] 0 0 (vx_MQ below (a_Qc F ρ σ res σf) (a_Xc F ρ σ res σf) args s (a_uc σf - a_uc σ) (a_us σf - a_us σ) (f_A F)) (entryFrame m args (m_L m9)) := by
    intro p e s m args below meth c hx hcode hret hts hown hlk hnm hml htab hpc
    obtain ⟨rfl, hE, hp⟩ := hpc
    have C : a_ctx p l (a_room (d + 1) (a_uc σf - a_uc σ) (a_us σf - a_us σ)) s m (as.map (a_vm ρ)).toArray meth c (m_cc m9) (m_L m9) (m_own m9) (m_ini m9) F :=
      ⟨hx, hcode, hml, by rw [ok5]; exact hown, fun w hw => hts w (List.mem_cons_of_mem _ hw), hE, fun q hq => hF.2.2.1 s s.heap hE.2.2.2.2.2.2.2 q hq, hlk, hl, fun hi => by rw [hnm]; exact of_decide_eq_true hi, (fun x hx => by omega : ∀ x : Nat, x = d + 1 + 16 → 16 ≤ x) _ (a_room_f _ _ _), (fun x hx => by omega : ∀ x : Nat, x = 60 * (d + 1) + 300 → 300 ≤ x) _ (a_room_l _ _ _), hF⟩
    rw [lg_entry_eq]
    have hs := t_run_snd (below := below) (e := e) (n0 := a_n σ) (u0 := a_uc σ) (v0 := a_us σ) (ρ1 := ρ) (Q := vx_MQ below (a_Qc F ρ σ res σf) (a_Xc F ρ σ res σf) (as.map (a_vm ρ)).toArray s (a_uc σf - a_uc σ) (a_us σf - a_us σ) (f_A F)) C hc9 hg S5 ((fun x hx => by omega : ∀ x : Nat, x = d + 1 + 16 → b9 + 17 ≤ x) _ (a_room_f _ _ _)) ((fun x hx => by omega : ∀ x : Nat, x = 60 * (d + 1) + 300 → 60 * b9 + 360 ≤ x) _ (a_room_l _ _ _)) S6 hcallP hcallM ((fun x hx => by omega : ∀ x : Nat, x = d + 1 + 16 → d + 17 ≤ x) _ (a_room_f _ _ _)) ((fun x hx => by omega : ∀ x : Nat, x = 60 * (d + 1) + 300 → 60 * d + 360 ≤ x) _ (a_room_l _ _ _)) ⟨by show _ ≤ a_uc σ + (a_uc σf - a_uc σ); omega, by show _ ≤ a_us σ + (a_us σf - a_us σ); omega⟩
        (fun pc L st σ9 i len r z tgt w1 w2 w3 hex => t_end C htab hret w1 w2 w3 hex ⟨by show _ ≤ a_uc σ + (a_uc σf - a_uc σ); omega, by show _ ≤ a_us σ + (a_us σf - a_us σ); omega⟩ rfl rfl)
        (fun pc L rest σ9 x h9 hx9 K => a_catch C htab hh hn hx9 K)
        (fun pc L rest x hx9 hres => a_out C htab hh hn hx9 hres rfl rfl) n _ hrun hb
    exact hs ρ s.heap [] 0 0 _ ⟨hp, hb, a_entry hlen, va_S.rf, fun _ _ => rfl, Nat.le_refl _, rfl, rfl⟩
  by_cases h0 : m_hh m9 = []
  · refine vx_ofW (cc := m_cc m9) (maxL := m_L m9) (ret := m_ret m9) ok2 (a_cword0 h0) ?_
    intro p e s m args below meth c s₁ B hml htab hpc
    refine body p e s m args below meth c B.exec B.bytes B.returns (atoms_spec (ws := a_mws m9) B.pre) (findClass_of_methodNamed B.named) B.notSynchronized (name_of_methodNamed B.named B.method).1 hml ?_ hpc
    rw [a_table, h0]
    exact List.eq_nil_iff_forall_not_mem.mpr htab
  · refine vx_ofWH (cc := m_cc m9) (maxL := m_L m9) (ret := m_ret m9) (hh := a_hr m9) ok2 (a_cword1 h0) ?_
    intro p e s m args below meth c s₁ B hml hpc
    have hts := atoms_spec (ws := a_mws m9) B.pre
    refine body p e s m args below meth c B.exec B.bytes B.returns hts (findClass_of_methodNamed B.named) B.notSynchronized (name_of_methodNamed B.named B.method).1 hml ?_ hpc
    exact vx_table (x := m_y m9) (y := m_y m9) (bytes := m_cc m9) (maxL' := m_L m9) (ret' := m_ret m9) B (hts _ (by rw [a_cword1 h0]; exact List.mem_cons_self))

theorem t_call_snd {l : Launch} {F : aFix} {M : aTab} {pr : aPr} {P : aCall} {b9 : Nat} (S : t_sys l F M pr b9 P) : ∀ d : Nat, a_gcall (a_call M P d) ∧ ∀ k k9 as σ res σ', M k = some k9 → a_call M P d k as σ = some (res, σ') → a_bds (a_n σ) as → a_bdR σ → a_met l F k9 (b9 + d) as σ res σ'
  | 0 => ⟨S.2.2.2.2.1, fun k k9 as σ res σ' hk h _ _ => by
    have h : P k as σ = some (res, σ') := h
    rw [S.2.2.2.2.2.2.2 k k9 as σ hk] at h
    cases h⟩
  | d + 1 => by
    obtain ⟨I1, I2⟩ := t_call_snd S d
    have hP : ∀ k as σ, M k = none → a_call M P d k as σ = P k as σ := fun k as σ hk => by
      cases d with
      | zero => rfl
      | succ d => unfold a_call; rw [hk]
    have key : ∀ k k9 as σ res σ', M k = some k9 → a_call M P (d + 1) k as σ = some (res, σ') → (a_ent as).length ≤ m_L k9 ∧ ∃ n, a_runN (a_call M P d) (m_code k9) (m_hh k9) n (0, a_pad (m_L k9) (a_ent as), [], σ) = some (res, σ') := by
      intro k k9 as σ res σ' hk h
      unfold a_call at h
      rw [hk] at h
      have h : (if (a_ent as).length ≤ m_L k9 then a_lim (fun n => a_runN (a_call M P d) (m_code k9) (m_hh k9) n (0, a_pad (m_L k9) (a_ent as), [], σ)) else none) = some (res, σ') := h
      split at h
      · rename_i hl
        exact ⟨hl, a_lim_spec h⟩
      · cases h
    refine ⟨fun k as σ res σ' h hbs hR => ?_, fun k k9 as σ res σ' hk h hbs hR => ?_⟩
    · cases hk : M k with
      | none =>
        have h2 : P k as σ = some (res, σ') := by
          unfold a_call at h
          rw [hk] at h
          exact h
        exact S.2.2.2.2.1 _ _ _ _ _ h2 hbs hR
      | some k9 =>
        obtain ⟨hl, n, hn⟩ := key k k9 as σ res σ' hk h
        exact t_runN_good (S.1 k k9 hk).2.1 I1 n _ res σ' hn ⟨a_bdl_pad (a_bdl_ent hbs), a_bds_nil _, hR⟩
    · obtain ⟨hl, n, hn⟩ := key k k9 as σ res σ' hk h
      obtain ⟨c1, c2, c3⟩ := S.1 k k9 hk
      exact t_meth_snd (Nat.le_add_right b9 d) S c1 c2 c3 I1 hP I2 hl hbs hR hn

