/-! stores into arrays; new cells -/
section AMK
variable {p : Program} {l : Launch} {e : Env} {R : Room} {s : State} {m : MethodId} {args : Array Value} {below : List Frame} {meth : Method} {c : Code} {Q : State → Prop} {cc : ByteArray} {nL n0 u0 v0 : Nat} {own : String} {ini : Bool} {F : aFix} {ρ1 : Nat → Nat}
variable {pc : Nat} {L : List (Option Value)} {st : List Value} {σ : aSt}
theorem as_iast {a : Nat} {i x : Int32} (C : a_ctx p l R s m args meth c cc nL own ini F) (hd : decode cc pc = .ok (.iastore, 1)) (hk : a_kd σ a = 1) (hi : a_in i (a_ln σ a)) (hg : a_bdc (pc + 1, L, st, a_setI σ a i.toNatClampNeg x)) (K : a_W p l e R s m args below meth c Q nL n0 u0 v0 F ρ1 (pc + 1, L, st, a_setI σ a i.toNatClampNeg x)) : a_W p l e R s m args below meth c Q nL n0 u0 v0 F ρ1 (pc, L, .int x :: .int i :: .ref a :: st, σ) := by
  intro ρ H locs cells slots ls h
  have hh : a_hp F ρ σ H := h.1
  obtain ⟨hx, hb, hml, hown, hts, hE, -⟩ := C
  have ha : 100 ≤ a := a_100 hh (by omega) (by omega) (by omega)
  obtain ⟨g1, g2, g3⟩ := hh.2.2.2.2.1 a ha (by omega)
  have hc := g3.1 (Or.inl hk)
  rw [hk] at hc
  refine W.iast hx hb hc ((hE.2.1 1 _ rfl).1 _ _) (fun z => by cases z) (by rw [arrV_size]; exact a_vpin hi) rfl rfl hd fun H' e1 e2 e3 => ?_
  rw [arrV_store] at e1
  refine K ρ H' _ cells slots ls (a_at_put h hg g1 e2 e3 (a_hp_upd hh ha (by omega) rfl rfl (fun i k hi => if_neg fun z => hi z.1) (fun i k _ => rfl) (fun i k _ => rfl) e2 e3 ?_) rfl)
  have ek : a_kd (a_setI σ a i.toNatClampNeg x) a = 1 := hk
  refine ⟨fun _ => ?_, fun z => by omega, fun z => by omega, fun z => by omega⟩
  rw [ek, e1]
  refine congrArg some (congrArg (arrV _ _) (funext fun j => ?_))
  show (if j = i.toNatClampNeg then (Value.int x) else .int (a_I σ a j)) = .int (if a = a ∧ j = i.toNatClampNeg then x else a_I σ a j)
  by_cases hj : j = i.toNatClampNeg
  · rw [if_pos hj, if_pos ⟨rfl, hj⟩]
  · rw [if_neg hj, if_neg fun z => hj z.2]
theorem as_last {a : Nat} {i : Int32} {x : Int64} (C : a_ctx p l R s m args meth c cc nL own ini F) (hd : decode cc pc = .ok (.lastore, 1)) (hk : a_kd σ a = 2) (hi : a_in i (a_ln σ a)) (hg : a_bdc (pc + 1, L, st, a_setL σ a i.toNatClampNeg x)) (K : a_W p l e R s m args below meth c Q nL n0 u0 v0 F ρ1 (pc + 1, L, st, a_setL σ a i.toNatClampNeg x)) : a_W p l e R s m args below meth c Q nL n0 u0 v0 F ρ1 (pc, L, .long x :: .int i :: .ref a :: st, σ) := by
  intro ρ H locs cells slots ls h
  have hh : a_hp F ρ σ H := h.1
  obtain ⟨hx, hb, hml, hown, hts, hE, -⟩ := C
  have ha : 100 ≤ a := a_100 hh (by omega) (by omega) (by omega)
  obtain ⟨g1, g2, g3⟩ := hh.2.2.2.2.1 a ha (by omega)
  have hc := g3.2.1 hk
  refine W.last hx hb hc ((hE.2.1 2 _ rfl).1 _ _) (fun z => by cases z) (by rw [arrV_size]; exact a_vpin hi) rfl rfl hd fun H' e1 e2 e3 => ?_
  rw [arrV_store] at e1
  refine K ρ H' _ cells slots ls (a_at_put h hg g1 e2 e3 (a_hp_upd hh ha (by omega) rfl rfl (fun i k _ => rfl) (fun i k _ => rfl) (fun i k hi => if_neg fun z => hi z.1) e2 e3 ?_) rfl)
  have ek : a_kd (a_setL σ a i.toNatClampNeg x) a = 2 := hk
  refine ⟨fun z => by omega, fun _ => ?_, fun z => by omega, fun z => by omega⟩
  rw [e1]
  refine congrArg some (congrArg (arrV _ _) (funext fun j => ?_))
  show (if j = i.toNatClampNeg then (Value.long x) else .long (a_L σ a j)) = .long (if a = a ∧ j = i.toNatClampNeg then x else a_L σ a j)
  by_cases hj : j = i.toNatClampNeg
  · rw [if_pos hj, if_pos ⟨rfl, hj⟩]
  · rw [if_neg hj, if_neg fun z => hj z.2]
/-- a store of a reference into an array of references, whatever it is -/
theorem a_aast {a x : Nat} {i : Int32} {C0 : String} (C : a_ctx p l R s m args meth c cc nL own ini F) (hd : decode cc pc = .ok (.aastore, 1)) (hk : a_kd σ a = 3 ∨ a_kd σ a = 4) (hty : a_aty (a_kd σ a) = some (.object C0)) (hi : a_in i (a_ln σ a))
    (hx0 : ∀ (ρ : Nat → Nat) (H : Heap) (locs : List Loc), a_hp F ρ σ H → va_S (f_A F) s.heap H locs → ∃ (cv : Cell) (kv : Class) (cC : ClassId), H[ρ x]? = some cv ∧ cv.vm.isStatics = false ∧ s.vm.classes[cv.cls]? = some kv ∧ s.vm.findClass C0 = some cC ∧ s.vm.assignable cv.cls cC = true)
    (hg : a_bdc (pc + 1, L, st, a_setR σ a i.toNatClampNeg (some x))) (K : a_W p l e R s m args below meth c Q nL n0 u0 v0 F ρ1 (pc + 1, L, st, a_setR σ a i.toNatClampNeg (some x))) : a_W p l e R s m args below meth c Q nL n0 u0 v0 F ρ1 (pc, L, .ref x :: .int i :: .ref a :: st, σ) := by
  intro ρ H locs cells slots ls h
  have hh : a_hp F ρ σ H := h.1
  obtain ⟨hx, hb, hml, hown, hts, hE, -⟩ := C
  have ha : 100 ≤ a := a_100 hh (by omega) (by omega) (by omega)
  obtain ⟨g1, g2, g3⟩ := hh.2.2.2.2.1 a ha (by omega)
  have hc := g3.2.2.1 hk
  obtain ⟨cv, kv, cC, v1, v2, v3, v4, v5⟩ := hx0 ρ H locs hh h.2.2.2.1
  obtain ⟨hA1, kA, comp, b1, b2, b3, b4⟩ := hE.2.1 _ _ hty
  cases v4.symm.trans b3
  obtain ⟨kc, hkc, -⟩ := Vm.findClass_spec b3
  refine W.aast (comp := cC) (t := .object C0) hx hb hc (fun q z => by cases z) (fun z => by cases z) (k := kA) b1 b2 rfl hkc ⟨hi.1, by rw [arrV_size]; exact hi.2⟩ v1 (fun q z => by rw [z] at v2; cases v2) v3 v5 rfl rfl hd fun H' e1 e2 e3 => ?_
  rw [arrV_store] at e1
  refine K ρ H' _ cells slots ls (a_at_put h hg g1 e2 e3 (a_hp_upd hh ha (by omega) rfl rfl (fun i k _ => rfl) (fun i k hi => if_neg fun z => hi z.1) (fun i k _ => rfl) e2 e3 ?_) rfl)
  have ek : a_kd (a_setR σ a i.toNatClampNeg (some x)) a = a_kd σ a := rfl
  refine ⟨fun z => by omega, fun z => by omega, fun _ => ?_, fun z => by omega⟩
  rw [ek, e1]
  refine congrArg some (congrArg (arrV _ _) (funext fun j => ?_))
  show (if j = i.toNatClampNeg then (Value.ref (ρ x)) else a_vm ρ (a_rf (a_R σ a j))) = a_vm ρ (a_rf (if a = a ∧ j = i.toNatClampNeg then some x else a_R σ a j))
  by_cases hj : j = i.toNatClampNeg
  · rw [if_pos hj, if_pos ⟨rfl, hj⟩]; rfl
  · rw [if_neg hj, if_neg fun z => hj z.2]
theorem as_aast {a x : Nat} {i : Int32} (C : a_ctx p l R s m args meth c cc nL own ini F) (hd : decode cc pc = .ok (.aastore, 1)) (hk : (a_kd σ a = 3 ∧ a_kd σ x = 6) ∨ (a_kd σ a = 4 ∧ a_kd σ x = 13)) (hi : a_in i (a_ln σ a))
    (hg : a_bdc (pc + 1, L, st, a_setR σ a i.toNatClampNeg (some x))) (K : a_W p l e R s m args below meth c Q nL n0 u0 v0 F ρ1 (pc + 1, L, st, a_setR σ a i.toNatClampNeg (some x))) : a_W p l e R s m args below meth c Q nL n0 u0 v0 F ρ1 (pc, L, .ref x :: .int i :: .ref a :: st, σ) := by
  have hE := C.2.2.2.2.2.1
  rcases hk with ⟨hk, hkx⟩ | ⟨hk, hkx⟩
  · refine a_aast (C0 := "java/lang/String") C hd (Or.inl hk) (by rw [hk]; rfl) hi (fun ρ H locs hh hS => ?_) hg K
    obtain ⟨q, hq, hqx⟩ := hh.2.2.2.2.2.2.1 x hkx
    obtain ⟨-, ⟨cell, c1, c2, c3, c4⟩, hlt⟩ := hE.2.2.2.2.1 q hq
    rw [hqx] at c1 c4 hlt
    obtain ⟨kC, hkC, -⟩ := Vm.findClass_spec c3
    have e1 : ρ x = f_r F x := hh.1 x hlt
    refine ⟨cell, kC, cell.cls, by rw [e1, hS.2.1 _ (Array.getElem?_eq_some_iff.mp c1).1 c4]; exact c1, c2, hkC, c3, ?_⟩
    have hcl := hE.1.1 0 _ rfl
    have hcl2 : ClassAt s "java/lang/String" ((f_D F).1 0) := hcl.2
    have := va_assign hcl2
    have e2 : (f_D F).1 0 = cell.cls := Option.some.inj (hcl2.1.symm.trans c3)
    rw [e2] at this
    exact this
  · refine a_aast (C0 := "PaletteTubes$Palette") C hd (Or.inr hk) (by rw [hk]; rfl) hi (fun ρ H locs hh hS => ?_) hg K
    obtain ⟨-, -, cell, q1, q2, q3, q4⟩ := a_obj (k := 3) hh hkx rfl
    have hcl : ClassAt s "PaletteTubes$Palette" ((f_D F).1 3) := (hE.1.1 3 _ rfl).2
    obtain ⟨kC, hkC, -⟩ := hcl.2
    exact ⟨cell, kC, (f_D F).1 3, q1, by rw [q3]; rfl, by rw [q2]; exact hkC, hcl.1, by rw [q2]; exact va_assign hcl⟩
theorem a_at_new {ρ : Nat → Nat} {pc' : Nat} {st' : List Value} {H H' : Heap} {locs : List Loc} {cells slots kd ln us : Nat} {ls : Array Slot} (hA : ∀ q, s.heap.size ≤ q → f_A F q) (h : a_at F s nL n0 ρ1 u0 v0 (pc, L, st, σ) ρ H locs cells slots ls) (hb : a_bdc (pc', L, st', a_new σ kd ln us)) (hz : H'.size = H.size + 1) (oq : ∀ q, q < H.size → H'[q]? = H[q]?) (h5 : kd ≠ 5) (h6 : kd ≠ 6)
    (hc : a_cell F (fun j => if j = a_n σ then H.size else ρ j) (a_new σ kd ln us) H' (a_n σ)) : a_at F s nL n0 ρ1 u0 v0 (pc', L, st', a_new σ kd ln us) (fun j => if j = a_n σ then H.size else ρ j) H' locs (cells + 1) (slots + us) ls := by
  obtain ⟨g1, g2, g3, g4, g5, g6, g7, g8⟩ := h
  have g1 : a_hp F ρ σ H := g1
  have g6 : n0 ≤ a_n σ := g6
  have g7 : a_uc σ = u0 + cells := g7
  have g8 : a_us σ = v0 + slots := g8
  have hx : ∀ i, i < a_n σ → (if i = a_n σ then H.size else ρ i) = ρ i := fun i hi => if_neg (by omega)
  refine ⟨a_hp_new g1 g2.2.2 (hA _ g4.1) hz oq h5 h6 hc, hb, a_lo_ext hx g2.1 g3, ⟨Nat.le_trans g4.1 (by omega), fun q h1 h2 => (oq q (Nat.lt_of_lt_of_le h1 g4.1)).trans (g4.2.1 q h1 h2), g4.2.2⟩, fun i hi => ?_, ?_, ?_, ?_⟩
  · show (if i = a_n σ then H.size else ρ i) = ρ1 i
    rw [hx i (by omega)]
    exact g5 i hi
  · show n0 ≤ a_n σ + 1
    omega
  · show a_uc σ + 1 = u0 + (cells + 1)
    omega
  · show a_us σ + us = v0 + (slots + us)
    omega
theorem a_new_st {ρ : Nat → Nat} {q : Nat} (hb : a_bds (a_n σ) st) : (Value.ref (a_n σ) :: st).map (a_vm fun j => if j = a_n σ then q else ρ j) = .ref q :: st.map (a_vm ρ) := by
  rw [List.map_cons, a_vms_ext (n := a_n σ) (fun i hi => if_neg (by omega)) hb]
  show Value.ref (if a_n σ = a_n σ then q else ρ (a_n σ)) :: _ = _
  rw [if_pos rfl]
theorem as_new {ix k : Nat} {q : vw_C} (C : a_ctx p l R s m args meth c cc nL own ini F) (hd : decode cc pc = .ok (.new ix, 3)) (hq : a_cls k q) (hl : Jvm.Cond.classLink own ix q.1 ∈ am_ws) (hi : Jvm.Cond.instantiable q.1 q.2.2 ∈ am_ws) (hn : Jvm.Cond.initialized q.1 ∈ am_ws) (hdf : ∀ j, j < q.2.2 → ∀ ty, parseFieldDescriptor (q.2.1 j).2.2.1 = some ty → defaultValue ty = if a_tag k j = true then .null else .int 0)
    (hbd : a_uc σ + 1 ≤ u0 + R.cells ∧ a_us σ + q.2.2 ≤ v0 + R.slots) (hg : a_bdc (pc + 3, L, .ref (a_n σ) :: st, a_new σ (10 + k) q.2.2 q.2.2)) (K : a_W p l e R s m args below meth c Q nL n0 u0 v0 F ρ1 (pc + 3, L, .ref (a_n σ) :: st, a_new σ (10 + k) q.2.2 q.2.2)) : a_W p l e R s m args below meth c Q nL n0 u0 v0 F ρ1 (pc, L, st, σ) := by
  intro ρ H locs cells slots ls h
  have hh : a_hp F ρ σ H := h.1
  have g7 : a_uc σ = u0 + cells := h.2.2.2.2.2.2.1
  have g8 : a_us σ = v0 + slots := h.2.2.2.2.2.2.2
  obtain ⟨hx, hb, hml, hown, hts, hE, hA, -⟩ := C
  obtain ⟨hq, hin, ⟨ty, hty⟩, -⟩ := hq
  have hKn := hE.1.1 k _ hq
  refine W.newcK hx hb hown (hts _ hl) (hts _ hi) (hts _ hn) rfl hd (by omega) (by omega) hKn.2.1 rfl fun H1 kC hkC e1 z1 o1 => ?_
  have K' := K _ H1 locs (cells + 1) (slots + q.2.2) ls (a_at_new hA h hg z1 o1 (by omega) (by omega) ?_)
  · rw [show ((pc + 3, L, Value.ref (a_n σ) :: st, a_new σ (10 + k) q.2.2 q.2.2) : aCfg).2.2.1 = Value.ref (a_n σ) :: st from rfl, a_new_st h.2.1.2.1] at K'
    exact K'
  · have ekd : a_kd (a_new σ (10 + k) q.2.2 q.2.2) (a_n σ) = 10 + k := congrArg Prod.fst (if_pos rfl)
    refine ⟨fun z => by omega, fun z => by omega, fun z => by omega, fun _ => ⟨q, by rw [ekd, show 10 + k - 10 = k by omega]; exact hq, ?_⟩⟩
    rw [ekd, show 10 + k - 10 = k by omega]
    show t_OB (if a_n σ = a_n σ then H.size else ρ (a_n σ)) _ _ _ _ _
    rw [if_pos rfl]
    refine (u_born ty hts hin hKn hkC e1 hty).to fun j hj => ?_
    rw [hdf j hj _ (hty j hj)]
    unfold a_fv
    have e2 : a_R (a_new σ (10 + k) q.2.2 q.2.2) (a_n σ) j = none := if_pos rfl
    have e3 : a_I (a_new σ (10 + k) q.2.2 q.2.2) (a_n σ) j = 0 := if_pos rfl
    rw [e2, e3]
    rfl
theorem as_newarray {k : Nat} {n : Int32} {at9 : ArrayType} (C : a_ctx p l R s m args meth c cc nL own ini F) (hd : decode cc pc = .ok (.newarray at9, 2)) (hk : (at9 = .int ∧ k = 1) ∨ (at9 = .long ∧ k = 2)) (hw : Jvm.Cond.arrayClass (newarray.typeOf at9) ∈ am_ws) (hn : ¬ n < 0 ∧ n.toNatClampNeg ≤ 65536)
    (hbd : a_uc σ + 1 ≤ u0 + R.cells ∧ a_us σ + n.toNatClampNeg ≤ v0 + R.slots) (hg : a_bdc (pc + 2, L, .ref (a_n σ) :: st, a_new σ k n.toNatClampNeg n.toNatClampNeg)) (K : a_W p l e R s m args below meth c Q nL n0 u0 v0 F ρ1 (pc + 2, L, .ref (a_n σ) :: st, a_new σ k n.toNatClampNeg n.toNatClampNeg)) : a_W p l e R s m args below meth c Q nL n0 u0 v0 F ρ1 (pc, L, .int n :: st, σ) := by
  intro ρ H locs cells slots ls h
  have hh : a_hp F ρ σ H := h.1
  have g7 : a_uc σ = u0 + cells := h.2.2.2.2.2.2.1
  have g8 : a_us σ = v0 + slots := h.2.2.2.2.2.2.2
  obtain ⟨hx, hb, hml, hown, hts, hE, hA, -⟩ := C
  have hcb : n.toNatClampNeg * componentBytes (newarray.typeOf at9) ≤ 536870912 := by
    rcases hk with ⟨rfl, -⟩ | ⟨rfl, -⟩
    · show n.toNatClampNeg * 4 ≤ _; omega
    · show n.toNatClampNeg * 8 ≤ _; omega
  have fin : ∀ (H' : Heap) (cA : ClassId), H'[H.size]? = some (arrV cA n.toNatClampNeg (fun _ => defaultValue (newarray.typeOf at9))) → H'.size = H.size + 1 → (∀ q, q < H.size → H'[q]? = H[q]?) → s.vm.findClass ("[" ++ (newarray.typeOf at9).toString) = some cA → W p l e R s m args below meth c H' locs (cells + 1) (slots + n.toNatClampNeg) Q (F0 m (pc + 2) ls (.ref H.size :: st.map (a_vm ρ))) := by
    intro H' cA e1 z1 o1 hf
    have K' := K _ H' locs (cells + 1) (slots + n.toNatClampNeg) ls (a_at_new hA h hg z1 o1 (by omega) (by omega) ?_)
    · rw [show ((pc + 2, L, Value.ref (a_n σ) :: st, a_new σ k n.toNatClampNeg n.toNatClampNeg) : aCfg).2.2.1 = Value.ref (a_n σ) :: st from rfl, a_new_st (a_bds_cons.mp h.2.1.2.1).2] at K'
      exact K'
    · have ekd : a_kd (a_new σ k n.toNatClampNeg n.toNatClampNeg) (a_n σ) = k := congrArg Prod.fst (if_pos rfl)
      have eln : a_ln (a_new σ k n.toNatClampNeg n.toNatClampNeg) (a_n σ) = n.toNatClampNeg := congrArg Prod.snd (if_pos rfl)
      have er : (if a_n σ = a_n σ then H.size else ρ (a_n σ)) = H.size := if_pos rfl
      have eI : ∀ j, a_I (a_new σ k n.toNatClampNeg n.toNatClampNeg) (a_n σ) j = 0 := fun j => if_pos rfl
      have eL : ∀ j, a_L (a_new σ k n.toNatClampNeg n.toNatClampNeg) (a_n σ) j = 0 := fun j => if_pos rfl
      rcases hk with ⟨rfl, rfl⟩ | ⟨rfl, rfl⟩
      · have ht : f_t F 1 = cA := Option.some.inj ((show s.vm.findClass ("[" ++ (FieldType.int).toString) = some (f_t F 1) from (hE.2.1 1 _ rfl).2).symm.trans hf)
        refine ⟨fun _ => ?_, fun z => by omega, fun z => by omega, fun z => by omega⟩
        show H'[if a_n σ = a_n σ then H.size else ρ (a_n σ)]? = _
        rw [er, ekd, eln, ht, e1]
        exact congrArg some (congrArg (arrV _ _) (funext fun j => by rw [eI]; rfl))
      · have ht : f_t F 2 = cA := Option.some.inj ((show s.vm.findClass ("[" ++ (FieldType.long).toString) = some (f_t F 2) from (hE.2.1 2 _ rfl).2).symm.trans hf)
        refine ⟨fun z => by omega, fun _ => ?_, fun z => by omega, fun z => by omega⟩
        show H'[if a_n σ = a_n σ then H.size else ρ (a_n σ)]? = _
        rw [er, eln, ht, e1]
        exact congrArg some (congrArg (arrV _ _) (funext fun j => by rw [eL]; rfl))
  exact va_newaK hx hb (hts _ hw) rfl hd rfl hn.1 rfl hcb (by omega) (by omega) rfl fun H' cA e1 z1 o1 _ hf => fin H' cA e1 z1 o1 hf
theorem as_anewarray {k ix : Nat} {n : Int32} {C0 : String} (C : a_ctx p l R s m args meth c cc nL own ini F) (hd : decode cc pc = .ok (.anewarray ix, 3)) (hk : (C0 = "java/lang/String" ∧ k = 3) ∨ (C0 = "PaletteTubes$Palette" ∧ k = 4)) (hw : Jvm.Cond.classLink own ix C0 ∈ am_ws) (hn : ¬ n < 0 ∧ n.toNatClampNeg ≤ 65536)
    (hbd : a_uc σ + 1 ≤ u0 + R.cells ∧ a_us σ + n.toNatClampNeg ≤ v0 + R.slots) (hg : a_bdc (pc + 3, L, .ref (a_n σ) :: st, a_new σ k n.toNatClampNeg n.toNatClampNeg)) (K : a_W p l e R s m args below meth c Q nL n0 u0 v0 F ρ1 (pc + 3, L, .ref (a_n σ) :: st, a_new σ k n.toNatClampNeg n.toNatClampNeg)) : a_W p l e R s m args below meth c Q nL n0 u0 v0 F ρ1 (pc, L, .int n :: st, σ) := by
  intro ρ H locs cells slots ls h
  have g7 : a_uc σ = u0 + cells := h.2.2.2.2.2.2.1
  have g8 : a_us σ = v0 + slots := h.2.2.2.2.2.2.2
  obtain ⟨hx, hb, hml, hown, hts, hE, hA, -⟩ := C
  have hao : va_AO C0 s := by
    rcases hk with ⟨rfl, -⟩ | ⟨rfl, -⟩
    · exact hE.2.2.2.2.2.2.1.1
    · exact hE.2.2.2.2.2.2.1.2
  have hbytes : n.toNatClampNeg * 4 ≤ 536870912 := by omega
  refine W.anew hx hb hown (hts _ hw) (va_AO.use hao) rfl hd rfl hn.1 hbytes (by omega) (by omega) fun cA kA comp f1 f2 f3 f4 => ?_
  generalize hH1 : H.push ({ cls := cA, slots := Array.replicate n.toNatClampNeg .null, vm := .none } : Cell) = H'
  have z1 : H'.size = H.size + 1 := by rw [← hH1, Array.size_push]
  have e1 : H'[H.size]? = some (arrV cA n.toNatClampNeg (fun _ => .null)) := by rw [← hH1, Array.getElem?_push_size, ← arrV_new]
  have o1 : ∀ q : Nat, q < H.size → H'[q]? = H[q]? := fun q hq => by rw [← hH1, Array.getElem?_push, if_neg (Nat.ne_of_lt hq)]
  have K' := K _ H' locs (cells + 1) (slots + n.toNatClampNeg) ls (a_at_new hA h hg z1 o1 (by omega) (by omega) ?_)
  · rw [show ((pc + 3, L, Value.ref (a_n σ) :: st, a_new σ k n.toNatClampNeg n.toNatClampNeg) : aCfg).2.2.1 = Value.ref (a_n σ) :: st from rfl, a_new_st (a_bds_cons.mp h.2.1.2.1).2] at K'
    exact K'
  · have ekd : a_kd (a_new σ k n.toNatClampNeg n.toNatClampNeg) (a_n σ) = k := congrArg Prod.fst (if_pos rfl)
    have eln : a_ln (a_new σ k n.toNatClampNeg n.toNatClampNeg) (a_n σ) = n.toNatClampNeg := congrArg Prod.snd (if_pos rfl)
    have er : (if a_n σ = a_n σ then H.size else ρ (a_n σ)) = H.size := if_pos rfl
    have eR : ∀ j, a_R (a_new σ k n.toNatClampNeg n.toNatClampNeg) (a_n σ) j = none := fun j => if_pos rfl
    have ht : f_t F k = cA := by
      rcases hk with ⟨rfl, rfl⟩ | ⟨rfl, rfl⟩
      · obtain ⟨_, _, _, _, _, b⟩ := (hE.2.1 3 _ rfl).2
        exact Option.some.inj (b.symm.trans f1)
      · obtain ⟨_, _, _, _, _, b⟩ := (hE.2.1 4 _ rfl).2
        exact Option.some.inj (b.symm.trans f1)
    have hk' : k = 3 ∨ k = 4 := by omega
    refine ⟨fun z => by omega, fun z => by omega, fun _ => ?_, fun z => by omega⟩
    show H'[if a_n σ = a_n σ then H.size else ρ (a_n σ)]? = _
    rw [er, ekd, eln, ht, e1]
    exact congrArg some (congrArg (arrV _ _) (funext fun j => by rw [eR]; rfl))
/-- Object's own constructor -/
theorem as_objInit {ix a : Nat} (C : a_ctx p l R s m args meth c cc nL own ini F) (hd : decode cc pc = .ok (.invokespecial ix, 3)) (hl : Jvm.Cond.methodLink own ix Lib.objectInit ∈ am_ws) (hi : Jvm.Cond.instanceMethod Lib.objectInit ∈ am_ws) (hc : Jvm.Cond.code Lib.objectInit ⟨#[0xb1]⟩ 1 none ∈ am_ws) (hst : (st.map fun v => v.category).sum ≤ 8) (hg : a_bdc (pc + 3, L, st, σ)) (K : a_W p l e R s m args below meth c Q nL n0 u0 v0 F ρ1 (pc + 3, L, st, σ)) : a_W p l e R s m args below meth c Q nL n0 u0 v0 F ρ1 (pc, L, .ref a :: st, σ) := by
  intro ρ H locs cells slots ls h
  have hlo : a_lo ρ L nL ls := h.2.2.1
  obtain ⟨hx, hb, hml, hown, hts, hE, hA, -, -, -, hf, hlc, -⟩ := C
  refine W.objInit hx hb hown (hts _ hl) (hts _ hi) (hts _ hc) rfl (by rw [hml]; exact hlo.2.1) rfl hd (by omega) ?_ (K ρ H locs cells slots ls (a_at_go h hg))
  have e1 := a_vm_sum ρ st
  show 2 * 0 + ((st.map (a_vm ρ)).map fun v => v.category).sum + 12 ≤ R.locals
  omega
theorem as_bast {a : Nat} {i x : Int32} (C : a_ctx p l R s m args meth c cc nL own ini F) (hd : decode cc pc = .ok (.bastore, 1)) (hk : a_kd σ a = 7) (hi : a_in i (a_ln σ a)) (hg : a_bdc (pc + 1, L, st, a_setI σ a i.toNatClampNeg (vp_nar .byte x))) (K : a_W p l e R s m args below meth c Q nL n0 u0 v0 F ρ1 (pc + 1, L, st, a_setI σ a i.toNatClampNeg (vp_nar .byte x))) : a_W p l e R s m args below meth c Q nL n0 u0 v0 F ρ1 (pc, L, .int x :: .int i :: .ref a :: st, σ) := by
  intro ρ H locs cells slots ls h
  have hh : a_hp F ρ σ H := h.1
  obtain ⟨hx, hb, hml, hown, hts, hE, -⟩ := C
  have ha : 100 ≤ a := a_100 hh (by omega) (by omega) (by omega)
  obtain ⟨g1, g2, g3⟩ := hh.2.2.2.2.1 a ha (by omega)
  have hc := g3.1 (Or.inr hk)
  rw [hk] at hc
  refine W.bast hx hb hc ((hE.2.1 7 _ rfl).1 _ _) (fun z => by cases z) (by rw [arrV_size]; exact a_vpin hi) rfl rfl hd fun H' e1 e2 e3 => ?_
  rw [arrV_store] at e1
  refine K ρ H' _ cells slots ls (a_at_put h hg g1 e2 e3 (a_hp_upd hh ha (by omega) rfl rfl (fun i k hi => if_neg fun z => hi z.1) (fun i k _ => rfl) (fun i k _ => rfl) e2 e3 ?_) rfl)
  have ek : a_kd (a_setI σ a i.toNatClampNeg (vp_nar .byte x)) a = 7 := hk
  refine ⟨fun _ => ?_, fun z => by omega, fun z => by omega, fun z => by omega⟩
  rw [ek, e1]
  refine congrArg some (congrArg (arrV _ _) (funext fun j => ?_))
  show updV (fun j => Value.int (a_I σ a j)) i.toNatClampNeg _ j = .int (if a = a ∧ j = i.toNatClampNeg then vp_nar .byte x else a_I σ a j)
  by_cases hj : j = i.toNatClampNeg
  · subst hj
    simp [updV, vp_nar]
    try rfl
  · simp [updV, hj]
theorem as_newb {n : Int32} (C : a_ctx p l R s m args meth c cc nL own ini F) (hd : decode cc pc = .ok (.newarray .byte, 2)) (hw : Jvm.Cond.arrayClass (newarray.typeOf .byte) ∈ am_ws) (hn : ¬ n < 0 ∧ n.toNatClampNeg ≤ 65536)
    (hbd : a_uc σ + 1 ≤ u0 + R.cells ∧ a_us σ + n.toNatClampNeg ≤ v0 + R.slots) (hg : a_bdc (pc + 2, L, .ref (a_n σ) :: st, a_new σ 7 n.toNatClampNeg n.toNatClampNeg)) (K : a_W p l e R s m args below meth c Q nL n0 u0 v0 F ρ1 (pc + 2, L, .ref (a_n σ) :: st, a_new σ 7 n.toNatClampNeg n.toNatClampNeg)) : a_W p l e R s m args below meth c Q nL n0 u0 v0 F ρ1 (pc, L, .int n :: st, σ) := by
  intro ρ H locs cells slots ls h
  have hh : a_hp F ρ σ H := h.1
  have g7 : a_uc σ = u0 + cells := h.2.2.2.2.2.2.1
  have g8 : a_us σ = v0 + slots := h.2.2.2.2.2.2.2
  obtain ⟨hx, hb, hml, hown, hts, hE, hA, -⟩ := C
  have hcb : n.toNatClampNeg * componentBytes (newarray.typeOf .byte) ≤ 536870912 := by
    show n.toNatClampNeg * 1 ≤ _
    omega
  have fin : ∀ (H' : Heap) (cA : ClassId), H'[H.size]? = some (arrV cA n.toNatClampNeg (fun _ => defaultValue (newarray.typeOf .byte))) → H'.size = H.size + 1 → (∀ q, q < H.size → H'[q]? = H[q]?) → s.vm.findClass ("[" ++ (newarray.typeOf .byte).toString) = some cA → W p l e R s m args below meth c H' locs (cells + 1) (slots + n.toNatClampNeg) Q (F0 m (pc + 2) ls (.ref H.size :: st.map (a_vm ρ))) := by
    intro H' cA e1 z1 o1 hf
    have K' := K _ H' locs (cells + 1) (slots + n.toNatClampNeg) ls (a_at_new hA h hg z1 o1 (by omega) (by omega) ?_)
    · rw [show ((pc + 2, L, Value.ref (a_n σ) :: st, a_new σ 7 n.toNatClampNeg n.toNatClampNeg) : aCfg).2.2.1 = Value.ref (a_n σ) :: st from rfl, a_new_st (a_bds_cons.mp h.2.1.2.1).2] at K'
      exact K'
    · have ekd : a_kd (a_new σ 7 n.toNatClampNeg n.toNatClampNeg) (a_n σ) = 7 := congrArg Prod.fst (if_pos rfl)
      have eln : a_ln (a_new σ 7 n.toNatClampNeg n.toNatClampNeg) (a_n σ) = n.toNatClampNeg := congrArg Prod.snd (if_pos rfl)
      have er : (if a_n σ = a_n σ then H.size else ρ (a_n σ)) = H.size := if_pos rfl
      have eI : ∀ j, a_I (a_new σ 7 n.toNatClampNeg n.toNatClampNeg) (a_n σ) j = 0 := fun j => if_pos rfl
      have ht : f_t F 7 = cA := Option.some.inj ((show s.vm.findClass ("[" ++ (FieldType.byte).toString) = some (f_t F 7) from (hE.2.1 7 _ rfl).2).symm.trans hf)
      refine ⟨fun _ => ?_, fun z => by omega, fun z => by omega, fun z => by omega⟩
      show H'[if a_n σ = a_n σ then H.size else ρ (a_n σ)]? = _
      rw [er, ekd, eln, ht, e1]
      exact congrArg some (congrArg (arrV _ _) (funext fun j => by rw [eI]; rfl))
  exact va_newaK hx hb (hts _ hw) rfl hd rfl hn.1 rfl hcb (by omega) (by omega) rfl fun H' cA e1 z1 o1 _ hf => fin H' cA e1 z1 o1 hf
end AMK
