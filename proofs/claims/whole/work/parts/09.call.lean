/-! CALLS, RETURNS, THROWS -/
def a_Pc (F : aFix) (ρ : Nat → Nat) (as : List Value) (σ : aSt) : Array Value → State → Prop := fun v U => v = (as.map (a_vm ρ)).toArray ∧ a_env F U U.heap ∧ a_hp F ρ σ U.heap
def a_Qc (F : aFix) (ρ : Nat → Nat) (σ : aSt) (res : aRes) (σ' : aSt) : Array Value → State → Outcome → State → Prop := fun _ st o t => ∃ (v : Option Value) (ρ' : Nat → Nat), res = .inl v ∧ o = .returned (v.map (a_vm ρ')) ∧ (∀ i, i < a_n σ → ρ' i = ρ i) ∧ a_hp F ρ' σ' t.heap ∧ va_F (f_A F) st t
def a_Xc (F : aFix) (ρ : Nat → Nat) (σ : aSt) (res : aRes) (σ' : aSt) : String → State → State → Prop := fun E st t => ∃ (x : Nat) (ρ' : Nat → Nat), res = .inr x ∧ E = a_exn x ∧ (∀ i, i < a_n σ → ρ' i = ρ i) ∧ a_hp F ρ' σ' t.heap ∧ va_F (f_A F) st t
def a_room (d mc ms : Nat) : Room := { frames := d + 16, cells := mc, slots := ms, locals := 60 * d + 300 }
theorem a_room_f (d mc ms : Nat) : (a_room d mc ms).frames = d + 16 := rfl
theorem a_room_l (d mc ms : Nat) : (a_room d mc ms).locals = 60 * d + 300 := rfl
/-- the contract of a method of the table at given operands and a given state -/
def a_met (l : Launch) (F : aFix) (m9 : aMeth) (d : Nat) (as : List Value) (σ : aSt) (res : aRes) (σ' : aSt) : Prop := ∀ ρ : Nat → Nat, vx_Met l (m_y m9) (a_mws m9) (a_room d (a_uc σ' - a_uc σ) (a_us σ' - a_us σ)) (a_Pc F ρ as σ) (a_Qc F ρ σ res σ') (a_Xc F ρ σ res σ') (a_uc σ' - a_uc σ) (a_us σ' - a_us σ) (f_A F)
theorem a_Pc_blind {F : aFix} (hF : a_fix F) {ρ : Nat → Nat} {as : List Value} {σ : aSt} : FrameBlind (a_Pc F ρ as σ) := fun a U g mk h =>
  ⟨h.1, a_env_go (U := U.calling g mk a) hF h.2.1 (State.WarmedH.refl U) (Nat.le_refl _) (fun _ _ _ => rfl), h.2.2⟩
theorem a_mws_good {m9 : aMeth} (h : a_mok m9) : GoodIn am_ws (a_mws m9) := fun w hw => (List.mem_cons.mp hw).elim (fun z => by rw [z]; exact am_good _ h.1) (am_good w)
theorem a_split {st : List Value} {n : Nat} {v : Value} (h1 : 1 ≤ n) (hv : st[n - 1]? = some v) : ∃ As : List Value, (st.take n).reverse = v :: As ∧ st = As.reverse ++ v :: st.drop n ∧ As.length = n - 1 := by
  have hl : n - 1 < st.length := (List.getElem?_eq_some_iff.mp hv).1
  have e1 : st.take n = st.take (n - 1) ++ [v] := by
    have := List.take_add_one (l := st) (i := n - 1)
    rw [show n - 1 + 1 = n by omega, hv] at this
    simpa using this
  refine ⟨(st.take (n - 1)).reverse, by rw [e1]; simp, ?_, by simp; omega⟩
  have e2 := List.take_append_drop n st
  rw [e1] at e2
  simpa using e2.symm
section ACALL
variable {p : Program} {l : Launch} {e : Env} {R : Room} {s : State} {m : MethodId} {args : Array Value} {below : List Frame} {meth : Method} {c : Code} {Q : State → Prop} {cc : ByteArray} {nL n0 u0 v0 : Nat} {own : String} {ini : Bool} {F : aFix} {ρ1 : Nat → Nat}
variable {pc : Nat} {L : List (Option Value)} {st : List Value} {σ : aSt}
theorem a_at_call {ρ ρ' : Nat → Nat} {pc' : Nat} {st' : List Value} {σ' : aSt} {H H1 : Heap} {locs L9 : List Loc} {cells slots : Nat} {ls : Array Slot} (h : a_at F s nL n0 ρ1 u0 v0 (pc, L, st, σ) ρ H locs cells slots ls) (hle : a_le σ σ') (hb : a_bdc (pc', L, st', σ')) (hx : ∀ i, i < a_n σ → ρ' i = ρ i) (hh : a_hp F ρ' σ' H1) (hz : H.size ≤ H1.size) (hk : ∀ q : Nat, q < H.size → ¬ f_A F q → H1[q]? = H[q]?) (hL : ∀ z ∈ L9, f_A F z.base) :
    a_at F s nL n0 ρ1 u0 v0 (pc', L, st', σ') ρ' H1 (locs ++ L9) (cells + (a_uc σ' - a_uc σ)) (slots + (a_us σ' - a_us σ)) ls := by
  obtain ⟨g1, g2, g3, g4, g5, g6, g7, g8⟩ := h
  have g6 : n0 ≤ a_n σ := g6
  have g7 : a_uc σ = u0 + cells := g7
  have g8 : a_us σ = v0 + slots := g8
  obtain ⟨l1, l2, l3⟩ := hle
  refine ⟨hh, hb, a_lo_ext hx g2.1 g3, ⟨Nat.le_trans g4.1 hz, fun q h1 h2 => (hk q (Nat.lt_of_lt_of_le h1 g4.1) h2).trans (g4.2.1 q h1 h2), fun z hz9 => (List.mem_append.mp hz9).elim (g4.2.2 z) (hL z)⟩, fun i hi => (hx i (by omega)).trans (g5 i hi), ?_, ?_, ?_⟩
  · show n0 ≤ a_n σ'
    omega
  · show a_uc σ' = u0 + (cells + (a_uc σ' - a_uc σ))
    omega
  · show a_us σ' = v0 + (slots + (a_us σ' - a_us σ))
    omega
/-- from a run of the callee to the goal -/
theorem a_vxrun {mc ms : Nat} {H : Heap} {locs : List Loc} {cells slots : Nat} {ls : Array Slot} {st0 rest : List Value} {Qa : State → Outcome → State → Prop} {XC : String → State → State → Prop} {A9 : Nat → Prop} (hr : vx_Run p l e R s m args below meth c H locs cells slots mc ms (F0 m pc ls st0) rest Qa XC A9)
    (kk : ∀ (v : Option Value) (st₀ t : State) (L9 : List Loc), st₀.heap = H → Qa st₀ (.returned v) t → (∀ z ∈ L9, A9 z.base) → W p l e R s m args below meth c t.heap (locs ++ L9) (cells + mc) (slots + ms) Q (F0 m (pc + 3) ls (v.toList ++ rest)))
    (kx : ∀ (q : Addr) (st₀ t : State) (L9 : List Loc) (E : String) (ce : Cell), st₀.heap = H → XC E st₀ t → (∀ z ∈ L9, A9 z.base) → t.heap[q]? = some ce → ce.vm = .none → s.vm.findClass E = some ce.cls → vx_W p l e R s m args below meth c t.heap (locs ++ L9) (cells + mc) (slots + ms) Q (F0 m pc ls rest) q) : W p l e R s m args below meth c H locs cells slots Q (F0 m pc ls st0) := by
  intro T hT X
  rcases hr T hT X with ⟨v, st₀, t, T', L9, h0, X', hL, e1, e2, hq, hs⟩ | ⟨q, st₀, t, T', L9, E, ce, h0, X', hL, e1, e2, hx, hce, hcv, hcl, hs⟩
  · obtain ⟨t2, a1, b1⟩ := kk v st₀ t L9 h0 hq hL T' e1 X'
    exact ⟨t2, hs t2 a1, b1⟩
  · obtain ⟨t2, a1, b1⟩ := kx q st₀ t L9 E ce h0 hx hL hce hcv hcl T' e1 X'
    exact ⟨t2, hs.trans a1, b1⟩
/-- what is to be shown where a callee has thrown x -/
def a_KX (p : Program) (l : Launch) (e : Env) (R : Room) (s : State) (m : MethodId) (args : Array Value) (below : List Frame) (meth : Method) (c : Code) (Q : State → Prop) (nL n0 u0 v0 : Nat) (F : aFix) (ρ1 : Nat → Nat) (pc : Nat) (L : List (Option Value)) (rest : List Value) (σ' : aSt) (x : Nat) : Prop :=
  ∀ (ρ' : Nat → Nat) (H1 : Heap) (locs1 : List Loc) (cells1 slots1 : Nat) (ls : Array Slot) (q : Addr) (ce : Cell), a_at F s nL n0 ρ1 u0 v0 (pc, L, rest, σ') ρ' H1 locs1 cells1 slots1 ls → H1[q]? = some ce → ce.vm = .none → s.vm.findClass (a_exn x) = some ce.cls → vx_W p l e R s m args below meth c H1 locs1 cells1 slots1 Q (F0 m pc ls (rest.map (a_vm ρ'))) q
theorem a_bds_app {n : Nat} {v : Option Value} {rest : List Value} (hv : ∀ w, v = some w → a_bd n w) (h : a_bds n rest) : a_bds n (v.toList ++ rest) := by
  cases v with
  | none => exact h
  | some w => exact a_bds_cons.mpr ⟨hv w rfl, h⟩
theorem a_call_run {ρ : Nat → Nat} {σ' : aSt} {res : aRes} {H : Heap} {locs : List Loc} {cells slots : Nat} {ls : Array Slot} {rest : List Value} {a : Array Value} (h : a_at F s nL n0 ρ1 u0 v0 (pc, L, st, σ) ρ H locs cells slots ls) (hrest : a_bds (a_n σ) rest) (hle : a_le σ σ') (hR : a_bdR σ') (hv : ∀ v, res = .inl (some v) → a_bd (a_n σ') v)
    (hr : vx_Run p l e R s m args below meth c H locs cells slots (a_uc σ' - a_uc σ) (a_us σ' - a_us σ) (F0 m pc ls (st.map (a_vm ρ))) (rest.map (a_vm ρ)) (a_Qc F ρ σ res σ' a) (a_Xc F ρ σ res σ') (f_A F))
    (kk : ∀ v, res = .inl v → a_W p l e R s m args below meth c Q nL n0 u0 v0 F ρ1 (pc + 3, L, v.toList ++ rest, σ'))
    (kx : ∀ x, res = .inr x → a_KX p l e R s m args below meth c Q nL n0 u0 v0 F ρ1 pc L rest σ' x) : W p l e R s m args below meth c H locs cells slots Q (F0 m pc ls (st.map (a_vm ρ))) := by
  have hL0 : a_bdl (a_n σ) L := h.2.1.1
  refine a_vxrun hr (fun v9 st₀ t L9 h0 hq hL => ?_) (fun q st₀ t L9 E ce h0 hx hL hce hcv hcl => ?_)
  · obtain ⟨v, ρ', e1, e2, e3, e4, e5, e6⟩ := hq
    cases e2
    rw [h0] at e5 e6
    have hb : a_bdc (pc + 3, L, v.toList ++ rest, σ') := ⟨hL0.mono hle.1, a_bds_app (fun w hw => hv w (by rw [e1, hw])) (hrest.mono hle.1), hR⟩
    have K := kk v e1 ρ' t.heap (locs ++ L9) _ _ ls (a_at_call h hle hb e3 e4 e5 e6 hL)
    have e7 : ((pc + 3, L, v.toList ++ rest, σ') : aCfg).2.2.1.map (a_vm ρ') = (v.map (a_vm ρ')).toList ++ rest.map (a_vm ρ) := by
      show (v.toList ++ rest).map (a_vm ρ') = _
      rw [List.map_append, a_vms_ext e3 hrest]
      cases v <;> rfl
    rw [e7] at K
    exact K
  · obtain ⟨x, ρ', e1, e2, e3, e4, e5, e6⟩ := hx
    rw [h0] at e5 e6
    subst e2
    have hb : a_bdc (pc, L, rest, σ') := ⟨hL0.mono hle.1, hrest.mono hle.1, hR⟩
    have K := kx x e1 ρ' t.heap (locs ++ L9) _ _ ls q ce (a_at_call h hle hb e3 e4 e5 e6 hL) hce hcv hcl
    rw [a_vms_ext e3 hrest] at K
    exact K
theorem a_cword0 {m9 : aMeth} (h : m_hh m9 = []) : a_mws m9 = Jvm.Cond.code (m_y m9) (m_cc m9) (m_L m9) (m_ret m9) :: am_ws := by
  unfold a_mws a_cword
  rw [h]
theorem a_cword1 {m9 : aMeth} (h : m_hh m9 ≠ []) : a_mws m9 = Jvm.Cond.codeWith (m_y m9) (m_cc m9) (m_L m9) (m_ret m9) (a_hr m9) :: am_ws := by
  unfold a_mws a_cword
  split
  · rename_i z; exact absurd z h
  · rfl
/-- the callee's start, in the caller's words -/
theorem a_pre {ρ : Nat → Nat} {H : Heap} {locs : List Loc} {cells slots : Nat} {ls : Array Slot} {as : List Value} {av : Array Value} (C : a_ctx p l R s m args meth c cc nL own ini F) (h : a_at F s nL n0 ρ1 u0 v0 (pc, L, st, σ) ρ H locs cells slots ls) (hav : av = (as.map (a_vm ρ)).toArray) : ∀ U : State, U.heap = H → s.WarmedH U.vm → a_Pc F ρ as σ av U := fun U hU hW =>
  ⟨hav, by rw [hU]; exact a_env_go C.2.2.2.2.2.2.2.2.2.2.2.2 C.2.2.2.2.2.1 hW h.2.2.2.1.1 h.2.2.2.1.2.1, by rw [hU]; exact h.1⟩
theorem a_callV {ix n d : Nat} {r : aRef} {m9 : aMeth} {res : aRes} {σ' : aSt} {b0 : Nat} (C : a_ctx p l R s m args meth c cc nL own ini F) (hd : decode cc pc = .ok (.invokevirtual ix, 3)) (hw : a_wfV own ix r m9) (hn : n = r.2.1) (hlen : n ≤ st.length) (hsum : ((st.drop n).map fun v => v.category).sum ≤ 8) (hb0 : st[n - 1]? = some (.ref b0)) (hk0 : a_kd σ b0 = r.2.2)
    (hM : a_met l F m9 d ((st.take n).reverse) σ res σ') (hRf : d + 17 ≤ R.frames) (hRl : 60 * d + 360 ≤ R.locals) (hbs : a_bds (a_n σ) st) (hle : a_le σ σ') (hR : a_bdR σ') (hv : ∀ v, res = .inl (some v) → a_bd (a_n σ') v) (hB : a_uc σ' ≤ u0 + R.cells ∧ a_us σ' ≤ v0 + R.slots)
    (kk : ∀ v, res = .inl v → a_W p l e R s m args below meth c Q nL n0 u0 v0 F ρ1 (pc + 3, L, v.toList ++ st.drop n, σ'))
    (kx : ∀ x, res = .inr x → a_KX p l e R s m args below meth c Q nL n0 u0 v0 F ρ1 pc L (st.drop n) σ' x) : a_W p l e R s m args below meth c Q nL n0 u0 v0 F ρ1 (pc, L, st, σ) := by
  intro ρ H locs cells slots ls h
  obtain ⟨hok, h0, w1, w2, h1, hnp, hrc⟩ := hw
  subst hn
  obtain ⟨As, a1, a2, a3⟩ := a_split h1 hb0
  have g7 : a_uc σ = u0 + cells := h.2.2.2.2.2.2.1
  have g8 : a_us σ = v0 + slots := h.2.2.2.2.2.2.2
  have hh : a_hp F ρ σ H := h.1
  obtain ⟨hx, hb, hml, hown, hts, hE, -⟩ := id C
  obtain ⟨ok1, ok2, ok3, ok4, ok5, ok6⟩ := id hok
  have hCs : ∃ Cn : String, (∃ cellB : Cell, H[ρ b0]? = some cellB ∧ cellB.vm.isStatics = false ∧ s.vm.findClass Cn = some cellB.cls) ∧ a_selw Cn (m_y m9) := by
    rcases hrc with ⟨k, q, hq, hr2, hsw⟩ | ⟨hr2, hsw⟩
    · obtain ⟨-, -, cell, q1, q2, q3, -⟩ := a_obj (k := k) hh (hk0.trans hr2) hq
      exact ⟨q.1, ⟨cell, q1, by rw [q3]; rfl, by rw [q2]; exact (hE.1.1 k q hq).2.1⟩, hsw⟩
    · obtain ⟨q, hqT, hqi⟩ := hh.2.2.2.2.2.2.1 b0 (hk0.trans hr2)
      obtain ⟨-, ⟨cell, q1, q2, q3, q4⟩, q5⟩ := hE.2.2.2.2.1 q hqT
      have eρ : ρ b0 = f_r F q.2.2.1 := by rw [← hqi]; exact hh.1 _ q5
      refine ⟨"java/lang/String", ⟨cell, ?_, q2, q3⟩, hsw⟩
      rw [eρ]
      have hlt : f_r F q.2.2.1 < s.heap.size := (Array.getElem?_eq_some_iff.mp q1).1
      rw [← q1]
      exact h.2.2.2.1.2.1 _ hlt q4
  obtain ⟨Cn, hrecv, hsw⟩ := hCs
  obtain ⟨l1, l2, l3⟩ := id hle
  have hf1 : (a_room d (a_uc σ' - a_uc σ) (a_us σ' - a_us σ)).frames + 1 ≤ R.frames := (fun x hx => by omega : ∀ x : Nat, x = d + 16 → x + 1 ≤ R.frames) _ (a_room_f _ _ _)
  have hf2 : 8 + (m_L m9 + 11) + (a_room d (a_uc σ' - a_uc σ) (a_us σ' - a_us σ)).locals ≤ R.locals := (fun x hx => by omega : ∀ x : Nat, x = 60 * d + 300 → 8 + (m_L m9 + 11) + x ≤ R.locals) _ (a_room_l _ _ _)
  have cw : CallW R s args own Cn ix (m_y m9) (m_cc m9) (m_L m9) (m_ret m9) (a_mws m9) (a_room d (a_uc σ' - a_uc σ) (a_us σ' - a_us σ)) (a_uc σ' - a_uc σ) (a_us σ' - a_us σ) (r.2.1 - 1) := ⟨callB_of (r.2.1 - 1) hts (a_mws_good hok) (a_cword0 h0) rfl rfl (hts _ ok4) (hts _ w1) ⟨ok3.1, ok3.2, hnp⟩ ⟨hf1, hf2⟩, hts _ w2, a_selw_snd hsw w2 hts⟩
  have hstk : st.map (a_vm ρ) = (As.map (a_vm ρ)).reverse ++ .ref (ρ b0) :: (st.drop r.2.1).map (a_vm ρ) := by
    conv => lhs; rw [a2]
    rw [List.map_append, List.map_cons, List.map_reverse]
    rfl
  have hav : (Value.ref (ρ b0) :: As.map (a_vm ρ)).toArray = (((st.take r.2.1).reverse).map (a_vm ρ)).toArray := by rw [a1]; rfl
  have hrun := vx_runV (H := H) (locs := locs) (cells := cells) (slots := slots) (g := F0 m pc ls (st.map (a_vm ρ))) (As := As.map (a_vm ρ)) (rest := (st.drop r.2.1).map (a_vm ρ)) (b := ρ b0) (below := below) (meth := meth) (e := e)
    ⟨hx, hb, hml, hown, hts⟩ (hM ρ) cw ⟨a_Pc_blind C.2.2.2.2.2.2.2.2.2.2.2.2, hrecv, a_pre C h hav⟩ rfl (by rw [List.length_map]; exact a3) h.2.2.1.2.1 hstk (lv_room (by rw [a_vm_sum]; exact hsum)) hd ⟨by omega, by omega⟩
  exact a_call_run h (fun v hv => hbs v (List.mem_of_mem_drop hv)) hle hR hv hrun kk kx
end ACALL
