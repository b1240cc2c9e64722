/-! handlers, ends, and the run -/
theorem a_exn_eq {x y : Nat} (h : y = 0 ↔ x = 0) : a_exn y = a_exn x := by
  cases x with
  | zero => rw [h.mpr rfl]
  | succ x => cases y with
    | zero => exact absurd (h.mp rfl) (Nat.succ_ne_zero x)
    | succ y => rfl
theorem a_exn_ne {F : aFix} {U : State} {H : Heap} (hn : a_ncok F) (hX : f_X F U H) {x y : Nat} (h : ¬ (y = 0 ↔ x = 0)) : va_Nc (a_exn x) (a_exn y) U := by
  cases x with
  | zero => cases y with
    | zero => exact absurd Iff.rfl h
    | succ y => exact (hn U H hX).1
  | succ x => cases y with
    | zero => exact (hn U H hX).2
    | succ y => exact absurd ⟨fun z => absurd z (Nat.succ_ne_zero y), fun z => absurd z (Nat.succ_ne_zero x)⟩ h
theorem a_hand_some {pc x h : Nat} : ∀ {hh : List (Nat × Nat × Nat × Nat × Nat)}, a_hand hh pc x = some h → ∃ pre q suf, hh = pre ++ q :: suf ∧ (∀ z ∈ pre, ¬ (z.1 ≤ pc ∧ pc < z.2.1 ∧ (z.2.2.2.1 = 0 ↔ x = 0))) ∧ q.1 ≤ pc ∧ pc < q.2.1 ∧ (q.2.2.2.1 = 0 ↔ x = 0) ∧ q.2.2.1 = h
  | [], e => by cases e
  | (f, t, h9, y, ct) :: r, e => by
    unfold a_hand at e
    split at e
    · rename_i hc
      cases e
      exact ⟨[], _, r, rfl, fun z hz => (by cases hz), hc.1, hc.2.1, hc.2.2, rfl⟩
    · rename_i hc
      obtain ⟨pre, q, suf, e1, e2, e3⟩ := a_hand_some e
      refine ⟨(f, t, h9, y, ct) :: pre, q, suf, by rw [e1]; rfl, fun z hz => ?_, e3⟩
      rcases List.mem_cons.mp hz with rfl | hz
      · exact hc
      · exact e2 z hz
theorem a_hand_none {pc x : Nat} : ∀ {hh : List (Nat × Nat × Nat × Nat × Nat)}, a_hand hh pc x = none → ∀ z ∈ hh, ¬ (z.1 ≤ pc ∧ pc < z.2.1 ∧ (z.2.2.2.1 = 0 ↔ x = 0))
  | [], _ => fun z hz => by cases hz
  | (f, t, h9, y, ct) :: r, e => by
    unfold a_hand at e
    split at e
    · cases e
    · rename_i hc
      intro z hz
      rcases List.mem_cons.mp hz with rfl | hz
      · exact hc
      · exact a_hand_none e z hz
def a_ent9 (q : Nat × Nat × Nat × Nat × Nat) : ExceptionTableEntry := ⟨q.1, q.2.1, q.2.2.1, q.2.2.2.2⟩
theorem a_table (m9 : aMeth) : tableOf (a_hr m9) = (m_hh m9).map a_ent9 := by
  unfold tableOf a_hr
  rw [List.map_map]
  rfl
theorem a_hp_grow {F : aFix} {ρ : Nat → Nat} {σ : aSt} {H H' : Heap} (h : a_hp F ρ σ H) (hz : H.size ≤ H'.size) (oq : ∀ q, q < H.size → H'[q]? = H[q]?) : a_hp F ρ (a_made σ) H' := by
  obtain ⟨g1, g2, g3, g4, g5, g6, g7, g8⟩ := h
  refine ⟨g1, g2, g3, g4, fun i hi ki => ?_, g6, g7, g8⟩
  obtain ⟨q1, q2, q3⟩ := g5 i hi ki
  exact ⟨q1, Nat.lt_of_lt_of_le q2 hz, a_cell_eq q3 rfl (fun _ => rfl) (fun _ => rfl) (fun _ => rfl) rfl (oq _ q2)⟩
section ARUN
variable {p : Program} {l : Launch} {e : Env} {R : Room} {s : State} {m : MethodId} {args : Array Value} {below : List Frame} {meth : Method} {c : Code} {Q : State → Prop} {nL n0 u0 v0 : Nat} {ini : Bool} {F : aFix} {ρ1 : Nat → Nat} {m9 : aMeth}
variable {pc : Nat} {L : List (Option Value)} {st : List Value} {σ : aSt}
theorem a_pass (C : a_ctx p l R s m args meth c (m_cc m9) nL (m_own m9) ini F) (hh : a_hhok F m9) (hn : a_ncok F) {x : Nat} {q : Nat × Nat × Nat × Nat × Nat} (hq : q ∈ m_hh m9) (h : ¬ (q.1 ≤ pc ∧ pc < q.2.1 ∧ (q.2.2.2.1 = 0 ↔ x = 0))) : covers (a_ent9 q) pc = false ∨ ((a_ent9 q).catchType ≠ 0 ∧ ∃ nm : String, (Jvm.Cond.classLink (m_own m9) (a_ent9 q).catchType nm).before args s = true ∧ va_Nc (a_exn x) nm s) := by
  obtain ⟨h1, h2, -⟩ := hh q hq
  by_cases hc : q.1 ≤ pc ∧ pc < q.2.1
  · refine Or.inr ⟨h1, _, C.2.2.2.2.1 _ h2, a_exn_ne hn C.2.2.2.2.2.1.2.2.2.2.2.2.2 fun z => h ⟨hc.1, hc.2, z⟩⟩
  · refine Or.inl ?_
    show (decide (q.1 ≤ pc) && decide (pc < q.2.1)) = false
    by_cases hc1 : q.1 ≤ pc
    · rw [decide_eq_false (fun z => hc ⟨hc1, z⟩)]; exact Bool.and_false _
    · rw [decide_eq_false hc1]; rfl
theorem a_catch (C : a_ctx p l R s m args meth c (m_cc m9) nL (m_own m9) ini F) (htab : c.exceptionTable.toList = tableOf (a_hr m9)) (hh : a_hhok F m9) (hn : a_ncok F) {x h9 : Nat} {rest : List Value} (hx : a_hand (m_hh m9) pc x = some h9) (K : a_W p l e R s m args below meth c Q nL n0 u0 v0 F ρ1 (h9, L, [.ref (a_n σ)], a_name σ)) : a_KX p l e R s m args below meth c Q nL n0 u0 v0 F ρ1 pc L rest σ x := by
  intro ρ H locs cells slots ls q ce h hce hcv hcl
  have hp : a_hp F ρ σ H := h.1
  obtain ⟨g1, g2, g3, g4, g5, g6, g7, g8⟩ := h
  have g6 : n0 ≤ a_n σ := g6
  obtain ⟨pre, z, suf, e1, e2, e3, e4, e5, e6⟩ := a_hand_some hx
  have hz : z ∈ m_hh m9 := by rw [e1]; exact List.mem_append_right _ List.mem_cons_self
  obtain ⟨w1, w2, w3⟩ := hh z hz
  have hcast : (Jvm.Cond.castable (a_exn x) (a_exn z.2.2.2.1)).before args s = true := by
    have := C.2.2.2.2.2.1.2.2.2.2.2.1 _ w3
    rw [a_exn_eq e5] at this ⊢
    exact va_Nw.use rfl this
  have hx9 : ∀ i, i < a_n σ → (if i = a_n σ then q else ρ i) = ρ i := fun i hi => if_neg (by omega)
  have K' := K (fun j => if j = a_n σ then q else ρ j) H locs cells slots ls ⟨a_hp_name hp g2.2.2, ⟨(show a_bdl (a_n σ) L from g2.1).mono (Nat.le_succ _), a_bds_cons.mpr ⟨Nat.lt_succ_self _, a_bds_nil _⟩, a_name_bd g2.2.2⟩, a_lo_ext (n := a_n σ) hx9 g2.1 g3, g4, fun i hi => (hx9 i (by omega)).trans (g5 i hi), Nat.le_succ_of_le g6, g7, g8⟩
  have e7 : ((h9, L, [Value.ref (a_n σ)], a_name σ) : aCfg).2.2.1.map (a_vm fun j => if j = a_n σ then q else ρ j) = [.ref q] := by
    show [Value.ref (if a_n σ = a_n σ then q else ρ (a_n σ))] = _
    rw [if_pos rfl]
  rw [e7] at K'
  have hsplit : c.exceptionTable.toList = pre.map a_ent9 ++ a_ent9 z :: suf.map a_ent9 := by rw [htab, a_table, e1, List.map_append, List.map_cons]
  refine vx_catch (own := m_own m9) (name := a_exn z.2.2.2.1) (E := a_exn x) C.2.2.2.1 (pre.map a_ent9) (a_ent9 z) (suf.map a_ent9) hsplit (fun y hy => ?_) ?_ w1 (C.2.2.2.2.1 _ w2) hcast hce hcv hcl ?_
  · obtain ⟨y0, hy0, rfl⟩ := List.mem_map.mp hy
    exact a_pass C hh hn (by rw [e1]; exact List.mem_append_left _ hy0) (e2 y0 hy0)
  · show (decide (z.1 ≤ pc) && decide (pc < z.2.1)) = true
    rw [decide_eq_true e3, decide_eq_true e4]; rfl
  · have e8 : (a_ent9 z).handlerPc = h9 := e6
    rw [e8]
    exact K'
/-- not caught here -/
theorem a_out {res : aRes} {σ0 σf : aSt} (C : a_ctx p l R s m args meth c (m_cc m9) nL (m_own m9) ini F) (htab : c.exceptionTable.toList = tableOf (a_hr m9)) (hh : a_hhok F m9) (hn : a_ncok F) {x : Nat} {rest : List Value} (hx : a_hand (m_hh m9) pc x = none) (hres : res = .inr x) (hQ : Q = vx_MQ below (a_Qc F ρ1 σ0 res σf) (a_Xc F ρ1 σ0 res σf) args s (a_uc σf - u0) (a_us σf - v0) (f_A F)) (hn0 : n0 = a_n σ0) : a_KX p l e R s m args below meth c Q nL n0 u0 v0 F ρ1 pc L rest σf x := by
  intro ρ H locs cells slots ls q ce h hce hcv hcl
  obtain ⟨g1, g2, g3, g4, g5, g6, g7, g8⟩ := h
  have g7 : a_uc σf = u0 + cells := g7
  have g8 : a_us σf = v0 + slots := g8
  subst hQ
  refine vx_outP (own := m_own m9) (E := a_exn x) C.2.2.2.1 C.2.2.2.2.2.2.2.1 (fun z hz => ?_) hce hcv hcl (fun t ht hal => ⟨x, ρ, hres, rfl, fun i hi => g5 i (by omega), by rw [ht]; exact g1, g4.F ht⟩) g4.2.2 (by omega) (by omega)
  rw [htab, a_table] at hz
  obtain ⟨y0, hy0, rfl⟩ := List.mem_map.mp hz
  exact a_pass C hh hn hy0 (a_hand_none hx y0 hy0)
/-- the ends of a method -/
theorem a_end {res : aRes} {σ0 σf : aSt} {M : aTab} {pr : aPr} {i : Instr} {len tgt : Nat} {r : aRef} {z : Int32} (C : a_ctx p l R s m args meth c (m_cc m9) nL (m_own m9) ini F) (htab : c.exceptionTable.toList = tableOf (a_hr m9)) (hret : meth.sig.returnType = m_ret m9) (hd : decode (m_cc m9) pc = .ok (i, len)) (hw : a_wf F (m_own m9) ini pc i len r z tgt) (hw2 : a_wfC M F pr m9 pc i r) (hst : a_exec i len r z tgt pc L st σ = some (.inr (.inl (res, σf)))) (hB : a_uc σf ≤ u0 + R.cells ∧ a_us σf ≤ v0 + R.slots)
    (hQ : Q = vx_MQ below (a_Qc F ρ1 σ0 res σf) (a_Xc F ρ1 σ0 res σf) args s (a_uc σf - u0) (a_us σf - v0) (f_A F)) (hn0 : n0 = a_n σ0) : a_W p l e R s m args below meth c Q nL n0 u0 v0 F ρ1 (pc, L, st, σ) := by
  intro ρ H locs cells slots ls h
  have hh : a_hp F ρ σ H := h.1
  have hS : va_S (f_A F) s.heap H locs := h.2.2.2.1
  have hext : ∀ i, i < a_n σ0 → ρ i = ρ1 i := fun i hi => h.2.2.2.2.1 i (by omega)
  have g7 : a_uc σ = u0 + cells := h.2.2.2.2.2.2.1
  have g8 : a_us σ = v0 + slots := h.2.2.2.2.2.2.2
  have hls : ls.size = nL := h.2.2.1.2.1
  obtain ⟨hx, hb, hml, hown, hts, hE, hA, hlk, hst9, hini, hRf, hRl, hF⟩ := id C
  subst hQ
  have fin : ∀ (v : Option Value), res = .inl v → σf = σ → ∀ t : State, t.heap = H → s.WarmedH t.vm → a_Qc F ρ1 σ0 res σf args s (.returned (v.map (a_vm ρ))) t := fun v e1 e2 t ht hW => ⟨v, ρ, e1, rfl, hext, by rw [ht, e2]; exact hh, hS.F ht⟩
  cases i
  case ireturn =>
    obtain rfl : len = 1 := hw
    simp only [a_exec] at hst
    split at hst
    · rename_i x
      split at hst
      · rename_i hr
        simp only [a_rt] at hst
        cases hst
        have e1 : a_uc σ - u0 = cells := by omega
        have e2 : a_us σ - v0 = slots := by omega
        rw [e1, e2]
        refine vx_ret ?_
        rcases hw2 with ⟨r1, r2⟩ | ⟨r1, r2⟩ | ⟨r1, r2⟩
        · exact W.iret hx hb (by rw [hret, r2]) (fun t ht hW => fin (some (.int x)) rfl rfl t ht hW) hS.2.2 hd
        · have hx01 : x = 0 ∨ x = 1 := by
            rcases hr with z | z | z
            · omega
            · exact z.2
            · omega
          rcases r2 with r2 | r2
          · exact W.zret (ty := .boolean) hx hb (by rw [hret, r2]) (by rcases hx01 with rfl | rfl <;> rfl) (fun t ht hW => fin (some (.int x)) rfl rfl t ht hW) hS.2.2 hd
          · exact W.zret (ty := .byte) hx hb (by rw [hret, r2]) (by rcases hx01 with rfl | rfl <;> rfl) (fun t ht hW => fin (some (.int x)) rfl rfl t ht hW) hS.2.2 hd
        · have hxc : narrow .char (.int x) = .int x := by
            rcases hr with z | z | z
            · omega
            · omega
            · exact z.2
          exact W.zret (ty := .char) hx hb (by rw [hret, r2]) hxc (fun t ht hW => fin (some (.int x)) rfl rfl t ht hW) hS.2.2 hd
      · cases hst
    · cases hst
  case lreturn =>
    obtain rfl : len = 1 := hw
    simp only [a_exec] at hst
    split at hst
    · rename_i x
      simp only [a_rt] at hst
      cases hst
      have e1 : a_uc σ - u0 = cells := by omega
      have e2 : a_us σ - v0 = slots := by omega
      rw [e1, e2]
      exact vx_ret (W.lret hx hb (by rw [hret]; exact hw2) (fun t ht hW => fin (some (.long x)) rfl rfl t ht hW) hS.2.2 hd)
    · cases hst
  case dreturn =>
    obtain rfl : len = 1 := hw
    simp only [a_exec] at hst
    split at hst
    · rename_i x
      simp only [a_rt] at hst
      cases hst
      have e1 : a_uc σ - u0 = cells := by omega
      have e2 : a_us σ - v0 = slots := by omega
      rw [e1, e2]
      exact vx_ret (W.dret hx hb (by rw [hret]; exact hw2) (fun t ht hW => fin (some (.double x)) rfl rfl t ht hW) hS.2.2 hd)
    · cases hst
  case freturn =>
    obtain rfl : len = 1 := hw
    simp only [a_exec] at hst
    split at hst
    · rename_i x
      simp only [a_rt] at hst
      cases hst
      have e1 : a_uc σ - u0 = cells := by omega
      have e2 : a_us σ - v0 = slots := by omega
      rw [e1, e2]
      exact vx_ret (W.fret hx hb (by rw [hret]; exact hw2) (fun t ht hW => fin (some (.float x)) rfl rfl t ht hW) hS.2.2 hd)
    · cases hst
  case areturn =>
    obtain rfl : len = 1 := hw
    obtain ⟨ty, r1, r2⟩ := hw2
    simp only [a_exec] at hst
    split at hst
    · rename_i x
      simp only [a_rt] at hst
      cases hst
      have e1 : a_uc σ - u0 = cells := by omega
      have e2 : a_us σ - v0 = slots := by omega
      rw [e1, e2]
      exact vx_ret (W.aret (v := .ref (ρ x)) hx hb (by rw [hret, r1]) r2 (Or.inr ⟨_, rfl⟩) (fun t ht hW => fin (some (.ref x)) rfl rfl t ht hW) hS.2.2 hd)
    · simp only [a_rt] at hst
      cases hst
      have e1 : a_uc σ - u0 = cells := by omega
      have e2 : a_us σ - v0 = slots := by omega
      rw [e1, e2]
      exact vx_ret (W.aret (v := .null) hx hb (by rw [hret, r1]) r2 (Or.inl rfl) (fun t ht hW => fin (some .null) rfl rfl t ht hW) hS.2.2 hd)
    · cases hst
  case return_ =>
    obtain rfl : len = 1 := hw
    simp only [a_exec] at hst
    split at hst
    · simp only [a_rt] at hst
      cases hst
      have e1 : a_uc σ - u0 = cells := by omega
      have e2 : a_us σ - v0 = slots := by omega
      rw [e1, e2]
      exact vx_ret (W.vret hx hb (by rw [hret]; exact hw2) (fun t ht hW => fin none rfl rfl t ht hW) hS.2.2 hd)
    · cases hst
  case new ix =>
    obtain ⟨rfl, -⟩ := hw
    simp only [a_exec] at hst
    split at hst
    · cases hst
    · rename_i hr0
      split at hst
      · rename_i hsum
        simp only [a_rt] at hst
        cases hst
        obtain ⟨t0, is, ic, id9, tx, names, t1, t2, t3, t4, t5, t6, t7, t8, t9, t10⟩ := hw2 hr0
        obtain ⟨q1, -, q3⟩ := hE.2.2.2.2.1 _ t1
        have hout : ∀ k, ∀ y ∈ c.exceptionTable.toList, covers y k = false := fun k y hy => by
          rw [htab, a_table, t0] at hy; cases hy
        have g9 : a_uc (a_made σ) = a_uc σ + 1 := rfl
        have g10 : a_us (a_made σ) = a_us σ + 6 := rfl
        have hsum' : (((st.map (a_vm ρ))).map fun v => v.category).sum ≤ 8 := by rw [a_vm_sum]; exact hsum
        have hXC : ∀ t : State, s.vm.Alike t.vm → H.size ≤ t.heap.size → (∀ q : Nat, q < H.size → t.heap[q]? = H[q]?) → a_Xc F ρ1 σ0 (.inr r.1) (a_made σ) (a_exn r.1) s t := fun t _ hz hq =>
          ⟨r.1, ρ, rfl, rfl, hext, a_hp_grow hh hz hq, Nat.le_trans hS.1 hz, fun q h1 h2 => (hq q (Nat.lt_of_lt_of_le h1 hS.1)).trans (hS.2.1 q h1 h2)⟩
        show W p l e R s m args below meth c H locs cells slots _ (F0 m pc ls (st.map (a_vm ρ)))
        rcases t10 with ⟨d4, d6, d9⟩ | ⟨d4, d6, d9⟩
        · exact vx_throwS hx hb hst9 hown t2 t3 (hts _ t5) (hts _ t6) q1 (t7 s s.heap args hE.2.2.2.2.2.2.2 hts) t8 hE.2.2.1.1 hE.2.2.1.2 hS (by rw [hls, hml]) hd t9 d4 d6 d9 (hout _) (by omega) (by omega) (by omega) (by omega) hlk hXC hS.2.2 (by omega) (by omega)
        · exact vx_throwSW hx hb hst9 hown t2 t3 (hts _ t5) (hts _ t6) q1 (t7 s s.heap args hE.2.2.2.2.2.2.2 hts) t8 hE.2.2.1.1 hE.2.2.1.2 hS (by rw [hls, hml]) hd t9 d4 d6 d9 (hout _) (by omega) (by omega) (by omega) (by omega) hlk hXC hS.2.2 (by omega) (by omega)
      · cases hst
  all_goals (exfalso; clear fin hw2 hw C)
  all_goals (simp only [a_exec, a_ldI, a_ldA, a_ldL, a_ldD, a_stI, a_stA, a_stD, a_binI, a_binL, a_div, a_br, a_get, a_put, a_tsw, a_inv, a_go, a_sto] at hst)
  all_goals (repeat' split at hst)
  all_goals (cases hst)
end ARUN

section ARUN2
variable {p : Program} {l : Launch} {e : Env} {R : Room} {s : State} {m : MethodId} {args : Array Value} {below : List Frame} {meth : Method} {c : Code} {Q : State → Prop} {nL n0 u0 v0 : Nat} {ini : Bool} {F : aFix} {ρ1 : Nat → Nat} {m9 : aMeth}
/-- the run of a body, by the ends that are given -/
theorem a_run_snd {M : aTab} {pr : aPr} {P : aCall} {call : aCall} {d b9 : Nat} {res : aRes} {σf : aSt} (C : a_ctx p l R s m args meth c (m_cc m9) nL (m_own m9) (m_ini m9) F) (hc : a_codeok M F pr m9) (hg : a_gcall call)
    (hP : a_prok l F pr b9 P) (hRb : b9 + 17 ≤ R.frames) (hRc : 60 * b9 + 360 ≤ R.locals) (hPret : ∀ k as σ res σ', P k as σ = some (res, σ') → ∃ v, res = .inl v) (hcallP : ∀ k as σ, M k = none → call k as σ = P k as σ)
    (hcallM : ∀ k k9 as σ res σ', M k = some k9 → call k as σ = some (res, σ') → a_bds (a_n σ) as → a_bdR σ → a_met l F k9 d as σ res σ') (hRf : d + 17 ≤ R.frames) (hRl : 60 * d + 360 ≤ R.locals)
    (hB : a_uc σf ≤ u0 + R.cells ∧ a_us σf ≤ v0 + R.slots)
    (hend : ∀ (pc : Nat) (L : List (Option Value)) (st : List Value) (σ : aSt) (i : Instr) (len : Nat) (r : aRef) (z : Int32) (tgt : Nat), decode (m_cc m9) pc = .ok (i, len) → a_wf F (m_own m9) (m_ini m9) pc i len r z tgt → a_wfC M F pr m9 pc i r → a_exec i len r z tgt pc L st σ = some (.inr (.inl (res, σf))) → a_W p l e R s m args below meth c Q nL n0 u0 v0 F ρ1 (pc, L, st, σ))
    (hcatch : ∀ (pc : Nat) (L : List (Option Value)) (rest : List Value) (σ : aSt) (x h9 : Nat), a_hand (m_hh m9) pc x = some h9 → a_W p l e R s m args below meth c Q nL n0 u0 v0 F ρ1 (h9, L, [.ref (a_n σ)], a_name σ) → a_KX p l e R s m args below meth c Q nL n0 u0 v0 F ρ1 pc L rest σ x)
    (hout : ∀ (pc : Nat) (L : List (Option Value)) (rest : List Value) (x : Nat), a_hand (m_hh m9) pc x = none → res = .inr x → a_KX p l e R s m args below meth c Q nL n0 u0 v0 F ρ1 pc L rest σf x) :
    ∀ (n : Nat) (cf : aCfg), a_runN call (m_code m9) (m_hh m9) n cf = some (res, σf) → a_bdc cf → a_W p l e R s m args below meth c Q nL n0 u0 v0 F ρ1 cf
  | 0, cf, h, _ => by cases h
  | n + 1, (pc, L, st, σ), h, hb => by
    have IH := a_run_snd C hc hg hP hRb hRc hPret hcallP hcallM hRf hRl hB hend hcatch hout n
    have hs := a_step_good hc hb
    unfold a_runN at h
    cases hstep : a_step (m_code m9) (pc, L, st, σ) with
    | none => rw [hstep] at h; cases h
    | some act =>
    rw [hstep] at h hs
    have ho : ∃ i len r z tgt, (m_code m9).lookup pc = some (i, len, r, z, tgt) ∧ a_exec i len r z tgt pc L st σ = some act := by
      unfold a_step at hstep
      split at hstep
      · cases hstep
      · rename_i i len r z tgt ho
        exact ⟨i, len, r, z, tgt, ho, hstep⟩
    obtain ⟨i, len, r, z, tgt, ho, hex⟩ := ho
    obtain ⟨w1, w2, w3, w4⟩ := hc pc _ ho
    match act, h, hs, hex with
    | .inl c', h, hs, hex =>
      have hgood := a_runN_good hc hg n c' res σf h hs.1
      exact a_exec_snd C w1 w2 hex hs.1 ⟨Nat.le_trans hgood.1.2.1 hB.1, Nat.le_trans hgood.1.2.2 hB.2⟩ (IH c' h hs.1)
    | .inr (.inl (r9, σ9)), h, hs, hex =>
      cases h
      exact hend pc L st σ i len r z tgt w1 w2 w3 hex
    | .inr (.inr (k, as, (pc', L', st', σ'))), h, hs, hex =>
      obtain ⟨g1, g2, g3⟩ := hs
      have g2 : σ' = σ := g2
      subst g2
      have h : (match call k as σ' with | none => none | some (.inl v, σ2) => a_runN call (m_code m9) (m_hh m9) n (pc', L', v.toList ++ st', σ2) | some (.inr x, σ2) => match a_hand (m_hh m9) pc x with | some h9 => a_runN call (m_code m9) (m_hh m9) n (h9, L', [.ref (a_n σ2)], a_name σ2) | none => some (.inr x, σ2)) = some (res, σf) := h
      have hb2 : a_bdl (a_n σ') L' := g1.1
      have hb3 : a_bds (a_n σ') st' := g1.2.1
      have hb4 : a_bdR σ' := g1.2.2
      cases hcl : call k as σ' with
      | none => rw [hcl] at h; cases h
      | some rs =>
      obtain ⟨res2, σ2⟩ := rs
      rw [hcl] at h
      obtain ⟨l1, l2, l3⟩ := hg _ _ _ _ _ hcl g3 hb4
      have hB2 : a_uc σ2 ≤ u0 + R.cells ∧ a_us σ2 ≤ v0 + R.slots := by
        match res2, h, l3 with
        | .inl v, h, l3 =>
          have q := a_runN_good hc hg n _ res σf h ⟨hb2.mono l1.1, a_bds_app (fun w hw => l3 w (by rw [hw])) (hb3.mono l1.1), l2⟩
          exact ⟨Nat.le_trans q.1.2.1 hB.1, Nat.le_trans q.1.2.2 hB.2⟩
        | .inr x, h, l3 =>
          have h : (match a_hand (m_hh m9) pc x with | some h9 => a_runN call (m_code m9) (m_hh m9) n (h9, L', [.ref (a_n σ2)], a_name σ2) | none => some (.inr x, σ2)) = some (res, σf) := h
          cases hh : a_hand (m_hh m9) pc x with
          | none => rw [hh] at h; cases h; exact hB
          | some h9 =>
            rw [hh] at h
            have q := a_runN_good hc hg n _ res σf h ⟨hb2.mono (Nat.le_succ_of_le l1.1), a_bds_cons.mpr ⟨Nat.lt_succ_self _, a_bds_nil _⟩, a_name_bd l2⟩
            exact ⟨Nat.le_trans q.1.2.1 hB.1, Nat.le_trans q.1.2.2 hB.2⟩
      have hkk : ∀ v, res2 = .inl v → a_W p l e R s m args below meth c Q nL n0 u0 v0 F ρ1 (pc', L', v.toList ++ st', σ2) := fun v e1 => by
        subst e1
        exact IH _ h ⟨hb2.mono l1.1, a_bds_app (fun w hw => l3 w (by rw [hw])) (hb3.mono l1.1), l2⟩
      have hkx : ∀ x, res2 = .inr x → a_KX p l e R s m args below meth c Q nL n0 u0 v0 F ρ1 pc L' st' σ2 x := fun x e1 => by
        subst e1
        have h : (match a_hand (m_hh m9) pc x with | some h9 => a_runN call (m_code m9) (m_hh m9) n (h9, L', [.ref (a_n σ2)], a_name σ2) | none => some (.inr x, σ2)) = some (res, σf) := h
        cases hh : a_hand (m_hh m9) pc x with
        | none => rw [hh] at h; cases h; exact hout pc L' st' x hh rfl
        | some h9 =>
          rw [hh] at h
          exact hcatch pc L' st' σ2 x h9 hh (IH _ h ⟨hb2.mono (Nat.le_succ_of_le l1.1), a_bds_cons.mpr ⟨Nat.lt_succ_self _, a_bds_nil _⟩, a_name_bd l2⟩)
      have hst0 : a_bds (a_n σ') st := hb.2.1
      cases i
      case invokevirtual ix =>
        obtain rfl : len = 3 := w2
        simp only [a_exec] at hex
        split at hex
        · rename_i hr0
          simp only [a_inv] at hex
          split at hex
          · rename_i hlen
            cases hex
            rcases w3 with ⟨q1, -⟩ | ⟨q1, q2, q3⟩
            · exact absurd hr0 q1
            · rw [hcallP _ _ _ q2] at hcl
              obtain ⟨v, rfl⟩ := hPret _ _ _ _ _ hcl
              exact hP C hRb hRc w1 q3 hlen.1 hlen.2 hcl hst0 hb2 hb4 hB2 (hkk v rfl)
          · cases hex
        · rename_i hr0
          split at hex
          · rename_i b0 hb0
            split at hex
            · rename_i hk0
              simp only [a_inv] at hex
              split at hex
              · rename_i hlen
                cases hex
                rcases w3 with ⟨q1, k9, q2, q3⟩ | ⟨q1, -⟩
                · exact a_callV C w1 q3 rfl hlen.1 hlen.2 hb0 hk0 (hcallM _ k9 _ _ _ _ q2 hcl g3 hb4) hRf hRl hst0 l1 l2 l3 hB2 hkk hkx
                · exact absurd q1 hr0
              · cases hex
            · cases hex
          · cases hex
      case invokestatic ix =>
        obtain rfl : len = 3 := w2
        simp only [a_exec, a_inv] at hex
        split at hex
        · rename_i hlen
          cases hex
          rcases w3 with ⟨k9, q2, q3⟩ | ⟨q2, q3⟩
          · exact a_callS C w1 q3 rfl hlen.1 hlen.2 (hcallM _ k9 _ _ _ _ q2 hcl g3 hb4) hRf hRl hst0 l1 l2 l3 hB2 hkk hkx
          · rw [hcallP _ _ _ q2] at hcl
            obtain ⟨v, rfl⟩ := hPret _ _ _ _ _ hcl
            exact hP C hRb hRc w1 q3 hlen.1 hlen.2 hcl hst0 hb2 hb4 hB2 (hkk v rfl)
        · cases hex
      case invokespecial ix =>
        obtain ⟨rfl, -⟩ := w2
        simp only [a_exec] at hex
        split at hex
        · split at hex
          · split at hex
            · cases hex
            · cases hex
          · cases hex
        · rename_i hr0
          split at hex
          · rename_i b0 hb0
            simp only [a_inv] at hex
            split at hex
            rotate_left
            · cases hex
            rename_i hkd
            split at hex
            · rename_i hlen
              cases hex
              rcases w3 hr0 with ⟨k9, q2, q3⟩ | ⟨q2, q3⟩
              · rcases q3 with ⟨-, q3⟩ | ⟨q4, q3⟩
                · exact a_callI C w1 q3 rfl hlen.1 hlen.2 hb0 (hcallM _ k9 _ _ _ _ q2 hcl g3 hb4) hRf hRl hst0 l1 l2 l3 hB2 hkk hkx
                · exact a_callU C w1 q3 rfl hlen.1 hlen.2 hb0 (hkd.resolve_left (Nat.not_lt.mpr q4)) (hcallM _ k9 _ _ _ _ q2 hcl g3 hb4) hRf hRl hst0 l1 l2 l3 hB2 hkk hkx
              · rw [hcallP _ _ _ q2] at hcl
                obtain ⟨v, rfl⟩ := hPret _ _ _ _ _ hcl
                exact hP C hRb hRc w1 q3 hlen.1 hlen.2 hcl hst0 hb2 hb4 hB2 (hkk v rfl)
            · cases hex
          · cases hex
      all_goals (exfalso; clear hkk hkx hB2 hcallM w3 w2 hP hend hcatch hout IH)
      all_goals (simp only [a_exec, a_ldI, a_ldA, a_ldL, a_ldD, a_stI, a_stA, a_stD, a_binI, a_binL, a_div, a_br, a_get, a_put, a_tsw, a_inv, a_go, a_sto, a_rt] at hex)
      all_goals (repeat' split at hex)
      all_goals (cases hex)
end ARUN2
