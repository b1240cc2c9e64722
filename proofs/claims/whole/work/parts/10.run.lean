/-! static calls, constructors, exceptions; a method's run -/
section ACALL2
variable {p : Program} {l : Launch} {e : Env} {R : Room} {s : State} {m : MethodId} {args : Array Value} {below : List Frame} {meth : Method} {c : Code} {Q : State → Prop} {cc : ByteArray} {nL n0 u0 v0 : Nat} {own : String} {ini : Bool} {F : aFix} {ρ1 : Nat → Nat}
variable {pc : Nat} {L : List (Option Value)} {st : List Value} {σ : aSt}
theorem a_callI {ix n d : Nat} {r : aRef} {m9 : aMeth} {res : aRes} {σ' : aSt} {b0 : Nat} (C : a_ctx p l R s m args meth c cc nL own ini F) (hd : decode cc pc = .ok (.invokespecial ix, 3)) (hw : a_wfI own ix r m9) (hn : n = r.2.1) (hlen : n ≤ st.length) (hsum : ((st.drop n).map fun v => v.category).sum ≤ 8) (hb0 : st[n - 1]? = some (.ref b0))
    (hM : a_met l F m9 d ((st.take n).reverse) σ res σ') (hRf : d + 17 ≤ R.frames) (hRl : 60 * d + 360 ≤ R.locals) (hbs : a_bds (a_n σ) st) (hle : a_le σ σ') (hR : a_bdR σ') (hv : ∀ v, res = .inl (some v) → a_bd (a_n σ') v) (hB : a_uc σ' ≤ u0 + R.cells ∧ a_us σ' ≤ v0 + R.slots)
    (kk : ∀ v, res = .inl v → a_W p l e R s m args below meth c Q nL n0 u0 v0 F ρ1 (pc + 3, L, v.toList ++ st.drop n, σ'))
    (kx : ∀ x, res = .inr x → a_KX p l e R s m args below meth c Q nL n0 u0 v0 F ρ1 pc L (st.drop n) σ' x) : a_W p l e R s m args below meth c Q nL n0 u0 v0 F ρ1 (pc, L, st, σ) := by
  intro ρ H locs cells slots ls h
  obtain ⟨hok, h0, hret, hinit, w1, w2, h1, hnp⟩ := hw
  subst hn
  obtain ⟨As, a1, a2, a3⟩ := a_split h1 hb0
  have g7 : a_uc σ = u0 + cells := h.2.2.2.2.2.2.1
  have g8 : a_us σ = v0 + slots := h.2.2.2.2.2.2.2
  have hh : a_hp F ρ σ H := h.1
  obtain ⟨hx, hb, hml, hown, hts, hE, -⟩ := id C
  obtain ⟨ok1, ok2, ok3, ok4, ok5, ok6⟩ := id hok
  obtain ⟨l1, l2, l3⟩ := id hle
  have hf1 : (a_room d (a_uc σ' - a_uc σ) (a_us σ' - a_us σ)).frames + 1 ≤ R.frames := (fun x hx => by omega : ∀ x : Nat, x = d + 16 → x + 1 ≤ R.frames) _ (a_room_f _ _ _)
  have hf2 : 8 + (m_L m9 + 11) + (a_room d (a_uc σ' - a_uc σ) (a_us σ' - a_us σ)).locals ≤ R.locals := (fun x hx => by omega : ∀ x : Nat, x = 60 * d + 300 → 8 + (m_L m9 + 11) + x ≤ R.locals) _ (a_room_l _ _ _)
  have cw : CallB R s args own ix (m_y m9) (m_cc m9) (m_L m9) none (a_mws m9) (a_room d (a_uc σ' - a_uc σ) (a_us σ' - a_us σ)) (a_uc σ' - a_uc σ) (a_us σ' - a_us σ) (r.2.1 - 1) ∧ (m_y m9).name = "<init>" ∧ (Jvm.Cond.instanceMethod (m_y m9)).before args s = true := cwI (r.2.1 - 1) hts (a_mws_good hok) (by rw [a_cword0 h0, hret]) rfl rfl (hts _ ok4) (hts _ w1) (hts _ w2) hinit ⟨ok3.1, ok3.2, hnp⟩ ⟨hf1, hf2⟩
  have hstk : st.map (a_vm ρ) = (As.map (a_vm ρ)).reverse ++ .ref (ρ b0) :: (st.drop r.2.1).map (a_vm ρ) := by
    conv => lhs; rw [a2]
    rw [List.map_append, List.map_cons, List.map_reverse]
    rfl
  have hav : (Value.ref (ρ b0) :: As.map (a_vm ρ)).toArray = (((st.take r.2.1).reverse).map (a_vm ρ)).toArray := by rw [a1]; rfl
  have hrun := vx_runI (H := H) (locs := locs) (cells := cells) (slots := slots) (g := F0 m pc ls (st.map (a_vm ρ))) (As := As.map (a_vm ρ)) (rest := (st.drop r.2.1).map (a_vm ρ)) (b := ρ b0) (below := below) (meth := meth) (e := e)
    ⟨hx, hb, hml, hown, hts⟩ (hM ρ) cw ⟨a_Pc_blind C.2.2.2.2.2.2.2.2.2.2.2.2, a_pre C h hav⟩ rfl (by rw [List.length_map]; exact a3) h.2.2.1.2.1 hstk (lv_room (by rw [a_vm_sum]; exact hsum)) hd ⟨by omega, by omega⟩
  exact a_call_run h (fun v hv => hbs v (List.mem_of_mem_drop hv)) hle hR hv hrun kk kx
theorem a_callU {ix n d : Nat} {r : aRef} {m9 : aMeth} {res : aRes} {σ' : aSt} {b0 : Nat} (C : a_ctx p l R s m args meth c cc nL own ini F) (hd : decode cc pc = .ok (.invokespecial ix, 3)) (hw : a_wfU own ix r m9) (hn : n = r.2.1) (hlen : n ≤ st.length) (hsum : ((st.drop n).map fun v => v.category).sum ≤ 8) (hb0 : st[n - 1]? = some (.ref b0)) (hk0 : a_kd σ b0 = r.2.2)
    (hM : a_met l F m9 d ((st.take n).reverse) σ res σ') (hRf : d + 17 ≤ R.frames) (hRl : 60 * d + 360 ≤ R.locals) (hbs : a_bds (a_n σ) st) (hle : a_le σ σ') (hR : a_bdR σ') (hv : ∀ v, res = .inl (some v) → a_bd (a_n σ') v) (hB : a_uc σ' ≤ u0 + R.cells ∧ a_us σ' ≤ v0 + R.slots)
    (kk : ∀ v, res = .inl v → a_W p l e R s m args below meth c Q nL n0 u0 v0 F ρ1 (pc + 3, L, v.toList ++ st.drop n, σ'))
    (kx : ∀ x, res = .inr x → a_KX p l e R s m args below meth c Q nL n0 u0 v0 F ρ1 pc L (st.drop n) σ' x) : a_W p l e R s m args below meth c Q nL n0 u0 v0 F ρ1 (pc, L, st, σ) := by
  intro ρ H locs cells slots ls h
  obtain ⟨hok, h0, hno, w1, w2, w3, w4, h1, hnp, k, q, hq, hr2⟩ := hw
  subst hn
  obtain ⟨As, a1, a2, a3⟩ := a_split h1 hb0
  have g7 : a_uc σ = u0 + cells := h.2.2.2.2.2.2.1
  have g8 : a_us σ = v0 + slots := h.2.2.2.2.2.2.2
  have hh : a_hp F ρ σ H := h.1
  obtain ⟨hx, hb, hml, hown, hts, hE, -⟩ := id C
  obtain ⟨ok1, ok2, ok3, ok4, ok5, ok6⟩ := id hok
  obtain ⟨l1, l2, l3⟩ := id hle
  obtain ⟨-, -, cell, q1, q2, q3, -⟩ := a_obj (k := k) hh (hk0.trans hr2) hq
  have hkn := hE.1.1 k q hq
  have hrecv : ∃ cellB : Cell, H[ρ b0]? = some cellB ∧ cellB.vm.isStatics = false ∧ s.vm.findClass q.1 = some cellB.cls := ⟨cell, q1, by rw [q3]; rfl, by rw [q2]; exact hkn.2.1⟩
  have hf1 : (a_room d (a_uc σ' - a_uc σ) (a_us σ' - a_us σ)).frames + 1 ≤ R.frames := (fun x hx => by omega : ∀ x : Nat, x = d + 16 → x + 1 ≤ R.frames) _ (a_room_f _ _ _)
  have hf2 : 8 + (m_L m9 + 11) + (a_room d (a_uc σ' - a_uc σ) (a_us σ' - a_us σ)).locals ≤ R.locals := (fun x hx => by omega : ∀ x : Nat, x = 60 * d + 300 → 8 + (m_L m9 + 11) + x ≤ R.locals) _ (a_room_l _ _ _)
  have cw : CallB R s args own ix (m_y m9) (m_cc m9) (m_L m9) (m_ret m9) (a_mws m9) (a_room d (a_uc σ' - a_uc σ) (a_us σ' - a_us σ)) (a_uc σ' - a_uc σ) (a_us σ' - a_us σ) (r.2.1 - 1) := callB_of (r.2.1 - 1) hts (a_mws_good hok) (a_cword0 h0) rfl rfl (hts _ ok4) (hts _ w1) ⟨ok3.1, ok3.2, hnp⟩ ⟨hf1, hf2⟩
  have hstk : st.map (a_vm ρ) = (As.map (a_vm ρ)).reverse ++ .ref (ρ b0) :: (st.drop r.2.1).map (a_vm ρ) := by
    conv => lhs; rw [a2]
    rw [List.map_append, List.map_cons, List.map_reverse]
    rfl
  have hav : (Value.ref (ρ b0) :: As.map (a_vm ρ)).toArray = (((st.take r.2.1).reverse).map (a_vm ρ)).toArray := by rw [a1]; rfl
  have hrun := vx_runSU (C := q.1) (cC := (f_D F).1 k) (H := H) (locs := locs) (cells := cells) (slots := slots) (g := F0 m pc ls (st.map (a_vm ρ))) (As := As.map (a_vm ρ)) (rest := (st.drop r.2.1).map (a_vm ρ)) (b := ρ b0) (below := below) (meth := meth) (e := e)
    hkn.2 ⟨hx, hb, hml, hown, hts⟩ (hM ρ) ⟨cw, hts _ w3, hts _ w4, hts _ w2, hno⟩ ⟨a_Pc_blind C.2.2.2.2.2.2.2.2.2.2.2.2, hrecv, a_pre C h hav⟩ rfl (by rw [List.length_map]; exact a3) h.2.2.1.2.1 hstk (lv_room (by rw [a_vm_sum]; exact hsum)) hd ⟨by omega, by omega⟩
  exact a_call_run h (fun v hv => hbs v (List.mem_of_mem_drop hv)) hle hR hv hrun kk kx
theorem a_callS {ix n d : Nat} {r : aRef} {m9 : aMeth} {res : aRes} {σ' : aSt} (C : a_ctx p l R s m args meth c cc nL own ini F) (hd : decode cc pc = .ok (.invokestatic ix, 3)) (hw : a_wfS F own ix r m9) (hn : n = r.2.1) (hlen : n ≤ st.length) (hsum : ((st.drop n).map fun v => v.category).sum ≤ 8)
    (hM : a_met l F m9 d ((st.take n).reverse) σ res σ') (hRf : d + 17 ≤ R.frames) (hRl : 60 * d + 360 ≤ R.locals) (hbs : a_bds (a_n σ) st) (hle : a_le σ σ') (hR : a_bdR σ') (hv : ∀ v, res = .inl (some v) → a_bd (a_n σ') v) (hB : a_uc σ' ≤ u0 + R.cells ∧ a_us σ' ≤ v0 + R.slots)
    (kk : ∀ v, res = .inl v → a_W p l e R s m args below meth c Q nL n0 u0 v0 F ρ1 (pc + 3, L, v.toList ++ st.drop n, σ'))
    (kx : ∀ x, res = .inr x → a_KX p l e R s m args below meth c Q nL n0 u0 v0 F ρ1 pc L (st.drop n) σ' x) : a_W p l e R s m args below meth c Q nL n0 u0 v0 F ρ1 (pc, L, st, σ) := by
  intro ρ H locs cells slots ls h
  obtain ⟨hok, w1, hnp, hlink⟩ := hw
  subst hn
  have g7 : a_uc σ = u0 + cells := h.2.2.2.2.2.2.1
  have g8 : a_us σ = v0 + slots := h.2.2.2.2.2.2.2
  have hh : a_hp F ρ σ H := h.1
  obtain ⟨hx, hb, hml, hown, hts, hE, -⟩ := id C
  obtain ⟨ok1, ok2, ok3, ok4, ok5, ok6⟩ := id hok
  obtain ⟨l1, l2, l3⟩ := id hle
  have hf1 : (a_room d (a_uc σ' - a_uc σ) (a_us σ' - a_us σ)).frames + 1 ≤ R.frames := (fun x hx => by omega : ∀ x : Nat, x = d + 16 → x + 1 ≤ R.frames) _ (a_room_f _ _ _)
  have hf2 : 8 + (m_L m9 + 11) + (a_room d (a_uc σ' - a_uc σ) (a_us σ' - a_us σ)).locals ≤ R.locals := (fun x hx => by omega : ∀ x : Nat, x = 60 * d + 300 → 8 + (m_L m9 + 11) + x ≤ R.locals) _ (a_room_l _ _ _)
  have hstk : st.map (a_vm ρ) = (((st.take r.2.1).reverse).map (a_vm ρ)).reverse ++ (st.drop r.2.1).map (a_vm ρ) := by
    rw [List.map_reverse, List.reverse_reverse, ← List.map_append, List.take_append_drop]
  have hlen9 : (((st.take r.2.1).reverse).map (a_vm ρ)).length = r.2.1 := by simp; omega
  have fin : ∀ (hr : vx_Run p l e R s m args below meth c H locs cells slots (a_uc σ' - a_uc σ) (a_us σ' - a_us σ) (F0 m pc ls (st.map (a_vm ρ))) ((st.drop r.2.1).map (a_vm ρ)) (a_Qc F ρ σ res σ' (((st.take r.2.1).reverse).map (a_vm ρ)).toArray) (a_Xc F ρ σ res σ') (f_A F)), W p l e R s m args below meth c H locs cells slots Q (F0 m pc ls (st.map (a_vm ρ))) := fun hr => a_call_run h (fun v hv => hbs v (List.mem_of_mem_drop hv)) hle hR hv hr kk kx
  have hpre : PreS s H (a_Pc F ρ (st.take r.2.1).reverse σ) (((st.take r.2.1).reverse).map (a_vm ρ)) := ⟨a_Pc_blind C.2.2.2.2.2.2.2.2.2.2.2.2, a_pre C h rfl⟩
  rcases hlink with hl | ⟨h0, host, hl⟩
  · by_cases h0 : m_hh m9 = []
    · have cw : CallB R s args own ix (m_y m9) (m_cc m9) (m_L m9) (m_ret m9) (a_mws m9) (a_room d (a_uc σ' - a_uc σ) (a_us σ' - a_us σ)) (a_uc σ' - a_uc σ) (a_us σ' - a_us σ) r.2.1 ∧ (Jvm.Cond.static (m_y m9)).before args s = true := ⟨callB_of r.2.1 hts (a_mws_good hok) (a_cword0 h0) rfl rfl (hts _ ok4) (hts _ hl) ⟨ok3.1, ok3.2, hnp⟩ ⟨hf1, hf2⟩, hts _ w1⟩
      exact fin (vx_runS (H := H) (locs := locs) (cells := cells) (slots := slots) (g := F0 m pc ls (st.map (a_vm ρ))) (below := below) (meth := meth) (e := e) ⟨hx, hb, hml, hown, hts⟩ (hM ρ) cw hpre rfl hlen9 h.2.2.1.2.1 hstk (lv_room (by rw [a_vm_sum]; exact hsum)) hd ⟨by omega, by omega⟩)
    · have hg : GoodIn am_ws (va_wsS own ix (m_y m9) (a_mws m9)) := fun w hw => by
        unfold va_wsS at hw
        rcases List.mem_append.mp hw with z | z
        · simp only [List.mem_cons, List.not_mem_nil, or_false] at z
          rcases z with rfl | rfl | rfl
          · exact am_good _ hl
          · exact am_good _ w1
          · exact am_good _ ok4
        · exact a_mws_good hok w z
      have cw : vx_CSW R s args own ix (m_y m9) (m_cc m9) (m_L m9) (m_ret m9) (a_hr m9) (a_mws m9) (a_room d (a_uc σ' - a_uc σ) (a_us σ' - a_us σ)) (a_uc σ' - a_uc σ) (a_us σ' - a_us σ) r.2.1 := vx_cwSW r.2.1 hts hg (a_cword1 h0) rfl rfl ⟨ok3.1, ok3.2, hnp⟩ ⟨hf1, hf2⟩
      exact fin (vx_runSX (H := H) (locs := locs) (cells := cells) (slots := slots) (g := F0 m pc ls (st.map (a_vm ρ))) (below := below) (meth := meth) (e := e) ⟨hx, hb, hml, hown, hts⟩ (hM ρ) cw hpre rfl hlen9 h.2.2.1.2.1 hstk (lv_room (by rw [a_vm_sum]; exact hsum)) hd ⟨by omega, by omega⟩)
  · have hnw : va_Nw (.methodLinkNest own ix (m_y m9) host) s := hE.2.2.2.2.2.1 _ hl
    have cw : va_CN R s args own ix (m_y m9) host (m_cc m9) (m_L m9) (m_ret m9) (a_mws m9) (a_room d (a_uc σ' - a_uc σ) (a_us σ' - a_us σ)) (a_uc σ' - a_uc σ) (a_us σ' - a_us σ) r.2.1 := va_cnB r.2.1 hts (a_mws_good hok) (a_cword0 h0) rfl rfl hnw (hts _ ok4) ⟨ok3.1, ok3.2, hnp⟩ ⟨hf1, hf2⟩
    exact fin (vx_runSN (H := H) (locs := locs) (cells := cells) (slots := slots) (g := F0 m pc ls (st.map (a_vm ρ))) (below := below) (meth := meth) (e := e) ⟨hx, hb, hml, hown, hts⟩ (hM ρ) ⟨cw, hts _ w1, trivial⟩ hpre rfl hlen9 h.2.2.1.2.1 hstk (lv_room (by rw [a_vm_sum]; exact hsum)) hd ⟨by omega, by omega⟩)
end ACALL2
