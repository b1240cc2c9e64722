/-! instructions on cells -/
theorem a_isref_narrow {ty : FieldType} (h : a_isref ty) (a : Addr) : narrow ty (.ref a) = .ref a ∧ fits ty (.ref a) = true := by
  rcases h with ⟨n, rfl⟩ | ⟨t, rfl⟩ <;> exact ⟨rfl, rfl⟩
section AMEM
variable {p : Program} {l : Launch} {e : Env} {R : Room} {s : State} {m : MethodId} {args : Array Value} {below : List Frame} {meth : Method} {c : Code} {Q : State → Prop} {cc : ByteArray} {nL n0 u0 v0 : Nat} {own : String} {ini : Bool} {F : aFix} {ρ1 : Nat → Nat}
variable {pc : Nat} {L : List (Option Value)} {st : List Value} {σ : aSt}
theorem a_obj {ρ : Nat → Nat} {H : Heap} {a k : Nat} {q : vw_C} (h : a_hp F ρ σ H) (hk : a_kd σ a = 10 + k) (hq : vwCl[k]? = some q) : 100 ≤ a ∧ f_A F (ρ a) ∧ t_OB (ρ a) ((f_D F).1 k) q.2.2 ((f_D F).2 k) H (fun j => a_fv ρ σ a k j) := by
  have ha : 100 ≤ a := a_100 h (by omega) (by omega) (by omega)
  obtain ⟨h1, -, hc⟩ := h.2.2.2.2.1 a ha (by omega)
  obtain ⟨q', hq', hob⟩ := hc.2.2.2 (by omega)
  have e1 : a_kd σ a - 10 = k := by omega
  rw [e1] at hq' hob
  cases hq.symm.trans hq'
  exact ⟨ha, h1, hob⟩
theorem as_getfield {ix a : Nat} {r : aRef} {v : Value} (C : a_ctx p l R s m args meth c cc nL own ini F) (hd : decode cc pc = .ok (.getfield ix, 3)) (hw : a_wfF own r ix) (hk : a_kd σ a = 10 + r.1) (hv : v = if r.2.2 = 1 then a_rf (a_R σ a r.2.1) else .int (a_I σ a r.2.1)) (hg : a_bdc (pc + 3, L, v :: st, σ)) (K : a_W p l e R s m args below meth c Q nL n0 u0 v0 F ρ1 (pc + 3, L, v :: st, σ)) : a_W p l e R s m args below meth c Q nL n0 u0 v0 F ρ1 (pc, L, .ref a :: st, σ) := by
  intro ρ H locs cells slots ls h
  have hh : a_hp F ρ σ H := h.1
  have hS0 : va_S (f_A F) s.heap H locs := h.2.2.2.1
  obtain ⟨hx, hb, hml, hown, hts, hE, -⟩ := C
  obtain ⟨q, ⟨hq, hin, -, -⟩, hkN, hlink, htag⟩ := hw
  obtain ⟨-, -, cell, q1, q2, q3, q4⟩ := a_obj hh hk hq
  obtain ⟨hS, hfc, kC, hkC, hkind⟩ := hE.1.1 r.1 _ hq
  obtain ⟨cf, kf, fi, f, hi, hsl⟩ := hS r.2.1 hkN
  refine W.getf hx hb hown (hts _ hlink) hi (u_facts hfc hkC (u_lays hts hin hkN) hi).1 q1 (by rw [q3]; exact fun z => by cases z) (v := a_vm ρ v) ?_ rfl rfl hd (K ρ H locs cells slots ls (a_at_go h hg))
  rw [hsl, q4 r.2.1 hkN, hv]
  show some (a_fv ρ σ a r.1 r.2.1) = _
  unfold a_fv
  rcases htag with ⟨t1, t2, -⟩ | ⟨t1, t2, -⟩ | ⟨t1, t2, -⟩
  · rw [if_pos t2, if_pos t1]
  · rw [if_neg (by rw [t2]; decide), if_neg (by omega)]; rfl
  · rw [if_neg (by rw [t2]; decide), if_neg (by omega)]; rfl
/-- a field written: the new value is the old values' row with one changed -/
theorem a_putfield {ix a : Nat} {r : aRef} {v : Value} {ty : FieldType} {q : vw_C} {σ' : aSt} (C : a_ctx p l R s m args meth c cc nL own ini F) (hd : decode cc pc = .ok (.putfield ix, 3)) (hq : a_cls r.1 q) (hkN : r.2.1 < q.2.2) (hlink : Jvm.Cond.fieldLink own ix (q.2.1 r.2.1).1 (q.2.1 r.2.1).2.1 (q.2.1 r.2.1).2.2.1 ∈ am_ws) (hp : a_wfP own ini r)
    (hty : parseFieldDescriptor (q.2.1 r.2.1).2.2.1 = some ty) (hn : ∀ ρ : Nat → Nat, narrow ty (a_vm ρ v) = a_vm ρ v ∧ fits ty (a_vm ρ v) = true) (hk : a_kd σ a = 10 + r.1)
    (e1 : σ'.1 = σ.1) (e2 : σ'.2.2.2.2 = σ.2.2.2.2) (eI : ∀ i k, i ≠ a → a_I σ' i k = a_I σ i k) (eR : ∀ i k, i ≠ a → a_R σ' i k = a_R σ i k) (eL : ∀ i k, i ≠ a → a_L σ' i k = a_L σ i k)
    (ev : ∀ (ρ : Nat → Nat) (k : Nat), k < q.2.2 → updV (fun j => a_fv ρ σ a r.1 j) r.2.1 (a_vm ρ v) k = a_fv ρ σ' a r.1 k)
    (hg : a_bdc (pc + 3, L, st, σ')) (K : a_W p l e R s m args below meth c Q nL n0 u0 v0 F ρ1 (pc + 3, L, st, σ')) : a_W p l e R s m args below meth c Q nL n0 u0 v0 F ρ1 (pc, L, v :: .ref a :: st, σ) := by
  intro ρ H locs cells slots ls h
  have hh : a_hp F ρ σ H := h.1
  have hS0 : va_S (f_A F) s.heap H locs := h.2.2.2.1
  obtain ⟨hx, hb, hml, hown, hts, hE, -, -, -, hini, -⟩ := C
  obtain ⟨hq, hin, ⟨ty0, hty0⟩, hnm⟩ := hq
  obtain ⟨ha, hA, cell, q1, q2, q3, q4⟩ := a_obj hh hk hq
  have hap := va_apart (own := own) hts hin ty0 hty0 hnm hE.1 hq
  obtain ⟨hS, hfc, kC, hkC, hkind⟩ := hE.1.1 r.1 _ hq
  obtain ⟨cf, kf, fi, f, hi, hsl⟩ := hS r.2.1 hkN
  have hst := (u_facts hfc hkC (u_lays hts hin hkN) hi).1
  have fin : ∀ H' : Heap, H'[ρ a]? = some (cell.setSlot f.slot (a_vm ρ v)) → H'.size = H.size → (∀ z, z ≠ ρ a → H'[z]? = H[z]?) → W p l e R s m args below meth c H' (locs ++ [⟨ρ a, f.slot⟩]) cells slots Q (F0 m (pc + 3) ls (st.map (a_vm ρ))) := by
    intro H' g1 g2 g3
    rw [hsl] at g1
    have ek : ∀ i, σ'.1 i = σ.1 i := fun i => by rw [e1]
    have ekd : a_kd σ' a = 10 + r.1 := (congrArg Prod.fst (ek a)).trans hk
    refine K ρ H' _ cells slots ls (a_at_put h hg hA g2 g3 (a_hp_upd hh ha (by omega) e1 (congrArg (fun x => x.1) e2) eI eR eL g2 g3 ?_) e2)
    refine ⟨fun z => by omega, fun z => by omega, fun z => by omega, fun _ => ⟨q, by rw [ekd]; rw [show 10 + r.1 - 10 = r.1 by omega]; exact hq, ?_⟩⟩
    rw [ekd, show 10 + r.1 - 10 = r.1 by omega]
    exact t_OB.to (V := updV (fun j => a_fv ρ σ a r.1 j) r.2.1 (a_vm ρ v)) ⟨_, g1, q2, q3, t_set q4 hap hkN (a_vm ρ v)⟩ (fun k hkk => ev ρ k hkk)
  obtain ⟨q', hq', hfin⟩ := hp
  cases hq.symm.trans hq'
  have hlay := hts _ (hin _ (u_in_lay hkN))
  unfold u_lay at hlay
  rcases hfin with hfin | ⟨hfin, hi9, hown9⟩
  · rw [if_neg (by rw [hfin]; decide)] at hlay
    have h6 := u_store hfc hkC hkind hlay hi hty (hn ρ).1 (hn ρ).2
    exact W.putK hx hb (f := f) ⟨hown, hts _ hlink, ⟨_, _, _, hi⟩, hst⟩ (by rw [q2]; exact h6) q1 q3 (by rw [hsl]; exact k2_hasslot (q4 r.2.1 hkN)) rfl rfl hd fin
  · rw [if_pos hfin] at hlay
    have hcf : m.cls = cf := by
      obtain ⟨_, _, c', _, _, _, -, -, hf', -, -, -, hown2, -⟩ := Cond.laysFinal_spec hlay
      have e1 : c' = cf := by have := hi.symm.trans hf'; simp at this; exact this.1.symm
      rw [hown9] at hown2
      rw [← e1]; exact Option.some.inj (hown.symm.trans hown2)
    have h6 := u_fits hfc hkC hkind (Or.inr hlay) hi hty (hn ρ).1 (hn ρ).2
    exact W.putFinK hx hb hown (hts _ hlink) hi hst hcf (hini hi9) (by rw [q2]; exact h6) q1 q3 (by rw [hsl]; exact k2_hasslot (q4 r.2.1 hkN)) rfl rfl hd fin
theorem as_putI {ix a : Nat} {r : aRef} {x : Int32} (C : a_ctx p l R s m args meth c cc nL own ini F) (hd : decode cc pc = .ok (.putfield ix, 3)) (hw : a_wfF own r ix) (hp : a_wfP own ini r) (hk : a_kd σ a = 10 + r.1) (ht : r.2.2 = 0 ∨ (r.2.2 = 2 ∧ (x = 0 ∨ x = 1))) (hg : a_bdc (pc + 3, L, st, a_setI σ a r.2.1 x)) (K : a_W p l e R s m args below meth c Q nL n0 u0 v0 F ρ1 (pc + 3, L, st, a_setI σ a r.2.1 x)) : a_W p l e R s m args below meth c Q nL n0 u0 v0 F ρ1 (pc, L, .int x :: .ref a :: st, σ) := by
  obtain ⟨q, hq, hkN, hlink, htag⟩ := hw
  have hty : ∃ ty, parseFieldDescriptor (q.2.1 r.2.1).2.2.1 = some ty ∧ a_tag r.1 r.2.1 = false ∧ narrow ty (.int x) = .int x ∧ fits ty (.int x) = true := by
    rcases htag with ⟨t1, t2, -⟩ | ⟨t1, t2, t3⟩ | ⟨t1, t2, t3⟩
    · omega
    · exact ⟨.int, t3, t2, rfl, rfl⟩
    · rcases t3 with t3 | t3
      · refine ⟨.boolean, t3, t2, ?_⟩
        rcases ht with z | ⟨-, z⟩
        · omega
        · rcases z with rfl | rfl
          · exact ⟨by decide, by decide⟩
          · exact ⟨by decide, by decide⟩
      · refine ⟨.byte, t3, t2, ?_⟩
        rcases ht with z | ⟨-, z⟩
        · omega
        · rcases z with rfl | rfl
          · exact ⟨by decide, by decide⟩
          · exact ⟨by decide, by decide⟩
  obtain ⟨ty, h1, h2, h3, h4⟩ := hty
  refine a_putfield (σ' := a_setI σ a r.2.1 x) C hd hq hkN hlink hp h1 (v := .int x) (fun ρ => ⟨h3, h4⟩) hk rfl rfl (fun i k hi => if_neg fun z => hi z.1) (fun i k _ => rfl) (fun i k _ => rfl) (fun ρ k _ => ?_) hg K
  show (if k = r.2.1 then (.int x : Value) else a_fv ρ σ a r.1 k) = a_fv ρ (a_setI σ a r.2.1 x) a r.1 k
  unfold a_fv
  by_cases hkk : k = r.2.1
  · subst hkk
    rw [if_pos rfl, if_neg (by rw [h2]; decide)]
    exact congrArg Value.int (if_pos ⟨rfl, rfl⟩).symm
  · rw [if_neg hkk]
    by_cases ht2 : a_tag r.1 k = true
    · rw [if_pos ht2, if_pos ht2]; rfl
    · rw [if_neg ht2, if_neg ht2]
      exact congrArg Value.int (if_neg fun z => hkk z.2).symm
theorem as_putR {ix a x : Nat} {r : aRef} (C : a_ctx p l R s m args meth c cc nL own ini F) (hd : decode cc pc = .ok (.putfield ix, 3)) (hw : a_wfF own r ix) (hp : a_wfP own ini r) (hk : a_kd σ a = 10 + r.1) (ht : r.2.2 = 1) (hg : a_bdc (pc + 3, L, st, a_setR σ a r.2.1 (some x))) (K : a_W p l e R s m args below meth c Q nL n0 u0 v0 F ρ1 (pc + 3, L, st, a_setR σ a r.2.1 (some x))) : a_W p l e R s m args below meth c Q nL n0 u0 v0 F ρ1 (pc, L, .ref x :: .ref a :: st, σ) := by
  obtain ⟨q, hq, hkN, hlink, htag⟩ := hw
  rcases htag with ⟨t1, t2, ty, h1, h2⟩ | ⟨t1, -⟩ | ⟨t1, -⟩
  · refine a_putfield (σ' := a_setR σ a r.2.1 (some x)) C hd hq hkN hlink hp h1 (v := .ref x) (fun ρ => a_isref_narrow h2 (ρ x)) hk rfl rfl (fun i k _ => rfl) (fun i k hi => if_neg fun z => hi z.1) (fun i k _ => rfl) (fun ρ k _ => ?_) hg K
    show (if k = r.2.1 then (.ref (ρ x) : Value) else a_fv ρ σ a r.1 k) = a_fv ρ (a_setR σ a r.2.1 (some x)) a r.1 k
    unfold a_fv
    by_cases hkk : k = r.2.1
    · subst hkk
      rw [if_pos rfl, if_pos t2]
      have e1 : a_R (a_setR σ a r.2.1 (some x)) a r.2.1 = some x := if_pos ⟨rfl, rfl⟩
      rw [e1]; rfl
    · rw [if_neg hkk]
      by_cases ht2 : a_tag r.1 k = true
      · rw [if_pos ht2, if_pos ht2]
        have e1 : a_R (a_setR σ a r.2.1 (some x)) a k = a_R σ a k := if_neg fun z => hkk z.2
        rw [e1]
      · rw [if_neg ht2, if_neg ht2]; rfl
  · omega
  · omega
theorem a_vpin {i : Int32} {n : Nat} (h : a_in i n) : ¬ (i < 0 ∨ n ≤ i.toNatClampNeg) := fun z => z.elim h.1 fun z => by have := h.2; omega
theorem as_alen {a : Nat} (C : a_ctx p l R s m args meth c cc nL own ini F) (hd : decode cc pc = .ok (.arraylength, 1)) (hk : 1 ≤ a_kd σ a ∧ a_kd σ a ≤ 5 ∧ a_ln σ a < 2147483648) (hg : a_bdc (pc + 1, L, .int (Int32.ofNat (a_ln σ a)) :: st, σ)) (K : a_W p l e R s m args below meth c Q nL n0 u0 v0 F ρ1 (pc + 1, L, .int (Int32.ofNat (a_ln σ a)) :: st, σ)) : a_W p l e R s m args below meth c Q nL n0 u0 v0 F ρ1 (pc, L, .ref a :: st, σ) := by
  intro ρ H locs cells slots ls h
  have hh : a_hp F ρ σ H := h.1
  have hS0 : va_S (f_A F) s.heap H locs := h.2.2.2.1
  obtain ⟨hx, hb, hml, hown, hts, hE, -⟩ := C
  have K' := K ρ H locs cells slots ls (a_at_go h hg)
  have arr : ∀ (k : Nat) (ty : FieldType) (f : Nat → Value), a_aty k = some ty → H[ρ a]? = some (arrV (f_t F k) (a_ln σ a) f) → W p l e R s m args below meth c H locs cells slots Q (F0 m pc ls (.ref (ρ a) :: st.map (a_vm ρ))) := by
    intro k ty f hk hc
    exact W.alen (n := Int32.ofNat (a_ln σ a)) hx hb hc ((hE.2.1 k ty hk).1 _ _) (by rw [arrV_size]) rfl rfl hd K'
  have hc : a_kd σ a ≠ 5 → a_cell F ρ σ H a := fun h5 => (hh.2.2.2.2.1 a (a_100 hh (by omega) h5 (by omega)) (by omega)).2.2
  have h5 : a_kd σ a = 1 ∨ a_kd σ a = 2 ∨ a_kd σ a = 3 ∨ a_kd σ a = 4 ∨ a_kd σ a = 5 := by omega
  rcases h5 with h5 | h5 | h5 | h5 | h5
  · have := (hc (by omega)).1 (Or.inl h5); rw [h5] at this; exact arr 1 _ _ rfl this
  · have := (hc (by omega)).2.1 h5; exact arr 2 _ _ rfl this
  · have := (hc (by omega)).2.2.1 (Or.inl h5); rw [h5] at this; exact arr 3 _ _ rfl this
  · have := (hc (by omega)).2.2.1 (Or.inr h5); rw [h5] at this; exact arr 4 _ _ rfl this
  · obtain ⟨g1, g2, g3⟩ := hh.2.2.2.2.2.1 a h5
    subst g1
    obtain ⟨q1, q2, q3⟩ := hE.2.2.2.1
    have e1 : ρ 0 = f_r F 0 := hh.1 0 (by omega)
    show W p l e R s m args below meth c H locs cells slots Q (F0 m pc ls (.ref (ρ 0) :: st.map (a_vm ρ)))
    rw [e1]
    rw [g2] at K'
    exact va_slen hx hb q1 q2 q3 hS0 hd K'
theorem as_iald {a : Nat} {i : Int32} (C : a_ctx p l R s m args meth c cc nL own ini F) (hd : decode cc pc = .ok (.iaload, 1)) (hk : a_kd σ a = 1 ∨ a_kd σ a = 5) (hi : a_in i (a_ln σ a)) (hg : a_bdc (pc + 1, L, .int (a_I σ a i.toNatClampNeg) :: st, σ)) (K : a_W p l e R s m args below meth c Q nL n0 u0 v0 F ρ1 (pc + 1, L, .int (a_I σ a i.toNatClampNeg) :: st, σ)) : a_W p l e R s m args below meth c Q nL n0 u0 v0 F ρ1 (pc, L, .int i :: .ref a :: st, σ) := by
  intro ρ H locs cells slots ls h
  have hh : a_hp F ρ σ H := h.1
  have hS0 : va_S (f_A F) s.heap H locs := h.2.2.2.1
  obtain ⟨hx, hb, hml, hown, hts, hE, -⟩ := C
  have K' := K ρ H locs cells slots ls (a_at_go h hg)
  rcases hk with hk | hk
  · have ha : 100 ≤ a := a_100 hh (by omega) (by omega) (by omega)
    have hc := (hh.2.2.2.2.1 a ha (by omega)).2.2.1 (Or.inl hk)
    rw [hk] at hc
    exact W.iald (v := .int (a_I σ a i.toNatClampNeg)) hx hb hc ((hE.2.1 1 _ rfl).1 _ _) (fun z => by cases z) (by rw [arrV_size]; exact a_vpin hi) (by rw [arrV_read _ _ hi.2]) rfl rfl hd K'
  · obtain ⟨g1, g2, g3⟩ := hh.2.2.2.2.2.1 a hk
    subst g1
    obtain ⟨q1, q2, q3⟩ := hE.2.2.2.1
    have e1 : ρ 0 = f_r F 0 := hh.1 0 (by omega)
    show W p l e R s m args below meth c H locs cells slots Q (F0 m pc ls (.int i :: .ref (ρ 0) :: st.map (a_vm ρ)))
    rw [e1]
    rw [g2] at hi
    rw [g3 _ hi.2] at K'
    exact va_sld hx hb q1 q2 q3 hS0 (a_vpin hi) hd K'
theorem as_lald {a : Nat} {i : Int32} (C : a_ctx p l R s m args meth c cc nL own ini F) (hd : decode cc pc = .ok (.laload, 1)) (hk : a_kd σ a = 2) (hi : a_in i (a_ln σ a)) (hg : a_bdc (pc + 1, L, .long (a_L σ a i.toNatClampNeg) :: st, σ)) (K : a_W p l e R s m args below meth c Q nL n0 u0 v0 F ρ1 (pc + 1, L, .long (a_L σ a i.toNatClampNeg) :: st, σ)) : a_W p l e R s m args below meth c Q nL n0 u0 v0 F ρ1 (pc, L, .int i :: .ref a :: st, σ) := by
  intro ρ H locs cells slots ls h
  have hh : a_hp F ρ σ H := h.1
  have hS0 : va_S (f_A F) s.heap H locs := h.2.2.2.1
  obtain ⟨hx, hb, hml, hown, hts, hE, -⟩ := C
  have ha : 100 ≤ a := a_100 hh (by omega) (by omega) (by omega)
  have hc := (hh.2.2.2.2.1 a ha (by omega)).2.2.2.1 hk
  exact W.lald (v := .long (a_L σ a i.toNatClampNeg)) hx hb hc ((hE.2.1 2 _ rfl).1 _ _) (fun z => by cases z) (by rw [arrV_size]; exact a_vpin hi) (by rw [arrV_read _ _ hi.2]) rfl rfl hd (K ρ H locs cells slots ls (a_at_go h hg))
theorem as_aald {a : Nat} {i : Int32} (C : a_ctx p l R s m args meth c cc nL own ini F) (hd : decode cc pc = .ok (.aaload, 1)) (hk : a_kd σ a = 3 ∨ a_kd σ a = 4) (hi : a_in i (a_ln σ a)) (hg : a_bdc (pc + 1, L, a_rf (a_R σ a i.toNatClampNeg) :: st, σ)) (K : a_W p l e R s m args below meth c Q nL n0 u0 v0 F ρ1 (pc + 1, L, a_rf (a_R σ a i.toNatClampNeg) :: st, σ)) : a_W p l e R s m args below meth c Q nL n0 u0 v0 F ρ1 (pc, L, .int i :: .ref a :: st, σ) := by
  intro ρ H locs cells slots ls h
  have hh : a_hp F ρ σ H := h.1
  have hS0 : va_S (f_A F) s.heap H locs := h.2.2.2.1
  obtain ⟨hx, hb, hml, hown, hts, hE, -⟩ := C
  have ha : 100 ≤ a := a_100 hh (by omega) (by omega) (by omega)
  have hc := (hh.2.2.2.2.1 a ha (by omega)).2.2.2.2.1 hk
  have K' := K ρ H locs cells slots ls (a_at_go h hg)
  rcases hk with hk | hk <;> rw [hk] at hc
  · exact W.aald (v := a_vm ρ (a_rf (a_R σ a i.toNatClampNeg))) (ty := .object "java/lang/String") hx hb hc ((hE.2.1 3 _ rfl).1 _ _) rfl (fun z => by cases z) (by rw [arrV_size]; exact a_vpin hi) (by rw [arrV_read _ _ hi.2]) rfl rfl hd K'
  · exact W.aald (v := a_vm ρ (a_rf (a_R σ a i.toNatClampNeg))) (ty := .object "PaletteTubes$Palette") hx hb hc ((hE.2.1 4 _ rfl).1 _ _) rfl (fun z => by cases z) (by rw [arrV_size]; exact a_vpin hi) (by rw [arrV_read _ _ hi.2]) rfl rfl hd K'
theorem as_bald {a : Nat} {i : Int32} (C : a_ctx p l R s m args meth c cc nL own ini F) (hd : decode cc pc = .ok (.baload, 1)) (hk : a_kd σ a = 7) (hi : a_in i (a_ln σ a)) (hg : a_bdc (pc + 1, L, .int (a_I σ a i.toNatClampNeg) :: st, σ)) (K : a_W p l e R s m args below meth c Q nL n0 u0 v0 F ρ1 (pc + 1, L, .int (a_I σ a i.toNatClampNeg) :: st, σ)) : a_W p l e R s m args below meth c Q nL n0 u0 v0 F ρ1 (pc, L, .int i :: .ref a :: st, σ) := by
  intro ρ H locs cells slots ls h
  have hh : a_hp F ρ σ H := h.1
  obtain ⟨hx, hb, hml, hown, hts, hE, -⟩ := C
  have ha : 100 ≤ a := a_100 hh (by omega) (by omega) (by omega)
  have hc := (hh.2.2.2.2.1 a ha (by omega)).2.2.1 (Or.inr hk)
  rw [hk] at hc
  exact W.bald (v := .int (a_I σ a i.toNatClampNeg)) hx hb hc ((hE.2.1 7 _ rfl).1 _ _) (fun z => by cases z) (by rw [arrV_size]; exact a_vpin hi) (by rw [arrV_read _ _ hi.2]) rfl rfl hd (K ρ H locs cells slots ls (a_at_go h hg))
theorem as_alen7 {a : Nat} (C : a_ctx p l R s m args meth c cc nL own ini F) (hd : decode cc pc = .ok (.arraylength, 1)) (hk : a_kd σ a = 7 ∧ a_ln σ a < 2147483648) (hg : a_bdc (pc + 1, L, .int (Int32.ofNat (a_ln σ a)) :: st, σ)) (K : a_W p l e R s m args below meth c Q nL n0 u0 v0 F ρ1 (pc + 1, L, .int (Int32.ofNat (a_ln σ a)) :: st, σ)) : a_W p l e R s m args below meth c Q nL n0 u0 v0 F ρ1 (pc, L, .ref a :: st, σ) := by
  intro ρ H locs cells slots ls h
  have hh : a_hp F ρ σ H := h.1
  obtain ⟨hx, hb, hml, hown, hts, hE, -⟩ := C
  have hc := (hh.2.2.2.2.1 a (a_100 hh (by omega) (by omega) (by omega)) (by omega)).2.2.1 (Or.inr hk.1)
  rw [hk.1] at hc
  exact W.alen (n := Int32.ofNat (a_ln σ a)) hx hb hc ((hE.2.1 7 _ rfl).1 _ _) (by rw [arrV_size]) rfl rfl hd (K ρ H locs cells slots ls (a_at_go h hg))
theorem as_alenT {a : Nat} (C : a_ctx p l R s m args meth c cc nL own ini F) (hd : decode cc pc = .ok (.arraylength, 1)) (hk : 60 ≤ a ∧ a ≤ 78) (hg : a_bdc (pc + 1, L, .int (Int32.ofNat (a_tbl a).length) :: st, σ)) (K : a_W p l e R s m args below meth c Q nL n0 u0 v0 F ρ1 (pc + 1, L, .int (Int32.ofNat (a_tbl a).length) :: st, σ)) : a_W p l e R s m args below meth c Q nL n0 u0 v0 F ρ1 (pc, L, .ref a :: st, σ) := by
  intro ρ H locs cells slots ls h
  have hh : a_hp F ρ σ H := h.1
  have hS0 : va_S (f_A F) s.heap H locs := h.2.2.2.1
  obtain ⟨hx, hb, hml, hown, hts, hE, -, -, -, -, -, -, hF⟩ := C
  show W p l e R s m args below meth c H locs cells slots Q (F0 m pc ls (.ref (ρ a) :: st.map (a_vm ρ)))
  rw [hh.1 a (by omega)]
  exact va_tlen hx hb ((hF.2.2.2 s s.heap hE.2.2.2.2.2.2.2).1 a hk.1 hk.2) hS0 rfl hd (K ρ H locs cells slots ls (a_at_go h hg))
theorem as_baldT {a : Nat} {i : Int32} (C : a_ctx p l R s m args meth c cc nL own ini F) (hd : decode cc pc = .ok (.baload, 1)) (hk : 60 ≤ a ∧ a ≤ 78) (hi : a_in i (a_tbl a).length) (hg : a_bdc (pc + 1, L, .int (Int32.ofNat ((a_tbl a).getD i.toNatClampNeg 0)) :: st, σ)) (K : a_W p l e R s m args below meth c Q nL n0 u0 v0 F ρ1 (pc + 1, L, .int (Int32.ofNat ((a_tbl a).getD i.toNatClampNeg 0)) :: st, σ)) : a_W p l e R s m args below meth c Q nL n0 u0 v0 F ρ1 (pc, L, .int i :: .ref a :: st, σ) := by
  intro ρ H locs cells slots ls h
  have hh : a_hp F ρ σ H := h.1
  have hS0 : va_S (f_A F) s.heap H locs := h.2.2.2.1
  obtain ⟨hx, hb, hml, hown, hts, hE, -, -, -, -, -, -, hF⟩ := C
  show W p l e R s m args below meth c H locs cells slots Q (F0 m pc ls (.int i :: .ref (ρ a) :: st.map (a_vm ρ)))
  rw [hh.1 a (by omega)]
  exact va_tb hx hb ((hF.2.2.2 s s.heap hE.2.2.2.2.2.2.2).1 a hk.1 hk.2) hS0 (a_vpin hi) rfl hd (K ρ H locs cells slots ls (a_at_go h hg))
theorem as_getS {ix a : Nat} {r : aRef} (C : a_ctx p l R s m args meth c cc nL own ini F) (hd : decode cc pc = .ok (.getfield ix, 3)) (hw : a_wfF own r ix) (hk : a_kd σ a = 6 ∧ 1 ≤ a ∧ a ≤ 18 ∧ r.1 = 0 ∧ r.2.1 < 2) {v : Value} (hv : v = if r.2.1 = 0 then .ref (60 + a) else .int 0) (hg : a_bdc (pc + 3, L, v :: st, σ)) (K : a_W p l e R s m args below meth c Q nL n0 u0 v0 F ρ1 (pc + 3, L, v :: st, σ)) : a_W p l e R s m args below meth c Q nL n0 u0 v0 F ρ1 (pc, L, .ref a :: st, σ) := by
  intro ρ H locs cells slots ls h
  have hh : a_hp F ρ σ H := h.1
  have hS0 : va_S (f_A F) s.heap H locs := h.2.2.2.1
  obtain ⟨hx, hb, hml, hown, hts, hE, -, -, -, -, -, -, hF⟩ := C
  obtain ⟨q, ⟨hq, -⟩, hkN, hlink, -⟩ := hw
  obtain ⟨k1, k2, k3, k4, k5⟩ := hk
  obtain ⟨r1, r2, r3⟩ := r
  have k4 : r1 = 0 := k4
  have k5 : r2 < 2 := k5
  subst k4
  have hq : some ((RJ0, TJ0, 4) : vw_C) = some q := hq
  cases hq
  have hO := (hF.2.2.2 s s.heap hE.2.2.2.2.2.2.2).2 a k2 k3
  have K' := K ρ H locs cells slots ls (a_at_go h hg)
  have e1 : ((pc + 3, L, v :: st, σ) : aCfg).2.2.1.map (a_vm ρ) = a_vm ρ v :: st.map (a_vm ρ) := rfl
  rw [e1] at K'
  show W p l e R s m args below meth c H locs cells slots Q (F0 m pc ls (.ref (ρ a) :: st.map (a_vm ρ)))
  rw [hh.1 a (by omega)]
  have h2 : r2 = 0 ∨ r2 = 1 := by omega
  rcases h2 with rfl | rfl
  · have ev : a_vm ρ v = .ref (f_r F (60 + a)) := by
      rw [hv]
      show Value.ref (ρ (60 + a)) = _
      rw [hh.1 (60 + a) (by omega)]
    rw [ev] at K'
    exact vk_getf hx hb hO.1 hS0 hown (hts _ hlink) (fun _ q => q) hd K'
  · have ev : a_vm ρ v = .int 0 := by rw [hv]; rfl
    rw [ev] at K'
    exact vk_getf hx hb hO.2 hS0 hown (hts _ hlink) (fun _ q => q) hd K'
end AMEM
