/-! the given members, by the JDK's methods -/
/-- two states that tell the same of every cell -/
def Ir (σ σ' : aSt) : Prop := σ'.1 = σ.1 ∧ (∀ b k, a_R σ' b k = a_R σ b k) ∧ σ'.2.2.2.2 = σ.2.2.2.2 ∧ (∀ b k, (a_kd σ b = 1 ∨ a_kd σ b = 7 → k < a_ln σ b) → a_I σ' b k = a_I σ b k) ∧ ∀ b k, a_kd σ b = 2 → a_L σ' b k = a_L σ b k
theorem arrV_cg {cI : ClassId} {N : Nat} {f g : Nat → Value} (h : ∀ j, j < N → f j = g j) : arrV cI N f = arrV cI N g := by
  unfold arrV
  refine congrArg (fun z => ({ cls := cI, slots := z, vm := .none } : Cell)) ?_
  exact congrArg Array.ofFn (funext fun j => h j.val j.isLt)
theorem a_hp_irr {F : aFix} {ρ : Nat → Nat} {σ σ' : aSt} {H : Heap} (h : a_hp F ρ σ H) (hi : Ir σ σ') : a_hp F ρ σ' H := by
  obtain ⟨h1, h2, h3, h4, h5, h6, h7, h8⟩ := h
  obtain ⟨e19, eR, en, eI, eL⟩ := hi
  have ek : ∀ i, a_kd σ' i = a_kd σ i := fun i => by unfold a_kd; rw [e19]
  have el : ∀ i, a_ln σ' i = a_ln σ i := fun i => by unfold a_ln; rw [e19]
  have en2 : a_n σ' = a_n σ := by unfold a_n; rw [en]
  refine ⟨h1, by rw [en2]; exact h2, fun i hi => by rw [en2]; exact h3 i (by rw [← ek]; exact hi), fun i j hi hj ki kj => h4 i j hi hj (by rw [← ek]; exact ki) (by rw [← ek]; exact kj), fun i hi ki => ?_, fun i ki => ?_, fun i ki => h7 i (by rw [← ek]; exact ki), fun i hi => by rw [ek]; exact h8 i hi⟩
  · obtain ⟨g1, g2, c1, c2, c3, c4⟩ := h5 i hi (by rw [← ek]; exact ki)
    refine ⟨g1, g2, fun z => ?_, fun z => ?_, fun z => ?_, fun z => ?_⟩
    · rw [ek] at z
      rw [ek, el, c1 z]
      exact congrArg some (arrV_cg fun j hj => by rw [eI i j fun _ => hj])
    · rw [ek] at z
      rw [el, c2 z]
      exact congrArg some (arrV_cg fun j hj => by rw [eL i j z])
    · rw [ek] at z
      rw [ek, el, c3 z]
      exact congrArg some (arrV_cg fun j hj => by rw [eR])
    · rw [ek] at z
      obtain ⟨q, q1, q2⟩ := c4 z
      refine ⟨q, by rw [ek]; exact q1, ?_⟩
      rw [ek]
      have e69 : (fun k => a_fv ρ σ' i (a_kd σ i - 10) k) = (fun k => a_fv ρ σ i (a_kd σ i - 10) k) := funext fun k => by
        unfold a_fv
        rw [eI i k fun w => by omega, eR]
      rw [e69]
      exact q2
  · obtain ⟨g1, g2, g39⟩ := h6 i (by rw [← ek]; exact ki)
    refine ⟨g1, by rw [el]; exact g2, fun j hj => ?_⟩
    rw [eI 0 j fun w => by
      have : a_kd σ 0 = 5 := by rw [← g1, ← ek]; exact ki
      omega]
    exact g39 j hj
theorem a_W_irr {p : Program} {l : Launch} {e : Env} {R : Room} {s : State} {m : MethodId} {args : Array Value} {below : List Frame} {meth : Method} {c : Code} {Q : State → Prop} {nL n0 u0 v0 : Nat} {F : aFix} {ρ1 : Nat → Nat} {pc : Nat} {L : List (Option Value)} {st : List Value} {σ σ' : aSt} (hi : Ir σ σ') (K : a_W p l e R s m args below meth c Q nL n0 u0 v0 F ρ1 (pc, L, st, σ')) : a_W p l e R s m args below meth c Q nL n0 u0 v0 F ρ1 (pc, L, st, σ) := by
  intro ρ H locs cells slots ls h
  have en : a_n σ' = a_n σ := by unfold a_n; rw [hi.2.2.1]
  have eu : a_uc σ' = a_uc σ := by unfold a_uc; rw [hi.2.2.1]
  have ev : a_us σ' = a_us σ := by unfold a_us; rw [hi.2.2.1]
  obtain ⟨g1, ⟨g2, g39, g4⟩, g5, g6, g7, g8, g9, g10⟩ := h
  refine K ρ H locs cells slots ls ⟨a_hp_irr g1 hi, ⟨?_, ?_, ?_⟩, g5, g6, g7, ?_, ?_, ?_⟩
  · show a_bdl (a_n σ') L
    rw [en]; exact g2
  · show a_bds (a_n σ') st
    rw [en]; exact g39
  · refine ⟨?_, fun a k x hx => ?_⟩
    · show 100 ≤ a_n σ'
      rw [en]; exact g4.1
    · have hx : a_R σ' a k = some x := hx
      rw [hi.2.1] at hx
      show x < a_n σ'
      rw [en]
      exact g4.2 a k x hx
  · show n0 ≤ a_n σ'
    rw [en]; exact g8
  · show a_uc σ' = u0 + cells
    rw [eu]; exact g9
  · show a_us σ' = v0 + slots
    rw [ev]; exact g10
/-- the longs as they were -/
def J_lw (σ σ' : aSt) : aSt := (σ'.1, σ'.2.1, σ'.2.2.1, σ.2.2.2.1, σ'.2.2.2.2)
def J_okl (σ σ' : aSt) : Prop := ∀ b k, a_kd σ' b = 2 → a_L σ b k = a_L σ' b k
theorem J_lw_ir {σ σ' : aSt} (h : J_okl σ σ') : Ir σ' (J_lw σ σ') := ⟨rfl, fun _ _ => rfl, rfl, fun _ _ _ => rfl, h⟩
noncomputable def J_i (σ : aSt) (r : Option (aRes × aSt)) : Option (aRes × aSt) := match r with
  | some (.inl v, σ') => @ite _ (J_okl σ σ') (Classical.propDecidable _) (some (.inl v, J_lw σ σ')) none
  | _ => none
theorem J_i_some {σ : aSt} {r : Option (aRes × aSt)} {res : aRes} {σ2 : aSt} (h : J_i σ r = some (res, σ2)) : ∃ v σ', res = .inl v ∧ r = some (.inl v, σ') ∧ J_okl σ σ' ∧ σ2 = J_lw σ σ' := by
  unfold J_i at h
  split at h
  · rename_i v σ'
    by_cases hc9 : J_okl σ σ'
    · rw [if_pos hc9] at h; cases h; exact ⟨_, _, rfl, rfl, hc9, rfl⟩
    · rw [if_neg hc9] at h; cases h
  · cases h
theorem J_i_of {σ σ' : aSt} {r : Option (aRes × aSt)} {v : Option Value} (h : r = some (.inl v, σ')) (hk : J_okl σ σ') : J_i σ r = some (.inl v, J_lw σ σ') := by
  rw [h]
  exact if_pos hk
noncomputable def J_w (b : Bool) (id : Nat) (as : List Value) (σ : aSt) : Option (aRes × aSt) := match as with
  | .ref a :: _ => if a_kd σ a = 11 then J_i σ (a_call (a_tabJ b) (P_J b 2) 12 id as σ) else none
  | _ => none
theorem J_w_some {b : Bool} {id : Nat} {as : List Value} {σ σ2 : aSt} {res : aRes} (h : J_w b id as σ = some (res, σ2)) : ∃ a tl v σ', as = .ref a :: tl ∧ a_kd σ a = 11 ∧ res = .inl v ∧ a_call (a_tabJ b) (P_J b 2) 12 id as σ = some (.inl v, σ') ∧ J_okl σ σ' ∧ σ2 = J_lw σ σ' := by
  unfold J_w at h
  split at h
  · split at h
    · rename_i a tl hk
      obtain ⟨v, σ', e19, e29, e39, e49⟩ := J_i_some h
      exact ⟨_, _, v, σ', rfl, hk, e19, e29, e39, e49⟩
    · cases h
  · cases h
/-- filling -/
def J_fl (σ : aSt) (a : Nat) (v : Int32) (i : Nat) : aSt := (σ.1, fun c j => if c = a ∧ j < i then v else σ.2.1 c j, σ.2.2)
def J_f (as : List Value) (σ : aSt) : Option (aRes × aSt) := match as with
  | [.ref a, .int v] => if a_kd σ a = 1 ∧ 100 ≤ a ∧ a_ln σ a ≤ 65536 then some (.inl none, a_fil σ a v) else none
  | _ => none
theorem J_f_some {as : List Value} {σ σ' : aSt} {res : aRes} (h : J_f as σ = some (res, σ')) : ∃ (a : Nat) (v : Int32), as = [.ref a, .int v] ∧ a_kd σ a = 1 ∧ 100 ≤ a ∧ a_ln σ a ≤ 65536 ∧ res = .inl none ∧ σ' = a_fil σ a v := by
  unfold J_f at h
  split at h
  · split at h
    · rename_i hc9; cases h; exact ⟨_, _, rfl, hc9.1, hc9.2.1, hc9.2.2, rfl, rfl⟩
    · cases h
  · cases h
theorem J_fl_ir {σ : aSt} {a : Nat} {v : Int32} (h1 : a_kd σ a = 1) : Ir (J_fl σ a v (a_ln σ a)) (a_fil σ a v) := by
  refine ⟨rfl, fun _ _ => rfl, rfl, fun b k hk => ?_, fun _ _ _ => rfl⟩
  show (if b = a then v else a_I σ b k) = if b = a ∧ k < a_ln σ a then v else a_I σ b k
  by_cases hb : b = a
  · subst hb
    have hk2 : k < a_ln σ b := hk (.inl h1)
    rw [if_pos rfl, if_pos ⟨rfl, hk2⟩]
  · rw [if_neg hb, if_neg fun z => hb z.1]
theorem js_floop {b : Bool} {σ : aSt} {a N : Nat} {x : Int32} {C : aCall} (h1 : a_kd σ a = 1) (ha : 100 ≤ a) (hN9 : a_ln σ a = N) (hN2 : N ≤ 65536) : ∀ k i, i + k = N → b_R C kJ7_fill_53178 [] (5, [some (.ref a), some (.int x), some (.int (nI i)), some (.int (nI N))], [], J_fl σ a x i) = some (.inl none, J_fl σ a x N)
  | 0, i, h => by
    obtain rfl : i = N := by omega
    exact js_fend hN2
  | k + 1, i, h => by
    refine (js_fstep (σ := J_fl σ a x i) h1 ha hN9 hN2 (show i < N by omega)).trans ?_
    have e : a_setI (J_fl σ a x i) a i x = J_fl σ a x (i + 1) := by
      refine Prod.ext rfl (Prod.ext (funext fun c => funext fun j => ?_) rfl)
      show (if c = a ∧ j = i then x else if c = a ∧ j < i then x else σ.2.1 c j) = if c = a ∧ j < i + 1 then x else σ.2.1 c j
      by_cases hc9 : c = a
      · by_cases hj : j = i
        · rw [if_pos ⟨hc9, hj⟩, if_pos ⟨hc9, by omega⟩]
        · rw [if_neg fun z => hj z.2]
          by_cases hj2 : j < i
          · rw [if_pos ⟨hc9, hj2⟩, if_pos ⟨hc9, by omega⟩]
          · rw [if_neg fun z => hj2 z.2, if_neg fun z => by omega]
      · rw [if_neg fun z => hc9 z.1, if_neg fun z => hc9 z.1, if_neg fun z => hc9 z.1]
    rw [e]
    exact js_floop (b := b) h1 ha hN9 hN2 k (i + 1) (by omega)
theorem js_fill {b : Bool} {σ : aSt} {a d lv : Nat} {x : Int32} (h1 : a_kd σ a = 1) (ha : 100 ≤ a) (hN2 : a_ln σ a ≤ 65536) (hd : 1 ≤ d) : a_call (a_tabJ b) (P_J b lv) d 2021 [.ref a, .int x] σ = some (.inl none, J_fl σ a x (a_ln σ a)) := by
  refine (js_f0 h1 rfl hN2 hd).trans ?_
  have e : σ = J_fl σ a x 0 := by
    refine Prod.ext rfl (Prod.ext (funext fun c => funext fun j => ?_) rfl)
    show _ = if c = a ∧ j < 0 then x else σ.2.1 c j
    rw [if_neg fun z => absurd z.2 (Nat.not_lt_zero j)]
  have h := js_floop (b := b) (C := a_call (a_tabJ b) (P_J b lv) (d - 1)) (x := x) h1 ha rfl hN2 (a_ln σ a) 0 (Nat.zero_add _)
  rw [← e] at h
  exact h
/-- a new text builder -/
def J_n (as : List Value) (σ : aSt) : Option (aRes × aSt) := match as with
  | [.ref a] => if a_kd σ a = 11 ∧ 100 ≤ a then some (.inl none, a_sbi σ a) else none
  | _ => none
theorem J_n_some {as : List Value} {σ σ' : aSt} {res : aRes} (h : J_n as σ = some (res, σ')) : ∃ a : Nat, as = [.ref a] ∧ a_kd σ a = 11 ∧ 100 ≤ a ∧ res = .inl none ∧ σ' = a_sbi σ a := by
  unfold J_n at h
  split at h
  · split at h
    · rename_i hc9; cases h; exact ⟨_, rfl, hc9.1, hc9.2, rfl, rfl⟩
    · cases h
  · cases h
/-- a text's length, a text's letter -/
def J_t (k : Nat) (as : List Value) (σ : aSt) : Option (aRes × aSt) := match as with
  | [.ref s] => if k = 1007 ∧ a_kd σ s = 6 ∧ 1 ≤ s ∧ s ≤ 18 then some (.inl (some (.int (nI (a_txt s).length))), σ) else none
  | [.ref s, .int x] => if k = 1008 ∧ a_kd σ s = 6 ∧ 1 ≤ s ∧ s ≤ 18 ∧ ¬ x < 0 ∧ x.toNatClampNeg < (a_txt s).length then some (.inl (some (.int (nI ((a_txt s).getD x.toNatClampNeg 0)))), σ) else none
  | _ => none
noncomputable def a_prim (b : Bool) : aCall := fun k as σ => match k with
  | 1000 => p_nat 1000 as σ
  | 1001 => p_nat 1001 as σ
  | 1002 => p_nat 1002 as σ
  | 1003 => J_l (a_call (a_tabJ b) (P_J b 2) 12 2019 as σ)
  | 1004 => J_l (a_call (a_tabJ b) (P_J b 2) 12 2020 as σ)
  | 1005 => p_nat 1005 as σ
  | 1006 => J_f as σ
  | 1007 => J_t 1007 as σ
  | 1008 => J_t 1008 as σ
  | 1010 => J_n as σ
  | 1011 => J_w b 2002 as σ
  | 1012 => J_w b 2004 as σ
  | 1013 => J_w b 2008 as σ
  | 1014 => J_w b 2010 as σ
  | 1015 => J_w b 2006 as σ
  | _ => none
theorem J_t_some {k : Nat} {as : List Value} {σ σ' : aSt} {res : aRes} (h : J_t k as σ = some (res, σ')) : σ' = σ ∧ ∃ x, res = .inl (some (.int x)) := by
  unfold J_t at h
  split at h
  · split at h
    · cases h; exact ⟨rfl, _, rfl⟩
    · cases h
  · split at h
    · cases h; exact ⟨rfl, _, rfl⟩
    · cases h
  · cases h
theorem J_t7 {as : List Value} {σ σ' : aSt} {res : aRes} (h : J_t 1007 as σ = some (res, σ')) : ∃ s : Nat, as = [.ref s] ∧ a_kd σ s = 6 ∧ 1 ≤ s ∧ s ≤ 18 ∧ σ' = σ ∧ res = .inl (some (.int (nI (a_txt s).length))) := by
  unfold J_t at h
  split at h
  · split at h
    · rename_i hc9; cases h; exact ⟨_, rfl, hc9.2.1, hc9.2.2.1, hc9.2.2.2, rfl, rfl⟩
    · cases h
  · split at h
    · rename_i hc9; exact absurd hc9.1 (by decide)
    · cases h
  · cases h
theorem J_t8 {as : List Value} {σ σ' : aSt} {res : aRes} (h : J_t 1008 as σ = some (res, σ')) : ∃ (s : Nat) (x : Int32), as = [.ref s, .int x] ∧ a_kd σ s = 6 ∧ 1 ≤ s ∧ s ≤ 18 ∧ ¬ x < 0 ∧ x.toNatClampNeg < (a_txt s).length ∧ σ' = σ ∧ res = .inl (some (.int (nI ((a_txt s).getD x.toNatClampNeg 0)))) := by
  unfold J_t at h
  split at h
  · split at h
    · rename_i hc9; exact absurd hc9.1 (by decide)
    · cases h
  · split at h
    · rename_i hc9; cases h; exact ⟨_, _, rfl, hc9.2.1, hc9.2.2.1, hc9.2.2.2.1, hc9.2.2.2.2.1, hc9.2.2.2.2.2, rfl, rfl⟩
    · cases h
  · cases h
/-- the cases of the given members -/
theorem a_prim_cs {b : Bool} {k : Nat} {as : List Value} {σ : aSt} {r : aRes × aSt} (h : a_prim b k as σ = some r) : p_nat k as σ = some r ∨ (∃ id, J_l (a_call (a_tabJ b) (P_J b 2) 12 id as σ) = some r) ∨ (J_n as σ = some r) ∨ (J_t k as σ = some r) ∨ (∃ id, J_w b id as σ = some r) ∨ J_f as σ = some r := by
  unfold a_prim at h
  split at h
  all_goals first
    | exact .inl h
    | exact .inr (.inl ⟨_, h⟩)
    | exact .inr (.inr (.inl h))
    | exact .inr (.inr (.inr (.inl h)))
    | exact .inr (.inr (.inr (.inr (.inl ⟨_, h⟩))))
    | exact .inr (.inr (.inr (.inr (.inr h))))
    | cases h
theorem a_prim_k {b : Bool} {k : Nat} {as : List Value} {σ : aSt} {r : aRes × aSt} (h : a_prim b k as σ = some r) : 1000 ≤ k := by
  unfold a_prim at h
  split at h
  all_goals first
    | decide
    | cases h
theorem a_prim_ret {b : Bool} {k : Nat} {as : List Value} {σ σ' : aSt} {res : aRes} (h : a_prim b k as σ = some (res, σ')) : ∃ v, res = .inl v := by
  rcases a_prim_cs h with h | ⟨id, h⟩ | h | h | ⟨id, h⟩ | h
  · exact p_nat_ret h
  · obtain ⟨v, e, -⟩ := J_l_some h; exact ⟨v, e⟩
  · obtain ⟨a, -, -, -, e, -⟩ := J_n_some h; exact ⟨_, e⟩
  · obtain ⟨-, x, e⟩ := J_t_some h; exact ⟨_, e⟩
  · obtain ⟨a, tl, v, σ', -, -, e, -⟩ := J_w_some h; exact ⟨v, e⟩
  · obtain ⟨a, v, -, -, -, -, e, -⟩ := J_f_some h; exact ⟨_, e⟩
theorem a_prim_good {b : Bool} (hg : a_gcall (a_call (a_tabJ b) (P_J b 2) 12)) : a_gcall (a_prim b) := fun k as σ res σ' h hb hR => by
  rcases a_prim_cs h with h | ⟨id, h⟩ | h | h | ⟨id, h⟩ | h
  · exact p_nat_good _ _ _ _ _ h hb hR
  · obtain ⟨v, rfl, e⟩ := J_l_some h; exact hg _ _ _ _ _ e hb hR
  · obtain ⟨a, rfl, -, -, rfl, rfl⟩ := J_n_some h
    exact ⟨⟨Nat.le_succ _, Nat.le_succ _, Nat.le_add_right _ _⟩, a_bdR_setI (a_bdR_setR (a_bdR_new hR) (Nat.lt_succ_self _)), fun v hv => by cases hv⟩
  · obtain ⟨rfl, x, rfl⟩ := J_t_some h
    exact ⟨a_le.refl _, hR, fun v hv => by cases hv; trivial⟩
  · obtain ⟨a, tl, v, σ2, -, -, rfl, e, -, rfl⟩ := J_w_some h
    obtain ⟨l1, l2, l3⟩ := hg _ _ _ _ _ e hb hR
    exact ⟨l1, l2, l3⟩
  · obtain ⟨a, v, rfl, -, -, -, rfl, rfl⟩ := J_f_some h
    exact ⟨a_le.refl σ, hR, fun v hv => by cases hv⟩
def okRf (k ix : Nat) : Instr := if k < 1007 then .invokestatic ix else if k = 1010 then .invokespecial ix else .invokevirtual ix
def J_pr (q : Nat × Nat × aRef) : aPr := fun own i k n => own = n_cls q.1 ∧ i = okRf q.2.2.1 q.2.1 ∧ k = q.2.2.1 ∧ n = q.2.2.2.1
def J_pk (l : Launch) (F : aFix) (b : Bool) (q : Nat × Nat × aRef) : Prop := a_prok l F (J_pr q) 36 (a_prim b)
section PKS
variable {l : Launch} {F : aFix} {b : Bool} {on ix k n z jid : Nat} {k9 : aMeth}
theorem pk_nat (hk : k = 1000 ∨ k = 1001 ∨ k = 1002 ∨ k = 1005) (h : pr_nat (n_cls on) (okRf k ix) k n) : J_pk l F b (on, ix, (k, n, z)) := by
  intro p e R s m args below meth c Q cc nL n0 u0 v0 own ini ρ1 pc L st σ σ' i k' n' v C hf1 hf2 hd hpr hlen hsum hP hst hL hR hB9 K
  obtain ⟨z1, z2, z3, z4⟩ := hpr
  have z3 : k = k' := z3.symm
  have z4 : n = n' := z4.symm
  subst z1 z2 z3 z4
  refine p_nat_ok (b9 := 36) C hf1 hf2 hd h hlen hsum ?_ hst hL hR hB9 K
  have hP : a_prim b k (st.take n).reverse σ = some (.inl v, σ') := hP
  rcases hk with rfl | rfl | rfl | rfl <;> exact hP
theorem pk_S (S : a_sys l F (a_tabJ b) pr_J (12 * 2) (P_J b 2)) (hM9 : a_tabJ b jid = some k9) (hj : ∀ as σ, a_prim b k as σ = J_l (a_call (a_tabJ b) (P_J b 2) 12 jid as σ)) (ho : okRf k ix = .invokestatic ix) (hw : a_wfS F (n_cls on) ix (jid, n, 0) k9) : J_pk l F b (on, ix, (k, n, z)) := by
  intro p e R s m args below meth c Q cc nL n0 u0 v0 own ini ρ1 pc L st σ σ' i k' n' v C hf1 hf2 hd hpr hlen hsum hP hst hL hR hB9 K
  obtain ⟨z1, z2, z3, z4⟩ := hpr
  have z3 : k = k' := z3.symm
  have z4 : n = n' := z4.symm
  subst z1 z2 z3 z4
  have hd : decode cc pc = .ok (okRf k ix, 3) := hd
  rw [ho] at hd
  have hP : a_prim b k (st.take n).reverse σ = some (.inl v, σ') := hP
  rw [hj] at hP
  obtain ⟨v2, e29, hc9⟩ := J_l_some hP
  cases e29
  have hbs : a_bds (a_n σ) (st.take n).reverse := fun w hw => hst w (List.mem_of_mem_take (List.mem_reverse.mp hw))
  obtain ⟨g1, g2⟩ := a_call_snd S 12
  obtain ⟨l1, l2, l3⟩ := g1 _ _ _ _ _ hc9 hbs hR
  exact a_callS (n := n) C hd hw rfl hlen hsum (g2 jid k9 _ _ _ _ hM9 hc9 hbs hR) (by omega) (by omega) hst l1 l2 l3 hB9 (fun v e => by cases e; exact K) (fun x e => by cases e)
theorem pk_W (S : a_sys l F (a_tabJ b) pr_J (12 * 2) (P_J b 2)) (hM9 : a_tabJ b jid = some k9) (hj : ∀ as σ, a_prim b k as σ = J_w b jid as σ) (ho : okRf k ix = .invokevirtual ix) (hw : a_wfV (n_cls on) ix (jid, n, 11) k9) : J_pk l F b (on, ix, (k, n, z)) := by
  intro p e R s m args below meth c Q cc nL n0 u0 v0 own ini ρ1 pc L st σ σ' i k' n' v C hf1 hf2 hd hpr hlen hsum hP hst hL hR hB9 K
  obtain ⟨z1, z2, z3, z4⟩ := hpr
  have z3 : k = k' := z3.symm
  have z4 : n = n' := z4.symm
  subst z1 z2 z3 z4
  have hd : decode cc pc = .ok (okRf k ix, 3) := hd
  rw [ho] at hd
  have hP : a_prim b k (st.take n).reverse σ = some (.inl v, σ') := hP
  rw [hj] at hP
  obtain ⟨a, tl, v2, σ2, e19, hk, e29, hc9, hq, e39⟩ := J_w_some hP
  cases e29
  subst e39
  have hbs : a_bds (a_n σ) (st.take n).reverse := fun w hw => hst w (List.mem_of_mem_take (List.mem_reverse.mp hw))
  obtain ⟨g1, g2⟩ := a_call_snd S 12
  obtain ⟨l1, l2, l3⟩ := g1 _ _ _ _ _ hc9 hbs hR
  exact a_callV (n := n) C hd hw rfl hlen hsum (st_at e19 hlen) hk (g2 jid k9 _ _ _ _ hM9 hc9 hbs hR) (by omega) (by omega) hst l1 l2 l3 hB9 (fun v e => by cases e; exact a_W_irr (J_lw_ir hq) K) (fun x e => by cases e)
theorem pk_F (S : a_sys l F (a_tabJ b) pr_J (12 * 2) (P_J b 2)) (hw : a_wfS F (n_cls on) ix (2021, 2, 0) qJ7_fill_53178) : J_pk l F b (on, ix, (1006, 2, z)) := by
  intro p e R s m args below meth c Q cc nL n0 u0 v0 own ini ρ1 pc L st σ σ' i k' n' v C hf1 hf2 hd hpr hlen hsum hP hst hL hR hB9 K
  obtain ⟨rfl, rfl, rfl, rfl⟩ := hpr
  have hd : decode cc pc = .ok (.invokestatic ix, 3) := hd
  have hP : J_f (st.take 2).reverse σ = some (.inl v, σ') := hP
  obtain ⟨a, x, e19, h1, h2, h3, e29, e39⟩ := J_f_some hP
  cases e29
  subst e39
  have hc9 := js_fill (b := b) (d := 12) (lv := 2) (σ := σ) (x := x) h1 h2 h3 (by decide)
  rw [← e19] at hc9
  have hbs : a_bds (a_n σ) (st.take 2).reverse := fun w hw => hst w (List.mem_of_mem_take (List.mem_reverse.mp hw))
  obtain ⟨g1, g2⟩ := a_call_snd S 12
  obtain ⟨l1, l2, l3⟩ := g1 _ _ _ _ _ hc9 hbs hR
  exact a_callS (n := 2) C hd hw rfl hlen hsum (g2 2021 _ _ _ _ _ aj_J7_fill_53178 hc9 hbs hR) (by omega) (by omega) hst l1 l2 l3 hB9 (fun v e => by cases e; exact a_W_irr (J_fl_ir h1) K) (fun x e => by cases e)
theorem pk_N (S : a_sys l F (a_tabJ b) pr_J (12 * 2) (P_J b 2)) (hw : a_wfI (n_cls on) ix (2000, 1, 1) qJ4_init_da8c8) : J_pk l F b (on, ix, (1010, 1, z)) := by
  intro p e R s m args below meth c Q cc nL n0 u0 v0 own ini ρ1 pc L st σ σ' i k' n' v C hf1 hf2 hd hpr hlen hsum hP hst hL hR hB9 K
  obtain ⟨rfl, rfl, rfl, rfl⟩ := hpr
  have hd : decode cc pc = .ok (.invokespecial ix, 3) := hd
  have hP : J_n (st.take 1).reverse σ = some (.inl v, σ') := hP
  obtain ⟨a, e19, hk, h100, e29, e39⟩ := J_n_some hP
  cases e29
  subst e39
  intro ρ H locs cells slots ls h
  have hh : a_hp F ρ σ H := h.1
  have han : a < a_n σ := hh.2.2.1 a (by omega)
  have hc9 := js_ini (b := b) (d := 12) (lv := 2) (σ := σ) hk h100 han (by decide)
  rw [← e19] at hc9
  have hbs : a_bds (a_n σ) (st.take 1).reverse := fun w hw => hst w (List.mem_of_mem_take (List.mem_reverse.mp hw))
  obtain ⟨g1, g2⟩ := a_call_snd S 12
  obtain ⟨l1, l2, l3⟩ := g1 _ _ _ _ _ hc9 hbs hR
  exact a_callI (n := 1) C hd hw rfl hlen hsum (st_at e19 hlen) (g2 2000 _ _ _ _ _ aj_J4_init_da8c8 hc9 hbs hR) (by omega) (by omega) hst l1 l2 l3 hB9 (fun v e => by cases e; exact K) (fun x e => by cases e) ρ H locs cells slots ls h
theorem t_len : ∀ s, s ≤ 18 → (a_tbl (60 + s)) = if s = 0 then a_tbl 60 else a_txt s := fun s hs => by
  by_cases h : s = 0
  · rw [h]; rfl
  · rw [if_neg h]
    unfold a_tbl
    rw [if_neg (by omega), show 60 + s - 60 = s by omega]
theorem t_low : (List.range 19).all (fun s => decide ((a_txt s).length < 100) && (a_txt s).all (fun c => decide (c < 128))) = true := by decide +kernel
theorem t_strs : a_strs.all (fun q => decide (q.2.2.1 < 60)) = true := by decide +kernel
theorem t_txt {s : Nat} (hs : s ≤ 18) : (a_txt s).length < 100 ∧ ∀ i, i < (a_txt s).length → (a_txt s).getD i 0 < 128 := by
  have h := List.all_eq_true.mp t_low s (List.mem_range.mpr (by omega))
  rw [Bool.and_eq_true, List.all_eq_true] at h
  refine ⟨of_decide_eq_true h.1, fun i hi => ?_⟩
  rw [List.getD_eq_getElem?_getD, List.getElem?_eq_getElem hi]
  exact of_decide_eq_true (h.2 _ (List.getElem_mem hi))
/-- the bytes of a text have no kind -/
theorem t_kd {ρ : Nat → Nat} {σ : aSt} {H : Heap} (hT9 : f_T F = a_strs) (h : a_hp F ρ σ H) {a : Nat} (h1 : 60 ≤ a) (h2 : a < 100) : a_kd σ a = 0 := by
  rcases h.2.2.2.2.2.2.2 a h2 with e | e | e
  · exact e
  · have := (h.2.2.2.2.2.1 a e).1
    omega
  · obtain ⟨q, hq, e29⟩ := h.2.2.2.2.2.2.1 a e
    rw [hT9] at hq
    have := of_decide_eq_true (List.all_eq_true.mp t_strs q hq)
    omega
theorem pk_T1007 (S : a_sys l F (a_tabJ b) pr_J (12 * 2) (P_J b 2)) (hT9 : f_T F = a_strs) (hw : a_wfV (n_cls on) ix (2024, 1, 6) qJ0_length_8abf5) : J_pk l F b (on, ix, (1007, 1, z)) := by
  intro p e R s m args below meth c Q cc nL n0 u0 v0 own ini ρ1 pc L st σ σ' i k' n' v C hf1 hf2 hd hpr hlen hsum hP hst hL hR hB9 K
  obtain ⟨rfl, rfl, rfl, rfl⟩ := hpr
  have hd : decode cc pc = .ok (.invokevirtual ix, 3) := hd
  have hP : J_t 1007 (st.take 1).reverse σ = some (.inl v, σ') := hP
  obtain ⟨t, e19, hk, t1, t2, e29, e39⟩ := J_t7 hP
  intro ρ H locs cells slots ls h
  have hz := t_kd hT9 h.1 (a := 60 + t) (by omega) (by omega)
  have hc9 := js_slen (b := b) (d := 12) (lv := 2) (σ := σ) hk ⟨t1, t2⟩ hz (by decide)
  rw [t_len t t2, if_neg (show t ≠ 0 by omega)] at hc9
  have hbs : a_bds (a_n σ) (st.take 1).reverse := fun w hw => hst w (List.mem_of_mem_take (List.mem_reverse.mp hw))
  rw [← e19] at hc9
  cases e39
  subst e29
  obtain ⟨g1, g2⟩ := a_call_snd S 12
  obtain ⟨l1, l2, l3⟩ := g1 _ _ _ _ _ hc9 hbs hR
  exact a_callV (n := 1) C hd hw rfl hlen hsum (st_at e19 hlen) hk (g2 2024 _ _ _ _ _ aj_J0_length_8abf5 hc9 hbs hR) (by omega) (by omega) hst l1 l2 l3 hB9 (fun v e => by cases e; exact K) (fun x e => by cases e) ρ H locs cells slots ls h
theorem pk_T1008 (S : a_sys l F (a_tabJ b) pr_J (12 * 2) (P_J b 2)) (hT9 : f_T F = a_strs) (hw : a_wfV (n_cls on) ix (2027, 2, 6) qJ0_charAt_5068e) : J_pk l F b (on, ix, (1008, 2, z)) := by
  intro p e R s m args below meth c Q cc nL n0 u0 v0 own ini ρ1 pc L st σ σ' i k' n' v C hf1 hf2 hd hpr hlen hsum hP hst hL hR hB9 K
  obtain ⟨rfl, rfl, rfl, rfl⟩ := hpr
  have hd : decode cc pc = .ok (.invokevirtual ix, 3) := hd
  have hP : J_t 1008 (st.take 2).reverse σ = some (.inl v, σ') := hP
  obtain ⟨t, x, e19, hk, t1, t2, x1, x29, e29, e39⟩ := J_t8 hP
  obtain ⟨j, j1, rfl⟩ := nI_of x1
  rw [nI_clamp j1] at x29 e39
  intro ρ H locs cells slots ls h
  have hz := t_kd hT9 h.1 (a := 60 + t) (by omega) (by omega)
  have tt := t_txt t2
  have et : a_tbl (60 + t) = a_txt t := by rw [t_len t t2, if_neg (show t ≠ 0 by omega)]
  have hc9 := js_sch (b := b) (d := 12) (lv := 2) (σ := σ) (i := j) (c := (a_txt t).getD j 0) hk ⟨t1, t2⟩ hz (by rw [et]; exact x29) (by rw [et]; omega) (by rw [et]) (tt.2 j x29) (by decide)
  have hbs : a_bds (a_n σ) (st.take 2).reverse := fun w hw => hst w (List.mem_of_mem_take (List.mem_reverse.mp hw))
  rw [← e19] at hc9
  cases e39
  subst e29
  obtain ⟨g1, g2⟩ := a_call_snd S 12
  obtain ⟨l1, l2, l3⟩ := g1 _ _ _ _ _ hc9 hbs hR
  exact a_callV (n := 2) C hd hw rfl hlen hsum (st_at e19 hlen) hk (g2 2027 _ _ _ _ _ aj_J0_charAt_5068e hc9 hbs hR) (by omega) (by omega) hst l1 l2 l3 hB9 (fun v e => by cases e; exact K) (fun x e => by cases e) ρ H locs cells slots ls h
end PKS
