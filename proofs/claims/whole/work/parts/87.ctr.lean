/-! the constructors, run by the kernel -/
def o_ok (i : Instr) : Bool := match i with
  | .iconst _ | .bipush _ | .sipush _ | .ldc _ | .ldc_w _ | .aload_n _ | .iload _ | .iload_n _ | .istore _ | .istore_n _ | .astore_n _ | .iinc _ _ | .iadd | .isub | .imul | .ifCond _ _ | .if_icmp _ _ | .goto _ | .dup | .pop | .getfield _ | .putfield _ | .arraylength | .iastore | .aastore | .new _ | .newarray _ | .anewarray _ | .invokevirtual _ | .invokespecial _ | .ireturn | .return_ => true
  | _ => false
def o_step (code : aCode) (c : aCfg) : Option aAct := match code.lookup c.1 with
  | none => none
  | some (i, len, r, z, tgt) => if o_ok i then a_exec i len r z tgt c.1 c.2.1 c.2.2.1 c.2.2.2 else none
def o_runN (call : aCall) (code : aCode) : Nat → aCfg → Option (aRes × aSt)
  | 0, _ => none
  | n + 1, c => match o_step code c with
    | none => none
    | some (.inl c') => o_runN call code n c'
    | some (.inr (.inl (r, σ))) => some (r, σ)
    | some (.inr (.inr (k, as, (pc, L, st, σ)))) => match call k as σ with
      | some (.inl v, σ') => o_runN call code n (pc, L, v.toList ++ st, σ')
      | _ => none
def a_sbi (σ : aSt) (a : Nat) : aSt := a_setI (a_setR (a_new σ 7 16 16) a 0 (some (a_n σ))) a 1 0
def p_0 : aCall := fun k as σ => match as with
  | [.ref a] => if k = 1010 ∧ a_kd σ a = 11 ∧ 100 ≤ a then some (.inl none, a_sbi σ a) else none
  | _ => none
def o_call (f : Nat) : Nat → aCall
  | 0 => p_0
  | d + 1 => fun k as σ => match a_tab k with
    | none => p_0 k as σ
    | some m => if (a_ent as).length ≤ m.2.2.1 then o_runN (o_call f d) m.2.2.2.2.2.1 f (0, a_pad m.2.2.1 (a_ent as), [], σ) else none
def o_s0 : aSt := (fun b => if 1 ≤ b ∧ b ≤ 18 then (6, 0) else (0, 0), fun _ _ => 0, fun _ _ => none, fun _ _ => 0, (100, 0, 0))
def o_n (r : Option (aRes × aSt)) : Nat := match r with | some (.inl _, σ) => a_n σ | _ => 0
def o_two : Option (aRes × aSt) := match o_call 12000 40 89 [.ref 100] (a_new o_s0 19 10 10) with
  | some (.inl _, σ) => o_call 12000 40 143 [.ref 237] (a_new σ 20 35 35)
  | _ => none
section PHI
variable {N : Nat} {xs : Nat → Int32} {σ : aSt}
def o_phi (N : Nat) (xs : Nat → Int32) (σ : aSt) : aSt := (fun b => if b = 0 then (5, N) else σ.1 b, fun b k => if b = 0 then xs k else σ.2.1 b k, σ.2.2)
def o_I (σ : aSt) : Prop := a_kd σ 0 = 0 ∧ 100 ≤ a_n σ
theorem o_setI {a k : Nat} {v : Int32} (ha : a ≠ 0) : a_setI (o_phi N xs σ) a k v = o_phi N xs (a_setI σ a k v) := by
  refine Prod.ext rfl (Prod.ext (funext fun b => funext fun j => ?_) rfl)
  show (if b = a ∧ j = k then v else if b = 0 then xs j else σ.2.1 b j) = if b = 0 then xs j else if b = a ∧ j = k then v else σ.2.1 b j
  by_cases h : b = 0
  · rw [if_pos h, if_pos h, if_neg (fun z => ha (z.1.symm.trans h))]
  · rw [if_neg h, if_neg h]
theorem o_setR {a k : Nat} {v : Option Nat} : a_setR (o_phi N xs σ) a k v = o_phi N xs (a_setR σ a k v) := rfl
theorem o_new {kd ln us : Nat} (h1 : o_I σ) : a_new (o_phi N xs σ) kd ln us = o_phi N xs (a_new σ kd ln us) := by
  have hn := h1.2
  refine Prod.ext (funext fun b => ?_) (Prod.ext (funext fun b => funext fun j => ?_) rfl)
  · show (if b = a_n σ then (kd, ln) else if b = 0 then (5, N) else σ.1 b) = if b = 0 then (5, N) else if b = a_n σ then (kd, ln) else σ.1 b
    by_cases h : b = 0
    · rw [if_pos h, if_pos h, if_neg (by omega)]
    · rw [if_neg h, if_neg h]
  · show (if b = a_n σ then 0 else if b = 0 then xs j else σ.2.1 b j) = if b = 0 then xs j else if b = a_n σ then 0 else σ.2.1 b j
    by_cases h : b = 0
    · rw [if_pos h, if_pos h, if_neg (by omega)]
    · rw [if_neg h, if_neg h]
theorem o_pos {a : Nat} (h : 100 ≤ a) : a ≠ 0 := by omega
theorem o_kd {a : Nat} (ha : a ≠ 0) : a_kd (o_phi N xs σ) a = a_kd σ a := congrArg Prod.fst (if_neg ha)
theorem o_ln {a : Nat} (ha : a ≠ 0) : a_ln (o_phi N xs σ) a = a_ln σ a := congrArg Prod.snd (if_neg ha)
theorem o_It {a k : Nat} (ha : a ≠ 0) : a_I (o_phi N xs σ) a k = a_I σ a k := if_neg ha
theorem o_Rt {a k : Nat} : a_R (o_phi N xs σ) a k = a_R σ a k := rfl
theorem o_nt : a_n (o_phi N xs σ) = a_n σ := rfl
theorem o_Inew {kd ln us : Nat} (h1 : o_I σ) : o_I (a_new σ kd ln us) := by
  have hn := h1.2
  refine ⟨?_, Nat.le_succ_of_le hn⟩
  show (if 0 = a_n σ then (kd, ln) else σ.1 0).1 = 0
  rw [if_neg (by omega)]
  exact h1.1
def o_pa (N : Nat) (xs : Nat → Int32) (act : aAct) : aAct := match act with
  | .inl c => .inl (c.1, c.2.1, c.2.2.1, o_phi N xs c.2.2.2)
  | .inr (.inl q) => .inr (.inl (q.1, o_phi N xs q.2))
  | .inr (.inr q) => .inr (.inr (q.1, q.2.1, (q.2.2.1, q.2.2.2.1, q.2.2.2.2.1, o_phi N xs q.2.2.2.2.2)))
def o_st (act : aAct) : aSt := match act with
  | .inl c => c.2.2.2
  | .inr (.inl q) => q.2
  | .inr (.inr q) => q.2.2.2.2.2
/-- what the machine does at one state it does at the other -/
def o_goal (N : Nat) (xs : Nat → Int32) (a b : Option aAct) : Prop := ∀ act, a = some act → b = some (o_pa N xs act) ∧ o_I (o_st act)
theorem o_none {b : Option aAct} : o_goal N xs none b := fun _ h => by cases h
theorem o_go (h : o_I σ) {pc : Nat} {L : List (Option Value)} {st : List Value} : o_goal N xs (a_go pc L st σ) (a_go pc L st (o_phi N xs σ)) := fun act e => by cases e; exact ⟨rfl, h⟩
theorem o_go' {σ' : aSt} (h : o_I σ) (e : σ' = o_phi N xs σ) {pc : Nat} {L : List (Option Value)} {st : List Value} : o_goal N xs (a_go pc L st σ) (a_go pc L st σ') := by rw [e]; exact o_go h
theorem o_rt (h : o_I σ) {r : aRes} : o_goal N xs (a_rt r σ) (a_rt r (o_phi N xs σ)) := fun act e => by cases e; exact ⟨rfl, h⟩
theorem o_if {p : Prop} [Decidable p] {a b : Option aAct} (h : p → o_goal N xs a b) : o_goal N xs (if p then a else none) (if p then b else none) := by
  by_cases c : p
  · rw [if_pos c, if_pos c]; exact h c
  · rw [if_neg c]; exact o_none
theorem o_ite {p q : Prop} [Decidable p] [Decidable q] {a b : Option aAct} (hq : p → q) (h : p → o_goal N xs a b) : o_goal N xs (if p then a else none) (if q then b else none) := by
  by_cases c : p
  · rw [if_pos c, if_pos (hq c)]; exact h c
  · rw [if_neg c]; exact o_none
theorem o_sto (h : o_I σ) {pc : Nat} {o : Option (List (Option Value))} {st : List Value} : o_goal N xs (a_sto pc o st σ) (a_sto pc o st (o_phi N xs σ)) := by
  cases o with
  | none => exact o_none
  | some L => exact o_go h
theorem o_inv (h : o_I σ) {pc k n : Nat} {L : List (Option Value)} {st : List Value} : o_goal N xs (a_inv pc k n L st σ) (a_inv pc k n L st (o_phi N xs σ)) := by
  unfold a_inv
  exact o_if fun _ act e => by cases e; exact ⟨rfl, h⟩
theorem o_exec (h : o_I σ) {i : Instr} (hok : o_ok i = true) {len : Nat} {r : aRef} {z : Int32} {tgt pc : Nat} {L : List (Option Value)} {st : List Value} : o_goal N xs (a_exec i len r z tgt pc L st σ) (a_exec i len r z tgt pc L st (o_phi N xs σ)) := by
  have h0 := h.1
  have hn := h.2
  have kz : ∀ {a : Nat}, a_kd σ a ≠ 0 → a ≠ 0 := fun h1 z => h1 (by rw [z]; exact h0)
  unfold o_ok at hok
  split at hok
  all_goals first | (exact absurd hok (by decide)) | skip
  all_goals dsimp only [a_exec]
  all_goals first
    | exact o_go h
    | (by_cases c : r.1 = 0
       · rw [if_pos c, if_pos c]; exact o_go h
       · rw [if_neg c, if_neg c]; exact o_go h)
    | (unfold a_ldI; split <;> first | exact o_go h | exact o_none)
    | (unfold a_ldA; split <;> first | exact o_go h | exact o_none)
    | (unfold a_stI; split <;> first | exact o_sto h | exact o_none)
    | (unfold a_stA; split <;> first | exact o_sto h | exact o_none)
    | (unfold a_binI; split <;> first | exact o_go h | exact o_none)
    | (split <;> first | exact o_sto h | exact o_none)
    | (unfold a_br; split <;> first | exact o_go h | exact o_none)
    | (split <;> first | exact o_if (fun _ => o_go h) | exact o_none)
    | (split <;> first | exact o_if (fun _ => o_rt h) | exact o_none)
    | (split <;> first | exact o_rt h | exact o_none)
    | skip
  case h_21 =>
    unfold a_get
    split
    · rename_i a st
      by_cases c : a_kd σ a = 10 + r.1
      · have ha : a ≠ 0 := kz (by omega)
        have c' : a_kd (o_phi N xs σ) a = 10 + r.1 := by rw [o_kd ha]; exact c
        rw [if_pos c, if_pos c']
        by_cases c2 : r.2.2 = 1
        · rw [if_pos c2, if_pos c2]; exact o_go h
        · rw [if_neg c2, if_neg c2, o_It ha]; exact o_go h
      · rw [if_neg c]
        by_cases c2 : a_kd σ a = 6 ∧ 1 ≤ a ∧ a ≤ 18 ∧ r.1 = 0 ∧ r.2.1 < 2
        · have ha : a ≠ 0 := kz (by rw [c2.1]; decide)
          rw [if_pos c2, o_kd ha, if_neg c, if_pos c2]
          by_cases c3 : r.2.1 = 0
          · rw [if_pos c3, if_pos c3]; exact o_go h
          · rw [if_neg c3, if_neg c3]; exact o_go h
        · rw [if_neg c2]; exact o_none
    · exact o_none
  case h_22 =>
    unfold a_put
    split
    · rename_i x a st
      exact o_ite (fun c => ⟨(o_kd (o_pos c.2.1)).trans c.1, c.2⟩) fun c => o_go' (σ := a_setI σ a r.2.1 x) h (o_setI (o_pos c.2.1))
    · rename_i x a st
      exact o_ite (fun c => ⟨(o_kd (o_pos c.2.1)).trans c.1, c.2⟩) fun c => o_go' (σ := a_setR σ a r.2.1 (some x)) h o_setR
    · exact o_none
  case h_23 =>
    split
    · rename_i a st
      by_cases c : 1 ≤ a_kd σ a ∧ a_kd σ a ≤ 5 ∧ a_ln σ a < 2147483648
      · have ha : a ≠ 0 := kz (by omega)
        rw [if_pos c, o_kd ha, o_ln ha, if_pos c]
        exact o_go h
      · rw [if_neg c]
        by_cases c2 : a_kd σ a = 7 ∧ a_ln σ a < 2147483648
        · have ha : a ≠ 0 := kz (by omega)
          rw [if_pos c2, o_kd ha, o_ln ha, if_neg c, if_pos c2]
          exact o_go h
        · rw [if_neg c2]
          by_cases c3 : 60 ≤ a ∧ a ≤ 78
          · have ha : a ≠ 0 := fun z => by rw [z] at c3; exact absurd c3.1 (by decide)
            rw [if_pos c3, o_kd ha, o_ln ha, if_neg c, if_neg c2, if_pos c3]
            exact o_go h
          · rw [if_neg c3]
            exact o_none
    · exact o_none
  case h_24 =>
    split
    · rename_i x i a st
      refine o_ite (fun c => ?_) fun c => ?_
      · have ha : a ≠ 0 := o_pos c.2.1
        rw [o_kd ha, o_ln ha]; exact c
      · exact o_go' (σ := a_setI σ a i.toNatClampNeg x) h (o_setI (o_pos c.2.1))
    · exact o_none
  case h_25 =>
    split
    · rename_i x i a st
      refine o_ite (fun c => ?_) fun c => ?_
      · have ha : a ≠ 0 := o_pos c.2.1
        have hx : x ≠ 0 := kz (by have := c.1; omega)
        rw [o_kd ha, o_ln ha, o_kd hx]; exact c
      · exact o_go' (σ := a_setR σ a i.toNatClampNeg (some x)) h o_setR
    · exact o_none
  case h_26 =>
    by_cases c : r.2.2 = 0
    · rw [if_pos c, if_pos c]
      exact o_go' (σ := a_new σ (10 + r.1) r.2.1 r.2.1) (o_Inew h) (o_new h)
    · rw [if_neg c, if_neg c]
      exact o_if fun _ => o_rt (σ := a_made σ) h
  case h_27 =>
    split
    · exact o_if fun _ => o_go' (o_Inew h) (o_new h)
    · exact o_none
  case h_28 =>
    split
    · exact o_if fun _ => o_go' (o_Inew h) (o_new h)
    · exact o_none
  case h_29 =>
    by_cases c : r.2.2 = 0
    · rw [if_pos c, if_pos c]; exact o_inv h
    · rw [if_neg c, if_neg c]
      split
      · exact o_ite (fun c2 => by rw [o_kd (kz (by rw [c2]; exact c))]; exact c2) fun _ => o_inv h
      · exact o_none
  case h_30 =>
    by_cases c : r.2.2 = 0
    · rw [if_pos c, if_pos c]
      split
      · exact o_if fun _ => o_go h
      · exact o_none
    · rw [if_neg c, if_neg c]
      split
      · exact o_ite (fun c2 => c2.imp id fun c2 => by rw [o_kd (kz (by rw [c2]; exact c))]; exact c2) fun _ => o_inv h
      · exact o_none
theorem o_step_snd (h : o_I σ) {code : aCode} {pc : Nat} {L : List (Option Value)} {st : List Value} {act : aAct} (e : o_step code (pc, L, st, σ) = some act) : a_step code (pc, L, st, o_phi N xs σ) = some (o_pa N xs act) ∧ o_I (o_st act) := by
  unfold o_step at e
  unfold a_step
  split at e
  · cases e
  · rename_i i len r z tgt hl
    rw [show code.lookup ((pc, L, st, o_phi N xs σ) : aCfg).1 = some (i, len, r, z, tgt) from hl]
    by_cases c : o_ok i = true
    · rw [if_pos c] at e
      exact o_exec h c _ e
    · rw [if_neg c] at e
      cases e
/-- one call below another -/
def o_le (N : Nat) (xs : Nat → Int32) (C C' : aCall) : Prop := ∀ k as σ v σ', o_I σ → C k as σ = some (.inl v, σ') → C' k as (o_phi N xs σ) = some (.inl v, o_phi N xs σ') ∧ o_I σ'
theorem o_runN_snd {C C' : aCall} (hC : o_le N xs C C') {code : aCode} {hh : List (Nat × Nat × Nat × Nat × Nat)} : ∀ (n pc : Nat) (L : List (Option Value)) (st : List Value) (σ : aSt) (v : Option Value) (σ' : aSt), o_I σ → o_runN C code n (pc, L, st, σ) = some (.inl v, σ') → a_runN C' code hh n (pc, L, st, o_phi N xs σ) = some (.inl v, o_phi N xs σ') ∧ o_I σ'
  | 0, _, _, _, _, _, _, _, e => by cases e
  | n + 1, pc, L, st, σ, v, σ', h, e => by
    unfold o_runN at e
    unfold a_runN
    split at e
    · cases e
    · rename_i c' he
      obtain ⟨e1, h1⟩ := o_step_snd (N := N) (xs := xs) h he
      rw [e1]
      exact o_runN_snd hC n _ _ _ _ _ _ h1 e
    · rename_i r σ1 he
      obtain ⟨e1, h1⟩ := o_step_snd (N := N) (xs := xs) h he
      rw [e1]
      cases e
      exact ⟨rfl, h1⟩
    · rename_i k as pc1 L1 st1 σ1 he
      obtain ⟨e1, h1⟩ := o_step_snd (N := N) (xs := xs) h he
      have h1 : o_I σ1 := h1
      rw [e1]
      split at e
      · rename_i v1 σ2 hc
        obtain ⟨e2, h2⟩ := hC _ _ _ _ _ h1 hc
        obtain ⟨e3, h3⟩ := o_runN_snd hC n _ _ _ _ _ _ h2 e
        refine ⟨?_, h3⟩
        show (match C' k as (o_phi N xs σ1) with | none => none | some (.inl v, σ') => _ | some (.inr x, σ') => _) = _
        rw [e2]
        exact e3
      · cases e
theorem o_sbi {a : Nat} (h : o_I σ) (ha : 100 ≤ a) : a_sbi (o_phi N xs σ) a = o_phi N xs (a_sbi σ a) := by
  unfold a_sbi
  rw [o_new h, o_setR, o_setI (o_pos ha)]
  rfl
theorem o_p0 {P : aCall} (hP : ∀ a σ, a_kd σ a = 11 → 100 ≤ a → P 1010 [.ref a] σ = some (.inl none, a_sbi σ a)) : o_le N xs p_0 P := by
  intro k as σ v σ' h e
  unfold p_0 at e
  split at e
  · rename_i a
    by_cases c : k = 1010 ∧ a_kd σ a = 11 ∧ 100 ≤ a
    · rw [if_pos c] at e
      cases e
      rw [c.1, hP a _ ((o_kd (o_pos c.2.2)).trans c.2.1) c.2.2, o_sbi h c.2.2]
      exact ⟨rfl, o_Inew h⟩
    · rw [if_neg c] at e
      cases e
  · cases e
theorem o_call_snd {P : aCall} (hP : ∀ a σ, a_kd σ a = 11 → 100 ≤ a → P 1010 [.ref a] σ = some (.inl none, a_sbi σ a)) {f : Nat} : ∀ d : Nat, o_le N xs (o_call f d) (a_call a_tab P d)
  | 0 => o_p0 hP
  | d + 1 => by
    intro k as σ v σ' h e
    unfold o_call at e
    split at e
    · rename_i hM
      rw [e_callP0 hM]
      exact o_p0 hP _ _ _ _ _ h e
    · rename_i m hM
      by_cases c : (a_ent as).length ≤ m.2.2.1
      · rw [if_pos c] at e
        obtain ⟨e1, h1⟩ := o_runN_snd (N := N) (xs := xs) (hh := m.2.2.2.2.2.2) (o_call_snd hP d) _ _ _ _ _ _ _ h e
        refine ⟨?_, h1⟩
        rw [e_call (Nat.succ_le_succ (Nat.zero_le d)) hM (Nat.ble_eq_true_of_le c)]
        exact b_R_iff.mpr ⟨f, e1⟩
      · rw [if_neg c] at e
        cases e
end PHI
def o_sls : List Nat := [101, 110, 119, 130, 139, 148, 157, 166, 175, 184, 193, 202, 211]
def o_il : List (Nat × Nat × Nat) := [(102, 2, 0), (104, 2, 0), (106, 2, 2), (108, 2, 0), (101, 4, 4), (101, 5, 300), (101, 6, 0), (128, 1, 0), (128, 2, 0), (100, 3, 0), (227, 1, 8), (224, 1, 17), (238, 0, 0), (238, 1, 0), (238, 2, 2), (238, 3, 4), (238, 4, 300), (238, 5, 0), (238, 6, 0), (237, 5, 0), (237, 7, 0), (220, 1, 0), (237, 20, 0), (237, 18, 0), (235, 3, 0), (235, 1, 0)]
def o_ck (σ : aSt) : Bool := b_lay.all (fun q => decide (σ.1 q.1 = q.2)) && b_refs.all (fun q => decide (a_R σ q.1 q.2.1 = some q.2.2)) && decide (253 ≤ a_n σ) && (List.range 18).all (fun s => decide (a_kd σ (s + 1) = 6))
  && o_il.all (fun q => decide (a_I σ q.1 q.2.1 = nI q.2.2)) && o_sls.all (fun p => decide (a_I σ (p + 1) 1 = nI 13) && decide (a_I σ (p + 3) 1 = nI 17) && decide (a_I σ (p + 5) 1 = nI 4) && decide (a_I σ (p + 7) 1 = nI 4))
  && (List.range 8).all (fun k => decide (a_I σ 107 k = nI 0) && decide (a_I σ 238 (648 + k) = nI 0))
  && decide (a_R σ 237 4 = some 238) && decide (a_R σ 235 0 = some 236) && decide (σ.1 236 = (7, 16)) && decide (a_I σ 220 9 = a_I σ 237 27) && decide (a_uc σ ≤ 500) && decide (a_us σ ≤ 50000)
def o_fst : Option (aRes × aSt) → Nat := fun r => match r with | some (.inl none, σ) => a_n σ | _ => 0
def o_all : Bool := match o_call 12000 40 89 [.ref 100] (a_new o_s0 19 10 10) with
  | some (.inl none, σ) => decide (a_n σ = 237) && (match o_call 12000 40 143 [.ref 237] (a_new σ 20 35 35) with
    | some (.inl none, σ') => decide (a_n σ' = 252) && o_ck (a_new σ' 2 1 1)
    | _ => false)
  | _ => false
theorem o_all_t : o_all = true := by decide +kernel
