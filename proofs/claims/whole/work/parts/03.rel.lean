/-! THE RELATION between abstract cells and the machine's: an injection ρ of numbers into addresses. -/
/-- the words that hold at every entry: the tables', and the law's own code -/
def am_ws : List Jvm.Cond := (lw_tbl ++ [Jvm.Cond.code x code maxLocals ret]).filter goodWord
theorem am_in {w : Jvm.Cond} (h : w ∈ lw_tbl) (hg : goodWord w = true) : w ∈ am_ws := List.mem_filter.mpr ⟨List.mem_append_left _ h, hg⟩
theorem am_law : Jvm.Cond.code x code maxLocals ret ∈ am_ws := List.mem_filter.mpr ⟨List.mem_append_right _ List.mem_cons_self, rfl⟩
theorem am_sub {w : Jvm.Cond} (h : w ∈ am_ws) : w ∈ lw_tbl ∨ w = Jvm.Cond.code x code maxLocals ret := (List.mem_append.mp (List.mem_filter.mp h).1).imp id fun z => List.mem_singleton.mp z
theorem am_good : GoodIn am_ws am_ws := fun _ h => ⟨h, good_of_word (List.mem_filter.mp h).2⟩
def a_vm (ρ : Nat → Nat) (v : Value) : Value := match v with | .ref a => .ref (ρ a) | w => w
theorem a_vm_cat (ρ : Nat → Nat) (v : Value) : (a_vm ρ v).category = v.category := by cases v <;> rfl
theorem a_vm_sum (ρ : Nat → Nat) (st : List Value) : ((st.map (a_vm ρ)).map fun v => v.category).sum = (st.map fun v => v.category).sum := by
  rw [List.map_map]
  exact congrArg List.sum (List.map_congr_left fun v _ => a_vm_cat ρ v)
def a_bd (n : Nat) (v : Value) : Prop := match v with | .ref a => a < n | _ => True
def a_bdl (n : Nat) (L : List (Option Value)) : Prop := ∀ v, some v ∈ L → a_bd n v
def a_bds (n : Nat) (st : List Value) : Prop := ∀ v, v ∈ st → a_bd n v
def a_bdR (σ : aSt) : Prop := 100 ≤ a_n σ ∧ ∀ a k x, a_R σ a k = some x → x < a_n σ
def a_bdc (c : aCfg) : Prop := a_bdl (a_n c.2.2.2) c.2.1 ∧ a_bds (a_n c.2.2.2) c.2.2.1 ∧ a_bdR c.2.2.2
def a_le (σ σ' : aSt) : Prop := a_n σ ≤ a_n σ' ∧ a_uc σ ≤ a_uc σ' ∧ a_us σ ≤ a_us σ'
theorem a_le.refl (σ : aSt) : a_le σ σ := ⟨Nat.le_refl _, Nat.le_refl _, Nat.le_refl _⟩
theorem a_le.trans {σ σ' σ'' : aSt} (h : a_le σ σ') (h' : a_le σ' σ'') : a_le σ σ'' := ⟨Nat.le_trans h.1 h'.1, Nat.le_trans h.2.1 h'.2.1, Nat.le_trans h.2.2 h'.2.2⟩
theorem a_bd.mono {n n' : Nat} (hn : n ≤ n') {v : Value} (h : a_bd n v) : a_bd n' v := by cases v <;> first | trivial | exact Nat.lt_of_lt_of_le h hn
theorem a_bds_nil (n : Nat) : a_bds n [] := fun _ h => by cases h
theorem a_bds_cons {n : Nat} {v : Value} {st : List Value} : a_bds n (v :: st) ↔ a_bd n v ∧ a_bds n st :=
  ⟨fun h => ⟨h v List.mem_cons_self, fun w hw => h w (List.mem_cons_of_mem _ hw)⟩, fun h w hw => (List.mem_cons.mp hw).elim (fun e => e ▸ h.1) (h.2 w)⟩
theorem a_bds.mono {n n' : Nat} (hn : n ≤ n') {st : List Value} (h : a_bds n st) : a_bds n' st := fun v hv => (h v hv).mono hn
theorem a_bdl.mono {n n' : Nat} (hn : n ≤ n') {L : List (Option Value)} (h : a_bdl n L) : a_bdl n' L := fun v hv => (h v hv).mono hn
theorem a_bdl_at {n : Nat} {L : List (Option Value)} {i : Nat} {v : Value} (h : a_bdl n L) (hv : L.getD i none = some v) : a_bd n v := by
  refine h v ?_
  rw [List.getD_eq_getElem?_getD] at hv
  cases hl : L[i]? with
  | none => rw [hl] at hv; cases hv
  | some o => rw [hl] at hv; subst hv; exact List.mem_of_getElem? hl
theorem a_bdl_set {n : Nat} {L : List (Option Value)} {i : Nat} {o : Option Value} (h : a_bdl n L) (ho : ∀ v, o = some v → a_bd n v) : a_bdl n (L.set i o) := by
  intro v hv
  rcases List.mem_or_eq_of_mem_set hv with h1 | h1
  · exact h v h1
  · exact ho v h1.symm
theorem a_rf_bd {σ : aSt} {a k : Nat} (h : a_bdR σ) : a_bd (a_n σ) (a_rf (a_R σ a k)) := by
  cases hr : a_R σ a k with
  | none => trivial
  | some x => exact h.2 a k x hr
theorem a_st1_bd {n : Nat} {L L' : List (Option Value)} {i : Nat} {v : Value} (h : a_bdl n L) (hv : a_bd n v) (e : a_st1 L i v = some L') : a_bdl n L' := by
  unfold a_st1 at e
  split at e
  · cases e; exact a_bdl_set h fun w hw => by cases hw; exact hv
  · cases e
theorem a_st2_bd {n : Nat} {L L' : List (Option Value)} {i : Nat} {v : Value} (h : a_bdl n L) (hv : a_bd n v) (e : a_st2 L i v = some L') : a_bdl n L' := by
  unfold a_st2 at e
  split at e
  · cases e; exact a_bdl_set (a_bdl_set h fun w hw => by cases hw; exact hv) fun w hw => by cases hw
  · cases e
/-- what a step does to bounds and counts -/
def a_good (σ : aSt) (o : Option aAct) : Prop := match o with
  | none => True
  | some (.inl c) => a_bdc c ∧ a_le σ c.2.2.2
  | some (.inr (.inl (r, σ'))) => a_bdR σ' ∧ a_le σ σ' ∧ ∀ v, r = .inl (some v) → a_bd (a_n σ') v
  | some (.inr (.inr (_, as, c))) => a_bdc c ∧ c.2.2.2 = σ ∧ a_bds (a_n σ) as
theorem a_good_go {pc : Nat} {L : List (Option Value)} {st : List Value} {σ : aSt} (hL : a_bdl (a_n σ) L) (hs : a_bds (a_n σ) st) (hR : a_bdR σ) : a_good σ (a_go pc L st σ) := ⟨⟨hL, hs, hR⟩, a_le.refl σ⟩
theorem a_good_sto {pc : Nat} {st : List Value} {σ : aSt} {o : Option (List (Option Value))} (hL : ∀ L', o = some L' → a_bdl (a_n σ) L') (hs : a_bds (a_n σ) st) (hR : a_bdR σ) : a_good σ (a_sto pc o st σ) := by
  cases o with
  | none => trivial
  | some L' => exact a_good_go (hL L' rfl) hs hR
theorem a_bdR_setI {σ : aSt} {a k : Nat} {x : Int32} (h : a_bdR σ) : a_bdR (a_setI σ a k x) := h
theorem a_bdR_setL {σ : aSt} {a k : Nat} {x : Int64} (h : a_bdR σ) : a_bdR (a_setL σ a k x) := h
theorem a_bdR_setR {σ : aSt} {a k x : Nat} (h : a_bdR σ) (hx : x < a_n σ) : a_bdR (a_setR σ a k (some x)) := by
  refine ⟨h.1, fun b j y hy => ?_⟩
  show y < a_n σ
  have hy' : (if b = a ∧ j = k then some x else a_R σ b j) = some y := hy
  split at hy'
  · cases hy'; exact hx
  · exact h.2 b j y hy'
theorem a_bdR_new {σ : aSt} {kd ln us : Nat} (h : a_bdR σ) : a_bdR (a_new σ kd ln us) := by
  refine ⟨Nat.le_succ_of_le h.1, fun b j y hy => ?_⟩
  show y < a_n σ + 1
  have hy' : (if b = a_n σ then none else a_R σ b j) = some y := hy
  split at hy'
  · cases hy'
  · exact Nat.lt_succ_of_lt (h.2 b j y hy')
theorem a_good_new {pc : Nat} {L : List (Option Value)} {st : List Value} {σ : aSt} {kd ln us : Nat} (hL : a_bdl (a_n σ) L) (hs : a_bds (a_n σ) st) (hR : a_bdR σ) : a_good σ (a_go pc L (.ref (a_n σ) :: st) (a_new σ kd ln us)) :=
  ⟨⟨hL.mono (Nat.le_succ _), a_bds_cons.mpr ⟨Nat.lt_succ_self _, hs.mono (Nat.le_succ _)⟩, a_bdR_new hR⟩, Nat.le_succ _, Nat.le_succ _, Nat.le_add_right _ _⟩
set_option maxHeartbeats 4000000 in
theorem a_exec_good {i : Instr} {len : Nat} {r : aRef} {z : Int32} {tgt pc : Nat} {L : List (Option Value)} {st : List Value} {σ : aSt} (hc : a_bdc (pc, L, st, σ)) (hr : ∀ ix, (i = .ldc ix ∨ i = .ldc_w ix) → r.1 = 0 ∨ r.2.1 < 100) : a_good σ (a_exec i len r z tgt pc L st σ) := by
  suffices key : a_bdl (a_n σ) L → a_bds (a_n σ) st → a_bdR σ → a_good σ (a_exec i len r z tgt pc L st σ) from key hc.1 hc.2.1 hc.2.2
  clear hc
  intro hL hs hR
  have hq : ∀ x, x < 100 → a_bd (a_n σ) (.ref x) := fun x hx => Nat.lt_of_lt_of_le hx hR.1
  have hq6 : ∀ {x : Nat} {A B D : Prop}, (A ∧ B ∧ x ≤ 18 ∧ D) → a_bd (a_n σ) (.ref (60 + x)) := fun {x} {_ _ _} z => hq (60 + x) (Nat.lt_of_le_of_lt (Nat.add_le_add_left z.2.2.1 60) (by decide))
  cases i
  all_goals
    simp only [a_exec, a_ldI, a_ldA, a_ldL, a_ldD, a_stI, a_stA, a_stD, a_binI, a_binL, a_div, a_br, a_get, a_put, a_tsw, a_inv]
  all_goals (repeat' split)
  all_goals (try trivial)
  all_goals (try simp only [a_bds_cons] at hs)
  all_goals (try exact a_good_go hL hs hR)
  all_goals (try exact a_good_go hL hs.2 hR)
  all_goals (try exact a_good_go hL hs.2.2 hR)
  all_goals (try exact a_good_go hL (a_bds_cons.mpr ⟨trivial, hs⟩) hR)
  all_goals (try exact a_good_go hL (a_bds_cons.mpr ⟨trivial, hs.2⟩) hR)
  all_goals (try exact a_good_go hL (a_bds_cons.mpr ⟨trivial, hs.2.2⟩) hR)
  all_goals (try exact a_good_go hL (a_bds_cons.mpr ⟨a_bdl_at hL (by assumption), hs⟩) hR)
  all_goals (try exact a_good_go hL (a_bds_cons.mpr ⟨a_rf_bd hR, hs.2⟩) hR)
  all_goals (try exact a_good_go hL (a_bds_cons.mpr ⟨a_rf_bd hR, hs.2.2⟩) hR)
  all_goals (try exact a_good_go hL (a_bds_cons.mpr ⟨hq6 (by assumption), hs.2⟩) hR)
  all_goals (try exact a_good_go hL (a_bds_cons.mpr ⟨hq _ (by assumption), hs⟩) hR)
  all_goals (try exact a_good_new hL hs hR)
  all_goals (try exact a_good_new hL hs.2 hR)
  all_goals (try exact a_good_sto (fun L' e => a_st1_bd hL hs.1 e) hs.2 hR)
  all_goals (try exact a_good_sto (fun L' e => a_st2_bd hL hs.1 e) hs.2 hR)
  all_goals (try exact a_good_sto (fun L' e => a_st1_bd (v := .int _) hL trivial e) hs hR)
  all_goals (try exact ⟨⟨hL, hs.2.2, a_bdR_setI hR⟩, a_le.refl σ⟩)
  all_goals (try exact ⟨⟨hL, hs.2.2, a_bdR_setR hR hs.1⟩, a_le.refl σ⟩)
  all_goals (try exact ⟨⟨hL, hs.2.2.2, a_bdR_setI hR⟩, a_le.refl σ⟩)
  all_goals (try exact ⟨⟨hL, hs.2.2.2, a_bdR_setL hR⟩, a_le.refl σ⟩)
  all_goals (try exact ⟨⟨hL, hs.2.2.2, a_bdR_setR hR hs.1⟩, a_le.refl σ⟩)
  all_goals (try exact ⟨hR, a_le.refl σ, fun v hv => by cases hv; trivial⟩)
  all_goals (try exact ⟨hR, a_le.refl σ, fun v hv => by cases hv; exact hs.1⟩)
  all_goals (try exact ⟨hR, a_le.refl σ, fun v hv => by cases hv⟩)
  all_goals (try exact ⟨hR, ⟨Nat.le_refl _, Nat.le_succ _, Nat.le_add_right _ _⟩, fun v hv => by cases hv⟩)
  all_goals (try exact a_good_go hL (a_bds_cons.mpr ⟨hs.1, a_bds_cons.mpr ⟨hs.1, hs.2⟩⟩) hR)
  all_goals (try exact a_good_go hL (a_bds_cons.mpr ⟨hs.1, a_bds_cons.mpr ⟨hs.2.1, a_bds_cons.mpr ⟨hs.1, hs.2.2⟩⟩⟩) hR)
  all_goals (try exact a_good_go hL (a_bds_cons.mpr ⟨hs.1, a_bds_cons.mpr ⟨hs.2.1, a_bds_cons.mpr ⟨hs.1, a_bds_cons.mpr ⟨hs.2.1, hs.2.2⟩⟩⟩⟩) hR)
  all_goals (try exact a_good_go hL (a_bds_cons.mpr ⟨Nat.lt_of_lt_of_le ((hr _ (by first | exact Or.inl rfl | exact Or.inr rfl)).resolve_left (by assumption)) hR.1, hs⟩) hR)
  all_goals (try exact ⟨⟨hL, fun v hv => hs v (List.mem_of_mem_drop hv), hR⟩, rfl, fun v hv => hs v (List.mem_of_mem_take (List.mem_reverse.mp hv))⟩)
/-! locals -/
def a_lv (ρ : Nat → Nat) : Nat → List (Option Value) → List (Nat × Value)
  | _, [] => []
  | k, none :: l => a_lv ρ (k + 1) l
  | k, some v :: l => (k, a_vm ρ v) :: a_lv ρ (k + 1) l
theorem a_lv_mem {ρ : Nat → Nat} {q : Nat × Value} : ∀ {L : List (Option Value)} {k : Nat}, q ∈ a_lv ρ k L ↔ ∃ j v, q.1 = k + j ∧ L[j]? = some (some v) ∧ q.2 = a_vm ρ v
  | [], k => ⟨fun h => (by cases h), fun ⟨j, v, _, h, _⟩ => (by simp at h)⟩
  | none :: l, k => by
    show q ∈ a_lv ρ (k + 1) l ↔ _
    rw [a_lv_mem]
    constructor
    · rintro ⟨j, v, h1, h2, h3⟩
      exact ⟨j + 1, v, by omega, by simpa using h2, h3⟩
    · rintro ⟨j, v, h1, h2, h3⟩
      cases j with
      | zero => simp at h2
      | succ j => exact ⟨j, v, by omega, by simpa using h2, h3⟩
  | some w :: l, k => by
    show q ∈ (k, a_vm ρ w) :: a_lv ρ (k + 1) l ↔ _
    rw [List.mem_cons, a_lv_mem]
    constructor
    · rintro (h | ⟨j, v, h1, h2, h3⟩)
      · subst h
        exact ⟨0, w, rfl, rfl, rfl⟩
      · exact ⟨j + 1, v, by omega, by simpa using h2, h3⟩
    · rintro ⟨j, v, h1, h2, h3⟩
      cases j with
      | zero =>
        simp at h2
        subst h2
        exact Or.inl (Prod.ext h1 h3)
      | succ j => exact Or.inr ⟨j, v, by omega, by simpa using h2, h3⟩
def a_lo (ρ : Nat → Nat) (L : List (Option Value)) (n : Nat) (ls : Array Slot) : Prop := L.length = n ∧ lv_has ls n (a_lv ρ 0 L)
theorem a_getD {L : List (Option Value)} {i : Nat} {v : Value} (h : L.getD i none = some v) : L[i]? = some (some v) := by
  rw [List.getD_eq_getElem?_getD] at h
  cases hl : L[i]? with
  | none => rw [hl] at h; cases h
  | some o => rw [hl] at h; simp at h; rw [h]
theorem a_lo_at {ρ : Nat → Nat} {L : List (Option Value)} {n i : Nat} {ls : Array Slot} {v : Value} (h : a_lo ρ L n ls) (hv : L.getD i none = some v) : ls[i]? = some (.val (a_vm ρ v)) :=
  h.2.2.2 (i, a_vm ρ v) (a_lv_mem.mpr ⟨i, v, (Nat.zero_add i).symm, a_getD hv, rfl⟩)
theorem a_lo_st1 {ρ : Nat → Nat} {L L' : List (Option Value)} {n i : Nat} {ls : Array Slot} {v : Value} (hL : L.length = n) (e : a_st1 L i v = some L')
    (h : lv_has ls n ((i, a_vm ρ v) :: (a_lv ρ 0 L).filter (fun q => !(q.1 == i) && !(q.1 + 1 == i && q.2.category == 2)))) : a_lo ρ L' n ls := by
  unfold a_st1 at e
  split at e
  · rename_i hc
    cases e
    refine ⟨by simpa using hL, h.1, h.2.1, fun q hq => ?_⟩
    obtain ⟨j, w, h1, h2, h3⟩ := a_lv_mem.mp hq
    rw [Nat.zero_add] at h1
    by_cases hj : j = i
    · subst hj
      rw [List.getElem?_set_self hc.1] at h2
      cases h2
      have e2 : q = (j, a_vm ρ v) := Prod.ext h1 h3
      rw [e2]
      exact h.2.2 _ List.mem_cons_self
    · rw [List.getElem?_set_ne (fun z => hj z.symm)] at h2
      refine h.2.2 q (List.mem_cons_of_mem _ (List.mem_filter.mpr ⟨a_lv_mem.mpr ⟨j, w, by omega, h2, h3⟩, ?_⟩))
      rw [h1]
      have e1 : (j == i) = false := beq_false_of_ne hj
      rw [e1]
      by_cases hj1 : j + 1 = i
      · rcases hc.2 with z | z
        · omega
        · have e3 : i - 1 = j := by omega
          have e4 : L.getD (i - 1) none = some w := by rw [e3, List.getD_eq_getElem?_getD, h2]; rfl
          rw [e4] at z
          have e5 : (w.category == 1) = true := z
          have e6 : w.category = 1 := by simpa using e5
          rw [h3, a_vm_cat, e6]
          simp
      · have e2 : (j + 1 == i) = false := beq_false_of_ne hj1
        rw [e2]
        rfl
  · cases e
theorem a_lo_st2 {ρ : Nat → Nat} {L L' : List (Option Value)} {n i : Nat} {ls : Array Slot} {v : Value} (hL : L.length = n) (e : a_st2 L i v = some L')
    (h : lv_has ls n ((i, a_vm ρ v) :: (a_lv ρ 0 L).filter (fun q => !(q.1 == i) && (!(q.1 == i + 1) && !(q.1 + 1 == i && q.2.category == 2))))) : a_lo ρ L' n ls := by
  unfold a_st2 at e
  split at e
  · rename_i hc
    cases e
    refine ⟨by simpa using hL, h.1, h.2.1, fun q hq => ?_⟩
    obtain ⟨j, w, h1, h2, h3⟩ := a_lv_mem.mp hq
    rw [Nat.zero_add] at h1
    have hji : j ≠ i + 1 := fun z => by
      subst z
      rw [List.getElem?_set_self (by simpa using hc.1)] at h2
      cases h2
    rw [List.getElem?_set_ne (fun z => hji z.symm)] at h2
    by_cases hj : j = i
    · subst hj
      rw [List.getElem?_set_self (by omega)] at h2
      cases h2
      have e2 : q = (j, a_vm ρ v) := Prod.ext h1 h3
      rw [e2]
      exact h.2.2 _ List.mem_cons_self
    · rw [List.getElem?_set_ne (fun z => hj z.symm)] at h2
      refine h.2.2 q (List.mem_cons_of_mem _ (List.mem_filter.mpr ⟨a_lv_mem.mpr ⟨j, w, by omega, h2, h3⟩, ?_⟩))
      rw [h1]
      have e1 : (j == i) = false := beq_false_of_ne hj
      have e1' : (j == i + 1) = false := beq_false_of_ne hji
      rw [e1, e1']
      by_cases hj1 : j + 1 = i
      · rcases hc.2 with z | z
        · omega
        · have e3 : i - 1 = j := by omega
          have e4 : L.getD (i - 1) none = some w := by rw [e3, List.getD_eq_getElem?_getD, h2]; rfl
          rw [e4] at z
          have e5 : (w.category == 1) = true := z
          have e6 : w.category = 1 := by simpa using e5
          rw [h3, a_vm_cat, e6]
          simp
      · have e2 : (j + 1 == i) = false := beq_false_of_ne hj1
        rw [e2]
        rfl
  · cases e
theorem a_vm_ext {ρ ρ' : Nat → Nat} {n : Nat} (h : ∀ i, i < n → ρ' i = ρ i) {v : Value} (hv : a_bd n v) : a_vm ρ' v = a_vm ρ v := by
  cases v <;> first | rfl | exact congrArg Value.ref (h _ hv)
theorem a_vms_ext {ρ ρ' : Nat → Nat} {n : Nat} (h : ∀ i, i < n → ρ' i = ρ i) {st : List Value} (hv : a_bds n st) : st.map (a_vm ρ') = st.map (a_vm ρ) :=
  List.map_congr_left fun v hm => a_vm_ext h (hv v hm)
theorem a_lv_ext {ρ ρ' : Nat → Nat} {n : Nat} (h : ∀ i, i < n → ρ' i = ρ i) : ∀ {L : List (Option Value)} (_ : a_bdl n L) (k : Nat), a_lv ρ' k L = a_lv ρ k L
  | [], _, _ => rfl
  | none :: l, hb, k => a_lv_ext h (fun v hv => hb v (List.mem_cons_of_mem _ hv)) (k + 1)
  | some v :: l, hb, k => by
    show (k, a_vm ρ' v) :: a_lv ρ' (k + 1) l = (k, a_vm ρ v) :: a_lv ρ (k + 1) l
    rw [a_vm_ext h (hb v List.mem_cons_self), a_lv_ext h (fun w hw => hb w (List.mem_cons_of_mem _ hw)) (k + 1)]
theorem a_lo_ext {ρ ρ' : Nat → Nat} {n m : Nat} (h : ∀ i, i < n → ρ' i = ρ i) {L : List (Option Value)} {ls : Array Slot} (hb : a_bdl n L) (hl : a_lo ρ L m ls) : a_lo ρ' L m ls := by
  refine ⟨hl.1, ?_⟩
  rw [a_lv_ext h hb]
  exact hl.2
