/-! cells -/
def a_tag (c k : Nat) : Bool := match vwCl[c]? with
  | some q => (match parseFieldDescriptor (q.2.1 k).2.2.1 with | some (.object _) => true | some (.array _) => true | _ => false)
  | none => false
def a_fv (ρ : Nat → Nat) (σ : aSt) (i c k : Nat) : Value := if a_tag c k = true then a_vm ρ (a_rf (a_R σ i k)) else .int (a_I σ i k)
def a_aty : Nat → Option FieldType
  | 1 => some .int
  | 2 => some .long
  | 3 => some (.object "java/lang/String")
  | 4 => some (.object "PaletteTubes$Palette")
  | 7 => some .byte
  | _ => none
/-- the fixed things: the classes' numbers, the arrays' classes, the addresses that are ours, the addresses of the old cells, the script, the constant texts (class, entry, number, text) -/
abbrev aFix : Type := va_G × (Nat → ClassId) × (Nat → Prop) × (Nat → Nat) × Nat × (Nat → Int32) × List (String × Nat × Nat × String) × List Jvm.Cond × (State → Heap → Prop)
def f_D (F : aFix) : va_G := F.1
def f_t (F : aFix) : Nat → ClassId := F.2.1
def f_A (F : aFix) : Nat → Prop := F.2.2.1
def f_r (F : aFix) : Nat → Nat := F.2.2.2.1
def f_sL (F : aFix) : Nat := F.2.2.2.2.1
def f_sX (F : aFix) : Nat → Int32 := F.2.2.2.2.2.1
def f_T (F : aFix) : List (String × Nat × Nat × String) := F.2.2.2.2.2.2.1
def f_N (F : aFix) : List Jvm.Cond := F.2.2.2.2.2.2.2.1
def f_X (F : aFix) : State → Heap → Prop := F.2.2.2.2.2.2.2.2
def a_cell (F : aFix) (ρ : Nat → Nat) (σ : aSt) (H : Heap) (i : Nat) : Prop :=
  (a_kd σ i = 1 ∨ a_kd σ i = 7 → H[ρ i]? = some (arrV (f_t F (a_kd σ i)) (a_ln σ i) (fun j => .int (a_I σ i j)))) ∧
  (a_kd σ i = 2 → H[ρ i]? = some (arrV (f_t F 2) (a_ln σ i) (fun j => .long (a_L σ i j)))) ∧
  (a_kd σ i = 3 ∨ a_kd σ i = 4 → H[ρ i]? = some (arrV (f_t F (a_kd σ i)) (a_ln σ i) (fun j => a_vm ρ (a_rf (a_R σ i j))))) ∧
  (10 ≤ a_kd σ i → ∃ q : vw_C, vwCl[a_kd σ i - 10]? = some q ∧ t_OB (ρ i) ((f_D F).1 (a_kd σ i - 10)) q.2.2 ((f_D F).2 (a_kd σ i - 10)) H (fun k => a_fv ρ σ i (a_kd σ i - 10) k))
def a_hp (F : aFix) (ρ : Nat → Nat) (σ : aSt) (H : Heap) : Prop :=
  (∀ i, i < 100 → ρ i = f_r F i) ∧ 100 ≤ a_n σ ∧ (∀ i, a_kd σ i ≠ 0 → i < a_n σ) ∧
  (∀ i j, 100 ≤ i → 100 ≤ j → a_kd σ i ≠ 0 → a_kd σ j ≠ 0 → ρ i = ρ j → i = j) ∧
  (∀ i, 100 ≤ i → a_kd σ i ≠ 0 → f_A F (ρ i) ∧ ρ i < H.size ∧ a_cell F ρ σ H i) ∧
  (∀ i, a_kd σ i = 5 → i = 0 ∧ a_ln σ 0 = f_sL F ∧ ∀ j, j < f_sL F → a_I σ 0 j = f_sX F j) ∧
  (∀ i, a_kd σ i = 6 → ∃ q, q ∈ f_T F ∧ q.2.2.1 = i) ∧
  (∀ i, i < 100 → a_kd σ i = 0 ∨ a_kd σ i = 5 ∨ a_kd σ i = 6)
theorem a_cell_eq {F : aFix} {ρ ρ' : Nat → Nat} {σ σ' : aSt} {H H' : Heap} {i : Nat} (h : a_cell F ρ σ H i) (ek : σ'.1 i = σ.1 i) (eI : ∀ k, a_I σ' i k = a_I σ i k) (eR : ∀ k, a_vm ρ' (a_rf (a_R σ' i k)) = a_vm ρ (a_rf (a_R σ i k))) (eL : ∀ k, a_L σ' i k = a_L σ i k)
    (er : ρ' i = ρ i) (eq : H'[ρ i]? = H[ρ i]?) : a_cell F ρ' σ' H' i := by
  have e1 : a_kd σ' i = a_kd σ i := congrArg Prod.fst ek
  have e2 : a_ln σ' i = a_ln σ i := congrArg Prod.snd ek
  have e3 : (fun j => Value.int (a_I σ' i j)) = (fun j => Value.int (a_I σ i j)) := funext fun j => by rw [eI]
  have e4 : (fun j => Value.long (a_L σ' i j)) = (fun j => Value.long (a_L σ i j)) := funext fun j => by rw [eL]
  have e5 : (fun j => a_vm ρ' (a_rf (a_R σ' i j))) = (fun j => a_vm ρ (a_rf (a_R σ i j))) := funext fun j => eR j
  have e6 : ∀ c, (fun k => a_fv ρ' σ' i c k) = (fun k => a_fv ρ σ i c k) := fun c => funext fun k => by
    unfold a_fv
    rw [eI, eR]
  unfold a_cell
  rw [e1, e2, e3, e4, e5, er, eq, e6]
  refine ⟨h.1, h.2.1, h.2.2.1, fun hk => ?_⟩
  obtain ⟨q, h1, h2⟩ := h.2.2.2 hk
  exact ⟨q, h1, h2.kept eq⟩
theorem a_hp_upd {F : aFix} {ρ : Nat → Nat} {σ σ' : aSt} {H H' : Heap} {a : Nat} (h : a_hp F ρ σ H) (ha : 100 ≤ a) (hk : a_kd σ a ≠ 0) (e1 : σ'.1 = σ.1) (e2 : a_n σ' = a_n σ) (eI : ∀ i k, i ≠ a → a_I σ' i k = a_I σ i k) (eR : ∀ i k, i ≠ a → a_R σ' i k = a_R σ i k) (eL : ∀ i k, i ≠ a → a_L σ' i k = a_L σ i k)
    (hz : H'.size = H.size) (oq : ∀ q, q ≠ ρ a → H'[q]? = H[q]?) (hc : a_cell F ρ σ' H' a) : a_hp F ρ σ' H' := by
  obtain ⟨h1, h2, h3, h4, h5, h6, h7, h8⟩ := h
  have ek : ∀ i, a_kd σ' i = a_kd σ i := fun i => by unfold a_kd; rw [e1]
  have el : ∀ i, a_ln σ' i = a_ln σ i := fun i => by unfold a_ln; rw [e1]
  refine ⟨h1, by rw [e2]; exact h2, fun i hi => by rw [e2]; exact h3 i (by rw [← ek]; exact hi), fun i j hi hj ki kj => h4 i j hi hj (by rw [← ek]; exact ki) (by rw [← ek]; exact kj), fun i hi ki => ?_, fun i ki => ?_, fun i ki => h7 i (by rw [← ek]; exact ki), fun i hi => by rw [ek]; exact h8 i hi⟩
  · have ki' : a_kd σ i ≠ 0 := by rw [← ek]; exact ki
    obtain ⟨g1, g2, g3⟩ := h5 i hi ki'
    refine ⟨g1, by rw [hz]; exact g2, ?_⟩
    by_cases hia : i = a
    · subst hia; exact hc
    · exact a_cell_eq g3 (by rw [e1]) (fun k => eI i k hia) (fun k => by rw [eR i k hia]) (fun k => eL i k hia) rfl (oq _ fun z => hia (h4 i a hi ha ki' hk z))
  · obtain ⟨g1, g2, g3⟩ := h6 i (by rw [← ek]; exact ki)
    refine ⟨g1, by rw [el]; exact g2, fun j hj => ?_⟩
    rw [eI 0 j (by omega)]
    exact g3 j hj
/-- a new cell at the heap's end -/
theorem a_hp_new {F : aFix} {ρ : Nat → Nat} {σ : aSt} {H H' : Heap} {kd ln us : Nat} (h : a_hp F ρ σ H) (hR : a_bdR σ) (hA : f_A F H.size) (hz : H'.size = H.size + 1) (oq : ∀ q, q < H.size → H'[q]? = H[q]?) (h5 : kd ≠ 5) (h6 : kd ≠ 6)
    (hc : a_cell F (fun j => if j = a_n σ then H.size else ρ j) (a_new σ kd ln us) H' (a_n σ)) : a_hp F (fun j => if j = a_n σ then H.size else ρ j) (a_new σ kd ln us) H' := by
  obtain ⟨g1, g2, g3, g4, g5, g6, g7, g8⟩ := h
  have ek : ∀ i, i ≠ a_n σ → (a_new σ kd ln us).1 i = σ.1 i := fun i hi => if_neg hi
  have ekd : ∀ i, i ≠ a_n σ → a_kd (a_new σ kd ln us) i = a_kd σ i := fun i hi => congrArg Prod.fst (ek i hi)
  have ekn : a_kd (a_new σ kd ln us) (a_n σ) = kd := congrArg Prod.fst (if_pos rfl)
  refine ⟨fun i hi => ?_, Nat.le_succ_of_le g2, fun i hi => ?_, fun i j hi hj ki kj hij => ?_, fun i hi ki => ?_, fun i ki => ?_, fun i ki => ?_, fun i hi => ?_⟩
  · show (if i = a_n σ then _ else _) = _
    rw [if_neg (by omega)]
    exact g1 i hi
  · show i < a_n σ + 1
    by_cases hin : i = a_n σ
    · omega
    · rw [ekd i hin] at hi
      exact Nat.lt_succ_of_lt (g3 i hi)
  · have hij' : (if i = a_n σ then H.size else ρ i) = (if j = a_n σ then H.size else ρ j) := hij
    by_cases hin : i = a_n σ <;> by_cases hjn : j = a_n σ
    · omega
    · rw [if_pos hin, if_neg hjn] at hij'
      rw [ekd j hjn] at kj
      have := (g5 j hj kj).2.1
      omega
    · rw [if_neg hin, if_pos hjn] at hij'
      rw [ekd i hin] at ki
      have := (g5 i hi ki).2.1
      omega
    · rw [if_neg hin, if_neg hjn] at hij'
      rw [ekd i hin] at ki
      rw [ekd j hjn] at kj
      exact g4 i j hi hj ki kj hij'
  · by_cases hin : i = a_n σ
    · subst hin
      refine ⟨?_, ?_, hc⟩
      · show f_A F (if _ = _ then _ else _)
        rw [if_pos rfl]; exact hA
      · show (if _ = _ then _ else _) < _
        rw [if_pos rfl]; omega
    · rw [ekd i hin] at ki
      obtain ⟨q1, q2, q3⟩ := g5 i hi ki
      have er : (if i = a_n σ then H.size else ρ i) = ρ i := if_neg hin
      refine ⟨?_, ?_, ?_⟩
      · show f_A F (if _ = _ then _ else _)
        rw [er]; exact q1
      · show (if _ = _ then _ else _) < _
        rw [er]; omega
      · refine a_cell_eq q3 (ek i hin) (fun k => if_neg hin) (fun k => ?_) (fun k => if_neg hin) er (oq _ q2)
        have e1 : a_R (a_new σ kd ln us) i k = a_R σ i k := if_neg hin
        rw [e1]
        exact a_vm_ext (n := a_n σ) (fun j hj => if_neg (by omega)) (a_rf_bd hR)
  · by_cases hin : i = a_n σ
    · subst hin; rw [ekn] at ki; exact absurd ki h5
    · rw [ekd i hin] at ki
      obtain ⟨q1, q2, q3⟩ := g6 i ki
      have h0 : (0 : Nat) ≠ a_n σ := by omega
      refine ⟨q1, (congrArg Prod.snd (ek 0 h0)).trans q2, fun j hj => ?_⟩
      have e1 : a_I (a_new σ kd ln us) 0 j = a_I σ 0 j := if_neg h0
      rw [e1]
      exact q3 j hj
  · by_cases hin : i = a_n σ
    · subst hin; rw [ekn] at ki; exact absurd ki h6
    · rw [ekd i hin] at ki
      exact g7 i ki
  · rw [ekd i (by omega)]
    exact g8 i hi
/-- a name for any address -/
theorem a_hp_name {F : aFix} {ρ : Nat → Nat} {σ : aSt} {H : Heap} {q : Nat} (h : a_hp F ρ σ H) (hR : a_bdR σ) : a_hp F (fun j => if j = a_n σ then q else ρ j) (a_name σ) H := by
  obtain ⟨g1, g2, g3, g4, g5, g6, g7, g8⟩ := h
  have hne : ∀ i, a_kd σ i ≠ 0 → i ≠ a_n σ := fun i ki z => by have := g3 i ki; omega
  refine ⟨fun i hi => ?_, Nat.le_succ_of_le g2, fun i hi => Nat.lt_succ_of_lt (g3 i hi), fun i j hi hj ki kj hij => ?_, fun i hi ki => ?_, g6, g7, g8⟩
  · show (if i = a_n σ then _ else _) = _
    rw [if_neg (by omega)]
    exact g1 i hi
  · have hij' : (if i = a_n σ then q else ρ i) = (if j = a_n σ then q else ρ j) := hij
    rw [if_neg (hne i ki), if_neg (hne j kj)] at hij'
    exact g4 i j hi hj ki kj hij'
  · obtain ⟨q1, q2, q3⟩ := g5 i hi ki
    have er : (if i = a_n σ then q else ρ i) = ρ i := if_neg (hne i ki)
    refine ⟨?_, ?_, ?_⟩
    · show f_A F (if _ = _ then _ else _)
      rw [er]; exact q1
    · show (if _ = _ then _ else _) < _
      rw [er]; exact q2
    · exact a_cell_eq q3 rfl (fun k => rfl) (fun k => a_vm_ext (n := a_n σ) (fun j hj => if_neg (by omega)) (a_rf_bd hR)) (fun k => rfl) er rfl
/-! what the tables and the old cells say, at the entry of a method -/
def a_env (F : aFix) (U : State) (H : Heap) : Prop :=
  va_K (f_D F) vwCl [] U ∧ (∀ k ty, a_aty k = some ty → ArrOfT U (f_t F k) ty ∧ va_RA U (f_t F k) ty) ∧
  (vx_Zq Bundle.tN "UNASSIGNED_STACK" Bundle.steD (f_A F) U H ∧ vx_Zq Bundle.tN "SUPPRESSED_SENTINEL" Bundle.listD (f_A F) U H) ∧
  (va_X (f_r F 0) (f_sL F) (f_sX F) U H ∧ f_r F 0 < H.size ∧ ¬ f_A F (f_r F 0)) ∧
  (∀ q, q ∈ f_T F → vk_R q.1 q.2.1 q.2.2.2 (f_r F q.2.2.1) U ∧ va_O "java/lang/String" (f_r F q.2.2.1) (f_A F) U H ∧ q.2.2.1 < 100) ∧
  (∀ w, w ∈ f_N F → va_Nw w U) ∧ (va_AO "java/lang/String" U ∧ va_AO "PaletteTubes$Palette" U) ∧ f_X F U H
/-- what is asked of the fixed things -/
def a_fix (F : aFix) : Prop :=
  (∀ w, w ∈ f_N F → (∃ a i x h, w = Jvm.Cond.methodLinkNest a i x h) ∨ ∃ a b, w = Jvm.Cond.castable a b) ∧
  (∀ (s U : State) (H H1 : Heap), s.WarmedH U.vm → H.size ≤ H1.size → (∀ a : Nat, a < H.size → ¬ f_A F a → H1[a]? = H[a]?) → f_X F s H → f_X F U H1) ∧
  (∀ (U : State) (H : Heap), f_X F U H → ∀ q, H.size ≤ q → f_A F q) ∧
  ∀ (U : State) (H : Heap), f_X F U H → (∀ a, 60 ≤ a → a ≤ 78 → va_T .byte (f_r F a) (a_tbl a).length (fun j => .int (Int32.ofNat ((a_tbl a).getD j 0))) (f_A F) U H) ∧ ∀ a, 1 ≤ a → a ≤ 18 → va_OF "java/lang/String" "value" "[B" (.ref (f_r F (60 + a))) (f_r F a) (f_A F) U H ∧ va_OF "java/lang/String" "coder" "B" (.int 0) (f_r F a) (f_A F) U H
theorem a_env_go {F : aFix} {s U : State} {H H1 : Heap} (hF : a_fix F) (h : a_env F s H) (hW : s.WarmedH U.vm) (hz : H.size ≤ H1.size) (hq : ∀ a : Nat, a < H.size → ¬ f_A F a → H1[a]? = H[a]?) : a_env F U H1 := by
  obtain ⟨h1, h2, ⟨h3, h4⟩, ⟨h5, h6, h7⟩, h8, h9, ⟨h10, h11⟩, h12⟩ := h
  have hal := hW.alike
  refine ⟨va_K.moved hal h1, fun k ty hk => ⟨arrOfT_moved hal (h2 k ty hk).1, va_RA.moved hal (h2 k ty hk).2⟩, ⟨(vx_Zq.moved hal h3).kept hq, (vx_Zq.moved hal h4).kept hq⟩, ⟨(va_X.moved hal h5).kept (hq _ h6 h7), Nat.lt_of_lt_of_le h6 hz, h7⟩, fun q hm => ?_, fun w hw => ?_, ⟨va_AO.moved hal h10, va_AO.moved hal h11⟩, hF.2.1 s U H H1 hW hz hq h12⟩
  · obtain ⟨g1, g2, g3⟩ := h8 q hm
    exact ⟨vk_R.warm hW g1, (va_O.moved hal g2).kept hq, g3⟩
  · rcases hF.1 w hw with ⟨a, i, x, t, rfl⟩ | ⟨a, b, rfl⟩
    · exact va_Nw.warmM hW (h9 _ hw)
    · exact va_Nw.warmC hW (h9 _ hw)
