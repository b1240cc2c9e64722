/-! METHODS: by induction on the depth. -/
theorem a_lim_spec {f : Nat → Option (aRes × aSt)} {r : aRes × aSt} (h : a_lim f = some r) : ∃ n, f n = some r := by
  unfold a_lim at h
  split at h
  · exact ⟨_, h⟩
  · cases h
theorem a_lv_none (ρ : Nat → Nat) : ∀ (m k : Nat), a_lv ρ k (List.replicate m none) = []
  | 0, _ => rfl
  | m + 1, k => a_lv_none ρ m (k + 1)
theorem a_lv_ent (ρ : Nat → Nat) (m : Nat) : ∀ (as : List Value) (k : Nat), a_lv ρ k (a_ent as ++ List.replicate m none) = lv_args k (as.map (a_vm ρ))
  | [], k => a_lv_none ρ m k
  | v :: as, k => by
    show a_lv ρ k ((if v.category = 2 then some v :: none :: a_ent as else some v :: a_ent as) ++ List.replicate m none) = (k, a_vm ρ v) :: lv_args (if (a_vm ρ v).category = 2 then k + 2 else k + 1) (as.map (a_vm ρ))
    rw [a_vm_cat]
    by_cases hc : v.category = 2
    · rw [if_pos hc, if_pos hc]
      show (k, a_vm ρ v) :: a_lv ρ (k + 1 + 1) (a_ent as ++ List.replicate m none) = _
      rw [a_lv_ent ρ m as (k + 1 + 1)]
    · rw [if_neg hc, if_neg hc]
      show (k, a_vm ρ v) :: a_lv ρ (k + 1) (a_ent as ++ List.replicate m none) = _
      rw [a_lv_ent ρ m as (k + 1)]
theorem a_ent_len (ρ : Nat → Nat) : ∀ (as : List Value), (lg_sl (as.map (a_vm ρ))).length = (a_ent as).length
  | [] => rfl
  | v :: as => by
    have ih := a_ent_len ρ as
    have e1 : lg_sl ((v :: as).map (a_vm ρ)) = (if (a_vm ρ v).category = 2 then [Slot.val (a_vm ρ v), .second] else [.val (a_vm ρ v)]) ++ lg_sl (as.map (a_vm ρ)) := by
      simp [lg_sl]
    rw [e1, a_vm_cat]
    show _ = (if v.category = 2 then some v :: none :: a_ent as else some v :: a_ent as).length
    by_cases hc : v.category = 2
    · rw [if_pos hc, if_pos hc]; simp [ih]
    · rw [if_neg hc, if_neg hc]; simp [ih]
theorem a_bdl_ent {n : Nat} : ∀ {as : List Value}, a_bds n as → a_bdl n (a_ent as)
  | [], _ => fun v hv => by cases hv
  | w :: as, h => by
    have ih := a_bdl_ent (a_bds_cons.mp h).2
    have hw := (a_bds_cons.mp h).1
    intro v hv
    have hv : some v ∈ (if w.category = 2 then some w :: none :: a_ent as else some w :: a_ent as) := hv
    split at hv
    · rcases List.mem_cons.mp hv with z | z
      · cases z; exact hw
      · rcases List.mem_cons.mp z with z | z
        · cases z
        · exact ih v z
    · rcases List.mem_cons.mp hv with z | z
      · cases z; exact hw
      · exact ih v z
theorem a_bdl_pad {n m : Nat} {L : List (Option Value)} (h : a_bdl n L) : a_bdl n (a_pad m L) := fun v hv => by
  rcases List.mem_append.mp hv with z | z
  · exact h v z
  · have := (List.mem_replicate.mp z).2; cases this
/-- all that is asked of the table, the given members and the fixed things -/
def a_sys (l : Launch) (F : aFix) (M : aTab) (pr : aPr) (b : Nat) (P : aCall) : Prop :=
  (∀ k k9, M k = some k9 → a_mok k9 ∧ a_codeok M F pr k9 ∧ a_hhok F k9) ∧ a_ncok F ∧ a_fix F ∧ l.stackTraces = false ∧ a_gcall P ∧ a_prok l F pr b P ∧ (∀ k as σ res σ', P k as σ = some (res, σ') → ∃ v, res = .inl v) ∧ ∀ k k9 as σ, M k = some k9 → P k as σ = none
theorem a_entry {ρ : Nat → Nat} {as : List Value} {n : Nat} (hlen : (a_ent as).length ≤ n) : a_lo ρ (a_pad n (a_ent as)) n ((lg_sl (as.map (a_vm ρ)) ++ List.replicate (n - (lg_sl (as.map (a_vm ρ))).length) Slot.unset).toArray) := by
  refine ⟨by unfold a_pad; simp; omega, ?_⟩
  unfold a_pad
  rw [a_lv_ent]
  exact lv_entry _ (by rw [a_ent_len]; exact hlen)
theorem a_meth_snd {l : Launch} {F : aFix} {M : aTab} {pr : aPr} {P : aCall} {call : aCall} {d n b9 : Nat} {m9 : aMeth} {as : List Value} {σ σf : aSt} {res : aRes} (hbd : b9 ≤ d) (S : a_sys l F M pr b9 P) (hok : a_mok m9) (hc : a_codeok M F pr m9) (hh : a_hhok F m9) (hg : a_gcall call) (hcallP : ∀ k as σ, M k = none → call k as σ = P k as σ)
    (hcallM : ∀ k k9 as σ res σ', M k = some k9 → call k as σ = some (res, σ') → a_bds (a_n σ) as → a_bdR σ → a_met l F k9 d as σ res σ') (hlen : (a_ent as).length ≤ m_L m9) (hbs : a_bds (a_n σ) as) (hR : a_bdR σ)
    (hrun : a_runN call (m_code m9) (m_hh m9) n (0, a_pad (m_L m9) (a_ent as), [], σ) = some (res, σf)) : a_met l F m9 (d + 1) as σ res σf := by
  intro ρ
  obtain ⟨S1, hn, hF, hl, S4, S5, S6, S7⟩ := S
  obtain ⟨ok1, ok2, ok3, ok4, ok5, ok6⟩ := hok
  have hb : a_bdc (0, a_pad (m_L m9) (a_ent as), [], σ) := ⟨a_bdl_pad (a_bdl_ent hbs), a_bds_nil _, hR⟩
  obtain ⟨⟨l1, l2, l3⟩, -, -⟩ := a_runN_good hc hg n _ res σf hrun hb
  have l2 : a_uc σ ≤ a_uc σf := l2
  have l3 : a_us σ ≤ a_us σf := l3
  have body : ∀ (p : Program) (e : Env) (s : State) (m : MethodId) (args : Array Value) (below : List Frame) (meth : Method) (c : Code), p.tables.exec = Jvm.exec → c.code = m_cc m9 → meth.sig.returnType = m_ret m9 → (∀ w ∈ a_mws m9, w.before args s = true) → s.vm.findClass (m_y m9).cls = some m.cls → meth.locks = false → meth.name = (m_y m9).name → c.maxLocals = m_L m9 → c.exceptionTable.toList = tableOf (a_hr m9) → a_Pc F ρ as σ args s →
      W p l e (a_room (d + 1) (a_uc σf - a_uc σ) (a_us σf - a_us σ)) s m args below meth c s.heap [] 0 0 (vx_MQ below (a_Qc F ρ σ res σf) (a_Xc F ρ σ res σf) args s (a_uc σf - a_uc σ) (a_us σf - a_us σ) (f_A F)) (entryFrame m args (m_L m9)) := by
    intro p e s m args below meth c hx hcode hret hts hown hlk hnm hml htab hpc
    obtain ⟨rfl, hE, hp⟩ := hpc
    have C : a_ctx p l (a_room (d + 1) (a_uc σf - a_uc σ) (a_us σf - a_us σ)) s m (as.map (a_vm ρ)).toArray meth c (m_cc m9) (m_L m9) (m_own m9) (m_ini m9) F :=
      ⟨hx, hcode, hml, by rw [ok5]; exact hown, fun w hw => hts w (List.mem_cons_of_mem _ hw), hE, fun q hq => hF.2.2.1 s s.heap hE.2.2.2.2.2.2.2 q hq, hlk, hl, fun hi => by rw [hnm]; exact of_decide_eq_true hi, (fun x hx => by omega : ∀ x : Nat, x = d + 1 + 16 → 16 ≤ x) _ (a_room_f _ _ _), (fun x hx => by omega : ∀ x : Nat, x = 60 * (d + 1) + 300 → 300 ≤ x) _ (a_room_l _ _ _), hF⟩
    rw [lg_entry_eq]
    have hs := a_run_snd (below := below) (e := e) (n0 := a_n σ) (u0 := a_uc σ) (v0 := a_us σ) (ρ1 := ρ) (Q := vx_MQ below (a_Qc F ρ σ res σf) (a_Xc F ρ σ res σf) (as.map (a_vm ρ)).toArray s (a_uc σf - a_uc σ) (a_us σf - a_us σ) (f_A F)) C hc hg S5 ((fun x hx => by omega : ∀ x : Nat, x = d + 1 + 16 → b9 + 17 ≤ x) _ (a_room_f _ _ _)) ((fun x hx => by omega : ∀ x : Nat, x = 60 * (d + 1) + 300 → 60 * b9 + 360 ≤ x) _ (a_room_l _ _ _)) S6 hcallP hcallM ((fun x hx => by omega : ∀ x : Nat, x = d + 1 + 16 → d + 17 ≤ x) _ (a_room_f _ _ _)) ((fun x hx => by omega : ∀ x : Nat, x = 60 * (d + 1) + 300 → 60 * d + 360 ≤ x) _ (a_room_l _ _ _)) ⟨by show _ ≤ a_uc σ + (a_uc σf - a_uc σ); omega, by show _ ≤ a_us σ + (a_us σf - a_us σ); omega⟩
        (fun pc L st σ9 i len r z tgt w1 w2 w3 hex => a_end C htab hret w1 w2 w3 hex ⟨by show _ ≤ a_uc σ + (a_uc σf - a_uc σ); omega, by show _ ≤ a_us σ + (a_us σf - a_us σ); omega⟩ rfl rfl)
        (fun pc L rest σ9 x h9 hx9 K => a_catch C htab hh hn hx9 K)
        (fun pc L rest x hx9 hres => a_out C htab hh hn hx9 hres rfl rfl) n _ hrun hb
    exact hs ρ s.heap [] 0 0 _ ⟨hp, hb, a_entry hlen, va_S.rf, fun _ _ => rfl, Nat.le_refl _, rfl, rfl⟩
  by_cases h0 : m_hh m9 = []
  · refine vx_ofW (cc := m_cc m9) (maxL := m_L m9) (ret := m_ret m9) ok2 (a_cword0 h0) ?_
    intro p e s m args below meth c s₁ B hml htab hpc
    refine body p e s m args below meth c B.exec B.bytes B.returns (atoms_spec (ws := a_mws m9) B.pre) (findClass_of_methodNamed B.named) B.notSynchronized (name_of_methodNamed B.named B.method).1 hml ?_ hpc
    rw [a_table, h0]
    exact List.eq_nil_iff_forall_not_mem.mpr htab
  · refine vx_ofWH (cc := m_cc m9) (maxL := m_L m9) (ret := m_ret m9) (hh := a_hr m9) ok2 (a_cword1 h0) ?_
    intro p e s m args below meth c s₁ B hml hpc
    have hts := atoms_spec (ws := a_mws m9) B.pre
    refine body p e s m args below meth c B.exec B.bytes B.returns hts (findClass_of_methodNamed B.named) B.notSynchronized (name_of_methodNamed B.named B.method).1 hml ?_ hpc
    exact vx_table (x := m_y m9) (y := m_y m9) (bytes := m_cc m9) (maxL' := m_L m9) (ret' := m_ret m9) B (hts _ (by rw [a_cword1 h0]; exact List.mem_cons_self))

/-- every call of the abstract machine is a call of the machine -/
theorem a_call_snd {l : Launch} {F : aFix} {M : aTab} {pr : aPr} {P : aCall} {b9 : Nat} (S : a_sys l F M pr b9 P) : ∀ d : Nat, a_gcall (a_call M P d) ∧ ∀ k k9 as σ res σ', M k = some k9 → a_call M P d k as σ = some (res, σ') → a_bds (a_n σ) as → a_bdR σ → a_met l F k9 (b9 + d) as σ res σ'
  | 0 => ⟨S.2.2.2.2.1, fun k k9 as σ res σ' hk h _ _ => by
    have h : P k as σ = some (res, σ') := h
    rw [S.2.2.2.2.2.2.2 k k9 as σ hk] at h
    cases h⟩
  | d + 1 => by
    obtain ⟨I1, I2⟩ := a_call_snd S d
    have hP : ∀ k as σ, M k = none → a_call M P d k as σ = P k as σ := fun k as σ hk => by
      cases d with
      | zero => rfl
      | succ d => unfold a_call; rw [hk]
    have key : ∀ k k9 as σ res σ', M k = some k9 → a_call M P (d + 1) k as σ = some (res, σ') → (a_ent as).length ≤ m_L k9 ∧ ∃ n, a_runN (a_call M P d) (m_code k9) (m_hh k9) n (0, a_pad (m_L k9) (a_ent as), [], σ) = some (res, σ') := by
      intro k k9 as σ res σ' hk h
      unfold a_call at h
      rw [hk] at h
      have h : (if (a_ent as).length ≤ m_L k9 then a_lim (fun n => a_runN (a_call M P d) (m_code k9) (m_hh k9) n (0, a_pad (m_L k9) (a_ent as), [], σ)) else none) = some (res, σ') := h
      split at h
      · rename_i hl
        exact ⟨hl, a_lim_spec h⟩
      · cases h
    refine ⟨fun k as σ res σ' h hbs hR => ?_, fun k k9 as σ res σ' hk h hbs hR => ?_⟩
    · cases hk : M k with
      | none =>
        have h2 : P k as σ = some (res, σ') := by
          unfold a_call at h
          rw [hk] at h
          exact h
        exact S.2.2.2.2.1 _ _ _ _ _ h2 hbs hR
      | some k9 =>
        obtain ⟨hl, n, hn⟩ := key k k9 as σ res σ' hk h
        exact a_runN_good (S.1 k k9 hk).2.1 I1 n _ res σ' hn ⟨a_bdl_pad (a_bdl_ent hbs), a_bds_nil _, hR⟩
    · obtain ⟨hl, n, hn⟩ := key k k9 as σ res σ' hk h
      obtain ⟨c1, c2, c3⟩ := S.1 k k9 hk
      exact a_meth_snd (Nat.le_add_right b9 d) S c1 c2 c3 I1 hP I2 hl hbs hR hn
