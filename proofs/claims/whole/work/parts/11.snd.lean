/-! A METHOD'S RUN: what the abstract run comes to, the machine comes to. -/
def a_wfR (m9 : aMeth) (i : Instr) (r : aRef) : Prop := match i with
  | .ireturn => (r.1 = 0 ∧ m_ret m9 = some .int) ∨ (r.1 = 1 ∧ (m_ret m9 = some .boolean ∨ m_ret m9 = some .byte)) ∨ (r.1 = 2 ∧ m_ret m9 = some .char)
  | .lreturn => m_ret m9 = some .long
  | .dreturn => m_ret m9 = some .double
  | .freturn => m_ret m9 = some .float
  | .areturn => ∃ ty, m_ret m9 = some ty ∧ a_isref ty
  | .return_ => m_ret m9 = none
  | _ => True
/-- the making and throwing of an exception: new, dup, ldc, its constructor, athrow -/
def a_wfT (F : aFix) (m9 : aMeth) (pc ix : Nat) (r : aRef) : Prop := m_hh m9 = [] ∧ ∃ (is ic id : Nat) (tx : String) (names : List String), (m_own m9, is, id, tx) ∈ f_T F ∧ Bundle.fit (a_exn r.1) = true ∧ (∀ n ∈ names, Bundle.fit n = true) ∧ names.length ≤ 4 ∧
  Jvm.Cond.classLink (m_own m9) ix (a_exn r.1) ∈ am_ws ∧ Jvm.Cond.initialized (a_exn r.1) ∈ am_ws ∧ (∀ (U : State) (H : Heap) (av : Array Value), f_X F U H → (∀ w ∈ am_ws, w.before av U = true) → ∀ w ∈ vx_atS (m_own m9) ic (a_exn r.1) names, w.before av U = true) ∧
  (∀ w ∈ Jvm.Cond.classLink (m_own m9) ix (a_exn r.1) :: Jvm.Cond.initialized (a_exn r.1) :: vx_atS (m_own m9) ic (a_exn r.1) names, vx_ot w = true) ∧
  decode (m_cc m9) (pc + 3) = .ok (.dup, 1) ∧ ((decode (m_cc m9) (pc + 4) = .ok (.ldc is, 2) ∧ decode (m_cc m9) (pc + 6) = .ok (.invokespecial ic, 3) ∧ decode (m_cc m9) (pc + 9) = .ok (.athrow, 1)) ∨ (decode (m_cc m9) (pc + 4) = .ok (.ldc_w is, 3) ∧ decode (m_cc m9) (pc + 7) = .ok (.invokespecial ic, 3) ∧ decode (m_cc m9) (pc + 10) = .ok (.athrow, 1)))
abbrev aPr : Type := String → Instr → Nat → Nat → Prop
/-- calls, returns, throws -/
def a_wfC (M : aTab) (F : aFix) (pr : aPr) (m9 : aMeth) (pc : Nat) (i : Instr) (r : aRef) : Prop := match i with
  | .invokevirtual ix => (r.2.2 ≠ 0 ∧ ∃ k9, M r.1 = some k9 ∧ a_wfV (m_own m9) ix r k9) ∨ (r.2.2 = 0 ∧ M r.1 = none ∧ pr (m_own m9) i r.1 r.2.1)
  | .invokestatic ix => (∃ k9, M r.1 = some k9 ∧ a_wfS F (m_own m9) ix r k9) ∨ (M r.1 = none ∧ pr (m_own m9) i r.1 r.2.1)
  | .invokespecial ix => r.2.2 ≠ 0 → (∃ k9, M r.1 = some k9 ∧ ((r.2.2 < 10 ∧ a_wfI (m_own m9) ix r k9) ∨ (10 ≤ r.2.2 ∧ a_wfU (m_own m9) ix r k9))) ∨ (M r.1 = none ∧ pr (m_own m9) i r.1 r.2.1)
  | .new ix => r.2.2 ≠ 0 → a_wfT F m9 pc ix r
  | _ => a_wfR m9 i r
def a_codeok (M : aTab) (F : aFix) (pr : aPr) (m9 : aMeth) : Prop := ∀ pc o, (m_code m9).lookup pc = some o → decode (m_cc m9) pc = .ok (o.1, o.2.1) ∧ a_wf F (m_own m9) (m_ini m9) pc o.1 o.2.1 o.2.2.1 o.2.2.2.1 o.2.2.2.2 ∧ a_wfC M F pr m9 pc o.1 o.2.2.1 ∧ (∀ ix, (o.1 = .ldc ix ∨ o.1 = .ldc_w ix) → o.2.2.1.1 = 0 ∨ o.2.2.1.2.1 < 100)
def a_hhok (F : aFix) (m9 : aMeth) : Prop := ∀ q, q ∈ m_hh m9 → q.2.2.2.2 ≠ 0 ∧ Jvm.Cond.classLink (m_own m9) q.2.2.2.2 (a_exn q.2.2.2.1) ∈ am_ws ∧ Jvm.Cond.castable (a_exn q.2.2.2.1) (a_exn q.2.2.2.1) ∈ f_N F
/-- the other exception is not caught -/
def a_ncok (F : aFix) : Prop := ∀ (U : State) (H : Heap), f_X F U H → va_Nc (a_exn 0) (a_exn 1) U ∧ va_Nc (a_exn 1) (a_exn 0) U
def a_gcall (call : aCall) : Prop := ∀ k as σ res σ', call k as σ = some (res, σ') → a_bds (a_n σ) as → a_bdR σ → a_le σ σ' ∧ a_bdR σ' ∧ ∀ v, res = .inl (some v) → a_bd (a_n σ') v
/-- the given members do what they are said to do -/
def a_prok (l : Launch) (F : aFix) (pr : aPr) (b : Nat) (P : aCall) : Prop := ∀ {p : Program} {e : Env} {R : Room} {s : State} {m : MethodId} {args : Array Value} {below : List Frame} {meth : Method} {c : Code} {Q : State → Prop} {cc : ByteArray} {nL n0 u0 v0 : Nat} {own : String} {ini : Bool} {ρ1 : Nat → Nat} {pc : Nat} {L : List (Option Value)} {st : List Value} {σ σ' : aSt} {i : Instr} {k n : Nat} {v : Option Value},
  a_ctx p l R s m args meth c cc nL own ini F → b + 17 ≤ R.frames → 60 * b + 360 ≤ R.locals → decode cc pc = .ok (i, 3) → pr own i k n → n ≤ st.length → ((st.drop n).map fun v => v.category).sum ≤ 8 → P k (st.take n).reverse σ = some (.inl v, σ') → a_bds (a_n σ) st → a_bdl (a_n σ) L → a_bdR σ → a_uc σ' ≤ u0 + R.cells ∧ a_us σ' ≤ v0 + R.slots →
  a_W p l e R s m args below meth c Q nL n0 u0 v0 F ρ1 (pc + 3, L, v.toList ++ st.drop n, σ') → a_W p l e R s m args below meth c Q nL n0 u0 v0 F ρ1 (pc, L, st, σ)
theorem a_step_good {M : aTab} {F : aFix} {pr : aPr} {m9 : aMeth} (hc : a_codeok M F pr m9) {c : aCfg} (hb : a_bdc c) : a_good c.2.2.2 (a_step (m_code m9) c) := by
  unfold a_step
  split
  · trivial
  · rename_i i len r z tgt ho
    exact a_exec_good hb (hc c.1 _ ho).2.2.2
theorem a_name_bd {σ : aSt} (h : a_bdR σ) : a_bdR (a_name σ) := ⟨Nat.le_succ_of_le h.1, fun a k x hx => Nat.lt_succ_of_lt (h.2 a k x hx)⟩
theorem a_le_name (σ : aSt) : a_le σ (a_name σ) := ⟨Nat.le_succ _, Nat.le_refl _, Nat.le_refl _⟩
theorem a_runN_good {M : aTab} {F : aFix} {pr : aPr} {m9 : aMeth} {call : aCall} (hc : a_codeok M F pr m9) (hg : a_gcall call) : ∀ (n : Nat) (c : aCfg) (res : aRes) (σf : aSt), a_runN call (m_code m9) (m_hh m9) n c = some (res, σf) → a_bdc c → a_le c.2.2.2 σf ∧ a_bdR σf ∧ ∀ v, res = .inl (some v) → a_bd (a_n σf) v
  | 0, c, res, σf, h, _ => by cases h
  | n + 1, c, res, σf, h, hb => by
    have hs := a_step_good hc hb
    unfold a_runN at h
    split at h
    · cases h
    · rename_i c' e1
      rw [e1] at hs
      obtain ⟨g1, g2, g3⟩ := a_runN_good hc hg n c' res σf h hs.1
      exact ⟨hs.2.trans g1, g2, g3⟩
    · rename_i r σ' e1
      rw [e1] at hs
      cases h
      exact ⟨hs.2.1, hs.1, hs.2.2⟩
    · rename_i k as pc L st σ e1
      rw [e1] at hs
      obtain ⟨g1, g2, g3⟩ := hs
      have g2 : σ = c.2.2.2 := g2
      subst g2
      split at h
      · cases h
      · rename_i v σ' e2
        obtain ⟨l1, l2, l3⟩ := hg _ _ _ _ _ e2 g3 g1.2.2
        obtain ⟨k1, k2, k3⟩ := a_runN_good hc hg n _ res σf h ⟨g1.1.mono l1.1, a_bds_app (fun w hw => l3 w (by rw [hw])) (g1.2.1.mono l1.1), l2⟩
        exact ⟨l1.trans k1, k2, k3⟩
      · rename_i x σ' e2
        obtain ⟨l1, l2, l3⟩ := hg _ _ _ _ _ e2 g3 g1.2.2
        split at h
        · rename_i h9 e3
          obtain ⟨k1, k2, k3⟩ := a_runN_good hc hg n _ res σf h ⟨g1.1.mono (Nat.le_succ_of_le l1.1), a_bds_cons.mpr ⟨Nat.lt_succ_self _, a_bds_nil _⟩, a_name_bd l2⟩
          exact ⟨(l1.trans (a_le_name σ')).trans k1, k2, k3⟩
        · cases h
          exact ⟨l1, l2, fun v hv => by cases hv⟩
