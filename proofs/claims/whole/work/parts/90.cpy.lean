/-! the given members: copying between arrays of ints (or of bytes) -/
theorem pw_8 : Jvm.Cond.native arraycopyName ∈ am_ws := am_in (by decide +kernel) rfl
theorem pw_9 : Jvm.Cond.static arraycopyName ∈ am_ws := am_in (by decide +kernel) rfl
theorem pw_10 : Jvm.Cond.initialized "java/lang/System" ∈ am_ws := am_in (by decide +kernel) rfl
theorem z_nn (z : Int32) (hz : ¬ z < 0) : z.toInt = (z.toNatClampNeg : Int) := by
  have hz0 : (0 : Int) ≤ z.toInt := by
    have := Int32.not_lt.mp hz
    simpa using Int32.le_iff_toInt_le.mp this
  show z.toInt = ((z.toInt.toNat : Nat) : Int)
  omega
/-- a part of an array into another -/
def a_cpx (σ : aSt) (a b sp dp n : Nat) : aSt := (σ.1, fun c j => if c = b then va_cpy (fun j => σ.2.1 a j) (fun j => σ.2.1 b j) sp dp n j else σ.2.1 c j, σ.2.2)
section CPY
variable {p : Program} {l : Launch} {e : Env} {R : Room} {s : State} {m : MethodId} {args : Array Value} {below : List Frame} {meth : Method} {c : Code} {Q : State → Prop} {cc : ByteArray} {nL n0 u0 v0 : Nat} {own : String} {ini : Bool} {F : aFix} {ρ1 : Nat → Nat}
variable {pc ix : Nat} {L : List (Option Value)} {st : List Value} {σ : aSt}
theorem as_cpy {a b kd : Nat} {ty : FieldType} {sp dp n : Int32} (C : a_ctx p l R s m args meth c cc nL own ini F) (hd : decode cc pc = .ok (.invokestatic ix, 3)) (hl : Jvm.Cond.methodLink own ix arraycopyName ∈ am_ws) (hsum : (st.map fun v => v.category).sum ≤ 8) (hkd : (kd = 1 ∧ ty = .int) ∨ (kd = 7 ∧ ty = .byte)) (h0 : a_kd σ a = kd) (h1 : a_kd σ b = kd)
    (k1 : ¬ sp < 0) (k2 : ¬ dp < 0) (k3 : ¬ n < 0) (k4 : sp.toNatClampNeg + n.toNatClampNeg ≤ a_ln σ a) (k5 : dp.toNatClampNeg + n.toNatClampNeg ≤ a_ln σ b) (hfit : ∀ i, i < n.toNatClampNeg → fits ty (.int (a_I σ a (sp.toNatClampNeg + i))) = true)
    (hg : a_bdc (pc + 3, L, st, a_cpx σ a b sp.toNatClampNeg dp.toNatClampNeg n.toNatClampNeg))
    (K : a_W p l e R s m args below meth c Q nL n0 u0 v0 F ρ1 (pc + 3, L, st, a_cpx σ a b sp.toNatClampNeg dp.toNatClampNeg n.toNatClampNeg)) : a_W p l e R s m args below meth c Q nL n0 u0 v0 F ρ1 (pc, L, .int n :: .int dp :: .ref b :: .int sp :: .ref a :: st, σ) := by
  intro ρ H locs cells slots ls h T hT X
  have hh : a_hp F ρ σ H := h.1
  have hS : va_S (f_A F) s.heap H locs := h.2.2.2.1
  obtain ⟨hx, hb, hml, hown, hts, hE, hA, -, -, -, hf, hlc, -⟩ := C
  have haty : a_aty kd = some ty := by rcases hkd with ⟨rfl, rfl⟩ | ⟨rfl, rfl⟩ <;> rfl
  have hprim : refKind ty = false := by rcases hkd with ⟨rfl, rfl⟩ | ⟨rfl, rfl⟩ <;> rfl
  have hk0 : kd ≠ 0 ∧ kd ≠ 5 ∧ kd ≠ 6 ∧ kd < 10 ∧ kd ≠ 2 ∧ kd ≠ 3 ∧ kd ≠ 4 := by omega
  have ha : 100 ≤ a := a_100 hh (by omega) (by omega) (by omega)
  have hb1 : 100 ≤ b := a_100 hh (by omega) (by omega) (by omega)
  obtain ⟨-, -, ga⟩ := hh.2.2.2.2.1 a ha (by omega)
  obtain ⟨gb1, gb2, gb⟩ := hh.2.2.2.2.1 b hb1 (by omega)
  have hc0 := ga.1 (by omega)
  have hc1 := gb.1 (by omega)
  rw [h0] at hc0
  rw [h1] at hc1
  obtain ⟨hAr, -⟩ := hE.2.1 kd ty haty
  obtain ⟨-, ka, hk0, cm0, hkk0⟩ := hAr (a_ln σ a) (fun j => .int (a_I σ a j))
  obtain ⟨-, kb, hk1, cm1, hkk1⟩ := hAr (a_ln σ b) (fun j => .int (a_I σ b j))
  obtain ⟨vm', X', step⟩ := X.arraycopy hx hown (hts _ hl) (hts _ pw_8) (hts _ pw_9) (hts _ pw_10) (src := ρ a) (dst := ρ b) (cs := arrV (f_t F kd) (a_ln σ a) (fun j => .int (a_I σ a j))) (cd := arrV (f_t F kd) (a_ln σ b) (fun j => .int (a_I σ b j))) (srcPos := sp) (destPos := dp) (n := n) (by rw [hT]; exact hc0) (by rw [hT]; exact hc1)
    (fun _ h => by cases h) (fun _ h => by cases h) (fun h => by cases h) (fun h => by cases h) hk0 hk1 hkk0 hkk1 (by simp [hprim]) k1 k2 k3
    (by rw [z_nn sp k1, z_nn n k3]; show ¬ _ > ((arrV (f_t F kd) (a_ln σ a) (fun j => .int (a_I σ a j))).slots.size : Int); rw [arrV_size]; omega)
    (by rw [z_nn dp k2, z_nn n k3]; show ¬ _ > ((arrV (f_t F kd) (a_ln σ b) (fun j => .int (a_I σ b j))).slots.size : Int); rw [arrV_size]; omega)
    (fun vm₁ _ i hi => by
      have e : (arrV (f_t F kd) (a_ln σ a) (fun j => .int (a_I σ a j))).slots.getD (sp.toNatClampNeg + i) .null = .int (a_I σ a (sp.toNatClampNeg + i)) := by
        rw [Array.getD_eq_getD_getElem?, arrV_read _ _ (by omega)]
        rfl
      refine ⟨?_, ?_⟩
      · rw [e]
        exact hfit i hi
      · rw [e]
        exact trivial)
    (g := F0 m pc ls (.int n :: .int dp :: .ref (ρ b) :: .int sp :: .ref (ρ a) :: st.map (a_vm ρ))) rfl (by show ls.size = c.maxLocals; rw [hml]; first | exact h.2.2.1.2.1 | exact h.2.2.1.2.1.symm) (rest := st.map (a_vm ρ)) rfl (by rw [hb]; exact hd) (by omega) (by
      have q : nativeFrameWords "java/lang/System" "arraycopy" 5 + 11 ≤ 60 := by decide
      show 2 * 0 + _ + _ ≤ _
      rw [a_vm_sum]
      omega)
  have e1 : copied (arrV (f_t F kd) (a_ln σ a) (fun j => .int (a_I σ a j))) (arrV (f_t F kd) (a_ln σ b) (fun j => .int (a_I σ b j))) sp dp n = arrV (f_t F kd) (a_ln σ b) (fun j => .int (va_cpy (fun j => a_I σ a j) (fun j => a_I σ b j) sp.toNatClampNeg dp.toNatClampNeg n.toNatClampNeg j)) := va_copied (fun z => .int z) (f_t F kd) (f_t F kd) (fun j => a_I σ a j) (fun j => a_I σ b j) k4
  rw [e1] at X' step
  have hheap : ((T.setVm vm').setCell (ρ b) (arrV (f_t F kd) (a_ln σ b) (fun j => .int (va_cpy (fun j => a_I σ a j) (fun j => a_I σ b j) sp.toNatClampNeg dp.toNatClampNeg n.toNatClampNeg j)))).heap = H.setIfInBounds (ρ b) (arrV (f_t F kd) (a_ln σ b) (fun j => .int (va_cpy (fun j => a_I σ a j) (fun j => a_I σ b j) sp.toNatClampNeg dp.toNatClampNeg n.toNatClampNeg j))) := by rw [← hT]; rfl
  have oq : ∀ q : Nat, q ≠ ρ b → (H.setIfInBounds (ρ b) (arrV (f_t F kd) (a_ln σ b) (fun j => .int (va_cpy (fun j => a_I σ a j) (fun j => a_I σ b j) sp.toNatClampNeg dp.toNatClampNeg n.toNatClampNeg j))))[q]? = H[q]? := fun q hq => by simp [Array.getElem?_setIfInBounds, Ne.symm hq]
  have hat : (H.setIfInBounds (ρ b) (arrV (f_t F kd) (a_ln σ b) (fun j => .int (va_cpy (fun j => a_I σ a j) (fun j => a_I σ b j) sp.toNatClampNeg dp.toNatClampNeg n.toNatClampNeg j))))[ρ b]? = some (arrV (f_t F kd) (a_ln σ b) (fun j => .int (va_cpy (fun j => a_I σ a j) (fun j => a_I σ b j) sp.toNatClampNeg dp.toNatClampNeg n.toNatClampNeg j))) := by simp [Array.getElem?_setIfInBounds, gb2]
  have hhp : a_hp F ρ (a_cpx σ a b sp.toNatClampNeg dp.toNatClampNeg n.toNatClampNeg) (H.setIfInBounds (ρ b) (arrV (f_t F kd) (a_ln σ b) (fun j => .int (va_cpy (fun j => a_I σ a j) (fun j => a_I σ b j) sp.toNatClampNeg dp.toNatClampNeg n.toNatClampNeg j)))) := by
    refine a_hp_upd hh hb1 (by omega) rfl rfl (fun i k hi => if_neg hi) (fun i k _ => rfl) (fun i k _ => rfl) (by simp) oq ?_
    have ek : a_kd (a_cpx σ a b sp.toNatClampNeg dp.toNatClampNeg n.toNatClampNeg) b = kd := h1
    refine ⟨fun _ => ?_, fun z => by omega, fun z => by omega, fun z => by omega⟩
    rw [ek, hat]
    exact congrArg some (congrArg (arrV _ _) (funext fun j => congrArg Value.int (if_pos rfl).symm))
  obtain ⟨t, a1, b1⟩ := K ρ _ _ cells slots ls ⟨hhp, hg, h.2.2.1, ⟨by simp; exact hS.1, fun q g1 g2 => by
      rw [oq q (fun e => g2 (by rw [e]; exact gb1))]
      exact hS.2.1 q g1 g2, fun q hq => by
      rcases List.mem_append.mp hq with h | h
      · exact hS.2.2 q h
      · obtain ⟨z, -, hz⟩ := List.mem_map.mp h
        rw [← hz]
        exact gb1⟩, h.2.2.2.2⟩ _ hheap X'
  exact ⟨t, step t a1, b1⟩
end CPY
