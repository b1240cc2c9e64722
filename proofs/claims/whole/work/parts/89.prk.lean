/-! the given members: the least, the greatest, copying -/
theorem mn_i {x y : Int32} : (if y < x then y else x) = if x ≤ y then x else y := by
  by_cases h : x ≤ y
  · rw [if_pos h, if_neg (Int32.not_lt.mpr h)]
  · rw [if_neg h, if_pos (Int32.not_le.mp h)]
theorem mx_i {x y : Int32} : (if x < y then y else x) = if y ≤ x then x else y := by
  by_cases h : y ≤ x
  · rw [if_pos h, if_neg (Int32.not_lt.mpr h)]
  · rw [if_neg h, if_pos (Int32.not_le.mp h)]
theorem mn_l {x y : Int64} : (if y < x then y else x) = if x ≤ y then x else y := by
  by_cases h : x ≤ y
  · rw [if_pos h, if_neg (Int64.not_lt.mpr h)]
  · rw [if_neg h, if_pos (Int64.not_le.mp h)]
theorem pw_1 : Jvm.Cond.static Lib.Math.min.name ∈ am_ws := am_in (by decide +kernel) rfl
theorem pw_2 : Jvm.Cond.initialized "java/lang/Math" ∈ am_ws := am_in (by decide +kernel) rfl
theorem pw_3 : Jvm.Cond.code Lib.Math.min.name Lib.Math.min.code 2 (some .int) ∈ am_ws := am_in (by decide +kernel) rfl
theorem pw_4 : Jvm.Cond.static Lib.Math.max.name ∈ am_ws := am_in (by decide +kernel) rfl
theorem pw_5 : Jvm.Cond.code Lib.Math.max.name Lib.Math.max.code 2 (some .int) ∈ am_ws := am_in (by decide +kernel) rfl
theorem pw_6 : Jvm.Cond.static Lib.MathLoose.min_long.x ∈ am_ws := am_in (by decide +kernel) rfl
theorem pw_7 : Jvm.Cond.code Lib.MathLoose.min_long.x Lib.MathLoose.min_long.code 4 (some .long) ∈ am_ws := am_in (by decide +kernel) rfl
section PRK
variable {p : Program} {l : Launch} {e : Env} {R : Room} {s : State} {m : MethodId} {args : Array Value} {below : List Frame} {meth : Method} {c : Code} {Q : State → Prop} {cc : ByteArray} {nL n0 u0 v0 : Nat} {own : String} {ini : Bool} {F : aFix} {ρ1 : Nat → Nat}
variable {pc ix : Nat} {L : List (Option Value)} {st : List Value} {σ : aSt}
theorem as_min {x y : Int32} (C : a_ctx p l R s m args meth c cc nL own ini F) (hd : decode cc pc = .ok (.invokestatic ix, 3)) (hl : Jvm.Cond.methodLink own ix Lib.Math.min.name ∈ am_ws) (hsum : (st.map fun v => v.category).sum ≤ 8) (hu : a_uc σ ≤ u0 + R.cells ∧ a_us σ ≤ v0 + R.slots) (hg : a_bdc (pc + 3, L, .int (if x ≤ y then x else y) :: st, σ))
    (K : a_W p l e R s m args below meth c Q nL n0 u0 v0 F ρ1 (pc + 3, L, .int (if x ≤ y then x else y) :: st, σ)) : a_W p l e R s m args below meth c Q nL n0 u0 v0 F ρ1 (pc, L, .int y :: .int x :: st, σ) := by
  intro ρ H locs cells slots ls h
  have g7 : a_uc σ = u0 + cells := h.2.2.2.2.2.2.1
  have g8 : a_us σ = v0 + slots := h.2.2.2.2.2.2.2
  obtain ⟨hx, hb, hml, hown, hts, hE, hA, -, -, -, hf, hlc, -⟩ := C
  have K' := K ρ H locs cells slots ls (a_at_go h hg)
  rw [← mn_i] at K'
  exact va_mmin hx hb (by rw [hml]; first | exact h.2.2.1.2.1 | exact h.2.2.1.2.1.symm) hown (hts _ hl) (hts _ pw_1) (hts _ pw_2) (hts _ pw_3) (by omega) (by rw [a_vm_sum]; omega) (by omega) (by omega) hd K'
theorem as_max {x y : Int32} (C : a_ctx p l R s m args meth c cc nL own ini F) (hd : decode cc pc = .ok (.invokestatic ix, 3)) (hl : Jvm.Cond.methodLink own ix Lib.Math.max.name ∈ am_ws) (hsum : (st.map fun v => v.category).sum ≤ 8) (hu : a_uc σ ≤ u0 + R.cells ∧ a_us σ ≤ v0 + R.slots) (hg : a_bdc (pc + 3, L, .int (if y ≤ x then x else y) :: st, σ))
    (K : a_W p l e R s m args below meth c Q nL n0 u0 v0 F ρ1 (pc + 3, L, .int (if y ≤ x then x else y) :: st, σ)) : a_W p l e R s m args below meth c Q nL n0 u0 v0 F ρ1 (pc, L, .int y :: .int x :: st, σ) := by
  intro ρ H locs cells slots ls h
  have g7 : a_uc σ = u0 + cells := h.2.2.2.2.2.2.1
  have g8 : a_us σ = v0 + slots := h.2.2.2.2.2.2.2
  obtain ⟨hx, hb, hml, hown, hts, hE, hA, -, -, -, hf, hlc, -⟩ := C
  have K' := K ρ H locs cells slots ls (a_at_go h hg)
  rw [← mx_i] at K'
  exact va_mmax hx hb (by rw [hml]; first | exact h.2.2.1.2.1 | exact h.2.2.1.2.1.symm) hown (hts _ hl) (hts _ pw_4) (hts _ pw_2) (hts _ pw_5) (by omega) (by rw [a_vm_sum]; omega) (by omega) (by omega) hd K'
theorem as_minL {x y : Int64} (C : a_ctx p l R s m args meth c cc nL own ini F) (hd : decode cc pc = .ok (.invokestatic ix, 3)) (hl : Jvm.Cond.methodLink own ix Lib.MathLoose.min_long.x ∈ am_ws) (hsum : (st.map fun v => v.category).sum ≤ 8) (hu : a_uc σ ≤ u0 + R.cells ∧ a_us σ ≤ v0 + R.slots) (hg : a_bdc (pc + 3, L, .long (if x ≤ y then x else y) :: st, σ))
    (K : a_W p l e R s m args below meth c Q nL n0 u0 v0 F ρ1 (pc + 3, L, .long (if x ≤ y then x else y) :: st, σ)) : a_W p l e R s m args below meth c Q nL n0 u0 v0 F ρ1 (pc, L, .long y :: .long x :: st, σ) := by
  intro ρ H locs cells slots ls h
  have g7 : a_uc σ = u0 + cells := h.2.2.2.2.2.2.1
  have g8 : a_us σ = v0 + slots := h.2.2.2.2.2.2.2
  obtain ⟨hx, hb, hml, hown, hts, hE, hA, -, -, -, hf, hlc, -⟩ := C
  have K' := K ρ H locs cells slots ls (a_at_go h hg)
  rw [← mn_l] at K'
  exact va_mmin_long hx hb (by rw [hml]; first | exact h.2.2.1.2.1 | exact h.2.2.1.2.1.symm) hown (hts _ hl) (hts _ pw_6) (hts _ pw_2) (hts _ pw_7) (by omega) (by rw [a_vm_sum]; omega) (by omega) (by omega) hd K'
end PRK
