/-! the model: queries are read into codes -/
def Squ (b k : Nat) : Prop := S26 b k ∨ b = 250 ∨ (b = 237 ∧ (k = 28 ∨ k = 34))
theorem S26.q {b k : Nat} (h : S26 b k) : Squ b k := .inl h
theorem CC.mo {S : Nat → Nat → Prop} {σ σ' : aSt} {L : List Int32} (C : CC σ L) (m : Mo S σ σ') (h1 : ¬ S 237 34) (h2 : ∀ k, ¬ S 250 k) : CC σ' L := ⟨(m.I h1).trans C.1, C.2.1, fun j hj => (m.I (h2 j)).trans (C.2.2 j hj)⟩
theorem CC.s26 {σ σ' : aSt} {L : List Int32} (C : CC σ L) (m : Mo S26 σ σ') : CC σ' L := C.mo m (by unfold S26; omega) fun k => by unfold S26; omega
theorem b30x {C : aCall} {σ : aSt} (h : Sh σ) : b_R C kX8_compileValue [] (30, [some (.ref 237), some (.int (nI 8))], [], σ) = b_R C kX8_compileValue [] (58, [some (.ref 237), some (.int (nI 8))], [], σ) := by
  refine (e_iload_n (code := kX8_compileValue) (pc := 30) rfl rfl).trans ?_
  refine (e_aload_n (code := kX8_compileValue) (pc := 31) rfl rfl).trans ?_
  refine (e_getR (code := kX8_compileValue) (pc := 32) (c := 10) rfl (sk_237 (σ := σ) h) (sr_237_31 (σ := σ) h)).trans ?_
  refine (e_alen (code := kX8_compileValue) (pc := 35) rfl (by rw [show a_kd _ 249 = 3 from (sk_249 (σ := σ) h)]; exact ⟨rfl, rfl⟩) (sl_249 (σ := σ) h) (Nat.le_of_ble_eq_true rfl)).trans ?_
  refine (e_icge (code := kX8_compileValue) (pc := 36) rfl).trans ?_
  exact if_neg (nIn (Nat.le_refl _) (by decide))
theorem h_wd_in {j : Nat} (h : j < 8) : 1 ≤ h_wd j ∧ h_wd j ≤ 18 := by
  have : ∀ j, j < 8 → 1 ≤ h_wd j ∧ h_wd j ≤ 18 := by decide
  exact this j h
theorem sr_names {σ : aSt} (h : Sh σ) {j : Nat} (hj : j < 8) : a_R σ 249 j = some (h_wd j) := by
  obtain rfl | rfl | rfl | rfl | rfl | rfl | rfl | rfl : j = 0 ∨ j = 1 ∨ j = 2 ∨ j = 3 ∨ j = 4 ∨ j = 5 ∨ j = 6 ∨ j = 7 := by omega
  · exact sr_249_0 h
  · exact sr_249_1 h
  · exact sr_249_2 h
  · exact sr_249_3 h
  · exact sr_249_4 h
  · exact sr_249_5 h
  · exact sr_249_6 h
  · exact sr_249_7 h
section MOZ
variable {P : aCall} {d D : Nat} {σ : aSt} {X : Pal} {w : Nat} {B : Nat → Nat} {E : Nat} {e : Nat × Nat}
theorem y_emitB (hd : 1 ≤ d) (h : Sh σ) (R : RS σ B E (.inl e)) {c : Int32} : a_call a_tab P d 260 [.ref 237, .int c] σ = some (.inl none, σ) := by
  obtain ⟨e1, e2⟩ := R.e25
  rw [n_X8_emit (by omega), b_X8_emit_0 h, e1, if_neg e2, b_X8_emit_27]
theorem y_emit (hd : 1 ≤ d) (h : Sh σ) {q : Nat} (R : RS σ B E (.inr q)) {L : List Int32} (C : CC σ L) (hl : L.length < 200) {c : Int32} : ∃ σ', a_call a_tab P d 260 [.ref 237, .int c] σ = some (.inl none, σ') ∧ Mo (fun b k => b = 250 ∨ (b = 237 ∧ k = 34)) σ σ' ∧ RS σ' B E (.inr q) ∧ CC σ' (L ++ [c]) := by
  have m : Mo (fun b k => b = 250 ∨ (b = 237 ∧ k = 34)) σ (a_setI (a_setI σ 250 L.length c) 237 34 (nI (L.length + 1))) := (Mo.set (.inl rfl)).then_set (.inr ⟨rfl, rfl⟩)
  have la : (L ++ [c]).length = L.length + 1 := by rw [List.length_append]; rfl
  refine ⟨_, ?_, m, R.mo m (fun k _ _ => by omega) (fun k => by omega), by rw [la]; exact a_I_at, by omega, fun j hj => ?_⟩
  · rw [n_X8_emit (by omega), b_X8_emit_0 h, R.2.2.2, if_pos (show nI 0 = 0 from rfl), C.1, b_gd_t (nIi hl (by decide)), nIc (by omega), a_I_off (.inl (by decide)), C.1, nI_add, b_X8_emit_27]
  · rw [la] at hj
    rw [a_I_off (.inl (by decide))]
    by_cases hjl : j = L.length
    · subst hjl
      rw [a_I_at]
      exact (getB (L := L) (M := [c]) (j := 0)).symm
    · rw [a_I_off (.inr hjl), getA (by omega)]
      exact C.2.2 j (by omega)
theorem y_cvalB (H : Pm P) (hd : 7 ≤ d) (h : Sh σ) (R : RS σ B E (.inl e)) : ∃ σ', a_call a_tab P d 262 [.ref 237] σ = some (.inl none, σ') ∧ Mo S26 σ σ' ∧ RS σ' B E (.inl e) := by
  obtain ⟨e1, e2⟩ := R.e25
  obtain ⟨s1, d1, m1, R1⟩ := y_num (P := P) (d := d - 1) H (by omega) h R (lo := 0) (hi := 9999) (by decide) (by decide)
  have R1 : RS s1 B E (.inl e) := R1
  refine ⟨s1, ?_, m1, R1⟩
  rw [n_X8_compileValue (by omega), b_X8_compileValue_0 h, e1, if_neg e2, b_X8_compileValue_15 h, d1, g_v, b_X8_compileValue_24 (m1.sh h), y_emitB (by omega) (m1.sh h) R1, g_n, b_X8_compileValue_27]
theorem h_pi_lt {t : Nat × Nat × Nat} {j : Nat} (h : h_pi B t = some j) : j < 8 := by
  have := (g_find_lt h).2.1
  omega
theorem y_cval (H : Pm P) (hd : 7 ≤ d) (h : Sh σ) {q : Nat} (R : RS σ B E (.inr q)) (hE : E ≤ 200) {L : List Int32} (C : CC σ L) (hl : L.length ≤ q) : ∃ σ', a_call a_tab P d 262 [.ref 237] σ = some (.inl none, σ') ∧ Mo (fun b k => S26 b k ∨ b = 250 ∨ (b = 237 ∧ k = 34)) σ σ' ∧ RS σ' B E (r_snd (h_val B E q)) ∧ ∀ o q', h_val B E q = .inr (o, q') → CC σ' (L ++ [h_en o]) ∧ q < q' ∧ match o with | .inl n => n ≤ 9999 | .inr j => j < 8 := by
  obtain ⟨k1, k2, k3, k4⟩ := R.tok
  have hq := R.2.1
  rw [n_X8_compileValue (by omega), b_X8_compileValue_0 h, R.2.2.2, if_pos (show nI 0 = 0 from rfl), R.2.2.1.1]
  have ev : h_val B E q = if (k_tok B E q).1 = 2 then (if 9999 < k_num B (k_tok B E q) then .inl (2, (k_tok B E q).2.1) else .inr (.inl (k_num B (k_tok B E q)), (k_tok B E q).2.2))
      else match h_pi B (k_tok B E q) with
        | none => .inl (1, (k_tok B E q).2.1)
        | some j => .inr (.inr j, (k_tok B E q).2.2) := rfl
  have qlt : (k_tok B E q).1 ≠ 0 → q < E := fun z => by
    have := k_tok_lt (B := B) (E := E) (n := q) z
    have := (k_tok_le (B := B) hq).1
    omega
  by_cases c2 : (k_tok B E q).1 = 2
  · rw [if_pos c2] at ev
    obtain ⟨s1, d1, m1, R1⟩ := y_num (P := P) (d := d - 1) H (by omega) h R (lo := 0) (hi := 9999) (by decide) (by decide)
    have h1 := m1.sh h
    have R1 : RS s1 B E (r_snd (g_num B E 0 9999 q)) := R1
    have eg : g_num B E 0 9999 q = if 9999 < k_num B (k_tok B E q) then .inl (2, (k_tok B E q).2.1) else .inr (k_num B (k_tok B E q), (k_tok B E q).2.2) := by
      unfold g_num
      rw [k_ne_in c2]
      by_cases c9 : 9999 < k_num B (k_tok B E q)
      · rw [if_neg (by omega), if_pos c9]
      · rw [if_pos (by omega), if_neg c9]
    rw [if_pos (congrArg nI c2), b_X8_compileValue_15 h, d1, g_v, b_X8_compileValue_24 h1]
    by_cases c9 : 9999 < k_num B (k_tok B E q)
    · rw [if_pos c9] at ev eg
      rw [eg] at R1
      have R1 : RS s1 B E (.inl (2, (k_tok B E q).2.1)) := R1
      refine ⟨s1, by rw [y_emitB (by omega) h1 R1, g_n, b_X8_compileValue_27], m1.mono fun b k z => .inl z, by rw [ev]; exact R1, fun o q' hz => by rw [ev] at hz; cases hz⟩
    · rw [if_neg c9] at ev eg
      rw [eg] at R1
      have R1 : RS s1 B E (.inr (k_tok B E q).2.2) := R1
      have hv : r_val B E 0 9999 (.inr q) = k_num B (k_tok B E q) := by
        show (match g_num B E 0 9999 q with | .inl _ => 0 | .inr p => p.1) = _
        rw [eg]
      obtain ⟨s2, d2, m2, R2, C2⟩ := y_emit (P := P) (d := d - 1) (by omega) h1 R1 (C.s26 m1) (by have := qlt (by omega); omega) (c := nI (k_num B (k_tok B E q)))
      refine ⟨s2, by rw [hv, d2, g_n, b_X8_compileValue_27], (m1.mono fun b k z => .inl z).tr (m2.mono fun b k z => .inr z), by rw [ev]; exact R2, fun o q' hz => ?_⟩
      rw [ev] at hz
      cases hz
      exact ⟨C2, k_tok_adv (by omega) hq, by show k_num B (k_tok B E q) ≤ 9999; omega⟩
  · rw [if_neg c2] at ev
    rw [if_neg (fun z => c2 ((o_eq (by omega) (by omega)).mp z))]
    have loop : ∀ k i, i + k = 8 → b_R (a_call a_tab P (d - 1)) kX8_compileValue [] (30, [some (.ref 237), some (.int (nI i))], [], σ) = b_R (a_call a_tab P (d - 1)) kX8_compileValue [] (58, [some (.ref 237), some (.int (nI ((g_find (fun j => k_is B (k_tok B E q) (q_txt (h_wd j))) k i).getD 8)))], [], σ) := by
      intro k
      induction k with
      | zero =>
        intro i hi
        obtain rfl : i = 8 := by omega
        exact b30x h
      | succ k ih =>
        intro i hi
        obtain ⟨w1, w18⟩ := h_wd_in (j := i) (by omega)
        rw [b_X8_compileValue_30 h (s := h_wd i) (by rw [nIc (by omega)]; exact sr_names h (by omega)), if_pos (nIl (by omega) (by decide)), b_gd_t (nIi (by omega) (by decide)), y_isWord H (by omega) h R w1 w18, g_v, b_X8_compileValue_49, nI_add, show (r_q (.inr q) fun q => k_is B (k_tok B E q) (q_txt (h_wd i))) = k_is B (k_tok B E q) (q_txt (h_wd i)) from rfl]
        unfold g_find
        cases k_is B (k_tok B E q) (q_txt (h_wd i)) with
        | true => rw [if_neg (show ¬ b_n true = 0 by decide), if_pos rfl]; rfl
        | false =>
          rw [if_pos (show b_n false = 0 by decide), if_neg Bool.false_ne_true]
          exact ih (i + 1) (by omega)
    rw [loop 8 0 rfl, show g_find (fun j => k_is B (k_tok B E q) (q_txt (h_wd j))) 8 0 = h_pi B (k_tok B E q) from rfl, b_X8_compileValue_58 h, b_X8_compileValue_73 h, b_X8_compileValue_73 h]
    cases hp : h_pi B (k_tok B E q) with
    | none =>
      rw [hp] at ev
      have ev : h_val B E q = .inl (1, (k_tok B E q).2.1) := ev
      obtain ⟨s1, d1, m1, R1⟩ := y_checkF (P := P) (d := d - 1) (by omega) h R (c := 1) (by decide) (by decide)
      have R1 : RS s1 B E (.inl (1, (k_tok B E q).2.1)) := R1
      have h1 := m1.sh h
      obtain ⟨s2, d2, m2, R2⟩ := y_advance (P := P) (d := d - 1) (by omega) h1 R1
      refine ⟨s2, ?_, (m1.tr m2).mono fun b k z => .inl z, by rw [ev]; exact R2, fun o q' hz => by rw [ev] at hz; cases hz⟩
      rw [show (none : Option Nat).getD 8 = 8 from rfl, if_neg (nIn (Nat.le_refl _) (by decide)), d1, g_n, b_X8_compileValue_77 h1, y_emitB (by omega) h1 R1, g_n, b_X8_compileValue_84 h1, d2, g_n, b_X8_compileValue_88]
    | some j =>
      rw [hp] at ev
      have ev : h_val B E q = .inr (.inr j, (k_tok B E q).2.2) := ev
      have hj := h_pi_lt hp
      have k0 : (k_tok B E q).1 ≠ 0 := fun z => by
        have := (g_find_lt hp).2.2
        unfold k_is at this
        rw [z] at this
        cases this
      obtain ⟨s1, d1, m1, R1⟩ := y_checkT (P := P) (d := d - 1) (by omega) h R (c := 1) (by decide) (by decide)
      have h1 := m1.sh h
      obtain ⟨s2, d2, m2, R2, C2⟩ := y_emit (P := P) (d := d - 1) (by omega) h1 R1 (C.s26 m1) (by have := qlt k0; omega) (c := (-1) - nI j)
      have h2 := m2.sh h1
      obtain ⟨s3, d3, m3, R3⟩ := y_advance (P := P) (d := d - 1) (by omega) h2 R2
      refine ⟨s3, ?_, ((m1.mono fun b k z => .inl z).tr (m2.mono fun b k z => .inr z)).tr (m3.mono fun b k z => .inl z), by rw [ev]; exact R3, fun o q' hz => ?_⟩
      · rw [show (some j).getD 8 = j from rfl, if_pos (nIl hj (by decide)), d1, g_n, b_X8_compileValue_77 h1, d2, g_n, b_X8_compileValue_84 h2, d3, g_n, b_X8_compileValue_88]
      · rw [ev] at hz
        cases hz
        exact ⟨C2.s26 m3, k_tok_adv k0 hq, hj⟩
/-- a comparison, from its first value on -/
theorem y_ccmpB (H : Pm P) (hd : 8 ≤ d) (h : Sh σ) (R : RS σ B E (.inl e)) : ∃ σ', b_R (a_call a_tab P (d - 1)) kX8_compileFactor [] (91, [some (.ref 237), none], [], σ) = some (.inl none, σ') ∧ Mo S26 σ σ' ∧ RS σ' B E (.inl e) := by
  obtain ⟨s1, d1, m1, R1⟩ := y_checkF (P := P) (d := d - 1) (by omega) h R (c := 1) (by decide) (by decide)
  have R1 : RS s1 B E (.inl e) := R1
  have h1 := m1.sh h
  obtain ⟨s2, d2, m2, R2⟩ := y_advance (P := P) (d := d - 1) (by omega) h1 R1
  have R2 : RS s2 B E (.inl e) := R2
  have h2 := m2.sh h1
  obtain ⟨s3, d3, m3, R3⟩ := y_cvalB (P := P) (d := d - 1) H (by omega) h2 R2
  have h3 := m3.sh h2
  refine ⟨s3, ?_, (m1.tr m2).tr m3, R3⟩
  have f : ∀ c, (r_q (Sum.inl e) fun q => k_sg B (k_tok B E q) c) = false := fun c => rfl
  rw [b_X8_compileFactor_91 h, y_isSymbol (by omega) h R (by decide), g_v, b_X8_compileFactor_97 h, f, if_pos (show b_n false = 0 by decide), y_isSymbol (by omega) h R (by decide), g_v, b_X8_compileFactor_111, f, if_pos (show b_n false = 0 by decide), b_X8_compileFactor_121 h, if_pos rfl, y_isSymbol (by omega) h R (by decide), g_v, b_X8_compileFactor_135, f, if_pos (show b_n false = 0 by decide), b_X8_compileFactor_143 h, d1, g_n, b_X8_compileFactor_147 h1, d2, g_n, b_X8_compileFactor_151 h2, d3, g_n, b_X8_compileFactor_155 h3, y_emitB (by omega) h3 R3, g_n, b_X8_compileFactor_160]
def h_oc (o : Nat) : Int32 := if o = 0 then -20 else if o = 1 then -22 else -21
theorem h_op_lt {t : Nat × Nat × Nat} {o : Nat} (h : h_op B t = some o) : o < 3 := by
  unfold h_op at h
  split at h
  · cases h; decide
  · split at h
    · cases h; decide
    · split at h
      · cases h; decide
      · cases h
theorem k_sg_two {t : Nat × Nat × Nat} {a b : Nat} (h : k_sg B t a = true) (hab : a ≠ b) : k_sg B t b = false := by
  unfold k_sg at *
  rw [Bool.and_eq_true, beq_iff_eq, beq_iff_eq] at h
  rw [h.1, h.2, beq_eq_false_iff_ne.mpr hab, Bool.and_false]
theorem y_ccmp (H : Pm P) (hd : 8 ≤ d) (hD : 4 ≤ D) (h : Sh σ) (V : Vd X) {q : Nat} (R : RS σ B E (.inr q)) (hE : E ≤ 200) {L : List Int32} (C : CC σ L) (hl : L.length ≤ q) : ∃ σ', b_G (a_call a_tab P (d - 1)) kX8_compileFactor [] 88 91 [some (.ref 237), none] [] (a_call a_tab P (d - 1) 262 [.ref 237] σ) = some (.inl none, σ') ∧ Mo (fun b k => S26 b k ∨ b = 250 ∨ (b = 237 ∧ k = 34)) σ σ' ∧ RS σ' B E (r_snd (h_cmp X B E q)) ∧ ∀ f q', h_cmp X B E q = .inr (f, q') → ∃ L', CC σ' (L ++ L') ∧ L'.length + q ≤ q' ∧ SG P D X L' (fun m => z_1 (f m)) := by
  obtain ⟨s1, d1, m1, R1, G1⟩ := y_cval (P := P) (d := d - 1) H (by omega) h R hE C hl
  have h1 := m1.sh h
  rw [d1, g_n]
  have ec : h_cmp X B E q = match h_val B E q with
      | .inl e => .inl e
      | .inr a => match h_op B (k_tok B E a.2) with
        | none => .inl (1, (k_tok B E a.2).2.1)
        | some o => match h_val B E (k_tok B E a.2).2.2 with
          | .inl e => .inl e
          | .inr b => .inr (fun m => h_do o (h_ov X a.1 m) (h_ov X b.1 m), b.2) := rfl
  cases hv : h_val B E q with
  | inl e =>
    rw [hv] at ec R1
    have ec : h_cmp X B E q = .inl e := ec
    obtain ⟨s2, d2, m2, R2⟩ := y_ccmpB (P := P) (d := d) H (by omega) h1 (e := e) R1
    exact ⟨s2, d2, m1.tr (m2.mono fun b k z => .inl z), by rw [ec]; exact R2, fun f q' hz => by rw [ec] at hz; cases hz⟩
  | inr a =>
    obtain ⟨oa, q1⟩ := a
    rw [hv] at ec R1
    have R1 : RS s1 B E (.inr q1) := R1
    obtain ⟨C1, hq1, ba⟩ := G1 oa q1 hv
    have la : (L ++ [h_en oa]).length = L.length + 1 := by rw [List.length_append]; rfl
    have ec : h_cmp X B E q = match h_op B (k_tok B E q1) with
        | none => .inl (1, (k_tok B E q1).2.1)
        | some o => match h_val B E (k_tok B E q1).2.2 with
          | .inl e => .inl e
          | .inr b => .inr (fun m => h_do o (h_ov X oa m) (h_ov X b.1 m), b.2) := ec
    have sy : ∀ c, c < 256 → a_call a_tab P (d - 1) 235 [.ref 237, .int (nI c)] s1 = some (.inl (some (.int (b_n (k_sg B (k_tok B E q1) c)))), s1) := fun c hc => y_isSymbol (by omega) h1 R1 hc
    -- behind the operator's check
    have key : ∃ x1 s2, b_R (a_call a_tab P (d - 1)) kX8_compileFactor [] (91, [some (.ref 237), none], [], s1) = b_R (a_call a_tab P (d - 1)) kX8_compileFactor [] (147, [some (.ref 237), some (.int x1)], [], s2) ∧ Mo S26 s1 s2 ∧ RS s2 B E (match h_op B (k_tok B E q1) with | none => .inl (1, (k_tok B E q1).2.1) | some _ => .inr q1) ∧ ∀ o, h_op B (k_tok B E q1) = some o → x1 = h_oc o := by
      obtain ⟨sa, da, ma, Ra⟩ := y_checkT (P := P) (d := d - 1) (by omega) h1 R1 (c := 1) (by decide) (by decide)
      obtain ⟨sb, db, mb, Rb⟩ := y_checkF (P := P) (d := d - 1) (by omega) h1 R1 (c := 1) (by decide) (by decide)
      unfold h_op
      rw [b_X8_compileFactor_91 h1, sy 60 (by decide), g_v, b_X8_compileFactor_97 h1]
      cases s60 : k_sg B (k_tok B E q1) 60 with
      | true =>
        refine ⟨-20, sa, ?_, ma, Ra, fun o ho => ?_⟩
        · rw [if_neg (show ¬ b_n true = 0 by decide), b_X8_compileFactor_121 h1, if_neg (by decide), b_X8_compileFactor_138, b_X8_compileFactor_143 h1, da, g_n]
        · rw [if_pos rfl] at ho; cases ho; rfl
      | false =>
        rw [if_pos (show b_n false = 0 by decide), sy 61 (by decide), g_v, b_X8_compileFactor_111, if_neg Bool.false_ne_true]
        cases s61 : k_sg B (k_tok B E q1) 61 with
        | true =>
          have s62 := k_sg_two (b := 62) s61 (by decide)
          rw [s62, if_neg Bool.false_ne_true, if_pos rfl]
          refine ⟨-21, sa, ?_, ma, Ra, fun o ho => ?_⟩
          · rw [if_neg (show ¬ b_n true = 0 by decide), b_X8_compileFactor_121 h1, if_neg (by decide), b_X8_compileFactor_138, b_X8_compileFactor_143 h1, da, g_n]
          · cases ho; rfl
        | false =>
          rw [if_pos (show b_n false = 0 by decide), b_X8_compileFactor_121 h1, if_pos rfl, sy 62 (by decide), g_v, b_X8_compileFactor_135, if_neg Bool.false_ne_true]
          cases s62 : k_sg B (k_tok B E q1) 62 with
          | true =>
            rw [if_pos rfl]
            refine ⟨-22, sa, ?_, ma, Ra, fun o ho => ?_⟩
            · rw [if_neg (show ¬ b_n true = 0 by decide), b_X8_compileFactor_138, b_X8_compileFactor_143 h1, da, g_n]
            · cases ho; rfl
          | false =>
            rw [if_neg Bool.false_ne_true]
            exact ⟨-22, sb, by rw [if_pos (show b_n false = 0 by decide), b_X8_compileFactor_143 h1, db, g_n], mb, Rb, fun o ho => by cases ho⟩
    obtain ⟨x1, s2, d2, m2, R2, hx1⟩ := key
    have h2 := m2.sh h1
    rw [d2, b_X8_compileFactor_147 h2]
    have m12 := m1.tr (m2.mono fun b k z => (.inl z : S26 b k ∨ b = 250 ∨ (b = 237 ∧ k = 34)))
    cases ho : h_op B (k_tok B E q1) with
    | none =>
      rw [ho] at ec R2
      have R2 : RS s2 B E (.inl (1, (k_tok B E q1).2.1)) := R2
      have ec : h_cmp X B E q = .inl (1, (k_tok B E q1).2.1) := ec
      obtain ⟨s3, d3, m3, R3⟩ := y_advance (P := P) (d := d - 1) (by omega) h2 R2
      have R3 : RS s3 B E (.inl (1, (k_tok B E q1).2.1)) := R3
      have h3 := m3.sh h2
      obtain ⟨s4, d4, m4, R4⟩ := y_cvalB (P := P) (d := d - 1) H (by omega) h3 R3
      have h4 := m4.sh h3
      refine ⟨s4, ?_, (m12.tr (m3.mono fun b k z => .inl z)).tr (m4.mono fun b k z => .inl z), by rw [ec]; exact R4, fun f q' hz => by rw [ec] at hz; cases hz⟩
      rw [d3, g_n, b_X8_compileFactor_151 h3, d4, g_n, b_X8_compileFactor_155 h4, y_emitB (by omega) h4 R4, g_n, b_X8_compileFactor_160]
    | some o =>
      rw [ho] at ec R2
      have R2 : RS s2 B E (.inr q1) := R2
      have hx1 := hx1 o ho
      have k0 : (k_tok B E q1).1 ≠ 0 := fun z => by
        unfold h_op k_sg at ho
        rw [z] at ho
        cases ho
      have hadv := k_tok_adv k0 R2.2.1
      have ec : h_cmp X B E q = match h_val B E (k_tok B E q1).2.2 with
          | .inl e => .inl e
          | .inr b => .inr (fun m => h_do o (h_ov X oa m) (h_ov X b.1 m), b.2) := ec
      obtain ⟨s3, d3, m3, R3⟩ := y_advance (P := P) (d := d - 1) (by omega) h2 R2
      have R3 : RS s3 B E (.inr (k_tok B E q1).2.2) := R3
      have h3 := m3.sh h2
      obtain ⟨s4, d4, m4, R4, G4⟩ := y_cval (P := P) (d := d - 1) H (by omega) h3 R3 hE ((C1.s26 m2).s26 m3) (by omega)
      have h4 := m4.sh h3
      have m14 := (m12.tr (m3.mono fun b k z => (.inl z : S26 b k ∨ b = 250 ∨ (b = 237 ∧ k = 34)))).tr m4
      rw [d3, g_n, b_X8_compileFactor_151 h3, d4, g_n, b_X8_compileFactor_155 h4]
      cases hv2 : h_val B E (k_tok B E q1).2.2 with
      | inl e =>
        rw [hv2] at ec R4
        have ec : h_cmp X B E q = .inl e := ec
        have R4 : RS s4 B E (.inl e) := R4
        exact ⟨s4, by rw [y_emitB (by omega) h4 R4, g_n, b_X8_compileFactor_160], m14, by rw [ec]; exact R4, fun f q' hz => by rw [ec] at hz; cases hz⟩
      | inr b =>
        obtain ⟨ob, q3⟩ := b
        rw [hv2] at ec R4
        have R4 : RS s4 B E (.inr q3) := R4
        have ec : h_cmp X B E q = .inr (fun m => h_do o (h_ov X oa m) (h_ov X ob m), q3) := ec
        obtain ⟨C4, hq3, bb⟩ := G4 ob q3 hv2
        have hq3E := R4.2.1
        have lb : (L ++ [h_en oa] ++ [h_en ob]).length = L.length + 2 := by rw [List.length_append, la]; rfl
        obtain ⟨s5, d5, m5, R5, C5⟩ := y_emit (P := P) (d := d - 1) (by omega) h4 R4 C4 (by omega) (c := x1)
        refine ⟨s5, by rw [d5, g_n, b_X8_compileFactor_160], m14.tr (m5.mono fun b k z => .inr z), by rw [ec]; exact R5, fun f q' hz => ?_⟩
        rw [ec] at hz
        cases hz
        refine ⟨[h_en oa] ++ [h_en ob] ++ [x1], ?_, ?_, ?_⟩
        · rw [← List.append_assoc, ← List.append_assoc]
          exact C5
        · show 3 + q ≤ q3
          omega
        · have hov : ∀ (o : Nat ⊕ Nat) m, (match o with | .inl n => n ≤ 9999 | .inr j => j < 8) → m < X.1 1 → h_ov X o m < 2147483648 := fun o m ho hm => by
            cases o with
            | inl n => have : n ≤ 9999 := ho; show n < _; omega
            | inr j => exact Nat.lt_of_le_of_lt (h_pr_lt V hm) (by decide)
          have ol := h_op_lt ho
          have S := SG.op (P := P) (d := D) (X := X) (by omega) (SG.push H hD V ba) (SG.push H hD V bb) (c := x1) (fun m hm => ⟨hov oa m ba hm, hov ob m bb hm⟩) (by
            rw [hx1]
            obtain rfl | rfl | rfl : o = 0 ∨ o = 1 ∨ o = 2 := by omega
            · exact .inl rfl
            · exact .inr (.inr (.inl rfl))
            · exact .inr (.inl rfl))
          refine S.congr fun m hm => ?_
          rw [hx1]
          obtain rfl | rfl | rfl : o = 0 ∨ o = 1 ∨ o = 2 := by omega
          · rfl
          · rfl
          · rfl
end MOZ
