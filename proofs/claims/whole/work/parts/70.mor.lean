/-! the model: parts -/
theorem S26.p {b k : Nat} (h : S26 b k) : S31 b k := .inl h
section MOR2
variable {P : aCall} {d : Nat} {σ : aSt} {X : Pal} {w : Nat} {B : Nat → Nat} {E : Nat} {r : (Nat × Nat) ⊕ Nat} {e : Nat × Nat}
/-- a part, when something is wrong: from behind the last check on -/
theorem y_pb192 (hd : 6 ≤ d) (h : Sh σ) (R : RS σ B E (.inl e)) {x1 x2 x3 x4 : Int32} : ∃ σ', b_R (a_call a_tab P (d - 1)) kX8_readPart [] (192, [some (.ref 237), some (.int x1), some (.int x2), some (.int x3), some (.int x4)], [], σ) = some (.inl none, σ') ∧ Mo S26 σ σ' ∧ RS σ' B E (.inl e) := by
  obtain ⟨e1, e2⟩ := R.e25
  obtain ⟨s3, c3, m3, R3⟩ := y_advance (P := P) (d := d - 1) (by omega) h R
  exact ⟨s3, by rw [b_X8_readPart_192 h, e1, if_neg e2, b_X8_readPart_229 h, c3, g_n, b_X8_readPart_233], m3, R3⟩
theorem y_pb109 (hd : 6 ≤ d) (h : Sh σ) (R : RS σ B E (.inl e)) {n : Nat} (hn : n ≤ 4) (en : a_I σ 237 10 = nI n) {x1 : Int32} : ∃ σ', b_R (a_call a_tab P (d - 1)) kX8_readPart [] (109, [some (.ref 237), some (.int x1), none, none, none], [], σ) = some (.inl none, σ') ∧ Mo S26 σ σ' ∧ RS σ' B E (.inl e) := by
  obtain ⟨e1, e2⟩ := R.e25
  have loop : ∀ k i v, i + k = n → (v = 0 ∨ v = 1) → ∃ u, (u = 0 ∨ u = 1) ∧ b_R (a_call a_tab P (d - 1)) kX8_readPart [] (130, [some (.ref 237), some (.int x1), some (.int (-1)), some (.int (nI v)), some (.int (nI i))], [], σ) = b_R (a_call a_tab P (d - 1)) kX8_readPart [] (130, [some (.ref 237), some (.int x1), some (.int (-1)), some (.int (nI u)), some (.int (nI n))], [], σ) := by
    intro k
    induction k with
    | zero =>
      intro i v hi hv
      obtain rfl : i = n := by omega
      exact ⟨v, hv, rfl⟩
    | succ k ih =>
      intro i v hi hv
      obtain ⟨u, hu, eu⟩ := ih (i + 1) 1 (by omega) (.inr rfl)
      obtain ⟨u', hu', eu'⟩ := ih (i + 1) 0 (by omega) (.inl rfl)
      rw [b_X8_readPart_130 h, en, if_pos (nIl (by omega) (by omega)), b_X8_readPart_154, b_X8_readPart_159, b_X8_readPart_159, nI_add, b_gd_t (nIi (by omega) (by decide)), eu, eu']
      by_cases c : nI v = 0
      · rw [if_pos c]
        by_cases c2 : a_I σ 242 (Int32.toNatClampNeg (nI i)) = -1
        · rw [if_pos c2]; exact ⟨u, hu, rfl⟩
        · rw [if_neg c2]; exact ⟨u', hu', rfl⟩
      · rw [if_neg c]; exact ⟨u, hu, rfl⟩
  obtain ⟨u, -, eu⟩ := loop n 0 0 (by omega) (.inl rfl)
  obtain ⟨s2, c2, m2, R2⟩ := y_checkT (P := P) (d := d - 1) (by omega) h R (c := 4) (by decide) (by decide)
  obtain ⟨s3, c3, m3, R3⟩ := y_pb192 (P := P) (d := d) hd (m2.sh h) R2 (x1 := x1) (x2 := -1) (x3 := nI u) (x4 := nI n)
  refine ⟨s3, ?_, m2.tr m3, R3⟩
  rw [b_X8_readPart_109 h, e1, if_neg e2, b_X8_readPart_124, eu, b_X8_readPart_130 h, en, if_neg (nIn (Nat.le_refl _) (by omega)), e1, if_neg e2, b_X8_readPart_183, b_X8_readPart_188 h, c2, g_n]
  exact c3
theorem y_pb80 (hd : 7 ≤ d) (h : Sh σ) (R : RS σ B E (.inl e)) {n : Nat} (hn : n ≤ 4) (en : a_I σ 237 10 = nI n) : ∃ σ', b_R (a_call a_tab P (d - 1)) kX8_readPart [] (80, [some (.ref 237), none, none, none, none], [], σ) = some (.inl none, σ') ∧ Mo S26 σ σ' ∧ RS σ' B E (.inl e) := by
  obtain ⟨e1, e2⟩ := R.e25
  obtain ⟨s2, c2, m2, R2⟩ := y_advance (P := P) (d := d - 1) (by omega) h R
  have R2 : RS s2 B E (.inl e) := R2
  have h2 := m2.sh h
  obtain ⟨s3, c3, m3, R3⟩ := y_checkF (P := P) (d := d - 1) (by omega) h2 R2 (c := 1) (by decide) (by decide)
  have m23 := m2.tr m3
  obtain ⟨s4, c4, m4, R4⟩ := y_pb109 (P := P) (d := d) (by omega) (m23.sh h) (e := e) R3 hn (by rw [m23.I (by unfold S26; omega)]; exact en) (x1 := nI 0)
  refine ⟨s4, ?_, m23.tr m4, R4⟩
  have c3 : a_call a_tab P (d - 1) 233 [.ref 237, .int (b_n (r_q (.inl e) fun q => (k_tok B E q).1 == 1)), .int (nI 1)] s2 = _ := c3
  rw [b_X8_readPart_80 h, e1, if_neg e2, b_X8_readPart_95 h, c2, g_n, b_X8_readPart_100 h2, y_isWordHere (by omega) h2 R2, g_v, b_X8_readPart_105 h2, c3, g_n]
  exact c4
theorem y_pb55 (hd : 7 ≤ d) (h : Sh σ) (R : RS σ B E (.inl e)) {n : Nat} (hn : n ≤ 4) (en : a_I σ 237 10 = nI n) : ∃ σ', b_R (a_call a_tab P (d - 1)) kX8_readPart [] (55, [some (.ref 237), none, none, none, none], [], σ) = some (.inl none, σ') ∧ Mo S26 σ σ' ∧ RS σ' B E (.inl e) := by
  obtain ⟨e1, e2⟩ := R.e25
  obtain ⟨s2, c2, m2, R2⟩ := y_checkT (P := P) (d := d - 1) (by omega) h R (c := 3) (by decide) (by decide)
  obtain ⟨s4, c4, m4, R4⟩ := y_pb80 (P := P) (d := d) hd (m2.sh h) R2 hn (by rw [m2.I (by unfold S26; omega)]; exact en)
  refine ⟨s4, ?_, m2.tr m4, R4⟩
  rw [b_X8_readPart_55 h, e1, if_neg e2, b_X8_readPart_71, b_X8_readPart_76 h, c2, g_n]
  exact c4
theorem y_pb25 (hd : 7 ≤ d) (h : Sh σ) (R : RS σ B E (.inl e)) {n : Nat} (hn : n ≤ 4) (en : a_I σ 237 10 = nI n) : ∃ σ', b_R (a_call a_tab P (d - 1)) kX8_readPart [] (25, [some (.ref 237), none, none, none, none], [], σ) = some (.inl none, σ') ∧ Mo S26 σ σ' ∧ RS σ' B E (.inl e) := by
  obtain ⟨e1, e2⟩ := R.e25
  obtain ⟨s2, c2, m2, R2⟩ := y_checkT (P := P) (d := d - 1) (by omega) h R (c := 2) (by decide) (by decide)
  obtain ⟨s4, c4, m4, R4⟩ := y_pb55 (P := P) (d := d) hd (m2.sh h) R2 hn (by rw [m2.I (by unfold S26; omega)]; exact en)
  refine ⟨s4, ?_, m2.tr m4, R4⟩
  rw [b_X8_readPart_25 h, e1, if_neg e2, b_X8_readPart_46, b_X8_readPart_51 h, c2, g_n]
  exact c4
theorem y_readPartB (hd : 8 ≤ d) (h : Sh σ) (R : RS σ B E (.inl e)) {n : Nat} (hn : n ≤ 4) (en : a_I σ 237 10 = nI n) : ∃ σ', a_call a_tab P d 249 [.ref 237] σ = some (.inl none, σ') ∧ Mo S26 σ σ' ∧ RS σ' B E (.inl e) := by
  obtain ⟨e1, e2⟩ := R.e25
  obtain ⟨s2, c2, m2, R2⟩ := y_checkT (P := P) (d := d - 1) (by omega) h R (c := 1) (by decide) (by decide)
  obtain ⟨s4, c4, m4, R4⟩ := y_pb25 (P := P) (d := d) (by omega) (m2.sh h) R2 hn (by rw [m2.I (by unfold S26; omega)]; exact en)
  refine ⟨s4, ?_, m2.tr m4, R4⟩
  rw [n_X8_readPart (by omega), b_X8_readPart_0 h, e1, if_neg e2, b_X8_readPart_16, b_X8_readPart_21 h, c2, g_n]
  exact c4
theorem y_readPart (H : Pm P) (hd : 8 ≤ d) (h : Sh σ) (M : MC σ w X) (V : Vd X) {q : Nat} (R : RS σ B E (.inr q)) {acc : Cnd} (T : TP σ acc) (A : Va (X.1 0) acc) : ∃ σ', a_call a_tab P d 249 [.ref 237] σ = some (.inl none, σ') ∧ Mo S31 σ σ' ∧ RS σ' B E (r_snd (g_part X B E acc q)) ∧ (∃ n, n ≤ 4 ∧ a_I σ' 237 10 = nI n) ∧ ∀ a q', g_part X B E acc q = .inr (a, q') → TP σ' a ∧ Va (X.1 0) a ∧ 0 < a.length := by
  have h20 := V.1
  obtain ⟨k1, k2, k3, k4⟩ := R.tok
  have hl4 := T.2.1
  have badx : ∀ {σ' : aSt} {e : Nat × Nat}, Mo S26 σ σ' → g_part X B E acc q = .inl e → (∃ n, n ≤ 4 ∧ a_I σ' 237 10 = nI n) ∧ ∀ a q', g_part X B E acc q = .inr (a, q') → TP σ' a ∧ Va (X.1 0) a ∧ 0 < a.length := fun m hg => ⟨⟨acc.length, hl4, by rw [m.I (by unfold S26; omega)]; exact T.1⟩, fun a q' hz => by rw [hg] at hz; cases hz⟩
  rw [n_X8_readPart (by omega), b_X8_readPart_0 h, R.2.2.2, if_pos (show nI 0 = 0 from rfl), R.2.2.1.1, b_X8_readPart_16, b_X8_readPart_21 h, b_X8_readPart_21 h]
  by_cases c2 : (k_tok B E q).1 = 2
  rotate_left
  · obtain ⟨s1, d1, m1, R1⟩ := y_checkF (P := P) (d := d - 1) (by omega) h R (c := 1) (by decide) (by decide)
    have R1 : RS s1 B E (.inl (1, (k_tok B E q).2.1)) := R1
    obtain ⟨s2, d2, m2, R2⟩ := y_pb25 (P := P) (d := d) (by omega) (m1.sh h) R1 hl4 (T.s26 m1).1
    have hg : g_part X B E acc q = .inl (1, (k_tok B E q).2.1) := if_neg c2
    obtain ⟨b1, b2⟩ := badx (m1.tr m2) hg
    refine ⟨s2, ?_, (m1.tr m2).mono fun b k z => z.p, by rw [hg]; exact R2, b1, b2⟩
    rw [if_neg (fun z => c2 ((o_eq (by omega) (by omega)).mp z)), d1, g_n]
    exact d2
  obtain ⟨s1, d1, m1, R1⟩ := y_checkT (P := P) (d := d - 1) (by omega) h R (c := 1) (by decide) (by decide)
  have h1 := m1.sh h
  have T1 := T.s26 m1
  have hv : k_big B (k_tok B E q) ≤ 2000000000 := by
    unfold k_big
    rw [if_pos c2]
    exact k_v_le _
  have hin := k_big_in (B := B) (E := E) (r' := q) c2 (hi := 9) (lo := 1) (by decide)
  rw [if_pos (congrArg nI c2), d1, g_n, b_X8_readPart_25 h1, R1.2.2.2, if_pos (show nI 0 = 0 from rfl), y_value H (by omega) h1 R1, g_v, b_X8_readPart_37, y_inR (by omega) (by decide) (by decide), g_v, o_of (by omega), b_X8_readPart_43, b_X8_readPart_46, b_X8_readPart_51 h1, b_X8_readPart_51 h1]
  by_cases cr : 1 ≤ k_num B (k_tok B E q) ∧ k_num B (k_tok B E q) ≤ 9
  rotate_left
  · obtain ⟨s2, d2, m2, R2⟩ := y_checkF (P := P) (d := d - 1) (by omega) h1 R1 (c := 2) (by decide) (by decide)
    have R2 : RS s2 B E (.inl (2, (k_tok B E q).2.1)) := R2
    have m12 := m1.tr m2
    obtain ⟨s3, d3, m3, R3⟩ := y_pb55 (P := P) (d := d) (by omega) (m12.sh h) R2 hl4 (T.s26 m12).1
    have hg : g_part X B E acc q = .inl (2, (k_tok B E q).2.1) := by
      unfold g_part
      rw [if_pos c2, if_pos (by omega)]
    obtain ⟨b1, b2⟩ := badx (m12.tr m3) hg
    refine ⟨s3, ?_, (m12.tr m3).mono fun b k z => z.p, by rw [hg]; exact R3, b1, b2⟩
    rw [decide_eq_false (fun z => cr (hin.mp z).1), if_pos (show b_n false = 0 by decide), d2, g_n]
    exact d3
  have eb : k_big B (k_tok B E q) = k_num B (k_tok B E q) := by
    unfold k_big k_num at *
    rw [if_pos c2] at *
    rcases k_v_two (c := 2000000000) (c' := 1000000) (B := B) (s := (k_tok B E q).2.1) (by decide) (by decide) ((k_tok B E q).2.2 - (k_tok B E q).2.1) with ⟨e, -⟩ | ⟨-, z⟩
    · exact e
    · omega
  obtain ⟨s2, d2, m2, R2⟩ := y_checkT (P := P) (d := d - 1) (by omega) h1 R1 (c := 2) (by decide) (by decide)
  have m12 := m1.tr m2
  have h2 := m12.sh h
  have T2 := T.s26 m12
  rw [decide_eq_true (hin.mpr ⟨cr, eb⟩), if_neg (show ¬ b_n true = 0 by decide), d2, g_n, b_X8_readPart_55 h2, R2.2.2.2, if_pos (show nI 0 = 0 from rfl), T2.1, b_X8_readPart_71, b_X8_readPart_76 h2, b_X8_readPart_76 h2]
  by_cases c4 : 4 ≤ acc.length
  · obtain ⟨s3, d3, m3, R3⟩ := y_checkF (P := P) (d := d - 1) (by omega) h2 R2 (c := 3) (by decide) (by decide)
    have R3 : RS s3 B E (.inl (3, (k_tok B E q).2.1)) := R3
    have m13 := m12.tr m3
    obtain ⟨s4, d4, m4, R4⟩ := y_pb80 (P := P) (d := d) (by omega) (m13.sh h) R3 hl4 (T.s26 m13).1
    have hg : g_part X B E acc q = .inl (3, (k_tok B E q).2.1) := by
      unfold g_part
      rw [if_pos c2, if_neg (by omega), if_pos c4]
    obtain ⟨b1, b2⟩ := badx (m13.tr m4) hg
    refine ⟨s4, ?_, (m13.tr m4).mono fun b k z => z.p, by rw [hg]; exact R4, b1, b2⟩
    rw [if_neg (nIn c4 (by omega)), d3, g_n]
    exact d4
  obtain ⟨s3, d3, m3, R3⟩ := y_checkT (P := P) (d := d - 1) (by omega) h2 R2 (c := 3) (by decide) (by decide)
  have m13 := m12.tr m3
  have h3 := m13.sh h
  obtain ⟨s4, d4, m4, R4⟩ := y_advance (P := P) (d := d - 1) (by omega) h3 R3
  have m14 := m13.tr m4
  have h4 := m14.sh h
  have T4 := T.s26 m14
  have M4 := M.s26 m14
  have R4 : RS s4 B E (.inr (k_tok B E q).2.2) := R4
  obtain ⟨j1, j2, j3, j4⟩ := R4.tok
  rw [if_pos (nIl (by omega) (by omega)), d3, g_n, b_X8_readPart_80 h3, R3.2.2.2, if_pos (show nI 0 = 0 from rfl), y_value H (by omega) h3 R3, g_v, b_X8_readPart_91, b_X8_readPart_95 h3, d4, g_n, b_X8_readPart_100 h4, y_isWordHere (by omega) h4 R4, g_v, b_X8_readPart_105 h4, show (r_q (.inr (k_tok B E q).2.2) fun q => (k_tok B E q).1 == 1) = ((k_tok B E (k_tok B E q).2.2).1 == 1) from rfl, eb]
  by_cases c5 : (k_tok B E (k_tok B E q).2.2).1 = 1
  rotate_left
  · obtain ⟨s5, d5, m5, R5⟩ := y_checkF (P := P) (d := d - 1) (by omega) h4 R4 (c := 1) (by decide) (by decide)
    have R5 : RS s5 B E (.inl (1, (k_tok B E (k_tok B E q).2.2).2.1)) := R5
    have m15 := m14.tr m5
    obtain ⟨s6, d6, m6, R6⟩ := y_pb109 (P := P) (d := d) (by omega) (m15.sh h) R5 hl4 (T.s26 m15).1 (x1 := nI (k_num B (k_tok B E q)))
    have hg : g_part X B E acc q = .inl (1, (k_tok B E (k_tok B E q).2.2).2.1) := by
      unfold g_part
      rw [if_pos c2, if_neg (by omega), if_neg c4, if_neg c5]
    obtain ⟨b1, b2⟩ := badx (m15.tr m6) hg
    refine ⟨s6, ?_, (m15.tr m6).mono fun b k z => z.p, by rw [hg]; exact R6, b1, b2⟩
    rw [beq_eq_false_iff_ne.mpr c5, show b_n false = nI 0 from rfl, d5, g_n]
    exact d6
  obtain ⟨s5, d5, m5, R5⟩ := y_checkT (P := P) (d := d - 1) (by omega) h4 R4 (c := 1) (by decide) (by decide)
  have m15 := m14.tr m5
  have h5 := m15.sh h
  have T5 := T.s26 m15
  have M5 := M.s26 m15
  rw [c5, show b_n (1 == 1) = nI 1 from rfl, d5, g_n, b_X8_readPart_109 h5, R5.2.2.2, if_pos (show nI 0 = 0 from rfl), y_tubeHere (by omega) h5 M5 V R5 c5, g_v, b_X8_readPart_120, b_X8_readPart_124]
  have hgm : g_part X B E acc q = match r_here X B (k_tok B E (k_tok B E q).2.2) 0 with
      | none => .inl (4, (k_tok B E (k_tok B E q).2.2).2.1)
      | some r => if acc.any (fun a => a.1 == r) then .inl (4, (k_tok B E (k_tok B E q).2.2).2.1) else .inr (acc ++ [(r, k_num B (k_tok B E q))], (k_tok B E (k_tok B E q).2.2).2.2) := by
    unfold g_part
    rw [if_pos c2, if_neg (by omega), if_neg c4, if_pos c5]
    rfl
  have hol : ∀ a, r_here X B (k_tok B E (k_tok B E q).2.2) 0 = some a → a < 20 ∧ a < X.1 0 := fun a ha => by have := r_here_lt ha; omega
  generalize r_here X B (k_tok B E (k_tok B E q).2.2) 0 = o at hgm hol ⊢
  -- whether it is there already
  have e6 := up_0 (run := fun i => b_R (a_call a_tab P (d - 1)) kX8_readPart [] (130, [some (.ref 237), some (.int (nI (k_num B (k_tok B E q)))), some (.int (g_res o)), some (.int (b_n (q_any (fun i => some (acc.getD i (0, 0)).1 == o) i))), some (.int (nI i))], [], s5)) (n := acc.length) fun i hi => by
    have ai := (A.2.1 i hi).1
    (try dsimp only)
    rw [b_X8_readPart_130 h5, T5.1, if_pos (nIl hi (by omega)), b_gd_t (nIi (by omega) (by decide)), nIc (by omega), (T5.2.2 i hi).1, b_X8_readPart_154, b_X8_readPart_159, b_X8_readPart_159, nI_add]
    show _ = b_R (a_call a_tab P (d - 1)) kX8_readPart [] (130, [some (.ref 237), some (.int (nI (k_num B (k_tok B E q)))), some (.int (g_res o)), some (.int (b_n (q_any (fun i => some (acc.getD i (0, 0)).1 == o) i || (some (acc.getD i (0, 0)).1 == o)))), some (.int (nI (i + 1)))], [], s5)
    cases q_any (fun i => some (acc.getD i (0, 0)).1 == o) i with
    | true => rw [if_neg (show ¬ b_n true = 0 by decide)]; rfl
    | false =>
      rw [if_pos (show b_n false = 0 by decide)]
      cases o with
      | none => rw [if_neg (show ¬ nI (acc.getD i (0, 0)).1 = g_res none from nI_m1 (by omega))]; rfl
      | some a =>
        have := (hol a rfl).1
        by_cases c7 : (acc.getD i (0, 0)).1 = a
        · rw [if_pos (show nI (acc.getD i (0, 0)).1 = g_res (some a) from congrArg nI c7), c7, beq_self_eq_true]; rfl
        · rw [show g_res (some a) = nI a from rfl, if_neg (fun z => c7 ((o_eq (by omega) (by omega)).mp z)), show (some (acc.getD i (0, 0)).1 == some a) = false from beq_eq_false_iff_ne.mpr fun z => c7 (Option.some.inj z)]; rfl
  have e6 : b_R (a_call a_tab P (d - 1)) kX8_readPart [] (130, [some (.ref 237), some (.int (nI (k_num B (k_tok B E q)))), some (.int (g_res o)), some (.int (nI 0)), some (.int (nI 0))], [], s5) = _ := e6
  rw [e6, b_X8_readPart_130 h5, T5.1, if_neg (nIn (Nat.le_refl _) (by omega)), R5.2.2.2, if_pos (show nI 0 = 0 from rfl), b_X8_readPart_183, b_X8_readPart_187, b_X8_readPart_188 h5, b_X8_readPart_188 h5]
  have wrong : g_part X B E acc q = .inl (4, (k_tok B E (k_tok B E q).2.2).2.1) → ∃ σ', b_G (a_call a_tab P (d - 1)) kX8_readPart [] 189 192 [some (.ref 237), some (.int (nI (k_num B (k_tok B E q)))), some (.int (g_res o)), some (.int (b_n (q_any (fun i => some (acc.getD i (0, 0)).1 == o) acc.length))), some (.int (nI acc.length))] [] (a_call a_tab P (d - 1) 233 [.ref 237, .int (nI 0), .int (nI 4)] s5) = some (.inl none, σ') ∧ Mo S31 σ σ' ∧ RS σ' B E (r_snd (g_part X B E acc q)) ∧ (∃ n, n ≤ 4 ∧ a_I σ' 237 10 = nI n) ∧ ∀ a q', g_part X B E acc q = .inr (a, q') → TP σ' a ∧ Va (X.1 0) a ∧ 0 < a.length := fun hg => by
    obtain ⟨s7, d7, m7, R7⟩ := y_checkF (P := P) (d := d - 1) (by omega) h5 R5 (c := 4) (by decide) (by decide)
    have R7 : RS s7 B E (.inl (4, (k_tok B E (k_tok B E q).2.2).2.1)) := R7
    obtain ⟨s8, d8, m8, R8⟩ := y_pb192 (P := P) (d := d) (by omega) (m7.sh h5) R7 (x1 := nI (k_num B (k_tok B E q))) (x2 := g_res o) (x3 := b_n (q_any (fun i => some (acc.getD i (0, 0)).1 == o) acc.length)) (x4 := nI acc.length)
    obtain ⟨b1, b2⟩ := badx ((m15.tr m7).tr m8) hg
    refine ⟨s8, ?_, ((m15.tr m7).tr m8).mono fun b k z => z.p, by rw [hg]; exact R8, b1, b2⟩
    rw [d7, g_n]
    exact d8
  cases o with
  | none =>
    rw [show g_res none = -1 from rfl, if_pos rfl]
    exact wrong hgm
  | some a =>
    have ha := (hol a rfl).1
    have hal := (hol a rfl).2
    have ea : q_any (fun i => some (acc.getD i (0, 0)).1 == some a) acc.length = acc.any (fun b => b.1 == a) := by
      rw [← y_any]
      exact q_any_congr fun i _ => rfl
    rw [show g_res (some a) = nI a from rfl, if_neg (nI_m1 (by omega))]
    have hgm : g_part X B E acc q = if acc.any (fun b => b.1 == a) then .inl (4, (k_tok B E (k_tok B E q).2.2).2.1) else .inr (acc ++ [(a, k_num B (k_tok B E q))], (k_tok B E (k_tok B E q).2.2).2.2) := hgm
    cases hany : acc.any (fun b => b.1 == a) with
    | true =>
      rw [hany, if_pos rfl] at hgm
      rw [if_neg (by rw [ea, hany]; decide)]
      exact wrong hgm
    | false =>
      rw [hany, if_neg Bool.false_ne_true] at hgm
      obtain ⟨s7, d7, m7, R7⟩ := y_checkT (P := P) (d := d - 1) (by omega) h5 R5 (c := 4) (by decide) (by decide)
      have m17 := m15.tr m7
      have h7 := m17.sh h
      have T7 := T.s26 m17
      have m8 : Mo (fun b k => b = 242 ∨ b = 243 ∨ (b = 237 ∧ k = 10)) s7 (a_setI (a_setI (a_setI s7 242 acc.length (nI a)) 243 acc.length (nI (k_num B (k_tok B E q)))) 237 10 (nI (acc.length + 1))) := ((Mo.set (.inl rfl)).then_set (.inr (.inl rfl))).then_set (.inr (.inr ⟨rfl, rfl⟩))
      have h8 := m8.sh h7
      have R8 := R7.mo m8 (fun k _ _ => by omega) (fun k => by omega)
      obtain ⟨s9, d9, m9, R9⟩ := y_advance (P := P) (d := d - 1) (by omega) h8 R8
      have la : (acc ++ [(a, k_num B (k_tok B E q))]).length = acc.length + 1 := by rw [List.length_append]; rfl
      have Ta : TP (a_setI (a_setI (a_setI s7 242 acc.length (nI a)) 243 acc.length (nI (k_num B (k_tok B E q)))) 237 10 (nI (acc.length + 1))) (acc ++ [(a, k_num B (k_tok B E q))]) := by
        refine ⟨by rw [la]; exact a_I_at, by omega, fun i hi => ?_⟩
        rw [la] at hi
        have x2 : ∀ j, a_I (a_setI (a_setI (a_setI s7 242 acc.length (nI a)) 243 acc.length (nI (k_num B (k_tok B E q)))) 237 10 (nI (acc.length + 1))) 242 j = if j = acc.length then nI a else a_I s7 242 j := fun j => by
          rw [a_I_off (.inl (by decide)), a_I_off (.inl (by decide))]
          by_cases hj : j = acc.length
          · subst hj; rw [a_I_at, if_pos rfl]
          · rw [a_I_off (.inr hj), if_neg hj]
        have x3 : ∀ j, a_I (a_setI (a_setI (a_setI s7 242 acc.length (nI a)) 243 acc.length (nI (k_num B (k_tok B E q)))) 237 10 (nI (acc.length + 1))) 243 j = if j = acc.length then nI (k_num B (k_tok B E q)) else a_I s7 243 j := fun j => by
          rw [a_I_off (.inl (by decide))]
          by_cases hj : j = acc.length
          · subst hj; rw [a_I_at, if_pos rfl]
          · rw [a_I_off (.inr hj), a_I_off (.inl (by decide)), if_neg hj]
        rw [x2, x3]
        by_cases hia : i = acc.length
        · subst hia
          rw [z_getL, if_pos rfl, if_pos rfl]
          exact ⟨rfl, rfl⟩
        · rw [z_getA (by omega), if_neg hia, if_neg hia]
          exact T7.2.2 i (by omega)
      refine ⟨s9, ?_, ((m17.mono fun b k z => z.p).tr (m8.mono fun b k z => by unfold S31; omega)).tr (m9.mono fun b k z => z.p), by rw [hgm]; exact R9, ⟨acc.length + 1, by omega, by rw [m9.I (by unfold S26; omega)]; exact a_I_at⟩, fun a' q' hz => ?_⟩
      · rw [ea, hany, if_pos (show b_n false = 0 by decide), d7, g_n, b_X8_readPart_192 h7, R7.2.2.2, if_pos (show nI 0 = 0 from rfl), T7.1, b_gd_t (nIi (by omega) (by decide)), b_gd_t (show a_in (a_I (a_setI s7 242 (Int32.toNatClampNeg (nI acc.length)) (nI a)) 237 10) 4 from by rw [a_I_off (.inl (by decide)), T7.1]; exact nIi (by omega) (by decide)), nIc (by omega), show a_I (a_setI s7 242 acc.length (nI a)) 237 10 = nI acc.length from (a_I_off (.inl (by decide))).trans T7.1, nIc (by omega), a_I_off (.inl (by decide)), a_I_off (.inl (by decide)), T7.1, nI_add, b_X8_readPart_229 h8, d9, g_n, b_X8_readPart_233]
      · rw [hgm] at hz
        cases hz
        exact ⟨Ta.s26 m9, A.snoc (by omega) hal cr hany, by rw [la]; omega⟩
end MOR2
