/-! the model: tokens -/
def RB (σ : aSt) (B : Nat → Nat) (E : Nat) : Prop := a_I σ 237 21 = nI E ∧ E ≤ 900 ∧ ∀ i, i < E → a_I σ 247 i = nI (B i) ∧ B i < 256
/-- the token that the model looks at -/
def RT (σ : aSt) (t : Nat × Nat × Nat) : Prop := a_I σ 237 24 = nI t.1 ∧ a_I σ 237 23 = nI t.2.1 ∧ a_I σ 237 22 = nI t.2.2
/-- the model reads: the token from q on is next, or the error e was found -/
def RS (σ : aSt) (B : Nat → Nat) (E : Nat) (r : (Nat × Nat) ⊕ Nat) : Prop := RB σ B E ∧ match r with
  | .inl e => (∃ t : Nat × Nat × Nat, (t.1 ≤ 3 ∧ t.2.1 ≤ t.2.2 ∧ t.2.2 ≤ E) ∧ RT σ t) ∧ (1 ≤ e.1 ∧ e.1 ≤ 4 ∧ e.2 ≤ 900) ∧ a_I σ 237 25 = nI e.1 ∧ a_I σ 237 26 = nI e.2
  | .inr q => q ≤ E ∧ RT σ (k_tok B E q) ∧ a_I σ 237 25 = nI 0
def S22 (b k : Nat) : Prop := b = 237 ∧ k = 22
def S24 (b k : Nat) : Prop := b = 237 ∧ 22 ≤ k ∧ k ≤ 24
def S26 (b k : Nat) : Prop := b = 237 ∧ 22 ≤ k ∧ k ≤ 26
theorem RB.mo {S : Nat → Nat → Prop} {σ σ' : aSt} {B : Nat → Nat} {E : Nat} (h : RB σ B E) (m : Mo S σ σ') (h1 : ¬ S 237 21) (h2 : ∀ k, ¬ S 247 k) : RB σ' B E := ⟨(m.I h1).trans h.1, h.2.1, fun i hi => ⟨(m.I (h2 i)).trans (h.2.2 i hi).1, (h.2.2 i hi).2⟩⟩
theorem RT.mo {S : Nat → Nat → Prop} {σ σ' : aSt} {t : Nat × Nat × Nat} (h : RT σ t) (m : Mo S σ σ') (h1 : ∀ k, 22 ≤ k → k ≤ 24 → ¬ S 237 k) : RT σ' t := ⟨(m.I (h1 _ (by decide) (by decide))).trans h.1, (m.I (h1 _ (by decide) (by decide))).trans h.2.1, (m.I (h1 _ (by decide) (by decide))).trans h.2.2⟩
theorem RS.mo {S : Nat → Nat → Prop} {σ σ' : aSt} {B : Nat → Nat} {E : Nat} {r : (Nat × Nat) ⊕ Nat} (h : RS σ B E r) (m : Mo S σ σ') (h1 : ∀ k, 21 ≤ k → k ≤ 26 → ¬ S 237 k) (h2 : ∀ k, ¬ S 247 k) : RS σ' B E r := by
  refine ⟨h.1.mo m (h1 _ (by decide) (by decide)) h2, ?_⟩
  cases r with
  | inl e =>
    obtain ⟨-, ⟨t, t1, t2⟩, e1, e2, e3⟩ := h
    exact ⟨⟨t, t1, t2.mo m fun k a b => h1 k (by omega) (by omega)⟩, e1, (m.I (h1 _ (by decide) (by decide))).trans e2, (m.I (h1 _ (by decide) (by decide))).trans e3⟩
  | inr q =>
    obtain ⟨-, q1, q2, q3⟩ := h
    exact ⟨q1, q2.mo m fun k a b => h1 k (by omega) (by omega), (m.I (h1 _ (by decide) (by decide))).trans q3⟩
section MON
variable {P : aCall} {d : Nat} {σ : aSt} {B : Nat → Nat} {E : Nat}
def z_by (B : Nat → Nat) (E n : Nat) : Int32 := if n < E then nI (B n) else -1
theorem y_byteAt (hd : 1 ≤ d) (h : Sh σ) (R : RB σ B E) {n : Nat} (hn : n ≤ 900) : a_call a_tab P d 226 [.ref 237, .int (nI n)] σ = some (.inl (some (.int (z_by B E n))), σ) := by
  have h9 := R.2.1
  rw [n_X8_byteAt (by omega), b_X8_byteAt_0 h, R.1, b_X8_byteAt_18]
  unfold z_by
  by_cases c : n < E
  · rw [if_pos c, if_pos (nIl c (by omega)), b_gd_t (nIi (by omega) (by decide)), nIc (by omega), (R.2.2 n c).1]
  · rw [if_neg c, if_neg (nIn (by omega) (by omega)), b_X8_byteAt_18]
theorem z_by_eq (R : RB σ B E) {n c : Nat} (hc : c < 256) : z_by B E n = nI c ↔ (n < E ∧ B n = c) := by
  unfold z_by
  by_cases h : n < E
  · have := (R.2.2 n h).2
    rw [if_pos h, o_eq (by omega) (by omega)]
    exact ⟨fun z => ⟨h, z⟩, fun z => z.2⟩
  · rw [if_neg h]
    exact ⟨fun z => absurd z.symm (nI_m1 (by omega)), fun z => absurd z.1 h⟩
theorem y_range (R : RB σ B E) {n lo hi : Nat} (hlo : lo < 256) (hhi : hi < 256) : (¬ z_by B E n < nI lo ∧ ¬ nI hi < z_by B E n) ↔ (n < E ∧ lo ≤ B n ∧ B n ≤ hi) := by
  unfold z_by
  by_cases h : n < E
  · have := (R.2.2 n h).2
    rw [if_pos h]
    constructor
    · rintro ⟨h1, h2⟩
      exact ⟨h, Nat.le_of_not_lt fun z => h1 (nIl z (by omega)), Nat.le_of_not_lt fun z => h2 (nIl z (by omega))⟩
    · rintro ⟨-, h1, h2⟩
      exact ⟨nIn h1 (by omega), nIn h2 (by omega)⟩
  · rw [if_neg h]
    constructor
    · rintro ⟨h1, -⟩
      exact absurd (by rw [Int32.lt_iff_toInt_lt, show (-1 : Int32).toInt = -1 from rfl, o_int, o_of (by omega), if_pos (by omega)]; omega) h1
    · rintro ⟨z, -⟩
      exact absurd z h
theorem y_isLetter (hd : 2 ≤ d) (h : Sh σ) (R : RB σ B E) {n : Nat} (hn : n ≤ 900) : a_call a_tab P d 227 [.ref 237, .int (nI n)] σ = some (.inl (some (.int (b_n (decide (n < E) && k_al (B n))))), σ) := by
  have key := y_range R (n := n) (lo := 97) (hi := 122) (by decide) (by decide)
  rw [n_X8_isLetter (by omega), b_X8_isLetter_0 h, y_byteAt (by omega) h R hn, g_v, b_X8_isLetter_5 h, y_byteAt (by omega) h R hn, g_v, b_X8_isLetter_15, b_X8_isLetter_24, b_X8_isLetter_25, b_X8_isLetter_25, b_gd_t (by decide), b_gd_t (by decide)]
  by_cases c : n < E ∧ 97 ≤ B n ∧ B n ≤ 122
  · obtain ⟨h1, h2⟩ := key.mpr c
    rw [if_neg h1, if_neg h2]
    unfold k_al
    rw [decide_eq_true c.1, decide_eq_true c.2.1, decide_eq_true c.2.2]
    rfl
  · have e : (decide (n < E) && k_al (B n)) = false := by
      cases q : decide (n < E) && k_al (B n) with
      | false => rfl
      | true =>
        unfold k_al at q
        rw [Bool.and_eq_true, Bool.and_eq_true, decide_eq_true_eq, decide_eq_true_eq, decide_eq_true_eq] at q
        exact absurd ⟨q.1, q.2.1, q.2.2⟩ c
    rw [e]
    by_cases h1 : z_by B E n < nI 97
    · rw [if_pos h1]; rfl
    · rw [if_neg h1]
      by_cases h2 : nI 122 < z_by B E n
      · rw [if_pos h2]; rfl
      · exact absurd (key.mp ⟨h1, h2⟩) c
theorem y_isDigit (hd : 2 ≤ d) (h : Sh σ) (R : RB σ B E) {n : Nat} (hn : n ≤ 900) : a_call a_tab P d 228 [.ref 237, .int (nI n)] σ = some (.inl (some (.int (b_n (decide (n < E) && k_dg (B n))))), σ) := by
  have key := y_range R (n := n) (lo := 48) (hi := 57) (by decide) (by decide)
  rw [n_X8_isDigit (by omega), b_X8_isDigit_0 h, y_byteAt (by omega) h R hn, g_v, b_X8_isDigit_5 h, y_byteAt (by omega) h R hn, g_v, b_X8_isDigit_15, b_X8_isDigit_24, b_X8_isDigit_25, b_X8_isDigit_25, b_gd_t (by decide), b_gd_t (by decide)]
  by_cases c : n < E ∧ 48 ≤ B n ∧ B n ≤ 57
  · obtain ⟨h1, h2⟩ := key.mpr c
    rw [if_neg h1, if_neg h2]
    unfold k_dg
    rw [decide_eq_true c.1, decide_eq_true c.2.1, decide_eq_true c.2.2]
    rfl
  · have e : (decide (n < E) && k_dg (B n)) = false := by
      cases q : decide (n < E) && k_dg (B n) with
      | false => rfl
      | true =>
        unfold k_dg at q
        rw [Bool.and_eq_true, Bool.and_eq_true, decide_eq_true_eq, decide_eq_true_eq, decide_eq_true_eq] at q
        exact absurd ⟨q.1, q.2.1, q.2.2⟩ c
    rw [e]
    by_cases h1 : z_by B E n < nI 48
    · rw [if_pos h1]; rfl
    · rw [if_neg h1]
      by_cases h2 : nI 57 < z_by B E n
      · rw [if_pos h2]; rfl
      · exact absurd (key.mp ⟨h1, h2⟩) c
theorem y_blanks (hd : 2 ≤ d) : ∀ (f n : Nat) (σ : aSt), n ≤ E → E - n = f → Sh σ → RB σ B E → a_I σ 237 22 = nI n → ∃ σ', b_R (a_call a_tab P (d - 1)) kX8_scan [] (0, [some (.ref 237)], [], σ) = b_R (a_call a_tab P (d - 1)) kX8_scan [] (21, [some (.ref 237)], [.int (z_by B E (k_to k_bl B E n))], σ') ∧ Mo S22 σ σ' ∧ a_I σ' 237 22 = nI (k_to k_bl B E n) := by
  intro f
  induction f with
  | zero =>
    intro n σ hn hf h R e22
    have h9 := R.2.1
    have ek : k_to k_bl B E n = n := k_to_not fun z => by omega
    refine ⟨σ, ?_, Mo.rf, by rw [ek]; exact e22⟩
    rw [b_X8_scan_0 h, e22, y_byteAt (by omega) h R (by omega), g_v, b_X8_scan_8 h, if_neg (fun z => by have := ((z_by_eq R (by decide)).mp z).1; omega), e22, y_byteAt (by omega) h R (by omega), g_v, ek]
  | succ f ih =>
    intro n σ hn hf h R e22
    have h9 := R.2.1
    have nE : n < E := by omega
    by_cases hb : k_bl (B n) = true
    · have m1 : Mo S22 σ (a_setI σ 237 22 (nI (n + 1))) := Mo.set ⟨rfl, rfl⟩
      obtain ⟨s1, e1, m2, f22⟩ := ih (n + 1) (a_setI σ 237 22 (nI (n + 1))) (by omega) (by omega) (m1.sh h) (R.mo m1 (by unfold S22; omega) (fun k => by unfold S22; omega)) a_I_at
      have ek : k_to k_bl B E n = k_to k_bl B E (n + 1) := k_to_one nE hb
      refine ⟨s1, ?_, m1.tr m2, by rw [ek]; exact f22⟩
      have go : b_R (a_call a_tab P (d - 1)) kX8_scan [] (26, [some (.ref 237)], [], σ) = b_R (a_call a_tab P (d - 1)) kX8_scan [] (21, [some (.ref 237)], [.int (z_by B E (k_to k_bl B E n))], s1) := by
        rw [b_X8_scan_26 h, e22, nI_add, ek]
        exact e1
      rw [b_X8_scan_0 h, e22, y_byteAt (by omega) h R (by omega), g_v, b_X8_scan_8 h]
      by_cases c32 : z_by B E n = nI 32
      · rw [if_pos c32, go]
      · have c10 : z_by B E n = nI 10 := by
          unfold k_bl at hb
          rw [Bool.or_eq_true, beq_iff_eq, beq_iff_eq] at hb
          rcases hb with hb | hb
          · exact absurd ((z_by_eq R (by decide)).mpr ⟨nE, hb⟩) c32
          · exact (z_by_eq R (by decide)).mpr ⟨nE, hb⟩
        rw [if_neg c32, e22, y_byteAt (by omega) h R (by omega), g_v, b_X8_scan_21 h, if_pos c10, go]
    · have ek : k_to k_bl B E n = n := k_to_not fun z => hb z.2
      refine ⟨σ, ?_, Mo.rf, by rw [ek]; exact e22⟩
      rw [b_X8_scan_0 h, e22, y_byteAt (by omega) h R (by omega), g_v, b_X8_scan_8 h, if_neg (fun z => hb (by
        unfold k_bl
        rw [((z_by_eq R (by decide)).mp z).2]
        rfl)), e22, y_byteAt (by omega) h R (by omega), g_v, ek]
theorem y_letters (hd : 3 ≤ d) : ∀ (f n : Nat) (σ : aSt), n ≤ E → E - n = f → Sh σ → RB σ B E → a_I σ 237 22 = nI n → ∃ σ', b_R (a_call a_tab P (d - 1)) kX8_scan [] (77, [some (.ref 237)], [], σ) = some (.inl none, a_setI σ' 237 24 (nI 1)) ∧ Mo S22 σ σ' ∧ a_I σ' 237 22 = nI (k_to k_al B E n) := by
  intro f
  induction f with
  | zero =>
    intro n σ hn hf h R e22
    have h9 := R.2.1
    have ek : k_to k_al B E n = n := k_to_not fun z => by omega
    refine ⟨σ, ?_, Mo.rf, by rw [ek]; exact e22⟩
    rw [b_X8_scan_77 h, e22, y_isLetter (by omega) h R (by omega), g_v, b_X8_scan_85 h, decide_eq_false (show ¬ n < E by omega), Bool.false_and, if_pos (show b_n false = 0 by decide), b_X8_scan_167]
  | succ f ih =>
    intro n σ hn hf h R e22
    have h9 := R.2.1
    have nE : n < E := by omega
    rw [b_X8_scan_77 h, e22, y_isLetter (by omega) h R (by omega), g_v, b_X8_scan_85 h, decide_eq_true nE, Bool.true_and, e22, nI_add, b_X8_scan_167]
    cases hb : k_al (B n) with
    | true =>
      have m1 : Mo S22 σ (a_setI σ 237 22 (nI (n + 1))) := Mo.set ⟨rfl, rfl⟩
      obtain ⟨s1, e1, m2, f22⟩ := ih (n + 1) (a_setI σ 237 22 (nI (n + 1))) (by omega) (by omega) (m1.sh h) (R.mo m1 (by unfold S22; omega) (fun k => by unfold S22; omega)) a_I_at
      rw [if_neg (show ¬ b_n true = 0 by decide), e1]
      exact ⟨s1, rfl, m1.tr m2, by rw [k_to_one nE hb]; exact f22⟩
    | false =>
      rw [if_pos (show b_n false = 0 by decide)]
      exact ⟨σ, rfl, Mo.rf, by rw [k_to_not fun z => by rw [hb] at z; cases z.2]; exact e22⟩
theorem y_digits (hd : 3 ≤ d) : ∀ (f n : Nat) (σ : aSt), n ≤ E → E - n = f → Sh σ → RB σ B E → a_I σ 237 22 = nI n → ∃ σ', b_R (a_call a_tab P (d - 1)) kX8_scan [] (120, [some (.ref 237)], [], σ) = some (.inl none, a_setI σ' 237 24 (nI 2)) ∧ Mo S22 σ σ' ∧ a_I σ' 237 22 = nI (k_to k_dg B E n) := by
  intro f
  induction f with
  | zero =>
    intro n σ hn hf h R e22
    have h9 := R.2.1
    have ek : k_to k_dg B E n = n := k_to_not fun z => by omega
    refine ⟨σ, ?_, Mo.rf, by rw [ek]; exact e22⟩
    rw [b_X8_scan_120 h, e22, y_isDigit (by omega) h R (by omega), g_v, b_X8_scan_128 h, decide_eq_false (show ¬ n < E by omega), Bool.false_and, if_pos (show b_n false = 0 by decide), b_X8_scan_167]
  | succ f ih =>
    intro n σ hn hf h R e22
    have h9 := R.2.1
    have nE : n < E := by omega
    rw [b_X8_scan_120 h, e22, y_isDigit (by omega) h R (by omega), g_v, b_X8_scan_128 h, decide_eq_true nE, Bool.true_and, e22, nI_add, b_X8_scan_167]
    cases hb : k_dg (B n) with
    | true =>
      have m1 : Mo S22 σ (a_setI σ 237 22 (nI (n + 1))) := Mo.set ⟨rfl, rfl⟩
      obtain ⟨s1, e1, m2, f22⟩ := ih (n + 1) (a_setI σ 237 22 (nI (n + 1))) (by omega) (by omega) (m1.sh h) (R.mo m1 (by unfold S22; omega) (fun k => by unfold S22; omega)) a_I_at
      rw [if_neg (show ¬ b_n true = 0 by decide), e1]
      exact ⟨s1, rfl, m1.tr m2, by rw [k_to_one nE hb]; exact f22⟩
    | false =>
      rw [if_pos (show b_n false = 0 by decide)]
      exact ⟨σ, rfl, Mo.rf, by rw [k_to_not fun z => by rw [hb] at z; cases z.2]; exact e22⟩
theorem y_scan (hd : 4 ≤ d) (h : Sh σ) (R : RB σ B E) {n : Nat} (hn : n ≤ E) (e22 : a_I σ 237 22 = nI n) : ∃ σ', a_call a_tab P d 229 [.ref 237] σ = some (.inl none, σ') ∧ Mo S24 σ σ' ∧ RT σ' (k_tok B E n) := by
  have h9 := R.2.1
  obtain ⟨s1, e1, m1, f22⟩ := y_blanks (P := P) (d := d) (by omega) (E - n) n σ hn rfl h R e22
  have hle := (k_to_le (p := k_bl) (B := B) (E := E) (n := n)).2 hn
  have hend := fun hE => k_to_end (p := k_bl) (B := B) (E := E) (n := n) hE
  rw [n_X8_scan (by omega), e1]
  unfold k_tok
  generalize k_to k_bl B E n = j at *
  have h1 := m1.sh h
  have m2 : Mo S24 s1 (a_setI s1 237 23 (nI j)) := Mo.set (by unfold S24; omega)
  have m12 : Mo S24 σ (a_setI s1 237 23 (nI j)) := (m1.mono fun b k z => by unfold S22 at z; unfold S24; omega).tr m2
  have h2 := m12.sh h
  have R2 := R.mo m12 (by unfold S24; omega) (fun k => by unfold S24; omega)
  have g22 : a_I (a_setI s1 237 23 (nI j)) 237 22 = nI j := by rw [a_I_off (.inr (by decide))]; exact f22
  have g23 : a_I (a_setI s1 237 23 (nI j)) 237 23 = nI j := a_I_at
  rw [b_X8_scan_21 h1, f22, if_neg (fun z => by
    obtain ⟨z1, z2⟩ := (z_by_eq (R.mo m1 (by unfold S22; omega) (fun k => by unfold S22; omega)) (by decide)).mp z
    have := hend z1
    unfold k_bl at this
    rw [z2] at this
    cases this), g22, R2.1]
  by_cases c0 : j < E
  · rw [if_pos c0, if_pos (nIl c0 (by omega)), y_isLetter (by omega) h2 R2 (by omega), g_v, b_X8_scan_74 h2, decide_eq_true c0, Bool.true_and]
    cases ca : k_al (B j) with
    | true =>
      obtain ⟨s3, e3, m3, i22⟩ := y_letters (P := P) (d := d) (by omega) (E - j) j _ (by omega) rfl h2 R2 g22
      rw [if_neg (show ¬ b_n true = 0 by decide), e3, if_pos rfl]
      have m4 := (m12.tr (m3.mono fun b k z => by unfold S22 at z; unfold S24; omega)).then_set (a := 237) (k := 24) (v := nI 1) (by unfold S24; omega)
      exact ⟨_, rfl, m4, a_I_at, by rw [a_I_off (.inr (by decide)), m3.I (by unfold S22; omega)]; exact g23, by rw [a_I_off (.inr (by decide))]; exact i22⟩
    | false =>
      rw [if_pos (show b_n false = 0 by decide), if_neg Bool.false_ne_true, g22, y_isDigit (by omega) h2 R2 (by omega), g_v, b_X8_scan_117 h2, decide_eq_true c0, Bool.true_and, g22, nI_add, b_X8_scan_167]
      cases cd : k_dg (B j) with
      | true =>
        obtain ⟨s3, e3, m3, i22⟩ := y_digits (P := P) (d := d) (by omega) (E - j) j _ (by omega) rfl h2 R2 g22
        rw [if_neg (show ¬ b_n true = 0 by decide), e3, if_pos rfl]
        have m4 := (m12.tr (m3.mono fun b k z => by unfold S22 at z; unfold S24; omega)).then_set (a := 237) (k := 24) (v := nI 2) (by unfold S24; omega)
        exact ⟨_, rfl, m4, a_I_at, by rw [a_I_off (.inr (by decide)), m3.I (by unfold S22; omega)]; exact g23, by rw [a_I_off (.inr (by decide))]; exact i22⟩
      | false =>
        rw [if_pos (show b_n false = 0 by decide), if_neg Bool.false_ne_true]
        exact ⟨_, rfl, (m12.then_set (by unfold S24; omega)).then_set (by unfold S24; omega), a_I_at, by rw [a_I_off (.inr (by decide)), a_I_off (.inr (by decide))]; exact g23, by rw [a_I_off (.inr (by decide))]; exact a_I_at⟩
  · rw [if_neg c0, if_neg (nIn (by omega) (by omega)), b_X8_scan_167]
    exact ⟨_, rfl, m12.then_set (by unfold S24; omega), a_I_at, by rw [a_I_off (.inr (by decide))]; exact g23, by rw [a_I_off (.inr (by decide))]; exact g22⟩
def S28 (b k : Nat) : Prop := b = 237 ∧ 21 ≤ k ∧ k ≤ 28
theorem y_startText (hd : 5 ≤ d) (h : Sh σ) (hE : E ≤ 900) (hB : ∀ i, i < E → a_I σ 247 i = nI (B i) ∧ B i < 256) : ∃ σ', a_call a_tab P d 230 [.ref 237, .int (nI E)] σ = some (.inl none, σ') ∧ Mo (fun b k => b = 237 ∧ 21 ≤ k ∧ k ≤ 28 ∧ k ≠ 26 ∧ k ≠ 27) σ σ' ∧ RS σ' B E (.inr 0) ∧ a_I σ' 237 28 = nI 0 := by
  have m1 : Mo (fun b k => b = 237 ∧ 21 ≤ k ∧ k ≤ 28 ∧ k ≠ 26 ∧ k ≠ 27) σ (a_setI (a_setI (a_setI (a_setI σ 237 21 (nI E)) 237 22 (nI 0)) 237 25 (nI 0)) 237 28 (nI 0)) := (((Mo.set (by omega)).then_set (by omega)).then_set (by omega)).then_set (by omega)
  have R1 : RB (a_setI (a_setI (a_setI (a_setI σ 237 21 (nI E)) 237 22 (nI 0)) 237 25 (nI 0)) 237 28 (nI 0)) B E := ⟨by rw [a_I_off (.inr (by decide)), a_I_off (.inr (by decide)), a_I_off (.inr (by decide))]; exact a_I_at, hE, fun i hi => ⟨by rw [m1.I (by omega)]; exact (hB i hi).1, (hB i hi).2⟩⟩
  obtain ⟨s2, e2, m2, T⟩ := y_scan (P := P) (d := d - 1) (by omega) (m1.sh h) R1 (Nat.zero_le _) (by rw [a_I_off (.inr (by decide)), a_I_off (.inr (by decide))]; exact a_I_at)
  refine ⟨s2, ?_, m1.tr (m2.mono fun b k z => by unfold S24 at z; omega), ⟨R1.mo m2 (by unfold S24; omega) (fun k => by unfold S24; omega), Nat.zero_le _, T, by rw [m2.I (by unfold S24; omega), a_I_off (.inr (by decide))]; exact a_I_at⟩, by rw [m2.I (by unfold S24; omega)]; exact a_I_at⟩
  rw [n_X8_startText (by omega), b_X8_startText_0 h, e2, g_n, b_X8_startText_24]
end MON
