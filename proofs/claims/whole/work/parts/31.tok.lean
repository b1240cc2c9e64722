/-! Tokens -/
def k_bl (b : Nat) : Bool := b == 32 || b == 10
def k_al (b : Nat) : Bool := decide (97 ≤ b) && decide (b ≤ 122)
def k_dg (b : Nat) : Bool := decide (48 ≤ b) && decide (b ≤ 57)
def k_run (p : Nat → Bool) (B : Nat → Nat) (E : Nat) : Nat → Nat → Nat
  | 0, n => n
  | f + 1, n => if n < E ∧ p (B n) = true then k_run p B E f (n + 1) else n
def k_to (p : Nat → Bool) (B : Nat → Nat) (E n : Nat) : Nat := k_run p B E (E - n) n
/-- kind, first byte and end of the token from n on -/
def k_tok (B : Nat → Nat) (E n : Nat) : Nat × Nat × Nat :=
  if k_to k_bl B E n < E then
    (if k_al (B (k_to k_bl B E n)) then (1, k_to k_bl B E n, k_to k_al B E (k_to k_bl B E n)) else if k_dg (B (k_to k_bl B E n)) then (2, k_to k_bl B E n, k_to k_dg B E (k_to k_bl B E n)) else (3, k_to k_bl B E n, k_to k_bl B E n + 1))
  else (0, k_to k_bl B E n, k_to k_bl B E n)
/-- the number of n digits from s on, up to a bound -/
def k_v (c : Nat) (B : Nat → Nat) (s : Nat) : Nat → Nat
  | 0 => 0
  | n + 1 => min c (10 * k_v c B s n + (B (s + n) - 48))
theorem k_run_le {p : Nat → Bool} {B : Nat → Nat} {E : Nat} : ∀ (f n : Nat), n ≤ k_run p B E f n ∧ (n ≤ E → k_run p B E f n ≤ E)
  | 0, n => ⟨Nat.le_refl _, fun h => h⟩
  | f + 1, n => by
    unfold k_run
    split
    · rename_i h
      have := k_run_le (p := p) (B := B) (E := E) f (n + 1)
      exact ⟨by omega, fun _ => this.2 (by omega)⟩
    · exact ⟨Nat.le_refl _, fun h => h⟩
theorem k_run_in {p : Nat → Bool} {B : Nat → Nat} {E : Nat} : ∀ (f n i : Nat), n ≤ i → i < k_run p B E f n → p (B i) = true
  | 0, n, i, h1, h2 => by
    have h2 : i < n := h2
    omega
  | f + 1, n, i, h1, h2 => by
    unfold k_run at h2
    split at h2
    · rename_i h
      by_cases hi : i = n
      · rw [hi]; exact h.2
      · exact k_run_in f (n + 1) i (by omega) h2
    · omega
theorem k_run_end {p : Nat → Bool} {B : Nat → Nat} {E : Nat} : ∀ (f n : Nat), E ≤ n + f → k_run p B E f n < E → p (B (k_run p B E f n)) = false
  | 0, n, h1, h2 => by
    have h2 : n < E := h2
    omega
  | f + 1, n, h1, h2 => by
    unfold k_run at h2 ⊢
    split at h2
    · rename_i h
      rw [if_pos h]
      exact k_run_end f (n + 1) (by omega) h2
    · rename_i h
      rw [if_neg h]
      cases hp : p (B n) with
      | false => rfl
      | true => exact absurd ⟨h2, hp⟩ h
theorem k_to_le {p : Nat → Bool} {B : Nat → Nat} {E n : Nat} : n ≤ k_to p B E n ∧ (n ≤ E → k_to p B E n ≤ E) := k_run_le _ _
theorem k_to_end {p : Nat → Bool} {B : Nat → Nat} {E n : Nat} (h : k_to p B E n < E) : p (B (k_to p B E n)) = false := k_run_end _ _ (by omega) h
theorem k_to_in {p : Nat → Bool} {B : Nat → Nat} {E n i : Nat} (h1 : n ≤ i) (h2 : i < k_to p B E n) : p (B i) = true := k_run_in _ _ _ h1 h2
theorem k_to_one {p : Nat → Bool} {B : Nat → Nat} {E n : Nat} (h : n < E) (hp : p (B n) = true) : k_to p B E n = k_to p B E (n + 1) := by
  unfold k_to
  obtain ⟨f, hf⟩ : ∃ f, E - n = f + 1 := ⟨E - n - 1, by omega⟩
  rw [hf, show E - (n + 1) = f by omega]
  exact if_pos ⟨h, hp⟩
theorem k_to_not {p : Nat → Bool} {B : Nat → Nat} {E n : Nat} (hp : ¬ (n < E ∧ p (B n) = true)) : k_to p B E n = n := by
  unfold k_to
  cases E - n with
  | zero => rfl
  | succ f => exact if_neg hp
theorem k_v_le {c : Nat} {B : Nat → Nat} {s : Nat} : ∀ n, k_v c B s n ≤ c
  | 0 => Nat.zero_le _
  | n + 1 => Nat.min_le_left _ _
/-- two bounds above a million tell the same numbers below it -/
theorem k_v_two {c c' : Nat} {B : Nat → Nat} {s : Nat} (h1 : 1000000 ≤ c) (h2 : 1000000 ≤ c') : ∀ n, (k_v c B s n = k_v c' B s n ∧ k_v c B s n < 1000000) ∨ (1000000 ≤ k_v c B s n ∧ 1000000 ≤ k_v c' B s n)
  | 0 => .inl ⟨rfl, by show (0 : Nat) < _; decide⟩
  | n + 1 => by
    have ih := k_v_two (B := B) (s := s) h1 h2 n
    show (min c (10 * k_v c B s n + (B (s + n) - 48)) = min c' (10 * k_v c' B s n + (B (s + n) - 48)) ∧ min c (10 * k_v c B s n + (B (s + n) - 48)) < 1000000) ∨ (1000000 ≤ min c (10 * k_v c B s n + (B (s + n) - 48)) ∧ 1000000 ≤ min c' (10 * k_v c' B s n + (B (s + n) - 48)))
    rcases ih with ⟨e, h⟩ | ⟨h, h'⟩
    · rw [← e]
      omega
    · right
      omega
/-- the text in the buffer -/
def TB (σ : aSt) (B : Nat → Nat) (E : Nat) : Prop := a_I σ 220 2 = nI E ∧ E ≤ 900 ∧ ∀ i, i < E → a_I σ 221 i = nI (B i) ∧ B i < 256
/-- the token -/
def TF (σ : aSt) (B : Nat → Nat) (t : Nat × Nat × Nat) : Prop := a_I σ 220 4 = nI t.1 ∧ a_I σ 220 5 = nI t.2.1 ∧ a_I σ 220 3 = nI t.2.2 ∧ a_I σ 220 6 = nI (if t.1 = 2 then k_v 1000000 B t.2.1 (t.2.2 - t.2.1) else if t.1 = 3 then B t.2.1 else 0)
def S3 (b k : Nat) : Prop := b = 220 ∧ (k = 3 ∨ k = 4 ∨ k = 5 ∨ k = 6)
theorem TB.mo {σ σ' : aSt} {B : Nat → Nat} {E : Nat} {S : Nat → Nat → Prop} (h : TB σ B E) (m : Mo S σ σ') (h1 : ¬ S 220 2) (h2 : ∀ k, ¬ S 221 k) : TB σ' B E :=
  ⟨by rw [m.I h1]; exact h.1, h.2.1, fun i hi => by rw [m.I (h2 i)]; exact h.2.2 i hi⟩
theorem TF.mo {σ σ' : aSt} {B : Nat → Nat} {t : Nat × Nat × Nat} {S : Nat → Nat → Prop} (h : TF σ B t) (m : Mo S σ σ') (h1 : ∀ k, 3 ≤ k → k ≤ 6 → ¬ S 220 k) : TF σ' B t :=
  ⟨by rw [m.I (h1 _ (by decide) (by decide))]; exact h.1, by rw [m.I (h1 _ (by decide) (by decide))]; exact h.2.1, by rw [m.I (h1 _ (by decide) (by decide))]; exact h.2.2.1, by rw [m.I (h1 _ (by decide) (by decide))]; exact h.2.2.2⟩
theorem k_tok_le {B : Nat → Nat} {E n : Nat} (h : n ≤ E) : n ≤ (k_tok B E n).2.1 ∧ (k_tok B E n).2.1 ≤ (k_tok B E n).2.2 ∧ (k_tok B E n).2.2 ≤ E := by
  have h1 := k_to_le (p := k_bl) (B := B) (E := E) (n := n)
  have h2 := h1.2 h
  have h3 := k_to_le (p := k_al) (B := B) (E := E) (n := k_to k_bl B E n)
  have h4 := k_to_le (p := k_dg) (B := B) (E := E) (n := k_to k_bl B E n)
  unfold k_tok
  split
  · rename_i h5
    split
    · exact ⟨h1.1, h3.1, h3.2 h2⟩
    · split
      · exact ⟨h1.1, h4.1, h4.2 h2⟩
      · exact ⟨h1.1, Nat.le_succ _, h5⟩
  · exact ⟨h1.1, Nat.le_refl _, h2⟩
section TOK
variable {P : aCall} {d : Nat} {σ : aSt} {B : Nat → Nat} {E : Nat}
theorem s_advance (H : Pm P) (hd : 1 ≤ d) (h : Sh σ) (T : TB σ B E) {n : Nat} (hn : n ≤ E) (e3 : a_I σ 220 3 = nI n) : ∃ σ', a_call a_tab P d 18 [.ref 220] σ = some (.inl none, σ') ∧ Mo S3 σ σ' ∧ TF σ' B (k_tok B E n) := by
  have hE := T.2.1
  rw [n_X6_advance hd, b_X6_advance_0 h, T.1, s_minN H (by omega) (by decide), g_v, b_X6_advance_12, Nat.min_eq_left hE]
  have tb : ∀ s, Mo S3 σ s → TB s B E := fun s m => T.mo m (by unfold S3; omega) (fun k => by unfold S3; omega)
  -- blanks
  have l1 : ∀ f n s, f = E - n → n ≤ E → Mo S3 σ s → a_I s 220 3 = nI n → ∃ s', Mo S3 σ s' ∧ a_I s' 220 3 = nI (k_to k_bl B E n) ∧ b_R (a_call a_tab P (d - 1)) kX6_advance [] (13, [some (.ref 220), some (.int (nI E))], [], s) = b_R (a_call a_tab P (d - 1)) kX6_advance [] (62, [some (.ref 220), some (.int (nI E))], [], s') := by
    intro f
    induction f with
    | zero =>
      intro n s hf hn m e
      refine ⟨s, m, by rw [k_to_not (by omega)]; exact e, ?_⟩
      rw [b_X6_advance_13 (m.sh h), e, if_neg (nIn (by omega) (by omega))]
    | succ f ih =>
      intro n s hf hn m e
      obtain ⟨t1, t2⟩ := (tb s m).2.2 n (by omega)
      rw [b_X6_advance_13 (m.sh h)]
      simp only [e, nIc (show n < 2147483648 by omega), t1]
      rw [if_pos (nIl (by omega) (by omega)), b_gd_t (nIi (by omega) (by decide))]
      have go : k_bl (B n) = true → ∃ s', Mo S3 σ s' ∧ a_I s' 220 3 = nI (k_to k_bl B E n) ∧ b_R (a_call a_tab P (d - 1)) kX6_advance [] (49, [some (.ref 220), some (.int (nI E))], [], s) = b_R (a_call a_tab P (d - 1)) kX6_advance [] (62, [some (.ref 220), some (.int (nI E))], [], s') := by
        intro hb
        obtain ⟨s', m', e', r'⟩ := ih (n + 1) (a_setI s 220 3 (nI (n + 1))) (by omega) (by omega) (m.then_set ⟨rfl, .inl rfl⟩) a_I_at
        refine ⟨s', m', by rw [k_to_one (by omega) hb]; exact e', ?_⟩
        rw [b_X6_advance_49 (m.sh h), e, nI_add]
        exact r'
      by_cases c1 : B n = 32
      · rw [if_pos (congrArg nI c1)]
        exact go (by unfold k_bl; rw [c1]; rfl)
      · rw [if_neg (fun z => c1 ((nI_eq (by omega) (by decide)).mp z)), b_gd_t (nIi (by omega) (by decide))]
        by_cases c2 : B n = 10
        · rw [if_pos (congrArg nI c2)]
          exact go (by unfold k_bl; rw [c2]; rfl)
        · rw [if_neg (fun z => c2 ((nI_eq (by omega) (by decide)).mp z))]
          refine ⟨s, m, ?_, rfl⟩
          rw [k_to_not (fun z => by
            have h1 : (B n == 32 || B n == 10) = true := z.2
            rw [beq_false_of_ne c1, beq_false_of_ne c2] at h1
            cases h1)]
          exact e
  -- letters
  have l2 : ∀ f n s, f = E - n → n ≤ E → Mo S3 σ s → a_I s 220 3 = nI n → ∃ s', Mo S3 σ s' ∧ Mo (fun b k => b = 220 ∧ k = 3) s s' ∧ a_I s' 220 3 = nI (k_to k_al B E n) ∧ b_R (a_call a_tab P (d - 1)) kX6_advance [] (75, [some (.ref 220), some (.int (nI E))], [], s) = b_R (a_call a_tab P (d - 1)) kX6_advance [] (124, [some (.ref 220), some (.int (nI E))], [], s') := by
    intro f
    induction f with
    | zero =>
      intro n s hf hn m e
      refine ⟨s, m, Mo.rf, by rw [k_to_not (by omega)]; exact e, ?_⟩
      rw [b_X6_advance_75 (m.sh h), e, if_neg (nIn (by omega) (by omega))]
    | succ f ih =>
      intro n s hf hn m e
      obtain ⟨t1, t2⟩ := (tb s m).2.2 n (by omega)
      rw [b_X6_advance_75 (m.sh h)]
      simp only [e, nIc (show n < 2147483648 by omega), t1]
      rw [if_pos (nIl (by omega) (by omega)), b_gd_t (nIi (by omega) (by decide))]
      by_cases c1 : B n < 97
      · rw [if_pos (nIl c1 (by decide))]
        refine ⟨s, m, Mo.rf, ?_, rfl⟩
        rw [k_to_not (fun z => by
          have h1 : (decide (97 ≤ B n) && decide (B n ≤ 122)) = true := z.2
          rw [decide_eq_false (by omega)] at h1
          cases h1)]
        exact e
      · rw [if_neg (nIn (by omega) (by omega)), b_gd_t (nIi (by omega) (by decide))]
        by_cases c2 : 122 < B n
        · rw [if_pos (nIl c2 (by omega))]
          refine ⟨s, m, Mo.rf, ?_, rfl⟩
          rw [k_to_not (fun z => by
            have h1 : (decide (97 ≤ B n) && decide (B n ≤ 122)) = true := z.2
            rw [decide_eq_false (by omega : ¬ B n ≤ 122), Bool.and_false] at h1
            cases h1)]
          exact e
        · rw [if_neg (nIn (by omega) (by omega)), nI_add]
          obtain ⟨s', m', mm, e', r'⟩ := ih (n + 1) (a_setI s 220 3 (nI (n + 1))) (by omega) (by omega) (m.then_set ⟨rfl, .inl rfl⟩) a_I_at
          refine ⟨s', m', (Mo.set ⟨rfl, rfl⟩ : Mo (fun b k => b = 220 ∧ k = 3) s _).tr mm, ?_, r'⟩
          rw [k_to_one (by omega) (by unfold k_al; rw [decide_eq_true (by omega : 97 ≤ B n), decide_eq_true (by omega : B n ≤ 122)]; rfl)]
          exact e'
  -- digits
  have l3 : ∀ f n s st, f = E - n → n ≤ E → st ≤ n → Mo S3 σ s → a_I s 220 3 = nI n → a_I s 220 6 = nI (k_v 1000000 B st (n - st)) → ∃ s', Mo S3 σ s' ∧ Mo (fun b k => b = 220 ∧ (k = 3 ∨ k = 6)) s s' ∧ a_I s' 220 3 = nI (k_to k_dg B E n) ∧ a_I s' 220 6 = nI (k_v 1000000 B st (k_to k_dg B E n - st)) ∧ b_R (a_call a_tab P (d - 1)) kX6_advance [] (141, [some (.ref 220), some (.int (nI E))], [], s) = b_R (a_call a_tab P (d - 1)) kX6_advance [] (219, [some (.ref 220), some (.int (nI E))], [], s') := by
    intro f
    induction f with
    | zero =>
      intro n s st hf hn hst m e e6
      refine ⟨s, m, Mo.rf, by rw [k_to_not (by omega)]; exact e, by rw [k_to_not (by omega)]; exact e6, ?_⟩
      rw [b_X6_advance_141 (m.sh h), e, if_neg (nIn (by omega) (by omega))]
    | succ f ih =>
      intro n s st hf hn hst m e e6
      obtain ⟨t1, t2⟩ := (tb s m).2.2 n (by omega)
      have hv := k_v_le (c := 1000000) (B := B) (s := st) (n - st)
      rw [b_X6_advance_141 (m.sh h)]
      simp only [e, nIc (show n < 2147483648 by omega), t1]
      rw [if_pos (nIl (by omega) (by omega)), b_gd_t (nIi (by omega) (by decide))]
      by_cases c1 : B n < 48
      · rw [if_pos (nIl c1 (by decide))]
        have ek : k_to k_dg B E n = n := k_to_not (fun z => by
          have h1 : (decide (48 ≤ B n) && decide (B n ≤ 57)) = true := z.2
          rw [decide_eq_false (by omega)] at h1
          cases h1)
        exact ⟨s, m, Mo.rf, by rw [ek]; exact e, by rw [ek]; exact e6, rfl⟩
      · rw [if_neg (nIn (by omega) (by omega)), b_gd_t (nIi (by omega) (by decide))]
        by_cases c2 : 57 < B n
        · rw [if_pos (nIl c2 (by omega))]
          have ek : k_to k_dg B E n = n := k_to_not (fun z => by
            have h1 : (decide (48 ≤ B n) && decide (B n ≤ 57)) = true := z.2
            rw [decide_eq_false (by omega : ¬ B n ≤ 57), Bool.and_false] at h1
            cases h1)
          exact ⟨s, m, Mo.rf, by rw [ek]; exact e, by rw [ek]; exact e6, rfl⟩
        · have ev : min 1000000 (10 * k_v 1000000 B st (n - st) + B n - 48) = k_v 1000000 B st (n + 1 - st) := by
            rw [show n + 1 - st = (n - st) + 1 by omega]
            show _ = min 1000000 (10 * k_v 1000000 B st (n - st) + (B (st + (n - st)) - 48))
            rw [show st + (n - st) = n by omega]
            congr 1
            omega
          rw [if_neg (nIn (by omega) (by omega)), b_gd_t (nIi (by omega) (by decide)), e6, pk_mul, nI_add, pk_sub (by omega), s_minN H (by decide) (by omega), g_v, b_X6_advance_203 (m.sh h), a_I_off (.inr (by decide)), e, nI_add, ev]
          obtain ⟨s', m', mm, e', e6', r'⟩ := ih (n + 1) (a_setI (a_setI s 220 6 (nI (k_v 1000000 B st (n + 1 - st)))) 220 3 (nI (n + 1))) st (by omega) (by omega) (by omega) ((m.then_set ⟨rfl, .inr (.inr (.inr rfl))⟩).then_set ⟨rfl, .inl rfl⟩) a_I_at (by rw [a_I_off (.inr (by decide)), a_I_at])
          have ek := k_to_one (p := k_dg) (B := B) (E := E) (n := n) (by omega) (by unfold k_dg; rw [decide_eq_true (by omega : 48 ≤ B n), decide_eq_true (by omega : B n ≤ 57)]; rfl)
          refine ⟨s', m', ((Mo.set ⟨rfl, .inr rfl⟩ : Mo (fun b k => b = 220 ∧ (k = 3 ∨ k = 6)) s _).then_set ⟨rfl, .inl rfl⟩).tr mm, by rw [ek]; exact e', by rw [ek]; exact e6', r'⟩
  obtain ⟨s1, m1, e1, r1⟩ := l1 (E - n) n σ rfl hn Mo.rf e3
  have hs := (k_to_le (p := k_bl) (B := B) (E := E) (n := n)).2 hn
  obtain ⟨s, hsd⟩ : ∃ s, s = k_to k_bl B E n := ⟨_, rfl⟩
  have ht : k_tok B E n = if s < E then (if k_al (B s) then (1, s, k_to k_al B E s) else if k_dg (B s) then (2, s, k_to k_dg B E s) else (3, s, s + 1)) else (0, s, s) := by rw [hsd]; rfl
  rw [← hsd] at e1 hs
  rw [r1, b_X6_advance_62 (m1.sh h), e1, ht]
  have m2 := (m1.then_set (a := 220) (k := 5) (v := nI s) ⟨rfl, .inr (.inr (.inl rfl))⟩).then_set (a := 220) (k := 6) (v := nI 0) ⟨rfl, .inr (.inr (.inr rfl))⟩
  obtain ⟨s3, m3, mm3, e3', r3⟩ := l2 (E - s) s _ rfl hs m2 (by rw [a_I_off (.inr (by decide)), a_I_off (.inr (by decide))]; exact e1)
  have x5 : a_I s3 220 5 = nI s := by rw [mm3.I (by omega)]; rfl
  have x6 : a_I s3 220 6 = nI 0 := by rw [mm3.I (by omega)]; rfl
  rw [r3, b_X6_advance_124 (m3.sh h), x5, e3']
  by_cases hlt : s < E
  · rw [if_pos hlt]
    by_cases hal : k_al (B s) = true
    · have hk : s < k_to k_al B E s := by rw [k_to_one hlt hal]; have := (k_to_le (p := k_al) (B := B) (E := E) (n := s + 1)).1; omega
      have hk2 := (k_to_le (p := k_al) (B := B) (E := E) (n := s)).2 hs
      rw [if_pos (nIl hk (by omega)), if_pos hal]
      refine ⟨_, rfl, m3.then_set ⟨rfl, .inr (.inl rfl)⟩, a_I_at, ?_, ?_, ?_⟩
      · rw [a_I_off (.inr (by decide))]; exact x5
      · rw [a_I_off (.inr (by decide))]; exact e3'
      · rw [a_I_off (.inr (by decide))]; exact x6
    · have hk : k_to k_al B E s = s := k_to_not (fun z => hal z.2)
      rw [hk] at e3'
      rw [hk, if_neg (nIn (Nat.le_refl _) (by omega)), if_neg hal]
      obtain ⟨s4, m4, mm4, e4, e46, r4⟩ := l3 (E - s) s s3 s rfl hs (Nat.le_refl _) m3 e3' (by rw [Nat.sub_self]; exact x6)
      have y5 : a_I s4 220 5 = nI s := by rw [mm4.I (by omega)]; exact x5
      rw [r4, b_X6_advance_219 (m4.sh h), y5, e4]
      by_cases hdg : k_dg (B s) = true
      · have hk3 : s < k_to k_dg B E s := by rw [k_to_one hlt hdg]; have := (k_to_le (p := k_dg) (B := B) (E := E) (n := s + 1)).1; omega
        have hk2 := (k_to_le (p := k_dg) (B := B) (E := E) (n := s)).2 hs
        rw [if_pos (nIl hk3 (by omega)), if_pos hdg, b_X6_advance_282]
        refine ⟨_, rfl, m4.then_set ⟨rfl, .inr (.inl rfl)⟩, a_I_at, ?_, ?_, ?_⟩
        · rw [a_I_off (.inr (by decide))]; exact y5
        · rw [a_I_off (.inr (by decide))]; exact e4
        · rw [a_I_off (.inr (by decide))]; exact e46
      · have hk3 : k_to k_dg B E s = s := k_to_not (fun z => hdg z.2)
        rw [hk3] at e4
        have t1 := (tb s4 m4).2.2 s hlt
        have z3 : a_I (a_setI s4 220 4 (nI 3)) 220 3 = nI s := by rw [a_I_off (.inr (by decide))]; exact e4
        have z1 : a_I (a_setI s4 220 4 (nI 3)) 221 s = nI (B s) := by rw [a_I_off (.inl (by decide))]; exact t1.1
        rw [hk3, if_neg (nIn (Nat.le_refl _) (by omega)), if_pos (nIl hlt (by omega)), if_neg hdg]
        simp only [z3, nIc (show s < 2147483648 by omega), z1]
        rw [b_gd_t (nIi (by omega) (by decide)), a_I_off (.inr (by decide)), z3, nI_add, b_X6_advance_282]
        refine ⟨_, rfl, ((m4.then_set ⟨rfl, .inr (.inl rfl)⟩).then_set ⟨rfl, .inr (.inr (.inr rfl))⟩).then_set ⟨rfl, .inl rfl⟩, ?_, ?_, a_I_at, ?_⟩
        · rw [a_I_off (.inr (by decide)), a_I_off (.inr (by decide)), a_I_at]
        · rw [a_I_off (.inr (by decide)), a_I_off (.inr (by decide)), a_I_off (.inr (by decide))]; exact y5
        · rw [a_I_off (.inr (by decide)), a_I_at]; rfl
  · have hse : s = E := by omega
    have hk : k_to k_al B E s = s := k_to_not (fun z => hlt z.1)
    rw [hk] at e3'
    rw [if_neg hlt, hk, if_neg (nIn (Nat.le_refl _) (by omega))]
    obtain ⟨s4, m4, mm4, e4, e46, r4⟩ := l3 (E - s) s s3 s rfl hs (Nat.le_refl _) m3 e3' (by rw [Nat.sub_self]; exact x6)
    have hk3 : k_to k_dg B E s = s := k_to_not (fun z => hlt z.1)
    rw [hk3] at e4
    have y5 : a_I s4 220 5 = nI s := by rw [mm4.I (by omega)]; exact x5
    have y6 : a_I s4 220 6 = nI 0 := by rw [e46, hk3, Nat.sub_self]; rfl
    rw [r4, b_X6_advance_219 (m4.sh h), y5, e4, if_neg (nIn (Nat.le_refl _) (by omega)), if_neg (nIn (by omega) (by omega)), b_X6_advance_282]
    refine ⟨_, rfl, m4.then_set ⟨rfl, .inr (.inl rfl)⟩, a_I_at, ?_, ?_, ?_⟩
    · rw [a_I_off (.inr (by decide))]; exact y5
    · rw [a_I_off (.inr (by decide))]; exact e4
    · rw [a_I_off (.inr (by decide))]; exact y6
end TOK
