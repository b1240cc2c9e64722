/-! Tokens: what is asked of the token, and what takes it -/
def TG (σ : aSt) (B : Nat → Nat) (E q : Nat) : Prop := TB σ B E ∧ q ≤ E ∧ TF σ B (k_tok B E q)
/-- the first error: code and place -/
def EF (σ : aSt) (e : Option (Nat × Nat)) : Prop := match e with
  | none => a_I σ 220 8 = nI 0 ∧ a_I σ 220 9 = -1
  | some (c, p) => (1 ≤ c ∧ c ≤ 4 ∧ p ≤ 900) ∧ a_I σ 220 8 = nI c ∧ a_I σ 220 9 = nI p
def k_fl (e : Option (Nat × Nat)) (c p : Nat) : Option (Nat × Nat) := match e with | none => some (c, p) | some x => some x
theorem EF.mo {σ σ' : aSt} {e : Option (Nat × Nat)} {S : Nat → Nat → Prop} (h : EF σ e) (m : Mo S σ σ') (h8 : ¬ S 220 8) (h9 : ¬ S 220 9) : EF σ' e := by
  cases e with
  | none => exact ⟨by rw [m.I h8]; exact h.1, by rw [m.I h9]; exact h.2⟩
  | some x => exact ⟨h.1, by rw [m.I h8]; exact h.2.1, by rw [m.I h9]; exact h.2.2⟩
theorem TG.mo {σ σ' : aSt} {B : Nat → Nat} {E q : Nat} {S : Nat → Nat → Prop} (h : TG σ B E q) (m : Mo S σ σ') (h1 : ∀ k, k < 7 → ¬ S 220 k) (h2 : ∀ k, ¬ S 221 k) : TG σ' B E q :=
  ⟨h.1.mo m (h1 _ (by decide)) h2, h.2.1, h.2.2.mo m fun k h3 h4 => h1 _ (by omega)⟩
/-- whether a token is this word; its letters, zeros behind them -/
def k_is (B : Nat → Nat) (t : Nat × Nat × Nat) (x : List Nat) : Bool := t.1 == 1 && (t.2.2 - t.2.1 == x.length && !q_any (fun i => B (t.2.1 + i) != x.getD i 0) x.length)
def k_n8 (B : Nat → Nat) (t : Nat × Nat × Nat) (k : Nat) : Nat := if t.2.1 + k < t.2.2 then B (t.2.1 + k) else 0
def k_sg (B : Nat → Nat) (t : Nat × Nat × Nat) (c : Nat) : Bool := t.1 == 3 && B t.2.1 == c
def k_num (B : Nat → Nat) (t : Nat × Nat × Nat) : Nat := k_v 1000000 B t.2.1 (t.2.2 - t.2.1)
/-- all that a reader of tokens may change -/
def St (b k : Nat) : Prop := b = 220 ∧ (k = 3 ∨ k = 4 ∨ k = 5 ∨ k = 6 ∨ k = 8 ∨ k = 9)
theorem k_tok_kind {B : Nat → Nat} {E n : Nat} : (k_tok B E n).1 ≤ 3 := by
  unfold k_tok
  split
  · split
    · exact Nat.le_of_ble_eq_true rfl
    · split <;> exact Nat.le_of_ble_eq_true rfl
  · exact Nat.zero_le _
theorem k_tok_lt {B : Nat → Nat} {E n : Nat} (h : (k_tok B E n).1 ≠ 0) : (k_tok B E n).2.1 < E ∧ (k_tok B E n).2.1 < (k_tok B E n).2.2 := by
  unfold k_tok at *
  split
  · rename_i h1
    rw [if_pos h1] at h
    split
    · rename_i h2
      refine ⟨h1, ?_⟩
      show k_to k_bl B E n < k_to k_al B E (k_to k_bl B E n)
      rw [k_to_one h1 h2]
      have := (k_to_le (p := k_al) (B := B) (E := E) (n := k_to k_bl B E n + 1)).1
      omega
    · split
      · rename_i h2
        refine ⟨h1, ?_⟩
        show k_to k_bl B E n < k_to k_dg B E (k_to k_bl B E n)
        rw [k_to_one h1 h2]
        have := (k_to_le (p := k_dg) (B := B) (E := E) (n := k_to k_bl B E n + 1)).1
        omega
      · exact ⟨h1, Nat.lt_succ_self _⟩
  · rename_i h1
    rw [if_neg h1] at h
    exact absurd rfl h
section TKB
variable {P : aCall} {d : Nat} {σ : aSt} {B : Nat → Nat} {E q : Nat} {e : Option (Nat × Nat)}
theorem s_adv (H : Pm P) (hd : 1 ≤ d) (h : Sh σ) (T : TG σ B E q) : ∃ σ', a_call a_tab P d 18 [.ref 220] σ = some (.inl none, σ') ∧ Mo S3 σ σ' ∧ TG σ' B E (k_tok B E q).2.2 := by
  obtain ⟨σ', e1, m, F⟩ := s_advance (P := P) (d := d) H hd h T.1 (k_tok_le T.2.1).2.2 T.2.2.2.2.1
  exact ⟨σ', e1, m, T.1.mo m (by unfold S3; omega) (fun k => by unfold S3; omega), (k_tok_le T.2.1).2.2, F⟩
theorem s_atEnd (hd : 1 ≤ d) (h : Sh σ) (T : TG σ B E q) : a_call a_tab P d 19 [.ref 220] σ = some (.inl (some (.int (b_n ((k_tok B E q).1 == 0)))), σ) := by
  have hk := k_tok_kind (B := B) (E := E) (n := q)
  rw [n_X6_atEnd hd, b_X6_atEnd_0 h, T.2.2.1]
  by_cases c : (k_tok B E q).1 = 0
  · rw [c, if_pos (by decide), b_X6_atEnd_12]
    exact b_gd_t (by decide)
  · rw [if_neg (nI_ne0 (by omega) (by omega)), b_X6_atEnd_12, beq_false_of_ne c]
    exact b_gd_t (by decide)
theorem s_isNumber (hd : 1 ≤ d) (h : Sh σ) (T : TG σ B E q) : a_call a_tab P d 20 [.ref 220] σ = some (.inl (some (.int (b_n ((k_tok B E q).1 == 2)))), σ) := by
  have hk := k_tok_kind (B := B) (E := E) (n := q)
  rw [n_X6_isNumber hd, b_X6_isNumber_0 h, T.2.2.1]
  by_cases c : (k_tok B E q).1 = 2
  · rw [c, if_pos rfl, b_X6_isNumber_13]
    exact b_gd_t (by decide)
  · rw [if_neg (fun z => c ((nI_eq (by omega) (by decide)).mp z)), b_X6_isNumber_13, beq_false_of_ne c]
    exact b_gd_t (by decide)
theorem s_isWord (hd : 1 ≤ d) (h : Sh σ) (T : TG σ B E q) : a_call a_tab P d 21 [.ref 220] σ = some (.inl (some (.int (b_n ((k_tok B E q).1 == 1)))), σ) := by
  have hk := k_tok_kind (B := B) (E := E) (n := q)
  rw [n_X6_isWord hd, b_X6_isWord_0 h, T.2.2.1]
  by_cases c : (k_tok B E q).1 = 1
  · rw [c, if_pos rfl, b_X6_isWord_13]
    exact b_gd_t (by decide)
  · rw [if_neg (fun z => c ((nI_eq (by omega) (by decide)).mp z)), b_X6_isWord_13, beq_false_of_ne c]
    exact b_gd_t (by decide)
theorem s_isTooLong (hd : 1 ≤ d) (h : Sh σ) (T : TG σ B E q) : a_call a_tab P d 22 [.ref 220] σ = some (.inl (some (.int (b_n (decide (8 < (k_tok B E q).2.2 - (k_tok B E q).2.1))))), σ) := by
  have hk := k_tok_le (B := B) T.2.1
  have hE := T.1.2.1
  rw [n_X6_isTooLong hd, b_X6_isTooLong_0 h, T.2.2.2.1, T.2.2.2.2.1, pk_sub hk.2.1]
  by_cases c : 8 < (k_tok B E q).2.2 - (k_tok B E q).2.1
  · rw [if_pos (nIl c (by omega)), b_X6_isTooLong_19, decide_eq_true c]
    exact b_gd_t (by decide)
  · rw [if_neg (nIn (by omega) (by omega)), b_X6_isTooLong_19, decide_eq_false c]
    exact b_gd_t (by decide)
theorem s_isSign (hd : 1 ≤ d) (h : Sh σ) (T : TG σ B E q) {c : Nat} (hc : c < 256) : a_call a_tab P d 24 [.ref 220, .int (nI c)] σ = some (.inl (some (.int (b_n (k_sg B (k_tok B E q) c)))), σ) := by
  have hk := k_tok_kind (B := B) (E := E) (n := q)
  rw [n_X6_isSign hd, b_X6_isSign_0 h, T.2.2.1, T.2.2.2.2.2]
  unfold k_sg
  by_cases c3 : (k_tok B E q).1 = 3
  · have hB := (T.1.2.2 _ (k_tok_lt (by omega : (k_tok B E q).1 ≠ 0)).1).2
    rw [c3, if_pos rfl, if_neg (show ¬ (3 : Nat) = 2 by decide), if_pos (show (3 : Nat) = 3 from rfl)]
    by_cases cb : B (k_tok B E q).2.1 = c
    · rw [cb, if_pos rfl, b_X6_isSign_21, beq_self_eq_true, beq_self_eq_true]
      exact b_gd_t (by decide)
    · rw [if_neg (fun z => cb ((nI_eq (by omega) (by omega)).mp z)), b_X6_isSign_20, b_X6_isSign_21, beq_false_of_ne cb]
      exact b_gd_t (by decide)
  · rw [if_neg (fun z => c3 ((nI_eq (by omega) (by decide)).mp z)), b_X6_isSign_20, b_X6_isSign_21, beq_false_of_ne c3]
    exact b_gd_t (by decide)
theorem s_isW (H : Pm P) (hd : 1 ≤ d) (h : Sh σ) (T : TG σ B E q) {s : Nat} (h1 : 1 ≤ s) (h2 : s ≤ 18) : a_call a_tab P d 25 [.ref 220, .ref s] σ = some (.inl (some (.int (b_n (k_is B (k_tok B E q) (q_txt s))))), σ) := by
  have hk := k_tok_kind (B := B) (E := E) (n := q)
  have hle := k_tok_le (B := B) T.2.1
  have hE := T.1.2.1
  have h6 := h.2.2.2 s h1 h2
  have hlen : (q_txt s).length ≤ 9 ∧ ∀ i, i < (q_txt s).length → (q_txt s).getD i 0 < 128 := by
    have : ∀ s, s < 19 → (q_txt s).length ≤ 9 ∧ ∀ i, i < (q_txt s).length → (q_txt s).getD i 0 < 128 := by decide +kernel
    exact this s (by omega)
  rw [n_X6_isWord_ hd, b_X6_isWord__0 h, T.2.2.1, T.2.2.2.1, T.2.2.2.2.1, pk_sub hle.2.1]
  unfold k_is
  by_cases c1 : (k_tok B E q).1 = 1
  · rw [c1, if_pos rfl, s_slen H h1 h2 h6, g_v, b_X6_isWord__21]
    by_cases c2 : (k_tok B E q).2.2 - (k_tok B E q).2.1 = (q_txt s).length
    · rw [if_pos (congrArg nI c2)]
      rcases up_ex (run := fun i (o : Option Value) => b_R (a_call a_tab P (d - 1)) kX6_isWord_ [] (28, [some (.ref 220), some (.ref s), some (.int (nI i)), o], [], σ)) (n := (q_txt s).length) (I := fun i _ => ∀ k, k < i → (B ((k_tok B E q).2.1 + k) != (q_txt s).getD k 0) = false) (E := fun z => (∃ k, k < (q_txt s).length ∧ (B ((k_tok B E q).2.1 + k) != (q_txt s).getD k 0) = true) ∧ z = some (.inl (some (.int (nI 0))), σ))
        (fun i o hi hI => by
          have t1 := T.1.2.2 ((k_tok B E q).2.1 + i) (by omega)
          have t2 := hlen.2 i hi
          (try dsimp only)
          rw [b_X6_isWord__28, s_slen H h1 h2 h6, g_v, b_X6_isWord__33 h, if_pos (nIl hi (by omega))]
          simp only [T.2.2.2.1, nI_add, nIc (show (k_tok B E q).2.1 + i < 2147483648 by omega), t1.1]
          rw [if_neg (nIp (by omega)), if_pos (nIl (by omega) (by decide)), b_gd_t (nIi (by omega) (by decide)), s_schar H h1 h2 h6 hi, g_v, b_X6_isWord__67]
          by_cases he : B ((k_tok B E q).2.1 + i) = (q_txt s).getD i 0
          · refine .inl ⟨some (.int (nI ((k_tok B E q).2.1 + i))), fun k hk => ?_, by rw [if_pos (congrArg nI he), nI_add]⟩
            by_cases hk2 : k = i
            · subst hk2; rw [he]; exact bne_self_eq_false _
            · exact hI k (by omega)
          · exact .inr ⟨⟨i, hi, bne_iff_ne.mpr he⟩, by rw [if_neg (fun z => he ((nI_eq (by omega) (by omega)).mp z)), b_X6_isWord__70]⟩) (q_txt s).length 0 none (by omega) (fun k hk => by omega) with ⟨o, hI, e⟩ | ⟨⟨k, hk, hne⟩, e⟩
      · refine e.trans ?_
        (try dsimp only)
        rw [b_X6_isWord__28, s_slen H h1 h2 h6, g_v, b_X6_isWord__33 h, if_neg (nIn (Nat.le_refl _) (by omega)), c2, q_any_no.mpr hI]
        simp [b_n]
      · refine e.trans ?_
        rw [q_any_iff.mpr ⟨k, hk, hne⟩]
        simp [b_n]
    · rw [if_neg (fun z => c2 ((nI_eq (by omega) (by omega)).mp z)), b_X6_isWord__24, beq_false_of_ne c2]
      simp [b_n]
  · rw [if_neg (fun z => c1 ((nI_eq (by omega) (by decide)).mp z)), b_X6_isWord__24, beq_false_of_ne c1]
    simp [b_n]
theorem s_name (hd : 1 ≤ d) (h : Sh σ) (T : TG σ B E q) : ∃ σ', a_call a_tab P d 23 [.ref 220] σ = some (.inl (some (.ref 222)), σ') ∧ Mo (fun b _ => b = 222) σ σ' ∧ ∀ k, k < 8 → a_I σ' 222 k = nI (k_n8 B (k_tok B E q) k) := by
  have hle := k_tok_le (B := B) T.2.1
  have hE := T.1.2.1
  rw [n_X6_name hd, b_X6_name_0]
  obtain ⟨⟨s, o⟩, ⟨m, I⟩, e⟩ := up_st0 (run := fun i (so : aSt × Option Value) => b_R (a_call a_tab P (d - 1)) kX6_name [] (2, [some (.ref 220), some (.int (nI i)), so.2], [], so.1)) (n := 8) (s := (σ, none))
    (fun i so => Mo (fun b _ => b = 222) σ so.1 ∧ ∀ k, k < i → a_I so.1 222 k = nI (k_n8 B (k_tok B E q) k)) ⟨Mo.rf, fun k hk => by omega⟩
    (fun i so hi ⟨m, I⟩ => by
      obtain ⟨s, o⟩ := so
      have T' : TG s B E q := T.mo m (fun k _ => by omega) (fun k => by omega)
      have x5 := T'.2.2.2.1
      have x3 := T'.2.2.2.2.1
      have fin : ∀ v : Nat, v = k_n8 B (k_tok B E q) i → ∃ s', (Mo (fun b _ => b = 222) σ s'.1 ∧ ∀ k, k < i + 1 → a_I s'.1 222 k = nI (k_n8 B (k_tok B E q) k)) ∧ b_R (a_call a_tab P (d - 1)) kX6_name [] (54, [some (.ref 220), some (.int (nI i)), some (.int (nI ((k_tok B E q).2.1 + i)))], [.int (nI v), .int (nI i), .ref 222], s) = (fun i (so : aSt × Option Value) => b_R (a_call a_tab P (d - 1)) kX6_name [] (2, [some (.ref 220), some (.int (nI i)), so.2], [], so.1)) (i + 1) s' := by
        intro v hv
        refine ⟨(a_setI s 222 i (nI v), some (.int (nI ((k_tok B E q).2.1 + i)))), ⟨m.then_set rfl, fun k hk => ?_⟩, ?_⟩
        · by_cases hki : k = i
          · subst hki; rw [hv]; exact a_I_at
          · rw [a_I_off (.inr hki)]; exact I k (by omega)
        · rw [b_X6_name_54 (m.sh h), b_gd_t (nIi hi (by decide)), nIc (by omega), nI_add]
      (try dsimp only)
      rw [b_X6_name_2 (m.sh h), if_pos (nIl hi (by decide))]
      simp only [x5, x3, nI_add]
      rw [if_neg (nIp (by omega))]
      by_cases c : (k_tok B E q).2.1 + i < (k_tok B E q).2.2
      · have t1 := T'.1.2.2 _ (by omega : (k_tok B E q).2.1 + i < E)
        rw [if_pos (nIl c (by omega)), if_pos (nIl (by omega) (by decide)), b_gd_t (nIi (by omega) (by decide)), nIc (by omega), t1.1]
        exact fin _ (by unfold k_n8; rw [if_pos c])
      · rw [if_neg (nIn (by omega) (by omega)), b_X6_name_53]
        exact fin 0 (by unfold k_n8; rw [if_neg c]))
  refine ⟨s, e.trans ?_, m, I⟩
  (try dsimp only)
  rw [b_X6_name_2 (m.sh h), if_neg (nIn (Nat.le_refl _) (by decide))]
theorem s_failed (hd : 1 ≤ d) (h : Sh σ) (F : EF σ e) : a_call a_tab P d 26 [.ref 220] σ = some (.inl (some (.int (b_n e.isSome))), σ) := by
  rw [n_X6_failed hd, b_X6_failed_0 h]
  cases e with
  | none =>
    rw [F.1, if_pos (by decide), b_X6_failed_12]
    exact b_gd_t (by decide)
  | some x =>
    rw [F.2.1, if_neg (nI_ne0 (by have := F.1; omega) (by have := F.1; omega)), b_X6_failed_12]
    exact b_gd_t (by decide)
def S9 (b k : Nat) : Prop := b = 220 ∧ (k = 8 ∨ k = 9)
theorem s_fail (hd : 1 ≤ d) (h : Sh σ) (T : TG σ B E q) (F : EF σ e) {c : Nat} (h1 : 1 ≤ c) (h4 : c ≤ 4) : ∃ σ', a_call a_tab P d 27 [.ref 220, .int (nI c)] σ = some (.inl (some (.int (nI 0))), σ') ∧ Mo S9 σ σ' ∧ TG σ' B E q ∧ EF σ' (k_fl e c (k_tok B E q).2.1) := by
  have hle := k_tok_le (B := B) T.2.1
  have hE := T.1.2.1
  rw [n_X6_fail hd, b_X6_fail_0 h]
  cases e with
  | none =>
    rw [F.1, if_pos (by decide), a_I_off (.inr (by decide)), T.2.2.2.1, b_X6_fail_20]
    have m : Mo S9 σ (a_setI (a_setI σ 220 8 (nI c)) 220 9 (nI (k_tok B E q).2.1)) := (Mo.set ⟨rfl, .inl rfl⟩).then_set ⟨rfl, .inr rfl⟩
    exact ⟨_, rfl, m, T.mo m (fun k hk => by unfold S9; omega) (fun k => by unfold S9; omega), ⟨h1, h4, by omega⟩, by rw [a_I_off (.inr (by decide)), a_I_at], a_I_at⟩
  | some x =>
    rw [F.2.1, if_neg (nI_ne0 (by have := F.1; omega) (by have := F.1; omega)), b_X6_fail_20]
    exact ⟨σ, rfl, Mo.rf, T, F⟩
/-- an answer of a reader: whether it goes on, and where it stands then -/
theorem s_takeWord (H : Pm P) (hd : 2 ≤ d) (h : Sh σ) (T : TG σ B E q) (F : EF σ e) {s : Nat} (h1 : 1 ≤ s) (h2 : s ≤ 18) :
    (k_is B (k_tok B E q) (q_txt s) = true ∧ ∃ σ', a_call a_tab P d 28 [.ref 220, .ref s] σ = some (.inl (some (.int (nI 1))), σ') ∧ Mo St σ σ' ∧ TG σ' B E (k_tok B E q).2.2 ∧ EF σ' e) ∨
    (k_is B (k_tok B E q) (q_txt s) = false ∧ ∃ σ', a_call a_tab P d 28 [.ref 220, .ref s] σ = some (.inl (some (.int (nI 0))), σ') ∧ Mo St σ σ' ∧ TG σ' B E q ∧ EF σ' (k_fl e 1 (k_tok B E q).2.1)) := by
  rw [n_X6_takeWord (by omega), b_X6_takeWord_0 h, s_isW H (by omega) h T h1 h2, g_v, b_X6_takeWord_5 h]
  cases hk : k_is B (k_tok B E q) (q_txt s) with
  | true =>
    obtain ⟨σ', e1, m, T'⟩ := s_adv (P := P) (d := d - 1) H (by omega) h T
    refine .inl ⟨rfl, σ', ?_, m.mono fun b k z => by unfold S3 at z; unfold St; omega, T', F.mo m (by unfold S3; omega) (by unfold S3; omega)⟩
    rw [if_neg (by decide), e1, g_n, b_X6_takeWord_18]
  | false =>
    obtain ⟨σ', e1, m, T', F'⟩ := s_fail (P := P) (d := d - 1) (by omega) h T F (c := 1) (by decide) (by decide)
    refine .inr ⟨rfl, σ', ?_, m.mono fun b k z => by unfold S9 at z; unfold St; omega, T', F'⟩
    rw [if_pos (by decide), e1, g_v, b_X6_takeWord_13]
    exact b_gd_t (by decide)
theorem s_takeSign (H : Pm P) (hd : 2 ≤ d) (h : Sh σ) (T : TG σ B E q) (F : EF σ e) {c : Nat} (hc : c < 256) :
    (k_sg B (k_tok B E q) c = true ∧ ∃ σ', a_call a_tab P d 29 [.ref 220, .int (nI c)] σ = some (.inl (some (.int (nI 1))), σ') ∧ Mo St σ σ' ∧ TG σ' B E (k_tok B E q).2.2 ∧ EF σ' e) ∨
    (k_sg B (k_tok B E q) c = false ∧ ∃ σ', a_call a_tab P d 29 [.ref 220, .int (nI c)] σ = some (.inl (some (.int (nI 0))), σ') ∧ Mo St σ σ' ∧ TG σ' B E q ∧ EF σ' (k_fl e 1 (k_tok B E q).2.1)) := by
  rw [n_X6_takeSign (by omega), b_X6_takeSign_0 h, s_isSign (by omega) h T hc, g_v, b_X6_takeSign_5 h]
  cases hk : k_sg B (k_tok B E q) c with
  | true =>
    obtain ⟨σ', e1, m, T'⟩ := s_adv (P := P) (d := d - 1) H (by omega) h T
    refine .inl ⟨rfl, σ', ?_, m.mono fun b k z => by unfold S3 at z; unfold St; omega, T', F.mo m (by unfold S3; omega) (by unfold S3; omega)⟩
    rw [if_neg (by decide), e1, g_n, b_X6_takeSign_18]
  | false =>
    obtain ⟨σ', e1, m, T', F'⟩ := s_fail (P := P) (d := d - 1) (by omega) h T F (c := 1) (by decide) (by decide)
    refine .inr ⟨rfl, σ', ?_, m.mono fun b k z => by unfold S9 at z; unfold St; omega, T', F'⟩
    rw [if_pos (by decide), e1, g_v, b_X6_takeSign_13]
    exact b_gd_t (by decide)
theorem s_takeEnd (hd : 2 ≤ d) (h : Sh σ) (T : TG σ B E q) (F : EF σ e) :
    ((k_tok B E q).1 = 0 ∧ a_call a_tab P d 30 [.ref 220] σ = some (.inl (some (.int (nI 1))), σ)) ∨
    ((k_tok B E q).1 ≠ 0 ∧ ∃ σ', a_call a_tab P d 30 [.ref 220] σ = some (.inl (some (.int (nI 0))), σ') ∧ Mo S9 σ σ' ∧ TG σ' B E q ∧ EF σ' (k_fl e 1 (k_tok B E q).2.1)) := by
  rw [n_X6_takeEnd (by omega), b_X6_takeEnd_0 h, s_atEnd (by omega) h T, g_v, b_X6_takeEnd_4 h]
  by_cases c : (k_tok B E q).1 = 0
  · refine .inl ⟨c, ?_⟩
    rw [c, if_neg (by decide), b_X6_takeEnd_15, b_X6_takeEnd_20]
    exact b_gd_t (by decide)
  · obtain ⟨σ', e1, m, T', F'⟩ := s_fail (P := P) (d := d - 1) (by omega) h T F (c := 1) (by decide) (by decide)
    refine .inr ⟨c, σ', ?_, m, T', F'⟩
    rw [beq_false_of_ne c, if_pos (by decide), e1, g_v, b_X6_takeEnd_12, if_pos (by decide), b_X6_takeEnd_20]
    exact b_gd_t (by decide)
/-- the error of a number that is not in a range, if there is one -/
def k_ne (B : Nat → Nat) (t : Nat × Nat × Nat) (lo hi : Nat) : Option Nat := if t.1 = 2 then (if k_num B t < lo ∨ hi < k_num B t then some 2 else none) else some 1
theorem s_takeNumber (H : Pm P) (hd : 2 ≤ d) (h : Sh σ) (T : TG σ B E q) (F : EF σ e) {lo hi : Nat} (hlo : lo < 2147483648) (hhi : hi < 2147483648) :
    (k_ne B (k_tok B E q) lo hi = none ∧ ∃ σ', a_call a_tab P d 31 [.ref 220, .int (nI lo), .int (nI hi)] σ = some (.inl (some (.int (nI (k_num B (k_tok B E q))))), σ') ∧ Mo St σ σ' ∧ TG σ' B E (k_tok B E q).2.2 ∧ EF σ' e) ∨
    (∃ c, k_ne B (k_tok B E q) lo hi = some c ∧ (c = 1 ∨ c = 2) ∧ ∃ σ', a_call a_tab P d 31 [.ref 220, .int (nI lo), .int (nI hi)] σ = some (.inl (some (.int (-1))), σ') ∧ Mo St σ σ' ∧ TG σ' B E q ∧ EF σ' (k_fl e c (k_tok B E q).2.1)) := by
  have hk := k_tok_kind (B := B) (E := E) (n := q)
  have hv := k_v_le (c := 1000000) (B := B) (s := (k_tok B E q).2.1) ((k_tok B E q).2.2 - (k_tok B E q).2.1)
  rw [n_X6_takeNumber (by omega), b_X6_takeNumber_0 h, T.2.2.1, T.2.2.2.2.2]
  unfold k_ne k_num
  by_cases c2 : (k_tok B E q).1 = 2
  · rw [if_pos (congrArg nI c2), if_pos c2, if_pos c2]
    have bad : (k_v 1000000 B (k_tok B E q).2.1 ((k_tok B E q).2.2 - (k_tok B E q).2.1) < lo ∨ hi < k_v 1000000 B (k_tok B E q).2.1 ((k_tok B E q).2.2 - (k_tok B E q).2.1)) → ∃ σ', b_R (a_call a_tab P (d - 1)) kX6_takeNumber [] (31, [some (.ref 220), some (.int (nI lo)), some (.int (nI hi)), some (.int (nI (k_v 1000000 B (k_tok B E q).2.1 ((k_tok B E q).2.2 - (k_tok B E q).2.1))))], [], σ) = some (.inl (some (.int (-1))), σ') ∧ Mo St σ σ' ∧ TG σ' B E q ∧ EF σ' (k_fl e 2 (k_tok B E q).2.1) := fun _ => by
      obtain ⟨σ', e1, m, T', F'⟩ := s_fail (P := P) (d := d - 1) (by omega) h T F (c := 2) (by decide) (by decide)
      refine ⟨σ', ?_, m.mono fun b k z => by unfold S9 at z; unfold St; omega, T', F'⟩
      rw [b_X6_takeNumber_31 h, e1, g_v, b_X6_takeNumber_36]
    by_cases cl : k_v 1000000 B (k_tok B E q).2.1 ((k_tok B E q).2.2 - (k_tok B E q).2.1) < lo
    · rw [if_pos (nIl cl hlo), if_pos (.inl cl)]
      exact .inr ⟨2, rfl, .inr rfl, bad (.inl cl)⟩
    · rw [if_neg (nIn (by omega) (by omega))]
      by_cases ch : hi < k_v 1000000 B (k_tok B E q).2.1 ((k_tok B E q).2.2 - (k_tok B E q).2.1)
      · rw [if_pos (nIl ch (by omega)), if_pos (.inr ch)]
        exact .inr ⟨2, rfl, .inr rfl, bad (.inr ch)⟩
      · rw [if_neg (nIn (by omega) (by omega)), if_neg (by omega)]
        obtain ⟨σ', e1, m, T'⟩ := s_adv (P := P) (d := d - 1) H (by omega) h T
        refine .inl ⟨rfl, σ', ?_, m.mono fun b k z => by unfold S3 at z; unfold St; omega, T', F.mo m (by unfold S3; omega) (by unfold S3; omega)⟩
        rw [e1, g_n, b_X6_takeNumber_43]
  · rw [if_neg (fun z => c2 ((nI_eq (by omega) (by decide)).mp z)), if_neg c2]
    obtain ⟨σ', e1, m, T', F'⟩ := s_fail (P := P) (d := d - 1) (by omega) h T F (c := 1) (by decide) (by decide)
    refine .inr ⟨1, rfl, .inl rfl, σ', ?_, m.mono fun b k z => by unfold S9 at z; unfold St; omega, T', F'⟩
    rw [e1, g_v, b_X6_takeNumber_13]
theorem s_tbegin (H : Pm P) (hd : 2 ≤ d) (h : Sh σ) (hE : E ≤ 900) (hB : ∀ i, i < E → a_I σ 221 i = nI (B i) ∧ B i < 256) : ∃ σ', a_call a_tab P d 17 [.ref 220, .int (nI E)] σ = some (.inl none, σ') ∧ Mo (fun b k => b = 220 ∧ 2 ≤ k) σ σ' ∧ TG σ' B E 0 ∧ EF σ' none := by
  have m0 : Mo (fun b k => b = 220 ∧ 2 ≤ k) σ (a_setI (a_setI (a_setI (a_setI σ 220 2 (nI E)) 220 3 (nI 0)) 220 8 (nI 0)) 220 9 (-1)) := (((Mo.set ⟨rfl, by decide⟩).then_set ⟨rfl, by decide⟩).then_set ⟨rfl, by decide⟩).then_set ⟨rfl, by decide⟩
  have T0 : TB (a_setI (a_setI (a_setI (a_setI σ 220 2 (nI E)) 220 3 (nI 0)) 220 8 (nI 0)) 220 9 (-1)) B E := ⟨rfl, hE, fun i hi => by rw [m0.I (by omega)]; exact hB i hi⟩
  obtain ⟨σ', e1, m1, F1⟩ := s_advance (P := P) (d := d - 1) H (by omega) (m0.sh h) T0 (n := 0) (Nat.zero_le _) rfl
  refine ⟨σ', ?_, m0.tr (m1.mono fun b k z => by unfold S3 at z; omega), ⟨T0.mo m1 (by unfold S3; omega) (fun k => by unfold S3; omega), Nat.zero_le _, F1⟩, ?_⟩
  · rw [n_X6_begin (by omega), b_X6_begin_0 h, e1, g_n, b_X6_begin_24]
  · exact ⟨by rw [m1.I (by unfold S3; omega)]; rfl, by rw [m1.I (by unfold S3; omega)]; rfl⟩
end TKB
