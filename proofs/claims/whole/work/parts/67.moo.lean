/-! the model: what it expects; words, signs, numbers -/
theorem nI_int {n : Nat} (h : n < 2147483648) : (nI n).toInt = n := by rw [o_int, o_of (by omega), if_pos h]
theorem bm64 {x : Int} (h1 : -(9223372036854775808) ≤ x) (h2 : x < 9223372036854775808) : x.bmod (2^64) = x := by
  rw [Int.bmod_def]
  omega
theorem bm32 {x : Int} (h1 : 0 ≤ x) (h2 : x < 2147483648) : x.bmod (2^32) = x := by
  rw [Int.bmod_def]
  omega
theorem y_lv {v b : Nat} (hv : v ≤ 2000000000) (h1 : 48 ≤ b) (h2 : b < 256) : Int64.toInt32 (if (Int32.toInt64 2000000000) ≤ (((Int32.toInt64 10) * (Int32.toInt64 (nI v))) + (Int32.toInt64 (nI b))) - (Int32.toInt64 48) then (Int32.toInt64 2000000000) else (((Int32.toInt64 10) * (Int32.toInt64 (nI v))) + (Int32.toInt64 (nI b))) - (Int32.toInt64 48)) = nI (min 2000000000 (10 * v + (b - 48))) := by
  have eL : ((((Int32.toInt64 10) * (Int32.toInt64 (nI v))) + (Int32.toInt64 (nI b))) - (Int32.toInt64 48)).toInt = 10 * (v : Int) + b - 48 := by
    rw [Int64.toInt_sub, Int64.toInt_add, Int64.toInt_mul, Int32.toInt_toInt64, Int32.toInt_toInt64, Int32.toInt_toInt64, Int32.toInt_toInt64, nI_int (by omega), nI_int (by omega), show (10 : Int32).toInt = 10 from rfl, show (48 : Int32).toInt = 48 from rfl, bm64 (x := 10 * (v : Int)) (by omega) (by omega), bm64 (x := 10 * (v : Int) + b) (by omega) (by omega), bm64 (by omega) (by omega)]
  have e2 : (Int32.toInt64 2000000000).toInt = 2000000000 := by
    rw [Int32.toInt_toInt64]; rfl
  rw [← Int32.toInt_inj, Int64.toInt_toInt32, nI_int (by omega)]
  by_cases c : (2000000000 : Int) ≤ 10 * (v : Int) + b - 48
  · rw [if_pos (Int64.le_iff_toInt_le.mpr (by rw [e2, eL]; exact c)), e2, bm32 (by omega) (by omega)]
    omega
  · rw [if_neg (fun z => c (by rw [Int64.le_iff_toInt_le, e2, eL] at z; exact z)), eL, bm32 (by omega) (by omega)]
    omega
theorem k_tok_dg {B : Nat → Nat} {E n : Nat} (h : (k_tok B E n).1 = 2) {i : Nat} (h1 : (k_tok B E n).2.1 ≤ i) (h2 : i < (k_tok B E n).2.2) : 48 ≤ B i ∧ B i ≤ 57 := by
  unfold k_tok at h h1 h2
  split at h
  · rename_i c0
    rw [if_pos c0] at h1 h2
    split at h
    · cases h
    · rename_i c1
      rw [if_neg c1] at h1 h2
      split at h
      · rename_i c2
        rw [if_pos c2] at h1 h2
        have := k_to_in (p := k_dg) (B := B) (E := E) (n := k_to k_bl B E n) (i := i) h1 h2
        unfold k_dg at this
        rw [Bool.and_eq_true, decide_eq_true_eq, decide_eq_true_eq] at this
        exact this
      · cases h
  · cases h
theorem k_tok_al {B : Nat → Nat} {E n : Nat} (h : (k_tok B E n).1 = 1) {i : Nat} (h1 : (k_tok B E n).2.1 ≤ i) (h2 : i < (k_tok B E n).2.2) : 97 ≤ B i ∧ B i ≤ 122 := by
  unfold k_tok at h h1 h2
  split at h
  · rename_i c0
    rw [if_pos c0] at h1 h2
    split at h
    · rename_i c1
      rw [if_pos c1] at h1 h2
      have := k_to_in (p := k_al) (B := B) (E := E) (n := k_to k_bl B E n) (i := i) h1 h2
      unfold k_al at this
      rw [Bool.and_eq_true, decide_eq_true_eq, decide_eq_true_eq] at this
      exact this
    · split at h <;> cases h
  · cases h
/-- one thing behind the other -/
def r_b {A : Type} (r : (Nat × Nat) ⊕ Nat) (f : Nat → (Nat × Nat) ⊕ A) : (Nat × Nat) ⊕ A := match r with | .inl e => .inl e | .inr q => f q
def r_ck (B : Nat → Nat) (E : Nat) (r : (Nat × Nat) ⊕ Nat) (b : Bool) (c : Nat) : (Nat × Nat) ⊕ Nat := r_b r fun q => if b then .inr q else .inl (c, (k_tok B E q).2.1)
def r_adv (B : Nat → Nat) (E : Nat) (r : (Nat × Nat) ⊕ Nat) : (Nat × Nat) ⊕ Nat := r_b r fun q => .inr (k_tok B E q).2.2
def r_q (r : (Nat × Nat) ⊕ Nat) (f : Nat → Bool) : Bool := match r with | .inl _ => false | .inr q => f q
section MOO
variable {P : aCall} {d : Nat} {σ : aSt} {B : Nat → Nat} {E : Nat} {r : (Nat × Nat) ⊕ Nat} {r' : Nat}
theorem RS.e25 {e : Nat × Nat} (R : RS σ B E (.inl e)) : a_I σ 237 25 = nI e.1 ∧ ¬ nI e.1 = 0 := ⟨R.2.2.2.1, fun z => by have := R.2.2.1; have := (o_eq0 (by omega)).mp z; omega⟩
theorem RS.tok {q : Nat} (R : RS σ B E (.inr q)) : (k_tok B E q).1 ≤ 3 ∧ (k_tok B E q).2.1 ≤ (k_tok B E q).2.2 ∧ (k_tok B E q).2.2 ≤ E ∧ E ≤ 900 := ⟨k_tok_kind, (k_tok_le R.2.1).2.1, (k_tok_le R.2.1).2.2, R.1.2.1⟩
theorem y_flaw (hd : 1 ≤ d) (h : Sh σ) {q c : Nat} (R : RS σ B E (.inr q)) (h1 : 1 ≤ c) (h4 : c ≤ 4) : ∃ σ', a_call a_tab P d 232 [.ref 237, .int (nI c)] σ = some (.inl none, σ') ∧ Mo S26 σ σ' ∧ RS σ' B E (.inl (c, (k_tok B E q).2.1)) := by
  obtain ⟨k1, k2, k3, k4⟩ := R.tok
  have m : Mo S26 σ (a_setI (a_setI σ 237 25 (nI c)) 237 26 (nI (k_tok B E q).2.1)) := (Mo.set (by unfold S26; omega)).then_set (by unfold S26; omega)
  have m' : Mo (fun b k => b = 237 ∧ 25 ≤ k ∧ k ≤ 26) σ (a_setI (a_setI σ 237 25 (nI c)) 237 26 (nI (k_tok B E q).2.1)) := (Mo.set (by omega)).then_set (by omega)
  refine ⟨_, ?_, m, R.1.mo m' (by omega) (fun k => by omega), ⟨k_tok B E q, ⟨k1, k2, k3⟩, R.2.2.1.mo m' fun k a b => by omega⟩, ⟨h1, h4, by show (k_tok B E q).2.1 ≤ 900; omega⟩, by rw [a_I_off (.inr (by decide))]; exact a_I_at, a_I_at⟩
  rw [n_X8_flaw (by omega), b_X8_flaw_0 h, R.2.2.2, if_pos (show nI 0 = 0 from rfl), a_I_off (.inr (by decide)), R.2.2.1.2.1, b_X8_flaw_20]
theorem y_check (hd : 2 ≤ d) (h : Sh σ) (R : RS σ B E r) {b : Bool} {c : Nat} (h1 : 1 ≤ c) (h4 : c ≤ 4) : ∃ σ', a_call a_tab P d 233 [.ref 237, .int (b_n b), .int (nI c)] σ = some (.inl none, σ') ∧ Mo S26 σ σ' ∧ RS σ' B E (r_ck B E r b c) := by
  rw [n_X8_check (by omega), b_X8_check_0 h, b_X8_check_9]
  cases b with
  | true =>
    rw [if_neg (show ¬ b_n true = 0 by decide)]
    refine ⟨σ, rfl, Mo.rf, ?_⟩
    cases r with
    | inl e => exact R
    | inr q => exact R
  | false =>
    rw [if_pos (show b_n false = 0 by decide)]
    cases r with
    | inl e =>
      obtain ⟨e1, e2⟩ := R.e25
      refine ⟨σ, ?_, Mo.rf, R⟩
      rw [show a_call a_tab P (d - 1) 232 [.ref 237, .int (nI c)] σ = some (.inl none, σ) from by rw [n_X8_flaw (by omega), b_X8_flaw_0 h, e1, if_neg e2, b_X8_flaw_20], g_n, b_X8_check_9]
    | inr q =>
      obtain ⟨s1, e1, m1, R1⟩ := y_flaw (P := P) (d := d - 1) (by omega) h R h1 h4
      exact ⟨s1, by rw [e1, g_n, b_X8_check_9], m1, R1⟩
theorem y_checkT (hd : 2 ≤ d) (h : Sh σ) (R : RS σ B E r) {c : Nat} (h1 : 1 ≤ c) (h4 : c ≤ 4) : ∃ σ', a_call a_tab P d 233 [.ref 237, .int (nI 1), .int (nI c)] σ = some (.inl none, σ') ∧ Mo S26 σ σ' ∧ RS σ' B E r := by
  obtain ⟨s1, e1, m1, R1⟩ := y_check (P := P) hd h R (b := true) h1 h4
  refine ⟨s1, e1, m1, ?_⟩
  cases r with
  | inl e => exact R1
  | inr q => exact R1
theorem y_checkF (hd : 2 ≤ d) (h : Sh σ) (R : RS σ B E r) {c : Nat} (h1 : 1 ≤ c) (h4 : c ≤ 4) : ∃ σ', a_call a_tab P d 233 [.ref 237, .int (nI 0), .int (nI c)] σ = some (.inl none, σ') ∧ Mo S26 σ σ' ∧ RS σ' B E (r_b r fun q => .inl (c, (k_tok B E q).2.1)) := by
  obtain ⟨s1, e1, m1, R1⟩ := y_check (P := P) hd h R (b := false) h1 h4
  refine ⟨s1, e1, m1, ?_⟩
  cases r with
  | inl e => exact R1
  | inr q => exact R1
theorem y_scanq (hd : 4 ≤ d) (h : Sh σ) {q : Nat} (R : RS σ B E (.inr q)) : ∃ σ', a_call a_tab P d 229 [.ref 237] σ = some (.inl none, σ') ∧ Mo S26 σ σ' ∧ RS σ' B E (.inr (k_tok B E q).2.2) := by
  obtain ⟨k1, k2, k3, k4⟩ := R.tok
  obtain ⟨s1, e1, m1, T⟩ := y_scan (P := P) hd h R.1 k3 R.2.2.1.2.2
  exact ⟨s1, e1, m1.mono fun b k z => by unfold S24 at z; unfold S26; omega, R.1.mo m1 (by unfold S24; omega) (fun k => by unfold S24; omega), k3, T, by rw [m1.I (by unfold S24; omega)]; exact R.2.2.2⟩
theorem y_advance (hd : 5 ≤ d) (h : Sh σ) (R : RS σ B E r) : ∃ σ', a_call a_tab P d 234 [.ref 237] σ = some (.inl none, σ') ∧ Mo S26 σ σ' ∧ RS σ' B E (r_adv B E r) := by
  rw [n_X8_advance (by omega), b_X8_advance_0 h]
  cases r with
  | inl e =>
    obtain ⟨e1, e2⟩ := R.e25
    rw [e1, if_neg e2, b_X8_advance_11]
    exact ⟨σ, rfl, Mo.rf, R⟩
  | inr q =>
    obtain ⟨s1, e1, m1, R1⟩ := y_scanq (P := P) (d := d - 1) (by omega) h R
    rw [R.2.2.2, if_pos (show nI 0 = 0 from rfl), e1, g_n, b_X8_advance_11]
    exact ⟨s1, rfl, m1, R1⟩
theorem y_isSymbol (hd : 1 ≤ d) (h : Sh σ) (R : RS σ B E r) {c : Nat} (hc : c < 256) : a_call a_tab P d 235 [.ref 237, .int (nI c)] σ = some (.inl (some (.int (b_n (r_q r fun q => k_sg B (k_tok B E q) c)))), σ) := by
  have z0 : b_R (a_call a_tab P (d - 1)) kX8_isSymbol [] (32, [some (.ref 237), some (.int (nI c))], [], σ) = some (.inl (some (.int (nI 0))), σ) := by
    rw [b_X8_isSymbol_32, b_X8_isSymbol_33, b_gd_t (by decide)]
  have z1 : b_R (a_call a_tab P (d - 1)) kX8_isSymbol [] (33, [some (.ref 237), some (.int (nI c))], [.int (nI 1)], σ) = some (.inl (some (.int (nI 1))), σ) := by
    rw [b_X8_isSymbol_33, b_gd_t (by decide)]
  rw [n_X8_isSymbol (by omega), b_X8_isSymbol_0 h, z0, z1]
  cases r with
  | inl e =>
    obtain ⟨e1, e2⟩ := R.e25
    rw [e1, if_neg e2]
    rfl
  | inr q =>
    obtain ⟨k1, k2, k3, k4⟩ := R.tok
    rw [R.2.2.2, if_pos (show nI 0 = 0 from rfl), R.2.2.1.1]
    show _ = some ((.inl (some (.int (b_n ((k_tok B E q).1 == 3 && B (k_tok B E q).2.1 == c)))) : aRes), σ)
    by_cases c1 : (k_tok B E q).1 = 3
    · have hlt := k_tok_lt (B := B) (E := E) (n := q) (by omega)
      have hb := R.1.2.2 _ hlt.1
      rw [if_pos (congrArg nI c1), R.2.2.1.2.1, b_gd_t (nIi (by omega) (by decide)), nIc (by omega), hb.1, c1]
      by_cases c2 : B (k_tok B E q).2.1 = c
      · rw [if_pos (congrArg nI c2), c2, beq_self_eq_true, beq_self_eq_true]; rfl
      · rw [if_neg (fun z => c2 ((o_eq (by omega) (by omega)).mp z)), beq_eq_false_iff_ne.mpr c2, Bool.and_false]; rfl
    · rw [if_neg (fun z => c1 ((o_eq (by omega) (by omega)).mp z)), beq_eq_false_iff_ne.mpr c1, Bool.false_and]; rfl
theorem q_txt_le {s : Nat} (h : s ≤ 18) : (q_txt s).length ≤ 9 ∧ ∀ i, i < (q_txt s).length → (q_txt s).getD i 0 < 128 := by
  have : ∀ s, s < 19 → (q_txt s).length ≤ 9 ∧ ∀ i, i < (q_txt s).length → (q_txt s).getD i 0 < 128 := by decide +kernel
  exact this s (by omega)
theorem y_isWord (H : Pm P) (hd : 1 ≤ d) (h : Sh σ) (R : RS σ B E r) {s : Nat} (h1 : 1 ≤ s) (h2 : s ≤ 18) : a_call a_tab P d 236 [.ref 237, .ref s] σ = some (.inl (some (.int (b_n (r_q r fun q => k_is B (k_tok B E q) (q_txt s))))), σ) := by
  have h6 := h.2.2.2 s h1 h2
  obtain ⟨l9, lc⟩ := q_txt_le h2
  have z0 : b_R (a_call a_tab P (d - 1)) kX8_isWord [] (35, [some (.ref 237), some (.ref s), none, none], [], σ) = some (.inl (some (.int (b_n false))), σ) := by
    rw [b_X8_isWord_35, b_X8_isWord_36, b_X8_isWord_39, if_pos (show nI 0 = 0 from rfl), b_X8_isWord_82, b_gd_t (by decide)]; rfl
  rw [n_X8_isWord (by omega), b_X8_isWord_0 h, z0]
  cases r with
  | inl e =>
    obtain ⟨e1, e2⟩ := R.e25
    rw [e1, if_neg e2]
    rfl
  | inr q =>
    obtain ⟨k1, k2, k3, k4⟩ := R.tok
    rw [R.2.2.2, if_pos (show nI 0 = 0 from rfl), R.2.2.1.1]
    show _ = some ((.inl (some (.int (b_n ((k_tok B E q).1 == 1 && ((k_tok B E q).2.2 - (k_tok B E q).2.1 == (q_txt s).length && !q_any (fun i => B ((k_tok B E q).2.1 + i) != (q_txt s).getD i 0) (q_txt s).length))))) : aRes), σ)
    by_cases c1 : (k_tok B E q).1 = 1
    · rw [if_pos (congrArg nI c1), s_slen H h1 h2 h6, g_v, b_X8_isWord_19 h, R.2.2.1.2.2, R.2.2.1.2.1, pk_sub k2, z0, c1]
      by_cases c2 : (k_tok B E q).2.2 - (k_tok B E q).2.1 = (q_txt s).length
      · rw [if_pos (by rw [c2]), c2, beq_self_eq_true, beq_self_eq_true, Bool.true_and, Bool.true_and, b_X8_isWord_36]
        have loop : ∀ k i, i + k = (q_txt s).length → q_any (fun i => B ((k_tok B E q).2.1 + i) != (q_txt s).getD i 0) i = false → b_R (a_call a_tab P (d - 1)) kX8_isWord [] (39, [some (.ref 237), some (.ref s), some (.int (nI 1)), some (.int (nI i))], [], σ) = some (.inl (some (.int (b_n (!q_any (fun i => B ((k_tok B E q).2.1 + i) != (q_txt s).getD i 0) (q_txt s).length)))), σ) := by
          intro k
          induction k with
          | zero =>
            intro i hi hq
            obtain rfl : i = (q_txt s).length := by omega
            rw [b_X8_isWord_39, if_neg (show ¬ nI 1 = 0 by decide), s_slen H h1 h2 h6, g_v, b_X8_isWord_48, if_neg (nIn (Nat.le_refl _) (by omega)), b_X8_isWord_82, b_gd_t (by decide), hq]
            rfl
          | succ k ih =>
            intro i hi hq
            have hb := R.1.2.2 ((k_tok B E q).2.1 + i) (by omega)
            have hc := lc i (by omega)
            rw [b_X8_isWord_39, if_neg (show ¬ nI 1 = 0 by decide), s_slen H h1 h2 h6, g_v, b_X8_isWord_48, if_pos (nIl (by omega) (by omega)), s_schar H h1 h2 h6 (by omega), g_v, b_X8_isWord_56 h, R.2.2.1.2.1, nI_add, b_gd_t (nIi (by omega) (by decide)), nIc (by omega), hb.1, b_X8_isWord_75, b_X8_isWord_75, nI_add]
            by_cases c3 : B ((k_tok B E q).2.1 + i) = (q_txt s).getD i 0
            · rw [if_pos (congrArg nI c3.symm)]
              exact ih (i + 1) (by omega) (by show (q_any _ i || (B ((k_tok B E q).2.1 + i) != (q_txt s).getD i 0)) = false; rw [hq, c3, bne_self_eq_false]; rfl)
            · rw [if_neg (fun z => c3 ((o_eq (by omega) (by omega)).mp z).symm), b_X8_isWord_39, if_pos (show nI 0 = 0 from rfl), b_X8_isWord_82, b_gd_t (by decide), show q_any (fun i => B ((k_tok B E q).2.1 + i) != (q_txt s).getD i 0) (q_txt s).length = true from q_any_iff.mpr ⟨i, by omega, bne_iff_ne.mpr c3⟩]
              rfl
        exact loop (q_txt s).length 0 (Nat.zero_add _) rfl
      · rw [if_neg (fun z => c2 ((o_eq (by omega) (by omega)).mp z).symm), beq_eq_false_iff_ne.mpr c2, Bool.false_and, Bool.and_false]
    · rw [if_neg (fun z => c1 ((o_eq (by omega) (by omega)).mp z)), beq_eq_false_iff_ne.mpr c1, Bool.false_and]
theorem y_accept (H : Pm P) (hd : 5 ≤ d) (h : Sh σ) (R : RS σ B E r) {s : Nat} (h1 : 1 ≤ s) (h2 : s ≤ 18) : ∃ σ', a_call a_tab P d 237 [.ref 237, .ref s] σ = some (.inl (some (.int (b_n (r_q r fun q => k_is B (k_tok B E q) (q_txt s))))), σ') ∧ Mo S26 σ σ' ∧ RS σ' B E (r_b r fun q => .inr (if k_is B (k_tok B E q) (q_txt s) then (k_tok B E q).2.2 else q)) := by
  rw [n_X8_accept (by omega), b_X8_accept_0 h, y_isWord H (by omega) h R h1 h2, g_v, b_X8_accept_5 h, b_X8_accept_14]
  cases r with
  | inl e => exact ⟨σ, by rw [show (r_q (Sum.inl e) fun q => k_is B (k_tok B E q) (q_txt s)) = false from rfl, if_pos (show b_n false = 0 by decide), b_gd_t (by decide)], Mo.rf, R⟩
  | inr q =>
    rw [show (r_q (Sum.inr q) fun q => k_is B (k_tok B E q) (q_txt s)) = k_is B (k_tok B E q) (q_txt s) from rfl]
    change ∃ σ', _ ∧ Mo S26 σ σ' ∧ RS σ' B E (.inr (if k_is B (k_tok B E q) (q_txt s) then (k_tok B E q).2.2 else q))
    cases k_is B (k_tok B E q) (q_txt s) with
    | false => exact ⟨σ, by rw [if_pos (show b_n false = 0 by decide), b_gd_t (by decide)], Mo.rf, R⟩
    | true =>
      obtain ⟨s1, e1, m1, R1⟩ := y_scanq (P := P) (d := d - 1) (by omega) h R
      exact ⟨s1, by rw [if_neg (show ¬ b_n true = 0 by decide), e1, g_n, b_X8_accept_14, b_gd_t (by decide)], m1, R1⟩
theorem y_expectWord (H : Pm P) (hd : 6 ≤ d) (h : Sh σ) (R : RS σ B E r) {s : Nat} (h1 : 1 ≤ s) (h2 : s ≤ 18) : ∃ σ', a_call a_tab P d 238 [.ref 237, .ref s] σ = some (.inl none, σ') ∧ Mo S26 σ σ' ∧ RS σ' B E (r_b r fun q => if k_is B (k_tok B E q) (q_txt s) then .inr (k_tok B E q).2.2 else .inl (1, (k_tok B E q).2.1)) := by
  obtain ⟨s1, e1, m1, R1⟩ := y_check (P := P) (d := d - 1) (by omega) h R (b := r_q r fun q => k_is B (k_tok B E q) (q_txt s)) (c := 1) (by decide) (by decide)
  obtain ⟨s2, e2, m2, R2⟩ := y_advance (P := P) (d := d - 1) (by omega) (m1.sh h) R1
  refine ⟨s2, ?_, m1.tr m2, ?_⟩
  · rw [n_X8_expectWord (by omega), b_X8_expectWord_0 h, y_isWord H (by omega) h R h1 h2, g_v, b_X8_expectWord_6 h, e1, g_n, b_X8_expectWord_10 (m1.sh h), e2, g_n, b_X8_expectWord_14]
  · cases r with
    | inl e => exact R2
    | inr q =>
      have R2 : RS s2 B E (r_adv B E (if k_is B (k_tok B E q) (q_txt s) then .inr q else .inl (1, (k_tok B E q).2.1))) := R2
      show RS s2 B E (if k_is B (k_tok B E q) (q_txt s) then .inr (k_tok B E q).2.2 else .inl (1, (k_tok B E q).2.1))
      revert R2
      cases k_is B (k_tok B E q) (q_txt s) with
      | true => exact fun z => z
      | false => exact fun z => z
theorem y_expect (hd : 6 ≤ d) (h : Sh σ) (R : RS σ B E r) {c : Nat} (hc : c < 256) : ∃ σ', a_call a_tab P d 239 [.ref 237, .int (nI c)] σ = some (.inl none, σ') ∧ Mo S26 σ σ' ∧ RS σ' B E (r_b r fun q => if k_sg B (k_tok B E q) c then .inr (k_tok B E q).2.2 else .inl (1, (k_tok B E q).2.1)) := by
  obtain ⟨s1, e1, m1, R1⟩ := y_check (P := P) (d := d - 1) (by omega) h R (b := r_q r fun q => k_sg B (k_tok B E q) c) (c := 1) (by decide) (by decide)
  obtain ⟨s2, e2, m2, R2⟩ := y_advance (P := P) (d := d - 1) (by omega) (m1.sh h) R1
  refine ⟨s2, ?_, m1.tr m2, ?_⟩
  · rw [n_X8_expect (by omega), b_X8_expect_0 h, y_isSymbol (by omega) h R hc, g_v, b_X8_expect_6 h, e1, g_n, b_X8_expect_10 (m1.sh h), e2, g_n, b_X8_expect_14]
  · cases r with
    | inl e => exact R2
    | inr q =>
      have R2 : RS s2 B E (r_adv B E (if k_sg B (k_tok B E q) c then .inr q else .inl (1, (k_tok B E q).2.1))) := R2
      show RS s2 B E (if k_sg B (k_tok B E q) c then .inr (k_tok B E q).2.2 else .inl (1, (k_tok B E q).2.1))
      revert R2
      cases k_sg B (k_tok B E q) c with
      | true => exact fun z => z
      | false => exact fun z => z
theorem y_valueE (H : Pm P) (hd : 1 ≤ d) (h : Sh σ) {t : Nat × Nat × Nat} (T : RT σ t) (h1 : t.1 ≤ 3) (h2 : t.2.1 ≤ t.2.2) (h3 : t.2.2 ≤ 900) : ∃ v, a_call a_tab P d 240 [.ref 237] σ = some (.inl (some (.int v)), σ) := by
  have loop : ∀ k i (x : Int32), i + k = t.2.2 → ∃ v, b_R (a_call a_tab P (d - 1)) kX8_value [] (7, [some (.ref 237), some (.int x), some (.int (nI i))], [], σ) = some (.inl (some (.int v)), σ) := by
    intro k
    induction k with
    | zero =>
      intro i x hi
      exact ⟨x, by rw [b_X8_value_7 h, T.2.2, b_X8_value_55, if_neg (nIn (by omega) (by omega))]⟩
    | succ k ih =>
      intro i x hi
      rw [b_X8_value_7 h, T.2.2, if_pos (nIl (by omega) (by omega)), T.1, b_X8_value_55]
      by_cases c : t.1 = 2
      · rw [if_pos (congrArg nI c), b_gd_t (nIi (by omega) (by decide)), s_minL H, g_v, b_X8_value_47, nI_add]
        exact ih (i + 1) _ (by omega)
      · rw [if_neg (fun z => c ((o_eq (by omega) (by omega)).mp z))]
        exact ⟨x, rfl⟩
  obtain ⟨v, e⟩ := loop (t.2.2 - t.2.1) t.2.1 (nI 0) (by omega)
  exact ⟨v, by rw [n_X8_value (by omega), b_X8_value_0 h, T.2.1]; exact e⟩
def k_big (B : Nat → Nat) (t : Nat × Nat × Nat) : Nat := if t.1 = 2 then k_v 2000000000 B t.2.1 (t.2.2 - t.2.1) else 0
theorem y_value (H : Pm P) (hd : 1 ≤ d) (h : Sh σ) {q : Nat} (R : RS σ B E (.inr q)) : a_call a_tab P d 240 [.ref 237] σ = some (.inl (some (.int (nI (k_big B (k_tok B E q))))), σ) := by
  obtain ⟨k1, k2, k3, k4⟩ := R.tok
  have T := R.2.2.1
  rw [n_X8_value (by omega), b_X8_value_0 h, T.2.1]
  unfold k_big
  by_cases c : (k_tok B E q).1 = 2
  · rw [if_pos c]
    have e := up_0 (run := fun i => b_R (a_call a_tab P (d - 1)) kX8_value [] (7, [some (.ref 237), some (.int (nI (k_v 2000000000 B (k_tok B E q).2.1 i))), some (.int (nI ((k_tok B E q).2.1 + i)))], [], σ)) (n := (k_tok B E q).2.2 - (k_tok B E q).2.1) fun i hi => by
      have hdg := k_tok_dg c (i := (k_tok B E q).2.1 + i) (by omega) (by omega)
      have hb := R.1.2.2 ((k_tok B E q).2.1 + i) (by omega)
      have hv : k_v 2000000000 B (k_tok B E q).2.1 i ≤ 2000000000 := k_v_le i
      (try dsimp only)
      rw [b_X8_value_7 h, T.2.2, if_pos (nIl (by omega) (by omega)), T.1, if_pos (congrArg nI c), b_gd_t (nIi (by omega) (by decide)), nIc (by omega), hb.1, s_minL H, g_v, b_X8_value_47, y_lv hv hdg.1 hb.2, nI_add]
      rfl
    have e : b_R (a_call a_tab P (d - 1)) kX8_value [] (7, [some (.ref 237), some (.int (nI 0)), some (.int (nI (k_tok B E q).2.1))], [], σ) = _ := e
    rw [e]
    (try dsimp only)
    rw [b_X8_value_7 h, T.2.2, if_neg (nIn (by omega) (by omega)), b_X8_value_55]
  · rw [if_neg c, b_X8_value_7 h, b_X8_value_55, T.1, if_neg (fun z => c ((o_eq (by omega) (by omega)).mp z))]
    by_cases hl : nI (k_tok B E q).2.1 < a_I σ 237 22
    · rw [if_pos hl]
    · rw [if_neg hl]
theorem k_big_in (c : (k_tok B E r').1 = 2) {hi lo : Nat} (hh : hi < 1000000) : (lo ≤ k_big B (k_tok B E r') ∧ k_big B (k_tok B E r') ≤ hi) ↔ (lo ≤ k_num B (k_tok B E r') ∧ k_num B (k_tok B E r') ≤ hi) ∧ k_big B (k_tok B E r') = k_num B (k_tok B E r') := by
  unfold k_big k_num
  rw [if_pos c]
  rcases k_v_two (c := 2000000000) (c' := 1000000) (B := B) (s := (k_tok B E r').2.1) (by decide) (by decide) ((k_tok B E r').2.2 - (k_tok B E r').2.1) with ⟨e, h⟩ | ⟨h, h'⟩
  · rw [e]
    exact ⟨fun z => ⟨z, rfl⟩, fun z => z.1⟩
  · constructor
    · rintro ⟨-, z⟩; omega
    · rintro ⟨⟨-, z⟩, -⟩; omega
theorem k_ne_in {t : Nat × Nat × Nat} {lo hi : Nat} (c : t.1 = 2) : k_ne B t lo hi = if lo ≤ k_num B t ∧ k_num B t ≤ hi then none else some 2 := by
  unfold k_ne
  rw [if_pos c]
  by_cases h : lo ≤ k_num B t ∧ k_num B t ≤ hi
  · rw [if_pos h, if_neg (by omega)]
  · rw [if_neg h, if_pos (by omega)]
/-- a number: what is left to read, and the number -/
def r_num (B : Nat → Nat) (E lo hi : Nat) (r : (Nat × Nat) ⊕ Nat) : (Nat × Nat) ⊕ (Nat × Nat) := r_b r fun q => g_num B E lo hi q
def r_snd {A : Type} (r : (Nat × Nat) ⊕ (A × Nat)) : (Nat × Nat) ⊕ Nat := match r with | .inl e => .inl e | .inr p => .inr p.2
theorem y_readNumber (H : Pm P) (hd : 6 ≤ d) (h : Sh σ) (R : RS σ B E r) {lo hi : Nat} (hh : hi < 1000000) (hl : lo ≤ hi) : ∃ σ', a_call a_tab P d 241 [.ref 237, .int (nI lo), .int (nI hi)] σ = some (.inl (some (.int (nI (match r_num B E lo hi r with | .inl _ => lo | .inr p => p.1)))), σ') ∧ Mo S26 σ σ' ∧ RS σ' B E (r_snd (r_num B E lo hi r)) := by
  rw [n_X8_readNumber (by omega), b_X8_readNumber_0 h, b_X8_readNumber_16]
  cases r with
  | inl e =>
    obtain ⟨e1, e2⟩ := R.e25
    obtain ⟨t, ⟨t1, t2, t3⟩, T⟩ := R.2.1
    have h9 := R.1.2.1
    obtain ⟨v, ev⟩ := y_valueE (P := P) (d := d - 1) H (by omega) h T t1 t2 (by omega)
    obtain ⟨s1, c1, m1, R1⟩ := y_checkT (P := P) (d := d - 1) (by omega) h R (c := 1) (by decide) (by decide)
    obtain ⟨e1', -⟩ := RS.e25 (e := e) R1
    have h1 := m1.sh h
    obtain ⟨t', ⟨t1', t2', t3'⟩, T'⟩ := (show RS s1 B E (.inl e) from R1).2.1
    obtain ⟨v, ev⟩ := y_valueE (P := P) (d := d - 1) H (by omega) h1 T' t1' t2' (by omega)
    obtain ⟨s2, c2, m2, R2⟩ := y_checkT (P := P) (d := d - 1) (by omega) h1 R1 (c := 2) (by decide) (by decide)
    have h2 := m2.sh h1
    obtain ⟨s3, c3, m3, R3⟩ := y_advance (P := P) (d := d - 1) (by omega) h2 R2
    obtain ⟨e3', -⟩ := RS.e25 (e := e) R3
    refine ⟨s3, ?_, (m1.tr m2).tr m3, R3⟩
    rw [e1, if_neg e2, b_X8_readNumber_21 h, c1, g_n, b_X8_readNumber_25 h1, ev, g_v, b_X8_readNumber_29 h1, e1', if_neg e2, b_X8_readNumber_47, b_X8_readNumber_52 h1, c2, g_n, b_X8_readNumber_56 h2, c3, g_n, b_X8_readNumber_60 (m3.sh h2), e3', if_neg e2, b_X8_readNumber_72]
    rfl
  | inr q =>
    obtain ⟨k1, k2, k3, k4⟩ := R.tok
    rw [R.2.2.2, if_pos (show nI 0 = 0 from rfl), R.2.2.1.1]
    show ∃ σ', _ = some ((.inl (some (.int (nI (match g_num B E lo hi q with | .inl _ => lo | .inr p => p.1)))) : aRes), σ') ∧ Mo S26 σ σ' ∧ RS σ' B E (r_snd (g_num B E lo hi q))
    unfold g_num
    by_cases c : (k_tok B E q).1 = 2
    · obtain ⟨s1, c1, m1, R1⟩ := y_checkT (P := P) (d := d - 1) (by omega) h R (c := 1) (by decide) (by decide)
      have R1 : RS s1 B E (.inr q) := R1
      have h1 := m1.sh h
      have hv : k_big B (k_tok B E q) ≤ 2000000000 := by
        unfold k_big
        rw [if_pos c]
        exact k_v_le _
      have hin := k_big_in (B := B) (E := E) (r' := q) c (hi := hi) (lo := lo) hh
      rw [if_pos (congrArg nI c), b_X8_readNumber_21 h, c1, g_n, b_X8_readNumber_25 h1, y_value H (by omega) h1 R1, g_v, b_X8_readNumber_29 h1, R1.2.2.2, if_pos (show nI 0 = 0 from rfl), y_inR (by omega) (by omega) (by omega), g_v, o_of (by omega), b_X8_readNumber_44, b_X8_readNumber_47, k_ne_in c]
      by_cases cr : lo ≤ k_num B (k_tok B E q) ∧ k_num B (k_tok B E q) ≤ hi
      · obtain ⟨s2, c2, m2, R2⟩ := y_checkT (P := P) (d := d - 1) (by omega) h1 R1 (c := 2) (by decide) (by decide)
        have h2 := m2.sh h1
        obtain ⟨s3, c3, m3, R3⟩ := y_advance (P := P) (d := d - 1) (by omega) h2 (r := .inr q) R2
        have R3 : RS s3 B E (.inr (k_tok B E q).2.2) := R3
        have eb : k_big B (k_tok B E q) = k_num B (k_tok B E q) := by
          unfold k_big k_num at *
          rw [if_pos c] at *
          rcases k_v_two (c := 2000000000) (c' := 1000000) (B := B) (s := (k_tok B E q).2.1) (by decide) (by decide) ((k_tok B E q).2.2 - (k_tok B E q).2.1) with ⟨e, -⟩ | ⟨-, z⟩
          · exact e
          · omega
        rw [decide_eq_true (hin.mpr ⟨cr, eb⟩), if_neg (show ¬ b_n true = 0 by decide), if_pos cr, b_X8_readNumber_52 h1, c2, g_n, b_X8_readNumber_56 h2, c3, g_n, b_X8_readNumber_60 (m3.sh h2), R3.2.2.2, if_pos (show nI 0 = 0 from rfl), b_X8_readNumber_72, eb]
        exact ⟨s3, rfl, (m1.tr m2).tr m3, R3⟩
      · obtain ⟨s2, c2, m2, R2⟩ := y_checkF (P := P) (d := d - 1) (by omega) h1 R1 (c := 2) (by decide) (by decide)
        have R2 : RS s2 B E (.inl (2, (k_tok B E q).2.1)) := R2
        have h2 := m2.sh h1
        obtain ⟨s3, c3, m3, R3⟩ := y_advance (P := P) (d := d - 1) (by omega) h2 R2
        have R3 : RS s3 B E (.inl (2, (k_tok B E q).2.1)) := R3
        obtain ⟨e3, e4⟩ := R3.e25
        rw [decide_eq_false (fun z => cr (hin.mp z).1), if_pos (show b_n false = 0 by decide), if_neg cr, b_X8_readNumber_52 h1, c2, g_n, b_X8_readNumber_56 h2, c3, g_n, b_X8_readNumber_60 (m3.sh h2), e3, if_neg e4, b_X8_readNumber_72]
        exact ⟨s3, rfl, (m1.tr m2).tr m3, R3⟩
    · obtain ⟨s1, c1, m1, R1⟩ := y_checkF (P := P) (d := d - 1) (by omega) h R (c := 1) (by decide) (by decide)
      have R1 : RS s1 B E (.inl (1, (k_tok B E q).2.1)) := R1
      have h1 := m1.sh h
      obtain ⟨e1', e2⟩ := R1.e25
      obtain ⟨t', ⟨t1', t2', t3'⟩, T'⟩ := R1.2.1
      obtain ⟨v, ev⟩ := y_valueE (P := P) (d := d - 1) H (by omega) h1 T' t1' t2' (by omega)
      obtain ⟨s2, c2, m2, R2⟩ := y_checkT (P := P) (d := d - 1) (by omega) h1 R1 (c := 2) (by decide) (by decide)
      have h2 := m2.sh h1
      obtain ⟨s3, c3, m3, R3⟩ := y_advance (P := P) (d := d - 1) (by omega) h2 R2
      have R3 : RS s3 B E (.inl (1, (k_tok B E q).2.1)) := R3
      obtain ⟨e3', -⟩ := R3.e25
      refine ⟨s3, ?_, (m1.tr m2).tr m3, ?_⟩
      · rw [if_neg (fun z => c ((o_eq (by omega) (by omega)).mp z)), b_X8_readNumber_21 h, c1, g_n, b_X8_readNumber_25 h1, ev, g_v, b_X8_readNumber_29 h1, e1', if_neg e2, b_X8_readNumber_47, b_X8_readNumber_52 h1, c2, g_n, b_X8_readNumber_56 h2, c3, g_n, b_X8_readNumber_60 (m3.sh h2), e3', if_neg e2, b_X8_readNumber_72, show k_ne B (k_tok B E q) lo hi = some 1 from if_neg c]
      · rw [show k_ne B (k_tok B E q) lo hi = some 1 from if_neg c]
        exact R3
theorem y_isWordHere (hd : 1 ≤ d) (h : Sh σ) (R : RS σ B E r) : a_call a_tab P d 242 [.ref 237] σ = some (.inl (some (.int (b_n (r_q r fun q => (k_tok B E q).1 == 1)))), σ) := by
  rw [n_X8_isWordHere (by omega), b_X8_isWordHere_0 h, b_X8_isWordHere_19, b_X8_isWordHere_20, b_X8_isWordHere_20, b_gd_t (by decide), b_gd_t (by decide)]
  cases r with
  | inl e =>
    obtain ⟨e1, e2⟩ := R.e25
    rw [e1, if_neg e2]
    rfl
  | inr q =>
    obtain ⟨k1, k2, k3, k4⟩ := R.tok
    rw [R.2.2.2, if_pos (show nI 0 = 0 from rfl), R.2.2.1.1]
    show _ = some ((.inl (some (.int (b_n ((k_tok B E q).1 == 1)))) : aRes), σ)
    by_cases c : (k_tok B E q).1 = 1
    · rw [if_pos (congrArg nI c), c]; rfl
    · rw [if_neg (fun z => c ((o_eq (by omega) (by omega)).mp z)), beq_eq_false_iff_ne.mpr c]; rfl
/-- how a reading ends -/
theorem y_finish (hd : 1 ≤ d) (h : Sh σ) (R : RS σ B E r) : ∃ σ', a_call a_tab P d 231 [.ref 237] σ = some (.inl (some (.int (match r with | .inl e => nI e.1 | .inr _ => nI 0))), σ') ∧ Mo (fun b k => b = 237 ∧ (k = 20 ∨ k = 27)) σ σ' ∧ a_I σ' 237 20 = nI 0 ∧ a_I σ' 237 27 = match r with | .inl e => nI e.2 | .inr _ => -1 := by
  have m1 : Mo (fun b k => b = 237 ∧ (k = 20 ∨ k = 27)) σ (a_setI σ 237 20 (nI 0)) := Mo.set (by omega)
  have h1 := m1.sh h
  rw [n_X8_finish (by omega), b_X8_finish_0 h, a_I_off (.inr (by decide)), b_X8_finish_21 h1, b_X8_finish_21 h1]
  cases r with
  | inl e =>
    obtain ⟨e1, e2⟩ := R.e25
    rw [e1, if_neg e2, a_I_off (.inr (by decide)), a_I_off (.inr (by decide)), a_I_off (.inr (by decide)), e1, R.2.2.2.2]
    exact ⟨_, rfl, m1.then_set (by omega), by rw [a_I_off (.inr (by decide))]; exact a_I_at, a_I_at⟩
  | inr q =>
    rw [R.2.2.2, if_pos (show nI 0 = 0 from rfl), a_I_off (.inr (by decide)), a_I_off (.inr (by decide)), R.2.2.2]
    exact ⟨_, rfl, m1.then_set (by omega), by rw [a_I_off (.inr (by decide))]; exact a_I_at, a_I_at⟩
end MOO
