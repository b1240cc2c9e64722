/-! what a call does to the numbers of the heap; loops -/

def Mo (S : Nat → Nat → Prop) (σ σ' : aSt) : Prop := σ'.1 = σ.1 ∧ σ'.2.2 = σ.2.2 ∧ ∀ b k, ¬ S b k → a_I σ' b k = a_I σ b k
theorem Mo.rf {S : Nat → Nat → Prop} {σ : aSt} : Mo S σ σ := ⟨rfl, rfl, fun _ _ _ => rfl⟩
theorem Mo.tr {S : Nat → Nat → Prop} {σ σ' σ'' : aSt} (h : Mo S σ σ') (h' : Mo S σ' σ'') : Mo S σ σ'' := ⟨h'.1.trans h.1, h'.2.1.trans h.2.1, fun b k hb => (h'.2.2 b k hb).trans (h.2.2 b k hb)⟩
theorem Mo.mono {S S' : Nat → Nat → Prop} {σ σ' : aSt} (h : Mo S σ σ') (hs : ∀ b k, S b k → S' b k) : Mo S' σ σ' := ⟨h.1, h.2.1, fun b k hb => h.2.2 b k fun z => hb (hs b k z)⟩
theorem Mo.kd {S : Nat → Nat → Prop} {σ σ' : aSt} (h : Mo S σ σ') (b : Nat) : a_kd σ' b = a_kd σ b := by unfold a_kd; rw [h.1]
theorem Mo.ln {S : Nat → Nat → Prop} {σ σ' : aSt} (h : Mo S σ σ') (b : Nat) : a_ln σ' b = a_ln σ b := by unfold a_ln; rw [h.1]
theorem Mo.R {S : Nat → Nat → Prop} {σ σ' : aSt} (h : Mo S σ σ') (b k : Nat) : a_R σ' b k = a_R σ b k := by unfold a_R; rw [h.2.1]
theorem Mo.L {S : Nat → Nat → Prop} {σ σ' : aSt} (h : Mo S σ σ') (b k : Nat) : a_L σ' b k = a_L σ b k := by unfold a_L; rw [h.2.1]
theorem Mo.n {S : Nat → Nat → Prop} {σ σ' : aSt} (h : Mo S σ σ') : a_n σ' = a_n σ := by unfold a_n; rw [h.2.1]
theorem Mo.I {S : Nat → Nat → Prop} {σ σ' : aSt} (h : Mo S σ σ') {b k : Nat} (hb : ¬ S b k) : a_I σ' b k = a_I σ b k := h.2.2 b k hb
theorem Mo.sh {S : Nat → Nat → Prop} {σ σ' : aSt} (h : Mo S σ σ') (H : Sh σ) : Sh σ' := by
  unfold Sh at *
  refine ⟨by rw [h.1]; exact H.1, fun q hq => by rw [h.R]; exact H.2.1 q hq, by rw [h.n]; exact H.2.2.1, fun s h1 h2 => by rw [h.kd]; exact H.2.2.2 s h1 h2⟩
theorem Mo.tb {S : Nat → Nat → Prop} {σ σ' : aSt} (h : Mo S σ σ') {t c N : Nat} (H : Tb σ t c N) : Tb σ' t c N := by
  unfold Tb at *
  rw [h.kd, h.kd, h.R, h.ln]
  exact H
theorem Mo.pa {S : Nat → Nat → Prop} {σ σ' : aSt} (h : Mo S σ σ') {p : Nat} (H : Pa σ p) : Pa σ' p := by
  obtain ⟨h1, h2, h3, h4, h5, h6, h7, h8, h9, h10⟩ := H
  exact ⟨by rw [h.kd]; exact h1, h2, by rw [h.R]; exact h3, by rw [h.R]; exact h4, by rw [h.R]; exact h5, by rw [h.R]; exact h6, h.tb h7, h.tb h8, h.tb h9, h.tb h10⟩
theorem Mo.rw {S : Nat → Nat → Prop} {σ σ' : aSt} (h : Mo S σ σ') {w : Nat} (H : Rw σ w) : Rw σ' w := by
  unfold Rw at *
  rw [h.kd, h.R, h.ln]
  exact H
theorem Mo.sc {S : Nat → Nat → Prop} {σ σ' : aSt} (h : Mo S σ σ') {n : Nat} (H : Sc σ n) : Sc σ' n := by
  unfold Sc at *
  rw [h.kd, h.ln]
  exact H
theorem a_I_set {σ : aSt} {a k b j : Nat} {v : Int32} : a_I (a_setI σ a k v) b j = if b = a ∧ j = k then v else a_I σ b j := rfl
theorem a_I_at {σ : aSt} {a k : Nat} {v : Int32} : a_I (a_setI σ a k v) a k = v := if_pos ⟨rfl, rfl⟩
theorem a_I_off {σ : aSt} {a k b j : Nat} {v : Int32} (h : b ≠ a ∨ j ≠ k) : a_I (a_setI σ a k v) b j = a_I σ b j := if_neg fun z => h.elim (fun q => q z.1) (fun q => q z.2)
theorem Mo.set {S : Nat → Nat → Prop} {σ : aSt} {a k : Nat} {v : Int32} (h : S a k) : Mo S σ (a_setI σ a k v) := ⟨rfl, rfl, fun b j hb => a_I_off (by
  by_cases h1 : b = a
  · by_cases h2 : j = k
    · subst h1 h2; exact absurd h hb
    · exact .inr h2
  · exact .inl h1)⟩
theorem Mo.then_set {S : Nat → Nat → Prop} {σ σ' : aSt} {a k : Nat} {v : Int32} (H : Mo S σ σ') (h : S a k) : Mo S σ (a_setI σ' a k v) := H.tr (Mo.set h)
/-! behind a call -/
section BEHIND
variable {C : aCall} {code : aCode} {pc0 pc : Nat} {L : List (Option Value)} {st : List Value} {σ : aSt} {hh : List (Nat × Nat × Nat × Nat × Nat)}
theorem g_v {v : Value} : b_G C code hh pc0 pc L st (some (.inl (some v), σ)) = b_R C code hh (pc, L, v :: st, σ) := rfl
theorem g_n : b_G C code hh pc0 pc L st (some (.inl none, σ)) = b_R C code hh (pc, L, st, σ) := rfl
theorem g_x {x : Nat} : b_G C code [] pc0 pc L st (some (.inr x, σ)) = some (.inr x, σ) := rfl
end BEHIND
/-! loops -/
theorem up_inv {R : Type} {run : Nat → R} {n : Nat} (h : ∀ i, i < n → run i = run (i + 1)) : ∀ k i, i + k = n → run i = run n
  | 0, i, e => by rw [← e]; rfl
  | k + 1, i, e => (h i (by omega)).trans (up_inv h k (i + 1) (by omega))
theorem up_0 {R : Type} {run : Nat → R} {n : Nat} (h : ∀ i, i < n → run i = run (i + 1)) : run 0 = run n := up_inv h n 0 (by omega)
theorem up_st {S R : Type} {run : Nat → S → R} {I : Nat → S → Prop} {n : Nat} (h : ∀ i s, i < n → I i s → ∃ s', I (i + 1) s' ∧ run i s = run (i + 1) s') : ∀ k i s, i + k = n → I i s → ∃ s', I n s' ∧ run i s = run n s'
  | 0, i, s, e, hi => ⟨s, by rw [← e]; exact hi, by rw [← e]; rfl⟩
  | k + 1, i, s, e, hi => by
    obtain ⟨s', h1, h2⟩ := h i s (by omega) hi
    obtain ⟨s'', h3, h4⟩ := up_st h k (i + 1) s' (by omega) h1
    exact ⟨s'', h3, h2.trans h4⟩
theorem up_st0 {S R : Type} {run : Nat → S → R} (I : Nat → S → Prop) {n : Nat} {s : S} (h0 : I 0 s) (h : ∀ i s, i < n → I i s → ∃ s', I (i + 1) s' ∧ run i s = run (i + 1) s') : ∃ s', I n s' ∧ run 0 s = run n s' := up_st h n 0 s (by omega) h0
/-- with a way out -/
theorem up_ex {S R : Type} {run : Nat → S → R} {I : Nat → S → Prop} {E : R → Prop} {n : Nat} (h : ∀ i s, i < n → I i s → (∃ s', I (i + 1) s' ∧ run i s = run (i + 1) s') ∨ E (run i s)) : ∀ k i s, i + k = n → I i s → (∃ s', I n s' ∧ run i s = run n s') ∨ E (run i s)
  | 0, i, s, e, hi => .inl ⟨s, by rw [← e]; exact hi, by rw [← e]; rfl⟩
  | k + 1, i, s, e, hi => by
    rcases h i s (by omega) hi with ⟨s', h1, h2⟩ | h1
    · rcases up_ex h k (i + 1) s' (by omega) h1 with ⟨s'', h3, h4⟩ | h3
      · exact .inl ⟨s'', h3, h2.trans h4⟩
      · exact .inr (by rw [h2]; exact h3)
    · exact .inr h1
/-- sums, and whether one holds -/
def q_s (f : Nat → Nat) : Nat → Nat
  | 0 => 0
  | n + 1 => q_s f n + f n
def q_any (f : Nat → Bool) : Nat → Bool
  | 0 => false
  | n + 1 => q_any f n || f n
theorem q_s_congr {f g : Nat → Nat} : ∀ {n : Nat}, (∀ i, i < n → f i = g i) → q_s f n = q_s g n
  | 0, _ => rfl
  | n + 1, h => by
    show q_s f n + f n = q_s g n + g n
    rw [q_s_congr fun i hi => h i (by omega), h n (by omega)]
theorem q_any_congr {f g : Nat → Bool} : ∀ {n : Nat}, (∀ i, i < n → f i = g i) → q_any f n = q_any g n
  | 0, _ => rfl
  | n + 1, h => by
    show (q_any f n || f n) = (q_any g n || g n)
    rw [q_any_congr fun i hi => h i (by omega), h n (by omega)]
theorem q_any_iff {f : Nat → Bool} : ∀ {n : Nat}, q_any f n = true ↔ ∃ i, i < n ∧ f i = true
  | 0 => ⟨fun h => (by cases h), fun ⟨i, h, _⟩ => (by omega)⟩
  | n + 1 => by
    show (q_any f n || f n) = true ↔ _
    rw [Bool.or_eq_true, q_any_iff]
    constructor
    · rintro (⟨i, h1, h2⟩ | h)
      · exact ⟨i, by omega, h2⟩
      · exact ⟨n, by omega, h⟩
    · rintro ⟨i, h1, h2⟩
      by_cases hi : i = n
      · subst hi; exact .inr h2
      · exact .inl ⟨i, by omega, h2⟩
theorem q_any_no {f : Nat → Bool} {n : Nat} : q_any f n = false ↔ ∀ i, i < n → f i = false := by
  rw [← Bool.not_eq_true, q_any_iff]
  constructor
  · intro h i hi
    cases hf : f i with
    | false => rfl
    | true => exact absurd ⟨i, hi, hf⟩ h
  · rintro h ⟨i, h1, h2⟩
    rw [h i h1] at h2
    cases h2
theorem q_s_le {f : Nat → Nat} {b : Nat} : ∀ {n : Nat}, (∀ i, i < n → f i ≤ b) → q_s f n ≤ n * b
  | 0, _ => by simp [q_s]
  | n + 1, h => by
    have h1 := q_s_le (n := n) fun i hi => h i (by omega)
    have h2 := h n (by omega)
    show q_s f n + f n ≤ (n + 1) * b
    rw [Nat.succ_mul]
    omega
def b_n (b : Bool) : Int32 := if b then nI 1 else nI 0
theorem b_n_or (b : Bool) : b_n b = 0 ∨ b_n b = 1 := by cases b <;> decide
theorem nI_s1 (n : Nat) : nI (n + 1) - nI 1 = nI n := nI_pred n
theorem nI_p1 (n : Nat) : nI n + nI 1 = nI (n + 1) := nI_add n 1
theorem b_n0 (b : Bool) : b_n b = 0 ↔ b = false := by cases b <;> decide
theorem nIl {a b : Nat} (h : a < b) (hb : b < 2147483648) : nI a < nI b := nI_lt h hb
theorem nIn {a b : Nat} (h : b ≤ a) (hb : a < 2147483648) : ¬ nI a < nI b := nI_nlt h hb
theorem nIp {a : Nat} (hb : a < 2147483648) : ¬ nI a < 0 := nI_pos hb
theorem nIc {a : Nat} (hb : a < 2147483648) : (nI a).toNatClampNeg = a := nI_clamp hb
theorem nIi {a N : Nat} (h : a < N) (hb : N < 2147483648) : a_in (nI a) N := ⟨nI_pos (by omega), by rw [nI_clamp (by omega)]; exact h⟩
theorem nI_at {r w k : Nat} : nI r * nI w + nI k = nI (r * w + k) := by rw [pk_mul, nI_add]
theorem n_lin {r w k n N : Nat} (hr : r < n) (hk : k < w) (hN : n * w ≤ N) : r * w + k < N := by
  have h1 : (r + 1) * w ≤ n * w := Nat.mul_le_mul_right w hr
  rw [Nat.succ_mul] at h1
  omega
/-- cells of two rows are the same only if rows and columns are -/
theorem n_inj {r r' w k k' : Nat} (hk : k < w) (hk' : k' < w) (h : r * w + k = r' * w + k') : r = r' ∧ k = k' := by
  have h1 : (r * w + k) / w = r := by rw [Nat.mul_comm, Nat.mul_add_div (by omega), Nat.div_eq_of_lt hk]; rfl
  have h2 : (r' * w + k') / w = r' := by rw [Nat.mul_comm, Nat.mul_add_div (by omega), Nat.div_eq_of_lt hk']; rfl
  have h3 : r = r' := by rw [← h1, h, h2]
  subst h3
  exact ⟨rfl, by omega⟩
