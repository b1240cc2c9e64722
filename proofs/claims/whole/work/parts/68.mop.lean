/-! the model: names -/
def z_eqn (g B : Nat → Nat) (t : Nat × Nat × Nat) : Bool := z_len g == t.2.2 - t.2.1 && !q_any (fun k => g k != B (t.2.1 + k)) (z_len g)
theorem k_n8_len {B : Nat → Nat} {E q : Nat} (h1 : (k_tok B E q).1 = 1) (h8 : (k_tok B E q).2.2 - (k_tok B E q).2.1 ≤ 8) : z_len (k_n8 B (k_tok B E q)) = (k_tok B E q).2.2 - (k_tok B E q).2.1 := by
  refine z_len_of h8 (fun k hk => ?_) (fun k hk _ => ?_)
  · unfold k_n8
    rw [if_pos (by omega)]
    exact k_tok_al h1 (by omega) (by omega)
  · unfold k_n8
    rw [if_neg (by omega)]
theorem z_eqn_8 {B g : Nat → Nat} {E q : Nat} (h1 : (k_tok B E q).1 = 1) (hg : Vn g) : z_eqn g B (k_tok B E q) = (decide ((k_tok B E q).2.2 - (k_tok B E q).2.1 ≤ 8) && g_eq8 g (k_n8 B (k_tok B E q))) := by
  obtain ⟨a1, a2, a3, a4⟩ := z_vn hg
  unfold z_eqn
  by_cases h8 : (k_tok B E q).2.2 - (k_tok B E q).2.1 ≤ 8
  · rw [decide_eq_true h8, Bool.true_and]
    have hl := k_n8_len h1 h8
    obtain ⟨b1, b2, b3, b4⟩ := z_vn (k_n8_vn h1 h8)
    have en : ∀ k, k < (k_tok B E q).2.2 - (k_tok B E q).2.1 → k_n8 B (k_tok B E q) k = B ((k_tok B E q).2.1 + k) := fun k hk => by
      unfold k_n8
      rw [if_pos (by omega)]
    unfold g_eq8
    by_cases c : z_len g = (k_tok B E q).2.2 - (k_tok B E q).2.1
    · rw [c, beq_self_eq_true, Bool.true_and]
      congr 1
      by_cases hq : ∃ k, k < 8 ∧ (g k != k_n8 B (k_tok B E q) k) = true
      · obtain ⟨k, hk, hne⟩ := hq
        rw [q_any_iff.mpr ⟨k, hk, hne⟩]
        have hkl : k < (k_tok B E q).2.2 - (k_tok B E q).2.1 := by
          by_cases hh : k < (k_tok B E q).2.2 - (k_tok B E q).2.1
          · exact hh
          · rw [a4 k (by omega) hk, b4 k (by omega) hk, bne_self_eq_false] at hne
            cases hne
        refine q_any_iff.mpr ⟨k, hkl, ?_⟩
        rw [← en k hkl]
        exact hne
      · have e1 : q_any (fun k => g k != k_n8 B (k_tok B E q) k) 8 = false := by
          cases e : q_any (fun k => g k != k_n8 B (k_tok B E q) k) 8 with
          | false => rfl
          | true => exact absurd (q_any_iff.mp e) hq
        rw [e1]
        refine q_any_no.mpr fun k hk => ?_
        have := q_any_no.mp e1 k (by omega)
        rw [en k hk] at this
        exact this
    · rw [beq_eq_false_iff_ne.mpr c, Bool.false_and]
      have : q_any (fun k => g k != k_n8 B (k_tok B E q) k) 8 = true := by
        by_cases hlt : z_len g < (k_tok B E q).2.2 - (k_tok B E q).2.1
        · refine q_any_iff.mpr ⟨z_len g, by omega, bne_iff_ne.mpr ?_⟩
          rw [a4 _ (Nat.le_refl _) (by omega)]
          have := b3 (z_len g) (by omega)
          omega
        · refine q_any_iff.mpr ⟨z_len (k_n8 B (k_tok B E q)), by omega, bne_iff_ne.mpr ?_⟩
          rw [b4 _ (Nat.le_refl _) (by omega)]
          have := a3 (z_len (k_n8 B (k_tok B E q))) (by omega)
          omega
      rw [this]
      rfl
  · rw [decide_eq_false h8, Bool.false_and, beq_eq_false_iff_ne.mpr (by omega), Bool.false_and]
theorem y_find_congr {f g : Nat → Bool} : ∀ {k i : Nat}, (∀ r, i ≤ r → r < i + k → f r = g r) → g_find f k i = g_find g k i
  | 0, _, _ => rfl
  | k + 1, i, h => by
    unfold g_find
    rw [h i (Nat.le_refl _) (by omega), y_find_congr fun r h1 h2 => h r (by omega) (by omega)]
theorem y_find_no {f : Nat → Bool} : ∀ {k i : Nat}, (∀ r, i ≤ r → r < i + k → f r = false) → g_find f k i = none
  | 0, _, _ => rfl
  | k + 1, i, h => by
    unfold g_find
    rw [h i (Nat.le_refl _) (by omega), if_neg Bool.false_ne_true, y_find_no fun r h1 h2 => h r (by omega) (by omega)]
/-- the tube (table 0) or mix (table 1) that has the token's name -/
def r_here (X : Pal) (B : Nat → Nat) (t : Nat × Nat × Nat) (j : Nat) : Option Nat := if 8 < t.2.2 - t.2.1 then none else g_find (fun r => g_eq8 (X.2 j r) (k_n8 B t)) (X.1 j) 0
theorem r_here_eq {X : Pal} {B : Nat → Nat} {E q j : Nat} (h1 : (k_tok B E q).1 = 1) (hg : ∀ r, r < X.1 j → Vn (X.2 j r)) : g_find (fun r => z_eqn (X.2 j r) B (k_tok B E q)) (X.1 j) 0 = r_here X B (k_tok B E q) j := by
  unfold r_here
  by_cases h8 : 8 < (k_tok B E q).2.2 - (k_tok B E q).2.1
  · rw [if_pos h8]
    exact y_find_no fun r _ hr => by rw [z_eqn_8 h1 (hg r (by omega)), decide_eq_false (by omega)]; rfl
  · rw [if_neg h8]
    exact y_find_congr fun r _ hr => by rw [z_eqn_8 h1 (hg r (by omega)), decide_eq_true (by omega)]; rfl
section MOP
variable {P : aCall} {d : Nat} {σ : aSt} {X : Pal} {w : Nat} {B : Nat → Nat} {E : Nat} {r : (Nat × Nat) ⊕ Nat}
theorem y_isNameAt (hd : 1 ≤ d) (h : Sh σ) (hw : Rw σ w) {q : Nat} (R : RS σ B E (.inr q)) {g : Nat → Nat} (hg : Vn g) {p : Nat} (hp : p + 9 ≤ 720) (e0 : a_I σ w p = nI (z_len g)) (e1 : ∀ k, k < z_len g → a_I σ w (p + 1 + k) = nI (g k)) : a_call a_tab P d 243 [.ref 237, .int (nI p)] σ = some (.inl (some (.int (b_n (z_eqn g B (k_tok B E q))))), σ) := by
  obtain ⟨k1, k2, k3, k4⟩ := R.tok
  obtain ⟨a1, a2, a3, a4⟩ := z_vn hg
  have T := R.2.2.1
  have ex : ∀ i v, (v = 0 ∨ v = 1) → b_R (a_call a_tab P (d - 1)) kX8_isNameAt [] (76, [some (.ref 237), some (.int (nI p)), some (.int (nI v)), some (.int (nI i))], [], σ) = some (.inl (some (.int (nI v))), σ) := fun i v hv => by
    rw [b_X8_isNameAt_76, b_gd_t (by rcases hv with rfl | rfl <;> decide)]
  have out0 : ∀ i, b_R (a_call a_tab P (d - 1)) kX8_isNameAt [] (26, [some (.ref 237), some (.int (nI p)), some (.int (nI 0)), some (.int (nI i))], [], σ) = some (.inl (some (.int (nI 0))), σ) := fun i => by
    rw [b_X8_isNameAt_26 h hw, b_gd_t (nIi (by omega) (by decide)), ex i 0 (.inl rfl), if_pos (show nI 0 = 0 from rfl)]
    by_cases hl : nI i < a_I σ w (Int32.toNatClampNeg (nI p))
    · rw [if_pos hl]
    · rw [if_neg hl]
  rw [n_X8_isNameAt (by omega), b_X8_isNameAt_0 h hw, b_gd_t (nIi (by omega) (by decide)), nIc (by omega), e0, T.2.2, T.2.1, pk_sub k2, b_X8_isNameAt_23, b_X8_isNameAt_23]
  unfold z_eqn
  by_cases c : z_len g = (k_tok B E q).2.2 - (k_tok B E q).2.1
  · rw [if_pos (congrArg nI c), ← c, beq_self_eq_true, Bool.true_and]
    have loop : ∀ k i, i + k = z_len g → q_any (fun k => g k != B ((k_tok B E q).2.1 + k)) i = false → b_R (a_call a_tab P (d - 1)) kX8_isNameAt [] (26, [some (.ref 237), some (.int (nI p)), some (.int (nI 1)), some (.int (nI i))], [], σ) = some (.inl (some (.int (b_n (!q_any (fun k => g k != B ((k_tok B E q).2.1 + k)) (z_len g))))), σ) := by
      intro k
      induction k with
      | zero =>
        intro i hi hq
        obtain rfl : i = z_len g := by omega
        rw [b_X8_isNameAt_26 h hw, b_gd_t (nIi (by omega) (by decide)), nIc (by omega), e0, if_neg (nIn (Nat.le_refl _) (by omega)), ex _ 1 (.inr rfl), hq]
        rfl
      | succ k ih =>
        intro i hi hq
        have hb := R.1.2.2 ((k_tok B E q).2.1 + i) (by omega)
        have hgi := a3 i (by omega)
        rw [b_X8_isNameAt_26 h hw, b_gd_t (nIi (by omega) (by decide)), nIc (by omega), e0, if_pos (nIl (by omega) (by omega)), if_neg (show ¬ nI 1 = 0 by decide), T.2.1, nI_add, nI_add, nI_add, b_gd_t (nIi (by omega) (by decide)), b_gd_t (nIi (by omega) (by decide)), nIc (by omega), nIc (by omega), e1 i (by omega), hb.1, b_X8_isNameAt_69, b_X8_isNameAt_69, nI_add]
        by_cases c3 : g i = B ((k_tok B E q).2.1 + i)
        · rw [if_pos (congrArg nI c3)]
          exact ih (i + 1) (by omega) (by show (q_any _ i || (g i != B ((k_tok B E q).2.1 + i))) = false; rw [hq, c3, bne_self_eq_false]; rfl)
        · rw [if_neg (fun z => c3 ((o_eq (by omega) (by omega)).mp z)), out0, show q_any (fun k => g k != B ((k_tok B E q).2.1 + k)) (z_len g) = true from q_any_iff.mpr ⟨i, by omega, bne_iff_ne.mpr c3⟩]
          rfl
    exact loop (z_len g) 0 (Nat.zero_add _) rfl
  · rw [if_neg (fun z => c ((o_eq (by omega) (by omega)).mp z)), out0, beq_eq_false_iff_ne.mpr c]
    rfl
theorem y_tubeHere (hd : 2 ≤ d) (h : Sh σ) (M : MC σ w X) (V : Vd X) {q : Nat} (R : RS σ B E (.inr q)) (c1 : (k_tok B E q).1 = 1) : a_call a_tab P d 244 [.ref 237] σ = some (.inl (some (.int (g_res (r_here X B (k_tok B E q) 0)))), σ) := by
  have h20 := V.1
  have loop : ∀ k i, i + k = X.1 0 → b_R (a_call a_tab P (d - 1)) kX8_tubeHere [] (2, [some (.ref 237), some (.int (nI i))], [], σ) = some (.inl (some (.int (g_res (g_find (fun r => z_eqn (X.2 0 r) B (k_tok B E q)) k i)))), σ) := by
    intro k
    induction k with
    | zero =>
      intro i hi
      rw [b_X8_tubeHere_2 h M.1, b_gd_t (nIi (by decide) (by decide)), show a_I σ w (Int32.toNatClampNeg (nI 0)) = nI (X.1 0) from M.2.2.2.1.1, if_neg (nIn (by omega) (by omega))]
      rfl
    | succ k ih =>
      intro i hi
      obtain ⟨-, -, -, f5, f6⟩ := M.2.2.2.2.1 i (by omega)
      rw [b_X8_tubeHere_2 h M.1, b_gd_t (nIi (by decide) (by decide)), show a_I σ w (Int32.toNatClampNeg (nI 0)) = nI (X.1 0) from M.2.2.2.1.1, if_pos (nIl (by omega) (by omega)), pk_mul, nI_add, nI_add, y_isNameAt (by omega) h M.1 R (V.2.2.2.2.2.2.1 i (by omega)).1 (by omega) f5 (fun k hk => by rw [show 8 + 14 * i + 5 + 1 + k = 8 + 14 * i + (6 + k) by omega]; exact f6 k hk), g_v, b_X8_tubeHere_25, nI_add]
      unfold g_find
      cases z_eqn (X.2 0 i) B (k_tok B E q) with
      | true => rw [if_neg (show ¬ b_n true = 0 by decide), if_pos rfl]; rfl
      | false =>
        rw [if_pos (show b_n false = 0 by decide), if_neg Bool.false_ne_true]
        exact ih (i + 1) (by omega)
  rw [n_X8_tubeHere (by omega), b_X8_tubeHere_0, ← r_here_eq (j := 0) c1 fun r hr => (V.2.2.2.2.2.2.1 r hr).1]
  exact loop (X.1 0) 0 (Nat.zero_add _)
theorem y_mixHere (hd : 2 ≤ d) (h : Sh σ) (M : MC σ w X) (V : Vd X) {q : Nat} (R : RS σ B E (.inr q)) (c1 : (k_tok B E q).1 = 1) : a_call a_tab P d 245 [.ref 237] σ = some (.inl (some (.int (g_res (r_here X B (k_tok B E q) 1)))), σ) := by
  have h20 := V.1
  have loop : ∀ k i, i + k = X.1 1 → b_R (a_call a_tab P (d - 1)) kX8_mixHere [] (2, [some (.ref 237), some (.int (nI i))], [], σ) = some (.inl (some (.int (g_res (g_find (fun r => z_eqn (X.2 1 r) B (k_tok B E q)) k i)))), σ) := by
    intro k
    induction k with
    | zero =>
      intro i hi
      rw [b_X8_mixHere_2 h M.1, b_gd_t (nIi (by decide) (by decide)), show a_I σ w (Int32.toNatClampNeg (nI 1)) = nI (X.1 1) from M.2.2.2.1.2.1, if_neg (nIn (by omega) (by omega))]
      rfl
    | succ k ih =>
      intro i hi
      obtain ⟨f0, f1, -, -⟩ := M.2.2.2.2.2.1 i (by omega)
      rw [b_X8_mixHere_2 h M.1, b_gd_t (nIi (by decide) (by decide)), show a_I σ w (Int32.toNatClampNeg (nI 1)) = nI (X.1 1) from M.2.2.2.1.2.1, if_pos (nIl (by omega) (by omega)), pk_mul, nI_add, nI_add, y_isNameAt (by omega) h M.1 R (V.2.2.2.2.2.2.2.1 i (by omega)).1 (by omega) f0 (fun k hk => by rw [show 288 + 18 * i + 0 + 1 + k = 288 + 18 * i + (1 + k) by omega]; exact f1 k hk), g_v, b_X8_mixHere_26, nI_add]
      unfold g_find
      cases z_eqn (X.2 1 i) B (k_tok B E q) with
      | true => rw [if_neg (show ¬ b_n true = 0 by decide), if_pos rfl]; rfl
      | false =>
        rw [if_pos (show b_n false = 0 by decide), if_neg Bool.false_ne_true]
        exact ih (i + 1) (by omega)
  rw [n_X8_mixHere (by omega), b_X8_mixHere_0, ← r_here_eq (j := 1) c1 fun r hr => (V.2.2.2.2.2.2.2.1 r hr).1]
  exact loop (X.1 1) 0 (Nat.zero_add _)
/-- the name that the model keeps -/
def NM (σ : aSt) (g : Nat → Nat) : Prop := Vn g ∧ a_I σ 237 30 = nI (z_len g) ∧ ∀ k, k < z_len g → a_I σ 248 k = nI (g k)
def S30 (b k : Nat) : Prop := (b = 237 ∧ ((22 ≤ k ∧ k ≤ 26) ∨ k = 30)) ∨ b = 248
theorem S26.n {b k : Nat} (h : S26 b k) : S30 b k := by unfold S26 at h; unfold S30; omega
theorem NM.mo {S : Nat → Nat → Prop} {σ σ' : aSt} {g : Nat → Nat} (h : NM σ g) (m : Mo S σ σ') (h1 : ¬ S 237 30) (h2 : ∀ k, ¬ S 248 k) : NM σ' g := ⟨h.1, (m.I h1).trans h.2.1, fun k hk => (m.I (h2 k)).trans (h.2.2 k hk)⟩
theorem y_checkB (hd : 2 ≤ d) (h : Sh σ) {e : Nat × Nat} (R : RS σ B E (.inl e)) {v c : Nat} (hv : v = 0 ∨ v = 1) (h1 : 1 ≤ c) (h4 : c ≤ 4) : ∃ σ', a_call a_tab P d 233 [.ref 237, .int (nI v), .int (nI c)] σ = some (.inl none, σ') ∧ Mo S26 σ σ' ∧ RS σ' B E (.inl e) := by
  rcases hv with rfl | rfl
  · exact y_checkF hd h R h1 h4
  · exact y_checkT hd h R h1 h4
/-- from the name's length on, when something is wrong -/
theorem y_lookB (hd : 3 ≤ d) (h : Sh σ) {e : Nat × Nat} (R : RS σ B E (.inl e)) : ∃ σ', b_R (a_call a_tab P (d - 1)) kX8_lookName [] (9, [some (.ref 237), none], [], σ) = some (.inl none, σ') ∧ Mo S30 σ σ' ∧ RS σ' B E (.inl e) := by
  obtain ⟨e1, e2⟩ := R.e25
  have m1 : Mo S30 σ (a_setI σ 237 30 (nI 0)) := Mo.set (by unfold S30; omega)
  have m1' : Mo (fun b k => b = 237 ∧ k = 30) σ (a_setI σ 237 30 (nI 0)) := Mo.set ⟨rfl, rfl⟩
  have h1 := m1.sh h
  have R1 := R.mo m1' (fun k a b => by omega) (fun k => by omega)
  obtain ⟨s2, c2, m2, R2⟩ := y_checkT (P := P) (d := d - 1) (by omega) h1 R1 (c := 2) (by decide) (by decide)
  have f30 : a_I s2 237 30 = nI 0 := by rw [m2.I (by unfold S26; omega)]; exact a_I_at
  refine ⟨s2, ?_, m1.tr (m2.mono fun b k z => z.n), R2⟩
  rw [b_X8_lookName_9 h, e1, if_neg e2, b_X8_lookName_30 h, a_I_at, if_neg (by decide), b_X8_lookName_48 h1, c2, g_n, b_X8_lookName_52, b_X8_lookName_54 (m2.sh h1), f30, if_neg (by decide), b_X8_lookName_92]
theorem y_lookName (hd : 3 ≤ d) (h : Sh σ) (R : RS σ B E r) : ∃ σ', a_call a_tab P d 246 [.ref 237] σ = some (.inl none, σ') ∧ Mo S30 σ σ' ∧ RS σ' B E (r_b r fun q => match g_nm B (k_tok B E q) with | some e => .inl e | none => .inr q) ∧ ∀ q, r = .inr q → g_nm B (k_tok B E q) = none → NM σ' (k_n8 B (k_tok B E q)) ∧ (k_tok B E q).1 = 1 := by
  rw [n_X8_lookName (by omega), b_X8_lookName_0 h, y_isWordHere (by omega) h R, g_v, b_X8_lookName_5 h]
  cases r with
  | inl e =>
    obtain ⟨s1, c1, m1, R1⟩ := y_checkF (P := P) (d := d - 1) (by omega) h R (c := 1) (by decide) (by decide)
    obtain ⟨s2, e2, m2, R2⟩ := y_lookB (P := P) (d := d) (by omega) (m1.sh h) (e := e) R1
    refine ⟨s2, ?_, (m1.mono fun b k z => z.n).tr m2, R2, fun q hq => by cases hq⟩
    have c1 : a_call a_tab P (d - 1) 233 [.ref 237, .int (b_n (r_q (.inl e) fun q => (k_tok B E q).1 == 1)), .int (nI 1)] σ = _ := c1
    rw [c1, g_n]
    exact e2
  | inr q =>
    obtain ⟨k1, k2, k3, k4⟩ := R.tok
    rw [show (r_q (.inr q) fun q => (k_tok B E q).1 == 1) = ((k_tok B E q).1 == 1) from rfl]
    show ∃ σ', _ ∧ Mo S30 σ σ' ∧ RS σ' B E (match g_nm B (k_tok B E q) with | some e => .inl e | none => .inr q) ∧ _
    unfold g_nm
    by_cases c : (k_tok B E q).1 = 1
    · obtain ⟨s1, c1, m1, R1⟩ := y_checkT (P := P) (d := d - 1) (by omega) h R (c := 1) (by decide) (by decide)
      have h1 := m1.sh h
      have T1 := R1.2.2.1
      have m2' : Mo (fun b k => b = 237 ∧ k = 30) s1 (a_setI s1 237 30 (nI ((k_tok B E q).2.2 - (k_tok B E q).2.1))) := Mo.set ⟨rfl, rfl⟩
      have h2 := m2'.sh h1
      have R2 := R1.mo m2' (fun k a b => by omega) (fun k => by omega)
      have m2 : Mo S30 σ (a_setI s1 237 30 (nI ((k_tok B E q).2.2 - (k_tok B E q).2.1))) := (m1.mono fun b k z => z.n).then_set (by unfold S30; omega)
      rw [c, show b_n (1 == 1) = nI 1 from rfl, c1, g_n, b_X8_lookName_9 h1, R1.2.2.2, if_pos (show nI 0 = 0 from rfl), T1.2.2, T1.2.1, pk_sub k2, b_X8_lookName_30 h1, a_I_at, if_pos rfl]
      by_cases c8 : 8 < (k_tok B E q).2.2 - (k_tok B E q).2.1
      · obtain ⟨s3, c3, m3, R3⟩ := y_checkF (P := P) (d := d - 1) (by omega) h2 R2 (c := 2) (by decide) (by decide)
        have R3 : RS s3 B E (.inl (2, (k_tok B E q).2.1)) := R3
        obtain ⟨e3, e4⟩ := R3.e25
        refine ⟨s3, ?_, m2.tr (m3.mono fun b k z => z.n), by rw [if_pos c8]; exact R3, fun q' hq hn => ?_⟩
        · rw [if_pos (nIl c8 (by omega)), b_X8_lookName_48 h2, c3, g_n, b_X8_lookName_52, b_X8_lookName_54 (m3.sh h2), e3, if_neg e4, b_X8_lookName_92]
          by_cases hl : nI 0 < a_I s3 237 30
          · rw [if_pos hl]
          · rw [if_neg hl]
        · cases hq
          rw [if_pos c, if_pos c8] at hn
          cases hn
      · obtain ⟨s3, c3, m3, R3⟩ := y_checkT (P := P) (d := d - 1) (by omega) h2 R2 (c := 2) (by decide) (by decide)
        have f30 : a_I s3 237 30 = nI ((k_tok B E q).2.2 - (k_tok B E q).2.1) := by rw [m3.I (by unfold S26; omega)]; exact a_I_at
        obtain ⟨s4, ⟨m4, n4⟩, e4⟩ := up_st0 (run := fun i τ => b_R (a_call a_tab P (d - 1)) kX8_lookName [] (54, [some (.ref 237), some (.int (nI i))], [], τ)) (n := (k_tok B E q).2.2 - (k_tok B E q).2.1) (s := s3) (fun i τ => Mo (fun b _ => b = 248) s3 τ ∧ ∀ k, k < i → a_I τ 248 k = nI (B ((k_tok B E q).2.1 + k))) ⟨Mo.rf, fun k hk => absurd hk (Nat.not_lt_zero _)⟩
          (fun i τ hi ⟨m5, n5⟩ => by
            have Rt := R3.mo m5 (fun k a b => by omega) (fun k => by omega)
            have ht := m5.sh (m3.sh h2)
            have hb := Rt.1.2.2 ((k_tok B E q).2.1 + i) (by omega)
            refine ⟨a_setI τ 248 i (nI (B ((k_tok B E q).2.1 + i))), ⟨m5.then_set rfl, fun k hk => ?_⟩, ?_⟩
            · by_cases hki : k = i
              · subst hki; exact a_I_at
              · rw [a_I_off (.inr hki)]; exact n5 k (by omega)
            · (try dsimp only)
              rw [b_X8_lookName_54 ht, show a_I τ 237 30 = nI ((k_tok B E q).2.2 - (k_tok B E q).2.1) from (m5.I (by omega)).trans f30, if_pos (nIl hi (by omega)), Rt.2.2.2, if_pos (show nI 0 = 0 from rfl), Rt.2.2.1.2.1, nI_add, b_gd_t (nIi (by omega) (by decide)), b_gd_t (nIi (by omega) (by decide)), nIc (by omega), nIc (by omega), hb.1, nI_add])
        have e4 : b_R (a_call a_tab P (d - 1)) kX8_lookName [] (54, [some (.ref 237), some (.int (nI 0))], [], s3) = _ := e4
        have R4 := R3.mo m4 (fun k a b => by omega) (fun k => by omega)
        refine ⟨s4, ?_, (m2.tr (m3.mono fun b k z => z.n)).tr (m4.mono fun b k z => .inr z), by rw [if_neg c8]; exact R4, fun q' hq hn => ?_⟩
        · rw [if_neg (nIn (by omega) (by omega)), b_X8_lookName_48 h2, c3, g_n, b_X8_lookName_52, e4]
          (try dsimp only)
          rw [b_X8_lookName_54 (m4.sh (m3.sh h2)), show a_I s4 237 30 = nI ((k_tok B E q).2.2 - (k_tok B E q).2.1) from (m4.I (by omega)).trans f30, if_neg (nIn (Nat.le_refl _) (by omega)), b_X8_lookName_92]
        · cases hq
          have hl := k_n8_len c (by omega)
          refine ⟨⟨k_n8_vn c (by omega), ?_, fun k hk => ?_⟩, c⟩
          · rw [hl]; exact (m4.I (by omega)).trans f30
          · rw [hl] at hk
            rw [n4 k hk]
            unfold k_n8
            rw [if_pos (by omega)]
    · obtain ⟨s1, c1, m1, R1⟩ := y_checkF (P := P) (d := d - 1) (by omega) h R (c := 1) (by decide) (by decide)
      obtain ⟨s2, e2, m2, R2⟩ := y_lookB (P := P) (d := d) (by omega) (m1.sh h) (e := (1, (k_tok B E q).2.1)) R1
      refine ⟨s2, ?_, (m1.mono fun b k z => z.n).tr m2, by rw [if_neg c]; exact R2, fun q' hq hn => ?_⟩
      · rw [beq_eq_false_iff_ne.mpr c, show b_n false = nI 0 from rfl, c1, g_n]
        exact e2
      · cases hq
        rw [if_neg c] at hn
        cases hn
theorem y_layName (hd : 1 ≤ d) (h : Sh σ) (hw : Rw σ w) (hw2 : w = 238 ∨ w = 239) {g : Nat → Nat} (N : NM σ g) {p : Nat} (hp : p + 9 ≤ 720) : ∃ σ', a_call a_tab P d 247 [.ref 237, .int (nI p)] σ = some (.inl none, σ') ∧ Mo (fun b k => b = w ∧ p ≤ k ∧ k < p + 9) σ σ' ∧ a_I σ' w p = nI (z_len g) ∧ ∀ k, k < z_len g → a_I σ' w (p + 1 + k) = nI (g k) := by
  obtain ⟨n1, n2, n3⟩ := N
  obtain ⟨-, l8, -, -⟩ := z_vn n1
  have m0 : Mo (fun b k => b = w ∧ p ≤ k ∧ k < p + 9) σ (a_setI σ w p (nI (z_len g))) := Mo.set ⟨rfl, by omega, by omega⟩
  obtain ⟨s1, ⟨m1, q1, q2⟩, e⟩ := up_st0 (run := fun i τ => b_R (a_call a_tab P (d - 1)) kX8_layName [] (12, [some (.ref 237), some (.int (nI p)), some (.int (nI i))], [], τ)) (n := 8) (s := a_setI σ w p (nI (z_len g))) (fun i τ => Mo (fun b k => b = w ∧ p ≤ k ∧ k < p + 9) σ τ ∧ a_I τ w p = nI (z_len g) ∧ ∀ k, k < i → k < z_len g → a_I τ w (p + 1 + k) = nI (g k)) ⟨m0, a_I_at, fun k hk => absurd hk (Nat.not_lt_zero _)⟩
    (fun i τ hi ⟨m1, q1, q2⟩ => by
      have ht := m1.sh h
      have rt := m1.rw hw
      have t30 : a_I τ 237 30 = nI (z_len g) := (m1.I (by omega)).trans n2
      refine ⟨a_setI τ w (p + 1 + i) (if i < z_len g then nI (g i) else nI 0), ⟨m1.then_set ⟨rfl, by omega, by omega⟩, by rw [a_I_off (.inr (by omega))]; exact q1, fun k hk hkl => ?_⟩, ?_⟩
      · by_cases hki : k = i
        · subst hki; rw [a_I_at, if_pos hkl]
        · rw [a_I_off (.inr (by omega))]; exact q2 k (by omega) hkl
      · (try dsimp only)
        rw [b_X8_layName_12 ht rt, if_pos (nIl hi (by decide)), t30]
        by_cases hil : i < z_len g
        · rw [if_pos hil, if_pos (nIl hil (by omega)), b_gd_t (nIi (by omega) (by decide)), nIc (by omega), show a_I τ 248 i = nI (g i) from (m1.I (by omega)).trans (n3 i hil), nI_add, nI_add, b_X8_layName_45 rt, b_gd_t (nIi (by omega) (by decide)), nIc (by omega), nI_add]
        · rw [if_neg hil, if_neg (nIn (by omega) (by omega)), nI_add, nI_add, b_X8_layName_45 rt, b_gd_t (nIi (by omega) (by decide)), nIc (by omega), nI_add])
  have e : b_R (a_call a_tab P (d - 1)) kX8_layName [] (12, [some (.ref 237), some (.int (nI p)), some (.int (nI 0))], [], a_setI σ w p (nI (z_len g))) = _ := e
  refine ⟨s1, ?_, m1, q1, fun k hk => q2 k (by omega) hk⟩
  rw [n_X8_layName (by omega), b_X8_layName_0 h hw, b_gd_t (nIi (by omega) (by decide)), nIc (by omega), n2, e]
  (try dsimp only)
  rw [b_X8_layName_12 (m1.sh h) (m1.rw hw), if_neg (by decide)]
end MOP
