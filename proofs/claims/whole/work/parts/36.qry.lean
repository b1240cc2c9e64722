/-! QueryReader -/
def h_pr (X : Pal) (m j : Nat) : Nat := if j = 0 then m else if j = 1 then X.2 1 m 8 else if j = 2 then z_all (X.2 1 m) else if j < 6 then z_val X (X.2 1 m) (j - 3) else if j = 6 then z_1 (z_bro X (X.2 1 m)) else z_str X (X.2 1 m)
def h_wd (j : Nat) : Nat := [6, 12, 13, 14, 15, 16, 17, 18].getD j 0
def h_pi (B : Nat → Nat) (t : Nat × Nat × Nat) : Option Nat := g_find (fun j => k_is B t (q_txt (h_wd j))) 8 0
def h_ov (X : Pal) (o : Nat ⊕ Nat) (m : Nat) : Nat := match o with | .inl n => n | .inr j => h_pr X m j
def h_en (o : Nat ⊕ Nat) : Int32 := match o with | .inl n => nI n | .inr j => (-1) - nI j
def h_val (B : Nat → Nat) (E q : Nat) : (Nat × Nat) ⊕ ((Nat ⊕ Nat) × Nat) :=
  if (k_tok B E q).1 = 2 then (if 9999 < k_num B (k_tok B E q) then .inl (2, (k_tok B E q).2.1) else .inr (.inl (k_num B (k_tok B E q)), (k_tok B E q).2.2))
  else match h_pi B (k_tok B E q) with
    | none => .inl (1, (k_tok B E q).2.1)
    | some j => .inr (.inr j, (k_tok B E q).2.2)
def h_op (B : Nat → Nat) (t : Nat × Nat × Nat) : Option Nat := if k_sg B t 60 then some 0 else if k_sg B t 62 then some 1 else if k_sg B t 61 then some 2 else none
def h_do (o a b : Nat) : Bool := if o = 0 then decide (a < b) else if o = 1 then decide (b < a) else decide (a = b)
def h_cmp (X : Pal) (B : Nat → Nat) (E q : Nat) : (Nat × Nat) ⊕ ((Nat → Bool) × Nat) := match h_val B E q with
  | .inl e => .inl e
  | .inr a => match h_op B (k_tok B E a.2) with
    | none => .inl (1, (k_tok B E a.2).2.1)
    | some o => match h_val B E (k_tok B E a.2).2.2 with
      | .inl e => .inl e
      | .inr b => .inr (fun m => h_do o (h_ov X a.1 m) (h_ov X b.1 m), b.2)
/-- factors and what joins them -/
def h_tl (B : Nat → Nat) (E : Nat) (fac : Nat → (Nat × Nat) ⊕ ((Nat → Bool) × Nat)) : Nat → (Nat → Bool) → (Nat → Bool) → Nat → (Nat × Nat) ⊕ ((Nat → Bool) × Nat)
  | 0, _, _, _ => .inl (0, 0)
  | f + 1, any, all, q => match fac q with
    | .inl e => .inl e
    | .inr r => if k_is B (k_tok B E r.2) (q_txt 9) then h_tl B E fac f any (fun m => all m && r.1 m) (k_tok B E r.2).2.2
      else if k_is B (k_tok B E r.2) (q_txt 10) then h_tl B E fac f (fun m => any m || (all m && r.1 m)) (fun _ => true) (k_tok B E r.2).2.2
      else .inr (fun m => any m || (all m && r.1 m), r.2)
def h_fac (X : Pal) (B : Nat → Nat) (E : Nat) : Nat → Nat → (Nat × Nat) ⊕ ((Nat → Bool) × Nat)
  | 0, q => if k_is B (k_tok B E q) (q_txt 11) || k_sg B (k_tok B E q) 40 then .inl (3, (k_tok B E q).2.1) else h_cmp X B E q
  | k + 1, q => if k_is B (k_tok B E q) (q_txt 11) then
      (match h_fac X B E k (k_tok B E q).2.2 with
      | .inl e => .inl e
      | .inr r => .inr (fun m => !r.1 m, r.2))
    else if k_sg B (k_tok B E q) 40 then
      (match h_tl B E (h_fac X B E k) 200 (fun _ => false) (fun _ => true) (k_tok B E q).2.2 with
      | .inl e => .inl e
      | .inr r => if k_sg B (k_tok B E r.2) 41 then .inr (r.1, (k_tok B E r.2).2.2) else .inl (1, (k_tok B E r.2).2.1))
    else h_cmp X B E q
def h_qry (X : Pal) (B : Nat → Nat) (E : Nat) : (Nat × Nat) ⊕ (Bool × (Nat → Bool)) :=
  if k_is B (k_tok B E 0) (q_txt 7) || k_is B (k_tok B E 0) (q_txt 8) then
    (match h_tl B E (h_fac X B E 6) 200 (fun _ => false) (fun _ => true) (k_tok B E 0).2.2 with
    | .inl e => .inl e
    | .inr r => if (k_tok B E r.2).1 = 0 then .inr (k_is B (k_tok B E 0) (q_txt 7), r.1) else .inl (1, (k_tok B E r.2).2.1))
  else .inl (1, (k_tok B E 0).2.1)
/-! sets of mixes -/
def h_set (n : Nat) (p : Nat → Bool) : Nat := match n with
  | 0 => 0
  | n + 1 => h_set n p ||| (if p n then 2 ^ n else 0)
theorem h_set_bit {p : Nat → Bool} {i : Nat} : ∀ {n : Nat}, (h_set n p).testBit i = (decide (i < n) && p i)
  | 0 => by simp [h_set]
  | n + 1 => by
    unfold h_set
    rw [Nat.testBit_or, h_set_bit]
    by_cases hp : p n = true
    · rw [if_pos hp, Nat.testBit_two_pow]
      by_cases hi : n = i
      · subst hi; simp [hp]
      · have : decide (i < n + 1) = decide (i < n) := by
          by_cases h2 : i < n
          · rw [decide_eq_true h2, decide_eq_true (by omega)]
          · rw [decide_eq_false h2, decide_eq_false (by omega)]
        rw [this, decide_eq_false hi, Bool.or_false]
    · rw [if_neg hp, Nat.zero_testBit, Bool.or_false]
      by_cases hi : i = n
      · subst hi; simp [hp]
      · have : decide (i < n + 1) = decide (i < n) := by
          by_cases h2 : i < n
          · rw [decide_eq_true h2, decide_eq_true (by omega)]
          · rw [decide_eq_false h2, decide_eq_false (by omega)]
        rw [this]
theorem h_set_lt {p : Nat → Bool} {n : Nat} (hn : n ≤ 20) : h_set n p < 1048576 := by
  refine Nat.lt_of_lt_of_le (Nat.lt_pow_two_of_testBit _ (n := n) fun i hi => ?_) (Nat.pow_le_pow_right (by decide) hn : 2 ^ n ≤ 2 ^ 20)
  rw [h_set_bit, decide_eq_false (by omega)]
  rfl
theorem i_or (a b : Nat) : nI a ||| nI b = nI (a ||| b) := by
  apply Int32.toBitVec_inj.mp
  show BitVec.ofNat 32 a ||| BitVec.ofNat 32 b = BitVec.ofNat 32 (a ||| b)
  apply BitVec.eq_of_getLsbD_eq
  intro i hi
  simp [BitVec.getLsbD_ofNat, Nat.testBit_or, hi]
theorem i_and (a b : Nat) : nI a &&& nI b = nI (a &&& b) := by
  apply Int32.toBitVec_inj.mp
  show BitVec.ofNat 32 a &&& BitVec.ofNat 32 b = BitVec.ofNat 32 (a &&& b)
  apply BitVec.eq_of_getLsbD_eq
  intro i hi
  simp [BitVec.getLsbD_ofNat, Nat.testBit_and, hi]
theorem h_set_and {n : Nat} {p r : Nat → Bool} : nI (h_set n p) &&& nI (h_set n r) = nI (h_set n (fun m => p m && r m)) := by
  rw [i_and]
  congr 1
  refine Nat.eq_of_testBit_eq fun i => ?_
  rw [Nat.testBit_and, h_set_bit, h_set_bit, h_set_bit]
  cases decide (i < n) <;> simp
theorem h_set_or {n : Nat} {p r : Nat → Bool} : nI (h_set n p) ||| nI (h_set n r) = nI (h_set n (fun m => p m || r m)) := by
  rw [i_or]
  congr 1
  refine Nat.eq_of_testBit_eq fun i => ?_
  rw [Nat.testBit_or, h_set_bit, h_set_bit, h_set_bit]
  cases decide (i < n) <;> simp
theorem h_set_not {n : Nat} {p : Nat → Bool} : nI (h_set n fun _ => true) &&& (nI (h_set n p) ^^^ (-1)) = nI (h_set n (fun m => !p m)) := by
  apply Int32.toBitVec_inj.mp
  show BitVec.ofNat 32 (h_set n fun _ => true) &&& (BitVec.ofNat 32 (h_set n p) ^^^ (BitVec.allOnes 32)) = BitVec.ofNat 32 (h_set n (fun m => !p m))
  apply BitVec.eq_of_getLsbD_eq
  intro i hi
  simp only [BitVec.getLsbD_and, BitVec.getLsbD_xor, BitVec.getLsbD_ofNat, BitVec.getLsbD_allOnes, h_set_bit, hi, decide_true, Bool.true_and, Bool.and_true]
  cases decide (i < n) <;> simp
theorem h_set_1 {n : Nat} (hn : n < 20) {p : Nat → Bool} (hp : p n = true) : nI (h_set n p) ||| (nI 1 <<< (nI n &&& 31)) = nI (h_set (n + 1) p) := by
  have : ∀ m, m < 20 → nI 1 <<< (nI m &&& 31) = nI (2 ^ m) := by decide +kernel
  rw [this n hn, i_or]
  conv => rhs; unfold h_set
  rw [if_pos hp]
theorem h_set_0 {n : Nat} {p : Nat → Bool} (hp : p n = false) : h_set (n + 1) p = h_set n p := by
  conv => lhs; unfold h_set
  rw [hp, if_neg Bool.false_ne_true, Nat.or_zero]
theorem h_bit (x i : Nat) : (x >>> i) % 2 = z_1 (x.testBit i) := by
  have h : x.testBit i = decide ((x >>> i) % 2 = 1) := by
    rw [Nat.testBit_eq_decide_div_mod_eq, Nat.shiftRight_eq_div_pow]
  rw [h]
  rcases Nat.mod_two_eq_zero_or_one (x >>> i) with e | e
  · rw [e]; rfl
  · rw [e]; rfl
theorem q_s_tail {f : Nat → Nat} {n : Nat} : ∀ {k : Nat}, (∀ i, n ≤ i → f i = 0) → q_s f (n + k) = q_s f n
  | 0, _ => rfl
  | k + 1, h => by
    show q_s f (n + k) + f (n + k) = q_s f n
    rw [q_s_tail h, h (n + k) (by omega)]
    rfl
theorem h_count {n : Nat} (hn : n ≤ 20) {p : Nat → Bool} : q_bits (h_set n p) = q_s (fun m => z_1 (p m)) n := by
  unfold q_bits
  rw [q_s_congr (g := fun i => z_1 (decide (i < n) && p i)) fun i _ => by rw [h_bit, h_set_bit]]
  rw [show (20 : Nat) = n + (20 - n) by omega, q_s_tail fun i hi => by rw [decide_eq_false (by omega)]; rfl]
  exact q_s_congr fun i hi => by rw [decide_eq_true hi]; rfl
theorem h_first {n : Nat} {p : Nat → Bool} : ∀ {k i : Nat}, g_find (fun i => decide (i < n) && p i) k i = (if i < n then g_find p (min k (n - i)) i else none)
  | 0, i => by
    rw [Nat.zero_min]
    split <;> rfl
  | k + 1, i => by
    by_cases hi : i < n
    · rw [if_pos hi]
      obtain ⟨w, hw⟩ : ∃ w, min (k + 1) (n - i) = w + 1 ∧ w = min k (n - (i + 1)) := ⟨min k (n - (i + 1)), by omega, rfl⟩
      rw [hw.1]
      unfold g_find
      rw [decide_eq_true hi, Bool.true_and]
      cases p i with
      | true => rfl
      | false =>
        rw [if_neg Bool.false_ne_true, if_neg Bool.false_ne_true, h_first]
        by_cases h2 : i + 1 < n
        · rw [if_pos h2, hw.2]
        · rw [if_neg h2, hw.2, show n - (i + 1) = 0 by omega, Nat.min_zero]
          rfl
    · rw [if_neg hi]
      unfold g_find
      rw [decide_eq_false hi, Bool.false_and, if_neg Bool.false_ne_true, h_first, if_neg (by omega)]
/-! the reader keeps no more than tokens -/
def QS (σ : aSt) (X : Pal) : Prop := Tv σ 227 228 8 160 (X.1 1) (fun m j => nI (h_pr X m j)) ∧ a_I σ 226 1 = nI (h_set (X.1 1) fun _ => true)
theorem QS.mo {σ σ' : aSt} {X : Pal} (Q : QS σ X) {S : Nat → Nat → Prop} (m : Mo S σ σ') (h1 : ∀ b k, S b k → b < 226) : QS σ' X :=
  ⟨Q.1.mo m (fun z => by have := h1 _ _ z; omega) (fun z => by have := h1 _ _ z; omega) (fun k _ z => by have := h1 _ _ z; omega), by rw [m.I (fun z => by have := h1 _ _ z; omega)]; exact Q.2⟩
theorem h_pr_lt {X : Pal} (V : Vd X) {m j : Nat} (hm : m < X.1 1) : h_pr X m j ≤ 9999 := by
  have M := V.m hm
  have h20 := V.1.2
  have h4 := M.2.1
  have h36 := (z_all_le M).2
  unfold h_pr
  split
  · omega
  · split
    · omega
    · split
      · omega
      · split
        · exact Nat.le_trans (z_val_le V M (by omega)) (by decide)
        · split
          · exact Nat.le_trans (z_1le _) (by decide)
          · exact z_min_le _
def RQ (c : Option (aRes × aSt)) (σ : aSt) (B : Nat → Nat) (E n : Nat) (r : (Nat × Nat) ⊕ ((Nat → Bool) × Nat)) : Prop := match r with
  | .inl e => ∃ σ' v q', c = some (.inl (some (.int v)), σ') ∧ Mo St σ σ' ∧ TG σ' B E q' ∧ EF σ' (some e)
  | .inr r => ∃ σ', c = some (.inl (some (.int (nI (h_set n r.1)))), σ') ∧ Mo St σ σ' ∧ TG σ' B E r.2 ∧ EF σ' none
theorem St.lt {b k : Nat} (h : St b k) : b < 226 := by unfold St at h; omega
theorem S3.st {b k : Nat} (h : S3 b k) : St b k := by unfold S3 at h; unfold St; omega
theorem S9.st {b k : Nat} (h : S9 b k) : St b k := by unfold S9 at h; unfold St; omega
section QRY
variable {P : aCall} {d : Nat} {σ : aSt} {X : Pal} {B : Nat → Nat} {E q : Nat}
theorem s_numberOf (hd : 2 ≤ d) (h : Sh σ) (Q : QS σ X) {o : Nat ⊕ Nat} {m : Nat} (hm : m < X.1 1) (ho : (∃ n, o = .inl n ∧ n ≤ 9999) ∨ ∃ j, o = .inr j ∧ j < 8) : a_call a_tab P d 87 [.ref 226, .int (h_en o), .int (nI m)] σ = some (.inl (some (.int (nI (h_ov X o m)))), σ) := by
  rw [n_X2_numberOf (by omega), b_X2_numberOf_0 h]
  rcases ho with ⟨n, rfl, hn⟩ | ⟨j, rfl, hj⟩
  · show (if nI n < 0 then _ else _) = _
    rw [if_neg (nIp (by omega))]
    exact b_X2_numberOf_19
  · have h1 : ∀ j, j < 8 → ((-1 : Int32) - nI j) < 0 ∧ (-1 : Int32) - ((-1) - nI j) = nI j := by decide +kernel
    obtain ⟨h2, h3⟩ := h1 j hj
    show (if (-1 : Int32) - nI j < 0 then b_G _ _ _ _ _ _ _ (_ : Option (aRes × aSt)) else _) = _
    rw [if_pos h2]
    show b_G _ _ _ _ _ _ _ (a_call a_tab P (d - 1) 1 [.ref 227, .int (nI m), .int ((-1 : Int32) - ((-1) - nI j))] σ) = _
    rw [h3, s_get (by omega) Q.1 hm hj, g_v, b_X2_numberOf_19]
    rfl
/-- an operand -/
theorem s_operand (H : Pm P) (hd : 2 ≤ d) (h : Sh σ) (T : TG σ B E q) (F : EF σ none) :
    (∃ o q1, h_val B E q = .inr (o, q1) ∧ ((∃ n, o = .inl n ∧ n ≤ 9999) ∨ ∃ j, o = .inr j ∧ j < 8) ∧ ∃ σ', a_call a_tab P d 88 [.ref 226, .ref 220] σ = some (.inl (some (.int (h_en o))), σ') ∧ Mo St σ σ' ∧ TG σ' B E q1 ∧ EF σ' none) ∨
    (∃ e, h_val B E q = .inl e ∧ ∃ σ', a_call a_tab P d 88 [.ref 226, .ref 220] σ = some (.inl (some (.int (h_en (.inl 0)))), σ') ∧ Mo St σ σ' ∧ TG σ' B E q ∧ EF σ' (some e)) := by
  have hv := k_v_le (c := 1000000) (B := B) (s := (k_tok B E q).2.1) ((k_tok B E q).2.2 - (k_tok B E q).2.1)
  have e0 : a_call a_tab P d 88 [.ref 226, .ref 220] σ = b_R (a_call a_tab P (d - 1)) kX2_operand [] (4, [some (.ref 226), some (.ref 220), none], [.int (b_n ((k_tok B E q).1 == 2))], σ) := by
    rw [n_X2_operand (by omega), b_X2_operand_0 h, s_isNumber (by omega) h T, g_v]
  rw [e0, b_X2_operand_4 h]
  by_cases c2 : (k_tok B E q).1 = 2
  · have e6 : a_I σ 220 6 = nI (k_num B (k_tok B E q)) := by
      have e6 := T.2.2.2.2.2
      rw [if_pos c2] at e6
      exact e6
    have hvl : k_num B (k_tok B E q) ≤ 1000000 := hv
    have eb : b_n ((k_tok B E q).1 == 2) = b_n true := by rw [c2]; rfl
    rw [eb, e6]
    by_cases c9 : 9999 < k_num B (k_tok B E q)
    · obtain ⟨s1, e1, m1, T1, F1⟩ := s_fail (P := P) (d := d - 1) (by omega) h T F (c := 2) (by decide) (by decide)
      refine .inr ⟨_, by unfold h_val; rw [if_pos c2, if_pos c9], s1, ?_, m1.mono fun b k z => z.st, T1, F1⟩
      rw [if_neg (by decide), if_pos (nIl c9 (by omega)), e1, g_v, b_X2_operand_24]
      rfl
    · obtain ⟨s1, e1, m1, T1⟩ := s_adv (P := P) (d := d - 1) H (by omega) h T
      refine .inl ⟨.inl (k_num B (k_tok B E q)), (k_tok B E q).2.2, by unfold h_val; rw [if_pos c2, if_neg c9], .inl ⟨_, rfl, by omega⟩, s1, ?_, m1.mono fun b k z => z.st, T1, F.mo m1 (by unfold S3; omega) (by unfold S3; omega)⟩
      rw [if_neg (by decide), if_neg (nIn (by omega) (by omega)), e1, g_n, b_X2_operand_31]
      rfl
  · have hval : h_val B E q = (match h_pi B (k_tok B E q) with
      | none => .inl (1, (k_tok B E q).2.1)
      | some j => .inr (.inr j, (k_tok B E q).2.2)) := by unfold h_val; rw [if_neg c2]
    rw [hval, beq_false_of_ne c2, if_pos (by decide)]
    -- behind the words
    have yes : ∀ j, j < 8 → h_pi B (k_tok B E q) = some j → ∀ x, x = nI j → (∃ o q1, (match h_pi B (k_tok B E q) with
      | none => .inl (1, (k_tok B E q).2.1)
      | some j => .inr (.inr j, (k_tok B E q).2.2) : (Nat × Nat) ⊕ ((Nat ⊕ Nat) × Nat)) = .inr (o, q1) ∧ ((∃ n, o = .inl n ∧ n ≤ 9999) ∨ ∃ j, o = .inr j ∧ j < 8) ∧ ∃ σ', b_R (a_call a_tab P (d - 1)) kX2_operand [] (146, [some (.ref 226), some (.ref 220), some (.int x)], [], σ) = some (.inl (some (.int (h_en o))), σ') ∧ Mo St σ σ' ∧ TG σ' B E q1 ∧ EF σ' none) := by
      intro j hj hp x hx
      obtain ⟨s1, e1, m1, T1⟩ := s_adv (P := P) (d := d - 1) H (by omega) h T
      refine ⟨.inr j, (k_tok B E q).2.2, by rw [hp], .inr ⟨j, rfl, hj⟩, s1, ?_, m1.mono fun b k z => z.st, T1, F.mo m1 (by unfold S3; omega) (by unfold S3; omega)⟩
      rw [hx, b_X2_operand_146 h, if_neg (m1_ne (by omega)), e1, g_n, b_X2_operand_163]
      rfl
    have no : h_pi B (k_tok B E q) = none → (∃ e, (match h_pi B (k_tok B E q) with
      | none => .inl (1, (k_tok B E q).2.1)
      | some j => .inr (.inr j, (k_tok B E q).2.2) : (Nat × Nat) ⊕ ((Nat ⊕ Nat) × Nat)) = .inl e ∧ ∃ σ', b_R (a_call a_tab P (d - 1)) kX2_operand [] (146, [some (.ref 226), some (.ref 220), some (.int (-1))], [], σ) = some (.inl (some (.int (h_en (.inl 0)))), σ') ∧ Mo St σ σ' ∧ TG σ' B E q ∧ EF σ' (some e)) := by
      intro hp
      obtain ⟨s1, e1, m1, T1, F1⟩ := s_fail (P := P) (d := d - 1) (by omega) h T F (c := 1) (by decide) (by decide)
      refine ⟨_, by rw [hp], s1, ?_, m1.mono fun b k z => z.st, T1, F1⟩
      rw [b_X2_operand_146 h, if_pos rfl, e1, g_v, b_X2_operand_156]
      rfl
    have w : ∀ s, 1 ≤ s → s ≤ 18 → a_call a_tab P (d - 1) 25 [.ref 220, .ref s] σ = some (.inl (some (.int (b_n (k_is B (k_tok B E q) (q_txt s))))), σ) := fun s h1 h2 => s_isW H (by omega) h T h1 h2
    have hpi : h_pi B (k_tok B E q) = (if k_is B (k_tok B E q) (q_txt 6) then some 0 else if k_is B (k_tok B E q) (q_txt 12) then some 1 else if k_is B (k_tok B E q) (q_txt 13) then some 2 else if k_is B (k_tok B E q) (q_txt 14) then some 3 else if k_is B (k_tok B E q) (q_txt 15) then some 4 else if k_is B (k_tok B E q) (q_txt 16) then some 5 else if k_is B (k_tok B E q) (q_txt 17) then some 6 else if k_is B (k_tok B E q) (q_txt 18) then some 7 else none) := rfl
    rw [w 6 (by decide) (by decide), g_v, b_X2_operand_41 h]
    cases c6 : k_is B (k_tok B E q) (q_txt 6) with
    | true => rw [if_neg (by decide)]; exact .inl (yes 0 (by decide) (by rw [hpi, c6]; rfl) _ rfl)
    | false =>
    rw [if_pos (by decide), w 12 (by decide) (by decide), g_v, b_X2_operand_55 h]
    cases c12 : k_is B (k_tok B E q) (q_txt 12) with
    | true => rw [if_neg (by decide)]; exact .inl (yes 1 (by decide) (by rw [hpi, c6, c12]; rfl) _ rfl)
    | false =>
    rw [if_pos (by decide), w 13 (by decide) (by decide), g_v, b_X2_operand_69 h]
    cases c13 : k_is B (k_tok B E q) (q_txt 13) with
    | true => rw [if_neg (by decide)]; exact .inl (yes 2 (by decide) (by rw [hpi, c6, c12, c13]; rfl) _ rfl)
    | false =>
    rw [if_pos (by decide), w 14 (by decide) (by decide), g_v, b_X2_operand_83 h]
    cases c14 : k_is B (k_tok B E q) (q_txt 14) with
    | true => rw [if_neg (by decide)]; exact .inl (yes 3 (by decide) (by rw [hpi, c6, c12, c13, c14]; rfl) _ rfl)
    | false =>
    rw [if_pos (by decide), w 15 (by decide) (by decide), g_v, b_X2_operand_97 h]
    cases c15 : k_is B (k_tok B E q) (q_txt 15) with
    | true => rw [if_neg (by decide)]; exact .inl (yes 4 (by decide) (by rw [hpi, c6, c12, c13, c14, c15]; rfl) _ rfl)
    | false =>
    rw [if_pos (by decide), w 16 (by decide) (by decide), g_v, b_X2_operand_111 h]
    cases c16 : k_is B (k_tok B E q) (q_txt 16) with
    | true => rw [if_neg (by decide)]; exact .inl (yes 5 (by decide) (by rw [hpi, c6, c12, c13, c14, c15, c16]; rfl) _ rfl)
    | false =>
    rw [if_pos (by decide), w 17 (by decide) (by decide), g_v, b_X2_operand_125 h]
    cases c17 : k_is B (k_tok B E q) (q_txt 17) with
    | true => rw [if_neg (by decide)]; exact .inl (yes 6 (by decide) (by rw [hpi, c6, c12, c13, c14, c15, c16, c17]; rfl) _ rfl)
    | false =>
    rw [if_pos (by decide), w 18 (by decide) (by decide), g_v, b_X2_operand_140]
    cases c18 : k_is B (k_tok B E q) (q_txt 18) with
    | true => rw [if_neg (by decide)]; exact .inl (yes 7 (by decide) (by rw [hpi, c6, c12, c13, c14, c15, c16, c17, c18]; rfl) _ rfl)
    | false =>
    rw [if_pos (by decide)]
    exact .inr (no (by rw [hpi, c6, c12, c13, c14, c15, c16, c17, c18]; rfl))
end QRY
