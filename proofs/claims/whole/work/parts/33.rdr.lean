/-! TextReader: parts, names, definitions -/
def g_find (f : Nat → Bool) : Nat → Nat → Option Nat
  | 0, _ => none
  | k + 1, i => if f i then some i else g_find f k (i + 1)
def g_res (o : Option Nat) : Int32 := match o with | none => -1 | some r => nI r
def g_eq8 (x y : Nat → Nat) : Bool := !q_any (fun k => x k != y k) 8
theorem g_find_lt {f : Nat → Bool} {r : Nat} : ∀ {k i : Nat}, g_find f k i = some r → i ≤ r ∧ r < i + k ∧ f r = true
  | 0, i, h => by cases h
  | k + 1, i, h => by
    unfold g_find at h
    cases hf : f i with
    | true =>
      rw [hf] at h
      cases h
      exact ⟨Nat.le_refl _, by omega, hf⟩
    | false =>
      rw [hf] at h
      obtain ⟨h1, h2, h3⟩ := g_find_lt (k := k) (i := i + 1) h
      exact ⟨by omega, by omega, h3⟩
theorem g_find_none {f : Nat → Bool} : ∀ {k i : Nat}, g_find f k i = none → ∀ r, i ≤ r → r < i + k → f r = false
  | 0, i, h, r, h1, h2 => by omega
  | k + 1, i, h, r, h1, h2 => by
    unfold g_find at h
    cases hf : f i with
    | true => rw [hf] at h; cases h
    | false =>
      rw [hf] at h
      by_cases hr : r = i
      · rw [hr]; exact hf
      · exact g_find_none (k := k) (i := i + 1) h r (by omega) (by omega)
theorem q_first_eq {f g : Nat → Bool} : ∀ {k i : Nat}, (∀ r, i ≤ r → r < i + k → f r = g r) → q_first f k i = g_res (g_find g k i)
  | 0, i, h => rfl
  | k + 1, i, h => by
    unfold q_first g_find
    rw [h i (Nat.le_refl _) (by omega)]
    cases g i with
    | true => rfl
    | false => exact q_first_eq fun r h1 h2 => h r (by omega) (by omega)
theorem g_res_m1 {o : Option Nat} (h : ∀ r, o = some r → r < 2147483648) : g_res o = -1 ↔ o = none := by
  cases o with
  | none => exact ⟨fun _ => rfl, fun _ => rfl⟩
  | some r =>
    refine ⟨fun z => ?_, fun z => by cases z⟩
    have h1 := h r rfl
    have z : nI r = -1 := z
    have h2 : (nI r).toInt = r := nI_toInt h1
    rw [z] at h2
    have h3 : ((-1 : Int32)).toInt = -1 := by decide
    omega
theorem Vn.lt {g : Nat → Nat} (h : Vn g) {k : Nat} (hk : k < 8) : g k ≤ 122 := by
  obtain ⟨l, -, -, h3, h4⟩ := h
  by_cases hl : k < l
  · exact (h3 k hl).2
  · rw [h4 k (by omega) hk]; exact Nat.zero_le _
theorem q_has_eq {σ : aSt} {X : Pal} {j r : Nat} {w : Nat → Nat} (h1 : ∀ k, k < 8 → a_I σ 222 k = nI (w k)) (h2 : ∀ k, k < 8 → w k < 256) (h3 : ∀ k, k < 8 → X.2 j r k < 2147483648) : q_has σ (tv X j) r = g_eq8 (X.2 j r) w := by
  unfold q_has g_eq8
  congr 1
  refine q_any_congr fun k hk => ?_
  rw [h1 k hk]
  unfold tv
  have h4 := h2 k hk
  have h5 := h3 k hk
  by_cases h : X.2 j r k = w k
  · rw [h, bne_self_eq_false]
    exact decide_eq_false (fun z => z rfl)
  · rw [bne_iff_ne.mpr h]
    exact decide_eq_true (fun z => h ((nI_eq h5 (by omega)).mp z))
theorem k_n8_lt {σ : aSt} {B : Nat → Nat} {E q k : Nat} (T : TG σ B E q) : k_n8 B (k_tok B E q) k < 256 := by
  unfold k_n8
  split
  · rename_i h
    have := k_tok_le (B := B) T.2.1
    exact (T.1.2.2 _ (by omega)).2
  · decide
/-- the letters of a word that is not too long are a name -/
theorem k_n8_vn {B : Nat → Nat} {E q : Nat} (h1 : (k_tok B E q).1 = 1) (h8 : (k_tok B E q).2.2 - (k_tok B E q).2.1 ≤ 8) : Vn (k_n8 B (k_tok B E q)) := by
  have hlt := k_tok_lt (B := B) (E := E) (n := q) (by omega)
  refine ⟨(k_tok B E q).2.2 - (k_tok B E q).2.1, by omega, h8, fun k hk => ?_, fun k hk _ => ?_⟩
  · unfold k_n8
    rw [if_pos (by omega)]
    have ha : k_al (B ((k_tok B E q).2.1 + k)) = true := by
      unfold k_tok at h1 hk hlt ⊢
      split at h1
      · rename_i c1
        rw [if_pos c1] at hk ⊢
        split at h1
        · rename_i c2
          rw [if_pos c2] at hk ⊢
          exact k_to_in (p := k_al) (B := B) (E := E) (n := k_to k_bl B E q) (Nat.le_add_right _ _) (by
            have hk : k < k_to k_al B E (k_to k_bl B E q) - k_to k_bl B E q := hk
            show k_to k_bl B E q + k < _
            omega)
        · split at h1 <;> cases h1
      · cases h1
    unfold k_al at ha
    rw [Bool.and_eq_true] at ha
    exact ⟨of_decide_eq_true ha.1, of_decide_eq_true ha.2⟩
  · unfold k_n8
    rw [if_neg (by omega)]
/-- the row of a mix: its name, and its parts -/
def m_row (w : Nat → Nat) (acc : Cnd) (k : Nat) : Nat := if k < 8 then w k else if k = 8 then acc.length else if k < 13 then (acc.getD (k - 9) (0, 0)).1 else (acc.getD (k - 13) (0, 0)).2
def TD (σ : aSt) (w : Nat → Nat) (acc : Cnd) : Prop := Tv σ 224 225 17 17 1 (fun _ k => nI (m_row w acc k))
def Va (nt : Nat) (acc : Cnd) : Prop := acc.length ≤ 4 ∧ (∀ i, i < acc.length → (acc.getD i (0, 0)).1 < nt ∧ 1 ≤ (acc.getD i (0, 0)).2 ∧ (acc.getD i (0, 0)).2 ≤ 9) ∧ ∀ i, i < acc.length → ∀ j, j < acc.length → (acc.getD i (0, 0)).1 = (acc.getD j (0, 0)).1 → i = j
theorem m_row_vm {nt : Nat} {w : Nat → Nat} {acc : Cnd} (h : Va nt acc) (h0 : 0 < acc.length) : Vm nt (m_row w acc) := by
  have e8 : m_row w acc 8 = acc.length := rfl
  have e9 : ∀ i, i < 4 → m_row w acc (9 + i) = (acc.getD i (0, 0)).1 := fun i hi => by
    unfold m_row
    rw [if_neg (by omega), if_neg (by omega), if_pos (by omega), Nat.add_sub_cancel_left]
  have e13 : ∀ i, m_row w acc (13 + i) = (acc.getD i (0, 0)).2 := fun i => by
    unfold m_row
    rw [if_neg (by omega), if_neg (by omega), if_neg (by omega), Nat.add_sub_cancel_left]
  refine ⟨by rw [e8]; exact h0, by rw [e8]; exact h.1, fun i hi => ?_, fun i hi j hj hij => ?_⟩
  · rw [e8] at hi
    have := h.1
    rw [e9 i (by omega), e13 i]
    exact h.2.1 i hi
  · rw [e8] at hi hj
    have := h.1
    rw [e9 i (by omega), e9 j (by omega)] at hij
    exact h.2.2 i hi j hj hij
/-- a reader's answer: an error, or what it has read and where it stands -/
def RO {α : Type} (c : Option (aRes × aSt)) (S : Nat → Nat → Prop) (σ : aSt) (r : (Nat × Nat) ⊕ α) (good : α → aSt → Prop) : Prop := match r with
  | .inl e => ∃ σ', c = some (.inl (some (.int (nI 0))), σ') ∧ Mo S σ σ' ∧ EF σ' (some e)
  | .inr a => ∃ σ', c = some (.inl (some (.int (nI 1))), σ') ∧ Mo S σ σ' ∧ good a σ'
def Sr (b k : Nat) : Prop := b = 222 ∨ b = 225 ∨ (b = 224 ∧ k = 2) ∨ St b k
theorem Sr.st {b k : Nat} (h : St b k) : Sr b k := .inr (.inr (.inr h))
theorem Sr.in {b k : Nat} (h : Sr b k) : 220 ≤ b ∧ b ≤ 225 := by unfold Sr St at h; omega
/-- one part -/
def g_part (X : Pal) (B : Nat → Nat) (E : Nat) (acc : Cnd) (q : Nat) : (Nat × Nat) ⊕ (Cnd × Nat) :=
  if (k_tok B E q).1 = 2 then
    (if k_num B (k_tok B E q) < 1 ∨ 9 < k_num B (k_tok B E q) then .inl (2, (k_tok B E q).2.1)
    else if 4 ≤ acc.length then .inl (3, (k_tok B E q).2.1)
    else if (k_tok B E (k_tok B E q).2.2).1 = 1 then
      (match (if 8 < (k_tok B E (k_tok B E q).2.2).2.2 - (k_tok B E (k_tok B E q).2.2).2.1 then none else g_find (fun r => g_eq8 (X.2 0 r) (k_n8 B (k_tok B E (k_tok B E q).2.2))) (X.1 0) 0) with
      | none => .inl (4, (k_tok B E (k_tok B E q).2.2).2.1)
      | some r => if acc.any (fun a => a.1 == r) then .inl (4, (k_tok B E (k_tok B E q).2.2).2.1) else .inr (acc ++ [(r, k_num B (k_tok B E q))], (k_tok B E (k_tok B E q).2.2).2.2))
    else .inl (1, (k_tok B E (k_tok B E q).2.2).2.1))
  else .inl (1, (k_tok B E q).2.1)
def g_parts (X : Pal) (B : Nat → Nat) (E : Nat) : Nat → Cnd → Nat → (Nat × Nat) ⊕ (Cnd × Nat)
  | 0, _, _ => .inl (0, 0)
  | f + 1, acc, q => match g_part X B E acc q with
    | .inl e => .inl e
    | .inr (acc', q') => if k_sg B (k_tok B E q') 43 then g_parts X B E f acc' (k_tok B E q').2.2 else .inr (acc', q')
theorem z_uses_row {w : Nat → Nat} {acc : Cnd} {t : Nat} (h : acc.length ≤ 4) : z_uses (m_row w acc) t = acc.any (fun a => a.1 == t) := by
  have e9 : ∀ i, i < 4 → m_row w acc (9 + i) = (acc.getD i (0, 0)).1 := fun i hi => by
    unfold m_row
    rw [if_neg (by omega), if_neg (by omega), if_pos (by omega), Nat.add_sub_cancel_left]
  rw [Bool.eq_iff_iff]
  unfold z_uses
  rw [q_any_iff, List.any_eq_true]
  have e8 : m_row w acc 8 = acc.length := rfl
  rw [e8]
  constructor
  · rintro ⟨i, hi, hb⟩
    rw [e9 i (by omega), List.getD_eq_getElem?_getD, List.getElem?_eq_getElem hi] at hb
    exact ⟨acc[i], List.getElem_mem hi, hb⟩
  · rintro ⟨a, ha, hb⟩
    obtain ⟨i, hi, rfl⟩ := List.mem_iff_getElem.mp ha
    refine ⟨i, hi, ?_⟩
    rw [e9 i (by omega), List.getD_eq_getElem?_getD, List.getElem?_eq_getElem hi]
    exact hb
theorem Va.snoc {nt r v : Nat} {acc : Cnd} (h : Va nt acc) (h4 : acc.length < 4) (hr : r < nt) (hv : 1 ≤ v ∧ v ≤ 9) (hn : acc.any (fun a => a.1 == r) = false) : Va nt (acc ++ [(r, v)]) := by
  have hl : (acc ++ [(r, v)]).length = acc.length + 1 := by simp
  have g1 : ∀ i, i < acc.length → (acc ++ [(r, v)]).getD i (0, 0) = acc.getD i (0, 0) := fun i hi => by
    rw [List.getD_eq_getElem?_getD, List.getElem?_append_left hi, ← List.getD_eq_getElem?_getD]
  have g2 : (acc ++ [(r, v)]).getD acc.length (0, 0) = (r, v) := by
    rw [List.getD_eq_getElem?_getD, List.getElem?_append_right (Nat.le_refl _), Nat.sub_self]; rfl
  have g3 : ∀ i, i < acc.length → (acc.getD i (0, 0)).1 ≠ r := fun i hi z => by
    have : acc.any (fun a => a.1 == r) = true := List.any_eq_true.mpr ⟨acc.getD i (0, 0), by
      rw [List.getD_eq_getElem?_getD, List.getElem?_eq_getElem hi]; exact List.getElem_mem hi, beq_iff_eq.mpr z⟩
    rw [hn] at this
    cases this
  refine ⟨by rw [hl]; omega, fun i hi => ?_, fun i hi j hj hij => ?_⟩
  · by_cases hi2 : i = acc.length
    · rw [hi2, g2]; exact ⟨hr, hv⟩
    · rw [g1 i (by omega)]; exact h.2.1 i (by omega)
  · rw [hl] at hi hj
    by_cases hi2 : i = acc.length
    · by_cases hj2 : j = acc.length
      · omega
      · rw [hi2, g2, g1 j (by omega)] at hij
        exact absurd hij.symm (g3 j (by omega))
    · by_cases hj2 : j = acc.length
      · rw [hj2, g2, g1 i (by omega)] at hij
        exact absurd hij (g3 i (by omega))
      · rw [g1 i (by omega), g1 j (by omega)] at hij
        exact h.2.2 i (by omega) j (by omega) hij
section RDR
variable {P : aCall} {d : Nat} {σ : aSt} {X : Pal} {p : Nat} {B : Nat → Nat} {E q : Nat}
/-- the row of a tube or a mix with the name that the token is -/
theorem s_rowN (hd : 3 ≤ d) (h : Sh σ) {t c N n j w8 : Nat} (T : Tv σ t c w8 N n (tv X j)) (hw : 8 ≤ w8) {w : Nat → Nat} (h1 : ∀ k, k < 8 → a_I σ 222 k = nI (w k)) (h2 : ∀ k, k < 8 → w k < 256) (h3 : ∀ r, r < n → Vn (X.2 j r)) :
    a_call a_tab P d 11 [.ref t, .ref 222] σ = some (.inl (some (.int (g_res (g_find (fun r => g_eq8 (X.2 j r) w) n 0)))), σ) := by
  rw [s_rowNamed hd h T hw, q_first_eq fun r _ hr => q_has_eq h1 h2 fun k hk => by have := (h3 r (by omega)).lt hk; omega]
theorem s_readPart (H : Pm P) (hd : 4 ≤ d) (h : Sh σ) (hp : p + 8 < 220) (C : CP σ p X) (V : Vd X) (T : TG σ B E q) (F : EF σ none) {w : Nat → Nat} {acc : Cnd} (D : TD σ w acc) (A : Va (X.1 0) acc) :
    RO (a_call a_tab P d 76 [.ref 223, .ref 220, .ref p, .int (nI acc.length)] σ) Sr σ (g_part X B E acc q) (fun r σ' => TG σ' B E r.2 ∧ EF σ' none ∧ TD σ' w r.1 ∧ Va (X.1 0) r.1 ∧ 0 < r.1.length) := by
  have h20 := V.1.1
  have hv := k_v_le (c := 1000000) (B := B) (s := (k_tok B E q).2.1) ((k_tok B E q).2.2 - (k_tok B E q).2.1)
  have hA := A.1
  have e6 : (k_tok B E q).1 = 2 → a_I σ 220 6 = nI (k_num B (k_tok B E q)) := fun c2 => by
    have e6 := T.2.2.2.2.2
    rw [if_pos c2] at e6
    exact e6
  have hvl : k_num B (k_tok B E q) < 2147483648 := Nat.lt_of_le_of_lt hv (by decide)
  rw [n_X5_readPart (by omega)]
  by_cases cb : (k_tok B E q).1 = 2 ∧ ¬ (k_num B (k_tok B E q) < 1 ∨ 9 < k_num B (k_tok B E q))
  rotate_left
  · -- a number that is none, or out of range
    have go : b_R (a_call a_tab P (d - 1)) kX5_readPart [] (0, [some (.ref 223), some (.ref 220), some (.ref p), some (.int (nI acc.length)), none, none], [], σ) = b_R (a_call a_tab P (d - 1)) kX5_readPart [] (35, [some (.ref 223), some (.ref 220), some (.ref p), some (.int (nI acc.length)), none, none], [], σ) := by
      by_cases c4 : acc.length < 4
      · rw [b_X5_readPart_0 h, if_pos (nIl c4 (by decide))]
      · rw [b_X5_readPart_0 h, if_neg (nIn (by omega) (by omega)), s_isNumber (by omega) h T, g_v, b_X5_readPart_9 h]
        by_cases c2 : (k_tok B E q).1 = 2
        · rw [c2, if_neg (by decide), e6 c2]
          by_cases c5 : k_num B (k_tok B E q) < 1
          · rw [if_pos (nIl c5 (by decide))]
          · rw [if_neg (nIn (by omega) (by omega))]
            by_cases c6 : 9 < k_num B (k_tok B E q)
            · rw [if_pos (nIl c6 (by omega))]
            · exact absurd ⟨c2, by omega⟩ cb
        · rw [beq_false_of_ne c2, if_pos (by decide)]
    rw [go, b_X5_readPart_35 h]
    rcases s_takeNumber (P := P) (d := d - 1) H (by omega) h T F (lo := 1) (hi := 9) (by decide) (by decide) with ⟨hne, -⟩ | ⟨c, hne, hc, s1, e1, m1, T1, F1⟩
    · exfalso
      unfold k_ne at hne
      by_cases c2 : (k_tok B E q).1 = 2
      · rw [if_pos c2, if_pos (by
          by_cases z : k_num B (k_tok B E q) < 1 ∨ 9 < k_num B (k_tok B E q)
          · exact z
          · exact absurd ⟨c2, z⟩ cb)] at hne
        cases hne
      · rw [if_neg c2] at hne
        cases hne
    · rw [e1, g_v, b_X5_readPart_42 (m1.sh h), if_pos rfl]
      unfold g_part
      unfold k_ne at hne
      by_cases c2 : (k_tok B E q).1 = 2
      · rw [if_pos c2] at hne ⊢
        split at hne
        · rename_i c3
          cases hne
          rw [if_pos c3]
          exact ⟨s1, rfl, m1.mono fun b k z => Sr.st z, F1⟩
        · cases hne
      · rw [if_neg c2] at hne ⊢
        cases hne
        exact ⟨s1, rfl, m1.mono fun b k z => Sr.st z, F1⟩
  obtain ⟨c2, c3⟩ := cb
  unfold g_part
  rw [if_pos c2, if_neg c3]
  by_cases c4 : 4 ≤ acc.length
  · rw [if_pos c4, b_X5_readPart_0 h, if_neg (nIn c4 (by omega)), s_isNumber (by omega) h T, g_v, b_X5_readPart_9 h, c2, if_neg (by decide), e6 c2, if_neg (nIn (by omega) hvl), if_neg (nIn (by omega) (by decide))]
    obtain ⟨σ', e1, m, T', F'⟩ := s_fail (P := P) (d := d - 1) (by omega) h T F (c := 3) (by decide) (by decide)
    refine ⟨σ', ?_, m.mono fun b k z => Sr.st (by unfold S9 at z; unfold St; omega), F'⟩
    rw [e1, g_v, b_X5_readPart_34]
    exact b_gd_t (by decide)
  rw [if_neg c4, b_X5_readPart_0 h, if_pos (nIl (by omega) (by decide)), b_X5_readPart_35 h]
  rcases s_takeNumber (P := P) (d := d - 1) H (by omega) h T F (lo := 1) (hi := 9) (by decide) (by decide) with ⟨hne, s1, e1, m1, T1, F1⟩ | ⟨c, hne, hc, -⟩
  rotate_left
  · exfalso
    unfold k_ne at hne
    rw [if_pos c2, if_neg c3] at hne
    cases hne
  have n1 := m1.mono (S' := Sr) fun b k z => Sr.st z
  have h1 := m1.sh h
  have C1 : CP s1 p X := C.mo n1 fun b k z1 z2 z => by have := z.in; omega
  have D1 : TD s1 w acc := D.mo m1 (by unfold St; omega) (by unfold St; omega) (fun k _ => by unfold St; omega)
  rw [e1, g_v, b_X5_readPart_42 h1, if_neg (fun z => by
    have h2 : (nI (k_num B (k_tok B E q))).toInt = (k_num B (k_tok B E q) : Int) := nI_toInt hvl
    rw [z] at h2
    have h3 : ((-1 : Int32)).toInt = -1 := by decide
    omega), s_isWord (by omega) h1 T1, g_v, b_X5_readPart_56 h1]
  obtain ⟨u, hu⟩ : ∃ u, u = (k_tok B E q).2.2 := ⟨_, rfl⟩
  rw [← hu] at T1 ⊢
  by_cases c5 : (k_tok B E u).1 = 1
  rotate_left
  · obtain ⟨σ', e2, m2, T2, F2⟩ := s_fail (P := P) (d := d - 1) (by omega) h1 T1 F1 (c := 1) (by decide) (by decide)
    rw [beq_false_of_ne c5, if_pos (by decide), if_neg c5]
    refine ⟨σ', ?_, n1.tr (m2.mono fun b k z => Sr.st (by unfold S9 at z; unfold St; omega)), F2⟩
    rw [e2, g_v, b_X5_readPart_64]
    exact b_gd_t (by decide)
  rw [c5, if_neg (by decide), if_pos rfl, s_isTooLong (by omega) h1 T1, g_v, b_X5_readPart_69 h1 C1.1]
  -- the word is no tube
  have bad : ∀ s2 x5, Mo Sr σ s2 → Sh s2 → TG s2 B E u → EF s2 none → ∃ σ', b_R (a_call a_tab P (d - 1)) kX5_readPart [] (109, [some (.ref 223), some (.ref 220), some (.ref p), some (.int (nI acc.length)), some (.int (nI (k_num B (k_tok B E q)))), some (.int x5)], [], s2) = some (.inl (some (.int (nI 0))), σ') ∧ Mo Sr σ σ' ∧ EF σ' (some (4, (k_tok B E u).2.1)) := by
    intro s2 x5 m2 h2 T2 F2
    obtain ⟨σ', e3, m3, T3, F3⟩ := s_fail (P := P) (d := d - 1) (by omega) h2 T2 F2 (c := 4) (by decide) (by decide)
    refine ⟨σ', ?_, m2.tr (m3.mono fun b k z => Sr.st (by unfold S9 at z; unfold St; omega)), F3⟩
    rw [b_X5_readPart_109 h2, e3, g_v, b_X5_readPart_114]
    exact b_gd_t (by decide)
  by_cases c8 : 8 < (k_tok B E u).2.2 - (k_tok B E u).2.1
  · rw [decide_eq_true c8, if_neg (by decide), if_pos c8, b_X5_readPart_87 h1 C1.1, if_pos rfl]
    exact bad s1 (-1) n1 h1 T1 F1
  rw [decide_eq_false c8, if_pos (by decide), if_neg c8]
  obtain ⟨s2, e2, m2, N2⟩ := s_name (P := P) (d := d - 1) (by omega) h1 T1
  have n2 : Mo Sr σ s2 := n1.tr (m2.mono fun b k z => .inl z)
  have h2 := m2.sh h1
  have C2 : CP s2 p X := C.mo n2 fun b k z1 z2 z => by have := z.in; omega
  have T2 : TG s2 B E u := T1.mo m2 (fun k _ => by omega) (fun k => by omega)
  have F2 : EF s2 none := F1.mo m2 (by omega) (by omega)
  have D2 : TD s2 w acc := D1.mo m2 (by omega) (by omega) (fun k _ => by omega)
  rw [e2, g_v, b_X5_readPart_84 C2.1, s_rowN (by omega) h2 C2.2.1 (by decide) N2 (fun k _ => k_n8_lt T1) (fun r hr => (V.2.2.2.2.2.2.1 r hr).1), g_v, b_X5_readPart_87 h2 C2.1]
  cases hf : g_find (fun r => g_eq8 (X.2 0 r) (k_n8 B (k_tok B E u))) (X.1 0) 0 with
  | none =>
    rw [if_pos (show g_res none = -1 from rfl)]
    exact bad s2 _ n2 h2 T2 F2
  | some r =>
    have hr := g_find_lt hf
    have hr1 : r < X.1 0 := by omega
    rw [if_neg (fun z => by cases (g_res_m1 (o := some r) (fun r' e => by cases e; omega)).mp z)]
    show RO (b_G _ _ _ _ _ _ _ (a_call a_tab P (d - 1) 39 [.ref p, .ref 224, .int (nI 0), .int (nI r)] s2)) _ _ _ _
    rw [s_uses (by omega) (h := fun _ => m_row w acc) D2 (r := 0) (by decide) (show acc.length ≤ 4 from hA) (fun i hi => by
      have hi : i < acc.length := hi
      have e9 : m_row w acc (9 + i) = (acc.getD i (0, 0)).1 := by
        unfold m_row
        rw [if_neg (by omega), if_neg (by omega), if_pos (by omega), Nat.add_sub_cancel_left]
      rw [e9]
      have := (A.2.1 i hi).1
      omega) (by omega), g_v, b_X5_readPart_106 h2, z_uses_row hA]
    show RO _ _ _ (if acc.any (fun a => a.1 == r) = true then .inl (4, (k_tok B E u).2.1) else .inr (acc ++ [(r, k_num B (k_tok B E q))], (k_tok B E u).2.2)) _
    cases ha : acc.any (fun a => a.1 == r) with
    | true =>
      rw [if_pos rfl, if_neg (by decide)]
      exact bad s2 _ n2 h2 T2 F2
    | false =>
      rw [if_neg Bool.false_ne_true, if_pos (by decide), nI_add]
      obtain ⟨e3, T3⟩ := s_set (P := P) (d := d - 1) (v := nI r) (by omega) D2 (r := 0) (by decide) (by omega : 9 + acc.length < 17)
      have m3 := n2.then_set (a := 225) (k := 0 * 17 + (9 + acc.length)) (v := nI r) (.inr (.inl rfl))
      show RO (b_G _ _ _ _ _ _ _ (a_call a_tab P (d - 1) 2 [.ref 224, .int (nI 0), .int (nI (9 + acc.length)), .int (nI r)] s2)) _ _ _ _
      rw [e3, g_n, b_X5_readPart_129 (m3.sh h), nI_add]
      obtain ⟨e4, T4⟩ := s_set (P := P) (d := d - 1) (v := nI (k_num B (k_tok B E q))) (by omega) T3 (r := 0) (by decide) (by omega : 13 + acc.length < 17)
      have m4 := m3.then_set (a := 225) (k := 0 * 17 + (13 + acc.length)) (v := nI (k_num B (k_tok B E q))) (.inr (.inl rfl))
      rw [e4, g_n, b_X5_readPart_143 (m4.sh h), nI_add]
      obtain ⟨e5, T5⟩ := s_set (P := P) (d := d - 1) (v := nI (acc.length + 1)) (by omega) T4 (r := 0) (by decide) (by decide : 8 < 17)
      have m5 := m4.then_set (a := 225) (k := 0 * 17 + 8) (v := nI (acc.length + 1)) (.inr (.inl rfl))
      have mm : Mo (fun b _ => b = 225) s2 _ := ((Mo.set (S := fun b _ => b = 225) (σ := s2) (a := 225) (k := 0 * 17 + (9 + acc.length)) (v := nI r) rfl).then_set (a := 225) (k := 0 * 17 + (13 + acc.length)) (v := nI (k_num B (k_tok B E q))) rfl).then_set (a := 225) (k := 0 * 17 + 8) (v := nI (acc.length + 1)) rfl
      rw [e5, g_n, b_X5_readPart_156 (m5.sh h)]
      have T6 := T2.mo mm (fun k _ => by omega) (fun k => by omega)
      obtain ⟨σ', e7, m7, T7⟩ := s_adv (P := P) (d := d - 1) H (by omega) (m5.sh h) T6
      refine ⟨σ', ?_, m5.tr (m7.mono fun b k z => Sr.st (by unfold S3 at z; unfold St; omega)), T7, ?_, ?_, A.snoc (by omega) hr1 (by omega) ha, by simp⟩
      · rw [e7, g_n, b_X5_readPart_160]
      · exact (F2.mo mm (by omega) (by omega)).mo m7 (by unfold S3; omega) (by unfold S3; omega)
      · refine (T5.mo m7 (by unfold S3; omega) (by unfold S3; omega) (fun k _ => by unfold S3; omega)).congr fun r' hr' k hk => ?_
        obtain rfl : r' = 0 := by omega
        have hl : (acc ++ [(r, k_num B (k_tok B E q))]).length = acc.length + 1 := by simp
        have g1 : ∀ i, i ≠ acc.length → (acc ++ [(r, k_num B (k_tok B E q))]).getD i (0, 0) = acc.getD i (0, 0) := fun i hi => by
          rw [List.getD_eq_getElem?_getD, List.getD_eq_getElem?_getD]
          by_cases h9 : i < acc.length
          · rw [List.getElem?_append_left h9]
          · rw [List.getElem?_append_right (by omega), List.getElem?_eq_none (by simp; omega), List.getElem?_eq_none (by omega)]
        have g2 : (acc ++ [(r, k_num B (k_tok B E q))]).getD acc.length (0, 0) = (r, k_num B (k_tok B E q)) := by
          rw [List.getD_eq_getElem?_getD, List.getElem?_append_right (Nat.le_refl _), Nat.sub_self]; rfl
        (try dsimp only)
        by_cases k8 : k = 8
        · rw [if_pos ⟨rfl, k8⟩, k8]
          show _ = nI (acc ++ [(r, k_num B (k_tok B E q))]).length
          rw [hl]
        · rw [if_neg (fun z => k8 z.2)]
          by_cases k13 : k = 13 + acc.length
          · rw [if_pos ⟨rfl, k13⟩, k13]
            unfold m_row
            rw [if_neg (by omega), if_neg (by omega), if_neg (by omega), Nat.add_sub_cancel_left, g2]
          · rw [if_neg (fun z => k13 z.2)]
            by_cases k9 : k = 9 + acc.length
            · rw [if_pos ⟨rfl, k9⟩, k9]
              unfold m_row
              rw [if_neg (by omega), if_neg (by omega), if_pos (by omega), Nat.add_sub_cancel_left, g2]
            · rw [if_neg (fun z => k9 z.2)]
              unfold m_row
              by_cases k1 : k < 8
              · rw [if_pos k1, if_pos k1]
              · rw [if_neg k1, if_neg k8, if_neg k1, if_neg k8]
                by_cases k2 : k < 13
                · rw [if_pos k2, if_pos k2, g1 _ (by omega)]
                · rw [if_neg k2, if_neg k2, g1 _ (by omega)]
theorem s_readParts (H : Pm P) (hd : 5 ≤ d) (h : Sh σ) (hp : p + 8 < 220) (C : CP σ p X) (V : Vd X) (T : TG σ B E q) (F : EF σ none) {w : Nat → Nat} (D : TD σ w []) :
    RO (a_call a_tab P d 75 [.ref 223, .ref 220, .ref p] σ) Sr σ (g_parts X B E 5 [] q) (fun r σ' => TG σ' B E r.2 ∧ EF σ' none ∧ TD σ' w r.1 ∧ Va (X.1 0) r.1 ∧ 0 < r.1.length) := by
  rw [n_X5_readParts (by omega), b_X5_readParts_0]
  have loop : ∀ f acc q s, acc.length + f = 5 → Mo Sr σ s → TG s B E q → EF s none → TD s w acc → Va (X.1 0) acc → RO (b_R (a_call a_tab P (d - 1)) kX5_readParts [] (2, [some (.ref 223), some (.ref 220), some (.ref p), some (.int (nI acc.length))], [], s)) Sr σ (g_parts X B E f acc q) (fun r σ' => TG σ' B E r.2 ∧ EF σ' none ∧ TD σ' w r.1 ∧ Va (X.1 0) r.1 ∧ 0 < r.1.length) := by
    intro f
    induction f with
    | zero =>
      intro acc q s hl m T F D A
      exact absurd A.1 (by omega)
    | succ f ih =>
      intro acc q s hl m T F D A
      have hA := A.1
      have C1 : CP s p X := C.mo m fun b k z1 z2 z => by have := z.in; omega
      have hh := m.sh h
      have hpart := s_readPart (P := P) (d := d - 1) H (by omega) hh hp C1 V T F D A
      rw [b_X5_readParts_2 hh, if_neg (nIn (by omega) (by omega))]
      unfold g_parts
      cases hg : g_part X B E acc q with
      | inl e =>
        rw [hg] at hpart
        obtain ⟨σ', e1, m1, F1⟩ := hpart
        refine ⟨σ', ?_, m.tr m1, F1⟩
        rw [e1, g_v, b_X5_readParts_14 (m1.sh hh), if_pos (by decide)]
      | inr r =>
        obtain ⟨acc', q'⟩ := r
        rw [hg] at hpart
        obtain ⟨s1, e1, m1, T1, F1, D1, A1, L1⟩ := hpart
        have hl1 : acc'.length = acc.length + 1 := by
          unfold g_part at hg
          split at hg
          · split at hg
            · cases hg
            · split at hg
              · cases hg
              · split at hg
                · split at hg
                  · cases hg
                  · split at hg
                    · cases hg
                    · cases hg; simp
                · cases hg
          · cases hg
        show RO _ _ _ (if k_sg B (k_tok B E q') 43 = true then _ else _) _
        rw [e1, g_v, b_X5_readParts_14 (m1.sh hh), if_neg (by decide), s_isSign (by omega) (m1.sh hh) T1 (by decide), g_v, b_X5_readParts_25 (m1.sh hh)]
        cases hs : k_sg B (k_tok B E q') 43 with
        | false =>
          rw [if_pos (by decide), if_neg Bool.false_ne_true]
          exact ⟨s1, rfl, m.tr m1, T1, F1, D1, A1, L1⟩
        | true =>
          obtain ⟨s2, e2, m2, T2⟩ := s_adv (P := P) (d := d - 1) H (by omega) (m1.sh hh) T1
          rw [if_neg (by decide), if_pos rfl, e2, g_n, b_X5_readParts_34, nI_add, ← hl1]
          exact ih acc' _ s2 (by omega) ((m.tr m1).tr (m2.mono fun b k z => Sr.st (by unfold S3 at z; unfold St; omega))) T2 (F1.mo m2 (by unfold S3; omega) (by unfold S3; omega)) (D1.mo m2 (by unfold S3; omega) (by unfold S3; omega) (fun k _ => by unfold S3; omega)) A1
  exact loop 5 [] q σ rfl Mo.rf T F D ⟨Nat.zero_le _, fun i hi => absurd hi (Nat.not_lt_zero _), fun i hi => absurd hi (Nat.not_lt_zero _)⟩
end RDR
