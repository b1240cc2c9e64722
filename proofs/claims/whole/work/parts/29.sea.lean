/-! Search: the nearest mix, as a walk through all small mixes in their order -/
abbrev Cnd : Type := List (Nat × Nat)
def z_csum (X : Pal) (c : Cnd) (w : Nat) : Nat := (c.map fun q => q.2 * X.2 0 q.1 (8 + w)).sum
def z_call (c : Cnd) : Nat := (c.map fun q => q.2).sum
def z_cv (X : Pal) (c : Cnd) (w : Nat) : Nat := z_rnd (z_csum X c w) (z_call c)
def z_ccol (X : Pal) (c : Cnd) : Nat := 65536 * z_cv X c 0 + 256 * z_cv X c 1 + z_cv X c 2
def z_cfar (X : Pal) (aim : Nat) (c : Cnd) : Nat := 2 * z_sq (z_cv X c 0) (z_ch aim 0) + 4 * z_sq (z_cv X c 1) (z_ch aim 1) + 3 * z_sq (z_cv X c 2) (z_ch aim 2)
def z_stp (X : Pal) (aim : Nat) (s : Option Cnd) (c : Cnd) : Option Cnd := match s with
  | none => some c
  | some b => if z_cfar X aim c < z_cfar X aim b then some c else some b
def q_fold {S : Type} (f : Nat → S → S) : Nat → Nat → S → S
  | 0, _, s => s
  | k + 1, i, s => q_fold f k (i + 1) (f i s)
/-- all parts of the tubes l with so many left, behind those that are told -/
def z_shr (X : Pal) (aim : Nat) : List Nat → Nat → Cnd → Option Cnd → Option Cnd
  | [], _, _, s => s
  | [t], left, acc, s => z_stp X aim s (acc ++ [(t, left)])
  | t :: u :: l, left, acc, s => q_fold (fun p s => z_shr X aim (u :: l) (left - p) (acc ++ [(t, p)]) s) (left - (u :: l).length) 1 s
/-- all choices of n further tubes out of a list -/
def z_cho (X : Pal) (aim tot : Nat) : Nat → List Nat → List Nat → Option Cnd → Option Cnd
  | 0, _, ch, s => z_shr X aim ch tot [] s
  | _ + 1, [], _, s => s
  | n + 1, t :: l, ch, s => z_cho X aim tot (n + 1) l ch (z_cho X aim tot n l (ch ++ [t]) s)
def z_U (X : Pal) : List Nat := (List.range (X.1 0)).filter (z_use X)
def z_ph (X : Pal) (aim n : Nat) (s : Option Cnd) : Option Cnd := q_fold (fun tot s => z_cho X aim tot n (z_U X) [] s) (X.1 4 + 1 - n) n s
def z_near (X : Pal) (aim k : Nat) : Option Cnd := q_fold (fun n s => z_ph X aim n s) k 1 none
theorem q_fold_succ {S : Type} (f : Nat → S → S) : ∀ (k i : Nat) (s : S), q_fold f (k + 1) i s = f (i + k) (q_fold f k i s)
  | 0, i, s => rfl
  | k + 1, i, s => by
    show q_fold f (k + 1) (i + 1) (f i s) = f (i + (k + 1)) (q_fold f k (i + 1) (f i s))
    rw [q_fold_succ f k (i + 1) (f i s)]
    congr 1
    omega
theorem q_fold_id {S : Type} {f : Nat → S → S} {s : S} (h : ∀ i, f i s = s) : ∀ k i, q_fold f k i s = s
  | 0, _ => rfl
  | k + 1, i => by
    show q_fold f k (i + 1) (f i s) = s
    rw [h i]
    exact q_fold_id h k (i + 1)
/-- what is no distance away stays -/
theorem z_stp_0 {X : Pal} {aim : Nat} {b : Cnd} (h : z_cfar X aim b = 0) (c : Cnd) : z_stp X aim (some b) c = some b := if_neg (by omega)
theorem z_shr_0 {X : Pal} {aim : Nat} {b : Cnd} (h : z_cfar X aim b = 0) : ∀ (l : List Nat) (left : Nat) (acc : Cnd), z_shr X aim l left acc (some b) = some b
  | [], _, _ => by unfold z_shr; rfl
  | [t], _, _ => by unfold z_shr; exact z_stp_0 h _
  | t :: u :: l, left, acc => by
    unfold z_shr
    exact q_fold_id (fun p => z_shr_0 h (u :: l) (left - p) (acc ++ [(t, p)])) _ _
theorem z_cho_0 {X : Pal} {aim tot : Nat} {b : Cnd} (h : z_cfar X aim b = 0) : ∀ (n : Nat) (l ch : List Nat), z_cho X aim tot n l ch (some b) = some b
  | 0, l, ch => by unfold z_cho; exact z_shr_0 h _ _ _
  | n + 1, [], ch => by unfold z_cho; rfl
  | n + 1, t :: l, ch => by
    unfold z_cho
    rw [z_cho_0 h n l _]
    exact z_cho_0 h (n + 1) l ch
theorem z_cfar_le {X : Pal} {aim : Nat} {c : Cnd} (h : ∀ w, w < 3 → z_cv X c w ≤ 255) : z_cfar X aim c ≤ 585225 := by
  have h0 := z_sq_le (h 0 (by decide)) (z_ch_lt aim 0)
  have h1 := z_sq_le (h 1 (by decide)) (z_ch_lt aim 1)
  have h2 := z_sq_le (h 2 (by decide)) (z_ch_lt aim 2)
  unfold z_cfar
  omega
/-- a small mix of tubes in use -/
def z_ok (X : Pal) (c : Cnd) : Prop := 1 ≤ c.length ∧ c.length ≤ 3 ∧ z_call c ≤ 6 ∧ ∀ q, q ∈ c → q.1 < X.1 0 ∧ z_use X q.1 = true ∧ 1 ≤ q.2
theorem z_sum_map_le {α : Type} {f g : α → Nat} : ∀ {l : List α}, (∀ a, a ∈ l → f a ≤ g a) → (l.map f).sum ≤ (l.map g).sum
  | [], _ => Nat.le_refl _
  | a :: l, h => by
    simp only [List.map_cons, List.sum_cons]
    exact Nat.add_le_add (h a List.mem_cons_self) (z_sum_map_le fun b hb => h b (List.mem_cons_of_mem _ hb))
theorem z_sum_map_mul {α : Type} {f : α → Nat} {m : Nat} : ∀ {l : List α}, (l.map fun a => f a * m).sum = (l.map f).sum * m
  | [] => (Nat.zero_mul m).symm
  | a :: l => by
    simp only [List.map_cons, List.sum_cons]
    rw [z_sum_map_mul, Nat.add_mul]
theorem z_ok_all {X : Pal} {c : Cnd} (h : z_ok X c) : 1 ≤ z_call c := by
  obtain ⟨h1, -, -, h4⟩ := h
  cases c with
  | nil => cases h1
  | cons q c =>
    have := (h4 q List.mem_cons_self).2.2
    unfold z_call
    simp only [List.map_cons, List.sum_cons]
    omega
theorem z_ok_sum {X : Pal} (V : Vd X) {c : Cnd} (h : z_ok X c) {w : Nat} (hw : w < 3) : z_csum X c w ≤ 255 * z_call c := by
  unfold z_csum z_call
  rw [Nat.mul_comm, ← z_sum_map_mul]
  exact z_sum_map_le fun q hq => Nat.mul_le_mul_left _ ((V.t (h.2.2.2 q hq).1).1 w hw)
theorem z_ok_cv {X : Pal} (V : Vd X) {c : Cnd} (h : z_ok X c) {w : Nat} (hw : w < 3) : z_cv X c w ≤ 255 := z_rnd_le (z_ok_all h) (z_ok_sum V h hw)
def Ss (b k : Nat) : Prop := 229 ≤ b ∧ b ≤ 234
/-- what the search looks at -/
def SU (σ : aSt) (X : Pal) (aim : Nat) : Prop := a_I σ 229 5 = nI (z_U X).length ∧ a_I σ 229 6 = nI (X.1 4) ∧ (∀ w, w < 3 → a_I σ 229 (7 + w) = nI (z_ch aim w)) ∧ ∀ j, j < (z_U X).length → a_I σ 230 j = nI ((z_U X).getD j 0) ∧ ∀ w, w < 3 → a_I σ (231 + w) j = nI (X.2 0 ((z_U X).getD j 0) (8 + w))
/-- what it has found -/
def SR (σ : aSt) (X : Pal) (aim : Nat) (s : Option Cnd) (n : Nat) : Prop := match s with
  | none => a_I σ 229 10 = nI 1000000 ∧ ∀ j, j < 10 → a_I σ 234 j = -1
  | some c => z_ok X c ∧ c.length ≤ n ∧ a_I σ 229 10 = nI (z_cfar X aim c) ∧ a_I σ 234 3 = nI (z_cfar X aim c) ∧ a_I σ 234 0 = nI (z_ccol X c) ∧ a_I σ 234 1 = nI c.length ∧ a_I σ 234 2 = nI (z_call c) ∧ ∀ i, i < 3 → a_I σ 234 (4 + i) = (if i < c.length then nI (c.getD i (0, 0)).1 else -1) ∧ a_I σ 234 (7 + i) = (if i < c.length then nI (c.getD i (0, 0)).2 else -1)
theorem SU.mo {σ σ' : aSt} {X : Pal} {aim : Nat} (h : SU σ X aim) {S : Nat → Nat → Prop} (m : Mo S σ σ') (h1 : ∀ k, k < 10 → ¬ S 229 k) (h2 : ∀ b k, 230 ≤ b → b ≤ 233 → ¬ S b k) : SU σ' X aim := by
  obtain ⟨a1, a2, a3, a4⟩ := h
  refine ⟨by rw [m.I (h1 _ (by decide))]; exact a1, by rw [m.I (h1 _ (by decide))]; exact a2, fun w hw => by rw [m.I (h1 _ (by omega))]; exact a3 w hw, fun j hj => ⟨by rw [m.I (h2 _ _ (by decide) (by decide))]; exact (a4 j hj).1, fun w hw => by rw [m.I (h2 _ _ (by omega) (by omega))]; exact (a4 j hj).2 w hw⟩⟩
theorem SR.mono {σ : aSt} {X : Pal} {aim n n' : Nat} {s : Option Cnd} (h : SR σ X aim s n) (hn : n ≤ n') : SR σ X aim s n' := by
  cases s with
  | none => exact h
  | some c => exact ⟨h.1, Nat.le_trans h.2.1 hn, h.2.2⟩
/-- the far of what was found, as the search keeps it -/
def z_lf (X : Pal) (aim : Nat) (s : Option Cnd) : Nat := match s with | none => 1000000 | some c => z_cfar X aim c
theorem SR.lf {σ : aSt} {X : Pal} {aim n : Nat} {s : Option Cnd} (h : SR σ X aim s n) : a_I σ 229 10 = nI (z_lf X aim s) := by
  cases s with
  | none => exact h.1
  | some c => exact h.2.2.1
theorem SR.lf_le {σ : aSt} {X : Pal} {aim n : Nat} {s : Option Cnd} (V : Vd X) (h : SR σ X aim s n) : z_lf X aim s ≤ 1000000 := by
  cases s with
  | none => exact Nat.le_refl _
  | some c => exact Nat.le_trans (z_cfar_le fun w hw => z_ok_cv V h.1 hw) (by decide)
theorem z_U_lt {X : Pal} {j : Nat} (h : j < (z_U X).length) : (z_U X).getD j 0 < X.1 0 ∧ z_use X ((z_U X).getD j 0) = true := by
  have h1 : (z_U X).getD j 0 ∈ z_U X := by
    rw [List.getD_eq_getElem?_getD, List.getElem?_eq_getElem h]
    exact List.getElem_mem h
  have h2 := List.mem_filter.mp h1
  exact ⟨List.mem_range.mp h2.1, h2.2⟩
theorem z_U_len {X : Pal} (V : Vd X) : (z_U X).length ≤ 20 := by
  have h1 : (z_U X).length ≤ (List.range (X.1 0)).length := List.length_filter_le _ _
  rw [List.length_range] at h1
  exact Nat.le_trans h1 V.1.1
section SEA
variable {P : aCall} {d : Nat} {σ : aSt} {X : Pal} {aim : Nat}
/-- a part is kept: nothing of it, or one more -/
theorem s_keep0 (hd : 1 ≤ d) (h : Sh σ) {t : Int32} : a_call a_tab P d 64 [.ref 229, .int t, .int (nI 0)] σ = some (.inl none, σ) := by
  rw [n_X3_keepPart hd, b_X3_keepPart_0 h, b_gd_t (nIi (by decide) (by decide)), if_neg (by decide), b_X3_keepPart_48]
theorem s_keep (hd : 1 ≤ d) (h : Sh σ) {t : Int32} {i q : Nat} (hi : a_I σ 234 1 = nI i) (hi3 : i < 3) (hq : 0 < q) (hq2 : q < 2147483648) : a_call a_tab P d 64 [.ref 229, .int t, .int (nI q)] σ = some (.inl none, a_setI (a_setI (a_setI σ 234 (4 + i) t) 234 (7 + i) (nI q)) 234 1 (nI (i + 1))) := by
  have hi' : a_I σ 234 (nI 1).toNatClampNeg = nI i := by rw [nIc (by decide)]; exact hi
  rw [n_X3_keepPart hd, b_X3_keepPart_0 h, b_gd_t (nIi (by decide) (by decide)), if_pos (by rw [← nI_0]; exact nIl hq hq2)]
  simp only [hi']
  rw [if_neg (nIp (by omega)), if_pos (nIl hi3 (by decide)), b_gd_t (show a_in (nI 4 + nI i) 10 by rw [nI_add]; exact nIi (by omega) (by decide)), b_gd_t (show a_in (nI 7 + nI i) 10 by rw [nI_add]; exact nIi (by omega) (by decide)), b_gd_t (nIi (by decide) (by decide)), b_X3_keepPart_48, nI_add, nI_add, nI_add, nIc (by omega), nIc (by omega), nIc (by decide)]
/-- the three parts that stand for a mix of one to three tubes -/
def z_c3 (X : Pal) (a b c pa pb pc : Nat) : Cnd := if pb = 0 then [((z_U X).getD a 0, pa)] else if pc = 0 then [((z_U X).getD a 0, pa), ((z_U X).getD b 0, pb)] else [((z_U X).getD a 0, pa), ((z_U X).getD b 0, pb), ((z_U X).getD c 0, pc)]
theorem z_c3_sum {X : Pal} {a b c pa pb pc w : Nat} (h : pb = 0 → pc = 0) : z_csum X (z_c3 X a b c pa pb pc) w = pa * X.2 0 ((z_U X).getD a 0) (8 + w) + pb * X.2 0 ((z_U X).getD b 0) (8 + w) + pc * X.2 0 ((z_U X).getD c 0) (8 + w) := by
  unfold z_c3 z_csum
  by_cases hb : pb = 0
  · rw [if_pos hb, hb, h hb]; simp
  · rw [if_neg hb]
    by_cases hc : pc = 0
    · rw [if_pos hc, hc]; simp
    · rw [if_neg hc]; simp [Nat.add_assoc]
theorem z_c3_all {X : Pal} {a b c pa pb pc : Nat} (h : pb = 0 → pc = 0) : z_call (z_c3 X a b c pa pb pc) = pa + pb + pc := by
  unfold z_c3 z_call
  by_cases hb : pb = 0
  · rw [if_pos hb, hb, h hb]; simp
  · rw [if_neg hb]
    by_cases hc : pc = 0
    · rw [if_pos hc, hc]; simp
    · rw [if_neg hc]; simp [Nat.add_assoc]
theorem z_c3_ok {X : Pal} {a b c pa pb pc : Nat} (h : pb = 0 → pc = 0) (h1 : 0 < pa) (h6 : pa + pb + pc ≤ 6) (ha : a < (z_U X).length) (hb : b < (z_U X).length) (hc : c < (z_U X).length) : z_ok X (z_c3 X a b c pa pb pc) := by
  refine ⟨?_, ?_, by rw [z_c3_all h]; exact h6, ?_⟩
  · unfold z_c3; split <;> try split
    all_goals simp
  · unfold z_c3; split <;> try split
    all_goals simp
  · intro q hq
    have A := z_U_lt ha
    have B := z_U_lt hb
    have C := z_U_lt hc
    unfold z_c3 at hq
    split at hq
    · simp only [List.mem_cons, List.not_mem_nil, or_false] at hq
      subst hq
      exact ⟨A.1, A.2, h1⟩
    · split at hq
      · simp only [List.mem_cons, List.not_mem_nil, or_false] at hq
        rcases hq with rfl | rfl
        · exact ⟨A.1, A.2, h1⟩
        · exact ⟨B.1, B.2, by show 1 ≤ pb; omega⟩
      · simp only [List.mem_cons, List.not_mem_nil, or_false] at hq
        rcases hq with rfl | rfl | rfl
        · exact ⟨A.1, A.2, h1⟩
        · exact ⟨B.1, B.2, by show 1 ≤ pb; omega⟩
        · exact ⟨C.1, C.2, by show 1 ≤ pc; omega⟩
/-- a mix is offered -/
def So (b k : Nat) : Prop := b = 234 ∨ (b = 229 ∧ k = 10)
theorem s_offer (hd : 2 ≤ d) (h : Sh σ) (V : Vd X) (U : SU σ X aim) {s : Option Cnd} {n a b c pa pb pc : Nat} (hR : SR σ X aim s n) (hab : a ≤ b) (hbc : b ≤ c) (hc : c < (z_U X).length) (h0 : pb = 0 → pc = 0) (h1 : 0 < pa) (h6 : pa + pb + pc ≤ 6) (hn : (z_c3 X a b c pa pb pc).length = n) :
    ∃ σ', a_call a_tab P d 63 [.ref 229, .int (nI a), .int (nI b), .int (nI c), .int (nI pa), .int (nI pb), .int (nI pc)] σ = some (.inl none, σ') ∧ Mo So σ σ' ∧ SR σ' X aim (z_stp X aim s (z_c3 X a b c pa pb pc)) n := by
  have hlen := z_U_len V
  have hlf := hR.lf
  have hlfl := hR.lf_le V
  have ok := z_c3_ok (X := X) (a := a) (b := b) (c := c) h0 h1 h6 (by omega) (by omega) hc
  obtain ⟨U1, U2, U3, U4⟩ := U
  have e0 : ∀ j, j < (z_U X).length → a_I σ 231 j = nI (X.2 0 ((z_U X).getD j 0) 8) := fun j hj => (U4 j hj).2 0 (by decide)
  have e1 : ∀ j, j < (z_U X).length → a_I σ 232 j = nI (X.2 0 ((z_U X).getD j 0) 9) := fun j hj => (U4 j hj).2 1 (by decide)
  have e2 : ∀ j, j < (z_U X).length → a_I σ 233 j = nI (X.2 0 ((z_U X).getD j 0) 10) := fun j hj => (U4 j hj).2 2 (by decide)
  have all := z_c3_all (X := X) (a := a) (b := b) (c := c) (pa := pa) h0
  have hb1 := z_ok_all ok
  have bnd : ∀ w, w < 3 → 2 * z_csum X (z_c3 X a b c pa pb pc) w + (pa + pb + pc) < 2147483648 := fun w hw => by
    have := z_ok_sum V ok hw
    rw [all] at this
    omega
  have cv : ∀ w, z_rnd (z_csum X (z_c3 X a b c pa pb pc) w) (pa + pb + pc) = z_cv X (z_c3 X a b c pa pb pc) w := fun w => by unfold z_cv; rw [all]
  have r0 : nI pa * nI (X.2 0 ((z_U X).getD a 0) 8) + nI pb * nI (X.2 0 ((z_U X).getD b 0) 8) + nI pc * nI (X.2 0 ((z_U X).getD c 0) 8) = nI (z_csum X (z_c3 X a b c pa pb pc) 0) := by rw [z_c3_sum h0, pk_mul, pk_mul, pk_mul, nI_add, nI_add]
  have r1 : nI pa * nI (X.2 0 ((z_U X).getD a 0) 9) + nI pb * nI (X.2 0 ((z_U X).getD b 0) 9) + nI pc * nI (X.2 0 ((z_U X).getD c 0) 9) = nI (z_csum X (z_c3 X a b c pa pb pc) 1) := by rw [z_c3_sum h0, pk_mul, pk_mul, pk_mul, nI_add, nI_add]
  have r2 : nI pa * nI (X.2 0 ((z_U X).getD a 0) 10) + nI pb * nI (X.2 0 ((z_U X).getD b 0) 10) + nI pc * nI (X.2 0 ((z_U X).getD c 0) 10) = nI (z_csum X (z_c3 X a b c pa pb pc) 2) := by rw [z_c3_sum h0, pk_mul, pk_mul, pk_mul, nI_add, nI_add]
  have v0 := z_ok_cv V ok (w := 0) (by decide)
  have v1 := z_ok_cv V ok (w := 1) (by decide)
  have v2 := z_ok_cv V ok (w := 2) (by decide)
  have q0 := z_sq_le v0 (z_ch_lt aim 0)
  have q1 := z_sq_le v1 (z_ch_lt aim 1)
  have q2 := z_sq_le v2 (z_ch_lt aim 2)
  have hnot : z_lf X aim s ≤ z_cfar X aim (z_c3 X a b c pa pb pc) → z_stp X aim s (z_c3 X a b c pa pb pc) = s := fun hle => by
    cases s with
    | none =>
      have : z_cfar X aim (z_c3 X a b c pa pb pc) ≤ 585225 := z_cfar_le fun w hw => z_ok_cv V ok hw
      have hle : 1000000 ≤ z_cfar X aim (z_c3 X a b c pa pb pc) := hle
      omega
    | some b => exact if_neg (Nat.not_lt.mpr hle)
  have hyes : z_cfar X aim (z_c3 X a b c pa pb pc) < z_lf X aim s → z_stp X aim s (z_c3 X a b c pa pb pc) = some (z_c3 X a b c pa pb pc) := fun hlt => by
    cases s with
    | none => rfl
    | some b => exact if_pos hlt
  have hz : z_cfar X aim (z_c3 X a b c pa pb pc) = 2 * z_sq (z_cv X (z_c3 X a b c pa pb pc) 0) (z_ch aim 0) + 4 * z_sq (z_cv X (z_c3 X a b c pa pb pc) 1) (z_ch aim 1) + 3 * z_sq (z_cv X (z_c3 X a b c pa pb pc) 2) (z_ch aim 2) := rfl
  rw [n_X3_offer (by omega), b_X3_offer_0 h, if_neg (nIp (by omega)), if_neg (nIn hab (by omega)), if_neg (nIn hbc (by omega)), if_pos (nIl (by omega) (by decide)), b_gd_t (nIi (by omega) (by decide)), b_gd_t (nIi (by omega) (by decide)), b_gd_t (nIi (by omega) (by decide)), nIc (by omega), nIc (by omega), nIc (by omega), e0 a (by omega), e0 b (by omega), e0 c hc, r0, nI_add, nI_add,
    s_rounded (by omega) (by omega) (bnd 0 (by decide)) (by omega), g_v, b_X3_offer_65 h, cv, show a_I σ 229 7 = nI (z_ch aim 0) from U3 0 (by decide), z_sq_i, hlf]
  by_cases c0 : 2 * z_sq (z_cv X (z_c3 X a b c pa pb pc) 0) (z_ch aim 0) < z_lf X aim s
  · rw [if_pos (nIl c0 (by omega)), b_gd_t (nIi (by omega) (by decide)), b_gd_t (nIi (by omega) (by decide)), b_gd_t (nIi (by omega) (by decide)), nIc (by omega), nIc (by omega), nIc (by omega), e1 a (by omega), e1 b (by omega), e1 c hc, r1, s_rounded (by omega) (by omega) (bnd 1 (by decide)) (by omega), g_v, b_X3_offer_130 h, cv, show a_I σ 229 8 = nI (z_ch aim 1) from U3 1 (by decide), z_sq_i, nI_add, hlf]
    by_cases c1 : 2 * z_sq (z_cv X (z_c3 X a b c pa pb pc) 0) (z_ch aim 0) + 4 * z_sq (z_cv X (z_c3 X a b c pa pb pc) 1) (z_ch aim 1) < z_lf X aim s
    · rw [if_pos (nIl c1 (by omega)), b_gd_t (nIi (by omega) (by decide)), b_gd_t (nIi (by omega) (by decide)), b_gd_t (nIi (by omega) (by decide)), nIc (by omega), nIc (by omega), nIc (by omega), e2 a (by omega), e2 b (by omega), e2 c hc, r2, s_rounded (by omega) (by omega) (bnd 2 (by decide)) (by omega), g_v, b_X3_offer_198 h, cv, show a_I σ 229 9 = nI (z_ch aim 2) from U3 2 (by decide), z_sq_i, nI_add, hlf, ← hz]
      by_cases c2 : z_cfar X aim (z_c3 X a b c pa pb pc) < z_lf X aim s
      · rw [if_pos (nIl c2 (by omega)), b_gd_t (nIi (by decide) (by decide)), b_gd_t (nIi (by decide) (by decide)), b_gd_t (nIi (by decide) (by decide)), b_gd_t (nIi (by decide) (by decide)), b_gd_t (nIi (by omega) (by decide)), hyes c2, nIc (by decide), nIc (by decide), nIc (by decide), nIc (by decide), nIc (by omega), pk_mul, pk_mul, nI_add, nI_add]
        -- what stands before the parts
        obtain ⟨s1, hs1⟩ : ∃ s1, s1 = a_setI (a_setI (a_setI (a_setI (a_setI σ 229 10 (nI (z_cfar X aim (z_c3 X a b c pa pb pc)))) 234 3 (nI (z_cfar X aim (z_c3 X a b c pa pb pc)))) 234 0 (nI (65536 * z_cv X (z_c3 X a b c pa pb pc) 0 + 256 * z_cv X (z_c3 X a b c pa pb pc) 1 + z_cv X (z_c3 X a b c pa pb pc) 2))) 234 1 (nI 0)) 234 2 (nI (pa + pb + pc)) := ⟨_, rfl⟩
        rw [← hs1]
        have m1 : Mo So σ s1 := by
          rw [hs1]
          exact ((((Mo.set (.inr ⟨rfl, rfl⟩)).then_set (.inl rfl)).then_set (.inl rfl)).then_set (.inl rfl)).then_set (.inl rfl)
        have i1 : a_I s1 234 1 = nI 0 := by rw [hs1]; rfl
        have n230 : ∀ (s : aSt), Mo So σ s → ∀ j, j < (z_U X).length → a_I s 230 j = nI ((z_U X).getD j 0) := fun s m j hj => by
          rw [m.I (by unfold So; omega)]
          exact (U4 j hj).1
        have old : ∀ j, n ≤ j → j < 3 → a_I s1 234 (4 + j) = -1 ∧ a_I s1 234 (7 + j) = -1 := fun j hj hj3 => by
          have o1 : a_I σ 234 (4 + j) = -1 ∧ a_I σ 234 (7 + j) = -1 := by
            cases s with
            | none => exact ⟨hR.2 _ (by omega), hR.2 _ (by omega)⟩
            | some b =>
              obtain ⟨-, p1, -, -, -, -, -, p2⟩ := hR
              have := p2 j hj3
              rw [if_neg (by omega), if_neg (by omega)] at this
              exact this
          have o2 : ∀ i, 3 < i → a_I s1 234 i = a_I σ 234 i := fun i hi => by
            rw [hs1, a_I_off (.inr (by omega)), a_I_off (.inr (by omega)), a_I_off (.inr (by omega)), a_I_off (.inr (by omega)), a_I_off (.inl (by decide))]
          exact ⟨(o2 _ (by omega)).trans o1.1, (o2 _ (by omega)).trans o1.2⟩
        have b0 : a_I s1 229 10 = nI (z_cfar X aim (z_c3 X a b c pa pb pc)) := by rw [hs1]; rfl
        have b1 : a_I s1 234 3 = nI (z_cfar X aim (z_c3 X a b c pa pb pc)) := by rw [hs1]; rfl
        have b2 : a_I s1 234 0 = nI (z_ccol X (z_c3 X a b c pa pb pc)) := by rw [hs1]; rfl
        have b3 : a_I s1 234 2 = nI (z_call (z_c3 X a b c pa pb pc)) := by rw [hs1, all]; rfl
        rw [n230 s1 m1 a (by omega), s_keep (by omega) (m1.sh h) i1 (by decide) h1 (by omega), g_n]
        have m2 : Mo So σ (a_setI (a_setI (a_setI s1 234 (4 + 0) (nI ((z_U X).getD a 0))) 234 (7 + 0) (nI pa)) 234 1 (nI (0 + 1))) := ((m1.then_set (.inl rfl)).then_set (.inl rfl)).then_set (.inl rfl)
        rw [b_X3_offer_294 (m2.sh h), b_gd_t (nIi (by omega) (by decide)), nIc (by omega), n230 _ m2 b (by omega)]
        by_cases hb0 : pb = 0
        · have hc0 := h0 hb0
          subst hb0 hc0
          rw [s_keep0 (by omega) (m2.sh h), g_n, b_X3_offer_306 (m2.sh h), b_gd_t (nIi (by omega) (by decide)), nIc (by omega), s_keep0 (by omega) (m2.sh h), g_n, b_X3_offer_318]
          have hl : n = 1 := by rw [← hn]; rfl
          subst hl
          refine ⟨_, rfl, m2, ok, Nat.le_of_eq hn, ?_, ?_, ?_, ?_, ?_, fun i hi => ?_⟩
          · exact b0
          · exact b1
          · exact b2
          · rfl
          · exact b3
          · obtain rfl | rfl | rfl : i = 0 ∨ i = 1 ∨ i = 2 := by omega
            · exact ⟨rfl, rfl⟩
            · exact old 1 (by decide) (by decide)
            · exact old 2 (by decide) (by decide)
        · rw [s_keep (by omega) (m2.sh h) (i := 1) rfl (by decide) (by omega) (by omega), g_n]
          have m3 : Mo So σ (a_setI (a_setI (a_setI (a_setI (a_setI (a_setI s1 234 (4 + 0) (nI ((z_U X).getD a 0))) 234 (7 + 0) (nI pa)) 234 1 (nI (0 + 1))) 234 (4 + 1) (nI ((z_U X).getD b 0))) 234 (7 + 1) (nI pb)) 234 1 (nI (1 + 1))) := ((m2.then_set (.inl rfl)).then_set (.inl rfl)).then_set (.inl rfl)
          rw [b_X3_offer_306 (m3.sh h), b_gd_t (nIi (by omega) (by decide)), nIc (by omega), n230 _ m3 c hc]
          by_cases hc0 : pc = 0
          · subst hc0
            rw [s_keep0 (by omega) (m3.sh h), g_n, b_X3_offer_318]
            have ec : z_c3 X a b c pa pb 0 = [((z_U X).getD a 0, pa), ((z_U X).getD b 0, pb)] := by unfold z_c3; rw [if_neg hb0, if_pos rfl]
            have hl : n = 2 := by rw [← hn, ec]; rfl
            subst hl
            refine ⟨_, rfl, m3, ok, Nat.le_of_eq hn, ?_, ?_, ?_, ?_, ?_, fun i hi => ?_⟩
            · exact b0
            · exact b1
            · exact b2
            · rw [ec]; rfl
            · exact b3
            · rw [ec]
              obtain rfl | rfl | rfl : i = 0 ∨ i = 1 ∨ i = 2 := by omega
              · exact ⟨rfl, rfl⟩
              · exact ⟨rfl, rfl⟩
              · exact old 2 (by decide) (by decide)
          · rw [s_keep (by omega) (m3.sh h) (i := 2) rfl (by decide) (by omega) (by omega), g_n, b_X3_offer_318]
            have ec : z_c3 X a b c pa pb pc = [((z_U X).getD a 0, pa), ((z_U X).getD b 0, pb), ((z_U X).getD c 0, pc)] := by unfold z_c3; rw [if_neg hb0, if_neg hc0]
            refine ⟨_, rfl, ((m3.then_set (.inl rfl)).then_set (.inl rfl)).then_set (.inl rfl), ok, Nat.le_of_eq hn, ?_, ?_, ?_, ?_, ?_, fun i hi => ?_⟩
            · exact b0
            · exact b1
            · exact b2
            · rw [ec]; rfl
            · exact b3
            · rw [ec]
              obtain rfl | rfl | rfl : i = 0 ∨ i = 1 ∨ i = 2 := by omega
              · exact ⟨rfl, rfl⟩
              · exact ⟨rfl, rfl⟩
              · exact ⟨rfl, rfl⟩
      · rw [if_neg (nIn (by omega) (by omega)), hnot (by omega)]
        exact ⟨σ, rfl, Mo.rf, hR⟩
    · rw [if_neg (nIn (by omega) (by omega)), hnot (by omega)]
      exact ⟨σ, rfl, Mo.rf, hR⟩
  · rw [if_neg (nIn (by omega) (by omega)), hnot (by omega)]
    exact ⟨σ, rfl, Mo.rf, hR⟩
end SEA
