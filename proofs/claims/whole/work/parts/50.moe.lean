/-! the model: colours, parts, what is broken -/
def Sq (b k : Nat) : Prop := b = 242 ∨ b = 243 ∨ (b = 237 ∧ k = 10)
def TK (σ : aSt) (g : Nat → Nat) : Prop := a_I σ 237 10 = nI (g 8) ∧ ∀ i, i < g 8 → a_I σ 242 i = nI (g (9 + i)) ∧ a_I σ 243 i = nI (g (13 + i))
theorem MC.sq {σ σ' : aSt} {w : Nat} {X : Pal} (M : MC σ w X) (m : Mo Sq σ σ') : MC σ' w X := M.mo m fun k z => by have := M.2.1; have := M.2.2.1; unfold Sq at z; omega
def VG (X : Pal) (g : Nat → Nat) : Prop := g 8 ≤ 4 ∧ (∀ i, i < g 8 → g (9 + i) < X.1 0) ∧ (1 ≤ z_all g ∧ z_all g ≤ 36) ∧ ∀ k, k < 3 → z_sum X g k ≤ 255 * z_all g
theorem VG.of {X : Pal} {g : Nat → Nat} (V : Vd X) (G : Vm (X.1 0) g) : VG X g := ⟨G.2.1, fun i hi => (G.2.2.1 i hi).1, z_all_le G, fun _ hk => z_sum_le V G hk⟩
section MOE
variable {P : aCall} {d : Nat} {σ : aSt} {X : Pal} {w : Nat} {x : Int32}
theorem y_valueOf (hd : 1 ≤ d) {c k : Nat} (hc : c ≤ 16777215) (hk : k < 3) : a_call a_tab P d 160 [.int (nI c), .int (nI k)] σ = some (.inl (some (.int (nI (z_ch c k)))), σ) := by
  rw [n_X8_valueOf (by omega), b_X8_valueOf_0, b_X8_valueOf_33, b_X8_valueOf_33, b_X8_valueOf_33]
  obtain rfl | rfl | rfl : k = 0 ∨ k = 1 ∨ k = 2 := by omega
  · rw [if_pos (show nI 0 = 0 from rfl), pk_div (by omega) (by decide) (by decide)]
    unfold z_ch
    rw [show c / 2 ^ (16 - 8 * 0) % 256 = c / 65536 from Nat.mod_eq_of_lt (by omega)]
  · rw [if_neg (by decide), if_pos rfl, pk_div (by omega) (by decide) (by decide), pk_rem (by omega) (by decide) (by decide)]
    rfl
  · rw [if_neg (by decide), if_neg (by decide), pk_rem (by omega) (by decide) (by decide)]
    unfold z_ch
    rw [show c / 2 ^ (16 - 8 * 2) % 256 = c % 256 by rw [show 16 - 8 * 2 = 0 from rfl, Nat.pow_zero, Nat.div_one]]
theorem y_square (hd : 1 ≤ d) : a_call a_tab P d 161 [.int x] σ = some (.inl (some (.int (x * x))), σ) := by
  rw [n_X8_square (by omega), b_X8_square_0]
theorem y_far (hd : 2 ≤ d) {a b : Nat} (ha : a ≤ 16777215) (hb : b ≤ 16777215) : a_call a_tab P d 162 [.int (nI a), .int (nI b)] σ = some (.inl (some (.int (nI (z_far a b)))), σ) := by
  have sq : ∀ c u v : Nat, nI c * ((nI u - nI v) * (nI u - nI v)) = nI (c * z_sq u v) := fun c u v => by rw [← Int32.mul_assoc]; exact z_sq_i c u v
  rw [n_X8_far (by omega), b_X8_far_0, y_valueOf (by omega) ha (by decide), g_v, b_X8_far_6, y_valueOf (by omega) hb (by decide), g_v, b_X8_far_11, y_square (by omega), g_v, b_X8_far_15, y_valueOf (by omega) ha (by decide), g_v, b_X8_far_24, y_valueOf (by omega) hb (by decide), g_v, b_X8_far_29, y_square (by omega), g_v, b_X8_far_33, y_valueOf (by omega) ha (by decide), g_v, b_X8_far_43, y_valueOf (by omega) hb (by decide), g_v, b_X8_far_48, y_square (by omega), g_v, b_X8_far_52, sq, sq, sq, nI_add, nI_add]
  rfl
theorem y_take (hd : 2 ≤ d) (h : Sh σ) (M : MC σ w X) (V : Vd X) {m : Nat} (hm : m < X.1 1) : ∃ σ', a_call a_tab P d 163 [.ref 237, .int (nI m)] σ = some (.inl none, σ') ∧ Mo Sq σ σ' ∧ TK σ' (X.2 1 m) := by
  have g8 := (V.m hm).2.1
  have h20 := V.1.2
  obtain ⟨-, -, f9, f10⟩ := M.2.2.2.2.2.1 m hm
  have loop : ∀ k i s, i + k = X.2 1 m 8 → Mo Sq σ s → a_I s 237 10 = nI (X.2 1 m 8) → (∀ j, j < i → a_I s 242 j = nI (X.2 1 m (9 + j)) ∧ a_I s 243 j = nI (X.2 1 m (13 + j))) → ∃ σ', b_R (a_call a_tab P (d - 1)) kX8_take [] (13, [some (.ref 237), some (.int (nI m)), some (.int (nI i))], [], s) = some (.inl none, σ') ∧ Mo Sq σ σ' ∧ TK σ' (X.2 1 m) := by
    intro k
    induction k with
    | zero =>
      intro i s hi ms e10 ej
      obtain rfl : i = X.2 1 m 8 := by omega
      refine ⟨s, ?_, ms, e10, ej⟩
      rw [b_X8_take_13 (ms.sh h), e10, if_neg (nIn (Nat.le_refl _) (by omega))]
    | succ k ih =>
      intro i s hi ms e10 ej
      have hi2 : i < X.2 1 m 8 := by omega
      have hs := ms.sh h
      have Ms := M.sq ms
      obtain ⟨-, -, -, q10⟩ := Ms.2.2.2.2.2.1 m hm
      have m1 : Mo Sq s (a_setI s 242 i (nI (X.2 1 m (9 + i)))) := Mo.set (.inl rfl)
      have Ms1 := Ms.sq m1
      obtain ⟨-, -, -, p10⟩ := Ms1.2.2.2.2.2.1 m hm
      have m2 : Mo Sq s (a_setI (a_setI s 242 i (nI (X.2 1 m (9 + i)))) 243 i (nI (X.2 1 m (13 + i)))) := m1.then_set (.inr (.inl rfl))
      obtain ⟨σ', e, r1, r2⟩ := ih (i + 1) _ (by omega) (ms.tr m2) (by rw [a_I_off (.inl (by decide)), a_I_off (.inl (by decide))]; exact e10) (fun j hj => by
        by_cases hji : j = i
        · subst hji
          exact ⟨by rw [a_I_off (.inl (by decide))]; exact a_I_at, a_I_at⟩
        · have := ej j (by omega)
          exact ⟨by rw [a_I_off (.inl (by decide)), a_I_off (.inr hji)]; exact this.1, by rw [a_I_off (.inr hji), a_I_off (.inl (by decide))]; exact this.2⟩)
      refine ⟨σ', ?_, r1, r2⟩
      rw [b_X8_take_13 hs, e10, if_pos (nIl hi2 (by omega)), nI_add, y_ofMix (by omega) hs Ms.1 (by omega) (by omega), g_v, (q10 i hi2).1, b_X8_take_35 hs, b_gd_t (nIi (by omega) (by decide)), nIc (by omega), nI_add, y_ofMix (by omega) (m1.sh hs) Ms1.1 (by omega) (by omega), g_v, (p10 i hi2).2, b_X8_take_50 (m1.sh hs), b_gd_t (nIi (by omega) (by decide)), nIc (by omega), nI_add]
      exact e
  obtain ⟨σ', e, r1, r2⟩ := loop (X.2 1 m 8) 0 (a_setI σ 237 10 (nI (X.2 1 m 8))) (by omega) (Mo.set (.inr (.inr ⟨rfl, rfl⟩))) a_I_at (fun j hj => absurd hj (Nat.not_lt_zero _))
  refine ⟨σ', ?_, r1, r2⟩
  rw [n_X8_take (by omega), b_X8_take_0 h, y_ofMix (by omega) h M.1 (by omega) (by decide), g_v, f9, b_X8_take_8 h]
  exact e
theorem y_allParts (hd : 1 ≤ d) (h : Sh σ) {g : Nat → Nat} (T : TK σ g) (g4 : g 8 ≤ 4) : a_call a_tab P d 164 [.ref 237] σ = some (.inl (some (.int (nI (z_all g)))), σ) := by
  rw [n_X8_allParts (by omega), b_X8_allParts_0]
  have e := up_0 (run := fun i => b_R (a_call a_tab P (d - 1)) kX8_allParts [] (4, [some (.ref 237), some (.int (nI (q_s (fun i => g (13 + i)) i))), some (.int (nI i))], [], σ)) (n := g 8) fun i hi => by
    (try dsimp only)
    rw [b_X8_allParts_4 h, T.1, if_pos (nIl hi (by omega)), b_gd_t (nIi (by omega) (by decide)), nIc (by omega), (T.2 i hi).2, nI_add, nI_add]
    rfl
  have e : b_R (a_call a_tab P (d - 1)) kX8_allParts [] (4, [some (.ref 237), some (.int (nI 0)), some (.int (nI 0))], [], σ) = _ := e
  rw [e, b_X8_allParts_4 h, T.1, if_neg (nIn (Nat.le_refl _) (by omega))]
  rfl
theorem y_valueHereG (hd : 2 ≤ d) (h : Sh σ) (M : MC σ w X) (V : Vd X) {g : Nat → Nat} (G : VG X g) (T : TK σ g) {k : Nat} (hk : k < 3) : a_call a_tab P d 165 [.ref 237, .int (nI k)] σ = some (.inl (some (.int (nI (z_val X g k)))), σ) := by
  have h20 := V.1.1
  obtain ⟨g4, gtt, ha, hs⟩ := G
  have hsum := hs k hk
  rw [n_X8_valueHere (by omega), b_X8_valueHere_0]
  have e := up_0 (run := fun i => b_R (a_call a_tab P (d - 1)) kX8_valueHere [] (4, [some (.ref 237), some (.int (nI k)), some (.int (nI (q_s (fun i => g (13 + i) * X.2 0 (g (9 + i)) (8 + k)) i))), some (.int (nI i))], [], σ)) (n := g 8) fun i hi => by
    (try dsimp only)
    have gt := gtt i hi
    rw [b_X8_valueHere_4 h, T.1, if_pos (nIl hi (by omega)), b_gd_t (nIi (by omega) (by decide)), b_gd_t (nIi (by omega) (by decide)), nIc (by omega), (T.2 i hi).1, (T.2 i hi).2, y_ofTube (by omega) h M.1 (by omega) (by omega), g_v, (M.2.2.2.2.1 _ gt).1 k hk, b_X8_valueHere_30, pk_mul, nI_add, nI_add]
    rfl
  have e : b_R (a_call a_tab P (d - 1)) kX8_valueHere [] (4, [some (.ref 237), some (.int (nI k)), some (.int (nI 0)), some (.int (nI 0))], [], σ) = _ := e
  rw [e, b_X8_valueHere_4 h, T.1, if_neg (nIn (Nat.le_refl _) (by omega)), y_allParts (by omega) h T g4, g_v, b_X8_valueHere_44, show nI (q_s (fun i => g (13 + i) * X.2 0 (g (9 + i)) (8 + k)) (g 8)) = nI (z_sum X g k) from rfl, y_rounded (by omega) (by omega) (by omega) (by omega), g_v, b_X8_valueHere_47]
  rfl
theorem y_valueHere (hd : 2 ≤ d) (h : Sh σ) (M : MC σ w X) (V : Vd X) {g : Nat → Nat} (G : Vm (X.1 0) g) (T : TK σ g) {k : Nat} (hk : k < 3) : a_call a_tab P d 165 [.ref 237, .int (nI k)] σ = some (.inl (some (.int (nI (z_val X g k)))), σ) := y_valueHereG hd h M V (VG.of V G) T hk
theorem y_colourHereG (hd : 3 ≤ d) (h : Sh σ) (M : MC σ w X) (V : Vd X) {g : Nat → Nat} (G : VG X g) (T : TK σ g) : a_call a_tab P d 166 [.ref 237] σ = some (.inl (some (.int (nI (z_col X g)))), σ) := by
  rw [n_X8_colourHere (by omega), b_X8_colourHere_0 h, y_valueHereG (by omega) h M V G T (by decide), g_v, b_X8_colourHere_5 h, y_valueHereG (by omega) h M V G T (by decide), g_v, b_X8_colourHere_11 h, y_valueHereG (by omega) h M V G T (by decide), g_v, b_X8_colourHere_27, pk_mul, pk_mul, nI_add, nI_add]
  rfl
theorem y_colourHere (hd : 3 ≤ d) (h : Sh σ) (M : MC σ w X) (V : Vd X) {g : Nat → Nat} (G : Vm (X.1 0) g) (T : TK σ g) : a_call a_tab P d 166 [.ref 237] σ = some (.inl (some (.int (nI (z_col X g)))), σ) := y_colourHereG hd h M V (VG.of V G) T
theorem y_colourOf (hd : 4 ≤ d) (h : Sh σ) (M : MC σ w X) (V : Vd X) {m : Nat} (hm : m < X.1 1) : ∃ σ', a_call a_tab P d 167 [.ref 237, .int (nI m)] σ = some (.inl (some (.int (nI (z_col X (X.2 1 m))))), σ') ∧ Mo Sq σ σ' := by
  obtain ⟨s1, e1, m1, T1⟩ := y_take (P := P) (d := d - 1) (by omega) h M V hm
  refine ⟨s1, ?_, m1⟩
  rw [n_X8_colourOf (by omega), b_X8_colourOf_0 h, e1, g_n, b_X8_colourOf_5 (m1.sh h), y_colourHere (by omega) (m1.sh h) (M.sq m1) V (V.m hm) T1, g_v, b_X8_colourOf_9]
end MOE
