/-! the model: more questions -/
theorem Sq.sm (b k : Nat) (h : Sq b k) : SM b k := by unfold Sq at h; unfold SM; omega
theorem Sq.n6 {σ σ' : aSt} (m : Mo Sq σ σ') : a_I σ' 237 6 = a_I σ 237 6 := m.I (by unfold Sq; omega)
/-- where the law asks no more than whether it threw -/
def o_1 (r : Nat ⊕ Int32) : Nat ⊕ Int32 := match r with | .inl _ => .inl 0 | .inr v => .inr v
theorem z_len_aux {g : Nat → Nat} {l : Nat} (h1 : ∀ k, k < l → 97 ≤ g k ∧ g k ≤ 122) (h2 : ∀ k, l ≤ k → k < 8 → g k = 0) : ∀ n, n ≤ 8 → q_s (fun k => z_1 (g k != 0)) n = min n l
  | 0, _ => (Nat.zero_min l).symm
  | n + 1, hn => by
    show q_s (fun k => z_1 (g k != 0)) n + z_1 (g n != 0) = _
    rw [z_len_aux h1 h2 n (by omega)]
    by_cases hl : n < l
    · have := (h1 n hl).1
      rw [show (g n != 0) = true from bne_iff_ne.mpr (by omega)]
      show min n l + 1 = _
      omega
    · rw [h2 n (by omega) (by omega)]
      show min n l + 0 = _
      omega
theorem z_len_of {g : Nat → Nat} {l : Nat} (h0 : l ≤ 8) (h1 : ∀ k, k < l → 97 ≤ g k ∧ g k ≤ 122) (h2 : ∀ k, l ≤ k → k < 8 → g k = 0) : z_len g = l := by
  unfold z_len
  rw [z_len_aux h1 h2 8 (Nat.le_refl _)]
  omega
theorem z_vn {g : Nat → Nat} (h : Vn g) : 1 ≤ z_len g ∧ z_len g ≤ 8 ∧ (∀ k, k < z_len g → 97 ≤ g k ∧ g k ≤ 122) ∧ ∀ k, z_len g ≤ k → k < 8 → g k = 0 := by
  obtain ⟨l, a1, a2, a3, a4⟩ := h
  rw [z_len_of a2 a3 a4]
  exact ⟨a1, a2, a3, a4⟩
section MOR
variable {P : aCall} {d : Nat} {σ : aSt} {X : Pal} {w : Nat} {x y z : Int32}
theorem y_mix (hd : 5 ≤ d) (h : Sh σ) (M : MC σ w X) (V : Vd X) : OM (a_call a_tab P d 180 [.ref 237, .int x, .int y] σ) σ (o_mix X x y) := by
  have h20 := V.1.2
  obtain ⟨t, rfl, ht⟩ := o_ex x
  obtain ⟨k, rfl, hk⟩ := o_ex y
  have h1 := fun v => (Mo.s6 (σ := σ) (v := v)).sh h
  have M1 : MC (a_setI σ 237 6 (nI 0)) w X := M.sm Mo.s6
  unfold o_mix
  rw [ht, hk, n_X8_mix (by omega), b_X8_mix_0 h, y_isMix (by omega) h M V, g_v, b_X8_mix_6, ht]
  by_cases c1 : t < X.1 1
  · rw [if_pos c1, decide_eq_true c1, if_neg (show ¬ b_n true = 0 by decide)]
    by_cases c2 : k < 6
    · rw [if_pos c2, y_whatT (by omega) (by decide) c2, g_v, b_X8_mix_15, if_neg (by decide), b_X8_mix_23 h, y_lacksT (by omega) h, g_v, b_X8_mix_26 (h1 _), if_pos (show nI 0 = 0 from rfl)]
      obtain ⟨s1, e1, m1, T1⟩ := y_take (P := P) (d := d - 1) (by omega) (h1 (nI 0)) M1 V c1
      have M2 := M1.sq m1
      have h2 := m1.sh (h1 (nI 0))
      have G := V.m c1
      refine ⟨s1, ?_, Mo.s6.tr (m1.mono Sq.sm), by rw [Sq.n6 m1]; exact a_I_at⟩
      rw [e1, g_n, b_X8_mix_36 h2]
      unfold z_mix
      by_cases k3 : k < 3
      · rw [if_pos (nIl k3 (by decide)), y_valueHere (by omega) h2 M2 V G T1 k3, g_v, b_X8_mix_46, b_X8_mix_86, if_neg (by omega), if_neg (by omega), if_neg (by omega)]
      · rw [if_neg (nIn (by omega) (by omega))]
        obtain rfl | rfl | rfl : k = 3 ∨ k = 4 ∨ k = 5 := by omega
        · rw [if_pos rfl, T1.1, b_X8_mix_86]; rfl
        · rw [if_neg (show ¬ nI 4 = nI 3 by decide), if_pos rfl, y_allParts (by omega) h2 T1 G.2.1, g_v, b_X8_mix_70, b_X8_mix_86]; rfl
        · rw [if_neg (show ¬ nI 5 = nI 3 by decide), if_neg (show ¬ nI 5 = nI 4 by decide), y_isBroken (by omega) h2 M2 V c1, g_v, b_X8_mix_78, b_X8_mix_86, b_X8_mix_86]
          show _ = some ((.inl (some (.int (nI (z_1 (z_bro X (X.2 1 t)))))) : aRes), s1)
          cases z_bro X (X.2 1 t) with
          | true => rw [if_neg (by decide)]; rfl
          | false => rw [if_pos (by decide)]; rfl
    · rw [if_neg c2, y_whatF (by omega) (by decide) hk c2, g_v, b_X8_mix_15, if_pos (by decide), b_X8_mix_22, b_X8_mix_23 h, y_lacksF (by omega) h, g_v, b_X8_mix_26 (h1 _), if_neg (by decide)]
      exact ⟨_, rfl, Mo.s6, a_I_at⟩
  · rw [if_neg c1, decide_eq_false c1, if_pos (show b_n false = 0 by decide), b_X8_mix_22, b_X8_mix_23 h, y_lacksF (by omega) h, g_v, b_X8_mix_26 (h1 _), if_neg (by decide)]
    exact ⟨_, rfl, Mo.s6, a_I_at⟩
theorem y_partOf {b : Bool} (hd : 5 ≤ d) (h : Sh σ) (M : MC σ w X) (V : Vd X) : OM (a_call a_tab P d 181 [.ref 237, .int x, .int y, .int (b_n b)] σ) σ (o_partOf X x y b) := by
  have h20 := V.1.2
  obtain ⟨t, rfl, ht⟩ := o_ex x
  obtain ⟨k, rfl, hk⟩ := o_ex y
  have h1 := fun v => (Mo.s6 (σ := σ) (v := v)).sh h
  have M1 : MC (a_setI σ 237 6 (nI 0)) w X := M.sm Mo.s6
  unfold o_partOf
  rw [ht, hk, n_X8_partOf (by omega), b_X8_partOf_0 h, y_isMix (by omega) h M V, g_v, b_X8_partOf_6 h, ht]
  by_cases c1 : t < X.1 1
  · have G := V.m c1
    have g4 := G.2.1
    obtain ⟨-, -, f9, -⟩ := M.2.2.2.2.2.1 t c1
    rw [if_pos c1, decide_eq_true c1, if_neg (show ¬ b_n true = 0 by decide), y_ofMix (by omega) h M.1 (by omega) (by omega), g_v, f9, b_X8_partOf_18, y_inI (by omega) (by omega), g_v, b_X8_partOf_23, hk]
    by_cases c2 : k < X.2 1 t 8
    · obtain ⟨-, -, -, f10⟩ := M1.2.2.2.2.2.1 t c1
      rw [if_pos c2, decide_eq_true c2, if_neg (show ¬ b_n true = 0 by decide), b_X8_partOf_31 h, y_lacksT (by omega) h, g_v, b_X8_partOf_34, if_pos (show nI 0 = 0 from rfl)]
      refine ⟨a_setI σ 237 6 (nI 0), ?_, Mo.s6, a_I_at⟩
      cases b with
      | true => rw [if_neg (show ¬ b_n true = 0 by decide), b_X8_partOf_52 (h1 _), nI_add, y_ofMix (by omega) (h1 _) M1.1 (by omega) (by omega), g_v, b_X8_partOf_57, (f10 k c2).2]; rfl
      | false => rw [if_pos (show b_n false = 0 by decide), b_X8_partOf_52 (h1 _), nI_add, y_ofMix (by omega) (h1 _) M1.1 (by omega) (by omega), g_v, b_X8_partOf_57, (f10 k c2).1]; rfl
    · rw [if_neg c2, decide_eq_false c2, if_pos (show b_n false = 0 by decide), b_X8_partOf_30, b_X8_partOf_31 h, y_lacksF (by omega) h, g_v, b_X8_partOf_34, if_neg (show ¬ nI 1 = 0 by decide)]
      exact ⟨_, rfl, Mo.s6, a_I_at⟩
  · rw [if_neg c1, decide_eq_false c1, if_pos (show b_n false = 0 by decide), b_X8_partOf_30, b_X8_partOf_31 h, y_lacksF (by omega) h, g_v, b_X8_partOf_34, if_neg (show ¬ nI 1 = 0 by decide)]
    exact ⟨_, rfl, Mo.s6, a_I_at⟩
theorem y_letter {b : Bool} (hd : 5 ≤ d) (h : Sh σ) (M : MC σ w X) (V : Vd X) : OM (a_call a_tab P d 182 [.ref 237, .int (b_n b), .int x, .int y] σ) σ (o_letter X b x y) := by
  have h20 := V.1
  obtain ⟨t, rfl, ht⟩ := o_ex x
  obtain ⟨k, rfl, hk⟩ := o_ex y
  have h1 := fun v => (Mo.s6 (σ := σ) (v := v)).sh h
  have M1 : MC (a_setI σ 237 6 (nI 0)) w X := M.sm Mo.s6
  have e0 : a_call a_tab P d 182 [.ref 237, .int (b_n b), .int (nI t), .int (nI k)] σ = b_R (a_call a_tab P (d - 1)) kX8_letter [] (18, [some (.ref 237), some (.int (b_n b)), some (.int (nI t)), some (.int (nI k)), none], [.int (b_n (decide (t < X.1 (if b then 1 else 0)))), .ref 237], σ) := by
    rw [n_X8_letter (by omega), b_X8_letter_0 h]
    cases b with
    | true => rw [if_neg (show ¬ b_n true = 0 by decide), y_isMix (by omega) h M V, g_v, b_X8_letter_10, ht]; rfl
    | false => rw [if_pos (show b_n false = 0 by decide), y_isTube (by omega) h M V, g_v, ht]; rfl
  unfold o_letter
  rw [ht, hk, e0]
  by_cases c1 : t < X.1 (if b then 1 else 0)
  · rw [if_pos c1, decide_eq_true c1, b_X8_letter_18 h, show b_n true = nI 1 from rfl, y_lacksT (by omega) h, g_v, b_X8_letter_21, if_pos (show nI 0 = 0 from rfl)]
    refine ⟨a_setI σ 237 6 (nI 0), ?_, Mo.s6, a_I_at⟩
    have fin : ∀ (at0 : Nat) (g : Nat → Nat), Vn g → at0 + 8 < 720 → a_I (a_setI σ 237 6 (nI 0)) w at0 = nI (z_len g) → (∀ j, j < z_len g → a_I (a_setI σ 237 6 (nI 0)) w (at0 + 1 + j) = nI (g j)) → b_R (a_call a_tab P (d - 1)) kX8_letter [] (52, [some (.ref 237), some (.int (b_n b)), some (.int (nI t)), some (.int (nI k)), none], [.int (nI at0)], a_setI σ 237 6 (nI 0)) = some (.inl (some (.int (if k < 8 then (if g k = 0 then -1 else nI (g k)) else -1))), a_setI σ 237 6 (nI 0)) := by
      intro at0 g hg ha e1 e2
      obtain ⟨a1, a2, a3, a4⟩ := z_vn hg
      rw [b_X8_letter_52 (h1 _) M1.1, b_gd_t (nIi (by omega) (by decide)), nIc (by omega), e1, y_inI (by omega) (by omega), g_v, b_X8_letter_68 (h1 _) M1.1, hk, b_X8_letter_86]
      by_cases c3 : k < z_len g
      · have := a3 k c3
        rw [decide_eq_true c3, if_neg (show ¬ b_n true = 0 by decide), nI_add, nI_add, b_gd_t (nIi (by omega) (by decide)), nIc (by omega), e2 k c3, b_X8_letter_86, if_pos (by omega), if_neg (by omega)]
      · rw [decide_eq_false c3, if_pos (show b_n false = 0 by decide)]
        by_cases c4 : k < 8
        · rw [if_pos c4, if_pos (a4 k (by omega) c4)]
        · rw [if_neg c4]
    cases b with
    | true =>
      obtain ⟨f0, f1, -⟩ := M1.2.2.2.2.2.1 t c1
      have c1' : t < X.1 1 := c1
      have q := fin (288 + 18 * t + 0) (X.2 1 t) (V.2.2.2.2.2.2.2.1 t c1).1 (by omega) f0 (fun j hj => by rw [show 288 + 18 * t + 0 + 1 + j = 288 + 18 * t + (1 + j) by omega]; exact f1 j hj)
      rw [if_neg (show ¬ b_n true = 0 by decide), pk_mul, nI_add, nI_add]
      exact q
    | false =>
      obtain ⟨-, -, -, f5, f6⟩ := M1.2.2.2.2.1 t c1
      have c1' : t < X.1 0 := c1
      have q := fin (8 + 14 * t + 5) (X.2 0 t) (V.2.2.2.2.2.2.1 t c1).1 (by omega) f5 (fun j hj => by rw [show 8 + 14 * t + 5 + 1 + j = 8 + 14 * t + (6 + j) by omega]; exact f6 j hj)
      rw [if_pos (show b_n false = 0 by decide), pk_mul, nI_add, nI_add]
      exact q
  · rw [if_neg c1, decide_eq_false c1, b_X8_letter_18 h, show b_n false = nI 0 from rfl, y_lacksF (by omega) h, g_v, b_X8_letter_21, if_neg (show ¬ nI 1 = 0 by decide)]
    exact ⟨_, rfl, Mo.s6, a_I_at⟩
theorem y_apart (hd : 5 ≤ d) (h : Sh σ) : OM (a_call a_tab P d 183 [.ref 237, .int x, .int y] σ) σ (o_1 (o_apart x y)) := by
  obtain ⟨t, rfl, ht⟩ := o_ex x
  obtain ⟨k, rfl, hk⟩ := o_ex y
  unfold o_apart
  rw [ht, hk, n_X8_apart (by omega), b_X8_apart_0, y_isColour (by omega), g_v, b_X8_apart_5, ht]
  by_cases c1 : t ≤ 16777215
  · rw [if_pos c1, decide_eq_true c1, if_neg (show ¬ b_n true = 0 by decide), y_isColour (by omega), g_v, b_X8_apart_12, hk]
    by_cases c2 : k ≤ 16777215
    · rw [if_pos c2, decide_eq_true c2, if_neg (show ¬ b_n true = 0 by decide), b_X8_apart_20 h, y_lacksT (by omega) h, g_v, b_X8_apart_23, if_pos (show nI 0 = 0 from rfl), y_far (by omega) c1 c2, g_v, b_X8_apart_35]
      exact ⟨_, rfl, Mo.s6, a_I_at⟩
    · rw [if_neg c2, decide_eq_false c2, if_pos (show b_n false = 0 by decide), b_X8_apart_19, b_X8_apart_20 h, y_lacksF (by omega) h, g_v, b_X8_apart_23, if_neg (show ¬ nI 1 = 0 by decide), b_X8_apart_35]
      exact ⟨_, rfl, Mo.s6, a_I_at⟩
  · rw [if_neg c1, decide_eq_false c1, if_pos (show b_n false = 0 by decide), b_X8_apart_19, b_X8_apart_20 h, y_lacksF (by omega) h, g_v, b_X8_apart_23, if_neg (show ¬ nI 1 = 0 by decide), b_X8_apart_35]
    exact ⟨_, rfl, Mo.s6, a_I_at⟩
end MOR
