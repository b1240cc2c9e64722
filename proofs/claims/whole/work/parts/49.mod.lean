/-! the model: the row of cells, and what is read off it -/
/-- the letters of a name -/
def z_len (g : Nat → Nat) : Nat := q_s (fun k => z_1 (g k != 0)) 8
/-- the cells F hold the palette X -/
def MP (F : Nat → Int32) (X : Pal) : Prop := (F 0 = nI (X.1 0) ∧ F 1 = nI (X.1 1) ∧ F 2 = nI (X.1 2) ∧ F 3 = nI (X.1 4) ∧ F 4 = nI (X.1 5) ∧ F 5 = nI (X.1 6) ∧ F 6 = nI (X.1 3)) ∧
  (∀ t, t < X.1 0 → (∀ k, k < 3 → F (8 + 14 * t + k) = nI (X.2 0 t (8 + k))) ∧ F (8 + 14 * t + 3) = nI (X.2 0 t 11) ∧ F (8 + 14 * t + 4) = nI (z_1 (z_use X t)) ∧ F (8 + 14 * t + 5) = nI (z_len (X.2 0 t)) ∧ ∀ k, k < z_len (X.2 0 t) → F (8 + 14 * t + (6 + k)) = nI (X.2 0 t k)) ∧
  (∀ m, m < X.1 1 → F (288 + 18 * m + 0) = nI (z_len (X.2 1 m)) ∧ (∀ k, k < z_len (X.2 1 m) → F (288 + 18 * m + (1 + k)) = nI (X.2 1 m k)) ∧ F (288 + 18 * m + 9) = nI (X.2 1 m 8) ∧ ∀ i, i < X.2 1 m 8 → F (288 + 18 * m + (10 + i)) = nI (X.2 1 m (9 + i)) ∧ F (288 + 18 * m + (14 + i)) = nI (X.2 1 m (13 + i))) ∧
  (∀ b, b < X.1 2 → ∀ k, k < 4 → F (648 + 4 * b + k) = nI (X.2 2 b k)) ∧
  (∀ g, g < X.1 3 → ∀ k, k < 4 → F (672 + 4 * g + k) = nI (X.2 3 g k))
/-- the model looks at the row w, and it holds X -/
def MC (σ : aSt) (w : Nat) (X : Pal) : Prop := Rw σ w ∧ w ≠ 237 ∧ (w = 238 ∨ w = 239) ∧ MP (a_I σ w) X
theorem MC.mo {σ σ' : aSt} {w : Nat} {X : Pal} {S : Nat → Nat → Prop} (M : MC σ w X) (m : Mo S σ σ') (hS : ∀ k, ¬ S w k) : MC σ' w X := by
  obtain ⟨a1, a2, a3, a4⟩ := M
  refine ⟨m.rw a1, a2, a3, ?_⟩
  have e : a_I σ' w = a_I σ w := funext fun k => m.I (hS k)
  rw [e]
  exact a4
section MOD
variable {P : aCall} {d : Nat} {σ : aSt} {X : Pal} {w : Nat} {x : Int32}
theorem y_ofTube (hd : 1 ≤ d) (h : Sh σ) (hw : Rw σ w) {t k : Nat} (ht : t < 20) (hk : k < 14) : a_call a_tab P d 153 [.ref 237, .int (nI t), .int (nI k)] σ = some (.inl (some (.int (a_I σ w (8 + 14 * t + k)))), σ) := by
  rw [n_X8_ofTube (by omega), b_X8_ofTube_0 h hw, pk_mul, nI_add, nI_add, b_gd_t (nIi (by omega) (by decide)), nIc (by omega)]
theorem y_ofMix (hd : 1 ≤ d) (h : Sh σ) (hw : Rw σ w) {t k : Nat} (ht : t < 20) (hk : k < 18) : a_call a_tab P d 155 [.ref 237, .int (nI t), .int (nI k)] σ = some (.inl (some (.int (a_I σ w (288 + 18 * t + k)))), σ) := by
  rw [n_X8_ofMix (by omega), b_X8_ofMix_0 h hw, pk_mul, nI_add, nI_add, b_gd_t (nIi (by omega) (by decide)), nIc (by omega)]
theorem y_ofBrush (hd : 1 ≤ d) (h : Sh σ) (hw : Rw σ w) {t k : Nat} (ht : t < 6) (hk : k < 4) : a_call a_tab P d 157 [.ref 237, .int (nI t), .int (nI k)] σ = some (.inl (some (.int (a_I σ w (648 + 4 * t + k)))), σ) := by
  rw [n_X8_ofBrush (by omega), b_X8_ofBrush_0 h hw, pk_mul, nI_add, nI_add, b_gd_t (nIi (by omega) (by decide)), nIc (by omega)]
theorem y_layTube (hd : 1 ≤ d) (h : Sh σ) (hw : Rw σ w) {t k : Nat} {v : Int32} (ht : t < 20) (hk : k < 14) : a_call a_tab P d 154 [.ref 237, .int (nI t), .int (nI k), .int v] σ = some (.inl none, a_setI σ w (8 + 14 * t + k) v) := by
  rw [n_X8_layTube (by omega), b_X8_layTube_0 h hw, pk_mul, nI_add, nI_add, b_gd_t (nIi (by omega) (by decide)), nIc (by omega)]
theorem y_layMix (hd : 1 ≤ d) (h : Sh σ) (hw : Rw σ w) {t k : Nat} {v : Int32} (ht : t < 20) (hk : k < 18) : a_call a_tab P d 156 [.ref 237, .int (nI t), .int (nI k), .int v] σ = some (.inl none, a_setI σ w (288 + 18 * t + k) v) := by
  rw [n_X8_layMix (by omega), b_X8_layMix_0 h hw, pk_mul, nI_add, nI_add, b_gd_t (nIi (by omega) (by decide)), nIc (by omega)]
theorem y_layBrush (hd : 1 ≤ d) (h : Sh σ) (hw : Rw σ w) {t k : Nat} {v : Int32} (ht : t < 6) (hk : k < 4) : a_call a_tab P d 158 [.ref 237, .int (nI t), .int (nI k), .int v] σ = some (.inl none, a_setI σ w (648 + 4 * t + k) v) := by
  rw [n_X8_layBrush (by omega), b_X8_layBrush_0 h hw, pk_mul, nI_add, nI_add, b_gd_t (nIi (by omega) (by decide)), nIc (by omega)]
theorem y_inR (hd : 1 ≤ d) {lo hi : Nat} (hl : lo < 2147483648) (hh : hi < 2147483648) : a_call a_tab P d 147 [.int x, .int (nI lo), .int (nI hi)] σ = some (.inl (some (.int (b_n (decide (lo ≤ o_nat x ∧ o_nat x ≤ hi))))), σ) := by
  rw [n_X8_inRange (by omega), b_X8_inRange_0, b_X8_inRange_14, b_X8_inRange_15, b_X8_inRange_15, b_gd_t (by decide), b_gd_t (by decide)]
  by_cases h1 : lo ≤ o_nat x ∧ o_nat x ≤ hi
  · rw [decide_eq_true h1, if_neg (fun z => by rw [o_lt x hl] at z; omega), if_neg (fun z => by rw [o_gt x hh] at z; omega)]
    rfl
  · rw [decide_eq_false h1]
    by_cases h0 : x < nI lo
    · rw [if_pos h0]
      rfl
    · rw [if_neg h0, if_pos ((o_gt x hh).mpr (by rw [o_lt x hl] at h0; omega))]
      rfl
theorem y_inI (hd : 1 ≤ d) {n : Nat} (hn : n < 2147483648) : a_call a_tab P d 147 [.int x, .int (nI 0), .int (nI n - nI 1)] σ = some (.inl (some (.int (b_n (decide (o_nat x < n))))), σ) := by
  cases n with
  | zero =>
    rw [n_X8_inRange (by omega), b_X8_inRange_0, b_X8_inRange_14, b_X8_inRange_15, b_gd_t (by decide), decide_eq_false (Nat.not_lt_zero _)]
    by_cases h0 : x < nI 0
    · rw [if_pos h0]
      rfl
    · rw [if_neg h0, if_pos]
      · rfl
      · rw [show (nI 0 - nI 1 : Int32) = -1 from rfl, Int32.lt_iff_toInt_lt, show (-1 : Int32).toInt = -1 from rfl, o_int x]
        rw [o_lt x (by decide)] at h0
        split <;> omega
  | succ n =>
    rw [nI_s1, y_inR hd (by decide) (by omega)]
    rw [show decide (0 ≤ o_nat x ∧ o_nat x ≤ n) = decide (o_nat x < n + 1) from by
      by_cases h : o_nat x < n + 1
      · rw [decide_eq_true h, decide_eq_true ⟨Nat.zero_le _, by omega⟩]
      · rw [decide_eq_false h, decide_eq_false fun z => h (by omega)]]
theorem bz_b (b : Bool) : b_n b = 0 ∨ b_n b = 1 := b_n_or b
theorem y_isTube (hd : 2 ≤ d) (h : Sh σ) (M : MC σ w X) (V : Vd X) : a_call a_tab P d 149 [.ref 237, .int x] σ = some (.inl (some (.int (b_n (decide (o_nat x < X.1 0))))), σ) := by
  have := V.1.1
  rw [n_X8_isTube (by omega), b_X8_isTube_0 h M.1, b_gd_t (nIi (by decide) (by decide)), show a_I σ w (Int32.toNatClampNeg (nI 0)) = nI (X.1 0) from M.2.2.2.1.1, y_inI (by omega) (by omega), g_v, b_X8_isTube_13, b_gd_t (bz_b _)]
theorem y_isMix (hd : 2 ≤ d) (h : Sh σ) (M : MC σ w X) (V : Vd X) : a_call a_tab P d 150 [.ref 237, .int x] σ = some (.inl (some (.int (b_n (decide (o_nat x < X.1 1))))), σ) := by
  have := V.1.2
  rw [n_X8_isMix (by omega), b_X8_isMix_0 h M.1, b_gd_t (nIi (by decide) (by decide)), show a_I σ w (Int32.toNatClampNeg (nI 1)) = nI (X.1 1) from M.2.2.2.1.2.1, y_inI (by omega) (by omega), g_v, b_X8_isMix_13, b_gd_t (bz_b _)]
theorem y_isBrush (hd : 2 ≤ d) (h : Sh σ) (M : MC σ w X) (V : Vd X) : a_call a_tab P d 151 [.ref 237, .int x] σ = some (.inl (some (.int (b_n (decide (o_nat x < X.1 2))))), σ) := by
  have := V.2.1.2
  rw [n_X8_isBrush (by omega), b_X8_isBrush_0 h M.1, b_gd_t (nIi (by decide) (by decide)), show a_I σ w (Int32.toNatClampNeg (nI 2)) = nI (X.1 2) from M.2.2.2.1.2.2.1, y_inI (by omega) (by omega), g_v, b_X8_isBrush_13, b_gd_t (bz_b _)]
theorem y_isColour (hd : 2 ≤ d) : a_call a_tab P d 152 [.int x] σ = some (.inl (some (.int (b_n (decide (o_nat x ≤ 16777215))))), σ) := by
  rw [n_X8_isColour (by omega), b_X8_isColour_0, y_inR (by omega) (by decide) (by decide), g_v, b_X8_isColour_7, b_gd_t (bz_b _), show decide (0 ≤ o_nat x ∧ o_nat x ≤ 16777215) = decide (o_nat x ≤ 16777215) from by
    by_cases h : o_nat x ≤ 16777215
    · rw [decide_eq_true h, decide_eq_true ⟨Nat.zero_le _, h⟩]
    · rw [decide_eq_false h, decide_eq_false fun z => h z.2]]
theorem y_lacks (hd : 1 ≤ d) (h : Sh σ) {b : Bool} : a_call a_tab P d 148 [.ref 237, .int (b_n b)] σ = some (.inl (some (.int (b_n (!b)))), a_setI σ 237 6 (b_n (!b))) := by
  rw [n_X8_lacks (by omega), b_X8_lacks_0]
  cases b with
  | true => rw [if_neg (by decide), b_X8_lacks_10 h, if_neg (by decide), b_X8_lacks_22, b_gd_t (by decide)]; rfl
  | false => rw [if_pos (by decide), b_X8_lacks_10 h, if_pos (by decide), b_X8_lacks_22, b_gd_t (by decide)]; rfl
theorem y_raise (hd : 1 ≤ d) (h : Sh σ) : a_call a_tab P d 146 [.ref 237, .int x] σ = some (.inl (some (.int (nI 0))), a_setI σ 237 6 x) := by
  rw [n_X8_raise (by omega), b_X8_raise_0 h]
theorem y_rounded (hd : 1 ≤ d) {s b : Nat} (h0 : 0 < b) (hb : 2 * s + b < 2147483648) (hb2 : 2 * b < 2147483648) : a_call a_tab P d 159 [.int (nI s), .int (nI b)] σ = some (.inl (some (.int (nI (z_rnd s b)))), σ) := by
  rw [n_X8_rounded (by omega), b_X8_rounded_0, pk_mul, pk_mul, nI_add, b_gd_t (p := nI (2 * b) ≠ 0) (fun z => by have := (o_eq0 (by omega)).mp z; omega), pk_div (by omega) (by omega) (by omega)]
  rfl
end MOD
