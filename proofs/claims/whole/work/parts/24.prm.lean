/-! the given members, as they are used; the texts; the text builder -/
def q_txt : Nat → List Nat
  | 1 => [112, 97, 108, 101, 116, 116, 101]
  | 2 => [116, 117, 98, 101]
  | 3 => [98, 114, 117, 115, 104, 101, 115]
  | 4 => [109, 111, 115, 116]
  | 5 => [116, 111, 108, 101, 114, 97, 110, 99, 101]
  | 6 => [109, 105, 120]
  | 7 => [109, 97, 110, 121]
  | 8 => [102, 105, 114, 115, 116]
  | 9 => [97, 110, 100]
  | 10 => [111, 114]
  | 11 => [110, 111, 116]
  | 12 => [116, 117, 98, 101, 115]
  | 13 => [112, 97, 114, 116, 115]
  | 14 => [114, 101, 100]
  | 15 => [103, 114, 101, 101, 110]
  | 16 => [98, 108, 117, 101]
  | 17 => [98, 114, 111, 107, 101, 110]
  | 18 => [115, 116, 114, 111, 107, 101, 115]
  | _ => []
def a_cpy (σ : aSt) (a b n : Nat) : aSt := (σ.1, fun c j => if c = b ∧ j < n then σ.2.1 a j else σ.2.1 c j, σ.2.2)
def a_fil (σ : aSt) (a : Nat) (v : Int32) : aSt := (σ.1, fun c j => if c = a then v else σ.2.1 c j, σ.2.2)
theorem a_I_cpy {σ : aSt} {a b n c j : Nat} : a_I (a_cpy σ a b n) c j = if c = b ∧ j < n then a_I σ a j else a_I σ c j := rfl
theorem a_I_fil {σ : aSt} {a c j : Nat} {v : Int32} : a_I (a_fil σ a v) c j = if c = a then v else a_I σ c j := rfl
def q_cmp (x y : Int32) : Int32 := if x < y then -1 else if x = y then 0 else 1
/-- the number of ones among the lowest 20 -/
def q_bits (n : Nat) : Nat := q_s (fun i => (n >>> i) % 2) 20
/-- the text builder at 235 holds n letters f -/
def Sb (σ : aSt) (n : Nat) (f : Nat → Nat) : Prop := ∃ b m, a_R σ 235 0 = some b ∧ a_kd σ b = 7 ∧ (b = 236 ∨ 253 ≤ b) ∧ b < a_n σ ∧ a_ln σ b = m ∧ 16 ≤ m ∧ m ≤ 102 ∧ n ≤ m ∧ a_I σ 235 3 = nI n ∧ a_I σ 235 1 = 0 ∧ ∀ j, j < n → f j < 128 ∧ a_I σ b j = nI (f j)
/-- what a call of the text builder leaves as it was -/
def Ms (σ σ' : aSt) : Prop := (∀ b, b < 253 → b ≠ 236 → σ'.1 b = σ.1 b ∧ (b ≠ 235 → ∀ k, a_I σ' b k = a_I σ b k ∧ a_R σ' b k = a_R σ b k)) ∧ (∀ k, k ≠ 0 → a_R σ' 235 k = a_R σ 235 k) ∧ (∀ b k, a_L σ' b k = a_L σ b k) ∧ a_n σ ≤ a_n σ' ∧ a_uc σ' ≤ a_uc σ + 1 ∧ a_us σ' ≤ a_us σ + 102
def Pm (P : aCall) : Prop :=
  (∀ (x y : Int32) σ, P 1000 [.int x, .int y] σ = some (.inl (some (.int (if x ≤ y then x else y))), σ)) ∧
  (∀ (x y : Int64) σ, P 1001 [.long x, .long y] σ = some (.inl (some (.long (if x ≤ y then x else y))), σ)) ∧
  (∀ (x y : Int32) σ, P 1002 [.int x, .int y] σ = some (.inl (some (.int (if y ≤ x then x else y))), σ)) ∧
  (∀ (x y : Int32) σ, P 1003 [.int x, .int y] σ = some (.inl (some (.int (q_cmp x y))), σ)) ∧
  (∀ x σ, ∃ v, P 1004 [.int x] σ = some (.inl (some (.int v)), σ) ∧ ∀ n, n < 1048576 → x = nI n → v = nI (q_bits n)) ∧
  (∀ a b n σ, a_kd σ a = 1 → a_kd σ b = 1 → 100 ≤ a → 100 ≤ b → a ≠ b → n ≤ a_ln σ a → n ≤ a_ln σ b → n < 2147483648 → P 1005 [.ref a, .int (nI 0), .ref b, .int (nI 0), .int (nI n)] σ = some (.inl none, a_cpy σ a b n)) ∧
  (∀ a v σ, a_kd σ a = 1 → 100 ≤ a → a_ln σ a ≤ 65536 → P 1006 [.ref a, .int v] σ = some (.inl none, a_fil σ a v)) ∧
  (∀ s σ, 1 ≤ s → s ≤ 18 → a_kd σ s = 6 → P 1007 [.ref s] σ = some (.inl (some (.int (nI (q_txt s).length))), σ)) ∧
  (∀ s i σ, 1 ≤ s → s ≤ 18 → a_kd σ s = 6 → i < (q_txt s).length → P 1008 [.ref s, .int (nI i)] σ = some (.inl (some (.int (nI ((q_txt s).getD i 0)))), σ)) ∧
  (∀ σ n f, Sh σ → Sb σ n f → ∃ σ', P 1015 [.ref 235, .int (nI 0)] σ = some (.inl none, σ') ∧ Sb σ' 0 f ∧ Ms σ σ') ∧
  (∀ σ n f c, Sh σ → Sb σ n f → c < 128 → n < 50 → ∃ σ', P 1011 [.ref 235, .int (nI c)] σ = some (.inl (some (.ref 235)), σ') ∧ Sb σ' (n + 1) (fun j => if j = n then c else f j) ∧ Ms σ σ') ∧
  (∀ σ n f v, Sh σ → Sb σ n f → v < 10 → n < 50 → ∃ σ', P 1012 [.ref 235, .int (nI v)] σ = some (.inl (some (.ref 235)), σ') ∧ Sb σ' (n + 1) (fun j => if j = n then 48 + v else f j) ∧ Ms σ σ') ∧
  (∀ σ n f, Sh σ → Sb σ n f → P 1013 [.ref 235] σ = some (.inl (some (.int (nI n))), σ)) ∧
  (∀ σ n f i, Sh σ → Sb σ n f → i < n → P 1014 [.ref 235, .int (nI i)] σ = some (.inl (some (.int (nI (f i)))), σ))
section PRM
variable {P : aCall} {d : Nat} {σ : aSt}
theorem cl_P {k : Nat} {as : List Value} (h : a_tab k = none) : a_call a_tab P d k as σ = P k as σ := e_callP0 h
theorem s_min (H : Pm P) {x y : Int32} : a_call a_tab P d 1000 [.int x, .int y] σ = some (.inl (some (.int (if x ≤ y then x else y))), σ) := (cl_P rfl).trans (H.1 x y σ)
theorem s_minN (H : Pm P) {a b : Nat} (ha : a < 2147483648) (hb : b < 2147483648) : a_call a_tab P d 1000 [.int (nI a), .int (nI b)] σ = some (.inl (some (.int (nI (min a b)))), σ) := by
  rw [s_min H]
  by_cases h : a ≤ b
  · rw [if_pos (nI_le h hb), Nat.min_eq_left h]
  · rw [if_neg (nI_ge (Nat.lt_of_not_le h) ha), Nat.min_eq_right (by omega)]
theorem s_minL (H : Pm P) {x y : Int64} : a_call a_tab P d 1001 [.long x, .long y] σ = some (.inl (some (.long (if x ≤ y then x else y))), σ) := (cl_P rfl).trans (H.2.1 x y σ)
theorem s_max (H : Pm P) {x y : Int32} : a_call a_tab P d 1002 [.int x, .int y] σ = some (.inl (some (.int (if y ≤ x then x else y))), σ) := (cl_P rfl).trans (H.2.2.1 x y σ)
theorem s_maxN (H : Pm P) {a b : Nat} (ha : a < 2147483648) (hb : b < 2147483648) : a_call a_tab P d 1002 [.int (nI a), .int (nI b)] σ = some (.inl (some (.int (nI (max a b)))), σ) := by
  rw [s_max H]
  by_cases h : b ≤ a
  · rw [if_pos (nI_le h ha), Nat.max_eq_left h]
  · rw [if_neg (nI_ge (Nat.lt_of_not_le h) hb), Nat.max_eq_right (by omega)]
theorem s_cmp (H : Pm P) {x y : Int32} : a_call a_tab P d 1003 [.int x, .int y] σ = some (.inl (some (.int (q_cmp x y))), σ) := (cl_P rfl).trans (H.2.2.2.1 x y σ)
theorem s_bits (H : Pm P) {n : Nat} (hn : n < 1048576) : a_call a_tab P d 1004 [.int (nI n)] σ = some (.inl (some (.int (nI (q_bits n)))), σ) := by
  obtain ⟨v, e, h⟩ := H.2.2.2.2.1 (nI n) σ
  rw [← h n hn rfl]
  exact (cl_P rfl).trans e
theorem s_bitsT (H : Pm P) (x : Int32) : ∃ v, a_call a_tab P d 1004 [.int x] σ = some (.inl (some (.int v)), σ) := by
  obtain ⟨v, e, -⟩ := H.2.2.2.2.1 x σ
  exact ⟨v, (cl_P rfl).trans e⟩
theorem s_acopy (H : Pm P) {a b n : Nat} (h1 : a_kd σ a = 1) (h2 : a_kd σ b = 1) (h3 : 100 ≤ a) (h4 : 100 ≤ b) (h5 : a ≠ b) (h6 : n ≤ a_ln σ a) (h7 : n ≤ a_ln σ b) (h8 : n < 2147483648) : a_call a_tab P d 1005 [.ref a, .int (nI 0), .ref b, .int (nI 0), .int (nI n)] σ = some (.inl none, a_cpy σ a b n) := (cl_P rfl).trans (H.2.2.2.2.2.1 a b n σ h1 h2 h3 h4 h5 h6 h7 h8)
theorem s_fill (H : Pm P) {a : Nat} {v : Int32} (h1 : a_kd σ a = 1) (h2 : 100 ≤ a) (h3 : a_ln σ a ≤ 65536) : a_call a_tab P d 1006 [.ref a, .int v] σ = some (.inl none, a_fil σ a v) := (cl_P rfl).trans (H.2.2.2.2.2.2.1 a v σ h1 h2 h3)
theorem s_slen (H : Pm P) {s : Nat} (h1 : 1 ≤ s) (h2 : s ≤ 18) (h3 : a_kd σ s = 6) : a_call a_tab P d 1007 [.ref s] σ = some (.inl (some (.int (nI (q_txt s).length))), σ) := (cl_P rfl).trans (H.2.2.2.2.2.2.2.1 s σ h1 h2 h3)
theorem s_schar (H : Pm P) {s i : Nat} (h1 : 1 ≤ s) (h2 : s ≤ 18) (h3 : a_kd σ s = 6) (h4 : i < (q_txt s).length) : a_call a_tab P d 1008 [.ref s, .int (nI i)] σ = some (.inl (some (.int (nI ((q_txt s).getD i 0)))), σ) := (cl_P rfl).trans (H.2.2.2.2.2.2.2.2.1 s i σ h1 h2 h3 h4)
end PRM
