/-! Palette: what is asked of it -/
abbrev Pal : Type := (Nat → Nat) × (Nat → Nat → Nat → Nat)
def tv (X : Pal) (j : Nat) : Nat → Nat → Int32 := fun r k => nI (X.2 j r k)
def CP (σ : aSt) (p : Nat) (X : Pal) : Prop := Pa σ p ∧ Tv σ (p + 1) (p + 2) 13 260 (X.1 0) (tv X 0) ∧ Tv σ (p + 3) (p + 4) 17 340 (X.1 1) (tv X 1) ∧ Tv σ (p + 5) (p + 6) 4 24 (X.1 2) (tv X 2) ∧ Tv σ (p + 7) (p + 8) 4 48 (X.1 3) (tv X 3) ∧ a_I σ p 4 = nI (X.1 4) ∧ a_I σ p 5 = nI (X.1 5) ∧ a_I σ p 6 = nI (X.1 6)
/-- a name, of 1 to 8 letters, zeros behind them -/
def Vn (g : Nat → Nat) : Prop := ∃ l, 1 ≤ l ∧ l ≤ 8 ∧ (∀ k, k < l → 97 ≤ g k ∧ g k ≤ 122) ∧ ∀ k, l ≤ k → k < 8 → g k = 0
def Vt (g : Nat → Nat) : Prop := (∀ k, k < 3 → g (8 + k) ≤ 255) ∧ g 11 ≤ 9999 ∧ g 12 ≤ 1
def Vm (nt : Nat) (g : Nat → Nat) : Prop := 1 ≤ g 8 ∧ g 8 ≤ 4 ∧ (∀ i, i < g 8 → g (9 + i) < nt ∧ 1 ≤ g (13 + i) ∧ g (13 + i) ≤ 9) ∧ ∀ i, i < g 8 → ∀ j, j < g 8 → g (9 + i) = g (9 + j) → i = j
def Vd (X : Pal) : Prop := (X.1 0 ≤ 20 ∧ X.1 1 ≤ 20) ∧ (1 ≤ X.1 2 ∧ X.1 2 ≤ 6) ∧ X.1 3 ≤ 12 ∧ (1 ≤ X.1 4 ∧ X.1 4 ≤ 6) ∧ X.1 5 ≤ 99999 ∧ X.1 6 ≤ 9 ∧ (∀ t, t < X.1 0 → Vn (X.2 0 t) ∧ Vt (X.2 0 t)) ∧ (∀ m, m < X.1 1 → Vn (X.2 1 m) ∧ Vm (X.1 0) (X.2 1 m)) ∧ ∀ b, b < X.1 2 → (∀ k, k < 3 → X.2 2 b k ≤ 255) ∧ X.2 2 b 3 ≤ 3
theorem Vd.t {X : Pal} (V : Vd X) {t : Nat} (h : t < X.1 0) : Vt (X.2 0 t) := (V.2.2.2.2.2.2.1 t h).2
theorem Vd.m {X : Pal} (V : Vd X) {m : Nat} (h : m < X.1 1) : Vm (X.1 0) (X.2 1 m) := (V.2.2.2.2.2.2.2.1 m h).2
theorem Vd.b {X : Pal} (V : Vd X) {b : Nat} (h : b < X.1 2) : (∀ k, k < 3 → X.2 2 b k ≤ 255) ∧ X.2 2 b 3 ≤ 3 := V.2.2.2.2.2.2.2.2 b h
theorem CP.mo {σ σ' : aSt} {S : Nat → Nat → Prop} {p : Nat} {X : Pal} (h : CP σ p X) (m : Mo S σ σ') (hs : ∀ b k, p ≤ b → b ≤ p + 8 → ¬ S b k) : CP σ' p X :=
  ⟨m.pa h.1, h.2.1.mo m (hs _ _ (by omega) (by omega)) (hs _ _ (by omega) (by omega)) (fun k _ => hs _ _ (by omega) (by omega)), h.2.2.1.mo m (hs _ _ (by omega) (by omega)) (hs _ _ (by omega) (by omega)) (fun k _ => hs _ _ (by omega) (by omega)),
    h.2.2.2.1.mo m (hs _ _ (by omega) (by omega)) (hs _ _ (by omega) (by omega)) (fun k _ => hs _ _ (by omega) (by omega)), h.2.2.2.2.1.mo m (hs _ _ (by omega) (by omega)) (hs _ _ (by omega) (by omega)) (fun k _ => hs _ _ (by omega) (by omega)),
    by rw [m.I (hs _ _ (by omega) (by omega))]; exact h.2.2.2.2.2.1, by rw [m.I (hs _ _ (by omega) (by omega))]; exact h.2.2.2.2.2.2.1, by rw [m.I (hs _ _ (by omega) (by omega))]; exact h.2.2.2.2.2.2.2⟩
def z_1 (b : Bool) : Nat := if b then 1 else 0
theorem b_n1 (b : Bool) : b_n b = nI (z_1 b) := by cases b <;> rfl
theorem z_1le (b : Bool) : z_1 b ≤ 1 := by cases b <;> decide
def z_use (X : Pal) (t : Nat) : Bool := X.2 0 t 12 == 0
def z_inuse (X : Pal) : Nat := q_s (fun t => z_1 (z_use X t)) (X.1 0)
def z_drops (X : Pal) (b : Bool) : Nat := q_s (fun t => if b || z_use X t then X.2 0 t 11 else 0) (X.1 0)
def z_uses (g : Nat → Nat) (t : Nat) : Bool := q_any (fun i => g (9 + i) == t) (g 8)
def z_users (X : Pal) (t : Nat) : Nat := q_s (fun m => z_1 (z_uses (X.2 1 m) t)) (X.1 1)
def z_bro (X : Pal) (g : Nat → Nat) : Bool := q_any (fun i => !z_use X (g (9 + i))) (g 8)
def z_nbro (X : Pal) : Nat := q_s (fun m => z_1 (z_bro X (X.2 1 m))) (X.1 1)
def z_all (g : Nat → Nat) : Nat := q_s (fun i => g (13 + i)) (g 8)
def z_sum (X : Pal) (g : Nat → Nat) (k : Nat) : Nat := q_s (fun i => g (13 + i) * X.2 0 (g (9 + i)) (8 + k)) (g 8)
def z_rnd (s b : Nat) : Nat := (2 * s + b) / (2 * b)
def z_val (X : Pal) (g : Nat → Nat) (k : Nat) : Nat := z_rnd (z_sum X g k) (z_all g)
def z_col (X : Pal) (g : Nat → Nat) : Nat := 65536 * z_val X g 0 + 256 * z_val X g 1 + z_val X g 2
def z_sp (X : Pal) (g : Nat → Nat) (i : Nat) : Nat := X.2 0 (g (9 + i)) 11 / g (13 + i)
def z_min (f : Nat → Nat) (b : Nat) : Nat → Nat
  | 0 => b
  | n + 1 => min (z_min f b n) (f n)
def z_str (X : Pal) (g : Nat → Nat) : Nat := z_min (z_sp X g) 9999 (g 8)
def z_short (X : Pal) (g : Nat → Nat) : Nat := z_min (fun i => if z_sp X g i = z_str X g then g (9 + i) else 20) 20 (g 8)
def z_paint (X : Pal) (b : Nat) (g : Nat → Nat) (k : Nat) : Nat := z_rnd (4 * z_val X g k + X.2 2 b 3 * X.2 2 b k) (4 + X.2 2 b 3)
def z_pcol (X : Pal) (b : Nat) (g : Nat → Nat) : Nat := 65536 * z_paint X b g 0 + 256 * z_paint X b g 1 + z_paint X b g 2
theorem z_all_le {nt : Nat} {g : Nat → Nat} (V : Vm nt g) : 1 ≤ z_all g ∧ z_all g ≤ 36 := by
  obtain ⟨h1, h2, h3, -⟩ := V
  constructor
  · unfold z_all
    obtain ⟨q, hq⟩ : ∃ q, g 8 = q + 1 := ⟨g 8 - 1, by omega⟩
    rw [hq]
    show 1 ≤ q_s (fun i => g (13 + i)) q + g (13 + q)
    have := (h3 q (by omega)).2.1
    omega
  · have := q_s_le (f := fun i => g (13 + i)) (b := 9) (n := g 8) fun i hi => (h3 i hi).2.2
    have h4 : g 8 * 9 ≤ 4 * 9 := Nat.mul_le_mul_right 9 h2
    unfold z_all
    omega
theorem z_rnd_le {s b m : Nat} (h0 : 0 < b) (h : s ≤ m * b) : z_rnd s b ≤ m := by
  unfold z_rnd
  refine Nat.le_of_lt_succ ((Nat.div_lt_iff_lt_mul (by omega)).mpr ?_)
  have e : (m + 1) * (2 * b) = 2 * (m * b) + 2 * b := by rw [Nat.add_mul, Nat.one_mul, ← Nat.mul_assoc, Nat.mul_comm m 2, Nat.mul_assoc]
  show 2 * s + b < (m + 1) * (2 * b)
  rw [e]
  omega
theorem q_s_mono {f g : Nat → Nat} : ∀ {n : Nat}, (∀ i, i < n → f i ≤ g i) → q_s f n ≤ q_s g n
  | 0, _ => Nat.le_refl _
  | n + 1, h => Nat.add_le_add (q_s_mono fun i hi => h i (by omega)) (h n (by omega))
theorem q_s_mul (f : Nat → Nat) (c : Nat) : ∀ n, q_s (fun i => f i * c) n = q_s f n * c
  | 0 => (Nat.zero_mul c).symm
  | n + 1 => by
    show q_s (fun i => f i * c) n + f n * c = (q_s f n + f n) * c
    rw [q_s_mul f c n, Nat.add_mul]
theorem z_sum_le {X : Pal} {g : Nat → Nat} (V : Vd X) (M : Vm (X.1 0) g) {k : Nat} (hk : k < 3) : z_sum X g k ≤ 255 * z_all g := by
  unfold z_sum z_all
  rw [Nat.mul_comm, ← q_s_mul]
  exact q_s_mono fun i hi => Nat.mul_le_mul_left _ ((V.t (M.2.2.1 i hi).1).1 k hk)
theorem z_val_le {X : Pal} {g : Nat → Nat} (V : Vd X) (M : Vm (X.1 0) g) {k : Nat} (hk : k < 3) : z_val X g k ≤ 255 := z_rnd_le (z_all_le M).1 (z_sum_le V M hk)
theorem z_min_le {f : Nat → Nat} {b : Nat} : ∀ n, z_min f b n ≤ b
  | 0 => Nat.le_refl _
  | n + 1 => Nat.le_trans (Nat.min_le_left _ _) (z_min_le n)
section STAT
variable {P : aCall} {d : Nat} {σ : aSt}
theorem s_rounded (hd : 1 ≤ d) {s b : Nat} (h0 : 0 < b) (hb : 2 * s + b < 2147483648) (hb2 : 2 * b < 2147483648) : a_call a_tab P d 142 [.int (nI s), .int (nI b)] σ = some (.inl (some (.int (nI (z_rnd s b)))), σ) := by
  rw [n_X7_rounded hd, b_X7_rounded_0, if_pos (by rw [← nI_0]; exact nIl h0 (by omega)), pk_mul, pk_mul, nI_add, b_gd_t (show nI (2 * b) ≠ 0 from nI_ne0 (by omega) hb2), pk_div hb (by omega) hb2, b_X7_rounded_17]
  rfl
end STAT
section PAL
variable {P : aCall} {d : Nat} {σ : aSt} {p : Nat} {X : Pal}
theorem s_isInUse (hd : 2 ≤ d) (C : CP σ p X) (V : Vd X) {t : Nat} (ht : t < X.1 0) : a_call a_tab P d 36 [.ref p, .int (nI t)] σ = some (.inl (some (.int (b_n (z_use X t)))), σ) := by
  rw [n_X1_isInUse (by omega), b_X1_isInUse_0 C.1, s_get (by omega) C.2.1 ht (by decide), g_v, b_X1_isInUse_10]
  have h1 := (V.t ht).2.2
  unfold z_use tv
  by_cases h : X.2 0 t 12 = 0
  · rw [h, if_pos (by decide), b_X1_isInUse_18]
    exact b_gd_t (by decide)
  · rw [if_neg (fun z : nI (X.2 0 t 12) = 0 => h ((nI_eq (by omega) (by decide)).mp z)), b_X1_isInUse_18, beq_false_of_ne h]
    exact b_gd_t (by decide)
theorem s_tubesInUse (hd : 3 ≤ d) (C : CP σ p X) (V : Vd X) : a_call a_tab P d 37 [.ref p] σ = some (.inl (some (.int (nI (z_inuse X)))), σ) := by
  have h20 := V.1.1
  rw [n_X1_tubesInUse (by omega), b_X1_tubesInUse_0]
  refine (up_0 (run := fun i => b_R (a_call a_tab P (d - 1)) kX1_tubesInUse [] (4, [some (.ref p), some (.int (nI (q_s (fun t => z_1 (z_use X t)) i))), some (.int (nI i))], [], σ)) (n := X.1 0) fun i hi => ?_).trans ?_
  · (try dsimp only)
    rw [b_X1_tubesInUse_4 C.1, C.2.1.2.2.1, if_pos (nIl hi (by omega)), s_isInUse (by omega) C V hi, g_v, b_X1_tubesInUse_21]
    cases h : z_use X i with
    | true =>
      rw [if_neg (by decide), b_X1_tubesInUse_29, nI_add, nI_add]
      show _ = b_R (a_call a_tab P (d - 1)) kX1_tubesInUse [] (4, [some (.ref p), some (.int (nI (q_s (fun t => z_1 (z_use X t)) i + z_1 (z_use X i)))), some (.int (nI (i + 1)))], [], σ)
      rw [h]; rfl
    | false =>
      rw [if_pos (by decide), b_X1_tubesInUse_29, nI_add, nI_add]
      show _ = b_R (a_call a_tab P (d - 1)) kX1_tubesInUse [] (4, [some (.ref p), some (.int (nI (q_s (fun t => z_1 (z_use X t)) i + z_1 (z_use X i)))), some (.int (nI (i + 1)))], [], σ)
      rw [h]; rfl
  · (try dsimp only)
    rw [b_X1_tubesInUse_4 C.1, C.2.1.2.2.1, if_neg (nIn (Nat.le_refl _) (by omega))]
    rfl
theorem s_dropsLeft (hd : 3 ≤ d) (C : CP σ p X) (V : Vd X) {b : Bool} : a_call a_tab P d 38 [.ref p, .int (b_n b)] σ = some (.inl (some (.int (nI (z_drops X b)))), σ) := by
  have h20 := V.1.1
  rw [n_X1_dropsLeft (by omega), b_X1_dropsLeft_0]
  refine (up_0 (run := fun i => b_R (a_call a_tab P (d - 1)) kX1_dropsLeft [] (4, [some (.ref p), some (.int (b_n b)), some (.int (nI (q_s (fun t => if b || z_use X t then X.2 0 t 11 else 0) i))), some (.int (nI i))], [], σ)) (n := X.1 0) fun i hi => ?_).trans ?_
  · (try dsimp only)
    rw [b_X1_dropsLeft_4 C.1, C.2.1.2.2.1, if_pos (nIl hi (by omega))]
    show _ = b_R (a_call a_tab P (d - 1)) kX1_dropsLeft [] (4, [some (.ref p), some (.int (b_n b)), some (.int (nI (q_s (fun t => if b || z_use X t then X.2 0 t 11 else 0) i + (if b || z_use X i then X.2 0 i 11 else 0)))), some (.int (nI (i + 1)))], [], σ)
    cases b with
    | true =>
      rw [if_neg (by decide), b_X1_dropsLeft_27 C.1, s_get (by omega) C.2.1 hi (by decide), g_v, b_X1_dropsLeft_38, b_X1_dropsLeft_40, tv, nI_add, nI_add]
      rfl
    | false =>
      rw [if_pos (by decide), s_isInUse (by omega) C V hi, g_v, b_X1_dropsLeft_24]
      cases h : z_use X i with
      | true =>
        rw [if_neg (by decide), b_X1_dropsLeft_27 C.1, s_get (by omega) C.2.1 hi (by decide), g_v, b_X1_dropsLeft_38, b_X1_dropsLeft_40, tv, nI_add, nI_add]
        rfl
      | false =>
        rw [if_pos (by decide), b_X1_dropsLeft_40, nI_add]
        rfl
  · (try dsimp only)
    rw [b_X1_dropsLeft_4 C.1, C.2.1.2.2.1, if_neg (nIn (Nat.le_refl _) (by omega))]
    rfl
theorem s_uses (hd : 2 ≤ d) {t c N n : Nat} {h : Nat → Nat → Nat} (T : Tv σ t c 17 N n (fun r k => nI (h r k))) {r tb : Nat} (hr : r < n) (h4 : h r 8 ≤ 4) (hb : ∀ i, i < h r 8 → h r (9 + i) < 2147483648) (htb : tb < 2147483648) : a_call a_tab P d 39 [.ref p, .ref t, .int (nI r), .int (nI tb)] σ = some (.inl (some (.int (b_n (z_uses (h r) tb)))), σ) := by
  rw [n_X1_uses (by omega), b_X1_uses_0 T.1, s_get (by omega) T hr (by decide), g_v, b_X1_uses_7]
  rcases up_ex (run := fun i (_ : Unit) => b_R (a_call a_tab P (d - 1)) kX1_uses [] (12, [some (.ref p), some (.ref t), some (.int (nI r)), some (.int (nI tb)), some (.int (nI (h r 8))), some (.int (nI i))], [], σ)) (n := h r 8) (I := fun i _ => ∀ k, k < i → (h r (9 + k) == tb) = false) (E := fun z => (∃ k, k < h r 8 ∧ (h r (9 + k) == tb) = true) ∧ z = some (.inl (some (.int (nI 1))), σ))
    (fun i s hi hI => by
      (try dsimp only)
      rw [b_X1_uses_12 T.1, if_pos (nIl hi (by omega)), nI_add, s_get (by omega) T hr (by omega), g_v, b_X1_uses_29]
      by_cases he : h r (9 + i) = tb
      · exact .inr ⟨⟨i, hi, beq_iff_eq.mpr he⟩, by rw [he, if_pos rfl]⟩
      · refine .inl ⟨(), fun k hk => ?_, by rw [if_neg (fun z => he ((nI_eq (hb i hi) htb).mp z)), nI_add]⟩
        by_cases hk2 : k = i
        · subst hk2; exact beq_false_of_ne he
        · exact hI k (by omega)) (h r 8) 0 () (by omega) (fun k hk => by omega) with ⟨_, hI, e⟩ | ⟨⟨k, hk, hne⟩, e⟩
  · refine e.trans ?_
    (try dsimp only)
    rw [b_X1_uses_12 T.1, if_neg (nIn (Nat.le_refl _) (by omega)), show z_uses (h r) tb = false from q_any_no.mpr hI]
    rfl
  · refine e.trans ?_
    rw [show z_uses (h r) tb = true from q_any_iff.mpr ⟨k, hk, hne⟩]
    rfl
theorem s_usersOf (hd : 3 ≤ d) (C : CP σ p X) (V : Vd X) {t : Nat} (ht : t < 2147483648) : a_call a_tab P d 40 [.ref p, .int (nI t)] σ = some (.inl (some (.int (nI (z_users X t)))), σ) := by
  have h20 := V.1
  rw [n_X1_usersOf (by omega), b_X1_usersOf_0]
  refine (up_0 (run := fun i => b_R (a_call a_tab P (d - 1)) kX1_usersOf [] (4, [some (.ref p), some (.int (nI t)), some (.int (nI (q_s (fun m => z_1 (z_uses (X.2 1 m) t)) i))), some (.int (nI i))], [], σ)) (n := X.1 1) fun i hi => ?_).trans ?_
  · (try dsimp only)
    have M := V.m hi
    rw [b_X1_usersOf_4 C.1, C.2.2.1.2.2.1, if_pos (nIl hi (by omega)), s_uses (by omega) (h := X.2 1) C.2.2.1 hi M.2.1 (fun k hk => by have := (M.2.2.1 k hk).1; omega) ht, g_v, b_X1_usersOf_26]
    show _ = b_R (a_call a_tab P (d - 1)) kX1_usersOf [] (4, [some (.ref p), some (.int (nI t)), some (.int (nI (q_s (fun m => z_1 (z_uses (X.2 1 m) t)) i + z_1 (z_uses (X.2 1 i) t)))), some (.int (nI (i + 1)))], [], σ)
    cases h : z_uses (X.2 1 i) t with
    | true => rw [if_neg (by decide), b_X1_usersOf_34, nI_add, nI_add]; rfl
    | false => rw [if_pos (by decide), b_X1_usersOf_34, nI_add, nI_add]; rfl
  · (try dsimp only)
    rw [b_X1_usersOf_4 C.1, C.2.2.1.2.2.1, if_neg (nIn (Nat.le_refl _) (by omega))]
    rfl
theorem s_isBroken (hd : 3 ≤ d) (C : CP σ p X) (V : Vd X) {m : Nat} (hm : m < X.1 1) : a_call a_tab P d 41 [.ref p, .int (nI m)] σ = some (.inl (some (.int (b_n (z_bro X (X.2 1 m))))), σ) := by
  have M := V.m hm
  rw [n_X1_isBroken (by omega), b_X1_isBroken_0 C.1, s_get (by omega) C.2.2.1 hm (by decide), g_v, b_X1_isBroken_10, tv]
  rcases up_ex (run := fun i (_ : Unit) => b_R (a_call a_tab P (d - 1)) kX1_isBroken [] (13, [some (.ref p), some (.int (nI m)), some (.int (nI (X.2 1 m 8))), some (.int (nI i))], [], σ)) (n := X.2 1 m 8) (I := fun i _ => ∀ k, k < i → (!z_use X (X.2 1 m (9 + k))) = false) (E := fun z => (∃ k, k < X.2 1 m 8 ∧ (!z_use X (X.2 1 m (9 + k))) = true) ∧ z = some (.inl (some (.int (nI 1))), σ))
    (fun i s hi hI => by
      (try dsimp only)
      rw [b_X1_isBroken_13 C.1, if_pos (nIl hi (by have := M.2.1; omega)), nI_add, s_get (by omega) C.2.2.1 hm (by have := M.2.1; omega), g_v, b_X1_isBroken_31 C.1, tv, s_isInUse (by omega) C V (M.2.2.1 i hi).1, g_v, b_X1_isBroken_34]
      cases he : z_use X (X.2 1 m (9 + i)) with
      | false => exact .inr ⟨⟨i, hi, by rw [he]; rfl⟩, by rw [if_pos (by decide)]⟩
      | true =>
        refine .inl ⟨(), fun k hk => ?_, by rw [if_neg (by decide), nI_add]⟩
        by_cases hk2 : k = i
        · subst hk2; rw [he]; rfl
        · exact hI k (by omega)) (X.2 1 m 8) 0 () (by omega) (fun k hk => by omega) with ⟨_, hI, e⟩ | ⟨⟨k, hk, hne⟩, e⟩
  · refine e.trans ?_
    (try dsimp only)
    rw [b_X1_isBroken_13 C.1, if_neg (nIn (Nat.le_refl _) (by have := M.2.1; omega)), show z_bro X (X.2 1 m) = false from q_any_no.mpr hI]
    rfl
  · refine e.trans ?_
    rw [show z_bro X (X.2 1 m) = true from q_any_iff.mpr ⟨k, hk, hne⟩]
    rfl
theorem s_brokenMixes (hd : 4 ≤ d) (C : CP σ p X) (V : Vd X) : a_call a_tab P d 42 [.ref p] σ = some (.inl (some (.int (nI (z_nbro X)))), σ) := by
  have h20 := V.1
  rw [n_X1_brokenMixes (by omega), b_X1_brokenMixes_0]
  refine (up_0 (run := fun i => b_R (a_call a_tab P (d - 1)) kX1_brokenMixes [] (4, [some (.ref p), some (.int (nI (q_s (fun m => z_1 (z_bro X (X.2 1 m))) i))), some (.int (nI i))], [], σ)) (n := X.1 1) fun i hi => ?_).trans ?_
  · (try dsimp only)
    rw [b_X1_brokenMixes_4 C.1, C.2.2.1.2.2.1, if_pos (nIl hi (by omega)), s_isBroken (by omega) C V hi, g_v, b_X1_brokenMixes_21]
    show _ = b_R (a_call a_tab P (d - 1)) kX1_brokenMixes [] (4, [some (.ref p), some (.int (nI (q_s (fun m => z_1 (z_bro X (X.2 1 m))) i + z_1 (z_bro X (X.2 1 i))))), some (.int (nI (i + 1)))], [], σ)
    cases h : z_bro X (X.2 1 i) with
    | true => rw [if_neg (by decide), b_X1_brokenMixes_29, nI_add, nI_add]; rfl
    | false => rw [if_pos (by decide), b_X1_brokenMixes_29, nI_add, nI_add]; rfl
  · (try dsimp only)
    rw [b_X1_brokenMixes_4 C.1, C.2.2.1.2.2.1, if_neg (nIn (Nat.le_refl _) (by omega))]
    rfl
theorem s_partsOf (hd : 2 ≤ d) (C : CP σ p X) (V : Vd X) {m : Nat} (hm : m < X.1 1) : a_call a_tab P d 43 [.ref p, .int (nI m)] σ = some (.inl (some (.int (nI (z_all (X.2 1 m))))), σ) := by
  have M := V.m hm
  rw [n_X1_partsOf (by omega), b_X1_partsOf_0 C.1, s_get (by omega) C.2.2.1 hm (by decide), g_v, b_X1_partsOf_12, tv]
  refine (up_0 (run := fun i => b_R (a_call a_tab P (d - 1)) kX1_partsOf [] (16, [some (.ref p), some (.int (nI m)), some (.int (nI (q_s (fun i => X.2 1 m (13 + i)) i))), some (.int (nI (X.2 1 m 8))), some (.int (nI i))], [], σ)) (n := X.2 1 m 8) fun i hi => ?_).trans ?_
  · (try dsimp only)
    rw [b_X1_partsOf_16 C.1, if_pos (nIl hi (by have := M.2.1; omega)), nI_add, s_get (by omega) C.2.2.1 hm (by have := M.2.1; omega), g_v, b_X1_partsOf_36, tv, nI_add, nI_add]
    rfl
  · (try dsimp only)
    rw [b_X1_partsOf_16 C.1, if_neg (nIn (Nat.le_refl _) (by have := M.2.1; omega))]
    rfl
theorem s_valueOf (hd : 2 ≤ d) (C : CP σ p X) (V : Vd X) {t c N n : Nat} {h : Nat → Nat → Nat} (T : Tv σ t c 17 N n (fun r k => nI (h r k))) {r k : Nat} (hr : r < n) (M : Vm (X.1 0) (h r)) (hk : k < 3) : a_call a_tab P d 44 [.ref p, .ref t, .int (nI r), .int (nI k)] σ = some (.inl (some (.int (nI (z_val X (h r) k)))), σ) := by
  have h4 := M.2.1
  rw [n_X1_valueOf (by omega), b_X1_valueOf_0 T.1, s_get (by omega) T hr (by decide), g_v, b_X1_valueOf_13]
  obtain ⟨o, -, e⟩ := up_st0 (run := fun i o => b_R (a_call a_tab P (d - 1)) kX1_valueOf [] (18, [some (.ref p), some (.ref t), some (.int (nI r)), some (.int (nI k)), some (.int (nI (q_s (fun i => h r (13 + i) * X.2 0 (h r (9 + i)) (8 + k)) i))), some (.int (nI (q_s (fun i => h r (13 + i)) i))), some (.int (nI (h r 8))), some (.int (nI i)), o], [], σ)) (n := h r 8) (s := none) (fun _ _ => True) trivial (fun i o hi _ => ⟨some (.int (nI (h r (13 + i)))), trivial, by
    (try dsimp only)
    rw [b_X1_valueOf_18 T.1, if_pos (nIl hi (by omega)), nI_add, s_get (by omega) T hr (by omega), g_v, b_X1_valueOf_35 C.1 T.1, nI_add, s_get (by omega) T hr (by omega), g_v, b_X1_valueOf_55 C.1, nI_add, s_get (by omega) C.2.1 (M.2.2.1 i hi).1 (by omega), g_v, b_X1_valueOf_62, tv, pk_mul, nI_add, nI_add, nI_add]
    rfl⟩)
  refine e.trans ?_
  have h1 := z_all_le M
  have h2 := z_sum_le V M hk
  (try dsimp only)
  rw [b_X1_valueOf_18 T.1, if_neg (nIn (Nat.le_refl _) (by omega))]
  show b_G (a_call a_tab P (d - 1)) kX1_valueOf [] 83 86 _ [] (a_call a_tab P (d - 1) 142 [.int (nI (z_sum X (h r) k)), .int (nI (z_all (h r)))] σ) = _
  rw [s_rounded (by omega) (by omega) (by omega) (by omega), g_v, b_X1_valueOf_86]
  rfl
theorem s_colourOf (hd : 3 ≤ d) (C : CP σ p X) (V : Vd X) {t c N n : Nat} {h : Nat → Nat → Nat} (T : Tv σ t c 17 N n (fun r k => nI (h r k))) {r : Nat} (hr : r < n) (M : Vm (X.1 0) (h r)) : a_call a_tab P d 45 [.ref p, .ref t, .int (nI r)] σ = some (.inl (some (.int (nI (z_col X (h r))))), σ) := by
  rw [n_X1_colourOf (by omega), b_X1_colourOf_0]
  have step : ∀ k s, k < 3 → b_R (a_call a_tab P (d - 1)) kX1_colourOf [] (5, [some (.ref p), some (.ref t), some (.int (nI r)), some (.int (nI s)), some (.int (nI k))], [], σ) = b_R (a_call a_tab P (d - 1)) kX1_colourOf [] (5, [some (.ref p), some (.ref t), some (.int (nI r)), some (.int (nI (256 * s + z_val X (h r) k))), some (.int (nI (k + 1)))], [], σ) := fun k s hk => by
    rw [b_X1_colourOf_5 C.1, if_pos (nIl hk (by omega)), s_valueOf (by omega) C V T hr M hk, g_v, b_X1_colourOf_24, pk_mul, nI_add, nI_add]
  rw [step 0 0 (by decide), step 1 _ (by decide), step 2 _ (by decide), b_X1_colourOf_5 C.1, if_neg (by decide)]
  unfold z_col
  have e : 256 * (256 * (256 * 0 + z_val X (h r) 0) + z_val X (h r) 1) + z_val X (h r) 2 = 65536 * z_val X (h r) 0 + 256 * z_val X (h r) 1 + z_val X (h r) 2 := by omega
  rw [e]
theorem s_strokesOfPart (hd : 2 ≤ d) (C : CP σ p X) (V : Vd X) {m i : Nat} (hm : m < X.1 1) (hi : i < X.2 1 m 8) : a_call a_tab P d 46 [.ref p, .int (nI m), .int (nI i)] σ = some (.inl (some (.int (nI (z_sp X (X.2 1 m) i)))), σ) := by
  have M := V.m hm
  have h4 := M.2.1
  obtain ⟨m1, m2, m3⟩ := M.2.2.1 i hi
  have h9 := (V.t m1).2.1
  rw [n_X1_strokesOfPart (by omega), b_X1_strokesOfPart_0 C.1, nI_add, s_get (by omega) C.2.2.1 hm (by omega), g_v, b_X1_strokesOfPart_12 C.1, tv, if_pos (by rw [← nI_0]; exact nIl m2 (by omega)), nI_add, s_get (by omega) C.2.2.1 hm (by omega), g_v, b_X1_strokesOfPart_37 C.1, tv,
    s_get (by omega) C.2.1 m1 (by decide), g_v, b_X1_strokesOfPart_42, b_gd_t (nI_ne0 (by omega) (by omega)), tv, pk_div (by omega) (by omega) (by omega), b_X1_strokesOfPart_44]
  rfl
theorem s_strokesLeft (H : Pm P) (hd : 3 ≤ d) (C : CP σ p X) (V : Vd X) {m : Nat} (hm : m < X.1 1) : a_call a_tab P d 47 [.ref p, .int (nI m)] σ = some (.inl (some (.int (nI (z_str X (X.2 1 m))))), σ) := by
  have M := V.m hm
  have h4 := M.2.1
  rw [n_X1_strokesLeft (by omega), b_X1_strokesLeft_0 C.1, s_get (by omega) C.2.2.1 hm (by decide), g_v, b_X1_strokesLeft_14, tv]
  refine (up_0 (run := fun i => b_R (a_call a_tab P (d - 1)) kX1_strokesLeft [] (18, [some (.ref p), some (.int (nI m)), some (.int (nI (z_min (z_sp X (X.2 1 m)) 9999 i))), some (.int (nI (X.2 1 m 8))), some (.int (nI i))], [], σ)) (n := X.2 1 m 8) fun i hi => ?_).trans ?_
  · (try dsimp only)
    have h5 : z_sp X (X.2 1 m) i ≤ 9999 := Nat.le_trans (Nat.div_le_self _ _) (V.t (M.2.2.1 i hi).1).2.1
    have h6 : z_min (z_sp X (X.2 1 m)) 9999 i ≤ 9999 := z_min_le i
    rw [b_X1_strokesLeft_18 C.1, if_pos (nIl hi (by omega)), s_strokesOfPart (by omega) C V hm hi, g_v, b_X1_strokesLeft_32, s_minN H (by omega) (by omega), g_v, b_X1_strokesLeft_35, nI_add]
    rfl
  · (try dsimp only)
    rw [b_X1_strokesLeft_18 C.1, if_neg (nIn (Nat.le_refl _) (by omega))]
    rfl
theorem s_tubeUsedUpFirst (H : Pm P) (hd : 4 ≤ d) (C : CP σ p X) (V : Vd X) {m : Nat} (hm : m < X.1 1) : a_call a_tab P d 48 [.ref p, .int (nI m)] σ = some (.inl (some (.int (nI (z_short X (X.2 1 m))))), σ) := by
  have M := V.m hm
  have h4 := M.2.1
  have h20 := V.1.1
  have hs : z_str X (X.2 1 m) ≤ 9999 := z_min_le _
  rw [n_X1_tubeUsedUpFirst (by omega), b_X1_tubeUsedUpFirst_0 C.1, s_strokesLeft H (by omega) C V hm, g_v, b_X1_tubeUsedUpFirst_5 C.1, s_get (by omega) C.2.2.1 hm (by decide), g_v, b_X1_tubeUsedUpFirst_19, tv]
  refine (up_0 (run := fun i => b_R (a_call a_tab P (d - 1)) kX1_tubeUsedUpFirst [] (24, [some (.ref p), some (.int (nI m)), some (.int (nI (z_str X (X.2 1 m)))), some (.int (nI (z_min (fun i => if z_sp X (X.2 1 m) i = z_str X (X.2 1 m) then X.2 1 m (9 + i) else 20) 20 i))), some (.int (nI (X.2 1 m 8))), some (.int (nI i))], [], σ)) (n := X.2 1 m 8) fun i hi => ?_).trans ?_
  · (try dsimp only)
    have m1 := (M.2.2.1 i hi).1
    have h5 : z_sp X (X.2 1 m) i ≤ 9999 := Nat.le_trans (Nat.div_le_self _ _) (V.t m1).2.1
    have h6 : z_min (fun i => if z_sp X (X.2 1 m) i = z_str X (X.2 1 m) then X.2 1 m (9 + i) else 20) 20 i ≤ 20 := z_min_le i
    rw [b_X1_tubeUsedUpFirst_24 C.1, if_pos (nIl hi (by omega)), s_strokesOfPart (by omega) C V hm hi, g_v, b_X1_tubeUsedUpFirst_38 C.1]
    show _ = b_R (a_call a_tab P (d - 1)) kX1_tubeUsedUpFirst [] (24, [some (.ref p), some (.int (nI m)), some (.int (nI (z_str X (X.2 1 m)))), some (.int (nI (min (z_min (fun i => if z_sp X (X.2 1 m) i = z_str X (X.2 1 m) then X.2 1 m (9 + i) else 20) 20 i) (if z_sp X (X.2 1 m) i = z_str X (X.2 1 m) then X.2 1 m (9 + i) else 20)))), some (.int (nI (X.2 1 m 8))), some (.int (nI (i + 1)))], [], σ)
    by_cases he : z_sp X (X.2 1 m) i = z_str X (X.2 1 m)
    · rw [if_pos (congrArg nI he), nI_add, s_get (by omega) C.2.2.1 hm (by omega), g_v, b_X1_tubeUsedUpFirst_56, tv, s_minN H (by omega) (by omega), g_v, b_X1_tubeUsedUpFirst_59, b_X1_tubeUsedUpFirst_60, nI_add, if_pos he]
    · rw [if_neg (fun z => he ((nI_eq (by omega) (by omega)).mp z)), b_X1_tubeUsedUpFirst_60, nI_add, if_neg he, Nat.min_eq_left h6]
  · (try dsimp only)
    rw [b_X1_tubeUsedUpFirst_24 C.1, if_neg (nIn (Nat.le_refl _) (by omega))]
    rfl
theorem s_paintedColour (hd : 3 ≤ d) (C : CP σ p X) (V : Vd X) {b m : Nat} (hb : b < X.1 2) (hm : m < X.1 1) : a_call a_tab P d 49 [.ref p, .int (nI b), .int (nI m)] σ = some (.inl (some (.int (nI (z_pcol X b (X.2 1 m))))), σ) := by
  have M := V.m hm
  obtain ⟨B1, B2⟩ := V.b hb
  rw [n_X1_paintedColour (by omega), b_X1_paintedColour_0 C.1, s_get (by omega) C.2.2.2.1 hb (by decide), g_v, b_X1_paintedColour_9, tv]
  have step : ∀ k s o, k < 3 → ∃ o', b_R (a_call a_tab P (d - 1)) kX1_paintedColour [] (16, [some (.ref p), some (.int (nI b)), some (.int (nI m)), some (.int (nI (X.2 2 b 3))), some (.int (nI s)), some (.int (nI k)), o], [], σ) = b_R (a_call a_tab P (d - 1)) kX1_paintedColour [] (16, [some (.ref p), some (.int (nI b)), some (.int (nI m)), some (.int (nI (X.2 2 b 3))), some (.int (nI (256 * s + z_paint X b (X.2 1 m) k))), some (.int (nI (k + 1))), o'], [], σ) := fun k s o hk => by
    have h1 := z_val_le V M hk
    have h2 := B1 k hk
    have h3 : X.2 2 b 3 * X.2 2 b k ≤ 3 * 255 := Nat.mul_le_mul B2 h2
    refine ⟨some (.int (nI (4 * z_val X (X.2 1 m) k + X.2 2 b 3 * X.2 2 b k))), ?_⟩
    rw [b_X1_paintedColour_16 C.1, if_pos (nIl hk (by omega)), s_valueOf (by omega) C V (h := X.2 1) C.2.2.1 hm M hk, g_v, b_X1_paintedColour_34 C.1, pk_mul, s_get (by omega) C.2.2.2.1 hb (by omega), g_v, b_X1_paintedColour_46, tv, pk_mul, nI_add, pk_mul, nI_add, s_rounded (by omega) (by omega) (by omega) (by omega), g_v, b_X1_paintedColour_64, nI_add, nI_add]
    rfl
  obtain ⟨o1, e1⟩ := step 0 0 none (by decide)
  obtain ⟨o2, e2⟩ := step 1 (256 * 0 + z_paint X b (X.2 1 m) 0) o1 (by decide)
  obtain ⟨o3, e3⟩ := step 2 (256 * (256 * 0 + z_paint X b (X.2 1 m) 0) + z_paint X b (X.2 1 m) 1) o2 (by decide)
  rw [e1, e2, e3, b_X1_paintedColour_16 C.1, if_neg (by decide)]
  unfold z_pcol
  have e : 256 * (256 * (256 * 0 + z_paint X b (X.2 1 m) 0) + z_paint X b (X.2 1 m) 1) + z_paint X b (X.2 1 m) 2 = 65536 * z_paint X b (X.2 1 m) 0 + 256 * z_paint X b (X.2 1 m) 1 + z_paint X b (X.2 1 m) 2 := by omega
  rw [e]
end PAL
