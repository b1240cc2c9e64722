/-! PaletteTubes: what the calls ask of their arguments, and the questions -/
def o_nat (x : Int32) : Nat := x.toBitVec.toNat
theorem o_nI (x : Int32) : nI (o_nat x) = x := i_nat x
theorem o_ex (x : Int32) : ∃ t, x = nI t ∧ o_nat x = t := ⟨o_nat x, (o_nI x).symm, rfl⟩
theorem o_int (x : Int32) : x.toInt = if o_nat x < 2147483648 then (o_nat x : Int) else (o_nat x : Int) - 4294967296 := by
  show x.toBitVec.toInt = _
  rw [BitVec.toInt_eq_toNat_cond]
  unfold o_nat
  have : x.toBitVec.toNat < 2 ^ 32 := x.toBitVec.isLt
  split <;> split <;> omega
theorem o_of {n : Nat} (h : n < 4294967296) : o_nat (nI n) = n := by
  show (BitVec.ofNat 32 n).toNat = n
  rw [BitVec.toNat_ofNat]
  exact Nat.mod_eq_of_lt h
theorem o_lt (x : Int32) {n : Nat} (hn : n < 2147483648) : x < nI n ↔ (o_nat x < n ∨ 2147483648 ≤ o_nat x) := by
  rw [Int32.lt_iff_toInt_lt, o_int x, o_int (nI n), o_of (by omega), if_pos hn]
  have : o_nat x < 2 ^ 32 := x.toBitVec.isLt
  split <;> omega
theorem o_gt (x : Int32) {n : Nat} (hn : n < 2147483648) : nI n < x ↔ (n < o_nat x ∧ o_nat x < 2147483648) := by
  rw [Int32.lt_iff_toInt_lt, o_int x, o_int (nI n), o_of (by omega), if_pos hn]
  have : o_nat x < 2 ^ 32 := x.toBitVec.isLt
  split <;> omega
theorem o_eq {a b : Nat} (ha : a < 4294967296) (hb : b < 4294967296) : nI a = nI b ↔ a = b := ⟨fun z => by rw [← o_of ha, z, o_of hb], fun z => by rw [z]⟩
theorem o_eq0 {a : Nat} (ha : a < 4294967296) : nI a = 0 ↔ a = 0 := o_eq ha (by decide)
theorem o_neg (x : Int32) : x < 0 ↔ 2147483648 ≤ o_nat x := by
  rw [show (0 : Int32) = nI 0 from rfl, o_lt x (by decide)]
  omega
/-- how a question ends: with an answer (the search's cells may change), or thrown -/
def OQ (c : Option (aRes × aSt)) (σ : aSt) (r : Nat ⊕ Int32) : Prop := match r with
  | .inl x => c = some (.inr x, a_made σ)
  | .inr v => ∃ σ', Mo Ss σ σ' ∧ c = some (.inl (some (.int v)), σ')
theorem OQ.a {c : Option (aRes × aSt)} {σ : aSt} {v : Int32} (h : c = some (.inl (some (.int v)), σ)) : OQ c σ (.inr v) := ⟨σ, Mo.rf, h⟩
section QST
variable {P : aCall} {d : Nat} {σ : aSt} {X : Pal} {t : Nat} {x : Int32}
theorem s_rTube (hd : 1 ≤ d) (h : Sh σ) (C : CP σ 101 X) (V : Vd X) (ht : t < X.1 0) : a_call a_tab P d 133 [.ref 100, .int (nI t)] σ = some (.inl none, σ) := by
  have := V.1.1
  rw [n_X7_requireTube (by omega), b_X7_requireTube_0 h, C.2.1.2.2.1, if_neg (nIp (by omega)), if_pos (nIl ht (by omega))]
theorem s_rTubeF (hd : 1 ≤ d) (h : Sh σ) (C : CP σ 101 X) (V : Vd X) (ht : ¬ o_nat x < X.1 0) : a_call a_tab P d 133 [.ref 100, .int x] σ = some (.inr 0, a_made σ) := by
  have := V.1.1
  rw [n_X7_requireTube (by omega), b_X7_requireTube_0 h, C.2.1.2.2.1, b_X7_requireTube_18]
  by_cases h0 : x < 0
  · rw [if_pos h0]
  · rw [if_neg h0, if_neg (fun z => by rw [o_lt x (by omega)] at z; rw [o_neg] at h0; omega)]
theorem s_rMix (hd : 1 ≤ d) (h : Sh σ) (C : CP σ 101 X) (V : Vd X) (ht : t < X.1 1) : a_call a_tab P d 134 [.ref 100, .int (nI t)] σ = some (.inl none, σ) := by
  have := V.1.2
  rw [n_X7_requireMix (by omega), b_X7_requireMix_0 h, show a_I σ 104 2 = _ from C.2.2.1.2.2.1, if_neg (nIp (by omega)), if_pos (nIl ht (by omega))]
theorem s_rMixF (hd : 1 ≤ d) (h : Sh σ) (C : CP σ 101 X) (V : Vd X) (ht : ¬ o_nat x < X.1 1) : a_call a_tab P d 134 [.ref 100, .int x] σ = some (.inr 0, a_made σ) := by
  have := V.1.2
  rw [n_X7_requireMix (by omega), b_X7_requireMix_0 h, show a_I σ 104 2 = _ from C.2.2.1.2.2.1, b_X7_requireMix_18]
  by_cases h0 : x < 0
  · rw [if_pos h0]
  · rw [if_neg h0, if_neg (fun z => by rw [o_lt x (by omega)] at z; rw [o_neg] at h0; omega)]
theorem s_rBrush (hd : 1 ≤ d) (h : Sh σ) (C : CP σ 101 X) (V : Vd X) (ht : t < X.1 2) : a_call a_tab P d 135 [.ref 100, .int (nI t)] σ = some (.inl none, σ) := by
  have := V.2.1.2
  rw [n_X7_requireBrush (by omega), b_X7_requireBrush_0 h, show a_I σ 106 2 = _ from C.2.2.2.1.2.2.1, if_neg (nIp (by omega)), if_pos (nIl ht (by omega))]
theorem s_rBrushF (hd : 1 ≤ d) (h : Sh σ) (C : CP σ 101 X) (V : Vd X) (ht : ¬ o_nat x < X.1 2) : a_call a_tab P d 135 [.ref 100, .int x] σ = some (.inr 0, a_made σ) := by
  have := V.2.1.2
  rw [n_X7_requireBrush (by omega), b_X7_requireBrush_0 h, show a_I σ 106 2 = _ from C.2.2.2.1.2.2.1, b_X7_requireBrush_18]
  by_cases h0 : x < 0
  · rw [if_pos h0]
  · rw [if_neg h0, if_neg (fun z => by rw [o_lt x (by omega)] at z; rw [o_neg] at h0; omega)]
theorem s_rWhat (hd : 1 ≤ d) {n : Nat} (hn : n < 2147483648) (ht : t < n + 1) : a_call a_tab P d 136 [.int (nI t), .int (nI n)] σ = some (.inl none, σ) := by
  rw [n_X7_requireWhat (by omega), b_X7_requireWhat_0, if_neg (nIp (by omega)), if_neg (nIn (by omega) (by omega))]
theorem s_rWhatF (hd : 1 ≤ d) {n : Nat} (hn : n < 2147483648) (ht : ¬ o_nat x < n + 1) : a_call a_tab P d 136 [.int x, .int (nI n)] σ = some (.inr 0, a_made σ) := by
  rw [n_X7_requireWhat (by omega), b_X7_requireWhat_0, b_X7_requireWhat_9]
  by_cases h0 : x < 0
  · rw [if_pos h0]
  · rw [if_neg h0, if_pos ((o_gt x hn).mpr ⟨by omega, by rw [o_neg] at h0; omega⟩)]
theorem s_rArg (hd : 1 ≤ d) {lo hi : Nat} (hn : hi < 2147483648) (h1 : lo ≤ t) (h2 : t ≤ hi) : a_call a_tab P d 137 [.int (nI t), .int (nI lo), .int (nI hi)] σ = some (.inl none, σ) := by
  rw [n_X7_requireArgument (by omega), b_X7_requireArgument_0, if_neg (nIn (by omega) (by omega)), if_neg (nIn (by omega) (by omega))]
theorem s_rArgF (hd : 1 ≤ d) {lo hi : Nat} (hl : lo < 2147483648) (hn : hi < 2147483648) (h1 : ¬ (lo ≤ o_nat x ∧ o_nat x ≤ hi)) : a_call a_tab P d 137 [.int x, .int (nI lo), .int (nI hi)] σ = some (.inr 1, a_made σ) := by
  rw [n_X7_requireArgument (by omega), b_X7_requireArgument_0, b_X7_requireArgument_10]
  by_cases h0 : x < nI lo
  · rw [if_pos h0]
  · rw [if_neg h0, if_pos ((o_gt x hn).mpr (by rw [o_lt x hl] at h0; omega))]
theorem s_rCol (hd : 2 ≤ d) (h2 : t ≤ 16777215) : a_call a_tab P d 138 [.int (nI t)] σ = some (.inl none, σ) := by
  rw [n_X7_requireColour (by omega), b_X7_requireColour_0, s_rArg (by omega) (by decide) (Nat.zero_le _) h2, g_n, b_X7_requireColour_8]
theorem s_rColF (hd : 2 ≤ d) (h1 : ¬ o_nat x ≤ 16777215) : a_call a_tab P d 138 [.int x] σ = some (.inr 1, a_made σ) := by
  rw [n_X7_requireColour (by omega), b_X7_requireColour_0, s_rArgF (by omega) (by decide) (by decide) (fun z => h1 z.2), g_x]
def z_size (X : Pal) (w : Nat) : Nat := if w = 0 then X.1 0 else if w = 1 then z_inuse X else if w = 2 then X.1 1 else if w = 3 then z_nbro X else if w = 4 then X.1 2 else if w = 5 then X.1 4 else if w = 6 then X.1 5 else if w = 7 then X.1 6 else if w = 8 then X.1 3 else z_drops X true
def o_size (X : Pal) (x : Int32) : Nat ⊕ Int32 := if o_nat x < 10 then .inr (nI (z_size X (o_nat x))) else .inl 0
theorem s_size (hd : 5 ≤ d) (h : Sh σ) (C : CP σ 101 X) (V : Vd X) : OQ (a_call a_tab P d 98 [.ref 100, .int x] σ) σ (o_size X x) := by
  obtain ⟨w, rfl, hw⟩ := o_ex x
  unfold o_size
  by_cases h1 : w < 10
  · rw [hw, if_pos h1]
    refine OQ.a ?_
    rw [n_X7_size (by omega), b_X7_size_0, s_rWhat (by omega) (by decide) h1, g_n, b_X7_size_6]
    obtain rfl | rfl | rfl | rfl | rfl | rfl | rfl | rfl | rfl | rfl : w = 0 ∨ w = 1 ∨ w = 2 ∨ w = 3 ∨ w = 4 ∨ w = 5 ∨ w = 6 ∨ w = 7 ∨ w = 8 ∨ w = 9 := by omega
    · rw [show b_tsw 7 133 0 8 #[49, 60, 68, 79, 87, 98, 106, 114, 122] (nI 0) = 56 from by decide +kernel, b_X7_size_56 h, C.2.1.2.2.1]; rfl
    · rw [show b_tsw 7 133 0 8 #[49, 60, 68, 79, 87, 98, 106, 114, 122] (nI 1) = 67 from by decide +kernel, b_X7_size_67 h, s_tubesInUse (by omega) C V, g_v, b_X7_size_74]; rfl
    · rw [show b_tsw 7 133 0 8 #[49, 60, 68, 79, 87, 98, 106, 114, 122] (nI 2) = 75 from by decide +kernel, b_X7_size_75 h, show a_I σ 104 2 = _ from C.2.2.1.2.2.1]; rfl
    · rw [show b_tsw 7 133 0 8 #[49, 60, 68, 79, 87, 98, 106, 114, 122] (nI 3) = 86 from by decide +kernel, b_X7_size_86 h, s_brokenMixes (by omega) C V, g_v, b_X7_size_93]; rfl
    · rw [show b_tsw 7 133 0 8 #[49, 60, 68, 79, 87, 98, 106, 114, 122] (nI 4) = 94 from by decide +kernel, b_X7_size_94 h, show a_I σ 106 2 = _ from C.2.2.2.1.2.2.1]; rfl
    · rw [show b_tsw 7 133 0 8 #[49, 60, 68, 79, 87, 98, 106, 114, 122] (nI 5) = 105 from by decide +kernel, b_X7_size_105 h, C.2.2.2.2.2.1]; rfl
    · rw [show b_tsw 7 133 0 8 #[49, 60, 68, 79, 87, 98, 106, 114, 122] (nI 6) = 113 from by decide +kernel, b_X7_size_113 h, C.2.2.2.2.2.2.1]; rfl
    · rw [show b_tsw 7 133 0 8 #[49, 60, 68, 79, 87, 98, 106, 114, 122] (nI 7) = 121 from by decide +kernel, b_X7_size_121 h, C.2.2.2.2.2.2.2]; rfl
    · rw [show b_tsw 7 133 0 8 #[49, 60, 68, 79, 87, 98, 106, 114, 122] (nI 8) = 129 from by decide +kernel, b_X7_size_129 h, show a_I σ 108 2 = _ from C.2.2.2.2.1.2.2.1]; rfl
    · rw [show b_tsw 7 133 0 8 #[49, 60, 68, 79, 87, 98, 106, 114, 122] (nI 9) = 140 from by decide +kernel, b_X7_size_140 h, show a_call a_tab P (d - 1) 38 [.ref 101, .int (nI 1)] σ = _ from s_dropsLeft (b := true) (by omega) C V, g_v, b_X7_size_148]; rfl
  · rw [hw, if_neg h1]
    show _ = _
    rw [n_X7_size (by omega), b_X7_size_0, s_rWhatF (by omega) (by decide) (by omega), g_x]
def z_tube (X : Pal) (t w : Nat) : Nat := if w = 3 then X.2 0 t 11 else if w = 4 then z_1 (z_use X t) else if w = 5 then z_users X t else X.2 0 t (8 + w)
def o_tube (X : Pal) (x y : Int32) : Nat ⊕ Int32 := if o_nat x < X.1 0 then (if o_nat y < 6 then .inr (nI (z_tube X (o_nat x) (o_nat y))) else .inl 0) else .inl 0
theorem s_tube {y : Int32} (hd : 5 ≤ d) (h : Sh σ) (C : CP σ 101 X) (V : Vd X) : OQ (a_call a_tab P d 99 [.ref 100, .int x, .int y] σ) σ (o_tube X x y) := by
  have h20 := V.1.1
  obtain ⟨t, rfl, ht⟩ := o_ex x
  obtain ⟨w, rfl, hw⟩ := o_ex y
  unfold o_tube
  by_cases h1 : t < X.1 0
  · by_cases h2 : w < 6
    · rw [ht, if_pos h1, hw, if_pos h2]
      refine OQ.a ?_
      rw [n_X7_tube (by omega), b_X7_tube_0 h, s_rTube (by omega) h C V h1, g_n, b_X7_tube_5, s_rWhat (by omega) (by decide) h2, g_n, b_X7_tube_10]
      unfold z_tube
      obtain h3 | rfl | rfl | rfl : w < 3 ∨ w = 3 ∨ w = 4 ∨ w = 5 := by omega
      · have e : b_tsw 11 65 3 5 #[25, 39, 56] (nI w) = 76 := by
          obtain rfl | rfl | rfl : w = 0 ∨ w = 1 ∨ w = 2 := by omega
          all_goals decide +kernel
        rw [e, b_X7_tube_76 h, nI_add, s_get (by omega) C.2.1 h1 (by omega), g_v, b_X7_tube_91, if_neg (by omega), if_neg (by omega), if_neg (by omega)]
        rfl
      · rw [show b_tsw 11 65 3 5 #[25, 39, 56] (nI 3) = 36 from by decide +kernel, b_X7_tube_36 h, s_get (by omega) C.2.1 h1 (by omega), g_v, b_X7_tube_49]
        rfl
      · rw [show b_tsw 11 65 3 5 #[25, 39, 56] (nI 4) = 50 from by decide +kernel, b_X7_tube_50 h, s_isInUse (by omega) C V h1, g_v, b_X7_tube_58]
        cases z_use X t with
        | true => rw [if_neg (by decide), b_X7_tube_66]; rfl
        | false => rw [if_pos (by decide), b_X7_tube_66]; rfl
      · rw [show b_tsw 11 65 3 5 #[25, 39, 56] (nI 5) = 67 from by decide +kernel, b_X7_tube_67 h, s_usersOf (by omega) C V (by omega), g_v, b_X7_tube_75]
        rfl
    · rw [ht, if_pos h1, hw, if_neg h2]
      show _ = _
      rw [n_X7_tube (by omega), b_X7_tube_0 h, s_rTube (by omega) h C V h1, g_n, b_X7_tube_5, s_rWhatF (by omega) (by decide) (by omega), g_x]
  · rw [ht, if_neg h1]
    show _ = _
    rw [n_X7_tube (by omega), b_X7_tube_0 h, s_rTubeF (by omega) h C V (by omega), g_x]
def z_mix (X : Pal) (m w : Nat) : Nat := if w = 3 then X.2 1 m 8 else if w = 4 then z_all (X.2 1 m) else if w = 5 then z_1 (z_bro X (X.2 1 m)) else z_val X (X.2 1 m) w
def o_mix (X : Pal) (x y : Int32) : Nat ⊕ Int32 := if o_nat x < X.1 1 then (if o_nat y < 6 then .inr (nI (z_mix X (o_nat x) (o_nat y))) else .inl 0) else .inl 0
theorem s_mix {y : Int32} (hd : 5 ≤ d) (h : Sh σ) (C : CP σ 101 X) (V : Vd X) : OQ (a_call a_tab P d 100 [.ref 100, .int x, .int y] σ) σ (o_mix X x y) := by
  have h20 := V.1.2
  obtain ⟨t, rfl, ht⟩ := o_ex x
  obtain ⟨w, rfl, hw⟩ := o_ex y
  unfold o_mix
  by_cases h1 : t < X.1 1
  · have M := V.m h1
    by_cases h2 : w < 6
    · rw [ht, if_pos h1, hw, if_pos h2]
      refine OQ.a ?_
      rw [n_X7_mix (by omega), b_X7_mix_0 h, s_rMix (by omega) h C V h1, g_n, b_X7_mix_5, s_rWhat (by omega) (by decide) h2, g_n, b_X7_mix_10]
      unfold z_mix
      obtain h3 | rfl | rfl | rfl : w < 3 ∨ w = 3 ∨ w = 4 ∨ w = 5 := by omega
      · have e : b_tsw 11 65 3 5 #[25, 39, 48] (nI w) = 76 := by
          obtain rfl | rfl | rfl : w = 0 ∨ w = 1 ∨ w = 2 := by omega
          all_goals decide +kernel
        rw [e, b_X7_mix_76 h, s_valueOf (by omega) C V (h := X.2 1) C.2.2.1 h1 M h3, g_v, b_X7_mix_92, if_neg (by omega), if_neg (by omega), if_neg (by omega)]
      · rw [show b_tsw 11 65 3 5 #[25, 39, 48] (nI 3) = 36 from by decide +kernel, b_X7_mix_36 h, s_get (by omega) C.2.2.1 h1 (by omega), g_v, b_X7_mix_49]
        rfl
      · rw [show b_tsw 11 65 3 5 #[25, 39, 48] (nI 4) = 50 from by decide +kernel, b_X7_mix_50 h, s_partsOf (by omega) C V h1, g_v, b_X7_mix_58]
        rfl
      · rw [show b_tsw 11 65 3 5 #[25, 39, 48] (nI 5) = 59 from by decide +kernel, b_X7_mix_59 h, s_isBroken (by omega) C V h1, g_v, b_X7_mix_67]
        cases z_bro X (X.2 1 t) with
        | true => rw [if_neg (by decide), b_X7_mix_75]; rfl
        | false => rw [if_pos (by decide), b_X7_mix_75]; rfl
    · rw [ht, if_pos h1, hw, if_neg h2]
      show _ = _
      rw [n_X7_mix (by omega), b_X7_mix_0 h, s_rMix (by omega) h C V h1, g_n, b_X7_mix_5, s_rWhatF (by omega) (by decide) (by omega), g_x]
  · rw [ht, if_neg h1]
    show _ = _
    rw [n_X7_mix (by omega), b_X7_mix_0 h, s_rMixF (by omega) h C V (by omega), g_x]
def o_partOf (X : Pal) (x y : Int32) (b : Bool) : Nat ⊕ Int32 := if o_nat x < X.1 1 then (if o_nat y < X.2 1 (o_nat x) 8 then .inr (nI (X.2 1 (o_nat x) ((if b then 13 else 9) + o_nat y))) else .inl 0) else .inl 0
theorem s_partOf {y : Int32} {b : Bool} (hd : 5 ≤ d) (h : Sh σ) (C : CP σ 101 X) (V : Vd X) : OQ (a_call a_tab P d 101 [.ref 100, .int x, .int y, .int (b_n b)] σ) σ (o_partOf X x y b) := by
  have h20 := V.1.2
  obtain ⟨t, rfl, ht⟩ := o_ex x
  obtain ⟨w, rfl, hw⟩ := o_ex y
  unfold o_partOf
  by_cases h1 : t < X.1 1
  · have M := V.m h1
    obtain ⟨c, hc⟩ : ∃ c, X.2 1 t 8 = c + 1 := ⟨X.2 1 t 8 - 1, by have := M.1; omega⟩
    have h4 := M.2.1
    have e0 : a_call a_tab P d 101 [.ref 100, .int (nI t), .int (nI w), .int (b_n b)] σ = b_G (a_call a_tab P (d - 1)) kX7_partOf [] 21 24 [some (.ref 100), some (.int (nI t)), some (.int (nI w)), some (.int (b_n b))] [] (a_call a_tab P (d - 1) 136 [.int (nI w), .int (nI c)] σ) := by
      rw [n_X7_partOf (by omega), b_X7_partOf_0 h, s_rMix (by omega) h C V h1, g_n, b_X7_partOf_5 h, s_get (by omega) C.2.2.1 h1 (by omega), g_v, b_X7_partOf_19, tv, hc, nI_s1]
    by_cases h2 : w < X.2 1 t 8
    · rw [ht, if_pos h1, hw, if_pos h2]
      refine OQ.a ?_
      rw [e0, s_rWhat (by omega) (by omega) (by omega), g_n, b_X7_partOf_24 h]
      cases b with
      | true => rw [if_neg (by decide), b_X7_partOf_43 h, nI_add, s_get (by omega) C.2.2.1 h1 (by omega), g_v, b_X7_partOf_48]; rfl
      | false => rw [if_pos (by decide), b_X7_partOf_43 h, nI_add, s_get (by omega) C.2.2.1 h1 (by omega), g_v, b_X7_partOf_48]; rfl
    · rw [ht, if_pos h1, hw, if_neg h2]
      show _ = _
      rw [e0, s_rWhatF (by omega) (by omega) (by omega), g_x]
  · rw [ht, if_neg h1]
    show _ = _
    rw [n_X7_partOf (by omega), b_X7_partOf_0 h, s_rMixF (by omega) h C V (by omega), g_x]
def z_let (X : Pal) (b : Bool) (r k : Nat) : Int32 := let l := X.2 (if b then 1 else 0) r k; if l = 0 then -1 else nI l
def o_letter (X : Pal) (b : Bool) (x y : Int32) : Nat ⊕ Int32 := if o_nat x < X.1 (if b then 1 else 0) then .inr (if o_nat y < 8 then z_let X b (o_nat x) (o_nat y) else -1) else .inl 0
theorem z_let_in {X : Pal} (V : Vd X) {b : Bool} {r k : Nat} (hr : r < X.1 (if b then 1 else 0)) (hk : k < 8) : X.2 (if b then 1 else 0) r k ≤ 122 := by
  have hv : Vn (X.2 (if b then 1 else 0) r) := by
    cases b with
    | true => exact (V.2.2.2.2.2.2.2.1 r hr).1
    | false => exact (V.2.2.2.2.2.2.1 r hr).1
  obtain ⟨l, -, -, h1, h2⟩ := hv
  by_cases hl : k < l
  · exact (h1 k hl).2
  · rw [h2 k (by omega) hk]
    decide
theorem s_letter {y : Int32} {b : Bool} (hd : 5 ≤ d) (h : Sh σ) (C : CP σ 101 X) (V : Vd X) : OQ (a_call a_tab P d 102 [.ref 100, .int (b_n b), .int x, .int y] σ) σ (o_letter X b x y) := by
  obtain ⟨t, rfl, ht⟩ := o_ex x
  unfold o_letter
  by_cases h1 : t < X.1 (if b then 1 else 0)
  · rw [ht, if_pos h1]
    refine OQ.a ?_
    have e0 : a_call a_tab P d 102 [.ref 100, .int (b_n b), .int (nI t), .int y] σ = b_R (a_call a_tab P (d - 1)) kX7_letter [] (17, [some (.ref 100), some (.int (b_n b)), some (.int (nI t)), some (.int y), none], [], σ) := by
      rw [n_X7_letter (by omega), b_X7_letter_0 h]
      cases b with
      | true => rw [if_neg (by decide), s_rMix (by omega) h C V h1, g_n, b_X7_letter_9]
      | false => rw [if_pos (by decide), s_rTube (by omega) h C V h1, g_n]
    obtain ⟨w, rfl, hw⟩ := o_ex y
    rw [e0, b_X7_letter_17 h, hw, b_X7_letter_27]
    by_cases h2 : w < 8
    · have hl := z_let_in V h1 h2
      rw [if_neg (nIp (by omega)), if_pos (nIl h2 (by decide)), if_pos h2]
      have fin : ∀ l, l ≤ 122 → b_R (a_call a_tab P (d - 1)) kX7_letter [] (55, [some (.ref 100), some (.int (b_n b)), some (.int (nI t)), some (.int (nI w)), none], [.int (nI l)], σ) = some (.inl (some (.int (if l = 0 then -1 else nI l))), σ) := by
        intro l h4
        rw [b_X7_letter_55, b_X7_letter_68, b_X7_letter_68]
        by_cases h5 : l = 0
        · subst h5
          rw [if_pos (show nI 0 = 0 from rfl), if_pos rfl]
        · rw [if_neg (fun z => h5 ((o_eq0 (by omega)).mp z)), if_neg h5]
      cases b with
      | true => rw [if_neg (by decide), b_X7_letter_50 (sk_104 h), s_get (by omega) C.2.2.1 h1 (by omega), g_v, tv, fin (X.2 1 t w) hl]; rfl
      | false => rw [if_pos (by decide), b_X7_letter_50 (sk_102 h), s_get (by omega) C.2.1 h1 (by omega), g_v, tv, fin (X.2 0 t w) hl]; rfl
    · rw [if_neg h2]
      by_cases h3 : nI w < 0
      · rw [if_pos h3]
      · rw [if_neg h3, if_neg (fun z => by rw [o_lt _ (by decide), hw] at z; rw [o_neg, hw] at h3; omega)]
  · rw [ht, if_neg h1]
    show _ = _
    rw [n_X7_letter (by omega), b_X7_letter_0 h]
    cases b with
    | true => rw [if_neg (by decide), s_rMixF (by omega) h C V (by rw [ht]; exact h1), g_x]
    | false => rw [if_pos (by decide), s_rTubeF (by omega) h C V (by rw [ht]; exact h1), g_x]
end QST
