/-! no quotient of an int by another that isn't 0 is a NaN (by program: wip/whole/genF.py) -/
theorem fw_lead {n : Nat} (h : n ≠ 0) : FP.Core.leading n 1 = (n.log2 : Int) := by
  have h1 : 2 ^ n.log2 ≤ n := Nat.log2_self_le h
  have h2 : Nat.log2 1 = 0 := by decide
  unfold FP.Core.leading
  rw [h2]
  have a1 : ((n.log2 : Int) - ((0 : Nat) : Int)).toNat = n.log2 := by omega
  have a2 : (-((n.log2 : Int) - ((0 : Nat) : Int))).toNat = 0 := by omega
  show (if 1 * 2 ^ (((n.log2 : Int) - ((0 : Nat) : Int)).toNat) ≤ n * 2 ^ ((-((n.log2 : Int) - ((0 : Nat) : Int))).toNat) then ((n.log2 : Int) - ((0 : Nat) : Int)) else ((n.log2 : Int) - ((0 : Nat) : Int)) - 1) = (n.log2 : Int)
  rw [a1, a2, if_pos (by rw [Nat.one_mul, Nat.pow_zero, Nat.mul_one]; exact h1)]
  omega
theorem fw_near {A B : Nat} (hB9 : 0 < B) (h : B ≤ A) : FP.Core.nearest A B ≠ 0 := by
  have h1 : 0 < A / B := Nat.div_pos h hB9
  unfold FP.Core.nearest
  generalize A / B = m at h1
  split
  · omega
  · split <;> omega
theorem fw_abs (v : Int32) : v.toInt.natAbs ≤ 2 ^ 31 := by
  have h1 := v.toInt_lt
  have h2 := v.le_toInt
  omega
theorem fw_ne {v : Int32} (h : v ≠ 0) : v.toInt ≠ 0 := fun h1 => h (Int32.toInt.inj (by rw [h1]; rfl))
theorem fwd_ex : FP.Core.Fmt.exps FP.Core.b64 = 2048 := by decide
theorem fwd_ta : FP.Core.Fmt.tails FP.Core.b64 = 4503599627370496 := by decide
theorem fwd_tp : 2 ^ FP.Core.Fmt.p FP.Core.b64 = 9007199254740992 := by decide
theorem fwd_pp : FP.Core.Fmt.p FP.Core.b64 = 53 := rfl
theorem fwd_qn : FP.Core.Fmt.qmin FP.Core.b64 = -1074 := by decide
theorem fwd_qx : FP.Core.Fmt.qmax FP.Core.b64 = 971 := by decide
theorem fwd_asm {s : Bool} {e t : Nat} (he : e < 2048) (ht : t < 4503599627370496) : FP.Core.assemble FP.Core.b64 s e t % 9223372036854775808 = e * 4503599627370496 + t ∧ FP.Core.assemble FP.Core.b64 s e t < 18446744073709551616 := by
  have h : FP.Core.assemble FP.Core.b64 s e t = (s.toNat * 2048 + e) * 4503599627370496 + t := by
    unfold FP.Core.assemble
    rw [fwd_ex, fwd_ta]
  rw [h]
  have hs : s.toNat ≤ 1 := by cases s <;> decide
  generalize s.toNat = k at hs
  omega
def fwd_G : FP.Core.Datum → Prop
  | .nan => False
  | .inf _ => True
  | .fin _ c q => c < 9007199254740992 ∧ q ≤ 971
theorem fwd_encf {s : Bool} {c : Nat} {q : Int} (h : c < 9007199254740992 ∧ q ≤ 971) : FP.Core.encode FP.Core.b64 (.fin s c q) % 9223372036854775808 < 9218868437227405312 ∧ (c ≠ 0 → FP.Core.encode FP.Core.b64 (.fin s c q) % 9223372036854775808 ≠ 0) ∧ FP.Core.encode FP.Core.b64 (.fin s c q) < 18446744073709551616 := by
  have e19 : FP.Core.encode FP.Core.b64 (.fin s c q) = if c < FP.Core.Fmt.tails FP.Core.b64 then FP.Core.assemble FP.Core.b64 s 0 c else FP.Core.assemble FP.Core.b64 s ((q - FP.Core.Fmt.qmin FP.Core.b64).toNat + 1) (c - FP.Core.Fmt.tails FP.Core.b64) := rfl
  rw [e19, fwd_ta, fwd_qn]
  by_cases hc9 : c < 4503599627370496
  · rw [if_pos hc9]
    have g := fwd_asm (s := s) (e := 0) (t := c) (by decide) hc9
    rw [g.1]
    exact ⟨by omega, fun h => by omega, g.2⟩
  · rw [if_neg hc9]
    have hq : (q - -1074).toNat + 1 < 2048 - 1 := by omega
    have h1 : 1 ≤ (q - -1074).toNat + 1 := Nat.le_add_left 1 _
    generalize (q - -1074).toNat + 1 = e at hq h1
    have g := fwd_asm (s := s) (e := e) (t := c - 4503599627370496) (by omega) (by omega)
    rw [g.1]
    exact ⟨by omega, fun _ => by omega, g.2⟩
theorem fwd_enc {d : FP.Core.Datum} (h : fwd_G d) : FP.Core.encode FP.Core.b64 d % 9223372036854775808 ≤ 9218868437227405312 ∧ FP.Core.encode FP.Core.b64 d < 18446744073709551616 := by
  cases d with
  | nan => exact absurd h id
  | inf s =>
    have g := fwd_asm (s := s) (e := 2048 - 1) (t := 0) (by decide) (by decide)
    show FP.Core.assemble FP.Core.b64 s (FP.Core.Fmt.exps FP.Core.b64 - 1) 0 % 9223372036854775808 ≤ 9218868437227405312 ∧ FP.Core.assemble FP.Core.b64 s (FP.Core.Fmt.exps FP.Core.b64 - 1) 0 < 18446744073709551616
    rw [fwd_ex]
    exact ⟨Nat.le_of_eq (g.1.trans (by decide)), g.2⟩
  | fin s c q => exact ⟨Nat.le_of_lt (fwd_encf h).1, (fwd_encf h).2.2⟩
theorem fwd_bnd {s : Bool} {c : Nat} {q : Int} (hc9 : c < 9007199254740992) : fwd_G (FP.Core.bound FP.Core.b64 s c q) := by
  unfold FP.Core.bound
  rw [fwd_qx]
  by_cases h : q ≤ 971
  · rw [if_pos h]
    show c < 9007199254740992 ∧ q ≤ 971
    exact ⟨hc9, h⟩
  · rw [if_neg h]; exact trivial
theorem fwd_set {s : Bool} {c : Nat} {q : Int} : fwd_G (FP.Core.settle FP.Core.b64 s c q) := by
  unfold FP.Core.settle
  rw [fwd_tp, fwd_ta]
  by_cases h : c < 9007199254740992
  · rw [if_pos h]; exact fwd_bnd h
  · rw [if_neg h]; exact fwd_bnd (by decide)
theorem fwd_setf {s : Bool} {c : Nat} {q : Int} (hc9 : c ≠ 0) (hq : q + 1 ≤ 971) : ∃ (c' : Nat) (q' : Int), FP.Core.settle FP.Core.b64 s c q = .fin s c' q' ∧ c' < 9007199254740992 ∧ q' ≤ 971 ∧ c' ≠ 0 := by
  unfold FP.Core.settle FP.Core.bound
  rw [fwd_qx, fwd_tp, fwd_ta]
  by_cases h : c < 9007199254740992
  · rw [if_pos h, if_pos (by omega)]; exact ⟨c, q, rfl, h, by omega, hc9⟩
  · rw [if_neg h, if_pos hq]; exact ⟨4503599627370496, q + 1, rfl, by decide, hq, by decide⟩
theorem fwd_rr {s : Bool} {n d : Nat} {e : Int} : fwd_G (FP.Core.roundRatio FP.Core.b64 s n d e) := by
  unfold FP.Core.roundRatio
  by_cases h : n = 0
  · rw [if_pos h, fwd_qn]
    show (0 : Nat) < 9007199254740992 ∧ (-1074 : Int) ≤ 971
    exact ⟨by decide, by decide⟩
  · rw [if_neg h]
    unfold FP.Core.roundAt
    exact fwd_set
theorem fwd_dec {n : Nat} (h : n % 9223372036854775808 < 9218868437227405312) : ∃ (s : Bool) (c : Nat) (q : Int), FP.Core.decode FP.Core.b64 n = .fin s c q ∧ (n % 9223372036854775808 ≠ 0 → c ≠ 0) := by
  have e19 : FP.Core.fieldE FP.Core.b64 n = n / 4503599627370496 % 2048 := by unfold FP.Core.fieldE; rw [fwd_ex, fwd_ta]
  have e29 : FP.Core.fieldT FP.Core.b64 n = n % 4503599627370496 := by unfold FP.Core.fieldT; rw [fwd_ta]
  unfold FP.Core.decode
  rw [e19, e29, fwd_ex, fwd_ta, if_neg (by omega)]
  by_cases h0 : n / 4503599627370496 % 2048 = 0
  · rw [if_pos h0]
    exact ⟨_, _, _, rfl, fun h1 => by omega⟩
  · rw [if_neg h0]
    exact ⟨_, _, _, rfl, fun h1 => by omega⟩
theorem fwd_de2 {n : Nat} (h : n % 9223372036854775808 ≤ 9218868437227405312) : FP.Core.decode FP.Core.b64 n ≠ .nan := by
  have e19 : FP.Core.fieldE FP.Core.b64 n = n / 4503599627370496 % 2048 := by unfold FP.Core.fieldE; rw [fwd_ex, fwd_ta]
  have e29 : FP.Core.fieldT FP.Core.b64 n = n % 4503599627370496 := by unfold FP.Core.fieldT; rw [fwd_ta]
  unfold FP.Core.decode
  rw [e19, e29, fwd_ex]
  by_cases h1 : n / 4503599627370496 % 2048 = 2048 - 1
  · rw [if_pos h1, if_pos (by omega)]
    exact fun z => by cases z
  · rw [if_neg h1]
    by_cases h0 : n / 4503599627370496 % 2048 = 0
    · rw [if_pos h0]; exact fun z => by cases z
    · rw [if_neg h0]; exact fun z => by cases z
theorem fwd_int {i : Int} (h : i.natAbs ≤ 2 ^ 31) : FP.Core.fromInt FP.Core.b64 i % 9223372036854775808 < 9218868437227405312 ∧ (i ≠ 0 → FP.Core.fromInt FP.Core.b64 i % 9223372036854775808 ≠ 0) ∧ FP.Core.fromInt FP.Core.b64 i < 18446744073709551616 := by
  have e : FP.Core.fromInt FP.Core.b64 i = FP.Core.encode FP.Core.b64 (FP.Core.roundRatio FP.Core.b64 (decide (i < 0)) i.natAbs 1 0) := rfl
  rw [e]
  generalize decide (i < 0) = s
  by_cases h0 : i.natAbs = 0
  · have e19 : FP.Core.roundRatio FP.Core.b64 s i.natAbs 1 0 = .fin s 0 (FP.Core.Fmt.qmin FP.Core.b64) := by unfold FP.Core.roundRatio; rw [if_pos h0]
    rw [e19]
    have g := fwd_encf (s := s) (c := 0) (q := FP.Core.Fmt.qmin FP.Core.b64) ⟨by decide, by rw [fwd_qn]; decide⟩
    exact ⟨g.1, fun z => absurd (Int.natAbs_eq_zero.mp h0) z, g.2.2⟩
  · have hL : FP.Core.leading i.natAbs 1 = (i.natAbs.log2 : Int) := fw_lead h0
    have h1 : 2 ^ i.natAbs.log2 ≤ i.natAbs := Nat.log2_self_le h0
    have h2 : i.natAbs.log2 ≤ 31 := (Nat.pow_le_pow_iff_right (by decide : 1 < 2)).mp (Nat.le_trans h1 h)
    have e19 : FP.Core.roundRatio FP.Core.b64 s i.natAbs 1 0 = FP.Core.settle FP.Core.b64 s (FP.Core.nearest (FP.Core.unitsNum i.natAbs 0 (FP.Core.quantum FP.Core.b64 i.natAbs 1 0)) (FP.Core.unitsDen 1 0 (FP.Core.quantum FP.Core.b64 i.natAbs 1 0))) (FP.Core.quantum FP.Core.b64 i.natAbs 1 0) := by
      unfold FP.Core.roundRatio FP.Core.roundAt
      rw [if_neg h0]
    have hq : FP.Core.quantum FP.Core.b64 i.natAbs 1 0 = max (-1074) ((i.natAbs.log2 : Int) + 0 - (((53 : Nat) : Int) - 1)) := by
      unfold FP.Core.quantum
      rw [hL, fwd_qn, fwd_pp]
    rw [e19]
    generalize FP.Core.quantum FP.Core.b64 i.natAbs 1 0 = q at hq
    have hq1 : q + 1 ≤ 971 := by omega
    have hq2 : (q - 0).toNat ≤ i.natAbs.log2 := by omega
    have hn : FP.Core.nearest (FP.Core.unitsNum i.natAbs 0 q) (FP.Core.unitsDen 1 0 q) ≠ 0 := by
      refine fw_near ?_ ?_
      · show 0 < 1 * 2 ^ (q - 0).toNat
        rw [Nat.one_mul]; exact Nat.two_pow_pos _
      · show 1 * 2 ^ (q - 0).toNat ≤ i.natAbs * 2 ^ (0 - q).toNat
        rw [Nat.one_mul]
        exact Nat.le_trans (Nat.le_trans (Nat.pow_le_pow_right (by decide) hq2) h1) (Nat.le_mul_of_pos_right _ (Nat.two_pow_pos _))
    obtain ⟨c', q', e29, c1, q1, c2⟩ := fwd_setf (s := s) hn hq1
    rw [e29]
    have g := fwd_encf (s := s) ⟨c1, q1⟩
    exact ⟨g.1, fun _ => g.2.1 c2, g.2.2⟩
theorem fwd_of {n : Nat} (h : n < 18446744073709551616) : (UInt64.ofNat n).toNat = n := UInt64.toNat_ofNat'.trans (Nat.mod_eq_of_lt h)
theorem fwd_div {v w : Int32} (hw : w ≠ 0) : (FP.ddiv (FP.i2d v) (FP.i2d w)).toNat % 9223372036854775808 ≤ 9218868437227405312 := by
  have a := fwd_int (i := v.toInt) (fw_abs v)
  have c := fwd_int (i := w.toInt) (fw_abs w)
  have ea : (FP.Core.i2d v).toNat = FP.Core.fromInt FP.Core.b64 v.toInt := fwd_of a.2.2
  have ec : (FP.Core.i2d w).toNat = FP.Core.fromInt FP.Core.b64 w.toInt := fwd_of c.2.2
  obtain ⟨s, x, q, d1, -⟩ := fwd_dec (n := FP.Core.fromInt FP.Core.b64 v.toInt) a.1
  obtain ⟨t, y, r, d2, d3⟩ := fwd_dec (n := FP.Core.fromInt FP.Core.b64 w.toInt) c.1
  have hy : y ≠ 0 := d3 (c.2.1 (fw_ne hw))
  have e : FP.Core.div FP.Core.b64 (FP.Core.fromInt FP.Core.b64 v.toInt) (FP.Core.fromInt FP.Core.b64 w.toInt) = FP.Core.encode FP.Core.b64 (FP.Core.roundRatio FP.Core.b64 (s != t) x y (q - r)) := by
    unfold FP.Core.div
    rw [d1, d2]
    show FP.Core.encode FP.Core.b64 (if y = 0 then (if x = 0 then .nan else .inf (s != t)) else FP.Core.roundRatio FP.Core.b64 (s != t) x y (q - r)) = _
    rw [if_neg hy]
  have g := fwd_enc (fwd_rr (s := s != t) (n := x) (d := y) (e := q - r))
  rw [← e] at g
  show (UInt64.ofNat (FP.Core.div FP.Core.b64 (FP.Core.i2d v).toNat (FP.Core.i2d w).toNat)).toNat % 9223372036854775808 ≤ 9218868437227405312
  rw [ea, ec, fwd_of g.2]
  exact g.1
theorem fwd_bits {x : UInt64} (h : x.toNat % 9223372036854775808 ≤ 9218868437227405312) : x &&& 9223372036854775807 ≤ 9218868437227405312 := by
  rw [UInt64.le_iff_toNat_le, UInt64.toNat_and]
  have e : (9223372036854775807 : UInt64).toNat = 2 ^ 63 - 1 := by decide
  rw [e, Nat.and_two_pow_sub_one_eq_mod]
  exact h
theorem fwf_ex : FP.Core.Fmt.exps FP.Core.b32 = 256 := by decide
theorem fwf_ta : FP.Core.Fmt.tails FP.Core.b32 = 8388608 := by decide
theorem fwf_tp : 2 ^ FP.Core.Fmt.p FP.Core.b32 = 16777216 := by decide
theorem fwf_pp : FP.Core.Fmt.p FP.Core.b32 = 24 := rfl
theorem fwf_qn : FP.Core.Fmt.qmin FP.Core.b32 = -149 := by decide
theorem fwf_qx : FP.Core.Fmt.qmax FP.Core.b32 = 104 := by decide
theorem fwf_asm {s : Bool} {e t : Nat} (he : e < 256) (ht : t < 8388608) : FP.Core.assemble FP.Core.b32 s e t % 2147483648 = e * 8388608 + t ∧ FP.Core.assemble FP.Core.b32 s e t < 4294967296 := by
  have h : FP.Core.assemble FP.Core.b32 s e t = (s.toNat * 256 + e) * 8388608 + t := by
    unfold FP.Core.assemble
    rw [fwf_ex, fwf_ta]
  rw [h]
  have hs : s.toNat ≤ 1 := by cases s <;> decide
  generalize s.toNat = k at hs
  omega
def fwf_G : FP.Core.Datum → Prop
  | .nan => False
  | .inf _ => True
  | .fin _ c q => c < 16777216 ∧ q ≤ 104
theorem fwf_encf {s : Bool} {c : Nat} {q : Int} (h : c < 16777216 ∧ q ≤ 104) : FP.Core.encode FP.Core.b32 (.fin s c q) % 2147483648 < 2139095040 ∧ (c ≠ 0 → FP.Core.encode FP.Core.b32 (.fin s c q) % 2147483648 ≠ 0) ∧ FP.Core.encode FP.Core.b32 (.fin s c q) < 4294967296 := by
  have e19 : FP.Core.encode FP.Core.b32 (.fin s c q) = if c < FP.Core.Fmt.tails FP.Core.b32 then FP.Core.assemble FP.Core.b32 s 0 c else FP.Core.assemble FP.Core.b32 s ((q - FP.Core.Fmt.qmin FP.Core.b32).toNat + 1) (c - FP.Core.Fmt.tails FP.Core.b32) := rfl
  rw [e19, fwf_ta, fwf_qn]
  by_cases hc9 : c < 8388608
  · rw [if_pos hc9]
    have g := fwf_asm (s := s) (e := 0) (t := c) (by decide) hc9
    rw [g.1]
    exact ⟨by omega, fun h => by omega, g.2⟩
  · rw [if_neg hc9]
    have hq : (q - -149).toNat + 1 < 256 - 1 := by omega
    have h1 : 1 ≤ (q - -149).toNat + 1 := Nat.le_add_left 1 _
    generalize (q - -149).toNat + 1 = e at hq h1
    have g := fwf_asm (s := s) (e := e) (t := c - 8388608) (by omega) (by omega)
    rw [g.1]
    exact ⟨by omega, fun _ => by omega, g.2⟩
theorem fwf_enc {d : FP.Core.Datum} (h : fwf_G d) : FP.Core.encode FP.Core.b32 d % 2147483648 ≤ 2139095040 ∧ FP.Core.encode FP.Core.b32 d < 4294967296 := by
  cases d with
  | nan => exact absurd h id
  | inf s =>
    have g := fwf_asm (s := s) (e := 256 - 1) (t := 0) (by decide) (by decide)
    show FP.Core.assemble FP.Core.b32 s (FP.Core.Fmt.exps FP.Core.b32 - 1) 0 % 2147483648 ≤ 2139095040 ∧ FP.Core.assemble FP.Core.b32 s (FP.Core.Fmt.exps FP.Core.b32 - 1) 0 < 4294967296
    rw [fwf_ex]
    exact ⟨Nat.le_of_eq (g.1.trans (by decide)), g.2⟩
  | fin s c q => exact ⟨Nat.le_of_lt (fwf_encf h).1, (fwf_encf h).2.2⟩
theorem fwf_bnd {s : Bool} {c : Nat} {q : Int} (hc9 : c < 16777216) : fwf_G (FP.Core.bound FP.Core.b32 s c q) := by
  unfold FP.Core.bound
  rw [fwf_qx]
  by_cases h : q ≤ 104
  · rw [if_pos h]
    show c < 16777216 ∧ q ≤ 104
    exact ⟨hc9, h⟩
  · rw [if_neg h]; exact trivial
theorem fwf_set {s : Bool} {c : Nat} {q : Int} : fwf_G (FP.Core.settle FP.Core.b32 s c q) := by
  unfold FP.Core.settle
  rw [fwf_tp, fwf_ta]
  by_cases h : c < 16777216
  · rw [if_pos h]; exact fwf_bnd h
  · rw [if_neg h]; exact fwf_bnd (by decide)
theorem fwf_setf {s : Bool} {c : Nat} {q : Int} (hc9 : c ≠ 0) (hq : q + 1 ≤ 104) : ∃ (c' : Nat) (q' : Int), FP.Core.settle FP.Core.b32 s c q = .fin s c' q' ∧ c' < 16777216 ∧ q' ≤ 104 ∧ c' ≠ 0 := by
  unfold FP.Core.settle FP.Core.bound
  rw [fwf_qx, fwf_tp, fwf_ta]
  by_cases h : c < 16777216
  · rw [if_pos h, if_pos (by omega)]; exact ⟨c, q, rfl, h, by omega, hc9⟩
  · rw [if_neg h, if_pos hq]; exact ⟨8388608, q + 1, rfl, by decide, hq, by decide⟩
theorem fwf_rr {s : Bool} {n d : Nat} {e : Int} : fwf_G (FP.Core.roundRatio FP.Core.b32 s n d e) := by
  unfold FP.Core.roundRatio
  by_cases h : n = 0
  · rw [if_pos h, fwf_qn]
    show (0 : Nat) < 16777216 ∧ (-149 : Int) ≤ 104
    exact ⟨by decide, by decide⟩
  · rw [if_neg h]
    unfold FP.Core.roundAt
    exact fwf_set
theorem fwf_dec {n : Nat} (h : n % 2147483648 < 2139095040) : ∃ (s : Bool) (c : Nat) (q : Int), FP.Core.decode FP.Core.b32 n = .fin s c q ∧ (n % 2147483648 ≠ 0 → c ≠ 0) := by
  have e19 : FP.Core.fieldE FP.Core.b32 n = n / 8388608 % 256 := by unfold FP.Core.fieldE; rw [fwf_ex, fwf_ta]
  have e29 : FP.Core.fieldT FP.Core.b32 n = n % 8388608 := by unfold FP.Core.fieldT; rw [fwf_ta]
  unfold FP.Core.decode
  rw [e19, e29, fwf_ex, fwf_ta, if_neg (by omega)]
  by_cases h0 : n / 8388608 % 256 = 0
  · rw [if_pos h0]
    exact ⟨_, _, _, rfl, fun h1 => by omega⟩
  · rw [if_neg h0]
    exact ⟨_, _, _, rfl, fun h1 => by omega⟩
theorem fwf_de2 {n : Nat} (h : n % 2147483648 ≤ 2139095040) : FP.Core.decode FP.Core.b32 n ≠ .nan := by
  have e19 : FP.Core.fieldE FP.Core.b32 n = n / 8388608 % 256 := by unfold FP.Core.fieldE; rw [fwf_ex, fwf_ta]
  have e29 : FP.Core.fieldT FP.Core.b32 n = n % 8388608 := by unfold FP.Core.fieldT; rw [fwf_ta]
  unfold FP.Core.decode
  rw [e19, e29, fwf_ex]
  by_cases h1 : n / 8388608 % 256 = 256 - 1
  · rw [if_pos h1, if_pos (by omega)]
    exact fun z => by cases z
  · rw [if_neg h1]
    by_cases h0 : n / 8388608 % 256 = 0
    · rw [if_pos h0]; exact fun z => by cases z
    · rw [if_neg h0]; exact fun z => by cases z
theorem fwf_int {i : Int} (h : i.natAbs ≤ 2 ^ 31) : FP.Core.fromInt FP.Core.b32 i % 2147483648 < 2139095040 ∧ (i ≠ 0 → FP.Core.fromInt FP.Core.b32 i % 2147483648 ≠ 0) ∧ FP.Core.fromInt FP.Core.b32 i < 4294967296 := by
  have e : FP.Core.fromInt FP.Core.b32 i = FP.Core.encode FP.Core.b32 (FP.Core.roundRatio FP.Core.b32 (decide (i < 0)) i.natAbs 1 0) := rfl
  rw [e]
  generalize decide (i < 0) = s
  by_cases h0 : i.natAbs = 0
  · have e19 : FP.Core.roundRatio FP.Core.b32 s i.natAbs 1 0 = .fin s 0 (FP.Core.Fmt.qmin FP.Core.b32) := by unfold FP.Core.roundRatio; rw [if_pos h0]
    rw [e19]
    have g := fwf_encf (s := s) (c := 0) (q := FP.Core.Fmt.qmin FP.Core.b32) ⟨by decide, by rw [fwf_qn]; decide⟩
    exact ⟨g.1, fun z => absurd (Int.natAbs_eq_zero.mp h0) z, g.2.2⟩
  · have hL : FP.Core.leading i.natAbs 1 = (i.natAbs.log2 : Int) := fw_lead h0
    have h1 : 2 ^ i.natAbs.log2 ≤ i.natAbs := Nat.log2_self_le h0
    have h2 : i.natAbs.log2 ≤ 31 := (Nat.pow_le_pow_iff_right (by decide : 1 < 2)).mp (Nat.le_trans h1 h)
    have e19 : FP.Core.roundRatio FP.Core.b32 s i.natAbs 1 0 = FP.Core.settle FP.Core.b32 s (FP.Core.nearest (FP.Core.unitsNum i.natAbs 0 (FP.Core.quantum FP.Core.b32 i.natAbs 1 0)) (FP.Core.unitsDen 1 0 (FP.Core.quantum FP.Core.b32 i.natAbs 1 0))) (FP.Core.quantum FP.Core.b32 i.natAbs 1 0) := by
      unfold FP.Core.roundRatio FP.Core.roundAt
      rw [if_neg h0]
    have hq : FP.Core.quantum FP.Core.b32 i.natAbs 1 0 = max (-149) ((i.natAbs.log2 : Int) + 0 - (((24 : Nat) : Int) - 1)) := by
      unfold FP.Core.quantum
      rw [hL, fwf_qn, fwf_pp]
    rw [e19]
    generalize FP.Core.quantum FP.Core.b32 i.natAbs 1 0 = q at hq
    have hq1 : q + 1 ≤ 104 := by omega
    have hq2 : (q - 0).toNat ≤ i.natAbs.log2 := by omega
    have hn : FP.Core.nearest (FP.Core.unitsNum i.natAbs 0 q) (FP.Core.unitsDen 1 0 q) ≠ 0 := by
      refine fw_near ?_ ?_
      · show 0 < 1 * 2 ^ (q - 0).toNat
        rw [Nat.one_mul]; exact Nat.two_pow_pos _
      · show 1 * 2 ^ (q - 0).toNat ≤ i.natAbs * 2 ^ (0 - q).toNat
        rw [Nat.one_mul]
        exact Nat.le_trans (Nat.le_trans (Nat.pow_le_pow_right (by decide) hq2) h1) (Nat.le_mul_of_pos_right _ (Nat.two_pow_pos _))
    obtain ⟨c', q', e29, c1, q1, c2⟩ := fwf_setf (s := s) hn hq1
    rw [e29]
    have g := fwf_encf (s := s) ⟨c1, q1⟩
    exact ⟨g.1, fun _ => g.2.1 c2, g.2.2⟩
theorem fwf_of {n : Nat} (h : n < 4294967296) : (UInt32.ofNat n).toNat = n := UInt32.toNat_ofNat'.trans (Nat.mod_eq_of_lt h)
theorem fwf_div {v w : Int32} (hw : w ≠ 0) : (FP.fdiv (FP.i2f v) (FP.i2f w)).toNat % 2147483648 ≤ 2139095040 := by
  have a := fwf_int (i := v.toInt) (fw_abs v)
  have c := fwf_int (i := w.toInt) (fw_abs w)
  have ea : (FP.Core.i2f v).toNat = FP.Core.fromInt FP.Core.b32 v.toInt := fwf_of a.2.2
  have ec : (FP.Core.i2f w).toNat = FP.Core.fromInt FP.Core.b32 w.toInt := fwf_of c.2.2
  obtain ⟨s, x, q, d1, -⟩ := fwf_dec (n := FP.Core.fromInt FP.Core.b32 v.toInt) a.1
  obtain ⟨t, y, r, d2, d3⟩ := fwf_dec (n := FP.Core.fromInt FP.Core.b32 w.toInt) c.1
  have hy : y ≠ 0 := d3 (c.2.1 (fw_ne hw))
  have e : FP.Core.div FP.Core.b32 (FP.Core.fromInt FP.Core.b32 v.toInt) (FP.Core.fromInt FP.Core.b32 w.toInt) = FP.Core.encode FP.Core.b32 (FP.Core.roundRatio FP.Core.b32 (s != t) x y (q - r)) := by
    unfold FP.Core.div
    rw [d1, d2]
    show FP.Core.encode FP.Core.b32 (if y = 0 then (if x = 0 then .nan else .inf (s != t)) else FP.Core.roundRatio FP.Core.b32 (s != t) x y (q - r)) = _
    rw [if_neg hy]
  have g := fwf_enc (fwf_rr (s := s != t) (n := x) (d := y) (e := q - r))
  rw [← e] at g
  show (UInt32.ofNat (FP.Core.div FP.Core.b32 (FP.Core.i2f v).toNat (FP.Core.i2f w).toNat)).toNat % 2147483648 ≤ 2139095040
  rw [ea, ec, fwf_of g.2]
  exact g.1
theorem fwf_bits {x : UInt32} (h : x.toNat % 2147483648 ≤ 2139095040) : x &&& 2147483647 ≤ 2139095040 := by
  rw [UInt32.le_iff_toNat_le, UInt32.toNat_and]
  have e : (2147483647 : UInt32).toNat = 2 ^ 31 - 1 := by decide
  rw [e, Nat.and_two_pow_sub_one_eq_mod]
  exact h
theorem fw_f2d {x : UInt32} (h : x.toNat % 2147483648 ≤ 2139095040) : (FP.f2d x).toNat % 9223372036854775808 ≤ 9218868437227405312 := by
  have hn := fwf_de2 h
  have e : FP.f2d x = FP.Core.f2d x := by
    have e09 : FP.Core.fIsNaN x = false := decide_eq_false hn
    unfold FP.f2d
    rw [e09]
    rfl
  have hG : fwd_G (FP.Core.round FP.Core.b64 (FP.Core.decode FP.Core.b32 x.toNat)) := by
    cases hd : FP.Core.decode FP.Core.b32 x.toNat with
    | nan => exact absurd hd hn
    | inf s => exact trivial
    | fin s c q => exact fwd_rr
  have g := fwd_enc hG
  rw [e]
  show (UInt64.ofNat (FP.Core.encode FP.Core.b64 (FP.Core.round FP.Core.b64 (FP.Core.decode FP.Core.b32 x.toNat)))).toNat % 9223372036854775808 ≤ 9218868437227405312
  rw [fwd_of g.2]
  exact g.1
theorem fpk_ok : FPk := fun a b hb => ⟨fwd_bits (fwd_div hb), fwf_bits (fwf_div hb)⟩
theorem fpd_ok : FPd := fun X V => by
  have hx : (z_brsh X).toNat % 2147483648 ≤ 2139095040 := by
    unfold z_brsh
    by_cases h : X.1 1 = 0
    · rw [if_pos h]; decide
    · rw [if_neg h]; exact fwf_div (fun z => h ((o_eq0 (by have := V.1.2; omega)).mp z))
  exact fwd_bits (fw_f2d hx)
