/-! counting ones, as the JDK does it, over the lowest 20 -/
theorem nI_bv (a : Nat) : (nI a).toBitVec = BitVec.ofNat 32 a := rfl
theorem nI_and {a m : Nat} (ha : a < 4294967296) (hm9 : m < 4294967296) : nI a &&& nI m = nI (a &&& m) := by
  apply Int32.toBitVec_inj.mp
  apply BitVec.eq_of_toNat_eq
  rw [Int32.toBitVec_and, BitVec.toNat_and, nI_bv, nI_bv, nI_bv, BitVec.toNat_ofNat, BitVec.toNat_ofNat, BitVec.toNat_ofNat, Nat.mod_eq_of_lt ha, Nat.mod_eq_of_lt hm9, Nat.mod_eq_of_lt (Nat.lt_of_le_of_lt Nat.and_le_left ha)]
theorem J_u_n {a k : Nat} {ki : Int32} (hk : (ki.toUInt32 &&& Int32.toUInt32 31).toNat % 32 = k) (ha : a < 4294967296) : J_u (nI a) ki = nI (a / 2 ^ k) := by
  apply Int32.toBitVec_inj.mp
  apply BitVec.eq_of_toNat_eq
  show ((nI a).toUInt32 >>> (ki.toUInt32 &&& Int32.toUInt32 31)).toNat = (BitVec.ofNat 32 (a / 2 ^ k)).toNat
  rw [UInt32.toNat_shiftRight, hk, BitVec.toNat_ofNat, Nat.shiftRight_eq_div_pow]
  show (BitVec.ofNat 32 a).toNat / 2 ^ k = _
  rw [BitVec.toNat_ofNat, Nat.mod_eq_of_lt ha, Nat.mod_eq_of_lt (Nat.lt_of_le_of_lt (Nat.div_le_self a _) ha)]
/-- the same over naturals -/
def N_1 (m x : Nat) : Nat := x - (x / 2 &&& m)
def N_2 (m x : Nat) : Nat := (x &&& m) + (x / 4 &&& m)
def N_3 (m x : Nat) : Nat := (x + x / 16) &&& m
def N_pc (n x : Nat) : Nat := q_s (fun i => (x >>> i) % 2) n
def N_y1 (x : Nat) : Nat := N_1 0x55 x
def N_y2 (x : Nat) : Nat := N_2 0x33 (N_y1 x)
def N_z1 (x : Nat) : Nat := N_1 0x555555 x
def N_z2 (x : Nat) : Nat := N_2 0x333333 (N_z1 x)
def N_fb (b : Nat) : Bool := decide (b / 2 &&& 0x55 ≤ b) && decide (N_y1 b < 256) && decide (N_y2 b ≤ 68) && decide (N_3 0x0f (N_y2 b) = N_pc 8 b) && decide (N_pc 8 b ≤ 8) && (List.range 2).all (fun c => decide ((b / 2 + 128 * c) &&& 0x55 = b / 2 &&& 0x55)) && (List.range 4).all (fun c => decide ((N_y1 b / 4 + 64 * c) &&& 0x33 = N_y1 b / 4 &&& 0x33)) && (List.range 5).all (fun c => decide ((N_y2 b + N_y2 b / 16 + 16 * c) &&& 0x0f = N_3 0x0f (N_y2 b)))
theorem N_fb_all : (List.range 256).all N_fb = true := by decide +kernel
def N_fr (r : Nat) : Bool := decide (r / 2 &&& 0x555555 ≤ r) && decide (N_z1 r < 4096) && decide (N_z2 r % 16 ≤ 4) && decide (N_z2 r < 65536) && decide (N_3 0x0f0f0f (N_z2 r) = N_pc 8 (r % 256) + 256 * N_pc 4 (r / 256)) && decide (N_pc 4 (r / 256) ≤ 4)
theorem N_fr_all : (List.range 4096).all N_fr = true := by decide +kernel
theorem N_split {p q m M : Nat} (hp : p < 256) (hm9 : m < 256) : (p + 256 * q) &&& (m + 256 * M) = (p &&& m) + 256 * (q &&& M) := by
  have h1 : ((p + 256 * q) &&& (m + 256 * M)) % 2 ^ 8 = (p &&& m) := by
    rw [Nat.and_mod_two_pow, show (p + 256 * q) % 2 ^ 8 = p by omega, show (m + 256 * M) % 2 ^ 8 = m by omega]
  have h2 : ((p + 256 * q) &&& (m + 256 * M)) / 2 ^ 8 = (q &&& M) := by
    rw [Nat.and_div_two_pow, show (p + 256 * q) / 2 ^ 8 = q by omega, show (m + 256 * M) / 2 ^ 8 = M by omega]
  omega
theorem N_1s {b r : Nat} (hb : b < 256) (hr : r < 4096) (fb : N_fb b = true) (fr : N_fr r = true) : N_1 0x55555555 (b + 256 * r) = N_y1 b + 256 * N_z1 r := by
  unfold N_fb at fb
  unfold N_fr at fr
  simp only [Bool.and_eq_true, decide_eq_true_eq, List.all_eq_true, List.mem_range] at fb fr
  obtain ⟨⟨⟨⟨⟨⟨⟨b1, b2⟩, b3⟩, b4⟩, b5⟩, b6⟩, b7⟩, b8⟩ := fb
  obtain ⟨⟨⟨⟨⟨r1, r2⟩, r3⟩, r4⟩, r59⟩, r6⟩ := fr
  have e : (b + 256 * r) / 2 = (b / 2 + 128 * (r % 2)) + 256 * (r / 2) := by omega
  have s : ((b / 2 + 128 * (r % 2)) + 256 * (r / 2)) &&& (0x55 + 256 * 0x555555) = ((b / 2 + 128 * (r % 2)) &&& 0x55) + 256 * (r / 2 &&& 0x555555) := N_split (by omega) (by decide)
  rw [b6 (r % 2) (by omega)] at s
  unfold N_1 N_y1 N_z1 N_1
  rw [e, show (0x55555555 : Nat) = 0x55 + 256 * 0x555555 from rfl, s]
  omega
theorem N_2s {b r : Nat} (hb : b < 256) (hr : r < 4096) (fb : N_fb b = true) (fr : N_fr r = true) : N_2 0x33333333 (N_y1 b + 256 * N_z1 r) = N_y2 b + 256 * N_z2 r := by
  unfold N_fb at fb
  simp only [Bool.and_eq_true, decide_eq_true_eq, List.all_eq_true, List.mem_range] at fb
  obtain ⟨⟨⟨⟨⟨⟨⟨b1, b2⟩, b3⟩, b4⟩, b5⟩, b6⟩, b7⟩, b8⟩ := fb
  unfold N_y2 N_z2
  generalize N_y1 b = y at *
  generalize N_z1 r = z at *
  have e : (y + 256 * z) / 4 = (y / 4 + 64 * (z % 4)) + 256 * (z / 4) := by omega
  have s : ((y / 4 + 64 * (z % 4)) + 256 * (z / 4)) &&& (0x33 + 256 * 0x333333) = ((y / 4 + 64 * (z % 4)) &&& 0x33) + 256 * (z / 4 &&& 0x333333) := N_split (by omega) (by decide)
  have s2 : (y + 256 * z) &&& (0x33 + 256 * 0x333333) = (y &&& 0x33) + 256 * (z &&& 0x333333) := N_split b2 (by decide)
  rw [b7 (z % 4) (by omega)] at s
  unfold N_2
  rw [e, show (0x33333333 : Nat) = 0x33 + 256 * 0x333333 from rfl, s, s2]
  omega
theorem N_3s {b r : Nat} (hb : b < 256) (hr : r < 4096) (fb : N_fb b = true) (fr : N_fr r = true) : N_3 0x0f0f0f0f (N_y2 b + 256 * N_z2 r) = N_pc 8 b + 256 * (N_pc 8 (r % 256) + 256 * N_pc 4 (r / 256)) := by
  unfold N_fb at fb
  unfold N_fr at fr
  simp only [Bool.and_eq_true, decide_eq_true_eq, List.all_eq_true, List.mem_range] at fb fr
  obtain ⟨⟨⟨⟨⟨⟨⟨b1, b2⟩, b3⟩, b4⟩, b5⟩, b6⟩, b7⟩, b8⟩ := fb
  obtain ⟨⟨⟨⟨⟨r1, r2⟩, r3⟩, r4⟩, r59⟩, r6⟩ := fr
  generalize N_y2 b = y at *
  generalize N_z2 r = z at *
  have e : (y + 256 * z) + (y + 256 * z) / 16 = (y + y / 16 + 16 * (z % 16)) + 256 * (z + z / 16) := by omega
  have s : ((y + y / 16 + 16 * (z % 16)) + 256 * (z + z / 16)) &&& (0x0f + 256 * 0x0f0f0f) = ((y + y / 16 + 16 * (z % 16)) &&& 0x0f) + 256 * ((z + z / 16) &&& 0x0f0f0f) := N_split (by omega) (by decide)
  rw [b8 (z % 16) (by omega), b4] at s
  rw [← r59]
  unfold N_3
  rw [e, show (0x0f0f0f0f : Nat) = 0x0f + 256 * 0x0f0f0f from rfl, s]
theorem q_s_app (f : Nat → Nat) (a : Nat) : ∀ b, q_s f (a + b) = q_s f a + q_s (fun i => f (a + i)) b
  | 0 => rfl
  | b + 1 => by
    show q_s f (a + b) + f (a + b) = q_s f a + (q_s (fun i => f (a + i)) b + f (a + b))
    rw [q_s_app f a b]
    omega
theorem N_pc_s (n : Nat) : q_bits n = N_pc 8 (n % 256) + (N_pc 8 (n / 256 % 256) + N_pc 4 (n / 256 / 256)) := by
  unfold q_bits N_pc
  rw [show (20 : Nat) = 8 + (8 + 4) from rfl, q_s_app, q_s_app]
  refine congr (congrArg HAdd.hAdd (q_s_congr fun i hi => ?_)) (congr (congrArg HAdd.hAdd (q_s_congr fun i hi => ?_)) (q_s_congr fun i hi => ?_))
  · rw [Nat.shiftRight_eq_div_pow, Nat.shiftRight_eq_div_pow]
    obtain rfl | rfl | rfl | rfl | rfl | rfl | rfl | rfl : i = 0 ∨ i = 1 ∨ i = 2 ∨ i = 3 ∨ i = 4 ∨ i = 5 ∨ i = 6 ∨ i = 7 := by omega
    all_goals omega
  · rw [Nat.shiftRight_eq_div_pow, Nat.shiftRight_eq_div_pow]
    obtain rfl | rfl | rfl | rfl | rfl | rfl | rfl | rfl : i = 0 ∨ i = 1 ∨ i = 2 ∨ i = 3 ∨ i = 4 ∨ i = 5 ∨ i = 6 ∨ i = 7 := by omega
    all_goals omega
  · rw [Nat.shiftRight_eq_div_pow, Nat.shiftRight_eq_div_pow]
    obtain rfl | rfl | rfl | rfl : i = 0 ∨ i = 1 ∨ i = 2 ∨ i = 3 := by omega
    all_goals omega
theorem J_bits_n {n : Nat} (hn : n < 1048576) : J_bits (nI n) = nI (q_bits n) := by
  have hb : n % 256 < 256 := Nat.mod_lt n (by decide)
  have hr : n / 256 < 4096 := by omega
  have fb := List.all_eq_true.mp N_fb_all (n % 256) (List.mem_range.mpr hb)
  have fr := List.all_eq_true.mp N_fr_all (n / 256) (List.mem_range.mpr hr)
  have en : n = n % 256 + 256 * (n / 256) := by omega
  have t1 : N_1 0x55555555 n = N_y1 (n % 256) + 256 * N_z1 (n / 256) := by
    conv => lhs; rw [en]
    exact N_1s hb hr fb fr
  have t2 := N_2s hb hr fb fr
  have t3 := N_3s hb hr fb fr
  have g1 : n / 2 &&& 0x55555555 ≤ n := Nat.le_trans Nat.and_le_left (Nat.div_le_self n 2)
  have i19 : J_b1 (nI n) = nI (N_1 0x55555555 n) := by
    unfold J_b1 N_1
    rw [J_u_n (k := 1) rfl (by omega), show (1431655765 : Int32) = nI 0x55555555 from rfl, nI_and (by omega) (by decide), pk_sub g1]
  have k1 : N_1 0x55555555 n < 1048576 := Nat.lt_of_le_of_lt (Nat.sub_le _ _) hn
  generalize hx1 : N_1 0x55555555 n = x1 at *
  have g2 : x1 &&& 0x33333333 ≤ x1 := Nat.and_le_left
  have g39 : x1 / 4 &&& 0x33333333 ≤ x1 / 4 := Nat.and_le_left
  have i2 : J_b2 (nI x1) = nI (N_2 0x33333333 x1) := by
    unfold J_b2 N_2
    rw [J_u_n (k := 2) rfl (by omega), show (858993459 : Int32) = nI 0x33333333 from rfl, nI_and (by omega) (by decide), nI_and (by omega) (by decide), nI_add]
  have k2 : N_2 0x33333333 x1 < 2097152 := by unfold N_2; omega
  rw [← t1] at t2
  generalize hx2 : N_2 0x33333333 x1 = x29 at *
  have i3 : J_b3 (nI x29) = nI (N_3 0x0f0f0f0f x29) := by
    unfold J_b3 N_3
    rw [J_u_n (k := 4) rfl (by omega), nI_add, show (252645135 : Int32) = nI 0x0f0f0f0f from rfl, nI_and (by omega) (by decide)]
  rw [← t2] at t3
  generalize hx3 : N_3 0x0f0f0f0f x29 = x3 at *
  unfold N_fb at fb
  unfold N_fr at fr
  simp only [Bool.and_eq_true, decide_eq_true_eq] at fb fr
  obtain ⟨⟨⟨⟨-, f5⟩, -⟩, -⟩, -⟩ := fb
  obtain ⟨-, f69⟩ := fr
  have f79 : N_pc 8 (n / 256 % 256) ≤ 8 := by
    have h := List.all_eq_true.mp N_fb_all (n / 256 % 256) (List.mem_range.mpr (Nat.mod_lt _ (by decide)))
    unfold N_fb at h
    simp only [Bool.and_eq_true, decide_eq_true_eq] at h
    exact h.1.1.1.2
  rw [N_pc_s n]
  generalize N_pc 8 (n % 256) = p0 at *
  generalize N_pc 8 (n / 256 % 256) = p1 at *
  generalize N_pc 4 (n / 256 / 256) = p2 at *
  unfold J_bits
  rw [i19, i2, i3]
  have i4 : J_b4 (nI x3) = nI (x3 + x3 / 256) := by
    unfold J_b4
    rw [J_u_n (k := 8) rfl (by omega), nI_add]
  rw [i4]
  have i5 : J_b5 (nI (x3 + x3 / 256)) = nI (x3 + x3 / 256 + (x3 + x3 / 256) / 65536) := by
    unfold J_b5
    rw [J_u_n (k := 16) rfl (by omega), nI_add]
  rw [i5, show (63 : Int32) = nI (2 ^ 6 - 1) from rfl, nI_and (by omega) (by decide), Nat.and_two_pow_sub_one_eq_mod]
  have q1 : x3 / 256 = p1 + 256 * p2 := by clear i19 i2 i3 i4 i5 t1 t2 en g1 g2 g39 k1 k2; omega
  have q2 : (x3 + x3 / 256) / 65536 = p2 := by rw [q1]; clear i19 i2 i3 i4 i5 t1 t2 en g1 g2 g39 k1 k2 q1; omega
  rw [q2, q1]
  refine congrArg nI ?_
  rw [t3]
  clear i19 i2 i3 i4 i5 t1 t2 en g1 g2 g39 k1 k2 q1 q2
  omega
