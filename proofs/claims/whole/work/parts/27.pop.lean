/-! Palette: what is done to it; History -/
def z_ch (c w : Nat) : Nat := c / 2 ^ (16 - 8 * w) % 256
def z_sq (a b : Nat) : Nat := ((a - b) + (b - a)) * ((a - b) + (b - a))
def z_far (a b : Nat) : Nat := 2 * z_sq (z_ch a 0) (z_ch b 0) + 4 * z_sq (z_ch a 1) (z_ch b 1) + 3 * z_sq (z_ch a 2) (z_ch b 2)
theorem z_ch_lt (c w : Nat) : z_ch c w ≤ 255 := Nat.le_of_lt_succ (Nat.mod_lt _ (by decide))
theorem z_sq_le {a b : Nat} (ha : a ≤ 255) (hb : b ≤ 255) : z_sq a b ≤ 65025 := Nat.mul_le_mul (by omega : (a - b) + (b - a) ≤ 255) (by omega : (a - b) + (b - a) ≤ 255)
theorem z_far_le (a b : Nat) : z_far a b ≤ 585225 := by
  have h0 := z_sq_le (z_ch_lt a 0) (z_ch_lt b 0)
  have h1 := z_sq_le (z_ch_lt a 1) (z_ch_lt b 1)
  have h2 := z_sq_le (z_ch_lt a 2) (z_ch_lt b 2)
  unfold z_far
  omega
theorem z_sq_i (c a b : Nat) : nI c * (nI a - nI b) * (nI a - nI b) = nI (c * z_sq a b) := by
  rw [Int32.mul_assoc]
  by_cases h : b ≤ a
  · rw [pk_sub h, pk_mul, pk_mul]
    unfold z_sq
    rw [show b - a = 0 by omega, Nat.add_zero]
  · rw [← Int32.neg_sub, pk_sub (by omega : a ≤ b), Int32.neg_mul_neg, pk_mul, pk_mul]
    unfold z_sq
    rw [show a - b = 0 by omega, Nat.zero_add]
theorem z_ch_col {a b c : Nat} (ha : a ≤ 255) (hb : b ≤ 255) (hc : c ≤ 255) : z_ch (65536 * a + 256 * b + c) 0 = a ∧ z_ch (65536 * a + 256 * b + c) 1 = b ∧ z_ch (65536 * a + 256 * b + c) 2 = c := by
  unfold z_ch
  refine ⟨?_, ?_, ?_⟩
  · show (65536 * a + 256 * b + c) / 65536 % 256 = a
    omega
  · show (65536 * a + 256 * b + c) / 256 % 256 = b
    omega
  · show (65536 * a + 256 * b + c) / 1 % 256 = c
    omega
section STAT2
variable {P : aCall} {d : Nat} {σ : aSt}
theorem s_channel (hd : 1 ≤ d) {c w : Nat} (hc : c < 2147483648) (hw : w < 3) : a_call a_tab P d 140 [.int (nI c), .int (nI w)] σ = some (.inl (some (.int (nI (z_ch c w)))), σ) := by
  rw [n_X7_channel hd, b_X7_channel_0]
  have h : nI c >>> ((nI 16 - nI 8 * nI w) &&& 31) = nI (c / 2 ^ (16 - 8 * w)) := pk_shrN hc _ _ (by
    obtain rfl | rfl | rfl : w = 0 ∨ w = 1 ∨ w = 2 := by omega
    · decide
    · decide
    · decide)
  have h2 : c / 2 ^ (16 - 8 * w) ≤ c := Nat.div_le_self _ _
  rw [h, pk_andN (by omega) (m := nI 255) 8 (by decide)]
  rfl
theorem s_far (hd : 2 ≤ d) {a b : Nat} (ha : a < 2147483648) (hb : b < 2147483648) : a_call a_tab P d 141 [.int (nI a), .int (nI b)] σ = some (.inl (some (.int (nI (z_far a b)))), σ) := by
  rw [n_X7_farBetween (by omega), b_X7_farBetween_0, s_channel (by omega) ha (by decide), g_v, b_X7_farBetween_5, s_channel (by omega) hb (by decide), g_v, b_X7_farBetween_10, s_channel (by omega) ha (by decide), g_v, b_X7_farBetween_17, s_channel (by omega) hb (by decide), g_v, b_X7_farBetween_22,
    s_channel (by omega) ha (by decide), g_v, b_X7_farBetween_29, s_channel (by omega) hb (by decide), g_v, b_X7_farBetween_34, z_sq_i, z_sq_i, z_sq_i, nI_add, nI_add]
  rfl
end STAT2
/-- the widths of a palette's tables -/
def Wd (σ : aSt) (p : Nat) : Prop := a_I σ (p + 1) 1 = nI 13 ∧ a_I σ (p + 3) 1 = nI 17 ∧ a_I σ (p + 5) 1 = nI 4 ∧ a_I σ (p + 7) 1 = nI 4
theorem CP.wd {σ : aSt} {p : Nat} {X : Pal} (h : CP σ p X) : Wd σ p := ⟨h.2.1.2.1, h.2.2.1.2.1, h.2.2.2.1.2.1, h.2.2.2.2.1.2.1⟩
theorem Wd.mo {σ σ' : aSt} {S : Nat → Nat → Prop} {p : Nat} (h : Wd σ p) (m : Mo S σ σ') (h1 : ¬ S (p + 1) 1) (h3 : ¬ S (p + 3) 1) (h5 : ¬ S (p + 5) 1) (h7 : ¬ S (p + 7) 1) : Wd σ' p := by
  unfold Wd at *
  rw [m.I h1, m.I h3, m.I h5, m.I h7]
  exact h
/-- all of a palette but the widths -/
def Sp (p : Nat) (b k : Nat) : Prop := b = p ∨ b = p + 2 ∨ b = p + 4 ∨ b = p + 6 ∨ b = p + 8 ∨ ((b = p + 1 ∨ b = p + 3 ∨ b = p + 5 ∨ b = p + 7) ∧ k = 2)
theorem Sp.in {p b k : Nat} (h : Sp p b k) : p ≤ b ∧ b ≤ p + 8 := by unfold Sp at h; omega
def z_p0 : Pal := (fun j => match j with | 2 => 2 | 4 => 4 | 5 => 300 | _ => 0, fun _ _ _ => 0)
section POP
variable {P : aCall} {d : Nat} {σ : aSt} {p : Nat} {X : Pal}
theorem s_setBrushes (hd : 3 ≤ d) (ha : Pa σ p) (hw : a_I σ (p + 5) 1 = nI 4) {n : Nat} (hn : n ≤ 6) {x : Int32} (hx : x = nI n ∨ (n = 0 ∧ x = -1)) : ∃ σ', a_call a_tab P d 34 [.ref p, .int x] σ = some (.inl none, σ') ∧ Mo (fun b k => b = p + 6 ∨ (b = p + 5 ∧ k = 2)) σ σ' ∧ Tv σ' (p + 5) (p + 6) 4 24 n (fun _ _ => nI 0) := by
  rw [n_X1_setBrushes (by omega), b_X1_setBrushes_0 ha, s_removeAll (by omega) ha.2.2.2.2.2.2.2.2.1, g_n, b_X1_setBrushes_7]
  have ha1 : Pa (a_setI σ (p + 5) 2 (nI 0)) p := (Mo.set (S := fun _ _ => True) trivial).pa ha
  have key := up_st0 (run := fun i s => b_R (a_call a_tab P (d - 1)) kX1_setBrushes [] (9, [some (.ref p), some (.int x), some (.int (nI i))], [], s)) (n := n) (s := a_setI σ (p + 5) 2 (nI 0)) (fun i s => Mo (fun b k => b = p + 6 ∨ (b = p + 5 ∧ k = 2)) σ s ∧ Tv s (p + 5) (p + 6) 4 24 i (fun _ _ => nI 0))
    ⟨Mo.set (.inr ⟨rfl, rfl⟩), Tv.empty ha.2.2.2.2.2.2.2.2.1 hw (by decide) (by omega)⟩
    (fun i s hi ⟨m, T⟩ => by
      obtain ⟨s', e1, m1, T1⟩ := s_addRow (P := P) (d := d - 1) (by omega) T (by omega)
      refine ⟨s', ⟨m.tr m1, T1.congr fun r hr k hk => by (try dsimp only); split <;> rfl⟩, ?_⟩
      obtain rfl : x = nI n := hx.resolve_right fun z => by omega
      (try dsimp only)
      rw [b_X1_setBrushes_9 (m.pa ha), if_pos (nIl hi (by omega)), e1, g_v, b_X1_setBrushes_21, nI_add])
  obtain ⟨σ', ⟨m, T⟩, e⟩ := key
  refine ⟨σ', e.trans ?_, m, T⟩
  (try dsimp only)
  rw [b_X1_setBrushes_9 (m.pa ha)]
  rcases hx with rfl | ⟨rfl, rfl⟩
  · rw [if_neg (nIn (Nat.le_refl _) (by omega))]
  · rw [if_neg (by decide)]
theorem s_reset (hd : 4 ≤ d) (ha : Pa σ p) (W : Wd σ p) : ∃ σ', a_call a_tab P d 33 [.ref p] σ = some (.inl none, σ') ∧ Mo (Sp p) σ σ' ∧ CP σ' p z_p0 := by
  obtain ⟨w1, w2, w3, w4⟩ := W
  rw [n_X1_reset (by omega), b_X1_reset_0 ha, s_removeAll (by omega) ha.2.2.2.2.2.2.1, g_n]
  have m1 : Mo (Sp p) σ (a_setI σ (p + 1) 2 (nI 0)) := Mo.set (by unfold Sp; omega)
  have m2 := m1.then_set (a := p + 3) (k := 2) (v := nI 0) (by unfold Sp; omega)
  have m3 := m2.then_set (a := p + 7) (k := 2) (v := nI 0) (by unfold Sp; omega)
  rw [b_X1_reset_7 (m1.pa ha), s_removeAll (by omega) (m1.pa ha).2.2.2.2.2.2.2.1, g_n, b_X1_reset_14 (m2.pa ha), s_removeAll (by omega) (m2.pa ha).2.2.2.2.2.2.2.2.2, g_n, b_X1_reset_21 (m3.pa ha)]
  obtain ⟨s, e4, m4, T4⟩ := s_setBrushes (P := P) (d := d - 1) (p := p) (by omega) (m3.pa ha) (by rw [a_I_off (.inr (by decide)), a_I_off (.inr (by decide)), a_I_off (.inr (by decide))]; exact w3) (n := 2) (by decide) (.inl rfl)
  rw [e4, g_n]
  have m5 : Mo (Sp p) σ s := m3.tr (m4.mono fun b k h => by unfold Sp; omega)
  rw [b_X1_reset_26 (m5.pa ha)]
  have m6 := ((m5.then_set (a := p) (k := 4) (v := nI 4) (by unfold Sp; omega)).then_set (a := p) (k := 5) (v := nI 300) (by unfold Sp; omega)).then_set (a := p) (k := 6) (v := nI 0) (by unfold Sp; omega)
  refine ⟨_, rfl, m6, m6.pa ha, ?_, ?_, ?_, ?_, ?_, ?_, ?_⟩
  · refine ⟨(m6.pa ha).2.2.2.2.2.2.1, ?_, ?_, by decide, by decide, by omega, fun r hr => absurd hr (Nat.not_lt_zero _)⟩
    · rw [m6.I (by unfold Sp; omega)]; exact w1
    · rw [a_I_off (.inl (by omega)), a_I_off (.inl (by omega)), a_I_off (.inl (by omega)), m4.I (by omega), a_I_off (.inl (by omega)), a_I_off (.inl (by omega)), a_I_at]; rfl
  · refine ⟨(m6.pa ha).2.2.2.2.2.2.2.1, ?_, ?_, by decide, by decide, by omega, fun r hr => absurd hr (Nat.not_lt_zero _)⟩
    · rw [m6.I (by unfold Sp; omega)]; exact w2
    · rw [a_I_off (.inl (by omega)), a_I_off (.inl (by omega)), a_I_off (.inl (by omega)), m4.I (by omega), a_I_off (.inl (by omega)), a_I_at]; rfl
  · have mm : Mo (fun b _ => b = p) s (a_setI (a_setI (a_setI s p 4 (nI 4)) p 5 (nI 300)) p 6 (nI 0)) := ((Mo.set (S := fun b _ => b = p) rfl).then_set (S := fun b _ => b = p) rfl).then_set (S := fun b _ => b = p) rfl
    exact (T4.mo mm (by omega) (by omega) (fun k _ => by omega)).congr fun r hr k hk => rfl
  · refine ⟨(m6.pa ha).2.2.2.2.2.2.2.2.2, ?_, ?_, by decide, by decide, by omega, fun r hr => absurd hr (Nat.not_lt_zero _)⟩
    · rw [m6.I (by unfold Sp; omega)]; exact w4
    · rw [a_I_off (.inl (by omega)), a_I_off (.inl (by omega)), a_I_off (.inl (by omega)), m4.I (by omega), a_I_at]; rfl
  · rw [a_I_off (.inr (by decide)), a_I_off (.inr (by decide)), a_I_at]; rfl
  · rw [a_I_off (.inr (by decide)), a_I_at]; rfl
  · rw [a_I_at]; rfl
theorem s_pcopy (H : Pm P) (hd : 2 ≤ d) (ha : Pa σ p) (W : Wd σ p) {q : Nat} (Q : CP σ q X) (hpq : p + 8 < q ∨ q + 8 < p) : ∃ σ', a_call a_tab P d 35 [.ref p, .ref q] σ = some (.inl none, σ') ∧ Mo (Sp p) σ σ' ∧ CP σ' p X := by
  obtain ⟨w1, w2, w3, w4⟩ := W
  have hA := ha.2.2.2.2.2.2
  rw [n_X1_copyFrom (by omega), b_X1_copyFrom_0 ha Q.1]
  obtain ⟨s1, e1, m1, T1⟩ := s_copyFrom (P := P) (d := d - 1) H (by omega) hA.1 w1 (by omega) Q.2.1 (by omega) (by omega) (by omega) (by omega)
  have n1 : Mo (Sp p) σ s1 := m1.mono fun b k h => by unfold Sp; omega
  have Q1 : CP s1 q X := Q.mo n1 fun b k h1 h2 h3 => by have := h3.in; omega
  rw [e1, g_n, b_X1_copyFrom_11 (n1.pa ha) Q1.1]
  obtain ⟨s2, e2, m2, T2⟩ := s_copyFrom (P := P) (d := d - 1) H (by omega) (n1.pa ha).2.2.2.2.2.2.2.1 (by rw [n1.I (by unfold Sp; omega)]; exact w2) (by omega) Q1.2.2.1 (by omega) (by omega) (by omega) (by omega)
  have n2 : Mo (Sp p) σ s2 := n1.tr (m2.mono fun b k h => by unfold Sp; omega)
  have Q2 : CP s2 q X := Q.mo n2 fun b k h1 h2 h3 => by have := h3.in; omega
  rw [e2, g_n, b_X1_copyFrom_22 (n2.pa ha) Q2.1]
  obtain ⟨s3, e3, m3, T3⟩ := s_copyFrom (P := P) (d := d - 1) H (by omega) (n2.pa ha).2.2.2.2.2.2.2.2.1 (by rw [n2.I (by unfold Sp; omega)]; exact w3) (by omega) Q2.2.2.2.1 (by omega) (by omega) (by omega) (by omega)
  have n3 : Mo (Sp p) σ s3 := n2.tr (m3.mono fun b k h => by unfold Sp; omega)
  have Q3 : CP s3 q X := Q.mo n3 fun b k h1 h2 h3 => by have := h3.in; omega
  rw [e3, g_n, b_X1_copyFrom_33 (n3.pa ha) Q3.1]
  obtain ⟨s4, e4, m4, T4⟩ := s_copyFrom (P := P) (d := d - 1) H (by omega) (n3.pa ha).2.2.2.2.2.2.2.2.2 (by rw [n3.I (by unfold Sp; omega)]; exact w4) (by omega) Q3.2.2.2.2.1 (by omega) (by omega) (by omega) (by omega)
  have n4 : Mo (Sp p) σ s4 := n3.tr (m4.mono fun b k h => by unfold Sp; omega)
  have Q4 : CP s4 q X := Q.mo n4 fun b k h1 h2 h3 => by have := h3.in; omega
  rw [e4, g_n, b_X1_copyFrom_44 (n4.pa ha) Q4.1]
  have hq : ∀ k, a_I s4 q k = a_I s4 q k := fun _ => rfl
  have n5 := ((n4.then_set (a := p) (k := 4) (v := a_I s4 q 4) (by unfold Sp; omega)).then_set (a := p) (k := 5) (v := a_I (a_setI s4 p 4 (a_I s4 q 4)) q 5) (by unfold Sp; omega)).then_set (a := p) (k := 6) (v := a_I (a_setI (a_setI s4 p 4 (a_I s4 q 4)) p 5 (a_I (a_setI s4 p 4 (a_I s4 q 4)) q 5)) q 6) (by unfold Sp; omega)
  have mm : Mo (fun b _ => b = p) s4 (a_setI (a_setI (a_setI s4 p 4 (a_I s4 q 4)) p 5 (a_I (a_setI s4 p 4 (a_I s4 q 4)) q 5)) p 6 (a_I (a_setI (a_setI s4 p 4 (a_I s4 q 4)) p 5 (a_I (a_setI s4 p 4 (a_I s4 q 4)) q 5)) q 6)) := ((Mo.set (S := fun b _ => b = p) rfl).then_set (S := fun b _ => b = p) rfl).then_set (S := fun b _ => b = p) rfl
  refine ⟨_, rfl, n5, n5.pa ha, ?_, ?_, ?_, ?_, ?_, ?_, ?_⟩
  · exact (((T1.mo m2 (by omega) (by omega) (fun k _ => by omega)).mo m3 (by omega) (by omega) (fun k _ => by omega)).mo m4 (by omega) (by omega) (fun k _ => by omega)).mo mm (by omega) (by omega) (fun k _ => by omega)
  · exact ((T2.mo m3 (by omega) (by omega) (fun k _ => by omega)).mo m4 (by omega) (by omega) (fun k _ => by omega)).mo mm (by omega) (by omega) (fun k _ => by omega)
  · exact (T3.mo m4 (by omega) (by omega) (fun k _ => by omega)).mo mm (by omega) (by omega) (fun k _ => by omega)
  · exact T4.mo mm (by omega) (by omega) (fun k _ => by omega)
  · rw [a_I_off (.inr (by decide)), a_I_off (.inr (by decide)), a_I_at]; exact Q4.2.2.2.2.2.1
  · rw [a_I_off (.inr (by decide)), a_I_at, a_I_off (.inl (by omega))]; exact Q4.2.2.2.2.2.2.1
  · rw [a_I_at, a_I_off (.inl (by omega)), a_I_off (.inl (by omega))]; exact Q4.2.2.2.2.2.2.2
/-- a palette with one table's rows told anew -/
def z_up (X : Pal) (j : Nat) (f : Nat → Nat → Nat) : Pal := (X.1, fun i => if i = j then f else X.2 i)
def z_cnt (X : Pal) (j n : Nat) : Pal := (fun i => if i = j then n else X.1 i, X.2)
def z_clean (X : Pal) (b : Nat) : Pal := z_cnt (z_up X 2 (fun r k => if r = b ∧ k = 3 then (if X.1 6 < 5 then 0 else min 1 (X.2 2 b 3)) else X.2 2 r k)) 6 (min 9 (X.1 6 + X.2 2 b 3))
theorem s_cleanBrush (H : Pm P) (hd : 2 ≤ d) (C : CP σ p X) (V : Vd X) {b : Nat} (hb : b < X.1 2) : ∃ σ', a_call a_tab P d 51 [.ref p, .int (nI b)] σ = some (.inl (some (.int (nI (min 9 (X.1 6 + X.2 2 b 3))))), σ') ∧ Mo (Sp p) σ σ' ∧ CP σ' p (z_clean X b) := by
  have h9 := V.2.2.2.2.2.1
  have h3 := (V.b hb).2
  rw [n_X1_cleanBrush (by omega), b_X1_cleanBrush_0 C.1, s_get (by omega) C.2.2.2.1 hb (by decide), g_v, b_X1_cleanBrush_9 C.1, C.2.2.2.2.2.2.2]
  have key : ∀ v, v = (if X.1 6 < 5 then 0 else min 1 (X.2 2 b 3)) → ∃ σ', b_R (a_call a_tab P (d - 1)) kX1_cleanBrush [] (33, [some (.ref p), some (.int (nI b)), some (.int (nI (X.2 2 b 3)))], [.int (nI v), .int (nI 3), .int (nI b), .ref (p + 5)], σ) = some (.inl (some (.int (nI (min 9 (X.1 6 + X.2 2 b 3))))), σ') ∧ Mo (Sp p) σ σ' ∧ CP σ' p (z_clean X b) := by
    intro v hv
    obtain ⟨e1, T1⟩ := s_set (P := P) (d := d - 1) (v := nI v) (by omega) C.2.2.2.1 hb (by decide : 3 < 4)
    have m1 : Mo (fun b' _ => b' = p + 6) σ (a_setI σ (p + 6) (b * 4 + 3) (nI v)) := Mo.set rfl
    rw [b_X1_cleanBrush_33 C.1, e1, g_n, b_X1_cleanBrush_36 (m1.pa C.1), a_I_off (.inl (by omega)), C.2.2.2.2.2.2.2, nI_add, s_minN H (by decide) (by omega), g_v, b_X1_cleanBrush_48 (m1.pa C.1), a_I_at]
    have mm : Mo (fun b _ => b = p) (a_setI σ (p + 6) (b * 4 + 3) (nI v)) (a_setI (a_setI σ (p + 6) (b * 4 + 3) (nI v)) p 6 (nI (min 9 (X.1 6 + X.2 2 b 3)))) := Mo.set rfl
    have m2 : Mo (fun b' k => b' = p + 6 ∨ b' = p) σ (a_setI (a_setI σ (p + 6) (b * 4 + 3) (nI v)) p 6 (nI (min 9 (X.1 6 + X.2 2 b 3)))) := (m1.mono fun b k h => .inl h).tr (mm.mono fun b k h => .inr h)
    refine ⟨_, rfl, m2.mono fun b k h => by unfold Sp; omega, m2.pa C.1, ?_, ?_, ?_, ?_, ?_, ?_, ?_⟩
    · exact C.2.1.mo m2 (by omega) (by omega) (fun k _ => by omega)
    · exact C.2.2.1.mo m2 (by omega) (by omega) (fun k _ => by omega)
    · refine (T1.mo mm (by omega) (by omega) (fun k _ => by omega)).congr fun r hr k hk => ?_
      show _ = nI (if r = b ∧ k = 3 then (if X.1 6 < 5 then 0 else min 1 (X.2 2 b 3)) else X.2 2 r k)
      (try dsimp only)
      by_cases h : r = b ∧ k = 3
      · rw [if_pos h, if_pos h, hv]
      · rw [if_neg h, if_neg h]; rfl
    · exact C.2.2.2.2.1.mo m2 (by omega) (by omega) (fun k _ => by omega)
    · rw [a_I_off (.inr (by decide)), a_I_off (.inl (by omega))]; exact C.2.2.2.2.2.1
    · rw [a_I_off (.inr (by decide)), a_I_off (.inl (by omega))]; exact C.2.2.2.2.2.2.1
    · rw [a_I_at]; rfl
  by_cases h5 : X.1 6 < 5
  · rw [if_pos (nIl h5 (by decide))]
    exact key 0 (by rw [if_pos h5])
  · rw [if_neg (nIn (by omega) (by omega)), tv, s_minN H (by decide) (by omega), g_v]
    exact key _ (by rw [if_neg h5])
end POP
