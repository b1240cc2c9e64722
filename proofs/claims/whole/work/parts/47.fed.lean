/-! PaletteTubes: feed, and the small questions -/
def z_byte (w : Int32) (s : Nat) : Nat := o_nat ((w >>> (nI s &&& 31)) &&& nI 255)
theorem z_byte_lt {w : Int32} {s : Nat} : z_byte w s < 256 := by
  unfold z_byte o_nat
  rw [Int32.toBitVec_and, BitVec.toNat_and]
  exact Nat.lt_of_le_of_lt Nat.and_le_right (by decide)
def z_put (B : Nat → Nat) (n v : Nat) (i : Nat) : Nat := if i = n then v else B i
def z_app (B : Nat → Nat) (n : Nat) (x : Int32) : Nat → Nat := z_put (z_put (z_put (z_put B n (z_byte x 24)) (n + 1) (z_byte x 16)) (n + 2) (z_byte x 8)) (n + 3) (z_byte x 0)
def S1 (b k : Nat) : Prop := b = 221 ∨ (b = 220 ∧ k = 1)
theorem S1.kp {b k : Nat} (z : S1 b k) : KP b k := by unfold S1 at z; unfold KP; omega
section FED
variable {P : aCall} {d : Nat} {σ : aSt} {X : Pal} {hs : List Pal} {sn : Option Pal} {x : Int32} {n : Nat} {B : Nat → Nat}
theorem s_ap1 {C : aCall} (h : Sh σ) (b : KB σ n B) (hn : n < 900) {s : Nat} (hs : s ≤ 24) : ∃ σ', b_R C kX6_append [] (3, [some (.ref 220), some (.int x), some (.int (nI s))], [], σ) = b_R C kX6_append [] (3, [some (.ref 220), some (.int x), some (.int (nI s + (-8)))], [], σ') ∧ Mo S1 σ σ' ∧ KB σ' (n + 1) (z_put B n (z_byte x s)) := by
  obtain ⟨b1, b2, b3⟩ := b
  refine ⟨a_setI (a_setI σ 221 n ((x >>> (nI s &&& 31)) &&& (nI 255))) 220 1 (nI (n + 1)), ?_, (Mo.set (.inl rfl)).then_set (.inr ⟨rfl, rfl⟩), a_I_at, by omega, fun i hi => ?_⟩
  · rw [b_X6_append_3 h, if_neg (nIp (by omega)), b1, if_neg (nIp (by omega)), if_pos (nIl hn (by decide)), b_gd_t (nIi hn (by decide)), nIc (by omega), a_I_off (.inl (by decide)), b1, nI_add, b_X6_append_52]
  · rw [a_I_off (.inl (by decide)), a_I_set]
    unfold z_put
    by_cases hi2 : i = n
    · rw [if_pos ⟨rfl, hi2⟩, if_pos hi2]
      exact ⟨(o_nI _).symm, z_byte_lt⟩
    · rw [if_neg (fun z => hi2 z.2), if_neg hi2]
      exact b3 i (by omega)
theorem s_append (hd : 1 ≤ d) (h : Sh σ) (b : KB σ n B) (hn : n + 4 ≤ 900) : ∃ σ', a_call a_tab P d 15 [.ref 220, .int x] σ = some (.inl none, σ') ∧ Mo S1 σ σ' ∧ KB σ' (n + 4) (z_app B n x) := by
  obtain ⟨s1, e1, m1, b1⟩ := s_ap1 (C := a_call a_tab P (d - 1)) (x := x) h b (by omega) (s := 24) (by decide)
  obtain ⟨s2, e2, m2, b2⟩ := s_ap1 (C := a_call a_tab P (d - 1)) (x := x) (m1.sh h) b1 (by omega) (s := 16) (by decide)
  obtain ⟨s3, e3, m3, b3⟩ := s_ap1 (C := a_call a_tab P (d - 1)) (x := x) ((m1.tr m2).sh h) b2 (by omega) (s := 8) (by decide)
  obtain ⟨s4, e4, m4, b4⟩ := s_ap1 (C := a_call a_tab P (d - 1)) (x := x) (((m1.tr m2).tr m3).sh h) b3 (by omega) (s := 0) (by decide)
  refine ⟨s4, ?_, ((m1.tr m2).tr m3).tr m4, b4⟩
  rw [n_X6_append (by omega), b_X6_append_0, e1, show (nI 24 + (-8) : Int32) = nI 16 from by decide, e2, show (nI 16 + (-8) : Int32) = nI 8 from by decide, e3, show (nI 8 + (-8) : Int32) = nI 0 from by decide, e4, b_X6_append_3 ((((m1.tr m2).tr m3).tr m4).sh h), if_pos (by decide)]
theorem s_hasRoom (hd : 1 ≤ d) (h : Sh σ) (b : KB σ n B) : a_call a_tab P d 14 [.ref 220, .int (nI 20)] σ = some (.inl (some (.int (b_n (decide (n + 20 ≤ 900))))), σ) := by
  have := b.2.1
  rw [n_X6_hasRoom (by omega), b_X6_hasRoom_0 h, b.1, nI_add]
  by_cases h1 : n + 20 ≤ 900
  · rw [if_neg (nIn (by omega) (by omega)), b_X6_hasRoom_17, b_gd_t (by decide), decide_eq_true h1]
    rfl
  · rw [if_pos (nIl (by omega) (by omega)), b_X6_hasRoom_17, b_gd_t (by decide), decide_eq_false h1]
    rfl
def z_fed (B : Nat → Nat) (n : Nat) (x1 x2 x3 x4 x5 : Int32) : Nat → Nat := z_app (z_app (z_app (z_app (z_app B n x1) (n + 4) x2) (n + 8) x3) (n + 12) x4) (n + 16) x5
theorem s_feed {x1 x2 x3 x4 x5 : Int32} (hd : 2 ≤ d) (h : Sh σ) (b : KB σ n B) :
    (n + 20 ≤ 900 ∧ ∃ σ', a_call a_tab P d 90 [.ref 100, .int x1, .int x2, .int x3, .int x4, .int x5] σ = some (.inl (some (.int (nI (n + 20)))), σ') ∧ Mo S1 σ σ' ∧ KB σ' (n + 20) (z_fed B n x1 x2 x3 x4 x5)) ∨
    (¬ n + 20 ≤ 900 ∧ a_call a_tab P d 90 [.ref 100, .int x1, .int x2, .int x3, .int x4, .int x5] σ = some (.inl (some (.int (-1))), σ)) := by
  rw [n_X7_feed (by omega), b_X7_feed_0 h, s_hasRoom (by omega) h b, g_v, b_X7_feed_9 h]
  by_cases h1 : n + 20 ≤ 900
  · refine .inl ⟨h1, ?_⟩
    obtain ⟨s1, e1, m1, b1⟩ := s_append (P := P) (d := d - 1) (x := x1) (by omega) h b (by omega)
    have h2 := m1.sh h
    obtain ⟨s2, e2, m2, b2⟩ := s_append (P := P) (d := d - 1) (x := x2) (by omega) h2 b1 (by omega)
    have h3 := m2.sh h2
    obtain ⟨s3, e3, m3, b3⟩ := s_append (P := P) (d := d - 1) (x := x3) (by omega) h3 b2 (by omega)
    have h4 := m3.sh h3
    obtain ⟨s4, e4, m4, b4⟩ := s_append (P := P) (d := d - 1) (x := x4) (by omega) h4 b3 (by omega)
    have h5 := m4.sh h4
    obtain ⟨s5, e5, m5, b5⟩ := s_append (P := P) (d := d - 1) (x := x5) (by omega) h5 b4 (by omega)
    refine ⟨s5, ?_, (((m1.tr m2).tr m3).tr m4).tr m5, b5⟩
    rw [decide_eq_true h1, if_neg (show ¬ b_n true = 0 by decide), e1, g_n, b_X7_feed_22 h2, e2, g_n, b_X7_feed_30 h3, e3, g_n, b_X7_feed_38 h4, e4, g_n, b_X7_feed_47 h5, e5, g_n, b_X7_feed_56 (m5.sh h5), b5.1]
  · exact .inr ⟨h1, by rw [decide_eq_false h1, if_pos (show b_n false = 0 by decide)]⟩
theorem s_errorPosition (hd : 1 ≤ d) (h : Sh σ) : a_call a_tab P d 92 [.ref 100] σ = some (.inl (some (.int (a_I σ 220 9))), σ) := by
  rw [n_X7_errorPosition (by omega), b_X7_errorPosition_0 h]
theorem s_undoCount (hd : 1 ≤ d) (K : KC σ X hs sn) : a_call a_tab P d 129 [.ref 100] σ = some (.inl (some (.int (nI hs.length))), σ) := by
  obtain ⟨i, -, -, e, -⟩ := K.2.2.2.2.2.1.2.2.2
  rw [n_X7_undoCount (by omega), b_X7_undoCount_0 K.1, e]
end FED
