/-! PaletteTubes: the questions with loops, the search, the quotients -/
theorem up_fo {S R : Type} {run : Nat → S → Option Value → R} {F : Nat → S → S} {I : S → Prop} {n : Nat} (h : ∀ i s o, i < n → I s → I (F i s) ∧ ∃ o', run i s o = run (i + 1) (F i s) o') : ∀ k i s o, i + k = n → I s → I (q_fold F k i s) ∧ ∃ o', run i s o = run n (q_fold F k i s) o'
  | 0, i, s, o, e, hI => by
    obtain rfl : i = n := by omega
    exact ⟨hI, o, rfl⟩
  | k + 1, i, s, o, e, hI => by
    obtain ⟨h1, o1, h2⟩ := h i s o (by omega) hI
    obtain ⟨h3, o2, h4⟩ := up_fo h k (i + 1) (F i s) o1 (by omega) h1
    exact ⟨h3, o2, h2.trans h4⟩
/-- the first of the least -/
def z_bst (f : Nat → Nat) (i : Nat) (s : Option Nat × Nat) : Option Nat × Nat := if f i < s.2 then (some i, f i) else s
def z_best (f : Nat → Nat) (n : Nat) : Option Nat := (q_fold (z_bst f) n 0 (none, 1000000)).1
section QSU
variable {P : aCall} {d : Nat} {σ : aSt} {X : Pal} {t : Nat} {x y z : Int32}
def o_apart (x y : Int32) : Nat ⊕ Int32 := if o_nat x ≤ 16777215 then (if o_nat y ≤ 16777215 then .inr (nI (z_far (o_nat x) (o_nat y))) else .inl 1) else .inl 1
theorem s_apart (hd : 5 ≤ d) : OQ (a_call a_tab P d 103 [.ref 100, .int x, .int y] σ) σ (o_apart x y) := by
  obtain ⟨t, rfl, ht⟩ := o_ex x
  obtain ⟨w, rfl, hw⟩ := o_ex y
  unfold o_apart
  by_cases h1 : t ≤ 16777215
  · by_cases h2 : w ≤ 16777215
    · rw [ht, if_pos h1, hw, if_pos h2]
      refine OQ.a ?_
      rw [n_X7_apart (by omega), b_X7_apart_0, s_rCol (by omega) h1, g_n, b_X7_apart_4, s_rCol (by omega) h2, g_n, b_X7_apart_8, s_far (by omega) (by omega) (by omega), g_v, b_X7_apart_13]
    · rw [ht, if_pos h1, hw, if_neg h2]
      show _ = _
      rw [n_X7_apart (by omega), b_X7_apart_0, s_rCol (by omega) h1, g_n, b_X7_apart_4, s_rColF (by omega) (by rw [hw]; exact h2), g_x]
  · rw [ht, if_neg h1]
    show _ = _
    rw [n_X7_apart (by omega), b_X7_apart_0, s_rColF (by omega) (by rw [ht]; exact h1), g_x]
def o_called (X : Pal) (x : Int32) : Nat ⊕ Int32 := if o_nat x ≤ 16777215 then .inr (g_res (z_best (fun m => z_far (z_col X (X.2 1 m)) (o_nat x)) (X.1 1))) else .inl 1
theorem s_called (hd : 6 ≤ d) (h : Sh σ) (C : CP σ 101 X) (V : Vd X) : OQ (a_call a_tab P d 104 [.ref 100, .int x] σ) σ (o_called X x) := by
  have h20 := V.1.2
  obtain ⟨t, rfl, ht⟩ := o_ex x
  unfold o_called
  by_cases h1 : t ≤ 16777215
  · rw [ht, if_pos h1]
    refine OQ.a ?_
    rw [n_X7_called (by omega), b_X7_called_0, s_rCol (by omega) h1, g_n, b_X7_called_4]
    obtain ⟨-, o', e⟩ := up_fo (run := fun i (s : Option Nat × Nat) o => b_R (a_call a_tab P (d - 1)) kX7_called [] (12, [some (.ref 100), some (.int (nI t)), some (.int (g_res s.1)), some (.int (nI s.2)), some (.int (nI i)), o], [], σ)) (n := X.1 1) (F := z_bst (fun m => z_far (z_col X (X.2 1 m)) t)) (I := fun s => s.2 ≤ 1000000)
      (fun i s o hi hs => by
        have h5 := z_far_le (z_col X (X.2 1 i)) t
        have h6 := z_col_lt V (V.m hi)
        obtain ⟨s1, s2⟩ := s
        (try dsimp only)
        rw [b_X7_called_12 h, show a_I σ 104 2 = _ from C.2.2.1.2.2.1, if_pos (nIl hi (by omega)), s_colourOf (by omega) C V (h := X.2 1) C.2.2.1 hi (V.m hi), g_v, b_X7_called_43, s_far (by omega) (by omega) (by omega), g_v, b_X7_called_47]
        unfold z_bst
        (try dsimp only)
        by_cases h7 : z_far (z_col X (X.2 1 i)) t < s2
        · rw [if_pos h7, if_pos (nIl h7 (by have : s2 ≤ 1000000 := hs; omega)), b_X7_called_61, nI_add]
          exact ⟨by show z_far _ _ ≤ _; omega, _, rfl⟩
        · rw [if_neg h7, if_neg (nIn (by omega) (by omega)), b_X7_called_61, nI_add]
          exact ⟨hs, _, rfl⟩) (X.1 1) 0 (none, 1000000) none (by omega) (Nat.le_refl _)
    have e : b_R (a_call a_tab P (d - 1)) kX7_called [] (12, [some (.ref 100), some (.int (nI t)), some (.int (-1)), some (.int (nI 1000000)), some (.int (nI 0)), none], [], σ) = _ := e
    rw [e, b_X7_called_12 h, show a_I σ 104 2 = _ from C.2.2.1.2.2.1, if_neg (nIn (Nat.le_refl _) (by omega))]
    rfl
  · rw [ht, if_neg h1]
    show _ = _
    rw [n_X7_called (by omega), b_X7_called_0, s_rColF (by omega) (by rw [ht]; exact h1), g_x]
def o_nearest (X : Pal) (x y z : Int32) : Nat ⊕ Int32 := if o_nat z < 10 then (if o_nat x ≤ 16777215 then (if 1 ≤ o_nat y ∧ o_nat y ≤ 3 then .inr (z_fig X (o_nat x) (z_near X (o_nat x) (o_nat y)) (o_nat z)) else .inl 1) else .inl 1) else .inl 0
theorem s_nearest (H : Pm P) (hd : 7 ≤ d) (h : Sh σ) (C : CP σ 101 X) (V : Vd X) : OQ (a_call a_tab P d 105 [.ref 100, .int x, .int y, .int z] σ) σ (o_nearest X x y z) := by
  obtain ⟨t, rfl, ht⟩ := o_ex x
  obtain ⟨k, rfl, hk⟩ := o_ex y
  obtain ⟨w, rfl, hw⟩ := o_ex z
  unfold o_nearest
  rw [ht, hk, hw]
  by_cases h1 : w < 10
  · by_cases h2 : t ≤ 16777215
    · by_cases h3 : 1 ≤ k ∧ k ≤ 3
      · rw [if_pos h1, if_pos h2, if_pos h3]
        obtain ⟨s1, e1, m1, -, R⟩ := s_run (P := P) (d := d - 1) (aim := t) (k := k) H (by omega) h (by decide) C V (by omega) h3.2
        refine ⟨s1, m1, ?_⟩
        rw [n_X7_nearest (by omega), b_X7_nearest_0, s_rWhat (by omega) (by decide) h1, g_n, b_X7_nearest_6, s_rCol (by omega) h2, g_n, b_X7_nearest_10, s_rArg (by omega) (by decide) h3.1 h3.2, g_n, b_X7_nearest_16 h, e1, g_n, b_X7_nearest_29 (m1.sh h), s_figure (by omega) (m1.sh h) R h1, g_v, b_X7_nearest_37]
      · rw [if_pos h1, if_pos h2, if_neg h3]
        show _ = _
        rw [n_X7_nearest (by omega), b_X7_nearest_0, s_rWhat (by omega) (by decide) h1, g_n, b_X7_nearest_6, s_rCol (by omega) h2, g_n, b_X7_nearest_10, s_rArgF (by omega) (by decide) (by decide) (by rw [hk]; exact h3), g_x]
    · rw [if_pos h1, if_neg h2]
      show _ = _
      rw [n_X7_nearest (by omega), b_X7_nearest_0, s_rWhat (by omega) (by decide) h1, g_n, b_X7_nearest_6, s_rColF (by omega) (by rw [ht]; exact h2), g_x]
  · rw [if_neg h1]
    show _ = _
    rw [n_X7_nearest (by omega), b_X7_nearest_0, s_rWhatF (by omega) (by decide) (by rw [hw]; exact h1), g_x]
def o_fewest (X : Pal) (x : Int32) : Nat ⊕ Int32 := if o_nat x ≤ 16777215 then .inr (g_res (g_find (fun k => decide (z_lf X (o_nat x) (z_near X (o_nat x) k) ≤ X.1 5)) 3 1)) else .inl 1
theorem s_fewest (H : Pm P) (hd : 7 ≤ d) (h : Sh σ) (C : CP σ 101 X) (V : Vd X) : OQ (a_call a_tab P d 106 [.ref 100, .int x] σ) σ (o_fewest X x) := by
  obtain ⟨t, rfl, ht⟩ := o_ex x
  unfold o_fewest
  rw [ht]
  by_cases h1 : t ≤ 16777215
  · rw [if_pos h1]
    obtain ⟨s1, e1, m1, U1, R1⟩ := s_begin (P := P) (d := d - 1) (aim := t) H (by omega) h (by decide) C V (by omega)
    have l : ∀ j n, 1 ≤ n → n + j = 4 → ∀ s, SI s1 X t s (z_near X t (n - 1)) (n - 1) → ∃ s', Mo So s1 s' ∧ b_R (a_call a_tab P (d - 1)) kX7_fewest [] (18, [some (.ref 100), some (.int (nI t)), some (.int (nI n))], [], s) = some (.inl (some (.int (g_res (g_find (fun k => decide (z_lf X t (z_near X t k) ≤ X.1 5)) j n)))), s') := by
      intro j
      induction j with
      | zero =>
        intro n h1 hn s I
        obtain rfl : n = 4 := by omega
        refine ⟨s, I.1, ?_⟩
        rw [b_X7_fewest_18 I.2.1, if_pos (by decide)]
        rfl
      | succ j ih =>
        intro n h1 hn s I
        obtain ⟨s2, e2, I2⟩ := s_tryAllOf (P := P) (d := d - 1) (by omega) V (n := n) ⟨I.1, I.2.1, I.2.2.1, I.2.2.2.mono (by omega)⟩ h1 (by omega)
        have en : z_near X t n = z_ph X t n (z_near X t (n - 1)) := by
          unfold z_near
          obtain ⟨k, rfl⟩ : ∃ k, n = k + 1 := ⟨n - 1, by omega⟩
          rw [q_fold_succ, Nat.add_sub_cancel, Nat.add_comm 1 k]
        rw [← en] at I2
        have e5 : a_I s2 101 5 = nI (X.1 5) := by
          rw [I2.1.I (by unfold So; omega), m1.I (by unfold Ss; omega)]
          exact C.2.2.2.2.2.2.1
        have hl := I2.2.2.2.lf_le V
        have h5 := V.2.2.2.2.1
        rw [b_X7_fewest_18 I.2.1, if_neg (nIn (by omega) (by omega)), e2, g_n, b_X7_fewest_31 I2.2.1, e5, I2.2.2.2.lf]
        unfold g_find
        by_cases h6 : z_lf X t (z_near X t n) ≤ X.1 5
        · rw [if_neg (nIn h6 (by omega)), if_pos (decide_eq_true h6)]
          exact ⟨s2, I2.1, rfl⟩
        · rw [if_pos (nIl (by omega) (by omega)), if_neg (by rw [decide_eq_true_eq]; exact h6), nI_add]
          exact ih (n + 1) (by omega) (by omega) s2 I2
    obtain ⟨s', m, e⟩ := l 3 1 (by decide) (by decide) s1 ⟨Mo.rf, m1.sh h, U1, R1⟩
    refine ⟨s', m1.tr (m.mono fun b k z => by unfold So at z; unfold Ss; omega), ?_⟩
    rw [n_X7_fewest (by omega), b_X7_fewest_0, s_rCol (by omega) h1, g_n, b_X7_fewest_4 h, e1, g_n, b_X7_fewest_16, e]
  · rw [if_neg h1]
    show _ = _
    rw [n_X7_fewest (by omega), b_X7_fewest_0, s_rColF (by omega) (by rw [ht]; exact h1), g_x]
def o_strokes (X : Pal) (x : Int32) : Nat ⊕ Int32 := if o_nat x < X.1 1 then .inr (nI (z_str X (X.2 1 (o_nat x)))) else .inl 0
theorem s_strokes (H : Pm P) (hd : 5 ≤ d) (h : Sh σ) (C : CP σ 101 X) (V : Vd X) : OQ (a_call a_tab P d 107 [.ref 100, .int x] σ) σ (o_strokes X x) := by
  obtain ⟨t, rfl, ht⟩ := o_ex x
  unfold o_strokes
  rw [ht]
  by_cases h1 : t < X.1 1
  · rw [if_pos h1]
    refine OQ.a ?_
    rw [n_X7_strokes (by omega), b_X7_strokes_0 h, s_rMix (by omega) h C V h1, g_n, b_X7_strokes_5 h, s_strokesLeft H (by omega) C V h1, g_v, b_X7_strokes_13]
  · rw [if_neg h1]
    show _ = _
    rw [n_X7_strokes (by omega), b_X7_strokes_0 h, s_rMixF (by omega) h C V (by rw [ht]; exact h1), g_x]
def o_shortest (X : Pal) (x : Int32) : Nat ⊕ Int32 := if o_nat x < X.1 1 then .inr (nI (z_short X (X.2 1 (o_nat x)))) else .inl 0
theorem s_shortest (H : Pm P) (hd : 5 ≤ d) (h : Sh σ) (C : CP σ 101 X) (V : Vd X) : OQ (a_call a_tab P d 108 [.ref 100, .int x] σ) σ (o_shortest X x) := by
  obtain ⟨t, rfl, ht⟩ := o_ex x
  unfold o_shortest
  rw [ht]
  by_cases h1 : t < X.1 1
  · rw [if_pos h1]
    refine OQ.a ?_
    rw [n_X7_shortest (by omega), b_X7_shortest_0 h, s_rMix (by omega) h C V h1, g_n, b_X7_shortest_5 h, s_tubeUsedUpFirst H (by omega) C V h1, g_v, b_X7_shortest_13]
  · rw [if_neg h1]
    show _ = _
    rw [n_X7_shortest (by omega), b_X7_shortest_0 h, s_rMixF (by omega) h C V (by rw [ht]; exact h1), g_x]
def o_would (X : Pal) (x y : Int32) : Nat ⊕ Int32 := if o_nat x < X.1 2 then (if o_nat y < X.1 1 then .inr (nI (z_pcol X (o_nat x) (X.2 1 (o_nat y)))) else .inl 0) else .inl 0
theorem s_wouldPaint (hd : 5 ≤ d) (h : Sh σ) (C : CP σ 101 X) (V : Vd X) : OQ (a_call a_tab P d 109 [.ref 100, .int x, .int y] σ) σ (o_would X x y) := by
  obtain ⟨t, rfl, ht⟩ := o_ex x
  obtain ⟨w, rfl, hw⟩ := o_ex y
  unfold o_would
  rw [ht, hw]
  by_cases h1 : t < X.1 2
  · by_cases h2 : w < X.1 1
    · rw [if_pos h1, if_pos h2]
      refine OQ.a ?_
      rw [n_X7_wouldPaint (by omega), b_X7_wouldPaint_0 h, s_rBrush (by omega) h C V h1, g_n, b_X7_wouldPaint_5 h, s_rMix (by omega) h C V h2, g_n, b_X7_wouldPaint_10 h, s_paintedColour (by omega) C V h1 h2, g_v, b_X7_wouldPaint_19]
    · rw [if_pos h1, if_neg h2]
      show _ = _
      rw [n_X7_wouldPaint (by omega), b_X7_wouldPaint_0 h, s_rBrush (by omega) h C V h1, g_n, b_X7_wouldPaint_5 h, s_rMixF (by omega) h C V (by rw [hw]; exact h2), g_x]
  · rw [if_neg h1]
    show _ = _
    rw [n_X7_wouldPaint (by omega), b_X7_wouldPaint_0 h, s_rBrushF (by omega) h C V (by rw [ht]; exact h1), g_x]
def o_brush (X : Pal) (x y : Int32) : Nat ⊕ Int32 := if o_nat x < X.1 2 then (if o_nat y < 4 then .inr (nI (X.2 2 (o_nat x) (o_nat y))) else .inl 0) else .inl 0
theorem s_brush (hd : 5 ≤ d) (h : Sh σ) (C : CP σ 101 X) (V : Vd X) : OQ (a_call a_tab P d 110 [.ref 100, .int x, .int y] σ) σ (o_brush X x y) := by
  obtain ⟨t, rfl, ht⟩ := o_ex x
  obtain ⟨w, rfl, hw⟩ := o_ex y
  unfold o_brush
  rw [ht, hw]
  by_cases h1 : t < X.1 2
  · by_cases h2 : w < 4
    · rw [if_pos h1, if_pos h2]
      refine OQ.a ?_
      rw [n_X7_brush (by omega), b_X7_brush_0 h, s_rBrush (by omega) h C V h1, g_n, b_X7_brush_5, s_rWhat (by omega) (by decide) h2, g_n, b_X7_brush_10 h, s_get (by omega) C.2.2.2.1 h1 h2, g_v, b_X7_brush_22]
      rfl
    · rw [if_pos h1, if_neg h2]
      show _ = _
      rw [n_X7_brush (by omega), b_X7_brush_0 h, s_rBrush (by omega) h C V h1, g_n, b_X7_brush_5, s_rWhatF (by omega) (by decide) (by rw [hw]; exact h2), g_x]
  · rw [if_neg h1]
    show _ = _
    rw [n_X7_brush (by omega), b_X7_brush_0 h, s_rBrushF (by omega) h C V (by rw [ht]; exact h1), g_x]
def o_painting (X : Pal) (x y : Int32) : Nat ⊕ Int32 := if o_nat x < X.1 3 then (if o_nat y < 4 then .inr (nI (X.2 3 (o_nat x) (o_nat y))) else .inl 0) else .inl 0
theorem s_rWhatM (hd : 1 ≤ d) {n : Nat} (hn : n < 2147483648) (ht : t < n) : a_call a_tab P d 136 [.int (nI t), .int (nI n - nI 1)] σ = some (.inl none, σ) := by
  obtain ⟨m, rfl⟩ : ∃ m, n = m + 1 := ⟨n - 1, by omega⟩
  rw [nI_s1]
  exact s_rWhat hd (by omega) ht
theorem s_rWhatMF (hd : 1 ≤ d) {n : Nat} (hn : n < 2147483648) (ht : ¬ o_nat x < n) : a_call a_tab P d 136 [.int x, .int (nI n - nI 1)] σ = some (.inr 0, a_made σ) := by
  cases n with
  | zero =>
    rw [n_X7_requireWhat (by omega), b_X7_requireWhat_0, b_X7_requireWhat_9]
    by_cases h0 : x < 0
    · rw [if_pos h0]
    · rw [if_neg h0, if_pos]
      rw [show (nI 0 - nI 1 : Int32) = -1 from rfl, Int32.lt_iff_toInt_lt, show (-1 : Int32).toInt = -1 from rfl, o_int x]
      rw [o_neg] at h0
      split <;> omega
  | succ m =>
    rw [nI_s1]
    exact s_rWhatF hd (by omega) ht
theorem s_painting (hd : 5 ≤ d) (h : Sh σ) (C : CP σ 101 X) (V : Vd X) : OQ (a_call a_tab P d 112 [.ref 100, .int x, .int y] σ) σ (o_painting X x y) := by
  have h12 := V.2.2.1
  obtain ⟨t, rfl, ht⟩ := o_ex x
  obtain ⟨w, rfl, hw⟩ := o_ex y
  unfold o_painting
  rw [ht, hw]
  have e0 : a_I σ 108 2 = nI (X.1 3) := C.2.2.2.2.1.2.2.1
  by_cases h1 : t < X.1 3
  · by_cases h2 : w < 4
    · rw [if_pos h1, if_pos h2]
      refine OQ.a ?_
      rw [n_X7_painting (by omega), b_X7_painting_0 h, e0, s_rWhatM (by omega) (by omega) h1, g_n, b_X7_painting_16, s_rWhat (by omega) (by decide) h2, g_n, b_X7_painting_21 h, s_get (by omega) C.2.2.2.2.1 h1 h2, g_v, b_X7_painting_33]
      rfl
    · rw [if_pos h1, if_neg h2]
      show _ = _
      rw [n_X7_painting (by omega), b_X7_painting_0 h, e0, s_rWhatM (by omega) (by omega) h1, g_n, b_X7_painting_16, s_rWhatF (by omega) (by decide) (by rw [hw]; exact h2), g_x]
  · rw [if_neg h1]
    show _ = _
    rw [n_X7_painting (by omega), b_X7_painting_0 h, e0, s_rWhatMF (by omega) (by omega) (by rw [ht]; exact h1), g_x]
def o_bestBrush (X : Pal) (x : Int32) : Nat ⊕ Int32 := if o_nat x < X.1 1 then .inr (g_res (z_best (fun b => z_far (z_pcol X b (X.2 1 (o_nat x))) (z_col X (X.2 1 (o_nat x)))) (X.1 2))) else .inl 0
theorem s_bestBrush (hd : 6 ≤ d) (h : Sh σ) (C : CP σ 101 X) (V : Vd X) : OQ (a_call a_tab P d 111 [.ref 100, .int x] σ) σ (o_bestBrush X x) := by
  have h6 := V.2.1.2
  obtain ⟨m, rfl, ht⟩ := o_ex x
  unfold o_bestBrush
  rw [ht]
  by_cases h1 : m < X.1 1
  · rw [if_pos h1]
    refine OQ.a ?_
    have M := V.m h1
    have h8 := z_col_lt V M
    rw [n_X7_bestBrush (by omega), b_X7_bestBrush_0 h, s_rMix (by omega) h C V h1, g_n, b_X7_bestBrush_5 h, s_colourOf (by omega) C V (h := X.2 1) C.2.2.1 h1 M, g_v, b_X7_bestBrush_20]
    obtain ⟨-, o', e⟩ := up_fo (run := fun i (s : Option Nat × Nat) o => b_R (a_call a_tab P (d - 1)) kX7_bestBrush [] (30, [some (.ref 100), some (.int (nI m)), some (.int (nI (z_col X (X.2 1 m)))), some (.int (g_res s.1)), some (.int (nI s.2)), some (.int (nI i)), o], [], σ)) (n := X.1 2) (F := z_bst (fun b => z_far (z_pcol X b (X.2 1 m)) (z_col X (X.2 1 m)))) (I := fun s => s.2 ≤ 1000000)
      (fun i s o hi hs => by
        have h5 := z_far_le (z_pcol X i (X.2 1 m)) (z_col X (X.2 1 m))
        have h9 := z_pcol_lt V hi M
        obtain ⟨s1, s2⟩ := s
        (try dsimp only)
        rw [b_X7_bestBrush_30 h, show a_I σ 106 2 = _ from C.2.2.2.1.2.2.1, if_pos (nIl hi (by omega)), s_paintedColour (by omega) C V hi h1, g_v, b_X7_bestBrush_55, s_far (by omega) (by omega) (by omega), g_v, b_X7_bestBrush_59]
        unfold z_bst
        (try dsimp only)
        by_cases h7 : z_far (z_pcol X i (X.2 1 m)) (z_col X (X.2 1 m)) < s2
        · rw [if_pos h7, if_pos (nIl h7 (by have : s2 ≤ 1000000 := hs; omega)), b_X7_bestBrush_75, nI_add]
          exact ⟨by show z_far _ _ ≤ _; omega, _, rfl⟩
        · rw [if_neg h7, if_neg (nIn (by omega) (by omega)), b_X7_bestBrush_75, nI_add]
          exact ⟨hs, _, rfl⟩) (X.1 2) 0 (none, 1000000) none (by omega) (Nat.le_refl _)
    have e : b_R (a_call a_tab P (d - 1)) kX7_bestBrush [] (30, [some (.ref 100), some (.int (nI m)), some (.int (nI (z_col X (X.2 1 m)))), some (.int (-1)), some (.int (nI 1000000)), some (.int (nI 0)), none], [], σ) = _ := e
    rw [e, b_X7_bestBrush_30 h, show a_I σ 106 2 = _ from C.2.2.2.1.2.2.1, if_neg (nIn (Nat.le_refl _) (by omega))]
    rfl
  · rw [if_neg h1]
    show _ = _
    rw [n_X7_bestBrush (by omega), b_X7_bestBrush_0 h, s_rMixF (by omega) h C V (by rw [ht]; exact h1), g_x]
end QSU
