/-! the model: the questions with loops -/
theorem up_so {S O R : Type} {Q : aSt → Prop} {run : Nat → S → O → aSt → R} {F : Nat → S → S} {I : S → Prop} {n : Nat} (h : ∀ i s o τ, i < n → I s → Q τ → I (F i s) ∧ ∃ o' τ', Q τ' ∧ run i s o τ = run (i + 1) (F i s) o' τ') : ∀ k i s o τ, i + k = n → I s → Q τ → I (q_fold F k i s) ∧ ∃ o' τ', Q τ' ∧ run i s o τ = run n (q_fold F k i s) o' τ'
  | 0, i, s, o, τ, e, hI, hQ => by
    obtain rfl : i = n := by omega
    exact ⟨hI, o, τ, hQ, rfl⟩
  | k + 1, i, s, o, τ, e, hI, hQ => by
    obtain ⟨h1, o1, τ1, q1, h2⟩ := h i s o τ (by omega) hI hQ
    obtain ⟨h3, o2, τ2, q2, h4⟩ := up_so h k (i + 1) (F i s) o1 τ1 (by omega) h1 q1
    exact ⟨h3, o2, τ2, q2, h2.trans h4⟩
/-- the best so far, as the class and as the model keep it -/
def IB (s : Option Nat × Nat) : Prop := (s.1 = none ∧ s.2 = 1000000) ∨ ∃ r, s.1 = some r ∧ r < 5000 ∧ s.2 ≤ 585225
def z_l0 (s : Option Nat × Nat) : Nat := match s.1 with | none => 0 | some _ => s.2
theorem nI_m1 {r : Nat} (h : r < 2147483648) : ¬ nI r = -1 := fun z => by
  have := (o_eq (a := r) (b := 4294967295) (by omega) (by decide)).mp (z.trans (by decide))
  omega
theorem IB.st {R : Type} {s : Option Nat × Nat} (h : IB s) {v : Nat} (hv : v ≤ 585225) {A B : R} : (if g_res s.1 = -1 then A else if nI v < nI (z_l0 s) then A else B) = if v < s.2 then A else B := by
  obtain ⟨s1, s2⟩ := s
  rcases h with ⟨h1, h2⟩ | ⟨r, h1, h2, h3⟩
  · have h1 : s1 = none := h1
    have h2 : s2 = 1000000 := h2
    subst h1 h2
    rw [if_pos (show g_res none = -1 from rfl), if_pos (show v < 1000000 by omega)]
  · have h1 : s1 = some r := h1
    have h3 : s2 ≤ 585225 := h3
    subst h1
    show (if nI r = -1 then A else if nI v < nI s2 then A else B) = if v < s2 then A else B
    rw [if_neg (nI_m1 (by omega))]
    by_cases h : v < s2
    · rw [if_pos h, if_pos (nIl h (by omega))]
    · rw [if_neg h, if_neg (nIn (by omega) (by omega))]
section MOS
variable {P : aCall} {d : Nat} {σ : aSt} {X : Pal} {w : Nat} {x y z : Int32}
theorem y_called (hd : 6 ≤ d) (h : Sh σ) (M : MC σ w X) (V : Vd X) : OM (a_call a_tab P d 184 [.ref 237, .int x] σ) σ (o_1 (o_called X x)) := by
  have h20 := V.1.2
  obtain ⟨t, rfl, ht⟩ := o_ex x
  have h1 := fun v => (Mo.s6 (σ := σ) (v := v)).sh h
  unfold o_called
  rw [ht, n_X8_called (by omega), b_X8_called_0, y_isColour (by omega), g_v, b_X8_called_5 h, ht]
  by_cases c1 : t ≤ 16777215
  · rw [if_pos c1, decide_eq_true c1, show b_n true = nI 1 from rfl, y_lacksT (by omega) h, g_v, b_X8_called_8, if_pos (show nI 0 = 0 from rfl)]
    obtain ⟨-, o', s', ⟨q1, q2⟩, e⟩ := up_so (Q := fun τ => Mo SM σ τ ∧ a_I τ 237 6 = nI 0) (run := fun i (s : Option Nat × Nat) (o : Option Value) τ => b_R (a_call a_tab P (d - 1)) kX8_called [] (20, [some (.ref 237), some (.int (nI t)), some (.int (g_res s.1)), some (.int (nI (z_l0 s))), some (.int (nI i)), o], [], τ)) (n := X.1 1) (F := z_bst (fun m => z_far (z_col X (X.2 1 m)) t)) (I := IB)
      (fun i s o τ hi hs hq => by
        have M2 := M.sm hq.1
        have hh := hq.1.sh h
        have h5 := z_far_le (z_col X (X.2 1 i)) t
        have h6 := z_col_lt V (V.m hi)
        obtain ⟨s2, e2, m2⟩ := y_colourOf (P := P) (d := d - 1) (by omega) hh M2 V hi
        refine ⟨?_, some (.int (nI (z_far (z_col X (X.2 1 i)) t))), s2, ⟨hq.1.tr (m2.mono Sq.sm), by rw [Sq.n6 m2]; exact hq.2⟩, ?_⟩
        · unfold z_bst
          (try dsimp only)
          by_cases h7 : z_far (z_col X (X.2 1 i)) t < s.2
          · rw [if_pos h7]; exact .inr ⟨i, rfl, by omega, h5⟩
          · rw [if_neg h7]; exact hs
        · (try dsimp only)
          rw [b_X8_called_20 hh M2.1, b_gd_t (nIi (by decide) (by decide)), show a_I τ w (Int32.toNatClampNeg (nI 1)) = nI (X.1 1) from M2.2.2.2.1.2.1, if_pos (nIl hi (by omega)), e2, g_v, b_X8_called_37, y_far (by omega) h6 c1, g_v, b_X8_called_41, b_X8_called_54, b_X8_called_60, b_X8_called_60, nI_add, hs.st h5]
          unfold z_bst
          (try dsimp only)
          by_cases h7 : z_far (z_col X (X.2 1 i)) t < s.2
          · rw [if_pos h7, if_pos h7]; rfl
          · rw [if_neg h7, if_neg h7]) (X.1 1) 0 (none, 1000000) none (a_setI σ 237 6 (nI 0)) (by omega) (.inl ⟨rfl, rfl⟩) ⟨Mo.s6, a_I_at⟩
    have e : b_R (a_call a_tab P (d - 1)) kX8_called [] (20, [some (.ref 237), some (.int (nI t)), some (.int (-1)), some (.int (nI 0)), some (.int (nI 0)), none], [], a_setI σ 237 6 (nI 0)) = _ := e
    refine ⟨s', ?_, q1, q2⟩
    rw [e, b_X8_called_20 (q1.sh h) (M.sm q1).1, b_gd_t (nIi (by decide) (by decide)), show a_I s' w (Int32.toNatClampNeg (nI 1)) = nI (X.1 1) from (M.sm q1).2.2.2.1.2.1, if_neg (nIn (Nat.le_refl _) (by omega))]
    rfl
  · rw [if_neg c1, decide_eq_false c1, show b_n false = nI 0 from rfl, y_lacksF (by omega) h, g_v, b_X8_called_8, if_neg (show ¬ nI 1 = 0 by decide)]
    exact ⟨_, rfl, Mo.s6, a_I_at⟩
theorem y_strokesBy (hd : 2 ≤ d) (h : Sh σ) (M : MC σ w X) (V : Vd X) {m k : Nat} (hm : m < X.1 1) (hk : k < X.2 1 m 8) : a_call a_tab P d 188 [.ref 237, .int (nI m), .int (nI k)] σ = some (.inl (some (.int (nI (z_sp X (X.2 1 m) k)))), σ) := by
  have h20 := V.1
  have G := V.m hm
  have g4 := G.2.1
  obtain ⟨m1, m2, m3⟩ := G.2.2.1 k hk
  have h9 := (V.t m1).2.1
  obtain ⟨-, -, -, f10⟩ := M.2.2.2.2.2.1 m hm
  rw [n_X8_strokesBy (by omega), b_X8_strokesBy_0 h, nI_add, y_ofMix (by omega) h M.1 (by omega) (by omega), g_v, (f10 k hk).1, b_X8_strokesBy_10 h, y_ofTube (by omega) h M.1 (by omega) (by decide), g_v, (M.2.2.2.2.1 _ m1).2.1, b_X8_strokesBy_14 h, nI_add, y_ofMix (by omega) h M.1 (by omega) (by omega), g_v, (f10 k hk).2, b_X8_strokesBy_23, b_gd_t (nI_ne0 (by omega) (by omega)), pk_div (by omega) (by omega) (by omega)]
  rfl
theorem y_min_at {f : Nat → Nat} {b : Nat} : ∀ {n : Nat}, 1 ≤ n → (∀ i, i < n → f i ≤ b) → ∃ i, i < n ∧ z_min f b n = f i
  | 0, h, _ => absurd h (by decide)
  | 1, _, hb => ⟨0, by decide, by
    show min b (f 0) = f 0
    have := hb 0 (by decide)
    omega⟩
  | n + 2, _, hb => by
    obtain ⟨i, hi, e⟩ := y_min_at (f := f) (b := b) (n := n + 1) (by omega) fun i hi => hb i (by omega)
    show ∃ j, j < n + 2 ∧ min (z_min f b (n + 1)) (f (n + 1)) = f j
    rw [e]
    by_cases h : f i ≤ f (n + 1)
    · exact ⟨i, by omega, Nat.min_eq_left h⟩
    · exact ⟨n + 1, by omega, Nat.min_eq_right (by omega)⟩
theorem y_min_lt {f : Nat → Nat} {b : Nat} : ∀ {n : Nat} {i : Nat}, i < n → z_min f b n ≤ f i
  | 0, i, h => absurd h (Nat.not_lt_zero _)
  | n + 1, i, h => by
    show min (z_min f b n) (f n) ≤ f i
    by_cases e : i = n
    · subst e; exact Nat.min_le_right _ _
    · exact Nat.le_trans (Nat.min_le_left _ _) (y_min_lt (by omega))
theorem z_sp_le (V : Vd X) {m i : Nat} (hm : m < X.1 1) (hi : i < X.2 1 m 8) : z_sp X (X.2 1 m) i ≤ 9999 := Nat.le_trans (Nat.div_le_self _ _) (V.t ((V.m hm).2.2.1 i hi).1).2.1
theorem y_strokesOf (H : Pm P) (hd : 3 ≤ d) (h : Sh σ) (M : MC σ w X) (V : Vd X) {m : Nat} (hm : m < X.1 1) : a_call a_tab P d 189 [.ref 237, .int (nI m)] σ = some (.inl (some (.int (nI (z_str X (X.2 1 m))))), σ) := by
  have h20 := V.1
  have G := V.m hm
  have g4 := G.2.1
  have g1 := G.1
  obtain ⟨-, -, f9, -⟩ := M.2.2.2.2.2.1 m hm
  rw [n_X8_strokesOf (by omega), b_X8_strokesOf_0]
  have e := up_0 (run := fun i => b_R (a_call a_tab P (d - 1)) kX8_strokesOf [] (4, [some (.ref 237), some (.int (nI m)), some (.int (if i = 0 then -1 else nI (z_min (z_sp X (X.2 1 m)) 9999 i))), some (.int (nI i))], [], σ)) (n := X.2 1 m 8) fun i hi => by
    (try dsimp only)
    have h5 := z_sp_le V hm hi
    have h6 : z_min (z_sp X (X.2 1 m)) 9999 i ≤ 9999 := z_min_le i
    rw [b_X8_strokesOf_4 h, y_ofMix (by omega) h M.1 (by omega) (by decide), g_v, f9, b_X8_strokesOf_12 h, if_pos (nIl hi (by omega)), y_strokesBy (by omega) h M V hm hi, g_v, b_X8_strokesOf_26, b_X8_strokesOf_39, g_v, b_X8_strokesOf_36]
    show _ = b_R (a_call a_tab P (d - 1)) kX8_strokesOf [] (4, [some (.ref 237), some (.int (nI m)), some (.int (nI (min (z_min (z_sp X (X.2 1 m)) 9999 i) (z_sp X (X.2 1 m) i)))), some (.int (nI (i + 1)))], [], σ)
    by_cases h0 : i = 0
    · subst h0
      rw [if_pos (by rw [if_pos rfl]), nI_add, show min (z_min (z_sp X (X.2 1 m)) 9999 0) (z_sp X (X.2 1 m) 0) = z_sp X (X.2 1 m) 0 from Nat.min_eq_right h5]
    · rw [if_neg h0, if_neg (nI_m1 (by omega)), s_minN H (by omega) (by omega), g_v, b_X8_strokesOf_39, nI_add]
  have e : b_R (a_call a_tab P (d - 1)) kX8_strokesOf [] (4, [some (.ref 237), some (.int (nI m)), some (.int (-1)), some (.int (nI 0))], [], σ) = _ := e
  rw [e, b_X8_strokesOf_4 h, y_ofMix (by omega) h M.1 (by omega) (by decide), g_v, f9, b_X8_strokesOf_12 h, if_neg (nIn (Nat.le_refl _) (by omega)), if_neg (by omega)]
  rfl
theorem y_strokes (H : Pm P) (hd : 5 ≤ d) (h : Sh σ) (M : MC σ w X) (V : Vd X) : OM (a_call a_tab P d 190 [.ref 237, .int x] σ) σ (o_strokes X x) := by
  obtain ⟨t, rfl, ht⟩ := o_ex x
  have h1 := fun v => (Mo.s6 (σ := σ) (v := v)).sh h
  have M1 : MC (a_setI σ 237 6 (nI 0)) w X := M.sm Mo.s6
  unfold o_strokes
  rw [ht, n_X8_strokes (by omega), b_X8_strokes_0 h, y_isMix (by omega) h M V, g_v, b_X8_strokes_6 h, ht]
  by_cases c1 : t < X.1 1
  · rw [if_pos c1, decide_eq_true c1, show b_n true = nI 1 from rfl, y_lacksT (by omega) h, g_v, b_X8_strokes_9 (h1 _), if_pos (show nI 0 = 0 from rfl), y_strokesOf H (by omega) (h1 _) M1 V c1, g_v, b_X8_strokes_21]
    exact ⟨_, rfl, Mo.s6, a_I_at⟩
  · rw [if_neg c1, decide_eq_false c1, show b_n false = nI 0 from rfl, y_lacksF (by omega) h, g_v, b_X8_strokes_9 (h1 _), if_neg (show ¬ nI 1 = 0 by decide), b_X8_strokes_21]
    exact ⟨_, rfl, Mo.s6, a_I_at⟩
theorem y_shortest (H : Pm P) (hd : 5 ≤ d) (h : Sh σ) (M : MC σ w X) (V : Vd X) : OM (a_call a_tab P d 191 [.ref 237, .int x] σ) σ (o_shortest X x) := by
  have h20 := V.1
  obtain ⟨m, rfl, ht⟩ := o_ex x
  have h1 := fun v => (Mo.s6 (σ := σ) (v := v)).sh h
  have M1 : MC (a_setI σ 237 6 (nI 0)) w X := M.sm Mo.s6
  unfold o_shortest
  rw [ht, n_X8_shortest (by omega), b_X8_shortest_0 h, y_isMix (by omega) h M V, g_v, b_X8_shortest_6 h, ht]
  by_cases c1 : m < X.1 1
  · rw [if_pos c1, decide_eq_true c1, show b_n true = nI 1 from rfl, y_lacksT (by omega) h, g_v, b_X8_shortest_9, if_pos (show nI 0 = 0 from rfl)]
    have G := V.m c1
    have g4 := G.2.1
    have g1 := G.1
    have hs : z_str X (X.2 1 m) ≤ 9999 := z_min_le _
    obtain ⟨-, -, f9, f10⟩ := M1.2.2.2.2.2.1 m c1
    have F20 : ∀ i, i < X.2 1 m 8 → (if z_sp X (X.2 1 m) i = z_str X (X.2 1 m) then X.2 1 m (9 + i) else 20) ≤ 20 := fun i hi => by
      have := (G.2.2.1 i hi).1
      split <;> omega
    obtain ⟨o, -, e⟩ := up_st0 (run := fun i o => b_R (a_call a_tab P (d - 1)) kX8_shortest [] (18, [some (.ref 237), some (.int (nI m)), some (.int (if z_min (fun i => if z_sp X (X.2 1 m) i = z_str X (X.2 1 m) then X.2 1 m (9 + i) else 20) 20 i = 20 then -1 else nI (z_min (fun i => if z_sp X (X.2 1 m) i = z_str X (X.2 1 m) then X.2 1 m (9 + i) else 20) 20 i))), some (.int (nI i)), o], [], a_setI σ 237 6 (nI 0))) (n := X.2 1 m 8) (s := none) (fun _ _ => True) trivial (fun i o hi _ => ⟨some (.int (nI (X.2 1 m (9 + i)))), trivial, by
      have gt := (G.2.2.1 i hi).1
      have h5 := z_sp_le V c1 hi
      have h6 : z_min (fun i => if z_sp X (X.2 1 m) i = z_str X (X.2 1 m) then X.2 1 m (9 + i) else 20) 20 i ≤ 20 := z_min_le i
      (try dsimp only)
      rw [b_X8_shortest_18 (h1 _), y_ofMix (by omega) (h1 _) M1.1 (by omega) (by decide), g_v, f9, b_X8_shortest_26 (h1 _), if_pos (nIl hi (by omega)), nI_add, y_ofMix (by omega) (h1 _) M1.1 (by omega) (by omega), g_v, (f10 i hi).1, b_X8_shortest_38 (h1 _), y_strokesBy (by omega) (h1 _) M1 V c1 hi, g_v, b_X8_shortest_46 (h1 _), y_strokesOf H (by omega) (h1 _) M1 V c1, g_v, b_X8_shortest_51, b_X8_shortest_65, b_X8_shortest_70, b_X8_shortest_71, b_X8_shortest_71, nI_add]
      have em : z_min (fun i => if z_sp X (X.2 1 m) i = z_str X (X.2 1 m) then X.2 1 m (9 + i) else 20) 20 (i + 1) = min (z_min (fun i => if z_sp X (X.2 1 m) i = z_str X (X.2 1 m) then X.2 1 m (9 + i) else 20) 20 i) (if z_sp X (X.2 1 m) i = z_str X (X.2 1 m) then X.2 1 m (9 + i) else 20) := rfl
      rw [em]
      generalize z_min (fun i => if z_sp X (X.2 1 m) i = z_str X (X.2 1 m) then X.2 1 m (9 + i) else 20) 20 i = v at h6
      by_cases he : z_sp X (X.2 1 m) i = z_str X (X.2 1 m)
      · rw [if_pos he, if_pos (congrArg nI he)]
        by_cases hv : v = 20
        · subst hv
          rw [if_pos rfl, if_pos rfl, Nat.min_eq_right (by omega), if_neg (by omega)]
        · rw [if_neg hv, if_neg (nI_m1 (by omega))]
          by_cases hl : X.2 1 m (9 + i) < v
          · rw [if_pos (nIl hl (by omega)), Nat.min_eq_right (by omega), if_neg (by omega)]
          · rw [if_neg (nIn (by omega) (by omega)), Nat.min_eq_left (by omega), if_neg hv]
      · rw [if_neg he, if_neg (fun z => he ((o_eq (by omega) (by omega)).mp z)), Nat.min_eq_left h6]⟩)
    have e : b_R (a_call a_tab P (d - 1)) kX8_shortest [] (18, [some (.ref 237), some (.int (nI m)), some (.int (-1)), some (.int (nI 0)), none], [], a_setI σ 237 6 (nI 0)) = _ := e
    have hn : ¬ z_min (fun i => if z_sp X (X.2 1 m) i = z_str X (X.2 1 m) then X.2 1 m (9 + i) else 20) 20 (X.2 1 m 8) = 20 := by
      obtain ⟨i, hi, ei⟩ := y_min_at (f := z_sp X (X.2 1 m)) (b := 9999) g1 fun i hi => z_sp_le V c1 hi
      have := y_min_lt (f := fun i => if z_sp X (X.2 1 m) i = z_str X (X.2 1 m) then X.2 1 m (9 + i) else 20) (b := 20) hi
      have gt := (G.2.2.1 i hi).1
      have e2 : z_sp X (X.2 1 m) i = z_str X (X.2 1 m) := ei.symm
      rw [if_pos e2] at this
      omega
    refine ⟨a_setI σ 237 6 (nI 0), ?_, Mo.s6, a_I_at⟩
    rw [e, b_X8_shortest_18 (h1 _), y_ofMix (by omega) (h1 _) M1.1 (by omega) (by decide), g_v, f9, b_X8_shortest_26 (h1 _), if_neg (nIn (Nat.le_refl _) (by omega)), if_neg hn]
    rfl
  · rw [if_neg c1, decide_eq_false c1, show b_n false = nI 0 from rfl, y_lacksF (by omega) h, g_v, b_X8_shortest_9, if_neg (show ¬ nI 1 = 0 by decide)]
    exact ⟨_, rfl, Mo.s6, a_I_at⟩
end MOS
