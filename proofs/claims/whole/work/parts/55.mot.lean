/-! the model: paint, brushes, paintings, spare, closest, twins, the quotients -/
section MOT
variable {P : aCall} {d : Nat} {σ : aSt} {X : Pal} {w : Nat} {x y z : Int32}
theorem y_painted (hd : 3 ≤ d) (h : Sh σ) (M : MC σ w X) (V : Vd X) {b m : Nat} (hb : b < X.1 2) (hm : m < X.1 1) : ∃ σ', a_call a_tab P d 192 [.ref 237, .int (nI b), .int (nI m)] σ = some (.inl (some (.int (nI (z_pcol X b (X.2 1 m))))), σ') ∧ Mo Sq σ σ' ∧ TK σ' (X.2 1 m) := by
  have h6 := V.2.1.2
  have G := V.m hm
  obtain ⟨B1, B2⟩ := V.b hb
  obtain ⟨s1, e1, m1, T1⟩ := y_take (P := P) (d := d - 1) (by omega) h M V hm
  have M2 := M.sq m1
  have h2 := m1.sh h
  have f := M2.2.2.2.2.2.2.1 b hb
  refine ⟨s1, ?_, m1, T1⟩
  rw [n_X8_painted (by omega), b_X8_painted_0 h, e1, g_n, b_X8_painted_5 h2, y_ofBrush (by omega) h2 M2.1 (by omega) (by decide), g_v, f 3 (by decide), b_X8_painted_11]
  have step : ∀ k s, k < 3 → b_R (a_call a_tab P (d - 1)) kX8_painted [] (18, [some (.ref 237), some (.int (nI b)), some (.int (nI m)), some (.int (nI (X.2 2 b 3))), some (.int (nI s)), some (.int (nI k))], [], s1) = b_R (a_call a_tab P (d - 1)) kX8_painted [] (18, [some (.ref 237), some (.int (nI b)), some (.int (nI m)), some (.int (nI (X.2 2 b 3))), some (.int (nI (256 * s + z_paint X b (X.2 1 m) k))), some (.int (nI (k + 1)))], [], s1) := fun k s hk => by
    have h1 := z_val_le V G hk
    have h3 := B1 k hk
    have h4 : X.2 2 b 3 * X.2 2 b k ≤ 3 * 255 := Nat.mul_le_mul B2 h3
    rw [b_X8_painted_18 h2, if_pos (nIl hk (by omega)), y_valueHere (by omega) h2 M2 V G T1 hk, g_v, b_X8_painted_37 h2, y_ofBrush (by omega) h2 M2.1 (by omega) (by omega), g_v, f k (by omega), b_X8_painted_46, pk_mul, pk_mul, pk_mul, nI_add, nI_add, y_rounded (by omega) (by omega) (by omega) (by omega), g_v, b_X8_painted_54, nI_add, nI_add]
    rfl
  have e := (step 0 0 (by decide)).trans ((step 1 _ (by decide)).trans (step 2 _ (by decide)))
  refine e.trans ?_
  rw [b_X8_painted_18 h2, if_neg (by decide)]
  unfold z_pcol
  have e : 256 * (256 * (256 * 0 + z_paint X b (X.2 1 m) 0) + z_paint X b (X.2 1 m) 1) + z_paint X b (X.2 1 m) 2 = 65536 * z_paint X b (X.2 1 m) 0 + 256 * z_paint X b (X.2 1 m) 1 + z_paint X b (X.2 1 m) 2 := by omega
  rw [e]
theorem y_wouldPaint (hd : 5 ≤ d) (h : Sh σ) (M : MC σ w X) (V : Vd X) : OM (a_call a_tab P d 193 [.ref 237, .int x, .int y] σ) σ (o_would X x y) := by
  obtain ⟨t, rfl, ht⟩ := o_ex x
  obtain ⟨k, rfl, hk⟩ := o_ex y
  have h1 := fun v => (Mo.s6 (σ := σ) (v := v)).sh h
  have M1 : MC (a_setI σ 237 6 (nI 0)) w X := M.sm Mo.s6
  unfold o_would
  rw [ht, hk, n_X8_wouldPaint (by omega), b_X8_wouldPaint_0 h, y_isBrush (by omega) h M V, g_v, b_X8_wouldPaint_6 h, ht]
  by_cases c1 : t < X.1 2
  · rw [if_pos c1, decide_eq_true c1, if_neg (show ¬ b_n true = 0 by decide), y_isMix (by omega) h M V, g_v, b_X8_wouldPaint_14, hk]
    by_cases c2 : k < X.1 1
    · rw [if_pos c2, decide_eq_true c2, if_neg (show ¬ b_n true = 0 by decide), b_X8_wouldPaint_22 h, y_lacksT (by omega) h, g_v, b_X8_wouldPaint_25 (h1 _), if_pos (show nI 0 = 0 from rfl)]
      obtain ⟨s1, e1, m1, -⟩ := y_painted (P := P) (d := d - 1) (by omega) (h1 (nI 0)) M1 V c1 c2
      rw [e1, g_v, b_X8_wouldPaint_38]
      exact ⟨s1, rfl, Mo.s6.tr (m1.mono Sq.sm), by rw [Sq.n6 m1]; exact a_I_at⟩
    · rw [if_neg c2, decide_eq_false c2, if_pos (show b_n false = 0 by decide), b_X8_wouldPaint_21, b_X8_wouldPaint_22 h, y_lacksF (by omega) h, g_v, b_X8_wouldPaint_25 (h1 _), if_neg (show ¬ nI 1 = 0 by decide), b_X8_wouldPaint_38]
      exact ⟨_, rfl, Mo.s6, a_I_at⟩
  · rw [if_neg c1, decide_eq_false c1, if_pos (show b_n false = 0 by decide), b_X8_wouldPaint_21, b_X8_wouldPaint_22 h, y_lacksF (by omega) h, g_v, b_X8_wouldPaint_25 (h1 _), if_neg (show ¬ nI 1 = 0 by decide), b_X8_wouldPaint_38]
    exact ⟨_, rfl, Mo.s6, a_I_at⟩
theorem y_brush (hd : 5 ≤ d) (h : Sh σ) (M : MC σ w X) (V : Vd X) : OM (a_call a_tab P d 194 [.ref 237, .int x, .int y] σ) σ (o_brush X x y) := by
  have h6 := V.2.1.2
  obtain ⟨t, rfl, ht⟩ := o_ex x
  obtain ⟨k, rfl, hk⟩ := o_ex y
  have h1 := fun v => (Mo.s6 (σ := σ) (v := v)).sh h
  have M1 : MC (a_setI σ 237 6 (nI 0)) w X := M.sm Mo.s6
  unfold o_brush
  rw [ht, hk, n_X8_brush (by omega), b_X8_brush_0 h, y_isBrush (by omega) h M V, g_v, b_X8_brush_6, ht]
  by_cases c1 : t < X.1 2
  · rw [if_pos c1, decide_eq_true c1, if_neg (show ¬ b_n true = 0 by decide)]
    by_cases c2 : k < 4
    · rw [if_pos c2, y_whatT (by omega) (by decide) c2, g_v, b_X8_brush_15, if_neg (show ¬ nI 1 = 0 by decide), b_X8_brush_23 h, y_lacksT (by omega) h, g_v, b_X8_brush_26 (h1 _), if_pos (show nI 0 = 0 from rfl), y_ofBrush (by omega) (h1 _) M1.1 (by omega) c2, g_v, b_X8_brush_39, M1.2.2.2.2.2.2.1 t c1 k c2]
      exact ⟨_, rfl, Mo.s6, a_I_at⟩
    · rw [if_neg c2, y_whatF (by omega) (by decide) hk c2, g_v, b_X8_brush_15, if_pos (show nI 0 = 0 from rfl), b_X8_brush_22, b_X8_brush_23 h, y_lacksF (by omega) h, g_v, b_X8_brush_26 (h1 _), if_neg (show ¬ nI 1 = 0 by decide), b_X8_brush_39]
      exact ⟨_, rfl, Mo.s6, a_I_at⟩
  · rw [if_neg c1, decide_eq_false c1, if_pos (show b_n false = 0 by decide), b_X8_brush_22, b_X8_brush_23 h, y_lacksF (by omega) h, g_v, b_X8_brush_26 (h1 _), if_neg (show ¬ nI 1 = 0 by decide), b_X8_brush_39]
    exact ⟨_, rfl, Mo.s6, a_I_at⟩
theorem y_painting (hd : 5 ≤ d) (h : Sh σ) (M : MC σ w X) (V : Vd X) : OM (a_call a_tab P d 196 [.ref 237, .int x, .int y] σ) σ (o_painting X x y) := by
  have h12 := V.2.2.1
  obtain ⟨t, rfl, ht⟩ := o_ex x
  obtain ⟨k, rfl, hk⟩ := o_ex y
  have h1 := fun v => (Mo.s6 (σ := σ) (v := v)).sh h
  have M1 : MC (a_setI σ 237 6 (nI 0)) w X := M.sm Mo.s6
  have M1w : Rw (a_setI σ 237 6 (nI 1)) w := (M.sm Mo.s6).1
  unfold o_painting
  rw [ht, hk, n_X8_painting (by omega), b_X8_painting_0 h M.1, b_gd_t (nIi (by decide) (by decide)), show a_I σ w (Int32.toNatClampNeg (nI 6)) = nI (X.1 3) from M.2.2.2.1.2.2.2.2.2.2, y_inI (by omega) (by omega), g_v, b_X8_painting_15, ht]
  by_cases c1 : t < X.1 3
  · rw [if_pos c1, decide_eq_true c1, if_neg (show ¬ b_n true = 0 by decide)]
    by_cases c2 : k < 4
    · rw [if_pos c2, y_whatT (by omega) (by decide) c2, g_v, b_X8_painting_24, if_neg (show ¬ nI 1 = 0 by decide), b_X8_painting_32 h, y_lacksT (by omega) h, g_v, b_X8_painting_35 (h1 _) M1.1, if_pos (show nI 0 = 0 from rfl), pk_mul, nI_add, nI_add, b_gd_t (nIi (by omega) (by decide)), nIc (by omega), M1.2.2.2.2.2.2.2 t c1 k c2, b_X8_painting_56]
      exact ⟨_, rfl, Mo.s6, a_I_at⟩
    · rw [if_neg c2, y_whatF (by omega) (by decide) hk c2, g_v, b_X8_painting_24, if_pos (show nI 0 = 0 from rfl), b_X8_painting_31, b_X8_painting_32 h, y_lacksF (by omega) h, g_v, b_X8_painting_35 (h1 _) M1w, if_neg (show ¬ nI 1 = 0 by decide), b_X8_painting_56]
      exact ⟨_, rfl, Mo.s6, a_I_at⟩
  · rw [if_neg c1, decide_eq_false c1, if_pos (show b_n false = 0 by decide), b_X8_painting_31, b_X8_painting_32 h, y_lacksF (by omega) h, g_v, b_X8_painting_35 (h1 _) M1w, if_neg (show ¬ nI 1 = 0 by decide), b_X8_painting_56]
    exact ⟨_, rfl, Mo.s6, a_I_at⟩
theorem y_bestBrush (hd : 6 ≤ d) (h : Sh σ) (M : MC σ w X) (V : Vd X) : OM (a_call a_tab P d 195 [.ref 237, .int x] σ) σ (o_bestBrush X x) := by
  have h6 := V.2.1
  obtain ⟨m, rfl, ht⟩ := o_ex x
  have h1 := fun v => (Mo.s6 (σ := σ) (v := v)).sh h
  have M1 : MC (a_setI σ 237 6 (nI 0)) w X := M.sm Mo.s6
  unfold o_bestBrush
  rw [ht, n_X8_bestBrush (by omega), b_X8_bestBrush_0 h, y_isMix (by omega) h M V, g_v, b_X8_bestBrush_6 h, ht]
  by_cases c1 : m < X.1 1
  · have G := V.m c1
    have h8 := z_col_lt V G
    obtain ⟨s1, e1, m1⟩ := y_colourOf (P := P) (d := d - 1) (by omega) (h1 (nI 0)) M1 V c1
    rw [if_pos c1, decide_eq_true c1, show b_n true = nI 1 from rfl, y_lacksT (by omega) h, g_v, b_X8_bestBrush_9 (h1 _), if_pos (show nI 0 = 0 from rfl), e1, g_v, b_X8_bestBrush_19]
    have fle := fun b => z_far_le (z_pcol X b (X.2 1 m)) (z_col X (X.2 1 m))
    obtain ⟨⟨r, -, -, -⟩, o', s', ⟨q1, q2⟩, e⟩ := up_so (Q := fun τ => Mo SM σ τ ∧ a_I τ 237 6 = nI 0) (run := fun i (s : Option Nat × Nat) (o : Unit) τ => b_R (a_call a_tab P (d - 1)) kX8_bestBrush [] (25, [some (.ref 237), some (.int (nI m)), some (.int (nI (z_col X (X.2 1 m)))), some (.int (g_res s.1)), some (.int (nI i))], [], τ)) (n := X.1 2) (F := z_bst (fun b => z_far (z_pcol X b (X.2 1 m)) (z_col X (X.2 1 m)))) (I := fun s => ∃ r, s.1 = some r ∧ r < X.1 2 ∧ s.2 = z_far (z_pcol X r (X.2 1 m)) (z_col X (X.2 1 m)))
      (fun i s o τ hi hs hq => by
        have M2 := M.sm hq.1
        have hh := hq.1.sh h
        obtain ⟨r, hr, hr2, hr3⟩ := hs
        obtain ⟨a1, a2⟩ := s
        have hr : a1 = some r := hr
        have hr3 : a2 = _ := hr3
        subst hr hr3
        have h9 := z_pcol_lt V hi G
        have h10 := z_pcol_lt V hr2 G
        have f1 := fle i
        have f2 := fle r
        obtain ⟨s2, e2, m2, -⟩ := y_painted (P := P) (d := d - 1) (by omega) hh M2 V hi c1
        obtain ⟨s3, e3, m3, -⟩ := y_painted (P := P) (d := d - 1) (by omega) (m2.sh hh) (M2.sq m2) V hr2 c1
        refine ⟨?_, (), s3, ⟨hq.1.tr ((m2.tr m3).mono Sq.sm), by rw [Sq.n6 m3, Sq.n6 m2]; exact hq.2⟩, ?_⟩
        · unfold z_bst
          (try dsimp only)
          by_cases h7 : z_far (z_pcol X i (X.2 1 m)) (z_col X (X.2 1 m)) < z_far (z_pcol X r (X.2 1 m)) (z_col X (X.2 1 m))
          · rw [if_pos h7]; exact ⟨i, rfl, hi, rfl⟩
          · rw [if_neg h7]; exact ⟨r, rfl, hr2, rfl⟩
        · (try dsimp only)
          rw [b_X8_bestBrush_25 hh M2.1, b_gd_t (nIi (by decide) (by decide)), show a_I τ w (Int32.toNatClampNeg (nI 2)) = nI (X.1 2) from M2.2.2.2.1.2.2.1, if_pos (nIl hi (by omega)), e2, g_v, b_X8_bestBrush_43, y_far (by omega) h9 h8, g_v, b_X8_bestBrush_47 (m2.sh hh), show g_res (some r) = nI r from rfl, e3, g_v, b_X8_bestBrush_53, y_far (by omega) h10 h8, g_v, b_X8_bestBrush_57, b_X8_bestBrush_66, b_X8_bestBrush_66, nI_add]
          unfold z_bst
          (try dsimp only)
          by_cases h7 : z_far (z_pcol X i (X.2 1 m)) (z_col X (X.2 1 m)) < z_far (z_pcol X r (X.2 1 m)) (z_col X (X.2 1 m))
          · rw [if_pos h7, if_pos (nIl h7 (by omega))]; rfl
          · rw [if_neg h7, if_neg (nIn (by omega) (by omega))]; rfl) (X.1 2 - 1) 1 (some 0, z_far (z_pcol X 0 (X.2 1 m)) (z_col X (X.2 1 m))) () s1 (by omega) ⟨0, rfl, by omega, rfl⟩ ⟨Mo.s6.tr (m1.mono Sq.sm), by rw [Sq.n6 m1]; exact a_I_at⟩
    have e : b_R (a_call a_tab P (d - 1)) kX8_bestBrush [] (25, [some (.ref 237), some (.int (nI m)), some (.int (nI (z_col X (X.2 1 m)))), some (.int (nI 0)), some (.int (nI 1))], [], s1) = _ := e
    have eb : z_best (fun b => z_far (z_pcol X b (X.2 1 m)) (z_col X (X.2 1 m))) (X.1 2) = (q_fold (z_bst (fun b => z_far (z_pcol X b (X.2 1 m)) (z_col X (X.2 1 m)))) (X.1 2 - 1) 1 (some 0, z_far (z_pcol X 0 (X.2 1 m)) (z_col X (X.2 1 m)))).1 := by
      unfold z_best
      obtain ⟨j, hj⟩ : ∃ j, X.1 2 = j + 1 := ⟨X.1 2 - 1, by omega⟩
      rw [hj]
      show (q_fold _ j 1 (z_bst (fun b => z_far (z_pcol X b (X.2 1 m)) (z_col X (X.2 1 m))) 0 (none, 1000000))).1 = _
      have f0 := fle 0
      rw [show z_bst (fun b => z_far (z_pcol X b (X.2 1 m)) (z_col X (X.2 1 m))) 0 (none, 1000000) = (some 0, z_far (z_pcol X 0 (X.2 1 m)) (z_col X (X.2 1 m))) from if_pos (show z_far (z_pcol X 0 (X.2 1 m)) (z_col X (X.2 1 m)) < 1000000 by omega)]
      rfl
    refine ⟨s', ?_, q1, q2⟩
    rw [e, b_X8_bestBrush_25 (q1.sh h) (M.sm q1).1, b_gd_t (nIi (by decide) (by decide)), show a_I s' w (Int32.toNatClampNeg (nI 2)) = nI (X.1 2) from (M.sm q1).2.2.2.1.2.2.1, if_neg (nIn (Nat.le_refl _) (by omega)), eb]
  · rw [if_neg c1, decide_eq_false c1, show b_n false = nI 0 from rfl, y_lacksF (by omega) h, g_v, b_X8_bestBrush_9 (h1 _), if_neg (show ¬ nI 1 = 0 by decide)]
    exact ⟨_, rfl, Mo.s6, a_I_at⟩
theorem y_spare (hd : 5 ≤ d) (h : Sh σ) (M : MC σ w X) (V : Vd X) : OM (a_call a_tab P d 197 [.ref 237] σ) σ (.inr (g_res (z_spare X))) := by
  have h20 := V.1
  have hh := (Mo.s6 (σ := σ) (v := nI 0)).sh h
  have M2 : MC (a_setI σ 237 6 (nI 0)) w X := M.sm Mo.s6
  have e1 : a_I (a_setI σ 237 6 (nI 0)) w (Int32.toNatClampNeg (nI 0)) = nI (X.1 0) := M2.2.2.2.1.1
  refine ⟨a_setI σ 237 6 (nI 0), ?_, Mo.s6, a_I_at⟩
  obtain ⟨-, -, -, rfl, e⟩ := up_so (Q := fun τ => a_setI σ 237 6 (nI 0) = τ) (run := fun i (s : Option Nat × Nat) (o : Unit) τ => b_R (a_call a_tab P (d - 1)) kX8_spare [] (9, [some (.ref 237), some (.int (g_res s.1)), some (.int (nI i))], [], τ)) (n := X.1 0) (F := fun t s => if z_use X t = true ∧ z_users X t < s.2 then (some t, z_users X t) else s) (I := fun s => (s.1 = none ∧ s.2 = 21) ∨ ∃ r, s.1 = some r ∧ r < X.1 0 ∧ s.2 = z_users X r)
    (fun i s o τ hi hs hq => by
      subst hq
      have u1 := z_users_le V (t := i)
      obtain ⟨-, -, f4, -⟩ := M2.2.2.2.2.1 i hi
      have st : b_R (a_call a_tab P (d - 1)) kX8_spare [] (9, [some (.ref 237), some (.int (g_res s.1)), some (.int (nI i))], [], a_setI σ 237 6 (nI 0)) = if z_use X i = true ∧ z_users X i < s.2 then b_R (a_call a_tab P (d - 1)) kX8_spare [] (9, [some (.ref 237), some (.int (nI i)), some (.int (nI (i + 1)))], [], a_setI σ 237 6 (nI 0)) else b_R (a_call a_tab P (d - 1)) kX8_spare [] (9, [some (.ref 237), some (.int (g_res s.1)), some (.int (nI (i + 1)))], [], a_setI σ 237 6 (nI 0)) := by
        rw [b_X8_spare_9 hh M2.1, b_gd_t (nIi (by decide) (by decide)), e1, if_pos (nIl hi (by omega)), y_ofTube (by omega) hh M2.1 (by omega) (by decide), g_v, f4, b_X8_spare_25 hh, b_X8_spare_47, b_X8_spare_49, b_X8_spare_49, nI_add]
        cases hu : z_use X i with
        | false => rw [if_neg (show ¬ nI (z_1 false) = nI 1 by decide), if_neg (fun z => by cases z.1)]
        | true =>
          rw [if_pos (show nI (z_1 true) = nI 1 from rfl)]
          obtain ⟨a1, a2⟩ := s
          rcases hs with ⟨p1, p2⟩ | ⟨r, p1, p2, p3⟩
          · have p1 : a1 = none := p1
            have p2 : a2 = 21 := p2
            subst p1 p2
            rw [if_pos (show g_res none = -1 from rfl), if_pos ⟨rfl, show z_users X i < 21 by omega⟩]
          · have p1 : a1 = some r := p1
            have p3 : a2 = z_users X r := p3
            subst p1 p3
            have u2 := z_users_le V (t := r)
            rw [show g_res (some r) = nI r from rfl, if_neg (nI_m1 (by omega)), y_users (by omega) hh M2 V (by omega), g_v, b_X8_spare_39 hh, y_users (by omega) hh M2 V (by omega), g_v, b_X8_spare_44, b_X8_spare_47, b_X8_spare_49, b_X8_spare_49, nI_add]
            by_cases hl : z_users X i < z_users X r
            · rw [if_pos (nIl hl (by omega)), if_pos ⟨rfl, hl⟩]
            · rw [if_neg (nIn (by omega) (by omega)), if_neg fun z => hl z.2]
      refine ⟨?_, (), _, rfl, ?_⟩
      · (try dsimp only)
        by_cases hc : z_use X i = true ∧ z_users X i < s.2
        · rw [if_pos hc]; exact .inr ⟨i, rfl, hi, rfl⟩
        · rw [if_neg hc]; exact hs
      · (try dsimp only)
        rw [st]
        by_cases hc : z_use X i = true ∧ z_users X i < s.2
        · rw [if_pos hc, if_pos hc]; rfl
        · rw [if_neg hc, if_neg hc]) (X.1 0) 0 (none, 21) () _ (by omega) (.inl ⟨rfl, rfl⟩) rfl
  have e : b_R (a_call a_tab P (d - 1)) kX8_spare [] (9, [some (.ref 237), some (.int (-1)), some (.int (nI 0))], [], a_setI σ 237 6 (nI 0)) = _ := e
  rw [n_X8_spare (by omega), b_X8_spare_0 h, e, b_X8_spare_9 hh M2.1, b_gd_t (nIi (by decide) (by decide)), e1, if_neg (nIn (Nat.le_refl _) (by omega))]
  rfl
end MOT
