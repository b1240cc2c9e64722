/-! the model: nearest, fewest, loss -/
section MOX
variable {P : aCall} {d : Nat} {σ : aSt} {X : Pal} {w : Nat} {x y z : Int32}
theorem y_place {k : Nat} (h4 : 4 ≤ k) (h10 : k < 10) : (nI k - nI 4) - (nI k - nI 4) / nI 3 * nI 3 = nI (if k < 7 then k - 4 else k - 7) := by
  obtain rfl | rfl | rfl | rfl | rfl | rfl : k = 4 ∨ k = 5 ∨ k = 6 ∨ k = 7 ∨ k = 8 ∨ k = 9 := by omega
  all_goals decide
theorem y_nearestE (hd : 16 ≤ d) (h : Sh σ) (M : MC σ w X) (V : Vd X) {t k n : Nat} (h1 : n < 10) (h2 : t ≤ 16777215) (h3 : 1 ≤ k ∧ k ≤ 3) : ∃ σ', b_R (a_call a_tab P (d - 1)) kX8_nearest [] (36, [some (.ref 237), some (.int (nI t)), some (.int (nI k)), some (.int (nI n)), none], [.int (nI 0), .ref 237], σ) = some (.inl (some (.int (z_fig X t (z_near X t k) n))), σ') ∧ Mo SM σ σ' ∧ a_I σ' 237 6 = nI 0 := by
  have M1 : MC (a_setI σ 237 6 (nI 0)) w X := M.sm Mo.s6
  have hh := (Mo.s6 (σ := σ) (v := nI 0)).sh h
  obtain ⟨s1, e1, m1, B⟩ := y_findNearest (P := P) (d := d - 1) (by omega) hh M1 V h2 h3.2
  have hs := m1.sh hh
  refine ⟨s1, ?_, Mo.s6.tr (m1.mono Yn.sm), by rw [Yn.n6 m1]; exact a_I_at⟩
  rw [b_X8_nearest_36 h, a_I_at, if_pos (show nI 0 = 0 from rfl), e1, g_n, b_X8_nearest_54 hs]
  generalize z_near X t k = r at B ⊢
  cases r with
  | none => rw [if_pos (show a_I s1 237 13 = 0 from B.1)]; rfl
  | some c =>
    have c1 := B.1.1
    have c3 := B.1.2.1
    rw [B.2.1, if_neg (fun z => by have := (o_eq0 (by omega)).mp z; omega)]
    show _ = some ((.inl (some (.int (if n = 0 then nI (z_ccol X c) else if n = 1 then nI c.length else if n = 2 then nI (z_call c) else if n = 3 then nI (z_cfar X t c) else if n < 7 then (if n - 4 < c.length then nI (c.getD (n - 4) (0, 0)).1 else -1) else (if n - 7 < c.length then nI (c.getD (n - 7) (0, 0)).2 else -1)))) : aRes), s1)
    obtain rfl | rfl | rfl | rfl | h4 : n = 0 ∨ n = 1 ∨ n = 2 ∨ n = 3 ∨ 4 ≤ n := by omega
    · rw [show b_tsw 64 52 0 3 #[32, 37, 42, 47] (nI 0) = 96 from by decide +kernel, b_X8_nearest_96 hs, B.2.2.2.1]; rfl
    · rw [show b_tsw 64 52 0 3 #[32, 37, 42, 47] (nI 1) = 101 from by decide +kernel, b_X8_nearest_101 hs, B.2.1]; rfl
    · rw [show b_tsw 64 52 0 3 #[32, 37, 42, 47] (nI 2) = 106 from by decide +kernel, b_X8_nearest_106 hs, y_allBestParts (by omega) hs B, g_v, b_X8_nearest_110]; rfl
    · rw [show b_tsw 64 52 0 3 #[32, 37, 42, 47] (nI 3) = 111 from by decide +kernel, b_X8_nearest_111 hs, B.2.2.1]; rfl
    · have et : b_tsw 64 52 0 3 #[32, 37, 42, 47] (nI n) = 116 := by
        obtain rfl | rfl | rfl | rfl | rfl | rfl : n = 4 ∨ n = 5 ∨ n = 6 ∨ n = 7 ∨ n = 8 ∨ n = 9 := by omega
        all_goals decide +kernel
      rw [et, b_X8_nearest_116 hs, y_place h4 h1, B.2.1, if_neg (show ¬ n = 0 by omega), if_neg (show ¬ n = 1 by omega), if_neg (show ¬ n = 2 by omega), if_neg (show ¬ n = 3 by omega), b_X8_nearest_159, b_X8_nearest_159, b_X8_nearest_159]
      by_cases h7 : n < 7
      · rw [if_pos h7, if_pos h7]
        by_cases hp : n - 4 < c.length
        · rw [if_pos hp, if_pos (nIl hp (by omega)), if_pos (nIl h7 (by decide)), b_gd_t (nIi (by omega) (by decide)), nIc (by omega), (B.2.2.2.2 _ hp).1]
        · rw [if_neg hp, if_neg (nIn (by omega) (by omega))]
      · rw [if_neg h7, if_neg h7]
        by_cases hp : n - 7 < c.length
        · rw [if_pos hp, if_pos (nIl hp (by omega)), if_neg (nIn (by omega) (by omega)), b_gd_t (nIi (by omega) (by decide)), nIc (by omega), (B.2.2.2.2 _ hp).2]
        · rw [if_neg hp, if_neg (nIn (by omega) (by omega))]
theorem y_nearest (hd : 16 ≤ d) (h : Sh σ) (M : MC σ w X) (V : Vd X) : OM (a_call a_tab P d 186 [.ref 237, .int x, .int y, .int z] σ) σ (o_nearest X x y z) := by
  obtain ⟨t, rfl, ht⟩ := o_ex x
  obtain ⟨k, rfl, hk⟩ := o_ex y
  obtain ⟨n, rfl, hn⟩ := o_ex z
  have th : ∀ v, ¬ nI v = 0 → b_R (a_call a_tab P (d - 1)) kX8_nearest [] (36, [some (.ref 237), some (.int (nI t)), some (.int (nI k)), some (.int (nI n)), none], [.int (nI v), .ref 237], σ) = some (.inl (some (.int (nI 0))), a_setI σ 237 6 (nI v)) := fun v hv => by
    rw [b_X8_nearest_36 h, a_I_at, if_neg hv]
  unfold o_nearest
  rw [ht, hk, hn, n_X8_nearest (by omega), b_X8_nearest_0]
  by_cases c1 : n < 10
  · rw [if_pos c1, y_whatT (by omega) (by decide) c1, g_v, b_X8_nearest_8, if_neg (show ¬ nI 1 = 0 by decide), y_isColour (by omega), g_v, b_X8_nearest_19, ht]
    by_cases c2 : t ≤ 16777215
    · rw [if_pos c2, decide_eq_true c2, if_neg (show ¬ b_n true = 0 by decide), y_inR (by omega) (by decide) (by decide), g_v, b_X8_nearest_28, hk]
      by_cases c3 : 1 ≤ k ∧ k ≤ 3
      · rw [if_pos c3, decide_eq_true c3, if_neg (show ¬ b_n true = 0 by decide)]
        obtain ⟨s1, e1, m1, e6⟩ := y_nearestE (P := P) hd h M V c1 c2 c3
        exact ⟨s1, e1, m1, e6⟩
      · rw [if_neg c3, decide_eq_false c3, if_pos (show b_n false = 0 by decide), b_X8_nearest_35, th 2 (by decide)]
        exact ⟨_, rfl, Mo.s6, a_I_at⟩
    · rw [if_neg c2, decide_eq_false c2, if_pos (show b_n false = 0 by decide), b_X8_nearest_35, th 2 (by decide)]
      exact ⟨_, rfl, Mo.s6, a_I_at⟩
  · rw [if_neg c1, y_whatF (by omega) (by decide) hn c1, g_v, b_X8_nearest_8, if_pos (show nI 0 = 0 from rfl), th 1 (by decide)]
    exact ⟨_, rfl, Mo.s6, a_I_at⟩
theorem y_fewest (hd : 16 ≤ d) (h : Sh σ) (M : MC σ w X) (V : Vd X) : OM (a_call a_tab P d 187 [.ref 237, .int x] σ) σ (o_1 (o_fewest X x)) := by
  obtain ⟨t, rfl, ht⟩ := o_ex x
  have hh := (Mo.s6 (σ := σ) (v := nI 0)).sh h
  have h5 := V.2.2.2.2.1
  unfold o_fewest
  rw [ht, n_X8_fewest (by omega), b_X8_fewest_0, y_isColour (by omega), g_v, b_X8_fewest_5 h, ht]
  by_cases c1 : t ≤ 16777215
  · rw [if_pos c1, decide_eq_true c1, show b_n true = nI 1 from rfl, y_lacksT (by omega) h, g_v, b_X8_fewest_8, if_pos (show nI 0 = 0 from rfl)]
    have l : ∀ j n, 1 ≤ n → n + j = 4 → ∀ s, Mo SM σ s → a_I s 237 6 = nI 0 → ∃ s', b_R (a_call a_tab P (d - 1)) kX8_fewest [] (15, [some (.ref 237), some (.int (nI t)), some (.int (nI n))], [], s) = some (.inl (some (.int (g_res (g_find (fun k => decide (z_lf X t (z_near X t k) ≤ X.1 5)) j n)))), s') ∧ Mo SM σ s' ∧ a_I s' 237 6 = nI 0 := by
      intro j
      induction j with
      | zero =>
        intro n h1 hn s m e6
        obtain rfl : n = 4 := by omega
        refine ⟨s, ?_, m, e6⟩
        rw [b_X8_fewest_15 (m.sh h), if_pos (by decide)]
        rfl
      | succ j ih =>
        intro n h1 hn s m e6
        have hs := m.sh h
        obtain ⟨s1, e1, m1, B⟩ := y_findNearest (P := P) (d := d - 1) (by omega) hs (M.sm m) V c1 (k := n) (by omega)
        have m2 := m.tr (m1.mono Yn.sm)
        have f6 : a_I s1 237 6 = nI 0 := by rw [Yn.n6 m1]; exact e6
        have M2 := M.sm m2
        rw [b_X8_fewest_15 hs, if_neg (nIn (by omega) (by omega)), e1, g_n, b_X8_fewest_26 (m2.sh h) M2.1, b_X8_fewest_48, nI_add, b_gd_t (nIi (by decide) (by decide)), show a_I s1 w (Int32.toNatClampNeg (nI 4)) = nI (X.1 5) from M2.2.2.2.1.2.2.2.2.1]
        unfold g_find
        generalize z_near X t n = r at B ⊢
        cases r with
        | none =>
          rw [if_neg (by rw [B.1]; decide), if_neg (by rw [decide_eq_true_eq]; show ¬ 1000000 ≤ _; omega)]
          exact ih (n + 1) (by omega) (by omega) s1 m2 f6
        | some c =>
          have c1 := B.1.1
          have c3 := B.1.2.1
          have hb : z_cfar X t c ≤ 585225 := z_cfar_le fun w hw => z_ok_cv V B.1 hw
          rw [B.2.1, if_pos (by rw [← nI_0]; exact nIl (by omega) (by omega)), B.2.2.1]
          by_cases hl : z_cfar X t c ≤ X.1 5
          · rw [if_neg (nIn hl (by omega)), show z_lf X t (some c) = z_cfar X t c from rfl, if_pos (decide_eq_true hl)]
            exact ⟨s1, rfl, m2, f6⟩
          · rw [if_pos (nIl (by omega) (by omega)), show z_lf X t (some c) = z_cfar X t c from rfl, if_neg (by rw [decide_eq_true_eq]; exact hl)]
            exact ih (n + 1) (by omega) (by omega) s1 m2 f6
    obtain ⟨s', e, m, e6⟩ := l 3 1 (by decide) (by decide) (a_setI σ 237 6 (nI 0)) Mo.s6 a_I_at
    exact ⟨s', e, m, e6⟩
  · rw [if_neg c1, decide_eq_false c1, show b_n false = nI 0 from rfl, y_lacksF (by omega) h, g_v, b_X8_fewest_8, if_neg (show ¬ nI 1 = 0 by decide)]
    exact ⟨_, rfl, Mo.s6, a_I_at⟩
theorem y_loss (hd : 16 ≤ d) (h : Sh σ) (M : MC σ w X) (V : Vd X) : OM (a_call a_tab P d 200 [.ref 237, .int x] σ) σ (o_loss X x) := by
  obtain ⟨m, rfl, ht⟩ := o_ex x
  have hh := fun v => (Mo.s6 (σ := σ) (v := v)).sh h
  have M1 : MC (a_setI σ 237 6 (nI 0)) w X := M.sm Mo.s6
  unfold o_loss
  rw [ht, n_X8_loss (by omega), b_X8_loss_0 h, y_isMix (by omega) h M V, g_v, b_X8_loss_6 h, ht]
  by_cases c1 : m < X.1 1
  · rw [if_pos c1, decide_eq_true c1, show b_n true = nI 1 from rfl, y_lacksT (by omega) h, g_v, b_X8_loss_9 (hh _), if_pos (show nI 0 = 0 from rfl)]
    obtain ⟨s1, e1, m1⟩ := y_colourOf (P := P) (d := d - 1) (by omega) (hh (nI 0)) M1 V c1
    obtain ⟨s2, e2, m2, B⟩ := y_findNearest (P := P) (d := d - 1) (by omega) (m1.sh (hh (nI 0))) (M1.sq m1) V (z_col_lt V (V.m c1)) (k := 3) (Nat.le_refl _)
    refine ⟨s2, ?_, (Mo.s6.tr (m1.mono Sq.sm)).tr (m2.mono Yn.sm), by rw [Yn.n6 m2, Sq.n6 m1]; exact a_I_at⟩
    rw [e1, g_v, b_X8_loss_20 (m1.sh (hh _)), e2, g_n, b_X8_loss_24 (m2.sh (m1.sh (hh _)))]
    show _ = some ((.inl (some (.int (z_fig X (z_col X (X.2 1 m)) (z_near X (z_col X (X.2 1 m)) 3) 3))) : aRes), s2)
    generalize z_col X (X.2 1 m) = a at B ⊢
    generalize z_near X a 3 = r at B ⊢
    cases r with
    | none => rw [B.2]; rfl
    | some c => rw [B.2.2.1]; rfl
  · rw [if_neg c1, decide_eq_false c1, show b_n false = nI 0 from rfl, y_lacksF (by omega) h, g_v, b_X8_loss_9 (hh _), if_neg (show ¬ nI 1 = 0 by decide)]
    exact ⟨_, rfl, Mo.s6, a_I_at⟩
end MOX
