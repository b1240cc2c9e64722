/-! the model: paint -/
theorem nI_dec (n : Nat) : nI (n + 1) + -1 = nI n := by
  rw [show (-1 : Int32) = -(nI 1) from rfl, ← Int32.sub_eq_add_neg]
  exact nI_s1 n
/-- the palette behind a painting, before the painting is kept -/
def z_pb (X : Pal) (b : Nat) (g : Nat → Nat) (s : Nat) : Pal := (X.1, fun j => if j = 3 then X.2 3 else (z_pt X b g s).2 j)
section MOL
variable {P : aCall} {d : Nat} {σ : aSt} {X : Pal} {hs : List Pal} {sn : Option Pal} {x y z : Int32}
theorem y_keep (H : Pm P) (hd : 2 ≤ d) (h : Sh σ) (hw : Rw σ 238) {n : Nat} (hn : n ≤ 12) (en : a_I σ 238 6 = nI n) {a1 a2 a3 a4 : Int32} : ∃ σ', a_call a_tab P d 206 [.ref 237, .int a1, .int a2, .int a3, .int a4] σ = some (.inl none, σ') ∧ Mo S238 σ σ' ∧ (∀ k, k < 672 → k ≠ 6 → a_I σ' 238 k = a_I σ 238 k) ∧ a_I σ' 238 672 = a1 ∧ a_I σ' 238 673 = a2 ∧ a_I σ' 238 674 = a3 ∧ a_I σ' 238 675 = a4 ∧ (∀ k, 676 ≤ k → k < 720 → a_I σ' 238 k = a_I σ 238 (k - 4)) ∧ a_I σ' 238 6 = nI (min 12 (n + 1)) := by
  obtain ⟨s1, ⟨q1, q2, q3⟩, e⟩ := up_st0 (run := fun i τ => b_R (a_call a_tab P (d - 1)) kX8_keepPainting [] (5, [some (.ref 237), some (.int a1), some (.int a2), some (.int a3), some (.int a4), some (.int (nI (719 - i)))], [], τ)) (n := 44) (s := σ) (fun i τ => Mo S238 σ τ ∧ (∀ k, k ≤ 719 - i → a_I τ 238 k = a_I σ 238 k) ∧ ∀ k, 719 - i < k → k < 720 → a_I τ 238 k = a_I σ 238 (k - 4)) ⟨Mo.rf, fun k _ => rfl, fun k h1 h2 => by omega⟩
    (fun i τ hi ⟨m1, c1, c2⟩ => by
      have hh := m1.sh h
      obtain ⟨j, hj⟩ : ∃ j, 719 - i = j + 1 := ⟨718 - i, by omega⟩
      rw [hj] at c1 c2
      refine ⟨a_setI τ 238 (j + 1) (a_I σ 238 (j - 3)), ⟨m1.then_set rfl, fun k hk => ?_, fun k hk1 hk2 => ?_⟩, ?_⟩
      · rw [a_I_off (.inr (by omega))]; exact c1 k (by omega)
      · by_cases hkj : k = j + 1
        · subst hkj
          rw [a_I_at]
          exact congrArg (a_I σ 238) (by omega)
        · rw [a_I_off (.inr hkj)]; exact c2 k (by omega) hk2
      · (try dsimp only)
        rw [hj, show 719 - (i + 1) = j by omega, b_X8_keepPainting_5 hh (m1.rw hw), if_neg (nIn (by omega) (by omega)), pk_sub (by omega), b_gd_t (nIi (by omega) (by decide)), b_gd_t (nIi (by omega) (by decide)), nIc (by omega), nIc (by omega), c1 _ (by omega), nI_dec, show j + 1 - 4 = j - 3 by omega])
  have hh := q1.sh h
  have m4 : Mo S238 s1 (a_setI (a_setI (a_setI (a_setI s1 238 672 a1) 238 673 a2) 238 674 a3) 238 675 a4) := (((Mo.set (S := S238) rfl).then_set rfl).then_set rfl).then_set rfl
  have e6 : a_I (a_setI (a_setI (a_setI (a_setI s1 238 672 a1) 238 673 a2) 238 674 a3) 238 675 a4) 238 6 = nI n := by
    rw [a_I_off (.inr (by decide)), a_I_off (.inr (by decide)), a_I_off (.inr (by decide)), a_I_off (.inr (by decide)), q2 6 (by decide)]
    exact en
  have e : b_R (a_call a_tab P (d - 1)) kX8_keepPainting [] (5, [some (.ref 237), some (.int a1), some (.int a2), some (.int a3), some (.int a4), some (.int (nI 719))], [], σ) = _ := e
  refine ⟨a_setI (a_setI (a_setI (a_setI (a_setI s1 238 672 a1) 238 673 a2) 238 674 a3) 238 675 a4) 238 6 (nI (min 12 (n + 1))), ?_, (q1.tr m4).then_set rfl, fun k hk hk6 => ?_, ?_, ?_, ?_, ?_, fun k hk1 hk2 => ?_, a_I_at⟩
  · rw [n_X8_keepPainting (by omega), b_X8_keepPainting_0, e]
    (try dsimp only)
    rw [b_X8_keepPainting_5 hh (q1.rw hw), if_pos (nIl (by omega) (by omega)), b_gd_t (nIi (by decide) (by decide)), b_gd_t (nIi (by decide) (by decide)), b_gd_t (nIi (by decide) (by decide)), b_gd_t (nIi (by decide) (by decide)), b_gd_t (nIi (by decide) (by decide)), nIc (by decide), nIc (by decide), nIc (by decide), nIc (by decide), nIc (by decide), e6, nI_add, s_minN H (by decide) (by omega), g_v, b_X8_keepPainting_92 ((q1.tr m4).rw hw), b_gd_t (nIi (by decide) (by decide)), nIc (by decide)]
  · rw [a_I_off (.inr hk6), a_I_off (.inr (by omega)), a_I_off (.inr (by omega)), a_I_off (.inr (by omega)), a_I_off (.inr (by omega)), q2 k (by omega)]
  · rw [a_I_off (.inr (by decide)), a_I_off (.inr (by decide)), a_I_off (.inr (by decide)), a_I_off (.inr (by decide)), a_I_at]
  · rw [a_I_off (.inr (by decide)), a_I_off (.inr (by decide)), a_I_off (.inr (by decide)), a_I_at]
  · rw [a_I_off (.inr (by decide)), a_I_off (.inr (by decide)), a_I_at]
  · rw [a_I_off (.inr (by decide)), a_I_at]
  · rw [a_I_off (.inr (by omega)), a_I_off (.inr (by omega)), a_I_off (.inr (by omega)), a_I_off (.inr (by omega)), a_I_off (.inr (by omega)), q3 k (by omega) hk2]
theorem y_drops (hd : 3 ≤ d) (h : Sh σ) (M : MC σ 238 X) (V : Vd X) {m s : Nat} (hm : m < X.1 1) (hs99 : s ≤ 99) (hs : s ≤ z_str X (X.2 1 m)) (T : TK σ (X.2 1 m)) {x1 x2 x4 : Value} (e1 : ∃ b, x1 = .int b) (e2 : ∃ b, x2 = .int b) (e4 : ∃ b, x4 = .int b) : ∃ σ', b_R (a_call a_tab P (d - 1)) kX8_paint [] (86, [some (.ref 237), some x1, some x2, some (.int (nI s)), some x4, some (.int (nI 0))], [], σ) = b_R (a_call a_tab P (d - 1)) kX8_paint [] (138, [some (.ref 237), some x1, some x2, some (.int (nI s)), some x4, some (.int (nI 0))], [], σ') ∧ Mo S238 σ σ' ∧ (∀ k, (k < 8 ∨ 288 ≤ k) → a_I σ' 238 k = a_I σ 238 k) ∧ ∀ t, t < X.1 0 → MT (a_I σ' 238) t (fun k => if k = 11 then X.2 0 t 11 - s * z_part (X.2 1 m) t (X.2 1 m 8) else X.2 0 t k) := by
  have h20 := V.1
  have G := V.m hm
  have g4 := G.2.1
  obtain ⟨b1, rfl⟩ := e1
  obtain ⟨b2, rfl⟩ := e2
  obtain ⟨b4, rfl⟩ := e4
  obtain ⟨s1, ⟨q1, q2, q3⟩, e⟩ := up_st0 (run := fun i τ => b_R (a_call a_tab P (d - 1)) kX8_paint [] (86, [some (.ref 237), some (.int b1), some (.int b2), some (.int (nI s)), some (.int b4), some (.int (nI i))], [], τ)) (n := X.2 1 m 8) (s := σ) (fun i τ => Mo S238 σ τ ∧ (∀ k, (k < 8 ∨ 288 ≤ k) → a_I τ 238 k = a_I σ 238 k) ∧ ∀ t, t < X.1 0 → MT (a_I τ 238) t (fun k => if k = 11 then X.2 0 t 11 - s * z_part (X.2 1 m) t i else X.2 0 t k))
    ⟨Mo.rf, fun k _ => rfl, fun t ht => by
      rw [show (fun k => if k = 11 then X.2 0 t 11 - s * z_part (X.2 1 m) t 0 else X.2 0 t k) = X.2 0 t from funext fun k => by
        by_cases hk : k = 11
        · subst hk; rw [if_pos rfl]; rfl
        · rw [if_neg hk]]
      exact M.2.2.2.2.1 t ht⟩
    (fun i τ hi ⟨m1, c1, c2⟩ => by
      have hh := m1.sh h
      have rw1 := m1.rw M.1
      obtain ⟨gt, gp1, gp9⟩ := G.2.2.1 i hi
      have t10 : a_I τ 237 10 = nI (X.2 1 m 8) := by rw [m1.I (by unfold S238; omega)]; exact T.1
      have t2 : a_I τ 242 i = nI (X.2 1 m (9 + i)) := by rw [m1.I (by unfold S238; omega)]; exact (T.2 i hi).1
      have t3 : a_I τ 243 i = nI (X.2 1 m (13 + i)) := by rw [m1.I (by unfold S238; omega)]; exact (T.2 i hi).2
      have z0 : z_part (X.2 1 m) (X.2 1 m (9 + i)) i = 0 := z_part_0 fun j hj z => by
        have := G.2.2.2 j (by omega) i hi z
        omega
      have hM := c2 _ gt
      have e3 : a_I τ 238 (8 + 14 * X.2 1 m (9 + i) + 3) = nI (X.2 0 (X.2 1 m (9 + i)) 11) := hM.2.1.trans (by
        show nI (X.2 0 (X.2 1 m (9 + i)) 11 - s * z_part (X.2 1 m) (X.2 1 m (9 + i)) i) = _
        rw [z0, Nat.mul_zero, Nat.sub_zero])
      have hsp : s * X.2 1 m (13 + i) ≤ X.2 0 (X.2 1 m (9 + i)) 11 := by
        have h1 : s ≤ z_sp X (X.2 1 m) i := Nat.le_trans hs (y_min_lt hi)
        exact (Nat.le_div_iff_mul_le (by omega)).mp h1
      have hd9 := (V.t gt).2.1
      have m2 : Mo S238 τ (a_setI τ 238 (8 + 14 * X.2 1 m (9 + i) + 3) (nI (X.2 0 (X.2 1 m (9 + i)) 11 - s * X.2 1 m (13 + i)))) := Mo.set rfl
      refine ⟨a_setI τ 238 (8 + 14 * X.2 1 m (9 + i) + 3) (nI (X.2 0 (X.2 1 m (9 + i)) 11 - s * X.2 1 m (13 + i))), ⟨m1.tr m2, fun k hk => by rw [a_I_off (.inr (by omega))]; exact c1 k hk, fun t ht => ?_⟩, ?_⟩
      · have hMt := c2 t ht
        have hl : z_len (fun k => if k = 11 then X.2 0 t 11 - s * z_part (X.2 1 m) t i else X.2 0 t k) ≤ 8 := by
          rw [z_len_congr (g := X.2 0 t) fun k hk => if_neg (by omega)]
          exact V.lt ht
        by_cases htt : t = X.2 1 m (9 + i)
        · refine hMt.chg hl (fun k hk => ?_) (fun k hk h3 h4 => a_I_off (.inr (by omega))) ?_ ?_
          · (try dsimp only)
            rw [if_neg (by omega), if_neg (by omega)]
          · subst htt
            rw [a_I_at]
            show _ = nI (X.2 0 (X.2 1 m (9 + i)) 11 - s * (z_part (X.2 1 m) (X.2 1 m (9 + i)) i + (if X.2 1 m (9 + i) = X.2 1 m (9 + i) then X.2 1 m (13 + i) else 0)))
            rw [z0, if_pos rfl, Nat.zero_add]
          · rw [a_I_off (.inr (by omega))]
            exact hMt.2.2.1
        · refine hMt.chg hl (fun k hk => ?_) (fun k hk h3 h4 => a_I_off (.inr (by omega))) ?_ ?_
          · (try dsimp only)
            rw [if_neg (by omega), if_neg (by omega)]
          · rw [a_I_off (.inr (by omega))]
            refine hMt.2.1.trans ?_
            show nI (X.2 0 t 11 - s * z_part (X.2 1 m) t i) = nI (X.2 0 t 11 - s * (z_part (X.2 1 m) t i + (if X.2 1 m (9 + i) = t then X.2 1 m (13 + i) else 0)))
            rw [if_neg (fun z => htt z.symm), Nat.add_zero]
          · rw [a_I_off (.inr (by omega))]
            exact hMt.2.2.1
      · (try dsimp only)
        rw [b_X8_paint_86 hh, t10, if_pos (nIl hi (by omega)), b_gd_t (nIi (by omega) (by decide)), b_gd_t (nIi (by omega) (by decide)), nIc (by omega), t2, y_ofTube (by omega) hh rw1 (by omega) (by decide), g_v, e3, b_X8_paint_116 hh, b_gd_t (nIi (by omega) (by decide)), nIc (by omega), t3, pk_mul, pk_sub hsp, y_layTube (by omega) hh rw1 (by omega) (by decide), g_n, b_X8_paint_129, nI_add])
  refine ⟨s1, e.trans ?_, q1, q2, q3⟩
  (try dsimp only)
  rw [b_X8_paint_86 (q1.sh h), show a_I s1 237 10 = nI (X.2 1 m 8) from by rw [q1.I (by unfold S238; omega)]; exact T.1, if_neg (nIn (Nat.le_refl _) (by omega))]
theorem z_pcol_ch (V : Vd X) {b : Nat} {g : Nat → Nat} (hb : b < X.1 2) (M : Vm (X.1 0) g) {k : Nat} (hk : k < 3) : z_ch (z_pcol X b g) k = z_paint X b g k := by
  have h := z_ch_col (z_paint_le V hb M (k := 0) (by decide)) (z_paint_le V hb M (k := 1) (by decide)) (z_paint_le V hb M (k := 2) (by decide))
  obtain rfl | rfl | rfl : k = 0 ∨ k = 1 ∨ k = 2 := by omega
  · exact h.1
  · exact h.2.1
  · exact h.2.2
theorem y_paint (H : Pm P) (hd : 6 ≤ d) (K : KM σ X hs sn) : OR (a_call a_tab P d 207 [.ref 237, .int x, .int y, .int z] σ) σ X hs sn (o_paint X hs x y z) := by
  have h20 := K.2.2.1.1
  have V := K.2.2.1
  have h6 := V.2.1.2
  have h12 := V.2.2.1
  obtain ⟨b, rfl, hb⟩ := o_ex x
  obtain ⟨m, rfl, hm⟩ := o_ex y
  obtain ⟨s, rfl, hs3⟩ := o_ex z
  have th : ∀ v, ¬ nI v = 0 → b_R (a_call a_tab P (d - 1)) kX8_paint [] (36, [some (.ref 237), some (.int (nI b)), some (.int (nI m)), some (.int (nI s)), none, none], [.int (nI v), .ref 237], σ) = some (.inl (some (.int (nI 0))), a_setI σ 237 6 (nI v)) := fun v hv => by
    rw [b_X8_paint_36 K.1, a_I_at, if_neg hv]
  unfold o_paint
  rw [hb, hm, hs3, n_X8_paint (by omega), b_X8_paint_0 K.1, y_isBrush (by omega) K.1 K.2.1 V, g_v, b_X8_paint_6 K.1, hb]
  by_cases c1 : b < X.1 2
  · rw [if_pos c1, decide_eq_true c1, if_neg (show ¬ b_n true = 0 by decide), y_isMix (by omega) K.1 K.2.1 V, g_v, b_X8_paint_14, hm]
    by_cases c2 : m < X.1 1
    · rw [if_pos c2, decide_eq_true c2, if_neg (show ¬ b_n true = 0 by decide), y_inR (by omega) (by decide) (by decide), g_v, b_X8_paint_28, hs3]
      by_cases c3 : 1 ≤ s ∧ s ≤ 99
      · have K0 := K.s6 (v := nI 0)
        have hst : z_str X (X.2 1 m) ≤ 9999 := z_min_le _
        rw [if_pos c3, decide_eq_true c3, if_neg (show ¬ b_n true = 0 by decide), b_X8_paint_36 K.1, a_I_at, if_pos (show nI 0 = 0 from rfl), y_isBroken (by omega) K0.1 K0.2.1 V c2, g_v, b_X8_paint_53 K0.1]
        cases z_bro X (X.2 1 m) with
        | true =>
          rw [if_neg (by decide), if_pos rfl]
          exact ⟨_, rfl, Mo.m6, K0, a_I_at⟩
        | false =>
          rw [if_pos (by decide), if_neg Bool.false_ne_true, y_strokesOf H (by omega) K0.1 K0.2.1 V c2, g_v, b_X8_paint_64 K0.1]
          by_cases c4 : z_str X (X.2 1 m) < s
          · rw [if_pos c4, if_pos (nIl c4 (by omega))]
            exact ⟨_, rfl, Mo.m6, K0, a_I_at⟩
          · have G := V.m c2
            have hpc := z_pcol_lt V c1 G
            obtain ⟨B1, B2⟩ := V.b c1
            obtain ⟨s1, e1, m1, K1⟩ := y_record (P := P) (d := d - 1) (by omega) K0
            obtain ⟨s2, e2, m2, T2⟩ := y_painted (P := P) (d := d - 1) (by omega) K1.1 K1.2.1 V c1 c2
            have K2 : KM s2 X (z_push X hs) sn := K1.sm (m2.mono Sq.sm)
            obtain ⟨s3, e3, m3, q2, q3⟩ := y_drops (P := P) (d := d) (by omega) K2.1 K2.2.1 V c2 c3.2 (by omega) T2 (x1 := .int (nI b)) (x2 := .int (nI m)) (x4 := .int (nI (z_pcol X b (X.2 1 m)))) ⟨_, rfl⟩ ⟨_, rfl⟩ ⟨_, rfl⟩
            obtain ⟨s4, ⟨m4, b2, b3⟩, e4⟩ := up_st0 (run := fun i τ => b_R (a_call a_tab P (d - 1)) kX8_paint [] (138, [some (.ref 237), some (.int (nI b)), some (.int (nI m)), some (.int (nI s)), some (.int (nI (z_pcol X b (X.2 1 m)))), some (.int (nI i))], [], τ)) (n := 3) (s := s3) (fun i τ => Mo S238 s2 τ ∧ (∀ k, (k < 648 + 4 * b ∨ 648 + 4 * b + 3 ≤ k) → a_I τ 238 k = a_I s3 238 k) ∧ ∀ k, k < i → a_I τ 238 (648 + 4 * b + k) = nI (z_paint X b (X.2 1 m) k)) ⟨m3, fun k _ => rfl, fun k hk => absurd hk (Nat.not_lt_zero _)⟩
              (fun i τ hi ⟨n1, n2, n3⟩ => by
                have hh := n1.sh K2.1
                refine ⟨a_setI τ 238 (648 + 4 * b + i) (nI (z_paint X b (X.2 1 m) i)), ⟨n1.then_set rfl, fun k hk => by rw [a_I_off (.inr (by omega))]; exact n2 k hk, fun k hk => ?_⟩, ?_⟩
                · by_cases hki : k = i
                  · subst hki; exact a_I_at
                  · rw [a_I_off (.inr (by omega))]; exact n3 k (by omega)
                · (try dsimp only)
                  rw [b_X8_paint_138 hh, if_pos (nIl hi (by decide)), y_valueOf (by omega) hpc hi, g_v, z_pcol_ch V c1 G hi, b_X8_paint_155 hh, y_layBrush (by omega) hh (n1.rw K2.2.1.1) (by omega) (by omega), g_n, b_X8_paint_158, nI_add])
            have h4 := m4.sh K2.1
            have w4 := m4.rw K2.2.1.1
            have ed : a_I s4 238 (648 + 4 * b + 3) = nI (X.2 2 b 3) := by
              rw [b2 _ (by omega), q2 _ (by omega)]
              exact K2.2.1.2.2.2.2.2.2.1 b c1 3 (by decide)
            have m5 : Mo S238 s4 (a_setI s4 238 (648 + 4 * b + 3) (nI (min 3 (X.2 2 b 3 + 1)))) := Mo.set rfl
            have m45 := m4.tr m5
            have h5 := m45.sh K2.1
            have Vp := z_pt_vd V (s := s) c1 c2
            have VB : Vd (z_pb X b (X.2 1 m) s) := ⟨Vp.1, Vp.2.1, V.2.2.1, Vp.2.2.2⟩
            have F5 : ∀ k, (k < 8 ∨ 288 ≤ k) → (k < 648 + 4 * b ∨ 648 + 4 * b + 4 ≤ k) → a_I (a_setI s4 238 (648 + 4 * b + 3) (nI (min 3 (X.2 2 b 3 + 1)))) 238 k = a_I s2 238 k := fun k hk1 hk2 => by
              rw [a_I_off (.inr (by omega)), b2 k (by omega), q2 k hk1]
            have M5 : MP (a_I (a_setI s4 238 (648 + 4 * b + 3) (nI (min 3 (X.2 2 b 3 + 1)))) 238) (z_pb X b (X.2 1 m) s) := by
              obtain ⟨⟨a0, a1, a2, a3, a4, a5, a6⟩, ht, hmm, hbb, hp⟩ := K2.2.1.2.2.2
              refine ⟨⟨(F5 0 (by decide) (by omega)).trans a0, (F5 1 (by decide) (by omega)).trans a1, (F5 2 (by decide) (by omega)).trans a2, (F5 3 (by decide) (by omega)).trans a3, (F5 4 (by decide) (by omega)).trans a4, (F5 5 (by decide) (by omega)).trans a5, (F5 6 (by decide) (by omega)).trans a6⟩, fun t (ht : t < X.1 0) => ?_, fun r (hr : r < X.1 1) => MM.eq (hmm r hr) (V.lm hr) (V.m hr).2.1 fun k hk => F5 _ (by omega) (by omega), fun r (hr : r < X.1 2) k hk => ?_, fun g (hg : g < X.1 3) k hk => (F5 _ (by omega) (by omega)).trans (hp g hg k hk)⟩
              · exact MT.eq (q3 t ht) (VB.lt (t := t) ht) fun k hk => by rw [a_I_off (.inr (by omega)), b2 _ (by omega)]
              · show _ = nI (if r = b then (if k = 3 then min 3 (X.2 2 b 3 + 1) else z_paint X b (X.2 1 m) k) else X.2 2 r k)
                by_cases hrb : r = b
                · subst hrb
                  rw [if_pos rfl]
                  by_cases hk3 : k = 3
                  · subst hk3; rw [if_pos rfl, a_I_at]
                  · rw [if_neg hk3, a_I_off (.inr (by omega))]; exact b3 k (by omega)
                · rw [if_neg hrb]
                  exact (F5 _ (by omega) (by omega)).trans (hbb r hr k hk)
            have C5 : MC (a_setI s4 238 (648 + 4 * b + 3) (nI (min 3 (X.2 2 b 3 + 1)))) 238 (z_pb X b (X.2 1 m) s) := ⟨m45.rw K2.2.1.1, by decide, .inl rfl, M5⟩
            obtain ⟨s6, e6, m6⟩ := y_colourOf (P := P) (d := d - 1) (by omega) h5 C5 VB (m := m) c2
            have ec : z_col (z_pb X b (X.2 1 m) s) ((z_pb X b (X.2 1 m) s).2 1 m) = z_col X (X.2 1 m) := rfl
            rw [ec] at e6
            have C6 := C5.sq m6
            have h6' := m6.sh h5
            have ek : a_I s6 238 6 = nI (X.1 3) := C6.2.2.2.1.2.2.2.2.2.2
            obtain ⟨s7, e7, m7, k1, k2, k3, k4, k5, k6, k7⟩ := y_keep (P := P) (d := d - 1) H (by omega) h6' C6.1 (n := X.1 3) (by omega) ek (a1 := nI (z_pcol X b (X.2 1 m))) (a2 := nI b) (a3 := nI s) (a4 := nI (z_col X (X.2 1 m)))
            have mm : Mo (fun b k => S238 b k ∨ Sq b k) s2 s7 := ((m45.mono fun b k z => .inl z).tr (m6.mono fun b k z => .inr z)).tr (m7.mono fun b k z => .inl z)
            have K7 : KM s7 (z_pt X b (X.2 1 m) s) (z_push X hs) sn := by
              refine K2.upd mm (fun b k z => z.elim .inl fun q => .inr (by unfold Sq at q; unfold Kf; omega)) ?_ Vp
              obtain ⟨⟨a0, a1, a2, a3, a4, a5, a6⟩, ht, hmm, hbb, hp⟩ := C6.2.2.2
              refine ⟨⟨(k1 0 (by decide) (by decide)).trans a0, (k1 1 (by decide) (by decide)).trans a1, (k1 2 (by decide) (by decide)).trans a2, (k1 3 (by decide) (by decide)).trans a3, (k1 4 (by decide) (by decide)).trans a4, (k1 5 (by decide) (by decide)).trans a5, k7⟩, fun t (htt : t < X.1 0) => MT.eq (ht t htt) (VB.lt (t := t) htt) fun k hk => k1 _ (by omega) (by omega), fun r (hr : r < X.1 1) => MM.eq (hmm r hr) (V.lm hr) (V.m hr).2.1 fun k hk => k1 _ (by omega) (by omega), fun r (hr : r < X.1 2) k hk => (k1 _ (by omega) (by omega)).trans (hbb r hr k hk), fun g (hg : g < min 12 (X.1 3 + 1)) k hk => ?_⟩
              show _ = nI (if g = 0 then (if k = 0 then z_pcol X b (X.2 1 m) else if k = 1 then b else if k = 2 then s else z_col X (X.2 1 m)) else X.2 3 (g - 1) k)
              by_cases hg0 : g = 0
              · subst hg0
                rw [if_pos rfl]
                obtain rfl | rfl | rfl | rfl : k = 0 ∨ k = 1 ∨ k = 2 ∨ k = 3 := by omega
                · exact k2
                · exact k3
                · exact k4
                · exact k5
              · rw [if_neg hg0, k6 _ (by omega) (by omega)]
                have := hp (g - 1) (show g - 1 < X.1 3 by omega) k hk
                rw [show 672 + 4 * g + k - 4 = 672 + 4 * (g - 1) + k by omega]
                exact this
            have e4 : b_R (a_call a_tab P (d - 1)) kX8_paint [] (138, [some (.ref 237), some (.int (nI b)), some (.int (nI m)), some (.int (nI s)), some (.int (nI (z_pcol X b (X.2 1 m)))), some (.int (nI 0))], [], s3) = _ := e4
            rw [if_neg c4, if_neg (nIn (by omega) (by omega)), e1, g_n, b_X8_paint_75 K1.1, e2, g_v, b_X8_paint_81, e3, e4]
            (try dsimp only)
            rw [b_X8_paint_138 h4, if_neg (by decide), y_ofBrush (by omega) h4 w4 (by omega) (by decide), g_v, ed, b_X8_paint_174, nI_add, s_minN H (by decide) (by omega), g_v, b_X8_paint_179 h4, y_layBrush (by omega) h4 w4 (by omega) (by decide), g_n, b_X8_paint_182 h5, e6, g_v, b_X8_paint_192 h6', e7, g_n, b_X8_paint_195]
            exact ⟨s7, rfl, ((Mo.m6.tr (m1.mono Yr.m)).tr (m2.mono Sq.m)).tr (mm.mono fun b k z => z.elim (S238.m b k) (Sq.m b k)), K7, by rw [mm.I (by unfold S238 Sq; omega), Sq.n6 m2, Yr.n6 m1]; exact a_I_at⟩
      · rw [if_neg c3, decide_eq_false c3, if_pos (show b_n false = 0 by decide), th 2 (by decide)]
        exact ⟨_, rfl, Mo.m6, K.s6, a_I_at⟩
    · rw [if_neg c2, decide_eq_false c2, if_pos (show b_n false = 0 by decide), b_X8_paint_17, th 1 (by decide)]
      exact ⟨_, rfl, Mo.m6, K.s6, a_I_at⟩
  · rw [if_neg c1, decide_eq_false c1, if_pos (show b_n false = 0 by decide), b_X8_paint_17, th 1 (by decide)]
    exact ⟨_, rfl, Mo.m6, K.s6, a_I_at⟩
end MOL
