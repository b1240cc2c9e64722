/-! the model: a mix of a palette's text; load -/
section MOV2
variable {P : aCall} {d : Nat} {σ : aSt} {X : Pal} {w : Nat} {B : Nat → Nat} {E : Nat} {r : (Nat × Nat) ⊕ Nat} {hs : List Pal} {sn : Option Pal} {x : Int32}
theorem y_readMix (H : Pm P) (hd : 10 ≤ d) (h : Sh σ) (M : MC σ w X) (V : Vd X) {q : Nat} (R : RS σ B E (.inr q)) : ∃ σ', a_call a_tab P d 253 [.ref 237] σ = some (.inl none, σ') ∧ Mo (Sld w) σ σ' ∧ RS σ' B E (r_snd (g_mix X B E q)) ∧ (∀ k, 648 ≤ k → k < 672 → a_I σ' w k = a_I σ w k) ∧ ∀ Y q', g_mix X B E q = .inr (Y, q') → MP (a_I σ' w) Y ∧ Vd Y := by
  have h20 := V.1
  have hw2 := M.2.2.1
  have key : ∃ s1, b_R (a_call a_tab P (d - 1)) kX8_readMix [] (0, [some (.ref 237)], [], σ) = b_R (a_call a_tab P (d - 1)) kX8_readMix [] (39, [some (.ref 237)], [], s1) ∧ Mo S26 σ s1 ∧ RS s1 B E (if k_is B (k_tok B E q) (q_txt 6) then (if 20 ≤ X.1 1 then .inl (3, (k_tok B E q).2.1) else .inr q) else .inl (1, (k_tok B E q).2.1)) := by
    rw [b_X8_readMix_0 h, y_isWord H (by omega) h R (by decide) (by decide), g_v, b_X8_readMix_7 h, show (r_q (.inr q) fun q => k_is B (k_tok B E q) (q_txt 6)) = k_is B (k_tok B E q) (q_txt 6) from rfl]
    cases k_is B (k_tok B E q) (q_txt 6) with
    | false =>
      obtain ⟨s1, d1, m1, R1⟩ := y_checkF (P := P) (d := d - 1) (by omega) h R (c := 1) (by decide) (by decide)
      have R1 : RS s1 B E (.inl (1, (k_tok B E q).2.1)) := R1
      obtain ⟨e1, e2⟩ := R1.e25
      obtain ⟨s2, d2, m2, R2⟩ := y_checkT (P := P) (d := d - 1) (by omega) (m1.sh h) R1 (c := 3) (by decide) (by decide)
      refine ⟨s2, ?_, m1.tr m2, R2⟩
      rw [show b_n false = nI 0 from rfl, d1, g_n, b_X8_readMix_11 (m1.sh h) (m1.rw M.1), e1, if_neg e2, b_X8_readMix_30, b_X8_readMix_35 (m1.sh h), d2, g_n]
    | true =>
      obtain ⟨s1, d1, m1, R1⟩ := y_checkT (P := P) (d := d - 1) (by omega) h R (c := 1) (by decide) (by decide)
      have h1 := m1.sh h
      have M1 := M.s26 m1
      rw [show b_n true = nI 1 from rfl, d1, g_n, b_X8_readMix_11 h1 M1.1, R1.2.2.2, if_pos (show nI 0 = 0 from rfl), b_gd_t (nIi (by decide) (by decide)), show a_I s1 w (Int32.toNatClampNeg (nI 1)) = nI (X.1 1) from M1.2.2.2.1.2.1, b_X8_readMix_30, b_X8_readMix_35 h1, b_X8_readMix_35 h1, if_pos rfl]
      by_cases c : 20 ≤ X.1 1
      · obtain ⟨s2, d2, m2, R2⟩ := y_checkF (P := P) (d := d - 1) (by omega) h1 R1 (c := 3) (by decide) (by decide)
        exact ⟨s2, by rw [if_neg (nIn c (by omega)), d2, g_n], m1.tr m2, by rw [if_pos c]; exact R2⟩
      · obtain ⟨s2, d2, m2, R2⟩ := y_checkT (P := P) (d := d - 1) (by omega) h1 R1 (c := 3) (by decide) (by decide)
        exact ⟨s2, by rw [if_pos (nIl (by omega) (by decide)), d2, g_n], m1.tr m2, by rw [if_neg c]; exact R2⟩
  obtain ⟨s1, e1, m1, R1⟩ := key
  have h1 := m1.sh h
  obtain ⟨s2, d2, m2, R2⟩ := y_advance (P := P) (d := d - 1) (by omega) h1 R1
  have m12 := m1.tr m2
  have h2 := m12.sh h
  obtain ⟨s3, d3, m3, R3, N3⟩ := y_readNew (P := P) (d := d - 1) (by omega) h2 (M.s26 m12) V R2
  have m13 : Mo S30 σ s3 := (m12.mono fun b k z => z.n).tr m3
  have h3 := m13.sh h
  obtain ⟨s4, d4, m4, R4⟩ := y_expect (P := P) (d := d - 1) (by omega) h3 R3 (c := 61) (by decide)
  have m14 : Mo S30 σ s4 := m13.tr (m4.mono fun b k z => z.n)
  have h4 := m14.sh h
  have M4 := M.s30 m14
  obtain ⟨s5, d5, m5, R5, G5⟩ := y_readParts (P := P) (d := d - 1) H (by omega) h4 M4 V R4
  have h5 := m5.sh h4
  have M5 := M4.s31 m5
  have m15 : Mo (Sld w) σ s5 := (m14.mono fun b k z => z.ld).tr (m5.mono fun b k z => z.ld)
  have wn : ∀ {a b : aSt}, Mo (Sld w) a b → True := fun _ => trivial
  have keepB : ∀ k, a_I s5 w k = a_I σ w k := fun k => (m5.I (by unfold S31 S26; omega)).trans (m14.I (by unfold S30; omega))
  rw [n_X8_readMix (by omega), e1, b_X8_readMix_39 h1, d2, g_n, b_X8_readMix_43 h2, d3, g_n, b_X8_readMix_47 h3, d4, g_n, b_X8_readMix_53 h4, d5, g_n, b_X8_readMix_57 h5 M5.1, b_X8_readMix_103]
  have badI : ∀ e : Nat × Nat, g_mix X B E q = .inl e → RS s5 B E (.inl e) → ∃ σ', (if a_I s5 237 25 = 0 then b_gd (a_in (nI 1) 720) (b_G (a_call a_tab P (d - 1)) kX8_readMix [] 80 83 [some (.ref 237)] [] (a_call a_tab P (d - 1) 247 [.ref 237, .int ((nI 288 + (nI 18 * a_I s5 w (Int32.toNatClampNeg (nI 1)))) + nI 0)] s5)) else some (.inl none, s5)) = some (.inl none, σ') ∧ Mo (Sld w) σ σ' ∧ RS σ' B E (r_snd (g_mix X B E q)) ∧ (∀ k, 648 ≤ k → k < 672 → a_I σ' w k = a_I σ w k) ∧ ∀ Y q', g_mix X B E q = .inr (Y, q') → MP (a_I σ' w) Y ∧ Vd Y := fun e hg Rb => by
    obtain ⟨e1, e2⟩ := Rb.e25
    refine ⟨s5, ?_, m15, by rw [hg]; exact Rb, fun k _ _ => keepB k, fun Y q' hz => by rw [hg] at hz; cases hz⟩
    rw [e1, if_neg e2]
  have gm : g_mix X B E q = if k_is B (k_tok B E q) (q_txt 6) then
      (if 20 ≤ X.1 1 then .inl (3, (k_tok B E q).2.1) else
      match g_new X B E (k_tok B E q).2.2 with
      | some e => .inl e
      | none => if k_sg B (k_tok B E (k_tok B E (k_tok B E q).2.2).2.2) 61 then
          (match g_parts X B E 5 [] (k_tok B E (k_tok B E (k_tok B E q).2.2).2.2).2.2 with
          | .inl e => .inl e
          | .inr r => .inr (z_addM X (m_row (k_n8 B (k_tok B E (k_tok B E q).2.2)) r.1), r.2))
        else .inl (1, (k_tok B E (k_tok B E (k_tok B E q).2.2).2.2).2.1))
    else .inl (1, (k_tok B E q).2.1) := rfl
  by_cases ci : k_is B (k_tok B E q) (q_txt 6) = true
  rotate_left
  · rw [if_neg ci] at gm R5
    exact badI _ gm R5
  rw [if_pos ci] at gm R5 G5
  rw [if_pos ci] at N3
  by_cases c20 : 20 ≤ X.1 1
  · rw [if_pos c20] at gm R5
    exact badI _ gm R5
  rw [if_neg c20] at gm R5 G5 N3
  have N3 := N3 (k_tok B E q).2.2 rfl
  cases hn : g_new X B E (k_tok B E q).2.2 with
  | some e =>
    rw [hn] at gm
    have R5 : RS s5 B E (r_snd (r_b (r_b (match g_new X B E (k_tok B E q).2.2 with | some e => .inl e | none => .inr (k_tok B E (k_tok B E q).2.2).2.2) fun q => if k_sg B (k_tok B E q) 61 then .inr (k_tok B E q).2.2 else .inl (1, (k_tok B E q).2.1)) fun q => g_parts X B E 5 [] q)) := R5
    rw [hn] at R5
    exact badI _ gm R5
  | none =>
    rw [hn] at gm
    have R5 : RS s5 B E (r_snd (r_b (r_b (match g_new X B E (k_tok B E q).2.2 with | some e => .inl e | none => .inr (k_tok B E (k_tok B E q).2.2).2.2) fun q => if k_sg B (k_tok B E q) 61 then .inr (k_tok B E q).2.2 else .inl (1, (k_tok B E q).2.1)) fun q => g_parts X B E 5 [] q)) := R5
    have G5 : ∀ q1 a q', (r_b (match g_new X B E (k_tok B E q).2.2 with | some e => .inl e | none => .inr (k_tok B E (k_tok B E q).2.2).2.2) fun q => if k_sg B (k_tok B E q) 61 then .inr (k_tok B E q).2.2 else .inl (1, (k_tok B E q).2.1)) = .inr q1 → g_parts X B E 5 [] q1 = .inr (a, q') → TP s5 a ∧ Va (X.1 0) a ∧ 0 < a.length := G5
    rw [hn] at R5 G5
    have N := N3 hn
    generalize k_n8 B (k_tok B E (k_tok B E q).2.2) = g at N gm
    generalize (k_tok B E (k_tok B E q).2.2).2.2 = q3 at R5 gm G5
    have R5 : RS s5 B E (r_snd (r_b (if k_sg B (k_tok B E q3) 61 then .inr (k_tok B E q3).2.2 else .inl (1, (k_tok B E q3).2.1)) fun q => g_parts X B E 5 [] q)) := R5
    have G5 : ∀ q1 a q', (if k_sg B (k_tok B E q3) 61 then .inr (k_tok B E q3).2.2 else .inl (1, (k_tok B E q3).2.1) : (Nat × Nat) ⊕ Nat) = .inr q1 → g_parts X B E 5 [] q1 = .inr (a, q') → TP s5 a ∧ Va (X.1 0) a ∧ 0 < a.length := G5
    have gm : g_mix X B E q = if k_sg B (k_tok B E q3) 61 then
          (match g_parts X B E 5 [] (k_tok B E q3).2.2 with
          | .inl e => .inl e
          | .inr r => .inr (z_addM X (m_row g r.1), r.2))
        else .inl (1, (k_tok B E q3).2.1) := gm
    cases hsg : k_sg B (k_tok B E q3) 61 with
    | false =>
      rw [hsg, if_neg Bool.false_ne_true] at gm R5
      exact badI _ gm R5
    | true =>
      rw [hsg, if_pos rfl] at gm R5 G5
      have R5 : RS s5 B E (r_snd (g_parts X B E 5 [] (k_tok B E q3).2.2)) := R5
      cases hg : g_parts X B E 5 [] (k_tok B E q3).2.2 with
      | inl e =>
        rw [hg] at gm R5
        exact badI _ gm R5
      | inr p =>
        obtain ⟨a, q'⟩ := p
        rw [hg] at gm R5
        have R5 : RS s5 B E (.inr q') := R5
        have gm : g_mix X B E q = .inr (z_addM X (m_row g a), q') := gm
        obtain ⟨T, Aa, l0⟩ := G5 _ a q' rfl hg
        have N5 : NM s5 g := (N.mo m4 (by unfold S26; omega) (fun k => by unfold S26; omega)).mo m5 (by unfold S31 S26; omega) (fun k => by unfold S31 S26; omega)
        have f1 : a_I s5 w 1 = nI (X.1 1) := M5.2.2.2.1.2.1
        obtain ⟨sa, sb, ea, ha, eb, ma, mb, hMM⟩ := y_layMixRow (P := P) (d := d - 1) (by omega) h5 M5.1 hw2 N5 T (m := X.1 1) (by omega)
        have hb := mb.sh h5
        have fa : a_I sa w 1 = nI (X.1 1) := (ma.I (by omega)).trans f1
        have fb : a_I sb w 1 = nI (X.1 1) := (mb.I (by omega)).trans f1
        have ms : Mo (fun b k => b = w ∧ k = 1) sb (a_setI sb w 1 (nI (X.1 1 + 1))) := Mo.set ⟨rfl, rfl⟩
        have mset : Mo (fun b k => b = w ∧ ((288 + 18 * X.1 1 ≤ k ∧ k < 288 + 18 * X.1 1 + 18) ∨ k = 1)) s5 (a_setI sb w 1 (nI (X.1 1 + 1))) := (mb.mono fun b k z => ⟨z.1, .inl z.2⟩).tr (ms.mono fun b k z => ⟨z.1, .inr z.2⟩)
        have fin : MP (a_I (a_setI sb w 1 (nI (X.1 1 + 1))) w) (z_addM X (m_row g a)) := by
          refine M5.2.2.2.up1 V (fun k hk hk1 => mset.I (by omega)) a_I_at fun t ht => ?_
          by_cases htt : t = X.1 1
          · subst htt
            rw [show (fun k => if X.1 1 = X.1 1 then m_row g a k else X.2 1 (X.1 1) k) = m_row g a from funext fun k => if_pos rfl]
            exact hMM.eq (by rw [z_len_row]; exact (z_vn N.1).2.1) T.2.1 fun k hk => a_I_off (.inr (by omega))
          · rw [show (fun k => if t = X.1 1 then m_row g a k else X.2 1 t k) = X.2 1 t from funext fun k => if_neg htt]
            have hM : MM (a_I s5 w) t (X.2 1 t) := M5.2.2.2.2.2.1 t (by omega)
            exact hM.eq (V.lm (by omega)) (V.m (by omega)).2.1 fun k hk => mset.I (by omega)
        refine ⟨_, ?_, m15.tr (mset.mono fun b k z => .inl z.1), by rw [gm]; exact R5.mo mset (fun k _ _ => by omega) (fun k => by omega), fun k h1 h2 => by rw [mset.I (by omega)]; exact keepB k, fun Y q'' hz => by rw [gm] at hz; cases hz; exact ⟨fin, z_addM_vd V (by omega) N.1 Aa l0⟩⟩
        rw [R5.2.2.2, if_pos (show nI 0 = 0 from rfl), b_gd_t (nIi (by decide) (by decide)), nIc (by decide), f1, pk_mul, nI_add, nI_add, ea, g_n, b_X8_readMix_83 ha (ma.rw M5.1), b_gd_t (nIi (by decide) (by decide)), nIc (by decide), fa, eb, g_n, b_X8_readMix_93 hb (mb.rw M5.1), b_gd_t (nIi (by decide) (by decide)), b_gd_t (nIi (by decide) (by decide)), nIc (by decide), fb, nI_add, b_X8_readMix_103]
theorem y_begin (hd : 1 ≤ d) (h : Sh σ) (hw : Rw σ w) (hw2 : w = 238 ∨ w = 239) : ∃ σ', a_call a_tab P d 144 [.ref 237] σ = some (.inl none, σ') ∧ Mo (fun b _ => b = w) σ σ' ∧ MP (a_I σ' w) z_p0 ∧ ∀ k, 648 ≤ k → k < 672 → a_I σ' w k = nI 0 := by
  obtain ⟨s1, ⟨m1, q1⟩, e⟩ := up_st0 (run := fun i τ => b_R (a_call a_tab P (d - 1)) kX8_begin [] (2, [some (.ref 237), some (.int (nI i))], [], τ)) (n := 720) (s := σ) (fun i τ => Mo (fun b _ => b = w) σ τ ∧ ∀ k, k < i → a_I τ w k = nI 0) ⟨Mo.rf, fun k hk => absurd hk (Nat.not_lt_zero _)⟩
    (fun i τ hi ⟨m1, q1⟩ => by
      refine ⟨a_setI τ w i (nI 0), ⟨m1.then_set rfl, fun k hk => ?_⟩, ?_⟩
      · by_cases hki : k = i
        · subst hki; exact a_I_at
        · rw [a_I_off (.inr hki)]; exact q1 k (by omega)
      · (try dsimp only)
        rw [b_X8_begin_2 (m1.sh h) (m1.rw hw), if_pos (nIl hi (by decide)), b_gd_t (nIi hi (by decide)), nIc (by omega), nI_add])
  have e : b_R (a_call a_tab P (d - 1)) kX8_begin [] (2, [some (.ref 237), some (.int (nI 0))], [], σ) = _ := e
  have m2 : Mo (fun b _ => b = w) s1 (a_setI (a_setI (a_setI s1 w 2 (nI 2)) w 3 (nI 4)) w 4 (nI 300)) := ((Mo.set (S := fun b _ => b = w) rfl).then_set rfl).then_set rfl
  have z0 : ∀ k, k < 720 → k ≠ 2 → k ≠ 3 → k ≠ 4 → a_I (a_setI (a_setI (a_setI s1 w 2 (nI 2)) w 3 (nI 4)) w 4 (nI 300)) w k = nI 0 := fun k hk h2 h3 h4 => by
    rw [a_I_off (.inr h4), a_I_off (.inr h3), a_I_off (.inr h2)]
    exact q1 k hk
  refine ⟨_, ?_, m1.tr m2, ⟨⟨z0 0 (by decide) (by decide) (by decide) (by decide), z0 1 (by decide) (by decide) (by decide) (by decide), ?_, ?_, a_I_at, z0 5 (by decide) (by decide) (by decide) (by decide), z0 6 (by decide) (by decide) (by decide) (by decide)⟩, fun t ht => absurd ht (Nat.not_lt_zero _), fun t ht => absurd ht (Nat.not_lt_zero _), fun b hb k hk => ?_, fun t ht => absurd ht (Nat.not_lt_zero _)⟩, fun k h1 h2 => z0 k (by omega) (by omega) (by omega) (by omega)⟩
  · rw [n_X8_begin (by omega), b_X8_begin_0, e]
    (try dsimp only)
    rw [b_X8_begin_2 (m1.sh h) (m1.rw hw), if_neg (by decide), b_gd_t (nIi (by decide) (by decide)), b_gd_t (nIi (by decide) (by decide)), b_gd_t (nIi (by decide) (by decide)), nIc (by decide), nIc (by decide), nIc (by decide)]
  · rw [a_I_off (.inr (by decide)), a_I_off (.inr (by decide))]; exact a_I_at
  · rw [a_I_off (.inr (by decide))]; exact a_I_at
  · have hb : b < 2 := hb
    exact z0 _ (by omega) (by omega) (by omega) (by omega)
end MOV2
