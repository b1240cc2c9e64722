/-! the model: define -/
section MOT2
variable {P : aCall} {d : Nat} {σ : aSt} {X : Pal} {w : Nat} {B : Nat → Nat} {E : Nat} {r : (Nat × Nat) ⊕ Nat} {e : Nat × Nat} {hs : List Pal} {sn : Option Pal} {x : Int32}
theorem z_len_row {g : Nat → Nat} {acc : Cnd} : z_len (m_row g acc) = z_len g := z_len_congr fun k hk => by unfold m_row; rw [if_pos hk]
/-- the row of a new mix stands in the cells -/
theorem MM.row {F : Nat → Int32} {m : Nat} {g : Nat → Nat} {acc : Cnd} (hl : z_len g ≤ 8) (h4 : acc.length ≤ 4) (e0 : F (288 + 18 * m + 0) = nI (z_len g)) (e1 : ∀ k, k < z_len g → F (288 + 18 * m + (1 + k)) = nI (g k)) (e9 : F (288 + 18 * m + 9) = nI acc.length) (e10 : ∀ j, j < acc.length → F (288 + 18 * m + (10 + j)) = nI (acc.getD j (0, 0)).1 ∧ F (288 + 18 * m + (14 + j)) = nI (acc.getD j (0, 0)).2) : MM F m (m_row g acc) := by
  refine ⟨by rw [z_len_row]; exact e0, fun k hk => ?_, e9, fun i hi => ?_⟩
  · rw [z_len_row] at hk
    unfold m_row
    rw [if_pos (by omega)]
    exact e1 k hk
  · have hi : i < acc.length := hi
    obtain ⟨u1, u2⟩ := e10 i hi
    unfold m_row
    constructor
    · rw [if_neg (by omega), if_neg (by omega), if_pos (by omega), show 9 + i - 9 = i by omega]; exact u1
    · rw [if_neg (by omega), if_neg (by omega), if_neg (by omega), show 13 + i - 13 = i by omega]; exact u2
/-- a mix is laid at m -/
theorem y_layMixRow (hd : 2 ≤ d) (h : Sh σ) (hw : Rw σ w) (hw2 : w = 238 ∨ w = 239) {g : Nat → Nat} (N : NM σ g) {acc : Cnd} (T : TP σ acc) {m : Nat} (hm : m < 20) : ∃ s1 s2, a_call a_tab P d 247 [.ref 237, .int (nI (288 + 18 * m + 0))] σ = some (.inl none, s1) ∧ Sh s1 ∧ a_call a_tab P d 251 [.ref 237, .int (nI m)] s1 = some (.inl none, s2) ∧ Mo (fun b k => b = w ∧ 288 + 18 * m ≤ k ∧ k < 288 + 18 * m + 18) σ s1 ∧ Mo (fun b k => b = w ∧ 288 + 18 * m ≤ k ∧ k < 288 + 18 * m + 18) σ s2 ∧ MM (a_I s2 w) m (m_row g acc) := by
  obtain ⟨s1, e1, m1, f0, f1⟩ := y_layName (P := P) (d := d) (by omega) h hw hw2 N (p := 288 + 18 * m + 0) (by omega)
  have m1' : Mo (fun b k => b = w ∧ 288 + 18 * m ≤ k ∧ k < 288 + 18 * m + 18) σ s1 := m1.mono fun b k z => ⟨z.1, by omega, by omega⟩
  have T1 : TP s1 acc := T.mo m1 (by omega) (fun k => by omega)
  obtain ⟨s2, e2, m2, f9, f10⟩ := y_layParts (P := P) (d := d) hd (m1.sh h) (m1.rw hw) hw2 T1 hm
  have m2' : Mo (fun b k => b = w ∧ 288 + 18 * m ≤ k ∧ k < 288 + 18 * m + 18) s1 s2 := m2.mono fun b k z => ⟨z.1, by omega, by omega⟩
  have hl := (z_vn N.1).2.1
  refine ⟨s1, s2, e1, m1.sh h, e2, m1', m1'.tr m2', MM.row hl T.2.1 ?_ (fun k hk => ?_) f9 f10⟩
  · rw [m2.I (by omega)]; exact f0
  · rw [m2.I (by omega)]
    have := f1 k hk
    rw [show 288 + 18 * m + 0 + 1 + k = 288 + 18 * m + (1 + k) by omega] at this
    exact this
theorem y_define (H : Pm P) (hd : 12 ≤ d) (K : KM σ X hs sn) {n : Nat} (b : KBm σ n B) : OX (a_call a_tab P d 258 [.ref 237, .int x] σ) σ X hs sn (o_define X hs sn B n x) := by
  obtain ⟨E, rfl, hE⟩ := o_ex x
  have V := K.2.2.1
  have h20 := V.1
  unfold o_define
  rw [hE, n_X8_define (by omega), b_X8_define_0 K.1, y_isShort H (by omega) K.1 b.2.1 b.1, hE]
  have m6 : ∀ v, Mo (fun b k => b = 237 ∧ k = 6) σ (a_setI σ 237 6 v) := fun v => Mo.set ⟨rfl, rfl⟩
  by_cases c1 : E ≤ min 200 n
  rotate_left
  · rw [if_neg c1, if_neg c1, g_v, b_X8_define_5 K.s6.1, if_pos (show nI 0 = 0 from rfl)]
    exact ⟨_, rfl, m6 _, K.s6, a_I_at⟩
  have K0 := K.s6 (v := nI 0)
  obtain ⟨s1, d1, m1, R1, -⟩ := y_startText (P := P) (d := d - 1) (B := B) (E := E) (by omega) K0.1 (by have := b.2.1; omega) (fun i hi => ⟨((m6 _).I (by omega)).trans (b.2.2 i (by omega)).1, (b.2.2 i (by omega)).2⟩)
  have K1 : KM s1 X hs sn := K0.xt m1 fun b k z => by omega
  obtain ⟨s2, d2, m2, R2, N2⟩ := y_lookName (P := P) (d := d - 1) (by omega) K1.1 R1
  have K2 : KM s2 X hs sn := K1.xt m2 fun b k z => by unfold S30 at z; omega
  have R2 : RS s2 B E (match g_nm B (k_tok B E 0) with | some e => .inl e | none => .inr 0) := R2
  have N2 := N2 0 rfl
  have mx : Mo Sxt σ s2 := (((m6 (nI 0)).mono fun b k z => by unfold Sxt; omega).tr (m1.mono fun b k z => by unfold Sxt; omega)).tr (m2.mono fun b k z => z.xt)
  have f6 : a_I s2 237 6 = nI 0 := by rw [m2.I (by unfold S30; omega), m1.I (by omega)]; exact a_I_at
  rw [if_pos c1, if_pos c1, g_v, b_X8_define_5 K0.1, if_neg (show ¬ nI 1 = 0 by decide), d1, g_n, b_X8_define_15 K1.1, d2, g_n]
  -- the name is looked up
  have A : ∃ s3 x2 r76, b_R (a_call a_tab P (d - 1)) kX8_define [] (19, [some (.ref 237), some (.int (nI E)), none, none], [], s2) = b_R (a_call a_tab P (d - 1)) kX8_define [] (76, [some (.ref 237), some (.int (nI E)), some (.int x2), none], [], s3) ∧ Mo S26 s2 s3 ∧ RS s3 B E r76 ∧ r76 = (match g_nm B (k_tok B E 0) with | some e => .inl e | none => if (g_ft X (k_n8 B (k_tok B E 0))).isSome || (g_fm X (k_n8 B (k_tok B E 0))).isNone && decide (20 ≤ X.1 1) then .inl (3, (k_tok B E 0).2.1) else .inr 0) ∧ (g_nm B (k_tok B E 0) = none → x2 = g_res (g_fm X (k_n8 B (k_tok B E 0)))) := by
    cases hn : g_nm B (k_tok B E 0) with
    | some e =>
      rw [hn] at R2
      have R2 : RS s2 B E (.inl e) := R2
      obtain ⟨e1, e2⟩ := R2.e25
      obtain ⟨s3, d3, m3, R3⟩ := y_checkT (P := P) (d := d - 1) (by omega) K2.1 R2 (c := 3) (by decide) (by decide)
      refine ⟨s3, -1, .inl e, ?_, m3, R3, rfl, fun z => by cases z⟩
      rw [b_X8_define_19 K2.1, e1, if_neg e2, b_X8_define_34 K2.1, e1, if_neg e2, b_X8_define_67, b_X8_define_72 K2.1, d3, g_n]
    | none =>
      rw [hn] at R2
      have R2 : RS s2 B E (.inr 0) := R2
      obtain ⟨N, k1⟩ := N2 hn
      have h8 : ¬ 8 < (k_tok B E 0).2.2 - (k_tok B E 0).2.1 := fun z => by
        unfold g_nm at hn
        rw [if_pos k1, if_pos z] at hn
        cases hn
      have e0 : r_here X B (k_tok B E 0) 0 = g_ft X (k_n8 B (k_tok B E 0)) := if_neg h8
      have e1 : r_here X B (k_tok B E 0) 1 = g_fm X (k_n8 B (k_tok B E 0)) := if_neg h8
      have b0 : ∀ a, g_ft X (k_n8 B (k_tok B E 0)) = some a → a < 2147483648 := fun a ha => by rw [← e0] at ha; have := r_here_lt ha; omega
      have b1 : ∀ a, g_fm X (k_n8 B (k_tok B E 0)) = some a → a < 2147483648 := fun a ha => by rw [← e1] at ha; have := r_here_lt ha; omega
      obtain ⟨sa, da, ma, Ra⟩ := y_checkT (P := P) (d := d - 1) (by omega) K2.1 R2 (c := 3) (by decide) (by decide)
      obtain ⟨sb, db, mb, Rb⟩ := y_checkF (P := P) (d := d - 1) (by omega) K2.1 R2 (c := 3) (by decide) (by decide)
      have st : b_R (a_call a_tab P (d - 1)) kX8_define [] (19, [some (.ref 237), some (.int (nI E)), none, none], [], s2) = if g_res (g_ft X (k_n8 B (k_tok B E 0))) = -1 then (if g_res (g_fm X (k_n8 B (k_tok B E 0))) = -1 then (if nI (X.1 1) < nI 20 then b_R (a_call a_tab P (d - 1)) kX8_define [] (76, [some (.ref 237), some (.int (nI E)), some (.int (g_res (g_fm X (k_n8 B (k_tok B E 0))))), none], [], sa) else b_R (a_call a_tab P (d - 1)) kX8_define [] (76, [some (.ref 237), some (.int (nI E)), some (.int (g_res (g_fm X (k_n8 B (k_tok B E 0))))), none], [], sb)) else b_R (a_call a_tab P (d - 1)) kX8_define [] (76, [some (.ref 237), some (.int (nI E)), some (.int (g_res (g_fm X (k_n8 B (k_tok B E 0))))), none], [], sa)) else b_R (a_call a_tab P (d - 1)) kX8_define [] (76, [some (.ref 237), some (.int (nI E)), some (.int (g_res (g_fm X (k_n8 B (k_tok B E 0))))), none], [], sb) := by
        rw [b_X8_define_19 K2.1, R2.2.2.2, if_pos (show nI 0 = 0 from rfl), y_mixHere (by omega) K2.1 K2.2.1 V R2 k1, g_v, e1, b_X8_define_30, b_X8_define_34 K2.1, R2.2.2.2, if_pos (show nI 0 = 0 from rfl), y_tubeHere (by omega) K2.1 K2.2.1 V R2 k1, g_v, e0, b_X8_define_47 K2.1 K2.2.1.1, b_gd_t (nIi (by decide) (by decide)), show a_I s2 238 (Int32.toNatClampNeg (nI 1)) = nI (X.1 1) from K2.2.1.2.2.2.1.2.1, b_X8_define_67, b_X8_define_71, b_X8_define_72 K2.1, b_X8_define_72 K2.1, da, db, g_n, g_n]
      rw [st]
      show ∃ s3 x2 r76, _ ∧ Mo S26 s2 s3 ∧ RS s3 B E r76 ∧ r76 = (if (g_ft X (k_n8 B (k_tok B E 0))).isSome || (g_fm X (k_n8 B (k_tok B E 0))).isNone && decide (20 ≤ X.1 1) then .inl (3, (k_tok B E 0).2.1) else .inr 0) ∧ _
      cases hft : g_ft X (k_n8 B (k_tok B E 0)) with
      | some a =>
        rw [show g_res (some a) = nI a from rfl, if_neg (nI_m1 (b0 a hft))]
        exact ⟨sb, _, .inl (3, (k_tok B E 0).2.1), rfl, mb, Rb, rfl, fun _ => rfl⟩
      | none =>
        rw [if_pos (show g_res none = -1 from rfl)]
        cases hfm : g_fm X (k_n8 B (k_tok B E 0)) with
        | some a =>
          rw [show g_res (some a) = nI a from rfl, if_neg (nI_m1 (b1 a hfm))]
          exact ⟨sa, _, .inr 0, rfl, ma, Ra, rfl, fun _ => rfl⟩
        | none =>
          rw [if_pos (show g_res none = -1 from rfl)]
          by_cases c20 : X.1 1 < 20
          · rw [if_pos (nIl c20 (by decide))]
            refine ⟨sa, _, .inr 0, rfl, ma, Ra, ?_, fun _ => rfl⟩
            rw [decide_eq_false (by omega)]
            rfl
          · rw [if_neg (nIn (by omega) (by omega))]
            refine ⟨sb, _, .inl (3, (k_tok B E 0).2.1), rfl, mb, Rb, ?_, fun _ => rfl⟩
            rw [decide_eq_true (by omega)]
            rfl
  obtain ⟨s3, x2, r76, e3, m3, R3, hr76, hx2⟩ := A
  have h3 := m3.sh K2.1
  obtain ⟨s4, d4, m4, R4⟩ := y_advance (P := P) (d := d - 1) (by omega) h3 R3
  have h4 := m4.sh h3
  obtain ⟨s5, d5, m5, R5⟩ := y_expect (P := P) (d := d - 1) (by omega) h4 R4 (c := 61) (by decide)
  have m35 := (m3.tr m4).tr m5
  have h5 := m35.sh K2.1
  have K5 : KM s5 X hs sn := K2.xt m35 fun b k z => by unfold S26 at z; omega
  obtain ⟨s6, d6, m6', R6, G6⟩ := y_readParts (P := P) (d := d - 1) H (by omega) h5 K5.2.1 V R5
  have K6 : KM s6 X hs sn := K5.xt m6' fun b k z => by unfold S31 S26 at z; omega
  have mx6 : Mo Sxt σ s6 := (mx.tr (m35.mono fun b k z => z.xt)).tr (m6'.mono fun b k z => z.xt)
  have g6 : a_I s6 237 6 = nI 0 := by rw [m6'.I (by unfold S31 S26; omega), m35.I (by unfold S26; omega)]; exact f6
  rw [e3, b_X8_define_76 h3, d4, g_n, b_X8_define_80 h4, d5, g_n, b_X8_define_86 h5, d6, g_n, b_X8_define_90 K6.1, b_X8_define_105, b_X8_define_110 K6.1, b_X8_define_110 K6.1]
  have bad : ∀ (e : Nat × Nat) (s : aSt), Mo S26 s6 s → RS s B E (.inl e) → ∃ σ', b_R (a_call a_tab P (d - 1)) kX8_define [] (114, [some (.ref 237), some (.int (nI E)), some (.int x2), none], [], s) = some (.inl (some (.int (o_er e))), σ') ∧ Mo Sxt σ σ' ∧ KM σ' X hs sn ∧ a_I σ' 237 6 = nI 0 ∧ a_I σ' 237 20 = nI 0 ∧ a_I σ' 237 27 = nI e.2 := fun e s m R => by
    obtain ⟨s4, d4, m4, f20, f27⟩ := y_finish (P := P) (d := d - 1) (by omega) (m.sh K6.1) R
    obtain ⟨e1, e2⟩ := R.e25
    refine ⟨s4, ?_, (mx6.tr (m.mono fun b k z => z.xt)).tr (m4.mono fun b k z => by unfold Sxt; omega), (K6.xt m fun b k z => by unfold S26 at z; omega).xt m4 fun b k z => by omega, by rw [m4.I (by omega), m.I (by unfold S26; omega)]; exact g6, f20, f27⟩
    rw [b_X8_define_114 (m.sh K6.1), d4, g_v, b_X8_define_118 (m4.sh (m.sh K6.1))]
    (try dsimp only)
    rw [if_neg e2, show a_I s4 237 25 = nI e.1 from (m4.I (by omega)).trans e1]
    rfl
  have badI : ∀ e : Nat × Nat, g_def X B E = .inl e → RS s6 B E (.inl e) → ∃ σ', (if a_I s6 237 25 = 0 then (if a_I s6 237 24 = 0 then b_G (a_call a_tab P (d - 1)) kX8_define [] 111 114 [some (.ref 237), some (.int (nI E)), some (.int x2), none] [] (a_call a_tab P (d - 1) 233 [.ref 237, .int (nI 1), .int (nI 1)] s6) else b_G (a_call a_tab P (d - 1)) kX8_define [] 111 114 [some (.ref 237), some (.int (nI E)), some (.int x2), none] [] (a_call a_tab P (d - 1) 233 [.ref 237, .int (nI 0), .int (nI 1)] s6)) else b_G (a_call a_tab P (d - 1)) kX8_define [] 111 114 [some (.ref 237), some (.int (nI E)), some (.int x2), none] [] (a_call a_tab P (d - 1) 233 [.ref 237, .int (nI 1), .int (nI 1)] s6)) = some (.inl (some (.int (o_er e))), σ') ∧ Mo Sxt σ σ' ∧ KM σ' X hs sn ∧ a_I σ' 237 6 = nI 0 ∧ a_I σ' 237 20 = nI 0 ∧ a_I σ' 237 27 = nI e.2 := fun e _ Rb => by
    obtain ⟨e1, e2⟩ := Rb.e25
    obtain ⟨s7, d7, m7, R7⟩ := y_checkT (P := P) (d := d - 1) (by omega) K6.1 Rb (c := 1) (by decide) (by decide)
    obtain ⟨s8, x1, x2, x3, x4, x5, x6⟩ := bad e s7 m7 R7
    refine ⟨s8, ?_, x2, x3, x4, x5, x6⟩
    rw [e1, if_neg e2, d7, g_n]
    exact x1
  have gd : g_def X B E = (match g_nm B (k_tok B E 0) with
      | some e => .inl e
      | none => if (g_ft X (k_n8 B (k_tok B E 0))).isSome || (g_fm X (k_n8 B (k_tok B E 0))).isNone && decide (20 ≤ X.1 1) then .inl (3, (k_tok B E 0).2.1)
        else if k_sg B (k_tok B E (k_tok B E 0).2.2) 61 then
          (match g_parts X B E 5 [] (k_tok B E (k_tok B E 0).2.2).2.2 with
          | .inl e => .inl e
          | .inr r => if (k_tok B E r.2).1 = 0 then .inr (g_fm X (k_n8 B (k_tok B E 0)), r.1) else .inl (1, (k_tok B E r.2).2.1))
        else .inl (1, (k_tok B E (k_tok B E 0).2.2).2.1)) := rfl
  cases hn : g_nm B (k_tok B E 0) with
  | some e =>
    rw [hn] at gd hr76
    subst hr76
    have gd : g_def X B E = .inl e := gd
    rw [gd]
    exact badI e gd R6
  | none =>
    rw [hn] at gd hr76
    have hx2 := hx2 hn
    obtain ⟨N, k1⟩ := N2 hn
    by_cases cc : ((g_ft X (k_n8 B (k_tok B E 0))).isSome || (g_fm X (k_n8 B (k_tok B E 0))).isNone && decide (20 ≤ X.1 1)) = true
    · have hr76 : r76 = .inl (3, (k_tok B E 0).2.1) := hr76.trans (if_pos cc)
      have gd : g_def X B E = .inl (3, (k_tok B E 0).2.1) := gd.trans (if_pos cc)
      subst hr76
      rw [gd]
      exact badI _ gd R6
    · have hr76 : r76 = .inr 0 := hr76.trans (if_neg cc)
      have gd := gd.trans (if_neg cc)
      subst hr76
      have R6 : RS s6 B E (r_snd (r_b (if k_sg B (k_tok B E (k_tok B E 0).2.2) 61 then .inr (k_tok B E (k_tok B E 0).2.2).2.2 else .inl (1, (k_tok B E (k_tok B E 0).2.2).2.1)) fun q => g_parts X B E 5 [] q)) := R6
      have G6 : ∀ q a q', (if k_sg B (k_tok B E (k_tok B E 0).2.2) 61 then .inr (k_tok B E (k_tok B E 0).2.2).2.2 else .inl (1, (k_tok B E (k_tok B E 0).2.2).2.1) : (Nat × Nat) ⊕ Nat) = .inr q → g_parts X B E 5 [] q = .inr (a, q') → TP s6 a ∧ Va (X.1 0) a ∧ 0 < a.length := G6
      cases hsg : k_sg B (k_tok B E (k_tok B E 0).2.2) 61 with
      | false =>
        rw [hsg, if_neg Bool.false_ne_true] at gd R6
        rw [gd]
        exact badI _ gd R6
      | true =>
        rw [hsg, if_pos rfl] at gd R6
        rw [hsg, if_pos rfl] at G6
        have R6 : RS s6 B E (r_snd (g_parts X B E 5 [] (k_tok B E (k_tok B E 0).2.2).2.2)) := R6
        cases hg : g_parts X B E 5 [] (k_tok B E (k_tok B E 0).2.2).2.2 with
        | inl e =>
          rw [hg] at gd R6
          have gd : g_def X B E = .inl e := gd
          rw [gd]
          exact badI _ gd R6
        | inr p =>
          obtain ⟨a, q'⟩ := p
          rw [hg] at gd R6
          have R6 : RS s6 B E (.inr q') := R6
          obtain ⟨j1, j2, j3, j4⟩ := R6.tok
          obtain ⟨T, Aa, l0⟩ := G6 _ a q' rfl hg
          have gd : g_def X B E = if (k_tok B E q').1 = 0 then .inr (g_fm X (k_n8 B (k_tok B E 0)), a) else .inl (1, (k_tok B E q').2.1) := gd
          rw [R6.2.2.2, if_pos (show nI 0 = 0 from rfl), R6.2.2.1.1]
          by_cases ce : (k_tok B E q').1 = 0
          · rw [if_pos ce] at gd
            have hlt := g_def_lt V gd
            rw [gd, if_pos (show nI (k_tok B E q').1 = 0 from congrArg nI ce)]
            (try dsimp only)
            obtain ⟨s7, d7, m7, R7⟩ := y_checkT (P := P) (d := d - 1) (by omega) K6.1 R6 (c := 1) (by decide) (by decide)
            have K7 : KM s7 X hs sn := K6.xt m7 fun b k z => by unfold S26 at z; omega
            obtain ⟨s8, d8, m8, f20, f27⟩ := y_finish (P := P) (d := d - 1) (by omega) K7.1 R7
            have K8 : KM s8 X hs sn := K7.xt m8 fun b k z => by omega
            have T8 : TP s8 a := (T.s26 m7).mo m8 (by omega) (fun k => by omega)
            have N6 : NM s6 (k_n8 B (k_tok B E 0)) := (N.mo m35 (by unfold S26; omega) (fun k => by unfold S26; omega)).mo m6' (by unfold S31 S26; omega) (fun k => by unfold S31 S26; omega)
            have N8 : NM s8 (k_n8 B (k_tok B E 0)) := (N6.mo m7 (by unfold S26; omega) (fun k => by unfold S26; omega)).mo m8 (by omega) (fun k => by omega)
            obtain ⟨s9, d9, m9, K9⟩ := y_record (P := P) (d := d - 1) (by omega) K8
            have T9 := T8.mo m9 (by unfold Yr; omega) (fun k => by unfold Yr; omega)
            have N9 := N8.mo m9 (by unfold Yr; omega) (fun k => by unfold Yr; omega)
            generalize hfm : g_fm X (k_n8 B (k_tok B E 0)) = o at hx2 hlt gd
            have hat : o.getD (X.1 1) < 20 ∧ (o = none → X.1 1 < 20) ∧ ∀ i, o = some i → i < X.1 1 := by
              refine ⟨?_, hlt.2, hlt.1⟩
              cases o with
              | none => exact hlt.2 rfl
              | some i => have := hlt.1 i rfl; show i < 20; omega
            obtain ⟨sa, sb, ea, ha, eb, ma, mb, hMM⟩ := y_layMixRow (P := P) (d := d - 1) (by omega) K9.1 K9.2.1.1 (.inl rfl) N9 T9 hat.1
            have hb := mb.sh K9.1
            have rb := mb.rw K9.2.1.1
            have fc : a_I s9 238 1 = nI (X.1 1) := K9.2.1.2.2.2.1.2.1
            have fb : a_I sb 238 1 = nI (X.1 1) := (mb.I (by omega)).trans fc
            have mset : Mo (fun b k => b = 238) s9 (a_setI sb 238 1 (nI (max (X.1 1) (o.getD (X.1 1) + 1)))) := (mb.mono fun b k z => z.1).then_set rfl
            have emax : max (X.1 1) (o.getD (X.1 1) + 1) = if o = none then X.1 1 + 1 else X.1 1 := by
              cases o with
              | none => rw [if_pos rfl]; show max (X.1 1) (X.1 1 + 1) = X.1 1 + 1; omega
              | some i => have := hat.2.2 i rfl; rw [if_neg (by simp)]; show max (X.1 1) (i + 1) = X.1 1; omega
            have KF : KM (a_setI sb 238 1 (nI (max (X.1 1) (o.getD (X.1 1) + 1)))) (z_def X o (m_row (k_n8 B (k_tok B E 0)) a)) (z_push X hs) sn := by
              refine K9.upd mset (fun b k z => .inl z) (K9.2.1.2.2.2.up1 V (fun k hk hk1 => ?_) (by rw [a_I_at, emax]) fun r hr => ?_) (z_def_vd V hat.2.1 N.1 Aa l0)
              · rw [a_I_off (.inr hk1), mb.I (by omega)]
              · by_cases hrm : r = o.getD (X.1 1)
                · subst hrm
                  rw [show (fun k => if o.getD (X.1 1) = o.getD (X.1 1) then m_row (k_n8 B (k_tok B E 0)) a k else X.2 1 (o.getD (X.1 1)) k) = m_row (k_n8 B (k_tok B E 0)) a from funext fun k => if_pos rfl]
                  exact hMM.eq (by rw [z_len_row]; exact (z_vn N.1).2.1) T.2.1 fun k hk => a_I_off (.inr (by omega))
                · rw [show (fun k => if r = o.getD (X.1 1) then m_row (k_n8 B (k_tok B E 0)) a k else X.2 1 r k) = X.2 1 r from funext fun k => if_neg hrm]
                  have hr2 : r < X.1 1 := by
                    cases o with
                    | none => rw [if_pos rfl] at hr; have : r ≠ X.1 1 := hrm; omega
                    | some i => rw [if_neg (by simp)] at hr; exact hr
                  have hM : MM (a_I s9 238) r (X.2 1 r) := K9.2.1.2.2.2.2.2.1 r hr2
                  exact hM.eq (V.lm hr2) (V.m hr2).2.1 fun k hk => by rw [a_I_off (.inr (by omega)), mb.I (by omega)]
            have st : b_R (a_call a_tab P (d - 1)) kX8_define [] (133, [some (.ref 237), some (.int (nI E)), some (.int x2), none], [], s9) = b_R (a_call a_tab P (d - 1)) kX8_define [] (148, [some (.ref 237), some (.int (nI E)), some (.int x2), none], [.int (nI (o.getD (X.1 1)))], s9) := by
              rw [b_X8_define_133 K9.1 K9.2.1.1, b_gd_t (nIi (by decide) (by decide)), nIc (by decide), fc, hx2]
              cases o with
              | none => rw [if_pos (show g_res none = -1 from rfl)]; rfl
              | some i => have := hat.2.2 i rfl; rw [show g_res (some i) = nI i from rfl, if_neg (nI_m1 (by omega))]; rfl
            refine ⟨_, ?_, ((((mx6.tr (m7.mono fun b k z => z.xt)).tr (m8.mono fun b k z => by unfold Sxt; omega)).tr (m9.mono fun b k z => by unfold Yr at z; unfold Sxt; omega)).tr (mset.mono fun b k z => by unfold Sxt; omega)), KF, by rw [mset.I (by omega), m9.I (by unfold Yr; omega), m8.I (by omega), m7.I (by unfold S26; omega)]; exact g6, by rw [mset.I (by omega), m9.I (by unfold Yr; omega)]; exact f20, by rw [mset.I (by omega), m9.I (by unfold Yr; omega)]; exact f27⟩
            rw [d7, g_n, b_X8_define_114 K7.1, d8, g_v, b_X8_define_118 K8.1]
            (try dsimp only)
            rw [if_pos (show nI 0 = 0 from rfl), d9, g_n, st, b_X8_define_148 K9.1, pk_mul, nI_add, nI_add, ea, g_n, b_X8_define_163 ha, eb, g_n, b_X8_define_168 hb rb, b_gd_t (nIi (by decide) (by decide)), nIc (by decide), fb, nI_add, s_maxN H (by omega) (by omega), g_v, b_X8_define_185 rb, b_gd_t (nIi (by decide) (by decide)), nIc (by decide)]
          · rw [if_neg ce] at gd
            rw [gd, if_neg (show ¬ nI (k_tok B E q').1 = 0 from fun z => ce ((o_eq0 (by omega)).mp z))]
            obtain ⟨s7, d7, m7, R7⟩ := y_checkF (P := P) (d := d - 1) (by omega) K6.1 R6 (c := 1) (by decide) (by decide)
            obtain ⟨s8, x1, x2, x3, x4, x5, x6⟩ := bad (1, (k_tok B E q').2.1) s7 m7 R7
            refine ⟨s8, ?_, x2, x3, x4, x5, x6⟩
            rw [d7, g_n]
            exact x1
end MOT2
