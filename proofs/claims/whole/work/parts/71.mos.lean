/-! the model: all parts, mixed, define -/
section MOS2
variable {P : aCall} {d : Nat} {σ : aSt} {X : Pal} {w : Nat} {B : Nat → Nat} {E : Nat} {r : (Nat × Nat) ⊕ Nat} {e : Nat × Nat} {hs : List Pal} {sn : Option Pal} {x : Int32}
theorem g_part_len {acc a : Cnd} {q q' : Nat} (h : g_part X B E acc q = .inr (a, q')) : a.length = acc.length + 1 := by
  unfold g_part at h
  split at h
  · split at h
    · cases h
    · split at h
      · cases h
      · split at h
        · split at h
          · cases h
          · split at h
            · cases h
            · cases h
              rw [List.length_append]
              rfl
        · cases h
  · cases h
theorem y_readParts (H : Pm P) (hd : 9 ≤ d) (h : Sh σ) (M : MC σ w X) (V : Vd X) (R : RS σ B E r) : ∃ σ', a_call a_tab P d 250 [.ref 237] σ = some (.inl none, σ') ∧ Mo S31 σ σ' ∧ RS σ' B E (r_snd (r_b r fun q => g_parts X B E 5 [] q)) ∧ ∀ q a q', r = .inr q → g_parts X B E 5 [] q = .inr (a, q') → TP σ' a ∧ Va (X.1 0) a ∧ 0 < a.length := by
  have m0 : Mo (fun b k => b = 237 ∧ k = 10) σ (a_setI σ 237 10 (nI 0)) := Mo.set ⟨rfl, rfl⟩
  have h0 := m0.sh h
  have R0 := R.mo m0 (fun k _ _ => by omega) (fun k => by omega)
  have m0' : Mo S31 σ (a_setI σ 237 10 (nI 0)) := m0.mono fun b k z => by unfold S31; omega
  have M0 := M.s31 m0'
  rw [n_X8_readParts (by omega), b_X8_readParts_0 h]
  cases r with
  | inl e =>
    obtain ⟨s1, c1, m1, R1⟩ := y_readPartB (P := P) (d := d - 1) (by omega) h0 R0 (n := 0) (by decide) a_I_at
    refine ⟨s1, ?_, m0'.tr (m1.mono fun b k z => z.p), R1, fun q a q' hq => by cases hq⟩
    rw [c1, g_n, b_X8_readParts_9 (m1.sh h0), y_isSymbol (by omega) (m1.sh h0) R1 (by decide), g_v, b_X8_readParts_15 (m1.sh h0), show (r_q (Sum.inl e) fun q => k_sg B (k_tok B E q) 43) = false from rfl, if_pos (show b_n false = 0 by decide)]
  | inr q =>
    have loop : ∀ f acc q s, acc.length + f = 5 → Mo S31 (a_setI σ 237 10 (nI 0)) s → RS s B E (.inr q) → TP s acc → Va (X.1 0) acc → ∃ s1 s2, a_call a_tab P (d - 1) 249 [.ref 237] s = some (.inl none, s1) ∧ b_R (a_call a_tab P (d - 1)) kX8_readParts [] (9, [some (.ref 237)], [], s1) = some (.inl none, s2) ∧ Mo S31 (a_setI σ 237 10 (nI 0)) s2 ∧ RS s2 B E (r_snd (g_parts X B E f acc q)) ∧ ∀ a q', g_parts X B E f acc q = .inr (a, q') → TP s2 a ∧ Va (X.1 0) a ∧ 0 < a.length := by
      intro f
      induction f with
      | zero =>
        intro acc q s hf m R T A
        have := T.2.1
        omega
      | succ f ih =>
        intro acc q s hf m R T A
        have hs := m.sh h0
        obtain ⟨s1, c1, m1, R1, ⟨n, hn, en⟩, G1⟩ := y_readPart (P := P) (d := d - 1) H (by omega) hs (M0.s31 m) V R T A
        have h1 := m1.sh hs
        have m01 := m.tr m1
        cases hg : g_part X B E acc q with
        | inl e =>
          rw [hg] at R1
          have R1 : RS s1 B E (.inl e) := R1
          have eg : g_parts X B E (f + 1) acc q = .inl e := by unfold g_parts; rw [hg]
          refine ⟨s1, s1, c1, ?_, m01, by rw [eg]; exact R1, fun a q' hz => by rw [eg] at hz; cases hz⟩
          rw [b_X8_readParts_9 h1, y_isSymbol (by omega) h1 R1 (by decide), g_v, b_X8_readParts_15 h1, show (r_q (Sum.inl e) fun q => k_sg B (k_tok B E q) 43) = false from rfl, if_pos (show b_n false = 0 by decide)]
        | inr p =>
          obtain ⟨a, q'⟩ := p
          rw [hg] at R1
          have R1 : RS s1 B E (.inr q') := R1
          obtain ⟨Ta, Aa, la⟩ := G1 a q' hg
          have ll := g_part_len hg
          have eg : g_parts X B E (f + 1) acc q = if k_sg B (k_tok B E q') 43 then g_parts X B E f a (k_tok B E q').2.2 else .inr (a, q') := by
            conv => lhs; unfold g_parts
            rw [hg]
          rw [eg]
          have st : b_R (a_call a_tab P (d - 1)) kX8_readParts [] (9, [some (.ref 237)], [], s1) = if b_n (k_sg B (k_tok B E q') 43) = 0 then some (.inl none, s1) else b_G (a_call a_tab P (d - 1)) kX8_readParts [] 19 22 [some (.ref 237)] [] (a_call a_tab P (d - 1) 234 [.ref 237] s1) := by
            rw [b_X8_readParts_9 h1, y_isSymbol (by omega) h1 R1 (by decide), g_v, b_X8_readParts_15 h1]
            rfl
          cases hsg : k_sg B (k_tok B E q') 43 with
          | false =>
            rw [hsg] at st
            rw [if_neg Bool.false_ne_true]
            refine ⟨s1, s1, c1, by rw [st, if_pos (show b_n false = 0 by decide)], m01, R1, fun a' q'' hz => ?_⟩
            cases hz
            exact ⟨Ta, Aa, la⟩
          | true =>
            rw [hsg] at st
            rw [if_pos rfl]
            obtain ⟨s2, c2, m2, R2⟩ := y_advance (P := P) (d := d - 1) (by omega) h1 R1
            obtain ⟨s3, s4, c3, c4, m4, R4, G4⟩ := ih a (k_tok B E q').2.2 s2 (by omega) (m01.tr (m2.mono fun b k z => z.p)) R2 (Ta.s26 m2) Aa
            refine ⟨s1, s4, c1, ?_, m4, R4, G4⟩
            rw [st, if_neg (show ¬ b_n true = 0 by decide), c2, g_n, b_X8_readParts_22 (m2.sh h1), c3, g_n, b_X8_readParts_26]
            exact c4
    obtain ⟨s1, s2, c1, c2, m2, R2, G2⟩ := loop 5 [] q (a_setI σ 237 10 (nI 0)) rfl Mo.rf R0 ⟨a_I_at, by decide, fun i hi => absurd hi (Nat.not_lt_zero _)⟩ ⟨by decide, fun i hi => absurd hi (Nat.not_lt_zero _), fun i hi => absurd hi (Nat.not_lt_zero _)⟩
    refine ⟨s2, ?_, m0'.tr m2, R2, fun q' a q'' hq hz => by cases hq; exact G2 a q'' hz⟩
    rw [c1, g_n]
    exact c2
theorem y_layParts (hd : 2 ≤ d) (h : Sh σ) (hw : Rw σ w) (hw2 : w = 238 ∨ w = 239) {acc : Cnd} (T : TP σ acc) {m : Nat} (hm : m < 20) : ∃ σ', a_call a_tab P d 251 [.ref 237, .int (nI m)] σ = some (.inl none, σ') ∧ Mo (fun b k => b = w ∧ 288 + 18 * m + 9 ≤ k ∧ k < 288 + 18 * m + 18) σ σ' ∧ a_I σ' w (288 + 18 * m + 9) = nI acc.length ∧ ∀ j, j < acc.length → a_I σ' w (288 + 18 * m + (10 + j)) = nI (acc.getD j (0, 0)).1 ∧ a_I σ' w (288 + 18 * m + (14 + j)) = nI (acc.getD j (0, 0)).2 := by
  obtain ⟨t1, t2, t3⟩ := T
  have m0 : Mo (fun b k => b = w ∧ 288 + 18 * m + 9 ≤ k ∧ k < 288 + 18 * m + 18) σ (a_setI σ w (288 + 18 * m + 9) (nI acc.length)) := Mo.set ⟨rfl, by omega, by omega⟩
  obtain ⟨s4, ⟨q1, q2, q4⟩, e4⟩ := up_st0 (run := fun i τ => b_R (a_call a_tab P (d - 1)) kX8_layParts [] (13, [some (.ref 237), some (.int (nI m)), some (.int (nI i))], [], τ)) (n := 4) (s := a_setI σ w (288 + 18 * m + 9) (nI acc.length)) (fun i τ => Mo (fun b k => b = w ∧ 288 + 18 * m + 9 ≤ k ∧ k < 288 + 18 * m + 18) σ τ ∧ a_I τ w (288 + 18 * m + 9) = nI acc.length ∧ ∀ j, j < i → j < acc.length → a_I τ w (288 + 18 * m + (10 + j)) = nI (acc.getD j (0, 0)).1 ∧ a_I τ w (288 + 18 * m + (14 + j)) = nI (acc.getD j (0, 0)).2)
    ⟨m0, a_I_at, fun j hj => absurd hj (Nat.not_lt_zero _)⟩
    (fun i τ hi ⟨g1, g2, g4⟩ => by
      have hh := g1.sh h
      have rw1 := g1.rw hw
      have n1 : Mo (fun b k => b = w ∧ 288 + 18 * m + 9 ≤ k ∧ k < 288 + 18 * m + 18) τ (a_setI τ w (288 + 18 * m + (10 + i)) (if i < acc.length then nI (acc.getD i (0, 0)).1 else nI 0)) := Mo.set ⟨rfl, by omega, by omega⟩
      have u10 : a_I τ 237 10 = nI acc.length := (g1.I (by omega)).trans t1
      have u11 : a_I (a_setI τ w (288 + 18 * m + (10 + i)) (if i < acc.length then nI (acc.getD i (0, 0)).1 else nI 0)) 237 10 = nI acc.length := (n1.I (by omega)).trans u10
      refine ⟨a_setI (a_setI τ w (288 + 18 * m + (10 + i)) (if i < acc.length then nI (acc.getD i (0, 0)).1 else nI 0)) w (288 + 18 * m + (14 + i)) (if i < acc.length then nI (acc.getD i (0, 0)).2 else nI 0), ⟨(g1.tr n1).then_set ⟨rfl, by omega, by omega⟩, ?_, fun j hj hjc => ?_⟩, ?_⟩
      · rw [a_I_off (.inr (by omega)), a_I_off (.inr (by omega))]; exact g2
      · by_cases hji : j = i
        · subst hji
          rw [a_I_off (.inr (by omega)), a_I_at, a_I_at, if_pos hjc, if_pos hjc]
          exact ⟨rfl, rfl⟩
        · rw [a_I_off (.inr (by omega)), a_I_off (.inr (by omega)), a_I_off (.inr (by omega)), a_I_off (.inr (by omega))]
          exact g4 j (by omega) hjc
      · (try dsimp only)
        rw [b_X8_layParts_13 hh, if_pos (nIl hi (by decide)), u10]
        by_cases hic : i < acc.length
        · rw [if_pos (nIl hic (by omega)), b_gd_t (nIi (by omega) (by decide)), nIc (by omega), show a_I τ 242 i = nI (acc.getD i (0, 0)).1 from (g1.I (by omega)).trans (t3 i hic).1, b_X8_layParts_42 hh, nI_add, y_layMix (by omega) hh rw1 (by omega) (by omega), g_n]
          rw [if_pos hic] at u11 n1
          rw [if_pos hic, if_pos hic, b_X8_layParts_45 (n1.sh hh), u11, if_pos (nIl hic (by omega)), b_gd_t (nIi (by omega) (by decide)), nIc (by omega), show a_I (a_setI τ w (288 + 18 * m + (10 + i)) (nI (acc.getD i (0, 0)).1)) 243 i = nI (acc.getD i (0, 0)).2 from ((n1.I (by omega)).trans (g1.I (by omega))).trans (t3 i hic).2, b_X8_layParts_69 (n1.sh hh), nI_add, y_layMix (by omega) (n1.sh hh) (n1.rw rw1) (by omega) (by omega), g_n, b_X8_layParts_72, nI_add]
        · rw [if_neg (nIn (by omega) (by omega)), b_X8_layParts_42 hh, nI_add, y_layMix (by omega) hh rw1 (by omega) (by omega), g_n]
          rw [if_neg hic] at u11 n1
          rw [if_neg hic, if_neg hic, b_X8_layParts_45 (n1.sh hh), u11, if_neg (nIn (by omega) (by omega)), b_X8_layParts_69 (n1.sh hh), nI_add, y_layMix (by omega) (n1.sh hh) (n1.rw rw1) (by omega) (by omega), g_n, b_X8_layParts_72, nI_add])
  have e4 : b_R (a_call a_tab P (d - 1)) kX8_layParts [] (13, [some (.ref 237), some (.int (nI m)), some (.int (nI 0))], [], a_setI σ w (288 + 18 * m + 9) (nI acc.length)) = _ := e4
  refine ⟨s4, ?_, q1, q2, fun j hj => q4 j (by omega) hj⟩
  rw [n_X8_layParts (by omega), b_X8_layParts_0 h, t1, y_layMix (by omega) h hw (by omega) (by decide), g_n, b_X8_layParts_11, e4]
  (try dsimp only)
  rw [b_X8_layParts_13 (q1.sh h), if_neg (by decide)]
/-- how a text of the model ends -/
def Sxt (b k : Nat) : Prop := (237 ≤ b ∧ b ≤ 251) ∧ b ≠ 246 ∧ ¬ (b = 237 ∧ k = 18)
def OX (c : Option (aRes × aSt)) (σ : aSt) (X : Pal) (hs : List Pal) (sn : Option Pal) (r : Nat ⊕ (Int32 × Int32 × Pal × List Pal × Option Pal)) : Prop := match r with
  | .inl _ => ∃ σ', c = some (.inl (some (.int (nI 0))), σ') ∧ Mo (fun b k => b = 237 ∧ k = 6) σ σ' ∧ KM σ' X hs sn ∧ a_I σ' 237 6 = nI 1
  | .inr q => ∃ σ', c = some (.inl (some (.int q.1)), σ') ∧ Mo Sxt σ σ' ∧ KM σ' q.2.2.1 q.2.2.2.1 q.2.2.2.2 ∧ a_I σ' 237 6 = nI 0 ∧ a_I σ' 237 20 = nI 0 ∧ a_I σ' 237 27 = q.2.1
theorem S26.xt {b k : Nat} (h : S26 b k) : Sxt b k := by unfold S26 at h; unfold Sxt; omega
theorem S30.xt {b k : Nat} (h : S30 b k) : Sxt b k := by unfold S30 at h; unfold Sxt; omega
theorem S31.xt {b k : Nat} (h : S31 b k) : Sxt b k := by unfold S31 S26 at h; unfold Sxt; omega
theorem KM.xt {σ σ' : aSt} {S : Nat → Nat → Prop} (K : KM σ X hs sn) (m : Mo S σ σ') (hS : ∀ b k, S b k → b = 242 ∨ b = 243 ∨ b = 248 ∨ b = 249 ∨ b = 250 ∨ b = 251 ∨ (b = 237 ∧ (k = 6 ∨ k = 10 ∨ (20 ≤ k ∧ k ≤ 31)))) : KM σ' X hs sn := K.mo m fun b k z => by have := hS b k z; unfold Kf; omega
theorem y_isShort (H : Pm P) (hd : 2 ≤ d) (h : Sh σ) {n : Nat} (hn : n ≤ 900) (e20 : a_I σ 237 20 = nI n) : a_call a_tab P d 256 [.ref 237, .int x] σ = if o_nat x ≤ min 200 n then some (.inl (some (.int (nI 1))), a_setI σ 237 6 (nI 0)) else some (.inl (some (.int (nI 0))), a_setI σ 237 6 (nI 1)) := by
  rw [n_X8_isShort (by omega), b_X8_isShort_0 h, e20, s_minN H (by omega) (by decide), g_v, b_X8_isShort_13, y_inR (by omega) (by decide) (by omega), g_v, b_X8_isShort_16]
  by_cases c : o_nat x ≤ min 200 n
  · rw [if_pos c, decide_eq_true ⟨Nat.zero_le _, by omega⟩, if_neg (show ¬ b_n true = 0 by decide), b_X8_isShort_24 h, a_I_at, if_pos (show nI 0 = 0 from rfl), b_X8_isShort_39, b_gd_t (by decide)]
  · rw [if_neg c, decide_eq_false (fun z => c (by have := z.2; omega)), if_pos (show b_n false = 0 by decide), b_X8_isShort_24 h, a_I_at, if_neg (show ¬ nI 1 = 0 by decide), b_X8_isShort_39, b_gd_t (by decide)]
/-- what is left at a text's end -/
def r_end (B : Nat → Nat) (E : Nat) (r : (Nat × Nat) ⊕ Nat) : (Nat × Nat) ⊕ Nat := r_b r fun q => if (k_tok B E q).1 = 0 then .inr q else .inl (1, (k_tok B E q).2.1)
theorem o_er_eq {e : Nat × Nat} : (-10 : Int32) - nI e.1 = o_er e := rfl
theorem y_mixed (H : Pm P) (hd : 11 ≤ d) (K : KM σ X hs sn) {n : Nat} (b : KBm σ n B) : OX (a_call a_tab P d 257 [.ref 237, .int x] σ) σ X hs sn (o_mixed X hs sn B n x) := by
  obtain ⟨E, rfl, hE⟩ := o_ex x
  have V := K.2.2.1
  unfold o_mixed
  rw [hE, n_X8_mixed (by omega), b_X8_mixed_0 K.1, y_isShort H (by omega) K.1 b.2.1 b.1, hE]
  have m6 : ∀ v, Mo (fun b k => b = 237 ∧ k = 6) σ (a_setI σ 237 6 v) := fun v => Mo.set ⟨rfl, rfl⟩
  by_cases c1 : E ≤ min 200 n
  · have K0 := K.s6 (v := nI 0)
    obtain ⟨s1, d1, m1, R1, -⟩ := y_startText (P := P) (d := d - 1) (B := B) (E := E) (by omega) K0.1 (by have := b.2.1; omega) (fun i hi => ⟨((m6 _).I (by omega)).trans (b.2.2 i (by omega)).1, (b.2.2 i (by omega)).2⟩)
    have K1 : KM s1 X hs sn := K0.xt m1 fun b k z => by omega
    obtain ⟨s2, d2, m2, R2, G2⟩ := y_readParts (P := P) (d := d - 1) H (by omega) K1.1 K1.2.1 V R1
    have K2 : KM s2 X hs sn := K1.xt m2 fun b k z => by unfold S31 S26 at z; omega
    have R2 : RS s2 B E (r_snd (g_parts X B E 5 [] 0)) := R2
    have G2 := fun a q' => G2 0 a q' rfl
    have mx : Mo Sxt σ s2 := (((m6 (nI 0)).mono fun b k z => by unfold Sxt; omega).tr (m1.mono fun b k z => by unfold Sxt; omega)).tr (m2.mono fun b k z => z.xt)
    have f6 : a_I s2 237 6 = nI 0 := by rw [m2.I (by unfold S31 S26; omega), m1.I (by omega)]; exact a_I_at
    rw [if_pos c1, if_pos c1, g_v, b_X8_mixed_5 K0.1, if_neg (show ¬ nI 1 = 0 by decide), d1, g_n, b_X8_mixed_15 K1.1, d2, g_n, b_X8_mixed_19 K2.1, b_X8_mixed_34, b_X8_mixed_39 K2.1, b_X8_mixed_39 K2.1]
    -- the end, when something is wrong
    have bad : ∀ (e : Nat × Nat) (s : aSt), Mo S26 s2 s → RS s B E (.inl e) → ∃ σ', b_R (a_call a_tab P (d - 1)) kX8_mixed [] (43, [some (.ref 237), some (.int (nI E))], [], s) = some (.inl (some (.int (o_er e))), σ') ∧ Mo Sxt σ σ' ∧ KM σ' X hs sn ∧ a_I σ' 237 6 = nI 0 ∧ a_I σ' 237 20 = nI 0 ∧ a_I σ' 237 27 = nI e.2 := fun e s m R => by
      obtain ⟨s4, d4, m4, f20, f27⟩ := y_finish (P := P) (d := d - 1) (by omega) (m.sh K2.1) R
      obtain ⟨e1, e2⟩ := R.e25
      refine ⟨s4, ?_, (mx.tr (m.mono fun b k z => z.xt)).tr (m4.mono fun b k z => by unfold Sxt; omega), (K2.xt m fun b k z => by unfold S26 at z; omega).xt m4 fun b k z => by omega, by rw [m4.I (by omega), m.I (by unfold S26; omega)]; exact f6, f20, f27⟩
      rw [b_X8_mixed_43 (m.sh K2.1), d4, g_v, b_X8_mixed_47 (m4.sh (m.sh K2.1))]
      (try dsimp only)
      rw [if_neg e2, b_X8_mixed_64, show a_I s4 237 25 = nI e.1 from (m4.I (by omega)).trans e1]
      rfl
    unfold g_bare
    cases hg : g_parts X B E 5 [] 0 with
    | inl e =>
      rw [hg] at R2
      have R2 : RS s2 B E (.inl e) := R2
      obtain ⟨e1, e2⟩ := R2.e25
      obtain ⟨s3, d3, m3, R3⟩ := y_checkT (P := P) (d := d - 1) (by omega) K2.1 R2 (c := 1) (by decide) (by decide)
      obtain ⟨s4, x1, x2, x3, x4, x5, x6⟩ := bad e s3 m3 R3
      refine ⟨s4, ?_, x2, x3, x4, x5, x6⟩
      rw [e1, if_neg e2, d3, g_n]
      exact x1
    | inr p =>
      obtain ⟨a, q'⟩ := p
      rw [hg] at R2
      have R2 : RS s2 B E (.inr q') := R2
      obtain ⟨k1, k2, k3, k4⟩ := R2.tok
      obtain ⟨T, A, l0⟩ := G2 a q' hg
      rw [R2.2.2.2, if_pos (show nI 0 = 0 from rfl), R2.2.2.1.1]
      (try dsimp only)
      by_cases ce : (k_tok B E q').1 = 0
      · rw [if_pos ce, if_pos (show nI (k_tok B E q').1 = 0 from congrArg nI ce)]
        obtain ⟨s3, d3, m3, R3⟩ := y_checkT (P := P) (d := d - 1) (by omega) K2.1 R2 (c := 1) (by decide) (by decide)
        have K3 : KM s3 X hs sn := K2.xt m3 fun b k z => by unfold S26 at z; omega
        obtain ⟨s4, d4, m4, f20, f27⟩ := y_finish (P := P) (d := d - 1) (by omega) K3.1 R3
        have K4 : KM s4 X hs sn := K3.xt m4 fun b k z => by omega
        have T4 : TP s4 a := (T.s26 m3).mo m4 (by omega) (fun k => by omega)
        refine ⟨s4, ?_, (mx.tr (m3.mono fun b k z => z.xt)).tr (m4.mono fun b k z => by unfold Sxt; omega), K4, by rw [m4.I (by omega), m3.I (by unfold S26; omega)]; exact f6, f20, f27⟩
        rw [d3, g_n, b_X8_mixed_43 K3.1, d4, g_v, b_X8_mixed_47 K4.1]
        (try dsimp only)
        rw [if_pos (show nI 0 = 0 from rfl), y_colourHere (by omega) K4.1 K4.2.1 V (m_row_vm A l0) (T4.tk (w := fun _ => 0)), g_v, b_X8_mixed_54, b_X8_mixed_64]
      · rw [if_neg ce, if_neg (show ¬ nI (k_tok B E q').1 = 0 from fun z => ce ((o_eq0 (by omega)).mp z))]
        obtain ⟨s3, d3, m3, R3⟩ := y_checkF (P := P) (d := d - 1) (by omega) K2.1 R2 (c := 1) (by decide) (by decide)
        obtain ⟨s4, x1, x2, x3, x4, x5, x6⟩ := bad (1, (k_tok B E q').2.1) s3 m3 R3
        refine ⟨s4, ?_, x2, x3, x4, x5, x6⟩
        rw [d3, g_n]
        exact x1
  · rw [if_neg c1, if_neg c1, g_v, b_X8_mixed_5 K.s6.1, if_pos (show nI 0 = 0 from rfl)]
    exact ⟨_, rfl, m6 _, K.s6, a_I_at⟩
end MOS2
