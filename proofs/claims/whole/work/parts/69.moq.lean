/-! the model: a new name, parts -/
theorem y_any {c : Cnd} {f : Nat × Nat → Bool} : q_any (fun i => f (c.getD i (0, 0))) c.length = c.any f := by
  cases h : c.any f with
  | true =>
    obtain ⟨x, hx, hf⟩ := List.any_eq_true.mp h
    obtain ⟨i, hi, e⟩ := List.mem_iff_getElem.mp hx
    refine q_any_iff.mpr ⟨i, hi, ?_⟩
    rw [List.getD_eq_getElem?_getD, List.getElem?_eq_getElem hi]
    show f c[i] = true
    rw [e]
    exact hf
  | false =>
    refine q_any_no.mpr fun i hi => ?_
    cases e : f (c.getD i (0, 0)) with
    | false => rfl
    | true =>
      have : c.any f = true := List.any_eq_true.mpr ⟨_, z_getD hi, e⟩
      rw [h] at this
      cases this
/-- the parts that the model keeps -/
def TP (σ : aSt) (acc : Cnd) : Prop := a_I σ 237 10 = nI acc.length ∧ acc.length ≤ 4 ∧ ∀ i, i < acc.length → a_I σ 242 i = nI (acc.getD i (0, 0)).1 ∧ a_I σ 243 i = nI (acc.getD i (0, 0)).2
def S31 (b k : Nat) : Prop := S26 b k ∨ b = 242 ∨ b = 243 ∨ (b = 237 ∧ k = 10)
theorem TP.mo {S : Nat → Nat → Prop} {σ σ' : aSt} {acc : Cnd} (T : TP σ acc) (m : Mo S σ σ') (h1 : ¬ S 237 10) (h2 : ∀ k, ¬ S 242 k ∧ ¬ S 243 k) : TP σ' acc := ⟨(m.I h1).trans T.1, T.2.1, fun i hi => ⟨(m.I (h2 i).1).trans (T.2.2 i hi).1, (m.I (h2 i).2).trans (T.2.2 i hi).2⟩⟩
theorem TP.s26 {σ σ' : aSt} {acc : Cnd} (T : TP σ acc) (m : Mo S26 σ σ') : TP σ' acc := T.mo m (by unfold S26; omega) fun k => by unfold S26; omega
theorem TP.tk {σ : aSt} {acc : Cnd} (T : TP σ acc) {w : Nat → Nat} : TK σ (m_row w acc) := by
  refine ⟨T.1, fun i hi => ?_⟩
  have hi : i < acc.length := hi
  have h4 := T.2.1
  obtain ⟨t1, t2⟩ := T.2.2 i hi
  unfold m_row
  constructor
  · rw [if_neg (by omega), if_neg (by omega), if_pos (by omega), show 9 + i - 9 = i by omega]; exact t1
  · rw [if_neg (by omega), if_neg (by omega), if_neg (by omega), show 13 + i - 13 = i by omega]; exact t2
section MOQ2
variable {P : aCall} {d : Nat} {σ : aSt} {X : Pal} {w : Nat} {B : Nat → Nat} {E : Nat} {r : (Nat × Nat) ⊕ Nat}
theorem MC.s30 {σ σ' : aSt} (M : MC σ w X) (m : Mo S30 σ σ') : MC σ' w X := M.mo m fun k z => by have := M.2.1; have := M.2.2.1; unfold S30 at z; omega
theorem MC.s26 {σ σ' : aSt} (M : MC σ w X) (m : Mo S26 σ σ') : MC σ' w X := M.mo m fun k z => by have := M.2.1; unfold S26 at z; omega
theorem MC.s31 {σ σ' : aSt} (M : MC σ w X) (m : Mo S31 σ σ') : MC σ' w X := M.mo m fun k z => by have := M.2.1; have := M.2.2.1; unfold S31 S26 at z; omega
theorem g_res_neg {o : Option Nat} (ho : ∀ a, o = some a → a < 2147483648) : g_res o = -1 ↔ o = none := g_res_m1 ho
theorem r_here_lt {t : Nat × Nat × Nat} {j a : Nat} (h : r_here X B t j = some a) : a < X.1 j := by
  unfold r_here at h
  split at h
  · cases h
  · have := (g_find_lt h).2.1
    omega
theorem y_readNew (hd : 6 ≤ d) (h : Sh σ) (M : MC σ w X) (V : Vd X) (R : RS σ B E r) : ∃ σ', a_call a_tab P d 248 [.ref 237] σ = some (.inl none, σ') ∧ Mo S30 σ σ' ∧ RS σ' B E (r_b r fun q => match g_new X B E q with | some e => .inl e | none => .inr (k_tok B E q).2.2) ∧ ∀ q, r = .inr q → g_new X B E q = none → NM σ' (k_n8 B (k_tok B E q)) := by
  have h20 := V.1
  obtain ⟨s1, c1, m1, R1, N1⟩ := y_lookName (P := P) (d := d - 1) (by omega) h R
  have h1 := m1.sh h
  have M1 := M.s30 m1
  rw [n_X8_readNew (by omega), b_X8_readNew_0 h, c1, g_n, b_X8_readNew_4 h1]
  have bad : ∀ e, RS s1 B E (.inl e) → ∃ σ', (if a_I s1 237 25 = 0 then b_G (a_call a_tab P (d - 1)) kX8_readNew [] 13 16 [some (.ref 237)] [.ref 237] (a_call a_tab P (d - 1) 244 [.ref 237] s1) else b_R (a_call a_tab P (d - 1)) kX8_readNew [] (28, [some (.ref 237)], [.ref 237], s1)) = some (.inl none, σ') ∧ Mo S30 σ σ' ∧ RS σ' B E (.inl e) := fun e Rb => by
    obtain ⟨e1, e2⟩ := Rb.e25
    obtain ⟨s2, c2, m2, R2⟩ := y_checkT (P := P) (d := d - 1) (by omega) h1 Rb (c := 3) (by decide) (by decide)
    obtain ⟨s3, c3, m3, R3⟩ := y_advance (P := P) (d := d - 1) (by omega) (m2.sh h1) R2
    refine ⟨s3, ?_, m1.tr ((m2.tr m3).mono fun b k z => z.n), R3⟩
    rw [e1, if_neg e2, b_X8_readNew_28, b_X8_readNew_33 h1, c2, g_n, b_X8_readNew_37 (m2.sh h1), c3, g_n, b_X8_readNew_41]
  cases r with
  | inl e =>
    obtain ⟨σ', e1, m, R'⟩ := bad e R1
    exact ⟨σ', e1, m, R', fun q hq => by cases hq⟩
  | inr q =>
    show ∃ σ', _ ∧ Mo S30 σ σ' ∧ RS σ' B E (match g_new X B E q with | some e => .inl e | none => .inr (k_tok B E q).2.2) ∧ _
    have R1 : RS s1 B E (match g_nm B (k_tok B E q) with | some e => .inl e | none => .inr q) := R1
    have N1 := N1 q rfl
    cases hn : g_nm B (k_tok B E q) with
    | some e =>
      rw [hn] at R1
      obtain ⟨σ', e1, m, R'⟩ := bad e R1
      have eg : g_new X B E q = some e := by unfold g_new; rw [hn]
      rw [eg]
      exact ⟨σ', e1, m, R', fun q' hq hn' => by cases hq; rw [eg] at hn'; cases hn'⟩
    | none =>
      rw [hn] at R1
      have R1 : RS s1 B E (.inr q) := R1
      obtain ⟨N, k1⟩ := N1 hn
      have h8 : ¬ 8 < (k_tok B E q).2.2 - (k_tok B E q).2.1 := fun z => by
        unfold g_nm at hn
        rw [if_pos k1, if_pos z] at hn
        cases hn
      have e0 : r_here X B (k_tok B E q) 0 = g_ft X (k_n8 B (k_tok B E q)) := if_neg h8
      have e1 : r_here X B (k_tok B E q) 1 = g_fm X (k_n8 B (k_tok B E q)) := if_neg h8
      have b0 : ∀ a, g_ft X (k_n8 B (k_tok B E q)) = some a → a < 2147483648 := fun a ha => by rw [← e0] at ha; have := r_here_lt ha; omega
      have b1 : ∀ a, g_fm X (k_n8 B (k_tok B E q)) = some a → a < 2147483648 := fun a ha => by rw [← e1] at ha; have := r_here_lt ha; omega
      have eg : g_new X B E q = if (g_ft X (k_n8 B (k_tok B E q))).isSome || (g_fm X (k_n8 B (k_tok B E q))).isSome then some (3, (k_tok B E q).2.1) else none := by unfold g_new; rw [hn]
      rw [R1.2.2.2, if_pos (show nI 0 = 0 from rfl), y_tubeHere (by omega) h1 M1 V R1 k1, g_v, b_X8_readNew_16 h1, e0, b_X8_readNew_32, b_X8_readNew_33 h1]
      obtain ⟨sa, ca, ma, Ra⟩ := y_checkT (P := P) (d := d - 1) (by omega) h1 R1 (c := 3) (by decide) (by decide)
      obtain ⟨sb, cb, mb, Rb⟩ := y_advance (P := P) (d := d - 1) (by omega) (ma.sh h1) Ra
      obtain ⟨sc, cc, mc, Rc⟩ := y_checkF (P := P) (d := d - 1) (by omega) h1 R1 (c := 3) (by decide) (by decide)
      obtain ⟨sd, cd, md, Rd⟩ := y_advance (P := P) (d := d - 1) (by omega) (mc.sh h1) Rc
      have gn : b_G (a_call a_tab P (d - 1)) kX8_readNew [] 34 37 [some (.ref 237)] [] (a_call a_tab P (d - 1) 233 [.ref 237, .int (nI 1), .int (nI 3)] s1) = some (.inl none, sb) := by
        rw [ca, g_n, b_X8_readNew_37 (ma.sh h1), cb, g_n, b_X8_readNew_41]
      have gf : b_G (a_call a_tab P (d - 1)) kX8_readNew [] 34 37 [some (.ref 237)] [] (a_call a_tab P (d - 1) 233 [.ref 237, .int (nI 0), .int (nI 3)] s1) = some (.inl none, sd) := by
        rw [cc, g_n, b_X8_readNew_37 (mc.sh h1), cd, g_n, b_X8_readNew_41]
      rw [gf]
      have out : ∀ o : Option (Nat × Nat), o = some (3, (k_tok B E q).2.1) → g_new X B E q = o → ∃ σ', some ((.inl none : aRes), sd) = some (.inl none, σ') ∧ Mo S30 σ σ' ∧ RS σ' B E (match o with | some e => .inl e | none => .inr (k_tok B E q).2.2) ∧ ∀ q', (Sum.inr q : (Nat × Nat) ⊕ Nat) = .inr q' → o = none → NM σ' (k_n8 B (k_tok B E q')) := fun o ho hg => by
        subst ho
        exact ⟨sd, rfl, m1.tr ((mc.tr md).mono fun b k z => z.n), Rd, fun q' _ hz => by cases hz⟩
      by_cases c0 : g_ft X (k_n8 B (k_tok B E q)) = none
      · rw [if_pos ((g_res_neg b0).mpr c0), y_mixHere (by omega) h1 M1 V R1 k1, g_v, b_X8_readNew_24, e1, b_X8_readNew_28, b_X8_readNew_32, b_X8_readNew_33 h1, b_X8_readNew_33 h1, gn, gf]
        by_cases c2 : g_fm X (k_n8 B (k_tok B E q)) = none
        · rw [if_pos ((g_res_neg b1).mpr c2)]
          have eg2 : g_new X B E q = none := by rw [eg, c0, c2]; rfl
          rw [eg2]
          refine ⟨sb, rfl, m1.tr ((ma.tr mb).mono fun b k z => z.n), Rb, fun q' hq _ => ?_⟩
          cases hq
          exact N.mo (ma.tr mb) (by unfold S26; omega) (fun k => by unfold S26; omega)
        · rw [if_neg (fun z => c2 ((g_res_neg b1).mp z))]
          have eg2 : g_new X B E q = some (3, (k_tok B E q).2.1) := by
            rw [eg, c0]
            cases hz : g_fm X (k_n8 B (k_tok B E q)) with
            | none => exact absurd hz c2
            | some a => rfl
          obtain ⟨σ', x1, x2, x3, x4⟩ := out _ rfl eg2
          rw [eg2]
          exact ⟨σ', x1, x2, x3, fun q' hq hz => by cases hq; rw [eg2] at hz; cases hz⟩
      · rw [if_neg (fun z => c0 ((g_res_neg b0).mp z))]
        have eg2 : g_new X B E q = some (3, (k_tok B E q).2.1) := by
          rw [eg]
          cases hz : g_ft X (k_n8 B (k_tok B E q)) with
          | none => exact absurd hz c0
          | some a => rfl
        obtain ⟨σ', x1, x2, x3, x4⟩ := out _ rfl eg2
        rw [eg2]
        exact ⟨σ', x1, x2, x3, fun q' hq hz => by cases hq; rw [eg2] at hz; cases hz⟩
end MOQ2
