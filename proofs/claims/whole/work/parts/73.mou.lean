/-! the model: a tube, a mix of a palette's text -/
def Sld (w b k : Nat) : Prop := b = w ∨ S31 b k ∨ (b = 237 ∧ k = 30) ∨ b = 248
theorem S26.ld {w b k : Nat} (h : S26 b k) : Sld w b k := .inr (.inl h.p)
theorem S31.ld {w b k : Nat} (h : S31 b k) : Sld w b k := .inr (.inl h)
theorem S30.ld {w b k : Nat} (h : S30 b k) : Sld w b k := by unfold S30 at h; unfold Sld S31 S26; omega
theorem MP.up0n {F F' : Nat → Int32} {X : Pal} {f : Nat → Nat → Nat} {n : Nat} (V : Vd X) (h : MP F X) (hF : ∀ k, (k < 8 ∨ 288 ≤ k) → k ≠ 0 → F' k = F k) (h0 : F' 0 = nI n) (hc : ∀ t, t < n → MT F' t (f t)) : MP F' (z_cnt (z_up X 0 f) 0 n) := by
  obtain ⟨⟨a0, a1, a2, a3, a4, a5, a6⟩, ht, hm, hb, hp⟩ := h
  exact ⟨⟨h0, (hF 1 (by decide) (by decide)).trans a1, (hF 2 (by decide) (by decide)).trans a2, (hF 3 (by decide) (by decide)).trans a3, (hF 4 (by decide) (by decide)).trans a4, (hF 5 (by decide) (by decide)).trans a5, (hF 6 (by decide) (by decide)).trans a6⟩, hc, fun m (h : m < X.1 1) => MM.eq (hm m h) (V.lm h) (V.m h).2.1 fun k hk => hF _ (by omega) (by omega), fun b h k hk => (hF _ (by omega) (by omega)).trans (hb b h k hk), fun g h k hk => (hF _ (by omega) (by omega)).trans (hp g h k hk)⟩
theorem g_num_in {B : Nat → Nat} {E lo hi q : Nat} {p : Nat × Nat} (h : g_num B E lo hi q = .inr p) : lo ≤ p.1 ∧ p.1 ≤ hi := by
  unfold g_num at h
  cases hk : k_ne B (k_tok B E q) lo hi with
  | some c => rw [hk] at h; cases h
  | none => rw [hk] at h; cases h; exact (k_ne_none hk).2
def r_val (B : Nat → Nat) (E lo hi : Nat) (r : (Nat × Nat) ⊕ Nat) : Nat := match r_num B E lo hi r with | .inl _ => lo | .inr p => p.1
theorem r_val_le {B : Nat → Nat} {E lo hi : Nat} {r : (Nat × Nat) ⊕ Nat} (h : lo ≤ hi) : r_val B E lo hi r ≤ hi := by
  unfold r_val
  cases hr : r_num B E lo hi r with
  | inl e => exact h
  | inr p =>
    cases r with
    | inl e => cases hr
    | inr q => exact (g_num_in (q := q) hr).2
section MOU2
variable {P : aCall} {d : Nat} {σ : aSt} {X : Pal} {w : Nat} {B : Nat → Nat} {E : Nat} {r : (Nat × Nat) ⊕ Nat}
theorem y_num (H : Pm P) (hd : 6 ≤ d) (h : Sh σ) (R : RS σ B E r) {lo hi : Nat} (hh : hi < 1000000) (hl : lo ≤ hi) : ∃ σ', a_call a_tab P d 241 [.ref 237, .int (nI lo), .int (nI hi)] σ = some (.inl (some (.int (nI (r_val B E lo hi r)))), σ') ∧ Mo S26 σ σ' ∧ RS σ' B E (r_snd (r_num B E lo hi r)) := by
  obtain ⟨s1, e1, m1, R1⟩ := y_readNumber (P := P) H hd h R hh hl
  refine ⟨s1, ?_, m1, R1⟩
  rw [e1]
  unfold r_val
  rfl
theorem y_readTube (H : Pm P) (hd : 8 ≤ d) (h : Sh σ) (M : MC σ w X) (V : Vd X) {q : Nat} (R : RS σ B E (.inr q)) : ∃ σ', a_call a_tab P d 252 [.ref 237] σ = some (.inl none, σ') ∧ Mo (Sld w) σ σ' ∧ RS σ' B E (r_snd (g_tube X B E q)) ∧ (∀ k, 648 ≤ k → k < 672 → a_I σ' w k = a_I σ w k) ∧ ∀ Y q', g_tube X B E q = .inr (Y, q') → MP (a_I σ' w) Y ∧ Vd Y := by
  have h20 := V.1
  have hw2 := M.2.2.1
  have key : ∃ r1, (r1 = if 20 ≤ X.1 0 then .inl (3, (k_tok B E q).2.1) else .inr q) ∧ ∃ s1, b_R (a_call a_tab P (d - 1)) kX8_readTube [] (0, [some (.ref 237), none, none], [], σ) = b_R (a_call a_tab P (d - 1)) kX8_readTube [] (21, [some (.ref 237), none, none], [], s1) ∧ Mo S26 σ s1 ∧ RS s1 B E r1 := by
    rw [b_X8_readTube_0 h M.1, b_gd_t (nIi (by decide) (by decide)), show a_I σ w (Int32.toNatClampNeg (nI 0)) = nI (X.1 0) from M.2.2.2.1.1, b_X8_readTube_17 h, b_X8_readTube_17 h]
    by_cases c : 20 ≤ X.1 0
    · obtain ⟨s1, d1, m1, R1⟩ := y_checkF (P := P) (d := d - 1) (by omega) h R (c := 3) (by decide) (by decide)
      refine ⟨_, rfl, s1, ?_, m1, by rw [if_pos c]; exact R1⟩
      rw [if_neg (nIn c (by omega)), d1, g_n]
    · obtain ⟨s1, d1, m1, R1⟩ := y_checkT (P := P) (d := d - 1) (by omega) h R (c := 3) (by decide) (by decide)
      refine ⟨_, rfl, s1, ?_, m1, by rw [if_neg c]; exact R1⟩
      rw [if_pos (nIl (by omega) (by decide)), d1, g_n]
  obtain ⟨r1, hr1, s1, e1, m1, R1⟩ := key
  have h1 := m1.sh h
  obtain ⟨s2, d2, m2, R2⟩ := y_advance (P := P) (d := d - 1) (by omega) h1 R1
  have m12 := m1.tr m2
  have h2 := m12.sh h
  obtain ⟨s3, d3, m3, R3, N3⟩ := y_readNew (P := P) (d := d - 1) (by omega) h2 (M.s26 m12) V R2
  have m13 : Mo S30 σ s3 := (m12.mono fun b k z => z.n).tr m3
  have h3 := m13.sh h
  have M3 := M.s30 m13
  rw [n_X8_readTube (by omega), e1, b_X8_readTube_21 h1, d2, g_n, b_X8_readTube_25 h2, d3, g_n, b_X8_readTube_29 h3 M3.1]
  have badI : ∀ e : Nat × Nat, g_tube X B E q = .inl e → RS s3 B E (.inl e) → ∃ σ', (if a_I s3 237 25 = 0 then b_gd (a_in (nI 0) 720) (b_G (a_call a_tab P (d - 1)) kX8_readTube [] 54 57 [some (.ref 237), some (.int (a_I s3 w (Int32.toNatClampNeg (nI 0)))), none] [] (a_call a_tab P (d - 1) 247 [.ref 237, .int ((nI 8 + (nI 14 * a_I s3 w (Int32.toNatClampNeg (nI 0)))) + nI 5)] s3)) else some (.inl none, s3)) = some (.inl none, σ') ∧ Mo (Sld w) σ σ' ∧ RS σ' B E (r_snd (g_tube X B E q)) ∧ (∀ k, 648 ≤ k → k < 672 → a_I σ' w k = a_I σ w k) ∧ ∀ Y q', g_tube X B E q = .inr (Y, q') → MP (a_I σ' w) Y ∧ Vd Y := fun e hg Rb => by
    obtain ⟨e1, e2⟩ := Rb.e25
    refine ⟨s3, ?_, m13.mono fun b k z => z.ld, by rw [hg]; exact Rb, fun k _ _ => m13.I (by unfold S30; omega), fun Y q' hz => by rw [hg] at hz; cases hz⟩
    rw [e1, if_neg e2]
  have gt : g_tube X B E q = (if 20 ≤ X.1 0 then .inl (3, (k_tok B E q).2.1) else
    match g_new X B E (k_tok B E q).2.2 with
    | some e => .inl e
    | none => match g_num B E 0 255 (k_tok B E (k_tok B E q).2.2).2.2 with
      | .inl e => .inl e
      | .inr r1 => match g_num B E 0 255 r1.2 with
        | .inl e => .inl e
        | .inr r2 => match g_num B E 0 255 r2.2 with
          | .inl e => .inl e
          | .inr r3 => if (k_tok B E r3.2).1 = 2 then
              (match g_num B E 0 9999 r3.2 with
              | .inl e => .inl e
              | .inr r4 => .inr (z_row X (z_trow (k_n8 B (k_tok B E (k_tok B E q).2.2)) r1.1 r2.1 r3.1 r4.1), r4.2))
            else .inr (z_row X (z_trow (k_n8 B (k_tok B E (k_tok B E q).2.2)) r1.1 r2.1 r3.1 100), r3.2)) := rfl
  by_cases c20 : 20 ≤ X.1 0
  · rw [if_pos c20] at hr1 gt
    subst hr1
    exact badI _ gt R3
  rw [if_neg c20] at hr1 gt
  subst hr1
  have R3 : RS s3 B E (match g_new X B E (k_tok B E q).2.2 with | some e => .inl e | none => .inr (k_tok B E (k_tok B E q).2.2).2.2) := R3
  have N3 := N3 (k_tok B E q).2.2 rfl
  cases hn : g_new X B E (k_tok B E q).2.2 with
  | some e =>
    rw [hn] at gt R3
    exact badI _ gt R3
  | none =>
    rw [hn] at gt R3
    have N := N3 hn
    generalize k_n8 B (k_tok B E (k_tok B E q).2.2) = g at N gt
    generalize (k_tok B E (k_tok B E q).2.2).2.2 = q3 at R3 gt
    have R3 : RS s3 B E (.inr q3) := R3
    have f0 : a_I s3 w 0 = nI (X.1 0) := M3.2.2.2.1.1
    obtain ⟨s4, d4, m4, f5, f6⟩ := y_layName (P := P) (d := d - 1) (by omega) h3 M3.1 hw2 N (p := 8 + 14 * X.1 0 + 5) (by omega)
    have h4 := m4.sh h3
    have w4 := m4.rw M3.1
    have R4 := R3.mo m4 (fun k _ _ => by omega) (fun k => by omega)
    -- a number of the three
    have st : ∀ i r s, i < 3 → Sh s → Rw s w → RS s B E r → ∃ s', b_R (a_call a_tab P (d - 1)) kX8_readTube [] (59, [some (.ref 237), some (.int (nI (X.1 0))), some (.int (nI i))], [], s) = b_R (a_call a_tab P (d - 1)) kX8_readTube [] (59, [some (.ref 237), some (.int (nI (X.1 0))), some (.int (nI (i + 1)))], [], s') ∧ Mo (fun b k => S26 b k ∨ (b = w ∧ k = 8 + 14 * X.1 0 + i)) s s' ∧ RS s' B E (r_snd (r_num B E 0 255 r)) ∧ a_I s' w (8 + 14 * X.1 0 + i) = nI (r_val B E 0 255 r) := fun i r s hi hs ws Rs => by
      obtain ⟨s', d', m', R'⟩ := y_num (P := P) (d := d - 1) H (by omega) hs Rs (lo := 0) (hi := 255) (by decide) (by decide)
      have hs' := m'.sh hs
      have ms : Mo (fun b k => b = w ∧ k = 8 + 14 * X.1 0 + i) s' (a_setI s' w (8 + 14 * X.1 0 + i) (nI (r_val B E 0 255 r))) := Mo.set ⟨rfl, rfl⟩
      refine ⟨_, ?_, (m'.mono fun b k z => .inl z).tr (ms.mono fun b k z => .inr z), R'.mo ms (fun k _ _ => by omega) (fun k => by omega), a_I_at⟩
      rw [b_X8_readTube_59 hs, if_pos (nIl hi (by decide)), d', g_v, b_X8_readTube_75 hs', y_layTube (by omega) hs' (m'.rw ws) (by omega) (by omega), g_n, b_X8_readTube_78, nI_add]
    obtain ⟨s5, e5, m5, R5, v5⟩ := st 0 _ s4 (by decide) h4 w4 R4
    have h5 := m5.sh h4
    have w5 := m5.rw w4
    obtain ⟨s6, e6, m6, R6, v6⟩ := st 1 _ s5 (by decide) h5 w5 R5
    have h6 := m6.sh h5
    have w6 := m6.rw w5
    obtain ⟨s7, e7, m7, R7, v7⟩ := st 2 _ s6 (by decide) h6 w6 R6
    have h7 := m7.sh h6
    have w7 := m7.rw w6
    -- the drops
    have dr : ∃ s8 dv r8, b_R (a_call a_tab P (d - 1)) kX8_readTube [] (59, [some (.ref 237), some (.int (nI (X.1 0))), some (.int (nI 3))], [], s7) = b_R (a_call a_tab P (d - 1)) kX8_readTube [] (115, [some (.ref 237), some (.int (nI (X.1 0))), some (.int (nI 3))], [.int (nI dv), .int (nI 3), .int (nI (X.1 0)), .ref 237], s8) ∧ Mo S26 s7 s8 ∧ RS s8 B E r8 ∧ dv ≤ 9999 ∧ r8 = (r_b (r_snd (r_num B E 0 255 (r_snd (r_num B E 0 255 (r_snd (r_num B E 0 255 (.inr q3))))))) fun q => if (k_tok B E q).1 = 2 then r_snd (g_num B E 0 9999 q) else .inr q) ∧ ∀ q, r_snd (r_num B E 0 255 (r_snd (r_num B E 0 255 (r_snd (r_num B E 0 255 (.inr q3)))))) = .inr q → ((k_tok B E q).1 = 2 → ∀ p, g_num B E 0 9999 q = .inr p → dv = p.1) ∧ (¬ (k_tok B E q).1 = 2 → dv = 100) := by
      generalize r_snd (r_num B E 0 255 (r_snd (r_num B E 0 255 (r_snd (r_num B E 0 255 (.inr q3)))))) = r7 at R7
      rw [b_X8_readTube_59 h7, if_neg (by decide), b_X8_readTube_113]
      cases r7 with
      | inl e =>
        obtain ⟨e1, e2⟩ := R7.e25
        exact ⟨s7, 100, .inl e, by rw [e1, if_neg e2], Mo.rf, R7, by decide, rfl, fun q hq => by cases hq⟩
      | inr q7 =>
        obtain ⟨k1, k2, k3, k4⟩ := R7.tok
        rw [R7.2.2.2, if_pos (show nI 0 = 0 from rfl), R7.2.2.1.1]
        by_cases c2 : (k_tok B E q7).1 = 2
        · obtain ⟨s8, d8, m8, R8⟩ := y_num (P := P) (d := d - 1) H (by omega) h7 R7 (lo := 0) (hi := 9999) (by decide) (by decide)
          refine ⟨s8, r_val B E 0 9999 (.inr q7), _, by rw [if_pos (congrArg nI c2), d8, g_v, b_X8_readTube_110], m8, R8, r_val_le (by decide), ?_, fun q hq => ⟨fun _ p hp => ?_, fun z => ?_⟩⟩
          · show _ = if (k_tok B E q7).1 = 2 then r_snd (g_num B E 0 9999 q7) else .inr q7
            rw [if_pos c2]
            rfl
          · cases hq
            show (match g_num B E 0 9999 q7 with | .inl _ => 0 | .inr p => p.1) = p.1
            rw [hp]
          · cases hq
            exact absurd c2 z
        · refine ⟨s7, 100, .inr q7, by rw [if_neg (fun z => c2 ((o_eq (by omega) (by omega)).mp z))], Mo.rf, R7, by decide, ?_, fun q hq => ⟨fun z => ?_, fun _ => rfl⟩⟩
          · show _ = if (k_tok B E q7).1 = 2 then r_snd (g_num B E 0 9999 q7) else .inr q7
            rw [if_neg c2]
          · cases hq
            exact absurd z c2
    obtain ⟨s8, dv, r8, e8, m8, R8, dv9, hr8, hdv⟩ := dr
    have h8 := m8.sh h7
    have w8 := m8.rw w7
    have n1 : Mo (fun b k => b = w ∧ k = 8 + 14 * X.1 0 + 3) s8 (a_setI s8 w (8 + 14 * X.1 0 + 3) (nI dv)) := Mo.set ⟨rfl, rfl⟩
    have n2 : Mo (fun b k => b = w ∧ k = 8 + 14 * X.1 0 + 4) (a_setI s8 w (8 + 14 * X.1 0 + 3) (nI dv)) (a_setI (a_setI s8 w (8 + 14 * X.1 0 + 3) (nI dv)) w (8 + 14 * X.1 0 + 4) (nI 1)) := Mo.set ⟨rfl, rfl⟩
    have n3 : Mo (fun b k => b = w ∧ k = 0) (a_setI (a_setI s8 w (8 + 14 * X.1 0 + 3) (nI dv)) w (8 + 14 * X.1 0 + 4) (nI 1)) (a_setI (a_setI (a_setI s8 w (8 + 14 * X.1 0 + 3) (nI dv)) w (8 + 14 * X.1 0 + 4) (nI 1)) w 0 (nI (X.1 0 + 1))) := Mo.set ⟨rfl, rfl⟩
    have h9 := n1.sh h8
    have h10 := n2.sh h9
    -- the row behind it all
    have mA : Mo (fun b k => S26 b k ∨ (b = w ∧ ((8 + 14 * X.1 0 ≤ k ∧ k < 8 + 14 * X.1 0 + 14) ∨ k = 0))) s3 (a_setI (a_setI (a_setI s8 w (8 + 14 * X.1 0 + 3) (nI dv)) w (8 + 14 * X.1 0 + 4) (nI 1)) w 0 (nI (X.1 0 + 1))) := (((((((m4.mono fun b k z => .inr ⟨z.1, by omega⟩).tr (m5.mono fun b k z => z.elim .inl fun z => .inr ⟨z.1, by omega⟩)).tr (m6.mono fun b k z => z.elim .inl fun z => .inr ⟨z.1, by omega⟩)).tr (m7.mono fun b k z => z.elim .inl fun z => .inr ⟨z.1, by omega⟩)).tr (m8.mono fun b k z => .inl z)).tr (n1.mono fun b k z => .inr ⟨z.1, by omega⟩)).tr (n2.mono fun b k z => .inr ⟨z.1, by omega⟩)).tr (n3.mono fun b k z => .inr ⟨z.1, by omega⟩)
    have wn : ∀ k, ¬ S26 w k := fun k z => by unfold S26 at z; omega
    have fA : ∀ k, (k < 8 + 14 * X.1 0 ∨ 8 + 14 * X.1 0 + 14 ≤ k) → k ≠ 0 → a_I (a_setI (a_setI (a_setI s8 w (8 + 14 * X.1 0 + 3) (nI dv)) w (8 + 14 * X.1 0 + 4) (nI 1)) w 0 (nI (X.1 0 + 1))) w k = a_I s3 w k := fun k h1 h2 => mA.I fun z => z.elim (wn k) fun z => by omega
    have cell : ∀ k, k ≠ 3 → k ≠ 4 → k < 14 → a_I (a_setI (a_setI (a_setI s8 w (8 + 14 * X.1 0 + 3) (nI dv)) w (8 + 14 * X.1 0 + 4) (nI 1)) w 0 (nI (X.1 0 + 1))) w (8 + 14 * X.1 0 + k) = a_I s7 w (8 + 14 * X.1 0 + k) := fun k h3 h4 h14 => by
      rw [a_I_off (.inr (by omega)), a_I_off (.inr (by omega)), a_I_off (.inr (by omega)), m8.I (wn _)]
    have hgl := z_vn N.1
    have row : MT (a_I (a_setI (a_setI (a_setI s8 w (8 + 14 * X.1 0 + 3) (nI dv)) w (8 + 14 * X.1 0 + 4) (nI 1)) w 0 (nI (X.1 0 + 1))) w) (X.1 0) (z_trow g (r_val B E 0 255 (.inr q3)) (r_val B E 0 255 (r_snd (r_num B E 0 255 (.inr q3)))) (r_val B E 0 255 (r_snd (r_num B E 0 255 (r_snd (r_num B E 0 255 (.inr q3)))))) dv) := by
      have el : z_len (z_trow g (r_val B E 0 255 (.inr q3)) (r_val B E 0 255 (r_snd (r_num B E 0 255 (.inr q3)))) (r_val B E 0 255 (r_snd (r_num B E 0 255 (r_snd (r_num B E 0 255 (.inr q3)))))) dv) = z_len g := z_len_congr fun k hk => if_pos hk
      refine ⟨fun k hk => ?_, ?_, ?_, ?_, fun k hk => ?_⟩
      · rw [cell k (by omega) (by omega) (by omega)]
        obtain rfl | rfl | rfl : k = 0 ∨ k = 1 ∨ k = 2 := by omega
        · rw [m7.I (fun z => z.elim (wn _) fun z => by omega), m6.I (fun z => z.elim (wn _) fun z => by omega)]
          exact v5
        · rw [m7.I (fun z => z.elim (wn _) fun z => by omega)]
          exact v6
        · exact v7
      · rw [a_I_off (.inr (by omega)), a_I_off (.inr (by omega)), a_I_at]
        rfl
      · rw [a_I_off (.inr (by omega)), a_I_at]
        rfl
      · rw [cell 5 (by decide) (by decide) (by decide), m7.I (fun z => z.elim (wn _) fun z => by omega), m6.I (fun z => z.elim (wn _) fun z => by omega), m5.I (fun z => z.elim (wn _) fun z => by omega), el]
        exact f5
      · rw [el] at hk
        rw [cell (6 + k) (by omega) (by omega) (by omega), m7.I (fun z => z.elim (wn _) fun z => by omega), m6.I (fun z => z.elim (wn _) fun z => by omega), m5.I (fun z => z.elim (wn _) fun z => by omega)]
        have := f6 k hk
        rw [show 8 + 14 * X.1 0 + 5 + 1 + k = 8 + 14 * X.1 0 + (6 + k) by omega] at this
        rw [this]
        exact congrArg nI (if_pos (by omega)).symm
    have fin : MP (a_I (a_setI (a_setI (a_setI s8 w (8 + 14 * X.1 0 + 3) (nI dv)) w (8 + 14 * X.1 0 + 4) (nI 1)) w 0 (nI (X.1 0 + 1))) w) (z_row X (z_trow g (r_val B E 0 255 (.inr q3)) (r_val B E 0 255 (r_snd (r_num B E 0 255 (.inr q3)))) (r_val B E 0 255 (r_snd (r_num B E 0 255 (r_snd (r_num B E 0 255 (.inr q3)))))) dv)) := by
      refine M3.2.2.2.up0n V (fun k hk hk0 => fA k (by omega) hk0) a_I_at fun t ht => ?_
      by_cases htt : t = X.1 0
      · subst htt
        rw [show (fun k => if X.1 0 = X.1 0 then z_trow g (r_val B E 0 255 (.inr q3)) (r_val B E 0 255 (r_snd (r_num B E 0 255 (.inr q3)))) (r_val B E 0 255 (r_snd (r_num B E 0 255 (r_snd (r_num B E 0 255 (.inr q3)))))) dv k else X.2 0 (X.1 0) k) = z_trow g (r_val B E 0 255 (.inr q3)) (r_val B E 0 255 (r_snd (r_num B E 0 255 (.inr q3)))) (r_val B E 0 255 (r_snd (r_num B E 0 255 (r_snd (r_num B E 0 255 (.inr q3)))))) dv from funext fun k => if_pos rfl]
        exact row
      · rw [show (fun k => if t = X.1 0 then z_trow g (r_val B E 0 255 (.inr q3)) (r_val B E 0 255 (r_snd (r_num B E 0 255 (.inr q3)))) (r_val B E 0 255 (r_snd (r_num B E 0 255 (r_snd (r_num B E 0 255 (.inr q3)))))) dv k else X.2 0 t k) = X.2 0 t from funext fun k => if_neg htt]
        have hM : MT (a_I s3 w) t (X.2 0 t) := M3.2.2.2.2.1 t (by omega)
        exact hM.eq (V.lt (by omega)) fun k hk => fA _ (by omega) (by omega)
    have vd : Vd (z_row X (z_trow g (r_val B E 0 255 (.inr q3)) (r_val B E 0 255 (r_snd (r_num B E 0 255 (.inr q3)))) (r_val B E 0 255 (r_snd (r_num B E 0 255 (r_snd (r_num B E 0 255 (.inr q3)))))) dv)) := z_row_vd V (by omega) N.1 (r_val_le (by decide)) (r_val_le (by decide)) (r_val_le (by decide)) dv9
    have R9 : RS (a_setI (a_setI (a_setI s8 w (8 + 14 * X.1 0 + 3) (nI dv)) w (8 + 14 * X.1 0 + 4) (nI 1)) w 0 (nI (X.1 0 + 1))) B E r8 := ((R8.mo n1 (fun k _ _ => by omega) (fun k => by omega)).mo n2 (fun k _ _ => by omega) (fun k => by omega)).mo n3 (fun k _ _ => by omega) (fun k => by omega)
    have er : r8 = r_snd (g_tube X B E q) ∧ ∀ Y q', g_tube X B E q = .inr (Y, q') → Y = z_row X (z_trow g (r_val B E 0 255 (.inr q3)) (r_val B E 0 255 (r_snd (r_num B E 0 255 (.inr q3)))) (r_val B E 0 255 (r_snd (r_num B E 0 255 (r_snd (r_num B E 0 255 (.inr q3)))))) dv) := by
      rw [gt, hr8]
      unfold r_val
      rw [show r_num B E 0 255 (.inr q3) = g_num B E 0 255 q3 from rfl] at hdv ⊢
      cases ha : g_num B E 0 255 q3 with
      | inl e => exact ⟨rfl, fun Y q' hz => by cases hz⟩
      | inr p1 =>
        rw [ha] at hdv
        rw [show r_num B E 0 255 (r_snd (.inr p1)) = g_num B E 0 255 p1.2 from rfl] at hdv ⊢
        (try dsimp only)
        cases hb : g_num B E 0 255 p1.2 with
        | inl e => exact ⟨rfl, fun Y q' hz => by cases hz⟩
        | inr p2 =>
          rw [hb] at hdv
          rw [show r_num B E 0 255 (r_snd (.inr p2)) = g_num B E 0 255 p2.2 from rfl] at hdv ⊢
          (try dsimp only)
          cases hc : g_num B E 0 255 p2.2 with
          | inl e => exact ⟨rfl, fun Y q' hz => by cases hz⟩
          | inr p3 =>
            rw [hc] at hdv
            obtain ⟨hv1, hv2⟩ := hdv p3.2 rfl
            show (if (k_tok B E p3.2).1 = 2 then r_snd (g_num B E 0 9999 p3.2) else .inr p3.2) = _ ∧ _
            (try dsimp only)
            by_cases c2 : (k_tok B E p3.2).1 = 2
            · rw [if_pos c2, if_pos c2]
              cases hd4 : g_num B E 0 9999 p3.2 with
              | inl e => exact ⟨rfl, fun Y q' hz => by cases hz⟩
              | inr p4 =>
                refine ⟨rfl, fun Y q' hz => ?_⟩
                rw [hv1 c2 p4 hd4]
                cases hz
                rfl
            · rw [if_neg c2, if_neg c2]
              refine ⟨rfl, fun Y q' hz => ?_⟩
              rw [hv2 c2]
              cases hz
              rfl
    refine ⟨_, ?_, (m13.mono fun b k z => z.ld).tr (mA.mono fun b k z => z.elim S26.ld fun z => .inl z.1), by rw [← er.1]; exact R9, fun k h1 h2 => by rw [fA k (by omega) (by omega)]; exact m13.I (by unfold S30; omega), fun Y q' hz => by rw [er.2 Y q' hz]; exact ⟨fin, vd⟩⟩
    rw [R3.2.2.2, if_pos (show nI 0 = 0 from rfl), b_gd_t (nIi (by decide) (by decide)), nIc (by decide), f0, pk_mul, nI_add, nI_add, d4, g_n, b_X8_readTube_57, e5, e6, e7, e8, b_X8_readTube_115 h8, y_layTube (by omega) h8 w8 (by omega) (by decide), g_n, b_X8_readTube_118 h9, y_layTube (by omega) h9 (n1.rw w8) (by omega) (by decide), g_n, b_X8_readTube_125 h10 (n2.rw (n1.rw w8)), b_gd_t (nIi (by decide) (by decide)), b_gd_t (nIi (by decide) (by decide)), nIc (by decide), a_I_off (.inr (by omega)), a_I_off (.inr (by omega)), show a_I s8 w 0 = nI (X.1 0) from by rw [m8.I (wn _), m7.I (fun z => z.elim (wn _) fun z => by omega), m6.I (fun z => z.elim (wn _) fun z => by omega), m5.I (fun z => z.elim (wn _) fun z => by omega), m4.I (by omega)]; exact f0, nI_add]
end MOU2
