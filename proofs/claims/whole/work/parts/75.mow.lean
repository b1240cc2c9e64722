/-! the model: all of a palette's text -/
section MOW2
variable {P : aCall} {d : Nat} {σ : aSt} {X : Pal} {w : Nat} {B : Nat → Nat} {E : Nat} {r : (Nat × Nat) ⊕ Nat} {hs : List Pal} {sn : Option Pal} {x : Int32}
/-- the reader of a palette's text: the draft holds X, its brushes are clean -/
def RD (σ0 : aSt) (B : Nat → Nat) (E : Nat) (s : aSt) (X : Pal) (q : Nat) : Prop := Mo (Sld 239) σ0 s ∧ Sh s ∧ RS s B E (.inr q) ∧ MC s 239 X ∧ Vd X ∧ ∀ k, 648 ≤ k → k < 672 → a_I s 239 k = nI 0
theorem MP.head2 {F F' : Nat → Int32} (V : Vd X) (h : MP F X) {j v : Nat} (hj : j = 4 ∨ j = 5) (e : ∀ k, k ≠ j - 1 → F' k = F k) (ev : F' (j - 1) = nI v) : MP F' (z_cnt X j v) := by
  have v1 := V.1
  obtain ⟨⟨a0, a1, a2, a3, a4, a5, a6⟩, ht, hm, hb, hp⟩ := h
  have u1 := fun t (h : t < X.1 0) => MT.eq (F' := F') (ht t h) (V.lt h) fun k hk => e _ (by omega)
  have u2 := fun m (h : m < X.1 1) => MM.eq (F' := F') (hm m h) (V.lm h) (V.m h).2.1 fun k hk => e _ (by omega)
  have u3 := fun b (h : b < X.1 2) k (hk : k < 4) => (e (648 + 4 * b + k) (by omega)).trans (hb b h k hk)
  have u4 := fun g (h : g < X.1 3) k (hk : k < 4) => (e (672 + 4 * g + k) (by omega)).trans (hp g h k hk)
  rcases hj with rfl | rfl
  · exact ⟨⟨(e 0 (by decide)).trans a0, (e 1 (by decide)).trans a1, (e 2 (by decide)).trans a2, ev, (e 4 (by decide)).trans a4, (e 5 (by decide)).trans a5, (e 6 (by decide)).trans a6⟩, u1, u2, u3, u4⟩
  · exact ⟨⟨(e 0 (by decide)).trans a0, (e 1 (by decide)).trans a1, (e 2 (by decide)).trans a2, (e 3 (by decide)).trans a3, ev, (e 5 (by decide)).trans a5, (e 6 (by decide)).trans a6⟩, u1, u2, u3, u4⟩
theorem MP.brs {F F' : Nat → Int32} (V : Vd X) (h : MP F X) {v : Nat} (hv : v ≤ 6) (e : ∀ k, k ≠ 2 → F' k = F k) (ev : F' 2 = nI v) (z : ∀ k, 648 ≤ k → k < 672 → F k = nI 0) : MP F' (z_brs X v) := by
  have v1 := V.1
  obtain ⟨⟨a0, a1, a2, a3, a4, a5, a6⟩, ht, hm, hb, hp⟩ := h
  exact ⟨⟨(e 0 (by decide)).trans a0, (e 1 (by decide)).trans a1, ev, (e 3 (by decide)).trans a3, (e 4 (by decide)).trans a4, (e 5 (by decide)).trans a5, (e 6 (by decide)).trans a6⟩, fun t (h : t < X.1 0) => MT.eq (ht t h) (V.lt h) fun k hk => e _ (by omega), fun m (h : m < X.1 1) => MM.eq (hm m h) (V.lm h) (V.m h).2.1 fun k hk => e _ (by omega), fun b (hb : b < v) k hk => (e _ (by omega)).trans (z _ (by omega) (by omega)), fun g (h : g < X.1 3) k hk => (e _ (by omega)).trans (hp g h k hk)⟩
/-- from the semicolon on, when something is wrong -/
theorem y_rab76 (hd : 7 ≤ d) (h : Sh σ) {e : Nat × Nat} (R : RS σ B E (.inl e)) : ∃ σ', b_R (a_call a_tab P (d - 1)) kX8_readAll [] (76, [some (.ref 237)], [], σ) = some (.inl none, σ') ∧ Mo S26 σ σ' ∧ RS σ' B E (.inl e) := by
  obtain ⟨s1, d1, m1, R1⟩ := y_expect (P := P) (d := d - 1) (by omega) h R (c := 59) (by decide)
  obtain ⟨e1, e2⟩ := RS.e25 (e := e) R1
  refine ⟨s1, ?_, m1, R1⟩
  rw [b_X8_readAll_76 h, d1, g_n, b_X8_readAll_82 (m1.sh h), e1, if_neg e2, b_X8_readAll_126]
theorem y_rab53 (H : Pm P) (hd : 7 ≤ d) (h : Sh σ) (hw : Rw σ w) {e : Nat × Nat} (R : RS σ B E (.inl e)) : ∃ σ', b_R (a_call a_tab P (d - 1)) kX8_readAll [] (53, [some (.ref 237)], [], σ) = some (.inl none, σ') ∧ Mo S26 σ σ' ∧ RS σ' B E (.inl e) := by
  obtain ⟨s1, d1, m1, R1⟩ := y_accept (P := P) (d := d - 1) H (by omega) h R (s := 5) (by decide) (by decide)
  obtain ⟨s2, d2, m2, R2⟩ := y_rab76 (P := P) (d := d) hd (m1.sh h) (e := e) R1
  refine ⟨s2, ?_, m1.tr m2, R2⟩
  rw [b_X8_readAll_53 h, d1, g_v, b_X8_readAll_60 (m1.sh h) (m1.rw hw), show (r_q (Sum.inl e) fun q => k_is B (k_tok B E q) (q_txt 5)) = false from rfl, if_pos (show b_n false = 0 by decide)]
  exact d2
theorem y_rab30 (H : Pm P) (hd : 7 ≤ d) (h : Sh σ) (hw : Rw σ w) {e : Nat × Nat} (R : RS σ B E (.inl e)) : ∃ σ', b_R (a_call a_tab P (d - 1)) kX8_readAll [] (30, [some (.ref 237)], [], σ) = some (.inl none, σ') ∧ Mo S26 σ σ' ∧ RS σ' B E (.inl e) := by
  obtain ⟨s1, d1, m1, R1⟩ := y_accept (P := P) (d := d - 1) H (by omega) h R (s := 4) (by decide) (by decide)
  obtain ⟨s2, d2, m2, R2⟩ := y_rab53 (P := P) (d := d) H hd (m1.sh h) (m1.rw hw) (e := e) R1
  refine ⟨s2, ?_, m1.tr m2, R2⟩
  rw [b_X8_readAll_30 h, d1, g_v, b_X8_readAll_37 (m1.sh h) (m1.rw hw), show (r_q (Sum.inl e) fun q => k_is B (k_tok B E q) (q_txt 4)) = false from rfl, if_pos (show b_n false = 0 by decide)]
  exact d2
theorem y_rab7 (H : Pm P) (hd : 7 ≤ d) (h : Sh σ) (hw : Rw σ w) {e : Nat × Nat} (R : RS σ B E (.inl e)) : ∃ σ', b_R (a_call a_tab P (d - 1)) kX8_readAll [] (7, [some (.ref 237)], [], σ) = some (.inl none, σ') ∧ Mo S26 σ σ' ∧ RS σ' B E (.inl e) := by
  obtain ⟨s1, d1, m1, R1⟩ := y_accept (P := P) (d := d - 1) H (by omega) h R (s := 3) (by decide) (by decide)
  obtain ⟨s2, d2, m2, R2⟩ := y_rab30 (P := P) (d := d) H hd (m1.sh h) (m1.rw hw) (e := e) R1
  refine ⟨s2, ?_, m1.tr m2, R2⟩
  rw [b_X8_readAll_7 h, d1, g_v, b_X8_readAll_14 (m1.sh h) (m1.rw hw), show (r_q (Sum.inl e) fun q => k_is B (k_tok B E q) (q_txt 3)) = false from rfl, if_pos (show b_n false = 0 by decide)]
  exact d2
/-- how the reading of a palette ends -/
def RE (σ0 : aSt) (B : Nat → Nat) (E : Nat) (c : Option (aRes × aSt)) (r : (Nat × Nat) ⊕ Pal) : Prop := ∃ σ', c = some (.inl none, σ') ∧ Mo (Sld 239) σ0 σ' ∧ match r with | .inl e => RS σ' B E (.inl e) | .inr Y => (∃ q, RS σ' B E (.inr q)) ∧ MP (a_I σ' 239) Y ∧ Vd Y
theorem y_rloop (H : Pm P) (hd : 11 ≤ d) {σ0 : aSt} : ∀ (f : Nat) (s : aSt) (X : Pal) (q : Nat), E < q + f → RD σ0 B E s X q → RE σ0 B E (b_R (a_call a_tab P (d - 1)) kX8_readAll [] (82, [some (.ref 237)], [], s)) (g_cl B E f X q) := by
  intro f
  induction f with
  | zero =>
    intro s X q hf I
    have := I.2.2.1.2.1
    omega
  | succ f ih =>
    intro s X q hf I
    obtain ⟨i1, i2, i3, i4, i5, i6⟩ := I
    obtain ⟨k1, k2, k3, k4⟩ := i3.tok
    have hq := i3.2.1
    have eg : g_cl B E (f + 1) X q = if (k_tok B E q).1 = 0 then .inr X else
        match (if k_is B (k_tok B E q) (q_txt 2) then g_tube X B E q else g_mix X B E q) with
        | .inl e => .inl e
        | .inr r => if k_sg B (k_tok B E r.2) 59 then g_cl B E f r.1 (k_tok B E r.2).2.2 else .inl (1, (k_tok B E r.2).2.1) := rfl
    rw [eg, b_X8_readAll_82 i2, i3.2.2.2, if_pos (show nI 0 = 0 from rfl), i3.2.2.1.1, b_X8_readAll_126]
    by_cases c0 : (k_tok B E q).1 = 0
    · rw [if_pos c0, if_pos (show nI (k_tok B E q).1 = 0 from congrArg nI c0)]
      exact ⟨s, rfl, i1, ⟨q, i3⟩, i4.2.2.2, i5⟩
    · rw [if_neg c0, if_neg (show ¬ nI (k_tok B E q).1 = 0 from fun z => c0 ((o_eq0 (by omega)).mp z)), y_isWord H (by omega) i2 i3 (by decide) (by decide), g_v, b_X8_readAll_103 i2, show (r_q (.inr q) fun q => k_is B (k_tok B E q) (q_txt 2)) = k_is B (k_tok B E q) (q_txt 2) from rfl]
      -- behind the piece
      have next : ∀ (s1 : aSt) (g : (Nat × Nat) ⊕ (Pal × Nat)), Mo (Sld 239) s s1 → RS s1 B E (r_snd g) → (∀ k, 648 ≤ k → k < 672 → a_I s1 239 k = a_I s 239 k) → (∀ Y q', g = .inr (Y, q') → MP (a_I s1 239) Y ∧ Vd Y) → (∀ Y q', g = .inr (Y, q') → q ≤ q') → RE σ0 B E (b_R (a_call a_tab P (d - 1)) kX8_readAll [] (117, [some (.ref 237)], [], s1)) (match g with | .inl e => .inl e | .inr r => if k_sg B (k_tok B E r.2) 59 then g_cl B E f r.1 (k_tok B E r.2).2.2 else .inl (1, (k_tok B E r.2).2.1)) := fun s1 g m1 R1 z1 G1 mono => by
        have h1 := m1.sh i2
        obtain ⟨s2, d2, m2, R2⟩ := y_expect (P := P) (d := d - 1) (by omega) h1 R1 (c := 59) (by decide)
        have h2 := m2.sh h1
        have m02 := (i1.tr m1).tr (m2.mono fun b k z => (z.ld : Sld 239 b k))
        rw [b_X8_readAll_117 h1, d2, g_n, b_X8_readAll_123]
        have badI : ∀ e : Nat × Nat, RS s2 B E (.inl e) → RE σ0 B E (b_R (a_call a_tab P (d - 1)) kX8_readAll [] (82, [some (.ref 237)], [], s2)) (.inl e) := fun e Rb => by
          obtain ⟨e1, e2⟩ := Rb.e25
          exact ⟨s2, by rw [b_X8_readAll_82 h2, e1, if_neg e2, b_X8_readAll_126], m02, Rb⟩
        cases g with
        | inl e => exact badI e R2
        | inr r =>
          obtain ⟨Y, q'⟩ := r
          have R2 : RS s2 B E (if k_sg B (k_tok B E q') 59 then .inr (k_tok B E q').2.2 else .inl (1, (k_tok B E q').2.1)) := R2
          show RE σ0 B E _ (if k_sg B (k_tok B E q') 59 then g_cl B E f Y (k_tok B E q').2.2 else .inl (1, (k_tok B E q').2.1))
          cases hsg : k_sg B (k_tok B E q') 59 with
          | false =>
            rw [hsg, if_neg Bool.false_ne_true] at R2
            rw [if_neg Bool.false_ne_true]
            exact badI _ R2
          | true =>
            rw [hsg, if_pos rfl] at R2
            rw [if_pos rfl]
            obtain ⟨g1, g2⟩ := G1 Y q' rfl
            have hq' : q' ≤ E := R1.2.1
            have hk : (k_tok B E q').1 ≠ 0 := fun z => by
              unfold k_sg at hsg
              rw [z] at hsg
              cases hsg
            have hadv := k_tok_adv hk hq'
            have hm := mono Y q' rfl
            have e239 : ∀ k, a_I s2 239 k = a_I s1 239 k := fun k => m2.I (by unfold S26; omega)
            refine ih s2 Y _ (by omega) ⟨m02, h2, R2, ⟨m2.rw (m1.rw i4.1), by decide, .inr rfl, ?_⟩, g2, fun k h1 h2 => ?_⟩
            · rw [show a_I s2 239 = a_I s1 239 from funext e239]; exact g1
            · rw [e239, z1 k h1 h2]; exact i6 k h1 h2
      cases hw : k_is B (k_tok B E q) (q_txt 2) with
      | true =>
        obtain ⟨s1, d1, m1, R1, z1, G1⟩ := y_readTube (P := P) (d := d - 1) H (by omega) i2 i4 i5 i3
        rw [if_neg (show ¬ b_n true = 0 by decide), if_pos rfl, d1, g_n, b_X8_readAll_110]
        exact next s1 _ m1 R1 z1 G1 fun Y q' hz => g_tube_mono hq hz
      | false =>
        obtain ⟨s1, d1, m1, R1, z1, G1⟩ := y_readMix (P := P) (d := d - 1) H (by omega) i2 i4 i5 i3
        rw [if_pos (show b_n false = 0 by decide), if_neg Bool.false_ne_true, d1, g_n]
        exact next s1 _ m1 R1 z1 G1 fun Y q' hz => g_mix_mono hq hz
/-- one setting -/
theorem y_set1 (H : Pm P) (hd : 7 ≤ d) {σ0 s : aSt} {q : Nat} (I : RD σ0 B E s X q) {lo hi : Nat} (hh : hi < 1000000) (hl : lo ≤ hi) : ∃ s1, a_call a_tab P (d - 1) 241 [.ref 237, .int (nI lo), .int (nI hi)] s = some (.inl (some (.int (nI (r_val B E lo hi (.inr q))))), s1) ∧ Mo S26 s s1 ∧ RS s1 B E (r_snd (g_num B E lo hi q)) := y_num H (by omega) I.2.1 I.2.2.1 hh hl
theorem RD.s26 {σ0 s s' : aSt} {q q' : Nat} (I : RD σ0 B E s X q) (m : Mo S26 s s') (R : RS s' B E (.inr q')) : RD σ0 B E s' X q' :=
  ⟨I.1.tr (m.mono fun b k z => z.ld), m.sh I.2.1, R, I.2.2.2.1.s26 m, I.2.2.2.2.1, fun k h1 h2 => (m.I (by unfold S26; omega)).trans (I.2.2.2.2.2 k h1 h2)⟩
theorem y_readAll (H : Pm P) (hd : 12 ≤ d) {s : aSt} (I : RD s B E s z_p0 0) : RE s B E (a_call a_tab P d 254 [.ref 237] s) (g_load B E) := by
  have h := I.2.1
  have hwr := I.2.2.2.1.1
  obtain ⟨s1, d1, m1, R1⟩ := y_expectWord (P := P) (d := d - 1) H (by omega) h I.2.2.1 (s := 1) (by decide) (by decide)
  have h1 := m1.sh h
  rw [n_X8_readAll (by omega), b_X8_readAll_0 h, d1, g_n]
  have R1 : RS s1 B E (if k_is B (k_tok B E 0) (q_txt 1) then .inr (k_tok B E 0).2.2 else .inl (1, (k_tok B E 0).2.1)) := R1
  have bad : ∀ (pc : Nat) (s' : aSt) (e : Nat × Nat), Mo (Sld 239) s s' → (∃ σ', b_R (a_call a_tab P (d - 1)) kX8_readAll [] (pc, [some (.ref 237)], [], s') = some (.inl none, σ') ∧ Mo S26 s' σ' ∧ RS σ' B E (.inl e)) → RE s B E (b_R (a_call a_tab P (d - 1)) kX8_readAll [] (pc, [some (.ref 237)], [], s')) (.inl e) := fun pc s' e m ⟨σ', e1, m', R'⟩ => ⟨σ', e1, m.tr (m'.mono fun b k z => z.ld), R'⟩
  unfold g_load
  cases hk : k_is B (k_tok B E 0) (q_txt 1) with
  | false =>
    rw [hk, if_neg Bool.false_ne_true] at R1
    rw [if_neg Bool.false_ne_true]
    exact bad 7 s1 _ (m1.mono fun b k z => z.ld) (y_rab7 H (by omega) h1 (m1.rw hwr) R1)
  | true =>
    rw [hk, if_pos rfl] at R1
    rw [if_pos rfl]
    have I1 : RD s B E s1 z_p0 (k_tok B E 0).2.2 := I.s26 m1 R1
    -- behind the settings
    have q76 : ∀ t X q, RD s B E t X q → RE s B E (b_R (a_call a_tab P (d - 1)) kX8_readAll [] (76, [some (.ref 237)], [], t)) (if k_sg B (k_tok B E q) 59 then g_cl B E 901 X (k_tok B E q).2.2 else .inl (1, (k_tok B E q).2.1)) := fun t X q J => by
      obtain ⟨t1, c1, n1, S1⟩ := y_expect (P := P) (d := d - 1) (by omega) J.2.1 J.2.2.1 (c := 59) (by decide)
      have S1 : RS t1 B E (if k_sg B (k_tok B E q) 59 then .inr (k_tok B E q).2.2 else .inl (1, (k_tok B E q).2.1)) := S1
      rw [b_X8_readAll_76 J.2.1, c1, g_n]
      cases hsg : k_sg B (k_tok B E q) 59 with
      | false =>
        rw [hsg, if_neg Bool.false_ne_true] at S1
        rw [if_neg Bool.false_ne_true]
        obtain ⟨e1, e2⟩ := S1.e25
        exact ⟨t1, by rw [b_X8_readAll_82 (n1.sh J.2.1), e1, if_neg e2, b_X8_readAll_126], J.1.tr (n1.mono fun b k z => z.ld), S1⟩
      | true =>
        rw [hsg, if_pos rfl] at S1
        rw [if_pos rfl]
        have J1 := J.s26 n1 S1
        exact y_rloop H (by omega) 901 t1 X _ (by have := S1.1.2.1; omega) J1
    have q53 : ∀ t X q, RD s B E t X q → RE s B E (b_R (a_call a_tab P (d - 1)) kX8_readAll [] (53, [some (.ref 237)], [], t)) (match g_opt B E 5 0 99999 (fun n => z_cnt X 5 n) X q with | .inl e => .inl e | .inr r => if k_sg B (k_tok B E r.2) 59 then g_cl B E 901 r.1 (k_tok B E r.2).2.2 else .inl (1, (k_tok B E r.2).2.1)) := fun t X q J => by
      obtain ⟨t1, c1, n1, S1⟩ := y_accept (P := P) (d := d - 1) H (by omega) J.2.1 J.2.2.1 (s := 5) (by decide) (by decide)
      have J1 := J.s26 n1 S1
      rw [b_X8_readAll_53 J.2.1, c1, g_v, b_X8_readAll_60 J1.2.1 J1.2.2.2.1.1, show (r_q (.inr q) fun q => k_is B (k_tok B E q) (q_txt 5)) = k_is B (k_tok B E q) (q_txt 5) from rfl]
      unfold g_opt
      cases hk5 : k_is B (k_tok B E q) (q_txt 5) with
      | false =>
        rw [hk5] at J1
        rw [if_pos (show b_n false = 0 by decide), if_neg Bool.false_ne_true]
        exact q76 t1 X q J1
      | true =>
        rw [hk5, if_pos rfl] at J1
        obtain ⟨t2, c2, n2, S2⟩ := y_set1 (P := P) (d := d) H (by omega) J1 (lo := 0) (hi := 99999) (by decide) (by decide)
        have n3 : Mo (fun b k => b = 239 ∧ k = 4) t2 (a_setI t2 239 4 (nI (r_val B E 0 99999 (.inr (k_tok B E q).2.2)))) := Mo.set ⟨rfl, rfl⟩
        have w2 := n2.rw J1.2.2.2.1.1
        rw [if_neg (show ¬ b_n true = 0 by decide), if_pos rfl, c2, g_v, b_X8_readAll_75 w2, b_gd_t (nIi (by decide) (by decide)), nIc (by decide)]
        have mm := (J1.1.tr (n2.mono fun b k z => (z.ld : Sld 239 b k))).tr (n3.mono fun b k z => (.inl z.1 : Sld 239 b k))
        have hh := n3.sh (n2.sh J1.2.1)
        have S3 := S2.mo n3 (fun k _ _ => by omega) (fun k => by omega)
        cases hg : g_num B E 0 99999 (k_tok B E q).2.2 with
        | inl e =>
          rw [hg] at S3
          exact bad 76 _ e mm (y_rab76 (by omega) hh S3)
        | inr p =>
          have hv : r_val B E 0 99999 (.inr (k_tok B E q).2.2) = p.1 := by
            show (match g_num B E 0 99999 (k_tok B E q).2.2 with | .inl _ => 0 | .inr p => p.1) = p.1
            rw [hg]
          rw [hg] at S3
          have M2 := J1.2.2.2.1.s26 n2
          refine q76 _ _ _ ⟨mm, hh, S3, ⟨n3.rw w2, by decide, .inr rfl, M2.2.2.2.head2 J1.2.2.2.2.1 (.inr rfl) (fun k hk => a_I_off (.inr hk)) (by rw [hv]; exact a_I_at)⟩, z_tol_vd J1.2.2.2.2.1 (g_num_in hg).2, fun k h1 h2 => ?_⟩
          rw [a_I_off (.inr (by omega)), n2.I (by unfold S26; omega)]
          exact J1.2.2.2.2.2 k h1 h2
    have q30 : ∀ t X q, RD s B E t X q → RE s B E (b_R (a_call a_tab P (d - 1)) kX8_readAll [] (30, [some (.ref 237)], [], t)) (match ((match g_opt B E 4 1 6 (fun n => z_cnt X 4 n) X q with | .inl e => .inl e | .inr r2 => g_opt B E 5 0 99999 (fun n => z_cnt r2.1 5 n) r2.1 r2.2) : (Nat × Nat) ⊕ (Pal × Nat)) with | .inl e => .inl e | .inr r => if k_sg B (k_tok B E r.2) 59 then g_cl B E 901 r.1 (k_tok B E r.2).2.2 else .inl (1, (k_tok B E r.2).2.1)) := fun t X q J => by
      obtain ⟨t1, c1, n1, S1⟩ := y_accept (P := P) (d := d - 1) H (by omega) J.2.1 J.2.2.1 (s := 4) (by decide) (by decide)
      have J1 := J.s26 n1 S1
      rw [b_X8_readAll_30 J.2.1, c1, g_v, b_X8_readAll_37 J1.2.1 J1.2.2.2.1.1, show (r_q (.inr q) fun q => k_is B (k_tok B E q) (q_txt 4)) = k_is B (k_tok B E q) (q_txt 4) from rfl]
      have eo : g_opt B E 4 1 6 (fun n => z_cnt X 4 n) X q = if k_is B (k_tok B E q) (q_txt 4) then (match g_num B E 1 6 (k_tok B E q).2.2 with | .inl e => .inl e | .inr r => .inr (z_cnt X 4 r.1, r.2)) else .inr (X, q) := rfl
      rw [eo]
      cases hk5 : k_is B (k_tok B E q) (q_txt 4) with
      | false =>
        rw [hk5] at J1
        rw [if_pos (show b_n false = 0 by decide), if_neg Bool.false_ne_true]
        exact q53 t1 X q J1
      | true =>
        rw [hk5, if_pos rfl] at J1
        obtain ⟨t2, c2, n2, S2⟩ := y_set1 (P := P) (d := d) H (by omega) J1 (lo := 1) (hi := 6) (by decide) (by decide)
        have n3 : Mo (fun b k => b = 239 ∧ k = 3) t2 (a_setI t2 239 3 (nI (r_val B E 1 6 (.inr (k_tok B E q).2.2)))) := Mo.set ⟨rfl, rfl⟩
        have w2 := n2.rw J1.2.2.2.1.1
        rw [if_neg (show ¬ b_n true = 0 by decide), if_pos rfl, c2, g_v, b_X8_readAll_52 w2, b_gd_t (nIi (by decide) (by decide)), nIc (by decide)]
        have mm := (J1.1.tr (n2.mono fun b k z => (z.ld : Sld 239 b k))).tr (n3.mono fun b k z => (.inl z.1 : Sld 239 b k))
        have hh := n3.sh (n2.sh J1.2.1)
        have S3 := S2.mo n3 (fun k _ _ => by omega) (fun k => by omega)
        cases hg : g_num B E 1 6 (k_tok B E q).2.2 with
        | inl e =>
          rw [hg] at S3
          exact bad 53 _ e mm (y_rab53 H (by omega) hh (n3.rw w2) S3)
        | inr p =>
          have hv : r_val B E 1 6 (.inr (k_tok B E q).2.2) = p.1 := by
            show (match g_num B E 1 6 (k_tok B E q).2.2 with | .inl _ => 1 | .inr p => p.1) = p.1
            rw [hg]
          rw [hg] at S3
          have M2 := J1.2.2.2.1.s26 n2
          refine q53 _ (z_cnt X 4 p.1) p.2 ⟨mm, hh, S3, ⟨n3.rw w2, by decide, .inr rfl, M2.2.2.2.head2 J1.2.2.2.2.1 (.inl rfl) (fun k hk => a_I_off (.inr hk)) (by rw [hv]; exact a_I_at)⟩, z_most_vd J1.2.2.2.2.1 (g_num_in hg).1 (g_num_in hg).2, fun k h1 h2 => ?_⟩
          rw [a_I_off (.inr (by omega)), n2.I (by unfold S26; omega)]
          exact J1.2.2.2.2.2 k h1 h2
    have eg : g_sets z_p0 B E (k_tok B E 0).2.2 = match g_opt B E 3 1 6 (fun n => z_brs z_p0 n) z_p0 (k_tok B E 0).2.2 with
      | .inl e => .inl e
      | .inr r1 => match g_opt B E 4 1 6 (fun n => z_cnt r1.1 4 n) r1.1 r1.2 with
        | .inl e => .inl e
        | .inr r2 => g_opt B E 5 0 99999 (fun n => z_cnt r2.1 5 n) r2.1 r2.2 := rfl
    rw [eg]
    generalize (k_tok B E 0).2.2 = q at I1
    obtain ⟨t1, c1, n1, S1⟩ := y_accept (P := P) (d := d - 1) H (by omega) I1.2.1 I1.2.2.1 (s := 3) (by decide) (by decide)
    have J1 := I1.s26 n1 S1
    rw [b_X8_readAll_7 I1.2.1, c1, g_v, b_X8_readAll_14 J1.2.1 J1.2.2.2.1.1, show (r_q (.inr q) fun q => k_is B (k_tok B E q) (q_txt 3)) = k_is B (k_tok B E q) (q_txt 3) from rfl]
    have eo : g_opt B E 3 1 6 (fun n => z_brs z_p0 n) z_p0 q = if k_is B (k_tok B E q) (q_txt 3) then (match g_num B E 1 6 (k_tok B E q).2.2 with | .inl e => .inl e | .inr r => .inr (z_brs z_p0 r.1, r.2)) else .inr (z_p0, q) := rfl
    rw [eo]
    cases hk5 : k_is B (k_tok B E q) (q_txt 3) with
    | false =>
      rw [hk5] at J1
      rw [if_pos (show b_n false = 0 by decide), if_neg Bool.false_ne_true]
      exact q30 t1 z_p0 q J1
    | true =>
      rw [hk5, if_pos rfl] at J1
      obtain ⟨t2, c2, n2, S2⟩ := y_set1 (P := P) (d := d) H (by omega) J1 (lo := 1) (hi := 6) (by decide) (by decide)
      have n3 : Mo (fun b k => b = 239 ∧ k = 2) t2 (a_setI t2 239 2 (nI (r_val B E 1 6 (.inr (k_tok B E q).2.2)))) := Mo.set ⟨rfl, rfl⟩
      have w2 := n2.rw J1.2.2.2.1.1
      rw [if_neg (show ¬ b_n true = 0 by decide), if_pos rfl, c2, g_v, b_X8_readAll_29 w2, b_gd_t (nIi (by decide) (by decide)), nIc (by decide)]
      have mm := (J1.1.tr (n2.mono fun b k z => (z.ld : Sld 239 b k))).tr (n3.mono fun b k z => (.inl z.1 : Sld 239 b k))
      have hh := n3.sh (n2.sh J1.2.1)
      have S3 := S2.mo n3 (fun k _ _ => by omega) (fun k => by omega)
      cases hg : g_num B E 1 6 (k_tok B E q).2.2 with
      | inl e =>
        rw [hg] at S3
        exact bad 30 _ e mm (y_rab30 H (by omega) hh (n3.rw w2) S3)
      | inr p =>
        have hv : r_val B E 1 6 (.inr (k_tok B E q).2.2) = p.1 := by
          show (match g_num B E 1 6 (k_tok B E q).2.2 with | .inl _ => 1 | .inr p => p.1) = p.1
          rw [hg]
        rw [hg] at S3
        have M2 := J1.2.2.2.1.s26 n2
        have z2 : ∀ k, 648 ≤ k → k < 672 → a_I t2 239 k = nI 0 := fun k h1 h2 => (n2.I (by unfold S26; omega)).trans (J1.2.2.2.2.2 k h1 h2)
        refine q30 _ (z_brs z_p0 p.1) p.2 ⟨mm, hh, S3, ⟨n3.rw w2, by decide, .inr rfl, M2.2.2.2.brs J1.2.2.2.2.1 (g_num_in hg).2 (fun k hk => a_I_off (.inr hk)) (by rw [hv]; exact a_I_at) z2⟩, z_brs_vd J1.2.2.2.2.1 (g_num_in hg).1 (g_num_in hg).2, fun k h1 h2 => ?_⟩
        rw [a_I_off (.inr (by omega))]
        exact z2 k h1 h2
end MOW2
