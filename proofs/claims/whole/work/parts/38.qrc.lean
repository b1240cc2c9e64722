/-! QueryReader: the figures, and the answer -/
def Sg (b k : Nat) : Prop := (b = 226 ∧ k = 1) ∨ b = 228 ∨ (b = 227 ∧ k = 2)
theorem g_find_congr {f g : Nat → Bool} : ∀ {k i : Nat}, (∀ r, i ≤ r → r < i + k → f r = g r) → g_find f k i = g_find g k i
  | 0, i, _ => rfl
  | k + 1, i, h => by
    unfold g_find
    rw [h i (Nat.le_refl _) (by omega), g_find_congr (k := k) (i := i + 1) fun r h1 h2 => h r (by omega) (by omega)]
section QRC
variable {P : aCall} {d : Nat} {σ : aSt} {X : Pal} {p : Nat} {B : Nat → Nat} {E q : Nat}
theorem s_smallestOf (hd : 1 ≤ d) {n : Nat} (hn : n ≤ 20) {f : Nat → Bool} : a_call a_tab P d 83 [.ref 226, .int (nI (h_set n f))] σ = some (.inl (some (.int (g_res (g_find f n 0)))), σ) := by
  have hl := h_set_lt (p := f) hn
  rw [n_X2_smallestOf (by omega), b_X2_smallestOf_0]
  have loop : ∀ k i, i + k = 20 → b_R (a_call a_tab P (d - 1)) kX2_smallestOf [] (2, [some (.ref 226), some (.int (nI (h_set n f))), some (.int (nI i))], [], σ) = some (.inl (some (.int (g_res (g_find (fun i => decide (i < n) && f i) k i)))), σ) := by
    intro k
    induction k with
    | zero =>
      intro i hi
      rw [b_X2_smallestOf_2, if_neg (nIn (by omega) (by omega))]
      rfl
    | succ k ih =>
      intro i hi
      have hs : ∀ m, m < 20 → ((nI m &&& 31).toBitVec.smod 32).toNat = m := by decide +kernel
      have hq : h_set n f / 2 ^ i ≤ h_set n f := Nat.div_le_self _ _
      rw [b_X2_smallestOf_2, if_pos (nIl (by omega) (by decide)), pk_shrN (by omega) _ i (hs i (by omega)), pk_andN (by omega) (m := nI 1) 1 (by decide), ← Nat.shiftRight_eq_div_pow, show (2 ^ 1 : Nat) = 2 from rfl, h_bit, h_set_bit]
      unfold g_find
      cases hb : (decide (i < n) && f i) with
      | true =>
        rw [if_neg (by decide), if_pos rfl]
        rfl
      | false =>
        rw [if_pos (by decide), if_neg Bool.false_ne_true, nI_add]
        exact ih (i + 1) (by omega)
  rw [show (nI 0 : Int32) = nI 0 from rfl, loop 20 0 rfl, h_first]
  by_cases h0 : 0 < n
  · rw [if_pos h0, Nat.sub_zero, Nat.min_eq_right hn]
  · rw [if_neg h0, show n = 0 by omega]
    rfl
theorem s_smallestT (hd : 1 ≤ d) (x : Int32) : ∃ v, a_call a_tab P d 83 [.ref 226, .int x] σ = some (.inl (some (.int v)), σ) := by
  rw [n_X2_smallestOf (by omega), b_X2_smallestOf_0]
  have loop : ∀ k i, i + k = 20 → ∃ v, b_R (a_call a_tab P (d - 1)) kX2_smallestOf [] (2, [some (.ref 226), some (.int x), some (.int (nI i))], [], σ) = some (.inl (some (.int v)), σ) := by
    intro k
    induction k with
    | zero =>
      intro i hi
      rw [b_X2_smallestOf_2, if_neg (nIn (by omega) (by omega))]
      exact ⟨_, rfl⟩
    | succ k ih =>
      intro i hi
      rw [b_X2_smallestOf_2, if_pos (nIl (by omega) (by decide)), nI_add]
      split
      · exact ih (i + 1) (by omega)
      · exact ⟨_, rfl⟩
  exact loop 20 0 rfl
theorem s_prepare (H : Pm P) (hd : 4 ≤ d) (h : Sh σ) (hp : p + 8 < 226) (C : CP σ p X) (V : Vd X) (hw : a_I σ 227 1 = nI 8) : ∃ σ', a_call a_tab P d 81 [.ref 226, .ref p] σ = some (.inl none, σ') ∧ Mo Sg σ σ' ∧ QS σ' X := by
  have h20 := V.1.2
  have m1 : Mo Sg σ (a_setI σ 227 2 (nI 0)) := Mo.set (.inr (.inr ⟨rfl, rfl⟩))
  have m2 := m1.then_set (a := 226) (k := 1) (v := nI 0) (.inl ⟨rfl, rfl⟩)
  rw [n_X2_prepare (by omega), b_X2_prepare_0 h, s_removeAll (by omega) (tb_227 h), g_n, b_X2_prepare_7 (m1.sh h)]
  obtain ⟨⟨s, o⟩, ⟨m, T, e1⟩, ez⟩ := up_st0 (run := fun i (so : aSt × Option Value) => b_R (a_call a_tab P (d - 1)) kX2_prepare [] (14, [some (.ref 226), some (.ref p), some (.int (nI i)), so.2], [], so.1)) (n := X.1 1) (s := (a_setI (a_setI σ 227 2 (nI 0)) 226 1 (nI 0), none))
    (fun i so => Mo Sg σ so.1 ∧ Tv so.1 227 228 8 160 i (fun m j => nI (h_pr X m j)) ∧ a_I so.1 226 1 = nI (h_set i fun _ => true))
    ⟨m2, (Tv.empty (f := fun m j => nI (h_pr X m j)) (tb_227 h) hw (by decide) (by decide)).mo (Mo.set (S := fun b k => b = 226) (a := 226) (k := 1) (v := nI 0) rfl) (by decide) (by decide) (fun k _ => by decide), a_I_at⟩
    (fun i so hi ⟨m, T, e1⟩ => by
      obtain ⟨s, o⟩ := so
      have cp : ∀ s', Mo Sg σ s' → CP s' p X := fun s' z => C.mo z fun b k z1 z2 z3 => by unfold Sg at z3; omega
      have M := V.m hi
      (try dsimp only)
      have hs := m.sh h
      rw [b_X2_prepare_14 hs (cp s m).1, (cp s m).2.2.1.2.2.1, if_pos (nIl hi (by omega)), show a_I s 226 1 = nI (h_set i fun _ => true) from e1, h_set_1 (by omega) rfl]
      have m3 := m.then_set (a := 226) (k := 1) (v := nI (h_set (i + 1) fun _ => true)) (.inl ⟨rfl, rfl⟩)
      have T3 : Tv (a_setI s 226 1 (nI (h_set (i + 1) fun _ => true))) 227 228 8 160 i (fun m j => nI (h_pr X m j)) := T.mo (Mo.set (S := fun b k => b = 226) rfl) (by decide) (by decide) (fun k _ => by decide)
      obtain ⟨s4, e4, m4, T4⟩ := s_addRow (P := P) (d := d - 1) (by omega) T3 (by omega)
      have n4 := m3.tr (m4.mono (S' := Sg) fun b k z => by unfold Sg; omega)
      have x4 : a_I s4 226 1 = nI (h_set (i + 1) fun _ => true) := by rw [m4.I (by omega)]; exact a_I_at
      -- one figure
      have setc : ∀ (s : aSt) (f : Nat → Nat → Int32) (c v : Nat), c < 8 → Mo Sg σ s → a_I s 226 1 = nI (h_set (i + 1) fun _ => true) → Tv s 227 228 8 160 (i + 1) f → ∃ s', a_call a_tab P (d - 1) 2 [.ref 227, .int (nI i), .int (nI c), .int (nI v)] s = some (.inl none, s') ∧ Mo Sg σ s' ∧ a_I s' 226 1 = nI (h_set (i + 1) fun _ => true) ∧ Tv s' 227 228 8 160 (i + 1) (fun r k => if r = i ∧ k = c then nI v else f r k) := by
        intro s f c v hc m x T
        obtain ⟨e7, T7⟩ := s_set (P := P) (d := d - 1) (v := nI v) (by omega) T (r := i) (k := c) (Nat.lt_succ_self _) hc
        exact ⟨_, e7, m.then_set (.inr (.inl rfl)), by rw [a_I_off (.inl (by decide))]; exact x, T7⟩
      obtain ⟨s5, e5, n5, x5, T5⟩ := setc s4 _ 0 i (by decide) n4 x4 T4
      obtain ⟨s6, e6, n6, x6, T6⟩ := setc s5 _ 1 (X.2 1 i 8) (by decide) n5 x5 T5
      obtain ⟨s7, e7, n7, x7, T7⟩ := setc s6 _ 2 (z_all (X.2 1 i)) (by decide) n6 x6 T6
      obtain ⟨s8, e8, n8, x8, T8⟩ := setc s7 _ 3 (z_val X (X.2 1 i) 0) (by decide) n7 x7 T7
      obtain ⟨s9, e9, n9, x9, T9⟩ := setc s8 _ 4 (z_val X (X.2 1 i) 1) (by decide) n8 x8 T8
      obtain ⟨s10, e10, n10, x10, T10⟩ := setc s9 _ 5 (z_val X (X.2 1 i) 2) (by decide) n9 x9 T9
      obtain ⟨s11, e11, n11, x11, T11⟩ := setc s10 _ 6 (z_1 (z_bro X (X.2 1 i))) (by decide) n10 x10 T10
      obtain ⟨s12, e12, n12, x12, T12⟩ := setc s11 _ 7 (z_str X (X.2 1 i)) (by decide) n11 x11 T11
      refine ⟨(s12, some (.int (nI 3))), ⟨n12, T12.congr fun r hr k hk => ?_, x12⟩, ?_⟩
      · (try dsimp only)
        by_cases hr0 : r = i
        · subst hr0
          obtain rfl | rfl | rfl | rfl | rfl | rfl | rfl | rfl : k = 0 ∨ k = 1 ∨ k = 2 ∨ k = 3 ∨ k = 4 ∨ k = 5 ∨ k = 6 ∨ k = 7 := by omega
          all_goals simp [h_pr]
        · simp only [hr0, false_and, if_false]
      · (try dsimp only)
        rw [e4, g_v, b_X2_prepare_44 (n4.sh h), e5, g_n, b_X2_prepare_55 (n5.sh h) (cp _ n5).1, s_get (by omega) (cp _ n5).2.2.1 hi (by decide), g_v, b_X2_prepare_71 (n5.sh h), tv, e6, g_n, b_X2_prepare_74 (n6.sh h) (cp _ n6).1, s_partsOf (by omega) (cp _ n6) V hi, g_v, b_X2_prepare_85 (n6.sh h), e7, g_n, b_X2_prepare_88,
          b_X2_prepare_90 (n7.sh h) (cp _ n7).1, if_pos (nIl (by decide) (by decide)), s_valueOf (by omega) (cp _ n7) V (h := X.2 1) (cp _ n7).2.2.1 hi M (by decide), g_v, b_X2_prepare_113 (n7.sh h), nI_add, e8, g_n, b_X2_prepare_116, nI_add,
          b_X2_prepare_90 (n8.sh h) (cp _ n8).1, if_pos (nIl (by decide) (by decide)), s_valueOf (by omega) (cp _ n8) V (h := X.2 1) (cp _ n8).2.2.1 hi M (by decide), g_v, b_X2_prepare_113 (n8.sh h), nI_add, e9, g_n, b_X2_prepare_116, nI_add,
          b_X2_prepare_90 (n9.sh h) (cp _ n9).1, if_pos (nIl (by decide) (by decide)), s_valueOf (by omega) (cp _ n9) V (h := X.2 1) (cp _ n9).2.2.1 hi M (by decide), g_v, b_X2_prepare_113 (n9.sh h), nI_add, e10, g_n, b_X2_prepare_116, nI_add,
          b_X2_prepare_90 (n10.sh h) (cp _ n10).1, if_neg (nIn (by decide) (by decide)), s_isBroken (by omega) (cp _ n10) V hi, g_v, b_X2_prepare_134]
        have e11' : (if b_n (z_bro X (X.2 1 i)) = 0 then b_R (a_call a_tab P (d - 1)) kX2_prepare [] (142, [some (.ref 226), some (.ref p), some (.int (nI i)), some (.int (nI (0 + 1 + 1 + 1)))], [.int (nI 0), .int (nI 6), .int (nI i), .ref 227], s10) else b_R (a_call a_tab P (d - 1)) kX2_prepare [] (142, [some (.ref 226), some (.ref p), some (.int (nI i)), some (.int (nI (0 + 1 + 1 + 1)))], [.int (nI 1), .int (nI 6), .int (nI i), .ref 227], s10)) = b_R (a_call a_tab P (d - 1)) kX2_prepare [] (142, [some (.ref 226), some (.ref p), some (.int (nI i)), some (.int (nI 3))], [.int (nI (z_1 (z_bro X (X.2 1 i)))), .int (nI 6), .int (nI i), .ref 227], s10) := by
          cases z_bro X (X.2 1 i) with
          | true => rw [if_neg (by decide)]; rfl
          | false => rw [if_pos (by decide)]; rfl
        rw [e11', b_X2_prepare_142 (n10.sh h), e11, g_n, b_X2_prepare_145 (n11.sh h) (cp _ n11).1, s_strokesLeft H (by omega) (cp _ n11) V hi, g_v, b_X2_prepare_157 (n11.sh h), e12, g_n, b_X2_prepare_160, nI_add])
  refine ⟨s, ez.trans ?_, m, T, e1⟩
  (try dsimp only)
  have C1 : CP s p X := C.mo m fun b k z1 z2 z3 => by unfold Sg at z3; omega
  rw [b_X2_prepare_14 (m.sh h) C1.1, C1.2.2.1.2.2.1, if_neg (nIn (Nat.le_refl _) (by omega))]
/-- the answer of a query, as a number -/
def h_ans (n : Nat) (r : Bool × (Nat → Bool)) : Int32 := if r.1 then nI (q_s (fun m => z_1 (r.2 m)) n) else g_res (g_find r.2 n 0)
theorem s_answerOf (H : Pm P) (hd : 19 ≤ d) (hE : E ≤ 200) (h : Sh σ) (V : Vd X) (Q : QS σ X) (T : TG σ B E 0) (F : EF σ none) :
    match h_qry X B E with
    | .inl e => ∃ σ' v, a_call a_tab P d 82 [.ref 226, .ref 220] σ = some (.inl (some (.int v)), σ') ∧ Mo St σ σ' ∧ EF σ' (some e)
    | .inr r => ∃ σ', a_call a_tab P d 82 [.ref 226, .ref 220] σ = some (.inl (some (.int (h_ans (X.1 1) r))), σ') ∧ Mo St σ σ' ∧ EF σ' none := by
  have h20 := V.1.2
  have hq1 : ∀ b, k_is B (k_tok B E 0) (q_txt 7) = b → (b = true ∨ k_is B (k_tok B E 0) (q_txt 8) = true) → h_qry X B E = (match h_tl B E (h_fac X B E 6) 200 (fun _ => false) (fun _ => true) (k_tok B E 0).2.2 with
    | .inl e => .inl e
    | .inr r => if (k_tok B E r.2).1 = 0 then .inr (b, r.1) else .inl (1, (k_tok B E r.2).2.1)) := by
    intro b hb hor
    unfold h_qry
    rw [hb, if_pos (by rcases hor with e | e <;> rw [e] <;> simp)]
    cases h_tl B E (h_fac X B E 6) 200 (fun _ => false) (fun _ => true) (k_tok B E 0).2.2 <;> rfl
  -- behind the first word
  have go : ∀ (b : Bool) (rr : (Nat × Nat) ⊕ (Bool × (Nat → Bool))) (c : Option (aRes × aSt)), rr = (match h_tl B E (h_fac X B E 6) 200 (fun _ => false) (fun _ => true) (k_tok B E 0).2.2 with
    | .inl e => .inl e
    | .inr r => if (k_tok B E r.2).1 = 0 then .inr (b, r.1) else .inl (1, (k_tok B E r.2).2.1)) → c = b_R (a_call a_tab P (d - 1)) kX2_answerOf [] (28, [some (.ref 226), some (.ref 220), some (.int (b_n b)), none], [], σ) → match rr with
    | .inl e => ∃ σ' v, c = some (.inl (some (.int v)), σ') ∧ Mo St σ σ' ∧ EF σ' (some e)
    | .inr r => ∃ σ', c = some (.inl (some (.int (h_ans (X.1 1) r))), σ') ∧ Mo St σ σ' ∧ EF σ' none := by
    intro b rr c hrr hcc
    subst hrr hcc
    obtain ⟨s1, e1, m1, T1⟩ := s_adv (P := P) (d := d - 1) H (by omega) h T
    have n1 : Mo St σ s1 := m1.mono fun b k z => z.st
    have h1 := m1.sh h
    have Q1 := Q.mo n1 fun b k z => z.lt
    have F1 := F.mo m1 (by unfold S3; omega) (by unfold S3; omega)
    have hc := s_test_of (P := P) (d := d - 1) (k := 6) (σ0 := σ) H (by omega) hE (fun q r hq g => h_fac_mono hq g) (fun s q hs Qs Ts Fs => s_factor H hE V 6 (d - 1 - 1) (by omega) (by decide) s q hs Qs Ts Fs) h1 Q1 T1 F1
    -- whatever is computed behind an error
    have bad : ∀ (s2 : aSt) (v x : Int32) (e : Nat × Nat), Mo St σ s2 → Sh s2 → EF s2 (some e) → ∃ σ' v', b_R (a_call a_tab P (d - 1)) kX2_answerOf [] (43, [some (.ref 226), some (.ref 220), some (.int (b_n b)), some (.int v)], [.int x], s2) = some (.inl (some (.int v')), σ') ∧ Mo St σ σ' ∧ EF σ' (some e) := by
      intro s2 v x e m2 h2 F2
      rw [b_X2_answerOf_43 h2]
      cases b with
      | true =>
        obtain ⟨w, ew⟩ := s_bitsT (P := P) (d := d - 1) (σ := s2) H v
        exact ⟨s2, w, by rw [if_neg (by decide), ew, g_v, b_X2_answerOf_52, b_X2_answerOf_60], m2, F2⟩
      | false =>
        obtain ⟨w, ew⟩ := s_smallestT (P := P) (d := d - 1) (σ := s2) (by omega) v
        exact ⟨s2, w, by rw [if_pos (by decide), ew, g_v, b_X2_answerOf_60], m2, F2⟩
    have e28 : b_R (a_call a_tab P (d - 1)) kX2_answerOf [] (28, [some (.ref 226), some (.ref 220), some (.int (b_n b)), none], [], σ) = b_G (a_call a_tab P (d - 1)) kX2_answerOf [] 35 38 [some (.ref 226), some (.ref 220), some (.int (b_n b)), none] [] (a_call a_tab P (d - 1) 84 [.ref 226, .ref 220, .int (nI 0)] s1) := by
      rw [b_X2_answerOf_28 h, e1, g_n, b_X2_answerOf_32 h1]
    rw [e28]
    cases hg : h_tl B E (h_fac X B E 6) 200 (fun _ => false) (fun _ => true) (k_tok B E 0).2.2 with
    | inl e =>
      rw [hg] at hc
      obtain ⟨s2, v, q2, e2, m2, T2, F2⟩ := hc
      have h2 := m2.sh h1
      have e2 : a_call a_tab P (d - 1) 84 [.ref 226, .ref 220, .int (nI 0)] s1 = _ := e2
      (try dsimp only)
      rw [e2, g_v, b_X2_answerOf_38 h2]
      rcases s_takeEnd (P := P) (d := d - 1) (by omega) h2 T2 F2 with ⟨-, e3⟩ | ⟨-, s3, e3, m3, T3, F3⟩
      · rw [e3, g_v]
        exact bad s2 _ _ e (n1.tr m2) h2 F2
      · rw [e3, g_v]
        exact bad s3 _ _ e ((n1.tr m2).tr (m3.mono fun b k z => z.st)) (m3.sh h2) F3
    | inr r =>
      rw [hg] at hc
      obtain ⟨s2, e2, m2, T2, F2⟩ := hc
      have h2 := m2.sh h1
      have e2 : a_call a_tab P (d - 1) 84 [.ref 226, .ref 220, .int (nI 0)] s1 = _ := e2
      (try dsimp only)
      rw [e2, g_v, b_X2_answerOf_38 h2]
      rcases s_takeEnd (P := P) (d := d - 1) (by omega) h2 T2 F2 with ⟨c0, e3⟩ | ⟨c0, s3, e3, m3, T3, F3⟩
      · rw [e3, g_v, if_pos c0]
        refine ⟨s2, ?_, n1.tr m2, F2⟩
        rw [b_X2_answerOf_43 h2]
        cases b with
        | true =>
          rw [if_neg (by decide), s_bits H (h_set_lt h20), g_v, b_X2_answerOf_52, b_X2_answerOf_60, h_count h20]
          rfl
        | false =>
          rw [if_pos (by decide), s_smallestOf (by omega) h20, g_v, b_X2_answerOf_60]
          rfl
      · rw [e3, g_v, if_neg c0]
        exact bad s3 _ _ _ ((n1.tr m2).tr (m3.mono fun b k z => z.st)) (m3.sh h2) F3
  cases c7 : k_is B (k_tok B E 0) (q_txt 7) with
  | true =>
    refine go true _ _ (hq1 true c7 (.inl rfl)) ?_
    rw [n_X2_answerOf (by omega), b_X2_answerOf_0 h, s_isW H (by omega) h T (by decide) (by decide), g_v, b_X2_answerOf_6 h, c7, if_neg (by decide)]
  | false =>
    cases c8 : k_is B (k_tok B E 0) (q_txt 8) with
    | true =>
      refine go false _ _ (hq1 false c7 (.inr c8)) ?_
      rw [n_X2_answerOf (by omega), b_X2_answerOf_0 h, s_isW H (by omega) h T (by decide) (by decide), g_v, b_X2_answerOf_6 h, c7, if_pos (by decide), s_isW H (by omega) h T (by decide) (by decide), g_v, b_X2_answerOf_17 h, c8, if_neg (by decide)]
    | false =>
      obtain ⟨s1, e1, m1, T1, F1⟩ := s_fail (P := P) (d := d - 1) (by omega) h T F (c := 1) (by decide) (by decide)
      have hq : h_qry X B E = .inl (1, (k_tok B E 0).2.1) := by
        unfold h_qry
        rw [c7, c8]
        rfl
      rw [hq]
      refine ⟨s1, -1, ?_, m1.mono fun b k z => z.st, F1⟩
      rw [n_X2_answerOf (by omega), b_X2_answerOf_0 h, s_isW H (by omega) h T (by decide) (by decide), g_v, b_X2_answerOf_6 h, c7, if_pos (by decide), s_isW H (by omega) h T (by decide) (by decide), g_v, b_X2_answerOf_17 h, c8, if_pos (by decide), e1, g_v, b_X2_answerOf_25]
end QRC
