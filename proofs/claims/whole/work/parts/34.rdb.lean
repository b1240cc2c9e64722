/-! TextReader: names and definitions -/
/-- a NEW: what is wrong with it as a name -/
def g_nm (B : Nat → Nat) (t : Nat × Nat × Nat) : Option (Nat × Nat) := if t.1 = 1 then (if 8 < t.2.2 - t.2.1 then some (2, t.2.1) else none) else some (1, t.2.1)
def g_ft (X : Pal) (w : Nat → Nat) : Option Nat := g_find (fun r => g_eq8 (X.2 0 r) w) (X.1 0) 0
def g_fm (X : Pal) (w : Nat → Nat) : Option Nat := g_find (fun r => g_eq8 (X.2 1 r) w) (X.1 1) 0
/-- a NEW that must be free -/
def g_new (X : Pal) (B : Nat → Nat) (E q : Nat) : Option (Nat × Nat) := match g_nm B (k_tok B E q) with
  | some e => some e
  | none => if (g_ft X (k_n8 B (k_tok B E q))).isSome || (g_fm X (k_n8 B (k_tok B E q))).isSome then some (3, (k_tok B E q).2.1) else none
theorem g_ft_lt {X : Pal} {w : Nat → Nat} {r : Nat} (h : g_ft X w = some r) : r < X.1 0 := by have := g_find_lt h; omega
theorem g_fm_lt {X : Pal} {w : Nat → Nat} {r : Nat} (h : g_fm X w = some r) : r < X.1 1 := by have := g_find_lt h; omega
/-- the definition of a mix -/
def g_def (X : Pal) (B : Nat → Nat) (E : Nat) : (Nat × Nat) ⊕ (Option Nat × Cnd) := match g_nm B (k_tok B E 0) with
  | some e => .inl e
  | none =>
    if (g_ft X (k_n8 B (k_tok B E 0))).isSome || (g_fm X (k_n8 B (k_tok B E 0))).isNone && decide (20 ≤ X.1 1) then .inl (3, (k_tok B E 0).2.1)
    else if k_sg B (k_tok B E (k_tok B E 0).2.2) 61 then
      (match g_parts X B E 5 [] (k_tok B E (k_tok B E 0).2.2).2.2 with
      | .inl e => .inl e
      | .inr r => if (k_tok B E r.2).1 = 0 then .inr (g_fm X (k_n8 B (k_tok B E 0)), r.1) else .inl (1, (k_tok B E r.2).2.1))
    else .inl (1, (k_tok B E (k_tok B E 0).2.2).2.1)
def g_bare (X : Pal) (B : Nat → Nat) (E : Nat) : (Nat × Nat) ⊕ Cnd := match g_parts X B E 5 [] 0 with
  | .inl e => .inl e
  | .inr r => if (k_tok B E r.2).1 = 0 then .inr r.1 else .inl (1, (k_tok B E r.2).2.1)
section RDB
variable {P : aCall} {d : Nat} {σ : aSt} {X : Pal} {p : Nat} {B : Nat → Nat} {E q : Nat}
theorem s_checkName (hd : 2 ≤ d) (h : Sh σ) (T : TG σ B E q) (F : EF σ none) :
    (g_nm B (k_tok B E q) = none ∧ (k_tok B E q).1 = 1 ∧ (k_tok B E q).2.2 - (k_tok B E q).2.1 ≤ 8 ∧ a_call a_tab P d 72 [.ref 223, .ref 220] σ = some (.inl (some (.int (nI 1))), σ)) ∨
    (∃ e, g_nm B (k_tok B E q) = some e ∧ ∃ σ', a_call a_tab P d 72 [.ref 223, .ref 220] σ = some (.inl (some (.int (nI 0))), σ') ∧ Mo S9 σ σ' ∧ EF σ' (some e)) := by
  have e0 : a_call a_tab P d 72 [.ref 223, .ref 220] σ = b_R (a_call a_tab P (d - 1)) kX5_checkName [] (4, [some (.ref 223), some (.ref 220)], [.int (b_n ((k_tok B E q).1 == 1))], σ) := by
    rw [n_X5_checkName (by omega), b_X5_checkName_0 h, s_isWord (by omega) h T, g_v]
  rw [e0, b_X5_checkName_4 h]
  by_cases c1 : (k_tok B E q).1 = 1
  · have eb : b_n ((k_tok B E q).1 == 1) = b_n true := by rw [c1]; rfl
    rw [eb]
    by_cases c8 : 8 < (k_tok B E q).2.2 - (k_tok B E q).2.1
    · obtain ⟨σ', e1, m, T', F'⟩ := s_fail (P := P) (d := d - 1) (by omega) h T F (c := 2) (by decide) (by decide)
      refine .inr ⟨_, by unfold g_nm; rw [if_pos c1, if_pos c8], σ', ?_, m, F'⟩
      rw [if_neg (by decide), s_isTooLong (by omega) h T, g_v, b_X5_checkName_17 h, decide_eq_true c8, if_neg (by decide), e1, g_v, b_X5_checkName_25, if_pos (by decide), b_X5_checkName_33]
      exact b_gd_t (by decide)
    · refine .inl ⟨by unfold g_nm; rw [if_pos c1, if_neg c8], c1, by omega, ?_⟩
      rw [if_neg (by decide), s_isTooLong (by omega) h T, g_v, b_X5_checkName_17 h, decide_eq_false c8, if_pos (by decide), b_X5_checkName_28, b_X5_checkName_33]
      exact b_gd_t (by decide)
  · obtain ⟨σ', e1, m, T', F'⟩ := s_fail (P := P) (d := d - 1) (by omega) h T F (c := 1) (by decide) (by decide)
    refine .inr ⟨_, by unfold g_nm; rw [if_neg c1], σ', ?_, m, F'⟩
    rw [beq_false_of_ne c1, if_pos (by decide), e1, g_v, b_X5_checkName_12]
    exact b_gd_t (by decide)
theorem s_checkFreeName (hd : 4 ≤ d) (h : Sh σ) (hp : p + 8 < 220) (C : CP σ p X) (V : Vd X) (T : TG σ B E q) (F : EF σ none) :
    (g_new X B E q = none ∧ (k_tok B E q).1 = 1 ∧ (k_tok B E q).2.2 - (k_tok B E q).2.1 ≤ 8 ∧ ∃ σ', a_call a_tab P d 73 [.ref 223, .ref 220, .ref p] σ = some (.inl (some (.int (nI 1))), σ') ∧ Mo Sr σ σ' ∧ TG σ' B E q ∧ EF σ' none) ∨
    (∃ e, g_new X B E q = some e ∧ ∃ σ', a_call a_tab P d 73 [.ref 223, .ref 220, .ref p] σ = some (.inl (some (.int (nI 0))), σ') ∧ Mo Sr σ σ' ∧ EF σ' (some e)) := by
  have h20 := V.1
  rcases s_checkName (P := P) (d := d - 1) (by omega) h T F with ⟨g1, k1, k8, e1⟩ | ⟨e, g1, σ', e1, m, F'⟩
  rotate_left
  · refine .inr ⟨e, by unfold g_new; rw [g1], σ', ?_, m.mono fun b k z => Sr.st (by unfold S9 at z; unfold St; omega), F'⟩
    rw [n_X5_checkFreeName (by omega), b_X5_checkFreeName_0 h, e1, g_v, b_X5_checkFreeName_5 (m.sh h), if_pos (by decide)]
  obtain ⟨s2, e2, m2, N2⟩ := s_name (P := P) (d := d - 1) (by omega) h T
  have h2 := m2.sh h
  have n2 : Mo Sr σ s2 := m2.mono fun b k z => .inl z
  have C2 : CP s2 p X := C.mo n2 fun b k z1 z2 z => by have := z.in; omega
  have T2 : TG s2 B E q := T.mo m2 (fun k _ => by omega) (fun k => by omega)
  have F2 : EF s2 none := F.mo m2 (by omega) (by omega)
  have e0 : a_call a_tab P d 73 [.ref 223, .ref 220, .ref p] σ = (if g_res (g_ft X (k_n8 B (k_tok B E q))) = -1 then (if g_res (g_fm X (k_n8 B (k_tok B E q))) = -1 then b_R (a_call a_tab P (d - 1)) kX5_checkFreeName [] (44, [some (.ref 223), some (.ref 220), some (.ref p), some (.ref 222), none], [.int (nI 0)], s2) else b_R (a_call a_tab P (d - 1)) kX5_checkFreeName [] (44, [some (.ref 223), some (.ref 220), some (.ref p), some (.ref 222), none], [.int (nI 1)], s2)) else b_R (a_call a_tab P (d - 1)) kX5_checkFreeName [] (44, [some (.ref 223), some (.ref 220), some (.ref p), some (.ref 222), none], [.int (nI 1)], s2)) := by
    rw [n_X5_checkFreeName (by omega), b_X5_checkFreeName_0 h, e1, g_v, b_X5_checkFreeName_5 h, if_neg (by decide), e2, g_v, b_X5_checkFreeName_14 C2.1, s_rowN (by omega) h2 C2.2.1 (by decide) N2 (fun k _ => k_n8_lt T) (fun r hr => (V.2.2.2.2.2.2.1 r hr).1), g_v, b_X5_checkFreeName_23 C2.1,
      s_rowN (by omega) h2 C2.2.2.1 (by decide) N2 (fun k _ => k_n8_lt T) (fun r hr => (V.2.2.2.2.2.2.2.1 r hr).1), g_v, b_X5_checkFreeName_35, b_X5_checkFreeName_39]
    rfl
  have taken : ∃ σ', b_R (a_call a_tab P (d - 1)) kX5_checkFreeName [] (44, [some (.ref 223), some (.ref 220), some (.ref p), some (.ref 222), none], [.int (nI 1)], s2) = some (.inl (some (.int (nI 0))), σ') ∧ Mo Sr σ σ' ∧ EF σ' (some (3, (k_tok B E q).2.1)) := by
    obtain ⟨σ', e3, m3, T3, F3⟩ := s_fail (P := P) (d := d - 1) (by omega) h2 T2 F2 (c := 3) (by decide) (by decide)
    refine ⟨σ', ?_, n2.tr (m3.mono fun b k z => Sr.st (by unfold S9 at z; unfold St; omega)), F3⟩
    rw [b_X5_checkFreeName_44 h2, if_neg (by decide), e3, g_v, b_X5_checkFreeName_56, if_pos (by decide), b_X5_checkFreeName_64]
    exact b_gd_t (by decide)
  rw [e0]
  cases ht : g_ft X (k_n8 B (k_tok B E q)) with
  | some r =>
    have hr := g_ft_lt ht
    refine .inr ⟨(3, (k_tok B E q).2.1), by unfold g_new; rw [g1, ht]; rfl, ?_⟩
    rw [if_neg (fun z => by cases (g_res_m1 (o := some r) (fun r' e => by cases e; omega)).mp z)]
    exact taken
  | none =>
    rw [if_pos (show g_res none = -1 from rfl)]
    cases hm : g_fm X (k_n8 B (k_tok B E q)) with
    | some r =>
      have hr := g_fm_lt hm
      refine .inr ⟨(3, (k_tok B E q).2.1), by unfold g_new; rw [g1, ht, hm]; rfl, ?_⟩
      rw [if_neg (fun z => by cases (g_res_m1 (o := some r) (fun r' e => by cases e; omega)).mp z)]
      exact taken
    | none =>
      refine .inl ⟨by unfold g_new; rw [g1, ht, hm]; rfl, k1, k8, s2, ?_, n2, T2, F2⟩
      rw [if_pos (show g_res none = -1 from rfl), b_X5_checkFreeName_44 h2, if_pos (by decide), b_X5_checkFreeName_59, b_X5_checkFreeName_64]
      exact b_gd_t (by decide)
/-- the table of the mix that is read keeps its width -/
def Wt (σ : aSt) : Prop := a_I σ 224 1 = nI 17
theorem TD.wt {w : Nat → Nat} {acc : Cnd} (D : TD σ w acc) : Wt σ := D.2.1
theorem s_told0 (hd : 3 ≤ d) (h : Sh σ) (W : Wt σ) : ∃ s1, a_call a_tab P d 4 [.ref 224] σ = some (.inl none, s1) ∧ Mo Sr σ s1 ∧ ∃ s2, a_call a_tab P d 5 [.ref 224] s1 = some (.inl (some (.int (nI 0))), s2) ∧ Mo Sr σ s2 ∧ TD s2 (fun _ => 0) [] := by
  have m1 : Mo Sr σ (a_setI σ 224 2 (nI 0)) := Mo.set (.inr (.inr (.inl ⟨rfl, rfl⟩)))
  obtain ⟨s2, e2, m2, T2⟩ := s_addRow (P := P) (d := d) (by omega) (Tv.empty (f := fun _ _ => nI 0) (tb_224 h) W (by decide) (by decide)) (by decide)
  refine ⟨_, s_removeAll (by omega) (tb_224 h), m1, s2, e2, m1.tr (m2.mono fun b k z => by unfold Sr; omega), T2.congr fun r hr k hk => ?_⟩
  obtain rfl : r = 0 := by omega
  (try dsimp only)
  rw [if_pos rfl]
  unfold m_row
  split
  · rfl
  · split
    · rfl
    · split <;> rfl
theorem s_startMix (H : Pm P) (hd : 4 ≤ d) (h : Sh σ) (W : Wt σ) (T : TG σ B E q) (F : EF σ none) :
    (k_sg B (k_tok B E (k_tok B E q).2.2) 61 = true ∧ ∃ σ', a_call a_tab P d 74 [.ref 223, .ref 220] σ = some (.inl (some (.int (nI 1))), σ') ∧ Mo Sr σ σ' ∧ TG σ' B E (k_tok B E (k_tok B E q).2.2).2.2 ∧ EF σ' none ∧ TD σ' (k_n8 B (k_tok B E q)) []) ∨
    (k_sg B (k_tok B E (k_tok B E q).2.2) 61 = false ∧ ∃ σ', a_call a_tab P d 74 [.ref 223, .ref 220] σ = some (.inl (some (.int (nI 0))), σ') ∧ Mo Sr σ σ' ∧ EF σ' (some (1, (k_tok B E (k_tok B E q).2.2).2.1))) := by
  obtain ⟨s1, e1, m1, s2, e2, m2, D2⟩ := s_told0 (P := P) (d := d - 1) (by omega) h W
  have n2 : Mo (fun b k => b = 225 ∨ (b = 224 ∧ k = 2)) σ s2 := by
    obtain ⟨s2', e2', m2', -⟩ := s_addRow (P := P) (d := d - 1) (by omega) (Tv.empty (f := fun _ _ => nI 0) (tb_224 h) W (by decide) (by decide)) (by decide)
    have es1 : s1 = a_setI σ 224 2 (nI 0) := by
      rw [s_removeAll (by omega) (tb_224 h)] at e1
      cases e1; rfl
    subst es1
    rw [e2'] at e2
    cases e2
    exact (Mo.set (S := fun b k => b = 225 ∨ (b = 224 ∧ k = 2)) (.inr ⟨rfl, rfl⟩)).tr m2'
  have T2 : TG s2 B E q := T.mo n2 (fun k _ => by omega) (fun k => by omega)
  have F2 : EF s2 none := F.mo n2 (by omega) (by omega)
  rw [n_X5_startMix (by omega), b_X5_startMix_0 h, e1, g_n, b_X5_startMix_7 (m1.sh h), e2, g_v, b_X5_startMix_14 (m2.sh h)]
  obtain ⟨s3, e3, m3, N3⟩ := s_name (P := P) (d := d - 1) (by omega) (m2.sh h) T2
  have D3 : TD s3 (fun _ => 0) [] := D2.mo m3 (by omega) (by omega) (fun k _ => by omega)
  have n3 := m2.tr (m3.mono fun b k z => .inl z)
  obtain ⟨s4, e4, m4, T4⟩ := s_setName (P := P) (d := d - 1) (by omega) (n3.sh h) D3 (r := 0) (by decide) (by decide) (by decide)
  have n4 := n3.tr (m4.mono (S' := Sr) fun b k z => .inr (.inl z))
  rw [e3, g_v, b_X5_startMix_24 (n3.sh h), e4, g_n, b_X5_startMix_27 (n4.sh h)]
  have D4 : TD s4 (k_n8 B (k_tok B E q)) [] := T4.congr fun r hr k hk => by
    obtain rfl : r = 0 := by omega
    (try dsimp only)
    unfold m_row
    by_cases k8 : k < 8
    · rw [if_pos ⟨rfl, k8⟩, if_pos k8, N3 k k8]
    · rw [if_neg (fun z => k8 z.2), if_neg k8, if_neg k8]
  have T5 : TG s4 B E q := (T2.mo m3 (fun k _ => by omega) (fun k => by omega)).mo m4 (fun k _ => by omega) (fun k => by omega)
  have F5 : EF s4 none := (F2.mo m3 (by omega) (by omega)).mo m4 (by omega) (by omega)
  obtain ⟨s6, e6, m6, T6⟩ := s_adv (P := P) (d := d - 1) H (by omega) (n4.sh h) T5
  have F6 := F5.mo m6 (by unfold S3; omega) (by unfold S3; omega)
  have n6 := n4.tr (m6.mono (S' := Sr) fun b k z => Sr.st (by unfold S3 at z; unfold St; omega))
  have D6 : TD s6 (k_n8 B (k_tok B E q)) [] := D4.mo m6 (by unfold S3; omega) (by unfold S3; omega) (fun k _ => by unfold S3; omega)
  rw [e6, g_n, b_X5_startMix_31 (n6.sh h)]
  rcases s_takeSign (P := P) (d := d - 1) H (by omega) (n6.sh h) T6 F6 (c := 61) (by decide) with ⟨g7, s7, e7, m7, T7, F7⟩ | ⟨g7, s7, e7, m7, T7, F7⟩
  · refine .inl ⟨g7, s7, ?_, n6.tr (m7.mono fun b k z => Sr.st z), T7, F7, D6.mo m7 (by unfold St; omega) (by unfold St; omega) (fun k _ => by unfold St; omega)⟩
    rw [e7, g_v, b_X5_startMix_37]
    exact b_gd_t (by decide)
  · refine .inr ⟨g7, s7, ?_, n6.tr (m7.mono fun b k z => Sr.st z), F7⟩
    rw [e7, g_v, b_X5_startMix_37]
    exact b_gd_t (by decide)
theorem s_readBareMix (H : Pm P) (hd : 6 ≤ d) (h : Sh σ) (W : Wt σ) (hp : p + 8 < 220) (C : CP σ p X) (V : Vd X) (T : TG σ B E 0) (F : EF σ none) :
    RO (a_call a_tab P d 77 [.ref 223, .ref 220, .ref p] σ) Sr σ (g_bare X B E) (fun r σ' => EF σ' none ∧ TD σ' (fun _ => 0) r ∧ Va (X.1 0) r ∧ 0 < r.length) := by
  obtain ⟨s1, e1, m1, s2, e2, m2, D2⟩ := s_told0 (P := P) (d := d - 1) (by omega) h W
  have n2 : Mo (fun b k => b = 225 ∨ (b = 224 ∧ k = 2)) σ s2 := by
    obtain ⟨s2', e2', m2', -⟩ := s_addRow (P := P) (d := d - 1) (by omega) (Tv.empty (f := fun _ _ => nI 0) (tb_224 h) W (by decide) (by decide)) (by decide)
    have es1 : s1 = a_setI σ 224 2 (nI 0) := by
      rw [s_removeAll (by omega) (tb_224 h)] at e1
      cases e1; rfl
    subst es1
    rw [e2'] at e2
    cases e2
    exact (Mo.set (S := fun b k => b = 225 ∨ (b = 224 ∧ k = 2)) (.inr ⟨rfl, rfl⟩)).tr m2'
  have T2 : TG s2 B E 0 := T.mo n2 (fun k _ => by omega) (fun k => by omega)
  have F2 : EF s2 none := F.mo n2 (by omega) (by omega)
  have C2 : CP s2 p X := C.mo m2 fun b k z1 z2 z => by have := z.in; omega
  rw [n_X5_readBareMix (by omega), b_X5_readBareMix_0 h, e1, g_n, b_X5_readBareMix_7 (m1.sh h), e2, g_v, b_X5_readBareMix_14 (m2.sh h)]
  have hr := s_readParts (P := P) (d := d - 1) H (by omega) (m2.sh h) hp C2 V T2 F2 D2
  unfold g_bare
  cases hg : g_parts X B E 5 [] 0 with
  | inl e =>
    rw [hg] at hr
    obtain ⟨s3, e3, m3, F3⟩ := hr
    refine ⟨s3, ?_, m2.tr m3, F3⟩
    rw [e3, g_v, b_X5_readBareMix_21 ((m2.tr m3).sh h), if_pos (by decide), b_X5_readBareMix_35, b_X5_readBareMix_36]
    exact b_gd_t (by decide)
  | inr r =>
    rw [hg] at hr
    obtain ⟨s3, e3, m3, T3, F3, D3, A3, L3⟩ := hr
    have h3 := (m2.tr m3).sh h
    show RO _ _ _ (if (k_tok B E r.2).1 = 0 then _ else _) _
    rw [e3, g_v, b_X5_readBareMix_21 h3, if_neg (by decide)]
    rcases s_takeEnd (P := P) (d := d - 1) (by omega) h3 T3 F3 with ⟨c, e4⟩ | ⟨c, s4, e4, m4, T4, F4⟩
    · rw [if_pos c]
      refine ⟨s3, ?_, m2.tr m3, F3, D3, A3, L3⟩
      rw [e4, g_v, b_X5_readBareMix_28, if_neg (by decide), b_X5_readBareMix_36]
      exact b_gd_t (by decide)
    · rw [if_neg c]
      refine ⟨s4, ?_, (m2.tr m3).tr (m4.mono fun b k z => Sr.st (by unfold S9 at z; unfold St; omega)), F4⟩
      rw [e4, g_v, b_X5_readBareMix_28, if_pos (by decide), b_X5_readBareMix_35, b_X5_readBareMix_36]
      exact b_gd_t (by decide)
/-- with the number of the mix that is told -/
def Sn (b k : Nat) : Prop := Sr b k ∨ (b = 223 ∧ k = 1)
theorem s_readDefinition (H : Pm P) (hd : 6 ≤ d) (h : Sh σ) (W : Wt σ) (hp : p + 8 < 220) (C : CP σ p X) (V : Vd X) (T : TG σ B E 0) (F : EF σ none) :
    RO (a_call a_tab P d 78 [.ref 223, .ref 220, .ref p] σ) Sn σ (g_def X B E) (fun r σ' => EF σ' none ∧ TD σ' (k_n8 B (k_tok B E 0)) r.2 ∧ Va (X.1 0) r.2 ∧ 0 < r.2.length ∧ a_I σ' 223 1 = g_res r.1 ∧ Vn (k_n8 B (k_tok B E 0))) := by
  have h20 := V.1
  rw [n_X5_readDefinition (by omega), b_X5_readDefinition_0 h]
  unfold g_def
  rcases s_checkName (P := P) (d := d - 1) (by omega) h T F with ⟨g1, k1, k8, e1⟩ | ⟨e, g1, σ', e1, m, F'⟩
  rotate_left
  · rw [g1]
    refine ⟨σ', ?_, m.mono fun b k z => .inl (Sr.st (by unfold S9 at z; unfold St; omega)), F'⟩
    rw [e1, g_v, b_X5_readDefinition_5 (m.sh h), if_pos (by decide)]
  have hVn := k_n8_vn (B := B) (E := E) (q := 0) k1 k8
  rw [g1, e1, g_v, b_X5_readDefinition_5 h, if_neg (by decide)]
  obtain ⟨s2, e2, m2, N2⟩ := s_name (P := P) (d := d - 1) (by omega) h T
  have h2 := m2.sh h
  have n2 : Mo Sn σ s2 := m2.mono fun b k z => .inl (.inl z)
  have C2 : CP s2 p X := C.mo n2 fun b k z1 z2 z => by unfold Sn Sr St at z; omega
  rw [e2, g_v, b_X5_readDefinition_14 C2.1, s_rowN (by omega) h2 C2.2.2.1 (by decide) N2 (fun k _ => k_n8_lt T) (fun r hr => (V.2.2.2.2.2.2.2.1 r hr).1), g_v, b_X5_readDefinition_24 h2 C2.1]
  show RO (b_G _ _ _ _ _ _ _ (a_call a_tab P (d - 1) 11 [.ref (p + 1), .ref 222] (a_setI s2 223 1 (g_res (g_fm X (k_n8 B (k_tok B E 0))))))) _ _ _ _
  have m3 : Mo (fun b k => b = 223 ∧ k = 1) s2 (a_setI s2 223 1 (g_res (g_fm X (k_n8 B (k_tok B E 0))))) := Mo.set ⟨rfl, rfl⟩
  have n3 : Mo Sn σ (a_setI s2 223 1 (g_res (g_fm X (k_n8 B (k_tok B E 0))))) := n2.then_set (.inr ⟨rfl, rfl⟩)
  have h3 := n3.sh h
  have C3 : CP (a_setI s2 223 1 (g_res (g_fm X (k_n8 B (k_tok B E 0))))) p X := C.mo n3 fun b k z1 z2 z => by unfold Sn Sr St at z; omega
  have T3 : TG (a_setI s2 223 1 (g_res (g_fm X (k_n8 B (k_tok B E 0))))) B E 0 := (T.mo m2 (fun k _ => by omega) (fun k => by omega)).mo m3 (fun k _ => by omega) (fun k => by omega)
  have F3 : EF (a_setI s2 223 1 (g_res (g_fm X (k_n8 B (k_tok B E 0))))) none := (F.mo m2 (by omega) (by omega)).mo m3 (by omega) (by omega)
  have W3 : Wt (a_setI s2 223 1 (g_res (g_fm X (k_n8 B (k_tok B E 0))))) := by
    unfold Wt
    rw [m3.I (by omega), m2.I (by omega)]
    exact W
  have x1 : a_I (a_setI s2 223 1 (g_res (g_fm X (k_n8 B (k_tok B E 0))))) 223 1 = g_res (g_fm X (k_n8 B (k_tok B E 0))) := a_I_at
  obtain ⟨s3, hs3⟩ : ∃ s3, s3 = a_setI s2 223 1 (g_res (g_fm X (k_n8 B (k_tok B E 0)))) := ⟨_, rfl⟩
  rw [← hs3] at m3 n3 h3 C3 T3 F3 W3 x1 ⊢
  rw [s_rowN (by omega) h3 C3.2.1 (by decide) (fun k hk => by rw [m3.I (by omega)]; exact N2 k hk) (fun k _ => k_n8_lt T) (fun r hr => (V.2.2.2.2.2.2.1 r hr).1), g_v, b_X5_readDefinition_35 h3 C3.1, x1]
  show RO (if g_res (g_ft X (k_n8 B (k_tok B E 0))) = -1 then _ else _) _ _ _ _
  have taken : ∃ σ', b_R (a_call a_tab P (d - 1)) kX5_readDefinition [] (57, [some (.ref 223), some (.ref 220), some (.ref p), some (.ref 222)], [], s3) = some (.inl (some (.int (nI 0))), σ') ∧ Mo Sn σ σ' ∧ EF σ' (some (3, (k_tok B E 0).2.1)) := by
    obtain ⟨σ', e4, m4, T4, F4⟩ := s_fail (P := P) (d := d - 1) (by omega) h3 T3 F3 (c := 3) (by decide) (by decide)
    refine ⟨σ', ?_, n3.tr (m4.mono fun b k z => .inl (Sr.st (by unfold S9 at z; unfold St; omega))), F4⟩
    rw [b_X5_readDefinition_57 h3, e4, g_v, b_X5_readDefinition_62]
    exact b_gd_t (by decide)
  -- behind the name
  have goOn : RO (b_R (a_call a_tab P (d - 1)) kX5_readDefinition [] (63, [some (.ref 223), some (.ref 220), some (.ref p), some (.ref 222)], [], s3)) Sn σ (if k_sg B (k_tok B E (k_tok B E 0).2.2) 61 then
      (match g_parts X B E 5 [] (k_tok B E (k_tok B E 0).2.2).2.2 with
      | .inl e => .inl e
      | .inr r => if (k_tok B E r.2).1 = 0 then .inr (g_fm X (k_n8 B (k_tok B E 0)), r.1) else .inl (1, (k_tok B E r.2).2.1))
    else .inl (1, (k_tok B E (k_tok B E 0).2.2).2.1)) (fun r σ' => EF σ' none ∧ TD σ' (k_n8 B (k_tok B E 0)) r.2 ∧ Va (X.1 0) r.2 ∧ 0 < r.2.length ∧ a_I σ' 223 1 = g_res r.1 ∧ Vn (k_n8 B (k_tok B E 0))) := by
    rw [b_X5_readDefinition_63 h3]
    rcases s_startMix (P := P) (d := d - 1) H (by omega) h3 W3 T3 F3 with ⟨g4, s4, e4, m4, T4, F4, D4⟩ | ⟨g4, s4, e4, m4, F4⟩
    rotate_left
    · rw [g4, if_neg Bool.false_ne_true]
      refine ⟨s4, ?_, n3.tr (m4.mono fun b k z => .inl z), F4⟩
      rw [e4, g_v, b_X5_readDefinition_68 (m4.sh h3), if_pos (by decide), b_X5_readDefinition_91, b_X5_readDefinition_92]
      exact b_gd_t (by decide)
    have C4 : CP s4 p X := C3.mo m4 fun b k z1 z2 z => by have := z.in; omega
    have h4 := m4.sh h3
    have hr := s_readParts (P := P) (d := d - 1) H (by omega) h4 hp C4 V T4 F4 D4
    rw [g4, if_pos rfl, e4, g_v, b_X5_readDefinition_68 h4, if_neg (by decide)]
    cases hg : g_parts X B E 5 [] (k_tok B E (k_tok B E 0).2.2).2.2 with
    | inl e =>
      rw [hg] at hr
      obtain ⟨s5, e5, m5, F5⟩ := hr
      refine ⟨s5, ?_, n3.tr ((m4.tr m5).mono fun b k z => .inl z), F5⟩
      rw [e5, g_v, b_X5_readDefinition_77 (m5.sh h4), if_pos (by decide), b_X5_readDefinition_91, b_X5_readDefinition_92]
      exact b_gd_t (by decide)
    | inr r =>
      rw [hg] at hr
      obtain ⟨s5, e5, m5, T5, F5, D5, A5, L5⟩ := hr
      have h5 := m5.sh h4
      show RO _ _ _ (if (k_tok B E r.2).1 = 0 then _ else _) _
      rw [e5, g_v, b_X5_readDefinition_77 h5, if_neg (by decide)]
      rcases s_takeEnd (P := P) (d := d - 1) (by omega) h5 T5 F5 with ⟨c, e6⟩ | ⟨c, s6, e6, m6, T6, F6⟩
      · rw [if_pos c]
        refine ⟨s5, ?_, n3.tr ((m4.tr m5).mono fun b k z => .inl z), F5, D5, A5, L5, ?_, hVn⟩
        · rw [e6, g_v, b_X5_readDefinition_84, if_neg (by decide), b_X5_readDefinition_92]
          exact b_gd_t (by decide)
        · rw [(m4.tr m5).I (by unfold Sr St; omega)]
          exact x1
      · rw [if_neg c]
        refine ⟨s6, ?_, n3.tr (((m4.tr m5).tr (m6.mono fun b k z => Sr.st (by unfold S9 at z; unfold St; omega))).mono fun b k z => .inl z), F6⟩
        rw [e6, g_v, b_X5_readDefinition_84, if_pos (by decide), b_X5_readDefinition_91, b_X5_readDefinition_92]
        exact b_gd_t (by decide)
  cases ht : g_ft X (k_n8 B (k_tok B E 0)) with
  | some r =>
    have hr := g_ft_lt ht
    rw [if_neg (fun z => by cases (g_res_m1 (o := some r) (fun r' e => by cases e; omega)).mp z)]
    exact taken
  | none =>
    rw [if_pos (show g_res none = -1 from rfl)]
    cases hm : g_fm X (k_n8 B (k_tok B E 0)) with
    | some r =>
      have hr := g_fm_lt hm
      rw [if_neg (fun z => by cases (g_res_m1 (o := some r) (fun r' e => by cases e; omega)).mp z)]
      rw [hm] at goOn
      exact goOn
    | none =>
      rw [if_pos (show g_res none = -1 from rfl), s_isFull (by omega) C3.2.2.1 (by omega), g_v, b_X5_readDefinition_54]
      by_cases c20 : 20 ≤ X.1 1
      · rw [decide_eq_true (by omega : 340 < (X.1 1 + 1) * 17), if_neg (by decide)]
        show RO _ _ _ (if (false || true && decide (20 ≤ X.1 1)) = true then _ else _) _
        rw [decide_eq_true c20, if_pos (show (false || true && true) = true from rfl)]
        exact taken
      · rw [decide_eq_false (by omega : ¬ 340 < (X.1 1 + 1) * 17), if_pos (by decide)]
        show RO _ _ _ (if (false || true && decide (20 ≤ X.1 1)) = true then _ else _) _
        rw [decide_eq_false c20, if_neg (by decide)]
        rw [hm] at goOn
        exact goOn
/-- the palette behind a definition -/
def z_def (X : Pal) (o : Option Nat) (row : Nat → Nat) : Pal := z_cnt (z_up X 1 (fun r k => if r = o.getD (X.1 1) then row k else X.2 1 r k)) 1 (if o = none then X.1 1 + 1 else X.1 1)
theorem s_placeTold (hd : 3 ≤ d) (h : Sh σ) (hp : p + 8 < 220) (C : CP σ p X) (V : Vd X) {w : Nat → Nat} {acc : Cnd} (D : TD σ w acc) {o : Option Nat} (ho : a_I σ 223 1 = g_res o) (h1 : ∀ r, o = some r → r < X.1 1) (h2 : o = none → X.1 1 < 20) :
    ∃ σ', a_call a_tab P d 79 [.ref 223, .ref p] σ = some (.inl (some (.int (nI (o.getD (X.1 1))))), σ') ∧ Mo (fun b k => b = p + 4 ∨ (b = p + 3 ∧ k = 2)) σ σ' ∧ CP σ' p (z_def X o (m_row w acc)) := by
  have h20 := V.1
  rw [n_X5_placeTold (by omega), b_X5_placeTold_0 h C.1, ho]
  have fin : ∀ (s : aSt) (n m : Nat) (g : Nat → Nat → Int32), Mo (fun b k => b = p + 4 ∨ (b = p + 3 ∧ k = 2)) σ s → Tv s (p + 3) (p + 4) 17 340 n g → m < n → (∀ r, r < n → r ≠ m → ∀ k, k < 17 → g r k = nI (X.2 1 r k)) → m = o.getD (X.1 1) → n = (if o = none then X.1 1 + 1 else X.1 1) → ∃ σ', b_R (a_call a_tab P (d - 1)) kX5_placeTold [] (22, [some (.ref 223), some (.ref p), none], [.int (nI m)], s) = some (.inl (some (.int (nI (o.getD (X.1 1))))), σ') ∧ Mo (fun b k => b = p + 4 ∨ (b = p + 3 ∧ k = 2)) σ σ' ∧ CP σ' p (z_def X o (m_row w acc)) := by
    intro s n m g ms T hm hg em en
    have D1 : TD s w acc := D.mo ms (by omega) (by omega) (fun k _ => by omega)
    obtain ⟨σ', e1, m1, T1⟩ := s_copyRowO (P := P) (d := d - 1) (by omega) T D1 (r := m) (fr := 0) hm (by decide) (Nat.le_refl _) (by omega) (by omega)
    have m2 := ms.tr (m1.mono (S' := fun b k => b = p + 4 ∨ (b = p + 3 ∧ k = 2)) fun b k z => .inl z)
    refine ⟨σ', ?_, m2, ?_⟩
    · rw [b_X5_placeTold_22 (ms.sh h) (ms.pa C.1), e1, g_n, b_X5_placeTold_36, em]
    · unfold z_def
      rw [← em, ← en]
      exact C.up1 m2 (T1.congr fun r hr k hk => by
        (try dsimp only)
        by_cases hrm : r = m
        · rw [if_pos hrm, if_pos hrm]
        · rw [if_neg hrm, if_neg hrm]
          exact hg r hr hrm k hk)
  cases o with
  | none =>
    obtain ⟨s1, e1, m1, T1⟩ := s_addRow (P := P) (d := d - 1) (by omega) C.2.2.1 (by have := h2 rfl; omega)
    rw [if_pos (show g_res none = -1 from rfl), e1, g_v, b_X5_placeTold_15]
    exact fin s1 (X.1 1 + 1) (X.1 1) _ m1 T1 (Nat.lt_succ_self _) (fun r hr hne k hk => by (try dsimp only); rw [if_neg hne]; rfl) rfl rfl
  | some r =>
    have hr := h1 r rfl
    rw [if_neg (fun z => by cases (g_res_m1 (o := some r) (fun r' e => by cases e; omega)).mp z)]
    exact fin σ (X.1 1) r _ Mo.rf C.2.2.1 hr (fun r' hr' hne k hk => rfl) rfl rfl
end RDB
