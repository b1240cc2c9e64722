/-! the model: query -/
def OXq (c : Option (aRes × aSt)) (σ : aSt) (X : Pal) (hs : List Pal) (sn : Option Pal) (r : Nat ⊕ (Int32 × Int32 × Pal × List Pal × Option Pal)) : Prop := match r with
  | .inl _ => ∃ σ', c = some (.inl (some (.int (nI 0))), σ') ∧ Mq (fun b k => b = 237 ∧ k = 6) σ σ' ∧ KM σ' X hs sn ∧ a_I σ' 237 6 = nI 1
  | .inr q => ∃ σ', c = some (.inl (some (.int q.1)), σ') ∧ Mq Sxt σ σ' ∧ KM σ' q.2.2.1 q.2.2.2.1 q.2.2.2.2 ∧ a_I σ' 237 6 = nI 0 ∧ a_I σ' 237 20 = nI 0 ∧ a_I σ' 237 27 = q.2.1
theorem OX.q {c : Option (aRes × aSt)} {σ : aSt} {X : Pal} {hs : List Pal} {sn : Option Pal} {r : Nat ⊕ (Int32 × Int32 × Pal × List Pal × Option Pal)} (h : OX c σ X hs sn r) : OXq c σ X hs sn r := by
  cases r with
  | inl x =>
    obtain ⟨σ', e, m, k, f⟩ := h
    exact ⟨σ', e, m.mq, k, f⟩
  | inr q =>
    obtain ⟨σ', e, m, k, f⟩ := h
    exact ⟨σ', e, m.mq, k, f⟩
theorem KM.mq {σ σ' : aSt} {X : Pal} {hs : List Pal} {sn : Option Pal} {S : Nat → Nat → Prop} (K : KM σ X hs sn) (m : Mq S σ σ') (hS : ∀ b k, S b k → ¬ Kf b k) : KM σ' X hs sn := by
  obtain ⟨k1, k2, k3, k4, k5⟩ := K.mo m.mo hS
  refine ⟨m.sh K.1, m.mc K.2.1 fun k z => hS _ _ z (by unfold Kf; omega), k3, k4, ?_⟩
  cases sn with
  | none => exact k5
  | some Y => exact k5
theorem y_first8 {B : Nat → Nat} {t : Nat × Nat × Nat} (h : k_is B t (q_txt 7) = true) : k_is B t (q_txt 8) = false := by
  unfold k_is at *
  rw [Bool.and_eq_true, Bool.and_eq_true, beq_iff_eq, beq_iff_eq] at h
  rw [h.1, h.2.1, show ((q_txt 7).length == (q_txt 8).length) = false from rfl, Bool.false_and, Bool.and_false]
section MPB
variable {P : aCall} {d D : Nat} {σ : aSt} {X : Pal} {w : Nat} {B : Nat → Nat} {E : Nat} {e : Nat × Nat} {hs : List Pal} {sn : Option Pal} {x : Int32}
theorem CC.mq {σ σ' : aSt} {L : List Int32} (C : CC σ L) (m : Mq Sq σ σ') : CC σ' L := ⟨(m.I (by unfold Sq; omega)).trans C.1, C.2.1, fun j hj => (m.I (by unfold Sq; omega)).trans (C.2.2 j hj)⟩
theorem y_query (H : Pm P) (hd : 31 ≤ d) (K : KM σ X hs sn) {n : Nat} (b : KBm σ n B) : OXq (a_call a_tab P d 268 [.ref 237, .int x] σ) σ X hs sn (o_query X hs sn B n x) := by
  obtain ⟨E, rfl, hE⟩ := o_ex x
  have V := K.2.2.1
  have h20 := V.1
  have n9 := b.2.1
  have m6 : ∀ v, Mo (fun b k => b = 237 ∧ k = 6) σ (a_setI σ 237 6 v) := fun v => Mo.set ⟨rfl, rfl⟩
  have K0 := K.s6 (v := nI 0)
  unfold o_query
  rw [hE, n_X8_query (by omega), b_X8_query_0 K.1, a_I_off (.inr (by decide)), b.1, s_minN H (by omega) (by decide), g_v, b_X8_query_17, y_inR (by omega) (by decide) (by omega), g_v, b_X8_query_20 K0.1, hE]
  by_cases c1 : E ≤ min 200 n
  rotate_left
  · rw [if_neg c1, decide_eq_false (fun z => c1 (by have := z.2; omega)), if_pos (show b_n false = 0 by decide), y_raise (by omega) K0.1, g_v, b_X8_query_28]
    exact ⟨_, rfl, ((m6 _).then_set ⟨rfl, rfl⟩).mq, K0.s6, a_I_at⟩
  have hE200 : E ≤ 200 := by omega
  have m0 : Mo (fun b k => b = 237 ∧ k = 34) (a_setI σ 237 6 (nI 0)) (a_setI (a_setI σ 237 6 (nI 0)) 237 34 (nI 0)) := Mo.set ⟨rfl, rfl⟩
  have h0 := m0.sh K0.1
  obtain ⟨s1, d1, m1, R1, f28⟩ := y_startText (P := P) (d := d - 1) (B := B) (E := E) (by omega) h0 (by omega) (fun i hi => ⟨((m0.I (by omega)).trans ((m6 _).I (by omega))).trans (b.2.2 i (by omega)).1, (b.2.2 i (by omega)).2⟩)
  have m01 : Mo (fun b k => b = 237 ∧ (k = 34 ∨ (21 ≤ k ∧ k ≤ 28 ∧ k ≠ 26 ∧ k ≠ 27))) (a_setI σ 237 6 (nI 0)) s1 := (m0.mono fun b k z => by omega).tr (m1.mono fun b k z => by omega)
  have K1 : KM s1 X hs sn := K0.mo m01 fun b k z => by unfold Kf; omega
  have C1 : CC s1 [] := ⟨by rw [m1.I (by omega)]; exact a_I_at, by decide, fun j hj => absurd hj (Nat.not_lt_zero _)⟩
  have mx : Mo Sxt σ s1 := ((m6 (nI 0)).mono fun b k z => by unfold Sxt; omega).tr (m01.mono fun b k z => by unfold Sxt; omega)
  have f6 : a_I s1 237 6 = nI 0 := by rw [m01.I (by omega)]; exact a_I_at
  rw [if_pos c1, decide_eq_true ⟨Nat.zero_le _, by omega⟩, if_neg (show ¬ b_n true = 0 by decide), d1, g_n, b_X8_query_39 K1.1, y_isWord H (by omega) K1.1 R1 (by decide) (by decide), g_v, b_X8_query_46 K1.1, y_isWord H (by omega) K1.1 R1 (by decide) (by decide), g_v, b_X8_query_59, b_X8_query_62, show (r_q (.inr 0) fun q => k_is B (k_tok B E q) (q_txt 8)) = k_is B (k_tok B E 0) (q_txt 8) from rfl, show (r_q (.inr 0) fun q => k_is B (k_tok B E q) (q_txt 7)) = k_is B (k_tok B E 0) (q_txt 7) from rfl]
  generalize hx2 : b_n (k_is B (k_tok B E 0) (q_txt 8)) = x2
  -- the first word
  have A : ∃ s2, (if x2 = 0 then (if b_n (k_is B (k_tok B E 0) (q_txt 7)) = 0 then b_R (a_call a_tab P (d - 1)) kX8_query [] (67, [some (.ref 237), some (.int (nI E)), some (.int x2), none, none], [.int (nI 0), .ref 237], s1) else b_R (a_call a_tab P (d - 1)) kX8_query [] (67, [some (.ref 237), some (.int (nI E)), some (.int x2), none, none], [.int (nI 1), .ref 237], s1)) else b_R (a_call a_tab P (d - 1)) kX8_query [] (67, [some (.ref 237), some (.int (nI E)), some (.int x2), none, none], [.int (nI 1), .ref 237], s1)) = b_R (a_call a_tab P (d - 1)) kX8_query [] (71, [some (.ref 237), some (.int (nI E)), some (.int x2), none, none], [], s2) ∧ Mo S26 s1 s2 ∧ RS s2 B E (if k_is B (k_tok B E 0) (q_txt 7) || k_is B (k_tok B E 0) (q_txt 8) then .inr 0 else .inl (1, (k_tok B E 0).2.1)) := by
    obtain ⟨sa, da, ma, Ra⟩ := y_checkT (P := P) (d := d - 1) (by omega) K1.1 R1 (c := 1) (by decide) (by decide)
    obtain ⟨sb, db, mb, Rb⟩ := y_checkF (P := P) (d := d - 1) (by omega) K1.1 R1 (c := 1) (by decide) (by decide)
    rw [b_X8_query_67 K1.1, b_X8_query_67 K1.1, da, db, g_n, g_n, ← hx2]
    cases k_is B (k_tok B E 0) (q_txt 8) with
    | true => exact ⟨sa, by rw [if_neg (show ¬ b_n true = 0 by decide)], ma, by rw [Bool.or_true, if_pos rfl]; exact Ra⟩
    | false =>
      rw [if_pos (show b_n false = 0 by decide), Bool.or_false]
      cases k_is B (k_tok B E 0) (q_txt 7) with
      | true => exact ⟨sa, by rw [if_neg (show ¬ b_n true = 0 by decide)], ma, by rw [if_pos rfl]; exact Ra⟩
      | false => exact ⟨sb, by rw [if_pos (show b_n false = 0 by decide)], mb, by rw [if_neg Bool.false_ne_true]; exact Rb⟩
  obtain ⟨s2, e2, m2, R2⟩ := A
  have h2 := m2.sh K1.1
  obtain ⟨s3, d3, m3, R3⟩ := y_advance (P := P) (d := d - 1) (by omega) h2 R2
  have m23 := m2.tr m3
  have h3 := m23.sh K1.1
  have K3 : KM s3 X hs sn := K1.xt m23 fun b k z => by unfold S26 at z; omega
  rw [e2, b_X8_query_71 h2, d3, g_n, b_X8_query_75 h3]
  have eq : h_qry X B E = if k_is B (k_tok B E 0) (q_txt 7) || k_is B (k_tok B E 0) (q_txt 8) then
    (match h_tl B E (h_fac X B E 6) 200 (fun _ => false) (fun _ => true) (k_tok B E 0).2.2 with
    | .inl e => .inl e
    | .inr r => if (k_tok B E r.2).1 = 0 then .inr (k_is B (k_tok B E 0) (q_txt 7), r.1) else .inl (1, (k_tok B E r.2).2.1))
  else .inl (1, (k_tok B E 0).2.1) := rfl
  -- the end, when something is wrong
  have bad : ∀ (e : Nat × Nat) (s : aSt), Mo Squ s3 s → RS s B E (.inl e) → ∃ σ', b_R (a_call a_tab P (d - 1)) kX8_query [] (103, [some (.ref 237), some (.int (nI E)), some (.int x2), none, none], [], s) = some (.inl (some (.int (-1000000000 - nI e.1))), σ') ∧ Mq Sxt σ σ' ∧ KM σ' X hs sn ∧ a_I σ' 237 6 = nI 0 ∧ a_I σ' 237 20 = nI 0 ∧ a_I σ' 237 27 = nI e.2 := fun e s m R => by
    obtain ⟨s4, d4, m4, f20, f27⟩ := y_finish (P := P) (d := d - 1) (by omega) (m.sh h3) R
    obtain ⟨e1, e2⟩ := R.e25
    refine ⟨s4, ?_, (((mx.tr (m23.mono fun b k z => z.xt)).tr (m.mono fun b k z => by unfold Squ S26 at z; unfold Sxt; omega)).tr (m4.mono fun b k z => by unfold Sxt; omega)).mq, (K3.mo m fun b k z => by unfold Squ S26 at z; unfold Kf; omega).xt m4 fun b k z => by omega, by rw [m4.I (by omega), m.I (by unfold Squ S26; omega), m23.I (by unfold S26; omega)]; exact f6, f20, f27⟩
    rw [b_X8_query_103 (m.sh h3), d4, g_v, b_X8_query_107 (m4.sh (m.sh h3))]
    (try dsimp only)
    rw [if_neg e2, show a_I s4 237 25 = nI e.1 from (m4.I (by omega)).trans e1]
  have bad79 : ∀ (e : Nat × Nat) (s : aSt), Mo Squ s3 s → RS s B E (.inl e) → ∃ σ', b_R (a_call a_tab P (d - 1)) kX8_query [] (79, [some (.ref 237), some (.int (nI E)), some (.int x2), none, none], [], s) = some (.inl (some (.int (-1000000000 - nI e.1))), σ') ∧ Mq Sxt σ σ' ∧ KM σ' X hs sn ∧ a_I σ' 237 6 = nI 0 ∧ a_I σ' 237 20 = nI 0 ∧ a_I σ' 237 27 = nI e.2 := fun e s m R => by
    obtain ⟨e1, e2⟩ := R.e25
    have hh := m.sh h3
    obtain ⟨s7, d7, m7, R7⟩ := y_checkT (P := P) (d := d - 1) (by omega) hh R (c := 1) (by decide) (by decide)
    obtain ⟨s8, x1, x2, x3, x4, x5, x6⟩ := bad e s7 (m.tr (m7.mono fun b k z => z.q)) R7
    refine ⟨s8, ?_, x2, x3, x4, x5, x6⟩
    rw [b_X8_query_79 hh, e1, if_neg e2, b_X8_query_94, b_X8_query_99 hh, d7, g_n]
    exact x1
  by_cases cw : (k_is B (k_tok B E 0) (q_txt 7) || k_is B (k_tok B E 0) (q_txt 8)) = true
  rotate_left
  · rw [if_neg cw] at eq R3
    have R3 : RS s3 B E (.inl (1, (k_tok B E 0).2.1)) := R3
    obtain ⟨s4, d4, m4, R4⟩ := y_ctestB (P := P) (d := d - 1) H (by omega) h3 R3
    rw [eq, d4, g_n]
    exact bad79 _ s4 (m4.mono fun b k z => z.q) R4
  rw [if_pos cw] at eq R3
  have R3 : RS s3 B E (.inr (k_tok B E 0).2.2) := R3
  have hadv : 0 < (k_tok B E 0).2.2 := k_tok_adv (fun z => by
    unfold k_is at cw
    rw [z] at cw
    cases cw) (Nat.zero_le _)
  obtain ⟨s4, d4, m4, R4, G4⟩ := y_ctest (P := P) (d := d - 1) (D := d - 1 - 1) H (by omega) (by omega) hE200 (y_cfac (P := P) (D := d - 1 - 1) H (by omega) hE200 V 6 (Nat.le_refl _) (d - 1 - 1 - 1) (by omega)) h3 R3 hadv (L := []) ((C1.s26 m2).s26 m3) (Nat.zero_le _) (by rw [m23.I (by unfold S26; omega)]; exact f28)
  have h4 := m4.sh h3
  rw [d4, g_n]
  cases hg : h_tl B E (h_fac X B E 6) 200 (fun _ => false) (fun _ => true) (k_tok B E 0).2.2 with
  | inl e =>
    rw [hg] at eq R4
    rw [eq]
    exact bad79 e s4 m4 R4
  | inr r =>
    obtain ⟨g, q1⟩ := r
    rw [hg] at eq R4
    have R4 : RS s4 B E (.inr q1) := R4
    have eq : h_qry X B E = if (k_tok B E q1).1 = 0 then .inr (k_is B (k_tok B E 0) (q_txt 7), g) else .inl (1, (k_tok B E q1).2.1) := eq
    obtain ⟨-, L', C4, -, S4⟩ := G4 g q1 hg
    obtain ⟨j1, j2, j3, j4⟩ := R4.tok
    rw [b_X8_query_79 h4, R4.2.2.2, if_pos (show nI 0 = 0 from rfl), R4.2.2.1.1, b_X8_query_94, b_X8_query_99 h4, b_X8_query_99 h4]
    by_cases ce : (k_tok B E q1).1 = 0
    rotate_left
    · rw [if_neg ce] at eq
      rw [eq, if_neg (show ¬ nI (k_tok B E q1).1 = 0 from fun z => ce ((o_eq0 (by omega)).mp z))]
      obtain ⟨s7, d7, m7, R7⟩ := y_checkF (P := P) (d := d - 1) (by omega) h4 R4 (c := 1) (by decide) (by decide)
      rw [d7, g_n]
      exact bad _ s7 (m4.tr (m7.mono fun b k z => z.q)) R7
    rw [if_pos ce] at eq
    rw [eq, if_pos (show nI (k_tok B E q1).1 = 0 from congrArg nI ce)]
    obtain ⟨s7, d7, m7, R7⟩ := y_checkT (P := P) (d := d - 1) (by omega) h4 R4 (c := 1) (by decide) (by decide)
    have h7 := m7.sh h4
    obtain ⟨s8, d8, m8, f20, f27⟩ := y_finish (P := P) (d := d - 1) (by omega) h7 R7
    have h8 := m8.sh h7
    have K8 : KM s8 X hs sn := ((K3.mo m4 fun b k z => by unfold Squ S26 at z; unfold Kf; omega).xt m7 fun b k z => by unfold S26 at z; omega).xt m8 fun b k z => by omega
    have mx8 : Mo Sxt σ s8 := (((mx.tr (m23.mono fun b k z => z.xt)).tr (m4.mono fun b k z => by unfold Squ S26 at z; unfold Sxt; omega)).tr (m7.mono fun b k z => z.xt)).tr (m8.mono fun b k z => by unfold Sxt; omega)
    have g6 : a_I s8 237 6 = nI 0 := by rw [m8.I (by omega), m7.I (by unfold S26; omega), m4.I (by unfold Squ S26; omega), m23.I (by unfold S26; omega)]; exact f6
    have C8 : CC s8 L' := (C4.s26 m7).mo m8 (by omega) fun k => by omega
    have fcnt : ∀ {τ : aSt}, Mq Sq s8 τ → a_I τ 238 1 = nI (X.1 1) := fun mq => (mq.I (by unfold Sq; omega)).trans K8.2.1.2.2.2.1.2.1
    have fin : ∀ {τ : aSt} {v : Int32}, Mq Sq s8 τ → v = h_ans (X.1 1) (k_is B (k_tok B E 0) (q_txt 7), g) → ∃ σ', some ((.inl (some (.int v)) : aRes), τ) = some (.inl (some (.int (h_ans (X.1 1) (k_is B (k_tok B E 0) (q_txt 7), g)))), σ') ∧ Mq Sxt σ σ' ∧ KM σ' X hs sn ∧ a_I σ' 237 6 = nI 0 ∧ a_I σ' 237 20 = nI 0 ∧ a_I σ' 237 27 = -1 := fun {τ v} mq hv => by
      subst hv
      exact ⟨τ, rfl, mx8.mq.tr (mq.mono fun b k z => by unfold Sq at z; unfold Sxt; omega), K8.mq mq fun b k z => by unfold Sq at z; unfold Kf; omega, by rw [mq.I (by unfold Sq; omega)]; exact g6, by rw [mq.I (by unfold Sq; omega)]; exact f20, by rw [mq.I (by unfold Sq; omega)]; exact f27⟩
    have hold : ∀ {τ : aSt} {i : Nat}, Mq Sq s8 τ → i < X.1 1 → ∃ τ', a_call a_tab P (d - 1) 267 [.ref 237, .int (nI i)] τ = some (.inl (some (.int (b_n (g i)))), τ') ∧ Mq Sq s8 τ' := fun {τ i} mq hi => by
      obtain ⟨τ', e', m'⟩ := y_holdsFor (P := P) (d := d - 1) (by omega) (mq.sh h8) (mq.mc K8.2.1 fun k => by unfold Sq; omega) S4 (C8.mq mq) hi
      exact ⟨τ', e', mq.tr m'⟩
    rw [d7, g_n, b_X8_query_103 h7, d8, g_v, b_X8_query_107 h8]
    (try dsimp only)
    rw [if_pos (show nI 0 = 0 from rfl)]
    cases k7 : k_is B (k_tok B E 0) (q_txt 7) with
    | true =>
      have hx0 : x2 = nI 0 := by rw [← hx2, y_first8 k7]; rfl
      subst hx0
      obtain ⟨s9, m9, e9⟩ := up_st0 (run := fun i τ => b_R (a_call a_tab P (d - 1)) kX8_query [] (124, [some (.ref 237), some (.int (nI E)), some (.int (nI 0)), some (.int (nI (q_s (fun m => z_1 (g m)) i))), some (.int (nI i))], [], τ)) (n := X.1 1) (s := s8) (fun _ τ => Mq Sq s8 τ) Mq.rf
        (fun i τ hi mq => by
          obtain ⟨τ', e', m'⟩ := hold mq hi
          refine ⟨τ', m', ?_⟩
          (try dsimp only)
          rw [b_X8_query_124 (mq.sh h8), b_gd_t (nIi (by decide) (by decide)), nIc (by decide), fcnt mq, if_pos (nIl hi (by omega)), e', g_v, b_X8_query_141, b_X8_query_157, b_X8_query_157, if_pos (show nI 0 = 0 from rfl), nI_add, nI_add]
          show _ = b_R (a_call a_tab P (d - 1)) kX8_query [] (124, [some (.ref 237), some (.int (nI E)), some (.int (nI 0)), some (.int (nI (q_s (fun m => z_1 (g m)) i + z_1 (g i)))), some (.int (nI (i + 1)))], [], τ')
          cases g i with
          | true => rw [if_neg (show ¬ b_n true = 0 by decide)]; rfl
          | false => rw [if_pos (show b_n false = 0 by decide)]; rfl)
      have e9 : b_R (a_call a_tab P (d - 1)) kX8_query [] (124, [some (.ref 237), some (.int (nI E)), some (.int (nI 0)), some (.int (nI 0)), some (.int (nI 0))], [], s8) = _ := e9
      rw [e9]
      (try dsimp only)
      rw [b_X8_query_124 (m9.sh h8), b_gd_t (nIi (by decide) (by decide)), nIc (by decide), fcnt m9, if_neg (nIn (Nat.le_refl _) (by omega)), if_pos (show nI 0 = 0 from rfl), b_X8_query_172]
      have := fin (v := nI (q_s (fun m => z_1 (g m)) (X.1 1))) m9 (by rw [k7]; rfl)
      rw [k7] at this
      exact this
    | false =>
      have k8 : k_is B (k_tok B E 0) (q_txt 8) = true := by
        rw [k7, Bool.false_or] at cw
        exact cw
      have hx1 : x2 = nI 1 := by rw [← hx2, k8]; rfl
      subst hx1
      have loop : ∀ k i τ, i + k = X.1 1 → Mq Sq s8 τ → ∃ τ', b_R (a_call a_tab P (d - 1)) kX8_query [] (124, [some (.ref 237), some (.int (nI E)), some (.int (nI 1)), some (.int (nI 0)), some (.int (nI i))], [], τ) = some (.inl (some (.int (g_res (g_find g k i)))), τ') ∧ Mq Sq s8 τ' := by
        intro k
        induction k with
        | zero =>
          intro i τ hi mq
          exact ⟨τ, by rw [b_X8_query_124 (mq.sh h8), b_gd_t (nIi (by decide) (by decide)), nIc (by decide), fcnt mq, if_neg (nIn (by omega) (by omega)), if_neg (show ¬ nI 1 = 0 by decide), b_X8_query_172]; rfl, mq⟩
        | succ k ih =>
          intro i τ hi mq
          obtain ⟨τ', e', m'⟩ := hold (i := i) mq (by omega)
          obtain ⟨τ'', e'', m''⟩ := ih (i + 1) τ' (by omega) m'
          rw [b_X8_query_124 (mq.sh h8), b_gd_t (nIi (by decide) (by decide)), nIc (by decide), fcnt mq, if_pos (nIl (by omega) (by omega)), e', g_v, b_X8_query_141, b_X8_query_157, b_X8_query_157, if_neg (show ¬ nI 1 = 0 by decide), nI_add, e'', show g_find g (k + 1) i = (if g i then some i else g_find g k (i + 1)) from rfl]
          cases g i with
          | true => exact ⟨τ', by rw [if_neg (show ¬ b_n true = 0 by decide), if_pos rfl]; rfl, m'⟩
          | false => exact ⟨τ'', by rw [if_pos (show b_n false = 0 by decide), if_neg Bool.false_ne_true], m''⟩
      obtain ⟨s9, e9, m9⟩ := loop (X.1 1) 0 s8 (Nat.zero_add _) Mq.rf
      rw [e9]
      have := fin (v := g_res (g_find g (X.1 1) 0)) m9 (by rw [k7]; rfl)
      rw [k7] at this
      exact this
end MPB
