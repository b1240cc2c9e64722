/-! PaletteTubes: the buffer and the texts -/
def KB (σ : aSt) (n : Nat) (B : Nat → Nat) : Prop := a_I σ 220 1 = nI n ∧ n ≤ 900 ∧ ∀ i, i < n → a_I σ 221 i = nI (B i) ∧ B i < 256
def z_def' (X : Pal) (B : Nat → Nat) (E : Nat) (r : Option Nat × Cnd) : Pal := z_def X r.1 (m_row (k_n8 B (k_tok B E 0)) r.2)
/-- how a call with a text ends: thrown, or with an answer, the error's place, the palette, the history, the snapshot; the buffer is empty -/
def OT (c : Option (aRes × aSt)) (σ : aSt) (r : Nat ⊕ (Int32 × Int32 × Pal × List Pal × Option Pal)) : Prop := match r with
  | .inl x => c = some (.inr x, a_made σ)
  | .inr q => ∃ σ', c = some (.inl (some (.int q.1)), σ') ∧ Mo (fun b _ => 100 ≤ b ∧ b < 235) σ σ' ∧ KC σ' q.2.2.1 q.2.2.2.1 q.2.2.2.2 ∧ a_I σ' 220 1 = nI 0 ∧ a_I σ' 220 9 = q.2.1
theorem z_def_vd {X : Pal} (V : Vd X) {o : Option Nat} {w : Nat → Nat} {acc : Cnd} (h2 : o = none → X.1 1 < 20) (hw : Vn w) (A : Va (X.1 0) acc) (h0 : 0 < acc.length) : Vd (z_def X o (m_row w acc)) := ⟨⟨V.1.1, by
  show (if o = none then X.1 1 + 1 else X.1 1) ≤ 20
  have := V.1.2
  split
  · rename_i h; exact h2 h
  · exact this⟩, V.2.1, V.2.2.1, V.2.2.2.1, V.2.2.2.2.1, V.2.2.2.2.2.1, V.2.2.2.2.2.2.1, fun r hr => by
  have hr : r < (if o = none then X.1 1 + 1 else X.1 1) := hr
  show Vn (fun k => if r = o.getD (X.1 1) then m_row w acc k else X.2 1 r k) ∧ Vm (X.1 0) (fun k => if r = o.getD (X.1 1) then m_row w acc k else X.2 1 r k)
  by_cases h : r = o.getD (X.1 1)
  · simp only [if_pos h]
    exact ⟨hw.congr fun k hk => by unfold m_row; rw [if_pos hk], m_row_vm A h0⟩
  · simp only [if_neg h]
    refine V.2.2.2.2.2.2.2.1 r ?_
    cases o with
    | none =>
      have h : r ≠ X.1 1 := h
      rw [if_pos rfl] at hr
      omega
    | some o => rw [if_neg (by simp)] at hr; exact hr, V.2.2.2.2.2.2.2.2⟩
theorem g_def_lt {X : Pal} (V : Vd X) {B : Nat → Nat} {E : Nat} {r : Option Nat × Cnd} (h : g_def X B E = .inr r) : (∀ i, r.1 = some i → i < X.1 1) ∧ (r.1 = none → X.1 1 < 20) := by
  have h20 := V.1.2
  unfold g_def at h
  split at h
  · cases h
  · split at h
    · cases h
    · rename_i hc
      split at h
      · split at h
        · cases h
        · split at h
          · cases h
            refine ⟨fun i hi => g_fm_lt hi, fun hn => ?_⟩
            have hn : g_fm X (k_n8 B (k_tok B E 0)) = none := hn
            rw [hn] at hc
            simp only [Bool.or_eq_true, Bool.and_eq_true, decide_eq_true_eq, not_or, not_and] at hc
            have := hc.2 rfl
            omega
          · cases h
      · cases h
section TXT
variable {P : aCall} {d : Nat} {σ : aSt} {X : Pal} {hs : List Pal} {sn : Option Pal} {x y z : Int32} {n : Nat} {B : Nat → Nat}
theorem s_rLen (H : Pm P) (hd : 2 ≤ d) (h : Sh σ) (K : KB σ n B) {t most : Nat} (hm : most < 2147483648) (ht : t ≤ min most n) : a_call a_tab P d 139 [.ref 100, .int (nI t), .int (nI most)] σ = some (.inl none, σ) := by
  have := K.2.1
  rw [n_X7_requireLength (by omega), b_X7_requireLength_0 h, K.1, s_minN H (by omega) (by omega), g_v, b_X7_requireLength_13, s_rArg (by omega) (by omega) (Nat.zero_le _) ht, g_n, b_X7_requireLength_16]
theorem s_rLenF (H : Pm P) (hd : 2 ≤ d) (h : Sh σ) (K : KB σ n B) {most : Nat} (hm : most < 2147483648) (ht : ¬ o_nat x ≤ min most n) : a_call a_tab P d 139 [.ref 100, .int x, .int (nI most)] σ = some (.inr 1, a_made σ) := by
  have := K.2.1
  rw [n_X7_requireLength (by omega), b_X7_requireLength_0 h, K.1, s_minN H (by omega) (by omega), g_v, b_X7_requireLength_13, s_rArgF (by omega) (by decide) (by omega) (fun z => ht z.2), g_x]
theorem s_disc (hd : 1 ≤ d) (h : Sh σ) : a_call a_tab P d 16 [.ref 220] σ = some (.inl none, a_setI σ 220 1 (nI 0)) := by
  rw [n_X6_discard (by omega), b_X6_discard_0 h]
theorem KC.dis (K : KC σ X hs sn) : KC (a_setI σ 220 1 (nI 0)) X hs sn := K.mo (Mo.set (S := fun b k => b = 220) rfl) fun b k z => by unfold KP; omega
def o_er (e : Nat × Nat) : Int32 := -10 - nI e.1
def o_mixed (X : Pal) (hs : List Pal) (sn : Option Pal) (B : Nat → Nat) (n : Nat) (x : Int32) : Nat ⊕ (Int32 × Int32 × Pal × List Pal × Option Pal) := if o_nat x ≤ min 200 n then (match g_bare X B (o_nat x) with | .inl e => .inr (o_er e, nI e.2, X, hs, sn) | .inr a => .inr (nI (z_col X (m_row (fun _ => 0) a)), -1, X, hs, sn)) else .inl 1
theorem s_mixed (H : Pm P) (hd : 8 ≤ d) (K : KC σ X hs sn) (b : KB σ n B) : OT (a_call a_tab P d 93 [.ref 100, .int x] σ) σ (o_mixed X hs sn B n x) := by
  obtain ⟨E, rfl, hE⟩ := o_ex x
  unfold o_mixed
  rw [hE]
  have h9 := b.2.1
  by_cases h1 : E ≤ min 200 n
  · rw [if_pos h1]
    obtain ⟨s1, e1, m1, T1, F1⟩ := s_tbegin (P := P) (d := d - 1) (B := B) (E := E) H (by omega) K.1 (by omega) (fun i hi => b.2.2 i (by omega))
    have K1 : KC s1 X hs sn := K.mo m1 fun b k z => by unfold KP; omega
    have hr := s_readBareMix (P := P) (d := d - 1) H (by omega) K1.1 K1.2.2.2.2.2.2.2.1 (by decide) K1.2.1 K.2.2.1 T1 F1
    rw [n_X7_mixed (by omega), b_X7_mixed_0 K.1, s_rLen H (by omega) K.1 b (by decide) h1, g_n, b_X7_mixed_8 K.1, e1, g_n, b_X7_mixed_16 K1.1]
    cases hg : g_bare X B E with
    | inl e =>
      rw [hg] at hr
      obtain ⟨s2, e2, m2, F2⟩ := hr
      have K2 : KC s2 X hs sn := K1.mo m2 fun b k z => by have := z.in; unfold Sr St at z; unfold KP; omega
      obtain ⟨e, p⟩ := e
      refine ⟨a_setI s2 220 1 (nI 0), ?_, ((m1.mono fun b k z => by omega).tr (m2.mono fun b k z => by have := z.in; omega)).then_set (by omega), K2.dis, a_I_at, F2.2.2⟩
      rw [e2, g_v, b_X7_mixed_31 K2.1, s_disc (by omega) K2.1, g_n, b_X7_mixed_39 K2.dis.1, if_pos (by decide), b_X7_mixed_71, a_I_off (.inr (by decide)), F2.2.1]
      rfl
    | inr a =>
      rw [hg] at hr
      obtain ⟨s2, e2, m2, F2, D2, A2, l2⟩ := hr
      have K2 : KC s2 X hs sn := K1.mo m2 fun b k z => by have := z.in; unfold Sr St at z; unfold KP; omega
      have md : Mo (fun b k => b = 220) s2 (a_setI s2 220 1 (nI 0)) := Mo.set rfl
      have D3 := D2.mo md (by decide) (by decide) (fun k _ => by decide)
      refine ⟨a_setI s2 220 1 (nI 0), ?_, ((m1.mono fun b k z => by omega).tr (m2.mono fun b k z => by have := z.in; omega)).then_set (by omega), K2.dis, a_I_at, F2.2⟩
      rw [e2, g_v, b_X7_mixed_31 K2.1, s_disc (by omega) K2.1, g_n, b_X7_mixed_39 K2.dis.1, if_neg (by decide), s_colourOf (by omega) K2.dis.2.1 K.2.2.1 (h := fun _ => m_row (fun _ => 0) a) D3 (by decide) (m_row_vm A2 l2), g_v, b_X7_mixed_58, b_X7_mixed_71]
  · rw [if_neg h1]
    show _ = _
    rw [n_X7_mixed (by omega), b_X7_mixed_0 K.1, s_rLenF H (by omega) K.1 b (by decide) (by rw [hE]; exact h1), g_x]
def o_define (X : Pal) (hs : List Pal) (sn : Option Pal) (B : Nat → Nat) (n : Nat) (x : Int32) : Nat ⊕ (Int32 × Int32 × Pal × List Pal × Option Pal) := if o_nat x ≤ min 200 n then (match g_def X B (o_nat x) with | .inl e => .inr (o_er e, nI e.2, X, hs, sn) | .inr r => .inr (nI (r.1.getD (X.1 1)), -1, z_def' X B (o_nat x) r, z_push X hs, sn)) else .inl 1
theorem s_define (H : Pm P) (hd : 8 ≤ d) (K : KC σ X hs sn) (b : KB σ n B) : OT (a_call a_tab P d 119 [.ref 100, .int x] σ) σ (o_define X hs sn B n x) := by
  obtain ⟨E, rfl, hE⟩ := o_ex x
  unfold o_define
  rw [hE]
  have h9 := b.2.1
  by_cases h1 : E ≤ min 200 n
  · rw [if_pos h1]
    obtain ⟨s1, e1, m1, T1, F1⟩ := s_tbegin (P := P) (d := d - 1) (B := B) (E := E) H (by omega) K.1 (by omega) (fun i hi => b.2.2 i (by omega))
    have K1 : KC s1 X hs sn := K.mo m1 fun b k z => by unfold KP; omega
    have hr := s_readDefinition (P := P) (d := d - 1) H (by omega) K1.1 K1.2.2.2.2.2.2.2.1 (by decide) K1.2.1 K.2.2.1 T1 F1
    rw [n_X7_define (by omega), b_X7_define_0 K.1, s_rLen H (by omega) K.1 b (by decide) h1, g_n, b_X7_define_8 K.1, e1, g_n, b_X7_define_16 K1.1]
    cases hg : g_def X B E with
    | inl e =>
      rw [hg] at hr
      obtain ⟨s2, e2, m2, F2⟩ := hr
      have K2 : KC s2 X hs sn := K1.mo m2 fun b k z => by unfold Sn Sr St at z; unfold KP; omega
      obtain ⟨e, p⟩ := e
      refine ⟨a_setI s2 220 1 (nI 0), ?_, ((m1.mono fun b k z => by omega).tr (m2.mono fun b k z => by unfold Sn Sr St at z; omega)).then_set (by omega), K2.dis, a_I_at, F2.2.2⟩
      rw [e2, g_v, b_X7_define_31 K2.1, s_disc (by omega) K2.1, g_n, b_X7_define_39 K2.dis.1, if_pos (by decide), a_I_off (.inr (by decide)), F2.2.1]
      rfl
    | inr r =>
      rw [hg] at hr
      obtain ⟨s2, e2, m2, F2, D2, A2, l2, f2, n2⟩ := hr
      have hl := g_def_lt K.2.2.1 hg
      have K2 : KC s2 X hs sn := K1.mo m2 fun b k z => by unfold Sn Sr St at z; unfold KP; omega
      obtain ⟨s3, e3, m3, K3⟩ := s_rec (P := P) (d := d - 1) H (by omega) K2.dis
      have md : Mo (fun b k => b = 220 ∨ S8 b k) s2 s3 := (Mo.set (.inl rfl)).tr (m3.mono fun b k z => .inr z)
      have D3 : TD s3 (k_n8 B (k_tok B E 0)) r.2 := D2.mo md (by unfold S8; omega) (by unfold S8; omega) (fun k _ => by unfold S8; omega)
      have f3 : a_I s3 223 1 = g_res r.1 := (md.I (by unfold S8; omega)).trans f2
      obtain ⟨s4, e4, m4, C4⟩ := s_placeTold (P := P) (d := d - 1) (by omega) K3.1 (by decide) K3.2.1 K.2.2.1 D3 f3 hl.1 hl.2
      have hS : ∀ b k, (b = 101 + 4 ∨ (b = 101 + 3 ∧ k = 2)) → Sp 101 b k := fun b k z => by unfold Sp; omega
      have ma : Mo (fun b _ => 100 ≤ b ∧ b < 235) s2 s4 := (md.mono fun b k z => by unfold S8 at z; omega).tr (m4.mono fun b k z => by omega)
      refine ⟨s4, ?_, ((m1.mono fun b k z => by omega).tr (m2.mono fun b k z => by unfold Sn Sr St at z; omega)).tr ma, K3.upd m4 hS C4 (z_def_vd K.2.2.1 hl.2 n2 A2 l2), ?_, ?_⟩
      · rw [e2, g_v, b_X7_define_31 K2.1, s_disc (by omega) K2.1, g_n, b_X7_define_39 K2.dis.1, if_neg (by decide), e3, g_n, b_X7_define_65 K3.1, e4, g_v, b_X7_define_76]
      · rw [m4.I (by omega), m3.I (by unfold S8; omega)]
        exact a_I_at
      · rw [m4.I (by omega), m3.I (by unfold S8; omega)]
        exact F2.2
  · rw [if_neg h1]
    show _ = _
    rw [n_X7_define (by omega), b_X7_define_0 K.1, s_rLenF H (by omega) K.1 b (by decide) (by rw [hE]; exact h1), g_x]
def o_query (X : Pal) (hs : List Pal) (sn : Option Pal) (B : Nat → Nat) (n : Nat) (x : Int32) : Nat ⊕ (Int32 × Int32 × Pal × List Pal × Option Pal) := if o_nat x ≤ min 200 n then (match h_qry X B (o_nat x) with | .inl e => .inr (-1000000000 - nI e.1, nI e.2, X, hs, sn) | .inr r => .inr (h_ans (X.1 1) r, -1, X, hs, sn)) else .inl 1
theorem s_query (H : Pm P) (hd : 21 ≤ d) (K : KC σ X hs sn) (b : KB σ n B) : OT (a_call a_tab P d 94 [.ref 100, .int x] σ) σ (o_query X hs sn B n x) := by
  obtain ⟨E, rfl, hE⟩ := o_ex x
  unfold o_query
  rw [hE]
  have h9 := b.2.1
  by_cases h1 : E ≤ min 200 n
  · rw [if_pos h1]
    obtain ⟨s1, e1, m1, T1, F1⟩ := s_tbegin (P := P) (d := d - 1) (B := B) (E := E) H (by omega) K.1 (by omega) (fun i hi => b.2.2 i (by omega))
    have K1 : KC s1 X hs sn := K.mo m1 fun b k z => by unfold KP; omega
    obtain ⟨s2, e2, m2, Q2⟩ := s_prepare (P := P) (d := d - 1) H (by omega) K1.1 (by decide) K1.2.1 K.2.2.1 K1.2.2.2.2.2.2.2.2
    have K2 : KC s2 X hs sn := K1.mo m2 fun b k z => by unfold Sg at z; unfold KP; omega
    have T2 := T1.mo m2 (fun k _ => by unfold Sg; omega) (fun k => by unfold Sg; omega)
    have F2 := F1.mo m2 (by unfold Sg; omega) (by unfold Sg; omega)
    have hr := s_answerOf (P := P) (d := d - 1) H (by omega) (by omega) K2.1 K.2.2.1 Q2 T2 F2
    rw [n_X7_query (by omega), b_X7_query_0 K.1, s_rLen H (by omega) K.1 b (by decide) h1, g_n, b_X7_query_8 K.1, e1, g_n, b_X7_query_16 K1.1, e2, g_n, b_X7_query_27 K2.1]
    have hk : ∀ b k, St b k → KP b k := fun b k z => by unfold St at z; unfold KP; omega
    cases hg : h_qry X B E with
    | inl e =>
      rw [hg] at hr
      obtain ⟨s3, v, e3, m3, F3⟩ := hr
      have K3 : KC s3 X hs sn := K2.mo m3 hk
      have F4 := F3.mo (Mo.set (S := fun b k => b = 220 ∧ k = 1) (a := 220) (k := 1) (v := nI 0) ⟨rfl, rfl⟩) (by decide) (by decide)
      obtain ⟨e, p⟩ := e
      refine ⟨a_setI s3 220 1 (nI 0), ?_, (((m1.mono fun b k z => by omega).tr (m2.mono fun b k z => by unfold Sg at z; omega)).tr (m3.mono fun b k z => by unfold St at z; omega)).then_set (by omega), K3.dis, a_I_at, F4.2.2⟩
      rw [e3, g_v, b_X7_query_38 K3.1, s_disc (by omega) K3.1, g_n, b_X7_query_46 K3.dis.1, s_failed (by omega) K3.dis.1 F4, g_v, b_X7_query_53 K3.dis.1, if_neg (show ¬ b_n (some (e, p)).isSome = 0 from (by decide : ¬ b_n true = 0)), b_X7_query_70, F4.2.1]
    | inr r =>
      rw [hg] at hr
      obtain ⟨s3, e3, m3, F3⟩ := hr
      have K3 : KC s3 X hs sn := K2.mo m3 hk
      have F4 := F3.mo (Mo.set (S := fun b k => b = 220 ∧ k = 1) (a := 220) (k := 1) (v := nI 0) ⟨rfl, rfl⟩) (by decide) (by decide)
      refine ⟨a_setI s3 220 1 (nI 0), ?_, (((m1.mono fun b k z => by omega).tr (m2.mono fun b k z => by unfold Sg at z; omega)).tr (m3.mono fun b k z => by unfold St at z; omega)).then_set (by omega), K3.dis, a_I_at, F4.2⟩
      rw [e3, g_v, b_X7_query_38 K3.1, s_disc (by omega) K3.1, g_n, b_X7_query_46 K3.dis.1, s_failed (by omega) K3.dis.1 F4, g_v, b_X7_query_53 K3.dis.1, if_pos (show b_n (none : Option (Nat × Nat)).isSome = 0 from (by decide : b_n false = 0)), b_X7_query_70]
  · rw [if_neg h1]
    show _ = _
    rw [n_X7_query (by omega), b_X7_query_0 K.1, s_rLenF H (by omega) K.1 b (by decide) (by rw [hE]; exact h1), g_x]
def o_load (X : Pal) (hs : List Pal) (sn : Option Pal) (B : Nat → Nat) (n : Nat) (x : Int32) : Nat ⊕ (Int32 × Int32 × Pal × List Pal × Option Pal) := if o_nat x ≤ min 900 n then (match g_load B (o_nat x) with | .inl e => .inr (o_er e, nI e.2, X, hs, sn) | .inr Y => .inr (nI (Y.1 0), -1, Y, [], none)) else .inl 1
theorem s_load (H : Pm P) (hd : 8 ≤ d) (K : KC σ X hs sn) (b : KB σ n B) : OT (a_call a_tab P d 91 [.ref 100, .int x] σ) σ (o_load X hs sn B n x) := by
  obtain ⟨E, rfl, hE⟩ := o_ex x
  unfold o_load
  rw [hE]
  have h9 := b.2.1
  by_cases h1 : E ≤ min 900 n
  · rw [if_pos h1]
    obtain ⟨s1, e1, m1, T1, F1⟩ := s_tbegin (P := P) (d := d - 1) (B := B) (E := E) H (by omega) K.1 (by omega) (fun i hi => b.2.2 i (by omega))
    have K1 : KC s1 X hs sn := K.mo m1 fun b k z => by unfold KP; omega
    have hr := s_readPalette (P := P) (d := d - 1) (p := 110) H (by omega) (by decide) K1.1 (pa_110 K1.1) K1.2.2.2.1 K1.2.2.2.2.2.2.2.1 T1 F1
    rw [n_X7_load (by omega), b_X7_load_0 K.1, s_rLen H (by omega) K.1 b (by decide) h1, g_n, b_X7_load_8 K.1, e1, g_n, b_X7_load_16 K1.1]
    -- what the reading leaves as it was
    have keep : ∀ s2, Mo (SL 110) s1 s2 → KC s2 X hs sn := fun s2 m2 => by
      obtain ⟨a1, a2, a3, a4, a5, a6, a7, a8, a9⟩ := K1
      have z0 : ∀ b k, b < 110 ∨ (118 < b ∧ b < 220) → ¬ SL 110 b k := fun b k hb z => by
        rcases z with z | z
        · have := z.in; omega
        · have := z.in; omega
      have zw : ∀ j, (j = 111 ∨ j = 113 ∨ j = 115 ∨ j = 117) → ¬ SL 110 j 1 := fun j hj z => by
        rcases z with z | z
        · unfold Sp at z; omega
        · have := z.in; omega
      exact ⟨m2.sh a1, a2.mo m2 fun b k z1 z2 => z0 b k (by omega), a3, a4.mo m2 (zw _ (by decide)) (zw _ (by decide)) (zw _ (by decide)) (zw _ (by decide)), a5.mo m2 (z0 _ _ (by decide)) (z0 _ _ (by decide)) (z0 _ _ (by decide)) (z0 _ _ (by decide)), a6.mo m2 fun b k z1 z2 => z0 b k (by omega), a7.mo m2 (z0 _ _ (by decide)) fun b k z1 z2 => z0 b k (by omega), (m2.I (fun z => by unfold SL Sp Sr St at z; omega)).trans a8, (m2.I (fun z => by unfold SL Sp Sr St at z; omega)).trans a9⟩
    cases hg : g_load B E with
    | inl e =>
      rw [hg] at hr
      obtain ⟨s2, e2, m2, F2⟩ := hr
      have K2 := keep s2 m2
      obtain ⟨e, p⟩ := e
      refine ⟨a_setI s2 220 1 (nI 0), ?_, ((m1.mono fun b k z => by omega).tr (m2.mono fun b k z => by unfold SL Sp Sr St at z; omega)).then_set (by omega), K2.dis, a_I_at, F2.2.2⟩
      rw [e2, g_v, b_X7_load_31 K2.1, s_disc (by omega) K2.1, g_n, b_X7_load_39 K2.dis.1, if_pos (by decide), a_I_off (.inr (by decide)), F2.2.1]
      rfl
    | inr Y =>
      rw [hg] at hr
      obtain ⟨s2, e2, m2, F2, C2, V2⟩ := hr
      have K2 := (keep s2 m2).dis
      have C2' : CP (a_setI s2 220 1 (nI 0)) 110 Y := C2.mo (Mo.set (S := fun b k => b = 220) rfl) fun b k z1 z2 z3 => by omega
      obtain ⟨s3, e3, m3, C3⟩ := s_pcopy (P := P) (d := d - 1) (p := 101) H (by omega) (pa_101 K2.1) K2.2.1.wd C2' (by omega)
      have K3 : KC s3 Y hs sn := K2.upd m3 (fun b k z => z) C3 V2
      have m5 : Mo (fun b k => (b = 128 ∧ k = 2) ∨ (b = 100 ∧ k = 3)) s3 (a_setI (a_setI s3 128 2 (nI 0)) 100 3 (nI 0)) := (Mo.set (.inl ⟨rfl, rfl⟩)).then_set (.inr ⟨rfl, rfl⟩)
      obtain ⟨a1, a2, a3, a4, a5, a6, a7, a8, a9⟩ := K3
      have K5 : KC (a_setI (a_setI s3 128 2 (nI 0)) 100 3 (nI 0)) Y [] none := ⟨m5.sh a1, a2.mo m5 fun b k z1 z2 => by omega, a3, a4.mo m5 (by omega) (by omega) (by omega) (by omega), a5.mo m5 (by omega) (by omega) (by omega) (by omega), (a6.empty a1).mo (Mo.set (S := fun b k => b = 100) rfl) fun b k z1 z2 z3 => by omega, a_I_at, (m5.I (by omega)).trans a8, (m5.I (by omega)).trans a9⟩
      have mb : Mo (fun b _ => 100 ≤ b ∧ b < 235) s2 (a_setI (a_setI s3 128 2 (nI 0)) 100 3 (nI 0)) := ((Mo.set (S := fun b _ => 100 ≤ b ∧ b < 235) (by decide : (100 : Nat) ≤ 220 ∧ (220 : Nat) < 235)).tr (m3.mono fun b k z => by have := z.in; omega)).tr (m5.mono fun b k z => by omega)
      refine ⟨_, ?_, ((m1.mono fun b k z => by omega).tr (m2.mono fun b k z => by unfold SL Sp Sr St at z; omega)).tr mb, K5, ?_, ?_⟩
      · rw [e2, g_v, b_X7_load_31 (keep s2 m2).1, s_disc (by omega) (keep s2 m2).1, g_n, b_X7_load_39 K2.1, if_neg (by decide), e3, g_n, b_X7_load_65 a1, s_forgetAll (by omega) a1, g_n, b_X7_load_72 (Mo.sh (Mo.set (S := fun b k => b = 128) rfl) a1)]
        rw [show a_I (a_setI (a_setI s3 128 2 (nI 0)) 100 3 (nI 0)) 102 2 = nI (Y.1 0) from K5.2.1.2.1.2.2.1]
      · rw [m5.I (by omega), m3.I (fun z => by have := z.in; omega)]
        exact a_I_at
      · rw [m5.I (by omega), m3.I (fun z => by have := z.in; omega)]
        exact F2.2
  · rw [if_neg h1]
    show _ = _
    rw [n_X7_load (by omega), b_X7_load_0 K.1, s_rLenF H (by omega) K.1 b (by decide) (by rw [hE]; exact h1), g_x]
end TXT
