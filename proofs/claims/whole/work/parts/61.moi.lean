/-! the model: undo, snapshots, and operations -/
section MOI
variable {P : aCall} {d : Nat} {σ : aSt} {X : Pal} {hs : List Pal} {sn : Option Pal} {x y z : Int32}
theorem KM.s6 (K : KM σ X hs sn) {v : Int32} : KM (a_setI σ 237 6 v) X hs sn := K.sm Mo.s6
def Sk2 (b k : Nat) : Prop := (237 ≤ b ∧ b ≤ 251) ∧ ¬ (b = 237 ∧ k = 6)
def Sm (b k : Nat) : Prop := (237 ≤ b ∧ b ≤ 251) ∧ b ≠ 246 ∧ b ≠ 247 ∧ ¬ (b = 237 ∧ (k = 18 ∨ k = 20 ∨ k = 27))
theorem SM.m (b k : Nat) (h : SM b k) : Sm b k := by unfold SM at h; unfold Sm; omega
theorem Sq.m (b k : Nat) (h : Sq b k) : Sm b k := by unfold Sq at h; unfold Sm; omega
theorem Yn.m (b k : Nat) (h : Yn b k) : Sm b k := by unfold Yn Sw at h; unfold Sm; omega
theorem Yr.m (b k : Nat) (h : Yr b k) : Sm b k := by unfold Yr at h; unfold Sm; omega
theorem Mo.m6 {σ : aSt} {v : Int32} : Mo Sm σ (a_setI σ 237 6 v) := Mo.set (by unfold Sm; omega)
/-- how an operation of the model ends -/
def OR (c : Option (aRes × aSt)) (σ : aSt) (X : Pal) (hs : List Pal) (sn : Option Pal) (r : Nat ⊕ (Int32 × Pal × List Pal)) : Prop := match r with
  | .inl x => ∃ σ', c = some (.inl (some (.int (nI 0))), σ') ∧ Mo Sm σ σ' ∧ KM σ' X hs sn ∧ a_I σ' 237 6 = nI (x + 1)
  | .inr q => ∃ σ', c = some (.inl (some (.int q.1)), σ') ∧ Mo Sm σ σ' ∧ KM σ' q.2.1 q.2.2 sn ∧ a_I σ' 237 6 = nI 0
def o_2 {A : Type} (r : Nat ⊕ A) : Nat ⊕ A := match r with | .inl _ => .inl 0 | .inr v => .inr v
theorem y_undoCount (hd : 1 ≤ d) (K : KM σ X hs sn) : a_call a_tab P d 220 [.ref 237] σ = some (.inl (some (.int (nI hs.length))), a_setI σ 237 6 (nI 0)) ∧ KM (a_setI σ 237 6 (nI 0)) X hs sn := by
  refine ⟨?_, K.s6⟩
  rw [n_X8_undoCount (by omega), b_X8_undoCount_0 K.1, a_I_off (.inr (by decide)), K.2.2.2.1.2.2.1]
theorem y_undo (hd : 2 ≤ d) (K : KM σ X hs sn) : match hs with
    | [] => ∃ σ', a_call a_tab P d 221 [.ref 237] σ = some (.inl (some (.int (-1))), σ') ∧ Mo Sm σ σ' ∧ KM σ' X [] sn
    | Y :: l => ∃ σ', a_call a_tab P d 221 [.ref 237] σ = some (.inl (some (.int (nI l.length))), σ') ∧ Mo Sm σ σ' ∧ KM σ' Y l sn := by
  obtain ⟨h, M, V, ⟨hV, hl, e5, hh⟩, hn⟩ := K.s6 (v := nI 0)
  have h0 := K.1
  cases hs with
  | nil =>
    refine ⟨a_setI σ 237 6 (nI 0), ?_, Mo.m6, K.s6⟩
    rw [n_X8_undo (by omega), b_X8_undo_0 h0, e5, if_pos (show nI ([] : List Pal).length = 0 from rfl)]
  | cons Y l =>
    have hl : l.length + 1 ≤ 10 := hl
    have e5 : a_I (a_setI σ 237 6 (nI 0)) 237 5 = nI (l.length + 1) := e5
    have m2 : Mo Yr (a_setI σ 237 6 (nI 0)) (a_setI (a_setI σ 237 6 (nI 0)) 237 5 (nI l.length)) := Mo.set (.inr ⟨rfl, rfl⟩)
    have h2 := m2.sh h
    obtain ⟨s1, e1, m1, c1⟩ := y_copy (P := P) (d := d - 1) (i := l.length) (j := 0) (by omega) (sk_241 h2) (sl_241 h2) (sk_238 h2) (sl_238 h2) (by decide) (by omega) (by decide) (by decide) (by decide) (.inl (by decide))
    have f5 : a_I s1 237 5 = nI l.length := by rw [m1.I (by omega)]; exact a_I_at
    have m3 : Mo (fun b k => b = 238 ∨ (b = 237 ∧ k = 5)) (a_setI σ 237 6 (nI 0)) s1 := (Mo.set (S := fun b k => b = 238 ∨ (b = 237 ∧ k = 5)) (.inr ⟨rfl, rfl⟩)).tr (m1.mono fun b k z => .inl z.1)
    have VY := hV Y List.mem_cons_self
    refine ⟨s1, ?_, Mo.m6.tr (m3.mono fun b k z => by unfold Sm; omega), m1.sh h2, ⟨m3.rw M.1, by decide, .inl rfl, ?_⟩, VY, ⟨fun Z hZ => hV Z (List.mem_cons_of_mem _ hZ), by omega, f5, fun j Z hZ => ?_⟩, hn.mo m3 (by omega) (fun k => by omega)⟩
    · rw [n_X8_undo (by omega), b_X8_undo_0 h0, e5, if_neg (fun z => by have := (o_eq0 (by omega)).mp z; omega), nI_s1, a_I_at, e1, g_n, b_X8_undo_40 (m1.sh h2), f5]
    · refine MP.eq VY (hh 0 Y rfl) fun k hk => ?_
      have := c1 k hk
      rw [show 720 * 0 + k = k by omega, a_I_off (.inl (by decide))] at this
      exact this
    · have hj : j < l.length := (List.getElem?_eq_some_iff.mp hZ).1
      refine MP.eq (hV Z (List.mem_cons_of_mem _ (List.mem_of_getElem? hZ))) (hh (j + 1) Z hZ) fun k hk => ?_
      show a_I s1 241 (720 * (l.length - 1 - j) + k) = a_I (a_setI σ 237 6 (nI 0)) 241 (720 * (l.length + 1 - 1 - (j + 1)) + k)
      rw [m3.I (by omega), show l.length + 1 - 1 - (j + 1) = l.length - 1 - j by omega]
theorem y_save (hd : 2 ≤ d) (K : KM σ X hs sn) : ∃ σ', a_call a_tab P d 222 [.ref 237] σ = some (.inl none, σ') ∧ Mo Sm σ σ' ∧ KM σ' X hs (some X) := by
  obtain ⟨h, M, V, H, hn⟩ := K.s6 (v := nI 0)
  obtain ⟨s1, e1, m1, c1⟩ := y_copy (P := P) (d := d - 1) (i := 0) (j := 0) (by omega) (sk_238 h) (sl_238 h) (sk_240 h) (sl_240 h) (by decide) (by decide) (by decide) (by decide) (by decide) (.inl (by decide))
  have m2 : Mo (fun b k => b = 240 ∨ (b = 237 ∧ k = 7)) (a_setI σ 237 6 (nI 0)) (a_setI s1 237 7 (nI 1)) := (m1.mono fun b k z => .inl z.1).then_set (.inr ⟨rfl, rfl⟩)
  refine ⟨a_setI s1 237 7 (nI 1), ?_, Mo.m6.tr (m2.mono fun b k z => by unfold Sm; omega), m2.sh h, M.mo m2 fun k z => by omega, V, H.mo m2 (by omega) (fun k => by omega), a_I_at, V, MP.eq V M.2.2.2 fun k hk => ?_⟩
  · rw [n_X8_saveSnapshot (by omega), b_X8_saveSnapshot_0 K.1]
    rw [e1, g_n, b_X8_saveSnapshot_18 (m1.sh h)]
  · have := c1 k hk
    rw [show 720 * 0 + k = k by omega] at this
    rw [a_I_off (.inl (by decide))]
    exact this
theorem y_restore (hd : 2 ≤ d) (K : KM σ X hs sn) : match sn with
    | none => ∃ σ', a_call a_tab P d 223 [.ref 237] σ = some (.inl (some (.int (nI 0))), σ') ∧ Mo Sm σ σ' ∧ KM σ' X hs none
    | some Y => ∃ σ', a_call a_tab P d 223 [.ref 237] σ = some (.inl (some (.int (nI 1))), σ') ∧ Mo Sm σ σ' ∧ KM σ' Y [] sn := by
  obtain ⟨h, M, V, H, hn⟩ := K.s6 (v := nI 0)
  cases sn with
  | none =>
    have hn : a_I (a_setI σ 237 6 (nI 0)) 237 7 = nI 0 := hn
    refine ⟨a_setI σ 237 6 (nI 0), ?_, Mo.m6, K.s6⟩
    rw [n_X8_restoreSnapshot (by omega), b_X8_restoreSnapshot_0 K.1, hn, if_pos (show nI 0 = 0 from rfl)]
  | some Y =>
    have hn7 : a_I (a_setI σ 237 6 (nI 0)) 237 7 = nI 1 := hn.1
    obtain ⟨s1, e1, m1, c1⟩ := y_copy (P := P) (d := d - 1) (i := 0) (j := 0) (by omega) (sk_240 h) (sl_240 h) (sk_238 h) (sl_238 h) (by decide) (by decide) (by decide) (by decide) (by decide) (.inl (by decide))
    have m2 : Mo (fun b k => b = 238 ∨ (b = 237 ∧ k = 5)) (a_setI σ 237 6 (nI 0)) (a_setI s1 237 5 (nI 0)) := (m1.mono fun b k z => .inl z.1).then_set (.inr ⟨rfl, rfl⟩)
    refine ⟨a_setI s1 237 5 (nI 0), ?_, Mo.m6.tr (m2.mono fun b k z => by unfold Sm; omega), m2.sh h, ⟨m2.rw M.1, by decide, .inl rfl, MP.eq hn.2.1 hn.2.2 fun k hk => ?_⟩, hn.2.1, ⟨fun Z hZ => absurd hZ List.not_mem_nil, by decide, a_I_at, fun j Z hZ => by cases hZ⟩, KN.mo (sn := some Y) hn m2 (by omega) (fun k => by omega)⟩
    · rw [n_X8_restoreSnapshot (by omega), b_X8_restoreSnapshot_0 K.1, hn7, if_neg (show ¬ nI 1 = 0 by decide), e1, g_n, b_X8_restoreSnapshot_27 (m1.sh h)]
    · have := c1 k hk
      rw [show 720 * 0 + k = k by omega] at this
      rw [a_I_off (.inl (by decide))]
      exact this
/-- one cell of the row's head -/
theorem MP.head {σ : aSt} (V : Vd X) (h : MP (a_I σ 238) X) {j v : Nat} (hj : j = 4 ∨ j = 5 ∨ j = 6) : MP (a_I (a_setI σ 238 (j - 1) (nI v)) 238) (z_cnt X j v) := by
  have v1 := V.1
  obtain ⟨⟨a0, a1, a2, a3, a4, a5, a6⟩, ht, hm, hb, hp⟩ := h
  have e : ∀ k, k ≠ j - 1 → a_I (a_setI σ 238 (j - 1) (nI v)) 238 k = a_I σ 238 k := fun k hk => a_I_off (.inr hk)
  have u1 := fun t (h : t < X.1 0) => MT.eq (F' := a_I (a_setI σ 238 (j - 1) (nI v)) 238) (ht t h) (V.lt h) fun k hk => e _ (by omega)
  have u2 := fun m (h : m < X.1 1) => MM.eq (F' := a_I (a_setI σ 238 (j - 1) (nI v)) 238) (hm m h) (V.lm h) (V.m h).2.1 fun k hk => e _ (by omega)
  have u3 := fun b (h : b < X.1 2) k (hk : k < 4) => (e (648 + 4 * b + k) (by omega)).trans (hb b h k hk)
  have u4 := fun g (h : g < X.1 3) k (hk : k < 4) => (e (672 + 4 * g + k) (by omega)).trans (hp g h k hk)
  rcases hj with rfl | rfl | rfl
  · exact ⟨⟨(e 0 (by decide)).trans a0, (e 1 (by decide)).trans a1, (e 2 (by decide)).trans a2, a_I_at, (e 4 (by decide)).trans a4, (e 5 (by decide)).trans a5, (e 6 (by decide)).trans a6⟩, u1, u2, u3, u4⟩
  · exact ⟨⟨(e 0 (by decide)).trans a0, (e 1 (by decide)).trans a1, (e 2 (by decide)).trans a2, (e 3 (by decide)).trans a3, a_I_at, (e 5 (by decide)).trans a5, (e 6 (by decide)).trans a6⟩, u1, u2, u3, u4⟩
  · exact ⟨⟨(e 0 (by decide)).trans a0, (e 1 (by decide)).trans a1, (e 2 (by decide)).trans a2, (e 3 (by decide)).trans a3, (e 4 (by decide)).trans a4, a_I_at, (e 6 (by decide)).trans a6⟩, u1, u2, u3, u4⟩
theorem Yr.n6 {σ σ' : aSt} (m : Mo Yr σ σ') : a_I σ' 237 6 = a_I σ 237 6 := m.I (by unfold Yr; omega)
theorem y_set (hd : 4 ≤ d) (K : KM σ X hs sn) {j v : Nat} (hj : j = 4 ∨ j = 5 ∨ j = 6) (V' : Vd (z_cnt X j v)) : ∃ σ', a_call a_tab P d 209 [.ref 237, .int (nI (j - 1)), .int (nI v)] σ = some (.inl (some (.int (nI (X.1 j)))), σ') ∧ Mo Sm σ σ' ∧ KM σ' (z_cnt X j v) (z_push X hs) sn ∧ a_I σ' 237 6 = a_I σ 237 6 := by
  obtain ⟨s1, e1, m1, K1⟩ := y_record (P := P) (d := d - 1) (by omega) K
  have m2 : Mo (fun b _ => b = 238) s1 (a_setI s1 238 (j - 1) (nI v)) := Mo.set rfl
  refine ⟨a_setI s1 238 (j - 1) (nI v), ?_, (m1.mono Yr.m).tr (m2.mono fun b k z => by unfold Sm; omega), K1.upd m2 (fun b k z => .inl z) (K1.2.1.2.2.2.head K1.2.2.1 hj) V', by rw [a_I_off (.inl (by decide)), Yr.n6 m1]⟩
  have e2 : a_I s1 238 (j - 1) = nI (X.1 j) := by
    rcases hj with rfl | rfl | rfl
    · exact K1.2.1.2.2.2.1.2.2.2.1
    · exact K1.2.1.2.2.2.1.2.2.2.2.1
    · exact K1.2.1.2.2.2.1.2.2.2.2.2.1
  rw [n_X8_set (by omega), b_X8_set_0 K.1, e1, g_n, b_X8_set_4 K1.1 K1.2.1.1, b_gd_t (nIi (by omega) (by decide)), b_gd_t (nIi (by omega) (by decide)), nIc (by omega), e2]
theorem y_change (hd : 5 ≤ d) (K : KM σ X hs sn) : OR (a_call a_tab P d 210 [.ref 237] σ) σ X hs sn (.inr (nI (X.1 6), z_cnt X 6 0, z_push X hs)) := by
  obtain ⟨s1, e1, m1, K1, e6⟩ := y_set (P := P) (d := d - 1) (j := 6) (v := 0) (by omega) (K.s6 (v := nI 0)) (.inr (.inr rfl)) (z_turb_vd K.2.2.1 (by decide))
  have e1 : a_call a_tab P (d - 1) 209 [.ref 237, .int (nI 5), .int (nI 0)] (a_setI σ 237 6 (nI 0)) = _ := e1
  refine ⟨s1, ?_, Mo.m6.tr m1, K1, by rw [e6]; exact a_I_at⟩
  rw [n_X8_change (by omega), b_X8_change_0 K.1, e1, g_v, b_X8_change_11]
theorem y_setMost (hd : 5 ≤ d) (K : KM σ X hs sn) : OR (a_call a_tab P d 212 [.ref 237, .int x] σ) σ X hs sn (o_2 (o_setMost X hs x)) := by
  obtain ⟨t, rfl, ht⟩ := o_ex x
  unfold o_setMost
  rw [ht, n_X8_setMost (by omega), b_X8_setMost_0, y_inR (by omega) (by decide) (by decide), g_v, b_X8_setMost_8, ht]
  by_cases c1 : 1 ≤ t ∧ t ≤ 6
  · obtain ⟨s1, e1, m1, K1, e6⟩ := y_set (P := P) (d := d - 1) (j := 4) (v := t) (by omega) (K.s6 (v := nI 0)) (.inl rfl) (z_most_vd K.2.2.1 c1.1 c1.2)
    have e1 : a_call a_tab P (d - 1) 209 [.ref 237, .int (nI 3), .int (nI t)] (a_setI σ 237 6 (nI 0)) = _ := e1
    rw [if_pos c1, decide_eq_true c1, if_neg (show ¬ b_n true = 0 by decide), b_X8_setMost_16 K.1, a_I_at, if_pos (show nI 0 = 0 from rfl), e1, g_v, b_X8_setMost_32, b_X8_setMost_36]
    exact ⟨s1, rfl, Mo.m6.tr m1, K1, by rw [e6]; exact a_I_at⟩
  · rw [if_neg c1, decide_eq_false c1, if_pos (show b_n false = 0 by decide), b_X8_setMost_16 K.1, a_I_at, if_neg (show ¬ nI 1 = 0 by decide), b_X8_setMost_36]
    exact ⟨_, rfl, Mo.m6, K.s6, a_I_at⟩
theorem y_setTolerance (hd : 5 ≤ d) (K : KM σ X hs sn) : OR (a_call a_tab P d 213 [.ref 237, .int x] σ) σ X hs sn (o_2 (o_setTol X hs x)) := by
  obtain ⟨t, rfl, ht⟩ := o_ex x
  unfold o_setTol
  rw [ht, n_X8_setTolerance (by omega), b_X8_setTolerance_0, y_inR (by omega) (by decide) (by decide), g_v, b_X8_setTolerance_8, ht, show decide (0 ≤ t ∧ t ≤ 99999) = decide (t ≤ 99999) from by
    by_cases h : t ≤ 99999
    · rw [decide_eq_true h, decide_eq_true ⟨Nat.zero_le _, h⟩]
    · rw [decide_eq_false h, decide_eq_false fun z => h z.2]]
  by_cases c1 : t ≤ 99999
  · obtain ⟨s1, e1, m1, K1, e6⟩ := y_set (P := P) (d := d - 1) (j := 5) (v := t) (by omega) (K.s6 (v := nI 0)) (.inr (.inl rfl)) (z_tol_vd K.2.2.1 c1)
    have e1 : a_call a_tab P (d - 1) 209 [.ref 237, .int (nI 4), .int (nI t)] (a_setI σ 237 6 (nI 0)) = _ := e1
    rw [if_pos c1, decide_eq_true c1, if_neg (show ¬ b_n true = 0 by decide), b_X8_setTolerance_16 K.1, a_I_at, if_pos (show nI 0 = 0 from rfl), e1, g_v, b_X8_setTolerance_32, b_X8_setTolerance_36]
    exact ⟨s1, rfl, Mo.m6.tr m1, K1, by rw [e6]; exact a_I_at⟩
  · rw [if_neg c1, decide_eq_false c1, if_pos (show b_n false = 0 by decide), b_X8_setTolerance_16 K.1, a_I_at, if_neg (show ¬ nI 1 = 0 by decide), b_X8_setTolerance_36]
    exact ⟨_, rfl, Mo.m6, K.s6, a_I_at⟩
end MOI
