/-! PaletteTubes: what stands between two calls: the palette, the snapshot, the history -/
def KP (b k : Nat) : Prop := 220 ≤ b ∧ ¬ (b = 224 ∧ k = 1) ∧ ¬ (b = 227 ∧ k = 1)
def SN (σ : aSt) (sn : Option Pal) : Prop := match sn with
  | none => a_I σ 100 3 = nI 0
  | some Y => a_I σ 100 3 = nI 1 ∧ CP σ 119 Y ∧ Vd Y
def HR (σ : aSt) (hs : List Pal) : Prop := (∀ i, i < 10 → Wd σ (z_sl i)) ∧ (∀ Y, Y ∈ hs → Vd Y) ∧ hs.length ≤ 10 ∧ ∃ i, i < 10 ∧ a_I σ 128 1 = nI i ∧ a_I σ 128 2 = nI hs.length ∧ ∀ j Y, hs[j]? = some Y → CP σ (z_sl ((i + 9 - j) % 10)) Y
def KC (σ : aSt) (X : Pal) (hs : List Pal) (sn : Option Pal) : Prop := Sh σ ∧ CP σ 101 X ∧ Vd X ∧ Wd σ 110 ∧ Wd σ 119 ∧ HR σ hs ∧ SN σ sn ∧ Wt σ ∧ a_I σ 227 1 = nI 8
section INV
variable {σ σ' : aSt} {X Y : Pal} {hs : List Pal} {sn : Option Pal} {S : Nat → Nat → Prop}
theorem SN.mo (h : SN σ sn) (m : Mo S σ σ') (h1 : ¬ S 100 3) (h2 : ∀ b k, 119 ≤ b → b ≤ 127 → ¬ S b k) : SN σ' sn := by
  cases sn with
  | none => exact (m.I h1).trans h
  | some Y => exact ⟨(m.I h1).trans h.1, h.2.1.mo m fun b k z1 z2 => h2 b k z1 (by omega), h.2.2⟩
theorem HR.mo (h : HR σ hs) (m : Mo S σ σ') (h1 : ∀ b k, 128 ≤ b → b ≤ 219 → ¬ S b k) : HR σ' hs := by
  obtain ⟨W, V, l, i, hi, e1, e2, C⟩ := h
  refine ⟨fun i hi => (W i hi).mo m (h1 _ _ (by unfold z_sl; omega) (by unfold z_sl; omega)) (h1 _ _ (by unfold z_sl; omega) (by unfold z_sl; omega)) (h1 _ _ (by unfold z_sl; omega) (by unfold z_sl; omega)) (h1 _ _ (by unfold z_sl; omega) (by unfold z_sl; omega)), V, l, i, hi, (m.I (h1 _ _ (by decide) (by decide))).trans e1, (m.I (h1 _ _ (by decide) (by decide))).trans e2, fun j Y hj => (C j Y hj).mo m fun b k z1 z2 => ?_⟩
  have : (i + 9 - j) % 10 < 10 := Nat.mod_lt _ (by decide)
  unfold z_sl at z1 z2
  exact h1 b k (by omega) (by omega)
theorem KC.mo (h : KC σ X hs sn) (m : Mo S σ σ') (hS : ∀ b k, S b k → KP b k) : KC σ' X hs sn := by
  obtain ⟨a1, a2, a3, a4, a5, a6, a7, a8, a9⟩ := h
  have z0 : ∀ b k, b < 220 → ¬ S b k := fun b k hb z => by have := hS b k z; unfold KP at this; omega
  exact ⟨m.sh a1, a2.mo m fun b k z1 z2 => z0 b k (by omega), a3, a4.mo m (z0 _ _ (by decide)) (z0 _ _ (by decide)) (z0 _ _ (by decide)) (z0 _ _ (by decide)), a5.mo m (z0 _ _ (by decide)) (z0 _ _ (by decide)) (z0 _ _ (by decide)) (z0 _ _ (by decide)), a6.mo m fun b k z1 z2 => z0 b k (by omega), a7.mo m (z0 _ _ (by decide)) fun b k z1 z2 => z0 b k (by omega), (m.I fun z => (hS _ _ z).2.1 ⟨rfl, rfl⟩).trans a8, (m.I fun z => (hS _ _ z).2.2 ⟨rfl, rfl⟩).trans a9⟩
/-- the current palette is written anew -/
theorem KC.upd (h : KC σ X hs sn) (m : Mo S σ σ') (hS : ∀ b k, S b k → Sp 101 b k) (C : CP σ' 101 Y) (V : Vd Y) : KC σ' Y hs sn := by
  obtain ⟨a1, a2, a3, a4, a5, a6, a7, a8, a9⟩ := h
  have z0 : ∀ b k, 109 < b ∨ b < 101 → ¬ S b k := fun b k hb z => by have := (hS b k z).in; omega
  exact ⟨m.sh a1, C, V, a4.mo m (z0 _ _ (by decide)) (z0 _ _ (by decide)) (z0 _ _ (by decide)) (z0 _ _ (by decide)), a5.mo m (z0 _ _ (by decide)) (z0 _ _ (by decide)) (z0 _ _ (by decide)) (z0 _ _ (by decide)), a6.mo m fun b k z1 z2 => z0 b k (by omega), a7.mo m (z0 _ _ (by decide)) fun b k z1 z2 => z0 b k (by omega), (m.I (z0 _ _ (by decide))).trans a8, (m.I (z0 _ _ (by decide))).trans a9⟩
end INV
def S8 (b _k : Nat) : Prop := 128 ≤ b ∧ b ≤ 219
section INW
variable {P : aCall} {d : Nat} {σ : aSt} {X : Pal} {hs : List Pal} {sn : Option Pal}
theorem s_rec (H : Pm P) (hd : 3 ≤ d) (K : KC σ X hs sn) : ∃ σ', a_call a_tab P d 55 [.ref 128, .ref 101] σ = some (.inl none, σ') ∧ Mo S8 σ σ' ∧ KC σ' X ((X :: hs).take 10) sn := by
  obtain ⟨a1, a2, a3, a4, a5, ⟨W, V, l, i, hi, e1, e2, C⟩, a7, a8, a9⟩ := K
  obtain ⟨σ', e, m, C', f1, f2⟩ := s_record (P := P) (d := d) H hd a1 a2 hi l (W i hi) e1 e2
  have hk : ∀ b k, Sk i b k → S8 b k := fun b k z => by
    unfold S8
    rcases z with z | z
    · have := z.in; unfold z_sl at this; omega
    · omega
  have m8 : Mo S8 σ σ' := m.mono hk
  have z0 : ∀ b k, b < 128 ∨ 219 < b → ¬ S8 b k := fun b k hb z => by unfold S8 at z; omega
  refine ⟨σ', e, m8, m8.sh a1, a2.mo m8 fun b k z1 z2 => z0 b k (by omega), a3, a4.mo m8 (z0 _ _ (by decide)) (z0 _ _ (by decide)) (z0 _ _ (by decide)) (z0 _ _ (by decide)), a5.mo m8 (z0 _ _ (by decide)) (z0 _ _ (by decide)) (z0 _ _ (by decide)) (z0 _ _ (by decide)), ⟨fun j hj => ?_, fun Y hY => ?_, ?_, (i + 1) % 10, Nat.mod_lt _ (by decide), f1, ?_, fun j Y hY => ?_⟩, a7.mo m8 (z0 _ _ (by decide)) fun b k z1 z2 => z0 b k (by omega), (m8.I (z0 _ _ (by decide))).trans a8, (m8.I (z0 _ _ (by decide))).trans a9⟩
  · by_cases h : j = i
    · subst h
      exact C'.wd
    · have z : ∀ b k, z_sl j ≤ b → b ≤ z_sl j + 8 → ¬ Sk i b k := fun b k z1 z2 z => by
        unfold z_sl at z1 z2
        rcases z with z | z
        · have := z.in; unfold z_sl at this; omega
        · omega
      exact (W j hj).mo m (z _ _ (by omega) (by omega)) (z _ _ (by omega) (by omega)) (z _ _ (by omega) (by omega)) (z _ _ (by omega) (by omega))
  · rcases List.mem_cons.mp (List.mem_of_mem_take hY) with rfl | h
    · exact a3
    · exact V Y h
  · rw [List.length_take]
    omega
  · rw [f2, List.length_take, List.length_cons]
  · rw [List.getElem?_take] at hY
    split at hY
    · rename_i hj
      cases j with
      | zero =>
        cases hY
        rw [show ((i + 1) % 10 + 9 - 0) % 10 = i by omega]
        exact C'
      | succ j =>
        have hY : hs[j]? = some Y := hY
        rw [show ((i + 1) % 10 + 9 - (j + 1)) % 10 = (i + 9 - j) % 10 by omega]
        refine (C j Y hY).mo m fun b k z1 z2 z => ?_
        have : (i + 9 - j) % 10 ≠ i := by omega
        have : (i + 9 - j) % 10 < 10 := Nat.mod_lt _ (by decide)
        unfold z_sl at z1 z2
        rcases z with z | z
        · have := z.in; unfold z_sl at this; omega
        · omega
    · cases hY
def S9u (b k : Nat) : Prop := Sp 101 b k ∨ (b = 128 ∧ (k = 1 ∨ k = 2))
theorem s_undo (H : Pm P) (hd : 4 ≤ d) (K : KC σ X hs sn) : match hs with
    | [] => a_call a_tab P d 130 [.ref 100] σ = some (.inl (some (.int (-1))), σ)
    | Y :: l => ∃ σ', a_call a_tab P d 130 [.ref 100] σ = some (.inl (some (.int (nI l.length))), σ') ∧ Mo S9u σ σ' ∧ KC σ' Y l sn := by
  obtain ⟨a1, a2, a3, a4, a5, ⟨W, V, l, i, hi, e1, e2, C⟩, a7, a8, a9⟩ := K
  rw [n_X7_undo (by omega), b_X7_undo_0 a1]
  cases hs with
  | nil =>
    rcases s_stepBack (P := P) (d := d - 1) (X := X) H (by omega) a1 a2.wd hi (n := 0) (by omega) (fun z => absurd z (Nat.lt_irrefl 0)) e1 e2 with ⟨-, e⟩ | ⟨z, -⟩
    · (try dsimp only)
      rw [e, g_v, b_X7_undo_11 a1, if_pos (by decide), b_X7_undo_25]
    · exact absurd z (Nat.lt_irrefl 0)
  | cons Y hs =>
    have l : hs.length + 1 ≤ 10 := l
    rcases s_stepBack (P := P) (d := d - 1) (X := Y) H (by omega) a1 a2.wd hi (n := hs.length + 1) l (fun z => C 0 Y rfl) e1 e2 with ⟨z, -⟩ | ⟨-, σ', e, m, C', f1, f2⟩
    · exact absurd z (by omega)
    · have z0 : ∀ b k, 109 < b ∨ b < 101 → b ≠ 128 → ¬ S9u b k := fun b k hb hb2 z => by
        rcases z with z | z
        · have := z.in; omega
        · omega
      have f3 : a_I σ' 128 2 = nI hs.length := f2
      refine ⟨σ', ?_, m, m.sh a1, C', V Y (List.mem_cons_self ..), a4.mo m (z0 _ _ (by decide) (by decide)) (z0 _ _ (by decide) (by decide)) (z0 _ _ (by decide) (by decide)) (z0 _ _ (by decide) (by decide)), a5.mo m (z0 _ _ (by decide) (by decide)) (z0 _ _ (by decide) (by decide)) (z0 _ _ (by decide) (by decide)) (z0 _ _ (by decide) (by decide)), ⟨fun j hj => ?_, fun Z hZ => V Z (List.mem_cons_of_mem _ hZ), by omega, (i + 9) % 10, Nat.mod_lt _ (by decide), f1, f3, fun j Z hZ => ?_⟩, a7.mo m (z0 _ _ (by decide) (by decide)) fun b k z1 z2 => z0 b k (by omega) (by omega), (m.I (z0 _ _ (by decide) (by decide))).trans a8, (m.I (z0 _ _ (by decide) (by decide))).trans a9⟩
      · rw [e, g_v, b_X7_undo_11 (m.sh a1), if_neg (by decide), b_X7_undo_25, f3]
      · have hz : 130 ≤ z_sl j := by unfold z_sl; omega
        exact (W j hj).mo m (z0 _ _ (by omega) (by omega)) (z0 _ _ (by omega) (by omega)) (z0 _ _ (by omega) (by omega)) (z0 _ _ (by omega) (by omega))
      · have hj : j < hs.length := (List.getElem?_eq_some_iff.mp hZ).1
        rw [show ((i + 9) % 10 + 9 - j) % 10 = (i + 9 - (j + 1)) % 10 by omega]
        have hz : 130 ≤ z_sl ((i + 9 - (j + 1)) % 10) := by unfold z_sl; omega
        exact (C (j + 1) Z hZ).mo m fun b k z1 z2 => z0 b k (by omega) (by omega)
theorem s_save (H : Pm P) (hd : 4 ≤ d) (K : KC σ X hs sn) : ∃ σ', a_call a_tab P d 131 [.ref 100] σ = some (.inl none, σ') ∧ Mo (fun b k => Sp 119 b k ∨ (b = 100 ∧ k = 3)) σ σ' ∧ KC σ' X hs (some X) := by
  obtain ⟨a1, a2, a3, a4, a5, a6, a7, a8, a9⟩ := K
  obtain ⟨s1, e, m, C⟩ := s_pcopy (P := P) (d := d - 1) (p := 119) H (by omega) (pa_119 a1) a5 a2 (by omega)
  have m2 : Mo (fun b k => Sp 119 b k ∨ (b = 100 ∧ k = 3)) σ (a_setI s1 100 3 (nI 1)) := (m.mono fun b k z => .inl z).then_set (.inr ⟨rfl, rfl⟩)
  have z0 : ∀ b k, 127 < b ∨ (b < 119 ∧ b ≠ 100) → ¬ (Sp 119 b k ∨ (b = 100 ∧ k = 3)) := fun b k hb z => by
    rcases z with z | z
    · have := z.in; omega
    · omega
  have C2 : CP (a_setI s1 100 3 (nI 1)) 119 X := C.mo (Mo.set (S := fun b k => b = 100) rfl) fun b k z1 z2 z3 => by omega
  refine ⟨_, ?_, m2, m2.sh a1, a2.mo m2 fun b k z1 z2 => z0 b k (by omega), a3, a4.mo m2 (z0 _ _ (by decide)) (z0 _ _ (by decide)) (z0 _ _ (by decide)) (z0 _ _ (by decide)), C2.wd, a6.mo m2 fun b k z1 z2 => z0 b k (by omega), ⟨a_I_at, C2, a3⟩, (m2.I (z0 _ _ (by decide))).trans a8, (m2.I (z0 _ _ (by decide))).trans a9⟩
  rw [n_X7_saveSnapshot (by omega), b_X7_saveSnapshot_0 a1, e, g_n, b_X7_saveSnapshot_11 (m.sh a1)]
theorem HR.empty (h : HR σ hs) (h1 : Sh σ) : HR (a_setI σ 128 2 (nI 0)) [] := by
  obtain ⟨W, V, l, i, hi, e1, e2, C⟩ := h
  have m : Mo (fun b k => b = 128 ∧ k = 2) σ (a_setI σ 128 2 (nI 0)) := Mo.set ⟨rfl, rfl⟩
  exact ⟨fun j hj => (W j hj).mo m (by unfold z_sl; omega) (by unfold z_sl; omega) (by unfold z_sl; omega) (by unfold z_sl; omega), fun Y hY => absurd hY (List.not_mem_nil), by decide, i, hi, (m.I (by omega)).trans e1, a_I_at, fun j Y hY => by cases hY⟩
theorem s_restore (H : Pm P) (hd : 4 ≤ d) (K : KC σ X hs sn) : match sn with
    | none => a_call a_tab P d 132 [.ref 100] σ = some (.inl (some (.int (nI 0))), σ)
    | some Y => ∃ σ', a_call a_tab P d 132 [.ref 100] σ = some (.inl (some (.int (nI 1))), σ') ∧ Mo S9u σ σ' ∧ KC σ' Y [] sn := by
  obtain ⟨a1, a2, a3, a4, a5, a6, a7, a8, a9⟩ := K
  rw [n_X7_restoreSnapshot (by omega), b_X7_restoreSnapshot_0 a1]
  cases sn with
  | none =>
    have a7 : a_I σ 100 3 = nI 0 := a7
    (try dsimp only)
    rw [a7, if_pos (by decide)]
  | some Y =>
    obtain ⟨s1, e, m, C⟩ := s_pcopy (P := P) (d := d - 1) (p := 101) H (by omega) (pa_101 a1) a2.wd a7.2.1 (by omega)
    have m2 : Mo S9u σ (a_setI s1 128 2 (nI 0)) := (m.mono fun b k z => .inl z).then_set (.inr ⟨rfl, .inr rfl⟩)
    have z0 : ∀ b k, 109 < b ∨ b < 101 → b ≠ 128 → ¬ S9u b k := fun b k hb hb2 z => by
      rcases z with z | z
      · have := z.in; omega
      · omega
    have C2 : CP (a_setI s1 128 2 (nI 0)) 101 Y := C.mo (Mo.set (S := fun b k => b = 128) rfl) fun b k z1 z2 z3 => by omega
    have a7' := a7.1
    refine ⟨_, ?_, m2, m2.sh a1, C2, a7.2.2, a4.mo m2 (z0 _ _ (by decide) (by decide)) (z0 _ _ (by decide) (by decide)) (z0 _ _ (by decide) (by decide)) (z0 _ _ (by decide) (by decide)), a5.mo m2 (z0 _ _ (by decide) (by decide)) (z0 _ _ (by decide) (by decide)) (z0 _ _ (by decide) (by decide)) (z0 _ _ (by decide) (by decide)), (a6.mo m fun b k z1 z2 z => by have := z.in; omega).empty (m.sh a1), a7.mo m2 (z0 _ _ (by decide) (by decide)) fun b k z1 z2 => z0 b k (by omega) (by omega), (m2.I (z0 _ _ (by decide) (by decide))).trans a8, (m2.I (z0 _ _ (by decide) (by decide))).trans a9⟩
    (try dsimp only)
    rw [a7', if_neg (by decide), e, g_n, b_X7_restoreSnapshot_20 (m.sh a1), s_forgetAll (by omega) (m.sh a1), g_n, b_X7_restoreSnapshot_27]
end INW
