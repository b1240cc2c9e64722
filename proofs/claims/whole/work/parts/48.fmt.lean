/-! PaletteTubes: the formatted text -/
def E0 (σ σ' : aSt) : Prop := ∀ b, b < 253 → b ≠ 235 → b ≠ 236 → σ'.1 b = σ.1 b ∧ ∀ k, a_I σ' b k = a_I σ b k ∧ a_R σ' b k = a_R σ b k
section E0S
variable {σ σ' : aSt} {X : Pal} {hs : List Pal} {sn : Option Pal}
theorem Ms.e0 (m : Ms σ σ') : E0 σ σ' := fun b h1 h2 h3 => ⟨(m.1 b h1 h3).1, (m.1 b h1 h3).2 h2⟩
theorem E0.tb (e : E0 σ σ') {t c N : Nat} (ht : t < 235) (hc : c < 235) (H : Tb σ t c N) : Tb σ' t c N := by
  unfold Tb a_kd a_ln at *
  rw [(e t (by omega) (by omega) (by omega)).1, (e c (by omega) (by omega) (by omega)).1, ((e t (by omega) (by omega) (by omega)).2 _).2]
  exact H
theorem E0.tv (e : E0 σ σ') {t c w N n : Nat} {f : Nat → Nat → Int32} (ht : t < 235) (hc : c < 235) (T : Tv σ t c w N n f) : Tv σ' t c w N n f := by
  obtain ⟨a1, a2, a3, a4, a5, a6, a7⟩ := T
  have et := fun k => ((e t (by omega) (by omega) (by omega)).2 k).1
  exact ⟨e.tb ht hc a1, (et 1).trans a2, (et 2).trans a3, a4, a5, a6, fun r hr k hk => (((e c (by omega) (by omega) (by omega)).2 _).1).trans (a7 r hr k hk)⟩
theorem E0.pa (e : E0 σ σ') {p : Nat} (hp : p + 8 < 235) (H : Pa σ p) : Pa σ' p := by
  obtain ⟨h1, h2, h3, h4, h5, h6, h7, h8, h9, h10⟩ := H
  have er := fun k => ((e p (by omega) (by omega) (by omega)).2 k).2
  exact ⟨by unfold a_kd at *; rw [(e p (by omega) (by omega) (by omega)).1]; exact h1, h2, (er _).trans h3, (er _).trans h4, (er _).trans h5, (er _).trans h6, e.tb (by omega) (by omega) h7, e.tb (by omega) (by omega) h8, e.tb (by omega) (by omega) h9, e.tb (by omega) (by omega) h10⟩
theorem E0.cp (e : E0 σ σ') {p : Nat} (hp : p + 8 < 235) (C : CP σ p X) : CP σ' p X := by
  obtain ⟨h1, h2, h3, h4, h5, h6, h7, h8⟩ := C
  have ei := fun k => ((e p (by omega) (by omega) (by omega)).2 k).1
  exact ⟨e.pa hp h1, e.tv (by omega) (by omega) h2, e.tv (by omega) (by omega) h3, e.tv (by omega) (by omega) h4, e.tv (by omega) (by omega) h5, (ei _).trans h6, (ei _).trans h7, (ei _).trans h8⟩
theorem E0.i (e : E0 σ σ') {b k : Nat} (hb : b < 235) : a_I σ' b k = a_I σ b k := ((e b (by omega) (by omega) (by omega)).2 k).1
theorem E0.wd (e : E0 σ σ') {p : Nat} (hp : p + 8 < 235) (W : Wd σ p) : Wd σ' p := ⟨(e.i (by omega)).trans W.1, (e.i (by omega)).trans W.2.1, (e.i (by omega)).trans W.2.2.1, (e.i (by omega)).trans W.2.2.2⟩
theorem E0.kc (e : E0 σ σ') (h : Sh σ') (K : KC σ X hs sn) : KC σ' X hs sn := by
  obtain ⟨a1, a2, a3, a4, a5, ⟨W, V, l, i, hi, e1, e2, C⟩, a7, a8, a9⟩ := K
  refine ⟨h, e.cp (by decide) a2, a3, e.wd (by decide) a4, e.wd (by decide) a5, ⟨fun i hi => e.wd (by unfold z_sl; omega) (W i hi), V, l, i, hi, (e.i (by decide)).trans e1, (e.i (by decide)).trans e2, fun j Y hj => e.cp (by unfold z_sl; omega) (C j Y hj)⟩, ?_, (e.i (by decide)).trans a8, (e.i (by decide)).trans a9⟩
  cases sn with
  | none => exact (e.i (by decide)).trans a7
  | some Y => exact ⟨(e.i (by decide)).trans a7.1, e.cp (by decide) a7.2.1, a7.2.2⟩
end E0S
theorem Ms.sh {σ σ' : aSt} (m : Ms σ σ') (h : Sh σ) : Sh σ' := by
  refine ⟨fun q hq => ?_, fun q hq => ?_, Nat.le_trans h.2.2.1 m.2.2.2.1, fun s h1 h2 => ?_⟩
  · have := (by decide +kernel : ∀ q ∈ b_lay, q.1 < 253 ∧ q.1 ≠ 236) q hq
    exact (m.1 q.1 this.1 this.2).1.trans (h.1 q hq)
  · have := (by decide +kernel : ∀ q ∈ b_refs, q.1 < 253 ∧ q.1 ≠ 236 ∧ q.1 ≠ 235) q hq
    exact ((m.1 q.1 this.1 this.2.1).2 this.2.2 _).2.trans (h.2.1 q hq)
  · unfold a_kd
    rw [(m.1 s (by omega) (by omega)).1]
    exact h.2.2.2 s h1 h2
/-- what k calls of the text builder leave as it was -/
def Mk (k : Nat) (σ σ' : aSt) : Prop := E0 σ σ' ∧ (∀ b, b < 253 → b ≠ 236 → σ'.1 b = σ.1 b) ∧ (∀ b j, a_L σ' b j = a_L σ b j) ∧ a_n σ ≤ a_n σ' ∧ a_uc σ' ≤ a_uc σ + k ∧ a_us σ' ≤ a_us σ + 102 * k
theorem Mk.rf {k : Nat} {σ : aSt} : Mk k σ σ := ⟨fun b _ _ _ => ⟨rfl, fun k => ⟨rfl, rfl⟩⟩, fun _ _ _ => rfl, fun _ _ => rfl, Nat.le_refl _, Nat.le_add_right _ _, Nat.le_add_right _ _⟩
theorem Ms.mk {σ σ' : aSt} (m : Ms σ σ') : Mk 1 σ σ' := ⟨m.e0, fun b h1 h2 => (m.1 b h1 h2).1, m.2.2.1, m.2.2.2.1, m.2.2.2.2.1, m.2.2.2.2.2⟩
theorem Mk.tr {k j : Nat} {σ σ' σ'' : aSt} (m : Mk k σ σ') (m' : Mk j σ' σ'') : Mk (k + j) σ σ'' := ⟨fun b h1 h2 h3 => ⟨(m'.1 b h1 h2 h3).1.trans (m.1 b h1 h2 h3).1, fun i => ⟨((m'.1 b h1 h2 h3).2 i).1.trans ((m.1 b h1 h2 h3).2 i).1, ((m'.1 b h1 h2 h3).2 i).2.trans ((m.1 b h1 h2 h3).2 i).2⟩⟩, fun b h1 h2 => (m'.2.1 b h1 h2).trans (m.2.1 b h1 h2), fun b i => (m'.2.2.1 b i).trans (m.2.2.1 b i), Nat.le_trans m.2.2.2.1 m'.2.2.2.1, by have := m.2.2.2.2.1; have := m'.2.2.2.2.1; omega, by have := m.2.2.2.2.2; have := m'.2.2.2.2.2; omega⟩
theorem Mk.mono {k j : Nat} {σ σ' : aSt} (m : Mk k σ σ') (h : k ≤ j) : Mk j σ σ' := ⟨m.1, m.2.1, m.2.2.1, m.2.2.2.1, by have := m.2.2.2.2.1; omega, by have := m.2.2.2.2.2; omega⟩
theorem Sb.congr {σ : aSt} {n : Nat} {f g : Nat → Nat} (h : Sb σ n f) (e : ∀ j, j < n → f j = g j) : Sb σ n g := by
  obtain ⟨b, m, a1, a2, a3, a4, a5, a6, a7, a8, a9, a10, a11⟩ := h
  exact ⟨b, m, a1, a2, a3, a4, a5, a6, a7, a8, a9, a10, fun j hj => by rw [← e j hj]; exact a11 j hj⟩
def z_ap1 (s : Nat × (Nat → Nat)) (c : Nat) : Nat × (Nat → Nat) := (s.1 + 1, fun j => if j = s.1 then c else s.2 j)
def z_apl (g : Nat → Nat) (i : Nat) (s : Nat × (Nat → Nat)) : Nat × (Nat → Nat) := if g i = 0 then s else z_ap1 s (g i)
def z_apn (g : Nat → Nat) (s : Nat × (Nat → Nat)) : Nat × (Nat → Nat) := q_fold (z_apl g) 8 0 s
section FMT
variable {P : aCall} {d : Nat} {σ : aSt} {X : Pal} {hs : List Pal} {sn : Option Pal} {x : Int32}
theorem s_apc (H : Pm P) (h : Sh σ) {S : Nat × (Nat → Nat)} (B : Sb σ S.1 S.2) {c : Nat} (hc : c < 128) (hn : S.1 < 50) : ∃ σ', a_call a_tab P d 1011 [.ref 235, .int (nI c)] σ = some (.inl (some (.ref 235)), σ') ∧ Mk 1 σ σ' ∧ Sh σ' ∧ Sb σ' (z_ap1 S c).1 (z_ap1 S c).2 := by
  obtain ⟨σ', e, B', m⟩ := H.2.2.2.2.2.2.2.2.2.2.1 σ S.1 S.2 c h B hc hn
  exact ⟨σ', (cl_P rfl).trans e, m.mk, m.sh h, B'⟩
theorem s_apd (H : Pm P) (h : Sh σ) {S : Nat × (Nat → Nat)} (B : Sb σ S.1 S.2) {v : Nat} (hv : v < 10) (hn : S.1 < 50) : ∃ σ', a_call a_tab P d 1012 [.ref 235, .int (nI v)] σ = some (.inl (some (.ref 235)), σ') ∧ Mk 1 σ σ' ∧ Sh σ' ∧ Sb σ' (z_ap1 S (48 + v)).1 (z_ap1 S (48 + v)).2 := by
  obtain ⟨σ', e, B', m⟩ := H.2.2.2.2.2.2.2.2.2.2.2.1 σ S.1 S.2 v h B hv hn
  exact ⟨σ', (cl_P rfl).trans e, m.mk, m.sh h, B'⟩
theorem s_appendName (H : Pm P) (hd : 2 ≤ d) {t c w N n r : Nat} {f : Nat → Nat → Int32} {g : Nat → Nat} (ht : t < 235) (hc : c < 235) (hr : r < n) (hw : 8 ≤ w) (hf : ∀ k, k < 8 → f r k = nI (g k)) (hv : Vn g) (h : Sh σ) (T : Tv σ t c w N n f) {S : Nat × (Nat → Nat)} (B : Sb σ S.1 S.2) (hS : S.1 ≤ 42) :
    ∃ σ', a_call a_tab P d 96 [.ref 100, .ref t, .int (nI r)] σ = some (.inl none, σ') ∧ Mk 8 σ σ' ∧ Sh σ' ∧ Sb σ' (z_apn g S).1 (z_apn g S).2 ∧ (z_apn g S).1 ≤ S.1 + 8 := by
  have hl : ∀ k, k < 8 → g k ≤ 122 := fun k hk => by
    obtain ⟨l, -, -, h1, h2⟩ := hv
    by_cases hkl : k < l
    · exact (h1 k hkl).2
    · rw [h2 k (by omega) hk]
      decide
  have loop : ∀ k i (S : Nat × (Nat → Nat)) σ o4, i + k = 8 → Sh σ → Tv σ t c w N n f → Sb σ S.1 S.2 → S.1 + k ≤ 50 → ∃ σ', b_R (a_call a_tab P (d - 1)) kX7_appendName [] (2, [some (.ref 100), some (.ref t), some (.int (nI r)), some (.int (nI i)), o4], [], σ) = some (.inl none, σ') ∧ Mk k σ σ' ∧ Sh σ' ∧ Sb σ' (q_fold (z_apl g) k i S).1 (q_fold (z_apl g) k i S).2 ∧ (q_fold (z_apl g) k i S).1 ≤ S.1 + k := by
    intro k
    induction k with
    | zero =>
      intro i S σ o4 hi h T B hS
      refine ⟨σ, ?_, Mk.rf, h, B, Nat.le_refl _⟩
      rw [b_X7_appendName_2 T.1, if_neg (nIn (by omega) (by omega))]
    | succ k ih =>
      intro i S σ o4 hi h T B hS
      have hi8 : i < 8 := by omega
      have hg := hl i hi8
      rw [b_X7_appendName_2 T.1, if_pos (nIl hi8 (by decide)), s_get (by omega) T hr (by omega), g_v, hf i hi8, b_X7_appendName_14 h]
      show ∃ σ', _ ∧ _ ∧ _ ∧ Sb σ' (q_fold (z_apl g) k (i + 1) (z_apl g i S)).1 (q_fold (z_apl g) k (i + 1) (z_apl g i S)).2 ∧ (q_fold (z_apl g) k (i + 1) (z_apl g i S)).1 ≤ _
      by_cases h0 : g i = 0
      · have ez : z_apl g i S = S := if_pos h0
        rw [if_pos (by rw [h0]; rfl), b_X7_appendName_32, nI_add, ez]
        obtain ⟨σ', e, m, h', B', hn⟩ := ih (i + 1) S σ _ (by omega) h T B (by omega)
        exact ⟨σ', e, m.mono (by omega), h', B', by omega⟩
      · have ez : z_apl g i S = z_ap1 S (g i) := if_neg h0
        have ec : ∀ m, m < 123 → ((nI m).toUInt32 % 65536).toInt32 = nI m := by decide +kernel
        obtain ⟨s1, e1, m1, h1, B1⟩ := s_apc (P := P) (d := d - 1) H h B (c := g i) (by omega) (by omega)
        rw [if_neg (fun z => h0 ((o_eq0 (by omega)).mp z)), ec _ (by omega), e1, g_v, b_X7_appendName_31, b_X7_appendName_32, nI_add, ez]
        obtain ⟨σ', e, m, h', B', hn⟩ := ih (i + 1) (z_ap1 S (g i)) s1 _ (by omega) h1 (m1.1.tv ht hc T) B1 (by show S.1 + 1 + k ≤ 50; omega)
        exact ⟨σ', e, (m1.tr m).mono (by omega), h', B', by have : (z_ap1 S (g i)).1 = S.1 + 1 := rfl; omega⟩
  rw [n_X7_appendName (by omega), b_X7_appendName_0]
  exact loop 8 0 S σ none rfl h T B (by omega)
def z_fpt (X : Pal) (g : Nat → Nat) (i : Nat) (s : Nat × (Nat → Nat)) : Nat × (Nat → Nat) := z_apn (X.2 0 (g (9 + i))) (z_ap1 (if 0 < i then z_ap1 s 43 else s) (48 + g (13 + i)))
def z_fm (X : Pal) (m : Nat) : Nat × (Nat → Nat) := q_fold (z_fpt X (X.2 1 m)) (X.2 1 m 8) 0 (z_ap1 (z_apn (X.2 1 m) (0, fun _ => 0)) 61)
def z_fmt (X : Pal) (m : Nat) : Nat × (Nat → Nat) := if z_bro X (X.2 1 m) = true then z_ap1 (z_fm X m) 33 else z_fm X m
def o_format (X : Pal) (S : Nat × (Nat → Nat)) (x : Int32) : Nat ⊕ (Int32 × (Nat × (Nat → Nat))) := if o_nat x < X.1 1 then .inr (nI (z_fmt X (o_nat x)).1, z_fmt X (o_nat x)) else .inl 0
theorem s_format (H : Pm P) (hd : 6 ≤ d) (K : KC σ X hs sn) {S : Nat × (Nat → Nat)} (B : Sb σ S.1 S.2) : match o_format X S x with
    | .inl e => a_call a_tab P d 95 [.ref 100, .int x] σ = some (.inr e, a_made σ)
    | .inr q => ∃ σ', a_call a_tab P d 95 [.ref 100, .int x] σ = some (.inl (some (.int q.1)), σ') ∧ Mk 60 σ σ' ∧ KC σ' X hs sn ∧ Sb σ' q.2.1 q.2.2 := by
  obtain ⟨m, rfl, hm⟩ := o_ex x
  unfold o_format
  rw [hm]
  by_cases h1 : m < X.1 1
  · rw [if_pos h1]
    (try dsimp only)
    have V := K.2.2.1
    have M := V.m h1
    obtain ⟨s0, e0, B0, m0⟩ := H.2.2.2.2.2.2.2.2.2.1 σ S.1 S.2 K.1 B
    have h0 := m0.sh K.1
    have B0' : Sb s0 ((0, fun _ => 0) : Nat × (Nat → Nat)).1 ((0, fun _ => 0) : Nat × (Nat → Nat)).2 := B0.congr fun j hj => absurd hj (Nat.not_lt_zero j)
    have C0 : CP s0 101 X := m0.e0.cp (by decide) K.2.1
    obtain ⟨s1, e1, m1, k1, B1, n1⟩ := s_appendName (P := P) (d := d - 1) H (by omega) (t := 104) (c := 105) (by decide) (by decide) h1 (by decide) (g := X.2 1 m) (fun k _ => rfl) (V.2.2.2.2.2.2.2.1 m h1).1 h0 C0.2.2.1 B0' (by decide)
    obtain ⟨s2, e2, m2, k2, B2⟩ := s_apc (P := P) (d := d - 1) H k1 B1 (c := 61) (by decide) (by omega)
    have C2 : CP s2 101 X := (m1.tr m2).1.cp (by decide) C0
    have e0' : a_call a_tab P (d - 1) 1015 [.ref 235, .int (nI 0)] σ = some (.inl none, s0) := (cl_P rfl).trans e0
    have g8 := M.2.1
    have start : a_call a_tab P d 95 [.ref 100, .int (nI m)] σ = b_R (a_call a_tab P (d - 1)) kX7_format [] (51, [some (.ref 100), some (.int (nI m)), some (.int (nI (X.2 1 m 8))), some (.int (nI 0))], [], s2) := by
      rw [n_X7_format (by omega), b_X7_format_0 K.1, s_rMix (by omega) K.1 K.2.1 V h1, g_n, b_X7_format_5 K.1, e0', g_n, b_X7_format_13 h0, e1, g_n, b_X7_format_25 k1, e2, g_v, b_X7_format_34 k2, show a_call a_tab P (d - 1) 1 [.ref 104, .int (nI m), .int (nI 8)] s2 = _ from s_get (by omega) C2.2.2.1 h1 (by decide), g_v, b_X7_format_48]
      rfl
    have hn2 : (z_ap1 (z_apn (X.2 1 m) (0, fun _ => 0)) 61).1 ≤ 9 := by
      have : (z_ap1 (z_apn (X.2 1 m) (0, fun _ => 0)) 61).1 = (z_apn (X.2 1 m) (0, fun _ => 0)).1 + 1 := rfl
      have n1 : (z_apn (X.2 1 m) (0, fun _ => 0)).1 ≤ 0 + 8 := n1
      omega
    have loop : ∀ k i (S : Nat × (Nat → Nat)) σ, i + k = X.2 1 m 8 → Sh σ → CP σ 101 X → Sb σ S.1 S.2 → S.1 + 10 * k ≤ 49 → ∃ σ', b_R (a_call a_tab P (d - 1)) kX7_format [] (51, [some (.ref 100), some (.int (nI m)), some (.int (nI (X.2 1 m 8))), some (.int (nI i))], [], σ) = b_R (a_call a_tab P (d - 1)) kX7_format [] (51, [some (.ref 100), some (.int (nI m)), some (.int (nI (X.2 1 m 8))), some (.int (nI (X.2 1 m 8)))], [], σ') ∧ Mk (10 * k) σ σ' ∧ Sh σ' ∧ CP σ' 101 X ∧ Sb σ' (q_fold (z_fpt X (X.2 1 m)) k i S).1 (q_fold (z_fpt X (X.2 1 m)) k i S).2 ∧ (q_fold (z_fpt X (X.2 1 m)) k i S).1 ≤ 49 := by
      intro k
      induction k with
      | zero =>
        intro i S σ hi h C B hS
        obtain rfl : i = X.2 1 m 8 := by omega
        exact ⟨σ, rfl, Mk.rf, h, C, B, by show S.1 ≤ 49; omega⟩
      | succ k ih =>
        intro i S σ hi h C B hS
        have hi2 : i < X.2 1 m 8 := by omega
        have hp := M.2.2.1 i hi2
        -- the plus
        have plus : ∃ s1, b_R (a_call a_tab P (d - 1)) kX7_format [] (51, [some (.ref 100), some (.int (nI m)), some (.int (nI (X.2 1 m 8))), some (.int (nI i))], [], σ) = b_R (a_call a_tab P (d - 1)) kX7_format [] (70, [some (.ref 100), some (.int (nI m)), some (.int (nI (X.2 1 m 8))), some (.int (nI i))], [], s1) ∧ Mk 1 σ s1 ∧ Sh s1 ∧ Sb s1 (if 0 < i then z_ap1 S 43 else S).1 (if 0 < i then z_ap1 S 43 else S).2 ∧ (if 0 < i then z_ap1 S 43 else S).1 ≤ S.1 + 1 := by
          rw [b_X7_format_51 h, if_pos (nIl hi2 (by omega))]
          by_cases hz : 0 < i
          · obtain ⟨s1, e1, m1, k1, B1⟩ := s_apc (P := P) (d := d - 1) H h B (c := 43) (by decide) (by omega)
            rw [if_pos (show (0 : Int32) < nI i from nIl hz (by omega)), e1, g_v, b_X7_format_69, if_pos hz]
            exact ⟨s1, rfl, m1, k1, B1, Nat.le_refl _⟩
          · rw [if_neg (show ¬ (0 : Int32) < nI i from nIn (by omega) (by decide)), if_neg hz]
            exact ⟨σ, rfl, Mk.rf, h, B, by omega⟩
        obtain ⟨s1, e1, m1, k1, B1, n1⟩ := plus
        have C1 : CP s1 101 X := m1.1.cp (by decide) C
        obtain ⟨s2, e2, m2, k2, B2⟩ := s_apd (P := P) (d := d - 1) H k1 B1 (v := X.2 1 m (13 + i)) (by omega) (by omega)
        have C2 : CP s2 101 X := m2.1.cp (by decide) C1
        have n2 : (z_ap1 (if 0 < i then z_ap1 S 43 else S) (48 + X.2 1 m (13 + i))).1 = (if 0 < i then z_ap1 S 43 else S).1 + 1 := rfl
        obtain ⟨s3, e3, m3, k3, B3, n3⟩ := s_appendName (P := P) (d := d - 1) H (by omega) (t := 102) (c := 103) (by decide) (by decide) hp.1 (by decide) (g := X.2 0 (X.2 1 m (9 + i))) (fun k _ => rfl) (V.2.2.2.2.2.2.1 _ hp.1).1 k2 C2.2.1 B2 (by omega)
        have C3 : CP s3 101 X := m3.1.cp (by decide) C2
        obtain ⟨s4, e4, m4, k4, C4, B4, n4⟩ := ih (i + 1) (z_fpt X (X.2 1 m) i S) s3 (by omega) k3 C3 B3 (by unfold z_fpt; omega)
        refine ⟨s4, ?_, (((m1.tr m2).tr m3).tr m4).mono (by omega), k4, C4, B4, n4⟩
        rw [e1, b_X7_format_70 k1, nI_add, show a_call a_tab P (d - 1) 1 [.ref 104, .int (nI m), .int (nI (13 + i))] s1 = _ from s_get (by omega) C1.2.2.1 h1 (by omega), g_v, tv, b_X7_format_89, e2, g_v, b_X7_format_92 k2, nI_add, show a_call a_tab P (d - 1) 1 [.ref 104, .int (nI m), .int (nI (9 + i))] s2 = _ from s_get (by omega) C2.2.2.1 h1 (by omega), g_v, tv, b_X7_format_116 k2, e3, g_n, b_X7_format_119, nI_add, e4]
    obtain ⟨s3, e3, m3, k3, C3, B3, n3⟩ := loop (X.2 1 m 8) 0 _ s2 (by omega) k2 C2 B2 (by omega)
    have ma : Mk 50 σ s3 := (((m0.mk.tr m1).tr m2).tr m3).mono (by omega)
    have fin : ∀ s4 T, Mk 1 s3 s4 → Sh s4 → Sb s4 T.1 T.2 → z_fmt X m = T → ∃ σ', b_R (a_call a_tab P (d - 1)) kX7_format [] (146, [some (.ref 100), some (.int (nI m)), some (.int (nI (X.2 1 m 8))), some (.int (nI (X.2 1 m 8)))], [], s4) = some (.inl (some (.int (nI (z_fmt X m).1))), σ') ∧ Mk 60 σ σ' ∧ KC σ' X hs sn ∧ Sb σ' (z_fmt X m).1 (z_fmt X m).2 := by
      intro s4 T m4 k4 B4 hT
      have mb : Mk 60 σ s4 := (ma.tr m4).mono (by omega)
      refine ⟨s4, ?_, mb, mb.1.kc k4 K, by rw [hT]; exact B4⟩
      rw [b_X7_format_146 k4, show a_call a_tab P (d - 1) 1013 [.ref 235] s4 = _ from (cl_P rfl).trans (H.2.2.2.2.2.2.2.2.2.2.2.2.1 s4 T.1 T.2 k4 B4), g_v, b_X7_format_153, hT]
    rw [start, e3, b_X7_format_51 k3, if_neg (nIn (Nat.le_refl _) (by omega)), s_isBroken (by omega) C3 V h1, g_v, b_X7_format_133 k3]
    cases hz : z_bro X (X.2 1 m) with
    | false =>
      rw [if_pos (by decide)]
      exact fin s3 (z_fm X m) Mk.rf k3 B3 (by unfold z_fmt; rw [hz]; rfl)
    | true =>
      obtain ⟨s4, e4, m4, k4, B4⟩ := s_apc (P := P) (d := d - 1) H k3 B3 (c := 33) (by decide) (by omega)
      rw [if_neg (by decide), e4, g_v, b_X7_format_145]
      exact fin s4 _ m4 k4 B4 (by unfold z_fmt; rw [hz]; rfl)
  · rw [if_neg h1]
    (try dsimp only)
    rw [n_X7_format (by omega), b_X7_format_0 K.1, s_rMixF (by omega) K.1 K.2.1 K.2.2.1 (by rw [hm]; exact h1), g_x]
theorem s_formattedByte (H : Pm P) (hd : 1 ≤ d) (h : Sh σ) {S : Nat × (Nat → Nat)} (B : Sb σ S.1 S.2) : a_call a_tab P d 97 [.ref 100, .int x] σ = some (.inl (some (.int (if o_nat x < S.1 then nI (S.2 (o_nat x)) else -1))), σ) := by
  obtain ⟨i, rfl, hi⟩ := o_ex x
  have hn : S.1 ≤ 102 := by
    obtain ⟨b, m, a1, a2, a3, a4, a5, a6, a7, a8, -⟩ := B
    omega
  have e3 : a_call a_tab P (d - 1) 1013 [.ref 235] σ = some (.inl (some (.int (nI S.1))), σ) := (cl_P rfl).trans (H.2.2.2.2.2.2.2.2.2.2.2.2.1 σ S.1 S.2 h B)
  rw [n_X7_formattedByte (by omega), b_X7_formattedByte_0 h, e3, g_v, b_X7_formattedByte_12 h, hi, b_X7_formattedByte_26, b_X7_formattedByte_27]
  by_cases h0 : nI i < 0
  · rw [if_pos h0, if_neg (by rw [o_neg, hi] at h0; omega)]
  · rw [if_neg h0]
    by_cases h1 : i < S.1
    · rw [if_pos (nIl h1 (by omega)), if_pos h1, show a_call a_tab P (d - 1) 1014 [.ref 235, .int (nI i)] σ = _ from (cl_P rfl).trans (H.2.2.2.2.2.2.2.2.2.2.2.2.2 σ S.1 S.2 i h B h1), g_v, b_X7_formattedByte_23, b_X7_formattedByte_27]
    · rw [if_neg (fun z => by rw [o_lt _ (by omega), hi] at z; rw [o_neg, hi] at h0; omega), if_neg h1]
end FMT
