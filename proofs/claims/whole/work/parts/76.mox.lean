/-! the model: load -/
theorem b_refs_no : ∀ q ∈ b_refs, ¬ (q.1 = 237 ∧ q.2.1 = 4) := by decide +kernel
theorem Sh.setR {σ : aSt} (h : Sh σ) {v : Option Nat} : Sh (a_setR σ 237 4 v) := by
  refine ⟨h.1, fun q hq => ?_, h.2.2.1, h.2.2.2⟩
  rw [← h.2.1 q hq]
  exact if_neg (b_refs_no q hq)
theorem mo_setR {S : Nat → Nat → Prop} {σ τ : aSt} {w : Nat} (m : Mo S (a_setR σ 237 4 (some w)) τ) (hr : a_R σ 237 4 = some 238) : Mo S σ (a_setR τ 237 4 (some 238)) := by
  refine ⟨m.1, ?_, m.2.2⟩
  have h2 : τ.2.2 = (fun b j => if b = 237 ∧ j = 4 then some w else σ.2.2.1 b j, σ.2.2.2) := m.2.1
  show ((fun b j => if b = 237 ∧ j = 4 then some 238 else τ.2.2.1 b j), τ.2.2.2) = σ.2.2
  rw [h2]
  refine Prod.ext (funext fun b => funext fun j => ?_) rfl
  show (if b = 237 ∧ j = 4 then some 238 else if b = 237 ∧ j = 4 then some w else σ.2.2.1 b j) = σ.2.2.1 b j
  by_cases c : b = 237 ∧ j = 4
  · rw [if_pos c, c.1, c.2]
    exact hr.symm
  · rw [if_neg c, if_neg c]
section MOX3
variable {P : aCall} {d : Nat} {σ : aSt} {X : Pal} {w : Nat} {B : Nat → Nat} {E : Nat} {hs : List Pal} {sn : Option Pal} {x : Int32}
theorem y_load (H : Pm P) (hd : 13 ≤ d) (K : KM σ X hs sn) {n : Nat} (b : KBm σ n B) : OX (a_call a_tab P d 255 [.ref 237, .int x] σ) σ X hs sn (o_load X hs sn B n x) := by
  obtain ⟨E, rfl, hE⟩ := o_ex x
  have n9 := b.2.1
  have m6 : ∀ v, Mo (fun b k => b = 237 ∧ k = 6) σ (a_setI σ 237 6 v) := fun v => Mo.set ⟨rfl, rfl⟩
  have K0 := K.s6 (v := nI 0)
  unfold o_load
  rw [hE, n_X8_load (by omega), b_X8_load_0 K.1, a_I_off (.inr (by decide)), b.1, y_inR (by omega) (by decide) (by omega), g_v, b_X8_load_14 K0.1, hE]
  by_cases c1 : E ≤ min 900 n
  rotate_left
  · rw [if_neg c1, decide_eq_false (fun z => c1 (by have := z.2; omega)), if_pos (show b_n false = 0 by decide), y_raise (by omega) K0.1, g_v, b_X8_load_22]
    exact ⟨_, rfl, (m6 _).then_set ⟨rfl, rfl⟩, K0.s6, a_I_at⟩
  obtain ⟨s1, d1, m1, R1, -⟩ := y_startText (P := P) (d := d - 1) (B := B) (E := E) (by omega) K0.1 (by omega) (fun i hi => ⟨((m6 _).I (by omega)).trans (b.2.2 i (by omega)).1, (b.2.2 i (by omega)).2⟩)
  have K1 : KM s1 X hs sn := K0.xt m1 fun b k z => by omega
  have h0 : Sh (a_setR s1 237 4 (some 239)) := K1.1.setR
  have w0 : Rw (a_setR s1 237 4 (some 239)) 239 := ⟨(by show (if (237 : Nat) = 237 ∧ (4 : Nat) = 4 then some 239 else s1.2.2.1 237 4) = some 239; exact if_pos ⟨rfl, rfl⟩), sk_239 h0, by decide, sl_239 h0⟩
  obtain ⟨s2, d2, m2, P2, z2⟩ := y_begin (P := P) (d := d - 1) (by omega) h0 w0 (.inr rfl)
  have h2 := m2.sh h0
  have R2 : RS s2 B E (.inr 0) := RS.mo (σ := a_setR s1 237 4 (some 239)) R1 m2 (fun k _ _ => by omega) (fun k => by omega)
  obtain ⟨s3, d3, m3, R3⟩ := y_readAll (P := P) (d := d - 1) H (by omega) (s := s2) ⟨Mo.rf, h2, R2, ⟨m2.rw w0, by decide, .inr rfl, P2⟩, z_p0_vd, z2⟩
  have m13 : Mo (Sld 239) s1 (a_setR s3 237 4 (some 238)) := mo_setR ((m2.mono fun b k z => .inl z).tr m3) K1.2.1.1.1
  have K3 : KM (a_setR s3 237 4 (some 238)) X hs sn := K1.mo m13 fun b k z => by unfold Sld S31 S26 at z; unfold Kf; omega
  have mx : Mo Sxt σ (a_setR s3 237 4 (some 238)) := (((m6 (nI 0)).mono fun b k z => by unfold Sxt; omega).tr (m1.mono fun b k z => by unfold Sxt; omega)).tr (m13.mono fun b k z => by unfold Sld S31 S26 at z; unfold Sxt; omega)
  have f6 : a_I (a_setR s3 237 4 (some 238)) 237 6 = nI 0 := by rw [m13.I (by unfold Sld S31 S26; omega), m1.I (by omega)]; exact a_I_at
  rw [if_pos c1, decide_eq_true ⟨Nat.zero_le _, by omega⟩, if_neg (show ¬ b_n true = 0 by decide), d1, g_n, b_X8_load_28 K1.1, d2, g_n, b_X8_load_40 h2, d3, g_n, b_X8_load_44 (m3.sh h2)]
  cases hg : g_load B E with
  | inl e =>
    rw [hg] at R3
    have R4 : RS (a_setR s3 237 4 (some 238)) B E (.inl e) := R3
    obtain ⟨s5, d5, m5, f20, f27⟩ := y_finish (P := P) (d := d - 1) (by omega) K3.1 R4
    obtain ⟨e1, e2⟩ := R4.e25
    refine ⟨s5, ?_, mx.tr (m5.mono fun b k z => by unfold Sxt; omega), K3.xt m5 fun b k z => by omega, by rw [m5.I (by omega)]; exact f6, f20, f27⟩
    rw [d5, g_v, b_X8_load_56 (m5.sh K3.1)]
    (try dsimp only)
    rw [if_neg e2, show a_I s5 237 25 = nI e.1 from (m5.I (by omega)).trans e1]
    rfl
  | inr Y =>
    rw [hg] at R3
    obtain ⟨⟨q, R3⟩, P3, VY⟩ := R3
    have R4 : RS (a_setR s3 237 4 (some 238)) B E (.inr q) := R3
    obtain ⟨s5, d5, m5, f20, f27⟩ := y_finish (P := P) (d := d - 1) (by omega) K3.1 R4
    have K5 : KM s5 X hs sn := K3.xt m5 fun b k z => by omega
    have h5 := K5.1
    obtain ⟨s6, d6, m6', c6⟩ := y_copy (P := P) (d := d - 1) (i := 0) (j := 0) (by omega) (sk_239 h5) (sl_239 h5) (sk_238 h5) (sl_238 h5) (by decide) (by decide) (by decide) (by decide) (by decide) (.inl (by decide))
    have h6 := m6'.sh h5
    have m7 : Mo (fun b k => b = 238 ∨ (b = 237 ∧ (k = 5 ∨ k = 7))) s5 (a_setI (a_setI s6 237 5 (nI 0)) 237 7 (nI 0)) := ((m6'.mono fun b k z => .inl z.1).then_set (.inr ⟨rfl, .inl rfl⟩)).then_set (.inr ⟨rfl, .inr rfl⟩)
    have P7 : MP (a_I (a_setI (a_setI s6 237 5 (nI 0)) 237 7 (nI 0)) 238) Y := MP.eq VY P3 fun k hk => by
      rw [a_I_off (.inl (by decide)), a_I_off (.inl (by decide))]
      have := c6 k hk
      rw [show 720 * 0 + k = k by omega] at this
      rw [this, m5.I (by omega)]
      rfl
    refine ⟨_, ?_, (mx.tr (m5.mono fun b k z => by unfold Sxt; omega)).tr (m7.mono fun b k z => by unfold Sxt; omega), ⟨m7.sh h5, ⟨m7.rw K5.2.1.1, by decide, .inl rfl, P7⟩, VY, ⟨fun Z hZ => absurd hZ List.not_mem_nil, Nat.zero_le _, by rw [a_I_off (.inr (by decide))]; exact a_I_at, fun j Z hZ => by cases hZ⟩, a_I_at⟩, by rw [m7.I (by omega), m5.I (by omega)]; exact f6, by rw [m7.I (by omega)]; exact f20, by rw [m7.I (by omega)]; exact f27⟩
    rw [d5, g_v, b_X8_load_56 h5]
    (try dsimp only)
    rw [if_pos (show nI 0 = 0 from rfl), d6, g_n, b_X8_load_80 h6, b_gd_t (nIi (by decide) (by decide)), nIc (by decide), P7.1.1]
end MOX3
