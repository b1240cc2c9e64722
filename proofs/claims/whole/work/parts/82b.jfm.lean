/-! both sides together: format -/
section JFM
variable {P : aCall} {d : Nat} {S T : Nat → Nat → Prop} {σ σ' σ'' : aSt} {X : Pal} {hs : List Pal} {sn : Option Pal} {n : Nat} {B : Nat → Nat} {U : Nat × (Nat → Nat)} {x : Int32}
theorem E0.j (e : E0 σ σ') {b k : Nat} (h1 : b < 253) (h2 : b ≠ 235) (h3 : b ≠ 236) : a_I σ' b k = a_I σ b k := ((e b h1 h2 h3).2 k).1
theorem E0.km (e : E0 σ σ') (h : Sh σ') (K : KM σ X hs sn) : KM σ' X hs sn := by
  obtain ⟨k1, ⟨⟨r1, r2, r3, r4⟩, w1, w2, w3⟩, k3, k4, k5⟩ := K
  have f8 : a_I σ' 238 = a_I σ 238 := funext fun k => e.j (by decide) (by decide) (by decide)
  have f1 : a_I σ' 241 = a_I σ 241 := funext fun k => e.j (by decide) (by decide) (by decide)
  have f0 : a_I σ' 240 = a_I σ 240 := funext fun k => e.j (by decide) (by decide) (by decide)
  have g8 := (e 238 (by decide) (by decide) (by decide)).1
  refine ⟨h, ⟨⟨((e 237 (by decide) (by decide) (by decide)).2 4).2.trans r1, ?_, r3, ?_⟩, w1, w2, ?_⟩, k3, ?_, ?_⟩
  · unfold a_kd at *; rw [g8]; exact r2
  · unfold a_ln at *; rw [g8]; exact r4
  · rw [f8]; exact w3
  · obtain ⟨a1, a2, a3, a4⟩ := k4
    refine ⟨a1, a2, (e.j (by decide) (by decide) (by decide)).trans a3, ?_⟩
    rw [f1]
    exact a4
  · cases sn with
    | none => exact (e.j (by decide) (by decide) (by decide)).trans k5
    | some Y =>
      obtain ⟨b1, b2, b3⟩ := k5
      refine ⟨(e.j (by decide) (by decide) (by decide)).trans b1, b2, ?_⟩
      rw [f0]
      exact b3
theorem E0.kb (e : E0 σ σ') (K : KB σ n B) : KB σ' n B := ⟨(e.j (by decide) (by decide) (by decide)).trans K.1, K.2.1, fun i hi => ⟨(e.j (by decide) (by decide) (by decide)).trans (K.2.2 i hi).1, (K.2.2 i hi).2⟩⟩
theorem E0.kbm (e : E0 σ σ') (K : KBm σ n B) : KBm σ' n B := ⟨(e.j (by decide) (by decide) (by decide)).trans K.1, K.2.1, fun i hi => ⟨(e.j (by decide) (by decide) (by decide)).trans (K.2.2 i hi).1, (K.2.2 i hi).2⟩⟩
theorem E0.fm (e : E0 σ σ') (K : Fm σ U) : Fm σ' U := ⟨(e.j (by decide) (by decide) (by decide)).trans K.1, K.2.1, fun i hi => (e.j (by decide) (by decide) (by decide)).trans (K.2.2 i hi)⟩
theorem Mz.rf : Mz S σ σ := ⟨rfl, rfl, Nat.le_refl _, fun _ _ _ => rfl⟩
/-- the class side is as it stands, the model's cells change -/
theorem JV.sg {V : Nat × (Nat → Nat)} (J : JV σ X hs sn n B U) (b : Sb σ V.1 V.2) (m : Mz Sgf σ σ') (K2 : KM σ' X hs sn) (F2 : Fm σ' V) : JV σ' X hs sn n B V := by
  obtain ⟨j1, j2, j3, j4, j5, j6, j7⟩ := J
  refine ⟨j1.z m fun b k z => by unfold Sgf Sm Sf at z; unfold KP; omega, K2, j3.z m fun b k z => by unfold Sgf Sm Sf at z; unfold S1; omega, j4.z m fun b k z => by unfold Sgf Sm Sf at z; unfold Sb1; omega, b.z m fun b k z => by unfold Sgf Sm Sf at z; omega, F2, ?_⟩
  rw [m.I (by unfold Sgf Sm Sf; omega), m.I (by unfold Sgf Sm Sf; omega)]
  exact j7
theorem JV.op2 (J : JV σ X hs sn n B U) {Y : Pal} {hs' : List Pal} {sn' : Option Pal} (m1 : Mz SO σ σ') (K1 : KC σ' Y hs' sn') (m2 : Mz Sm σ' σ'') (K2 : KM σ'' Y hs' sn') : JV σ'' Y hs' sn' n B U := by
  obtain ⟨j1, j2, j3, j4, j5, j6, j7⟩ := J
  refine ⟨K1.z m2 fun b k z => by unfold Sm at z; unfold KP; omega, K2, (j3.z m1 fun b k z => by unfold SO at z; unfold S1; omega).z m2 fun b k z => by unfold Sm at z; unfold S1; omega, (j4.z m1 fun b k z => by unfold SO at z; unfold Sb1; omega).z m2 fun b k z => by unfold Sm at z; unfold Sb1; omega, (j5.z m1 fun b k z => by unfold SO at z; omega).z m2 fun b k z => by unfold Sm at z; omega, (j6.z m1 fun b k z => by unfold SO at z; unfold Sf; omega).z m2 fun b k z => by unfold Sm at z; unfold Sf; omega, ?_⟩
  rw [m2.I (by unfold Sm; omega), m2.I (by unfold Sm; omega), m1.I (by unfold SO; omega), m1.I (by unfold SO; omega)]
  exact j7
theorem ol_format {e : Nat} (h : o_format X U x = .inl e) : e = 0 := by
  unfold o_format at h
  split at h
  · cases h
  · cases h; rfl
theorem PK.f (H : Pm P) (hd : 7 ≤ d) (J : JV σ X hs sn n B U) : PK P d σ (a_call a_tab P (d - 1) 95 [.ref 100, .int x] σ) 216 [.ref 237, .int x] (fun x => x = 0) (fun _ => 1) := by
  have hc := s_format (x := x) (P := P) (d := d - 1) H (by omega) J.1 J.2.2.2.2.1
  cases hr : o_format X U x with
  | inl e =>
    rw [hr] at hc
    have m0 : Mz Hz σ (a_name (a_made σ)) := Mz.made.tr Mz.name
    have J0 := J.hz m0
    have hm := y_format (x := x) (P := P) (d := d) (by omega) J0.2.1 J0.2.2.2.2.2.1
    rw [hr] at hm
    obtain ⟨τ2, v, e2, m2, K2, F2, f2⟩ := hm
    have mm : Mz (fun b k => Hz b k ∨ Sgf b k) σ τ2 := (m0.mono fun b k z => .inl z).tr (m2.z.mono fun b k z => .inr z)
    refine .inl ⟨e, τ2, v, ol_format hr, hc, e2, f2, ⟨X, hs, sn, n, B, U, J0.sg J0.2.2.2.2.1 m2.z K2 F2⟩, GR.of mm ?_ fun k => by unfold Hz SM Sgf Sm Sf; omega⟩
    obtain ⟨c1, c2⟩ := m2.cz
    rw [c1, c2]
    show a_uc σ + 1 ≤ a_uc σ + 60 ∧ a_us σ + 6 ≤ a_us σ + 6120
    omega
  | inr q =>
    rw [hr] at hc
    obtain ⟨τ1, e1, m1, K1, B1⟩ := hc
    have E := m1.1
    obtain ⟨j1, j2, j3, j4, j5, j6, j7⟩ := J
    have m0 : Mz (fun _ _ => False) τ1 (a_setL τ1 252 0 (Int32.toInt64 q.1)) := Mz.setL
    have hm := y_format (x := x) (P := P) (d := d) (by omega) ((E.km K1.1 j2).z m0 fun b k z => z.elim) ((E.fm j6).z m0 fun b k z => z.elim)
    rw [hr] at hm
    obtain ⟨τ2, e2, m2, K2, F2, f2⟩ := hm
    have m12 : Mz Sgf τ1 τ2 := (m0.mono fun b k z => z.elim).tr m2.z
    have hz : ∀ k, ¬ Sgf 0 k := fun k => by unfold Sgf Sm Sf; omega
    refine .inr ⟨q.1, τ1, τ2, e1, K1.1, ⟨fun k => E.j (by decide) (by decide) (by decide), (E 0 (by decide) (by decide) (by decide)).1⟩, e2, f2, by rw [m2.L]; exact a_L_at, ⟨X, hs, sn, n, B, q.2, K1.z m12 fun b k z => by unfold Sgf Sm Sf at z; unfold KP; omega, K2, (E.kb j3).z m12 fun b k z => by unfold Sgf Sm Sf at z; unfold S1; omega, (E.kbm j4).z m12 fun b k z => by unfold Sgf Sm Sf at z; unfold Sb1; omega, B1.z m12 fun b k z => by unfold Sgf Sm Sf at z; omega, F2, ?_⟩, fun k => (m12.I (hz k)).trans (E.j (by decide) (by decide) (by decide)), ?_, ?_⟩
    · rw [m12.I (by unfold Sgf Sm Sf; omega), m12.I (by unfold Sgf Sm Sf; omega), E.j (by decide) (by decide) (by decide), E.j (by decide) (by decide) (by decide)]
      exact j7
    · rw [m12.1]
      exact (E 0 (by decide) (by decide) (by decide)).1
    · obtain ⟨c1, c2⟩ := m2.cz
      have u1 := m1.2.2.2.2.1
      have u2 := m1.2.2.2.2.2
      rw [c1, c2]
      show a_uc τ1 ≤ a_uc σ + 60 ∧ a_us τ1 ≤ a_us σ + 6120
      omega
end JFM
