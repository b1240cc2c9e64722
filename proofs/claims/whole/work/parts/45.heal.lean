/-! PaletteTubes: heal -/
theorem SR.mo {σ σ' : aSt} {X : Pal} {aim n : Nat} {s : Option Cnd} {S : Nat → Nat → Prop} (h : SR σ X aim s n) (m : Mo S σ σ') (h1 : ¬ S 229 10) (h2 : ∀ k, ¬ S 234 k) : SR σ' X aim s n := by
  cases s with
  | none => exact ⟨(m.I h1).trans h.1, fun j hj => (m.I (h2 j)).trans (h.2 j hj)⟩
  | some c =>
    obtain ⟨a1, a2, a3, a4, a5, a6, a7, a8⟩ := h
    exact ⟨a1, a2, (m.I h1).trans a3, (m.I (h2 _)).trans a4, (m.I (h2 _)).trans a5, (m.I (h2 _)).trans a6, (m.I (h2 _)).trans a7, fun i hi => ⟨(m.I (h2 _)).trans (a8 i hi).1, (m.I (h2 _)).trans (a8 i hi).2⟩⟩
def o_heal (X : Pal) (hs : List Pal) (x : Int32) : Nat ⊕ (Int32 × Pal × List Pal) := if o_nat x < X.1 1 then (if z_bro X (X.2 1 (o_nat x)) = true then (if z_inuse X = 0 then .inr (-3, X, hs) else if X.1 5 < z_lf X (z_col X (X.2 1 (o_nat x))) (z_near X (z_col X (X.2 1 (o_nat x))) 3) then .inr (-4, X, hs) else .inr (nI (z_lf X (z_col X (X.2 1 (o_nat x))) (z_near X (z_col X (X.2 1 (o_nat x))) 3)), z_hl X (o_nat x) ((z_near X (z_col X (X.2 1 (o_nat x))) 3).getD []), z_push X hs)) else .inr (-2, X, hs)) else .inl 0
section HEAL
variable {P : aCall} {d : Nat} {σ : aSt} {X : Pal} {hs : List Pal} {sn : Option Pal} {x y z : Int32}
theorem s_heal (H : Pm P) (hd : 7 ≤ d) (K : KC σ X hs sn) : OO (a_call a_tab P d 122 [.ref 100, .int x] σ) σ sn (o_heal X hs x) := by
  obtain ⟨m, rfl, hm⟩ := o_ex x
  unfold o_heal
  rw [hm]
  by_cases h1 : m < X.1 1
  · rw [if_pos h1]
    have e0 : a_call a_tab P d 122 [.ref 100, .int (nI m)] σ = b_R (a_call a_tab P (d - 1)) kX7_heal [] (13, [some (.ref 100), some (.int (nI m))], [.int (b_n (z_bro X (X.2 1 m)))], σ) := by
      rw [n_X7_heal (by omega), b_X7_heal_0 K.1, s_rMix (by omega) K.1 K.2.1 K.2.2.1 h1, g_n, b_X7_heal_5 K.1, s_isBroken (by omega) K.2.1 K.2.2.1 h1, g_v]
    rw [e0, b_X7_heal_13 K.1]
    cases z_bro X (X.2 1 m) with
    | false =>
      rw [if_pos (by decide), if_neg Bool.false_ne_true]
      exact ⟨σ, rfl, Mo.rf, K⟩
    | true =>
      have hu := z_inuse_le K.2.2.1
      rw [if_neg (by decide), if_pos rfl, s_tubesInUse (by omega) K.2.1 K.2.2.1, g_v, b_X7_heal_26 K.1]
      by_cases h2 : z_inuse X = 0
      · rw [if_pos h2, if_pos (by rw [h2]; rfl)]
        exact ⟨σ, rfl, Mo.rf, K⟩
      · have h8 := z_col_lt K.2.2.1 (K.2.2.1.m h1)
        obtain ⟨s1, e1, m1, -, R⟩ := s_run (P := P) (d := d - 1) (aim := z_col X (X.2 1 m)) (k := 3) H (by omega) K.1 (by decide) K.2.1 K.2.2.1 (by omega) (by decide)
        have K1 : KC s1 X hs sn := K.mo m1 fun b k z => by unfold Ss at z; unfold KP; omega
        rw [if_neg h2, if_neg (fun z => h2 ((o_eq0 (by omega)).mp z)), s_colourOf (by omega) K.2.1 K.2.2.1 (h := X.2 1) K.2.1.2.2.1 h1 (K.2.2.1.m h1), g_v, b_X7_heal_55 K.1, e1, g_n, b_X7_heal_59 K1.1, K1.2.1.2.2.2.2.2.2.1, R.lf]
        have hl := R.lf_le K.2.2.1
        have h5 := K.2.2.1.2.2.2.2.1
        by_cases h3 : X.1 5 < z_lf X (z_col X (X.2 1 m)) (z_near X (z_col X (X.2 1 m)) 3)
        · rw [if_pos h3, if_pos (nIl h3 (by omega))]
          exact ⟨s1, rfl, m1.mono fun b k z => z.so, K1⟩
        · rw [if_neg h3, if_neg (nIn (by omega) (by omega))]
          obtain ⟨s2, e2, m2, K2⟩ := s_rec (P := P) (d := d - 1) H (by omega) K1
          have R2 := R.mo m2 (by unfold S8; omega) (fun k => by unfold S8; omega)
          rw [e2, g_n, b_X7_heal_90 K2.1]
          have hva : ∀ c, z_near X (z_col X (X.2 1 m)) 3 = some c → z_ok X c → Va (X.1 0) c ∧ 0 < c.length := fun c hc hk => ⟨z_near_va hk hc, hk.1⟩
          revert h3 R2 hva
          cases z_near X (z_col X (X.2 1 m)) 3 with
          | none =>
            intro h3 R2 hva
            exact absurd (show X.1 5 < 1000000 by omega) h3
          | some c =>
            intro h3 R2 hva
            obtain ⟨A, h0⟩ := hva c rfl R2.1
            obtain ⟨s3, e3, m3, T3⟩ := s_writeTo (P := P) (d := d - 1) (by omega) K2.1 R2 K2.2.1.2.2.1 h1 (.inl (by decide))
            have hS : ∀ b k, (b = 101 + 4 ∨ (b = 101 + 3 ∧ k = 2)) → Sp 101 b k := fun b k z => by unfold Sp; omega
            have m3' : Mo (fun b k => b = 101 + 4 ∨ (b = 101 + 3 ∧ k = 2)) s2 s3 := m3.mono fun b k z => .inl z
            have C3 : CP s3 101 (z_hl X m c) := K2.2.1.up1 m3' (T3.congr fun r hr k hk => by
              (try dsimp only)
              by_cases h : r = m
              · subst h
                rw [if_pos rfl, if_pos rfl]
                unfold z_hrow
                split
                · rfl
                · split
                  · rfl
                  · split
                    · rfl
                    · rfl
              · rw [if_neg h, if_neg h]
                rfl)
            refine ⟨s3, ?_, ((m1.mono fun b k z => z.so).tr (m2.mono fun b k z => z.so)).tr (m3'.mono fun b k z => (hS b k z).so), K2.upd m3' hS C3 (z_hl_vd K.2.2.1 A h0)⟩
            rw [show a_call a_tab P (d - 1) 66 [.ref 229, .ref 104, .int (nI m)] s2 = _ from e3, g_n, b_X7_heal_105 (m3.sh K2.1), m3.I (by decide), R2.lf]
  · rw [if_neg h1]
    show _ = _
    rw [n_X7_heal (by omega), b_X7_heal_0 K.1, s_rMixF (by omega) K.1 K.2.1 K.2.2.1 (by rw [hm]; exact h1), g_x]
end HEAL
