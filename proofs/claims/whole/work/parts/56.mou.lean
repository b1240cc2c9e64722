/-! the model: closest, twins, the quotients; the search -/
theorem up_sq {S O R : Type} {J : S → aSt → Prop} {run : Nat → S → O → aSt → R} {F : Nat → S → S} {lo n : Nat} (h : ∀ i s o τ, lo ≤ i → i < n → J s τ → ∃ o' τ', J (F i s) τ' ∧ run i s o τ = run (i + 1) (F i s) o' τ') : ∀ k i s o τ, lo ≤ i → i + k = n → J s τ → ∃ o' τ', J (q_fold F k i s) τ' ∧ run i s o τ = run n (q_fold F k i s) o' τ'
  | 0, i, s, o, τ, _, e, hJ => by
    obtain rfl : i = n := by omega
    exact ⟨o, τ, hJ, rfl⟩
  | k + 1, i, s, o, τ, hl, e, hJ => by
    obtain ⟨o1, τ1, q1, h2⟩ := h i s o τ hl (by omega) hJ
    obtain ⟨o2, τ2, q2, h4⟩ := up_sq h k (i + 1) (F i s) o1 τ1 (by omega) (by omega) q1
    exact ⟨o2, τ2, q2, h2.trans h4⟩
section MOU
variable {P : aCall} {d : Nat} {σ : aSt} {X : Pal} {w : Nat} {x y z : Int32}
theorem y_closest (hd : 6 ≤ d) (h : Sh σ) (M : MC σ w X) (V : Vd X) : OM (a_call a_tab P d 198 [.ref 237] σ) σ (.inr (g_res (z_clo X))) := by
  have h20 := V.1.2
  have inner : ∀ m, m < X.1 1 → ∀ k i s (o : Option Value) τ, i + k = X.1 1 → IB s → (Mo SM σ τ ∧ a_I τ 237 6 = nI 0) → IB (q_fold (z_clo1 X m) k i s) ∧ ∃ o' τ', (Mo SM σ τ' ∧ a_I τ' 237 6 = nI 0) ∧ b_R (a_call a_tab P (d - 1)) kX8_closest [] (26, [some (.ref 237), some (.int (g_res s.1)), some (.int (nI (z_l0 s))), some (.int (nI m)), some (.int (nI i)), o], [], τ) = b_R (a_call a_tab P (d - 1)) kX8_closest [] (26, [some (.ref 237), some (.int (g_res (q_fold (z_clo1 X m) k i s).1)), some (.int (nI (z_l0 (q_fold (z_clo1 X m) k i s)))), some (.int (nI m)), some (.int (nI (X.1 1))), o'], [], τ') := by
    intro m hm
    exact up_so (Q := fun τ => Mo SM σ τ ∧ a_I τ 237 6 = nI 0) (run := fun i (s : Option Nat × Nat) (o : Option Value) τ => b_R (a_call a_tab P (d - 1)) kX8_closest [] (26, [some (.ref 237), some (.int (g_res s.1)), some (.int (nI (z_l0 s))), some (.int (nI m)), some (.int (nI i)), o], [], τ)) (n := X.1 1) (F := z_clo1 X m) (I := IB)
      (fun i s o τ hi hs hq => by
        have M2 := M.sm hq.1
        have hh := hq.1.sh h
        have h5 : z_mfar X m i ≤ 585225 := z_far_le _ _
        have h6 := z_col_lt V (V.m hi)
        have h7 := z_col_lt V (V.m hm)
        obtain ⟨s2, e2, m2⟩ := y_colourOf (P := P) (d := d - 1) (by omega) hh M2 V hm
        obtain ⟨s3, e3, m3⟩ := y_colourOf (P := P) (d := d - 1) (by omega) (m2.sh hh) (M2.sq m2) V hi
        refine ⟨?_, some (.int (nI (z_mfar X m i))), s3, ⟨hq.1.tr ((m2.tr m3).mono Sq.sm), by rw [Sq.n6 m3, Sq.n6 m2]; exact hq.2⟩, ?_⟩
        · unfold z_clo1
          (try dsimp only)
          by_cases h8 : z_mfar X m i < s.2
          · rw [if_pos h8]; exact .inr ⟨100 * m + i, rfl, by omega, h5⟩
          · rw [if_neg h8]; exact hs
        · (try dsimp only)
          rw [b_X8_closest_26 hh M2.1, b_gd_t (nIi (by decide) (by decide)), show a_I τ w (Int32.toNatClampNeg (nI 1)) = nI (X.1 1) from M2.2.2.2.1.2.1, if_pos (nIl hi (by omega)), e2, g_v, b_X8_closest_42 (m2.sh hh), e3, g_v, b_X8_closest_48, y_far (by omega) h7 h6, g_v, b_X8_closest_51, b_X8_closest_64, b_X8_closest_75, b_X8_closest_75, pk_mul, nI_add, nI_add, show z_far (z_col X (X.2 1 m)) (z_col X (X.2 1 i)) = z_mfar X m i from rfl, hs.st h5]
          unfold z_clo1
          (try dsimp only)
          by_cases h8 : z_mfar X m i < s.2
          · rw [if_pos h8, if_pos h8]; rfl
          · rw [if_neg h8, if_neg h8])
  obtain ⟨-, o', s', ⟨q1, q2⟩, e⟩ := up_so (Q := fun τ => Mo SM σ τ ∧ a_I τ 237 6 = nI 0) (run := fun i (s : Option Nat × Nat) (o : Option Value × Option Value) τ => b_R (a_call a_tab P (d - 1)) kX8_closest [] (11, [some (.ref 237), some (.int (g_res s.1)), some (.int (nI (z_l0 s))), some (.int (nI i)), o.1, o.2], [], τ)) (n := X.1 1) (F := fun m s => q_fold (z_clo1 X m) (X.1 1 - (m + 1)) (m + 1) s) (I := IB)
    (fun i s o τ hi hs hq => by
      have M2 := M.sm hq.1
      have hh := hq.1.sh h
      obtain ⟨j1, o5, τ1, hq1, e1⟩ := inner i hi (X.1 1 - (i + 1)) (i + 1) s o.2 τ (by omega) hs hq
      have M3 := M.sm hq1.1
      refine ⟨j1, (some (.int (nI (X.1 1))), o5), τ1, hq1, ?_⟩
      (try dsimp only)
      rw [b_X8_closest_11 hh M2.1, b_gd_t (nIi (by decide) (by decide)), show a_I τ w (Int32.toNatClampNeg (nI 1)) = nI (X.1 1) from M2.2.2.2.1.2.1, if_pos (nIl hi (by omega)), nI_add, e1, b_X8_closest_26 (hq1.1.sh h) M3.1, b_gd_t (nIi (by decide) (by decide)), show a_I τ1 w (Int32.toNatClampNeg (nI 1)) = nI (X.1 1) from M3.2.2.2.1.2.1, if_neg (nIn (Nat.le_refl _) (by omega)), nI_add]) (X.1 1) 0 (none, 1000000) (none, none) (a_setI σ 237 6 (nI 0)) (by omega) (.inl ⟨rfl, rfl⟩) ⟨Mo.s6, a_I_at⟩
  have e : b_R (a_call a_tab P (d - 1)) kX8_closest [] (11, [some (.ref 237), some (.int (-1)), some (.int (nI 0)), some (.int (nI 0)), none, none], [], a_setI σ 237 6 (nI 0)) = _ := e
  refine ⟨s', ?_, q1, q2⟩
  rw [n_X8_closest (by omega), b_X8_closest_0 h, e, b_X8_closest_11 (q1.sh h) (M.sm q1).1, b_gd_t (nIi (by decide) (by decide)), show a_I s' w (Int32.toNatClampNeg (nI 1)) = nI (X.1 1) from (M.sm q1).2.2.2.1.2.1, if_neg (nIn (Nat.le_refl _) (by omega))]
  rfl
theorem y_twins (hd : 6 ≤ d) (h : Sh σ) (M : MC σ w X) (V : Vd X) : OM (a_call a_tab P d 199 [.ref 237] σ) σ (.inr (nI (z_twi X))) := by
  have h20 := V.1.2
  have inner : ∀ m, m < X.1 1 → ∀ k i s (o : Unit) τ, i + k = X.1 1 → True → (Mo SM σ τ ∧ a_I τ 237 6 = nI 0) → True ∧ ∃ (o' : Unit), ∃ τ', (Mo SM σ τ' ∧ a_I τ' 237 6 = nI 0) ∧ b_R (a_call a_tab P (d - 1)) kX8_twins [] (23, [some (.ref 237), some (.int (nI s)), some (.int (nI m)), some (.int (nI i))], [], τ) = b_R (a_call a_tab P (d - 1)) kX8_twins [] (23, [some (.ref 237), some (.int (nI (q_fold (z_twi1 X m) k i s))), some (.int (nI m)), some (.int (nI (X.1 1)))], [], τ') := by
    intro m hm
    exact up_so (Q := fun τ => Mo SM σ τ ∧ a_I τ 237 6 = nI 0) (run := fun i (s : Nat) (o : Unit) τ => b_R (a_call a_tab P (d - 1)) kX8_twins [] (23, [some (.ref 237), some (.int (nI s)), some (.int (nI m)), some (.int (nI i))], [], τ)) (n := X.1 1) (F := z_twi1 X m) (I := fun _ => True)
      (fun i s o τ hi hs hq => by
        have M2 := M.sm hq.1
        have hh := hq.1.sh h
        have h6 := z_col_lt V (V.m hi)
        have h7 := z_col_lt V (V.m hm)
        obtain ⟨s2, e2, m2⟩ := y_colourOf (P := P) (d := d - 1) (by omega) hh M2 V hm
        obtain ⟨s3, e3, m3⟩ := y_colourOf (P := P) (d := d - 1) (by omega) (m2.sh hh) (M2.sq m2) V hi
        refine ⟨trivial, (), s3, ⟨hq.1.tr ((m2.tr m3).mono Sq.sm), by rw [Sq.n6 m3, Sq.n6 m2]; exact hq.2⟩, ?_⟩
        (try dsimp only)
        rw [b_X8_twins_23 hh M2.1, b_gd_t (nIi (by decide) (by decide)), show a_I τ w (Int32.toNatClampNeg (nI 1)) = nI (X.1 1) from M2.2.2.2.1.2.1, if_pos (nIl hi (by omega)), e2, g_v, b_X8_twins_39 (m2.sh hh), e3, g_v, b_X8_twins_44, b_X8_twins_52, b_X8_twins_52, nI_add, nI_add, nI_add]
        unfold z_twi1
        by_cases h8 : z_col X (X.2 1 m) = z_col X (X.2 1 i)
        · rw [if_pos (congrArg nI h8), if_pos h8]
        · rw [if_neg (fun z => h8 ((o_eq (by omega) (by omega)).mp z)), if_neg h8]; rfl)
  obtain ⟨-, o', s', ⟨q1, q2⟩, e⟩ := up_so (Q := fun τ => Mo SM σ τ ∧ a_I τ 237 6 = nI 0) (run := fun i (s : Nat) (o : Option Value) τ => b_R (a_call a_tab P (d - 1)) kX8_twins [] (9, [some (.ref 237), some (.int (nI s)), some (.int (nI i)), o], [], τ)) (n := X.1 1) (F := fun m s => q_fold (z_twi1 X m) (X.1 1 - (m + 1)) (m + 1) s) (I := fun _ => True)
    (fun i s o τ hi hs hq => by
      have M2 := M.sm hq.1
      have hh := hq.1.sh h
      obtain ⟨j1, o5, τ1, hq1, e1⟩ := inner i hi (X.1 1 - (i + 1)) (i + 1) s () τ (by omega) trivial hq
      have M3 := M.sm hq1.1
      refine ⟨j1, some (.int (nI (X.1 1))), τ1, hq1, ?_⟩
      (try dsimp only)
      rw [b_X8_twins_9 hh M2.1, b_gd_t (nIi (by decide) (by decide)), show a_I τ w (Int32.toNatClampNeg (nI 1)) = nI (X.1 1) from M2.2.2.2.1.2.1, if_pos (nIl hi (by omega)), nI_add, e1, b_X8_twins_23 (hq1.1.sh h) M3.1, b_gd_t (nIi (by decide) (by decide)), show a_I τ1 w (Int32.toNatClampNeg (nI 1)) = nI (X.1 1) from M3.2.2.2.1.2.1, if_neg (nIn (Nat.le_refl _) (by omega)), nI_add]) (X.1 1) 0 0 none (a_setI σ 237 6 (nI 0)) (by omega) trivial ⟨Mo.s6, a_I_at⟩
  have e : b_R (a_call a_tab P (d - 1)) kX8_twins [] (9, [some (.ref 237), some (.int (nI 0)), some (.int (nI 0)), none], [], a_setI σ 237 6 (nI 0)) = _ := e
  refine ⟨s', ?_, q1, q2⟩
  rw [n_X8_twins (by omega), b_X8_twins_0 h, e, b_X8_twins_9 (q1.sh h) (M.sm q1).1, b_gd_t (nIi (by decide) (by decide)), show a_I s' w (Int32.toNatClampNeg (nI 1)) = nI (X.1 1) from (M.sm q1).2.2.2.1.2.1, if_neg (nIn (Nat.le_refl _) (by omega))]
  rfl
theorem y_meanDrops (F : FPk) (hd : 6 ≤ d) (h : Sh σ) (M : MC σ w X) (V : Vd X) : ∃ σ', a_call a_tab P d 201 [.ref 237] σ = some (.inl (some (.double (z_mean X))), σ') ∧ Mo SM σ σ' := by
  have h20 := z_inuse_le V
  have hh := (Mo.s6 (σ := σ) (v := nI 0)).sh h
  have M2 : MC (a_setI σ 237 6 (nI 0)) w X := M.sm Mo.s6
  refine ⟨a_setI σ 237 6 (nI 0), ?_, Mo.s6⟩
  rw [n_X8_meanDrops (by omega), b_X8_meanDrops_0 h, y_tubesInUse (by omega) hh M2 V, g_v, b_X8_meanDrops_9 hh]
  unfold z_mean
  by_cases h0 : z_inuse X = 0
  · rw [if_pos h0, if_pos ((o_eq0 (by omega)).mpr h0), b_X8_meanDrops_28]
  · have n0 : nI (z_inuse X) ≠ 0 := fun z => h0 ((o_eq0 (by omega)).mp z)
    rw [if_neg h0, if_neg n0, show a_call a_tab P (d - 1) 177 [.ref 237, .int (nI 1)] (a_setI σ 237 6 (nI 0)) = _ from y_allDrops (b := true) (by omega) hh M2 V, g_v, b_X8_meanDrops_21 hh, y_tubesInUse (by omega) hh M2 V, g_v, b_X8_meanDrops_26, b_gd_t (F _ _ n0).1, b_X8_meanDrops_28]
    rfl
theorem y_brokenShare (F : FPk) (hd : 6 ≤ d) (h : Sh σ) (M : MC σ w X) (V : Vd X) : ∃ σ', a_call a_tab P d 202 [.ref 237] σ = some (.inl (some (.float (z_brsh X))), σ') ∧ Mo SM σ σ' := by
  have h20 := V.1.2
  have hh := (Mo.s6 (σ := σ) (v := nI 0)).sh h
  have M2 : MC (a_setI σ 237 6 (nI 0)) w X := M.sm Mo.s6
  have e1 : a_I (a_setI σ 237 6 (nI 0)) w (Int32.toNatClampNeg (nI 1)) = nI (X.1 1) := M2.2.2.2.1.2.1
  refine ⟨a_setI σ 237 6 (nI 0), ?_, Mo.s6⟩
  rw [n_X8_brokenShare (by omega), b_X8_brokenShare_0 h M.1, b_gd_t (nIi (by decide) (by decide)), e1]
  unfold z_brsh
  by_cases h0 : X.1 1 = 0
  · rw [if_pos h0, if_pos ((o_eq0 (by omega)).mpr h0), b_X8_brokenShare_31]
  · have n0 : nI (X.1 1) ≠ 0 := fun z => h0 ((o_eq0 (by omega)).mp z)
    rw [if_neg h0, if_neg n0, y_broken (by omega) hh M2 V, g_v, b_X8_brokenShare_22 hh M2.1, b_gd_t (nIi (by decide) (by decide)), e1, b_gd_t (F _ _ n0).2, b_X8_brokenShare_31]
end MOU
