/-! the model: who uses what -/
section MOG
variable {P : aCall} {d : Nat} {σ : aSt} {X : Pal} {w : Nat} {x : Int32}
theorem y_uses (hd : 2 ≤ d) (h : Sh σ) (M : MC σ w X) (V : Vd X) {m t : Nat} (hm : m < X.1 1) (ht : t < 2147483648) : a_call a_tab P d 168 [.ref 237, .int (nI m), .int (nI t)] σ = some (.inl (some (.int (b_n (z_uses (X.2 1 m) t)))), σ) := by
  have h20 := V.1
  have G := V.m hm
  have g4 := G.2.1
  obtain ⟨-, -, f9, f10⟩ := M.2.2.2.2.2.1 m hm
  rw [n_X8_uses (by omega), b_X8_uses_0]
  have e := up_0 (run := fun i => b_R (a_call a_tab P (d - 1)) kX8_uses [] (5, [some (.ref 237), some (.int (nI m)), some (.int (nI t)), some (.int (b_n (q_any (fun i => X.2 1 m (9 + i) == t) i))), some (.int (nI i))], [], σ)) (n := X.2 1 m 8) fun i hi => by
    (try dsimp only)
    have gt := (G.2.2.1 i hi).1
    rw [b_X8_uses_5 h, y_ofMix (by omega) h M.1 (by omega) (by decide), g_v, f9, b_X8_uses_14 h, if_pos (nIl hi (by omega)), nI_add, y_ofMix (by omega) h M.1 (by omega) (by omega), g_v, (f10 i hi).1, b_X8_uses_31, b_X8_uses_35, b_X8_uses_40, b_X8_uses_40, nI_add]
    show _ = b_R (a_call a_tab P (d - 1)) kX8_uses [] (5, [some (.ref 237), some (.int (nI m)), some (.int (nI t)), some (.int (b_n (q_any (fun i => X.2 1 m (9 + i) == t) i || (X.2 1 m (9 + i) == t)))), some (.int (nI (i + 1)))], [], σ)
    cases q_any (fun i => X.2 1 m (9 + i) == t) i with
    | true => rw [if_neg (by decide)]; rfl
    | false =>
      rw [if_pos (by decide)]
      by_cases hz : X.2 1 m (9 + i) = t
      · rw [if_pos (by rw [hz]), hz, beq_self_eq_true]
        rfl
      · rw [if_neg (fun z => hz ((o_eq (by omega) (by omega)).mp z)), beq_eq_false_iff_ne.mpr hz]
        rfl
  have e : b_R (a_call a_tab P (d - 1)) kX8_uses [] (5, [some (.ref 237), some (.int (nI m)), some (.int (nI t)), some (.int (nI 0)), some (.int (nI 0))], [], σ) = _ := e
  rw [e, b_X8_uses_5 h, y_ofMix (by omega) h M.1 (by omega) (by decide), g_v, f9, b_X8_uses_14 h, if_neg (nIn (Nat.le_refl _) (by omega)), b_gd_t (bz_b _)]
  rfl
theorem y_isBroken (hd : 2 ≤ d) (h : Sh σ) (M : MC σ w X) (V : Vd X) {m : Nat} (hm : m < X.1 1) : a_call a_tab P d 169 [.ref 237, .int (nI m)] σ = some (.inl (some (.int (b_n (z_bro X (X.2 1 m))))), σ) := by
  have h20 := V.1
  have G := V.m hm
  have g4 := G.2.1
  obtain ⟨-, -, f9, f10⟩ := M.2.2.2.2.2.1 m hm
  rw [n_X8_isBroken (by omega), b_X8_isBroken_0]
  have e := up_0 (run := fun i => b_R (a_call a_tab P (d - 1)) kX8_isBroken [] (4, [some (.ref 237), some (.int (nI m)), some (.int (b_n (q_any (fun i => !z_use X (X.2 1 m (9 + i))) i))), some (.int (nI i))], [], σ)) (n := X.2 1 m 8) fun i hi => by
    (try dsimp only)
    have gt := (G.2.2.1 i hi).1
    rw [b_X8_isBroken_4 h, y_ofMix (by omega) h M.1 (by omega) (by decide), g_v, f9, b_X8_isBroken_12 h, if_pos (nIl hi (by omega)), nI_add, y_ofMix (by omega) h M.1 (by omega) (by omega), g_v, (f10 i hi).1, b_X8_isBroken_29 h, y_ofTube (by omega) h M.1 (by omega) (by decide), g_v, (M.2.2.2.2.1 _ gt).2.2.1, b_X8_isBroken_33, b_X8_isBroken_36, b_X8_isBroken_41, b_X8_isBroken_41, nI_add]
    show _ = b_R (a_call a_tab P (d - 1)) kX8_isBroken [] (4, [some (.ref 237), some (.int (nI m)), some (.int (b_n (q_any (fun i => !z_use X (X.2 1 m (9 + i))) i || !z_use X (X.2 1 m (9 + i))))), some (.int (nI (i + 1)))], [], σ)
    cases q_any (fun i => !z_use X (X.2 1 m (9 + i))) i with
    | true => rw [if_neg (by decide)]; rfl
    | false =>
      rw [if_pos (by decide)]
      cases z_use X (X.2 1 m (9 + i)) with
      | true => rw [if_neg (by decide)]; rfl
      | false => rw [if_pos (by decide)]; rfl
  have e : b_R (a_call a_tab P (d - 1)) kX8_isBroken [] (4, [some (.ref 237), some (.int (nI m)), some (.int (nI 0)), some (.int (nI 0))], [], σ) = _ := e
  rw [e, b_X8_isBroken_4 h, y_ofMix (by omega) h M.1 (by omega) (by decide), g_v, f9, b_X8_isBroken_12 h, if_neg (nIn (Nat.le_refl _) (by omega)), b_gd_t (bz_b _)]
  rfl
theorem y_broken (hd : 3 ≤ d) (h : Sh σ) (M : MC σ w X) (V : Vd X) : a_call a_tab P d 170 [.ref 237] σ = some (.inl (some (.int (nI (z_nbro X)))), σ) := by
  have h20 := V.1
  have e1 : a_I σ w (Int32.toNatClampNeg (nI 1)) = nI (X.1 1) := M.2.2.2.1.2.1
  rw [n_X8_broken (by omega), b_X8_broken_0]
  have e := up_0 (run := fun i => b_R (a_call a_tab P (d - 1)) kX8_broken [] (4, [some (.ref 237), some (.int (nI (q_s (fun m => z_1 (z_bro X (X.2 1 m))) i))), some (.int (nI i))], [], σ)) (n := X.1 1) fun i hi => by
    (try dsimp only)
    rw [b_X8_broken_4 h M.1, b_gd_t (nIi (by decide) (by decide)), e1, if_pos (nIl hi (by omega)), y_isBroken (by omega) h M V hi, g_v, b_X8_broken_20, b_X8_broken_28, b_X8_broken_28, nI_add, nI_add, nI_add]
    show _ = b_R (a_call a_tab P (d - 1)) kX8_broken [] (4, [some (.ref 237), some (.int (nI (q_s (fun m => z_1 (z_bro X (X.2 1 m))) i + z_1 (z_bro X (X.2 1 i))))), some (.int (nI (i + 1)))], [], σ)
    cases z_bro X (X.2 1 i) with
    | true => rw [if_neg (by decide)]; rfl
    | false => rw [if_pos (by decide)]; rfl
  have e : b_R (a_call a_tab P (d - 1)) kX8_broken [] (4, [some (.ref 237), some (.int (nI 0)), some (.int (nI 0))], [], σ) = _ := e
  rw [e, b_X8_broken_4 h M.1, b_gd_t (nIi (by decide) (by decide)), e1, if_neg (nIn (Nat.le_refl _) (by omega))]
  rfl
theorem y_users (hd : 3 ≤ d) (h : Sh σ) (M : MC σ w X) (V : Vd X) {t : Nat} (ht : t < 2147483648) : a_call a_tab P d 171 [.ref 237, .int (nI t)] σ = some (.inl (some (.int (nI (z_users X t)))), σ) := by
  have h20 := V.1
  have e1 : a_I σ w (Int32.toNatClampNeg (nI 1)) = nI (X.1 1) := M.2.2.2.1.2.1
  rw [n_X8_users (by omega), b_X8_users_0]
  have e := up_0 (run := fun i => b_R (a_call a_tab P (d - 1)) kX8_users [] (4, [some (.ref 237), some (.int (nI t)), some (.int (nI (q_s (fun m => z_1 (z_uses (X.2 1 m) t)) i))), some (.int (nI i))], [], σ)) (n := X.1 1) fun i hi => by
    (try dsimp only)
    rw [b_X8_users_4 h M.1, b_gd_t (nIi (by decide) (by decide)), e1, if_pos (nIl hi (by omega)), y_uses (by omega) h M V hi ht, g_v, b_X8_users_21, b_X8_users_29, b_X8_users_29, nI_add, nI_add, nI_add]
    show _ = b_R (a_call a_tab P (d - 1)) kX8_users [] (4, [some (.ref 237), some (.int (nI t)), some (.int (nI (q_s (fun m => z_1 (z_uses (X.2 1 m) t)) i + z_1 (z_uses (X.2 1 i) t)))), some (.int (nI (i + 1)))], [], σ)
    cases z_uses (X.2 1 i) t with
    | true => rw [if_neg (by decide)]; rfl
    | false => rw [if_pos (by decide)]; rfl
  have e : b_R (a_call a_tab P (d - 1)) kX8_users [] (4, [some (.ref 237), some (.int (nI t)), some (.int (nI 0)), some (.int (nI 0))], [], σ) = _ := e
  rw [e, b_X8_users_4 h M.1, b_gd_t (nIi (by decide) (by decide)), e1, if_neg (nIn (Nat.le_refl _) (by omega))]
  rfl
theorem y_tubesInUse (hd : 2 ≤ d) (h : Sh σ) (M : MC σ w X) (V : Vd X) : a_call a_tab P d 172 [.ref 237] σ = some (.inl (some (.int (nI (z_inuse X)))), σ) := by
  have h20 := V.1
  have e1 : a_I σ w (Int32.toNatClampNeg (nI 0)) = nI (X.1 0) := M.2.2.2.1.1
  rw [n_X8_tubesInUse (by omega), b_X8_tubesInUse_0]
  have e := up_0 (run := fun i => b_R (a_call a_tab P (d - 1)) kX8_tubesInUse [] (4, [some (.ref 237), some (.int (nI (q_s (fun t => z_1 (z_use X t)) i))), some (.int (nI i))], [], σ)) (n := X.1 0) fun i hi => by
    (try dsimp only)
    rw [b_X8_tubesInUse_4 h M.1, b_gd_t (nIi (by decide) (by decide)), e1, if_pos (nIl hi (by omega)), y_ofTube (by omega) h M.1 (by omega) (by decide), g_v, (M.2.2.2.2.1 _ hi).2.2.1, b_X8_tubesInUse_21, nI_add, nI_add]
    rfl
  have e : b_R (a_call a_tab P (d - 1)) kX8_tubesInUse [] (4, [some (.ref 237), some (.int (nI 0)), some (.int (nI 0))], [], σ) = _ := e
  rw [e, b_X8_tubesInUse_4 h M.1, b_gd_t (nIi (by decide) (by decide)), e1, if_neg (nIn (Nat.le_refl _) (by omega))]
  rfl
/-- all drops (b: of the tubes in use alone) -/
theorem y_allDrops (hd : 2 ≤ d) (h : Sh σ) (M : MC σ w X) (V : Vd X) {b : Bool} : a_call a_tab P d 177 [.ref 237, .int (b_n b)] σ = some (.inl (some (.int (nI (z_drops X (!b))))), σ) := by
  have h20 := V.1
  have e1 : a_I σ w (Int32.toNatClampNeg (nI 0)) = nI (X.1 0) := M.2.2.2.1.1
  rw [n_X8_allDrops (by omega), b_X8_allDrops_0]
  have e := up_0 (run := fun i => b_R (a_call a_tab P (d - 1)) kX8_allDrops [] (4, [some (.ref 237), some (.int (b_n b)), some (.int (nI (q_s (fun t => if !b || z_use X t then X.2 0 t 11 else 0) i))), some (.int (nI i))], [], σ)) (n := X.1 0) fun i hi => by
    (try dsimp only)
    obtain ⟨-, f3, f4, -⟩ := M.2.2.2.2.1 _ hi
    have dr : ∀ acc : Nat, b_R (a_call a_tab P (d - 1)) kX8_allDrops [] (29, [some (.ref 237), some (.int (b_n b)), some (.int (nI acc)), some (.int (nI i))], [.int (nI acc)], σ) = b_R (a_call a_tab P (d - 1)) kX8_allDrops [] (4, [some (.ref 237), some (.int (b_n b)), some (.int (nI (acc + X.2 0 i 11))), some (.int (nI (i + 1)))], [], σ) := fun acc => by
      rw [b_X8_allDrops_29 h, y_ofTube (by omega) h M.1 (by omega) (by decide), g_v, f3, b_X8_allDrops_35, b_X8_allDrops_39, nI_add, nI_add]
    rw [b_X8_allDrops_4 h M.1, b_gd_t (nIi (by decide) (by decide)), e1, if_pos (nIl hi (by omega)), dr, y_ofTube (by omega) h M.1 (by omega) (by decide), g_v, f4, b_X8_allDrops_25, dr, b_X8_allDrops_39, nI_add, nI_add]
    show _ = b_R (a_call a_tab P (d - 1)) kX8_allDrops [] (4, [some (.ref 237), some (.int (b_n b)), some (.int (nI (q_s (fun t => if !b || z_use X t then X.2 0 t 11 else 0) i + if !b || z_use X i then X.2 0 i 11 else 0))), some (.int (nI (i + 1)))], [], σ)
    cases b with
    | false => rw [if_pos (show b_n false = 0 by decide)]; rfl
    | true =>
      rw [if_neg (show ¬ b_n true = 0 by decide)]
      cases z_use X i with
      | true => rw [if_pos (show nI (z_1 true) = nI 1 from rfl)]; rfl
      | false => rw [if_neg (show ¬ nI (z_1 false) = nI 1 by decide)]; rfl
  have e : b_R (a_call a_tab P (d - 1)) kX8_allDrops [] (4, [some (.ref 237), some (.int (b_n b)), some (.int (nI 0)), some (.int (nI 0))], [], σ) = _ := e
  rw [e, b_X8_allDrops_4 h M.1, b_gd_t (nIi (by decide) (by decide)), e1, if_neg (nIn (Nat.le_refl _) (by omega))]
  rfl
end MOG
