/-! the start: behind both constructors all is as the law wants it -/
def X_0 : Pal := (fun j => if j = 2 then 2 else if j = 4 then 4 else if j = 5 then 300 else 0, fun _ _ _ => 0)
theorem o_get : ∃ σ1 σ2, o_call 12000 40 89 [.ref 100] (a_new o_s0 19 10 10) = some (.inl none, σ1) ∧ a_n σ1 = 237 ∧ o_call 12000 40 143 [.ref 237] (a_new σ1 20 35 35) = some (.inl none, σ2) ∧ a_n σ2 = 252 ∧ o_ck (a_new σ2 2 1 1) = true := by
  have h := o_all_t
  unfold o_all at h
  split at h
  · rename_i σ1 e1
    rw [Bool.and_eq_true] at h
    obtain ⟨h1, h2⟩ := h
    split at h2
    · rename_i σ2 e2
      rw [Bool.and_eq_true] at h2
      exact ⟨σ1, σ2, e1, of_decide_eq_true h1, e2, of_decide_eq_true h2.1, h2.2⟩
    · cases h2
  · cases h
theorem X_0_vd : Vd X_0 := ⟨⟨by decide, by decide⟩, ⟨by decide, by decide⟩, by decide, ⟨by decide, by decide⟩, by decide, by decide, fun t ht => absurd ht (Nat.not_lt_zero _), fun t ht => absurd ht (Nat.not_lt_zero _), fun b _ => ⟨fun _ _ => Nat.zero_le _, Nat.zero_le _⟩⟩
theorem o_lay0 : ∀ q ∈ b_lay, 100 ≤ q.1 := by decide +kernel
section STT
variable {N : Nat} {xs : Nat → Int32} {σ : aSt}
theorem o_start (h : o_ck σ = true) : JV (o_phi N xs σ) X_0 [] none 0 (fun _ => 0) (0, fun _ => 0) ∧ a_uc σ ≤ 500 ∧ a_us σ ≤ 50000 := by
  unfold o_ck at h
  simp only [Bool.and_eq_true, List.all_eq_true, decide_eq_true_eq] at h
  obtain ⟨⟨⟨⟨⟨⟨⟨⟨⟨⟨⟨⟨c1, c2⟩, c3⟩, c4⟩, c5⟩, c6⟩, c7⟩, c8⟩, c9⟩, c10⟩, c11⟩, c12⟩, c13⟩ := h
  refine ⟨?_, c12, c13⟩
  have S : Sh (o_phi N xs σ) := by
    refine ⟨fun q hq => ?_, c2, c3, fun s h1 h2 => ?_⟩
    · exact (if_neg (o_pos (o_lay0 q hq))).trans (c1 q hq)
    · rw [o_kd (by omega)]
      have := c4 (s - 1) (List.mem_range.mpr (by omega))
      rwa [show s - 1 + 1 = s by omega] at this
  have I : ∀ q ∈ o_il, q.1 ≠ 0 → a_I (o_phi N xs σ) q.1 q.2.1 = nI q.2.2 := fun q hq h0 => (o_It h0).trans (c5 q hq)
  have W : ∀ p ∈ o_sls, Wd (o_phi N xs σ) p := fun p hp => by
    obtain ⟨⟨⟨w1, w2⟩, w3⟩, w4⟩ := c6 p hp
    exact ⟨(o_It (Nat.succ_ne_zero _)).trans w1, (o_It (Nat.succ_ne_zero _)).trans w2, (o_It (Nat.succ_ne_zero _)).trans w3, (o_It (Nat.succ_ne_zero _)).trans w4⟩
  have W1 := W 101 (by decide)
  have hb : ∀ k, k < 8 → a_I (o_phi N xs σ) 107 k = nI 0 ∧ a_I (o_phi N xs σ) 238 (648 + k) = nI 0 := fun k hk => ⟨(o_It (by decide)).trans (c7 k (List.mem_range.mpr hk)).1, (o_It (by decide)).trans (c7 k (List.mem_range.mpr hk)).2⟩
  refine ⟨⟨S, ⟨pa_101 S, ⟨tb_102 S, W1.1, I (102, 2, 0) (by decide) (by decide), by decide, by decide, by decide, fun r hr => absurd hr (Nat.not_lt_zero _)⟩, ⟨tb_104 S, W1.2.1, I (104, 2, 0) (by decide) (by decide), by decide, by decide, by decide, fun r hr => absurd hr (Nat.not_lt_zero _)⟩, ⟨tb_106 S, W1.2.2.1, I (106, 2, 2) (by decide) (by decide), by decide, by decide, by decide, fun r hr k hk => ?_⟩, ⟨tb_108 S, W1.2.2.2, I (108, 2, 0) (by decide) (by decide), by decide, by decide, by decide, fun r hr => absurd hr (Nat.not_lt_zero _)⟩, I (101, 4, 4) (by decide) (by decide), I (101, 5, 300) (by decide) (by decide), I (101, 6, 0) (by decide) (by decide)⟩, X_0_vd, W 110 (by decide), W 119 (by decide), ⟨fun i hi => W (z_sl i) ?_, fun Y hY => absurd hY List.not_mem_nil, by decide, 0, by decide, I (128, 1, 0) (by decide) (by decide), I (128, 2, 0) (by decide) (by decide), fun j Y hj => by cases (show (none : Option Pal) = some Y from hj)⟩, I (100, 3, 0) (by decide) (by decide), I (224, 1, 17) (by decide) (by decide), I (227, 1, 8) (by decide) (by decide)⟩, ⟨S, ⟨⟨c8, sk_238 S, by decide, sl_238 S⟩, by decide, .inl rfl, ⟨I (238, 0, 0) (by decide) (by decide), I (238, 1, 0) (by decide) (by decide), I (238, 2, 2) (by decide) (by decide), I (238, 3, 4) (by decide) (by decide), I (238, 4, 300) (by decide) (by decide), I (238, 5, 0) (by decide) (by decide), I (238, 6, 0) (by decide) (by decide)⟩, fun t ht => absurd ht (Nat.not_lt_zero _), fun t ht => absurd ht (Nat.not_lt_zero _), fun b hb2 k hk => ?_, fun t ht => absurd ht (Nat.not_lt_zero _)⟩, X_0_vd, ⟨fun Y hY => absurd hY List.not_mem_nil, by decide, I (237, 5, 0) (by decide) (by decide), fun j Y hj => by cases (show (none : Option Pal) = some Y from hj)⟩, I (237, 7, 0) (by decide) (by decide)⟩, ⟨I (220, 1, 0) (by decide) (by decide), by decide, fun i hi => absurd hi (Nat.not_lt_zero _)⟩, ⟨I (237, 20, 0) (by decide) (by decide), by decide, fun i hi => absurd hi (Nat.not_lt_zero _)⟩, ⟨236, 16, c9, ?_, .inl rfl, ?_, ?_, by decide, by decide, by decide, I (235, 3, 0) (by decide) (by decide), I (235, 1, 0) (by decide) (by decide), fun j hj => absurd hj (Nat.not_lt_zero _)⟩, ⟨I (237, 18, 0) (by decide) (by decide), by decide, fun i hi => absurd hi (Nat.not_lt_zero _)⟩, ?_⟩
  · have hr : r < 2 := hr
    exact (hb (r * 4 + k) (by omega)).1
  · obtain rfl | rfl | rfl | rfl | rfl | rfl | rfl | rfl | rfl | rfl : i = 0 ∨ i = 1 ∨ i = 2 ∨ i = 3 ∨ i = 4 ∨ i = 5 ∨ i = 6 ∨ i = 7 ∨ i = 8 ∨ i = 9 := by omega
    all_goals decide
  · have hb2 : b < 2 := hb2
    rw [show 648 + 4 * b + k = 648 + (4 * b + k) by omega]
    exact (hb (4 * b + k) (by omega)).2
  · exact congrArg Prod.fst ((if_neg (by decide)).trans c10)
  · exact Nat.lt_of_lt_of_le (by decide) c3
  · exact congrArg Prod.snd ((if_neg (by decide)).trans c10)
  · rw [o_It (by decide), o_It (by decide)]
    exact c11
/-- the law, from the script alone -/
theorem law_run {P : aCall} (H : Pm P) (hP : ∀ a σ, a_kd σ a = 11 → 100 ≤ a → P 1010 [.ref a] σ = some (.inl none, a_sbi σ a)) (F : FPk) (G : FPd) (hN : N ≤ 3072) : ∃ σ', a_call a_tab P 41 298 [.ref 0] (o_phi N xs o_s0) = some (.inl (some (.int (nI 1))), σ') ∧ a_uc σ' ≤ 601024 ∧ a_us σ' ≤ 7293034 := by
  obtain ⟨σ1, σ2, e1, n1, e2, n2, ck⟩ := o_get
  have I0 : o_I o_s0 := ⟨rfl, Nat.le_refl _⟩
  obtain ⟨f1, g1⟩ := o_call_snd (N := N) (xs := xs) hP 40 _ _ _ _ _ (o_Inew I0) e1
  obtain ⟨f2, g2⟩ := o_call_snd (N := N) (xs := xs) hP 40 _ _ _ _ _ (o_Inew g1) e2
  obtain ⟨J, u1, u2⟩ := o_start (N := N) (xs := xs) ck
  rw [← o_new I0] at f1
  rw [← o_new g1] at f2
  rw [← o_new g2] at J
  have hs : Sc (a_new (o_phi N xs σ2) 2 1 1) N := by
    rw [o_new g2]
    exact ⟨rfl, rfl, by omega⟩
  obtain ⟨σ', e, v1, v2⟩ := law_loop (P := P) (D := 40) H F G (Nat.le_refl _) 512 0 _ none none none (Nat.zero_le _) (by omega) ⟨_, _, _, _, _, _, J⟩ hs
  refine ⟨σ', ?_, ?_, ?_⟩
  · rw [n_L_law (by decide), b_L_law_0]
    have f1 : a_call a_tab P (41 - 1) 89 [.ref (a_n (o_phi N xs o_s0))] (a_new (o_phi N xs o_s0) 19 10 10) = _ := f1
    rw [f1, g_n]
    show b_R _ kL_law [] (7, [some (.ref 0), none, none, none, none, none, none, none, none], [.ref 100], _) = _
    rw [b_L_law_7]
    have m1 : a_n (o_phi N xs σ1) = 237 := n1
    rw [m1, f2, g_n, b_L_law_15]
    have m2 : a_n (o_phi N xs σ2) = 252 := n2
    rw [m2]
    exact e
  · have : a_uc (a_new (o_phi N xs σ2) 2 1 1) = a_uc (a_new σ2 2 1 1) := rfl
    omega
  · have : a_us (a_new (o_phi N xs σ2) 2 1 1) = a_us (a_new σ2 2 1 1) := rfl
    omega
end STT
