/-! the given members do what the class's side asks of them -/
theorem q_a_txt : ∀ s, s ≤ 18 → q_txt s = a_txt s := by decide
section PMJ
variable {b : Bool} {σ : aSt}
theorem cpx_cpy {a c n : Nat} : a_cpx σ a c 0 0 n = a_cpy σ a c n := by
  refine Prod.ext rfl (Prod.ext (funext fun d => funext fun j => ?_) rfl)
  show (if d = c then va_cpy (fun j => σ.2.1 a j) (fun j => σ.2.1 c j) 0 0 n j else σ.2.1 d j) = if d = c ∧ j < n then σ.2.1 a j else σ.2.1 d j
  by_cases hd : d = c
  · rw [if_pos hd]
    by_cases hj : j < n
    · rw [if_pos ⟨hd, hj⟩, pk_cpy_in (Nat.zero_le j) (by omega), Nat.zero_add, Nat.sub_zero]
    · rw [if_neg fun z => hj z.2, pk_cpy_out (.inr (by omega)), hd]
  · rw [if_neg hd, if_neg fun z => hd z.1]
/-- what a text builder's state gives -/
theorem sb_0 {n : Nat} {f : Nat → Nat} (S : Sh σ) (h : Sb σ n f) : a_kd σ 235 = 11 ∧ 253 ≤ a_n σ ∧ ∃ v m, a_R σ 235 0 = some v ∧ a_kd σ v = 7 ∧ (v = 236 ∨ 253 ≤ v) ∧ v < a_n σ ∧ a_ln σ v = m ∧ 16 ≤ m ∧ m ≤ 102 ∧ n ≤ m ∧ a_I σ 235 3 = nI n ∧ a_I σ 235 1 = 0 ∧ ∀ j, j < n → f j < 128 ∧ a_I σ v j = nI (f j) := ⟨sk_235 S, S.2.2.1, h⟩
theorem J_w_at {a id : Nat} {tl : List Value} (h : a_kd σ a = 11) : J_w b id (.ref a :: tl) σ = J_i σ (a_call (a_tabJ b) (P_J b 2) 12 id (.ref a :: tl) σ) := if_pos h
theorem pm_len {n : Nat} {f : Nat → Nat} (S : Sh σ) (h : Sb σ n f) : a_prim b 1013 [.ref 235] σ = some (.inl (some (.int (nI n))), σ) := by
  obtain ⟨hk, -, v, m, -, -, -, -, -, -, -, -, h3, -⟩ := sb_0 S h
  have hc9 := js_len (b := b) (lv := 2) (d := 12) (σ := σ) hk (by decide)
  rw [h3] at hc9
  show J_w b 2008 [.ref 235] σ = _
  rw [J_w_at hk]
  exact J_i_of hc9 fun _ _ _ => rfl
theorem pm_cha {n i : Nat} {f : Nat → Nat} (S : Sh σ) (h : Sb σ n f) (hi : i < n) : a_prim b 1014 [.ref 235, .int (nI i)] σ = some (.inl (some (.int (nI (f i)))), σ) := by
  obtain ⟨hk, -, v, m, hv, h7, hv1, hvn, hm9, hm1, hm2, hnm, h3, h0, hf⟩ := sb_0 S h
  obtain ⟨f1, f2⟩ := hf i hi
  have hc9 := js_cha (b := b) (lv := 2) (d := 12) (σ := σ) (a := 235) (js_chaA (d := 11) hk hv h7 (by omega) hm9 (by omega) h0 h3 hnm hi f1 f2 (by decide)) (congrArg Value.int (j_chr (f i) (by omega)).2) hk (by decide)
  show J_w b 2010 [.ref 235, .int (nI i)] σ = _
  rw [J_w_at hk]
  exact J_i_of hc9 fun _ _ _ => rfl
theorem pm_set {n : Nat} {f : Nat → Nat} (S : Sh σ) (h : Sb σ n f) : ∃ σ', a_prim b 1015 [.ref 235, .int (nI 0)] σ = some (.inl none, σ') ∧ Sb σ' 0 f ∧ Ms σ σ' := by
  obtain ⟨hk, -, v, m, hv, h7, hv1, hvn, hm9, hm1, hm2, hnm, h3, h0, hf⟩ := sb_0 S h
  have hc9 := js_set (b := b) (lv := 1) (d := 12) (σ := σ) hk (by decide) hv h7 hm9 (by omega) h0 (by rw [h3]; exact nIn (Nat.zero_le n) (by omega)) (by decide)
  have hL : (J_sl σ 235).2.2.2.1 = σ.2.2.2.1 := by unfold J_sl; split <;> rfl
  have h1 : (J_sl σ 235).1 = σ.1 := by unfold J_sl; split <;> rfl
  have h2 : (J_sl σ 235).2.2 = σ.2.2 := by unfold J_sl; split <;> rfl
  have hI : ∀ c k, ¬ (c = 235 ∧ (k = 2 ∨ k = 3)) → a_I (J_sl σ 235) c k = a_I σ c k := fun c k hck => by
    unfold J_sl
    split
    · rw [a_I_off ((Classical.em (c = 235)).elim (fun e => Or.inr fun z => hck ⟨e, .inr z⟩) Or.inl), a_I_off ((Classical.em (c = 235)).elim (fun e => Or.inr fun z => hck ⟨e, .inl z⟩) Or.inl)]
    · rw [a_I_off ((Classical.em (c = 235)).elim (fun e => Or.inr fun z => hck ⟨e, .inr z⟩) Or.inl)]
  have hI3 : a_I (J_sl σ 235) 235 3 = nI 0 := by
    unfold J_sl
    split <;> exact a_I_at
  have hR : ∀ c k, a_R (J_sl σ 235) c k = a_R σ c k := fun c k => by unfold a_R; rw [h2]
  refine ⟨J_lw σ (J_sl σ 235), ?_, ⟨v, m, ?_, ?_, hv1, ?_, ?_, hm1, hm2, Nat.zero_le m, hI3, ?_, fun j hj => absurd hj (Nat.not_lt_zero j)⟩, fun c h1c h2c => ⟨congrFun h1 c, fun h3c k => ⟨hI c k fun z => h3c z.1, hR c k⟩⟩, fun k _ => hR 235 k, fun _ _ => rfl, ?_, ?_, ?_⟩
  · show J_w b 2006 [.ref 235, .int (nI 0)] σ = _
    rw [J_w_at hk]
    exact J_i_of hc9 fun c k _ => by show σ.2.2.2.1 c k = (J_sl σ 235).2.2.2.1 c k; rw [hL]
  · show a_R (J_sl σ 235) 235 0 = _
    rw [hR]; exact hv
  · show a_kd (J_sl σ 235) v = 7
    unfold a_kd; rw [h1]; exact h7
  · show v < a_n (J_sl σ 235)
    unfold a_n; rw [h2]; exact hvn
  · show a_ln (J_sl σ 235) v = m
    unfold a_ln; rw [h1]; exact hm9
  · show a_I (J_sl σ 235) 235 1 = 0
    rw [hI 235 1 (by decide)]; exact h0
  · show a_n σ ≤ a_n (J_sl σ 235)
    unfold a_n; rw [h2]; exact Nat.le_refl _
  · show a_uc (J_sl σ 235) ≤ a_uc σ + 1
    unfold a_uc; rw [h2]; exact Nat.le_succ _
  · show a_us (J_sl σ 235) ≤ a_us σ + 102
    unfold a_us; rw [h2]; exact Nat.le_add_right _ _
/-- behind the making of room for one letter more -/
def J_ready (σ τ : aSt) (n : Nat) (f : Nat → Nat) : Prop := ∃ v m, a_kd τ 235 = 11 ∧ a_R τ 235 0 = some v ∧ a_kd τ v = 7 ∧ (v = 236 ∨ 253 ≤ v) ∧ v < a_n τ ∧ a_ln τ v = m ∧ 16 ≤ m ∧ m ≤ 102 ∧ n < m ∧ a_I τ 235 3 = nI n ∧ a_I τ 235 1 = 0 ∧ (∀ j, j < n → a_I τ v j = nI (f j)) ∧ J_okl σ τ ∧
  (∀ c, c < 253 → c ≠ 236 → τ.1 c = σ.1 c ∧ (c ≠ 235 → ∀ k, a_I τ c k = a_I σ c k ∧ a_R τ c k = a_R σ c k)) ∧ (∀ k, k ≠ 0 → a_R τ 235 k = a_R σ 235 k) ∧ a_n σ ≤ a_n τ ∧ a_uc τ ≤ a_uc σ + 1 ∧ a_us τ ≤ a_us σ + 102
theorem pm_ens {n : Nat} {f : Nat → Nat} (S : Sh σ) (h : Sb σ n f) (hn : n < 50) : ∃ τ, P_J b 2 1020 [.ref 235, .int (nI (n + 1))] σ = some (.inl none, τ) ∧ J_ready σ τ n f := by
  obtain ⟨hk, hn2, v, m, hv, h7, hv1, hvn, hm9, hm1, hm2, hnm, h3, h0, hf⟩ := sb_0 S h
  by_cases hc9 : n + 1 ≤ m
  · exact ⟨σ, js_P20e (lv := 1) hk hv h7 hm9 (by omega) h0 hc9, v, m, hk, hv, h7, hv1, hvn, hm9, hm1, hm2, by omega, h3, h0, fun j hj => (hf j hj).2, fun _ _ _ => rfl, fun c _ _ => ⟨rfl, fun _ k => ⟨rfl, rfl⟩⟩, fun _ _ => rfl, Nat.le_refl _, Nat.le_succ _, Nat.le_add_right _ _⟩
  · obtain rfl : n = m := by omega
    have he := js_P20g (b := b) (lv := 0) hk (by decide) hv h7 hvn (show 235 < a_n σ by omega) hm9 (by omega) h0 (fun i hi => by rw [(hf i hi).2]; exact (j_byt (f i) (hf i hi).1).2.2)
    have hva : v ≠ a_n σ := by omega
    have ha : 235 ≠ a_n σ := by omega
    have q0 : a_R (a_setR (J_gr σ v (2 * n + 2) n) 235 0 (some (a_n σ))) 235 0 = some (a_n σ) := by
      show (if (235 : Nat) = 235 ∧ (0 : Nat) = 0 then some (a_n σ) else (J_gr σ v (2 * n + 2) n).2.2.1 235 0) = some (a_n σ)
      rw [if_pos ⟨rfl, rfl⟩]
    have q1 : ∀ c, c ≠ a_n σ → (a_setR (J_gr σ v (2 * n + 2) n) 235 0 (some (a_n σ))).1 c = σ.1 c := fun c hc9 => if_neg hc9
    have q2 : ∀ c k, c ≠ a_n σ → a_I (a_setR (J_gr σ v (2 * n + 2) n) 235 0 (some (a_n σ))) c k = a_I σ c k := fun c k hc9 => (if_neg hc9).trans (if_neg hc9)
    have q39 : ∀ c k, c ≠ a_n σ → ¬ (c = 235 ∧ k = 0) → a_R (a_setR (J_gr σ v (2 * n + 2) n) 235 0 (some (a_n σ))) c k = a_R σ c k := fun c k hc9 hk => (if_neg hk).trans (if_neg hc9)
    refine ⟨_, he, a_n σ, 2 * n + 2, (congrArg Prod.fst (q1 235 ha)).trans hk, q0, congrArg Prod.fst (if_pos rfl), .inr hn2, Nat.lt_succ_self _, congrArg Prod.snd (if_pos rfl), by omega, by omega, by omega, (q2 235 3 ha).trans h3, (q2 235 1 ha).trans h0, fun j hj => ?_, fun c k hck => ?_, fun c h1c h2c => ⟨q1 c (by omega), fun h3c k => ⟨q2 c k (by omega), q39 c k (by omega) fun z => h3c z.1⟩⟩, fun k hk0 => q39 235 k ha fun z => hk0 z.2, Nat.le_succ _, Nat.le_refl _, ?_⟩
    · refine (if_pos rfl).trans ?_
      rw [pk_cpy_in (Nat.zero_le j) (by omega), Nat.zero_add, Nat.sub_zero]
      exact (if_neg hva).trans (hf j hj).2
    · by_cases e : c = a_n σ
      · subst e
        have h9 : a_kd (a_setR (J_gr σ v (2 * n + 2) n) 235 0 (some (a_n σ))) (a_n σ) = 7 := congrArg Prod.fst (if_pos rfl)
        rw [h9] at hck
        cases hck
      · exact (if_neg e).symm
    · show a_us σ + (2 * n + 2) ≤ a_us σ + 102
      omega
/-- a letter more, behind that -/
theorem pm_add {τ σ1 : aSt} {n c : Nat} {f : Nat → Nat} (hc9 : c < 128) (hf : ∀ j, j < n → f j < 128) (hn : n < 50) (h : J_ready σ τ n f) (e19 : σ1.1 = τ.1) (e29 : σ1.2.2 = τ.2.2) (eI : ∀ v, a_R τ 235 0 = some v → (∀ a k, ¬ (a = 235 ∧ k = 3) → ¬ (a = v ∧ k = n) → a_I σ1 a k = a_I τ a k) ∧ a_I σ1 v n = nI c ∧ a_I σ1 235 3 = nI (n + 1)) : J_okl σ σ1 ∧ Sb (J_lw σ σ1) (n + 1) (fun j => if j = n then c else f j) ∧ Ms σ (J_lw σ σ1) := by
  obtain ⟨v, m, t1, t2, t3, t4, t5, t6, t7, t8, t9, t10, t11, t12, t13, t14, t15, t16, t17, t18⟩ := h
  obtain ⟨i19, i2, i3⟩ := eI v t2
  have hR : ∀ a k, a_R σ1 a k = a_R τ a k := fun a k => by unfold a_R; rw [e29]
  have hL : ∀ a k, a_L σ1 a k = a_L τ a k := fun a k => by unfold a_L; rw [e29]
  have hK9 : ∀ a, a_kd σ1 a = a_kd τ a := fun a => by unfold a_kd; rw [e19]
  have hva : v ≠ 235 := by omega
  refine ⟨fun a k hk => by rw [hL]; exact t13 a k (by rw [← hK9]; exact hk), ⟨v, m, (hR 235 0).trans t2, (hK9 v).trans t3, t4, ?_, ?_, t7, t8, t9, i3, (i19 235 1 (by decide) fun z => hva z.1.symm).trans t11, fun j hj => ?_⟩, fun a h1 h2 => ⟨(congrFun e19 a).trans (t14 a h1 h2).1, fun h3 k => ⟨(i19 a k (fun z => h3 z.1) fun z => by omega).trans ((t14 a h1 h2).2 h3 k).1, (hR a k).trans ((t14 a h1 h2).2 h3 k).2⟩⟩, fun k hk => (hR 235 k).trans (t15 k hk), fun _ _ => rfl, ?_, ?_, ?_⟩
  · show v < a_n σ1
    unfold a_n; rw [e29]; exact t5
  · show a_ln σ1 v = m
    unfold a_ln; rw [e19]; exact t6
  · by_cases e : j = n
    · subst e
      show (if j = j then c else f j) < 128 ∧ a_I σ1 v j = nI (if j = j then c else f j)
      rw [if_pos rfl]
      exact ⟨hc9, i2⟩
    · show (if j = n then c else f j) < 128 ∧ a_I σ1 v j = nI (if j = n then c else f j)
      rw [if_neg e]
      exact ⟨hf j (by omega), (i19 v j (fun z => hva z.1) fun z => e z.2).trans (t12 j (by omega))⟩
  · show a_n σ ≤ a_n σ1
    unfold a_n; rw [e29]; exact t16
  · show a_uc σ1 ≤ a_uc σ + 1
    unfold a_uc; rw [e29]; exact t17
  · show a_us σ1 ≤ a_us σ + 102
    unfold a_us; rw [e29]; exact t18
theorem pm_app {n c : Nat} {f : Nat → Nat} (S : Sh σ) (h : Sb σ n f) (hc9 : c < 128) (hn : n < 50) : ∃ σ', a_prim b 1011 [.ref 235, .int (nI c)] σ = some (.inl (some (.ref 235)), σ') ∧ Sb σ' (n + 1) (fun j => if j = n then c else f j) ∧ Ms σ σ' := by
  obtain ⟨hk, -, v0, m0, -, -, -, -, -, -, -, -, h3, -, hf⟩ := sb_0 S h
  obtain ⟨τ, he, hr⟩ := pm_ens (b := b) S h hn
  obtain ⟨v, m, t1, t2, t3, t4, t5, t6, t7, t8, t9, t10, t11, t12, t13⟩ := id hr
  have ha := js_appA (b := b) (lv := 2) (d := 11) (σ := σ) he hk h3 t1 (by decide) t2 (show v ≠ 235 by omega) (by omega) t3 (by rw [t6]; exact t9) (by omega) t11 t10 hc9 (by decide)
  have hb := js_app (b := b) (lv := 2) (d := 12) (σ := σ) ha hk (by decide)
  obtain ⟨o1, o2, o3⟩ := pm_add (σ1 := a_setI (a_setI τ 235 3 (nI (n + 1))) v n (nI c)) hc9 (fun j hj => (hf j hj).1) hn hr rfl rfl fun v' hv' => by
    cases t2.symm.trans hv'
    refine ⟨fun a k n1 n2 => ?_, a_I_at, ?_⟩
    · rw [a_I_off ((Classical.em (a = v)).elim (fun e => Or.inr fun z => n2 ⟨e, z⟩) Or.inl), a_I_off ((Classical.em (a = 235)).elim (fun e => Or.inr fun z => n1 ⟨e, z⟩) Or.inl)]
    · rw [a_I_off (.inl (by omega))]
      exact a_I_at
  refine ⟨_, ?_, o2, o3⟩
  show J_w b 2002 [.ref 235, .int (nI c)] σ = _
  rw [J_w_at hk]
  exact J_i_of hb o1
theorem pm_api {n c : Nat} {f : Nat → Nat} (S : Sh σ) (h : Sb σ n f) (hc9 : c < 10) (hn : n < 50) : ∃ σ', a_prim b 1012 [.ref 235, .int (nI c)] σ = some (.inl (some (.ref 235)), σ') ∧ Sb σ' (n + 1) (fun j => if j = n then 48 + c else f j) ∧ Ms σ σ' := by
  obtain ⟨hk, -, v0, m0, -, -, -, -, -, -, -, -, h3, -, hf⟩ := sb_0 S h
  obtain ⟨τ, he, hr⟩ := pm_ens (b := b) S h hn
  obtain ⟨v, m, t1, t2, t3, t4, t5, t6, t7, t8, t9, t10, t11, t12, t13⟩ := id hr
  have ha := js_apiA (b := b) (lv := 2) (d := 11) (σ := σ) he hk h3 t1 (by decide) t2 (show v ≠ 235 by omega) (by omega) t3 (by rw [t6]; exact t9) (by omega) t11 hc9 (by decide)
  have hb := js_api (b := b) (lv := 2) (d := 12) (σ := σ) ha hk (by decide)
  obtain ⟨o1, o2, o3⟩ := pm_add (σ1 := a_setI (a_setI τ v n (nI (48 + c))) 235 3 (nI (n + 1))) (c := 48 + c) (by omega) (fun j hj => (hf j hj).1) hn hr rfl rfl fun v' hv' => by
    cases t2.symm.trans hv'
    refine ⟨fun a k n1 n2 => ?_, ?_, a_I_at⟩
    · rw [a_I_off ((Classical.em (a = 235)).elim (fun e => Or.inr fun z => n1 ⟨e, z⟩) Or.inl), a_I_off ((Classical.em (a = v)).elim (fun e => Or.inr fun z => n2 ⟨e, z⟩) Or.inl)]
    · rw [a_I_off (.inl (show v ≠ 235 by omega))]
      exact a_I_at
  refine ⟨_, ?_, o2, o3⟩
  show J_w b 2004 [.ref 235, .int (nI c)] σ = _
  rw [J_w_at hk]
  exact J_i_of hb o1
end PMJ
theorem pm_all (b : Bool) : Pm (a_prim b) := by
  refine ⟨fun x y σ => rfl, fun x y σ => rfl, fun x y σ => rfl, fun x y σ => ?_, fun x σ => ⟨J_bits x, ?_, fun n hn hx => by rw [hx]; exact J_bits_n hn⟩, fun a c n σ h1 h2 h3 h4 h5 h6 h7 h8 => ?_, fun a v σ h1 h2 h3 => if_pos ⟨h1, h2, h3⟩, fun s σ h1 h2 h3 => ?_, fun s i σ h1 h2 h3 h4 => ?_, fun σ n f S h => pm_set S h, fun σ n f c S h hc9 hn => pm_app S h hc9 hn, fun σ n f v S h hv hn => pm_api S h hv hn, fun σ n f S h => pm_len S h, fun σ n f i S h hi => pm_cha S h hi⟩
  · show J_l (a_call (a_tabJ b) (P_J b 2) 12 2019 [.int x, .int y] σ) = _
    rw [js_compare (by decide)]
    rfl
  · show J_l (a_call (a_tabJ b) (P_J b 2) 12 2020 [.int x] σ) = _
    rw [js_bits (by decide)]
    rfl
  · rw [← cpx_cpy]
    exact j_cpi h1 h2 h6 h7 h8
  · rw [q_a_txt s h2]
    exact if_pos ⟨rfl, h3, h1, h2⟩
  · rw [q_a_txt s h2] at h4 ⊢
    have ht := (t_txt h2).1
    have e : (nI i).toNatClampNeg = i := nI_clamp (by omega)
    show (if 1008 = 1008 ∧ a_kd σ s = 6 ∧ 1 ≤ s ∧ s ≤ 18 ∧ ¬ nI i < 0 ∧ (nI i).toNatClampNeg < (a_txt s).length then (some (Sum.inl (some (.int (nI ((a_txt s).getD (nI i).toNatClampNeg 0)))), σ) : Option (aRes × aSt)) else none) = _
    rw [e]
    exact if_pos ⟨rfl, h3, h1, h2, nI_pos (by omega), h4⟩
theorem pm_ini (b : Bool) : ∀ (a : Nat) (σ : aSt), a_kd σ a = 11 → 100 ≤ a → a_prim b 1010 [.ref a] σ = some (Sum.inl none, a_sbi σ a) := fun a σ hk ha => if_pos ⟨hk, ha⟩
