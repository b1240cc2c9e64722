/-! the fixed things, at the start -/
theorem n_ids : a_strs.all (fun q => decide (1 ≤ q.2.2.1) && decide (q.2.2.1 < 59)) = true := by decide +kernel
def n_r (b0 u t0 : Nat) (ad : Nat → Nat × Nat) : Nat → Nat := fun i => if i = 0 then b0 else if i = 59 then t0 else if i = 60 then u else if 60 < i then (ad (i - 60)).2 else (ad i).1
def n_X (s : State) (v : Value) (r : Nat → Nat) : State → Heap → Prop := fun U H =>
  va_Z "java/lang/String" "COMPACT_STRINGS" "Z" (.int 1) (n_A s) U H ∧ va_Z "java/lang/Integer" "DigitOnes" "[B" (.ref (r 60)) (n_A s) U H ∧ va_Z "jdk/internal/util/Preconditions" "SIOOBE_FORMATTER" "Ljava/util/function/BiFunction;" v (n_A s) U H ∧
  (∀ a, 60 ≤ a → a ≤ 78 → va_T .byte (r a) (a_tbl a).length (fun j => .int (Int32.ofNat ((a_tbl a).getD j 0))) (n_A s) U H) ∧
  (∀ a, 1 ≤ a → a ≤ 18 → va_OF "java/lang/String" "value" "[B" (.ref (r (60 + a))) (r a) (n_A s) U H ∧ va_OF "java/lang/String" "coder" "B" (.int 0) (r a) (n_A s) U H) ∧
  (∀ w ∈ xc_L, va_Nw w U) ∧
  (va_Nc "java/util/NoSuchElementException" "java/lang/IllegalArgumentException" U ∧ va_Nc "java/lang/IllegalArgumentException" "java/util/NoSuchElementException" U) ∧ (va_Nw (.selects RJ4 yJ5_ensureCapacityInternal_d00df yJ5_ensureCapacityInternal_d00df) U ∧ va_Nw (.selects RJ4 yJ5_newCapacity_0f7a4 yJ5_newCapacity_0f7a4) U) ∧ s.heap.size ≤ H.size
theorem n_nwform : ∀ w ∈ a_nw, (∃ a i x h, w = Jvm.Cond.methodLinkNest a i x h) ∨ ∃ a b, w = Jvm.Cond.castable a b := by
  unfold a_nw
  simp only [List.mem_cons, List.not_mem_nil, or_false]
  rintro w (rfl | rfl | rfl | rfl | rfl | rfl)
  · exact .inl ⟨_, _, _, _, rfl⟩
  · exact .inl ⟨_, _, _, _, rfl⟩
  · exact .inl ⟨_, _, _, _, rfl⟩
  · exact .inl ⟨_, _, _, _, rfl⟩
  · exact .inr ⟨_, _, rfl⟩
  · exact .inr ⟨_, _, rfl⟩
theorem n_hasb : (List.range 18).all (fun i => a_strs.any fun q => decide (q.2.2.1 = i + 1)) = true := by decide +kernel
theorem n_has (i : Nat) (h1 : 1 ≤ i) (h2 : i ≤ 18) : ∃ q, q ∈ a_strs ∧ q.2.2.1 = i := by
  have h := List.all_eq_true.mp n_hasb (i - 1) (List.mem_range.mpr (by omega))
  obtain ⟨q, hq, e⟩ := List.any_eq_true.mp h
  exact ⟨q, hq, by rw [of_decide_eq_true e]; omega⟩
section NFIX
variable {b0 L : Nat} {s : State} {xs : Nat → Int32}
theorem n_cls_all (ham : ∀ w ∈ am_ws, w.before #[Value.ref b0] s = true) (hts : ∀ w ∈ lw_tbl, w.before #[Value.ref b0] s = true) : ∀ c : Nat, ∃ q : ClassId × (Nat → Nat), ∀ cl, vwCl[c]? = some cl → u_Kn s cl.1 cl.2.1 cl.2.2 q.1 q.2 := fun c => by
  match c with
  | 0 => obtain ⟨cC, iS, h⟩ := nu_0 ham hts; exact ⟨(cC, iS), fun cl e => by cases e; exact h⟩
  | 1 => obtain ⟨cC, iS, h⟩ := nu_1 ham hts; exact ⟨(cC, iS), fun cl e => by cases e; exact h⟩
  | 2 => obtain ⟨cC, iS, h⟩ := nu_2 ham hts; exact ⟨(cC, iS), fun cl e => by cases e; exact h⟩
  | 3 => obtain ⟨cC, iS, h⟩ := nu_3 ham hts; exact ⟨(cC, iS), fun cl e => by cases e; exact h⟩
  | 4 => obtain ⟨cC, iS, h⟩ := nu_4 ham hts; exact ⟨(cC, iS), fun cl e => by cases e; exact h⟩
  | 5 => obtain ⟨cC, iS, h⟩ := nu_5 ham hts; exact ⟨(cC, iS), fun cl e => by cases e; exact h⟩
  | 6 => obtain ⟨cC, iS, h⟩ := nu_6 ham hts; exact ⟨(cC, iS), fun cl e => by cases e; exact h⟩
  | 7 => obtain ⟨cC, iS, h⟩ := nu_7 ham hts; exact ⟨(cC, iS), fun cl e => by cases e; exact h⟩
  | 8 => obtain ⟨cC, iS, h⟩ := nu_8 ham hts; exact ⟨(cC, iS), fun cl e => by cases e; exact h⟩
  | 9 => obtain ⟨cC, iS, h⟩ := nu_9 ham hts; exact ⟨(cC, iS), fun cl e => by cases e; exact h⟩
  | 10 => obtain ⟨cC, iS, h⟩ := nu_10 ham hts; exact ⟨(cC, iS), fun cl e => by cases e; exact h⟩
  | c + 11 =>
    refine ⟨(0, fun _ => 0), fun cl e => ?_⟩
    rw [List.getElem?_eq_none (show vwCl.length ≤ c + 11 from Nat.le_add_left 11 c)] at e
    cases e
theorem n_arr_all (hts : ∀ w ∈ lw_tbl, w.before #[Value.ref b0] s = true) : ∀ k : Nat, ∃ q : ClassId, ∀ ty, a_aty k = some ty → ArrOfT s q ty ∧ va_RA s q ty := fun k => by
  match k with
  | 0 => exact ⟨0, fun ty e => by cases e⟩
  | 1 => obtain ⟨q, h⟩ := n_arrT (hts _ na_1) (fun C z => by cases z); exact ⟨q, fun ty e => by cases e; exact h⟩
  | 2 => obtain ⟨q, h⟩ := n_arrT (hts _ na_2) (fun C z => by cases z); exact ⟨q, fun ty e => by cases e; exact h⟩
  | 3 => obtain ⟨q, h⟩ := n_arrO (hts _ na_3); exact ⟨q, fun ty e => by cases e; exact h⟩
  | 4 => obtain ⟨q, h⟩ := n_arrO (hts _ na_4); exact ⟨q, fun ty e => by cases e; exact h⟩
  | 5 => exact ⟨0, fun ty e => by cases e⟩
  | 6 => exact ⟨0, fun ty e => by cases e⟩
  | 7 => obtain ⟨q, h⟩ := n_arrT (hts _ na_7) (fun C z => by cases z); exact ⟨q, fun ty e => by cases e; exact h⟩
  | k + 8 => exact ⟨0, fun ty e => by cases e⟩
theorem n_fix1 (bb : Bool) (t0 : Nat) (hz : va_Z "jdk/internal/util/Preconditions" "SIOOBE_FORMATTER" "Ljava/util/function/BiFunction;" (if bb then .ref t0 else .null) (n_A s) s s.heap) (hn : n_at b0 s) (ham : ∀ w ∈ am_ws, w.before #[Value.ref b0] s = true) (hts : ∀ w ∈ lw_tbl, w.before #[Value.ref b0] s = true) (hX : va_X b0 L xs s s.heap) (hbl : b0 < s.heap.size) : ∃ F : aFix, C_all F ∧ J_fix F bb ∧ J_sel F ∧ a_ncok F ∧ a_fix F ∧ a_env F s s.heap ∧ f_r F 0 = b0 ∧ f_A F = n_A s ∧ f_sL F = L ∧ f_sX F = xs := by
  obtain ⟨ad, had⟩ := Classical.axiomOfChoice (n_all hn)
  obtain ⟨u, hu, hT9⟩ := va_Tof (tm := nt_d) (ty := .byte) (N := nb_d.length) (f := fun j => .int (Int32.ofNat (nb_d.getD j 0))) (A := n_A s) (by decide) (nd_arr hn).1 (va_eqt (nd_arr hn).2) (fun j hj => va_eqt (ne_d hn j hj)) n_Ano
  obtain ⟨D, hD⟩ := Classical.axiomOfChoice (n_cls_all ham hts)
  obtain ⟨tt, htt⟩ := Classical.axiomOfChoice (n_arr_all hts)
  have r60 : n_r b0 u t0 ad 60 = u := rfl
  have rs : ∀ i, 1 ≤ i → i < 59 → n_r b0 u t0 ad i = (ad i).1 := fun i h1 h2 => by
    unfold n_r
    rw [if_neg (by omega), if_neg (by omega), if_neg (by omega), if_neg (by omega)]
  have rb : ∀ i, 1 ≤ i → n_r b0 u t0 ad (60 + i) = (ad i).2 := fun i h1 => by
    unfold n_r
    rw [if_neg (by omega), if_neg (by omega), if_neg (by omega), if_pos (by omega), Nat.add_sub_cancel_left]
  have hx0 : n_X s (if bb then .ref t0 else .null) (n_r b0 u t0 ad) s s.heap := by
    refine ⟨va_Zof (hts _ nl_c.1) (hts _ nl_c.2) (va_eqt (nz_c hn)) n_Ano, va_Zref (hts _ nl_d.1) (hts _ nl_d.2) hu n_Ano, hz, fun a h1 h2 => ?_, fun a h1 h2 => ?_, fun w hw => va_Nw.of (xc_tab w hw) (hts w (xc_in w hw)), ⟨va_Nc.of (nc_01 hn), va_Nc.of (nc_10 hn)⟩, ⟨va_Nw.of rfl (n_selp (hts _ nv_0.1) (hts _ nv_0.2.1) (hts _ nv_0.2.2.1) (hts _ nv_0.2.2.2)), va_Nw.of rfl (n_selp (hts _ nv_1.1) (hts _ nv_1.2.1) (hts _ nv_1.2.2.1) (hts _ nv_1.2.2.2))⟩, Nat.le_refl _⟩
    · by_cases h60 : a = 60
      · subst h60
        rw [r60, nb_d_ok]
        exact hT9
      · obtain ⟨i, rfl⟩ : ∃ i, a = 60 + i := ⟨a - 60, by omega⟩
        have e : a_tbl (60 + i) = a_txt i := by rw [t_len i (by omega), if_neg (by omega)]
        rw [rb i (by omega), e]
        have h := (had i).2.2.2.2
        rw [n_bs_txt i (by omega) (by omega)] at h
        exact h
    · rw [rb a h1, rs a h1 (by omega)]
      exact ⟨(had a).2.2.2.1, (had a).2.2.1⟩
  refine ⟨((fun c => (D c).1, fun c => (D c).2), tt, n_A s, n_r b0 u t0 ad, L, xs, a_strs, a_nw, n_X s (if bb then .ref t0 else .null) (n_r b0 u t0 ad)), ⟨rfl, rfl, fun U H h => h.2.2.2.2.2.1⟩, ⟨fun U H h => h.1, fun U H h => h.2.1, fun U H h => ?_⟩, fun U H h => h.2.2.2.2.2.2.2.1, fun U H h => h.2.2.2.2.2.2.1, ⟨n_nwform, fun s9 U H H1 hW hz hq h => ?_, fun U H h q hq => Nat.le_trans h.2.2.2.2.2.2.2.2 hq, fun U H h => ⟨h.2.2.2.1, h.2.2.2.2.1⟩⟩, ⟨⟨fun c q hq => hD c q hq, fun k q hk => by simp at hk⟩, htt, ⟨vx_Zqof (hts _ nl_u.1) (hts _ nl_u.2) (nz_u hn) n_Ano, vx_Zqof (hts _ nl_s.1) (hts _ nl_s.2) (nz_s hn) n_Ano⟩, ⟨hX, hbl, Nat.not_le.mpr hbl⟩, fun q hq => ?_, n_nw hts, ⟨va_AO.of (hts _ na_3), va_AO.of (hts _ na_4)⟩, hx0⟩, rfl, rfl, rfl, rfl⟩
  · have h3 := h.2.2.1
    cases bb
    · exact h3
    · exact h3
  · have hal := hW.alike
    obtain ⟨g1, g2, g39, g4, g5, g6, ⟨g8, g9⟩, ⟨g11, g12⟩, g10⟩ := h
    exact ⟨(va_Z.moved hal g1).kept hq, (va_Z.moved hal g2).kept hq, (va_Z.moved hal g39).kept hq, fun a h1 h2 => (va_T.moved hal (g4 a h1 h2)).kept hq, fun a h1 h2 => ⟨(va_OF.moved hal (g5 a h1 h2).1).kept hq, (va_OF.moved hal (g5 a h1 h2).2).kept hq⟩, fun w hw => xc_warm hW w hw (g6 w hw), ⟨va_Nc.moved hal g8, va_Nc.moved hal g9⟩, ⟨word_at hW (good_of_word rfl) g11, word_at hW (good_of_word rfl) g12⟩, Nat.le_trans g10 hz⟩
  · have hq2 := List.all_eq_true.mp n_ids q hq
    rw [Bool.and_eq_true, decide_eq_true_eq, decide_eq_true_eq] at hq2
    have e : n_r b0 u t0 ad q.2.2.1 = (ad q.2.2.1).1 := rs _ hq2.1 hq2.2
    show vk_R q.1 q.2.1 q.2.2.2 (n_r b0 u t0 ad q.2.2.1) s ∧ va_O "java/lang/String" (n_r b0 u t0 ad q.2.2.1) (n_A s) s s.heap ∧ q.2.2.1 < 100
    rw [e]
    exact ⟨n_kall hn hts (ad := fun i => (ad i).1) (fun i _ => (had i).1) q hq, (had q.2.2.1).2.1, by omega⟩
theorem n_fix (hn : n_at b0 s) (ham : ∀ w ∈ am_ws, w.before #[Value.ref b0] s = true) (hts : ∀ w ∈ lw_tbl, w.before #[Value.ref b0] s = true) (hX : va_X b0 L xs s s.heap) (hbl : b0 < s.heap.size) : ∃ (bb : Bool) (F : aFix), C_all F ∧ J_fix F bb ∧ J_sel F ∧ a_ncok F ∧ a_fix F ∧ a_env F s s.heap ∧ f_r F 0 = b0 ∧ f_A F = n_A s ∧ f_sL F = L ∧ f_sX F = xs := by
  rcases va_Zqof (hts _ nl_f.1) (hts _ nl_f.2) (nz_f hn) (n_Ano (s := s)) with h | ⟨t0, h⟩
  · exact ⟨false, n_fix1 false 0 h hn ham hts hX hbl⟩
  · exact ⟨true, n_fix1 true t0 h hn ham hts hX hbl⟩
/-- the abstract start, over the real one -/
theorem n_hp {F : aFix} (hT9 : f_T F = a_strs) (h1 : f_sL F = L) (h2 : f_sX F = xs) {H : Heap} : a_hp F (f_r F) (o_phi L xs o_s0) H := by
  have hk : ∀ i, a_kd (o_phi L xs o_s0) i = if i = 0 then 5 else if 1 ≤ i ∧ i ≤ 18 then 6 else 0 := fun i => by
    show (if i = 0 then (5, L) else if 1 ≤ i ∧ i ≤ 18 then (6, 0) else (0, 0)).1 = _
    by_cases h0 : i = 0
    · rw [if_pos h0, if_pos h0]
    · rw [if_neg h0, if_neg h0]
      by_cases h1 : 1 ≤ i ∧ i ≤ 18
      · rw [if_pos h1, if_pos h1]
      · rw [if_neg h1, if_neg h1]
  have hbig : ∀ i, 19 ≤ i → a_kd (o_phi L xs o_s0) i = 0 := fun i hi => by rw [hk, if_neg (by omega), if_neg (by omega)]
  refine ⟨fun i _ => rfl, Nat.le_refl 100, fun i hi => ?_, fun i j hi hj ki _ => absurd (hbig i (by omega)) ki, fun i hi ki => absurd (hbig i (by omega)) ki, fun i hi => ?_, fun i hi => ?_, fun i hi => ?_⟩
  · show i < 100
    by_cases h : 19 ≤ i
    · exact absurd (hbig i h) hi
    · omega
  · rw [hk] at hi
    by_cases h0 : i = 0
    · subst h0
      exact ⟨rfl, h1.symm, fun j hj => by rw [h2]; rfl⟩
    · rw [if_neg h0] at hi
      split at hi <;> cases hi
  · rw [hk] at hi
    by_cases h0 : i = 0
    · rw [if_pos h0] at hi; cases hi
    · rw [if_neg h0] at hi
      by_cases h3 : 1 ≤ i ∧ i ≤ 18
      · rw [hT9]
        exact n_has i h3.1 h3.2
      · rw [if_neg h3] at hi; cases hi
  · rw [hk]
    by_cases h0 : i = 0
    · rw [if_pos h0]; exact .inr (.inl rfl)
    · rw [if_neg h0]
      by_cases h3 : 1 ≤ i ∧ i ≤ 18
      · rw [if_pos h3]; exact .inr (.inr rfl)
      · rw [if_neg h3]; exact .inl rfl
end NFIX
