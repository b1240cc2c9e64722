/-! the model: forget, heal -/
section MOK
variable {P : aCall} {d : Nat} {σ : aSt} {X : Pal} {hs : List Pal} {sn : Option Pal} {x y z : Int32}
theorem y_forget (hd : 5 ≤ d) (K : KM σ X hs sn) : OR (a_call a_tab P d 203 [.ref 237, .int x] σ) σ X hs sn (o_forget X hs x) := by
  have h20 := K.2.2.1.1
  have V := K.2.2.1
  obtain ⟨m, rfl, ht⟩ := o_ex x
  unfold o_forget
  rw [ht, n_X8_forget (by omega), b_X8_forget_0 K.1, y_isMix (by omega) K.1 K.2.1 K.2.2.1, g_v, b_X8_forget_6 K.1, ht]
  by_cases c1 : m < X.1 1
  · have K0 := K.s6 (v := nI 0)
    obtain ⟨s1, e1, m1, K1⟩ := y_record (P := P) (d := d - 1) (by omega) K0
    have f1 : a_I s1 238 1 = nI (X.1 1) := K1.2.1.2.2.2.1.2.1
    obtain ⟨n, hn⟩ : ∃ n, X.1 1 = n + 1 := ⟨X.1 1 - 1, by omega⟩
    have ms : Mo S238 s1 (a_setI s1 238 1 (nI n)) := Mo.set rfl
    obtain ⟨s2, ⟨i2, j1, j2, j3, j4⟩, e2⟩ := up_st (run := fun i τ => b_R (a_call a_tab P (d - 1)) kX8_forget [] (37, [some (.ref 237), some (.int (nI m)), some (.int (nI i))], [], τ)) (n := 288 + 18 * n) (I := fun i τ => 288 + 18 * m ≤ i ∧ Mo S238 s1 τ ∧ a_I τ 238 1 = nI n ∧ (∀ k, 288 + 18 * m ≤ k → k < i → a_I τ 238 k = a_I s1 238 (k + 18)) ∧ ∀ k, k ≠ 1 → (k < 288 + 18 * m ∨ i ≤ k) → a_I τ 238 k = a_I s1 238 k)
      (fun i τ hi ⟨i1, m2, g1, g2, g3⟩ => by
        have hh := m2.sh K1.1
        have er : a_I τ 238 (i + 18) = a_I s1 238 (i + 18) := g3 (i + 18) (by omega) (by omega)
        refine ⟨a_setI τ 238 i (a_I s1 238 (i + 18)), ⟨by omega, m2.then_set rfl, by rw [a_I_off (.inr (by omega))]; exact g1, fun k hk1 hk2 => ?_, fun k hk1 hk2 => ?_⟩, ?_⟩
        · by_cases hki : k = i
          · subst hki; exact a_I_at
          · rw [a_I_off (.inr hki)]; exact g2 k hk1 (by omega)
        · rw [a_I_off (.inr (by omega))]; exact g3 k hk1 (by omega)
        · (try dsimp only)
          rw [b_X8_forget_37 hh (m2.rw K1.2.1.1), b_gd_t (nIi (by decide) (by decide)), nIc (by decide), g1, pk_mul, nI_add, if_pos (nIl hi (by omega)), nI_add, b_gd_t (nIi (by omega) (by decide)), b_gd_t (nIi (by omega) (by decide)), nIc (by omega), nIc (by omega), er, nI_add]) (18 * (n - m)) (288 + 18 * m) (a_setI s1 238 1 (nI n)) (by omega) ⟨Nat.le_refl _, ms, a_I_at, fun k h1 h2 => by omega, fun k h1 h2 => a_I_off (.inr h1)⟩
    obtain ⟨s3, ⟨q1, q2, q3⟩, e3⟩ := up_st0 (run := fun i τ => b_R (a_call a_tab P (d - 1)) kX8_forget [] (77, [some (.ref 237), some (.int (nI m)), some (.int (nI i))], [], τ)) (n := 18) (s := s2) (fun i τ => Mo S238 s1 τ ∧ a_I τ 238 1 = nI n ∧ ∀ k, (k < 288 + 18 * n ∨ 288 + 18 * n + 18 ≤ k) → a_I τ 238 k = a_I s2 238 k) ⟨j1, j2, fun k _ => rfl⟩
      (fun i τ hi ⟨m2, g1, g2⟩ => by
        have hh := m2.sh K1.1
        refine ⟨a_setI τ 238 (288 + 18 * n + i) (nI 0), ⟨m2.then_set rfl, by rw [a_I_off (.inr (by omega))]; exact g1, fun k hk => by rw [a_I_off (.inr (by omega))]; exact g2 k hk⟩, ?_⟩
        (try dsimp only)
        rw [b_X8_forget_77 hh (m2.rw K1.2.1.1), if_pos (nIl hi (by decide)), b_gd_t (nIi (by decide) (by decide)), nIc (by decide), g1, y_layMix (by omega) hh (m2.rw K1.2.1.1) (by omega) hi, g_n, b_X8_forget_95, nI_add])
    have K2 : KM s3 (z_del X m) (z_push X hs) sn := by
      refine K1.upd q1 (fun b k z => .inl z) (K1.2.1.2.2.2.up1 V (fun k hk hk1 => ?_) (by rw [hn]; exact q2) fun r hr => ?_) (z_del_vd V)
      · rw [q3 k (by omega), j4 k hk1 (by omega)]
      · rw [hn] at hr
        have hr : r < n := hr
        by_cases hrm : r < m
        · have hM : MM (a_I s1 238) r (X.2 1 r) := K1.2.1.2.2.2.2.2.1 r (by omega)
          rw [show (fun k => if r < m then X.2 1 r k else X.2 1 (r + 1) k) = X.2 1 r from funext fun k => if_pos hrm]
          exact hM.eq2 (V.lm (by omega)) (V.m (by omega)).2.1 fun k hk => by rw [q3 _ (by omega), j4 _ (by omega) (by omega)]
        · have hM : MM (a_I s1 238) (r + 1) (X.2 1 (r + 1)) := K1.2.1.2.2.2.2.2.1 (r + 1) (by omega)
          rw [show (fun k => if r < m then X.2 1 r k else X.2 1 (r + 1) k) = X.2 1 (r + 1) from funext fun k => if_neg hrm]
          exact hM.eq2 (V.lm (by omega)) (V.m (by omega)).2.1 fun k hk => by rw [q3 _ (by omega), j3 _ (by omega) (by omega)]; exact congrArg (a_I s1 238) (by omega)
    have e2 : b_R (a_call a_tab P (d - 1)) kX8_forget [] (37, [some (.ref 237), some (.int (nI m)), some (.int (nI (288 + 18 * m)))], [], a_setI s1 238 1 (nI n)) = _ := e2
    have e3 : b_R (a_call a_tab P (d - 1)) kX8_forget [] (77, [some (.ref 237), some (.int (nI m)), some (.int (nI 0))], [], s2) = _ := e3
    rw [if_pos c1, decide_eq_true c1, show b_n true = nI 1 from rfl, y_lacksT (by omega) K.1, g_v, b_X8_forget_9 K0.1, if_pos (show nI 0 = 0 from rfl), e1, g_n, b_X8_forget_18 K1.1 K1.2.1.1, b_gd_t (nIi (by decide) (by decide)), b_gd_t (nIi (by decide) (by decide)), nIc (by decide), f1, hn, nI_s1, pk_mul, nI_add, e2]
    (try dsimp only)
    rw [b_X8_forget_37 (j1.sh K1.1) (j1.rw K1.2.1.1), b_gd_t (nIi (by decide) (by decide)), nIc (by decide), j2, pk_mul, nI_add, if_neg (nIn (Nat.le_refl _) (by omega)), e3]
    (try dsimp only)
    rw [b_X8_forget_77 K2.1 K2.2.1.1, if_neg (by decide), b_gd_t (nIi (by decide) (by decide)), nIc (by decide), q2]
    exact ⟨s3, rfl, (Mo.m6.tr (m1.mono Yr.m)).tr (q1.mono S238.m), K2, by rw [S238.n6 q1, Yr.n6 m1]; exact a_I_at⟩
  · rw [if_neg c1, decide_eq_false c1, show b_n false = nI 0 from rfl, y_lacksF (by omega) K.1, g_v, b_X8_forget_9 K.s6.1, if_neg (show ¬ nI 1 = 0 by decide)]
    exact ⟨_, rfl, Mo.m6, K.s6, a_I_at⟩
/-! whether one is found -/
theorem q_s_ge {f : Nat → Nat} : ∀ {n i : Nat}, i < n → f i ≤ q_s f n
  | 0, i, h => absurd h (Nat.not_lt_zero _)
  | n + 1, i, h => by
    show f i ≤ q_s f n + f n
    by_cases e : i = n
    · subst e; omega
    · have := q_s_ge (f := f) (n := n) (i := i) (by omega)
      omega
theorem q_s_0 {f : Nat → Nat} : ∀ {n : Nat}, q_s f n ≠ 0 → ∃ i, i < n ∧ f i ≠ 0
  | 0, h => absurd rfl h
  | n + 1, h => by
    by_cases e : f n = 0
    · have h : q_s f n + f n ≠ 0 := h
      obtain ⟨i, h1, h2⟩ := q_s_0 (f := f) (n := n) (by omega)
      exact ⟨i, by omega, h2⟩
    · exact ⟨n, by omega, e⟩
theorem z_stp_ne {aim : Nat} {s : Option Cnd} {c : Cnd} : z_stp X aim s c ≠ none := by
  unfold z_stp
  cases s with
  | none => exact fun h => by cases h
  | some b =>
    (try dsimp only)
    split
    · exact fun h => by cases h
    · exact fun h => by cases h
theorem z_shr_ne {aim : Nat} : ∀ (l : List Nat) (left : Nat) (acc : Cnd) (s : Option Cnd), s ≠ none → z_shr X aim l left acc s ≠ none
  | [], _, _, s, h => by unfold z_shr; exact h
  | [t], left, acc, s, h => by unfold z_shr; exact z_stp_ne
  | t :: u :: l, left, acc, s, h => by
    unfold z_shr
    exact q_fold_inv (Q := fun s => s ≠ none) (fun i s hs => z_shr_ne (u :: l) _ _ s hs) _ _ _ h
theorem z_cho_ne {aim tot : Nat} : ∀ (n : Nat) (l ch : List Nat) (s : Option Cnd), s ≠ none → z_cho X aim tot n l ch s ≠ none
  | 0, l, ch, s, h => by unfold z_cho; exact z_shr_ne _ _ _ _ h
  | n + 1, [], ch, s, h => by unfold z_cho; exact h
  | n + 1, t :: l, ch, s, h => by
    unfold z_cho
    exact z_cho_ne (n + 1) l ch _ (z_cho_ne n l _ s h)
theorem z_near_ne (V : Vd X) {aim : Nat} (h : z_inuse X ≠ 0) : z_near X aim 3 ≠ none := by
  obtain ⟨t, ht, hu⟩ := q_s_0 h
  have hu : z_use X t = true := by
    cases e : z_use X t with
    | true => rfl
    | false => rw [e] at hu; exact absurd rfl hu
  have hm : t ∈ z_U X := List.mem_filter.mpr ⟨List.mem_range.mpr ht, hu⟩
  have p1 : z_ph X aim 1 none ≠ none := by
    unfold z_ph
    obtain ⟨j, hj⟩ : ∃ j, X.1 4 + 1 - 1 = j + 1 := ⟨X.1 4 - 1, by have := V.2.2.2.1.1; omega⟩
    rw [hj]
    refine q_fold_inv (Q := fun s => s ≠ none) (fun i s hs => z_cho_ne _ _ _ _ hs) j (1 + 1) _ ?_
    cases hU : z_U X with
    | nil => rw [hU] at hm; cases hm
    | cons u l =>
      show z_cho X aim 1 (0 + 1) (u :: l) [] none ≠ none
      rw [z_cho]
      refine z_cho_ne _ _ _ _ ?_
      rw [z_cho]
      show z_shr X aim [u] 1 [] none ≠ none
      rw [z_shr]
      exact z_stp_ne
  have st : ∀ n s, s ≠ none → z_ph X aim n s ≠ none := fun n s hs => by
    unfold z_ph
    exact q_fold_inv (Q := fun s => s ≠ none) (fun i s hs => z_cho_ne _ _ _ _ hs) _ _ _ hs
  exact st 3 _ (st 2 _ p1)
theorem z_ok_inuse {c : Cnd} (h : z_ok X c) : z_inuse X ≠ 0 := by
  obtain ⟨h1, -, -, h4⟩ := h
  cases c with
  | nil => cases h1
  | cons q c =>
    obtain ⟨a1, a2, -⟩ := h4 q List.mem_cons_self
    have := q_s_ge (f := fun t => z_1 (z_use X t)) a1
    rw [a2] at this
    have : 1 ≤ z_inuse X := this
    omega
theorem y_heal (hd : 17 ≤ d) (K : KM σ X hs sn) : OR (a_call a_tab P d 205 [.ref 237, .int x] σ) σ X hs sn (o_heal X hs x) := by
  have h20 := K.2.2.1.1
  have V := K.2.2.1
  have h5 := V.2.2.2.2.1
  obtain ⟨m, rfl, ht⟩ := o_ex x
  unfold o_heal
  rw [ht, n_X8_heal (by omega), b_X8_heal_0 K.1, y_isMix (by omega) K.1 K.2.1 K.2.2.1, g_v, b_X8_heal_6 K.1, ht]
  by_cases c1 : m < X.1 1
  · have K0 := K.s6 (v := nI 0)
    rw [if_pos c1, decide_eq_true c1, show b_n true = nI 1 from rfl, y_lacksT (by omega) K.1, g_v, b_X8_heal_9 K0.1, if_pos (show nI 0 = 0 from rfl), y_isBroken (by omega) K0.1 K0.2.1 V c1, g_v, b_X8_heal_19 K0.1]
    cases z_bro X (X.2 1 m) with
    | false =>
      rw [if_pos (by decide), if_neg Bool.false_ne_true]
      exact ⟨_, rfl, Mo.m6, K0, a_I_at⟩
    | true =>
      obtain ⟨s1, e1, m1⟩ := y_colourOf (P := P) (d := d - 1) (by omega) K0.1 K0.2.1 V c1
      have K1 := K0.sm (m1.mono Sq.sm)
      obtain ⟨s2, e2, m2, B⟩ := y_findNearest (P := P) (d := d - 1) (by omega) K1.1 K1.2.1 V (z_col_lt V (V.m c1)) (k := 3) (Nat.le_refl _)
      have K2 := K1.sm (m2.mono Yn.sm)
      have ft : a_I s2 238 4 = nI (X.1 5) := K2.2.1.2.2.2.1.2.2.2.2.1
      have m3 : Mo Sm σ s2 := (Mo.m6.tr (m1.mono Sq.m)).tr (m2.mono Yn.m)
      have f6 : a_I s2 237 6 = nI 0 := by rw [Yn.n6 m2, Sq.n6 m1]; exact a_I_at
      rw [if_neg (by decide), if_pos rfl, e1, g_v, b_X8_heal_31 K1.1, e2, g_n, b_X8_heal_35 K2.1 K2.2.1.1, b_gd_t (nIi (by decide) (by decide)), nIc (by decide), ft]
      have hne := z_near_ne V (aim := z_col X (X.2 1 m))
      have hva : ∀ c, z_near X (z_col X (X.2 1 m)) 3 = some c → z_ok X c → Va (X.1 0) c ∧ 0 < c.length := fun c hc hk => ⟨z_near_va hk hc, hk.1⟩
      revert B hne hva
      cases z_near X (z_col X (X.2 1 m)) 3 with
      | none =>
        intro B hne hva
        have hz : z_inuse X = 0 := Classical.not_not.mp fun z => hne z rfl
        rw [if_pos hz, if_pos (show a_I s2 237 13 = 0 from B.1)]
        exact ⟨s2, rfl, m3, K2, f6⟩
      | some c =>
        intro B hne hva
        obtain ⟨A, h0⟩ := hva c rfl B.1
        have hc3 := B.1.2.1
        have hb : z_cfar X (z_col X (X.2 1 m)) c ≤ 585225 := z_cfar_le fun w hw => z_ok_cv V B.1 hw
        rw [if_neg (z_ok_inuse B.1), B.2.1, if_neg (fun z => by have := (o_eq0 (by omega)).mp z; omega), B.2.2.1, show z_lf X (z_col X (X.2 1 m)) (some c) = z_cfar X (z_col X (X.2 1 m)) c from rfl]
        by_cases h3 : X.1 5 < z_cfar X (z_col X (X.2 1 m)) c
        · rw [if_pos h3, if_pos (nIl h3 (by omega))]
          exact ⟨s2, rfl, m3, K2, f6⟩
        · obtain ⟨s3, e3, m4, K3⟩ := y_record (P := P) (d := d - 1) (by omega) K2
          have B3 := B.mo m4 fun b k z => by unfold Yr at z; unfold Sw; omega
          have m5 : Mo S238 s3 (a_setI s3 238 (288 + 18 * m + 9) (nI c.length)) := Mo.set rfl
          obtain ⟨s4, ⟨q1, q2, q3, q4⟩, e4⟩ := up_st0 (run := fun i τ => b_R (a_call a_tab P (d - 1)) kX8_heal [] (78, [some (.ref 237), some (.int (nI m)), some (.int (nI i))], [], τ)) (n := 4) (s := a_setI s3 238 (288 + 18 * m + 9) (nI c.length)) (fun i τ => Mo S238 s3 τ ∧ a_I τ 238 (288 + 18 * m + 9) = nI c.length ∧ (∀ k, (k < 288 + 18 * m + 9 ∨ 288 + 18 * m + 18 ≤ k) → a_I τ 238 k = a_I s3 238 k) ∧ ∀ j, j < i → j < c.length → a_I τ 238 (288 + 18 * m + (10 + j)) = nI (c.getD j (0, 0)).1 ∧ a_I τ 238 (288 + 18 * m + (14 + j)) = nI (c.getD j (0, 0)).2)
            ⟨m5, a_I_at, fun k hk => a_I_off (.inr (by omega)), fun j hj => absurd hj (Nat.not_lt_zero _)⟩
            (fun i τ hi ⟨g1, g2, g3, g4⟩ => by
              have hh := g1.sh K3.1
              have rw1 := g1.rw K3.2.1.1
              have Bt := B3.mo g1 fun b k z => by unfold S238 at z; subst z; unfold Sw; omega
              have n1 : Mo S238 τ (a_setI τ 238 (288 + 18 * m + (10 + i)) (if i < c.length then nI (c.getD i (0, 0)).1 else nI 0)) := Mo.set rfl
              have Bu := Bt.mo n1 fun b k z => by unfold S238 at z; subst z; unfold Sw; omega
              refine ⟨a_setI (a_setI τ 238 (288 + 18 * m + (10 + i)) (if i < c.length then nI (c.getD i (0, 0)).1 else nI 0)) 238 (288 + 18 * m + (14 + i)) (if i < c.length then nI (c.getD i (0, 0)).2 else nI 0), ⟨(g1.tr n1).then_set rfl, ?_, fun k hk => ?_, fun j hj hjc => ?_⟩, ?_⟩
              · rw [a_I_off (.inr (by omega)), a_I_off (.inr (by omega))]; exact g2
              · rw [a_I_off (.inr (by omega)), a_I_off (.inr (by omega))]; exact g3 k hk
              · by_cases hji : j = i
                · subst hji
                  rw [a_I_off (.inr (by omega)), a_I_at, a_I_at, if_pos hjc, if_pos hjc]
                  exact ⟨rfl, rfl⟩
                · rw [a_I_off (.inr (by omega)), a_I_off (.inr (by omega)), a_I_off (.inr (by omega)), a_I_off (.inr (by omega))]
                  exact g4 j (by omega) hjc
              · (try dsimp only)
                rw [b_X8_heal_78 hh, if_pos (nIl hi (by decide)), Bt.2.1]
                by_cases hic : i < c.length
                · rw [if_pos (nIl hic (by omega)), b_gd_t (nIi (by omega) (by decide)), nIc (by omega), (Bt.2.2.2.2 i hic).1, b_X8_heal_107 hh, nI_add, y_layMix (by omega) hh rw1 (by omega) (by omega), g_n]
                  rw [if_pos hic] at Bu n1
                  rw [if_pos hic, if_pos hic, b_X8_heal_110 (n1.sh hh), Bu.2.1, if_pos (nIl hic (by omega)), b_gd_t (nIi (by omega) (by decide)), nIc (by omega), (Bu.2.2.2.2 i hic).2, b_X8_heal_134 (n1.sh hh), nI_add, y_layMix (by omega) (n1.sh hh) (n1.rw rw1) (by omega) (by omega), g_n, b_X8_heal_137, nI_add]
                · rw [if_neg (nIn (by omega) (by omega)), b_X8_heal_107 hh, nI_add, y_layMix (by omega) hh rw1 (by omega) (by omega), g_n]
                  rw [if_neg hic] at Bu n1
                  rw [if_neg hic, if_neg hic, b_X8_heal_110 (n1.sh hh), Bu.2.1, if_neg (nIn (by omega) (by omega)), b_X8_heal_134 (n1.sh hh), nI_add, y_layMix (by omega) (n1.sh hh) (n1.rw rw1) (by omega) (by omega), g_n, b_X8_heal_137, nI_add])
          have B4 := B3.mo q1 fun b k z => by unfold S238 at z; subst z; unfold Sw; omega
          have K4 : KM s4 (z_hl X m c) (z_push X hs) sn := by
            refine K3.upd q1 (fun b k z => .inl z) (K3.2.1.2.2.2.up1 V (fun k hk hk1 => q3 k (by omega)) ((q3 1 (by omega)).trans K3.2.1.2.2.2.1.2.1) fun r hr => ?_) (z_hl_vd V A h0)
            have hM : MM (a_I s3 238) r (X.2 1 r) := K3.2.1.2.2.2.2.2.1 r hr
            by_cases hrm : r = m
            · subst hrm
              rw [show (fun k => if r = r then z_hrow (X.2 1 r) c k else X.2 1 r k) = z_hrow (X.2 1 r) c from funext fun k => if_pos rfl]
              have hg : ∀ k, k < 8 → z_hrow (X.2 1 r) c k = X.2 1 r k := fun k hk => by
                unfold z_hrow
                rw [if_neg (by omega), if_neg (by omega), if_neg (by omega)]
              have hz := z_len_congr hg
              have hl := V.lm hr
              refine ⟨?_, fun k hk => ?_, q2, fun i hi => ?_⟩
              · rw [hz, q3 _ (by omega)]; exact hM.1
              · rw [hz] at hk
                rw [hg k (by omega), q3 _ (by omega)]; exact hM.2.1 k hk
              · have hi : i < c.length := hi
                obtain ⟨u1, u2⟩ := q4 i (by omega) hi
                rw [u1, u2]
                unfold z_hrow
                constructor
                · rw [if_neg (by omega), if_pos (by omega), show 9 + i - 9 = i by omega]
                · rw [if_neg (by omega), if_neg (by omega), if_pos (by omega), show 13 + i - 13 = i by omega]
            · rw [show (fun k => if r = m then z_hrow (X.2 1 m) c k else X.2 1 r k) = X.2 1 r from funext fun k => if_neg hrm]
              exact hM.eq (V.lm hr) (V.m hr).2.1 fun k hk => q3 _ (by omega)
          have e4 : b_R (a_call a_tab P (d - 1)) kX8_heal [] (78, [some (.ref 237), some (.int (nI m)), some (.int (nI 0))], [], a_setI s3 238 (288 + 18 * m + 9) (nI c.length)) = _ := e4
          rw [if_neg h3, if_neg (nIn (by omega) (by omega)), e3, g_n, b_X8_heal_65 K3.1, B3.2.1, y_layMix (by omega) K3.1 K3.2.1.1 (by omega) (by decide), g_n, b_X8_heal_76, e4]
          (try dsimp only)
          rw [b_X8_heal_78 K4.1, if_neg (by decide), B4.2.2.1]
          exact ⟨s4, rfl, (m3.tr (m4.mono Yr.m)).tr (q1.mono S238.m), K4, by rw [S238.n6 q1, Yr.n6 m4]; exact f6⟩
  · rw [if_neg c1, decide_eq_false c1, show b_n false = nI 0 from rfl, y_lacksF (by omega) K.1, g_v, b_X8_heal_9 K.s6.1, if_neg (show ¬ nI 1 = 0 by decide)]
    exact ⟨_, rfl, Mo.m6, K.s6, a_I_at⟩
end MOK
