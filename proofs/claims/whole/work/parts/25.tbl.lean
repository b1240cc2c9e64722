/-! Table: rows of numbers -/
def Tv (σ : aSt) (t c w N n : Nat) (f : Nat → Nat → Int32) : Prop := Tb σ t c N ∧ a_I σ t 1 = nI w ∧ a_I σ t 2 = nI n ∧ n * w ≤ N ∧ 0 < w ∧ c ≠ t ∧ ∀ r, r < n → ∀ k, k < w → a_I σ c (r * w + k) = f r k
theorem Tv.n_le {σ : aSt} {t c w N n : Nat} {f : Nat → Nat → Int32} (h : Tv σ t c w N n f) : n ≤ N := Nat.le_trans (Nat.le_mul_of_pos_right n h.2.2.2.2.1) h.2.2.2.1
theorem Tv.N_lt {σ : aSt} {t c w N n : Nat} {f : Nat → Nat → Int32} (h : Tv σ t c w N n f) : N < 2147483648 := h.1.2.2.2.2.2.2
theorem Tv.w_le {σ : aSt} {t c w N n : Nat} {f : Nat → Nat → Int32} (h : Tv σ t c w N n f) (h0 : 0 < n) : w ≤ N := Nat.le_trans (Nat.le_mul_of_pos_left w h0) h.2.2.2.1
/-- a table stays as it is where its cells do -/
theorem Tv.mo {σ σ' : aSt} {S : Nat → Nat → Prop} {t c w N n : Nat} {f : Nat → Nat → Int32} (h : Tv σ t c w N n f) (m : Mo S σ σ') (h1 : ¬ S t 1) (h2 : ¬ S t 2) (h3 : ∀ k, k < n * w → ¬ S c k) : Tv σ' t c w N n f := by
  obtain ⟨g1, g2, g3, g4, g5, g6, g7⟩ := h
  refine ⟨m.tb g1, by rw [m.I h1]; exact g2, by rw [m.I h2]; exact g3, g4, g5, g6, fun r hr k hk => ?_⟩
  rw [m.I (h3 _ (n_lin hr hk (Nat.le_refl _)))]
  exact g7 r hr k hk
theorem Tv.congr {σ : aSt} {t c w N n : Nat} {f g : Nat → Nat → Int32} (h : Tv σ t c w N n f) (e : ∀ r, r < n → ∀ k, k < w → f r k = g r k) : Tv σ t c w N n g :=
  ⟨h.1, h.2.1, h.2.2.1, h.2.2.2.1, h.2.2.2.2.1, h.2.2.2.2.2.1, fun r hr k hk => (h.2.2.2.2.2.2 r hr k hk).trans (e r hr k hk)⟩
section TBL
variable {P : aCall} {d : Nat} {σ : aSt} {t c w N n : Nat} {f : Nat → Nat → Int32}
theorem s_get (hd : 1 ≤ d) (T : Tv σ t c w N n f) {r k : Nat} (hr : r < n) (hk : k < w) : a_call a_tab P d 1 [.ref t, .int (nI r), .int (nI k)] σ = some (.inl (some (.int (f r k))), σ) := by
  obtain ⟨hb, hw, hn, hN, h0, h6, hf⟩ := id T
  have l1 := T.N_lt
  have l2 := T.n_le
  have l3 := T.w_le (by omega)
  have l4 : r * w + k < N := n_lin hr hk hN
  rw [n_X4_get hd, b_X4_get_0 hb, hw, hn, if_neg (nIp (by omega)), if_pos (nIl hr (by omega)), if_neg (nIp (by omega)), if_pos (nIl hk (by omega)), nI_at, b_X4_get_38 hb, if_neg (by decide), if_neg (nIp (by omega)),
    if_pos (nIl l4 l1), b_gd_t (nIi l4 l1), b_X4_get_68, nIc (by omega), hf r hr k hk]
theorem s_set (hd : 1 ≤ d) (T : Tv σ t c w N n f) {r k : Nat} {v : Int32} (hr : r < n) (hk : k < w) : a_call a_tab P d 2 [.ref t, .int (nI r), .int (nI k), .int v] σ = some (.inl none, a_setI σ c (r * w + k) v) ∧ Tv (a_setI σ c (r * w + k) v) t c w N n (fun r' k' => if r' = r ∧ k' = k then v else f r' k') := by
  obtain ⟨hb, hw, hn, hN, h0, h6, hf⟩ := id T
  have l1 := T.N_lt
  have l2 := T.n_le
  have l3 := T.w_le (by omega)
  have l4 : r * w + k < N := n_lin hr hk hN
  constructor
  · rw [n_X4_set hd, b_X4_set_0 hb, hw, hn, if_neg (nIp (by omega)), if_pos (nIl hr (by omega)), if_neg (nIp (by omega)), if_pos (nIl hk (by omega)), nI_at, b_X4_set_39 hb, if_neg (by decide), if_neg (nIp (by omega)),
      if_pos (nIl l4 l1), b_gd_t (nIi l4 l1), b_X4_set_69, nIc (by omega)]
  · refine ⟨(Mo.set (S := fun _ _ => True) trivial).tb hb, by rw [a_I_off (.inl h6.symm)]; exact hw, by rw [a_I_off (.inl h6.symm)]; exact hn, hN, h0, h6, fun r' hr' k' hk' => ?_⟩
    by_cases he : r' = r ∧ k' = k
    · (try dsimp only)
      rw [if_pos he, he.1, he.2, a_I_at]
    · (try dsimp only)
      rw [if_neg he, a_I_off (.inr fun q => he (n_inj hk' hk q)), hf r' hr' k' hk']
/-- writing where nothing is: a column that is none -/
theorem s_isFull (hd : 1 ≤ d) (T : Tv σ t c w N n f) (hs : (n + 1) * w < 2147483648) : a_call a_tab P d 3 [.ref t] σ = some (.inl (some (.int (b_n (decide (N < (n + 1) * w))))), σ) := by
  obtain ⟨hb, hw, hn, hN, h0, h6, hf⟩ := id T
  have l1 := T.N_lt
  rw [n_X4_isFull hd, b_X4_isFull_0 hb, hw, hn, nI_add, pk_mul]
  by_cases hf2 : N < (n + 1) * w
  · rw [if_pos (nIl hf2 hs), b_X4_isFull_24, decide_eq_true hf2]
    exact b_gd_t (by decide)
  · rw [if_neg (nIn (by omega) l1), b_X4_isFull_24, decide_eq_false hf2]
    exact b_gd_t (by decide)
theorem s_removeAll (hd : 1 ≤ d) (hb : Tb σ t c N) : a_call a_tab P d 4 [.ref t] σ = some (.inl none, a_setI σ t 2 (nI 0)) := by
  rw [n_X4_removeAll hd, b_X4_removeAll_0 hb]
theorem Tv.empty (hb : Tb σ t c N) (hw : a_I σ t 1 = nI w) (h0 : 0 < w) (h6 : c ≠ t) : Tv (a_setI σ t 2 (nI 0)) t c w N 0 f :=
  ⟨(Mo.set (S := fun _ _ => True) trivial).tb hb, by rw [a_I_off (.inr (by decide))]; exact hw, a_I_at, by omega, h0, h6, fun r hr => by omega⟩
theorem s_addRow (hd : 2 ≤ d) (T : Tv σ t c w N n f) (hN : (n + 1) * w ≤ N) : ∃ σ', a_call a_tab P d 5 [.ref t] σ = some (.inl (some (.int (nI n))), σ') ∧ Mo (fun b k => b = c ∨ (b = t ∧ k = 2)) σ σ' ∧ Tv σ' t c w N (n + 1) (fun r k => if r = n then nI 0 else f r k) := by
  obtain ⟨hb, hw, hn, hN0, h0, h6, hf⟩ := id T
  have l1 := T.N_lt
  have l2 : n + 1 ≤ N := Nat.le_trans (Nat.le_mul_of_pos_right _ h0) hN
  have l3 : w ≤ N := Nat.le_trans (Nat.le_mul_of_pos_left w (by omega)) hN
  rw [n_X4_addRow (by omega), b_X4_addRow_0 hb, s_isFull (by omega) T (by omega), g_v, b_X4_addRow_4 hb, decide_eq_false (by omega), hn]
  have key := up_st0 (run := fun i s => b_R (a_call a_tab P (d - 1)) kX4_addRow [] (21, [some (.ref t), some (.int (nI i))], [], s)) (n := w) (s := a_setI σ t 2 (nI (n + 1))) (fun i s => Mo (fun b k => b = c ∨ (b = t ∧ k = 2)) σ s ∧ Tv s t c w N (n + 1) (fun r k => if r = n ∧ k < i then nI 0 else a_I σ c (r * w + k)))
    ⟨Mo.set (.inr ⟨rfl, rfl⟩), (Mo.set (S := fun _ _ => True) trivial).tb hb, by rw [a_I_off (.inr (by decide))]; exact hw, a_I_at, hN, h0, h6, fun r hr k hk => by
      (try dsimp only)
      rw [if_neg (by omega), a_I_off (.inl h6)]⟩
    (fun i s hi ⟨m, T'⟩ => by
      obtain ⟨e1, T2⟩ := s_set (P := P) (d := d - 1) (v := nI 0) (by omega) T' (r := n) (k := i) (by omega) hi
      refine ⟨_, ⟨m.then_set (.inl rfl), T2.congr fun r hr k hk => ?_⟩, ?_⟩
      · (try dsimp only)
        by_cases h1 : r = n ∧ k = i
        · rw [if_pos h1, if_pos (by omega)]
        · rw [if_neg h1]
          by_cases h2 : r = n ∧ k < i
          · rw [if_pos h2, if_pos (by omega)]
          · rw [if_neg h2, if_neg (by omega)]
      · show b_R (a_call a_tab P (d - 1)) kX4_addRow [] (21, [some (.ref t), some (.int (nI i))], [], s) = b_R (a_call a_tab P (d - 1)) kX4_addRow [] (21, [some (.ref t), some (.int (nI (i + 1)))], [], _)
        rw [b_X4_addRow_21 T'.1, T'.2.1, T'.2.2.1, if_pos (nIl hi (by omega)), nI_s1, e1, g_n, b_X4_addRow_41, nI_add])
  obtain ⟨σ', ⟨m, T'⟩, e⟩ := key
  refine ⟨σ', ?_, m, T'.congr fun r hr k hk => ?_⟩
  · show (if b_n false = 0 then b_R (a_call a_tab P (d - 1)) kX4_addRow [] (21, [some (.ref t), some (.int (nI 0))], [], a_setI σ t 2 (nI n + nI 1)) else _) = _
    rw [if_pos (show b_n false = 0 from rfl), nI_add]
    refine e.trans ?_
    (try dsimp only)
    rw [b_X4_addRow_21 T'.1, T'.2.1, T'.2.2.1, if_neg (nIn (Nat.le_refl _) (by omega)), nI_s1]
  · (try dsimp only)
    by_cases h1 : r = n
    · rw [if_pos ⟨h1, hk⟩, if_pos h1]
    · rw [if_neg (fun z => h1 z.1), if_neg h1, hf r (by omega) k hk]
/-- a row is copied, from wherever its numbers come -/
theorem s_copyRow (hd : 2 ≤ d) (T : Tv σ t c w N n f) {r fr u cu Nu : Nat} (hr : r < n) (hu : Tb σ u cu Nu) {g : Nat → Int32}
    (hg : ∀ i σ', i < w → Mo (fun b _ => b = c) σ σ' → Tv σ' t c w N n (fun r' k' => if r' = r ∧ k' < i then g k' else f r' k') → a_call a_tab P (d - 1) 1 [.ref u, .int (nI fr), .int (nI i)] σ' = some (.inl (some (.int (g i))), σ')) :
    ∃ σ', a_call a_tab P d 8 [.ref t, .int (nI r), .ref u, .int (nI fr)] σ = some (.inl none, σ') ∧ Mo (fun b _ => b = c) σ σ' ∧ Tv σ' t c w N n (fun r' k' => if r' = r then g k' else f r' k') := by
  have l1 := T.N_lt
  have l3 := T.w_le (by omega)
  rw [n_X4_copyRow (by omega), b_X4_copyRow_0]
  have key := up_st0 (run := fun i s => b_R (a_call a_tab P (d - 1)) kX4_copyRow [] (3, [some (.ref t), some (.int (nI r)), some (.ref u), some (.int (nI fr)), some (.int (nI i))], [], s)) (n := w) (s := σ) (fun i s => Mo (fun b _ => b = c) σ s ∧ Tv s t c w N n (fun r' k' => if r' = r ∧ k' < i then g k' else f r' k'))
    ⟨Mo.rf, T.congr fun r' hr' k' hk' => by (try dsimp only); rw [if_neg (by omega)]⟩
    (fun i s hi ⟨m, T'⟩ => by
      obtain ⟨e1, T2⟩ := s_set (P := P) (d := d - 1) (v := g i) (by omega) T' (r := r) (k := i) hr hi
      refine ⟨_, ⟨m.then_set rfl, T2.congr fun r' hr' k hk => ?_⟩, ?_⟩
      · (try dsimp only)
        by_cases h1 : r' = r ∧ k = i
        · rw [if_pos h1, if_pos (by omega), h1.2]
        · rw [if_neg h1]
          by_cases h2 : r' = r ∧ k < i
          · rw [if_pos h2, if_pos (by omega)]
          · rw [if_neg h2, if_neg (by omega)]
      · show b_R (a_call a_tab P (d - 1)) kX4_copyRow [] (3, [some (.ref t), some (.int (nI r)), some (.ref u), some (.int (nI fr)), some (.int (nI i))], [], s) = b_R (a_call a_tab P (d - 1)) kX4_copyRow [] (3, [some (.ref t), some (.int (nI r)), some (.ref u), some (.int (nI fr)), some (.int (nI (i + 1)))], [], _)
        rw [b_X4_copyRow_3 T'.1 (m.tb hu), T'.2.1, if_pos (nIl hi (by omega)), hg i s hi m T', g_v, b_X4_copyRow_23 T'.1, e1, g_n, b_X4_copyRow_26, nI_add])
  obtain ⟨σ', ⟨m, T'⟩, e⟩ := key
  refine ⟨σ', e.trans ?_, m, T'.congr fun r' hr' k hk => ?_⟩
  · (try dsimp only)
    rw [b_X4_copyRow_3 T'.1 (m.tb hu), T'.2.1, if_neg (nIn (Nat.le_refl _) (by omega))]
  · (try dsimp only)
    by_cases h1 : r' = r
    · rw [if_pos ⟨h1, hk⟩, if_pos h1]
    · rw [if_neg (fun z => h1 z.1), if_neg h1]
/-- within one table -/
theorem s_copyRowS (hd : 2 ≤ d) (T : Tv σ t c w N n f) {r fr : Nat} (hr : r < n) (hfr : fr < n) (hne : fr ≠ r) :
    ∃ σ', a_call a_tab P d 8 [.ref t, .int (nI r), .ref t, .int (nI fr)] σ = some (.inl none, σ') ∧ Mo (fun b _ => b = c) σ σ' ∧ Tv σ' t c w N n (fun r' k' => if r' = r then f fr k' else f r' k') :=
  s_copyRow hd T hr T.1 (g := f fr) fun i σ' hi m T' => by
    rw [s_get (by omega) T' hfr hi]
    (try dsimp only)
    rw [if_neg (fun z => hne z.1)]
/-- out of another -/
theorem s_copyRowO (hd : 2 ≤ d) (T : Tv σ t c w N n f) {r fr u cu wu Nu nu : Nat} {g : Nat → Nat → Int32} (U : Tv σ u cu wu Nu nu g) (hr : r < n) (hfr : fr < nu) (hw : w ≤ wu) (h1 : cu ≠ c) (h2 : u ≠ c) :
    ∃ σ', a_call a_tab P d 8 [.ref t, .int (nI r), .ref u, .int (nI fr)] σ = some (.inl none, σ') ∧ Mo (fun b _ => b = c) σ σ' ∧ Tv σ' t c w N n (fun r' k' => if r' = r then g fr k' else f r' k') :=
  s_copyRow hd T hr U.1 (g := g fr) fun i σ' hi m T' => s_get (by omega) (U.mo m h2 h2 fun _ _ => h1) hfr (by omega)
theorem s_addFirst (hd : 3 ≤ d) (T : Tv σ t c w N n f) (hs : (n + 1) * w < 2147483648) : ∃ σ' n', n' = (if N < (n + 1) * w then n else n + 1) ∧ a_call a_tab P d 6 [.ref t] σ = some (.inl none, σ') ∧ Mo (fun b k => b = c ∨ (b = t ∧ k = 2)) σ σ' ∧ ∃ g, Tv σ' t c w N n' g ∧ ∀ r, 0 < r → r < n' → ∀ k, k < w → g r k = f (r - 1) k := by
  obtain ⟨hb, hw, hn, hN0, h0, h6, hf⟩ := id T
  have l1 := T.N_lt
  have l2 := T.n_le
  rw [n_X4_addFirst (by omega), b_X4_addFirst_0 hb, s_isFull (by omega) T hs, g_v, b_X4_addFirst_4 hb]
  -- behind the counting
  suffices key : ∀ s n', n ≤ n' → n' ≤ n + 1 → Mo (fun b k => b = c ∨ (b = t ∧ k = 2)) σ s → Tv s t c w N n' (fun r k => a_I σ c (r * w + k)) → ∃ σ', b_R (a_call a_tab P (d - 1)) kX4_addFirst [] (17, [some (.ref t), none], [], s) = some (.inl none, σ') ∧ Mo (fun b k => b = c ∨ (b = t ∧ k = 2)) σ σ' ∧ ∃ g, Tv σ' t c w N n' g ∧ ∀ r, 0 < r → r < n' → ∀ k, k < w → g r k = f (r - 1) k by
    by_cases hf2 : N < (n + 1) * w
    · obtain ⟨σ', e, m, k⟩ := key σ n (Nat.le_refl _) (Nat.le_succ _) Mo.rf ⟨hb, hw, hn, hN0, h0, h6, fun r hr k hk => rfl⟩
      refine ⟨σ', n, by rw [if_pos hf2], ?_, m, k⟩
      rw [decide_eq_true hf2, if_neg (by decide)]
      exact e
    · obtain ⟨σ', e, m, k⟩ := key (a_setI σ t 2 (nI (n + 1))) (n + 1) (Nat.le_succ _) (Nat.le_refl _) (Mo.set (.inr ⟨rfl, rfl⟩)) ⟨(Mo.set (S := fun _ _ => True) trivial).tb hb, by rw [a_I_off (.inr (by decide))]; exact hw, a_I_at, by omega, h0, h6, fun r hr k hk => by rw [a_I_off (.inl h6)]⟩
      refine ⟨σ', n + 1, by rw [if_neg hf2], ?_, m, k⟩
      rw [decide_eq_false hf2, if_pos (by decide), hn, nI_add]
      exact e
  intro s n' hn1 hn2 m T'
  have l4 := T'.n_le
  rw [b_X4_addFirst_17 T'.1, T'.2.2.1]
  by_cases hz : n' = 0
  · subst hz
    refine ⟨s, ?_, m, _, T', fun r h1 h2 => by omega⟩
    rw [b_X4_addFirst_24 T'.1, if_neg (by decide)]
  · -- rows n' - 1 .. 1
    have loop : ∀ i, i < n' → ∀ s, Mo (fun b k => b = c ∨ (b = t ∧ k = 2)) σ s → Tv s t c w N n' (fun r k => if i < r then a_I σ c ((r - 1) * w + k) else a_I σ c (r * w + k)) → ∃ σ', b_R (a_call a_tab P (d - 1)) kX4_addFirst [] (24, [some (.ref t), some (.int (nI i))], [], s) = some (.inl none, σ') ∧ Mo (fun b k => b = c ∨ (b = t ∧ k = 2)) σ σ' ∧ Tv σ' t c w N n' (fun r k => if 0 < r then a_I σ c ((r - 1) * w + k) else a_I σ c (r * w + k)) := by
      intro i
      induction i with
      | zero =>
        intro _ s m T
        refine ⟨s, ?_, m, T⟩
        rw [b_X4_addFirst_24 T.1, if_neg (by decide)]
      | succ i ih =>
        intro hi s m T
        obtain ⟨s', e1, m1, T1⟩ := s_copyRowS (P := P) (d := d - 1) (by omega) T (r := i + 1) (fr := i) hi (by omega) (by omega)
        obtain ⟨σ', e2, m2, T2⟩ := ih (by omega) s' (m.tr (m1.mono fun b k h => .inl h)) (T1.congr fun r hr k hk => by
          (try dsimp only)
          by_cases h1 : r = i + 1
          · subst h1
            rw [if_pos rfl, if_neg (by omega), if_pos (by omega), Nat.add_sub_cancel]
          · rw [if_neg h1]
            by_cases h2 : i + 1 < r
            · rw [if_pos h2, if_pos (by omega)]
            · rw [if_neg h2, if_neg (by omega)])
        refine ⟨σ', ?_, m2, T2⟩
        rw [b_X4_addFirst_24 T.1, if_pos (by rw [← nI_0]; exact nIl (by omega) (by omega)), nI_s1, e1, g_n, b_X4_addFirst_37, pk_m1]
        exact e2
    obtain ⟨σ', e, m', T''⟩ := loop (n' - 1) (by omega) s m (T'.congr fun r hr k hk => by (try dsimp only); rw [if_neg (by omega)])
    refine ⟨σ', ?_, m', _, T'', fun r h1 h2 k hk => ?_⟩
    · have e9 : nI n' - nI 1 = nI (n' - 1) := by
        obtain ⟨q, rfl⟩ : ∃ q, n' = q + 1 := ⟨n' - 1, by omega⟩
        exact nI_s1 q
      rw [e9]
      exact e
    · (try dsimp only)
      rw [if_pos h1, hf (r - 1) (by omega) k hk]
theorem s_removeRow (hd : 3 ≤ d) (T : Tv σ t c w N n f) {x : Nat} (hx : x < n) : ∃ σ', a_call a_tab P d 7 [.ref t, .int (nI x)] σ = some (.inl none, σ') ∧ Mo (fun b k => b = c ∨ (b = t ∧ k = 2)) σ σ' ∧ Tv σ' t c w N (n - 1) (fun r k => if r < x then f r k else f (r + 1) k) := by
  have l1 := T.N_lt
  have l2 := T.n_le
  rw [n_X4_removeRow (by omega), b_X4_removeRow_0]
  have e9 : nI n - nI 1 = nI (n - 1) := by
    obtain ⟨q, rfl⟩ : ∃ q, n = q + 1 := ⟨n - 1, by omega⟩
    exact nI_s1 q
  have loop : ∀ k i, i + k = n - 1 → x ≤ i → ∀ s, Mo (fun b _ => b = c) σ s → Tv s t c w N n (fun r k => if r < x ∨ i ≤ r then f r k else f (r + 1) k) → ∃ σ', b_R (a_call a_tab P (d - 1)) kX4_removeRow [] (2, [some (.ref t), some (.int (nI x)), some (.int (nI i))], [], s) = b_R (a_call a_tab P (d - 1)) kX4_removeRow [] (2, [some (.ref t), some (.int (nI x)), some (.int (nI (n - 1)))], [], σ') ∧ Mo (fun b _ => b = c) σ σ' ∧ Tv σ' t c w N n (fun r k => if r < x ∨ n - 1 ≤ r then f r k else f (r + 1) k) := by
    intro k
    induction k with
    | zero =>
      intro i hi hxi s m T
      obtain rfl : i = n - 1 := by omega
      exact ⟨s, rfl, m, T⟩
    | succ k ih =>
      intro i hi hxi s m T
      obtain ⟨s', e1, m1, T1⟩ := s_copyRowS (P := P) (d := d - 1) (by omega) T (r := i) (fr := i + 1) (by omega) (by omega) (by omega)
      obtain ⟨σ', e2, m2, T2⟩ := ih (i + 1) (by omega) (by omega) s' (m.tr m1) (T1.congr fun r hr k hk => by
        (try dsimp only)
        by_cases h1 : r = i
        · subst h1
          rw [if_pos rfl, if_pos (by omega), if_neg (by omega)]
        · rw [if_neg h1]
          by_cases h2 : r < x ∨ i ≤ r
          · rw [if_pos h2, if_pos (by omega)]
          · rw [if_neg h2, if_neg (by omega)])
      refine ⟨σ', ?_, m2, T2⟩
      rw [b_X4_removeRow_2 T.1, T.2.2.1, e9, if_pos (nIl (by omega) (by omega)), nI_add, e1, g_n, b_X4_removeRow_21, nI_add]
      exact e2
  obtain ⟨s, e, m, T1⟩ := loop (n - 1 - x) x (by omega) (Nat.le_refl _) σ Mo.rf (T.congr fun r hr k hk => by
    (try dsimp only)
    rw [if_pos (by omega)])
  refine ⟨a_setI s t 2 (nI (n - 1)), ?_, (m.mono fun b k h => .inl h).then_set (.inr ⟨rfl, rfl⟩), (Mo.set (S := fun _ _ => True) trivial).tb T1.1, by rw [a_I_off (.inr (by decide))]; exact T1.2.1, a_I_at, Nat.le_trans (Nat.mul_le_mul_right w (by omega)) T1.2.2.2.1, T1.2.2.2.2.1, T1.2.2.2.2.2.1, fun r hr k hk => ?_⟩
  · rw [e, b_X4_removeRow_2 T1.1, T1.2.2.1, e9, if_neg (nIn (Nat.le_refl _) (by omega)), if_neg (nIp (by omega)), if_pos (nIl hx (by omega)), b_X4_removeRow_49]
  · rw [a_I_off (.inl T1.2.2.2.2.2.1), T1.2.2.2.2.2.2 r (by omega) k hk]
    (try dsimp only)
    by_cases h1 : r < x
    · rw [if_pos (.inl h1), if_pos h1]
    · rw [if_neg (by omega), if_neg h1]
theorem s_copyFrom (H : Pm P) (hd : 1 ≤ d) (ht : Tb σ t c N) (hw : a_I σ t 1 = nI w) (h6 : c ≠ t) {u cu nu : Nat} {g : Nat → Nat → Int32} (U : Tv σ u cu w N nu g) (h1 : cu ≠ c) (h2 : u ≠ c) (h3 : t ≠ u) (h4 : t ≠ cu) :
    ∃ σ', a_call a_tab P d 9 [.ref t, .ref u] σ = some (.inl none, σ') ∧ Mo (fun b k => b = c ∨ (b = t ∧ k = 2)) σ σ' ∧ Tv σ' t c w N nu g := by
  obtain ⟨ub, uw, un, uN, u0, u6, uf⟩ := id U
  have l1 := U.N_lt
  refine ⟨a_setI (a_cpy σ cu c (nu * w)) t 2 (nI nu), ?_, ?_, ?_⟩
  · rw [n_X4_copyFrom hd, b_X4_copyFrom_0 ht ub, uw, un, pk_mul, if_neg (nIp (by omega)), if_neg (nIn uN l1), if_neg (nIn uN l1), s_acopy H ub.2.2.2.1 ht.2.2.2.1 ub.2.2.2.2.1 ht.2.2.2.2.1 h1 (by rw [ub.2.2.2.2.2.1]; exact uN) (by rw [ht.2.2.2.2.2.1]; exact uN) (by omega), g_n,
      b_X4_copyFrom_46 (σ := a_cpy σ cu c (nu * w)) ht ub, b_X4_copyFrom_54, a_I_cpy, if_neg (fun z => h2 z.1), un]
  · refine ⟨rfl, rfl, fun b k hb => ?_⟩
    rw [a_I_off (by by_cases h : b = t <;> by_cases h' : k = 2 <;> simp_all), a_I_cpy, if_neg (fun z => hb (.inl z.1))]
  · refine ⟨ht, by rw [a_I_off (.inr (by decide)), a_I_cpy, if_neg (fun z => h6 z.1.symm)]; exact hw, a_I_at, uN, u0, h6, fun r hr k hk => ?_⟩
    rw [a_I_off (.inl h6), a_I_cpy, if_pos ⟨rfl, n_lin hr hk (Nat.le_refl _)⟩, uf r hr k hk]
/-- the letters at 222 as the first eight numbers of a row -/
theorem s_setName (hd : 2 ≤ d) (h : Sh σ) (T : Tv σ t c w N n f) {r : Nat} (hr : r < n) (hw : 8 ≤ w) (hc : c ≠ 222) :
    ∃ σ', a_call a_tab P d 10 [.ref t, .int (nI r), .ref 222] σ = some (.inl none, σ') ∧ Mo (fun b _ => b = c) σ σ' ∧ Tv σ' t c w N n (fun r' k' => if r' = r ∧ k' < 8 then a_I σ 222 k' else f r' k') := by
  have l1 := T.N_lt
  rw [n_X4_setName (by omega), b_X4_setName_0]
  have key := up_st0 (run := fun i s => b_R (a_call a_tab P (d - 1)) kX4_setName [] (2, [some (.ref t), some (.int (nI r)), some (.ref 222), some (.int (nI i))], [], s)) (n := 8) (s := σ) (fun i s => Mo (fun b _ => b = c) σ s ∧ Tv s t c w N n (fun r' k' => if r' = r ∧ k' < i then a_I σ 222 k' else f r' k'))
    ⟨Mo.rf, T.congr fun r' hr' k' hk' => by (try dsimp only); rw [if_neg (by omega)]⟩
    (fun i s hi ⟨m, T'⟩ => by
      obtain ⟨e1, T2⟩ := s_set (P := P) (d := d - 1) (v := a_I σ 222 i) (by omega) T' (r := r) (k := i) hr (by omega)
      refine ⟨_, ⟨m.then_set rfl, T2.congr fun r' hr' k hk => ?_⟩, ?_⟩
      · (try dsimp only)
        by_cases h1 : r' = r ∧ k = i
        · rw [if_pos h1, if_pos (by omega), h1.2]
        · rw [if_neg h1]
          by_cases h2 : r' = r ∧ k < i
          · rw [if_pos h2, if_pos (by omega)]
          · rw [if_neg h2, if_neg (by omega)]
      · show b_R (a_call a_tab P (d - 1)) kX4_setName [] (2, [some (.ref t), some (.int (nI r)), some (.ref 222), some (.int (nI i))], [], s) = b_R (a_call a_tab P (d - 1)) kX4_setName [] (2, [some (.ref t), some (.int (nI r)), some (.ref 222), some (.int (nI (i + 1)))], [], _)
        rw [b_X4_setName_2 (m.sh h) T'.1, if_pos (nIl hi (by omega)), b_gd_t (nIi hi (by omega)), nIc (by omega), m.I (fun z => hc z.symm), e1, g_n, b_X4_setName_17, nI_add])
  obtain ⟨σ', ⟨m, T'⟩, e⟩ := key
  refine ⟨σ', e.trans ?_, m, T'⟩
  (try dsimp only)
  rw [b_X4_setName_2 (m.sh h) T'.1, if_neg (nIn (Nat.le_refl _) (by omega))]
/-- whether a row begins with the letters at 222 -/
def q_has (σ : aSt) (f : Nat → Nat → Int32) (r : Nat) : Bool := !q_any (fun k => decide (f r k ≠ a_I σ 222 k)) 8
theorem s_hasName (hd : 2 ≤ d) (h : Sh σ) (T : Tv σ t c w N n f) {r : Nat} (hr : r < n) (hw : 8 ≤ w) : a_call a_tab P d 12 [.ref t, .int (nI r), .ref 222] σ = some (.inl (some (.int (b_n (q_has σ f r)))), σ) := by
  rw [n_X4_hasName (by omega), b_X4_hasName_0]
  rcases up_ex (run := fun i (_ : Unit) => b_R (a_call a_tab P (d - 1)) kX4_hasName [] (2, [some (.ref t), some (.int (nI r)), some (.ref 222), some (.int (nI i))], [], σ)) (n := 8) (I := fun i _ => ∀ k, k < i → f r k = a_I σ 222 k) (E := fun z => (∃ k, k < 8 ∧ f r k ≠ a_I σ 222 k) ∧ z = some (.inl (some (.int (nI 0))), σ))
    (fun i s hi hI => by
      (try dsimp only)
      rw [b_X4_hasName_2 h T.1, if_pos (nIl hi (by omega)), s_get (by omega) T hr (by omega), g_v, b_X4_hasName_14 h, b_gd_t (nIi hi (by omega)), nIc (by omega)]
      by_cases he : f r i = a_I σ 222 i
      · refine .inl ⟨(), fun k hk => ?_, by rw [if_pos he, nI_add]⟩
        by_cases hk2 : k = i
        · subst hk2; exact he
        · exact hI k (by omega)
      · exact .inr ⟨⟨i, hi, he⟩, by rw [if_neg he]⟩) 8 0 () (by omega) (fun k hk => by omega) with ⟨_, hI, e⟩ | ⟨⟨k, hk, hne⟩, e⟩
  · refine e.trans ?_
    (try dsimp only)
    rw [b_X4_hasName_2 h T.1, if_neg (nIn (Nat.le_refl _) (by omega))]
    have : q_has σ f r = true := by
      unfold q_has
      rw [q_any_no.mpr fun k hk => decide_eq_false fun z => z (hI k hk)]
      rfl
    rw [this]
    rfl
  · refine e.trans ?_
    have : q_has σ f r = false := by
      unfold q_has
      rw [q_any_iff.mpr ⟨k, hk, decide_eq_true hne⟩]
      rfl
    rw [this]
    rfl
/-- the first row of n that a test takes; none of them: -1 -/
def q_first (f : Nat → Bool) : Nat → Nat → Int32
  | 0, _ => -1
  | k + 1, i => if f i then nI i else q_first f k (i + 1)
theorem s_rowNamed (hd : 3 ≤ d) (h : Sh σ) (T : Tv σ t c w N n f) (hw : 8 ≤ w) : a_call a_tab P d 11 [.ref t, .ref 222] σ = some (.inl (some (.int (q_first (q_has σ f) n 0))), σ) := by
  have l1 := T.N_lt
  have l2 := T.n_le
  rw [n_X4_rowNamed (by omega), b_X4_rowNamed_0]
  have loop : ∀ k i, i + k = n → b_R (a_call a_tab P (d - 1)) kX4_rowNamed [] (2, [some (.ref t), some (.ref 222), some (.int (nI i))], [], σ) = some (.inl (some (.int (q_first (q_has σ f) k i))), σ) := by
    intro k
    induction k with
    | zero =>
      intro i hi
      rw [b_X4_rowNamed_2 T.1, T.2.2.1, if_neg (nIn (by omega) (by omega))]
      rfl
    | succ k ih =>
      intro i hi
      rw [b_X4_rowNamed_2 T.1, T.2.2.1, if_pos (nIl (by omega) (by omega)), s_hasName (by omega) h T (by omega) hw, g_v, b_X4_rowNamed_16]
      unfold q_first
      cases q_has σ f i with
      | true => rfl
      | false =>
        rw [if_pos (by decide), nI_add]
        exact ih (i + 1) (by omega)
  exact loop n 0 (by omega)
end TBL
