/-! Palette: painting; History -/
theorem i_nat (x : Int32) : nI x.toBitVec.toNat = x := by
  apply Int32.toBitVec_inj.mp
  show BitVec.ofNat 32 x.toBitVec.toNat = x.toBitVec
  simp
section UPD
variable {σ σ' : aSt} {p n : Nat} {X : Pal} {f : Nat → Nat → Nat}
theorem CP.up0 (C : CP σ p X) (m : Mo (fun b k => b = p + 2 ∨ (b = p + 1 ∧ k = 2)) σ σ') (T : Tv σ' (p + 1) (p + 2) 13 260 n (fun r k => nI (f r k))) : CP σ' p (z_cnt (z_up X 0 f) 0 n) :=
  ⟨m.pa C.1, T, C.2.2.1.mo m (by omega) (by omega) (fun k _ => by omega), C.2.2.2.1.mo m (by omega) (by omega) (fun k _ => by omega), C.2.2.2.2.1.mo m (by omega) (by omega) (fun k _ => by omega), (m.I (by omega)).trans C.2.2.2.2.2.1, (m.I (by omega)).trans C.2.2.2.2.2.2.1, (m.I (by omega)).trans C.2.2.2.2.2.2.2⟩
theorem CP.up1 (C : CP σ p X) (m : Mo (fun b k => b = p + 4 ∨ (b = p + 3 ∧ k = 2)) σ σ') (T : Tv σ' (p + 3) (p + 4) 17 340 n (fun r k => nI (f r k))) : CP σ' p (z_cnt (z_up X 1 f) 1 n) :=
  ⟨m.pa C.1, C.2.1.mo m (by omega) (by omega) (fun k _ => by omega), T, C.2.2.2.1.mo m (by omega) (by omega) (fun k _ => by omega), C.2.2.2.2.1.mo m (by omega) (by omega) (fun k _ => by omega), (m.I (by omega)).trans C.2.2.2.2.2.1, (m.I (by omega)).trans C.2.2.2.2.2.2.1, (m.I (by omega)).trans C.2.2.2.2.2.2.2⟩
theorem CP.up2 (C : CP σ p X) (m : Mo (fun b k => b = p + 6 ∨ (b = p + 5 ∧ k = 2)) σ σ') (T : Tv σ' (p + 5) (p + 6) 4 24 n (fun r k => nI (f r k))) : CP σ' p (z_cnt (z_up X 2 f) 2 n) :=
  ⟨m.pa C.1, C.2.1.mo m (by omega) (by omega) (fun k _ => by omega), C.2.2.1.mo m (by omega) (by omega) (fun k _ => by omega), T, C.2.2.2.2.1.mo m (by omega) (by omega) (fun k _ => by omega), (m.I (by omega)).trans C.2.2.2.2.2.1, (m.I (by omega)).trans C.2.2.2.2.2.2.1, (m.I (by omega)).trans C.2.2.2.2.2.2.2⟩
theorem CP.up3 (C : CP σ p X) (m : Mo (fun b k => b = p + 8 ∨ (b = p + 7 ∧ k = 2)) σ σ') (T : Tv σ' (p + 7) (p + 8) 4 48 n (fun r k => nI (f r k))) : CP σ' p (z_cnt (z_up X 3 f) 3 n) :=
  ⟨m.pa C.1, C.2.1.mo m (by omega) (by omega) (fun k _ => by omega), C.2.2.1.mo m (by omega) (by omega) (fun k _ => by omega), C.2.2.2.1.mo m (by omega) (by omega) (fun k _ => by omega), T, (m.I (by omega)).trans C.2.2.2.2.2.1, (m.I (by omega)).trans C.2.2.2.2.2.2.1, (m.I (by omega)).trans C.2.2.2.2.2.2.2⟩
/-- two palettes that agree where they are looked at -/
theorem CP.eqv {Y : Pal} (C : CP σ p X) (h1 : ∀ j, j < 7 → Y.1 j = X.1 j) (h0 : ∀ r k, r < X.1 0 → k < 13 → Y.2 0 r k = X.2 0 r k) (h2 : ∀ r k, r < X.1 1 → k < 17 → Y.2 1 r k = X.2 1 r k) (h3 : ∀ r k, r < X.1 2 → k < 4 → Y.2 2 r k = X.2 2 r k) (h4 : ∀ r k, r < X.1 3 → k < 4 → Y.2 3 r k = X.2 3 r k) : CP σ p Y := by
  refine ⟨C.1, ?_, ?_, ?_, ?_, ?_, ?_, ?_⟩
  · rw [h1 0 (by decide)]; exact C.2.1.congr fun r hr k hk => by unfold tv; rw [h0 r k hr hk]
  · rw [h1 1 (by decide)]; exact C.2.2.1.congr fun r hr k hk => by unfold tv; rw [h2 r k hr hk]
  · rw [h1 2 (by decide)]; exact C.2.2.2.1.congr fun r hr k hk => by unfold tv; rw [h3 r k hr hk]
  · rw [h1 3 (by decide)]; exact C.2.2.2.2.1.congr fun r hr k hk => by unfold tv; rw [h4 r k hr hk]
  · rw [h1 4 (by decide)]; exact C.2.2.2.2.2.1
  · rw [h1 5 (by decide)]; exact C.2.2.2.2.2.2.1
  · rw [h1 6 (by decide)]; exact C.2.2.2.2.2.2.2
end UPD
def z_part (g : Nat → Nat) (t n : Nat) : Nat := q_s (fun i => if g (9 + i) = t then g (13 + i) else 0) n
/-- the palette behind a painting -/
def z_pt (X : Pal) (b : Nat) (g : Nat → Nat) (s : Nat) : Pal :=
  (fun j => if j = 3 then min 12 (X.1 3 + 1) else X.1 j, fun j => match j with
    | 0 => fun t k => if k = 11 then X.2 0 t 11 - s * z_part g t (g 8) else X.2 0 t k
    | 2 => fun r k => if r = b then (if k = 3 then min 3 (X.2 2 b 3 + 1) else z_paint X b g k) else X.2 2 r k
    | 3 => fun r k => if r = 0 then (if k = 0 then z_pcol X b g else if k = 1 then b else if k = 2 then s else z_col X g) else X.2 3 (r - 1) k
    | j => X.2 j)
theorem z_paint_le {X : Pal} (V : Vd X) {b : Nat} {g : Nat → Nat} (hb : b < X.1 2) (M : Vm (X.1 0) g) {k : Nat} (hk : k < 3) : z_paint X b g k ≤ 255 := by
  have h1 := z_val_le V M hk
  have h2 := (V.b hb).1 k hk
  refine z_rnd_le (by omega) ?_
  have h3 : X.2 2 b 3 * X.2 2 b k ≤ X.2 2 b 3 * 255 := Nat.mul_le_mul_left _ h2
  omega
theorem z_pcol_lt {X : Pal} (V : Vd X) {b : Nat} {g : Nat → Nat} (hb : b < X.1 2) (M : Vm (X.1 0) g) : z_pcol X b g ≤ 16777215 := by
  have h0 := z_paint_le V hb M (k := 0) (by decide)
  have h1 := z_paint_le V hb M (k := 1) (by decide)
  have h2 := z_paint_le V hb M (k := 2) (by decide)
  unfold z_pcol
  omega
theorem z_col_lt {X : Pal} (V : Vd X) {g : Nat → Nat} (M : Vm (X.1 0) g) : z_col X g ≤ 16777215 := by
  have h0 := z_val_le V M (k := 0) (by decide)
  have h1 := z_val_le V M (k := 1) (by decide)
  have h2 := z_val_le V M (k := 2) (by decide)
  unfold z_col
  omega
theorem z_min_at {f : Nat → Nat} {b i : Nat} : ∀ {n : Nat}, i < n → z_min f b n ≤ f i
  | n + 1, h => by
    show min (z_min f b n) (f n) ≤ f i
    by_cases hi : i = n
    · subst hi; exact Nat.min_le_right _ _
    · exact Nat.le_trans (Nat.min_le_left _ _) (z_min_at (by omega))
theorem z_part_0 {g : Nat → Nat} {t : Nat} : ∀ {n : Nat}, (∀ j, j < n → g (9 + j) ≠ t) → z_part g t n = 0
  | 0, _ => rfl
  | n + 1, h => by
    show z_part g t n + (if g (9 + n) = t then g (13 + n) else 0) = 0
    rw [z_part_0 fun j hj => h j (by omega), if_neg (h n (by omega))]
section PNT
variable {P : aCall} {d : Nat} {σ : aSt} {p : Nat} {X : Pal}
theorem s_paintStrokes (H : Pm P) (hd : 4 ≤ d) (C : CP σ p X) (V : Vd X) {b m s : Nat} (hb : b < X.1 2) (hm : m < X.1 1) (hs : s ≤ 99) (hl : s ≤ z_str X (X.2 1 m)) : ∃ σ', a_call a_tab P d 50 [.ref p, .int (nI b), .int (nI m), .int (nI s)] σ = some (.inl (some (.int (nI (z_pcol X b (X.2 1 m))))), σ') ∧ Mo (Sp p) σ σ' ∧ CP σ' p (z_pt X b (X.2 1 m) s) := by
  have M := V.m hm
  have h12 := V.2.2.1
  obtain ⟨B1, B2⟩ := V.b hb
  have hpc := z_pcol_lt V hb M
  rw [n_X1_paintStrokes (by omega), b_X1_paintStrokes_0 C.1, s_paintedColour (by omega) C V hb hm, g_v, b_X1_paintStrokes_6 C.1]
  obtain ⟨s1, n', hn', e1, m1, f1, T1, F1⟩ := s_addFirst (P := P) (d := d - 1) (by omega) C.2.2.2.2.1 (by omega)
  have hn : n' = min 12 (X.1 3 + 1) := by
    rw [hn']
    split <;> omega
  have hn1 : 0 < n' := by omega
  rw [e1, g_n]
  have k1 : Mo (Sp p) σ s1 := m1.mono fun b k h => by unfold Sp; omega
  have a1 : Mo (fun b k => b = p + 8 ∨ (b = p + 7 ∧ k = 2)) σ s1 := m1
  rw [b_X1_paintStrokes_15 (k1.pa C.1)]
  obtain ⟨e2, T2⟩ := s_set (P := P) (d := d - 1) (v := nI (z_pcol X b (X.2 1 m))) (by omega) T1 hn1 (by decide : 0 < 4)
  have a2 := a1.then_set (a := p + 8) (k := 0 * 4 + 0) (v := nI (z_pcol X b (X.2 1 m))) (.inl rfl)
  rw [e2, g_n, b_X1_paintStrokes_26 (a2.pa C.1)]
  obtain ⟨e3, T3⟩ := s_set (P := P) (d := d - 1) (v := nI b) (by omega) T2 hn1 (by decide : 1 < 4)
  have a3 := a2.then_set (a := p + 8) (k := 0 * 4 + 1) (v := nI b) (.inl rfl)
  rw [e3, g_n, b_X1_paintStrokes_36 (a3.pa C.1)]
  obtain ⟨e4, T4⟩ := s_set (P := P) (d := d - 1) (v := nI s) (by omega) T3 hn1 (by decide : 2 < 4)
  have a4 := a3.then_set (a := p + 8) (k := 0 * 4 + 2) (v := nI s) (.inl rfl)
  rw [e4, g_n, b_X1_paintStrokes_46 (a4.pa C.1)]
  -- the palette so far
  have C4 := C.up3 a4 (n := n') (f := fun r k => ((fun r' k' => if r' = 0 ∧ k' = 2 then nI s else (fun r' k' => if r' = 0 ∧ k' = 1 then nI b else (fun r' k' => if r' = 0 ∧ k' = 0 then nI (z_pcol X b (X.2 1 m)) else f1 r' k') r' k') r' k') r k : Int32).toBitVec.toNat) (T4.congr fun r hr k hk => (i_nat _).symm)
  have V4 : ∀ f, Vd (z_cnt (z_up X 3 f) 3 n') := fun f => ⟨V.1, V.2.1, show n' ≤ 12 by omega, V.2.2.2⟩
  rw [s_colourOf (by omega) C4 (V4 _) (h := X.2 1) C4.2.2.1 hm M, g_v, b_X1_paintStrokes_61 (a4.pa C.1)]
  obtain ⟨e5, T5⟩ := s_set (P := P) (d := d - 1) (v := nI (z_col X (X.2 1 m))) (by omega) T4 hn1 (by decide : 3 < 4)
  have a5 := a4.then_set (a := p + 8) (k := 0 * 4 + 3) (v := nI (z_col X (X.2 1 m))) (.inl rfl)
  have C5 := C.up3 a5 (n := n') (f := (z_pt X b (X.2 1 m) s).2 3) (T5.congr fun r hr k hk => by
    show _ = nI (if r = 0 then (if k = 0 then z_pcol X b (X.2 1 m) else if k = 1 then b else if k = 2 then s else z_col X (X.2 1 m)) else X.2 3 (r - 1) k)
    (try dsimp only)
    by_cases hr0 : r = 0
    · rw [if_pos hr0]
      obtain rfl | rfl | rfl | rfl : k = 0 ∨ k = 1 ∨ k = 2 ∨ k = 3 := by omega
      · rw [if_neg (by omega), if_neg (by omega), if_neg (by omega), if_pos (by omega), if_pos rfl]
      · rw [if_neg (by omega), if_neg (by omega), if_pos (by omega), if_neg (by decide), if_pos rfl]
      · rw [if_neg (by omega), if_pos (by omega), if_neg (by decide), if_neg (by decide), if_pos rfl]
      · rw [if_pos (by omega), if_neg (by decide), if_neg (by decide), if_neg (by decide)]
    · rw [if_neg (by omega), if_neg (by omega), if_neg (by omega), if_neg (by omega), if_neg hr0, F1 r (by omega) hr k hk]
      rfl)
  show ∃ σ', b_G _ _ _ _ _ _ _ (a_call a_tab P (d - 1) 2 [.ref (p + 7), .int (nI 0), .int (nI 3), .int (nI (z_col X (X.2 1 m)))] _) = _ ∧ _
  rw [e5, g_n, b_X1_paintStrokes_64 (a5.pa C.1), s_get (by omega) C5.2.2.1 hm (by decide), g_v, b_X1_paintStrokes_74]
  -- the tubes
  have m5 : Mo (Sp p) σ _ := a5.mono (S' := Sp p) fun b k h => by unfold Sp; omega
  obtain ⟨⟨s6, o6⟩, ⟨m6, C6⟩, e6⟩ := up_st0 (run := fun i (so : aSt × Option Value) => b_R (a_call a_tab P (d - 1)) kX1_paintStrokes [] (79, [some (.ref p), some (.int (nI b)), some (.int (nI m)), some (.int (nI s)), some (.int (nI (z_pcol X b (X.2 1 m)))), some (.int (nI (X.2 1 m 8))), some (.int (nI i)), so.2], [], so.1)) (n := X.2 1 m 8) (s := (_, none))
    (fun i so => Mo (Sp p) σ so.1 ∧ CP so.1 p (z_cnt (z_up (z_cnt (z_up X 3 ((z_pt X b (X.2 1 m) s).2 3)) 3 n') 0 (fun t k => if k = 11 then X.2 0 t 11 - s * z_part (X.2 1 m) t i else X.2 0 t k)) 0 (X.1 0)))
    ⟨m5, C5.eqv (fun j hj => by show (if j = 0 then _ else _) = _; split <;> simp_all [z_cnt, z_up]) (fun r k hr hk => by
      show (if k = 11 then X.2 0 r 11 - s * 0 else X.2 0 r k) = X.2 0 r k
      by_cases h : k = 11
      · rw [if_pos h, h]; rfl
      · rw [if_neg h]) (fun r k hr hk => rfl) (fun r k hr hk => rfl) (fun r k hr hk => rfl)⟩
    (fun i so hi ⟨m6, C6⟩ => by
      obtain ⟨s6, o6⟩ := so
      have h4 := M.2.1
      obtain ⟨q1, q2, q3⟩ := M.2.2.1 i hi
      have q4 : s ≤ X.2 0 (X.2 1 m (9 + i)) 11 / X.2 1 m (13 + i) := Nat.le_trans hl (z_min_at hi)
      have q5 : s * X.2 1 m (13 + i) ≤ X.2 0 (X.2 1 m (9 + i)) 11 := (Nat.le_div_iff_mul_le (by omega)).mp q4
      have q6 : z_part (X.2 1 m) (X.2 1 m (9 + i)) i = 0 := z_part_0 fun j hj z => by
        have := M.2.2.2 j (by omega) i hi z
        omega
      (try dsimp only)
      rw [b_X1_paintStrokes_79 C6.1, if_pos (nIl hi (by omega)), nI_add, s_get (by omega) C6.2.2.1 hm (by omega), g_v, b_X1_paintStrokes_99 C6.1]
      show ∃ s', _ ∧ b_G _ _ _ _ _ _ _ (a_call a_tab P (d - 1) 1 [.ref (p + 1), .int (nI (X.2 1 m (9 + i))), .int (nI 11)] _) = _
      rw [s_get (by omega) C6.2.1 q1 (by decide), g_v, b_X1_paintStrokes_120 C6.1, nI_add, s_get (by omega) C6.2.2.1 hm (by omega), g_v, b_X1_paintStrokes_134 C6.1]
      have ev : tv (z_cnt (z_up (z_cnt (z_up X 3 ((z_pt X b (X.2 1 m) s).2 3)) 3 n') 0 (fun t k => if k = 11 then X.2 0 t 11 - s * z_part (X.2 1 m) t i else X.2 0 t k)) 0 (X.1 0)) 0 (X.2 1 m (9 + i)) 11 - nI s * tv (z_cnt (z_up (z_cnt (z_up X 3 ((z_pt X b (X.2 1 m) s).2 3)) 3 n') 0 (fun t k => if k = 11 then X.2 0 t 11 - s * z_part (X.2 1 m) t i else X.2 0 t k)) 0 (X.1 0)) 1 m (13 + i) = nI (X.2 0 (X.2 1 m (9 + i)) 11 - s * X.2 1 m (13 + i)) := by
        show nI (X.2 0 (X.2 1 m (9 + i)) 11 - s * z_part (X.2 1 m) (X.2 1 m (9 + i)) i) - nI s * nI (X.2 1 m (13 + i)) = _
        rw [q6, Nat.mul_zero, Nat.sub_zero, pk_mul, pk_sub q5]
      rw [ev]
      obtain ⟨e7, T7⟩ := s_set (P := P) (d := d - 1) (v := nI (X.2 0 (X.2 1 m (9 + i)) 11 - s * X.2 1 m (13 + i))) (by omega) C6.2.1 q1 (by decide : 11 < 13)
      have a7 : Mo (fun b k => b = p + 2 ∨ (b = p + 1 ∧ k = 2)) s6 (a_setI s6 (p + 2) (X.2 1 m (9 + i) * 13 + 11) (nI (X.2 0 (X.2 1 m (9 + i)) 11 - s * X.2 1 m (13 + i)))) := Mo.set (.inl rfl)
      refine ⟨(_, some (.int (nI (X.2 1 m (9 + i))))), ⟨m6.tr (a7.mono fun b k h => by unfold Sp; omega), ?_⟩, ?_⟩
      rotate_left
      · show b_G _ _ _ _ _ _ _ (a_call a_tab P (d - 1) 2 [.ref (p + 1), .int (nI (X.2 1 m (9 + i))), .int (nI 11), _] _) = _
        rw [e7, g_n, b_X1_paintStrokes_139, nI_add]
        rfl
      · refine (C6.up0 a7 (n := X.1 0) (f := fun t k => if k = 11 then X.2 0 t 11 - s * z_part (X.2 1 m) t (i + 1) else X.2 0 t k) (T7.congr fun r hr k hk => ?_)).eqv (fun j hj => by show (if j = 0 then _ else _) = (if j = 0 then _ else (if j = 0 then _ else _)); split <;> rfl) (fun r k hr hk => rfl) (fun r k hr hk => rfl) (fun r k hr hk => rfl) (fun r k hr hk => rfl)
        (try dsimp only)
        by_cases hk1 : k = 11
        · subst hk1
          rw [if_pos rfl]
          show _ = nI (X.2 0 r 11 - s * (z_part (X.2 1 m) r i + (if X.2 1 m (9 + i) = r then X.2 1 m (13 + i) else 0)))
          by_cases hr1 : r = X.2 1 m (9 + i)
          · rw [if_pos ⟨hr1, rfl⟩, if_pos hr1.symm, hr1, q6, Nat.zero_add]
          · rw [if_neg (fun z => hr1 z.1), if_neg (fun z => hr1 z.symm), Nat.add_zero]
            rfl
        · rw [if_neg (fun z => hk1 z.2), if_neg hk1]
          show nI (if k = 11 then _ else X.2 0 r k) = _
          rw [if_neg hk1])
  rw [show (nI 0 : Int32) = nI 0 from rfl]
  have e6' := e6
  (try dsimp only)
  refine Exists.imp (fun σ' h => ⟨e6'.trans h.1, h.2⟩) (?_ : ∃ σ', b_R (a_call a_tab P (d - 1)) kX1_paintStrokes [] (79, [some (.ref p), some (.int (nI b)), some (.int (nI m)), some (.int (nI s)), some (.int (nI (z_pcol X b (X.2 1 m)))), some (.int (nI (X.2 1 m 8))), some (.int (nI (X.2 1 m 8))), o6], [], s6) = some (.inl (some (.int (nI (z_pcol X b (X.2 1 m))))), σ') ∧ Mo (Sp p) σ σ' ∧ CP σ' p (z_pt X b (X.2 1 m) s))
  rw [b_X1_paintStrokes_79 C6.1, if_neg (nIn (Nat.le_refl _) (by have := M.2.1; omega))]
  -- the brush
  have hch : ∀ k, k < 3 → z_ch (z_pcol X b (X.2 1 m)) k = z_paint X b (X.2 1 m) k := fun k hk => by
    have h := z_ch_col (z_paint_le V hb M (k := 0) (by decide)) (z_paint_le V hb M (k := 1) (by decide)) (z_paint_le V hb M (k := 2) (by decide))
    obtain rfl | rfl | rfl : k = 0 ∨ k = 1 ∨ k = 2 := by omega
    · exact h.1
    · exact h.2.1
    · exact h.2.2
  obtain ⟨s8, ⟨a8, T8⟩, e8⟩ := up_st0 (run := fun i s8 => b_R (a_call a_tab P (d - 1)) kX1_paintStrokes [] (148, [some (.ref p), some (.int (nI b)), some (.int (nI m)), some (.int (nI s)), some (.int (nI (z_pcol X b (X.2 1 m)))), some (.int (nI (X.2 1 m 8))), some (.int (nI i)), o6], [], s8)) (n := 3) (s := s6)
    (fun i s8 => Mo (fun b k => b = p + 6 ∨ (b = p + 5 ∧ k = 2)) s6 s8 ∧ Tv s8 (p + 5) (p + 6) 4 24 (X.1 2) (fun r k => if r = b ∧ k < i then nI (z_paint X b (X.2 1 m) k) else nI (X.2 2 r k)))
    ⟨Mo.rf, C6.2.2.2.1.congr fun r hr k hk => by (try dsimp only); rw [if_neg (by omega)]; rfl⟩
    (fun i s8 hi ⟨a8, T8⟩ => by
      obtain ⟨e9, T9⟩ := s_set (P := P) (d := d - 1) (v := nI (z_paint X b (X.2 1 m) i)) (by omega) T8 hb (by omega : i < 4)
      refine ⟨_, ⟨a8.then_set (.inl rfl), T9.congr fun r hr k hk => ?_⟩, ?_⟩
      · (try dsimp only)
        by_cases h1 : r = b ∧ k = i
        · rw [if_pos h1, if_pos (by omega), h1.2]
        · rw [if_neg h1]
          by_cases h2 : r = b ∧ k < i
          · rw [if_pos h2, if_pos (by omega)]
          · rw [if_neg h2, if_neg (by omega)]
      · (try dsimp only)
        rw [b_X1_paintStrokes_148 (a8.pa C6.1), if_pos (nIl hi (by decide)), s_channel (by omega) (by omega) hi, g_v, b_X1_paintStrokes_168 (a8.pa C6.1), hch i hi, e9, g_n, b_X1_paintStrokes_171, nI_add])
  refine Exists.imp (fun σ' h => ⟨e8.trans h.1, h.2⟩) (?_ : ∃ σ', b_R (a_call a_tab P (d - 1)) kX1_paintStrokes [] (148, [some (.ref p), some (.int (nI b)), some (.int (nI m)), some (.int (nI s)), some (.int (nI (z_pcol X b (X.2 1 m)))), some (.int (nI (X.2 1 m 8))), some (.int (nI 3)), o6], [], s8) = some (.inl (some (.int (nI (z_pcol X b (X.2 1 m))))), σ') ∧ Mo (Sp p) σ σ' ∧ CP σ' p (z_pt X b (X.2 1 m) s))
  rw [b_X1_paintStrokes_148 (a8.pa C6.1), if_neg (nIn (Nat.le_refl _) (by decide)), s_get (by omega) T8 hb (by decide), g_v, b_X1_paintStrokes_193]
  have ed : (if b = b ∧ 3 < 3 then nI (z_paint X b (X.2 1 m) 3) else nI (X.2 2 b 3)) = nI (X.2 2 b 3) := if_neg (by omega)
  rw [ed, nI_add, s_minN H (by decide) (by omega), g_v, b_X1_paintStrokes_198 (a8.pa C6.1)]
  obtain ⟨e10, T10⟩ := s_set (P := P) (d := d - 1) (v := nI (min 3 (X.2 2 b 3 + 1))) (by omega) T8 hb (by decide : 3 < 4)
  have a10 := a8.then_set (a := p + 6) (k := b * 4 + 3) (v := nI (min 3 (X.2 2 b 3 + 1))) (.inl rfl)
  rw [e10, g_n, b_X1_paintStrokes_201]
  refine ⟨_, rfl, m6.tr (a10.mono fun b k h => by unfold Sp; omega), (C6.up2 a10 (n := X.1 2) (f := (z_pt X b (X.2 1 m) s).2 2) (T10.congr fun r hr k hk => ?_)).eqv ?_ (fun r k hr hk => rfl) (fun r k hr hk => rfl) (fun r k hr hk => rfl) (fun r k hr hk => rfl)⟩
  · show _ = nI (if r = b then (if k = 3 then min 3 (X.2 2 b 3 + 1) else z_paint X b (X.2 1 m) k) else X.2 2 r k)
    (try dsimp only)
    by_cases h1 : r = b
    · rw [if_pos h1]
      by_cases h2 : k = 3
      · rw [if_pos ⟨h1, h2⟩, if_pos h2]
      · rw [if_neg (fun z => h2 z.2), if_pos ⟨h1, by omega⟩, if_neg h2]
    · rw [if_neg (fun z => h1 z.1), if_neg (fun z => h1 z.1), if_neg h1]
  · intro j hj
    show (if j = 3 then min 12 (X.1 3 + 1) else X.1 j) = (if j = 2 then X.1 2 else (if j = 0 then X.1 0 else (if j = 3 then n' else X.1 j)))
    rw [hn]
    split
    · rename_i h; subst h; rfl
    · split
      · rename_i h; rw [h]
      · split
        · rename_i h; rw [h]
        · rfl
end PNT
section HST
variable {P : aCall} {d : Nat} {σ : aSt} {X : Pal}
def z_sl (i : Nat) : Nat := 130 + 9 * i
theorem z_sl_pa (h : Sh σ) {i : Nat} (hi : i < 10) : Pa σ (z_sl i) ∧ a_R σ 129 i = some (z_sl i) := by
  obtain rfl | rfl | rfl | rfl | rfl | rfl | rfl | rfl | rfl | rfl : i = 0 ∨ i = 1 ∨ i = 2 ∨ i = 3 ∨ i = 4 ∨ i = 5 ∨ i = 6 ∨ i = 7 ∨ i = 8 ∨ i = 9 := by omega
  · exact ⟨pa_130 h, sr_129_0 h⟩
  · exact ⟨pa_139 h, sr_129_1 h⟩
  · exact ⟨pa_148 h, sr_129_2 h⟩
  · exact ⟨pa_157 h, sr_129_3 h⟩
  · exact ⟨pa_166 h, sr_129_4 h⟩
  · exact ⟨pa_175 h, sr_129_5 h⟩
  · exact ⟨pa_184 h, sr_129_6 h⟩
  · exact ⟨pa_193 h, sr_129_7 h⟩
  · exact ⟨pa_202 h, sr_129_8 h⟩
  · exact ⟨pa_211 h, sr_129_9 h⟩
theorem s_slot (hd : 1 ≤ d) (h : Sh σ) {i : Nat} (hi : i < 10) : a_call a_tab P d 53 [.ref 128, .int (nI i)] σ = some (.inl (some (.ref (z_sl i))), σ) := by
  rw [n_X0_slot hd, b_X0_slot_0 h (q := z_sl i) (by rw [nIc (by omega)]; exact (z_sl_pa h hi).2), if_neg (nIp (by omega)), if_pos (nIl hi (by decide)), b_gd_t (nIi hi (by decide))]
  exact e_areturnR rfl
theorem s_forgetAll (hd : 1 ≤ d) (h : Sh σ) : a_call a_tab P d 54 [.ref 128] σ = some (.inl none, a_setI σ 128 2 (nI 0)) := by
  rw [n_X0_forgetAll hd, b_X0_forgetAll_0 h]
/-- the counts of the history, and all the slots -/
def Sk (i b k : Nat) : Prop := Sp (z_sl i) b k ∨ (b = 128 ∧ (k = 1 ∨ k = 2))
theorem s_record (H : Pm P) (hd : 3 ≤ d) (h : Sh σ) (C : CP σ 101 X) {i n : Nat} (hi : i < 10) (hn : n ≤ 10) (W : Wd σ (z_sl i)) (e1 : a_I σ 128 1 = nI i) (e2 : a_I σ 128 2 = nI n) :
    ∃ σ', a_call a_tab P d 55 [.ref 128, .ref 101] σ = some (.inl none, σ') ∧ Mo (Sk i) σ σ' ∧ CP σ' (z_sl i) X ∧ a_I σ' 128 1 = nI ((i + 1) % 10) ∧ a_I σ' 128 2 = nI (min 10 (n + 1)) := by
  have hz : 130 ≤ z_sl i ∧ z_sl i ≤ 211 := by unfold z_sl; omega
  rw [n_X0_record (by omega), b_X0_record_0 h, e1, s_slot (by omega) h hi, g_v, b_X0_record_8 (z_sl_pa h hi).1]
  obtain ⟨s1, f1, m1, C1⟩ := s_pcopy (P := P) (d := d - 1) H (by omega) (z_sl_pa h hi).1 W C (by omega)
  have k1 : a_I s1 128 1 = nI i := by rw [m1.I (fun z => by have := z.in; omega)]; exact e1
  have k2 : a_I s1 128 2 = nI n := by rw [m1.I (fun z => by have := z.in; omega)]; exact e2
  rw [f1, g_n, b_X0_record_19 (m1.sh h), k1, nI_add, pk_rem (by omega) (by decide) (by decide), a_I_off (.inr (by decide)), k2, nI_add, s_minN H (by decide) (by omega), g_v]
  have m2 := m1.mono (S' := Sk i) fun b k z => .inl z
  have m3 := m2.then_set (a := 128) (k := 1) (v := nI ((i + 1) % 10)) (.inr ⟨rfl, .inl rfl⟩)
  rw [b_X0_record_44 (m3.sh h)]
  have m4 := m3.then_set (a := 128) (k := 2) (v := nI (min 10 (n + 1))) (.inr ⟨rfl, .inr rfl⟩)
  refine ⟨_, rfl, m4, ?_, ?_, a_I_at⟩
  · exact C1.mo (S := fun b _ => b = 128) ((Mo.set (S := fun b _ => b = 128) rfl).then_set (S := fun b _ => b = 128) rfl) (fun b k h1 h2 h3 => by omega)
  · rw [a_I_off (.inr (by decide)), a_I_at]
theorem s_stepBack (H : Pm P) (hd : 3 ≤ d) (h : Sh σ) (W : Wd σ 101) {i n : Nat} (hi : i < 10) (hn : n ≤ 10) (C : 0 < n → CP σ (z_sl ((i + 9) % 10)) X) (e1 : a_I σ 128 1 = nI i) (e2 : a_I σ 128 2 = nI n) :
    (n = 0 ∧ a_call a_tab P d 56 [.ref 128, .ref 101] σ = some (.inl (some (.int (nI 0))), σ)) ∨
    (0 < n ∧ ∃ σ', a_call a_tab P d 56 [.ref 128, .ref 101] σ = some (.inl (some (.int (nI 1))), σ') ∧ Mo (fun b k => Sp 101 b k ∨ (b = 128 ∧ (k = 1 ∨ k = 2))) σ σ' ∧ CP σ' 101 X ∧ a_I σ' 128 1 = nI ((i + 9) % 10) ∧ a_I σ' 128 2 = nI (n - 1)) := by
  have hl : (i + 9) % 10 < 10 := Nat.mod_lt _ (by decide)
  have hz : 130 ≤ z_sl ((i + 9) % 10) ∧ z_sl ((i + 9) % 10) ≤ 211 := by unfold z_sl; omega
  have ep : nI i + nI 10 - nI 1 = nI (i + 9) := by rw [nI_add, pk_sub (by omega)]; congr 1
  rw [n_X0_stepBack (by omega), b_X0_stepBack_0 h, e1, ep, pk_rem (by omega) (by decide) (by decide), s_slot (by omega) h hl, g_v, b_X0_stepBack_18 h (pa_101 h), e2]
  by_cases h0 : n = 0
  · subst h0
    refine .inl ⟨rfl, ?_⟩
    rw [if_pos (by decide), b_X0_stepBack_30]
  · refine .inr ⟨by omega, ?_⟩
    obtain ⟨s1, f1, m1, C1⟩ := s_pcopy (P := P) (d := d - 1) (p := 101) H (by omega) (pa_101 h) W (C (by omega)) (by omega)
    have k2 : a_I s1 128 2 = nI n := by rw [m1.I (fun z => by have := z.in; omega)]; exact e2
    rw [if_neg (nI_ne0 (by omega) (by omega)), f1, g_n, b_X0_stepBack_37 (m1.sh h), a_I_off (.inr (by decide)), k2, pk_sub (by omega)]
    have m2 := ((m1.mono (S' := fun b k => Sp 101 b k ∨ (b = 128 ∧ (k = 1 ∨ k = 2))) fun b k z => .inl z).then_set (a := 128) (k := 1) (v := nI ((i + 9) % 10)) (.inr ⟨rfl, .inl rfl⟩)).then_set (a := 128) (k := 2) (v := nI (n - 1)) (.inr ⟨rfl, .inr rfl⟩)
    refine ⟨_, rfl, m2, ?_, ?_, a_I_at⟩
    · exact C1.mo (S := fun b _ => b = 128) ((Mo.set (S := fun b _ => b = 128) rfl).then_set (S := fun b _ => b = 128) rfl) (fun b k h1 h2 h3 => by omega)
    · rw [a_I_off (.inr (by decide)), a_I_at]
end HST
