/-! PaletteTubes: the operations -/
def SO (b _k : Nat) : Prop := 100 ≤ b ∧ b < 235 ∧ ¬ (220 ≤ b ∧ b ≤ 228)
def z_push (X : Pal) (hs : List Pal) : List Pal := (X :: hs).take 10
def OO (c : Option (aRes × aSt)) (σ : aSt) (sn : Option Pal) (r : Nat ⊕ (Int32 × Pal × List Pal)) : Prop := match r with
  | .inl x => c = some (.inr x, a_made σ)
  | .inr q => ∃ σ', c = some (.inl (some (.int q.1)), σ') ∧ Mo SO σ σ' ∧ KC σ' q.2.1 q.2.2 sn
theorem Sp.so {b k : Nat} (z : Sp 101 b k) : SO b k := by have := z.in; unfold SO; omega
theorem S8.so {b k : Nat} (z : S8 b k) : SO b k := by unfold S8 at z; unfold SO; omega
theorem Ss.so {b k : Nat} (z : Ss b k) : SO b k := by unfold Ss at z; unfold SO; omega
theorem CP.fld {σ : aSt} {X : Pal} (C : CP σ 101 X) {j n : Nat} (hj : j = 4 ∨ j = 5 ∨ j = 6) : CP (a_setI σ 101 j (nI n)) 101 (z_cnt X j n) := by
  have m : Mo (fun b k => b = 101 ∧ k = j) σ (a_setI σ 101 j (nI n)) := Mo.set ⟨rfl, rfl⟩
  obtain ⟨c0, c1, c2, c3, c4, c5, c6, c7⟩ := C
  have d1 := c1.mo m (by omega) (by omega) (fun k _ => by omega)
  have d2 := c2.mo m (by omega) (by omega) (fun k _ => by omega)
  have d3 := c3.mo m (by omega) (by omega) (fun k _ => by omega)
  have d4 := c4.mo m (by omega) (by omega) (fun k _ => by omega)
  rcases hj with rfl | rfl | rfl
  · exact ⟨m.pa c0, d1, d2, d3, d4, a_I_at, (m.I (by omega)).trans c6, (m.I (by omega)).trans c7⟩
  · exact ⟨m.pa c0, d1, d2, d3, d4, (m.I (by omega)).trans c5, a_I_at, (m.I (by omega)).trans c7⟩
  · exact ⟨m.pa c0, d1, d2, d3, d4, (m.I (by omega)).trans c5, (m.I (by omega)).trans c6, a_I_at⟩
section OPS
variable {P : aCall} {d : Nat} {σ : aSt} {X : Pal} {hs : List Pal} {sn : Option Pal} {x y z : Int32}
theorem KC.fld (K : KC σ X hs sn) {j n : Nat} (hj : j = 4 ∨ j = 5 ∨ j = 6) (V : Vd (z_cnt X j n)) : KC (a_setI σ 101 j (nI n)) (z_cnt X j n) hs sn :=
  K.upd (Mo.set (S := fun b k => b = 101) rfl) (fun b k z => by unfold Sp; omega) (K.2.1.fld hj) V
theorem s_change (H : Pm P) (hd : 4 ≤ d) (K : KC σ X hs sn) : OO (a_call a_tab P d 125 [.ref 100] σ) σ sn (.inr (nI (X.1 6), z_cnt X 6 0, z_push X hs)) := by
  obtain ⟨s1, e1, m1, K1⟩ := s_rec (P := P) (d := d - 1) H (by omega) K
  refine ⟨a_setI s1 101 6 (nI 0), ?_, (m1.mono fun b k z => z.so).then_set (by unfold SO; omega), K1.fld (.inr (.inr rfl)) (z_turb_vd K.2.2.1 (by decide))⟩
  rw [n_X7_change (by omega), b_X7_change_0 K.1, e1, g_n, b_X7_change_11 K1.1, K1.2.1.2.2.2.2.2.2.2]
def o_setMost (X : Pal) (hs : List Pal) (x : Int32) : Nat ⊕ (Int32 × Pal × List Pal) := if 1 ≤ o_nat x ∧ o_nat x ≤ 6 then .inr (nI (X.1 4), z_cnt X 4 (o_nat x), z_push X hs) else .inl 1
theorem s_setMost (H : Pm P) (hd : 4 ≤ d) (K : KC σ X hs sn) : OO (a_call a_tab P d 127 [.ref 100, .int x] σ) σ sn (o_setMost X hs x) := by
  obtain ⟨n, rfl, hn⟩ := o_ex x
  unfold o_setMost
  rw [hn]
  by_cases h1 : 1 ≤ n ∧ n ≤ 6
  · rw [if_pos h1]
    obtain ⟨s1, e1, m1, K1⟩ := s_rec (P := P) (d := d - 1) H (by omega) K
    refine ⟨a_setI s1 101 4 (nI n), ?_, (m1.mono fun b k z => z.so).then_set (by unfold SO; omega), K1.fld (.inl rfl) (z_most_vd K.2.2.1 h1.1 h1.2)⟩
    rw [n_X7_setMost (by omega), b_X7_setMost_0, s_rArg (by omega) (by decide) h1.1 h1.2, g_n, b_X7_setMost_7 K.1, e1, g_n, b_X7_setMost_18 K1.1, K1.2.1.2.2.2.2.2.1]
  · rw [if_neg h1]
    show _ = _
    rw [n_X7_setMost (by omega), b_X7_setMost_0, s_rArgF (by omega) (by decide) (by decide) (by rw [hn]; exact h1), g_x]
def o_setTol (X : Pal) (hs : List Pal) (x : Int32) : Nat ⊕ (Int32 × Pal × List Pal) := if o_nat x ≤ 99999 then .inr (nI (X.1 5), z_cnt X 5 (o_nat x), z_push X hs) else .inl 1
theorem s_setTol (H : Pm P) (hd : 4 ≤ d) (K : KC σ X hs sn) : OO (a_call a_tab P d 128 [.ref 100, .int x] σ) σ sn (o_setTol X hs x) := by
  obtain ⟨n, rfl, hn⟩ := o_ex x
  unfold o_setTol
  rw [hn]
  by_cases h1 : n ≤ 99999
  · rw [if_pos h1]
    obtain ⟨s1, e1, m1, K1⟩ := s_rec (P := P) (d := d - 1) H (by omega) K
    refine ⟨a_setI s1 101 5 (nI n), ?_, (m1.mono fun b k z => z.so).then_set (by unfold SO; omega), K1.fld (.inr (.inl rfl)) (z_tol_vd K.2.2.1 h1)⟩
    rw [n_X7_setTolerance (by omega), b_X7_setTolerance_0, s_rArg (by omega) (by decide) (Nat.zero_le _) h1, g_n, b_X7_setTolerance_8 K.1, e1, g_n, b_X7_setTolerance_19 K1.1, K1.2.1.2.2.2.2.2.2.1]
  · rw [if_neg h1]
    show _ = _
    rw [n_X7_setTolerance (by omega), b_X7_setTolerance_0, s_rArgF (by omega) (by decide) (by decide) (by rw [hn]; omega), g_x]
def o_clean (X : Pal) (hs : List Pal) (x : Int32) : Nat ⊕ (Int32 × Pal × List Pal) := if o_nat x < X.1 2 then .inr (nI (min 9 (X.1 6 + X.2 2 (o_nat x) 3)), z_clean X (o_nat x), z_push X hs) else .inl 0
theorem s_clean (H : Pm P) (hd : 4 ≤ d) (K : KC σ X hs sn) : OO (a_call a_tab P d 124 [.ref 100, .int x] σ) σ sn (o_clean X hs x) := by
  obtain ⟨n, rfl, hn⟩ := o_ex x
  unfold o_clean
  rw [hn]
  by_cases h1 : n < X.1 2
  · rw [if_pos h1]
    obtain ⟨s1, e1, m1, K1⟩ := s_rec (P := P) (d := d - 1) H (by omega) K
    obtain ⟨s2, e2, m2, C2⟩ := s_cleanBrush (P := P) (d := d - 1) H (by omega) K1.2.1 K.2.2.1 h1
    refine ⟨s2, ?_, (m1.mono fun b k z => z.so).tr (m2.mono fun b k z => z.so), K1.upd m2 (fun b k z => z) C2 (z_clean_vd K.2.2.1)⟩
    rw [n_X7_clean (by omega), b_X7_clean_0 K.1, s_rBrush (by omega) K.1 K.2.1 K.2.2.1 h1, g_n, b_X7_clean_5 K.1, e1, g_n, b_X7_clean_16 K1.1, e2, g_v, b_X7_clean_24]
  · rw [if_neg h1]
    show _ = _
    rw [n_X7_clean (by omega), b_X7_clean_0 K.1, s_rBrushF (by omega) K.1 K.2.1 K.2.2.1 (by rw [hn]; exact h1), g_x]
def o_forget (X : Pal) (hs : List Pal) (x : Int32) : Nat ⊕ (Int32 × Pal × List Pal) := if o_nat x < X.1 1 then .inr (nI (X.1 1 - 1), z_del X (o_nat x), z_push X hs) else .inl 0
theorem s_forget (H : Pm P) (hd : 5 ≤ d) (K : KC σ X hs sn) : OO (a_call a_tab P d 120 [.ref 100, .int x] σ) σ sn (o_forget X hs x) := by
  obtain ⟨n, rfl, hn⟩ := o_ex x
  unfold o_forget
  rw [hn]
  by_cases h1 : n < X.1 1
  · rw [if_pos h1]
    obtain ⟨s1, e1, m1, K1⟩ := s_rec (P := P) (d := d - 1) H (by omega) K
    obtain ⟨s2, e2, m2, T2⟩ := s_removeRow (P := P) (d := d - 1) (by omega) K1.2.1.2.2.1 h1
    have C2 : CP s2 101 (z_del X n) := K1.2.1.up1 m2 (T2.congr fun r hr k hk => by
      (try dsimp only)
      by_cases h : r < n
      · rw [if_pos h, if_pos h]; rfl
      · rw [if_neg h, if_neg h]; rfl)
    have hS : ∀ b k, (b = 101 + 4 ∨ (b = 101 + 3 ∧ k = 2)) → Sp 101 b k := fun b k z => by unfold Sp; omega
    refine ⟨s2, ?_, (m1.mono fun b k z => z.so).tr (m2.mono fun b k z => (hS b k z).so), K1.upd m2 hS C2 (z_del_vd K.2.2.1)⟩
    rw [n_X7_forget (by omega), b_X7_forget_0 K.1, s_rMix (by omega) K.1 K.2.1 K.2.2.1 h1, g_n, b_X7_forget_5 K.1, e1, g_n, b_X7_forget_16 K1.1, show a_call a_tab P (d - 1) 7 [.ref 104, .int (nI n)] s1 = _ from e2, g_n, b_X7_forget_27 (m2.sh K1.1), show a_I s2 104 2 = _ from T2.2.2.1]
  · rw [if_neg h1]
    show _ = _
    rw [n_X7_forget (by omega), b_X7_forget_0 K.1, s_rMixF (by omega) K.1 K.2.1 K.2.2.1 (by rw [hn]; exact h1), g_x]
/-- one cell of a tube is written -/
theorem s_cell (hd : 1 ≤ d) (K : KC σ X hs sn) {t k v : Nat} (ht : t < X.1 0) (hk : k < 13) {Y : Pal} (hY : Y = z_cnt (z_up X 0 (fun r k' => if r = t ∧ k' = k then v else X.2 0 r k')) 0 (X.1 0)) (V : Vd Y) : ∃ σ', a_call a_tab P d 2 [.ref 102, .int (nI t), .int (nI k), .int (nI v)] σ = some (.inl none, σ') ∧ Mo SO σ σ' ∧ KC σ' Y hs sn := by
  obtain ⟨e, T⟩ := s_set (P := P) (d := d) (v := nI v) hd K.2.1.2.1 ht hk
  have m : Mo (fun b k => b = 101 + 2 ∨ (b = 101 + 1 ∧ k = 2)) σ (a_setI σ (101 + 2) (t * 13 + k) (nI v)) := Mo.set (.inl rfl)
  have hS : ∀ b k, (b = 101 + 2 ∨ (b = 101 + 1 ∧ k = 2)) → Sp 101 b k := fun b k z => by unfold Sp; omega
  refine ⟨_, e, m.mono fun b k z => (hS b k z).so, K.upd m hS ?_ V⟩
  rw [hY]
  refine K.2.1.up0 m (T.congr fun r hr k' hk' => ?_)
  (try dsimp only)
  by_cases h : r = t ∧ k' = k
  · rw [if_pos h, if_pos h]
  · rw [if_neg h, if_neg h]
    rfl
def o_retire (X : Pal) (hs : List Pal) (x : Int32) (b : Bool) : Nat ⊕ (Int32 × Pal × List Pal) := if o_nat x < X.1 0 then .inr (nI (z_nbro (z_ret X (o_nat x) b)), z_ret X (o_nat x) b, z_push X hs) else .inl 0
theorem s_retire (H : Pm P) (hd : 6 ≤ d) {b : Bool} (K : KC σ X hs sn) : OO (a_call a_tab P d 121 [.ref 100, .int x, .int (b_n b)] σ) σ sn (o_retire X hs x b) := by
  obtain ⟨n, rfl, hn⟩ := o_ex x
  unfold o_retire
  rw [hn]
  by_cases h1 : n < X.1 0
  · rw [if_pos h1]
    obtain ⟨s1, e1, m1, K1⟩ := s_rec (P := P) (d := d - 1) H (by omega) K
    obtain ⟨s2, e2, m2, K2⟩ := s_cell (P := P) (d := d - 1) (k := 12) (v := z_1 b) (Y := z_ret X n b) (by omega) K1 h1 (by decide) rfl (z_ret_vd K.2.2.1)
    refine ⟨s2, ?_, (m1.mono fun b k z => z.so).tr m2, K2⟩
    rw [n_X7_retire (by omega), b_X7_retire_0 K.1, s_rTube (by omega) K.1 K.2.1 K.2.2.1 h1, g_n, b_X7_retire_5 K.1, e1, g_n, b_X7_retire_16 K1.1]
    have e0 : (if b_n b = 0 then b_R (a_call a_tab P (d - 1)) kX7_retire [] (35, [some (.ref 100), some (.int (nI n)), some (.int (b_n b))], [.int (nI 0), .int (nI 12), .int (nI n), .ref 102], s1) else b_R (a_call a_tab P (d - 1)) kX7_retire [] (35, [some (.ref 100), some (.int (nI n)), some (.int (b_n b))], [.int (nI 1), .int (nI 12), .int (nI n), .ref 102], s1)) = b_R (a_call a_tab P (d - 1)) kX7_retire [] (35, [some (.ref 100), some (.int (nI n)), some (.int (b_n b))], [.int (nI (z_1 b)), .int (nI 12), .int (nI n), .ref 102], s1) := by
      cases b with
      | true => rw [if_neg (by decide)]; rfl
      | false => rw [if_pos (by decide)]; rfl
    rw [e0, b_X7_retire_35 K1.1, e2, g_n, b_X7_retire_38 K2.1, s_brokenMixes (by omega) K2.2.1 K2.2.2.1, g_v, b_X7_retire_45]
  · rw [if_neg h1]
    show _ = _
    rw [n_X7_retire (by omega), b_X7_retire_0 K.1, s_rTubeF (by omega) K.1 K.2.1 K.2.2.1 (by rw [hn]; exact h1), g_x]
def o_refill (X : Pal) (hs : List Pal) (x y : Int32) : Nat ⊕ (Int32 × Pal × List Pal) := if o_nat x < X.1 0 then (if 1 ≤ o_nat y ∧ o_nat y ≤ 999 then (let l := X.2 0 (o_nat x) 11 + o_nat y; if 9999 < l then .inr (-2, X, hs) else .inr (nI l, z_fil X (o_nat x) l, z_push X hs)) else .inl 1) else .inl 0
theorem s_refill (H : Pm P) (hd : 6 ≤ d) (K : KC σ X hs sn) : OO (a_call a_tab P d 126 [.ref 100, .int x, .int y] σ) σ sn (o_refill X hs x y) := by
  obtain ⟨t, rfl, ht⟩ := o_ex x
  obtain ⟨n, rfl, hn⟩ := o_ex y
  unfold o_refill
  rw [ht, hn]
  by_cases h1 : t < X.1 0
  · by_cases h2 : 1 ≤ n ∧ n ≤ 999
    · rw [if_pos h1, if_pos h2]
      have hv := (K.2.2.1.t h1).2.1
      have e0 : a_call a_tab P d 126 [.ref 100, .int (nI t), .int (nI n)] σ = b_R (a_call a_tab P (d - 1)) kX7_refill [] (26, [some (.ref 100), some (.int (nI t)), some (.int (nI n)), none], [.int (nI (X.2 0 t 11))], σ) := by
        rw [n_X7_refill (by omega), b_X7_refill_0 K.1, s_rTube (by omega) K.1 K.2.1 K.2.2.1 h1, g_n, b_X7_refill_5, s_rArg (by omega) (by decide) h2.1 h2.2, g_n, b_X7_refill_13 K.1, s_get (by omega) K.2.1.2.1 h1 (by decide), g_v]
        rfl
      rw [e0, b_X7_refill_26 K.1, nI_add]
      (try dsimp only)
      by_cases h3 : 9999 < X.2 0 t 11 + n
      · rw [if_pos h3, if_pos (nIl h3 (by omega))]
        exact ⟨σ, rfl, Mo.rf, K⟩
      · rw [if_neg h3, if_neg (nIn (by omega) (by omega))]
        obtain ⟨s1, e1, m1, K1⟩ := s_rec (P := P) (d := d - 1) H (by omega) K
        obtain ⟨s2, e2, m2, K2⟩ := s_cell (P := P) (d := d - 1) (k := 11) (v := X.2 0 t 11 + n) (Y := z_fil X t (X.2 0 t 11 + n)) (by omega) K1 h1 (by decide) rfl (z_fil_vd K.2.2.1 (by omega))
        refine ⟨s2, ?_, (m1.mono fun b k z => z.so).tr m2, K2⟩
        rw [e1, g_n, b_X7_refill_50 K1.1, e2, g_n, b_X7_refill_64]
    · rw [if_pos h1, if_neg h2]
      show _ = _
      rw [n_X7_refill (by omega), b_X7_refill_0 K.1, s_rTube (by omega) K.1 K.2.1 K.2.2.1 h1, g_n, b_X7_refill_5, s_rArgF (by omega) (by decide) (by decide) (by rw [hn]; exact h2), g_x]
  · rw [if_neg h1]
    show _ = _
    rw [n_X7_refill (by omega), b_X7_refill_0 K.1, s_rTubeF (by omega) K.1 K.2.1 K.2.2.1 (by rw [ht]; exact h1), g_x]
def o_paint (X : Pal) (hs : List Pal) (x y z : Int32) : Nat ⊕ (Int32 × Pal × List Pal) := if o_nat x < X.1 2 then (if o_nat y < X.1 1 then (if 1 ≤ o_nat z ∧ o_nat z ≤ 99 then (if z_bro X (X.2 1 (o_nat y)) = true then .inr (-2, X, hs) else if z_str X (X.2 1 (o_nat y)) < o_nat z then .inr (-3, X, hs) else .inr (nI (z_pcol X (o_nat x) (X.2 1 (o_nat y))), z_pt X (o_nat x) (X.2 1 (o_nat y)) (o_nat z), z_push X hs)) else .inl 1) else .inl 0) else .inl 0
theorem s_paint (H : Pm P) (hd : 6 ≤ d) (K : KC σ X hs sn) : OO (a_call a_tab P d 123 [.ref 100, .int x, .int y, .int z] σ) σ sn (o_paint X hs x y z) := by
  obtain ⟨b, rfl, hb⟩ := o_ex x
  obtain ⟨m, rfl, hm⟩ := o_ex y
  obtain ⟨n, rfl, hn⟩ := o_ex z
  unfold o_paint
  rw [hb, hm, hn]
  by_cases h1 : b < X.1 2
  · by_cases h2 : m < X.1 1
    · by_cases h3 : 1 ≤ n ∧ n ≤ 99
      · rw [if_pos h1, if_pos h2, if_pos h3]
        have e0 : a_call a_tab P d 123 [.ref 100, .int (nI b), .int (nI m), .int (nI n)] σ = b_R (a_call a_tab P (d - 1)) kX7_paint [] (25, [some (.ref 100), some (.int (nI b)), some (.int (nI m)), some (.int (nI n))], [.int (b_n (z_bro X (X.2 1 m)))], σ) := by
          rw [n_X7_paint (by omega), b_X7_paint_0 K.1, s_rBrush (by omega) K.1 K.2.1 K.2.2.1 h1, g_n, b_X7_paint_5 K.1, s_rMix (by omega) K.1 K.2.1 K.2.2.1 h2, g_n, b_X7_paint_10, s_rArg (by omega) (by decide) h3.1 h3.2, g_n, b_X7_paint_17 K.1, s_isBroken (by omega) K.2.1 K.2.2.1 h2, g_v]
        rw [e0, b_X7_paint_25 K.1]
        cases z_bro X (X.2 1 m) with
        | true =>
          rw [if_neg (by decide), if_pos rfl]
          exact ⟨σ, rfl, Mo.rf, K⟩
        | false =>
          have hl : z_str X (X.2 1 m) ≤ 9999 := z_min_le _
          rw [if_pos (by decide), if_neg Bool.false_ne_true, s_strokesLeft H (by omega) K.2.1 K.2.2.1 h2, g_v, b_X7_paint_39 K.1]
          by_cases h4 : z_str X (X.2 1 m) < n
          · rw [if_pos h4, if_pos (nIl h4 (by omega))]
            exact ⟨σ, rfl, Mo.rf, K⟩
          · rw [if_neg h4, if_neg (nIn (by omega) (by omega))]
            obtain ⟨s1, e1, m1, K1⟩ := s_rec (P := P) (d := d - 1) H (by omega) K
            obtain ⟨s2, e2, m2, C2⟩ := s_paintStrokes (P := P) (d := d - 1) H (by omega) K1.2.1 K.2.2.1 h1 h2 h3.2 (by omega)
            refine ⟨s2, ?_, (m1.mono fun b k z => z.so).tr (m2.mono fun b k z => z.so), K1.upd m2 (fun b k z => z) C2 (z_pt_vd K.2.2.1 h1 h2)⟩
            rw [e1, g_n, b_X7_paint_57 K1.1, e2, g_v, b_X7_paint_67]
      · rw [if_pos h1, if_pos h2, if_neg h3]
        show _ = _
        rw [n_X7_paint (by omega), b_X7_paint_0 K.1, s_rBrush (by omega) K.1 K.2.1 K.2.2.1 h1, g_n, b_X7_paint_5 K.1, s_rMix (by omega) K.1 K.2.1 K.2.2.1 h2, g_n, b_X7_paint_10, s_rArgF (by omega) (by decide) (by decide) (by rw [hn]; exact h3), g_x]
    · rw [if_pos h1, if_neg h2]
      show _ = _
      rw [n_X7_paint (by omega), b_X7_paint_0 K.1, s_rBrush (by omega) K.1 K.2.1 K.2.2.1 h1, g_n, b_X7_paint_5 K.1, s_rMixF (by omega) K.1 K.2.1 K.2.2.1 (by rw [hm]; exact h2), g_x]
  · rw [if_neg h1]
    show _ = _
    rw [n_X7_paint (by omega), b_X7_paint_0 K.1, s_rBrushF (by omega) K.1 K.2.1 K.2.2.1 (by rw [hb]; exact h1), g_x]
end OPS
