/-! the law: the wrappers -/
theorem g_h {C : aCall} {code : aCode} {hh : List (Nat × Nat × Nat × Nat × Nat)} {pc0 pc x h : Nat} {L : List (Option Value)} {st : List Value} {σ : aSt} (e : a_hand hh pc0 x = some h) : b_G C code hh pc0 pc L st (some (.inr x, σ)) = b_R C code hh (h, L, [.ref (a_n σ)], a_name σ) := by
  unfold b_G
  simp only [e]
/-- a wrapper's call and then the model's -/
def WK (P : aCall) (d : Nat) (σ : aSt) (c : Option (aRes × aSt)) (mid : Nat) (args : List Value) : Prop :=
  ∃ f τ v τ2, c = some (.inl (some (.int (nI f))), τ) ∧ Sh τ ∧ Gs σ τ ∧ a_call a_tab P d mid args τ = some (.inl (some (.int v)), τ2) ∧ a_I τ2 237 6 = nI f ∧ (nI f = 0 → a_L τ2 252 0 = Int32.toInt64 v) ∧ JJ τ2 ∧ GR σ τ2
theorem w_nm {σ : aSt} (h : Sh σ) : Sh (a_name (a_made σ)) := ((Mz.made.tr Mz.name : Mz (fun _ _ => False) σ _)).sh h
theorem w_gs {σ : aSt} : Gs σ (a_name (a_made σ)) := ⟨fun _ => rfl, rfl⟩
theorem w_sl {σ : aSt} {v : Int64} (h : Sh σ) : Sh (a_setL σ 252 0 v) := (Mz.setL : Mz (fun _ _ => False) σ _).sh h
theorem Gs.sl {σ τ : aSt} {v : Int64} (g : Gs σ τ) : Gs σ (a_setL τ 252 0 v) := ⟨g.1, g.2⟩
theorem w_in : a_in (nI 0) 1 := nIi (by decide) (by decide)
section LWR
variable {P : aCall} {d : Nat} {σ : aSt} {x1 x2 x3 : Int32} {mid : Nat} {args : List Value}
theorem w_load (hd : 1 ≤ d) (h : Sh σ) (pk : PK P d σ (a_call a_tab P (d - 1) 91 [.ref 100, .int x1] σ) mid args (fun x => x = 1) (fun _ => 1)) : WK P d σ (a_call a_tab P d 269 [.ref 100, .int x1, .ref 252] σ) mid args := by
  rcases pk with ⟨x, τ2, v, hA, hc, e2, f2, J2, G2⟩ | ⟨v, τ1, τ2, hc, s1, g1, e2, f2, l2, J2, G2⟩
  · have hA : x = 1 := hA
    subst hA
    · refine ⟨1, a_name (a_made σ), v, τ2, ?_, w_nm h, w_gs, e2, f2, fun z => absurd z (by decide), J2, G2⟩
      rw [n_L_load hd, b_L_load_0 h, hc, g_h (h := 12) (by decide), b_L_load_12]
  · refine ⟨0, a_setL τ1 252 0 (Int32.toInt64 v), v, τ2, ?_, w_sl s1, g1.sl, e2, f2, fun _ => l2, J2, G2⟩
    rw [n_L_load hd, b_L_load_0 h, hc, g_v, b_L_load_7 s1, b_gd_t w_in, nIc (by decide)]
theorem w_size (hd : 1 ≤ d) (h : Sh σ) (pk : PK P d σ (a_call a_tab P (d - 1) 98 [.ref 100, .int x1] σ) mid args (fun x => x = 0) (fun _ => 1)) : WK P d σ (a_call a_tab P d 270 [.ref 100, .int x1, .ref 252] σ) mid args := by
  rcases pk with ⟨x, τ2, v, hA, hc, e2, f2, J2, G2⟩ | ⟨v, τ1, τ2, hc, s1, g1, e2, f2, l2, J2, G2⟩
  · have hA : x = 0 := hA
    subst hA
    · refine ⟨1, a_name (a_made σ), v, τ2, ?_, w_nm h, w_gs, e2, f2, fun z => absurd z (by decide), J2, G2⟩
      rw [n_L_size hd, b_L_size_0 h, hc, g_h (h := 12) (by decide), b_L_size_12]
  · refine ⟨0, a_setL τ1 252 0 (Int32.toInt64 v), v, τ2, ?_, w_sl s1, g1.sl, e2, f2, fun _ => l2, J2, G2⟩
    rw [n_L_size hd, b_L_size_0 h, hc, g_v, b_L_size_7 s1, b_gd_t w_in, nIc (by decide)]
theorem w_tube (hd : 1 ≤ d) (h : Sh σ) (pk : PK P d σ (a_call a_tab P (d - 1) 99 [.ref 100, .int x1, .int x2] σ) mid args (fun x => x = 0) (fun _ => 1)) : WK P d σ (a_call a_tab P d 271 [.ref 100, .int x1, .int x2, .ref 252] σ) mid args := by
  rcases pk with ⟨x, τ2, v, hA, hc, e2, f2, J2, G2⟩ | ⟨v, τ1, τ2, hc, s1, g1, e2, f2, l2, J2, G2⟩
  · have hA : x = 0 := hA
    subst hA
    · refine ⟨1, a_name (a_made σ), v, τ2, ?_, w_nm h, w_gs, e2, f2, fun z => absurd z (by decide), J2, G2⟩
      rw [n_L_tube hd, b_L_tube_0 h, hc, g_h (h := 13) (by decide), b_L_tube_13]
  · refine ⟨0, a_setL τ1 252 0 (Int32.toInt64 v), v, τ2, ?_, w_sl s1, g1.sl, e2, f2, fun _ => l2, J2, G2⟩
    rw [n_L_tube hd, b_L_tube_0 h, hc, g_v, b_L_tube_8 s1, b_gd_t w_in, nIc (by decide)]
theorem w_mix (hd : 1 ≤ d) (h : Sh σ) (pk : PK P d σ (a_call a_tab P (d - 1) 100 [.ref 100, .int x1, .int x2] σ) mid args (fun x => x = 0) (fun _ => 1)) : WK P d σ (a_call a_tab P d 272 [.ref 100, .int x1, .int x2, .ref 252] σ) mid args := by
  rcases pk with ⟨x, τ2, v, hA, hc, e2, f2, J2, G2⟩ | ⟨v, τ1, τ2, hc, s1, g1, e2, f2, l2, J2, G2⟩
  · have hA : x = 0 := hA
    subst hA
    · refine ⟨1, a_name (a_made σ), v, τ2, ?_, w_nm h, w_gs, e2, f2, fun z => absurd z (by decide), J2, G2⟩
      rw [n_L_mix hd, b_L_mix_0 h, hc, g_h (h := 13) (by decide), b_L_mix_13]
  · refine ⟨0, a_setL τ1 252 0 (Int32.toInt64 v), v, τ2, ?_, w_sl s1, g1.sl, e2, f2, fun _ => l2, J2, G2⟩
    rw [n_L_mix hd, b_L_mix_0 h, hc, g_v, b_L_mix_8 s1, b_gd_t w_in, nIc (by decide)]
theorem w_partOf (hd : 1 ≤ d) (h : Sh σ) (pk : PK P d σ (a_call a_tab P (d - 1) 101 [.ref 100, .int x1, .int x2, .int x3] σ) mid args (fun x => x = 0) (fun _ => 1)) : WK P d σ (a_call a_tab P d 273 [.ref 100, .int x1, .int x2, .int x3, .ref 252] σ) mid args := by
  rcases pk with ⟨x, τ2, v, hA, hc, e2, f2, J2, G2⟩ | ⟨v, τ1, τ2, hc, s1, g1, e2, f2, l2, J2, G2⟩
  · have hA : x = 0 := hA
    subst hA
    · refine ⟨1, a_name (a_made σ), v, τ2, ?_, w_nm h, w_gs, e2, f2, fun z => absurd z (by decide), J2, G2⟩
      rw [n_L_partOf hd, b_L_partOf_0 h, hc, g_h (h := 15) (by decide), b_L_partOf_15]
  · refine ⟨0, a_setL τ1 252 0 (Int32.toInt64 v), v, τ2, ?_, w_sl s1, g1.sl, e2, f2, fun _ => l2, J2, G2⟩
    rw [n_L_partOf hd, b_L_partOf_0 h, hc, g_v, b_L_partOf_10 s1, b_gd_t w_in, nIc (by decide)]
theorem w_letter (hd : 1 ≤ d) (h : Sh σ) (pk : PK P d σ (a_call a_tab P (d - 1) 102 [.ref 100, .int x1, .int x2, .int x3] σ) mid args (fun x => x = 0) (fun _ => 1)) : WK P d σ (a_call a_tab P d 274 [.ref 100, .int x1, .int x2, .int x3, .ref 252] σ) mid args := by
  rcases pk with ⟨x, τ2, v, hA, hc, e2, f2, J2, G2⟩ | ⟨v, τ1, τ2, hc, s1, g1, e2, f2, l2, J2, G2⟩
  · have hA : x = 0 := hA
    subst hA
    · refine ⟨1, a_name (a_made σ), v, τ2, ?_, w_nm h, w_gs, e2, f2, fun z => absurd z (by decide), J2, G2⟩
      rw [n_L_letter hd, b_L_letter_0 h, hc, g_h (h := 15) (by decide), b_L_letter_15]
  · refine ⟨0, a_setL τ1 252 0 (Int32.toInt64 v), v, τ2, ?_, w_sl s1, g1.sl, e2, f2, fun _ => l2, J2, G2⟩
    rw [n_L_letter hd, b_L_letter_0 h, hc, g_v, b_L_letter_10 s1, b_gd_t w_in, nIc (by decide)]
theorem w_mixed (hd : 1 ≤ d) (h : Sh σ) (pk : PK P d σ (a_call a_tab P (d - 1) 93 [.ref 100, .int x1] σ) mid args (fun x => x = 1) (fun _ => 1)) : WK P d σ (a_call a_tab P d 275 [.ref 100, .int x1, .ref 252] σ) mid args := by
  rcases pk with ⟨x, τ2, v, hA, hc, e2, f2, J2, G2⟩ | ⟨v, τ1, τ2, hc, s1, g1, e2, f2, l2, J2, G2⟩
  · have hA : x = 1 := hA
    subst hA
    · refine ⟨1, a_name (a_made σ), v, τ2, ?_, w_nm h, w_gs, e2, f2, fun z => absurd z (by decide), J2, G2⟩
      rw [n_L_mixed hd, b_L_mixed_0 h, hc, g_h (h := 12) (by decide), b_L_mixed_12]
  · refine ⟨0, a_setL τ1 252 0 (Int32.toInt64 v), v, τ2, ?_, w_sl s1, g1.sl, e2, f2, fun _ => l2, J2, G2⟩
    rw [n_L_mixed hd, b_L_mixed_0 h, hc, g_v, b_L_mixed_7 s1, b_gd_t w_in, nIc (by decide)]
theorem w_apart (hd : 1 ≤ d) (h : Sh σ) (pk : PK P d σ (a_call a_tab P (d - 1) 103 [.ref 100, .int x1, .int x2] σ) mid args (fun x => x = 1) (fun _ => 1)) : WK P d σ (a_call a_tab P d 276 [.ref 100, .int x1, .int x2, .ref 252] σ) mid args := by
  rcases pk with ⟨x, τ2, v, hA, hc, e2, f2, J2, G2⟩ | ⟨v, τ1, τ2, hc, s1, g1, e2, f2, l2, J2, G2⟩
  · have hA : x = 1 := hA
    subst hA
    · refine ⟨1, a_name (a_made σ), v, τ2, ?_, w_nm h, w_gs, e2, f2, fun z => absurd z (by decide), J2, G2⟩
      rw [n_L_apart hd, b_L_apart_0 h, hc, g_h (h := 13) (by decide), b_L_apart_13]
  · refine ⟨0, a_setL τ1 252 0 (Int32.toInt64 v), v, τ2, ?_, w_sl s1, g1.sl, e2, f2, fun _ => l2, J2, G2⟩
    rw [n_L_apart hd, b_L_apart_0 h, hc, g_v, b_L_apart_8 s1, b_gd_t w_in, nIc (by decide)]
theorem w_called (hd : 1 ≤ d) (h : Sh σ) (pk : PK P d σ (a_call a_tab P (d - 1) 104 [.ref 100, .int x1] σ) mid args (fun x => x = 1) (fun _ => 1)) : WK P d σ (a_call a_tab P d 277 [.ref 100, .int x1, .ref 252] σ) mid args := by
  rcases pk with ⟨x, τ2, v, hA, hc, e2, f2, J2, G2⟩ | ⟨v, τ1, τ2, hc, s1, g1, e2, f2, l2, J2, G2⟩
  · have hA : x = 1 := hA
    subst hA
    · refine ⟨1, a_name (a_made σ), v, τ2, ?_, w_nm h, w_gs, e2, f2, fun z => absurd z (by decide), J2, G2⟩
      rw [n_L_called hd, b_L_called_0 h, hc, g_h (h := 12) (by decide), b_L_called_12]
  · refine ⟨0, a_setL τ1 252 0 (Int32.toInt64 v), v, τ2, ?_, w_sl s1, g1.sl, e2, f2, fun _ => l2, J2, G2⟩
    rw [n_L_called hd, b_L_called_0 h, hc, g_v, b_L_called_7 s1, b_gd_t w_in, nIc (by decide)]
theorem w_nearest (hd : 1 ≤ d) (h : Sh σ) (pk : PK P d σ (a_call a_tab P (d - 1) 105 [.ref 100, .int x1, .int x2, .int x3] σ) mid args (fun x => x ≤ 1) (fun x => x + 1)) : WK P d σ (a_call a_tab P d 278 [.ref 100, .int x1, .int x2, .int x3, .ref 252] σ) mid args := by
  rcases pk with ⟨x, τ2, v, hA, hc, e2, f2, J2, G2⟩ | ⟨v, τ1, τ2, hc, s1, g1, e2, f2, l2, J2, G2⟩
  · have hA : x = 0 ∨ x = 1 := by have : x ≤ 1 := hA; omega
    rcases hA with rfl | rfl
    · refine ⟨1, a_name (a_made σ), v, τ2, ?_, w_nm h, w_gs, e2, f2, fun z => absurd z (by decide), J2, G2⟩
      rw [n_L_nearest hd, b_L_nearest_0 h, hc, g_h (h := 15) (by decide), b_L_nearest_15]
    · refine ⟨2, a_name (a_made σ), v, τ2, ?_, w_nm h, w_gs, e2, f2, fun z => absurd z (by decide), J2, G2⟩
      rw [n_L_nearest hd, b_L_nearest_0 h, hc, g_h (h := 19) (by decide), b_L_nearest_19]
  · refine ⟨0, a_setL τ1 252 0 (Int32.toInt64 v), v, τ2, ?_, w_sl s1, g1.sl, e2, f2, fun _ => l2, J2, G2⟩
    rw [n_L_nearest hd, b_L_nearest_0 h, hc, g_v, b_L_nearest_10 s1, b_gd_t w_in, nIc (by decide)]
theorem w_fewest (hd : 1 ≤ d) (h : Sh σ) (pk : PK P d σ (a_call a_tab P (d - 1) 106 [.ref 100, .int x1] σ) mid args (fun x => x = 1) (fun _ => 1)) : WK P d σ (a_call a_tab P d 279 [.ref 100, .int x1, .ref 252] σ) mid args := by
  rcases pk with ⟨x, τ2, v, hA, hc, e2, f2, J2, G2⟩ | ⟨v, τ1, τ2, hc, s1, g1, e2, f2, l2, J2, G2⟩
  · have hA : x = 1 := hA
    subst hA
    · refine ⟨1, a_name (a_made σ), v, τ2, ?_, w_nm h, w_gs, e2, f2, fun z => absurd z (by decide), J2, G2⟩
      rw [n_L_fewest hd, b_L_fewest_0 h, hc, g_h (h := 12) (by decide), b_L_fewest_12]
  · refine ⟨0, a_setL τ1 252 0 (Int32.toInt64 v), v, τ2, ?_, w_sl s1, g1.sl, e2, f2, fun _ => l2, J2, G2⟩
    rw [n_L_fewest hd, b_L_fewest_0 h, hc, g_v, b_L_fewest_7 s1, b_gd_t w_in, nIc (by decide)]
theorem w_strokes (hd : 1 ≤ d) (h : Sh σ) (pk : PK P d σ (a_call a_tab P (d - 1) 107 [.ref 100, .int x1] σ) mid args (fun x => x = 0) (fun _ => 1)) : WK P d σ (a_call a_tab P d 280 [.ref 100, .int x1, .ref 252] σ) mid args := by
  rcases pk with ⟨x, τ2, v, hA, hc, e2, f2, J2, G2⟩ | ⟨v, τ1, τ2, hc, s1, g1, e2, f2, l2, J2, G2⟩
  · have hA : x = 0 := hA
    subst hA
    · refine ⟨1, a_name (a_made σ), v, τ2, ?_, w_nm h, w_gs, e2, f2, fun z => absurd z (by decide), J2, G2⟩
      rw [n_L_strokes hd, b_L_strokes_0 h, hc, g_h (h := 12) (by decide), b_L_strokes_12]
  · refine ⟨0, a_setL τ1 252 0 (Int32.toInt64 v), v, τ2, ?_, w_sl s1, g1.sl, e2, f2, fun _ => l2, J2, G2⟩
    rw [n_L_strokes hd, b_L_strokes_0 h, hc, g_v, b_L_strokes_7 s1, b_gd_t w_in, nIc (by decide)]
theorem w_shortest (hd : 1 ≤ d) (h : Sh σ) (pk : PK P d σ (a_call a_tab P (d - 1) 108 [.ref 100, .int x1] σ) mid args (fun x => x = 0) (fun _ => 1)) : WK P d σ (a_call a_tab P d 281 [.ref 100, .int x1, .ref 252] σ) mid args := by
  rcases pk with ⟨x, τ2, v, hA, hc, e2, f2, J2, G2⟩ | ⟨v, τ1, τ2, hc, s1, g1, e2, f2, l2, J2, G2⟩
  · have hA : x = 0 := hA
    subst hA
    · refine ⟨1, a_name (a_made σ), v, τ2, ?_, w_nm h, w_gs, e2, f2, fun z => absurd z (by decide), J2, G2⟩
      rw [n_L_shortest hd, b_L_shortest_0 h, hc, g_h (h := 12) (by decide), b_L_shortest_12]
  · refine ⟨0, a_setL τ1 252 0 (Int32.toInt64 v), v, τ2, ?_, w_sl s1, g1.sl, e2, f2, fun _ => l2, J2, G2⟩
    rw [n_L_shortest hd, b_L_shortest_0 h, hc, g_v, b_L_shortest_7 s1, b_gd_t w_in, nIc (by decide)]
theorem w_wouldPaint (hd : 1 ≤ d) (h : Sh σ) (pk : PK P d σ (a_call a_tab P (d - 1) 109 [.ref 100, .int x1, .int x2] σ) mid args (fun x => x = 0) (fun _ => 1)) : WK P d σ (a_call a_tab P d 282 [.ref 100, .int x1, .int x2, .ref 252] σ) mid args := by
  rcases pk with ⟨x, τ2, v, hA, hc, e2, f2, J2, G2⟩ | ⟨v, τ1, τ2, hc, s1, g1, e2, f2, l2, J2, G2⟩
  · have hA : x = 0 := hA
    subst hA
    · refine ⟨1, a_name (a_made σ), v, τ2, ?_, w_nm h, w_gs, e2, f2, fun z => absurd z (by decide), J2, G2⟩
      rw [n_L_wouldPaint hd, b_L_wouldPaint_0 h, hc, g_h (h := 13) (by decide), b_L_wouldPaint_13]
  · refine ⟨0, a_setL τ1 252 0 (Int32.toInt64 v), v, τ2, ?_, w_sl s1, g1.sl, e2, f2, fun _ => l2, J2, G2⟩
    rw [n_L_wouldPaint hd, b_L_wouldPaint_0 h, hc, g_v, b_L_wouldPaint_8 s1, b_gd_t w_in, nIc (by decide)]
theorem w_brush (hd : 1 ≤ d) (h : Sh σ) (pk : PK P d σ (a_call a_tab P (d - 1) 110 [.ref 100, .int x1, .int x2] σ) mid args (fun x => x = 0) (fun _ => 1)) : WK P d σ (a_call a_tab P d 283 [.ref 100, .int x1, .int x2, .ref 252] σ) mid args := by
  rcases pk with ⟨x, τ2, v, hA, hc, e2, f2, J2, G2⟩ | ⟨v, τ1, τ2, hc, s1, g1, e2, f2, l2, J2, G2⟩
  · have hA : x = 0 := hA
    subst hA
    · refine ⟨1, a_name (a_made σ), v, τ2, ?_, w_nm h, w_gs, e2, f2, fun z => absurd z (by decide), J2, G2⟩
      rw [n_L_brush hd, b_L_brush_0 h, hc, g_h (h := 13) (by decide), b_L_brush_13]
  · refine ⟨0, a_setL τ1 252 0 (Int32.toInt64 v), v, τ2, ?_, w_sl s1, g1.sl, e2, f2, fun _ => l2, J2, G2⟩
    rw [n_L_brush hd, b_L_brush_0 h, hc, g_v, b_L_brush_8 s1, b_gd_t w_in, nIc (by decide)]
theorem w_bestBrush (hd : 1 ≤ d) (h : Sh σ) (pk : PK P d σ (a_call a_tab P (d - 1) 111 [.ref 100, .int x1] σ) mid args (fun x => x = 0) (fun _ => 1)) : WK P d σ (a_call a_tab P d 284 [.ref 100, .int x1, .ref 252] σ) mid args := by
  rcases pk with ⟨x, τ2, v, hA, hc, e2, f2, J2, G2⟩ | ⟨v, τ1, τ2, hc, s1, g1, e2, f2, l2, J2, G2⟩
  · have hA : x = 0 := hA
    subst hA
    · refine ⟨1, a_name (a_made σ), v, τ2, ?_, w_nm h, w_gs, e2, f2, fun z => absurd z (by decide), J2, G2⟩
      rw [n_L_bestBrush hd, b_L_bestBrush_0 h, hc, g_h (h := 12) (by decide), b_L_bestBrush_12]
  · refine ⟨0, a_setL τ1 252 0 (Int32.toInt64 v), v, τ2, ?_, w_sl s1, g1.sl, e2, f2, fun _ => l2, J2, G2⟩
    rw [n_L_bestBrush hd, b_L_bestBrush_0 h, hc, g_v, b_L_bestBrush_7 s1, b_gd_t w_in, nIc (by decide)]
theorem w_painting (hd : 1 ≤ d) (h : Sh σ) (pk : PK P d σ (a_call a_tab P (d - 1) 112 [.ref 100, .int x1, .int x2] σ) mid args (fun x => x = 0) (fun _ => 1)) : WK P d σ (a_call a_tab P d 285 [.ref 100, .int x1, .int x2, .ref 252] σ) mid args := by
  rcases pk with ⟨x, τ2, v, hA, hc, e2, f2, J2, G2⟩ | ⟨v, τ1, τ2, hc, s1, g1, e2, f2, l2, J2, G2⟩
  · have hA : x = 0 := hA
    subst hA
    · refine ⟨1, a_name (a_made σ), v, τ2, ?_, w_nm h, w_gs, e2, f2, fun z => absurd z (by decide), J2, G2⟩
      rw [n_L_painting hd, b_L_painting_0 h, hc, g_h (h := 13) (by decide), b_L_painting_13]
  · refine ⟨0, a_setL τ1 252 0 (Int32.toInt64 v), v, τ2, ?_, w_sl s1, g1.sl, e2, f2, fun _ => l2, J2, G2⟩
    rw [n_L_painting hd, b_L_painting_0 h, hc, g_v, b_L_painting_8 s1, b_gd_t w_in, nIc (by decide)]
theorem w_loss (hd : 1 ≤ d) (h : Sh σ) (pk : PK P d σ (a_call a_tab P (d - 1) 116 [.ref 100, .int x1] σ) mid args (fun x => x = 0) (fun _ => 1)) : WK P d σ (a_call a_tab P d 286 [.ref 100, .int x1, .ref 252] σ) mid args := by
  rcases pk with ⟨x, τ2, v, hA, hc, e2, f2, J2, G2⟩ | ⟨v, τ1, τ2, hc, s1, g1, e2, f2, l2, J2, G2⟩
  · have hA : x = 0 := hA
    subst hA
    · refine ⟨1, a_name (a_made σ), v, τ2, ?_, w_nm h, w_gs, e2, f2, fun z => absurd z (by decide), J2, G2⟩
      rw [n_L_loss hd, b_L_loss_0 h, hc, g_h (h := 12) (by decide), b_L_loss_12]
  · refine ⟨0, a_setL τ1 252 0 (Int32.toInt64 v), v, τ2, ?_, w_sl s1, g1.sl, e2, f2, fun _ => l2, J2, G2⟩
    rw [n_L_loss hd, b_L_loss_0 h, hc, g_v, b_L_loss_7 s1, b_gd_t w_in, nIc (by decide)]
theorem w_define (hd : 1 ≤ d) (h : Sh σ) (pk : PK P d σ (a_call a_tab P (d - 1) 119 [.ref 100, .int x1] σ) mid args (fun x => x = 1) (fun _ => 1)) : WK P d σ (a_call a_tab P d 287 [.ref 100, .int x1, .ref 252] σ) mid args := by
  rcases pk with ⟨x, τ2, v, hA, hc, e2, f2, J2, G2⟩ | ⟨v, τ1, τ2, hc, s1, g1, e2, f2, l2, J2, G2⟩
  · have hA : x = 1 := hA
    subst hA
    · refine ⟨1, a_name (a_made σ), v, τ2, ?_, w_nm h, w_gs, e2, f2, fun z => absurd z (by decide), J2, G2⟩
      rw [n_L_define hd, b_L_define_0 h, hc, g_h (h := 12) (by decide), b_L_define_12]
  · refine ⟨0, a_setL τ1 252 0 (Int32.toInt64 v), v, τ2, ?_, w_sl s1, g1.sl, e2, f2, fun _ => l2, J2, G2⟩
    rw [n_L_define hd, b_L_define_0 h, hc, g_v, b_L_define_7 s1, b_gd_t w_in, nIc (by decide)]
theorem w_forget (hd : 1 ≤ d) (h : Sh σ) (pk : PK P d σ (a_call a_tab P (d - 1) 120 [.ref 100, .int x1] σ) mid args (fun x => x = 0) (fun _ => 1)) : WK P d σ (a_call a_tab P d 288 [.ref 100, .int x1, .ref 252] σ) mid args := by
  rcases pk with ⟨x, τ2, v, hA, hc, e2, f2, J2, G2⟩ | ⟨v, τ1, τ2, hc, s1, g1, e2, f2, l2, J2, G2⟩
  · have hA : x = 0 := hA
    subst hA
    · refine ⟨1, a_name (a_made σ), v, τ2, ?_, w_nm h, w_gs, e2, f2, fun z => absurd z (by decide), J2, G2⟩
      rw [n_L_forget hd, b_L_forget_0 h, hc, g_h (h := 12) (by decide), b_L_forget_12]
  · refine ⟨0, a_setL τ1 252 0 (Int32.toInt64 v), v, τ2, ?_, w_sl s1, g1.sl, e2, f2, fun _ => l2, J2, G2⟩
    rw [n_L_forget hd, b_L_forget_0 h, hc, g_v, b_L_forget_7 s1, b_gd_t w_in, nIc (by decide)]
theorem w_retire (hd : 1 ≤ d) (h : Sh σ) (pk : PK P d σ (a_call a_tab P (d - 1) 121 [.ref 100, .int x1, .int x2] σ) mid args (fun x => x = 0) (fun _ => 1)) : WK P d σ (a_call a_tab P d 289 [.ref 100, .int x1, .int x2, .ref 252] σ) mid args := by
  rcases pk with ⟨x, τ2, v, hA, hc, e2, f2, J2, G2⟩ | ⟨v, τ1, τ2, hc, s1, g1, e2, f2, l2, J2, G2⟩
  · have hA : x = 0 := hA
    subst hA
    · refine ⟨1, a_name (a_made σ), v, τ2, ?_, w_nm h, w_gs, e2, f2, fun z => absurd z (by decide), J2, G2⟩
      rw [n_L_retire hd, b_L_retire_0 h, hc, g_h (h := 13) (by decide), b_L_retire_13]
  · refine ⟨0, a_setL τ1 252 0 (Int32.toInt64 v), v, τ2, ?_, w_sl s1, g1.sl, e2, f2, fun _ => l2, J2, G2⟩
    rw [n_L_retire hd, b_L_retire_0 h, hc, g_v, b_L_retire_8 s1, b_gd_t w_in, nIc (by decide)]
theorem w_heal (hd : 1 ≤ d) (h : Sh σ) (pk : PK P d σ (a_call a_tab P (d - 1) 122 [.ref 100, .int x1] σ) mid args (fun x => x = 0) (fun _ => 1)) : WK P d σ (a_call a_tab P d 290 [.ref 100, .int x1, .ref 252] σ) mid args := by
  rcases pk with ⟨x, τ2, v, hA, hc, e2, f2, J2, G2⟩ | ⟨v, τ1, τ2, hc, s1, g1, e2, f2, l2, J2, G2⟩
  · have hA : x = 0 := hA
    subst hA
    · refine ⟨1, a_name (a_made σ), v, τ2, ?_, w_nm h, w_gs, e2, f2, fun z => absurd z (by decide), J2, G2⟩
      rw [n_L_heal hd, b_L_heal_0 h, hc, g_h (h := 12) (by decide), b_L_heal_12]
  · refine ⟨0, a_setL τ1 252 0 (Int32.toInt64 v), v, τ2, ?_, w_sl s1, g1.sl, e2, f2, fun _ => l2, J2, G2⟩
    rw [n_L_heal hd, b_L_heal_0 h, hc, g_v, b_L_heal_7 s1, b_gd_t w_in, nIc (by decide)]
theorem w_paint (hd : 1 ≤ d) (h : Sh σ) (pk : PK P d σ (a_call a_tab P (d - 1) 123 [.ref 100, .int x1, .int x2, .int x3] σ) mid args (fun x => x ≤ 1) (fun x => x + 1)) : WK P d σ (a_call a_tab P d 291 [.ref 100, .int x1, .int x2, .int x3, .ref 252] σ) mid args := by
  rcases pk with ⟨x, τ2, v, hA, hc, e2, f2, J2, G2⟩ | ⟨v, τ1, τ2, hc, s1, g1, e2, f2, l2, J2, G2⟩
  · have hA : x = 0 ∨ x = 1 := by have : x ≤ 1 := hA; omega
    rcases hA with rfl | rfl
    · refine ⟨1, a_name (a_made σ), v, τ2, ?_, w_nm h, w_gs, e2, f2, fun z => absurd z (by decide), J2, G2⟩
      rw [n_L_paint hd, b_L_paint_0 h, hc, g_h (h := 15) (by decide), b_L_paint_15]
    · refine ⟨2, a_name (a_made σ), v, τ2, ?_, w_nm h, w_gs, e2, f2, fun z => absurd z (by decide), J2, G2⟩
      rw [n_L_paint hd, b_L_paint_0 h, hc, g_h (h := 19) (by decide), b_L_paint_19]
  · refine ⟨0, a_setL τ1 252 0 (Int32.toInt64 v), v, τ2, ?_, w_sl s1, g1.sl, e2, f2, fun _ => l2, J2, G2⟩
    rw [n_L_paint hd, b_L_paint_0 h, hc, g_v, b_L_paint_10 s1, b_gd_t w_in, nIc (by decide)]
theorem w_clean (hd : 1 ≤ d) (h : Sh σ) (pk : PK P d σ (a_call a_tab P (d - 1) 124 [.ref 100, .int x1] σ) mid args (fun x => x = 0) (fun _ => 1)) : WK P d σ (a_call a_tab P d 292 [.ref 100, .int x1, .ref 252] σ) mid args := by
  rcases pk with ⟨x, τ2, v, hA, hc, e2, f2, J2, G2⟩ | ⟨v, τ1, τ2, hc, s1, g1, e2, f2, l2, J2, G2⟩
  · have hA : x = 0 := hA
    subst hA
    · refine ⟨1, a_name (a_made σ), v, τ2, ?_, w_nm h, w_gs, e2, f2, fun z => absurd z (by decide), J2, G2⟩
      rw [n_L_clean hd, b_L_clean_0 h, hc, g_h (h := 12) (by decide), b_L_clean_12]
  · refine ⟨0, a_setL τ1 252 0 (Int32.toInt64 v), v, τ2, ?_, w_sl s1, g1.sl, e2, f2, fun _ => l2, J2, G2⟩
    rw [n_L_clean hd, b_L_clean_0 h, hc, g_v, b_L_clean_7 s1, b_gd_t w_in, nIc (by decide)]
theorem w_refill (hd : 1 ≤ d) (h : Sh σ) (pk : PK P d σ (a_call a_tab P (d - 1) 126 [.ref 100, .int x1, .int x2] σ) mid args (fun x => x ≤ 1) (fun x => x + 1)) : WK P d σ (a_call a_tab P d 293 [.ref 100, .int x1, .int x2, .ref 252] σ) mid args := by
  rcases pk with ⟨x, τ2, v, hA, hc, e2, f2, J2, G2⟩ | ⟨v, τ1, τ2, hc, s1, g1, e2, f2, l2, J2, G2⟩
  · have hA : x = 0 ∨ x = 1 := by have : x ≤ 1 := hA; omega
    rcases hA with rfl | rfl
    · refine ⟨1, a_name (a_made σ), v, τ2, ?_, w_nm h, w_gs, e2, f2, fun z => absurd z (by decide), J2, G2⟩
      rw [n_L_refill hd, b_L_refill_0 h, hc, g_h (h := 13) (by decide), b_L_refill_13]
    · refine ⟨2, a_name (a_made σ), v, τ2, ?_, w_nm h, w_gs, e2, f2, fun z => absurd z (by decide), J2, G2⟩
      rw [n_L_refill hd, b_L_refill_0 h, hc, g_h (h := 17) (by decide), b_L_refill_17]
  · refine ⟨0, a_setL τ1 252 0 (Int32.toInt64 v), v, τ2, ?_, w_sl s1, g1.sl, e2, f2, fun _ => l2, J2, G2⟩
    rw [n_L_refill hd, b_L_refill_0 h, hc, g_v, b_L_refill_8 s1, b_gd_t w_in, nIc (by decide)]
theorem w_setMost (hd : 1 ≤ d) (h : Sh σ) (pk : PK P d σ (a_call a_tab P (d - 1) 127 [.ref 100, .int x1] σ) mid args (fun x => x = 1) (fun _ => 1)) : WK P d σ (a_call a_tab P d 294 [.ref 100, .int x1, .ref 252] σ) mid args := by
  rcases pk with ⟨x, τ2, v, hA, hc, e2, f2, J2, G2⟩ | ⟨v, τ1, τ2, hc, s1, g1, e2, f2, l2, J2, G2⟩
  · have hA : x = 1 := hA
    subst hA
    · refine ⟨1, a_name (a_made σ), v, τ2, ?_, w_nm h, w_gs, e2, f2, fun z => absurd z (by decide), J2, G2⟩
      rw [n_L_setMost hd, b_L_setMost_0 h, hc, g_h (h := 12) (by decide), b_L_setMost_12]
  · refine ⟨0, a_setL τ1 252 0 (Int32.toInt64 v), v, τ2, ?_, w_sl s1, g1.sl, e2, f2, fun _ => l2, J2, G2⟩
    rw [n_L_setMost hd, b_L_setMost_0 h, hc, g_v, b_L_setMost_7 s1, b_gd_t w_in, nIc (by decide)]
theorem w_setTolerance (hd : 1 ≤ d) (h : Sh σ) (pk : PK P d σ (a_call a_tab P (d - 1) 128 [.ref 100, .int x1] σ) mid args (fun x => x = 1) (fun _ => 1)) : WK P d σ (a_call a_tab P d 295 [.ref 100, .int x1, .ref 252] σ) mid args := by
  rcases pk with ⟨x, τ2, v, hA, hc, e2, f2, J2, G2⟩ | ⟨v, τ1, τ2, hc, s1, g1, e2, f2, l2, J2, G2⟩
  · have hA : x = 1 := hA
    subst hA
    · refine ⟨1, a_name (a_made σ), v, τ2, ?_, w_nm h, w_gs, e2, f2, fun z => absurd z (by decide), J2, G2⟩
      rw [n_L_setTolerance hd, b_L_setTolerance_0 h, hc, g_h (h := 12) (by decide), b_L_setTolerance_12]
  · refine ⟨0, a_setL τ1 252 0 (Int32.toInt64 v), v, τ2, ?_, w_sl s1, g1.sl, e2, f2, fun _ => l2, J2, G2⟩
    rw [n_L_setTolerance hd, b_L_setTolerance_0 h, hc, g_v, b_L_setTolerance_7 s1, b_gd_t w_in, nIc (by decide)]
theorem w_format (hd : 1 ≤ d) (h : Sh σ) (pk : PK P d σ (a_call a_tab P (d - 1) 95 [.ref 100, .int x1] σ) mid args (fun x => x = 0) (fun _ => 1)) : WK P d σ (a_call a_tab P d 296 [.ref 100, .int x1, .ref 252] σ) mid args := by
  rcases pk with ⟨x, τ2, v, hA, hc, e2, f2, J2, G2⟩ | ⟨v, τ1, τ2, hc, s1, g1, e2, f2, l2, J2, G2⟩
  · have hA : x = 0 := hA
    subst hA
    · refine ⟨1, a_name (a_made σ), v, τ2, ?_, w_nm h, w_gs, e2, f2, fun z => absurd z (by decide), J2, G2⟩
      rw [n_L_format hd, b_L_format_0 h, hc, g_h (h := 12) (by decide), b_L_format_12]
  · refine ⟨0, a_setL τ1 252 0 (Int32.toInt64 v), v, τ2, ?_, w_sl s1, g1.sl, e2, f2, fun _ => l2, J2, G2⟩
    rw [n_L_format hd, b_L_format_0 h, hc, g_v, b_L_format_7 s1, b_gd_t w_in, nIc (by decide)]
theorem w_query (hd : 1 ≤ d) (h : Sh σ) (pk : PK P d σ (a_call a_tab P (d - 1) 94 [.ref 100, .int x1] σ) mid args (fun x => x = 1) (fun _ => 1)) : WK P d σ (a_call a_tab P d 297 [.ref 100, .int x1, .ref 252] σ) mid args := by
  rcases pk with ⟨x, τ2, v, hA, hc, e2, f2, J2, G2⟩ | ⟨v, τ1, τ2, hc, s1, g1, e2, f2, l2, J2, G2⟩
  · have hA : x = 1 := hA
    subst hA
    · refine ⟨1, a_name (a_made σ), v, τ2, ?_, w_nm h, w_gs, e2, f2, fun z => absurd z (by decide), J2, G2⟩
      rw [n_L_query hd, b_L_query_0 h, hc, g_h (h := 12) (by decide), b_L_query_12]
  · refine ⟨0, a_setL τ1 252 0 (Int32.toInt64 v), v, τ2, ?_, w_sl s1, g1.sl, e2, f2, fun _ => l2, J2, G2⟩
    rw [n_L_query hd, b_L_query_0 h, hc, g_v, b_L_query_7 s1, b_gd_t w_in, nIc (by decide)]
end LWR
