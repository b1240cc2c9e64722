/-! the law: the cases behind a wrapper -/
theorem y_thrown {P : aCall} {d : Nat} {σ : aSt} (hd : 1 ≤ d) (h : Sh σ) : a_call a_tab P d 145 [.ref 237] σ = some (.inl (some (.int (a_I σ 237 6))), σ) := by
  rw [n_X8_thrown hd, b_X8_thrown_0 h]
theorem lg_rf (a : Int64) : lg_cmp a a = 0 := by
  unfold lg_cmp
  rw [if_neg (show ¬ a > a from Int64.lt_irrefl), if_pos rfl]
theorem law_tail {y f x6 : Int32} {σ : aSt} {A Z : Option (aRes × aSt)} (h1 : y = f) (h2 : f = 0 → a_L σ 252 0 = Int32.toInt64 x6) : (if y = f then (if f = 0 then b_gd (a_in (nI 0) 1) (if lg_cmp (a_L σ 252 (Int32.toNatClampNeg (nI 0))) (Int32.toInt64 x6) = 0 then A else Z) else A) else Z) = A := by
  rw [if_pos h1, b_gd_t w_in, nIc (by decide)]
  by_cases c : f = 0
  · rw [if_pos c, h2 c, lg_rf, if_pos rfl]
  · rw [if_neg c]
theorem Gs.sc {σ τ : aSt} {n : Nat} (g : Gs σ τ) (s : Sc σ n) : Sc τ n := by
  unfold Sc a_kd a_ln at *
  rw [g.2]
  exact s
theorem JJ.sh {σ : aSt} (J : JJ σ) : Sh σ := by
  obtain ⟨X, hs, sn, n, B, U, J⟩ := J
  exact J.1.1
/-- the law's loop goes on -/
def NX (P : aCall) (D i : Nat) (σ : aSt) (r : Option (aRes × aSt)) : Prop := ∃ σ' q5 q6 q7, r = b_R (a_call a_tab P D) kL_law [] (2385, [some (.ref 0), some (.ref 100), some (.ref 237), some (.ref 252), some (.int (nI i)), q5, q6, q7, none], [], σ') ∧ JJ σ' ∧ GR σ σ'
theorem hr0 {T : Type} {r : Nat ⊕ T} (h : ∀ x, r = .inl x → x = 0) : Hr (fun x => x = 0) (fun _ => 1) r r := by
  cases r with
  | inl x => exact ⟨h x rfl, x, rfl, by rw [h x rfl]⟩
  | inr v => rfl
theorem hr2 {T : Type} {r : Nat ⊕ T} (h : ∀ x, r = .inl x → x ≤ 1) : Hr (fun x => x ≤ 1) (fun x => x + 1) r r := by
  cases r with
  | inl x => exact ⟨h x rfl, x, rfl, rfl⟩
  | inr v => rfl
theorem hr1 {T : Type} {r : Nat ⊕ T} (h : ∀ x, r = .inl x → x = 1) : Hr (fun x => x = 1) (fun _ => 1) r (o_2 r) := by
  cases r with
  | inl x => exact ⟨h x rfl, 0, rfl, rfl⟩
  | inr v => rfl
theorem hr1q {r : Nat ⊕ Int32} (h : ∀ x, r = .inl x → x = 1) : Hr (fun x => x = 1) (fun _ => 1) r (o_1 r) := by
  cases r with
  | inl x => exact ⟨h x rfl, 0, rfl, rfl⟩
  | inr v => rfl
section OL
variable {X : Pal} {hs : List Pal} {sn : Option Pal} {B : Nat → Nat} {n : Nat} {x y z : Int32} {b : Bool} {e : Nat}
theorem ol_load (h : o_load X hs sn B n x = .inl e) : e = 1 := by
  unfold o_load at h
  (try dsimp only at h)
  repeat' split at h
  all_goals first | (cases h; done) | (cases h; rfl)
theorem ol_size (h : o_size X x = .inl e) : e = 0 := by
  unfold o_size at h
  (try dsimp only at h)
  repeat' split at h
  all_goals first | (cases h; done) | (cases h; rfl)
theorem ol_tube (h : o_tube X x y = .inl e) : e = 0 := by
  unfold o_tube at h
  (try dsimp only at h)
  repeat' split at h
  all_goals first | (cases h; done) | (cases h; rfl)
theorem ol_mix (h : o_mix X x y = .inl e) : e = 0 := by
  unfold o_mix at h
  (try dsimp only at h)
  repeat' split at h
  all_goals first | (cases h; done) | (cases h; rfl)
theorem ol_partOf (h : o_partOf X x y b = .inl e) : e = 0 := by
  unfold o_partOf at h
  (try dsimp only at h)
  repeat' split at h
  all_goals first | (cases h; done) | (cases h; rfl)
theorem ol_letter (h : o_letter X b x y = .inl e) : e = 0 := by
  unfold o_letter at h
  (try dsimp only at h)
  repeat' split at h
  all_goals first | (cases h; done) | (cases h; rfl)
theorem ol_mixed (h : o_mixed X hs sn B n x = .inl e) : e = 1 := by
  unfold o_mixed at h
  (try dsimp only at h)
  repeat' split at h
  all_goals first | (cases h; done) | (cases h; rfl)
theorem ol_apart (h : o_apart x y = .inl e) : e = 1 := by
  unfold o_apart at h
  (try dsimp only at h)
  repeat' split at h
  all_goals first | (cases h; done) | (cases h; rfl)
theorem ol_called (h : o_called X x = .inl e) : e = 1 := by
  unfold o_called at h
  (try dsimp only at h)
  repeat' split at h
  all_goals first | (cases h; done) | (cases h; rfl)
theorem ol_nearest (h : o_nearest X x y z = .inl e) : e ≤ 1 := by
  unfold o_nearest at h
  (try dsimp only at h)
  repeat' split at h
  all_goals first | (cases h; done) | (cases h; decide)
theorem ol_fewest (h : o_fewest X x = .inl e) : e = 1 := by
  unfold o_fewest at h
  (try dsimp only at h)
  repeat' split at h
  all_goals first | (cases h; done) | (cases h; rfl)
theorem ol_strokes (h : o_strokes X x = .inl e) : e = 0 := by
  unfold o_strokes at h
  (try dsimp only at h)
  repeat' split at h
  all_goals first | (cases h; done) | (cases h; rfl)
theorem ol_shortest (h : o_shortest X x = .inl e) : e = 0 := by
  unfold o_shortest at h
  (try dsimp only at h)
  repeat' split at h
  all_goals first | (cases h; done) | (cases h; rfl)
theorem ol_wouldPaint (h : o_would X x y = .inl e) : e = 0 := by
  unfold o_would at h
  (try dsimp only at h)
  repeat' split at h
  all_goals first | (cases h; done) | (cases h; rfl)
theorem ol_brush (h : o_brush X x y = .inl e) : e = 0 := by
  unfold o_brush at h
  (try dsimp only at h)
  repeat' split at h
  all_goals first | (cases h; done) | (cases h; rfl)
theorem ol_bestBrush (h : o_bestBrush X x = .inl e) : e = 0 := by
  unfold o_bestBrush at h
  (try dsimp only at h)
  repeat' split at h
  all_goals first | (cases h; done) | (cases h; rfl)
theorem ol_painting (h : o_painting X x y = .inl e) : e = 0 := by
  unfold o_painting at h
  (try dsimp only at h)
  repeat' split at h
  all_goals first | (cases h; done) | (cases h; rfl)
theorem ol_loss (h : o_loss X x = .inl e) : e = 0 := by
  unfold o_loss at h
  (try dsimp only at h)
  repeat' split at h
  all_goals first | (cases h; done) | (cases h; rfl)
theorem ol_define (h : o_define X hs sn B n x = .inl e) : e = 1 := by
  unfold o_define at h
  (try dsimp only at h)
  repeat' split at h
  all_goals first | (cases h; done) | (cases h; rfl)
theorem ol_forget (h : o_forget X hs x = .inl e) : e = 0 := by
  unfold o_forget at h
  (try dsimp only at h)
  repeat' split at h
  all_goals first | (cases h; done) | (cases h; rfl)
theorem ol_retire (h : o_retire X hs x b = .inl e) : e = 0 := by
  unfold o_retire at h
  (try dsimp only at h)
  repeat' split at h
  all_goals first | (cases h; done) | (cases h; rfl)
theorem ol_heal (h : o_heal X hs x = .inl e) : e = 0 := by
  unfold o_heal at h
  (try dsimp only at h)
  repeat' split at h
  all_goals first | (cases h; done) | (cases h; rfl)
theorem ol_paint (h : o_paint X hs x y z = .inl e) : e ≤ 1 := by
  unfold o_paint at h
  (try dsimp only at h)
  repeat' split at h
  all_goals first | (cases h; done) | (cases h; decide)
theorem ol_clean (h : o_clean X hs x = .inl e) : e = 0 := by
  unfold o_clean at h
  (try dsimp only at h)
  repeat' split at h
  all_goals first | (cases h; done) | (cases h; rfl)
theorem ol_refill (h : o_refill X hs x y = .inl e) : e ≤ 1 := by
  unfold o_refill at h
  (try dsimp only at h)
  repeat' split at h
  all_goals first | (cases h; done) | (cases h; decide)
theorem ol_setMost (h : o_setMost X hs x = .inl e) : e = 1 := by
  unfold o_setMost at h
  (try dsimp only at h)
  repeat' split at h
  all_goals first | (cases h; done) | (cases h; rfl)
theorem ol_setTolerance (h : o_setTol X hs x = .inl e) : e = 1 := by
  unfold o_setTol at h
  (try dsimp only at h)
  repeat' split at h
  all_goals first | (cases h; done) | (cases h; rfl)
theorem ol_query (h : o_query X hs sn B n x = .inl e) : e = 1 := by
  unfold o_query at h
  (try dsimp only at h)
  repeat' split at h
  all_goals first | (cases h; done) | (cases h; rfl)
end OL
section LWC
variable {P : aCall} {D i n : Nat} {σ : aSt} {o5 o6 o7 : Option Value}
theorem nx_load (H : Pm P) (hd : 40 ≤ D) (J : JJ σ) (hs : Sc σ n) (hi : i + 5 < n) : NX P D i σ (b_R (a_call a_tab P D) kL_law [] (297, [some (.ref 0), some (.ref 100), some (.ref 237), some (.ref 252), some (.int (nI i)), o5, o6, o7, none], [], σ)) := by
  obtain ⟨X, hl, sn, m, B, U, J⟩ := J
  have hb := hs.2.2
  have K := J.1
  have q1 : nI i + nI 1 = nI (i + 1) := nI_add _ _
  have a1 : a_in (nI (i + 1)) n := nIi (by omega) hb
  have c1 : Int32.toNatClampNeg (nI (i + 1)) = i + 1 := nIc (by omega)
  obtain ⟨f, τ, v, τ2, e1, h1, g1, e2, f2, l2, J2, G2⟩ := w_load (P := P) (d := D) (x1 := (a_I σ 0 (i + 1))) (mid := 255) (args := [.ref 237, .int (a_I σ 0 (i + 1))]) (by omega) K.1 (PK.t J (s_load H (by omega) K J.2.2.1) (fun τ k b => (y_load H (by omega) k b).q) (fun x hx => ol_load hx))
  have hs2 := g1.sc hs
  rw [b_L_law_297 hs, q1, b_gd_t a1, c1, e1, g_v, b_L_law_308 h1 hs2, q1, b_gd_t a1, c1, g1.1, e2, g_v, b_L_law_320 J2.sh, y_thrown (by omega) J2.sh, g_v, b_L_law_326 J2.sh, law_tail f2 l2, b_L_law_350]
  exact ⟨τ2, _, _, _, rfl, J2, G2⟩
theorem nx_size (H : Pm P) (hd : 40 ≤ D) (J : JJ σ) (hs : Sc σ n) (hi : i + 5 < n) : NX P D i σ (b_R (a_call a_tab P D) kL_law [] (366, [some (.ref 0), some (.ref 100), some (.ref 237), some (.ref 252), some (.int (nI i)), o5, o6, o7, none], [], σ)) := by
  obtain ⟨X, hl, sn, m, B, U, J⟩ := J
  have hb := hs.2.2
  have K := J.1
  have q1 : nI i + nI 1 = nI (i + 1) := nI_add _ _
  have a1 : a_in (nI (i + 1)) n := nIi (by omega) hb
  have c1 : Int32.toNatClampNeg (nI (i + 1)) = i + 1 := nIc (by omega)
  obtain ⟨f, τ, v, τ2, e1, h1, g1, e2, f2, l2, J2, G2⟩ := w_size (P := P) (d := D) (x1 := (a_I σ 0 (i + 1))) (mid := 178) (args := [.ref 237, .int (a_I σ 0 (i + 1))]) (by omega) K.1 (PK.q J (s_size (by omega) K.1 K.2.1 K.2.2.1) (fun τ j => y_size (by omega) j.2.1.1 j.2.1.2.1 j.2.1.2.2.1) (hr0 fun x hx => ol_size hx))
  have hs2 := g1.sc hs
  rw [b_L_law_366 hs, q1, b_gd_t a1, c1, e1, g_v, b_L_law_377 h1 hs2, q1, b_gd_t a1, c1, g1.1, e2, g_v, b_L_law_389 J2.sh, y_thrown (by omega) J2.sh, g_v, b_L_law_395 J2.sh, law_tail f2 l2, b_L_law_419]
  exact ⟨τ2, _, _, _, rfl, J2, G2⟩
theorem nx_tube (H : Pm P) (hd : 40 ≤ D) (J : JJ σ) (hs : Sc σ n) (hi : i + 5 < n) : NX P D i σ (b_R (a_call a_tab P D) kL_law [] (422, [some (.ref 0), some (.ref 100), some (.ref 237), some (.ref 252), some (.int (nI i)), o5, o6, o7, none], [], σ)) := by
  obtain ⟨X, hl, sn, m, B, U, J⟩ := J
  have hb := hs.2.2
  have K := J.1
  have q1 : nI i + nI 1 = nI (i + 1) := nI_add _ _
  have a1 : a_in (nI (i + 1)) n := nIi (by omega) hb
  have c1 : Int32.toNatClampNeg (nI (i + 1)) = i + 1 := nIc (by omega)
  have q2 : nI i + nI 2 = nI (i + 2) := nI_add _ _
  have a2 : a_in (nI (i + 2)) n := nIi (by omega) hb
  have c2 : Int32.toNatClampNeg (nI (i + 2)) = i + 2 := nIc (by omega)
  obtain ⟨f, τ, v, τ2, e1, h1, g1, e2, f2, l2, J2, G2⟩ := w_tube (P := P) (d := D) (x1 := (a_I σ 0 (i + 1))) (x2 := (a_I σ 0 (i + 2))) (mid := 179) (args := [.ref 237, .int (a_I σ 0 (i + 1)), .int (a_I σ 0 (i + 2))]) (by omega) K.1 (PK.q J (s_tube (by omega) K.1 K.2.1 K.2.2.1) (fun τ j => y_tube (by omega) j.2.1.1 j.2.1.2.1 j.2.1.2.2.1) (hr0 fun x hx => ol_tube hx))
  have hs2 := g1.sc hs
  rw [b_L_law_422 hs, q1, q2, b_gd_t a1, b_gd_t a2, c1, c2, e1, g_v, b_L_law_439 h1 hs2, q1, q2, b_gd_t a1, b_gd_t a2, c1, c2, g1.1, g1.1, e2, g_v, b_L_law_457 J2.sh, y_thrown (by omega) J2.sh, g_v, b_L_law_463 J2.sh, law_tail f2 l2, b_L_law_487]
  exact ⟨τ2, _, _, _, rfl, J2, G2⟩
theorem nx_mix (H : Pm P) (hd : 40 ≤ D) (J : JJ σ) (hs : Sc σ n) (hi : i + 5 < n) : NX P D i σ (b_R (a_call a_tab P D) kL_law [] (490, [some (.ref 0), some (.ref 100), some (.ref 237), some (.ref 252), some (.int (nI i)), o5, o6, o7, none], [], σ)) := by
  obtain ⟨X, hl, sn, m, B, U, J⟩ := J
  have hb := hs.2.2
  have K := J.1
  have q1 : nI i + nI 1 = nI (i + 1) := nI_add _ _
  have a1 : a_in (nI (i + 1)) n := nIi (by omega) hb
  have c1 : Int32.toNatClampNeg (nI (i + 1)) = i + 1 := nIc (by omega)
  have q2 : nI i + nI 2 = nI (i + 2) := nI_add _ _
  have a2 : a_in (nI (i + 2)) n := nIi (by omega) hb
  have c2 : Int32.toNatClampNeg (nI (i + 2)) = i + 2 := nIc (by omega)
  obtain ⟨f, τ, v, τ2, e1, h1, g1, e2, f2, l2, J2, G2⟩ := w_mix (P := P) (d := D) (x1 := (a_I σ 0 (i + 1))) (x2 := (a_I σ 0 (i + 2))) (mid := 180) (args := [.ref 237, .int (a_I σ 0 (i + 1)), .int (a_I σ 0 (i + 2))]) (by omega) K.1 (PK.q J (s_mix (by omega) K.1 K.2.1 K.2.2.1) (fun τ j => y_mix (by omega) j.2.1.1 j.2.1.2.1 j.2.1.2.2.1) (hr0 fun x hx => ol_mix hx))
  have hs2 := g1.sc hs
  rw [b_L_law_490 hs, q1, q2, b_gd_t a1, b_gd_t a2, c1, c2, e1, g_v, b_L_law_507 h1 hs2, q1, q2, b_gd_t a1, b_gd_t a2, c1, c2, g1.1, g1.1, e2, g_v, b_L_law_525 J2.sh, y_thrown (by omega) J2.sh, g_v, b_L_law_531 J2.sh, law_tail f2 l2, b_L_law_555]
  exact ⟨τ2, _, _, _, rfl, J2, G2⟩
theorem nx_partOf (H : Pm P) (hd : 40 ≤ D) (J : JJ σ) (hs : Sc σ n) (hi : i + 5 < n) : NX P D i σ (b_R (a_call a_tab P D) kL_law [] (558, [some (.ref 0), some (.ref 100), some (.ref 237), some (.ref 252), some (.int (nI i)), o5, o6, o7, none], [], σ)) := by
  obtain ⟨X, hl, sn, m, B, U, J⟩ := J
  have hb := hs.2.2
  have K := J.1
  have q1 : nI i + nI 1 = nI (i + 1) := nI_add _ _
  have a1 : a_in (nI (i + 1)) n := nIi (by omega) hb
  have c1 : Int32.toNatClampNeg (nI (i + 1)) = i + 1 := nIc (by omega)
  have q2 : nI i + nI 2 = nI (i + 2) := nI_add _ _
  have a2 : a_in (nI (i + 2)) n := nIi (by omega) hb
  have c2 : Int32.toNatClampNeg (nI (i + 2)) = i + 2 := nIc (by omega)
  have q3 : nI i + nI 3 = nI (i + 3) := nI_add _ _
  have a3 : a_in (nI (i + 3)) n := nIi (by omega) hb
  have c3 : Int32.toNatClampNeg (nI (i + 3)) = i + 3 := nIc (by omega)
  by_cases c : a_I σ 0 (i + 3) = 0
  · obtain ⟨f, τ, v, τ2, e1, h1, g1, e2, f2, l2, J2, G2⟩ := w_partOf (P := P) (d := D) (x1 := (a_I σ 0 (i + 1))) (x2 := (a_I σ 0 (i + 2))) (x3 := (nI 0)) (mid := 181) (args := [.ref 237, .int (a_I σ 0 (i + 1)), .int (a_I σ 0 (i + 2)), .int (nI 0)]) (by omega) K.1 (PK.q J (s_partOf (b := false) (by omega) K.1 K.2.1 K.2.2.1) (fun τ j => y_partOf (b := false) (by omega) j.2.1.1 j.2.1.2.1 j.2.1.2.2.1) (hr0 fun x hx => ol_partOf hx))
    have hs2 := g1.sc hs
    rw [b_L_law_558 hs, q1, q2, q3, b_gd_t a1, b_gd_t a2, b_gd_t a3, c1, c2, c3, if_pos c, b_L_law_585, e1, g_v, b_L_law_589 hs2, q1, q2, q3, b_gd_t a1, b_gd_t a2, b_gd_t a3, c1, c2, c3, g1.1 (i + 3), if_pos c, b_L_law_618 h1, g1.1, g1.1, e2, g_v, b_L_law_621 J2.sh, y_thrown (by omega) J2.sh, g_v, b_L_law_627 J2.sh, law_tail f2 l2, b_L_law_651]
    exact ⟨τ2, _, _, _, rfl, J2, G2⟩
  · obtain ⟨f, τ, v, τ2, e1, h1, g1, e2, f2, l2, J2, G2⟩ := w_partOf (P := P) (d := D) (x1 := (a_I σ 0 (i + 1))) (x2 := (a_I σ 0 (i + 2))) (x3 := (nI 1)) (mid := 181) (args := [.ref 237, .int (a_I σ 0 (i + 1)), .int (a_I σ 0 (i + 2)), .int (nI 1)]) (by omega) K.1 (PK.q J (s_partOf (b := true) (by omega) K.1 K.2.1 K.2.2.1) (fun τ j => y_partOf (b := true) (by omega) j.2.1.1 j.2.1.2.1 j.2.1.2.2.1) (hr0 fun x hx => ol_partOf hx))
    have hs2 := g1.sc hs
    rw [b_L_law_558 hs, q1, q2, q3, b_gd_t a1, b_gd_t a2, b_gd_t a3, c1, c2, c3, if_neg c, b_L_law_585, e1, g_v, b_L_law_589 hs2, q1, q2, q3, b_gd_t a1, b_gd_t a2, b_gd_t a3, c1, c2, c3, g1.1 (i + 3), if_neg c, b_L_law_618 h1, g1.1, g1.1, e2, g_v, b_L_law_621 J2.sh, y_thrown (by omega) J2.sh, g_v, b_L_law_627 J2.sh, law_tail f2 l2, b_L_law_651]
    exact ⟨τ2, _, _, _, rfl, J2, G2⟩
theorem nx_letter (H : Pm P) (hd : 40 ≤ D) (J : JJ σ) (hs : Sc σ n) (hi : i + 5 < n) : NX P D i σ (b_R (a_call a_tab P D) kL_law [] (654, [some (.ref 0), some (.ref 100), some (.ref 237), some (.ref 252), some (.int (nI i)), o5, o6, o7, none], [], σ)) := by
  obtain ⟨X, hl, sn, m, B, U, J⟩ := J
  have hb := hs.2.2
  have K := J.1
  have q1 : nI i + nI 1 = nI (i + 1) := nI_add _ _
  have a1 : a_in (nI (i + 1)) n := nIi (by omega) hb
  have c1 : Int32.toNatClampNeg (nI (i + 1)) = i + 1 := nIc (by omega)
  have q2 : nI i + nI 2 = nI (i + 2) := nI_add _ _
  have a2 : a_in (nI (i + 2)) n := nIi (by omega) hb
  have c2 : Int32.toNatClampNeg (nI (i + 2)) = i + 2 := nIc (by omega)
  have q3 : nI i + nI 3 = nI (i + 3) := nI_add _ _
  have a3 : a_in (nI (i + 3)) n := nIi (by omega) hb
  have c3 : Int32.toNatClampNeg (nI (i + 3)) = i + 3 := nIc (by omega)
  by_cases c : a_I σ 0 (i + 1) = 0
  · obtain ⟨f, τ, v, τ2, e1, h1, g1, e2, f2, l2, J2, G2⟩ := w_letter (P := P) (d := D) (x1 := (nI 0)) (x2 := (a_I σ 0 (i + 2))) (x3 := (a_I σ 0 (i + 3))) (mid := 182) (args := [.ref 237, .int (nI 0), .int (a_I σ 0 (i + 2)), .int (a_I σ 0 (i + 3))]) (by omega) K.1 (PK.q J (s_letter (b := false) (by omega) K.1 K.2.1 K.2.2.1) (fun τ j => y_letter (b := false) (by omega) j.2.1.1 j.2.1.2.1 j.2.1.2.2.1) (hr0 fun x hx => ol_letter hx))
    have hs2 := g1.sc hs
    rw [b_L_law_654 hs, q1, b_gd_t a1, c1, if_pos c, b_L_law_669 hs, q2, q3, b_gd_t a2, b_gd_t a3, c2, c3, e1, g_v, b_L_law_685 hs2, q1, b_gd_t a1, c1, g1.1 (i + 1), if_pos c, b_L_law_702 h1 hs2, q2, q3, b_gd_t a2, b_gd_t a3, c2, c3, g1.1, g1.1, e2, g_v, b_L_law_717 J2.sh, y_thrown (by omega) J2.sh, g_v, b_L_law_723 J2.sh, law_tail f2 l2, b_L_law_747]
    exact ⟨τ2, _, _, _, rfl, J2, G2⟩
  · obtain ⟨f, τ, v, τ2, e1, h1, g1, e2, f2, l2, J2, G2⟩ := w_letter (P := P) (d := D) (x1 := (nI 1)) (x2 := (a_I σ 0 (i + 2))) (x3 := (a_I σ 0 (i + 3))) (mid := 182) (args := [.ref 237, .int (nI 1), .int (a_I σ 0 (i + 2)), .int (a_I σ 0 (i + 3))]) (by omega) K.1 (PK.q J (s_letter (b := true) (by omega) K.1 K.2.1 K.2.2.1) (fun τ j => y_letter (b := true) (by omega) j.2.1.1 j.2.1.2.1 j.2.1.2.2.1) (hr0 fun x hx => ol_letter hx))
    have hs2 := g1.sc hs
    rw [b_L_law_654 hs, q1, b_gd_t a1, c1, if_neg c, b_L_law_669 hs, q2, q3, b_gd_t a2, b_gd_t a3, c2, c3, e1, g_v, b_L_law_685 hs2, q1, b_gd_t a1, c1, g1.1 (i + 1), if_neg c, b_L_law_702 h1 hs2, q2, q3, b_gd_t a2, b_gd_t a3, c2, c3, g1.1, g1.1, e2, g_v, b_L_law_717 J2.sh, y_thrown (by omega) J2.sh, g_v, b_L_law_723 J2.sh, law_tail f2 l2, b_L_law_747]
    exact ⟨τ2, _, _, _, rfl, J2, G2⟩
theorem nx_mixed (H : Pm P) (hd : 40 ≤ D) (J : JJ σ) (hs : Sc σ n) (hi : i + 5 < n) : NX P D i σ (b_R (a_call a_tab P D) kL_law [] (750, [some (.ref 0), some (.ref 100), some (.ref 237), some (.ref 252), some (.int (nI i)), o5, o6, o7, none], [], σ)) := by
  obtain ⟨X, hl, sn, m, B, U, J⟩ := J
  have hb := hs.2.2
  have K := J.1
  have q1 : nI i + nI 1 = nI (i + 1) := nI_add _ _
  have a1 : a_in (nI (i + 1)) n := nIi (by omega) hb
  have c1 : Int32.toNatClampNeg (nI (i + 1)) = i + 1 := nIc (by omega)
  obtain ⟨f, τ, v, τ2, e1, h1, g1, e2, f2, l2, J2, G2⟩ := w_mixed (P := P) (d := D) (x1 := (a_I σ 0 (i + 1))) (mid := 257) (args := [.ref 237, .int (a_I σ 0 (i + 1))]) (by omega) K.1 (PK.t J (s_mixed H (by omega) K J.2.2.1) (fun τ k b => (y_mixed H (by omega) k b).q) (fun x hx => ol_mixed hx))
  have hs2 := g1.sc hs
  rw [b_L_law_750 hs, q1, b_gd_t a1, c1, e1, g_v, b_L_law_761 h1 hs2, q1, b_gd_t a1, c1, g1.1, e2, g_v, b_L_law_773 J2.sh, y_thrown (by omega) J2.sh, g_v, b_L_law_779 J2.sh, law_tail f2 l2, b_L_law_803]
  exact ⟨τ2, _, _, _, rfl, J2, G2⟩
theorem nx_apart (H : Pm P) (hd : 40 ≤ D) (J : JJ σ) (hs : Sc σ n) (hi : i + 5 < n) : NX P D i σ (b_R (a_call a_tab P D) kL_law [] (806, [some (.ref 0), some (.ref 100), some (.ref 237), some (.ref 252), some (.int (nI i)), o5, o6, o7, none], [], σ)) := by
  obtain ⟨X, hl, sn, m, B, U, J⟩ := J
  have hb := hs.2.2
  have K := J.1
  have q1 : nI i + nI 1 = nI (i + 1) := nI_add _ _
  have a1 : a_in (nI (i + 1)) n := nIi (by omega) hb
  have c1 : Int32.toNatClampNeg (nI (i + 1)) = i + 1 := nIc (by omega)
  have q2 : nI i + nI 2 = nI (i + 2) := nI_add _ _
  have a2 : a_in (nI (i + 2)) n := nIi (by omega) hb
  have c2 : Int32.toNatClampNeg (nI (i + 2)) = i + 2 := nIc (by omega)
  obtain ⟨f, τ, v, τ2, e1, h1, g1, e2, f2, l2, J2, G2⟩ := w_apart (P := P) (d := D) (x1 := (a_I σ 0 (i + 1))) (x2 := (a_I σ 0 (i + 2))) (mid := 183) (args := [.ref 237, .int (a_I σ 0 (i + 1)), .int (a_I σ 0 (i + 2))]) (by omega) K.1 (PK.q J (s_apart (by omega)) (fun τ j => y_apart (by omega) j.2.1.1) (hr1q fun x hx => ol_apart hx))
  have hs2 := g1.sc hs
  rw [b_L_law_806 hs, q1, q2, b_gd_t a1, b_gd_t a2, c1, c2, e1, g_v, b_L_law_823 h1 hs2, q1, q2, b_gd_t a1, b_gd_t a2, c1, c2, g1.1, g1.1, e2, g_v, b_L_law_841 J2.sh, y_thrown (by omega) J2.sh, g_v, b_L_law_847 J2.sh, law_tail f2 l2, b_L_law_871]
  exact ⟨τ2, _, _, _, rfl, J2, G2⟩
theorem nx_called (H : Pm P) (hd : 40 ≤ D) (J : JJ σ) (hs : Sc σ n) (hi : i + 5 < n) : NX P D i σ (b_R (a_call a_tab P D) kL_law [] (874, [some (.ref 0), some (.ref 100), some (.ref 237), some (.ref 252), some (.int (nI i)), o5, o6, o7, none], [], σ)) := by
  obtain ⟨X, hl, sn, m, B, U, J⟩ := J
  have hb := hs.2.2
  have K := J.1
  have q1 : nI i + nI 1 = nI (i + 1) := nI_add _ _
  have a1 : a_in (nI (i + 1)) n := nIi (by omega) hb
  have c1 : Int32.toNatClampNeg (nI (i + 1)) = i + 1 := nIc (by omega)
  obtain ⟨f, τ, v, τ2, e1, h1, g1, e2, f2, l2, J2, G2⟩ := w_called (P := P) (d := D) (x1 := (a_I σ 0 (i + 1))) (mid := 184) (args := [.ref 237, .int (a_I σ 0 (i + 1))]) (by omega) K.1 (PK.q J (s_called (by omega) K.1 K.2.1 K.2.2.1) (fun τ j => y_called (by omega) j.2.1.1 j.2.1.2.1 j.2.1.2.2.1) (hr1q fun x hx => ol_called hx))
  have hs2 := g1.sc hs
  rw [b_L_law_874 hs, q1, b_gd_t a1, c1, e1, g_v, b_L_law_885 h1 hs2, q1, b_gd_t a1, c1, g1.1, e2, g_v, b_L_law_897 J2.sh, y_thrown (by omega) J2.sh, g_v, b_L_law_903 J2.sh, law_tail f2 l2, b_L_law_927]
  exact ⟨τ2, _, _, _, rfl, J2, G2⟩
theorem nx_nearest (H : Pm P) (hd : 40 ≤ D) (J : JJ σ) (hs : Sc σ n) (hi : i + 5 < n) : NX P D i σ (b_R (a_call a_tab P D) kL_law [] (930, [some (.ref 0), some (.ref 100), some (.ref 237), some (.ref 252), some (.int (nI i)), o5, o6, o7, none], [], σ)) := by
  obtain ⟨X, hl, sn, m, B, U, J⟩ := J
  have hb := hs.2.2
  have K := J.1
  have q1 : nI i + nI 1 = nI (i + 1) := nI_add _ _
  have a1 : a_in (nI (i + 1)) n := nIi (by omega) hb
  have c1 : Int32.toNatClampNeg (nI (i + 1)) = i + 1 := nIc (by omega)
  have q2 : nI i + nI 2 = nI (i + 2) := nI_add _ _
  have a2 : a_in (nI (i + 2)) n := nIi (by omega) hb
  have c2 : Int32.toNatClampNeg (nI (i + 2)) = i + 2 := nIc (by omega)
  have q3 : nI i + nI 3 = nI (i + 3) := nI_add _ _
  have a3 : a_in (nI (i + 3)) n := nIi (by omega) hb
  have c3 : Int32.toNatClampNeg (nI (i + 3)) = i + 3 := nIc (by omega)
  obtain ⟨f, τ, v, τ2, e1, h1, g1, e2, f2, l2, J2, G2⟩ := w_nearest (P := P) (d := D) (x1 := (a_I σ 0 (i + 1))) (x2 := (a_I σ 0 (i + 2))) (x3 := (a_I σ 0 (i + 3))) (mid := 186) (args := [.ref 237, .int (a_I σ 0 (i + 1)), .int (a_I σ 0 (i + 2)), .int (a_I σ 0 (i + 3))]) (by omega) K.1 (PK.q J (s_nearest H (by omega) K.1 K.2.1 K.2.2.1) (fun τ j => y_nearest (by omega) j.2.1.1 j.2.1.2.1 j.2.1.2.2.1) (hr2 fun x hx => ol_nearest hx))
  have hs2 := g1.sc hs
  rw [b_L_law_930 hs, q1, q2, q3, b_gd_t a1, b_gd_t a2, b_gd_t a3, c1, c2, c3, e1, g_v, b_L_law_953 h1 hs2, q1, q2, q3, b_gd_t a1, b_gd_t a2, b_gd_t a3, c1, c2, c3, g1.1, g1.1, g1.1, e2, g_v, b_L_law_977 J2.sh, y_thrown (by omega) J2.sh, g_v, b_L_law_983 J2.sh, law_tail f2 l2, b_L_law_1007]
  exact ⟨τ2, _, _, _, rfl, J2, G2⟩
theorem nx_fewest (H : Pm P) (hd : 40 ≤ D) (J : JJ σ) (hs : Sc σ n) (hi : i + 5 < n) : NX P D i σ (b_R (a_call a_tab P D) kL_law [] (1010, [some (.ref 0), some (.ref 100), some (.ref 237), some (.ref 252), some (.int (nI i)), o5, o6, o7, none], [], σ)) := by
  obtain ⟨X, hl, sn, m, B, U, J⟩ := J
  have hb := hs.2.2
  have K := J.1
  have q1 : nI i + nI 1 = nI (i + 1) := nI_add _ _
  have a1 : a_in (nI (i + 1)) n := nIi (by omega) hb
  have c1 : Int32.toNatClampNeg (nI (i + 1)) = i + 1 := nIc (by omega)
  obtain ⟨f, τ, v, τ2, e1, h1, g1, e2, f2, l2, J2, G2⟩ := w_fewest (P := P) (d := D) (x1 := (a_I σ 0 (i + 1))) (mid := 187) (args := [.ref 237, .int (a_I σ 0 (i + 1))]) (by omega) K.1 (PK.q J (s_fewest H (by omega) K.1 K.2.1 K.2.2.1) (fun τ j => y_fewest (by omega) j.2.1.1 j.2.1.2.1 j.2.1.2.2.1) (hr1q fun x hx => ol_fewest hx))
  have hs2 := g1.sc hs
  rw [b_L_law_1010 hs, q1, b_gd_t a1, c1, e1, g_v, b_L_law_1021 h1 hs2, q1, b_gd_t a1, c1, g1.1, e2, g_v, b_L_law_1033 J2.sh, y_thrown (by omega) J2.sh, g_v, b_L_law_1039 J2.sh, law_tail f2 l2, b_L_law_1063]
  exact ⟨τ2, _, _, _, rfl, J2, G2⟩
theorem nx_strokes (H : Pm P) (hd : 40 ≤ D) (J : JJ σ) (hs : Sc σ n) (hi : i + 5 < n) : NX P D i σ (b_R (a_call a_tab P D) kL_law [] (1066, [some (.ref 0), some (.ref 100), some (.ref 237), some (.ref 252), some (.int (nI i)), o5, o6, o7, none], [], σ)) := by
  obtain ⟨X, hl, sn, m, B, U, J⟩ := J
  have hb := hs.2.2
  have K := J.1
  have q1 : nI i + nI 1 = nI (i + 1) := nI_add _ _
  have a1 : a_in (nI (i + 1)) n := nIi (by omega) hb
  have c1 : Int32.toNatClampNeg (nI (i + 1)) = i + 1 := nIc (by omega)
  obtain ⟨f, τ, v, τ2, e1, h1, g1, e2, f2, l2, J2, G2⟩ := w_strokes (P := P) (d := D) (x1 := (a_I σ 0 (i + 1))) (mid := 190) (args := [.ref 237, .int (a_I σ 0 (i + 1))]) (by omega) K.1 (PK.q J (s_strokes H (by omega) K.1 K.2.1 K.2.2.1) (fun τ j => y_strokes H (by omega) j.2.1.1 j.2.1.2.1 j.2.1.2.2.1) (hr0 fun x hx => ol_strokes hx))
  have hs2 := g1.sc hs
  rw [b_L_law_1066 hs, q1, b_gd_t a1, c1, e1, g_v, b_L_law_1077 h1 hs2, q1, b_gd_t a1, c1, g1.1, e2, g_v, b_L_law_1089 J2.sh, y_thrown (by omega) J2.sh, g_v, b_L_law_1095 J2.sh, law_tail f2 l2, b_L_law_1119]
  exact ⟨τ2, _, _, _, rfl, J2, G2⟩
theorem nx_shortest (H : Pm P) (hd : 40 ≤ D) (J : JJ σ) (hs : Sc σ n) (hi : i + 5 < n) : NX P D i σ (b_R (a_call a_tab P D) kL_law [] (1122, [some (.ref 0), some (.ref 100), some (.ref 237), some (.ref 252), some (.int (nI i)), o5, o6, o7, none], [], σ)) := by
  obtain ⟨X, hl, sn, m, B, U, J⟩ := J
  have hb := hs.2.2
  have K := J.1
  have q1 : nI i + nI 1 = nI (i + 1) := nI_add _ _
  have a1 : a_in (nI (i + 1)) n := nIi (by omega) hb
  have c1 : Int32.toNatClampNeg (nI (i + 1)) = i + 1 := nIc (by omega)
  obtain ⟨f, τ, v, τ2, e1, h1, g1, e2, f2, l2, J2, G2⟩ := w_shortest (P := P) (d := D) (x1 := (a_I σ 0 (i + 1))) (mid := 191) (args := [.ref 237, .int (a_I σ 0 (i + 1))]) (by omega) K.1 (PK.q J (s_shortest H (by omega) K.1 K.2.1 K.2.2.1) (fun τ j => y_shortest H (by omega) j.2.1.1 j.2.1.2.1 j.2.1.2.2.1) (hr0 fun x hx => ol_shortest hx))
  have hs2 := g1.sc hs
  rw [b_L_law_1122 hs, q1, b_gd_t a1, c1, e1, g_v, b_L_law_1133 h1 hs2, q1, b_gd_t a1, c1, g1.1, e2, g_v, b_L_law_1145 J2.sh, y_thrown (by omega) J2.sh, g_v, b_L_law_1151 J2.sh, law_tail f2 l2, b_L_law_1175]
  exact ⟨τ2, _, _, _, rfl, J2, G2⟩
theorem nx_wouldPaint (H : Pm P) (hd : 40 ≤ D) (J : JJ σ) (hs : Sc σ n) (hi : i + 5 < n) : NX P D i σ (b_R (a_call a_tab P D) kL_law [] (1178, [some (.ref 0), some (.ref 100), some (.ref 237), some (.ref 252), some (.int (nI i)), o5, o6, o7, none], [], σ)) := by
  obtain ⟨X, hl, sn, m, B, U, J⟩ := J
  have hb := hs.2.2
  have K := J.1
  have q1 : nI i + nI 1 = nI (i + 1) := nI_add _ _
  have a1 : a_in (nI (i + 1)) n := nIi (by omega) hb
  have c1 : Int32.toNatClampNeg (nI (i + 1)) = i + 1 := nIc (by omega)
  have q2 : nI i + nI 2 = nI (i + 2) := nI_add _ _
  have a2 : a_in (nI (i + 2)) n := nIi (by omega) hb
  have c2 : Int32.toNatClampNeg (nI (i + 2)) = i + 2 := nIc (by omega)
  obtain ⟨f, τ, v, τ2, e1, h1, g1, e2, f2, l2, J2, G2⟩ := w_wouldPaint (P := P) (d := D) (x1 := (a_I σ 0 (i + 1))) (x2 := (a_I σ 0 (i + 2))) (mid := 193) (args := [.ref 237, .int (a_I σ 0 (i + 1)), .int (a_I σ 0 (i + 2))]) (by omega) K.1 (PK.q J (s_wouldPaint (by omega) K.1 K.2.1 K.2.2.1) (fun τ j => y_wouldPaint (by omega) j.2.1.1 j.2.1.2.1 j.2.1.2.2.1) (hr0 fun x hx => ol_wouldPaint hx))
  have hs2 := g1.sc hs
  rw [b_L_law_1178 hs, q1, q2, b_gd_t a1, b_gd_t a2, c1, c2, e1, g_v, b_L_law_1195 h1 hs2, q1, q2, b_gd_t a1, b_gd_t a2, c1, c2, g1.1, g1.1, e2, g_v, b_L_law_1213 J2.sh, y_thrown (by omega) J2.sh, g_v, b_L_law_1219 J2.sh, law_tail f2 l2, b_L_law_1243]
  exact ⟨τ2, _, _, _, rfl, J2, G2⟩
theorem nx_brush (H : Pm P) (hd : 40 ≤ D) (J : JJ σ) (hs : Sc σ n) (hi : i + 5 < n) : NX P D i σ (b_R (a_call a_tab P D) kL_law [] (1246, [some (.ref 0), some (.ref 100), some (.ref 237), some (.ref 252), some (.int (nI i)), o5, o6, o7, none], [], σ)) := by
  obtain ⟨X, hl, sn, m, B, U, J⟩ := J
  have hb := hs.2.2
  have K := J.1
  have q1 : nI i + nI 1 = nI (i + 1) := nI_add _ _
  have a1 : a_in (nI (i + 1)) n := nIi (by omega) hb
  have c1 : Int32.toNatClampNeg (nI (i + 1)) = i + 1 := nIc (by omega)
  have q2 : nI i + nI 2 = nI (i + 2) := nI_add _ _
  have a2 : a_in (nI (i + 2)) n := nIi (by omega) hb
  have c2 : Int32.toNatClampNeg (nI (i + 2)) = i + 2 := nIc (by omega)
  obtain ⟨f, τ, v, τ2, e1, h1, g1, e2, f2, l2, J2, G2⟩ := w_brush (P := P) (d := D) (x1 := (a_I σ 0 (i + 1))) (x2 := (a_I σ 0 (i + 2))) (mid := 194) (args := [.ref 237, .int (a_I σ 0 (i + 1)), .int (a_I σ 0 (i + 2))]) (by omega) K.1 (PK.q J (s_brush (by omega) K.1 K.2.1 K.2.2.1) (fun τ j => y_brush (by omega) j.2.1.1 j.2.1.2.1 j.2.1.2.2.1) (hr0 fun x hx => ol_brush hx))
  have hs2 := g1.sc hs
  rw [b_L_law_1246 hs, q1, q2, b_gd_t a1, b_gd_t a2, c1, c2, e1, g_v, b_L_law_1263 h1 hs2, q1, q2, b_gd_t a1, b_gd_t a2, c1, c2, g1.1, g1.1, e2, g_v, b_L_law_1281 J2.sh, y_thrown (by omega) J2.sh, g_v, b_L_law_1287 J2.sh, law_tail f2 l2, b_L_law_1311]
  exact ⟨τ2, _, _, _, rfl, J2, G2⟩
theorem nx_bestBrush (H : Pm P) (hd : 40 ≤ D) (J : JJ σ) (hs : Sc σ n) (hi : i + 5 < n) : NX P D i σ (b_R (a_call a_tab P D) kL_law [] (1314, [some (.ref 0), some (.ref 100), some (.ref 237), some (.ref 252), some (.int (nI i)), o5, o6, o7, none], [], σ)) := by
  obtain ⟨X, hl, sn, m, B, U, J⟩ := J
  have hb := hs.2.2
  have K := J.1
  have q1 : nI i + nI 1 = nI (i + 1) := nI_add _ _
  have a1 : a_in (nI (i + 1)) n := nIi (by omega) hb
  have c1 : Int32.toNatClampNeg (nI (i + 1)) = i + 1 := nIc (by omega)
  obtain ⟨f, τ, v, τ2, e1, h1, g1, e2, f2, l2, J2, G2⟩ := w_bestBrush (P := P) (d := D) (x1 := (a_I σ 0 (i + 1))) (mid := 195) (args := [.ref 237, .int (a_I σ 0 (i + 1))]) (by omega) K.1 (PK.q J (s_bestBrush (by omega) K.1 K.2.1 K.2.2.1) (fun τ j => y_bestBrush (by omega) j.2.1.1 j.2.1.2.1 j.2.1.2.2.1) (hr0 fun x hx => ol_bestBrush hx))
  have hs2 := g1.sc hs
  rw [b_L_law_1314 hs, q1, b_gd_t a1, c1, e1, g_v, b_L_law_1325 h1 hs2, q1, b_gd_t a1, c1, g1.1, e2, g_v, b_L_law_1337 J2.sh, y_thrown (by omega) J2.sh, g_v, b_L_law_1343 J2.sh, law_tail f2 l2, b_L_law_1367]
  exact ⟨τ2, _, _, _, rfl, J2, G2⟩
theorem nx_painting (H : Pm P) (hd : 40 ≤ D) (J : JJ σ) (hs : Sc σ n) (hi : i + 5 < n) : NX P D i σ (b_R (a_call a_tab P D) kL_law [] (1370, [some (.ref 0), some (.ref 100), some (.ref 237), some (.ref 252), some (.int (nI i)), o5, o6, o7, none], [], σ)) := by
  obtain ⟨X, hl, sn, m, B, U, J⟩ := J
  have hb := hs.2.2
  have K := J.1
  have q1 : nI i + nI 1 = nI (i + 1) := nI_add _ _
  have a1 : a_in (nI (i + 1)) n := nIi (by omega) hb
  have c1 : Int32.toNatClampNeg (nI (i + 1)) = i + 1 := nIc (by omega)
  have q2 : nI i + nI 2 = nI (i + 2) := nI_add _ _
  have a2 : a_in (nI (i + 2)) n := nIi (by omega) hb
  have c2 : Int32.toNatClampNeg (nI (i + 2)) = i + 2 := nIc (by omega)
  obtain ⟨f, τ, v, τ2, e1, h1, g1, e2, f2, l2, J2, G2⟩ := w_painting (P := P) (d := D) (x1 := (a_I σ 0 (i + 1))) (x2 := (a_I σ 0 (i + 2))) (mid := 196) (args := [.ref 237, .int (a_I σ 0 (i + 1)), .int (a_I σ 0 (i + 2))]) (by omega) K.1 (PK.q J (s_painting (by omega) K.1 K.2.1 K.2.2.1) (fun τ j => y_painting (by omega) j.2.1.1 j.2.1.2.1 j.2.1.2.2.1) (hr0 fun x hx => ol_painting hx))
  have hs2 := g1.sc hs
  rw [b_L_law_1370 hs, q1, q2, b_gd_t a1, b_gd_t a2, c1, c2, e1, g_v, b_L_law_1387 h1 hs2, q1, q2, b_gd_t a1, b_gd_t a2, c1, c2, g1.1, g1.1, e2, g_v, b_L_law_1405 J2.sh, y_thrown (by omega) J2.sh, g_v, b_L_law_1411 J2.sh, law_tail f2 l2, b_L_law_1435]
  exact ⟨τ2, _, _, _, rfl, J2, G2⟩
theorem nx_loss (H : Pm P) (hd : 40 ≤ D) (J : JJ σ) (hs : Sc σ n) (hi : i + 5 < n) : NX P D i σ (b_R (a_call a_tab P D) kL_law [] (1477, [some (.ref 0), some (.ref 100), some (.ref 237), some (.ref 252), some (.int (nI i)), o5, o6, o7, none], [], σ)) := by
  obtain ⟨X, hl, sn, m, B, U, J⟩ := J
  have hb := hs.2.2
  have K := J.1
  have q1 : nI i + nI 1 = nI (i + 1) := nI_add _ _
  have a1 : a_in (nI (i + 1)) n := nIi (by omega) hb
  have c1 : Int32.toNatClampNeg (nI (i + 1)) = i + 1 := nIc (by omega)
  obtain ⟨f, τ, v, τ2, e1, h1, g1, e2, f2, l2, J2, G2⟩ := w_loss (P := P) (d := D) (x1 := (a_I σ 0 (i + 1))) (mid := 200) (args := [.ref 237, .int (a_I σ 0 (i + 1))]) (by omega) K.1 (PK.q J (s_loss H (by omega) K.1 K.2.1 K.2.2.1) (fun τ j => y_loss (by omega) j.2.1.1 j.2.1.2.1 j.2.1.2.2.1) (hr0 fun x hx => ol_loss hx))
  have hs2 := g1.sc hs
  rw [b_L_law_1477 hs, q1, b_gd_t a1, c1, e1, g_v, b_L_law_1488 h1 hs2, q1, b_gd_t a1, c1, g1.1, e2, g_v, b_L_law_1500 J2.sh, y_thrown (by omega) J2.sh, g_v, b_L_law_1506 J2.sh, law_tail f2 l2, b_L_law_1530]
  exact ⟨τ2, _, _, _, rfl, J2, G2⟩
theorem nx_define (H : Pm P) (hd : 40 ≤ D) (J : JJ σ) (hs : Sc σ n) (hi : i + 5 < n) : NX P D i σ (b_R (a_call a_tab P D) kL_law [] (1617, [some (.ref 0), some (.ref 100), some (.ref 237), some (.ref 252), some (.int (nI i)), o5, o6, o7, none], [], σ)) := by
  obtain ⟨X, hl, sn, m, B, U, J⟩ := J
  have hb := hs.2.2
  have K := J.1
  have q1 : nI i + nI 1 = nI (i + 1) := nI_add _ _
  have a1 : a_in (nI (i + 1)) n := nIi (by omega) hb
  have c1 : Int32.toNatClampNeg (nI (i + 1)) = i + 1 := nIc (by omega)
  obtain ⟨f, τ, v, τ2, e1, h1, g1, e2, f2, l2, J2, G2⟩ := w_define (P := P) (d := D) (x1 := (a_I σ 0 (i + 1))) (mid := 258) (args := [.ref 237, .int (a_I σ 0 (i + 1))]) (by omega) K.1 (PK.t J (s_define H (by omega) K J.2.2.1) (fun τ k b => (y_define H (by omega) k b).q) (fun x hx => ol_define hx))
  have hs2 := g1.sc hs
  rw [b_L_law_1617 hs, q1, b_gd_t a1, c1, e1, g_v, b_L_law_1628 h1 hs2, q1, b_gd_t a1, c1, g1.1, e2, g_v, b_L_law_1640 J2.sh, y_thrown (by omega) J2.sh, g_v, b_L_law_1646 J2.sh, law_tail f2 l2, b_L_law_1670]
  exact ⟨τ2, _, _, _, rfl, J2, G2⟩
theorem nx_forget (H : Pm P) (hd : 40 ≤ D) (J : JJ σ) (hs : Sc σ n) (hi : i + 5 < n) : NX P D i σ (b_R (a_call a_tab P D) kL_law [] (1673, [some (.ref 0), some (.ref 100), some (.ref 237), some (.ref 252), some (.int (nI i)), o5, o6, o7, none], [], σ)) := by
  obtain ⟨X, hl, sn, m, B, U, J⟩ := J
  have hb := hs.2.2
  have K := J.1
  have q1 : nI i + nI 1 = nI (i + 1) := nI_add _ _
  have a1 : a_in (nI (i + 1)) n := nIi (by omega) hb
  have c1 : Int32.toNatClampNeg (nI (i + 1)) = i + 1 := nIc (by omega)
  obtain ⟨f, τ, v, τ2, e1, h1, g1, e2, f2, l2, J2, G2⟩ := w_forget (P := P) (d := D) (x1 := (a_I σ 0 (i + 1))) (mid := 203) (args := [.ref 237, .int (a_I σ 0 (i + 1))]) (by omega) K.1 (PK.o J (s_forget H (by omega) K) (fun τ k => y_forget (by omega) k) (hr0 fun x hx => ol_forget hx))
  have hs2 := g1.sc hs
  rw [b_L_law_1673 hs, q1, b_gd_t a1, c1, e1, g_v, b_L_law_1684 h1 hs2, q1, b_gd_t a1, c1, g1.1, e2, g_v, b_L_law_1696 J2.sh, y_thrown (by omega) J2.sh, g_v, b_L_law_1702 J2.sh, law_tail f2 l2, b_L_law_1726]
  exact ⟨τ2, _, _, _, rfl, J2, G2⟩
theorem nx_retire (H : Pm P) (hd : 40 ≤ D) (J : JJ σ) (hs : Sc σ n) (hi : i + 5 < n) : NX P D i σ (b_R (a_call a_tab P D) kL_law [] (1729, [some (.ref 0), some (.ref 100), some (.ref 237), some (.ref 252), some (.int (nI i)), o5, o6, o7, none], [], σ)) := by
  obtain ⟨X, hl, sn, m, B, U, J⟩ := J
  have hb := hs.2.2
  have K := J.1
  have q1 : nI i + nI 1 = nI (i + 1) := nI_add _ _
  have a1 : a_in (nI (i + 1)) n := nIi (by omega) hb
  have c1 : Int32.toNatClampNeg (nI (i + 1)) = i + 1 := nIc (by omega)
  have q2 : nI i + nI 2 = nI (i + 2) := nI_add _ _
  have a2 : a_in (nI (i + 2)) n := nIi (by omega) hb
  have c2 : Int32.toNatClampNeg (nI (i + 2)) = i + 2 := nIc (by omega)
  by_cases c : a_I σ 0 (i + 2) = 0
  · obtain ⟨f, τ, v, τ2, e1, h1, g1, e2, f2, l2, J2, G2⟩ := w_retire (P := P) (d := D) (x1 := (a_I σ 0 (i + 1))) (x2 := (nI 0)) (mid := 204) (args := [.ref 237, .int (a_I σ 0 (i + 1)), .int (nI 0)]) (by omega) K.1 (PK.o J (s_retire H (by omega) (b := false) K) (fun τ k => y_retire (b := false) (by omega) k) (hr0 fun x hx => ol_retire hx))
    have hs2 := g1.sc hs
    rw [b_L_law_1729 hs, q1, q2, b_gd_t a1, b_gd_t a2, c1, c2, if_pos c, b_L_law_1750, e1, g_v, b_L_law_1754 hs2, q1, q2, b_gd_t a1, b_gd_t a2, c1, c2, g1.1 (i + 2), if_pos c, b_L_law_1777 h1, g1.1, e2, g_v, b_L_law_1780 J2.sh, y_thrown (by omega) J2.sh, g_v, b_L_law_1786 J2.sh, law_tail f2 l2, b_L_law_1810]
    exact ⟨τ2, _, _, _, rfl, J2, G2⟩
  · obtain ⟨f, τ, v, τ2, e1, h1, g1, e2, f2, l2, J2, G2⟩ := w_retire (P := P) (d := D) (x1 := (a_I σ 0 (i + 1))) (x2 := (nI 1)) (mid := 204) (args := [.ref 237, .int (a_I σ 0 (i + 1)), .int (nI 1)]) (by omega) K.1 (PK.o J (s_retire H (by omega) (b := true) K) (fun τ k => y_retire (b := true) (by omega) k) (hr0 fun x hx => ol_retire hx))
    have hs2 := g1.sc hs
    rw [b_L_law_1729 hs, q1, q2, b_gd_t a1, b_gd_t a2, c1, c2, if_neg c, b_L_law_1750, e1, g_v, b_L_law_1754 hs2, q1, q2, b_gd_t a1, b_gd_t a2, c1, c2, g1.1 (i + 2), if_neg c, b_L_law_1777 h1, g1.1, e2, g_v, b_L_law_1780 J2.sh, y_thrown (by omega) J2.sh, g_v, b_L_law_1786 J2.sh, law_tail f2 l2, b_L_law_1810]
    exact ⟨τ2, _, _, _, rfl, J2, G2⟩
theorem nx_heal (H : Pm P) (hd : 40 ≤ D) (J : JJ σ) (hs : Sc σ n) (hi : i + 5 < n) : NX P D i σ (b_R (a_call a_tab P D) kL_law [] (1813, [some (.ref 0), some (.ref 100), some (.ref 237), some (.ref 252), some (.int (nI i)), o5, o6, o7, none], [], σ)) := by
  obtain ⟨X, hl, sn, m, B, U, J⟩ := J
  have hb := hs.2.2
  have K := J.1
  have q1 : nI i + nI 1 = nI (i + 1) := nI_add _ _
  have a1 : a_in (nI (i + 1)) n := nIi (by omega) hb
  have c1 : Int32.toNatClampNeg (nI (i + 1)) = i + 1 := nIc (by omega)
  obtain ⟨f, τ, v, τ2, e1, h1, g1, e2, f2, l2, J2, G2⟩ := w_heal (P := P) (d := D) (x1 := (a_I σ 0 (i + 1))) (mid := 205) (args := [.ref 237, .int (a_I σ 0 (i + 1))]) (by omega) K.1 (PK.o J (s_heal H (by omega) K) (fun τ k => y_heal (by omega) k) (hr0 fun x hx => ol_heal hx))
  have hs2 := g1.sc hs
  rw [b_L_law_1813 hs, q1, b_gd_t a1, c1, e1, g_v, b_L_law_1824 h1 hs2, q1, b_gd_t a1, c1, g1.1, e2, g_v, b_L_law_1836 J2.sh, y_thrown (by omega) J2.sh, g_v, b_L_law_1842 J2.sh, law_tail f2 l2, b_L_law_1866]
  exact ⟨τ2, _, _, _, rfl, J2, G2⟩
theorem nx_paint (H : Pm P) (hd : 40 ≤ D) (J : JJ σ) (hs : Sc σ n) (hi : i + 5 < n) : NX P D i σ (b_R (a_call a_tab P D) kL_law [] (1869, [some (.ref 0), some (.ref 100), some (.ref 237), some (.ref 252), some (.int (nI i)), o5, o6, o7, none], [], σ)) := by
  obtain ⟨X, hl, sn, m, B, U, J⟩ := J
  have hb := hs.2.2
  have K := J.1
  have q1 : nI i + nI 1 = nI (i + 1) := nI_add _ _
  have a1 : a_in (nI (i + 1)) n := nIi (by omega) hb
  have c1 : Int32.toNatClampNeg (nI (i + 1)) = i + 1 := nIc (by omega)
  have q2 : nI i + nI 2 = nI (i + 2) := nI_add _ _
  have a2 : a_in (nI (i + 2)) n := nIi (by omega) hb
  have c2 : Int32.toNatClampNeg (nI (i + 2)) = i + 2 := nIc (by omega)
  have q3 : nI i + nI 3 = nI (i + 3) := nI_add _ _
  have a3 : a_in (nI (i + 3)) n := nIi (by omega) hb
  have c3 : Int32.toNatClampNeg (nI (i + 3)) = i + 3 := nIc (by omega)
  obtain ⟨f, τ, v, τ2, e1, h1, g1, e2, f2, l2, J2, G2⟩ := w_paint (P := P) (d := D) (x1 := (a_I σ 0 (i + 1))) (x2 := (a_I σ 0 (i + 2))) (x3 := (a_I σ 0 (i + 3))) (mid := 207) (args := [.ref 237, .int (a_I σ 0 (i + 1)), .int (a_I σ 0 (i + 2)), .int (a_I σ 0 (i + 3))]) (by omega) K.1 (PK.o J (s_paint H (by omega) K) (fun τ k => y_paint H (by omega) k) (hr2 fun x hx => ol_paint hx))
  have hs2 := g1.sc hs
  rw [b_L_law_1869 hs, q1, q2, q3, b_gd_t a1, b_gd_t a2, b_gd_t a3, c1, c2, c3, e1, g_v, b_L_law_1892 h1 hs2, q1, q2, q3, b_gd_t a1, b_gd_t a2, b_gd_t a3, c1, c2, c3, g1.1, g1.1, g1.1, e2, g_v, b_L_law_1916 J2.sh, y_thrown (by omega) J2.sh, g_v, b_L_law_1922 J2.sh, law_tail f2 l2, b_L_law_1946]
  exact ⟨τ2, _, _, _, rfl, J2, G2⟩
theorem nx_clean (H : Pm P) (hd : 40 ≤ D) (J : JJ σ) (hs : Sc σ n) (hi : i + 5 < n) : NX P D i σ (b_R (a_call a_tab P D) kL_law [] (1949, [some (.ref 0), some (.ref 100), some (.ref 237), some (.ref 252), some (.int (nI i)), o5, o6, o7, none], [], σ)) := by
  obtain ⟨X, hl, sn, m, B, U, J⟩ := J
  have hb := hs.2.2
  have K := J.1
  have q1 : nI i + nI 1 = nI (i + 1) := nI_add _ _
  have a1 : a_in (nI (i + 1)) n := nIi (by omega) hb
  have c1 : Int32.toNatClampNeg (nI (i + 1)) = i + 1 := nIc (by omega)
  obtain ⟨f, τ, v, τ2, e1, h1, g1, e2, f2, l2, J2, G2⟩ := w_clean (P := P) (d := D) (x1 := (a_I σ 0 (i + 1))) (mid := 208) (args := [.ref 237, .int (a_I σ 0 (i + 1))]) (by omega) K.1 (PK.o J (s_clean H (by omega) K) (fun τ k => y_clean H (by omega) k) (hr0 fun x hx => ol_clean hx))
  have hs2 := g1.sc hs
  rw [b_L_law_1949 hs, q1, b_gd_t a1, c1, e1, g_v, b_L_law_1960 h1 hs2, q1, b_gd_t a1, c1, g1.1, e2, g_v, b_L_law_1972 J2.sh, y_thrown (by omega) J2.sh, g_v, b_L_law_1978 J2.sh, law_tail f2 l2, b_L_law_2002]
  exact ⟨τ2, _, _, _, rfl, J2, G2⟩
theorem nx_refill (H : Pm P) (hd : 40 ≤ D) (J : JJ σ) (hs : Sc σ n) (hi : i + 5 < n) : NX P D i σ (b_R (a_call a_tab P D) kL_law [] (2018, [some (.ref 0), some (.ref 100), some (.ref 237), some (.ref 252), some (.int (nI i)), o5, o6, o7, none], [], σ)) := by
  obtain ⟨X, hl, sn, m, B, U, J⟩ := J
  have hb := hs.2.2
  have K := J.1
  have q1 : nI i + nI 1 = nI (i + 1) := nI_add _ _
  have a1 : a_in (nI (i + 1)) n := nIi (by omega) hb
  have c1 : Int32.toNatClampNeg (nI (i + 1)) = i + 1 := nIc (by omega)
  have q2 : nI i + nI 2 = nI (i + 2) := nI_add _ _
  have a2 : a_in (nI (i + 2)) n := nIi (by omega) hb
  have c2 : Int32.toNatClampNeg (nI (i + 2)) = i + 2 := nIc (by omega)
  obtain ⟨f, τ, v, τ2, e1, h1, g1, e2, f2, l2, J2, G2⟩ := w_refill (P := P) (d := D) (x1 := (a_I σ 0 (i + 1))) (x2 := (a_I σ 0 (i + 2))) (mid := 211) (args := [.ref 237, .int (a_I σ 0 (i + 1)), .int (a_I σ 0 (i + 2))]) (by omega) K.1 (PK.o J (s_refill H (by omega) K) (fun τ k => y_refill (by omega) k) (hr2 fun x hx => ol_refill hx))
  have hs2 := g1.sc hs
  rw [b_L_law_2018 hs, q1, q2, b_gd_t a1, b_gd_t a2, c1, c2, e1, g_v, b_L_law_2035 h1 hs2, q1, q2, b_gd_t a1, b_gd_t a2, c1, c2, g1.1, g1.1, e2, g_v, b_L_law_2053 J2.sh, y_thrown (by omega) J2.sh, g_v, b_L_law_2059 J2.sh, law_tail f2 l2, b_L_law_2083]
  exact ⟨τ2, _, _, _, rfl, J2, G2⟩
theorem nx_setMost (H : Pm P) (hd : 40 ≤ D) (J : JJ σ) (hs : Sc σ n) (hi : i + 5 < n) : NX P D i σ (b_R (a_call a_tab P D) kL_law [] (2086, [some (.ref 0), some (.ref 100), some (.ref 237), some (.ref 252), some (.int (nI i)), o5, o6, o7, none], [], σ)) := by
  obtain ⟨X, hl, sn, m, B, U, J⟩ := J
  have hb := hs.2.2
  have K := J.1
  have q1 : nI i + nI 1 = nI (i + 1) := nI_add _ _
  have a1 : a_in (nI (i + 1)) n := nIi (by omega) hb
  have c1 : Int32.toNatClampNeg (nI (i + 1)) = i + 1 := nIc (by omega)
  obtain ⟨f, τ, v, τ2, e1, h1, g1, e2, f2, l2, J2, G2⟩ := w_setMost (P := P) (d := D) (x1 := (a_I σ 0 (i + 1))) (mid := 212) (args := [.ref 237, .int (a_I σ 0 (i + 1))]) (by omega) K.1 (PK.o J (s_setMost H (by omega) K) (fun τ k => y_setMost (by omega) k) (hr1 fun x hx => ol_setMost hx))
  have hs2 := g1.sc hs
  rw [b_L_law_2086 hs, q1, b_gd_t a1, c1, e1, g_v, b_L_law_2097 h1 hs2, q1, b_gd_t a1, c1, g1.1, e2, g_v, b_L_law_2109 J2.sh, y_thrown (by omega) J2.sh, g_v, b_L_law_2115 J2.sh, law_tail f2 l2, b_L_law_2139]
  exact ⟨τ2, _, _, _, rfl, J2, G2⟩
theorem nx_setTolerance (H : Pm P) (hd : 40 ≤ D) (J : JJ σ) (hs : Sc σ n) (hi : i + 5 < n) : NX P D i σ (b_R (a_call a_tab P D) kL_law [] (2142, [some (.ref 0), some (.ref 100), some (.ref 237), some (.ref 252), some (.int (nI i)), o5, o6, o7, none], [], σ)) := by
  obtain ⟨X, hl, sn, m, B, U, J⟩ := J
  have hb := hs.2.2
  have K := J.1
  have q1 : nI i + nI 1 = nI (i + 1) := nI_add _ _
  have a1 : a_in (nI (i + 1)) n := nIi (by omega) hb
  have c1 : Int32.toNatClampNeg (nI (i + 1)) = i + 1 := nIc (by omega)
  obtain ⟨f, τ, v, τ2, e1, h1, g1, e2, f2, l2, J2, G2⟩ := w_setTolerance (P := P) (d := D) (x1 := (a_I σ 0 (i + 1))) (mid := 213) (args := [.ref 237, .int (a_I σ 0 (i + 1))]) (by omega) K.1 (PK.o J (s_setTol H (by omega) K) (fun τ k => y_setTolerance (by omega) k) (hr1 fun x hx => ol_setTolerance hx))
  have hs2 := g1.sc hs
  rw [b_L_law_2142 hs, q1, b_gd_t a1, c1, e1, g_v, b_L_law_2153 h1 hs2, q1, b_gd_t a1, c1, g1.1, e2, g_v, b_L_law_2165 J2.sh, y_thrown (by omega) J2.sh, g_v, b_L_law_2171 J2.sh, law_tail f2 l2, b_L_law_2195]
  exact ⟨τ2, _, _, _, rfl, J2, G2⟩
theorem nx_format (H : Pm P) (hd : 40 ≤ D) (J : JJ σ) (hs : Sc σ n) (hi : i + 5 < n) : NX P D i σ (b_R (a_call a_tab P D) kL_law [] (2198, [some (.ref 0), some (.ref 100), some (.ref 237), some (.ref 252), some (.int (nI i)), o5, o6, o7, none], [], σ)) := by
  obtain ⟨X, hl, sn, m, B, U, J⟩ := J
  have hb := hs.2.2
  have K := J.1
  have q1 : nI i + nI 1 = nI (i + 1) := nI_add _ _
  have a1 : a_in (nI (i + 1)) n := nIi (by omega) hb
  have c1 : Int32.toNatClampNeg (nI (i + 1)) = i + 1 := nIc (by omega)
  obtain ⟨f, τ, v, τ2, e1, h1, g1, e2, f2, l2, J2, G2⟩ := w_format (P := P) (d := D) (x1 := (a_I σ 0 (i + 1))) (mid := 216) (args := [.ref 237, .int (a_I σ 0 (i + 1))]) (by omega) K.1 (PK.f H (by omega) J)
  have hs2 := g1.sc hs
  rw [b_L_law_2198 hs, q1, b_gd_t a1, c1, e1, g_v, b_L_law_2209 h1 hs2, q1, b_gd_t a1, c1, g1.1, e2, g_v, b_L_law_2221 J2.sh, y_thrown (by omega) J2.sh, g_v, b_L_law_2227 J2.sh, law_tail f2 l2, b_L_law_2251]
  exact ⟨τ2, _, _, _, rfl, J2, G2⟩
theorem nx_query (H : Pm P) (hd : 40 ≤ D) (J : JJ σ) (hs : Sc σ n) (hi : i + 5 < n) : NX P D i σ (b_R (a_call a_tab P D) kL_law [] (2329, [some (.ref 0), some (.ref 100), some (.ref 237), some (.ref 252), some (.int (nI i)), o5, o6, o7, none], [], σ)) := by
  obtain ⟨X, hl, sn, m, B, U, J⟩ := J
  have hb := hs.2.2
  have K := J.1
  have q1 : nI i + nI 1 = nI (i + 1) := nI_add _ _
  have a1 : a_in (nI (i + 1)) n := nIi (by omega) hb
  have c1 : Int32.toNatClampNeg (nI (i + 1)) = i + 1 := nIc (by omega)
  obtain ⟨f, τ, v, τ2, e1, h1, g1, e2, f2, l2, J2, G2⟩ := w_query (P := P) (d := D) (x1 := (a_I σ 0 (i + 1))) (mid := 268) (args := [.ref 237, .int (a_I σ 0 (i + 1))]) (by omega) K.1 (PK.t J (s_query H (by omega) K J.2.2.1) (fun τ k b => y_query H (by omega) k b) (fun x hx => ol_query hx))
  have hs2 := g1.sc hs
  rw [b_L_law_2329 hs, q1, b_gd_t a1, c1, e1, g_v, b_L_law_2340 h1 hs2, q1, b_gd_t a1, c1, g1.1, e2, g_v, b_L_law_2352 J2.sh, y_thrown (by omega) J2.sh, g_v, b_L_law_2358 J2.sh, law_tail f2 l2, b_L_law_2382]
  exact ⟨τ2, _, _, _, rfl, J2, G2⟩
end LWC
