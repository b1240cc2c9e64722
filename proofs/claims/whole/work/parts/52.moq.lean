/-! the model: questions -/
def SM (b k : Nat) : Prop := b = 242 ∨ b = 243 ∨ b = 244 ∨ b = 245 ∨ (b = 237 ∧ (k = 6 ∨ k = 10 ∨ (13 ≤ k ∧ k ≤ 16)))
/-- how a question of the model ends: with an answer, or 0 and what the class throws, plus 1 -/
def OM (c : Option (aRes × aSt)) (σ : aSt) (r : Nat ⊕ Int32) : Prop := match r with
  | .inl x => ∃ σ', c = some (.inl (some (.int (nI 0))), σ') ∧ Mo SM σ σ' ∧ a_I σ' 237 6 = nI (x + 1)
  | .inr v => ∃ σ', c = some (.inl (some (.int v)), σ') ∧ Mo SM σ σ' ∧ a_I σ' 237 6 = nI 0
theorem MC.sm {σ σ' : aSt} {w : Nat} {X : Pal} (M : MC σ w X) (m : Mo SM σ σ') : MC σ' w X := M.mo m fun k z => by have := M.2.1; have := M.2.2.1; unfold SM at z; omega
theorem Mo.s6 {σ : aSt} {v : Int32} : Mo SM σ (a_setI σ 237 6 v) := Mo.set (by unfold SM; omega)
section MOQ
variable {P : aCall} {d : Nat} {σ : aSt} {X : Pal} {w : Nat} {x y z : Int32}
theorem y_lacksT (hd : 1 ≤ d) (h : Sh σ) : a_call a_tab P d 148 [.ref 237, .int (nI 1)] σ = some (.inl (some (.int (nI 0))), a_setI σ 237 6 (nI 0)) := y_lacks (b := true) hd h
theorem y_lacksF (hd : 1 ≤ d) (h : Sh σ) : a_call a_tab P d 148 [.ref 237, .int (nI 0)] σ = some (.inl (some (.int (nI 1))), a_setI σ 237 6 (nI 1)) := y_lacks (b := false) hd h
theorem y_whatT (hd : 1 ≤ d) {t n : Nat} (hn : n < 2147483648) (ht : t < n + 1) : a_call a_tab P d 147 [.int (nI t), .int (nI 0), .int (nI n)] σ = some (.inl (some (.int (nI 1))), σ) := by
  rw [y_inR hd (by decide) hn, o_of (by omega), decide_eq_true ⟨Nat.zero_le _, by omega⟩]
  rfl
theorem y_whatF (hd : 1 ≤ d) {t n : Nat} (hn : n < 2147483648) (hx : o_nat x = t) (ht : ¬ t < n + 1) : a_call a_tab P d 147 [.int x, .int (nI 0), .int (nI n)] σ = some (.inl (some (.int (nI 0))), σ) := by
  rw [y_inR hd (by decide) hn, hx, decide_eq_false fun z => ht (by omega)]
  rfl
theorem y_size (hd : 5 ≤ d) (h : Sh σ) (M : MC σ w X) (V : Vd X) : OM (a_call a_tab P d 178 [.ref 237, .int x] σ) σ (o_size X x) := by
  obtain ⟨k, rfl, hk⟩ := o_ex x
  have h1 := (Mo.s6 (σ := σ) (v := nI 0)).sh h
  have M1 : MC (a_setI σ 237 6 (nI 0)) w X := M.sm Mo.s6
  obtain ⟨c0, c1, c2, c3, c4, c5, c6⟩ := M1.2.2.2.1
  unfold o_size
  rw [hk, n_X8_size (by omega), b_X8_size_0 h]
  by_cases hk1 : k < 10
  · rw [if_pos hk1]
    refine ⟨a_setI σ 237 6 (nI 0), ?_, Mo.s6, a_I_at⟩
    obtain rfl | rfl | rfl | rfl | rfl | rfl | rfl | rfl | rfl | rfl : k = 0 ∨ k = 1 ∨ k = 2 ∨ k = 3 ∨ k = 4 ∨ k = 5 ∨ k = 6 ∨ k = 7 ∨ k = 8 ∨ k = 9 := by omega
    · rw [show b_tsw 6 95 0 9 #[54, 61, 66, 73, 78, 78, 78, 78, 78, 89] (nI 0) = 60 from by decide +kernel, b_X8_size_60 h1 M1.1, b_gd_t (nIi (by decide) (by decide)), nIc (by decide), c0]; rfl
    · rw [show b_tsw 6 95 0 9 #[54, 61, 66, 73, 78, 78, 78, 78, 78, 89] (nI 1) = 67 from by decide +kernel, b_X8_size_67 h1, y_tubesInUse (by omega) h1 M1 V, g_v, b_X8_size_71]; rfl
    · rw [show b_tsw 6 95 0 9 #[54, 61, 66, 73, 78, 78, 78, 78, 78, 89] (nI 2) = 72 from by decide +kernel, b_X8_size_72 h1 M1.1, b_gd_t (nIi (by decide) (by decide)), nIc (by decide), c1]; rfl
    · rw [show b_tsw 6 95 0 9 #[54, 61, 66, 73, 78, 78, 78, 78, 78, 89] (nI 3) = 79 from by decide +kernel, b_X8_size_79 h1, y_broken (by omega) h1 M1 V, g_v, b_X8_size_83]; rfl
    · rw [show b_tsw 6 95 0 9 #[54, 61, 66, 73, 78, 78, 78, 78, 78, 89] (nI 4) = 84 from by decide +kernel, b_X8_size_84 h1 M1.1, show (nI 2 + nI 4 - nI 4 : Int32) = nI 2 from by decide, b_gd_t (nIi (by decide) (by decide)), nIc (by decide), c2]; rfl
    · rw [show b_tsw 6 95 0 9 #[54, 61, 66, 73, 78, 78, 78, 78, 78, 89] (nI 5) = 84 from by decide +kernel, b_X8_size_84 h1 M1.1, show (nI 2 + nI 5 - nI 4 : Int32) = nI 3 from by decide, b_gd_t (nIi (by decide) (by decide)), nIc (by decide), c3]; rfl
    · rw [show b_tsw 6 95 0 9 #[54, 61, 66, 73, 78, 78, 78, 78, 78, 89] (nI 6) = 84 from by decide +kernel, b_X8_size_84 h1 M1.1, show (nI 2 + nI 6 - nI 4 : Int32) = nI 4 from by decide, b_gd_t (nIi (by decide) (by decide)), nIc (by decide), c4]; rfl
    · rw [show b_tsw 6 95 0 9 #[54, 61, 66, 73, 78, 78, 78, 78, 78, 89] (nI 7) = 84 from by decide +kernel, b_X8_size_84 h1 M1.1, show (nI 2 + nI 7 - nI 4 : Int32) = nI 5 from by decide, b_gd_t (nIi (by decide) (by decide)), nIc (by decide), c5]; rfl
    · rw [show b_tsw 6 95 0 9 #[54, 61, 66, 73, 78, 78, 78, 78, 78, 89] (nI 8) = 84 from by decide +kernel, b_X8_size_84 h1 M1.1, show (nI 2 + nI 8 - nI 4 : Int32) = nI 6 from by decide, b_gd_t (nIi (by decide) (by decide)), nIc (by decide), c6]; rfl
    · rw [show b_tsw 6 95 0 9 #[54, 61, 66, 73, 78, 78, 78, 78, 78, 89] (nI 9) = 95 from by decide +kernel, b_X8_size_95 h1, show a_call a_tab P (d - 1) 177 [.ref 237, .int (nI 0)] (a_setI σ 237 6 (nI 0)) = _ from y_allDrops (b := false) (by omega) h1 M1 V, g_v, b_X8_size_100]; rfl
  · rw [if_neg hk1]
    refine ⟨a_setI (a_setI σ 237 6 (nI 0)) 237 6 (nI 1), ?_, Mo.s6.tr Mo.s6, a_I_at⟩
    have e : b_tsw 6 95 0 9 #[54, 61, 66, 73, 78, 78, 78, 78, 78, 89] (nI k) = 101 := by
      unfold b_tsw
      have hk3 : o_nat (nI k) < 2 ^ 32 := (nI k).toBitVec.isLt
      rw [hk] at hk3
      rw [if_pos (by rw [o_int, hk]; split <;> omega)]
      rfl
    rw [e, b_X8_size_101 h1, y_raise (by omega) h1, g_v, b_X8_size_106]
theorem y_tube (hd : 5 ≤ d) (h : Sh σ) (M : MC σ w X) (V : Vd X) : OM (a_call a_tab P d 179 [.ref 237, .int x, .int y] σ) σ (o_tube X x y) := by
  have h20 := V.1.1
  obtain ⟨t, rfl, ht⟩ := o_ex x
  obtain ⟨k, rfl, hk⟩ := o_ex y
  have h1 := fun v => (Mo.s6 (σ := σ) (v := v)).sh h
  have M1 : MC (a_setI σ 237 6 (nI 0)) w X := M.sm Mo.s6
  unfold o_tube
  rw [ht, hk, n_X8_tube (by omega), b_X8_tube_0 h, y_isTube (by omega) h M V, g_v, b_X8_tube_6, ht]
  by_cases c1 : t < X.1 0
  · rw [if_pos c1, decide_eq_true c1, if_neg (show ¬ b_n true = 0 by decide)]
    by_cases c2 : k < 6
    · rw [if_pos c2, y_whatT (by omega) (by decide) c2, g_v, b_X8_tube_15, if_neg (by decide), b_X8_tube_23 h, y_lacksT (by omega) h, g_v, b_X8_tube_26 (h1 _), if_pos (show nI 0 = 0 from rfl)]
      refine ⟨a_setI σ 237 6 (nI 0), ?_, Mo.s6, a_I_at⟩
      obtain ⟨f1, f2, f3, -⟩ := M1.2.2.2.2.1 t c1
      unfold z_tube
      by_cases c5 : k = 5
      · subst c5
        rw [if_pos (show nI 5 = nI 5 from rfl), y_users (by omega) (h1 _) M1 V (by omega), g_v, b_X8_tube_41, b_X8_tube_50]
        rfl
      · rw [if_neg (fun z => c5 ((o_eq (by omega) (by decide)).mp z)), y_ofTube (by omega) (h1 _) M1.1 (by omega) (by omega), g_v, b_X8_tube_50]
        obtain c3 | rfl | rfl : k < 3 ∨ k = 3 ∨ k = 4 := by omega
        · rw [f1 k c3, if_neg (by omega), if_neg (by omega), if_neg (by omega)]
        · rw [f2]; rfl
        · rw [f3]; rfl
    · rw [if_neg c2, y_whatF (by omega) (by decide) hk c2, g_v, b_X8_tube_15, if_pos (by decide), b_X8_tube_22, b_X8_tube_23 h, y_lacksF (by omega) h, g_v, b_X8_tube_26 (h1 _), if_neg (by decide)]
      exact ⟨_, rfl, Mo.s6, a_I_at⟩
  · rw [if_neg c1, decide_eq_false c1, if_pos (show b_n false = 0 by decide), b_X8_tube_22, b_X8_tube_23 h, y_lacksF (by omega) h, g_v, b_X8_tube_26 (h1 _), if_neg (by decide)]
    exact ⟨_, rfl, Mo.s6, a_I_at⟩
end MOQ
