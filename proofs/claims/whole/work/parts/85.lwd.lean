/-! the law: the cases with no wrapper -/
theorem E_a5 {i n : Nat} (hb : n < 2147483648) (hi : i + 5 < n) {j : Nat} (hj : j ≤ 5) : a_in (nI (i + j)) n ∧ Int32.toNatClampNeg (nI (i + j)) = i + j ∧ nI i + nI j = nI (i + j) := ⟨nIi (by omega) hb, nIc (by omega), nI_add _ _⟩
def FPd : Prop := ∀ X, Vd X → FP.f2d (z_brsh X) &&& 0x7fffffffffffffff ≤ 0x7ff0000000000000
section LWD
variable {P : aCall} {D i n : Nat} {σ : aSt} {o5 o6 o7 : Option Value}
theorem gr_hz {σ' : aSt} (m : Mz Hz σ σ') (c : Cz σ σ') : GR σ σ' := GR.of m (by rw [c.1, c.2]; omega) fun k => by unfold Hz SM; omega
theorem nx_feed (hd : 40 ≤ D) (J : JJ σ) (hs : Sc σ n) (hi : i + 5 < n) : NX P D i σ (b_R (a_call a_tab P D) kL_law [] (224, [some (.ref 0), some (.ref 100), some (.ref 237), some (.ref 252), some (.int (nI i)), o5, o6, o7, none], [], σ)) := by
  obtain ⟨X, hl, sn, m, B, U, J⟩ := J
  have K := J.1
  have hb := hs.2.2
  obtain ⟨a1, c1, q1⟩ := E_a5 hb hi (j := 1) (by decide)
  obtain ⟨a2, c2, q2⟩ := E_a5 hb hi (j := 2) (by decide)
  obtain ⟨a3, c3, q3⟩ := E_a5 hb hi (j := 3) (by decide)
  obtain ⟨a4, c4, q4⟩ := E_a5 hb hi (j := 4) (by decide)
  obtain ⟨a5, c5, q5⟩ := E_a5 hb hi (j := 5) (by decide)
  rw [b_L_law_224 K.1 hs, q1, q2, q3, q4, q5, b_gd_t a1, b_gd_t a2, b_gd_t a3, b_gd_t a4, b_gd_t a5, c1, c2, c3, c4, c5]
  rcases s_feed (P := P) (d := D) (x1 := a_I σ 0 (i + 1)) (x2 := a_I σ 0 (i + 2)) (x3 := a_I σ 0 (i + 3)) (x4 := a_I σ 0 (i + 4)) (x5 := a_I σ 0 (i + 5)) (by omega) K.1 J.2.2.1 with ⟨h1, σ1, e1, m1, b1⟩ | ⟨h1, e1⟩
  · have g1 : Gs σ σ1 := ⟨fun k => m1.I (by unfold S1; omega), by rw [m1.z.1]⟩
    have bm : KBm σ1 m B := J.2.2.2.1.z m1.z fun b k z => by unfold S1 at z; unfold Sb1; omega
    rcases y_feed (P := P) (d := D) (x1 := a_I σ 0 (i + 1)) (x2 := a_I σ 0 (i + 2)) (x3 := a_I σ 0 (i + 3)) (x4 := a_I σ 0 (i + 4)) (x5 := a_I σ 0 (i + 5)) (by omega) (m1.sh K.1) bm with ⟨-, σ2, e2, m2, b2⟩ | ⟨h2, -⟩
    rotate_left
    · exact absurd h1 h2
    rw [e1, g_v, b_L_law_258 (m1.sh K.1) (g1.sc hs), q1, q2, q3, q4, q5, b_gd_t a1, b_gd_t a2, b_gd_t a3, b_gd_t a4, b_gd_t a5, c1, c2, c3, c4, c5, g1.1, g1.1, g1.1, g1.1, g1.1, e2, g_v, b_L_law_292, if_pos rfl]
    have mm : Mz (fun b k => S1 b k ∨ Sb1 b k ∨ (b = 237 ∧ k = 6)) σ σ2 := (m1.z.mono fun b k z => .inl z).tr (m2.z.mono fun b k z => .inr z)
    refine ⟨σ2, o5, o6, o7, rfl, ⟨X, hl, sn, m + 20, _, U, K.z mm fun b k z => by unfold S1 Sb1 at z; unfold KP; omega, J.2.1.z mm fun b k z => by unfold S1 Sb1 at z; unfold Kf; omega, b1.z m2.z fun b k z => by unfold Sb1 at z; unfold S1; omega, b2, J.2.2.2.2.1.z mm fun b k z => by unfold S1 Sb1 at z; omega, J.2.2.2.2.2.1.z mm fun b k z => by unfold S1 Sb1 at z; unfold Sf; omega, ?_⟩, GR.of mm ?_ fun k => by unfold S1 Sb1; omega⟩
    · rw [mm.I (by unfold S1 Sb1; omega), mm.I (by unfold S1 Sb1; omega)]
      exact J.2.2.2.2.2.2
    · rw [m2.cz.1, m2.cz.2, m1.cz.1, m1.cz.2]
      omega
  · rcases y_feed (P := P) (d := D) (x1 := a_I σ 0 (i + 1)) (x2 := a_I σ 0 (i + 2)) (x3 := a_I σ 0 (i + 3)) (x4 := a_I σ 0 (i + 4)) (x5 := a_I σ 0 (i + 5)) (by omega) K.1 J.2.2.2.1 with ⟨h2, -⟩ | ⟨-, e2⟩
    · exact absurd h2 h1
    have m2 : Mo Hz σ (a_setI σ 237 6 (nI 0)) := Mo.set (by unfold Hz SM; omega)
    rw [e1, g_v, b_L_law_258 K.1 hs, q1, q2, q3, q4, q5, b_gd_t a1, b_gd_t a2, b_gd_t a3, b_gd_t a4, b_gd_t a5, c1, c2, c3, c4, c5, e2, g_v, b_L_law_292, if_pos rfl]
    exact ⟨_, o5, o6, o7, rfl, ⟨X, hl, sn, m, B, U, J.hz m2.z⟩, gr_hz m2.z m2.cz⟩
theorem nx_errorPosition (hd : 40 ≤ D) (J : JJ σ) : NX P D i σ (b_R (a_call a_tab P D) kL_law [] (353, [some (.ref 0), some (.ref 100), some (.ref 237), some (.ref 252), some (.int (nI i)), o5, o6, o7, none], [], σ)) := by
  obtain ⟨X, hl, sn, m, B, U, J⟩ := J
  have m2 : Mo Hz σ (a_setI σ 237 6 (nI 0)) := Mo.set (by unfold Hz SM; omega)
  refine ⟨a_setI σ 237 6 (nI 0), o5, o6, o7, ?_, ⟨X, hl, sn, m, B, U, J.hz m2.z⟩, gr_hz m2.z m2.cz⟩
  rw [b_L_law_353 J.1.1, s_errorPosition (by omega) J.1.1, g_v, b_L_law_357 J.1.1, y_errorPosition (by omega) J.1.1, g_v, b_L_law_361, if_pos J.2.2.2.2.2.2]
theorem SM.hz {b k : Nat} (z : SM b k) : Hz b k := .inr z
theorem nx_spare (hd : 40 ≤ D) (J : JJ σ) : NX P D i σ (b_R (a_call a_tab P D) kL_law [] (1438, [some (.ref 0), some (.ref 100), some (.ref 237), some (.ref 252), some (.int (nI i)), o5, o6, o7, none], [], σ)) := by
  obtain ⟨X, hl, sn, m, B, U, J⟩ := J
  obtain ⟨τ, e2, m2, -⟩ := y_spare (P := P) (d := D) (by omega) J.1.1 J.2.1.2.1 J.2.1.2.2.1
  have mh := m2.z.mono (T := Hz) fun b k z => z.hz
  refine ⟨τ, o5, o6, o7, ?_, ⟨X, hl, sn, m, B, U, J.hz mh⟩, gr_hz mh m2.cz⟩
  rw [b_L_law_1438 J.1.1, s_spare (by omega) J.1.1 J.1.2.1 J.1.2.2.1, g_v, b_L_law_1442 J.1.1, e2, g_v, b_L_law_1446, if_pos rfl]
theorem nx_closest (hd : 40 ≤ D) (J : JJ σ) : NX P D i σ (b_R (a_call a_tab P D) kL_law [] (1451, [some (.ref 0), some (.ref 100), some (.ref 237), some (.ref 252), some (.int (nI i)), o5, o6, o7, none], [], σ)) := by
  obtain ⟨X, hl, sn, m, B, U, J⟩ := J
  obtain ⟨τ, e2, m2, -⟩ := y_closest (P := P) (d := D) (by omega) J.1.1 J.2.1.2.1 J.2.1.2.2.1
  have mh := m2.z.mono (T := Hz) fun b k z => z.hz
  refine ⟨τ, o5, o6, o7, ?_, ⟨X, hl, sn, m, B, U, J.hz mh⟩, gr_hz mh m2.cz⟩
  rw [b_L_law_1451 J.1.1, s_closest (by omega) J.1.1 J.1.2.1 J.1.2.2.1, g_v, b_L_law_1455 J.1.1, e2, g_v, b_L_law_1459, if_pos rfl]
theorem nx_twins (hd : 40 ≤ D) (J : JJ σ) : NX P D i σ (b_R (a_call a_tab P D) kL_law [] (1464, [some (.ref 0), some (.ref 100), some (.ref 237), some (.ref 252), some (.int (nI i)), o5, o6, o7, none], [], σ)) := by
  obtain ⟨X, hl, sn, m, B, U, J⟩ := J
  obtain ⟨τ, e2, m2, -⟩ := y_twins (P := P) (d := D) (by omega) J.1.1 J.2.1.2.1 J.2.1.2.2.1
  have mh := m2.z.mono (T := Hz) fun b k z => z.hz
  refine ⟨τ, o5, o6, o7, ?_, ⟨X, hl, sn, m, B, U, J.hz mh⟩, gr_hz mh m2.cz⟩
  rw [b_L_law_1464 J.1.1, s_twins (by omega) J.1.1 J.1.2.1 J.1.2.2.1, g_v, b_L_law_1468 J.1.1, e2, g_v, b_L_law_1472, if_pos rfl]
theorem nx_meanDrops (F : FPk) (hd : 40 ≤ D) (J : JJ σ) : NX P D i σ (b_R (a_call a_tab P D) kL_law [] (1533, [some (.ref 0), some (.ref 100), some (.ref 237), some (.ref 252), some (.int (nI i)), o5, o6, o7, none], [], σ)) := by
  obtain ⟨X, hl, sn, m, B, U, J⟩ := J
  obtain ⟨τ, e2, m2⟩ := y_meanDrops (P := P) (d := D) F (by omega) J.1.1 J.2.1.2.1 J.2.1.2.2.1
  have mh := m2.z.mono (T := Hz) fun b k z => z.hz
  refine ⟨τ, some (.double (z_mean X)), none, some (.double (z_mean X)), ?_, ⟨X, hl, sn, m, B, U, J.hz mh⟩, gr_hz mh m2.cz⟩
  rw [b_L_law_1533 J.1.1, s_meanDrops F (by omega) J.1.1 J.1.2.1 J.1.2.2.1, g_v, b_L_law_1537 J.1.1, e2, g_v, b_L_law_1543]
  by_cases c : (Op.cmpValue (FP.dcmp (z_mean X) (z_mean X)) .l) = 0
  · rw [if_pos c, b_L_law_1571]
  · rw [if_neg c, if_neg c, if_neg c, b_L_law_1571]
theorem nx_brokenShare (F : FPk) (G : FPd) (hd : 40 ≤ D) (J : JJ σ) : NX P D i σ (b_R (a_call a_tab P D) kL_law [] (1574, [some (.ref 0), some (.ref 100), some (.ref 237), some (.ref 252), some (.int (nI i)), o5, o6, o7, none], [], σ)) := by
  obtain ⟨X, hl, sn, m, B, U, J⟩ := J
  obtain ⟨τ, e2, m2⟩ := y_brokenShare (P := P) (d := D) F (by omega) J.1.1 J.2.1.2.1 J.2.1.2.2.1
  have mh := m2.z.mono (T := Hz) fun b k z => z.hz
  have G := G X J.1.2.2.1
  refine ⟨τ, some (.double (FP.f2d (z_brsh X))), none, some (.double (FP.f2d (z_brsh X))), ?_, ⟨X, hl, sn, m, B, U, J.hz mh⟩, gr_hz mh m2.cz⟩
  rw [b_L_law_1574 J.1.1, s_brokenShare F (by omega) J.1.1 J.1.2.1 J.1.2.2.1, g_v, b_L_law_1578 J.1.1, b_gd_t G, e2, g_v, b_L_law_1585, b_gd_t G]
  by_cases c : (Op.cmpValue (FP.dcmp (FP.f2d (z_brsh X)) (FP.f2d (z_brsh X))) .l) = 0
  · rw [if_pos c, b_L_law_1614]
  · rw [if_neg c, if_neg c, if_neg c, b_L_law_1614]
theorem gr_so {σ1 σ2 : aSt} {S T : Nat → Nat → Prop} (m1 : Mz S σ σ1) (m2 : Mz T σ1 σ2) (c1 : Cz σ σ1) (c2 : Cz σ1 σ2) (h1 : ∀ k, ¬ S 0 k) (h2 : ∀ k, ¬ T 0 k) : GR σ σ2 := GR.of ((m1.mono (T := fun b k => S b k ∨ T b k) fun b k z => .inl z).tr (m2.mono fun b k z => .inr z)) (by rw [c2.1, c2.2, c1.1, c1.2]; omega) fun k z => z.elim (h1 k) (h2 k)
theorem so0 (k : Nat) : ¬ SO 0 k := by unfold SO; omega
theorem sm0 (k : Nat) : ¬ Sm 0 k := by unfold Sm; omega
theorem nx_change (H : Pm P) (hd : 40 ≤ D) (J : JJ σ) : NX P D i σ (b_R (a_call a_tab P D) kL_law [] (2005, [some (.ref 0), some (.ref 100), some (.ref 237), some (.ref 252), some (.int (nI i)), o5, o6, o7, none], [], σ)) := by
  obtain ⟨X, hl, sn, m, B, U, J⟩ := J
  obtain ⟨σ1, e1, m1, K1⟩ := s_change (P := P) (d := D) H (by omega) J.1
  obtain ⟨σ2, e2, m2, K2, -⟩ := y_change (P := P) (d := D) (by omega) (J.2.1.so m1.z)
  refine ⟨σ2, o5, o6, o7, ?_, ⟨_, _, sn, m, B, U, J.op2 m1.z K1 m2.z K2⟩, gr_so m1.z m2.z m1.cz m2.cz so0 sm0⟩
  rw [b_L_law_2005 J.1.1, e1, g_v, b_L_law_2009 K1.1, e2, g_v, b_L_law_2013, if_pos rfl]
theorem nx_undoCount (hd : 40 ≤ D) (J : JJ σ) : NX P D i σ (b_R (a_call a_tab P D) kL_law [] (2279, [some (.ref 0), some (.ref 100), some (.ref 237), some (.ref 252), some (.int (nI i)), o5, o6, o7, none], [], σ)) := by
  obtain ⟨X, hl, sn, m, B, U, J⟩ := J
  have m2 : Mo Hz σ (a_setI σ 237 6 (nI 0)) := Mo.set (by unfold Hz SM; omega)
  refine ⟨a_setI σ 237 6 (nI 0), o5, o6, o7, ?_, ⟨X, hl, sn, m, B, U, J.hz m2.z⟩, gr_hz m2.z m2.cz⟩
  rw [b_L_law_2279 J.1.1, s_undoCount (by omega) J.1, g_v, b_L_law_2283 J.1.1, (y_undoCount (by omega) J.2.1).1, g_v, b_L_law_2287, if_pos rfl]
theorem nx_formattedByte (H : Pm P) (hd : 40 ≤ D) (J : JJ σ) (hs : Sc σ n) (hi : i + 5 < n) : NX P D i σ (b_R (a_call a_tab P D) kL_law [] (2254, [some (.ref 0), some (.ref 100), some (.ref 237), some (.ref 252), some (.int (nI i)), o5, o6, o7, none], [], σ)) := by
  obtain ⟨X, hl, sn, m, B, U, J⟩ := J
  obtain ⟨a1, c1, q1⟩ := E_a5 hs.2.2 hi (j := 1) (by decide)
  have m2 : Mo Hz σ (a_setI σ 237 6 (nI 0)) := Mo.set (by unfold Hz SM; omega)
  refine ⟨a_setI σ 237 6 (nI 0), o5, o6, o7, ?_, ⟨X, hl, sn, m, B, U, J.hz m2.z⟩, gr_hz m2.z m2.cz⟩
  rw [b_L_law_2254 J.1.1 hs, q1, b_gd_t a1, c1, s_formattedByte H (by omega) J.1.1 J.2.2.2.2.1, g_v, b_L_law_2264 J.1.1 hs, q1, b_gd_t a1, c1, y_formattedByte (by omega) J.1.1 J.2.2.2.2.2.1, g_v, b_L_law_2274, if_pos rfl]
theorem S9u.so {b k : Nat} (z : S9u b k) : SO b k := by unfold S9u Sp at z; unfold SO; omega
theorem nx_undo (H : Pm P) (hd : 40 ≤ D) (J : JJ σ) : NX P D i σ (b_R (a_call a_tab P D) kL_law [] (2292, [some (.ref 0), some (.ref 100), some (.ref 237), some (.ref 252), some (.int (nI i)), o5, o6, o7, none], [], σ)) := by
  obtain ⟨X, hl, sn, m, B, U, J⟩ := J
  have hc := s_undo (P := P) (d := D) H (by omega) J.1
  cases hl with
  | nil =>
    have hc : a_call a_tab P D 130 [.ref 100] σ = some (.inl (some (.int (-1))), σ) := hc
    obtain ⟨σ2, e2, m2, K2⟩ := y_undo (P := P) (d := D) (by omega) J.2.1
    refine ⟨σ2, o5, o6, o7, ?_, ⟨X, [], sn, m, B, U, J.op2 (Mz.rf) J.1 m2.z K2⟩, gr_so (S := SO) Mz.rf m2.z ⟨rfl, rfl⟩ m2.cz so0 sm0⟩
    rw [b_L_law_2292 J.1.1, hc, g_v, b_L_law_2296 J.1.1, e2, g_v, b_L_law_2300, if_pos rfl]
  | cons Y l =>
    obtain ⟨σ1, e1, m1, K1⟩ := hc
    have m1 := m1.mono (S' := SO) fun b k z => z.so
    obtain ⟨σ2, e2, m2, K2⟩ := y_undo (P := P) (d := D) (by omega) (J.2.1.so m1.z)
    refine ⟨σ2, o5, o6, o7, ?_, ⟨Y, l, sn, m, B, U, J.op2 m1.z K1 m2.z K2⟩, gr_so m1.z m2.z m1.cz m2.cz so0 sm0⟩
    rw [b_L_law_2292 J.1.1, e1, g_v, b_L_law_2296 K1.1, e2, g_v, b_L_law_2300, if_pos rfl]
theorem nx_save (H : Pm P) (hd : 40 ≤ D) (J : JJ σ) : NX P D i σ (b_R (a_call a_tab P D) kL_law [] (2305, [some (.ref 0), some (.ref 100), some (.ref 237), some (.ref 252), some (.int (nI i)), o5, o6, o7, none], [], σ)) := by
  obtain ⟨X, hl, sn, m, B, U, J⟩ := J
  obtain ⟨σ1, e1, m1, K1⟩ := s_save (P := P) (d := D) H (by omega) J.1
  have m1 := m1.mono (S' := SO) fun b k z => by unfold Sp at z; unfold SO; omega
  obtain ⟨σ2, e2, m2, K2⟩ := y_save (P := P) (d := D) (by omega) (J.2.1.so m1.z)
  refine ⟨σ2, o5, o6, o7, ?_, ⟨_, _, _, m, B, U, J.op2 m1.z K1 m2.z K2⟩, gr_so m1.z m2.z m1.cz m2.cz so0 sm0⟩
  rw [b_L_law_2305 J.1.1, e1, g_n, b_L_law_2309 K1.1, e2, g_n, b_L_law_2313]
theorem nx_restore (H : Pm P) (hd : 40 ≤ D) (J : JJ σ) : NX P D i σ (b_R (a_call a_tab P D) kL_law [] (2316, [some (.ref 0), some (.ref 100), some (.ref 237), some (.ref 252), some (.int (nI i)), o5, o6, o7, none], [], σ)) := by
  obtain ⟨X, hl, sn, m, B, U, J⟩ := J
  have hc := s_restore (P := P) (d := D) H (by omega) J.1
  cases sn with
  | none =>
    have hc : a_call a_tab P D 132 [.ref 100] σ = some (.inl (some (.int (nI 0))), σ) := hc
    obtain ⟨σ2, e2, m2, K2⟩ := y_restore (P := P) (d := D) (by omega) J.2.1
    refine ⟨σ2, o5, o6, o7, ?_, ⟨X, hl, none, m, B, U, J.op2 (Mz.rf) J.1 m2.z K2⟩, gr_so (S := SO) Mz.rf m2.z ⟨rfl, rfl⟩ m2.cz so0 sm0⟩
    rw [b_L_law_2316 J.1.1, hc, g_v, b_L_law_2320 J.1.1, e2, g_v, b_L_law_2324, if_pos rfl]
  | some Y =>
    obtain ⟨σ1, e1, m1, K1⟩ := hc
    have m1 := m1.mono (S' := SO) fun b k z => z.so
    obtain ⟨σ2, e2, m2, K2⟩ := y_restore (P := P) (d := D) (by omega) (J.2.1.so m1.z)
    refine ⟨σ2, o5, o6, o7, ?_, ⟨Y, [], some Y, m, B, U, J.op2 m1.z K1 m2.z K2⟩, gr_so m1.z m2.z m1.cz m2.cz so0 sm0⟩
    rw [b_L_law_2316 J.1.1, e1, g_v, b_L_law_2320 K1.1, e2, g_v, b_L_law_2324, if_pos rfl]
end LWD
