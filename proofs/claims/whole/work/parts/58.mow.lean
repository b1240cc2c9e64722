/-! the model: the nearest mix -/
def z_Uf (X : Pal) (t : Nat) : List Nat := (List.range' t (X.1 0 - t)).filter (z_use X)
theorem z_Uf0 (X : Pal) : z_Uf X 0 = z_U X := by
  unfold z_Uf z_U
  rw [List.range_eq_range']
  rfl
theorem z_Uf_end {X : Pal} {t : Nat} (h : X.1 0 ≤ t) : z_Uf X t = [] := by
  unfold z_Uf
  rw [show X.1 0 - t = 0 by omega]
  rfl
theorem z_Uf_s {X : Pal} {t : Nat} (h : t < X.1 0) : z_Uf X t = if z_use X t = true then t :: z_Uf X (t + 1) else z_Uf X (t + 1) := by
  unfold z_Uf
  obtain ⟨k, hk⟩ : ∃ k, X.1 0 - t = k + 1 := ⟨X.1 0 - t - 1, by omega⟩
  rw [hk, show X.1 0 - (t + 1) = k by omega, List.range'_succ, List.filter_cons]
theorem z_getLn {ch : List Nat} {t : Nat} : (ch ++ [t]).getD ch.length 0 = t := by
  rw [List.getD_eq_getElem?_getD, List.getElem?_append_right (Nat.le_refl _), Nat.sub_self]
  rfl
theorem z_getAn {ch : List Nat} {t i : Nat} (h : i < ch.length) : (ch ++ [t]).getD i 0 = ch.getD i 0 := by
  rw [List.getD_eq_getElem?_getD, List.getD_eq_getElem?_getD, List.getElem?_append_left h]
section MOW
variable {P : aCall} {X : Pal} {w aim : Nat}
theorem y_choose (V : Vd X) (ha : aim ≤ 16777215) {tot : Nat} (h6 : tot ≤ 6) : ∀ (n : Nat) (d : Nat) (σ : aSt) (ch : List Nat) (fr : Nat) (s : Option Cnd), 10 + n ≤ d → Sh σ → MC σ w X → a_I σ 237 16 = nI aim → 1 ≤ ch.length + n → ch.length + n ≤ 3 → ch.length + n ≤ tot → a_I σ 237 10 = nI (ch.length + n) → IN σ 0 ch → (∀ t, t ∈ ch → t < X.1 0 ∧ z_use X t = true) → fr ≤ X.1 0 → SB σ X aim s →
    ∃ σ', a_call a_tab P d 175 [.ref 237, .int (nI ch.length), .int (nI fr), .int (nI tot)] σ = some (.inl none, σ') ∧ Mo (Sx ch.length) σ σ' ∧ SB σ' X aim (z_cho X aim tot n (z_Uf X fr) ch s)
  | 0, d, σ, ch, fr, s, hd, h, M, e16, h1, h3, ht, e10, hin, hok, hf, B => by
    have h1 : 1 ≤ ch.length := h1
    have h3 : ch.length ≤ 3 := h3
    have e10 : a_I σ 237 10 = nI ch.length := e10
    have ht : ch.length ≤ tot := ht
    obtain ⟨s1, e1, m1, B1⟩ := y_share (P := P) V ha ch (d - 1) σ [] tot s (by omega) h M e16 h1 (by show 0 + ch.length ≤ 3; omega) (by show _ = nI (0 + ch.length); rw [Nat.zero_add]; exact e10) (fun i hi => absurd hi (Nat.not_lt_zero _)) hin (fun q hq => absurd hq List.not_mem_nil) hok ht (by show 0 + tot ≤ 6; omega) B
    refine ⟨s1, ?_, m1.mono (fun b k z => z.elim (fun q => .inr (.inl q.1)) (fun q => .inr (.inr q))), ?_⟩
    · rw [n_X8_choose (by omega), b_X8_choose_0 h, e10, if_pos rfl]
      show b_G _ _ _ _ _ _ _ (a_call a_tab P (d - 1) 174 [.ref 237, .int (nI ([] : Cnd).length), .int (nI tot)] σ) = _
      rw [e1, g_n, b_X8_choose_14]
    · unfold z_cho
      exact B1
  | n + 1, d, σ, ch, fr, s, hd, h, M, e16, h1, h3, ht, e10, hin, hok, hf, B => by
    have h20 := V.1.1
    have loop : ∀ k t s τ, t + k = X.1 0 → Mo (Sx ch.length) σ τ → SB τ X aim s → ∃ σ', b_R (a_call a_tab P (d - 1)) kX8_choose [] (18, [some (.ref 237), some (.int (nI ch.length)), some (.int (nI fr)), some (.int (nI tot)), some (.int (nI t))], [], τ) = some (.inl none, σ') ∧ Mo (Sx ch.length) σ σ' ∧ SB σ' X aim (z_cho X aim tot (n + 1) (z_Uf X t) ch s) := by
      intro k
      induction k with
      | zero =>
        intro t s τ htk m1 B1
        have M2 : MC τ w X := M.mo m1 fun k z => by have := M.2.1; have := M.2.2.1; unfold Sx Sw at z; omega
        refine ⟨τ, ?_, m1, ?_⟩
        · rw [b_X8_choose_18 (m1.sh h) M2.1, b_gd_t (nIi (by decide) (by decide)), show a_I τ w (Int32.toNatClampNeg (nI 0)) = nI (X.1 0) from M2.2.2.2.1.1, if_neg (nIn (by omega) (by omega))]
        · rw [z_Uf_end (by omega)]
          unfold z_cho
          exact B1
      | succ k ih =>
        intro t s τ htk m1 B1
        have htl : t < X.1 0 := by omega
        have hh := m1.sh h
        have M2 : MC τ w X := M.mo m1 fun k z => by have := M.2.1; have := M.2.2.1; unfold Sx Sw at z; omega
        obtain ⟨-, -, f4, -⟩ := M2.2.2.2.2.1 t htl
        have st : b_R (a_call a_tab P (d - 1)) kX8_choose [] (18, [some (.ref 237), some (.int (nI ch.length)), some (.int (nI fr)), some (.int (nI tot)), some (.int (nI t))], [], τ) = if nI (z_1 (z_use X t)) = nI 1 then b_G (a_call a_tab P (d - 1)) kX8_choose [] 57 60 [some (.ref 237), some (.int (nI ch.length)), some (.int (nI fr)), some (.int (nI tot)), some (.int (nI t))] [] (a_call a_tab P (d - 1) 175 [.ref 237, .int (nI (ch.length + 1)), .int (nI (t + 1)), .int (nI tot)] (a_setI τ 242 ch.length (nI t))) else b_R (a_call a_tab P (d - 1)) kX8_choose [] (18, [some (.ref 237), some (.int (nI ch.length)), some (.int (nI fr)), some (.int (nI tot)), some (.int (nI (t + 1)))], [], τ) := by
          rw [b_X8_choose_18 hh M2.1, b_gd_t (nIi (by decide) (by decide)), show a_I τ w (Int32.toNatClampNeg (nI 0)) = nI (X.1 0) from M2.2.2.2.1.1, if_pos (nIl htl (by omega)), y_ofTube (by omega) hh M2.1 (by omega) (by decide), g_v, f4, b_X8_choose_36 hh, b_gd_t (nIi (by omega) (by decide)), nIc (by omega), b_X8_choose_60, nI_add, nI_add]
        rw [st, z_Uf_s htl]
        cases hu : z_use X t with
        | false =>
          rw [if_neg (show ¬ nI (z_1 false) = nI 1 by decide), if_neg (by decide)]
          exact ih (t + 1) s τ (by omega) m1 B1
        | true =>
          rw [if_pos (show nI (z_1 true) = nI 1 from rfl), if_pos rfl]
          have m2 : Mo (Sx ch.length) τ (a_setI τ 242 ch.length (nI t)) := Mo.set (.inl ⟨rfl, Nat.le_refl _⟩)
          have m3 := m1.tr m2
          have la : (ch ++ [t]).length = ch.length + 1 := by rw [List.length_append]; rfl
          obtain ⟨s2, e2, m4, B2⟩ := y_choose V ha h6 n (d - 1) (a_setI τ 242 ch.length (nI t)) (ch ++ [t]) (t + 1) s (by omega) (m3.sh h) (M.mo m3 fun k z => by have := M.2.1; have := M.2.2.1; unfold Sx Sw at z; omega) (by rw [m3.I (by unfold Sx Sw; omega)]; exact e16) (by rw [la]; omega) (by rw [la]; omega) (by rw [la]; omega) (by rw [m3.I (by unfold Sx Sw; omega), e10, la]; exact congrArg nI (by omega))
            (fun j hj => by
              rw [la] at hj
              rw [Nat.zero_add]
              by_cases hja : j = ch.length
              · subst hja
                rw [z_getLn]
                exact a_I_at
              · rw [z_getAn (by omega), m3.I (by unfold Sx Sw; omega)]
                have := hin j (by omega)
                rw [Nat.zero_add] at this
                exact this)
            (fun q hq => by
              rcases List.mem_append.mp hq with hq | hq
              · exact hok q hq
              · rw [List.mem_singleton.mp hq]; exact ⟨htl, hu⟩) (by omega) (B1.mo (S := fun b _ => b = 242) (Mo.set rfl) fun b k z => by subst z; unfold Sw; omega)
          rw [la] at e2 m4
          rw [e2, g_n, b_X8_choose_60, nI_add]
          have m5 := m3.tr (m4.mono fun b k (z : Sx (ch.length + 1) b k) => z.elim (fun q => (.inl ⟨q.1, by omega⟩ : Sx ch.length b k)) .inr)
          obtain ⟨s3, e3, m6, B3⟩ := ih (t + 1) _ s2 (by omega) m5 B2
          refine ⟨s3, e3, m6, ?_⟩
          rw [show z_cho X aim tot (n + 1) (t :: z_Uf X (t + 1)) ch s = z_cho X aim tot (n + 1) (z_Uf X (t + 1)) ch (z_cho X aim tot n (z_Uf X (t + 1)) (ch ++ [t]) s) from by rw [z_cho]]
          exact B3
    obtain ⟨s1, e1, m1, B1⟩ := loop (X.1 0 - fr) fr s σ (by omega) Mo.rf B
    refine ⟨s1, ?_, m1, B1⟩
    rw [n_X8_choose (by omega), b_X8_choose_0 h, e10, if_neg (fun z => by have := (o_eq (by omega) (by omega)).mp z; omega)]
    exact e1
theorem y_findNearest {d : Nat} {σ : aSt} (hd : 15 ≤ d) (h : Sh σ) (M : MC σ w X) (V : Vd X) (ha : aim ≤ 16777215) {k : Nat} (hk : k ≤ 3) : ∃ σ', a_call a_tab P d 176 [.ref 237, .int (nI aim), .int (nI k)] σ = some (.inl none, σ') ∧ Mo Yn σ σ' ∧ SB σ' X aim (z_near X aim k) := by
  have h4 := V.2.2.2.1
  have m0 : Mo Yn σ (a_setI (a_setI (a_setI σ 237 16 (nI aim)) 237 14 (-1)) 237 13 (nI 0)) := ((Mo.set (by unfold Yn Sw; omega)).then_set (by unfold Yn Sw; omega)).then_set (by unfold Yn Sw; omega)
  have MS : ∀ {τ : aSt}, Mo Yn σ τ → MC τ w X := fun m => M.mo m fun k z => by have := M.2.1; have := M.2.2.1; unfold Yn Sw at z; omega
  obtain ⟨o', s', ⟨m1, -, B1⟩, e⟩ := up_sq (J := fun s τ => Mo Yn σ τ ∧ a_I τ 237 16 = nI aim ∧ SB τ X aim s) (run := fun i (s : Option Cnd) (o : Option Value) τ => b_R (a_call a_tab P (d - 1)) kX8_findNearest [] (17, [some (.ref 237), some (.int (nI aim)), some (.int (nI k)), some (.int (nI i)), o], [], τ)) (F := fun n s => z_ph X aim n s) (lo := 1) (n := k + 1)
    (fun n s o τ hlo hn ⟨m1, e16, B1⟩ => by
      obtain ⟨o2, s2, ⟨m2, f16, B2⟩, e2⟩ := up_sq (J := fun s τ => Mo Yn σ τ ∧ a_I τ 237 16 = nI aim ∧ SB τ X aim s) (run := fun i (s : Option Cnd) (o : Unit) τ => b_R (a_call a_tab P (d - 1)) kX8_findNearest [] (25, [some (.ref 237), some (.int (nI aim)), some (.int (nI k)), some (.int (nI n)), some (.int (nI i))], [], τ)) (F := fun tot s => z_cho X aim tot n (z_U X) [] s) (lo := n) (n := n + (X.1 4 + 1 - n))
        (fun tot s o τ hlo2 htot ⟨m1, e16, B1⟩ => by
          have M2 := MS m1
          have hh := m1.sh h
          have m2 : Mo Yn τ (a_setI τ 237 10 (nI n)) := Mo.set (by unfold Yn Sw; omega)
          have m3 := m1.tr m2
          obtain ⟨s3, e3, m4, B3⟩ := y_choose (P := P) V ha (tot := tot) (by omega) n (d - 1) (a_setI τ 237 10 (nI n)) [] 0 s (by omega) (m3.sh h) (MS m3) (by rw [a_I_off (.inr (by decide))]; exact e16) (by show 1 ≤ 0 + n; omega) (by show 0 + n ≤ 3; omega) (by show 0 + n ≤ tot; omega) (by rw [a_I_at]; exact congrArg nI (Nat.zero_add n).symm) (fun j hj => absurd hj (Nat.not_lt_zero _)) (fun q hq => absurd hq List.not_mem_nil) (Nat.zero_le _) (B1.mo (S := fun b k => b = 237 ∧ k = 10) (Mo.set ⟨rfl, rfl⟩) fun b k z => by unfold Sw; omega)
          rw [z_Uf0] at B3
          refine ⟨(), s3, ⟨m3.tr (m4.mono (Sx.sn _)), by rw [m4.I (by unfold Sx Sw; omega), a_I_off (.inr (by decide))]; exact e16, B3⟩, ?_⟩
          have e3 : a_call a_tab P (d - 1) 175 [.ref 237, .int (nI 0), .int (nI 0), .int (nI tot)] (a_setI τ 237 10 (nI n)) = _ := e3
          (try dsimp only)
          rw [b_X8_findNearest_25 hh M2.1, b_gd_t (nIi (by decide) (by decide)), show a_I τ w (Int32.toNatClampNeg (nI 3)) = nI (X.1 4) from M2.2.2.2.1.2.2.2.1, if_neg (nIn (by omega) (by omega)), e3, g_n, b_X8_findNearest_49, nI_add]) (X.1 4 + 1 - n) n s () τ (Nat.le_refl _) rfl ⟨m1, e16, B1⟩
      have M2 := MS m2
      refine ⟨some (.int (nI (n + (X.1 4 + 1 - n)))), s2, ⟨m2, f16, B2⟩, ?_⟩
      have e2 : b_R (a_call a_tab P (d - 1)) kX8_findNearest [] (25, [some (.ref 237), some (.int (nI aim)), some (.int (nI k)), some (.int (nI n)), some (.int (nI n))], [], τ) = _ := e2
      (try dsimp only)
      rw [b_X8_findNearest_17, if_neg (nIn (by omega) (by omega)), e2]
      (try dsimp only)
      rw [b_X8_findNearest_25 (m2.sh h) M2.1, b_gd_t (nIi (by decide) (by decide)), show a_I s2 w (Int32.toNatClampNeg (nI 3)) = nI (X.1 4) from M2.2.2.2.1.2.2.2.1, if_pos (nIl (by omega) (by omega)), nI_add]) k 1 none none _ (Nat.le_refl _) (by omega) ⟨m0, by rw [a_I_off (.inr (by decide)), a_I_off (.inr (by decide))]; exact a_I_at, a_I_at, by rw [a_I_off (.inr (by decide))]; exact a_I_at⟩
  refine ⟨s', ?_, m1, B1⟩
  rw [n_X8_findNearest (by omega), b_X8_findNearest_0 h]
  refine (show _ = _ from e).trans ?_
  (try dsimp only)
  rw [b_X8_findNearest_17, if_pos (nIl (by omega) (by omega))]
theorem y_allBestParts {d : Nat} {σ : aSt} (hd : 1 ≤ d) (h : Sh σ) {c : Cnd} (B : SB σ X aim (some c)) : a_call a_tab P d 185 [.ref 237] σ = some (.inl (some (.int (nI (z_call c)))), σ) := by
  have h3 := B.1.2.1
  rw [n_X8_allBestParts (by omega), b_X8_allBestParts_0]
  have e := up_0 (run := fun i => b_R (a_call a_tab P (d - 1)) kX8_allBestParts [] (4, [some (.ref 237), some (.int (nI (q_s (fun i => (c.getD i (0, 0)).2) i))), some (.int (nI i))], [], σ)) (n := c.length) fun i hi => by
    (try dsimp only)
    rw [b_X8_allBestParts_4 h, B.2.1, if_pos (nIl hi (by omega)), b_gd_t (nIi (by omega) (by decide)), nIc (by omega), (B.2.2.2.2 i hi).2, nI_add, nI_add]
    rfl
  have e : b_R (a_call a_tab P (d - 1)) kX8_allBestParts [] (4, [some (.ref 237), some (.int (nI 0)), some (.int (nI 0))], [], σ) = _ := e
  rw [e, b_X8_allBestParts_4 h, B.2.1, if_neg (nIn (Nat.le_refl _) (by omega)), q_s_ls (fun q => q.2)]
  rfl
end MOW
