/-! the model: tests of queries -/
section MPA
variable {P : aCall} {d D : Nat} {σ : aSt} {X : Pal} {w : Nat} {B : Nat → Nat} {E : Nat} {e : Nat × Nat}
theorem y_cfacB (H : Pm P) (hd : 8 ≤ d) (h : Sh σ) (R : RS σ B E (.inl e)) : ∃ σ', a_call a_tab P d 263 [.ref 237] σ = some (.inl none, σ') ∧ Mo S26 σ σ' ∧ RS σ' B E (.inl e) := by
  obtain ⟨s1, d1, m1, R1⟩ := y_cvalB (P := P) (d := d - 1) H (by omega) h R
  obtain ⟨s2, d2, m2, R2⟩ := y_ccmpB (P := P) (d := d) H (by omega) (m1.sh h) R1
  refine ⟨s2, ?_, m1.tr m2, R2⟩
  rw [n_X8_compileFactor (by omega), b_X8_compileFactor_0 h, y_isWord H (by omega) h R (by decide) (by decide), g_v, b_X8_compileFactor_7 h, show (r_q (Sum.inl e) fun q => k_is B (k_tok B E q) (q_txt 11)) = false from rfl, if_pos (show b_n false = 0 by decide), y_isSymbol (by omega) h R (by decide), g_v, b_X8_compileFactor_50 h, show (r_q (Sum.inl e) fun q => k_sg B (k_tok B E q) 40) = false from rfl, if_pos (show b_n false = 0 by decide), d1, g_n]
  exact d2
theorem y_cj4B (H : Pm P) (hd : 7 ≤ d) (h : Sh σ) (R : RS σ B E (.inl e)) : ∃ σ', b_R (a_call a_tab P (d - 1)) kX8_compileConjunction [] (4, [some (.ref 237)], [], σ) = some (.inl none, σ') ∧ Mo S26 σ σ' ∧ RS σ' B E (.inl e) := by
  obtain ⟨s1, d1, m1, R1⟩ := y_accept (P := P) (d := d - 1) H (by omega) h R (s := 9) (by decide) (by decide)
  refine ⟨s1, ?_, m1, R1⟩
  rw [b_X8_compileConjunction_4 h, d1, g_v, b_X8_compileConjunction_11 (m1.sh h), show (r_q (Sum.inl e) fun q => k_is B (k_tok B E q) (q_txt 9)) = false from rfl, if_pos (show b_n false = 0 by decide)]
theorem y_te4B (H : Pm P) (hd : 7 ≤ d) (h : Sh σ) (R : RS σ B E (.inl e)) : ∃ σ', b_R (a_call a_tab P (d - 1)) kX8_compileTest [] (4, [some (.ref 237)], [], σ) = some (.inl none, σ') ∧ Mo S26 σ σ' ∧ RS σ' B E (.inl e) := by
  obtain ⟨s1, d1, m1, R1⟩ := y_accept (P := P) (d := d - 1) H (by omega) h R (s := 10) (by decide) (by decide)
  refine ⟨s1, ?_, m1, R1⟩
  rw [b_X8_compileTest_4 h, d1, g_v, b_X8_compileTest_11 (m1.sh h), show (r_q (Sum.inl e) fun q => k_is B (k_tok B E q) (q_txt 10)) = false from rfl, if_pos (show b_n false = 0 by decide)]
theorem y_ctestB (H : Pm P) (hd : 10 ≤ d) (h : Sh σ) (R : RS σ B E (.inl e)) : ∃ σ', a_call a_tab P d 265 [.ref 237] σ = some (.inl none, σ') ∧ Mo S26 σ σ' ∧ RS σ' B E (.inl e) := by
  obtain ⟨s1, d1, m1, R1⟩ := y_cfacB (P := P) (d := d - 1 - 1) H (by omega) h R
  obtain ⟨s2, d2, m2, R2⟩ := y_cj4B (P := P) (d := d - 1) H (by omega) (m1.sh h) R1
  have m12 := m1.tr m2
  obtain ⟨s3, d3, m3, R3⟩ := y_te4B (P := P) (d := d) H (by omega) (m12.sh h) R2
  refine ⟨s3, ?_, m12.tr m3, R3⟩
  rw [n_X8_compileTest (by omega), b_X8_compileTest_0 h, n_X8_compileConjunction (by omega), b_X8_compileConjunction_0 h, d1, g_n, d2, g_n]
  exact d3
theorem y_enter (hd : 6 ≤ d) (h : Sh σ) {q n : Nat} (R : RS σ B E (.inr q)) (hn : n ≤ 6) (e28 : a_I σ 237 28 = nI n) : ∃ σ', a_call a_tab P d 261 [.ref 237] σ = some (.inl none, σ') ∧ Mo (fun b k => S26 b k ∨ (b = 237 ∧ k = 28)) σ σ' ∧ RS σ' B E (if n < 6 then .inr (k_tok B E q).2.2 else .inl (3, (k_tok B E q).2.1)) ∧ a_I σ' 237 28 = nI (n + 1) := by
  rw [n_X8_enter (by omega), b_X8_enter_0 h, e28, b_X8_enter_15 h, b_X8_enter_15 h]
  have fin : ∀ (s1 : aSt) (r1 : (Nat × Nat) ⊕ Nat), Mo S26 σ s1 → RS s1 B E r1 → ∃ σ', b_R (a_call a_tab P (d - 1)) kX8_enter [] (19, [some (.ref 237)], [], s1) = some (.inl none, σ') ∧ Mo (fun b k => S26 b k ∨ (b = 237 ∧ k = 28)) σ σ' ∧ RS σ' B E (r_adv B E r1) ∧ a_I σ' 237 28 = nI (n + 1) := fun s1 r1 m1 R1 => by
    have m2 : Mo (fun b k => b = 237 ∧ k = 28) s1 (a_setI s1 237 28 (nI (n + 1))) := Mo.set ⟨rfl, rfl⟩
    have h2 := m2.sh (m1.sh h)
    obtain ⟨s3, d3, m3, R3⟩ := y_advance (P := P) (d := d - 1) (by omega) h2 (R1.mo m2 (fun k _ _ => by omega) (fun k => by omega))
    refine ⟨s3, ?_, ((m1.mono fun b k z => .inl z).tr (m2.mono fun b k z => .inr z)).tr (m3.mono fun b k z => .inl z), R3, by rw [m3.I (by unfold S26; omega)]; exact a_I_at⟩
    rw [b_X8_enter_19 (m1.sh h), show a_I s1 237 28 = nI n from (m1.I (by unfold S26; omega)).trans e28, nI_add, d3, g_n, b_X8_enter_33]
  by_cases c : n < 6
  · obtain ⟨s1, d1, m1, R1⟩ := y_checkT (P := P) (d := d - 1) (by omega) h R (c := 3) (by decide) (by decide)
    obtain ⟨s2, d2, m2, R2, f2⟩ := fin s1 _ m1 R1
    exact ⟨s2, by rw [if_pos (nIl c (by decide)), d1, g_n]; exact d2, m2, by rw [if_pos c]; exact R2, f2⟩
  · obtain ⟨s1, d1, m1, R1⟩ := y_checkF (P := P) (d := d - 1) (by omega) h R (c := 3) (by decide) (by decide)
    obtain ⟨s2, d2, m2, R2, f2⟩ := fin s1 _ m1 R1
    exact ⟨s2, by rw [if_neg (nIn (by omega) (by omega)), d1, g_n]; exact d2, m2, by rw [if_neg c]; exact R2, f2⟩
/-- what a factor's reading does -/
def FS (P : aCall) (d D : Nat) (X : Pal) (B : Nat → Nat) (E k : Nat) : Prop := ∀ (σ : aSt) (q : Nat) (L : List Int32), Sh σ → RS σ B E (.inr q) → CC σ L → L.length ≤ q → a_I σ 237 28 = nI (6 - k) → ∃ σ', a_call a_tab P d 263 [.ref 237] σ = some (.inl none, σ') ∧ Mo Squ σ σ' ∧ RS σ' B E (r_snd (h_fac X B E k q)) ∧ ∀ f q', h_fac X B E k q = .inr (f, q') → a_I σ' 237 28 = nI (6 - k) ∧ ∃ L', CC σ' (L ++ L') ∧ L'.length + q ≤ q' ∧ SG P D X L' (fun m => z_1 (f m))
theorem SG.and (hD : 1 ≤ D) {L1 L2 : List Int32} {a b : Nat → Bool} (S1 : SG P D X L1 (fun m => z_1 (a m))) (S2 : SG P D X L2 (fun m => z_1 (b m))) : SG P D X (L1 ++ L2 ++ [-24]) (fun m => z_1 (a m && b m)) :=
  (SG.op hD S1 S2 (fun m _ => ⟨by have := z_1le (a m); omega, by have := z_1le (b m); omega⟩) (.inr (.inr (.inr ⟨.inl rfl, fun m _ => ⟨z_1le _, z_1le _⟩⟩)))).congr fun m _ => by cases a m <;> cases b m <;> rfl
theorem SG.or (hD : 1 ≤ D) {L1 L2 : List Int32} {a b : Nat → Bool} (S1 : SG P D X L1 (fun m => z_1 (a m))) (S2 : SG P D X L2 (fun m => z_1 (b m))) : SG P D X (L1 ++ L2 ++ [-25]) (fun m => z_1 (a m || b m)) :=
  (SG.op hD S1 S2 (fun m _ => ⟨by have := z_1le (a m); omega, by have := z_1le (b m); omega⟩) (.inr (.inr (.inr ⟨.inr rfl, fun m _ => ⟨z_1le _, z_1le _⟩⟩)))).congr fun m _ => by cases a m <;> cases b m <;> rfl
/-- what is joined so far: nothing, or codes -/
def JN (P : aCall) (D : Nat) (X : Pal) (z : Bool) (b : Bool) (L : List Int32) (a : Nat → Bool) : Prop := match b with
  | false => L = [] ∧ a = fun _ => z
  | true => SG P D X L (fun m => z_1 (a m))
theorem y_tl (H : Pm P) (hd : 10 ≤ d) (hD : 4 ≤ D) (hE : E ≤ 200) {k : Nat} (F : FS P (d - 1 - 1) D X B E k) : ∀ (f : Nat) (ha hb : Bool) (any all : Nat → Bool) (Ca Cb L : List Int32) (q q0 : Nat) (s : aSt), E < q + f → Sh s → RS s B E (.inr q) → CC s (L ++ Ca ++ Cb) → a_I s 237 28 = nI (6 - k) → L.length ≤ q0 → Ca.length + Cb.length + z_1 ha + z_1 hb + q0 ≤ q → JN P D X false ha Ca any → JN P D X true hb Cb all →
    ∃ s1 s2 s', a_call a_tab P (d - 1 - 1) 263 [.ref 237] s = some (.inl none, s1) ∧ (if hb then b_R (a_call a_tab P (d - 1 - 1)) kX8_compileConjunction [] (18, [some (.ref 237)], [], s1) else b_R (a_call a_tab P (d - 1 - 1)) kX8_compileConjunction [] (4, [some (.ref 237)], [], s1)) = some (.inl none, s2) ∧ (if ha then b_R (a_call a_tab P (d - 1)) kX8_compileTest [] (18, [some (.ref 237)], [], s2) else b_R (a_call a_tab P (d - 1)) kX8_compileTest [] (4, [some (.ref 237)], [], s2)) = some (.inl none, s') ∧ Mo Squ s s' ∧ RS s' B E (r_snd (h_tl B E (h_fac X B E k) f any all q)) ∧ ∀ g q', h_tl B E (h_fac X B E k) f any all q = .inr (g, q') → a_I s' 237 28 = nI (6 - k) ∧ ∃ L', CC s' (L ++ L') ∧ L'.length + q0 ≤ q' ∧ SG P D X L' (fun m => z_1 (g m)) := by
  intro f
  induction f with
  | zero =>
    intro ha hb any all Ca Cb L q q0 s hf h R
    have := R.2.1
    omega
  | succ f ih =>
    intro ha hb any all Ca Cb L q q0 s hf h R C e28 hL hpot JA JB
    have hq := R.2.1
    have lab : (L ++ Ca ++ Cb).length = L.length + Ca.length + Cb.length := by rw [List.length_append, List.length_append]
    obtain ⟨s1, d1, m1, R1, G1⟩ := F s q _ h R C (by omega) e28
    have h1 := m1.sh h
    have et : h_tl B E (h_fac X B E k) (f + 1) any all q = match h_fac X B E k q with
        | .inl e => .inl e
        | .inr r => if k_is B (k_tok B E r.2) (q_txt 9) then h_tl B E (h_fac X B E k) f any (fun m => all m && r.1 m) (k_tok B E r.2).2.2
          else if k_is B (k_tok B E r.2) (q_txt 10) then h_tl B E (h_fac X B E k) f (fun m => any m || (all m && r.1 m)) (fun _ => true) (k_tok B E r.2).2.2
          else .inr (fun m => any m || (all m && r.1 m), r.2) := rfl
    rw [et]
    cases hf1 : h_fac X B E k q with
    | inl e =>
      rw [hf1] at R1
      have R1 : RS s1 B E (.inl e) := R1
      obtain ⟨s2, d2, m2, R2⟩ := y_cj4B (P := P) (d := d - 1) H (by omega) h1 R1
      have h2 := m2.sh h1
      obtain ⟨s3, d3, m3, R3⟩ := y_te4B (P := P) (d := d) H (by omega) h2 R2
      refine ⟨s1, s2, s3, d1, ?_, ?_, (m1.tr (m2.mono fun b k z => z.q)).tr (m3.mono fun b k z => z.q), R3, fun g q' hz => by cases hz⟩
      · cases hb with
        | false => rw [if_neg Bool.false_ne_true]; exact d2
        | true => rw [if_pos rfl, b_X8_compileConjunction_18 h1, y_emitB (by omega) h1 R1, g_n, b_X8_compileConjunction_24]; exact d2
      · cases ha with
        | false => rw [if_neg Bool.false_ne_true]; exact d3
        | true => rw [if_pos rfl, b_X8_compileTest_18 h2, y_emitB (by omega) h2 R2, g_n, b_X8_compileTest_24]; exact d3
    | inr r =>
      obtain ⟨g, q1⟩ := r
      rw [hf1] at R1
      have R1 : RS s1 B E (.inr q1) := R1
      obtain ⟨e1, Cr, C1, lr, Sr'⟩ := G1 g q1 hf1
      have hq1 := R1.2.1
      have lr1 := Sr'.1
      (try dsimp only)
      -- the conjunction's end
      have K1 : ∃ t Cb', (if hb then b_R (a_call a_tab P (d - 1 - 1)) kX8_compileConjunction [] (18, [some (.ref 237)], [], s1) else b_R (a_call a_tab P (d - 1 - 1)) kX8_compileConjunction [] (4, [some (.ref 237)], [], s1)) = b_R (a_call a_tab P (d - 1 - 1)) kX8_compileConjunction [] (4, [some (.ref 237)], [], t) ∧ Mo Squ s1 t ∧ RS t B E (.inr q1) ∧ CC t (L ++ Ca ++ Cb') ∧ a_I t 237 28 = nI (6 - k) ∧ Ca.length + Cb'.length + z_1 ha + q0 ≤ q1 ∧ SG P D X Cb' (fun m => z_1 (all m && g m)) := by
        cases hb with
        | false =>
          obtain ⟨rfl, rfl⟩ := JB
          rw [if_neg Bool.false_ne_true]
          refine ⟨s1, Cr, rfl, Mo.rf, R1, ?_, e1, ?_, Sr'.congr fun m _ => by rw [Bool.true_and]⟩
          · rw [List.append_nil] at C1; exact C1
          · have : ([] : List Int32).length = 0 := rfl
            have : z_1 false = 0 := rfl
            omega
        | true =>
          rw [if_pos rfl]
          have z1 : z_1 true = 1 := rfl
          have lc : (L ++ Ca ++ Cb ++ Cr).length = L.length + Ca.length + Cb.length + Cr.length := by rw [List.length_append, lab]
          obtain ⟨t, dt, mt, Rt, Ct⟩ := y_emit (P := P) (d := d - 1 - 1) (by omega) h1 R1 C1 (by omega) (c := -24)
          refine ⟨t, Cb ++ Cr ++ [-24], by rw [b_X8_compileConjunction_18 h1, dt, g_n, b_X8_compileConjunction_24], mt.mono fun b k z => by unfold Squ; omega, Rt, ?_, (mt.I (by omega)).trans e1, ?_, SG.and (by omega) JB Sr'⟩
          · rw [← List.append_assoc, ← List.append_assoc]; exact Ct
          · have : (Cb ++ Cr ++ [(-24 : Int32)]).length = Cb.length + Cr.length + 1 := by rw [List.length_append, List.length_append]; rfl
            omega
      obtain ⟨t, Cb', et1, mt, Rt, Ct, e2, pt, St⟩ := K1
      have ht := mt.sh h1
      obtain ⟨s3, d3, m3, R3⟩ := y_accept (P := P) (d := d - 1 - 1) H (by omega) ht Rt (s := 9) (by decide) (by decide)
      have h3 := m3.sh ht
      have m13 := (m1.tr mt).tr (m3.mono fun b k z => (z.q : Squ b k))
      have R3 : RS s3 B E (.inr (if k_is B (k_tok B E q1) (q_txt 9) then (k_tok B E q1).2.2 else q1)) := R3
      have cj : b_R (a_call a_tab P (d - 1 - 1)) kX8_compileConjunction [] (4, [some (.ref 237)], [], t) = if b_n (k_is B (k_tok B E q1) (q_txt 9)) = 0 then some (.inl none, s3) else b_G (a_call a_tab P (d - 1 - 1)) kX8_compileConjunction [] 15 18 [some (.ref 237)] [] (a_call a_tab P (d - 1 - 1) 263 [.ref 237] s3) := by
        rw [b_X8_compileConjunction_4 ht, d3, g_v, b_X8_compileConjunction_11 h3]
        rfl
      have kadv : ∀ s, k_is B (k_tok B E q1) (q_txt s) = true → q1 < (k_tok B E q1).2.2 := fun s hs => k_tok_adv (fun z => by unfold k_is at hs; rw [z] at hs; cases hs) hq1
      cases k9 : k_is B (k_tok B E q1) (q_txt 9) with
      | true =>
        rw [k9, if_neg (show ¬ b_n true = 0 by decide)] at cj
        rw [k9, if_pos rfl] at R3
        rw [if_pos rfl]
        have := kadv 9 k9
        have z1 : z_1 true = 1 := rfl
        obtain ⟨s4, s5, s6, c4, c5, c6, m6, R6, G6⟩ := ih ha true any (fun m => all m && g m) Ca Cb' L (k_tok B E q1).2.2 q0 s3 (by omega) h3 R3 (Ct.s26 m3) ((m3.I (by unfold S26; omega)).trans e2) hL (by omega) JA St
        refine ⟨s1, s5, s6, d1, ?_, c6, m13.tr m6, R6, G6⟩
        rw [et1, cj, c4, g_n]
        rw [if_pos rfl] at c5
        exact c5
      | false =>
        rw [k9, if_pos (show b_n false = 0 by decide)] at cj
        rw [k9, if_neg Bool.false_ne_true] at R3
        rw [if_neg Bool.false_ne_true]
        have C3 := Ct.s26 m3
        have e3 : a_I s3 237 28 = nI (6 - k) := (m3.I (by unfold S26; omega)).trans e2
        have lc3 : (L ++ Ca ++ Cb').length = L.length + Ca.length + Cb'.length := by rw [List.length_append, List.length_append]
        -- the test's end
        have K2 : ∃ u Ca', (if ha then b_R (a_call a_tab P (d - 1)) kX8_compileTest [] (18, [some (.ref 237)], [], s3) else b_R (a_call a_tab P (d - 1)) kX8_compileTest [] (4, [some (.ref 237)], [], s3)) = b_R (a_call a_tab P (d - 1)) kX8_compileTest [] (4, [some (.ref 237)], [], u) ∧ Mo Squ s3 u ∧ RS u B E (.inr q1) ∧ CC u (L ++ Ca') ∧ a_I u 237 28 = nI (6 - k) ∧ Ca'.length + q0 ≤ q1 ∧ SG P D X Ca' (fun m => z_1 (any m || (all m && g m))) := by
          cases ha with
          | false =>
            obtain ⟨rfl, rfl⟩ := JA
            rw [if_neg Bool.false_ne_true]
            refine ⟨s3, Cb', rfl, Mo.rf, R3, ?_, e3, ?_, St.congr fun m _ => by rw [Bool.false_or]⟩
            · rw [List.append_nil] at C3; exact C3
            · have : z_1 false = 0 := rfl
              omega
          | true =>
            rw [if_pos rfl]
            have z1 : z_1 true = 1 := rfl
            obtain ⟨u, du, mu, Ru, Cu⟩ := y_emit (P := P) (d := d - 1) (by omega) h3 R3 C3 (by omega) (c := -25)
            refine ⟨u, Ca ++ Cb' ++ [-25], by rw [b_X8_compileTest_18 h3, du, g_n, b_X8_compileTest_24], mu.mono fun b k z => by unfold Squ; omega, Ru, ?_, (mu.I (by omega)).trans e3, ?_, SG.or (by omega) JA St⟩
            · rw [← List.append_assoc, ← List.append_assoc]; exact Cu
            · have : (Ca ++ Cb' ++ [(-25 : Int32)]).length = Ca.length + Cb'.length + 1 := by rw [List.length_append, List.length_append]; rfl
              omega
        obtain ⟨u, Ca', eu, mu, Ru, Cu, e4, pu, Su⟩ := K2
        have hu := mu.sh h3
        have m1u := m13.tr mu
        obtain ⟨s5, d5, m5, R5⟩ := y_accept (P := P) (d := d - 1) H (by omega) hu Ru (s := 10) (by decide) (by decide)
        have h5 := m5.sh hu
        have R5 : RS s5 B E (.inr (if k_is B (k_tok B E q1) (q_txt 10) then (k_tok B E q1).2.2 else q1)) := R5
        have m15 := m1u.tr (m5.mono fun b k z => (z.q : Squ b k))
        have te : b_R (a_call a_tab P (d - 1)) kX8_compileTest [] (4, [some (.ref 237)], [], u) = if b_n (k_is B (k_tok B E q1) (q_txt 10)) = 0 then some (.inl none, s5) else b_G (a_call a_tab P (d - 1)) kX8_compileTest [] 15 18 [some (.ref 237)] [] (a_call a_tab P (d - 1) 264 [.ref 237] s5) := by
          rw [b_X8_compileTest_4 hu, d5, g_v, b_X8_compileTest_11 h5]
          rfl
        cases k10 : k_is B (k_tok B E q1) (q_txt 10) with
        | true =>
          rw [k10, if_neg (show ¬ b_n true = 0 by decide)] at te
          rw [k10, if_pos rfl] at R5
          rw [if_pos rfl]
          have := kadv 10 k10
          have z1 : z_1 true = 1 := rfl
          have z2 : z_1 false = 0 := rfl
          have z3 : ([] : List Int32).length = 0 := rfl
          obtain ⟨s6, s7, s8, c6, c7, c8, m8, R8, G8⟩ := ih true false (fun m => any m || (all m && g m)) (fun _ => true) Ca' [] L (k_tok B E q1).2.2 q0 s5 (by omega) h5 R5 (by rw [List.append_nil]; exact Cu.s26 m5) ((m5.I (by unfold S26; omega)).trans e4) hL (by omega) Su ⟨rfl, rfl⟩
          refine ⟨s1, s3, s8, d1, et1.trans cj, ?_, m15.tr m8, R8, G8⟩
          rw [eu, te, n_X8_compileConjunction (by omega), b_X8_compileConjunction_0 h5, c6, g_n]
          rw [if_neg Bool.false_ne_true] at c7
          rw [c7, g_n]
          rw [if_pos rfl] at c8
          exact c8
        | false =>
          rw [k10, if_pos (show b_n false = 0 by decide)] at te
          rw [k10, if_neg Bool.false_ne_true] at R5
          rw [if_neg Bool.false_ne_true]
          refine ⟨s1, s3, s5, d1, et1.trans cj, by rw [eu, te], m15, R5, fun g' q' hz => ?_⟩
          cases hz
          exact ⟨(m5.I (by unfold S26; omega)).trans e4, Ca', Cu.s26 m5, pu, Su⟩
theorem y_ctest (H : Pm P) (hd : 10 ≤ d) (hD : 4 ≤ D) (hE : E ≤ 200) {k : Nat} (F : FS P (d - 1 - 1) D X B E k) (h : Sh σ) {q : Nat} (R : RS σ B E (.inr q)) (hq : 1 ≤ q) {L : List Int32} (C : CC σ L) (hl : L.length ≤ q) (e28 : a_I σ 237 28 = nI (6 - k)) : ∃ σ', a_call a_tab P d 265 [.ref 237] σ = some (.inl none, σ') ∧ Mo Squ σ σ' ∧ RS σ' B E (r_snd (h_tl B E (h_fac X B E k) 200 (fun _ => false) (fun _ => true) q)) ∧ ∀ g q', h_tl B E (h_fac X B E k) 200 (fun _ => false) (fun _ => true) q = .inr (g, q') → a_I σ' 237 28 = nI (6 - k) ∧ ∃ L', CC σ' (L ++ L') ∧ L'.length + q ≤ q' ∧ SG P D X L' (fun m => z_1 (g m)) := by
  have z2 : z_1 false = 0 := rfl
  have z3 : ([] : List Int32).length = 0 := rfl
  obtain ⟨s1, s2, s', c1, c2, c3, m, R', G⟩ := y_tl (P := P) (d := d) H hd hD hE F 200 false false (fun _ => false) (fun _ => true) [] [] L q q σ (by omega) h R (by rw [List.append_nil, List.append_nil]; exact C) e28 hl (by omega) ⟨rfl, rfl⟩ ⟨rfl, rfl⟩
  refine ⟨s', ?_, m, R', G⟩
  rw [if_neg Bool.false_ne_true] at c2 c3
  rw [n_X8_compileTest (by omega), b_X8_compileTest_0 h, n_X8_compileConjunction (by omega), b_X8_compileConjunction_0 h, c1, g_n, c2, g_n]
  exact c3
theorem y_cfac (H : Pm P) (hD : 4 ≤ D) (hE : E ≤ 200) (V : Vd X) : ∀ (k : Nat), k ≤ 6 → ∀ d, 9 + 3 * k ≤ d → FS P d D X B E k := by
  intro k
  induction k with
  | zero =>
    intro hk d hd σ q L h R C hl e28
    have ef : h_fac X B E 0 q = if k_is B (k_tok B E q) (q_txt 11) || k_sg B (k_tok B E q) 40 then .inl (3, (k_tok B E q).2.1) else h_cmp X B E q := rfl
    rw [n_X8_compileFactor (by omega), b_X8_compileFactor_0 h, y_isWord H (by omega) h R (by decide) (by decide), g_v, b_X8_compileFactor_7 h, show (r_q (.inr q) fun q => k_is B (k_tok B E q) (q_txt 11)) = k_is B (k_tok B E q) (q_txt 11) from rfl, y_isSymbol (by omega) h R (by decide), g_v, b_X8_compileFactor_50 h, show (r_q (.inr q) fun q => k_sg B (k_tok B E q) 40) = k_sg B (k_tok B E q) 40 from rfl, ef]
    obtain ⟨s1, d1, m1, R1, f1⟩ := y_enter (P := P) (d := d - 1) (by omega) h R (n := 6) (by decide) e28
    have R1 : RS s1 B E (.inl (3, (k_tok B E q).2.1)) := R1
    have h1 := m1.sh h
    obtain ⟨e1, e2⟩ := R1.e25
    have mS : Mo Squ σ s1 := m1.mono fun b k z => by unfold S26 at z; unfold Squ S26; omega
    cases k_is B (k_tok B E q) (q_txt 11) with
    | true =>
      rw [if_neg (show ¬ b_n true = 0 by decide), Bool.true_or, if_pos rfl, d1, g_n, b_X8_compileFactor_14 h1, e1, if_neg e2, b_X8_compileFactor_25 h1, y_emitB (by omega) h1 R1, g_n, b_X8_compileFactor_31 h1, f1, b_X8_compileFactor_160]
      have m2 : Mo (fun b k => b = 237 ∧ k = 28) s1 (a_setI s1 237 28 (nI (6 + 1) - nI 1)) := Mo.set ⟨rfl, rfl⟩
      exact ⟨_, rfl, mS.tr (m2.mono fun b k z => by unfold Squ; omega), R1.mo m2 (fun k _ _ => by omega) (fun k => by omega), fun f q' hz => by cases hz⟩
    | false =>
      rw [if_pos (show b_n false = 0 by decide), Bool.false_or]
      cases k_sg B (k_tok B E q) 40 with
      | true =>
        obtain ⟨s2, d2, m2, R2⟩ := y_expect (P := P) (d := d - 1) (by omega) h1 R1 (c := 41) (by decide)
        have R2 : RS s2 B E (.inl (3, (k_tok B E q).2.1)) := R2
        have h2 := m2.sh h1
        rw [if_neg (show ¬ b_n true = 0 by decide), if_pos rfl, d1, g_n, b_X8_compileFactor_57 h1, e1, if_neg e2, b_X8_compileFactor_68 h1, d2, g_n, b_X8_compileFactor_74 h2, b_X8_compileFactor_160]
        have m3 : Mo (fun b k => b = 237 ∧ k = 28) s2 (a_setI s2 237 28 (a_I s2 237 28 - nI 1)) := Mo.set ⟨rfl, rfl⟩
        exact ⟨_, rfl, (mS.tr (m2.mono fun b k z => z.q)).tr (m3.mono fun b k z => by unfold Squ; omega), R2.mo m3 (fun k _ _ => by omega) (fun k => by omega), fun f q' hz => by cases hz⟩
      | false =>
        rw [if_pos (show b_n false = 0 by decide), if_neg Bool.false_ne_true]
        obtain ⟨s2, d2, m2, R2, G2⟩ := y_ccmp (P := P) (d := d) (D := D) H (by omega) hD h V R hE C hl
        refine ⟨s2, d2, m2.mono fun b k z => by unfold S26 at z; unfold Squ S26; omega, R2, fun f q' hz => ?_⟩
        exact ⟨(m2.I (by unfold S26; omega)).trans e28, G2 f q' hz⟩
  | succ k ih =>
    intro hk d hd σ q L h R C hl e28
    have hq := R.2.1
    have ef : h_fac X B E (k + 1) q = if k_is B (k_tok B E q) (q_txt 11) then
        (match h_fac X B E k (k_tok B E q).2.2 with
        | .inl e => .inl e
        | .inr r => .inr (fun m => !r.1 m, r.2))
      else if k_sg B (k_tok B E q) 40 then
        (match h_tl B E (h_fac X B E k) 200 (fun _ => false) (fun _ => true) (k_tok B E q).2.2 with
        | .inl e => .inl e
        | .inr r => if k_sg B (k_tok B E r.2) 41 then .inr (r.1, (k_tok B E r.2).2.2) else .inl (1, (k_tok B E r.2).2.1))
      else h_cmp X B E q := rfl
    rw [n_X8_compileFactor (by omega), b_X8_compileFactor_0 h, y_isWord H (by omega) h R (by decide) (by decide), g_v, b_X8_compileFactor_7 h, show (r_q (.inr q) fun q => k_is B (k_tok B E q) (q_txt 11)) = k_is B (k_tok B E q) (q_txt 11) from rfl, y_isSymbol (by omega) h R (by decide), g_v, b_X8_compileFactor_50 h, show (r_q (.inr q) fun q => k_sg B (k_tok B E q) 40) = k_sg B (k_tok B E q) 40 from rfl, ef]
    obtain ⟨s1, d1, m1, R1, f1⟩ := y_enter (P := P) (d := d - 1) (by omega) h R (n := 6 - (k + 1)) (by omega) e28
    have h1 := m1.sh h
    have mS : Mo Squ σ s1 := m1.mono fun b k z => by unfold S26 at z; unfold Squ S26; omega
    have R1 : RS s1 B E (.inr (k_tok B E q).2.2) := by
      rw [if_pos (show 6 - (k + 1) < 6 by omega)] at R1
      exact R1
    have f1 : a_I s1 237 28 = nI (6 - k) := by rw [show 6 - k = 6 - (k + 1) + 1 by omega]; exact f1
    have C1 : CC s1 L := C.mo m1 (by unfold S26; omega) fun k => by unfold S26; omega
    have edec : nI (6 - k) - nI 1 = nI (6 - (k + 1)) := by rw [show 6 - k = 6 - (k + 1) + 1 by omega]; exact nI_s1 _
    have k0 : ∀ b : Bool, (k_is B (k_tok B E q) (q_txt 11) = true ∨ k_sg B (k_tok B E q) 40 = true) → q < (k_tok B E q).2.2 := fun _ z => k_tok_adv (fun z0 => by
      rcases z with z | z
      · unfold k_is at z; rw [z0] at z; cases z
      · unfold k_sg at z; rw [z0] at z; cases z) hq
    cases h11 : k_is B (k_tok B E q) (q_txt 11) with
    | true =>
      have hadv := k0 true (.inl h11)
      rw [if_neg (show ¬ b_n true = 0 by decide), if_pos rfl, d1, g_n, b_X8_compileFactor_14 h1, R1.2.2.2, if_pos (show nI 0 = 0 from rfl)]
      obtain ⟨s2, d2, m2, R2, G2⟩ := ih (by omega) (d - 1) (by omega) s1 (k_tok B E q).2.2 L h1 R1 C1 (by omega) f1
      have h2 := m2.sh h1
      rw [d2, g_n, b_X8_compileFactor_25 h2]
      cases hg : h_fac X B E k (k_tok B E q).2.2 with
      | inl e =>
        rw [hg] at R2
        have R2 : RS s2 B E (.inl e) := R2
        have m3 : Mo (fun b k => b = 237 ∧ k = 28) s2 (a_setI s2 237 28 (a_I s2 237 28 - nI 1)) := Mo.set ⟨rfl, rfl⟩
        refine ⟨_, by rw [y_emitB (by omega) h2 R2, g_n, b_X8_compileFactor_31 h2, b_X8_compileFactor_160], (mS.tr m2).tr (m3.mono fun b k z => by unfold Squ; omega), R2.mo m3 (fun k _ _ => by omega) (fun k => by omega), fun f q' hz => by cases hz⟩
      | inr r =>
        obtain ⟨g, q2⟩ := r
        rw [hg] at R2
        have R2 : RS s2 B E (.inr q2) := R2
        obtain ⟨f2, L', C2, l2, S2⟩ := G2 g q2 hg
        have hq2 := R2.2.1
        have ll : (L ++ L').length = L.length + L'.length := List.length_append
        obtain ⟨s3, d3, m3, R3, C3⟩ := y_emit (P := P) (d := d - 1) (by omega) h2 R2 C2 (by omega) (c := -23)
        have h3 := m3.sh h2
        have f3 : a_I s3 237 28 = nI (6 - k) := (m3.I (by omega)).trans f2
        have m4 : Mo (fun b k => b = 237 ∧ k = 28) s3 (a_setI s3 237 28 (nI (6 - (k + 1)))) := Mo.set ⟨rfl, rfl⟩
        refine ⟨a_setI s3 237 28 (nI (6 - (k + 1))), by rw [d3, g_n, b_X8_compileFactor_31 h3, f3, edec, b_X8_compileFactor_160], ((mS.tr m2).tr (m3.mono fun b k z => by unfold Squ; omega)).tr (m4.mono fun b k z => by unfold Squ; omega), R3.mo m4 (fun k _ _ => by omega) (fun k => by omega), fun f q' hz => ?_⟩
        cases hz
        refine ⟨a_I_at, L' ++ [-23], ?_, ?_, S2.not⟩
        · rw [← List.append_assoc]; exact C3.mo m4 (by omega) fun k => by omega
        · rw [List.length_append]
          show L'.length + 1 + q ≤ q2
          omega
    | false =>
      rw [if_pos (show b_n false = 0 by decide), if_neg Bool.false_ne_true]
      cases h40 : k_sg B (k_tok B E q) 40 with
      | true =>
        have hadv := k0 true (.inr h40)
        rw [if_neg (show ¬ b_n true = 0 by decide), if_pos rfl, d1, g_n, b_X8_compileFactor_57 h1, R1.2.2.2, if_pos (show nI 0 = 0 from rfl)]
        obtain ⟨s2, d2, m2, R2, G2⟩ := y_ctest (P := P) (d := d - 1) (D := D) H (by omega) hD hE (ih (by omega) (d - 1 - 1 - 1) (by omega)) h1 R1 (by omega) C1 (by omega) f1
        have h2 := m2.sh h1
        obtain ⟨s3, d3, m3, R3⟩ := y_expect (P := P) (d := d - 1) (by omega) h2 R2 (c := 41) (by decide)
        have h3 := m3.sh h2
        have m4 : Mo (fun b k => b = 237 ∧ k = 28) s3 (a_setI s3 237 28 (a_I s3 237 28 - nI 1)) := Mo.set ⟨rfl, rfl⟩
        have mm := ((mS.tr m2).tr (m3.mono fun b k z => (z.q : Squ b k))).tr (m4.mono fun b k z => (by unfold Squ; omega : Squ b k))
        rw [d2, g_n, b_X8_compileFactor_68 h2, d3, g_n, b_X8_compileFactor_74 h3, b_X8_compileFactor_160]
        cases hg : h_tl B E (h_fac X B E k) 200 (fun _ => false) (fun _ => true) (k_tok B E q).2.2 with
        | inl e =>
          rw [hg] at R3
          have R3 : RS s3 B E (.inl e) := R3
          exact ⟨_, rfl, mm, R3.mo m4 (fun k _ _ => by omega) (fun k => by omega), fun f q' hz => by cases hz⟩
        | inr r =>
          obtain ⟨g, q2⟩ := r
          rw [hg] at R3 R2
          have R2 : RS s2 B E (.inr q2) := R2
          have R3 : RS s3 B E (if k_sg B (k_tok B E q2) 41 then .inr (k_tok B E q2).2.2 else .inl (1, (k_tok B E q2).2.1)) := R3
          obtain ⟨f2, L', C2, l2, S2⟩ := G2 g q2 hg
          have f3 : a_I s3 237 28 = nI (6 - k) := (m3.I (by unfold S26; omega)).trans f2
          show ∃ σ', _ ∧ Mo Squ σ σ' ∧ RS σ' B E (r_snd (if k_sg B (k_tok B E q2) 41 then .inr (g, (k_tok B E q2).2.2) else .inl (1, (k_tok B E q2).2.1))) ∧ ∀ f q', (if k_sg B (k_tok B E q2) 41 then .inr (g, (k_tok B E q2).2.2) else .inl (1, (k_tok B E q2).2.1) : (Nat × Nat) ⊕ ((Nat → Bool) × Nat)) = .inr (f, q') → _
          cases hs : k_sg B (k_tok B E q2) 41 with
          | false =>
            rw [hs, if_neg Bool.false_ne_true] at R3
            rw [if_neg Bool.false_ne_true]
            exact ⟨_, rfl, mm, R3.mo m4 (fun k _ _ => by omega) (fun k => by omega), fun f q' hz => by cases hz⟩
          | true =>
            rw [hs, if_pos rfl] at R3
            rw [if_pos rfl]
            have ka : q2 < (k_tok B E q2).2.2 := k_tok_adv (fun z0 => by unfold k_sg at hs; rw [z0] at hs; cases hs) R2.2.1
            refine ⟨_, rfl, mm, R3.mo m4 (fun k _ _ => by omega) (fun k => by omega), fun f q' hz => ?_⟩
            cases hz
            refine ⟨by rw [f3, edec]; exact a_I_at, L', (C2.s26 m3).mo m4 (by omega) (fun k => by omega), by omega, S2⟩
      | false =>
        rw [if_pos (show b_n false = 0 by decide), if_neg Bool.false_ne_true]
        obtain ⟨s2, d2, m2, R2, G2⟩ := y_ccmp (P := P) (d := d) (D := D) H (by omega) hD h V R hE C hl
        refine ⟨s2, d2, m2.mono fun b k z => by unfold S26 at z; unfold Squ S26; omega, R2, fun f q' hz => ?_⟩
        exact ⟨(m2.I (by unfold S26; omega)).trans e28, G2 f q' hz⟩
end MPA
