/-! QueryReader: tests and answers -/
theorem q_cmp_lt {a b : Nat} (ha : a < 2147483648) (hb : b < 2147483648) : q_cmp (nI a) (nI b) = (if a < b then -1 else if a = b then 0 else 1) := by
  unfold q_cmp
  by_cases h1 : a < b
  · rw [if_pos (nIl h1 hb), if_pos h1]
  · rw [if_neg (nIn (by omega) ha), if_neg h1]
    by_cases h2 : a = b
    · rw [if_pos (congrArg nI h2), if_pos h2]
    · rw [if_neg (fun z => h2 ((nI_eq ha hb).mp z)), if_neg h2]
theorem h_cz (a b : Nat) : ((if a < b then -1 else if a = b then 0 else 1 : Int32) < 0 ↔ a < b) ∧ ((0 : Int32) < (if a < b then -1 else if a = b then 0 else 1) ↔ b < a) ∧ ((if a < b then -1 else if a = b then 0 else 1 : Int32) = 0 ↔ a = b) := by
  by_cases h1 : a < b
  · simp only [if_pos h1]
    exact ⟨⟨fun _ => h1, fun _ => by decide⟩, ⟨fun z => absurd z (by decide), fun z => by omega⟩, ⟨fun z => absurd z (by decide), fun z => by omega⟩⟩
  · simp only [if_neg h1]
    by_cases h2 : a = b
    · simp only [if_pos h2]
      exact ⟨⟨fun z => absurd z (by decide), fun z => absurd z h1⟩, ⟨fun z => absurd z (by decide), fun z => by omega⟩, ⟨fun _ => h2, fun _ => trivial⟩⟩
    · simp only [if_neg h2]
      exact ⟨⟨fun z => absurd z (by decide), fun z => absurd z h1⟩, ⟨fun _ => by omega, fun _ => by decide⟩, ⟨fun z => absurd z (by decide), fun z => absurd z h2⟩⟩
theorem h_val_mono {B : Nat → Nat} {E q : Nat} {r : (Nat ⊕ Nat) × Nat} (h : q ≤ E) (g : h_val B E q = .inr r) : q < r.2 ∧ r.2 ≤ E := by
  unfold h_val at g
  by_cases c2 : (k_tok B E q).1 = 2
  · rw [if_pos c2] at g
    split at g
    · cases g
    · cases g
      exact ⟨k_tok_adv (by omega) h, (k_nx h).2⟩
  · rw [if_neg c2] at g
    split at g
    · cases g
    · rename_i j hj
      cases g
      refine ⟨k_tok_adv (fun z => ?_) h, (k_nx h).2⟩
      have h3 := (g_find_lt hj).2.2
      unfold k_is at h3
      rw [z] at h3
      simp at h3
theorem h_cmp_mono {X : Pal} {B : Nat → Nat} {E q : Nat} {r : (Nat → Bool) × Nat} (h : q ≤ E) (g : h_cmp X B E q = .inr r) : q < r.2 ∧ r.2 ≤ E := by
  unfold h_cmp at g
  split at g
  · cases g
  · rename_i a ha
    have h1 := h_val_mono h ha
    split at g
    · cases g
    · split at g
      · cases g
      · rename_i b hb
        have h2 := h_val_mono (k_nx h1.2).2 hb
        have h3 := k_nx (B := B) h1.2
        cases g
        exact ⟨by show q < b.2; omega, h2.2⟩
theorem h_tl_mono {B : Nat → Nat} {E : Nat} {fac : Nat → (Nat × Nat) ⊕ ((Nat → Bool) × Nat)} (hf : ∀ q r, q ≤ E → fac q = .inr r → q < r.2 ∧ r.2 ≤ E) : ∀ {f q : Nat} {any all : Nat → Bool} {r : (Nat → Bool) × Nat}, q ≤ E → h_tl B E fac f any all q = .inr r → q < r.2 ∧ r.2 ≤ E
  | 0, q, any, all, r, h, g => by cases g
  | f + 1, q, any, all, r, h, g => by
    unfold h_tl at g
    split at g
    · cases g
    · rename_i r1 h1
      have k1 := hf q r1 h h1
      have k2 := k_nx (B := B) k1.2
      split at g
      · have k3 := h_tl_mono hf k2.2 g
        exact ⟨by omega, k3.2⟩
      · split at g
        · have k3 := h_tl_mono hf k2.2 g
          exact ⟨by omega, k3.2⟩
        · cases g
          exact k1
theorem h_fac_mono {X : Pal} {B : Nat → Nat} {E : Nat} : ∀ {k q : Nat} {r : (Nat → Bool) × Nat}, q ≤ E → h_fac X B E k q = .inr r → q < r.2 ∧ r.2 ≤ E
  | 0, q, r, h, g => by
    unfold h_fac at g
    split at g
    · cases g
    · exact h_cmp_mono h g
  | k + 1, q, r, h, g => by
    have k1 := k_nx (B := B) h
    unfold h_fac at g
    split at g
    · split at g
      · cases g
      · rename_i r1 h1
        have k2 := h_fac_mono k1.2 h1
        cases g
        exact ⟨by show q < r1.2; omega, k2.2⟩
    · split at g
      · split at g
        · cases g
        · rename_i r1 h1
          have k2 := h_tl_mono (fun q r hq g => h_fac_mono hq g) k1.2 h1
          have k3 := k_nx (B := B) k2.2
          split at g
          · cases g
            exact ⟨by show q < (k_tok B E r1.2).2.2; omega, k3.2⟩
          · cases g
      · exact h_cmp_mono h g
theorem k_is_adv {B : Nat → Nat} {E q : Nat} {x : List Nat} (h : q ≤ E) (g : k_is B (k_tok B E q) x = true) : q < (k_tok B E q).2.2 := k_tok_adv (fun z => by
  unfold k_is at g
  rw [z] at g
  simp at g) h
section QRB
variable {P : aCall} {d : Nat} {σ : aSt} {X : Pal} {B : Nat → Nat} {E q : Nat}
theorem s_comparison (H : Pm P) (hd : 3 ≤ d) (h : Sh σ) (V : Vd X) (Q : QS σ X) (T : TG σ B E q) (F : EF σ none) : RQ (a_call a_tab P d 86 [.ref 226, .ref 220] σ) σ B E (X.1 1) (h_cmp X B E q) := by
  have h20 := V.1.2
  rw [n_X2_comparison (by omega), b_X2_comparison_0 h]
  unfold h_cmp
  rcases s_operand (P := P) (d := d - 1) H (by omega) h T F with ⟨a, q1, g1, oa, s1, e1, m1, T1, F1⟩ | ⟨e, g1, s1, e1, m1, T1, F1⟩
  rotate_left
  · rw [g1, e1, g_v, b_X2_comparison_5 (m1.sh h), s_failed (by omega) (m1.sh h) F1, g_v, b_X2_comparison_10 (m1.sh h), if_neg (show ¬ b_n (some e).isSome = 0 from b_n_t)]
    exact ⟨s1, _, q, rfl, m1, T1, F1⟩
  have h1 := m1.sh h
  rw [g1, e1, g_v, b_X2_comparison_5 h1, s_failed (by omega) h1 F1, g_v, b_X2_comparison_10 h1, if_pos (show b_n (none : Option (Nat × Nat)).isSome = 0 from rfl), s_isSign (by omega) h1 T1 (by decide), g_v, b_X2_comparison_21 h1, s_isSign (by omega) h1 T1 (by decide), g_v, b_X2_comparison_28 h1]
  (try dsimp only)
  -- behind the operator: less, greater, operator
  have go : ∀ (l g : Bool) (o : Nat), h_op B (k_tok B E q1) = some o → (∀ a b : Nat, h_do o a b = (if l then decide (a < b) else if g then decide (b < a) else decide (a = b))) →
      RQ (b_R (a_call a_tab P (d - 1)) kX2_comparison [] (56, [some (.ref 226), some (.ref 220), some (.int (h_en a)), some (.int (b_n l)), some (.int (b_n g)), none, none, none, none], [], s1)) σ B E (X.1 1) (match h_op B (k_tok B E q1) with
      | none => .inl (1, (k_tok B E q1).2.1)
      | some o => match h_val B E (k_tok B E q1).2.2 with
        | .inl e => .inl e
        | .inr b => .inr (fun m => h_do o (h_ov X a m) (h_ov X b.1 m), b.2)) := by
    intro l g o ho hdo
    rw [ho]
    obtain ⟨s2, e2, m2, T2⟩ := s_adv (P := P) (d := d - 1) H (by omega) h1 T1
    have h2 := m2.sh h1
    have F2 := F1.mo m2 (by unfold S3; omega) (by unfold S3; omega)
    have n2 := m1.tr (m2.mono fun b k z => z.st)
    rw [b_X2_comparison_56 h1, e2, g_n, b_X2_comparison_60 h2]
    -- the loop over the mixes
    have loop : ∀ (s : aSt) (b : Nat ⊕ Nat), Sh s → QS s X → ((∃ n, b = .inl n ∧ n ≤ 9999) ∨ ∃ j, b = .inr j ∧ j < 8) → b_R (a_call a_tab P (d - 1)) kX2_comparison [] (65, [some (.ref 226), some (.ref 220), some (.int (h_en a)), some (.int (b_n l)), some (.int (b_n g)), none, none, none, none], [.int (h_en b)], s) = some (.inl (some (.int (nI (h_set (X.1 1) (fun m => h_do o (h_ov X a m) (h_ov X b m)))))), s) := by
      intro s b hs Q ob
      rw [b_X2_comparison_65]
      obtain ⟨oz, -, ez⟩ := up_st0 (run := fun i oz => b_R (a_call a_tab P (d - 1)) kX2_comparison [] (73, [some (.ref 226), some (.ref 220), some (.int (h_en a)), some (.int (b_n l)), some (.int (b_n g)), some (.int (h_en b)), some (.int (nI (h_set i (fun m => h_do o (h_ov X a m) (h_ov X b m))))), some (.int (nI i)), oz], [], s)) (n := X.1 1) (s := none) (fun _ _ => True) trivial
        (fun i oz hi _ => by
          have ba : h_ov X a i ≤ 9999 := by
            rcases oa with ⟨n, rfl, hn⟩ | ⟨j, rfl, hj⟩
            · exact hn
            · exact h_pr_lt V hi
          have bb : h_ov X b i ≤ 9999 := by
            rcases ob with ⟨n, rfl, hn⟩ | ⟨j, rfl, hj⟩
            · exact hn
            · exact h_pr_lt V hi
          refine ⟨some (.int (if h_ov X a i < h_ov X b i then -1 else if h_ov X a i = h_ov X b i then 0 else 1)), trivial, ?_⟩
          (try dsimp only)
          rw [b_X2_comparison_73 hs, Q.1.2.2.1, if_pos (nIl hi (by omega)), s_numberOf (by omega) hs Q hi oa, g_v, b_X2_comparison_92 hs, s_numberOf (by omega) hs Q hi ob, g_v, b_X2_comparison_100, s_cmp H, g_v, b_X2_comparison_103, q_cmp_lt (by omega) (by omega)]
          obtain ⟨z1, z2, z3⟩ := h_cz (h_ov X a i) (h_ov X b i)
          obtain ⟨z, hz⟩ : ∃ z : Int32, z = (if h_ov X a i < h_ov X b i then -1 else if h_ov X a i = h_ov X b i then 0 else 1) := ⟨_, rfl⟩
          rw [← hz] at z1 z2 z3 ⊢
          have key : ∀ c : Bool, c = h_do o (h_ov X a i) (h_ov X b i) → (if c = true then b_R (a_call a_tab P (d - 1)) kX2_comparison [] (135, [some (.ref 226), some (.ref 220), some (.int (h_en a)), some (.int (b_n l)), some (.int (b_n g)), some (.int (h_en b)), some (.int (nI (h_set i (fun m => h_do o (h_ov X a m) (h_ov X b m))))), some (.int (nI i)), some (.int z)], [], s) else b_R (a_call a_tab P (d - 1)) kX2_comparison [] (144, [some (.ref 226), some (.ref 220), some (.int (h_en a)), some (.int (b_n l)), some (.int (b_n g)), some (.int (h_en b)), some (.int (nI (h_set i (fun m => h_do o (h_ov X a m) (h_ov X b m))))), some (.int (nI i)), some (.int z)], [], s)) = b_R (a_call a_tab P (d - 1)) kX2_comparison [] (73, [some (.ref 226), some (.ref 220), some (.int (h_en a)), some (.int (b_n l)), some (.int (b_n g)), some (.int (h_en b)), some (.int (nI (h_set (i + 1) (fun m => h_do o (h_ov X a m) (h_ov X b m))))), some (.int (nI (i + 1))), some (.int z)], [], s) := by
            intro c hc
            cases c with
            | true =>
              rw [if_pos rfl, b_X2_comparison_135, h_set_1 (by omega) (p := fun m => h_do o (h_ov X a m) (h_ov X b m)) hc.symm, b_X2_comparison_144, nI_add]
            | false =>
              rw [if_neg Bool.false_ne_true, b_X2_comparison_144, h_set_0 (p := fun m => h_do o (h_ov X a m) (h_ov X b m)) hc.symm, nI_add]
          refine Eq.trans ?_ ((key _ rfl).trans (by rw [hz]))
          rw [hdo]
          cases l with
          | true =>
            rw [if_neg (by decide), if_pos rfl]
            by_cases c : h_ov X a i < h_ov X b i
            · rw [if_pos (z1.mpr c), decide_eq_true c, if_pos rfl]
            · rw [if_neg (fun w => c (z1.mp w)), decide_eq_false c, if_neg Bool.false_ne_true]
          | false =>
            rw [if_pos (by decide), if_neg Bool.false_ne_true]
            cases g with
            | true =>
              rw [if_neg (by decide), if_pos rfl]
              by_cases c : h_ov X b i < h_ov X a i
              · rw [if_pos (z2.mpr c), decide_eq_true c, if_pos rfl]
              · rw [if_neg (fun w => c (z2.mp w)), decide_eq_false c, if_neg Bool.false_ne_true]
            | false =>
              rw [if_pos (by decide), if_neg Bool.false_ne_true]
              by_cases c : h_ov X a i = h_ov X b i
              · rw [if_pos (z3.mpr c), decide_eq_true c, if_pos rfl]
              · rw [if_neg (fun w => c (z3.mp w)), decide_eq_false c, if_neg Bool.false_ne_true])
      refine ez.trans ?_
      (try dsimp only)
      rw [b_X2_comparison_73 hs, Q.1.2.2.1, if_neg (nIn (Nat.le_refl _) (by omega))]
    rcases s_operand (P := P) (d := d - 1) H (by omega) h2 T2 F2 with ⟨b, q2, g3, ob, s3, e3, m3, T3, F3⟩ | ⟨e, g3, s3, e3, m3, T3, F3⟩
    · have n3 := n2.tr m3
      rw [e3, g_v, loop s3 b (m3.sh h2) (Q.mo n3 fun b k z => z.lt) ob]
      (try dsimp only)
      rw [g3]
      exact ⟨s3, rfl, n3, T3, F3⟩
    · have n3 := n2.tr m3
      rw [e3, g_v, loop s3 (.inl 0) (m3.sh h2) (Q.mo n3 fun b k z => z.lt) (.inl ⟨0, rfl, by decide⟩)]
      (try dsimp only)
      rw [g3]
      exact ⟨s3, _, _, rfl, n3, T3, F3⟩
  cases c60 : k_sg B (k_tok B E q1) 60 with
  | true =>
    rw [if_neg (by decide)]
    exact go true _ 0 (by unfold h_op; rw [c60]; rfl) (fun a b => rfl)
  | false =>
    rw [if_pos (by decide)]
    cases c62 : k_sg B (k_tok B E q1) 62 with
    | true =>
      rw [if_neg (by decide)]
      exact go false true 1 (by unfold h_op; rw [c60, c62]; rfl) (fun a b => rfl)
    | false =>
      rw [if_pos (by decide), s_isSign (by omega) h1 T1 (by decide), g_v, b_X2_comparison_45 h1]
      cases c61 : k_sg B (k_tok B E q1) 61 with
      | true =>
        rw [if_neg (by decide)]
        exact go false false 2 (by unfold h_op; rw [c60, c62, c61]; rfl) (fun a b => rfl)
      | false =>
        obtain ⟨s2, e2, m2, T2, F2⟩ := s_fail (P := P) (d := d - 1) (by omega) h1 T1 F1 (c := 1) (by decide) (by decide)
        rw [if_pos (by decide), e2, g_v, b_X2_comparison_53, show h_op B (k_tok B E q1) = none from by unfold h_op; rw [c60, c62, c61]; rfl]
        exact ⟨s2, _, q1, rfl, m1.tr (m2.mono fun b k z => z.st), T2, F2⟩
/-- a test out of its factors -/
theorem s_test_of (H : Pm P) (hd : 2 ≤ d) {σ0 : aSt} {k : Nat} {fac : Nat → (Nat × Nat) ⊕ ((Nat → Bool) × Nat)} (hE : E ≤ 200) (hm : ∀ q r, q ≤ E → fac q = .inr r → q < r.2 ∧ r.2 ≤ E) {op : Int32}
    (hf : ∀ s q, Sh s → QS s X → TG s B E q → EF s none → RQ (a_call a_tab P (d - 1) 85 [.ref 226, .ref 220, .int op] s) s B E (X.1 1) (fac q))
    (h : Sh σ) (Q : QS σ X) (T : TG σ B E q) (F : EF σ none) : RQ (a_call a_tab P d 84 [.ref 226, .ref 220, .int op] σ) σ B E (X.1 1) (h_tl B E fac 200 (fun _ => false) (fun _ => true) q) := by
  rw [n_X2_test (by omega), b_X2_test_0 h, Q.2]
  have loop : ∀ f i any all q s, i + f = 200 → 2 * i ≤ q → Mo St σ s → TG s B E q → EF s none → RQ (b_R (a_call a_tab P (d - 1)) kX2_test [] (11, [some (.ref 226), some (.ref 220), some (.int op), some (.int (nI (h_set (X.1 1) any))), some (.int (nI (h_set (X.1 1) all))), some (.int (nI i))], [], s)) σ B E (X.1 1) (h_tl B E fac f any all q) := by
    intro f
    induction f with
    | zero =>
      intro i any all q s hi hq m T F
      have := T.2.1
      omega
    | succ f ih =>
      intro i any all q s hi hq m T F
      have hs := m.sh h
      have Qs := Q.mo m fun b k z => z.lt
      have hqE := T.2.1
      have hfac := hf s q hs Qs T F
      rw [b_X2_test_11 hs, if_pos (nIl (by omega) (by decide)), s_failed (by omega) hs F, g_v, b_X2_test_23 hs, if_pos (show b_n (none : Option (Nat × Nat)).isSome = 0 from rfl)]
      unfold h_tl
      cases hg : fac q with
      | inl e =>
        rw [hg] at hfac
        obtain ⟨s1, v, q1, e1, m1, T1, F1⟩ := hfac
        have h1 := m1.sh hs
        have n1 := m.tr m1
        -- nothing more is read
        have stop : ∀ s' q' x3 x4 x5, Mo St σ s' → TG s' B E q' → EF s' (some e) → ∃ σ' v q', b_R (a_call a_tab P (d - 1)) kX2_test [] (11, [some (.ref 226), some (.ref 220), some (.int op), some (.int x3), some (.int x4), some (.int x5)], [], s') = some (.inl (some (.int v)), σ') ∧ Mo St σ σ' ∧ TG σ' B E q' ∧ EF σ' (some e) := by
          intro s' q' x3 x4 x5 m' T' F'
          have h' := m'.sh h
          refine ⟨s', x3, q', ?_, m', T', F'⟩
          rw [b_X2_test_11 h']
          split
          · rw [s_failed (by omega) h' F', g_v, b_X2_test_23 h', if_neg (show ¬ b_n (some e).isSome = 0 from b_n_t), b_X2_test_85]
          · rw [b_X2_test_85]
        rw [e1, g_v, b_X2_test_34 h1, s_isW H (by omega) h1 T1 (by decide) (by decide), g_v, b_X2_test_43 h1]
        cases c9 : k_is B (k_tok B E q1) (q_txt 9) with
        | true =>
          obtain ⟨s2, e2, m2, T2⟩ := s_adv (P := P) (d := d - 1) H (by omega) h1 T1
          rw [if_neg (by decide), e2, g_n, b_X2_test_50, b_X2_test_79]
          exact stop s2 _ _ _ _ (n1.tr (m2.mono fun b k z => z.st)) T2 (F1.mo m2 (by unfold S3; omega) (by unfold S3; omega))
        | false =>
          rw [if_pos (by decide), s_isW H (by omega) h1 T1 (by decide) (by decide), g_v, b_X2_test_64 h1]
          cases c10 : k_is B (k_tok B E q1) (q_txt 10) with
          | false =>
            rw [if_pos (by decide)]
            exact ⟨s1, _, q1, rfl, n1, T1, F1⟩
          | true =>
            obtain ⟨s2, e2, m2, T2⟩ := s_adv (P := P) (d := d - 1) H (by omega) h1 T1
            rw [if_neg (by decide), e2, g_n, b_X2_test_79]
            exact stop s2 _ _ _ _ (n1.tr (m2.mono fun b k z => z.st)) T2 (F1.mo m2 (by unfold S3; omega) (by unfold S3; omega))
      | inr r =>
        rw [hg] at hfac
        obtain ⟨s1, e1, m1, T1, F1⟩ := hfac
        have h1 := m1.sh hs
        have n1 := m.tr m1
        have Q1 := Q.mo n1 fun b k z => z.lt
        have k1 := hm q r hqE hg
        (try dsimp only)
        rw [e1, g_v, b_X2_test_34 h1, h_set_and, s_isW H (by omega) h1 T1 (by decide) (by decide), g_v, b_X2_test_43 h1]
        cases c9 : k_is B (k_tok B E r.2) (q_txt 9) with
        | true =>
          obtain ⟨s2, e2, m2, T2⟩ := s_adv (P := P) (d := d - 1) H (by omega) h1 T1
          have k2 := k_is_adv k1.2 c9
          rw [if_neg (by decide), if_pos rfl, e2, g_n, b_X2_test_50, b_X2_test_79, nI_add]
          exact ih (i + 1) _ _ _ s2 (by omega) (by omega) (n1.tr (m2.mono fun b k z => z.st)) T2 (F1.mo m2 (by unfold S3; omega) (by unfold S3; omega))
        | false =>
          rw [if_pos (by decide), if_neg Bool.false_ne_true, h_set_or, s_isW H (by omega) h1 T1 (by decide) (by decide), g_v, b_X2_test_64 h1]
          cases c10 : k_is B (k_tok B E r.2) (q_txt 10) with
          | false =>
            rw [if_pos (by decide), if_neg Bool.false_ne_true]
            exact ⟨s1, rfl, n1, T1, F1⟩
          | true =>
            obtain ⟨s2, e2, m2, T2⟩ := s_adv (P := P) (d := d - 1) H (by omega) h1 T1
            have k2 := k_is_adv k1.2 c10
            rw [if_neg (by decide), if_pos rfl, Q1.2, e2, g_n, b_X2_test_79, nI_add]
            exact ih (i + 1) _ _ _ s2 (by omega) (by omega) (n1.tr (m2.mono fun b k z => z.st)) T2 (F1.mo m2 (by unfold S3; omega) (by unfold S3; omega))
  have e00 : ∀ n, h_set n (fun _ => false) = 0 := fun n => by
    induction n with
    | zero => rfl
    | succ n ih => rw [h_set_0 (p := fun _ => false) rfl, ih]
  have := loop 200 0 (fun _ => false) (fun _ => true) q σ rfl (Nat.zero_le _) Mo.rf T F
  rw [e00] at this
  exact this
theorem s_factor (H : Pm P) (hE : E ≤ 200) (V : Vd X) : ∀ (k d : Nat), 5 + 2 * k ≤ d → k ≤ 6 → ∀ σ q, Sh σ → QS σ X → TG σ B E q → EF σ none → RQ (a_call a_tab P d 85 [.ref 226, .ref 220, .int (nI (6 - k))] σ) σ B E (X.1 1) (h_fac X B E k q) := by
  intro k
  induction k with
  | zero =>
    intro d hd hk σ q h Q T F
    rw [n_X2_factor (by omega), b_X2_factor_0 h, s_isW H (by omega) h T (by decide) (by decide), g_v, b_X2_factor_6 h]
    unfold h_fac
    have bad : ∀ x3, ∃ σ' v q', b_R (a_call a_tab P (d - 1)) kX2_factor [] (26, [some (.ref 226), some (.ref 220), some (.int (nI (6 - 0))), some (.int x3), none], [], σ) = some (.inl (some (.int v)), σ') ∧ Mo St σ σ' ∧ TG σ' B E q' ∧ EF σ' (some (3, (k_tok B E q).2.1)) := by
      intro x3
      obtain ⟨s1, e1, m1, T1, F1⟩ := s_fail (P := P) (d := d - 1) (by omega) h T F (c := 3) (by decide) (by decide)
      refine ⟨s1, nI 0, q, ?_, m1.mono fun b k z => z.st, T1, F1⟩
      rw [b_X2_factor_26 h, if_neg (by decide), e1, g_v, b_X2_factor_37]
    cases c11 : k_is B (k_tok B E q) (q_txt 11) with
    | true =>
      rw [if_neg (by decide), Bool.true_or, if_pos rfl]
      exact bad _
    | false =>
      rw [if_pos (by decide), Bool.false_or, s_isSign (by omega) h T (by decide), g_v, b_X2_factor_17 h]
      cases c40 : k_sg B (k_tok B E q) 40 with
      | true =>
        rw [if_neg (by decide), if_pos rfl]
        exact bad _
      | false =>
        rw [if_pos (by decide), if_neg Bool.false_ne_true]
        have hc := s_comparison (P := P) (d := d - 1) H (by omega) h V Q T F
        cases hg : h_cmp X B E q with
        | inl e =>
          rw [hg] at hc
          obtain ⟨s1, v, q1, e1, m1, T1, F1⟩ := hc
          exact ⟨s1, v, q1, by rw [e1, g_v, b_X2_factor_25], m1, T1, F1⟩
        | inr r =>
          rw [hg] at hc
          obtain ⟨s1, e1, m1, T1, F1⟩ := hc
          exact ⟨s1, by rw [e1, g_v, b_X2_factor_25], m1, T1, F1⟩
  | succ k ih =>
    intro d hd hk σ q h Q T F
    rw [n_X2_factor (by omega), b_X2_factor_0 h, s_isW H (by omega) h T (by decide) (by decide), g_v, b_X2_factor_6 h]
    unfold h_fac
    obtain ⟨s1, e1, m1, T1⟩ := s_adv (P := P) (d := d - 1) H (by omega) h T
    have n1 : Mo St σ s1 := m1.mono fun b k z => z.st
    have h1 := m1.sh h
    have Q1 := Q.mo n1 fun b k z => z.lt
    have F1 := F.mo m1 (by unfold S3; omega) (by unfold S3; omega)
    have eo : nI (6 - (k + 1)) + nI 1 = nI (6 - k) := by rw [nI_add]; congr 1; omega
    cases c11 : k_is B (k_tok B E q) (q_txt 11) with
    | true =>
      rw [if_neg (by decide), if_pos rfl, b_X2_factor_26 h, if_pos (nIl (by omega) (by decide)), e1, g_n, b_X2_factor_44 h1, if_neg (by decide), eo, Q1.2]
      have hc := ih (d - 1) (by omega) (by omega) s1 _ h1 Q1 T1 F1
      cases hg : h_fac X B E k (k_tok B E q).2.2 with
      | inl e =>
        rw [hg] at hc
        obtain ⟨s2, v, q2, e2, m2, T2, F2⟩ := hc
        exact ⟨s2, _, q2, by rw [e2, g_v, b_X2_factor_60], n1.tr m2, T2, F2⟩
      | inr r =>
        rw [hg] at hc
        obtain ⟨s2, e2, m2, T2, F2⟩ := hc
        exact ⟨s2, by rw [e2, g_v, b_X2_factor_60, h_set_not], n1.tr m2, T2, F2⟩
    | false =>
      rw [if_pos (by decide), if_neg Bool.false_ne_true, s_isSign (by omega) h T (by decide), g_v, b_X2_factor_17 h]
      cases c40 : k_sg B (k_tok B E q) 40 with
      | true =>
        rw [if_neg (by decide), if_pos rfl, b_X2_factor_26 h, if_pos (nIl (by omega) (by decide)), e1, g_n, b_X2_factor_44 h1, if_pos (by decide), eo]
        have hc := s_test_of (P := P) (d := d - 1) (k := k) (σ0 := σ) H (by omega) hE (fun q r hq g => h_fac_mono hq g) (fun s q hs Qs Ts Fs => ih (d - 1 - 1) (by omega) (by omega) s q hs Qs Ts Fs) h1 Q1 T1 F1
        cases hg : h_tl B E (h_fac X B E k) 200 (fun _ => false) (fun _ => true) (k_tok B E q).2.2 with
        | inl e =>
          rw [hg] at hc
          obtain ⟨s2, v, q2, e2, m2, T2, F2⟩ := hc
          have h2 := m2.sh h1
          rcases s_takeSign (P := P) (d := d - 1) H (by omega) h2 T2 F2 (c := 41) (by decide) with ⟨-, s3, e3, m3, T3, F3⟩ | ⟨-, s3, e3, m3, T3, F3⟩
          · exact ⟨s3, v, _, by rw [e2, g_v, b_X2_factor_72 h2, e3, g_v, b_X2_factor_80], (n1.tr m2).tr m3, T3, F3⟩
          · exact ⟨s3, v, _, by rw [e2, g_v, b_X2_factor_72 h2, e3, g_v, b_X2_factor_80], (n1.tr m2).tr m3, T3, F3⟩
        | inr r =>
          rw [hg] at hc
          obtain ⟨s2, e2, m2, T2, F2⟩ := hc
          have h2 := m2.sh h1
          (try dsimp only)
          rcases s_takeSign (P := P) (d := d - 1) H (by omega) h2 T2 F2 (c := 41) (by decide) with ⟨g3, s3, e3, m3, T3, F3⟩ | ⟨g3, s3, e3, m3, T3, F3⟩
          · rw [g3, if_pos rfl]
            exact ⟨s3, by rw [e2, g_v, b_X2_factor_72 h2, e3, g_v, b_X2_factor_80], (n1.tr m2).tr m3, T3, F3⟩
          · rw [g3, if_neg Bool.false_ne_true]
            exact ⟨s3, _, _, by rw [e2, g_v, b_X2_factor_72 h2, e3, g_v, b_X2_factor_80], (n1.tr m2).tr m3, T3, F3⟩
      | false =>
        rw [if_pos (by decide), if_neg Bool.false_ne_true]
        have hc := s_comparison (P := P) (d := d - 1) H (by omega) h V Q T F
        cases hg : h_cmp X B E q with
        | inl e =>
          rw [hg] at hc
          obtain ⟨s2, v, q2, e2, m2, T2, F2⟩ := hc
          exact ⟨s2, v, q2, by rw [e2, g_v, b_X2_factor_25], m2, T2, F2⟩
        | inr r =>
          rw [hg] at hc
          obtain ⟨s2, e2, m2, T2, F2⟩ := hc
          exact ⟨s2, by rw [e2, g_v, b_X2_factor_25], m2, T2, F2⟩
end QRB
