/-! PaletteTubes: spare, closest, twins, loss, the quotients -/
def z_spare (X : Pal) : Option Nat := (q_fold (fun t s => if z_use X t = true ∧ z_users X t < s.2 then (some t, z_users X t) else s) (X.1 0) 0 ((none, 21) : Option Nat × Nat)).1
def z_mfar (X : Pal) (m o : Nat) : Nat := z_far (z_col X (X.2 1 m)) (z_col X (X.2 1 o))
def z_clo1 (X : Pal) (m : Nat) (o : Nat) (s : Option Nat × Nat) : Option Nat × Nat := if z_mfar X m o < s.2 then (some (100 * m + o), z_mfar X m o) else s
def z_clo (X : Pal) : Option Nat := (q_fold (fun m s => q_fold (z_clo1 X m) (X.1 1 - (m + 1)) (m + 1) s) (X.1 1) 0 ((none, 1000000) : Option Nat × Nat)).1
def z_twi1 (X : Pal) (m : Nat) (o : Nat) (s : Nat) : Nat := if z_col X (X.2 1 m) = z_col X (X.2 1 o) then s + 1 else s
def z_twi (X : Pal) : Nat := q_fold (fun m s => q_fold (z_twi1 X m) (X.1 1 - (m + 1)) (m + 1) s) (X.1 1) 0 0
def z_mean (X : Pal) : UInt64 := if z_inuse X = 0 then FP.dconst0 else FP.ddiv (FP.i2d (nI (z_drops X false))) (FP.i2d (nI (z_inuse X)))
def z_brsh (X : Pal) : UInt32 := if X.1 1 = 0 then FP.fconst0 else FP.fdiv (FP.i2f (nI (z_nbro X))) (FP.i2f (nI (X.1 1)))
theorem z_inuse_le {X : Pal} (V : Vd X) : z_inuse X ≤ 20 := Nat.le_trans (q_s_le (b := 1) fun i _ => z_1le _) (by have := V.1.1; omega)
theorem z_users_le {X : Pal} (V : Vd X) {t : Nat} : z_users X t ≤ 20 := Nat.le_trans (q_s_le (b := 1) fun i _ => z_1le _) (by have := V.1.2; omega)
theorem z_nbro_le {X : Pal} (V : Vd X) : z_nbro X ≤ 20 := Nat.le_trans (q_s_le (b := 1) fun i _ => z_1le _) (by have := V.1.2; omega)
/-- no quotient of an int by another that isn't 0 is a NaN (proved where the whole library is read) -/
def FPk : Prop := ∀ a b : Int32, b ≠ 0 → (FP.ddiv (FP.i2d a) (FP.i2d b) &&& 0x7fffffffffffffff ≤ 0x7ff0000000000000) ∧ (FP.fdiv (FP.i2f a) (FP.i2f b) &&& 0x7fffffff ≤ 0x7f800000)
section QSV
variable {P : aCall} {d : Nat} {σ : aSt} {X : Pal} {t : Nat} {x y z : Int32}
theorem s_spare (hd : 6 ≤ d) (h : Sh σ) (C : CP σ 101 X) (V : Vd X) : a_call a_tab P d 113 [.ref 100] σ = some (.inl (some (.int (g_res (z_spare X)))), σ) := by
  have h20 := V.1.1
  rw [n_X7_spare (by omega), b_X7_spare_0]
  obtain ⟨-, o', e⟩ := up_fo (run := fun i (s : Option Nat × Nat) o => b_R (a_call a_tab P (d - 1)) kX7_spare [] (7, [some (.ref 100), some (.int (g_res s.1)), some (.int (nI s.2)), some (.int (nI i)), o], [], σ)) (n := X.1 0) (F := fun t s => if z_use X t = true ∧ z_users X t < s.2 then (some t, z_users X t) else s) (I := fun s => s.2 ≤ 1000000)
    (fun i s o hi hs => by
      have h5 := z_users_le V (t := i)
      obtain ⟨s1, s2⟩ := s
      (try dsimp only)
      have hs : s2 ≤ 1000000 := hs
      rw [b_X7_spare_7 h, show a_I σ 102 2 = _ from C.2.1.2.2.1, if_pos (nIl hi (by omega)), s_usersOf (by omega) C V (by omega), g_v, b_X7_spare_29 h, s_isInUse (by omega) C V hi, g_v, b_X7_spare_39]
      by_cases h7 : z_use X i = true ∧ z_users X i < s2
      · rw [if_pos h7, h7.1]
        have e6 : ¬ b_n true = 0 := by decide
        refine ⟨by show z_users X i ≤ _; omega, some (.int (nI (z_users X i))), ?_⟩
        rw [show ∀ a b : Option (aRes × aSt), (if b_n true = 0 then a else b) = b from fun a b => if_neg e6, if_pos (nIl h7.2 (by omega)), b_X7_spare_53, nI_add]
        rfl
      · rw [if_neg h7]
        refine ⟨hs, some (.int (nI (z_users X i))), ?_⟩
        have e7 : ∀ a b : Option (aRes × aSt), (if b_n (z_use X i) = 0 then b else if nI (z_users X i) < nI s2 then a else b) = b := by
          intro a b
          cases hu : z_use X i with
          | false => exact if_pos (by decide)
          | true => rw [if_neg (by decide), if_neg (nIn (Nat.le_of_not_lt fun z => h7 ⟨hu, z⟩) (by omega))]
        rw [e7, b_X7_spare_53, nI_add]) (X.1 0) 0 (none, 21) none (by omega) (by decide)
  have e : b_R (a_call a_tab P (d - 1)) kX7_spare [] (7, [some (.ref 100), some (.int (-1)), some (.int (nI 21)), some (.int (nI 0)), none], [], σ) = _ := e
  rw [e, b_X7_spare_7 h, show a_I σ 102 2 = _ from C.2.1.2.2.1, if_neg (nIn (Nat.le_refl _) (by omega))]
  rfl
theorem s_closest (hd : 6 ≤ d) (h : Sh σ) (C : CP σ 101 X) (V : Vd X) : a_call a_tab P d 114 [.ref 100] σ = some (.inl (some (.int (g_res (z_clo X)))), σ) := by
  have h20 := V.1.2
  have er : a_I σ 104 2 = nI (X.1 1) := C.2.2.1.2.2.1
  rw [n_X7_closest (by omega), b_X7_closest_0]
  -- the locals behind the first loop's: colour, other, far
  have loop := up_fo (run := fun i (s : Option Nat × Nat) (o : Option Value) => fun (o4 o5 o6 : Option Value) => b_R (a_call a_tab P (d - 1)) kX7_closest [] (7, [some (.ref 100), some (.int (g_res s.1)), some (.int (nI s.2)), some (.int (nI i)), o4, o5, o6], [], σ)) (n := 0) (F := fun _ s => s) (I := fun s => s.2 ≤ 1000000) (fun i s o hi hs => absurd hi (Nat.not_lt_zero _))
  have inner : ∀ m, m < X.1 1 → ∀ k i s o, i + k = X.1 1 → s.2 ≤ 1000000 → (q_fold (z_clo1 X m) k i s).2 ≤ 1000000 ∧ ∃ o', b_R (a_call a_tab P (d - 1)) kX7_closest [] (43, [some (.ref 100), some (.int (g_res s.1)), some (.int (nI s.2)), some (.int (nI m)), some (.int (nI (z_col X (X.2 1 m)))), some (.int (nI i)), o], [], σ) = b_R (a_call a_tab P (d - 1)) kX7_closest [] (43, [some (.ref 100), some (.int (g_res (q_fold (z_clo1 X m) k i s).1)), some (.int (nI (q_fold (z_clo1 X m) k i s).2)), some (.int (nI m)), some (.int (nI (z_col X (X.2 1 m)))), some (.int (nI (X.1 1))), o'], [], σ) := by
    intro m hm
    exact up_fo (run := fun i (s : Option Nat × Nat) o => b_R (a_call a_tab P (d - 1)) kX7_closest [] (43, [some (.ref 100), some (.int (g_res s.1)), some (.int (nI s.2)), some (.int (nI m)), some (.int (nI (z_col X (X.2 1 m)))), some (.int (nI i)), o], [], σ)) (n := X.1 1) (F := z_clo1 X m) (I := fun s => s.2 ≤ 1000000)
      (fun i s o hi hs => by
        have h5 := z_far_le (z_col X (X.2 1 m)) (z_col X (X.2 1 i))
        have h6 := z_col_lt V (V.m hi)
        have h8 := z_col_lt V (V.m hm)
        obtain ⟨s1, s2⟩ := s
        (try dsimp only)
        have hs : s2 ≤ 1000000 := hs
        rw [b_X7_closest_43 h, er, if_pos (nIl hi (by omega)), s_colourOf (by omega) C V (h := X.2 1) C.2.2.1 hi (V.m hi), g_v, b_X7_closest_76, s_far (by omega) (by omega) (by omega), g_v, b_X7_closest_79]
        unfold z_clo1 z_mfar
        (try dsimp only)
        by_cases h7 : z_far (z_col X (X.2 1 m)) (z_col X (X.2 1 i)) < s2
        · rw [if_pos h7, if_pos (nIl h7 (by omega)), b_X7_closest_98, nI_add, pk_mul, nI_add]
          exact ⟨by show z_far _ _ ≤ _; omega, _, rfl⟩
        · rw [if_neg h7, if_neg (nIn (by omega) (by omega)), b_X7_closest_98, nI_add]
          exact ⟨hs, _, rfl⟩)
  have outer : ∀ k i s o4 o5 o6, i + k = X.1 1 → s.2 ≤ 1000000 → b_R (a_call a_tab P (d - 1)) kX7_closest [] (7, [some (.ref 100), some (.int (g_res s.1)), some (.int (nI s.2)), some (.int (nI i)), o4, o5, o6], [], σ) = some (.inl (some (.int (g_res (q_fold (fun m s => q_fold (z_clo1 X m) (X.1 1 - (m + 1)) (m + 1) s) k i s).1))), σ) := by
    intro k
    induction k with
    | zero =>
      intro i s o4 o5 o6 hi hs
      rw [b_X7_closest_7 h, er, if_neg (nIn (by omega) (by omega))]
      rfl
    | succ k ih =>
      intro i s o4 o5 o6 hi hs
      have hm : i < X.1 1 := by omega
      rw [b_X7_closest_7 h, er, if_pos (nIl hm (by omega)), s_colourOf (by omega) C V (h := X.2 1) C.2.2.1 hm (V.m hm), g_v, b_X7_closest_36, nI_add]
      obtain ⟨h3, o', e⟩ := inner i hm (X.1 1 - (i + 1)) (i + 1) s o6 (by omega) hs
      rw [e, b_X7_closest_43 h, er, if_neg (nIn (Nat.le_refl _) (by omega)), nI_add, ih (i + 1) _ _ _ _ (by omega) h3]
      rfl
  exact outer (X.1 1) 0 (none, 1000000) none none none (by omega) (Nat.le_refl _)
theorem s_twins (hd : 6 ≤ d) (h : Sh σ) (C : CP σ 101 X) (V : Vd X) : a_call a_tab P d 115 [.ref 100] σ = some (.inl (some (.int (nI (z_twi X)))), σ) := by
  have h20 := V.1.2
  have er : a_I σ 104 2 = nI (X.1 1) := C.2.2.1.2.2.1
  rw [n_X7_twins (by omega), b_X7_twins_0]
  have inner : ∀ m, m < X.1 1 → ∀ k i s (o : Option Value), i + k = X.1 1 → True → True ∧ ∃ o' : Option Value, b_R (a_call a_tab P (d - 1)) kX7_twins [] (39, [some (.ref 100), some (.int (nI s)), some (.int (nI m)), some (.int (nI (z_col X (X.2 1 m)))), some (.int (nI i))], [], σ) = b_R (a_call a_tab P (d - 1)) kX7_twins [] (39, [some (.ref 100), some (.int (nI (q_fold (z_twi1 X m) k i s))), some (.int (nI m)), some (.int (nI (z_col X (X.2 1 m)))), some (.int (nI (X.1 1)))], [], σ) := by
    intro m hm
    exact up_fo (run := fun i (s : Nat) _ => b_R (a_call a_tab P (d - 1)) kX7_twins [] (39, [some (.ref 100), some (.int (nI s)), some (.int (nI m)), some (.int (nI (z_col X (X.2 1 m)))), some (.int (nI i))], [], σ)) (n := X.1 1) (F := z_twi1 X m) (I := fun _ => True)
      (fun i s o hi hs => by
        have h6 := z_col_lt V (V.m hi)
        have h8 := z_col_lt V (V.m hm)
        (try dsimp only)
        rw [b_X7_twins_39 h, er, if_pos (nIl hi (by omega)), s_colourOf (by omega) C V (h := X.2 1) C.2.2.1 hi (V.m hi), g_v, b_X7_twins_71]
        unfold z_twi1
        by_cases h7 : z_col X (X.2 1 m) = z_col X (X.2 1 i)
        · rw [if_pos h7, if_pos (by rw [h7]), b_X7_twins_77, nI_add, nI_add]
          exact ⟨trivial, none, rfl⟩
        · rw [if_neg h7, if_neg (fun z => h7 ((o_eq (by omega) (by omega)).mp z)), b_X7_twins_77, nI_add]
          exact ⟨trivial, none, rfl⟩)
  have outer : ∀ k i s o3 o4, i + k = X.1 1 → b_R (a_call a_tab P (d - 1)) kX7_twins [] (4, [some (.ref 100), some (.int (nI s)), some (.int (nI i)), o3, o4], [], σ) = some (.inl (some (.int (nI (q_fold (fun m s => q_fold (z_twi1 X m) (X.1 1 - (m + 1)) (m + 1) s) k i s)))), σ) := by
    intro k
    induction k with
    | zero =>
      intro i s o3 o4 hi
      rw [b_X7_twins_4 h, er, if_neg (nIn (by omega) (by omega))]
      rfl
    | succ k ih =>
      intro i s o3 o4 hi
      have hm : i < X.1 1 := by omega
      rw [b_X7_twins_4 h, er, if_pos (nIl hm (by omega)), s_colourOf (by omega) C V (h := X.2 1) C.2.2.1 hm (V.m hm), g_v, b_X7_twins_33, nI_add]
      obtain ⟨-, -, e⟩ := inner i hm (X.1 1 - (i + 1)) (i + 1) s none (by omega) trivial
      rw [e, b_X7_twins_39 h, er, if_neg (nIn (Nat.le_refl _) (by omega)), nI_add, ih (i + 1) _ _ _ (by omega)]
      rfl
  exact outer (X.1 1) 0 0 none none (by omega)
def o_loss (X : Pal) (x : Int32) : Nat ⊕ Int32 := if o_nat x < X.1 1 then .inr (let a := z_col X (X.2 1 (o_nat x)); z_fig X a (z_near X a 3) 3) else .inl 0
theorem s_loss (H : Pm P) (hd : 7 ≤ d) (h : Sh σ) (C : CP σ 101 X) (V : Vd X) : OQ (a_call a_tab P d 116 [.ref 100, .int x] σ) σ (o_loss X x) := by
  obtain ⟨m, rfl, ht⟩ := o_ex x
  unfold o_loss
  rw [ht]
  by_cases h1 : m < X.1 1
  · rw [if_pos h1]
    have h8 := z_col_lt V (V.m h1)
    obtain ⟨s1, e1, m1, -, R⟩ := s_run (P := P) (d := d - 1) (aim := z_col X (X.2 1 m)) (k := 3) H (by omega) h (by decide) C V (by omega) (by decide)
    refine ⟨s1, m1, ?_⟩
    rw [n_X7_loss (by omega), b_X7_loss_0 h, s_rMix (by omega) h C V h1, g_n, b_X7_loss_5 h, s_colourOf (by omega) C V (h := X.2 1) C.2.2.1 h1 (V.m h1), g_v, b_X7_loss_28 h, e1, g_n, b_X7_loss_32 (m1.sh h), s_figure (by omega) (m1.sh h) R (by decide), g_v, b_X7_loss_40]
  · rw [if_neg h1]
    show _ = _
    rw [n_X7_loss (by omega), b_X7_loss_0 h, s_rMixF (by omega) h C V (by rw [ht]; exact h1), g_x]
theorem s_meanDrops (G : FPk) (hd : 6 ≤ d) (h : Sh σ) (C : CP σ 101 X) (V : Vd X) : a_call a_tab P d 117 [.ref 100] σ = some (.inl (some (.double (z_mean X))), σ) := by
  have := z_inuse_le V
  rw [n_X7_meanDrops (by omega), b_X7_meanDrops_0 h, s_tubesInUse (by omega) C V, g_v, b_X7_meanDrops_7 h]
  unfold z_mean
  by_cases h1 : z_inuse X = 0
  · rw [if_pos h1, if_pos (by rw [h1]; rfl), b_X7_meanDrops_28]
  · rw [if_neg h1, if_neg (fun z => h1 ((o_eq0 (by omega)).mp z)), show a_call a_tab P (d - 1) 38 [.ref 101, .int (nI 0)] σ = _ from s_dropsLeft (b := false) (by omega) C V, g_v, b_X7_meanDrops_24, b_gd_t (G _ _ fun z => h1 ((o_eq0 (by omega)).mp z)).1, b_X7_meanDrops_28]
theorem s_brokenShare (G : FPk) (hd : 6 ≤ d) (h : Sh σ) (C : CP σ 101 X) (V : Vd X) : a_call a_tab P d 118 [.ref 100] σ = some (.inl (some (.float (z_brsh X))), σ) := by
  have := V.1.2
  have er : a_I σ 104 2 = nI (X.1 1) := C.2.2.1.2.2.1
  rw [n_X7_brokenShare (by omega), b_X7_brokenShare_0 h, er]
  unfold z_brsh
  by_cases h1 : X.1 1 = 0
  · rw [if_pos h1, if_pos (by rw [h1]; rfl), b_X7_brokenShare_30]
  · rw [if_neg h1, if_neg (fun z => h1 ((o_eq0 (by omega)).mp z)), s_brokenMixes (by omega) C V, g_v, b_X7_brokenShare_26, b_gd_t (G _ _ fun z => h1 ((o_eq0 (by omega)).mp z)).2, b_X7_brokenShare_30]
end QSV
