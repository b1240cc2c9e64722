/-! the model: queries, their codes run -/
theorem nL_of {v : Nat} (h : v < 2147483648) : Int32.toInt64 (nI v) = Int64.ofNat v := by
  rw [← Int64.toInt_inj, Int32.toInt_toInt64, nI_int h, Int64.toInt_ofNat_of_lt (by omega)]
theorem nL_lt {a b : Nat} (ha : a < 2147483648) (hb : b < 2147483648) : Int64.ofNat a < Int64.ofNat b ↔ a < b := by
  rw [Int64.lt_iff_toInt_lt, Int64.toInt_ofNat_of_lt (by omega), Int64.toInt_ofNat_of_lt (by omega)]
  omega
theorem nL_eq {a b : Nat} (ha : a < 2147483648) (hb : b < 2147483648) : Int64.ofNat a = Int64.ofNat b ↔ a = b := by
  rw [← Int64.toInt_inj, Int64.toInt_ofNat_of_lt (by omega), Int64.toInt_ofNat_of_lt (by omega)]
  omega
theorem y_cmp {a b : Nat} (ha : a < 2147483648) (hb : b < 2147483648) : lg_cmp (Int64.ofNat a) (Int64.ofNat b) = if b < a then 1 else if a = b then 0 else -1 := by
  unfold lg_cmp
  by_cases h : b < a
  · rw [if_pos h, if_pos ((nL_lt hb ha).mpr h)]
  · rw [if_neg h, if_neg (fun z => h ((nL_lt hb ha).mp z))]
    by_cases h2 : a = b
    · rw [if_pos h2, if_pos ((nL_eq ha hb).mpr h2)]
    · rw [if_neg h2, if_neg (fun z => h2 ((nL_eq ha hb).mp z))]
/-- what a call leaves, beside the longs -/
def Mq (S : Nat → Nat → Prop) (σ σ' : aSt) : Prop := σ'.1 = σ.1 ∧ σ'.2.2.1 = σ.2.2.1 ∧ σ'.2.2.2.2 = σ.2.2.2.2 ∧ (∀ b k, ¬ S b k → a_I σ' b k = a_I σ b k) ∧ ∀ b k, b ≠ 251 → a_L σ' b k = a_L σ b k
def lx (σ σ' : aSt) : aSt := (σ'.1, σ'.2.1, σ'.2.2.1, σ.2.2.2.1, σ'.2.2.2.2)
theorem Mq.mo {S : Nat → Nat → Prop} {σ σ' : aSt} (m : Mq S σ σ') : Mo S σ (lx σ σ') := by
  refine ⟨m.1, ?_, m.2.2.2.1⟩
  show (σ'.2.2.1, σ.2.2.2.1, σ'.2.2.2.2) = σ.2.2
  rw [m.2.1, m.2.2.1]
theorem Mo.mq {S : Nat → Nat → Prop} {σ σ' : aSt} (m : Mo S σ σ') : Mq S σ σ' := ⟨m.1, by rw [m.2.1], by rw [m.2.1], m.2.2, fun b k _ => m.L b k⟩
theorem Mq.rf {S : Nat → Nat → Prop} {σ : aSt} : Mq S σ σ := Mo.rf.mq
theorem Mq.tr {S : Nat → Nat → Prop} {σ σ' σ'' : aSt} (m : Mq S σ σ') (n : Mq S σ' σ'') : Mq S σ σ'' := ⟨n.1.trans m.1, n.2.1.trans m.2.1, n.2.2.1.trans m.2.2.1, fun b k h => (n.2.2.2.1 b k h).trans (m.2.2.2.1 b k h), fun b k h => (n.2.2.2.2 b k h).trans (m.2.2.2.2 b k h)⟩
theorem Mq.mono {S T : Nat → Nat → Prop} {σ σ' : aSt} (m : Mq S σ σ') (h : ∀ b k, S b k → T b k) : Mq T σ σ' := ⟨m.1, m.2.1, m.2.2.1, fun b k z => m.2.2.2.1 b k fun q => z (h b k q), m.2.2.2.2⟩
theorem Mq.setL {S : Nat → Nat → Prop} {σ : aSt} {k : Nat} {v : Int64} : Mq S σ (a_setL σ 251 k v) := ⟨rfl, rfl, rfl, fun _ _ _ => rfl, fun b j h => if_neg fun z => h z.1⟩
theorem Mq.I {S : Nat → Nat → Prop} {σ σ' : aSt} (m : Mq S σ σ') {b k : Nat} (h : ¬ S b k) : a_I σ' b k = a_I σ b k := m.2.2.2.1 b k h
theorem Mq.sh {S : Nat → Nat → Prop} {σ σ' : aSt} (m : Mq S σ σ') (h : Sh σ) : Sh σ' := show Sh (lx σ σ') from m.mo.sh h
theorem Mq.mc {S : Nat → Nat → Prop} {σ σ' : aSt} {w : Nat} {X : Pal} (m : Mq S σ σ') (M : MC σ w X) (hS : ∀ k, ¬ S w k) : MC σ' w X := show MC (lx σ σ') w X from M.mo m.mo hS
theorem a_L_at {σ : aSt} {a k : Nat} {v : Int64} : a_L (a_setL σ a k v) a k = v := if_pos ⟨rfl, rfl⟩
theorem a_L_off {σ : aSt} {a k b j : Nat} {v : Int64} (h : b ≠ a ∨ j ≠ k) : a_L (a_setL σ a k v) b j = a_L σ b j := if_neg fun z => h.elim (fun q => q z.1) (fun q => q z.2)
section MOY
variable {P : aCall} {d : Nat} {σ : aSt} {X : Pal} {w : Nat}
theorem y_property (H : Pm P) (hd : 4 ≤ d) (h : Sh σ) (M : MC σ w X) (V : Vd X) {m j : Nat} (hm : m < X.1 1) (hj : j < 8) : ∃ σ', a_call a_tab P d 259 [.ref 237, .int (nI m), .int (nI j)] σ = some (.inl (some (.int (nI (h_pr X m j)))), σ') ∧ Mo Sq σ σ' := by
  have G := V.m hm
  obtain ⟨s1, e1, m1, T1⟩ := y_take (P := P) (d := d - 1) (by omega) h M V hm
  have h1 := m1.sh h
  have M1 := M.sq m1
  refine ⟨s1, ?_, m1⟩
  rw [n_X8_property (by omega), b_X8_property_0 h, e1, g_n, b_X8_property_5]
  unfold h_pr
  obtain rfl | rfl | rfl | rfl | rfl | rfl | rfl | rfl : j = 0 ∨ j = 1 ∨ j = 2 ∨ j = 3 ∨ j = 4 ∨ j = 5 ∨ j = 6 ∨ j = 7 := by omega
  · rw [show b_tsw 6 76 0 6 #[42, 44, 49, 54, 54, 54, 62] (nI 0) = 48 from by decide +kernel, b_X8_property_48]; rfl
  · rw [show b_tsw 6 76 0 6 #[42, 44, 49, 54, 54, 54, 62] (nI 1) = 50 from by decide +kernel, b_X8_property_50 h1, T1.1]; rfl
  · rw [show b_tsw 6 76 0 6 #[42, 44, 49, 54, 54, 54, 62] (nI 2) = 55 from by decide +kernel, b_X8_property_55 h1, y_allParts (by omega) h1 T1 G.2.1, g_v, b_X8_property_59]; rfl
  · rw [show b_tsw 6 76 0 6 #[42, 44, 49, 54, 54, 54, 62] (nI 3) = 60 from by decide +kernel, b_X8_property_60 h1, pk_sub (by decide), y_valueHere (by omega) h1 M1 V G T1 (by decide), g_v, b_X8_property_67]; rfl
  · rw [show b_tsw 6 76 0 6 #[42, 44, 49, 54, 54, 54, 62] (nI 4) = 60 from by decide +kernel, b_X8_property_60 h1, pk_sub (by decide), y_valueHere (by omega) h1 M1 V G T1 (by decide), g_v, b_X8_property_67]; rfl
  · rw [show b_tsw 6 76 0 6 #[42, 44, 49, 54, 54, 54, 62] (nI 5) = 60 from by decide +kernel, b_X8_property_60 h1, pk_sub (by decide), y_valueHere (by omega) h1 M1 V G T1 (by decide), g_v, b_X8_property_67]; rfl
  · rw [show b_tsw 6 76 0 6 #[42, 44, 49, 54, 54, 54, 62] (nI 6) = 68 from by decide +kernel, b_X8_property_68 h1, y_isBroken (by omega) h1 M1 V hm, g_v, b_X8_property_73, b_X8_property_81, b_X8_property_81]
    show _ = some ((.inl (some (.int (nI (z_1 (z_bro X (X.2 1 m)))))) : aRes), s1)
    cases z_bro X (X.2 1 m) with
    | true => rw [if_neg (by decide)]; rfl
    | false => rw [if_pos (by decide)]; rfl
  · rw [show b_tsw 6 76 0 6 #[42, 44, 49, 54, 54, 54, 62] (nI 7) = 82 from by decide +kernel, b_X8_property_82 h1, y_strokesOf H (by omega) h1 M1 V hm, g_v, b_X8_property_87]; rfl
/-- what an operator makes of two numbers -/
def z_opr (c : Int32) (a b : Nat) : Nat := if c = -20 then z_1 (decide (a < b)) else if c = -21 then z_1 (decide (a = b)) else if c = -22 then z_1 (decide (b < a)) else if c = -24 then a &&& b else a ||| b
theorem y_operate {a b : Nat} (hd : 1 ≤ d) {c : Int32} (hc : c = -20 ∨ c = -21 ∨ c = -22 ∨ ((c = -24 ∨ c = -25) ∧ a ≤ 1 ∧ b ≤ 1)) (ha : a < 2147483648) (hb : b < 2147483648) : a_call a_tab P d 266 [.int c, .long (Int64.ofNat a), .long (Int64.ofNat b)] σ = some (.inl (some (.long (Int64.ofNat (z_opr c a b)))), σ) := by
  rw [n_X8_operate (by omega), b_X8_operate_0]
  rcases hc with rfl | rfl | rfl | ⟨rfl | rfl, ha1, hb1⟩
  · rw [show b_tsw 1 75 (-24) (-20) #[71, 75, 59, 47, 35] (-20) = 36 from by decide +kernel, b_X8_operate_36, b_X8_operate_47, b_X8_operate_47]
    show _ = some ((.inl (some (.long (Int64.ofNat (z_1 (decide (a < b)))))) : aRes), σ)
    rw [y_cmp ha hb]
    by_cases h : a < b
    · rw [if_neg (show ¬ b < a by omega), if_neg (show ¬ a = b by omega), if_pos (by decide), decide_eq_true h]; rfl
    · rw [decide_eq_false h]
      by_cases h2 : b < a
      · rw [if_pos h2, if_neg (by decide)]; rfl
      · rw [if_neg h2, if_pos (show a = b by omega), if_neg (by decide)]; rfl
  · rw [show b_tsw 1 75 (-24) (-20) #[71, 75, 59, 47, 35] (-21) = 48 from by decide +kernel, b_X8_operate_48, b_X8_operate_59, b_X8_operate_59]
    show _ = some ((.inl (some (.long (Int64.ofNat (z_1 (decide (a = b)))))) : aRes), σ)
    rw [y_cmp ha hb]
    by_cases h : a = b
    · rw [if_neg (show ¬ b < a by omega), if_pos h, if_pos rfl, decide_eq_true h]; rfl
    · rw [decide_eq_false h]
      by_cases h2 : b < a
      · rw [if_pos h2, if_neg (by decide)]; rfl
      · rw [if_neg h2, if_neg h, if_neg (by decide)]; rfl
  · rw [show b_tsw 1 75 (-24) (-20) #[71, 75, 59, 47, 35] (-22) = 60 from by decide +kernel, b_X8_operate_60, b_X8_operate_71, b_X8_operate_71]
    show _ = some ((.inl (some (.long (Int64.ofNat (z_1 (decide (b < a)))))) : aRes), σ)
    rw [y_cmp ha hb]
    by_cases h : b < a
    · rw [if_pos h, if_pos (by decide), decide_eq_true h]; rfl
    · rw [if_neg h, decide_eq_false h]
      by_cases h2 : a = b
      · rw [if_pos h2, if_neg (by decide)]; rfl
      · rw [if_neg h2, if_neg (by decide)]; rfl
  · rw [show b_tsw 1 75 (-24) (-20) #[71, 75, 59, 47, 35] (-24) = 72 from by decide +kernel, b_X8_operate_72]
    show _ = some ((.inl (some (.long (Int64.ofNat (a &&& b)))) : aRes), σ)
    obtain rfl | rfl : a = 0 ∨ a = 1 := by omega
    all_goals (obtain rfl | rfl : b = 0 ∨ b = 1 := by omega) <;> rfl
  · rw [show b_tsw 1 75 (-24) (-20) #[71, 75, 59, 47, 35] (-25) = 76 from by decide +kernel, b_X8_operate_76]
    show _ = some ((.inl (some (.long (Int64.ofNat (a ||| b)))) : aRes), σ)
    obtain rfl | rfl : a = 0 ∨ a = 1 := by omega
    all_goals (obtain rfl | rfl : b = 0 ∨ b = 1 := by omega) <;> rfl
/-- the codes L push v -/
def SG (P : aCall) (d : Nat) (X : Pal) (L : List Int32) (v : Nat → Nat) : Prop := 1 ≤ L.length ∧ ∀ (τ : aSt) (m t p cc : Nat) (o : Option Value), Sh τ → MC τ 238 X → m < X.1 1 → (∀ j, j < L.length → a_I τ 250 (p + j) = L.getD j 0) → p + L.length ≤ cc → a_I τ 237 34 = nI cc → cc ≤ 200 → t + L.length ≤ 200 → ∃ τ' o', b_R (a_call a_tab P d) kX8_holdsFor [] (4, [some (.ref 237), some (.int (nI m)), some (.int (nI t)), some (.int (nI p)), o], [], τ) = b_R (a_call a_tab P d) kX8_holdsFor [] (4, [some (.ref 237), some (.int (nI m)), some (.int (nI (t + 1))), some (.int (nI (p + L.length))), o'], [], τ') ∧ Mq Sq τ τ' ∧ a_L τ' 251 t = Int64.ofNat (v m) ∧ ∀ j, j < t → a_L τ' 251 j = a_L τ 251 j
theorem SG.congr {L : List Int32} {v v' : Nat → Nat} (S : SG P d X L v) (h : ∀ m, m < X.1 1 → v m = v' m) : SG P d X L v' := ⟨S.1, fun τ m t p cc o a1 a2 a3 a4 a5 a6 a7 a8 => by
  obtain ⟨τ', o', e, q, l, f⟩ := S.2 τ m t p cc o a1 a2 a3 a4 a5 a6 a7 a8
  exact ⟨τ', o', e, q, by rw [← h m a3]; exact l, f⟩⟩
theorem SG.push (H : Pm P) (hd : 4 ≤ d) (V : Vd X) {o : Nat ⊕ Nat} (ho : match o with | .inl n => n ≤ 9999 | .inr j => j < 8) : SG P d X [h_en o] (h_ov X o) := by
  refine ⟨Nat.le_refl 1, fun τ m t p cc o1 hτ M hm hL hp hc hcc ht => ?_⟩
  have hp : p + 1 ≤ cc := hp
  have ht : t + 1 ≤ 200 := ht
  have e0 : a_I τ 250 p = h_en o := hL 0 Nat.one_pos
  cases o with
  | inl n =>
    have hn : n ≤ 9999 := ho
    have e0 : a_I τ 250 p = nI n := e0
    have hne : ¬ nI n = -23 := fun z => by
      have h1 := congrArg o_nat z
      rw [o_of (by omega)] at h1
      have h2 : o_nat (-23) = 4294967273 := by decide
      omega
    refine ⟨a_setL τ 251 t (Int64.ofNat n), some (.int (nI n)), ?_, Mq.setL, a_L_at, fun j hj => a_L_off (.inr (by omega))⟩
    rw [b_X8_holdsFor_4 hτ, hc, if_pos (nIl (by omega) (by omega)), b_gd_t (nIi (by omega) (by decide)), nIc (by omega), e0, if_neg hne, if_pos (by rw [Int32.lt_iff_toInt_lt, nI_int (by omega)]; have : (-20 : Int32).toInt = -20 := rfl; omega), if_neg (nIp (by omega)), b_X8_holdsFor_81 hτ, b_gd_t (nIi (by omega) (by decide)), nIc (by omega), b_X8_holdsFor_118, nI_add, nI_add, nL_of (by omega)]
    rfl
  | inr j =>
    have hj : j < 8 := ho
    have e0 : a_I τ 250 p = (-1) - nI j := e0
    obtain ⟨s1, e1, m1⟩ := y_property (P := P) (d := d) H (by omega) hτ M V hm hj
    have h1 := m1.sh hτ
    have hlt : h_pr X m j < 2147483648 := Nat.lt_of_le_of_lt (h_pr_lt V hm) (by decide)
    have hneg : ∀ j, j < 8 → ((-1 : Int32) - nI j ≠ -23) ∧ ((-20 : Int32) < -1 - nI j) ∧ ((-1 : Int32) - nI j < 0) ∧ ((-1 : Int32) - (-1 - nI j) = nI j) := by decide +kernel
    obtain ⟨n1, n2, n3, n4⟩ := hneg j hj
    refine ⟨a_setL s1 251 t (Int64.ofNat (h_pr X m j)), some (.int ((-1) - nI j)), ?_, m1.mq.tr Mq.setL, a_L_at, fun i hi => (a_L_off (.inr (by omega))).trans (m1.L 251 i)⟩
    rw [b_X8_holdsFor_4 hτ, hc, if_pos (nIl (by omega) (by omega)), b_gd_t (nIi (by omega) (by decide)), nIc (by omega), e0, if_neg n1, if_pos n2, if_pos n3, n4, e1, g_v, b_X8_holdsFor_80, b_X8_holdsFor_81 h1, b_gd_t (nIi (by omega) (by decide)), nIc (by omega), b_X8_holdsFor_118, nI_add, nI_add, nL_of hlt]
    rfl
theorem getA {L M : List Int32} {j : Nat} (h : j < L.length) : (L ++ M).getD j 0 = L.getD j 0 := by
  rw [List.getD_eq_getElem?_getD, List.getD_eq_getElem?_getD, List.getElem?_append_left h]
theorem getB {L M : List Int32} {j : Nat} : (L ++ M).getD (L.length + j) 0 = M.getD j 0 := by
  rw [List.getD_eq_getElem?_getD, List.getD_eq_getElem?_getD, List.getElem?_append_right (by omega), show L.length + j - L.length = j by omega]
theorem SG.op (hd : 1 ≤ d) {L1 L2 : List Int32} {v1 v2 : Nat → Nat} {c : Int32} (S1 : SG P d X L1 v1) (S2 : SG P d X L2 v2) (hv : ∀ m, m < X.1 1 → v1 m < 2147483648 ∧ v2 m < 2147483648) (hc : c = -20 ∨ c = -21 ∨ c = -22 ∨ ((c = -24 ∨ c = -25) ∧ ∀ m, m < X.1 1 → v1 m ≤ 1 ∧ v2 m ≤ 1)) : SG P d X (L1 ++ L2 ++ [c]) (fun m => z_opr c (v1 m) (v2 m)) := by
  have la : (L1 ++ L2 ++ [c]).length = L1.length + L2.length + 1 := by rw [List.length_append, List.length_append]; rfl
  have l1 := S1.1
  have l2 := S2.1
  refine ⟨by omega, fun τ m t p cc o1 hτ M hm hL hp hcd hcc ht => ?_⟩
  rw [la] at hL hp ht
  obtain ⟨t1, o1', e1, q1, g1, f1⟩ := S1.2 τ m t p cc o1 hτ M hm (fun j hj => by rw [hL j (by omega), List.append_assoc, getA hj]) (by omega) hcd hcc (by omega)
  have h1 := q1.sh hτ
  have M1 := q1.mc M fun k => by unfold Sq; omega
  obtain ⟨t2, o2', e2, q2, g2, f2⟩ := S2.2 t1 m (t + 1) (p + L1.length) cc o1' h1 M1 hm (fun j hj => by rw [q1.I (by unfold Sq; omega), show p + L1.length + j = p + (L1.length + j) by omega, hL _ (by omega), List.append_assoc, getB, getA hj]) (by omega) (by rw [q1.I (by unfold Sq; omega)]; exact hcd) hcc (by omega)
  have q12 := q1.tr q2
  have h2 := q12.sh hτ
  have ec : a_I t2 250 (p + L1.length + L2.length) = c := by
    rw [q12.I (by unfold Sq; omega), show p + L1.length + L2.length = p + ((L1 ++ L2).length + 0) by rw [List.length_append]; omega, hL _ (by rw [List.length_append]; omega), getB]
    rfl
  obtain ⟨b1, b2⟩ := hv m hm
  have eo := y_operate (P := P) (d := d) (σ := t2) (a := v1 m) (b := v2 m) (c := c) hd (by
    rcases hc with h | h | h | ⟨h, h'⟩
    · exact .inl h
    · exact .inr (.inl h)
    · exact .inr (.inr (.inl h))
    · exact .inr (.inr (.inr ⟨h, (h' m hm).1, (h' m hm).2⟩))) b1 b2
  have hcn : c ≠ -23 ∧ ¬ (-20 : Int32) < c := by
    rcases hc with rfl | rfl | rfl | ⟨rfl | rfl, -⟩ <;> decide
  refine ⟨a_setL t2 251 t (Int64.ofNat (z_opr c (v1 m) (v2 m))), some (.int c), ?_, q12.tr Mq.setL, a_L_at, fun j hj => ?_⟩
  · rw [e1, e2, b_X8_holdsFor_4 h2, show a_I t2 237 34 = nI cc from (q12.I (by unfold Sq; omega)).trans hcd, if_pos (nIl (by omega) (by omega)), b_gd_t (nIi (by omega) (by decide)), nIc (by omega), ec, if_neg hcn.1, if_neg hcn.2, nI_dec, nI_s1, b_gd_t (nIi (by omega) (by decide)), b_gd_t (nIi (by omega) (by decide)), nIc (by omega), nIc (by omega), g2, f2 t (by omega), g1, eo, g_v, b_X8_holdsFor_117 h2, b_gd_t (nIi (by omega) (by decide)), nIc (by omega), b_X8_holdsFor_118, nI_add, la, show p + L1.length + L2.length + 1 = p + (L1.length + L2.length + 1) by omega]
  · rw [a_L_off (.inr (by omega)), f2 j (by omega), f1 j hj]
theorem SG.not {L1 : List Int32} {b : Nat → Bool} (S1 : SG P d X L1 (fun m => z_1 (b m))) : SG P d X (L1 ++ [-23]) (fun m => z_1 (!b m)) := by
  have la : (L1 ++ [(-23 : Int32)]).length = L1.length + 1 := by rw [List.length_append]; rfl
  have l1 := S1.1
  refine ⟨by omega, fun τ m t p cc o1 hτ M hm hL hp hcd hcc ht => ?_⟩
  rw [la] at hL hp ht
  obtain ⟨t1, o1', e1, q1, g1, f1⟩ := S1.2 τ m t p cc o1 hτ M hm (fun j hj => by rw [hL j (by omega), getA hj]) (by omega) hcd hcc (by omega)
  have h1 := q1.sh hτ
  have ec : a_I t1 250 (p + L1.length) = -23 := by
    rw [q1.I (by unfold Sq; omega), show p + L1.length = p + (L1.length + 0) by omega, hL _ (by omega), getB]
    rfl
  have eb : Int64.ofNat 1 - Int64.ofNat (z_1 (b m)) = Int64.ofNat (z_1 (!b m)) := by cases b m <;> decide
  refine ⟨a_setL t1 251 t (Int64.ofNat (z_1 (!b m))), some (.int (-23)), ?_, q1.tr Mq.setL, a_L_at, fun j hj => ?_⟩
  · rw [e1, b_X8_holdsFor_4 h1, show a_I t1 237 34 = nI cc from (q1.I (by unfold Sq; omega)).trans hcd, if_pos (nIl (by omega) (by omega)), b_gd_t (nIi (by omega) (by decide)), nIc (by omega), ec, if_pos rfl, nI_s1, b_gd_t (nIi (by omega) (by decide)), b_gd_t (nIi (by omega) (by decide)), nIc (by omega), g1, b_X8_holdsFor_118, nI_add, la, show p + L1.length + 1 = p + (L1.length + 1) by omega, show Int64.ofNat ((fun m => z_1 (b m)) m) = Int64.ofNat (z_1 (b m)) from rfl, eb]
  · rw [a_L_off (.inr (by omega)), f1 j hj]
/-- the codes that the model has made -/
def CC (σ : aSt) (L : List Int32) : Prop := a_I σ 237 34 = nI L.length ∧ L.length ≤ 200 ∧ ∀ j, j < L.length → a_I σ 250 j = L.getD j 0
theorem y_holdsFor (hd : 1 ≤ d) (h : Sh σ) (M : MC σ 238 X) {L : List Int32} {b : Nat → Bool} (S : SG P (d - 1) X L (fun m => z_1 (b m))) (C : CC σ L) {m : Nat} (hm : m < X.1 1) : ∃ σ', a_call a_tab P d 267 [.ref 237, .int (nI m)] σ = some (.inl (some (.int (b_n (b m)))), σ') ∧ Mq Sq σ σ' := by
  obtain ⟨t1, o1, e1, q1, g1, -⟩ := S.2 σ m 0 0 L.length none h M hm (fun j hj => by rw [Nat.zero_add]; exact C.2.2 j hj) (by omega) C.1 C.2.1 (by have := C.2.1; omega)
  have h1 := q1.sh h
  have g1 : a_L t1 251 0 = Int64.ofNat (z_1 (b m)) := g1
  refine ⟨t1, ?_, q1⟩
  rw [n_X8_holdsFor (by omega), b_X8_holdsFor_0, e1, b_X8_holdsFor_4 h1, show a_I t1 237 34 = nI L.length from (q1.I (by unfold Sq; omega)).trans C.1, Nat.zero_add, if_neg (nIn (Nat.le_refl _) (by have := C.2.1; omega)), b_gd_t (nIi (by decide) (by decide)), nIc (by decide), g1, b_X8_holdsFor_140, b_X8_holdsFor_140, b_gd_t (by decide), b_gd_t (by decide)]
  have hb := z_1le (b m)
  rw [y_cmp (by omega) (by decide)]
  cases b m with
  | true => rw [if_neg (show ¬ 1 < z_1 true by decide), if_pos (show z_1 true = 1 from rfl), if_pos rfl]; rfl
  | false => rw [if_neg (show ¬ 1 < z_1 false by decide), if_neg (show ¬ z_1 false = 1 by decide), if_neg (by decide)]; rfl
end MOY
