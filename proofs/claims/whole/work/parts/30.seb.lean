/-! Search: its loops -/
theorem z_U_drop {X : Pal} {b : Nat} (h : b < (z_U X).length) : (z_U X).drop b = (z_U X).getD b 0 :: (z_U X).drop (b + 1) := by
  rw [List.drop_eq_getElem_cons h, List.getD_eq_getElem?_getD, List.getElem?_eq_getElem h]
  rfl
def SI (σ : aSt) (X : Pal) (aim : Nat) (σ' : aSt) (s : Option Cnd) (n : Nat) : Prop := Mo So σ σ' ∧ Sh σ' ∧ SU σ' X aim ∧ SR σ' X aim s n
theorem SU.so {σ σ' : aSt} {X : Pal} {aim : Nat} (h : SU σ X aim) (m : Mo So σ σ') : SU σ' X aim := h.mo m (fun k hk => by unfold So; omega) (fun b k h1 h2 => by unfold So; omega)
section SEB
variable {P : aCall} {d : Nat} {σ : aSt} {X : Pal} {aim : Nat}
theorem s_tryPairs (hd : 3 ≤ d) (V : Vd X) {σ0 : aSt} {s : Option Cnd} {a all : Nat} (I : SI σ0 X aim σ s 2) (ha : a < (z_U X).length) (h2 : 2 ≤ all) (h6 : all ≤ 6) :
    ∃ σ', a_call a_tab P d 61 [.ref 229, .int (nI a), .int (nI all)] σ = some (.inl none, σ') ∧ SI σ0 X aim σ' (z_cho X aim all 1 ((z_U X).drop (a + 1)) [(z_U X).getD a 0] s) 2 := by
  have hlen := z_U_len V
  rw [n_X3_tryPairs (by omega), b_X3_tryPairs_0, nI_add]
  -- the parts
  have l15 : ∀ b, a < b → b < (z_U X).length → ∀ k p, 1 ≤ p → p + k = all → ∀ s σ, SI σ0 X aim σ s 2 → ∃ σ', SI σ0 X aim σ' (q_fold (fun p s => z_shr X aim [(z_U X).getD b 0] (all - p) ([] ++ [((z_U X).getD a 0, p)]) s) k p s) 2 ∧
      b_R (a_call a_tab P (d - 1)) kX3_tryPairs [] (15, [some (.ref 229), some (.int (nI a)), some (.int (nI all)), some (.int (nI b)), some (.int (nI p))], [], σ) = b_R (a_call a_tab P (d - 1)) kX3_tryPairs [] (15, [some (.ref 229), some (.int (nI a)), some (.int (nI all)), some (.int (nI b)), some (.int (nI all))], [], σ') := by
    intro b hab hb k
    induction k with
    | zero =>
      intro p hp hk s σ I
      obtain rfl : p = all := by omega
      exact ⟨σ, I, rfl⟩
    | succ k ih =>
      intro p hp hk s σ I
      obtain ⟨m, h, U, R⟩ := id I
      have ec : z_c3 X a b b p (all - p) 0 = [] ++ [((z_U X).getD a 0, p)] ++ [((z_U X).getD b 0, all - p)] := by unfold z_c3; rw [if_neg (by omega), if_pos rfl]; rfl
      obtain ⟨σ1, e1, m1, R1⟩ := s_offer (P := P) (d := d - 1) (by omega) h V U R (a := a) (b := b) (c := b) (pa := p) (pb := all - p) (pc := 0) (by omega) (Nat.le_refl _) hb (fun _ => rfl) (by omega) (by omega) (by rw [ec]; rfl)
      rw [ec] at R1
      obtain ⟨σ2, I2, e2⟩ := ih (p + 1) (by omega) (by omega) _ σ1 ⟨m.tr m1, m1.sh h, U.so m1, R1⟩
      refine ⟨σ2, I2, ?_⟩
      rw [b_X3_tryPairs_15 h, if_pos (nIl (by omega) (by omega)), pk_sub (by omega), e1, g_n, b_X3_tryPairs_35, nI_add]
      exact e2
  have l4 : ∀ k b o, a < b → b + k = (z_U X).length → ∀ s σ, SI σ0 X aim σ s 2 → ∃ σ', SI σ0 X aim σ' (z_cho X aim all 1 ((z_U X).drop b) [(z_U X).getD a 0] s) 2 ∧
      b_R (a_call a_tab P (d - 1)) kX3_tryPairs [] (4, [some (.ref 229), some (.int (nI a)), some (.int (nI all)), some (.int (nI b)), o], [], σ) = some (.inl none, σ') := by
    intro k
    induction k with
    | zero =>
      intro b o hab hk s σ I
      obtain ⟨m, h, U, R⟩ := id I
      rw [List.drop_of_length_le (by omega)]
      refine ⟨σ, ?_, ?_⟩
      · unfold z_cho; exact I
      · rw [b_X3_tryPairs_4 h, U.1, if_neg (nIn (by omega) (by omega))]
    | succ k ih =>
      intro b o hab hk s σ I
      obtain ⟨m, h, U, R⟩ := id I
      obtain ⟨σ1, I1, e1⟩ := l15 b hab (by omega) (all - 1) 1 (Nat.le_refl _) (by omega) s σ I
      obtain ⟨σ2, I2, e2⟩ := ih (b + 1) (some (.int (nI all))) (by omega) (by omega) _ σ1 I1
      refine ⟨σ2, ?_, ?_⟩
      · rw [z_U_drop (by omega : b < (z_U X).length)]
        unfold z_cho
        rw [show z_cho X aim all 0 ((z_U X).drop (b + 1)) ([(z_U X).getD a 0] ++ [(z_U X).getD b 0]) s = q_fold (fun p s => z_shr X aim [(z_U X).getD b 0] (all - p) ([] ++ [((z_U X).getD a 0, p)]) s) (all - 1) 1 s from by unfold z_cho; show z_shr X aim [(z_U X).getD a 0, (z_U X).getD b 0] all [] s = _; (conv => lhs; unfold z_shr); rfl]
        exact I2
      · rw [b_X3_tryPairs_4 h, U.1, if_pos (nIl (by omega) (by omega)), e1, b_X3_tryPairs_15 I1.2.1, if_neg (nIn (Nat.le_refl _) (by omega)), nI_add]
        exact e2
  obtain ⟨σ', I', e'⟩ := l4 ((z_U X).length - (a + 1)) (a + 1) none (by omega) (by omega) s σ I
  exact ⟨σ', e', I'⟩
theorem s_tryTriples (hd : 3 ≤ d) (V : Vd X) {σ0 : aSt} {s : Option Cnd} {a all : Nat} (I : SI σ0 X aim σ s 3) (ha : a < (z_U X).length) (h3 : 3 ≤ all) (h6 : all ≤ 6) :
    ∃ σ', a_call a_tab P d 62 [.ref 229, .int (nI a), .int (nI all)] σ = some (.inl none, σ') ∧ SI σ0 X aim σ' (z_cho X aim all 2 ((z_U X).drop (a + 1)) [(z_U X).getD a 0] s) 3 := by
  have hlen := z_U_len V
  rw [n_X3_tryTriples (by omega), b_X3_tryTriples_0, nI_add]
  have l38 : ∀ b c p, a < b → b < c → c < (z_U X).length → 1 ≤ p → p < all → ∀ k q, 1 ≤ q → q + k = all - p → ∀ s σ, SI σ0 X aim σ s 3 → ∃ σ', SI σ0 X aim σ' (q_fold (fun q s => z_shr X aim [(z_U X).getD c 0] (all - p - q) ([((z_U X).getD a 0, p)] ++ [((z_U X).getD b 0, q)]) s) k q s) 3 ∧
      b_R (a_call a_tab P (d - 1)) kX3_tryTriples [] (38, [some (.ref 229), some (.int (nI a)), some (.int (nI all)), some (.int (nI b)), some (.int (nI c)), some (.int (nI p)), some (.int (nI q))], [], σ) = b_R (a_call a_tab P (d - 1)) kX3_tryTriples [] (38, [some (.ref 229), some (.int (nI a)), some (.int (nI all)), some (.int (nI b)), some (.int (nI c)), some (.int (nI p)), some (.int (nI (all - p)))], [], σ') := by
    intro b c p hab hbc hc hp hpa k
    induction k with
    | zero =>
      intro q hq hk s σ I
      obtain rfl : q = all - p := by omega
      exact ⟨σ, I, rfl⟩
    | succ k ih =>
      intro q hq hk s σ I
      obtain ⟨m, h, U, R⟩ := id I
      have ec : z_c3 X a b c p q (all - p - q) = [((z_U X).getD a 0, p)] ++ [((z_U X).getD b 0, q)] ++ [((z_U X).getD c 0, all - p - q)] := by unfold z_c3; rw [if_neg (by omega), if_neg (by omega)]; rfl
      obtain ⟨σ1, e1, m1, R1⟩ := s_offer (P := P) (d := d - 1) (by omega) h V U R (a := a) (b := b) (c := c) (pa := p) (pb := q) (pc := all - p - q) (by omega) (by omega) hc (fun _ => by omega) (by omega) (by omega) (by rw [ec]; rfl)
      rw [ec] at R1
      obtain ⟨σ2, I2, e2⟩ := ih (q + 1) (by omega) (by omega) _ σ1 ⟨m.tr m1, m1.sh h, U.so m1, R1⟩
      refine ⟨σ2, I2, ?_⟩
      rw [b_X3_tryTriples_38 h, pk_sub (by omega), if_pos (nIl (by omega) (by omega)), pk_sub (by omega), e1, g_n, b_X3_tryTriples_66, nI_add]
      exact e2
  have l29 : ∀ b c, a < b → b < c → c < (z_U X).length → ∀ k p o, 1 ≤ p → p + k = all → ∀ s σ, SI σ0 X aim σ s 3 → ∃ σ' o', SI σ0 X aim σ' (q_fold (fun p s => z_shr X aim [(z_U X).getD b 0, (z_U X).getD c 0] (all - p) ([] ++ [((z_U X).getD a 0, p)]) s) k p s) 3 ∧
      b_R (a_call a_tab P (d - 1)) kX3_tryTriples [] (29, [some (.ref 229), some (.int (nI a)), some (.int (nI all)), some (.int (nI b)), some (.int (nI c)), some (.int (nI p)), o], [], σ) = b_R (a_call a_tab P (d - 1)) kX3_tryTriples [] (29, [some (.ref 229), some (.int (nI a)), some (.int (nI all)), some (.int (nI b)), some (.int (nI c)), some (.int (nI all)), o'], [], σ') := by
    intro b c hab hbc hc k
    induction k with
    | zero =>
      intro p o hp hk s σ I
      obtain rfl : p = all := by omega
      exact ⟨σ, o, I, rfl⟩
    | succ k ih =>
      intro p o hp hk s σ I
      obtain ⟨σ1, I1, e1⟩ := l38 b c p hab hbc hc hp (by omega) (all - p - 1) 1 (Nat.le_refl _) (by omega) s σ I
      obtain ⟨σ2, o2, I2, e2⟩ := ih (p + 1) (some (.int (nI (all - p)))) (by omega) (by omega) _ σ1 I1
      refine ⟨σ2, o2, ?_, ?_⟩
      · conv => arg 5; unfold q_fold
        rw [show z_shr X aim [(z_U X).getD b 0, (z_U X).getD c 0] (all - p) ([] ++ [((z_U X).getD a 0, p)]) s = q_fold (fun q s => z_shr X aim [(z_U X).getD c 0] (all - p - q) ([((z_U X).getD a 0, p)] ++ [((z_U X).getD b 0, q)]) s) (all - p - 1) 1 s from by (conv => lhs; unfold z_shr); rfl]
        exact I2
      · rw [b_X3_tryTriples_29, if_pos (nIl (by omega) (by omega)), e1, b_X3_tryTriples_38 I1.2.1, pk_sub (by omega), if_neg (nIn (Nat.le_refl _) (by omega)), nI_add]
        exact e2
  have l17 : ∀ b, a < b → b < (z_U X).length → ∀ k c o o', b < c → c + k = (z_U X).length → ∀ s σ, SI σ0 X aim σ s 3 → ∃ σ' q q', SI σ0 X aim σ' (z_cho X aim all 1 ((z_U X).drop c) [(z_U X).getD a 0, (z_U X).getD b 0] s) 3 ∧
      b_R (a_call a_tab P (d - 1)) kX3_tryTriples [] (17, [some (.ref 229), some (.int (nI a)), some (.int (nI all)), some (.int (nI b)), some (.int (nI c)), o, o'], [], σ) = b_R (a_call a_tab P (d - 1)) kX3_tryTriples [] (17, [some (.ref 229), some (.int (nI a)), some (.int (nI all)), some (.int (nI b)), some (.int (nI (z_U X).length)), q, q'], [], σ') := by
    intro b hab hb k
    induction k with
    | zero =>
      intro c o o' hbc hk s σ I
      rw [List.drop_of_length_le (by omega)]
      obtain rfl : c = (z_U X).length := by omega
      refine ⟨σ, o, o', ?_, rfl⟩
      unfold z_cho; exact I
    | succ k ih =>
      intro c o o' hbc hk s σ I
      obtain ⟨m, h, U, R⟩ := id I
      obtain ⟨σ1, o1, I1, e1⟩ := l29 b c hab hbc (by omega) (all - 1) 1 o' (Nat.le_refl _) (by omega) s σ I
      obtain ⟨σ2, q, q', I2, e2⟩ := ih (c + 1) (some (.int (nI all))) o1 (by omega) (by omega) _ σ1 I1
      refine ⟨σ2, q, q', ?_, ?_⟩
      · rw [z_U_drop (by omega : c < (z_U X).length)]
        unfold z_cho
        rw [show z_cho X aim all 0 ((z_U X).drop (c + 1)) ([(z_U X).getD a 0, (z_U X).getD b 0] ++ [(z_U X).getD c 0]) s = q_fold (fun p s => z_shr X aim [(z_U X).getD b 0, (z_U X).getD c 0] (all - p) ([] ++ [((z_U X).getD a 0, p)]) s) (all - 1) 1 s from by
          unfold z_cho
          show z_shr X aim [(z_U X).getD a 0, (z_U X).getD b 0, (z_U X).getD c 0] all [] s = _
          conv => lhs; unfold z_shr
          obtain ⟨w, hw⟩ : ∃ w, all = w + 2 := ⟨all - 2, by omega⟩
          have hw1 : all - 1 = w + 1 := by omega
          have hw2 : all - [(z_U X).getD b 0, (z_U X).getD c 0].length = w := by show all - 2 = w; omega
          rw [hw1, hw2, q_fold_succ]
          have hw3 : all - (1 + w) = 1 := by omega
          rw [hw3]
          conv => rhs; unfold z_shr
          rfl]
        exact I2
      · rw [b_X3_tryTriples_17 h, U.1, if_pos (nIl (by omega) (by omega)), e1, b_X3_tryTriples_29, if_neg (nIn (Nat.le_refl _) (by omega)), nI_add]
        exact e2
  have l4 : ∀ k b o o' o'', a < b → b + k = (z_U X).length → ∀ s σ, SI σ0 X aim σ s 3 → ∃ σ', SI σ0 X aim σ' (z_cho X aim all 2 ((z_U X).drop b) [(z_U X).getD a 0] s) 3 ∧
      b_R (a_call a_tab P (d - 1)) kX3_tryTriples [] (4, [some (.ref 229), some (.int (nI a)), some (.int (nI all)), some (.int (nI b)), o, o', o''], [], σ) = some (.inl none, σ') := by
    intro k
    induction k with
    | zero =>
      intro b o o' o'' hab hk s σ I
      obtain ⟨m, h, U, R⟩ := id I
      rw [List.drop_of_length_le (by omega)]
      refine ⟨σ, ?_, ?_⟩
      · unfold z_cho; exact I
      · rw [b_X3_tryTriples_4 h, U.1, if_neg (nIn (by omega) (by omega))]
    | succ k ih =>
      intro b o o' o'' hab hk s σ I
      obtain ⟨m, h, U, R⟩ := id I
      obtain ⟨σ1, q, q', I1, e1⟩ := l17 b hab (by omega) k (b + 1) o' o'' (by omega) (by omega) s σ I
      obtain ⟨σ2, I2, e2⟩ := ih (b + 1) (some (.int (nI (z_U X).length))) q q' (by omega) (by omega) _ σ1 I1
      refine ⟨σ2, ?_, ?_⟩
      · rw [z_U_drop (by omega : b < (z_U X).length)]
        unfold z_cho
        exact I2
      · rw [b_X3_tryTriples_4 h, U.1, if_pos (nIl (by omega) (by omega)), nI_add, e1, b_X3_tryTriples_17 I1.2.1, I1.2.2.1.1, if_neg (nIn (Nat.le_refl _) (by omega)), nI_add]
        exact e2
  obtain ⟨σ', I', e'⟩ := l4 ((z_U X).length - (a + 1)) (a + 1) none none none (by omega) (by omega) s σ I
  exact ⟨σ', e', I'⟩
theorem s_tryAllOf (hd : 4 ≤ d) (V : Vd X) {σ0 : aSt} {s : Option Cnd} {n : Nat} (I : SI σ0 X aim σ s n) (hn : 1 ≤ n) (hn3 : n ≤ 3) : ∃ σ', a_call a_tab P d 60 [.ref 229, .int (nI n)] σ = some (.inl none, σ') ∧ SI σ0 X aim σ' (z_ph X aim n s) n := by
  have hlen := z_U_len V
  have hm : X.1 4 ≤ 6 := V.2.2.2.1.2
  rw [n_X3_tryAllOf (by omega), b_X3_tryAllOf_0]
  have l19 : ∀ all, n ≤ all → all ≤ 6 → ∀ k a, a + k = (z_U X).length → ∀ s σ, SI σ0 X aim σ s n → ∃ σ', SI σ0 X aim σ' (z_cho X aim all n ((z_U X).drop a) [] s) n ∧
      b_R (a_call a_tab P (d - 1)) kX3_tryAllOf [] (19, [some (.ref 229), some (.int (nI n)), some (.int (nI all)), some (.int (nI a))], [], σ) = b_R (a_call a_tab P (d - 1)) kX3_tryAllOf [] (2, [some (.ref 229), some (.int (nI n)), some (.int (nI (all + 1))), some (.int (nI (z_U X).length))], [], σ') := by
    intro all h1 h6 k
    induction k with
    | zero =>
      intro a hk s σ I
      obtain ⟨m, h, U, R⟩ := id I
      rw [List.drop_of_length_le (by omega)]
      obtain rfl : a = (z_U X).length := by omega
      refine ⟨σ, ?_, ?_⟩
      · obtain ⟨w, rfl⟩ : ∃ w, n = w + 1 := ⟨n - 1, by omega⟩
        unfold z_cho; exact I
      · rw [b_X3_tryAllOf_19 h, U.1, if_neg (nIn (Nat.le_refl _) (by omega)), nI_add]
    | succ k ih =>
      intro a hk s σ I
      obtain ⟨m, h, U, R⟩ := id I
      have fin : ∀ σ1, SI σ0 X aim σ1 (z_cho X aim all (n - 1) ((z_U X).drop (a + 1)) ([] ++ [(z_U X).getD a 0]) s) n → ∃ σ', SI σ0 X aim σ' (z_cho X aim all n ((z_U X).drop a) [] s) n ∧
          b_R (a_call a_tab P (d - 1)) kX3_tryAllOf [] (65, [some (.ref 229), some (.int (nI n)), some (.int (nI all)), some (.int (nI a))], [], σ1) = b_R (a_call a_tab P (d - 1)) kX3_tryAllOf [] (2, [some (.ref 229), some (.int (nI n)), some (.int (nI (all + 1))), some (.int (nI (z_U X).length))], [], σ') := by
        intro σ1 I1
        obtain ⟨σ2, I2, e2⟩ := ih (a + 1) (by omega) _ σ1 I1
        refine ⟨σ2, ?_, ?_⟩
        · rw [z_U_drop (by omega : a < (z_U X).length)]
          obtain ⟨w, rfl⟩ : ∃ w, n = w + 1 := ⟨n - 1, by omega⟩
          conv => arg 5; unfold z_cho
          exact I2
        · rw [b_X3_tryAllOf_65, nI_add]
          exact e2
      rw [b_X3_tryAllOf_19 h, U.1, if_pos (nIl (by omega) (by omega))]
      obtain rfl | rfl | rfl : n = 1 ∨ n = 2 ∨ n = 3 := by omega
      · have ec : z_c3 X a a a all 0 0 = [] ++ [((z_U X).getD a 0, all)] := by unfold z_c3; rw [if_pos rfl]; rfl
        obtain ⟨σ1, e1, m1, R1⟩ := s_offer (P := P) (d := d - 1) (by omega) h V U R (a := a) (b := a) (c := a) (pa := all) (pb := 0) (pc := 0) (Nat.le_refl _) (Nat.le_refl _) (by omega) (fun _ => rfl) (by omega) (by omega) (by rw [ec]; rfl)
        rw [ec] at R1
        rw [if_pos rfl, e1, g_n, b_X3_tryAllOf_42]
        refine fin σ1 ⟨m.tr m1, m1.sh h, U.so m1, ?_⟩
        show SR σ1 X aim (z_cho X aim all 0 _ _ s) 1
        unfold z_cho
        show SR σ1 X aim (z_shr X aim [(z_U X).getD a 0] all [] s) 1
        unfold z_shr
        exact R1
      · obtain ⟨σ1, e1, I1⟩ := s_tryPairs (P := P) (d := d - 1) (by omega) V I (a := a) (all := all) (by omega) h1 h6
        rw [if_neg (by decide), if_pos rfl, e1, g_n, b_X3_tryAllOf_56]
        exact fin σ1 I1
      · obtain ⟨σ1, e1, I1⟩ := s_tryTriples (P := P) (d := d - 1) (by omega) V I (a := a) (all := all) (by omega) h1 h6
        rw [if_neg (by decide), if_neg (by decide), e1, g_n]
        exact fin σ1 I1
  have l2 : ∀ k all o, n ≤ all → all ≤ 7 → k = X.1 4 + 1 - all → ∀ s σ, SI σ0 X aim σ s n → ∃ σ', SI σ0 X aim σ' (q_fold (fun tot s => z_cho X aim tot n (z_U X) [] s) k all s) n ∧
      b_R (a_call a_tab P (d - 1)) kX3_tryAllOf [] (2, [some (.ref 229), some (.int (nI n)), some (.int (nI all)), o], [], σ) = some (.inl none, σ') := by
    intro k
    induction k with
    | zero =>
      intro all o h1 h7 hk s σ I
      obtain ⟨m, h, U, R⟩ := id I
      refine ⟨σ, I, ?_⟩
      rw [b_X3_tryAllOf_2 h, U.2.1, if_pos (nIl (by omega) (by omega)), b_X3_tryAllOf_77]
    | succ k ih =>
      intro all o h1 h7 hk s σ I
      obtain ⟨m, h, U, R⟩ := id I
      have hl := R.lf_le V
      rw [b_X3_tryAllOf_2 h, U.2.1, if_neg (nIn (by omega) (by omega)), R.lf]
      by_cases h0 : z_lf X aim s = 0
      · rw [h0, if_neg (by decide), b_X3_tryAllOf_77]
        cases s with
        | none => cases h0
        | some b =>
          refine ⟨σ, ?_, rfl⟩
          rw [q_fold_id (fun tot => z_cho_0 h0 n (z_U X) [])]
          exact I
      · rw [if_pos (by rw [← nI_0]; exact nIl (by omega) (by omega))]
        obtain ⟨σ1, I1, e1⟩ := l19 all h1 (by omega) (z_U X).length 0 (by omega) s σ I
        obtain ⟨σ2, I2, e2⟩ := ih (all + 1) (some (.int (nI (z_U X).length))) (by omega) (by omega) (by omega) _ σ1 I1
        exact ⟨σ2, I2, e1.trans e2⟩
  obtain ⟨σ', I', e'⟩ := l2 (X.1 4 + 1 - n) n none (Nat.le_refl _) (by omega) rfl s σ I
  exact ⟨σ', e', I'⟩
theorem s_begin (H : Pm P) (hd : 3 ≤ d) (h : Sh σ) {p : Nat} (hp : p + 8 < 229) (C : CP σ p X) (V : Vd X) (ha : aim < 2147483648) : ∃ σ', a_call a_tab P d 59 [.ref 229, .ref p, .int (nI aim)] σ = some (.inl none, σ') ∧ Mo Ss σ σ' ∧ SU σ' X aim ∧ SR σ' X aim none 0 := by
  have h20 := V.1.1
  have hS : ∀ k, Ss 229 k := fun k => ⟨by decide, by decide⟩
  have m1 : Mo Ss σ (a_setI σ 229 7 (nI (z_ch aim 0))) := Mo.set (hS _)
  have m2 := m1.then_set (a := 229) (k := 8) (v := nI (z_ch aim 1)) (hS _)
  rw [n_X3_begin (by omega), b_X3_begin_0, s_channel (by omega) ha (by decide), g_v, b_X3_begin_6 h, s_channel (by omega) ha (by decide), g_v, b_X3_begin_15 (m1.sh h), s_channel (by omega) ha (by decide), g_v, b_X3_begin_24 (m2.sh h) (m2.pa C.1)]
  have m5 := ((m2.then_set (a := 229) (k := 9) (v := nI (z_ch aim 2)) (hS _)).then_set (a := 229) (k := 6) (v := nI (X.1 4)) (hS _)).then_set (a := 229) (k := 10) (v := nI 1000000) (hS _)
  have e4 : a_I (a_setI (a_setI (a_setI σ 229 7 (nI (z_ch aim 0))) 229 8 (nI (z_ch aim 1))) 229 9 (nI (z_ch aim 2))) p 4 = nI (X.1 4) := by
    rw [a_I_off (.inl (by omega)), a_I_off (.inl (by omega)), a_I_off (.inl (by omega))]
    exact C.2.2.2.2.2.1
  rw [e4, s_fill H (sk_234 (m5.sh h)) (by decide) (by rw [sl_234 (m5.sh h)]; decide), g_n]
  obtain ⟨s1, hs1⟩ : ∃ s1, s1 = a_fil (a_setI (a_setI (a_setI (a_setI (a_setI σ 229 7 (nI (z_ch aim 0))) 229 8 (nI (z_ch aim 1))) 229 9 (nI (z_ch aim 2))) 229 6 (nI (X.1 4))) 229 10 (nI 1000000)) 234 (-1) := ⟨_, rfl⟩
  rw [← hs1]
  have m6 : Mo Ss σ s1 := by
    rw [hs1]
    exact m5.tr ⟨rfl, rfl, fun b k hb => by rw [a_I_fil, if_neg (fun z => hb ⟨by omega, by omega⟩)]⟩
  have x6 : a_I s1 229 6 = nI (X.1 4) := by rw [hs1]; rfl
  have x7 : ∀ w, w < 3 → a_I s1 229 (7 + w) = nI (z_ch aim w) := fun w hw => by
    obtain rfl | rfl | rfl : w = 0 ∨ w = 1 ∨ w = 2 := by omega
    all_goals rw [hs1]; rfl
  have x10 : a_I s1 229 10 = nI 1000000 := by rw [hs1]; rfl
  have xb : ∀ j, a_I s1 234 j = -1 := fun j => by rw [hs1]; rfl
  rw [b_X3_begin_49 (m6.sh h)]
  have m7 := m6.then_set (a := 229) (k := 5) (v := nI 0) (hS _)
  have key := up_st0 (run := fun i s => b_R (a_call a_tab P (d - 1)) kX3_begin [] (56, [some (.ref 229), some (.ref p), some (.int (nI aim)), some (.int (nI i))], [], s)) (n := X.1 0) (s := a_setI s1 229 5 (nI 0))
    (fun i s => Mo Ss σ s ∧ Mo (fun b k => (b = 229 ∧ k = 5) ∨ (230 ≤ b ∧ b ≤ 233)) s1 s ∧ a_I s 229 5 = nI ((List.range i).filter (z_use X)).length ∧ ∀ j, j < ((List.range i).filter (z_use X)).length → a_I s 230 j = nI (((List.range i).filter (z_use X)).getD j 0) ∧ ∀ w, w < 3 → a_I s (231 + w) j = nI (X.2 0 (((List.range i).filter (z_use X)).getD j 0) (8 + w)))
    ⟨m7, Mo.set (.inl ⟨rfl, rfl⟩), a_I_at, fun j hj => absurd hj (Nat.not_lt_zero _)⟩
    (fun i s hi ⟨m, mm, q1, q2⟩ => by
      have C1 := C.mo m (fun b k h1 h2 h3 => by unfold Ss at h3; omega)
      (try dsimp only)
      rw [b_X3_begin_56 C1.1, C1.2.1.2.2.1, if_pos (nIl hi (by omega)), s_isInUse (by omega) C1 V hi, g_v, b_X3_begin_72 (m.sh h) C1.1]
      have ef : (List.range (i + 1)).filter (z_use X) = (List.range i).filter (z_use X) ++ (if z_use X i then [i] else []) := by
        rw [List.range_succ, List.filter_append]
        congr 1
        cases hq : z_use X i <;> simp [List.filter, hq]
      rw [ef]
      cases hu : z_use X i with
      | false =>
        refine ⟨s, ⟨m, mm, ?_, ?_⟩, ?_⟩
        · simpa using q1
        · simpa using q2
        · rw [if_pos (by decide), b_X3_begin_161, nI_add]
      | true =>
        rw [show (if true = true then [i] else ([] : List Nat)) = [i] from rfl]
        have hl : ((List.range i).filter (z_use X)).length < 20 := by
          have h1 := List.length_filter_le (z_use X) (List.range i)
          rw [List.length_range] at h1
          omega
        obtain ⟨u, hu2⟩ : ∃ u, u = ((List.range i).filter (z_use X)).length := ⟨_, rfl⟩
        rw [← hu2] at q1 hl
        have hin : a_in (a_I s 229 5) 20 := by rw [q1]; exact nIi hl (by decide)
        have hlt : a_I s 229 5 < nI 20 := by rw [q1]; exact nIl hl (by decide)
        have hcl : (a_I s 229 5).toNatClampNeg = u := by rw [q1]; exact nIc (by omega)
        rw [if_neg (by decide), if_pos hlt, b_gd_t hin, hcl, a_I_off (.inl (by decide)), q1]
        have n1 : Mo (fun b k => 230 ≤ b ∧ b ≤ 233) s (a_setI s 230 u (nI i)) := Mo.set ⟨by decide, by decide⟩
        have n2 := n1.then_set (a := 231) (k := u) (v := nI (X.2 0 i 8)) ⟨by decide, by decide⟩
        have n3 := n2.then_set (a := 232) (k := u) (v := nI (X.2 0 i 9)) ⟨by decide, by decide⟩
        have n4 := n3.then_set (a := 233) (k := u) (v := nI (X.2 0 i 10)) ⟨by decide, by decide⟩
        have cc : ∀ s', Mo (fun b k => 230 ≤ b ∧ b ≤ 233) s s' → CP s' p X := fun s' z => C1.mo z (fun b k h1 h2 h3 => by omega)
        have ss : ∀ s', Mo (fun b k => 230 ≤ b ∧ b ≤ 233) s s' → Sh s' := fun s' z => z.sh (m.sh h)
        have i5 : ∀ s', Mo (fun b k => 230 ≤ b ∧ b ≤ 233) s s' → a_I s' 229 5 = nI u := fun s' z => by rw [z.I (by omega)]; exact q1
        rw [s_get (by omega) (cc _ n1).2.1 hi (by decide), g_v, b_X3_begin_112 (ss _ n1) (cc _ n1).1, b_gd_t (nIi hl (by decide)), nIc (by omega), tv, i5 _ n2,
          s_get (by omega) (cc _ n2).2.1 hi (by decide), g_v, b_X3_begin_131 (ss _ n2) (cc _ n2).1, b_gd_t (nIi hl (by decide)), nIc (by omega), tv, i5 _ n3,
          s_get (by omega) (cc _ n3).2.1 hi (by decide), g_v, b_X3_begin_150 (ss _ n3), b_gd_t (nIi hl (by decide)), nIc (by omega), tv, i5 _ n4, nI_add, b_X3_begin_161, nI_add]
        have m9 : Mo Ss σ (a_setI (a_setI (a_setI (a_setI (a_setI s 230 u (nI i)) 231 u (nI (X.2 0 i 8))) 232 u (nI (X.2 0 i 9))) 233 u (nI (X.2 0 i 10))) 229 5 (nI (u + 1))) := (m.tr (n4.mono fun b k z => ⟨by omega, by omega⟩)).then_set (hS _)
        refine ⟨_, ⟨m9, (mm.tr (n4.mono fun b k z => .inr z)).then_set (.inl ⟨rfl, rfl⟩), ?_, fun j hj => ?_⟩, rfl⟩
        · rw [a_I_at, List.length_append, ← hu2]; rfl
        · rw [List.length_append, ← hu2] at hj
          have hj : j < u + 1 := hj
          by_cases hju : j = u
          · subst hju
            have eg : ((List.range i).filter (z_use X) ++ [i]).getD j 0 = i := by
              rw [List.getD_eq_getElem?_getD, hu2, List.getElem?_append_right (Nat.le_refl _), Nat.sub_self]; rfl
            rw [eg]
            refine ⟨?_, fun w hw => ?_⟩
            · rw [a_I_off (.inl (by decide)), a_I_off (.inl (by decide)), a_I_off (.inl (by decide)), a_I_off (.inl (by decide)), a_I_at]
            · obtain rfl | rfl | rfl : w = 0 ∨ w = 1 ∨ w = 2 := by omega
              · rw [a_I_off (.inl (by decide)), a_I_off (.inl (by decide)), a_I_off (.inl (by decide)), a_I_at]
              · rw [a_I_off (.inl (by decide)), a_I_off (.inl (by decide)), a_I_at]
              · rw [a_I_off (.inl (by decide)), a_I_at]
          · have eg : ((List.range i).filter (z_use X) ++ [i]).getD j 0 = ((List.range i).filter (z_use X)).getD j 0 := by
              rw [List.getD_eq_getElem?_getD, List.getElem?_append_left (by omega), ← List.getD_eq_getElem?_getD]
            rw [eg]
            obtain ⟨p1, p2⟩ := q2 j (by omega)
            refine ⟨?_, fun w hw => ?_⟩
            · rw [a_I_off (.inl (by decide)), a_I_off (.inl (by decide)), a_I_off (.inl (by decide)), a_I_off (.inl (by decide)), a_I_off (.inr hju)]; exact p1
            · rw [a_I_off (.inl (by omega)), a_I_off (.inr hju), a_I_off (.inr hju), a_I_off (.inr hju), a_I_off (.inl (by omega))]; exact p2 w hw)
  obtain ⟨σ', ⟨m, mm, q1, q2⟩, e⟩ := key
  have C1 := C.mo m (fun b k h1 h2 h3 => by unfold Ss at h3; omega)
  refine ⟨σ', e.trans ?_, m, ⟨q1, ?_, fun w hw => ?_, q2⟩, ?_, fun j hj => ?_⟩
  · (try dsimp only)
    rw [b_X3_begin_56 C1.1, C1.2.1.2.2.1, if_neg (nIn (Nat.le_refl _) (by omega))]
  · rw [mm.I (by omega)]; exact x6
  · rw [mm.I (by omega)]; exact x7 w hw
  · rw [mm.I (by omega)]; exact x10
  · rw [mm.I (by omega)]; exact xb j
theorem s_run (H : Pm P) (hd : 5 ≤ d) (h : Sh σ) {p k : Nat} (hp : p + 8 < 229) (C : CP σ p X) (V : Vd X) (ha : aim < 2147483648) (hk : k ≤ 3) : ∃ σ', a_call a_tab P d 58 [.ref 229, .ref p, .int (nI aim), .int (nI k)] σ = some (.inl none, σ') ∧ Mo Ss σ σ' ∧ SU σ' X aim ∧ SR σ' X aim (z_near X aim k) k := by
  obtain ⟨s1, e1, m1, U1, R1⟩ := s_begin (P := P) (d := d - 1) H (by omega) h hp C V ha
  rw [n_X3_run (by omega), b_X3_run_0 h, e1, g_n, b_X3_run_6]
  have l : ∀ j n, 1 ≤ n → n + j = k + 1 → ∀ s σ, SI s1 X aim σ s (n - 1) → ∃ σ', SI s1 X aim σ' (q_fold (fun n s => z_ph X aim n s) j n s) k ∧ b_R (a_call a_tab P (d - 1)) kX3_run [] (9, [some (.ref 229), some (.ref p), some (.int (nI aim)), some (.int (nI k)), some (.int (nI n))], [], σ) = some (.inl none, σ') := by
    intro j
    induction j with
    | zero =>
      intro n h1 hn s σ I
      obtain rfl : n = k + 1 := by omega
      refine ⟨σ, I, ?_⟩
      rw [b_X3_run_9 I.2.1, if_pos (nIl (by omega) (by omega))]
    | succ j ih =>
      intro n h1 hn s σ I
      obtain ⟨σ1, e2, I1⟩ := s_tryAllOf (P := P) (d := d - 1) (by omega) V (n := n) ⟨I.1, I.2.1, I.2.2.1, I.2.2.2.mono (by omega)⟩ h1 (by omega)
      obtain ⟨σ2, I2, e3⟩ := ih (n + 1) (by omega) (by omega) _ σ1 I1
      refine ⟨σ2, I2, ?_⟩
      rw [b_X3_run_9 I.2.1, if_neg (nIn (by omega) (by omega)), e2, g_n, b_X3_run_21, nI_add]
      exact e3
  obtain ⟨σ', I, e⟩ := l k 1 (Nat.le_refl _) (by omega) none s1 ⟨Mo.rf, m1.sh h, U1, R1⟩
  exact ⟨σ', e, m1.tr (I.1.mono fun b k z => by unfold So at z; unfold Ss; omega), I.2.2.1, I.2.2.2⟩
/-- the numbers of what was found -/
def z_fig (X : Pal) (aim : Nat) (s : Option Cnd) (j : Nat) : Int32 := match s with
  | none => -1
  | some c => if j = 0 then nI (z_ccol X c) else if j = 1 then nI c.length else if j = 2 then nI (z_call c) else if j = 3 then nI (z_cfar X aim c) else if j < 7 then (if j - 4 < c.length then nI (c.getD (j - 4) (0, 0)).1 else -1) else (if j - 7 < c.length then nI (c.getD (j - 7) (0, 0)).2 else -1)
theorem SR.fig {s : Option Cnd} {n j : Nat} (R : SR σ X aim s n) (hj : j < 10) : a_I σ 234 j = z_fig X aim s j := by
  cases s with
  | none => exact R.2 j hj
  | some c =>
    obtain ⟨-, -, -, r3, r0, r1, r2, r4⟩ := R
    unfold z_fig
    (try dsimp only)
    obtain rfl | rfl | rfl | rfl | rfl | rfl | rfl | rfl | rfl | rfl : j = 0 ∨ j = 1 ∨ j = 2 ∨ j = 3 ∨ j = 4 ∨ j = 5 ∨ j = 6 ∨ j = 7 ∨ j = 8 ∨ j = 9 := by omega
    · exact r0
    · exact r1
    · exact r2
    · exact r3
    · exact (r4 0 (by decide)).1
    · exact (r4 1 (by decide)).1
    · exact (r4 2 (by decide)).1
    · exact (r4 0 (by decide)).2
    · exact (r4 1 (by decide)).2
    · exact (r4 2 (by decide)).2
theorem s_figure (hd : 1 ≤ d) (h : Sh σ) {s : Option Cnd} {n j : Nat} (R : SR σ X aim s n) (hj : j < 10) : a_call a_tab P d 65 [.ref 229, .int (nI j)] σ = some (.inl (some (.int (z_fig X aim s j))), σ) := by
  rw [n_X3_figure hd, b_X3_figure_0 h, if_neg (nIp (by omega)), if_pos (nIl hj (by decide)), b_gd_t (nIi hj (by decide)), b_X3_figure_23, nIc (by omega), R.fig hj]
theorem s_writeTo (hd : 2 ≤ d) (h : Sh σ) {c : Cnd} {n t b N nr r : Nat} {f : Nat → Nat → Int32} (R : SR σ X aim (some c) n) (T : Tv σ t b 17 N nr f) (hr : r < nr) (hb : b < 229 ∨ 234 < b) : ∃ σ', a_call a_tab P d 66 [.ref 229, .ref t, .int (nI r)] σ = some (.inl none, σ') ∧ Mo (fun b' _ => b' = b) σ σ' ∧ Tv σ' t b 17 N nr (fun r' k => if r' = r then (if k = 8 then nI c.length else if 9 ≤ k ∧ k < 9 + c.length then nI (c.getD (k - 9) (0, 0)).1 else if 13 ≤ k ∧ k < 13 + c.length then nI (c.getD (k - 13) (0, 0)).2 else f r' k) else f r' k) := by
  obtain ⟨ok, -, -, -, -, r1, -, -⟩ := id R
  have hl := ok.2.1
  have r1' : a_I σ 234 (nI 1).toNatClampNeg = nI c.length := by rw [nIc (by decide)]; exact r1
  obtain ⟨e1, T1⟩ := s_set (P := P) (d := d - 1) (v := nI c.length) (by omega) T hr (by decide : 8 < 17)
  rw [n_X3_writeTo (by omega), b_X3_writeTo_0 h T.1, b_gd_t (nIi (by decide) (by decide)), r1', e1, g_n, b_X3_writeTo_15]
  obtain ⟨σ', ⟨m, T2⟩, e⟩ := up_st0 (run := fun i s => b_R (a_call a_tab P (d - 1)) kX3_writeTo [] (18, [some (.ref 229), some (.ref t), some (.int (nI r)), some (.int (nI c.length)), some (.int (nI i))], [], s)) (n := c.length) (s := a_setI σ b (r * 17 + 8) (nI c.length))
    (fun i s => Mo (fun b' _ => b' = b) σ s ∧ Tv s t b 17 N nr (fun r' k => if r' = r then (if k = 8 then nI c.length else if 9 ≤ k ∧ k < 9 + i then nI (c.getD (k - 9) (0, 0)).1 else if 13 ≤ k ∧ k < 13 + i then nI (c.getD (k - 13) (0, 0)).2 else f r' k) else f r' k))
    ⟨Mo.set rfl, T1.congr fun r' hr' k hk => by
      (try dsimp only)
      by_cases h1 : r' = r
      · rw [if_pos h1]
        by_cases h2 : k = 8
        · rw [if_pos ⟨h1, h2⟩, if_pos h2]
        · rw [if_neg (fun z => h2 z.2), if_neg h2, if_neg (by omega), if_neg (by omega)]
      · rw [if_neg (fun z => h1 z.1), if_neg h1]⟩
    (fun i s hi ⟨m, T2⟩ => by
      have Rs : SR s X aim (some c) n := by
        have q : ∀ k, a_I s 234 k = a_I σ 234 k := fun k => m.I (by omega)
        have q2 : ∀ k, a_I s 229 k = a_I σ 229 k := fun k => m.I (by omega)
        unfold SR at R ⊢
        simp only [q, q2]
        exact R
      have f1 : z_fig X aim (some c) (4 + i) = nI (c.getD i (0, 0)).1 := by
        unfold z_fig
        (try dsimp only)
        rw [if_neg (by omega), if_neg (by omega), if_neg (by omega), if_neg (by omega), if_pos (by omega), Nat.add_sub_cancel_left, if_pos hi]
      have f2 : z_fig X aim (some c) (7 + i) = nI (c.getD i (0, 0)).2 := by
        unfold z_fig
        (try dsimp only)
        rw [if_neg (by omega), if_neg (by omega), if_neg (by omega), if_neg (by omega), if_neg (by omega), Nat.add_sub_cancel_left, if_pos hi]
      obtain ⟨e3, T3⟩ := s_set (P := P) (d := d - 1) (v := nI (c.getD i (0, 0)).1) (by omega) T2 hr (by omega : 9 + i < 17)
      have m3 := m.then_set (a := b) (k := r * 17 + (9 + i)) (v := nI (c.getD i (0, 0)).1) rfl
      have Rs3 : SR (a_setI s b (r * 17 + (9 + i)) (nI (c.getD i (0, 0)).1)) X aim (some c) n := by
        have q : ∀ k, a_I (a_setI s b (r * 17 + (9 + i)) (nI (c.getD i (0, 0)).1)) 234 k = a_I s 234 k := fun k => a_I_off (.inl (by omega))
        have q2 : ∀ k, a_I (a_setI s b (r * 17 + (9 + i)) (nI (c.getD i (0, 0)).1)) 229 k = a_I s 229 k := fun k => a_I_off (.inl (by omega))
        unfold SR at Rs ⊢
        simp only [q, q2]
        exact Rs
      obtain ⟨e4, T4⟩ := s_set (P := P) (d := d - 1) (v := nI (c.getD i (0, 0)).2) (by omega) T3 hr (by omega : 13 + i < 17)
      have m4 := m3.then_set (a := b) (k := r * 17 + (13 + i)) (v := nI (c.getD i (0, 0)).2) rfl
      refine ⟨_, ⟨m4, T4.congr fun r' hr' k hk => ?_⟩, ?_⟩
      · (try dsimp only)
        by_cases h1 : r' = r
        · simp only [h1, true_and, ite_true]
          by_cases h2 : k = 13 + i
          · rw [if_pos h2, if_neg (by omega), if_neg (by omega), if_pos (by omega), h2, Nat.add_sub_cancel_left]
          · rw [if_neg h2]
            by_cases h3 : k = 9 + i
            · rw [if_pos h3, if_neg (by omega), if_pos (by omega), h3, Nat.add_sub_cancel_left]
            · rw [if_neg h3]
              by_cases h4 : k = 8
              · rw [if_pos h4, if_pos h4]
              · rw [if_neg h4, if_neg h4]
                by_cases h5 : 9 ≤ k ∧ k < 9 + i
                · rw [if_pos h5, if_pos (by omega)]
                · rw [if_neg h5]
                  by_cases h6 : 13 ≤ k ∧ k < 13 + i
                  · rw [if_pos h6, if_neg (show ¬ (9 ≤ k ∧ k < 9 + (i + 1)) by omega), if_pos (by omega)]
                  · rw [if_neg h6, if_neg (show ¬ (9 ≤ k ∧ k < 9 + (i + 1)) by omega), if_neg (by omega)]
        · rw [if_neg (fun z => h1 z.1), if_neg (fun z => h1 z.1), if_neg h1, if_neg h1]
      · (try dsimp only)
        rw [b_X3_writeTo_18 (m.sh h), if_pos (nIl hi (by omega)), nI_add, nI_add, s_figure (by omega) (m.sh h) Rs (by omega), g_v, f1, b_X3_writeTo_39 T2.1, e3, g_n, b_X3_writeTo_42 (m3.sh h), nI_add, nI_add, s_figure (by omega) (m3.sh h) Rs3 (by omega), g_v, f2, b_X3_writeTo_58 T3.1, e4, g_n, b_X3_writeTo_61, nI_add])
  refine ⟨σ', e.trans ?_, m, T2⟩
  (try dsimp only)
  rw [b_X3_writeTo_18 (m.sh h), if_neg (nIn (Nat.le_refl _) (by omega))]
end SEB
