/-! what the operations make of a palette keeps its bounds -/
theorem Vn.congr {f g : Nat → Nat} (h : Vn g) (e : ∀ k, k < 8 → f k = g k) : Vn f := by
  obtain ⟨l, h1, h2, h3, h4⟩ := h
  exact ⟨l, h1, h2, fun k hk => by rw [e k (by omega)]; exact h3 k hk, fun k a b => by rw [e k b]; exact h4 k a b⟩
theorem Vm.congr {nt : Nat} {f g : Nat → Nat} (h : Vm nt g) (e : ∀ k, 8 ≤ k → k < 17 → f k = g k) : Vm nt f := by
  obtain ⟨h1, h2, h3, h4⟩ := h
  have e8 := e 8 (by decide) (by decide)
  exact ⟨by rw [e8]; exact h1, by rw [e8]; exact h2, fun i hi => by rw [e8] at hi; rw [e _ (by omega) (by omega), e _ (by omega) (by omega)]; exact h3 i hi, fun i hi j hj => by rw [e8] at hi hj; rw [e _ (by omega) (by omega), e _ (by omega) (by omega)]; exact h4 i hi j hj⟩
def z_del (X : Pal) (m : Nat) : Pal := z_cnt (z_up X 1 (fun r k => if r < m then X.2 1 r k else X.2 1 (r + 1) k)) 1 (X.1 1 - 1)
def z_ret (X : Pal) (t : Nat) (b : Bool) : Pal := z_cnt (z_up X 0 (fun r k => if r = t ∧ k = 12 then z_1 b else X.2 0 r k)) 0 (X.1 0)
def z_fil (X : Pal) (t n : Nat) : Pal := z_cnt (z_up X 0 (fun r k => if r = t ∧ k = 11 then n else X.2 0 r k)) 0 (X.1 0)
def z_hrow (g : Nat → Nat) (c : Cnd) (k : Nat) : Nat := if k = 8 then c.length else if 9 ≤ k ∧ k < 9 + c.length then (c.getD (k - 9) (0, 0)).1 else if 13 ≤ k ∧ k < 13 + c.length then (c.getD (k - 13) (0, 0)).2 else g k
def z_hl (X : Pal) (m : Nat) (c : Cnd) : Pal := z_cnt (z_up X 1 (fun r k => if r = m then z_hrow (X.2 1 m) c k else X.2 1 r k)) 1 (X.1 1)
section VDL
variable {X : Pal}
theorem z_del_vd (V : Vd X) {m : Nat} : Vd (z_del X m) := ⟨⟨V.1.1, by show X.1 1 - 1 ≤ 20; have := V.1.2; omega⟩, V.2.1, V.2.2.1, V.2.2.2.1, V.2.2.2.2.1, V.2.2.2.2.2.1, V.2.2.2.2.2.2.1, fun r hr => by
  have hr : r < X.1 1 - 1 := hr
  show Vn (fun k => if r < m then X.2 1 r k else X.2 1 (r + 1) k) ∧ Vm (X.1 0) (fun k => if r < m then X.2 1 r k else X.2 1 (r + 1) k)
  by_cases h : r < m
  · simp only [if_pos h]
    exact V.2.2.2.2.2.2.2.1 r (by omega)
  · simp only [if_neg h]
    exact V.2.2.2.2.2.2.2.1 (r + 1) (by omega), V.2.2.2.2.2.2.2.2⟩
theorem z_ret_vd (V : Vd X) {t : Nat} {b : Bool} : Vd (z_ret X t b) := ⟨V.1, V.2.1, V.2.2.1, V.2.2.2.1, V.2.2.2.2.1, V.2.2.2.2.2.1, fun r hr => by
  obtain ⟨h1, h2, h3, h4⟩ := V.2.2.2.2.2.2.1 r hr
  refine ⟨h1.congr fun k hk => if_neg (by omega), fun k hk => ?_, ?_, ?_⟩
  · show (if r = t ∧ 8 + k = 12 then z_1 b else X.2 0 r (8 + k)) ≤ 255
    rw [if_neg (by omega)]
    exact h2 k hk
  · show (if r = t ∧ 11 = 12 then z_1 b else X.2 0 r 11) ≤ 9999
    rw [if_neg (by omega)]
    exact h3
  · show (if r = t ∧ 12 = 12 then z_1 b else X.2 0 r 12) ≤ 1
    split
    · exact z_1le b
    · exact h4, V.2.2.2.2.2.2.2.1, V.2.2.2.2.2.2.2.2⟩
theorem z_fil_vd (V : Vd X) {t n : Nat} (hn : n ≤ 9999) : Vd (z_fil X t n) := ⟨V.1, V.2.1, V.2.2.1, V.2.2.2.1, V.2.2.2.2.1, V.2.2.2.2.2.1, fun r hr => by
  obtain ⟨h1, h2, h3, h4⟩ := V.2.2.2.2.2.2.1 r hr
  refine ⟨h1.congr fun k hk => if_neg (by omega), fun k hk => ?_, ?_, ?_⟩
  · show (if r = t ∧ 8 + k = 11 then n else X.2 0 r (8 + k)) ≤ 255
    rw [if_neg (by omega)]
    exact h2 k hk
  · show (if r = t ∧ 11 = 11 then n else X.2 0 r 11) ≤ 9999
    split
    · exact hn
    · exact h3
  · show (if r = t ∧ 12 = 11 then n else X.2 0 r 12) ≤ 1
    rw [if_neg (by omega)]
    exact h4, V.2.2.2.2.2.2.2.1, V.2.2.2.2.2.2.2.2⟩
theorem z_turb_vd (V : Vd X) {n : Nat} (hn : n ≤ 9) : Vd (z_cnt X 6 n) := ⟨V.1, V.2.1, V.2.2.1, V.2.2.2.1, V.2.2.2.2.1, hn, V.2.2.2.2.2.2.1, V.2.2.2.2.2.2.2.1, V.2.2.2.2.2.2.2.2⟩
theorem z_clean_vd (V : Vd X) {b : Nat} : Vd (z_clean X b) := ⟨V.1, V.2.1, V.2.2.1, V.2.2.2.1, V.2.2.2.2.1, Nat.min_le_left _ _, V.2.2.2.2.2.2.1, V.2.2.2.2.2.2.2.1, fun r hr => by
  obtain ⟨h1, h2⟩ := V.b hr
  refine ⟨fun k hk => ?_, ?_⟩
  · show (if r = b ∧ k = 3 then (if X.1 6 < 5 then 0 else min 1 (X.2 2 b 3)) else X.2 2 r k) ≤ 255
    rw [if_neg (by omega)]
    exact h1 k hk
  · show (if r = b ∧ 3 = 3 then (if X.1 6 < 5 then 0 else min 1 (X.2 2 b 3)) else X.2 2 r 3) ≤ 3
    split
    · split <;> omega
    · exact h2⟩
theorem z_pt_vd (V : Vd X) {b s m : Nat} (hb : b < X.1 2) (hm : m < X.1 1) : Vd (z_pt X b (X.2 1 m) s) := ⟨V.1, V.2.1, Nat.min_le_left _ _, V.2.2.2.1, V.2.2.2.2.1, V.2.2.2.2.2.1, fun r hr => by
  obtain ⟨h1, h2, h3, h4⟩ := V.2.2.2.2.2.2.1 r hr
  refine ⟨h1.congr fun k hk => if_neg (by omega), fun k hk => ?_, ?_, h4⟩
  · show (if 8 + k = 11 then X.2 0 r 11 - s * z_part (X.2 1 m) r (X.2 1 m 8) else X.2 0 r (8 + k)) ≤ 255
    rw [if_neg (by omega)]
    exact h2 k hk
  · exact Nat.le_trans (Nat.sub_le _ _) h3, V.2.2.2.2.2.2.2.1, fun r hr => by
  obtain ⟨h1, h2⟩ := V.b hr
  refine ⟨fun k hk => ?_, ?_⟩
  · show (if r = b then (if k = 3 then min 3 (X.2 2 b 3 + 1) else z_paint X b (X.2 1 m) k) else X.2 2 r k) ≤ 255
    split
    · rw [if_neg (by omega)]
      exact z_paint_le V hb (V.m hm) hk
    · exact h1 k hk
  · show (if r = b then (if 3 = 3 then min 3 (X.2 2 b 3 + 1) else z_paint X b (X.2 1 m) 3) else X.2 2 r 3) ≤ 3
    split
    · rw [if_pos rfl]
      exact Nat.min_le_left _ _
    · exact h2⟩
/-- the tubes of what is found are all different -/
def z_dis (s : Option Cnd) : Prop := ∀ c, s = some c → (c.map Prod.fst).Nodup
theorem q_fold_inv {S : Type} {f : Nat → S → S} {Q : S → Prop} (h : ∀ i s, Q s → Q (f i s)) : ∀ (k i : Nat) (s : S), Q s → Q (q_fold f k i s)
  | 0, _, _, hs => hs
  | k + 1, i, s, hs => q_fold_inv h k (i + 1) (f i s) (h i s hs)
theorem z_shr_dis {aim : Nat} : ∀ (l : List Nat) (left : Nat) (acc : Cnd) (s : Option Cnd), (acc.map Prod.fst ++ l).Nodup → z_dis s → z_dis (z_shr X aim l left acc s)
  | [], _, _, s, _, hs => hs
  | [t], left, acc, s, hl, hs => by
    show z_dis (z_stp X aim s (acc ++ [(t, left)]))
    have hn : z_dis (some (acc ++ [(t, left)])) := fun c hc => by
      cases hc
      rw [List.map_append]
      exact hl
    cases s with
    | none => exact hn
    | some b =>
      unfold z_stp
      (try dsimp only)
      split
      · exact hn
      · exact hs
  | t :: u :: l, left, acc, s, hl, hs => q_fold_inv (Q := z_dis) (fun p s hs => z_shr_dis (u :: l) (left - p) (acc ++ [(t, p)]) s (by
      rw [List.map_append, List.append_assoc]
      exact hl) hs) _ _ _ hs
theorem z_cho_dis {aim tot : Nat} : ∀ (n : Nat) (l ch : List Nat) (s : Option Cnd), (ch ++ l).Nodup → z_dis s → z_dis (z_cho X aim tot n l ch s)
  | 0, l, ch, s, hl, hs => by
    have e : z_cho X aim tot 0 l ch s = z_shr X aim ch tot [] s := by cases l <;> rfl
    rw [e]
    exact z_shr_dis ch tot [] s (hl.sublist (List.sublist_append_left ch l)) hs
  | _ + 1, [], _, _, _, hs => hs
  | n + 1, t :: l, ch, s, hl, hs => z_cho_dis (n + 1) l ch _ (hl.sublist ((List.sublist_cons_self t l).append_left ch)) (z_cho_dis n l (ch ++ [t]) s (by rw [List.append_assoc]; exact hl) hs)
theorem z_U_nodup : (z_U X).Nodup := List.nodup_range.sublist List.filter_sublist
theorem z_near_dis {aim k : Nat} : z_dis (z_near X aim k) := q_fold_inv (Q := z_dis) (fun n s hs => q_fold_inv (Q := z_dis) (fun tot s hs => z_cho_dis n (z_U X) [] s z_U_nodup hs) _ _ _ hs) _ _ _ (fun c hc => by cases hc)
theorem z_call_le {c : Cnd} : ∀ {i : Nat}, i < c.length → (c.getD i (0, 0)).2 ≤ z_call c := by
  induction c with
  | nil => intro i hi; exact absurd hi (Nat.not_lt_zero _)
  | cons a c ih =>
    intro i hi
    have e : z_call (a :: c) = a.2 + z_call c := by
      unfold z_call
      rw [List.map_cons, List.sum_cons]
    rw [e]
    cases i with
    | zero => exact Nat.le_add_right _ _
    | succ i =>
      have := ih (i := i) (by simpa using hi)
      show (c.getD i (0, 0)).2 ≤ _
      omega
theorem z_near_va {aim k : Nat} {c : Cnd} (h : z_ok X c) (hc : z_near X aim k = some c) : Va (X.1 0) c := by
  have hd := z_near_dis (X := X) (aim := aim) (k := k) c hc
  refine ⟨by have := h.2.1; omega, fun i hi => ?_, fun i hi j hj e => ?_⟩
  · have hm : c.getD i (0, 0) ∈ c := by
      rw [List.getD_eq_getElem?_getD, List.getElem?_eq_getElem hi]
      exact List.getElem_mem hi
    have := h.2.2.2 _ hm
    exact ⟨this.1, this.2.2, Nat.le_trans (z_call_le hi) (by have := h.2.2.1; omega)⟩
  · have hp := List.pairwise_iff_getElem.mp hd
    have eg : ∀ i (hi : i < c.length), (c.getD i (0, 0)).1 = (c.map Prod.fst)[i]'(by rw [List.length_map]; exact hi) := fun i hi => by
      rw [List.getD_eq_getElem?_getD, List.getElem?_eq_getElem hi, List.getElem_map]
      rfl
    rw [eg i hi, eg j hj] at e
    rcases Nat.lt_trichotomy i j with h | h | h
    · exact absurd e (hp i j (by rw [List.length_map]; exact hi) (by rw [List.length_map]; exact hj) h)
    · exact h
    · exact absurd e.symm (hp j i (by rw [List.length_map]; exact hj) (by rw [List.length_map]; exact hi) h)
theorem z_hl_vd (V : Vd X) {m : Nat} {c : Cnd} (A : Va (X.1 0) c) (h0 : 0 < c.length) : Vd (z_hl X m c) := ⟨V.1, V.2.1, V.2.2.1, V.2.2.2.1, V.2.2.2.2.1, V.2.2.2.2.2.1, V.2.2.2.2.2.2.1, fun r hr => by
  obtain ⟨h1, h2⟩ := V.2.2.2.2.2.2.2.1 r hr
  show Vn (fun k => if r = m then z_hrow (X.2 1 m) c k else X.2 1 r k) ∧ Vm (X.1 0) (fun k => if r = m then z_hrow (X.2 1 m) c k else X.2 1 r k)
  by_cases h : r = m
  · subst h
    simp only [if_true]
    have e9 : ∀ i, i < c.length → z_hrow (X.2 1 r) c (9 + i) = (c.getD i (0, 0)).1 := fun i hi => by
      unfold z_hrow
      rw [if_neg (by omega), if_pos (by omega), show 9 + i - 9 = i by omega]
    have e13 : ∀ i, i < c.length → z_hrow (X.2 1 r) c (13 + i) = (c.getD i (0, 0)).2 := fun i hi => by
      have := A.1
      unfold z_hrow
      rw [if_neg (by omega), if_neg (by omega), if_pos (by omega), show 13 + i - 13 = i by omega]
    refine ⟨h1.congr fun k hk => by unfold z_hrow; rw [if_neg (by omega), if_neg (by omega), if_neg (by omega)], h0, A.1, fun i hi => ?_, fun i hi j hj e => ?_⟩
    · have hi : i < c.length := hi
      (try dsimp only)
      rw [e9 i hi, e13 i hi]
      exact A.2.1 i hi
    · have hi : i < c.length := hi
      have hj : j < c.length := hj
      have e : z_hrow (X.2 1 r) c (9 + i) = z_hrow (X.2 1 r) c (9 + j) := e
      rw [e9 i hi, e9 j hj] at e
      exact A.2.2 i hi j hj e
  · simp only [if_neg h]
    exact ⟨h1, h2⟩, V.2.2.2.2.2.2.2.2⟩
end VDL
