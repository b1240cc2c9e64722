/-! the model: the search -/
/-- the mix that stands in the cells, of a list of tubes and parts -/
def z_g (c : Cnd) : Nat → Nat := fun k => if k < 9 then c.length else if k < 13 then (c.getD (k - 9) (0, 0)).1 else (c.getD (k - 13) (0, 0)).2
theorem z_g8 (c : Cnd) : z_g c 8 = c.length := rfl
theorem z_g9 {c : Cnd} {i : Nat} (h : i < 4) : z_g c (9 + i) = (c.getD i (0, 0)).1 := by
  unfold z_g
  rw [if_neg (by omega), if_pos (by omega), show 9 + i - 9 = i by omega]
theorem z_g13 {c : Cnd} {i : Nat} : z_g c (13 + i) = (c.getD i (0, 0)).2 := by
  unfold z_g
  rw [if_neg (by omega), if_neg (by omega), show 13 + i - 13 = i by omega]
theorem q_s_sh (f : Nat → Nat) : ∀ n, q_s f (n + 1) = f 0 + q_s (fun i => f (i + 1)) n
  | 0 => by show 0 + f 0 = f 0 + 0; omega
  | n + 1 => by
    show q_s f (n + 1) + f (n + 1) = f 0 + (q_s (fun i => f (i + 1)) n + f (n + 1))
    rw [q_s_sh f n]
    omega
theorem q_s_ls (f : Nat × Nat → Nat) : ∀ c : Cnd, q_s (fun i => f (c.getD i (0, 0))) c.length = (c.map f).sum
  | [] => rfl
  | a :: c => by
    rw [List.length_cons, q_s_sh, List.map_cons, List.sum_cons, ← q_s_ls f c]
    rfl
theorem z_g_all (c : Cnd) : z_all (z_g c) = z_call c := by
  unfold z_all z_call
  rw [z_g8, ← q_s_ls]
  exact q_s_congr fun i _ => z_g13
theorem z_g_sum {X : Pal} {c : Cnd} (h : c.length ≤ 4) (k : Nat) : z_sum X (z_g c) k = z_csum X c k := by
  unfold z_sum z_csum
  rw [z_g8, ← q_s_ls (fun q => q.2 * X.2 0 q.1 (8 + k))]
  exact q_s_congr fun i hi => by rw [z_g13, z_g9 (by omega)]
theorem z_g_val {X : Pal} {c : Cnd} (h : c.length ≤ 4) (k : Nat) : z_val X (z_g c) k = z_cv X c k := by
  unfold z_val z_cv
  rw [z_g_sum h, z_g_all]
theorem z_g_col {X : Pal} {c : Cnd} (h : c.length ≤ 4) : z_col X (z_g c) = z_ccol X c := by
  unfold z_col z_ccol
  rw [z_g_val h, z_g_val h, z_g_val h]
theorem z_getD {c : Cnd} {i : Nat} (h : i < c.length) : c.getD i (0, 0) ∈ c := by
  rw [List.getD_eq_getElem?_getD, List.getElem?_eq_getElem h]
  exact List.getElem_mem h
theorem z_g_vg {X : Pal} {c : Cnd} (V : Vd X) (h : z_ok X c) : VG X (z_g c) := by
  have h1 := h.2.1
  refine ⟨by rw [z_g8]; omega, fun i hi => ?_, ⟨by rw [z_g_all]; exact z_ok_all h, by rw [z_g_all]; have := h.2.2.1; omega⟩, fun k hk => by rw [z_g_sum (by omega), z_g_all]; exact z_ok_sum V h hk⟩
  rw [z_g8] at hi
  rw [z_g9 (by omega)]
  exact (h.2.2.2 _ (z_getD hi)).1
theorem z_cfar_far {X : Pal} {c : Cnd} (V : Vd X) (h : z_ok X c) {aim : Nat} : z_far (z_ccol X c) aim = z_cfar X aim c := by
  obtain ⟨e0, e1, e2⟩ := z_ch_col (z_ok_cv V h (w := 0) (by decide)) (z_ok_cv V h (w := 1) (by decide)) (z_ok_cv V h (w := 2) (by decide))
  unfold z_far z_cfar z_ccol
  rw [e0, e1, e2]
theorem z_ccol_le {X : Pal} {c : Cnd} (V : Vd X) (h : z_ok X c) : z_ccol X c ≤ 16777215 := by
  have h0 := z_ok_cv V h (w := 0) (by decide)
  have h1 := z_ok_cv V h (w := 1) (by decide)
  have h2 := z_ok_cv V h (w := 2) (by decide)
  unfold z_ccol
  omega
/-- what the model has found -/
def SB (σ : aSt) (X : Pal) (aim : Nat) (s : Option Cnd) : Prop := match s with
  | none => a_I σ 237 13 = nI 0 ∧ a_I σ 237 14 = -1
  | some c => z_ok X c ∧ a_I σ 237 13 = nI c.length ∧ a_I σ 237 14 = nI (z_cfar X aim c) ∧ a_I σ 237 15 = nI (z_ccol X c) ∧ ∀ i, i < c.length → a_I σ 244 i = nI (c.getD i (0, 0)).1 ∧ a_I σ 245 i = nI (c.getD i (0, 0)).2
def Sw (b k : Nat) : Prop := b = 244 ∨ b = 245 ∨ (b = 237 ∧ 13 ≤ k ∧ k ≤ 15)
def Sv (a b k : Nat) : Prop := (b = 243 ∧ a ≤ k) ∨ Sw b k
def Sx (a b k : Nat) : Prop := (b = 242 ∧ a ≤ k) ∨ b = 243 ∨ Sw b k
def Yn (b k : Nat) : Prop := b = 242 ∨ b = 243 ∨ Sw b k ∨ (b = 237 ∧ (k = 10 ∨ k = 16))
theorem Yn.sm (b k : Nat) (h : Yn b k) : SM b k := by unfold Yn Sw at h; unfold SM; omega
theorem Sx.sn (a b k : Nat) (h : Sx a b k) : Yn b k := by unfold Sx Sw at h; unfold Yn Sw; omega
theorem Yn.n6 {σ σ' : aSt} (m : Mo Yn σ σ') : a_I σ' 237 6 = a_I σ 237 6 := m.I (by unfold Yn Sw; omega)
theorem SB.mo {S : Nat → Nat → Prop} {σ σ' : aSt} {X : Pal} {aim : Nat} {s : Option Cnd} (B : SB σ X aim s) (m : Mo S σ σ') (hS : ∀ b k, S b k → ¬ Sw b k) : SB σ' X aim s := by
  have e : ∀ b k, Sw b k → a_I σ' b k = a_I σ b k := fun b k hb => m.I fun z => hS b k z hb
  cases s with
  | none => exact ⟨by rw [e _ _ (by unfold Sw; omega)]; exact B.1, by rw [e _ _ (by unfold Sw; omega)]; exact B.2⟩
  | some c => exact ⟨B.1, by rw [e _ _ (by unfold Sw; omega)]; exact B.2.1, by rw [e _ _ (by unfold Sw; omega)]; exact B.2.2.1, by rw [e _ _ (by unfold Sw; omega)]; exact B.2.2.2.1, fun i hi => ⟨by rw [e _ _ (by unfold Sw; omega)]; exact (B.2.2.2.2 i hi).1, by rw [e _ _ (by unfold Sw; omega)]; exact (B.2.2.2.2 i hi).2⟩⟩
theorem z_stp_ok {X : Pal} {aim : Nat} {s : Option Cnd} {c : Cnd} : ∀ b, z_stp X aim s c = some b → b = c ∨ s = some b := by
  intro b hb
  cases s with
  | none => exact .inl (Option.some.inj hb).symm
  | some q =>
    have hb : (if z_cfar X aim c < z_cfar X aim q then some c else some q) = some b := hb
    split at hb
    · exact .inl (Option.some.inj hb).symm
    · exact .inr hb
section MOV
variable {P : aCall} {d : Nat} {σ : aSt} {X : Pal} {w aim : Nat}
theorem y_weigh (hd : 4 ≤ d) (h : Sh σ) (M : MC σ w X) (V : Vd X) (ha : aim ≤ 16777215) (e16 : a_I σ 237 16 = nI aim) {c : Cnd} (hc : z_ok X c) (T : TK σ (z_g c)) {s : Option Cnd} (B : SB σ X aim s) : ∃ σ', a_call a_tab P d 173 [.ref 237] σ = some (.inl none, σ') ∧ Mo Sw σ σ' ∧ SB σ' X aim (z_stp X aim s c) := by
  have h3 := hc.2.1
  have hf : z_cfar X aim c ≤ 585225 := z_cfar_le fun w hw => z_ok_cv V hc hw
  have e0 : ∃ s1, b_R (a_call a_tab P (d - 1)) kX8_weigh [] (31, [some (.ref 237), some (.int (nI (z_ccol X c))), some (.int (nI (z_cfar X aim c))), none], [], σ) = some (.inl none, s1) ∧ Mo Sw σ s1 ∧ SB s1 X aim (some c) := by
    have e10 : a_I (a_setI (a_setI σ 237 14 (nI (z_cfar X aim c))) 237 15 (nI (z_ccol X c))) 237 10 = nI c.length := by
      rw [a_I_off (.inr (by decide)), a_I_off (.inr (by decide))]
      exact T.1
    have m0 : Mo Sw σ (a_setI (a_setI (a_setI σ 237 14 (nI (z_cfar X aim c))) 237 15 (nI (z_ccol X c))) 237 13 (nI c.length)) := ((Mo.set (by unfold Sw; omega)).then_set (by unfold Sw; omega)).then_set (by unfold Sw; omega)
    obtain ⟨s1, ⟨m1, b1, b2, b3, b4⟩, e⟩ := up_st0 (run := fun i τ => b_R (a_call a_tab P (d - 1)) kX8_weigh [] (51, [some (.ref 237), some (.int (nI (z_ccol X c))), some (.int (nI (z_cfar X aim c))), some (.int (nI i))], [], τ)) (n := c.length) (s := a_setI (a_setI (a_setI σ 237 14 (nI (z_cfar X aim c))) 237 15 (nI (z_ccol X c))) 237 13 (nI c.length)) (fun j τ => Mo Sw σ τ ∧ a_I τ 237 13 = nI c.length ∧ a_I τ 237 14 = nI (z_cfar X aim c) ∧ a_I τ 237 15 = nI (z_ccol X c) ∧ ∀ i, i < j → a_I τ 244 i = nI (c.getD i (0, 0)).1 ∧ a_I τ 245 i = nI (c.getD i (0, 0)).2)
      ⟨m0, a_I_at, by rw [a_I_off (.inr (by decide)), a_I_off (.inr (by decide))]; exact a_I_at, by rw [a_I_off (.inr (by decide))]; exact a_I_at, fun i hi => absurd hi (Nat.not_lt_zero _)⟩
      (fun i τ hi ⟨m1, b1, b2, b3, b4⟩ => by
        have h1 := m1.sh h
        have t10 : a_I τ 237 10 = nI c.length := by rw [m1.I (by unfold Sw; omega)]; exact T.1
        have t2 : a_I τ 242 i = nI (c.getD i (0, 0)).1 := by rw [m1.I (by unfold Sw; omega), (T.2 i hi).1, z_g9 (by omega)]
        have t3 : a_I τ 243 i = nI (c.getD i (0, 0)).2 := by rw [m1.I (by unfold Sw; omega), (T.2 i hi).2, z_g13]
        refine ⟨a_setI (a_setI τ 244 i (nI (c.getD i (0, 0)).1)) 245 i (nI (c.getD i (0, 0)).2), ⟨(m1.then_set (by unfold Sw; omega)).then_set (by unfold Sw; omega), ?_, ?_, ?_, fun j hj => ?_⟩, ?_⟩
        · rw [a_I_off (.inl (by decide)), a_I_off (.inl (by decide))]; exact b1
        · rw [a_I_off (.inl (by decide)), a_I_off (.inl (by decide))]; exact b2
        · rw [a_I_off (.inl (by decide)), a_I_off (.inl (by decide))]; exact b3
        · by_cases hji : j = i
          · subst hji
            exact ⟨by rw [a_I_off (.inl (by decide))]; exact a_I_at, a_I_at⟩
          · have := b4 j (by omega)
            exact ⟨by rw [a_I_off (.inl (by decide)), a_I_off (.inr hji)]; exact this.1, by rw [a_I_off (.inr hji), a_I_off (.inl (by decide))]; exact this.2⟩
        · (try dsimp only)
          rw [b_X8_weigh_51 h1, t10, if_pos (nIl hi (by omega)), b_gd_t (nIi (by omega) (by decide)), b_gd_t (nIi (by omega) (by decide)), b_gd_t (nIi (by omega) (by decide)), b_gd_t (nIi (by omega) (by decide)), nIc (by omega), t2, a_I_off (.inl (by decide)), t3, nI_add])
    refine ⟨s1, ?_, m1, hc, b1, b2, b3, b4⟩
    rw [b_X8_weigh_31 h, e10]
    refine e.trans ?_
    (try dsimp only)
    rw [b_X8_weigh_51 (m1.sh h), show a_I s1 237 10 = nI c.length from by rw [m1.I (by unfold Sw; omega)]; exact T.1, if_neg (nIn (Nat.le_refl _) (by omega))]
  obtain ⟨s1, e1, m1, B1⟩ := e0
  have hcl := z_ccol_le V hc
  have e5 : a_call a_tab P d 173 [.ref 237] σ = if a_I σ 237 14 = -1 then some (.inl none, s1) else if nI (z_cfar X aim c) < a_I σ 237 14 then some (.inl none, s1) else some (.inl none, σ) := by
    rw [n_X8_weigh (by omega), b_X8_weigh_0 h, y_colourHereG (by omega) h M V (z_g_vg V hc) T, g_v, z_g_col (by omega), b_X8_weigh_4 h, e16, y_far (by omega) hcl ha, g_v, z_cfar_far V hc, b_X8_weigh_13 h, e1]
  rw [e5]
  cases s with
  | none =>
    rw [if_pos B.2]
    exact ⟨s1, rfl, m1, B1⟩
  | some b =>
    have hb : z_cfar X aim b ≤ 585225 := z_cfar_le fun w hw => z_ok_cv V B.1 hw
    rw [B.2.2.1, if_neg (nI_m1 (by omega))]
    unfold z_stp
    (try dsimp only)
    by_cases hl : z_cfar X aim c < z_cfar X aim b
    · rw [if_pos hl, if_pos (nIl hl (by omega))]
      exact ⟨s1, rfl, m1, B1⟩
    · rw [if_neg hl, if_neg (nIn (by omega) (by omega))]
      exact ⟨σ, rfl, Mo.rf, B⟩
/-- the tubes of a choice, as the cells hold them from place a on -/
def IN (σ : aSt) (a : Nat) (l : List Nat) : Prop := ∀ j, j < l.length → a_I σ 242 (a + j) = nI (l.getD j 0)
theorem z_okA {X : Pal} {acc : Cnd} {t p : Nat} (h4 : ∀ q, q ∈ acc → q.1 < X.1 0 ∧ z_use X q.1 = true ∧ 1 ≤ q.2) (ht : t < X.1 0 ∧ z_use X t = true) (hp : 1 ≤ p) : ∀ q, q ∈ acc ++ [(t, p)] → q.1 < X.1 0 ∧ z_use X q.1 = true ∧ 1 ≤ q.2 := by
  intro q hq
  rcases List.mem_append.mp hq with h | h
  · exact h4 q h
  · rw [List.mem_singleton.mp h]
    exact ⟨ht.1, ht.2, hp⟩
theorem z_callA {acc : Cnd} {t p : Nat} : z_call (acc ++ [(t, p)]) = z_call acc + p := by
  unfold z_call
  rw [List.map_append, List.sum_append]
  rfl
theorem z_getA {acc : Cnd} {q : Nat × Nat} {i : Nat} (h : i < acc.length) : (acc ++ [q]).getD i (0, 0) = acc.getD i (0, 0) := by
  rw [List.getD_eq_getElem?_getD, List.getD_eq_getElem?_getD, List.getElem?_append_left h]
theorem z_getL {acc : Cnd} {q : Nat × Nat} : (acc ++ [q]).getD acc.length (0, 0) = q := by
  rw [List.getD_eq_getElem?_getD, List.getElem?_append_right (Nat.le_refl _), Nat.sub_self]
  rfl
theorem y_share (V : Vd X) (ha : aim ≤ 16777215) : ∀ (l : List Nat) (d : Nat) (σ : aSt) (acc : Cnd) (left : Nat) (s : Option Cnd), 5 + l.length ≤ d → Sh σ → MC σ w X → a_I σ 237 16 = nI aim → 1 ≤ l.length → acc.length + l.length ≤ 3 → a_I σ 237 10 = nI (acc.length + l.length) → (∀ i, i < acc.length → a_I σ 242 i = nI (acc.getD i (0, 0)).1 ∧ a_I σ 243 i = nI (acc.getD i (0, 0)).2) → IN σ acc.length l → (∀ q, q ∈ acc → q.1 < X.1 0 ∧ z_use X q.1 = true ∧ 1 ≤ q.2) → (∀ t, t ∈ l → t < X.1 0 ∧ z_use X t = true) → l.length ≤ left → z_call acc + left ≤ 6 → SB σ X aim s →
    ∃ σ', a_call a_tab P d 174 [.ref 237, .int (nI acc.length), .int (nI left)] σ = some (.inl none, σ') ∧ Mo (Sv acc.length) σ σ' ∧ SB σ' X aim (z_shr X aim l left acc s)
  | [], _, _, _, _, _, _, _, _, _, h1, _, _, _, _, _, _, _, _, _ => absurd h1 (by decide)
  | [t], d, σ, acc, left, s, hd, h, M, e16, _, h3, e10, hacc, hin, hok, hl, h1, h6, B => by
    have hd : 6 ≤ d := hd
    have h3 : acc.length + 1 ≤ 3 := h3
    have e10 : a_I σ 237 10 = nI (acc.length + 1) := e10
    have h1 : 1 ≤ left := h1
    have ht := hl t List.mem_cons_self
    have m0 : Mo (Sv acc.length) σ (a_setI σ 243 acc.length (nI left)) := Mo.set (.inl ⟨rfl, Nat.le_refl _⟩)
    have hc : z_ok X (acc ++ [(t, left)]) := by
      refine ⟨by rw [List.length_append]; show 1 ≤ acc.length + 1; omega, by rw [List.length_append]; exact h3, by rw [z_callA]; exact h6, z_okA hok ht h1⟩
    have T : TK (a_setI σ 243 acc.length (nI left)) (z_g (acc ++ [(t, left)])) := by
      refine ⟨?_, fun i hi => ?_⟩
      · rw [a_I_off (.inl (by decide)), e10, z_g8, List.length_append]; rfl
      · rw [z_g8, List.length_append] at hi
        have hi : i < acc.length + 1 := hi
        rw [z_g9 (by omega), z_g13, a_I_off (.inl (by decide))]
        by_cases hia : i = acc.length
        · subst hia
          rw [z_getL]
          exact ⟨hin 0 Nat.one_pos, a_I_at⟩
        · rw [z_getA (by omega), a_I_off (.inr hia)]
          exact hacc i (by omega)
    have B0 : SB (a_setI σ 243 acc.length (nI left)) X aim s := B.mo (S := fun b _ => b = 243) (Mo.set rfl) fun b k z => by subst z; unfold Sw; omega
    obtain ⟨s1, e1, m1, B1⟩ := y_weigh (P := P) (d := d - 1) (by omega) (m0.sh h) (M.mo m0 fun k z => by have := M.2.1; have := M.2.2.1; unfold Sv Sw at z; omega) V ha (by rw [a_I_off (.inl (by decide))]; exact e16) hc T B0
    refine ⟨s1, ?_, m0.tr (m1.mono fun b k z => .inr z), B1⟩
    rw [n_X8_share (by omega), b_X8_share_0 h, e10, nI_s1, if_pos rfl, b_gd_t (nIi (by omega) (by decide)), nIc (by omega), e1, g_n, b_X8_share_21]
  | t :: u :: l, d, σ, acc, left, s, hd, h, M, e16, _, h3, e10, hacc, hin, hok, hl, h1, h6, B => by
    have hd : 7 + l.length ≤ d := by have : 5 + (l.length + 1 + 1) ≤ d := hd; omega
    have h3 : acc.length + (l.length + 1 + 1) ≤ 3 := h3
    have e10 : a_I σ 237 10 = nI (acc.length + (l.length + 1 + 1)) := e10
    have h1 : l.length + 1 + 1 ≤ left := h1
    have ht := hl t List.mem_cons_self
    rw [n_X8_share (by omega), b_X8_share_0 h, e10, show nI (acc.length + (l.length + 1 + 1)) - nI 1 = nI (acc.length + (l.length + 1)) from nI_s1 _, if_neg (fun z => by have := (o_eq (by omega) (by omega)).mp z; omega)]
    obtain ⟨o', s', ⟨m1, B1⟩, e⟩ := up_sq (J := fun s τ => Mo (Sv acc.length) σ τ ∧ SB τ X aim s) (run := fun i (s : Option Cnd) (o : Unit) τ => b_R (a_call a_tab P (d - 1)) kX8_share [] (24, [some (.ref 237), some (.int (nI acc.length)), some (.int (nI left)), some (.int (nI i))], [], τ)) (F := fun p s => z_shr X aim (u :: l) (left - p) (acc ++ [(t, p)]) s) (lo := 1) (n := left - l.length)
      (fun i s o τ hlo hi ⟨m1, B1⟩ => by
        have hh := m1.sh h
        have t10 : a_I τ 237 10 = nI (acc.length + (l.length + 1 + 1)) := by rw [m1.I (by unfold Sv Sw; omega)]; exact e10
        have m2 : Mo (Sv acc.length) τ (a_setI τ 243 acc.length (nI i)) := Mo.set (.inl ⟨rfl, Nat.le_refl _⟩)
        have m3 := m1.tr m2
        have M3 : MC (a_setI τ 243 acc.length (nI i)) w X := M.mo m3 fun k z => by have := M.2.1; have := M.2.2.1; unfold Sv Sw at z; omega
        have la : (acc ++ [(t, i)]).length = acc.length + 1 := by rw [List.length_append]; rfl
        obtain ⟨s2, e2, m4, B2⟩ := y_share V ha (u :: l) (d - 1) (a_setI τ 243 acc.length (nI i)) (acc ++ [(t, i)]) (left - i) s (by show 5 + (l.length + 1) ≤ d - 1; omega) (m3.sh h) M3 (by rw [m3.I (by unfold Sv Sw; omega)]; exact e16) (by show 1 ≤ l.length + 1; omega) (by rw [la]; show acc.length + 1 + (l.length + 1) ≤ 3; omega) (by rw [a_I_off (.inl (by decide)), t10, la]; exact congrArg nI (by show acc.length + (l.length + 1 + 1) = acc.length + 1 + (l.length + 1); omega))
          (fun j hj => by
            rw [la] at hj
            by_cases hja : j = acc.length
            · subst hja
              rw [z_getL]
              exact ⟨by rw [m3.I (by unfold Sv Sw; omega)]; exact hin 0 (by show 0 < l.length + 1 + 1; omega), a_I_at⟩
            · rw [z_getA (by omega)]
              exact ⟨by rw [m3.I (by unfold Sv Sw; omega)]; exact (hacc j (by omega)).1, by rw [m3.I (by unfold Sv Sw; omega)]; exact (hacc j (by omega)).2⟩)
          (fun j hj => by
            rw [la, m3.I (by unfold Sv Sw; omega), show acc.length + 1 + j = acc.length + (j + 1) by omega]
            exact hin (j + 1) (by show j + 1 < l.length + 1 + 1; have : j < l.length + 1 := hj; omega))
          (z_okA hok ht hlo) (fun q hq => hl q (List.mem_cons_of_mem _ hq)) (by show l.length + 1 ≤ left - i; omega) (by rw [z_callA]; omega) (B1.mo (S := fun b _ => b = 243) (Mo.set rfl) fun b k z => by subst z; unfold Sw; omega)
        rw [la] at e2 m4
        refine ⟨(), s2, ⟨m3.tr (m4.mono fun b k z => z.elim (fun q => .inl ⟨q.1, by omega⟩) .inr), B2⟩, ?_⟩
        (try dsimp only)
        rw [b_X8_share_24 hh, t10, show nI (acc.length + (l.length + 1 + 1)) - nI 1 = nI (acc.length + (l.length + 1)) from nI_s1 _, pk_sub (by omega), show acc.length + (l.length + 1) - acc.length = l.length + 1 by omega, pk_sub (by omega), if_neg (nIn (by omega) (by omega)), b_gd_t (nIi (by omega) (by decide)), nIc (by omega), nI_add, pk_sub (by omega), e2, g_n, b_X8_share_55, nI_add]) (left - (l.length + 1)) 1 s () σ (Nat.le_refl _) (by omega) ⟨Mo.rf, B⟩
    have e : b_R (a_call a_tab P (d - 1)) kX8_share [] (24, [some (.ref 237), some (.int (nI acc.length)), some (.int (nI left)), some (.int (nI 1))], [], σ) = _ := e
    have t10 : a_I s' 237 10 = nI (acc.length + (l.length + 1 + 1)) := by rw [m1.I (by unfold Sv Sw; omega)]; exact e10
    refine ⟨s', ?_, m1, B1⟩
    rw [e]
    (try dsimp only)
    rw [b_X8_share_24 (m1.sh h), t10, show nI (acc.length + (l.length + 1 + 1)) - nI 1 = nI (acc.length + (l.length + 1)) from nI_s1 _, pk_sub (by omega), show acc.length + (l.length + 1) - acc.length = l.length + 1 by omega, pk_sub (by omega), if_pos (nIl (by omega) (by omega))]
end MOV
