/-! the model: copies, the history, the snapshot -/
def MT (F : Nat → Int32) (t : Nat) (g : Nat → Nat) : Prop := (∀ k, k < 3 → F (8 + 14 * t + k) = nI (g (8 + k))) ∧ F (8 + 14 * t + 3) = nI (g 11) ∧ F (8 + 14 * t + 4) = nI (z_1 (g 12 == 0)) ∧ F (8 + 14 * t + 5) = nI (z_len g) ∧ ∀ k, k < z_len g → F (8 + 14 * t + (6 + k)) = nI (g k)
def MM (F : Nat → Int32) (m : Nat) (g : Nat → Nat) : Prop := F (288 + 18 * m + 0) = nI (z_len g) ∧ (∀ k, k < z_len g → F (288 + 18 * m + (1 + k)) = nI (g k)) ∧ F (288 + 18 * m + 9) = nI (g 8) ∧ ∀ i, i < g 8 → F (288 + 18 * m + (10 + i)) = nI (g (9 + i)) ∧ F (288 + 18 * m + (14 + i)) = nI (g (13 + i))
theorem MT.eq {F F' : Nat → Int32} {t : Nat} {g : Nat → Nat} (h : MT F t g) (hl : z_len g ≤ 8) (e : ∀ k, k < 14 → F' (8 + 14 * t + k) = F (8 + 14 * t + k)) : MT F' t g :=
  ⟨fun k hk => (e k (by omega)).trans (h.1 k hk), (e 3 (by decide)).trans h.2.1, (e 4 (by decide)).trans h.2.2.1, (e 5 (by decide)).trans h.2.2.2.1, fun k hk => (e (6 + k) (by omega)).trans (h.2.2.2.2 k hk)⟩
theorem MM.eq {F F' : Nat → Int32} {m : Nat} {g : Nat → Nat} (h : MM F m g) (hl : z_len g ≤ 8) (h4 : g 8 ≤ 4) (e : ∀ k, k < 18 → F' (288 + 18 * m + k) = F (288 + 18 * m + k)) : MM F' m g :=
  ⟨(e 0 (by decide)).trans h.1, fun k hk => (e (1 + k) (by omega)).trans (h.2.1 k hk), (e 9 (by decide)).trans h.2.2.1, fun i hi => ⟨(e (10 + i) (by omega)).trans (h.2.2.2 i hi).1, (e (14 + i) (by omega)).trans (h.2.2.2 i hi).2⟩⟩
theorem Vd.lt {X : Pal} (V : Vd X) {t : Nat} (h : t < X.1 0) : z_len (X.2 0 t) ≤ 8 := (z_vn (V.2.2.2.2.2.2.1 t h).1).2.1
theorem Vd.lm {X : Pal} (V : Vd X) {m : Nat} (h : m < X.1 1) : z_len (X.2 1 m) ≤ 8 := (z_vn (V.2.2.2.2.2.2.2.1 m h).1).2.1
theorem MP.eq {F F' : Nat → Int32} {X : Pal} (V : Vd X) (h : MP F X) (e : ∀ k, k < 720 → F' k = F k) : MP F' X := by
  have v1 := V.1
  have v2 := V.2.1.2
  have v3 := V.2.2.1
  obtain ⟨⟨a0, a1, a2, a3, a4, a5, a6⟩, ht, hm, hb, hp⟩ := h
  exact ⟨⟨(e 0 (by decide)).trans a0, (e 1 (by decide)).trans a1, (e 2 (by decide)).trans a2, (e 3 (by decide)).trans a3, (e 4 (by decide)).trans a4, (e 5 (by decide)).trans a5, (e 6 (by decide)).trans a6⟩, fun t h => MT.eq (ht t h) (V.lt h) fun k hk => e _ (by omega), fun m h => MM.eq (hm m h) (V.lm h) (V.m h).2.1 fun k hk => e _ (by omega), fun b h k hk => (e _ (by omega)).trans (hb b h k hk), fun g h k hk => (e _ (by omega)).trans (hp g h k hk)⟩
/-- what the model keeps -/
def Kf (b k : Nat) : Prop := b = 238 ∨ b = 240 ∨ b = 241 ∨ (b = 237 ∧ (k = 5 ∨ k = 7))
def KN (σ : aSt) (sn : Option Pal) : Prop := match sn with
  | none => a_I σ 237 7 = nI 0
  | some Y => a_I σ 237 7 = nI 1 ∧ Vd Y ∧ MP (a_I σ 240) Y
def KH (σ : aSt) (hs : List Pal) : Prop := (∀ Y, Y ∈ hs → Vd Y) ∧ hs.length ≤ 10 ∧ a_I σ 237 5 = nI hs.length ∧ ∀ j Y, hs[j]? = some Y → MP (fun k => a_I σ 241 (720 * (hs.length - 1 - j) + k)) Y
def KM (σ : aSt) (X : Pal) (hs : List Pal) (sn : Option Pal) : Prop := Sh σ ∧ MC σ 238 X ∧ Vd X ∧ KH σ hs ∧ KN σ sn
theorem KN.mo {σ σ' : aSt} {sn : Option Pal} {S : Nat → Nat → Prop} (h : KN σ sn) (m : Mo S σ σ') (h1 : ¬ S 237 7) (h2 : ∀ k, ¬ S 240 k) : KN σ' sn := by
  cases sn with
  | none => exact (m.I h1).trans h
  | some Y =>
    refine ⟨(m.I h1).trans h.1, h.2.1, ?_⟩
    rw [show a_I σ' 240 = a_I σ 240 from funext fun k => m.I (h2 k)]
    exact h.2.2
theorem KH.mo {σ σ' : aSt} {hs : List Pal} {S : Nat → Nat → Prop} (h : KH σ hs) (m : Mo S σ σ') (h1 : ¬ S 237 5) (h2 : ∀ k, ¬ S 241 k) : KH σ' hs := by
  refine ⟨h.1, h.2.1, (m.I h1).trans h.2.2.1, fun j Y hj => ?_⟩
  rw [show (fun k => a_I σ' 241 (720 * (hs.length - 1 - j) + k)) = fun k => a_I σ 241 (720 * (hs.length - 1 - j) + k) from funext fun k => m.I (h2 _)]
  exact h.2.2.2 j Y hj
theorem KM.mo {σ σ' : aSt} {X : Pal} {hs : List Pal} {sn : Option Pal} {S : Nat → Nat → Prop} (h : KM σ X hs sn) (m : Mo S σ σ') (hS : ∀ b k, S b k → ¬ Kf b k) : KM σ' X hs sn :=
  ⟨m.sh h.1, h.2.1.mo m fun k z => hS _ _ z (by unfold Kf; omega), h.2.2.1, h.2.2.2.1.mo m (fun z => hS _ _ z (by unfold Kf; omega)) (fun k z => hS _ _ z (by unfold Kf; omega)), h.2.2.2.2.mo m (fun z => hS _ _ z (by unfold Kf; omega)) (fun k z => hS _ _ z (by unfold Kf; omega))⟩
theorem KM.sm {σ σ' : aSt} {X : Pal} {hs : List Pal} {sn : Option Pal} (h : KM σ X hs sn) (m : Mo SM σ σ') : KM σ' X hs sn := h.mo m fun b k z => by unfold SM at z; unfold Kf; omega
/-- the row changed alone -/
theorem KM.upd {σ σ' : aSt} {X Y : Pal} {hs : List Pal} {sn : Option Pal} {S : Nat → Nat → Prop} (h : KM σ X hs sn) (m : Mo S σ σ') (hS : ∀ b k, S b k → b = 238 ∨ ¬ Kf b k) (C : MP (a_I σ' 238) Y) (V : Vd Y) : KM σ' Y hs sn := by
  have z0 : ∀ b k, b ≠ 238 → Kf b k → ¬ S b k := fun b k hb hk z => (hS b k z).elim (fun q => hb q) (fun q => q hk)
  exact ⟨m.sh h.1, ⟨m.rw h.2.1.1, by decide, .inl rfl, C⟩, V, h.2.2.2.1.mo m (z0 _ _ (by decide) (by unfold Kf; omega)) (fun k => z0 _ _ (by decide) (by unfold Kf; omega)), h.2.2.2.2.mo m (z0 _ _ (by decide) (by unfold Kf; omega)) (fun k => z0 _ _ (by decide) (by unfold Kf; omega))⟩
section MOH
variable {P : aCall} {d : Nat} {σ : aSt} {X : Pal} {hs : List Pal} {sn : Option Pal}
theorem y_copy (hd : 1 ≤ d) {a b i j Na Nb : Nat} (ha : a_kd σ a = 1) (la : a_ln σ a = Na) (hb : a_kd σ b = 1) (lb : a_ln σ b = Nb) (h1 : 100 ≤ b) (hi : 720 * i + 720 ≤ Na) (hj : 720 * j + 720 ≤ Nb) (hN : Na ≤ 7200) (hM : Nb ≤ 7200) (hab : a ≠ b ∨ i ≠ j) : ∃ σ', a_call a_tab P d 218 [.ref a, .int (nI i), .ref b, .int (nI j)] σ = some (.inl none, σ') ∧ Mo (fun c k => c = b ∧ 720 * j ≤ k ∧ k < 720 * j + 720) σ σ' ∧ ∀ k, k < 720 → a_I σ' b (720 * j + k) = a_I σ a (720 * i + k) := by
  obtain ⟨s1, ⟨m1, e1⟩, e⟩ := up_st0 (run := fun q τ => b_R (a_call a_tab P (d - 1)) kX8_copy [] (3, [some (.ref a), some (.int (nI i)), some (.ref b), some (.int (nI j)), some (.int (nI q))], [], τ)) (n := 720) (s := σ) (fun q τ => Mo (fun c k => c = b ∧ 720 * j ≤ k ∧ k < 720 * j + 720) σ τ ∧ ∀ k, k < q → a_I τ b (720 * j + k) = a_I σ a (720 * i + k)) ⟨Mo.rf, fun k hk => absurd hk (Nat.not_lt_zero _)⟩
    (fun q τ hq ⟨m1, e1⟩ => by
      have er : a_I τ a (720 * i + q) = a_I σ a (720 * i + q) := m1.I (by omega)
      refine ⟨a_setI τ b (720 * j + q) (a_I σ a (720 * i + q)), ⟨m1.then_set ⟨rfl, by omega, by omega⟩, fun k hk => ?_⟩, ?_⟩
      · by_cases hkq : k = q
        · subst hkq; exact a_I_at
        · rw [a_I_off (.inr (by omega))]
          exact e1 k (by omega)
      · (try dsimp only)
        rw [b_X8_copy_3 ((m1.ln a).trans la) (by omega) ((m1.kd a).trans ha) ((m1.ln b).trans lb) (by omega) ((m1.kd b).trans hb) h1, if_pos (nIl hq (by decide)), pk_mul, pk_mul, nI_add, nI_add, b_gd_t (nIi (by omega) (by omega)), b_gd_t (nIi (by omega) (by omega)), nIc (by omega), nIc (by omega), er, nI_add])
  refine ⟨s1, ?_, m1, e1⟩
  rw [n_X8_copy (by omega), b_X8_copy_0]
  refine e.trans ?_
  (try dsimp only)
  rw [b_X8_copy_3 ((m1.ln a).trans la) (by omega) ((m1.kd a).trans ha) ((m1.ln b).trans lb) (by omega) ((m1.kd b).trans hb) h1, if_neg (nIn (Nat.le_refl _) (by decide))]
def Yr (b k : Nat) : Prop := b = 241 ∨ (b = 237 ∧ k = 5)
theorem y_rec2 (hd : 2 ≤ d) (h : Sh σ) {m : Nat} (hm : m ≤ 9) (e5 : a_I σ 237 5 = nI m) {o : Option Value} : ∃ σ', b_R (a_call a_tab P (d - 1)) kX8_record [] (48, [some (.ref 237), o], [], σ) = some (.inl none, σ') ∧ Mo Yr σ σ' ∧ a_I σ' 237 5 = nI (m + 1) ∧ (∀ k, k < 720 → a_I σ' 241 (720 * m + k) = a_I σ 238 k) ∧ ∀ r k, r < m → k < 720 → a_I σ' 241 (720 * r + k) = a_I σ 241 (720 * r + k) := by
  obtain ⟨s1, e1, m1, c1⟩ := y_copy (P := P) (d := d - 1) (i := 0) (j := m) (by omega) (sk_238 h) (sl_238 h) (sk_241 h) (sl_241 h) (by decide) (by decide) (by omega) (by decide) (by decide) (.inl (by decide))
  have f5 : a_I s1 237 5 = nI m := by rw [m1.I (by omega)]; exact e5
  refine ⟨a_setI s1 237 5 (nI (m + 1)), ?_, (m1.mono fun b k z => .inl z.1).then_set (.inr ⟨rfl, rfl⟩), a_I_at, fun k hk => ?_, fun r k hr hk => ?_⟩
  · rw [b_X8_record_48 h, e5, e1, g_n, b_X8_record_64 (m1.sh h), f5, nI_add]
  · rw [a_I_off (.inl (by decide)), c1 k hk]
    exact congrArg (a_I σ 238) (by omega)
  · rw [a_I_off (.inl (by decide)), m1.I (by omega)]
theorem y_record (hd : 3 ≤ d) (K : KM σ X hs sn) : ∃ σ', a_call a_tab P d 219 [.ref 237] σ = some (.inl none, σ') ∧ Mo Yr σ σ' ∧ KM σ' X (z_push X hs) sn := by
  obtain ⟨h, M, V, ⟨hV, hl, e5, hh⟩, hn⟩ := K
  have key : ∃ σ' sh, a_call a_tab P d 219 [.ref 237] σ = some (.inl none, σ') ∧ Mo Yr σ σ' ∧ sh = hs.length - min 9 hs.length ∧ a_I σ' 237 5 = nI (min 9 hs.length + 1) ∧ (∀ k, k < 720 → a_I σ' 241 (720 * min 9 hs.length + k) = a_I σ 238 k) ∧ ∀ r k, r < min 9 hs.length → k < 720 → a_I σ' 241 (720 * r + k) = a_I σ 241 (720 * (r + sh) + k) := by
    by_cases h10 : hs.length = 10
    · obtain ⟨s1, ⟨-, m1, c1, -⟩, e⟩ := up_st (run := fun q τ => b_R (a_call a_tab P (d - 1)) kX8_record [] (11, [some (.ref 237), some (.int (nI q))], [], τ)) (n := 10) (I := fun i τ => 1 ≤ i ∧ Mo (fun b _ => b = 241) σ τ ∧ (∀ r k, r + 1 < i → k < 720 → a_I τ 241 (720 * r + k) = a_I σ 241 (720 * (r + 1) + k)) ∧ ∀ r k, i ≤ r + 1 → k < 720 → a_I τ 241 (720 * r + k) = a_I σ 241 (720 * r + k))
        (fun i τ hi ⟨i1, m1, c1, c2⟩ => by
          have ht := m1.sh h
          obtain ⟨s2, e2, m2, c3⟩ := y_copy (P := P) (d := d - 1) (i := i) (j := i - 1) (by omega) (sk_241 ht) (sl_241 ht) (sk_241 ht) (sl_241 ht) (by decide) (by omega) (by omega) (by decide) (by decide) (.inr (by omega))
          refine ⟨s2, ⟨by omega, m1.tr (m2.mono fun b k z => z.1), fun r k hr hk => ?_, fun r k hr hk => ?_⟩, ?_⟩
          · by_cases hri : r + 1 = i
            · have : r = i - 1 := by omega
              subst this
              rw [c3 k hk, c2 i k (by omega) hk]
              exact congrArg (a_I σ 241) (by omega)
            · rw [m2.I (by omega)]
              exact c1 r k (by omega) hk
          · rw [m2.I (by omega)]
            exact c2 r k (by omega) hk
          · (try dsimp only)
            rw [b_X8_record_11 ht, if_pos (nIl hi (by decide)), pk_sub (by omega), e2, g_n, b_X8_record_32, nI_add]) 9 1 σ (by decide) ⟨Nat.le_refl _, Mo.rf, fun r k hr hk => by omega, fun r k _ _ => rfl⟩
      have h1 := m1.sh h
      have m2 : Mo Yr s1 (a_setI s1 237 5 (nI 9)) := Mo.set (.inr ⟨rfl, rfl⟩)
      have f5 : a_I s1 237 5 = nI 10 := by rw [m1.I (by decide), e5, h10]
      obtain ⟨s2, e2, m3, g5, c3, c4⟩ := y_rec2 (P := P) (d := d) (σ := a_setI s1 237 5 (nI 9)) (o := some (.int (nI 10))) (by omega) (m2.sh h1) (m := 9) (Nat.le_refl _) a_I_at
      refine ⟨s2, 1, ?_, ((m1.mono fun b k z => .inl z).tr m2).tr m3, by rw [h10]; rfl, by rw [h10]; exact g5, fun k hk => ?_, fun r k hr hk => ?_⟩
      · have e : b_R (a_call a_tab P (d - 1)) kX8_record [] (11, [some (.ref 237), some (.int (nI 1))], [], σ) = _ := e
        rw [n_X8_record (by omega), b_X8_record_0 h, e5, h10, if_pos rfl, e]
        (try dsimp only)
        rw [b_X8_record_11 h1, if_neg (nIn (Nat.le_refl _) (by decide)), f5, show nI 10 - nI 1 = nI 9 from nI_s1 9]
        exact e2
      · rw [h10, show min 9 10 = 9 from rfl, c3 k hk, a_I_off (.inl (by decide)), m1.I (by decide)]
      · rw [h10] at hr
        have hr : r < 9 := hr
        rw [c4 r k hr hk, a_I_off (.inl (by decide)), c1 r k (by omega) hk]
    · obtain ⟨s2, e2, m3, g5, c3, c4⟩ := y_rec2 (P := P) (d := d) (σ := σ) (o := none) (by omega) h (m := hs.length) (by omega) e5
      refine ⟨s2, 0, ?_, m3, by omega, by rw [show min 9 hs.length = hs.length by omega]; exact g5, fun k hk => by rw [show min 9 hs.length = hs.length by omega]; exact c3 k hk, fun r k hr hk => by rw [show min 9 hs.length = hs.length by omega] at hr; exact c4 r k hr hk⟩
      rw [n_X8_record (by omega), b_X8_record_0 h, e5, if_neg (fun z => h10 ((o_eq (by omega) (by decide)).mp z))]
      exact e2
  obtain ⟨σ', sh, e, m, hsh, g5, c3, c4⟩ := key
  have hlen : (z_push X hs).length = min 9 hs.length + 1 := by
    unfold z_push
    rw [List.length_take, List.length_cons]
    omega
  have hmem : ∀ j Y, (z_push X hs)[j]? = some Y → j < 10 ∧ (X :: hs)[j]? = some Y := fun j Y hj => by
    unfold z_push at hj
    rw [List.getElem?_take] at hj
    split at hj
    · exact ⟨by assumption, hj⟩
    · cases hj
  refine ⟨σ', e, m, m.sh h, M.mo m fun k z => by unfold Yr at z; omega, V, ⟨fun Y hY => ?_, by omega, by rw [hlen]; exact g5, fun j Y hj => ?_⟩, hn.mo m (by unfold Yr; omega) (fun k => by unfold Yr; omega)⟩
  · obtain rfl | hY := List.mem_cons.mp (List.mem_of_mem_take hY)
    · exact V
    · exact hV Y hY
  · obtain ⟨j10, hj⟩ := hmem j Y hj
    rw [hlen]
    cases j with
    | zero =>
      have : X = Y := Option.some.inj hj
      subst this
      refine MP.eq V M.2.2.2 fun k hk => ?_
      show a_I σ' 241 (720 * (min 9 hs.length + 1 - 1 - 0) + k) = _
      rw [show min 9 hs.length + 1 - 1 - 0 = min 9 hs.length by omega]
      exact c3 k hk
    | succ j =>
      have hj : hs[j]? = some Y := hj
      have hjl : j < hs.length := (List.getElem?_eq_some_iff.mp hj).1
      refine MP.eq (hV Y (List.mem_of_getElem? hj)) (hh j Y hj) fun k hk => ?_
      show a_I σ' 241 (720 * (min 9 hs.length + 1 - 1 - (j + 1)) + k) = a_I σ 241 (720 * (hs.length - 1 - j) + k)
      rw [c4 _ k (by omega) hk, show min 9 hs.length + 1 - 1 - (j + 1) + sh = hs.length - 1 - j by omega]
end MOH
