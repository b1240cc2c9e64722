/-! the model: retire, refill, clean, forget, heal -/
theorem z_len_congr {g g' : Nat → Nat} (h : ∀ k, k < 8 → g' k = g k) : z_len g' = z_len g := q_s_congr fun k hk => by rw [h k hk]
theorem MT.chg {F F' : Nat → Int32} {t : Nat} {g g' : Nat → Nat} (h : MT F t g) (hl : z_len g ≤ 8) (hg : ∀ k, k < 11 → g' k = g k) (e : ∀ k, k < 14 → k ≠ 3 → k ≠ 4 → F' (8 + 14 * t + k) = F (8 + 14 * t + k)) (e3 : F' (8 + 14 * t + 3) = nI (g' 11)) (e4 : F' (8 + 14 * t + 4) = nI (z_1 (g' 12 == 0))) : MT F' t g' := by
  have hz : z_len g' = z_len g := z_len_congr fun k hk => hg k (by omega)
  refine ⟨fun k hk => ?_, e3, e4, ?_, fun k hk => ?_⟩
  · rw [e k (by omega) (by omega) (by omega), hg _ (by omega)]; exact h.1 k hk
  · rw [e 5 (by decide) (by decide) (by decide), hz]; exact h.2.2.2.1
  · rw [hz] at hk
    rw [e (6 + k) (by omega) (by omega) (by omega), hg _ (by omega)]; exact h.2.2.2.2 k hk
theorem MM.eq2 {F F' : Nat → Int32} {m m' : Nat} {g : Nat → Nat} (h : MM F m g) (hl : z_len g ≤ 8) (h4 : g 8 ≤ 4) (e : ∀ k, k < 18 → F' (288 + 18 * m' + k) = F (288 + 18 * m + k)) : MM F' m' g :=
  ⟨(e 0 (by decide)).trans h.1, fun k hk => (e (1 + k) (by omega)).trans (h.2.1 k hk), (e 9 (by decide)).trans h.2.2.1, fun i hi => ⟨(e (10 + i) (by omega)).trans (h.2.2.2 i hi).1, (e (14 + i) (by omega)).trans (h.2.2.2 i hi).2⟩⟩
section MPU
variable {F F' : Nat → Int32} {X : Pal} {f : Nat → Nat → Nat} {n : Nat}
theorem MP.up0 (V : Vd X) (h : MP F X) (hF : ∀ k, (k < 8 ∨ 288 ≤ k) → F' k = F k) (hc : ∀ t, t < X.1 0 → MT F' t (f t)) : MP F' (z_cnt (z_up X 0 f) 0 (X.1 0)) := by
  obtain ⟨⟨a0, a1, a2, a3, a4, a5, a6⟩, ht, hm, hb, hp⟩ := h
  exact ⟨⟨(hF 0 (by decide)).trans a0, (hF 1 (by decide)).trans a1, (hF 2 (by decide)).trans a2, (hF 3 (by decide)).trans a3, (hF 4 (by decide)).trans a4, (hF 5 (by decide)).trans a5, (hF 6 (by decide)).trans a6⟩, hc, fun m (h : m < X.1 1) => MM.eq (hm m h) (V.lm h) (V.m h).2.1 fun k hk => hF _ (by omega), fun b h k hk => (hF _ (by omega)).trans (hb b h k hk), fun g h k hk => (hF _ (by omega)).trans (hp g h k hk)⟩
theorem MP.up1 (V : Vd X) (h : MP F X) (hF : ∀ k, (k < 288 ∨ 648 ≤ k) → k ≠ 1 → F' k = F k) (h1 : F' 1 = nI n) (hc : ∀ m, m < n → MM F' m (f m)) : MP F' (z_cnt (z_up X 1 f) 1 n) := by
  have v1 := V.1
  obtain ⟨⟨a0, a1, a2, a3, a4, a5, a6⟩, ht, hm, hb, hp⟩ := h
  exact ⟨⟨(hF 0 (by decide) (by decide)).trans a0, h1, (hF 2 (by decide) (by decide)).trans a2, (hF 3 (by decide) (by decide)).trans a3, (hF 4 (by decide) (by decide)).trans a4, (hF 5 (by decide) (by decide)).trans a5, (hF 6 (by decide) (by decide)).trans a6⟩, fun t (h : t < X.1 0) => MT.eq (ht t h) (V.lt h) fun k hk => hF _ (by omega) (by omega), hc, fun b h k hk => (hF _ (by omega) (by omega)).trans (hb b h k hk), fun g h k hk => (hF _ (by omega) (by omega)).trans (hp g h k hk)⟩
theorem MP.up2 (V : Vd X) (h : MP F X) (hF : ∀ k, (k < 648 ∨ 672 ≤ k) → k ≠ 5 → F' k = F k) (h5 : F' 5 = nI n) (hc : ∀ b, b < X.1 2 → ∀ k, k < 4 → F' (648 + 4 * b + k) = nI (f b k)) : MP F' (z_cnt (z_up X 2 f) 6 n) := by
  have v1 := V.1
  obtain ⟨⟨a0, a1, a2, a3, a4, a5, a6⟩, ht, hm, hb, hp⟩ := h
  exact ⟨⟨(hF 0 (by decide) (by decide)).trans a0, (hF 1 (by decide) (by decide)).trans a1, (hF 2 (by decide) (by decide)).trans a2, (hF 3 (by decide) (by decide)).trans a3, (hF 4 (by decide) (by decide)).trans a4, h5, (hF 6 (by decide) (by decide)).trans a6⟩, fun t (h : t < X.1 0) => MT.eq (ht t h) (V.lt h) fun k hk => hF _ (by omega) (by omega), fun m (h : m < X.1 1) => MM.eq (hm m h) (V.lm h) (V.m h).2.1 fun k hk => hF _ (by omega) (by omega), hc, fun g h k hk => (hF _ (by omega) (by omega)).trans (hp g h k hk)⟩
end MPU
section MOJ
variable {P : aCall} {d : Nat} {σ : aSt} {X : Pal} {hs : List Pal} {sn : Option Pal} {x y z : Int32}
def S238 (b _k : Nat) : Prop := b = 238
theorem S238.m (b k : Nat) (h : S238 b k) : Sm b k := by unfold S238 at h; unfold Sm; omega
theorem S238.n6 {σ σ' : aSt} (m : Mo S238 σ σ') : a_I σ' 237 6 = a_I σ 237 6 := m.I (by unfold S238; omega)
theorem y_retire {b : Bool} (hd : 5 ≤ d) (K : KM σ X hs sn) : OR (a_call a_tab P d 204 [.ref 237, .int x, .int (b_n b)] σ) σ X hs sn (o_retire X hs x b) := by
  have h20 := K.2.2.1.1
  obtain ⟨t, rfl, ht⟩ := o_ex x
  unfold o_retire
  rw [ht, n_X8_retire (by omega), b_X8_retire_0 K.1, y_isTube (by omega) K.1 K.2.1 K.2.2.1, g_v, b_X8_retire_6 K.1, ht]
  by_cases c1 : t < X.1 0
  · have K0 := K.s6 (v := nI 0)
    obtain ⟨s1, e1, m1, K1⟩ := y_record (P := P) (d := d - 1) (by omega) K0
    have m2 : Mo S238 s1 (a_setI s1 238 (8 + 14 * t + 4) (nI (z_1 (!b)))) := Mo.set rfl
    have K2 : KM (a_setI s1 238 (8 + 14 * t + 4) (nI (z_1 (!b)))) (z_ret X t b) (z_push X hs) sn := by
      refine K1.upd m2 (fun b k z => .inl z) (K1.2.1.2.2.2.up0 K.2.2.1 (fun k hk => a_I_off (.inr (by omega))) fun r hr => ?_) (z_ret_vd K.2.2.1)
      have hM : MT (a_I s1 238) r (X.2 0 r) := K1.2.1.2.2.2.2.1 r hr
      by_cases hrt : r = t
      · subst hrt
        refine hM.chg (K.2.2.1.lt hr) (fun k hk => if_neg (by omega)) (fun k hk h3 h4 => a_I_off (.inr (by omega))) ?_ ?_
        · rw [a_I_off (.inr (by omega))]
          exact hM.2.1.trans (congrArg nI (if_neg (by omega)).symm)
        · rw [a_I_at]
          show _ = nI (z_1 ((if r = r ∧ 12 = 12 then z_1 b else X.2 0 r 12) == 0))
          rw [if_pos ⟨rfl, rfl⟩]
          cases b <;> rfl
      · rw [show (fun k => if r = t ∧ k = 12 then z_1 b else X.2 0 r k) = X.2 0 r from funext fun k => if_neg fun z => hrt z.1]
        exact hM.eq (K.2.2.1.lt hr) fun k hk => a_I_off (.inr (by omega))
    rw [if_pos c1, decide_eq_true c1, show b_n true = nI 1 from rfl, y_lacksT (by omega) K.1, g_v, b_X8_retire_9 K0.1, if_pos (show nI 0 = 0 from rfl), e1, g_n, b_X8_retire_18, b_X8_retire_30 K1.1, b_X8_retire_30 K1.1]
    have e9 : (if b_n b = 0 then b_G (a_call a_tab P (d - 1)) kX8_retire [] 30 33 [some (.ref 237), some (.int (nI t)), some (.int (b_n b))] [] (a_call a_tab P (d - 1) 154 [.ref 237, .int (nI t), .int (nI 4), .int (nI 1)] s1) else b_G (a_call a_tab P (d - 1)) kX8_retire [] 30 33 [some (.ref 237), some (.int (nI t)), some (.int (b_n b))] [] (a_call a_tab P (d - 1) 154 [.ref 237, .int (nI t), .int (nI 4), .int (nI 0)] s1)) = b_G (a_call a_tab P (d - 1)) kX8_retire [] 30 33 [some (.ref 237), some (.int (nI t)), some (.int (b_n b))] [] (a_call a_tab P (d - 1) 154 [.ref 237, .int (nI t), .int (nI 4), .int (nI (z_1 (!b)))] s1) := by
      cases b with
      | true => rw [if_neg (show ¬ b_n true = 0 by decide)]; rfl
      | false => rw [if_pos (show b_n false = 0 by decide)]; rfl
    rw [e9, y_layTube (by omega) K1.1 K1.2.1.1 (by omega) (by decide), g_n, b_X8_retire_33 K2.1, y_broken (by omega) K2.1 K2.2.1 K2.2.2.1, g_v, b_X8_retire_37]
    exact ⟨_, rfl, (Mo.m6.tr (m1.mono Yr.m)).tr (m2.mono S238.m), K2, by rw [S238.n6 m2, Yr.n6 m1]; exact a_I_at⟩
  · rw [if_neg c1, decide_eq_false c1, show b_n false = nI 0 from rfl, y_lacksF (by omega) K.1, g_v, b_X8_retire_9 K.s6.1, if_neg (show ¬ nI 1 = 0 by decide)]
    exact ⟨_, rfl, Mo.m6, K.s6, a_I_at⟩
theorem y_refill (hd : 5 ≤ d) (K : KM σ X hs sn) : OR (a_call a_tab P d 211 [.ref 237, .int x, .int y] σ) σ X hs sn (o_refill X hs x y) := by
  have h20 := K.2.2.1.1
  obtain ⟨t, rfl, ht⟩ := o_ex x
  obtain ⟨n, rfl, hn⟩ := o_ex y
  have th : ∀ v, ¬ nI v = 0 → b_R (a_call a_tab P (d - 1)) kX8_refill [] (29, [some (.ref 237), some (.int (nI t)), some (.int (nI n)), none], [.int (nI v), .ref 237], σ) = some (.inl (some (.int (nI 0))), a_setI σ 237 6 (nI v)) := fun v hv => by
    rw [b_X8_refill_29 K.1, a_I_at, if_neg hv]
  unfold o_refill
  rw [ht, hn, n_X8_refill (by omega), b_X8_refill_0 K.1, y_isTube (by omega) K.1 K.2.1 K.2.2.1, g_v, b_X8_refill_6, ht]
  by_cases c1 : t < X.1 0
  · rw [if_pos c1, decide_eq_true c1, if_neg (show ¬ b_n true = 0 by decide), y_inR (by omega) (by decide) (by decide), g_v, b_X8_refill_21, hn]
    by_cases c2 : 1 ≤ n ∧ n ≤ 999
    · have K0 := K.s6 (v := nI 0)
      have f3 := (K0.2.1.2.2.2.2.1 t c1).2.1
      have h9 := (K.2.2.1.t c1).2.1
      rw [if_pos c2, decide_eq_true c2, if_neg (show ¬ b_n true = 0 by decide), b_X8_refill_29 K.1, a_I_at, if_pos (show nI 0 = 0 from rfl), y_ofTube (by omega) K0.1 K0.2.1.1 (by omega) (by decide), g_v, f3, b_X8_refill_47 K0.1, nI_add]
      (try dsimp only)
      by_cases c3 : 9999 < X.2 0 t 11 + n
      · rw [if_pos c3, if_pos (nIl c3 (by omega))]
        exact ⟨_, rfl, Mo.m6, K0, a_I_at⟩
      · obtain ⟨s1, e1, m1, K1⟩ := y_record (P := P) (d := d - 1) (by omega) K0
        have m2 : Mo S238 s1 (a_setI s1 238 (8 + 14 * t + 3) (nI (X.2 0 t 11 + n))) := Mo.set rfl
        have K2 : KM (a_setI s1 238 (8 + 14 * t + 3) (nI (X.2 0 t 11 + n))) (z_fil X t (X.2 0 t 11 + n)) (z_push X hs) sn := by
          refine K1.upd m2 (fun b k z => .inl z) (K1.2.1.2.2.2.up0 K.2.2.1 (fun k hk => a_I_off (.inr (by omega))) fun r hr => ?_) (z_fil_vd K.2.2.1 (by omega))
          have hM : MT (a_I s1 238) r (X.2 0 r) := K1.2.1.2.2.2.2.1 r hr
          by_cases hrt : r = t
          · subst hrt
            refine hM.chg (K.2.2.1.lt hr) (fun k hk => if_neg (by omega)) (fun k hk h3 h4 => a_I_off (.inr (by omega))) ?_ ?_
            · rw [a_I_at]
              exact congrArg nI (if_pos ⟨rfl, rfl⟩).symm
            · rw [a_I_off (.inr (by omega)), if_neg (by omega)]
              exact hM.2.2.1
          · rw [show (fun k => if r = t ∧ k = 11 then X.2 0 t 11 + n else X.2 0 r k) = X.2 0 r from funext fun k => if_neg fun z => hrt z.1]
            exact hM.eq (K.2.2.1.lt hr) fun k hk => a_I_off (.inr (by omega))
        rw [if_neg c3, if_neg (nIn (by omega) (by omega)), e1, g_n, b_X8_refill_64 K1.1, y_layTube (by omega) K1.1 K1.2.1.1 (by omega) (by decide), g_n, b_X8_refill_71]
        exact ⟨_, rfl, (Mo.m6.tr (m1.mono Yr.m)).tr (m2.mono S238.m), K2, by rw [S238.n6 m2, Yr.n6 m1]; exact a_I_at⟩
    · rw [if_neg c2, decide_eq_false c2, if_pos (show b_n false = 0 by decide), th 2 (by decide)]
      exact ⟨_, rfl, Mo.m6, K.s6, a_I_at⟩
  · rw [if_neg c1, decide_eq_false c1, if_pos (show b_n false = 0 by decide), th 1 (by decide)]
    exact ⟨_, rfl, Mo.m6, K.s6, a_I_at⟩
theorem y_clean (H : Pm P) (hd : 5 ≤ d) (K : KM σ X hs sn) : OR (a_call a_tab P d 208 [.ref 237, .int x] σ) σ X hs sn (o_clean X hs x) := by
  have h6 := K.2.2.1.2.1.2
  have h9 := K.2.2.1.2.2.2.2.2.1
  obtain ⟨t, rfl, ht⟩ := o_ex x
  unfold o_clean
  rw [ht, n_X8_clean (by omega), b_X8_clean_0 K.1, y_isBrush (by omega) K.1 K.2.1 K.2.2.1, g_v, b_X8_clean_6 K.1, ht]
  by_cases c1 : t < X.1 2
  · have K0 := K.s6 (v := nI 0)
    have h3 := (K.2.2.1.b c1).2
    obtain ⟨s1, e1, m1, K1⟩ := y_record (P := P) (d := d - 1) (by omega) K0
    have f3 := K1.2.1.2.2.2.2.2.2.1 t c1 3 (by decide)
    have fw : a_I s1 238 5 = nI (X.1 6) := K1.2.1.2.2.2.1.2.2.2.2.2.1
    rw [if_pos c1, decide_eq_true c1, show b_n true = nI 1 from rfl, y_lacksT (by omega) K.1, g_v, b_X8_clean_9 K0.1, if_pos (show nI 0 = 0 from rfl), e1, g_n, b_X8_clean_18 K1.1, y_ofBrush (by omega) K1.1 K1.2.1.1 (by omega) (by decide), g_v, f3, b_X8_clean_24 K1.1 K1.2.1.1, b_gd_t (nIi (by decide) (by decide)), nIc (by decide), fw, s_minN H (by decide) (by omega), g_v]
    have m2 : Mo S238 s1 (a_setI s1 238 (648 + 4 * t + 3) (nI (if X.1 6 < 5 then 0 else min 1 (X.2 2 t 3)))) := Mo.set rfl
    have h2 := m2.sh K1.1
    have r2 : Rw (a_setI s1 238 (648 + 4 * t + 3) (nI (if X.1 6 < 5 then 0 else min 1 (X.2 2 t 3)))) 238 := m2.rw K1.2.1.1
    have e9 : (if nI (X.1 6) < nI 5 then b_R (a_call a_tab P (d - 1)) kX8_clean [] (47, [some (.ref 237), some (.int (nI t)), some (.int (nI (X.2 2 t 3)))], [.int (nI 0), .int (nI 3), .int (nI t), .ref 237], s1) else b_R (a_call a_tab P (d - 1)) kX8_clean [] (47, [some (.ref 237), some (.int (nI t)), some (.int (nI (X.2 2 t 3)))], [.int (nI (min 1 (X.2 2 t 3))), .int (nI 3), .int (nI t), .ref 237], s1)) = b_R (a_call a_tab P (d - 1)) kX8_clean [] (47, [some (.ref 237), some (.int (nI t)), some (.int (nI (X.2 2 t 3)))], [.int (nI (if X.1 6 < 5 then 0 else min 1 (X.2 2 t 3))), .int (nI 3), .int (nI t), .ref 237], s1) := by
      by_cases h : X.1 6 < 5
      · rw [if_pos h, if_pos (nIl h (by decide))]
      · rw [if_neg h, if_neg (nIn (by omega) (by omega))]
    have fw2 : a_I (a_setI s1 238 (648 + 4 * t + 3) (nI (if X.1 6 < 5 then 0 else min 1 (X.2 2 t 3)))) 238 5 = nI (X.1 6) := by rw [a_I_off (.inr (by omega))]; exact fw
    have m3 := m2.then_set (σ' := _) (a := 238) (k := 5) (v := nI (min 9 (X.1 6 + X.2 2 t 3))) rfl
    rw [e9, b_X8_clean_47 K1.1, y_layBrush (by omega) K1.1 K1.2.1.1 (by omega) (by decide), g_n, b_X8_clean_50 h2 r2, b_gd_t (nIi (by decide) (by decide)), nIc (by decide), fw2, nI_add, s_minN H (by decide) (by omega), g_v, b_X8_clean_68 h2 r2, b_gd_t (nIi (by decide) (by decide)), b_gd_t (nIi (by decide) (by decide)), nIc (by decide), a_I_at]
    refine ⟨_, rfl, (Mo.m6.tr (m1.mono Yr.m)).tr (m3.mono S238.m), K1.upd m3 (fun b k z => .inl z) (K1.2.1.2.2.2.up2 K.2.2.1 (fun k hk hk5 => ?_) a_I_at fun b hb k hk => ?_) (z_clean_vd K.2.2.1), by rw [S238.n6 m3, Yr.n6 m1]; exact a_I_at⟩
    · rw [a_I_off (.inr hk5), a_I_off (.inr (by omega))]
    · rw [a_I_off (.inr (by omega))]
      by_cases hbk : b = t ∧ k = 3
      · obtain ⟨rfl, rfl⟩ := hbk
        rw [a_I_at]
        exact congrArg nI (if_pos ⟨rfl, rfl⟩).symm
      · rw [a_I_off (.inr (by omega)), show (if b = t ∧ k = 3 then (if X.1 6 < 5 then 0 else min 1 (X.2 2 t 3)) else X.2 2 b k) = X.2 2 b k from if_neg hbk]
        exact K1.2.1.2.2.2.2.2.2.1 b hb k hk
  · rw [if_neg c1, decide_eq_false c1, show b_n false = nI 0 from rfl, y_lacksF (by omega) K.1, g_v, b_X8_clean_9 K.s6.1, if_neg (show ¬ nI 1 = 0 by decide)]
    exact ⟨_, rfl, Mo.m6, K.s6, a_I_at⟩
end MOJ
