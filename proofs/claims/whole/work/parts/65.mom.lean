/-! the model: format, feed -/
theorem q_fold_add {S : Type} (f : Nat → S → S) : ∀ (a b i : Nat) (s : S), q_fold f (a + b) i s = q_fold f b (i + a) (q_fold f a i s)
  | 0, b, i, s => by rw [Nat.zero_add]; rfl
  | a + 1, b, i, s => by
    rw [show a + 1 + b = (a + b) + 1 by omega]
    show q_fold f (a + b) (i + 1) (f i s) = q_fold f b (i + (a + 1)) (q_fold f a (i + 1) (f i s))
    rw [q_fold_add f a b (i + 1), show i + 1 + a = i + (a + 1) by omega]
theorem q_fold_congr {S : Type} {f g : Nat → S → S} : ∀ (k i : Nat) (s : S), (∀ j s, i ≤ j → j < i + k → f j s = g j s) → q_fold f k i s = q_fold g k i s
  | 0, _, _, _ => rfl
  | k + 1, i, s, h => by
    show q_fold f k (i + 1) (f i s) = q_fold g k (i + 1) (g i s)
    rw [h i s (Nat.le_refl _) (by omega), q_fold_congr k (i + 1) _ fun j s h1 h2 => h j s (by omega) (by omega)]
/-- the letters of a name, one behind the other -/
def z_lts (g : Nat → Nat) (l : Nat) (s : Nat × (Nat → Nat)) : Nat × (Nat → Nat) := q_fold (fun i s => z_ap1 s (g i)) l 0 s
theorem z_apn_lts {g : Nat → Nat} (h : Vn g) (s : Nat × (Nat → Nat)) : z_apn g s = z_lts g (z_len g) s := by
  obtain ⟨a1, a2, a3, a4⟩ := z_vn h
  unfold z_apn z_lts
  obtain ⟨r, hr⟩ : ∃ r, 8 = z_len g + r := ⟨8 - z_len g, by omega⟩
  rw [hr, q_fold_add, q_fold_congr (f := z_apl g) (g := fun i s => z_ap1 s (g i)) (z_len g) 0 s fun j t h1 h2 => by
    unfold z_apl
    rw [if_neg (by have := a3 j (by omega); omega)]]
  rw [q_fold_congr (f := z_apl g) (g := fun _ s => s) r _ _ fun j t h1 h2 => by
    unfold z_apl
    rw [if_pos (a4 j (by omega) (by omega))]]
  exact q_fold_id (fun _ => rfl) _ _
theorem z_lts_1 (g : Nat → Nat) (s : Nat × (Nat → Nat)) : ∀ l, (z_lts g l s).1 = s.1 + l
  | 0 => rfl
  | l + 1 => by
    unfold z_lts
    rw [q_fold_succ]
    show (q_fold (fun i s => z_ap1 s (g i)) l 0 s).1 + 1 = _
    have := z_lts_1 g s l
    unfold z_lts at this
    omega
/-- what the model has written -/
def Fm (σ : aSt) (S : Nat × (Nat → Nat)) : Prop := a_I σ 237 18 = nI S.1 ∧ S.1 ≤ 80 ∧ ∀ j, j < S.1 → a_I σ 246 j = nI (S.2 j)
def Sf (b k : Nat) : Prop := b = 246 ∨ (b = 237 ∧ k = 18)
def Sgf (b k : Nat) : Prop := Sm b k ∨ Sf b k
theorem Sf.n6 {σ σ' : aSt} (m : Mo Sf σ σ') : a_I σ' 237 6 = a_I σ 237 6 := m.I (by unfold Sf; omega)
theorem Fm.mo {S : Nat → Nat → Prop} {σ σ' : aSt} {T : Nat × (Nat → Nat)} (h : Fm σ T) (m : Mo S σ σ') (hS : ∀ b k, S b k → ¬ Sf b k) : Fm σ' T := ⟨(m.I fun z => hS _ _ z (by unfold Sf; omega)).trans h.1, h.2.1, fun j hj => (m.I fun z => hS _ _ z (by unfold Sf; omega)).trans (h.2.2 j hj)⟩
theorem KM.sf {σ σ' : aSt} {X : Pal} {hs : List Pal} {sn : Option Pal} (h : KM σ X hs sn) (m : Mo Sf σ σ') : KM σ' X hs sn := h.mo m fun b k z => by unfold Sf at z; unfold Kf; omega
section MOM
variable {P : aCall} {d : Nat} {σ : aSt} {X : Pal} {hs : List Pal} {sn : Option Pal} {x y z : Int32}
theorem y_write (hd : 1 ≤ d) (h : Sh σ) {S : Nat × (Nat → Nat)} (B : Fm σ S) (h80 : S.1 < 80) {c : Nat} : ∃ σ', a_call a_tab P d 214 [.ref 237, .int (nI c)] σ = some (.inl none, σ') ∧ Mo Sf σ σ' ∧ Fm σ' (z_ap1 S c) := by
  obtain ⟨b1, b2, b3⟩ := B
  refine ⟨a_setI (a_setI σ 246 S.1 (nI c)) 237 18 (nI (S.1 + 1)), ?_, (Mo.set (.inl rfl)).then_set (.inr ⟨rfl, rfl⟩), a_I_at, by show S.1 + 1 ≤ 80; omega, fun j hj => ?_⟩
  · rw [n_X8_write (by omega), b_X8_write_0 h, b1, b_gd_t (nIi h80 (by decide)), nIc (by omega), a_I_off (.inl (by decide)), b1, nI_add]
  · have hj : j < S.1 + 1 := hj
    rw [a_I_off (.inl (by decide))]
    show _ = nI (if j = S.1 then c else S.2 j)
    by_cases hjs : j = S.1
    · subst hjs; rw [if_pos rfl, a_I_at]
    · rw [if_neg hjs, a_I_off (.inr hjs)]; exact b3 j (by omega)
theorem y_writeName (hd : 2 ≤ d) (h : Sh σ) (hw : Rw σ 238) {S : Nat × (Nat → Nat)} (B : Fm σ S) {g : Nat → Nat} (hg : Vn g) (h72 : S.1 ≤ 72) {p : Nat} (hp : p + 9 ≤ 720) (e0 : a_I σ 238 p = nI (z_len g)) (e1 : ∀ k, k < z_len g → a_I σ 238 (p + 1 + k) = nI (g k)) : ∃ σ', a_call a_tab P d 215 [.ref 237, .int (nI p)] σ = some (.inl none, σ') ∧ Mo Sf σ σ' ∧ Fm σ' (z_apn g S) ∧ (z_apn g S).1 ≤ S.1 + 8 := by
  obtain ⟨-, l8, l3, -⟩ := z_vn hg
  obtain ⟨s1, ⟨m1, B1⟩, e⟩ := up_st0 (run := fun i τ => b_R (a_call a_tab P (d - 1)) kX8_writeName [] (2, [some (.ref 237), some (.int (nI p)), some (.int (nI i))], [], τ)) (n := z_len g) (s := σ) (fun i τ => Mo Sf σ τ ∧ Fm τ (z_lts g i S)) ⟨Mo.rf, B⟩
    (fun i τ hi ⟨m1, B1⟩ => by
      have hh := m1.sh h
      obtain ⟨s2, e2, m2, B2⟩ := y_write (P := P) (d := d - 1) (by omega) hh B1 (by rw [z_lts_1]; omega) (c := g i)
      refine ⟨s2, ⟨m1.tr m2, ?_⟩, ?_⟩
      · unfold z_lts at *
        rw [q_fold_succ, Nat.zero_add]
        exact B2
      · (try dsimp only)
        rw [b_X8_writeName_2 hh (m1.rw hw), b_gd_t (nIi (by omega) (by decide)), nIc (by omega), show a_I τ 238 p = nI (z_len g) from (m1.I (by unfold Sf; omega)).trans e0, if_pos (nIl hi (by omega)), nI_add, nI_add, b_gd_t (nIi (by omega) (by decide)), nIc (by omega), show a_I τ 238 (p + 1 + i) = nI (g i) from (m1.I (by unfold Sf; omega)).trans (e1 i hi), e2, g_n, b_X8_writeName_26, nI_add])
  have e : b_R (a_call a_tab P (d - 1)) kX8_writeName [] (2, [some (.ref 237), some (.int (nI p)), some (.int (nI 0))], [], σ) = _ := e
  refine ⟨s1, ?_, m1, by rw [z_apn_lts hg]; exact B1, by rw [z_apn_lts hg, z_lts_1]; omega⟩
  rw [n_X8_writeName (by omega), b_X8_writeName_0, e]
  (try dsimp only)
  rw [b_X8_writeName_2 (m1.sh h) (m1.rw hw), b_gd_t (nIi (by omega) (by decide)), nIc (by omega), show a_I s1 238 p = nI (z_len g) from (m1.I (by unfold Sf; omega)).trans e0, if_neg (nIn (Nat.le_refl _) (by omega))]
def z_fm0 (X : Pal) (m i : Nat) : Nat × (Nat → Nat) := if i = 0 then z_apn (X.2 1 m) (0, fun _ => 0) else q_fold (z_fpt X (X.2 1 m)) i 0 (z_ap1 (z_apn (X.2 1 m) (0, fun _ => 0)) 61)
theorem y_format (hd : 4 ≤ d) (K : KM σ X hs sn) {S : Nat × (Nat → Nat)} (B : Fm σ S) : match o_format X S x with
    | .inl _ => ∃ σ' v, a_call a_tab P d 216 [.ref 237, .int x] σ = some (.inl (some (.int v)), σ') ∧ Mo Sgf σ σ' ∧ KM σ' X hs sn ∧ Fm σ' S ∧ a_I σ' 237 6 = nI 1
    | .inr q => ∃ σ', a_call a_tab P d 216 [.ref 237, .int x] σ = some (.inl (some (.int q.1)), σ') ∧ Mo Sgf σ σ' ∧ KM σ' X hs sn ∧ Fm σ' q.2 ∧ a_I σ' 237 6 = nI 0 := by
  have V := K.2.2.1
  have h20 := V.1
  obtain ⟨m, rfl, hm⟩ := o_ex x
  unfold o_format
  rw [hm, n_X8_format (by omega), b_X8_format_0 K.1, y_isMix (by omega) K.1 K.2.1 V, g_v, b_X8_format_6 K.1, hm]
  by_cases c1 : m < X.1 1
  · have K0 := K.s6 (v := nI 0)
    have G := V.m c1
    have g4 := G.2.1
    have g1 := G.1
    rw [if_pos c1, decide_eq_true c1, show b_n true = nI 1 from rfl, y_lacksT (by omega) K.1, g_v, b_X8_format_9 K0.1, if_pos (show nI 0 = 0 from rfl)]
    (try dsimp only)
    have ms : Mo Sf (a_setI σ 237 6 (nI 0)) (a_setI (a_setI σ 237 6 (nI 0)) 237 18 (nI 0)) := Mo.set (.inr ⟨rfl, rfl⟩)
    have K1 := K0.sf ms
    have B1 : Fm (a_setI (a_setI σ 237 6 (nI 0)) 237 18 (nI 0)) ((0, fun _ => 0) : Nat × (Nat → Nat)) := ⟨a_I_at, Nat.zero_le _, fun j hj => absurd hj (Nat.not_lt_zero j)⟩
    obtain ⟨f0, f1, -, -⟩ := K1.2.1.2.2.2.2.2.1 m c1
    have nm := (V.2.2.2.2.2.2.2.1 m c1).1
    obtain ⟨s2, e2, m2, B2, l2⟩ := y_writeName (P := P) (d := d - 1) (by omega) K1.1 K1.2.1.1 B1 nm (by decide) (p := 288 + 18 * m + 0) (by omega) f0 (fun k hk => by rw [show 288 + 18 * m + 0 + 1 + k = 288 + 18 * m + (1 + k) by omega]; exact f1 k hk)
    have l2 : (z_apn (X.2 1 m) (0, fun _ => 0)).1 ≤ 0 + 8 := l2
    obtain ⟨s3, ⟨m3, B3, l3⟩, e3⟩ := up_st0 (run := fun i τ => b_R (a_call a_tab P (d - 1)) kX8_format [] (35, [some (.ref 237), some (.int (nI m)), some (.int (nI i))], [], τ)) (n := X.2 1 m 8) (s := s2) (fun i τ => Mo Sf (a_setI σ 237 6 (nI 0)) τ ∧ Fm τ (z_fm0 X m i) ∧ (z_fm0 X m i).1 ≤ 8 + 10 * i) ⟨ms.tr m2, B2, by show (z_apn (X.2 1 m) (0, fun _ => 0)).1 ≤ 8; omega⟩
      (fun i τ hi ⟨m3, B3, l3⟩ => by
        have Kt := K0.sf m3
        have hh := Kt.1
        obtain ⟨gt, gp1, gp9⟩ := G.2.2.1 i hi
        obtain ⟨-, -, f9, -⟩ := Kt.2.1.2.2.2.2.2.1 m c1
        obtain ⟨s4, e4, m4, B4⟩ := y_write (P := P) (d := d - 1) (by omega) hh B3 (by omega) (c := if i = 0 then 61 else 43)
        have Ku := Kt.sf m4
        obtain ⟨-, -, -, fu⟩ := Ku.2.1.2.2.2.2.2.1 m c1
        have l4 : (z_ap1 (z_fm0 X m i) (if i = 0 then 61 else 43)).1 = (z_fm0 X m i).1 + 1 := rfl
        obtain ⟨s5, e5, m5, B5⟩ := y_write (P := P) (d := d - 1) (by omega) Ku.1 B4 (by omega) (c := 48 + X.2 1 m (13 + i))
        have Kv := Ku.sf m5
        obtain ⟨-, -, -, fv⟩ := Kv.2.1.2.2.2.2.2.1 m c1
        have l5 : (z_ap1 (z_ap1 (z_fm0 X m i) (if i = 0 then 61 else 43)) (48 + X.2 1 m (13 + i))).1 = (z_fm0 X m i).1 + 1 + 1 := rfl
        obtain ⟨-, -, -, t5, t6⟩ := Kv.2.1.2.2.2.2.1 _ gt
        obtain ⟨s6, e6, m6, B6, l6⟩ := y_writeName (P := P) (d := d - 1) (by omega) Kv.1 Kv.2.1.1 B5 (V.2.2.2.2.2.2.1 _ gt).1 (by omega) (p := 8 + 14 * X.2 1 m (9 + i) + 5) (by omega) t5 (fun k hk => by rw [show 8 + 14 * X.2 1 m (9 + i) + 5 + 1 + k = 8 + 14 * X.2 1 m (9 + i) + (6 + k) by omega]; exact t6 k hk)
        have es : z_fm0 X m (i + 1) = z_apn (X.2 0 (X.2 1 m (9 + i))) (z_ap1 (z_ap1 (z_fm0 X m i) (if i = 0 then 61 else 43)) (48 + X.2 1 m (13 + i))) := by
          unfold z_fm0
          rw [if_neg (by omega), q_fold_succ, Nat.zero_add]
          unfold z_fpt
          by_cases h0 : i = 0
          · subst h0
            rw [if_neg (by decide), if_pos rfl, if_pos rfl]
            rfl
          · rw [if_pos (by omega), if_neg h0, if_neg h0]
        refine ⟨s6, ⟨((m3.tr m4).tr m5).tr m6, by rw [es]; exact B6, by rw [es]; omega⟩, ?_⟩
        (try dsimp only)
        rw [b_X8_format_35 hh, y_ofMix (by omega) hh Kt.2.1.1 (by omega) (by decide), g_v, f9, b_X8_format_43 hh, if_pos (nIl hi (by omega))]
        have ez : (if nI i = 0 then b_R (a_call a_tab P (d - 1)) kX8_format [] (58, [some (.ref 237), some (.int (nI m)), some (.int (nI i))], [.int (nI 61), .ref 237], τ) else b_R (a_call a_tab P (d - 1)) kX8_format [] (58, [some (.ref 237), some (.int (nI m)), some (.int (nI i))], [.int (nI 43), .ref 237], τ)) = b_R (a_call a_tab P (d - 1)) kX8_format [] (58, [some (.ref 237), some (.int (nI m)), some (.int (nI i))], [.int (nI (if i = 0 then 61 else 43)), .ref 237], τ) := by
          by_cases h0 : i = 0
          · subst h0; rfl
          · rw [if_neg h0, if_neg (fun z => h0 ((o_eq0 (by omega)).mp z))]
        rw [ez, b_X8_format_58 hh, e4, g_n, b_X8_format_61 Ku.1, nI_add, y_ofMix (by omega) Ku.1 Ku.2.1.1 (by omega) (by omega), g_v, (fu i hi).2, b_X8_format_73 Ku.1, nI_add, e5, g_n, b_X8_format_77 Kv.1, nI_add, y_ofMix (by omega) Kv.1 Kv.2.1.1 (by omega) (by omega), g_v, (fv i hi).1, b_X8_format_91 Kv.1, pk_mul, nI_add, nI_add, e6, g_n, b_X8_format_98, nI_add])
    have e3 : b_R (a_call a_tab P (d - 1)) kX8_format [] (35, [some (.ref 237), some (.int (nI m)), some (.int (nI 0))], [], s2) = _ := e3
    have K3 := K0.sf m3
    obtain ⟨-, -, f9, -⟩ := K3.2.1.2.2.2.2.2.1 m c1
    have ef : z_fm0 X m (X.2 1 m 8) = z_fm X m := by
      unfold z_fm0 z_fm
      rw [if_neg (by omega)]
    rw [ef] at B3 l3
    have goal : ∃ σ', b_R (a_call a_tab P (d - 1)) kX8_format [] (109, [some (.ref 237), some (.int (nI m)), some (.int (nI (X.2 1 m 8)))], [.int (b_n (z_bro X (X.2 1 m)))], s3) = some (.inl (some (.int (nI (z_fmt X m).1))), σ') ∧ Mo Sf s3 σ' ∧ Fm σ' (z_fmt X m) := by
      rw [b_X8_format_109 K3.1]
      unfold z_fmt
      cases z_bro X (X.2 1 m) with
      | false =>
        rw [if_pos (show b_n false = 0 by decide), if_neg Bool.false_ne_true, b_X8_format_118 K3.1, B3.1]
        exact ⟨s3, rfl, Mo.rf, B3⟩
      | true =>
        obtain ⟨s4, e4, m4, B4⟩ := y_write (P := P) (d := d - 1) (by omega) K3.1 B3 (by omega) (c := 33)
        rw [if_neg (show ¬ b_n true = 0 by decide), if_pos rfl, e4, g_n, b_X8_format_118 (m4.sh K3.1), B4.1]
        exact ⟨s4, rfl, m4, B4⟩
    obtain ⟨s4, e4, m4, B4⟩ := goal
    have mm := m3.tr m4
    refine ⟨s4, ?_, (Mo.m6.mono fun b k z => .inl z).tr (mm.mono fun b k z => .inr z), K0.sf mm, B4, by rw [Sf.n6 mm]; exact a_I_at⟩
    rw [pk_mul, nI_add, nI_add, e2, g_n, b_X8_format_33, e3]
    (try dsimp only)
    rw [b_X8_format_35 K3.1, y_ofMix (by omega) K3.1 K3.2.1.1 (by omega) (by decide), g_v, f9, b_X8_format_43 K3.1, if_neg (nIn (Nat.le_refl _) (by omega)), y_isBroken (by omega) K3.1 K3.2.1 V c1, g_v]
    exact e4
  · rw [if_neg c1, decide_eq_false c1, show b_n false = nI 0 from rfl, y_lacksF (by omega) K.1, g_v, b_X8_format_9 K.s6.1, if_neg (show ¬ nI 1 = 0 by decide)]
    exact ⟨_, _, rfl, Mo.m6.mono fun b k z => .inl z, K.s6, B.mo (S := fun b k => b = 237 ∧ k = 6) (Mo.set ⟨rfl, rfl⟩) (fun b k z => by unfold Sf; omega), a_I_at⟩
theorem y_formattedByte (hd : 2 ≤ d) (h : Sh σ) {S : Nat × (Nat → Nat)} (B : Fm σ S) : a_call a_tab P d 217 [.ref 237, .int x] σ = some (.inl (some (.int (if o_nat x < S.1 then nI (S.2 (o_nat x)) else -1))), a_setI σ 237 6 (nI 0)) := by
  obtain ⟨k, rfl, hk⟩ := o_ex x
  obtain ⟨b1, b2, b3⟩ := B
  have hh := (Mo.m6 (σ := σ) (v := nI 0)).sh h
  rw [hk, n_X8_formattedByte (by omega), b_X8_formattedByte_0 h, a_I_off (.inr (by decide)), b1, y_inI (by omega) (by omega), g_v, b_X8_formattedByte_16 hh, hk, b_X8_formattedByte_29]
  by_cases c1 : k < S.1
  · rw [decide_eq_true c1, if_neg (show ¬ b_n true = 0 by decide), if_pos c1, b_gd_t (nIi (by omega) (by decide)), nIc (by omega), b_X8_formattedByte_29, a_I_off (.inl (by decide)), b3 k c1]
  · rw [decide_eq_false c1, if_pos (show b_n false = 0 by decide), if_neg c1]
/-- the model's buffer -/
def KBm (σ : aSt) (n : Nat) (B : Nat → Nat) : Prop := a_I σ 237 20 = nI n ∧ n ≤ 900 ∧ ∀ i, i < n → a_I σ 247 i = nI (B i) ∧ B i < 256
def Sb1 (b k : Nat) : Prop := b = 247 ∨ (b = 237 ∧ k = 20)
theorem KBm.mo {S : Nat → Nat → Prop} {σ σ' : aSt} {n : Nat} {B : Nat → Nat} (h : KBm σ n B) (m : Mo S σ σ') (hS : ∀ b k, S b k → ¬ Sb1 b k) : KBm σ' n B := ⟨(m.I fun z => hS _ _ z (by unfold Sb1; omega)).trans h.1, h.2.1, fun j hj => ⟨(m.I fun z => hS _ _ z (by unfold Sb1; omega)).trans (h.2.2 j hj).1, (h.2.2 j hj).2⟩⟩
theorem y_shift {k : Nat} (hk : k < 20) : nI 24 - nI 8 * (nI k - nI k / nI 4 * nI 4) = nI (24 - 8 * (k % 4)) := by
  rw [pk_div (by omega) (by decide) (by decide), pk_mul, pk_sub (by omega), pk_mul, pk_sub (by omega), show k - k / 4 * 4 = k % 4 by omega]
theorem y_put {C : aCall} (h : Sh σ) {n : Nat} {B : Nat → Nat} (b : KBm σ n B) (hn : n < 900) {k : Nat} (hk : k < 20) {x1 x2 x3 x4 x5 y : Int32} {o : Option Value} : ∃ σ', b_R C kX8_feed [] (76, [some (.ref 237), some (.int x1), some (.int x2), some (.int x3), some (.int x4), some (.int x5), some (.int (nI k)), o], [.int y], σ) = b_R C kX8_feed [] (23, [some (.ref 237), some (.int x1), some (.int x2), some (.int x3), some (.int x4), some (.int x5), some (.int (nI (k + 1))), some (.int y)], [], σ') ∧ Mo Sb1 σ σ' ∧ KBm σ' (n + 1) (z_put B n (z_byte y (24 - 8 * (k % 4)))) := by
  obtain ⟨b1, b2, b3⟩ := b
  refine ⟨a_setI (a_setI σ 247 n ((y >>> (nI (24 - 8 * (k % 4)) &&& 31)) &&& (nI 255))) 237 20 (nI (n + 1)), ?_, (Mo.set (.inl rfl)).then_set (.inr ⟨rfl, rfl⟩), a_I_at, by omega, fun i hi => ?_⟩
  · rw [b_X8_feed_76 h, b1, b_gd_t (nIi hn (by decide)), nIc (by omega), y_shift hk, a_I_off (.inl (by decide)), b1, nI_add, nI_add]
  · rw [a_I_off (.inl (by decide)), a_I_set]
    unfold z_put
    by_cases hi2 : i = n
    · rw [if_pos ⟨rfl, hi2⟩, if_pos hi2]
      exact ⟨(o_nI _).symm, z_byte_lt⟩
    · rw [if_neg (fun z => hi2 z.2), if_neg hi2]
      exact b3 i (by omega)
theorem y_feed {x1 x2 x3 x4 x5 : Int32} (hd : 1 ≤ d) (h : Sh σ) {n : Nat} {B : Nat → Nat} (b : KBm σ n B) :
    (n + 20 ≤ 900 ∧ ∃ σ', a_call a_tab P d 224 [.ref 237, .int x1, .int x2, .int x3, .int x4, .int x5] σ = some (.inl (some (.int (nI (n + 20)))), σ') ∧ Mo (fun b k => Sb1 b k ∨ (b = 237 ∧ k = 6)) σ σ' ∧ KBm σ' (n + 20) (z_fed B n x1 x2 x3 x4 x5)) ∨
    (¬ n + 20 ≤ 900 ∧ a_call a_tab P d 224 [.ref 237, .int x1, .int x2, .int x3, .int x4, .int x5] σ = some (.inl (some (.int (-1))), a_setI σ 237 6 (nI 0))) := by
  have m0 : Mo (fun b k => b = 237 ∧ k = 6) σ (a_setI σ 237 6 (nI 0)) := Mo.set ⟨rfl, rfl⟩
  have h0 := m0.sh h
  have b0 := b.mo m0 fun b k z => by unfold Sb1; omega
  have n9 := b.2.1
  rw [n_X8_feed (by omega), b_X8_feed_0 h, b0.1, nI_add]
  by_cases c1 : n + 20 ≤ 900
  · refine .inl ⟨c1, ?_⟩
    have four : ∀ (q : Nat) (x : Int32) (n : Nat) (B : Nat → Nat) (τ : aSt) (o : Option Value), q < 5 → Sh τ → KBm τ n B → n + 4 ≤ 900 → (∀ j τ o, j < 4 → Sh τ → b_R (a_call a_tab P (d - 1)) kX8_feed [] (23, [some (.ref 237), some (.int x1), some (.int x2), some (.int x3), some (.int x4), some (.int x5), some (.int (nI (4 * q + j))), o], [], τ) = b_R (a_call a_tab P (d - 1)) kX8_feed [] (76, [some (.ref 237), some (.int x1), some (.int x2), some (.int x3), some (.int x4), some (.int x5), some (.int (nI (4 * q + j))), o], [.int x], τ)) → ∃ τ', b_R (a_call a_tab P (d - 1)) kX8_feed [] (23, [some (.ref 237), some (.int x1), some (.int x2), some (.int x3), some (.int x4), some (.int x5), some (.int (nI (4 * q))), o], [], τ) = b_R (a_call a_tab P (d - 1)) kX8_feed [] (23, [some (.ref 237), some (.int x1), some (.int x2), some (.int x3), some (.int x4), some (.int x5), some (.int (nI (4 * q + 4))), some (.int x)], [], τ') ∧ Mo Sb1 τ τ' ∧ KBm τ' (n + 4) (z_app B n x) := by
      intro q x n B τ o hq ht b hn hw
      obtain ⟨t1, e1, m1, b1⟩ := y_put (C := a_call a_tab P (d - 1)) ht b (by omega) (k := 4 * q) (by omega) (x1 := x1) (x2 := x2) (x3 := x3) (x4 := x4) (x5 := x5) (y := x) (o := o)
      have h1 := m1.sh ht
      obtain ⟨t2, e2, m2, b2⟩ := y_put (C := a_call a_tab P (d - 1)) h1 b1 (by omega) (k := 4 * q + 1) (by omega) (x1 := x1) (x2 := x2) (x3 := x3) (x4 := x4) (x5 := x5) (y := x) (o := some (.int x))
      have h2 := m2.sh h1
      obtain ⟨t3, e3, m3, b3⟩ := y_put (C := a_call a_tab P (d - 1)) h2 b2 (by omega) (k := 4 * q + 2) (by omega) (x1 := x1) (x2 := x2) (x3 := x3) (x4 := x4) (x5 := x5) (y := x) (o := some (.int x))
      have h3 := m3.sh h2
      obtain ⟨t4, e4, m4, b4⟩ := y_put (C := a_call a_tab P (d - 1)) h3 b3 (by omega) (k := 4 * q + 3) (by omega) (x1 := x1) (x2 := x2) (x3 := x3) (x4 := x4) (x5 := x5) (y := x) (o := some (.int x))
      rw [show 24 - 8 * ((4 * q) % 4) = 24 by omega] at b1 b2 b3 b4
      rw [show 24 - 8 * ((4 * q + 1) % 4) = 16 by omega] at b2 b3 b4
      rw [show 24 - 8 * ((4 * q + 2) % 4) = 8 by omega] at b3 b4
      rw [show 24 - 8 * ((4 * q + 3) % 4) = 0 by omega] at b4
      refine ⟨t4, ?_, ((m1.tr m2).tr m3).tr m4, b4⟩
      have w0 := hw 0 τ o (by decide) ht
      rw [Nat.add_zero] at w0
      rw [w0, e1, hw 1 t1 _ (by decide) h1, e2, hw 2 t2 _ (by decide) h2, e3, hw 3 t3 _ (by decide) h3, e4]
    obtain ⟨s1, e1, m1, b1⟩ := four 0 x1 n B _ none (by decide) h0 b0 (by omega) fun j τ o hj ht => by rw [b_X8_feed_23 ht, if_pos (nIl (by omega) (by decide)), if_pos (nIl (by omega) (by decide))]
    have h1 := m1.sh h0
    obtain ⟨s2, e2, m2, b2⟩ := four 1 x2 _ _ s1 (some (.int x1)) (by decide) h1 b1 (by omega) fun j τ o hj ht => by rw [b_X8_feed_23 ht, if_pos (nIl (by omega) (by decide)), if_neg (nIn (by omega) (by omega)), if_pos (nIl (by omega) (by decide))]
    have h2 := m2.sh h1
    obtain ⟨s3, e3, m3, b3⟩ := four 2 x3 _ _ s2 (some (.int x2)) (by decide) h2 b2 (by omega) fun j τ o hj ht => by rw [b_X8_feed_23 ht, if_pos (nIl (by omega) (by decide)), if_neg (nIn (by omega) (by omega)), if_neg (nIn (by omega) (by omega)), if_pos (nIl (by omega) (by decide))]
    have h3 := m3.sh h2
    obtain ⟨s4, e4, m4, b4⟩ := four 3 x4 _ _ s3 (some (.int x3)) (by decide) h3 b3 (by omega) fun j τ o hj ht => by rw [b_X8_feed_23 ht, if_pos (nIl (by omega) (by decide)), if_neg (nIn (by omega) (by omega)), if_neg (nIn (by omega) (by omega)), if_neg (nIn (by omega) (by omega)), if_pos (nIl (by omega) (by decide))]
    have h4 := m4.sh h3
    obtain ⟨s5, e5, m5, b5⟩ := four 4 x5 _ _ s4 (some (.int x4)) (by decide) h4 b4 (by omega) fun j τ o hj ht => by rw [b_X8_feed_23 ht, if_pos (nIl (by omega) (by decide)), if_neg (nIn (by omega) (by omega)), if_neg (nIn (by omega) (by omega)), if_neg (nIn (by omega) (by omega)), if_neg (nIn (by omega) (by omega))]
    have mm := (((m1.tr m2).tr m3).tr m4).tr m5
    refine ⟨s5, ?_, (m0.mono fun b k z => .inr z).tr (mm.mono fun b k z => .inl z), b5⟩
    rw [if_neg (nIn (by omega) (by omega))]
    have e1 : b_R (a_call a_tab P (d - 1)) kX8_feed [] (23, [some (.ref 237), some (.int x1), some (.int x2), some (.int x3), some (.int x4), some (.int x5), some (.int (nI 0)), none], [], a_setI σ 237 6 (nI 0)) = b_R (a_call a_tab P (d - 1)) kX8_feed [] (23, [some (.ref 237), some (.int x1), some (.int x2), some (.int x3), some (.int x4), some (.int x5), some (.int (nI (4 * 1))), some (.int x1)], [], s1) := e1
    have e2 : _ = b_R (a_call a_tab P (d - 1)) kX8_feed [] (23, [some (.ref 237), some (.int x1), some (.int x2), some (.int x3), some (.int x4), some (.int x5), some (.int (nI (4 * 2))), some (.int x2)], [], s2) := e2
    have e3 : _ = b_R (a_call a_tab P (d - 1)) kX8_feed [] (23, [some (.ref 237), some (.int x1), some (.int x2), some (.int x3), some (.int x4), some (.int x5), some (.int (nI (4 * 3))), some (.int x3)], [], s3) := e3
    have e4 : _ = b_R (a_call a_tab P (d - 1)) kX8_feed [] (23, [some (.ref 237), some (.int x1), some (.int x2), some (.int x3), some (.int x4), some (.int x5), some (.int (nI (4 * 4))), some (.int x4)], [], s4) := e4
    rw [e1, e2, e3, e4, e5, b_X8_feed_23 (m5.sh h4), if_neg (nIn (by omega) (by omega)), b5.1]
  · exact .inr ⟨c1, by rw [if_pos (nIl (by omega) (by omega))]⟩
theorem y_errorPosition (hd : 1 ≤ d) (h : Sh σ) : a_call a_tab P d 225 [.ref 237] σ = some (.inl (some (.int (a_I σ 237 27))), a_setI σ 237 6 (nI 0)) := by
  rw [n_X8_errorPosition (by omega), b_X8_errorPosition_0 h, a_I_off (.inr (by decide))]
end MOM
