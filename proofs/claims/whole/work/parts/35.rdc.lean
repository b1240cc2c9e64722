/-! TextReader: whole palettes -/
def SL (p b k : Nat) : Prop := Sp p b k ∨ Sr b k
def g_num (B : Nat → Nat) (E lo hi q : Nat) : (Nat × Nat) ⊕ (Nat × Nat) := match k_ne B (k_tok B E q) lo hi with
  | some c => .inl (c, (k_tok B E q).2.1)
  | none => .inr (k_num B (k_tok B E q), (k_tok B E q).2.2)
theorem k_ne_none {B : Nat → Nat} {t : Nat × Nat × Nat} {lo hi : Nat} (h : k_ne B t lo hi = none) : t.1 = 2 ∧ lo ≤ k_num B t ∧ k_num B t ≤ hi := by
  unfold k_ne at h
  split at h
  · rename_i h1
    split at h
    · cases h
    · exact ⟨h1, by omega, by omega⟩
  · cases h
/-- a setting that may be told -/
def g_opt (B : Nat → Nat) (E s lo hi : Nat) (up : Nat → Pal) (X : Pal) (q : Nat) : (Nat × Nat) ⊕ (Pal × Nat) :=
  if k_is B (k_tok B E q) (q_txt s) then
    (match g_num B E lo hi (k_tok B E q).2.2 with
    | .inl e => .inl e
    | .inr r => .inr (up r.1, r.2))
  else .inr (X, q)
def z_brs (X : Pal) (n : Nat) : Pal := z_cnt (z_up X 2 (fun _ _ => 0)) 2 n
def g_sets (X : Pal) (B : Nat → Nat) (E q : Nat) : (Nat × Nat) ⊕ (Pal × Nat) := match g_opt B E 3 1 6 (fun n => z_brs X n) X q with
  | .inl e => .inl e
  | .inr r1 => match g_opt B E 4 1 6 (fun n => z_cnt r1.1 4 n) r1.1 r1.2 with
    | .inl e => .inl e
    | .inr r2 => g_opt B E 5 0 99999 (fun n => z_cnt r2.1 5 n) r2.1 r2.2
def z_row (X : Pal) (row : Nat → Nat) : Pal := z_cnt (z_up X 0 (fun r k => if r = X.1 0 then row k else X.2 0 r k)) 0 (X.1 0 + 1)
def z_trow (w : Nat → Nat) (r g b dr k : Nat) : Nat := if k < 8 then w k else if k = 8 then r else if k = 9 then g else if k = 10 then b else if k = 11 then dr else 0
def g_tube (X : Pal) (B : Nat → Nat) (E q : Nat) : (Nat × Nat) ⊕ (Pal × Nat) :=
  if 20 ≤ X.1 0 then .inl (3, (k_tok B E q).2.1) else
  match g_new X B E (k_tok B E q).2.2 with
  | some e => .inl e
  | none => match g_num B E 0 255 (k_tok B E (k_tok B E q).2.2).2.2 with
    | .inl e => .inl e
    | .inr r1 => match g_num B E 0 255 r1.2 with
      | .inl e => .inl e
      | .inr r2 => match g_num B E 0 255 r2.2 with
        | .inl e => .inl e
        | .inr r3 => if (k_tok B E r3.2).1 = 2 then
            (match g_num B E 0 9999 r3.2 with
            | .inl e => .inl e
            | .inr r4 => .inr (z_row X (z_trow (k_n8 B (k_tok B E (k_tok B E q).2.2)) r1.1 r2.1 r3.1 r4.1), r4.2))
          else .inr (z_row X (z_trow (k_n8 B (k_tok B E (k_tok B E q).2.2)) r1.1 r2.1 r3.1 100), r3.2)
def z_addM (X : Pal) (row : Nat → Nat) : Pal := z_cnt (z_up X 1 (fun r k => if r = X.1 1 then row k else X.2 1 r k)) 1 (X.1 1 + 1)
def g_mix (X : Pal) (B : Nat → Nat) (E q : Nat) : (Nat × Nat) ⊕ (Pal × Nat) :=
  if k_is B (k_tok B E q) (q_txt 6) then
    (if 20 ≤ X.1 1 then .inl (3, (k_tok B E q).2.1) else
    match g_new X B E (k_tok B E q).2.2 with
    | some e => .inl e
    | none => if k_sg B (k_tok B E (k_tok B E (k_tok B E q).2.2).2.2) 61 then
        (match g_parts X B E 5 [] (k_tok B E (k_tok B E (k_tok B E q).2.2).2.2).2.2 with
        | .inl e => .inl e
        | .inr r => .inr (z_addM X (m_row (k_n8 B (k_tok B E (k_tok B E q).2.2)) r.1), r.2))
      else .inl (1, (k_tok B E (k_tok B E (k_tok B E q).2.2).2.2).2.1))
  else .inl (1, (k_tok B E q).2.1)
def g_cl (B : Nat → Nat) (E : Nat) : Nat → Pal → Nat → (Nat × Nat) ⊕ Pal
  | 0, _, _ => .inl (0, 0)
  | f + 1, X, q => if (k_tok B E q).1 = 0 then .inr X else
    match (if k_is B (k_tok B E q) (q_txt 2) then g_tube X B E q else g_mix X B E q) with
    | .inl e => .inl e
    | .inr r => if k_sg B (k_tok B E r.2) 59 then g_cl B E f r.1 (k_tok B E r.2).2.2 else .inl (1, (k_tok B E r.2).2.1)
def g_load (B : Nat → Nat) (E : Nat) : (Nat × Nat) ⊕ Pal :=
  if k_is B (k_tok B E 0) (q_txt 1) then
    (match g_sets z_p0 B E (k_tok B E 0).2.2 with
    | .inl e => .inl e
    | .inr r => if k_sg B (k_tok B E r.2) 59 then g_cl B E 901 r.1 (k_tok B E r.2).2.2 else .inl (1, (k_tok B E r.2).2.1))
  else .inl (1, (k_tok B E 0).2.1)
theorem z_p0_vd : Vd z_p0 := ⟨⟨by decide, by decide⟩, ⟨by decide, by decide⟩, by decide, ⟨by decide, by decide⟩, by decide, by decide, fun t ht => absurd ht (Nat.not_lt_zero _), fun t ht => absurd ht (Nat.not_lt_zero _), fun b _ => ⟨fun k _ => Nat.zero_le _, Nat.zero_le _⟩⟩
theorem z_brs_vd {X : Pal} (V : Vd X) {n : Nat} (h1 : 1 ≤ n) (h6 : n ≤ 6) : Vd (z_brs X n) := ⟨V.1, ⟨h1, h6⟩, V.2.2.1, V.2.2.2.1, V.2.2.2.2.1, V.2.2.2.2.2.1, V.2.2.2.2.2.2.1, V.2.2.2.2.2.2.2.1, fun b _ => ⟨fun k _ => Nat.zero_le _, Nat.zero_le _⟩⟩
theorem z_most_vd {X : Pal} (V : Vd X) {n : Nat} (h1 : 1 ≤ n) (h6 : n ≤ 6) : Vd (z_cnt X 4 n) := ⟨V.1, V.2.1, V.2.2.1, ⟨h1, h6⟩, V.2.2.2.2.1, V.2.2.2.2.2.1, V.2.2.2.2.2.2.1, V.2.2.2.2.2.2.2.1, V.2.2.2.2.2.2.2.2⟩
theorem z_tol_vd {X : Pal} (V : Vd X) {n : Nat} (h6 : n ≤ 99999) : Vd (z_cnt X 5 n) := ⟨V.1, V.2.1, V.2.2.1, V.2.2.2.1, h6, V.2.2.2.2.2.1, V.2.2.2.2.2.2.1, V.2.2.2.2.2.2.2.1, V.2.2.2.2.2.2.2.2⟩
theorem z_row_vd {X : Pal} (V : Vd X) {w : Nat → Nat} {r g b dr : Nat} (h : X.1 0 < 20) (hw : Vn w) (h1 : r ≤ 255) (h2 : g ≤ 255) (h3 : b ≤ 255) (h4 : dr ≤ 9999) : Vd (z_row X (z_trow w r g b dr)) := by
  refine ⟨⟨(by omega : X.1 0 + 1 ≤ 20), V.1.2⟩, V.2.1, V.2.2.1, V.2.2.2.1, V.2.2.2.2.1, V.2.2.2.2.2.1, fun t ht => ?_, fun m hm => ?_, V.2.2.2.2.2.2.2.2⟩
  · have ht : t < X.1 0 + 1 := ht
    show Vn (fun k => if t = X.1 0 then z_trow w r g b dr k else X.2 0 t k) ∧ Vt (fun k => if t = X.1 0 then z_trow w r g b dr k else X.2 0 t k)
    by_cases e : t = X.1 0
    · simp only [e, ite_true]
      refine ⟨?_, fun k hk => ?_, h4, Nat.zero_le _⟩
      · obtain ⟨l, l1, l2, l3, l4⟩ := hw
        refine ⟨l, l1, l2, fun k hk => ?_, fun k hk hk8 => ?_⟩
        · (try dsimp only)
          rw [show z_trow w r g b dr k = w k from if_pos (by omega)]; exact l3 k hk
        · (try dsimp only)
          rw [show z_trow w r g b dr k = w k from if_pos hk8]; exact l4 k hk hk8
      · obtain rfl | rfl | rfl : k = 0 ∨ k = 1 ∨ k = 2 := by omega
        · exact h1
        · exact h2
        · exact h3
    · simp only [if_neg e]
      exact V.2.2.2.2.2.2.1 t (by omega)
  · obtain ⟨n1, n2⟩ := V.2.2.2.2.2.2.2.1 m hm
    refine ⟨n1, n2.1, n2.2.1, fun i hi => ?_, n2.2.2.2⟩
    obtain ⟨q1, q2⟩ := n2.2.2.1 i hi
    exact ⟨Nat.lt_succ_of_lt q1, q2⟩
theorem z_addM_vd {X : Pal} (V : Vd X) {w : Nat → Nat} {acc : Cnd} (h : X.1 1 < 20) (hw : Vn w) (A : Va (X.1 0) acc) (h0 : 0 < acc.length) : Vd (z_addM X (m_row w acc)) := by
  refine ⟨⟨V.1.1, (by omega : X.1 1 + 1 ≤ 20)⟩, V.2.1, V.2.2.1, V.2.2.2.1, V.2.2.2.2.1, V.2.2.2.2.2.1, V.2.2.2.2.2.2.1, fun m hm => ?_, V.2.2.2.2.2.2.2.2⟩
  have hm : m < X.1 1 + 1 := hm
  show Vn (fun k => if m = X.1 1 then m_row w acc k else X.2 1 m k) ∧ Vm (X.1 0) (fun k => if m = X.1 1 then m_row w acc k else X.2 1 m k)
  by_cases e : m = X.1 1
  · simp only [e, ite_true]
    refine ⟨?_, m_row_vm A h0⟩
    obtain ⟨l, l1, l2, l3, l4⟩ := hw
    refine ⟨l, l1, l2, fun k hk => ?_, fun k hk hk8 => ?_⟩
    · (try dsimp only)
      rw [show m_row w acc k = w k from if_pos (by omega)]; exact l3 k hk
    · (try dsimp only)
      rw [show m_row w acc k = w k from if_pos hk8]; exact l4 k hk hk8
  · simp only [if_neg e]
    exact V.2.2.2.2.2.2.2.1 m (by omega)
theorem k_nx {B : Nat → Nat} {E q : Nat} (h : q ≤ E) : q ≤ (k_tok B E q).2.2 ∧ (k_tok B E q).2.2 ≤ E := by
  have := k_tok_le (B := B) h
  omega
theorem g_num_mono {B : Nat → Nat} {E lo hi q : Nat} {r : Nat × Nat} (h : q ≤ E) (g : g_num B E lo hi q = .inr r) : q ≤ r.2 ∧ r.2 ≤ E := by
  unfold g_num at g
  split at g
  · cases g
  · cases g; exact k_nx h
theorem g_part_mono {X : Pal} {B : Nat → Nat} {E q : Nat} {acc : Cnd} {r : Cnd × Nat} (h : q ≤ E) (g : g_part X B E acc q = .inr r) : q ≤ r.2 ∧ r.2 ≤ E := by
  have h1 := k_nx (B := B) h
  have h2 := k_nx (B := B) h1.2
  unfold g_part at g
  split at g
  · split at g
    · cases g
    · split at g
      · cases g
      · split at g
        · split at g
          · cases g
          · split at g
            · cases g
            · cases g; exact ⟨Nat.le_trans h1.1 h2.1, h2.2⟩
        · cases g
  · cases g
theorem g_parts_mono {X : Pal} {B : Nat → Nat} {E : Nat} : ∀ {f q : Nat} {acc : Cnd} {r : Cnd × Nat}, q ≤ E → g_parts X B E f acc q = .inr r → q ≤ r.2 ∧ r.2 ≤ E
  | 0, q, acc, r, h, g => by cases g
  | f + 1, q, acc, r, h, g => by
    unfold g_parts at g
    cases hg : g_part X B E acc q with
    | inl e => rw [hg] at g; cases g
    | inr r1 =>
      rw [hg] at g
      have h1 := g_part_mono h hg
      have h2 := k_nx (B := B) h1.2
      (try dsimp only)
      have g : (if k_sg B (k_tok B E r1.2) 43 = true then g_parts X B E f r1.1 (k_tok B E r1.2).2.2 else .inr (r1.1, r1.2)) = .inr r := g
      split at g
      · have h3 := g_parts_mono h2.2 g
        exact ⟨by omega, h3.2⟩
      · cases g; exact h1
theorem g_tube_mono {X : Pal} {B : Nat → Nat} {E q : Nat} {r : Pal × Nat} (h : q ≤ E) (g : g_tube X B E q = .inr r) : q ≤ r.2 := by
  have h1 := k_nx (B := B) h
  have h2 := k_nx (B := B) h1.2
  unfold g_tube at g
  split at g
  · cases g
  · split at g
    · cases g
    · split at g
      · cases g
      · rename_i r1 g1
        have k1 := g_num_mono h2.2 g1
        split at g
        · cases g
        · rename_i r2 g2
          have k2 := g_num_mono k1.2 g2
          split at g
          · cases g
          · rename_i r3 g3
            have k3 := g_num_mono k2.2 g3
            split at g
            · split at g
              · cases g
              · rename_i r4 g4
                have k4 := g_num_mono k3.2 g4
                cases g
                show q ≤ r4.2
                omega
            · cases g
              show q ≤ r3.2
              omega
theorem g_mix_mono {X : Pal} {B : Nat → Nat} {E q : Nat} {r : Pal × Nat} (h : q ≤ E) (g : g_mix X B E q = .inr r) : q ≤ r.2 := by
  have h1 := k_nx (B := B) h
  have h2 := k_nx (B := B) h1.2
  have h3 := k_nx (B := B) h2.2
  unfold g_mix at g
  split at g
  · split at g
    · cases g
    · split at g
      · cases g
      · split at g
        · split at g
          · cases g
          · rename_i r1 g1
            have k1 := g_parts_mono h3.2 g1
            cases g
            show q ≤ r1.2
            omega
        · cases g
  · cases g
section RDC
variable {P : aCall} {d : Nat} {σ : aSt} {X : Pal} {p : Nat} {B : Nat → Nat} {E q : Nat}
theorem CP.sr {σ' : aSt} (C : CP σ p X) (hp : p + 8 < 220) {S : Nat → Nat → Prop} (m : Mo S σ σ') (hS : ∀ b k, S b k → Sr b k) : CP σ' p X := C.mo m fun b k z1 z2 z => by have := (hS b k z).in; omega
/-- what a palette's reader keeps -/
def RI (P : aCall) (σ0 : aSt) (p : Nat) (B : Nat → Nat) (E : Nat) (s : aSt) (X : Pal) (q : Nat) : Prop := Mo (SL p) σ0 s ∧ TG s B E q ∧ EF s none ∧ CP s p X ∧ Vd X ∧ Sh s ∧ Wt s
theorem m1_ne {n : Nat} (h : n < 2147483648) : nI n ≠ -1 := fun z => by cases (g_res_m1 (o := some n) (fun r e => by cases e; exact h)).mp z
theorem RI.step {σ0 s s' : aSt} {q' : Nat} {S : Nat → Nat → Prop} (I : RI P σ0 p B E s X q) (hp : p + 8 < 220) (m : Mo S s s') (hS : ∀ b k, S b k → Sr b k) (T : TG s' B E q') (F : EF s' none) : RI P σ0 p B E s' X q' := by
  obtain ⟨i1, -, -, i4, i5, i6, i7⟩ := I
  refine ⟨i1.tr (m.mono fun b k z => .inr (hS b k z)), T, F, i4.sr hp m hS, i5, m.sh i6, ?_⟩
  unfold Wt
  rw [m.I (fun z => by have := hS _ _ z; unfold Sr St at this; omega)]
  exact i7
theorem S3.sr {b k : Nat} (h : S3 b k) : Sr b k := Sr.st (by unfold S3 at h; unfold St; omega)
theorem S9.sr {b k : Nat} (h : S9 b k) : Sr b k := Sr.st (by unfold S9 at h; unfold St; omega)
theorem b_n_t : ¬ b_n true = 0 := by decide
theorem s_readSettings (H : Pm P) (hd : 4 ≤ d) (hp : p + 8 < 220) {σ0 : aSt} (I : RI P σ0 p B E σ X q) :
    RO (a_call a_tab P d 69 [.ref 223, .ref 220, .ref p] σ) (SL p) σ0 (g_sets X B E q) (fun r σ' => RI P σ0 p B E σ' r.1 r.2) := by
  -- with an error the rest only looks whether there is one
  have bad55 : ∀ s e, Sh s → EF s (some e) → b_R (a_call a_tab P (d - 1)) kX5_readSettings [] (55, [some (.ref 223), some (.ref 220), some (.ref p)], [], s) = some (.inl (some (.int (nI 0))), s) := by
    intro s e h F
    rw [b_X5_readSettings_55 h, s_failed (by omega) h F, g_v, b_X5_readSettings_59 h, if_neg (show ¬ b_n (some e).isSome = 0 from b_n_t), b_X5_readSettings_86 h, s_failed (by omega) h F, g_v, b_X5_readSettings_90, if_neg (show ¬ b_n (some e).isSome = 0 from b_n_t), b_X5_readSettings_98]
    exact b_gd_t (by decide)
  have bad24 : ∀ s e, Sh s → EF s (some e) → b_R (a_call a_tab P (d - 1)) kX5_readSettings [] (24, [some (.ref 223), some (.ref 220), some (.ref p)], [], s) = some (.inl (some (.int (nI 0))), s) := by
    intro s e h F
    rw [b_X5_readSettings_24 h, s_failed (by omega) h F, g_v, b_X5_readSettings_28 h, if_neg (show ¬ b_n (some e).isSome = 0 from b_n_t)]
    exact bad55 s e h F
  have bad86 : ∀ s e, Sh s → EF s (some e) → b_R (a_call a_tab P (d - 1)) kX5_readSettings [] (86, [some (.ref 223), some (.ref 220), some (.ref p)], [], s) = some (.inl (some (.int (nI 0))), s) := by
    intro s e h F
    rw [b_X5_readSettings_86 h, s_failed (by omega) h F, g_v, b_X5_readSettings_90, if_neg (show ¬ b_n (some e).isSome = 0 from b_n_t), b_X5_readSettings_98]
    exact b_gd_t (by decide)
  -- the third setting
  have p55 : ∀ s Y q, RI P σ0 p B E s Y q → RO (b_R (a_call a_tab P (d - 1)) kX5_readSettings [] (55, [some (.ref 223), some (.ref 220), some (.ref p)], [], s)) (SL p) σ0 (g_opt B E 5 0 99999 (fun n => z_cnt Y 5 n) Y q) (fun r σ' => RI P σ0 p B E σ' r.1 r.2) := by
    intro s Y q I
    obtain ⟨i1, i2, i3, i4, i5, i6, i7⟩ := id I
    have fin : ∀ s Y q, RI P σ0 p B E s Y q → b_R (a_call a_tab P (d - 1)) kX5_readSettings [] (86, [some (.ref 223), some (.ref 220), some (.ref p)], [], s) = some (.inl (some (.int (nI 1))), s) := by
      intro s Y q I
      rw [b_X5_readSettings_86 I.2.2.2.2.2.1, s_failed (by omega) I.2.2.2.2.2.1 I.2.2.1, g_v, b_X5_readSettings_90, if_pos (by decide), b_X5_readSettings_98]
      exact b_gd_t (by decide)
    rw [b_X5_readSettings_55 i6, s_failed (by omega) i6 i3, g_v, b_X5_readSettings_59 i6, if_pos (by decide), s_isW H (by omega) i6 i2 (by decide) (by decide), g_v, b_X5_readSettings_68 i6]
    unfold g_opt
    cases hk : k_is B (k_tok B E q) (q_txt 5) with
    | false =>
      rw [if_pos (by decide), if_neg Bool.false_ne_true]
      exact ⟨s, fin s Y q I, i1, I⟩
    | true =>
      obtain ⟨s1, e1, m1, T1⟩ := s_adv (P := P) (d := d - 1) H (by omega) i6 i2
      have I1 := I.step hp m1 (fun b k z => z.sr) T1 (i3.mo m1 (by unfold S3; omega) (by unfold S3; omega))
      rw [if_neg (by decide), if_pos rfl, e1, g_n, b_X5_readSettings_75 I1.2.2.2.2.2.1]
      unfold g_num
      rcases s_takeNumber (P := P) (d := d - 1) H (by omega) I1.2.2.2.2.2.1 T1 I1.2.2.1 (lo := 0) (hi := 99999) (by decide) (by decide) with ⟨hne, s2, e2, m2, T2, F2⟩ | ⟨c, hne, hc, s2, e2, m2, T2, F2⟩
      · have I2 := I1.step hp m2 (fun b k z => Sr.st z) T2 F2
        rw [hne, e2, g_v, b_X5_readSettings_83 I2.2.2.2.1.1]
        have m3 : Mo (fun b k => b = p ∧ k = 5) s2 (a_setI s2 p 5 (nI (k_num B (k_tok B E (k_tok B E q).2.2)))) := Mo.set ⟨rfl, rfl⟩
        have I3 : RI P σ0 p B E (a_setI s2 p 5 (nI (k_num B (k_tok B E (k_tok B E q).2.2)))) (z_cnt Y 5 (k_num B (k_tok B E (k_tok B E q).2.2))) (k_tok B E (k_tok B E q).2.2).2.2 := by
          obtain ⟨j1, j2, j3, j4, j5, j6, j7⟩ := I2
          refine ⟨j1.tr (m3.mono fun b k z => .inl (.inl z.1)), j2.mo m3 (fun k _ => by omega) (fun k => by omega), j3.mo m3 (by omega) (by omega), ?_, z_tol_vd j5 (k_ne_none hne).2.2, m3.sh j6, by unfold Wt; rw [m3.I (by omega)]; exact j7⟩
          exact ⟨m3.pa j4.1, j4.2.1.mo m3 (by omega) (by omega) (fun k _ => by omega), j4.2.2.1.mo m3 (by omega) (by omega) (fun k _ => by omega), j4.2.2.2.1.mo m3 (by omega) (by omega) (fun k _ => by omega), j4.2.2.2.2.1.mo m3 (by omega) (by omega) (fun k _ => by omega), (m3.I (by omega)).trans j4.2.2.2.2.2.1, a_I_at, (m3.I (by omega)).trans j4.2.2.2.2.2.2.2⟩
        exact ⟨_, fin _ _ _ I3, I3.1, I3⟩
      · have hh := m2.sh I1.2.2.2.2.2.1
        rw [hne, e2, g_v, b_X5_readSettings_83 (m2.pa I1.2.2.2.1.1)]
        have m3 : Mo (fun b k => b = p ∧ k = 5) s2 (a_setI s2 p 5 (-1)) := Mo.set ⟨rfl, rfl⟩
        exact ⟨_, bad86 _ _ (m3.sh hh) (F2.mo m3 (by omega) (by omega)), (I1.1.tr (m2.mono fun b k z => .inr (Sr.st z))).tr (m3.mono fun b k z => .inl (.inl z.1)), F2.mo m3 (by omega) (by omega)⟩
  -- the second one
  have p24 : ∀ s Y q, RI P σ0 p B E s Y q → RO (b_R (a_call a_tab P (d - 1)) kX5_readSettings [] (24, [some (.ref 223), some (.ref 220), some (.ref p)], [], s)) (SL p) σ0 (match g_opt B E 4 1 6 (fun n => z_cnt Y 4 n) Y q with
    | .inl e => .inl e
    | .inr r2 => g_opt B E 5 0 99999 (fun n => z_cnt r2.1 5 n) r2.1 r2.2) (fun r σ' => RI P σ0 p B E σ' r.1 r.2) := by
    intro s Y q I
    obtain ⟨i1, i2, i3, i4, i5, i6, i7⟩ := id I
    rw [b_X5_readSettings_24 i6, s_failed (by omega) i6 i3, g_v, b_X5_readSettings_28 i6, if_pos (by decide), s_isW H (by omega) i6 i2 (by decide) (by decide), g_v, b_X5_readSettings_37 i6]
    unfold g_opt
    cases hk : k_is B (k_tok B E q) (q_txt 4) with
    | false =>
      rw [if_pos (by decide), if_neg Bool.false_ne_true]
      exact p55 s Y q I
    | true =>
      obtain ⟨s1, e1, m1, T1⟩ := s_adv (P := P) (d := d - 1) H (by omega) i6 i2
      have I1 := I.step hp m1 (fun b k z => z.sr) T1 (i3.mo m1 (by unfold S3; omega) (by unfold S3; omega))
      rw [if_neg (by decide), if_pos rfl, e1, g_n, b_X5_readSettings_44 I1.2.2.2.2.2.1]
      unfold g_num
      rcases s_takeNumber (P := P) (d := d - 1) H (by omega) I1.2.2.2.2.2.1 T1 I1.2.2.1 (lo := 1) (hi := 6) (by decide) (by decide) with ⟨hne, s2, e2, m2, T2, F2⟩ | ⟨c, hne, hc, s2, e2, m2, T2, F2⟩
      · have I2 := I1.step hp m2 (fun b k z => Sr.st z) T2 F2
        rw [hne, e2, g_v, b_X5_readSettings_52 I2.2.2.2.1.1]
        have m3 : Mo (fun b k => b = p ∧ k = 4) s2 (a_setI s2 p 4 (nI (k_num B (k_tok B E (k_tok B E q).2.2)))) := Mo.set ⟨rfl, rfl⟩
        refine p55 _ (z_cnt Y 4 (k_num B (k_tok B E (k_tok B E q).2.2))) (k_tok B E (k_tok B E q).2.2).2.2 ?_
        obtain ⟨j1, j2, j3, j4, j5, j6, j7⟩ := I2
        refine ⟨j1.tr (m3.mono fun b k z => .inl (.inl z.1)), j2.mo m3 (fun k _ => by omega) (fun k => by omega), j3.mo m3 (by omega) (by omega), ?_, z_most_vd j5 (k_ne_none hne).2.1 (k_ne_none hne).2.2, m3.sh j6, by unfold Wt; rw [m3.I (by omega)]; exact j7⟩
        exact ⟨m3.pa j4.1, j4.2.1.mo m3 (by omega) (by omega) (fun k _ => by omega), j4.2.2.1.mo m3 (by omega) (by omega) (fun k _ => by omega), j4.2.2.2.1.mo m3 (by omega) (by omega) (fun k _ => by omega), j4.2.2.2.2.1.mo m3 (by omega) (by omega) (fun k _ => by omega), a_I_at, (m3.I (by omega)).trans j4.2.2.2.2.2.2.1, (m3.I (by omega)).trans j4.2.2.2.2.2.2.2⟩
      · have hh := m2.sh I1.2.2.2.2.2.1
        rw [hne, e2, g_v, b_X5_readSettings_52 (m2.pa I1.2.2.2.1.1)]
        have m3 : Mo (fun b k => b = p ∧ k = 4) s2 (a_setI s2 p 4 (-1)) := Mo.set ⟨rfl, rfl⟩
        exact ⟨_, bad55 _ _ (m3.sh hh) (F2.mo m3 (by omega) (by omega)), (I1.1.tr (m2.mono fun b k z => .inr (Sr.st z))).tr (m3.mono fun b k z => .inl (.inl z.1)), F2.mo m3 (by omega) (by omega)⟩
  obtain ⟨i1, i2, i3, i4, i5, i6, i7⟩ := id I
  rw [n_X5_readSettings (by omega), b_X5_readSettings_0 i6, s_isW H (by omega) i6 i2 (by decide) (by decide), g_v, b_X5_readSettings_6 i6]
  unfold g_sets
  cases hk : k_is B (k_tok B E q) (q_txt 3) with
  | false =>
    have ho : g_opt B E 3 1 6 (fun n => z_brs X n) X q = .inr (X, q) := by unfold g_opt; rw [hk, if_neg Bool.false_ne_true]
    rw [if_pos (by decide), ho]
    exact p24 σ X q I
  | true =>
    obtain ⟨s1, e1, m1, T1⟩ := s_adv (P := P) (d := d - 1) H (by omega) i6 i2
    have I1 := I.step hp m1 (fun b k z => z.sr) T1 (i3.mo m1 (by unfold S3; omega) (by unfold S3; omega))
    rw [if_neg (by decide), e1, g_n, b_X5_readSettings_13 I1.2.2.2.2.2.1]
    rcases s_takeNumber (P := P) (d := d - 1) H (by omega) I1.2.2.2.2.2.1 T1 I1.2.2.1 (lo := 1) (hi := 6) (by decide) (by decide) with ⟨hne, s2, e2, m2, T2, F2⟩ | ⟨c, hne, hc, s2, e2, m2, T2, F2⟩
    · have I2 := I1.step hp m2 (fun b k z => Sr.st z) T2 F2
      obtain ⟨s3, e3, m3, T3⟩ := s_setBrushes (P := P) (d := d - 1) (p := p) (by omega) I2.2.2.2.1.1 I2.2.2.2.1.2.2.2.1.2.1 (n := k_num B (k_tok B E (k_tok B E q).2.2)) (k_ne_none hne).2.2 (.inl rfl)
      have ho : g_opt B E 3 1 6 (fun n => z_brs X n) X q = .inr (z_brs X (k_num B (k_tok B E (k_tok B E q).2.2)), (k_tok B E (k_tok B E q).2.2).2.2) := by unfold g_opt g_num; rw [hk, if_pos rfl, hne]
      rw [ho, e2, g_v, b_X5_readSettings_21 I2.2.2.2.1.1, e3, g_n]
      refine p24 s3 (z_brs X (k_num B (k_tok B E (k_tok B E q).2.2))) (k_tok B E (k_tok B E q).2.2).2.2 ?_
      obtain ⟨j1, j2, j3, j4, j5, j6, j7⟩ := I2
      exact ⟨j1.tr (m3.mono fun b k z => .inl (by unfold Sp; omega)), j2.mo m3 (fun k _ => by omega) (fun k => by omega), j3.mo m3 (by omega) (by omega), j4.up2 m3 (f := fun _ _ => 0) T3, z_brs_vd j5 (k_ne_none hne).2.1 (k_ne_none hne).2.2, m3.sh j6, by unfold Wt; rw [m3.I (by omega)]; exact j7⟩
    · have hh := m2.sh I1.2.2.2.2.2.1
      obtain ⟨s3, e3, m3, T3⟩ := s_setBrushes (P := P) (d := d - 1) (p := p) (by omega) (m2.pa I1.2.2.2.1.1) (by rw [m2.I (by unfold St; omega)]; exact I1.2.2.2.1.2.2.2.1.2.1) (n := 0) (Nat.zero_le _) (x := -1) (.inr ⟨rfl, rfl⟩)
      have ho : g_opt B E 3 1 6 (fun n => z_brs X n) X q = .inl (c, (k_tok B E (k_tok B E q).2.2).2.1) := by unfold g_opt g_num; rw [hk, if_pos rfl, hne]
      rw [ho, e2, g_v, b_X5_readSettings_21 (m2.pa I1.2.2.2.1.1), e3, g_n]
      exact ⟨_, bad24 _ _ (m3.sh hh) (F2.mo m3 (by omega) (by omega)), (I1.1.tr (m2.mono fun b k z => .inr (Sr.st z))).tr (m3.mono fun b k z => .inl (by unfold Sp; omega)), F2.mo m3 (by omega) (by omega)⟩
theorem s_readTube (H : Pm P) (hd : 5 ≤ d) (hp : p + 8 < 220) {σ0 : aSt} (I : RI P σ0 p B E σ X q) :
    RO (a_call a_tab P d 70 [.ref 223, .ref 220, .ref p] σ) (SL p) σ0 (g_tube X B E q) (fun r σ' => RI P σ0 p B E σ' r.1 r.2) := by
  obtain ⟨i1, i2, i3, i4, i5, i6, i7⟩ := id I
  have h20 := i5.1
  rw [n_X5_readTube (by omega), b_X5_readTube_0 i4.1, s_isFull (by omega) i4.2.1 (by omega), g_v, b_X5_readTube_7 i6]
  unfold g_tube
  by_cases c20 : 20 ≤ X.1 0
  · obtain ⟨s1, e1, m1, T1, F1⟩ := s_fail (P := P) (d := d - 1) (by omega) i6 i2 i3 (c := 3) (by decide) (by decide)
    rw [if_pos c20, decide_eq_true (by omega : 260 < (X.1 0 + 1) * 13), if_neg (by decide), e1, g_v, b_X5_readTube_15]
    exact ⟨s1, b_gd_t (by decide), i1.tr (m1.mono fun b k z => .inr z.sr), F1⟩
  rw [if_neg c20, decide_eq_false (by omega : ¬ 260 < (X.1 0 + 1) * 13), if_pos (by decide)]
  obtain ⟨s1, e1, m1, T1⟩ := s_adv (P := P) (d := d - 1) H (by omega) i6 i2
  have I1 := I.step hp m1 (fun b k z => z.sr) T1 (i3.mo m1 (by unfold S3; omega) (by unfold S3; omega))
  rw [e1, g_n, b_X5_readTube_20 I1.2.2.2.2.2.1]
  obtain ⟨a, ha⟩ : ∃ a, a = (k_tok B E q).2.2 := ⟨_, rfl⟩
  rw [← ha] at T1 I1 ⊢
  rcases s_checkFreeName (P := P) (d := d - 1) (by omega) I1.2.2.2.2.2.1 hp I1.2.2.2.1 i5 T1 I1.2.2.1 with ⟨g2, k1, k8, s2, e2, m2, T2, F2⟩ | ⟨e, g2, s2, e2, m2, F2⟩
  rotate_left
  · rw [g2, e2, g_v, b_X5_readTube_26 (I1.2.2.2.1.sr hp m2 (fun b k z => z)).1, if_pos (by decide)]
    exact ⟨s2, rfl, I1.1.tr (m2.mono fun b k z => .inr z), F2⟩
  have hVn := k_n8_vn (B := B) (E := E) (q := a) k1 k8
  have I2 := I1.step hp m2 (fun b k z => z) T2 F2
  rw [g2, e2, g_v, b_X5_readTube_26 I2.2.2.2.1.1, if_neg (by decide)]
  obtain ⟨j1, j2, j3, j4, j5, j6, j7⟩ := id I2
  obtain ⟨s3, e3, m3, T3⟩ := s_addRow (P := P) (d := d - 1) (by omega) j4.2.1 (by omega)
  have k3 : Mo (SL p) σ0 s3 := j1.tr (m3.mono fun b k z => .inl (by unfold Sp; omega))
  have h3 := m3.sh j6
  have T3' : TG s3 B E a := j2.mo m3 (fun k _ => by omega) (fun k => by omega)
  have F3' : EF s3 none := j3.mo m3 (by omega) (by omega)
  rw [e3, g_v, b_X5_readTube_38 h3 (m3.pa j4.1)]
  obtain ⟨s4, e4, m4, N4⟩ := s_name (P := P) (d := d - 1) (by omega) h3 T3'
  have h4 := m4.sh h3
  have T4 := T3.mo m4 (by omega) (by omega) (fun k _ => by omega)
  rw [e4, g_v, b_X5_readTube_48 (m4.pa (m3.pa j4.1))]
  obtain ⟨s5, e5, m5, T5⟩ := s_setName (P := P) (d := d - 1) (by omega) h4 T4 (r := X.1 0) (Nat.lt_succ_self _) (by decide) (by omega)
  have h5 := m5.sh h4
  rw [e5, g_n, b_X5_readTube_51 h5]
  have TG5 : TG s5 B E a := (T3'.mo m4 (fun k _ => by omega) (fun k => by omega)).mo m5 (fun k _ => by omega) (fun k => by omega)
  have F5 : EF s5 none := (F3'.mo m4 (by omega) (by omega)).mo m5 (by omega) (by omega)
  obtain ⟨s6, e6, m6, T6⟩ := s_adv (P := P) (d := d - 1) H (by omega) h5 TG5
  have h6 := m6.sh h5
  have F6 : EF s6 none := F5.mo m6 (by unfold S3; omega) (by unfold S3; omega)
  rw [e6, g_n, b_X5_readTube_55]
  -- the row so far
  have mA : Mo (fun b k => (b = p + 2 ∨ (b = p + 1 ∧ k = 2)) ∨ Sr b k) s2 s6 := ((m3.mono fun b k z => .inl z).tr (m4.mono fun b k z => .inr (.inl z))).tr ((m5.mono fun b k z => .inl (.inl z)).tr (m6.mono fun b k z => .inr z.sr))
  have C6 : CP s6 p (z_row X (fun k => if k < 8 then k_n8 B (k_tok B E a) k else 0)) := by
    refine ⟨mA.pa j4.1, ?_, j4.2.2.1.mo mA (by unfold Sr St; omega) (by unfold Sr St; omega) (fun k _ => by unfold Sr St; omega), j4.2.2.2.1.mo mA (by unfold Sr St; omega) (by unfold Sr St; omega) (fun k _ => by unfold Sr St; omega), j4.2.2.2.2.1.mo mA (by unfold Sr St; omega) (by unfold Sr St; omega) (fun k _ => by unfold Sr St; omega), (mA.I (by unfold Sr St; omega)).trans j4.2.2.2.2.2.1, (mA.I (by unfold Sr St; omega)).trans j4.2.2.2.2.2.2.1, (mA.I (by unfold Sr St; omega)).trans j4.2.2.2.2.2.2.2⟩
    refine (T5.mo m6 (by unfold S3; omega) (by unfold S3; omega) (fun k _ => by unfold S3; omega)).congr fun r hr k hk => ?_
    show _ = nI (if r = X.1 0 then (if k < 8 then k_n8 B (k_tok B E a) k else 0) else X.2 0 r k)
    (try dsimp only)
    by_cases hr0 : r = X.1 0
    · rw [if_pos hr0]
      by_cases hk8 : k < 8
      · rw [if_pos ⟨hr0, hk8⟩, if_pos hk8, if_pos hr0, N4 k hk8]
      · rw [if_neg (fun z => hk8 z.2), if_neg hk8, if_pos hr0]
    · rw [if_neg (fun z => hr0 z.1), if_neg hr0, if_neg hr0]
      rfl
  have k6 : Mo (SL p) σ0 s6 := j1.tr (mA.mono fun b k z => z.elim (fun z => .inl (by unfold Sp; omega)) .inr)
  -- a number of the row
  have setc : ∀ (s : aSt) (row : Nat → Nat) (c v : Nat), c < 13 → Mo (SL p) σ0 s → CP s p (z_row X row) → ∃ s', a_call a_tab P (d - 1) 2 [.ref (p + 1), .int (nI (X.1 0)), .int (nI c), .int (nI v)] s = some (.inl none, s') ∧ Mo (fun b _ => b = p + 2) s s' ∧ CP s' p (z_row X (fun k => if k = c then v else row k)) := by
    intro s row c v hc m C
    obtain ⟨e7, T7⟩ := s_set (P := P) (d := d - 1) (v := nI v) (by omega) C.2.1 (r := X.1 0) (k := c) (Nat.lt_succ_self _) hc
    have m7 : Mo (fun b k => b = p + 2 ∨ (b = p + 1 ∧ k = 2)) s _ := Mo.set (σ := s) (a := p + 2) (k := X.1 0 * 13 + c) (v := nI v) (.inl rfl)
    refine ⟨_, e7, Mo.set rfl, (C.up0 m7 (n := X.1 0 + 1) (f := fun r k => if r = X.1 0 then (if k = c then v else row k) else X.2 0 r k) (T7.congr fun r hr k hk => ?_)).eqv (fun j hj => ?_) (fun r k _ _ => rfl) (fun r k _ _ => rfl) (fun r k _ _ => rfl) (fun r k _ _ => rfl)⟩
    · (try dsimp only)
      by_cases h1 : r = X.1 0
      · rw [if_pos h1]
        by_cases h2 : k = c
        · rw [if_pos ⟨h1, h2⟩, if_pos h2]
        · rw [if_neg (fun z => h2 z.2), if_neg h2]
          show nI (if r = X.1 0 then row k else X.2 0 r k) = _
          rw [if_pos h1]
      · rw [if_neg (fun z => h1 z.1), if_neg h1]
        show nI (if r = X.1 0 then row k else X.2 0 r k) = _
        rw [if_neg h1]
    · show (if j = 0 then X.1 0 + 1 else X.1 j) = (if j = 0 then X.1 0 + 1 else (if j = 0 then X.1 0 + 1 else X.1 j))
      split <;> rfl
  -- red, green, blue
  have rgb : ∀ (i : Nat) (s : aSt) (row : Nat → Nat) (q : Nat) (o : Option Value), i < 3 → Mo (SL p) σ0 s → Sh s → TG s B E q → EF s none → CP s p (z_row X row) →
      (∃ e, g_num B E 0 255 q = .inl e ∧ ∃ s', b_R (a_call a_tab P (d - 1)) kX5_readTube [] (58, [some (.ref 223), some (.ref 220), some (.ref p), some (.int (nI (X.1 0))), some (.int (nI i)), o], [], s) = some (.inl (some (.int (nI 0))), s') ∧ Mo (SL p) σ0 s' ∧ EF s' (some e)) ∨
      (∃ r, g_num B E 0 255 q = .inr r ∧ r.1 ≤ 255 ∧ ∃ s' o', b_R (a_call a_tab P (d - 1)) kX5_readTube [] (58, [some (.ref 223), some (.ref 220), some (.ref p), some (.int (nI (X.1 0))), some (.int (nI i)), o], [], s) = b_R (a_call a_tab P (d - 1)) kX5_readTube [] (58, [some (.ref 223), some (.ref 220), some (.ref p), some (.int (nI (X.1 0))), some (.int (nI (i + 1))), o'], [], s') ∧ Mo (SL p) σ0 s' ∧ Sh s' ∧ TG s' B E r.2 ∧ EF s' none ∧ CP s' p (z_row X (fun k => if k = 8 + i then r.1 else row k))) := by
    intro i s row q o hi m h T F C
    unfold g_num
    rcases s_takeNumber (P := P) (d := d - 1) H (by omega) h T F (lo := 0) (hi := 255) (by decide) (by decide) with ⟨hne, s7, e7, m7, T7, F7⟩ | ⟨c, hne, hc, s7, e7, m7, T7, F7⟩
    · have hle := (k_ne_none hne).2.2
      have h7 := m7.sh h
      have C7 := C.sr hp m7 (fun b k z => Sr.st z)
      obtain ⟨s8, e8, m8, C8⟩ := setc s7 row (8 + i) (k_num B (k_tok B E q)) (by omega) (m.tr (m7.mono fun b k z => .inr (Sr.st z))) C7
      refine .inr ⟨(k_num B (k_tok B E q), (k_tok B E q).2.2), by rw [hne], hle, s8, some (.int (nI (k_num B (k_tok B E q)))), ?_, (m.tr (m7.mono fun b k z => .inr (Sr.st z))).tr (m8.mono fun b k z => .inl (by unfold Sp; omega)), m8.sh h7, T7.mo m8 (fun k _ => by omega) (fun k => by omega), F7.mo m8 (by omega) (by omega), C8⟩
      rw [b_X5_readTube_58 h, if_pos (nIl hi (by decide)), e7, g_v, b_X5_readTube_72 C7.1, if_neg (m1_ne (by omega)), nI_add, e8, g_n, b_X5_readTube_97, nI_add]
    · refine .inl ⟨_, by rw [hne], s7, ?_, m.tr (m7.mono fun b k z => .inr (Sr.st z)), F7⟩
      rw [b_X5_readTube_58 h, if_pos (nIl hi (by decide)), e7, g_v, b_X5_readTube_72 (C.sr hp m7 (fun b k z => Sr.st z)).1, if_pos rfl]
  rcases rgb 0 s6 _ (k_tok B E a).2.2 none (by decide) k6 h6 T6 F6 C6 with ⟨e, ge, s', er, m', F'⟩ | ⟨r1, ge, l1, sa, oa, ea, ma, ha2, Ta, Fa, Ca⟩
  · rw [ge]
    exact ⟨s', er, m', F'⟩
  rw [ge]
  show RO (b_R _ _ _ (58, [_, _, _, _, some (.int (nI 0)), none], [], s6)) _ _ _ _
  rw [ea]
  rcases rgb 1 sa _ r1.2 oa (by decide) ma ha2 Ta Fa Ca with ⟨e, ge, s', er, m', F'⟩ | ⟨r2, ge2, l2, sb, ob, eb, mb, hb2, Tb2, Fb, Cb⟩
  · (try dsimp only)
    rw [ge]
    exact ⟨s', er, m', F'⟩
  (try dsimp only)
  rw [ge2, eb]
  rcases rgb 2 sb _ r2.2 ob (by decide) mb hb2 Tb2 Fb Cb with ⟨e, ge, s', er, m', F'⟩ | ⟨r3, ge3, l3, sc, oc, ec, mc, hc2, Tc, Fc, Cc⟩
  · (try dsimp only)
    rw [ge]
    exact ⟨s', er, m', F'⟩
  (try dsimp only)
  rw [ge3, ec, b_X5_readTube_58 hc2, if_neg (nIn (Nat.le_refl _) (by decide)), s_isNumber (by omega) hc2 Tc, g_v, b_X5_readTube_107 hc2]
  (try dsimp only)
  -- the drops
  have fin : ∀ (s : aSt) (dr q : Nat), dr ≤ 9999 → Mo (SL p) σ0 s → Sh s → TG s B E q → EF s none → CP s p (z_row X (fun k => if k = 8 + 2 then r3.1 else (fun k => if k = 8 + 1 then r2.1 else (fun k => if k = 8 + 0 then r1.1 else (fun k => if k < 8 then k_n8 B (k_tok B E a) k else 0) k) k) k)) → Wt s →
      ∃ s', b_R (a_call a_tab P (d - 1)) kX5_readTube [] (123, [some (.ref 223), some (.ref 220), some (.ref p), some (.int (nI (X.1 0))), some (.int (nI 3)), oc], [.int (nI dr)], s) = some (.inl (some (.int (nI 1))), s') ∧ Mo (SL p) σ0 s' ∧ RI P σ0 p B E s' (z_row X (z_trow (k_n8 B (k_tok B E a)) r1.1 r2.1 r3.1 dr)) q := by
    intro s dr q hdr m h T F C W
    obtain ⟨s8, e8, m8, C8⟩ := setc s _ 11 dr (by decide) m C
    have n8 := m.tr (m8.mono (S' := SL p) fun b k z => .inl (by unfold Sp; omega))
    refine ⟨s8, ?_, n8, n8, T.mo m8 (fun k _ => by omega) (fun k => by omega), F.mo m8 (by omega) (by omega), C8.eqv (fun j _ => rfl) (fun r k hr hk => ?_) (fun r k _ _ => rfl) (fun r k _ _ => rfl) (fun r k _ _ => rfl), z_row_vd i5 (by omega) hVn l1 l2 l3 hdr, m8.sh h, by unfold Wt; rw [m8.I (by omega)]; exact W⟩
    · rw [b_X5_readTube_123 C.1, e8, g_n, b_X5_readTube_137, if_neg (m1_ne (by omega)), b_X5_readTube_148]
      exact b_gd_t (by decide)
    · show (if r = X.1 0 then z_trow (k_n8 B (k_tok B E a)) r1.1 r2.1 r3.1 dr k else X.2 0 r k) = (if r = X.1 0 then (if k = 11 then dr else if k = 8 + 2 then r3.1 else if k = 8 + 1 then r2.1 else if k = 8 + 0 then r1.1 else if k < 8 then k_n8 B (k_tok B E a) k else 0) else X.2 0 r k)
      by_cases hr0 : r = X.1 0
      · rw [if_pos hr0, if_pos hr0]
        unfold z_trow
        by_cases h8 : k < 8
        · rw [if_pos h8, if_neg (by omega), if_neg (by omega), if_neg (by omega), if_neg (by omega), if_pos h8]
        · rw [if_neg h8]
          obtain rfl | rfl | rfl | rfl | rfl : k = 8 ∨ k = 9 ∨ k = 10 ∨ k = 11 ∨ k = 12 := by omega
          all_goals rfl
      · rw [if_neg hr0, if_neg hr0]
  have Wc : Wt sc := by
    unfold Wt at i7 ⊢
    have hW : ∀ s, Mo (SL p) σ0 s → a_I s 224 1 = a_I σ0 224 1 := fun s m => m.I (by unfold SL Sp Sr St; omega)
    rw [hW sc mc, ← hW σ i1]
    exact i7
  by_cases c2 : (k_tok B E r3.2).1 = 2
  · rw [c2, if_neg (by decide), if_pos rfl]
    rcases s_takeNumber (P := P) (d := d - 1) H (by omega) hc2 Tc Fc (lo := 0) (hi := 9999) (by decide) (by decide) with ⟨hne, s7, e7, m7, T7, F7⟩ | ⟨c, hne, hc, s7, e7, m7, T7, F7⟩
    · have hg : g_num B E 0 9999 r3.2 = .inr (k_num B (k_tok B E r3.2), (k_tok B E r3.2).2.2) := by unfold g_num; rw [hne]
      rw [hg, e7, g_v, b_X5_readTube_118]
      obtain ⟨s', e', m', I'⟩ := fin s7 (k_num B (k_tok B E r3.2)) _ (k_ne_none hne).2.2 (mc.tr (m7.mono fun b k z => .inr (Sr.st z))) (m7.sh hc2) T7 F7 (Cc.sr hp m7 (fun b k z => Sr.st z)) (by unfold Wt; rw [m7.I (by unfold St; omega)]; exact Wc)
      exact ⟨s', e', m', I'⟩
    · have hg : g_num B E 0 9999 r3.2 = .inl (c, (k_tok B E r3.2).2.1) := by unfold g_num; rw [hne]
      have C7 := Cc.sr hp m7 (fun b k z => Sr.st z)
      obtain ⟨e8, T8⟩ := s_set (P := P) (d := d - 1) (v := -1) (by omega) C7.2.1 (r := X.1 0) (k := 11) (Nat.lt_succ_self _) (by decide)
      have m8 : Mo (fun b _ => b = p + 2) s7 _ := Mo.set (σ := s7) (a := p + 2) (k := X.1 0 * 13 + 11) (v := -1) rfl
      rw [hg, e7, g_v, b_X5_readTube_118, b_X5_readTube_123 C7.1, e8, g_n, b_X5_readTube_137, if_pos rfl, b_X5_readTube_148]
      exact ⟨_, b_gd_t (by decide), (mc.tr (m7.mono fun b k z => .inr (Sr.st z))).tr (m8.mono fun b k z => .inl (by unfold Sp; omega)), F7.mo m8 (by omega) (by omega)⟩
  · rw [beq_false_of_ne c2, if_pos (by decide), if_neg c2]
    obtain ⟨s', e', m', I'⟩ := fin sc 100 r3.2 (by decide) mc hc2 Tc Fc Cc Wc
    exact ⟨s', e', m', I'⟩
theorem s_readMix (H : Pm P) (hd : 6 ≤ d) (hp : p + 8 < 220) {σ0 : aSt} (I : RI P σ0 p B E σ X q) :
    RO (a_call a_tab P d 71 [.ref 223, .ref 220, .ref p] σ) (SL p) σ0 (g_mix X B E q) (fun r σ' => RI P σ0 p B E σ' r.1 r.2) := by
  obtain ⟨i1, i2, i3, i4, i5, i6, i7⟩ := id I
  have h20 := i5.1
  rw [n_X5_readMix (by omega), b_X5_readMix_0 i6, s_isW H (by omega) i6 i2 (by decide) (by decide), g_v, b_X5_readMix_6 i6 i4.1]
  unfold g_mix
  cases hk : k_is B (k_tok B E q) (q_txt 6) with
  | false =>
    obtain ⟨s1, e1, m1, T1, F1⟩ := s_fail (P := P) (d := d - 1) (by omega) i6 i2 i3 (c := 1) (by decide) (by decide)
    rw [if_pos (by decide), if_neg Bool.false_ne_true, e1, g_v, b_X5_readMix_14]
    exact ⟨s1, b_gd_t (by decide), i1.tr (m1.mono fun b k z => .inr z.sr), F1⟩
  | true =>
  rw [if_neg (by decide), if_pos rfl, s_isFull (by omega) i4.2.2.1 (by omega), g_v, b_X5_readMix_22 i6]
  by_cases c20 : 20 ≤ X.1 1
  · obtain ⟨s1, e1, m1, T1, F1⟩ := s_fail (P := P) (d := d - 1) (by omega) i6 i2 i3 (c := 3) (by decide) (by decide)
    rw [if_pos c20, decide_eq_true (by omega : 340 < (X.1 1 + 1) * 17), if_neg (by decide), e1, g_v, b_X5_readMix_30]
    exact ⟨s1, b_gd_t (by decide), i1.tr (m1.mono fun b k z => .inr z.sr), F1⟩
  rw [if_neg c20, decide_eq_false (by omega : ¬ 340 < (X.1 1 + 1) * 17), if_pos (by decide)]
  obtain ⟨s1, e1, m1, T1⟩ := s_adv (P := P) (d := d - 1) H (by omega) i6 i2
  have I1 := I.step hp m1 (fun b k z => z.sr) T1 (i3.mo m1 (by unfold S3; omega) (by unfold S3; omega))
  rw [e1, g_n, b_X5_readMix_35 I1.2.2.2.2.2.1]
  obtain ⟨a, ha⟩ : ∃ a, a = (k_tok B E q).2.2 := ⟨_, rfl⟩
  rw [← ha] at T1 I1 ⊢
  rcases s_checkFreeName (P := P) (d := d - 1) (by omega) I1.2.2.2.2.2.1 hp I1.2.2.2.1 i5 T1 I1.2.2.1 with ⟨g2, k1, k8, s2, e2, m2, T2, F2⟩ | ⟨e, g2, s2, e2, m2, F2⟩
  rotate_left
  · rw [g2, e2, g_v, b_X5_readMix_41 (m2.sh I1.2.2.2.2.2.1), if_pos (by decide), b_X5_readMix_61]
    exact ⟨s2, rfl, I1.1.tr (m2.mono fun b k z => .inr z), F2⟩
  have hVn := k_n8_vn (B := B) (E := E) (q := a) k1 k8
  have I2 := I1.step hp m2 (fun b k z => z) T2 F2
  obtain ⟨j1, j2, j3, j4, j5, j6, j7⟩ := id I2
  rw [g2, e2, g_v, b_X5_readMix_41 j6, if_neg (by decide)]
  (try dsimp only)
  rcases s_startMix (P := P) (d := d - 1) H (by omega) j6 j7 T2 F2 with ⟨g3, s3, e3, m3, T3, F3, D3⟩ | ⟨g3, s3, e3, m3, F3⟩
  rotate_left
  · rw [g3, if_neg Bool.false_ne_true, e3, g_v, b_X5_readMix_49 (m3.sh j6), if_pos (by decide), b_X5_readMix_61]
    exact ⟨s3, rfl, j1.tr (m3.mono fun b k z => .inr z), F3⟩
  have I3 := I2.step hp m3 (fun b k z => z) T3 F3
  rw [g3, if_pos rfl, e3, g_v, b_X5_readMix_49 I3.2.2.2.2.2.1, if_neg (by decide)]
  have hr := s_readParts (P := P) (d := d - 1) H (by omega) I3.2.2.2.2.2.1 hp I3.2.2.2.1 j5 T3 F3 D3
  cases hg : g_parts X B E 5 [] (k_tok B E (k_tok B E a).2.2).2.2 with
  | inl e =>
    rw [hg] at hr
    obtain ⟨s4, e4, m4, F4⟩ := hr
    rw [e4, g_v, b_X5_readMix_58 (I3.2.2.2.1.sr hp m4 (fun b k z => z)).1, if_pos (by decide), b_X5_readMix_61]
    exact ⟨s4, rfl, I3.1.tr (m4.mono fun b k z => .inr z), F4⟩
  | inr r =>
    rw [hg] at hr
    obtain ⟨s4, e4, m4, T4, F4, D4, A4, L4⟩ := hr
    have I4 := I3.step hp m4 (fun b k z => z) T4 F4
    obtain ⟨l1, l2, l3, l4, l5, l6, l7⟩ := id I4
    rw [e4, g_v, b_X5_readMix_58 l4.1, if_neg (by decide)]
    obtain ⟨s5, e5, m5, T5⟩ := s_addRow (P := P) (d := d - 1) (by omega) l4.2.2.1 (by omega)
    have D5 : TD s5 (k_n8 B (k_tok B E a)) r.1 := D4.mo m5 (by omega) (by omega) (fun k _ => by omega)
    obtain ⟨s6, e6, m6, T6⟩ := s_copyRowO (P := P) (d := d - 1) (by omega) T5 D5 (r := X.1 1) (fr := 0) (Nat.lt_succ_self _) (by decide) (Nat.le_refl _) (by omega) (by omega)
    have mB : Mo (fun b k => b = p + 4 ∨ (b = p + 3 ∧ k = 2)) s4 s6 := m5.tr (m6.mono fun b k z => .inl z)
    rw [e5, g_v, b_X5_readMix_74 (m5.sh l6) (m5.pa l4.1), e6, g_n, b_X5_readMix_82]
    refine ⟨s6, rfl, l1.tr (mB.mono fun b k z => .inl (by unfold Sp; omega)), l1.tr (mB.mono fun b k z => .inl (by unfold Sp; omega)), l2.mo mB (fun k _ => by omega) (fun k => by omega), l3.mo mB (by omega) (by omega), ?_, z_addM_vd j5 (by omega) hVn A4 L4, mB.sh l6, by unfold Wt; rw [mB.I (by omega)]; exact l7⟩
    exact l4.up1 mB (T6.congr fun r' hr' k hk => by
      (try dsimp only)
      by_cases h1 : r' = X.1 1
      · rw [if_pos h1, if_pos h1]
      · rw [if_neg h1, if_neg h1, if_neg h1]
        rfl)
/-- each clause takes at least one byte -/
theorem k_tok_adv {q : Nat} (h : (k_tok B E q).1 ≠ 0) (hq : q ≤ E) : q < (k_tok B E q).2.2 := by
  have h1 := k_tok_lt h
  have h2 := k_tok_le (B := B) hq
  omega
theorem s_readPalette (H : Pm P) (hd : 7 ≤ d) (hp : p + 8 < 220) (h : Sh σ) (ha : Pa σ p) (W : Wd σ p) (Wt0 : Wt σ) (T : TG σ B E 0) (F : EF σ none) :
    RO (a_call a_tab P d 68 [.ref 223, .ref 220, .ref p] σ) (SL p) σ (g_load B E) (fun X σ' => EF σ' none ∧ CP σ' p X ∧ Vd X) := by
  obtain ⟨s1, e1, m1, C1⟩ := s_reset (P := P) (d := d - 1) (p := p) (by omega) ha W
  have I1 : RI P σ p B E s1 z_p0 0 := ⟨m1.mono fun b k z => .inl z, T.mo m1 (fun k _ z => by have := z.in; omega) (fun k z => by have := z.in; omega), F.mo m1 (fun z => by have := z.in; omega) (fun z => by have := z.in; omega), C1, z_p0_vd, m1.sh h, by unfold Wt; rw [m1.I (fun z => by have := z.in; omega)]; exact Wt0⟩
  rw [n_X5_readPalette (by omega), b_X5_readPalette_0 ha, e1, g_n, b_X5_readPalette_4 I1.2.2.2.2.2.1]
  unfold g_load
  rcases s_takeWord (P := P) (d := d - 1) H (by omega) I1.2.2.2.2.2.1 I1.2.1 I1.2.2.1 (s := 1) (by decide) (by decide) with ⟨g2, s2, e2, m2, T2, F2⟩ | ⟨g2, s2, e2, m2, T2, F2⟩
  rotate_left
  · rw [g2, if_neg Bool.false_ne_true, e2, g_v, b_X5_readPalette_10 (m2.sh I1.2.2.2.2.2.1), if_pos (by decide), b_X5_readPalette_31]
    exact ⟨s2, rfl, I1.1.tr (m2.mono fun b k z => .inr (Sr.st z)), F2⟩
  have I2 := I1.step hp m2 (fun b k z => Sr.st z) T2 F2
  rw [g2, if_pos rfl, e2, g_v, b_X5_readPalette_10 I2.2.2.2.2.2.1, if_neg (by decide)]
  have hs := s_readSettings (P := P) (d := d - 1) H (by omega) hp I2
  cases hg : g_sets z_p0 B E (k_tok B E 0).2.2 with
  | inl e =>
    rw [hg] at hs
    obtain ⟨s3, e3, m3, F3⟩ := hs
    rw [e3, g_v, b_X5_readPalette_19 (m3.sh h), if_pos (by decide), b_X5_readPalette_31]
    exact ⟨s3, rfl, m3, F3⟩
  | inr r =>
  rw [hg] at hs
  obtain ⟨s3, e3, m3, I3⟩ := hs
  (try dsimp only)
  rw [e3, g_v, b_X5_readPalette_19 I3.2.2.2.2.2.1, if_neg (by decide)]
  rcases s_takeSign (P := P) (d := d - 1) H (by omega) I3.2.2.2.2.2.1 I3.2.1 I3.2.2.1 (c := 59) (by decide) with ⟨g4, s4, e4, m4, T4, F4⟩ | ⟨g4, s4, e4, m4, T4, F4⟩
  rotate_left
  · rw [g4, if_neg Bool.false_ne_true, e4, g_v, b_X5_readPalette_28, if_pos (by decide), b_X5_readPalette_31]
    exact ⟨s4, rfl, I3.1.tr (m4.mono fun b k z => .inr (Sr.st z)), F4⟩
  have I4 := I3.step hp m4 (fun b k z => Sr.st z) T4 F4
  rw [g4, if_pos rfl, e4, g_v, b_X5_readPalette_28, if_neg (by decide)]
  -- the clauses
  have loop : ∀ f i X q s o, i + f = 901 → i ≤ q → RI P σ p B E s X q → RO (b_R (a_call a_tab P (d - 1)) kX5_readPalette [] (35, [some (.ref 223), some (.ref 220), some (.ref p), some (.int (nI i)), o], [], s)) (SL p) σ (g_cl B E f X q) (fun X σ' => EF σ' none ∧ CP σ' p X ∧ Vd X) := by
    intro f
    induction f with
    | zero =>
      intro i X q s o hi hq I
      have h1 := I.2.1.2.1
      have h2 := I.2.1.1.2.1
      omega
    | succ f ih =>
      intro i X q s o hi hq I
      obtain ⟨i1, i2, i3, i4, i5, i6, i7⟩ := id I
      have hqE := i2.2.1
      have hE := i2.1.2.1
      unfold g_cl
      -- the end of the text
      have fin : (k_tok B E q).1 = 0 → RO (b_R (a_call a_tab P (d - 1)) kX5_readPalette [] (97, [some (.ref 223), some (.ref 220), some (.ref p), some (.int (nI i)), o], [], s)) (SL p) σ (.inr X) (fun X σ' => EF σ' none ∧ CP σ' p X ∧ Vd X) := by
        intro c0
        rcases s_takeEnd (P := P) (d := d - 1) (by omega) i6 i2 i3 with ⟨c, e5⟩ | ⟨c, -⟩
        · refine ⟨s, ?_, i1, i3, i4, i5⟩
          rw [b_X5_readPalette_97 i6, e5, g_v, b_X5_readPalette_101]
          exact b_gd_t (by decide)
        · exact absurd c0 c
      by_cases c0 : (k_tok B E q).1 = 0
      · rw [if_pos c0]
        by_cases ci : i < 900
        · rw [b_X5_readPalette_35 i6, if_pos (nIl ci (by decide)), s_atEnd (by omega) i6 i2, g_v, b_X5_readPalette_46 i6, c0, if_neg (by decide)]
          exact fin c0
        · rw [b_X5_readPalette_35 i6, if_neg (nIn (by omega) (by omega))]
          exact fin c0
      · have hadv := k_tok_adv c0 hqE
        have ci : i < 900 := by have := (k_tok_le (B := B) hqE).2.2; omega
        rw [if_neg c0, b_X5_readPalette_35 i6, if_pos (nIl ci (by decide)), s_atEnd (by omega) i6 i2, g_v, b_X5_readPalette_46 i6, beq_false_of_ne c0, if_pos (by decide), s_isW H (by omega) i6 i2 (by decide) (by decide), g_v, b_X5_readPalette_55 i6]
        -- behind a clause
        have after : ∀ (s' : aSt) (e : Nat × Nat), Mo (SL p) σ s' → EF s' (some e) → RO (b_R (a_call a_tab P (d - 1)) kX5_readPalette [] (73, [some (.ref 223), some (.ref 220), some (.ref p), some (.int (nI i)), o], [.int (nI 0)], s')) (SL p) σ (.inl e) (fun (X : Pal) σ' => EF σ' none ∧ CP σ' p X ∧ Vd X) := by
          intro s' e m' F'
          refine ⟨s', ?_, m', F'⟩
          rw [b_X5_readPalette_73 (m'.sh h), if_pos (by decide), b_X5_readPalette_89]
        have after2 : ∀ (s' : aSt) (r : Pal × Nat), q ≤ r.2 → RI P σ p B E s' r.1 r.2 → RO (b_R (a_call a_tab P (d - 1)) kX5_readPalette [] (73, [some (.ref 223), some (.ref 220), some (.ref p), some (.int (nI i)), o], [.int (nI 1)], s')) (SL p) σ (if k_sg B (k_tok B E r.2) 59 then g_cl B E f r.1 (k_tok B E r.2).2.2 else .inl (1, (k_tok B E r.2).2.1)) (fun (X : Pal) σ' => EF σ' none ∧ CP σ' p X ∧ Vd X) := by
          intro s' r hr I'
          rw [b_X5_readPalette_73 I'.2.2.2.2.2.1, if_neg (by decide)]
          rcases s_takeSign (P := P) (d := d - 1) H (by omega) I'.2.2.2.2.2.1 I'.2.1 I'.2.2.1 (c := 59) (by decide) with ⟨g5, s5, e5, m5, T5, F5⟩ | ⟨g5, s5, e5, m5, T5, F5⟩
          · have I5 := I'.step hp m5 (fun b k z => Sr.st z) T5 F5
            rw [g5, if_pos rfl, e5, g_v, b_X5_readPalette_86, if_neg (by decide), nI_add]
            exact ih (i + 1) r.1 _ s5 _ (by omega) (by have := k_tok_adv (B := B) (E := E) (q := r.2) (fun z => by unfold k_sg at g5; rw [z] at g5; cases g5) I'.2.1.2.1; omega) I5
          · rw [g5, if_neg Bool.false_ne_true, e5, g_v, b_X5_readPalette_86, if_pos (by decide), b_X5_readPalette_89]
            exact ⟨s5, rfl, I'.1.tr (m5.mono fun b k z => .inr (Sr.st z)), F5⟩
        cases hw : k_is B (k_tok B E q) (q_txt 2) with
        | true =>
          rw [if_neg (by decide), if_pos rfl]
          have hc := s_readTube (P := P) (d := d - 1) H (by omega) hp I
          cases hgc : g_tube X B E q with
          | inl e =>
            rw [hgc] at hc
            obtain ⟨s5, e5, m5, F5⟩ := hc
            rw [e5, g_v, b_X5_readPalette_64]
            exact after s5 e m5 F5
          | inr r =>
            rw [hgc] at hc
            obtain ⟨s5, e5, m5, I5⟩ := hc
            rw [e5, g_v, b_X5_readPalette_64]
            exact after2 s5 r (g_tube_mono hqE hgc) I5
        | false =>
          rw [if_pos (by decide), if_neg Bool.false_ne_true]
          have hc := s_readMix (P := P) (d := d - 1) H (by omega) hp I
          cases hgc : g_mix X B E q with
          | inl e =>
            rw [hgc] at hc
            obtain ⟨s5, e5, m5, F5⟩ := hc
            rw [e5, g_v]
            exact after s5 e m5 F5
          | inr r =>
            rw [hgc] at hc
            obtain ⟨s5, e5, m5, I5⟩ := hc
            rw [e5, g_v]
            exact after2 s5 r (g_mix_mono hqE hgc) I5
  exact loop 901 0 r.1 _ s4 none rfl (Nat.zero_le _) I4
end RDC
