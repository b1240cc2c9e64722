/-! both sides together -/
/-- what a step leaves: the ints in S, the longs and the counts are free -/
def Mz (S : Nat → Nat → Prop) (σ σ' : aSt) : Prop := σ'.1 = σ.1 ∧ σ'.2.2.1 = σ.2.2.1 ∧ a_n σ ≤ a_n σ' ∧ ∀ b k, ¬ S b k → a_I σ' b k = a_I σ b k
def lz (σ σ' : aSt) : aSt := (σ'.1, σ'.2.1, σ'.2.2.1, σ.2.2.2)
section JNT
variable {S T : Nat → Nat → Prop} {σ σ' σ'' : aSt} {X : Pal} {hs : List Pal} {sn : Option Pal} {n : Nat} {B : Nat → Nat} {U : Nat × (Nat → Nat)}
theorem Mz.mo (m : Mz S σ σ') : Mo S σ (lz σ σ') := by
  refine ⟨m.1, ?_, m.2.2.2⟩
  show (σ'.2.2.1, σ.2.2.2) = σ.2.2
  rw [m.2.1]
theorem Mq.z (m : Mq S σ σ') : Mz S σ σ' := ⟨m.1, m.2.1, Nat.le_of_eq (by unfold a_n; rw [m.2.2.1]), m.2.2.2.1⟩
theorem Mo.z (m : Mo S σ σ') : Mz S σ σ' := m.mq.z
theorem Mz.tr (m : Mz S σ σ') (q : Mz S σ' σ'') : Mz S σ σ'' := ⟨q.1.trans m.1, q.2.1.trans m.2.1, Nat.le_trans m.2.2.1 q.2.2.1, fun b k h => (q.2.2.2 b k h).trans (m.2.2.2 b k h)⟩
theorem Mz.mono (m : Mz S σ σ') (h : ∀ b k, S b k → T b k) : Mz T σ σ' := ⟨m.1, m.2.1, m.2.2.1, fun b k z => m.2.2.2 b k fun q => z (h b k q)⟩
theorem Mz.I (m : Mz S σ σ') {b k : Nat} (h : ¬ S b k) : a_I σ' b k = a_I σ b k := m.2.2.2 b k h
theorem Mz.made : Mz S σ (a_made σ) := ⟨rfl, rfl, Nat.le_refl _, fun _ _ _ => rfl⟩
theorem Mz.name : Mz S σ (a_name σ) := ⟨rfl, rfl, Nat.le_succ _, fun _ _ _ => rfl⟩
theorem Mz.setL {a k : Nat} {v : Int64} : Mz S σ (a_setL σ a k v) := ⟨rfl, rfl, Nat.le_refl _, fun _ _ _ => rfl⟩
theorem Mz.sh (m : Mz S σ σ') (h : Sh σ) : Sh σ' := by
  obtain ⟨a1, a2, a3, a4⟩ := h
  refine ⟨fun q hq => by rw [m.1]; exact a1 q hq, fun q hq => ?_, Nat.le_trans a3 m.2.2.1, fun s h1 h2 => ?_⟩
  · have := a2 q hq
    unfold a_R at *
    rw [m.2.1]
    exact this
  · have := a4 s h1 h2
    unfold a_kd at *
    rw [m.1]
    exact this
theorem KC.z (K : KC σ X hs sn) (m : Mz S σ σ') (hS : ∀ b k, S b k → KP b k) : KC σ' X hs sn := by
  obtain ⟨b1, b2, b3, b4, b5, b6, b7, b8, b9⟩ := K.mo m.mo hS
  refine ⟨m.sh K.1, b2, b3, b4, b5, b6, ?_, b8, b9⟩
  cases sn with
  | none => exact b7
  | some Y => exact b7
theorem KM.z (K : KM σ X hs sn) (m : Mz S σ σ') (hS : ∀ b k, S b k → ¬ Kf b k) : KM σ' X hs sn := by
  obtain ⟨k1, k2, k3, k4, k5⟩ := K.mo m.mo hS
  refine ⟨m.sh K.1, k2, k3, k4, ?_⟩
  cases sn with
  | none => exact k5
  | some Y => exact k5
theorem KB.z (K : KB σ n B) (m : Mz S σ σ') (hS : ∀ b k, S b k → ¬ S1 b k) : KB σ' n B := ⟨(m.I fun z => hS _ _ z (by unfold S1; omega)).trans K.1, K.2.1, fun i hi => ⟨(m.I fun z => hS _ _ z (by unfold S1; omega)).trans (K.2.2 i hi).1, (K.2.2 i hi).2⟩⟩
theorem KBm.z (K : KBm σ n B) (m : Mz S σ σ') (hS : ∀ b k, S b k → ¬ Sb1 b k) : KBm σ' n B := by
  have q := K.mo m.mo hS
  exact q
theorem Fm.z (K : Fm σ U) (m : Mz S σ σ') (hS : ∀ b k, S b k → ¬ Sf b k) : Fm σ' U := by
  have q := K.mo m.mo hS
  exact q
theorem Sb.z (K : Sb σ U.1 U.2) (m : Mz S σ σ') (hS : ∀ b k, S b k → b ≠ 235 ∧ b ≠ 236 ∧ b < 253) : Sb σ' U.1 U.2 := by
  obtain ⟨b, j, e1, e2, e3, e4, e5, e6, e7, e8, e9, e10, e11⟩ := K
  have hb : ∀ k, ¬ S b k := fun k z => by have := hS b k z; omega
  refine ⟨b, j, ?_, ?_, e3, Nat.lt_of_lt_of_le e4 m.2.2.1, ?_, e6, e7, e8, (m.I fun z => (hS _ _ z).1 rfl).trans e9, (m.I fun z => (hS _ _ z).1 rfl).trans e10, fun i hi => ⟨(e11 i hi).1, (m.I (hb i)).trans (e11 i hi).2⟩⟩
  · unfold a_R at *; rw [m.2.1]; exact e1
  · unfold a_kd at *; rw [m.1]; exact e2
  · unfold a_ln at *; rw [m.1]; exact e5
/-- what stands between two calls -/
def JV (σ : aSt) (X : Pal) (hs : List Pal) (sn : Option Pal) (n : Nat) (B : Nat → Nat) (U : Nat × (Nat → Nat)) : Prop := KC σ X hs sn ∧ KM σ X hs sn ∧ KB σ n B ∧ KBm σ n B ∧ Sb σ U.1 U.2 ∧ Fm σ U ∧ a_I σ 220 9 = a_I σ 237 27
def JJ (σ : aSt) : Prop := ∃ X hs sn n B U, JV σ X hs sn n B U
/-- the cells that a question may change -/
def Hz (b k : Nat) : Prop := (229 ≤ b ∧ b ≤ 234) ∨ SM b k
theorem JV.hz (J : JV σ X hs sn n B U) (m : Mz Hz σ σ') : JV σ' X hs sn n B U := by
  obtain ⟨j1, j2, j3, j4, j5, j6, j7⟩ := J
  refine ⟨j1.z m fun b k z => by unfold Hz SM at z; unfold KP; omega, j2.z m fun b k z => by unfold Hz SM at z; unfold Kf; omega, j3.z m fun b k z => by unfold Hz SM at z; unfold S1; omega, j4.z m fun b k z => by unfold Hz SM at z; unfold Sb1; omega, j5.z m fun b k z => by unfold Hz SM at z; omega, j6.z m fun b k z => by unfold Hz SM at z; unfold Sf; omega, ?_⟩
  rw [m.I (by unfold Hz SM; omega), m.I (by unfold Hz SM; omega)]
  exact j7
/-- what every call leaves as it was: the script; and how many cells and slots it may take -/
def GR (σ σ' : aSt) : Prop := (∀ k, a_I σ' 0 k = a_I σ 0 k) ∧ σ'.1 0 = σ.1 0 ∧ a_uc σ' ≤ a_uc σ + 60 ∧ a_us σ' ≤ a_us σ + 6120
/-- the script kept -/
def Gs (σ σ' : aSt) : Prop := (∀ k, a_I σ' 0 k = a_I σ 0 k) ∧ σ'.1 0 = σ.1 0
/-- the same cells and slots -/
def Cz (σ σ' : aSt) : Prop := a_uc σ' = a_uc σ ∧ a_us σ' = a_us σ
theorem Mq.cz (m : Mq S σ σ') : Cz σ σ' := ⟨by unfold a_uc; rw [m.2.2.1], by unfold a_us; rw [m.2.2.1]⟩
theorem Mo.cz (m : Mo S σ σ') : Cz σ σ' := m.mq.cz
theorem GR.of (m : Mz S σ σ') (c : a_uc σ' ≤ a_uc σ + 60 ∧ a_us σ' ≤ a_us σ + 6120) (h : ∀ k, ¬ S 0 k) : GR σ σ' := ⟨fun k => m.I (h k), by rw [m.1], c.1, c.2⟩
/-- a class call behind its wrapper, and the model's -/
def PK (P : aCall) (d : Nat) (τ : aSt) (c : Option (aRes × aSt)) (mid : Nat) (args : List Value) (A : Nat → Prop) (K : Nat → Nat) : Prop :=
  (∃ x τ2 v, A x ∧ c = some (.inr x, a_made τ) ∧ a_call a_tab P d mid args (a_name (a_made τ)) = some (.inl (some (.int v)), τ2) ∧ a_I τ2 237 6 = nI (K x) ∧ JJ τ2 ∧ GR τ τ2) ∨
  ∃ v τ1 τ2, c = some (.inl (some (.int v)), τ1) ∧ Sh τ1 ∧ Gs τ τ1 ∧ a_call a_tab P d mid args (a_setL τ1 252 0 (Int32.toInt64 v)) = some (.inl (some (.int v)), τ2) ∧ a_I τ2 237 6 = nI 0 ∧ a_L τ2 252 0 = Int32.toInt64 v ∧ JJ τ2 ∧ GR τ τ2
/-- thrown on both sides, by the same measure -/
def Hr {T : Type} (A : Nat → Prop) (K : Nat → Nat) (r r' : Nat ⊕ T) : Prop := match r with | .inl x => A x ∧ ∃ y, r' = .inl y ∧ y + 1 = K x | .inr v => r' = .inr v
theorem PK.q {P : aCall} {d mid : Nat} {args : List Value} {c : Option (aRes × aSt)} {r r' : Nat ⊕ Int32} {A : Nat → Prop} {K : Nat → Nat} (J : JV σ X hs sn n B U) (hc : OQ c σ r) (hm : ∀ τ, JV τ X hs sn n B U → OM (a_call a_tab P d mid args τ) τ r') (hr : Hr A K r r') : PK P d σ c mid args A K := by
  cases r with
  | inl x =>
    obtain ⟨hA, y, rfl, hy⟩ := hr
    have m0 : Mz Hz σ (a_name (a_made σ)) := Mz.made.tr Mz.name
    obtain ⟨τ2, e2, m2, f2⟩ := hm _ (J.hz m0)
    have m2' : Mz Hz (a_name (a_made σ)) τ2 := m2.z.mono fun b k z => .inr z
    refine .inl ⟨x, τ2, nI 0, hA, hc, e2, by rw [f2, hy], ⟨X, hs, sn, n, B, U, (J.hz m0).hz m2'⟩, GR.of (m0.tr m2') ?_ fun k => by unfold Hz SM; omega⟩
    obtain ⟨c1, c2⟩ := m2.cz
    rw [c1, c2]
    show a_uc σ + 1 ≤ a_uc σ + 60 ∧ a_us σ + 6 ≤ a_us σ + 6120
    omega
  | inr v =>
    have hr : r' = .inr v := hr
    subst hr
    obtain ⟨τ1, m1, e1⟩ := hc
    have m1' : Mz Hz σ τ1 := m1.z.mono fun b k z => .inl z
    have ms : Mz Hz τ1 (a_setL τ1 252 0 (Int32.toInt64 v)) := Mz.setL
    obtain ⟨τ2, e2, m2, f2⟩ := hm _ ((J.hz m1').hz ms)
    have m2' : Mz Hz (a_setL τ1 252 0 (Int32.toInt64 v)) τ2 := m2.z.mono fun b k z => .inr z
    refine .inr ⟨v, τ1, τ2, e1, m1'.sh J.1.1, ⟨fun k => m1'.I (by unfold Hz SM; omega), by rw [m1'.1]⟩, e2, f2, by rw [m2.L]; exact a_L_at, ⟨X, hs, sn, n, B, U, ((J.hz m1').hz ms).hz m2'⟩, GR.of ((m1'.tr ms).tr m2') ?_ fun k => by unfold Hz SM; omega⟩
    obtain ⟨c1, c2⟩ := m2.cz
    obtain ⟨d1, d2⟩ := m1.cz
    rw [c1, c2]
    show a_uc τ1 ≤ a_uc σ + 60 ∧ a_us τ1 ≤ a_us σ + 6120
    omega
/-- operations -/
def Hc (b k : Nat) : Prop := SO b k
theorem JV.op (J : JV σ X hs sn n B U) {Y : Pal} {hs' : List Pal} (m1 : Mo SO σ σ') (K1 : KC σ' Y hs' sn) {v : Int64} {τ2 : aSt} (m2 : Mo Sm (a_setL σ' 252 0 v) τ2) (K2 : KM τ2 Y hs' sn) : JV τ2 Y hs' sn n B U := by
  obtain ⟨j1, j2, j3, j4, j5, j6, j7⟩ := J
  have ms : Mz Sm σ' (a_setL σ' 252 0 v) := Mz.setL
  have mb : Mz Sm σ' τ2 := ms.tr m2.z
  refine ⟨K1.z mb fun b k z => by unfold Sm at z; unfold KP; omega, K2, (j3.z m1.z fun b k z => by unfold SO at z; unfold S1; omega).z mb fun b k z => by unfold Sm at z; unfold S1; omega, (j4.z m1.z fun b k z => by unfold SO at z; unfold Sb1; omega).z mb fun b k z => by unfold Sm at z; unfold Sb1; omega, (j5.z m1.z fun b k z => by unfold SO at z; omega).z mb fun b k z => by unfold Sm at z; omega, (j6.z m1.z fun b k z => by unfold SO at z; unfold Sf; omega).z mb fun b k z => by unfold Sm at z; unfold Sf; omega, ?_⟩
  rw [mb.I (by unfold Sm; omega), mb.I (by unfold Sm; omega), m1.I (by unfold SO; omega), m1.I (by unfold SO; omega)]
  exact j7
theorem KM.so (K : KM σ X hs sn) (m : Mz SO σ σ') : KM σ' X hs sn := K.z m fun b k z => by unfold SO at z; unfold Kf; omega
theorem PK.o {P : aCall} {d mid : Nat} {args : List Value} {c : Option (aRes × aSt)} {r r' : Nat ⊕ (Int32 × Pal × List Pal)} {A : Nat → Prop} {K : Nat → Nat} (J : JV σ X hs sn n B U) (hc : OO c σ sn r) (hm : ∀ τ, KM τ X hs sn → OR (a_call a_tab P d mid args τ) τ X hs sn r') (hr : Hr A K r r') : PK P d σ c mid args A K := by
  cases r with
  | inl x =>
    obtain ⟨hA, y, rfl, hy⟩ := hr
    have m0 : Mz Hz σ (a_name (a_made σ)) := Mz.made.tr Mz.name
    have J0 := J.hz m0
    obtain ⟨τ2, e2, m2, K2, f2⟩ := hm _ J0.2.1
    have J2 : JV τ2 X hs sn n B U := by
      obtain ⟨j1, j2, j3, j4, j5, j6, j7⟩ := J0
      refine ⟨j1.z m2.z fun b k z => by unfold Sm at z; unfold KP; omega, K2, j3.z m2.z fun b k z => by unfold Sm at z; unfold S1; omega, j4.z m2.z fun b k z => by unfold Sm at z; unfold Sb1; omega, j5.z m2.z fun b k z => by unfold Sm at z; omega, j6.z m2.z fun b k z => by unfold Sm at z; unfold Sf; omega, ?_⟩
      rw [m2.I (by unfold Sm; omega), m2.I (by unfold Sm; omega)]
      exact j7
    have m0' : Mz Sm σ (a_name (a_made σ)) := Mz.made.tr Mz.name
    refine .inl ⟨x, τ2, nI 0, hA, hc, e2, by rw [f2, hy], ⟨X, hs, sn, n, B, U, J2⟩, GR.of (m0'.tr m2.z) ?_ fun k => by unfold Sm; omega⟩
    obtain ⟨c1, c2⟩ := m2.cz
    rw [c1, c2]
    show a_uc σ + 1 ≤ a_uc σ + 60 ∧ a_us σ + 6 ≤ a_us σ + 6120
    omega
  | inr q =>
    have hr : r' = .inr q := hr
    subst hr
    obtain ⟨τ1, e1, m1, K1⟩ := hc
    have ms : Mz SO τ1 (a_setL τ1 252 0 (Int32.toInt64 q.1)) := Mz.setL
    obtain ⟨τ2, e2, m2, K2, f2⟩ := hm (a_setL τ1 252 0 (Int32.toInt64 q.1)) ((J.2.1.so m1.z).so ms)
    have mall : Mz (fun b k => SO b k ∨ Sm b k) σ τ2 := ((m1.z.tr ms).mono fun b k z => .inl z).tr (m2.z.mono fun b k z => .inr z)
    refine .inr ⟨q.1, τ1, τ2, e1, K1.1, ⟨fun k => m1.I (by unfold SO; omega), by rw [m1.z.1]⟩, e2, f2, by rw [m2.L]; exact a_L_at, ⟨q.2.1, q.2.2, sn, n, B, U, J.op m1 K1 m2 K2⟩, GR.of mall ?_ fun k => by unfold SO Sm; omega⟩
    obtain ⟨c1, c2⟩ := m2.cz
    obtain ⟨d1, d2⟩ := m1.cz
    rw [c1, c2]
    show a_uc τ1 ≤ a_uc σ + 60 ∧ a_us τ1 ≤ a_us σ + 6120
    omega
/-- texts -/
theorem PK.t {P : aCall} {d mid : Nat} {args : List Value} {c : Option (aRes × aSt)} {r : Nat ⊕ (Int32 × Int32 × Pal × List Pal × Option Pal)} (J : JV σ X hs sn n B U) (hc : OT c σ r) (hm : ∀ τ, KM τ X hs sn → KBm τ n B → OXq (a_call a_tab P d mid args τ) τ X hs sn r) (hr : ∀ x, r = .inl x → x = 1) : PK P d σ c mid args (fun x => x = 1) (fun _ => 1) := by
  cases r with
  | inl x =>
    have m0 : Mz Hz σ (a_name (a_made σ)) := Mz.made.tr Mz.name
    have J0 := J.hz m0
    obtain ⟨τ2, e2, m2, K2, f2⟩ := hm _ J0.2.1 J0.2.2.2.1
    have m2' : Mz Hz (a_name (a_made σ)) τ2 := m2.z.mono fun b k z => .inr (by unfold SM; omega)
    refine .inl ⟨x, τ2, nI 0, hr x rfl, hc, e2, f2, ⟨X, hs, sn, n, B, U, J0.hz m2'⟩, GR.of (m0.tr m2') ?_ fun k => by unfold Hz SM; omega⟩
    obtain ⟨c1, c2⟩ := m2.cz
    rw [c1, c2]
    show a_uc σ + 1 ≤ a_uc σ + 60 ∧ a_us σ + 6 ≤ a_us σ + 6120
    omega
  | inr q =>
    obtain ⟨τ1, e1, m1, K1, g20, g9⟩ := hc
    obtain ⟨j1, j2, j3, j4, j5, j6, j7⟩ := J
    have ms : Mz (fun b _ => 100 ≤ b ∧ b < 235) σ (a_setL τ1 252 0 (Int32.toInt64 q.1)) := m1.z.tr Mz.setL
    obtain ⟨τ2, e2, m2, K2, f2, f20, f27⟩ := hm (a_setL τ1 252 0 (Int32.toInt64 q.1)) (j2.z ms fun b k z => by unfold Kf; omega) (j4.z ms fun b k z => by unfold Sb1; omega)
    have mall : Mz (fun b k => (100 ≤ b ∧ b < 235) ∨ Sxt b k) σ τ2 := (ms.mono fun b k z => .inl z).tr (m2.z.mono fun b k z => .inr z)
    have mb : Mz Sxt τ1 τ2 := (Mz.setL (S := Sxt) (σ := τ1) (a := 252) (k := 0) (v := Int32.toInt64 q.1)).tr m2.z
    refine .inr ⟨q.1, τ1, τ2, e1, K1.1, ⟨fun k => m1.I (by omega), by rw [m1.z.1]⟩, e2, f2, by rw [m2.2.2.2.2 252 0 (by decide)]; exact a_L_at, ⟨q.2.2.1, q.2.2.2.1, q.2.2.2.2, 0, B, U, K1.z mb fun b k z => by unfold Sxt at z; unfold KP; omega, K2, ⟨(mb.I (by unfold Sxt; omega)).trans g20, by decide, fun i hi => absurd hi (Nat.not_lt_zero _)⟩, ⟨f20, by decide, fun i hi => absurd hi (Nat.not_lt_zero _)⟩, j5.z mall fun b k z => by unfold Sxt at z; omega, j6.z mall fun b k z => by unfold Sxt at z; unfold Sf; omega, by rw [f27, mb.I (by unfold Sxt; omega), g9]⟩, GR.of mall ?_ fun k => by unfold Sxt; omega⟩
    obtain ⟨c1, c2⟩ := m2.cz
    obtain ⟨d1, d2⟩ := m1.cz
    rw [c1, c2]
    show a_uc τ1 ≤ a_uc σ + 60 ∧ a_us τ1 ≤ a_us σ + 6120
    omega
end JNT
