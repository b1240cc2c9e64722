/-! what the check says yes to is as it is asked -/
theorem c_wf_ok {F : aFix} (hF : f_T F = a_strs) {on : Nat} {ini : Bool} {pc : Nat} {i : Instr} {len : Nat} {r : aRef} {z : Int32} {tgt : Nat} (h : c_wf on ini pc i len r z tgt = true) : a_wf F (n_cls on) ini pc i len r z tgt := by
  cases i
  case iconst n => simp only [c_wf, Bool.and_eq_true, decide_eq_true_eq] at h; exact h
  case bipush n => simp only [c_wf, Bool.and_eq_true, decide_eq_true_eq] at h; exact h
  case sipush n => simp only [c_wf, Bool.and_eq_true, decide_eq_true_eq] at h; exact h
  case ldc ix =>
    simp only [c_wf, Bool.and_eq_true, Bool.or_eq_true, decide_eq_true_eq] at h
    refine ⟨h.1, ?_⟩
    rcases h.2 with ⟨h1, h2⟩ | ⟨h1, h2⟩
    · exact Or.inl ⟨h1, okK_ok _ h2⟩
    · exact Or.inr ⟨h1, (okS_ok hF _ h2).1⟩
  case ldc_w ix =>
    simp only [c_wf, Bool.and_eq_true, Bool.or_eq_true, decide_eq_true_eq] at h
    refine ⟨h.1, ?_⟩
    rcases h.2 with ⟨h1, h2⟩ | ⟨h1, h2⟩
    · exact Or.inl ⟨h1, okK_ok _ h2⟩
    · exact Or.inr ⟨h1, (okS_ok hF _ h2).1⟩
  case ldc2_w ix =>
    simp only [c_wf, Bool.and_eq_true, decide_eq_true_eq] at h
    exact ⟨h.1, okL_ok _ h.2⟩
  case iinc a n => simp only [c_wf, Bool.and_eq_true, decide_eq_true_eq] at h; exact h
  case ifCond a off => simp only [c_wf, Bool.and_eq_true, decide_eq_true_eq] at h; exact h
  case if_icmp a off => simp only [c_wf, Bool.and_eq_true, decide_eq_true_eq] at h; exact h
  case ifnull off => simp only [c_wf, Bool.and_eq_true, decide_eq_true_eq] at h; exact h
  case ifnonnull off => simp only [c_wf, Bool.and_eq_true, decide_eq_true_eq] at h; exact h
  case goto off => simp only [c_wf, Bool.and_eq_true, decide_eq_true_eq] at h; exact h
  case tableswitch d lo hi offs =>
    simp only [c_wf, Bool.and_eq_true, decide_eq_true_eq, List.all_eq_true] at h
    exact h
  case getfield ix =>
    simp only [c_wf, Bool.and_eq_true, decide_eq_true_eq] at h
    exact ⟨h.1, okF_ok _ h.2⟩
  case putfield ix =>
    simp only [c_wf, Bool.and_eq_true, decide_eq_true_eq] at h
    exact ⟨h.1, okF_ok _ h.2.1, okP_ok _ h.2.2⟩
  case new ix =>
    simp only [c_wf, Bool.and_eq_true, Bool.or_eq_true, decide_eq_true_eq] at h
    refine ⟨h.1, fun h0 => ?_⟩
    rcases h.2 with h2 | h2
    · exact absurd h0 h2
    · exact okN_ok _ h2
  case newarray at9 =>
    simp only [c_wf, Bool.and_eq_true, Bool.or_eq_true, decide_eq_true_eq] at h
    rcases h.2 with h2 | h2
    · exact ⟨h.1, Or.inl h2, by rw [h2.1]; exact okNA_int⟩
    · exact ⟨h.1, Or.inr (Or.inl h2), by rw [h2.1]; exact okNA_long⟩
  case anewarray ix =>
    simp only [c_wf, Bool.and_eq_true, decide_eq_true_eq] at h
    exact ⟨h.1, okA_ok _ h.2⟩
  case invokespecial ix =>
    simp only [c_wf, Bool.and_eq_true, Bool.or_eq_true, decide_eq_true_eq] at h
    refine ⟨h.1, fun h0 => ?_⟩
    rcases h.2 with h2 | h2
    · exact absurd h0 h2
    · exact ⟨okO_ok _ h2, okO_i.1, okO_i.2⟩
  case getstatic ix =>
    exact absurd (show false = true from h) (by decide)
  all_goals (simp only [c_wf, decide_eq_true_eq] at h; exact h)
theorem wc_1240 : Jvm.Cond.classLink RX7 293 "java/util/NoSuchElementException" ∈ am_ws := am_in (List.mem_append_right _ (List.mem_append_right _ (List.mem_append_right _ (List.mem_append_right _ (List.mem_append_left _ (List.mem_of_getElem? (i := 37) rfl)))))) rfl
theorem wc_1241 : Jvm.Cond.initialized "java/util/NoSuchElementException" ∈ am_ws := am_in (List.mem_append_right _ (List.mem_append_left _ (List.mem_of_getElem? (i := 22) rfl))) rfl
theorem wc_1242 : Jvm.Cond.classLink RX7 306 "java/lang/IllegalArgumentException" ∈ am_ws := am_in (List.mem_append_right _ (List.mem_append_right _ (List.mem_append_right _ (List.mem_append_left _ (List.mem_of_getElem? (i := 33) rfl))))) rfl
theorem wc_1243 : Jvm.Cond.initialized "java/lang/IllegalArgumentException" ∈ am_ws := am_in (List.mem_append_right _ (List.mem_append_left _ (List.mem_of_getElem? (i := 18) rfl))) rfl
def xc_L : List Jvm.Cond := [.castable "java/util/NoSuchElementException" "java/util/NoSuchElementException", .castable "java/lang/IllegalArgumentException" "java/lang/IllegalArgumentException", .declares (Bundle.initS "java/lang/RuntimeException"), .declares (Bundle.initS "java/lang/Exception"), .declares (Bundle.initS "java/lang/Throwable")]
theorem xc_tab : ∀ w ∈ xc_L, w.onTables = true := by decide +kernel
theorem xc_in : ∀ w ∈ xc_L, w ∈ lw_tbl := by decide +kernel
theorem xc_warm {s U : State} (hW : s.WarmedH U.vm) : ∀ w ∈ xc_L, va_Nw w s → va_Nw w U := List.forall_mem_cons.mpr ⟨va_Nw.warmC hW, List.forall_mem_cons.mpr ⟨va_Nw.warmC hW, List.forall_mem_cons.mpr ⟨va_Nw.warmD hW, List.forall_mem_cons.mpr ⟨va_Nw.warmD hW, List.forall_mem_cons.mpr ⟨va_Nw.warmD hW, fun _ h => absurd h List.not_mem_nil⟩⟩⟩⟩⟩
/-- the words of the throws that are not good ones -/
def X_cast (F : aFix) : Prop := ∀ (U : State) (H : Heap), f_X F U H → ∀ w ∈ xc_L, va_Nw w U
def vxl_0 : List Jvm.Cond := vy_atS RX7 297 "java/util/NoSuchElementException" 13 prog_32_method_4_code ["java/lang/RuntimeException", "java/lang/Exception"]
theorem vxg_0 : ∀ w ∈ vxl_0.filter goodWord, w ∈ lw_tbl := by decide +kernel
theorem vxb_0 : ∀ w ∈ vxl_0.filter (fun w => !goodWord w), w ∈ xc_L := by decide +kernel
theorem vxo_0 : ∀ w ∈ vxl_0, vx_ot w = true := by decide +kernel
theorem vxd_0 : decode prog_32_method_4_code 0 = .ok (.aload_n 0, 1) ∧ decode prog_32_method_4_code 1 = .ok (.aload_n 1, 1) ∧ decode prog_32_method_4_code 2 = .ok (.invokespecial 13, 3) ∧ decode prog_32_method_4_code 5 = .ok (.return_, 1) := by decide +kernel
theorem vxf_0 : Bundle.fit "java/util/NoSuchElementException" = true := by decide +kernel
theorem vxn_0 : ∀ n ∈ (["java/lang/RuntimeException", "java/lang/Exception"] : List String), Bundle.fit n = true := by decide +kernel
theorem vxw_0 : ∀ w ∈ (Jvm.Cond.classLink RX7 293 "java/util/NoSuchElementException" :: Jvm.Cond.initialized "java/util/NoSuchElementException" :: vxl_0), vx_ot w = true := List.forall_mem_cons.mpr ⟨by decide +kernel, List.forall_mem_cons.mpr ⟨by decide +kernel, vxo_0⟩⟩
theorem okX_0 {F : aFix} {a b : Nat} (hT9 : f_T F = a_strs) (hC : X_cast F) : t_wfT F qX7_requireTube 18 293 (0, a, b) := ⟨rfl, 295, 297, 19, "no such tube", ["java/lang/RuntimeException", "java/lang/Exception"], 13, prog_32_method_4_code, vxd_0, by rw [hT9]; exact List.mem_of_getElem? (i := 37) rfl, vxf_0, vxn_0, by decide, wc_1240, wc_1241, fun U H av hx hts => vx_hat (L := vxl_0) (B := xc_L) (fun w hw => hts w (am_in (vxg_0 w hw) (List.mem_filter.mp hw).2)) vxb_0 (fun w hw => va_Nw.use (xc_tab w hw) (hC U H hx w hw)), vxw_0, by decide +kernel, .inr ⟨by decide +kernel, by decide +kernel, by decide +kernel⟩⟩
theorem vxw_1 : ∀ w ∈ (Jvm.Cond.classLink RX7 293 "java/util/NoSuchElementException" :: Jvm.Cond.initialized "java/util/NoSuchElementException" :: vxl_0), vx_ot w = true := List.forall_mem_cons.mpr ⟨by decide +kernel, List.forall_mem_cons.mpr ⟨by decide +kernel, vxo_0⟩⟩
theorem okX_1 {F : aFix} {a b : Nat} (hT9 : f_T F = a_strs) (hC : X_cast F) : t_wfT F qX7_requireMix 18 293 (0, a, b) := ⟨rfl, 300, 297, 20, "no such mix", ["java/lang/RuntimeException", "java/lang/Exception"], 13, prog_32_method_4_code, vxd_0, by rw [hT9]; exact List.mem_of_getElem? (i := 38) rfl, vxf_0, vxn_0, by decide, wc_1240, wc_1241, fun U H av hx hts => vx_hat (L := vxl_0) (B := xc_L) (fun w hw => hts w (am_in (vxg_0 w hw) (List.mem_filter.mp hw).2)) vxb_0 (fun w hw => va_Nw.use (xc_tab w hw) (hC U H hx w hw)), vxw_1, by decide +kernel, .inr ⟨by decide +kernel, by decide +kernel, by decide +kernel⟩⟩
theorem vxw_2 : ∀ w ∈ (Jvm.Cond.classLink RX7 293 "java/util/NoSuchElementException" :: Jvm.Cond.initialized "java/util/NoSuchElementException" :: vxl_0), vx_ot w = true := List.forall_mem_cons.mpr ⟨by decide +kernel, List.forall_mem_cons.mpr ⟨by decide +kernel, vxo_0⟩⟩
theorem okX_2 {F : aFix} {a b : Nat} (hT9 : f_T F = a_strs) (hC : X_cast F) : t_wfT F qX7_requireBrush 18 293 (0, a, b) := ⟨rfl, 302, 297, 21, "no such brush", ["java/lang/RuntimeException", "java/lang/Exception"], 13, prog_32_method_4_code, vxd_0, by rw [hT9]; exact List.mem_of_getElem? (i := 39) rfl, vxf_0, vxn_0, by decide, wc_1240, wc_1241, fun U H av hx hts => vx_hat (L := vxl_0) (B := xc_L) (fun w hw => hts w (am_in (vxg_0 w hw) (List.mem_filter.mp hw).2)) vxb_0 (fun w hw => va_Nw.use (xc_tab w hw) (hC U H hx w hw)), vxw_2, by decide +kernel, .inr ⟨by decide +kernel, by decide +kernel, by decide +kernel⟩⟩
theorem vxw_3 : ∀ w ∈ (Jvm.Cond.classLink RX7 293 "java/util/NoSuchElementException" :: Jvm.Cond.initialized "java/util/NoSuchElementException" :: vxl_0), vx_ot w = true := List.forall_mem_cons.mpr ⟨by decide +kernel, List.forall_mem_cons.mpr ⟨by decide +kernel, vxo_0⟩⟩
theorem okX_3 {F : aFix} {a b : Nat} (hT9 : f_T F = a_strs) (hC : X_cast F) : t_wfT F qX7_requireWhat 9 293 (0, a, b) := ⟨rfl, 304, 297, 22, "there are not so many", ["java/lang/RuntimeException", "java/lang/Exception"], 13, prog_32_method_4_code, vxd_0, by rw [hT9]; exact List.mem_of_getElem? (i := 40) rfl, vxf_0, vxn_0, by decide, wc_1240, wc_1241, fun U H av hx hts => vx_hat (L := vxl_0) (B := xc_L) (fun w hw => hts w (am_in (vxg_0 w hw) (List.mem_filter.mp hw).2)) vxb_0 (fun w hw => va_Nw.use (xc_tab w hw) (hC U H hx w hw)), vxw_3, by decide +kernel, .inr ⟨by decide +kernel, by decide +kernel, by decide +kernel⟩⟩
def vxl_1 : List Jvm.Cond := vy_atS RX7 310 "java/lang/IllegalArgumentException" 7 prog_18_method_2_code ["java/lang/RuntimeException", "java/lang/Exception"]
theorem vxg_1 : ∀ w ∈ vxl_1.filter goodWord, w ∈ lw_tbl := by decide +kernel
theorem vxb_1 : ∀ w ∈ vxl_1.filter (fun w => !goodWord w), w ∈ xc_L := by decide +kernel
theorem vxo_1 : ∀ w ∈ vxl_1, vx_ot w = true := by decide +kernel
theorem vxd_1 : decode prog_18_method_2_code 0 = .ok (.aload_n 0, 1) ∧ decode prog_18_method_2_code 1 = .ok (.aload_n 1, 1) ∧ decode prog_18_method_2_code 2 = .ok (.invokespecial 7, 3) ∧ decode prog_18_method_2_code 5 = .ok (.return_, 1) := by decide +kernel
theorem vxf_1 : Bundle.fit "java/lang/IllegalArgumentException" = true := by decide +kernel
theorem vxn_1 : ∀ n ∈ (["java/lang/RuntimeException", "java/lang/Exception"] : List String), Bundle.fit n = true := by decide +kernel
theorem vxw_4 : ∀ w ∈ (Jvm.Cond.classLink RX7 306 "java/lang/IllegalArgumentException" :: Jvm.Cond.initialized "java/lang/IllegalArgumentException" :: vxl_1), vx_ot w = true := List.forall_mem_cons.mpr ⟨by decide +kernel, List.forall_mem_cons.mpr ⟨by decide +kernel, vxo_1⟩⟩
theorem okX_4 {F : aFix} {a b : Nat} (hT9 : f_T F = a_strs) (hC : X_cast F) : t_wfT F qX7_requireArgument 10 306 (1, a, b) := ⟨rfl, 308, 310, 23, "a number out of range", ["java/lang/RuntimeException", "java/lang/Exception"], 7, prog_18_method_2_code, vxd_1, by rw [hT9]; exact List.mem_of_getElem? (i := 41) rfl, vxf_1, vxn_1, by decide, wc_1242, wc_1243, fun U H av hx hts => vx_hat (L := vxl_1) (B := xc_L) (fun w hw => hts w (am_in (vxg_1 w hw) (List.mem_filter.mp hw).2)) vxb_1 (fun w hw => va_Nw.use (xc_tab w hw) (hC U H hx w hw)), vxw_4, by decide +kernel, .inr ⟨by decide +kernel, by decide +kernel, by decide +kernel⟩⟩
theorem okX_ok {F : aFix} (hT9 : f_T F = a_strs) (hC : X_cast F) : ∀ q ∈ okX, ∀ m9, a_tab q.1 = some m9 → ∀ a b, t_wfT F m9 q.2.1 q.2.2.1 (q.2.2.2, a, b) := List.forall_mem_cons.mpr ⟨fun m9 h a b => by cases h; exact okX_0 hT9 hC, List.forall_mem_cons.mpr ⟨fun m9 h a b => by cases h; exact okX_1 hT9 hC, List.forall_mem_cons.mpr ⟨fun m9 h a b => by cases h; exact okX_2 hT9 hC, List.forall_mem_cons.mpr ⟨fun m9 h a b => by cases h; exact okX_3 hT9 hC, List.forall_mem_cons.mpr ⟨fun m9 h a b => by cases h; exact okX_4 hT9 hC, fun _ h => absurd h List.not_mem_nil⟩⟩⟩⟩⟩
/-- the calls of given members -/
def pr2 : aPr := fun own i k n => ∃ q, q ∈ okR ∧ J_pr q own i k n
/-- all that the check rests on -/
def C_all (F : aFix) : Prop := f_N F = a_nw ∧ f_T F = a_strs ∧ X_cast F
def c_kd (i : Instr) (r : aRef) : Bool := match i with
  | .invokevirtual _ => decide (r.1 < 1000 ∨ r.1 = 1007 ∨ r.1 = 1008 ∨ 1011 ≤ r.1)
  | .invokestatic _ => decide (r.1 < 1007)
  | .invokespecial _ => decide (r.2.2 = 0 ∨ r.1 < 1000 ∨ r.1 = 1010)
  | _ => true
theorem okR_ge : ∀ q ∈ okR, 1000 ≤ q.2.2.1 := by decide
theorem a_tab_no {k : Nat} (h : 1000 ≤ k) : a_tab k = none := by
  unfold a_tab
  rw [if_neg (by omega), if_neg (by omega)]
  refine List.getElem?_eq_none ?_
  have : a_l2.length = 99 := rfl
  omega
theorem c_ref_ok {t : Option FieldType} (h : c_ref t = true) : ∃ ty, t = some ty ∧ a_isref ty := by
  unfold c_ref at h
  split at h
  · exact ⟨_, rfl, .inl ⟨_, rfl⟩⟩
  · exact ⟨_, rfl, .inr ⟨_, rfl⟩⟩
  · cases h
theorem c_wfC_ok {F : aFix} (hA : C_all F) {on mi pc : Nat} {m9 : aMeth} {i : Instr} {r : aRef} (hown : m_own m9 = n_cls on) (hmi : a_tab mi = some m9) (h : c_wfC on mi (m_ret m9) pc i r = true) (hk : c_kd i r = true) : t_wfC a_tab F pr2 m9 pc i r := by
  obtain ⟨hN9, hT9, hC⟩ := hA
  cases i
  case invokevirtual ix =>
    simp only [c_wfC, Bool.or_eq_true, Bool.and_eq_true, decide_eq_true_eq] at h
    simp only [c_kd, decide_eq_true_eq] at hk
    rcases h with ⟨h1, h2⟩ | ⟨h1, h2⟩
    · obtain ⟨k9, e19, e29⟩ := okV_ok _ h2
      exact .inl ⟨h1, k9, e19, by rw [hown]; exact e29⟩
    · have g := okR_ge _ h2
      have g : 1000 ≤ r.1 := g
      refine .inr ⟨h1, a_tab_no g, (on, ix, r), h2, hown, ?_, rfl, rfl⟩
      show _ = okRf r.1 ix
      unfold okRf
      rw [if_neg (by omega), if_neg (by omega)]
  case invokestatic ix =>
    simp only [c_wfC, Bool.or_eq_true, decide_eq_true_eq] at h
    simp only [c_kd, decide_eq_true_eq] at hk
    rcases h with h2 | h2
    · obtain ⟨k9, e19, e29⟩ := okT_ok hN9 _ h2
      exact .inl ⟨k9, e19, by rw [hown]; exact e29⟩
    · have g := okR_ge _ h2
      have g : 1000 ≤ r.1 := g
      refine .inr ⟨a_tab_no g, (on, ix, r), h2, hown, ?_, rfl, rfl⟩
      show _ = okRf r.1 ix
      unfold okRf
      rw [if_pos hk]
  case invokespecial ix =>
    simp only [c_wfC, Bool.or_eq_true, decide_eq_true_eq] at h
    simp only [c_kd, decide_eq_true_eq] at hk
    intro h0
    rcases h with h2 | h2 | h2
    · exact absurd h2 h0
    · obtain ⟨k9, e19, e29⟩ := okI_ok _ h2
      exact .inl ⟨k9, e19, by rw [hown]; exact e29⟩
    · have g := okR_ge _ h2
      have g : 1000 ≤ r.1 := g
      refine .inr ⟨a_tab_no g, (on, ix, r), h2, hown, ?_, rfl, rfl⟩
      show _ = okRf r.1 ix
      unfold okRf
      rw [if_neg (by omega), if_pos (by omega)]
  case new ix =>
    simp only [c_wfC, Bool.or_eq_true, decide_eq_true_eq] at h
    intro h0
    rcases h with h2 | h2
    · exact absurd h2 h0
    · exact okX_ok hT9 hC _ h2 m9 hmi r.2.1 r.2.2
  case ireturn =>
    simp only [c_wfC, Bool.or_eq_true, decide_eq_true_eq] at h
    rcases h with h2 | h2
    · exact .inl h2
    · exact .inr (.inl ⟨h2.1, .inl h2.2⟩)
  case lreturn => simp only [c_wfC, decide_eq_true_eq] at h; exact h
  case dreturn => simp only [c_wfC, decide_eq_true_eq] at h; exact h
  case freturn => simp only [c_wfC, decide_eq_true_eq] at h; exact h
  case areturn => exact c_ref_ok h
  case return_ => simp only [c_wfC, decide_eq_true_eq] at h; exact h
  all_goals exact trivial
theorem c_meth_ok {F : aFix} (hA : C_all F) {on mi : Nat} {ini : Bool} {m9 : aMeth} (hown : m_own m9 = n_cls on) (hini : m_ini m9 = ini) (hmi : a_tab mi = some m9) (h : c_meth on mi ini m9 = true) (hk : (m_code m9).all (fun q => c_kd q.2.1 q.2.2.2.1) = true) : t_codeok a_tab F pr2 m9 := by
  intro pc o ho
  have hm9 := l_lookup ho
  have h1 := List.all_eq_true.mp h _ hm9
  have h2 := List.all_eq_true.mp hk _ hm9
  have h1 : (decide (decode (m_cc m9) pc = .ok (o.1, o.2.1)) && (c_wf on ini pc o.1 o.2.1 o.2.2.1 o.2.2.2.1 o.2.2.2.2 && c_wfC on mi (m_ret m9) pc o.1 o.2.2.1)) = true := h1
  rw [Bool.and_eq_true, Bool.and_eq_true, decide_eq_true_eq] at h1
  obtain ⟨g1, g2, g39⟩ := h1
  refine ⟨g1, ?_, c_wfC_ok hA hown hmi g39 h2, fun ix hix => ?_⟩
  · rw [hown, hini]
    exact c_wf_ok hA.2.1 g2
  · rcases hix with e | e
    · rw [e] at g2
      simp only [c_wf, Bool.and_eq_true, Bool.or_eq_true, decide_eq_true_eq] at g2
      rcases g2.2 with ⟨z, -⟩ | ⟨-, z⟩
      · exact .inl z
      · exact .inr (of_decide_eq_true (List.all_eq_true.mp okS_lt _ z))
    · rw [e] at g2
      simp only [c_wf, Bool.and_eq_true, Bool.or_eq_true, decide_eq_true_eq] at g2
      rcases g2.2 with ⟨z, -⟩ | ⟨-, z⟩
      · exact .inl z
      · exact .inr (of_decide_eq_true (List.all_eq_true.mp okS_lt _ z))
