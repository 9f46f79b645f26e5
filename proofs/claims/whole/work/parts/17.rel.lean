/-! ===== the relation ===== -/
def tb_zr (i : Nat) (V : Nat → Int32) : Nat → Int32 := fun j => if j < i then 0 else V j
theorem tb_zr_s (i : Nat) (V : Nat → Int32) : upd (tb_zr i V) i 0 = tb_zr (i + 1) V := by
  funext j
  show (if j = i then 0 else if j < i then 0 else V j) = if j < i + 1 then 0 else V j
  by_cases a : j = i
  · rw [if_pos a, if_pos (by omega)]
  · rw [if_neg a]
    by_cases b : j < i
    · rw [if_pos b, if_pos (by omega)]
    · rw [if_neg b, if_neg (by omega)]
theorem tb_zr_0 (V : Nat → Int32) : tb_zr 0 V = V := by
  funext j
  exact if_neg (by omega)
/-- a place in the program's order, and the number of the line there: -1 behind the last -/
def tb_pos (nl : Nat) (O N : Nat → Nat) (x y : Int32) : Prop := ∃ p, p ≤ nl ∧ x = nI p ∧ y = if p < nl then nI (N (O p)) else -1
/-- the run's stacks and output -/
def tb_st0 (g fd oc nl : Nat) (O N : Nat → Nat) (ou gc fc : Nat) (rt gs fv fb yb : Nat → Int32) : Prop :=
  ou ≤ oc ∧ gc ≤ g ∧ fc ≤ fd ∧ (∀ j, j < gc → tb_pos nl O N (rt j) (gs j)) ∧ (∀ j, j < fc → tb_pos nl O N (fb j) (yb j)) ∧ (∀ i j, i < fc → j < fc → fv i = fv j → i = j)
theorem tb_st0_0 {g fd oc nl : Nat} {O N : Nat → Nat} {rt gs fv fb yb : Nat → Int32} : tb_st0 g fd oc nl O N 0 0 0 rt gs fv fb yb :=
  ⟨Nat.zero_le _, Nat.zero_le _, Nat.zero_le _, fun j hj => by omega, fun j hj => by omega, fun i j hi => by omega⟩
/-- the sizes -/
def tb_sz (g fd oc n : Nat) (C : Nat → Nat) : Prop := 1 ≤ g ∧ g ≤ 8 ∧ 1 ≤ fd ∧ fd ≤ 8 ∧ 1 ≤ oc ∧ oc ≤ 32 ∧ n ≤ 256 ∧ ∀ j, C j < 127
def i_Rel (_ : Nat) (u : SX) (v : SY) : Prop := match u with
  | (f_gosubDepth, f_forDepth, f_outCap, f_sourceLength, f_compiled, f_errorLine, f_tokenCount, f_tokenAt, f_heldCount, f_lineTotal, f_codeLength, f_dividedByZero, f_status, f_stopLine, f_steps, f_position, f_outputCount, f_gosubCount, f_frameCount, a_source, a_tokens, a_held, a_programOrder, a_lineNumber, a_lineKeyword, a_lineVariable, a_lineRelation, a_code, a_codeStart, a_codeEnd, a_operands, a_variables, a_output, a_returnTo, a_frameVariable, a_frameLimit, a_frameBody) => match v with
    | (g_len, g_nLines, g_compiled, g_errLine, g_gosubDepth, g_forDepth, g_outCap, g_nt, g_vn, g_on, g_divErr, g_status, g_stopLine, g_steps, g_pos, g_outN, g_gsp, g_fsp, b_src, b_lnStart, b_lnEnd, b_lnNum, b_tk, b_tv, b_vs, b_os, b_vars, b_out, b_gStack, b_fVar, b_fLim, b_fBody) => ∃ (g fd oc n nl ou gc fc cl : Nat) (C O N : Nat → Nat),
      f_gosubDepth = nI g ∧ f_forDepth = nI fd ∧ f_outCap = nI oc ∧ f_sourceLength = nI n ∧ f_lineTotal = nI nl ∧ f_outputCount = nI ou ∧ f_gosubCount = nI gc ∧ f_frameCount = nI fc ∧ a_source = tb_S C ∧
      g_gosubDepth = nI g ∧ g_forDepth = nI fd ∧ g_outCap = nI oc ∧ g_len = nI n ∧ g_nLines = nI nl ∧ g_outN = nI ou ∧ g_gsp = nI gc ∧ g_fsp = nI fc ∧ b_src = tb_S C ∧
      f_compiled = g_compiled ∧ f_errorLine = g_errLine ∧ f_status = g_status ∧ f_stopLine = g_stopLine ∧ f_steps = g_steps ∧ a_variables = b_vars ∧ a_output = b_out ∧ a_frameVariable = b_fVar ∧ a_frameLimit = b_fLim ∧
      tb_sz g fd oc n C ∧ (f_compiled = 0 → nl = 0) ∧ cl ≤ 256 ∧ tb_ord nl O N a_programOrder a_lineNumber b_lnNum ∧
      tb_lines C n nl a_lineNumber a_lineKeyword a_lineVariable a_lineRelation a_code a_codeStart a_codeEnd b_lnStart b_lnEnd b_lnNum cl ∧
      tb_st0 g fd oc nl O N ou gc fc a_returnTo b_gStack a_frameVariable a_frameBody b_fBody ∧ (f_status = 2 → tb_pos nl O N f_position g_pos)
theorem i_up {k : Nat} {u : SX} {v : SY} (h : i_Rel k u v) : i_Rel (k + 5) u v := h
section
variable {f_gosubDepth f_forDepth f_outCap f_sourceLength f_compiled f_errorLine f_tokenCount f_tokenAt f_heldCount f_lineTotal f_codeLength f_dividedByZero f_status f_stopLine f_steps f_position f_outputCount f_gosubCount f_frameCount : Int32} {a_source a_tokens a_held a_programOrder a_lineNumber a_lineKeyword a_lineVariable a_lineRelation a_code a_codeStart a_codeEnd a_operands a_variables a_output a_returnTo a_frameVariable a_frameLimit a_frameBody : Nat → Int32}
theorem xx_resetL {post : SX → Prop} (V : Nat → Int32) (hp : post (f_gosubDepth, f_forDepth, f_outCap, f_sourceLength, f_compiled, f_errorLine, f_tokenCount, f_tokenAt, f_heldCount, f_lineTotal, f_codeLength, f_dividedByZero, f_status, f_stopLine, f_steps, f_position, 0, 0, 0, a_source, a_tokens, a_held, a_programOrder, a_lineNumber, a_lineKeyword, a_lineVariable, a_lineRelation, a_code, a_codeStart, a_codeEnd, a_operands, tb_zr 26 V, a_output, a_returnTo, a_frameVariable, a_frameLimit, a_frameBody)) : ∀ d i, i + d = 26 → wX_resetRun_22 post f_gosubDepth f_forDepth f_outCap f_sourceLength f_compiled f_errorLine f_tokenCount f_tokenAt f_heldCount f_lineTotal f_codeLength f_dividedByZero f_status f_stopLine f_steps f_position f_outputCount f_gosubCount f_frameCount (d + 1) (nI i) a_source a_tokens a_held a_programOrder a_lineNumber a_lineKeyword a_lineVariable a_lineRelation a_code a_codeStart a_codeEnd a_operands (tb_zr i V) a_output a_returnTo a_frameVariable a_frameLimit a_frameBody
  | 0, i, hi => by
    have : i = 26 := by omega
    subst this
    exact br_t (by decide) hp
  | d + 1, i, hi => pk_le 26 i (fun z => absurd z (by omega)) (fun _ => ⟨vp_in_nI (by omega) (by omega), nm_r (e' := tb_zr (i + 1) V) (by rw [nI_clamp (by omega)]; exact tb_zr_s i V) (nm_r (nI_1 i) (xx_resetL V hp d (i + 1) (by omega)))⟩)
theorem xx_reset {post : SX → Prop} (hp : post (f_gosubDepth, f_forDepth, f_outCap, f_sourceLength, f_compiled, f_errorLine, f_tokenCount, f_tokenAt, f_heldCount, f_lineTotal, f_codeLength, f_dividedByZero, 0, -1, 0, 0, 0, 0, 0, a_source, a_tokens, a_held, a_programOrder, a_lineNumber, a_lineKeyword, a_lineVariable, a_lineRelation, a_code, a_codeStart, a_codeEnd, a_operands, tb_zr 26 a_variables, a_output, a_returnTo, a_frameVariable, a_frameLimit, a_frameBody)) : wpX_resetRun post (f_gosubDepth, f_forDepth, f_outCap, f_sourceLength, f_compiled, f_errorLine, f_tokenCount, f_tokenAt, f_heldCount, f_lineTotal, f_codeLength, f_dividedByZero, f_status, f_stopLine, f_steps, f_position, f_outputCount, f_gosubCount, f_frameCount, a_source, a_tokens, a_held, a_programOrder, a_lineNumber, a_lineKeyword, a_lineVariable, a_lineRelation, a_code, a_codeStart, a_codeEnd, a_operands, a_variables, a_output, a_returnTo, a_frameVariable, a_frameLimit, a_frameBody) := by
  refine ⟨27, ?_⟩
  have w := xx_resetL (f_outputCount := f_outputCount) (f_gosubCount := f_gosubCount) (f_frameCount := f_frameCount) (post := post) a_variables hp 26 0 rfl
  rw [tb_zr_0] at w
  exact w
theorem xx_forget {post : SX → Prop} (hp : post (f_gosubDepth, f_forDepth, f_outCap, f_sourceLength, 0, 0, f_tokenCount, f_tokenAt, f_heldCount, 0, 0, f_dividedByZero, 0, -1, 0, 0, 0, 0, 0, a_source, a_tokens, a_held, a_programOrder, a_lineNumber, a_lineKeyword, a_lineVariable, a_lineRelation, a_code, a_codeStart, a_codeEnd, a_operands, tb_zr 26 a_variables, a_output, a_returnTo, a_frameVariable, a_frameLimit, a_frameBody)) : wpX_forgetProgram post (f_gosubDepth, f_forDepth, f_outCap, f_sourceLength, f_compiled, f_errorLine, f_tokenCount, f_tokenAt, f_heldCount, f_lineTotal, f_codeLength, f_dividedByZero, f_status, f_stopLine, f_steps, f_position, f_outputCount, f_gosubCount, f_frameCount, a_source, a_tokens, a_held, a_programOrder, a_lineNumber, a_lineKeyword, a_lineVariable, a_lineRelation, a_code, a_codeStart, a_codeEnd, a_operands, a_variables, a_output, a_returnTo, a_frameVariable, a_frameLimit, a_frameBody) := by
  unfold wpX_forgetProgram
  dsimp only
  exact xx_reset hp
end
section
variable {g_len g_nLines g_compiled g_errLine g_gosubDepth g_forDepth g_outCap g_nt g_vn g_on g_divErr g_status g_stopLine g_steps g_pos g_outN g_gsp g_fsp : Int32} {b_src b_lnStart b_lnEnd b_lnNum b_tk b_tv b_vs b_os b_vars b_out b_gStack b_fVar b_fLim b_fBody : Nat → Int32}
theorem yy_resetL {post : SY → Prop} (V : Nat → Int32) (hp : post (g_len, g_nLines, g_compiled, g_errLine, g_gosubDepth, g_forDepth, g_outCap, g_nt, g_vn, g_on, g_divErr, g_status, g_stopLine, g_steps, g_pos, g_outN, g_gsp, g_fsp, b_src, b_lnStart, b_lnEnd, b_lnNum, b_tk, b_tv, b_vs, b_os, tb_zr 26 V, b_out, b_gStack, b_fVar, b_fLim, b_fBody)) : ∀ d i, i + d = 26 → wY_resetRun_37 post g_len g_nLines g_compiled g_errLine g_gosubDepth g_forDepth g_outCap g_nt g_vn g_on g_divErr g_status g_stopLine g_steps g_pos g_outN g_gsp g_fsp (d + 1) (nI i) b_src b_lnStart b_lnEnd b_lnNum b_tk b_tv b_vs b_os (tb_zr i V) b_out b_gStack b_fVar b_fLim b_fBody
  | 0, i, hi => by
    have : i = 26 := by omega
    subst this
    exact br_t (by decide) hp
  | d + 1, i, hi => pk_le 26 i (fun z => absurd z (by omega)) (fun _ => ⟨vp_in_nI (by omega) (by omega), nm_r (e' := tb_zr (i + 1) V) (by rw [nI_clamp (by omega)]; exact tb_zr_s i V) (nm_r (nI_1 i) (yy_resetL V hp d (i + 1) (by omega)))⟩)
theorem yy_reset {post : SY → Prop} (hp : post (g_len, g_nLines, g_compiled, g_errLine, g_gosubDepth, g_forDepth, g_outCap, g_nt, g_vn, g_on, g_divErr, 0, -1, 0, -1, 0, 0, 0, b_src, b_lnStart, b_lnEnd, b_lnNum, b_tk, b_tv, b_vs, b_os, tb_zr 26 b_vars, b_out, b_gStack, b_fVar, b_fLim, b_fBody)) : wpY_resetRun post (g_len, g_nLines, g_compiled, g_errLine, g_gosubDepth, g_forDepth, g_outCap, g_nt, g_vn, g_on, g_divErr, g_status, g_stopLine, g_steps, g_pos, g_outN, g_gsp, g_fsp, b_src, b_lnStart, b_lnEnd, b_lnNum, b_tk, b_tv, b_vs, b_os, b_vars, b_out, b_gStack, b_fVar, b_fLim, b_fBody) := by
  refine ⟨27, ?_⟩
  have w := yy_resetL (post := post) b_vars hp 26 0 rfl
  rw [tb_zr_0] at w
  exact w
end
theorem xx_clamp {post : Int32 → Prop} (x : Int32) (hi : Nat) (h1 : 1 ≤ hi) (h2 : hi < 2 ^ 31) (hp : ∀ r, 1 ≤ r → r ≤ hi → ((x < 1 ∧ r = 1) ∨ (¬ x < 1 ∧ ¬ x ≤ nI hi ∧ r = hi) ∨ (¬ x < 1 ∧ x = nI r)) → post (nI r)) : wpX_clamp post x 1 (nI hi) := by
  by_cases z : (1 : Int32) ≤ x
  · have z' : ¬ x < 1 := Int32.not_lt.mpr z
    refine br_t z ?_
    by_cases y : x ≤ nI hi
    · refine br_t y ?_
      have z0 : ¬ x < 0 := fun w => z' (Int32.lt_trans w (by decide))
      obtain ⟨r, hr, e⟩ := nI_of z0
      subst e
      rw [nI_leI hr h2] at y
      have a : 1 ≤ r := (nI_leI (a := 1) (by omega) hr).mp z
      exact hp r a y (Or.inr (Or.inr ⟨z', rfl⟩))
    · exact br_f y (hp hi h1 (Nat.le_refl _) (Or.inr (Or.inl ⟨z', y, rfl⟩)))
  · exact br_f z (hp 1 (Nat.le_refl _) h1 (Or.inl ⟨Int32.not_le.mp z, rfl⟩))
theorem yy_clamp {post : Int32 → Prop} {g_len g_nLines g_compiled g_errLine g_gosubDepth g_forDepth g_outCap g_nt g_vn g_on g_divErr g_status g_stopLine g_steps g_pos g_outN g_gsp g_fsp : Int32} {b_src b_lnStart b_lnEnd b_lnNum b_tk b_tv b_vs b_os b_vars b_out b_gStack b_fVar b_fLim b_fBody : Nat → Int32} {x : Int32} {r hi : Nat} (hr : 1 ≤ r) (hh : r ≤ hi) (h2 : hi < 2 ^ 31) (h : (x < 1 ∧ r = 1) ∨ (¬ x < 1 ∧ ¬ x ≤ nI hi ∧ r = hi) ∨ (¬ x < 1 ∧ x = nI r)) (hp : post (nI r)) : wpY_clamp post (g_len, g_nLines, g_compiled, g_errLine, g_gosubDepth, g_forDepth, g_outCap, g_nt, g_vn, g_on, g_divErr, g_status, g_stopLine, g_steps, g_pos, g_outN, g_gsp, g_fsp, b_src, b_lnStart, b_lnEnd, b_lnNum, b_tk, b_tv, b_vs, b_os, b_vars, b_out, b_gStack, b_fVar, b_fLim, b_fBody) x 1 (nI hi) := by
  rcases h with ⟨a, b⟩ | ⟨a, b, c⟩ | ⟨a, b⟩
  · subst b
    exact br_f (Int32.not_le.mpr a) hp
  · subst c
    exact br_t (Int32.not_lt.mp a) (br_f b hp)
  · subst b
    exact br_t (Int32.not_lt.mp a) (br_t ((nI_leI (by omega) h2).mpr hh) hp)
theorem i_vc0 (k0 : Int32) (k1 : Int32) (k2 : Int32) : wpX_init (fun u => wpY_init (fun v => i_Rel 3 u v) k0 k1 k2) k0 k1 k2 := by
  unfold wpX_init
  refine xx_clamp k0 8 (by omega) (by omega) (fun g g1 g2 g3 => ?_)
  refine xx_clamp k1 8 (by omega) (by omega) (fun fd d1 d2 d3 => ?_)
  refine xx_clamp k2 32 (by omega) (by omega) (fun oc o1 o2 o3 => ?_)
  refine xx_forget ?_
  unfold wpY_init
  refine yy_clamp g1 g2 (by decide) g3 ?_
  refine yy_clamp d1 d2 (by decide) d3 ?_
  refine yy_clamp o1 o2 (by decide) o3 ?_
  refine yy_reset ?_
  exact ⟨g, fd, oc, 0, 0, 0, 0, 0, 0, fun _ => 0, fun _ => 0, fun _ => 0, rfl, rfl, rfl, rfl, rfl, rfl, rfl, rfl, rfl, rfl, rfl, rfl, rfl, rfl, rfl, rfl, rfl, rfl, rfl, rfl, rfl, rfl, rfl, rfl, rfl, rfl, rfl, ⟨g1, g2, d1, d2, o1, o2, by omega, fun j => by show 0 < 127; omega⟩, fun _ => rfl, by omega, tb_ord_0, tb_lines_0, tb_st0_0, fun h => absurd h (by decide)⟩
