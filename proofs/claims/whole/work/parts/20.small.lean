/-! ===== the small calls, clear, compile ===== -/
theorem tb_02 : ¬ (0 : Int32) = 2 := by decide
theorem i_vc_getCompileErrorLine {k : Nat} {u : SX} {v : SY} (I : i_Rel k u v) (hk : k + 5 ≤ 2563) : wpX_getCompileErrorLine (fun r => wpY_getCompileErrorLine (fun r' => r' = r ∧ i_Rel (k + 5) u v) v) u := by
  obtain ⟨f_gosubDepth, f_forDepth, f_outCap, f_sourceLength, f_compiled, f_errorLine, f_tokenCount, f_tokenAt, f_heldCount, f_lineTotal, f_codeLength, f_dividedByZero, f_status, f_stopLine, f_steps, f_position, f_outputCount, f_gosubCount, f_frameCount, a_source, a_tokens, a_held, a_programOrder, a_lineNumber, a_lineKeyword, a_lineVariable, a_lineRelation, a_code, a_codeStart, a_codeEnd, a_operands, a_variables, a_output, a_returnTo, a_frameVariable, a_frameLimit, a_frameBody⟩ := u
  obtain ⟨g_len, g_nLines, g_compiled, g_errLine, g_gosubDepth, g_forDepth, g_outCap, g_nt, g_vn, g_on, g_divErr, g_status, g_stopLine, g_steps, g_pos, g_outN, g_gsp, g_fsp, b_src, b_lnStart, b_lnEnd, b_lnNum, b_tk, b_tv, b_vs, b_os, b_vars, b_out, b_gStack, b_fVar, b_fLim, b_fBody⟩ := v
  have J := I
  obtain ⟨g, fd, oc, n, nl, ou, gc, fc, cl, C, O, N, rfl, rfl, rfl, rfl, rfl, rfl, rfl, rfl, rfl, rfl, rfl, rfl, rfl, rfl, rfl, rfl, rfl, rfl, rfl, rfl, rfl, rfl, rfl, rfl, rfl, rfl, rfl, hz, hcn, hcl, ho, hl, hs, hpos⟩ := I
  exact ⟨rfl, J⟩
theorem i_vc_lineCount {k : Nat} {u : SX} {v : SY} (I : i_Rel k u v) (hk : k + 5 ≤ 2563) : wpX_lineCount (fun r => wpY_lineCount (fun r' => r' = r ∧ i_Rel (k + 5) u v) v) u := by
  obtain ⟨f_gosubDepth, f_forDepth, f_outCap, f_sourceLength, f_compiled, f_errorLine, f_tokenCount, f_tokenAt, f_heldCount, f_lineTotal, f_codeLength, f_dividedByZero, f_status, f_stopLine, f_steps, f_position, f_outputCount, f_gosubCount, f_frameCount, a_source, a_tokens, a_held, a_programOrder, a_lineNumber, a_lineKeyword, a_lineVariable, a_lineRelation, a_code, a_codeStart, a_codeEnd, a_operands, a_variables, a_output, a_returnTo, a_frameVariable, a_frameLimit, a_frameBody⟩ := u
  obtain ⟨g_len, g_nLines, g_compiled, g_errLine, g_gosubDepth, g_forDepth, g_outCap, g_nt, g_vn, g_on, g_divErr, g_status, g_stopLine, g_steps, g_pos, g_outN, g_gsp, g_fsp, b_src, b_lnStart, b_lnEnd, b_lnNum, b_tk, b_tv, b_vs, b_os, b_vars, b_out, b_gStack, b_fVar, b_fLim, b_fBody⟩ := v
  have J := I
  obtain ⟨g, fd, oc, n, nl, ou, gc, fc, cl, C, O, N, rfl, rfl, rfl, rfl, rfl, rfl, rfl, rfl, rfl, rfl, rfl, rfl, rfl, rfl, rfl, rfl, rfl, rfl, rfl, rfl, rfl, rfl, rfl, rfl, rfl, rfl, rfl, hz, hcn, hcl, ho, hl, hs, hpos⟩ := I
  refine br_c (fun z => ⟨?_, J⟩) (fun _ => ⟨rfl, J⟩)
  rw [hcn z]
  rfl
theorem i_vc_getStatus {k : Nat} {u : SX} {v : SY} (I : i_Rel k u v) (hk : k + 5 ≤ 2563) : wpX_getStatus (fun r => wpY_getStatus (fun r' => r' = r ∧ i_Rel (k + 5) u v) v) u := by
  obtain ⟨f_gosubDepth, f_forDepth, f_outCap, f_sourceLength, f_compiled, f_errorLine, f_tokenCount, f_tokenAt, f_heldCount, f_lineTotal, f_codeLength, f_dividedByZero, f_status, f_stopLine, f_steps, f_position, f_outputCount, f_gosubCount, f_frameCount, a_source, a_tokens, a_held, a_programOrder, a_lineNumber, a_lineKeyword, a_lineVariable, a_lineRelation, a_code, a_codeStart, a_codeEnd, a_operands, a_variables, a_output, a_returnTo, a_frameVariable, a_frameLimit, a_frameBody⟩ := u
  obtain ⟨g_len, g_nLines, g_compiled, g_errLine, g_gosubDepth, g_forDepth, g_outCap, g_nt, g_vn, g_on, g_divErr, g_status, g_stopLine, g_steps, g_pos, g_outN, g_gsp, g_fsp, b_src, b_lnStart, b_lnEnd, b_lnNum, b_tk, b_tv, b_vs, b_os, b_vars, b_out, b_gStack, b_fVar, b_fLim, b_fBody⟩ := v
  have J := I
  obtain ⟨g, fd, oc, n, nl, ou, gc, fc, cl, C, O, N, rfl, rfl, rfl, rfl, rfl, rfl, rfl, rfl, rfl, rfl, rfl, rfl, rfl, rfl, rfl, rfl, rfl, rfl, rfl, rfl, rfl, rfl, rfl, rfl, rfl, rfl, rfl, hz, hcn, hcl, ho, hl, hs, hpos⟩ := I
  exact ⟨rfl, J⟩
theorem i_vc_getStopLine {k : Nat} {u : SX} {v : SY} (I : i_Rel k u v) (hk : k + 5 ≤ 2563) : wpX_getStopLine (fun r => wpY_getStopLine (fun r' => r' = r ∧ i_Rel (k + 5) u v) v) u := by
  obtain ⟨f_gosubDepth, f_forDepth, f_outCap, f_sourceLength, f_compiled, f_errorLine, f_tokenCount, f_tokenAt, f_heldCount, f_lineTotal, f_codeLength, f_dividedByZero, f_status, f_stopLine, f_steps, f_position, f_outputCount, f_gosubCount, f_frameCount, a_source, a_tokens, a_held, a_programOrder, a_lineNumber, a_lineKeyword, a_lineVariable, a_lineRelation, a_code, a_codeStart, a_codeEnd, a_operands, a_variables, a_output, a_returnTo, a_frameVariable, a_frameLimit, a_frameBody⟩ := u
  obtain ⟨g_len, g_nLines, g_compiled, g_errLine, g_gosubDepth, g_forDepth, g_outCap, g_nt, g_vn, g_on, g_divErr, g_status, g_stopLine, g_steps, g_pos, g_outN, g_gsp, g_fsp, b_src, b_lnStart, b_lnEnd, b_lnNum, b_tk, b_tv, b_vs, b_os, b_vars, b_out, b_gStack, b_fVar, b_fLim, b_fBody⟩ := v
  have J := I
  obtain ⟨g, fd, oc, n, nl, ou, gc, fc, cl, C, O, N, rfl, rfl, rfl, rfl, rfl, rfl, rfl, rfl, rfl, rfl, rfl, rfl, rfl, rfl, rfl, rfl, rfl, rfl, rfl, rfl, rfl, rfl, rfl, rfl, rfl, rfl, rfl, hz, hcn, hcl, ho, hl, hs, hpos⟩ := I
  exact ⟨rfl, J⟩
theorem i_vc_getSteps {k : Nat} {u : SX} {v : SY} (I : i_Rel k u v) (hk : k + 5 ≤ 2563) : wpX_getSteps (fun r => wpY_getSteps (fun r' => r' = r ∧ i_Rel (k + 5) u v) v) u := by
  obtain ⟨f_gosubDepth, f_forDepth, f_outCap, f_sourceLength, f_compiled, f_errorLine, f_tokenCount, f_tokenAt, f_heldCount, f_lineTotal, f_codeLength, f_dividedByZero, f_status, f_stopLine, f_steps, f_position, f_outputCount, f_gosubCount, f_frameCount, a_source, a_tokens, a_held, a_programOrder, a_lineNumber, a_lineKeyword, a_lineVariable, a_lineRelation, a_code, a_codeStart, a_codeEnd, a_operands, a_variables, a_output, a_returnTo, a_frameVariable, a_frameLimit, a_frameBody⟩ := u
  obtain ⟨g_len, g_nLines, g_compiled, g_errLine, g_gosubDepth, g_forDepth, g_outCap, g_nt, g_vn, g_on, g_divErr, g_status, g_stopLine, g_steps, g_pos, g_outN, g_gsp, g_fsp, b_src, b_lnStart, b_lnEnd, b_lnNum, b_tk, b_tv, b_vs, b_os, b_vars, b_out, b_gStack, b_fVar, b_fLim, b_fBody⟩ := v
  have J := I
  obtain ⟨g, fd, oc, n, nl, ou, gc, fc, cl, C, O, N, rfl, rfl, rfl, rfl, rfl, rfl, rfl, rfl, rfl, rfl, rfl, rfl, rfl, rfl, rfl, rfl, rfl, rfl, rfl, rfl, rfl, rfl, rfl, rfl, rfl, rfl, rfl, hz, hcn, hcl, ho, hl, hs, hpos⟩ := I
  exact ⟨rfl, J⟩
theorem i_vc_getOutputCount {k : Nat} {u : SX} {v : SY} (I : i_Rel k u v) (hk : k + 5 ≤ 2563) : wpX_getOutputCount (fun r => wpY_getOutputCount (fun r' => r' = r ∧ i_Rel (k + 5) u v) v) u := by
  obtain ⟨f_gosubDepth, f_forDepth, f_outCap, f_sourceLength, f_compiled, f_errorLine, f_tokenCount, f_tokenAt, f_heldCount, f_lineTotal, f_codeLength, f_dividedByZero, f_status, f_stopLine, f_steps, f_position, f_outputCount, f_gosubCount, f_frameCount, a_source, a_tokens, a_held, a_programOrder, a_lineNumber, a_lineKeyword, a_lineVariable, a_lineRelation, a_code, a_codeStart, a_codeEnd, a_operands, a_variables, a_output, a_returnTo, a_frameVariable, a_frameLimit, a_frameBody⟩ := u
  obtain ⟨g_len, g_nLines, g_compiled, g_errLine, g_gosubDepth, g_forDepth, g_outCap, g_nt, g_vn, g_on, g_divErr, g_status, g_stopLine, g_steps, g_pos, g_outN, g_gsp, g_fsp, b_src, b_lnStart, b_lnEnd, b_lnNum, b_tk, b_tv, b_vs, b_os, b_vars, b_out, b_gStack, b_fVar, b_fLim, b_fBody⟩ := v
  have J := I
  obtain ⟨g, fd, oc, n, nl, ou, gc, fc, cl, C, O, N, rfl, rfl, rfl, rfl, rfl, rfl, rfl, rfl, rfl, rfl, rfl, rfl, rfl, rfl, rfl, rfl, rfl, rfl, rfl, rfl, rfl, rfl, rfl, rfl, rfl, rfl, rfl, hz, hcn, hcl, ho, hl, hs, hpos⟩ := I
  exact ⟨rfl, J⟩
theorem i_vc_getVar {k : Nat} {u : SX} {v : SY} (I : i_Rel k u v) (hk : k + 5 ≤ 2563) (v1 : Int32) : wpX_getVar (fun r => wpY_getVar (fun r' => r' = r ∧ i_Rel (k + 5) u v) v v1) u v1 := by
  obtain ⟨f_gosubDepth, f_forDepth, f_outCap, f_sourceLength, f_compiled, f_errorLine, f_tokenCount, f_tokenAt, f_heldCount, f_lineTotal, f_codeLength, f_dividedByZero, f_status, f_stopLine, f_steps, f_position, f_outputCount, f_gosubCount, f_frameCount, a_source, a_tokens, a_held, a_programOrder, a_lineNumber, a_lineKeyword, a_lineVariable, a_lineRelation, a_code, a_codeStart, a_codeEnd, a_operands, a_variables, a_output, a_returnTo, a_frameVariable, a_frameLimit, a_frameBody⟩ := u
  obtain ⟨g_len, g_nLines, g_compiled, g_errLine, g_gosubDepth, g_forDepth, g_outCap, g_nt, g_vn, g_on, g_divErr, g_status, g_stopLine, g_steps, g_pos, g_outN, g_gsp, g_fsp, b_src, b_lnStart, b_lnEnd, b_lnNum, b_tk, b_tv, b_vs, b_os, b_vars, b_out, b_gStack, b_fVar, b_fLim, b_fBody⟩ := v
  have J := I
  obtain ⟨g, fd, oc, n, nl, ou, gc, fc, cl, C, O, N, rfl, rfl, rfl, rfl, rfl, rfl, rfl, rfl, rfl, rfl, rfl, rfl, rfl, rfl, rfl, rfl, rfl, rfl, rfl, rfl, rfl, rfl, rfl, rfl, rfl, rfl, rfl, hz, hcn, hcl, ho, hl, hs, hpos⟩ := I
  refine br_c (fun z => br_t z ⟨rfl, J⟩) (fun z => ?_)
  obtain ⟨j, hj, rfl⟩ := nI_of z
  exact pk_le 26 j (fun y => br_f z (pk_lt j 26 (fun w => absurd w (by omega)) (fun _ => ⟨rfl, J⟩))) (fun y => ⟨vp_in_nI y (by omega), br_f z (pk_lt j 26 (fun w => ⟨vp_in_nI y (by omega), rfl, J⟩) (fun w => absurd w (by omega)))⟩)
theorem i_vc_getOutput {k : Nat} {u : SX} {v : SY} (I : i_Rel k u v) (hk : k + 5 ≤ 2563) (v1 : Int32) : wpX_getOutput (fun r => wpY_getOutput (fun r' => r' = r ∧ i_Rel (k + 5) u v) v v1) u v1 := by
  obtain ⟨f_gosubDepth, f_forDepth, f_outCap, f_sourceLength, f_compiled, f_errorLine, f_tokenCount, f_tokenAt, f_heldCount, f_lineTotal, f_codeLength, f_dividedByZero, f_status, f_stopLine, f_steps, f_position, f_outputCount, f_gosubCount, f_frameCount, a_source, a_tokens, a_held, a_programOrder, a_lineNumber, a_lineKeyword, a_lineVariable, a_lineRelation, a_code, a_codeStart, a_codeEnd, a_operands, a_variables, a_output, a_returnTo, a_frameVariable, a_frameLimit, a_frameBody⟩ := u
  obtain ⟨g_len, g_nLines, g_compiled, g_errLine, g_gosubDepth, g_forDepth, g_outCap, g_nt, g_vn, g_on, g_divErr, g_status, g_stopLine, g_steps, g_pos, g_outN, g_gsp, g_fsp, b_src, b_lnStart, b_lnEnd, b_lnNum, b_tk, b_tv, b_vs, b_os, b_vars, b_out, b_gStack, b_fVar, b_fLim, b_fBody⟩ := v
  have J := I
  obtain ⟨g, fd, oc, n, nl, ou, gc, fc, cl, C, O, N, rfl, rfl, rfl, rfl, rfl, rfl, rfl, rfl, rfl, rfl, rfl, rfl, rfl, rfl, rfl, rfl, rfl, rfl, rfl, rfl, rfl, rfl, rfl, rfl, rfl, rfl, rfl, hz, hcn, hcl, ho, hl, hs, hpos⟩ := I
  have := hs.1
  have := hz.2.2.2.2.2.1
  refine br_c (fun z => br_t z ⟨rfl, J⟩) (fun z => ?_)
  obtain ⟨j, hj, rfl⟩ := nI_of z
  exact pk_le ou j (fun y => br_f z (pk_le ou j (fun _ => ⟨rfl, J⟩) (fun w => absurd w (by omega)))) (fun y => ⟨vp_in_nI (by omega) (by omega), br_f z (pk_le ou j (fun w => absurd w (by omega)) (fun _ => pk_lt j 32 (fun w => ⟨vp_in_nI (by omega) (by omega), rfl, J⟩) (fun w => absurd w (by omega))))⟩)
theorem i_vc_getStackDepth {k : Nat} {u : SX} {v : SY} (I : i_Rel k u v) (hk : k + 5 ≤ 2563) (v1 : Int32) : wpX_getStackDepth (fun r => wpY_getStackDepth (fun r' => r' = r ∧ i_Rel (k + 5) u v) v v1) u v1 := by
  obtain ⟨f_gosubDepth, f_forDepth, f_outCap, f_sourceLength, f_compiled, f_errorLine, f_tokenCount, f_tokenAt, f_heldCount, f_lineTotal, f_codeLength, f_dividedByZero, f_status, f_stopLine, f_steps, f_position, f_outputCount, f_gosubCount, f_frameCount, a_source, a_tokens, a_held, a_programOrder, a_lineNumber, a_lineKeyword, a_lineVariable, a_lineRelation, a_code, a_codeStart, a_codeEnd, a_operands, a_variables, a_output, a_returnTo, a_frameVariable, a_frameLimit, a_frameBody⟩ := u
  obtain ⟨g_len, g_nLines, g_compiled, g_errLine, g_gosubDepth, g_forDepth, g_outCap, g_nt, g_vn, g_on, g_divErr, g_status, g_stopLine, g_steps, g_pos, g_outN, g_gsp, g_fsp, b_src, b_lnStart, b_lnEnd, b_lnNum, b_tk, b_tv, b_vs, b_os, b_vars, b_out, b_gStack, b_fVar, b_fLim, b_fBody⟩ := v
  have J := I
  obtain ⟨g, fd, oc, n, nl, ou, gc, fc, cl, C, O, N, rfl, rfl, rfl, rfl, rfl, rfl, rfl, rfl, rfl, rfl, rfl, rfl, rfl, rfl, rfl, rfl, rfl, rfl, rfl, rfl, rfl, rfl, rfl, rfl, rfl, rfl, rfl, hz, hcn, hcl, ho, hl, hs, hpos⟩ := I
  exact br_c (fun z => br_t z ⟨rfl, J⟩) (fun z => br_c (fun y => br_f z (br_t y ⟨rfl, J⟩)) (fun y => br_f z (br_f y ⟨rfl, J⟩)))
theorem i_vc_clear {k : Nat} {u : SX} {v : SY} (I : i_Rel k u v) (hk : k + 5 ≤ 2563) : wpX_clear (fun u' => wpY_clear (fun v' => i_Rel (k + 5) u' v') v) u := by
  obtain ⟨f_gosubDepth, f_forDepth, f_outCap, f_sourceLength, f_compiled, f_errorLine, f_tokenCount, f_tokenAt, f_heldCount, f_lineTotal, f_codeLength, f_dividedByZero, f_status, f_stopLine, f_steps, f_position, f_outputCount, f_gosubCount, f_frameCount, a_source, a_tokens, a_held, a_programOrder, a_lineNumber, a_lineKeyword, a_lineVariable, a_lineRelation, a_code, a_codeStart, a_codeEnd, a_operands, a_variables, a_output, a_returnTo, a_frameVariable, a_frameLimit, a_frameBody⟩ := u
  obtain ⟨g_len, g_nLines, g_compiled, g_errLine, g_gosubDepth, g_forDepth, g_outCap, g_nt, g_vn, g_on, g_divErr, g_status, g_stopLine, g_steps, g_pos, g_outN, g_gsp, g_fsp, b_src, b_lnStart, b_lnEnd, b_lnNum, b_tk, b_tv, b_vs, b_os, b_vars, b_out, b_gStack, b_fVar, b_fLim, b_fBody⟩ := v
  have J := I
  obtain ⟨g, fd, oc, n, nl, ou, gc, fc, cl, C, O, N, rfl, rfl, rfl, rfl, rfl, rfl, rfl, rfl, rfl, rfl, rfl, rfl, rfl, rfl, rfl, rfl, rfl, rfl, rfl, rfl, rfl, rfl, rfl, rfl, rfl, rfl, rfl, hz, hcn, hcl, ho, hl, hs, hpos⟩ := I
  unfold wpX_clear
  dsimp only
  refine xx_forget ?_
  unfold wpY_clear
  dsimp only
  refine yy_reset ?_
  exact ⟨g, fd, oc, 0, 0, 0, 0, 0, 0, C, fun _ => 0, fun _ => 0, rfl, rfl, rfl, rfl, rfl, rfl, rfl, rfl, rfl, rfl, rfl, rfl, rfl, rfl, rfl, rfl, rfl, rfl, rfl, rfl, rfl, rfl, rfl, rfl, rfl, rfl, rfl, ⟨hz.1, hz.2.1, hz.2.2.1, hz.2.2.2.1, hz.2.2.2.2.1, hz.2.2.2.2.2.1, by omega, hz.2.2.2.2.2.2.2⟩, fun _ => rfl, by omega, tb_ord_0, tb_lines_0, tb_st0_0, fun h => absurd h tb_02⟩
theorem i_vc_compile {k : Nat} {u : SX} {v : SY} (I : i_Rel k u v) (hk : k + 5 ≤ 2563) : wpX_compile (fun r u' => wpY_compile (fun r' v' => r' = r ∧ i_Rel (k + 5) u' v') v) u := by
  obtain ⟨f_gosubDepth, f_forDepth, f_outCap, f_sourceLength, f_compiled, f_errorLine, f_tokenCount, f_tokenAt, f_heldCount, f_lineTotal, f_codeLength, f_dividedByZero, f_status, f_stopLine, f_steps, f_position, f_outputCount, f_gosubCount, f_frameCount, a_source, a_tokens, a_held, a_programOrder, a_lineNumber, a_lineKeyword, a_lineVariable, a_lineRelation, a_code, a_codeStart, a_codeEnd, a_operands, a_variables, a_output, a_returnTo, a_frameVariable, a_frameLimit, a_frameBody⟩ := u
  obtain ⟨g_len, g_nLines, g_compiled, g_errLine, g_gosubDepth, g_forDepth, g_outCap, g_nt, g_vn, g_on, g_divErr, g_status, g_stopLine, g_steps, g_pos, g_outN, g_gsp, g_fsp, b_src, b_lnStart, b_lnEnd, b_lnNum, b_tk, b_tv, b_vs, b_os, b_vars, b_out, b_gStack, b_fVar, b_fLim, b_fBody⟩ := v
  have J := I
  obtain ⟨g, fd, oc, n, nl, ou, gc, fc, cl, C, O, N, rfl, rfl, rfl, rfl, rfl, rfl, rfl, rfl, rfl, rfl, rfl, rfl, rfl, rfl, rfl, rfl, rfl, rfl, rfl, rfl, rfl, rfl, rfl, rfl, rfl, rfl, rfl, hz, hcn, hcl, ho, hl, hs, hpos⟩ := I
  have hn := hz.2.2.2.2.2.2.1
  have hC := hz.2.2.2.2.2.2.2
  unfold wpX_compile
  dsimp only
  refine xx_forget ⟨n + 2, ?_⟩
  refine tb_comp (g_errLine := f_errorLine) (g_gosubDepth := nI g) (g_forDepth := nI fd) (g_outCap := nI oc) (g_vn := g_vn) (g_on := g_on) (g_divErr := g_divErr) (g_status := 0) (g_stopLine := -1) (g_steps := 0) (g_pos := -1) (g_outN := 0) (g_gsp := 0) (g_fsp := 0) (b_vs := b_vs) (b_os := b_os) (b_vars := tb_zr 26 a_variables) (b_out := a_output) (b_gStack := b_gStack) (b_fVar := a_frameVariable) (b_fLim := a_frameLimit) (b_fBody := b_fBody) (Z := fun Q => wpY_compile Q (nI n, nI nl, f_compiled, f_errorLine, nI g, nI fd, nI oc, g_nt, g_vn, g_on, g_divErr, f_status, f_stopLine, f_steps, g_pos, nI ou, nI gc, nI fc, tb_S C, b_lnStart, b_lnEnd, b_lnNum, b_tk, b_tv, b_vs, b_os, a_variables, a_output, b_gStack, a_frameVariable, a_frameLimit, b_fBody)) hC hn (fun r k' cl' tc ta hc tk hd ln lk lv lr cd cs ce po ys ye yn hr hq => ?_) (fun nl' O' N' cl' tc ta hc tk hd ln lk lv lr cd cs ce po ys ye yn h1 h2 h3 hq => ?_) (n + 1) 0 0 0 0 (n + 2) (fun _ => 0) (fun _ => 0) _ _ _ _ _ _ _ _ _ _ _ _ _ b_lnStart b_lnEnd b_lnNum (by omega) (by omega) (by omega) (by omega) (by omega) tb_ord_0 tb_lines_0 (fun Q m w => ?_)
  · exact hq _ (fun nt zk zv => ⟨rfl, g, fd, oc, n, 0, 0, 0, 0, 0, C, fun _ => 0, fun _ => 0, rfl, rfl, rfl, rfl, rfl, rfl, rfl, rfl, rfl, rfl, rfl, rfl, rfl, rfl, rfl, rfl, rfl, rfl, rfl, rfl, rfl, rfl, rfl, rfl, rfl, rfl, rfl, hz, fun _ => rfl, by omega, tb_ord_0, tb_lines_0, tb_st0_0, fun h => absurd h tb_02⟩)
  · exact hq _ (fun nt zk zv => ⟨rfl, g, fd, oc, n, nl', 0, 0, 0, cl', C, O', N', rfl, rfl, rfl, rfl, rfl, rfl, rfl, rfl, rfl, rfl, rfl, rfl, rfl, rfl, rfl, rfl, rfl, rfl, rfl, rfl, rfl, rfl, rfl, rfl, rfl, rfl, rfl, hz, fun h => absurd h tb_10, h1, h2, h3, tb_st0_0, fun h => absurd h tb_02⟩)
  · unfold wpY_compile
    dsimp only
    exact yy_reset ⟨m, w _ _ _⟩
