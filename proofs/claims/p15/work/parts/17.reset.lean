def tb_zr (i : Nat) (V : Nat → Int32) : Nat → Int32 := fun j => if j < i then 0 else V j
theorem tb_zr_s (i : Nat) (V : Nat → Int32) : upd (tb_zr i V) i 0 = tb_zr (i + 1) V := by
  funext j
  show (if j = i then 0 else if j < i then 0 else V j) = if j < i + 1 then 0 else V j
  by_cases a : j = i
  · rw [if_pos a, if_pos (by omega)]
  · rw [if_neg a]
    by_cases b : j < i
    · rw [if_pos b, if_pos (by omega)]
    · rw [if_neg b, if_neg (by omega)]
theorem tb_zr_0 (V : Nat → Int32) : tb_zr 0 V = V := by
  funext j
  exact if_neg (by omega)
section
variable {f_gosubDepth f_forDepth f_outCap f_sourceLength f_compiled f_errorLine f_tokenCount f_tokenAt f_heldCount f_lineTotal f_codeLength f_dividedByZero f_status f_stopLine f_steps f_position f_outputCount f_gosubCount f_frameCount : Int32} {a_source a_tokens a_held a_programOrder a_lineNumber a_lineKeyword a_lineVariable a_lineRelation a_code a_codeStart a_codeEnd a_operands a_variables a_output a_returnTo a_frameVariable a_frameLimit a_frameBody : Nat → Int32}
theorem xx_resetL {post : St2 → Prop} (V : Nat → Int32) (hp : post (f_gosubDepth, f_forDepth, f_outCap, f_sourceLength, f_compiled, f_errorLine, f_tokenCount, f_tokenAt, f_heldCount, f_lineTotal, f_codeLength, f_dividedByZero, f_status, f_stopLine, f_steps, f_position, 0, 0, 0, a_source, a_tokens, a_held, a_programOrder, a_lineNumber, a_lineKeyword, a_lineVariable, a_lineRelation, a_code, a_codeStart, a_codeEnd, a_operands, tb_zr 26 V, a_output, a_returnTo, a_frameVariable, a_frameLimit, a_frameBody)) : ∀ d i, i + d = 26 → wX_resetRun_22 post f_gosubDepth f_forDepth f_outCap f_sourceLength f_compiled f_errorLine f_tokenCount f_tokenAt f_heldCount f_lineTotal f_codeLength f_dividedByZero f_status f_stopLine f_steps f_position f_outputCount f_gosubCount f_frameCount (d + 1) (nI i) a_source a_tokens a_held a_programOrder a_lineNumber a_lineKeyword a_lineVariable a_lineRelation a_code a_codeStart a_codeEnd a_operands (tb_zr i V) a_output a_returnTo a_frameVariable a_frameLimit a_frameBody
  | 0, i, hi => by
    have : i = 26 := by omega
    subst this
    exact br_t (by decide) hp
  | d + 1, i, hi => pk_le 26 i (fun z => absurd z (by omega)) (fun _ => ⟨vp_in_nI (by omega) (by omega), nm_r (e' := tb_zr (i + 1) V) (by rw [nI_clamp (by omega)]; exact tb_zr_s i V) (nm_r (nI_1 i) (xx_resetL V hp d (i + 1) (by omega)))⟩)
theorem xx_reset {post : St2 → Prop} (hp : post (f_gosubDepth, f_forDepth, f_outCap, f_sourceLength, f_compiled, f_errorLine, f_tokenCount, f_tokenAt, f_heldCount, f_lineTotal, f_codeLength, f_dividedByZero, 0, -1, 0, 0, 0, 0, 0, a_source, a_tokens, a_held, a_programOrder, a_lineNumber, a_lineKeyword, a_lineVariable, a_lineRelation, a_code, a_codeStart, a_codeEnd, a_operands, tb_zr 26 a_variables, a_output, a_returnTo, a_frameVariable, a_frameLimit, a_frameBody)) : wpX_resetRun post (f_gosubDepth, f_forDepth, f_outCap, f_sourceLength, f_compiled, f_errorLine, f_tokenCount, f_tokenAt, f_heldCount, f_lineTotal, f_codeLength, f_dividedByZero, f_status, f_stopLine, f_steps, f_position, f_outputCount, f_gosubCount, f_frameCount, a_source, a_tokens, a_held, a_programOrder, a_lineNumber, a_lineKeyword, a_lineVariable, a_lineRelation, a_code, a_codeStart, a_codeEnd, a_operands, a_variables, a_output, a_returnTo, a_frameVariable, a_frameLimit, a_frameBody) := by
  refine ⟨27, ?_⟩
  have w := xx_resetL (f_outputCount := f_outputCount) (f_gosubCount := f_gosubCount) (f_frameCount := f_frameCount) (post := post) a_variables hp 26 0 rfl
  rw [tb_zr_0] at w
  exact w
theorem xx_forget {post : St2 → Prop} (hp : post (f_gosubDepth, f_forDepth, f_outCap, f_sourceLength, 0, 0, f_tokenCount, f_tokenAt, f_heldCount, 0, 0, f_dividedByZero, 0, -1, 0, 0, 0, 0, 0, a_source, a_tokens, a_held, a_programOrder, a_lineNumber, a_lineKeyword, a_lineVariable, a_lineRelation, a_code, a_codeStart, a_codeEnd, a_operands, tb_zr 26 a_variables, a_output, a_returnTo, a_frameVariable, a_frameLimit, a_frameBody)) : wpX_forgetProgram post (f_gosubDepth, f_forDepth, f_outCap, f_sourceLength, f_compiled, f_errorLine, f_tokenCount, f_tokenAt, f_heldCount, f_lineTotal, f_codeLength, f_dividedByZero, f_status, f_stopLine, f_steps, f_position, f_outputCount, f_gosubCount, f_frameCount, a_source, a_tokens, a_held, a_programOrder, a_lineNumber, a_lineKeyword, a_lineVariable, a_lineRelation, a_code, a_codeStart, a_codeEnd, a_operands, a_variables, a_output, a_returnTo, a_frameVariable, a_frameLimit, a_frameBody) := by
  unfold wpX_forgetProgram
  dsimp only
  exact xx_reset hp
end
theorem xx_clamp {post : Int32 → Prop} (x : Int32) (hi : Nat) (h1 : 1 ≤ hi) (h2 : hi < 2 ^ 31) (hp : ∀ r, 1 ≤ r → r ≤ hi → ((x < 1 ∧ r = 1) ∨ (¬ x < 1 ∧ ¬ x ≤ nI hi ∧ r = hi) ∨ (¬ x < 1 ∧ x = nI r)) → post (nI r)) : wpX_clamp post () x 1 (nI hi) := by
  by_cases z : (1 : Int32) ≤ x
  · have z' : ¬ x < 1 := Int32.not_lt.mpr z
    refine br_t z ?_
    by_cases y : x ≤ nI hi
    · refine br_t y ?_
      have z0 : ¬ x < 0 := fun w => z' (Int32.lt_trans w (by decide))
      obtain ⟨r, hr, e⟩ := nI_of z0
      subst e
      rw [nI_leI hr h2] at y
      have a : 1 ≤ r := (nI_leI (a := 1) (by omega) hr).mp z
      exact hp r a y (Or.inr (Or.inr ⟨z', rfl⟩))
    · exact br_f y (hp hi h1 (Nat.le_refl _) (Or.inr (Or.inl ⟨z', y, rfl⟩)))
  · exact br_f z (hp 1 (Nat.le_refl _) h1 (Or.inl ⟨Int32.not_le.mp z, rfl⟩))
