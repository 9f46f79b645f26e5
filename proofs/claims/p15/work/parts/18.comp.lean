/-! ===== compile, both sides line by line ===== -/
/-- where the physical line that has i ends -/
def tb_le (C : Nat → Nat) : Nat → Nat → Nat
  | 0, i => i
  | d + 1, i => if C i = 10 then i else tb_le C d (i + 1)
theorem tb_le_in (C : Nat → Nat) : ∀ d i, i ≤ tb_le C d i ∧ tb_le C d i ≤ i + d
  | 0, i => ⟨Nat.le_refl _, Nat.le_refl _⟩
  | d + 1, i => by
    unfold tb_le
    have := tb_le_in C d (i + 1)
    split <;> omega
theorem tb_le_t {C : Nat → Nat} {d i : Nat} (h : C i = 10) : tb_le C (d + 1) i = i := if_pos h
theorem tb_le_f {C : Nat → Nat} {d i : Nat} (h : ¬ C i = 10) : tb_le C (d + 1) i = tb_le C d (i + 1) := if_neg h
section
variable {f_gosubDepth f_forDepth f_outCap f_compiled f_errorLine f_tokenCount f_tokenAt f_heldCount f_lineTotal f_codeLength f_dividedByZero f_status f_stopLine f_steps f_position f_outputCount f_gosubCount f_frameCount : Int32} {a_tokens a_held a_programOrder a_lineNumber a_lineKeyword a_lineVariable a_lineRelation a_code a_codeStart a_codeEnd a_operands a_variables a_output a_returnTo a_frameVariable a_frameLimit a_frameBody : Nat → Int32} {C : Nat → Nat} {n s k e : Nat} {post : Int32 → St2 → Prop}
theorem xx_scanL (hC : ∀ j, C j < 127) (hn : n ≤ 256) (K : ∀ F, n + 1 ≤ F + e → wX_compile_47 post (wX_compile_13 post F) (nI k) (nI s) (nI e) f_gosubDepth f_forDepth f_outCap (nI n) f_compiled f_errorLine f_tokenCount f_tokenAt f_heldCount f_lineTotal f_codeLength f_dividedByZero f_status f_stopLine f_steps f_position f_outputCount f_gosubCount f_frameCount (tb_S C) a_tokens a_held a_programOrder a_lineNumber a_lineKeyword a_lineVariable a_lineRelation a_code a_codeStart a_codeEnd a_operands a_variables a_output a_returnTo a_frameVariable a_frameLimit a_frameBody) :
    ∀ d i F, i + d = n → tb_le C d i = e → n + 2 ≤ F + i → wX_compile_13 post F 0 (nI k) (nI s) (nI i) f_gosubDepth f_forDepth f_outCap (nI n) f_compiled f_errorLine f_tokenCount f_tokenAt f_heldCount f_lineTotal f_codeLength f_dividedByZero f_status f_stopLine f_steps f_position f_outputCount f_gosubCount f_frameCount (tb_S C) a_tokens a_held a_programOrder a_lineNumber a_lineKeyword a_lineVariable a_lineRelation a_code a_codeStart a_codeEnd a_operands a_variables a_output a_returnTo a_frameVariable a_frameLimit a_frameBody
  | 0, i, F, hi, he, hF => by
    obtain ⟨G, rfl⟩ : ∃ G, F = G + 1 := ⟨F - 1, by omega⟩
    have ee : i = e := he
    subst ee
    refine pk_lt n i (fun z => absurd z (by omega)) (fun _ => br_t rfl (pk_eq i n (fun _ => K G (by omega)) (fun z => absurd z (by omega))))
  | d + 1, i, F, hi, he, hF => by
    obtain ⟨G, rfl⟩ : ∃ G, F = G + 1 := ⟨F - 1, by omega⟩
    refine pk_lt n i (fun z => absurd z (by omega)) (fun _ => br_t rfl (pk_eq i n (fun z => absurd z (by omega)) (fun _ => ⟨vp_in_nI (by omega) (by omega), pk_eq (C i) 10 (fun z => ?_) (fun z => nm_r (nI_1 i) (xx_scanL hC hn K d (i + 1) G (by omega) ((tb_le_f z).symm.trans he) (by omega))) (tb_rd (by omega)) rfl (by have := hC i; omega)⟩)))
    have ee : i = e := (tb_le_t z).symm.trans he
    subst ee
    exact K G (by omega)
end
section
variable {f_gosubDepth f_forDepth f_outCap f_sourceLength f_compiled f_errorLine f_tokenCount f_tokenAt f_heldCount f_lineTotal f_codeLength f_dividedByZero f_status f_stopLine f_steps f_position f_outputCount f_gosubCount f_frameCount : Int32} {a_source a_tokens a_held a_programOrder a_lineNumber a_lineKeyword a_lineVariable a_lineRelation a_code a_codeStart a_codeEnd a_operands a_variables a_output a_returnTo a_frameVariable a_frameLimit a_frameBody : Nat → Int32} {post : Int32 → St2 → Prop} {x2 x3 x4 r : Int32}
theorem xx_cerr {F : Nat} (hF : 1 ≤ F) (hr : ¬ r = 0) (hp : post r (f_gosubDepth, f_forDepth, f_outCap, f_sourceLength, f_compiled, x2, f_tokenCount, f_tokenAt, f_heldCount, 0, f_codeLength, f_dividedByZero, f_status, f_stopLine, f_steps, f_position, f_outputCount, f_gosubCount, f_frameCount, a_source, a_tokens, a_held, a_programOrder, a_lineNumber, a_lineKeyword, a_lineVariable, a_lineRelation, a_code, a_codeStart, a_codeEnd, a_operands, a_variables, a_output, a_returnTo, a_frameVariable, a_frameLimit, a_frameBody)) : wX_compile_13 post F r x2 x3 x4 f_gosubDepth f_forDepth f_outCap f_sourceLength f_compiled f_errorLine f_tokenCount f_tokenAt f_heldCount f_lineTotal f_codeLength f_dividedByZero f_status f_stopLine f_steps f_position f_outputCount f_gosubCount f_frameCount a_source a_tokens a_held a_programOrder a_lineNumber a_lineKeyword a_lineVariable a_lineRelation a_code a_codeStart a_codeEnd a_operands a_variables a_output a_returnTo a_frameVariable a_frameLimit a_frameBody := by
  obtain ⟨G, rfl⟩ : ∃ G, F = G + 1 := ⟨F - 1, by omega⟩
  exact br_c (fun _ => br_f hr hp) (fun _ => br_f hr (br_f hr hp))
theorem xx_cend {F n i : Nat} (hF : 1 ≤ F) (hn : n ≤ 256) (hi : n < i) (hi2 : i ≤ 300) (hp : post 0 (f_gosubDepth, f_forDepth, f_outCap, nI n, 1, f_errorLine, f_tokenCount, f_tokenAt, f_heldCount, f_lineTotal, f_codeLength, f_dividedByZero, f_status, f_stopLine, f_steps, f_position, f_outputCount, f_gosubCount, f_frameCount, a_source, a_tokens, a_held, a_programOrder, a_lineNumber, a_lineKeyword, a_lineVariable, a_lineRelation, a_code, a_codeStart, a_codeEnd, a_operands, a_variables, a_output, a_returnTo, a_frameVariable, a_frameLimit, a_frameBody)) : wX_compile_13 post F 0 x2 x3 (nI i) f_gosubDepth f_forDepth f_outCap (nI n) f_compiled f_errorLine f_tokenCount f_tokenAt f_heldCount f_lineTotal f_codeLength f_dividedByZero f_status f_stopLine f_steps f_position f_outputCount f_gosubCount f_frameCount a_source a_tokens a_held a_programOrder a_lineNumber a_lineKeyword a_lineVariable a_lineRelation a_code a_codeStart a_codeEnd a_operands a_variables a_output a_returnTo a_frameVariable a_frameLimit a_frameBody := by
  obtain ⟨G, rfl⟩ : ∃ G, F = G + 1 := ⟨F - 1, by omega⟩
  exact pk_lt n i (fun _ => br_t rfl hp) (fun z => absurd z (by omega))
end
