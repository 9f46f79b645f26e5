section
variable {f_gosubDepth f_forDepth f_outCap f_sourceLength f_compiled f_errorLine f_tokenCount f_tokenAt f_heldCount f_lineTotal f_codeLength f_dividedByZero f_status f_stopLine f_steps f_position f_outputCount f_gosubCount : Int32} {a_source a_tokens a_held a_programOrder a_lineNumber a_lineKeyword a_lineVariable a_lineRelation a_code a_codeStart a_codeEnd a_operands a_variables a_output a_returnTo a_frameVariable a_frameLimit a_frameBody : Nat → Int32} {fc : Nat}
theorem xx_frameL {post : Int32 → Prop} {x : Int32} (hf : fc ≤ 8) (h1 : ∀ j, j < fc → a_frameVariable j = x → post (nI j)) (h0 : (∀ j, j < fc → a_frameVariable j ≠ x) → post (-1)) : ∀ d k, k + d = fc → (∀ q, q < k → a_frameVariable q ≠ x) → wX_findFrame_2 post x f_gosubDepth f_forDepth f_outCap f_sourceLength f_compiled f_errorLine f_tokenCount f_tokenAt f_heldCount f_lineTotal f_codeLength f_dividedByZero f_status f_stopLine f_steps f_position f_outputCount f_gosubCount (nI fc) a_source a_tokens a_held a_programOrder a_lineNumber a_lineKeyword a_lineVariable a_lineRelation a_code a_codeStart a_codeEnd a_operands a_variables a_output a_returnTo a_frameVariable a_frameLimit a_frameBody (d + 1) (nI k)
  | 0, k, hk, hq => pk_le fc k (fun _ => h0 (fun q hq' => hq q (by omega))) (fun z => absurd z (by omega))
  | d + 1, k, hk, hq => by
    refine pk_le fc k (fun z => absurd z (by omega)) (fun _ => ⟨vp_in_nI (by omega) (by omega), ?_⟩)
    rw [nI_clamp (by omega)]
    by_cases z : a_frameVariable k = x
    · exact br_t z (h1 k (by omega) z)
    · refine br_f z (nm_r (nI_1 k) (xx_frameL hf h1 h0 d (k + 1) (by omega) (fun q hq' => ?_)))
      rcases Nat.lt_or_ge q k with y | y
      · exact hq q y
      · have : q = k := by omega
        subst this
        exact z
theorem xx_frame {post : Int32 → Prop} {x : Int32} (hf : fc ≤ 8) (h1 : ∀ j, j < fc → a_frameVariable j = x → post (nI j)) (h0 : (∀ j, j < fc → a_frameVariable j ≠ x) → post (-1)) : wpX_findFrame post (f_gosubDepth, f_forDepth, f_outCap, f_sourceLength, f_compiled, f_errorLine, f_tokenCount, f_tokenAt, f_heldCount, f_lineTotal, f_codeLength, f_dividedByZero, f_status, f_stopLine, f_steps, f_position, f_outputCount, f_gosubCount, nI fc, a_source, a_tokens, a_held, a_programOrder, a_lineNumber, a_lineKeyword, a_lineVariable, a_lineRelation, a_code, a_codeStart, a_codeEnd, a_operands, a_variables, a_output, a_returnTo, a_frameVariable, a_frameLimit, a_frameBody) x :=
  ⟨fc + 1, xx_frameL hf h1 h0 fc 0 (by omega) (fun q hq => by omega)⟩
end
