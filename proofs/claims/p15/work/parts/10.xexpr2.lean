theorem tb_tok_rd {a : Nat → Int32} {L : List Nat} (h : tb_sg a 0 (L.map nI)) {i : Nat} (hi : i < L.length) (hn : L.length ≤ 40) : a (nI i).toNatClampNeg = nI (tb_T L i) := by
  rw [nI_clamp (by omega)]
  have := tb_sg_T nI h i hi
  rw [Nat.zero_add] at this
  exact this
theorem tb_ok_lt {L : List Nat} (hok : ∀ t, t ∈ L → tb_ok t) (i : Nat) : tb_T L i < 40214 := by
  rcases Nat.lt_or_ge i L.length with z | z
  · have := hok _ (tb_T_mem z)
    unfold tb_ok at this
    omega
  · rw [tb_T_out z]; omega
section
variable {f_gosubDepth f_forDepth f_outCap f_sourceLength f_compiled f_errorLine f_tokenCount f_tokenAt f_heldCount f_lineTotal f_codeLength f_dividedByZero f_status f_stopLine f_steps f_position f_outputCount f_gosubCount f_frameCount : Int32} {a_source a_tokens a_held a_programOrder a_lineNumber a_lineKeyword a_lineVariable a_lineRelation a_code a_codeStart a_codeEnd a_operands a_variables a_output a_returnTo a_frameVariable a_frameLimit a_frameBody : Nat → Int32}
theorem xx_xL {post : Int32 → St2 → Prop} {L : List Nat} {k c0 : Nat} {cd0 : Nat → Int32} (hk48 : k < 48) (hL : L.length ≤ 40) (hok : ∀ t, t ∈ L → tb_ok t) (htk : tb_sg a_tokens 0 (L.map nI)) :
    ∀ (d i : Nat) (b : Bool) (h c : List Nat) (a_held a_code : Nat → Int32), tb_hk h → tb_sk a_held (h.map nI) → tb_sg a_code c0 (c.map nI) → (∀ j, j < c0 → a_code j = cd0 j) →
    h.length + (L.length - i) ≤ 40 → c0 + c.length + h.length + (L.length - i) ≤ 256 → L.length < i + d → i ≤ L.length →
    (tb_xp (tb_T L) L.length d i b h c = none → ∀ hc cl ta hd cd ce, post 0 (f_gosubDepth, f_forDepth, f_outCap, f_sourceLength, f_compiled, f_errorLine, nI L.length, ta, hc, f_lineTotal, cl, f_dividedByZero, f_status, f_stopLine, f_steps, f_position, f_outputCount, f_gosubCount, f_frameCount, a_source, a_tokens, hd, a_programOrder, a_lineNumber, a_lineKeyword, a_lineVariable, a_lineRelation, cd, a_codeStart, ce, a_operands, a_variables, a_output, a_returnTo, a_frameVariable, a_frameLimit, a_frameBody)) →
    (∀ e c', tb_xp (tb_T L) L.length d i b h c = some (e, c') → ∀ hd cd, (∀ j, j < c0 → cd j = cd0 j) → tb_sg cd c0 (c'.map nI) → post 1 (f_gosubDepth, f_forDepth, f_outCap, f_sourceLength, f_compiled, f_errorLine, nI L.length, nI e, 0, f_lineTotal, nI (c0 + c'.length), f_dividedByZero, f_status, f_stopLine, f_steps, f_position, f_outputCount, f_gosubCount, f_frameCount, a_source, a_tokens, hd, a_programOrder, a_lineNumber, a_lineKeyword, a_lineVariable, a_lineRelation, cd, a_codeStart, upd a_codeEnd k (nI (c0 + c'.length)), a_operands, a_variables, a_output, a_returnTo, a_frameVariable, a_frameLimit, a_frameBody)) →
    wX_takeExpression_22 post (nI k) d (if b = true then 1 else 0) (nI i) f_gosubDepth f_forDepth f_outCap f_sourceLength f_compiled f_errorLine (nI L.length) f_tokenAt (nI h.length) f_lineTotal (nI (c0 + c.length)) f_dividedByZero f_status f_stopLine f_steps f_position f_outputCount f_gosubCount f_frameCount a_source a_tokens a_held a_programOrder a_lineNumber a_lineKeyword a_lineVariable a_lineRelation a_code a_codeStart a_codeEnd a_operands a_variables a_output a_returnTo a_frameVariable a_frameLimit a_frameBody
  | 0, i, b, h, c, a_held, a_code, hk, hs, hg, h0, l1, l2, hd, hi, hN, hS => absurd hd (by omega)
  | d + 1, i, true, h, c, a_held, a_code, hk, hs, hg, h0, l1, l2, hd, hi, hN, hS => by
    have hT := tb_ok_lt hok i
    show wX_takeExpression_22 post (nI k) (d + 1) 1 (nI i) f_gosubDepth f_forDepth f_outCap f_sourceLength f_compiled f_errorLine (nI L.length) f_tokenAt (nI h.length) f_lineTotal (nI (c0 + c.length)) f_dividedByZero f_status f_stopLine f_steps f_position f_outputCount f_gosubCount f_frameCount a_source a_tokens a_held a_programOrder a_lineNumber a_lineKeyword a_lineVariable a_lineRelation a_code a_codeStart a_codeEnd a_operands a_variables a_output a_returnTo a_frameVariable a_frameLimit a_frameBody
    refine pk_le L.length i (fun z => ?_) (fun z => ?_)
    · exact xx_181 (b := true) hk48 hk hs (by omega) (by omega) hg h0 (fun _ => hN (tb_xp_te z)) (fun q => by cases q)
    · have OPD : (tb_T L i ≤ 32767 ∨ (40000 ≤ tb_T L i ∧ tb_T L i < 40026)) → wX_takeExpression_65 post (wX_takeExpression_22 post (nI k) d) (nI k) (nI i) (nI (tb_T L i)) f_gosubDepth f_forDepth f_outCap f_sourceLength f_compiled f_errorLine (nI L.length) f_tokenAt (nI h.length) f_lineTotal (nI (c0 + c.length)) f_dividedByZero f_status f_stopLine f_steps f_position f_outputCount f_gosubCount f_frameCount a_source a_tokens a_held a_programOrder a_lineNumber a_lineKeyword a_lineVariable a_lineRelation a_code a_codeStart a_codeEnd a_operands a_variables a_output a_returnTo a_frameVariable a_frameLimit a_frameBody := fun y => by
        refine xx_emit (by omega) (nm_r (nI_1 i) ?_)
        have e1 : c0 + (c ++ [tb_T L i]).length = c0 + c.length + 1 := by rw [List.length_append]; rfl
        have g2 : tb_sg (upd a_code (c0 + c.length) (nI (tb_T L i))) c0 ((c ++ [tb_T L i]).map nI) := by
          rw [List.map_append]
          have := tb_sg_put (x := nI (tb_T L i)) hg
          rw [List.length_map] at this
          exact this
        have w := xx_xL hk48 hL hok htk d (i + 1) false h (c ++ [tb_T L i]) a_held (upd a_code (c0 + c.length) (nI (tb_T L i))) hk hs g2 (fun j hj => (pk_un (by omega)).trans (h0 j hj)) (by omega) (by omega) (by omega) (by omega)
          (fun q => hN ((tb_xp_to (by omega) y).trans q)) (fun e c' q => hS e c' ((tb_xp_to (by omega) y).trans q))
        rw [e1] at w
        exact w
      refine ⟨vp_in_nI (by omega) (by omega), nm_r (tb_tok_rd htk (by omega) hL) (xx_rank (tb_T L i) rfl (by omega) (br_f tb_10 (xx_isnum (tb_T L i) (by omega) (fun z1 => br_f tb_10 (OPD (Or.inl z1))) (fun z1 => br_t rfl (xx_isvar (tb_T L i) (by omega) (fun z2 => br_f tb_10 (OPD (Or.inr z2))) (fun z2 => br_t rfl ?_))))))⟩
      refine br_f tb_10 (pk_eq (tb_T L i) 40202 (fun z3 => ?_) (fun z3 => br_f tb_10 (pk_eq (tb_T L i) 40206 (fun z4 => ?_) (fun z4 => ?_))))
      · exact xx_hold (by omega) (nm_r (nI_1 i) (xx_xL hk48 hL hok htk d (i + 1) true (40205 :: h) c (upd a_held h.length (nI 40205)) a_code (tb_hk_c (by omega) hk) (tb_sk_ph 40205 hs) hg h0 (by simp only [List.length_cons]; omega) (by simp only [List.length_cons]; omega) (by omega) (by omega)
          (fun q => hN ((tb_xp_tm (by omega) z3).trans q)) (fun e c' q => hS e c' ((tb_xp_tm (by omega) z3).trans q))))
      · exact xx_hold (by omega) (nm_r (nI_1 i) (xx_xL hk48 hL hok htk d (i + 1) true (40206 :: h) c (upd a_held h.length (nI 40206)) a_code (tb_hk_c (by omega) hk) (tb_sk_ph 40206 hs) hg h0 (by simp only [List.length_cons]; omega) (by simp only [List.length_cons]; omega) (by omega) (by omega)
          (fun q => hN ((tb_xp_tp (by omega) z4).trans q)) (fun e c' q => hS e c' ((tb_xp_tp (by omega) z4).trans q))))
      · exact br_f tb_10 (hN (tb_xp_tn (by omega) (by omega) z3 z4) _ _ _ _ _ _)
  | d + 1, i, false, h, c, a_held, a_code, hk, hs, hg, h0, l1, l2, hd, hi, hN, hS => by
    have hT := tb_ok_lt hok i
    show wX_takeExpression_22 post (nI k) (d + 1) 0 (nI i) f_gosubDepth f_forDepth f_outCap f_sourceLength f_compiled f_errorLine (nI L.length) f_tokenAt (nI h.length) f_lineTotal (nI (c0 + c.length)) f_dividedByZero f_status f_stopLine f_steps f_position f_outputCount f_gosubCount f_frameCount a_source a_tokens a_held a_programOrder a_lineNumber a_lineKeyword a_lineVariable a_lineRelation a_code a_codeStart a_codeEnd a_operands a_variables a_output a_returnTo a_frameVariable a_frameLimit a_frameBody
    have FIN : (L.length ≤ i ∨ (¬ 0 < tb_rk (tb_T L i) ∧ tb_T L i ≠ 40207)) → wX_takeExpression_181 post (nI k) 0 (nI i) f_gosubDepth f_forDepth f_outCap f_sourceLength f_compiled f_errorLine (nI L.length) f_tokenAt (nI h.length) f_lineTotal (nI (c0 + c.length)) f_dividedByZero f_status f_stopLine f_steps f_position f_outputCount f_gosubCount f_frameCount a_source a_tokens a_held a_programOrder a_lineNumber a_lineKeyword a_lineVariable a_lineRelation a_code a_codeStart a_codeEnd a_operands a_variables a_output a_returnTo a_frameVariable a_frameLimit a_frameBody := fun z =>
      xx_181 (b := false) hk48 hk hs (by omega) (by omega) hg h0 (fun q => hN (by rw [tb_xp_fe z]; exact if_neg (fun y => q ⟨rfl, y⟩))) (fun _ q => hS i (c ++ tb_rp 1 h) (by rw [tb_xp_fe z]; exact if_pos q))
    refine pk_le L.length i (fun z => FIN (Or.inl z)) (fun z => ⟨vp_in_nI (by omega) (by omega), nm_r (tb_tok_rd htk (by omega) hL) (xx_rank (tb_T L i) rfl (by omega) (br_t rfl (br_t rfl (br_t rfl (br_t rfl ?_)))))⟩)
    have r3 := tb_rk_le (tb_T L i)
    refine pk_le (tb_rk (tb_T L i)) 0 (fun r0 => pk_eq (tb_T L i) 40207 (fun z2 => ?_) (fun z2 => FIN (Or.inr ⟨by omega, z2⟩))) (fun r0 => ?_)
    · refine xx_rel (r := 1) (by omega) hk hs (by omega) (by omega) (fun cd c1 c2 => ?_)
      have q1 := tb_rpr 1 h
      have g2 := tb_sg_more hg c1 c2
      by_cases y : tb_rr 1 h = []
      · rw [y]
        exact br_t rfl (hN (by rw [tb_xp_fc (by omega) z2]; exact if_pos y) _ _ _ _ _ _)
      · have len : 0 < (tb_rr 1 h).length := List.length_pos_iff.mpr y
        have lt : (tb_rr 1 h).tail.length = (tb_rr 1 h).length - 1 := List.length_tail
        have e1 : c0 + (c ++ tb_rp 1 h).length = c0 + c.length + (tb_rp 1 h).length := by rw [List.length_append, Nat.add_assoc]
        have w := xx_xL hk48 hL hok htk d (i + 1) false (tb_rr 1 h).tail (c ++ tb_rp 1 h) a_held cd (tb_hk_tl (tb_hk_rr 1 h hk)) (tb_sk_tail (tb_sk_rr 1 hs)) g2 (fun j hj => (c1 j (by omega)).trans (h0 j hj)) (by omega) (by omega) (by omega) (by omega)
          (fun q => hN (by rw [tb_xp_fc (by omega) z2, if_neg y]; exact q)) (fun e c' q => hS e c' (by rw [tb_xp_fc (by omega) z2, if_neg y]; exact q))
        rw [e1, lt] at w
        refine br_f (nI_ne0 len (by omega)) (nm_r (e' := nI ((tb_rr 1 h).length - 1)) ?_ (nm_r (nI_1 i) w))
        exact pk_sub (b := 1) (by omega)
    · refine xx_rel r3 hk hs (by omega) (by omega) (fun cd c1 c2 => ?_)
      have q1 := tb_rpr (tb_rk (tb_T L i)) h
      have g2 := tb_sg_more hg c1 c2
      have e1 : c0 + (c ++ tb_rp (tb_rk (tb_T L i)) h).length = c0 + c.length + (tb_rp (tb_rk (tb_T L i)) h).length := by rw [List.length_append, Nat.add_assoc]
      have rp := tb_rk_pos.mp r0
      refine xx_hold (by omega) (nm_r (nI_1 i) ?_)
      have w := xx_xL hk48 hL hok htk d (i + 1) true (tb_T L i :: tb_rr (tb_rk (tb_T L i)) h) (c ++ tb_rp (tb_rk (tb_T L i)) h) (upd a_held (tb_rr (tb_rk (tb_T L i)) h).length (nI (tb_T L i))) cd (tb_hk_c (by omega) (tb_hk_rr _ h hk)) (tb_sk_ph _ (tb_sk_rr _ hs)) g2 (fun j hj => (c1 j (by omega)).trans (h0 j hj)) (by simp only [List.length_cons]; omega) (by simp only [List.length_cons]; omega) (by omega) (by omega)
        (fun q => hN ((tb_xp_fo (by omega) r0).trans q)) (fun e c' q => hS e c' ((tb_xp_fo (by omega) r0).trans q))
      rw [e1] at w
      exact w
theorem xx_expr {post : Int32 → St2 → Prop} {L : List Nat} {k c0 p : Nat} (hk48 : k < 48) (hL : L.length ≤ 40) (hok : ∀ t, t ∈ L → tb_ok t) (htk : tb_sg a_tokens 0 (L.map nI)) (hp : p ≤ L.length) (hc : c0 + (L.length - p) ≤ 256)
    (hN : tb_xe L p = none → ∀ hc cl ta hd cd ce, post 0 (f_gosubDepth, f_forDepth, f_outCap, f_sourceLength, f_compiled, f_errorLine, nI L.length, ta, hc, f_lineTotal, cl, f_dividedByZero, f_status, f_stopLine, f_steps, f_position, f_outputCount, f_gosubCount, f_frameCount, a_source, a_tokens, hd, a_programOrder, a_lineNumber, a_lineKeyword, a_lineVariable, a_lineRelation, cd, upd a_codeStart k (nI c0), ce, a_operands, a_variables, a_output, a_returnTo, a_frameVariable, a_frameLimit, a_frameBody))
    (hS : ∀ e c, tb_xe L p = some (e, c) → p ≤ e → e ≤ L.length → c.length ≤ e - p → ∀ hd cd, (∀ j, j < c0 → cd j = a_code j) → tb_sg cd c0 (c.map nI) → post 1 (f_gosubDepth, f_forDepth, f_outCap, f_sourceLength, f_compiled, f_errorLine, nI L.length, nI e, 0, f_lineTotal, nI (c0 + c.length), f_dividedByZero, f_status, f_stopLine, f_steps, f_position, f_outputCount, f_gosubCount, f_frameCount, a_source, a_tokens, hd, a_programOrder, a_lineNumber, a_lineKeyword, a_lineVariable, a_lineRelation, cd, upd a_codeStart k (nI c0), upd a_codeEnd k (nI (c0 + c.length)), a_operands, a_variables, a_output, a_returnTo, a_frameVariable, a_frameLimit, a_frameBody)) :
    wpX_takeExpression post (f_gosubDepth, f_forDepth, f_outCap, f_sourceLength, f_compiled, f_errorLine, nI L.length, nI p, f_heldCount, f_lineTotal, nI c0, f_dividedByZero, f_status, f_stopLine, f_steps, f_position, f_outputCount, f_gosubCount, f_frameCount, a_source, a_tokens, a_held, a_programOrder, a_lineNumber, a_lineKeyword, a_lineVariable, a_lineRelation, a_code, a_codeStart, a_codeEnd, a_operands, a_variables, a_output, a_returnTo, a_frameVariable, a_frameLimit, a_frameBody) (nI k) := by
  refine ⟨vp_in_nI hk48 (by omega), nm_r (e' := upd a_codeStart k (nI c0)) (by rw [nI_clamp (by omega)]) ⟨42, ?_⟩⟩
  refine xx_xL (cd0 := a_code) hk48 hL hok htk 42 p true [] [] a_held a_code tb_hk_0 trivial trivial (fun _ _ => rfl) (by simp only [List.length_nil]; omega) (by simp only [List.length_nil]; omega) (by omega) hp hN (fun e c q => ?_)
  have ⟨a, b, g⟩ := tb_xp_le _ _ _ _ _ _ _ _ _ q
  simp only [List.length_nil] at g
  exact hS e c q a (b hp) (by omega)
end
