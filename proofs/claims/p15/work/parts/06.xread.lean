theorem tb_tz_e {C : Nat → Nat} {e d i : Nat} (h : e ≤ i) : tb_tz C e d i = some [] := by
  cases d with
  | zero => rfl
  | succ d => exact if_pos h
theorem tb_tz_s {C : Nat → Nat} {e d i : Nat} (h : ¬ e ≤ i) (z : C i = 32) : tb_tz C e (d + 1) i = tb_tz C e d (i + 1) := by
  show (if e ≤ i then _ else _) = _
  rw [if_neg h, if_pos z]
theorem tb_tz_b {C : Nat → Nat} {e d i : Nat} (h : ¬ e ≤ i) (z : ¬ C i = 32) (b : tb_tk C i e = 50000) : tb_tz C e (d + 1) i = none := by
  show (if e ≤ i then _ else _) = _
  rw [if_neg h, if_neg z, if_pos b]
theorem tb_tz_t {C : Nat → Nat} {e d i : Nat} (h : ¬ e ≤ i) (z : ¬ C i = 32) (b : ¬ tb_tk C i e = 50000) : tb_tz C e (d + 1) i = (tb_tz C e d (tb_te C i e)).map (List.cons (tb_tk C i e)) := by
  show (if e ≤ i then _ else _) = _
  rw [if_neg h, if_neg z, if_neg b]
theorem tb_nm1 {t : Nat} (h : t < 2 ^ 31) : ¬ nI t = -1 := fun e => by
  have := nI_pos h
  rw [e] at this
  exact this (by decide)
theorem tb_tk_lt {C : Nat → Nat} {i e : Nat} (b : ¬ tb_tk C i e = 50000) : tb_ok (tb_tk C i e) ∧ tb_tk C i e < 40214 := by
  rcases tb_tk_ok C i e with y | y
  · exact absurd y b
  · refine ⟨y, ?_⟩
    unfold tb_ok at y
    omega
section
variable {f_gosubDepth f_forDepth f_outCap f_sourceLength f_compiled f_errorLine f_tokenCount f_tokenAt f_heldCount f_lineTotal f_codeLength f_dividedByZero f_status f_stopLine f_steps f_position f_outputCount f_gosubCount f_frameCount : Int32} {a_tokens a_held a_programOrder a_lineNumber a_lineKeyword a_lineVariable a_lineRelation a_code a_codeStart a_codeEnd a_operands a_variables a_output a_returnTo a_frameVariable a_frameLimit a_frameBody : Nat → Int32} {C : Nat → Nat} {e : Nat}
theorem xx_readL {post : Int32 → St2 → Prop} (hC : ∀ j, C j < 127) (he : e ≤ 256) : ∀ (d i m p : Nat) (a_tokens : Nat → Int32), p + d = 40 → m ≤ p → i ≤ e →
    (tb_tz C e d i = none → ∀ k tk, post 0 (f_gosubDepth, f_forDepth, f_outCap, f_sourceLength, f_compiled, f_errorLine, k, f_tokenAt, f_heldCount, f_lineTotal, f_codeLength, f_dividedByZero, f_status, f_stopLine, f_steps, f_position, f_outputCount, f_gosubCount, f_frameCount, tb_S C, tk, a_held, a_programOrder, a_lineNumber, a_lineKeyword, a_lineVariable, a_lineRelation, a_code, a_codeStart, a_codeEnd, a_operands, a_variables, a_output, a_returnTo, a_frameVariable, a_frameLimit, a_frameBody)) →
    (∀ L, tb_tz C e d i = some L → ∀ tk, (∀ j, j < m → tk j = a_tokens j) → tb_sg tk m (L.map nI) → post 1 (f_gosubDepth, f_forDepth, f_outCap, f_sourceLength, f_compiled, f_errorLine, nI (m + L.length), f_tokenAt, f_heldCount, f_lineTotal, f_codeLength, f_dividedByZero, f_status, f_stopLine, f_steps, f_position, f_outputCount, f_gosubCount, f_frameCount, tb_S C, tk, a_held, a_programOrder, a_lineNumber, a_lineKeyword, a_lineVariable, a_lineRelation, a_code, a_codeStart, a_codeEnd, a_operands, a_variables, a_output, a_returnTo, a_frameVariable, a_frameLimit, a_frameBody)) →
    wX_readTokens_15 post (nI e) f_gosubDepth f_forDepth f_outCap f_sourceLength f_compiled f_errorLine f_tokenAt f_heldCount f_lineTotal f_codeLength f_dividedByZero f_status f_stopLine f_steps f_position f_outputCount f_gosubCount f_frameCount (d + 1) (nI i) (nI p) (nI m) (tb_S C) a_tokens a_held a_programOrder a_lineNumber a_lineKeyword a_lineVariable a_lineRelation a_code a_codeStart a_codeEnd a_operands a_variables a_output a_returnTo a_frameVariable a_frameLimit a_frameBody
  | 0, i, m, p, a_tokens, hp, hm, hi, hN, hS => pk_le 40 p (fun _ => hS [] rfl a_tokens (fun _ _ => rfl) trivial) (fun h => absurd h (by omega))
  | d + 1, i, m, p, a_tokens, hp, hm, hi, hN, hS => pk_le 40 p (fun h => absurd h (by omega)) (fun h40 => pk_le e i (fun hei => hS [] (tb_tz_e hei) a_tokens (fun _ _ => rfl) trivial) (fun hie => ⟨vp_in_nI (by omega) (by omega),
      pk_eq (C i) 32
        (fun z => nm_r (nI_1 i) (nm_r (nI_1 p) (xx_readL hC he d (i + 1) m (p + 1) a_tokens (by omega) (by omega) (by omega)
          (fun q => hN ((tb_tz_s (by omega) z).trans q)) (fun L q => hS L ((tb_tz_s (by omega) z).trans q)))))
        (fun z => xx_toklen hC he hie (xx_tokof hC he hie (by
          by_cases hb : tb_tk C i e = 50000
          · rw [hb, tb_tI_b]
            exact br_t rfl (hN (tb_tz_b (by omega) z hb) (nI m) a_tokens)
          · have ⟨ok, lt⟩ := tb_tk_lt hb
            have g1 := tb_te_gt C hie
            have g2 := tb_te_le C hie
            rw [tb_tI_n hb]
            refine br_f (tb_nm1 (by omega)) ⟨vp_in_nI (by omega) (by omega), nm_r (e' := upd a_tokens m (nI (tb_tk C i e))) (by rw [nI_clamp (by omega)]) (nm_r (nI_1 m) (nm_r (e' := nI (tb_te C i e)) (by rw [nI_add]; congr 1; omega) (nm_r (nI_1 p) ?_)))⟩
            refine xx_readL hC he d (tb_te C i e) (m + 1) (p + 1) (upd a_tokens m (nI (tb_tk C i e))) (by omega) (by omega) g2 (fun q => hN ?_) (fun L q tk h1 h2 => ?_)
            · rw [tb_tz_t (by omega) z hb, q]; rfl
            · have w := hS (tb_tk C i e :: L) (by rw [tb_tz_t (by omega) z hb, q]; rfl) tk (fun j hj => (h1 j (by omega)).trans (pk_un (by omega))) ⟨(h1 m (by omega)).trans pk_us, h2⟩
              rw [show m + (tb_tk C i e :: L).length = m + 1 + L.length from by simp only [List.length_cons]; omega] at w
              exact w)))
        (tb_rd (by omega)) rfl (by have := hC i; omega)⟩))
theorem xx_read {post : Int32 → St2 → Prop} {i : Nat} (hC : ∀ j, C j < 127) (he : e ≤ 256) (hi : i ≤ e)
    (hN : tb_tz C e 40 i = none → ∀ k tk, post 0 (f_gosubDepth, f_forDepth, f_outCap, f_sourceLength, f_compiled, f_errorLine, k, 0, f_heldCount, f_lineTotal, f_codeLength, f_dividedByZero, f_status, f_stopLine, f_steps, f_position, f_outputCount, f_gosubCount, f_frameCount, tb_S C, tk, a_held, a_programOrder, a_lineNumber, a_lineKeyword, a_lineVariable, a_lineRelation, a_code, a_codeStart, a_codeEnd, a_operands, a_variables, a_output, a_returnTo, a_frameVariable, a_frameLimit, a_frameBody))
    (hS : ∀ L, tb_tz C e 40 i = some L → ∀ tk, tb_sg tk 0 (L.map nI) → post 1 (f_gosubDepth, f_forDepth, f_outCap, f_sourceLength, f_compiled, f_errorLine, nI L.length, 0, f_heldCount, f_lineTotal, f_codeLength, f_dividedByZero, f_status, f_stopLine, f_steps, f_position, f_outputCount, f_gosubCount, f_frameCount, tb_S C, tk, a_held, a_programOrder, a_lineNumber, a_lineKeyword, a_lineVariable, a_lineRelation, a_code, a_codeStart, a_codeEnd, a_operands, a_variables, a_output, a_returnTo, a_frameVariable, a_frameLimit, a_frameBody)) : wpX_readTokens post (f_gosubDepth, f_forDepth, f_outCap, f_sourceLength, f_compiled, f_errorLine, f_tokenCount, f_tokenAt, f_heldCount, f_lineTotal, f_codeLength, f_dividedByZero, f_status, f_stopLine, f_steps, f_position, f_outputCount, f_gosubCount, f_frameCount, tb_S C, a_tokens, a_held, a_programOrder, a_lineNumber, a_lineKeyword, a_lineVariable, a_lineRelation, a_code, a_codeStart, a_codeEnd, a_operands, a_variables, a_output, a_returnTo, a_frameVariable, a_frameLimit, a_frameBody) (nI i) (nI e) :=
  ⟨41, xx_readL hC he 40 i 0 0 a_tokens rfl (Nat.le_refl _) hi hN (fun L q tk _ h2 => by
    have w := hS L q tk h2
    rw [Nat.zero_add]
    exact w)⟩
end
