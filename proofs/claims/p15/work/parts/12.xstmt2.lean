section
variable {L : List Nat}
theorem tb_so_let (h : tb_so L) (k : tb_T L 1 = 40101) : tb_iv (tb_T L 2) ∧ tb_T L 3 = 40208 ∧ ∃ c, tb_xe L 4 = some (L.length, c) := by
  rcases h.2.2.2 with y | y | y | y | y | y
  · exact y.2
  all_goals omega
theorem tb_so_exp (h : tb_so L) (k : tb_T L 1 = 40102 ∨ tb_T L 1 = 40105 ∨ tb_T L 1 = 40106) : ∃ c, tb_xe L 2 = some (L.length, c) := by
  rcases h.2.2.2 with y | y | y | y | y | y
  · omega
  · exact y.2
  all_goals omega
theorem tb_so_if (h : tb_so L) (k : tb_T L 1 = 40103) : ∃ a c1, tb_xe L 2 = some (a, c1) ∧ tb_ir (tb_T L a) ∧ ∃ b c2, tb_xe L (a + 1) = some (b, c2) ∧ tb_T L b = 40104 ∧ ∃ c3, tb_xe L (b + 1) = some (L.length, c3) := by
  rcases h.2.2.2 with y | y | y | y | y | y
  · omega
  · omega
  · exact y.2
  all_goals omega
theorem tb_so_for (h : tb_so L) (k : tb_T L 1 = 40108) : tb_iv (tb_T L 2) ∧ tb_T L 3 = 40208 ∧ ∃ a c1, tb_xe L 4 = some (a, c1) ∧ tb_T L a = 40109 ∧ ∃ c2, tb_xe L (a + 1) = some (L.length, c2) := by
  rcases h.2.2.2 with y | y | y | y | y | y
  · omega
  · omega
  · omega
  · exact y.2
  all_goals omega
theorem tb_so_next (h : tb_so L) (k : tb_T L 1 = 40110) : tb_iv (tb_T L 2) ∧ L.length = 3 := by
  rcases h.2.2.2 with y | y | y | y | y | y
  · omega
  · omega
  · omega
  · omega
  · exact y.2
  · omega
theorem tb_so_end (h : tb_so L) (k : tb_T L 1 = 40107 ∨ tb_T L 1 = 40111) : L.length = 2 := by
  rcases h.2.2.2 with y | y | y | y | y | y
  · omega
  · omega
  · omega
  · omega
  · omega
  · exact y.2
theorem tb_so_kw (h : tb_so L) : tb_T L 1 = 40101 ∨ tb_T L 1 = 40102 ∨ tb_T L 1 = 40103 ∨ tb_T L 1 = 40105 ∨ tb_T L 1 = 40106 ∨ tb_T L 1 = 40107 ∨ tb_T L 1 = 40108 ∨ tb_T L 1 = 40110 ∨ tb_T L 1 = 40111 := by
  rcases h.2.2.2 with y | y | y | y | y | y <;> omega
end
section
variable {f_gosubDepth f_forDepth f_outCap f_sourceLength f_compiled f_errorLine f_tokenCount f_tokenAt f_heldCount f_lineTotal f_codeLength f_dividedByZero f_status f_stopLine f_steps f_position f_outputCount f_gosubCount f_frameCount : Int32} {a_source a_tokens a_held a_programOrder a_lineNumber a_lineKeyword a_lineVariable a_lineRelation a_code a_codeStart a_codeEnd a_operands a_variables a_output a_returnTo a_frameVariable a_frameLimit a_frameBody : Nat → Int32} {L : List Nat} {l : Nat}
theorem xx_exprx {post : Int32 → St2 → Prop} {k c0 p : Nat} {x : Int32} (hx : x = nI k) (hk48 : k < 48) (hL : L.length ≤ 40) (hok : ∀ t, t ∈ L → tb_ok t) (htk : tb_sg a_tokens 0 (L.map nI)) (hp : p ≤ L.length) (hc : c0 + (L.length - p) ≤ 256)
    (hN : tb_xe L p = none → ∀ hc cl ta hd cd ce, post 0 (f_gosubDepth, f_forDepth, f_outCap, f_sourceLength, f_compiled, f_errorLine, nI L.length, ta, hc, f_lineTotal, cl, f_dividedByZero, f_status, f_stopLine, f_steps, f_position, f_outputCount, f_gosubCount, f_frameCount, a_source, a_tokens, hd, a_programOrder, a_lineNumber, a_lineKeyword, a_lineVariable, a_lineRelation, cd, upd a_codeStart k (nI c0), ce, a_operands, a_variables, a_output, a_returnTo, a_frameVariable, a_frameLimit, a_frameBody))
    (hS : ∀ e c, tb_xe L p = some (e, c) → p ≤ e → e ≤ L.length → c.length ≤ e - p → ∀ hd cd, (∀ j, j < c0 → cd j = a_code j) → tb_sg cd c0 (c.map nI) → post 1 (f_gosubDepth, f_forDepth, f_outCap, f_sourceLength, f_compiled, f_errorLine, nI L.length, nI e, 0, f_lineTotal, nI (c0 + c.length), f_dividedByZero, f_status, f_stopLine, f_steps, f_position, f_outputCount, f_gosubCount, f_frameCount, a_source, a_tokens, hd, a_programOrder, a_lineNumber, a_lineKeyword, a_lineVariable, a_lineRelation, cd, upd a_codeStart k (nI c0), upd a_codeEnd k (nI (c0 + c.length)), a_operands, a_variables, a_output, a_returnTo, a_frameVariable, a_frameLimit, a_frameBody)) :
    wpX_takeExpression post (f_gosubDepth, f_forDepth, f_outCap, f_sourceLength, f_compiled, f_errorLine, nI L.length, nI p, f_heldCount, f_lineTotal, nI c0, f_dividedByZero, f_status, f_stopLine, f_steps, f_position, f_outputCount, f_gosubCount, f_frameCount, a_source, a_tokens, a_held, a_programOrder, a_lineNumber, a_lineKeyword, a_lineVariable, a_lineRelation, a_code, a_codeStart, a_codeEnd, a_operands, a_variables, a_output, a_returnTo, a_frameVariable, a_frameLimit, a_frameBody) x := by
  subst hx
  exact xx_expr hk48 hL hok htk hp hc hN hS
theorem xx_stmt {post : Int32 → St2 → Prop} {c0 : Nat} (hL : L.length ≤ 40) (hok : ∀ t, t ∈ L → tb_ok t) (htk : tb_sg a_tokens 0 (L.map nI)) (hl : l < 16) (hc : c0 + L.length ≤ 256) (h1n : 1 ≤ L.length) (hln : a_lineNumber l = nI (tb_T L 0)) (h00 : 1 ≤ tb_T L 0 ∧ tb_T L 0 ≤ 32767)
    (hF0 : ¬ tb_so L → ∀ ta hc cl hd lk lv lr cd cs ce, post 0 (f_gosubDepth, f_forDepth, f_outCap, f_sourceLength, f_compiled, f_errorLine, nI L.length, ta, hc, f_lineTotal, cl, f_dividedByZero, f_status, f_stopLine, f_steps, f_position, f_outputCount, f_gosubCount, f_frameCount, a_source, a_tokens, hd, a_programOrder, a_lineNumber, lk, lv, lr, cd, cs, ce, a_operands, a_variables, a_output, a_returnTo, a_frameVariable, a_frameLimit, a_frameBody))
    (hF1 : ¬ tb_so L → ∀ ta hc cl hd lk lv lr cd cs ce, ta < L.length → post 1 (f_gosubDepth, f_forDepth, f_outCap, f_sourceLength, f_compiled, f_errorLine, nI L.length, nI ta, hc, f_lineTotal, cl, f_dividedByZero, f_status, f_stopLine, f_steps, f_position, f_outputCount, f_gosubCount, f_frameCount, a_source, a_tokens, hd, a_programOrder, a_lineNumber, lk, lv, lr, cd, cs, ce, a_operands, a_variables, a_output, a_returnTo, a_frameVariable, a_frameLimit, a_frameBody))
    (hS : tb_so L → ∀ hc cl hd lk lv lr cd cs ce, tb_lo L l a_lineNumber lk lv lr cd cs ce cl → c0 ≤ cl → cl ≤ c0 + L.length → (∀ j, j < c0 → cd j = a_code j) → (∀ j, j < l * 3 → cs j = a_codeStart j) → (∀ j, j < l * 3 → ce j = a_codeEnd j) →
      (∀ j, j < l → lk j = a_lineKeyword j) → (∀ j, j < l → lv j = a_lineVariable j) → (∀ j, j < l → lr j = a_lineRelation j) →
      post 1 (f_gosubDepth, f_forDepth, f_outCap, f_sourceLength, f_compiled, f_errorLine, nI L.length, nI L.length, hc, f_lineTotal, nI cl, f_dividedByZero, f_status, f_stopLine, f_steps, f_position, f_outputCount, f_gosubCount, f_frameCount, a_source, a_tokens, hd, a_programOrder, a_lineNumber, lk, lv, lr, cd, cs, ce, a_operands, a_variables, a_output, a_returnTo, a_frameVariable, a_frameLimit, a_frameBody)) :
    wpX_takeStatement post (f_gosubDepth, f_forDepth, f_outCap, f_sourceLength, f_compiled, f_errorLine, nI L.length, nI 1, f_heldCount, f_lineTotal, nI c0, f_dividedByZero, f_status, f_stopLine, f_steps, f_position, f_outputCount, f_gosubCount, f_frameCount, a_source, a_tokens, a_held, a_programOrder, a_lineNumber, a_lineKeyword, a_lineVariable, a_lineRelation, a_code, a_codeStart, a_codeEnd, a_operands, a_variables, a_output, a_returnTo, a_frameVariable, a_frameLimit, a_frameBody) (nI l) := by
  have hT := tb_ok_lt hok 1
  unfold wpX_takeStatement
  dsimp only
  refine nm_r (e' := nI (l * 3)) (pk_mul l 3) ?_
  refine xx_next hL (by omega) htk (fun z => ⟨vp_in_nI hl (by omega), nm_r (e' := upd a_lineKeyword l (nI (tb_T L 1))) (by rw [nI_clamp (by omega)]) ?_⟩) (fun z => ⟨vp_in_nI hl (by omega), nm_e (br_t (by decide) (hF0 (fun s => by have := s.1; omega) _ _ _ _ _ _ _ _ _ _))⟩)
  have NK : (∀ k, tb_T L 1 = k → k ≠ 40101 ∧ k ≠ 40102 ∧ k ≠ 40103 ∧ k ≠ 40105 ∧ k ≠ 40106 ∧ k ≠ 40107 ∧ k ≠ 40108 ∧ k ≠ 40110 ∧ k ≠ 40111) → ¬ tb_so L := fun q s => by
    have a := q _ rfl
    have b := tb_so_kw s
    omega
  have klt : ∀ j, j < l → upd a_lineKeyword l (nI (tb_T L 1)) j = a_lineKeyword j := fun j hj => pk_un (by omega)
  have E107 : (tb_T L 1 = 40102 ∨ tb_T L 1 = 40105 ∨ tb_T L 1 = 40106) → wX_takeStatement_107 post (nI (l * 3)) f_gosubDepth f_forDepth f_outCap f_sourceLength f_compiled f_errorLine (nI L.length) (nI 2) f_heldCount f_lineTotal (nI c0) f_dividedByZero f_status f_stopLine f_steps f_position f_outputCount f_gosubCount f_frameCount a_source a_tokens a_held a_programOrder a_lineNumber (upd a_lineKeyword l (nI (tb_T L 1))) a_lineVariable a_lineRelation a_code a_codeStart a_codeEnd a_operands a_variables a_output a_returnTo a_frameVariable a_frameLimit a_frameBody := fun k =>
    xx_107 hL hok htk hl hc (by omega) hln h00 pk_us k (fun s _ _ _ _ _ _ _ => hF0 s _ _ _ _ _ _ _ _ _ _) (fun s _ _ _ _ _ _ _ w => hF1 s _ _ _ _ _ _ _ _ _ _ w) (fun s cl hd cd cs ce a b c d e f => hS s _ _ _ _ _ _ _ _ _ a b c d e f klt (fun _ _ => rfl) (fun _ _ => rfl))
  have RET : (tb_T L 1 = 40107 ∨ tb_T L 1 = 40111) → post 1 (f_gosubDepth, f_forDepth, f_outCap, f_sourceLength, f_compiled, f_errorLine, nI L.length, nI 2, f_heldCount, f_lineTotal, nI c0, f_dividedByZero, f_status, f_stopLine, f_steps, f_position, f_outputCount, f_gosubCount, f_frameCount, a_source, a_tokens, a_held, a_programOrder, a_lineNumber, upd a_lineKeyword l (nI (tb_T L 1)), a_lineVariable, a_lineRelation, a_code, a_codeStart, a_codeEnd, a_operands, a_variables, a_output, a_returnTo, a_frameVariable, a_frameLimit, a_frameBody) := fun k => by
    rcases Nat.lt_or_ge 2 L.length with w | w
    · exact hF1 (fun s => by have := tb_so_end s k; omega) _ _ _ _ _ _ _ _ _ _ w
    · have e2 : L.length = 2 := by omega
      have w := hS ⟨by omega, h00.1, h00.2, Or.inr (Or.inr (Or.inr (Or.inr (Or.inr ⟨k, e2⟩))))⟩ f_heldCount c0 a_held (upd a_lineKeyword l (nI (tb_T L 1))) a_lineVariable a_lineRelation a_code a_codeStart a_codeEnd ⟨by omega, h00.1, h00.2, hln, pk_us, Or.inr (Or.inr (Or.inr (Or.inr (Or.inr ⟨k, e2⟩))))⟩ (by omega) (by omega) (fun _ _ => rfl) (fun _ _ => rfl) (fun _ _ => rfl) klt (fun _ _ => rfl) (fun _ _ => rfl)
      rw [e2] at w ⊢
      exact w
  have FIN : ∀ (e : Nat) (hc : Int32) (cl : Nat) (hd lk lv lr cd cs ce : Nat → Int32), e ≤ L.length → (e < L.length → ¬ tb_so L) →
      (e = L.length → tb_so L ∧ tb_lo L l a_lineNumber lk lv lr cd cs ce cl ∧ c0 ≤ cl ∧ cl ≤ c0 + L.length ∧ (∀ j, j < c0 → cd j = a_code j) ∧ (∀ j, j < l * 3 → cs j = a_codeStart j) ∧ (∀ j, j < l * 3 → ce j = a_codeEnd j) ∧ (∀ j, j < l → lk j = a_lineKeyword j) ∧ (∀ j, j < l → lv j = a_lineVariable j) ∧ (∀ j, j < l → lr j = a_lineRelation j)) →
      post 1 (f_gosubDepth, f_forDepth, f_outCap, f_sourceLength, f_compiled, f_errorLine, nI L.length, nI e, hc, f_lineTotal, nI cl, f_dividedByZero, f_status, f_stopLine, f_steps, f_position, f_outputCount, f_gosubCount, f_frameCount, a_source, a_tokens, hd, a_programOrder, a_lineNumber, lk, lv, lr, cd, cs, ce, a_operands, a_variables, a_output, a_returnTo, a_frameVariable, a_frameLimit, a_frameBody) := fun e hc cl hd lk lv lr cd cs ce h1 h2 h3 => by
    rcases Nat.lt_or_ge e L.length with w | w
    · exact hF1 (h2 w) e hc (nI cl) hd lk lv lr cd cs ce w
    · have ee : e = L.length := by omega
      obtain ⟨s, b1, b2, b3, b4, b5, b6, b7, b8, b9⟩ := h3 ee
      rw [ee]
      exact hS s hc cl hd lk lv lr cd cs ce b1 b2 b3 b4 b5 b6 b7 b8 b9
  refine pk_lt (tb_T L 1) 40101 (fun y => hF0 (NK (fun k hk => by omega)) _ _ _ _ _ _ _ _ _ _) (fun y1 => pk_lt 40111 (tb_T L 1) (fun y => hF0 (NK (fun k hk => by omega)) _ _ _ _ _ _ _ _ _ _) (fun y2 => ?_))
  refine pk_eq (tb_T L 1) 40101 (fun k => ?_) (fun n1 => ?_)
  · -- LET
    refine xx_takeVar hL (by omega) hok htk hl (fun v1 v2 => br_f tb_10 ?_) (fun v1 _ => br_t rfl (hF0 (fun s => v1 (tb_so_let s k).1) _ _ _ _ _ _ _ _ _ _))
    refine xx_take (w := 40208) hL (by omega) hok htk (by omega) (fun t1 t2 => br_f tb_10 ?_) (fun t1 _ => br_t rfl (hF0 (fun s => t1 (tb_so_let s k).2.1) _ _ _ _ _ _ _ _ _ _))
    refine xx_expr (by omega) hL hok htk (by omega) (by omega) (fun q _ _ _ _ _ _ => br_t rfl (hF0 (fun s => ?_) _ _ _ _ _ _ _ _ _ _)) (fun e c q e1 e2 e3 hd cd k1 k2 => br_f tb_10 (FIN _ _ _ _ _ _ _ _ _ _ e2 (fun w s => ?_) (fun ee => ?_)))
    · obtain ⟨c, y⟩ := (tb_so_let s k).2.2
      rw [q] at y; cases y
    · obtain ⟨c', y⟩ := (tb_so_let s k).2.2
      rw [q] at y
      have := congrArg Prod.fst (Option.some.inj y)
      dsimp only at this
      omega
    · rw [ee] at q
      exact ⟨⟨by omega, h00.1, h00.2, Or.inl ⟨k, v1, t1, c, q⟩⟩, ⟨by omega, h00.1, h00.2, hln, pk_us, Or.inl ⟨k, v1, pk_us, t1, c, q, tb_slot_new k2⟩⟩, by omega, by omega, k1, fun j hj => pk_un (by omega), fun j hj => pk_un (by omega), klt, fun j hj => pk_un (by omega), fun _ _ => rfl⟩
  refine pk_eq (tb_T L 1) 40102 (fun k => E107 (Or.inl k)) (fun n2 => ?_)
  refine pk_eq (tb_T L 1) 40103 (fun k => ?_) (fun n3 => ?_)
  · -- IF
    refine xx_expr (by omega) hL hok htk (by omega) (by omega) (fun q _ _ _ _ _ _ => br_t rfl (hF0 (fun s => ?_) _ _ _ _ _ _ _ _ _ _)) (fun a c1 q1 a1 a2 a3 hd1 cd1 k11 k12 => br_f tb_10 ?_)
    · obtain ⟨a, c1, y, -⟩ := tb_so_if s k
      rw [q] at y; cases y
    refine xx_takeRel hL (by omega) hok htk hl (fun r1 r2 => br_f tb_10 ?_) (fun r1 _ _ => br_t rfl (hF0 (fun s => ?_) _ _ _ _ _ _ _ _ _ _))
    rotate_left
    · obtain ⟨a', c1', y, y2, -⟩ := tb_so_if s k
      rw [q1] at y; cases y; exact r1 y2
    refine xx_exprx (k := l * 3 + 1) (nI_1 (l * 3)) (by omega) hL hok htk (by omega) (by omega) (fun q _ _ _ _ _ _ => br_t rfl (hF0 (fun s => ?_) _ _ _ _ _ _ _ _ _ _)) (fun b c2 q2 b1 b2 b3 hd2 cd2 k21 k22 => br_f tb_10 ?_)
    · obtain ⟨a', c1', y, -, b, c2, y2, -⟩ := tb_so_if s k
      rw [q1] at y; cases y; rw [q] at y2; cases y2
    refine xx_take (w := 40104) hL (by omega) hok htk (by omega) (fun t1 t2 => br_f tb_10 ?_) (fun t1 _ => br_t rfl (hF0 (fun s => ?_) _ _ _ _ _ _ _ _ _ _))
    rotate_left
    · obtain ⟨a', c1', y, -, b', c2', y2, y3, -⟩ := tb_so_if s k
      rw [q1] at y; cases y; rw [q2] at y2; cases y2; exact t1 y3
    refine xx_exprx (k := l * 3 + 2) (nI_add (l * 3) 2) (by omega) hL hok htk (by omega) (by omega) (fun q _ _ _ _ _ _ => br_t rfl (hF0 (fun s => ?_) _ _ _ _ _ _ _ _ _ _)) (fun e c3 q3 e1 e2 e3 hd3 cd3 k31 k32 => br_f tb_10 (FIN _ _ _ _ _ _ _ _ _ _ e2 (fun w s => ?_) (fun ee => ?_)))
    · obtain ⟨a', c1', y, -, b', c2', y2, -, c3, y3⟩ := tb_so_if s k
      rw [q1] at y; cases y; rw [q2] at y2; cases y2; rw [q] at y3; cases y3
    · obtain ⟨a', c1', y, -, b', c2', y2, -, c3', y3⟩ := tb_so_if s k
      rw [q1] at y; cases y; rw [q2] at y2; cases y2; rw [q3] at y3
      have := congrArg Prod.fst (Option.some.inj y3)
      dsimp only at this
      omega
    · rw [ee] at q3
      refine ⟨⟨by omega, h00.1, h00.2, Or.inr (Or.inr (Or.inl ⟨k, a, c1, q1, r1, b, c2, q2, t1, c3, q3⟩))⟩, ⟨by omega, h00.1, h00.2, hln, pk_us, Or.inr (Or.inr (Or.inl ⟨k, a, c1, q1, ?_, r1, pk_us, b, c2, q2, ?_, t1, c3, q3, tb_slot_new k32⟩))⟩, by omega, by omega, fun j hj => (k31 j (by omega)).trans ((k21 j (by omega)).trans (k11 j hj)), fun j hj => (pk_un (by omega)).trans ((pk_un (by omega)).trans (pk_un (by omega))), fun j hj => (pk_un (by omega)).trans ((pk_un (by omega)).trans (pk_un (by omega))), klt, fun _ _ => rfl, fun j hj => pk_un (by omega)⟩
      · exact tb_slot_lo (tb_slot_new k12) (fun j hj => (k31 j (by omega)).trans (k21 j (by omega))) ((pk_un (by omega)).trans (pk_un (by omega))) ((pk_un (by omega)).trans (pk_un (by omega))) (by omega)
      · exact tb_slot_lo (tb_slot_new k22) (fun j hj => k31 j hj) (pk_un (by omega)) (pk_un (by omega)) (by omega)
  refine pk_eq (tb_T L 1) 40104 (fun k => hF0 (NK (fun k hk => by omega)) _ _ _ _ _ _ _ _ _ _) (fun n4 => ?_)
  refine pk_eq (tb_T L 1) 40105 (fun k => E107 (Or.inr (Or.inl k))) (fun n5 => ?_)
  refine pk_eq (tb_T L 1) 40106 (fun k => E107 (Or.inr (Or.inr k))) (fun n6 => ?_)
  refine pk_eq (tb_T L 1) 40107 (fun k => RET (Or.inl k)) (fun n7 => ?_)
  refine pk_eq (tb_T L 1) 40108 (fun k => ?_) (fun n8 => ?_)
  · -- FOR
    refine xx_takeVar hL (by omega) hok htk hl (fun v1 v2 => br_f tb_10 ?_) (fun v1 _ => br_t rfl (hF0 (fun s => v1 (tb_so_for s k).1) _ _ _ _ _ _ _ _ _ _))
    refine xx_take (w := 40208) hL (by omega) hok htk (by omega) (fun t1 t2 => br_f tb_10 ?_) (fun t1 _ => br_t rfl (hF0 (fun s => t1 (tb_so_for s k).2.1) _ _ _ _ _ _ _ _ _ _))
    refine xx_expr (by omega) hL hok htk (by omega) (by omega) (fun q _ _ _ _ _ _ => br_t rfl (hF0 (fun s => ?_) _ _ _ _ _ _ _ _ _ _)) (fun a c1 q1 a1 a2 a3 hd1 cd1 k11 k12 => br_f tb_10 ?_)
    · obtain ⟨-, -, a, c1, y, -⟩ := tb_so_for s k
      rw [q] at y; cases y
    refine xx_take (w := 40109) hL (by omega) hok htk (by omega) (fun u1 u2 => br_f tb_10 ?_) (fun u1 _ => br_t rfl (hF0 (fun s => ?_) _ _ _ _ _ _ _ _ _ _))
    rotate_left
    · obtain ⟨-, -, a', c1', y, y2, -⟩ := tb_so_for s k
      rw [q1] at y; cases y; exact u1 y2
    refine xx_exprx (k := l * 3 + 1) (nI_1 (l * 3)) (by omega) hL hok htk (by omega) (by omega) (fun q _ _ _ _ _ _ => br_t rfl (hF0 (fun s => ?_) _ _ _ _ _ _ _ _ _ _)) (fun e c2 q2 e1 e2 e3 hd2 cd2 k21 k22 => br_f tb_10 (FIN _ _ _ _ _ _ _ _ _ _ e2 (fun w s => ?_) (fun ee => ?_)))
    · obtain ⟨-, -, a', c1', y, -, c2, y2⟩ := tb_so_for s k
      rw [q1] at y; cases y; rw [q] at y2; cases y2
    · obtain ⟨-, -, a', c1', y, -, c2', y2⟩ := tb_so_for s k
      rw [q1] at y; cases y; rw [q2] at y2
      have := congrArg Prod.fst (Option.some.inj y2)
      dsimp only at this
      omega
    · rw [ee] at q2
      refine ⟨⟨by omega, h00.1, h00.2, Or.inr (Or.inr (Or.inr (Or.inl ⟨k, v1, t1, a, c1, q1, u1, c2, q2⟩)))⟩, ⟨by omega, h00.1, h00.2, hln, pk_us, Or.inr (Or.inr (Or.inr (Or.inl ⟨k, v1, pk_us, t1, a, c1, q1, ?_, u1, c2, q2, tb_slot_new k22⟩)))⟩, by omega, by omega, fun j hj => (k21 j (by omega)).trans (k11 j hj), fun j hj => (pk_un (by omega)).trans (pk_un (by omega)), fun j hj => (pk_un (by omega)).trans (pk_un (by omega)), klt, fun j hj => pk_un (by omega), fun _ _ => rfl⟩
      exact tb_slot_lo (tb_slot_new k12) (fun j hj => k21 j hj) (pk_un (by omega)) (pk_un (by omega)) (by omega)
  refine pk_eq (tb_T L 1) 40109 (fun k => hF0 (NK (fun k hk => by omega)) _ _ _ _ _ _ _ _ _ _) (fun n9 => ?_)
  refine pk_eq (tb_T L 1) 40110 (fun k => ?_) (fun n10 => ?_)
  · -- NEXT
    refine xx_takeVar hL (by omega) hok htk hl (fun v1 v2 => ⟨rfl, FIN 3 _ _ _ _ _ _ _ _ _ (by omega) (fun w s => ?_) (fun ee => ?_)⟩) (fun v1 _ => ⟨rfl, hF0 (fun s => v1 (tb_so_next s k).1) _ _ _ _ _ _ _ _ _ _⟩)
    · have := (tb_so_next s k).2; omega
    · exact ⟨⟨by omega, h00.1, h00.2, Or.inr (Or.inr (Or.inr (Or.inr (Or.inl ⟨k, v1, ee.symm⟩))))⟩, ⟨by omega, h00.1, h00.2, hln, pk_us, Or.inr (Or.inr (Or.inr (Or.inr (Or.inl ⟨k, v1, pk_us, ee.symm⟩))))⟩, by omega, by omega, fun _ _ => rfl, fun _ _ => rfl, fun _ _ => rfl, klt, fun j hj => pk_un (by omega), fun _ _ => rfl⟩
  exact pk_eq (tb_T L 1) 40111 (fun k => RET (Or.inr k)) (fun n11 => trivial)
end
