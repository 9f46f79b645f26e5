/-! ===== the reference's check of a line ===== -/
theorem tb_kt_c {L : List Nat} (hok : ∀ t, t ∈ L → tb_ok t) (i : Nat) : (L.length ≤ i ∧ tb_T L i = 0 ∧ tb_kt L i = 0) ∨ (i < L.length ∧ ((tb_T L i ≤ 32767 ∧ tb_kt L i = 1) ∨ (40000 ≤ tb_T L i ∧ tb_T L i < 40026 ∧ tb_kt L i = 2) ∨ (40101 ≤ tb_T L i ∧ tb_T L i ≤ 40111 ∧ tb_kt L i = tb_T L i - 40091) ∨ (tb_T L i = 40201 ∧ tb_kt L i = 43) ∨ (tb_T L i = 40202 ∧ tb_kt L i = 45) ∨ (tb_T L i = 40203 ∧ tb_kt L i = 42) ∨ (tb_T L i = 40204 ∧ tb_kt L i = 47) ∨ (tb_T L i = 40206 ∧ tb_kt L i = 40) ∨ (tb_T L i = 40207 ∧ tb_kt L i = 41) ∨ (tb_T L i = 40208 ∧ tb_kt L i = 61) ∨ (tb_T L i = 40209 ∧ tb_kt L i = 72) ∨ (tb_T L i = 40210 ∧ tb_kt L i = 60) ∨ (tb_T L i = 40211 ∧ tb_kt L i = 62) ∨ (tb_T L i = 40212 ∧ tb_kt L i = 70) ∨ (tb_T L i = 40213 ∧ tb_kt L i = 71))) := by
  rcases Nat.lt_or_ge i L.length with z | z
  · refine Or.inr ⟨z, ?_⟩
    rw [tb_kt_in z]
    exact tb_kf_c (hok _ (tb_T_mem z))
  · exact Or.inl ⟨z, tb_T_out z, tb_kt_out z⟩
theorem tb_rne {L : List Nat} {r : Int32} (hL : L.length ≤ 40) (h : r = -1 ∨ ∃ j, j < L.length ∧ r = nI j ∧ tb_T L j = 40207) : ¬ r = nI L.length := by
  rcases h with h | ⟨j, h1, h2, _⟩
  · rw [h]; exact fun e => tb_nm1 (t := L.length) (by omega) e.symm
  · rw [h2]
    exact fun e => absurd ((nI_eq (by omega) (by omega)).mp e) (by omega)
section
variable {g_len g_nLines g_compiled g_errLine g_gosubDepth g_forDepth g_outCap g_nt g_vn g_on g_divErr g_status g_stopLine g_steps g_pos g_outN g_gsp g_fsp : Int32} {b_src b_lnStart b_lnEnd b_lnNum b_tk b_tv b_vs b_os b_vars b_out b_gStack b_fVar b_fLim b_fBody : Nat → Int32} {L : List Nat} {post : Int32 → SY → Prop}
theorem yy_isrel {post : Int32 → Prop} {t k : Nat} (hk : k < 127) (h1 : (k = 61 ∨ k = 60 ∨ k = 62 ∨ k = 70 ∨ k = 71 ∨ k = 72) → post 1) (h0 : ¬ (k = 61 ∨ k = 60 ∨ k = 62 ∨ k = 70 ∨ k = 71 ∨ k = 72) → post 0) : wpY_isRel post (g_len, g_nLines, g_compiled, g_errLine, g_gosubDepth, g_forDepth, g_outCap, g_nt, g_vn, g_on, g_divErr, g_status, g_stopLine, g_steps, g_pos, g_outN, g_gsp, g_fsp, b_src, b_lnStart, b_lnEnd, b_lnNum, b_tk, b_tv, b_vs, b_os, b_vars, b_out, b_gStack, b_fVar, b_fLim, b_fBody) (nI k) :=
  pk_eq k 61 (fun z => h1 (by omega)) (fun n1 => pk_eq k 60 (fun z => h1 (by omega)) (fun n2 => pk_eq k 62 (fun z => h1 (by omega)) (fun n3 => pk_eq k 70 (fun z => h1 (by omega)) (fun n4 => pk_eq k 71 (fun z => h1 (by omega)) (fun n5 => pk_eq k 72 (fun z => h1 (by omega)) (fun n6 => h0 (by omega)))))))
theorem yy_s165 (hL : L.length ≤ 40) (hok : ∀ t, t ∈ L → tb_ok t) (htk : tb_sg b_tk 0 (L.map (fun t => nI (tb_kf t)))) (h2 : 2 ≤ L.length) (h00 : 1 ≤ tb_T L 0 ∧ tb_T L 0 ≤ 32767) (k : tb_T L 1 = 40102 ∨ tb_T L 1 = 40105 ∨ tb_T L 1 = 40106)
    (F : ¬ tb_so L → post 0 (g_len, g_nLines, g_compiled, g_errLine, g_gosubDepth, g_forDepth, g_outCap, nI L.length, g_vn, g_on, g_divErr, g_status, g_stopLine, g_steps, g_pos, g_outN, g_gsp, g_fsp, b_src, b_lnStart, b_lnEnd, b_lnNum, b_tk, b_tv, b_vs, b_os, b_vars, b_out, b_gStack, b_fVar, b_fLim, b_fBody)) (G : tb_so L → post 1 (g_len, g_nLines, g_compiled, g_errLine, g_gosubDepth, g_forDepth, g_outCap, nI L.length, g_vn, g_on, g_divErr, g_status, g_stopLine, g_steps, g_pos, g_outN, g_gsp, g_fsp, b_src, b_lnStart, b_lnEnd, b_lnNum, b_tk, b_tv, b_vs, b_os, b_vars, b_out, b_gStack, b_fVar, b_fLim, b_fBody)) : wY_syntaxOk_165 post g_len g_nLines g_compiled g_errLine g_gosubDepth g_forDepth g_outCap (nI L.length) g_vn g_on g_divErr g_status g_stopLine g_steps g_pos g_outN g_gsp g_fsp b_src b_lnStart b_lnEnd b_lnNum b_tk b_tv b_vs b_os b_vars b_out b_gStack b_fVar b_fLim b_fBody := by
  unfold wY_syntaxOk_165
  refine yy_end (p := 2) rfl hL hok htk h2 (fun e c q e1 e2 => pk_eq e L.length (fun w => G ?_) (fun w => F (fun s => ?_))) (fun q r hr => br_f (tb_rne hL hr) (F (fun s => ?_)))
  · rw [w] at q
    exact ⟨h2, h00.1, h00.2, Or.inr (Or.inl ⟨k, c, q⟩)⟩
  · obtain ⟨c', y⟩ := tb_so_exp s k
    rw [q] at y
    exact w (congrArg Prod.fst (Option.some.inj y))
  · obtain ⟨c', y⟩ := tb_so_exp s k
    rw [q] at y; cases y
theorem yy_s59 (hL : L.length ≤ 40) (hok : ∀ t, t ∈ L → tb_ok t) (htk : tb_sg b_tk 0 (L.map (fun t => nI (tb_kf t)))) (h2 : 2 ≤ L.length) (h00 : 1 ≤ tb_T L 0 ∧ tb_T L 0 ≤ 32767) (k : tb_T L 1 = 40101 ∨ tb_T L 1 = 40108)
    (F : ¬ tb_so L → post 0 (g_len, g_nLines, g_compiled, g_errLine, g_gosubDepth, g_forDepth, g_outCap, nI L.length, g_vn, g_on, g_divErr, g_status, g_stopLine, g_steps, g_pos, g_outN, g_gsp, g_fsp, b_src, b_lnStart, b_lnEnd, b_lnNum, b_tk, b_tv, b_vs, b_os, b_vars, b_out, b_gStack, b_fVar, b_fLim, b_fBody)) (G : tb_so L → post 1 (g_len, g_nLines, g_compiled, g_errLine, g_gosubDepth, g_forDepth, g_outCap, nI L.length, g_vn, g_on, g_divErr, g_status, g_stopLine, g_steps, g_pos, g_outN, g_gsp, g_fsp, b_src, b_lnStart, b_lnEnd, b_lnNum, b_tk, b_tv, b_vs, b_os, b_vars, b_out, b_gStack, b_fVar, b_fLim, b_fBody)) : wY_syntaxOk_59 post (nI (tb_T L 1 - 40091)) g_len g_nLines g_compiled g_errLine g_gosubDepth g_forDepth g_outCap (nI L.length) g_vn g_on g_divErr g_status g_stopLine g_steps g_pos g_outN g_gsp g_fsp b_src b_lnStart b_lnEnd b_lnNum b_tk b_tv b_vs b_os b_vars b_out b_gStack b_fVar b_fLim b_fBody := by
  have K2 := tb_kt_c hok 2
  have K3 := tb_kt_c hok 3
  have V : tb_so L → tb_iv (tb_T L 2) ∧ tb_T L 3 = 40208 := fun s => by
    rcases k with k | k
    · have := tb_so_let s k; exact ⟨this.1, this.2.1⟩
    · have := tb_so_for s k; exact ⟨this.1, this.2.1⟩
  unfold wY_syntaxOk_59
  refine yy_tok (i := 2) rfl hL (by omega) htk (pk_eq (tb_kt L 2) 2 (fun a => ?_) (fun a => F (fun s => ?_)) rfl rfl (by omega) (by omega))
  rotate_left
  · have := (V s).1
    unfold tb_iv at this
    omega
  refine yy_tok (i := 3) rfl hL (by omega) htk (pk_eq (tb_kt L 3) 61 (fun b => ?_) (fun b => F (fun s => ?_)) rfl rfl (by omega) (by omega))
  rotate_left
  · have := (V s).2
    omega
  have iv : tb_iv (tb_T L 2) := by unfold tb_iv; omega
  have t3 : tb_T L 3 = 40208 := by omega
  rcases k with k | k
  · rw [k]
    refine yy_end (p := 4) rfl hL hok htk (by omega) (fun e c q e1 e2 => br_t rfl (pk_eq e L.length (fun w => G ?_) (fun w => F (fun s => ?_)))) (fun q r hr => br_t rfl (br_f (tb_rne hL hr) (F (fun s => ?_))))
    · rw [w] at q
      exact ⟨h2, h00.1, h00.2, Or.inl ⟨k, iv, t3, c, q⟩⟩
    · obtain ⟨-, -, c', y⟩ := tb_so_let s k
      rw [q] at y
      exact w (congrArg Prod.fst (Option.some.inj y))
    · obtain ⟨-, -, c', y⟩ := tb_so_let s k
      rw [q] at y; cases y
  · rw [k]
    have F1 : tb_xe L 4 = none → post 0 (g_len, g_nLines, g_compiled, g_errLine, g_gosubDepth, g_forDepth, g_outCap, nI L.length, g_vn, g_on, g_divErr, g_status, g_stopLine, g_steps, g_pos, g_outN, g_gsp, g_fsp, b_src, b_lnStart, b_lnEnd, b_lnNum, b_tk, b_tv, b_vs, b_os, b_vars, b_out, b_gStack, b_fVar, b_fLim, b_fBody) := fun q => F (fun s => by
      obtain ⟨-, -, a, c, y, -⟩ := tb_so_for s k
      rw [q] at y; cases y)
    refine yy_end (p := 4) rfl hL hok htk (by omega) (fun a c1 q1 a1 a2 => br_f (by decide) (br_f (nI_pos (by omega)) ?_)) (fun q r hr => br_f (by decide) ?_)
    · have Ka := tb_kt_c hok a
      refine yy_tok (i := a) rfl hL (by omega) htk (pk_eq (tb_kt L a) 18 (fun b => ?_) (fun b => F (fun s => ?_)) rfl rfl (by omega) (by omega))
      · refine yy_end (p := a + 1) (nI_1 a) hL hok htk (by omega) (fun e c q e1 e2 => pk_eq e L.length (fun w => G ?_) (fun w => F (fun s => ?_))) (fun q r hr => br_f (tb_rne hL hr) (F (fun s => ?_)))
        · rw [w] at q
          exact ⟨h2, h00.1, h00.2, Or.inr (Or.inr (Or.inr (Or.inl ⟨k, iv, t3, a, c1, q1, by omega, c, q⟩)))⟩
        · obtain ⟨-, -, a', c1', y, -, c2', y2⟩ := tb_so_for s k
          rw [q1] at y; cases y; rw [q] at y2
          exact w (congrArg Prod.fst (Option.some.inj y2))
        · obtain ⟨-, -, a', c1', y, -, c2', y2⟩ := tb_so_for s k
          rw [q1] at y; cases y; rw [q] at y2; cases y2
      · obtain ⟨-, -, a', c1', y, y2, -⟩ := tb_so_for s k
        rw [q1] at y; cases y
        omega
    · rcases hr with hr | ⟨j, j1, j2, j3⟩
      · subst hr
        exact br_t (by decide) (F1 q)
      · subst j2
        have Kj := tb_kt_c hok j
        exact br_f (nI_pos (by omega)) (yy_tok (i := j) rfl hL (by omega) htk (pk_eq (tb_kt L j) 18 (fun b => absurd b (by omega)) (fun b => F1 q) rfl rfl (by omega) (by omega)))
/-- IF, as the reference reads it -/
theorem yy_sif {Q : Int32 → Prop} (hL : L.length ≤ 40) (hok : ∀ t, t ∈ L → tb_ok t) (htk : tb_sg b_tk 0 (L.map (fun t => nI (tb_kf t)))) (h2 : 2 ≤ L.length) (h00 : 1 ≤ tb_T L 0 ∧ tb_T L 0 ≤ 32767) (k : tb_T L 1 = 40103)
    (F : ¬ tb_so L → Q 0) (G : tb_so L → Q 1) :
    wpY_exprEnd (fun r_254 => (((r_254 < 0 → (Q 0)) ∧ (¬ r_254 < 0 → (wpY_tok (fun r_288 => (wpY_isRel (fun r_321 => (((r_321 = 0 → (Q 0)) ∧ (¬ r_321 = 0 → (wpY_exprEnd (fun r_355 => (((r_355 < 0 → (Q 0)) ∧ (¬ r_355 < 0 → (wpY_tok (fun r_389 => (((r_389 = 13 → (wpY_exprEnd (fun r_423 => (((r_423 = nI L.length → (Q 1)) ∧ (¬ r_423 = nI L.length → (Q 0))))) (g_len, g_nLines, g_compiled, g_errLine, g_gosubDepth, g_forDepth, g_outCap, nI L.length, g_vn, g_on, g_divErr, g_status, g_stopLine, g_steps, g_pos, g_outN, g_gsp, g_fsp, b_src, b_lnStart, b_lnEnd, b_lnNum, b_tk, b_tv, b_vs, b_os, b_vars, b_out, b_gStack, b_fVar, b_fLim, b_fBody) (r_355 + 1))) ∧ (¬ r_389 = 13 → (Q 0))))) (g_len, g_nLines, g_compiled, g_errLine, g_gosubDepth, g_forDepth, g_outCap, nI L.length, g_vn, g_on, g_divErr, g_status, g_stopLine, g_steps, g_pos, g_outN, g_gsp, g_fsp, b_src, b_lnStart, b_lnEnd, b_lnNum, b_tk, b_tv, b_vs, b_os, b_vars, b_out, b_gStack, b_fVar, b_fLim, b_fBody) r_355))))) (g_len, g_nLines, g_compiled, g_errLine, g_gosubDepth, g_forDepth, g_outCap, nI L.length, g_vn, g_on, g_divErr, g_status, g_stopLine, g_steps, g_pos, g_outN, g_gsp, g_fsp, b_src, b_lnStart, b_lnEnd, b_lnNum, b_tk, b_tv, b_vs, b_os, b_vars, b_out, b_gStack, b_fVar, b_fLim, b_fBody) (r_254 + 1)))))) (g_len, g_nLines, g_compiled, g_errLine, g_gosubDepth, g_forDepth, g_outCap, nI L.length, g_vn, g_on, g_divErr, g_status, g_stopLine, g_steps, g_pos, g_outN, g_gsp, g_fsp, b_src, b_lnStart, b_lnEnd, b_lnNum, b_tk, b_tv, b_vs, b_os, b_vars, b_out, b_gStack, b_fVar, b_fLim, b_fBody) r_288)) (g_len, g_nLines, g_compiled, g_errLine, g_gosubDepth, g_forDepth, g_outCap, nI L.length, g_vn, g_on, g_divErr, g_status, g_stopLine, g_steps, g_pos, g_outN, g_gsp, g_fsp, b_src, b_lnStart, b_lnEnd, b_lnNum, b_tk, b_tv, b_vs, b_os, b_vars, b_out, b_gStack, b_fVar, b_fLim, b_fBody) r_254))))) (g_len, g_nLines, g_compiled, g_errLine, g_gosubDepth, g_forDepth, g_outCap, nI L.length, g_vn, g_on, g_divErr, g_status, g_stopLine, g_steps, g_pos, g_outN, g_gsp, g_fsp, b_src, b_lnStart, b_lnEnd, b_lnNum, b_tk, b_tv, b_vs, b_os, b_vars, b_out, b_gStack, b_fVar, b_fLim, b_fBody) 2 := by
  have F1 : tb_xe L 2 = none → Q 0 := fun q => F (fun s => by
      obtain ⟨a, c, y, -⟩ := tb_so_if s k
      rw [q] at y; cases y)
  refine yy_end (p := 2) rfl hL hok htk h2 (fun a c1 q1 a1 a2 => br_f (nI_pos (by omega)) ?_) (fun q r hr => ?_)
  · have Ka := tb_kt_c hok a
    have F2 : tb_xe L (a + 1) = none → Q 0 := fun q => F (fun s => by
      obtain ⟨a', c, y, -, b, c2, y2, -⟩ := tb_so_if s k
      rw [q1] at y; cases y; rw [q] at y2; cases y2)
    refine yy_tok (i := a) rfl hL (by omega) htk (yy_isrel (t := 0) (by omega) (fun r1 => br_f tb_10 ?_) (fun r1 => br_t rfl (F (fun s => ?_))))
    · refine yy_end (p := a + 1) (nI_1 a) hL hok htk (by omega) (fun b c2 q2 b1 b2 => br_f (nI_pos (by omega)) ?_) (fun q r hr => ?_)
      · have Kb := tb_kt_c hok b
        refine yy_tok (i := b) rfl hL (by omega) htk (pk_eq (tb_kt L b) 13 (fun t1 => ?_) (fun t1 => F (fun s => ?_)) rfl rfl (by omega) (by omega))
        · refine yy_end (p := b + 1) (nI_1 b) hL hok htk (by omega) (fun e c3 q3 e1 e2 => pk_eq e L.length (fun w => G ?_) (fun w => F (fun s => ?_))) (fun q r hr => br_f (tb_rne hL hr) (F (fun s => ?_)))
          · rw [w] at q3
            exact ⟨h2, h00.1, h00.2, Or.inr (Or.inr (Or.inl ⟨k, a, c1, q1, by unfold tb_ir; omega, b, c2, q2, by omega, c3, q3⟩))⟩
          · obtain ⟨a', c', y, -, b', c2', y2, -, c3', y3⟩ := tb_so_if s k
            rw [q1] at y; cases y; rw [q2] at y2; cases y2; rw [q3] at y3
            exact w (congrArg Prod.fst (Option.some.inj y3))
          · obtain ⟨a', c', y, -, b', c2', y2, -, c3', y3⟩ := tb_so_if s k
            rw [q1] at y; cases y; rw [q2] at y2; cases y2; rw [q] at y3; cases y3
        · obtain ⟨a', c', y, -, b', c2', y2, y3, -⟩ := tb_so_if s k
          rw [q1] at y; cases y; rw [q2] at y2; cases y2
          omega
      · rcases hr with hr | ⟨j, j1, j2, j3⟩
        · subst hr
          exact br_t (by decide) (F2 q)
        · subst j2
          have Kj := tb_kt_c hok j
          exact br_f (nI_pos (by omega)) (yy_tok (i := j) rfl hL (by omega) htk (pk_eq (tb_kt L j) 13 (fun b => absurd b (by omega)) (fun b => F2 q) rfl rfl (by omega) (by omega)))
    · obtain ⟨a', c', y, y2, -⟩ := tb_so_if s k
      rw [q1] at y; cases y
      unfold tb_ir at y2
      omega
  · rcases hr with hr | ⟨j, j1, j2, j3⟩
    · subst hr
      exact br_t (by decide) (F1 q)
    · subst j2
      have Kj := tb_kt_c hok j
      exact br_f (nI_pos (by omega)) (yy_tok (i := j) rfl hL (by omega) htk (yy_isrel (t := 0) (by omega) (fun b => absurd b (by omega)) (fun b => br_t rfl (F1 q))))
end
section
variable {g_nLines g_compiled g_errLine g_gosubDepth g_forDepth g_outCap g_nt g_vn g_on g_divErr g_status g_stopLine g_steps g_pos g_outN g_gsp g_fsp : Int32} {b_lnStart b_lnEnd b_lnNum b_tk b_tv b_vs b_os b_vars b_out b_gStack b_fVar b_fLim b_fBody : Nat → Int32} {C : Nat → Nat} {n e s : Nat} {post : Int32 → SY → Prop}
theorem yy_syn (hC : ∀ j, C j < 127) (he : e ≤ n) (hn : n ≤ 256) (h40 : e ≤ s + 40) (hse : s ≤ e)
    (hF : (∀ L, tb_tz C e 40 s = some L → ¬ tb_so L) → ∀ nt tk tv, post 0 (nI n, g_nLines, g_compiled, g_errLine, g_gosubDepth, g_forDepth, g_outCap, nt, g_vn, g_on, g_divErr, g_status, g_stopLine, g_steps, g_pos, g_outN, g_gsp, g_fsp, tb_S C, b_lnStart, b_lnEnd, b_lnNum, tk, tv, b_vs, b_os, b_vars, b_out, b_gStack, b_fVar, b_fLim, b_fBody))
    (h1 : ∀ L, tb_tz C e 40 s = some L → tb_so L → ∀ tk tv, tb_sg tk 0 (L.map (fun t => nI (tb_kf t))) → tb_sg tv 0 (L.map (fun t => nI (tb_vf t))) → post 1 (nI n, g_nLines, g_compiled, g_errLine, g_gosubDepth, g_forDepth, g_outCap, nI L.length, g_vn, g_on, g_divErr, g_status, g_stopLine, g_steps, g_pos, g_outN, g_gsp, g_fsp, tb_S C, b_lnStart, b_lnEnd, b_lnNum, tk, tv, b_vs, b_os, b_vars, b_out, b_gStack, b_fVar, b_fLim, b_fBody)) :
    wpY_syntaxOk post (nI n, g_nLines, g_compiled, g_errLine, g_gosubDepth, g_forDepth, g_outCap, g_nt, g_vn, g_on, g_divErr, g_status, g_stopLine, g_steps, g_pos, g_outN, g_gsp, g_fsp, tb_S C, b_lnStart, b_lnEnd, b_lnNum, b_tk, b_tv, b_vs, b_os, b_vars, b_out, b_gStack, b_fVar, b_fLim, b_fBody) (nI s) (nI e) := by
  unfold wpY_syntaxOk
  dsimp only
  refine yy_read hC he hn h40 hse (fun q tk tv => br_t (by decide) (hF (fun L y => by rw [q] at y; cases y) _ _ _)) (fun L q tk tv g1 g2 => ?_)
  have ⟨hlen, _, hok⟩ := tb_tz_ok C e 40 s L q
  have F : ¬ tb_so L → post 0 (nI n, g_nLines, g_compiled, g_errLine, g_gosubDepth, g_forDepth, g_outCap, nI L.length, g_vn, g_on, g_divErr, g_status, g_stopLine, g_steps, g_pos, g_outN, g_gsp, g_fsp, tb_S C, b_lnStart, b_lnEnd, b_lnNum, tk, tv, b_vs, b_os, b_vars, b_out, b_gStack, b_fVar, b_fLim, b_fBody) := fun z => hF (fun L' y => by rw [q] at y; cases y; exact z) _ _ _
  have G : tb_so L → post 1 (nI n, g_nLines, g_compiled, g_errLine, g_gosubDepth, g_forDepth, g_outCap, nI L.length, g_vn, g_on, g_divErr, g_status, g_stopLine, g_steps, g_pos, g_outN, g_gsp, g_fsp, tb_S C, b_lnStart, b_lnEnd, b_lnNum, tk, tv, b_vs, b_os, b_vars, b_out, b_gStack, b_fVar, b_fLim, b_fBody) := fun z => h1 L q z tk tv g1 g2
  refine pk_lt L.length 2 (fun z => F (fun y => by have := y.1; omega)) (fun h2 => ?_)
  have K0 := tb_kt_c hok 0
  have K1 := tb_kt_c hok 1
  have k0 := tb_kt_in (L := L) (i := 0) (by omega)
  have k1 := tb_kt_in (L := L) (i := 1) (by omega)
  have T0 : tk 0 = nI (tb_kt L 0) := by rw [k0]; exact tb_sg_T (fun t => nI (tb_kf t)) g1 0 (by omega)
  have T1 : tk 1 = nI (tb_kt L 1) := by rw [k1]; exact tb_sg_T (fun t => nI (tb_kf t)) g1 1 (by omega)
  have V0 : tv 0 = nI (tb_vf (tb_T L 0)) := tb_sg_T (fun t => nI (tb_vf t)) g2 0 (by omega)
  refine pk_eq (tb_kt L 0) 1 (fun a => ?_) (fun a => F (fun y => by have := y.2.1; have := y.2.2.1; omega)) T0 rfl (by omega) (by omega)
  have n0 : tb_T L 0 ≤ 32767 := by omega
  rw [tb_vf_num n0] at V0
  refine pk_le 1 (tb_T L 0) (fun b => ?_) (fun b => F (fun y => by have := y.2.1; omega)) rfl V0 (by omega) (by omega)
  refine nm_r T1 ?_
  have h00 : 1 ≤ tb_T L 0 ∧ tb_T L 0 ≤ 32767 := ⟨b, n0⟩
  have E2 : (tb_T L 1 = 40107 ∨ tb_T L 1 = 40111) → wY_syntaxOk_195 post (nI n) g_nLines g_compiled g_errLine g_gosubDepth g_forDepth g_outCap (nI L.length) g_vn g_on g_divErr g_status g_stopLine g_steps g_pos g_outN g_gsp g_fsp (tb_S C) b_lnStart b_lnEnd b_lnNum tk tv b_vs b_os b_vars b_out b_gStack b_fVar b_fLim b_fBody := fun k =>
    pk_eq L.length 2 (fun w => G ⟨h2, h00.1, h00.2, Or.inr (Or.inr (Or.inr (Or.inr (Or.inr ⟨k, w⟩))))⟩) (fun w => F (fun y => w (tb_so_end y k)))
  refine pk_eq (tb_kt L 1) 10 (fun k => ?_) (fun n1 => pk_eq (tb_kt L 1) 17 (fun k => ?_) (fun n2 => pk_eq (tb_kt L 1) 11 (fun k => yy_s165 hlen hok g1 h2 h00 (by omega) F G) (fun n3 => pk_eq (tb_kt L 1) 14 (fun k => yy_s165 hlen hok g1 h2 h00 (by omega) F G) (fun n4 => pk_eq (tb_kt L 1) 15 (fun k => yy_s165 hlen hok g1 h2 h00 (by omega) F G) (fun n5 => pk_eq (tb_kt L 1) 16 (fun k => E2 (by omega)) (fun n6 => pk_eq (tb_kt L 1) 20 (fun k => E2 (by omega)) (fun n7 => pk_eq (tb_kt L 1) 19 (fun k => ?_) (fun n8 => pk_eq (tb_kt L 1) 12 (fun k => ?_) (fun n9 => F (fun y => ?_)) rfl rfl (by omega) (by omega)) rfl rfl (by omega) (by omega)) rfl rfl (by omega) (by omega)) rfl rfl (by omega) (by omega)) rfl rfl (by omega) (by omega)) rfl rfl (by omega) (by omega)) rfl rfl (by omega) (by omega)) rfl rfl (by omega) (by omega)) rfl rfl (by omega) (by omega)
  · have w := yy_s59 hlen hok g1 h2 h00 (by omega) F G
    rw [show tb_kt L 1 = tb_T L 1 - 40091 from by omega]
    exact w
  · have w := yy_s59 hlen hok g1 h2 h00 (by omega) F G
    rw [show tb_kt L 1 = tb_T L 1 - 40091 from by omega]
    exact w
  · have k2 : tb_T L 1 = 40110 := by omega
    have K2 := tb_kt_c hok 2
    refine pk_eq L.length 3 (fun w => yy_tok (i := 2) rfl hlen (by omega) g1 (pk_eq (tb_kt L 2) 2 (fun a => G ⟨h2, h00.1, h00.2, Or.inr (Or.inr (Or.inr (Or.inr (Or.inl ⟨k2, ?_, w⟩))))⟩) (fun a => F (fun y => ?_)) rfl rfl (by omega) (by omega))) (fun w => F (fun y => w (tb_so_next y k2).2))
    · unfold tb_iv; omega
    · have := (tb_so_next y k2).1
      unfold tb_iv at this
      omega
  · exact yy_sif (Q := fun r => post r (nI n, g_nLines, g_compiled, g_errLine, g_gosubDepth, g_forDepth, g_outCap, nI L.length, g_vn, g_on, g_divErr, g_status, g_stopLine, g_steps, g_pos, g_outN, g_gsp, g_fsp, tb_S C, b_lnStart, b_lnEnd, b_lnNum, tk, tv, b_vs, b_os, b_vars, b_out, b_gStack, b_fVar, b_fLim, b_fBody)) hlen hok g1 h2 h00 (by omega) F G
  · have := tb_so_kw y
    omega
end
