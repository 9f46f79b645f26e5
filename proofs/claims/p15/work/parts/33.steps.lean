/-! ===== the law's small steps ===== -/
theorem tl_cell {post : Int32 → Prop} {L : Nat} {xs : Nat → Int32} {x : Int32} {k : Nat} (hL : L ≤ 260) (hx : x = nI k) (hk : k < 2 ^ 31) (h : ∀ v, post v) : wpL_cell post L xs () x := by
  subst hx
  exact pk_le L k (fun _ => h 0) (fun z => ⟨vp_in_nI z (by omega), h _⟩)
theorem tl_m {post : Int32 → Prop} {x y : Int32} (k : Nat) (h0 : 0 < k) (hk : k < 1000) (hy : y = nI k) (h : ∀ r, r < k → post (nI r)) : wpL_m post () x y := by
  subst hy
  refine ⟨nI_ne0 h0 (by omega), nm_e ?_⟩
  have e := rem_toInt x (nI k)
  rw [nI_toInt (by omega)] at e
  have b := tmod_bounds (a := x.toInt) (M := (k : Int)) (by omega)
  generalize x - x / nI k * nI k = r at e
  by_cases z : (0 : Int32) ≤ r
  · refine br_t z ?_
    obtain ⟨j, hj, ej⟩ := nI_of (x := r) (Int32.not_lt.mpr z)
    subst ej
    rw [nI_toInt hj] at e
    exact h j (by omega)
  · refine br_f z ?_
    have z1 : r.toInt < 0 := by
      have := Int32.not_le.mp z
      rw [Int32.lt_iff_toInt_lt] at this
      exact this
    have e2 : r + nI k = nI (r.toInt + k).toNat := by
      apply Int32.toInt_inj.mp
      rw [Int32.toInt_add, nI_toInt (by omega), nI_toInt (by omega)]
      rw [Int.bmod_eq_of_le (by omega) (by omega)]
      omega
    rw [e2]
    exact h _ (by omega)
theorem tl_p {post : Int32 → Prop} (h : ∀ v, post v) (p0 p1 p2 p3 p4 p5 p6 p7 p8 p9 p10 p11 p12 p13 p14 : Int32) : wpL_p post () p0 p1 p2 p3 p4 p5 p6 p7 p8 p9 p10 p11 p12 p13 p14 := by
  unfold wpL_p
  simp only [h, implies_true, and_self]
theorem tl_stmt {post : Int32 → Prop} (h : ∀ v, post v) (p0 p1 p2 p3 p4 p5 : Int32) : wpL_stmt post () p0 p1 p2 p3 p4 p5 := by
  unfold wpL_stmt
  refine ⟨fun _ => tl_p h _ _ _ _ _ _ _ _ _ _ _ _ _ _ _, fun _ => ⟨fun _ => tl_p h _ _ _ _ _ _ _ _ _ _ _ _ _ _ _, fun _ => ?_⟩⟩
  repeat (refine ⟨fun _ => tl_p h _ _ _ _ _ _ _ _ _ _ _ _ _ _ _, fun _ => ?_⟩)
  trivial
theorem tl_ch {post : Int32 → Prop} {L : Nat} {xs : Nat → Int32} {n q : Nat} (hL : L ≤ 260) (hn : n ≤ 8) (hq : q ≤ 144) (h : ∀ v, post v) : wpL_ch post L xs () (nI n) (nI q) := by
  have d1 : nI q / 18 = nI (q / 18) := pk_div (d := 18) (by omega) (by omega) (by omega)
  have i8 : q / 18 ≤ 8 := by omega
  generalize q / 18 = i at d1 i8
  have e5 : 7 + 4 * nI i = nI (7 + 4 * i) := by
    show nI 7 + nI 4 * nI i = _
    rw [pk_mul, nI_add]
  refine ⟨by decide, nm_r d1 ⟨by decide, nm_e (br_c (fun _ => h _) (fun _ => br_c (fun _ => h _) (fun _ => br_c (fun _ => h _) (fun _ => br_c (fun _ => h _) (fun _ => nm_r e5 ?_)))))⟩⟩
  refine tl_cell hL rfl (by omega) (fun _ => tl_m 10 (by omega) (by omega) rfl (fun _ _ => ?_))
  refine tl_cell hL (nI_1 _) (by omega) (fun _ => tl_m 3 (by omega) (by omega) rfl (fun _ _ => nm_e ?_))
  refine tl_cell hL (nI_add _ 2) (by omega) (fun _ => tl_m 10 (by omega) (by omega) rfl (fun _ _ => nm_e ?_))
  refine tl_cell hL (nI_add _ 2) (by omega) (fun _ => tl_m 3 (by omega) (by omega) rfl (fun _ _ => nm_e ?_))
  refine tl_cell hL (nI_add _ 3) (by omega) (fun _ => tl_m (n + 1) (by omega) (by omega) (nI_1 n) (fun _ _ => nm_e ?_))
  exact tl_stmt h _ _ _ _ _ _
theorem xx_clamp2 {post : Int32 → Prop} {x : Int32} {r hi : Nat} (hr : 1 ≤ r) (hh : r ≤ hi) (h2 : hi < 2 ^ 31) (h : ((x < 1 ∧ r = 1) ∨ (¬ x < 1 ∧ ¬ x ≤ nI hi ∧ r = hi) ∨ (¬ x < 1 ∧ x = nI r))) (hp : post (nI r)) : wpX_clamp post () x 1 (nI hi) := by
  rcases h with ⟨a, b⟩ | ⟨a, b, c⟩ | ⟨a, b⟩
  · subst b
    exact br_f (Int32.not_le.mpr a) hp
  · subst c
    exact br_t (Int32.not_lt.mp a) (br_f b hp)
  · subst b
    exact br_t (Int32.not_lt.mp a) (br_t ((nI_leI (by omega) h2).mpr hh) hp)
theorem tl_init {post : St2 → Prop} {x1 x2 x3 : Int32} (h : ∀ g fd oc, tb_sz g fd oc → ((x1 < 1 ∧ g = 1) ∨ (¬ x1 < 1 ∧ ¬ x1 ≤ nI 8 ∧ g = 8) ∨ (¬ x1 < 1 ∧ x1 = nI g)) → ((x2 < 1 ∧ fd = 1) ∨ (¬ x2 < 1 ∧ ¬ x2 ≤ nI 8 ∧ fd = 8) ∨ (¬ x2 < 1 ∧ x2 = nI fd)) → ((x3 < 1 ∧ oc = 1) ∨ (¬ x3 < 1 ∧ ¬ x3 ≤ nI 32 ∧ oc = 32) ∨ (¬ x3 < 1 ∧ x3 = nI oc)) → post (nI g, nI fd, nI oc, nI 0, 0, 0, 0, 0, 0, 0, 0, 0, 0, -1, 0, 0, 0, 0, 0, tb_S (fun _ => 0), (fun _ => 0), (fun _ => 0), (fun _ => 0), (fun _ => 0), (fun _ => 0), (fun _ => 0), (fun _ => 0), (fun _ => 0), (fun _ => 0), (fun _ => 0), (fun _ => 0), tb_zr 26 (fun _ => 0), (fun _ => 0), (fun _ => 0), (fun _ => 0), (fun _ => 0), (fun _ => 0))) : wpX_init post 18 898 (0, 0, 0, 0, 0, 0, 0, 0, 0, 0, 0, 0, 0, 0, 0, 0, 0, 0, 0) x1 x2 x3 := by
  refine ⟨by omega, by omega, by omega, by omega, by omega, by omega, by omega, by omega, by omega, by omega, by omega, by omega, by omega, by omega, by omega, by omega, by omega, by omega, by omega, by omega, by omega, by omega, by omega, by omega, by omega, by omega, by omega, by omega, by omega, by omega, by omega, by omega, by omega, by omega, by omega, by omega, ?_⟩
  refine xx_clamp x1 8 (by omega) (by omega) (fun g g1 g2 g3 => ?_)
  refine xx_clamp x2 8 (by omega) (by omega) (fun fd d1 d2 d3 => ?_)
  refine xx_clamp x3 32 (by omega) (by omega) (fun oc o1 o2 o3 => ?_)
  exact xx_forget (h g fd oc ⟨g1, g2, d1, d2, o1, o2⟩ g3 d3 o3)
theorem tl_init2 {post : St2 → Prop} {x1 x2 x3 : Int32} {g fd oc : Nat} (hz : tb_sz g fd oc) (g3 : ((x1 < 1 ∧ g = 1) ∨ (¬ x1 < 1 ∧ ¬ x1 ≤ nI 8 ∧ g = 8) ∨ (¬ x1 < 1 ∧ x1 = nI g))) (d3 : ((x2 < 1 ∧ fd = 1) ∨ (¬ x2 < 1 ∧ ¬ x2 ≤ nI 8 ∧ fd = 8) ∨ (¬ x2 < 1 ∧ x2 = nI fd))) (o3 : ((x3 < 1 ∧ oc = 1) ∨ (¬ x3 < 1 ∧ ¬ x3 ≤ nI 32 ∧ oc = 32) ∨ (¬ x3 < 1 ∧ x3 = nI oc))) (h : post (nI g, nI fd, nI oc, nI 0, 0, 0, 0, 0, 0, 0, 0, 0, 0, -1, 0, 0, 0, 0, 0, tb_S (fun _ => 0), (fun _ => 0), (fun _ => 0), (fun _ => 0), (fun _ => 0), (fun _ => 0), (fun _ => 0), (fun _ => 0), (fun _ => 0), (fun _ => 0), (fun _ => 0), (fun _ => 0), tb_zr 26 (fun _ => 0), (fun _ => 0), (fun _ => 0), (fun _ => 0), (fun _ => 0), (fun _ => 0))) : wpX_init post 18 898 (0, 0, 0, 0, 0, 0, 0, 0, 0, 0, 0, 0, 0, 0, 0, 0, 0, 0, 0) x1 x2 x3 := by
  obtain ⟨g1, g2, d1, d2, o1, o2⟩ := hz
  refine ⟨by omega, by omega, by omega, by omega, by omega, by omega, by omega, by omega, by omega, by omega, by omega, by omega, by omega, by omega, by omega, by omega, by omega, by omega, by omega, by omega, by omega, by omega, by omega, by omega, by omega, by omega, by omega, by omega, by omega, by omega, by omega, by omega, by omega, by omega, by omega, by omega, ?_⟩
  refine xx_clamp2 (hi := 8) g1 g2 (by decide) g3 ?_
  refine xx_clamp2 (hi := 8) d1 d2 (by decide) d3 ?_
  refine xx_clamp2 (hi := 32) o1 o2 (by decide) o3 ?_
  exact xx_forget h
theorem tl_ok {post : Int32 → Prop} {st x : Int32} {y : Int64} {k s : Nat} (hx : x = nI k) (hy : y = lN s) (hk : k ≤ s) (hs : s < 1000) (h2 : st = 2 → k = s) (h : post 1) : wpL_ok post () st x y := by
  subst hx hy
  have e : (nI k).toInt64 = lN k := nI_l (by omega)
  refine br_f (nI_pos (by omega)) ?_
  rw [e]
  refine br_t ((lN_le (by omega) (by omega)).mpr hk) ?_
  by_cases z : st = 2
  · exact br_t z (br_t (by rw [h2 z]) h)
  · exact br_f z h
theorem xx_clampk {post : Int32 → Prop} {x : Int32} {a : Nat} (hx : x = nI a) (h1 : 1 ≤ a) (h2 : a ≤ 1000) (hp : post (nI a)) : wpX_clamp post () x 1 1000 := by
  subst hx
  exact br_t (nI_le (a := 1) h1 (by omega)) (br_t (nI_le (b := 1000) h2 (by omega)) hp)
/-! the getters of two objects -/
section
variable {f_gosubDepth f_forDepth f_outCap f_sourceLength f_compiled f_errorLine f_tokenCount f_tokenAt f_heldCount f_lineTotal f_codeLength f_dividedByZero f_status f_stopLine f_steps f_position f_outputCount f_gosubCount f_frameCount : Int32} {a_source a_tokens a_held a_programOrder a_lineNumber a_lineKeyword a_lineVariable a_lineRelation a_code a_codeStart a_codeEnd a_operands a_variables a_output a_returnTo a_frameVariable a_frameLimit a_frameBody : Nat → Int32} {g_gosubDepth g_forDepth g_outCap g_sourceLength g_compiled g_errorLine g_tokenCount g_tokenAt g_heldCount g_lineTotal g_codeLength g_dividedByZero g_status g_stopLine g_steps g_position g_outputCount g_gosubCount g_frameCount : Int32} {b_source b_tokens b_held b_programOrder b_lineNumber b_lineKeyword b_lineVariable b_lineRelation b_code b_codeStart b_codeEnd b_operands b_variables b_output b_returnTo b_frameVariable b_frameLimit b_frameBody : Nat → Int32} {K : Int32 → Int32 → Prop}
theorem tl_gv {i : Int32} (h : ∀ r, K r r) : wpX_getVar (fun r => wpX_getVar (fun r' => K r r') (g_gosubDepth, g_forDepth, g_outCap, g_sourceLength, g_compiled, g_errorLine, g_tokenCount, g_tokenAt, g_heldCount, g_lineTotal, g_codeLength, g_dividedByZero, g_status, g_stopLine, g_steps, g_position, g_outputCount, g_gosubCount, g_frameCount, b_source, b_tokens, b_held, b_programOrder, b_lineNumber, b_lineKeyword, b_lineVariable, b_lineRelation, b_code, b_codeStart, b_codeEnd, b_operands, a_variables, b_output, b_returnTo, b_frameVariable, b_frameLimit, b_frameBody) i) (f_gosubDepth, f_forDepth, f_outCap, f_sourceLength, f_compiled, f_errorLine, f_tokenCount, f_tokenAt, f_heldCount, f_lineTotal, f_codeLength, f_dividedByZero, f_status, f_stopLine, f_steps, f_position, f_outputCount, f_gosubCount, f_frameCount, a_source, a_tokens, a_held, a_programOrder, a_lineNumber, a_lineKeyword, a_lineVariable, a_lineRelation, a_code, a_codeStart, a_codeEnd, a_operands, a_variables, a_output, a_returnTo, a_frameVariable, a_frameLimit, a_frameBody) i := by
  refine br_c (fun z => br_t z (h _)) (fun z => br_c (fun y => br_f z (br_t y (h _))) (fun y => ?_))
  have hi : vp_in i 26 := by
    obtain ⟨j, hj, rfl⟩ := nI_of z
    exact vp_in_nI (Nat.lt_of_not_le (fun w => y (nI_le (a := 26) w hj))) (by omega)
  exact ⟨hi, br_f z (br_f y ⟨hi, h _⟩)⟩
theorem tl_go {i : Int32} {ou : Nat} (ho : ou ≤ 32) (h : ∀ r, K r r) : wpX_getOutput (fun r => wpX_getOutput (fun r' => K r r') (g_gosubDepth, g_forDepth, g_outCap, g_sourceLength, g_compiled, g_errorLine, g_tokenCount, g_tokenAt, g_heldCount, g_lineTotal, g_codeLength, g_dividedByZero, g_status, g_stopLine, g_steps, g_position, nI ou, g_gosubCount, g_frameCount, b_source, b_tokens, b_held, b_programOrder, b_lineNumber, b_lineKeyword, b_lineVariable, b_lineRelation, b_code, b_codeStart, b_codeEnd, b_operands, b_variables, a_output, b_returnTo, b_frameVariable, b_frameLimit, b_frameBody) i) (f_gosubDepth, f_forDepth, f_outCap, f_sourceLength, f_compiled, f_errorLine, f_tokenCount, f_tokenAt, f_heldCount, f_lineTotal, f_codeLength, f_dividedByZero, f_status, f_stopLine, f_steps, f_position, nI ou, f_gosubCount, f_frameCount, a_source, a_tokens, a_held, a_programOrder, a_lineNumber, a_lineKeyword, a_lineVariable, a_lineRelation, a_code, a_codeStart, a_codeEnd, a_operands, a_variables, a_output, a_returnTo, a_frameVariable, a_frameLimit, a_frameBody) i := by
  refine br_c (fun z => br_t z (h _)) (fun z => br_c (fun y => br_f z (br_t y (h _))) (fun y => ?_))
  have hi : vp_in i 32 := by
    obtain ⟨j, hj, rfl⟩ := nI_of z
    have : j < ou := Nat.lt_of_not_le (fun w => y (nI_le w hj))
    exact vp_in_nI (by omega) (by omega)
  exact ⟨hi, br_f z (br_f y ⟨hi, h _⟩)⟩
theorem tl_gs {i : Int32} (h : ∀ r, K r r) : wpX_getStackDepth (fun r => wpX_getStackDepth (fun r' => K r r') (g_gosubDepth, g_forDepth, g_outCap, g_sourceLength, g_compiled, g_errorLine, g_tokenCount, g_tokenAt, g_heldCount, g_lineTotal, g_codeLength, g_dividedByZero, g_status, g_stopLine, g_steps, g_position, g_outputCount, f_gosubCount, f_frameCount, b_source, b_tokens, b_held, b_programOrder, b_lineNumber, b_lineKeyword, b_lineVariable, b_lineRelation, b_code, b_codeStart, b_codeEnd, b_operands, b_variables, b_output, b_returnTo, b_frameVariable, b_frameLimit, b_frameBody) i) (f_gosubDepth, f_forDepth, f_outCap, f_sourceLength, f_compiled, f_errorLine, f_tokenCount, f_tokenAt, f_heldCount, f_lineTotal, f_codeLength, f_dividedByZero, f_status, f_stopLine, f_steps, f_position, f_outputCount, f_gosubCount, f_frameCount, a_source, a_tokens, a_held, a_programOrder, a_lineNumber, a_lineKeyword, a_lineVariable, a_lineRelation, a_code, a_codeStart, a_codeEnd, a_operands, a_variables, a_output, a_returnTo, a_frameVariable, a_frameLimit, a_frameBody) i :=
  br_c (fun z => br_t z (h _)) (fun z => br_c (fun y => br_f z (br_t y (h _))) (fun y => br_f z (br_f y (h _))))
end
