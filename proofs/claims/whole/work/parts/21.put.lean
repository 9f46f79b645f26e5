/-! ===== put ===== -/
def tb_good (x : Int32) : Prop := x = 10 ∨ (¬ x < 32 ∧ ¬ 126 < x)
theorem tb_good_c {x : Int32} (h : tb_good x) : ∃ c, c < 127 ∧ x = nI c := by
  rcases h with h | ⟨h1, h2⟩
  · exact ⟨10, by omega, h⟩
  · have z0 : ¬ x < 0 := fun w => h1 (Int32.lt_trans w (by decide))
    obtain ⟨c, hc, rfl⟩ := nI_of z0
    refine ⟨c, ?_, rfl⟩
    have : ¬ 126 < c := fun w => h2 ((nI_ltI (a := 126) (by omega) hc).mpr w)
    omega
theorem tb_chr {c : Nat} (h : c < 127) : vp_nar .char ((nI c).toUInt32 % 65536).toInt32 = nI c := by
  rw [pk_vc, pk_char, pk_tn (by omega), Nat.mod_eq_of_lt (by omega)]
def tb_uN (C : Nat → Nat) (k c : Nat) : Nat → Nat := fun j => if j = k then c else C j
theorem tb_S_u (C : Nat → Nat) (k c : Nat) : upd (tb_S C) k (nI c) = tb_S (tb_uN C k c) := by
  funext j
  show (if j = k then nI c else nI (C j)) = nI (if j = k then c else C j)
  by_cases z : j = k
  · rw [if_pos z, if_pos z]
  · rw [if_neg z, if_neg z]
theorem tb_uN_lt {C : Nat → Nat} {k c : Nat} (h : ∀ j, C j < 127) (hc : c < 127) : ∀ j, tb_uN C k c j < 127 := fun j => by
  unfold tb_uN
  split
  · exact hc
  · exact h j
theorem xx_isc {post : Int32 → Prop} (x : Int32) (h1 : tb_good x → post 1) (h0 : ¬ tb_good x → post 0) : wpX_isSourceCharacter post x :=
  br_c (fun e => h1 (Or.inl e)) (fun e => br_c (fun a => h0 (fun z => z.elim e (fun y => y.1 a))) (fun a => br_c (fun b => h0 (fun z => z.elim e (fun y => y.2 b))) (fun b => h1 (Or.inr ⟨a, b⟩))))
theorem yy_ok1 {post : Int32 → Prop} {g_len g_nLines g_compiled g_errLine g_gosubDepth g_forDepth g_outCap g_nt g_vn g_on g_divErr g_status g_stopLine g_steps g_pos g_outN g_gsp g_fsp : Int32} {b_src b_lnStart b_lnEnd b_lnNum b_tk b_tv b_vs b_os b_vars b_out b_gStack b_fVar b_fLim b_fBody : Nat → Int32} {x : Int32} (h : tb_good x) (hp : post 1) : wpY_okChar post (g_len, g_nLines, g_compiled, g_errLine, g_gosubDepth, g_forDepth, g_outCap, g_nt, g_vn, g_on, g_divErr, g_status, g_stopLine, g_steps, g_pos, g_outN, g_gsp, g_fsp, b_src, b_lnStart, b_lnEnd, b_lnNum, b_tk, b_tv, b_vs, b_os, b_vars, b_out, b_gStack, b_fVar, b_fLim, b_fBody) x :=
  br_c (fun _ => hp) (fun e => br_c (fun a => absurd a ((h.resolve_left e).1)) (fun _ => br_c (fun b => absurd b ((h.resolve_left e).2)) (fun _ => hp)))
theorem yy_ok0 {post : Int32 → Prop} {g_len g_nLines g_compiled g_errLine g_gosubDepth g_forDepth g_outCap g_nt g_vn g_on g_divErr g_status g_stopLine g_steps g_pos g_outN g_gsp g_fsp : Int32} {b_src b_lnStart b_lnEnd b_lnNum b_tk b_tv b_vs b_os b_vars b_out b_gStack b_fVar b_fLim b_fBody : Nat → Int32} {x : Int32} (h : ¬ tb_good x) (hp : post 0) : wpY_okChar post (g_len, g_nLines, g_compiled, g_errLine, g_gosubDepth, g_forDepth, g_outCap, g_nt, g_vn, g_on, g_divErr, g_status, g_stopLine, g_steps, g_pos, g_outN, g_gsp, g_fsp, b_src, b_lnStart, b_lnEnd, b_lnNum, b_tk, b_tv, b_vs, b_os, b_vars, b_out, b_gStack, b_fVar, b_fLim, b_fBody) x :=
  br_c (fun e => absurd (Or.inl e) h) (fun e => br_c (fun _ => hp) (fun a => br_c (fun _ => hp) (fun b => absurd (Or.inr ⟨a, b⟩) h)))
section
variable {f_gosubDepth f_forDepth f_outCap f_compiled f_errorLine f_tokenCount f_tokenAt f_heldCount f_lineTotal f_codeLength f_dividedByZero f_status f_stopLine f_steps f_position f_outputCount f_gosubCount f_frameCount : Int32} {a_tokens a_held a_programOrder a_lineNumber a_lineKeyword a_lineVariable a_lineRelation a_code a_codeStart a_codeEnd a_operands a_variables a_output a_returnTo a_frameVariable a_frameLimit a_frameBody : Nat → Int32} {C : Nat → Nat} {n : Nat}
theorem xx_app {post : SX → Prop} {x : Int32} {c : Nat} (hx : x = nI c) (h : n < 256) (hp : post (f_gosubDepth, f_forDepth, f_outCap, nI (n + 1), f_compiled, f_errorLine, f_tokenCount, f_tokenAt, f_heldCount, f_lineTotal, f_codeLength, f_dividedByZero, f_status, f_stopLine, f_steps, f_position, f_outputCount, f_gosubCount, f_frameCount, tb_S (tb_uN C n c), a_tokens, a_held, a_programOrder, a_lineNumber, a_lineKeyword, a_lineVariable, a_lineRelation, a_code, a_codeStart, a_codeEnd, a_operands, a_variables, a_output, a_returnTo, a_frameVariable, a_frameLimit, a_frameBody)) : wpX_append post (f_gosubDepth, f_forDepth, f_outCap, nI n, f_compiled, f_errorLine, f_tokenCount, f_tokenAt, f_heldCount, f_lineTotal, f_codeLength, f_dividedByZero, f_status, f_stopLine, f_steps, f_position, f_outputCount, f_gosubCount, f_frameCount, tb_S C, a_tokens, a_held, a_programOrder, a_lineNumber, a_lineKeyword, a_lineVariable, a_lineRelation, a_code, a_codeStart, a_codeEnd, a_operands, a_variables, a_output, a_returnTo, a_frameVariable, a_frameLimit, a_frameBody) x := by
  subst hx
  exact pk_le 256 n (fun z => absurd z (by omega)) (fun _ => ⟨vp_in_nI h (by omega), nm_r (e' := tb_S (tb_uN C n c)) (by rw [nI_clamp (by omega)]; exact tb_S_u C n c) (nm_r (nI_1 n) hp)⟩)
end
/-- what a group of m characters adds -/
def tb_ap (C : Nat → Nat) (n m c1 c2 c3 c4 : Nat) : Nat → Nat :=
  if m = 1 then tb_uN C n c1 else if m = 2 then tb_uN (tb_uN C n c1) (n + 1) c2 else if m = 3 then tb_uN (tb_uN (tb_uN C n c1) (n + 1) c2) (n + 2) c3
  else tb_uN (tb_uN (tb_uN (tb_uN C n c1) (n + 1) c2) (n + 2) c3) (n + 3) c4
theorem tb_ap_lt {C : Nat → Nat} {n m c1 c2 c3 c4 : Nat} (h : ∀ j, C j < 127) (h1 : c1 < 127) (h2 : c2 < 127) (h3 : c3 < 127) (h4 : c4 < 127) : ∀ j, tb_ap C n m c1 c2 c3 c4 j < 127 := by
  unfold tb_ap
  split
  · exact tb_uN_lt h h1
  · split
    · exact tb_uN_lt (tb_uN_lt h h1) h2
    · split
      · exact tb_uN_lt (tb_uN_lt (tb_uN_lt h h1) h2) h3
      · exact tb_uN_lt (tb_uN_lt (tb_uN_lt (tb_uN_lt h h1) h2) h3) h4
/-- the group is taken -/
def tb_pg (n m : Nat) (v1 v2 v3 v4 : Int32) : Prop := n + m ≤ 256 ∧ tb_good v1 ∧ (2 ≤ m → tb_good v2) ∧ (3 ≤ m → tb_good v3) ∧ (4 ≤ m → tb_good v4)
/-- its characters -/
def tb_cc (m : Nat) (v1 v2 v3 v4 : Int32) (c1 c2 c3 c4 : Nat) : Prop := c1 < 127 ∧ c2 < 127 ∧ c3 < 127 ∧ c4 < 127 ∧ v1 = nI c1 ∧ (2 ≤ m → v2 = nI c2) ∧ (3 ≤ m → v3 = nI c3) ∧ (4 ≤ m → v4 = nI c4)
theorem tb_pg_cc {n m : Nat} {v1 v2 v3 v4 : Int32} (h : tb_pg n m v1 v2 v3 v4) : ∃ c1 c2 c3 c4, tb_cc m v1 v2 v3 v4 c1 c2 c3 c4 := by
  obtain ⟨-, g1, g2, g3, g4⟩ := h
  obtain ⟨c1, a1, b1⟩ := tb_good_c g1
  have A : ∀ (p : Prop) (x : Int32), (p → tb_good x) → ∃ c, c < 127 ∧ (p → x = nI c) := fun p x hp => by
    by_cases z : p
    · obtain ⟨c, a, b⟩ := tb_good_c (hp z)
      exact ⟨c, a, fun _ => b⟩
    · exact ⟨0, by omega, fun y => absurd y z⟩
  obtain ⟨c2, a2, b2⟩ := A _ v2 g2
  obtain ⟨c3, a3, b3⟩ := A _ v3 g3
  obtain ⟨c4, a4, b4⟩ := A _ v4 g4
  exact ⟨c1, c2, c3, c4, a1, a2, a3, a4, b1, b2, b3, b4⟩
section
variable {f_gosubDepth f_forDepth f_outCap f_compiled f_errorLine f_tokenCount f_tokenAt f_heldCount f_lineTotal f_codeLength f_dividedByZero f_status f_stopLine f_steps f_position f_outputCount f_gosubCount f_frameCount : Int32} {a_tokens a_held a_programOrder a_lineNumber a_lineKeyword a_lineVariable a_lineRelation a_code a_codeStart a_codeEnd a_operands a_variables a_output a_returnTo a_frameVariable a_frameLimit a_frameBody : Nat → Int32} {C : Nat → Nat} {n m : Nat} {v1 v2 v3 v4 : Int32} {post : Int32 → SX → Prop}
theorem xx_p105 {c1 c2 c3 c4 : Nat} (hm : 1 ≤ m ∧ m ≤ 4) (hn : n + m ≤ 256) (hc : tb_cc m v1 v2 v3 v4 c1 c2 c3 c4)
    (hp : post 1 (f_gosubDepth, f_forDepth, f_outCap, nI (n + m), 0, 0, f_tokenCount, f_tokenAt, f_heldCount, 0, 0, f_dividedByZero, 0, -1, 0, 0, 0, 0, 0, tb_S (tb_ap C n m c1 c2 c3 c4), a_tokens, a_held, a_programOrder, a_lineNumber, a_lineKeyword, a_lineVariable, a_lineRelation, a_code, a_codeStart, a_codeEnd, a_operands, tb_zr 26 a_variables, a_output, a_returnTo, a_frameVariable, a_frameLimit, a_frameBody)) :
    wX_put_105 post v1 v2 v3 v4 (nI m) f_gosubDepth f_forDepth f_outCap (nI n) f_compiled f_errorLine f_tokenCount f_tokenAt f_heldCount f_lineTotal f_codeLength f_dividedByZero f_status f_stopLine f_steps f_position f_outputCount f_gosubCount f_frameCount (tb_S C) a_tokens a_held a_programOrder a_lineNumber a_lineKeyword a_lineVariable a_lineRelation a_code a_codeStart a_codeEnd a_operands a_variables a_output a_returnTo a_frameVariable a_frameLimit a_frameBody := by
  obtain ⟨-, -, -, -, b1, b2, b3, b4⟩ := hc
  have : m = 1 ∨ m = 2 ∨ m = 3 ∨ m = 4 := by omega
  rcases this with rfl | rfl | rfl | rfl
  · exact br_f tb_10 (xx_app b1 (by omega) (br_t (by decide) (br_t (by decide) (br_t (by decide) (xx_forget hp)))))
  · exact br_f tb_10 (xx_app b1 (by omega) (br_f (by decide) (xx_app (b2 (by omega)) (by omega) (br_t (by decide) (br_t (by decide) (xx_forget hp))))))
  · exact br_f tb_10 (xx_app b1 (by omega) (br_f (by decide) (xx_app (b2 (by omega)) (by omega) (br_f (by decide) (xx_app (b3 (by omega)) (by omega) (br_t (by decide) (xx_forget hp)))))))
  · exact br_f tb_10 (xx_app b1 (by omega) (br_f (by decide) (xx_app (b2 (by omega)) (by omega) (br_f (by decide) (xx_app (b3 (by omega)) (by omega) (br_f (by decide) (xx_app (b4 (by omega)) (by omega) (xx_forget hp))))))))
theorem xx_put (hm : 1 ≤ m ∧ m ≤ 4) (hn : n ≤ 256) (hgl : ∀ q : Int32 → Prop, q (nI m) → wpX_groupLength q v1 v2 v3 v4)
    (hF : ¬ tb_pg n m v1 v2 v3 v4 → post 0 (f_gosubDepth, f_forDepth, f_outCap, nI n, f_compiled, f_errorLine, f_tokenCount, f_tokenAt, f_heldCount, f_lineTotal, f_codeLength, f_dividedByZero, f_status, f_stopLine, f_steps, f_position, f_outputCount, f_gosubCount, f_frameCount, tb_S C, a_tokens, a_held, a_programOrder, a_lineNumber, a_lineKeyword, a_lineVariable, a_lineRelation, a_code, a_codeStart, a_codeEnd, a_operands, a_variables, a_output, a_returnTo, a_frameVariable, a_frameLimit, a_frameBody))
    (hS : tb_pg n m v1 v2 v3 v4 → ∀ c1 c2 c3 c4, tb_cc m v1 v2 v3 v4 c1 c2 c3 c4 → post 1 (f_gosubDepth, f_forDepth, f_outCap, nI (n + m), 0, 0, f_tokenCount, f_tokenAt, f_heldCount, 0, 0, f_dividedByZero, 0, -1, 0, 0, 0, 0, 0, tb_S (tb_ap C n m c1 c2 c3 c4), a_tokens, a_held, a_programOrder, a_lineNumber, a_lineKeyword, a_lineVariable, a_lineRelation, a_code, a_codeStart, a_codeEnd, a_operands, tb_zr 26 a_variables, a_output, a_returnTo, a_frameVariable, a_frameLimit, a_frameBody)) :
    wpX_put post (f_gosubDepth, f_forDepth, f_outCap, nI n, f_compiled, f_errorLine, f_tokenCount, f_tokenAt, f_heldCount, f_lineTotal, f_codeLength, f_dividedByZero, f_status, f_stopLine, f_steps, f_position, f_outputCount, f_gosubCount, f_frameCount, tb_S C, a_tokens, a_held, a_programOrder, a_lineNumber, a_lineKeyword, a_lineVariable, a_lineRelation, a_code, a_codeStart, a_codeEnd, a_operands, a_variables, a_output, a_returnTo, a_frameVariable, a_frameLimit, a_frameBody) v1 v2 v3 v4 := by
  have L105 : tb_pg n m v1 v2 v3 v4 → wX_put_105 post v1 v2 v3 v4 (nI m) f_gosubDepth f_forDepth f_outCap (nI n) f_compiled f_errorLine f_tokenCount f_tokenAt f_heldCount f_lineTotal f_codeLength f_dividedByZero f_status f_stopLine f_steps f_position f_outputCount f_gosubCount f_frameCount (tb_S C) a_tokens a_held a_programOrder a_lineNumber a_lineKeyword a_lineVariable a_lineRelation a_code a_codeStart a_codeEnd a_operands a_variables a_output a_returnTo a_frameVariable a_frameLimit a_frameBody := fun h => by
    obtain ⟨c1, c2, c3, c4, hc⟩ := tb_pg_cc h
    exact xx_p105 hm h.1 hc (hS h c1 c2 c3 c4 hc)
  have F109 : ¬ tb_pg n m v1 v2 v3 v4 → wX_put_109 post v1 v2 v3 v4 (nI m) f_gosubDepth f_forDepth f_outCap (nI n) f_compiled f_errorLine f_tokenCount f_tokenAt f_heldCount f_lineTotal f_codeLength f_dividedByZero f_status f_stopLine f_steps f_position f_outputCount f_gosubCount f_frameCount (tb_S C) a_tokens a_held a_programOrder a_lineNumber a_lineKeyword a_lineVariable a_lineRelation a_code a_codeStart a_codeEnd a_operands a_variables a_output a_returnTo a_frameVariable a_frameLimit a_frameBody := fun h => br_t rfl (hF h)
  have F83 : ¬ tb_pg n m v1 v2 v3 v4 → wX_put_83 post v1 v2 v3 v4 (nI m) f_gosubDepth f_forDepth f_outCap (nI n) f_compiled f_errorLine f_tokenCount f_tokenAt f_heldCount f_lineTotal f_codeLength f_dividedByZero f_status f_stopLine f_steps f_position f_outputCount f_gosubCount f_frameCount (tb_S C) a_tokens a_held a_programOrder a_lineNumber a_lineKeyword a_lineVariable a_lineRelation a_code a_codeStart a_codeEnd a_operands a_variables a_output a_returnTo a_frameVariable a_frameLimit a_frameBody := fun h => br_t rfl (F109 h)
  have F58 : ¬ tb_pg n m v1 v2 v3 v4 → wX_put_58 post v1 v2 v3 v4 (nI m) f_gosubDepth f_forDepth f_outCap (nI n) f_compiled f_errorLine f_tokenCount f_tokenAt f_heldCount f_lineTotal f_codeLength f_dividedByZero f_status f_stopLine f_steps f_position f_outputCount f_gosubCount f_frameCount (tb_S C) a_tokens a_held a_programOrder a_lineNumber a_lineKeyword a_lineVariable a_lineRelation a_code a_codeStart a_codeEnd a_operands a_variables a_output a_returnTo a_frameVariable a_frameLimit a_frameBody := fun h => br_t rfl (F83 h)
  have L79 : n + m ≤ 256 → tb_good v1 → (2 ≤ m → tb_good v2) → (3 ≤ m → tb_good v3) → wX_put_79 post v1 v2 v3 v4 (nI m) f_gosubDepth f_forDepth f_outCap (nI n) f_compiled f_errorLine f_tokenCount f_tokenAt f_heldCount f_lineTotal f_codeLength f_dividedByZero f_status f_stopLine f_steps f_position f_outputCount f_gosubCount f_frameCount (tb_S C) a_tokens a_held a_programOrder a_lineNumber a_lineKeyword a_lineVariable a_lineRelation a_code a_codeStart a_codeEnd a_operands a_variables a_output a_returnTo a_frameVariable a_frameLimit a_frameBody := fun a g1 g2 g3 =>
    br_f tb_10 (pk_lt m 4 (fun z => L105 ⟨a, g1, g2, g3, fun y => absurd y (by omega)⟩) (fun z => xx_isc v4 (fun g4 => br_f tb_10 (L105 ⟨a, g1, g2, g3, fun _ => g4⟩)) (fun g4 => br_t rfl (F109 (fun y => g4 (y.2.2.2.2 z))))))
  have L54 : n + m ≤ 256 → tb_good v1 → (2 ≤ m → tb_good v2) → wX_put_54 post v1 v2 v3 v4 (nI m) f_gosubDepth f_forDepth f_outCap (nI n) f_compiled f_errorLine f_tokenCount f_tokenAt f_heldCount f_lineTotal f_codeLength f_dividedByZero f_status f_stopLine f_steps f_position f_outputCount f_gosubCount f_frameCount (tb_S C) a_tokens a_held a_programOrder a_lineNumber a_lineKeyword a_lineVariable a_lineRelation a_code a_codeStart a_codeEnd a_operands a_variables a_output a_returnTo a_frameVariable a_frameLimit a_frameBody := fun a g1 g2 =>
    br_f tb_10 (pk_lt m 3 (fun z => L79 a g1 g2 (fun y => absurd y (by omega))) (fun z => xx_isc v3 (fun g3 => br_f tb_10 (L79 a g1 g2 (fun _ => g3))) (fun g3 => br_t rfl (F83 (fun y => g3 (y.2.2.2.1 z))))))
  unfold wpX_put
  dsimp only
  refine hgl _ (br_f (nI_ne0 (by omega) (by omega)) (pk_le (n + m) 256 (fun a => xx_isc v1 (fun g1 => br_f tb_10 (pk_lt m 2 (fun z => L54 a g1 (fun y => absurd y (by omega))) (fun z => xx_isc v2 (fun g2 => br_f tb_10 (L54 a g1 (fun _ => g2))) (fun g2 => br_t rfl (F58 (fun y => g2 (y.2.2.1 z))))))) (fun g1 => br_t rfl (F58 (fun y => g1 y.2.1)))) (fun a => hF (fun y => absurd y.1 (by omega))) (nI_add n m) rfl (by omega) (by omega)))
end
section
variable {g_nLines g_compiled g_errLine g_gosubDepth g_forDepth g_outCap g_nt g_vn g_on g_divErr g_status g_stopLine g_steps g_pos g_outN g_gsp g_fsp : Int32} {b_lnStart b_lnEnd b_lnNum b_tk b_tv b_vs b_os b_vars b_out b_gStack b_fVar b_fLim b_fBody : Nat → Int32} {C : Nat → Nat} {n m : Nat} {v1 v2 v3 v4 : Int32} {post : Int32 → SY → Prop}
theorem yy_p111 {c1 c2 c3 c4 : Nat} (hm : 1 ≤ m ∧ m ≤ 4) (hn : n + m ≤ 256) (hc : tb_cc m v1 v2 v3 v4 c1 c2 c3 c4)
    (hp : post 1 (nI (n + m), 0, 0, 0, g_gosubDepth, g_forDepth, g_outCap, g_nt, g_vn, g_on, g_divErr, 0, -1, 0, -1, 0, 0, 0, tb_S (tb_ap C n m c1 c2 c3 c4), b_lnStart, b_lnEnd, b_lnNum, b_tk, b_tv, b_vs, b_os, tb_zr 26 b_vars, b_out, b_gStack, b_fVar, b_fLim, b_fBody)) :
    wY_put_111 post v1 v2 v3 v4 (nI m) (nI n) g_nLines g_compiled g_errLine g_gosubDepth g_forDepth g_outCap g_nt g_vn g_on g_divErr g_status g_stopLine g_steps g_pos g_outN g_gsp g_fsp (tb_S C) b_lnStart b_lnEnd b_lnNum b_tk b_tv b_vs b_os b_vars b_out b_gStack b_fVar b_fLim b_fBody := by
  obtain ⟨q1, q2, q3, q4, b1, b2, b3, b4⟩ := hc
  have U : ∀ (D : Nat → Nat) (k c : Nat) (x y : Int32), c < 127 → k < 256 → x = nI k → y = nI c → upd (tb_S D) x.toNatClampNeg (vp_nar .char (y.toUInt32 % 65536).toInt32) = tb_S (tb_uN D k c) := fun D k c x y hc hk hx hy => by
    subst hx hy
    rw [tb_chr hc, nI_clamp (by omega)]
    exact tb_S_u D k c
  have : m = 1 ∨ m = 2 ∨ m = 3 ∨ m = 4 := by omega
  rcases this with rfl | rfl | rfl | rfl
  · exact ⟨vp_in_nI (by omega) (by omega), nm_r (U C n c1 _ _ q1 (by omega) rfl b1) (br_t (by decide) (br_t (by decide) (br_t (by decide) (nm_r (nI_add n 1) (yy_reset hp)))))⟩
  · exact ⟨vp_in_nI (by omega) (by omega), nm_r (U C n c1 _ _ q1 (by omega) rfl b1) (br_f (by decide) ⟨pk_in (n + 1) 256 (by omega) (nI_add n 1), nm_r (U _ (n + 1) c2 _ _ q2 (by omega) (nI_add n 1) (b2 (by omega))) (br_t (by decide) (br_t (by decide) (nm_r (nI_add n 2) (yy_reset hp))))⟩)⟩
  · exact ⟨vp_in_nI (by omega) (by omega), nm_r (U C n c1 _ _ q1 (by omega) rfl b1) (br_f (by decide) ⟨pk_in (n + 1) 256 (by omega) (nI_add n 1), nm_r (U _ (n + 1) c2 _ _ q2 (by omega) (nI_add n 1) (b2 (by omega))) (br_f (by decide) ⟨pk_in (n + 2) 256 (by omega) (nI_add n 2), nm_r (U _ (n + 2) c3 _ _ q3 (by omega) (nI_add n 2) (b3 (by omega))) (br_t (by decide) (nm_r (nI_add n 3) (yy_reset hp)))⟩)⟩)⟩
  · exact ⟨vp_in_nI (by omega) (by omega), nm_r (U C n c1 _ _ q1 (by omega) rfl b1) (br_f (by decide) ⟨pk_in (n + 1) 256 (by omega) (nI_add n 1), nm_r (U _ (n + 1) c2 _ _ q2 (by omega) (nI_add n 1) (b2 (by omega))) (br_f (by decide) ⟨pk_in (n + 2) 256 (by omega) (nI_add n 2), nm_r (U _ (n + 2) c3 _ _ q3 (by omega) (nI_add n 2) (b3 (by omega))) (br_f (by decide) ⟨pk_in (n + 3) 256 (by omega) (nI_add n 3), nm_r (U _ (n + 3) c4 _ _ q4 (by omega) (nI_add n 3) (b4 (by omega))) (nm_r (nI_add n 4) (yy_reset hp))⟩)⟩)⟩)⟩
theorem yy_p32S {c1 c2 c3 c4 : Nat} (hm : 1 ≤ m ∧ m ≤ 4) (h : tb_pg n m v1 v2 v3 v4) (hc : tb_cc m v1 v2 v3 v4 c1 c2 c3 c4)
    (hp : post 1 (nI (n + m), 0, 0, 0, g_gosubDepth, g_forDepth, g_outCap, g_nt, g_vn, g_on, g_divErr, 0, -1, 0, -1, 0, 0, 0, tb_S (tb_ap C n m c1 c2 c3 c4), b_lnStart, b_lnEnd, b_lnNum, b_tk, b_tv, b_vs, b_os, tb_zr 26 b_vars, b_out, b_gStack, b_fVar, b_fLim, b_fBody)) :
    wY_put_32 post v1 v2 v3 v4 (nI m) (nI n) g_nLines g_compiled g_errLine g_gosubDepth g_forDepth g_outCap g_nt g_vn g_on g_divErr g_status g_stopLine g_steps g_pos g_outN g_gsp g_fsp (tb_S C) b_lnStart b_lnEnd b_lnNum b_tk b_tv b_vs b_os b_vars b_out b_gStack b_fVar b_fLim b_fBody := by
  have L111 : wY_put_111 post v1 v2 v3 v4 (nI m) (nI n) g_nLines g_compiled g_errLine g_gosubDepth g_forDepth g_outCap g_nt g_vn g_on g_divErr g_status g_stopLine g_steps g_pos g_outN g_gsp g_fsp (tb_S C) b_lnStart b_lnEnd b_lnNum b_tk b_tv b_vs b_os b_vars b_out b_gStack b_fVar b_fLim b_fBody := yy_p111 hm h.1 hc hp
  have L94 : wY_put_94 post v1 v2 v3 v4 (nI m) (nI n) g_nLines g_compiled g_errLine g_gosubDepth g_forDepth g_outCap g_nt g_vn g_on g_divErr g_status g_stopLine g_steps g_pos g_outN g_gsp g_fsp (tb_S C) b_lnStart b_lnEnd b_lnNum b_tk b_tv b_vs b_os b_vars b_out b_gStack b_fVar b_fLim b_fBody := pk_lt m 4 (fun z => L111) (fun z => yy_ok1 (h.2.2.2.2 z) (br_f tb_10 L111))
  have L78 : wY_put_78 post v1 v2 v3 v4 (nI m) (nI n) g_nLines g_compiled g_errLine g_gosubDepth g_forDepth g_outCap g_nt g_vn g_on g_divErr g_status g_stopLine g_steps g_pos g_outN g_gsp g_fsp (tb_S C) b_lnStart b_lnEnd b_lnNum b_tk b_tv b_vs b_os b_vars b_out b_gStack b_fVar b_fLim b_fBody := pk_lt m 3 (fun z => L94) (fun z => yy_ok1 (h.2.2.2.1 z) (br_f tb_10 L94))
  have := h.1
  exact br_f (nI_ne0 (by omega) (by omega)) (pk_le (n + m) 256 (fun a => yy_ok1 h.2.1 (br_f tb_10 (pk_lt m 2 (fun z => L78) (fun z => yy_ok1 (h.2.2.1 z) (br_f tb_10 L78))))) (fun a => absurd h.1 (by omega)) (nI_add n m) rfl (by omega) (by omega))
theorem yy_p32F (hm : 1 ≤ m ∧ m ≤ 4) (hn : n ≤ 256) (h : ¬ tb_pg n m v1 v2 v3 v4) (hp : post 0 (nI n, g_nLines, g_compiled, g_errLine, g_gosubDepth, g_forDepth, g_outCap, g_nt, g_vn, g_on, g_divErr, g_status, g_stopLine, g_steps, g_pos, g_outN, g_gsp, g_fsp, tb_S C, b_lnStart, b_lnEnd, b_lnNum, b_tk, b_tv, b_vs, b_os, b_vars, b_out, b_gStack, b_fVar, b_fLim, b_fBody)) : wY_put_32 post v1 v2 v3 v4 (nI m) (nI n) g_nLines g_compiled g_errLine g_gosubDepth g_forDepth g_outCap g_nt g_vn g_on g_divErr g_status g_stopLine g_steps g_pos g_outN g_gsp g_fsp (tb_S C) b_lnStart b_lnEnd b_lnNum b_tk b_tv b_vs b_os b_vars b_out b_gStack b_fVar b_fLim b_fBody := by
  refine br_f (nI_ne0 (by omega) (by omega)) (pk_le (n + m) 256 (fun a => ?_) (fun a => hp) (nI_add n m) rfl (by omega) (by omega))
  by_cases g1 : tb_good v1
  · have A : (2 ≤ m → tb_good v2) → wY_put_78 post v1 v2 v3 v4 (nI m) (nI n) g_nLines g_compiled g_errLine g_gosubDepth g_forDepth g_outCap g_nt g_vn g_on g_divErr g_status g_stopLine g_steps g_pos g_outN g_gsp g_fsp (tb_S C) b_lnStart b_lnEnd b_lnNum b_tk b_tv b_vs b_os b_vars b_out b_gStack b_fVar b_fLim b_fBody := fun g2 => by
      have B : (3 ≤ m → tb_good v3) → wY_put_94 post v1 v2 v3 v4 (nI m) (nI n) g_nLines g_compiled g_errLine g_gosubDepth g_forDepth g_outCap g_nt g_vn g_on g_divErr g_status g_stopLine g_steps g_pos g_outN g_gsp g_fsp (tb_S C) b_lnStart b_lnEnd b_lnNum b_tk b_tv b_vs b_os b_vars b_out b_gStack b_fVar b_fLim b_fBody := fun g3 =>
        pk_lt m 4 (fun z => absurd ⟨a, g1, g2, g3, fun y => absurd y (by omega)⟩ h) (fun z => yy_ok0 (fun g4 => h ⟨a, g1, g2, g3, fun _ => g4⟩) (br_t rfl hp))
      refine pk_lt m 3 (fun z => B (fun y => absurd y (by omega))) (fun z => ?_)
      by_cases g3 : tb_good v3
      · exact yy_ok1 g3 (br_f tb_10 (B (fun _ => g3)))
      · exact yy_ok0 g3 (br_t rfl hp)
    refine yy_ok1 g1 (br_f tb_10 (pk_lt m 2 (fun z => A (fun y => absurd y (by omega))) (fun z => ?_)))
    by_cases g2 : tb_good v2
    · exact yy_ok1 g2 (br_f tb_10 (A (fun _ => g2)))
    · exact yy_ok0 g2 (br_t rfl hp)
  · exact yy_ok0 g1 (br_t rfl hp)
end
theorem i_vc_put {k : Nat} {u : SX} {v : SY} (I : i_Rel k u v) (hk : k + 5 ≤ 2563) (v1 : Int32) (v2 : Int32) (v3 : Int32) (v4 : Int32) : wpX_put (fun r u' => wpY_put (fun r' v' => r' = r ∧ i_Rel (k + 5) u' v') v v1 v2 v3 v4) u v1 v2 v3 v4 := by
  obtain ⟨f_gosubDepth, f_forDepth, f_outCap, f_sourceLength, f_compiled, f_errorLine, f_tokenCount, f_tokenAt, f_heldCount, f_lineTotal, f_codeLength, f_dividedByZero, f_status, f_stopLine, f_steps, f_position, f_outputCount, f_gosubCount, f_frameCount, a_source, a_tokens, a_held, a_programOrder, a_lineNumber, a_lineKeyword, a_lineVariable, a_lineRelation, a_code, a_codeStart, a_codeEnd, a_operands, a_variables, a_output, a_returnTo, a_frameVariable, a_frameLimit, a_frameBody⟩ := u
  obtain ⟨g_len, g_nLines, g_compiled, g_errLine, g_gosubDepth, g_forDepth, g_outCap, g_nt, g_vn, g_on, g_divErr, g_status, g_stopLine, g_steps, g_pos, g_outN, g_gsp, g_fsp, b_src, b_lnStart, b_lnEnd, b_lnNum, b_tk, b_tv, b_vs, b_os, b_vars, b_out, b_gStack, b_fVar, b_fLim, b_fBody⟩ := v
  have J := I
  obtain ⟨g, fd, oc, n, nl, ou, gc, fc, cl, C, O, N, rfl, rfl, rfl, rfl, rfl, rfl, rfl, rfl, rfl, rfl, rfl, rfl, rfl, rfl, rfl, rfl, rfl, rfl, rfl, rfl, rfl, rfl, rfl, rfl, rfl, rfl, rfl, hz, hcn, hcl, ho, hl, hs, hpos⟩ := I
  have hn := hz.2.2.2.2.2.2.1
  have hC := hz.2.2.2.2.2.2.2
  have M : ∀ m, 1 ≤ m ∧ m ≤ 4 → (∀ q : Int32 → Prop, q (nI m) → wpX_groupLength q v1 v2 v3 v4) →
      (∀ Q : Int32 → SY → Prop, wY_put_32 Q v1 v2 v3 v4 (nI m) (nI n) (nI nl) f_compiled f_errorLine (nI g) (nI fd) (nI oc) g_nt g_vn g_on g_divErr f_status f_stopLine f_steps g_pos (nI ou) (nI gc) (nI fc) (tb_S C) b_lnStart b_lnEnd b_lnNum b_tk b_tv b_vs b_os a_variables a_output b_gStack a_frameVariable a_frameLimit b_fBody → wpY_put Q (nI n, nI nl, f_compiled, f_errorLine, nI g, nI fd, nI oc, g_nt, g_vn, g_on, g_divErr, f_status, f_stopLine, f_steps, g_pos, nI ou, nI gc, nI fc, tb_S C, b_lnStart, b_lnEnd, b_lnNum, b_tk, b_tv, b_vs, b_os, a_variables, a_output, b_gStack, a_frameVariable, a_frameLimit, b_fBody) v1 v2 v3 v4) →
      wpX_put (fun r u' => wpY_put (fun r' v' => r' = r ∧ i_Rel (k + 5) u' v') (nI n, nI nl, f_compiled, f_errorLine, nI g, nI fd, nI oc, g_nt, g_vn, g_on, g_divErr, f_status, f_stopLine, f_steps, g_pos, nI ou, nI gc, nI fc, tb_S C, b_lnStart, b_lnEnd, b_lnNum, b_tk, b_tv, b_vs, b_os, a_variables, a_output, b_gStack, a_frameVariable, a_frameLimit, b_fBody) v1 v2 v3 v4) (nI g, nI fd, nI oc, nI n, f_compiled, f_errorLine, f_tokenCount, f_tokenAt, f_heldCount, nI nl, f_codeLength, f_dividedByZero, f_status, f_stopLine, f_steps, f_position, nI ou, nI gc, nI fc, tb_S C, a_tokens, a_held, a_programOrder, a_lineNumber, a_lineKeyword, a_lineVariable, a_lineRelation, a_code, a_codeStart, a_codeEnd, a_operands, a_variables, a_output, a_returnTo, a_frameVariable, a_frameLimit, a_frameBody) v1 v2 v3 v4 := fun m hm hgl hy => by
    refine xx_put hm hn hgl (fun h => hy _ (yy_p32F hm hn h ⟨rfl, J⟩)) (fun h c1 c2 c3 c4 hc => hy _ (yy_p32S hm h hc ⟨rfl, ?_⟩))
    exact ⟨g, fd, oc, n + m, 0, 0, 0, 0, 0, tb_ap C n m c1 c2 c3 c4, fun _ => 0, fun _ => 0, rfl, rfl, rfl, rfl, rfl, rfl, rfl, rfl, rfl, rfl, rfl, rfl, rfl, rfl, rfl, rfl, rfl, rfl, rfl, rfl, rfl, rfl, rfl, rfl, rfl, rfl, rfl, ⟨hz.1, hz.2.1, hz.2.2.1, hz.2.2.2.1, hz.2.2.2.2.1, hz.2.2.2.2.2.1, h.1, tb_ap_lt hC hc.1 hc.2.1 hc.2.2.1 hc.2.2.2.1⟩, fun _ => rfl, by omega, tb_ord_0, tb_lines_0, tb_st0_0, fun h => absurd h tb_02⟩
  by_cases e1 : v1 = 0
  · unfold wpX_put
    dsimp only
    exact br_t e1 (br_t rfl (br_t e1 (br_t rfl ⟨rfl, J⟩)))
  · by_cases e2 : v2 = 0
    · exact M 1 (by omega) (fun q h => br_f e1 (br_t e2 h)) (fun Q h => br_f e1 (br_t e2 h))
    · by_cases e3 : v3 = 0
      · exact M 2 (by omega) (fun q h => br_f e1 (br_f e2 (br_t e3 h))) (fun Q h => br_f e1 (br_f e2 (br_t e3 h)))
      · by_cases e4 : v4 = 0
        · exact M 3 (by omega) (fun q h => br_f e1 (br_f e2 (br_f e3 (br_t e4 h)))) (fun Q h => br_f e1 (br_f e2 (br_f e3 (br_t e4 h))))
        · exact M 4 (by omega) (fun q h => br_f e1 (br_f e2 (br_f e3 (br_f e4 h)))) (fun Q h => br_f e1 (br_f e2 (br_f e3 (br_f e4 h))))
