/-! ===== put ===== -/
def tb_good (x : Int32) : Prop := x = 10 ∨ (¬ x < 32 ∧ ¬ 126 < x)
theorem tb_good_c {x : Int32} (h : tb_good x) : ∃ c, c < 127 ∧ x = nI c := by
  rcases h with h | ⟨h1, h2⟩
  · exact ⟨10, by omega, h⟩
  · have z0 : ¬ x < 0 := fun w => h1 (Int32.lt_trans w (by decide))
    obtain ⟨c, hc, rfl⟩ := nI_of z0
    refine ⟨c, ?_, rfl⟩
    have : ¬ 126 < c := fun w => h2 ((nI_ltI (a := 126) (by omega) hc).mpr w)
    omega
def tb_uN (C : Nat → Nat) (k c : Nat) : Nat → Nat := fun j => if j = k then c else C j
theorem tb_S_u (C : Nat → Nat) (k c : Nat) : upd (tb_S C) k (nI c) = tb_S (tb_uN C k c) := by
  funext j
  show (if j = k then nI c else nI (C j)) = nI (if j = k then c else C j)
  by_cases z : j = k
  · rw [if_pos z, if_pos z]
  · rw [if_neg z, if_neg z]
theorem tb_uN_lt {C : Nat → Nat} {k c : Nat} (h : ∀ j, C j < 127) (hc : c < 127) : ∀ j, tb_uN C k c j < 127 := fun j => by
  unfold tb_uN
  split
  · exact hc
  · exact h j
theorem xx_isc {post : Int32 → Prop} (x : Int32) (h1 : tb_good x → post 1) (h0 : ¬ tb_good x → post 0) : wpX_isSourceCharacter post () x :=
  br_c (fun e => h1 (Or.inl e)) (fun e => br_c (fun a => h0 (fun z => z.elim e (fun y => y.1 a))) (fun a => br_c (fun b => h0 (fun z => z.elim e (fun y => y.2 b))) (fun b => h1 (Or.inr ⟨a, b⟩))))
section
variable {f_gosubDepth f_forDepth f_outCap f_compiled f_errorLine f_tokenCount f_tokenAt f_heldCount f_lineTotal f_codeLength f_dividedByZero f_status f_stopLine f_steps f_position f_outputCount f_gosubCount f_frameCount : Int32} {a_tokens a_held a_programOrder a_lineNumber a_lineKeyword a_lineVariable a_lineRelation a_code a_codeStart a_codeEnd a_operands a_variables a_output a_returnTo a_frameVariable a_frameLimit a_frameBody : Nat → Int32} {C : Nat → Nat} {n : Nat}
theorem xx_app {post : St2 → Prop} {x : Int32} {c : Nat} (hx : x = nI c) (h : n < 256) (hp : post (f_gosubDepth, f_forDepth, f_outCap, nI (n + 1), f_compiled, f_errorLine, f_tokenCount, f_tokenAt, f_heldCount, f_lineTotal, f_codeLength, f_dividedByZero, f_status, f_stopLine, f_steps, f_position, f_outputCount, f_gosubCount, f_frameCount, tb_S (tb_uN C n c), a_tokens, a_held, a_programOrder, a_lineNumber, a_lineKeyword, a_lineVariable, a_lineRelation, a_code, a_codeStart, a_codeEnd, a_operands, a_variables, a_output, a_returnTo, a_frameVariable, a_frameLimit, a_frameBody)) : wpX_append post (f_gosubDepth, f_forDepth, f_outCap, nI n, f_compiled, f_errorLine, f_tokenCount, f_tokenAt, f_heldCount, f_lineTotal, f_codeLength, f_dividedByZero, f_status, f_stopLine, f_steps, f_position, f_outputCount, f_gosubCount, f_frameCount, tb_S C, a_tokens, a_held, a_programOrder, a_lineNumber, a_lineKeyword, a_lineVariable, a_lineRelation, a_code, a_codeStart, a_codeEnd, a_operands, a_variables, a_output, a_returnTo, a_frameVariable, a_frameLimit, a_frameBody) x := by
  subst hx
  exact pk_le 256 n (fun z => absurd z (by omega)) (fun _ => ⟨vp_in_nI h (by omega), nm_r (e' := tb_S (tb_uN C n c)) (by rw [nI_clamp (by omega)]; exact tb_S_u C n c) (nm_r (nI_1 n) hp)⟩)
end
/-- what a group of m characters adds -/
def tb_ap (C : Nat → Nat) (n m c1 c2 c3 c4 : Nat) : Nat → Nat :=
  if m = 1 then tb_uN C n c1 else if m = 2 then tb_uN (tb_uN C n c1) (n + 1) c2 else if m = 3 then tb_uN (tb_uN (tb_uN C n c1) (n + 1) c2) (n + 2) c3
  else tb_uN (tb_uN (tb_uN (tb_uN C n c1) (n + 1) c2) (n + 2) c3) (n + 3) c4
theorem tb_ap_lt {C : Nat → Nat} {n m c1 c2 c3 c4 : Nat} (h : ∀ j, C j < 127) (h1 : c1 < 127) (h2 : c2 < 127) (h3 : c3 < 127) (h4 : c4 < 127) : ∀ j, tb_ap C n m c1 c2 c3 c4 j < 127 := by
  unfold tb_ap
  split
  · exact tb_uN_lt h h1
  · split
    · exact tb_uN_lt (tb_uN_lt h h1) h2
    · split
      · exact tb_uN_lt (tb_uN_lt (tb_uN_lt h h1) h2) h3
      · exact tb_uN_lt (tb_uN_lt (tb_uN_lt (tb_uN_lt h h1) h2) h3) h4
/-- the group is taken -/
def tb_pg (n m : Nat) (v1 v2 v3 v4 : Int32) : Prop := n + m ≤ 256 ∧ tb_good v1 ∧ (2 ≤ m → tb_good v2) ∧ (3 ≤ m → tb_good v3) ∧ (4 ≤ m → tb_good v4)
/-- its characters -/
def tb_cc (m : Nat) (v1 v2 v3 v4 : Int32) (c1 c2 c3 c4 : Nat) : Prop := c1 < 127 ∧ c2 < 127 ∧ c3 < 127 ∧ c4 < 127 ∧ v1 = nI c1 ∧ (2 ≤ m → v2 = nI c2) ∧ (3 ≤ m → v3 = nI c3) ∧ (4 ≤ m → v4 = nI c4)
theorem tb_pg_cc {n m : Nat} {v1 v2 v3 v4 : Int32} (h : tb_pg n m v1 v2 v3 v4) : ∃ c1 c2 c3 c4, tb_cc m v1 v2 v3 v4 c1 c2 c3 c4 := by
  obtain ⟨-, g1, g2, g3, g4⟩ := h
  obtain ⟨c1, a1, b1⟩ := tb_good_c g1
  have A : ∀ (p : Prop) (x : Int32), (p → tb_good x) → ∃ c, c < 127 ∧ (p → x = nI c) := fun p x hp => by
    by_cases z : p
    · obtain ⟨c, a, b⟩ := tb_good_c (hp z)
      exact ⟨c, a, fun _ => b⟩
    · exact ⟨0, by omega, fun y => absurd y z⟩
  obtain ⟨c2, a2, b2⟩ := A _ v2 g2
  obtain ⟨c3, a3, b3⟩ := A _ v3 g3
  obtain ⟨c4, a4, b4⟩ := A _ v4 g4
  exact ⟨c1, c2, c3, c4, a1, a2, a3, a4, b1, b2, b3, b4⟩
section
variable {f_gosubDepth f_forDepth f_outCap f_compiled f_errorLine f_tokenCount f_tokenAt f_heldCount f_lineTotal f_codeLength f_dividedByZero f_status f_stopLine f_steps f_position f_outputCount f_gosubCount f_frameCount : Int32} {a_tokens a_held a_programOrder a_lineNumber a_lineKeyword a_lineVariable a_lineRelation a_code a_codeStart a_codeEnd a_operands a_variables a_output a_returnTo a_frameVariable a_frameLimit a_frameBody : Nat → Int32} {C : Nat → Nat} {n m : Nat} {v1 v2 v3 v4 : Int32} {post : Int32 → St2 → Prop}
theorem xx_p105 {c1 c2 c3 c4 : Nat} (hm : 1 ≤ m ∧ m ≤ 4) (hn : n + m ≤ 256) (hc : tb_cc m v1 v2 v3 v4 c1 c2 c3 c4)
    (hp : post 1 (f_gosubDepth, f_forDepth, f_outCap, nI (n + m), 0, 0, f_tokenCount, f_tokenAt, f_heldCount, 0, 0, f_dividedByZero, 0, -1, 0, 0, 0, 0, 0, tb_S (tb_ap C n m c1 c2 c3 c4), a_tokens, a_held, a_programOrder, a_lineNumber, a_lineKeyword, a_lineVariable, a_lineRelation, a_code, a_codeStart, a_codeEnd, a_operands, tb_zr 26 a_variables, a_output, a_returnTo, a_frameVariable, a_frameLimit, a_frameBody)) :
    wX_put_105 post v1 v2 v3 v4 (nI m) f_gosubDepth f_forDepth f_outCap (nI n) f_compiled f_errorLine f_tokenCount f_tokenAt f_heldCount f_lineTotal f_codeLength f_dividedByZero f_status f_stopLine f_steps f_position f_outputCount f_gosubCount f_frameCount (tb_S C) a_tokens a_held a_programOrder a_lineNumber a_lineKeyword a_lineVariable a_lineRelation a_code a_codeStart a_codeEnd a_operands a_variables a_output a_returnTo a_frameVariable a_frameLimit a_frameBody := by
  obtain ⟨-, -, -, -, b1, b2, b3, b4⟩ := hc
  have : m = 1 ∨ m = 2 ∨ m = 3 ∨ m = 4 := by omega
  rcases this with rfl | rfl | rfl | rfl
  · exact br_f tb_10 (xx_app b1 (by omega) (br_t (by decide) (br_t (by decide) (br_t (by decide) (xx_forget hp)))))
  · exact br_f tb_10 (xx_app b1 (by omega) (br_f (by decide) (xx_app (b2 (by omega)) (by omega) (br_t (by decide) (br_t (by decide) (xx_forget hp))))))
  · exact br_f tb_10 (xx_app b1 (by omega) (br_f (by decide) (xx_app (b2 (by omega)) (by omega) (br_f (by decide) (xx_app (b3 (by omega)) (by omega) (br_t (by decide) (xx_forget hp)))))))
  · exact br_f tb_10 (xx_app b1 (by omega) (br_f (by decide) (xx_app (b2 (by omega)) (by omega) (br_f (by decide) (xx_app (b3 (by omega)) (by omega) (br_f (by decide) (xx_app (b4 (by omega)) (by omega) (xx_forget hp))))))))
theorem xx_put (hm : 1 ≤ m ∧ m ≤ 4) (hn : n ≤ 256) (hgl : ∀ q : Int32 → Prop, q (nI m) → wpX_groupLength q () v1 v2 v3 v4)
    (hF : ¬ tb_pg n m v1 v2 v3 v4 → post 0 (f_gosubDepth, f_forDepth, f_outCap, nI n, f_compiled, f_errorLine, f_tokenCount, f_tokenAt, f_heldCount, f_lineTotal, f_codeLength, f_dividedByZero, f_status, f_stopLine, f_steps, f_position, f_outputCount, f_gosubCount, f_frameCount, tb_S C, a_tokens, a_held, a_programOrder, a_lineNumber, a_lineKeyword, a_lineVariable, a_lineRelation, a_code, a_codeStart, a_codeEnd, a_operands, a_variables, a_output, a_returnTo, a_frameVariable, a_frameLimit, a_frameBody))
    (hS : tb_pg n m v1 v2 v3 v4 → ∀ c1 c2 c3 c4, tb_cc m v1 v2 v3 v4 c1 c2 c3 c4 → post 1 (f_gosubDepth, f_forDepth, f_outCap, nI (n + m), 0, 0, f_tokenCount, f_tokenAt, f_heldCount, 0, 0, f_dividedByZero, 0, -1, 0, 0, 0, 0, 0, tb_S (tb_ap C n m c1 c2 c3 c4), a_tokens, a_held, a_programOrder, a_lineNumber, a_lineKeyword, a_lineVariable, a_lineRelation, a_code, a_codeStart, a_codeEnd, a_operands, tb_zr 26 a_variables, a_output, a_returnTo, a_frameVariable, a_frameLimit, a_frameBody)) :
    wpX_put post (f_gosubDepth, f_forDepth, f_outCap, nI n, f_compiled, f_errorLine, f_tokenCount, f_tokenAt, f_heldCount, f_lineTotal, f_codeLength, f_dividedByZero, f_status, f_stopLine, f_steps, f_position, f_outputCount, f_gosubCount, f_frameCount, tb_S C, a_tokens, a_held, a_programOrder, a_lineNumber, a_lineKeyword, a_lineVariable, a_lineRelation, a_code, a_codeStart, a_codeEnd, a_operands, a_variables, a_output, a_returnTo, a_frameVariable, a_frameLimit, a_frameBody) v1 v2 v3 v4 := by
  have L105 : tb_pg n m v1 v2 v3 v4 → wX_put_105 post v1 v2 v3 v4 (nI m) f_gosubDepth f_forDepth f_outCap (nI n) f_compiled f_errorLine f_tokenCount f_tokenAt f_heldCount f_lineTotal f_codeLength f_dividedByZero f_status f_stopLine f_steps f_position f_outputCount f_gosubCount f_frameCount (tb_S C) a_tokens a_held a_programOrder a_lineNumber a_lineKeyword a_lineVariable a_lineRelation a_code a_codeStart a_codeEnd a_operands a_variables a_output a_returnTo a_frameVariable a_frameLimit a_frameBody := fun h => by
    obtain ⟨c1, c2, c3, c4, hc⟩ := tb_pg_cc h
    exact xx_p105 hm h.1 hc (hS h c1 c2 c3 c4 hc)
  have F109 : ¬ tb_pg n m v1 v2 v3 v4 → wX_put_109 post v1 v2 v3 v4 (nI m) f_gosubDepth f_forDepth f_outCap (nI n) f_compiled f_errorLine f_tokenCount f_tokenAt f_heldCount f_lineTotal f_codeLength f_dividedByZero f_status f_stopLine f_steps f_position f_outputCount f_gosubCount f_frameCount (tb_S C) a_tokens a_held a_programOrder a_lineNumber a_lineKeyword a_lineVariable a_lineRelation a_code a_codeStart a_codeEnd a_operands a_variables a_output a_returnTo a_frameVariable a_frameLimit a_frameBody := fun h => br_t rfl (hF h)
  have F83 : ¬ tb_pg n m v1 v2 v3 v4 → wX_put_83 post v1 v2 v3 v4 (nI m) f_gosubDepth f_forDepth f_outCap (nI n) f_compiled f_errorLine f_tokenCount f_tokenAt f_heldCount f_lineTotal f_codeLength f_dividedByZero f_status f_stopLine f_steps f_position f_outputCount f_gosubCount f_frameCount (tb_S C) a_tokens a_held a_programOrder a_lineNumber a_lineKeyword a_lineVariable a_lineRelation a_code a_codeStart a_codeEnd a_operands a_variables a_output a_returnTo a_frameVariable a_frameLimit a_frameBody := fun h => br_t rfl (F109 h)
  have F58 : ¬ tb_pg n m v1 v2 v3 v4 → wX_put_58 post v1 v2 v3 v4 (nI m) f_gosubDepth f_forDepth f_outCap (nI n) f_compiled f_errorLine f_tokenCount f_tokenAt f_heldCount f_lineTotal f_codeLength f_dividedByZero f_status f_stopLine f_steps f_position f_outputCount f_gosubCount f_frameCount (tb_S C) a_tokens a_held a_programOrder a_lineNumber a_lineKeyword a_lineVariable a_lineRelation a_code a_codeStart a_codeEnd a_operands a_variables a_output a_returnTo a_frameVariable a_frameLimit a_frameBody := fun h => br_t rfl (F83 h)
  have L79 : n + m ≤ 256 → tb_good v1 → (2 ≤ m → tb_good v2) → (3 ≤ m → tb_good v3) → wX_put_79 post v1 v2 v3 v4 (nI m) f_gosubDepth f_forDepth f_outCap (nI n) f_compiled f_errorLine f_tokenCount f_tokenAt f_heldCount f_lineTotal f_codeLength f_dividedByZero f_status f_stopLine f_steps f_position f_outputCount f_gosubCount f_frameCount (tb_S C) a_tokens a_held a_programOrder a_lineNumber a_lineKeyword a_lineVariable a_lineRelation a_code a_codeStart a_codeEnd a_operands a_variables a_output a_returnTo a_frameVariable a_frameLimit a_frameBody := fun a g1 g2 g3 =>
    br_f tb_10 (pk_lt m 4 (fun z => L105 ⟨a, g1, g2, g3, fun y => absurd y (by omega)⟩) (fun z => xx_isc v4 (fun g4 => br_f tb_10 (L105 ⟨a, g1, g2, g3, fun _ => g4⟩)) (fun g4 => br_t rfl (F109 (fun y => g4 (y.2.2.2.2 z))))))
  have L54 : n + m ≤ 256 → tb_good v1 → (2 ≤ m → tb_good v2) → wX_put_54 post v1 v2 v3 v4 (nI m) f_gosubDepth f_forDepth f_outCap (nI n) f_compiled f_errorLine f_tokenCount f_tokenAt f_heldCount f_lineTotal f_codeLength f_dividedByZero f_status f_stopLine f_steps f_position f_outputCount f_gosubCount f_frameCount (tb_S C) a_tokens a_held a_programOrder a_lineNumber a_lineKeyword a_lineVariable a_lineRelation a_code a_codeStart a_codeEnd a_operands a_variables a_output a_returnTo a_frameVariable a_frameLimit a_frameBody := fun a g1 g2 =>
    br_f tb_10 (pk_lt m 3 (fun z => L79 a g1 g2 (fun y => absurd y (by omega))) (fun z => xx_isc v3 (fun g3 => br_f tb_10 (L79 a g1 g2 (fun _ => g3))) (fun g3 => br_t rfl (F83 (fun y => g3 (y.2.2.2.1 z))))))
  unfold wpX_put
  dsimp only
  refine hgl _ (br_f (nI_ne0 (by omega) (by omega)) (pk_le (n + m) 256 (fun a => xx_isc v1 (fun g1 => br_f tb_10 (pk_lt m 2 (fun z => L54 a g1 (fun y => absurd y (by omega))) (fun z => xx_isc v2 (fun g2 => br_f tb_10 (L54 a g1 (fun _ => g2))) (fun g2 => br_t rfl (F58 (fun y => g2 (y.2.2.1 z))))))) (fun g1 => br_t rfl (F58 (fun y => g1 y.2.1)))) (fun a => hF (fun y => absurd y.1 (by omega))) (nI_add n m) rfl (by omega) (by omega)))
end
