/-! ===== one statement, both sides ===== -/
section
variable {f_sourceLength f_compiled f_errorLine f_tokenCount f_tokenAt f_heldCount f_codeLength f_status f_stopLine f_steps : Int32} {a_source a_tokens a_held a_programOrder a_lineNumber a_lineKeyword a_lineVariable a_lineRelation a_code a_codeStart a_codeEnd a_variables a_output a_returnTo a_frameVariable a_frameLimit a_frameBody : Nat → Int32} {a_operands : Nat → Int32} {f_dividedByZero : Int32} {g_compiled g_errLine g_status g_stopLine g_steps : Int32} {b_lnStart b_lnEnd b_lnNum b_gStack b_fBody : Nat → Int32} {g fd oc n nl ou gc fc cl p : Nat} {C O N : Nat → Nat} {post : Int32 → SX → Prop} {Z : (Int32 → SY → Prop) → Prop}
theorem tb_st0_for {g fd oc nl ou gc fc p w kk : Nat} {O N : Nat → Nat} {rt gs fv fb yb : Nat → Int32} (h : tb_st0 g fd oc nl O N ou gc fc rt gs fv fb yb) (hp : p < nl) (hk : tb_fk fv fc w kk) (hd : kk < fd) : tb_st0 g fd oc nl O N ou gc (kk + 1) rt gs (upd fv kk (nI w)) (upd fb kk (nI (p + 1))) (upd yb kk (tb_at nl O N (p + 1))) := by
  obtain ⟨a1, a2, a3, a4, a5, a6⟩ := h
  have kf : kk ≤ fc := by
    rcases hk with ⟨k1, _⟩ | ⟨k1, _⟩ <;> omega
  have nw : ∀ j, j < kk → fv j ≠ nI w := fun j hj e => by
    rcases hk with ⟨k1, k2⟩ | ⟨k1, k2⟩
    · have := a6 j kk (by omega) k1 (e.trans k2.symm); omega
    · exact k2 j (by omega) e
  refine ⟨a1, a2, by omega, a4, fun j hj => ?_, fun i j hi hj e => ?_⟩
  · by_cases z : j = kk
    · subst z
      exact ⟨p + 1, by omega, pk_us, pk_us⟩
    · rw [pk_un z, pk_un z]
      exact a5 j (by omega)
  · by_cases zi : i = kk
    · by_cases zj : j = kk
      · omega
      · rw [zi, pk_us, pk_un zj] at e
        exact absurd e.symm (nw j (by omega))
    · by_cases zj : j = kk
      · rw [zj, pk_us, pk_un zi] at e
        exact absurd e (nw i (by omega))
      · rw [pk_un zi, pk_un zj] at e
        exact a6 i j (by omega) (by omega) e
theorem tb_st0_gos {g fd oc nl ou gc fc p : Nat} {O N : Nat → Nat} {rt gs fv fb yb : Nat → Int32} (h : tb_st0 g fd oc nl O N ou gc fc rt gs fv fb yb) (hp : p < nl) (hd : gc < g) : tb_st0 g fd oc nl O N ou (gc + 1) fc (upd rt gc (nI (p + 1))) (upd gs gc (tb_at nl O N (p + 1))) fv fb yb := by
  obtain ⟨a1, a2, a3, a4, a5, a6⟩ := h
  refine ⟨a1, by omega, a3, fun j hj => ?_, a5, a6⟩
  by_cases z : j = gc
  · subst z
    exact ⟨p + 1, by omega, pk_us, pk_us⟩
  · rw [pk_un z, pk_un z]
    exact a4 j (by omega)
theorem tb_exec (hz : tb_sz g fd oc n C) (hcl : cl ≤ 256) (ho : tb_ord nl O N a_programOrder a_lineNumber b_lnNum) (hl : tb_lines C n nl a_lineNumber a_lineKeyword a_lineVariable a_lineRelation a_code a_codeStart a_codeEnd b_lnStart b_lnEnd b_lnNum cl) (hs : tb_st0 g fd oc nl O N ou gc fc a_returnTo b_gStack a_frameVariable a_frameBody b_fBody) (hp : p < nl)
    (HZ : ∀ Q : Int32 → SY → Prop, (∀ (nt vn on de : Int32) (tk tv vs os : Nat → Int32), wpY_exec Q (nI n, nI nl, g_compiled, g_errLine, nI g, nI fd, nI oc, nt, vn, on, de, g_status, g_stopLine, g_steps, nI (N (O p)), nI ou, nI gc, nI fc, tb_S C, b_lnStart, b_lnEnd, b_lnNum, tk, tv, vs, os, a_variables, a_output, b_gStack, a_frameVariable, a_frameLimit, b_fBody)) → Z Q)
    (hStop : ∀ (o dz : Int32) (ops : Nat → Int32), ¬ o = 0 → (∀ Q : Int32 → SY → Prop, (∀ (nt vn on de : Int32) (tk tv vs os : Nat → Int32), Q 1 (nI n, nI nl, g_compiled, g_errLine, nI g, nI fd, nI oc, nt, vn, on, de, o, nI (N (O p)), g_steps + 1, nI (N (O p)), nI ou, nI gc, nI fc, tb_S C, b_lnStart, b_lnEnd, b_lnNum, tk, tv, vs, os, a_variables, a_output, b_gStack, a_frameVariable, a_frameLimit, b_fBody)) → Z Q) → post o (nI g, nI fd, nI oc, f_sourceLength, f_compiled, f_errorLine, f_tokenCount, f_tokenAt, f_heldCount, nI nl, f_codeLength, dz, f_status, f_stopLine, f_steps, nI p, nI ou, nI gc, nI fc, a_source, a_tokens, a_held, a_programOrder, a_lineNumber, a_lineKeyword, a_lineVariable, a_lineRelation, a_code, a_codeStart, a_codeEnd, ops, a_variables, a_output, a_returnTo, a_frameVariable, a_frameLimit, a_frameBody))
    (hGo : ∀ (p' ou' gc' fc' : Nat) (dz : Int32) (ops V out rt gs fv fl fb yb : Nat → Int32), p' ≤ nl → tb_st0 g fd oc nl O N ou' gc' fc' rt gs fv fb yb → (∀ Q : Int32 → SY → Prop, (∀ (nt vn on de : Int32) (tk tv vs os : Nat → Int32), Q 0 (nI n, nI nl, g_compiled, g_errLine, nI g, nI fd, nI oc, nt, vn, on, de, g_status, g_stopLine, g_steps + 1, tb_at nl O N p', nI ou', nI gc', nI fc', tb_S C, b_lnStart, b_lnEnd, b_lnNum, tk, tv, vs, os, V, out, gs, fv, fl, yb)) → Z Q) → post 0 (nI g, nI fd, nI oc, f_sourceLength, f_compiled, f_errorLine, f_tokenCount, f_tokenAt, f_heldCount, nI nl, f_codeLength, dz, f_status, f_stopLine, f_steps, nI p', nI ou', nI gc', nI fc', a_source, a_tokens, a_held, a_programOrder, a_lineNumber, a_lineKeyword, a_lineVariable, a_lineRelation, a_code, a_codeStart, a_codeEnd, ops, V, out, rt, fv, fl, fb)) :
    wpX_execute post (nI g, nI fd, nI oc, f_sourceLength, f_compiled, f_errorLine, f_tokenCount, f_tokenAt, f_heldCount, nI nl, f_codeLength, f_dividedByZero, f_status, f_stopLine, f_steps, nI p, nI ou, nI gc, nI fc, a_source, a_tokens, a_held, a_programOrder, a_lineNumber, a_lineKeyword, a_lineVariable, a_lineRelation, a_code, a_codeStart, a_codeEnd, a_operands, a_variables, a_output, a_returnTo, a_frameVariable, a_frameLimit, a_frameBody) (nI (O p)) := by
  obtain ⟨g1', g8, d1', d8, c1', c32, hn, hC⟩ := hz
  have b16 := ho.1
  have ap := ho.2.1 p hp
  have l16 : O p < 16 := by omega
  obtain ⟨s, e, L, ys, ye, hse, hen, h40, hq, yn, lo⟩ := hl (O p) ap.2
  have ⟨hlen, _, hok⟩ := tb_tz_ok C e 40 s L hq
  obtain ⟨h2, t1, t2, eln, elk, cs⟩ := lo
  have yl : tb_yl C n nl p s e O N a_programOrder a_lineNumber b_lnStart b_lnEnd b_lnNum L := ⟨hC, hn, ho, hp, ys, ye, hse, hen, h40, hq, h2⟩
  obtain ⟨s1, s2, s3, s4, s5, s6⟩ := hs
  have hs : tb_st0 g fd oc nl O N ou gc fc a_returnTo b_gStack a_frameVariable a_frameBody b_fBody := ⟨s1, s2, s3, s4, s5, s6⟩
  have K1 := tb_kt_c hok 1
  have XD : ∀ (q E k : Nat) (c : List Nat), tb_xe L q = some (E, c) → q ≤ L.length → tb_slot a_code a_codeStart a_codeEnd cl k c → tb_xd a_variables a_code a_codeStart a_codeEnd cl k c := fun q E k c hx hq' hsl => by
    have ⟨x1, x2⟩ := tb_xe_ev a_variables hok hx
    have ⟨y1, y2, y3⟩ := tb_xp_le _ _ _ _ _ _ _ _ _ hx
    have := y2 hq'
    simp only [List.length_nil] at y3
    exact ⟨hcl, hsl, x2, by omega, x1⟩
  have XL : ∀ (q E : Nat) (c : List Nat), tb_xe L q = some (E, c) → q ≤ L.length → q ≤ E ∧ E ≤ L.length := fun q E c hx hq' => by
    have ⟨y1, y2, y3⟩ := tb_xp_le _ _ _ _ _ _ _ _ _ hx
    exact ⟨y1, y2 hq'⟩
  have YP : ∀ (k : Nat) (Q : Int32 → SY → Prop), tb_T L 1 = 40091 + k → k < 20 → k ≠ 16 → k ≠ 19 → 10 ≤ k → (∀ (nt vn on de : Int32) (tk tv vs os : Nat → Int32), tb_sg tk 0 (L.map (fun t => nI (tb_kf t))) → tb_sg tv 0 (L.map (fun t => nI (tb_vf t))) → wY_exec_244 Q (nI k) (tb_at nl O N (p + 1)) (nI (if k = 10 ∨ k = 17 then 4 else 2)) (nI n) (nI nl) g_compiled g_errLine (nI g) (nI fd) (nI oc) (nI L.length) vn on de g_status g_stopLine (g_steps + 1) (nI (N (O p))) (nI ou) (nI gc) (nI fc) (tb_S C) b_lnStart b_lnEnd b_lnNum tk tv vs os a_variables a_output b_gStack a_frameVariable a_frameLimit b_fBody) → Z Q := fun k Q hk1 hk2 hk3 hk4 hk5 W =>
    HZ Q (fun nt vn on de tk tv vs os => yy_pre (w := 0) yl (by omega) (by omega) (k := k) (by omega) (by omega) (fun z => absurd z hk4) (fun z => absurd z (by omega)) (fun z => absurd z hk3) (fun z => absurd z hk3) (fun z => absurd z hk4) (fun z => absurd z hk4) (fun z => absurd z hk4) (fun _ _ _ tk tv a b => W nt vn on de tk tv vs os a b))
  have TV : ∀ (tv : Nat → Int32) (w : Nat), tb_sg tv 0 (L.map (fun t => nI (tb_vf t))) → tb_T L 2 = 40000 + w → w < 26 → tv 2 = nI w := fun tv w hg hw w26 => by
    have l2 : 2 < L.length := tb_T_in (by omega)
    have := tb_sg_T (fun t => nI (tb_vf t)) hg 2 l2
    have e2 : tb_vf (L.getD 2 0) = w := by
      show tb_vf (tb_T L 2) = w
      rw [tb_vf_var (by omega)]; omega
    rw [e2] at this
    exact this
  have AT : ∀ (q : Nat) (v : Int32), q < nl → v = nI (N (O q)) → tb_at nl O N q = v := fun q v h1 h2 => by rw [h2]; exact if_pos h1
  have GP : ∀ x y, tb_pos nl O N x y → ∃ q, q ≤ nl ∧ x = nI q ∧ y = tb_at nl O N q := fun x y h => h
  rcases cs with ⟨k, iv, hv, t3, c, q, sl⟩ | ⟨k, c, q, sl⟩ | ⟨k, a, c1, q1, sl1, r1, hr, b, c2, q2, sl2, tb, c3, q3, sl3⟩ | ⟨k, iv, hv, t3, a, c1, q1, sl1, ta, c2, q2, sl2⟩ | ⟨k, iv, hv, l3⟩ | ⟨k, l2⟩
  · -- LET
    rw [k] at elk
    unfold tb_iv at iv
    have h4 : 4 ≤ L.length := by have := tb_T_in (L := L) (j := 3) (by omega); omega
    have T2 : tb_T L 2 = 40000 + (tb_T L 2 - 40000) := by omega
    refine xx_letS l16 elk hv (by omega) (XD 4 _ _ c q h4 sl) (fun y ops => hStop 6 _ ops (by decide) (fun Q w => YP 10 Q (by omega) (by omega) (by omega) (by omega) (by omega) (fun nt vn on de tk tv vs os e1 e2 => ?_))) (fun v y ops => hGo (p + 1) ou gc fc _ ops (upd a_variables (tb_T L 2 - 40000) v) a_output a_returnTo b_gStack a_frameVariable a_frameLimit a_frameBody b_fBody (by omega) hs (fun Q w => YP 10 Q (by omega) (by omega) (by omega) (by omega) (by omega) (fun nt vn on de tk tv vs os e1 e2 => ?_)))
    · exact yy_z1 hlen hok e1 e2 h4 q y (fun vn' on' de' vs' os' => w _ _ _ _ _ _ _ _)
    · exact yy_letg hlen hok e1 e2 h4 q y (TV tv _ e2 T2 (by omega)) (by omega) (fun vn' on' de' vs' os' => w _ _ _ _ _ _ _ _)
  · rcases k with k | k | k
    · -- PRINT
      rw [k] at elk
      refine xx_print l16 elk s1 c32 (XD 2 _ _ c q h2 sl) (fun y ops => hStop 6 _ ops (by decide) (fun Q w => YP 11 Q (by omega) (by omega) (by omega) (by omega) (by omega) (fun nt vn on de tk tv vs os e1 e2 => ?_))) (fun v y z ops => hStop 9 _ ops (by decide) (fun Q w => YP 11 Q (by omega) (by omega) (by omega) (by omega) (by omega) (fun nt vn on de tk tv vs os e1 e2 => ?_))) (fun v y z ops => hGo (p + 1) (ou + 1) gc fc _ ops a_variables (upd a_output ou v) a_returnTo b_gStack a_frameVariable a_frameLimit a_frameBody b_fBody (by omega) ⟨by omega, s2, s3, s4, s5, s6⟩ (fun Q w => YP 11 Q (by omega) (by omega) (by omega) (by omega) (by omega) (fun nt vn on de tk tv vs os e1 e2 => ?_)))
      · exact yy_z1 hlen hok e1 e2 h2 q y (fun vn' on' de' vs' os' => w _ _ _ _ _ _ _ _)
      · exact yy_printf hlen hok e1 e2 h2 q y c32 s1 z (fun vn' on' de' vs' os' => w _ _ _ _ _ _ _ _)
      · exact yy_printg hlen hok e1 e2 h2 q y c32 z (fun vn' on' de' vs' os' => w _ _ _ _ _ _ _ _)
    · -- GOTO
      rw [k] at elk
      refine xx_goto l16 elk ho (XD 2 _ _ c q h2 sl) (fun y ops => hStop 6 _ ops (by decide) (fun Q w => YP 14 Q (by omega) (by omega) (by omega) (by omega) (by omega) (fun nt vn on de tk tv vs os e1 e2 => ?_))) (fun v y z ops => hStop 3 _ ops (by decide) (fun Q w => YP 14 Q (by omega) (by omega) (by omega) (by omega) (by omega) (fun nt vn on de tk tv vs os e1 e2 => ?_))) (fun v y r z1 z2 ops => hGo r ou gc fc _ ops a_variables a_output a_returnTo b_gStack a_frameVariable a_frameLimit a_frameBody b_fBody (by omega) hs (fun Q w => YP 14 Q (by omega) (by omega) (by omega) (by omega) (by omega) (fun nt vn on de tk tv vs os e1 e2 => ?_)))
      · exact yy_z1 hlen hok e1 e2 h2 q y (fun vn' on' de' vs' os' => w _ _ _ _ _ _ _ _)
      · exact yy_gotof hlen hok e1 e2 ho h2 q y z (fun vn' on' de' vs' os' => w _ _ _ _ _ _ _ _)
      · rw [AT r v z1 z2] at w
        exact yy_gotog hlen hok e1 e2 ho h2 q y z1 z2 (fun vn' on' de' vs' os' => w _ _ _ _ _ _ _ _)
    · -- GOSUB
      rw [k] at elk
      refine xx_gosub l16 elk ho s2 g8 (XD 2 _ _ c q h2 sl) (fun y ops => hStop 6 _ ops (by decide) (fun Q w => YP 15 Q (by omega) (by omega) (by omega) (by omega) (by omega) (fun nt vn on de tk tv vs os e1 e2 => ?_))) (fun v y z ops => hStop 3 _ ops (by decide) (fun Q w => YP 15 Q (by omega) (by omega) (by omega) (by omega) (by omega) (fun nt vn on de tk tv vs os e1 e2 => ?_))) (fun v y r z1 z2 z3 ops => hStop 7 _ ops (by decide) (fun Q w => YP 15 Q (by omega) (by omega) (by omega) (by omega) (by omega) (fun nt vn on de tk tv vs os e1 e2 => ?_))) (fun v y r z1 z2 z3 ops => hGo r ou (gc + 1) fc _ ops a_variables a_output (upd a_returnTo gc (nI (p + 1))) (upd b_gStack gc (tb_at nl O N (p + 1))) a_frameVariable a_frameLimit a_frameBody b_fBody (by omega) (tb_st0_gos hs hp z3) (fun Q w => YP 15 Q (by omega) (by omega) (by omega) (by omega) (by omega) (fun nt vn on de tk tv vs os e1 e2 => ?_)))
      · exact yy_z1 hlen hok e1 e2 h2 q y (fun vn' on' de' vs' os' => w _ _ _ _ _ _ _ _)
      · exact yy_gosubf hlen hok e1 e2 ho h2 q y z (fun vn' on' de' vs' os' => w _ _ _ _ _ _ _ _)
      · exact yy_gosubv hlen hok e1 e2 ho h2 q y z1 z2 z3 (by omega) (fun vn' on' de' vs' os' => w _ _ _ _ _ _ _ _)
      · rw [AT r v z1 z2] at w
        exact yy_gosubg hlen hok e1 e2 ho h2 q y z1 z2 z3 g8 (fun vn' on' de' vs' os' => w _ _ _ _ _ _ _ _)
  · -- IF
    rw [k] at elk
    have ⟨a1, a2⟩ := XL _ _ _ q1 h2
    have a3 : a < L.length := tb_T_in (L := L) (j := a) (by unfold tb_ir at r1; omega)
    have ⟨b1, b2⟩ := XL _ _ _ q2 (by omega)
    have b3 : b < L.length := tb_T_in (L := L) (j := b) (by omega)
    refine xx_if l16 elk hr r1 ho (XD 2 _ _ c1 q1 h2 sl1) (XD (a + 1) _ _ c2 q2 (by omega) sl2) (XD (b + 1) _ _ c3 q3 (by omega) sl3) (fun y ops => hStop 6 _ ops (by decide) (fun Q w => YP 12 Q (by omega) (by omega) (by omega) (by omega) (by omega) (fun nt vn on de tk tv vs os e1 e2 => ?_))) (fun x y z1 z2 z3 ops => hGo (p + 1) ou gc fc _ ops a_variables a_output a_returnTo b_gStack a_frameVariable a_frameLimit a_frameBody b_fBody (by omega) hs (fun Q w => YP 12 Q (by omega) (by omega) (by omega) (by omega) (by omega) (fun nt vn on de tk tv vs os e1 e2 => ?_))) (fun x y z1 z2 z3 z4 ops => hStop 6 _ ops (by decide) (fun Q w => YP 12 Q (by omega) (by omega) (by omega) (by omega) (by omega) (fun nt vn on de tk tv vs os e1 e2 => ?_))) (fun x y v z1 z2 z3 z4 z5 ops => hStop 3 _ ops (by decide) (fun Q w => YP 12 Q (by omega) (by omega) (by omega) (by omega) (by omega) (fun nt vn on de tk tv vs os e1 e2 => ?_))) (fun x y v z1 z2 z3 z4 r z5 z6 ops => hGo r ou gc fc _ ops a_variables a_output a_returnTo b_gStack a_frameVariable a_frameLimit a_frameBody b_fBody (by omega) hs (fun Q w => YP 12 Q (by omega) (by omega) (by omega) (by omega) (by omega) (fun nt vn on de tk tv vs os e1 e2 => ?_)))
    · by_cases yy : (tb_ev a_variables c1 ([], false)).2 = true
      · exact yy_z1 hlen hok e1 e2 h2 q1 yy (fun vn' on' de' vs' os' => w _ _ _ _ _ _ _ _)
      · obtain ⟨⟨v1, hv1⟩, _⟩ := tb_xe_ev a_variables hok q1
        exact yy_z2 hlen hok e1 e2 (Or.inl rfl) h2 q1 (Prod.ext hv1 (Bool.eq_false_iff.mpr yy)) (by omega) q2 (y.resolve_left yy) (fun vn' on' de' vs' os' => w _ _ _ _ _ _ _ _)
    · exact yy_ifn hlen hok e1 e2 h2 q1 z1 (by omega) q2 z2 rfl r1 z3 (fun vn' on' de' vs' os' => w _ _ _ _ _ _ _ _)
    · exact yy_ifz hlen hok e1 e2 h2 q1 z1 (by omega) q2 z2 rfl r1 z3 (by omega) q3 z4 (fun vn' on' de' vs' os' => w _ _ _ _ _ _ _ _)
    · exact yy_ifj hlen hok e1 e2 h2 q1 z1 (by omega) q2 z2 rfl r1 z3 (by omega) q3 z4 (fun vn' on' de' vs' os' P hP => yy_jumpf ho z5 (hP _ _ (w _ _ _ _ _ _ _ _) rfl))
    · rw [AT r v z5 z6] at w
      exact yy_ifj hlen hok e1 e2 h2 q1 z1 (by omega) q2 z2 rfl r1 z3 (by omega) q3 z4 (fun vn' on' de' vs' os' P hP => yy_jumpg ho z5 z6 (hP _ _ (w _ _ _ _ _ _ _ _) rfl))
  · -- FOR
    rw [k] at elk
    unfold tb_iv at iv
    have h4 : 4 ≤ L.length := by have := tb_T_in (L := L) (j := 3) (by omega); omega
    have T2 : tb_T L 2 = 40000 + (tb_T L 2 - 40000) := by omega
    have ⟨a1, a2⟩ := XL _ _ _ q1 h4
    have a3 : a < L.length := tb_T_in (L := L) (j := a) (by omega)
    refine xx_for l16 elk hv (by omega) s3 d8 (XD 4 _ _ c1 q1 h4 sl1) (XD (a + 1) _ _ c2 q2 (by omega) sl2) (fun y ops => hStop 6 _ ops (by decide) (fun Q w => YP 17 Q (by omega) (by omega) (by omega) (by omega) (by omega) (fun nt vn on de tk tv vs os e1 e2 => ?_))) (fun x y kk z1 z2 z3 z4 ops => hStop 8 _ ops (by decide) (fun Q w => YP 17 Q (by omega) (by omega) (by omega) (by omega) (by omega) (fun nt vn on de tk tv vs os e1 e2 => ?_))) (fun x y kk z1 z2 z3 z4 ops => hGo (p + 1) ou gc (kk + 1) _ ops (upd a_variables (tb_T L 2 - 40000) x) a_output a_returnTo b_gStack (upd a_frameVariable kk (nI (tb_T L 2 - 40000))) (upd a_frameLimit kk y) (upd a_frameBody kk (nI (p + 1))) (upd b_fBody kk (tb_at nl O N (p + 1))) (by omega) (tb_st0_for hs hp z3 z4) (fun Q w => YP 17 Q (by omega) (by omega) (by omega) (by omega) (by omega) (fun nt vn on de tk tv vs os e1 e2 => ?_)))
    · by_cases yy : (tb_ev a_variables c1 ([], false)).2 = true
      · exact yy_z1 hlen hok e1 e2 h4 q1 yy (fun vn' on' de' vs' os' => w _ _ _ _ _ _ _ _)
      · obtain ⟨⟨v1, hv1⟩, _⟩ := tb_xe_ev a_variables hok q1
        exact yy_z2 hlen hok e1 e2 (Or.inr rfl) h4 q1 (Prod.ext hv1 (Bool.eq_false_iff.mpr yy)) (by omega) q2 (y.resolve_left yy) (fun vn' on' de' vs' os' => w _ _ _ _ _ _ _ _)
    · have kk8 : kk ≤ 8 := by
        rcases z3 with ⟨u1, _⟩ | ⟨u1, _⟩ <;> omega
      exact yy_for hlen hok e1 e2 h4 q1 z1 (by omega) q2 z2 (TV tv _ e2 T2 (by omega)) (by omega) z3 s6 (fun vn' on' de' vs' os' => yy_for525v z4 kk8 (w _ _ _ _ _ _ _ _))
    · exact yy_for hlen hok e1 e2 h4 q1 z1 (by omega) q2 z2 (TV tv _ e2 T2 (by omega)) (by omega) z3 s6 (fun vn' on' de' vs' os' => yy_for525g (by omega) z4 d8 (w _ _ _ _ _ _ _ _))
  · -- NEXT
    rw [k] at elk
    unfold tb_iv at iv
    have T2 : tb_T L 2 = 40000 + (tb_T L 2 - 40000) := by omega
    refine xx_nextS l16 elk hv (by omega) (by omega) (fun y => hStop 5 _ _ (by decide) (fun Q w => HZ Q (fun nt vn on de tk tv vs os => ?_))) (fun j j1 j2 j3 => hGo (p + 1) ou gc j _ _ (upd a_variables (tb_T L 2 - 40000) (a_variables (tb_T L 2 - 40000) + 1)) a_output a_returnTo b_gStack a_frameVariable a_frameLimit a_frameBody b_fBody (by omega) ⟨s1, s2, by omega, s4, fun i hi => s5 i (by omega), fun i i' hi hi' => s6 i i' (by omega) (by omega)⟩ (fun Q w => HZ Q (fun nt vn on de tk tv vs os => ?_))) (fun j j1 j2 j3 => ?_)
    · exact yy_pre yl (by omega) (by omega) (k := 19) (by omega) (by omega) (fun _ => ⟨by omega, T2⟩) (fun z => absurd z (by omega)) (fun z => absurd z (by omega)) (fun z => absurd z (by omega)) (fun _ _ tk tv => w _ _ _ _ _ _ _ _) (fun _ i i1 i2 => absurd i2 (y i i1)) (fun _ i i1 i2 => absurd i2 (y i i1)) (fun _ _ z => absurd rfl z)
    · refine yy_pre yl (by omega) (by omega) (k := 19) (by omega) (by omega) (fun _ => ⟨by omega, T2⟩) (fun z => absurd z (by omega)) (fun z => absurd z (by omega)) (fun z => absurd z (by omega)) (fun _ y => absurd j2 (y j j1)) (fun _ i i1 i2 i3 tk tv => ?_) (fun _ i i1 i2 i3 => ?_) (fun _ _ z => absurd rfl z)
      · have ij := s6 i j i1 j1 (i2.trans j2.symm)
        subst ij
        exact w _ _ _ _ _ _ _ _
      · have ij := s6 i j i1 j1 (i2.trans j2.symm)
        subst ij
        exact absurd j3 i3
    · obtain ⟨r, r1, r2, r3⟩ := GP _ _ (s5 j j1)
      rw [r2]
      refine hGo r ou gc (j + 1) _ _ (upd a_variables (tb_T L 2 - 40000) (a_variables (tb_T L 2 - 40000) + 1)) a_output a_returnTo b_gStack a_frameVariable a_frameLimit a_frameBody b_fBody r1 ⟨s1, s2, by omega, s4, fun i hi => s5 i (by omega), fun i i' hi hi' => s6 i i' (by omega) (by omega)⟩ (fun Q w => HZ Q (fun nt vn on de tk tv vs os => ?_))
      rw [← r3] at w
      refine yy_pre yl (by omega) (by omega) (k := 19) (by omega) (by omega) (fun _ => ⟨by omega, T2⟩) (fun z => absurd z (by omega)) (fun z => absurd z (by omega)) (fun z => absurd z (by omega)) (fun _ y => absurd j2 (y j j1)) (fun _ i i1 i2 i3 => ?_) (fun _ i i1 i2 i3 tk tv => ?_) (fun _ _ z => absurd rfl z)
      · have ij := s6 i j i1 j1 (i2.trans j2.symm)
        subst ij
        exact absurd i3 j3
      · have ij := s6 i j i1 j1 (i2.trans j2.symm)
        subst ij
        exact w _ _ _ _ _ _ _ _
  · rcases k with k | k
    · -- RETURN
      rw [k] at elk
      refine xx_return l16 elk (by omega) (fun y => hStop 4 _ _ (by decide) (fun Q w => HZ Q (fun nt vn on de tk tv vs os => ?_))) (fun j y => ?_)
      · exact yy_pre (w := 0) yl (by omega) (by omega) (k := 16) (by omega) (by omega) (fun z => absurd z (by omega)) (fun z => absurd z (by omega)) (fun _ _ tk tv => w _ _ _ _ _ _ _ _) (fun _ j z => absurd z (by omega)) (fun z => absurd z (by omega)) (fun z => absurd z (by omega)) (fun z => absurd z (by omega)) (fun _ z => absurd rfl z)
      · obtain ⟨r, r1, r2, r3⟩ := GP _ _ (s4 j (by omega))
        rw [r2]
        refine hGo r ou j fc _ _ a_variables a_output a_returnTo b_gStack a_frameVariable a_frameLimit a_frameBody b_fBody r1 ⟨s1, by omega, s3, fun i hi => s4 i (by omega), s5, s6⟩ (fun Q w => HZ Q (fun nt vn on de tk tv vs os => ?_))
        rw [← r3] at w
        refine yy_pre (w := 0) yl (by omega) (by omega) (k := 16) (by omega) (by omega) (fun z => absurd z (by omega)) (fun z => absurd z (by omega)) (fun _ z => absurd z (by omega)) (fun _ i z tk tv => ?_) (fun z => absurd z (by omega)) (fun z => absurd z (by omega)) (fun z => absurd z (by omega)) (fun _ z => absurd rfl z)
        have ij : i = j := by omega
        subst ij
        exact w _ _ _ _ _ _ _ _
    · -- END
      rw [k] at elk
      refine xx_end l16 elk (hStop 1 _ _ (by decide) (fun Q w => HZ Q (fun nt vn on de tk tv vs os => ?_)))
      exact yy_pre (w := 0) yl (by omega) (by omega) (k := 20) (by omega) (by omega) (fun z => absurd z (by omega)) (fun _ tk tv => w _ _ _ _ _ _ _ _) (fun z => absurd z (by omega)) (fun z => absurd z (by omega)) (fun z => absurd z (by omega)) (fun z => absurd z (by omega)) (fun z => absurd z (by omega)) (fun z => absurd rfl z)
end
