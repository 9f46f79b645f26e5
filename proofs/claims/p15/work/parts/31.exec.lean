/-! ===== one statement, two objects ===== -/
theorem tb_evc {V : Nat → Int32} {c : List Nat} {v : Int32} (y : (tb_ev V c ([], false)).2 = true) (q : tb_ev V c ([], false) = ([v], false)) : False := by
  rw [q] at y; cases y
theorem tb_evi {V : Nat → Int32} {c : List Nat} {v w : Int32} (y : tb_ev V c ([], false) = ([v], false)) (q : tb_ev V c ([], false) = ([w], false)) : w = v := by
  rw [q] at y; cases y; rfl
section
variable {L : List Nat} {l cl a b : Nat} {ln lk lv lr cd cs ce : Nat → Int32} {c c2 c3 : List Nat}
theorem tb_lo_let (h : tb_lo L l ln lk lv lr cd cs ce cl) (k : tb_T L 1 = 40101) (q : tb_xe L 4 = some (L.length, c)) : lv l = nI (tb_T L 2 - 40000) ∧ tb_slot cd cs ce cl (l * 3) c := by
  rcases h.2.2.2.2.2 with ⟨x1, x2, x3, x4, y, x5, x6⟩ | y | y | y | y | y
  · rw [q] at x5; cases x5; exact ⟨x3, x6⟩
  all_goals omega
theorem tb_lo_exp (h : tb_lo L l ln lk lv lr cd cs ce cl) (k : tb_T L 1 = 40102 ∨ tb_T L 1 = 40105 ∨ tb_T L 1 = 40106) (q : tb_xe L 2 = some (L.length, c)) : tb_slot cd cs ce cl (l * 3) c := by
  rcases h.2.2.2.2.2 with y | ⟨x1, y, x5, x6⟩ | y | y | y | y
  · omega
  · rw [q] at x5; cases x5; exact x6
  all_goals omega
theorem tb_lo_if (h : tb_lo L l ln lk lv lr cd cs ce cl) (k : tb_T L 1 = 40103) (q : tb_xe L 2 = some (a, c)) (q2 : tb_xe L (a + 1) = some (b, c2)) (q3 : tb_xe L (b + 1) = some (L.length, c3)) : tb_slot cd cs ce cl (l * 3) c ∧ lr l = nI (tb_T L a) ∧ tb_slot cd cs ce cl (l * 3 + 1) c2 ∧ tb_slot cd cs ce cl (l * 3 + 2) c3 := by
  rcases h.2.2.2.2.2 with y | y | ⟨x1, y, z, x2, x3, x4, x5, y2, z2, x6, x7, x8, z3, x9, x10⟩ | y | y | y
  · omega
  · omega
  · rw [q] at x2; cases x2; rw [q2] at x6; cases x6; rw [q3] at x9; cases x9; exact ⟨x3, x5, x7, x10⟩
  all_goals omega
theorem tb_lo_for (h : tb_lo L l ln lk lv lr cd cs ce cl) (k : tb_T L 1 = 40108) (q : tb_xe L 4 = some (a, c)) (q2 : tb_xe L (a + 1) = some (L.length, c2)) : lv l = nI (tb_T L 2 - 40000) ∧ tb_slot cd cs ce cl (l * 3) c ∧ tb_slot cd cs ce cl (l * 3 + 1) c2 := by
  rcases h.2.2.2.2.2 with y | y | y | ⟨x1, x2, x3, x4, y, z, x5, x6, x7, z2, x8, x9⟩ | y | y
  · omega
  · omega
  · omega
  · rw [q] at x5; cases x5; rw [q2] at x8; cases x8; exact ⟨x3, x6, x9⟩
  all_goals omega
theorem tb_lo_next (h : tb_lo L l ln lk lv lr cd cs ce cl) (k : tb_T L 1 = 40110) : lv l = nI (tb_T L 2 - 40000) := by
  rcases h.2.2.2.2.2 with y | y | y | y | ⟨x1, x2, x3, x4⟩ | y
  · omega
  · omega
  · omega
  · omega
  · exact x3
  · omega
end
/-- the stacks and the output of a run -/
def tb_s15 (g fd oc nl ou gc fc : Nat) (rt fv fb : Nat → Int32) : Prop :=
  ou ≤ oc ∧ gc ≤ g ∧ fc ≤ fd ∧ (∀ j, j < gc → ∃ p, p ≤ nl ∧ rt j = nI p) ∧ (∀ j, j < fc → ∃ p, p ≤ nl ∧ fb j = nI p) ∧ (∀ i j, i < fc → j < fc → fv i = fv j → i = j)
theorem tb_s15_0 {g fd oc nl : Nat} {rt fv fb : Nat → Int32} : tb_s15 g fd oc nl 0 0 0 rt fv fb :=
  ⟨Nat.zero_le _, Nat.zero_le _, Nat.zero_le _, fun j hj => by omega, fun j hj => by omega, fun i j hi => by omega⟩
theorem tb_fk_u {fv : Nat → Int32} {fc w kk k2 : Nat} (inj : ∀ i j, i < fc → j < fc → fv i = fv j → i = j) (h : tb_fk fv fc w kk) (h2 : tb_fk fv fc w k2) : k2 = kk := by
  rcases h with ⟨a1, a2⟩ | ⟨a1, a2⟩
  · rcases h2 with ⟨b1, b2⟩ | ⟨b1, b2⟩
    · exact inj _ _ b1 a1 (b2.trans a2.symm)
    · exact absurd a2 (b2 kk a1)
  · rcases h2 with ⟨b1, b2⟩ | ⟨b1, b2⟩
    · exact absurd b2 (a2 k2 b1)
    · omega
theorem tb_s15_for {g fd oc nl ou gc fc p w kk : Nat} {rt fv fb : Nat → Int32} (h : tb_s15 g fd oc nl ou gc fc rt fv fb) (hp : p < nl) (hk : tb_fk fv fc w kk) (hd : kk < fd) : tb_s15 g fd oc nl ou gc (kk + 1) rt (upd fv kk (nI w)) (upd fb kk (nI (p + 1))) := by
  obtain ⟨a1, a2, a3, a4, a5, a6⟩ := h
  have kf : kk ≤ fc := by
    rcases hk with ⟨k1, _⟩ | ⟨k1, _⟩ <;> omega
  have nw : ∀ j, j < kk → fv j ≠ nI w := fun j hj e => by
    rcases hk with ⟨k1, k2⟩ | ⟨k1, k2⟩
    · have := a6 j kk (by omega) k1 (e.trans k2.symm); omega
    · exact k2 j (by omega) e
  refine ⟨a1, a2, by omega, a4, fun j hj => ?_, fun i j hi hj e => ?_⟩
  · by_cases z : j = kk
    · subst z
      exact ⟨p + 1, by omega, pk_us⟩
    · rw [pk_un z]
      exact a5 j (by omega)
  · by_cases zi : i = kk
    · by_cases zj : j = kk
      · omega
      · rw [zi, pk_us, pk_un zj] at e
        exact absurd e.symm (nw j (by omega))
    · by_cases zj : j = kk
      · rw [zj, pk_us, pk_un zi] at e
        exact absurd e (nw i (by omega))
      · rw [pk_un zi, pk_un zj] at e
        exact a6 i j (by omega) (by omega) e
theorem tb_s15_gos {g fd oc nl ou gc fc p : Nat} {rt fv fb : Nat → Int32} (h : tb_s15 g fd oc nl ou gc fc rt fv fb) (hp : p < nl) (hd : gc < g) : tb_s15 g fd oc nl ou (gc + 1) fc (upd rt gc (nI (p + 1))) fv fb := by
  obtain ⟨a1, a2, a3, a4, a5, a6⟩ := h
  refine ⟨a1, by omega, a3, fun j hj => ?_, a5, a6⟩
  by_cases z : j = gc
  · subst z
    exact ⟨p + 1, by omega, pk_us⟩
  · rw [pk_un z]
    exact a4 j (by omega)
/-- the sizes -/
def tb_sz (g fd oc : Nat) : Prop := 1 ≤ g ∧ g ≤ 8 ∧ 1 ≤ fd ∧ fd ≤ 8 ∧ 1 ≤ oc ∧ oc ≤ 32
section
variable {f_sourceLength f_compiled f_errorLine f_tokenCount f_tokenAt f_heldCount f_codeLength f_status f_stopLine f_steps : Int32} {a_source a_tokens a_held a_programOrder a_lineNumber a_lineKeyword a_lineVariable a_lineRelation a_code a_codeStart a_codeEnd a_variables a_output a_returnTo a_frameVariable a_frameLimit a_frameBody : Nat → Int32} {a_operands : Nat → Int32} {f_dividedByZero : Int32} {g_sourceLength g_compiled g_errorLine g_tokenCount g_tokenAt g_heldCount g_codeLength g_status g_stopLine g_steps : Int32} {b_source b_tokens b_held b_programOrder b_lineNumber b_lineKeyword b_lineVariable b_lineRelation b_code b_codeStart b_codeEnd : Nat → Int32} {g fd oc nl ou gc fc cl cl2 p : Nat} {O N : Nat → Nat} {LL : Nat → List Nat} {post : Int32 → St2 → Prop} {Z : (Int32 → St2 → Prop) → Prop}
theorem tb_exec (hz : tb_sz g fd oc) (hcl : cl ≤ 256) (hcl2 : cl2 ≤ 256) (hx : tb_pg0 nl O N LL a_programOrder a_lineNumber a_lineKeyword a_lineVariable a_lineRelation a_code a_codeStart a_codeEnd cl) (hy : tb_pg0 nl O N LL b_programOrder b_lineNumber b_lineKeyword b_lineVariable b_lineRelation b_code b_codeStart b_codeEnd cl2) (hs : tb_s15 g fd oc nl ou gc fc a_returnTo a_frameVariable a_frameBody) (hp : p < nl)
    (HZ : ∀ Q : Int32 → St2 → Prop, (∀ (dz : Int32) (ops : Nat → Int32), wpX_execute Q (nI g, nI fd, nI oc, g_sourceLength, g_compiled, g_errorLine, g_tokenCount, g_tokenAt, g_heldCount, nI nl, g_codeLength, dz, g_status, g_stopLine, g_steps, nI p, nI ou, nI gc, nI fc, b_source, b_tokens, b_held, b_programOrder, b_lineNumber, b_lineKeyword, b_lineVariable, b_lineRelation, b_code, b_codeStart, b_codeEnd, ops, a_variables, a_output, a_returnTo, a_frameVariable, a_frameLimit, a_frameBody) (nI (O p))) → Z Q)
    (hStop : ∀ (o dz : Int32) (ops : Nat → Int32), ¬ o = 0 → ¬ o = 2 → (∀ Q : Int32 → St2 → Prop, (∀ (dz : Int32) (ops : Nat → Int32), Q o (nI g, nI fd, nI oc, g_sourceLength, g_compiled, g_errorLine, g_tokenCount, g_tokenAt, g_heldCount, nI nl, g_codeLength, dz, g_status, g_stopLine, g_steps, nI p, nI ou, nI gc, nI fc, b_source, b_tokens, b_held, b_programOrder, b_lineNumber, b_lineKeyword, b_lineVariable, b_lineRelation, b_code, b_codeStart, b_codeEnd, ops, a_variables, a_output, a_returnTo, a_frameVariable, a_frameLimit, a_frameBody)) → Z Q) → post o (nI g, nI fd, nI oc, f_sourceLength, f_compiled, f_errorLine, f_tokenCount, f_tokenAt, f_heldCount, nI nl, f_codeLength, dz, f_status, f_stopLine, f_steps, nI p, nI ou, nI gc, nI fc, a_source, a_tokens, a_held, a_programOrder, a_lineNumber, a_lineKeyword, a_lineVariable, a_lineRelation, a_code, a_codeStart, a_codeEnd, ops, a_variables, a_output, a_returnTo, a_frameVariable, a_frameLimit, a_frameBody))
    (hGo : ∀ (p' ou' gc' fc' : Nat) (dz : Int32) (ops V out rt fv fl fb : Nat → Int32), p' ≤ nl → tb_s15 g fd oc nl ou' gc' fc' rt fv fb → (∀ Q : Int32 → St2 → Prop, (∀ (dz : Int32) (ops : Nat → Int32), Q 0 (nI g, nI fd, nI oc, g_sourceLength, g_compiled, g_errorLine, g_tokenCount, g_tokenAt, g_heldCount, nI nl, g_codeLength, dz, g_status, g_stopLine, g_steps, nI p', nI ou', nI gc', nI fc', b_source, b_tokens, b_held, b_programOrder, b_lineNumber, b_lineKeyword, b_lineVariable, b_lineRelation, b_code, b_codeStart, b_codeEnd, ops, V, out, rt, fv, fl, fb)) → Z Q) → post 0 (nI g, nI fd, nI oc, f_sourceLength, f_compiled, f_errorLine, f_tokenCount, f_tokenAt, f_heldCount, nI nl, f_codeLength, dz, f_status, f_stopLine, f_steps, nI p', nI ou', nI gc', nI fc', a_source, a_tokens, a_held, a_programOrder, a_lineNumber, a_lineKeyword, a_lineVariable, a_lineRelation, a_code, a_codeStart, a_codeEnd, ops, V, out, rt, fv, fl, fb)) :
    wpX_execute post (nI g, nI fd, nI oc, f_sourceLength, f_compiled, f_errorLine, f_tokenCount, f_tokenAt, f_heldCount, nI nl, f_codeLength, f_dividedByZero, f_status, f_stopLine, f_steps, nI p, nI ou, nI gc, nI fc, a_source, a_tokens, a_held, a_programOrder, a_lineNumber, a_lineKeyword, a_lineVariable, a_lineRelation, a_code, a_codeStart, a_codeEnd, a_operands, a_variables, a_output, a_returnTo, a_frameVariable, a_frameLimit, a_frameBody) (nI (O p)) := by
  obtain ⟨g1', g8, d1', d8, c1', c32⟩ := hz
  obtain ⟨ho, hl⟩ := hx
  obtain ⟨hoy, hly⟩ := hy
  have b16 := ho.1
  have ap := ho.2.1 p hp
  have l16 : O p < 16 := by omega
  obtain ⟨hlen, hok, lo⟩ := hl (O p) ap.2
  obtain ⟨-, -, loy⟩ := hly (O p) ap.2
  have ely := loy.2.2.2.2.1
  obtain ⟨h2, t1, t2, eln, elk, cs⟩ := lo
  obtain ⟨s1, s2, s3, s4, s5, s6⟩ := hs
  have hs : tb_s15 g fd oc nl ou gc fc a_returnTo a_frameVariable a_frameBody := ⟨s1, s2, s3, s4, s5, s6⟩
  generalize hL : LL (O p) = L at *
  have XD : ∀ {cd cs ce : Nat → Int32} {cl : Nat} (q E k : Nat) (c : List Nat), cl ≤ 256 → tb_xe L q = some (E, c) → q ≤ L.length → tb_slot cd cs ce cl k c → tb_xd a_variables cd cs ce cl k c := fun {cd cs ce cl} q E k c hc hx hq' hsl => by
    have ⟨x1, x2⟩ := tb_xe_ev a_variables hok hx
    have ⟨y1, y2, y3⟩ := tb_xp_le _ _ _ _ _ _ _ _ _ hx
    have := y2 hq'
    simp only [List.length_nil] at y3
    exact ⟨hc, hsl, x2, by omega, x1⟩
  have XL : ∀ (q E : Nat) (c : List Nat), tb_xe L q = some (E, c) → q ≤ L.length → q ≤ E ∧ E ≤ L.length := fun q E c hx hq' => by
    have ⟨y1, y2, y3⟩ := tb_xp_le _ _ _ _ _ _ _ _ _ hx
    exact ⟨y1, y2 hq'⟩
  have NI : ∀ {v : Int32} {r r2 : Nat}, r < nl → v = nI (N (O r)) → r2 < nl → v = nI (N (O r2)) → r2 = r := fun {v r r2} h1 e1 h2 e2 => by
    have a := ho.2.2.1 (O r) (ho.2.1 r h1).2
    have b := ho.2.2.1 (O r2) (ho.2.1 r2 h2).2
    have := (nI_eq (by omega) (by omega)).mp (e2.symm.trans e1)
    exact tb_ord_inj ho h2 h1 this
  rcases cs with ⟨k, iv, hv, t3, c, q, sl⟩ | ⟨k, c, q, sl⟩ | ⟨k, a, c1, q1, sl1, r1, hr, b, c2, q2, sl2, tb, c3, q3, sl3⟩ | ⟨k, iv, hv, t3, a, c1, q1, sl1, ta, c2, q2, sl2⟩ | ⟨k, iv, hv, l3⟩ | ⟨k, l2⟩
  · -- LET
    rw [k] at elk ely
    unfold tb_iv at iv
    have h4 : 4 ≤ L.length := by have := tb_T_in (L := L) (j := 3) (by omega); omega
    have ⟨hv2, slb⟩ := tb_lo_let loy k q
    have DY := XD 4 _ _ c hcl2 q h4 slb
    refine xx_letS l16 elk hv (by omega) (XD 4 _ _ c hcl q h4 sl) (fun y ops => hStop 6 _ ops (by decide) (by decide) (fun Q w => HZ Q (fun dz0 ops0 => ?_))) (fun v y ops => hGo (p + 1) ou gc fc _ ops (upd a_variables (tb_T L 2 - 40000) v) a_output a_returnTo a_frameVariable a_frameLimit a_frameBody (by omega) hs (fun Q w => HZ Q (fun dz0 ops0 => ?_)))
    · exact xx_letS l16 ely hv2 (by omega) DY (fun _ _ => w _ _) (fun v z _ => (tb_evc y z).elim)
    · exact xx_letS l16 ely hv2 (by omega) DY (fun z => (tb_evc z y).elim) (fun v' z _ => by rw [tb_evi y z]; exact w _ _)
  · have slb := tb_lo_exp loy k q
    have DY := XD 2 _ _ c hcl2 q h2 slb
    rcases k with k | k | k
    · -- PRINT
      rw [k] at elk ely
      refine xx_print l16 elk s1 c32 (XD 2 _ _ c hcl q h2 sl) (fun y ops => hStop 6 _ ops (by decide) (by decide) (fun Q w => HZ Q (fun dz0 ops0 => ?_))) (fun v y z ops => hStop 9 _ ops (by decide) (by decide) (fun Q w => HZ Q (fun dz0 ops0 => ?_))) (fun v y z ops => hGo (p + 1) (ou + 1) gc fc _ ops a_variables (upd a_output ou v) a_returnTo a_frameVariable a_frameLimit a_frameBody (by omega) ⟨by omega, s2, s3, s4, s5, s6⟩ (fun Q w => HZ Q (fun dz0 ops0 => ?_)))
      · exact xx_print l16 ely s1 c32 DY (fun _ _ => w _ _) (fun v z => (tb_evc y z).elim) (fun v z => (tb_evc y z).elim)
      · exact xx_print l16 ely s1 c32 DY (fun u => (tb_evc u y).elim) (fun v' u _ _ => w _ _) (fun v' u u2 => absurd u2 (by omega))
      · exact xx_print l16 ely s1 c32 DY (fun u => (tb_evc u y).elim) (fun v' u u2 => absurd u2 (by omega)) (fun v' u u2 _ => by rw [tb_evi y u]; exact w _ _)
    · -- GOTO
      rw [k] at elk ely
      refine xx_goto l16 elk ho (XD 2 _ _ c hcl q h2 sl) (fun y ops => hStop 6 _ ops (by decide) (by decide) (fun Q w => HZ Q (fun dz0 ops0 => ?_))) (fun v y z ops => hStop 3 _ ops (by decide) (by decide) (fun Q w => HZ Q (fun dz0 ops0 => ?_))) (fun v y r z1 z2 ops => hGo r ou gc fc _ ops a_variables a_output a_returnTo a_frameVariable a_frameLimit a_frameBody (by omega) hs (fun Q w => HZ Q (fun dz0 ops0 => ?_)))
      · exact xx_goto l16 ely hoy DY (fun _ _ => w _ _) (fun v z => (tb_evc y z).elim) (fun v z => (tb_evc y z).elim)
      · exact xx_goto l16 ely hoy DY (fun u => (tb_evc u y).elim) (fun v' u _ _ => w _ _) (fun v' u r u1 u2 => absurd u2 (by rw [tb_evi y u]; exact z r u1))
      · exact xx_goto l16 ely hoy DY (fun u => (tb_evc u y).elim) (fun v' u u2 => absurd z2 (by rw [← tb_evi y u]; exact u2 r z1)) (fun v' u r' u1 u2 _ => by rw [NI z1 z2 u1 (by rw [← tb_evi y u]; exact u2)]; exact w _ _)
    · -- GOSUB
      rw [k] at elk ely
      refine xx_gosub l16 elk ho s2 g8 (XD 2 _ _ c hcl q h2 sl) (fun y ops => hStop 6 _ ops (by decide) (by decide) (fun Q w => HZ Q (fun dz0 ops0 => ?_))) (fun v y z ops => hStop 3 _ ops (by decide) (by decide) (fun Q w => HZ Q (fun dz0 ops0 => ?_))) (fun v y r z1 z2 z3 ops => hStop 7 _ ops (by decide) (by decide) (fun Q w => HZ Q (fun dz0 ops0 => ?_))) (fun v y r z1 z2 z3 ops => hGo r ou (gc + 1) fc _ ops a_variables a_output (upd a_returnTo gc (nI (p + 1))) a_frameVariable a_frameLimit a_frameBody (by omega) (tb_s15_gos hs hp z3) (fun Q w => HZ Q (fun dz0 ops0 => ?_)))
      · exact xx_gosub l16 ely hoy s2 g8 DY (fun _ _ => w _ _) (fun v z => (tb_evc y z).elim) (fun v z => (tb_evc y z).elim) (fun v z => (tb_evc y z).elim)
      · exact xx_gosub l16 ely hoy s2 g8 DY (fun u => (tb_evc u y).elim) (fun v' u _ _ => w _ _) (fun v' u r u1 u2 => absurd u2 (by rw [tb_evi y u]; exact z r u1)) (fun v' u r u1 u2 => absurd u2 (by rw [tb_evi y u]; exact z r u1))
      · exact xx_gosub l16 ely hoy s2 g8 DY (fun u => (tb_evc u y).elim) (fun v' u u2 => absurd z2 (by rw [← tb_evi y u]; exact u2 r z1)) (fun v' u r' u1 u2 _ _ => w _ _) (fun v' u r' u1 u2 u3 => absurd u3 (by omega))
      · exact xx_gosub l16 ely hoy s2 g8 DY (fun u => (tb_evc u y).elim) (fun v' u u2 => absurd z2 (by rw [← tb_evi y u]; exact u2 r z1)) (fun v' u r' u1 u2 u3 => absurd u3 (by omega)) (fun v' u r' u1 u2 _ _ => by rw [NI z1 z2 u1 (by rw [← tb_evi y u]; exact u2)]; exact w _ _)
  · -- IF
    rw [k] at elk ely
    have ⟨a1, a2⟩ := XL _ _ _ q1 h2
    have a3 : a < L.length := tb_T_in (L := L) (j := a) (by unfold tb_ir at r1; omega)
    have ⟨b1, b2⟩ := XL _ _ _ q2 (by omega)
    have b3 : b < L.length := tb_T_in (L := L) (j := b) (by omega)
    have ⟨u1, u2, u3, u4⟩ := tb_lo_if loy k q1 q2 q3
    have D1 := XD 2 _ _ c1 hcl2 q1 h2 u1
    have D2 := XD (a + 1) _ _ c2 hcl2 q2 (by omega) u3
    have D3 := XD (b + 1) _ _ c3 hcl2 q3 (by omega) u4
    refine xx_if l16 elk hr r1 ho (XD 2 _ _ c1 hcl q1 h2 sl1) (XD (a + 1) _ _ c2 hcl q2 (by omega) sl2) (XD (b + 1) _ _ c3 hcl q3 (by omega) sl3) (fun y ops => hStop 6 _ ops (by decide) (by decide) (fun Q w => HZ Q (fun dz0 ops0 => ?_))) (fun x y z1 z2 z3 ops => hGo (p + 1) ou gc fc _ ops a_variables a_output a_returnTo a_frameVariable a_frameLimit a_frameBody (by omega) hs (fun Q w => HZ Q (fun dz0 ops0 => ?_))) (fun x y z1 z2 z3 z4 ops => hStop 6 _ ops (by decide) (by decide) (fun Q w => HZ Q (fun dz0 ops0 => ?_))) (fun x y v z1 z2 z3 z4 z5 ops => hStop 3 _ ops (by decide) (by decide) (fun Q w => HZ Q (fun dz0 ops0 => ?_))) (fun x y v z1 z2 z3 z4 r z5 z6 ops => hGo r ou gc fc _ ops a_variables a_output a_returnTo a_frameVariable a_frameLimit a_frameBody (by omega) hs (fun Q w => HZ Q (fun dz0 ops0 => ?_)))
    · have NO : ∀ x y' : Int32, tb_ev a_variables c1 ([], false) = ([x], false) → tb_ev a_variables c2 ([], false) = ([y'], false) → False := fun x y' e1 e2 => y.elim (fun z => tb_evc z e1) (fun z => tb_evc z e2)
      exact xx_if l16 ely u2 r1 hoy D1 D2 D3 (fun _ _ => w _ _) (fun x y' e1 e2 => (NO x y' e1 e2).elim) (fun x y' e1 e2 => (NO x y' e1 e2).elim) (fun x y' v e1 e2 => (NO x y' e1 e2).elim) (fun x y' v e1 e2 => (NO x y' e1 e2).elim)
    · have YZ : ((tb_ev a_variables c1 ([], false)).2 = true ∨ (tb_ev a_variables c2 ([], false)).2 = true) → False := fun h => h.elim (fun z => tb_evc z z1) (fun z => tb_evc z z2)
      exact xx_if l16 ely u2 r1 hoy D1 D2 D3 (fun h => (YZ h).elim) (fun x' y' e1 e2 e3 _ => w _ _) (fun x' y' e1 e2 e3 => absurd e3 (by rw [tb_evi z1 e1, tb_evi z2 e2]; exact z3)) (fun x' y' v e1 e2 e3 => absurd e3 (by rw [tb_evi z1 e1, tb_evi z2 e2]; exact z3)) (fun x' y' v e1 e2 e3 => absurd e3 (by rw [tb_evi z1 e1, tb_evi z2 e2]; exact z3))
    · have YZ : ((tb_ev a_variables c1 ([], false)).2 = true ∨ (tb_ev a_variables c2 ([], false)).2 = true) → False := fun h => h.elim (fun z => tb_evc z z1) (fun z => tb_evc z z2)
      exact xx_if l16 ely u2 r1 hoy D1 D2 D3 (fun h => (YZ h).elim) (fun x' y' e1 e2 e3 => absurd z3 (by rw [← tb_evi z1 e1, ← tb_evi z2 e2]; exact e3)) (fun x' y' e1 e2 e3 e4 _ => w _ _) (fun x' y' v e1 e2 e3 e4 => (tb_evc z4 e4).elim) (fun x' y' v e1 e2 e3 e4 => (tb_evc z4 e4).elim)
    · have YZ : ((tb_ev a_variables c1 ([], false)).2 = true ∨ (tb_ev a_variables c2 ([], false)).2 = true) → False := fun h => h.elim (fun z => tb_evc z z1) (fun z => tb_evc z z2)
      exact xx_if l16 ely u2 r1 hoy D1 D2 D3 (fun h => (YZ h).elim) (fun x' y' e1 e2 e3 => absurd z3 (by rw [← tb_evi z1 e1, ← tb_evi z2 e2]; exact e3)) (fun x' y' e1 e2 e3 e4 => (tb_evc e4 z4).elim) (fun x' y' v' e1 e2 e3 e4 e5 _ => w _ _) (fun x' y' v' e1 e2 e3 e4 r' e5 e6 => absurd e6 (by rw [tb_evi z4 e4]; exact z5 r' e5))
    · have YZ : ((tb_ev a_variables c1 ([], false)).2 = true ∨ (tb_ev a_variables c2 ([], false)).2 = true) → False := fun h => h.elim (fun z => tb_evc z z1) (fun z => tb_evc z z2)
      exact xx_if l16 ely u2 r1 hoy D1 D2 D3 (fun h => (YZ h).elim) (fun x' y' e1 e2 e3 => absurd z3 (by rw [← tb_evi z1 e1, ← tb_evi z2 e2]; exact e3)) (fun x' y' e1 e2 e3 e4 => (tb_evc e4 z4).elim) (fun x' y' v' e1 e2 e3 e4 e5 => absurd z6 (by rw [← tb_evi z4 e4]; exact e5 r z5)) (fun x' y' v' e1 e2 e3 e4 r' e5 e6 _ => by rw [NI z5 z6 e5 (by rw [← tb_evi z4 e4]; exact e6)]; exact w _ _)
  · -- FOR
    rw [k] at elk ely
    unfold tb_iv at iv
    have h4 : 4 ≤ L.length := by have := tb_T_in (L := L) (j := 3) (by omega); omega
    have ⟨a1, a2⟩ := XL _ _ _ q1 h4
    have a3 : a < L.length := tb_T_in (L := L) (j := a) (by omega)
    have ⟨u1, u2, u3⟩ := tb_lo_for loy k q1 q2
    have D1 := XD 4 _ _ c1 hcl2 q1 h4 u2
    have D2 := XD (a + 1) _ _ c2 hcl2 q2 (by omega) u3
    refine xx_for l16 elk hv (by omega) s3 d8 (XD 4 _ _ c1 hcl q1 h4 sl1) (XD (a + 1) _ _ c2 hcl q2 (by omega) sl2) (fun y ops => hStop 6 _ ops (by decide) (by decide) (fun Q w => HZ Q (fun dz0 ops0 => ?_))) (fun x y kk z1 z2 z3 z4 ops => hStop 8 _ ops (by decide) (by decide) (fun Q w => HZ Q (fun dz0 ops0 => ?_))) (fun x y kk z1 z2 z3 z4 ops => hGo (p + 1) ou gc (kk + 1) _ ops (upd a_variables (tb_T L 2 - 40000) x) a_output a_returnTo (upd a_frameVariable kk (nI (tb_T L 2 - 40000))) (upd a_frameLimit kk y) (upd a_frameBody kk (nI (p + 1))) (by omega) (tb_s15_for hs hp z3 z4) (fun Q w => HZ Q (fun dz0 ops0 => ?_)))
    · have NO : ∀ x y' : Int32, tb_ev a_variables c1 ([], false) = ([x], false) → tb_ev a_variables c2 ([], false) = ([y'], false) → False := fun x y' e1 e2 => y.elim (fun z => tb_evc z e1) (fun z => tb_evc z e2)
      exact xx_for l16 ely u1 (by omega) s3 d8 D1 D2 (fun _ _ => w _ _) (fun x y' kk e1 e2 => (NO x y' e1 e2).elim) (fun x y' kk e1 e2 => (NO x y' e1 e2).elim)
    · have YZ : ((tb_ev a_variables c1 ([], false)).2 = true ∨ (tb_ev a_variables c2 ([], false)).2 = true) → False := fun h => h.elim (fun z => tb_evc z z1) (fun z => tb_evc z z2)
      exact xx_for l16 ely u1 (by omega) s3 d8 D1 D2 (fun h => (YZ h).elim) (fun x' y' kk' e1 e2 e3 e4 _ => w _ _) (fun x' y' kk' e1 e2 e3 e4 => absurd e4 (by rw [tb_fk_u s6 z3 e3]; omega))
    · have YZ : ((tb_ev a_variables c1 ([], false)).2 = true ∨ (tb_ev a_variables c2 ([], false)).2 = true) → False := fun h => h.elim (fun z => tb_evc z z1) (fun z => tb_evc z z2)
      exact xx_for l16 ely u1 (by omega) s3 d8 D1 D2 (fun h => (YZ h).elim) (fun x' y' kk' e1 e2 e3 e4 => absurd e4 (by rw [tb_fk_u s6 z3 e3]; omega)) (fun x' y' kk' e1 e2 e3 e4 _ => by rw [tb_fk_u s6 z3 e3, tb_evi z1 e1, tb_evi z2 e2]; exact w _ _)
  · -- NEXT
    rw [k] at elk ely
    unfold tb_iv at iv
    have hv2 := tb_lo_next loy k
    refine xx_nextS l16 elk hv (by omega) (by omega) (fun y => hStop 5 _ _ (by decide) (by decide) (fun Q w => HZ Q (fun dz0 ops0 => ?_))) (fun j j1 j2 j3 => hGo (p + 1) ou gc j _ _ (upd a_variables (tb_T L 2 - 40000) (a_variables (tb_T L 2 - 40000) + 1)) a_output a_returnTo a_frameVariable a_frameLimit a_frameBody (by omega) ⟨s1, s2, by omega, s4, fun i hi => s5 i (by omega), fun i i' hi hi' => s6 i i' (by omega) (by omega)⟩ (fun Q w => HZ Q (fun dz0 ops0 => ?_))) (fun j j1 j2 j3 => ?_)
    · exact xx_nextS l16 ely hv2 (by omega) (by omega) (fun _ => w _ _) (fun i i1 i2 => absurd i2 (y i i1)) (fun i i1 i2 => absurd i2 (y i i1))
    · exact xx_nextS l16 ely hv2 (by omega) (by omega) (fun y => absurd j2 (y j j1)) (fun i i1 i2 i3 => by rw [s6 i j i1 j1 (i2.trans j2.symm)]; exact w _ _) (fun i i1 i2 i3 => absurd j3 (by rw [← s6 i j i1 j1 (i2.trans j2.symm)]; exact i3))
    · obtain ⟨r, r1, r2⟩ := s5 j j1
      rw [r2]
      refine hGo r ou gc (j + 1) _ _ (upd a_variables (tb_T L 2 - 40000) (a_variables (tb_T L 2 - 40000) + 1)) a_output a_returnTo a_frameVariable a_frameLimit a_frameBody r1 ⟨s1, s2, by omega, s4, fun i hi => s5 i (by omega), fun i i' hi hi' => s6 i i' (by omega) (by omega)⟩ (fun Q w => HZ Q (fun dz0 ops0 => ?_))
      rw [← r2] at w
      exact xx_nextS l16 ely hv2 (by omega) (by omega) (fun y => absurd j2 (y j j1)) (fun i i1 i2 i3 => absurd i3 (by rw [s6 i j i1 j1 (i2.trans j2.symm)]; exact j3)) (fun i i1 i2 i3 => by rw [s6 i j i1 j1 (i2.trans j2.symm)]; exact w _ _)
  · rcases k with k | k
    · -- RETURN
      rw [k] at elk ely
      refine xx_return l16 elk (by omega) (fun y => hStop 4 _ _ (by decide) (by decide) (fun Q w => HZ Q (fun dz0 ops0 => ?_))) (fun j y => ?_)
      · exact xx_return l16 ely (by omega) (fun _ => w _ _) (fun j z => absurd z (by omega))
      · obtain ⟨r, r1, r2⟩ := s4 j (by omega)
        rw [r2]
        refine hGo r ou j fc _ _ a_variables a_output a_returnTo a_frameVariable a_frameLimit a_frameBody r1 ⟨s1, by omega, s3, fun i hi => s4 i (by omega), s5, s6⟩ (fun Q w => HZ Q (fun dz0 ops0 => ?_))
        rw [← r2] at w
        exact xx_return l16 ely (by omega) (fun z => absurd z (by omega)) (fun i z => by rw [show i = j from by omega]; exact w _ _)
    · -- END
      rw [k] at elk ely
      exact xx_end l16 elk (hStop 1 _ _ (by decide) (by decide) (fun Q w => HZ Q (fun dz0 ops0 => xx_end l16 ely (w _ _))))
end
