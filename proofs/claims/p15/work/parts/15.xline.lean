/-! ===== a line of the class ===== -/
def tb_blank (C : Nat → Nat) (s e : Nat) : Prop := ∀ j, s ≤ j → j < e → C j = 32
theorem tb_ord_ln {nl : Nat} {O N : Nat → Nat} {po ln yn ln' yn' : Nat → Int32} (h : tb_ord nl O N po ln yn) (a : ∀ l, l < nl → ln' l = ln l) (b : ∀ l, l < nl → yn' l = yn l) : tb_ord nl O N po ln' yn' := by
  obtain ⟨h0, h1, h2, h3, h4⟩ := h
  exact ⟨h0, h1, fun l hl => ⟨(a l hl).trans (h2 l hl).1, (b l hl).trans (h2 l hl).2.1, (h2 l hl).2.2⟩, h3, h4⟩
section
variable {f_gosubDepth f_forDepth f_outCap f_sourceLength f_compiled f_errorLine f_tokenCount f_tokenAt f_heldCount f_lineTotal f_codeLength f_dividedByZero f_status f_stopLine f_steps f_position f_outputCount f_gosubCount f_frameCount : Int32} {a_source a_tokens a_held a_programOrder a_lineNumber a_lineKeyword a_lineVariable a_lineRelation a_code a_codeStart a_codeEnd a_operands a_variables a_output a_returnTo a_frameVariable a_frameLimit a_frameBody : Nat → Int32} {C : Nat → Nat} {s e nl : Nat} {O N : Nat → Nat} {yn : Nat → Int32}
theorem xx_blankL {post : Int32 → Prop} (hC : ∀ j, C j < 127) (he : e ≤ 256) (h1 : tb_blank C s e → post 1) (h0 : ¬ tb_blank C s e → post 0) : ∀ d i, i + d = e → s ≤ i → (∀ j, s ≤ j → j < i → C j = 32) → wX_isBlank_2 post (nI e) f_gosubDepth f_forDepth f_outCap f_sourceLength f_compiled f_errorLine f_tokenCount f_tokenAt f_heldCount f_lineTotal f_codeLength f_dividedByZero f_status f_stopLine f_steps f_position f_outputCount f_gosubCount f_frameCount (tb_S C) a_tokens a_held a_programOrder a_lineNumber a_lineKeyword a_lineVariable a_lineRelation a_code a_codeStart a_codeEnd a_operands a_variables a_output a_returnTo a_frameVariable a_frameLimit a_frameBody (d + 1) (nI i)
  | 0, i, hi, hs, hb => pk_le e i (fun _ => h1 (fun j j1 j2 => hb j j1 (by omega))) (fun z => absurd z (by omega))
  | d + 1, i, hi, hs, hb => pk_le e i (fun z => absurd z (by omega)) (fun _ => ⟨vp_in_nI (by omega) (by omega), pk_eq (C i) 32 (fun z => nm_r (nI_1 i) (xx_blankL hC he h1 h0 d (i + 1) (by omega) (by omega) (fun j j1 j2 => by
      rcases Nat.lt_or_ge j i with y | y
      · exact hb j j1 y
      · have : j = i := by omega
        subst this
        exact z))) (fun z => h0 (fun b => z (b i hs (by omega)))) (tb_rd (by omega)) rfl (by have := hC i; omega)⟩)
theorem xx_findL {post : Int32 → Prop} {x : Int32} (ho : tb_ord nl O N a_programOrder a_lineNumber yn) (h1 : ∀ p, p < nl → x = nI (N (O p)) → post (nI p)) (h0 : (∀ p, p < nl → x ≠ nI (N (O p))) → post (-1)) : ∀ d p, p + d = nl → (∀ q, q < p → x ≠ nI (N (O q))) → wX_findLine_2 post x f_gosubDepth f_forDepth f_outCap f_sourceLength f_compiled f_errorLine f_tokenCount f_tokenAt f_heldCount (nI nl) f_codeLength f_dividedByZero f_status f_stopLine f_steps f_position f_outputCount f_gosubCount f_frameCount a_source a_tokens a_held a_programOrder a_lineNumber a_lineKeyword a_lineVariable a_lineRelation a_code a_codeStart a_codeEnd a_operands a_variables a_output a_returnTo a_frameVariable a_frameLimit a_frameBody (d + 1) (nI p)
  | 0, p, hp, hq => by
    have := ho.1
    exact pk_le nl p (fun _ => h0 (fun q hq' => hq q (by omega))) (fun z => absurd z (by omega))
  | d + 1, p, hp, hq => by
    obtain ⟨b16, o1, o2, o3, o4⟩ := ho
    have a := o1 p (by omega)
    have b := o2 (O p) a.2
    have r1 : a_programOrder (nI p).toNatClampNeg = nI (O p) := by rw [nI_clamp (by omega)]; exact a.1
    have r2 : a_lineNumber (a_programOrder (nI p).toNatClampNeg).toNatClampNeg = nI (N (O p)) := by rw [r1, nI_clamp (by omega)]; exact b.1
    refine pk_le nl p (fun z => absurd z (by omega)) (fun _ => ⟨vp_in_nI (by omega) (by omega), pk_in (O p) 16 (by omega) r1, ?_⟩)
    rw [r2]
    by_cases z : nI (N (O p)) = x
    · exact br_t z (h1 p (by omega) z.symm)
    · refine br_f z (nm_r (nI_1 p) (xx_findL ⟨b16, o1, o2, o3, o4⟩ h1 h0 d (p + 1) (by omega) (fun q hq' => ?_)))
      rcases Nat.lt_or_ge q p with y | y
      · exact hq q y
      · have : q = p := by omega
        subst this
        exact fun w => z w.symm
theorem xx_find {post : Int32 → Prop} {x : Int32} (ho : tb_ord nl O N a_programOrder a_lineNumber yn) (h1 : ∀ p, p < nl → x = nI (N (O p)) → post (nI p)) (h0 : (∀ p, p < nl → x ≠ nI (N (O p))) → post (-1)) : wpX_findLine post (f_gosubDepth, f_forDepth, f_outCap, f_sourceLength, f_compiled, f_errorLine, f_tokenCount, f_tokenAt, f_heldCount, nI nl, f_codeLength, f_dividedByZero, f_status, f_stopLine, f_steps, f_position, f_outputCount, f_gosubCount, f_frameCount, a_source, a_tokens, a_held, a_programOrder, a_lineNumber, a_lineKeyword, a_lineVariable, a_lineRelation, a_code, a_codeStart, a_codeEnd, a_operands, a_variables, a_output, a_returnTo, a_frameVariable, a_frameLimit, a_frameBody) x :=
  ⟨nl + 1, xx_findL ho h1 h0 nl 0 (by omega) (fun q hq => by omega)⟩
theorem xx_accL {post : St2 → Prop} {m : Nat} {po0 : Nat → Int32} (ho : tb_ord nl O N po0 a_lineNumber yn) (hnl : nl < 16) (hm : a_lineNumber nl = nI m) (hm2 : m ≤ 32767) (hne : ∀ l, l < nl → N l ≠ m)
    (K : ∀ q po', q ≤ nl → (∀ p, p < q → N (O p) < m) → (∀ p, q ≤ p → p < nl → m < N (O p)) → (∀ j, j < q → po' j = po0 j) → po' q = nI nl → (∀ j, q ≤ j → j < nl → po' (j + 1) = po0 j) → post (f_gosubDepth, f_forDepth, f_outCap, f_sourceLength, f_compiled, f_errorLine, f_tokenCount, f_tokenAt, f_heldCount, nI (nl + 1), f_codeLength, f_dividedByZero, f_status, f_stopLine, f_steps, f_position, f_outputCount, f_gosubCount, f_frameCount, a_source, a_tokens, a_held, po', a_lineNumber, a_lineKeyword, a_lineVariable, a_lineRelation, a_code, a_codeStart, a_codeEnd, a_operands, a_variables, a_output, a_returnTo, a_frameVariable, a_frameLimit, a_frameBody)) :
    ∀ (q : Nat) (a_programOrder : Nat → Int32), q ≤ nl → (∀ j, j < q → a_programOrder j = po0 j) → (∀ j, q ≤ j → j < nl → a_programOrder (j + 1) = po0 j) → (∀ j, q ≤ j → j < nl → m < N (O j)) → wX_acceptLine_2 post (nI nl) f_gosubDepth f_forDepth f_outCap f_sourceLength f_compiled f_errorLine f_tokenCount f_tokenAt f_heldCount f_lineTotal f_codeLength f_dividedByZero f_status f_stopLine f_steps f_position f_outputCount f_gosubCount f_frameCount (q + 1) (nI q) a_source a_tokens a_held a_programOrder a_lineNumber a_lineKeyword a_lineVariable a_lineRelation a_code a_codeStart a_codeEnd a_operands a_variables a_output a_returnTo a_frameVariable a_frameLimit a_frameBody
  | 0, a_programOrder, hq, h1, h2, h3 => br_t (by decide) ⟨vp_in_nI (by omega) (by omega), nm_r (e' := upd a_programOrder 0 (nI nl)) (by rw [nI_clamp (by omega)]) (nm_r (nI_1 nl) (K 0 _ hq (fun p hp => by omega) h3 (fun j hj => by omega) pk_us (fun j j1 j2 => (pk_un (by omega)).trans (h2 j j1 j2))))⟩
  | q + 1, a_programOrder, hq, h1, h2, h3 => by
    obtain ⟨b16, o1, o2, o3, o4⟩ := ho
    have a := o1 q (by omega)
    have b := o2 (O q) a.2
    have r0 : a_programOrder (nI (q + 1) - 1).toNatClampNeg = nI (O q) := by rw [nI_pred, nI_clamp (by omega), h1 q (by omega)]; exact a.1
    have r2 : a_lineNumber (a_programOrder (nI (q + 1) - 1).toNatClampNeg).toNatClampNeg = nI (N (O q)) := by rw [r0, nI_clamp (by omega)]; exact b.1
    have r3 : a_lineNumber (nI nl).toNatClampNeg = nI m := by rw [nI_clamp (by omega)]; exact hm
    refine br_f (nI_nle (by omega) (by omega)) ⟨pk_in q 16 (by omega) (nI_pred q), pk_in (O q) 16 (by omega) r0, vp_in_nI (by omega) (by omega), ?_⟩
    rw [r2, r3]
    refine pk_le (N (O q)) m (fun z => ⟨vp_in_nI (by omega) (by omega), nm_r (e' := upd a_programOrder (q + 1) (nI nl)) (by rw [nI_clamp (by omega)]) (nm_r (nI_1 nl) (K (q + 1) _ hq (fun p hp => ?_) h3 (fun j hj => (pk_un (by omega)).trans (h1 j hj)) pk_us (fun j j1 j2 => (pk_un (by omega)).trans (h2 j j1 j2))))⟩)
      (fun z => ⟨pk_in q 16 (by omega) (nI_pred q), vp_in_nI (by omega) (by omega), nm_r (e' := upd a_programOrder (q + 1) (nI (O q))) ?_ (nm_r (pk_m1 q) (xx_accL ⟨b16, o1, o2, o3, o4⟩ hnl hm hm2 hne K q _ (by omega) (fun j hj => (pk_un (by omega)).trans (h1 j (by omega))) (fun j j1 j2 => ?_) (fun j j1 j2 => ?_)))⟩)
    · have ne := hne (O q) a.2
      rcases Nat.lt_or_ge p q with y | y
      · have := o3 p q y (by omega); omega
      · have : p = q := by omega
        subst this
        omega
    · rw [r0, nI_clamp (by omega)]
    · rcases Nat.lt_or_ge q j with y | y
      · exact (pk_un (by omega)).trans (h2 j (by omega) j2)
      · have : j = q := by omega
        subst this
        rw [pk_us]; exact a.1.symm
    · rcases Nat.lt_or_ge q j with y | y
      · exact h3 j (by omega) j2
      · have : j = q := by omega
        subst this
        exact z
end
section
variable {f_gosubDepth f_forDepth f_outCap f_sourceLength f_compiled f_errorLine f_tokenCount f_tokenAt f_heldCount f_dividedByZero f_status f_stopLine f_steps f_position f_outputCount f_gosubCount f_frameCount : Int32} {a_tokens a_held a_programOrder a_lineNumber a_lineKeyword a_lineVariable a_lineRelation a_code a_codeStart a_codeEnd a_operands a_variables a_output a_returnTo a_frameVariable a_frameLimit a_frameBody : Nat → Int32} {C : Nat → Nat} {s e nl cl : Nat} {O N : Nat → Nat} {yn : Nat → Int32}
theorem xx_line {post : Int32 → St2 → Prop} (hC : ∀ j, C j < 127) (hse : s ≤ e) (he : e ≤ 256) (hcl : cl ≤ s) (ho : tb_ord nl O N a_programOrder a_lineNumber yn)
    (h4 : s + 40 < e → post 4 (f_gosubDepth, f_forDepth, f_outCap, f_sourceLength, f_compiled, f_errorLine, f_tokenCount, f_tokenAt, f_heldCount, nI nl, nI cl, f_dividedByZero, f_status, f_stopLine, f_steps, f_position, f_outputCount, f_gosubCount, f_frameCount, tb_S C, a_tokens, a_held, a_programOrder, a_lineNumber, a_lineKeyword, a_lineVariable, a_lineRelation, a_code, a_codeStart, a_codeEnd, a_operands, a_variables, a_output, a_returnTo, a_frameVariable, a_frameLimit, a_frameBody))
    (h0 : e ≤ s + 40 → tb_blank C s e → post 0 (f_gosubDepth, f_forDepth, f_outCap, f_sourceLength, f_compiled, f_errorLine, f_tokenCount, f_tokenAt, f_heldCount, nI nl, nI cl, f_dividedByZero, f_status, f_stopLine, f_steps, f_position, f_outputCount, f_gosubCount, f_frameCount, tb_S C, a_tokens, a_held, a_programOrder, a_lineNumber, a_lineKeyword, a_lineVariable, a_lineRelation, a_code, a_codeStart, a_codeEnd, a_operands, a_variables, a_output, a_returnTo, a_frameVariable, a_frameLimit, a_frameBody))
    (h3 : e ≤ s + 40 → ¬ tb_blank C s e → 16 ≤ nl → post 3 (f_gosubDepth, f_forDepth, f_outCap, f_sourceLength, f_compiled, f_errorLine, f_tokenCount, f_tokenAt, f_heldCount, nI nl, nI cl, f_dividedByZero, f_status, f_stopLine, f_steps, f_position, f_outputCount, f_gosubCount, f_frameCount, tb_S C, a_tokens, a_held, a_programOrder, a_lineNumber, a_lineKeyword, a_lineVariable, a_lineRelation, a_code, a_codeStart, a_codeEnd, a_operands, a_variables, a_output, a_returnTo, a_frameVariable, a_frameLimit, a_frameBody))
    (h1 : e ≤ s + 40 → ¬ tb_blank C s e → nl < 16 → (∀ L, tb_tz C e 40 s = some L → ¬ tb_so L) → ∀ tc ta hc cl' tk hd ln lk lv lr cd cs ce, post 1 (f_gosubDepth, f_forDepth, f_outCap, f_sourceLength, f_compiled, f_errorLine, tc, ta, hc, nI nl, cl', f_dividedByZero, f_status, f_stopLine, f_steps, f_position, f_outputCount, f_gosubCount, f_frameCount, tb_S C, tk, hd, a_programOrder, ln, lk, lv, lr, cd, cs, ce, a_operands, a_variables, a_output, a_returnTo, a_frameVariable, a_frameLimit, a_frameBody))
    (h2 : e ≤ s + 40 → ¬ tb_blank C s e → nl < 16 → ∀ L, tb_tz C e 40 s = some L → tb_so L → ∀ l, l < nl → N l = tb_T L 0 → ∀ tc ta hc cl' tk hd ln lk lv lr cd cs ce, post 2 (f_gosubDepth, f_forDepth, f_outCap, f_sourceLength, f_compiled, f_errorLine, tc, ta, hc, nI nl, cl', f_dividedByZero, f_status, f_stopLine, f_steps, f_position, f_outputCount, f_gosubCount, f_frameCount, tb_S C, tk, hd, a_programOrder, ln, lk, lv, lr, cd, cs, ce, a_operands, a_variables, a_output, a_returnTo, a_frameVariable, a_frameLimit, a_frameBody))
    (hA : e ≤ s + 40 → ¬ tb_blank C s e → nl < 16 → ∀ L, tb_tz C e 40 s = some L → tb_so L → (∀ l, l < nl → N l ≠ tb_T L 0) → ∀ tc ta hc (cl' : Nat) tk hd ln lk lv lr cd cs ce po (q : Nat),
      cl' ≤ e → cl ≤ cl' → q ≤ nl → (∀ p, p < q → N (O p) < tb_T L 0) → (∀ p, q ≤ p → p < nl → tb_T L 0 < N (O p)) → (∀ yn', (∀ l, l < nl → yn' l = yn l) → yn' nl = nI (tb_T L 0) → tb_ord (nl + 1) (fun p => if p < q then O p else if p = q then nl else O (p - 1)) (fun l => if l < nl then N l else tb_T L 0) po ln yn') →
      (∀ l L', l < nl → tb_lo L' l a_lineNumber a_lineKeyword a_lineVariable a_lineRelation a_code a_codeStart a_codeEnd cl → tb_lo L' l ln lk lv lr cd cs ce cl') →
      tb_lo L nl ln lk lv lr cd cs ce cl' → (∀ l, l < nl → ln l = a_lineNumber l) →
      post 0 (f_gosubDepth, f_forDepth, f_outCap, f_sourceLength, f_compiled, f_errorLine, tc, ta, hc, nI (nl + 1), nI cl', f_dividedByZero, f_status, f_stopLine, f_steps, f_position, f_outputCount, f_gosubCount, f_frameCount, tb_S C, tk, hd, po, ln, lk, lv, lr, cd, cs, ce, a_operands, a_variables, a_output, a_returnTo, a_frameVariable, a_frameLimit, a_frameBody)) :
    wpX_compileLine post (f_gosubDepth, f_forDepth, f_outCap, f_sourceLength, f_compiled, f_errorLine, f_tokenCount, f_tokenAt, f_heldCount, nI nl, nI cl, f_dividedByZero, f_status, f_stopLine, f_steps, f_position, f_outputCount, f_gosubCount, f_frameCount, tb_S C, a_tokens, a_held, a_programOrder, a_lineNumber, a_lineKeyword, a_lineVariable, a_lineRelation, a_code, a_codeStart, a_codeEnd, a_operands, a_variables, a_output, a_returnTo, a_frameVariable, a_frameLimit, a_frameBody) (nI s) (nI e) := by
  have b16 := ho.1
  refine pk_le (e - s) 40 (fun z40 => ⟨e - s + 1, xx_blankL hC he (fun b => br_f tb_10 (h0 (by omega) b)) (fun b => br_t rfl (pk_lt nl 16 (fun hnl => ?_) (fun z => h3 (by omega) b z))) (e - s) s (by omega) (Nat.le_refl _) (fun j j1 j2 => by omega)⟩) (fun z => h4 (by omega)) (pk_sub hse) rfl (by omega) (by omega)
  have H1 := h1 (by omega) b hnl
  refine xx_read hC he hse (fun q tc tk => br_t rfl (H1 (fun L y => by rw [q] at y; cases y) _ _ _ _ _ _ _ _ _ _ _ _ _)) (fun L q tk htk => br_f tb_10 ?_)
  have ⟨hlen, hlen2, hok⟩ := tb_tz_ok C e 40 s L q
  have hle := hlen2 hse
  have S1 : ¬ tb_so L → ∀ tc ta hc cl' tk hd ln lk lv lr cd cs ce, post 1 (f_gosubDepth, f_forDepth, f_outCap, f_sourceLength, f_compiled, f_errorLine, tc, ta, hc, nI nl, cl', f_dividedByZero, f_status, f_stopLine, f_steps, f_position, f_outputCount, f_gosubCount, f_frameCount, tb_S C, tk, hd, a_programOrder, ln, lk, lv, lr, cd, cs, ce, a_operands, a_variables, a_output, a_returnTo, a_frameVariable, a_frameLimit, a_frameBody) := fun z => H1 (fun L' y => by rw [q] at y; cases y; exact z)
  refine xx_takeNum (p := 0) hlen (by omega) hok htk hnl (fun h00 hp => br_f tb_10 ?_) (fun h00 ta ln => br_t rfl (S1 (fun y => h00 ⟨y.2.1, y.2.2.1⟩) _ _ _ _ _ _ _ _ _ _ _ _ _))
  have FIN : ∀ (hc : Int32) (cl' : Nat) (hd lk lv lr cd cs ce : Nat → Int32), tb_so L → tb_lo L nl (upd a_lineNumber nl (nI (tb_T L 0))) lk lv lr cd cs ce cl' → cl ≤ cl' → cl' ≤ cl + L.length → (∀ j, j < cl → cd j = a_code j) → (∀ j, j < nl * 3 → cs j = a_codeStart j) → (∀ j, j < nl * 3 → ce j = a_codeEnd j) →
      (∀ j, j < nl → lk j = a_lineKeyword j) → (∀ j, j < nl → lv j = a_lineVariable j) → (∀ j, j < nl → lr j = a_lineRelation j) →
      wpX_findLine (fun r => (r = (-1) → wpX_acceptLine (fun u => post 0 u) (f_gosubDepth, f_forDepth, f_outCap, f_sourceLength, f_compiled, f_errorLine, nI L.length, nI L.length, hc, nI nl, nI cl', f_dividedByZero, f_status, f_stopLine, f_steps, f_position, f_outputCount, f_gosubCount, f_frameCount, tb_S C, tk, hd, a_programOrder, upd a_lineNumber nl (nI (tb_T L 0)), lk, lv, lr, cd, cs, ce, a_operands, a_variables, a_output, a_returnTo, a_frameVariable, a_frameLimit, a_frameBody) (nI nl)) ∧ (¬ r = (-1) → post 2 (f_gosubDepth, f_forDepth, f_outCap, f_sourceLength, f_compiled, f_errorLine, nI L.length, nI L.length, hc, nI nl, nI cl', f_dividedByZero, f_status, f_stopLine, f_steps, f_position, f_outputCount, f_gosubCount, f_frameCount, tb_S C, tk, hd, a_programOrder, upd a_lineNumber nl (nI (tb_T L 0)), lk, lv, lr, cd, cs, ce, a_operands, a_variables, a_output, a_returnTo, a_frameVariable, a_frameLimit, a_frameBody))) (f_gosubDepth, f_forDepth, f_outCap, f_sourceLength, f_compiled, f_errorLine, nI L.length, nI L.length, hc, nI nl, nI cl', f_dividedByZero, f_status, f_stopLine, f_steps, f_position, f_outputCount, f_gosubCount, f_frameCount, tb_S C, tk, hd, a_programOrder, upd a_lineNumber nl (nI (tb_T L 0)), lk, lv, lr, cd, cs, ce, a_operands, a_variables, a_output, a_returnTo, a_frameVariable, a_frameLimit, a_frameBody) (nI (tb_T L 0)) := fun hc cl' hd lk lv lr cd cs ce so lo c1 c2 f1 f2 f3 f4 f5 f6 => by
    have ho' : tb_ord nl O N a_programOrder (upd a_lineNumber nl (nI (tb_T L 0))) yn := tb_ord_ln ho (fun l hl => pk_un (by omega)) (fun _ _ => rfl)
    refine xx_find ho' (fun p hp hx => br_f (tb_nm1 (by omega)) ?_) (fun hx => br_t rfl ?_)
    · have nn := (ho.2.2.1 (O p) (ho.2.1 p hp).2).2.2
      have e1 : tb_T L 0 = N (O p) := (nI_eq (by omega) (by omega)).mp hx
      exact h2 (by omega) b hnl L q so (O p) (ho.2.1 p hp).2 e1.symm _ _ _ _ _ _ _ _ _ _ _ _ _
    · have hne : ∀ l, l < nl → N l ≠ tb_T L 0 := fun l hl y => by
        obtain ⟨p, hp, e1⟩ := ho.2.2.2.2 l hl
        exact hx p hp (by rw [e1, y])
      refine ⟨nl + 1, xx_accL ho' hnl pk_us h00.2 hne (fun p po p0 p1 p2 p3 p4 p5 => ?_) nl a_programOrder (Nat.le_refl _) (fun _ _ => rfl) (fun j j1 j2 => by omega) (fun j j1 j2 => by omega)⟩
      refine hA (by omega) b hnl L q so hne _ _ _ cl' _ _ _ _ _ _ _ _ _ _ p (by omega) c1 p0 p1 p2 (fun yn' a1 a2 => tb_ord_ins ho hnl p0 h00 p1 p2 p3 p4 p5 (fun l hl => pk_un (by omega)) pk_us a1 a2) (fun l L' hl lo' => ?_) lo (fun l hl => pk_un (by omega))
      exact tb_lo_lo lo' (pk_un (by omega)) (f4 l hl) (f5 l hl) (f6 l hl) f1 (fun i hi => f2 _ (by omega)) (fun i hi => f3 _ (by omega)) c1
  have rdn : upd a_lineNumber nl (nI (tb_T L 0)) (nI nl).toNatClampNeg = nI (tb_T L 0) := by rw [nI_clamp (by omega)]; exact pk_us
  refine xx_stmt hlen hok htk hnl (by omega) (by omega) pk_us h00 (fun so _ _ _ _ _ _ _ _ _ _ => br_t rfl (S1 so _ _ _ _ _ _ _ _ _ _ _ _ _)) (fun so ta _ _ _ _ _ _ _ _ _ w => br_f tb_10 (pk_le L.length ta (fun z => absurd z (by omega)) (fun z => S1 so _ _ _ _ _ _ _ _ _ _ _ _ _))) (fun so hc cl' hd lk lv lr cd cs ce lo c1 c2 f1 f2 f3 f4 f5 f6 => br_f tb_10 (pk_le L.length L.length (fun _ => ⟨vp_in_nI hnl (by omega), ?_⟩) (fun z => absurd z (by omega))))
  have w := FIN hc cl' hd lk lv lr cd cs ce so lo c1 c2 f1 f2 f3 f4 f5 f6
  rw [rdn]
  exact w
end
