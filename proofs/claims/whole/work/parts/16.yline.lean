/-! ===== a line of the reference ===== -/
section
variable {g_len g_nLines g_compiled g_errLine g_gosubDepth g_forDepth g_outCap g_nt g_vn g_on g_divErr g_status g_stopLine g_steps g_pos g_outN g_gsp g_fsp : Int32} {b_src b_lnStart b_lnEnd b_lnNum b_tk b_tv b_vs b_os b_vars b_out b_gStack b_fVar b_fLim b_fBody : Nat → Int32} {s e nl m : Nat} {N : Nat → Nat} {post : Int32 → SY → Prop}
theorem yy_dupL (hN : ∀ l, l < nl → b_lnNum l = nI (N l) ∧ N l ≤ 32767) (hnl : nl < 16) (hm : m ≤ 32767) (hv : b_tv 0 = nI m)
    (h2 : ∀ l, l < nl → N l = m → post 2 (g_len, nI nl, g_compiled, g_errLine, g_gosubDepth, g_forDepth, g_outCap, g_nt, g_vn, g_on, g_divErr, g_status, g_stopLine, g_steps, g_pos, g_outN, g_gsp, g_fsp, b_src, b_lnStart, b_lnEnd, b_lnNum, b_tk, b_tv, b_vs, b_os, b_vars, b_out, b_gStack, b_fVar, b_fLim, b_fBody))
    (hA : (∀ l, l < nl → N l ≠ m) → post 0 (g_len, nI (nl + 1), g_compiled, g_errLine, g_gosubDepth, g_forDepth, g_outCap, g_nt, g_vn, g_on, g_divErr, g_status, g_stopLine, g_steps, g_pos, g_outN, g_gsp, g_fsp, b_src, upd b_lnStart nl (nI s), upd b_lnEnd nl (nI e), upd b_lnNum nl (nI m), b_tk, b_tv, b_vs, b_os, b_vars, b_out, b_gStack, b_fVar, b_fLim, b_fBody)) : ∀ d k, k + d = nl → (∀ l, l < k → N l ≠ m) → wY_checkLine_71 post (nI s) (nI e) g_len (nI nl) g_compiled g_errLine g_gosubDepth g_forDepth g_outCap g_nt g_vn g_on g_divErr g_status g_stopLine g_steps g_pos g_outN g_gsp g_fsp b_src b_lnStart b_lnEnd b_lnNum b_tk b_tv b_vs b_os b_vars b_out b_gStack b_fVar b_fLim b_fBody (d + 1) (nI k)
  | 0, k, hk, hne => pk_le nl k (fun _ => ⟨vp_in_nI hnl (by omega), nm_r (by rw [nI_clamp (by omega)]) ⟨vp_in_nI hnl (by omega), nm_r (by rw [nI_clamp (by omega)]) ⟨vp_in_nI hnl (by omega), nm_r (e' := upd b_lnNum nl (nI m)) (by rw [nI_clamp (by omega), hv]) (nm_r (nI_1 nl) (hA (fun l hl => hne l (by omega))))⟩⟩⟩) (fun z => absurd z (by omega))
  | d + 1, k, hk, hne => by
    have a := hN k (by omega)
    have rd : b_lnNum (nI k).toNatClampNeg = nI (N k) := by rw [nI_clamp (by omega)]; exact a.1
    refine pk_le nl k (fun z => absurd z (by omega)) (fun _ => ⟨vp_in_nI (by omega) (by omega), pk_eq (N k) m (fun z => h2 k (by omega) z) (fun z => nm_r (nI_1 k) (yy_dupL hN hnl hm hv h2 hA d (k + 1) (by omega) (fun l hl => ?_))) rd hv⟩)
    rcases Nat.lt_or_ge l k with y | y
    · exact hne l y
    · have : l = k := by omega
      subst this
      exact z
end
section
variable {g_compiled g_errLine g_gosubDepth g_forDepth g_outCap g_nt g_vn g_on g_divErr g_status g_stopLine g_steps g_pos g_outN g_gsp g_fsp : Int32} {b_lnStart b_lnEnd b_lnNum b_tk b_tv b_vs b_os b_vars b_out b_gStack b_fVar b_fLim b_fBody : Nat → Int32} {C : Nat → Nat} {n s e nl : Nat} {N : Nat → Nat} {post : Int32 → SY → Prop}
theorem yy_lineL (hC : ∀ j, C j < 127) (hse : s ≤ e) (he : e ≤ n) (hn : n ≤ 256) (hnl : nl ≤ 16) (hN : ∀ l, l < nl → b_lnNum l = nI (N l) ∧ N l ≤ 32767) (h40 : e ≤ s + 40)
    (h0 : tb_blank C s e → post 0 (nI n, nI nl, g_compiled, g_errLine, g_gosubDepth, g_forDepth, g_outCap, g_nt, g_vn, g_on, g_divErr, g_status, g_stopLine, g_steps, g_pos, g_outN, g_gsp, g_fsp, tb_S C, b_lnStart, b_lnEnd, b_lnNum, b_tk, b_tv, b_vs, b_os, b_vars, b_out, b_gStack, b_fVar, b_fLim, b_fBody))
    (h3 : ¬ tb_blank C s e → 16 ≤ nl → post 3 (nI n, nI nl, g_compiled, g_errLine, g_gosubDepth, g_forDepth, g_outCap, g_nt, g_vn, g_on, g_divErr, g_status, g_stopLine, g_steps, g_pos, g_outN, g_gsp, g_fsp, tb_S C, b_lnStart, b_lnEnd, b_lnNum, b_tk, b_tv, b_vs, b_os, b_vars, b_out, b_gStack, b_fVar, b_fLim, b_fBody))
    (h1 : ¬ tb_blank C s e → nl < 16 → (∀ L, tb_tz C e 40 s = some L → ¬ tb_so L) → ∀ nt tk tv, post 1 (nI n, nI nl, g_compiled, g_errLine, g_gosubDepth, g_forDepth, g_outCap, nt, g_vn, g_on, g_divErr, g_status, g_stopLine, g_steps, g_pos, g_outN, g_gsp, g_fsp, tb_S C, b_lnStart, b_lnEnd, b_lnNum, tk, tv, b_vs, b_os, b_vars, b_out, b_gStack, b_fVar, b_fLim, b_fBody))
    (h2 : ¬ tb_blank C s e → nl < 16 → ∀ L, tb_tz C e 40 s = some L → tb_so L → ∀ l, l < nl → N l = tb_T L 0 → ∀ nt tk tv, post 2 (nI n, nI nl, g_compiled, g_errLine, g_gosubDepth, g_forDepth, g_outCap, nt, g_vn, g_on, g_divErr, g_status, g_stopLine, g_steps, g_pos, g_outN, g_gsp, g_fsp, tb_S C, b_lnStart, b_lnEnd, b_lnNum, tk, tv, b_vs, b_os, b_vars, b_out, b_gStack, b_fVar, b_fLim, b_fBody))
    (hA : ¬ tb_blank C s e → nl < 16 → ∀ L, tb_tz C e 40 s = some L → tb_so L → (∀ l, l < nl → N l ≠ tb_T L 0) → ∀ nt tk tv, post 0 (nI n, nI (nl + 1), g_compiled, g_errLine, g_gosubDepth, g_forDepth, g_outCap, nt, g_vn, g_on, g_divErr, g_status, g_stopLine, g_steps, g_pos, g_outN, g_gsp, g_fsp, tb_S C, upd b_lnStart nl (nI s), upd b_lnEnd nl (nI e), upd b_lnNum nl (nI (tb_T L 0)), tk, tv, b_vs, b_os, b_vars, b_out, b_gStack, b_fVar, b_fLim, b_fBody)) :
    ∀ d i b, i + d = e → s ≤ i → (b = 1 ∧ (∀ j, s ≤ j → j < i → C j = 32)) ∨ (b = 0 ∧ ¬ tb_blank C s e) → wY_checkLine_15 post (nI s) (nI e) (nI n) (nI nl) g_compiled g_errLine g_gosubDepth g_forDepth g_outCap g_nt g_vn g_on g_divErr g_status g_stopLine g_steps g_pos g_outN g_gsp g_fsp (tb_S C) b_lnStart b_lnEnd b_lnNum b_tk b_tv b_vs b_os b_vars b_out b_gStack b_fVar b_fLim b_fBody (d + 1) (nI b) (nI i)
  | 0, i, b, hi, hs, hb => by
    refine pk_le e i (fun _ => ?_) (fun z => absurd z (by omega))
    rcases hb with ⟨b1, b2⟩ | ⟨b1, b2⟩
    · subst b1
      exact br_f tb_10 (h0 (fun j j1 j2 => b2 j j1 (by omega)))
    · subst b1
      refine br_t rfl (pk_lt nl 16 (fun z => ?_) (fun z => h3 b2 z))
      refine yy_syn hC he hn h40 hse (fun q nt tk tv => br_t rfl (h1 b2 z q nt tk tv)) (fun L q so tk tv g1 g2 => br_f tb_10 ?_)
      have V0 : tv 0 = nI (tb_vf (tb_T L 0)) := tb_sg_T (fun t => nI (tb_vf t)) g2 0 (by have := so.1; omega)
      rw [tb_vf_num so.2.2.1] at V0
      exact ⟨nl + 1, yy_dupL hN z so.2.2.1 V0 (fun l l1 l2 => h2 b2 z L q so l l1 l2 _ _ _) (fun ne => hA b2 z L q so ne _ _ _) nl 0 (by omega) (fun l hl => by omega)⟩
  | d + 1, i, b, hi, hs, hb => by
    have bi := hC i
    refine pk_le e i (fun z => absurd z (by omega)) (fun _ => yy_ch i rfl (by omega) hn (pk_eq (C i) 32 (fun z => nm_r (nI_1 i) ?_) (fun z => nm_r (nI_1 i) ?_)))
    · refine yy_lineL hC hse he hn hnl hN h40 h0 h3 h1 h2 hA d (i + 1) b (by omega) (by omega) ?_
      rcases hb with ⟨b1, b2⟩ | ⟨b1, b2⟩
      · refine Or.inl ⟨b1, fun j j1 j2 => ?_⟩
        rcases Nat.lt_or_ge j i with y | y
        · exact b2 j j1 y
        · have : j = i := by omega
          subst this
          exact z
      · exact Or.inr ⟨b1, b2⟩
    · exact yy_lineL hC hse he hn hnl hN h40 h0 h3 h1 h2 hA d (i + 1) 0 (by omega) (by omega) (Or.inr ⟨rfl, fun y => z (y i hs (by omega))⟩)
theorem yy_line4 (hse : s ≤ e) (he : e ≤ n) (hn : n ≤ 256) (c : s + 40 < e) (hp : post 4 (nI n, nI nl, g_compiled, g_errLine, g_gosubDepth, g_forDepth, g_outCap, g_nt, g_vn, g_on, g_divErr, g_status, g_stopLine, g_steps, g_pos, g_outN, g_gsp, g_fsp, tb_S C, b_lnStart, b_lnEnd, b_lnNum, b_tk, b_tv, b_vs, b_os, b_vars, b_out, b_gStack, b_fVar, b_fLim, b_fBody)) : wpY_checkLine post (nI n, nI nl, g_compiled, g_errLine, g_gosubDepth, g_forDepth, g_outCap, g_nt, g_vn, g_on, g_divErr, g_status, g_stopLine, g_steps, g_pos, g_outN, g_gsp, g_fsp, tb_S C, b_lnStart, b_lnEnd, b_lnNum, b_tk, b_tv, b_vs, b_os, b_vars, b_out, b_gStack, b_fVar, b_fLim, b_fBody) (nI s) (nI e) :=
  pk_le (e - s) 40 (fun z => absurd z (by omega)) (fun _ => hp) (pk_sub hse) rfl (by omega) (by omega)
theorem yy_line (hC : ∀ j, C j < 127) (hse : s ≤ e) (he : e ≤ n) (hn : n ≤ 256) (hnl : nl ≤ 16) (hN : ∀ l, l < nl → b_lnNum l = nI (N l) ∧ N l ≤ 32767) (h40 : e ≤ s + 40)
    (h0 : tb_blank C s e → post 0 (nI n, nI nl, g_compiled, g_errLine, g_gosubDepth, g_forDepth, g_outCap, g_nt, g_vn, g_on, g_divErr, g_status, g_stopLine, g_steps, g_pos, g_outN, g_gsp, g_fsp, tb_S C, b_lnStart, b_lnEnd, b_lnNum, b_tk, b_tv, b_vs, b_os, b_vars, b_out, b_gStack, b_fVar, b_fLim, b_fBody))
    (h3 : ¬ tb_blank C s e → 16 ≤ nl → post 3 (nI n, nI nl, g_compiled, g_errLine, g_gosubDepth, g_forDepth, g_outCap, g_nt, g_vn, g_on, g_divErr, g_status, g_stopLine, g_steps, g_pos, g_outN, g_gsp, g_fsp, tb_S C, b_lnStart, b_lnEnd, b_lnNum, b_tk, b_tv, b_vs, b_os, b_vars, b_out, b_gStack, b_fVar, b_fLim, b_fBody))
    (h1 : ¬ tb_blank C s e → nl < 16 → (∀ L, tb_tz C e 40 s = some L → ¬ tb_so L) → ∀ nt tk tv, post 1 (nI n, nI nl, g_compiled, g_errLine, g_gosubDepth, g_forDepth, g_outCap, nt, g_vn, g_on, g_divErr, g_status, g_stopLine, g_steps, g_pos, g_outN, g_gsp, g_fsp, tb_S C, b_lnStart, b_lnEnd, b_lnNum, tk, tv, b_vs, b_os, b_vars, b_out, b_gStack, b_fVar, b_fLim, b_fBody))
    (h2 : ¬ tb_blank C s e → nl < 16 → ∀ L, tb_tz C e 40 s = some L → tb_so L → ∀ l, l < nl → N l = tb_T L 0 → ∀ nt tk tv, post 2 (nI n, nI nl, g_compiled, g_errLine, g_gosubDepth, g_forDepth, g_outCap, nt, g_vn, g_on, g_divErr, g_status, g_stopLine, g_steps, g_pos, g_outN, g_gsp, g_fsp, tb_S C, b_lnStart, b_lnEnd, b_lnNum, tk, tv, b_vs, b_os, b_vars, b_out, b_gStack, b_fVar, b_fLim, b_fBody))
    (hA : ¬ tb_blank C s e → nl < 16 → ∀ L, tb_tz C e 40 s = some L → tb_so L → (∀ l, l < nl → N l ≠ tb_T L 0) → ∀ nt tk tv, post 0 (nI n, nI (nl + 1), g_compiled, g_errLine, g_gosubDepth, g_forDepth, g_outCap, nt, g_vn, g_on, g_divErr, g_status, g_stopLine, g_steps, g_pos, g_outN, g_gsp, g_fsp, tb_S C, upd b_lnStart nl (nI s), upd b_lnEnd nl (nI e), upd b_lnNum nl (nI (tb_T L 0)), tk, tv, b_vs, b_os, b_vars, b_out, b_gStack, b_fVar, b_fLim, b_fBody)) :
    wpY_checkLine post (nI n, nI nl, g_compiled, g_errLine, g_gosubDepth, g_forDepth, g_outCap, g_nt, g_vn, g_on, g_divErr, g_status, g_stopLine, g_steps, g_pos, g_outN, g_gsp, g_fsp, tb_S C, b_lnStart, b_lnEnd, b_lnNum, b_tk, b_tv, b_vs, b_os, b_vars, b_out, b_gStack, b_fVar, b_fLim, b_fBody) (nI s) (nI e) :=
  pk_le (e - s) 40 (fun _ => ⟨e - s + 1, yy_lineL hC hse he hn hnl hN h40 h0 h3 h1 h2 hA (e - s) s 1 (by omega) (Nat.le_refl _) (Or.inl ⟨rfl, fun j j1 j2 => by omega⟩)⟩) (fun z => absurd z (by omega)) (pk_sub hse) rfl (by omega) (by omega)
end
