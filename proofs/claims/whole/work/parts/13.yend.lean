/-! ===== the reference's expressions: where they end ===== -/
theorem tb_kf_c {t : Nat} (h : tb_ok t) : (t ≤ 32767 ∧ tb_kf t = 1) ∨ (40000 ≤ t ∧ t < 40026 ∧ tb_kf t = 2) ∨ (40101 ≤ t ∧ t ≤ 40111 ∧ tb_kf t = t - 40091) ∨ (t = 40201 ∧ tb_kf t = 43) ∨ (t = 40202 ∧ tb_kf t = 45) ∨ (t = 40203 ∧ tb_kf t = 42) ∨ (t = 40204 ∧ tb_kf t = 47) ∨ (t = 40206 ∧ tb_kf t = 40) ∨ (t = 40207 ∧ tb_kf t = 41) ∨ (t = 40208 ∧ tb_kf t = 61) ∨ (t = 40209 ∧ tb_kf t = 72) ∨ (t = 40210 ∧ tb_kf t = 60) ∨ (t = 40211 ∧ tb_kf t = 62) ∨ (t = 40212 ∧ tb_kf t = 70) ∨ (t = 40213 ∧ tb_kf t = 71) := by
  rcases h with h | h | h | h
  · exact Or.inl ⟨h, tb_kf_num h⟩
  · exact Or.inr (Or.inl ⟨h.1, h.2, tb_kf_var (by omega)⟩)
  · refine Or.inr (Or.inr (Or.inl ⟨h.1, h.2, ?_⟩))
    unfold tb_kf
    rw [if_neg (by omega), if_neg (by omega), if_pos (by omega)]
  · have : t = 40201 ∨ t = 40202 ∨ t = 40203 ∨ t = 40204 ∨ t = 40206 ∨ t = 40207 ∨ t = 40208 ∨ t = 40209 ∨ t = 40210 ∨ t = 40211 ∨ t = 40212 ∨ t = 40213 := by omega
    refine Or.inr (Or.inr (Or.inr ?_))
    rcases this with e | e | e | e | e | e | e | e | e | e | e | e <;> subst e <;> decide
/-- the reference's kind at place i, 0 behind the end -/
def tb_kt (L : List Nat) (i : Nat) : Nat := if i < L.length then tb_kf (tb_T L i) else 0
theorem tb_kt_in {L : List Nat} {i : Nat} (h : i < L.length) : tb_kt L i = tb_kf (tb_T L i) := if_pos h
theorem tb_kt_out {L : List Nat} {i : Nat} (h : L.length ≤ i) : tb_kt L i = 0 := if_neg (by omega)
theorem tb_kt_lt {L : List Nat} (hok : ∀ t, t ∈ L → tb_ok t) (i : Nat) : tb_kt L i < 127 := by
  unfold tb_kt
  exact tb_ite (fun z => tb_kf_lt _ (tb_ok_lt hok i)) (fun _ => by omega)
section
variable {g_len g_nLines g_compiled g_errLine g_gosubDepth g_forDepth g_outCap g_nt g_vn g_on g_divErr g_status g_stopLine g_steps g_pos g_outN g_gsp g_fsp : Int32} {b_src b_lnStart b_lnEnd b_lnNum b_tk b_tv b_vs b_os b_vars b_out b_gStack b_fVar b_fLim b_fBody : Nat → Int32} {L : List Nat} {post : Int32 → Prop}
theorem yy_tok {i : Nat} {x : Int32} (hx : x = nI i) (hL : L.length ≤ 40) (hi : i < 1000) (htk : tb_sg b_tk 0 (L.map (fun t => nI (tb_kf t)))) (hp : post (nI (tb_kt L i))) : wpY_tok post (g_len, g_nLines, g_compiled, g_errLine, g_gosubDepth, g_forDepth, g_outCap, nI L.length, g_vn, g_on, g_divErr, g_status, g_stopLine, g_steps, g_pos, g_outN, g_gsp, g_fsp, b_src, b_lnStart, b_lnEnd, b_lnNum, b_tk, b_tv, b_vs, b_os, b_vars, b_out, b_gStack, b_fVar, b_fLim, b_fBody) x := by
  subst hx
  refine br_f (nI_pos (by omega)) (pk_le L.length i (fun z => ?_) (fun z => pk_lt i 41 (fun _ => ⟨vp_in_nI (by omega) (by omega), ?_⟩) (fun z => absurd z (by omega))))
  · rw [tb_kt_out z] at hp
    exact hp
  · rw [tb_kt_in z] at hp
    have := tb_sg_T (fun t => nI (tb_kf t)) htk i z
    rw [Nat.zero_add] at this
    rw [nI_clamp (by omega), this]
    exact hp
theorem yy_endL (hL : L.length ≤ 40) (hok : ∀ t, t ∈ L → tb_ok t) (htk : tb_sg b_tk 0 (L.map (fun t => nI (tb_kf t)))) : ∀ (d i g : Nat) (b : Bool) (h c : List Nat), tb_hk h → h.length ≤ i → L.length < i + d → i ≤ L.length → g + d ≤ 42 →
    (∀ e c', tb_xp (tb_T L) L.length d i b h c = some (e, c') → post (nI e)) →
    (tb_xp (tb_T L) L.length d i b h c = none → ∀ r, (r = -1 ∨ ∃ j, j < L.length ∧ r = nI j ∧ tb_T L j = 40207) → post r) →
    wY_exprEnd_10 post g_len g_nLines g_compiled g_errLine g_gosubDepth g_forDepth g_outCap (nI L.length) g_vn g_on g_divErr g_status g_stopLine g_steps g_pos g_outN g_gsp g_fsp b_src b_lnStart b_lnEnd b_lnNum b_tk b_tv b_vs b_os b_vars b_out b_gStack b_fVar b_fLim b_fBody d (nI (tb_no h)) (if b = true then 1 else 0) (nI i) (nI g)
  | 0, i, g, b, h, c, hk, hh, hd, hi, hg, hS, hN => absurd hd (by omega)
  | d + 1, i, g, true, h, c, hk, hh, hd, hi, hg, hS, hN => by
    have kl := tb_kt_lt hok i
    show wY_exprEnd_10 post g_len g_nLines g_compiled g_errLine g_gosubDepth g_forDepth g_outCap (nI L.length) g_vn g_on g_divErr g_status g_stopLine g_steps g_pos g_outN g_gsp g_fsp b_src b_lnStart b_lnEnd b_lnNum b_tk b_tv b_vs b_os b_vars b_out b_gStack b_fVar b_fLim b_fBody (d + 1) (nI (tb_no h)) 1 (nI i) (nI g)
    refine pk_le 42 g (fun z => absurd z (by omega)) (fun _ => yy_tok rfl hL (by omega) htk (br_f tb_10 ?_))
    have B : i < L.length ∨ tb_kt L i = 0 := by
      rcases Nat.lt_or_ge i L.length with z | z
      · exact Or.inl z
      · exact Or.inr (tb_kt_out z)
    have K : i < L.length → tb_kt L i = tb_kf (tb_T L i) ∧ tb_ok (tb_T L i) := fun z => ⟨tb_kt_in z, hok _ (tb_T_mem z)⟩
    have OPD : i < L.length → (tb_T L i ≤ 32767 ∨ (40000 ≤ tb_T L i ∧ tb_T L i < 40026)) → wY_exprEnd_10 post g_len g_nLines g_compiled g_errLine g_gosubDepth g_forDepth g_outCap (nI L.length) g_vn g_on g_divErr g_status g_stopLine g_steps g_pos g_outN g_gsp g_fsp b_src b_lnStart b_lnEnd b_lnNum b_tk b_tv b_vs b_os b_vars b_out b_gStack b_fVar b_fLim b_fBody d (nI (tb_no h)) 0 (nI (i + 1)) (nI (g + 1)) := fun z y =>
      yy_endL hL hok htk d (i + 1) (g + 1) false h (c ++ [tb_T L i]) hk (by omega) (by omega) (by omega) (by omega) (fun e c' q => hS e c' ((tb_xp_to (by omega) y).trans q)) (fun q => hN ((tb_xp_to (by omega) y).trans q))
    refine pk_eq (tb_kt L i) 1 (fun z => ?_) (fun n1 => pk_eq (tb_kt L i) 2 (fun z => ?_) (fun n2 => pk_eq (tb_kt L i) 40 (fun z => ?_) (fun n40 => pk_eq (tb_kt L i) 45 (fun z => ?_) (fun n45 => hN ?_ _ (Or.inl rfl)))))
    · have a := B.resolve_right (by omega)
      have k := K a
      have kc := tb_kf_c k.2
      exact nm_r (nI_1 i) (nm_r (nI_1 g) (OPD a (by omega)))
    · have a := B.resolve_right (by omega)
      have k := K a
      have kc := tb_kf_c k.2
      exact nm_r (nI_1 i) (nm_r (nI_1 g) (OPD a (by omega)))
    · have a := B.resolve_right (by omega)
      have k := K a
      have kc := tb_kf_c k.2
      have y : tb_T L i = 40206 := by omega
      have nn : tb_no (40206 :: h) = tb_no h + 1 := by
        show (if 40206 = 40206 then 1 else 0) + tb_no h = _
        rw [if_pos rfl]; omega
      have w := yy_endL hL hok htk d (i + 1) (g + 1) true (40206 :: h) c (tb_hk_c (by omega) hk) (by simp only [List.length_cons]; omega) (by omega) (by omega) (by omega) (fun e c' q => hS e c' ((tb_xp_tp (by omega) y).trans q)) (fun q => hN ((tb_xp_tp (by omega) y).trans q))
      rw [nn] at w
      exact nm_r (nI_1 _) (nm_r (nI_1 i) (nm_r (nI_1 g) w))
    · have a := B.resolve_right (by omega)
      have k := K a
      have kc := tb_kf_c k.2
      have y : tb_T L i = 40202 := by omega
      have nn : tb_no (40205 :: h) = tb_no h := by
        show (if 40205 = 40206 then 1 else 0) + tb_no h = _
        rw [if_neg (by omega)]; omega
      have w := yy_endL hL hok htk d (i + 1) (g + 1) true (40205 :: h) c (tb_hk_c (by omega) hk) (by simp only [List.length_cons]; omega) (by omega) (by omega) (by omega) (fun e c' q => hS e c' ((tb_xp_tm (by omega) y).trans q)) (fun q => hN ((tb_xp_tm (by omega) y).trans q))
      rw [nn] at w
      exact nm_r (nI_1 i) (nm_r (nI_1 g) w)
    · rcases Nat.lt_or_ge i L.length with a | a
      · have k := K a
        have kc := tb_kf_c k.2
        exact tb_xp_tn (by omega) (by omega) (by omega) (by omega)
      · exact tb_xp_te a
  | d + 1, i, g, false, h, c, hk, hh, hd, hi, hg, hS, hN => by
    have kl := tb_kt_lt hok i
    show wY_exprEnd_10 post g_len g_nLines g_compiled g_errLine g_gosubDepth g_forDepth g_outCap (nI L.length) g_vn g_on g_divErr g_status g_stopLine g_steps g_pos g_outN g_gsp g_fsp b_src b_lnStart b_lnEnd b_lnNum b_tk b_tv b_vs b_os b_vars b_out b_gStack b_fVar b_fLim b_fBody (d + 1) (nI (tb_no h)) 0 (nI i) (nI g)
    refine pk_le 42 g (fun z => absurd z (by omega)) (fun _ => yy_tok rfl hL (by omega) htk (br_t rfl ?_))
    have B : i < L.length ∨ tb_kt L i = 0 := by
      rcases Nat.lt_or_ge i L.length with z | z
      · exact Or.inl z
      · exact Or.inr (tb_kt_out z)
    have K : i < L.length → tb_kt L i = tb_kf (tb_T L i) ∧ tb_ok (tb_T L i) := fun z => ⟨tb_kt_in z, hok _ (tb_T_mem z)⟩
    have r1 := tb_rr1 h hk
    have nb : tb_no h ≤ i := by
      have : ∀ q : List Nat, tb_no q ≤ q.length := fun q => by
        induction q with
        | nil => exact Nat.le_refl _
        | cons t q ih =>
          show (if t = 40206 then 1 else 0) + tb_no q ≤ q.length + 1
          split <;> omega
      exact Nat.le_trans (this h) hh
    have OPR : i < L.length → 0 < tb_rk (tb_T L i) → wY_exprEnd_10 post g_len g_nLines g_compiled g_errLine g_gosubDepth g_forDepth g_outCap (nI L.length) g_vn g_on g_divErr g_status g_stopLine g_steps g_pos g_outN g_gsp g_fsp b_src b_lnStart b_lnEnd b_lnNum b_tk b_tv b_vs b_os b_vars b_out b_gStack b_fVar b_fLim b_fBody d (nI (tb_no h)) 1 (nI (i + 1)) (nI (g + 1)) := fun z y => by
      have yp := tb_rk_pos.mp y
      have ok := (K z).2
      unfold tb_ok at ok
      have q1 := tb_rpr (tb_rk (tb_T L i)) h
      have nn : tb_no (tb_T L i :: tb_rr (tb_rk (tb_T L i)) h) = tb_no h := by
        show (if tb_T L i = 40206 then 1 else 0) + tb_no (tb_rr (tb_rk (tb_T L i)) h) = _
        rw [if_neg (by omega), tb_no_rr y]; omega
      have w := yy_endL hL hok htk d (i + 1) (g + 1) true (tb_T L i :: tb_rr (tb_rk (tb_T L i)) h) (c ++ tb_rp (tb_rk (tb_T L i)) h) (tb_hk_c (by omega) (tb_hk_rr _ h hk)) (by simp only [List.length_cons]; omega) (by omega) (by omega) (by omega) (fun e c' q => hS e c' ((tb_xp_fo (by omega) y).trans q)) (fun q => hN ((tb_xp_fo (by omega) y).trans q))
      rw [nn] at w
      exact w
    have OP : ∀ k, tb_kt L i = k → (k = 43 ∨ k = 45 ∨ k = 42 ∨ k = 47) → wY_exprEnd_10 post g_len g_nLines g_compiled g_errLine g_gosubDepth g_forDepth g_outCap (nI L.length) g_vn g_on g_divErr g_status g_stopLine g_steps g_pos g_outN g_gsp g_fsp b_src b_lnStart b_lnEnd b_lnNum b_tk b_tv b_vs b_os b_vars b_out b_gStack b_fVar b_fLim b_fBody d (nI (tb_no h)) 1 (nI (i + 1)) (nI (g + 1)) := fun k hk1 hk2 => by
      have a := B.resolve_right (by omega)
      have k := K a
      have kc := tb_kf_c k.2
      exact OPR a (tb_rk_pos.mpr (by omega))
    have FIN : (L.length ≤ i ∨ (¬ 0 < tb_rk (tb_T L i) ∧ tb_T L i ≠ 40207)) → wY_exprEnd_118 post (nI (tb_no h)) (nI i) g_len g_nLines g_compiled g_errLine g_gosubDepth g_forDepth g_outCap (nI L.length) g_vn g_on g_divErr g_status g_stopLine g_steps g_pos g_outN g_gsp g_fsp b_src b_lnStart b_lnEnd b_lnNum b_tk b_tv b_vs b_os b_vars b_out b_gStack b_fVar b_fLim b_fBody := fun z => by
      rcases r1 with ⟨ra, rb⟩ | ⟨h', ra, rb⟩
      · rw [rb]
        exact br_t rfl (hS i (c ++ tb_rp 1 h) (by rw [tb_xp_fe z]; exact if_pos ra))
      · exact br_f (nI_ne0 (by omega) (by omega)) (hN (by rw [tb_xp_fe z]; exact if_neg (by rw [ra]; exact List.cons_ne_nil _ _)) _ (Or.inl rfl))
    refine pk_eq (tb_kt L i) 43 (fun z => nm_r (nI_1 i) (nm_r (nI_1 g) (OP _ z (by omega)))) (fun n1 => pk_eq (tb_kt L i) 45 (fun z => nm_r (nI_1 i) (nm_r (nI_1 g) (OP _ z (by omega)))) (fun n2 => pk_eq (tb_kt L i) 42 (fun z => nm_r (nI_1 i) (nm_r (nI_1 g) (OP _ z (by omega)))) (fun n3 => pk_eq (tb_kt L i) 47 (fun z => nm_r (nI_1 i) (nm_r (nI_1 g) (OP _ z (by omega)))) (fun n4 => pk_eq (tb_kt L i) 41 (fun z => ?_) (fun n5 => FIN ?_)))))
    · have a := B.resolve_right (by omega)
      have k := K a
      have kc := tb_kf_c k.2
      have y : tb_T L i = 40207 := by omega
      rcases r1 with ⟨ra, rb⟩ | ⟨h', ra, rb⟩
      · rw [rb]
        exact br_t (by decide) (br_t rfl (hN (by rw [tb_xp_fc (by omega) y]; exact if_pos ra) _ (Or.inr ⟨i, a, rfl, y⟩)))
      · have q1 := tb_rpr 1 h
        have ne : ¬ tb_rr 1 h = [] := by rw [ra]; exact List.cons_ne_nil _ _
        have tl : (tb_rr 1 h).tail = h' := by rw [ra]; rfl
        have lt : (tb_rr 1 h).tail.length = (tb_rr 1 h).length - 1 := List.length_tail
        have w := yy_endL hL hok htk d (i + 1) (g + 1) false (tb_rr 1 h).tail (c ++ tb_rp 1 h) (tb_hk_tl (tb_hk_rr 1 h hk)) (by omega) (by omega) (by omega) (by omega) (fun e c' q => hS e c' (by rw [tb_xp_fc (by omega) y, if_neg ne]; exact q)) (fun q => hN (by rw [tb_xp_fc (by omega) y, if_neg ne]; exact q))
        rw [tl] at w
        rw [rb]
        exact br_f (nI_nle (by omega) (by omega)) (nm_r (pk_m1 (tb_no h')) (nm_r (nI_1 i) (nm_r (nI_1 g) w)))
    · rcases Nat.lt_or_ge i L.length with a | a
      · have k := K a
        have kc := tb_kf_c k.2
        refine Or.inr ⟨fun rk => ?_, by omega⟩
        have := tb_rk_pos.mp rk
        omega
      · exact Or.inl a
theorem yy_end {p : Nat} {x : Int32} (hx : x = nI p) (hL : L.length ≤ 40) (hok : ∀ t, t ∈ L → tb_ok t) (htk : tb_sg b_tk 0 (L.map (fun t => nI (tb_kf t)))) (hp : p ≤ L.length)
    (hS : ∀ e c, tb_xe L p = some (e, c) → p ≤ e → e ≤ L.length → post (nI e)) (hN : tb_xe L p = none → ∀ r, (r = -1 ∨ ∃ j, j < L.length ∧ r = nI j ∧ tb_T L j = 40207) → post r) :
    wpY_exprEnd post (g_len, g_nLines, g_compiled, g_errLine, g_gosubDepth, g_forDepth, g_outCap, nI L.length, g_vn, g_on, g_divErr, g_status, g_stopLine, g_steps, g_pos, g_outN, g_gsp, g_fsp, b_src, b_lnStart, b_lnEnd, b_lnNum, b_tk, b_tv, b_vs, b_os, b_vars, b_out, b_gStack, b_fVar, b_fLim, b_fBody) x := by
  subst hx
  refine ⟨42, yy_endL hL hok htk 42 p 0 true [] [] tb_hk_0 (Nat.zero_le _) (by omega) hp (by omega) (fun e c q => ?_) hN⟩
  have ⟨a, b, _⟩ := tb_xp_le _ _ _ _ _ _ _ _ _ q
  exact hS e c q a (b hp)
end
