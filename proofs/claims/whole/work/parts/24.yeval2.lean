theorem tb_eta (p : List Int32 × Bool) : (p.1, p.2) = p := rfl
theorem tb_ev_len (V : Nat → Int32) : ∀ (c : List Nat) (s : List Int32 × Bool), (tb_ev V c s).1.length ≤ s.1.length + c.length
  | [], s => Nat.le_refl _
  | t :: c, s => by
    have a := tb_ev_len V c (tb_e1 V s t)
    have b := tb_e1_len V s t
    show (tb_ev V c (tb_e1 V s t)).1.length ≤ s.1.length + (c.length + 1)
    omega
section
variable {g_len g_nLines g_compiled g_errLine g_gosubDepth g_forDepth g_outCap g_nt g_status g_stopLine g_steps g_pos g_outN g_gsp g_fsp : Int32} {b_src b_lnStart b_lnEnd b_lnNum b_tk b_tv b_vars b_out b_gStack b_fVar b_fLim b_fBody : Nat → Int32} {post : Int32 → SY → Prop} {L : List Nat}
theorem yy_evL {E : Nat} {cf : List Nat} (hL : L.length ≤ 40) (hok : ∀ t, t ∈ L → tb_ok t) (htk : tb_sg b_tk 0 (L.map (fun t => nI (tb_kf t)))) (htv : tb_sg b_tv 0 (L.map (fun t => nI (tb_vf t)))) {v : Int32} (hv : (tb_ev b_vars cf ([], false)).1 = [v])
    (K : ∀ vn on vs os, post v (g_len, g_nLines, g_compiled, g_errLine, g_gosubDepth, g_forDepth, g_outCap, nI L.length, vn, on, tb_bi (tb_ev b_vars cf ([], false)).2, g_status, g_stopLine, g_steps, g_pos, g_outN, g_gsp, g_fsp, b_src, b_lnStart, b_lnEnd, b_lnNum, b_tk, b_tv, vs, os, b_vars, b_out, b_gStack, b_fVar, b_fLim, b_fBody)) :
    ∀ (d i : Nat) (b : Bool) (h c : List Nat) (b_vs b_os : Nat → Int32), tb_xp (tb_T L) L.length d i b h c = some (E, cf) → tb_hk h → tb_sk b_os (h.map (fun t => nI (tb_kf t))) → tb_sk b_vs (tb_ev b_vars c ([], false)).1 → h.length + c.length ≤ i → i ≤ L.length →
    wY_eval_20 post (nI E) d (if b = true then 1 else 0) (nI i) g_len g_nLines g_compiled g_errLine g_gosubDepth g_forDepth g_outCap (nI L.length) (nI (tb_ev b_vars c ([], false)).1.length) (nI h.length) (tb_bi (tb_ev b_vars c ([], false)).2) g_status g_stopLine g_steps g_pos g_outN g_gsp g_fsp b_src b_lnStart b_lnEnd b_lnNum b_tk b_tv b_vs b_os b_vars b_out b_gStack b_fVar b_fLim b_fBody
  | 0, i, b, h, c, b_vs, b_os, z, hk, ho, hs, hl, hi => by unfold tb_xp at z; cases z
  | d + 1, i, true, h, c, b_vs, b_os, z, hk, ho, hs, hl, hi => by
    have lc := tb_ev_len b_vars c ([], false)
    simp only [List.length_nil] at lc
    have le := tb_xp_le _ _ _ _ _ _ _ _ _ z
    have le2 := le.2.1 hi
    show wY_eval_20 post (nI E) (d + 1) 1 (nI i) g_len g_nLines g_compiled g_errLine g_gosubDepth g_forDepth g_outCap (nI L.length) (nI (tb_ev b_vars c ([], false)).1.length) (nI h.length) (tb_bi (tb_ev b_vars c ([], false)).2) g_status g_stopLine g_steps g_pos g_outN g_gsp g_fsp b_src b_lnStart b_lnEnd b_lnNum b_tk b_tv b_vs b_os b_vars b_out b_gStack b_fVar b_fLim b_fBody
    by_cases a : L.length ≤ i
    · rw [tb_xp_te a] at z; cases z
    have ok := hok _ (tb_T_mem (L := L) (j := i) (by omega))
    have kc := tb_kf_c ok
    have rk : b_tk (nI i).toNatClampNeg = nI (tb_kf (tb_T L i)) := by
      rw [nI_clamp (by omega)]
      have := tb_sg_T (fun t => nI (tb_kf t)) htk i (by omega)
      rw [Nat.zero_add] at this
      exact this
    have rv : b_tv (nI i).toNatClampNeg = nI (tb_vf (tb_T L i)) := by
      rw [nI_clamp (by omega)]
      have := tb_sg_T (fun t => nI (tb_vf t)) htv i (by omega)
      rw [Nat.zero_add] at this
      exact this
    have v41 : vp_in (nI i) 41 := vp_in_nI (by omega) (by omega)
    have lt : i + 1 ≤ E := by
      by_cases o : tb_T L i ≤ 32767 ∨ (40000 ≤ tb_T L i ∧ tb_T L i < 40026)
      · rw [tb_xp_to a o] at z; exact (tb_xp_le _ _ _ _ _ _ _ _ _ z).1
      · by_cases m : tb_T L i = 40202
        · rw [tb_xp_tm a m] at z; exact (tb_xp_le _ _ _ _ _ _ _ _ _ z).1
        · by_cases p : tb_T L i = 40206
          · rw [tb_xp_tp a p] at z; exact (tb_xp_le _ _ _ _ _ _ _ _ _ z).1
          · rw [tb_xp_tn a o m p] at z; cases z
    refine pk_le E i (fun y => absurd y (by omega)) (fun _ => pk_le L.length i (fun y => absurd y a) (fun _ => br_f (nI_pos (by omega)) ⟨v41, nm_r rk (br_f tb_10 ?_)⟩))
    have ev : ∀ (o : tb_T L i ≤ 32767 ∨ (40000 ≤ tb_T L i ∧ tb_T L i < 40026)), tb_ev b_vars (c ++ [tb_T L i]) ([], false) = ((if tb_T L i ≤ 32767 then nI (tb_T L i) else b_vars (tb_T L i - 40000)) :: (tb_ev b_vars c ([], false)).1, (tb_ev b_vars c ([], false)).2) := fun o => by
      rw [tb_ev_app]
      exact tb_e1_opd o
    have OPD : ∀ (o : tb_T L i ≤ 32767 ∨ (40000 ≤ tb_T L i ∧ tb_T L i < 40026)), wY_eval_109 post (wY_eval_20 post (nI E) d) (nI E) (nI i) (if tb_T L i ≤ 32767 then nI (tb_T L i) else b_vars (tb_T L i - 40000)) (nI (tb_ev b_vars c ([], false)).1.length) g_len g_nLines g_compiled g_errLine g_gosubDepth g_forDepth g_outCap (nI L.length) (nI (tb_ev b_vars c ([], false)).1.length) (nI h.length) (tb_bi (tb_ev b_vars c ([], false)).2) g_status g_stopLine g_steps g_pos g_outN g_gsp g_fsp b_src b_lnStart b_lnEnd b_lnNum b_tk b_tv b_vs b_os b_vars b_out b_gStack b_fVar b_fLim b_fBody := fun o => by
      rw [tb_xp_to a o] at z
      refine ⟨vp_in_nI (by omega) (by omega), nm_r (e' := upd b_vs (tb_ev b_vars c ([], false)).1.length (if tb_T L i ≤ 32767 then nI (tb_T L i) else b_vars (tb_T L i - 40000))) (by rw [nI_clamp (by omega)]) (nm_r (nI_1 _) (nm_r (nI_1 i) ?_))⟩
      have w := yy_evL hL hok htk htv hv K d (i + 1) false h (c ++ [tb_T L i]) (upd b_vs (tb_ev b_vars c ([], false)).1.length (if tb_T L i ≤ 32767 then nI (tb_T L i) else b_vars (tb_T L i - 40000))) b_os z hk ho (by rw [ev o]; exact tb_sk_push hs) (by rw [List.length_append]; simp only [List.length_cons, List.length_nil]; omega) (by omega)
      rw [ev o] at w
      exact w
    refine pk_eq (tb_kf (tb_T L i)) 1 (fun y => ?_) (fun n1 => pk_eq (tb_kf (tb_T L i)) 2 (fun y => ?_) (fun n2 => ?_))
    · have o : tb_T L i ≤ 32767 := by omega
      have w := OPD (Or.inl o)
      rw [if_pos o] at w
      refine pk_le 41 (tb_ev b_vars c ([], false)).1.length (fun q => absurd q (by omega)) (fun _ => ?_)
      rw [y]
      refine br_t rfl ⟨v41, ?_⟩
      rw [rv, tb_vf_num o]
      exact w
    · have o : 40000 ≤ tb_T L i ∧ tb_T L i < 40026 := by omega
      have w := OPD (Or.inr o)
      rw [if_neg (by omega)] at w
      refine pk_le 41 (tb_ev b_vars c ([], false)).1.length (fun q => absurd q (by omega)) (fun _ => ?_)
      rw [y]
      refine br_f (by decide) ⟨v41, ?_⟩
      rw [rv, tb_vf_var (by omega)]
      refine br_f (nI_pos (by omega)) (pk_lt (tb_T L i - 40000) 26 (fun _ => ⟨vp_in_nI (by omega) (by omega), ?_⟩) (fun q => absurd q (by omega)))
      rw [nI_clamp (by omega)]
      exact w
    · have no : ¬ (tb_T L i ≤ 32767 ∨ (40000 ≤ tb_T L i ∧ tb_T L i < 40026)) := by omega
      refine pk_le 41 h.length (fun q => absurd q (by omega)) (fun _ => pk_eq (tb_kf (tb_T L i)) 45 (fun y => ?_) (fun n45 => ?_))
      · have m : tb_T L i = 40202 := by omega
        rw [tb_xp_tm a m] at z
        exact ⟨vp_in_nI (by omega) (by omega), nm_r (e' := upd b_os h.length (nI (tb_kf 40205))) (by rw [nI_clamp (by omega)]; rfl) (nm_r (nI_1 _) (nm_r (nI_1 i) (yy_evL hL hok htk htv hv K d (i + 1) true (40205 :: h) c b_vs _ z (tb_hk_c (by omega) hk) (tb_sk_kp 40205 ho) hs (by simp only [List.length_cons]; omega) (by omega))))⟩
      · by_cases p : tb_T L i = 40206
        · rw [tb_xp_tp a p] at z
          exact ⟨vp_in_nI (by omega) (by omega), nm_r (e' := upd b_os h.length (nI (tb_kf 40206))) (by rw [nI_clamp (by omega)]; rfl) (nm_r (nI_1 _) (nm_r (nI_1 i) (yy_evL hL hok htk htv hv K d (i + 1) true (40206 :: h) c b_vs _ z (tb_hk_c (by omega) hk) (tb_sk_kp 40206 ho) hs (by simp only [List.length_cons]; omega) (by omega))))⟩
        · rw [tb_xp_tn a no (by omega) p] at z; cases z
  | d + 1, i, false, h, c, b_vs, b_os, z, hk, ho, hs, hl, hi => by
    have lc := tb_ev_len b_vars c ([], false)
    simp only [List.length_nil] at lc
    have le := tb_xp_le _ _ _ _ _ _ _ _ _ z
    have le2 := le.2.1 hi
    show wY_eval_20 post (nI E) (d + 1) 0 (nI i) g_len g_nLines g_compiled g_errLine g_gosubDepth g_forDepth g_outCap (nI L.length) (nI (tb_ev b_vars c ([], false)).1.length) (nI h.length) (tb_bi (tb_ev b_vars c ([], false)).2) g_status g_stopLine g_steps g_pos g_outN g_gsp g_fsp b_src b_lnStart b_lnEnd b_lnNum b_tk b_tv b_vs b_os b_vars b_out b_gStack b_fVar b_fLim b_fBody
    have FIN : (L.length ≤ i ∨ (¬ 0 < tb_rk (tb_T L i) ∧ tb_T L i ≠ 40207)) → wY_eval_20 post (nI E) (d + 1) 0 (nI i) g_len g_nLines g_compiled g_errLine g_gosubDepth g_forDepth g_outCap (nI L.length) (nI (tb_ev b_vars c ([], false)).1.length) (nI h.length) (tb_bi (tb_ev b_vars c ([], false)).2) g_status g_stopLine g_steps g_pos g_outN g_gsp g_fsp b_src b_lnStart b_lnEnd b_lnNum b_tk b_tv b_vs b_os b_vars b_out b_gStack b_fVar b_fLim b_fBody := fun y => by
      rw [tb_xp_fe y] at z
      by_cases r : tb_rr 1 h = []
      · rw [if_pos r] at z
        have e1 := congrArg Prod.fst (Option.some.inj z)
        have e2 := congrArg Prod.snd (Option.some.inj z)
        dsimp only at e1 e2
        subst e1
        have e3 : tb_ev b_vars (tb_rp 1 h) (tb_ev b_vars c ([], false)) = tb_ev b_vars cf ([], false) := by rw [← tb_ev_app, e2]
        refine pk_le i i (fun _ => ⟨h.length + 1, ?_⟩) (fun q => absurd q (by omega))
        refine yy_352L b_vars h (tb_ev b_vars c ([], false)).1 (tb_ev b_vars c ([], false)).2 b_vs 0 hk r ho hs (by omega) (by omega) (fun vs hw => ?_)
        rw [tb_eta, e3] at hw ⊢
        rw [hv] at hw ⊢
        refine br_f (show ¬ nI 1 ≤ 0 from by decide) ⟨pk_in 0 41 (by omega) (nI_pred 0), ?_⟩
        have w0 : vs (nI 1 - 1).toNatClampNeg = v := hw.1
        show post (vs (nI 1 - 1).toNatClampNeg) _
        rw [w0]
        exact K _ _ _ _
      · rw [if_neg r] at z; cases z
    by_cases a : L.length ≤ i
    · exact FIN (Or.inl a)
    by_cases y : ¬ 0 < tb_rk (tb_T L i) ∧ tb_T L i ≠ 40207
    · exact FIN (Or.inr y)
    have ok := hok _ (tb_T_mem (L := L) (j := i) (by omega))
    have kc := tb_kf_c ok
    have rk : b_tk (nI i).toNatClampNeg = nI (tb_kf (tb_T L i)) := by
      rw [nI_clamp (by omega)]
      have := tb_sg_T (fun t => nI (tb_kf t)) htk i (by omega)
      rw [Nat.zero_add] at this
      exact this
    have v41 : vp_in (nI i) 41 := vp_in_nI (by omega) (by omega)
    have lt : i + 1 ≤ E := by
      by_cases o : 0 < tb_rk (tb_T L i)
      · rw [tb_xp_fo a o] at z; exact (tb_xp_le _ _ _ _ _ _ _ _ _ z).1
      · have p : tb_T L i = 40207 := by omega
        rw [tb_xp_fc a p] at z
        by_cases r : tb_rr 1 h = []
        · rw [if_pos r] at z; cases z
        · rw [if_neg r] at z; exact (tb_xp_le _ _ _ _ _ _ _ _ _ z).1
    refine pk_le E i (fun y => absurd y (by omega)) (fun _ => pk_le L.length i (fun y => absurd y a) (fun _ => br_f (nI_pos (by omega)) ⟨v41, nm_r rk (br_t rfl ?_)⟩))
    refine pk_eq (tb_kf (tb_T L i)) 41 (fun q => ?_) (fun q => ?_)
    · have p : tb_T L i = 40207 := by omega
      rw [tb_xp_fc a p] at z
      have q1 := tb_rpr 1 h
      refine ⟨h.length + 1, yy_180L b_vars h (tb_ev b_vars c ([], false)).1 (tb_ev b_vars c ([], false)).2 b_vs 0 hk ho hs (by omega) (by omega) (fun vs hw => ?_)⟩
      rw [tb_eta, ← tb_ev_app] at hw ⊢
      by_cases r : tb_rr 1 h = []
      · rw [if_pos r] at z; cases z
      · rw [if_neg r] at z
        have len : 0 < (tb_rr 1 h).length := List.length_pos_iff.mpr r
        have tl : (tb_rr 1 h).tail.length = (tb_rr 1 h).length - 1 := List.length_tail
        have w := yy_evL hL hok htk htv hv K d (i + 1) false (tb_rr 1 h).tail (c ++ tb_rp 1 h) vs b_os z (tb_hk_tl (tb_hk_rr 1 h hk)) (tb_sk_kt (tb_sk_kr 1 ho)) hw (by rw [List.length_append]; omega) (by omega)
        rw [tl] at w
        exact br_f (nI_nle len (by omega)) (nm_r (e' := nI ((tb_rr 1 h).length - 1)) (pk_sub (b := 1) (by omega)) (nm_r (nI_1 i) w))
    · have o : 0 < tb_rk (tb_T L i) := by
        rcases Nat.lt_or_ge 0 (tb_rk (tb_T L i)) with w | w
        · exact w
        · exact absurd ⟨by omega, by omega⟩ y
      have op := tb_rk_pos.mp o
      have r3 := tb_rk_le (tb_T L i)
      rw [tb_xp_fo a o] at z
      have q1 := tb_rpr (tb_rk (tb_T L i)) h
      refine yy_prec (tb_T L i) (by omega) rfl ⟨h.length + 1, yy_251L b_vars ⟨o, r3⟩ h (tb_ev b_vars c ([], false)).1 (tb_ev b_vars c ([], false)).2 b_vs 0 hk ho hs (by omega) (by omega) (fun vs hw => ?_)⟩
      rw [tb_eta, ← tb_ev_app] at hw ⊢
      have w := yy_evL hL hok htk htv hv K d (i + 1) true (tb_T L i :: tb_rr (tb_rk (tb_T L i)) h) (c ++ tb_rp (tb_rk (tb_T L i)) h) vs (upd b_os (tb_rr (tb_rk (tb_T L i)) h).length (nI (tb_kf (tb_T L i)))) z (tb_hk_c (by omega) (tb_hk_rr _ h hk)) (tb_sk_kp _ (tb_sk_kr _ ho)) hw (by rw [List.length_append]; simp only [List.length_cons]; omega) (by omega)
      exact pk_le 41 (tb_rr (tb_rk (tb_T L i)) h).length (fun y => absurd y (by omega)) (fun _ => ⟨vp_in_nI (by omega) (by omega), nm_r (e' := upd b_os (tb_rr (tb_rk (tb_T L i)) h).length (nI (tb_kf (tb_T L i)))) (by rw [nI_clamp (by omega)]) (nm_r (nI_1 _) (nm_r (nI_1 i) w))⟩)
/-- the reference's value of the expression from p to E -/
theorem yy_eval {p E : Nat} {c : List Nat} {x y : Int32} (hx : x = nI p) (hy : y = nI E) (hL : L.length ≤ 40) (hok : ∀ t, t ∈ L → tb_ok t) (htk : tb_sg b_tk 0 (L.map (fun t => nI (tb_kf t)))) (htv : tb_sg b_tv 0 (L.map (fun t => nI (tb_vf t)))) (hp : p ≤ L.length) (q : tb_xe L p = some (E, c)) {v : Int32} (hv : (tb_ev b_vars c ([], false)).1 = [v]) {g_on g_vn g_divErr : Int32} {b_vs b_os : Nat → Int32}
    (K : ∀ vn on vs os, post v (g_len, g_nLines, g_compiled, g_errLine, g_gosubDepth, g_forDepth, g_outCap, nI L.length, vn, on, tb_bi (tb_ev b_vars c ([], false)).2, g_status, g_stopLine, g_steps, g_pos, g_outN, g_gsp, g_fsp, b_src, b_lnStart, b_lnEnd, b_lnNum, b_tk, b_tv, vs, os, b_vars, b_out, b_gStack, b_fVar, b_fLim, b_fBody)) : wpY_eval post (g_len, g_nLines, g_compiled, g_errLine, g_gosubDepth, g_forDepth, g_outCap, nI L.length, g_vn, g_on, g_divErr, g_status, g_stopLine, g_steps, g_pos, g_outN, g_gsp, g_fsp, b_src, b_lnStart, b_lnEnd, b_lnNum, b_tk, b_tv, b_vs, b_os, b_vars, b_out, b_gStack, b_fVar, b_fLim, b_fBody) x y := by
  subst hx hy
  exact ⟨42, yy_evL hL hok htk htv hv K 42 p true [] [] b_vs b_os q tb_hk_0 trivial trivial (by simp only [List.length_nil]; omega) hp⟩
end
