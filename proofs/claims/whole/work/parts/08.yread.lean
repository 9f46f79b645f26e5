theorem tb_kf_num {t : Nat} (h : t ≤ 32767) : tb_kf t = 1 := if_pos h
theorem tb_vf_num {t : Nat} (h : t ≤ 32767) : tb_vf t = t := if_pos h
theorem tb_kf_var {t : Nat} (h : 32767 < t ∧ t < 40026) : tb_kf t = 2 := by
  unfold tb_kf
  rw [if_neg (by omega), if_pos (by omega)]
theorem tb_vf_var {t : Nat} (h : 32767 < t ∧ t < 40026) : tb_vf t = t - 40000 := by
  unfold tb_vf
  rw [if_neg (by omega), if_pos (by omega)]
theorem tb_vf_oth {t : Nat} (h : 40026 ≤ t) : tb_vf t = 0 := by
  unfold tb_vf
  rw [if_neg (by omega), if_neg (by omega)]
theorem tb_ite {c : Prop} [Decidable c] {a b m : Nat} (ha : c → a < m) (hb : ¬ c → b < m) : (if c then a else b) < m := by
  by_cases z : c
  · rw [if_pos z]; exact ha z
  · rw [if_neg z]; exact hb z
theorem tb_kf_lt (t : Nat) (h : t < 40214) : tb_kf t < 127 := by
  unfold tb_kf
  exact (tb_ite (fun _ => by omega) (fun _ => (tb_ite (fun _ => by omega) (fun _ => (tb_ite (fun _ => by omega) (fun _ => (tb_ite (fun _ => by omega) (fun _ => (tb_ite (fun _ => by omega) (fun _ => (tb_ite (fun _ => by omega) (fun _ => (tb_ite (fun _ => by omega) (fun _ => (tb_ite (fun _ => by omega) (fun _ => (tb_ite (fun _ => by omega) (fun _ => (tb_ite (fun _ => by omega) (fun _ => (tb_ite (fun _ => by omega) (fun _ => (tb_ite (fun _ => by omega) (fun _ => (tb_ite (fun _ => by omega) (fun _ => (tb_ite (fun _ => by omega) (fun _ => (tb_ite (fun _ => by omega) (fun _ => by omega))))))))))))))))))))))))))))))
section
variable {g_nLines g_compiled g_errLine g_gosubDepth g_forDepth g_outCap g_nt g_vn g_on g_divErr g_status g_stopLine g_steps g_pos g_outN g_gsp g_fsp : Int32} {b_lnStart b_lnEnd b_lnNum b_tk b_tv b_vs b_os b_vars b_out b_gStack b_fVar b_fLim b_fBody : Nat → Int32} {C : Nat → Nat} {n e : Nat} {post : Int32 → SY → Prop} {J8 : Int32 → Int32 → Int32 → (Nat → Int32) → (Nat → Int32) → (Nat → Int32) → (Nat → Int32) → (Nat → Int32) → (Nat → Int32) → (Nat → Int32) → (Nat → Int32) → (Nat → Int32) → (Nat → Int32) → (Nat → Int32) → (Nat → Int32) → (Nat → Int32) → (Nat → Int32) → Prop}
/-- one token of the reference -/
theorem yy_tok1 {i m g : Nat} (hC : ∀ j, C j < 127) (he : e ≤ n) (hn : n ≤ 256) (hi : i < e) (h40 : e ≤ i + 40) (hm : m < 40)
    (hb : tb_tk C i e = 50000 → post (-1) (nI n, g_nLines, g_compiled, g_errLine, g_gosubDepth, g_forDepth, g_outCap, g_nt, g_vn, g_on, g_divErr, g_status, g_stopLine, g_steps, g_pos, g_outN, g_gsp, g_fsp, tb_S C, b_lnStart, b_lnEnd, b_lnNum, b_tk, b_tv, b_vs, b_os, b_vars, b_out, b_gStack, b_fVar, b_fLim, b_fBody))
    (hg : tb_tk C i e ≠ 50000 → J8 (nI (m + 1)) (nI (tb_te C i e)) (nI (g + 1)) (tb_S C) b_lnStart b_lnEnd b_lnNum (upd b_tk m (nI (tb_kf (tb_tk C i e)))) (upd b_tv m (nI (tb_vf (tb_tk C i e)))) b_vs b_os b_vars b_out b_gStack b_fVar b_fLim b_fBody) :
    ((nI (C i) < 48 → wY_tokenize_167 post J8 (nI e) (nI m) (nI i) (nI g) (nI (C i)) (nI n) g_nLines g_compiled g_errLine g_gosubDepth g_forDepth g_outCap g_nt g_vn g_on g_divErr g_status g_stopLine g_steps g_pos g_outN g_gsp g_fsp (tb_S C) b_lnStart b_lnEnd b_lnNum b_tk b_tv b_vs b_os b_vars b_out b_gStack b_fVar b_fLim b_fBody) ∧ (¬ nI (C i) < 48 → ((57 < nI (C i) → wY_tokenize_167 post J8 (nI e) (nI m) (nI i) (nI g) (nI (C i)) (nI n) g_nLines g_compiled g_errLine g_gosubDepth g_forDepth g_outCap g_nt g_vn g_on g_divErr g_status g_stopLine g_steps g_pos g_outN g_gsp g_fsp (tb_S C) b_lnStart b_lnEnd b_lnNum b_tk b_tv b_vs b_os b_vars b_out b_gStack b_fVar b_fLim b_fBody) ∧ (¬ 57 < nI (C i) → ∃ n70 : Nat, wY_tokenize_70 post J8 (nI e) (nI m) (nI g) (nI n) g_nLines g_compiled g_errLine g_gosubDepth g_forDepth g_outCap g_nt g_vn g_on g_divErr g_status g_stopLine g_steps g_pos g_outN g_gsp g_fsp (tb_S C) b_lnStart b_lnEnd b_lnNum b_tk b_tv b_vs b_os b_vars b_out b_gStack b_fVar b_fLim b_fBody n70 (nI i) 0 0)))) := by
  have b0 := hC i
  have Q : ¬ (48 ≤ C i ∧ C i ≤ 57) → wY_tokenize_167 post J8 (nI e) (nI m) (nI i) (nI g) (nI (C i)) (nI n) g_nLines g_compiled g_errLine g_gosubDepth g_forDepth g_outCap g_nt g_vn g_on g_divErr g_status g_stopLine g_steps g_pos g_outN g_gsp g_fsp (tb_S C) b_lnStart b_lnEnd b_lnNum b_tk b_tv b_vs b_os b_vars b_out b_gStack b_fVar b_fLim b_fBody := fun z => by
    have R : ¬ (65 ≤ C i ∧ C i ≤ 90) → wY_tokenize_332 post J8 (nI e) (nI m) (nI i) (nI g) (nI (C i)) (nI n) g_nLines g_compiled g_errLine g_gosubDepth g_forDepth g_outCap g_nt g_vn g_on g_divErr g_status g_stopLine g_steps g_pos g_outN g_gsp g_fsp (tb_S C) b_lnStart b_lnEnd b_lnNum b_tk b_tv b_vs b_os b_vars b_out b_gStack b_fVar b_fLim b_fBody := fun y => by
      have ek : tb_tk C i e = tb_st (C i) (tb_nx C i e) := by unfold tb_tk; rw [if_neg z, if_neg y]
      have ee : tb_te C i e = i + tb_sl (C i) (tb_nx C i e) := by unfold tb_te; rw [if_neg z, if_neg y]
      rw [ek] at hb hg
      rw [ee] at hg
      have hd : tb_nx C i e < 127 := by
        unfold tb_nx
        split
        · exact hC _
        · omega
      have ok := tb_st_ok (C i) (tb_nx C i e)
      have M : wY_tokenize_352 post J8 (nI e) (nI m) (nI i) (nI g) (nI (C i)) (nI (tb_nx C i e)) (nI n) g_nLines g_compiled g_errLine g_gosubDepth g_forDepth g_outCap g_nt g_vn g_on g_divErr g_status g_stopLine g_steps g_pos g_outN g_gsp g_fsp (tb_S C) b_lnStart b_lnEnd b_lnNum b_tk b_tv b_vs b_os b_vars b_out b_gStack b_fVar b_fLim b_fBody :=
        yy_352 (by omega) b0 hd hb (fun q => by
          have w := hg q
          rw [tb_vf_oth (by omega)] at w
          exact w)
      refine pk_le e (i + 1) (fun h => ?_) (fun h => yy_ch (i + 1) (nI_1 i) (by omega) hn ?_) rfl (nI_1 i)
      · rw [show tb_nx C i e = 0 from if_neg (by omega)] at M
        exact M
      · rw [show tb_nx C i e = C (i + 1) from if_pos h] at M
        exact M
    refine pk_lt (C i) 65 (fun h => R (by omega)) (fun h1 => pk_lt 90 (C i) (fun h => R (by omega)) (fun h2 => ?_))
    have y : 65 ≤ C i ∧ C i ≤ 90 := ⟨h1, h2⟩
    have ek : tb_tk C i e = (if tb_rn 65 90 C (e - i) i - i = 1 then 40000 + (C i - 65) else if 6 < tb_rn 65 90 C (e - i) i - i then 50000 else tb_kw (tb_wd C i (tb_rn 65 90 C (e - i) i - i))) := by unfold tb_tk; rw [if_neg z, if_pos y]
    have ee : tb_te C i e = tb_rn 65 90 C (e - i) i := by unfold tb_te; rw [if_neg z, if_pos y]
    rw [ee] at hg
    have g1 := tb_rn_pos (lo := 65) (hi := 90) (C := C) (d := e - i) (i := i) (by omega) y
    have g2 := tb_rn_le 65 90 C (e - i) i
    have gin : ∀ k, k < tb_rn 65 90 C (e - i) i - i → 65 ≤ C (i + k) ∧ C (i + k) ≤ 90 := fun k hk => tb_rn_in 65 90 C (e - i) i (i + k) (by omega) (by omega)
    refine ⟨_, yy_letters (s := i) (E := tb_rn 65 90 C (e - i) i) hC he hn ?_ (e - i) 0 0 (by omega) (by omega) rfl (fun k hk => absurd hk (by omega))⟩
    generalize tb_rn 65 90 C (e - i) i = E at g1 g2 gin hg ek
    refine pk_eq (E - i) 1 (fun q => ?_) (fun q => pk_le (E - i) 6 (fun q6 => ?_) (fun q6 => ?_))
    · rw [if_pos q] at ek
      rw [ek] at hg
      have w := hg (by omega)
      rw [tb_kf_var (by omega), tb_vf_var (by omega)] at w
      refine ⟨vp_in_nI (by omega) (by omega), nm_r (e' := upd b_tk m (nI 2)) (by rw [nI_clamp (by omega)]; rfl) ⟨vp_in_nI (by omega) (by omega), nm_r (e' := upd b_tv m (nI (40000 + (C i - 65) - 40000))) ?_ (nm_r (nI_1 m) (nm_r (nI_1 g) w))⟩⟩
      rw [nI_clamp (by omega), Nat.add_sub_cancel_left]
      show upd b_tv m (nI (C i) - nI 65) = _
      rw [pk_sub h1]
    · rw [if_neg q, if_neg (by omega)] at ek
      rw [ek] at hb hg
      rw [show min (E - i) 6 = E - i from by omega]
      have ok := tb_kw_ok (tb_wd C i (E - i))
      refine yy_kw (tb_wd_in C i (E - i) gin) (by rw [tb_wd_len]; exact q6) ?_
      by_cases hk : tb_kw (tb_wd C i (E - i)) = 50000
      · rw [hk, tb_kI_b]
        exact br_f (by decide) (hb hk)
      · rw [tb_kI_n hk]
        have w := hg hk
        rw [tb_vf_oth (by omega)] at w
        have := tb_kf_lt (tb_kw (tb_wd C i (E - i))) (by omega)
        exact yy_305 (by omega) (by omega) w
    · rw [if_neg q, if_pos q6] at ek
      exact br_f (by decide) (hb ek)
  refine pk_lt (C i) 48 (fun h => Q (by omega)) (fun h1 => pk_lt 57 (C i) (fun h => Q (by omega)) (fun h2 => ?_))
  have z : 48 ≤ C i ∧ C i ≤ 57 := ⟨h1, h2⟩
  have ek : tb_tk C i e = (if tb_nv C i (tb_rn 48 57 C (e - i) i - i) ≤ 32767 then tb_nv C i (tb_rn 48 57 C (e - i) i - i) else 50000) := by unfold tb_tk; rw [if_pos z]
  have ee : tb_te C i e = tb_rn 48 57 C (e - i) i := by unfold tb_te; rw [if_pos z]
  rw [ee] at hg
  refine ⟨_, yy_digits (s := i) (E := tb_rn 48 57 C (e - i) i) hC he hn (fun w hw hI => ?_) (e - i) 0 0 0 (by omega) (by omega) rfl (by omega) (Or.inl ⟨rfl, by omega⟩)⟩
  generalize tb_rn 48 57 C (e - i) i = E at hI hg ek
  refine pk_le w 32767 (fun q => ?_) (fun q => ?_)
  · have e1 : w = tb_nv C i (E - i) := by omega
    rw [← e1, if_pos q] at ek
    rw [ek] at hg
    have y := hg (by omega)
    rw [tb_kf_num q, tb_vf_num q] at y
    exact ⟨vp_in_nI (by omega) (by omega), nm_r (e' := upd b_tk m (nI 1)) (by rw [nI_clamp (by omega)]; rfl) ⟨vp_in_nI (by omega) (by omega), nm_r (by rw [nI_clamp (by omega)]) (nm_r (nI_1 m) (nm_r (nI_1 g) y))⟩⟩
  · rw [if_neg (by omega)] at ek
    exact hb ek
end
section
variable {g_nLines g_compiled g_errLine g_gosubDepth g_forDepth g_outCap g_nt g_vn g_on g_divErr g_status g_stopLine g_steps g_pos g_outN g_gsp g_fsp : Int32} {b_lnStart b_lnEnd b_lnNum b_tk b_tv b_vs b_os b_vars b_out b_gStack b_fVar b_fLim b_fBody : Nat → Int32} {C : Nat → Nat} {n e : Nat} {post : Int32 → SY → Prop}
theorem yy_readL (hC : ∀ j, C j < 127) (he : e ≤ n) (hn : n ≤ 256) : ∀ (d i m g : Nat) (b_tk b_tv : Nat → Int32), g + d ≤ 40 → m + d ≤ 40 → e ≤ i + d → i ≤ e →
    (tb_tz C e d i = none → ∀ tk tv, post (-1) (nI n, g_nLines, g_compiled, g_errLine, g_gosubDepth, g_forDepth, g_outCap, g_nt, g_vn, g_on, g_divErr, g_status, g_stopLine, g_steps, g_pos, g_outN, g_gsp, g_fsp, tb_S C, b_lnStart, b_lnEnd, b_lnNum, tk, tv, b_vs, b_os, b_vars, b_out, b_gStack, b_fVar, b_fLim, b_fBody)) →
    (∀ L, tb_tz C e d i = some L → ∀ tk tv, (∀ j, j < m → tk j = b_tk j ∧ tv j = b_tv j) → tb_sg tk m (L.map (fun t => nI (tb_kf t))) → tb_sg tv m (L.map (fun t => nI (tb_vf t))) → post (nI (m + L.length)) (nI n, g_nLines, g_compiled, g_errLine, g_gosubDepth, g_forDepth, g_outCap, g_nt, g_vn, g_on, g_divErr, g_status, g_stopLine, g_steps, g_pos, g_outN, g_gsp, g_fsp, tb_S C, b_lnStart, b_lnEnd, b_lnNum, tk, tv, b_vs, b_os, b_vars, b_out, b_gStack, b_fVar, b_fLim, b_fBody)) →
    wY_tokenize_8 post (nI e) (nI n) g_nLines g_compiled g_errLine g_gosubDepth g_forDepth g_outCap g_nt g_vn g_on g_divErr g_status g_stopLine g_steps g_pos g_outN g_gsp g_fsp (d + 1) (nI m) (nI i) (nI g) (tb_S C) b_lnStart b_lnEnd b_lnNum b_tk b_tv b_vs b_os b_vars b_out b_gStack b_fVar b_fLim b_fBody
  | 0, i, m, g, b_tk, b_tv, hg, hm, hd, hie0, hN, hS => pk_le 41 g (fun h => absurd h (by omega)) (fun _ => pk_le e i (fun q => pk_le e i (fun _ => hS [] rfl b_tk b_tv (fun _ _ => ⟨rfl, rfl⟩) trivial trivial) (fun h => absurd h (by omega))) (fun h => absurd h (by omega)))
  | d + 1, i, m, g, b_tk, b_tv, hg, hm, hd, hie0, hN, hS => pk_le 41 g (fun h => absurd h (by omega)) (fun _ => pk_le e i (fun q => pk_le e i (fun _ => hS [] (tb_tz_e q) b_tk b_tv (fun _ _ => ⟨rfl, rfl⟩) trivial trivial) (fun h => absurd h (by omega)))
      (fun hie => yy_ch i rfl (by omega) hn (pk_eq (C i) 32
        (fun z => nm_r (nI_1 i) (nm_r (nI_1 g) (yy_readL hC he hn d (i + 1) m (g + 1) b_tk b_tv (by omega) (by omega) (by omega) (by omega) (fun q => hN ((tb_tz_s (by omega) z).trans q)) (fun L q => hS L ((tb_tz_s (by omega) z).trans q)))))
        (fun z => pk_lt m 40 (fun h40 => yy_tok1 hC he hn hie (by omega) h40 (fun hb => hN (tb_tz_b (by omega) z hb) b_tk b_tv) (fun hb => by
          have g1 := tb_te_gt C hie
          refine yy_readL hC he hn d (tb_te C i e) (m + 1) (g + 1) _ _ (by omega) (by omega) (by omega) (tb_te_le C hie) (fun q => hN ?_) (fun L q tk tv h1 h2 h3 => ?_)
          · rw [tb_tz_t (by omega) z hb, q]; rfl
          · have w := hS (tb_tk C i e :: L) (by rw [tb_tz_t (by omega) z hb, q]; rfl) tk tv (fun j hj => ⟨(h1 j (by omega)).1.trans (pk_un (by omega)), (h1 j (by omega)).2.trans (pk_un (by omega))⟩) ⟨(h1 m (by omega)).1.trans pk_us, h2⟩ ⟨(h1 m (by omega)).2.trans pk_us, h3⟩
            rw [show m + (tb_tk C i e :: L).length = m + 1 + L.length from by simp only [List.length_cons]; omega] at w
            exact w)) (fun h => absurd h (by omega)))
        rfl rfl (by have := hC i; omega))))
theorem yy_read {i : Nat} (hC : ∀ j, C j < 127) (he : e ≤ n) (hn : n ≤ 256) (h40 : e ≤ i + 40) (hie : i ≤ e)
    (hN : tb_tz C e 40 i = none → ∀ tk tv, post (-1) (nI n, g_nLines, g_compiled, g_errLine, g_gosubDepth, g_forDepth, g_outCap, g_nt, g_vn, g_on, g_divErr, g_status, g_stopLine, g_steps, g_pos, g_outN, g_gsp, g_fsp, tb_S C, b_lnStart, b_lnEnd, b_lnNum, tk, tv, b_vs, b_os, b_vars, b_out, b_gStack, b_fVar, b_fLim, b_fBody))
    (hS : ∀ L, tb_tz C e 40 i = some L → ∀ tk tv, tb_sg tk 0 (L.map (fun t => nI (tb_kf t))) → tb_sg tv 0 (L.map (fun t => nI (tb_vf t))) → post (nI L.length) (nI n, g_nLines, g_compiled, g_errLine, g_gosubDepth, g_forDepth, g_outCap, g_nt, g_vn, g_on, g_divErr, g_status, g_stopLine, g_steps, g_pos, g_outN, g_gsp, g_fsp, tb_S C, b_lnStart, b_lnEnd, b_lnNum, tk, tv, b_vs, b_os, b_vars, b_out, b_gStack, b_fVar, b_fLim, b_fBody)) :
    wpY_tokenize post (nI n, g_nLines, g_compiled, g_errLine, g_gosubDepth, g_forDepth, g_outCap, g_nt, g_vn, g_on, g_divErr, g_status, g_stopLine, g_steps, g_pos, g_outN, g_gsp, g_fsp, tb_S C, b_lnStart, b_lnEnd, b_lnNum, b_tk, b_tv, b_vs, b_os, b_vars, b_out, b_gStack, b_fVar, b_fLim, b_fBody) (nI i) (nI e) :=
  ⟨41, yy_readL hC he hn 40 i 0 0 b_tk b_tv (by omega) (by omega) h40 hie hN (fun L q tk tv _ h2 h3 => by
    have w := hS L q tk tv h2 h3
    rw [Nat.zero_add]
    exact w)⟩
end
