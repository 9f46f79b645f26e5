/-! ===== the reference's tokens ===== -/
section
variable {g_len g_nLines g_compiled g_errLine g_gosubDepth g_forDepth g_outCap g_nt g_vn g_on g_divErr g_status g_stopLine g_steps g_pos g_outN g_gsp g_fsp : Int32} {b_src b_lnStart b_lnEnd b_lnNum b_tk b_tv b_vs b_os b_vars b_out b_gStack b_fVar b_fLim b_fBody : Nat → Int32}
theorem yy_enc_LET {post : Int32 → Prop} (hp : post 8903) : wpY_enc post (g_len, g_nLines, g_compiled, g_errLine, g_gosubDepth, g_forDepth, g_outCap, g_nt, g_vn, g_on, g_divErr, g_status, g_stopLine, g_steps, g_pos, g_outN, g_gsp, g_fsp, b_src, b_lnStart, b_lnEnd, b_lnNum, b_tk, b_tv, b_vs, b_os, b_vars, b_out, b_gStack, b_fVar, b_fLim, b_fBody) 76 69 84 0 0 0 := (br_f (by decide) (nm_r (e' := 12) (by decide) (br_f (by decide) (nm_r (e' := 329) (by decide) (br_f (by decide) (nm_r (e' := 8903) (by decide) (br_t rfl (br_t rfl (br_t rfl hp)))))))))
theorem yy_enc_PRINT {post : Int32 → Prop} (hp : post 8864309) : wpY_enc post (g_len, g_nLines, g_compiled, g_errLine, g_gosubDepth, g_forDepth, g_outCap, g_nt, g_vn, g_on, g_divErr, g_status, g_stopLine, g_steps, g_pos, g_outN, g_gsp, g_fsp, b_src, b_lnStart, b_lnEnd, b_lnNum, b_tk, b_tv, b_vs, b_os, b_vars, b_out, b_gStack, b_fVar, b_fLim, b_fBody) 80 82 73 78 84 0 := (br_f (by decide) (nm_r (e' := 16) (by decide) (br_f (by decide) (nm_r (e' := 450) (by decide) (br_f (by decide) (nm_r (e' := 12159) (by decide) (br_f (by decide) (nm_r (e' := 328307) (by decide) (br_f (by decide) (nm_r (e' := 8864309) (by decide) (br_t rfl hp)))))))))))
theorem yy_enc_IF {post : Int32 → Prop} (hp : post 249) : wpY_enc post (g_len, g_nLines, g_compiled, g_errLine, g_gosubDepth, g_forDepth, g_outCap, g_nt, g_vn, g_on, g_divErr, g_status, g_stopLine, g_steps, g_pos, g_outN, g_gsp, g_fsp, b_src, b_lnStart, b_lnEnd, b_lnNum, b_tk, b_tv, b_vs, b_os, b_vars, b_out, b_gStack, b_fVar, b_fLim, b_fBody) 73 70 0 0 0 0 := (br_f (by decide) (nm_r (e' := 9) (by decide) (br_f (by decide) (nm_r (e' := 249) (by decide) (br_t rfl (br_t rfl (br_t rfl (br_t rfl hp))))))))
theorem yy_enc_THEN {post : Int32 → Prop} (hp : post 399641) : wpY_enc post (g_len, g_nLines, g_compiled, g_errLine, g_gosubDepth, g_forDepth, g_outCap, g_nt, g_vn, g_on, g_divErr, g_status, g_stopLine, g_steps, g_pos, g_outN, g_gsp, g_fsp, b_src, b_lnStart, b_lnEnd, b_lnNum, b_tk, b_tv, b_vs, b_os, b_vars, b_out, b_gStack, b_fVar, b_fLim, b_fBody) 84 72 69 78 0 0 := (br_f (by decide) (nm_r (e' := 20) (by decide) (br_f (by decide) (nm_r (e' := 548) (by decide) (br_f (by decide) (nm_r (e' := 14801) (by decide) (br_f (by decide) (nm_r (e' := 399641) (by decide) (br_t rfl (br_t rfl hp))))))))))
theorem yy_enc_GOTO {post : Int32 → Prop} (hp : post 149271) : wpY_enc post (g_len, g_nLines, g_compiled, g_errLine, g_gosubDepth, g_forDepth, g_outCap, g_nt, g_vn, g_on, g_divErr, g_status, g_stopLine, g_steps, g_pos, g_outN, g_gsp, g_fsp, b_src, b_lnStart, b_lnEnd, b_lnNum, b_tk, b_tv, b_vs, b_os, b_vars, b_out, b_gStack, b_fVar, b_fLim, b_fBody) 71 79 84 79 0 0 := (br_f (by decide) (nm_r (e' := 7) (by decide) (br_f (by decide) (nm_r (e' := 204) (by decide) (br_f (by decide) (nm_r (e' := 5528) (by decide) (br_f (by decide) (nm_r (e' := 149271) (by decide) (br_t rfl (br_t rfl hp))))))))))
theorem yy_enc_GOSUB {post : Int32 → Prop} (hp : post 4029752) : wpY_enc post (g_len, g_nLines, g_compiled, g_errLine, g_gosubDepth, g_forDepth, g_outCap, g_nt, g_vn, g_on, g_divErr, g_status, g_stopLine, g_steps, g_pos, g_outN, g_gsp, g_fsp, b_src, b_lnStart, b_lnEnd, b_lnNum, b_tk, b_tv, b_vs, b_os, b_vars, b_out, b_gStack, b_fVar, b_fLim, b_fBody) 71 79 83 85 66 0 := (br_f (by decide) (nm_r (e' := 7) (by decide) (br_f (by decide) (nm_r (e' := 204) (by decide) (br_f (by decide) (nm_r (e' := 5527) (by decide) (br_f (by decide) (nm_r (e' := 149250) (by decide) (br_f (by decide) (nm_r (e' := 4029752) (by decide) (br_t rfl hp)))))))))))
theorem yy_enc_RETURN {post : Int32 → Prop} (hp : post 261347000) : wpY_enc post (g_len, g_nLines, g_compiled, g_errLine, g_gosubDepth, g_forDepth, g_outCap, g_nt, g_vn, g_on, g_divErr, g_status, g_stopLine, g_steps, g_pos, g_outN, g_gsp, g_fsp, b_src, b_lnStart, b_lnEnd, b_lnNum, b_tk, b_tv, b_vs, b_os, b_vars, b_out, b_gStack, b_fVar, b_fLim, b_fBody) 82 69 84 85 82 78 := (br_f (by decide) (nm_r (e' := 18) (by decide) (br_f (by decide) (nm_r (e' := 491) (by decide) (br_f (by decide) (nm_r (e' := 13277) (by decide) (br_f (by decide) (nm_r (e' := 358500) (by decide) (br_f (by decide) (nm_r (e' := 9679518) (by decide) (br_f (by decide) (nm_r (e' := 261347000) (by decide) hp))))))))))))
theorem yy_enc_FOR {post : Int32 → Prop} (hp : post 4797) : wpY_enc post (g_len, g_nLines, g_compiled, g_errLine, g_gosubDepth, g_forDepth, g_outCap, g_nt, g_vn, g_on, g_divErr, g_status, g_stopLine, g_steps, g_pos, g_outN, g_gsp, g_fsp, b_src, b_lnStart, b_lnEnd, b_lnNum, b_tk, b_tv, b_vs, b_os, b_vars, b_out, b_gStack, b_fVar, b_fLim, b_fBody) 70 79 82 0 0 0 := (br_f (by decide) (nm_r (e' := 6) (by decide) (br_f (by decide) (nm_r (e' := 177) (by decide) (br_f (by decide) (nm_r (e' := 4797) (by decide) (br_t rfl (br_t rfl (br_t rfl hp)))))))))
theorem yy_enc_TO {post : Int32 → Prop} (hp : post 555) : wpY_enc post (g_len, g_nLines, g_compiled, g_errLine, g_gosubDepth, g_forDepth, g_outCap, g_nt, g_vn, g_on, g_divErr, g_status, g_stopLine, g_steps, g_pos, g_outN, g_gsp, g_fsp, b_src, b_lnStart, b_lnEnd, b_lnNum, b_tk, b_tv, b_vs, b_os, b_vars, b_out, b_gStack, b_fVar, b_fLim, b_fBody) 84 79 0 0 0 0 := (br_f (by decide) (nm_r (e' := 20) (by decide) (br_f (by decide) (nm_r (e' := 555) (by decide) (br_t rfl (br_t rfl (br_t rfl (br_t rfl hp))))))))
theorem yy_enc_NEXT {post : Int32 → Prop} (hp : post 279875) : wpY_enc post (g_len, g_nLines, g_compiled, g_errLine, g_gosubDepth, g_forDepth, g_outCap, g_nt, g_vn, g_on, g_divErr, g_status, g_stopLine, g_steps, g_pos, g_outN, g_gsp, g_fsp, b_src, b_lnStart, b_lnEnd, b_lnNum, b_tk, b_tv, b_vs, b_os, b_vars, b_out, b_gStack, b_fVar, b_fLim, b_fBody) 78 69 88 84 0 0 := (br_f (by decide) (nm_r (e' := 14) (by decide) (br_f (by decide) (nm_r (e' := 383) (by decide) (br_f (by decide) (nm_r (e' := 10365) (by decide) (br_f (by decide) (nm_r (e' := 279875) (by decide) (br_t rfl (br_t rfl hp))))))))))
theorem yy_enc_END {post : Int32 → Prop} (hp : post 4027) : wpY_enc post (g_len, g_nLines, g_compiled, g_errLine, g_gosubDepth, g_forDepth, g_outCap, g_nt, g_vn, g_on, g_divErr, g_status, g_stopLine, g_steps, g_pos, g_outN, g_gsp, g_fsp, b_src, b_lnStart, b_lnEnd, b_lnNum, b_tk, b_tv, b_vs, b_os, b_vars, b_out, b_gStack, b_fVar, b_fLim, b_fBody) 69 78 68 0 0 0 := (br_f (by decide) (nm_r (e' := 5) (by decide) (br_f (by decide) (nm_r (e' := 149) (by decide) (br_f (by decide) (nm_r (e' := 4027) (by decide) (br_t rfl (br_t rfl (br_t rfl hp)))))))))
def tb_kI (t : Nat) : Int32 := if t = 50000 then -1 else nI (tb_kf t)
theorem tb_kI_b : tb_kI 50000 = -1 := if_pos rfl
theorem tb_kI_n {t : Nat} (h : t ≠ 50000) : tb_kI t = nI (tb_kf t) := if_neg h
theorem yy_kw {post : Int32 → Prop} {w : List Nat} (hw : tb_wk w) (hl : w.length ≤ 6) (hp : post (tb_kI (tb_kw w))) : wpY_kwKind post (g_len, g_nLines, g_compiled, g_errLine, g_gosubDepth, g_forDepth, g_outCap, g_nt, g_vn, g_on, g_divErr, g_status, g_stopLine, g_steps, g_pos, g_outN, g_gsp, g_fsp, b_src, b_lnStart, b_lnEnd, b_lnNum, b_tk, b_tv, b_vs, b_os, b_vars, b_out, b_gStack, b_fVar, b_fLim, b_fBody) (nI (tb_pk 27 w)) := by
  have hb : tb_pk 27 w < 2 ^ 31 := by
    have a := tb_pk_lt 27 (by omega) w hw
    have b : 27 ^ w.length ≤ 27 ^ 6 := Nat.pow_le_pow_right (by omega) hl
    have c : (27 : Nat) ^ 6 = 387420489 := by decide
    omega
  have K : ∀ z : List Nat, z.all (fun d => decide (1 ≤ d ∧ d ≤ 26)) = true → tb_pk 27 w = tb_pk 27 z → w = z := fun z hz e => tb_pk27 w z hw (tb_wk_of hz) e
  unfold wpY_kwKind
  refine yy_enc_LET (pk_eq (tb_pk 27 w) 8903 (fun h => ?_) (fun h1 => ?_))
  · have := K [20, 5, 12] (by decide) (h.trans (by decide)); subst this; exact hp
  refine yy_enc_PRINT (pk_eq (tb_pk 27 w) 8864309 (fun h => ?_) (fun h2 => ?_))
  · have := K [20, 14, 9, 18, 16] (by decide) (h.trans (by decide)); subst this; exact hp
  refine yy_enc_IF (pk_eq (tb_pk 27 w) 249 (fun h => ?_) (fun h3 => ?_))
  · have := K [6, 9] (by decide) (h.trans (by decide)); subst this; exact hp
  refine yy_enc_THEN (pk_eq (tb_pk 27 w) 399641 (fun h => ?_) (fun h4 => ?_))
  · have := K [14, 5, 8, 20] (by decide) (h.trans (by decide)); subst this; exact hp
  refine yy_enc_GOTO (pk_eq (tb_pk 27 w) 149271 (fun h => ?_) (fun h5 => ?_))
  · have := K [15, 20, 15, 7] (by decide) (h.trans (by decide)); subst this; exact hp
  refine yy_enc_GOSUB (pk_eq (tb_pk 27 w) 4029752 (fun h => ?_) (fun h6 => ?_))
  · have := K [2, 21, 19, 15, 7] (by decide) (h.trans (by decide)); subst this; exact hp
  refine yy_enc_RETURN (pk_eq (tb_pk 27 w) 261347000 (fun h => ?_) (fun h7 => ?_))
  · have := K [14, 18, 21, 20, 5, 18] (by decide) (h.trans (by decide)); subst this; exact hp
  refine yy_enc_FOR (pk_eq (tb_pk 27 w) 4797 (fun h => ?_) (fun h8 => ?_))
  · have := K [18, 15, 6] (by decide) (h.trans (by decide)); subst this; exact hp
  refine yy_enc_TO (pk_eq (tb_pk 27 w) 555 (fun h => ?_) (fun h9 => ?_))
  · have := K [15, 20] (by decide) (h.trans (by decide)); subst this; exact hp
  refine yy_enc_NEXT (pk_eq (tb_pk 27 w) 279875 (fun h => ?_) (fun h10 => ?_))
  · have := K [20, 24, 5, 14] (by decide) (h.trans (by decide)); subst this; exact hp
  refine yy_enc_END (pk_eq (tb_pk 27 w) 4027 (fun h => ?_) (fun h11 => ?_))
  · have := K [4, 14, 5] (by decide) (h.trans (by decide)); subst this; exact hp
  have e : tb_kw w = 50000 := by
    unfold tb_kw
    rw [if_neg (fun z => h1 (by rw [z]; decide)), if_neg (fun z => h2 (by rw [z]; decide)), if_neg (fun z => h3 (by rw [z]; decide)), if_neg (fun z => h4 (by rw [z]; decide)), if_neg (fun z => h5 (by rw [z]; decide)), if_neg (fun z => h6 (by rw [z]; decide)), if_neg (fun z => h7 (by rw [z]; decide)), if_neg (fun z => h8 (by rw [z]; decide)), if_neg (fun z => h9 (by rw [z]; decide)), if_neg (fun z => h10 (by rw [z]; decide)), if_neg (fun z => h11 (by rw [z]; decide))]
  rw [e, tb_kI_b] at hp
  exact hp
end
section
variable {g_nLines g_compiled g_errLine g_gosubDepth g_forDepth g_outCap g_nt g_vn g_on g_divErr g_status g_stopLine g_steps g_pos g_outN g_gsp g_fsp : Int32} {b_lnStart b_lnEnd b_lnNum b_tk b_tv b_vs b_os b_vars b_out b_gStack b_fVar b_fLim b_fBody : Nat → Int32} {C : Nat → Nat} {n e s : Nat}
theorem yy_ch {post : Int32 → Prop} {x : Int32} (i : Nat) (hx : x = nI i) (hi : i < n) (hn : n ≤ 256) (hp : post (nI (C i))) : wpY_ch post (nI n, g_nLines, g_compiled, g_errLine, g_gosubDepth, g_forDepth, g_outCap, g_nt, g_vn, g_on, g_divErr, g_status, g_stopLine, g_steps, g_pos, g_outN, g_gsp, g_fsp, tb_S C, b_lnStart, b_lnEnd, b_lnNum, b_tk, b_tv, b_vs, b_os, b_vars, b_out, b_gStack, b_fVar, b_fLim, b_fBody) x := by
  subst hx
  exact br_f (nI_pos (by omega)) (pk_le 256 i (fun h => absurd h (by omega)) (fun _ => pk_lt i n (fun _ => ⟨vp_in_nI (by omega) (by omega), by rw [tb_rd (by omega)]; exact hp⟩) (fun h => absurd h (by omega))))
variable {post : Int32 → SY → Prop} {J8 : Int32 → Int32 → Int32 → (Nat → Int32) → (Nat → Int32) → (Nat → Int32) → (Nat → Int32) → (Nat → Int32) → (Nat → Int32) → (Nat → Int32) → (Nat → Int32) → (Nat → Int32) → (Nat → Int32) → (Nat → Int32) → (Nat → Int32) → (Nat → Int32) → (Nat → Int32) → Prop}
theorem yy_digits {x3 x5 : Int32} {E : Nat} (hC : ∀ j, C j < 127) (he : e ≤ n) (hn : n ≤ 256)
    (K : ∀ w, w < 400000 → (w = tb_nv C s (E - s) ∧ w ≤ 32767) ∨ (32767 < w ∧ 32767 < tb_nv C s (E - s)) → wY_tokenize_139 post J8 (nI e) x3 (nI E) x5 (nI w) (nI n) g_nLines g_compiled g_errLine g_gosubDepth g_forDepth g_outCap g_nt g_vn g_on g_divErr g_status g_stopLine g_steps g_pos g_outN g_gsp g_fsp (tb_S C) b_lnStart b_lnEnd b_lnNum b_tk b_tv b_vs b_os b_vars b_out b_gStack b_fVar b_fLim b_fBody) :
    ∀ d l h w, s + l + d = e → h + d ≤ 40 → tb_rn 48 57 C d (s + l) = E → w < 400000 → ((w = tb_nv C s l ∧ w ≤ 32767) ∨ (32767 < w ∧ 32767 < tb_nv C s l)) → wY_tokenize_70 post J8 (nI e) x3 x5 (nI n) g_nLines g_compiled g_errLine g_gosubDepth g_forDepth g_outCap g_nt g_vn g_on g_divErr g_status g_stopLine g_steps g_pos g_outN g_gsp g_fsp (tb_S C) b_lnStart b_lnEnd b_lnNum b_tk b_tv b_vs b_os b_vars b_out b_gStack b_fVar b_fLim b_fBody (d + 1) (nI (s + l)) (nI w) (nI h)
  | 0, l, h, w, hi, hh, hE, hw, hI => by
    have e1 : s + l = E := hE
    refine pk_le 41 h (fun z => absurd z (by omega)) (fun _ => pk_le e (s + l) (fun _ => ?_) (fun z => absurd z (by omega)))
    rw [e1]
    exact K w hw (by rw [← e1, Nat.add_sub_cancel_left]; exact hI)
  | d + 1, l, h, w, hi, hh, hE, hw, hI => by
    have b := hC (s + l)
    have X : ¬ (48 ≤ C (s + l) ∧ C (s + l) ≤ 57) → wY_tokenize_139 post J8 (nI e) x3 (nI (s + l)) x5 (nI w) (nI n) g_nLines g_compiled g_errLine g_gosubDepth g_forDepth g_outCap g_nt g_vn g_on g_divErr g_status g_stopLine g_steps g_pos g_outN g_gsp g_fsp (tb_S C) b_lnStart b_lnEnd b_lnNum b_tk b_tv b_vs b_os b_vars b_out b_gStack b_fVar b_fLim b_fBody := fun z => by
      rw [tb_rn_f z] at hE
      rw [hE]
      exact K w hw (by rw [← hE, Nat.add_sub_cancel_left]; exact hI)
    refine pk_le 41 h (fun z => absurd z (by omega)) (fun _ => pk_le e (s + l) (fun z => absurd z (by omega)) (fun _ => yy_ch (s + l) rfl (by omega) hn (pk_lt (C (s + l)) 48 (fun z => X (by omega)) (fun z1 => yy_ch (s + l) rfl (by omega) hn (pk_lt 57 (C (s + l)) (fun z => X (by omega)) (fun z2 => ?_))))))
    rw [tb_rn_t ⟨z1, z2⟩] at hE
    have e2 : tb_nv C s (l + 1) = tb_nv C s l * 10 + (C (s + l) - 48) := rfl
    refine pk_lt 32767 w (fun z => nm_r (nI_1 (s + l)) (nm_r (nI_1 h) (yy_digits hC he hn K d (l + 1) (h + 1) w (by omega) (by omega) hE hw ?_))) (fun z => yy_ch (s + l) rfl (by omega) hn (nm_r (e' := nI (tb_nv C s (l + 1))) ?_ (nm_r (nI_1 (s + l)) (nm_r (nI_1 h) (yy_digits hC he hn K d (l + 1) (h + 1) _ (by omega) (by omega) hE ?_ ?_)))))
    · omega
    · show nI w * nI 10 + nI (C (s + l)) - nI 48 = _
      rw [pk_mul, nI_add, pk_sub (by omega)]
      congr 1
      omega
    · omega
    · omega
theorem yy_letters {x3 x5 x6 : Int32} {E : Nat} (hC : ∀ j, C j < 127) (he : e ≤ n) (hn : n ≤ 256)
    (K : wY_tokenize_261 post J8 (nI e) x3 (nI E) x5 x6 (nI (tb_pk 27 (tb_wd C s (min (E - s) 6)))) (nI (E - s)) (nI n) g_nLines g_compiled g_errLine g_gosubDepth g_forDepth g_outCap g_nt g_vn g_on g_divErr g_status g_stopLine g_steps g_pos g_outN g_gsp g_fsp (tb_S C) b_lnStart b_lnEnd b_lnNum b_tk b_tv b_vs b_os b_vars b_out b_gStack b_fVar b_fLim b_fBody) :
    ∀ d l h, s + l + d = e → h + d ≤ 40 → tb_rn 65 90 C d (s + l) = E → (∀ k, k < l → 65 ≤ C (s + k) ∧ C (s + k) ≤ 90) → wY_tokenize_190 post J8 (nI e) x3 x5 x6 (nI n) g_nLines g_compiled g_errLine g_gosubDepth g_forDepth g_outCap g_nt g_vn g_on g_divErr g_status g_stopLine g_steps g_pos g_outN g_gsp g_fsp (tb_S C) b_lnStart b_lnEnd b_lnNum b_tk b_tv b_vs b_os b_vars b_out b_gStack b_fVar b_fLim b_fBody (d + 1) (nI (s + l)) (nI (tb_pk 27 (tb_wd C s (min l 6)))) (nI l) (nI h)
  | 0, l, h, hi, hh, hE, hI => by
    have e1 : s + l = E := hE
    refine pk_le 41 h (fun z => absurd z (by omega)) (fun _ => pk_le e (s + l) (fun _ => ?_) (fun z => absurd z (by omega)))
    rw [← e1, Nat.add_sub_cancel_left] at K
    exact K
  | d + 1, l, h, hi, hh, hE, hI => by
    have b := hC (s + l)
    have X : ¬ (65 ≤ C (s + l) ∧ C (s + l) ≤ 90) → wY_tokenize_261 post J8 (nI e) x3 (nI (s + l)) x5 x6 (nI (tb_pk 27 (tb_wd C s (min l 6)))) (nI l) (nI n) g_nLines g_compiled g_errLine g_gosubDepth g_forDepth g_outCap g_nt g_vn g_on g_divErr g_status g_stopLine g_steps g_pos g_outN g_gsp g_fsp (tb_S C) b_lnStart b_lnEnd b_lnNum b_tk b_tv b_vs b_os b_vars b_out b_gStack b_fVar b_fLim b_fBody := fun z => by
      rw [tb_rn_f z] at hE
      rw [← hE, Nat.add_sub_cancel_left] at K
      exact K
    refine pk_le 41 h (fun z => absurd z (by omega)) (fun _ => pk_le e (s + l) (fun z => absurd z (by omega)) (fun _ => yy_ch (s + l) rfl (by omega) hn (pk_lt (C (s + l)) 65 (fun z => X (by omega)) (fun z1 => yy_ch (s + l) rfl (by omega) hn (pk_lt 90 (C (s + l)) (fun z => X (by omega)) (fun z2 => ?_))))))
    rw [tb_rn_t ⟨z1, z2⟩] at hE
    have hI' : ∀ k, k < l + 1 → 65 ≤ C (s + k) ∧ C (s + k) ≤ 90 := fun k hk => by
      rcases Nat.lt_or_ge k l with z | z
      · exact hI k z
      · have : k = l := by omega
        subst this
        exact ⟨z1, z2⟩
    have IH := yy_letters hC he hn K d (l + 1) (h + 1) (by omega) (by omega) hE hI'
    refine pk_le 6 l (fun z => nm_r (nI_1 l) (nm_r (nI_1 (s + l)) (nm_r (nI_1 h) ?_))) (fun z => yy_ch (s + l) rfl (by omega) hn (nm_r (e' := nI (tb_pk 27 (tb_wd C s (min (l + 1) 6)))) ?_ (nm_r (nI_1 l) (nm_r (nI_1 (s + l)) (nm_r (nI_1 h) IH)))))
    · rw [show min (l + 1) 6 = min l 6 from by omega] at IH
      exact IH
    · have a := tb_pk_lt 27 (by omega) _ (tb_wd_in C s l hI)
      rw [tb_wd_len] at a
      have b : 27 ^ l ≤ 27 ^ 5 := Nat.pow_le_pow_right (by omega) (by omega)
      have c : (27 : Nat) ^ 5 = 14348907 := by decide
      rw [show min (l + 1) 6 = l + 1 from by omega, show min l 6 = l from by omega]
      show nI (tb_pk 27 (tb_wd C s l)) * nI 27 + nI (C (s + l)) - nI 64 = nI (tb_pk 27 (tb_wd C s l) * 27 + (C (s + l) - 64))
      rw [pk_mul, nI_add, pk_sub (by omega)]
      congr 1
      omega
end
section
variable {g_len g_nLines g_compiled g_errLine g_gosubDepth g_forDepth g_outCap g_nt g_vn g_on g_divErr g_status g_stopLine g_steps g_pos g_outN g_gsp g_fsp : Int32} {b_src b_lnStart b_lnEnd b_lnNum b_tk b_tv b_vs b_os b_vars b_out b_gStack b_fVar b_fLim b_fBody : Nat → Int32} {post : Int32 → SY → Prop} {J8 : Int32 → Int32 → Int32 → (Nat → Int32) → (Nat → Int32) → (Nat → Int32) → (Nat → Int32) → (Nat → Int32) → (Nat → Int32) → (Nat → Int32) → (Nat → Int32) → (Nat → Int32) → (Nat → Int32) → (Nat → Int32) → (Nat → Int32) → (Nat → Int32) → (Nat → Int32) → Prop} {x2 : Int32}
theorem yy_496 {m i g k : Nat} (hm : m < 41) (hk : k < 2 ^ 31) (hg : J8 (nI (m + 1)) (nI (i + 1)) (nI (g + 1)) b_src b_lnStart b_lnEnd b_lnNum (upd b_tk m (nI k)) (upd b_tv m 0) b_vs b_os b_vars b_out b_gStack b_fVar b_fLim b_fBody) : wY_tokenize_496 post J8 x2 (nI m) (nI i) (nI g) (nI k) g_len g_nLines g_compiled g_errLine g_gosubDepth g_forDepth g_outCap g_nt g_vn g_on g_divErr g_status g_stopLine g_steps g_pos g_outN g_gsp g_fsp b_src b_lnStart b_lnEnd b_lnNum b_tk b_tv b_vs b_os b_vars b_out b_gStack b_fVar b_fLim b_fBody :=
  br_t (nI_pos' hk) ⟨vp_in_nI hm (by omega), nm_r (by rw [nI_clamp (by omega)]) ⟨vp_in_nI hm (by omega), nm_r (by rw [nI_clamp (by omega)]) (nm_r (nI_1 i) (nm_r (nI_1 m) (nm_r (nI_1 g) hg)))⟩⟩
theorem yy_305 {m i g k : Nat} (hm : m < 41) (hk : k < 2 ^ 31) (hg : J8 (nI (m + 1)) (nI i) (nI (g + 1)) b_src b_lnStart b_lnEnd b_lnNum (upd b_tk m (nI k)) (upd b_tv m 0) b_vs b_os b_vars b_out b_gStack b_fVar b_fLim b_fBody) : wY_tokenize_305 post J8 x2 (nI m) (nI i) (nI g) (nI k) g_len g_nLines g_compiled g_errLine g_gosubDepth g_forDepth g_outCap g_nt g_vn g_on g_divErr g_status g_stopLine g_steps g_pos g_outN g_gsp g_fsp b_src b_lnStart b_lnEnd b_lnNum b_tk b_tv b_vs b_os b_vars b_out b_gStack b_fVar b_fLim b_fBody :=
  br_t (nI_pos' hk) ⟨vp_in_nI hm (by omega), nm_r (by rw [nI_clamp (by omega)]) ⟨vp_in_nI hm (by omega), nm_r (by rw [nI_clamp (by omega)]) (nm_r (nI_1 m) (nm_r (nI_1 g) hg))⟩⟩
theorem yy_429 {m i g c : Nat} (hm : m < 41) (hc : c < 127) (hb : tb_s1 c = 50000 → post (-1) (g_len, g_nLines, g_compiled, g_errLine, g_gosubDepth, g_forDepth, g_outCap, g_nt, g_vn, g_on, g_divErr, g_status, g_stopLine, g_steps, g_pos, g_outN, g_gsp, g_fsp, b_src, b_lnStart, b_lnEnd, b_lnNum, b_tk, b_tv, b_vs, b_os, b_vars, b_out, b_gStack, b_fVar, b_fLim, b_fBody)) (hg : tb_s1 c ≠ 50000 → tb_kf (tb_s1 c) = c → J8 (nI (m + 1)) (nI (i + 1)) (nI (g + 1)) b_src b_lnStart b_lnEnd b_lnNum (upd b_tk m (nI c)) (upd b_tv m 0) b_vs b_os b_vars b_out b_gStack b_fVar b_fLim b_fBody) : wY_tokenize_429 post J8 x2 (nI m) (nI i) (nI g) (nI c) (-1) g_len g_nLines g_compiled g_errLine g_gosubDepth g_forDepth g_outCap g_nt g_vn g_on g_divErr g_status g_stopLine g_steps g_pos g_outN g_gsp g_fsp b_src b_lnStart b_lnEnd b_lnNum b_tk b_tv b_vs b_os b_vars b_out b_gStack b_fVar b_fLim b_fBody := by
  have G : ∀ k, c = k → tb_s1 k ≠ 50000 → tb_kf (tb_s1 k) = k → wY_tokenize_492 post J8 x2 (nI m) (nI i) (nI g) (nI c) g_len g_nLines g_compiled g_errLine g_gosubDepth g_forDepth g_outCap g_nt g_vn g_on g_divErr g_status g_stopLine g_steps g_pos g_outN g_gsp g_fsp b_src b_lnStart b_lnEnd b_lnNum b_tk b_tv b_vs b_os b_vars b_out b_gStack b_fVar b_fLim b_fBody := fun k hk h1 h2 => by
    subst hk
    exact yy_496 hm (by omega) (hg h1 h2)
  refine pk_eq c 43 (fun z => G 43 z (by decide) (by decide)) (fun n43 => ?_)
  refine pk_eq c 45 (fun z => G 45 z (by decide) (by decide)) (fun n45 => ?_)
  refine pk_eq c 42 (fun z => G 42 z (by decide) (by decide)) (fun n42 => ?_)
  refine pk_eq c 47 (fun z => G 47 z (by decide) (by decide)) (fun n47 => ?_)
  refine pk_eq c 40 (fun z => G 40 z (by decide) (by decide)) (fun n40 => ?_)
  refine pk_eq c 41 (fun z => G 41 z (by decide) (by decide)) (fun n41 => ?_)
  refine pk_eq c 61 (fun z => G 61 z (by decide) (by decide)) (fun n61 => ?_)
  refine pk_eq c 60 (fun z => G 60 z (by decide) (by decide)) (fun n60 => ?_)
  refine pk_eq c 62 (fun z => G 62 z (by decide) (by decide)) (fun n62 => ?_)
  exact br_f (by decide) (hb (tb_s1_no (by omega)))
theorem yy_352 {m i g c d : Nat} (hm : m < 41) (hc : c < 127) (hd : d < 127) (hb : tb_st c d = 50000 → post (-1) (g_len, g_nLines, g_compiled, g_errLine, g_gosubDepth, g_forDepth, g_outCap, g_nt, g_vn, g_on, g_divErr, g_status, g_stopLine, g_steps, g_pos, g_outN, g_gsp, g_fsp, b_src, b_lnStart, b_lnEnd, b_lnNum, b_tk, b_tv, b_vs, b_os, b_vars, b_out, b_gStack, b_fVar, b_fLim, b_fBody)) (hg : tb_st c d ≠ 50000 → J8 (nI (m + 1)) (nI (i + tb_sl c d)) (nI (g + 1)) b_src b_lnStart b_lnEnd b_lnNum (upd b_tk m (nI (tb_kf (tb_st c d)))) (upd b_tv m 0) b_vs b_os b_vars b_out b_gStack b_fVar b_fLim b_fBody) : wY_tokenize_352 post J8 x2 (nI m) (nI i) (nI g) (nI c) (nI d) g_len g_nLines g_compiled g_errLine g_gosubDepth g_forDepth g_outCap g_nt g_vn g_on g_divErr g_status g_stopLine g_steps g_pos g_outN g_gsp g_fsp b_src b_lnStart b_lnEnd b_lnNum b_tk b_tv b_vs b_os b_vars b_out b_gStack b_fVar b_fLim b_fBody := by
  have P : ∀ k, tb_sl c d = 2 → tb_st c d ≠ 50000 → tb_kf (tb_st c d) = k → k < 127 → wY_tokenize_496 post J8 x2 (nI m) (nI (i + 1)) (nI g) (nI k) g_len g_nLines g_compiled g_errLine g_gosubDepth g_forDepth g_outCap g_nt g_vn g_on g_divErr g_status g_stopLine g_steps g_pos g_outN g_gsp g_fsp b_src b_lnStart b_lnEnd b_lnNum b_tk b_tv b_vs b_os b_vars b_out b_gStack b_fVar b_fLim b_fBody := fun k h1 h2 h3 h4 => by
    have w := hg h2
    rw [h1, h3] at w
    exact yy_496 hm (by omega) w
  have Q : tb_sl c d = 1 → wY_tokenize_429 post J8 x2 (nI m) (nI i) (nI g) (nI c) (-1) g_len g_nLines g_compiled g_errLine g_gosubDepth g_forDepth g_outCap g_nt g_vn g_on g_divErr g_status g_stopLine g_steps g_pos g_outN g_gsp g_fsp b_src b_lnStart b_lnEnd b_lnNum b_tk b_tv b_vs b_os b_vars b_out b_gStack b_fVar b_fLim b_fBody := fun h1 => by
    rw [tb_st1 h1] at hb hg
    rw [h1] at hg
    exact yy_429 hm hc hb (fun h2 h3 => by have w := hg h2; rw [h3] at w; exact w)
  have R : tb_sl c d = 1 → wY_tokenize_405 post J8 x2 (nI m) (nI i) (nI g) (nI c) (nI d) (-1) g_len g_nLines g_compiled g_errLine g_gosubDepth g_forDepth g_outCap g_nt g_vn g_on g_divErr g_status g_stopLine g_steps g_pos g_outN g_gsp g_fsp b_src b_lnStart b_lnEnd b_lnNum b_tk b_tv b_vs b_os b_vars b_out b_gStack b_fVar b_fLim b_fBody := fun h1 =>
    pk_eq c 62 (fun z => pk_eq d 61 (fun y => absurd h1 (by unfold tb_sl; rw [if_pos (by omega)]; omega)) (fun y => Q h1)) (fun z => Q h1)
  by_cases h60 : c = 60
  · subst h60
    refine br_t rfl (pk_eq d 61 (fun y => ?_) (fun y => br_t rfl (pk_eq d 62 (fun w => ?_) (fun w => R (if_neg (by omega))))))
    · subst y
      exact nm_r (nI_1 i) (P 70 (by decide) (by decide) (by decide) (by decide))
    · subst w
      exact nm_r (nI_1 i) (P 72 (by decide) (by decide) (by decide) (by decide))
  · have n60 : ¬ nI c = 60 := fun z => h60 ((nI_eq (by omega) (b := 60) (by omega)).mp z)
    refine br_f n60 (br_f n60 (pk_eq c 62 (fun z => pk_eq d 61 (fun y => ?_) (fun y => Q (if_neg (by omega)))) (fun z => Q (if_neg (by omega)))))
    subst z
    subst y
    exact nm_r (nI_1 i) (P 71 (by decide) (by decide) (by decide) (by decide))
end
