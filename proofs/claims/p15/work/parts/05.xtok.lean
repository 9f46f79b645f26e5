/-! ===== the class's tokens ===== -/
def tb_S (C : Nat → Nat) : Nat → Int32 := fun j => nI (C j)
def tb_tI (t : Nat) : Int32 := if t = 50000 then -1 else nI t
theorem tb_tI_n {t : Nat} (h : t ≠ 50000) : tb_tI t = nI t := if_neg h
theorem tb_10 : ¬ (1 : Int32) = 0 := by decide
theorem tb_rd {C : Nat → Nat} {i : Nat} (h : i < 2 ^ 31) : tb_S C (nI i).toNatClampNeg = nI (C i) := by
  rw [nI_clamp h]; rfl
theorem tb_rdx {C : Nat → Nat} {x : Int32} (i : Nat) (hx : x = nI i) (h : i < 2 ^ 31) : tb_S C x.toNatClampNeg = nI (C i) := by
  rw [hx]; exact tb_rd h
theorem tb_rn_t {lo hi d i : Nat} {C : Nat → Nat} (z : lo ≤ C i ∧ C i ≤ hi) : tb_rn lo hi C (d + 1) i = tb_rn lo hi C d (i + 1) := if_pos z
theorem tb_rn_f {lo hi d i : Nat} {C : Nat → Nat} (z : ¬ (lo ≤ C i ∧ C i ≤ hi)) : tb_rn lo hi C (d + 1) i = i := if_neg z
theorem xx_dig {post : Int32 → Prop} {x : Int32} (c : Nat) (hx : x = nI c) (hc : c < 127) (h1 : 48 ≤ c ∧ c ≤ 57 → post 1) (h0 : ¬ (48 ≤ c ∧ c ≤ 57) → post 0) : wpX_isDigit post () x := by
  subst hx
  exact pk_lt c 48 (fun h => h0 (by omega)) (fun h => pk_lt 57 c (fun h2 => h0 (by omega)) (fun h2 => h1 ⟨h, h2⟩))
theorem xx_let {post : Int32 → Prop} {x : Int32} (c : Nat) (hx : x = nI c) (hc : c < 127) (h1 : 65 ≤ c ∧ c ≤ 90 → post 1) (h0 : ¬ (65 ≤ c ∧ c ≤ 90) → post 0) : wpX_isLetter post () x := by
  subst hx
  exact pk_lt c 65 (fun h => h0 (by omega)) (fun h => pk_lt 90 c (fun h2 => h0 (by omega)) (fun h2 => h1 ⟨h, h2⟩))
/-- a symbol of one character -/
def tb_s1 (c : Nat) : Nat :=
  if c = 43 then 40201 else if c = 45 then 40202 else if c = 42 then 40203 else if c = 47 then 40204
  else if c = 40 then 40206 else if c = 41 then 40207 else if c = 61 then 40208 else if c = 60 then 40210
  else if c = 62 then 40211 else 50000
theorem tb_st1 {c d : Nat} (h : tb_sl c d = 1) : tb_st c d = tb_s1 c := by
  have z : ¬ ((c = 60 ∧ (d = 61 ∨ d = 62)) ∨ (c = 62 ∧ d = 61)) := fun z => by unfold tb_sl at h; rw [if_pos z] at h; omega
  unfold tb_st tb_s1
  rw [if_neg (by omega), if_neg (by omega), if_neg (by omega)]
theorem tb_s1_no {c : Nat} (h : c ≠ 43 ∧ c ≠ 45 ∧ c ≠ 42 ∧ c ≠ 47 ∧ c ≠ 40 ∧ c ≠ 41 ∧ c ≠ 61 ∧ c ≠ 60 ∧ c ≠ 62) : tb_s1 c = 50000 := by
  unfold tb_s1
  rw [if_neg (by omega), if_neg (by omega), if_neg (by omega), if_neg (by omega), if_neg (by omega), if_neg (by omega), if_neg (by omega), if_neg (by omega), if_neg (by omega)]
theorem tb_tI_b : tb_tI 50000 = -1 := if_pos rfl
theorem nx_or (a b : Nat) : nI a ||| nI b = nI (a ||| b) := by
  apply Int32.toBitVec_inj.1
  show BitVec.ofNat 32 a ||| BitVec.ofNat 32 b = BitVec.ofNat 32 (a ||| b)
  apply BitVec.eq_of_getLsbD_eq
  intro i hi
  simp [hi]
theorem tb_pack {p c : Nat} (hp : p < 33554432) (hc : 65 ≤ c ∧ c ≤ 90) : (nI p <<< ((5 : Int32) &&& 31)) ||| (nI c &&& 31) = nI (p * 32 + (c - 64)) := by
  rw [pk_shlN ((5 : Int32) &&& 31) 5 (by decide) (by omega), pk_andN (by omega) (m := 31) 5 (by decide), nx_or]
  have e : c % 2 ^ 5 = c - 64 := by omega
  have g : c - 64 < 2 ^ 5 := by omega
  have q := Nat.two_pow_add_eq_or_of_lt g p
  rw [e, Nat.mul_comm p (2 ^ 5), ← q]
theorem tb_wk_of {w : List Nat} (h : w.all (fun d => decide (1 ≤ d ∧ d ≤ 26)) = true) : tb_wk w := fun d hd => by
  have := List.all_eq_true.mp h d hd
  exact of_decide_eq_true this
theorem xx_kw {post : Int32 → Prop} {w : List Nat} (hw : tb_wk w) (hl : w.length ≤ 6) (hp : post (tb_tI (tb_kw w))) : wpX_keywordOf post () (nI (tb_pk 32 w)) := by
  have hb : tb_pk 32 w < 2 ^ 31 := by
    have a := tb_pk_lt 32 (by omega) w hw
    have b : 32 ^ w.length ≤ 32 ^ 6 := Nat.pow_le_pow_right (by omega) hl
    have c : (32 : Nat) ^ 6 = 1073741824 := by decide
    omega
  have K : ∀ z : List Nat, z.all (fun d => decide (1 ≤ d ∧ d ≤ 26)) = true → tb_pk 32 w = tb_pk 32 z → w = z := fun z hz e => tb_pk32 w z hw (tb_wk_of hz) e
  unfold wpX_keywordOf
  refine pk_eq (tb_pk 32 w) 294 (fun h => ?_) (fun h1 => ?_)
  · have := K [6, 9] (by decide) (h.trans (by decide)); subst this; exact hp
  refine pk_eq (tb_pk 32 w) 655 (fun h => ?_) (fun h2 => ?_)
  · have := K [15, 20] (by decide) (h.trans (by decide)); subst this; exact hp
  refine pk_eq (tb_pk 32 w) 5572 (fun h => ?_) (fun h3 => ?_)
  · have := K [4, 14, 5] (by decide) (h.trans (by decide)); subst this; exact hp
  refine pk_eq (tb_pk 32 w) 6642 (fun h => ?_) (fun h4 => ?_)
  · have := K [18, 15, 6] (by decide) (h.trans (by decide)); subst this; exact hp
  refine pk_eq (tb_pk 32 w) 12468 (fun h => ?_) (fun h5 => ?_)
  · have := K [20, 5, 12] (by decide) (h.trans (by decide)); subst this; exact hp
  refine pk_eq (tb_pk 32 w) 245391 (fun h => ?_) (fun h6 => ?_)
  · have := K [15, 20, 15, 7] (by decide) (h.trans (by decide)); subst this; exact hp
  refine pk_eq (tb_pk 32 w) 464660 (fun h => ?_) (fun h7 => ?_)
  · have := K [20, 24, 5, 14] (by decide) (h.trans (by decide)); subst this; exact hp
  refine pk_eq (tb_pk 32 w) 663726 (fun h => ?_) (fun h8 => ?_)
  · have := K [14, 5, 8, 20] (by decide) (h.trans (by decide)); subst this; exact hp
  refine pk_eq (tb_pk 32 w) 7851682 (fun h => ?_) (fun h9 => ?_)
  · have := K [2, 21, 19, 15, 7] (by decide) (h.trans (by decide)); subst this; exact hp
  refine pk_eq (tb_pk 32 w) 17376724 (fun h => ?_) (fun h10 => ?_)
  · have := K [20, 14, 9, 18, 16] (by decide) (h.trans (by decide)); subst this; exact hp
  refine pk_eq (tb_pk 32 w) 609900110 (fun h => ?_) (fun h11 => ?_)
  · have := K [14, 18, 21, 20, 5, 18] (by decide) (h.trans (by decide)); subst this; exact hp
  have e : tb_kw w = 50000 := by
    unfold tb_kw
    rw [if_neg (fun z => h5 (by rw [z]; decide)), if_neg (fun z => h10 (by rw [z]; decide)), if_neg (fun z => h1 (by rw [z]; decide)), if_neg (fun z => h8 (by rw [z]; decide)), if_neg (fun z => h6 (by rw [z]; decide)), if_neg (fun z => h9 (by rw [z]; decide)), if_neg (fun z => h11 (by rw [z]; decide)), if_neg (fun z => h4 (by rw [z]; decide)), if_neg (fun z => h2 (by rw [z]; decide)), if_neg (fun z => h7 (by rw [z]; decide)), if_neg (fun z => h3 (by rw [z]; decide))]
  rw [e, tb_tI_b] at hp
  exact hp
section
variable {f_gosubDepth f_forDepth f_outCap f_sourceLength f_compiled f_errorLine f_tokenCount f_tokenAt f_heldCount f_lineTotal f_codeLength f_dividedByZero f_status f_stopLine f_steps f_position f_outputCount f_gosubCount f_frameCount : Int32} {a_tokens a_held a_programOrder a_lineNumber a_lineKeyword a_lineVariable a_lineRelation a_code a_codeStart a_codeEnd a_operands a_variables a_output a_returnTo a_frameVariable a_frameLimit a_frameBody : Nat → Int32} {C : Nat → Nat} {e s : Nat}
theorem xx_digits {post : Int32 → Prop} (hC : ∀ j, C j < 127) (he : e ≤ 256) : ∀ d i, i + d = e → s ≤ i → post (nI (tb_rn 48 57 C d i - s)) → wX_digitsFrom_2 post (nI s) (nI e) f_gosubDepth f_forDepth f_outCap f_sourceLength f_compiled f_errorLine f_tokenCount f_tokenAt f_heldCount f_lineTotal f_codeLength f_dividedByZero f_status f_stopLine f_steps f_position f_outputCount f_gosubCount f_frameCount (tb_S C) a_tokens a_held a_programOrder a_lineNumber a_lineKeyword a_lineVariable a_lineRelation a_code a_codeStart a_codeEnd a_operands a_variables a_output a_returnTo a_frameVariable a_frameLimit a_frameBody (d + 1) (nI i)
  | 0, i, hi, hs, hp => pk_le e i (fun _ => by rw [pk_sub hs]; exact hp) (fun h => absurd h (by omega))
  | d + 1, i, hi, hs, hp => pk_le e i (fun h => absurd h (by omega)) (fun h => ⟨vp_in_nI (by omega) (by omega), xx_dig (C i) (tb_rd (by omega)) (hC i)
      (fun z => br_f tb_10 (nm_r (nI_1 i) (xx_digits hC he d (i + 1) (by omega) (by omega) (by rw [tb_rn_t z] at hp; exact hp))))
      (fun z => br_t rfl (by rw [pk_sub hs]; rw [tb_rn_f z] at hp; exact hp))⟩)
theorem xx_letters {post : Int32 → Prop} (hC : ∀ j, C j < 127) (he : e ≤ 256) : ∀ d i, i + d = e → s ≤ i → post (nI (tb_rn 65 90 C d i - s)) → wX_lettersFrom_2 post (nI s) (nI e) f_gosubDepth f_forDepth f_outCap f_sourceLength f_compiled f_errorLine f_tokenCount f_tokenAt f_heldCount f_lineTotal f_codeLength f_dividedByZero f_status f_stopLine f_steps f_position f_outputCount f_gosubCount f_frameCount (tb_S C) a_tokens a_held a_programOrder a_lineNumber a_lineKeyword a_lineVariable a_lineRelation a_code a_codeStart a_codeEnd a_operands a_variables a_output a_returnTo a_frameVariable a_frameLimit a_frameBody (d + 1) (nI i)
  | 0, i, hi, hs, hp => pk_le e i (fun _ => by rw [pk_sub hs]; exact hp) (fun h => absurd h (by omega))
  | d + 1, i, hi, hs, hp => pk_le e i (fun h => absurd h (by omega)) (fun h => ⟨vp_in_nI (by omega) (by omega), xx_let (C i) (tb_rd (by omega)) (hC i)
      (fun z => br_f tb_10 (nm_r (nI_1 i) (xx_letters hC he d (i + 1) (by omega) (by omega) (by rw [tb_rn_t z] at hp; exact hp))))
      (fun z => br_t rfl (by rw [pk_sub hs]; rw [tb_rn_f z] at hp; exact hp))⟩)
theorem xx_symlen {post : Int32 → Prop} {i : Nat} (hC : ∀ j, C j < 127) (he : e ≤ 256) (hi : i < e) (hp : post (nI (tb_sl (C i) (tb_nx C i e)))) : wpX_symbolLength post (f_gosubDepth, f_forDepth, f_outCap, f_sourceLength, f_compiled, f_errorLine, f_tokenCount, f_tokenAt, f_heldCount, f_lineTotal, f_codeLength, f_dividedByZero, f_status, f_stopLine, f_steps, f_position, f_outputCount, f_gosubCount, f_frameCount, tb_S C, a_tokens, a_held, a_programOrder, a_lineNumber, a_lineKeyword, a_lineVariable, a_lineRelation, a_code, a_codeStart, a_codeEnd, a_operands, a_variables, a_output, a_returnTo, a_frameVariable, a_frameLimit, a_frameBody) (nI i) (nI e) := by
  have b0 := hC i
  have b1 := hC (i + 1)
  have H2 : tb_sl (C i) (tb_nx C i e) = 2 → post 2 := fun z => by rw [z] at hp; exact hp
  have H1 : tb_sl (C i) (tb_nx C i e) = 1 → post 1 := fun z => by rw [z] at hp; exact hp
  refine pk_lt (i + 1) e (fun h => ?_) (fun h => H1 ?_) (nI_1 i) rfl
  · have nx : tb_nx C i e = C (i + 1) := if_pos h
    rw [nx] at H1 H2
    refine ⟨vp_in_nI (by omega) (by omega), nm_r (tb_rd (by omega)) ⟨pk_in (i + 1) 256 (by omega) (nI_1 i), nm_r (tb_rdx (i + 1) (nI_1 i) (by omega)) ?_⟩⟩
    refine pk_eq (C i) 60 (fun h1 => pk_eq (C (i + 1)) 61 (fun h2 => br_f tb_10 (H2 (if_pos (by omega)))) (fun h2 => pk_eq (C (i + 1)) 62 (fun h3 => br_f tb_10 (H2 (if_pos (by omega)))) (fun h3 => pk_eq (C i) 62 (fun h4 => absurd h4 (by omega)) (fun h4 => br_t rfl (H1 (if_neg (by omega))))))) (fun h1 => pk_eq (C i) 62 (fun h4 => pk_eq (C (i + 1)) 61 (fun h2 => br_f tb_10 (H2 (if_pos (by omega)))) (fun h2 => br_t rfl (H1 (if_neg (by omega))))) (fun h4 => br_t rfl (H1 (if_neg (by omega)))))
  · have nx : tb_nx C i e = 0 := if_neg (by omega)
    rw [nx]
    exact if_neg (by omega)
theorem xx_toklen {post : Int32 → Prop} {i : Nat} (hC : ∀ j, C j < 127) (he : e ≤ 256) (hi : i < e) (hp : post (nI (tb_te C i e - i))) : wpX_tokenLength post (f_gosubDepth, f_forDepth, f_outCap, f_sourceLength, f_compiled, f_errorLine, f_tokenCount, f_tokenAt, f_heldCount, f_lineTotal, f_codeLength, f_dividedByZero, f_status, f_stopLine, f_steps, f_position, f_outputCount, f_gosubCount, f_frameCount, tb_S C, a_tokens, a_held, a_programOrder, a_lineNumber, a_lineKeyword, a_lineVariable, a_lineRelation, a_code, a_codeStart, a_codeEnd, a_operands, a_variables, a_output, a_returnTo, a_frameVariable, a_frameLimit, a_frameBody) (nI i) (nI e) := by
  unfold tb_te at hp
  have v : vp_in (nI i) 256 := vp_in_nI (by omega) (by omega)
  refine ⟨v, xx_dig (C i) (tb_rd (by omega)) (hC i) (fun z => br_f tb_10 ?_) (fun z => br_t rfl ⟨v, xx_let (C i) (tb_rd (by omega)) (hC i) (fun y => br_f tb_10 ?_) (fun y => br_t rfl ?_)⟩)⟩
  · rw [if_pos z] at hp
    exact ⟨_, xx_digits hC he (e - i) i (by omega) (Nat.le_refl _) hp⟩
  · rw [if_neg z, if_pos y] at hp
    exact ⟨_, xx_letters hC he (e - i) i (by omega) (Nat.le_refl _) hp⟩
  · rw [if_neg z, if_neg y, Nat.add_sub_cancel_left] at hp
    exact xx_symlen hC he hi hp
theorem xx_num {post : Int32 → Prop} {i l : Nat} (hC : ∀ j, C j < 127) (hl : i + l ≤ 256) (hd : ∀ k, k < l → 48 ≤ C (i + k) ∧ C (i + k) ≤ 57) (hp : post (tb_tI (if tb_nv C i l ≤ 32767 then tb_nv C i l else 50000))) : ∀ d j, j + d = l → tb_nv C i j ≤ 32767 → wX_numberOf_5 post (nI i) (nI l) f_gosubDepth f_forDepth f_outCap f_sourceLength f_compiled f_errorLine f_tokenCount f_tokenAt f_heldCount f_lineTotal f_codeLength f_dividedByZero f_status f_stopLine f_steps f_position f_outputCount f_gosubCount f_frameCount (tb_S C) a_tokens a_held a_programOrder a_lineNumber a_lineKeyword a_lineVariable a_lineRelation a_code a_codeStart a_codeEnd a_operands a_variables a_output a_returnTo a_frameVariable a_frameLimit a_frameBody (d + 1) (nI (tb_nv C i j)) (nI j)
  | 0, j, hj, hv => pk_le l j (fun _ => by
      have : j = l := by omega
      subst this
      rw [if_pos hv, tb_tI_n (by omega)] at hp
      exact hp) (fun h => absurd h (by omega))
  | d + 1, j, hj, hv => pk_le l j (fun h => absurd h (by omega)) (fun h => ⟨pk_in (i + j) 256 (by omega) (nI_add i j), by
      have dj := hd j (by omega)
      have e1 : (nI (tb_nv C i j) * 10 + tb_S C (nI i + nI j).toNatClampNeg) - 48 = nI (tb_nv C i (j + 1)) := by
        rw [tb_rdx (i + j) (nI_add i j) (by omega)]
        show nI (tb_nv C i j) * nI 10 + nI (C (i + j)) - nI 48 = _
        rw [pk_mul, nI_add, pk_sub (by omega)]
        show _ = nI (tb_nv C i j * 10 + (C (i + j) - 48))
        congr 1
        omega
      have e2 : tb_nv C i (j + 1) = tb_nv C i j * 10 + (C (i + j) - 48) := rfl
      refine nm_r e1 (pk_le (tb_nv C i (j + 1)) 32767 (fun h2 => nm_r (nI_1 j) (xx_num hC hl hd hp d (j + 1) (by omega) h2)) (fun h2 => ?_))
      have m := tb_nv_mono C i (j + 1) d
      rw [show j + 1 + d = l from by omega] at m
      rw [if_neg (by omega), tb_tI_b] at hp
      exact hp⟩)
theorem xx_word {post : Int32 → Prop} {i l : Nat} (hC : ∀ j, C j < 127) (hl : i + l ≤ 256) (h6 : l ≤ 6) (hd : ∀ k, k < l → 65 ≤ C (i + k) ∧ C (i + k) ≤ 90) (hp : post (tb_tI (tb_kw (tb_wd C i l)))) : ∀ d j, j + d = l → wX_wordOf_31 post (nI i) (nI l) f_gosubDepth f_forDepth f_outCap f_sourceLength f_compiled f_errorLine f_tokenCount f_tokenAt f_heldCount f_lineTotal f_codeLength f_dividedByZero f_status f_stopLine f_steps f_position f_outputCount f_gosubCount f_frameCount (tb_S C) a_tokens a_held a_programOrder a_lineNumber a_lineKeyword a_lineVariable a_lineRelation a_code a_codeStart a_codeEnd a_operands a_variables a_output a_returnTo a_frameVariable a_frameLimit a_frameBody (d + 1) (nI (tb_pk 32 (tb_wd C i j))) (nI j)
  | 0, j, hj => pk_le l j (fun _ => by
      have : j = l := by omega
      subst this
      exact xx_kw (tb_wd_in C i j hd) (by rw [tb_wd_len]; exact h6) hp) (fun h => absurd h (by omega))
  | d + 1, j, hj => pk_le l j (fun h => absurd h (by omega)) (fun h => ⟨pk_in (i + j) 256 (by omega) (nI_add i j), by
      have dj := hd j (by omega)
      have b : tb_pk 32 (tb_wd C i j) < 33554432 := by
        have a := tb_pk_lt 32 (by omega) _ (tb_wd_in C i j (fun k hk => hd k (by omega)))
        rw [tb_wd_len] at a
        have b : 32 ^ j ≤ 32 ^ 5 := Nat.pow_le_pow_right (by omega) (by omega)
        have c : (32 : Nat) ^ 5 = 33554432 := by decide
        omega
      refine nm_r ?_ (nm_r (nI_1 j) (xx_word hC hl h6 hd hp d (j + 1) (by omega)))
      rw [tb_rdx (i + j) (nI_add i j) (by omega), tb_pack b dj]
      rfl⟩)
theorem xx_symof {post : Int32 → Prop} {i : Nat} (hC : ∀ j, C j < 127) (he : e ≤ 256) (hi : i < e) (hp : post (tb_tI (tb_st (C i) (tb_nx C i e)))) : wpX_symbolOf post (f_gosubDepth, f_forDepth, f_outCap, f_sourceLength, f_compiled, f_errorLine, f_tokenCount, f_tokenAt, f_heldCount, f_lineTotal, f_codeLength, f_dividedByZero, f_status, f_stopLine, f_steps, f_position, f_outputCount, f_gosubCount, f_frameCount, tb_S C, a_tokens, a_held, a_programOrder, a_lineNumber, a_lineKeyword, a_lineVariable, a_lineRelation, a_code, a_codeStart, a_codeEnd, a_operands, a_variables, a_output, a_returnTo, a_frameVariable, a_frameLimit, a_frameBody) (nI i) (nI (tb_sl (C i) (tb_nx C i e))) := by
  have b0 := hC i
  have b1 := hC (i + 1)
  refine ⟨vp_in_nI (by omega) (by omega), nm_r (tb_rd (by omega)) ?_⟩
  by_cases h : tb_sl (C i) (tb_nx C i e) = 2
  · have hh := h
    unfold tb_sl at hh
    have hs : (C i = 60 ∧ (tb_nx C i e = 61 ∨ tb_nx C i e = 62)) ∨ (C i = 62 ∧ tb_nx C i e = 61) := by
      rcases Classical.em ((C i = 60 ∧ (tb_nx C i e = 61 ∨ tb_nx C i e = 62)) ∨ (C i = 62 ∧ tb_nx C i e = 61)) with z | z
      · exact z
      · rw [if_neg z] at hh; omega
    have hlt : i + 1 < e := by
      rcases Nat.lt_or_ge (i + 1) e with z | z
      · exact z
      · have nx : tb_nx C i e = 0 := if_neg (by omega)
        omega
    have nx : tb_nx C i e = C (i + 1) := if_pos hlt
    rw [nx] at hs hp
    rw [h]
    refine br_t rfl ?_
    rcases hs with ⟨z, z2 | z2⟩ | ⟨z, z2⟩
    · rw [z, z2] at hp
      rw [z]
      exact br_f (by decide) ⟨pk_in (i + 1) 256 (by omega) (nI_1 i), by rw [tb_rdx (i + 1) (nI_1 i) (by omega), z2]; exact br_t rfl hp⟩
    · rw [z, z2] at hp
      rw [z]
      exact br_f (by decide) ⟨pk_in (i + 1) 256 (by omega) (nI_1 i), by rw [tb_rdx (i + 1) (nI_1 i) (by omega), z2]; exact br_f (by decide) hp⟩
    · rw [z, z2] at hp
      rw [z]
      exact br_t rfl hp
  · have h1 : tb_sl (C i) (tb_nx C i e) = 1 := by
      unfold tb_sl at h ⊢
      split
      · next z => rw [if_pos z] at h; omega
      · rfl
    rw [h1]
    rw [tb_st1 h1] at hp
    refine br_f (by decide) ?_
    generalize C i = c at hp b0
    have no : (c ≠ 43 ∧ c ≠ 45 ∧ c ≠ 42 ∧ c ≠ 47 ∧ c ≠ 40 ∧ c ≠ 41 ∧ c ≠ 61 ∧ c ≠ 60 ∧ c ≠ 62) → post (-1) := fun z => by rw [tb_s1_no z, tb_tI_b] at hp; exact hp
    have cs : ∀ k, c = k → post (tb_tI (tb_s1 k)) := fun k hk => by rw [← hk]; exact hp
    refine pk_lt c 40 (fun z => no (by omega)) (fun z0 => pk_lt 62 c (fun z => no (by omega)) (fun z1 => ?_))
    refine pk_eq c 40 (fun z => cs 40 z) (fun n40 => ?_)
    refine pk_eq c 41 (fun z => cs 41 z) (fun n41 => ?_)
    refine pk_eq c 42 (fun z => cs 42 z) (fun n42 => ?_)
    refine pk_eq c 43 (fun z => cs 43 z) (fun n43 => ?_)
    refine pk_eq c 44 (fun z => no (by omega)) (fun n44 => ?_)
    refine pk_eq c 45 (fun z => cs 45 z) (fun n45 => ?_)
    refine pk_eq c 46 (fun z => no (by omega)) (fun n46 => ?_)
    refine pk_eq c 47 (fun z => cs 47 z) (fun n47 => ?_)
    refine pk_eq c 48 (fun z => no (by omega)) (fun n48 => ?_)
    refine pk_eq c 49 (fun z => no (by omega)) (fun n49 => ?_)
    refine pk_eq c 50 (fun z => no (by omega)) (fun n50 => ?_)
    refine pk_eq c 51 (fun z => no (by omega)) (fun n51 => ?_)
    refine pk_eq c 52 (fun z => no (by omega)) (fun n52 => ?_)
    refine pk_eq c 53 (fun z => no (by omega)) (fun n53 => ?_)
    refine pk_eq c 54 (fun z => no (by omega)) (fun n54 => ?_)
    refine pk_eq c 55 (fun z => no (by omega)) (fun n55 => ?_)
    refine pk_eq c 56 (fun z => no (by omega)) (fun n56 => ?_)
    refine pk_eq c 57 (fun z => no (by omega)) (fun n57 => ?_)
    refine pk_eq c 58 (fun z => no (by omega)) (fun n58 => ?_)
    refine pk_eq c 59 (fun z => no (by omega)) (fun n59 => ?_)
    refine pk_eq c 60 (fun z => cs 60 z) (fun n60 => ?_)
    refine pk_eq c 61 (fun z => cs 61 z) (fun n61 => ?_)
    refine pk_eq c 62 (fun z => cs 62 z) (fun n62 => ?_)
    exact trivial
theorem xx_tokof {post : Int32 → Prop} {i : Nat} (hC : ∀ j, C j < 127) (he : e ≤ 256) (hi : i < e) (hp : post (tb_tI (tb_tk C i e))) : wpX_tokenOf post (f_gosubDepth, f_forDepth, f_outCap, f_sourceLength, f_compiled, f_errorLine, f_tokenCount, f_tokenAt, f_heldCount, f_lineTotal, f_codeLength, f_dividedByZero, f_status, f_stopLine, f_steps, f_position, f_outputCount, f_gosubCount, f_frameCount, tb_S C, a_tokens, a_held, a_programOrder, a_lineNumber, a_lineKeyword, a_lineVariable, a_lineRelation, a_code, a_codeStart, a_codeEnd, a_operands, a_variables, a_output, a_returnTo, a_frameVariable, a_frameLimit, a_frameBody) (nI i) (nI (tb_te C i e - i)) := by
  unfold tb_tk at hp
  unfold tb_te
  have v : vp_in (nI i) 256 := vp_in_nI (by omega) (by omega)
  refine ⟨v, xx_dig (C i) (tb_rd (by omega)) (hC i) (fun z => br_f tb_10 ?_) (fun z => br_t rfl ⟨v, xx_let (C i) (tb_rd (by omega)) (hC i) (fun y => br_f tb_10 ?_) (fun y => br_t rfl ?_)⟩)⟩
  · rw [if_pos z] at hp
    rw [if_pos z]
    have g1 := tb_rn_ge 48 57 C (e - i) i
    have g2 := tb_rn_le 48 57 C (e - i) i
    exact ⟨_, xx_num hC (by omega) (fun k hk => tb_rn_in 48 57 C (e - i) i (i + k) (by omega) (by omega)) hp _ 0 (Nat.zero_add _) (Nat.zero_le _)⟩
  · rw [if_neg z, if_pos y] at hp
    rw [if_neg z, if_pos y]
    have g1 := tb_rn_ge 65 90 C (e - i) i
    have g2 := tb_rn_le 65 90 C (e - i) i
    refine pk_eq (tb_rn 65 90 C (e - i) i - i) 1 (fun h => ⟨v, ?_⟩) (fun h => pk_le (tb_rn 65 90 C (e - i) i - i) 6 (fun h6 => ?_) (fun h6 => ?_))
    · rw [if_pos h, tb_tI_n (by have := hC i; omega)] at hp
      rw [tb_rd (by omega)]
      show post (nI 40000 + nI (C i) - nI 65)
      rw [nI_add, pk_sub (by omega)]
      rw [show 40000 + C i - 65 = 40000 + (C i - 65) from by omega]
      exact hp
    · rw [if_neg h, if_neg (by omega)] at hp
      exact ⟨_, xx_word hC (by omega) h6 (fun k hk => tb_rn_in 65 90 C (e - i) i (i + k) (by omega) (by omega)) hp _ 0 (Nat.zero_add _)⟩
    · rw [if_neg h, if_pos h6, tb_tI_b] at hp
      exact hp
  · rw [if_neg z, if_neg y] at hp
    rw [if_neg z, if_neg y, Nat.add_sub_cancel_left]
    exact xx_symof hC he hi hp
end
