/-! ===== the class's expressions ===== -/
section
variable {T : Nat → Nat} {n d i : Nat} {h c : List Nat}
theorem tb_xp_te (a : n ≤ i) : tb_xp T n (d + 1) i true h c = none := if_pos a
theorem tb_xp_to (a : ¬ n ≤ i) (b : T i ≤ 32767 ∨ (40000 ≤ T i ∧ T i < 40026)) : tb_xp T n (d + 1) i true h c = tb_xp T n d (i + 1) false h (c ++ [T i]) := by
  show (if n ≤ i then _ else _) = _
  rw [if_neg a, if_pos b]
theorem tb_xp_tm (a : ¬ n ≤ i) (b : T i = 40202) : tb_xp T n (d + 1) i true h c = tb_xp T n d (i + 1) true (40205 :: h) c := by
  show (if n ≤ i then _ else _) = _
  rw [if_neg a, if_neg (by omega), if_pos b]
theorem tb_xp_tp (a : ¬ n ≤ i) (b : T i = 40206) : tb_xp T n (d + 1) i true h c = tb_xp T n d (i + 1) true (40206 :: h) c := by
  show (if n ≤ i then _ else _) = _
  rw [if_neg a, if_neg (by omega), if_neg (by omega), if_pos b]
theorem tb_xp_tn (a : ¬ n ≤ i) (b : ¬ (T i ≤ 32767 ∨ (40000 ≤ T i ∧ T i < 40026))) (b2 : T i ≠ 40202) (b3 : T i ≠ 40206) : tb_xp T n (d + 1) i true h c = none := by
  show (if n ≤ i then _ else _) = _
  rw [if_neg a, if_neg b, if_neg b2, if_neg b3]
theorem tb_xp_fe (a : n ≤ i ∨ (¬ 0 < tb_rk (T i) ∧ T i ≠ 40207)) : tb_xp T n (d + 1) i false h c = if tb_rr 1 h = [] then some (i, c ++ tb_rp 1 h) else none := by
  show (if n ≤ i then _ else _) = _
  by_cases z : n ≤ i
  · rw [if_pos z]
  · rw [if_neg z, if_neg (by omega), if_neg (by omega)]
theorem tb_xp_fo (a : ¬ n ≤ i) (b : 0 < tb_rk (T i)) : tb_xp T n (d + 1) i false h c = tb_xp T n d (i + 1) true (T i :: tb_rr (tb_rk (T i)) h) (c ++ tb_rp (tb_rk (T i)) h) := by
  show (if n ≤ i then _ else _) = _
  rw [if_neg a, if_pos b]
theorem tb_xp_fc (a : ¬ n ≤ i) (b : T i = 40207) : tb_xp T n (d + 1) i false h c = if tb_rr 1 h = [] then none else tb_xp T n d (i + 1) false (tb_rr 1 h).tail (c ++ tb_rp 1 h) := by
  have k : ¬ 0 < tb_rk (T i) := fun z => by rw [tb_rk_pos] at z; omega
  show (if n ≤ i then _ else _) = _
  rw [if_neg a, if_neg k, if_pos b]
end
theorem tb_m1 (x : Int32) : x + (-1) = x - 1 := (Int32.sub_eq_add_neg x 1).symm
theorem tb_sk_hd {a : Nat → Int32} {t : Nat} {h : List Nat} (s : tb_sk a ((t :: h).map nI)) : a h.length = nI t := by
  have := s.1
  rw [List.length_map] at this
  exact this
theorem tb_sk_tl {a : Nat → Int32} {t : Nat} {h : List Nat} (s : tb_sk a ((t :: h).map nI)) : tb_sk a (h.map nI) := s.2
theorem tb_sk_rr {a : Nat → Int32} (r : Nat) : ∀ {h : List Nat}, tb_sk a (h.map nI) → tb_sk a ((tb_rr r h).map nI)
  | [], s => s
  | t :: h, s => by
    unfold tb_rr
    split
    · exact tb_sk_rr r (tb_sk_tl s)
    · exact s
theorem tb_sk_tail {a : Nat → Int32} {h : List Nat} (s : tb_sk a (h.map nI)) : tb_sk a (h.tail.map nI) := by
  cases h with
  | nil => exact s
  | cons t h => exact tb_sk_tl s
theorem tb_sk_ph {a : Nat → Int32} {h : List Nat} (t : Nat) (s : tb_sk a (h.map nI)) : tb_sk (upd a h.length (nI t)) ((t :: h).map nI) := by
  have := tb_sk_push (x := nI t) s
  rw [List.length_map] at this
  exact this
theorem xx_rank {post : Int32 → Prop} {x : Int32} (t : Nat) (hx : x = nI t) (ht : t < 2 ^ 31) (hp : post (nI (tb_rk t))) : wpX_rankOf post () x := by
  subst hx
  have A : ∀ r, tb_rk t = r → post (nI r) := fun r e => by rw [← e]; exact hp
  refine pk_lt t 40201 (fun z => A 0 ?_) (fun z1 => pk_lt 40205 t (fun z => A 0 ?_) (fun z2 => pk_eq t 40201 (fun z => A 1 ?_) (fun n1 => pk_eq t 40202 (fun z => A 1 ?_) (fun n2 => pk_eq t 40203 (fun z => A 2 ?_) (fun n3 => pk_eq t 40204 (fun z => A 2 ?_) (fun n4 => pk_eq t 40205 (fun z => A 3 ?_) (fun n5 => trivial)))))))
  all_goals
    unfold tb_rk
    repeat' split
    all_goals omega
theorem xx_isnum {post : Int32 → Prop} (t : Nat) (ht : t < 2 ^ 31) (h1 : t ≤ 32767 → post 1) (h0 : 32767 < t → post 0) : wpX_isNumber post () (nI t) :=
  br_f (nI_pos ht) (pk_lt 32767 t h0 h1)
theorem xx_isvar {post : Int32 → Prop} (t : Nat) (ht : t < 2 ^ 31) (h1 : 40000 ≤ t ∧ t < 40026 → post 1) (h0 : ¬ (40000 ≤ t ∧ t < 40026) → post 0) : wpX_isVariable post () (nI t) :=
  pk_lt t 40000 (fun z => h0 (by omega)) (fun z1 => pk_le 40026 t (fun z => h0 (by omega)) (fun z2 => h1 (by omega)))
section
variable {f_gosubDepth f_forDepth f_outCap f_sourceLength f_compiled f_errorLine f_tokenCount f_tokenAt f_heldCount f_lineTotal f_codeLength f_dividedByZero f_status f_stopLine f_steps f_position f_outputCount f_gosubCount f_frameCount : Int32} {a_source a_tokens a_held a_programOrder a_lineNumber a_lineKeyword a_lineVariable a_lineRelation a_code a_codeStart a_codeEnd a_operands a_variables a_output a_returnTo a_frameVariable a_frameLimit a_frameBody : Nat → Int32}
theorem xx_emit {post : St2 → Prop} {t : Int32} {cl : Nat} (h : cl < 256) (hp : post (f_gosubDepth, f_forDepth, f_outCap, f_sourceLength, f_compiled, f_errorLine, f_tokenCount, f_tokenAt, f_heldCount, f_lineTotal, nI (cl + 1), f_dividedByZero, f_status, f_stopLine, f_steps, f_position, f_outputCount, f_gosubCount, f_frameCount, a_source, a_tokens, a_held, a_programOrder, a_lineNumber, a_lineKeyword, a_lineVariable, a_lineRelation, upd a_code cl t, a_codeStart, a_codeEnd, a_operands, a_variables, a_output, a_returnTo, a_frameVariable, a_frameLimit, a_frameBody)) : wpX_emit post (f_gosubDepth, f_forDepth, f_outCap, f_sourceLength, f_compiled, f_errorLine, f_tokenCount, f_tokenAt, f_heldCount, f_lineTotal, nI cl, f_dividedByZero, f_status, f_stopLine, f_steps, f_position, f_outputCount, f_gosubCount, f_frameCount, a_source, a_tokens, a_held, a_programOrder, a_lineNumber, a_lineKeyword, a_lineVariable, a_lineRelation, a_code, a_codeStart, a_codeEnd, a_operands, a_variables, a_output, a_returnTo, a_frameVariable, a_frameLimit, a_frameBody) t :=
  pk_le 256 cl (fun z => absurd z (by omega)) (fun _ => ⟨vp_in_nI h (by omega), nm_r (by rw [nI_clamp (by omega)]) (nm_r (nI_1 cl) hp)⟩)
theorem xx_hold {post : St2 → Prop} {t : Int32} {k : Nat} (h : k < 40) (hp : post (f_gosubDepth, f_forDepth, f_outCap, f_sourceLength, f_compiled, f_errorLine, f_tokenCount, f_tokenAt, nI (k + 1), f_lineTotal, f_codeLength, f_dividedByZero, f_status, f_stopLine, f_steps, f_position, f_outputCount, f_gosubCount, f_frameCount, a_source, a_tokens, upd a_held k t, a_programOrder, a_lineNumber, a_lineKeyword, a_lineVariable, a_lineRelation, a_code, a_codeStart, a_codeEnd, a_operands, a_variables, a_output, a_returnTo, a_frameVariable, a_frameLimit, a_frameBody)) : wpX_hold post (f_gosubDepth, f_forDepth, f_outCap, f_sourceLength, f_compiled, f_errorLine, f_tokenCount, f_tokenAt, nI k, f_lineTotal, f_codeLength, f_dividedByZero, f_status, f_stopLine, f_steps, f_position, f_outputCount, f_gosubCount, f_frameCount, a_source, a_tokens, a_held, a_programOrder, a_lineNumber, a_lineKeyword, a_lineVariable, a_lineRelation, a_code, a_codeStart, a_codeEnd, a_operands, a_variables, a_output, a_returnTo, a_frameVariable, a_frameLimit, a_frameBody) t :=
  pk_le 40 k (fun z => absurd z (by omega)) (fun _ => ⟨vp_in_nI h (by omega), nm_r (by rw [nI_clamp (by omega)]) (nm_r (nI_1 k) hp)⟩)
theorem xx_relL {post : St2 → Prop} {r : Nat} (hr : r ≤ 3) : ∀ (h : List Nat) (cl : Nat) (a_code : Nat → Int32), tb_hk h → tb_sk a_held (h.map nI) → h.length ≤ 40 → cl + h.length ≤ 256 →
    (∀ cd, (∀ j, j < cl → cd j = a_code j) → tb_sg cd cl ((tb_rp r h).map nI) → post (f_gosubDepth, f_forDepth, f_outCap, f_sourceLength, f_compiled, f_errorLine, f_tokenCount, f_tokenAt, nI (tb_rr r h).length, f_lineTotal, nI (cl + (tb_rp r h).length), f_dividedByZero, f_status, f_stopLine, f_steps, f_position, f_outputCount, f_gosubCount, f_frameCount, a_source, a_tokens, a_held, a_programOrder, a_lineNumber, a_lineKeyword, a_lineVariable, a_lineRelation, cd, a_codeStart, a_codeEnd, a_operands, a_variables, a_output, a_returnTo, a_frameVariable, a_frameLimit, a_frameBody)) →
    wX_release_7 post (nI r) (h.length + 1) (nI h.length - 1) f_gosubDepth f_forDepth f_outCap f_sourceLength f_compiled f_errorLine f_tokenCount f_tokenAt (nI h.length) f_lineTotal (nI cl) f_dividedByZero f_status f_stopLine f_steps f_position f_outputCount f_gosubCount f_frameCount a_source a_tokens a_held a_programOrder a_lineNumber a_lineKeyword a_lineVariable a_lineRelation a_code a_codeStart a_codeEnd a_operands a_variables a_output a_returnTo a_frameVariable a_frameLimit a_frameBody
  | [], cl, a_code, hk, hs, h1, h2, K => br_t (by decide) (K a_code (fun _ _ => rfl) trivial)
  | t :: h, cl, a_code, hk, hs, h1, h2, K => by
    have k1 := tb_hk_h hk
    have hd := tb_sk_hd hs
    simp only [List.length_cons] at h1 h2
    have rd : a_held (nI h.length).toNatClampNeg = nI t := by rw [nI_clamp (by omega)]; exact hd
    have b3 := tb_rk_le t
    show wX_release_7 post (nI r) (h.length + 1 + 1) (nI (h.length + 1) - 1) f_gosubDepth f_forDepth f_outCap f_sourceLength f_compiled f_errorLine f_tokenCount f_tokenAt (nI (h.length + 1)) f_lineTotal (nI cl) f_dividedByZero f_status f_stopLine f_steps f_position f_outputCount f_gosubCount f_frameCount a_source a_tokens a_held a_programOrder a_lineNumber a_lineKeyword a_lineVariable a_lineRelation a_code a_codeStart a_codeEnd a_operands a_variables a_output a_returnTo a_frameVariable a_frameLimit a_frameBody
    rw [nI_pred]
    refine br_f (nI_pos (by omega)) ⟨vp_in_nI (by omega) (by omega), xx_rank t rd (by omega) (pk_lt (tb_rk t) r (fun z => ?_) (fun z => ⟨vp_in_nI (by omega) (by omega), ?_⟩))⟩
    · have w := K a_code (fun _ _ => rfl) (by unfold tb_rp; rw [if_neg (by omega)]; trivial)
      unfold tb_rp tb_rr at w
      rw [if_neg (by omega), if_neg (by omega)] at w
      exact w
    · rw [rd]
      refine xx_emit (by omega) (nm_r (tb_m1 (nI h.length)) ?_)
      refine xx_relL hr h (cl + 1) (upd a_code cl (nI t)) (tb_hk_t hk) (tb_sk_tl hs) (by omega) (by omega) (fun cd c1 c2 => ?_)
      have w := K cd (fun j hj => (c1 j (by omega)).trans (pk_un (by omega))) (by unfold tb_rp; rw [if_pos z]; exact ⟨(c1 cl (by omega)).trans pk_us, c2⟩)
      unfold tb_rp tb_rr at w
      rw [if_pos z, if_pos z] at w
      simp only [List.length_cons] at w
      rw [show cl + ((tb_rp r h).length + 1) = cl + 1 + (tb_rp r h).length from by omega] at w
      exact w
theorem xx_rel {post : St2 → Prop} {r : Nat} {h : List Nat} {cl : Nat} (hr : r ≤ 3) (hk : tb_hk h) (hs : tb_sk a_held (h.map nI)) (h1 : h.length ≤ 40) (h2 : cl + h.length ≤ 256)
    (K : ∀ cd, (∀ j, j < cl → cd j = a_code j) → tb_sg cd cl ((tb_rp r h).map nI) → post (f_gosubDepth, f_forDepth, f_outCap, f_sourceLength, f_compiled, f_errorLine, f_tokenCount, f_tokenAt, nI (tb_rr r h).length, f_lineTotal, nI (cl + (tb_rp r h).length), f_dividedByZero, f_status, f_stopLine, f_steps, f_position, f_outputCount, f_gosubCount, f_frameCount, a_source, a_tokens, a_held, a_programOrder, a_lineNumber, a_lineKeyword, a_lineVariable, a_lineRelation, cd, a_codeStart, a_codeEnd, a_operands, a_variables, a_output, a_returnTo, a_frameVariable, a_frameLimit, a_frameBody)) :
    wpX_release post (f_gosubDepth, f_forDepth, f_outCap, f_sourceLength, f_compiled, f_errorLine, f_tokenCount, f_tokenAt, nI h.length, f_lineTotal, nI cl, f_dividedByZero, f_status, f_stopLine, f_steps, f_position, f_outputCount, f_gosubCount, f_frameCount, a_source, a_tokens, a_held, a_programOrder, a_lineNumber, a_lineKeyword, a_lineVariable, a_lineRelation, a_code, a_codeStart, a_codeEnd, a_operands, a_variables, a_output, a_returnTo, a_frameVariable, a_frameLimit, a_frameBody) (nI r) :=
  nm_e ⟨h.length + 1, xx_relL hr h cl a_code hk hs h1 h2 K⟩
/-- code behind code -/
theorem tb_sg_more {a b : Nat → Int32} {c0 : Nat} {c r : List Nat} (h : tb_sg a c0 (c.map nI)) (k : ∀ j, j < c0 + c.length → b j = a j) (g : tb_sg b (c0 + c.length) (r.map nI)) : tb_sg b c0 ((c ++ r).map nI) := by
  rw [List.map_append]
  refine tb_sg_app (tb_sg_lo h (fun j _ z => k j (by rw [List.length_map] at z; exact z))) (by rw [List.length_map]; exact g)
theorem xx_181 {post : Int32 → St2 → Prop} {k : Nat} {b : Bool} {i c0 : Nat} {h c : List Nat} {cd0 : Nat → Int32} (hk48 : k < 48) (hk : tb_hk h) (hs : tb_sk a_held (h.map nI)) (h1 : h.length ≤ 40) (h2 : c0 + c.length + h.length ≤ 256)
    (hg : tb_sg a_code c0 (c.map nI)) (h0 : ∀ j, j < c0 → a_code j = cd0 j)
    (hN : ¬ (b = false ∧ tb_rr 1 h = []) → ∀ hc cl ta hd cd ce, post 0 (f_gosubDepth, f_forDepth, f_outCap, f_sourceLength, f_compiled, f_errorLine, f_tokenCount, ta, hc, f_lineTotal, cl, f_dividedByZero, f_status, f_stopLine, f_steps, f_position, f_outputCount, f_gosubCount, f_frameCount, a_source, a_tokens, hd, a_programOrder, a_lineNumber, a_lineKeyword, a_lineVariable, a_lineRelation, cd, a_codeStart, ce, a_operands, a_variables, a_output, a_returnTo, a_frameVariable, a_frameLimit, a_frameBody))
    (hS : b = false → tb_rr 1 h = [] → ∀ hd cd, (∀ j, j < c0 → cd j = cd0 j) → tb_sg cd c0 ((c ++ tb_rp 1 h).map nI) → post 1 (f_gosubDepth, f_forDepth, f_outCap, f_sourceLength, f_compiled, f_errorLine, f_tokenCount, nI i, 0, f_lineTotal, nI (c0 + (c ++ tb_rp 1 h).length), f_dividedByZero, f_status, f_stopLine, f_steps, f_position, f_outputCount, f_gosubCount, f_frameCount, a_source, a_tokens, hd, a_programOrder, a_lineNumber, a_lineKeyword, a_lineVariable, a_lineRelation, cd, a_codeStart, upd a_codeEnd k (nI (c0 + (c ++ tb_rp 1 h).length)), a_operands, a_variables, a_output, a_returnTo, a_frameVariable, a_frameLimit, a_frameBody)) :
    wX_takeExpression_181 post (nI k) (if b = true then 1 else 0) (nI i) f_gosubDepth f_forDepth f_outCap f_sourceLength f_compiled f_errorLine f_tokenCount f_tokenAt (nI h.length) f_lineTotal (nI (c0 + c.length)) f_dividedByZero f_status f_stopLine f_steps f_position f_outputCount f_gosubCount f_frameCount a_source a_tokens a_held a_programOrder a_lineNumber a_lineKeyword a_lineVariable a_lineRelation a_code a_codeStart a_codeEnd a_operands a_variables a_output a_returnTo a_frameVariable a_frameLimit a_frameBody := by
  refine xx_rel (r := 1) (by omega) hk hs h1 h2 (fun cd c1 c2 => ⟨vp_in_nI hk48 (by omega), nm_e ?_⟩)
  cases b with
  | true => exact br_f tb_10 (hN (fun z => by cases z.1) _ _ _ _ _ _)
  | false =>
    refine br_t rfl ?_
    by_cases z : tb_rr 1 h = []
    · rw [z]
      have w := hS rfl z a_held cd (fun j hj => (c1 j (by omega)).trans (h0 j hj)) (tb_sg_more hg c1 c2)
      rw [List.length_append, ← Nat.add_assoc] at w
      rw [nI_clamp (by omega)]
      exact br_t rfl w
    · have len : 0 < (tb_rr 1 h).length := List.length_pos_iff.mpr z
      have q := tb_rpr 1 h
      exact br_f (nI_ne0 len (by omega)) (hN (fun y => z y.2) _ _ _ _ _ _)
end
