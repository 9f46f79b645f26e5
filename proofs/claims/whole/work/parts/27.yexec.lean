/-! ===== the reference's statements, run ===== -/
theorem tb_bi_f : tb_bi false = 0 := rfl
theorem tb_bi_t : tb_bi true = 1 := rfl
section
variable {g_len g_nLines g_compiled g_errLine g_gosubDepth g_forDepth g_outCap g_nt g_vn g_on g_divErr g_status g_stopLine g_steps g_pos g_outN g_gsp g_fsp : Int32} {b_src b_lnStart b_lnEnd b_lnNum b_tk b_tv b_vs b_os b_vars b_out b_gStack b_fVar b_fLim b_fBody : Nat → Int32}
theorem yy_getVar {post : Int32 → Prop} {x : Int32} {w : Nat} (hx : x = nI w) (hw : w < 26) (hp : post (b_vars w)) : wpY_getVar post (g_len, g_nLines, g_compiled, g_errLine, g_gosubDepth, g_forDepth, g_outCap, g_nt, g_vn, g_on, g_divErr, g_status, g_stopLine, g_steps, g_pos, g_outN, g_gsp, g_fsp, b_src, b_lnStart, b_lnEnd, b_lnNum, b_tk, b_tv, b_vs, b_os, b_vars, b_out, b_gStack, b_fVar, b_fLim, b_fBody) x := by
  subst hx
  exact br_f (nI_pos (by omega)) (pk_lt w 26 (fun _ => ⟨vp_in_nI hw (by omega), by rw [nI_clamp (by omega)]; exact hp⟩) (fun z => absurd z (by omega)))
theorem yy_setVar {post : SY → Prop} {x v : Int32} {w : Nat} (hx : x = nI w) (hw : w < 26) (hp : post (g_len, g_nLines, g_compiled, g_errLine, g_gosubDepth, g_forDepth, g_outCap, g_nt, g_vn, g_on, g_divErr, g_status, g_stopLine, g_steps, g_pos, g_outN, g_gsp, g_fsp, b_src, b_lnStart, b_lnEnd, b_lnNum, b_tk, b_tv, b_vs, b_os, upd b_vars w v, b_out, b_gStack, b_fVar, b_fLim, b_fBody)) : wpY_setVar post (g_len, g_nLines, g_compiled, g_errLine, g_gosubDepth, g_forDepth, g_outCap, g_nt, g_vn, g_on, g_divErr, g_status, g_stopLine, g_steps, g_pos, g_outN, g_gsp, g_fsp, b_src, b_lnStart, b_lnEnd, b_lnNum, b_tk, b_tv, b_vs, b_os, b_vars, b_out, b_gStack, b_fVar, b_fLim, b_fBody) x v := by
  subst hx
  exact br_f (nI_pos (by omega)) (pk_le 26 w (fun z => absurd z (by omega)) (fun _ => ⟨vp_in_nI hw (by omega), nm_r (e' := upd b_vars w v) (by rw [nI_clamp (by omega)]) hp⟩))
theorem yy_holds1 {post : Int32 → Prop} {t k : Nat} {a b : Int32} (ht : tb_ir t) (hk : tb_kf t = k) (h : tb_hd t a b) (hp : post 1) : wpY_holds post (g_len, g_nLines, g_compiled, g_errLine, g_gosubDepth, g_forDepth, g_outCap, g_nt, g_vn, g_on, g_divErr, g_status, g_stopLine, g_steps, g_pos, g_outN, g_gsp, g_fsp, b_src, b_lnStart, b_lnEnd, b_lnNum, b_tk, b_tv, b_vs, b_os, b_vars, b_out, b_gStack, b_fVar, b_fLim, b_fBody) a (nI k) b := by
  subst hk
  unfold tb_ir at ht
  have : t = 40208 ∨ t = 40209 ∨ t = 40210 ∨ t = 40211 ∨ t = 40212 ∨ t = 40213 := by omega
  rcases this with rfl | rfl | rfl | rfl | rfl | rfl
  · exact br_t rfl (br_t h hp)
  · exact br_f (by decide) (br_t rfl (br_f h hp))
  · exact br_f (by decide) (br_f (by decide) (br_t rfl (br_f h hp)))
  · exact br_f (by decide) (br_f (by decide) (br_f (by decide) (br_t rfl (br_f h hp))))
  · exact br_f (by decide) (br_f (by decide) (br_f (by decide) (br_f (by decide) (br_t rfl (br_f h hp)))))
  · exact br_f (by decide) (br_f (by decide) (br_f (by decide) (br_f (by decide) (br_f (by decide) (br_f h hp)))))
theorem yy_holds0 {post : Int32 → Prop} {t k : Nat} {a b : Int32} (ht : tb_ir t) (hk : tb_kf t = k) (h : ¬ tb_hd t a b) (hp : post 0) : wpY_holds post (g_len, g_nLines, g_compiled, g_errLine, g_gosubDepth, g_forDepth, g_outCap, g_nt, g_vn, g_on, g_divErr, g_status, g_stopLine, g_steps, g_pos, g_outN, g_gsp, g_fsp, b_src, b_lnStart, b_lnEnd, b_lnNum, b_tk, b_tv, b_vs, b_os, b_vars, b_out, b_gStack, b_fVar, b_fLim, b_fBody) a (nI k) b := by
  subst hk
  unfold tb_ir at ht
  have : t = 40208 ∨ t = 40209 ∨ t = 40210 ∨ t = 40211 ∨ t = 40212 ∨ t = 40213 := by omega
  rcases this with rfl | rfl | rfl | rfl | rfl | rfl
  · exact br_t rfl (br_f h hp)
  · exact br_f (by decide) (br_t rfl (br_t (Classical.not_not.mp h) hp))
  · exact br_f (by decide) (br_f (by decide) (br_t rfl (br_t (Classical.not_not.mp h) hp)))
  · exact br_f (by decide) (br_f (by decide) (br_f (by decide) (br_t rfl (br_t (Classical.not_not.mp h) hp))))
  · exact br_f (by decide) (br_f (by decide) (br_f (by decide) (br_f (by decide) (br_t rfl (br_t (Classical.not_not.mp h) hp)))))
  · exact br_f (by decide) (br_f (by decide) (br_f (by decide) (br_f (by decide) (br_f (by decide) (br_t (Classical.not_not.mp h) hp)))))
theorem yy_tokk {post : Int32 → Prop} {L : List Nat} {i k : Nat} {x : Int32} (hx : x = nI i) (hk : tb_kt L i = k) (hL : L.length ≤ 40) (hi : i < 1000) (htk : tb_sg b_tk 0 (L.map (fun t => nI (tb_kf t)))) (hp : post (nI k)) : wpY_tok post (g_len, g_nLines, g_compiled, g_errLine, g_gosubDepth, g_forDepth, g_outCap, nI L.length, g_vn, g_on, g_divErr, g_status, g_stopLine, g_steps, g_pos, g_outN, g_gsp, g_fsp, b_src, b_lnStart, b_lnEnd, b_lnNum, b_tk, b_tv, b_vs, b_os, b_vars, b_out, b_gStack, b_fVar, b_fLim, b_fBody) x := by
  subst hk
  exact yy_tok hx hL hi htk hp
theorem yy_endk {post : Int32 → Prop} {L : List Nat} {p E : Nat} {c : List Nat} {x : Int32} (hx : x = nI p) (q : tb_xe L p = some (E, c)) (hL : L.length ≤ 40) (hok : ∀ t, t ∈ L → tb_ok t) (htk : tb_sg b_tk 0 (L.map (fun t => nI (tb_kf t)))) (hp : p ≤ L.length) (K : post (nI E)) : wpY_exprEnd post (g_len, g_nLines, g_compiled, g_errLine, g_gosubDepth, g_forDepth, g_outCap, nI L.length, g_vn, g_on, g_divErr, g_status, g_stopLine, g_steps, g_pos, g_outN, g_gsp, g_fsp, b_src, b_lnStart, b_lnEnd, b_lnNum, b_tk, b_tv, b_vs, b_os, b_vars, b_out, b_gStack, b_fVar, b_fLim, b_fBody) x := by
  refine yy_end hx hL hok htk hp (fun e c' y _ _ => ?_) (fun y => by rw [q] at y; cases y)
  rw [q] at y
  have := congrArg Prod.fst (Option.some.inj y)
  dsimp only at this
  rw [← this]
  exact K
end
section
variable {g_compiled g_errLine g_gosubDepth g_forDepth g_outCap g_nt g_vn g_on g_divErr g_status g_stopLine g_steps g_outN : Int32} {b_lnStart b_lnEnd b_lnNum b_tk b_tv b_vs b_os b_vars b_out b_gStack b_fVar b_fLim b_fBody : Nat → Int32} {C : Nat → Nat} {n nl p s e fc gc w : Nat} {O N : Nat → Nat} {po ln : Nat → Int32} {L : List Nat} {post : Int32 → SY → Prop}
/-- what both sides know of the line that runs -/
def tb_yl (C : Nat → Nat) (n nl p s e : Nat) (O N : Nat → Nat) (po ln ys ye yn : Nat → Int32) (L : List Nat) : Prop :=
  (∀ j, C j < 127) ∧ n ≤ 256 ∧ tb_ord nl O N po ln yn ∧ p < nl ∧ ys (O p) = nI s ∧ ye (O p) = nI e ∧ s ≤ e ∧ e ≤ n ∧ e ≤ s + 40 ∧ tb_tz C e 40 s = some L ∧ 2 ≤ L.length
/-- the reference's way to its statement: line found, tokens read -/
theorem yy_pre (h : tb_yl C n nl p s e O N po ln b_lnStart b_lnEnd b_lnNum L) (hgc : gc ≤ 8) (hfc : fc ≤ 8) {k : Nat} (hk : tb_kt L 1 = k) (k127 : k < 127)
    (H19 : k = 19 → w < 26 ∧ tb_T L 2 = 40000 + w)
    (K20 : k = 20 → ∀ tk tv, post 1 (nI n, nI nl, g_compiled, g_errLine, g_gosubDepth, g_forDepth, g_outCap, nI L.length, g_vn, g_on, g_divErr, 1, nI (N (O p)), g_steps + 1, nI (N (O p)), g_outN, nI gc, nI fc, tb_S C, b_lnStart, b_lnEnd, b_lnNum, tk, tv, b_vs, b_os, b_vars, b_out, b_gStack, b_fVar, b_fLim, b_fBody))
    (K16f : k = 16 → gc = 0 → ∀ tk tv, post 1 (nI n, nI nl, g_compiled, g_errLine, g_gosubDepth, g_forDepth, g_outCap, nI L.length, g_vn, g_on, g_divErr, 4, nI (N (O p)), g_steps + 1, nI (N (O p)), g_outN, nI gc, nI fc, tb_S C, b_lnStart, b_lnEnd, b_lnNum, tk, tv, b_vs, b_os, b_vars, b_out, b_gStack, b_fVar, b_fLim, b_fBody))
    (K16 : k = 16 → ∀ j, gc = j + 1 → ∀ tk tv, post 0 (nI n, nI nl, g_compiled, g_errLine, g_gosubDepth, g_forDepth, g_outCap, nI L.length, g_vn, g_on, g_divErr, g_status, g_stopLine, g_steps + 1, b_gStack j, g_outN, nI j, nI fc, tb_S C, b_lnStart, b_lnEnd, b_lnNum, tk, tv, b_vs, b_os, b_vars, b_out, b_gStack, b_fVar, b_fLim, b_fBody))
    (K19f : k = 19 → (∀ j, j < fc → b_fVar j ≠ nI w) → ∀ tk tv, post 1 (nI n, nI nl, g_compiled, g_errLine, g_gosubDepth, g_forDepth, g_outCap, nI L.length, g_vn, g_on, g_divErr, 5, nI (N (O p)), g_steps + 1, nI (N (O p)), g_outN, nI gc, nI fc, tb_S C, b_lnStart, b_lnEnd, b_lnNum, tk, tv, b_vs, b_os, b_vars, b_out, b_gStack, b_fVar, b_fLim, b_fBody))
    (K19g : k = 19 → ∀ j, j < fc → b_fVar j = nI w → b_fLim j < b_vars w + 1 → ∀ tk tv, post 0 (nI n, nI nl, g_compiled, g_errLine, g_gosubDepth, g_forDepth, g_outCap, nI L.length, g_vn, g_on, g_divErr, g_status, g_stopLine, g_steps + 1, tb_at nl O N (p + 1), g_outN, nI gc, nI j, tb_S C, b_lnStart, b_lnEnd, b_lnNum, tk, tv, b_vs, b_os, upd b_vars w (b_vars w + 1), b_out, b_gStack, b_fVar, b_fLim, b_fBody))
    (K19b : k = 19 → ∀ j, j < fc → b_fVar j = nI w → ¬ b_fLim j < b_vars w + 1 → ∀ tk tv, post 0 (nI n, nI nl, g_compiled, g_errLine, g_gosubDepth, g_forDepth, g_outCap, nI L.length, g_vn, g_on, g_divErr, g_status, g_stopLine, g_steps + 1, b_fBody j, g_outN, nI gc, nI (j + 1), tb_S C, b_lnStart, b_lnEnd, b_lnNum, tk, tv, b_vs, b_os, upd b_vars w (b_vars w + 1), b_out, b_gStack, b_fVar, b_fLim, b_fBody))
    (KE : k ≠ 20 → k ≠ 16 → k ≠ 19 → ∀ tk tv, tb_sg tk 0 (L.map (fun t => nI (tb_kf t))) → tb_sg tv 0 (L.map (fun t => nI (tb_vf t))) → wY_exec_244 post (nI k) (tb_at nl O N (p + 1)) (nI (if k = 10 ∨ k = 17 then 4 else 2)) (nI n) (nI nl) g_compiled g_errLine g_gosubDepth g_forDepth g_outCap (nI L.length) g_vn g_on g_divErr g_status g_stopLine (g_steps + 1) (nI (N (O p))) g_outN (nI gc) (nI fc) (tb_S C) b_lnStart b_lnEnd b_lnNum tk tv b_vs b_os b_vars b_out b_gStack b_fVar b_fLim b_fBody) :
    wpY_exec post (nI n, nI nl, g_compiled, g_errLine, g_gosubDepth, g_forDepth, g_outCap, g_nt, g_vn, g_on, g_divErr, g_status, g_stopLine, g_steps, nI (N (O p)), g_outN, nI gc, nI fc, tb_S C, b_lnStart, b_lnEnd, b_lnNum, b_tk, b_tv, b_vs, b_os, b_vars, b_out, b_gStack, b_fVar, b_fLim, b_fBody) := by
  obtain ⟨hC, hn, ho, hp, hys, hye, hse, hen, h40, hq, h2⟩ := h
  have b16 := ho.1
  have ap := ho.2.1 p hp
  have bp := ho.2.2.1 (O p) ap.2
  have ⟨hlen, _, hok⟩ := tb_tz_ok C e 40 s L hq
  have rs : b_lnStart (nI (O p)).toNatClampNeg = nI s := by rw [nI_clamp (by omega)]; exact hys
  have re : b_lnEnd (nI (O p)).toNatClampNeg = nI e := by rw [nI_clamp (by omega)]; exact hye
  have RD : ∀ {P : Int32 → SY → Prop} {x y : Int32}, x = nI s → y = nI e → (∀ tk tv, tb_sg tk 0 (L.map (fun t => nI (tb_kf t))) → tb_sg tv 0 (L.map (fun t => nI (tb_vf t))) → P (nI L.length) (nI n, nI nl, g_compiled, g_errLine, g_gosubDepth, g_forDepth, g_outCap, g_nt, g_vn, g_on, g_divErr, g_status, g_stopLine, g_steps + 1, nI (N (O p)), g_outN, nI gc, nI fc, tb_S C, b_lnStart, b_lnEnd, b_lnNum, tk, tv, b_vs, b_os, b_vars, b_out, b_gStack, b_fVar, b_fLim, b_fBody)) → wpY_tokenize P (nI n, nI nl, g_compiled, g_errLine, g_gosubDepth, g_forDepth, g_outCap, g_nt, g_vn, g_on, g_divErr, g_status, g_stopLine, g_steps + 1, nI (N (O p)), g_outN, nI gc, nI fc, tb_S C, b_lnStart, b_lnEnd, b_lnNum, b_tk, b_tv, b_vs, b_os, b_vars, b_out, b_gStack, b_fVar, b_fLim, b_fBody) x y := fun {P x y} hx hy w => by
    subst hx hy
    refine yy_read hC hen hn h40 hse (fun q => by rw [hq] at q; cases q) (fun L' q tk tv g1 g2 => ?_)
    rw [hq] at q
    cases q
    exact w tk tv g1 g2
  unfold wpY_exec
  refine yy_find ho (fun j j1 j2 => ?_) (fun q => absurd rfl (q (O p) ap.2))
  have je : j = O p := by
    obtain ⟨q, q1, q2⟩ := ho.2.2.2.2 j j1
    have bj := ho.2.2.1 j j1
    have e1 : N (O p) = N j := (nI_eq (by omega) (by omega)).mp j2
    rw [← q2] at e1 ⊢
    rw [tb_ord_inj ho hp q1 e1]
  subst je
  refine nm_e (br_t (nI_pos' (by omega)) ⟨vp_in_nI (by omega) (by omega), vp_in_nI (by omega) (by omega), ?_⟩)
  refine RD rs re (fun tk tv g1 g2 => ?_)
  refine yy_tokk (i := 1) rfl hk hlen (by omega) g1 ?_
  refine yy_after (a := N (O p)) (q := p + 1) rfl ho (by omega) (tb_aft ho hp) ?_
  refine pk_eq k 20 (fun z => K20 z tk tv) (fun n1 => pk_eq k 16 (fun z => ?_) (fun n2 => pk_eq k 19 (fun z => ?_) (fun n3 => ?_)))
  · refine pk_lt 0 gc (fun y => ?_) (fun y => ⟨rfl, K16f z (by omega) tk tv⟩)
    obtain ⟨j, rfl⟩ : ∃ j, gc = j + 1 := ⟨gc - 1, by omega⟩
    exact nm_r (nI_pred j) ⟨vp_in_nI (by omega) (by omega), nm_r (e' := b_gStack j) (by rw [nI_clamp (by omega)]) (K16 z j rfl tk tv)⟩
  · have ⟨hw, hT⟩ := H19 z
    have l2 : 2 < L.length := tb_T_in (by omega)
    have tv2 : tv 2 = nI w := by
      have := tb_sg_T (fun t => nI (tb_vf t)) g2 2 l2
      have e2 : tb_vf (L.getD 2 0) = w := by
        show tb_vf (tb_T L 2) = w
        rw [tb_vf_var (by omega)]; omega
      rw [e2] at this
      exact this
    refine nm_r tv2 (yy_frame hfc (fun j j1 j2 => br_t (nI_pos' (by omega)) (nm_r (nI_1 j) (yy_getVar rfl hw (nm_e (yy_setVar rfl hw ⟨vp_in_nI (by omega) (by omega), ?_⟩))))) (fun q => br_f (by decide) ⟨rfl, K19f z q tk tv⟩))
    rw [nI_clamp (by omega)]
    exact br_c (fun y => K19g z j j1 j2 y tk tv) (fun y => ⟨vp_in_nI (by omega) (by omega), nm_e (K19b z j j1 j2 y tk tv)⟩)
  · have w := KE n1 n2 n3 tk tv g1 g2
    refine pk_eq k 10 (fun z => ?_) (fun n4 => pk_eq k 17 (fun z => ?_) (fun n5 => ?_))
    · rw [if_pos (Or.inl z)] at w
      exact w
    · rw [if_pos (Or.inr z)] at w
      exact w
    · rw [if_neg (by omega)] at w
      exact w
end
