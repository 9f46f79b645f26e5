/-! ===== lines and frames, found ===== -/
/-- the number at place q, -1 behind the last line -/
def tb_at (nl : Nat) (O N : Nat → Nat) (q : Nat) : Int32 := if q < nl then nI (N (O q)) else -1
section
variable {g_len g_compiled g_errLine g_gosubDepth g_forDepth g_outCap g_nt g_vn g_on g_divErr g_status g_stopLine g_steps g_pos g_outN g_gsp g_fsp : Int32} {b_src b_lnStart b_lnEnd b_lnNum b_tk b_tv b_vs b_os b_vars b_out b_gStack b_fVar b_fLim b_fBody : Nat → Int32} {nl : Nat} {O N : Nat → Nat} {po ln : Nat → Int32}
theorem yy_findL {post : Int32 → Prop} {x : Int32} (ho : tb_ord nl O N po ln b_lnNum) (h1 : ∀ k, k < nl → x = nI (N k) → post (nI k)) (h0 : (∀ k, k < nl → x ≠ nI (N k)) → post (-1)) : ∀ d k, k + d = nl → (∀ q, q < k → x ≠ nI (N q)) → wY_find_2 post x g_len (nI nl) g_compiled g_errLine g_gosubDepth g_forDepth g_outCap g_nt g_vn g_on g_divErr g_status g_stopLine g_steps g_pos g_outN g_gsp g_fsp b_src b_lnStart b_lnEnd b_lnNum b_tk b_tv b_vs b_os b_vars b_out b_gStack b_fVar b_fLim b_fBody (d + 1) (nI k)
  | 0, k, hk, hq => by
    have := ho.1
    exact pk_le nl k (fun _ => h0 (fun q hq' => hq q (by omega))) (fun z => absurd z (by omega))
  | d + 1, k, hk, hq => by
    have b16 := ho.1
    have b := ho.2.2.1 k (by omega)
    have rd : b_lnNum (nI k).toNatClampNeg = nI (N k) := by rw [nI_clamp (by omega)]; exact b.2.1
    refine pk_le nl k (fun z => absurd z (by omega)) (fun _ => ⟨vp_in_nI (by omega) (by omega), ?_⟩)
    rw [rd]
    by_cases z : nI (N k) = x
    · exact br_t z (h1 k (by omega) z.symm)
    · refine br_f z (nm_r (nI_1 k) (yy_findL ho h1 h0 d (k + 1) (by omega) (fun q hq' => ?_)))
      rcases Nat.lt_or_ge q k with y | y
      · exact hq q y
      · have : q = k := by omega
        subst this
        exact fun w => z w.symm
theorem yy_find {post : Int32 → Prop} {x : Int32} (ho : tb_ord nl O N po ln b_lnNum) (h1 : ∀ k, k < nl → x = nI (N k) → post (nI k)) (h0 : (∀ k, k < nl → x ≠ nI (N k)) → post (-1)) : wpY_find post (g_len, nI nl, g_compiled, g_errLine, g_gosubDepth, g_forDepth, g_outCap, g_nt, g_vn, g_on, g_divErr, g_status, g_stopLine, g_steps, g_pos, g_outN, g_gsp, g_fsp, b_src, b_lnStart, b_lnEnd, b_lnNum, b_tk, b_tv, b_vs, b_os, b_vars, b_out, b_gStack, b_fVar, b_fLim, b_fBody) x :=
  ⟨nl + 1, yy_findL ho h1 h0 nl 0 (by omega) (fun q hq => by omega)⟩
theorem yy_afterL {post : Int32 → Prop} {a q : Nat} (ho : tb_ord nl O N po ln b_lnNum) (ha : a ≤ 32767) (hq : ∀ p, p < nl → (a < N (O p) ↔ q ≤ p)) (hp : post (tb_at nl O N q)) :
    ∀ d k best, k + d = nl → ((best = -1 ∧ ∀ j, j < k → ¬ a < N j) ∨ (∃ j, j < k ∧ best = nI (N j) ∧ a < N j ∧ ∀ i, i < k → a < N i → N j ≤ N i)) → wY_after_4 post (nI a) g_len (nI nl) g_compiled g_errLine g_gosubDepth g_forDepth g_outCap g_nt g_vn g_on g_divErr g_status g_stopLine g_steps g_pos g_outN g_gsp g_fsp b_src b_lnStart b_lnEnd b_lnNum b_tk b_tv b_vs b_os b_vars b_out b_gStack b_fVar b_fLim b_fBody (d + 1) best (nI k)
  | 0, k, best, hk, hI => by
    have b16 := ho.1
    refine pk_le nl k (fun _ => ?_) (fun z => absurd z (by omega))
    have kn : k = nl := by omega
    subst kn
    have e : best = tb_at k O N q := by
      unfold tb_at
      rcases hI with ⟨e1, e2⟩ | ⟨j, j1, j2, j3, j4⟩
      · rw [if_neg, e1]
        intro z
        exact e2 (O q) (ho.2.1 q z).2 ((hq q z).mpr (Nat.le_refl _))
      · obtain ⟨p, p1, p2⟩ := ho.2.2.2.2 j j1
        have pq : q ≤ p := (hq p p1).mp (by rw [p2]; exact j3)
        rw [if_pos (by omega), j2]
        have x1 := j4 (O q) (ho.2.1 q (by omega)).2 ((hq q (by omega)).mpr (Nat.le_refl _))
        have x2 : N (O q) ≤ N (O p) := by
          rcases Nat.lt_or_ge q p with w | w
          · exact Nat.le_of_lt (ho.2.2.2.1 q p w p1)
          · have : p = q := by omega
            rw [this]; exact Nat.le_refl _
        rw [p2] at x2
        congr 1
        omega
    rw [e]
    exact hp
  | d + 1, k, best, hk, hI => by
    have b16 := ho.1
    have b := ho.2.2.1 k (by omega)
    have rd : b_lnNum (nI k).toNatClampNeg = nI (N k) := by rw [nI_clamp (by omega)]; exact b.2.1
    have v16 : vp_in (nI k) 16 := vp_in_nI (by omega) (by omega)
    refine pk_le nl k (fun z => absurd z (by omega)) (fun _ => ⟨v16, pk_le (N k) a (fun z => nm_r (nI_1 k) ?_) (fun z => ?_) rd rfl⟩)
    · refine yy_afterL ho ha hq hp d (k + 1) best (by omega) ?_
      rcases hI with ⟨e1, e2⟩ | ⟨j, j1, j2, j3, j4⟩
      · refine Or.inl ⟨e1, fun i hi => ?_⟩
        rcases Nat.lt_or_ge i k with w | w
        · exact e2 i w
        · have : i = k := by omega
          subst this
          omega
      · refine Or.inr ⟨j, by omega, j2, j3, fun i hi w => ?_⟩
        rcases Nat.lt_or_ge i k with y | y
        · exact j4 i y w
        · have : i = k := by omega
          subst this
          omega
    · rcases hI with ⟨e1, e2⟩ | ⟨j, j1, j2, j3, j4⟩
      · subst e1
        refine br_t (by decide) ⟨v16, nm_r rd (nm_r (nI_1 k) (yy_afterL ho ha hq hp d (k + 1) _ (by omega) (Or.inr ⟨k, by omega, rfl, z, fun i hi w => ?_⟩)))⟩
        rcases Nat.lt_or_ge i k with y | y
        · exact absurd w (e2 i y)
        · have : i = k := by omega
          subst this
          exact Nat.le_refl _
      · subst j2
        have bj := ho.2.2.1 j (by omega)
        refine br_f (nI_pos (by omega)) ⟨v16, pk_le (N j) (N k) (fun y => nm_r (nI_1 k) (yy_afterL ho ha hq hp d (k + 1) _ (by omega) (Or.inr ⟨j, by omega, rfl, j3, fun i hi w => ?_⟩))) (fun y => ⟨v16, nm_r rd (nm_r (nI_1 k) (yy_afterL ho ha hq hp d (k + 1) _ (by omega) (Or.inr ⟨k, by omega, rfl, z, fun i hi w => ?_⟩)))⟩) rfl rd⟩
        · rcases Nat.lt_or_ge i k with q' | q'
          · exact j4 i q' w
          · have : i = k := by omega
            subst this
            exact y
        · rcases Nat.lt_or_ge i k with q' | q'
          · have := j4 i q' w; omega
          · have : i = k := by omega
            subst this
            exact Nat.le_refl _
theorem yy_after {post : Int32 → Prop} {a q : Nat} {x : Int32} (hx : x = nI a) (ho : tb_ord nl O N po ln b_lnNum) (ha : a ≤ 32767) (hq : ∀ p, p < nl → (a < N (O p) ↔ q ≤ p)) (hp : post (tb_at nl O N q)) : wpY_after post (g_len, nI nl, g_compiled, g_errLine, g_gosubDepth, g_forDepth, g_outCap, g_nt, g_vn, g_on, g_divErr, g_status, g_stopLine, g_steps, g_pos, g_outN, g_gsp, g_fsp, b_src, b_lnStart, b_lnEnd, b_lnNum, b_tk, b_tv, b_vs, b_os, b_vars, b_out, b_gStack, b_fVar, b_fLim, b_fBody) x := by
  subst hx
  exact ⟨nl + 1, yy_afterL ho ha hq hp nl 0 (-1) (by omega) (Or.inl ⟨rfl, fun j hj => by omega⟩)⟩
theorem tb_aft {p : Nat} (ho : tb_ord nl O N po ln b_lnNum) (hp : p < nl) : ∀ r, r < nl → (N (O p) < N (O r) ↔ p + 1 ≤ r) := fun r hr => by
  constructor
  · intro z
    rcases Nat.lt_trichotomy p r with w | w | w
    · exact w
    · subst w; omega
    · have := ho.2.2.2.1 r p w hp; omega
  · intro z
    exact ho.2.2.2.1 p r z hr
theorem tb_aft0 (ho : tb_ord nl O N po ln b_lnNum) : ∀ r, r < nl → (0 < N (O r) ↔ 0 ≤ r) := fun r hr =>
  ⟨fun _ => Nat.zero_le _, fun _ => (ho.2.2.1 (O r) (ho.2.1 r hr).2).2.2.1⟩
theorem yy_lnaL {post : Int32 → Prop} {k : Nat} (ho : tb_ord nl O N po ln b_lnNum) (hk : k < nl) (hp : post (nI (N (O k)))) : ∀ d i a, i + d = k + 1 → ((i = 0 ∧ a = 0) ∨ (0 < i ∧ a = N (O (i - 1)))) → wY_lineNumberAt_18 post (nI k) g_len (nI nl) g_compiled g_errLine g_gosubDepth g_forDepth g_outCap g_nt g_vn g_on g_divErr g_status g_stopLine g_steps g_pos g_outN g_gsp g_fsp b_src b_lnStart b_lnEnd b_lnNum b_tk b_tv b_vs b_os b_vars b_out b_gStack b_fVar b_fLim b_fBody (d + 1) (nI a) (nI i)
  | 0, i, a, hi, hI => by
    have b16 := ho.1
    refine pk_lt k i (fun _ => ?_) (fun z => absurd z (by omega))
    rcases hI with ⟨h1, h2⟩ | ⟨h1, h2⟩
    · omega
    · rw [h2, show i - 1 = k from by omega]
      exact hp
  | d + 1, i, a, hi, hI => by
    have b16 := ho.1
    refine pk_lt k i (fun z => absurd z (by omega)) (fun _ => pk_le 16 i (fun z => absurd z (by omega)) (fun _ => ?_))
    have w := yy_lnaL ho hk hp d (i + 1) (N (O i)) (by omega) (Or.inr ⟨by omega, rfl⟩)
    have e : tb_at nl O N i = nI (N (O i)) := if_pos (by omega)
    rcases hI with ⟨h1, h2⟩ | ⟨h1, h2⟩
    · subst h1 h2
      refine yy_after (a := 0) (q := 0) rfl ho (by omega) (tb_aft0 ho) (nm_r (nI_1 0) ?_)
      rw [e]
      exact w
    · have b := (ho.2.2.1 (O (i - 1)) (ho.2.1 (i - 1) (by omega)).2).2.2.2
      refine yy_after (a := a) (q := i) rfl ho (by omega) (fun r hr => ?_) (nm_r (nI_1 i) ?_)
      · rw [h2]
        have := tb_aft ho (p := i - 1) (by omega) r hr
        rw [this]
        omega
      · rw [e]
        exact w
end
section
variable {f_gosubDepth f_forDepth f_outCap f_sourceLength f_compiled f_errorLine f_tokenCount f_tokenAt f_heldCount f_lineTotal f_codeLength f_dividedByZero f_status f_stopLine f_steps f_position f_outputCount f_gosubCount : Int32} {a_source a_tokens a_held a_programOrder a_lineNumber a_lineKeyword a_lineVariable a_lineRelation a_code a_codeStart a_codeEnd a_operands a_variables a_output a_returnTo a_frameVariable a_frameLimit a_frameBody : Nat → Int32} {fc : Nat}
theorem xx_frameL {post : Int32 → Prop} {x : Int32} (hf : fc ≤ 8) (h1 : ∀ j, j < fc → a_frameVariable j = x → post (nI j)) (h0 : (∀ j, j < fc → a_frameVariable j ≠ x) → post (-1)) : ∀ d k, k + d = fc → (∀ q, q < k → a_frameVariable q ≠ x) → wX_findFrame_2 post x f_gosubDepth f_forDepth f_outCap f_sourceLength f_compiled f_errorLine f_tokenCount f_tokenAt f_heldCount f_lineTotal f_codeLength f_dividedByZero f_status f_stopLine f_steps f_position f_outputCount f_gosubCount (nI fc) a_source a_tokens a_held a_programOrder a_lineNumber a_lineKeyword a_lineVariable a_lineRelation a_code a_codeStart a_codeEnd a_operands a_variables a_output a_returnTo a_frameVariable a_frameLimit a_frameBody (d + 1) (nI k)
  | 0, k, hk, hq => pk_le fc k (fun _ => h0 (fun q hq' => hq q (by omega))) (fun z => absurd z (by omega))
  | d + 1, k, hk, hq => by
    refine pk_le fc k (fun z => absurd z (by omega)) (fun _ => ⟨vp_in_nI (by omega) (by omega), ?_⟩)
    rw [nI_clamp (by omega)]
    by_cases z : a_frameVariable k = x
    · exact br_t z (h1 k (by omega) z)
    · refine br_f z (nm_r (nI_1 k) (xx_frameL hf h1 h0 d (k + 1) (by omega) (fun q hq' => ?_)))
      rcases Nat.lt_or_ge q k with y | y
      · exact hq q y
      · have : q = k := by omega
        subst this
        exact z
theorem xx_frame {post : Int32 → Prop} {x : Int32} (hf : fc ≤ 8) (h1 : ∀ j, j < fc → a_frameVariable j = x → post (nI j)) (h0 : (∀ j, j < fc → a_frameVariable j ≠ x) → post (-1)) : wpX_findFrame post (f_gosubDepth, f_forDepth, f_outCap, f_sourceLength, f_compiled, f_errorLine, f_tokenCount, f_tokenAt, f_heldCount, f_lineTotal, f_codeLength, f_dividedByZero, f_status, f_stopLine, f_steps, f_position, f_outputCount, f_gosubCount, nI fc, a_source, a_tokens, a_held, a_programOrder, a_lineNumber, a_lineKeyword, a_lineVariable, a_lineRelation, a_code, a_codeStart, a_codeEnd, a_operands, a_variables, a_output, a_returnTo, a_frameVariable, a_frameLimit, a_frameBody) x :=
  ⟨fc + 1, xx_frameL hf h1 h0 fc 0 (by omega) (fun q hq => by omega)⟩
end
section
variable {g_len g_nLines g_compiled g_errLine g_gosubDepth g_forDepth g_outCap g_nt g_vn g_on g_divErr g_status g_stopLine g_steps g_pos g_outN g_gsp : Int32} {b_src b_lnStart b_lnEnd b_lnNum b_tk b_tv b_vs b_os b_vars b_out b_gStack b_fVar b_fLim b_fBody : Nat → Int32} {fc : Nat}
theorem yy_frameL {post : Int32 → Prop} {x : Int32} (hf : fc ≤ 8) (h1 : ∀ j, j < fc → b_fVar j = x → post (nI j)) (h0 : (∀ j, j < fc → b_fVar j ≠ x) → post (-1)) : ∀ d, d ≤ fc → (∀ q, d ≤ q → q < fc → b_fVar q ≠ x) → wY_findFrame_7 post x g_len g_nLines g_compiled g_errLine g_gosubDepth g_forDepth g_outCap g_nt g_vn g_on g_divErr g_status g_stopLine g_steps g_pos g_outN g_gsp (nI fc) b_src b_lnStart b_lnEnd b_lnNum b_tk b_tv b_vs b_os b_vars b_out b_gStack b_fVar b_fLim b_fBody (d + 1) (nI d - 1)
  | 0, hd, hq => br_t (by decide) (h0 (fun q hq' => hq q (by omega) hq'))
  | d + 1, hd, hq => by
    rw [nI_pred]
    refine br_f (nI_pos (by omega)) (pk_le 8 d (fun z => absurd z (by omega)) (fun _ => ⟨vp_in_nI (by omega) (by omega), ?_⟩))
    rw [nI_clamp (by omega)]
    by_cases z : b_fVar d = x
    · exact br_t z (h1 d (by omega) z)
    · refine br_f z (nm_r (tb_m1 (nI d)) (yy_frameL hf h1 h0 d (by omega) (fun q h2 h3 => ?_)))
      rcases Nat.lt_or_ge d q with y | y
      · exact hq q y h3
      · have : q = d := by omega
        subst this
        exact z
theorem yy_frame {post : Int32 → Prop} {x : Int32} (hf : fc ≤ 8) (h1 : ∀ j, j < fc → b_fVar j = x → post (nI j)) (h0 : (∀ j, j < fc → b_fVar j ≠ x) → post (-1)) : wpY_findFrame post (g_len, g_nLines, g_compiled, g_errLine, g_gosubDepth, g_forDepth, g_outCap, g_nt, g_vn, g_on, g_divErr, g_status, g_stopLine, g_steps, g_pos, g_outN, g_gsp, nI fc, b_src, b_lnStart, b_lnEnd, b_lnNum, b_tk, b_tv, b_vs, b_os, b_vars, b_out, b_gStack, b_fVar, b_fLim, b_fBody) x :=
  nm_e ⟨fc + 1, yy_frameL hf h1 h0 fc (Nat.le_refl _) (fun q h2 h3 => by omega)⟩
end
theorem i_vc_lineNumberAt {k : Nat} {u : SX} {v : SY} (I : i_Rel k u v) (hk : k + 5 ≤ 2563) (v1 : Int32) : wpX_lineNumberAt (fun r => wpY_lineNumberAt (fun r' => r' = r ∧ i_Rel (k + 5) u v) v v1) u v1 := by
  obtain ⟨f_gosubDepth, f_forDepth, f_outCap, f_sourceLength, f_compiled, f_errorLine, f_tokenCount, f_tokenAt, f_heldCount, f_lineTotal, f_codeLength, f_dividedByZero, f_status, f_stopLine, f_steps, f_position, f_outputCount, f_gosubCount, f_frameCount, a_source, a_tokens, a_held, a_programOrder, a_lineNumber, a_lineKeyword, a_lineVariable, a_lineRelation, a_code, a_codeStart, a_codeEnd, a_operands, a_variables, a_output, a_returnTo, a_frameVariable, a_frameLimit, a_frameBody⟩ := u
  obtain ⟨g_len, g_nLines, g_compiled, g_errLine, g_gosubDepth, g_forDepth, g_outCap, g_nt, g_vn, g_on, g_divErr, g_status, g_stopLine, g_steps, g_pos, g_outN, g_gsp, g_fsp, b_src, b_lnStart, b_lnEnd, b_lnNum, b_tk, b_tv, b_vs, b_os, b_vars, b_out, b_gStack, b_fVar, b_fLim, b_fBody⟩ := v
  have J := I
  obtain ⟨g, fd, oc, n, nl, ou, gc, fc, cl, C, O, N, rfl, rfl, rfl, rfl, rfl, rfl, rfl, rfl, rfl, rfl, rfl, rfl, rfl, rfl, rfl, rfl, rfl, rfl, rfl, rfl, rfl, rfl, rfl, rfl, rfl, rfl, rfl, hz, hcn, hcl, ho, hl, hs, hpos⟩ := I
  have b16 := ho.1
  refine br_c (fun z => br_t z ⟨rfl, J⟩) (fun z => ?_)
  obtain ⟨j, hj, rfl⟩ := nI_of z
  refine pk_lt j nl (fun y => ?_) (fun y => br_f z ?_)
  · have a := ho.2.1 j y
    have b := ho.2.2.1 (O j) a.2
    have r1 : a_programOrder (nI j).toNatClampNeg = nI (O j) := by rw [nI_clamp (by omega)]; exact a.1
    have r2 : a_lineNumber (a_programOrder (nI j).toNatClampNeg).toNatClampNeg = nI (N (O j)) := by rw [r1, nI_clamp (by omega)]; exact b.1
    refine ⟨vp_in_nI (by omega) (by omega), pk_in (O j) 16 (by omega) r1, ?_⟩
    rw [r2]
    refine br_f z (br_c (fun w => absurd (hcn w) (by omega)) (fun _ => pk_lt j nl (fun _ => ⟨j + 2, ?_⟩) (fun w => absurd w (by omega))))
    exact yy_lnaL ho y ⟨rfl, J⟩ (j + 1) 0 0 (by omega) (Or.inl ⟨rfl, rfl⟩)
  · refine br_c (fun w => pk_lt j 0 (fun q => absurd q (by omega)) (fun _ => ⟨rfl, J⟩)) (fun _ => pk_lt j nl (fun q => absurd q (by omega)) (fun _ => ⟨rfl, J⟩))
