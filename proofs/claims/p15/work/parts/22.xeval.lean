/-! ===== the value of an expression: the class ===== -/
/-- what stands in code -/
def tb_ct (t : Nat) : Prop := t ≤ 32767 ∨ (40000 ≤ t ∧ t < 40026) ∨ (40201 ≤ t ∧ t ≤ 40205)
theorem tb_rp_ct (r : Nat) (hr : 0 < r) : ∀ h : List Nat, ∀ t, t ∈ tb_rp r h → tb_ct t
  | [], t, ht => by cases ht
  | x :: h, t, ht => by
    unfold tb_rp at ht
    split at ht
    · next z =>
      rcases List.mem_cons.mp ht with e | e
      · have : 0 < tb_rk x := by omega
        rw [tb_rk_pos] at this
        rw [e]
        exact Or.inr (Or.inr this)
      · exact tb_rp_ct r hr h t e
    · cases ht
theorem tb_ct_app {c d : List Nat} (a : ∀ t, t ∈ c → tb_ct t) (b : ∀ t, t ∈ d → tb_ct t) : ∀ t, t ∈ c ++ d → tb_ct t := fun t ht => by
  rcases List.mem_append.mp ht with z | z
  · exact a t z
  · exact b t z
theorem tb_xp_ev (T : Nat → Nat) (n : Nat) (V : Nat → Int32) (hT : ∀ j, T j ≠ 40205) : ∀ d i b h c e c', tb_xp T n d i b h c = some (e, c') → tb_hk h → (tb_ev V c ([], false)).1.length = (if b = true then 0 else 1) + tb_nb h → (∀ t, t ∈ c → tb_ct t) → (tb_ev V c' ([], false)).1.length = 1 ∧ ∀ t, t ∈ c' → tb_ct t
  | 0, i, b, h, c, e, c', z, hk, hl, hc => by unfold tb_xp at z; cases z
  | d + 1, i, true, h, c, e, c', z, hk, hl, hc => by
    rw [if_pos rfl] at hl
    by_cases a : n ≤ i
    · rw [tb_xp_te a] at z; cases z
    · by_cases o : T i ≤ 32767 ∨ (40000 ≤ T i ∧ T i < 40026)
      · rw [tb_xp_to a o] at z
        refine tb_xp_ev T n V hT d _ _ _ _ _ _ z hk ?_ (tb_ct_app hc (fun t ht => ?_))
        · rw [tb_ev_app]
          show (tb_e1 V (tb_ev V c ([], false)) (T i)).1.length = _
          rw [tb_e1_opd o]
          simp only [List.length_cons]
          rw [hl]
          rw [if_neg (by decide)]
          omega
        · rcases List.mem_cons.mp ht with y | y
          · rw [y]; unfold tb_ct; omega
          · cases y
      · by_cases m : T i = 40202
        · rw [tb_xp_tm a m] at z
          refine tb_xp_ev T n V hT d _ _ _ _ _ _ z (tb_hk_c (by omega) hk) ?_ hc
          rw [hl, if_pos rfl]
          show 0 + tb_nb h = 0 + ((if 40205 = 40206 ∨ 40205 = 40205 then 0 else 1) + tb_nb h)
          rw [if_pos (Or.inr rfl)]; omega
        · by_cases p : T i = 40206
          · rw [tb_xp_tp a p] at z
            refine tb_xp_ev T n V hT d _ _ _ _ _ _ z (tb_hk_c (by omega) hk) ?_ hc
            rw [hl, if_pos rfl]
            show 0 + tb_nb h = 0 + ((if 40206 = 40206 ∨ 40206 = 40205 then 0 else 1) + tb_nb h)
            rw [if_pos (Or.inl rfl)]; omega
          · rw [tb_xp_tn a o m p] at z; cases z
  | d + 1, i, false, h, c, e, c', z, hk, hl, hc => by
    rw [if_neg (by decide)] at hl
    have FIN : (n ≤ i ∨ (¬ 0 < tb_rk (T i) ∧ T i ≠ 40207)) → (tb_ev V c' ([], false)).1.length = 1 ∧ ∀ t, t ∈ c' → tb_ct t := fun y => by
      rw [tb_xp_fe y] at z
      by_cases r : tb_rr 1 h = []
      · rw [if_pos r] at z
        cases z
        refine ⟨?_, tb_ct_app hc (tb_rp_ct 1 (by omega) h)⟩
        rw [tb_ev_app, tb_ev_rel V 1 h _ hk hl (by omega), r]
        rfl
      · rw [if_neg r] at z; cases z
    by_cases a : n ≤ i
    · exact FIN (Or.inl a)
    · by_cases o : 0 < tb_rk (T i)
      · rw [tb_xp_fo a o] at z
        have op := tb_rk_pos.mp o
        have ne := hT i
        refine tb_xp_ev T n V hT d _ _ _ _ _ _ z (tb_hk_c (by omega) (tb_hk_rr _ h hk)) ?_ (tb_ct_app hc (tb_rp_ct _ o h))
        rw [tb_ev_app, tb_ev_rel V _ h _ hk hl o, if_pos rfl]
        show _ = 0 + ((if T i = 40206 ∨ T i = 40205 then 0 else 1) + tb_nb (tb_rr (tb_rk (T i)) h))
        rw [if_neg (by omega)]; omega
      · by_cases p : T i = 40207
        · rw [tb_xp_fc a p] at z
          by_cases r : tb_rr 1 h = []
          · rw [if_pos r] at z; cases z
          · rw [if_neg r] at z
            refine tb_xp_ev T n V hT d _ _ _ _ _ _ z (tb_hk_tl (tb_hk_rr 1 h hk)) ?_ (tb_ct_app hc (tb_rp_ct 1 (by omega) h))
            rw [tb_ev_app, tb_ev_rel V 1 h _ hk hl (by omega), if_neg (by decide)]
            rcases tb_rr1 h hk with ⟨q, _⟩ | ⟨h', q, _⟩
            · exact absurd q r
            · rw [q]
              show 1 + ((if 40206 = 40206 ∨ 40206 = 40205 then 0 else 1) + tb_nb h') = 1 + tb_nb h'
              rw [if_pos (Or.inl rfl)]; omega
        · exact FIN (Or.inr ⟨o, p⟩)
theorem tb_xe_ev {L : List Nat} {p e : Nat} {c : List Nat} (V : Nat → Int32) (hok : ∀ t, t ∈ L → tb_ok t) (h : tb_xe L p = some (e, c)) : (∃ v, (tb_ev V c ([], false)).1 = [v]) ∧ ∀ t, t ∈ c → tb_ct t := by
  have hT : ∀ j, tb_T L j ≠ 40205 := fun j => by
    rcases Nat.lt_or_ge j L.length with z | z
    · have := hok _ (tb_T_mem z)
      unfold tb_ok at this
      omega
    · rw [tb_T_out z]; omega
  have ⟨a, b⟩ := tb_xp_ev (tb_T L) L.length V hT 42 p true [] [] e c h tb_hk_0 rfl (fun t ht => by cases ht)
  refine ⟨?_, b⟩
  match hq : (tb_ev V c ([], false)).1, a with
  | [v], _ => exact ⟨v, rfl⟩
section
variable {f_gosubDepth f_forDepth f_outCap f_sourceLength f_compiled f_errorLine f_tokenCount f_tokenAt f_heldCount f_lineTotal f_codeLength f_status f_stopLine f_steps f_position f_outputCount f_gosubCount f_frameCount : Int32} {a_source a_tokens a_held a_programOrder a_lineNumber a_lineKeyword a_lineVariable a_lineRelation a_code a_codeStart a_codeEnd a_operands a_variables a_output a_returnTo a_frameVariable a_frameLimit a_frameBody : Nat → Int32}
theorem xx_comb {post : Int32 → St2 → Prop} {t : Nat} {a b : Int32} (ht : 40201 ≤ t ∧ t ≤ 40204) (hz : t = 40204 ∧ b = 0 → post 0 (f_gosubDepth, f_forDepth, f_outCap, f_sourceLength, f_compiled, f_errorLine, f_tokenCount, f_tokenAt, f_heldCount, f_lineTotal, f_codeLength, 1, f_status, f_stopLine, f_steps, f_position, f_outputCount, f_gosubCount, f_frameCount, a_source, a_tokens, a_held, a_programOrder, a_lineNumber, a_lineKeyword, a_lineVariable, a_lineRelation, a_code, a_codeStart, a_codeEnd, a_operands, a_variables, a_output, a_returnTo, a_frameVariable, a_frameLimit, a_frameBody)) (hg : ¬ (t = 40204 ∧ b = 0) → post (tb_cb t a b) (f_gosubDepth, f_forDepth, f_outCap, f_sourceLength, f_compiled, f_errorLine, f_tokenCount, f_tokenAt, f_heldCount, f_lineTotal, f_codeLength, 0, f_status, f_stopLine, f_steps, f_position, f_outputCount, f_gosubCount, f_frameCount, a_source, a_tokens, a_held, a_programOrder, a_lineNumber, a_lineKeyword, a_lineVariable, a_lineRelation, a_code, a_codeStart, a_codeEnd, a_operands, a_variables, a_output, a_returnTo, a_frameVariable, a_frameLimit, a_frameBody)) : wpX_combine post (f_gosubDepth, f_forDepth, f_outCap, f_sourceLength, f_compiled, f_errorLine, f_tokenCount, f_tokenAt, f_heldCount, f_lineTotal, f_codeLength, 0, f_status, f_stopLine, f_steps, f_position, f_outputCount, f_gosubCount, f_frameCount, a_source, a_tokens, a_held, a_programOrder, a_lineNumber, a_lineKeyword, a_lineVariable, a_lineRelation, a_code, a_codeStart, a_codeEnd, a_operands, a_variables, a_output, a_returnTo, a_frameVariable, a_frameLimit, a_frameBody) (nI t) a b := by
  have C : ∀ k, t = k → ¬ (t = 40204 ∧ b = 0) → post (tb_cb k a b) (f_gosubDepth, f_forDepth, f_outCap, f_sourceLength, f_compiled, f_errorLine, f_tokenCount, f_tokenAt, f_heldCount, f_lineTotal, f_codeLength, 0, f_status, f_stopLine, f_steps, f_position, f_outputCount, f_gosubCount, f_frameCount, a_source, a_tokens, a_held, a_programOrder, a_lineNumber, a_lineKeyword, a_lineVariable, a_lineRelation, a_code, a_codeStart, a_codeEnd, a_operands, a_variables, a_output, a_returnTo, a_frameVariable, a_frameLimit, a_frameBody) := fun k e h => by rw [← e]; exact hg h
  refine pk_lt t 40201 (fun z => absurd z (by omega)) (fun _ => pk_lt 40203 t (fun z => ?_) (fun z => pk_eq t 40201 (fun e => C 40201 e (by omega)) (fun n1 => pk_eq t 40202 (fun e => C 40202 e (by omega)) (fun n2 => pk_eq t 40203 (fun e => C 40203 e (by omega)) (fun n3 => trivial)))))
  have e : t = 40204 := by omega
  by_cases y : b = 0
  · exact br_t y (hz ⟨e, y⟩)
  · have w := C 40204 e (fun q => y q.2)
    have ev : tb_cb 40204 a b = a / b := by
      show (if b = 0 then 0 else a / b) = _
      exact if_neg y
    rw [ev] at w
    exact br_f y ⟨y, w⟩
theorem xx_evS {post : Int32 → St2 → Prop} {F : Nat} {E x3 x4 : Int32} (hF : 1 ≤ F) (hp : ∀ r, post r (f_gosubDepth, f_forDepth, f_outCap, f_sourceLength, f_compiled, f_errorLine, f_tokenCount, f_tokenAt, f_heldCount, f_lineTotal, f_codeLength, 1, f_status, f_stopLine, f_steps, f_position, f_outputCount, f_gosubCount, f_frameCount, a_source, a_tokens, a_held, a_programOrder, a_lineNumber, a_lineKeyword, a_lineVariable, a_lineRelation, a_code, a_codeStart, a_codeEnd, a_operands, a_variables, a_output, a_returnTo, a_frameVariable, a_frameLimit, a_frameBody)) : wX_evaluate_17 post E F x3 x4 f_gosubDepth f_forDepth f_outCap f_sourceLength f_compiled f_errorLine f_tokenCount f_tokenAt f_heldCount f_lineTotal f_codeLength 1 f_status f_stopLine f_steps f_position f_outputCount f_gosubCount f_frameCount a_source a_tokens a_held a_programOrder a_lineNumber a_lineKeyword a_lineVariable a_lineRelation a_code a_codeStart a_codeEnd a_operands a_variables a_output a_returnTo a_frameVariable a_frameLimit a_frameBody := by
  obtain ⟨G, rfl⟩ : ∃ G, F = G + 1 := ⟨F - 1, by omega⟩
  exact br_c (fun _ => hp _) (fun _ => br_f tb_10 (hp _))
theorem xx_evL {post : Int32 → St2 → Prop} {E : Nat} : ∀ (c : List Nat) (i : Nat) (s : List Int32) (a_operands : Nat → Int32), i + c.length = E → tb_sg a_code i (c.map nI) → (∀ t, t ∈ c → tb_ct t) → tb_sk a_operands s → s.length + c.length ≤ 40 → E ≤ 256 →
    ((tb_ev a_variables c (s, false)).2 = true → ∀ r ops, post r (f_gosubDepth, f_forDepth, f_outCap, f_sourceLength, f_compiled, f_errorLine, f_tokenCount, f_tokenAt, f_heldCount, f_lineTotal, f_codeLength, 1, f_status, f_stopLine, f_steps, f_position, f_outputCount, f_gosubCount, f_frameCount, a_source, a_tokens, a_held, a_programOrder, a_lineNumber, a_lineKeyword, a_lineVariable, a_lineRelation, a_code, a_codeStart, a_codeEnd, ops, a_variables, a_output, a_returnTo, a_frameVariable, a_frameLimit, a_frameBody)) →
    ((tb_ev a_variables c (s, false)).2 = false → ∀ ops, tb_sk ops (tb_ev a_variables c (s, false)).1 → post (ops 0) (f_gosubDepth, f_forDepth, f_outCap, f_sourceLength, f_compiled, f_errorLine, f_tokenCount, f_tokenAt, f_heldCount, f_lineTotal, f_codeLength, 0, f_status, f_stopLine, f_steps, f_position, f_outputCount, f_gosubCount, f_frameCount, a_source, a_tokens, a_held, a_programOrder, a_lineNumber, a_lineKeyword, a_lineVariable, a_lineRelation, a_code, a_codeStart, a_codeEnd, ops, a_variables, a_output, a_returnTo, a_frameVariable, a_frameLimit, a_frameBody)) →
    wX_evaluate_17 post (nI E) (c.length + 1) (nI s.length) (nI i) f_gosubDepth f_forDepth f_outCap f_sourceLength f_compiled f_errorLine f_tokenCount f_tokenAt f_heldCount f_lineTotal f_codeLength 0 f_status f_stopLine f_steps f_position f_outputCount f_gosubCount f_frameCount a_source a_tokens a_held a_programOrder a_lineNumber a_lineKeyword a_lineVariable a_lineRelation a_code a_codeStart a_codeEnd a_operands a_variables a_output a_returnTo a_frameVariable a_frameLimit a_frameBody
  | [], i, s, a_operands, hi, hg, hc, hs, hl, hE, hz, hp => pk_le E i (fun _ => hp rfl a_operands hs) (fun z => absurd z (by simp only [List.length_nil] at hi; omega)) rfl rfl (by omega) (by simp only [List.length_nil] at hi; omega)
  | t :: c, i, s, a_operands, hi, hg, hc, hs, hl, hE, hz, hp => by
    simp only [List.length_cons] at hi hl
    have ct := hc t (List.mem_cons_self ..)
    have hc' : ∀ t, t ∈ c → tb_ct t := fun x hx => hc x (List.mem_cons_of_mem _ hx)
    have ht : t < 40214 := by unfold tb_ct at ct; omega
    have rd : a_code (nI i).toNatClampNeg = nI t := by rw [nI_clamp (by omega)]; exact hg.1
    have ST : ∀ (s' : List Int32) (ops : Nat → Int32), tb_e1 a_variables (s, false) t = (s', false) → tb_sk ops s' → s'.length ≤ s.length + 1 → wX_evaluate_17 post (nI E) (c.length + 1) (nI s'.length) (nI (i + 1)) f_gosubDepth f_forDepth f_outCap f_sourceLength f_compiled f_errorLine f_tokenCount f_tokenAt f_heldCount f_lineTotal f_codeLength 0 f_status f_stopLine f_steps f_position f_outputCount f_gosubCount f_frameCount a_source a_tokens a_held a_programOrder a_lineNumber a_lineKeyword a_lineVariable a_lineRelation a_code a_codeStart a_codeEnd ops a_variables a_output a_returnTo a_frameVariable a_frameLimit a_frameBody := fun s' ops e1 e2 e3 =>
      xx_evL c (i + 1) s' ops (by omega) hg.2 hc' e2 (by omega) hE (fun q => hz (by show (tb_ev a_variables c (tb_e1 a_variables (s, false) t)).2 = true; rw [e1]; exact q)) (fun q ops' w => hp (by show (tb_ev a_variables c (tb_e1 a_variables (s, false) t)).2 = false; rw [e1]; exact q) ops' (by show tb_sk ops' (tb_ev a_variables c (tb_e1 a_variables (s, false) t)).1; rw [e1]; exact w))
    show wX_evaluate_17 post (nI E) (c.length + 1 + 1) (nI s.length) (nI i) f_gosubDepth f_forDepth f_outCap f_sourceLength f_compiled f_errorLine f_tokenCount f_tokenAt f_heldCount f_lineTotal f_codeLength 0 f_status f_stopLine f_steps f_position f_outputCount f_gosubCount f_frameCount a_source a_tokens a_held a_programOrder a_lineNumber a_lineKeyword a_lineVariable a_lineRelation a_code a_codeStart a_codeEnd a_operands a_variables a_output a_returnTo a_frameVariable a_frameLimit a_frameBody
    refine pk_le E i (fun z => absurd z (by omega)) (fun _ => br_t rfl ⟨vp_in_nI (by omega) (by omega), nm_r rd (xx_isnum t (by omega) (fun z => br_f tb_10 (pk_le 40 s.length (fun y => absurd y (by omega)) (fun _ => ⟨vp_in_nI (by omega) (by omega), nm_r (e' := upd a_operands s.length (nI t)) (by rw [nI_clamp (by omega)]) (nm_r (nI_1 s.length) (nm_r (nI_1 i) ?_))⟩))) (fun z => br_t rfl (xx_isvar t (by omega) (fun y => br_f tb_10 (pk_le 40 s.length (fun y => absurd y (by omega)) (fun _ => ⟨pk_in (t - 40000) 26 (by omega) (pk_sub (b := 40000) y.1), vp_in_nI (by omega) (by omega), nm_r (e' := upd a_operands s.length (a_variables (t - 40000))) ?_ (nm_r (nI_1 s.length) (nm_r (nI_1 i) ?_))⟩))) (fun y => br_t rfl ?_))))⟩)
    · exact ST (nI t :: s) _ (by rw [tb_e1_opd (Or.inl z), if_pos z]) (tb_sk_push hs) (Nat.le_refl _)
    · rw [nI_clamp (by omega), show nI t - 40000 = nI (t - 40000) from pk_sub (b := 40000) y.1, nI_clamp (by omega)]
    · exact ST (a_variables (t - 40000) :: s) _ (by rw [tb_e1_opd (Or.inr y), if_neg (by omega)]) (tb_sk_push hs) (Nat.le_refl _)
    · have ct2 : 40201 ≤ t ∧ t ≤ 40205 := by unfold tb_ct at ct; omega
      have SK : wX_evaluate_134 post (wX_evaluate_17 post (nI E) (c.length + 1)) (nI E) (nI s.length) (nI i) (nI t) f_gosubDepth f_forDepth f_outCap f_sourceLength f_compiled f_errorLine f_tokenCount f_tokenAt f_heldCount f_lineTotal f_codeLength 0 f_status f_stopLine f_steps f_position f_outputCount f_gosubCount f_frameCount a_source a_tokens a_held a_programOrder a_lineNumber a_lineKeyword a_lineVariable a_lineRelation a_code a_codeStart a_codeEnd a_operands a_variables a_output a_returnTo a_frameVariable a_frameLimit a_frameBody ∨ (t = 40205 ∧ s ≠ []) := by
        by_cases n5 : t = 40205
        · cases s with
          | nil =>
            refine Or.inl (br_t (by decide) (nm_r (nI_1 i) ?_))
            exact ST [] a_operands (by rw [n5]; rfl) hs (by simp only [List.length_nil]; omega)
          | cons x r => exact Or.inr ⟨n5, List.cons_ne_nil _ _⟩
        · refine Or.inl ?_
          have e0 : ∀ b : Bool, ¬ t ≤ 32767 ∧ ¬ (40000 ≤ t ∧ t < 40026) ∧ ¬ t = 40205 := fun _ => ⟨by omega, by omega, n5⟩
          match s, hs, hl, hz, hp, ST with
          | [], hs, hl, hz, hp, ST =>
            refine br_t (by decide) (nm_r (nI_1 i) ?_)
            exact ST [] a_operands (by unfold tb_e1; rw [if_neg (by omega), if_neg (by omega), if_neg n5]) hs (by simp only [List.length_nil]; omega)
          | [x], hs, hl, hz, hp, ST =>
            refine br_t (show nI 1 ≤ 1 from by decide) (nm_r (nI_1 i) ?_)
            exact ST [x] a_operands (by unfold tb_e1; rw [if_neg (by omega), if_neg (by omega), if_neg n5]) hs (by simp only [List.length_cons]; omega)
          | y :: x :: r, hs, hl, hz, hp, ST =>
            simp only [List.length_cons] at hl
            have h1 : a_operands (r.length + 1) = y := hs.1
            have h2 : a_operands r.length = x := hs.2.1
            show wX_evaluate_134 post (wX_evaluate_17 post (nI E) (c.length + 1)) (nI E) (nI (r.length + 1 + 1)) (nI i) (nI t) f_gosubDepth f_forDepth f_outCap f_sourceLength f_compiled f_errorLine f_tokenCount f_tokenAt f_heldCount f_lineTotal f_codeLength 0 f_status f_stopLine f_steps f_position f_outputCount f_gosubCount f_frameCount a_source a_tokens a_held a_programOrder a_lineNumber a_lineKeyword a_lineVariable a_lineRelation a_code a_codeStart a_codeEnd a_operands a_variables a_output a_returnTo a_frameVariable a_frameLimit a_frameBody
            have v1 : vp_in (nI (r.length + 1) - 1) 40 := pk_in r.length 40 (by omega) (nI_pred r.length)
            have r1 : a_operands (nI (r.length + 1) - 1).toNatClampNeg = x := by rw [nI_pred, nI_clamp (by omega)]; exact h2
            have r2 : a_operands (nI (r.length + 1)).toNatClampNeg = y := by rw [nI_clamp (by omega)]; exact h1
            refine pk_le (r.length + 1 + 1) 1 (fun z => absurd z (by omega)) (fun _ => nm_r (pk_m1 (r.length + 1)) ⟨v1, vp_in_nI (by omega) (by omega), ?_⟩)
            rw [r1, r2]
            have sk : ∀ q : Int32, tb_sk (upd a_operands r.length q) (q :: r) := fun q => tb_sk_push hs.2.2
            refine xx_comb (by omega) (fun q => ⟨v1, nm_e (nm_r (nI_1 i) (xx_evS (by omega) (fun rr => hz ?_ rr _)))⟩) (fun q => ⟨v1, nm_r (e' := upd a_operands r.length (tb_cb t x y)) (by rw [nI_pred, nI_clamp (by omega)]) (nm_r (nI_1 i) ?_)⟩)
            · show (tb_ev a_variables c (tb_e1 a_variables (y :: x :: r, false) t)).2 = true
              rw [tb_e1_bin (by omega)]
              exact tb_ev_err _ _ _ (by show (false || decide (t = 40204 ∧ y = 0)) = true; rw [decide_eq_true q]; rfl)
            · exact ST (tb_cb t x y :: r) _ (by rw [tb_e1_bin (by omega), decide_eq_false q]; rfl) (sk _) (by simp only [List.length_cons]; omega)
      rcases SK with SK | ⟨n5, ne⟩
      · refine pk_eq t 40205 (fun n5 => ?_) (fun _ => SK)
        by_cases es : s = []
        · subst es
          exact br_t (by decide) SK
        · obtain ⟨x, r, rfl⟩ := List.exists_cons_of_ne_nil es
          have h1 : a_operands r.length = x := hs.1
          have v1 : vp_in (nI (r.length + 1) - 1) 40 := pk_in r.length 40 (by simp only [List.length_cons] at hl; omega) (nI_pred r.length)
          have cl : (nI (r.length + 1) - 1).toNatClampNeg = r.length := by rw [nI_pred, nI_clamp (by simp only [List.length_cons] at hl; omega)]
          refine br_f (nI_nle (n := r.length + 1) (by omega) (by simp only [List.length_cons] at hl; omega)) ⟨v1, v1, nm_r (e' := upd a_operands r.length (-x)) ?_ (nm_r (nI_1 i) ?_)⟩
          · show upd a_operands (nI (r.length + 1) - 1).toNatClampNeg (-(a_operands (nI (r.length + 1) - 1).toNatClampNeg)) = _
            rw [cl, h1]
          · exact ST (-x :: r) _ (by rw [n5]; rfl) (tb_sk_push hs.2) (by simp only [List.length_cons]; omega)
      · obtain ⟨x, r, rfl⟩ := List.exists_cons_of_ne_nil ne
        have h1 : a_operands r.length = x := hs.1
        have v1 : vp_in (nI (r.length + 1) - 1) 40 := pk_in r.length 40 (by simp only [List.length_cons] at hl; omega) (nI_pred r.length)
        have cl : (nI (r.length + 1) - 1).toNatClampNeg = r.length := by rw [nI_pred, nI_clamp (by simp only [List.length_cons] at hl; omega)]
        refine pk_eq t 40205 (fun _ => br_f (nI_nle (n := r.length + 1) (by omega) (by simp only [List.length_cons] at hl; omega)) ⟨v1, v1, nm_r (e' := upd a_operands r.length (-x)) ?_ (nm_r (nI_1 i) ?_)⟩) (fun y => absurd n5 y)
        · show upd a_operands (nI (r.length + 1) - 1).toNatClampNeg (-(a_operands (nI (r.length + 1) - 1).toNatClampNeg)) = _
          rw [cl, h1]
        · exact ST (-x :: r) _ (by rw [n5]; rfl) (tb_sk_push hs.2) (by simp only [List.length_cons]; omega)
/-- an expression's value: the sign of a division by 0, or one value -/
theorem xx_eval {post : Int32 → St2 → Prop} {x : Int32} {k cl : Nat} {c : List Nat} (hx : x = nI k) (hk : k < 48) (hcl : cl ≤ 256) (hs : tb_slot a_code a_codeStart a_codeEnd cl k c) (hc : ∀ t, t ∈ c → tb_ct t) (hl : c.length ≤ 40) (h1 : ∃ v, (tb_ev a_variables c ([], false)).1 = [v])
    (hz : (tb_ev a_variables c ([], false)).2 = true → ∀ r ops, post r (f_gosubDepth, f_forDepth, f_outCap, f_sourceLength, f_compiled, f_errorLine, f_tokenCount, f_tokenAt, f_heldCount, f_lineTotal, f_codeLength, 1, f_status, f_stopLine, f_steps, f_position, f_outputCount, f_gosubCount, f_frameCount, a_source, a_tokens, a_held, a_programOrder, a_lineNumber, a_lineKeyword, a_lineVariable, a_lineRelation, a_code, a_codeStart, a_codeEnd, ops, a_variables, a_output, a_returnTo, a_frameVariable, a_frameLimit, a_frameBody))
    (hp : ∀ v, tb_ev a_variables c ([], false) = ([v], false) → ∀ ops, post v (f_gosubDepth, f_forDepth, f_outCap, f_sourceLength, f_compiled, f_errorLine, f_tokenCount, f_tokenAt, f_heldCount, f_lineTotal, f_codeLength, 0, f_status, f_stopLine, f_steps, f_position, f_outputCount, f_gosubCount, f_frameCount, a_source, a_tokens, a_held, a_programOrder, a_lineNumber, a_lineKeyword, a_lineVariable, a_lineRelation, a_code, a_codeStart, a_codeEnd, ops, a_variables, a_output, a_returnTo, a_frameVariable, a_frameLimit, a_frameBody)) : wpX_evaluate post (f_gosubDepth, f_forDepth, f_outCap, f_sourceLength, f_compiled, f_errorLine, f_tokenCount, f_tokenAt, f_heldCount, f_lineTotal, f_codeLength, 0, f_status, f_stopLine, f_steps, f_position, f_outputCount, f_gosubCount, f_frameCount, a_source, a_tokens, a_held, a_programOrder, a_lineNumber, a_lineKeyword, a_lineVariable, a_lineRelation, a_code, a_codeStart, a_codeEnd, a_operands, a_variables, a_output, a_returnTo, a_frameVariable, a_frameLimit, a_frameBody) x := by
  subst hx
  obtain ⟨p, a1, a2, a3, a4⟩ := hs
  have v : vp_in (nI k) 48 := vp_in_nI hk (by omega)
  refine ⟨v, nm_r (e' := nI (p + c.length)) (by rw [nI_clamp (by omega)]; exact a2) ⟨v, nm_r (e' := nI p) (by rw [nI_clamp (by omega)]; exact a1) ⟨c.length + 1, ?_⟩⟩⟩
  refine xx_evL c p [] a_operands rfl a4 hc trivial (by simp only [List.length_nil]; omega) (by omega) hz (fun q ops w => ?_)
  obtain ⟨y, hy⟩ := h1
  rw [hy] at w
  have e0 : ops 0 = y := w.1
  rw [e0]
  exact hp y (Prod.ext hy q) ops
theorem xx_eval1 {post : Int32 → St2 → Prop} {x : Int32} {k cl : Nat} {c : List Nat} (hx : x = nI k) (hk : k < 48) (hs : tb_slot a_code a_codeStart a_codeEnd cl k c) (hp : ∀ r, post r (f_gosubDepth, f_forDepth, f_outCap, f_sourceLength, f_compiled, f_errorLine, f_tokenCount, f_tokenAt, f_heldCount, f_lineTotal, f_codeLength, 1, f_status, f_stopLine, f_steps, f_position, f_outputCount, f_gosubCount, f_frameCount, a_source, a_tokens, a_held, a_programOrder, a_lineNumber, a_lineKeyword, a_lineVariable, a_lineRelation, a_code, a_codeStart, a_codeEnd, a_operands, a_variables, a_output, a_returnTo, a_frameVariable, a_frameLimit, a_frameBody)) : wpX_evaluate post (f_gosubDepth, f_forDepth, f_outCap, f_sourceLength, f_compiled, f_errorLine, f_tokenCount, f_tokenAt, f_heldCount, f_lineTotal, f_codeLength, 1, f_status, f_stopLine, f_steps, f_position, f_outputCount, f_gosubCount, f_frameCount, a_source, a_tokens, a_held, a_programOrder, a_lineNumber, a_lineKeyword, a_lineVariable, a_lineRelation, a_code, a_codeStart, a_codeEnd, a_operands, a_variables, a_output, a_returnTo, a_frameVariable, a_frameLimit, a_frameBody) x := by
  subst hx
  obtain ⟨p, a1, a2, a3, a4⟩ := hs
  have v : vp_in (nI k) 48 := vp_in_nI hk (by omega)
  exact ⟨v, nm_e ⟨v, nm_e ⟨1, xx_evS (Nat.le_refl _) hp⟩⟩⟩
end
