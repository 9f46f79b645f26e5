/-! ===== the value of an expression: the reference ===== -/
def tb_bi (b : Bool) : Int32 := if b = true then 1 else 0
theorem tb_hkf {t : Nat} (h : 40201 ≤ t ∧ t ≤ 40206) : (t = 40201 ∧ tb_kf t = 43) ∨ (t = 40202 ∧ tb_kf t = 45) ∨ (t = 40203 ∧ tb_kf t = 42) ∨ (t = 40204 ∧ tb_kf t = 47) ∨ (t = 40205 ∧ tb_kf t = 85) ∨ (t = 40206 ∧ tb_kf t = 40) := by
  have : t = 40201 ∨ t = 40202 ∨ t = 40203 ∨ t = 40204 ∨ t = 40205 ∨ t = 40206 := by omega
  rcases this with e | e | e | e | e | e <;> subst e <;> decide
theorem yy_prec {post : Int32 → Prop} {g_len g_nLines g_compiled g_errLine g_gosubDepth g_forDepth g_outCap g_nt g_vn g_on g_divErr g_status g_stopLine g_steps g_pos g_outN g_gsp g_fsp : Int32} {b_src b_lnStart b_lnEnd b_lnNum b_tk b_tv b_vs b_os b_vars b_out b_gStack b_fVar b_fLim b_fBody : Nat → Int32} {x : Int32} (t : Nat) (ht : 40201 ≤ t ∧ t ≤ 40206) (hx : x = nI (tb_kf t)) (hp : post (nI (tb_rk t))) : wpY_prec post (g_len, g_nLines, g_compiled, g_errLine, g_gosubDepth, g_forDepth, g_outCap, g_nt, g_vn, g_on, g_divErr, g_status, g_stopLine, g_steps, g_pos, g_outN, g_gsp, g_fsp, b_src, b_lnStart, b_lnEnd, b_lnNum, b_tk, b_tv, b_vs, b_os, b_vars, b_out, b_gStack, b_fVar, b_fLim, b_fBody) x := by
  have k := tb_hkf ht
  have A : ∀ r, tb_rk t = r → post (nI r) := fun r e => by rw [← e]; exact hp
  have R : (t = 40201 → tb_rk t = 1) ∧ (t = 40202 → tb_rk t = 1) ∧ (t = 40203 → tb_rk t = 2) ∧ (t = 40204 → tb_rk t = 2) ∧ (t = 40205 → tb_rk t = 3) ∧ (t = 40206 → tb_rk t = 0) := by
    refine ⟨fun e => ?_, fun e => ?_, fun e => ?_, fun e => ?_, fun e => ?_, fun e => ?_⟩ <;> subst e <;> decide
  exact pk_eq (tb_kf t) 85 (fun z => A 3 (by omega)) (fun n1 => pk_eq (tb_kf t) 42 (fun z => A 2 (by omega)) (fun n2 => pk_eq (tb_kf t) 47 (fun z => A 2 (by omega)) (fun n3 => pk_eq (tb_kf t) 43 (fun z => A 1 (by omega)) (fun n4 => pk_eq (tb_kf t) 45 (fun z => A 1 (by omega)) (fun n5 => A 0 (by omega)) hx rfl (by omega) (by omega)) hx rfl (by omega) (by omega)) hx rfl (by omega) (by omega)) hx rfl (by omega) (by omega)) hx rfl (by omega) (by omega)
theorem tb_sk_kh {a : Nat → Int32} {t : Nat} {h : List Nat} (s : tb_sk a ((t :: h).map (fun t => nI (tb_kf t)))) : a h.length = nI (tb_kf t) := by
  have := s.1
  rw [List.length_map] at this
  exact this
theorem tb_sk_kr {a : Nat → Int32} (r : Nat) : ∀ {h : List Nat}, tb_sk a (h.map (fun t => nI (tb_kf t))) → tb_sk a ((tb_rr r h).map (fun t => nI (tb_kf t)))
  | [], s => s
  | t :: h, s => by
    unfold tb_rr
    split
    · exact tb_sk_kr r (h := h) s.2
    · exact s
theorem tb_sk_kt {a : Nat → Int32} {h : List Nat} (s : tb_sk a (h.map (fun t => nI (tb_kf t)))) : tb_sk a (h.tail.map (fun t => nI (tb_kf t))) := by
  cases h with
  | nil => exact s
  | cons t h => exact s.2
theorem tb_sk_kp {a : Nat → Int32} {h : List Nat} (t : Nat) (s : tb_sk a (h.map (fun t => nI (tb_kf t)))) : tb_sk (upd a h.length (nI (tb_kf t))) ((t :: h).map (fun t => nI (tb_kf t))) := by
  have := tb_sk_push (x := nI (tb_kf t)) s
  rw [List.length_map] at this
  exact this
section
variable {g_len g_nLines g_compiled g_errLine g_gosubDepth g_forDepth g_outCap g_nt g_status g_stopLine g_steps g_pos g_outN g_gsp g_fsp : Int32} {b_src b_lnStart b_lnEnd b_lnNum b_tk b_tv b_os b_vars b_out b_gStack b_fVar b_fLim b_fBody : Nat → Int32}
theorem yy_red {post : SY → Prop} {t : Nat} {h : List Nat} {s : List Int32} {b : Bool} {b_vs : Nat → Int32} (V : Nat → Int32) (ht : 40201 ≤ t ∧ t ≤ 40205) (hl : h.length < 40) (ho : tb_sk b_os ((t :: h).map (fun t => nI (tb_kf t)))) (hs : tb_sk b_vs s) (h40 : s.length ≤ 40)
    (hp : ∀ vs, tb_sk vs (tb_e1 V (s, b) t).1 → post (g_len, g_nLines, g_compiled, g_errLine, g_gosubDepth, g_forDepth, g_outCap, g_nt, nI (tb_e1 V (s, b) t).1.length, nI h.length, tb_bi (tb_e1 V (s, b) t).2, g_status, g_stopLine, g_steps, g_pos, g_outN, g_gsp, g_fsp, b_src, b_lnStart, b_lnEnd, b_lnNum, b_tk, b_tv, vs, b_os, b_vars, b_out, b_gStack, b_fVar, b_fLim, b_fBody)) : wpY_reduce post (g_len, g_nLines, g_compiled, g_errLine, g_gosubDepth, g_forDepth, g_outCap, g_nt, nI s.length, nI (h.length + 1), tb_bi b, g_status, g_stopLine, g_steps, g_pos, g_outN, g_gsp, g_fsp, b_src, b_lnStart, b_lnEnd, b_lnNum, b_tk, b_tv, b_vs, b_os, b_vars, b_out, b_gStack, b_fVar, b_fLim, b_fBody) := by
  have k := tb_hkf (t := t) (by omega)
  have rd : b_os (nI h.length).toNatClampNeg = nI (tb_kf t) := by rw [nI_clamp (by omega)]; exact tb_sk_kh ho
  refine pk_lt 0 (h.length + 1) (fun _ => nm_r (nI_pred h.length) ⟨vp_in_nI (by omega) (by omega), nm_r rd ?_⟩) (fun z => absurd z (by omega))
  by_cases n5 : t = 40205
  · subst n5
    refine br_t rfl ?_
    cases s with
    | nil => exact br_t (by decide) (hp b_vs hs)
    | cons x r =>
      simp only [List.length_cons] at h40
      have v1 : vp_in (nI (r.length + 1) - 1) 41 := pk_in r.length 41 (by omega) (nI_pred r.length)
      have cl : (nI (r.length + 1) - 1).toNatClampNeg = r.length := by rw [nI_pred, nI_clamp (by omega)]
      have h1 : b_vs r.length = x := hs.1
      refine br_f (nI_nle (n := r.length + 1) (by omega) (by omega)) ⟨v1, v1, nm_r (e' := upd b_vs r.length (-x)) ?_ (hp _ (tb_sk_push hs.2))⟩
      show upd b_vs (nI (r.length + 1) - 1).toNatClampNeg (-(b_vs (nI (r.length + 1) - 1).toNatClampNeg)) = _
      rw [cl, h1]
  · refine pk_eq (tb_kf t) 85 (fun z => absurd z (by omega)) (fun _ => ?_)
    match s, hs, h40, hp with
    | [], hs, h40, hp =>
      have e : tb_e1 V ([], b) t = ([], b) := by unfold tb_e1; rw [if_neg (by omega), if_neg (by omega), if_neg n5]
      rw [e] at hp
      exact br_f (by decide) (hp b_vs hs)
    | [x], hs, h40, hp =>
      have e : tb_e1 V ([x], b) t = ([x], b) := by unfold tb_e1; rw [if_neg (by omega), if_neg (by omega), if_neg n5]
      rw [e] at hp
      exact br_f (show ¬ 2 ≤ nI 1 from by decide) (hp b_vs hs)
    | y :: x :: r, hs, h40, hp =>
      simp only [List.length_cons] at h40
      have h1 : b_vs (r.length + 1) = y := hs.1
      have h2 : b_vs r.length = x := hs.2.1
      rw [tb_e1_bin (by omega)] at hp
      have e2 : nI (r.length + 1 + 1) - 2 = nI r.length := pk_sub (b := 2) (by omega)
      have rY : b_vs (nI (r.length + 1 + 1) - 1).toNatClampNeg = y := by rw [nI_pred, nI_clamp (by omega)]; exact h1
      have rX : b_vs (nI (r.length + 1 + 1) - 2).toNatClampNeg = x := by rw [e2, nI_clamp (by omega)]; exact h2
      have R : ∀ z, tb_cb t x y = z → (b || decide (t = 40204 ∧ y = 0)) = b → wY_reduce_170 post z g_len g_nLines g_compiled g_errLine g_gosubDepth g_forDepth g_outCap g_nt (nI (r.length + 1)) (nI h.length) (tb_bi b) g_status g_stopLine g_steps g_pos g_outN g_gsp g_fsp b_src b_lnStart b_lnEnd b_lnNum b_tk b_tv b_vs b_os b_vars b_out b_gStack b_fVar b_fLim b_fBody := fun z hz hb => by
        rw [hz, hb] at hp
        exact ⟨pk_in r.length 41 (by omega) (nI_pred r.length), nm_r (e' := upd b_vs r.length z) (by rw [nI_pred, nI_clamp (by omega)]) (hp _ (tb_sk_push hs.2.2))⟩
      have B : t ≠ 40204 ∨ ¬ y = 0 → (b || decide (t = 40204 ∧ y = 0)) = b := fun q => by
        rw [decide_eq_false (fun w => q.elim (fun a => a w.1) (fun a => a w.2)), Bool.or_false]
      have CB : ∀ k z, t = k → tb_cb k x y = z → tb_cb t x y = z := fun k z e q => by rw [e]; exact q
      show (2 ≤ nI (r.length + 1 + 1) → _) ∧ (¬ 2 ≤ nI (r.length + 1 + 1) → _)
      refine pk_le 2 (r.length + 1 + 1) (fun _ => ⟨pk_in (r.length + 1) 41 (by omega) (nI_pred (r.length + 1)), nm_r (e' := y) rY ⟨pk_in r.length 41 (by omega) e2, nm_r (e' := x) rX (nm_r (nI_pred (r.length + 1)) (pk_eq (tb_kf t) 43 (fun z => nm_e (R _ (CB 40201 _ (by omega) rfl) (B (by omega)))) (fun n1 => pk_eq (tb_kf t) 45 (fun z => nm_e (R _ (CB 40202 _ (by omega) rfl) (B (by omega)))) (fun n2 => pk_eq (tb_kf t) 42 (fun z => nm_e (R _ (CB 40203 _ (by omega) rfl) (B (by omega)))) (fun n3 => ?_)))))⟩⟩) (fun z => absurd z (by omega))
      have t4 : t = 40204 := by omega
      by_cases y0 : y = 0
      · refine br_t y0 ?_
        have e3 : tb_cb t x y = 0 := by rw [t4]; show (if y = 0 then 0 else x / y) = 0; exact if_pos y0
        have e4 : (b || decide (t = 40204 ∧ y = 0)) = true := by rw [decide_eq_true ⟨t4, y0⟩, Bool.or_true]
        rw [e3, e4] at hp
        exact ⟨pk_in r.length 41 (by omega) (nI_pred r.length), nm_r (e' := upd b_vs r.length 0) (by rw [nI_pred, nI_clamp (by omega)]) (hp _ (tb_sk_push hs.2.2))⟩
      · refine br_f y0 ⟨y0, nm_e (R _ ?_ (B (Or.inr y0)))⟩
        rw [t4]
        show (if y = 0 then 0 else x / y) = x / y
        exact if_neg y0
end
section
variable {g_len g_nLines g_compiled g_errLine g_gosubDepth g_forDepth g_outCap g_nt g_status g_stopLine g_steps g_pos g_outN g_gsp g_fsp : Int32} {b_src b_lnStart b_lnEnd b_lnNum b_tk b_tv b_os b_vars b_out b_gStack b_fVar b_fLim b_fBody : Nat → Int32} {post : Int32 → SY → Prop} {J20 : Int32 → Int32 → Int32 → Int32 → Int32 → Int32 → Int32 → Int32 → Int32 → Int32 → Int32 → Int32 → Int32 → Int32 → Int32 → Int32 → Int32 → Int32 → Int32 → Int32 → (Nat → Int32) → (Nat → Int32) → (Nat → Int32) → (Nat → Int32) → (Nat → Int32) → (Nat → Int32) → (Nat → Int32) → (Nat → Int32) → (Nat → Int32) → (Nat → Int32) → (Nat → Int32) → (Nat → Int32) → (Nat → Int32) → (Nat → Int32) → Prop} (V : Nat → Int32)
theorem yy_251L {x2 x4 x5 : Int32} {r : Nat} (hr : 0 < r ∧ r ≤ 3) : ∀ (h : List Nat) (s : List Int32) (b : Bool) (b_vs : Nat → Int32) (g : Nat), tb_hk h → tb_sk b_os (h.map (fun t => nI (tb_kf t))) → tb_sk b_vs s → h.length + s.length ≤ 40 → g + h.length ≤ 40 →
    (∀ vs, tb_sk vs (tb_ev V (tb_rp r h) (s, b)).1 → wY_eval_311 post J20 x2 x4 x5 g_len g_nLines g_compiled g_errLine g_gosubDepth g_forDepth g_outCap g_nt (nI (tb_ev V (tb_rp r h) (s, b)).1.length) (nI (tb_rr r h).length) (tb_bi (tb_ev V (tb_rp r h) (s, b)).2) g_status g_stopLine g_steps g_pos g_outN g_gsp g_fsp b_src b_lnStart b_lnEnd b_lnNum b_tk b_tv vs b_os b_vars b_out b_gStack b_fVar b_fLim b_fBody) →
    wY_eval_251 post J20 x2 x4 x5 (nI r) (h.length + 1) (nI g) g_len g_nLines g_compiled g_errLine g_gosubDepth g_forDepth g_outCap g_nt (nI s.length) (nI h.length) (tb_bi b) g_status g_stopLine g_steps g_pos g_outN g_gsp g_fsp b_src b_lnStart b_lnEnd b_lnNum b_tk b_tv b_vs b_os b_vars b_out b_gStack b_fVar b_fLim b_fBody
  | [], s, b, b_vs, g, hk, ho, hs, hl, hg, K => pk_le 41 g (fun z => absurd z (by omega)) (fun _ => br_t (by decide) (K b_vs hs))
  | t :: h, s, b, b_vs, g, hk, ho, hs, hl, hg, K => by
    simp only [List.length_cons] at hl hg
    have k1 := tb_hk_h hk
    have kf := tb_hkf k1
    have rp := tb_rk_pos (t := t)
    have rd : b_os (nI (h.length + 1) - 1).toNatClampNeg = nI (tb_kf t) := by rw [nI_pred, nI_clamp (by omega)]; exact tb_sk_kh ho
    have v1 : vp_in (nI (h.length + 1) - 1) 41 := pk_in h.length 41 (by omega) (nI_pred h.length)
    have b3 := tb_rk_le t
    have E : ¬ r ≤ tb_rk t → wY_eval_311 post J20 x2 x4 x5 g_len g_nLines g_compiled g_errLine g_gosubDepth g_forDepth g_outCap g_nt (nI s.length) (nI (h.length + 1)) (tb_bi b) g_status g_stopLine g_steps g_pos g_outN g_gsp g_fsp b_src b_lnStart b_lnEnd b_lnNum b_tk b_tv b_vs b_os b_vars b_out b_gStack b_fVar b_fLim b_fBody := fun z => by
      have e1 : tb_rp r (t :: h) = [] := if_neg z
      have e2 : tb_rr r (t :: h) = t :: h := if_neg z
      rw [e1, e2] at K
      exact K b_vs hs
    show wY_eval_251 post J20 x2 x4 x5 (nI r) (h.length + 1 + 1) (nI g) g_len g_nLines g_compiled g_errLine g_gosubDepth g_forDepth g_outCap g_nt (nI s.length) (nI (h.length + 1)) (tb_bi b) g_status g_stopLine g_steps g_pos g_outN g_gsp g_fsp b_src b_lnStart b_lnEnd b_lnNum b_tk b_tv b_vs b_os b_vars b_out b_gStack b_fVar b_fLim b_fBody
    refine pk_le 41 g (fun z => absurd z (by omega)) (fun _ => br_f (nI_nle (by omega) (by omega)) ⟨v1, pk_eq (tb_kf t) 40 (fun z => E ?_) (fun z => ⟨v1, yy_prec t k1 rd (pk_lt (tb_rk t) r (fun y => E (by omega)) (fun y => ?_))⟩) rd rfl (by omega) (by omega)⟩)
    · intro q
      have := rp.mp (by omega)
      omega
    · have e1 : tb_rp r (t :: h) = t :: tb_rp r h := if_pos y
      have e2 : tb_rr r (t :: h) = tb_rr r h := if_pos y
      rw [e1, e2] at K
      have t5 := rp.mp (by omega)
      have len := tb_e1_len V (s, b) t
      refine yy_red V (by omega) (by omega) ho hs (by omega) (fun vs hv => nm_r (nI_1 g) ?_)
      exact yy_251L hr h (tb_e1 V (s, b) t).1 (tb_e1 V (s, b) t).2 vs (g + 1) (tb_hk_t hk) ho.2 hv (by dsimp only at len; omega) (by omega) K
theorem yy_180L {x2 x3 x4 : Int32} : ∀ (h : List Nat) (s : List Int32) (b : Bool) (b_vs : Nat → Int32) (g : Nat), tb_hk h → tb_sk b_os (h.map (fun t => nI (tb_kf t))) → tb_sk b_vs s → h.length + s.length ≤ 40 → g + h.length ≤ 40 →
    (∀ vs, tb_sk vs (tb_ev V (tb_rp 1 h) (s, b)).1 → wY_eval_220 post J20 x2 x3 x4 g_len g_nLines g_compiled g_errLine g_gosubDepth g_forDepth g_outCap g_nt (nI (tb_ev V (tb_rp 1 h) (s, b)).1.length) (nI (tb_rr 1 h).length) (tb_bi (tb_ev V (tb_rp 1 h) (s, b)).2) g_status g_stopLine g_steps g_pos g_outN g_gsp g_fsp b_src b_lnStart b_lnEnd b_lnNum b_tk b_tv vs b_os b_vars b_out b_gStack b_fVar b_fLim b_fBody) →
    wY_eval_180 post J20 x2 x3 x4 (h.length + 1) (nI g) g_len g_nLines g_compiled g_errLine g_gosubDepth g_forDepth g_outCap g_nt (nI s.length) (nI h.length) (tb_bi b) g_status g_stopLine g_steps g_pos g_outN g_gsp g_fsp b_src b_lnStart b_lnEnd b_lnNum b_tk b_tv b_vs b_os b_vars b_out b_gStack b_fVar b_fLim b_fBody
  | [], s, b, b_vs, g, hk, ho, hs, hl, hg, K => pk_le 41 g (fun z => absurd z (by omega)) (fun _ => br_t (by decide) (K b_vs hs))
  | t :: h, s, b, b_vs, g, hk, ho, hs, hl, hg, K => by
    simp only [List.length_cons] at hl hg
    have k1 := tb_hk_h hk
    have kf := tb_hkf k1
    have rp := tb_rk_pos (t := t)
    have rd : b_os (nI (h.length + 1) - 1).toNatClampNeg = nI (tb_kf t) := by rw [nI_pred, nI_clamp (by omega)]; exact tb_sk_kh ho
    have v1 : vp_in (nI (h.length + 1) - 1) 41 := pk_in h.length 41 (by omega) (nI_pred h.length)
    show wY_eval_180 post J20 x2 x3 x4 (h.length + 1 + 1) (nI g) g_len g_nLines g_compiled g_errLine g_gosubDepth g_forDepth g_outCap g_nt (nI s.length) (nI (h.length + 1)) (tb_bi b) g_status g_stopLine g_steps g_pos g_outN g_gsp g_fsp b_src b_lnStart b_lnEnd b_lnNum b_tk b_tv b_vs b_os b_vars b_out b_gStack b_fVar b_fLim b_fBody
    refine pk_le 41 g (fun z => absurd z (by omega)) (fun _ => br_f (nI_nle (by omega) (by omega)) ⟨v1, pk_eq (tb_kf t) 40 (fun z => ?_) (fun z => ?_) rd rfl (by omega) (by omega)⟩)
    · have ng : ¬ 1 ≤ tb_rk t := fun q => by
        have := rp.mp (by omega)
        omega
      have e1 : tb_rp 1 (t :: h) = [] := if_neg ng
      have e2 : tb_rr 1 (t :: h) = t :: h := if_neg ng
      rw [e1, e2] at K
      exact K b_vs hs
    · have y : 1 ≤ tb_rk t := rp.mpr (by omega)
      have e1 : tb_rp 1 (t :: h) = t :: tb_rp 1 h := if_pos y
      have e2 : tb_rr 1 (t :: h) = tb_rr 1 h := if_pos y
      rw [e1, e2] at K
      have len := tb_e1_len V (s, b) t
      refine yy_red V (by omega) (by omega) ho hs (by omega) (fun vs hv => nm_r (nI_1 g) ?_)
      exact yy_180L h (tb_e1 V (s, b) t).1 (tb_e1 V (s, b) t).2 vs (g + 1) (tb_hk_t hk) ho.2 hv (by dsimp only at len; omega) (by omega) K
theorem yy_352L : ∀ (h : List Nat) (s : List Int32) (b : Bool) (b_vs : Nat → Int32) (g : Nat), tb_hk h → tb_rr 1 h = [] → tb_sk b_os (h.map (fun t => nI (tb_kf t))) → tb_sk b_vs s → h.length + s.length ≤ 40 → g + h.length ≤ 40 →
    (∀ vs, tb_sk vs (tb_ev V (tb_rp 1 h) (s, b)).1 → wY_eval_376 post g_len g_nLines g_compiled g_errLine g_gosubDepth g_forDepth g_outCap g_nt (nI (tb_ev V (tb_rp 1 h) (s, b)).1.length) 0 (tb_bi (tb_ev V (tb_rp 1 h) (s, b)).2) g_status g_stopLine g_steps g_pos g_outN g_gsp g_fsp b_src b_lnStart b_lnEnd b_lnNum b_tk b_tv vs b_os b_vars b_out b_gStack b_fVar b_fLim b_fBody) →
    wY_eval_352 post (h.length + 1) (nI g) g_len g_nLines g_compiled g_errLine g_gosubDepth g_forDepth g_outCap g_nt (nI s.length) (nI h.length) (tb_bi b) g_status g_stopLine g_steps g_pos g_outN g_gsp g_fsp b_src b_lnStart b_lnEnd b_lnNum b_tk b_tv b_vs b_os b_vars b_out b_gStack b_fVar b_fLim b_fBody
  | [], s, b, b_vs, g, hk, hr, ho, hs, hl, hg, K => pk_le 41 g (fun z => absurd z (by omega)) (fun _ => br_t (by decide) (K b_vs hs))
  | t :: h, s, b, b_vs, g, hk, hr, ho, hs, hl, hg, K => by
    simp only [List.length_cons] at hl hg
    have k1 := tb_hk_h hk
    have y : 1 ≤ tb_rk t := by
      rcases Nat.lt_or_ge (tb_rk t) 1 with z | z
      · have e2 : tb_rr 1 (t :: h) = t :: h := if_neg (by omega)
        rw [e2] at hr; cases hr
      · exact z
    have rp := (tb_rk_pos (t := t)).mp (by omega)
    have e1 : tb_rp 1 (t :: h) = t :: tb_rp 1 h := if_pos y
    have e2 : tb_rr 1 (t :: h) = tb_rr 1 h := if_pos y
    rw [e2] at hr
    rw [e1] at K
    have len := tb_e1_len V (s, b) t
    show wY_eval_352 post (h.length + 1 + 1) (nI g) g_len g_nLines g_compiled g_errLine g_gosubDepth g_forDepth g_outCap g_nt (nI s.length) (nI (h.length + 1)) (tb_bi b) g_status g_stopLine g_steps g_pos g_outN g_gsp g_fsp b_src b_lnStart b_lnEnd b_lnNum b_tk b_tv b_vs b_os b_vars b_out b_gStack b_fVar b_fLim b_fBody
    refine pk_le 41 g (fun z => absurd z (by omega)) (fun _ => br_f (nI_nle (by omega) (by omega)) (yy_red V (by omega) (by omega) ho hs (by omega) (fun vs hv => nm_r (nI_1 g) ?_)))
    exact yy_352L h (tb_e1 V (s, b) t).1 (tb_e1 V (s, b) t).2 vs (g + 1) (tb_hk_t hk) hr ho.2 hv (by dsimp only at len; omega) (by omega) K
end
