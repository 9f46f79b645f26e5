/-! ===== compile, two objects line by line ===== -/
/-- the program as an object keeps it, against its picture: lines, order, numbers, tokens -/
def tb_pg0 (nl : Nat) (O N : Nat → Nat) (LL : Nat → List Nat) (po ln lk lv lr cd cs ce : Nat → Int32) (cl : Nat) : Prop :=
  tb_ord nl O N po ln ln ∧ ∀ l, l < nl → (LL l).length ≤ 40 ∧ (∀ t, t ∈ LL l → tb_ok t) ∧ tb_lo (LL l) l ln lk lv lr cd cs ce cl
theorem tb_pg0_0 {O N : Nat → Nat} {LL : Nat → List Nat} {po ln lk lv lr cd cs ce : Nat → Int32} {cl : Nat} : tb_pg0 0 O N LL po ln lk lv lr cd cs ce cl := ⟨tb_ord_0, fun l hl => by omega⟩
theorem tb_pg0_new {nl cl cl' s e q : Nat} {C O N : Nat → Nat} {LL : Nat → List Nat} {L : List Nat} {po ln lk lv lr cd cs ce po' ln' lk' lv' lr' cd' cs' ce' : Nat → Int32} (h : tb_pg0 nl O N LL po ln lk lv lr cd cs ce cl) (hq : tb_tz C e 40 s = some L)
    (d2 : ∀ yn', (∀ l, l < nl → yn' l = ln l) → yn' nl = nI (tb_T L 0) → tb_ord (nl + 1) (fun p => if p < q then O p else if p = q then nl else O (p - 1)) (fun l => if l < nl then N l else tb_T L 0) po' ln' yn')
    (d3 : ∀ l L', l < nl → tb_lo L' l ln lk lv lr cd cs ce cl → tb_lo L' l ln' lk' lv' lr' cd' cs' ce' cl') (d4 : tb_lo L nl ln' lk' lv' lr' cd' cs' ce' cl') (d5 : ∀ l, l < nl → ln' l = ln l) :
    tb_pg0 (nl + 1) (fun p => if p < q then O p else if p = q then nl else O (p - 1)) (fun l => if l < nl then N l else tb_T L 0) (fun l => if l < nl then LL l else L) po' ln' lk' lv' lr' cd' cs' ce' cl' := by
  refine ⟨d2 ln' d5 d4.2.2.2.1, fun l hl => ?_⟩
  dsimp only
  by_cases z : l < nl
  · rw [if_pos z]
    have ⟨a, b, c⟩ := h.2 l z
    exact ⟨a, b, d3 l _ z c⟩
  · have e1 : l = nl := by omega
    subst e1
    rw [if_neg z]
    have ⟨a, _, c⟩ := tb_tz_ok C e 40 s L hq
    exact ⟨a, c, d4⟩
section
variable {f_gosubDepth f_forDepth f_outCap f_dividedByZero f_status f_stopLine f_steps f_position f_outputCount f_gosubCount f_frameCount : Int32} {a_operands a_variables a_output a_returnTo a_frameVariable a_frameLimit a_frameBody : Nat → Int32} {g_gosubDepth g_forDepth g_outCap g_dividedByZero g_status g_stopLine g_steps g_position g_outputCount g_gosubCount g_frameCount : Int32} {b_operands b_variables b_output b_returnTo b_frameVariable b_frameLimit b_frameBody : Nat → Int32} {C : Nat → Nat} {n : Nat} {post : Int32 → St2 → Prop} {Z : (Int32 → St2 → Prop) → Prop}
theorem tb_comp (hC : ∀ j, C j < 127) (hn : n ≤ 256)
    (hE : ∀ (r : Int32) (k : Nat) (cl : Int32) (tc ta hc : Int32) (tk hd ln lk lv lr cd cs ce po : Nat → Int32), ¬ r = 0 → post r (f_gosubDepth, f_forDepth, f_outCap, nI n, 0, nI k, tc, ta, hc, 0, cl, f_dividedByZero, f_status, f_stopLine, f_steps, f_position, f_outputCount, f_gosubCount, f_frameCount, tb_S C, tk, hd, po, ln, lk, lv, lr, cd, cs, ce, a_operands, a_variables, a_output, a_returnTo, a_frameVariable, a_frameLimit, a_frameBody))
    (hG : ∀ (nl : Nat) (O N : Nat → Nat) (LL : Nat → List Nat) (cl : Nat) (tc ta hc : Int32) (tk hd ln lk lv lr cd cs ce po : Nat → Int32), cl ≤ 256 → tb_pg0 nl O N LL po ln lk lv lr cd cs ce cl → (∀ Q : Int32 → St2 → Prop, (∀ (cl : Nat) (tc ta hc : Int32) (tk hd ln lk lv lr cd cs ce po : Nat → Int32), cl ≤ 256 → tb_pg0 nl O N LL po ln lk lv lr cd cs ce cl → Q 0 (g_gosubDepth, g_forDepth, g_outCap, nI n, 1, 0, tc, ta, hc, nI nl, nI cl, g_dividedByZero, g_status, g_stopLine, g_steps, g_position, g_outputCount, g_gosubCount, g_frameCount, tb_S C, tk, hd, po, ln, lk, lv, lr, cd, cs, ce, b_operands, b_variables, b_output, b_returnTo, b_frameVariable, b_frameLimit, b_frameBody)) → Z Q) → post 0 (f_gosubDepth, f_forDepth, f_outCap, nI n, 1, 0, tc, ta, hc, nI nl, nI cl, f_dividedByZero, f_status, f_stopLine, f_steps, f_position, f_outputCount, f_gosubCount, f_frameCount, tb_S C, tk, hd, po, ln, lk, lv, lr, cd, cs, ce, a_operands, a_variables, a_output, a_returnTo, a_frameVariable, a_frameLimit, a_frameBody)) :
    ∀ (D s k nl cl F : Nat) (O N : Nat → Nat) (LL : Nat → List Nat) (tc ta hc : Int32) (tk hd ln lk lv lr cd cs ce po : Nat → Int32), n < s + D → s ≤ n → k ≤ s → n + 2 ≤ F + s → cl ≤ s → tb_pg0 nl O N LL po ln lk lv lr cd cs ce cl →
    (∀ Q : Int32 → St2 → Prop, (∀ (F cl : Nat) (tc ta hc : Int32) (tk hd ln lk lv lr cd cs ce po : Nat → Int32), n + 2 ≤ F + s → cl ≤ s → tb_pg0 nl O N LL po ln lk lv lr cd cs ce cl → wX_compile_13 Q F 0 (nI k) (nI s) (nI s) g_gosubDepth g_forDepth g_outCap (nI n) 0 0 tc ta hc (nI nl) (nI cl) g_dividedByZero g_status g_stopLine g_steps g_position g_outputCount g_gosubCount g_frameCount (tb_S C) tk hd po ln lk lv lr cd cs ce b_operands b_variables b_output b_returnTo b_frameVariable b_frameLimit b_frameBody) → Z Q) →
    wX_compile_13 post F 0 (nI k) (nI s) (nI s) f_gosubDepth f_forDepth f_outCap (nI n) 0 0 tc ta hc (nI nl) (nI cl) f_dividedByZero f_status f_stopLine f_steps f_position f_outputCount f_gosubCount f_frameCount (tb_S C) tk hd po ln lk lv lr cd cs ce a_operands a_variables a_output a_returnTo a_frameVariable a_frameLimit a_frameBody
  | 0, s, k, nl, cl, F, O, N, LL, tc, ta, hc, tk, hd, ln, lk, lv, lr, cd, cs, ce, po, hD, hs, hk, hF, hcl, ho, HY => absurd hD (by omega)
  | D + 1, s, k, nl, cl, F, O, N, LL, tc, ta, hc, tk, hd, ln, lk, lv, lr, cd, cs, ce, po, hD, hs, hk, hF, hcl, ho, HY => by
    have ⟨e1, e2⟩ := tb_le_in C (n - s) s
    generalize hee : tb_le C (n - s) s = e at e1 e2
    refine xx_scanL hC hn (e := e) (fun G hG' => ?_) (n - s) s F (by omega) hee (by omega)
    refine nm_r (nI_1 k) ?_
    have b16 := ho.1.1
    have EX : ∀ (r : Int32) (cl' : Int32) (tc ta hc : Int32) (tk hd ln lk lv lr cd cs ce po : Nat → Int32), ¬ r = 0 → wX_compile_13 post G r (nI (k + 1)) (nI (e + 1)) (nI (e + 1)) f_gosubDepth f_forDepth f_outCap (nI n) 0 0 tc ta hc (nI nl) cl' f_dividedByZero f_status f_stopLine f_steps f_position f_outputCount f_gosubCount f_frameCount (tb_S C) tk hd po ln lk lv lr cd cs ce a_operands a_variables a_output a_returnTo a_frameVariable a_frameLimit a_frameBody :=
      fun r cl' tc ta hc tk hd ln lk lv lr cd cs ce po hr => xx_cerr (by omega) hr (hE r (k + 1) cl' tc ta hc tk hd ln lk lv lr cd cs ce po hr)
    have NX : ∀ (nl cl : Nat) (O N : Nat → Nat) (LL : Nat → List Nat) (tc ta hc : Int32) (tk hd ln lk lv lr cd cs ce po : Nat → Int32), cl ≤ e → tb_pg0 nl O N LL po ln lk lv lr cd cs ce cl →
        (∀ Q : Int32 → St2 → Prop, (∀ (F cl : Nat) (tc ta hc : Int32) (tk hd ln lk lv lr cd cs ce po : Nat → Int32), n + 1 ≤ F + e → cl ≤ e → tb_pg0 nl O N LL po ln lk lv lr cd cs ce cl → wX_compile_13 Q F 0 (nI (k + 1)) (nI (e + 1)) (nI (e + 1)) g_gosubDepth g_forDepth g_outCap (nI n) 0 0 tc ta hc (nI nl) (nI cl) g_dividedByZero g_status g_stopLine g_steps g_position g_outputCount g_gosubCount g_frameCount (tb_S C) tk hd po ln lk lv lr cd cs ce b_operands b_variables b_output b_returnTo b_frameVariable b_frameLimit b_frameBody) → Z Q) →
        wX_compile_13 post G 0 (nI (k + 1)) (nI (e + 1)) (nI (e + 1)) f_gosubDepth f_forDepth f_outCap (nI n) 0 0 tc ta hc (nI nl) (nI cl) f_dividedByZero f_status f_stopLine f_steps f_position f_outputCount f_gosubCount f_frameCount (tb_S C) tk hd po ln lk lv lr cd cs ce a_operands a_variables a_output a_returnTo a_frameVariable a_frameLimit a_frameBody :=
      fun nl cl O N LL tc ta hc tk hd ln lk lv lr cd cs ce po h1 h2 h4 => by
        by_cases z : e < n
        · exact tb_comp hC hn hE hG D (e + 1) (k + 1) nl cl G O N LL tc ta hc tk hd ln lk lv lr cd cs ce po (by omega) (by omega) (by omega) (by omega) (by omega) h2 (fun Q w => h4 Q (fun F cl tc ta hc tk hd ln lk lv lr cd cs ce po g1 g2 g3 => w F cl tc ta hc tk hd ln lk lv lr cd cs ce po (by omega) (by omega) g3))
        · exact xx_cend (by omega) hn (by omega) (by omega) (hG nl O N LL cl tc ta hc tk hd ln lk lv lr cd cs ce po (by omega) h2 (fun Q w => h4 Q (fun F cl tc ta hc tk hd ln lk lv lr cd cs ce po g1 g2 g3 => xx_cend (by omega) hn (by omega) (by omega) (w cl tc ta hc tk hd ln lk lv lr cd cs ce po (by omega) g3))))
    refine xx_line (yn := ln) hC e1 (by omega) hcl ho.1 (fun c => nm_r (nI_1 e) (nm_r (nI_1 e) (EX 4 _ _ _ _ _ _ _ _ _ _ _ _ _ _ (by decide)))) (fun c b => nm_r (nI_1 e) (nm_r (nI_1 e) (NX nl cl O N LL tc ta hc tk hd ln lk lv lr cd cs ce po (by omega) ho (fun Q w => HY Q (fun F' cl' tc ta hc tk hd ln lk lv lr cd cs ce po f1 f2 f3 => ?_))))) (fun c b h16 => nm_r (nI_1 e) (nm_r (nI_1 e) (EX 3 _ _ _ _ _ _ _ _ _ _ _ _ _ _ (by decide)))) (fun c b hnl hso tc' ta' hc' cl' tk' hd' ln' lk' lv' lr' cd' cs' ce' => nm_r (nI_1 e) (nm_r (nI_1 e) (EX 1 _ _ _ _ _ _ _ _ _ _ _ _ _ _ (by decide)))) (fun c b hnl L q so l l1 l2 tc' ta' hc' cl' tk' hd' ln' lk' lv' lr' cd' cs' ce' => nm_r (nI_1 e) (nm_r (nI_1 e) (EX 2 _ _ _ _ _ _ _ _ _ _ _ _ _ _ (by decide)))) (fun c b hnl L q so ne tc' ta' hc' cl' tk' hd' ln' lk' lv' lr' cd' cs' ce' po' r d1 d0 r0 r1 r2 d2 d3 d4 d5 => nm_r (nI_1 e) (nm_r (nI_1 e) ?_))
    · refine xx_scanL hC hn (e := e) (fun G2 hG2 => nm_r (nI_1 k) ?_) (n - s) s F' (by omega) hee (by omega)
      exact xx_line (yn := ln) hC e1 (by omega) f2 f3.1 (fun y => absurd y (by omega)) (fun _ _ => nm_r (nI_1 e) (nm_r (nI_1 e) (w G2 cl' tc ta hc tk hd ln lk lv lr cd cs ce po hG2 (by omega) f3))) (fun _ y => absurd b y) (fun _ y => absurd b y) (fun _ y => absurd b y) (fun _ y => absurd b y)
    · refine NX (nl + 1) cl' (fun p => if p < r then O p else if p = r then nl else O (p - 1)) (fun l => if l < nl then N l else tb_T L 0) (fun l => if l < nl then LL l else L) tc' ta' hc' tk' hd' ln' lk' lv' lr' cd' cs' ce' po' d1 (tb_pg0_new ho q d2 d3 d4 d5) (fun Q w => HY Q (fun F' cl2 tc ta hc tk hd ln lk lv lr cd cs ce po f1 f2 f3 => ?_))
      refine xx_scanL hC hn (e := e) (fun G2 hG2 => nm_r (nI_1 k) ?_) (n - s) s F' (by omega) hee (by omega)
      refine xx_line (yn := ln) hC e1 (by omega) f2 f3.1 (fun y => absurd y (by omega)) (fun _ y => absurd y b) (fun _ _ y => absurd y (by omega)) (fun _ _ _ y => absurd so (y L q)) (fun _ _ _ L' y _ l l1 l2 => absurd l2 (by rw [q] at y; cases y; exact ne l l1)) (fun _ _ _ L' y _ _ tc2 ta2 hc2 cl3 tk2 hd2 ln2 lk2 lv2 lr2 cd2 cs2 ce2 po2 r' e1' e0' s0 s1 s2 e2' e3' e4' e5' => nm_r (nI_1 e) (nm_r (nI_1 e) ?_))
      have LL' : L = L' := by rw [q] at y; exact Option.some.inj y
      subst LL'
      have rr : r' = r := by
        rcases Nat.lt_trichotomy r' r with z | z | z
        · have x1 := r1 r' z
          have x2 := s2 r' (Nat.le_refl _) (by omega)
          omega
        · exact z
        · have x1 := s1 r z
          have x2 := r2 r (Nat.le_refl _) (by omega)
          omega
      subst rr
      exact w G2 cl3 tc2 ta2 hc2 tk2 hd2 ln2 lk2 lv2 lr2 cd2 cs2 ce2 po2 hG2 e1' (tb_pg0_new f3 q e2' e3' e4' e5')
end
