/-! ===== a line, and the program ===== -/
def tb_T (L : List Nat) (j : Nat) : Nat := L.getD j 0
/-- the expression from token p on: where it ends, its code -/
def tb_xe (L : List Nat) (p : Nat) : Option (Nat × List Nat) := tb_xp (tb_T L) L.length 42 p true [] []
def tb_iv (t : Nat) : Prop := 40000 ≤ t ∧ t < 40026
def tb_ir (t : Nat) : Prop := 40208 ≤ t ∧ t ≤ 40213
theorem tb_T_out {L : List Nat} {j : Nat} (h : L.length ≤ j) : tb_T L j = 0 := by
  unfold tb_T
  rw [List.getD_eq_getElem?_getD, List.getElem?_eq_none h]
  rfl
theorem tb_T_in {L : List Nat} {j : Nat} (h : tb_T L j ≠ 0) : j < L.length := by
  rcases Nat.lt_or_ge j L.length with z | z
  · exact z
  · exact absurd (tb_T_out z) h
theorem tb_T_mem {L : List Nat} {j : Nat} (h : j < L.length) : tb_T L j ∈ L := by
  unfold tb_T
  rw [List.getD_eq_getElem?_getD, List.getElem?_eq_getElem h]
  exact List.getElem_mem h
/-- the line is as the grammar asks -/
def tb_so (L : List Nat) : Prop := 2 ≤ L.length ∧ 1 ≤ tb_T L 0 ∧ tb_T L 0 ≤ 32767 ∧
  ((tb_T L 1 = 40101 ∧ tb_iv (tb_T L 2) ∧ tb_T L 3 = 40208 ∧ ∃ c, tb_xe L 4 = some (L.length, c)) ∨
   ((tb_T L 1 = 40102 ∨ tb_T L 1 = 40105 ∨ tb_T L 1 = 40106) ∧ ∃ c, tb_xe L 2 = some (L.length, c)) ∨
   (tb_T L 1 = 40103 ∧ ∃ a c1, tb_xe L 2 = some (a, c1) ∧ tb_ir (tb_T L a) ∧ ∃ b c2, tb_xe L (a + 1) = some (b, c2) ∧ tb_T L b = 40104 ∧ ∃ c3, tb_xe L (b + 1) = some (L.length, c3)) ∨
   (tb_T L 1 = 40108 ∧ tb_iv (tb_T L 2) ∧ tb_T L 3 = 40208 ∧ ∃ a c1, tb_xe L 4 = some (a, c1) ∧ tb_T L a = 40109 ∧ ∃ c2, tb_xe L (a + 1) = some (L.length, c2)) ∨
   (tb_T L 1 = 40110 ∧ tb_iv (tb_T L 2) ∧ L.length = 3) ∨
   ((tb_T L 1 = 40107 ∨ tb_T L 1 = 40111) ∧ L.length = 2))
/-- place k of the code holds c -/
def tb_slot (cd cs ce : Nat → Int32) (cl k : Nat) (c : List Nat) : Prop :=
  ∃ p, cs k = nI p ∧ ce k = nI (p + c.length) ∧ p + c.length ≤ cl ∧ tb_sg cd p (c.map nI)
/-- what the class keeps of a line -/
def tb_lo (L : List Nat) (l : Nat) (ln lk lv lr cd cs ce : Nat → Int32) (cl : Nat) : Prop :=
  2 ≤ L.length ∧ 1 ≤ tb_T L 0 ∧ tb_T L 0 ≤ 32767 ∧ ln l = nI (tb_T L 0) ∧ lk l = nI (tb_T L 1) ∧
  ((tb_T L 1 = 40101 ∧ tb_iv (tb_T L 2) ∧ lv l = nI (tb_T L 2 - 40000) ∧ tb_T L 3 = 40208 ∧ ∃ c, tb_xe L 4 = some (L.length, c) ∧ tb_slot cd cs ce cl (l * 3) c) ∨
   ((tb_T L 1 = 40102 ∨ tb_T L 1 = 40105 ∨ tb_T L 1 = 40106) ∧ ∃ c, tb_xe L 2 = some (L.length, c) ∧ tb_slot cd cs ce cl (l * 3) c) ∨
   (tb_T L 1 = 40103 ∧ ∃ a c1, tb_xe L 2 = some (a, c1) ∧ tb_slot cd cs ce cl (l * 3) c1 ∧ tb_ir (tb_T L a) ∧ lr l = nI (tb_T L a) ∧ ∃ b c2, tb_xe L (a + 1) = some (b, c2) ∧ tb_slot cd cs ce cl (l * 3 + 1) c2 ∧ tb_T L b = 40104 ∧ ∃ c3, tb_xe L (b + 1) = some (L.length, c3) ∧ tb_slot cd cs ce cl (l * 3 + 2) c3) ∨
   (tb_T L 1 = 40108 ∧ tb_iv (tb_T L 2) ∧ lv l = nI (tb_T L 2 - 40000) ∧ tb_T L 3 = 40208 ∧ ∃ a c1, tb_xe L 4 = some (a, c1) ∧ tb_slot cd cs ce cl (l * 3) c1 ∧ tb_T L a = 40109 ∧ ∃ c2, tb_xe L (a + 1) = some (L.length, c2) ∧ tb_slot cd cs ce cl (l * 3 + 1) c2) ∨
   (tb_T L 1 = 40110 ∧ tb_iv (tb_T L 2) ∧ lv l = nI (tb_T L 2 - 40000) ∧ L.length = 3) ∨
   ((tb_T L 1 = 40107 ∨ tb_T L 1 = 40111) ∧ L.length = 2))
theorem tb_slot_lo {cd cs ce cd' cs' ce' : Nat → Int32} {cl cl' k : Nat} {c : List Nat} (h : tb_slot cd cs ce cl k c) (hc : ∀ j, j < cl → cd' j = cd j) (h1 : cs' k = cs k) (h2 : ce' k = ce k) (hl : cl ≤ cl') : tb_slot cd' cs' ce' cl' k c := by
  obtain ⟨p, a, b, d, e⟩ := h
  refine ⟨p, h1.trans a, h2.trans b, by omega, tb_sg_lo e (fun j _ z => hc j ?_)⟩
  rw [List.length_map] at z
  omega
/-- a line is kept by what is written behind it -/
theorem tb_lo_lo {L : List Nat} {l : Nat} {ln lk lv lr cd cs ce ln' lk' lv' lr' cd' cs' ce' : Nat → Int32} {cl cl' : Nat} (h : tb_lo L l ln lk lv lr cd cs ce cl)
    (h1 : ln' l = ln l) (h2 : lk' l = lk l) (h3 : lv' l = lv l) (h4 : lr' l = lr l) (hc : ∀ j, j < cl → cd' j = cd j) (h5 : ∀ i, i < 3 → cs' (l * 3 + i) = cs (l * 3 + i)) (h6 : ∀ i, i < 3 → ce' (l * 3 + i) = ce (l * 3 + i)) (hl : cl ≤ cl') : tb_lo L l ln' lk' lv' lr' cd' cs' ce' cl' := by
  have S : ∀ i c, i < 3 → tb_slot cd cs ce cl (l * 3 + i) c → tb_slot cd' cs' ce' cl' (l * 3 + i) c := fun i c hi hs => tb_slot_lo hs hc (h5 i hi) (h6 i hi) hl
  have S0 : ∀ c, tb_slot cd cs ce cl (l * 3) c → tb_slot cd' cs' ce' cl' (l * 3) c := fun c hs => S 0 c (by omega) hs
  obtain ⟨a, b, c, d, e, f⟩ := h
  refine ⟨a, b, c, h1.trans d, h2.trans e, ?_⟩
  rcases f with ⟨x1, x2, x3, x4, y, x5, x6⟩ | ⟨x1, y, x5, x6⟩ | ⟨x1, y, z, x2, x3, x4, x5, y2, z2, x6, x7, x8, z3, x9, x10⟩ | ⟨x1, x2, x3, x4, y, z, x5, x6, x7, z2, x8, x9⟩ | ⟨x1, x2, x3, x4⟩ | x
  · exact Or.inl ⟨x1, x2, h3.trans x3, x4, y, x5, S0 _ x6⟩
  · exact Or.inr (Or.inl ⟨x1, y, x5, S0 _ x6⟩)
  · exact Or.inr (Or.inr (Or.inl ⟨x1, y, z, x2, S0 _ x3, x4, h4.trans x5, y2, z2, x6, S 1 _ (by omega) x7, x8, z3, x9, S 2 _ (by omega) x10⟩))
  · exact Or.inr (Or.inr (Or.inr (Or.inl ⟨x1, x2, h3.trans x3, x4, y, z, x5, S0 _ x6, x7, z2, x8, S 1 _ (by omega) x9⟩)))
  · exact Or.inr (Or.inr (Or.inr (Or.inr (Or.inl ⟨x1, x2, h3.trans x3, x4⟩))))
  · exact Or.inr (Or.inr (Or.inr (Or.inr (Or.inr x))))
/-- the program's order: O the places by ascending number, N the numbers -/
def tb_ord (nl : Nat) (O N : Nat → Nat) (po ln yn : Nat → Int32) : Prop :=
  nl ≤ 16 ∧ (∀ p, p < nl → po p = nI (O p) ∧ O p < nl) ∧ (∀ l, l < nl → ln l = nI (N l) ∧ yn l = nI (N l) ∧ 1 ≤ N l ∧ N l ≤ 32767) ∧
  (∀ p q, p < q → q < nl → N (O p) < N (O q)) ∧ (∀ l, l < nl → ∃ p, p < nl ∧ O p = l)
theorem tb_ord_inj {nl : Nat} {O N : Nat → Nat} {po ln yn : Nat → Int32} (h : tb_ord nl O N po ln yn) {p q : Nat} (hp : p < nl) (hq : q < nl) (e : N (O p) = N (O q)) : p = q := by
  rcases Nat.lt_trichotomy p q with z | z | z
  · have := h.2.2.2.1 p q z hq; omega
  · exact z
  · have := h.2.2.2.1 q p z hp; omega
/-- the lines of both sides -/
def tb_lines (C : Nat → Nat) (n nl : Nat) (ln lk lv lr cd cs ce ys ye yn : Nat → Int32) (cl : Nat) : Prop :=
  ∀ l, l < nl → ∃ s e L, ys l = nI s ∧ ye l = nI e ∧ s ≤ e ∧ e ≤ n ∧ e ≤ s + 40 ∧ tb_tz C e 40 s = some L ∧ yn l = ln l ∧ tb_lo L l ln lk lv lr cd cs ce cl
/-- a further line at place q of the order -/
theorem tb_ord_ins {nl q m : Nat} {O N : Nat → Nat} {po ln yn po' ln' yn' : Nat → Int32} (h : tb_ord nl O N po ln yn) (hn : nl < 16) (hq : q ≤ nl) (hm : 1 ≤ m ∧ m ≤ 32767)
    (lo : ∀ p, p < q → N (O p) < m) (hi : ∀ p, q ≤ p → p < nl → m < N (O p))
    (p1 : ∀ j, j < q → po' j = po j) (p2 : po' q = nI nl) (p3 : ∀ j, q ≤ j → j < nl → po' (j + 1) = po j)
    (l1 : ∀ l, l < nl → ln' l = ln l) (l2 : ln' nl = nI m) (y1 : ∀ l, l < nl → yn' l = yn l) (y2 : yn' nl = nI m) :
    tb_ord (nl + 1) (fun p => if p < q then O p else if p = q then nl else O (p - 1)) (fun l => if l < nl then N l else m) po' ln' yn' := by
  obtain ⟨h0, h1, h2, h3, h4⟩ := h
  refine ⟨by omega, fun p hp => ?_, fun l hl => ?_, fun a b hab hb => ?_, fun l hl => ?_⟩
  · dsimp only
    by_cases z : p < q
    · rw [if_pos z, p1 p z]
      have := h1 p (by omega)
      exact ⟨this.1, by omega⟩
    · rw [if_neg z]
      by_cases z2 : p = q
      · rw [if_pos z2, z2, p2]
        exact ⟨rfl, by omega⟩
      · rw [if_neg z2]
        obtain ⟨r, rfl⟩ : ∃ r, p = r + 1 := ⟨p - 1, by omega⟩
        rw [p3 r (by omega) (by omega)]
        have := h1 r (by omega)
        exact ⟨this.1, by show O r < nl + 1; omega⟩
  · dsimp only
    by_cases z : l < nl
    · rw [if_pos z, l1 l z, y1 l z]
      exact h2 l z
    · have : l = nl := by omega
      subst this
      rw [if_neg z]
      exact ⟨l2, y2, hm⟩
  · dsimp only
    have A : ∀ p, p < nl → (if O p < nl then N (O p) else m) = N (O p) := fun p hp => if_pos (h1 p hp).2
    by_cases za : a < q
    · rw [if_pos za, A a (by omega)]
      by_cases zb : b < q
      · rw [if_pos zb, A b (by omega)]
        exact h3 a b hab (by omega)
      · rw [if_neg zb]
        by_cases zb2 : b = q
        · rw [if_pos zb2, if_neg (by omega)]
          exact lo a za
        · rw [if_neg zb2, A (b - 1) (by omega)]
          have := lo a za
          have := hi (b - 1) (by omega) (by omega)
          omega
    · rw [if_neg za, if_neg (show ¬ b < q by omega), if_neg (show ¬ b = q by omega), A (b - 1) (by omega)]
      by_cases za2 : a = q
      · rw [if_pos za2, if_neg (by omega)]
        exact hi (b - 1) (by omega) (by omega)
      · rw [if_neg za2, A (a - 1) (by omega)]
        exact h3 (a - 1) (b - 1) (by omega) (by omega)
  · dsimp only
    by_cases z : l < nl
    · obtain ⟨p, hp, e⟩ := h4 l z
      by_cases zp : p < q
      · exact ⟨p, by omega, by rw [if_pos zp]; exact e⟩
      · exact ⟨p + 1, by omega, by rw [if_neg (by omega), if_neg (by omega)]; exact e⟩
    · exact ⟨q, by omega, by rw [if_neg (by omega), if_pos rfl]; omega⟩
theorem tb_lines_0 {C : Nat → Nat} {n : Nat} {ln lk lv lr cd cs ce ys ye yn : Nat → Int32} {cl : Nat} : tb_lines C n 0 ln lk lv lr cd cs ce ys ye yn cl := fun l hl => by omega
theorem tb_ord_0 {O N : Nat → Nat} {po ln yn : Nat → Int32} : tb_ord 0 O N po ln yn := ⟨by omega, fun p hp => by omega, fun l hl => by omega, fun p q h1 h2 => by omega, fun l hl => by omega⟩
