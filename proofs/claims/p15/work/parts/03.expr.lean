/-! ===== expressions: operators held back, code in postfix order, its value ===== -/
def tb_rk (t : Nat) : Nat := if t = 40201 ∨ t = 40202 then 1 else if t = 40203 ∨ t = 40204 then 2 else if t = 40205 then 3 else 0
/-- the operators that are released at rank r, in their order -/
def tb_rp (r : Nat) : List Nat → List Nat
  | [] => []
  | t :: h => if r ≤ tb_rk t then t :: tb_rp r h else []
/-- what is still held then -/
def tb_rr (r : Nat) : List Nat → List Nat
  | [] => []
  | t :: h => if r ≤ tb_rk t then tb_rr r h else t :: h
def tb_xp (T : Nat → Nat) (n : Nat) : Nat → Nat → Bool → List Nat → List Nat → Option (Nat × List Nat)
  | 0, _, _, _, _ => none
  | d + 1, i, true, h, c =>
    if n ≤ i then none
    else if T i ≤ 32767 ∨ (40000 ≤ T i ∧ T i < 40026) then tb_xp T n d (i + 1) false h (c ++ [T i])
    else if T i = 40202 then tb_xp T n d (i + 1) true (40205 :: h) c
    else if T i = 40206 then tb_xp T n d (i + 1) true (40206 :: h) c
    else none
  | d + 1, i, false, h, c =>
    if n ≤ i then (if tb_rr 1 h = [] then some (i, c ++ tb_rp 1 h) else none)
    else if 0 < tb_rk (T i) then tb_xp T n d (i + 1) true (T i :: tb_rr (tb_rk (T i)) h) (c ++ tb_rp (tb_rk (T i)) h)
    else if T i = 40207 then (if tb_rr 1 h = [] then none else tb_xp T n d (i + 1) false (tb_rr 1 h).tail (c ++ tb_rp 1 h))
    else (if tb_rr 1 h = [] then some (i, c ++ tb_rp 1 h) else none)
theorem tb_rpr (r : Nat) : ∀ h : List Nat, (tb_rp r h).length + (tb_rr r h).length = h.length
  | [] => rfl
  | t :: h => by
    unfold tb_rp tb_rr
    split
    · have := tb_rpr r h; simp only [List.length_cons]; omega
    · simp only [List.length_nil, List.length_cons]; omega
/-- what is held: operators and the round bracket -/
def tb_hk (h : List Nat) : Prop := ∀ t, t ∈ h → 40201 ≤ t ∧ t ≤ 40206
theorem tb_hk_c {t : Nat} {h : List Nat} (a : 40201 ≤ t ∧ t ≤ 40206) (b : tb_hk h) : tb_hk (t :: h) := fun x hx => by
  rcases List.mem_cons.mp hx with e | e
  · rw [e]; exact a
  · exact b x e
theorem tb_hk_t {t : Nat} {h : List Nat} (b : tb_hk (t :: h)) : tb_hk h := fun x hx => b x (List.mem_cons_of_mem _ hx)
theorem tb_hk_h {t : Nat} {h : List Nat} (b : tb_hk (t :: h)) : 40201 ≤ t ∧ t ≤ 40206 := b t (List.mem_cons_self ..)
theorem tb_hk_0 : tb_hk [] := fun x hx => by cases hx
theorem tb_hk_rr (r : Nat) : ∀ h : List Nat, tb_hk h → tb_hk (tb_rr r h)
  | [], k => k
  | t :: h, k => by
    unfold tb_rr
    split
    · exact tb_hk_rr r h (tb_hk_t k)
    · exact k
theorem tb_hk_tl {h : List Nat} (b : tb_hk h) : tb_hk h.tail := by
  cases h with
  | nil => exact b
  | cons t h => exact tb_hk_t b
theorem tb_rk_pos {t : Nat} : 0 < tb_rk t ↔ (40201 ≤ t ∧ t ≤ 40205) := by
  unfold tb_rk
  repeat' split
  all_goals omega
theorem tb_rk_le (t : Nat) : tb_rk t ≤ 3 := by
  unfold tb_rk
  repeat' split
  all_goals omega
/-- how many round brackets are held -/
def tb_no : List Nat → Nat
  | [] => 0
  | t :: h => (if t = 40206 then 1 else 0) + tb_no h
theorem tb_no_rr {r : Nat} (hr : 0 < r) : ∀ h : List Nat, tb_no (tb_rr r h) = tb_no h
  | [] => rfl
  | t :: h => by
    unfold tb_rr
    split
    · next z =>
      have : 0 < tb_rk t := by omega
      rw [tb_rk_pos] at this
      rw [tb_no_rr hr h]
      show tb_no h = (if t = 40206 then 1 else 0) + tb_no h
      rw [if_neg (by omega)]
      omega
    · rfl
theorem tb_rr1 : ∀ h : List Nat, tb_hk h → tb_rr 1 h = [] ∧ tb_no h = 0 ∨ ∃ h', tb_rr 1 h = 40206 :: h' ∧ tb_no h = tb_no h' + 1
  | [], _ => Or.inl ⟨rfl, rfl⟩
  | t :: h, k => by
    unfold tb_rr
    have k1 := tb_hk_h k
    split
    · next z =>
      have : 0 < tb_rk t := by omega
      rw [tb_rk_pos] at this
      have e : tb_no (t :: h) = tb_no h := by
        show (if t = 40206 then 1 else 0) + tb_no h = tb_no h
        rw [if_neg (by omega)]; omega
      rw [e]
      exact tb_rr1 h (tb_hk_t k)
    · next z =>
      have : ¬ 0 < tb_rk t := by omega
      rw [tb_rk_pos] at this
      have e : t = 40206 := by omega
      refine Or.inr ⟨h, by rw [e], ?_⟩
      show (if t = 40206 then 1 else 0) + tb_no h = tb_no h + 1
      rw [if_pos e]; omega
/-- how many operators with two operands are held -/
def tb_nb : List Nat → Nat
  | [] => 0
  | t :: h => (if t = 40206 ∨ t = 40205 then 0 else 1) + tb_nb h
def tb_cb (t : Nat) (a b : Int32) : Int32 := if t = 40201 then a + b else if t = 40202 then a - b else if t = 40203 then a * b else if b = 0 then 0 else a / b
/-- one token of code, over a stack of values and the sign of a division by 0 -/
def tb_e1 (V : Nat → Int32) (s : List Int32 × Bool) (t : Nat) : List Int32 × Bool :=
  if t ≤ 32767 then (nI t :: s.1, s.2)
  else if 40000 ≤ t ∧ t < 40026 then (V (t - 40000) :: s.1, s.2)
  else if t = 40205 then (match s.1 with
    | [] => ([], s.2)
    | x :: r => (-x :: r, s.2))
  else (match s.1 with
    | b :: a :: r => (tb_cb t a b :: r, s.2 || decide (t = 40204 ∧ b = 0))
    | r => (r, s.2))
def tb_ev (V : Nat → Int32) (c : List Nat) (s : List Int32 × Bool) : List Int32 × Bool := c.foldl (tb_e1 V) s
theorem tb_ev_app (V : Nat → Int32) (c d : List Nat) (s : List Int32 × Bool) : tb_ev V (c ++ d) s = tb_ev V d (tb_ev V c s) := List.foldl_append
theorem tb_e1_opd {V : Nat → Int32} {s : List Int32 × Bool} {t : Nat} (h : t ≤ 32767 ∨ (40000 ≤ t ∧ t < 40026)) : tb_e1 V s t = ((if t ≤ 32767 then nI t else V (t - 40000)) :: s.1, s.2) := by
  unfold tb_e1
  by_cases z : t ≤ 32767
  · rw [if_pos z, if_pos z]
  · rw [if_neg z, if_neg z, if_pos (by omega)]
theorem tb_e1_neg {V : Nat → Int32} {x : Int32} {r : List Int32} {b : Bool} : tb_e1 V (x :: r, b) 40205 = (-x :: r, b) := rfl
theorem tb_e1_bin {V : Nat → Int32} {x y : Int32} {r : List Int32} {b : Bool} {t : Nat} (h : 40201 ≤ t ∧ t ≤ 40204) : tb_e1 V (y :: x :: r, b) t = (tb_cb t x y :: r, b || decide (t = 40204 ∧ y = 0)) := by
  unfold tb_e1
  rw [if_neg (by omega), if_neg (by omega), if_neg (by omega)]
theorem tb_e1_len (V : Nat → Int32) (s : List Int32 × Bool) (t : Nat) : (tb_e1 V s t).1.length ≤ s.1.length + 1 := by
  unfold tb_e1
  split
  · simp only [List.length_cons]; omega
  · split
    · simp only [List.length_cons]; omega
    · split
      · split
        · next e => rw [e]; simp
        · next e => rw [e]; simp only [List.length_cons]; omega
      · split
        · next e => rw [e]; simp only [List.length_cons]; omega
        · exact Nat.le_succ _
theorem tb_e1_err (V : Nat → Int32) (s : List Int32 × Bool) (t : Nat) (h : s.2 = true) : (tb_e1 V s t).2 = true := by
  unfold tb_e1
  split
  · exact h
  · split
    · exact h
    · split
      · split <;> exact h
      · split
        · show (s.2 || _) = true
          rw [h]; rfl
        · exact h
theorem tb_ev_err (V : Nat → Int32) : ∀ (c : List Nat) (s : List Int32 × Bool), s.2 = true → (tb_ev V c s).2 = true
  | [], _, h => h
  | t :: c, s, h => tb_ev_err V c (tb_e1 V s t) (tb_e1_err V s t h)
/-- releasing keeps the count of values -/
theorem tb_ev_rel (V : Nat → Int32) (r : Nat) : ∀ (h : List Nat) (s : List Int32 × Bool), tb_hk h → s.1.length = 1 + tb_nb h → 0 < r → (tb_ev V (tb_rp r h) s).1.length = 1 + tb_nb (tb_rr r h)
  | [], s, _, e, _ => e
  | t :: h, s, k, e, hr => by
    unfold tb_rp tb_rr
    split
    · next z =>
      have : 0 < tb_rk t := by omega
      rw [tb_rk_pos] at this
      show (tb_ev V (tb_rp r h) (tb_e1 V s t)).1.length = _
      refine tb_ev_rel V r h _ (tb_hk_t k) ?_ hr
      obtain ⟨st, b⟩ := s
      by_cases z5 : t = 40205
      · subst z5
        cases st with
        | nil => simp only [List.length_nil] at e; omega
        | cons x l =>
          rw [tb_e1_neg]
          have e' : (x :: l).length = 1 + ((if 40205 = 40206 ∨ 40205 = 40205 then 0 else 1) + tb_nb h) := e
          rw [if_pos (by omega)] at e'
          simp only [List.length_cons] at e' ⊢
          omega
      · simp only [tb_nb] at e
        rw [if_neg (by omega)] at e
        match st, e with
        | [], e => simp only [List.length_nil] at e; omega
        | [x], e => simp only [List.length_cons, List.length_nil] at e; omega
        | y :: x :: l, e =>
          rw [tb_e1_bin (by omega)]
          simp only [List.length_cons] at e ⊢
          omega
    · exact e
theorem tb_xp_le (T : Nat → Nat) (n : Nat) : ∀ d i b h c e c', tb_xp T n d i b h c = some (e, c') → i ≤ e ∧ (i ≤ n → e ≤ n) ∧ c'.length ≤ c.length + h.length + (e - i)
  | 0, i, b, h, c, e, c', z => by unfold tb_xp at z; cases z
  | d + 1, i, true, h, c, e, c', z => by
    unfold tb_xp at z
    split at z
    · cases z
    · split at z
      · have ⟨a, b, g⟩ := tb_xp_le T n d _ _ _ _ _ _ z
        simp only [List.length_append, List.length_cons, List.length_nil] at g
        exact ⟨by omega, fun _ => b (by omega), by omega⟩
      · split at z
        · have ⟨a, b, g⟩ := tb_xp_le T n d _ _ _ _ _ _ z
          simp only [List.length_cons] at g
          exact ⟨by omega, fun _ => b (by omega), by omega⟩
        · split at z
          · have ⟨a, b, g⟩ := tb_xp_le T n d _ _ _ _ _ _ z
            simp only [List.length_cons] at g
            exact ⟨by omega, fun _ => b (by omega), by omega⟩
          · cases z
  | d + 1, i, false, h, c, e, c', z => by
    unfold tb_xp at z
    have q := tb_rpr 1 h
    split at z
    · split at z
      · cases z
        simp only [List.length_append]
        exact ⟨by omega, fun w => w, by omega⟩
      · cases z
    · split at z
      · have ⟨a, b, g⟩ := tb_xp_le T n d _ _ _ _ _ _ z
        have q := tb_rpr (tb_rk (T i)) h
        simp only [List.length_cons, List.length_append] at g
        exact ⟨by omega, fun _ => b (by omega), by omega⟩
      · split at z
        · split at z
          · cases z
          · have ⟨a, b, g⟩ := tb_xp_le T n d _ _ _ _ _ _ z
            simp only [List.length_tail, List.length_append] at g
            exact ⟨by omega, fun _ => b (by omega), by omega⟩
        · split at z
          · cases z
            simp only [List.length_append]
            exact ⟨by omega, fun w => w, by omega⟩
          · cases z
/-! ===== lists in arrays ===== -/
/-- a stack in an array, its top first in the list -/
def tb_sk (a : Nat → Int32) : List Int32 → Prop
  | [] => True
  | x :: r => a r.length = x ∧ tb_sk a r
theorem tb_sk_up {a : Nat → Int32} {k : Nat} {x : Int32} : ∀ {r : List Int32}, r.length ≤ k → tb_sk a r → tb_sk (upd a k x) r
  | [], _, _ => trivial
  | y :: r, h, z => by
    simp only [List.length_cons] at h
    exact ⟨(pk_un (by omega)).trans z.1, tb_sk_up (r := r) (by omega) z.2⟩
theorem tb_sk_push {a : Nat → Int32} {x : Int32} {r : List Int32} (h : tb_sk a r) : tb_sk (upd a r.length x) (x :: r) := ⟨pk_us, tb_sk_up (Nat.le_refl _) h⟩
/-- a row in an array, from p on -/
def tb_sg (a : Nat → Int32) : Nat → List Int32 → Prop
  | _, [] => True
  | p, x :: l => a p = x ∧ tb_sg a (p + 1) l
theorem tb_sg_app {a : Nat → Int32} : ∀ {p : Nat} {l m : List Int32}, tb_sg a p l → tb_sg a (p + l.length) m → tb_sg a p (l ++ m)
  | _, [], _, _, h => h
  | p, x :: l, m, h, g => ⟨h.1, tb_sg_app h.2 (by
      have e : p + 1 + l.length = p + (x :: l).length := by simp only [List.length_cons]; omega
      rw [e]; exact g)⟩
theorem tb_sg_lo {a b : Nat → Int32} : ∀ {p : Nat} {l : List Int32}, tb_sg a p l → (∀ j, p ≤ j → j < p + l.length → b j = a j) → tb_sg b p l
  | _, [], _, _ => trivial
  | p, x :: l, h, k => ⟨(k p (Nat.le_refl _) (by simp only [List.length_cons]; omega)).trans h.1, tb_sg_lo h.2 (fun j h1 h2 => k j (by omega) (by simp only [List.length_cons]; omega))⟩
theorem tb_sg_up {a : Nat → Int32} {p k : Nat} {x : Int32} {l : List Int32} (h : tb_sg a p l) (hk : p + l.length ≤ k) : tb_sg (upd a k x) p l := tb_sg_lo h (fun j h1 h2 => pk_un (by omega))
theorem tb_sg_put {a : Nat → Int32} {p : Nat} {x : Int32} {l : List Int32} (h : tb_sg a p l) : tb_sg (upd a (p + l.length) x) p (l ++ [x]) := tb_sg_app (tb_sg_up h (Nat.le_refl _)) ⟨pk_us, trivial⟩
theorem tb_sg_T {a : Nat → Int32} (f : Nat → Int32) : ∀ {L : List Nat} {p : Nat}, tb_sg a p (L.map f) → ∀ j, j < L.length → a (p + j) = f (L.getD j 0)
  | [], _, _, j, hj => by simp only [List.length_nil] at hj; omega
  | t :: L, p, h, 0, _ => h.1
  | t :: L, p, h, j + 1, hj => by
    have := tb_sg_T f (L := L) (p := p + 1) h.2 j (by simp only [List.length_cons] at hj; omega)
    have e : p + 1 + j = p + (j + 1) := by omega
    rw [e] at this
    exact this
