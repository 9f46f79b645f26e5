section
/-! ===== the text's tokens, as a pure function ===== -/
/-- the end of the run of characters within lo..hi from i on, at most d long -/
def tb_rn (lo hi : Nat) (C : Nat → Nat) : Nat → Nat → Nat
  | 0, i => i
  | d + 1, i => if lo ≤ C i ∧ C i ≤ hi then tb_rn lo hi C d (i + 1) else i
theorem tb_rn_ge (lo hi : Nat) (C : Nat → Nat) : ∀ d i, i ≤ tb_rn lo hi C d i
  | 0, i => Nat.le_refl _
  | d + 1, i => by
    unfold tb_rn
    split
    · have := tb_rn_ge lo hi C d (i + 1); omega
    · omega
theorem tb_rn_le (lo hi : Nat) (C : Nat → Nat) : ∀ d i, tb_rn lo hi C d i ≤ i + d
  | 0, i => Nat.le_refl _
  | d + 1, i => by
    unfold tb_rn
    split
    · have := tb_rn_le lo hi C d (i + 1); omega
    · omega
theorem tb_rn_in (lo hi : Nat) (C : Nat → Nat) : ∀ d i j, i ≤ j → j < tb_rn lo hi C d i → lo ≤ C j ∧ C j ≤ hi
  | 0, i, j, h1, h2 => by unfold tb_rn at h2; omega
  | d + 1, i, j, h1, h2 => by
    unfold tb_rn at h2
    split at h2
    · next h =>
      rcases Nat.lt_or_ge i j with z | z
      · exact tb_rn_in lo hi C d (i + 1) j (by omega) h2
      · have : j = i := by omega
        subst this
        exact h
    · omega
theorem tb_rn_pos {lo hi : Nat} {C : Nat → Nat} {d i : Nat} (hd : 0 < d) (h : lo ≤ C i ∧ C i ≤ hi) : i < tb_rn lo hi C d i := by
  obtain ⟨k, rfl⟩ : ∃ k, d = k + 1 := ⟨d - 1, by omega⟩
  unfold tb_rn
  rw [if_pos h]
  have := tb_rn_ge lo hi C k (i + 1)
  omega
/-- the value of l digits from i on -/
def tb_nv (C : Nat → Nat) (i : Nat) : Nat → Nat
  | 0 => 0
  | l + 1 => tb_nv C i l * 10 + (C (i + l) - 48)
theorem tb_nv_mono (C : Nat → Nat) (i l : Nat) : ∀ m, tb_nv C i l ≤ tb_nv C i (l + m)
  | 0 => Nat.le_refl _
  | m + 1 => by
    have := tb_nv_mono C i l m
    show _ ≤ tb_nv C i (l + m) * 10 + (C (i + (l + m)) - 48)
    omega
/-- the letters of a word, the last one first, A is 1 -/
def tb_wd (C : Nat → Nat) (i : Nat) : Nat → List Nat
  | 0 => []
  | l + 1 => (C (i + l) - 64) :: tb_wd C i l
def tb_wk (w : List Nat) : Prop := ∀ d, d ∈ w → 1 ≤ d ∧ d ≤ 26
theorem tb_wd_in (C : Nat → Nat) (i : Nat) : ∀ l, (∀ j, j < l → 65 ≤ C (i + j) ∧ C (i + j) ≤ 90) → tb_wk (tb_wd C i l)
  | 0, _ => fun d hd => by cases hd
  | l + 1, h => fun d hd => by
    unfold tb_wd at hd
    rcases List.mem_cons.mp hd with e | e
    · have := h l (by omega); omega
    · exact tb_wd_in C i l (fun j hj => h j (by omega)) d e
theorem tb_wd_len (C : Nat → Nat) (i : Nat) : ∀ l, (tb_wd C i l).length = l
  | 0 => rfl
  | l + 1 => by show (tb_wd C i l).length + 1 = _; rw [tb_wd_len C i l]
def tb_pk (B : Nat) : List Nat → Nat
  | [] => 0
  | d :: w => tb_pk B w * B + d
theorem tb_pk27 : ∀ w z : List Nat, tb_wk w → tb_wk z → tb_pk 27 w = tb_pk 27 z → w = z
  | [], [], _, _, _ => rfl
  | [], d :: z, _, h, e => by have := h d (List.mem_cons_self ..); simp only [tb_pk] at e; omega
  | d :: w, [], h, _, e => by have := h d (List.mem_cons_self ..); simp only [tb_pk] at e; omega
  | d :: w, f :: z, h, h', e => by
    have a := h d (List.mem_cons_self ..)
    have b := h' f (List.mem_cons_self ..)
    simp only [tb_pk] at e
    have e1 : d = f := by omega
    have e2 := tb_pk27 w z (fun x hx => h x (List.mem_cons_of_mem _ hx)) (fun x hx => h' x (List.mem_cons_of_mem _ hx)) (by omega)
    rw [e1, e2]
theorem tb_pk32 : ∀ w z : List Nat, tb_wk w → tb_wk z → tb_pk 32 w = tb_pk 32 z → w = z
  | [], [], _, _, _ => rfl
  | [], d :: z, _, h, e => by have := h d (List.mem_cons_self ..); simp only [tb_pk] at e; omega
  | d :: w, [], h, _, e => by have := h d (List.mem_cons_self ..); simp only [tb_pk] at e; omega
  | d :: w, f :: z, h, h', e => by
    have a := h d (List.mem_cons_self ..)
    have b := h' f (List.mem_cons_self ..)
    simp only [tb_pk] at e
    have e1 : d = f := by omega
    have e2 := tb_pk32 w z (fun x hx => h x (List.mem_cons_of_mem _ hx)) (fun x hx => h' x (List.mem_cons_of_mem _ hx)) (by omega)
    rw [e1, e2]
theorem tb_pk_lt (B : Nat) (hB : 26 < B) : ∀ w : List Nat, tb_wk w → tb_pk B w < B ^ w.length
  | [], _ => by show 0 < B ^ 0; rw [Nat.pow_zero]; omega
  | d :: w, h => by
    have a := h d (List.mem_cons_self ..)
    have b := tb_pk_lt B hB w (fun x hx => h x (List.mem_cons_of_mem _ hx))
    show tb_pk B w * B + d < B ^ (w.length + 1)
    rw [Nat.pow_succ]
    have c : (tb_pk B w + 1) * B ≤ B ^ w.length * B := Nat.mul_le_mul_right B b
    rw [Nat.add_mul, Nat.one_mul] at c
    omega
def tb_kw (w : List Nat) : Nat :=
  if w = [20, 5, 12] then 40101 else if w = [20, 14, 9, 18, 16] then 40102 else if w = [6, 9] then 40103
  else if w = [14, 5, 8, 20] then 40104 else if w = [15, 20, 15, 7] then 40105 else if w = [2, 21, 19, 15, 7] then 40106
  else if w = [14, 18, 21, 20, 5, 18] then 40107 else if w = [18, 15, 6] then 40108 else if w = [15, 20] then 40109
  else if w = [20, 24, 5, 14] then 40110 else if w = [4, 14, 5] then 40111 else 50000
/-- the character behind i, 0 at the line's end -/
def tb_nx (C : Nat → Nat) (i e : Nat) : Nat := if i + 1 < e then C (i + 1) else 0
def tb_sl (c d : Nat) : Nat := if (c = 60 ∧ (d = 61 ∨ d = 62)) ∨ (c = 62 ∧ d = 61) then 2 else 1
def tb_st (c d : Nat) : Nat :=
  if c = 60 ∧ d = 61 then 40212 else if c = 60 ∧ d = 62 then 40209 else if c = 62 ∧ d = 61 then 40213
  else if c = 43 then 40201 else if c = 45 then 40202 else if c = 42 then 40203 else if c = 47 then 40204
  else if c = 40 then 40206 else if c = 41 then 40207 else if c = 61 then 40208 else if c = 60 then 40210
  else if c = 62 then 40211 else 50000
/-- the token at i, 50000 for none -/
def tb_tk (C : Nat → Nat) (i e : Nat) : Nat :=
  if 48 ≤ C i ∧ C i ≤ 57 then (if tb_nv C i (tb_rn 48 57 C (e - i) i - i) ≤ 32767 then tb_nv C i (tb_rn 48 57 C (e - i) i - i) else 50000)
  else if 65 ≤ C i ∧ C i ≤ 90 then
    (if tb_rn 65 90 C (e - i) i - i = 1 then 40000 + (C i - 65)
     else if 6 < tb_rn 65 90 C (e - i) i - i then 50000 else tb_kw (tb_wd C i (tb_rn 65 90 C (e - i) i - i)))
  else tb_st (C i) (tb_nx C i e)
/-- where the token at i ends -/
def tb_te (C : Nat → Nat) (i e : Nat) : Nat :=
  if 48 ≤ C i ∧ C i ≤ 57 then tb_rn 48 57 C (e - i) i
  else if 65 ≤ C i ∧ C i ≤ 90 then tb_rn 65 90 C (e - i) i
  else i + tb_sl (C i) (tb_nx C i e)
theorem tb_te_gt (C : Nat → Nat) {i e : Nat} (h : i < e) : i < tb_te C i e := by
  unfold tb_te
  split
  · next z => exact tb_rn_pos (by omega) z
  · split
    · next z => exact tb_rn_pos (by omega) z
    · unfold tb_sl; split <;> omega
theorem tb_te_le (C : Nat → Nat) {i e : Nat} (h : i < e) : tb_te C i e ≤ e := by
  unfold tb_te
  split
  · have := tb_rn_le 48 57 C (e - i) i; omega
  · split
    · have := tb_rn_le 65 90 C (e - i) i; omega
    · unfold tb_sl
      by_cases z : i + 1 < e
      · split <;> omega
      · have nx : tb_nx C i e = 0 := if_neg z
        rw [nx, if_neg (by omega)]
        omega
/-- what a token may be -/
def tb_ok (t : Nat) : Prop := t ≤ 32767 ∨ (40000 ≤ t ∧ t < 40026) ∨ (40101 ≤ t ∧ t ≤ 40111) ∨ (40201 ≤ t ∧ t ≤ 40213 ∧ t ≠ 40205)
theorem tb_kw_ok (w : List Nat) : tb_kw w = 50000 ∨ (40101 ≤ tb_kw w ∧ tb_kw w ≤ 40111) := by
  unfold tb_kw
  repeat' split
  all_goals omega
theorem tb_st_ok (c d : Nat) : tb_st c d = 50000 ∨ (40201 ≤ tb_st c d ∧ tb_st c d ≤ 40213 ∧ tb_st c d ≠ 40205) := by
  unfold tb_st
  repeat' split
  all_goals omega
theorem tb_tk_ok (C : Nat → Nat) (i e : Nat) : tb_tk C i e = 50000 ∨ tb_ok (tb_tk C i e) := by
  unfold tb_tk tb_ok
  split
  · split <;> omega
  · split
    · split
      · omega
      · split
        · omega
        · have := tb_kw_ok (tb_wd C i (tb_rn 65 90 C (e - i) i - i)); omega
    · have := tb_st_ok (C i) (tb_nx C i e); omega
/-- the tokens from i to e, at most d steps -/
def tb_tz (C : Nat → Nat) (e : Nat) : Nat → Nat → Option (List Nat)
  | 0, _ => some []
  | d + 1, i => if e ≤ i then some [] else if C i = 32 then tb_tz C e d (i + 1)
    else if tb_tk C i e = 50000 then none else (tb_tz C e d (tb_te C i e)).map (List.cons (tb_tk C i e))
theorem tb_tz_ok (C : Nat → Nat) (e : Nat) : ∀ d i L, tb_tz C e d i = some L → L.length ≤ d ∧ (i ≤ e → L.length ≤ e - i) ∧ ∀ t, t ∈ L → tb_ok t
  | 0, i, L, h => by
    unfold tb_tz at h
    cases h
    exact ⟨Nat.le_refl _, fun _ => Nat.zero_le _, fun t ht => by cases ht⟩
  | d + 1, i, L, h => by
    unfold tb_tz at h
    split at h
    · cases h
      exact ⟨Nat.zero_le _, fun _ => Nat.zero_le _, fun t ht => by cases ht⟩
    · next hi =>
      split at h
      · have ⟨a, b, c⟩ := tb_tz_ok C e d (i + 1) L h
        exact ⟨by omega, fun _ => by have := b (by omega); omega, c⟩
      · split at h
        · cases h
        · next hb =>
          cases hz : tb_tz C e d (tb_te C i e) with
          | none => rw [hz] at h; cases h
          | some M =>
            rw [hz] at h
            cases h
            have ⟨a, b, c⟩ := tb_tz_ok C e d _ M hz
            have g1 := tb_te_gt C (i := i) (e := e) (by omega)
            have g2 := tb_te_le C (i := i) (e := e) (by omega)
            refine ⟨by simp only [List.length_cons]; omega, fun _ => by have := b g2; simp only [List.length_cons]; omega, fun t ht => ?_⟩
            rcases List.mem_cons.mp ht with z | z
            · rw [z]
              rcases tb_tk_ok C i e with y | y
              · exact absurd y hb
              · exact y
            · exact c t z
/-- the reference's kind of a token, and of a held operator -/
def tb_kf (t : Nat) : Nat :=
  if t ≤ 32767 then 1 else if t < 40026 then 2 else if t ≤ 40111 then t - 40091
  else if t = 40201 then 43 else if t = 40202 then 45 else if t = 40203 then 42 else if t = 40204 then 47 else if t = 40205 then 85
  else if t = 40206 then 40 else if t = 40207 then 41 else if t = 40208 then 61 else if t = 40209 then 72 else if t = 40210 then 60
  else if t = 40211 then 62 else if t = 40212 then 70 else 71
/-- the reference's value of a token -/
def tb_vf (t : Nat) : Nat := if t ≤ 32767 then t else if t < 40026 then t - 40000 else 0
end
section
/-! ===== expressions: operators held back, code in postfix order, its value ===== -/
def tb_rk (t : Nat) : Nat := if t = 40201 ∨ t = 40202 then 1 else if t = 40203 ∨ t = 40204 then 2 else if t = 40205 then 3 else 0
/-- the operators that are released at rank r, in their order -/
def tb_rp (r : Nat) : List Nat → List Nat
  | [] => []
  | t :: h => if r ≤ tb_rk t then t :: tb_rp r h else []
/-- what is still held then -/
def tb_rr (r : Nat) : List Nat → List Nat
  | [] => []
  | t :: h => if r ≤ tb_rk t then tb_rr r h else t :: h
def tb_xp (T : Nat → Nat) (n : Nat) : Nat → Nat → Bool → List Nat → List Nat → Option (Nat × List Nat)
  | 0, _, _, _, _ => none
  | d + 1, i, true, h, c =>
    if n ≤ i then none
    else if T i ≤ 32767 ∨ (40000 ≤ T i ∧ T i < 40026) then tb_xp T n d (i + 1) false h (c ++ [T i])
    else if T i = 40202 then tb_xp T n d (i + 1) true (40205 :: h) c
    else if T i = 40206 then tb_xp T n d (i + 1) true (40206 :: h) c
    else none
  | d + 1, i, false, h, c =>
    if n ≤ i then (if tb_rr 1 h = [] then some (i, c ++ tb_rp 1 h) else none)
    else if 0 < tb_rk (T i) then tb_xp T n d (i + 1) true (T i :: tb_rr (tb_rk (T i)) h) (c ++ tb_rp (tb_rk (T i)) h)
    else if T i = 40207 then (if tb_rr 1 h = [] then none else tb_xp T n d (i + 1) false (tb_rr 1 h).tail (c ++ tb_rp 1 h))
    else (if tb_rr 1 h = [] then some (i, c ++ tb_rp 1 h) else none)
theorem tb_rpr (r : Nat) : ∀ h : List Nat, (tb_rp r h).length + (tb_rr r h).length = h.length
  | [] => rfl
  | t :: h => by
    unfold tb_rp tb_rr
    split
    · have := tb_rpr r h; simp only [List.length_cons]; omega
    · simp only [List.length_nil, List.length_cons]; omega
/-- what is held: operators and the round bracket -/
def tb_hk (h : List Nat) : Prop := ∀ t, t ∈ h → 40201 ≤ t ∧ t ≤ 40206
theorem tb_hk_c {t : Nat} {h : List Nat} (a : 40201 ≤ t ∧ t ≤ 40206) (b : tb_hk h) : tb_hk (t :: h) := fun x hx => by
  rcases List.mem_cons.mp hx with e | e
  · rw [e]; exact a
  · exact b x e
theorem tb_hk_t {t : Nat} {h : List Nat} (b : tb_hk (t :: h)) : tb_hk h := fun x hx => b x (List.mem_cons_of_mem _ hx)
theorem tb_hk_h {t : Nat} {h : List Nat} (b : tb_hk (t :: h)) : 40201 ≤ t ∧ t ≤ 40206 := b t (List.mem_cons_self ..)
theorem tb_hk_0 : tb_hk [] := fun x hx => by cases hx
theorem tb_hk_rr (r : Nat) : ∀ h : List Nat, tb_hk h → tb_hk (tb_rr r h)
  | [], k => k
  | t :: h, k => by
    unfold tb_rr
    split
    · exact tb_hk_rr r h (tb_hk_t k)
    · exact k
theorem tb_hk_tl {h : List Nat} (b : tb_hk h) : tb_hk h.tail := by
  cases h with
  | nil => exact b
  | cons t h => exact tb_hk_t b
theorem tb_rk_pos {t : Nat} : 0 < tb_rk t ↔ (40201 ≤ t ∧ t ≤ 40205) := by
  unfold tb_rk
  repeat' split
  all_goals omega
theorem tb_rk_le (t : Nat) : tb_rk t ≤ 3 := by
  unfold tb_rk
  repeat' split
  all_goals omega
/-- how many round brackets are held -/
def tb_no : List Nat → Nat
  | [] => 0
  | t :: h => (if t = 40206 then 1 else 0) + tb_no h
theorem tb_no_rr {r : Nat} (hr : 0 < r) : ∀ h : List Nat, tb_no (tb_rr r h) = tb_no h
  | [] => rfl
  | t :: h => by
    unfold tb_rr
    split
    · next z =>
      have : 0 < tb_rk t := by omega
      rw [tb_rk_pos] at this
      rw [tb_no_rr hr h]
      show tb_no h = (if t = 40206 then 1 else 0) + tb_no h
      rw [if_neg (by omega)]
      omega
    · rfl
theorem tb_rr1 : ∀ h : List Nat, tb_hk h → tb_rr 1 h = [] ∧ tb_no h = 0 ∨ ∃ h', tb_rr 1 h = 40206 :: h' ∧ tb_no h = tb_no h' + 1
  | [], _ => Or.inl ⟨rfl, rfl⟩
  | t :: h, k => by
    unfold tb_rr
    have k1 := tb_hk_h k
    split
    · next z =>
      have : 0 < tb_rk t := by omega
      rw [tb_rk_pos] at this
      have e : tb_no (t :: h) = tb_no h := by
        show (if t = 40206 then 1 else 0) + tb_no h = tb_no h
        rw [if_neg (by omega)]; omega
      rw [e]
      exact tb_rr1 h (tb_hk_t k)
    · next z =>
      have : ¬ 0 < tb_rk t := by omega
      rw [tb_rk_pos] at this
      have e : t = 40206 := by omega
      refine Or.inr ⟨h, by rw [e], ?_⟩
      show (if t = 40206 then 1 else 0) + tb_no h = tb_no h + 1
      rw [if_pos e]; omega
/-- how many operators with two operands are held -/
def tb_nb : List Nat → Nat
  | [] => 0
  | t :: h => (if t = 40206 ∨ t = 40205 then 0 else 1) + tb_nb h
def tb_cb (t : Nat) (a b : Int32) : Int32 := if t = 40201 then a + b else if t = 40202 then a - b else if t = 40203 then a * b else if b = 0 then 0 else a / b
/-- one token of code, over a stack of values and the sign of a division by 0 -/
def tb_e1 (V : Nat → Int32) (s : List Int32 × Bool) (t : Nat) : List Int32 × Bool :=
  if t ≤ 32767 then (nI t :: s.1, s.2)
  else if 40000 ≤ t ∧ t < 40026 then (V (t - 40000) :: s.1, s.2)
  else if t = 40205 then (match s.1 with
    | [] => ([], s.2)
    | x :: r => (-x :: r, s.2))
  else (match s.1 with
    | b :: a :: r => (tb_cb t a b :: r, s.2 || decide (t = 40204 ∧ b = 0))
    | r => (r, s.2))
def tb_ev (V : Nat → Int32) (c : List Nat) (s : List Int32 × Bool) : List Int32 × Bool := c.foldl (tb_e1 V) s
theorem tb_ev_app (V : Nat → Int32) (c d : List Nat) (s : List Int32 × Bool) : tb_ev V (c ++ d) s = tb_ev V d (tb_ev V c s) := List.foldl_append
theorem tb_e1_opd {V : Nat → Int32} {s : List Int32 × Bool} {t : Nat} (h : t ≤ 32767 ∨ (40000 ≤ t ∧ t < 40026)) : tb_e1 V s t = ((if t ≤ 32767 then nI t else V (t - 40000)) :: s.1, s.2) := by
  unfold tb_e1
  by_cases z : t ≤ 32767
  · rw [if_pos z, if_pos z]
  · rw [if_neg z, if_neg z, if_pos (by omega)]
theorem tb_e1_neg {V : Nat → Int32} {x : Int32} {r : List Int32} {b : Bool} : tb_e1 V (x :: r, b) 40205 = (-x :: r, b) := rfl
theorem tb_e1_bin {V : Nat → Int32} {x y : Int32} {r : List Int32} {b : Bool} {t : Nat} (h : 40201 ≤ t ∧ t ≤ 40204) : tb_e1 V (y :: x :: r, b) t = (tb_cb t x y :: r, b || decide (t = 40204 ∧ y = 0)) := by
  unfold tb_e1
  rw [if_neg (by omega), if_neg (by omega), if_neg (by omega)]
theorem tb_e1_len (V : Nat → Int32) (s : List Int32 × Bool) (t : Nat) : (tb_e1 V s t).1.length ≤ s.1.length + 1 := by
  unfold tb_e1
  split
  · simp only [List.length_cons]; omega
  · split
    · simp only [List.length_cons]; omega
    · split
      · split
        · next e => rw [e]; simp
        · next e => rw [e]; simp only [List.length_cons]; omega
      · split
        · next e => rw [e]; simp only [List.length_cons]; omega
        · exact Nat.le_succ _
theorem tb_e1_err (V : Nat → Int32) (s : List Int32 × Bool) (t : Nat) (h : s.2 = true) : (tb_e1 V s t).2 = true := by
  unfold tb_e1
  split
  · exact h
  · split
    · exact h
    · split
      · split <;> exact h
      · split
        · show (s.2 || _) = true
          rw [h]; rfl
        · exact h
theorem tb_ev_err (V : Nat → Int32) : ∀ (c : List Nat) (s : List Int32 × Bool), s.2 = true → (tb_ev V c s).2 = true
  | [], _, h => h
  | t :: c, s, h => tb_ev_err V c (tb_e1 V s t) (tb_e1_err V s t h)
/-- releasing keeps the count of values -/
theorem tb_ev_rel (V : Nat → Int32) (r : Nat) : ∀ (h : List Nat) (s : List Int32 × Bool), tb_hk h → s.1.length = 1 + tb_nb h → 0 < r → (tb_ev V (tb_rp r h) s).1.length = 1 + tb_nb (tb_rr r h)
  | [], s, _, e, _ => e
  | t :: h, s, k, e, hr => by
    unfold tb_rp tb_rr
    split
    · next z =>
      have : 0 < tb_rk t := by omega
      rw [tb_rk_pos] at this
      show (tb_ev V (tb_rp r h) (tb_e1 V s t)).1.length = _
      refine tb_ev_rel V r h _ (tb_hk_t k) ?_ hr
      obtain ⟨st, b⟩ := s
      by_cases z5 : t = 40205
      · subst z5
        cases st with
        | nil => simp only [List.length_nil] at e; omega
        | cons x l =>
          rw [tb_e1_neg]
          have e' : (x :: l).length = 1 + ((if 40205 = 40206 ∨ 40205 = 40205 then 0 else 1) + tb_nb h) := e
          rw [if_pos (by omega)] at e'
          simp only [List.length_cons] at e' ⊢
          omega
      · simp only [tb_nb] at e
        rw [if_neg (by omega)] at e
        match st, e with
        | [], e => simp only [List.length_nil] at e; omega
        | [x], e => simp only [List.length_cons, List.length_nil] at e; omega
        | y :: x :: l, e =>
          rw [tb_e1_bin (by omega)]
          simp only [List.length_cons] at e ⊢
          omega
    · exact e
theorem tb_xp_le (T : Nat → Nat) (n : Nat) : ∀ d i b h c e c', tb_xp T n d i b h c = some (e, c') → i ≤ e ∧ (i ≤ n → e ≤ n) ∧ c'.length ≤ c.length + h.length + (e - i)
  | 0, i, b, h, c, e, c', z => by unfold tb_xp at z; cases z
  | d + 1, i, true, h, c, e, c', z => by
    unfold tb_xp at z
    split at z
    · cases z
    · split at z
      · have ⟨a, b, g⟩ := tb_xp_le T n d _ _ _ _ _ _ z
        simp only [List.length_append, List.length_cons, List.length_nil] at g
        exact ⟨by omega, fun _ => b (by omega), by omega⟩
      · split at z
        · have ⟨a, b, g⟩ := tb_xp_le T n d _ _ _ _ _ _ z
          simp only [List.length_cons] at g
          exact ⟨by omega, fun _ => b (by omega), by omega⟩
        · split at z
          · have ⟨a, b, g⟩ := tb_xp_le T n d _ _ _ _ _ _ z
            simp only [List.length_cons] at g
            exact ⟨by omega, fun _ => b (by omega), by omega⟩
          · cases z
  | d + 1, i, false, h, c, e, c', z => by
    unfold tb_xp at z
    have q := tb_rpr 1 h
    split at z
    · split at z
      · cases z
        simp only [List.length_append]
        exact ⟨by omega, fun w => w, by omega⟩
      · cases z
    · split at z
      · have ⟨a, b, g⟩ := tb_xp_le T n d _ _ _ _ _ _ z
        have q := tb_rpr (tb_rk (T i)) h
        simp only [List.length_cons, List.length_append] at g
        exact ⟨by omega, fun _ => b (by omega), by omega⟩
      · split at z
        · split at z
          · cases z
          · have ⟨a, b, g⟩ := tb_xp_le T n d _ _ _ _ _ _ z
            simp only [List.length_tail, List.length_append] at g
            exact ⟨by omega, fun _ => b (by omega), by omega⟩
        · split at z
          · cases z
            simp only [List.length_append]
            exact ⟨by omega, fun w => w, by omega⟩
          · cases z
/-! ===== lists in arrays ===== -/
/-- a stack in an array, its top first in the list -/
def tb_sk (a : Nat → Int32) : List Int32 → Prop
  | [] => True
  | x :: r => a r.length = x ∧ tb_sk a r
theorem tb_sk_up {a : Nat → Int32} {k : Nat} {x : Int32} : ∀ {r : List Int32}, r.length ≤ k → tb_sk a r → tb_sk (upd a k x) r
  | [], _, _ => trivial
  | y :: r, h, z => by
    simp only [List.length_cons] at h
    exact ⟨(pk_un (by omega)).trans z.1, tb_sk_up (r := r) (by omega) z.2⟩
theorem tb_sk_push {a : Nat → Int32} {x : Int32} {r : List Int32} (h : tb_sk a r) : tb_sk (upd a r.length x) (x :: r) := ⟨pk_us, tb_sk_up (Nat.le_refl _) h⟩
/-- a row in an array, from p on -/
def tb_sg (a : Nat → Int32) : Nat → List Int32 → Prop
  | _, [] => True
  | p, x :: l => a p = x ∧ tb_sg a (p + 1) l
theorem tb_sg_app {a : Nat → Int32} : ∀ {p : Nat} {l m : List Int32}, tb_sg a p l → tb_sg a (p + l.length) m → tb_sg a p (l ++ m)
  | _, [], _, _, h => h
  | p, x :: l, m, h, g => ⟨h.1, tb_sg_app h.2 (by
      have e : p + 1 + l.length = p + (x :: l).length := by simp only [List.length_cons]; omega
      rw [e]; exact g)⟩
theorem tb_sg_lo {a b : Nat → Int32} : ∀ {p : Nat} {l : List Int32}, tb_sg a p l → (∀ j, p ≤ j → j < p + l.length → b j = a j) → tb_sg b p l
  | _, [], _, _ => trivial
  | p, x :: l, h, k => ⟨(k p (Nat.le_refl _) (by simp only [List.length_cons]; omega)).trans h.1, tb_sg_lo h.2 (fun j h1 h2 => k j (by omega) (by simp only [List.length_cons]; omega))⟩
theorem tb_sg_up {a : Nat → Int32} {p k : Nat} {x : Int32} {l : List Int32} (h : tb_sg a p l) (hk : p + l.length ≤ k) : tb_sg (upd a k x) p l := tb_sg_lo h (fun j h1 h2 => pk_un (by omega))
theorem tb_sg_put {a : Nat → Int32} {p : Nat} {x : Int32} {l : List Int32} (h : tb_sg a p l) : tb_sg (upd a (p + l.length) x) p (l ++ [x]) := tb_sg_app (tb_sg_up h (Nat.le_refl _)) ⟨pk_us, trivial⟩
theorem tb_sg_T {a : Nat → Int32} (f : Nat → Int32) : ∀ {L : List Nat} {p : Nat}, tb_sg a p (L.map f) → ∀ j, j < L.length → a (p + j) = f (L.getD j 0)
  | [], _, _, j, hj => by simp only [List.length_nil] at hj; omega
  | t :: L, p, h, 0, _ => h.1
  | t :: L, p, h, j + 1, hj => by
    have := tb_sg_T f (L := L) (p := p + 1) h.2 j (by simp only [List.length_cons] at hj; omega)
    have e : p + 1 + j = p + (j + 1) := by omega
    rw [e] at this
    exact this
end
section
/-! ===== a line, and the program ===== -/
def tb_T (L : List Nat) (j : Nat) : Nat := L.getD j 0
/-- the expression from token p on: where it ends, its code -/
def tb_xe (L : List Nat) (p : Nat) : Option (Nat × List Nat) := tb_xp (tb_T L) L.length 42 p true [] []
def tb_iv (t : Nat) : Prop := 40000 ≤ t ∧ t < 40026
def tb_ir (t : Nat) : Prop := 40208 ≤ t ∧ t ≤ 40213
theorem tb_T_out {L : List Nat} {j : Nat} (h : L.length ≤ j) : tb_T L j = 0 := by
  unfold tb_T
  rw [List.getD_eq_getElem?_getD, List.getElem?_eq_none h]
  rfl
theorem tb_T_in {L : List Nat} {j : Nat} (h : tb_T L j ≠ 0) : j < L.length := by
  rcases Nat.lt_or_ge j L.length with z | z
  · exact z
  · exact absurd (tb_T_out z) h
theorem tb_T_mem {L : List Nat} {j : Nat} (h : j < L.length) : tb_T L j ∈ L := by
  unfold tb_T
  rw [List.getD_eq_getElem?_getD, List.getElem?_eq_getElem h]
  exact List.getElem_mem h
/-- the line is as the grammar asks -/
def tb_so (L : List Nat) : Prop := 2 ≤ L.length ∧ 1 ≤ tb_T L 0 ∧ tb_T L 0 ≤ 32767 ∧
  ((tb_T L 1 = 40101 ∧ tb_iv (tb_T L 2) ∧ tb_T L 3 = 40208 ∧ ∃ c, tb_xe L 4 = some (L.length, c)) ∨
   ((tb_T L 1 = 40102 ∨ tb_T L 1 = 40105 ∨ tb_T L 1 = 40106) ∧ ∃ c, tb_xe L 2 = some (L.length, c)) ∨
   (tb_T L 1 = 40103 ∧ ∃ a c1, tb_xe L 2 = some (a, c1) ∧ tb_ir (tb_T L a) ∧ ∃ b c2, tb_xe L (a + 1) = some (b, c2) ∧ tb_T L b = 40104 ∧ ∃ c3, tb_xe L (b + 1) = some (L.length, c3)) ∨
   (tb_T L 1 = 40108 ∧ tb_iv (tb_T L 2) ∧ tb_T L 3 = 40208 ∧ ∃ a c1, tb_xe L 4 = some (a, c1) ∧ tb_T L a = 40109 ∧ ∃ c2, tb_xe L (a + 1) = some (L.length, c2)) ∨
   (tb_T L 1 = 40110 ∧ tb_iv (tb_T L 2) ∧ L.length = 3) ∨
   ((tb_T L 1 = 40107 ∨ tb_T L 1 = 40111) ∧ L.length = 2))
/-- place k of the code holds c -/
def tb_slot (cd cs ce : Nat → Int32) (cl k : Nat) (c : List Nat) : Prop :=
  ∃ p, cs k = nI p ∧ ce k = nI (p + c.length) ∧ p + c.length ≤ cl ∧ tb_sg cd p (c.map nI)
/-- what the class keeps of a line -/
def tb_lo (L : List Nat) (l : Nat) (ln lk lv lr cd cs ce : Nat → Int32) (cl : Nat) : Prop :=
  2 ≤ L.length ∧ 1 ≤ tb_T L 0 ∧ tb_T L 0 ≤ 32767 ∧ ln l = nI (tb_T L 0) ∧ lk l = nI (tb_T L 1) ∧
  ((tb_T L 1 = 40101 ∧ tb_iv (tb_T L 2) ∧ lv l = nI (tb_T L 2 - 40000) ∧ tb_T L 3 = 40208 ∧ ∃ c, tb_xe L 4 = some (L.length, c) ∧ tb_slot cd cs ce cl (l * 3) c) ∨
   ((tb_T L 1 = 40102 ∨ tb_T L 1 = 40105 ∨ tb_T L 1 = 40106) ∧ ∃ c, tb_xe L 2 = some (L.length, c) ∧ tb_slot cd cs ce cl (l * 3) c) ∨
   (tb_T L 1 = 40103 ∧ ∃ a c1, tb_xe L 2 = some (a, c1) ∧ tb_slot cd cs ce cl (l * 3) c1 ∧ tb_ir (tb_T L a) ∧ lr l = nI (tb_T L a) ∧ ∃ b c2, tb_xe L (a + 1) = some (b, c2) ∧ tb_slot cd cs ce cl (l * 3 + 1) c2 ∧ tb_T L b = 40104 ∧ ∃ c3, tb_xe L (b + 1) = some (L.length, c3) ∧ tb_slot cd cs ce cl (l * 3 + 2) c3) ∨
   (tb_T L 1 = 40108 ∧ tb_iv (tb_T L 2) ∧ lv l = nI (tb_T L 2 - 40000) ∧ tb_T L 3 = 40208 ∧ ∃ a c1, tb_xe L 4 = some (a, c1) ∧ tb_slot cd cs ce cl (l * 3) c1 ∧ tb_T L a = 40109 ∧ ∃ c2, tb_xe L (a + 1) = some (L.length, c2) ∧ tb_slot cd cs ce cl (l * 3 + 1) c2) ∨
   (tb_T L 1 = 40110 ∧ tb_iv (tb_T L 2) ∧ lv l = nI (tb_T L 2 - 40000) ∧ L.length = 3) ∨
   ((tb_T L 1 = 40107 ∨ tb_T L 1 = 40111) ∧ L.length = 2))
theorem tb_slot_lo {cd cs ce cd' cs' ce' : Nat → Int32} {cl cl' k : Nat} {c : List Nat} (h : tb_slot cd cs ce cl k c) (hc : ∀ j, j < cl → cd' j = cd j) (h1 : cs' k = cs k) (h2 : ce' k = ce k) (hl : cl ≤ cl') : tb_slot cd' cs' ce' cl' k c := by
  obtain ⟨p, a, b, d, e⟩ := h
  refine ⟨p, h1.trans a, h2.trans b, by omega, tb_sg_lo e (fun j _ z => hc j ?_)⟩
  rw [List.length_map] at z
  omega
/-- a line is kept by what is written behind it -/
theorem tb_lo_lo {L : List Nat} {l : Nat} {ln lk lv lr cd cs ce ln' lk' lv' lr' cd' cs' ce' : Nat → Int32} {cl cl' : Nat} (h : tb_lo L l ln lk lv lr cd cs ce cl)
    (h1 : ln' l = ln l) (h2 : lk' l = lk l) (h3 : lv' l = lv l) (h4 : lr' l = lr l) (hc : ∀ j, j < cl → cd' j = cd j) (h5 : ∀ i, i < 3 → cs' (l * 3 + i) = cs (l * 3 + i)) (h6 : ∀ i, i < 3 → ce' (l * 3 + i) = ce (l * 3 + i)) (hl : cl ≤ cl') : tb_lo L l ln' lk' lv' lr' cd' cs' ce' cl' := by
  have S : ∀ i c, i < 3 → tb_slot cd cs ce cl (l * 3 + i) c → tb_slot cd' cs' ce' cl' (l * 3 + i) c := fun i c hi hs => tb_slot_lo hs hc (h5 i hi) (h6 i hi) hl
  have S0 : ∀ c, tb_slot cd cs ce cl (l * 3) c → tb_slot cd' cs' ce' cl' (l * 3) c := fun c hs => S 0 c (by omega) hs
  obtain ⟨a, b, c, d, e, f⟩ := h
  refine ⟨a, b, c, h1.trans d, h2.trans e, ?_⟩
  rcases f with ⟨x1, x2, x3, x4, y, x5, x6⟩ | ⟨x1, y, x5, x6⟩ | ⟨x1, y, z, x2, x3, x4, x5, y2, z2, x6, x7, x8, z3, x9, x10⟩ | ⟨x1, x2, x3, x4, y, z, x5, x6, x7, z2, x8, x9⟩ | ⟨x1, x2, x3, x4⟩ | x
  · exact Or.inl ⟨x1, x2, h3.trans x3, x4, y, x5, S0 _ x6⟩
  · exact Or.inr (Or.inl ⟨x1, y, x5, S0 _ x6⟩)
  · exact Or.inr (Or.inr (Or.inl ⟨x1, y, z, x2, S0 _ x3, x4, h4.trans x5, y2, z2, x6, S 1 _ (by omega) x7, x8, z3, x9, S 2 _ (by omega) x10⟩))
  · exact Or.inr (Or.inr (Or.inr (Or.inl ⟨x1, x2, h3.trans x3, x4, y, z, x5, S0 _ x6, x7, z2, x8, S 1 _ (by omega) x9⟩)))
  · exact Or.inr (Or.inr (Or.inr (Or.inr (Or.inl ⟨x1, x2, h3.trans x3, x4⟩))))
  · exact Or.inr (Or.inr (Or.inr (Or.inr (Or.inr x))))
/-- the program's order: O the places by ascending number, N the numbers -/
def tb_ord (nl : Nat) (O N : Nat → Nat) (po ln yn : Nat → Int32) : Prop :=
  nl ≤ 16 ∧ (∀ p, p < nl → po p = nI (O p) ∧ O p < nl) ∧ (∀ l, l < nl → ln l = nI (N l) ∧ yn l = nI (N l) ∧ 1 ≤ N l ∧ N l ≤ 32767) ∧
  (∀ p q, p < q → q < nl → N (O p) < N (O q)) ∧ (∀ l, l < nl → ∃ p, p < nl ∧ O p = l)
theorem tb_ord_inj {nl : Nat} {O N : Nat → Nat} {po ln yn : Nat → Int32} (h : tb_ord nl O N po ln yn) {p q : Nat} (hp : p < nl) (hq : q < nl) (e : N (O p) = N (O q)) : p = q := by
  rcases Nat.lt_trichotomy p q with z | z | z
  · have := h.2.2.2.1 p q z hq; omega
  · exact z
  · have := h.2.2.2.1 q p z hp; omega
/-- the lines of both sides -/
def tb_lines (C : Nat → Nat) (n nl : Nat) (ln lk lv lr cd cs ce ys ye yn : Nat → Int32) (cl : Nat) : Prop :=
  ∀ l, l < nl → ∃ s e L, ys l = nI s ∧ ye l = nI e ∧ s ≤ e ∧ e ≤ n ∧ e ≤ s + 40 ∧ tb_tz C e 40 s = some L ∧ yn l = ln l ∧ tb_lo L l ln lk lv lr cd cs ce cl
/-- a further line at place q of the order -/
theorem tb_ord_ins {nl q m : Nat} {O N : Nat → Nat} {po ln yn po' ln' yn' : Nat → Int32} (h : tb_ord nl O N po ln yn) (hn : nl < 16) (hq : q ≤ nl) (hm : 1 ≤ m ∧ m ≤ 32767)
    (lo : ∀ p, p < q → N (O p) < m) (hi : ∀ p, q ≤ p → p < nl → m < N (O p))
    (p1 : ∀ j, j < q → po' j = po j) (p2 : po' q = nI nl) (p3 : ∀ j, q ≤ j → j < nl → po' (j + 1) = po j)
    (l1 : ∀ l, l < nl → ln' l = ln l) (l2 : ln' nl = nI m) (y1 : ∀ l, l < nl → yn' l = yn l) (y2 : yn' nl = nI m) :
    tb_ord (nl + 1) (fun p => if p < q then O p else if p = q then nl else O (p - 1)) (fun l => if l < nl then N l else m) po' ln' yn' := by
  obtain ⟨h0, h1, h2, h3, h4⟩ := h
  refine ⟨by omega, fun p hp => ?_, fun l hl => ?_, fun a b hab hb => ?_, fun l hl => ?_⟩
  · dsimp only
    by_cases z : p < q
    · rw [if_pos z, p1 p z]
      have := h1 p (by omega)
      exact ⟨this.1, by omega⟩
    · rw [if_neg z]
      by_cases z2 : p = q
      · rw [if_pos z2, z2, p2]
        exact ⟨rfl, by omega⟩
      · rw [if_neg z2]
        obtain ⟨r, rfl⟩ : ∃ r, p = r + 1 := ⟨p - 1, by omega⟩
        rw [p3 r (by omega) (by omega)]
        have := h1 r (by omega)
        exact ⟨this.1, by show O r < nl + 1; omega⟩
  · dsimp only
    by_cases z : l < nl
    · rw [if_pos z, l1 l z, y1 l z]
      exact h2 l z
    · have : l = nl := by omega
      subst this
      rw [if_neg z]
      exact ⟨l2, y2, hm⟩
  · dsimp only
    have A : ∀ p, p < nl → (if O p < nl then N (O p) else m) = N (O p) := fun p hp => if_pos (h1 p hp).2
    by_cases za : a < q
    · rw [if_pos za, A a (by omega)]
      by_cases zb : b < q
      · rw [if_pos zb, A b (by omega)]
        exact h3 a b hab (by omega)
      · rw [if_neg zb]
        by_cases zb2 : b = q
        · rw [if_pos zb2, if_neg (by omega)]
          exact lo a za
        · rw [if_neg zb2, A (b - 1) (by omega)]
          have := lo a za
          have := hi (b - 1) (by omega) (by omega)
          omega
    · rw [if_neg za, if_neg (show ¬ b < q by omega), if_neg (show ¬ b = q by omega), A (b - 1) (by omega)]
      by_cases za2 : a = q
      · rw [if_pos za2, if_neg (by omega)]
        exact hi (b - 1) (by omega) (by omega)
      · rw [if_neg za2, A (a - 1) (by omega)]
        exact h3 (a - 1) (b - 1) (by omega) (by omega)
  · dsimp only
    by_cases z : l < nl
    · obtain ⟨p, hp, e⟩ := h4 l z
      by_cases zp : p < q
      · exact ⟨p, by omega, by rw [if_pos zp]; exact e⟩
      · exact ⟨p + 1, by omega, by rw [if_neg (by omega), if_neg (by omega)]; exact e⟩
    · exact ⟨q, by omega, by rw [if_neg (by omega), if_pos rfl]; omega⟩
theorem tb_lines_0 {C : Nat → Nat} {n : Nat} {ln lk lv lr cd cs ce ys ye yn : Nat → Int32} {cl : Nat} : tb_lines C n 0 ln lk lv lr cd cs ce ys ye yn cl := fun l hl => by omega
theorem tb_ord_0 {O N : Nat → Nat} {po ln yn : Nat → Int32} : tb_ord 0 O N po ln yn := ⟨by omega, fun p hp => by omega, fun l hl => by omega, fun p q h1 h2 => by omega, fun l hl => by omega⟩
end
section
/-! ===== the class's tokens ===== -/
def tb_S (C : Nat → Nat) : Nat → Int32 := fun j => nI (C j)
def tb_tI (t : Nat) : Int32 := if t = 50000 then -1 else nI t
theorem tb_tI_n {t : Nat} (h : t ≠ 50000) : tb_tI t = nI t := if_neg h
theorem tb_10 : ¬ (1 : Int32) = 0 := by decide
theorem tb_rd {C : Nat → Nat} {i : Nat} (h : i < 2 ^ 31) : tb_S C (nI i).toNatClampNeg = nI (C i) := by
  rw [nI_clamp h]; rfl
theorem tb_rdx {C : Nat → Nat} {x : Int32} (i : Nat) (hx : x = nI i) (h : i < 2 ^ 31) : tb_S C x.toNatClampNeg = nI (C i) := by
  rw [hx]; exact tb_rd h
theorem tb_rn_t {lo hi d i : Nat} {C : Nat → Nat} (z : lo ≤ C i ∧ C i ≤ hi) : tb_rn lo hi C (d + 1) i = tb_rn lo hi C d (i + 1) := if_pos z
theorem tb_rn_f {lo hi d i : Nat} {C : Nat → Nat} (z : ¬ (lo ≤ C i ∧ C i ≤ hi)) : tb_rn lo hi C (d + 1) i = i := if_neg z
theorem xx_dig {post : Int32 → Prop} {x : Int32} (c : Nat) (hx : x = nI c) (hc : c < 127) (h1 : 48 ≤ c ∧ c ≤ 57 → post 1) (h0 : ¬ (48 ≤ c ∧ c ≤ 57) → post 0) : wpX_isDigit post () x := by
  subst hx
  exact pk_lt c 48 (fun h => h0 (by omega)) (fun h => pk_lt 57 c (fun h2 => h0 (by omega)) (fun h2 => h1 ⟨h, h2⟩))
theorem xx_let {post : Int32 → Prop} {x : Int32} (c : Nat) (hx : x = nI c) (hc : c < 127) (h1 : 65 ≤ c ∧ c ≤ 90 → post 1) (h0 : ¬ (65 ≤ c ∧ c ≤ 90) → post 0) : wpX_isLetter post () x := by
  subst hx
  exact pk_lt c 65 (fun h => h0 (by omega)) (fun h => pk_lt 90 c (fun h2 => h0 (by omega)) (fun h2 => h1 ⟨h, h2⟩))
/-- a symbol of one character -/
def tb_s1 (c : Nat) : Nat :=
  if c = 43 then 40201 else if c = 45 then 40202 else if c = 42 then 40203 else if c = 47 then 40204
  else if c = 40 then 40206 else if c = 41 then 40207 else if c = 61 then 40208 else if c = 60 then 40210
  else if c = 62 then 40211 else 50000
theorem tb_st1 {c d : Nat} (h : tb_sl c d = 1) : tb_st c d = tb_s1 c := by
  have z : ¬ ((c = 60 ∧ (d = 61 ∨ d = 62)) ∨ (c = 62 ∧ d = 61)) := fun z => by unfold tb_sl at h; rw [if_pos z] at h; omega
  unfold tb_st tb_s1
  rw [if_neg (by omega), if_neg (by omega), if_neg (by omega)]
theorem tb_s1_no {c : Nat} (h : c ≠ 43 ∧ c ≠ 45 ∧ c ≠ 42 ∧ c ≠ 47 ∧ c ≠ 40 ∧ c ≠ 41 ∧ c ≠ 61 ∧ c ≠ 60 ∧ c ≠ 62) : tb_s1 c = 50000 := by
  unfold tb_s1
  rw [if_neg (by omega), if_neg (by omega), if_neg (by omega), if_neg (by omega), if_neg (by omega), if_neg (by omega), if_neg (by omega), if_neg (by omega), if_neg (by omega)]
theorem tb_tI_b : tb_tI 50000 = -1 := if_pos rfl
theorem nx_or (a b : Nat) : nI a ||| nI b = nI (a ||| b) := by
  apply Int32.toBitVec_inj.1
  show BitVec.ofNat 32 a ||| BitVec.ofNat 32 b = BitVec.ofNat 32 (a ||| b)
  apply BitVec.eq_of_getLsbD_eq
  intro i hi
  simp [hi]
theorem tb_pack {p c : Nat} (hp : p < 33554432) (hc : 65 ≤ c ∧ c ≤ 90) : (nI p <<< ((5 : Int32) &&& 31)) ||| (nI c &&& 31) = nI (p * 32 + (c - 64)) := by
  rw [pk_shlN ((5 : Int32) &&& 31) 5 (by decide) (by omega), pk_andN (by omega) (m := 31) 5 (by decide), nx_or]
  have e : c % 2 ^ 5 = c - 64 := by omega
  have g : c - 64 < 2 ^ 5 := by omega
  have q := Nat.two_pow_add_eq_or_of_lt g p
  rw [e, Nat.mul_comm p (2 ^ 5), ← q]
theorem tb_wk_of {w : List Nat} (h : w.all (fun d => decide (1 ≤ d ∧ d ≤ 26)) = true) : tb_wk w := fun d hd => by
  have := List.all_eq_true.mp h d hd
  exact of_decide_eq_true this
theorem xx_kw {post : Int32 → Prop} {w : List Nat} (hw : tb_wk w) (hl : w.length ≤ 6) (hp : post (tb_tI (tb_kw w))) : wpX_keywordOf post () (nI (tb_pk 32 w)) := by
  have hb : tb_pk 32 w < 2 ^ 31 := by
    have a := tb_pk_lt 32 (by omega) w hw
    have b : 32 ^ w.length ≤ 32 ^ 6 := Nat.pow_le_pow_right (by omega) hl
    have c : (32 : Nat) ^ 6 = 1073741824 := by decide
    omega
  have K : ∀ z : List Nat, z.all (fun d => decide (1 ≤ d ∧ d ≤ 26)) = true → tb_pk 32 w = tb_pk 32 z → w = z := fun z hz e => tb_pk32 w z hw (tb_wk_of hz) e
  unfold wpX_keywordOf
  refine pk_eq (tb_pk 32 w) 294 (fun h => ?_) (fun h1 => ?_)
  · have := K [6, 9] (by decide) (h.trans (by decide)); subst this; exact hp
  refine pk_eq (tb_pk 32 w) 655 (fun h => ?_) (fun h2 => ?_)
  · have := K [15, 20] (by decide) (h.trans (by decide)); subst this; exact hp
  refine pk_eq (tb_pk 32 w) 5572 (fun h => ?_) (fun h3 => ?_)
  · have := K [4, 14, 5] (by decide) (h.trans (by decide)); subst this; exact hp
  refine pk_eq (tb_pk 32 w) 6642 (fun h => ?_) (fun h4 => ?_)
  · have := K [18, 15, 6] (by decide) (h.trans (by decide)); subst this; exact hp
  refine pk_eq (tb_pk 32 w) 12468 (fun h => ?_) (fun h5 => ?_)
  · have := K [20, 5, 12] (by decide) (h.trans (by decide)); subst this; exact hp
  refine pk_eq (tb_pk 32 w) 245391 (fun h => ?_) (fun h6 => ?_)
  · have := K [15, 20, 15, 7] (by decide) (h.trans (by decide)); subst this; exact hp
  refine pk_eq (tb_pk 32 w) 464660 (fun h => ?_) (fun h7 => ?_)
  · have := K [20, 24, 5, 14] (by decide) (h.trans (by decide)); subst this; exact hp
  refine pk_eq (tb_pk 32 w) 663726 (fun h => ?_) (fun h8 => ?_)
  · have := K [14, 5, 8, 20] (by decide) (h.trans (by decide)); subst this; exact hp
  refine pk_eq (tb_pk 32 w) 7851682 (fun h => ?_) (fun h9 => ?_)
  · have := K [2, 21, 19, 15, 7] (by decide) (h.trans (by decide)); subst this; exact hp
  refine pk_eq (tb_pk 32 w) 17376724 (fun h => ?_) (fun h10 => ?_)
  · have := K [20, 14, 9, 18, 16] (by decide) (h.trans (by decide)); subst this; exact hp
  refine pk_eq (tb_pk 32 w) 609900110 (fun h => ?_) (fun h11 => ?_)
  · have := K [14, 18, 21, 20, 5, 18] (by decide) (h.trans (by decide)); subst this; exact hp
  have e : tb_kw w = 50000 := by
    unfold tb_kw
    rw [if_neg (fun z => h5 (by rw [z]; decide)), if_neg (fun z => h10 (by rw [z]; decide)), if_neg (fun z => h1 (by rw [z]; decide)), if_neg (fun z => h8 (by rw [z]; decide)), if_neg (fun z => h6 (by rw [z]; decide)), if_neg (fun z => h9 (by rw [z]; decide)), if_neg (fun z => h11 (by rw [z]; decide)), if_neg (fun z => h4 (by rw [z]; decide)), if_neg (fun z => h2 (by rw [z]; decide)), if_neg (fun z => h7 (by rw [z]; decide)), if_neg (fun z => h3 (by rw [z]; decide))]
  rw [e, tb_tI_b] at hp
  exact hp
section
variable {f_gosubDepth f_forDepth f_outCap f_sourceLength f_compiled f_errorLine f_tokenCount f_tokenAt f_heldCount f_lineTotal f_codeLength f_dividedByZero f_status f_stopLine f_steps f_position f_outputCount f_gosubCount f_frameCount : Int32} {a_tokens a_held a_programOrder a_lineNumber a_lineKeyword a_lineVariable a_lineRelation a_code a_codeStart a_codeEnd a_operands a_variables a_output a_returnTo a_frameVariable a_frameLimit a_frameBody : Nat → Int32} {C : Nat → Nat} {e s : Nat}
theorem xx_digits {post : Int32 → Prop} (hC : ∀ j, C j < 127) (he : e ≤ 256) : ∀ d i, i + d = e → s ≤ i → post (nI (tb_rn 48 57 C d i - s)) → wX_digitsFrom_2 post (nI s) (nI e) f_gosubDepth f_forDepth f_outCap f_sourceLength f_compiled f_errorLine f_tokenCount f_tokenAt f_heldCount f_lineTotal f_codeLength f_dividedByZero f_status f_stopLine f_steps f_position f_outputCount f_gosubCount f_frameCount (tb_S C) a_tokens a_held a_programOrder a_lineNumber a_lineKeyword a_lineVariable a_lineRelation a_code a_codeStart a_codeEnd a_operands a_variables a_output a_returnTo a_frameVariable a_frameLimit a_frameBody (d + 1) (nI i)
  | 0, i, hi, hs, hp => pk_le e i (fun _ => by rw [pk_sub hs]; exact hp) (fun h => absurd h (by omega))
  | d + 1, i, hi, hs, hp => pk_le e i (fun h => absurd h (by omega)) (fun h => ⟨vp_in_nI (by omega) (by omega), xx_dig (C i) (tb_rd (by omega)) (hC i)
      (fun z => br_f tb_10 (nm_r (nI_1 i) (xx_digits hC he d (i + 1) (by omega) (by omega) (by rw [tb_rn_t z] at hp; exact hp))))
      (fun z => br_t rfl (by rw [pk_sub hs]; rw [tb_rn_f z] at hp; exact hp))⟩)
theorem xx_letters {post : Int32 → Prop} (hC : ∀ j, C j < 127) (he : e ≤ 256) : ∀ d i, i + d = e → s ≤ i → post (nI (tb_rn 65 90 C d i - s)) → wX_lettersFrom_2 post (nI s) (nI e) f_gosubDepth f_forDepth f_outCap f_sourceLength f_compiled f_errorLine f_tokenCount f_tokenAt f_heldCount f_lineTotal f_codeLength f_dividedByZero f_status f_stopLine f_steps f_position f_outputCount f_gosubCount f_frameCount (tb_S C) a_tokens a_held a_programOrder a_lineNumber a_lineKeyword a_lineVariable a_lineRelation a_code a_codeStart a_codeEnd a_operands a_variables a_output a_returnTo a_frameVariable a_frameLimit a_frameBody (d + 1) (nI i)
  | 0, i, hi, hs, hp => pk_le e i (fun _ => by rw [pk_sub hs]; exact hp) (fun h => absurd h (by omega))
  | d + 1, i, hi, hs, hp => pk_le e i (fun h => absurd h (by omega)) (fun h => ⟨vp_in_nI (by omega) (by omega), xx_let (C i) (tb_rd (by omega)) (hC i)
      (fun z => br_f tb_10 (nm_r (nI_1 i) (xx_letters hC he d (i + 1) (by omega) (by omega) (by rw [tb_rn_t z] at hp; exact hp))))
      (fun z => br_t rfl (by rw [pk_sub hs]; rw [tb_rn_f z] at hp; exact hp))⟩)
theorem xx_symlen {post : Int32 → Prop} {i : Nat} (hC : ∀ j, C j < 127) (he : e ≤ 256) (hi : i < e) (hp : post (nI (tb_sl (C i) (tb_nx C i e)))) : wpX_symbolLength post (f_gosubDepth, f_forDepth, f_outCap, f_sourceLength, f_compiled, f_errorLine, f_tokenCount, f_tokenAt, f_heldCount, f_lineTotal, f_codeLength, f_dividedByZero, f_status, f_stopLine, f_steps, f_position, f_outputCount, f_gosubCount, f_frameCount, tb_S C, a_tokens, a_held, a_programOrder, a_lineNumber, a_lineKeyword, a_lineVariable, a_lineRelation, a_code, a_codeStart, a_codeEnd, a_operands, a_variables, a_output, a_returnTo, a_frameVariable, a_frameLimit, a_frameBody) (nI i) (nI e) := by
  have b0 := hC i
  have b1 := hC (i + 1)
  have H2 : tb_sl (C i) (tb_nx C i e) = 2 → post 2 := fun z => by rw [z] at hp; exact hp
  have H1 : tb_sl (C i) (tb_nx C i e) = 1 → post 1 := fun z => by rw [z] at hp; exact hp
  refine pk_lt (i + 1) e (fun h => ?_) (fun h => H1 ?_) (nI_1 i) rfl
  · have nx : tb_nx C i e = C (i + 1) := if_pos h
    rw [nx] at H1 H2
    refine ⟨vp_in_nI (by omega) (by omega), nm_r (tb_rd (by omega)) ⟨pk_in (i + 1) 256 (by omega) (nI_1 i), nm_r (tb_rdx (i + 1) (nI_1 i) (by omega)) ?_⟩⟩
    refine pk_eq (C i) 60 (fun h1 => pk_eq (C (i + 1)) 61 (fun h2 => br_f tb_10 (H2 (if_pos (by omega)))) (fun h2 => pk_eq (C (i + 1)) 62 (fun h3 => br_f tb_10 (H2 (if_pos (by omega)))) (fun h3 => pk_eq (C i) 62 (fun h4 => absurd h4 (by omega)) (fun h4 => br_t rfl (H1 (if_neg (by omega))))))) (fun h1 => pk_eq (C i) 62 (fun h4 => pk_eq (C (i + 1)) 61 (fun h2 => br_f tb_10 (H2 (if_pos (by omega)))) (fun h2 => br_t rfl (H1 (if_neg (by omega))))) (fun h4 => br_t rfl (H1 (if_neg (by omega)))))
  · have nx : tb_nx C i e = 0 := if_neg (by omega)
    rw [nx]
    exact if_neg (by omega)
theorem xx_toklen {post : Int32 → Prop} {i : Nat} (hC : ∀ j, C j < 127) (he : e ≤ 256) (hi : i < e) (hp : post (nI (tb_te C i e - i))) : wpX_tokenLength post (f_gosubDepth, f_forDepth, f_outCap, f_sourceLength, f_compiled, f_errorLine, f_tokenCount, f_tokenAt, f_heldCount, f_lineTotal, f_codeLength, f_dividedByZero, f_status, f_stopLine, f_steps, f_position, f_outputCount, f_gosubCount, f_frameCount, tb_S C, a_tokens, a_held, a_programOrder, a_lineNumber, a_lineKeyword, a_lineVariable, a_lineRelation, a_code, a_codeStart, a_codeEnd, a_operands, a_variables, a_output, a_returnTo, a_frameVariable, a_frameLimit, a_frameBody) (nI i) (nI e) := by
  unfold tb_te at hp
  have v : vp_in (nI i) 256 := vp_in_nI (by omega) (by omega)
  refine ⟨v, xx_dig (C i) (tb_rd (by omega)) (hC i) (fun z => br_f tb_10 ?_) (fun z => br_t rfl ⟨v, xx_let (C i) (tb_rd (by omega)) (hC i) (fun y => br_f tb_10 ?_) (fun y => br_t rfl ?_)⟩)⟩
  · rw [if_pos z] at hp
    exact ⟨_, xx_digits hC he (e - i) i (by omega) (Nat.le_refl _) hp⟩
  · rw [if_neg z, if_pos y] at hp
    exact ⟨_, xx_letters hC he (e - i) i (by omega) (Nat.le_refl _) hp⟩
  · rw [if_neg z, if_neg y, Nat.add_sub_cancel_left] at hp
    exact xx_symlen hC he hi hp
theorem xx_num {post : Int32 → Prop} {i l : Nat} (hC : ∀ j, C j < 127) (hl : i + l ≤ 256) (hd : ∀ k, k < l → 48 ≤ C (i + k) ∧ C (i + k) ≤ 57) (hp : post (tb_tI (if tb_nv C i l ≤ 32767 then tb_nv C i l else 50000))) : ∀ d j, j + d = l → tb_nv C i j ≤ 32767 → wX_numberOf_5 post (nI i) (nI l) f_gosubDepth f_forDepth f_outCap f_sourceLength f_compiled f_errorLine f_tokenCount f_tokenAt f_heldCount f_lineTotal f_codeLength f_dividedByZero f_status f_stopLine f_steps f_position f_outputCount f_gosubCount f_frameCount (tb_S C) a_tokens a_held a_programOrder a_lineNumber a_lineKeyword a_lineVariable a_lineRelation a_code a_codeStart a_codeEnd a_operands a_variables a_output a_returnTo a_frameVariable a_frameLimit a_frameBody (d + 1) (nI (tb_nv C i j)) (nI j)
  | 0, j, hj, hv => pk_le l j (fun _ => by
      have : j = l := by omega
      subst this
      rw [if_pos hv, tb_tI_n (by omega)] at hp
      exact hp) (fun h => absurd h (by omega))
  | d + 1, j, hj, hv => pk_le l j (fun h => absurd h (by omega)) (fun h => ⟨pk_in (i + j) 256 (by omega) (nI_add i j), by
      have dj := hd j (by omega)
      have e1 : (nI (tb_nv C i j) * 10 + tb_S C (nI i + nI j).toNatClampNeg) - 48 = nI (tb_nv C i (j + 1)) := by
        rw [tb_rdx (i + j) (nI_add i j) (by omega)]
        show nI (tb_nv C i j) * nI 10 + nI (C (i + j)) - nI 48 = _
        rw [pk_mul, nI_add, pk_sub (by omega)]
        show _ = nI (tb_nv C i j * 10 + (C (i + j) - 48))
        congr 1
        omega
      have e2 : tb_nv C i (j + 1) = tb_nv C i j * 10 + (C (i + j) - 48) := rfl
      refine nm_r e1 (pk_le (tb_nv C i (j + 1)) 32767 (fun h2 => nm_r (nI_1 j) (xx_num hC hl hd hp d (j + 1) (by omega) h2)) (fun h2 => ?_))
      have m := tb_nv_mono C i (j + 1) d
      rw [show j + 1 + d = l from by omega] at m
      rw [if_neg (by omega), tb_tI_b] at hp
      exact hp⟩)
theorem xx_word {post : Int32 → Prop} {i l : Nat} (hC : ∀ j, C j < 127) (hl : i + l ≤ 256) (h6 : l ≤ 6) (hd : ∀ k, k < l → 65 ≤ C (i + k) ∧ C (i + k) ≤ 90) (hp : post (tb_tI (tb_kw (tb_wd C i l)))) : ∀ d j, j + d = l → wX_wordOf_31 post (nI i) (nI l) f_gosubDepth f_forDepth f_outCap f_sourceLength f_compiled f_errorLine f_tokenCount f_tokenAt f_heldCount f_lineTotal f_codeLength f_dividedByZero f_status f_stopLine f_steps f_position f_outputCount f_gosubCount f_frameCount (tb_S C) a_tokens a_held a_programOrder a_lineNumber a_lineKeyword a_lineVariable a_lineRelation a_code a_codeStart a_codeEnd a_operands a_variables a_output a_returnTo a_frameVariable a_frameLimit a_frameBody (d + 1) (nI (tb_pk 32 (tb_wd C i j))) (nI j)
  | 0, j, hj => pk_le l j (fun _ => by
      have : j = l := by omega
      subst this
      exact xx_kw (tb_wd_in C i j hd) (by rw [tb_wd_len]; exact h6) hp) (fun h => absurd h (by omega))
  | d + 1, j, hj => pk_le l j (fun h => absurd h (by omega)) (fun h => ⟨pk_in (i + j) 256 (by omega) (nI_add i j), by
      have dj := hd j (by omega)
      have b : tb_pk 32 (tb_wd C i j) < 33554432 := by
        have a := tb_pk_lt 32 (by omega) _ (tb_wd_in C i j (fun k hk => hd k (by omega)))
        rw [tb_wd_len] at a
        have b : 32 ^ j ≤ 32 ^ 5 := Nat.pow_le_pow_right (by omega) (by omega)
        have c : (32 : Nat) ^ 5 = 33554432 := by decide
        omega
      refine nm_r ?_ (nm_r (nI_1 j) (xx_word hC hl h6 hd hp d (j + 1) (by omega)))
      rw [tb_rdx (i + j) (nI_add i j) (by omega), tb_pack b dj]
      rfl⟩)
theorem xx_symof {post : Int32 → Prop} {i : Nat} (hC : ∀ j, C j < 127) (he : e ≤ 256) (hi : i < e) (hp : post (tb_tI (tb_st (C i) (tb_nx C i e)))) : wpX_symbolOf post (f_gosubDepth, f_forDepth, f_outCap, f_sourceLength, f_compiled, f_errorLine, f_tokenCount, f_tokenAt, f_heldCount, f_lineTotal, f_codeLength, f_dividedByZero, f_status, f_stopLine, f_steps, f_position, f_outputCount, f_gosubCount, f_frameCount, tb_S C, a_tokens, a_held, a_programOrder, a_lineNumber, a_lineKeyword, a_lineVariable, a_lineRelation, a_code, a_codeStart, a_codeEnd, a_operands, a_variables, a_output, a_returnTo, a_frameVariable, a_frameLimit, a_frameBody) (nI i) (nI (tb_sl (C i) (tb_nx C i e))) := by
  have b0 := hC i
  have b1 := hC (i + 1)
  refine ⟨vp_in_nI (by omega) (by omega), nm_r (tb_rd (by omega)) ?_⟩
  by_cases h : tb_sl (C i) (tb_nx C i e) = 2
  · have hh := h
    unfold tb_sl at hh
    have hs : (C i = 60 ∧ (tb_nx C i e = 61 ∨ tb_nx C i e = 62)) ∨ (C i = 62 ∧ tb_nx C i e = 61) := by
      rcases Classical.em ((C i = 60 ∧ (tb_nx C i e = 61 ∨ tb_nx C i e = 62)) ∨ (C i = 62 ∧ tb_nx C i e = 61)) with z | z
      · exact z
      · rw [if_neg z] at hh; omega
    have hlt : i + 1 < e := by
      rcases Nat.lt_or_ge (i + 1) e with z | z
      · exact z
      · have nx : tb_nx C i e = 0 := if_neg (by omega)
        omega
    have nx : tb_nx C i e = C (i + 1) := if_pos hlt
    rw [nx] at hs hp
    rw [h]
    refine br_t rfl ?_
    rcases hs with ⟨z, z2 | z2⟩ | ⟨z, z2⟩
    · rw [z, z2] at hp
      rw [z]
      exact br_f (by decide) ⟨pk_in (i + 1) 256 (by omega) (nI_1 i), by rw [tb_rdx (i + 1) (nI_1 i) (by omega), z2]; exact br_t rfl hp⟩
    · rw [z, z2] at hp
      rw [z]
      exact br_f (by decide) ⟨pk_in (i + 1) 256 (by omega) (nI_1 i), by rw [tb_rdx (i + 1) (nI_1 i) (by omega), z2]; exact br_f (by decide) hp⟩
    · rw [z, z2] at hp
      rw [z]
      exact br_t rfl hp
  · have h1 : tb_sl (C i) (tb_nx C i e) = 1 := by
      unfold tb_sl at h ⊢
      split
      · next z => rw [if_pos z] at h; omega
      · rfl
    rw [h1]
    rw [tb_st1 h1] at hp
    refine br_f (by decide) ?_
    generalize C i = c at hp b0
    have no : (c ≠ 43 ∧ c ≠ 45 ∧ c ≠ 42 ∧ c ≠ 47 ∧ c ≠ 40 ∧ c ≠ 41 ∧ c ≠ 61 ∧ c ≠ 60 ∧ c ≠ 62) → post (-1) := fun z => by rw [tb_s1_no z, tb_tI_b] at hp; exact hp
    have cs : ∀ k, c = k → post (tb_tI (tb_s1 k)) := fun k hk => by rw [← hk]; exact hp
    refine pk_lt c 40 (fun z => no (by omega)) (fun z0 => pk_lt 62 c (fun z => no (by omega)) (fun z1 => ?_))
    refine pk_eq c 40 (fun z => cs 40 z) (fun n40 => ?_)
    refine pk_eq c 41 (fun z => cs 41 z) (fun n41 => ?_)
    refine pk_eq c 42 (fun z => cs 42 z) (fun n42 => ?_)
    refine pk_eq c 43 (fun z => cs 43 z) (fun n43 => ?_)
    refine pk_eq c 44 (fun z => no (by omega)) (fun n44 => ?_)
    refine pk_eq c 45 (fun z => cs 45 z) (fun n45 => ?_)
    refine pk_eq c 46 (fun z => no (by omega)) (fun n46 => ?_)
    refine pk_eq c 47 (fun z => cs 47 z) (fun n47 => ?_)
    refine pk_eq c 48 (fun z => no (by omega)) (fun n48 => ?_)
    refine pk_eq c 49 (fun z => no (by omega)) (fun n49 => ?_)
    refine pk_eq c 50 (fun z => no (by omega)) (fun n50 => ?_)
    refine pk_eq c 51 (fun z => no (by omega)) (fun n51 => ?_)
    refine pk_eq c 52 (fun z => no (by omega)) (fun n52 => ?_)
    refine pk_eq c 53 (fun z => no (by omega)) (fun n53 => ?_)
    refine pk_eq c 54 (fun z => no (by omega)) (fun n54 => ?_)
    refine pk_eq c 55 (fun z => no (by omega)) (fun n55 => ?_)
    refine pk_eq c 56 (fun z => no (by omega)) (fun n56 => ?_)
    refine pk_eq c 57 (fun z => no (by omega)) (fun n57 => ?_)
    refine pk_eq c 58 (fun z => no (by omega)) (fun n58 => ?_)
    refine pk_eq c 59 (fun z => no (by omega)) (fun n59 => ?_)
    refine pk_eq c 60 (fun z => cs 60 z) (fun n60 => ?_)
    refine pk_eq c 61 (fun z => cs 61 z) (fun n61 => ?_)
    refine pk_eq c 62 (fun z => cs 62 z) (fun n62 => ?_)
    exact trivial
theorem xx_tokof {post : Int32 → Prop} {i : Nat} (hC : ∀ j, C j < 127) (he : e ≤ 256) (hi : i < e) (hp : post (tb_tI (tb_tk C i e))) : wpX_tokenOf post (f_gosubDepth, f_forDepth, f_outCap, f_sourceLength, f_compiled, f_errorLine, f_tokenCount, f_tokenAt, f_heldCount, f_lineTotal, f_codeLength, f_dividedByZero, f_status, f_stopLine, f_steps, f_position, f_outputCount, f_gosubCount, f_frameCount, tb_S C, a_tokens, a_held, a_programOrder, a_lineNumber, a_lineKeyword, a_lineVariable, a_lineRelation, a_code, a_codeStart, a_codeEnd, a_operands, a_variables, a_output, a_returnTo, a_frameVariable, a_frameLimit, a_frameBody) (nI i) (nI (tb_te C i e - i)) := by
  unfold tb_tk at hp
  unfold tb_te
  have v : vp_in (nI i) 256 := vp_in_nI (by omega) (by omega)
  refine ⟨v, xx_dig (C i) (tb_rd (by omega)) (hC i) (fun z => br_f tb_10 ?_) (fun z => br_t rfl ⟨v, xx_let (C i) (tb_rd (by omega)) (hC i) (fun y => br_f tb_10 ?_) (fun y => br_t rfl ?_)⟩)⟩
  · rw [if_pos z] at hp
    rw [if_pos z]
    have g1 := tb_rn_ge 48 57 C (e - i) i
    have g2 := tb_rn_le 48 57 C (e - i) i
    exact ⟨_, xx_num hC (by omega) (fun k hk => tb_rn_in 48 57 C (e - i) i (i + k) (by omega) (by omega)) hp _ 0 (Nat.zero_add _) (Nat.zero_le _)⟩
  · rw [if_neg z, if_pos y] at hp
    rw [if_neg z, if_pos y]
    have g1 := tb_rn_ge 65 90 C (e - i) i
    have g2 := tb_rn_le 65 90 C (e - i) i
    refine pk_eq (tb_rn 65 90 C (e - i) i - i) 1 (fun h => ⟨v, ?_⟩) (fun h => pk_le (tb_rn 65 90 C (e - i) i - i) 6 (fun h6 => ?_) (fun h6 => ?_))
    · rw [if_pos h, tb_tI_n (by have := hC i; omega)] at hp
      rw [tb_rd (by omega)]
      show post (nI 40000 + nI (C i) - nI 65)
      rw [nI_add, pk_sub (by omega)]
      rw [show 40000 + C i - 65 = 40000 + (C i - 65) from by omega]
      exact hp
    · rw [if_neg h, if_neg (by omega)] at hp
      exact ⟨_, xx_word hC (by omega) h6 (fun k hk => tb_rn_in 65 90 C (e - i) i (i + k) (by omega) (by omega)) hp _ 0 (Nat.zero_add _)⟩
    · rw [if_neg h, if_pos h6, tb_tI_b] at hp
      exact hp
  · rw [if_neg z, if_neg y] at hp
    rw [if_neg z, if_neg y, Nat.add_sub_cancel_left]
    exact xx_symof hC he hi hp
end
end
section
theorem tb_tz_e {C : Nat → Nat} {e d i : Nat} (h : e ≤ i) : tb_tz C e d i = some [] := by
  cases d with
  | zero => rfl
  | succ d => exact if_pos h
theorem tb_tz_s {C : Nat → Nat} {e d i : Nat} (h : ¬ e ≤ i) (z : C i = 32) : tb_tz C e (d + 1) i = tb_tz C e d (i + 1) := by
  show (if e ≤ i then _ else _) = _
  rw [if_neg h, if_pos z]
theorem tb_tz_b {C : Nat → Nat} {e d i : Nat} (h : ¬ e ≤ i) (z : ¬ C i = 32) (b : tb_tk C i e = 50000) : tb_tz C e (d + 1) i = none := by
  show (if e ≤ i then _ else _) = _
  rw [if_neg h, if_neg z, if_pos b]
theorem tb_tz_t {C : Nat → Nat} {e d i : Nat} (h : ¬ e ≤ i) (z : ¬ C i = 32) (b : ¬ tb_tk C i e = 50000) : tb_tz C e (d + 1) i = (tb_tz C e d (tb_te C i e)).map (List.cons (tb_tk C i e)) := by
  show (if e ≤ i then _ else _) = _
  rw [if_neg h, if_neg z, if_neg b]
theorem tb_nm1 {t : Nat} (h : t < 2 ^ 31) : ¬ nI t = -1 := fun e => by
  have := nI_pos h
  rw [e] at this
  exact this (by decide)
theorem tb_tk_lt {C : Nat → Nat} {i e : Nat} (b : ¬ tb_tk C i e = 50000) : tb_ok (tb_tk C i e) ∧ tb_tk C i e < 40214 := by
  rcases tb_tk_ok C i e with y | y
  · exact absurd y b
  · refine ⟨y, ?_⟩
    unfold tb_ok at y
    omega
section
variable {f_gosubDepth f_forDepth f_outCap f_sourceLength f_compiled f_errorLine f_tokenCount f_tokenAt f_heldCount f_lineTotal f_codeLength f_dividedByZero f_status f_stopLine f_steps f_position f_outputCount f_gosubCount f_frameCount : Int32} {a_tokens a_held a_programOrder a_lineNumber a_lineKeyword a_lineVariable a_lineRelation a_code a_codeStart a_codeEnd a_operands a_variables a_output a_returnTo a_frameVariable a_frameLimit a_frameBody : Nat → Int32} {C : Nat → Nat} {e : Nat}
theorem xx_readL {post : Int32 → St2 → Prop} (hC : ∀ j, C j < 127) (he : e ≤ 256) : ∀ (d i m p : Nat) (a_tokens : Nat → Int32), p + d = 40 → m ≤ p → i ≤ e →
    (tb_tz C e d i = none → ∀ k tk, post 0 (f_gosubDepth, f_forDepth, f_outCap, f_sourceLength, f_compiled, f_errorLine, k, f_tokenAt, f_heldCount, f_lineTotal, f_codeLength, f_dividedByZero, f_status, f_stopLine, f_steps, f_position, f_outputCount, f_gosubCount, f_frameCount, tb_S C, tk, a_held, a_programOrder, a_lineNumber, a_lineKeyword, a_lineVariable, a_lineRelation, a_code, a_codeStart, a_codeEnd, a_operands, a_variables, a_output, a_returnTo, a_frameVariable, a_frameLimit, a_frameBody)) →
    (∀ L, tb_tz C e d i = some L → ∀ tk, (∀ j, j < m → tk j = a_tokens j) → tb_sg tk m (L.map nI) → post 1 (f_gosubDepth, f_forDepth, f_outCap, f_sourceLength, f_compiled, f_errorLine, nI (m + L.length), f_tokenAt, f_heldCount, f_lineTotal, f_codeLength, f_dividedByZero, f_status, f_stopLine, f_steps, f_position, f_outputCount, f_gosubCount, f_frameCount, tb_S C, tk, a_held, a_programOrder, a_lineNumber, a_lineKeyword, a_lineVariable, a_lineRelation, a_code, a_codeStart, a_codeEnd, a_operands, a_variables, a_output, a_returnTo, a_frameVariable, a_frameLimit, a_frameBody)) →
    wX_readTokens_15 post (nI e) f_gosubDepth f_forDepth f_outCap f_sourceLength f_compiled f_errorLine f_tokenAt f_heldCount f_lineTotal f_codeLength f_dividedByZero f_status f_stopLine f_steps f_position f_outputCount f_gosubCount f_frameCount (d + 1) (nI i) (nI p) (nI m) (tb_S C) a_tokens a_held a_programOrder a_lineNumber a_lineKeyword a_lineVariable a_lineRelation a_code a_codeStart a_codeEnd a_operands a_variables a_output a_returnTo a_frameVariable a_frameLimit a_frameBody
  | 0, i, m, p, a_tokens, hp, hm, hi, hN, hS => pk_le 40 p (fun _ => hS [] rfl a_tokens (fun _ _ => rfl) trivial) (fun h => absurd h (by omega))
  | d + 1, i, m, p, a_tokens, hp, hm, hi, hN, hS => pk_le 40 p (fun h => absurd h (by omega)) (fun h40 => pk_le e i (fun hei => hS [] (tb_tz_e hei) a_tokens (fun _ _ => rfl) trivial) (fun hie => ⟨vp_in_nI (by omega) (by omega),
      pk_eq (C i) 32
        (fun z => nm_r (nI_1 i) (nm_r (nI_1 p) (xx_readL hC he d (i + 1) m (p + 1) a_tokens (by omega) (by omega) (by omega)
          (fun q => hN ((tb_tz_s (by omega) z).trans q)) (fun L q => hS L ((tb_tz_s (by omega) z).trans q)))))
        (fun z => xx_toklen hC he hie (xx_tokof hC he hie (by
          by_cases hb : tb_tk C i e = 50000
          · rw [hb, tb_tI_b]
            exact br_t rfl (hN (tb_tz_b (by omega) z hb) (nI m) a_tokens)
          · have ⟨ok, lt⟩ := tb_tk_lt hb
            have g1 := tb_te_gt C hie
            have g2 := tb_te_le C hie
            rw [tb_tI_n hb]
            refine br_f (tb_nm1 (by omega)) ⟨vp_in_nI (by omega) (by omega), nm_r (e' := upd a_tokens m (nI (tb_tk C i e))) (by rw [nI_clamp (by omega)]) (nm_r (nI_1 m) (nm_r (e' := nI (tb_te C i e)) (by rw [nI_add]; congr 1; omega) (nm_r (nI_1 p) ?_)))⟩
            refine xx_readL hC he d (tb_te C i e) (m + 1) (p + 1) (upd a_tokens m (nI (tb_tk C i e))) (by omega) (by omega) g2 (fun q => hN ?_) (fun L q tk h1 h2 => ?_)
            · rw [tb_tz_t (by omega) z hb, q]; rfl
            · have w := hS (tb_tk C i e :: L) (by rw [tb_tz_t (by omega) z hb, q]; rfl) tk (fun j hj => (h1 j (by omega)).trans (pk_un (by omega))) ⟨(h1 m (by omega)).trans pk_us, h2⟩
              rw [show m + (tb_tk C i e :: L).length = m + 1 + L.length from by simp only [List.length_cons]; omega] at w
              exact w)))
        (tb_rd (by omega)) rfl (by have := hC i; omega)⟩))
theorem xx_read {post : Int32 → St2 → Prop} {i : Nat} (hC : ∀ j, C j < 127) (he : e ≤ 256) (hi : i ≤ e)
    (hN : tb_tz C e 40 i = none → ∀ k tk, post 0 (f_gosubDepth, f_forDepth, f_outCap, f_sourceLength, f_compiled, f_errorLine, k, 0, f_heldCount, f_lineTotal, f_codeLength, f_dividedByZero, f_status, f_stopLine, f_steps, f_position, f_outputCount, f_gosubCount, f_frameCount, tb_S C, tk, a_held, a_programOrder, a_lineNumber, a_lineKeyword, a_lineVariable, a_lineRelation, a_code, a_codeStart, a_codeEnd, a_operands, a_variables, a_output, a_returnTo, a_frameVariable, a_frameLimit, a_frameBody))
    (hS : ∀ L, tb_tz C e 40 i = some L → ∀ tk, tb_sg tk 0 (L.map nI) → post 1 (f_gosubDepth, f_forDepth, f_outCap, f_sourceLength, f_compiled, f_errorLine, nI L.length, 0, f_heldCount, f_lineTotal, f_codeLength, f_dividedByZero, f_status, f_stopLine, f_steps, f_position, f_outputCount, f_gosubCount, f_frameCount, tb_S C, tk, a_held, a_programOrder, a_lineNumber, a_lineKeyword, a_lineVariable, a_lineRelation, a_code, a_codeStart, a_codeEnd, a_operands, a_variables, a_output, a_returnTo, a_frameVariable, a_frameLimit, a_frameBody)) : wpX_readTokens post (f_gosubDepth, f_forDepth, f_outCap, f_sourceLength, f_compiled, f_errorLine, f_tokenCount, f_tokenAt, f_heldCount, f_lineTotal, f_codeLength, f_dividedByZero, f_status, f_stopLine, f_steps, f_position, f_outputCount, f_gosubCount, f_frameCount, tb_S C, a_tokens, a_held, a_programOrder, a_lineNumber, a_lineKeyword, a_lineVariable, a_lineRelation, a_code, a_codeStart, a_codeEnd, a_operands, a_variables, a_output, a_returnTo, a_frameVariable, a_frameLimit, a_frameBody) (nI i) (nI e) :=
  ⟨41, xx_readL hC he 40 i 0 0 a_tokens rfl (Nat.le_refl _) hi hN (fun L q tk _ h2 => by
    have w := hS L q tk h2
    rw [Nat.zero_add]
    exact w)⟩
end
end
section
/-! ===== the class's expressions ===== -/
section
variable {T : Nat → Nat} {n d i : Nat} {h c : List Nat}
theorem tb_xp_te (a : n ≤ i) : tb_xp T n (d + 1) i true h c = none := if_pos a
theorem tb_xp_to (a : ¬ n ≤ i) (b : T i ≤ 32767 ∨ (40000 ≤ T i ∧ T i < 40026)) : tb_xp T n (d + 1) i true h c = tb_xp T n d (i + 1) false h (c ++ [T i]) := by
  show (if n ≤ i then _ else _) = _
  rw [if_neg a, if_pos b]
theorem tb_xp_tm (a : ¬ n ≤ i) (b : T i = 40202) : tb_xp T n (d + 1) i true h c = tb_xp T n d (i + 1) true (40205 :: h) c := by
  show (if n ≤ i then _ else _) = _
  rw [if_neg a, if_neg (by omega), if_pos b]
theorem tb_xp_tp (a : ¬ n ≤ i) (b : T i = 40206) : tb_xp T n (d + 1) i true h c = tb_xp T n d (i + 1) true (40206 :: h) c := by
  show (if n ≤ i then _ else _) = _
  rw [if_neg a, if_neg (by omega), if_neg (by omega), if_pos b]
theorem tb_xp_tn (a : ¬ n ≤ i) (b : ¬ (T i ≤ 32767 ∨ (40000 ≤ T i ∧ T i < 40026))) (b2 : T i ≠ 40202) (b3 : T i ≠ 40206) : tb_xp T n (d + 1) i true h c = none := by
  show (if n ≤ i then _ else _) = _
  rw [if_neg a, if_neg b, if_neg b2, if_neg b3]
theorem tb_xp_fe (a : n ≤ i ∨ (¬ 0 < tb_rk (T i) ∧ T i ≠ 40207)) : tb_xp T n (d + 1) i false h c = if tb_rr 1 h = [] then some (i, c ++ tb_rp 1 h) else none := by
  show (if n ≤ i then _ else _) = _
  by_cases z : n ≤ i
  · rw [if_pos z]
  · rw [if_neg z, if_neg (by omega), if_neg (by omega)]
theorem tb_xp_fo (a : ¬ n ≤ i) (b : 0 < tb_rk (T i)) : tb_xp T n (d + 1) i false h c = tb_xp T n d (i + 1) true (T i :: tb_rr (tb_rk (T i)) h) (c ++ tb_rp (tb_rk (T i)) h) := by
  show (if n ≤ i then _ else _) = _
  rw [if_neg a, if_pos b]
theorem tb_xp_fc (a : ¬ n ≤ i) (b : T i = 40207) : tb_xp T n (d + 1) i false h c = if tb_rr 1 h = [] then none else tb_xp T n d (i + 1) false (tb_rr 1 h).tail (c ++ tb_rp 1 h) := by
  have k : ¬ 0 < tb_rk (T i) := fun z => by rw [tb_rk_pos] at z; omega
  show (if n ≤ i then _ else _) = _
  rw [if_neg a, if_neg k, if_pos b]
end
theorem tb_m1 (x : Int32) : x + (-1) = x - 1 := (Int32.sub_eq_add_neg x 1).symm
theorem tb_sk_hd {a : Nat → Int32} {t : Nat} {h : List Nat} (s : tb_sk a ((t :: h).map nI)) : a h.length = nI t := by
  have := s.1
  rw [List.length_map] at this
  exact this
theorem tb_sk_tl {a : Nat → Int32} {t : Nat} {h : List Nat} (s : tb_sk a ((t :: h).map nI)) : tb_sk a (h.map nI) := s.2
theorem tb_sk_rr {a : Nat → Int32} (r : Nat) : ∀ {h : List Nat}, tb_sk a (h.map nI) → tb_sk a ((tb_rr r h).map nI)
  | [], s => s
  | t :: h, s => by
    unfold tb_rr
    split
    · exact tb_sk_rr r (tb_sk_tl s)
    · exact s
theorem tb_sk_tail {a : Nat → Int32} {h : List Nat} (s : tb_sk a (h.map nI)) : tb_sk a (h.tail.map nI) := by
  cases h with
  | nil => exact s
  | cons t h => exact tb_sk_tl s
theorem tb_sk_ph {a : Nat → Int32} {h : List Nat} (t : Nat) (s : tb_sk a (h.map nI)) : tb_sk (upd a h.length (nI t)) ((t :: h).map nI) := by
  have := tb_sk_push (x := nI t) s
  rw [List.length_map] at this
  exact this
theorem xx_rank {post : Int32 → Prop} {x : Int32} (t : Nat) (hx : x = nI t) (ht : t < 2 ^ 31) (hp : post (nI (tb_rk t))) : wpX_rankOf post () x := by
  subst hx
  have A : ∀ r, tb_rk t = r → post (nI r) := fun r e => by rw [← e]; exact hp
  refine pk_lt t 40201 (fun z => A 0 ?_) (fun z1 => pk_lt 40205 t (fun z => A 0 ?_) (fun z2 => pk_eq t 40201 (fun z => A 1 ?_) (fun n1 => pk_eq t 40202 (fun z => A 1 ?_) (fun n2 => pk_eq t 40203 (fun z => A 2 ?_) (fun n3 => pk_eq t 40204 (fun z => A 2 ?_) (fun n4 => pk_eq t 40205 (fun z => A 3 ?_) (fun n5 => trivial)))))))
  all_goals
    unfold tb_rk
    repeat' split
    all_goals omega
theorem xx_isnum {post : Int32 → Prop} (t : Nat) (ht : t < 2 ^ 31) (h1 : t ≤ 32767 → post 1) (h0 : 32767 < t → post 0) : wpX_isNumber post () (nI t) :=
  br_f (nI_pos ht) (pk_lt 32767 t h0 h1)
theorem xx_isvar {post : Int32 → Prop} (t : Nat) (ht : t < 2 ^ 31) (h1 : 40000 ≤ t ∧ t < 40026 → post 1) (h0 : ¬ (40000 ≤ t ∧ t < 40026) → post 0) : wpX_isVariable post () (nI t) :=
  pk_lt t 40000 (fun z => h0 (by omega)) (fun z1 => pk_le 40026 t (fun z => h0 (by omega)) (fun z2 => h1 (by omega)))
section
variable {f_gosubDepth f_forDepth f_outCap f_sourceLength f_compiled f_errorLine f_tokenCount f_tokenAt f_heldCount f_lineTotal f_codeLength f_dividedByZero f_status f_stopLine f_steps f_position f_outputCount f_gosubCount f_frameCount : Int32} {a_source a_tokens a_held a_programOrder a_lineNumber a_lineKeyword a_lineVariable a_lineRelation a_code a_codeStart a_codeEnd a_operands a_variables a_output a_returnTo a_frameVariable a_frameLimit a_frameBody : Nat → Int32}
theorem xx_emit {post : St2 → Prop} {t : Int32} {cl : Nat} (h : cl < 256) (hp : post (f_gosubDepth, f_forDepth, f_outCap, f_sourceLength, f_compiled, f_errorLine, f_tokenCount, f_tokenAt, f_heldCount, f_lineTotal, nI (cl + 1), f_dividedByZero, f_status, f_stopLine, f_steps, f_position, f_outputCount, f_gosubCount, f_frameCount, a_source, a_tokens, a_held, a_programOrder, a_lineNumber, a_lineKeyword, a_lineVariable, a_lineRelation, upd a_code cl t, a_codeStart, a_codeEnd, a_operands, a_variables, a_output, a_returnTo, a_frameVariable, a_frameLimit, a_frameBody)) : wpX_emit post (f_gosubDepth, f_forDepth, f_outCap, f_sourceLength, f_compiled, f_errorLine, f_tokenCount, f_tokenAt, f_heldCount, f_lineTotal, nI cl, f_dividedByZero, f_status, f_stopLine, f_steps, f_position, f_outputCount, f_gosubCount, f_frameCount, a_source, a_tokens, a_held, a_programOrder, a_lineNumber, a_lineKeyword, a_lineVariable, a_lineRelation, a_code, a_codeStart, a_codeEnd, a_operands, a_variables, a_output, a_returnTo, a_frameVariable, a_frameLimit, a_frameBody) t :=
  pk_le 256 cl (fun z => absurd z (by omega)) (fun _ => ⟨vp_in_nI h (by omega), nm_r (by rw [nI_clamp (by omega)]) (nm_r (nI_1 cl) hp)⟩)
theorem xx_hold {post : St2 → Prop} {t : Int32} {k : Nat} (h : k < 40) (hp : post (f_gosubDepth, f_forDepth, f_outCap, f_sourceLength, f_compiled, f_errorLine, f_tokenCount, f_tokenAt, nI (k + 1), f_lineTotal, f_codeLength, f_dividedByZero, f_status, f_stopLine, f_steps, f_position, f_outputCount, f_gosubCount, f_frameCount, a_source, a_tokens, upd a_held k t, a_programOrder, a_lineNumber, a_lineKeyword, a_lineVariable, a_lineRelation, a_code, a_codeStart, a_codeEnd, a_operands, a_variables, a_output, a_returnTo, a_frameVariable, a_frameLimit, a_frameBody)) : wpX_hold post (f_gosubDepth, f_forDepth, f_outCap, f_sourceLength, f_compiled, f_errorLine, f_tokenCount, f_tokenAt, nI k, f_lineTotal, f_codeLength, f_dividedByZero, f_status, f_stopLine, f_steps, f_position, f_outputCount, f_gosubCount, f_frameCount, a_source, a_tokens, a_held, a_programOrder, a_lineNumber, a_lineKeyword, a_lineVariable, a_lineRelation, a_code, a_codeStart, a_codeEnd, a_operands, a_variables, a_output, a_returnTo, a_frameVariable, a_frameLimit, a_frameBody) t :=
  pk_le 40 k (fun z => absurd z (by omega)) (fun _ => ⟨vp_in_nI h (by omega), nm_r (by rw [nI_clamp (by omega)]) (nm_r (nI_1 k) hp)⟩)
theorem xx_relL {post : St2 → Prop} {r : Nat} (hr : r ≤ 3) : ∀ (h : List Nat) (cl : Nat) (a_code : Nat → Int32), tb_hk h → tb_sk a_held (h.map nI) → h.length ≤ 40 → cl + h.length ≤ 256 →
    (∀ cd, (∀ j, j < cl → cd j = a_code j) → tb_sg cd cl ((tb_rp r h).map nI) → post (f_gosubDepth, f_forDepth, f_outCap, f_sourceLength, f_compiled, f_errorLine, f_tokenCount, f_tokenAt, nI (tb_rr r h).length, f_lineTotal, nI (cl + (tb_rp r h).length), f_dividedByZero, f_status, f_stopLine, f_steps, f_position, f_outputCount, f_gosubCount, f_frameCount, a_source, a_tokens, a_held, a_programOrder, a_lineNumber, a_lineKeyword, a_lineVariable, a_lineRelation, cd, a_codeStart, a_codeEnd, a_operands, a_variables, a_output, a_returnTo, a_frameVariable, a_frameLimit, a_frameBody)) →
    wX_release_7 post (nI r) (h.length + 1) (nI h.length - 1) f_gosubDepth f_forDepth f_outCap f_sourceLength f_compiled f_errorLine f_tokenCount f_tokenAt (nI h.length) f_lineTotal (nI cl) f_dividedByZero f_status f_stopLine f_steps f_position f_outputCount f_gosubCount f_frameCount a_source a_tokens a_held a_programOrder a_lineNumber a_lineKeyword a_lineVariable a_lineRelation a_code a_codeStart a_codeEnd a_operands a_variables a_output a_returnTo a_frameVariable a_frameLimit a_frameBody
  | [], cl, a_code, hk, hs, h1, h2, K => br_t (by decide) (K a_code (fun _ _ => rfl) trivial)
  | t :: h, cl, a_code, hk, hs, h1, h2, K => by
    have k1 := tb_hk_h hk
    have hd := tb_sk_hd hs
    simp only [List.length_cons] at h1 h2
    have rd : a_held (nI h.length).toNatClampNeg = nI t := by rw [nI_clamp (by omega)]; exact hd
    have b3 := tb_rk_le t
    show wX_release_7 post (nI r) (h.length + 1 + 1) (nI (h.length + 1) - 1) f_gosubDepth f_forDepth f_outCap f_sourceLength f_compiled f_errorLine f_tokenCount f_tokenAt (nI (h.length + 1)) f_lineTotal (nI cl) f_dividedByZero f_status f_stopLine f_steps f_position f_outputCount f_gosubCount f_frameCount a_source a_tokens a_held a_programOrder a_lineNumber a_lineKeyword a_lineVariable a_lineRelation a_code a_codeStart a_codeEnd a_operands a_variables a_output a_returnTo a_frameVariable a_frameLimit a_frameBody
    rw [nI_pred]
    refine br_f (nI_pos (by omega)) ⟨vp_in_nI (by omega) (by omega), xx_rank t rd (by omega) (pk_lt (tb_rk t) r (fun z => ?_) (fun z => ⟨vp_in_nI (by omega) (by omega), ?_⟩))⟩
    · have w := K a_code (fun _ _ => rfl) (by unfold tb_rp; rw [if_neg (by omega)]; trivial)
      unfold tb_rp tb_rr at w
      rw [if_neg (by omega), if_neg (by omega)] at w
      exact w
    · rw [rd]
      refine xx_emit (by omega) (nm_r (tb_m1 (nI h.length)) ?_)
      refine xx_relL hr h (cl + 1) (upd a_code cl (nI t)) (tb_hk_t hk) (tb_sk_tl hs) (by omega) (by omega) (fun cd c1 c2 => ?_)
      have w := K cd (fun j hj => (c1 j (by omega)).trans (pk_un (by omega))) (by unfold tb_rp; rw [if_pos z]; exact ⟨(c1 cl (by omega)).trans pk_us, c2⟩)
      unfold tb_rp tb_rr at w
      rw [if_pos z, if_pos z] at w
      simp only [List.length_cons] at w
      rw [show cl + ((tb_rp r h).length + 1) = cl + 1 + (tb_rp r h).length from by omega] at w
      exact w
theorem xx_rel {post : St2 → Prop} {r : Nat} {h : List Nat} {cl : Nat} (hr : r ≤ 3) (hk : tb_hk h) (hs : tb_sk a_held (h.map nI)) (h1 : h.length ≤ 40) (h2 : cl + h.length ≤ 256)
    (K : ∀ cd, (∀ j, j < cl → cd j = a_code j) → tb_sg cd cl ((tb_rp r h).map nI) → post (f_gosubDepth, f_forDepth, f_outCap, f_sourceLength, f_compiled, f_errorLine, f_tokenCount, f_tokenAt, nI (tb_rr r h).length, f_lineTotal, nI (cl + (tb_rp r h).length), f_dividedByZero, f_status, f_stopLine, f_steps, f_position, f_outputCount, f_gosubCount, f_frameCount, a_source, a_tokens, a_held, a_programOrder, a_lineNumber, a_lineKeyword, a_lineVariable, a_lineRelation, cd, a_codeStart, a_codeEnd, a_operands, a_variables, a_output, a_returnTo, a_frameVariable, a_frameLimit, a_frameBody)) :
    wpX_release post (f_gosubDepth, f_forDepth, f_outCap, f_sourceLength, f_compiled, f_errorLine, f_tokenCount, f_tokenAt, nI h.length, f_lineTotal, nI cl, f_dividedByZero, f_status, f_stopLine, f_steps, f_position, f_outputCount, f_gosubCount, f_frameCount, a_source, a_tokens, a_held, a_programOrder, a_lineNumber, a_lineKeyword, a_lineVariable, a_lineRelation, a_code, a_codeStart, a_codeEnd, a_operands, a_variables, a_output, a_returnTo, a_frameVariable, a_frameLimit, a_frameBody) (nI r) :=
  nm_e ⟨h.length + 1, xx_relL hr h cl a_code hk hs h1 h2 K⟩
/-- code behind code -/
theorem tb_sg_more {a b : Nat → Int32} {c0 : Nat} {c r : List Nat} (h : tb_sg a c0 (c.map nI)) (k : ∀ j, j < c0 + c.length → b j = a j) (g : tb_sg b (c0 + c.length) (r.map nI)) : tb_sg b c0 ((c ++ r).map nI) := by
  rw [List.map_append]
  refine tb_sg_app (tb_sg_lo h (fun j _ z => k j (by rw [List.length_map] at z; exact z))) (by rw [List.length_map]; exact g)
theorem xx_181 {post : Int32 → St2 → Prop} {k : Nat} {b : Bool} {i c0 : Nat} {h c : List Nat} {cd0 : Nat → Int32} (hk48 : k < 48) (hk : tb_hk h) (hs : tb_sk a_held (h.map nI)) (h1 : h.length ≤ 40) (h2 : c0 + c.length + h.length ≤ 256)
    (hg : tb_sg a_code c0 (c.map nI)) (h0 : ∀ j, j < c0 → a_code j = cd0 j)
    (hN : ¬ (b = false ∧ tb_rr 1 h = []) → ∀ hc cl ta hd cd ce, post 0 (f_gosubDepth, f_forDepth, f_outCap, f_sourceLength, f_compiled, f_errorLine, f_tokenCount, ta, hc, f_lineTotal, cl, f_dividedByZero, f_status, f_stopLine, f_steps, f_position, f_outputCount, f_gosubCount, f_frameCount, a_source, a_tokens, hd, a_programOrder, a_lineNumber, a_lineKeyword, a_lineVariable, a_lineRelation, cd, a_codeStart, ce, a_operands, a_variables, a_output, a_returnTo, a_frameVariable, a_frameLimit, a_frameBody))
    (hS : b = false → tb_rr 1 h = [] → ∀ hd cd, (∀ j, j < c0 → cd j = cd0 j) → tb_sg cd c0 ((c ++ tb_rp 1 h).map nI) → post 1 (f_gosubDepth, f_forDepth, f_outCap, f_sourceLength, f_compiled, f_errorLine, f_tokenCount, nI i, 0, f_lineTotal, nI (c0 + (c ++ tb_rp 1 h).length), f_dividedByZero, f_status, f_stopLine, f_steps, f_position, f_outputCount, f_gosubCount, f_frameCount, a_source, a_tokens, hd, a_programOrder, a_lineNumber, a_lineKeyword, a_lineVariable, a_lineRelation, cd, a_codeStart, upd a_codeEnd k (nI (c0 + (c ++ tb_rp 1 h).length)), a_operands, a_variables, a_output, a_returnTo, a_frameVariable, a_frameLimit, a_frameBody)) :
    wX_takeExpression_181 post (nI k) (if b = true then 1 else 0) (nI i) f_gosubDepth f_forDepth f_outCap f_sourceLength f_compiled f_errorLine f_tokenCount f_tokenAt (nI h.length) f_lineTotal (nI (c0 + c.length)) f_dividedByZero f_status f_stopLine f_steps f_position f_outputCount f_gosubCount f_frameCount a_source a_tokens a_held a_programOrder a_lineNumber a_lineKeyword a_lineVariable a_lineRelation a_code a_codeStart a_codeEnd a_operands a_variables a_output a_returnTo a_frameVariable a_frameLimit a_frameBody := by
  refine xx_rel (r := 1) (by omega) hk hs h1 h2 (fun cd c1 c2 => ⟨vp_in_nI hk48 (by omega), nm_e ?_⟩)
  cases b with
  | true => exact br_f tb_10 (hN (fun z => by cases z.1) _ _ _ _ _ _)
  | false =>
    refine br_t rfl ?_
    by_cases z : tb_rr 1 h = []
    · rw [z]
      have w := hS rfl z a_held cd (fun j hj => (c1 j (by omega)).trans (h0 j hj)) (tb_sg_more hg c1 c2)
      rw [List.length_append, ← Nat.add_assoc] at w
      rw [nI_clamp (by omega)]
      exact br_t rfl w
    · have len : 0 < (tb_rr 1 h).length := List.length_pos_iff.mpr z
      have q := tb_rpr 1 h
      exact br_f (nI_ne0 len (by omega)) (hN (fun y => z y.2) _ _ _ _ _ _)
end
end
section
theorem tb_tok_rd {a : Nat → Int32} {L : List Nat} (h : tb_sg a 0 (L.map nI)) {i : Nat} (hi : i < L.length) (hn : L.length ≤ 40) : a (nI i).toNatClampNeg = nI (tb_T L i) := by
  rw [nI_clamp (by omega)]
  have := tb_sg_T nI h i hi
  rw [Nat.zero_add] at this
  exact this
theorem tb_ok_lt {L : List Nat} (hok : ∀ t, t ∈ L → tb_ok t) (i : Nat) : tb_T L i < 40214 := by
  rcases Nat.lt_or_ge i L.length with z | z
  · have := hok _ (tb_T_mem z)
    unfold tb_ok at this
    omega
  · rw [tb_T_out z]; omega
section
variable {f_gosubDepth f_forDepth f_outCap f_sourceLength f_compiled f_errorLine f_tokenCount f_tokenAt f_heldCount f_lineTotal f_codeLength f_dividedByZero f_status f_stopLine f_steps f_position f_outputCount f_gosubCount f_frameCount : Int32} {a_source a_tokens a_held a_programOrder a_lineNumber a_lineKeyword a_lineVariable a_lineRelation a_code a_codeStart a_codeEnd a_operands a_variables a_output a_returnTo a_frameVariable a_frameLimit a_frameBody : Nat → Int32}
theorem xx_xL {post : Int32 → St2 → Prop} {L : List Nat} {k c0 : Nat} {cd0 : Nat → Int32} (hk48 : k < 48) (hL : L.length ≤ 40) (hok : ∀ t, t ∈ L → tb_ok t) (htk : tb_sg a_tokens 0 (L.map nI)) :
    ∀ (d i : Nat) (b : Bool) (h c : List Nat) (a_held a_code : Nat → Int32), tb_hk h → tb_sk a_held (h.map nI) → tb_sg a_code c0 (c.map nI) → (∀ j, j < c0 → a_code j = cd0 j) →
    h.length + (L.length - i) ≤ 40 → c0 + c.length + h.length + (L.length - i) ≤ 256 → L.length < i + d → i ≤ L.length →
    (tb_xp (tb_T L) L.length d i b h c = none → ∀ hc cl ta hd cd ce, post 0 (f_gosubDepth, f_forDepth, f_outCap, f_sourceLength, f_compiled, f_errorLine, nI L.length, ta, hc, f_lineTotal, cl, f_dividedByZero, f_status, f_stopLine, f_steps, f_position, f_outputCount, f_gosubCount, f_frameCount, a_source, a_tokens, hd, a_programOrder, a_lineNumber, a_lineKeyword, a_lineVariable, a_lineRelation, cd, a_codeStart, ce, a_operands, a_variables, a_output, a_returnTo, a_frameVariable, a_frameLimit, a_frameBody)) →
    (∀ e c', tb_xp (tb_T L) L.length d i b h c = some (e, c') → ∀ hd cd, (∀ j, j < c0 → cd j = cd0 j) → tb_sg cd c0 (c'.map nI) → post 1 (f_gosubDepth, f_forDepth, f_outCap, f_sourceLength, f_compiled, f_errorLine, nI L.length, nI e, 0, f_lineTotal, nI (c0 + c'.length), f_dividedByZero, f_status, f_stopLine, f_steps, f_position, f_outputCount, f_gosubCount, f_frameCount, a_source, a_tokens, hd, a_programOrder, a_lineNumber, a_lineKeyword, a_lineVariable, a_lineRelation, cd, a_codeStart, upd a_codeEnd k (nI (c0 + c'.length)), a_operands, a_variables, a_output, a_returnTo, a_frameVariable, a_frameLimit, a_frameBody)) →
    wX_takeExpression_22 post (nI k) d (if b = true then 1 else 0) (nI i) f_gosubDepth f_forDepth f_outCap f_sourceLength f_compiled f_errorLine (nI L.length) f_tokenAt (nI h.length) f_lineTotal (nI (c0 + c.length)) f_dividedByZero f_status f_stopLine f_steps f_position f_outputCount f_gosubCount f_frameCount a_source a_tokens a_held a_programOrder a_lineNumber a_lineKeyword a_lineVariable a_lineRelation a_code a_codeStart a_codeEnd a_operands a_variables a_output a_returnTo a_frameVariable a_frameLimit a_frameBody
  | 0, i, b, h, c, a_held, a_code, hk, hs, hg, h0, l1, l2, hd, hi, hN, hS => absurd hd (by omega)
  | d + 1, i, true, h, c, a_held, a_code, hk, hs, hg, h0, l1, l2, hd, hi, hN, hS => by
    have hT := tb_ok_lt hok i
    show wX_takeExpression_22 post (nI k) (d + 1) 1 (nI i) f_gosubDepth f_forDepth f_outCap f_sourceLength f_compiled f_errorLine (nI L.length) f_tokenAt (nI h.length) f_lineTotal (nI (c0 + c.length)) f_dividedByZero f_status f_stopLine f_steps f_position f_outputCount f_gosubCount f_frameCount a_source a_tokens a_held a_programOrder a_lineNumber a_lineKeyword a_lineVariable a_lineRelation a_code a_codeStart a_codeEnd a_operands a_variables a_output a_returnTo a_frameVariable a_frameLimit a_frameBody
    refine pk_le L.length i (fun z => ?_) (fun z => ?_)
    · exact xx_181 (b := true) hk48 hk hs (by omega) (by omega) hg h0 (fun _ => hN (tb_xp_te z)) (fun q => by cases q)
    · have OPD : (tb_T L i ≤ 32767 ∨ (40000 ≤ tb_T L i ∧ tb_T L i < 40026)) → wX_takeExpression_65 post (wX_takeExpression_22 post (nI k) d) (nI k) (nI i) (nI (tb_T L i)) f_gosubDepth f_forDepth f_outCap f_sourceLength f_compiled f_errorLine (nI L.length) f_tokenAt (nI h.length) f_lineTotal (nI (c0 + c.length)) f_dividedByZero f_status f_stopLine f_steps f_position f_outputCount f_gosubCount f_frameCount a_source a_tokens a_held a_programOrder a_lineNumber a_lineKeyword a_lineVariable a_lineRelation a_code a_codeStart a_codeEnd a_operands a_variables a_output a_returnTo a_frameVariable a_frameLimit a_frameBody := fun y => by
        refine xx_emit (by omega) (nm_r (nI_1 i) ?_)
        have e1 : c0 + (c ++ [tb_T L i]).length = c0 + c.length + 1 := by rw [List.length_append]; rfl
        have g2 : tb_sg (upd a_code (c0 + c.length) (nI (tb_T L i))) c0 ((c ++ [tb_T L i]).map nI) := by
          rw [List.map_append]
          have := tb_sg_put (x := nI (tb_T L i)) hg
          rw [List.length_map] at this
          exact this
        have w := xx_xL hk48 hL hok htk d (i + 1) false h (c ++ [tb_T L i]) a_held (upd a_code (c0 + c.length) (nI (tb_T L i))) hk hs g2 (fun j hj => (pk_un (by omega)).trans (h0 j hj)) (by omega) (by omega) (by omega) (by omega)
          (fun q => hN ((tb_xp_to (by omega) y).trans q)) (fun e c' q => hS e c' ((tb_xp_to (by omega) y).trans q))
        rw [e1] at w
        exact w
      refine ⟨vp_in_nI (by omega) (by omega), nm_r (tb_tok_rd htk (by omega) hL) (xx_rank (tb_T L i) rfl (by omega) (br_f tb_10 (xx_isnum (tb_T L i) (by omega) (fun z1 => br_f tb_10 (OPD (Or.inl z1))) (fun z1 => br_t rfl (xx_isvar (tb_T L i) (by omega) (fun z2 => br_f tb_10 (OPD (Or.inr z2))) (fun z2 => br_t rfl ?_))))))⟩
      refine br_f tb_10 (pk_eq (tb_T L i) 40202 (fun z3 => ?_) (fun z3 => br_f tb_10 (pk_eq (tb_T L i) 40206 (fun z4 => ?_) (fun z4 => ?_))))
      · exact xx_hold (by omega) (nm_r (nI_1 i) (xx_xL hk48 hL hok htk d (i + 1) true (40205 :: h) c (upd a_held h.length (nI 40205)) a_code (tb_hk_c (by omega) hk) (tb_sk_ph 40205 hs) hg h0 (by simp only [List.length_cons]; omega) (by simp only [List.length_cons]; omega) (by omega) (by omega)
          (fun q => hN ((tb_xp_tm (by omega) z3).trans q)) (fun e c' q => hS e c' ((tb_xp_tm (by omega) z3).trans q))))
      · exact xx_hold (by omega) (nm_r (nI_1 i) (xx_xL hk48 hL hok htk d (i + 1) true (40206 :: h) c (upd a_held h.length (nI 40206)) a_code (tb_hk_c (by omega) hk) (tb_sk_ph 40206 hs) hg h0 (by simp only [List.length_cons]; omega) (by simp only [List.length_cons]; omega) (by omega) (by omega)
          (fun q => hN ((tb_xp_tp (by omega) z4).trans q)) (fun e c' q => hS e c' ((tb_xp_tp (by omega) z4).trans q))))
      · exact br_f tb_10 (hN (tb_xp_tn (by omega) (by omega) z3 z4) _ _ _ _ _ _)
  | d + 1, i, false, h, c, a_held, a_code, hk, hs, hg, h0, l1, l2, hd, hi, hN, hS => by
    have hT := tb_ok_lt hok i
    show wX_takeExpression_22 post (nI k) (d + 1) 0 (nI i) f_gosubDepth f_forDepth f_outCap f_sourceLength f_compiled f_errorLine (nI L.length) f_tokenAt (nI h.length) f_lineTotal (nI (c0 + c.length)) f_dividedByZero f_status f_stopLine f_steps f_position f_outputCount f_gosubCount f_frameCount a_source a_tokens a_held a_programOrder a_lineNumber a_lineKeyword a_lineVariable a_lineRelation a_code a_codeStart a_codeEnd a_operands a_variables a_output a_returnTo a_frameVariable a_frameLimit a_frameBody
    have FIN : (L.length ≤ i ∨ (¬ 0 < tb_rk (tb_T L i) ∧ tb_T L i ≠ 40207)) → wX_takeExpression_181 post (nI k) 0 (nI i) f_gosubDepth f_forDepth f_outCap f_sourceLength f_compiled f_errorLine (nI L.length) f_tokenAt (nI h.length) f_lineTotal (nI (c0 + c.length)) f_dividedByZero f_status f_stopLine f_steps f_position f_outputCount f_gosubCount f_frameCount a_source a_tokens a_held a_programOrder a_lineNumber a_lineKeyword a_lineVariable a_lineRelation a_code a_codeStart a_codeEnd a_operands a_variables a_output a_returnTo a_frameVariable a_frameLimit a_frameBody := fun z =>
      xx_181 (b := false) hk48 hk hs (by omega) (by omega) hg h0 (fun q => hN (by rw [tb_xp_fe z]; exact if_neg (fun y => q ⟨rfl, y⟩))) (fun _ q => hS i (c ++ tb_rp 1 h) (by rw [tb_xp_fe z]; exact if_pos q))
    refine pk_le L.length i (fun z => FIN (Or.inl z)) (fun z => ⟨vp_in_nI (by omega) (by omega), nm_r (tb_tok_rd htk (by omega) hL) (xx_rank (tb_T L i) rfl (by omega) (br_t rfl (br_t rfl (br_t rfl (br_t rfl ?_)))))⟩)
    have r3 := tb_rk_le (tb_T L i)
    refine pk_le (tb_rk (tb_T L i)) 0 (fun r0 => pk_eq (tb_T L i) 40207 (fun z2 => ?_) (fun z2 => FIN (Or.inr ⟨by omega, z2⟩))) (fun r0 => ?_)
    · refine xx_rel (r := 1) (by omega) hk hs (by omega) (by omega) (fun cd c1 c2 => ?_)
      have q1 := tb_rpr 1 h
      have g2 := tb_sg_more hg c1 c2
      by_cases y : tb_rr 1 h = []
      · rw [y]
        exact br_t rfl (hN (by rw [tb_xp_fc (by omega) z2]; exact if_pos y) _ _ _ _ _ _)
      · have len : 0 < (tb_rr 1 h).length := List.length_pos_iff.mpr y
        have lt : (tb_rr 1 h).tail.length = (tb_rr 1 h).length - 1 := List.length_tail
        have e1 : c0 + (c ++ tb_rp 1 h).length = c0 + c.length + (tb_rp 1 h).length := by rw [List.length_append, Nat.add_assoc]
        have w := xx_xL hk48 hL hok htk d (i + 1) false (tb_rr 1 h).tail (c ++ tb_rp 1 h) a_held cd (tb_hk_tl (tb_hk_rr 1 h hk)) (tb_sk_tail (tb_sk_rr 1 hs)) g2 (fun j hj => (c1 j (by omega)).trans (h0 j hj)) (by omega) (by omega) (by omega) (by omega)
          (fun q => hN (by rw [tb_xp_fc (by omega) z2, if_neg y]; exact q)) (fun e c' q => hS e c' (by rw [tb_xp_fc (by omega) z2, if_neg y]; exact q))
        rw [e1, lt] at w
        refine br_f (nI_ne0 len (by omega)) (nm_r (e' := nI ((tb_rr 1 h).length - 1)) ?_ (nm_r (nI_1 i) w))
        exact pk_sub (b := 1) (by omega)
    · refine xx_rel r3 hk hs (by omega) (by omega) (fun cd c1 c2 => ?_)
      have q1 := tb_rpr (tb_rk (tb_T L i)) h
      have g2 := tb_sg_more hg c1 c2
      have e1 : c0 + (c ++ tb_rp (tb_rk (tb_T L i)) h).length = c0 + c.length + (tb_rp (tb_rk (tb_T L i)) h).length := by rw [List.length_append, Nat.add_assoc]
      have rp := tb_rk_pos.mp r0
      refine xx_hold (by omega) (nm_r (nI_1 i) ?_)
      have w := xx_xL hk48 hL hok htk d (i + 1) true (tb_T L i :: tb_rr (tb_rk (tb_T L i)) h) (c ++ tb_rp (tb_rk (tb_T L i)) h) (upd a_held (tb_rr (tb_rk (tb_T L i)) h).length (nI (tb_T L i))) cd (tb_hk_c (by omega) (tb_hk_rr _ h hk)) (tb_sk_ph _ (tb_sk_rr _ hs)) g2 (fun j hj => (c1 j (by omega)).trans (h0 j hj)) (by simp only [List.length_cons]; omega) (by simp only [List.length_cons]; omega) (by omega) (by omega)
        (fun q => hN ((tb_xp_fo (by omega) r0).trans q)) (fun e c' q => hS e c' ((tb_xp_fo (by omega) r0).trans q))
      rw [e1] at w
      exact w
theorem xx_expr {post : Int32 → St2 → Prop} {L : List Nat} {k c0 p : Nat} (hk48 : k < 48) (hL : L.length ≤ 40) (hok : ∀ t, t ∈ L → tb_ok t) (htk : tb_sg a_tokens 0 (L.map nI)) (hp : p ≤ L.length) (hc : c0 + (L.length - p) ≤ 256)
    (hN : tb_xe L p = none → ∀ hc cl ta hd cd ce, post 0 (f_gosubDepth, f_forDepth, f_outCap, f_sourceLength, f_compiled, f_errorLine, nI L.length, ta, hc, f_lineTotal, cl, f_dividedByZero, f_status, f_stopLine, f_steps, f_position, f_outputCount, f_gosubCount, f_frameCount, a_source, a_tokens, hd, a_programOrder, a_lineNumber, a_lineKeyword, a_lineVariable, a_lineRelation, cd, upd a_codeStart k (nI c0), ce, a_operands, a_variables, a_output, a_returnTo, a_frameVariable, a_frameLimit, a_frameBody))
    (hS : ∀ e c, tb_xe L p = some (e, c) → p ≤ e → e ≤ L.length → c.length ≤ e - p → ∀ hd cd, (∀ j, j < c0 → cd j = a_code j) → tb_sg cd c0 (c.map nI) → post 1 (f_gosubDepth, f_forDepth, f_outCap, f_sourceLength, f_compiled, f_errorLine, nI L.length, nI e, 0, f_lineTotal, nI (c0 + c.length), f_dividedByZero, f_status, f_stopLine, f_steps, f_position, f_outputCount, f_gosubCount, f_frameCount, a_source, a_tokens, hd, a_programOrder, a_lineNumber, a_lineKeyword, a_lineVariable, a_lineRelation, cd, upd a_codeStart k (nI c0), upd a_codeEnd k (nI (c0 + c.length)), a_operands, a_variables, a_output, a_returnTo, a_frameVariable, a_frameLimit, a_frameBody)) :
    wpX_takeExpression post (f_gosubDepth, f_forDepth, f_outCap, f_sourceLength, f_compiled, f_errorLine, nI L.length, nI p, f_heldCount, f_lineTotal, nI c0, f_dividedByZero, f_status, f_stopLine, f_steps, f_position, f_outputCount, f_gosubCount, f_frameCount, a_source, a_tokens, a_held, a_programOrder, a_lineNumber, a_lineKeyword, a_lineVariable, a_lineRelation, a_code, a_codeStart, a_codeEnd, a_operands, a_variables, a_output, a_returnTo, a_frameVariable, a_frameLimit, a_frameBody) (nI k) := by
  refine ⟨vp_in_nI hk48 (by omega), nm_r (e' := upd a_codeStart k (nI c0)) (by rw [nI_clamp (by omega)]) ⟨42, ?_⟩⟩
  refine xx_xL (cd0 := a_code) hk48 hL hok htk 42 p true [] [] a_held a_code tb_hk_0 trivial trivial (fun _ _ => rfl) (by simp only [List.length_nil]; omega) (by simp only [List.length_nil]; omega) (by omega) hp hN (fun e c q => ?_)
  have ⟨a, b, g⟩ := tb_xp_le _ _ _ _ _ _ _ _ _ q
  simp only [List.length_nil] at g
  exact hS e c q a (b hp) (by omega)
end
end
section
/-! ===== the class's statements ===== -/
section
variable {f_gosubDepth f_forDepth f_outCap f_sourceLength f_compiled f_errorLine f_tokenCount f_tokenAt f_heldCount f_lineTotal f_codeLength f_dividedByZero f_status f_stopLine f_steps f_position f_outputCount f_gosubCount f_frameCount : Int32} {a_source a_tokens a_held a_programOrder a_lineNumber a_lineKeyword a_lineVariable a_lineRelation a_code a_codeStart a_codeEnd a_operands a_variables a_output a_returnTo a_frameVariable a_frameLimit a_frameBody : Nat → Int32} {L : List Nat} {p l : Nat}
theorem xx_next {post : Int32 → St2 → Prop} (hL : L.length ≤ 40) (hp : p ≤ 40) (htk : tb_sg a_tokens 0 (L.map nI))
    (h1 : p < L.length → post (nI (tb_T L p)) (f_gosubDepth, f_forDepth, f_outCap, f_sourceLength, f_compiled, f_errorLine, nI L.length, nI (p + 1), f_heldCount, f_lineTotal, f_codeLength, f_dividedByZero, f_status, f_stopLine, f_steps, f_position, f_outputCount, f_gosubCount, f_frameCount, a_source, a_tokens, a_held, a_programOrder, a_lineNumber, a_lineKeyword, a_lineVariable, a_lineRelation, a_code, a_codeStart, a_codeEnd, a_operands, a_variables, a_output, a_returnTo, a_frameVariable, a_frameLimit, a_frameBody)) (h0 : L.length ≤ p → post (-1) (f_gosubDepth, f_forDepth, f_outCap, f_sourceLength, f_compiled, f_errorLine, nI L.length, nI p, f_heldCount, f_lineTotal, f_codeLength, f_dividedByZero, f_status, f_stopLine, f_steps, f_position, f_outputCount, f_gosubCount, f_frameCount, a_source, a_tokens, a_held, a_programOrder, a_lineNumber, a_lineKeyword, a_lineVariable, a_lineRelation, a_code, a_codeStart, a_codeEnd, a_operands, a_variables, a_output, a_returnTo, a_frameVariable, a_frameLimit, a_frameBody)) :
    wpX_nextToken post (f_gosubDepth, f_forDepth, f_outCap, f_sourceLength, f_compiled, f_errorLine, nI L.length, nI p, f_heldCount, f_lineTotal, f_codeLength, f_dividedByZero, f_status, f_stopLine, f_steps, f_position, f_outputCount, f_gosubCount, f_frameCount, a_source, a_tokens, a_held, a_programOrder, a_lineNumber, a_lineKeyword, a_lineVariable, a_lineRelation, a_code, a_codeStart, a_codeEnd, a_operands, a_variables, a_output, a_returnTo, a_frameVariable, a_frameLimit, a_frameBody) :=
  pk_lt p L.length (fun z => ⟨vp_in_nI (by omega) (by omega), nm_r (tb_tok_rd htk z hL) (nm_r (nI_1 p) (h1 z))⟩) (fun z => h0 z)
theorem xx_take {post : Int32 → St2 → Prop} {w : Nat} (hL : L.length ≤ 40) (hp : p ≤ 40) (hok : ∀ t, t ∈ L → tb_ok t) (htk : tb_sg a_tokens 0 (L.map nI)) (hw : 0 < w ∧ w < 50000)
    (h1 : tb_T L p = w → p < L.length → post 1 (f_gosubDepth, f_forDepth, f_outCap, f_sourceLength, f_compiled, f_errorLine, nI L.length, nI (p + 1), f_heldCount, f_lineTotal, f_codeLength, f_dividedByZero, f_status, f_stopLine, f_steps, f_position, f_outputCount, f_gosubCount, f_frameCount, a_source, a_tokens, a_held, a_programOrder, a_lineNumber, a_lineKeyword, a_lineVariable, a_lineRelation, a_code, a_codeStart, a_codeEnd, a_operands, a_variables, a_output, a_returnTo, a_frameVariable, a_frameLimit, a_frameBody)) (h0 : tb_T L p ≠ w → ∀ ta, post 0 (f_gosubDepth, f_forDepth, f_outCap, f_sourceLength, f_compiled, f_errorLine, nI L.length, ta, f_heldCount, f_lineTotal, f_codeLength, f_dividedByZero, f_status, f_stopLine, f_steps, f_position, f_outputCount, f_gosubCount, f_frameCount, a_source, a_tokens, a_held, a_programOrder, a_lineNumber, a_lineKeyword, a_lineVariable, a_lineRelation, a_code, a_codeStart, a_codeEnd, a_operands, a_variables, a_output, a_returnTo, a_frameVariable, a_frameLimit, a_frameBody)) :
    wpX_take post (f_gosubDepth, f_forDepth, f_outCap, f_sourceLength, f_compiled, f_errorLine, nI L.length, nI p, f_heldCount, f_lineTotal, f_codeLength, f_dividedByZero, f_status, f_stopLine, f_steps, f_position, f_outputCount, f_gosubCount, f_frameCount, a_source, a_tokens, a_held, a_programOrder, a_lineNumber, a_lineKeyword, a_lineVariable, a_lineRelation, a_code, a_codeStart, a_codeEnd, a_operands, a_variables, a_output, a_returnTo, a_frameVariable, a_frameLimit, a_frameBody) (nI w) := by
  have hT := tb_ok_lt hok p
  unfold wpX_take
  dsimp only
  refine xx_next hL hp htk (fun z => pk_eq (tb_T L p) w (fun y => h1 y z) (fun y => h0 y _)) (fun z => br_f (fun e => tb_nm1 (t := w) (by omega) e.symm) (h0 ?_ _))
  rw [tb_T_out z]; omega
theorem xx_takeVar {post : Int32 → St2 → Prop} (hL : L.length ≤ 40) (hp : p ≤ 40) (hok : ∀ t, t ∈ L → tb_ok t) (htk : tb_sg a_tokens 0 (L.map nI)) (hl : l < 16)
    (h1 : tb_iv (tb_T L p) → p < L.length → post 1 (f_gosubDepth, f_forDepth, f_outCap, f_sourceLength, f_compiled, f_errorLine, nI L.length, nI (p + 1), f_heldCount, f_lineTotal, f_codeLength, f_dividedByZero, f_status, f_stopLine, f_steps, f_position, f_outputCount, f_gosubCount, f_frameCount, a_source, a_tokens, a_held, a_programOrder, a_lineNumber, a_lineKeyword, upd a_lineVariable l (nI (tb_T L p - 40000)), a_lineRelation, a_code, a_codeStart, a_codeEnd, a_operands, a_variables, a_output, a_returnTo, a_frameVariable, a_frameLimit, a_frameBody)) (h0 : ¬ tb_iv (tb_T L p) → ∀ ta, post 0 (f_gosubDepth, f_forDepth, f_outCap, f_sourceLength, f_compiled, f_errorLine, nI L.length, ta, f_heldCount, f_lineTotal, f_codeLength, f_dividedByZero, f_status, f_stopLine, f_steps, f_position, f_outputCount, f_gosubCount, f_frameCount, a_source, a_tokens, a_held, a_programOrder, a_lineNumber, a_lineKeyword, a_lineVariable, a_lineRelation, a_code, a_codeStart, a_codeEnd, a_operands, a_variables, a_output, a_returnTo, a_frameVariable, a_frameLimit, a_frameBody)) :
    wpX_takeVariable post (f_gosubDepth, f_forDepth, f_outCap, f_sourceLength, f_compiled, f_errorLine, nI L.length, nI p, f_heldCount, f_lineTotal, f_codeLength, f_dividedByZero, f_status, f_stopLine, f_steps, f_position, f_outputCount, f_gosubCount, f_frameCount, a_source, a_tokens, a_held, a_programOrder, a_lineNumber, a_lineKeyword, a_lineVariable, a_lineRelation, a_code, a_codeStart, a_codeEnd, a_operands, a_variables, a_output, a_returnTo, a_frameVariable, a_frameLimit, a_frameBody) (nI l) := by
  have hT := tb_ok_lt hok p
  unfold wpX_takeVariable
  dsimp only
  refine xx_next hL hp htk (fun z => xx_isvar (tb_T L p) (by omega) (fun y => br_f tb_10 ⟨vp_in_nI hl (by omega), nm_r ?_ (h1 y z)⟩) (fun y => br_t rfl (h0 y _))) (fun z => br_t (by decide) (br_t rfl (h0 ?_ _)))
  · rw [nI_clamp (by omega)]
    show upd a_lineVariable l (nI (tb_T L p) - nI 40000) = _
    rw [pk_sub y.1]
  · rw [tb_T_out z]; unfold tb_iv; omega
theorem xx_takeRel {post : Int32 → St2 → Prop} (hL : L.length ≤ 40) (hp : p ≤ 40) (hok : ∀ t, t ∈ L → tb_ok t) (htk : tb_sg a_tokens 0 (L.map nI)) (hl : l < 16)
    (h1 : tb_ir (tb_T L p) → p < L.length → post 1 (f_gosubDepth, f_forDepth, f_outCap, f_sourceLength, f_compiled, f_errorLine, nI L.length, nI (p + 1), f_heldCount, f_lineTotal, f_codeLength, f_dividedByZero, f_status, f_stopLine, f_steps, f_position, f_outputCount, f_gosubCount, f_frameCount, a_source, a_tokens, a_held, a_programOrder, a_lineNumber, a_lineKeyword, a_lineVariable, upd a_lineRelation l (nI (tb_T L p)), a_code, a_codeStart, a_codeEnd, a_operands, a_variables, a_output, a_returnTo, a_frameVariable, a_frameLimit, a_frameBody)) (h0 : ¬ tb_ir (tb_T L p) → ∀ ta lr, post 0 (f_gosubDepth, f_forDepth, f_outCap, f_sourceLength, f_compiled, f_errorLine, nI L.length, ta, f_heldCount, f_lineTotal, f_codeLength, f_dividedByZero, f_status, f_stopLine, f_steps, f_position, f_outputCount, f_gosubCount, f_frameCount, a_source, a_tokens, a_held, a_programOrder, a_lineNumber, a_lineKeyword, a_lineVariable, lr, a_code, a_codeStart, a_codeEnd, a_operands, a_variables, a_output, a_returnTo, a_frameVariable, a_frameLimit, a_frameBody)) :
    wpX_takeRelation post (f_gosubDepth, f_forDepth, f_outCap, f_sourceLength, f_compiled, f_errorLine, nI L.length, nI p, f_heldCount, f_lineTotal, f_codeLength, f_dividedByZero, f_status, f_stopLine, f_steps, f_position, f_outputCount, f_gosubCount, f_frameCount, a_source, a_tokens, a_held, a_programOrder, a_lineNumber, a_lineKeyword, a_lineVariable, a_lineRelation, a_code, a_codeStart, a_codeEnd, a_operands, a_variables, a_output, a_returnTo, a_frameVariable, a_frameLimit, a_frameBody) (nI l) := by
  have hT := tb_ok_lt hok p
  unfold wpX_takeRelation
  dsimp only
  refine xx_next hL hp htk (fun z => ⟨vp_in_nI hl (by omega), nm_r (e' := upd a_lineRelation l (nI (tb_T L p))) (by rw [nI_clamp (by omega)]) (pk_lt (tb_T L p) 40208 (fun y => h0 (by unfold tb_ir; omega) _ _) (fun y1 => pk_lt 40213 (tb_T L p) (fun y => h0 (by unfold tb_ir; omega) _ _) (fun y2 => h1 ⟨y1, y2⟩ z)))⟩) (fun z => ⟨vp_in_nI hl (by omega), nm_e (br_t (by decide) (h0 ?_ _ _))⟩)
  rw [tb_T_out z]; unfold tb_ir; omega
theorem xx_takeNum {post : Int32 → St2 → Prop} (hL : L.length ≤ 40) (hp : p ≤ 40) (hok : ∀ t, t ∈ L → tb_ok t) (htk : tb_sg a_tokens 0 (L.map nI)) (hl : l < 16)
    (h1 : 1 ≤ tb_T L p ∧ tb_T L p ≤ 32767 → p < L.length → post 1 (f_gosubDepth, f_forDepth, f_outCap, f_sourceLength, f_compiled, f_errorLine, nI L.length, nI (p + 1), f_heldCount, f_lineTotal, f_codeLength, f_dividedByZero, f_status, f_stopLine, f_steps, f_position, f_outputCount, f_gosubCount, f_frameCount, a_source, a_tokens, a_held, a_programOrder, upd a_lineNumber l (nI (tb_T L p)), a_lineKeyword, a_lineVariable, a_lineRelation, a_code, a_codeStart, a_codeEnd, a_operands, a_variables, a_output, a_returnTo, a_frameVariable, a_frameLimit, a_frameBody)) (h0 : ¬ (1 ≤ tb_T L p ∧ tb_T L p ≤ 32767) → ∀ ta ln, post 0 (f_gosubDepth, f_forDepth, f_outCap, f_sourceLength, f_compiled, f_errorLine, nI L.length, ta, f_heldCount, f_lineTotal, f_codeLength, f_dividedByZero, f_status, f_stopLine, f_steps, f_position, f_outputCount, f_gosubCount, f_frameCount, a_source, a_tokens, a_held, a_programOrder, ln, a_lineKeyword, a_lineVariable, a_lineRelation, a_code, a_codeStart, a_codeEnd, a_operands, a_variables, a_output, a_returnTo, a_frameVariable, a_frameLimit, a_frameBody)) :
    wpX_takeLineNumber post (f_gosubDepth, f_forDepth, f_outCap, f_sourceLength, f_compiled, f_errorLine, nI L.length, nI p, f_heldCount, f_lineTotal, f_codeLength, f_dividedByZero, f_status, f_stopLine, f_steps, f_position, f_outputCount, f_gosubCount, f_frameCount, a_source, a_tokens, a_held, a_programOrder, a_lineNumber, a_lineKeyword, a_lineVariable, a_lineRelation, a_code, a_codeStart, a_codeEnd, a_operands, a_variables, a_output, a_returnTo, a_frameVariable, a_frameLimit, a_frameBody) (nI l) := by
  have hT := tb_ok_lt hok p
  unfold wpX_takeLineNumber
  dsimp only
  refine xx_next hL hp htk (fun z => ⟨vp_in_nI hl (by omega), nm_r (e' := upd a_lineNumber l (nI (tb_T L p))) (by rw [nI_clamp (by omega)]) (pk_lt (tb_T L p) 1 (fun y => h0 (by omega) _ _) (fun y1 => pk_lt 32767 (tb_T L p) (fun y => h0 (by omega) _ _) (fun y2 => h1 ⟨y1, y2⟩ z)))⟩) (fun z => ⟨vp_in_nI hl (by omega), nm_e (br_t (by decide) (h0 ?_ _ _))⟩)
  rw [tb_T_out z]; omega
/-- an expression that a line keeps at its place i -/
theorem tb_slot_new {cd cs ce : Nat → Int32} {c0 k : Nat} {c : List Nat} (h : tb_sg cd c0 (c.map nI)) : tb_slot cd (upd cs k (nI c0)) (upd ce k (nI (c0 + c.length))) (c0 + c.length) k c :=
  ⟨c0, pk_us, pk_us, Nat.le_refl _, h⟩
theorem xx_107 {post : Int32 → St2 → Prop} {c0 : Nat} (hL : L.length ≤ 40) (hok : ∀ t, t ∈ L → tb_ok t) (htk : tb_sg a_tokens 0 (L.map nI)) (hl : l < 16) (hc : c0 + L.length ≤ 256) (hn : 2 ≤ L.length) (hln : a_lineNumber l = nI (tb_T L 0)) (h00 : 1 ≤ tb_T L 0 ∧ tb_T L 0 ≤ 32767) (hlk : a_lineKeyword l = nI (tb_T L 1)) (hkw : tb_T L 1 = 40102 ∨ tb_T L 1 = 40105 ∨ tb_T L 1 = 40106)
    (hF0 : ¬ tb_so L → ∀ ta hc cl hd cd cs ce, post 0 (f_gosubDepth, f_forDepth, f_outCap, f_sourceLength, f_compiled, f_errorLine, nI L.length, ta, hc, f_lineTotal, cl, f_dividedByZero, f_status, f_stopLine, f_steps, f_position, f_outputCount, f_gosubCount, f_frameCount, a_source, a_tokens, hd, a_programOrder, a_lineNumber, a_lineKeyword, a_lineVariable, a_lineRelation, cd, cs, ce, a_operands, a_variables, a_output, a_returnTo, a_frameVariable, a_frameLimit, a_frameBody))
    (hF1 : ¬ tb_so L → ∀ ta hc cl hd cd cs ce, ta < L.length → post 1 (f_gosubDepth, f_forDepth, f_outCap, f_sourceLength, f_compiled, f_errorLine, nI L.length, nI ta, hc, f_lineTotal, cl, f_dividedByZero, f_status, f_stopLine, f_steps, f_position, f_outputCount, f_gosubCount, f_frameCount, a_source, a_tokens, hd, a_programOrder, a_lineNumber, a_lineKeyword, a_lineVariable, a_lineRelation, cd, cs, ce, a_operands, a_variables, a_output, a_returnTo, a_frameVariable, a_frameLimit, a_frameBody))
    (hS : tb_so L → ∀ cl hd cd cs ce, tb_lo L l a_lineNumber a_lineKeyword a_lineVariable a_lineRelation cd cs ce cl → c0 ≤ cl → cl ≤ c0 + L.length → (∀ j, j < c0 → cd j = a_code j) → (∀ j, j < l * 3 → cs j = a_codeStart j) → (∀ j, j < l * 3 → ce j = a_codeEnd j) →
      post 1 (f_gosubDepth, f_forDepth, f_outCap, f_sourceLength, f_compiled, f_errorLine, nI L.length, nI L.length, 0, f_lineTotal, nI cl, f_dividedByZero, f_status, f_stopLine, f_steps, f_position, f_outputCount, f_gosubCount, f_frameCount, a_source, a_tokens, hd, a_programOrder, a_lineNumber, a_lineKeyword, a_lineVariable, a_lineRelation, cd, cs, ce, a_operands, a_variables, a_output, a_returnTo, a_frameVariable, a_frameLimit, a_frameBody)) :
    wX_takeStatement_107 post (nI (l * 3)) f_gosubDepth f_forDepth f_outCap f_sourceLength f_compiled f_errorLine (nI L.length) (nI 2) f_heldCount f_lineTotal (nI c0) f_dividedByZero f_status f_stopLine f_steps f_position f_outputCount f_gosubCount f_frameCount a_source a_tokens a_held a_programOrder a_lineNumber a_lineKeyword a_lineVariable a_lineRelation a_code a_codeStart a_codeEnd a_operands a_variables a_output a_returnTo a_frameVariable a_frameLimit a_frameBody := by
  refine xx_expr (by omega) hL hok htk hn (by omega) (fun q hc cl ta hd cd ce => ⟨rfl, hF0 (fun z => ?_) _ _ _ _ _ _ _⟩) (fun e c q e1 e2 e3 hd cd k1 k2 => ⟨rfl, ?_⟩)
  · rcases z.2.2.2 with y | ⟨_, c, y⟩ | y | y | y | y
    · omega
    · rw [q] at y; cases y
    · omega
    · omega
    · omega
    · omega
  · rcases Nat.lt_or_ge e L.length with w | w
    · refine hF1 (fun z => ?_) _ _ _ _ _ _ _ w
      rcases z.2.2.2 with y | ⟨_, c', y⟩ | y | y | y | y
      · omega
      · rw [q] at y; cases y; omega
      · omega
      · omega
      · omega
      · omega
    · have ee : e = L.length := by omega
      subst ee
      refine hS ⟨hn, h00.1, h00.2, Or.inr (Or.inl ⟨hkw, c, q⟩)⟩ _ _ _ _ _ ⟨hn, h00.1, h00.2, hln, hlk, Or.inr (Or.inl ⟨hkw, c, q, tb_slot_new k2⟩)⟩ (by omega) (by omega) k1 (fun j hj => pk_un (by omega)) (fun j hj => pk_un (by omega))
end
end
section
section
variable {L : List Nat}
theorem tb_so_let (h : tb_so L) (k : tb_T L 1 = 40101) : tb_iv (tb_T L 2) ∧ tb_T L 3 = 40208 ∧ ∃ c, tb_xe L 4 = some (L.length, c) := by
  rcases h.2.2.2 with y | y | y | y | y | y
  · exact y.2
  all_goals omega
theorem tb_so_exp (h : tb_so L) (k : tb_T L 1 = 40102 ∨ tb_T L 1 = 40105 ∨ tb_T L 1 = 40106) : ∃ c, tb_xe L 2 = some (L.length, c) := by
  rcases h.2.2.2 with y | y | y | y | y | y
  · omega
  · exact y.2
  all_goals omega
theorem tb_so_if (h : tb_so L) (k : tb_T L 1 = 40103) : ∃ a c1, tb_xe L 2 = some (a, c1) ∧ tb_ir (tb_T L a) ∧ ∃ b c2, tb_xe L (a + 1) = some (b, c2) ∧ tb_T L b = 40104 ∧ ∃ c3, tb_xe L (b + 1) = some (L.length, c3) := by
  rcases h.2.2.2 with y | y | y | y | y | y
  · omega
  · omega
  · exact y.2
  all_goals omega
theorem tb_so_for (h : tb_so L) (k : tb_T L 1 = 40108) : tb_iv (tb_T L 2) ∧ tb_T L 3 = 40208 ∧ ∃ a c1, tb_xe L 4 = some (a, c1) ∧ tb_T L a = 40109 ∧ ∃ c2, tb_xe L (a + 1) = some (L.length, c2) := by
  rcases h.2.2.2 with y | y | y | y | y | y
  · omega
  · omega
  · omega
  · exact y.2
  all_goals omega
theorem tb_so_next (h : tb_so L) (k : tb_T L 1 = 40110) : tb_iv (tb_T L 2) ∧ L.length = 3 := by
  rcases h.2.2.2 with y | y | y | y | y | y
  · omega
  · omega
  · omega
  · omega
  · exact y.2
  · omega
theorem tb_so_end (h : tb_so L) (k : tb_T L 1 = 40107 ∨ tb_T L 1 = 40111) : L.length = 2 := by
  rcases h.2.2.2 with y | y | y | y | y | y
  · omega
  · omega
  · omega
  · omega
  · omega
  · exact y.2
theorem tb_so_kw (h : tb_so L) : tb_T L 1 = 40101 ∨ tb_T L 1 = 40102 ∨ tb_T L 1 = 40103 ∨ tb_T L 1 = 40105 ∨ tb_T L 1 = 40106 ∨ tb_T L 1 = 40107 ∨ tb_T L 1 = 40108 ∨ tb_T L 1 = 40110 ∨ tb_T L 1 = 40111 := by
  rcases h.2.2.2 with y | y | y | y | y | y <;> omega
end
section
variable {f_gosubDepth f_forDepth f_outCap f_sourceLength f_compiled f_errorLine f_tokenCount f_tokenAt f_heldCount f_lineTotal f_codeLength f_dividedByZero f_status f_stopLine f_steps f_position f_outputCount f_gosubCount f_frameCount : Int32} {a_source a_tokens a_held a_programOrder a_lineNumber a_lineKeyword a_lineVariable a_lineRelation a_code a_codeStart a_codeEnd a_operands a_variables a_output a_returnTo a_frameVariable a_frameLimit a_frameBody : Nat → Int32} {L : List Nat} {l : Nat}
theorem xx_exprx {post : Int32 → St2 → Prop} {k c0 p : Nat} {x : Int32} (hx : x = nI k) (hk48 : k < 48) (hL : L.length ≤ 40) (hok : ∀ t, t ∈ L → tb_ok t) (htk : tb_sg a_tokens 0 (L.map nI)) (hp : p ≤ L.length) (hc : c0 + (L.length - p) ≤ 256)
    (hN : tb_xe L p = none → ∀ hc cl ta hd cd ce, post 0 (f_gosubDepth, f_forDepth, f_outCap, f_sourceLength, f_compiled, f_errorLine, nI L.length, ta, hc, f_lineTotal, cl, f_dividedByZero, f_status, f_stopLine, f_steps, f_position, f_outputCount, f_gosubCount, f_frameCount, a_source, a_tokens, hd, a_programOrder, a_lineNumber, a_lineKeyword, a_lineVariable, a_lineRelation, cd, upd a_codeStart k (nI c0), ce, a_operands, a_variables, a_output, a_returnTo, a_frameVariable, a_frameLimit, a_frameBody))
    (hS : ∀ e c, tb_xe L p = some (e, c) → p ≤ e → e ≤ L.length → c.length ≤ e - p → ∀ hd cd, (∀ j, j < c0 → cd j = a_code j) → tb_sg cd c0 (c.map nI) → post 1 (f_gosubDepth, f_forDepth, f_outCap, f_sourceLength, f_compiled, f_errorLine, nI L.length, nI e, 0, f_lineTotal, nI (c0 + c.length), f_dividedByZero, f_status, f_stopLine, f_steps, f_position, f_outputCount, f_gosubCount, f_frameCount, a_source, a_tokens, hd, a_programOrder, a_lineNumber, a_lineKeyword, a_lineVariable, a_lineRelation, cd, upd a_codeStart k (nI c0), upd a_codeEnd k (nI (c0 + c.length)), a_operands, a_variables, a_output, a_returnTo, a_frameVariable, a_frameLimit, a_frameBody)) :
    wpX_takeExpression post (f_gosubDepth, f_forDepth, f_outCap, f_sourceLength, f_compiled, f_errorLine, nI L.length, nI p, f_heldCount, f_lineTotal, nI c0, f_dividedByZero, f_status, f_stopLine, f_steps, f_position, f_outputCount, f_gosubCount, f_frameCount, a_source, a_tokens, a_held, a_programOrder, a_lineNumber, a_lineKeyword, a_lineVariable, a_lineRelation, a_code, a_codeStart, a_codeEnd, a_operands, a_variables, a_output, a_returnTo, a_frameVariable, a_frameLimit, a_frameBody) x := by
  subst hx
  exact xx_expr hk48 hL hok htk hp hc hN hS
theorem xx_stmt {post : Int32 → St2 → Prop} {c0 : Nat} (hL : L.length ≤ 40) (hok : ∀ t, t ∈ L → tb_ok t) (htk : tb_sg a_tokens 0 (L.map nI)) (hl : l < 16) (hc : c0 + L.length ≤ 256) (h1n : 1 ≤ L.length) (hln : a_lineNumber l = nI (tb_T L 0)) (h00 : 1 ≤ tb_T L 0 ∧ tb_T L 0 ≤ 32767)
    (hF0 : ¬ tb_so L → ∀ ta hc cl hd lk lv lr cd cs ce, post 0 (f_gosubDepth, f_forDepth, f_outCap, f_sourceLength, f_compiled, f_errorLine, nI L.length, ta, hc, f_lineTotal, cl, f_dividedByZero, f_status, f_stopLine, f_steps, f_position, f_outputCount, f_gosubCount, f_frameCount, a_source, a_tokens, hd, a_programOrder, a_lineNumber, lk, lv, lr, cd, cs, ce, a_operands, a_variables, a_output, a_returnTo, a_frameVariable, a_frameLimit, a_frameBody))
    (hF1 : ¬ tb_so L → ∀ ta hc cl hd lk lv lr cd cs ce, ta < L.length → post 1 (f_gosubDepth, f_forDepth, f_outCap, f_sourceLength, f_compiled, f_errorLine, nI L.length, nI ta, hc, f_lineTotal, cl, f_dividedByZero, f_status, f_stopLine, f_steps, f_position, f_outputCount, f_gosubCount, f_frameCount, a_source, a_tokens, hd, a_programOrder, a_lineNumber, lk, lv, lr, cd, cs, ce, a_operands, a_variables, a_output, a_returnTo, a_frameVariable, a_frameLimit, a_frameBody))
    (hS : tb_so L → ∀ hc cl hd lk lv lr cd cs ce, tb_lo L l a_lineNumber lk lv lr cd cs ce cl → c0 ≤ cl → cl ≤ c0 + L.length → (∀ j, j < c0 → cd j = a_code j) → (∀ j, j < l * 3 → cs j = a_codeStart j) → (∀ j, j < l * 3 → ce j = a_codeEnd j) →
      (∀ j, j < l → lk j = a_lineKeyword j) → (∀ j, j < l → lv j = a_lineVariable j) → (∀ j, j < l → lr j = a_lineRelation j) →
      post 1 (f_gosubDepth, f_forDepth, f_outCap, f_sourceLength, f_compiled, f_errorLine, nI L.length, nI L.length, hc, f_lineTotal, nI cl, f_dividedByZero, f_status, f_stopLine, f_steps, f_position, f_outputCount, f_gosubCount, f_frameCount, a_source, a_tokens, hd, a_programOrder, a_lineNumber, lk, lv, lr, cd, cs, ce, a_operands, a_variables, a_output, a_returnTo, a_frameVariable, a_frameLimit, a_frameBody)) :
    wpX_takeStatement post (f_gosubDepth, f_forDepth, f_outCap, f_sourceLength, f_compiled, f_errorLine, nI L.length, nI 1, f_heldCount, f_lineTotal, nI c0, f_dividedByZero, f_status, f_stopLine, f_steps, f_position, f_outputCount, f_gosubCount, f_frameCount, a_source, a_tokens, a_held, a_programOrder, a_lineNumber, a_lineKeyword, a_lineVariable, a_lineRelation, a_code, a_codeStart, a_codeEnd, a_operands, a_variables, a_output, a_returnTo, a_frameVariable, a_frameLimit, a_frameBody) (nI l) := by
  have hT := tb_ok_lt hok 1
  unfold wpX_takeStatement
  dsimp only
  refine nm_r (e' := nI (l * 3)) (pk_mul l 3) ?_
  refine xx_next hL (by omega) htk (fun z => ⟨vp_in_nI hl (by omega), nm_r (e' := upd a_lineKeyword l (nI (tb_T L 1))) (by rw [nI_clamp (by omega)]) ?_⟩) (fun z => ⟨vp_in_nI hl (by omega), nm_e (br_t (by decide) (hF0 (fun s => by have := s.1; omega) _ _ _ _ _ _ _ _ _ _))⟩)
  have NK : (∀ k, tb_T L 1 = k → k ≠ 40101 ∧ k ≠ 40102 ∧ k ≠ 40103 ∧ k ≠ 40105 ∧ k ≠ 40106 ∧ k ≠ 40107 ∧ k ≠ 40108 ∧ k ≠ 40110 ∧ k ≠ 40111) → ¬ tb_so L := fun q s => by
    have a := q _ rfl
    have b := tb_so_kw s
    omega
  have klt : ∀ j, j < l → upd a_lineKeyword l (nI (tb_T L 1)) j = a_lineKeyword j := fun j hj => pk_un (by omega)
  have E107 : (tb_T L 1 = 40102 ∨ tb_T L 1 = 40105 ∨ tb_T L 1 = 40106) → wX_takeStatement_107 post (nI (l * 3)) f_gosubDepth f_forDepth f_outCap f_sourceLength f_compiled f_errorLine (nI L.length) (nI 2) f_heldCount f_lineTotal (nI c0) f_dividedByZero f_status f_stopLine f_steps f_position f_outputCount f_gosubCount f_frameCount a_source a_tokens a_held a_programOrder a_lineNumber (upd a_lineKeyword l (nI (tb_T L 1))) a_lineVariable a_lineRelation a_code a_codeStart a_codeEnd a_operands a_variables a_output a_returnTo a_frameVariable a_frameLimit a_frameBody := fun k =>
    xx_107 hL hok htk hl hc (by omega) hln h00 pk_us k (fun s _ _ _ _ _ _ _ => hF0 s _ _ _ _ _ _ _ _ _ _) (fun s _ _ _ _ _ _ _ w => hF1 s _ _ _ _ _ _ _ _ _ _ w) (fun s cl hd cd cs ce a b c d e f => hS s _ _ _ _ _ _ _ _ _ a b c d e f klt (fun _ _ => rfl) (fun _ _ => rfl))
  have RET : (tb_T L 1 = 40107 ∨ tb_T L 1 = 40111) → post 1 (f_gosubDepth, f_forDepth, f_outCap, f_sourceLength, f_compiled, f_errorLine, nI L.length, nI 2, f_heldCount, f_lineTotal, nI c0, f_dividedByZero, f_status, f_stopLine, f_steps, f_position, f_outputCount, f_gosubCount, f_frameCount, a_source, a_tokens, a_held, a_programOrder, a_lineNumber, upd a_lineKeyword l (nI (tb_T L 1)), a_lineVariable, a_lineRelation, a_code, a_codeStart, a_codeEnd, a_operands, a_variables, a_output, a_returnTo, a_frameVariable, a_frameLimit, a_frameBody) := fun k => by
    rcases Nat.lt_or_ge 2 L.length with w | w
    · exact hF1 (fun s => by have := tb_so_end s k; omega) _ _ _ _ _ _ _ _ _ _ w
    · have e2 : L.length = 2 := by omega
      have w := hS ⟨by omega, h00.1, h00.2, Or.inr (Or.inr (Or.inr (Or.inr (Or.inr ⟨k, e2⟩))))⟩ f_heldCount c0 a_held (upd a_lineKeyword l (nI (tb_T L 1))) a_lineVariable a_lineRelation a_code a_codeStart a_codeEnd ⟨by omega, h00.1, h00.2, hln, pk_us, Or.inr (Or.inr (Or.inr (Or.inr (Or.inr ⟨k, e2⟩))))⟩ (by omega) (by omega) (fun _ _ => rfl) (fun _ _ => rfl) (fun _ _ => rfl) klt (fun _ _ => rfl) (fun _ _ => rfl)
      rw [e2] at w ⊢
      exact w
  have FIN : ∀ (e : Nat) (hc : Int32) (cl : Nat) (hd lk lv lr cd cs ce : Nat → Int32), e ≤ L.length → (e < L.length → ¬ tb_so L) →
      (e = L.length → tb_so L ∧ tb_lo L l a_lineNumber lk lv lr cd cs ce cl ∧ c0 ≤ cl ∧ cl ≤ c0 + L.length ∧ (∀ j, j < c0 → cd j = a_code j) ∧ (∀ j, j < l * 3 → cs j = a_codeStart j) ∧ (∀ j, j < l * 3 → ce j = a_codeEnd j) ∧ (∀ j, j < l → lk j = a_lineKeyword j) ∧ (∀ j, j < l → lv j = a_lineVariable j) ∧ (∀ j, j < l → lr j = a_lineRelation j)) →
      post 1 (f_gosubDepth, f_forDepth, f_outCap, f_sourceLength, f_compiled, f_errorLine, nI L.length, nI e, hc, f_lineTotal, nI cl, f_dividedByZero, f_status, f_stopLine, f_steps, f_position, f_outputCount, f_gosubCount, f_frameCount, a_source, a_tokens, hd, a_programOrder, a_lineNumber, lk, lv, lr, cd, cs, ce, a_operands, a_variables, a_output, a_returnTo, a_frameVariable, a_frameLimit, a_frameBody) := fun e hc cl hd lk lv lr cd cs ce h1 h2 h3 => by
    rcases Nat.lt_or_ge e L.length with w | w
    · exact hF1 (h2 w) e hc (nI cl) hd lk lv lr cd cs ce w
    · have ee : e = L.length := by omega
      obtain ⟨s, b1, b2, b3, b4, b5, b6, b7, b8, b9⟩ := h3 ee
      rw [ee]
      exact hS s hc cl hd lk lv lr cd cs ce b1 b2 b3 b4 b5 b6 b7 b8 b9
  refine pk_lt (tb_T L 1) 40101 (fun y => hF0 (NK (fun k hk => by omega)) _ _ _ _ _ _ _ _ _ _) (fun y1 => pk_lt 40111 (tb_T L 1) (fun y => hF0 (NK (fun k hk => by omega)) _ _ _ _ _ _ _ _ _ _) (fun y2 => ?_))
  refine pk_eq (tb_T L 1) 40101 (fun k => ?_) (fun n1 => ?_)
  · -- LET
    refine xx_takeVar hL (by omega) hok htk hl (fun v1 v2 => br_f tb_10 ?_) (fun v1 _ => br_t rfl (hF0 (fun s => v1 (tb_so_let s k).1) _ _ _ _ _ _ _ _ _ _))
    refine xx_take (w := 40208) hL (by omega) hok htk (by omega) (fun t1 t2 => br_f tb_10 ?_) (fun t1 _ => br_t rfl (hF0 (fun s => t1 (tb_so_let s k).2.1) _ _ _ _ _ _ _ _ _ _))
    refine xx_expr (by omega) hL hok htk (by omega) (by omega) (fun q _ _ _ _ _ _ => br_t rfl (hF0 (fun s => ?_) _ _ _ _ _ _ _ _ _ _)) (fun e c q e1 e2 e3 hd cd k1 k2 => br_f tb_10 (FIN _ _ _ _ _ _ _ _ _ _ e2 (fun w s => ?_) (fun ee => ?_)))
    · obtain ⟨c, y⟩ := (tb_so_let s k).2.2
      rw [q] at y; cases y
    · obtain ⟨c', y⟩ := (tb_so_let s k).2.2
      rw [q] at y
      have := congrArg Prod.fst (Option.some.inj y)
      dsimp only at this
      omega
    · rw [ee] at q
      exact ⟨⟨by omega, h00.1, h00.2, Or.inl ⟨k, v1, t1, c, q⟩⟩, ⟨by omega, h00.1, h00.2, hln, pk_us, Or.inl ⟨k, v1, pk_us, t1, c, q, tb_slot_new k2⟩⟩, by omega, by omega, k1, fun j hj => pk_un (by omega), fun j hj => pk_un (by omega), klt, fun j hj => pk_un (by omega), fun _ _ => rfl⟩
  refine pk_eq (tb_T L 1) 40102 (fun k => E107 (Or.inl k)) (fun n2 => ?_)
  refine pk_eq (tb_T L 1) 40103 (fun k => ?_) (fun n3 => ?_)
  · -- IF
    refine xx_expr (by omega) hL hok htk (by omega) (by omega) (fun q _ _ _ _ _ _ => br_t rfl (hF0 (fun s => ?_) _ _ _ _ _ _ _ _ _ _)) (fun a c1 q1 a1 a2 a3 hd1 cd1 k11 k12 => br_f tb_10 ?_)
    · obtain ⟨a, c1, y, -⟩ := tb_so_if s k
      rw [q] at y; cases y
    refine xx_takeRel hL (by omega) hok htk hl (fun r1 r2 => br_f tb_10 ?_) (fun r1 _ _ => br_t rfl (hF0 (fun s => ?_) _ _ _ _ _ _ _ _ _ _))
    rotate_left
    · obtain ⟨a', c1', y, y2, -⟩ := tb_so_if s k
      rw [q1] at y; cases y; exact r1 y2
    refine xx_exprx (k := l * 3 + 1) (nI_1 (l * 3)) (by omega) hL hok htk (by omega) (by omega) (fun q _ _ _ _ _ _ => br_t rfl (hF0 (fun s => ?_) _ _ _ _ _ _ _ _ _ _)) (fun b c2 q2 b1 b2 b3 hd2 cd2 k21 k22 => br_f tb_10 ?_)
    · obtain ⟨a', c1', y, -, b, c2, y2, -⟩ := tb_so_if s k
      rw [q1] at y; cases y; rw [q] at y2; cases y2
    refine xx_take (w := 40104) hL (by omega) hok htk (by omega) (fun t1 t2 => br_f tb_10 ?_) (fun t1 _ => br_t rfl (hF0 (fun s => ?_) _ _ _ _ _ _ _ _ _ _))
    rotate_left
    · obtain ⟨a', c1', y, -, b', c2', y2, y3, -⟩ := tb_so_if s k
      rw [q1] at y; cases y; rw [q2] at y2; cases y2; exact t1 y3
    refine xx_exprx (k := l * 3 + 2) (nI_add (l * 3) 2) (by omega) hL hok htk (by omega) (by omega) (fun q _ _ _ _ _ _ => br_t rfl (hF0 (fun s => ?_) _ _ _ _ _ _ _ _ _ _)) (fun e c3 q3 e1 e2 e3 hd3 cd3 k31 k32 => br_f tb_10 (FIN _ _ _ _ _ _ _ _ _ _ e2 (fun w s => ?_) (fun ee => ?_)))
    · obtain ⟨a', c1', y, -, b', c2', y2, -, c3, y3⟩ := tb_so_if s k
      rw [q1] at y; cases y; rw [q2] at y2; cases y2; rw [q] at y3; cases y3
    · obtain ⟨a', c1', y, -, b', c2', y2, -, c3', y3⟩ := tb_so_if s k
      rw [q1] at y; cases y; rw [q2] at y2; cases y2; rw [q3] at y3
      have := congrArg Prod.fst (Option.some.inj y3)
      dsimp only at this
      omega
    · rw [ee] at q3
      refine ⟨⟨by omega, h00.1, h00.2, Or.inr (Or.inr (Or.inl ⟨k, a, c1, q1, r1, b, c2, q2, t1, c3, q3⟩))⟩, ⟨by omega, h00.1, h00.2, hln, pk_us, Or.inr (Or.inr (Or.inl ⟨k, a, c1, q1, ?_, r1, pk_us, b, c2, q2, ?_, t1, c3, q3, tb_slot_new k32⟩))⟩, by omega, by omega, fun j hj => (k31 j (by omega)).trans ((k21 j (by omega)).trans (k11 j hj)), fun j hj => (pk_un (by omega)).trans ((pk_un (by omega)).trans (pk_un (by omega))), fun j hj => (pk_un (by omega)).trans ((pk_un (by omega)).trans (pk_un (by omega))), klt, fun _ _ => rfl, fun j hj => pk_un (by omega)⟩
      · exact tb_slot_lo (tb_slot_new k12) (fun j hj => (k31 j (by omega)).trans (k21 j (by omega))) ((pk_un (by omega)).trans (pk_un (by omega))) ((pk_un (by omega)).trans (pk_un (by omega))) (by omega)
      · exact tb_slot_lo (tb_slot_new k22) (fun j hj => k31 j hj) (pk_un (by omega)) (pk_un (by omega)) (by omega)
  refine pk_eq (tb_T L 1) 40104 (fun k => hF0 (NK (fun k hk => by omega)) _ _ _ _ _ _ _ _ _ _) (fun n4 => ?_)
  refine pk_eq (tb_T L 1) 40105 (fun k => E107 (Or.inr (Or.inl k))) (fun n5 => ?_)
  refine pk_eq (tb_T L 1) 40106 (fun k => E107 (Or.inr (Or.inr k))) (fun n6 => ?_)
  refine pk_eq (tb_T L 1) 40107 (fun k => RET (Or.inl k)) (fun n7 => ?_)
  refine pk_eq (tb_T L 1) 40108 (fun k => ?_) (fun n8 => ?_)
  · -- FOR
    refine xx_takeVar hL (by omega) hok htk hl (fun v1 v2 => br_f tb_10 ?_) (fun v1 _ => br_t rfl (hF0 (fun s => v1 (tb_so_for s k).1) _ _ _ _ _ _ _ _ _ _))
    refine xx_take (w := 40208) hL (by omega) hok htk (by omega) (fun t1 t2 => br_f tb_10 ?_) (fun t1 _ => br_t rfl (hF0 (fun s => t1 (tb_so_for s k).2.1) _ _ _ _ _ _ _ _ _ _))
    refine xx_expr (by omega) hL hok htk (by omega) (by omega) (fun q _ _ _ _ _ _ => br_t rfl (hF0 (fun s => ?_) _ _ _ _ _ _ _ _ _ _)) (fun a c1 q1 a1 a2 a3 hd1 cd1 k11 k12 => br_f tb_10 ?_)
    · obtain ⟨-, -, a, c1, y, -⟩ := tb_so_for s k
      rw [q] at y; cases y
    refine xx_take (w := 40109) hL (by omega) hok htk (by omega) (fun u1 u2 => br_f tb_10 ?_) (fun u1 _ => br_t rfl (hF0 (fun s => ?_) _ _ _ _ _ _ _ _ _ _))
    rotate_left
    · obtain ⟨-, -, a', c1', y, y2, -⟩ := tb_so_for s k
      rw [q1] at y; cases y; exact u1 y2
    refine xx_exprx (k := l * 3 + 1) (nI_1 (l * 3)) (by omega) hL hok htk (by omega) (by omega) (fun q _ _ _ _ _ _ => br_t rfl (hF0 (fun s => ?_) _ _ _ _ _ _ _ _ _ _)) (fun e c2 q2 e1 e2 e3 hd2 cd2 k21 k22 => br_f tb_10 (FIN _ _ _ _ _ _ _ _ _ _ e2 (fun w s => ?_) (fun ee => ?_)))
    · obtain ⟨-, -, a', c1', y, -, c2, y2⟩ := tb_so_for s k
      rw [q1] at y; cases y; rw [q] at y2; cases y2
    · obtain ⟨-, -, a', c1', y, -, c2', y2⟩ := tb_so_for s k
      rw [q1] at y; cases y; rw [q2] at y2
      have := congrArg Prod.fst (Option.some.inj y2)
      dsimp only at this
      omega
    · rw [ee] at q2
      refine ⟨⟨by omega, h00.1, h00.2, Or.inr (Or.inr (Or.inr (Or.inl ⟨k, v1, t1, a, c1, q1, u1, c2, q2⟩)))⟩, ⟨by omega, h00.1, h00.2, hln, pk_us, Or.inr (Or.inr (Or.inr (Or.inl ⟨k, v1, pk_us, t1, a, c1, q1, ?_, u1, c2, q2, tb_slot_new k22⟩)))⟩, by omega, by omega, fun j hj => (k21 j (by omega)).trans (k11 j hj), fun j hj => (pk_un (by omega)).trans (pk_un (by omega)), fun j hj => (pk_un (by omega)).trans (pk_un (by omega)), klt, fun j hj => pk_un (by omega), fun _ _ => rfl⟩
      exact tb_slot_lo (tb_slot_new k12) (fun j hj => k21 j hj) (pk_un (by omega)) (pk_un (by omega)) (by omega)
  refine pk_eq (tb_T L 1) 40109 (fun k => hF0 (NK (fun k hk => by omega)) _ _ _ _ _ _ _ _ _ _) (fun n9 => ?_)
  refine pk_eq (tb_T L 1) 40110 (fun k => ?_) (fun n10 => ?_)
  · -- NEXT
    refine xx_takeVar hL (by omega) hok htk hl (fun v1 v2 => ⟨rfl, FIN 3 _ _ _ _ _ _ _ _ _ (by omega) (fun w s => ?_) (fun ee => ?_)⟩) (fun v1 _ => ⟨rfl, hF0 (fun s => v1 (tb_so_next s k).1) _ _ _ _ _ _ _ _ _ _⟩)
    · have := (tb_so_next s k).2; omega
    · exact ⟨⟨by omega, h00.1, h00.2, Or.inr (Or.inr (Or.inr (Or.inr (Or.inl ⟨k, v1, ee.symm⟩))))⟩, ⟨by omega, h00.1, h00.2, hln, pk_us, Or.inr (Or.inr (Or.inr (Or.inr (Or.inl ⟨k, v1, pk_us, ee.symm⟩))))⟩, by omega, by omega, fun _ _ => rfl, fun _ _ => rfl, fun _ _ => rfl, klt, fun j hj => pk_un (by omega), fun _ _ => rfl⟩
  exact pk_eq (tb_T L 1) 40111 (fun k => RET (Or.inr k)) (fun n11 => trivial)
end
end
section
/-! ===== a line of the class ===== -/
def tb_blank (C : Nat → Nat) (s e : Nat) : Prop := ∀ j, s ≤ j → j < e → C j = 32
theorem tb_ord_ln {nl : Nat} {O N : Nat → Nat} {po ln yn ln' yn' : Nat → Int32} (h : tb_ord nl O N po ln yn) (a : ∀ l, l < nl → ln' l = ln l) (b : ∀ l, l < nl → yn' l = yn l) : tb_ord nl O N po ln' yn' := by
  obtain ⟨h0, h1, h2, h3, h4⟩ := h
  exact ⟨h0, h1, fun l hl => ⟨(a l hl).trans (h2 l hl).1, (b l hl).trans (h2 l hl).2.1, (h2 l hl).2.2⟩, h3, h4⟩
section
variable {f_gosubDepth f_forDepth f_outCap f_sourceLength f_compiled f_errorLine f_tokenCount f_tokenAt f_heldCount f_lineTotal f_codeLength f_dividedByZero f_status f_stopLine f_steps f_position f_outputCount f_gosubCount f_frameCount : Int32} {a_source a_tokens a_held a_programOrder a_lineNumber a_lineKeyword a_lineVariable a_lineRelation a_code a_codeStart a_codeEnd a_operands a_variables a_output a_returnTo a_frameVariable a_frameLimit a_frameBody : Nat → Int32} {C : Nat → Nat} {s e nl : Nat} {O N : Nat → Nat} {yn : Nat → Int32}
theorem xx_blankL {post : Int32 → Prop} (hC : ∀ j, C j < 127) (he : e ≤ 256) (h1 : tb_blank C s e → post 1) (h0 : ¬ tb_blank C s e → post 0) : ∀ d i, i + d = e → s ≤ i → (∀ j, s ≤ j → j < i → C j = 32) → wX_isBlank_2 post (nI e) f_gosubDepth f_forDepth f_outCap f_sourceLength f_compiled f_errorLine f_tokenCount f_tokenAt f_heldCount f_lineTotal f_codeLength f_dividedByZero f_status f_stopLine f_steps f_position f_outputCount f_gosubCount f_frameCount (tb_S C) a_tokens a_held a_programOrder a_lineNumber a_lineKeyword a_lineVariable a_lineRelation a_code a_codeStart a_codeEnd a_operands a_variables a_output a_returnTo a_frameVariable a_frameLimit a_frameBody (d + 1) (nI i)
  | 0, i, hi, hs, hb => pk_le e i (fun _ => h1 (fun j j1 j2 => hb j j1 (by omega))) (fun z => absurd z (by omega))
  | d + 1, i, hi, hs, hb => pk_le e i (fun z => absurd z (by omega)) (fun _ => ⟨vp_in_nI (by omega) (by omega), pk_eq (C i) 32 (fun z => nm_r (nI_1 i) (xx_blankL hC he h1 h0 d (i + 1) (by omega) (by omega) (fun j j1 j2 => by
      rcases Nat.lt_or_ge j i with y | y
      · exact hb j j1 y
      · have : j = i := by omega
        subst this
        exact z))) (fun z => h0 (fun b => z (b i hs (by omega)))) (tb_rd (by omega)) rfl (by have := hC i; omega)⟩)
theorem xx_findL {post : Int32 → Prop} {x : Int32} (ho : tb_ord nl O N a_programOrder a_lineNumber yn) (h1 : ∀ p, p < nl → x = nI (N (O p)) → post (nI p)) (h0 : (∀ p, p < nl → x ≠ nI (N (O p))) → post (-1)) : ∀ d p, p + d = nl → (∀ q, q < p → x ≠ nI (N (O q))) → wX_findLine_2 post x f_gosubDepth f_forDepth f_outCap f_sourceLength f_compiled f_errorLine f_tokenCount f_tokenAt f_heldCount (nI nl) f_codeLength f_dividedByZero f_status f_stopLine f_steps f_position f_outputCount f_gosubCount f_frameCount a_source a_tokens a_held a_programOrder a_lineNumber a_lineKeyword a_lineVariable a_lineRelation a_code a_codeStart a_codeEnd a_operands a_variables a_output a_returnTo a_frameVariable a_frameLimit a_frameBody (d + 1) (nI p)
  | 0, p, hp, hq => by
    have := ho.1
    exact pk_le nl p (fun _ => h0 (fun q hq' => hq q (by omega))) (fun z => absurd z (by omega))
  | d + 1, p, hp, hq => by
    obtain ⟨b16, o1, o2, o3, o4⟩ := ho
    have a := o1 p (by omega)
    have b := o2 (O p) a.2
    have r1 : a_programOrder (nI p).toNatClampNeg = nI (O p) := by rw [nI_clamp (by omega)]; exact a.1
    have r2 : a_lineNumber (a_programOrder (nI p).toNatClampNeg).toNatClampNeg = nI (N (O p)) := by rw [r1, nI_clamp (by omega)]; exact b.1
    refine pk_le nl p (fun z => absurd z (by omega)) (fun _ => ⟨vp_in_nI (by omega) (by omega), pk_in (O p) 16 (by omega) r1, ?_⟩)
    rw [r2]
    by_cases z : nI (N (O p)) = x
    · exact br_t z (h1 p (by omega) z.symm)
    · refine br_f z (nm_r (nI_1 p) (xx_findL ⟨b16, o1, o2, o3, o4⟩ h1 h0 d (p + 1) (by omega) (fun q hq' => ?_)))
      rcases Nat.lt_or_ge q p with y | y
      · exact hq q y
      · have : q = p := by omega
        subst this
        exact fun w => z w.symm
theorem xx_find {post : Int32 → Prop} {x : Int32} (ho : tb_ord nl O N a_programOrder a_lineNumber yn) (h1 : ∀ p, p < nl → x = nI (N (O p)) → post (nI p)) (h0 : (∀ p, p < nl → x ≠ nI (N (O p))) → post (-1)) : wpX_findLine post (f_gosubDepth, f_forDepth, f_outCap, f_sourceLength, f_compiled, f_errorLine, f_tokenCount, f_tokenAt, f_heldCount, nI nl, f_codeLength, f_dividedByZero, f_status, f_stopLine, f_steps, f_position, f_outputCount, f_gosubCount, f_frameCount, a_source, a_tokens, a_held, a_programOrder, a_lineNumber, a_lineKeyword, a_lineVariable, a_lineRelation, a_code, a_codeStart, a_codeEnd, a_operands, a_variables, a_output, a_returnTo, a_frameVariable, a_frameLimit, a_frameBody) x :=
  ⟨nl + 1, xx_findL ho h1 h0 nl 0 (by omega) (fun q hq => by omega)⟩
theorem xx_accL {post : St2 → Prop} {m : Nat} {po0 : Nat → Int32} (ho : tb_ord nl O N po0 a_lineNumber yn) (hnl : nl < 16) (hm : a_lineNumber nl = nI m) (hm2 : m ≤ 32767) (hne : ∀ l, l < nl → N l ≠ m)
    (K : ∀ q po', q ≤ nl → (∀ p, p < q → N (O p) < m) → (∀ p, q ≤ p → p < nl → m < N (O p)) → (∀ j, j < q → po' j = po0 j) → po' q = nI nl → (∀ j, q ≤ j → j < nl → po' (j + 1) = po0 j) → post (f_gosubDepth, f_forDepth, f_outCap, f_sourceLength, f_compiled, f_errorLine, f_tokenCount, f_tokenAt, f_heldCount, nI (nl + 1), f_codeLength, f_dividedByZero, f_status, f_stopLine, f_steps, f_position, f_outputCount, f_gosubCount, f_frameCount, a_source, a_tokens, a_held, po', a_lineNumber, a_lineKeyword, a_lineVariable, a_lineRelation, a_code, a_codeStart, a_codeEnd, a_operands, a_variables, a_output, a_returnTo, a_frameVariable, a_frameLimit, a_frameBody)) :
    ∀ (q : Nat) (a_programOrder : Nat → Int32), q ≤ nl → (∀ j, j < q → a_programOrder j = po0 j) → (∀ j, q ≤ j → j < nl → a_programOrder (j + 1) = po0 j) → (∀ j, q ≤ j → j < nl → m < N (O j)) → wX_acceptLine_2 post (nI nl) f_gosubDepth f_forDepth f_outCap f_sourceLength f_compiled f_errorLine f_tokenCount f_tokenAt f_heldCount f_lineTotal f_codeLength f_dividedByZero f_status f_stopLine f_steps f_position f_outputCount f_gosubCount f_frameCount (q + 1) (nI q) a_source a_tokens a_held a_programOrder a_lineNumber a_lineKeyword a_lineVariable a_lineRelation a_code a_codeStart a_codeEnd a_operands a_variables a_output a_returnTo a_frameVariable a_frameLimit a_frameBody
  | 0, a_programOrder, hq, h1, h2, h3 => br_t (by decide) ⟨vp_in_nI (by omega) (by omega), nm_r (e' := upd a_programOrder 0 (nI nl)) (by rw [nI_clamp (by omega)]) (nm_r (nI_1 nl) (K 0 _ hq (fun p hp => by omega) h3 (fun j hj => by omega) pk_us (fun j j1 j2 => (pk_un (by omega)).trans (h2 j j1 j2))))⟩
  | q + 1, a_programOrder, hq, h1, h2, h3 => by
    obtain ⟨b16, o1, o2, o3, o4⟩ := ho
    have a := o1 q (by omega)
    have b := o2 (O q) a.2
    have r0 : a_programOrder (nI (q + 1) - 1).toNatClampNeg = nI (O q) := by rw [nI_pred, nI_clamp (by omega), h1 q (by omega)]; exact a.1
    have r2 : a_lineNumber (a_programOrder (nI (q + 1) - 1).toNatClampNeg).toNatClampNeg = nI (N (O q)) := by rw [r0, nI_clamp (by omega)]; exact b.1
    have r3 : a_lineNumber (nI nl).toNatClampNeg = nI m := by rw [nI_clamp (by omega)]; exact hm
    refine br_f (nI_nle (by omega) (by omega)) ⟨pk_in q 16 (by omega) (nI_pred q), pk_in (O q) 16 (by omega) r0, vp_in_nI (by omega) (by omega), ?_⟩
    rw [r2, r3]
    refine pk_le (N (O q)) m (fun z => ⟨vp_in_nI (by omega) (by omega), nm_r (e' := upd a_programOrder (q + 1) (nI nl)) (by rw [nI_clamp (by omega)]) (nm_r (nI_1 nl) (K (q + 1) _ hq (fun p hp => ?_) h3 (fun j hj => (pk_un (by omega)).trans (h1 j hj)) pk_us (fun j j1 j2 => (pk_un (by omega)).trans (h2 j j1 j2))))⟩)
      (fun z => ⟨pk_in q 16 (by omega) (nI_pred q), vp_in_nI (by omega) (by omega), nm_r (e' := upd a_programOrder (q + 1) (nI (O q))) ?_ (nm_r (pk_m1 q) (xx_accL ⟨b16, o1, o2, o3, o4⟩ hnl hm hm2 hne K q _ (by omega) (fun j hj => (pk_un (by omega)).trans (h1 j (by omega))) (fun j j1 j2 => ?_) (fun j j1 j2 => ?_)))⟩)
    · have ne := hne (O q) a.2
      rcases Nat.lt_or_ge p q with y | y
      · have := o3 p q y (by omega); omega
      · have : p = q := by omega
        subst this
        omega
    · rw [r0, nI_clamp (by omega)]
    · rcases Nat.lt_or_ge q j with y | y
      · exact (pk_un (by omega)).trans (h2 j (by omega) j2)
      · have : j = q := by omega
        subst this
        rw [pk_us]; exact a.1.symm
    · rcases Nat.lt_or_ge q j with y | y
      · exact h3 j (by omega) j2
      · have : j = q := by omega
        subst this
        exact z
end
section
variable {f_gosubDepth f_forDepth f_outCap f_sourceLength f_compiled f_errorLine f_tokenCount f_tokenAt f_heldCount f_dividedByZero f_status f_stopLine f_steps f_position f_outputCount f_gosubCount f_frameCount : Int32} {a_tokens a_held a_programOrder a_lineNumber a_lineKeyword a_lineVariable a_lineRelation a_code a_codeStart a_codeEnd a_operands a_variables a_output a_returnTo a_frameVariable a_frameLimit a_frameBody : Nat → Int32} {C : Nat → Nat} {s e nl cl : Nat} {O N : Nat → Nat} {yn : Nat → Int32}
theorem xx_line {post : Int32 → St2 → Prop} (hC : ∀ j, C j < 127) (hse : s ≤ e) (he : e ≤ 256) (hcl : cl ≤ s) (ho : tb_ord nl O N a_programOrder a_lineNumber yn)
    (h4 : s + 40 < e → post 4 (f_gosubDepth, f_forDepth, f_outCap, f_sourceLength, f_compiled, f_errorLine, f_tokenCount, f_tokenAt, f_heldCount, nI nl, nI cl, f_dividedByZero, f_status, f_stopLine, f_steps, f_position, f_outputCount, f_gosubCount, f_frameCount, tb_S C, a_tokens, a_held, a_programOrder, a_lineNumber, a_lineKeyword, a_lineVariable, a_lineRelation, a_code, a_codeStart, a_codeEnd, a_operands, a_variables, a_output, a_returnTo, a_frameVariable, a_frameLimit, a_frameBody))
    (h0 : e ≤ s + 40 → tb_blank C s e → post 0 (f_gosubDepth, f_forDepth, f_outCap, f_sourceLength, f_compiled, f_errorLine, f_tokenCount, f_tokenAt, f_heldCount, nI nl, nI cl, f_dividedByZero, f_status, f_stopLine, f_steps, f_position, f_outputCount, f_gosubCount, f_frameCount, tb_S C, a_tokens, a_held, a_programOrder, a_lineNumber, a_lineKeyword, a_lineVariable, a_lineRelation, a_code, a_codeStart, a_codeEnd, a_operands, a_variables, a_output, a_returnTo, a_frameVariable, a_frameLimit, a_frameBody))
    (h3 : e ≤ s + 40 → ¬ tb_blank C s e → 16 ≤ nl → post 3 (f_gosubDepth, f_forDepth, f_outCap, f_sourceLength, f_compiled, f_errorLine, f_tokenCount, f_tokenAt, f_heldCount, nI nl, nI cl, f_dividedByZero, f_status, f_stopLine, f_steps, f_position, f_outputCount, f_gosubCount, f_frameCount, tb_S C, a_tokens, a_held, a_programOrder, a_lineNumber, a_lineKeyword, a_lineVariable, a_lineRelation, a_code, a_codeStart, a_codeEnd, a_operands, a_variables, a_output, a_returnTo, a_frameVariable, a_frameLimit, a_frameBody))
    (h1 : e ≤ s + 40 → ¬ tb_blank C s e → nl < 16 → (∀ L, tb_tz C e 40 s = some L → ¬ tb_so L) → ∀ tc ta hc cl' tk hd ln lk lv lr cd cs ce, post 1 (f_gosubDepth, f_forDepth, f_outCap, f_sourceLength, f_compiled, f_errorLine, tc, ta, hc, nI nl, cl', f_dividedByZero, f_status, f_stopLine, f_steps, f_position, f_outputCount, f_gosubCount, f_frameCount, tb_S C, tk, hd, a_programOrder, ln, lk, lv, lr, cd, cs, ce, a_operands, a_variables, a_output, a_returnTo, a_frameVariable, a_frameLimit, a_frameBody))
    (h2 : e ≤ s + 40 → ¬ tb_blank C s e → nl < 16 → ∀ L, tb_tz C e 40 s = some L → tb_so L → ∀ l, l < nl → N l = tb_T L 0 → ∀ tc ta hc cl' tk hd ln lk lv lr cd cs ce, post 2 (f_gosubDepth, f_forDepth, f_outCap, f_sourceLength, f_compiled, f_errorLine, tc, ta, hc, nI nl, cl', f_dividedByZero, f_status, f_stopLine, f_steps, f_position, f_outputCount, f_gosubCount, f_frameCount, tb_S C, tk, hd, a_programOrder, ln, lk, lv, lr, cd, cs, ce, a_operands, a_variables, a_output, a_returnTo, a_frameVariable, a_frameLimit, a_frameBody))
    (hA : e ≤ s + 40 → ¬ tb_blank C s e → nl < 16 → ∀ L, tb_tz C e 40 s = some L → tb_so L → (∀ l, l < nl → N l ≠ tb_T L 0) → ∀ tc ta hc (cl' : Nat) tk hd ln lk lv lr cd cs ce po (q : Nat),
      cl' ≤ e → cl ≤ cl' → q ≤ nl → (∀ p, p < q → N (O p) < tb_T L 0) → (∀ p, q ≤ p → p < nl → tb_T L 0 < N (O p)) → (∀ yn', (∀ l, l < nl → yn' l = yn l) → yn' nl = nI (tb_T L 0) → tb_ord (nl + 1) (fun p => if p < q then O p else if p = q then nl else O (p - 1)) (fun l => if l < nl then N l else tb_T L 0) po ln yn') →
      (∀ l L', l < nl → tb_lo L' l a_lineNumber a_lineKeyword a_lineVariable a_lineRelation a_code a_codeStart a_codeEnd cl → tb_lo L' l ln lk lv lr cd cs ce cl') →
      tb_lo L nl ln lk lv lr cd cs ce cl' → (∀ l, l < nl → ln l = a_lineNumber l) →
      post 0 (f_gosubDepth, f_forDepth, f_outCap, f_sourceLength, f_compiled, f_errorLine, tc, ta, hc, nI (nl + 1), nI cl', f_dividedByZero, f_status, f_stopLine, f_steps, f_position, f_outputCount, f_gosubCount, f_frameCount, tb_S C, tk, hd, po, ln, lk, lv, lr, cd, cs, ce, a_operands, a_variables, a_output, a_returnTo, a_frameVariable, a_frameLimit, a_frameBody)) :
    wpX_compileLine post (f_gosubDepth, f_forDepth, f_outCap, f_sourceLength, f_compiled, f_errorLine, f_tokenCount, f_tokenAt, f_heldCount, nI nl, nI cl, f_dividedByZero, f_status, f_stopLine, f_steps, f_position, f_outputCount, f_gosubCount, f_frameCount, tb_S C, a_tokens, a_held, a_programOrder, a_lineNumber, a_lineKeyword, a_lineVariable, a_lineRelation, a_code, a_codeStart, a_codeEnd, a_operands, a_variables, a_output, a_returnTo, a_frameVariable, a_frameLimit, a_frameBody) (nI s) (nI e) := by
  have b16 := ho.1
  refine pk_le (e - s) 40 (fun z40 => ⟨e - s + 1, xx_blankL hC he (fun b => br_f tb_10 (h0 (by omega) b)) (fun b => br_t rfl (pk_lt nl 16 (fun hnl => ?_) (fun z => h3 (by omega) b z))) (e - s) s (by omega) (Nat.le_refl _) (fun j j1 j2 => by omega)⟩) (fun z => h4 (by omega)) (pk_sub hse) rfl (by omega) (by omega)
  have H1 := h1 (by omega) b hnl
  refine xx_read hC he hse (fun q tc tk => br_t rfl (H1 (fun L y => by rw [q] at y; cases y) _ _ _ _ _ _ _ _ _ _ _ _ _)) (fun L q tk htk => br_f tb_10 ?_)
  have ⟨hlen, hlen2, hok⟩ := tb_tz_ok C e 40 s L q
  have hle := hlen2 hse
  have S1 : ¬ tb_so L → ∀ tc ta hc cl' tk hd ln lk lv lr cd cs ce, post 1 (f_gosubDepth, f_forDepth, f_outCap, f_sourceLength, f_compiled, f_errorLine, tc, ta, hc, nI nl, cl', f_dividedByZero, f_status, f_stopLine, f_steps, f_position, f_outputCount, f_gosubCount, f_frameCount, tb_S C, tk, hd, a_programOrder, ln, lk, lv, lr, cd, cs, ce, a_operands, a_variables, a_output, a_returnTo, a_frameVariable, a_frameLimit, a_frameBody) := fun z => H1 (fun L' y => by rw [q] at y; cases y; exact z)
  refine xx_takeNum (p := 0) hlen (by omega) hok htk hnl (fun h00 hp => br_f tb_10 ?_) (fun h00 ta ln => br_t rfl (S1 (fun y => h00 ⟨y.2.1, y.2.2.1⟩) _ _ _ _ _ _ _ _ _ _ _ _ _))
  have FIN : ∀ (hc : Int32) (cl' : Nat) (hd lk lv lr cd cs ce : Nat → Int32), tb_so L → tb_lo L nl (upd a_lineNumber nl (nI (tb_T L 0))) lk lv lr cd cs ce cl' → cl ≤ cl' → cl' ≤ cl + L.length → (∀ j, j < cl → cd j = a_code j) → (∀ j, j < nl * 3 → cs j = a_codeStart j) → (∀ j, j < nl * 3 → ce j = a_codeEnd j) →
      (∀ j, j < nl → lk j = a_lineKeyword j) → (∀ j, j < nl → lv j = a_lineVariable j) → (∀ j, j < nl → lr j = a_lineRelation j) →
      wpX_findLine (fun r => (r = (-1) → wpX_acceptLine (fun u => post 0 u) (f_gosubDepth, f_forDepth, f_outCap, f_sourceLength, f_compiled, f_errorLine, nI L.length, nI L.length, hc, nI nl, nI cl', f_dividedByZero, f_status, f_stopLine, f_steps, f_position, f_outputCount, f_gosubCount, f_frameCount, tb_S C, tk, hd, a_programOrder, upd a_lineNumber nl (nI (tb_T L 0)), lk, lv, lr, cd, cs, ce, a_operands, a_variables, a_output, a_returnTo, a_frameVariable, a_frameLimit, a_frameBody) (nI nl)) ∧ (¬ r = (-1) → post 2 (f_gosubDepth, f_forDepth, f_outCap, f_sourceLength, f_compiled, f_errorLine, nI L.length, nI L.length, hc, nI nl, nI cl', f_dividedByZero, f_status, f_stopLine, f_steps, f_position, f_outputCount, f_gosubCount, f_frameCount, tb_S C, tk, hd, a_programOrder, upd a_lineNumber nl (nI (tb_T L 0)), lk, lv, lr, cd, cs, ce, a_operands, a_variables, a_output, a_returnTo, a_frameVariable, a_frameLimit, a_frameBody))) (f_gosubDepth, f_forDepth, f_outCap, f_sourceLength, f_compiled, f_errorLine, nI L.length, nI L.length, hc, nI nl, nI cl', f_dividedByZero, f_status, f_stopLine, f_steps, f_position, f_outputCount, f_gosubCount, f_frameCount, tb_S C, tk, hd, a_programOrder, upd a_lineNumber nl (nI (tb_T L 0)), lk, lv, lr, cd, cs, ce, a_operands, a_variables, a_output, a_returnTo, a_frameVariable, a_frameLimit, a_frameBody) (nI (tb_T L 0)) := fun hc cl' hd lk lv lr cd cs ce so lo c1 c2 f1 f2 f3 f4 f5 f6 => by
    have ho' : tb_ord nl O N a_programOrder (upd a_lineNumber nl (nI (tb_T L 0))) yn := tb_ord_ln ho (fun l hl => pk_un (by omega)) (fun _ _ => rfl)
    refine xx_find ho' (fun p hp hx => br_f (tb_nm1 (by omega)) ?_) (fun hx => br_t rfl ?_)
    · have nn := (ho.2.2.1 (O p) (ho.2.1 p hp).2).2.2
      have e1 : tb_T L 0 = N (O p) := (nI_eq (by omega) (by omega)).mp hx
      exact h2 (by omega) b hnl L q so (O p) (ho.2.1 p hp).2 e1.symm _ _ _ _ _ _ _ _ _ _ _ _ _
    · have hne : ∀ l, l < nl → N l ≠ tb_T L 0 := fun l hl y => by
        obtain ⟨p, hp, e1⟩ := ho.2.2.2.2 l hl
        exact hx p hp (by rw [e1, y])
      refine ⟨nl + 1, xx_accL ho' hnl pk_us h00.2 hne (fun p po p0 p1 p2 p3 p4 p5 => ?_) nl a_programOrder (Nat.le_refl _) (fun _ _ => rfl) (fun j j1 j2 => by omega) (fun j j1 j2 => by omega)⟩
      refine hA (by omega) b hnl L q so hne _ _ _ cl' _ _ _ _ _ _ _ _ _ _ p (by omega) c1 p0 p1 p2 (fun yn' a1 a2 => tb_ord_ins ho hnl p0 h00 p1 p2 p3 p4 p5 (fun l hl => pk_un (by omega)) pk_us a1 a2) (fun l L' hl lo' => ?_) lo (fun l hl => pk_un (by omega))
      exact tb_lo_lo lo' (pk_un (by omega)) (f4 l hl) (f5 l hl) (f6 l hl) f1 (fun i hi => f2 _ (by omega)) (fun i hi => f3 _ (by omega)) c1
  have rdn : upd a_lineNumber nl (nI (tb_T L 0)) (nI nl).toNatClampNeg = nI (tb_T L 0) := by rw [nI_clamp (by omega)]; exact pk_us
  refine xx_stmt hlen hok htk hnl (by omega) (by omega) pk_us h00 (fun so _ _ _ _ _ _ _ _ _ _ => br_t rfl (S1 so _ _ _ _ _ _ _ _ _ _ _ _ _)) (fun so ta _ _ _ _ _ _ _ _ _ w => br_f tb_10 (pk_le L.length ta (fun z => absurd z (by omega)) (fun z => S1 so _ _ _ _ _ _ _ _ _ _ _ _ _))) (fun so hc cl' hd lk lv lr cd cs ce lo c1 c2 f1 f2 f3 f4 f5 f6 => br_f tb_10 (pk_le L.length L.length (fun _ => ⟨vp_in_nI hnl (by omega), ?_⟩) (fun z => absurd z (by omega))))
  have w := FIN hc cl' hd lk lv lr cd cs ce so lo c1 c2 f1 f2 f3 f4 f5 f6
  rw [rdn]
  exact w
end
end
section
def tb_zr (i : Nat) (V : Nat → Int32) : Nat → Int32 := fun j => if j < i then 0 else V j
theorem tb_zr_s (i : Nat) (V : Nat → Int32) : upd (tb_zr i V) i 0 = tb_zr (i + 1) V := by
  funext j
  show (if j = i then 0 else if j < i then 0 else V j) = if j < i + 1 then 0 else V j
  by_cases a : j = i
  · rw [if_pos a, if_pos (by omega)]
  · rw [if_neg a]
    by_cases b : j < i
    · rw [if_pos b, if_pos (by omega)]
    · rw [if_neg b, if_neg (by omega)]
theorem tb_zr_0 (V : Nat → Int32) : tb_zr 0 V = V := by
  funext j
  exact if_neg (by omega)
section
variable {f_gosubDepth f_forDepth f_outCap f_sourceLength f_compiled f_errorLine f_tokenCount f_tokenAt f_heldCount f_lineTotal f_codeLength f_dividedByZero f_status f_stopLine f_steps f_position f_outputCount f_gosubCount f_frameCount : Int32} {a_source a_tokens a_held a_programOrder a_lineNumber a_lineKeyword a_lineVariable a_lineRelation a_code a_codeStart a_codeEnd a_operands a_variables a_output a_returnTo a_frameVariable a_frameLimit a_frameBody : Nat → Int32}
theorem xx_resetL {post : St2 → Prop} (V : Nat → Int32) (hp : post (f_gosubDepth, f_forDepth, f_outCap, f_sourceLength, f_compiled, f_errorLine, f_tokenCount, f_tokenAt, f_heldCount, f_lineTotal, f_codeLength, f_dividedByZero, f_status, f_stopLine, f_steps, f_position, 0, 0, 0, a_source, a_tokens, a_held, a_programOrder, a_lineNumber, a_lineKeyword, a_lineVariable, a_lineRelation, a_code, a_codeStart, a_codeEnd, a_operands, tb_zr 26 V, a_output, a_returnTo, a_frameVariable, a_frameLimit, a_frameBody)) : ∀ d i, i + d = 26 → wX_resetRun_22 post f_gosubDepth f_forDepth f_outCap f_sourceLength f_compiled f_errorLine f_tokenCount f_tokenAt f_heldCount f_lineTotal f_codeLength f_dividedByZero f_status f_stopLine f_steps f_position f_outputCount f_gosubCount f_frameCount (d + 1) (nI i) a_source a_tokens a_held a_programOrder a_lineNumber a_lineKeyword a_lineVariable a_lineRelation a_code a_codeStart a_codeEnd a_operands (tb_zr i V) a_output a_returnTo a_frameVariable a_frameLimit a_frameBody
  | 0, i, hi => by
    have : i = 26 := by omega
    subst this
    exact br_t (by decide) hp
  | d + 1, i, hi => pk_le 26 i (fun z => absurd z (by omega)) (fun _ => ⟨vp_in_nI (by omega) (by omega), nm_r (e' := tb_zr (i + 1) V) (by rw [nI_clamp (by omega)]; exact tb_zr_s i V) (nm_r (nI_1 i) (xx_resetL V hp d (i + 1) (by omega)))⟩)
theorem xx_reset {post : St2 → Prop} (hp : post (f_gosubDepth, f_forDepth, f_outCap, f_sourceLength, f_compiled, f_errorLine, f_tokenCount, f_tokenAt, f_heldCount, f_lineTotal, f_codeLength, f_dividedByZero, 0, -1, 0, 0, 0, 0, 0, a_source, a_tokens, a_held, a_programOrder, a_lineNumber, a_lineKeyword, a_lineVariable, a_lineRelation, a_code, a_codeStart, a_codeEnd, a_operands, tb_zr 26 a_variables, a_output, a_returnTo, a_frameVariable, a_frameLimit, a_frameBody)) : wpX_resetRun post (f_gosubDepth, f_forDepth, f_outCap, f_sourceLength, f_compiled, f_errorLine, f_tokenCount, f_tokenAt, f_heldCount, f_lineTotal, f_codeLength, f_dividedByZero, f_status, f_stopLine, f_steps, f_position, f_outputCount, f_gosubCount, f_frameCount, a_source, a_tokens, a_held, a_programOrder, a_lineNumber, a_lineKeyword, a_lineVariable, a_lineRelation, a_code, a_codeStart, a_codeEnd, a_operands, a_variables, a_output, a_returnTo, a_frameVariable, a_frameLimit, a_frameBody) := by
  refine ⟨27, ?_⟩
  have w := xx_resetL (f_outputCount := f_outputCount) (f_gosubCount := f_gosubCount) (f_frameCount := f_frameCount) (post := post) a_variables hp 26 0 rfl
  rw [tb_zr_0] at w
  exact w
theorem xx_forget {post : St2 → Prop} (hp : post (f_gosubDepth, f_forDepth, f_outCap, f_sourceLength, 0, 0, f_tokenCount, f_tokenAt, f_heldCount, 0, 0, f_dividedByZero, 0, -1, 0, 0, 0, 0, 0, a_source, a_tokens, a_held, a_programOrder, a_lineNumber, a_lineKeyword, a_lineVariable, a_lineRelation, a_code, a_codeStart, a_codeEnd, a_operands, tb_zr 26 a_variables, a_output, a_returnTo, a_frameVariable, a_frameLimit, a_frameBody)) : wpX_forgetProgram post (f_gosubDepth, f_forDepth, f_outCap, f_sourceLength, f_compiled, f_errorLine, f_tokenCount, f_tokenAt, f_heldCount, f_lineTotal, f_codeLength, f_dividedByZero, f_status, f_stopLine, f_steps, f_position, f_outputCount, f_gosubCount, f_frameCount, a_source, a_tokens, a_held, a_programOrder, a_lineNumber, a_lineKeyword, a_lineVariable, a_lineRelation, a_code, a_codeStart, a_codeEnd, a_operands, a_variables, a_output, a_returnTo, a_frameVariable, a_frameLimit, a_frameBody) := by
  unfold wpX_forgetProgram
  dsimp only
  exact xx_reset hp
end
theorem xx_clamp {post : Int32 → Prop} (x : Int32) (hi : Nat) (h1 : 1 ≤ hi) (h2 : hi < 2 ^ 31) (hp : ∀ r, 1 ≤ r → r ≤ hi → ((x < 1 ∧ r = 1) ∨ (¬ x < 1 ∧ ¬ x ≤ nI hi ∧ r = hi) ∨ (¬ x < 1 ∧ x = nI r)) → post (nI r)) : wpX_clamp post () x 1 (nI hi) := by
  by_cases z : (1 : Int32) ≤ x
  · have z' : ¬ x < 1 := Int32.not_lt.mpr z
    refine br_t z ?_
    by_cases y : x ≤ nI hi
    · refine br_t y ?_
      have z0 : ¬ x < 0 := fun w => z' (Int32.lt_trans w (by decide))
      obtain ⟨r, hr, e⟩ := nI_of z0
      subst e
      rw [nI_leI hr h2] at y
      have a : 1 ≤ r := (nI_leI (a := 1) (by omega) hr).mp z
      exact hp r a y (Or.inr (Or.inr ⟨z', rfl⟩))
    · exact br_f y (hp hi h1 (Nat.le_refl _) (Or.inr (Or.inl ⟨z', y, rfl⟩)))
  · exact br_f z (hp 1 (Nat.le_refl _) h1 (Or.inl ⟨Int32.not_le.mp z, rfl⟩))
end
section
/-! ===== compile, both sides line by line ===== -/
/-- where the physical line that has i ends -/
def tb_le (C : Nat → Nat) : Nat → Nat → Nat
  | 0, i => i
  | d + 1, i => if C i = 10 then i else tb_le C d (i + 1)
theorem tb_le_in (C : Nat → Nat) : ∀ d i, i ≤ tb_le C d i ∧ tb_le C d i ≤ i + d
  | 0, i => ⟨Nat.le_refl _, Nat.le_refl _⟩
  | d + 1, i => by
    unfold tb_le
    have := tb_le_in C d (i + 1)
    split <;> omega
theorem tb_le_t {C : Nat → Nat} {d i : Nat} (h : C i = 10) : tb_le C (d + 1) i = i := if_pos h
theorem tb_le_f {C : Nat → Nat} {d i : Nat} (h : ¬ C i = 10) : tb_le C (d + 1) i = tb_le C d (i + 1) := if_neg h
section
variable {f_gosubDepth f_forDepth f_outCap f_compiled f_errorLine f_tokenCount f_tokenAt f_heldCount f_lineTotal f_codeLength f_dividedByZero f_status f_stopLine f_steps f_position f_outputCount f_gosubCount f_frameCount : Int32} {a_tokens a_held a_programOrder a_lineNumber a_lineKeyword a_lineVariable a_lineRelation a_code a_codeStart a_codeEnd a_operands a_variables a_output a_returnTo a_frameVariable a_frameLimit a_frameBody : Nat → Int32} {C : Nat → Nat} {n s k e : Nat} {post : Int32 → St2 → Prop}
theorem xx_scanL (hC : ∀ j, C j < 127) (hn : n ≤ 256) (K : ∀ F, n + 1 ≤ F + e → wX_compile_47 post (wX_compile_13 post F) (nI k) (nI s) (nI e) f_gosubDepth f_forDepth f_outCap (nI n) f_compiled f_errorLine f_tokenCount f_tokenAt f_heldCount f_lineTotal f_codeLength f_dividedByZero f_status f_stopLine f_steps f_position f_outputCount f_gosubCount f_frameCount (tb_S C) a_tokens a_held a_programOrder a_lineNumber a_lineKeyword a_lineVariable a_lineRelation a_code a_codeStart a_codeEnd a_operands a_variables a_output a_returnTo a_frameVariable a_frameLimit a_frameBody) :
    ∀ d i F, i + d = n → tb_le C d i = e → n + 2 ≤ F + i → wX_compile_13 post F 0 (nI k) (nI s) (nI i) f_gosubDepth f_forDepth f_outCap (nI n) f_compiled f_errorLine f_tokenCount f_tokenAt f_heldCount f_lineTotal f_codeLength f_dividedByZero f_status f_stopLine f_steps f_position f_outputCount f_gosubCount f_frameCount (tb_S C) a_tokens a_held a_programOrder a_lineNumber a_lineKeyword a_lineVariable a_lineRelation a_code a_codeStart a_codeEnd a_operands a_variables a_output a_returnTo a_frameVariable a_frameLimit a_frameBody
  | 0, i, F, hi, he, hF => by
    obtain ⟨G, rfl⟩ : ∃ G, F = G + 1 := ⟨F - 1, by omega⟩
    have ee : i = e := he
    subst ee
    refine pk_lt n i (fun z => absurd z (by omega)) (fun _ => br_t rfl (pk_eq i n (fun _ => K G (by omega)) (fun z => absurd z (by omega))))
  | d + 1, i, F, hi, he, hF => by
    obtain ⟨G, rfl⟩ : ∃ G, F = G + 1 := ⟨F - 1, by omega⟩
    refine pk_lt n i (fun z => absurd z (by omega)) (fun _ => br_t rfl (pk_eq i n (fun z => absurd z (by omega)) (fun _ => ⟨vp_in_nI (by omega) (by omega), pk_eq (C i) 10 (fun z => ?_) (fun z => nm_r (nI_1 i) (xx_scanL hC hn K d (i + 1) G (by omega) ((tb_le_f z).symm.trans he) (by omega))) (tb_rd (by omega)) rfl (by have := hC i; omega)⟩)))
    have ee : i = e := (tb_le_t z).symm.trans he
    subst ee
    exact K G (by omega)
end
section
variable {f_gosubDepth f_forDepth f_outCap f_sourceLength f_compiled f_errorLine f_tokenCount f_tokenAt f_heldCount f_lineTotal f_codeLength f_dividedByZero f_status f_stopLine f_steps f_position f_outputCount f_gosubCount f_frameCount : Int32} {a_source a_tokens a_held a_programOrder a_lineNumber a_lineKeyword a_lineVariable a_lineRelation a_code a_codeStart a_codeEnd a_operands a_variables a_output a_returnTo a_frameVariable a_frameLimit a_frameBody : Nat → Int32} {post : Int32 → St2 → Prop} {x2 x3 x4 r : Int32}
theorem xx_cerr {F : Nat} (hF : 1 ≤ F) (hr : ¬ r = 0) (hp : post r (f_gosubDepth, f_forDepth, f_outCap, f_sourceLength, f_compiled, x2, f_tokenCount, f_tokenAt, f_heldCount, 0, f_codeLength, f_dividedByZero, f_status, f_stopLine, f_steps, f_position, f_outputCount, f_gosubCount, f_frameCount, a_source, a_tokens, a_held, a_programOrder, a_lineNumber, a_lineKeyword, a_lineVariable, a_lineRelation, a_code, a_codeStart, a_codeEnd, a_operands, a_variables, a_output, a_returnTo, a_frameVariable, a_frameLimit, a_frameBody)) : wX_compile_13 post F r x2 x3 x4 f_gosubDepth f_forDepth f_outCap f_sourceLength f_compiled f_errorLine f_tokenCount f_tokenAt f_heldCount f_lineTotal f_codeLength f_dividedByZero f_status f_stopLine f_steps f_position f_outputCount f_gosubCount f_frameCount a_source a_tokens a_held a_programOrder a_lineNumber a_lineKeyword a_lineVariable a_lineRelation a_code a_codeStart a_codeEnd a_operands a_variables a_output a_returnTo a_frameVariable a_frameLimit a_frameBody := by
  obtain ⟨G, rfl⟩ : ∃ G, F = G + 1 := ⟨F - 1, by omega⟩
  exact br_c (fun _ => br_f hr hp) (fun _ => br_f hr (br_f hr hp))
theorem xx_cend {F n i : Nat} (hF : 1 ≤ F) (hn : n ≤ 256) (hi : n < i) (hi2 : i ≤ 300) (hp : post 0 (f_gosubDepth, f_forDepth, f_outCap, nI n, 1, f_errorLine, f_tokenCount, f_tokenAt, f_heldCount, f_lineTotal, f_codeLength, f_dividedByZero, f_status, f_stopLine, f_steps, f_position, f_outputCount, f_gosubCount, f_frameCount, a_source, a_tokens, a_held, a_programOrder, a_lineNumber, a_lineKeyword, a_lineVariable, a_lineRelation, a_code, a_codeStart, a_codeEnd, a_operands, a_variables, a_output, a_returnTo, a_frameVariable, a_frameLimit, a_frameBody)) : wX_compile_13 post F 0 x2 x3 (nI i) f_gosubDepth f_forDepth f_outCap (nI n) f_compiled f_errorLine f_tokenCount f_tokenAt f_heldCount f_lineTotal f_codeLength f_dividedByZero f_status f_stopLine f_steps f_position f_outputCount f_gosubCount f_frameCount a_source a_tokens a_held a_programOrder a_lineNumber a_lineKeyword a_lineVariable a_lineRelation a_code a_codeStart a_codeEnd a_operands a_variables a_output a_returnTo a_frameVariable a_frameLimit a_frameBody := by
  obtain ⟨G, rfl⟩ : ∃ G, F = G + 1 := ⟨F - 1, by omega⟩
  exact pk_lt n i (fun _ => br_t rfl hp) (fun z => absurd z (by omega))
end
end
section
/-! ===== put ===== -/
def tb_good (x : Int32) : Prop := x = 10 ∨ (¬ x < 32 ∧ ¬ 126 < x)
theorem tb_good_c {x : Int32} (h : tb_good x) : ∃ c, c < 127 ∧ x = nI c := by
  rcases h with h | ⟨h1, h2⟩
  · exact ⟨10, by omega, h⟩
  · have z0 : ¬ x < 0 := fun w => h1 (Int32.lt_trans w (by decide))
    obtain ⟨c, hc, rfl⟩ := nI_of z0
    refine ⟨c, ?_, rfl⟩
    have : ¬ 126 < c := fun w => h2 ((nI_ltI (a := 126) (by omega) hc).mpr w)
    omega
def tb_uN (C : Nat → Nat) (k c : Nat) : Nat → Nat := fun j => if j = k then c else C j
theorem tb_S_u (C : Nat → Nat) (k c : Nat) : upd (tb_S C) k (nI c) = tb_S (tb_uN C k c) := by
  funext j
  show (if j = k then nI c else nI (C j)) = nI (if j = k then c else C j)
  by_cases z : j = k
  · rw [if_pos z, if_pos z]
  · rw [if_neg z, if_neg z]
theorem tb_uN_lt {C : Nat → Nat} {k c : Nat} (h : ∀ j, C j < 127) (hc : c < 127) : ∀ j, tb_uN C k c j < 127 := fun j => by
  unfold tb_uN
  split
  · exact hc
  · exact h j
theorem xx_isc {post : Int32 → Prop} (x : Int32) (h1 : tb_good x → post 1) (h0 : ¬ tb_good x → post 0) : wpX_isSourceCharacter post () x :=
  br_c (fun e => h1 (Or.inl e)) (fun e => br_c (fun a => h0 (fun z => z.elim e (fun y => y.1 a))) (fun a => br_c (fun b => h0 (fun z => z.elim e (fun y => y.2 b))) (fun b => h1 (Or.inr ⟨a, b⟩))))
section
variable {f_gosubDepth f_forDepth f_outCap f_compiled f_errorLine f_tokenCount f_tokenAt f_heldCount f_lineTotal f_codeLength f_dividedByZero f_status f_stopLine f_steps f_position f_outputCount f_gosubCount f_frameCount : Int32} {a_tokens a_held a_programOrder a_lineNumber a_lineKeyword a_lineVariable a_lineRelation a_code a_codeStart a_codeEnd a_operands a_variables a_output a_returnTo a_frameVariable a_frameLimit a_frameBody : Nat → Int32} {C : Nat → Nat} {n : Nat}
theorem xx_app {post : St2 → Prop} {x : Int32} {c : Nat} (hx : x = nI c) (h : n < 256) (hp : post (f_gosubDepth, f_forDepth, f_outCap, nI (n + 1), f_compiled, f_errorLine, f_tokenCount, f_tokenAt, f_heldCount, f_lineTotal, f_codeLength, f_dividedByZero, f_status, f_stopLine, f_steps, f_position, f_outputCount, f_gosubCount, f_frameCount, tb_S (tb_uN C n c), a_tokens, a_held, a_programOrder, a_lineNumber, a_lineKeyword, a_lineVariable, a_lineRelation, a_code, a_codeStart, a_codeEnd, a_operands, a_variables, a_output, a_returnTo, a_frameVariable, a_frameLimit, a_frameBody)) : wpX_append post (f_gosubDepth, f_forDepth, f_outCap, nI n, f_compiled, f_errorLine, f_tokenCount, f_tokenAt, f_heldCount, f_lineTotal, f_codeLength, f_dividedByZero, f_status, f_stopLine, f_steps, f_position, f_outputCount, f_gosubCount, f_frameCount, tb_S C, a_tokens, a_held, a_programOrder, a_lineNumber, a_lineKeyword, a_lineVariable, a_lineRelation, a_code, a_codeStart, a_codeEnd, a_operands, a_variables, a_output, a_returnTo, a_frameVariable, a_frameLimit, a_frameBody) x := by
  subst hx
  exact pk_le 256 n (fun z => absurd z (by omega)) (fun _ => ⟨vp_in_nI h (by omega), nm_r (e' := tb_S (tb_uN C n c)) (by rw [nI_clamp (by omega)]; exact tb_S_u C n c) (nm_r (nI_1 n) hp)⟩)
end
/-- what a group of m characters adds -/
def tb_ap (C : Nat → Nat) (n m c1 c2 c3 c4 : Nat) : Nat → Nat :=
  if m = 1 then tb_uN C n c1 else if m = 2 then tb_uN (tb_uN C n c1) (n + 1) c2 else if m = 3 then tb_uN (tb_uN (tb_uN C n c1) (n + 1) c2) (n + 2) c3
  else tb_uN (tb_uN (tb_uN (tb_uN C n c1) (n + 1) c2) (n + 2) c3) (n + 3) c4
theorem tb_ap_lt {C : Nat → Nat} {n m c1 c2 c3 c4 : Nat} (h : ∀ j, C j < 127) (h1 : c1 < 127) (h2 : c2 < 127) (h3 : c3 < 127) (h4 : c4 < 127) : ∀ j, tb_ap C n m c1 c2 c3 c4 j < 127 := by
  unfold tb_ap
  split
  · exact tb_uN_lt h h1
  · split
    · exact tb_uN_lt (tb_uN_lt h h1) h2
    · split
      · exact tb_uN_lt (tb_uN_lt (tb_uN_lt h h1) h2) h3
      · exact tb_uN_lt (tb_uN_lt (tb_uN_lt (tb_uN_lt h h1) h2) h3) h4
/-- the group is taken -/
def tb_pg (n m : Nat) (v1 v2 v3 v4 : Int32) : Prop := n + m ≤ 256 ∧ tb_good v1 ∧ (2 ≤ m → tb_good v2) ∧ (3 ≤ m → tb_good v3) ∧ (4 ≤ m → tb_good v4)
/-- its characters -/
def tb_cc (m : Nat) (v1 v2 v3 v4 : Int32) (c1 c2 c3 c4 : Nat) : Prop := c1 < 127 ∧ c2 < 127 ∧ c3 < 127 ∧ c4 < 127 ∧ v1 = nI c1 ∧ (2 ≤ m → v2 = nI c2) ∧ (3 ≤ m → v3 = nI c3) ∧ (4 ≤ m → v4 = nI c4)
theorem tb_pg_cc {n m : Nat} {v1 v2 v3 v4 : Int32} (h : tb_pg n m v1 v2 v3 v4) : ∃ c1 c2 c3 c4, tb_cc m v1 v2 v3 v4 c1 c2 c3 c4 := by
  obtain ⟨-, g1, g2, g3, g4⟩ := h
  obtain ⟨c1, a1, b1⟩ := tb_good_c g1
  have A : ∀ (p : Prop) (x : Int32), (p → tb_good x) → ∃ c, c < 127 ∧ (p → x = nI c) := fun p x hp => by
    by_cases z : p
    · obtain ⟨c, a, b⟩ := tb_good_c (hp z)
      exact ⟨c, a, fun _ => b⟩
    · exact ⟨0, by omega, fun y => absurd y z⟩
  obtain ⟨c2, a2, b2⟩ := A _ v2 g2
  obtain ⟨c3, a3, b3⟩ := A _ v3 g3
  obtain ⟨c4, a4, b4⟩ := A _ v4 g4
  exact ⟨c1, c2, c3, c4, a1, a2, a3, a4, b1, b2, b3, b4⟩
section
variable {f_gosubDepth f_forDepth f_outCap f_compiled f_errorLine f_tokenCount f_tokenAt f_heldCount f_lineTotal f_codeLength f_dividedByZero f_status f_stopLine f_steps f_position f_outputCount f_gosubCount f_frameCount : Int32} {a_tokens a_held a_programOrder a_lineNumber a_lineKeyword a_lineVariable a_lineRelation a_code a_codeStart a_codeEnd a_operands a_variables a_output a_returnTo a_frameVariable a_frameLimit a_frameBody : Nat → Int32} {C : Nat → Nat} {n m : Nat} {v1 v2 v3 v4 : Int32} {post : Int32 → St2 → Prop}
theorem xx_p105 {c1 c2 c3 c4 : Nat} (hm : 1 ≤ m ∧ m ≤ 4) (hn : n + m ≤ 256) (hc : tb_cc m v1 v2 v3 v4 c1 c2 c3 c4)
    (hp : post 1 (f_gosubDepth, f_forDepth, f_outCap, nI (n + m), 0, 0, f_tokenCount, f_tokenAt, f_heldCount, 0, 0, f_dividedByZero, 0, -1, 0, 0, 0, 0, 0, tb_S (tb_ap C n m c1 c2 c3 c4), a_tokens, a_held, a_programOrder, a_lineNumber, a_lineKeyword, a_lineVariable, a_lineRelation, a_code, a_codeStart, a_codeEnd, a_operands, tb_zr 26 a_variables, a_output, a_returnTo, a_frameVariable, a_frameLimit, a_frameBody)) :
    wX_put_105 post v1 v2 v3 v4 (nI m) f_gosubDepth f_forDepth f_outCap (nI n) f_compiled f_errorLine f_tokenCount f_tokenAt f_heldCount f_lineTotal f_codeLength f_dividedByZero f_status f_stopLine f_steps f_position f_outputCount f_gosubCount f_frameCount (tb_S C) a_tokens a_held a_programOrder a_lineNumber a_lineKeyword a_lineVariable a_lineRelation a_code a_codeStart a_codeEnd a_operands a_variables a_output a_returnTo a_frameVariable a_frameLimit a_frameBody := by
  obtain ⟨-, -, -, -, b1, b2, b3, b4⟩ := hc
  have : m = 1 ∨ m = 2 ∨ m = 3 ∨ m = 4 := by omega
  rcases this with rfl | rfl | rfl | rfl
  · exact br_f tb_10 (xx_app b1 (by omega) (br_t (by decide) (br_t (by decide) (br_t (by decide) (xx_forget hp)))))
  · exact br_f tb_10 (xx_app b1 (by omega) (br_f (by decide) (xx_app (b2 (by omega)) (by omega) (br_t (by decide) (br_t (by decide) (xx_forget hp))))))
  · exact br_f tb_10 (xx_app b1 (by omega) (br_f (by decide) (xx_app (b2 (by omega)) (by omega) (br_f (by decide) (xx_app (b3 (by omega)) (by omega) (br_t (by decide) (xx_forget hp)))))))
  · exact br_f tb_10 (xx_app b1 (by omega) (br_f (by decide) (xx_app (b2 (by omega)) (by omega) (br_f (by decide) (xx_app (b3 (by omega)) (by omega) (br_f (by decide) (xx_app (b4 (by omega)) (by omega) (xx_forget hp))))))))
theorem xx_put (hm : 1 ≤ m ∧ m ≤ 4) (hn : n ≤ 256) (hgl : ∀ q : Int32 → Prop, q (nI m) → wpX_groupLength q () v1 v2 v3 v4)
    (hF : ¬ tb_pg n m v1 v2 v3 v4 → post 0 (f_gosubDepth, f_forDepth, f_outCap, nI n, f_compiled, f_errorLine, f_tokenCount, f_tokenAt, f_heldCount, f_lineTotal, f_codeLength, f_dividedByZero, f_status, f_stopLine, f_steps, f_position, f_outputCount, f_gosubCount, f_frameCount, tb_S C, a_tokens, a_held, a_programOrder, a_lineNumber, a_lineKeyword, a_lineVariable, a_lineRelation, a_code, a_codeStart, a_codeEnd, a_operands, a_variables, a_output, a_returnTo, a_frameVariable, a_frameLimit, a_frameBody))
    (hS : tb_pg n m v1 v2 v3 v4 → ∀ c1 c2 c3 c4, tb_cc m v1 v2 v3 v4 c1 c2 c3 c4 → post 1 (f_gosubDepth, f_forDepth, f_outCap, nI (n + m), 0, 0, f_tokenCount, f_tokenAt, f_heldCount, 0, 0, f_dividedByZero, 0, -1, 0, 0, 0, 0, 0, tb_S (tb_ap C n m c1 c2 c3 c4), a_tokens, a_held, a_programOrder, a_lineNumber, a_lineKeyword, a_lineVariable, a_lineRelation, a_code, a_codeStart, a_codeEnd, a_operands, tb_zr 26 a_variables, a_output, a_returnTo, a_frameVariable, a_frameLimit, a_frameBody)) :
    wpX_put post (f_gosubDepth, f_forDepth, f_outCap, nI n, f_compiled, f_errorLine, f_tokenCount, f_tokenAt, f_heldCount, f_lineTotal, f_codeLength, f_dividedByZero, f_status, f_stopLine, f_steps, f_position, f_outputCount, f_gosubCount, f_frameCount, tb_S C, a_tokens, a_held, a_programOrder, a_lineNumber, a_lineKeyword, a_lineVariable, a_lineRelation, a_code, a_codeStart, a_codeEnd, a_operands, a_variables, a_output, a_returnTo, a_frameVariable, a_frameLimit, a_frameBody) v1 v2 v3 v4 := by
  have L105 : tb_pg n m v1 v2 v3 v4 → wX_put_105 post v1 v2 v3 v4 (nI m) f_gosubDepth f_forDepth f_outCap (nI n) f_compiled f_errorLine f_tokenCount f_tokenAt f_heldCount f_lineTotal f_codeLength f_dividedByZero f_status f_stopLine f_steps f_position f_outputCount f_gosubCount f_frameCount (tb_S C) a_tokens a_held a_programOrder a_lineNumber a_lineKeyword a_lineVariable a_lineRelation a_code a_codeStart a_codeEnd a_operands a_variables a_output a_returnTo a_frameVariable a_frameLimit a_frameBody := fun h => by
    obtain ⟨c1, c2, c3, c4, hc⟩ := tb_pg_cc h
    exact xx_p105 hm h.1 hc (hS h c1 c2 c3 c4 hc)
  have F109 : ¬ tb_pg n m v1 v2 v3 v4 → wX_put_109 post v1 v2 v3 v4 (nI m) f_gosubDepth f_forDepth f_outCap (nI n) f_compiled f_errorLine f_tokenCount f_tokenAt f_heldCount f_lineTotal f_codeLength f_dividedByZero f_status f_stopLine f_steps f_position f_outputCount f_gosubCount f_frameCount (tb_S C) a_tokens a_held a_programOrder a_lineNumber a_lineKeyword a_lineVariable a_lineRelation a_code a_codeStart a_codeEnd a_operands a_variables a_output a_returnTo a_frameVariable a_frameLimit a_frameBody := fun h => br_t rfl (hF h)
  have F83 : ¬ tb_pg n m v1 v2 v3 v4 → wX_put_83 post v1 v2 v3 v4 (nI m) f_gosubDepth f_forDepth f_outCap (nI n) f_compiled f_errorLine f_tokenCount f_tokenAt f_heldCount f_lineTotal f_codeLength f_dividedByZero f_status f_stopLine f_steps f_position f_outputCount f_gosubCount f_frameCount (tb_S C) a_tokens a_held a_programOrder a_lineNumber a_lineKeyword a_lineVariable a_lineRelation a_code a_codeStart a_codeEnd a_operands a_variables a_output a_returnTo a_frameVariable a_frameLimit a_frameBody := fun h => br_t rfl (F109 h)
  have F58 : ¬ tb_pg n m v1 v2 v3 v4 → wX_put_58 post v1 v2 v3 v4 (nI m) f_gosubDepth f_forDepth f_outCap (nI n) f_compiled f_errorLine f_tokenCount f_tokenAt f_heldCount f_lineTotal f_codeLength f_dividedByZero f_status f_stopLine f_steps f_position f_outputCount f_gosubCount f_frameCount (tb_S C) a_tokens a_held a_programOrder a_lineNumber a_lineKeyword a_lineVariable a_lineRelation a_code a_codeStart a_codeEnd a_operands a_variables a_output a_returnTo a_frameVariable a_frameLimit a_frameBody := fun h => br_t rfl (F83 h)
  have L79 : n + m ≤ 256 → tb_good v1 → (2 ≤ m → tb_good v2) → (3 ≤ m → tb_good v3) → wX_put_79 post v1 v2 v3 v4 (nI m) f_gosubDepth f_forDepth f_outCap (nI n) f_compiled f_errorLine f_tokenCount f_tokenAt f_heldCount f_lineTotal f_codeLength f_dividedByZero f_status f_stopLine f_steps f_position f_outputCount f_gosubCount f_frameCount (tb_S C) a_tokens a_held a_programOrder a_lineNumber a_lineKeyword a_lineVariable a_lineRelation a_code a_codeStart a_codeEnd a_operands a_variables a_output a_returnTo a_frameVariable a_frameLimit a_frameBody := fun a g1 g2 g3 =>
    br_f tb_10 (pk_lt m 4 (fun z => L105 ⟨a, g1, g2, g3, fun y => absurd y (by omega)⟩) (fun z => xx_isc v4 (fun g4 => br_f tb_10 (L105 ⟨a, g1, g2, g3, fun _ => g4⟩)) (fun g4 => br_t rfl (F109 (fun y => g4 (y.2.2.2.2 z))))))
  have L54 : n + m ≤ 256 → tb_good v1 → (2 ≤ m → tb_good v2) → wX_put_54 post v1 v2 v3 v4 (nI m) f_gosubDepth f_forDepth f_outCap (nI n) f_compiled f_errorLine f_tokenCount f_tokenAt f_heldCount f_lineTotal f_codeLength f_dividedByZero f_status f_stopLine f_steps f_position f_outputCount f_gosubCount f_frameCount (tb_S C) a_tokens a_held a_programOrder a_lineNumber a_lineKeyword a_lineVariable a_lineRelation a_code a_codeStart a_codeEnd a_operands a_variables a_output a_returnTo a_frameVariable a_frameLimit a_frameBody := fun a g1 g2 =>
    br_f tb_10 (pk_lt m 3 (fun z => L79 a g1 g2 (fun y => absurd y (by omega))) (fun z => xx_isc v3 (fun g3 => br_f tb_10 (L79 a g1 g2 (fun _ => g3))) (fun g3 => br_t rfl (F83 (fun y => g3 (y.2.2.2.1 z))))))
  unfold wpX_put
  dsimp only
  refine hgl _ (br_f (nI_ne0 (by omega) (by omega)) (pk_le (n + m) 256 (fun a => xx_isc v1 (fun g1 => br_f tb_10 (pk_lt m 2 (fun z => L54 a g1 (fun y => absurd y (by omega))) (fun z => xx_isc v2 (fun g2 => br_f tb_10 (L54 a g1 (fun _ => g2))) (fun g2 => br_t rfl (F58 (fun y => g2 (y.2.2.1 z))))))) (fun g1 => br_t rfl (F58 (fun y => g1 y.2.1)))) (fun a => hF (fun y => absurd y.1 (by omega))) (nI_add n m) rfl (by omega) (by omega)))
end
end
section
/-! ===== the value of an expression: the class ===== -/
/-- what stands in code -/
def tb_ct (t : Nat) : Prop := t ≤ 32767 ∨ (40000 ≤ t ∧ t < 40026) ∨ (40201 ≤ t ∧ t ≤ 40205)
theorem tb_rp_ct (r : Nat) (hr : 0 < r) : ∀ h : List Nat, ∀ t, t ∈ tb_rp r h → tb_ct t
  | [], t, ht => by cases ht
  | x :: h, t, ht => by
    unfold tb_rp at ht
    split at ht
    · next z =>
      rcases List.mem_cons.mp ht with e | e
      · have : 0 < tb_rk x := by omega
        rw [tb_rk_pos] at this
        rw [e]
        exact Or.inr (Or.inr this)
      · exact tb_rp_ct r hr h t e
    · cases ht
theorem tb_ct_app {c d : List Nat} (a : ∀ t, t ∈ c → tb_ct t) (b : ∀ t, t ∈ d → tb_ct t) : ∀ t, t ∈ c ++ d → tb_ct t := fun t ht => by
  rcases List.mem_append.mp ht with z | z
  · exact a t z
  · exact b t z
theorem tb_xp_ev (T : Nat → Nat) (n : Nat) (V : Nat → Int32) (hT : ∀ j, T j ≠ 40205) : ∀ d i b h c e c', tb_xp T n d i b h c = some (e, c') → tb_hk h → (tb_ev V c ([], false)).1.length = (if b = true then 0 else 1) + tb_nb h → (∀ t, t ∈ c → tb_ct t) → (tb_ev V c' ([], false)).1.length = 1 ∧ ∀ t, t ∈ c' → tb_ct t
  | 0, i, b, h, c, e, c', z, hk, hl, hc => by unfold tb_xp at z; cases z
  | d + 1, i, true, h, c, e, c', z, hk, hl, hc => by
    rw [if_pos rfl] at hl
    by_cases a : n ≤ i
    · rw [tb_xp_te a] at z; cases z
    · by_cases o : T i ≤ 32767 ∨ (40000 ≤ T i ∧ T i < 40026)
      · rw [tb_xp_to a o] at z
        refine tb_xp_ev T n V hT d _ _ _ _ _ _ z hk ?_ (tb_ct_app hc (fun t ht => ?_))
        · rw [tb_ev_app]
          show (tb_e1 V (tb_ev V c ([], false)) (T i)).1.length = _
          rw [tb_e1_opd o]
          simp only [List.length_cons]
          rw [hl]
          rw [if_neg (by decide)]
          omega
        · rcases List.mem_cons.mp ht with y | y
          · rw [y]; unfold tb_ct; omega
          · cases y
      · by_cases m : T i = 40202
        · rw [tb_xp_tm a m] at z
          refine tb_xp_ev T n V hT d _ _ _ _ _ _ z (tb_hk_c (by omega) hk) ?_ hc
          rw [hl, if_pos rfl]
          show 0 + tb_nb h = 0 + ((if 40205 = 40206 ∨ 40205 = 40205 then 0 else 1) + tb_nb h)
          rw [if_pos (Or.inr rfl)]; omega
        · by_cases p : T i = 40206
          · rw [tb_xp_tp a p] at z
            refine tb_xp_ev T n V hT d _ _ _ _ _ _ z (tb_hk_c (by omega) hk) ?_ hc
            rw [hl, if_pos rfl]
            show 0 + tb_nb h = 0 + ((if 40206 = 40206 ∨ 40206 = 40205 then 0 else 1) + tb_nb h)
            rw [if_pos (Or.inl rfl)]; omega
          · rw [tb_xp_tn a o m p] at z; cases z
  | d + 1, i, false, h, c, e, c', z, hk, hl, hc => by
    rw [if_neg (by decide)] at hl
    have FIN : (n ≤ i ∨ (¬ 0 < tb_rk (T i) ∧ T i ≠ 40207)) → (tb_ev V c' ([], false)).1.length = 1 ∧ ∀ t, t ∈ c' → tb_ct t := fun y => by
      rw [tb_xp_fe y] at z
      by_cases r : tb_rr 1 h = []
      · rw [if_pos r] at z
        cases z
        refine ⟨?_, tb_ct_app hc (tb_rp_ct 1 (by omega) h)⟩
        rw [tb_ev_app, tb_ev_rel V 1 h _ hk hl (by omega), r]
        rfl
      · rw [if_neg r] at z; cases z
    by_cases a : n ≤ i
    · exact FIN (Or.inl a)
    · by_cases o : 0 < tb_rk (T i)
      · rw [tb_xp_fo a o] at z
        have op := tb_rk_pos.mp o
        have ne := hT i
        refine tb_xp_ev T n V hT d _ _ _ _ _ _ z (tb_hk_c (by omega) (tb_hk_rr _ h hk)) ?_ (tb_ct_app hc (tb_rp_ct _ o h))
        rw [tb_ev_app, tb_ev_rel V _ h _ hk hl o, if_pos rfl]
        show _ = 0 + ((if T i = 40206 ∨ T i = 40205 then 0 else 1) + tb_nb (tb_rr (tb_rk (T i)) h))
        rw [if_neg (by omega)]; omega
      · by_cases p : T i = 40207
        · rw [tb_xp_fc a p] at z
          by_cases r : tb_rr 1 h = []
          · rw [if_pos r] at z; cases z
          · rw [if_neg r] at z
            refine tb_xp_ev T n V hT d _ _ _ _ _ _ z (tb_hk_tl (tb_hk_rr 1 h hk)) ?_ (tb_ct_app hc (tb_rp_ct 1 (by omega) h))
            rw [tb_ev_app, tb_ev_rel V 1 h _ hk hl (by omega), if_neg (by decide)]
            rcases tb_rr1 h hk with ⟨q, _⟩ | ⟨h', q, _⟩
            · exact absurd q r
            · rw [q]
              show 1 + ((if 40206 = 40206 ∨ 40206 = 40205 then 0 else 1) + tb_nb h') = 1 + tb_nb h'
              rw [if_pos (Or.inl rfl)]; omega
        · exact FIN (Or.inr ⟨o, p⟩)
theorem tb_xe_ev {L : List Nat} {p e : Nat} {c : List Nat} (V : Nat → Int32) (hok : ∀ t, t ∈ L → tb_ok t) (h : tb_xe L p = some (e, c)) : (∃ v, (tb_ev V c ([], false)).1 = [v]) ∧ ∀ t, t ∈ c → tb_ct t := by
  have hT : ∀ j, tb_T L j ≠ 40205 := fun j => by
    rcases Nat.lt_or_ge j L.length with z | z
    · have := hok _ (tb_T_mem z)
      unfold tb_ok at this
      omega
    · rw [tb_T_out z]; omega
  have ⟨a, b⟩ := tb_xp_ev (tb_T L) L.length V hT 42 p true [] [] e c h tb_hk_0 rfl (fun t ht => by cases ht)
  refine ⟨?_, b⟩
  match hq : (tb_ev V c ([], false)).1, a with
  | [v], _ => exact ⟨v, rfl⟩
section
variable {f_gosubDepth f_forDepth f_outCap f_sourceLength f_compiled f_errorLine f_tokenCount f_tokenAt f_heldCount f_lineTotal f_codeLength f_status f_stopLine f_steps f_position f_outputCount f_gosubCount f_frameCount : Int32} {a_source a_tokens a_held a_programOrder a_lineNumber a_lineKeyword a_lineVariable a_lineRelation a_code a_codeStart a_codeEnd a_operands a_variables a_output a_returnTo a_frameVariable a_frameLimit a_frameBody : Nat → Int32}
theorem xx_comb {post : Int32 → St2 → Prop} {t : Nat} {a b : Int32} (ht : 40201 ≤ t ∧ t ≤ 40204) (hz : t = 40204 ∧ b = 0 → post 0 (f_gosubDepth, f_forDepth, f_outCap, f_sourceLength, f_compiled, f_errorLine, f_tokenCount, f_tokenAt, f_heldCount, f_lineTotal, f_codeLength, 1, f_status, f_stopLine, f_steps, f_position, f_outputCount, f_gosubCount, f_frameCount, a_source, a_tokens, a_held, a_programOrder, a_lineNumber, a_lineKeyword, a_lineVariable, a_lineRelation, a_code, a_codeStart, a_codeEnd, a_operands, a_variables, a_output, a_returnTo, a_frameVariable, a_frameLimit, a_frameBody)) (hg : ¬ (t = 40204 ∧ b = 0) → post (tb_cb t a b) (f_gosubDepth, f_forDepth, f_outCap, f_sourceLength, f_compiled, f_errorLine, f_tokenCount, f_tokenAt, f_heldCount, f_lineTotal, f_codeLength, 0, f_status, f_stopLine, f_steps, f_position, f_outputCount, f_gosubCount, f_frameCount, a_source, a_tokens, a_held, a_programOrder, a_lineNumber, a_lineKeyword, a_lineVariable, a_lineRelation, a_code, a_codeStart, a_codeEnd, a_operands, a_variables, a_output, a_returnTo, a_frameVariable, a_frameLimit, a_frameBody)) : wpX_combine post (f_gosubDepth, f_forDepth, f_outCap, f_sourceLength, f_compiled, f_errorLine, f_tokenCount, f_tokenAt, f_heldCount, f_lineTotal, f_codeLength, 0, f_status, f_stopLine, f_steps, f_position, f_outputCount, f_gosubCount, f_frameCount, a_source, a_tokens, a_held, a_programOrder, a_lineNumber, a_lineKeyword, a_lineVariable, a_lineRelation, a_code, a_codeStart, a_codeEnd, a_operands, a_variables, a_output, a_returnTo, a_frameVariable, a_frameLimit, a_frameBody) (nI t) a b := by
  have C : ∀ k, t = k → ¬ (t = 40204 ∧ b = 0) → post (tb_cb k a b) (f_gosubDepth, f_forDepth, f_outCap, f_sourceLength, f_compiled, f_errorLine, f_tokenCount, f_tokenAt, f_heldCount, f_lineTotal, f_codeLength, 0, f_status, f_stopLine, f_steps, f_position, f_outputCount, f_gosubCount, f_frameCount, a_source, a_tokens, a_held, a_programOrder, a_lineNumber, a_lineKeyword, a_lineVariable, a_lineRelation, a_code, a_codeStart, a_codeEnd, a_operands, a_variables, a_output, a_returnTo, a_frameVariable, a_frameLimit, a_frameBody) := fun k e h => by rw [← e]; exact hg h
  refine pk_lt t 40201 (fun z => absurd z (by omega)) (fun _ => pk_lt 40203 t (fun z => ?_) (fun z => pk_eq t 40201 (fun e => C 40201 e (by omega)) (fun n1 => pk_eq t 40202 (fun e => C 40202 e (by omega)) (fun n2 => pk_eq t 40203 (fun e => C 40203 e (by omega)) (fun n3 => trivial)))))
  have e : t = 40204 := by omega
  by_cases y : b = 0
  · exact br_t y (hz ⟨e, y⟩)
  · have w := C 40204 e (fun q => y q.2)
    have ev : tb_cb 40204 a b = a / b := by
      show (if b = 0 then 0 else a / b) = _
      exact if_neg y
    rw [ev] at w
    exact br_f y ⟨y, w⟩
theorem xx_evS {post : Int32 → St2 → Prop} {F : Nat} {E x3 x4 : Int32} (hF : 1 ≤ F) (hp : ∀ r, post r (f_gosubDepth, f_forDepth, f_outCap, f_sourceLength, f_compiled, f_errorLine, f_tokenCount, f_tokenAt, f_heldCount, f_lineTotal, f_codeLength, 1, f_status, f_stopLine, f_steps, f_position, f_outputCount, f_gosubCount, f_frameCount, a_source, a_tokens, a_held, a_programOrder, a_lineNumber, a_lineKeyword, a_lineVariable, a_lineRelation, a_code, a_codeStart, a_codeEnd, a_operands, a_variables, a_output, a_returnTo, a_frameVariable, a_frameLimit, a_frameBody)) : wX_evaluate_17 post E F x3 x4 f_gosubDepth f_forDepth f_outCap f_sourceLength f_compiled f_errorLine f_tokenCount f_tokenAt f_heldCount f_lineTotal f_codeLength 1 f_status f_stopLine f_steps f_position f_outputCount f_gosubCount f_frameCount a_source a_tokens a_held a_programOrder a_lineNumber a_lineKeyword a_lineVariable a_lineRelation a_code a_codeStart a_codeEnd a_operands a_variables a_output a_returnTo a_frameVariable a_frameLimit a_frameBody := by
  obtain ⟨G, rfl⟩ : ∃ G, F = G + 1 := ⟨F - 1, by omega⟩
  exact br_c (fun _ => hp _) (fun _ => br_f tb_10 (hp _))
theorem xx_evL {post : Int32 → St2 → Prop} {E : Nat} : ∀ (c : List Nat) (i : Nat) (s : List Int32) (a_operands : Nat → Int32), i + c.length = E → tb_sg a_code i (c.map nI) → (∀ t, t ∈ c → tb_ct t) → tb_sk a_operands s → s.length + c.length ≤ 40 → E ≤ 256 →
    ((tb_ev a_variables c (s, false)).2 = true → ∀ r ops, post r (f_gosubDepth, f_forDepth, f_outCap, f_sourceLength, f_compiled, f_errorLine, f_tokenCount, f_tokenAt, f_heldCount, f_lineTotal, f_codeLength, 1, f_status, f_stopLine, f_steps, f_position, f_outputCount, f_gosubCount, f_frameCount, a_source, a_tokens, a_held, a_programOrder, a_lineNumber, a_lineKeyword, a_lineVariable, a_lineRelation, a_code, a_codeStart, a_codeEnd, ops, a_variables, a_output, a_returnTo, a_frameVariable, a_frameLimit, a_frameBody)) →
    ((tb_ev a_variables c (s, false)).2 = false → ∀ ops, tb_sk ops (tb_ev a_variables c (s, false)).1 → post (ops 0) (f_gosubDepth, f_forDepth, f_outCap, f_sourceLength, f_compiled, f_errorLine, f_tokenCount, f_tokenAt, f_heldCount, f_lineTotal, f_codeLength, 0, f_status, f_stopLine, f_steps, f_position, f_outputCount, f_gosubCount, f_frameCount, a_source, a_tokens, a_held, a_programOrder, a_lineNumber, a_lineKeyword, a_lineVariable, a_lineRelation, a_code, a_codeStart, a_codeEnd, ops, a_variables, a_output, a_returnTo, a_frameVariable, a_frameLimit, a_frameBody)) →
    wX_evaluate_17 post (nI E) (c.length + 1) (nI s.length) (nI i) f_gosubDepth f_forDepth f_outCap f_sourceLength f_compiled f_errorLine f_tokenCount f_tokenAt f_heldCount f_lineTotal f_codeLength 0 f_status f_stopLine f_steps f_position f_outputCount f_gosubCount f_frameCount a_source a_tokens a_held a_programOrder a_lineNumber a_lineKeyword a_lineVariable a_lineRelation a_code a_codeStart a_codeEnd a_operands a_variables a_output a_returnTo a_frameVariable a_frameLimit a_frameBody
  | [], i, s, a_operands, hi, hg, hc, hs, hl, hE, hz, hp => pk_le E i (fun _ => hp rfl a_operands hs) (fun z => absurd z (by simp only [List.length_nil] at hi; omega)) rfl rfl (by omega) (by simp only [List.length_nil] at hi; omega)
  | t :: c, i, s, a_operands, hi, hg, hc, hs, hl, hE, hz, hp => by
    simp only [List.length_cons] at hi hl
    have ct := hc t (List.mem_cons_self ..)
    have hc' : ∀ t, t ∈ c → tb_ct t := fun x hx => hc x (List.mem_cons_of_mem _ hx)
    have ht : t < 40214 := by unfold tb_ct at ct; omega
    have rd : a_code (nI i).toNatClampNeg = nI t := by rw [nI_clamp (by omega)]; exact hg.1
    have ST : ∀ (s' : List Int32) (ops : Nat → Int32), tb_e1 a_variables (s, false) t = (s', false) → tb_sk ops s' → s'.length ≤ s.length + 1 → wX_evaluate_17 post (nI E) (c.length + 1) (nI s'.length) (nI (i + 1)) f_gosubDepth f_forDepth f_outCap f_sourceLength f_compiled f_errorLine f_tokenCount f_tokenAt f_heldCount f_lineTotal f_codeLength 0 f_status f_stopLine f_steps f_position f_outputCount f_gosubCount f_frameCount a_source a_tokens a_held a_programOrder a_lineNumber a_lineKeyword a_lineVariable a_lineRelation a_code a_codeStart a_codeEnd ops a_variables a_output a_returnTo a_frameVariable a_frameLimit a_frameBody := fun s' ops e1 e2 e3 =>
      xx_evL c (i + 1) s' ops (by omega) hg.2 hc' e2 (by omega) hE (fun q => hz (by show (tb_ev a_variables c (tb_e1 a_variables (s, false) t)).2 = true; rw [e1]; exact q)) (fun q ops' w => hp (by show (tb_ev a_variables c (tb_e1 a_variables (s, false) t)).2 = false; rw [e1]; exact q) ops' (by show tb_sk ops' (tb_ev a_variables c (tb_e1 a_variables (s, false) t)).1; rw [e1]; exact w))
    show wX_evaluate_17 post (nI E) (c.length + 1 + 1) (nI s.length) (nI i) f_gosubDepth f_forDepth f_outCap f_sourceLength f_compiled f_errorLine f_tokenCount f_tokenAt f_heldCount f_lineTotal f_codeLength 0 f_status f_stopLine f_steps f_position f_outputCount f_gosubCount f_frameCount a_source a_tokens a_held a_programOrder a_lineNumber a_lineKeyword a_lineVariable a_lineRelation a_code a_codeStart a_codeEnd a_operands a_variables a_output a_returnTo a_frameVariable a_frameLimit a_frameBody
    refine pk_le E i (fun z => absurd z (by omega)) (fun _ => br_t rfl ⟨vp_in_nI (by omega) (by omega), nm_r rd (xx_isnum t (by omega) (fun z => br_f tb_10 (pk_le 40 s.length (fun y => absurd y (by omega)) (fun _ => ⟨vp_in_nI (by omega) (by omega), nm_r (e' := upd a_operands s.length (nI t)) (by rw [nI_clamp (by omega)]) (nm_r (nI_1 s.length) (nm_r (nI_1 i) ?_))⟩))) (fun z => br_t rfl (xx_isvar t (by omega) (fun y => br_f tb_10 (pk_le 40 s.length (fun y => absurd y (by omega)) (fun _ => ⟨pk_in (t - 40000) 26 (by omega) (pk_sub (b := 40000) y.1), vp_in_nI (by omega) (by omega), nm_r (e' := upd a_operands s.length (a_variables (t - 40000))) ?_ (nm_r (nI_1 s.length) (nm_r (nI_1 i) ?_))⟩))) (fun y => br_t rfl ?_))))⟩)
    · exact ST (nI t :: s) _ (by rw [tb_e1_opd (Or.inl z), if_pos z]) (tb_sk_push hs) (Nat.le_refl _)
    · rw [nI_clamp (by omega), show nI t - 40000 = nI (t - 40000) from pk_sub (b := 40000) y.1, nI_clamp (by omega)]
    · exact ST (a_variables (t - 40000) :: s) _ (by rw [tb_e1_opd (Or.inr y), if_neg (by omega)]) (tb_sk_push hs) (Nat.le_refl _)
    · have ct2 : 40201 ≤ t ∧ t ≤ 40205 := by unfold tb_ct at ct; omega
      have SK : wX_evaluate_134 post (wX_evaluate_17 post (nI E) (c.length + 1)) (nI E) (nI s.length) (nI i) (nI t) f_gosubDepth f_forDepth f_outCap f_sourceLength f_compiled f_errorLine f_tokenCount f_tokenAt f_heldCount f_lineTotal f_codeLength 0 f_status f_stopLine f_steps f_position f_outputCount f_gosubCount f_frameCount a_source a_tokens a_held a_programOrder a_lineNumber a_lineKeyword a_lineVariable a_lineRelation a_code a_codeStart a_codeEnd a_operands a_variables a_output a_returnTo a_frameVariable a_frameLimit a_frameBody ∨ (t = 40205 ∧ s ≠ []) := by
        by_cases n5 : t = 40205
        · cases s with
          | nil =>
            refine Or.inl (br_t (by decide) (nm_r (nI_1 i) ?_))
            exact ST [] a_operands (by rw [n5]; rfl) hs (by simp only [List.length_nil]; omega)
          | cons x r => exact Or.inr ⟨n5, List.cons_ne_nil _ _⟩
        · refine Or.inl ?_
          have e0 : ∀ b : Bool, ¬ t ≤ 32767 ∧ ¬ (40000 ≤ t ∧ t < 40026) ∧ ¬ t = 40205 := fun _ => ⟨by omega, by omega, n5⟩
          match s, hs, hl, hz, hp, ST with
          | [], hs, hl, hz, hp, ST =>
            refine br_t (by decide) (nm_r (nI_1 i) ?_)
            exact ST [] a_operands (by unfold tb_e1; rw [if_neg (by omega), if_neg (by omega), if_neg n5]) hs (by simp only [List.length_nil]; omega)
          | [x], hs, hl, hz, hp, ST =>
            refine br_t (show nI 1 ≤ 1 from by decide) (nm_r (nI_1 i) ?_)
            exact ST [x] a_operands (by unfold tb_e1; rw [if_neg (by omega), if_neg (by omega), if_neg n5]) hs (by simp only [List.length_cons]; omega)
          | y :: x :: r, hs, hl, hz, hp, ST =>
            simp only [List.length_cons] at hl
            have h1 : a_operands (r.length + 1) = y := hs.1
            have h2 : a_operands r.length = x := hs.2.1
            show wX_evaluate_134 post (wX_evaluate_17 post (nI E) (c.length + 1)) (nI E) (nI (r.length + 1 + 1)) (nI i) (nI t) f_gosubDepth f_forDepth f_outCap f_sourceLength f_compiled f_errorLine f_tokenCount f_tokenAt f_heldCount f_lineTotal f_codeLength 0 f_status f_stopLine f_steps f_position f_outputCount f_gosubCount f_frameCount a_source a_tokens a_held a_programOrder a_lineNumber a_lineKeyword a_lineVariable a_lineRelation a_code a_codeStart a_codeEnd a_operands a_variables a_output a_returnTo a_frameVariable a_frameLimit a_frameBody
            have v1 : vp_in (nI (r.length + 1) - 1) 40 := pk_in r.length 40 (by omega) (nI_pred r.length)
            have r1 : a_operands (nI (r.length + 1) - 1).toNatClampNeg = x := by rw [nI_pred, nI_clamp (by omega)]; exact h2
            have r2 : a_operands (nI (r.length + 1)).toNatClampNeg = y := by rw [nI_clamp (by omega)]; exact h1
            refine pk_le (r.length + 1 + 1) 1 (fun z => absurd z (by omega)) (fun _ => nm_r (pk_m1 (r.length + 1)) ⟨v1, vp_in_nI (by omega) (by omega), ?_⟩)
            rw [r1, r2]
            have sk : ∀ q : Int32, tb_sk (upd a_operands r.length q) (q :: r) := fun q => tb_sk_push hs.2.2
            refine xx_comb (by omega) (fun q => ⟨v1, nm_e (nm_r (nI_1 i) (xx_evS (by omega) (fun rr => hz ?_ rr _)))⟩) (fun q => ⟨v1, nm_r (e' := upd a_operands r.length (tb_cb t x y)) (by rw [nI_pred, nI_clamp (by omega)]) (nm_r (nI_1 i) ?_)⟩)
            · show (tb_ev a_variables c (tb_e1 a_variables (y :: x :: r, false) t)).2 = true
              rw [tb_e1_bin (by omega)]
              exact tb_ev_err _ _ _ (by show (false || decide (t = 40204 ∧ y = 0)) = true; rw [decide_eq_true q]; rfl)
            · exact ST (tb_cb t x y :: r) _ (by rw [tb_e1_bin (by omega), decide_eq_false q]; rfl) (sk _) (by simp only [List.length_cons]; omega)
      rcases SK with SK | ⟨n5, ne⟩
      · refine pk_eq t 40205 (fun n5 => ?_) (fun _ => SK)
        by_cases es : s = []
        · subst es
          exact br_t (by decide) SK
        · obtain ⟨x, r, rfl⟩ := List.exists_cons_of_ne_nil es
          have h1 : a_operands r.length = x := hs.1
          have v1 : vp_in (nI (r.length + 1) - 1) 40 := pk_in r.length 40 (by simp only [List.length_cons] at hl; omega) (nI_pred r.length)
          have cl : (nI (r.length + 1) - 1).toNatClampNeg = r.length := by rw [nI_pred, nI_clamp (by simp only [List.length_cons] at hl; omega)]
          refine br_f (nI_nle (n := r.length + 1) (by omega) (by simp only [List.length_cons] at hl; omega)) ⟨v1, v1, nm_r (e' := upd a_operands r.length (-x)) ?_ (nm_r (nI_1 i) ?_)⟩
          · show upd a_operands (nI (r.length + 1) - 1).toNatClampNeg (-(a_operands (nI (r.length + 1) - 1).toNatClampNeg)) = _
            rw [cl, h1]
          · exact ST (-x :: r) _ (by rw [n5]; rfl) (tb_sk_push hs.2) (by simp only [List.length_cons]; omega)
      · obtain ⟨x, r, rfl⟩ := List.exists_cons_of_ne_nil ne
        have h1 : a_operands r.length = x := hs.1
        have v1 : vp_in (nI (r.length + 1) - 1) 40 := pk_in r.length 40 (by simp only [List.length_cons] at hl; omega) (nI_pred r.length)
        have cl : (nI (r.length + 1) - 1).toNatClampNeg = r.length := by rw [nI_pred, nI_clamp (by simp only [List.length_cons] at hl; omega)]
        refine pk_eq t 40205 (fun _ => br_f (nI_nle (n := r.length + 1) (by omega) (by simp only [List.length_cons] at hl; omega)) ⟨v1, v1, nm_r (e' := upd a_operands r.length (-x)) ?_ (nm_r (nI_1 i) ?_)⟩) (fun y => absurd n5 y)
        · show upd a_operands (nI (r.length + 1) - 1).toNatClampNeg (-(a_operands (nI (r.length + 1) - 1).toNatClampNeg)) = _
          rw [cl, h1]
        · exact ST (-x :: r) _ (by rw [n5]; rfl) (tb_sk_push hs.2) (by simp only [List.length_cons]; omega)
/-- an expression's value: the sign of a division by 0, or one value -/
theorem xx_eval {post : Int32 → St2 → Prop} {x : Int32} {k cl : Nat} {c : List Nat} (hx : x = nI k) (hk : k < 48) (hcl : cl ≤ 256) (hs : tb_slot a_code a_codeStart a_codeEnd cl k c) (hc : ∀ t, t ∈ c → tb_ct t) (hl : c.length ≤ 40) (h1 : ∃ v, (tb_ev a_variables c ([], false)).1 = [v])
    (hz : (tb_ev a_variables c ([], false)).2 = true → ∀ r ops, post r (f_gosubDepth, f_forDepth, f_outCap, f_sourceLength, f_compiled, f_errorLine, f_tokenCount, f_tokenAt, f_heldCount, f_lineTotal, f_codeLength, 1, f_status, f_stopLine, f_steps, f_position, f_outputCount, f_gosubCount, f_frameCount, a_source, a_tokens, a_held, a_programOrder, a_lineNumber, a_lineKeyword, a_lineVariable, a_lineRelation, a_code, a_codeStart, a_codeEnd, ops, a_variables, a_output, a_returnTo, a_frameVariable, a_frameLimit, a_frameBody))
    (hp : ∀ v, tb_ev a_variables c ([], false) = ([v], false) → ∀ ops, post v (f_gosubDepth, f_forDepth, f_outCap, f_sourceLength, f_compiled, f_errorLine, f_tokenCount, f_tokenAt, f_heldCount, f_lineTotal, f_codeLength, 0, f_status, f_stopLine, f_steps, f_position, f_outputCount, f_gosubCount, f_frameCount, a_source, a_tokens, a_held, a_programOrder, a_lineNumber, a_lineKeyword, a_lineVariable, a_lineRelation, a_code, a_codeStart, a_codeEnd, ops, a_variables, a_output, a_returnTo, a_frameVariable, a_frameLimit, a_frameBody)) : wpX_evaluate post (f_gosubDepth, f_forDepth, f_outCap, f_sourceLength, f_compiled, f_errorLine, f_tokenCount, f_tokenAt, f_heldCount, f_lineTotal, f_codeLength, 0, f_status, f_stopLine, f_steps, f_position, f_outputCount, f_gosubCount, f_frameCount, a_source, a_tokens, a_held, a_programOrder, a_lineNumber, a_lineKeyword, a_lineVariable, a_lineRelation, a_code, a_codeStart, a_codeEnd, a_operands, a_variables, a_output, a_returnTo, a_frameVariable, a_frameLimit, a_frameBody) x := by
  subst hx
  obtain ⟨p, a1, a2, a3, a4⟩ := hs
  have v : vp_in (nI k) 48 := vp_in_nI hk (by omega)
  refine ⟨v, nm_r (e' := nI (p + c.length)) (by rw [nI_clamp (by omega)]; exact a2) ⟨v, nm_r (e' := nI p) (by rw [nI_clamp (by omega)]; exact a1) ⟨c.length + 1, ?_⟩⟩⟩
  refine xx_evL c p [] a_operands rfl a4 hc trivial (by simp only [List.length_nil]; omega) (by omega) hz (fun q ops w => ?_)
  obtain ⟨y, hy⟩ := h1
  rw [hy] at w
  have e0 : ops 0 = y := w.1
  rw [e0]
  exact hp y (Prod.ext hy q) ops
theorem xx_eval1 {post : Int32 → St2 → Prop} {x : Int32} {k cl : Nat} {c : List Nat} (hx : x = nI k) (hk : k < 48) (hs : tb_slot a_code a_codeStart a_codeEnd cl k c) (hp : ∀ r, post r (f_gosubDepth, f_forDepth, f_outCap, f_sourceLength, f_compiled, f_errorLine, f_tokenCount, f_tokenAt, f_heldCount, f_lineTotal, f_codeLength, 1, f_status, f_stopLine, f_steps, f_position, f_outputCount, f_gosubCount, f_frameCount, a_source, a_tokens, a_held, a_programOrder, a_lineNumber, a_lineKeyword, a_lineVariable, a_lineRelation, a_code, a_codeStart, a_codeEnd, a_operands, a_variables, a_output, a_returnTo, a_frameVariable, a_frameLimit, a_frameBody)) : wpX_evaluate post (f_gosubDepth, f_forDepth, f_outCap, f_sourceLength, f_compiled, f_errorLine, f_tokenCount, f_tokenAt, f_heldCount, f_lineTotal, f_codeLength, 1, f_status, f_stopLine, f_steps, f_position, f_outputCount, f_gosubCount, f_frameCount, a_source, a_tokens, a_held, a_programOrder, a_lineNumber, a_lineKeyword, a_lineVariable, a_lineRelation, a_code, a_codeStart, a_codeEnd, a_operands, a_variables, a_output, a_returnTo, a_frameVariable, a_frameLimit, a_frameBody) x := by
  subst hx
  obtain ⟨p, a1, a2, a3, a4⟩ := hs
  have v : vp_in (nI k) 48 := vp_in_nI hk (by omega)
  exact ⟨v, nm_e ⟨v, nm_e ⟨1, xx_evS (Nat.le_refl _) hp⟩⟩⟩
end
end
section
section
variable {f_gosubDepth f_forDepth f_outCap f_sourceLength f_compiled f_errorLine f_tokenCount f_tokenAt f_heldCount f_lineTotal f_codeLength f_dividedByZero f_status f_stopLine f_steps f_position f_outputCount f_gosubCount : Int32} {a_source a_tokens a_held a_programOrder a_lineNumber a_lineKeyword a_lineVariable a_lineRelation a_code a_codeStart a_codeEnd a_operands a_variables a_output a_returnTo a_frameVariable a_frameLimit a_frameBody : Nat → Int32} {fc : Nat}
theorem xx_frameL {post : Int32 → Prop} {x : Int32} (hf : fc ≤ 8) (h1 : ∀ j, j < fc → a_frameVariable j = x → post (nI j)) (h0 : (∀ j, j < fc → a_frameVariable j ≠ x) → post (-1)) : ∀ d k, k + d = fc → (∀ q, q < k → a_frameVariable q ≠ x) → wX_findFrame_2 post x f_gosubDepth f_forDepth f_outCap f_sourceLength f_compiled f_errorLine f_tokenCount f_tokenAt f_heldCount f_lineTotal f_codeLength f_dividedByZero f_status f_stopLine f_steps f_position f_outputCount f_gosubCount (nI fc) a_source a_tokens a_held a_programOrder a_lineNumber a_lineKeyword a_lineVariable a_lineRelation a_code a_codeStart a_codeEnd a_operands a_variables a_output a_returnTo a_frameVariable a_frameLimit a_frameBody (d + 1) (nI k)
  | 0, k, hk, hq => pk_le fc k (fun _ => h0 (fun q hq' => hq q (by omega))) (fun z => absurd z (by omega))
  | d + 1, k, hk, hq => by
    refine pk_le fc k (fun z => absurd z (by omega)) (fun _ => ⟨vp_in_nI (by omega) (by omega), ?_⟩)
    rw [nI_clamp (by omega)]
    by_cases z : a_frameVariable k = x
    · exact br_t z (h1 k (by omega) z)
    · refine br_f z (nm_r (nI_1 k) (xx_frameL hf h1 h0 d (k + 1) (by omega) (fun q hq' => ?_)))
      rcases Nat.lt_or_ge q k with y | y
      · exact hq q y
      · have : q = k := by omega
        subst this
        exact z
theorem xx_frame {post : Int32 → Prop} {x : Int32} (hf : fc ≤ 8) (h1 : ∀ j, j < fc → a_frameVariable j = x → post (nI j)) (h0 : (∀ j, j < fc → a_frameVariable j ≠ x) → post (-1)) : wpX_findFrame post (f_gosubDepth, f_forDepth, f_outCap, f_sourceLength, f_compiled, f_errorLine, f_tokenCount, f_tokenAt, f_heldCount, f_lineTotal, f_codeLength, f_dividedByZero, f_status, f_stopLine, f_steps, f_position, f_outputCount, f_gosubCount, nI fc, a_source, a_tokens, a_held, a_programOrder, a_lineNumber, a_lineKeyword, a_lineVariable, a_lineRelation, a_code, a_codeStart, a_codeEnd, a_operands, a_variables, a_output, a_returnTo, a_frameVariable, a_frameLimit, a_frameBody) x :=
  ⟨fc + 1, xx_frameL hf h1 h0 fc 0 (by omega) (fun q hq => by omega)⟩
end
end
section
/-! ===== the class's statements, run ===== -/
/-- an expression as the class keeps it -/
def tb_xd (V cd cs ce : Nat → Int32) (cl k : Nat) (c : List Nat) : Prop := cl ≤ 256 ∧ tb_slot cd cs ce cl k c ∧ (∀ t, t ∈ c → tb_ct t) ∧ c.length ≤ 40 ∧ ∃ v, (tb_ev V c ([], false)).1 = [v]
/-- a comparison -/
def tb_hd (t : Nat) (a b : Int32) : Prop := if t = 40208 then a = b else if t = 40209 then ¬ a = b else if t = 40210 then ¬ b ≤ a else if t = 40211 then ¬ a ≤ b else if t = 40212 then ¬ b < a else ¬ a < b
theorem xx_holds {post : Int32 → Prop} {t : Nat} {a b x : Int32} (hx : x = nI t) (ht : tb_ir t) (h1 : tb_hd t a b → post 1) (h0 : ¬ tb_hd t a b → post 0) : wpX_holds post () x a b := by
  subst hx
  have A : ∀ k, t = k → (tb_hd k a b → post 1) ∧ (¬ tb_hd k a b → post 0) := fun k e => by subst e; exact ⟨h1, h0⟩
  have F : t = 40213 → ((a < b → post 0) ∧ (¬ a < b → post 1)) := fun e => ⟨fun z => (A _ e).2 (fun w => w z), fun z => (A _ e).1 z⟩
  unfold tb_ir at ht
  refine pk_lt t 40208 (fun z => absurd z (by omega)) (fun _ => pk_lt 40212 t (fun z => F (by omega)) (fun _ => pk_eq t 40208 (fun e => ⟨fun z => (A _ e).1 z, fun z => (A _ e).2 z⟩) (fun n1 => pk_eq t 40209 (fun e => ⟨fun z => (A _ e).2 (fun w => w z), fun z => (A _ e).1 z⟩) (fun n2 => pk_eq t 40210 (fun e => ⟨fun z => (A _ e).2 (fun w => w z), fun z => (A _ e).1 z⟩) (fun n3 => pk_eq t 40211 (fun e => ⟨fun z => (A _ e).2 (fun w => w z), fun z => (A _ e).1 z⟩) (fun n4 => pk_eq t 40212 (fun e => ⟨fun z => (A _ e).2 (fun w => w z), fun z => (A _ e).1 z⟩) (fun n5 => trivial)))))))
/-- the place where FOR puts its frame -/
def tb_fk (fv : Nat → Int32) (fc w kk : Nat) : Prop := (kk < fc ∧ fv kk = nI w) ∨ (kk = fc ∧ ∀ j, j < fc → fv j ≠ nI w)
section
variable {f_gosubDepth f_forDepth f_outCap f_sourceLength f_compiled f_errorLine f_tokenCount f_tokenAt f_heldCount f_lineTotal f_codeLength f_dividedByZero f_status f_stopLine f_steps f_position f_outputCount f_gosubCount f_frameCount : Int32} {a_source a_tokens a_held a_programOrder a_lineNumber a_lineKeyword a_lineVariable a_lineRelation a_code a_codeStart a_codeEnd a_operands a_variables a_output a_returnTo a_frameVariable a_frameLimit a_frameBody : Nat → Int32} {post : Int32 → St2 → Prop} {l p cl : Nat}
theorem xx_end (hl16 : l < 16) (hlk : a_lineKeyword l = 40111) (hp : post 1 (f_gosubDepth, f_forDepth, f_outCap, f_sourceLength, f_compiled, f_errorLine, f_tokenCount, f_tokenAt, f_heldCount, f_lineTotal, f_codeLength, 0, f_status, f_stopLine, f_steps, f_position, f_outputCount, f_gosubCount, f_frameCount, a_source, a_tokens, a_held, a_programOrder, a_lineNumber, a_lineKeyword, a_lineVariable, a_lineRelation, a_code, a_codeStart, a_codeEnd, a_operands, a_variables, a_output, a_returnTo, a_frameVariable, a_frameLimit, a_frameBody)) : wpX_execute post (f_gosubDepth, f_forDepth, f_outCap, f_sourceLength, f_compiled, f_errorLine, f_tokenCount, f_tokenAt, f_heldCount, f_lineTotal, f_codeLength, f_dividedByZero, f_status, f_stopLine, f_steps, f_position, f_outputCount, f_gosubCount, f_frameCount, a_source, a_tokens, a_held, a_programOrder, a_lineNumber, a_lineKeyword, a_lineVariable, a_lineRelation, a_code, a_codeStart, a_codeEnd, a_operands, a_variables, a_output, a_returnTo, a_frameVariable, a_frameLimit, a_frameBody) (nI l) := by
  refine ⟨vp_in_nI hl16 (by omega), nm_r (e' := 40111) (by rw [nI_clamp (by omega)]; exact hlk) (br_f (by decide) (br_t (by decide) ?_))⟩
  exact hp
theorem xx_letS {w : Nat} {c : List Nat} (hl16 : l < 16) (hlk : a_lineKeyword l = 40101) (hlv : a_lineVariable l = nI w) (hw : w < 26) (hx : tb_xd a_variables a_code a_codeStart a_codeEnd cl (l * 3) c)
    (hz : (tb_ev a_variables c ([], false)).2 = true → ∀ ops, post 6 (f_gosubDepth, f_forDepth, f_outCap, f_sourceLength, f_compiled, f_errorLine, f_tokenCount, f_tokenAt, f_heldCount, f_lineTotal, f_codeLength, 1, f_status, f_stopLine, f_steps, nI p, f_outputCount, f_gosubCount, f_frameCount, a_source, a_tokens, a_held, a_programOrder, a_lineNumber, a_lineKeyword, a_lineVariable, a_lineRelation, a_code, a_codeStart, a_codeEnd, ops, a_variables, a_output, a_returnTo, a_frameVariable, a_frameLimit, a_frameBody))
    (hg : ∀ v, tb_ev a_variables c ([], false) = ([v], false) → ∀ ops, post 0 (f_gosubDepth, f_forDepth, f_outCap, f_sourceLength, f_compiled, f_errorLine, f_tokenCount, f_tokenAt, f_heldCount, f_lineTotal, f_codeLength, 0, f_status, f_stopLine, f_steps, nI (p + 1), f_outputCount, f_gosubCount, f_frameCount, a_source, a_tokens, a_held, a_programOrder, a_lineNumber, a_lineKeyword, a_lineVariable, a_lineRelation, a_code, a_codeStart, a_codeEnd, ops, upd a_variables w v, a_output, a_returnTo, a_frameVariable, a_frameLimit, a_frameBody)) : wpX_execute post (f_gosubDepth, f_forDepth, f_outCap, f_sourceLength, f_compiled, f_errorLine, f_tokenCount, f_tokenAt, f_heldCount, f_lineTotal, f_codeLength, f_dividedByZero, f_status, f_stopLine, f_steps, nI p, f_outputCount, f_gosubCount, f_frameCount, a_source, a_tokens, a_held, a_programOrder, a_lineNumber, a_lineKeyword, a_lineVariable, a_lineRelation, a_code, a_codeStart, a_codeEnd, a_operands, a_variables, a_output, a_returnTo, a_frameVariable, a_frameLimit, a_frameBody) (nI l) := by
  obtain ⟨x1, x2, x3, x4, x5⟩ := hx
  refine ⟨vp_in_nI hl16 (by omega), nm_r (e' := 40101) (by rw [nI_clamp (by omega)]; exact hlk) (br_f (by decide) (br_f (by decide) (br_t rfl ?_)))⟩
  unfold wpX_executeLet
  dsimp only
  have r1 : a_lineVariable (nI l).toNatClampNeg = nI w := by rw [nI_clamp (by omega)]; exact hlv
  have r2 : ∀ v, upd a_variables (a_lineVariable (nI l).toNatClampNeg).toNatClampNeg v = upd a_variables w v := fun v => by rw [r1, nI_clamp (by omega)]
  refine xx_eval (pk_mul l 3) (by omega) x1 x2 x3 x4 x5 (fun q r ops => br_f tb_10 (hz q ops)) (fun v q ops => br_t rfl ⟨vp_in_nI hl16 (by omega), pk_in w 26 hw r1, nm_r (r2 v) (nm_r (nI_1 p) (hg v q ops))⟩)
theorem xx_print {c : List Nat} {ou oc : Nat} (hl16 : l < 16) (hlk : a_lineKeyword l = 40102) (hou : ou ≤ oc) (hoc : oc ≤ 32) (hx : tb_xd a_variables a_code a_codeStart a_codeEnd cl (l * 3) c)
    (hz : (tb_ev a_variables c ([], false)).2 = true → ∀ ops, post 6 (f_gosubDepth, f_forDepth, nI oc, f_sourceLength, f_compiled, f_errorLine, f_tokenCount, f_tokenAt, f_heldCount, f_lineTotal, f_codeLength, 1, f_status, f_stopLine, f_steps, nI p, nI ou, f_gosubCount, f_frameCount, a_source, a_tokens, a_held, a_programOrder, a_lineNumber, a_lineKeyword, a_lineVariable, a_lineRelation, a_code, a_codeStart, a_codeEnd, ops, a_variables, a_output, a_returnTo, a_frameVariable, a_frameLimit, a_frameBody))
    (hf : ∀ v, tb_ev a_variables c ([], false) = ([v], false) → oc ≤ ou → ∀ ops, post 9 (f_gosubDepth, f_forDepth, nI oc, f_sourceLength, f_compiled, f_errorLine, f_tokenCount, f_tokenAt, f_heldCount, f_lineTotal, f_codeLength, 0, f_status, f_stopLine, f_steps, nI p, nI ou, f_gosubCount, f_frameCount, a_source, a_tokens, a_held, a_programOrder, a_lineNumber, a_lineKeyword, a_lineVariable, a_lineRelation, a_code, a_codeStart, a_codeEnd, ops, a_variables, a_output, a_returnTo, a_frameVariable, a_frameLimit, a_frameBody))
    (hg : ∀ v, tb_ev a_variables c ([], false) = ([v], false) → ou < oc → ∀ ops, post 0 (f_gosubDepth, f_forDepth, nI oc, f_sourceLength, f_compiled, f_errorLine, f_tokenCount, f_tokenAt, f_heldCount, f_lineTotal, f_codeLength, 0, f_status, f_stopLine, f_steps, nI (p + 1), nI (ou + 1), f_gosubCount, f_frameCount, a_source, a_tokens, a_held, a_programOrder, a_lineNumber, a_lineKeyword, a_lineVariable, a_lineRelation, a_code, a_codeStart, a_codeEnd, ops, a_variables, upd a_output ou v, a_returnTo, a_frameVariable, a_frameLimit, a_frameBody)) : wpX_execute post (f_gosubDepth, f_forDepth, nI oc, f_sourceLength, f_compiled, f_errorLine, f_tokenCount, f_tokenAt, f_heldCount, f_lineTotal, f_codeLength, f_dividedByZero, f_status, f_stopLine, f_steps, nI p, nI ou, f_gosubCount, f_frameCount, a_source, a_tokens, a_held, a_programOrder, a_lineNumber, a_lineKeyword, a_lineVariable, a_lineRelation, a_code, a_codeStart, a_codeEnd, a_operands, a_variables, a_output, a_returnTo, a_frameVariable, a_frameLimit, a_frameBody) (nI l) := by
  obtain ⟨x1, x2, x3, x4, x5⟩ := hx
  refine ⟨vp_in_nI hl16 (by omega), nm_r (e' := 40102) (by rw [nI_clamp (by omega)]; exact hlk) (br_f (by decide) (br_f (by decide) (br_f (by decide) (br_t rfl ?_))))⟩
  unfold wpX_executePrint
  dsimp only
  refine xx_eval (pk_mul l 3) (by omega) x1 x2 x3 x4 x5 (fun q r ops => br_f tb_10 (hz q ops)) (fun v q ops => br_t rfl (pk_lt ou oc (fun y => ⟨vp_in_nI (by omega) (by omega), nm_r (e' := upd a_output ou v) (by rw [nI_clamp (by omega)]) (nm_r (nI_1 ou) (nm_r (nI_1 p) (hg v q y ops)))⟩) (fun y => hf v q y ops)))
end
section
variable {f_gosubDepth f_forDepth f_outCap f_sourceLength f_compiled f_errorLine f_tokenCount f_tokenAt f_heldCount f_codeLength f_dividedByZero f_status f_stopLine f_steps f_position f_outputCount f_gosubCount f_frameCount : Int32} {a_source a_tokens a_held a_programOrder a_lineNumber a_lineKeyword a_lineVariable a_lineRelation a_code a_codeStart a_codeEnd a_operands a_variables a_output a_returnTo a_frameVariable a_frameLimit a_frameBody : Nat → Int32} {post : Int32 → St2 → Prop} {l p cl nl : Nat} {O N : Nat → Nat} {yn : Nat → Int32}
theorem xx_jump {v : Int32} (ho : tb_ord nl O N a_programOrder a_lineNumber yn)
    (hf : (∀ q, q < nl → v ≠ nI (N (O q))) → post 3 (f_gosubDepth, f_forDepth, f_outCap, f_sourceLength, f_compiled, f_errorLine, f_tokenCount, f_tokenAt, f_heldCount, nI nl, f_codeLength, 0, f_status, f_stopLine, f_steps, f_position, f_outputCount, f_gosubCount, f_frameCount, a_source, a_tokens, a_held, a_programOrder, a_lineNumber, a_lineKeyword, a_lineVariable, a_lineRelation, a_code, a_codeStart, a_codeEnd, a_operands, a_variables, a_output, a_returnTo, a_frameVariable, a_frameLimit, a_frameBody))
    (hg : ∀ q, q < nl → v = nI (N (O q)) → post 0 (f_gosubDepth, f_forDepth, f_outCap, f_sourceLength, f_compiled, f_errorLine, f_tokenCount, f_tokenAt, f_heldCount, nI nl, f_codeLength, 0, f_status, f_stopLine, f_steps, nI q, f_outputCount, f_gosubCount, f_frameCount, a_source, a_tokens, a_held, a_programOrder, a_lineNumber, a_lineKeyword, a_lineVariable, a_lineRelation, a_code, a_codeStart, a_codeEnd, a_operands, a_variables, a_output, a_returnTo, a_frameVariable, a_frameLimit, a_frameBody)) : wpX_jumpTo post (f_gosubDepth, f_forDepth, f_outCap, f_sourceLength, f_compiled, f_errorLine, f_tokenCount, f_tokenAt, f_heldCount, nI nl, f_codeLength, 0, f_status, f_stopLine, f_steps, f_position, f_outputCount, f_gosubCount, f_frameCount, a_source, a_tokens, a_held, a_programOrder, a_lineNumber, a_lineKeyword, a_lineVariable, a_lineRelation, a_code, a_codeStart, a_codeEnd, a_operands, a_variables, a_output, a_returnTo, a_frameVariable, a_frameLimit, a_frameBody) v := by
  have b16 := ho.1
  exact br_t rfl (xx_find ho (fun q q1 q2 => br_f (tb_nm1 (by omega)) (hg q q1 q2)) (fun q => br_t rfl (hf q)))
theorem xx_goto {c : List Nat} (hl16 : l < 16) (hlk : a_lineKeyword l = 40105) (ho : tb_ord nl O N a_programOrder a_lineNumber yn) (hx : tb_xd a_variables a_code a_codeStart a_codeEnd cl (l * 3) c)
    (hz : (tb_ev a_variables c ([], false)).2 = true → ∀ ops, post 6 (f_gosubDepth, f_forDepth, f_outCap, f_sourceLength, f_compiled, f_errorLine, f_tokenCount, f_tokenAt, f_heldCount, nI nl, f_codeLength, 1, f_status, f_stopLine, f_steps, f_position, f_outputCount, f_gosubCount, f_frameCount, a_source, a_tokens, a_held, a_programOrder, a_lineNumber, a_lineKeyword, a_lineVariable, a_lineRelation, a_code, a_codeStart, a_codeEnd, ops, a_variables, a_output, a_returnTo, a_frameVariable, a_frameLimit, a_frameBody))
    (hf : ∀ v, tb_ev a_variables c ([], false) = ([v], false) → (∀ q, q < nl → v ≠ nI (N (O q))) → ∀ ops, post 3 (f_gosubDepth, f_forDepth, f_outCap, f_sourceLength, f_compiled, f_errorLine, f_tokenCount, f_tokenAt, f_heldCount, nI nl, f_codeLength, 0, f_status, f_stopLine, f_steps, f_position, f_outputCount, f_gosubCount, f_frameCount, a_source, a_tokens, a_held, a_programOrder, a_lineNumber, a_lineKeyword, a_lineVariable, a_lineRelation, a_code, a_codeStart, a_codeEnd, ops, a_variables, a_output, a_returnTo, a_frameVariable, a_frameLimit, a_frameBody))
    (hg : ∀ v, tb_ev a_variables c ([], false) = ([v], false) → ∀ q, q < nl → v = nI (N (O q)) → ∀ ops, post 0 (f_gosubDepth, f_forDepth, f_outCap, f_sourceLength, f_compiled, f_errorLine, f_tokenCount, f_tokenAt, f_heldCount, nI nl, f_codeLength, 0, f_status, f_stopLine, f_steps, nI q, f_outputCount, f_gosubCount, f_frameCount, a_source, a_tokens, a_held, a_programOrder, a_lineNumber, a_lineKeyword, a_lineVariable, a_lineRelation, a_code, a_codeStart, a_codeEnd, ops, a_variables, a_output, a_returnTo, a_frameVariable, a_frameLimit, a_frameBody)) : wpX_execute post (f_gosubDepth, f_forDepth, f_outCap, f_sourceLength, f_compiled, f_errorLine, f_tokenCount, f_tokenAt, f_heldCount, nI nl, f_codeLength, f_dividedByZero, f_status, f_stopLine, f_steps, f_position, f_outputCount, f_gosubCount, f_frameCount, a_source, a_tokens, a_held, a_programOrder, a_lineNumber, a_lineKeyword, a_lineVariable, a_lineRelation, a_code, a_codeStart, a_codeEnd, a_operands, a_variables, a_output, a_returnTo, a_frameVariable, a_frameLimit, a_frameBody) (nI l) := by
  obtain ⟨x1, x2, x3, x4, x5⟩ := hx
  refine ⟨vp_in_nI hl16 (by omega), nm_r (e' := 40105) (by rw [nI_clamp (by omega)]; exact hlk) (br_f (by decide) (br_f (by decide) (br_f (by decide) (br_f (by decide) (br_f (by decide) (br_f (by decide) (br_t rfl ?_)))))))⟩
  unfold wpX_executeGoto
  dsimp only
  refine xx_eval (pk_mul l 3) (by omega) x1 x2 x3 x4 x5 (fun q r ops => br_f tb_10 (hz q ops)) (fun v q ops => xx_jump ho (fun y => hf v q y ops) (fun r r1 r2 => hg v q r r1 r2 ops))
theorem xx_gosub {c : List Nat} {g gc : Nat} (hl16 : l < 16) (hlk : a_lineKeyword l = 40106) (ho : tb_ord nl O N a_programOrder a_lineNumber yn) (hgc : gc ≤ g) (hg8 : g ≤ 8) (hx : tb_xd a_variables a_code a_codeStart a_codeEnd cl (l * 3) c)
    (hz : (tb_ev a_variables c ([], false)).2 = true → ∀ ops, post 6 (nI g, f_forDepth, f_outCap, f_sourceLength, f_compiled, f_errorLine, f_tokenCount, f_tokenAt, f_heldCount, nI nl, f_codeLength, 1, f_status, f_stopLine, f_steps, nI p, f_outputCount, nI gc, f_frameCount, a_source, a_tokens, a_held, a_programOrder, a_lineNumber, a_lineKeyword, a_lineVariable, a_lineRelation, a_code, a_codeStart, a_codeEnd, ops, a_variables, a_output, a_returnTo, a_frameVariable, a_frameLimit, a_frameBody))
    (hf : ∀ v, tb_ev a_variables c ([], false) = ([v], false) → (∀ q, q < nl → v ≠ nI (N (O q))) → ∀ ops, post 3 (nI g, f_forDepth, f_outCap, f_sourceLength, f_compiled, f_errorLine, f_tokenCount, f_tokenAt, f_heldCount, nI nl, f_codeLength, 0, f_status, f_stopLine, f_steps, nI p, f_outputCount, nI gc, f_frameCount, a_source, a_tokens, a_held, a_programOrder, a_lineNumber, a_lineKeyword, a_lineVariable, a_lineRelation, a_code, a_codeStart, a_codeEnd, ops, a_variables, a_output, a_returnTo, a_frameVariable, a_frameLimit, a_frameBody))
    (hv : ∀ v, tb_ev a_variables c ([], false) = ([v], false) → ∀ q, q < nl → v = nI (N (O q)) → g ≤ gc → ∀ ops, post 7 (nI g, f_forDepth, f_outCap, f_sourceLength, f_compiled, f_errorLine, f_tokenCount, f_tokenAt, f_heldCount, nI nl, f_codeLength, 0, f_status, f_stopLine, f_steps, nI p, f_outputCount, nI gc, f_frameCount, a_source, a_tokens, a_held, a_programOrder, a_lineNumber, a_lineKeyword, a_lineVariable, a_lineRelation, a_code, a_codeStart, a_codeEnd, ops, a_variables, a_output, a_returnTo, a_frameVariable, a_frameLimit, a_frameBody))
    (hg : ∀ v, tb_ev a_variables c ([], false) = ([v], false) → ∀ q, q < nl → v = nI (N (O q)) → gc < g → ∀ ops, post 0 (nI g, f_forDepth, f_outCap, f_sourceLength, f_compiled, f_errorLine, f_tokenCount, f_tokenAt, f_heldCount, nI nl, f_codeLength, 0, f_status, f_stopLine, f_steps, nI q, f_outputCount, nI (gc + 1), f_frameCount, a_source, a_tokens, a_held, a_programOrder, a_lineNumber, a_lineKeyword, a_lineVariable, a_lineRelation, a_code, a_codeStart, a_codeEnd, ops, a_variables, a_output, upd a_returnTo gc (nI (p + 1)), a_frameVariable, a_frameLimit, a_frameBody)) : wpX_execute post (nI g, f_forDepth, f_outCap, f_sourceLength, f_compiled, f_errorLine, f_tokenCount, f_tokenAt, f_heldCount, nI nl, f_codeLength, f_dividedByZero, f_status, f_stopLine, f_steps, nI p, f_outputCount, nI gc, f_frameCount, a_source, a_tokens, a_held, a_programOrder, a_lineNumber, a_lineKeyword, a_lineVariable, a_lineRelation, a_code, a_codeStart, a_codeEnd, a_operands, a_variables, a_output, a_returnTo, a_frameVariable, a_frameLimit, a_frameBody) (nI l) := by
  obtain ⟨x1, x2, x3, x4, x5⟩ := hx
  have b16 := ho.1
  refine ⟨vp_in_nI hl16 (by omega), nm_r (e' := 40106) (by rw [nI_clamp (by omega)]; exact hlk) (br_f (by decide) (br_f (by decide) (br_f (by decide) (br_f (by decide) (br_f (by decide) (br_f (by decide) (br_f (by decide) (br_t rfl ?_))))))))⟩
  unfold wpX_executeGosub
  dsimp only
  refine xx_eval (pk_mul l 3) (by omega) x1 x2 x3 x4 x5 (fun q r ops => br_f tb_10 (hz q ops)) (fun v q ops => br_t rfl (xx_find ho (fun r r1 r2 => br_f (tb_nm1 (by omega)) (pk_lt gc g (fun y => ⟨vp_in_nI (by omega) (by omega), nm_r (e' := upd a_returnTo gc (nI (p + 1))) (by rw [nI_clamp (by omega), nI_1]) (nm_r (nI_1 gc) (hg v q r r1 r2 y ops))⟩) (fun y => hv v q r r1 r2 y ops))) (fun r => br_t rfl (hf v q r ops))))
theorem xx_if {c1 c2 c3 : List Nat} {t : Nat} (hl16 : l < 16) (hlk : a_lineKeyword l = 40103) (hlr : a_lineRelation l = nI t) (ht : tb_ir t) (ho : tb_ord nl O N a_programOrder a_lineNumber yn) (hx1 : tb_xd a_variables a_code a_codeStart a_codeEnd cl (l * 3) c1) (hx2 : tb_xd a_variables a_code a_codeStart a_codeEnd cl (l * 3 + 1) c2) (hx3 : tb_xd a_variables a_code a_codeStart a_codeEnd cl (l * 3 + 2) c3)
    (hz : ((tb_ev a_variables c1 ([], false)).2 = true ∨ (tb_ev a_variables c2 ([], false)).2 = true) → ∀ ops, post 6 (f_gosubDepth, f_forDepth, f_outCap, f_sourceLength, f_compiled, f_errorLine, f_tokenCount, f_tokenAt, f_heldCount, nI nl, f_codeLength, 1, f_status, f_stopLine, f_steps, nI p, f_outputCount, f_gosubCount, f_frameCount, a_source, a_tokens, a_held, a_programOrder, a_lineNumber, a_lineKeyword, a_lineVariable, a_lineRelation, a_code, a_codeStart, a_codeEnd, ops, a_variables, a_output, a_returnTo, a_frameVariable, a_frameLimit, a_frameBody))
    (hn : ∀ a b, tb_ev a_variables c1 ([], false) = ([a], false) → tb_ev a_variables c2 ([], false) = ([b], false) → ¬ tb_hd t a b → ∀ ops, post 0 (f_gosubDepth, f_forDepth, f_outCap, f_sourceLength, f_compiled, f_errorLine, f_tokenCount, f_tokenAt, f_heldCount, nI nl, f_codeLength, 0, f_status, f_stopLine, f_steps, nI (p + 1), f_outputCount, f_gosubCount, f_frameCount, a_source, a_tokens, a_held, a_programOrder, a_lineNumber, a_lineKeyword, a_lineVariable, a_lineRelation, a_code, a_codeStart, a_codeEnd, ops, a_variables, a_output, a_returnTo, a_frameVariable, a_frameLimit, a_frameBody))
    (hz3 : ∀ a b, tb_ev a_variables c1 ([], false) = ([a], false) → tb_ev a_variables c2 ([], false) = ([b], false) → tb_hd t a b → (tb_ev a_variables c3 ([], false)).2 = true → ∀ ops, post 6 (f_gosubDepth, f_forDepth, f_outCap, f_sourceLength, f_compiled, f_errorLine, f_tokenCount, f_tokenAt, f_heldCount, nI nl, f_codeLength, 1, f_status, f_stopLine, f_steps, nI p, f_outputCount, f_gosubCount, f_frameCount, a_source, a_tokens, a_held, a_programOrder, a_lineNumber, a_lineKeyword, a_lineVariable, a_lineRelation, a_code, a_codeStart, a_codeEnd, ops, a_variables, a_output, a_returnTo, a_frameVariable, a_frameLimit, a_frameBody))
    (hf : ∀ a b v, tb_ev a_variables c1 ([], false) = ([a], false) → tb_ev a_variables c2 ([], false) = ([b], false) → tb_hd t a b → tb_ev a_variables c3 ([], false) = ([v], false) → (∀ q, q < nl → v ≠ nI (N (O q))) → ∀ ops, post 3 (f_gosubDepth, f_forDepth, f_outCap, f_sourceLength, f_compiled, f_errorLine, f_tokenCount, f_tokenAt, f_heldCount, nI nl, f_codeLength, 0, f_status, f_stopLine, f_steps, nI p, f_outputCount, f_gosubCount, f_frameCount, a_source, a_tokens, a_held, a_programOrder, a_lineNumber, a_lineKeyword, a_lineVariable, a_lineRelation, a_code, a_codeStart, a_codeEnd, ops, a_variables, a_output, a_returnTo, a_frameVariable, a_frameLimit, a_frameBody))
    (hg : ∀ a b v, tb_ev a_variables c1 ([], false) = ([a], false) → tb_ev a_variables c2 ([], false) = ([b], false) → tb_hd t a b → tb_ev a_variables c3 ([], false) = ([v], false) → ∀ q, q < nl → v = nI (N (O q)) → ∀ ops, post 0 (f_gosubDepth, f_forDepth, f_outCap, f_sourceLength, f_compiled, f_errorLine, f_tokenCount, f_tokenAt, f_heldCount, nI nl, f_codeLength, 0, f_status, f_stopLine, f_steps, nI q, f_outputCount, f_gosubCount, f_frameCount, a_source, a_tokens, a_held, a_programOrder, a_lineNumber, a_lineKeyword, a_lineVariable, a_lineRelation, a_code, a_codeStart, a_codeEnd, ops, a_variables, a_output, a_returnTo, a_frameVariable, a_frameLimit, a_frameBody)) : wpX_execute post (f_gosubDepth, f_forDepth, f_outCap, f_sourceLength, f_compiled, f_errorLine, f_tokenCount, f_tokenAt, f_heldCount, nI nl, f_codeLength, f_dividedByZero, f_status, f_stopLine, f_steps, nI p, f_outputCount, f_gosubCount, f_frameCount, a_source, a_tokens, a_held, a_programOrder, a_lineNumber, a_lineKeyword, a_lineVariable, a_lineRelation, a_code, a_codeStart, a_codeEnd, a_operands, a_variables, a_output, a_returnTo, a_frameVariable, a_frameLimit, a_frameBody) (nI l) := by
  obtain ⟨x1, x2, x3, x4, x5⟩ := hx1
  obtain ⟨y1, y2, y3, y4, y5⟩ := hx2
  obtain ⟨w1, w2, w3, w4, w5⟩ := hx3
  refine ⟨vp_in_nI hl16 (by omega), nm_r (e' := 40103) (by rw [nI_clamp (by omega)]; exact hlk) (br_f (by decide) (br_f (by decide) (br_f (by decide) (br_f (by decide) (br_t rfl ?_)))))⟩
  unfold wpX_executeIf
  dsimp only
  refine nm_r (e' := nI (l * 3)) (pk_mul l 3) ?_
  refine xx_eval rfl (by omega) x1 x2 x3 x4 x5 (fun q r ops => xx_eval1 (nI_1 (l * 3)) (by omega) y2 (fun r2 => br_f tb_10 (hz (Or.inl q) ops))) (fun a qa ops => ?_)
  refine xx_eval (nI_1 (l * 3)) (by omega) y1 y2 y3 y4 y5 (fun q r ops => br_f tb_10 (hz (Or.inr q) ops)) (fun b qb ops => br_t rfl ⟨vp_in_nI hl16 (by omega), ?_⟩)
  have r1 : a_lineRelation (nI l).toNatClampNeg = nI t := by rw [nI_clamp (by omega)]; exact hlr
  refine xx_holds r1 ht (fun h => br_f tb_10 ?_) (fun h => br_t rfl (nm_r (nI_1 p) (hn a b qa qb h ops)))
  refine xx_eval (nI_add (l * 3) 2) (by omega) w1 w2 w3 w4 w5 (fun q r ops => br_f tb_10 (hz3 a b qa qb h q ops)) (fun v qv ops => xx_jump ho (fun y => hf a b v qa qb h qv y ops) (fun r r1 r2 => hg a b v qa qb h qv r r1 r2 ops))
end
section
variable {f_gosubDepth f_forDepth f_outCap f_sourceLength f_compiled f_errorLine f_tokenCount f_tokenAt f_heldCount f_lineTotal f_codeLength f_dividedByZero f_status f_stopLine f_steps f_position f_outputCount f_gosubCount f_frameCount : Int32} {a_source a_tokens a_held a_programOrder a_lineNumber a_lineKeyword a_lineVariable a_lineRelation a_code a_codeStart a_codeEnd a_operands a_variables a_output a_returnTo a_frameVariable a_frameLimit a_frameBody : Nat → Int32} {post : Int32 → St2 → Prop} {l p cl : Nat}
theorem xx_return {gc : Nat} (hl16 : l < 16) (hlk : a_lineKeyword l = 40107) (hgc : gc ≤ 8)
    (hf : gc = 0 → post 4 (f_gosubDepth, f_forDepth, f_outCap, f_sourceLength, f_compiled, f_errorLine, f_tokenCount, f_tokenAt, f_heldCount, f_lineTotal, f_codeLength, 0, f_status, f_stopLine, f_steps, f_position, f_outputCount, nI gc, f_frameCount, a_source, a_tokens, a_held, a_programOrder, a_lineNumber, a_lineKeyword, a_lineVariable, a_lineRelation, a_code, a_codeStart, a_codeEnd, a_operands, a_variables, a_output, a_returnTo, a_frameVariable, a_frameLimit, a_frameBody))
    (hg : ∀ j, gc = j + 1 → post 0 (f_gosubDepth, f_forDepth, f_outCap, f_sourceLength, f_compiled, f_errorLine, f_tokenCount, f_tokenAt, f_heldCount, f_lineTotal, f_codeLength, 0, f_status, f_stopLine, f_steps, a_returnTo j, f_outputCount, nI j, f_frameCount, a_source, a_tokens, a_held, a_programOrder, a_lineNumber, a_lineKeyword, a_lineVariable, a_lineRelation, a_code, a_codeStart, a_codeEnd, a_operands, a_variables, a_output, a_returnTo, a_frameVariable, a_frameLimit, a_frameBody)) : wpX_execute post (f_gosubDepth, f_forDepth, f_outCap, f_sourceLength, f_compiled, f_errorLine, f_tokenCount, f_tokenAt, f_heldCount, f_lineTotal, f_codeLength, f_dividedByZero, f_status, f_stopLine, f_steps, f_position, f_outputCount, nI gc, f_frameCount, a_source, a_tokens, a_held, a_programOrder, a_lineNumber, a_lineKeyword, a_lineVariable, a_lineRelation, a_code, a_codeStart, a_codeEnd, a_operands, a_variables, a_output, a_returnTo, a_frameVariable, a_frameLimit, a_frameBody) (nI l) := by
  refine ⟨vp_in_nI hl16 (by omega), nm_r (e' := 40107) (by rw [nI_clamp (by omega)]; exact hlk) (br_f (by decide) (br_f (by decide) (br_f (by decide) (br_f (by decide) (br_f (by decide) (br_f (by decide) (br_f (by decide) (br_f (by decide) (br_t rfl ?_)))))))))⟩
  unfold wpX_executeReturn
  dsimp only
  cases gc with
  | zero => exact br_t rfl (hf rfl)
  | succ j => exact br_f (nI_ne0 (by omega) (by omega)) (nm_r (nI_pred j) ⟨vp_in_nI (by omega) (by omega), nm_r (e' := a_returnTo j) (by rw [nI_clamp (by omega)]) (hg j rfl)⟩)
theorem xx_nextS {w fc : Nat} (hl16 : l < 16) (hlk : a_lineKeyword l = 40110) (hlv : a_lineVariable l = nI w) (hw : w < 26) (hfc : fc ≤ 8)
    (hf : (∀ j, j < fc → a_frameVariable j ≠ nI w) → post 5 (f_gosubDepth, f_forDepth, f_outCap, f_sourceLength, f_compiled, f_errorLine, f_tokenCount, f_tokenAt, f_heldCount, f_lineTotal, f_codeLength, 0, f_status, f_stopLine, f_steps, nI p, f_outputCount, f_gosubCount, nI fc, a_source, a_tokens, a_held, a_programOrder, a_lineNumber, a_lineKeyword, a_lineVariable, a_lineRelation, a_code, a_codeStart, a_codeEnd, a_operands, a_variables, a_output, a_returnTo, a_frameVariable, a_frameLimit, a_frameBody))
    (hg : ∀ j, j < fc → a_frameVariable j = nI w → a_frameLimit j < a_variables w + 1 → post 0 (f_gosubDepth, f_forDepth, f_outCap, f_sourceLength, f_compiled, f_errorLine, f_tokenCount, f_tokenAt, f_heldCount, f_lineTotal, f_codeLength, 0, f_status, f_stopLine, f_steps, nI (p + 1), f_outputCount, f_gosubCount, nI j, a_source, a_tokens, a_held, a_programOrder, a_lineNumber, a_lineKeyword, a_lineVariable, a_lineRelation, a_code, a_codeStart, a_codeEnd, a_operands, upd a_variables w (a_variables w + 1), a_output, a_returnTo, a_frameVariable, a_frameLimit, a_frameBody))
    (hb : ∀ j, j < fc → a_frameVariable j = nI w → ¬ a_frameLimit j < a_variables w + 1 → post 0 (f_gosubDepth, f_forDepth, f_outCap, f_sourceLength, f_compiled, f_errorLine, f_tokenCount, f_tokenAt, f_heldCount, f_lineTotal, f_codeLength, 0, f_status, f_stopLine, f_steps, a_frameBody j, f_outputCount, f_gosubCount, nI (j + 1), a_source, a_tokens, a_held, a_programOrder, a_lineNumber, a_lineKeyword, a_lineVariable, a_lineRelation, a_code, a_codeStart, a_codeEnd, a_operands, upd a_variables w (a_variables w + 1), a_output, a_returnTo, a_frameVariable, a_frameLimit, a_frameBody)) : wpX_execute post (f_gosubDepth, f_forDepth, f_outCap, f_sourceLength, f_compiled, f_errorLine, f_tokenCount, f_tokenAt, f_heldCount, f_lineTotal, f_codeLength, f_dividedByZero, f_status, f_stopLine, f_steps, nI p, f_outputCount, f_gosubCount, nI fc, a_source, a_tokens, a_held, a_programOrder, a_lineNumber, a_lineKeyword, a_lineVariable, a_lineRelation, a_code, a_codeStart, a_codeEnd, a_operands, a_variables, a_output, a_returnTo, a_frameVariable, a_frameLimit, a_frameBody) (nI l) := by
  have r1 : a_lineVariable (nI l).toNatClampNeg = nI w := by rw [nI_clamp (by omega)]; exact hlv
  refine ⟨vp_in_nI hl16 (by omega), nm_r (e' := 40110) (by rw [nI_clamp (by omega)]; exact hlk) (br_f (by decide) (br_f (by decide) (br_f (by decide) (br_f (by decide) (br_f (by decide) (br_f (by decide) (br_f (by decide) (br_f (by decide) (br_f (by decide) (br_f (by decide) (br_f (by decide) (br_t rfl ?_))))))))))))⟩
  unfold wpX_executeNext
  dsimp only
  have v26 : vp_in (nI w) 26 := vp_in_nI hw (by omega)
  refine ⟨vp_in_nI hl16 (by omega), nm_r r1 (xx_frame hfc (fun j j1 j2 => br_f (tb_nm1 (by omega)) ⟨v26, v26, nm_r (e' := upd a_variables w (a_variables w + 1)) (by rw [nI_clamp (by omega)]) ⟨v26, vp_in_nI (by omega) (by omega), ?_⟩⟩) (fun q => br_t rfl (hf q)))⟩
  rw [nI_clamp (by omega), nI_clamp (by omega), pk_us]
  exact br_c (fun z => nm_r (nI_1 p) (hg j j1 j2 z)) (fun z => nm_r (nI_1 j) ⟨vp_in_nI (by omega) (by omega), nm_e (hb j j1 j2 z)⟩)
theorem xx_for {w fc fd : Nat} {c1 c2 : List Nat} (hl16 : l < 16) (hlk : a_lineKeyword l = 40108) (hlv : a_lineVariable l = nI w) (hw : w < 26) (hfc : fc ≤ fd) (hfd : fd ≤ 8) (hx1 : tb_xd a_variables a_code a_codeStart a_codeEnd cl (l * 3) c1) (hx2 : tb_xd a_variables a_code a_codeStart a_codeEnd cl (l * 3 + 1) c2)
    (hz : ((tb_ev a_variables c1 ([], false)).2 = true ∨ (tb_ev a_variables c2 ([], false)).2 = true) → ∀ ops, post 6 (f_gosubDepth, nI fd, f_outCap, f_sourceLength, f_compiled, f_errorLine, f_tokenCount, f_tokenAt, f_heldCount, f_lineTotal, f_codeLength, 1, f_status, f_stopLine, f_steps, nI p, f_outputCount, f_gosubCount, nI fc, a_source, a_tokens, a_held, a_programOrder, a_lineNumber, a_lineKeyword, a_lineVariable, a_lineRelation, a_code, a_codeStart, a_codeEnd, ops, a_variables, a_output, a_returnTo, a_frameVariable, a_frameLimit, a_frameBody))
    (hv : ∀ a b kk, tb_ev a_variables c1 ([], false) = ([a], false) → tb_ev a_variables c2 ([], false) = ([b], false) → tb_fk a_frameVariable fc w kk → fd ≤ kk → ∀ ops, post 8 (f_gosubDepth, nI fd, f_outCap, f_sourceLength, f_compiled, f_errorLine, f_tokenCount, f_tokenAt, f_heldCount, f_lineTotal, f_codeLength, 0, f_status, f_stopLine, f_steps, nI p, f_outputCount, f_gosubCount, nI fc, a_source, a_tokens, a_held, a_programOrder, a_lineNumber, a_lineKeyword, a_lineVariable, a_lineRelation, a_code, a_codeStart, a_codeEnd, ops, a_variables, a_output, a_returnTo, a_frameVariable, a_frameLimit, a_frameBody))
    (hg : ∀ a b kk, tb_ev a_variables c1 ([], false) = ([a], false) → tb_ev a_variables c2 ([], false) = ([b], false) → tb_fk a_frameVariable fc w kk → kk < fd → ∀ ops, post 0 (f_gosubDepth, nI fd, f_outCap, f_sourceLength, f_compiled, f_errorLine, f_tokenCount, f_tokenAt, f_heldCount, f_lineTotal, f_codeLength, 0, f_status, f_stopLine, f_steps, nI (p + 1), f_outputCount, f_gosubCount, nI (kk + 1), a_source, a_tokens, a_held, a_programOrder, a_lineNumber, a_lineKeyword, a_lineVariable, a_lineRelation, a_code, a_codeStart, a_codeEnd, ops, upd a_variables w a, a_output, a_returnTo, upd a_frameVariable kk (nI w), upd a_frameLimit kk b, upd a_frameBody kk (nI (p + 1)))) : wpX_execute post (f_gosubDepth, nI fd, f_outCap, f_sourceLength, f_compiled, f_errorLine, f_tokenCount, f_tokenAt, f_heldCount, f_lineTotal, f_codeLength, f_dividedByZero, f_status, f_stopLine, f_steps, nI p, f_outputCount, f_gosubCount, nI fc, a_source, a_tokens, a_held, a_programOrder, a_lineNumber, a_lineKeyword, a_lineVariable, a_lineRelation, a_code, a_codeStart, a_codeEnd, a_operands, a_variables, a_output, a_returnTo, a_frameVariable, a_frameLimit, a_frameBody) (nI l) := by
  obtain ⟨x1, x2, x3, x4, x5⟩ := hx1
  obtain ⟨y1, y2, y3, y4, y5⟩ := hx2
  have r1 : a_lineVariable (nI l).toNatClampNeg = nI w := by rw [nI_clamp (by omega)]; exact hlv
  refine ⟨vp_in_nI hl16 (by omega), nm_r (e' := 40108) (by rw [nI_clamp (by omega)]; exact hlk) (br_f (by decide) (br_f (by decide) (br_f (by decide) (br_f (by decide) (br_f (by decide) (br_f (by decide) (br_f (by decide) (br_f (by decide) (br_f (by decide) (br_t rfl ?_))))))))))⟩
  unfold wpX_executeFor
  dsimp only
  refine nm_r (e' := nI (l * 3)) (pk_mul l 3) ?_
  refine xx_eval rfl (by omega) x1 x2 x3 x4 x5 (fun q r ops => xx_eval1 (nI_1 (l * 3)) (by omega) y2 (fun r2 => br_f tb_10 (hz (Or.inl q) ops))) (fun a qa ops0 => ?_)
  refine xx_eval (nI_1 (l * 3)) (by omega) y1 y2 y3 y4 y5 (fun q r ops => br_f tb_10 (hz (Or.inr q) ops)) (fun b qb ops => br_t rfl ⟨vp_in_nI hl16 (by omega), nm_r r1 ?_⟩)
  have S : ∀ kk, kk ≤ 8 → tb_fk a_frameVariable fc w kk → wX_executeFor_60 post a b (nI w) (nI kk) f_gosubDepth (nI fd) f_outCap f_sourceLength f_compiled f_errorLine f_tokenCount f_tokenAt f_heldCount f_lineTotal f_codeLength 0 f_status f_stopLine f_steps (nI p) f_outputCount f_gosubCount (nI fc) a_source a_tokens a_held a_programOrder a_lineNumber a_lineKeyword a_lineVariable a_lineRelation a_code a_codeStart a_codeEnd ops a_variables a_output a_returnTo a_frameVariable a_frameLimit a_frameBody := fun kk k8 hk =>
    pk_lt kk fd (fun z => ⟨vp_in_nI hw (by omega), nm_r (e' := upd a_variables w a) (by rw [nI_clamp (by omega)]) (nm_r (nI_1 p) ⟨vp_in_nI (by omega) (by omega), nm_r (by rw [nI_clamp (by omega)]) ⟨vp_in_nI (by omega) (by omega), nm_r (by rw [nI_clamp (by omega)]) ⟨vp_in_nI (by omega) (by omega), nm_r (by rw [nI_clamp (by omega)]) (nm_r (nI_1 kk) (hg a b kk qa qb hk z ops))⟩⟩⟩)⟩) (fun z => hv a b kk qa qb hk z ops)
  exact xx_frame (by omega) (fun j j1 j2 => br_f (tb_nm1 (by omega)) (S j (by omega) (Or.inl ⟨j1, j2⟩))) (fun q => br_t rfl (S fc (by omega) (Or.inr ⟨rfl, q⟩)))
end
end
section
/-! ===== compile, two objects line by line ===== -/
/-- the program as an object keeps it, against its picture: lines, order, numbers, tokens -/
def tb_pg0 (nl : Nat) (O N : Nat → Nat) (LL : Nat → List Nat) (po ln lk lv lr cd cs ce : Nat → Int32) (cl : Nat) : Prop :=
  tb_ord nl O N po ln ln ∧ ∀ l, l < nl → (LL l).length ≤ 40 ∧ (∀ t, t ∈ LL l → tb_ok t) ∧ tb_lo (LL l) l ln lk lv lr cd cs ce cl
theorem tb_pg0_0 {O N : Nat → Nat} {LL : Nat → List Nat} {po ln lk lv lr cd cs ce : Nat → Int32} {cl : Nat} : tb_pg0 0 O N LL po ln lk lv lr cd cs ce cl := ⟨tb_ord_0, fun l hl => by omega⟩
theorem tb_pg0_new {nl cl cl' s e q : Nat} {C O N : Nat → Nat} {LL : Nat → List Nat} {L : List Nat} {po ln lk lv lr cd cs ce po' ln' lk' lv' lr' cd' cs' ce' : Nat → Int32} (h : tb_pg0 nl O N LL po ln lk lv lr cd cs ce cl) (hq : tb_tz C e 40 s = some L)
    (d2 : ∀ yn', (∀ l, l < nl → yn' l = ln l) → yn' nl = nI (tb_T L 0) → tb_ord (nl + 1) (fun p => if p < q then O p else if p = q then nl else O (p - 1)) (fun l => if l < nl then N l else tb_T L 0) po' ln' yn')
    (d3 : ∀ l L', l < nl → tb_lo L' l ln lk lv lr cd cs ce cl → tb_lo L' l ln' lk' lv' lr' cd' cs' ce' cl') (d4 : tb_lo L nl ln' lk' lv' lr' cd' cs' ce' cl') (d5 : ∀ l, l < nl → ln' l = ln l) :
    tb_pg0 (nl + 1) (fun p => if p < q then O p else if p = q then nl else O (p - 1)) (fun l => if l < nl then N l else tb_T L 0) (fun l => if l < nl then LL l else L) po' ln' lk' lv' lr' cd' cs' ce' cl' := by
  refine ⟨d2 ln' d5 d4.2.2.2.1, fun l hl => ?_⟩
  dsimp only
  by_cases z : l < nl
  · rw [if_pos z]
    have ⟨a, b, c⟩ := h.2 l z
    exact ⟨a, b, d3 l _ z c⟩
  · have e1 : l = nl := by omega
    subst e1
    rw [if_neg z]
    have ⟨a, _, c⟩ := tb_tz_ok C e 40 s L hq
    exact ⟨a, c, d4⟩
section
variable {f_gosubDepth f_forDepth f_outCap f_dividedByZero f_status f_stopLine f_steps f_position f_outputCount f_gosubCount f_frameCount : Int32} {a_operands a_variables a_output a_returnTo a_frameVariable a_frameLimit a_frameBody : Nat → Int32} {g_gosubDepth g_forDepth g_outCap g_dividedByZero g_status g_stopLine g_steps g_position g_outputCount g_gosubCount g_frameCount : Int32} {b_operands b_variables b_output b_returnTo b_frameVariable b_frameLimit b_frameBody : Nat → Int32} {C : Nat → Nat} {n : Nat} {post : Int32 → St2 → Prop} {Z : (Int32 → St2 → Prop) → Prop}
theorem tb_comp (hC : ∀ j, C j < 127) (hn : n ≤ 256)
    (hE : ∀ (r : Int32) (k : Nat) (cl : Int32) (tc ta hc : Int32) (tk hd ln lk lv lr cd cs ce po : Nat → Int32), ¬ r = 0 → post r (f_gosubDepth, f_forDepth, f_outCap, nI n, 0, nI k, tc, ta, hc, 0, cl, f_dividedByZero, f_status, f_stopLine, f_steps, f_position, f_outputCount, f_gosubCount, f_frameCount, tb_S C, tk, hd, po, ln, lk, lv, lr, cd, cs, ce, a_operands, a_variables, a_output, a_returnTo, a_frameVariable, a_frameLimit, a_frameBody))
    (hG : ∀ (nl : Nat) (O N : Nat → Nat) (LL : Nat → List Nat) (cl : Nat) (tc ta hc : Int32) (tk hd ln lk lv lr cd cs ce po : Nat → Int32), cl ≤ 256 → tb_pg0 nl O N LL po ln lk lv lr cd cs ce cl → (∀ Q : Int32 → St2 → Prop, (∀ (cl : Nat) (tc ta hc : Int32) (tk hd ln lk lv lr cd cs ce po : Nat → Int32), cl ≤ 256 → tb_pg0 nl O N LL po ln lk lv lr cd cs ce cl → Q 0 (g_gosubDepth, g_forDepth, g_outCap, nI n, 1, 0, tc, ta, hc, nI nl, nI cl, g_dividedByZero, g_status, g_stopLine, g_steps, g_position, g_outputCount, g_gosubCount, g_frameCount, tb_S C, tk, hd, po, ln, lk, lv, lr, cd, cs, ce, b_operands, b_variables, b_output, b_returnTo, b_frameVariable, b_frameLimit, b_frameBody)) → Z Q) → post 0 (f_gosubDepth, f_forDepth, f_outCap, nI n, 1, 0, tc, ta, hc, nI nl, nI cl, f_dividedByZero, f_status, f_stopLine, f_steps, f_position, f_outputCount, f_gosubCount, f_frameCount, tb_S C, tk, hd, po, ln, lk, lv, lr, cd, cs, ce, a_operands, a_variables, a_output, a_returnTo, a_frameVariable, a_frameLimit, a_frameBody)) :
    ∀ (D s k nl cl F : Nat) (O N : Nat → Nat) (LL : Nat → List Nat) (tc ta hc : Int32) (tk hd ln lk lv lr cd cs ce po : Nat → Int32), n < s + D → s ≤ n → k ≤ s → n + 2 ≤ F + s → cl ≤ s → tb_pg0 nl O N LL po ln lk lv lr cd cs ce cl →
    (∀ Q : Int32 → St2 → Prop, (∀ (F cl : Nat) (tc ta hc : Int32) (tk hd ln lk lv lr cd cs ce po : Nat → Int32), n + 2 ≤ F + s → cl ≤ s → tb_pg0 nl O N LL po ln lk lv lr cd cs ce cl → wX_compile_13 Q F 0 (nI k) (nI s) (nI s) g_gosubDepth g_forDepth g_outCap (nI n) 0 0 tc ta hc (nI nl) (nI cl) g_dividedByZero g_status g_stopLine g_steps g_position g_outputCount g_gosubCount g_frameCount (tb_S C) tk hd po ln lk lv lr cd cs ce b_operands b_variables b_output b_returnTo b_frameVariable b_frameLimit b_frameBody) → Z Q) →
    wX_compile_13 post F 0 (nI k) (nI s) (nI s) f_gosubDepth f_forDepth f_outCap (nI n) 0 0 tc ta hc (nI nl) (nI cl) f_dividedByZero f_status f_stopLine f_steps f_position f_outputCount f_gosubCount f_frameCount (tb_S C) tk hd po ln lk lv lr cd cs ce a_operands a_variables a_output a_returnTo a_frameVariable a_frameLimit a_frameBody
  | 0, s, k, nl, cl, F, O, N, LL, tc, ta, hc, tk, hd, ln, lk, lv, lr, cd, cs, ce, po, hD, hs, hk, hF, hcl, ho, HY => absurd hD (by omega)
  | D + 1, s, k, nl, cl, F, O, N, LL, tc, ta, hc, tk, hd, ln, lk, lv, lr, cd, cs, ce, po, hD, hs, hk, hF, hcl, ho, HY => by
    have ⟨e1, e2⟩ := tb_le_in C (n - s) s
    generalize hee : tb_le C (n - s) s = e at e1 e2
    refine xx_scanL hC hn (e := e) (fun G hG' => ?_) (n - s) s F (by omega) hee (by omega)
    refine nm_r (nI_1 k) ?_
    have b16 := ho.1.1
    have EX : ∀ (r : Int32) (cl' : Int32) (tc ta hc : Int32) (tk hd ln lk lv lr cd cs ce po : Nat → Int32), ¬ r = 0 → wX_compile_13 post G r (nI (k + 1)) (nI (e + 1)) (nI (e + 1)) f_gosubDepth f_forDepth f_outCap (nI n) 0 0 tc ta hc (nI nl) cl' f_dividedByZero f_status f_stopLine f_steps f_position f_outputCount f_gosubCount f_frameCount (tb_S C) tk hd po ln lk lv lr cd cs ce a_operands a_variables a_output a_returnTo a_frameVariable a_frameLimit a_frameBody :=
      fun r cl' tc ta hc tk hd ln lk lv lr cd cs ce po hr => xx_cerr (by omega) hr (hE r (k + 1) cl' tc ta hc tk hd ln lk lv lr cd cs ce po hr)
    have NX : ∀ (nl cl : Nat) (O N : Nat → Nat) (LL : Nat → List Nat) (tc ta hc : Int32) (tk hd ln lk lv lr cd cs ce po : Nat → Int32), cl ≤ e → tb_pg0 nl O N LL po ln lk lv lr cd cs ce cl →
        (∀ Q : Int32 → St2 → Prop, (∀ (F cl : Nat) (tc ta hc : Int32) (tk hd ln lk lv lr cd cs ce po : Nat → Int32), n + 1 ≤ F + e → cl ≤ e → tb_pg0 nl O N LL po ln lk lv lr cd cs ce cl → wX_compile_13 Q F 0 (nI (k + 1)) (nI (e + 1)) (nI (e + 1)) g_gosubDepth g_forDepth g_outCap (nI n) 0 0 tc ta hc (nI nl) (nI cl) g_dividedByZero g_status g_stopLine g_steps g_position g_outputCount g_gosubCount g_frameCount (tb_S C) tk hd po ln lk lv lr cd cs ce b_operands b_variables b_output b_returnTo b_frameVariable b_frameLimit b_frameBody) → Z Q) →
        wX_compile_13 post G 0 (nI (k + 1)) (nI (e + 1)) (nI (e + 1)) f_gosubDepth f_forDepth f_outCap (nI n) 0 0 tc ta hc (nI nl) (nI cl) f_dividedByZero f_status f_stopLine f_steps f_position f_outputCount f_gosubCount f_frameCount (tb_S C) tk hd po ln lk lv lr cd cs ce a_operands a_variables a_output a_returnTo a_frameVariable a_frameLimit a_frameBody :=
      fun nl cl O N LL tc ta hc tk hd ln lk lv lr cd cs ce po h1 h2 h4 => by
        by_cases z : e < n
        · exact tb_comp hC hn hE hG D (e + 1) (k + 1) nl cl G O N LL tc ta hc tk hd ln lk lv lr cd cs ce po (by omega) (by omega) (by omega) (by omega) (by omega) h2 (fun Q w => h4 Q (fun F cl tc ta hc tk hd ln lk lv lr cd cs ce po g1 g2 g3 => w F cl tc ta hc tk hd ln lk lv lr cd cs ce po (by omega) (by omega) g3))
        · exact xx_cend (by omega) hn (by omega) (by omega) (hG nl O N LL cl tc ta hc tk hd ln lk lv lr cd cs ce po (by omega) h2 (fun Q w => h4 Q (fun F cl tc ta hc tk hd ln lk lv lr cd cs ce po g1 g2 g3 => xx_cend (by omega) hn (by omega) (by omega) (w cl tc ta hc tk hd ln lk lv lr cd cs ce po (by omega) g3))))
    refine xx_line (yn := ln) hC e1 (by omega) hcl ho.1 (fun c => nm_r (nI_1 e) (nm_r (nI_1 e) (EX 4 _ _ _ _ _ _ _ _ _ _ _ _ _ _ (by decide)))) (fun c b => nm_r (nI_1 e) (nm_r (nI_1 e) (NX nl cl O N LL tc ta hc tk hd ln lk lv lr cd cs ce po (by omega) ho (fun Q w => HY Q (fun F' cl' tc ta hc tk hd ln lk lv lr cd cs ce po f1 f2 f3 => ?_))))) (fun c b h16 => nm_r (nI_1 e) (nm_r (nI_1 e) (EX 3 _ _ _ _ _ _ _ _ _ _ _ _ _ _ (by decide)))) (fun c b hnl hso tc' ta' hc' cl' tk' hd' ln' lk' lv' lr' cd' cs' ce' => nm_r (nI_1 e) (nm_r (nI_1 e) (EX 1 _ _ _ _ _ _ _ _ _ _ _ _ _ _ (by decide)))) (fun c b hnl L q so l l1 l2 tc' ta' hc' cl' tk' hd' ln' lk' lv' lr' cd' cs' ce' => nm_r (nI_1 e) (nm_r (nI_1 e) (EX 2 _ _ _ _ _ _ _ _ _ _ _ _ _ _ (by decide)))) (fun c b hnl L q so ne tc' ta' hc' cl' tk' hd' ln' lk' lv' lr' cd' cs' ce' po' r d1 d0 r0 r1 r2 d2 d3 d4 d5 => nm_r (nI_1 e) (nm_r (nI_1 e) ?_))
    · refine xx_scanL hC hn (e := e) (fun G2 hG2 => nm_r (nI_1 k) ?_) (n - s) s F' (by omega) hee (by omega)
      exact xx_line (yn := ln) hC e1 (by omega) f2 f3.1 (fun y => absurd y (by omega)) (fun _ _ => nm_r (nI_1 e) (nm_r (nI_1 e) (w G2 cl' tc ta hc tk hd ln lk lv lr cd cs ce po hG2 (by omega) f3))) (fun _ y => absurd b y) (fun _ y => absurd b y) (fun _ y => absurd b y) (fun _ y => absurd b y)
    · refine NX (nl + 1) cl' (fun p => if p < r then O p else if p = r then nl else O (p - 1)) (fun l => if l < nl then N l else tb_T L 0) (fun l => if l < nl then LL l else L) tc' ta' hc' tk' hd' ln' lk' lv' lr' cd' cs' ce' po' d1 (tb_pg0_new ho q d2 d3 d4 d5) (fun Q w => HY Q (fun F' cl2 tc ta hc tk hd ln lk lv lr cd cs ce po f1 f2 f3 => ?_))
      refine xx_scanL hC hn (e := e) (fun G2 hG2 => nm_r (nI_1 k) ?_) (n - s) s F' (by omega) hee (by omega)
      refine xx_line (yn := ln) hC e1 (by omega) f2 f3.1 (fun y => absurd y (by omega)) (fun _ y => absurd y b) (fun _ _ y => absurd y (by omega)) (fun _ _ _ y => absurd so (y L q)) (fun _ _ _ L' y _ l l1 l2 => absurd l2 (by rw [q] at y; cases y; exact ne l l1)) (fun _ _ _ L' y _ _ tc2 ta2 hc2 cl3 tk2 hd2 ln2 lk2 lv2 lr2 cd2 cs2 ce2 po2 r' e1' e0' s0 s1 s2 e2' e3' e4' e5' => nm_r (nI_1 e) (nm_r (nI_1 e) ?_))
      have LL' : L = L' := by rw [q] at y; exact Option.some.inj y
      subst LL'
      have rr : r' = r := by
        rcases Nat.lt_trichotomy r' r with z | z | z
        · have x1 := r1 r' z
          have x2 := s2 r' (Nat.le_refl _) (by omega)
          omega
        · exact z
        · have x1 := s1 r z
          have x2 := r2 r (Nat.le_refl _) (by omega)
          omega
      subst rr
      exact w G2 cl3 tc2 ta2 hc2 tk2 hd2 ln2 lk2 lv2 lr2 cd2 cs2 ce2 po2 hG2 e1' (tb_pg0_new f3 q e2' e3' e4' e5')
end
end
section
/-! ===== one statement, two objects ===== -/
theorem tb_evc {V : Nat → Int32} {c : List Nat} {v : Int32} (y : (tb_ev V c ([], false)).2 = true) (q : tb_ev V c ([], false) = ([v], false)) : False := by
  rw [q] at y; cases y
theorem tb_evi {V : Nat → Int32} {c : List Nat} {v w : Int32} (y : tb_ev V c ([], false) = ([v], false)) (q : tb_ev V c ([], false) = ([w], false)) : w = v := by
  rw [q] at y; cases y; rfl
section
variable {L : List Nat} {l cl a b : Nat} {ln lk lv lr cd cs ce : Nat → Int32} {c c2 c3 : List Nat}
theorem tb_lo_let (h : tb_lo L l ln lk lv lr cd cs ce cl) (k : tb_T L 1 = 40101) (q : tb_xe L 4 = some (L.length, c)) : lv l = nI (tb_T L 2 - 40000) ∧ tb_slot cd cs ce cl (l * 3) c := by
  rcases h.2.2.2.2.2 with ⟨x1, x2, x3, x4, y, x5, x6⟩ | y | y | y | y | y
  · rw [q] at x5; cases x5; exact ⟨x3, x6⟩
  all_goals omega
theorem tb_lo_exp (h : tb_lo L l ln lk lv lr cd cs ce cl) (k : tb_T L 1 = 40102 ∨ tb_T L 1 = 40105 ∨ tb_T L 1 = 40106) (q : tb_xe L 2 = some (L.length, c)) : tb_slot cd cs ce cl (l * 3) c := by
  rcases h.2.2.2.2.2 with y | ⟨x1, y, x5, x6⟩ | y | y | y | y
  · omega
  · rw [q] at x5; cases x5; exact x6
  all_goals omega
theorem tb_lo_if (h : tb_lo L l ln lk lv lr cd cs ce cl) (k : tb_T L 1 = 40103) (q : tb_xe L 2 = some (a, c)) (q2 : tb_xe L (a + 1) = some (b, c2)) (q3 : tb_xe L (b + 1) = some (L.length, c3)) : tb_slot cd cs ce cl (l * 3) c ∧ lr l = nI (tb_T L a) ∧ tb_slot cd cs ce cl (l * 3 + 1) c2 ∧ tb_slot cd cs ce cl (l * 3 + 2) c3 := by
  rcases h.2.2.2.2.2 with y | y | ⟨x1, y, z, x2, x3, x4, x5, y2, z2, x6, x7, x8, z3, x9, x10⟩ | y | y | y
  · omega
  · omega
  · rw [q] at x2; cases x2; rw [q2] at x6; cases x6; rw [q3] at x9; cases x9; exact ⟨x3, x5, x7, x10⟩
  all_goals omega
theorem tb_lo_for (h : tb_lo L l ln lk lv lr cd cs ce cl) (k : tb_T L 1 = 40108) (q : tb_xe L 4 = some (a, c)) (q2 : tb_xe L (a + 1) = some (L.length, c2)) : lv l = nI (tb_T L 2 - 40000) ∧ tb_slot cd cs ce cl (l * 3) c ∧ tb_slot cd cs ce cl (l * 3 + 1) c2 := by
  rcases h.2.2.2.2.2 with y | y | y | ⟨x1, x2, x3, x4, y, z, x5, x6, x7, z2, x8, x9⟩ | y | y
  · omega
  · omega
  · omega
  · rw [q] at x5; cases x5; rw [q2] at x8; cases x8; exact ⟨x3, x6, x9⟩
  all_goals omega
theorem tb_lo_next (h : tb_lo L l ln lk lv lr cd cs ce cl) (k : tb_T L 1 = 40110) : lv l = nI (tb_T L 2 - 40000) := by
  rcases h.2.2.2.2.2 with y | y | y | y | ⟨x1, x2, x3, x4⟩ | y
  · omega
  · omega
  · omega
  · omega
  · exact x3
  · omega
end
/-- the stacks and the output of a run -/
def tb_s15 (g fd oc nl ou gc fc : Nat) (rt fv fb : Nat → Int32) : Prop :=
  ou ≤ oc ∧ gc ≤ g ∧ fc ≤ fd ∧ (∀ j, j < gc → ∃ p, p ≤ nl ∧ rt j = nI p) ∧ (∀ j, j < fc → ∃ p, p ≤ nl ∧ fb j = nI p) ∧ (∀ i j, i < fc → j < fc → fv i = fv j → i = j)
theorem tb_s15_0 {g fd oc nl : Nat} {rt fv fb : Nat → Int32} : tb_s15 g fd oc nl 0 0 0 rt fv fb :=
  ⟨Nat.zero_le _, Nat.zero_le _, Nat.zero_le _, fun j hj => by omega, fun j hj => by omega, fun i j hi => by omega⟩
theorem tb_fk_u {fv : Nat → Int32} {fc w kk k2 : Nat} (inj : ∀ i j, i < fc → j < fc → fv i = fv j → i = j) (h : tb_fk fv fc w kk) (h2 : tb_fk fv fc w k2) : k2 = kk := by
  rcases h with ⟨a1, a2⟩ | ⟨a1, a2⟩
  · rcases h2 with ⟨b1, b2⟩ | ⟨b1, b2⟩
    · exact inj _ _ b1 a1 (b2.trans a2.symm)
    · exact absurd a2 (b2 kk a1)
  · rcases h2 with ⟨b1, b2⟩ | ⟨b1, b2⟩
    · exact absurd b2 (a2 k2 b1)
    · omega
theorem tb_s15_for {g fd oc nl ou gc fc p w kk : Nat} {rt fv fb : Nat → Int32} (h : tb_s15 g fd oc nl ou gc fc rt fv fb) (hp : p < nl) (hk : tb_fk fv fc w kk) (hd : kk < fd) : tb_s15 g fd oc nl ou gc (kk + 1) rt (upd fv kk (nI w)) (upd fb kk (nI (p + 1))) := by
  obtain ⟨a1, a2, a3, a4, a5, a6⟩ := h
  have kf : kk ≤ fc := by
    rcases hk with ⟨k1, _⟩ | ⟨k1, _⟩ <;> omega
  have nw : ∀ j, j < kk → fv j ≠ nI w := fun j hj e => by
    rcases hk with ⟨k1, k2⟩ | ⟨k1, k2⟩
    · have := a6 j kk (by omega) k1 (e.trans k2.symm); omega
    · exact k2 j (by omega) e
  refine ⟨a1, a2, by omega, a4, fun j hj => ?_, fun i j hi hj e => ?_⟩
  · by_cases z : j = kk
    · subst z
      exact ⟨p + 1, by omega, pk_us⟩
    · rw [pk_un z]
      exact a5 j (by omega)
  · by_cases zi : i = kk
    · by_cases zj : j = kk
      · omega
      · rw [zi, pk_us, pk_un zj] at e
        exact absurd e.symm (nw j (by omega))
    · by_cases zj : j = kk
      · rw [zj, pk_us, pk_un zi] at e
        exact absurd e (nw i (by omega))
      · rw [pk_un zi, pk_un zj] at e
        exact a6 i j (by omega) (by omega) e
theorem tb_s15_gos {g fd oc nl ou gc fc p : Nat} {rt fv fb : Nat → Int32} (h : tb_s15 g fd oc nl ou gc fc rt fv fb) (hp : p < nl) (hd : gc < g) : tb_s15 g fd oc nl ou (gc + 1) fc (upd rt gc (nI (p + 1))) fv fb := by
  obtain ⟨a1, a2, a3, a4, a5, a6⟩ := h
  refine ⟨a1, by omega, a3, fun j hj => ?_, a5, a6⟩
  by_cases z : j = gc
  · subst z
    exact ⟨p + 1, by omega, pk_us⟩
  · rw [pk_un z]
    exact a4 j (by omega)
/-- the sizes -/
def tb_sz (g fd oc : Nat) : Prop := 1 ≤ g ∧ g ≤ 8 ∧ 1 ≤ fd ∧ fd ≤ 8 ∧ 1 ≤ oc ∧ oc ≤ 32
section
variable {f_sourceLength f_compiled f_errorLine f_tokenCount f_tokenAt f_heldCount f_codeLength f_status f_stopLine f_steps : Int32} {a_source a_tokens a_held a_programOrder a_lineNumber a_lineKeyword a_lineVariable a_lineRelation a_code a_codeStart a_codeEnd a_variables a_output a_returnTo a_frameVariable a_frameLimit a_frameBody : Nat → Int32} {a_operands : Nat → Int32} {f_dividedByZero : Int32} {g_sourceLength g_compiled g_errorLine g_tokenCount g_tokenAt g_heldCount g_codeLength g_status g_stopLine g_steps : Int32} {b_source b_tokens b_held b_programOrder b_lineNumber b_lineKeyword b_lineVariable b_lineRelation b_code b_codeStart b_codeEnd : Nat → Int32} {g fd oc nl ou gc fc cl cl2 p : Nat} {O N : Nat → Nat} {LL : Nat → List Nat} {post : Int32 → St2 → Prop} {Z : (Int32 → St2 → Prop) → Prop}
theorem tb_exec (hz : tb_sz g fd oc) (hcl : cl ≤ 256) (hcl2 : cl2 ≤ 256) (hx : tb_pg0 nl O N LL a_programOrder a_lineNumber a_lineKeyword a_lineVariable a_lineRelation a_code a_codeStart a_codeEnd cl) (hy : tb_pg0 nl O N LL b_programOrder b_lineNumber b_lineKeyword b_lineVariable b_lineRelation b_code b_codeStart b_codeEnd cl2) (hs : tb_s15 g fd oc nl ou gc fc a_returnTo a_frameVariable a_frameBody) (hp : p < nl)
    (HZ : ∀ Q : Int32 → St2 → Prop, (∀ (dz : Int32) (ops : Nat → Int32), wpX_execute Q (nI g, nI fd, nI oc, g_sourceLength, g_compiled, g_errorLine, g_tokenCount, g_tokenAt, g_heldCount, nI nl, g_codeLength, dz, g_status, g_stopLine, g_steps, nI p, nI ou, nI gc, nI fc, b_source, b_tokens, b_held, b_programOrder, b_lineNumber, b_lineKeyword, b_lineVariable, b_lineRelation, b_code, b_codeStart, b_codeEnd, ops, a_variables, a_output, a_returnTo, a_frameVariable, a_frameLimit, a_frameBody) (nI (O p))) → Z Q)
    (hStop : ∀ (o dz : Int32) (ops : Nat → Int32), ¬ o = 0 → ¬ o = 2 → (∀ Q : Int32 → St2 → Prop, (∀ (dz : Int32) (ops : Nat → Int32), Q o (nI g, nI fd, nI oc, g_sourceLength, g_compiled, g_errorLine, g_tokenCount, g_tokenAt, g_heldCount, nI nl, g_codeLength, dz, g_status, g_stopLine, g_steps, nI p, nI ou, nI gc, nI fc, b_source, b_tokens, b_held, b_programOrder, b_lineNumber, b_lineKeyword, b_lineVariable, b_lineRelation, b_code, b_codeStart, b_codeEnd, ops, a_variables, a_output, a_returnTo, a_frameVariable, a_frameLimit, a_frameBody)) → Z Q) → post o (nI g, nI fd, nI oc, f_sourceLength, f_compiled, f_errorLine, f_tokenCount, f_tokenAt, f_heldCount, nI nl, f_codeLength, dz, f_status, f_stopLine, f_steps, nI p, nI ou, nI gc, nI fc, a_source, a_tokens, a_held, a_programOrder, a_lineNumber, a_lineKeyword, a_lineVariable, a_lineRelation, a_code, a_codeStart, a_codeEnd, ops, a_variables, a_output, a_returnTo, a_frameVariable, a_frameLimit, a_frameBody))
    (hGo : ∀ (p' ou' gc' fc' : Nat) (dz : Int32) (ops V out rt fv fl fb : Nat → Int32), p' ≤ nl → tb_s15 g fd oc nl ou' gc' fc' rt fv fb → (∀ Q : Int32 → St2 → Prop, (∀ (dz : Int32) (ops : Nat → Int32), Q 0 (nI g, nI fd, nI oc, g_sourceLength, g_compiled, g_errorLine, g_tokenCount, g_tokenAt, g_heldCount, nI nl, g_codeLength, dz, g_status, g_stopLine, g_steps, nI p', nI ou', nI gc', nI fc', b_source, b_tokens, b_held, b_programOrder, b_lineNumber, b_lineKeyword, b_lineVariable, b_lineRelation, b_code, b_codeStart, b_codeEnd, ops, V, out, rt, fv, fl, fb)) → Z Q) → post 0 (nI g, nI fd, nI oc, f_sourceLength, f_compiled, f_errorLine, f_tokenCount, f_tokenAt, f_heldCount, nI nl, f_codeLength, dz, f_status, f_stopLine, f_steps, nI p', nI ou', nI gc', nI fc', a_source, a_tokens, a_held, a_programOrder, a_lineNumber, a_lineKeyword, a_lineVariable, a_lineRelation, a_code, a_codeStart, a_codeEnd, ops, V, out, rt, fv, fl, fb)) :
    wpX_execute post (nI g, nI fd, nI oc, f_sourceLength, f_compiled, f_errorLine, f_tokenCount, f_tokenAt, f_heldCount, nI nl, f_codeLength, f_dividedByZero, f_status, f_stopLine, f_steps, nI p, nI ou, nI gc, nI fc, a_source, a_tokens, a_held, a_programOrder, a_lineNumber, a_lineKeyword, a_lineVariable, a_lineRelation, a_code, a_codeStart, a_codeEnd, a_operands, a_variables, a_output, a_returnTo, a_frameVariable, a_frameLimit, a_frameBody) (nI (O p)) := by
  obtain ⟨g1', g8, d1', d8, c1', c32⟩ := hz
  obtain ⟨ho, hl⟩ := hx
  obtain ⟨hoy, hly⟩ := hy
  have b16 := ho.1
  have ap := ho.2.1 p hp
  have l16 : O p < 16 := by omega
  obtain ⟨hlen, hok, lo⟩ := hl (O p) ap.2
  obtain ⟨-, -, loy⟩ := hly (O p) ap.2
  have ely := loy.2.2.2.2.1
  obtain ⟨h2, t1, t2, eln, elk, cs⟩ := lo
  obtain ⟨s1, s2, s3, s4, s5, s6⟩ := hs
  have hs : tb_s15 g fd oc nl ou gc fc a_returnTo a_frameVariable a_frameBody := ⟨s1, s2, s3, s4, s5, s6⟩
  generalize hL : LL (O p) = L at *
  have XD : ∀ {cd cs ce : Nat → Int32} {cl : Nat} (q E k : Nat) (c : List Nat), cl ≤ 256 → tb_xe L q = some (E, c) → q ≤ L.length → tb_slot cd cs ce cl k c → tb_xd a_variables cd cs ce cl k c := fun {cd cs ce cl} q E k c hc hx hq' hsl => by
    have ⟨x1, x2⟩ := tb_xe_ev a_variables hok hx
    have ⟨y1, y2, y3⟩ := tb_xp_le _ _ _ _ _ _ _ _ _ hx
    have := y2 hq'
    simp only [List.length_nil] at y3
    exact ⟨hc, hsl, x2, by omega, x1⟩
  have XL : ∀ (q E : Nat) (c : List Nat), tb_xe L q = some (E, c) → q ≤ L.length → q ≤ E ∧ E ≤ L.length := fun q E c hx hq' => by
    have ⟨y1, y2, y3⟩ := tb_xp_le _ _ _ _ _ _ _ _ _ hx
    exact ⟨y1, y2 hq'⟩
  have NI : ∀ {v : Int32} {r r2 : Nat}, r < nl → v = nI (N (O r)) → r2 < nl → v = nI (N (O r2)) → r2 = r := fun {v r r2} h1 e1 h2 e2 => by
    have a := ho.2.2.1 (O r) (ho.2.1 r h1).2
    have b := ho.2.2.1 (O r2) (ho.2.1 r2 h2).2
    have := (nI_eq (by omega) (by omega)).mp (e2.symm.trans e1)
    exact tb_ord_inj ho h2 h1 this
  rcases cs with ⟨k, iv, hv, t3, c, q, sl⟩ | ⟨k, c, q, sl⟩ | ⟨k, a, c1, q1, sl1, r1, hr, b, c2, q2, sl2, tb, c3, q3, sl3⟩ | ⟨k, iv, hv, t3, a, c1, q1, sl1, ta, c2, q2, sl2⟩ | ⟨k, iv, hv, l3⟩ | ⟨k, l2⟩
  · -- LET
    rw [k] at elk ely
    unfold tb_iv at iv
    have h4 : 4 ≤ L.length := by have := tb_T_in (L := L) (j := 3) (by omega); omega
    have ⟨hv2, slb⟩ := tb_lo_let loy k q
    have DY := XD 4 _ _ c hcl2 q h4 slb
    refine xx_letS l16 elk hv (by omega) (XD 4 _ _ c hcl q h4 sl) (fun y ops => hStop 6 _ ops (by decide) (by decide) (fun Q w => HZ Q (fun dz0 ops0 => ?_))) (fun v y ops => hGo (p + 1) ou gc fc _ ops (upd a_variables (tb_T L 2 - 40000) v) a_output a_returnTo a_frameVariable a_frameLimit a_frameBody (by omega) hs (fun Q w => HZ Q (fun dz0 ops0 => ?_)))
    · exact xx_letS l16 ely hv2 (by omega) DY (fun _ _ => w _ _) (fun v z _ => (tb_evc y z).elim)
    · exact xx_letS l16 ely hv2 (by omega) DY (fun z => (tb_evc z y).elim) (fun v' z _ => by rw [tb_evi y z]; exact w _ _)
  · have slb := tb_lo_exp loy k q
    have DY := XD 2 _ _ c hcl2 q h2 slb
    rcases k with k | k | k
    · -- PRINT
      rw [k] at elk ely
      refine xx_print l16 elk s1 c32 (XD 2 _ _ c hcl q h2 sl) (fun y ops => hStop 6 _ ops (by decide) (by decide) (fun Q w => HZ Q (fun dz0 ops0 => ?_))) (fun v y z ops => hStop 9 _ ops (by decide) (by decide) (fun Q w => HZ Q (fun dz0 ops0 => ?_))) (fun v y z ops => hGo (p + 1) (ou + 1) gc fc _ ops a_variables (upd a_output ou v) a_returnTo a_frameVariable a_frameLimit a_frameBody (by omega) ⟨by omega, s2, s3, s4, s5, s6⟩ (fun Q w => HZ Q (fun dz0 ops0 => ?_)))
      · exact xx_print l16 ely s1 c32 DY (fun _ _ => w _ _) (fun v z => (tb_evc y z).elim) (fun v z => (tb_evc y z).elim)
      · exact xx_print l16 ely s1 c32 DY (fun u => (tb_evc u y).elim) (fun v' u _ _ => w _ _) (fun v' u u2 => absurd u2 (by omega))
      · exact xx_print l16 ely s1 c32 DY (fun u => (tb_evc u y).elim) (fun v' u u2 => absurd u2 (by omega)) (fun v' u u2 _ => by rw [tb_evi y u]; exact w _ _)
    · -- GOTO
      rw [k] at elk ely
      refine xx_goto l16 elk ho (XD 2 _ _ c hcl q h2 sl) (fun y ops => hStop 6 _ ops (by decide) (by decide) (fun Q w => HZ Q (fun dz0 ops0 => ?_))) (fun v y z ops => hStop 3 _ ops (by decide) (by decide) (fun Q w => HZ Q (fun dz0 ops0 => ?_))) (fun v y r z1 z2 ops => hGo r ou gc fc _ ops a_variables a_output a_returnTo a_frameVariable a_frameLimit a_frameBody (by omega) hs (fun Q w => HZ Q (fun dz0 ops0 => ?_)))
      · exact xx_goto l16 ely hoy DY (fun _ _ => w _ _) (fun v z => (tb_evc y z).elim) (fun v z => (tb_evc y z).elim)
      · exact xx_goto l16 ely hoy DY (fun u => (tb_evc u y).elim) (fun v' u _ _ => w _ _) (fun v' u r u1 u2 => absurd u2 (by rw [tb_evi y u]; exact z r u1))
      · exact xx_goto l16 ely hoy DY (fun u => (tb_evc u y).elim) (fun v' u u2 => absurd z2 (by rw [← tb_evi y u]; exact u2 r z1)) (fun v' u r' u1 u2 _ => by rw [NI z1 z2 u1 (by rw [← tb_evi y u]; exact u2)]; exact w _ _)
    · -- GOSUB
      rw [k] at elk ely
      refine xx_gosub l16 elk ho s2 g8 (XD 2 _ _ c hcl q h2 sl) (fun y ops => hStop 6 _ ops (by decide) (by decide) (fun Q w => HZ Q (fun dz0 ops0 => ?_))) (fun v y z ops => hStop 3 _ ops (by decide) (by decide) (fun Q w => HZ Q (fun dz0 ops0 => ?_))) (fun v y r z1 z2 z3 ops => hStop 7 _ ops (by decide) (by decide) (fun Q w => HZ Q (fun dz0 ops0 => ?_))) (fun v y r z1 z2 z3 ops => hGo r ou (gc + 1) fc _ ops a_variables a_output (upd a_returnTo gc (nI (p + 1))) a_frameVariable a_frameLimit a_frameBody (by omega) (tb_s15_gos hs hp z3) (fun Q w => HZ Q (fun dz0 ops0 => ?_)))
      · exact xx_gosub l16 ely hoy s2 g8 DY (fun _ _ => w _ _) (fun v z => (tb_evc y z).elim) (fun v z => (tb_evc y z).elim) (fun v z => (tb_evc y z).elim)
      · exact xx_gosub l16 ely hoy s2 g8 DY (fun u => (tb_evc u y).elim) (fun v' u _ _ => w _ _) (fun v' u r u1 u2 => absurd u2 (by rw [tb_evi y u]; exact z r u1)) (fun v' u r u1 u2 => absurd u2 (by rw [tb_evi y u]; exact z r u1))
      · exact xx_gosub l16 ely hoy s2 g8 DY (fun u => (tb_evc u y).elim) (fun v' u u2 => absurd z2 (by rw [← tb_evi y u]; exact u2 r z1)) (fun v' u r' u1 u2 _ _ => w _ _) (fun v' u r' u1 u2 u3 => absurd u3 (by omega))
      · exact xx_gosub l16 ely hoy s2 g8 DY (fun u => (tb_evc u y).elim) (fun v' u u2 => absurd z2 (by rw [← tb_evi y u]; exact u2 r z1)) (fun v' u r' u1 u2 u3 => absurd u3 (by omega)) (fun v' u r' u1 u2 _ _ => by rw [NI z1 z2 u1 (by rw [← tb_evi y u]; exact u2)]; exact w _ _)
  · -- IF
    rw [k] at elk ely
    have ⟨a1, a2⟩ := XL _ _ _ q1 h2
    have a3 : a < L.length := tb_T_in (L := L) (j := a) (by unfold tb_ir at r1; omega)
    have ⟨b1, b2⟩ := XL _ _ _ q2 (by omega)
    have b3 : b < L.length := tb_T_in (L := L) (j := b) (by omega)
    have ⟨u1, u2, u3, u4⟩ := tb_lo_if loy k q1 q2 q3
    have D1 := XD 2 _ _ c1 hcl2 q1 h2 u1
    have D2 := XD (a + 1) _ _ c2 hcl2 q2 (by omega) u3
    have D3 := XD (b + 1) _ _ c3 hcl2 q3 (by omega) u4
    refine xx_if l16 elk hr r1 ho (XD 2 _ _ c1 hcl q1 h2 sl1) (XD (a + 1) _ _ c2 hcl q2 (by omega) sl2) (XD (b + 1) _ _ c3 hcl q3 (by omega) sl3) (fun y ops => hStop 6 _ ops (by decide) (by decide) (fun Q w => HZ Q (fun dz0 ops0 => ?_))) (fun x y z1 z2 z3 ops => hGo (p + 1) ou gc fc _ ops a_variables a_output a_returnTo a_frameVariable a_frameLimit a_frameBody (by omega) hs (fun Q w => HZ Q (fun dz0 ops0 => ?_))) (fun x y z1 z2 z3 z4 ops => hStop 6 _ ops (by decide) (by decide) (fun Q w => HZ Q (fun dz0 ops0 => ?_))) (fun x y v z1 z2 z3 z4 z5 ops => hStop 3 _ ops (by decide) (by decide) (fun Q w => HZ Q (fun dz0 ops0 => ?_))) (fun x y v z1 z2 z3 z4 r z5 z6 ops => hGo r ou gc fc _ ops a_variables a_output a_returnTo a_frameVariable a_frameLimit a_frameBody (by omega) hs (fun Q w => HZ Q (fun dz0 ops0 => ?_)))
    · have NO : ∀ x y' : Int32, tb_ev a_variables c1 ([], false) = ([x], false) → tb_ev a_variables c2 ([], false) = ([y'], false) → False := fun x y' e1 e2 => y.elim (fun z => tb_evc z e1) (fun z => tb_evc z e2)
      exact xx_if l16 ely u2 r1 hoy D1 D2 D3 (fun _ _ => w _ _) (fun x y' e1 e2 => (NO x y' e1 e2).elim) (fun x y' e1 e2 => (NO x y' e1 e2).elim) (fun x y' v e1 e2 => (NO x y' e1 e2).elim) (fun x y' v e1 e2 => (NO x y' e1 e2).elim)
    · have YZ : ((tb_ev a_variables c1 ([], false)).2 = true ∨ (tb_ev a_variables c2 ([], false)).2 = true) → False := fun h => h.elim (fun z => tb_evc z z1) (fun z => tb_evc z z2)
      exact xx_if l16 ely u2 r1 hoy D1 D2 D3 (fun h => (YZ h).elim) (fun x' y' e1 e2 e3 _ => w _ _) (fun x' y' e1 e2 e3 => absurd e3 (by rw [tb_evi z1 e1, tb_evi z2 e2]; exact z3)) (fun x' y' v e1 e2 e3 => absurd e3 (by rw [tb_evi z1 e1, tb_evi z2 e2]; exact z3)) (fun x' y' v e1 e2 e3 => absurd e3 (by rw [tb_evi z1 e1, tb_evi z2 e2]; exact z3))
    · have YZ : ((tb_ev a_variables c1 ([], false)).2 = true ∨ (tb_ev a_variables c2 ([], false)).2 = true) → False := fun h => h.elim (fun z => tb_evc z z1) (fun z => tb_evc z z2)
      exact xx_if l16 ely u2 r1 hoy D1 D2 D3 (fun h => (YZ h).elim) (fun x' y' e1 e2 e3 => absurd z3 (by rw [← tb_evi z1 e1, ← tb_evi z2 e2]; exact e3)) (fun x' y' e1 e2 e3 e4 _ => w _ _) (fun x' y' v e1 e2 e3 e4 => (tb_evc z4 e4).elim) (fun x' y' v e1 e2 e3 e4 => (tb_evc z4 e4).elim)
    · have YZ : ((tb_ev a_variables c1 ([], false)).2 = true ∨ (tb_ev a_variables c2 ([], false)).2 = true) → False := fun h => h.elim (fun z => tb_evc z z1) (fun z => tb_evc z z2)
      exact xx_if l16 ely u2 r1 hoy D1 D2 D3 (fun h => (YZ h).elim) (fun x' y' e1 e2 e3 => absurd z3 (by rw [← tb_evi z1 e1, ← tb_evi z2 e2]; exact e3)) (fun x' y' e1 e2 e3 e4 => (tb_evc e4 z4).elim) (fun x' y' v' e1 e2 e3 e4 e5 _ => w _ _) (fun x' y' v' e1 e2 e3 e4 r' e5 e6 => absurd e6 (by rw [tb_evi z4 e4]; exact z5 r' e5))
    · have YZ : ((tb_ev a_variables c1 ([], false)).2 = true ∨ (tb_ev a_variables c2 ([], false)).2 = true) → False := fun h => h.elim (fun z => tb_evc z z1) (fun z => tb_evc z z2)
      exact xx_if l16 ely u2 r1 hoy D1 D2 D3 (fun h => (YZ h).elim) (fun x' y' e1 e2 e3 => absurd z3 (by rw [← tb_evi z1 e1, ← tb_evi z2 e2]; exact e3)) (fun x' y' e1 e2 e3 e4 => (tb_evc e4 z4).elim) (fun x' y' v' e1 e2 e3 e4 e5 => absurd z6 (by rw [← tb_evi z4 e4]; exact e5 r z5)) (fun x' y' v' e1 e2 e3 e4 r' e5 e6 _ => by rw [NI z5 z6 e5 (by rw [← tb_evi z4 e4]; exact e6)]; exact w _ _)
  · -- FOR
    rw [k] at elk ely
    unfold tb_iv at iv
    have h4 : 4 ≤ L.length := by have := tb_T_in (L := L) (j := 3) (by omega); omega
    have ⟨a1, a2⟩ := XL _ _ _ q1 h4
    have a3 : a < L.length := tb_T_in (L := L) (j := a) (by omega)
    have ⟨u1, u2, u3⟩ := tb_lo_for loy k q1 q2
    have D1 := XD 4 _ _ c1 hcl2 q1 h4 u2
    have D2 := XD (a + 1) _ _ c2 hcl2 q2 (by omega) u3
    refine xx_for l16 elk hv (by omega) s3 d8 (XD 4 _ _ c1 hcl q1 h4 sl1) (XD (a + 1) _ _ c2 hcl q2 (by omega) sl2) (fun y ops => hStop 6 _ ops (by decide) (by decide) (fun Q w => HZ Q (fun dz0 ops0 => ?_))) (fun x y kk z1 z2 z3 z4 ops => hStop 8 _ ops (by decide) (by decide) (fun Q w => HZ Q (fun dz0 ops0 => ?_))) (fun x y kk z1 z2 z3 z4 ops => hGo (p + 1) ou gc (kk + 1) _ ops (upd a_variables (tb_T L 2 - 40000) x) a_output a_returnTo (upd a_frameVariable kk (nI (tb_T L 2 - 40000))) (upd a_frameLimit kk y) (upd a_frameBody kk (nI (p + 1))) (by omega) (tb_s15_for hs hp z3 z4) (fun Q w => HZ Q (fun dz0 ops0 => ?_)))
    · have NO : ∀ x y' : Int32, tb_ev a_variables c1 ([], false) = ([x], false) → tb_ev a_variables c2 ([], false) = ([y'], false) → False := fun x y' e1 e2 => y.elim (fun z => tb_evc z e1) (fun z => tb_evc z e2)
      exact xx_for l16 ely u1 (by omega) s3 d8 D1 D2 (fun _ _ => w _ _) (fun x y' kk e1 e2 => (NO x y' e1 e2).elim) (fun x y' kk e1 e2 => (NO x y' e1 e2).elim)
    · have YZ : ((tb_ev a_variables c1 ([], false)).2 = true ∨ (tb_ev a_variables c2 ([], false)).2 = true) → False := fun h => h.elim (fun z => tb_evc z z1) (fun z => tb_evc z z2)
      exact xx_for l16 ely u1 (by omega) s3 d8 D1 D2 (fun h => (YZ h).elim) (fun x' y' kk' e1 e2 e3 e4 _ => w _ _) (fun x' y' kk' e1 e2 e3 e4 => absurd e4 (by rw [tb_fk_u s6 z3 e3]; omega))
    · have YZ : ((tb_ev a_variables c1 ([], false)).2 = true ∨ (tb_ev a_variables c2 ([], false)).2 = true) → False := fun h => h.elim (fun z => tb_evc z z1) (fun z => tb_evc z z2)
      exact xx_for l16 ely u1 (by omega) s3 d8 D1 D2 (fun h => (YZ h).elim) (fun x' y' kk' e1 e2 e3 e4 => absurd e4 (by rw [tb_fk_u s6 z3 e3]; omega)) (fun x' y' kk' e1 e2 e3 e4 _ => by rw [tb_fk_u s6 z3 e3, tb_evi z1 e1, tb_evi z2 e2]; exact w _ _)
  · -- NEXT
    rw [k] at elk ely
    unfold tb_iv at iv
    have hv2 := tb_lo_next loy k
    refine xx_nextS l16 elk hv (by omega) (by omega) (fun y => hStop 5 _ _ (by decide) (by decide) (fun Q w => HZ Q (fun dz0 ops0 => ?_))) (fun j j1 j2 j3 => hGo (p + 1) ou gc j _ _ (upd a_variables (tb_T L 2 - 40000) (a_variables (tb_T L 2 - 40000) + 1)) a_output a_returnTo a_frameVariable a_frameLimit a_frameBody (by omega) ⟨s1, s2, by omega, s4, fun i hi => s5 i (by omega), fun i i' hi hi' => s6 i i' (by omega) (by omega)⟩ (fun Q w => HZ Q (fun dz0 ops0 => ?_))) (fun j j1 j2 j3 => ?_)
    · exact xx_nextS l16 ely hv2 (by omega) (by omega) (fun _ => w _ _) (fun i i1 i2 => absurd i2 (y i i1)) (fun i i1 i2 => absurd i2 (y i i1))
    · exact xx_nextS l16 ely hv2 (by omega) (by omega) (fun y => absurd j2 (y j j1)) (fun i i1 i2 i3 => by rw [s6 i j i1 j1 (i2.trans j2.symm)]; exact w _ _) (fun i i1 i2 i3 => absurd j3 (by rw [← s6 i j i1 j1 (i2.trans j2.symm)]; exact i3))
    · obtain ⟨r, r1, r2⟩ := s5 j j1
      rw [r2]
      refine hGo r ou gc (j + 1) _ _ (upd a_variables (tb_T L 2 - 40000) (a_variables (tb_T L 2 - 40000) + 1)) a_output a_returnTo a_frameVariable a_frameLimit a_frameBody r1 ⟨s1, s2, by omega, s4, fun i hi => s5 i (by omega), fun i i' hi hi' => s6 i i' (by omega) (by omega)⟩ (fun Q w => HZ Q (fun dz0 ops0 => ?_))
      rw [← r2] at w
      exact xx_nextS l16 ely hv2 (by omega) (by omega) (fun y => absurd j2 (y j j1)) (fun i i1 i2 i3 => absurd i3 (by rw [s6 i j i1 j1 (i2.trans j2.symm)]; exact j3)) (fun i i1 i2 i3 => by rw [s6 i j i1 j1 (i2.trans j2.symm)]; exact w _ _)
  · rcases k with k | k
    · -- RETURN
      rw [k] at elk ely
      refine xx_return l16 elk (by omega) (fun y => hStop 4 _ _ (by decide) (by decide) (fun Q w => HZ Q (fun dz0 ops0 => ?_))) (fun j y => ?_)
      · exact xx_return l16 ely (by omega) (fun _ => w _ _) (fun j z => absurd z (by omega))
      · obtain ⟨r, r1, r2⟩ := s4 j (by omega)
        rw [r2]
        refine hGo r ou j fc _ _ a_variables a_output a_returnTo a_frameVariable a_frameLimit a_frameBody r1 ⟨s1, by omega, s3, fun i hi => s4 i (by omega), s5, s6⟩ (fun Q w => HZ Q (fun dz0 ops0 => ?_))
        rw [← r2] at w
        exact xx_return l16 ely (by omega) (fun z => absurd z (by omega)) (fun i z => by rw [show i = j from by omega]; exact w _ _)
    · -- END
      rw [k] at elk ely
      exact xx_end l16 elk (hStop 1 _ _ (by decide) (by decide) (fun Q w => HZ Q (fun dz0 ops0 => xx_end l16 ely (w _ _))))
end
end
section
/-! ===== the run loop, two objects ===== -/
section
variable {f_gosubDepth f_forDepth f_outCap f_sourceLength f_compiled f_errorLine f_tokenCount f_tokenAt f_heldCount f_lineTotal f_codeLength f_dividedByZero f_status f_stopLine f_steps f_position f_outputCount f_gosubCount f_frameCount : Int32} {a_source a_tokens a_held a_programOrder a_lineNumber a_lineKeyword a_lineVariable a_lineRelation a_code a_codeStart a_codeEnd a_operands a_variables a_output a_returnTo a_frameVariable a_frameLimit a_frameBody : Nat → Int32} {post : St2 → Prop}
theorem xx_lstop {F m : Nat} {o x3 : Int32} (ho : ¬ o = 0) (hp : post (f_gosubDepth, f_forDepth, f_outCap, f_sourceLength, f_compiled, f_errorLine, f_tokenCount, f_tokenAt, f_heldCount, f_lineTotal, f_codeLength, f_dividedByZero, o, f_stopLine, f_steps, f_position, f_outputCount, f_gosubCount, f_frameCount, a_source, a_tokens, a_held, a_programOrder, a_lineNumber, a_lineKeyword, a_lineVariable, a_lineRelation, a_code, a_codeStart, a_codeEnd, a_operands, a_variables, a_output, a_returnTo, a_frameVariable, a_frameLimit, a_frameBody)) : wX_runLoop_4 post (nI F) (m + 1) o x3 f_gosubDepth f_forDepth f_outCap f_sourceLength f_compiled f_errorLine f_tokenCount f_tokenAt f_heldCount f_lineTotal f_codeLength f_dividedByZero f_status f_stopLine f_steps f_position f_outputCount f_gosubCount f_frameCount a_source a_tokens a_held a_programOrder a_lineNumber a_lineKeyword a_lineVariable a_lineRelation a_code a_codeStart a_codeEnd a_operands a_variables a_output a_returnTo a_frameVariable a_frameLimit a_frameBody := by
  have A : wX_runLoop_69 post o f_gosubDepth f_forDepth f_outCap f_sourceLength f_compiled f_errorLine f_tokenCount f_tokenAt f_heldCount f_lineTotal f_codeLength f_dividedByZero f_status f_stopLine f_steps f_position f_outputCount f_gosubCount f_frameCount a_source a_tokens a_held a_programOrder a_lineNumber a_lineKeyword a_lineVariable a_lineRelation a_code a_codeStart a_codeEnd a_operands a_variables a_output a_returnTo a_frameVariable a_frameLimit a_frameBody := br_f ho (br_f ho hp)
  exact br_c (fun _ => A) (fun _ => br_f ho A)
theorem xx_lhalt {F i p nl m : Nat} (hF : F ≤ 1000) (hi : i ≤ 2000) (hp : nl ≤ p) (hp2 : p ≤ 16) (h : post (f_gosubDepth, f_forDepth, f_outCap, f_sourceLength, f_compiled, f_errorLine, f_tokenCount, f_tokenAt, f_heldCount, nI nl, f_codeLength, f_dividedByZero, 1, -1, f_steps, nI p, f_outputCount, f_gosubCount, f_frameCount, a_source, a_tokens, a_held, a_programOrder, a_lineNumber, a_lineKeyword, a_lineVariable, a_lineRelation, a_code, a_codeStart, a_codeEnd, a_operands, a_variables, a_output, a_returnTo, a_frameVariable, a_frameLimit, a_frameBody)) : wX_runLoop_4 post (nI F) (m + 1) 0 (nI i) f_gosubDepth f_forDepth f_outCap f_sourceLength f_compiled f_errorLine f_tokenCount f_tokenAt f_heldCount (nI nl) f_codeLength f_dividedByZero f_status f_stopLine f_steps (nI p) f_outputCount f_gosubCount f_frameCount a_source a_tokens a_held a_programOrder a_lineNumber a_lineKeyword a_lineVariable a_lineRelation a_code a_codeStart a_codeEnd a_operands a_variables a_output a_returnTo a_frameVariable a_frameLimit a_frameBody := by
  have A : wX_runLoop_69 post 0 f_gosubDepth f_forDepth f_outCap f_sourceLength f_compiled f_errorLine f_tokenCount f_tokenAt f_heldCount (nI nl) f_codeLength f_dividedByZero f_status f_stopLine f_steps (nI p) f_outputCount f_gosubCount f_frameCount a_source a_tokens a_held a_programOrder a_lineNumber a_lineKeyword a_lineVariable a_lineRelation a_code a_codeStart a_codeEnd a_operands a_variables a_output a_returnTo a_frameVariable a_frameLimit a_frameBody := br_t rfl (pk_le nl p (fun _ => br_t rfl h) (fun y => absurd y (by omega)))
  exact pk_le F i (fun _ => A) (fun _ => br_t rfl (pk_le nl p (fun _ => A) (fun y => absurd y (by omega))))
theorem xx_lout {F i p nl m : Nat} {O N : Nat → Nat} (ho : tb_ord nl O N a_programOrder a_lineNumber a_lineNumber) (hF : F ≤ 1000) (hi : i ≤ 2000) (hFi : F ≤ i) (hp : p < nl) (h : post (f_gosubDepth, f_forDepth, f_outCap, f_sourceLength, f_compiled, f_errorLine, f_tokenCount, f_tokenAt, f_heldCount, nI nl, f_codeLength, f_dividedByZero, 2, nI (N (O p)), f_steps, nI p, f_outputCount, f_gosubCount, f_frameCount, a_source, a_tokens, a_held, a_programOrder, a_lineNumber, a_lineKeyword, a_lineVariable, a_lineRelation, a_code, a_codeStart, a_codeEnd, a_operands, a_variables, a_output, a_returnTo, a_frameVariable, a_frameLimit, a_frameBody)) : wX_runLoop_4 post (nI F) (m + 1) 0 (nI i) f_gosubDepth f_forDepth f_outCap f_sourceLength f_compiled f_errorLine f_tokenCount f_tokenAt f_heldCount (nI nl) f_codeLength f_dividedByZero f_status f_stopLine f_steps (nI p) f_outputCount f_gosubCount f_frameCount a_source a_tokens a_held a_programOrder a_lineNumber a_lineKeyword a_lineVariable a_lineRelation a_code a_codeStart a_codeEnd a_operands a_variables a_output a_returnTo a_frameVariable a_frameLimit a_frameBody := by
  have b16 := ho.1
  have ap := ho.2.1 p hp
  have bp := ho.2.2.1 (O p) ap.2
  have r1 : a_programOrder (nI p).toNatClampNeg = nI (O p) := by rw [nI_clamp (by omega)]; exact ap.1
  have r3 : a_lineNumber (a_programOrder (nI p).toNatClampNeg).toNatClampNeg = nI (N (O p)) := by rw [r1, nI_clamp (by omega)]; exact bp.1
  exact pk_le F i (fun _ => br_t rfl (pk_le nl p (fun y => absurd y (by omega)) (fun _ => ⟨vp_in_nI (by omega) (by omega), pk_in (O p) 16 (by omega) r1, nm_r r3 h⟩))) (fun y => absurd y (by omega))
theorem xx_lstep {F i p nl m k : Nat} {O N : Nat → Nat} (ho : tb_ord nl O N a_programOrder a_lineNumber a_lineNumber) (hF : F ≤ 1000) (hFi : i < F) (hp : p < nl)
    (h : wpX_execute (fun r u => match u with | (f_gosubDepth, f_forDepth, f_outCap, f_sourceLength, f_compiled, f_errorLine, f_tokenCount, f_tokenAt, f_heldCount, f_lineTotal, f_codeLength, f_dividedByZero, f_status, f_stopLine, f_steps, f_position, f_outputCount, f_gosubCount, f_frameCount, a_source, a_tokens, a_held, a_programOrder, a_lineNumber, a_lineKeyword, a_lineVariable, a_lineRelation, a_code, a_codeStart, a_codeEnd, a_operands, a_variables, a_output, a_returnTo, a_frameVariable, a_frameLimit, a_frameBody) => ∀ x3_53 : Int32, x3_53 = nI i + 1 → wX_runLoop_4 post (nI F) m r x3_53 f_gosubDepth f_forDepth f_outCap f_sourceLength f_compiled f_errorLine f_tokenCount f_tokenAt f_heldCount f_lineTotal f_codeLength f_dividedByZero f_status f_stopLine f_steps f_position f_outputCount f_gosubCount f_frameCount a_source a_tokens a_held a_programOrder a_lineNumber a_lineKeyword a_lineVariable a_lineRelation a_code a_codeStart a_codeEnd a_operands a_variables a_output a_returnTo a_frameVariable a_frameLimit a_frameBody) (f_gosubDepth, f_forDepth, f_outCap, f_sourceLength, f_compiled, f_errorLine, f_tokenCount, f_tokenAt, f_heldCount, nI nl, f_codeLength, f_dividedByZero, f_status, nI (N (O p)), nI (k + 1), nI p, f_outputCount, f_gosubCount, f_frameCount, a_source, a_tokens, a_held, a_programOrder, a_lineNumber, a_lineKeyword, a_lineVariable, a_lineRelation, a_code, a_codeStart, a_codeEnd, a_operands, a_variables, a_output, a_returnTo, a_frameVariable, a_frameLimit, a_frameBody) (nI (O p))) : wX_runLoop_4 post (nI F) (m + 1) 0 (nI i) f_gosubDepth f_forDepth f_outCap f_sourceLength f_compiled f_errorLine f_tokenCount f_tokenAt f_heldCount (nI nl) f_codeLength f_dividedByZero f_status f_stopLine (nI k) (nI p) f_outputCount f_gosubCount f_frameCount a_source a_tokens a_held a_programOrder a_lineNumber a_lineKeyword a_lineVariable a_lineRelation a_code a_codeStart a_codeEnd a_operands a_variables a_output a_returnTo a_frameVariable a_frameLimit a_frameBody := by
  have b16 := ho.1
  have ap := ho.2.1 p hp
  have bp := ho.2.2.1 (O p) ap.2
  have r1 : a_programOrder (nI p).toNatClampNeg = nI (O p) := by rw [nI_clamp (by omega)]; exact ap.1
  have r2 : a_lineNumber (nI (O p)).toNatClampNeg = nI (N (O p)) := by rw [nI_clamp (by omega)]; exact bp.1
  exact pk_le F i (fun y => absurd y (by omega)) (fun _ => br_t rfl (pk_le nl p (fun y => absurd y (by omega)) (fun _ => ⟨vp_in_nI (by omega) (by omega), nm_r r1 ⟨vp_in_nI (by omega) (by omega), nm_r r2 (nm_r (nI_1 k) h)⟩⟩)))
end
section
variable {f_sourceLength f_compiled f_errorLine f_tokenCount f_tokenAt f_heldCount f_codeLength f_status : Int32} {a_source a_tokens a_held a_programOrder a_lineNumber a_lineKeyword a_lineVariable a_lineRelation a_code a_codeStart a_codeEnd : Nat → Int32} {g_sourceLength g_compiled g_errorLine g_tokenCount g_tokenAt g_heldCount g_codeLength g_status : Int32} {b_source b_tokens b_held b_programOrder b_lineNumber b_lineKeyword b_lineVariable b_lineRelation b_code b_codeStart b_codeEnd : Nat → Int32} {g fd oc nl cl cl2 F G i0 j0 T k0 : Nat} {O N : Nat → Nat} {LL : Nat → List Nat} {post : St2 → Prop} {Z : (St2 → Prop) → Prop}
theorem tb_loop (hz : tb_sz g fd oc) (hcl : cl ≤ 256) (hcl2 : cl2 ≤ 256) (hx : tb_pg0 nl O N LL a_programOrder a_lineNumber a_lineKeyword a_lineVariable a_lineRelation a_code a_codeStart a_codeEnd cl) (hy : tb_pg0 nl O N LL b_programOrder b_lineNumber b_lineKeyword b_lineVariable b_lineRelation b_code b_codeStart b_codeEnd cl2) (hF : F ≤ 1000) (hG : G ≤ 1000) (hFT : F = i0 + T) (hjo : j0 + T ≤ G)
    (hEnd : ∀ (st sl : Int32) (r : Nat) (p ou gc fc : Nat) (dz : Int32) (ops V out rt fv fl fb : Nat → Int32), ¬ st = 2 → r ≤ T → p ≤ nl → tb_s15 g fd oc nl ou gc fc rt fv fb → (∀ Q : St2 → Prop, (∀ (dz : Int32) (ops : Nat → Int32), Q (nI g, nI fd, nI oc, g_sourceLength, g_compiled, g_errorLine, g_tokenCount, g_tokenAt, g_heldCount, nI nl, g_codeLength, dz, st, sl, nI (k0 + r), nI p, nI ou, nI gc, nI fc, b_source, b_tokens, b_held, b_programOrder, b_lineNumber, b_lineKeyword, b_lineVariable, b_lineRelation, b_code, b_codeStart, b_codeEnd, ops, V, out, rt, fv, fl, fb)) → Z Q) → post (nI g, nI fd, nI oc, f_sourceLength, f_compiled, f_errorLine, f_tokenCount, f_tokenAt, f_heldCount, nI nl, f_codeLength, dz, st, sl, nI (k0 + r), nI p, nI ou, nI gc, nI fc, a_source, a_tokens, a_held, a_programOrder, a_lineNumber, a_lineKeyword, a_lineVariable, a_lineRelation, a_code, a_codeStart, a_codeEnd, ops, V, out, rt, fv, fl, fb))
    (hOut : ∀ (p ou gc fc : Nat) (dz : Int32) (ops V out rt fv fl fb : Nat → Int32), p < nl → tb_s15 g fd oc nl ou gc fc rt fv fb → (∀ (Q : St2 → Prop) (m : Nat), (∀ (sl dz : Int32) (ops : Nat → Int32), wX_runLoop_4 Q (nI G) m 0 (nI (j0 + T)) (nI g) (nI fd) (nI oc) g_sourceLength g_compiled g_errorLine g_tokenCount g_tokenAt g_heldCount (nI nl) g_codeLength dz g_status sl (nI (k0 + T)) (nI p) (nI ou) (nI gc) (nI fc) b_source b_tokens b_held b_programOrder b_lineNumber b_lineKeyword b_lineVariable b_lineRelation b_code b_codeStart b_codeEnd ops V out rt fv fl fb) → Z Q) → post (nI g, nI fd, nI oc, f_sourceLength, f_compiled, f_errorLine, f_tokenCount, f_tokenAt, f_heldCount, nI nl, f_codeLength, dz, 2, nI (N (O p)), nI (k0 + T), nI p, nI ou, nI gc, nI fc, a_source, a_tokens, a_held, a_programOrder, a_lineNumber, a_lineKeyword, a_lineVariable, a_lineRelation, a_code, a_codeStart, a_codeEnd, ops, V, out, rt, fv, fl, fb)) :
    ∀ (d i : Nat) (sl : Int32) (p ou gc fc : Nat) (dz : Int32) (ops V out rt fv fl fb : Nat → Int32), i + d = T → p ≤ nl → tb_s15 g fd oc nl ou gc fc rt fv fb →
    (∀ (Q : St2 → Prop) (m : Nat), (∀ (sl dz : Int32) (ops : Nat → Int32), wX_runLoop_4 Q (nI G) m 0 (nI (j0 + i)) (nI g) (nI fd) (nI oc) g_sourceLength g_compiled g_errorLine g_tokenCount g_tokenAt g_heldCount (nI nl) g_codeLength dz g_status sl (nI (k0 + i)) (nI p) (nI ou) (nI gc) (nI fc) b_source b_tokens b_held b_programOrder b_lineNumber b_lineKeyword b_lineVariable b_lineRelation b_code b_codeStart b_codeEnd ops V out rt fv fl fb) → Z Q) →
    wX_runLoop_4 post (nI F) (d + 1) 0 (nI (i0 + i)) (nI g) (nI fd) (nI oc) f_sourceLength f_compiled f_errorLine f_tokenCount f_tokenAt f_heldCount (nI nl) f_codeLength dz f_status sl (nI (k0 + i)) (nI p) (nI ou) (nI gc) (nI fc) a_source a_tokens a_held a_programOrder a_lineNumber a_lineKeyword a_lineVariable a_lineRelation a_code a_codeStart a_codeEnd ops V out rt fv fl fb
  | d, i, sl, p, ou, gc, fc, dz, ops, V, out, rt, fv, fl, fb, hi, hp, hs, HY => by
    have b16 := hx.1.1
    rcases Nat.lt_or_ge p nl with z | z
    · cases d with
      | zero =>
        have iF : i = T := by omega
        subst iF
        exact xx_lout hx.1 hF (by omega) (by omega) z (hOut p ou gc fc dz ops V out rt fv fl fb z hs HY)
      | succ d =>
        refine xx_lstep hx.1 hF (by omega) z ?_
        refine tb_exec (g_stopLine := nI (N (O p))) (g_steps := nI (k0 + i + 1)) (g_status := g_status) (g_compiled := g_compiled) (g_errorLine := g_errorLine) (g_sourceLength := g_sourceLength) (g_codeLength := g_codeLength) (g_tokenCount := g_tokenCount) (g_tokenAt := g_tokenAt) (g_heldCount := g_heldCount) (b_source := b_source) (b_tokens := b_tokens) (b_held := b_held) (Z := fun Q => ∀ (dz : Int32) (ops : Nat → Int32), wpX_execute Q (nI g, nI fd, nI oc, g_sourceLength, g_compiled, g_errorLine, g_tokenCount, g_tokenAt, g_heldCount, nI nl, g_codeLength, dz, g_status, nI (N (O p)), nI (k0 + i + 1), nI p, nI ou, nI gc, nI fc, b_source, b_tokens, b_held, b_programOrder, b_lineNumber, b_lineKeyword, b_lineVariable, b_lineRelation, b_code, b_codeStart, b_codeEnd, ops, V, out, rt, fv, fl, fb) (nI (O p))) hz hcl hcl2 hx hy hs z (fun Q w => w) (fun o dz ops h0 h2 hq => nm_r (nI_1 (i0 + i)) (xx_lstop h0 (hEnd o (nI (N (O p))) (i + 1) p ou gc fc dz ops V out rt fv fl fb h2 (by omega) hp hs (fun Q w => HY Q 2 (fun sl dz ops => ?_))))) (fun p' ou' gc' fc' dz ops V' out' rt' fv' fl' fb' hp' hs' hq => nm_r (nI_1 (i0 + i)) (tb_loop hz hcl hcl2 hx hy hF hG hFT hjo hEnd hOut d (i + 1) _ p' ou' gc' fc' dz ops V' out' rt' fv' fl' fb' (by omega) hp' hs' (fun Q m w => HY Q (m + 1) (fun sl dz ops => ?_))))
        · exact xx_lstep hy.1 hG (by omega) z (hq _ (fun dz ops => nm_r (nI_1 (j0 + i)) (xx_lstop h0 (w dz ops))) dz ops)
        · exact xx_lstep hy.1 hG (by omega) z (hq _ (fun dz ops => nm_r (nI_1 (j0 + i)) (w _ dz ops)) dz ops)
    · exact xx_lhalt hF (by omega) z (by omega) (hEnd 1 (-1) i p ou gc fc dz ops V out rt fv fl fb (by decide) (by omega) hp hs (fun Q w => HY Q 1 (fun sl dz ops => xx_lhalt hG (by omega) z (by omega) (w dz ops))))
  termination_by d => d
end
end
section
/-! ===== the law's small steps ===== -/
theorem tl_cell {post : Int32 → Prop} {L : Nat} {xs : Nat → Int32} {x : Int32} {k : Nat} (hL : L ≤ 260) (hx : x = nI k) (hk : k < 2 ^ 31) (h : ∀ v, post v) : wpL_cell post L xs () x := by
  subst hx
  exact pk_le L k (fun _ => h 0) (fun z => ⟨vp_in_nI z (by omega), h _⟩)
theorem tl_m {post : Int32 → Prop} {x y : Int32} (k : Nat) (h0 : 0 < k) (hk : k < 1000) (hy : y = nI k) (h : ∀ r, r < k → post (nI r)) : wpL_m post () x y := by
  subst hy
  refine ⟨nI_ne0 h0 (by omega), nm_e ?_⟩
  have e := rem_toInt x (nI k)
  rw [nI_toInt (by omega)] at e
  have b := tmod_bounds (a := x.toInt) (M := (k : Int)) (by omega)
  generalize x - x / nI k * nI k = r at e
  by_cases z : (0 : Int32) ≤ r
  · refine br_t z ?_
    obtain ⟨j, hj, ej⟩ := nI_of (x := r) (Int32.not_lt.mpr z)
    subst ej
    rw [nI_toInt hj] at e
    exact h j (by omega)
  · refine br_f z ?_
    have z1 : r.toInt < 0 := by
      have := Int32.not_le.mp z
      rw [Int32.lt_iff_toInt_lt] at this
      exact this
    have e2 : r + nI k = nI (r.toInt + k).toNat := by
      apply Int32.toInt_inj.mp
      rw [Int32.toInt_add, nI_toInt (by omega), nI_toInt (by omega)]
      rw [Int.bmod_eq_of_le (by omega) (by omega)]
      omega
    rw [e2]
    exact h _ (by omega)
theorem tl_p {post : Int32 → Prop} (h : ∀ v, post v) (p0 p1 p2 p3 p4 p5 p6 p7 p8 p9 p10 p11 p12 p13 p14 : Int32) : wpL_p post () p0 p1 p2 p3 p4 p5 p6 p7 p8 p9 p10 p11 p12 p13 p14 := by
  unfold wpL_p
  simp only [h, implies_true, and_self]
theorem tl_stmt {post : Int32 → Prop} (h : ∀ v, post v) (p0 p1 p2 p3 p4 p5 : Int32) : wpL_stmt post () p0 p1 p2 p3 p4 p5 := by
  unfold wpL_stmt
  refine ⟨fun _ => tl_p h _ _ _ _ _ _ _ _ _ _ _ _ _ _ _, fun _ => ⟨fun _ => tl_p h _ _ _ _ _ _ _ _ _ _ _ _ _ _ _, fun _ => ?_⟩⟩
  repeat (refine ⟨fun _ => tl_p h _ _ _ _ _ _ _ _ _ _ _ _ _ _ _, fun _ => ?_⟩)
  trivial
theorem tl_ch {post : Int32 → Prop} {L : Nat} {xs : Nat → Int32} {n q : Nat} (hL : L ≤ 260) (hn : n ≤ 8) (hq : q ≤ 144) (h : ∀ v, post v) : wpL_ch post L xs () (nI n) (nI q) := by
  have d1 : nI q / 18 = nI (q / 18) := pk_div (d := 18) (by omega) (by omega) (by omega)
  have i8 : q / 18 ≤ 8 := by omega
  generalize q / 18 = i at d1 i8
  have e5 : 7 + 4 * nI i = nI (7 + 4 * i) := by
    show nI 7 + nI 4 * nI i = _
    rw [pk_mul, nI_add]
  refine ⟨by decide, nm_r d1 ⟨by decide, nm_e (br_c (fun _ => h _) (fun _ => br_c (fun _ => h _) (fun _ => br_c (fun _ => h _) (fun _ => br_c (fun _ => h _) (fun _ => nm_r e5 ?_)))))⟩⟩
  refine tl_cell hL rfl (by omega) (fun _ => tl_m 10 (by omega) (by omega) rfl (fun _ _ => ?_))
  refine tl_cell hL (nI_1 _) (by omega) (fun _ => tl_m 3 (by omega) (by omega) rfl (fun _ _ => nm_e ?_))
  refine tl_cell hL (nI_add _ 2) (by omega) (fun _ => tl_m 10 (by omega) (by omega) rfl (fun _ _ => nm_e ?_))
  refine tl_cell hL (nI_add _ 2) (by omega) (fun _ => tl_m 3 (by omega) (by omega) rfl (fun _ _ => nm_e ?_))
  refine tl_cell hL (nI_add _ 3) (by omega) (fun _ => tl_m (n + 1) (by omega) (by omega) (nI_1 n) (fun _ _ => nm_e ?_))
  exact tl_stmt h _ _ _ _ _ _
theorem xx_clamp2 {post : Int32 → Prop} {x : Int32} {r hi : Nat} (hr : 1 ≤ r) (hh : r ≤ hi) (h2 : hi < 2 ^ 31) (h : ((x < 1 ∧ r = 1) ∨ (¬ x < 1 ∧ ¬ x ≤ nI hi ∧ r = hi) ∨ (¬ x < 1 ∧ x = nI r))) (hp : post (nI r)) : wpX_clamp post () x 1 (nI hi) := by
  rcases h with ⟨a, b⟩ | ⟨a, b, c⟩ | ⟨a, b⟩
  · subst b
    exact br_f (Int32.not_le.mpr a) hp
  · subst c
    exact br_t (Int32.not_lt.mp a) (br_f b hp)
  · subst b
    exact br_t (Int32.not_lt.mp a) (br_t ((nI_leI (by omega) h2).mpr hh) hp)
theorem tl_init {post : St2 → Prop} {x1 x2 x3 : Int32} (h : ∀ g fd oc, tb_sz g fd oc → ((x1 < 1 ∧ g = 1) ∨ (¬ x1 < 1 ∧ ¬ x1 ≤ nI 8 ∧ g = 8) ∨ (¬ x1 < 1 ∧ x1 = nI g)) → ((x2 < 1 ∧ fd = 1) ∨ (¬ x2 < 1 ∧ ¬ x2 ≤ nI 8 ∧ fd = 8) ∨ (¬ x2 < 1 ∧ x2 = nI fd)) → ((x3 < 1 ∧ oc = 1) ∨ (¬ x3 < 1 ∧ ¬ x3 ≤ nI 32 ∧ oc = 32) ∨ (¬ x3 < 1 ∧ x3 = nI oc)) → post (nI g, nI fd, nI oc, nI 0, 0, 0, 0, 0, 0, 0, 0, 0, 0, -1, 0, 0, 0, 0, 0, tb_S (fun _ => 0), (fun _ => 0), (fun _ => 0), (fun _ => 0), (fun _ => 0), (fun _ => 0), (fun _ => 0), (fun _ => 0), (fun _ => 0), (fun _ => 0), (fun _ => 0), (fun _ => 0), tb_zr 26 (fun _ => 0), (fun _ => 0), (fun _ => 0), (fun _ => 0), (fun _ => 0), (fun _ => 0))) : wpX_init post 18 898 (0, 0, 0, 0, 0, 0, 0, 0, 0, 0, 0, 0, 0, 0, 0, 0, 0, 0, 0) x1 x2 x3 := by
  refine ⟨by omega, by omega, by omega, by omega, by omega, by omega, by omega, by omega, by omega, by omega, by omega, by omega, by omega, by omega, by omega, by omega, by omega, by omega, by omega, by omega, by omega, by omega, by omega, by omega, by omega, by omega, by omega, by omega, by omega, by omega, by omega, by omega, by omega, by omega, by omega, by omega, ?_⟩
  refine xx_clamp x1 8 (by omega) (by omega) (fun g g1 g2 g3 => ?_)
  refine xx_clamp x2 8 (by omega) (by omega) (fun fd d1 d2 d3 => ?_)
  refine xx_clamp x3 32 (by omega) (by omega) (fun oc o1 o2 o3 => ?_)
  exact xx_forget (h g fd oc ⟨g1, g2, d1, d2, o1, o2⟩ g3 d3 o3)
theorem tl_init2 {post : St2 → Prop} {x1 x2 x3 : Int32} {g fd oc : Nat} (hz : tb_sz g fd oc) (g3 : ((x1 < 1 ∧ g = 1) ∨ (¬ x1 < 1 ∧ ¬ x1 ≤ nI 8 ∧ g = 8) ∨ (¬ x1 < 1 ∧ x1 = nI g))) (d3 : ((x2 < 1 ∧ fd = 1) ∨ (¬ x2 < 1 ∧ ¬ x2 ≤ nI 8 ∧ fd = 8) ∨ (¬ x2 < 1 ∧ x2 = nI fd))) (o3 : ((x3 < 1 ∧ oc = 1) ∨ (¬ x3 < 1 ∧ ¬ x3 ≤ nI 32 ∧ oc = 32) ∨ (¬ x3 < 1 ∧ x3 = nI oc))) (h : post (nI g, nI fd, nI oc, nI 0, 0, 0, 0, 0, 0, 0, 0, 0, 0, -1, 0, 0, 0, 0, 0, tb_S (fun _ => 0), (fun _ => 0), (fun _ => 0), (fun _ => 0), (fun _ => 0), (fun _ => 0), (fun _ => 0), (fun _ => 0), (fun _ => 0), (fun _ => 0), (fun _ => 0), (fun _ => 0), tb_zr 26 (fun _ => 0), (fun _ => 0), (fun _ => 0), (fun _ => 0), (fun _ => 0), (fun _ => 0))) : wpX_init post 18 898 (0, 0, 0, 0, 0, 0, 0, 0, 0, 0, 0, 0, 0, 0, 0, 0, 0, 0, 0) x1 x2 x3 := by
  obtain ⟨g1, g2, d1, d2, o1, o2⟩ := hz
  refine ⟨by omega, by omega, by omega, by omega, by omega, by omega, by omega, by omega, by omega, by omega, by omega, by omega, by omega, by omega, by omega, by omega, by omega, by omega, by omega, by omega, by omega, by omega, by omega, by omega, by omega, by omega, by omega, by omega, by omega, by omega, by omega, by omega, by omega, by omega, by omega, by omega, ?_⟩
  refine xx_clamp2 (hi := 8) g1 g2 (by decide) g3 ?_
  refine xx_clamp2 (hi := 8) d1 d2 (by decide) d3 ?_
  refine xx_clamp2 (hi := 32) o1 o2 (by decide) o3 ?_
  exact xx_forget h
theorem tl_ok {post : Int32 → Prop} {st x : Int32} {y : Int64} {k s : Nat} (hx : x = nI k) (hy : y = lN s) (hk : k ≤ s) (hs : s < 1000) (h2 : st = 2 → k = s) (h : post 1) : wpL_ok post () st x y := by
  subst hx hy
  have e : (nI k).toInt64 = lN k := nI_l (by omega)
  refine br_f (nI_pos (by omega)) ?_
  rw [e]
  refine br_t ((lN_le (by omega) (by omega)).mpr hk) ?_
  by_cases z : st = 2
  · exact br_t z (br_t (by rw [h2 z]) h)
  · exact br_f z h
theorem xx_clampk {post : Int32 → Prop} {x : Int32} {a : Nat} (hx : x = nI a) (h1 : 1 ≤ a) (h2 : a ≤ 1000) (hp : post (nI a)) : wpX_clamp post () x 1 1000 := by
  subst hx
  exact br_t (nI_le (a := 1) h1 (by omega)) (br_t (nI_le (b := 1000) h2 (by omega)) hp)
/-! the getters of two objects -/
section
variable {f_gosubDepth f_forDepth f_outCap f_sourceLength f_compiled f_errorLine f_tokenCount f_tokenAt f_heldCount f_lineTotal f_codeLength f_dividedByZero f_status f_stopLine f_steps f_position f_outputCount f_gosubCount f_frameCount : Int32} {a_source a_tokens a_held a_programOrder a_lineNumber a_lineKeyword a_lineVariable a_lineRelation a_code a_codeStart a_codeEnd a_operands a_variables a_output a_returnTo a_frameVariable a_frameLimit a_frameBody : Nat → Int32} {g_gosubDepth g_forDepth g_outCap g_sourceLength g_compiled g_errorLine g_tokenCount g_tokenAt g_heldCount g_lineTotal g_codeLength g_dividedByZero g_status g_stopLine g_steps g_position g_outputCount g_gosubCount g_frameCount : Int32} {b_source b_tokens b_held b_programOrder b_lineNumber b_lineKeyword b_lineVariable b_lineRelation b_code b_codeStart b_codeEnd b_operands b_variables b_output b_returnTo b_frameVariable b_frameLimit b_frameBody : Nat → Int32} {K : Int32 → Int32 → Prop}
theorem tl_gv {i : Int32} (h : ∀ r, K r r) : wpX_getVar (fun r => wpX_getVar (fun r' => K r r') (g_gosubDepth, g_forDepth, g_outCap, g_sourceLength, g_compiled, g_errorLine, g_tokenCount, g_tokenAt, g_heldCount, g_lineTotal, g_codeLength, g_dividedByZero, g_status, g_stopLine, g_steps, g_position, g_outputCount, g_gosubCount, g_frameCount, b_source, b_tokens, b_held, b_programOrder, b_lineNumber, b_lineKeyword, b_lineVariable, b_lineRelation, b_code, b_codeStart, b_codeEnd, b_operands, a_variables, b_output, b_returnTo, b_frameVariable, b_frameLimit, b_frameBody) i) (f_gosubDepth, f_forDepth, f_outCap, f_sourceLength, f_compiled, f_errorLine, f_tokenCount, f_tokenAt, f_heldCount, f_lineTotal, f_codeLength, f_dividedByZero, f_status, f_stopLine, f_steps, f_position, f_outputCount, f_gosubCount, f_frameCount, a_source, a_tokens, a_held, a_programOrder, a_lineNumber, a_lineKeyword, a_lineVariable, a_lineRelation, a_code, a_codeStart, a_codeEnd, a_operands, a_variables, a_output, a_returnTo, a_frameVariable, a_frameLimit, a_frameBody) i := by
  refine br_c (fun z => br_t z (h _)) (fun z => br_c (fun y => br_f z (br_t y (h _))) (fun y => ?_))
  have hi : vp_in i 26 := by
    obtain ⟨j, hj, rfl⟩ := nI_of z
    exact vp_in_nI (Nat.lt_of_not_le (fun w => y (nI_le (a := 26) w hj))) (by omega)
  exact ⟨hi, br_f z (br_f y ⟨hi, h _⟩)⟩
theorem tl_go {i : Int32} {ou : Nat} (ho : ou ≤ 32) (h : ∀ r, K r r) : wpX_getOutput (fun r => wpX_getOutput (fun r' => K r r') (g_gosubDepth, g_forDepth, g_outCap, g_sourceLength, g_compiled, g_errorLine, g_tokenCount, g_tokenAt, g_heldCount, g_lineTotal, g_codeLength, g_dividedByZero, g_status, g_stopLine, g_steps, g_position, nI ou, g_gosubCount, g_frameCount, b_source, b_tokens, b_held, b_programOrder, b_lineNumber, b_lineKeyword, b_lineVariable, b_lineRelation, b_code, b_codeStart, b_codeEnd, b_operands, b_variables, a_output, b_returnTo, b_frameVariable, b_frameLimit, b_frameBody) i) (f_gosubDepth, f_forDepth, f_outCap, f_sourceLength, f_compiled, f_errorLine, f_tokenCount, f_tokenAt, f_heldCount, f_lineTotal, f_codeLength, f_dividedByZero, f_status, f_stopLine, f_steps, f_position, nI ou, f_gosubCount, f_frameCount, a_source, a_tokens, a_held, a_programOrder, a_lineNumber, a_lineKeyword, a_lineVariable, a_lineRelation, a_code, a_codeStart, a_codeEnd, a_operands, a_variables, a_output, a_returnTo, a_frameVariable, a_frameLimit, a_frameBody) i := by
  refine br_c (fun z => br_t z (h _)) (fun z => br_c (fun y => br_f z (br_t y (h _))) (fun y => ?_))
  have hi : vp_in i 32 := by
    obtain ⟨j, hj, rfl⟩ := nI_of z
    have : j < ou := Nat.lt_of_not_le (fun w => y (nI_le w hj))
    exact vp_in_nI (by omega) (by omega)
  exact ⟨hi, br_f z (br_f y ⟨hi, h _⟩)⟩
theorem tl_gs {i : Int32} (h : ∀ r, K r r) : wpX_getStackDepth (fun r => wpX_getStackDepth (fun r' => K r r') (g_gosubDepth, g_forDepth, g_outCap, g_sourceLength, g_compiled, g_errorLine, g_tokenCount, g_tokenAt, g_heldCount, g_lineTotal, g_codeLength, g_dividedByZero, g_status, g_stopLine, g_steps, g_position, g_outputCount, f_gosubCount, f_frameCount, b_source, b_tokens, b_held, b_programOrder, b_lineNumber, b_lineKeyword, b_lineVariable, b_lineRelation, b_code, b_codeStart, b_codeEnd, b_operands, b_variables, b_output, b_returnTo, b_frameVariable, b_frameLimit, b_frameBody) i) (f_gosubDepth, f_forDepth, f_outCap, f_sourceLength, f_compiled, f_errorLine, f_tokenCount, f_tokenAt, f_heldCount, f_lineTotal, f_codeLength, f_dividedByZero, f_status, f_stopLine, f_steps, f_position, f_outputCount, f_gosubCount, f_frameCount, a_source, a_tokens, a_held, a_programOrder, a_lineNumber, a_lineKeyword, a_lineVariable, a_lineRelation, a_code, a_codeStart, a_codeEnd, a_operands, a_variables, a_output, a_returnTo, a_frameVariable, a_frameLimit, a_frameBody) i :=
  br_c (fun z => br_t z (h _)) (fun z => br_c (fun y => br_f z (br_t y (h _))) (fun y => br_f z (br_f y (h _))))
end
end
section
/-! ===== the law's comparison ===== -/
section
variable {f_gosubDepth f_forDepth f_outCap f_sourceLength f_compiled f_errorLine f_tokenCount f_tokenAt f_heldCount f_lineTotal f_codeLength f_dividedByZero f_status f_stopLine f_steps f_position f_outputCount f_gosubCount f_frameCount : Int32} {a_source a_tokens a_held a_programOrder a_lineNumber a_lineKeyword a_lineVariable a_lineRelation a_code a_codeStart a_codeEnd a_operands a_variables a_output a_returnTo a_frameVariable a_frameLimit a_frameBody : Nat → Int32} {post : Int32 → Prop}
theorem xx_gst (h : post f_status) : wpX_getStatus post (f_gosubDepth, f_forDepth, f_outCap, f_sourceLength, f_compiled, f_errorLine, f_tokenCount, f_tokenAt, f_heldCount, f_lineTotal, f_codeLength, f_dividedByZero, f_status, f_stopLine, f_steps, f_position, f_outputCount, f_gosubCount, f_frameCount, a_source, a_tokens, a_held, a_programOrder, a_lineNumber, a_lineKeyword, a_lineVariable, a_lineRelation, a_code, a_codeStart, a_codeEnd, a_operands, a_variables, a_output, a_returnTo, a_frameVariable, a_frameLimit, a_frameBody) := h
theorem xx_gsp (h : post f_steps) : wpX_getSteps post (f_gosubDepth, f_forDepth, f_outCap, f_sourceLength, f_compiled, f_errorLine, f_tokenCount, f_tokenAt, f_heldCount, f_lineTotal, f_codeLength, f_dividedByZero, f_status, f_stopLine, f_steps, f_position, f_outputCount, f_gosubCount, f_frameCount, a_source, a_tokens, a_held, a_programOrder, a_lineNumber, a_lineKeyword, a_lineVariable, a_lineRelation, a_code, a_codeStart, a_codeEnd, a_operands, a_variables, a_output, a_returnTo, a_frameVariable, a_frameLimit, a_frameBody) := h
theorem xx_gsl (h : post f_stopLine) : wpX_getStopLine post (f_gosubDepth, f_forDepth, f_outCap, f_sourceLength, f_compiled, f_errorLine, f_tokenCount, f_tokenAt, f_heldCount, f_lineTotal, f_codeLength, f_dividedByZero, f_status, f_stopLine, f_steps, f_position, f_outputCount, f_gosubCount, f_frameCount, a_source, a_tokens, a_held, a_programOrder, a_lineNumber, a_lineKeyword, a_lineVariable, a_lineRelation, a_code, a_codeStart, a_codeEnd, a_operands, a_variables, a_output, a_returnTo, a_frameVariable, a_frameLimit, a_frameBody) := h
theorem xx_goc (h : post f_outputCount) : wpX_getOutputCount post (f_gosubDepth, f_forDepth, f_outCap, f_sourceLength, f_compiled, f_errorLine, f_tokenCount, f_tokenAt, f_heldCount, f_lineTotal, f_codeLength, f_dividedByZero, f_status, f_stopLine, f_steps, f_position, f_outputCount, f_gosubCount, f_frameCount, a_source, a_tokens, a_held, a_programOrder, a_lineNumber, a_lineKeyword, a_lineVariable, a_lineRelation, a_code, a_codeStart, a_codeEnd, a_operands, a_variables, a_output, a_returnTo, a_frameVariable, a_frameLimit, a_frameBody) := h
end
section
variable {f_gosubDepth f_forDepth f_outCap f_sourceLength f_compiled f_errorLine f_tokenCount f_tokenAt f_heldCount f_lineTotal f_codeLength f_dividedByZero f_status f_stopLine f_steps f_position f_gosubCount f_frameCount : Int32} {a_source a_tokens a_held a_programOrder a_lineNumber a_lineKeyword a_lineVariable a_lineRelation a_code a_codeStart a_codeEnd a_operands a_variables a_output a_returnTo a_frameVariable a_frameLimit a_frameBody : Nat → Int32} {g_gosubDepth g_forDepth g_outCap g_sourceLength g_compiled g_errorLine g_tokenCount g_tokenAt g_heldCount g_lineTotal g_codeLength g_dividedByZero g_position : Int32} {b_source b_tokens b_held b_programOrder b_lineNumber b_lineKeyword b_lineVariable b_lineRelation b_code b_codeStart b_codeEnd b_operands b_returnTo b_frameVariable b_frameLimit b_frameBody : Nat → Int32} {post : Int32 → Prop} {L : Nat} {xs : Nat → Int32} {J : Int32 → Int64 → Int32 → Int64 → Int32 → Int32 → Int32 → Int32 → Int32 → Int32 → Int32 → Int32 → Int32 → Int32 → Int32 → Int32 → Int32 → Int32 → Int32 → Int32 → Int32 → Int32 → Int32 → Int32 → (Nat → Int32) → (Nat → Int32) → (Nat → Int32) → (Nat → Int32) → (Nat → Int32) → (Nat → Int32) → (Nat → Int32) → (Nat → Int32) → (Nat → Int32) → (Nat → Int32) → (Nat → Int32) → (Nat → Int32) → (Nat → Int32) → (Nat → Int32) → (Nat → Int32) → (Nat → Int32) → (Nat → Int32) → (Nat → Int32) → Int32 → Int32 → Int32 → Int32 → Int32 → Int32 → Int32 → Int32 → Int32 → Int32 → Int32 → Int32 → Int32 → Int32 → Int32 → Int32 → Int32 → Int32 → Int32 → (Nat → Int32) → (Nat → Int32) → (Nat → Int32) → (Nat → Int32) → (Nat → Int32) → (Nat → Int32) → (Nat → Int32) → (Nat → Int32) → (Nat → Int32) → (Nat → Int32) → (Nat → Int32) → (Nat → Int32) → (Nat → Int32) → (Nat → Int32) → (Nat → Int32) → (Nat → Int32) → (Nat → Int32) → (Nat → Int32) → Prop} {x9 x10 x13 x16 : Int32} {x11 x14 : Int64} {kc ks ou : Nat}
theorem tl_453 (K : wL_law_453 post L xs J x9 x10 x11 x13 x14 x16 kc ks f_gosubDepth f_forDepth f_outCap f_sourceLength f_compiled f_errorLine f_tokenCount f_tokenAt f_heldCount f_lineTotal f_codeLength f_dividedByZero f_status f_stopLine f_steps f_position (nI ou) f_gosubCount f_frameCount a_source a_tokens a_held a_programOrder a_lineNumber a_lineKeyword a_lineVariable a_lineRelation a_code a_codeStart a_codeEnd a_operands a_variables a_output a_returnTo a_frameVariable a_frameLimit a_frameBody g_gosubDepth g_forDepth g_outCap g_sourceLength g_compiled g_errorLine g_tokenCount g_tokenAt g_heldCount g_lineTotal g_codeLength g_dividedByZero f_status f_stopLine f_steps g_position (nI ou) f_gosubCount f_frameCount b_source b_tokens b_held b_programOrder b_lineNumber b_lineKeyword b_lineVariable b_lineRelation b_code b_codeStart b_codeEnd b_operands a_variables a_output b_returnTo b_frameVariable b_frameLimit b_frameBody 1 (nI 3)) : ∃ fu, wL_law_453 post L xs J x9 x10 x11 x13 x14 x16 kc ks f_gosubDepth f_forDepth f_outCap f_sourceLength f_compiled f_errorLine f_tokenCount f_tokenAt f_heldCount f_lineTotal f_codeLength f_dividedByZero f_status f_stopLine f_steps f_position (nI ou) f_gosubCount f_frameCount a_source a_tokens a_held a_programOrder a_lineNumber a_lineKeyword a_lineVariable a_lineRelation a_code a_codeStart a_codeEnd a_operands a_variables a_output a_returnTo a_frameVariable a_frameLimit a_frameBody g_gosubDepth g_forDepth g_outCap g_sourceLength g_compiled g_errorLine g_tokenCount g_tokenAt g_heldCount g_lineTotal g_codeLength g_dividedByZero f_status f_stopLine f_steps g_position (nI ou) f_gosubCount f_frameCount b_source b_tokens b_held b_programOrder b_lineNumber b_lineKeyword b_lineVariable b_lineRelation b_code b_codeStart b_codeEnd b_operands a_variables a_output b_returnTo b_frameVariable b_frameLimit b_frameBody fu (-1) := by
  have s2 : wL_law_453 post L xs J x9 x10 x11 x13 x14 x16 kc ks f_gosubDepth f_forDepth f_outCap f_sourceLength f_compiled f_errorLine f_tokenCount f_tokenAt f_heldCount f_lineTotal f_codeLength f_dividedByZero f_status f_stopLine f_steps f_position (nI ou) f_gosubCount f_frameCount a_source a_tokens a_held a_programOrder a_lineNumber a_lineKeyword a_lineVariable a_lineRelation a_code a_codeStart a_codeEnd a_operands a_variables a_output a_returnTo a_frameVariable a_frameLimit a_frameBody g_gosubDepth g_forDepth g_outCap g_sourceLength g_compiled g_errorLine g_tokenCount g_tokenAt g_heldCount g_lineTotal g_codeLength g_dividedByZero f_status f_stopLine f_steps g_position (nI ou) f_gosubCount f_frameCount b_source b_tokens b_held b_programOrder b_lineNumber b_lineKeyword b_lineVariable b_lineRelation b_code b_codeStart b_codeEnd b_operands a_variables a_output b_returnTo b_frameVariable b_frameLimit b_frameBody 2 (nI 2) := br_f (by decide) (tl_gs (fun r => br_t rfl (nm_r (nI_1 2) K)))
  have s1 : wL_law_453 post L xs J x9 x10 x11 x13 x14 x16 kc ks f_gosubDepth f_forDepth f_outCap f_sourceLength f_compiled f_errorLine f_tokenCount f_tokenAt f_heldCount f_lineTotal f_codeLength f_dividedByZero f_status f_stopLine f_steps f_position (nI ou) f_gosubCount f_frameCount a_source a_tokens a_held a_programOrder a_lineNumber a_lineKeyword a_lineVariable a_lineRelation a_code a_codeStart a_codeEnd a_operands a_variables a_output a_returnTo a_frameVariable a_frameLimit a_frameBody g_gosubDepth g_forDepth g_outCap g_sourceLength g_compiled g_errorLine g_tokenCount g_tokenAt g_heldCount g_lineTotal g_codeLength g_dividedByZero f_status f_stopLine f_steps g_position (nI ou) f_gosubCount f_frameCount b_source b_tokens b_held b_programOrder b_lineNumber b_lineKeyword b_lineVariable b_lineRelation b_code b_codeStart b_codeEnd b_operands a_variables a_output b_returnTo b_frameVariable b_frameLimit b_frameBody 3 (nI 1) := br_f (by decide) (tl_gs (fun r => br_t rfl (nm_r (nI_1 1) s2)))
  have s0 : wL_law_453 post L xs J x9 x10 x11 x13 x14 x16 kc ks f_gosubDepth f_forDepth f_outCap f_sourceLength f_compiled f_errorLine f_tokenCount f_tokenAt f_heldCount f_lineTotal f_codeLength f_dividedByZero f_status f_stopLine f_steps f_position (nI ou) f_gosubCount f_frameCount a_source a_tokens a_held a_programOrder a_lineNumber a_lineKeyword a_lineVariable a_lineRelation a_code a_codeStart a_codeEnd a_operands a_variables a_output a_returnTo a_frameVariable a_frameLimit a_frameBody g_gosubDepth g_forDepth g_outCap g_sourceLength g_compiled g_errorLine g_tokenCount g_tokenAt g_heldCount g_lineTotal g_codeLength g_dividedByZero f_status f_stopLine f_steps g_position (nI ou) f_gosubCount f_frameCount b_source b_tokens b_held b_programOrder b_lineNumber b_lineKeyword b_lineVariable b_lineRelation b_code b_codeStart b_codeEnd b_operands a_variables a_output b_returnTo b_frameVariable b_frameLimit b_frameBody 4 (nI 0) := br_f (by decide) (tl_gs (fun r => br_t rfl (nm_r (nI_1 0) s1)))
  exact ⟨5, br_f (by decide) (tl_gs (fun r => br_t rfl (nm_r (e' := nI 0) (by decide) s0)))⟩
theorem tl_418L (ho : ou ≤ 32) (K : wL_law_453 post L xs J x9 x10 x11 x13 x14 x16 kc ks f_gosubDepth f_forDepth f_outCap f_sourceLength f_compiled f_errorLine f_tokenCount f_tokenAt f_heldCount f_lineTotal f_codeLength f_dividedByZero f_status f_stopLine f_steps f_position (nI ou) f_gosubCount f_frameCount a_source a_tokens a_held a_programOrder a_lineNumber a_lineKeyword a_lineVariable a_lineRelation a_code a_codeStart a_codeEnd a_operands a_variables a_output a_returnTo a_frameVariable a_frameLimit a_frameBody g_gosubDepth g_forDepth g_outCap g_sourceLength g_compiled g_errorLine g_tokenCount g_tokenAt g_heldCount g_lineTotal g_codeLength g_dividedByZero f_status f_stopLine f_steps g_position (nI ou) f_gosubCount f_frameCount b_source b_tokens b_held b_programOrder b_lineNumber b_lineKeyword b_lineVariable b_lineRelation b_code b_codeStart b_codeEnd b_operands a_variables a_output b_returnTo b_frameVariable b_frameLimit b_frameBody 1 (nI 3)) : ∀ d t, t + d = 33 → wL_law_418 post L xs J x9 x10 x11 x13 x14 x16 kc ks f_gosubDepth f_forDepth f_outCap f_sourceLength f_compiled f_errorLine f_tokenCount f_tokenAt f_heldCount f_lineTotal f_codeLength f_dividedByZero f_status f_stopLine f_steps f_position (nI ou) f_gosubCount f_frameCount a_source a_tokens a_held a_programOrder a_lineNumber a_lineKeyword a_lineVariable a_lineRelation a_code a_codeStart a_codeEnd a_operands a_variables a_output a_returnTo a_frameVariable a_frameLimit a_frameBody g_gosubDepth g_forDepth g_outCap g_sourceLength g_compiled g_errorLine g_tokenCount g_tokenAt g_heldCount g_lineTotal g_codeLength g_dividedByZero f_status f_stopLine f_steps g_position (nI ou) f_gosubCount f_frameCount b_source b_tokens b_held b_programOrder b_lineNumber b_lineKeyword b_lineVariable b_lineRelation b_code b_codeStart b_codeEnd b_operands a_variables a_output b_returnTo b_frameVariable b_frameLimit b_frameBody (d + 1) (nI t)
  | 0, t, ht => pk_lt 32 t (fun _ => tl_453 K) (fun z => absurd z (by omega))
  | d + 1, t, ht => pk_lt 32 t (fun z => absurd z (by omega)) (fun _ => tl_go ho (fun r => br_t rfl (nm_r (nI_1 t) (tl_418L ho K d (t + 1) (by omega)))))
theorem tl_418 (ho : ou ≤ 32) (K : wL_law_453 post L xs J x9 x10 x11 x13 x14 x16 kc ks f_gosubDepth f_forDepth f_outCap f_sourceLength f_compiled f_errorLine f_tokenCount f_tokenAt f_heldCount f_lineTotal f_codeLength f_dividedByZero f_status f_stopLine f_steps f_position (nI ou) f_gosubCount f_frameCount a_source a_tokens a_held a_programOrder a_lineNumber a_lineKeyword a_lineVariable a_lineRelation a_code a_codeStart a_codeEnd a_operands a_variables a_output a_returnTo a_frameVariable a_frameLimit a_frameBody g_gosubDepth g_forDepth g_outCap g_sourceLength g_compiled g_errorLine g_tokenCount g_tokenAt g_heldCount g_lineTotal g_codeLength g_dividedByZero f_status f_stopLine f_steps g_position (nI ou) f_gosubCount f_frameCount b_source b_tokens b_held b_programOrder b_lineNumber b_lineKeyword b_lineVariable b_lineRelation b_code b_codeStart b_codeEnd b_operands a_variables a_output b_returnTo b_frameVariable b_frameLimit b_frameBody 1 (nI 3)) : ∃ fu, wL_law_418 post L xs J x9 x10 x11 x13 x14 x16 kc ks f_gosubDepth f_forDepth f_outCap f_sourceLength f_compiled f_errorLine f_tokenCount f_tokenAt f_heldCount f_lineTotal f_codeLength f_dividedByZero f_status f_stopLine f_steps f_position (nI ou) f_gosubCount f_frameCount a_source a_tokens a_held a_programOrder a_lineNumber a_lineKeyword a_lineVariable a_lineRelation a_code a_codeStart a_codeEnd a_operands a_variables a_output a_returnTo a_frameVariable a_frameLimit a_frameBody g_gosubDepth g_forDepth g_outCap g_sourceLength g_compiled g_errorLine g_tokenCount g_tokenAt g_heldCount g_lineTotal g_codeLength g_dividedByZero f_status f_stopLine f_steps g_position (nI ou) f_gosubCount f_frameCount b_source b_tokens b_held b_programOrder b_lineNumber b_lineKeyword b_lineVariable b_lineRelation b_code b_codeStart b_codeEnd b_operands a_variables a_output b_returnTo b_frameVariable b_frameLimit b_frameBody fu (-1) :=
  ⟨35, br_f (by decide) (tl_go ho (fun r => br_t rfl (nm_r (e' := nI 0) (by decide) (tl_418L ho K 33 0 (by omega)))))⟩
theorem tl_368L (ho : ou ≤ 32) (K : wL_law_453 post L xs J x9 x10 x11 x13 x14 x16 kc ks f_gosubDepth f_forDepth f_outCap f_sourceLength f_compiled f_errorLine f_tokenCount f_tokenAt f_heldCount f_lineTotal f_codeLength f_dividedByZero f_status f_stopLine f_steps f_position (nI ou) f_gosubCount f_frameCount a_source a_tokens a_held a_programOrder a_lineNumber a_lineKeyword a_lineVariable a_lineRelation a_code a_codeStart a_codeEnd a_operands a_variables a_output a_returnTo a_frameVariable a_frameLimit a_frameBody g_gosubDepth g_forDepth g_outCap g_sourceLength g_compiled g_errorLine g_tokenCount g_tokenAt g_heldCount g_lineTotal g_codeLength g_dividedByZero f_status f_stopLine f_steps g_position (nI ou) f_gosubCount f_frameCount b_source b_tokens b_held b_programOrder b_lineNumber b_lineKeyword b_lineVariable b_lineRelation b_code b_codeStart b_codeEnd b_operands a_variables a_output b_returnTo b_frameVariable b_frameLimit b_frameBody 1 (nI 3)) : ∀ d t, t + d = 27 → wL_law_368 post L xs J x9 x10 x11 x13 x14 x16 kc ks f_gosubDepth f_forDepth f_outCap f_sourceLength f_compiled f_errorLine f_tokenCount f_tokenAt f_heldCount f_lineTotal f_codeLength f_dividedByZero f_status f_stopLine f_steps f_position (nI ou) f_gosubCount f_frameCount a_source a_tokens a_held a_programOrder a_lineNumber a_lineKeyword a_lineVariable a_lineRelation a_code a_codeStart a_codeEnd a_operands a_variables a_output a_returnTo a_frameVariable a_frameLimit a_frameBody g_gosubDepth g_forDepth g_outCap g_sourceLength g_compiled g_errorLine g_tokenCount g_tokenAt g_heldCount g_lineTotal g_codeLength g_dividedByZero f_status f_stopLine f_steps g_position (nI ou) f_gosubCount f_frameCount b_source b_tokens b_held b_programOrder b_lineNumber b_lineKeyword b_lineVariable b_lineRelation b_code b_codeStart b_codeEnd b_operands a_variables a_output b_returnTo b_frameVariable b_frameLimit b_frameBody (d + 1) (nI t)
  | 0, t, ht => pk_lt 26 t (fun _ => xx_goc (xx_goc (br_t rfl (tl_418 ho K)))) (fun z => absurd z (by omega))
  | d + 1, t, ht => pk_lt 26 t (fun z => absurd z (by omega)) (fun _ => tl_gv (fun r => br_t rfl (nm_r (nI_1 t) (tl_368L ho K d (t + 1) (by omega)))))
theorem tl_368 (ho : ou ≤ 32) (K : wL_law_453 post L xs J x9 x10 x11 x13 x14 x16 kc ks f_gosubDepth f_forDepth f_outCap f_sourceLength f_compiled f_errorLine f_tokenCount f_tokenAt f_heldCount f_lineTotal f_codeLength f_dividedByZero f_status f_stopLine f_steps f_position (nI ou) f_gosubCount f_frameCount a_source a_tokens a_held a_programOrder a_lineNumber a_lineKeyword a_lineVariable a_lineRelation a_code a_codeStart a_codeEnd a_operands a_variables a_output a_returnTo a_frameVariable a_frameLimit a_frameBody g_gosubDepth g_forDepth g_outCap g_sourceLength g_compiled g_errorLine g_tokenCount g_tokenAt g_heldCount g_lineTotal g_codeLength g_dividedByZero f_status f_stopLine f_steps g_position (nI ou) f_gosubCount f_frameCount b_source b_tokens b_held b_programOrder b_lineNumber b_lineKeyword b_lineVariable b_lineRelation b_code b_codeStart b_codeEnd b_operands a_variables a_output b_returnTo b_frameVariable b_frameLimit b_frameBody 1 (nI 3)) : ∃ fu, wL_law_368 post L xs J x9 x10 x11 x13 x14 x16 kc ks f_gosubDepth f_forDepth f_outCap f_sourceLength f_compiled f_errorLine f_tokenCount f_tokenAt f_heldCount f_lineTotal f_codeLength f_dividedByZero f_status f_stopLine f_steps f_position (nI ou) f_gosubCount f_frameCount a_source a_tokens a_held a_programOrder a_lineNumber a_lineKeyword a_lineVariable a_lineRelation a_code a_codeStart a_codeEnd a_operands a_variables a_output a_returnTo a_frameVariable a_frameLimit a_frameBody g_gosubDepth g_forDepth g_outCap g_sourceLength g_compiled g_errorLine g_tokenCount g_tokenAt g_heldCount g_lineTotal g_codeLength g_dividedByZero f_status f_stopLine f_steps g_position (nI ou) f_gosubCount f_frameCount b_source b_tokens b_held b_programOrder b_lineNumber b_lineKeyword b_lineVariable b_lineRelation b_code b_codeStart b_codeEnd b_operands a_variables a_output b_returnTo b_frameVariable b_frameLimit b_frameBody fu (-1) :=
  ⟨29, br_f (by decide) (tl_gv (fun r => br_t rfl (nm_r (e' := nI 0) (by decide) (tl_368L ho K 27 0 (by omega)))))⟩
theorem tl_cmp {n : Nat} {r : Int32} (h16 : ¬ 2 ≤ x16) (ho : ou ≤ 32) (K : wL_law_453 post L xs (wL_law_305 post L xs x9 kc ks n) x9 r x11 r x14 x16 kc ks f_gosubDepth f_forDepth f_outCap f_sourceLength f_compiled f_errorLine f_tokenCount f_tokenAt f_heldCount f_lineTotal f_codeLength f_dividedByZero f_status f_stopLine f_steps f_position (nI ou) f_gosubCount f_frameCount a_source a_tokens a_held a_programOrder a_lineNumber a_lineKeyword a_lineVariable a_lineRelation a_code a_codeStart a_codeEnd a_operands a_variables a_output a_returnTo a_frameVariable a_frameLimit a_frameBody g_gosubDepth g_forDepth g_outCap g_sourceLength g_compiled g_errorLine g_tokenCount g_tokenAt g_heldCount g_lineTotal g_codeLength g_dividedByZero f_status f_stopLine f_steps g_position (nI ou) f_gosubCount f_frameCount b_source b_tokens b_held b_programOrder b_lineNumber b_lineKeyword b_lineVariable b_lineRelation b_code b_codeStart b_codeEnd b_operands a_variables a_output b_returnTo b_frameVariable b_frameLimit b_frameBody 1 (nI 3)) : wL_law_305 post L xs x9 kc ks (n + 1) r x11 r x14 x16 f_gosubDepth f_forDepth f_outCap f_sourceLength f_compiled f_errorLine f_tokenCount f_tokenAt f_heldCount f_lineTotal f_codeLength f_dividedByZero f_status f_stopLine f_steps f_position (nI ou) f_gosubCount f_frameCount a_source a_tokens a_held a_programOrder a_lineNumber a_lineKeyword a_lineVariable a_lineRelation a_code a_codeStart a_codeEnd a_operands a_variables a_output a_returnTo a_frameVariable a_frameLimit a_frameBody g_gosubDepth g_forDepth g_outCap g_sourceLength g_compiled g_errorLine g_tokenCount g_tokenAt g_heldCount g_lineTotal g_codeLength g_dividedByZero f_status f_stopLine f_steps g_position (nI ou) f_gosubCount f_frameCount b_source b_tokens b_held b_programOrder b_lineNumber b_lineKeyword b_lineVariable b_lineRelation b_code b_codeStart b_codeEnd b_operands a_variables a_output b_returnTo b_frameVariable b_frameLimit b_frameBody :=
  br_f h16 (br_t rfl (xx_gst (xx_gst (br_t rfl (xx_gsl (xx_gsl (br_t rfl (xx_gsp (xx_gsp (br_t rfl (tl_368 ho K))))))))))) 
theorem tl_r1 {m : Nat} {r : Int32} (hp : post 1) (ho : ou ≤ 32) : wL_law_305 post L xs x9 kc ks (m + 2) r x11 r x14 1 f_gosubDepth f_forDepth f_outCap f_sourceLength f_compiled f_errorLine f_tokenCount f_tokenAt f_heldCount f_lineTotal f_codeLength f_dividedByZero f_status f_stopLine f_steps f_position (nI ou) f_gosubCount f_frameCount a_source a_tokens a_held a_programOrder a_lineNumber a_lineKeyword a_lineVariable a_lineRelation a_code a_codeStart a_codeEnd a_operands a_variables a_output a_returnTo a_frameVariable a_frameLimit a_frameBody g_gosubDepth g_forDepth g_outCap g_sourceLength g_compiled g_errorLine g_tokenCount g_tokenAt g_heldCount g_lineTotal g_codeLength g_dividedByZero f_status f_stopLine f_steps g_position (nI ou) f_gosubCount f_frameCount b_source b_tokens b_held b_programOrder b_lineNumber b_lineKeyword b_lineVariable b_lineRelation b_code b_codeStart b_codeEnd b_operands a_variables a_output b_returnTo b_frameVariable b_frameLimit b_frameBody :=
  tl_cmp (by decide) ho (br_t (by decide) (br_f tb_10 (nm_r (e' := 2) (by decide) (br_t (by decide) hp))))
end
section
variable {f_gosubDepth f_forDepth f_outCap f_sourceLength f_compiled f_errorLine f_tokenCount f_tokenAt f_heldCount f_lineTotal f_codeLength f_dividedByZero f_stopLine f_position f_outputCount f_gosubCount f_frameCount : Int32} {a_source a_tokens a_held a_programOrder a_lineNumber a_lineKeyword a_lineVariable a_lineRelation a_code a_codeStart a_codeEnd a_operands a_variables a_output a_returnTo a_frameVariable a_frameLimit a_frameBody : Nat → Int32} {g_gosubDepth g_forDepth g_outCap g_sourceLength g_compiled g_errorLine g_tokenCount g_tokenAt g_heldCount g_lineTotal g_codeLength g_dividedByZero g_stopLine g_position g_outputCount g_gosubCount g_frameCount : Int32} {b_source b_tokens b_held b_programOrder b_lineNumber b_lineKeyword b_lineVariable b_lineRelation b_code b_codeStart b_codeEnd b_operands b_variables b_output b_returnTo b_frameVariable b_frameLimit b_frameBody : Nat → Int32} {post : Int32 → Prop} {L : Nat} {xs : Nat → Int32} {J : Int32 → Int64 → Int32 → Int64 → Int32 → Int32 → Int32 → Int32 → Int32 → Int32 → Int32 → Int32 → Int32 → Int32 → Int32 → Int32 → Int32 → Int32 → Int32 → Int32 → Int32 → Int32 → Int32 → Int32 → (Nat → Int32) → (Nat → Int32) → (Nat → Int32) → (Nat → Int32) → (Nat → Int32) → (Nat → Int32) → (Nat → Int32) → (Nat → Int32) → (Nat → Int32) → (Nat → Int32) → (Nat → Int32) → (Nat → Int32) → (Nat → Int32) → (Nat → Int32) → (Nat → Int32) → (Nat → Int32) → (Nat → Int32) → (Nat → Int32) → Int32 → Int32 → Int32 → Int32 → Int32 → Int32 → Int32 → Int32 → Int32 → Int32 → Int32 → Int32 → Int32 → Int32 → Int32 → Int32 → Int32 → Int32 → Int32 → (Nat → Int32) → (Nat → Int32) → (Nat → Int32) → (Nat → Int32) → (Nat → Int32) → (Nat → Int32) → (Nat → Int32) → (Nat → Int32) → (Nat → Int32) → (Nat → Int32) → (Nat → Int32) → (Nat → Int32) → (Nat → Int32) → (Nat → Int32) → (Nat → Int32) → (Nat → Int32) → (Nat → Int32) → (Nat → Int32) → Prop} {x9 x10 x13 x16 st : Int32} {kc ks k s : Nat}
theorem tl_565 {x11 x14 : Int64} (hx : x11 = lN s) (hy : x14 = lN s) (hk : k ≤ s) (hs : s < 1000) (h2 : st = 2 → k = s) (K : J x10 x11 x13 x14 1 f_gosubDepth f_forDepth f_outCap f_sourceLength f_compiled f_errorLine f_tokenCount f_tokenAt f_heldCount f_lineTotal f_codeLength f_dividedByZero st f_stopLine (nI k) f_position f_outputCount f_gosubCount f_frameCount a_source a_tokens a_held a_programOrder a_lineNumber a_lineKeyword a_lineVariable a_lineRelation a_code a_codeStart a_codeEnd a_operands a_variables a_output a_returnTo a_frameVariable a_frameLimit a_frameBody g_gosubDepth g_forDepth g_outCap g_sourceLength g_compiled g_errorLine g_tokenCount g_tokenAt g_heldCount g_lineTotal g_codeLength g_dividedByZero st g_stopLine (nI k) g_position g_outputCount g_gosubCount g_frameCount b_source b_tokens b_held b_programOrder b_lineNumber b_lineKeyword b_lineVariable b_lineRelation b_code b_codeStart b_codeEnd b_operands b_variables b_output b_returnTo b_frameVariable b_frameLimit b_frameBody) : wL_law_565 post L xs J x9 x10 x11 x13 x14 0 kc ks f_gosubDepth f_forDepth f_outCap f_sourceLength f_compiled f_errorLine f_tokenCount f_tokenAt f_heldCount f_lineTotal f_codeLength f_dividedByZero st f_stopLine (nI k) f_position f_outputCount f_gosubCount f_frameCount a_source a_tokens a_held a_programOrder a_lineNumber a_lineKeyword a_lineVariable a_lineRelation a_code a_codeStart a_codeEnd a_operands a_variables a_output a_returnTo a_frameVariable a_frameLimit a_frameBody g_gosubDepth g_forDepth g_outCap g_sourceLength g_compiled g_errorLine g_tokenCount g_tokenAt g_heldCount g_lineTotal g_codeLength g_dividedByZero st g_stopLine (nI k) g_position g_outputCount g_gosubCount g_frameCount b_source b_tokens b_held b_programOrder b_lineNumber b_lineKeyword b_lineVariable b_lineRelation b_code b_codeStart b_codeEnd b_operands b_variables b_output b_returnTo b_frameVariable b_frameLimit b_frameBody := by
  unfold wL_law_565
  refine xx_gst (xx_gsp (tl_ok rfl hx hk hs h2 (br_f tb_10 ?_)))
  refine xx_gst (xx_gsp (tl_ok rfl hy hk hs h2 (br_f tb_10 (nm_r (e' := 1) (by decide) K))))
end
end
section
/-! ===== the law's second round ===== -/
section
variable {f_sourceLength f_compiled f_errorLine f_tokenCount f_tokenAt f_heldCount f_codeLength : Int32} {a_source a_tokens a_held a_programOrder a_lineNumber a_lineKeyword a_lineVariable a_lineRelation a_code a_codeStart a_codeEnd : Nat → Int32} {g_sourceLength g_compiled g_errorLine g_tokenCount g_tokenAt g_heldCount g_codeLength : Int32} {b_source b_tokens b_held b_programOrder b_lineNumber b_lineKeyword b_lineVariable b_lineRelation b_code b_codeStart b_codeEnd : Nat → Int32} {g fd oc nl cl cl2 : Nat} {O N : Nat → Nat} {LL : Nat → List Nat} {post : Int32 → Prop} {L : Nat} {xs : Nat → Int32} {kc ks : Nat}
theorem xx_cont2 {Q : Int32 → St2 → Prop} {f_gosubDepth f_forDepth f_outCap f_sourceLength f_compiled f_errorLine f_tokenCount f_tokenAt f_heldCount f_lineTotal f_codeLength f_dividedByZero f_stopLine f_steps f_position f_outputCount f_gosubCount f_frameCount : Int32} {a_source a_tokens a_held a_programOrder a_lineNumber a_lineKeyword a_lineVariable a_lineRelation a_code a_codeStart a_codeEnd a_operands a_variables a_output a_returnTo a_frameVariable a_frameLimit a_frameBody : Nat → Int32} {x : Int32} {a : Nat} (hx : x = nI a) (h1 : 1 ≤ a) (h2 : a ≤ 1000) (h : ∃ m, wX_runLoop_4 (fun u => match u with | (f_gosubDepth, f_forDepth, f_outCap, f_sourceLength, f_compiled, f_errorLine, f_tokenCount, f_tokenAt, f_heldCount, f_lineTotal, f_codeLength, f_dividedByZero, f_status, f_stopLine, f_steps, f_position, f_outputCount, f_gosubCount, f_frameCount, a_source, a_tokens, a_held, a_programOrder, a_lineNumber, a_lineKeyword, a_lineVariable, a_lineRelation, a_code, a_codeStart, a_codeEnd, a_operands, a_variables, a_output, a_returnTo, a_frameVariable, a_frameLimit, a_frameBody) => Q f_status (f_gosubDepth, f_forDepth, f_outCap, f_sourceLength, f_compiled, f_errorLine, f_tokenCount, f_tokenAt, f_heldCount, f_lineTotal, f_codeLength, f_dividedByZero, f_status, f_stopLine, f_steps, f_position, f_outputCount, f_gosubCount, f_frameCount, a_source, a_tokens, a_held, a_programOrder, a_lineNumber, a_lineKeyword, a_lineVariable, a_lineRelation, a_code, a_codeStart, a_codeEnd, a_operands, a_variables, a_output, a_returnTo, a_frameVariable, a_frameLimit, a_frameBody)) (nI a) m 0 0 f_gosubDepth f_forDepth f_outCap f_sourceLength f_compiled f_errorLine f_tokenCount f_tokenAt f_heldCount f_lineTotal f_codeLength f_dividedByZero 2 f_stopLine f_steps f_position f_outputCount f_gosubCount f_frameCount a_source a_tokens a_held a_programOrder a_lineNumber a_lineKeyword a_lineVariable a_lineRelation a_code a_codeStart a_codeEnd a_operands a_variables a_output a_returnTo a_frameVariable a_frameLimit a_frameBody) : wpX_cont Q (f_gosubDepth, f_forDepth, f_outCap, f_sourceLength, f_compiled, f_errorLine, f_tokenCount, f_tokenAt, f_heldCount, f_lineTotal, f_codeLength, f_dividedByZero, 2, f_stopLine, f_steps, f_position, f_outputCount, f_gosubCount, f_frameCount, a_source, a_tokens, a_held, a_programOrder, a_lineNumber, a_lineKeyword, a_lineVariable, a_lineRelation, a_code, a_codeStart, a_codeEnd, a_operands, a_variables, a_output, a_returnTo, a_frameVariable, a_frameLimit, a_frameBody) x :=
  br_t rfl (xx_clampk hx h1 h2 h)
theorem xx_run2 {Q : Int32 → St2 → Prop} {f_gosubDepth f_forDepth f_outCap f_sourceLength f_errorLine f_tokenCount f_tokenAt f_heldCount f_lineTotal f_codeLength f_dividedByZero f_status f_stopLine f_steps f_position f_outputCount f_gosubCount f_frameCount : Int32} {a_source a_tokens a_held a_programOrder a_lineNumber a_lineKeyword a_lineVariable a_lineRelation a_code a_codeStart a_codeEnd a_operands a_variables a_output a_returnTo a_frameVariable a_frameLimit a_frameBody : Nat → Int32} {x : Int32} {a : Nat} (hx : x = nI a) (h1 : 1 ≤ a) (h2 : a ≤ 1000) (h : ∃ m, wX_runLoop_4 (fun u => match u with | (f_gosubDepth, f_forDepth, f_outCap, f_sourceLength, f_compiled, f_errorLine, f_tokenCount, f_tokenAt, f_heldCount, f_lineTotal, f_codeLength, f_dividedByZero, f_status, f_stopLine, f_steps, f_position, f_outputCount, f_gosubCount, f_frameCount, a_source, a_tokens, a_held, a_programOrder, a_lineNumber, a_lineKeyword, a_lineVariable, a_lineRelation, a_code, a_codeStart, a_codeEnd, a_operands, a_variables, a_output, a_returnTo, a_frameVariable, a_frameLimit, a_frameBody) => Q f_status (f_gosubDepth, f_forDepth, f_outCap, f_sourceLength, f_compiled, f_errorLine, f_tokenCount, f_tokenAt, f_heldCount, f_lineTotal, f_codeLength, f_dividedByZero, f_status, f_stopLine, f_steps, f_position, f_outputCount, f_gosubCount, f_frameCount, a_source, a_tokens, a_held, a_programOrder, a_lineNumber, a_lineKeyword, a_lineVariable, a_lineRelation, a_code, a_codeStart, a_codeEnd, a_operands, a_variables, a_output, a_returnTo, a_frameVariable, a_frameLimit, a_frameBody)) (nI a) m 0 0 f_gosubDepth f_forDepth f_outCap f_sourceLength 1 f_errorLine f_tokenCount f_tokenAt f_heldCount f_lineTotal f_codeLength f_dividedByZero 0 (-1) 0 0 0 0 0 a_source a_tokens a_held a_programOrder a_lineNumber a_lineKeyword a_lineVariable a_lineRelation a_code a_codeStart a_codeEnd a_operands (tb_zr 26 a_variables) a_output a_returnTo a_frameVariable a_frameLimit a_frameBody) : wpX_run Q (f_gosubDepth, f_forDepth, f_outCap, f_sourceLength, 1, f_errorLine, f_tokenCount, f_tokenAt, f_heldCount, f_lineTotal, f_codeLength, f_dividedByZero, f_status, f_stopLine, f_steps, f_position, f_outputCount, f_gosubCount, f_frameCount, a_source, a_tokens, a_held, a_programOrder, a_lineNumber, a_lineKeyword, a_lineVariable, a_lineRelation, a_code, a_codeStart, a_codeEnd, a_operands, a_variables, a_output, a_returnTo, a_frameVariable, a_frameLimit, a_frameBody) x :=
  br_f tb_10 (xx_reset (xx_clampk hx h1 h2 h))
theorem tl_r0 {p ou gc fc k s c : Nat} {dz dz2 st sl r : Int32} {ops ops2 V out rt fv fl fb : Nat → Int32} (hp1 : post 1) (hz : tb_sz g fd oc) (hcl : cl ≤ 256) (hcl2 : cl2 ≤ 256) (hx : tb_pg0 nl O N LL a_programOrder a_lineNumber a_lineKeyword a_lineVariable a_lineRelation a_code a_codeStart a_codeEnd cl) (hy : tb_pg0 nl O N LL b_programOrder b_lineNumber b_lineKeyword b_lineVariable b_lineRelation b_code b_codeStart b_codeEnd cl2) (hp : p ≤ nl) (hs : tb_s15 g fd oc nl ou gc fc rt fv fb) (hk : k ≤ s) (hss : s ≤ 100) (h2 : st = 2 → k = s) (hc1 : 1 ≤ c) (hc2 : c ≤ 100) :
    wL_law_305 post L xs (nI c) kc ks 3 r (lN s) r (lN s) 0 (nI g) (nI fd) (nI oc) f_sourceLength f_compiled f_errorLine f_tokenCount f_tokenAt f_heldCount (nI nl) f_codeLength dz st sl (nI k) (nI p) (nI ou) (nI gc) (nI fc) a_source a_tokens a_held a_programOrder a_lineNumber a_lineKeyword a_lineVariable a_lineRelation a_code a_codeStart a_codeEnd ops V out rt fv fl fb (nI g) (nI fd) (nI oc) g_sourceLength g_compiled g_errorLine g_tokenCount g_tokenAt g_heldCount (nI nl) g_codeLength dz2 st sl (nI k) (nI p) (nI ou) (nI gc) (nI fc) b_source b_tokens b_held b_programOrder b_lineNumber b_lineKeyword b_lineVariable b_lineRelation b_code b_codeStart b_codeEnd ops2 V out rt fv fl fb := by
  have o32 : ou ≤ 32 := by have := hs.1; have := hz.2.2.2.2.2; omega
  refine tl_cmp (by decide) o32 (br_t (by decide) (br_t rfl (xx_gst ?_)))
  by_cases z : st = 2
  · subst z
    have ks' := h2 rfl
    refine br_t rfl (xx_gst (br_t rfl ?_))
    unfold wL_law_519
    refine xx_cont2 rfl hc1 (by omega) ⟨c + 1, ?_⟩
    have cs : lN s + (nI c).toInt64 = lN (s + c) := by rw [nI_l (by omega), lN_add]
    refine tb_loop (g_status := 2) (g_compiled := g_compiled) (g_errorLine := g_errorLine) (g_sourceLength := g_sourceLength) (g_codeLength := g_codeLength) (g_tokenCount := g_tokenCount) (g_tokenAt := g_tokenAt) (g_heldCount := g_heldCount) (b_source := b_source) (b_tokens := b_tokens) (b_held := b_held) (F := c) (G := c) (i0 := 0) (j0 := 0) (T := c) (k0 := k) (Z := fun Q => ∃ m, wX_runLoop_4 Q (nI c) m 0 0 (nI g) (nI fd) (nI oc) g_sourceLength g_compiled g_errorLine g_tokenCount g_tokenAt g_heldCount (nI nl) g_codeLength dz2 2 sl (nI k) (nI p) (nI ou) (nI gc) (nI fc) b_source b_tokens b_held b_programOrder b_lineNumber b_lineKeyword b_lineVariable b_lineRelation b_code b_codeStart b_codeEnd ops2 V out rt fv fl fb) hz hcl hcl2 hx hy (by omega) (by omega) (by omega) (by omega) (fun st' sl' r' p' ou' gc' fc' dz' ops' V' out' rt' fv' fl' fb' h1 h3 h4 h5 hq => ?_) (fun p' ou' gc' fc' dz' ops' V' out' rt' fv' fl' fb' h4 h5 hq => ?_) c 0 sl p ou gc fc dz ops V out rt fv fl fb (by omega) hp hs (fun Q m w => ⟨m, w _ _ _⟩)
    · have o32' : ou' ≤ 32 := by have := h5.1; have := hz.2.2.2.2.2; omega
      refine xx_cont2 rfl hc1 (by omega) (hq _ (fun dz ops => br_f tb_10 (nm_r cs (br_f tb_10 (nm_r cs ?_)))))
      exact tl_565 rfl rfl (by omega) (by omega) (fun y => absurd y h1) (tl_r1 hp1 o32')
    · have o32' : ou' ≤ 32 := by have := h5.1; have := hz.2.2.2.2.2; omega
      refine xx_cont2 rfl hc1 (by omega) (hq _ 1 (fun sl dz ops => xx_lout hy.1 (by omega) (by omega) (by omega) h4 (br_f tb_10 (nm_r cs (br_f tb_10 (nm_r cs ?_))))))
      exact tl_565 rfl rfl (by omega) (by omega) (fun _ => by omega) (tl_r1 hp1 o32')
  · refine br_f z (xx_gst (br_f z ?_))
    unfold wL_law_519
    refine br_f z (br_f z (br_t rfl (br_t rfl ?_)))
    exact tl_565 rfl rfl hk (by omega) (fun y => absurd y z) (tl_r1 hp1 o32)
end
end
section
/-! ===== the law ===== -/
section
variable {f_gosubDepth f_forDepth f_outCap f_sourceLength f_compiled f_errorLine f_tokenCount f_tokenAt f_heldCount f_lineTotal f_codeLength f_dividedByZero f_status f_stopLine f_steps f_position f_outputCount f_gosubCount f_frameCount : Int32} {a_source a_tokens a_held a_programOrder a_lineNumber a_lineKeyword a_lineVariable a_lineRelation a_code a_codeStart a_codeEnd a_operands a_variables a_output a_returnTo a_frameVariable a_frameLimit a_frameBody : Nat → Int32} {post : Int32 → St2 → Prop}
theorem xx_comp (h : ∃ m, wX_compile_13 post m 0 0 0 0 f_gosubDepth f_forDepth f_outCap f_sourceLength 0 0 f_tokenCount f_tokenAt f_heldCount 0 0 f_dividedByZero 0 (-1) 0 0 0 0 0 a_source a_tokens a_held a_programOrder a_lineNumber a_lineKeyword a_lineVariable a_lineRelation a_code a_codeStart a_codeEnd a_operands (tb_zr 26 a_variables) a_output a_returnTo a_frameVariable a_frameLimit a_frameBody) : wpX_compile post (f_gosubDepth, f_forDepth, f_outCap, f_sourceLength, f_compiled, f_errorLine, f_tokenCount, f_tokenAt, f_heldCount, f_lineTotal, f_codeLength, f_dividedByZero, f_status, f_stopLine, f_steps, f_position, f_outputCount, f_gosubCount, f_frameCount, a_source, a_tokens, a_held, a_programOrder, a_lineNumber, a_lineKeyword, a_lineVariable, a_lineRelation, a_code, a_codeStart, a_codeEnd, a_operands, a_variables, a_output, a_returnTo, a_frameVariable, a_frameLimit, a_frameBody) := by
  unfold wpX_compile
  exact xx_forget h
end
section
variable {f_compiled f_errorLine f_tokenCount f_tokenAt f_heldCount f_lineTotal f_codeLength f_dividedByZero f_status f_stopLine f_steps f_position f_outputCount f_gosubCount f_frameCount : Int32} {a_tokens a_held a_programOrder a_lineNumber a_lineKeyword a_lineVariable a_lineRelation a_code a_codeStart a_codeEnd a_operands a_variables a_output a_returnTo a_frameVariable a_frameLimit a_frameBody : Nat → Int32} {g_compiled g_errorLine g_tokenCount g_tokenAt g_heldCount g_lineTotal g_codeLength g_dividedByZero g_status g_stopLine g_steps g_position g_outputCount g_gosubCount g_frameCount : Int32} {b_tokens b_held b_programOrder b_lineNumber b_lineKeyword b_lineVariable b_lineRelation b_code b_codeStart b_codeEnd b_operands : Nat → Int32} {g fd oc n nn q m L kc ks : Nat} {C : Nat → Nat} {post : Int32 → Prop} {xs : Nat → Int32}
theorem tl_end (hp1 : post 1) (hL : L ≤ 260) (hz : tb_sz g fd oc) (hC : ∀ j, C j < 127) (hn : n ≤ 256) (h8 : nn ≤ 8) (hq1 : nn * 18 ≤ q) (hq2 : q ≤ 200) :
    wL_law_76 post L xs (nI nn) kc ks (m + 1) (nI q) (nI g) (nI fd) (nI oc) (nI n) f_compiled f_errorLine f_tokenCount f_tokenAt f_heldCount f_lineTotal f_codeLength f_dividedByZero f_status f_stopLine f_steps f_position f_outputCount f_gosubCount f_frameCount (tb_S C) a_tokens a_held a_programOrder a_lineNumber a_lineKeyword a_lineVariable a_lineRelation a_code a_codeStart a_codeEnd a_operands a_variables a_output a_returnTo a_frameVariable a_frameLimit a_frameBody (nI g) (nI fd) (nI oc) (nI n) g_compiled g_errorLine g_tokenCount g_tokenAt g_heldCount g_lineTotal g_codeLength g_dividedByZero g_status g_stopLine g_steps g_position g_outputCount g_gosubCount g_frameCount (tb_S C) b_tokens b_held b_programOrder b_lineNumber b_lineKeyword b_lineVariable b_lineRelation b_code b_codeStart b_codeEnd b_operands a_variables a_output a_returnTo a_frameVariable a_frameLimit a_frameBody := by
  refine pk_le (nn * 18) q (fun _ => ?_) (fun y => absurd y (by omega)) (pk_mul nn 18) rfl (by omega) (by omega)
  refine xx_comp ⟨n + 2, ?_⟩
  refine tb_comp (g_gosubDepth := nI g) (g_forDepth := nI fd) (g_outCap := nI oc) (g_dividedByZero := g_dividedByZero) (g_status := 0) (g_stopLine := -1) (g_steps := 0) (g_position := 0) (g_outputCount := 0) (g_gosubCount := 0) (g_frameCount := 0) (b_operands := b_operands) (b_variables := tb_zr 26 a_variables) (b_output := a_output) (b_returnTo := a_returnTo) (b_frameVariable := a_frameVariable) (b_frameLimit := a_frameLimit) (b_frameBody := a_frameBody) (Z := fun Q => ∃ m, wX_compile_13 Q m 0 0 0 0 (nI g) (nI fd) (nI oc) (nI n) 0 0 g_tokenCount g_tokenAt g_heldCount 0 0 g_dividedByZero 0 (-1) 0 0 0 0 0 (tb_S C) b_tokens b_held b_programOrder b_lineNumber b_lineKeyword b_lineVariable b_lineRelation b_code b_codeStart b_codeEnd b_operands (tb_zr 26 a_variables) a_output a_returnTo a_frameVariable a_frameLimit a_frameBody) hC hn (fun r k cl tc ta hc tk hd ln lk lv lr cd cs ce po hr => br_f hr hp1) (fun nl O N LL cl tc ta hc tk hd ln lk lv lr cd cs ce po hcl hx hq => br_t rfl (xx_comp (hq _ (fun cl2 tc2 ta2 hc2 tk2 hd2 ln2 lk2 lv2 lr2 cd2 cs2 ce2 po2 hcl2 hy => br_t rfl ?_)))) (n + 1) 0 0 0 0 (n + 2) (fun _ => 0) (fun _ => 0) (fun _ => []) _ _ _ _ _ _ _ _ _ _ _ _ _ (by omega) (by omega) (by omega) (by omega) (by omega) tb_pg0_0 (fun Q w => ⟨n + 2, w (n + 2) 0 g_tokenCount g_tokenAt g_heldCount b_tokens b_held b_lineNumber b_lineKeyword b_lineVariable b_lineRelation b_code b_codeStart b_codeEnd b_programOrder (by omega) (by omega) tb_pg0_0⟩)
  refine tl_cell hL (k := 4) rfl (by omega) (fun _ => tl_m 20 (by omega) (by omega) rfl (fun a ha => nm_r (nI_add 1 a) ?_))
  refine tl_cell hL (k := 5) rfl (by omega) (fun _ => tl_m 40 (by omega) (by omega) rfl (fun b hb => nm_r (nI_add 1 b) ?_))
  refine tl_cell hL (k := 6) rfl (by omega) (fun _ => tl_m 100 (by omega) (by omega) rfl (fun c hc' => nm_r (nI_add 1 c) ?_))
  have eA : (nI (1 + a)).toInt64 = lN (1 + a) := nI_l (by omega)
  have eS : (nI (1 + a) + nI (1 + b)).toInt64 = lN (1 + a + (1 + b)) := by rw [nI_add, nI_l (by omega)]
  have eT : (nI (1 + a)).toInt64 + (nI (1 + b)).toInt64 = lN (1 + a + (1 + b)) := by rw [nI_l (by omega), nI_l (by omega), lN_add]
  refine xx_run2 rfl (by omega) (by omega) ⟨1 + a + 1, ?_⟩
  refine tb_loop (g_status := 0) (g_compiled := 1) (g_errorLine := 0) (g_sourceLength := nI n) (g_codeLength := nI cl2) (g_tokenCount := tc2) (g_tokenAt := ta2) (g_heldCount := hc2) (b_source := tb_S C) (b_tokens := tk2) (b_held := hd2) (F := 1 + a) (G := 1 + a + (1 + b)) (i0 := 0) (j0 := 0) (T := 1 + a) (k0 := 0) (Z := fun Q => ∃ m, wX_runLoop_4 Q (nI (1 + a + (1 + b))) m 0 0 (nI g) (nI fd) (nI oc) (nI n) 1 0 tc2 ta2 hc2 (nI nl) (nI cl2) g_dividedByZero 0 (-1) 0 0 0 0 0 (tb_S C) tk2 hd2 po2 ln2 lk2 lv2 lr2 cd2 cs2 ce2 b_operands (tb_zr 26 (tb_zr 26 a_variables)) a_output a_returnTo a_frameVariable a_frameLimit a_frameBody) hz hcl hcl2 hx hy (by omega) (by omega) (by omega) (by omega) (fun st sl r p ou gc fc dz ops V out rt fv fl fb h1 h2 h3 h4 hq => ?_) (fun p ou gc fc dz ops V out rt fv fl fb h3 h4 hq => ?_) (1 + a) 0 (-1) 0 0 0 0 _ _ _ _ _ _ _ _ (by omega) (Nat.zero_le _) tb_s15_0 (fun Q m w => ⟨m, w _ _ _⟩)
  · exact xx_gst (xx_gsp (tl_ok rfl eA (by omega) (by omega) (fun y => absurd y h1) (br_f tb_10 (br_f h1 hp1))))
  · refine xx_gst (xx_gsp (tl_ok rfl eA (by omega) (by omega) (fun _ => by omega) (br_f tb_10 (br_t rfl ?_))))
    refine xx_run2 (nI_add _ _) (by omega) (by omega) (hq _ (1 + b + 1) (fun sl dz2 ops2 => ?_))
    refine tb_loop (g_status := 2) (g_compiled := 1) (g_errorLine := 0) (g_sourceLength := nI n) (g_codeLength := nI cl) (g_tokenCount := tc) (g_tokenAt := ta) (g_heldCount := hc) (b_source := tb_S C) (b_tokens := tk) (b_held := hd) (F := 1 + a + (1 + b)) (G := 1 + b) (i0 := 0 + (1 + a)) (j0 := 0) (T := 1 + b) (k0 := 0 + (1 + a)) (Z := fun Q => ∃ m, wX_runLoop_4 Q (nI (1 + b)) m 0 0 (nI g) (nI fd) (nI oc) (nI n) 1 0 tc ta hc (nI nl) (nI cl) dz 2 (nI (N (O p))) (nI (0 + (1 + a))) (nI p) (nI ou) (nI gc) (nI fc) (tb_S C) tk hd po ln lk lv lr cd cs ce ops V out rt fv fl fb) hz hcl2 hcl hy hx (by omega) (by omega) (by omega) (by omega) (fun st sl' r p' ou' gc' fc' dz' ops' V' out' rt' fv' fl' fb' i1 i2 i3 i4 hq2 => ?_) (fun p' ou' gc' fc' dz' ops' V' out' rt' fv' fl' fb' i3 i4 hq2 => ?_) (1 + b) 0 sl p ou gc fc dz2 ops2 V out rt fv fl fb (by omega) (by omega) h4 (fun Q m w => ⟨m, w _ _ _⟩)
    · refine nm_r eS (xx_gst (xx_gsp (tl_ok rfl rfl (by omega) (by omega) (fun y => absurd y i1) (br_f tb_10 ?_))))
      refine xx_cont2 rfl (by omega) (by omega) (hq2 _ (fun dz ops => nm_r eT (xx_gst (xx_gsp (tl_ok rfl rfl (by omega) (by omega) (fun y => absurd y i1) (br_f tb_10 ⟨3, ?_⟩))))))
      exact tl_r0 hp1 hz hcl hcl2 hx hy i3 i4 (by omega) (by omega) (fun y => absurd y i1) (by omega) (by omega)
    · refine nm_r eS (xx_gst (xx_gsp (tl_ok rfl rfl (by omega) (by omega) (fun _ => by omega) (br_f tb_10 ?_))))
      refine xx_cont2 rfl (by omega) (by omega) (hq2 _ 1 (fun sl dz ops => xx_lout hx.1 (by omega) (by omega) (by omega) i3 (nm_r eT (xx_gst (xx_gsp (tl_ok rfl rfl (by omega) (by omega) (fun _ => by omega) (br_f tb_10 ⟨3, ?_⟩)))))))
      exact tl_r0 hp1 hz hcl hcl2 hx hy (by omega) i4 (by omega) (by omega) (fun _ => by omega) (by omega) (by omega)
end
section
variable {g fd oc nn L kc ks : Nat} {post : Int32 → Prop} {xs : Nat → Int32}
theorem tl_76 (hp1 : post 1) (hL : L ≤ 260) (hz : tb_sz g fd oc) (h8 : nn ≤ 8) : ∀ (d q n : Nat) (C : Nat → Nat) (f_compiled f_errorLine f_tokenCount f_tokenAt f_heldCount f_lineTotal f_codeLength f_dividedByZero f_status f_stopLine f_steps f_position f_outputCount f_gosubCount f_frameCount : Int32) (a_tokens a_held a_programOrder a_lineNumber a_lineKeyword a_lineVariable a_lineRelation a_code a_codeStart a_codeEnd a_operands a_variables a_output a_returnTo a_frameVariable a_frameLimit a_frameBody : Nat → Int32) (g_compiled g_errorLine g_tokenCount g_tokenAt g_heldCount g_lineTotal g_codeLength g_dividedByZero g_status g_stopLine g_steps g_position g_outputCount g_gosubCount g_frameCount : Int32) (b_tokens b_held b_programOrder b_lineNumber b_lineKeyword b_lineVariable b_lineRelation b_code b_codeStart b_codeEnd b_operands : Nat → Int32), q + d = nn * 18 → n ≤ q → (∀ j, C j < 127) → wL_law_76 post L xs (nI nn) kc ks (d + 1) (nI q) (nI g) (nI fd) (nI oc) (nI n) f_compiled f_errorLine f_tokenCount f_tokenAt f_heldCount f_lineTotal f_codeLength f_dividedByZero f_status f_stopLine f_steps f_position f_outputCount f_gosubCount f_frameCount (tb_S C) a_tokens a_held a_programOrder a_lineNumber a_lineKeyword a_lineVariable a_lineRelation a_code a_codeStart a_codeEnd a_operands a_variables a_output a_returnTo a_frameVariable a_frameLimit a_frameBody (nI g) (nI fd) (nI oc) (nI n) g_compiled g_errorLine g_tokenCount g_tokenAt g_heldCount g_lineTotal g_codeLength g_dividedByZero g_status g_stopLine g_steps g_position g_outputCount g_gosubCount g_frameCount (tb_S C) b_tokens b_held b_programOrder b_lineNumber b_lineKeyword b_lineVariable b_lineRelation b_code b_codeStart b_codeEnd b_operands a_variables a_output a_returnTo a_frameVariable a_frameLimit a_frameBody
  | 0, q, n, C, f_compiled, f_errorLine, f_tokenCount, f_tokenAt, f_heldCount, f_lineTotal, f_codeLength, f_dividedByZero, f_status, f_stopLine, f_steps, f_position, f_outputCount, f_gosubCount, f_frameCount, a_tokens, a_held, a_programOrder, a_lineNumber, a_lineKeyword, a_lineVariable, a_lineRelation, a_code, a_codeStart, a_codeEnd, a_operands, a_variables, a_output, a_returnTo, a_frameVariable, a_frameLimit, a_frameBody, g_compiled, g_errorLine, g_tokenCount, g_tokenAt, g_heldCount, g_lineTotal, g_codeLength, g_dividedByZero, g_status, g_stopLine, g_steps, g_position, g_outputCount, g_gosubCount, g_frameCount, b_tokens, b_held, b_programOrder, b_lineNumber, b_lineKeyword, b_lineVariable, b_lineRelation, b_code, b_codeStart, b_codeEnd, b_operands, hd, hn, hC => tl_end hp1 hL hz hC (by omega) h8 (by omega) (by omega)
  | d + 1, q, n, C, f_compiled, f_errorLine, f_tokenCount, f_tokenAt, f_heldCount, f_lineTotal, f_codeLength, f_dividedByZero, f_status, f_stopLine, f_steps, f_position, f_outputCount, f_gosubCount, f_frameCount, a_tokens, a_held, a_programOrder, a_lineNumber, a_lineKeyword, a_lineVariable, a_lineRelation, a_code, a_codeStart, a_codeEnd, a_operands, a_variables, a_output, a_returnTo, a_frameVariable, a_frameLimit, a_frameBody, g_compiled, g_errorLine, g_tokenCount, g_tokenAt, g_heldCount, g_lineTotal, g_codeLength, g_dividedByZero, g_status, g_stopLine, g_steps, g_position, g_outputCount, g_gosubCount, g_frameCount, b_tokens, b_held, b_programOrder, b_lineNumber, b_lineKeyword, b_lineVariable, b_lineRelation, b_code, b_codeStart, b_codeEnd, b_operands, hd, hn, hC => by
    refine pk_le (nn * 18) q (fun y => absurd y (by omega)) (fun _ => tl_ch hL h8 (by omega) (fun v => ?_)) (pk_mul nn 18) rfl (by omega) (by omega)
    by_cases z : v = 0
    · have gl : ∀ P : Int32 → Prop, P 0 → wpX_groupLength P () v 0 0 0 := fun P h => br_t z h
      have PX : ∀ {Q : Int32 → St2 → Prop}, Q 0 (nI g, nI fd, nI oc, nI n, f_compiled, f_errorLine, f_tokenCount, f_tokenAt, f_heldCount, f_lineTotal, f_codeLength, f_dividedByZero, f_status, f_stopLine, f_steps, f_position, f_outputCount, f_gosubCount, f_frameCount, tb_S C, a_tokens, a_held, a_programOrder, a_lineNumber, a_lineKeyword, a_lineVariable, a_lineRelation, a_code, a_codeStart, a_codeEnd, a_operands, a_variables, a_output, a_returnTo, a_frameVariable, a_frameLimit, a_frameBody) → wpX_put Q (nI g, nI fd, nI oc, nI n, f_compiled, f_errorLine, f_tokenCount, f_tokenAt, f_heldCount, f_lineTotal, f_codeLength, f_dividedByZero, f_status, f_stopLine, f_steps, f_position, f_outputCount, f_gosubCount, f_frameCount, tb_S C, a_tokens, a_held, a_programOrder, a_lineNumber, a_lineKeyword, a_lineVariable, a_lineRelation, a_code, a_codeStart, a_codeEnd, a_operands, a_variables, a_output, a_returnTo, a_frameVariable, a_frameLimit, a_frameBody) v 0 0 0 := fun {Q} h => by
        unfold wpX_put
        exact gl _ (br_t rfl h)
      have PY : ∀ {Q : Int32 → St2 → Prop}, Q 0 (nI g, nI fd, nI oc, nI n, g_compiled, g_errorLine, g_tokenCount, g_tokenAt, g_heldCount, g_lineTotal, g_codeLength, g_dividedByZero, g_status, g_stopLine, g_steps, g_position, g_outputCount, g_gosubCount, g_frameCount, tb_S C, b_tokens, b_held, b_programOrder, b_lineNumber, b_lineKeyword, b_lineVariable, b_lineRelation, b_code, b_codeStart, b_codeEnd, b_operands, a_variables, a_output, a_returnTo, a_frameVariable, a_frameLimit, a_frameBody) → wpX_put Q (nI g, nI fd, nI oc, nI n, g_compiled, g_errorLine, g_tokenCount, g_tokenAt, g_heldCount, g_lineTotal, g_codeLength, g_dividedByZero, g_status, g_stopLine, g_steps, g_position, g_outputCount, g_gosubCount, g_frameCount, tb_S C, b_tokens, b_held, b_programOrder, b_lineNumber, b_lineKeyword, b_lineVariable, b_lineRelation, b_code, b_codeStart, b_codeEnd, b_operands, a_variables, a_output, a_returnTo, a_frameVariable, a_frameLimit, a_frameBody) v 0 0 0 := fun {Q} h => by
        unfold wpX_put
        exact gl _ (br_t rfl h)
      exact PX (PY (nm_r (nI_1 q) (tl_76 hp1 hL hz h8 d (q + 1) n C _ _ _ _ _ _ _ _ _ _ _ _ _ _ _ _ _ _ _ _ _ _ _ _ _ _ _ _ _ _ _ _ _ _ _ _ _ _ _ _ _ _ _ _ _ _ _ _ _ _ _ _ _ _ _ _ _ _ (by omega) (by omega) hC)))
    · have gl : ∀ P : Int32 → Prop, P (nI 1) → wpX_groupLength P () v 0 0 0 := fun P h => br_f z (br_t rfl h)
      refine xx_put (m := 1) (by omega) (by omega) gl (fun h => ?_) (fun h c1 c2 c3 c4 hc => ?_)
      · refine xx_put (m := 1) (by omega) (by omega) gl (fun _ => ?_) (fun h' => absurd h' h)
        exact nm_r (nI_1 q) (tl_76 hp1 hL hz h8 d (q + 1) n C _ _ _ _ _ _ _ _ _ _ _ _ _ _ _ _ _ _ _ _ _ _ _ _ _ _ _ _ _ _ _ _ _ _ _ _ _ _ _ _ _ _ _ _ _ _ _ _ _ _ _ _ _ _ _ _ _ _ (by omega) (by omega) hC)
      · refine xx_put (m := 1) (by omega) (by omega) gl (fun h' => absurd h h') (fun _ e1 e2 e3 e4 he => ?_)
        have ce : e1 = c1 := by
          have a := hc.2.2.2.2.1
          have b := he.2.2.2.2.1
          have := hc.1
          have := he.1
          exact (nI_eq (by omega) (by omega)).mp (b.symm.trans a)
        have ap : tb_ap C n 1 e1 e2 e3 e4 = tb_ap C n 1 c1 c2 c3 c4 := by
          rw [ce]
          rfl
        rw [ap]
        exact nm_r (nI_1 q) (tl_76 hp1 hL hz h8 d (q + 1) (n + 1) (tb_ap C n 1 c1 c2 c3 c4) _ _ _ _ _ _ _ _ _ _ _ _ _ _ _ _ _ _ _ _ _ _ _ _ _ _ _ _ _ _ _ _ _ _ _ _ _ _ _ _ _ _ _ _ _ _ _ _ _ _ _ _ _ _ _ _ _ _ (by omega) (by omega) (tb_ap_lt hC hc.1 hc.2.1 hc.2.2.1 hc.2.2.2.1))
end
end
section
theorem tl_start {xs : Nat → Int32} {L n0 kc ks : Nat} (hL : L ≤ 260) (hn0 : n0 < 8) {g fd oc : Nat} (hz : tb_sz g fd oc) : wL_law_76 (fun r => r = 1) L xs (nI (1 + n0)) kc ks ((1 + n0) * 18 + 1) (nI 0) (nI g) (nI fd) (nI oc) (nI 0) 0 0 0 0 0 0 0 0 0 (-1) 0 0 0 0 0 (tb_S (fun _ => 0)) ((fun _ => 0)) ((fun _ => 0)) ((fun _ => 0)) ((fun _ => 0)) ((fun _ => 0)) ((fun _ => 0)) ((fun _ => 0)) ((fun _ => 0)) ((fun _ => 0)) ((fun _ => 0)) ((fun _ => 0)) (tb_zr 26 (fun _ => 0)) ((fun _ => 0)) ((fun _ => 0)) ((fun _ => 0)) ((fun _ => 0)) ((fun _ => 0)) (nI g) (nI fd) (nI oc) (nI 0) 0 0 0 0 0 0 0 0 0 (-1) 0 0 0 0 0 (tb_S (fun _ => 0)) ((fun _ => 0)) ((fun _ => 0)) ((fun _ => 0)) ((fun _ => 0)) ((fun _ => 0)) ((fun _ => 0)) ((fun _ => 0)) ((fun _ => 0)) ((fun _ => 0)) ((fun _ => 0)) ((fun _ => 0)) (tb_zr 26 (fun _ => 0)) ((fun _ => 0)) ((fun _ => 0)) ((fun _ => 0)) ((fun _ => 0)) ((fun _ => 0)) :=
  tl_76 (post := fun r => r = 1) rfl hL hz (by omega) ((1 + n0) * 18) 0 0 (fun _ => 0) 0 0 0 0 0 0 0 0 0 (-1) 0 0 0 0 0 (fun _ => 0) (fun _ => 0) (fun _ => 0) (fun _ => 0) (fun _ => 0) (fun _ => 0) (fun _ => 0) (fun _ => 0) (fun _ => 0) (fun _ => 0) (fun _ => 0) (tb_zr 26 (fun _ => 0)) (fun _ => 0) (fun _ => 0) (fun _ => 0) (fun _ => 0) (fun _ => 0) 0 0 0 0 0 0 0 0 0 (-1) 0 0 0 0 0 (fun _ => 0) (fun _ => 0) (fun _ => 0) (fun _ => 0) (fun _ => 0) (fun _ => 0) (fun _ => 0) (fun _ => 0) (fun _ => 0) (fun _ => 0) (fun _ => 0) (by omega) (Nat.le_refl _) (fun j => by show 0 < 127; omega)
theorem i_vc (xs : Nat → Int32) (L : Nat) (hL : L ≤ 260) : wpL_law (fun r => r = 1) L xs := by
  unfold wpL_law
  refine tl_cell hL (k := 0) rfl (by omega) (fun _ => tl_m 8 (by omega) (by omega) rfl (fun n0 hn0 => nm_r (nI_add 1 n0) ?_))
  refine tl_cell hL (k := 1) rfl (by omega) (fun _ => tl_m 10 (by omega) (by omega) rfl (fun g0 _ => ?_))
  refine tl_cell hL (k := 2) rfl (by omega) (fun _ => tl_m 10 (by omega) (by omega) rfl (fun f0 _ => ?_))
  refine tl_cell hL (k := 3) rfl (by omega) (fun _ => tl_m 40 (by omega) (by omega) rfl (fun o0 _ => ?_))
  refine ⟨18, 898, by omega, by omega, ?_⟩
  refine tl_init (fun g fd oc hz g3 d3 o3 => ?_)
  refine ⟨by omega, by omega, 18, 898, by omega, by omega, ?_⟩
  refine tl_init2 hz g3 d3 o3 ?_
  exact ⟨(1 + n0) * 18 + 1, tl_start hL hn0 hz⟩
end
