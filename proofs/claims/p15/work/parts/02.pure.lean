/-! ===== the text's tokens, as a pure function ===== -/
/-- the end of the run of characters within lo..hi from i on, at most d long -/
def tb_rn (lo hi : Nat) (C : Nat → Nat) : Nat → Nat → Nat
  | 0, i => i
  | d + 1, i => if lo ≤ C i ∧ C i ≤ hi then tb_rn lo hi C d (i + 1) else i
theorem tb_rn_ge (lo hi : Nat) (C : Nat → Nat) : ∀ d i, i ≤ tb_rn lo hi C d i
  | 0, i => Nat.le_refl _
  | d + 1, i => by
    unfold tb_rn
    split
    · have := tb_rn_ge lo hi C d (i + 1); omega
    · omega
theorem tb_rn_le (lo hi : Nat) (C : Nat → Nat) : ∀ d i, tb_rn lo hi C d i ≤ i + d
  | 0, i => Nat.le_refl _
  | d + 1, i => by
    unfold tb_rn
    split
    · have := tb_rn_le lo hi C d (i + 1); omega
    · omega
theorem tb_rn_in (lo hi : Nat) (C : Nat → Nat) : ∀ d i j, i ≤ j → j < tb_rn lo hi C d i → lo ≤ C j ∧ C j ≤ hi
  | 0, i, j, h1, h2 => by unfold tb_rn at h2; omega
  | d + 1, i, j, h1, h2 => by
    unfold tb_rn at h2
    split at h2
    · next h =>
      rcases Nat.lt_or_ge i j with z | z
      · exact tb_rn_in lo hi C d (i + 1) j (by omega) h2
      · have : j = i := by omega
        subst this
        exact h
    · omega
theorem tb_rn_pos {lo hi : Nat} {C : Nat → Nat} {d i : Nat} (hd : 0 < d) (h : lo ≤ C i ∧ C i ≤ hi) : i < tb_rn lo hi C d i := by
  obtain ⟨k, rfl⟩ : ∃ k, d = k + 1 := ⟨d - 1, by omega⟩
  unfold tb_rn
  rw [if_pos h]
  have := tb_rn_ge lo hi C k (i + 1)
  omega
/-- the value of l digits from i on -/
def tb_nv (C : Nat → Nat) (i : Nat) : Nat → Nat
  | 0 => 0
  | l + 1 => tb_nv C i l * 10 + (C (i + l) - 48)
theorem tb_nv_mono (C : Nat → Nat) (i l : Nat) : ∀ m, tb_nv C i l ≤ tb_nv C i (l + m)
  | 0 => Nat.le_refl _
  | m + 1 => by
    have := tb_nv_mono C i l m
    show _ ≤ tb_nv C i (l + m) * 10 + (C (i + (l + m)) - 48)
    omega
/-- the letters of a word, the last one first, A is 1 -/
def tb_wd (C : Nat → Nat) (i : Nat) : Nat → List Nat
  | 0 => []
  | l + 1 => (C (i + l) - 64) :: tb_wd C i l
def tb_wk (w : List Nat) : Prop := ∀ d, d ∈ w → 1 ≤ d ∧ d ≤ 26
theorem tb_wd_in (C : Nat → Nat) (i : Nat) : ∀ l, (∀ j, j < l → 65 ≤ C (i + j) ∧ C (i + j) ≤ 90) → tb_wk (tb_wd C i l)
  | 0, _ => fun d hd => by cases hd
  | l + 1, h => fun d hd => by
    unfold tb_wd at hd
    rcases List.mem_cons.mp hd with e | e
    · have := h l (by omega); omega
    · exact tb_wd_in C i l (fun j hj => h j (by omega)) d e
theorem tb_wd_len (C : Nat → Nat) (i : Nat) : ∀ l, (tb_wd C i l).length = l
  | 0 => rfl
  | l + 1 => by show (tb_wd C i l).length + 1 = _; rw [tb_wd_len C i l]
def tb_pk (B : Nat) : List Nat → Nat
  | [] => 0
  | d :: w => tb_pk B w * B + d
theorem tb_pk27 : ∀ w z : List Nat, tb_wk w → tb_wk z → tb_pk 27 w = tb_pk 27 z → w = z
  | [], [], _, _, _ => rfl
  | [], d :: z, _, h, e => by have := h d (List.mem_cons_self ..); simp only [tb_pk] at e; omega
  | d :: w, [], h, _, e => by have := h d (List.mem_cons_self ..); simp only [tb_pk] at e; omega
  | d :: w, f :: z, h, h', e => by
    have a := h d (List.mem_cons_self ..)
    have b := h' f (List.mem_cons_self ..)
    simp only [tb_pk] at e
    have e1 : d = f := by omega
    have e2 := tb_pk27 w z (fun x hx => h x (List.mem_cons_of_mem _ hx)) (fun x hx => h' x (List.mem_cons_of_mem _ hx)) (by omega)
    rw [e1, e2]
theorem tb_pk32 : ∀ w z : List Nat, tb_wk w → tb_wk z → tb_pk 32 w = tb_pk 32 z → w = z
  | [], [], _, _, _ => rfl
  | [], d :: z, _, h, e => by have := h d (List.mem_cons_self ..); simp only [tb_pk] at e; omega
  | d :: w, [], h, _, e => by have := h d (List.mem_cons_self ..); simp only [tb_pk] at e; omega
  | d :: w, f :: z, h, h', e => by
    have a := h d (List.mem_cons_self ..)
    have b := h' f (List.mem_cons_self ..)
    simp only [tb_pk] at e
    have e1 : d = f := by omega
    have e2 := tb_pk32 w z (fun x hx => h x (List.mem_cons_of_mem _ hx)) (fun x hx => h' x (List.mem_cons_of_mem _ hx)) (by omega)
    rw [e1, e2]
theorem tb_pk_lt (B : Nat) (hB : 26 < B) : ∀ w : List Nat, tb_wk w → tb_pk B w < B ^ w.length
  | [], _ => by show 0 < B ^ 0; rw [Nat.pow_zero]; omega
  | d :: w, h => by
    have a := h d (List.mem_cons_self ..)
    have b := tb_pk_lt B hB w (fun x hx => h x (List.mem_cons_of_mem _ hx))
    show tb_pk B w * B + d < B ^ (w.length + 1)
    rw [Nat.pow_succ]
    have c : (tb_pk B w + 1) * B ≤ B ^ w.length * B := Nat.mul_le_mul_right B b
    rw [Nat.add_mul, Nat.one_mul] at c
    omega
def tb_kw (w : List Nat) : Nat :=
  if w = [20, 5, 12] then 40101 else if w = [20, 14, 9, 18, 16] then 40102 else if w = [6, 9] then 40103
  else if w = [14, 5, 8, 20] then 40104 else if w = [15, 20, 15, 7] then 40105 else if w = [2, 21, 19, 15, 7] then 40106
  else if w = [14, 18, 21, 20, 5, 18] then 40107 else if w = [18, 15, 6] then 40108 else if w = [15, 20] then 40109
  else if w = [20, 24, 5, 14] then 40110 else if w = [4, 14, 5] then 40111 else 50000
/-- the character behind i, 0 at the line's end -/
def tb_nx (C : Nat → Nat) (i e : Nat) : Nat := if i + 1 < e then C (i + 1) else 0
def tb_sl (c d : Nat) : Nat := if (c = 60 ∧ (d = 61 ∨ d = 62)) ∨ (c = 62 ∧ d = 61) then 2 else 1
def tb_st (c d : Nat) : Nat :=
  if c = 60 ∧ d = 61 then 40212 else if c = 60 ∧ d = 62 then 40209 else if c = 62 ∧ d = 61 then 40213
  else if c = 43 then 40201 else if c = 45 then 40202 else if c = 42 then 40203 else if c = 47 then 40204
  else if c = 40 then 40206 else if c = 41 then 40207 else if c = 61 then 40208 else if c = 60 then 40210
  else if c = 62 then 40211 else 50000
/-- the token at i, 50000 for none -/
def tb_tk (C : Nat → Nat) (i e : Nat) : Nat :=
  if 48 ≤ C i ∧ C i ≤ 57 then (if tb_nv C i (tb_rn 48 57 C (e - i) i - i) ≤ 32767 then tb_nv C i (tb_rn 48 57 C (e - i) i - i) else 50000)
  else if 65 ≤ C i ∧ C i ≤ 90 then
    (if tb_rn 65 90 C (e - i) i - i = 1 then 40000 + (C i - 65)
     else if 6 < tb_rn 65 90 C (e - i) i - i then 50000 else tb_kw (tb_wd C i (tb_rn 65 90 C (e - i) i - i)))
  else tb_st (C i) (tb_nx C i e)
/-- where the token at i ends -/
def tb_te (C : Nat → Nat) (i e : Nat) : Nat :=
  if 48 ≤ C i ∧ C i ≤ 57 then tb_rn 48 57 C (e - i) i
  else if 65 ≤ C i ∧ C i ≤ 90 then tb_rn 65 90 C (e - i) i
  else i + tb_sl (C i) (tb_nx C i e)
theorem tb_te_gt (C : Nat → Nat) {i e : Nat} (h : i < e) : i < tb_te C i e := by
  unfold tb_te
  split
  · next z => exact tb_rn_pos (by omega) z
  · split
    · next z => exact tb_rn_pos (by omega) z
    · unfold tb_sl; split <;> omega
theorem tb_te_le (C : Nat → Nat) {i e : Nat} (h : i < e) : tb_te C i e ≤ e := by
  unfold tb_te
  split
  · have := tb_rn_le 48 57 C (e - i) i; omega
  · split
    · have := tb_rn_le 65 90 C (e - i) i; omega
    · unfold tb_sl
      by_cases z : i + 1 < e
      · split <;> omega
      · have nx : tb_nx C i e = 0 := if_neg z
        rw [nx, if_neg (by omega)]
        omega
/-- what a token may be -/
def tb_ok (t : Nat) : Prop := t ≤ 32767 ∨ (40000 ≤ t ∧ t < 40026) ∨ (40101 ≤ t ∧ t ≤ 40111) ∨ (40201 ≤ t ∧ t ≤ 40213 ∧ t ≠ 40205)
theorem tb_kw_ok (w : List Nat) : tb_kw w = 50000 ∨ (40101 ≤ tb_kw w ∧ tb_kw w ≤ 40111) := by
  unfold tb_kw
  repeat' split
  all_goals omega
theorem tb_st_ok (c d : Nat) : tb_st c d = 50000 ∨ (40201 ≤ tb_st c d ∧ tb_st c d ≤ 40213 ∧ tb_st c d ≠ 40205) := by
  unfold tb_st
  repeat' split
  all_goals omega
theorem tb_tk_ok (C : Nat → Nat) (i e : Nat) : tb_tk C i e = 50000 ∨ tb_ok (tb_tk C i e) := by
  unfold tb_tk tb_ok
  split
  · split <;> omega
  · split
    · split
      · omega
      · split
        · omega
        · have := tb_kw_ok (tb_wd C i (tb_rn 65 90 C (e - i) i - i)); omega
    · have := tb_st_ok (C i) (tb_nx C i e); omega
/-- the tokens from i to e, at most d steps -/
def tb_tz (C : Nat → Nat) (e : Nat) : Nat → Nat → Option (List Nat)
  | 0, _ => some []
  | d + 1, i => if e ≤ i then some [] else if C i = 32 then tb_tz C e d (i + 1)
    else if tb_tk C i e = 50000 then none else (tb_tz C e d (tb_te C i e)).map (List.cons (tb_tk C i e))
theorem tb_tz_ok (C : Nat → Nat) (e : Nat) : ∀ d i L, tb_tz C e d i = some L → L.length ≤ d ∧ (i ≤ e → L.length ≤ e - i) ∧ ∀ t, t ∈ L → tb_ok t
  | 0, i, L, h => by
    unfold tb_tz at h
    cases h
    exact ⟨Nat.le_refl _, fun _ => Nat.zero_le _, fun t ht => by cases ht⟩
  | d + 1, i, L, h => by
    unfold tb_tz at h
    split at h
    · cases h
      exact ⟨Nat.zero_le _, fun _ => Nat.zero_le _, fun t ht => by cases ht⟩
    · next hi =>
      split at h
      · have ⟨a, b, c⟩ := tb_tz_ok C e d (i + 1) L h
        exact ⟨by omega, fun _ => by have := b (by omega); omega, c⟩
      · split at h
        · cases h
        · next hb =>
          cases hz : tb_tz C e d (tb_te C i e) with
          | none => rw [hz] at h; cases h
          | some M =>
            rw [hz] at h
            cases h
            have ⟨a, b, c⟩ := tb_tz_ok C e d _ M hz
            have g1 := tb_te_gt C (i := i) (e := e) (by omega)
            have g2 := tb_te_le C (i := i) (e := e) (by omega)
            refine ⟨by simp only [List.length_cons]; omega, fun _ => by have := b g2; simp only [List.length_cons]; omega, fun t ht => ?_⟩
            rcases List.mem_cons.mp ht with z | z
            · rw [z]
              rcases tb_tk_ok C i e with y | y
              · exact absurd y hb
              · exact y
            · exact c t z
/-- the reference's kind of a token, and of a held operator -/
def tb_kf (t : Nat) : Nat :=
  if t ≤ 32767 then 1 else if t < 40026 then 2 else if t ≤ 40111 then t - 40091
  else if t = 40201 then 43 else if t = 40202 then 45 else if t = 40203 then 42 else if t = 40204 then 47 else if t = 40205 then 85
  else if t = 40206 then 40 else if t = 40207 then 41 else if t = 40208 then 61 else if t = 40209 then 72 else if t = 40210 then 60
  else if t = 40211 then 62 else if t = 40212 then 70 else 71
/-- the reference's value of a token -/
def tb_vf (t : Nat) : Nat := if t ≤ 32767 then t else if t < 40026 then t - 40000 else 0
