section
-- rows pasted from kit/rows (pk_)
theorem pk_us {f : Nat → Int32} {k : Nat} {x : Int32} : upd f k x k = x := if_pos rfl
theorem pk_un {f : Nat → Int32} {k j : Nat} {x : Int32} (h : j ≠ k) : upd f k x j = f j := if_neg h
theorem pk_sub {a b : Nat} (h : b ≤ a) : nI a - nI b = nI (a - b) := by
  obtain ⟨c, rfl⟩ : ∃ c, a = c + b := ⟨a - b, by omega⟩
  rw [← nI_add, Int32.add_sub_cancel, Nat.add_sub_cancel]
theorem pk_m1 (n : Nat) : nI (n + 1) + (-1) = nI n := by
  rw [← nI_1, Int32.add_assoc, show (1 : Int32) + (-1) = 0 from rfl, Int32.add_zero]
theorem pk_mul (a b : Nat) : nI a * nI b = nI (a * b) := (Int32.ofNat_mul a b).symm
theorem pk_div {a d : Nat} (ha : a < 2 ^ 31) (h0 : 0 < d) (hd : d < 2 ^ 31) : nI a / nI d = nI (a / d) := by
  apply Int32.toInt_inj.mp
  rw [lg_idiv_nonneg (by rw [nI_toInt ha]; omega) (by rw [nI_toInt hd]; omega), nI_toInt ha, nI_toInt hd, nI_toInt (Nat.lt_of_le_of_lt (Nat.div_le_self a d) ha)]
  first | rfl | exact (Int.natCast_ediv _ _).symm
theorem pk_rem {a d : Nat} (ha : a < 2 ^ 31) (h0 : 0 < d) (hd : d < 2 ^ 31) : nI a - nI a / nI d * nI d = nI (a % d) := by
  rw [pk_div ha h0 hd, pk_mul, pk_sub (Nat.div_mul_le_self a d)]
  exact congrArg nI (by have := Nat.div_add_mod' a d; omega)
theorem pk_sub_toInt {a b : Nat} (ha : a < 2 ^ 30) (hb : b < 2 ^ 30) : (nI a - nI b).toInt = (a : Int) - b := by
  rw [Int32.toInt_sub, nI_toInt (by omega), nI_toInt (by omega)]
  exact Int.bmod_eq_of_le (by omega) (by omega)
theorem pk_ix (x : Int32) {n : Nat} (hn : n < 2 ^ 31) : x < 0 ∨ nI n ≤ x ∨ ∃ j : Nat, j < n ∧ x = nI j := by
  by_cases h : x < 0
  · exact Or.inl h
  · obtain ⟨j, hj, rfl⟩ := nI_of h
    by_cases h2 : j < n
    · exact Or.inr (Or.inr ⟨j, h2, rfl⟩)
    · exact Or.inr (Or.inl (nI_le (by omega) hj))
-- 0/1 arrays
def cz_bi (b : Bool) : Int32 := if b = true then 1 else 0
def cz_ba (B : Nat → Bool) : Nat → Int32 := fun j => cz_bi (B j)
theorem cz_n0 : vp_nar .boolean 0 = cz_bi false := rfl
theorem cz_n1 : vp_nar .boolean 1 = cz_bi true := rfl
theorem cz_nb (b : Bool) : vp_nar .boolean (cz_bi b) = cz_bi b := by cases b <;> rfl
theorem cz_b0 {b : Bool} (h : b = false) : cz_bi b = 0 := by rw [h]; rfl
theorem cz_b1 {b : Bool} (h : b = true) : ¬ cz_bi b = 0 := by rw [h]; decide
/-- a branch on a flag that is read -/
theorem cz_br {A C : Prop} (b : Bool) {x : Int32} (hx : x = cz_bi b) (f : b = false → A) (g : b = true → C) : (x = 0 → A) ∧ (¬ x = 0 → C) := by
  subst hx
  cases b with
  | false => exact br_t rfl (f rfl)
  | true => exact br_f (by decide) (g rfl)
/-- a flag is read -/
theorem cz_rdb {B : Nat → Bool} {x : Int32} (j : Nat) (hx : x = nI j) (hj : j < 2 ^ 31) : cz_ba B x.toNatClampNeg = cz_bi (B j) := by
  subst hx
  rw [nI_clamp hj]
  exact rfl
theorem cz_in {x : Int32} {N : Nat} (j : Nat) (hx : x = nI j) (hj : j < N) (hN : N < 2 ^ 31) : vp_in x N := by
  subst hx
  exact vp_in_nI hj hN
/-- a flag is stored -/
theorem cz_st {S S' : Nat → Bool} {x v : Int32} {N : Nat} {P : (Nat → Int32) → Prop} (j : Nat) (bv : Bool) (hx : x = nI j) (hj : j < N) (hN : N < 2 ^ 31)
    (hv : vp_nar .boolean v = cz_bi bv) (hS : ∀ m, S' m = if m = j then bv else S m) (h : P (cz_ba S')) :
    vp_in x N ∧ ∀ a', a' = upd (cz_ba S) x.toNatClampNeg (vp_nar .boolean v) → P a' := by
  subst hx
  refine ⟨vp_in_nI hj hN, fun a' e => ?_⟩
  have e2 : a' = cz_ba S' := by
    rw [e, nI_clamp (Nat.lt_trans hj hN), hv]
    funext m
    show (if m = j then cz_bi bv else cz_bi (S m)) = cz_bi (S' m)
    rw [hS m]
    by_cases hm : m = j
    · rw [if_pos hm, if_pos hm]
    · rw [if_neg hm, if_neg hm]
  rw [e2]
  exact h
-- the picture: i places from o on replaced
def cz_zs (o i : Nat) (f : Nat → Bool) (B : Nat → Bool) : Nat → Bool := fun j => if o ≤ j ∧ j < o + i then f (j - o) else B j
theorem cz_zs_0 (o : Nat) (f B : Nat → Bool) : cz_zs o 0 f B = B := by
  funext j
  exact if_neg (by omega)
theorem cz_zs_s (o i : Nat) (f B : Nat → Bool) (m : Nat) : cz_zs o (i + 1) f B m = if m = o + i then f i else cz_zs o i f B m := by
  unfold cz_zs
  by_cases h : m = o + i
  · rw [if_pos h, if_pos (by omega), h, Nat.add_sub_cancel_left]
  · rw [if_neg h]
    by_cases h2 : o ≤ m ∧ m < o + i
    · rw [if_pos h2, if_pos (by omega)]
    · rw [if_neg h2, if_neg (by omega)]
theorem cz_zs_in {o i n : Nat} (f B : Nat → Bool) (h : n < i) : cz_zs o i f B (o + n) = f n := by
  unfold cz_zs
  rw [if_pos (by omega), Nat.add_sub_cancel_left]
theorem cz_zs_out {o i m : Nat} (f B : Nat → Bool) (h : m < o ∨ o + i ≤ m) : cz_zs o i f B m = B m := if_neg (by omega)
theorem cz_zs_k {o i : Nat} {f B : Nat → Bool} (h : B (o + i) = f i) : cz_zs o (i + 1) f B = cz_zs o i f B := by
  funext m
  rw [cz_zs_s]
  by_cases hm : m = o + i
  · rw [if_pos hm, hm, cz_zs_out f B (by omega), h]
  · rw [if_neg hm]
theorem cz_zs_c {o i : Nat} {f g : Nat → Bool} (B : Nat → Bool) (h : ∀ n, n < i → f n = g n) : cz_zs o i f B = cz_zs o i g B := by
  funext m
  unfold cz_zs
  by_cases hm : o ≤ m ∧ m < o + i
  · rw [if_pos hm, if_pos hm, h (m - o) (by omega)]
  · rw [if_neg hm, if_neg hm]
theorem cz_zs_z (o i : Nat) (f g B : Nat → Bool) : cz_zs o i f (cz_zs o i g B) = cz_zs o i f B := by
  funext m
  unfold cz_zs
  by_cases hm : o ≤ m ∧ m < o + i
  · rw [if_pos hm, if_pos hm]
  · rw [if_neg hm, if_neg hm, if_neg hm]
/-- a place of another zone, or of the same one further on -/
theorem cz_zs_r {y w i n : Nat} (f B : Nat → Bool) (hi : i ≤ n) (hn : n < 2197) : cz_zs (y * 2197) i f B (w * 2197 + n) = B (w * 2197 + n) :=
  cz_zs_out f B (by omega)
-- the loop rule
theorem cz_lo {W : Nat → Nat → Prop} (I : Nat → Prop) (e i0 : Nat) (hi : i0 ≤ e) (h0 : I i0) (hx : I e → ∀ n, W (n + 1) e)
    (hs : ∀ n i, i < e → I i → (I (i + 1) → W n (i + 1)) → W (n + 1) i) : ∃ n, W n i0 := by
  have H : ∀ d i, i + d = e → I i → W (d + 1) i := by
    intro d
    induction d with
    | zero =>
      intro i hi h
      have : i = e := by omega
      subst this
      exact hx h 0
    | succ d ih =>
      intro i hi h
      exact hs (d + 1) i (by omega) h (fun h' => ih (i + 1) (by omega) h')
  exact ⟨_, H (e - i0) i0 (by omega) h0⟩
theorem cz_lt {W : Nat → Nat → Prop} (e : Nat) (hx : ∀ n, W (n + 1) e) (hs : ∀ n i, i < e → W n (i + 1) → W (n + 1) i) : ∃ n, W n 0 :=
  cz_lo (fun _ => True) e 0 (Nat.zero_le _) True.intro (fun _ => hx) (fun n i h _ k => hs n i h (k True.intro))
theorem cz_ge {i N : Nat} (h : i < N) (hN : N < 2 ^ 31) : ¬ nI N ≤ nI i := nI_ge h hN
theorem cz_in1 {i : Nat} (h : i < 2197) : ¬ (2197 : Int32) ≤ nI i := nI_ge (b := 2197) h (by decide)
theorem cz_ex1 : (2197 : Int32) ≤ nI 2197 := nI_le (a := 2197) (Nat.le_refl _) (by decide)
theorem cz_ix (z n : Nat) : nI z * 2197 + nI n = nI (z * 2197 + n) := by
  rw [show (2197 : Int32) = nI 2197 from rfl, pk_mul, nI_add]
theorem cz_m (z : Nat) : nI z * 2197 = nI (z * 2197) := pk_mul z 2197
-- some, all
def cz_an (g : Nat → Bool) : Nat → Bool
  | 0 => false
  | n + 1 => cz_an g n || g n
theorem cz_an_t {g : Nat → Bool} {n t : Nat} (ht : t < n) (h : g t = true) : cz_an g n = true := by
  induction n with
  | zero => omega
  | succ n ih =>
    show (cz_an g n || g n) = true
    by_cases e : t = n
    · subst e; rw [h, Bool.or_true]
    · rw [ih (by omega), Bool.true_or]
theorem cz_an_f {g : Nat → Bool} {n : Nat} (h : ∀ t, t < n → g t = false) : cz_an g n = false := by
  induction n with
  | zero => rfl
  | succ n ih =>
    show (cz_an g n || g n) = false
    rw [ih (fun t ht => h t (by omega)), h n (by omega)]
    rfl
theorem cz_an_x {g : Nat → Bool} {n : Nat} (h : cz_an g n = true) : ∃ t, t < n ∧ g t = true := by
  induction n with
  | zero => exact absurd (show false = true from h) (by decide)
  | succ n ih =>
    have h' : (cz_an g n || g n) = true := h
    rcases (Bool.or_eq_true _ _).mp h' with h1 | h1
    · obtain ⟨t, ht, e⟩ := ih h1
      exact ⟨t, by omega, e⟩
    · exact ⟨n, by omega, h1⟩
def cz_al (g : Nat → Bool) : Nat → Bool
  | 0 => true
  | n + 1 => cz_al g n && g n
theorem cz_al_t {g : Nat → Bool} {n : Nat} (h : ∀ t, t < n → g t = true) : cz_al g n = true := by
  induction n with
  | zero => rfl
  | succ n ih =>
    show (cz_al g n && g n) = true
    rw [ih (fun t ht => h t (by omega)), h n (by omega)]
    rfl
theorem cz_al_f {g : Nat → Bool} {n t : Nat} (ht : t < n) (h : g t = false) : cz_al g n = false := by
  induction n with
  | zero => omega
  | succ n ih =>
    show (cz_al g n && g n) = false
    by_cases e : t = n
    · subst e; rw [h, Bool.and_false]
    · rw [ih (by omega), Bool.false_and]
theorem cz_al_c {g h : Nat → Bool} {n : Nat} (e : ∀ t, t < n → g t = h t) : cz_al g n = cz_al h n := by
  induction n with
  | zero => rfl
  | succ n ih =>
    show (cz_al g n && g n) = (cz_al h n && h n)
    rw [ih (fun t ht => e t (by omega)), e n (by omega)]
end
section
theorem cz_an_c {g h : Nat → Bool} {n : Nat} (e : ∀ t, t < n → g t = h t) : cz_an g n = cz_an h n := by
  induction n with
  | zero => rfl
  | succ n ih =>
    show (cz_an g n || g n) = (cz_an h n || h n)
    rw [ih (fun t ht => e t (by omega)), e n (by omega)]
-- arguments: both sides refuse, or both accept
theorem cz_zone (x : Int32) : ((∀ P : Int32 → Prop, P 0 → wpX_isZone P x) ∧ (∀ (P : Int32 → Prop) (a b : Nat → Int32), P 1 → wpY_badZone P (a, b) x)) ∨
    ∃ z, z < 3 ∧ x = nI z ∧ (∀ P : Int32 → Prop, P 1 → wpX_isZone P x) ∧ (∀ (P : Int32 → Prop) (a b : Nat → Int32), P 0 → wpY_badZone P (a, b) x) := by
  by_cases h0 : x < 0
  · exact Or.inl ⟨fun P p => br_t h0 p, fun P a b p => br_t h0 p⟩
  · obtain ⟨j, hj, rfl⟩ := nI_of h0
    by_cases h3 : j < 3
    · exact Or.inr ⟨j, h3, rfl, fun P p => br_f h0 (br_f (nI_ge (b := 3) h3 (by decide)) p), fun P a b p => br_f h0 (br_t (nI_le (b := 2) (by omega) (by decide)) p)⟩
    · exact Or.inl ⟨fun P p => br_f h0 (br_t (nI_le (a := 3) (by omega) hj) p), fun P a b p => br_f h0 (br_f (nI_ge (a := 2) (by omega) hj) p)⟩
theorem cz_clock (x : Int32) : ((∀ P : Int32 → Prop, P 0 → wpX_isClock P x) ∧ (∀ (P : Int32 → Prop) (a b : Nat → Int32), P 1 → wpY_badClock P (a, b) x)) ∨
    ∃ k, 1 ≤ k ∧ k ≤ 3 ∧ x = nI k ∧ (∀ P : Int32 → Prop, P 1 → wpX_isClock P x) ∧ (∀ (P : Int32 → Prop) (a b : Nat → Int32), P 0 → wpY_badClock P (a, b) x) := by
  by_cases h0 : x < 1
  · exact Or.inl ⟨fun P p => br_t h0 p, fun P a b p => br_t h0 p⟩
  · have h00 : ¬ x < 0 := fun h => h0 (Int32.lt_trans h (by decide))
    obtain ⟨j, hj, rfl⟩ := nI_of h00
    have h1 : 1 ≤ j := by
      rcases Nat.lt_or_ge j 1 with h | h
      · exact absurd (nI_lt (b := 1) h (by decide)) h0
      · exact h
    by_cases h3 : j ≤ 3
    · exact Or.inr ⟨j, h1, h3, rfl, fun P p => br_f h0 (br_f (nI_nlt (a := 3) h3 (by decide)) p), fun P a b p => br_f h0 (br_t (nI_le (b := 3) (by omega) (by decide)) p)⟩
    · exact Or.inl ⟨fun P p => br_f h0 (br_t (nI_lt (a := 3) (by omega) hj) p), fun P a b p => br_f h0 (br_f (nI_ge (a := 3) (by omega) hj) p)⟩
theorem cz_pair (x y : Int32) : ((∀ P : Int32 → Prop, P 0 → wpX_isPair P x y) ∧ (∀ (P : Int32 → Prop) (a b : Nat → Int32), P 1 → wpY_badPair P (a, b) x y)) ∨
    ∃ i j, i ≤ 3 ∧ j ≤ 3 ∧ i ≠ j ∧ x = nI i ∧ y = nI j ∧ (∀ P : Int32 → Prop, P 1 → wpX_isPair P x y) ∧ (∀ (P : Int32 → Prop) (a b : Nat → Int32), P 0 → wpY_badPair P (a, b) x y) := by
  by_cases h1 : x < 0
  · exact Or.inl ⟨fun P p => br_t h1 p, fun P a b p => br_t h1 p⟩
  by_cases h2 : 3 < x
  · exact Or.inl ⟨fun P p => br_f h1 (br_t h2 p), fun P a b p => br_f h1 (br_t h2 p)⟩
  by_cases h3 : y < 0
  · exact Or.inl ⟨fun P p => br_f h1 (br_f h2 (br_t h3 p)), fun P a b p => br_f h1 (br_f h2 (br_t h3 p))⟩
  by_cases h4 : 3 < y
  · exact Or.inl ⟨fun P p => br_f h1 (br_f h2 (br_f h3 (br_t h4 p))), fun P a b p => br_f h1 (br_f h2 (br_f h3 (br_t h4 p)))⟩
  by_cases h5 : x = y
  · exact Or.inl ⟨fun P p => br_f h1 (br_f h2 (br_f h3 (br_f h4 (br_t h5 p)))), fun P a b p => br_f h1 (br_f h2 (br_f h3 (br_f h4 (br_t h5 p))))⟩
  obtain ⟨i, hi, rfl⟩ := nI_of h1
  obtain ⟨j, hj, rfl⟩ := nI_of h3
  have e1 : i ≤ 3 := by
    rcases Nat.lt_or_ge 3 i with h | h
    · exact absurd (nI_lt (a := 3) h hi) h2
    · exact h
  have e2 : j ≤ 3 := by
    rcases Nat.lt_or_ge 3 j with h | h
    · exact absurd (nI_lt (a := 3) h hj) h4
    · exact h
  exact Or.inr ⟨i, j, e1, e2, fun e => h5 (by rw [e]), rfl, rfl, fun P p => br_f h1 (br_f h2 (br_f h3 (br_f h4 (br_f h5 p)))), fun P a b p => br_f h1 (br_f h2 (br_f h3 (br_f h4 (br_f h5 p))))⟩
theorem cz_num (x : Int32) : x < 0 ∨ (¬ x < 0 ∧ 12 < x ∧ ¬ x ≤ 12) ∨ ∃ m, m ≤ 12 ∧ x = nI m ∧ ¬ x < 0 ∧ ¬ 12 < x ∧ x ≤ 12 := by
  by_cases h0 : x < 0
  · exact Or.inl h0
  · obtain ⟨j, hj, rfl⟩ := nI_of h0
    by_cases h3 : j ≤ 12
    · exact Or.inr (Or.inr ⟨j, h3, rfl, h0, nI_nlt (a := 12) h3 (by decide), nI_le (b := 12) h3 (by decide)⟩)
    · exact Or.inr (Or.inl ⟨h0, nI_lt (a := 12) (by omega) hj, nI_ge (a := 12) (by omega) hj⟩)
-- what a clock reads
def cz_rd (n k : Nat) : Nat := if k = 1 then n / 169 else if k = 2 then n / 13 % 13 else if k = 3 then n % 13 else 0
theorem cz_rd_le {n : Nat} (hn : n < 2197) (k : Nat) : cz_rd n k ≤ 12 := by
  unfold cz_rd
  split
  · omega
  · split
    · omega
    · split <;> omega
theorem cz_d1 {n : Nat} (hn : n < 2197) : nI n / 169 = nI (n / 169) := pk_div (d := 169) (by omega) (by decide) (by decide)
theorem cz_d3 {n : Nat} (hn : n < 2197) : nI n - nI n / 13 * 13 = nI (n % 13) := pk_rem (d := 13) (by omega) (by decide) (by decide)
theorem cz_d2 {n : Nat} (hn : n < 2197) : nI n / 13 - nI n / 13 / 13 * 13 = nI (n / 13 % 13) := by
  have e : nI n / 13 = nI (n / 13) := pk_div (d := 13) (by omega) (by decide) (by decide)
  rw [e]
  exact pk_rem (d := 13) (by omega) (by decide) (by decide)
theorem cx_read {P : Int32 → Prop} {n k : Nat} (hn : n < 2197) (hk : k ≤ 3) (h : P (nI (cz_rd n k))) : wpX_read P (nI n) (nI k) := by
  have hc : k = 0 ∨ k = 1 ∨ k = 2 ∨ k = 3 := by omega
  rcases hc with rfl | rfl | rfl | rfl
  · exact br_t (by decide) h
  · refine br_f (by decide) (br_f (by decide) (br_t rfl ⟨by decide, ?_⟩))
    rw [cz_d1 hn]; exact h
  · refine br_f (by decide) (br_f (by decide) (br_f (by decide) (br_t rfl ⟨by decide, by decide, ?_⟩)))
    rw [cz_d2 hn]; exact h
  · refine br_f (by decide) (br_f (by decide) (br_f (by decide) (br_f (by decide) (br_t rfl ⟨by decide, ?_⟩))))
    rw [cz_d3 hn]; exact h
theorem cy_val {P : Int32 → Prop} {a b : Nat → Int32} {n k : Nat} (hn : n < 2197) (hk : k ≤ 3) (h : P (nI (cz_rd n k))) : wpY_value P (a, b) (nI n) (nI k) := by
  have hc : k = 0 ∨ k = 1 ∨ k = 2 ∨ k = 3 := by omega
  rcases hc with rfl | rfl | rfl | rfl
  · exact br_t rfl h
  · refine br_f (by decide) (br_t rfl ⟨by decide, ?_⟩)
    rw [cz_d1 hn]; exact h
  · refine br_f (by decide) (br_f (by decide) (br_t rfl ⟨by decide, by decide, ?_⟩))
    rw [cz_d2 hn]; exact h
  · refine br_f (by decide) (br_f (by decide) (br_f (by decide) ⟨by decide, ?_⟩))
    rw [cz_d3 hn]; exact h
def cz_df (n i j : Nat) : Int32 := nI (cz_rd n i) - nI (cz_rd n j)
theorem cx_dif {P : Int32 → Prop} {n i j : Nat} (hn : n < 2197) (hi : i ≤ 3) (hj : j ≤ 3) (h : P (cz_df n i j)) : wpX_difference P (nI n) (nI i) (nI j) := by
  unfold wpX_difference
  exact cx_read hn hi (cx_read hn hj h)
theorem cz_df_t {n : Nat} (hn : n < 2197) (i j : Nat) : (cz_df n i j).toInt = (cz_rd n i : Int) - cz_rd n j := by
  have h1 := cz_rd_le hn i
  have h2 := cz_rd_le hn j
  exact pk_sub_toInt (by omega) (by omega)
-- is there a reading
theorem cx_any {P : Int32 → Prop} {B : Nat → Bool} {b : Nat → Int32} {z : Nat} (hz : z < 3) (h : P (cz_bi (cz_an (fun n => B (z * 2197 + n)) 2197))) : wpX_oneIfAny P (cz_ba B, b) (nI z) := by
  unfold wpX_oneIfAny
  refine nm_r (cz_m z) ?_
  exact cz_lo (W := fun n i => wX_oneIfAny_8 P (nI (z * 2197)) (cz_ba B) b n (nI i)) (fun i => ∀ t, t < i → B (z * 2197 + t) = false) 2197 0 (by omega) (fun t ht => by omega)
    (fun H n => br_t cz_ex1 (by rw [cz_an_f H] at h; exact h))
    (fun n i hi H K => br_f (cz_in1 hi) ⟨cz_in (z * 2197 + i) (nI_add _ _) (by omega) (by decide),
      cz_br (B (z * 2197 + i)) (cz_rdb _ (nI_add _ _) (by omega)) (fun f => nm_r (nI_1 i) (K (lt_s H f)))
        (fun t => by rw [cz_an_t (t := i) hi t] at h; exact h)⟩)
theorem cy_some {P : Int32 → Prop} {B : Nat → Bool} {b : Nat → Int32} {z : Nat} (hz : z < 3) (h : P (cz_bi (cz_an (fun n => B (z * 2197 + n)) 2197))) : wpY_some P (cz_ba B, b) (nI z) := by
  unfold wpY_some
  exact cz_lo (W := fun n i => wY_some_2 P (nI z) (cz_ba B) b n (nI i)) (fun i => ∀ t, t < i → B (z * 2197 + t) = false) 2197 0 (by omega) (fun t ht => by omega)
    (fun H n => br_t cz_ex1 (by rw [cz_an_f H] at h; exact h))
    (fun n i hi H K => br_f (cz_in1 hi) ⟨cz_in (z * 2197 + i) (cz_ix z i) (by omega) (by decide),
      cz_br (B (z * 2197 + i)) (cz_rdb _ (cz_ix z i) (by omega)) (fun f => nm_r (nI_1 i) (K (lt_s H f)))
        (fun t => by rw [cz_an_t (t := i) hi t] at h; exact h)⟩)
theorem cz_an_z (o : Nat) (f B : Nat → Bool) : cz_an (fun n => cz_zs o 2197 f B (o + n)) 2197 = cz_an f 2197 :=
  cz_an_c (fun t ht => cz_zs_in f B ht)
theorem cx_anyz {P : Int32 → Prop} {f B : Nat → Bool} {b : Nat → Int32} {z : Nat} (hz : z < 3) (h : P (cz_bi (cz_an f 2197))) : wpX_oneIfAny P (cz_ba (cz_zs (z * 2197) 2197 f B), b) (nI z) :=
  cx_any hz (by rw [cz_an_z]; exact h)
theorem cy_somez {P : Int32 → Prop} {f B : Nat → Bool} {b : Nat → Int32} {z : Nat} (hz : z < 3) (h : P (cz_bi (cz_an f 2197))) : wpY_some P (cz_ba (cz_zs (z * 2197) 2197 f B), b) (nI z) :=
  cy_some hz (by rw [cz_an_z]; exact h)
theorem cy_store {P : Int32 → SY → Prop} {B M : Nat → Bool} {z : Nat} (hz : z < 3) (h : P (cz_bi (cz_an M 2197)) (cz_ba (cz_zs (z * 2197) 2197 M B), cz_ba M)) : wpY_store P (cz_ba B, cz_ba M) (nI z) := by
  unfold wpY_store
  have H : ∃ n, wY_store_2 P (nI z) n (nI 0) (cz_ba (cz_zs (z * 2197) 0 M B)) (cz_ba M) :=
    cz_lt (W := fun n i => wY_store_2 P (nI z) n (nI i) (cz_ba (cz_zs (z * 2197) i M B)) (cz_ba M)) 2197
      (fun n => br_t cz_ex1 (cy_somez hz h))
      (fun n i hi K => br_f (cz_in1 hi) ⟨vp_in_nI hi (by decide),
        cz_st (z * 2197 + i) (M i) (cz_ix z i) (by omega) (by decide) (by rw [cz_rdb i rfl (by omega)]; exact cz_nb _) (cz_zs_s _ i M B) (nm_r (nI_1 i) K)⟩)
  rw [cz_zs_0] at H
  exact H
/-- the made places are the picture f: what is stored is f -/
theorem cy_storez {P : Int32 → SY → Prop} {f B M : Nat → Bool} {z : Nat} (hz : z < 3) (h : ∀ M' : Nat → Bool, P (cz_bi (cz_an f 2197)) (cz_ba (cz_zs (z * 2197) 2197 f B), cz_ba M')) : wpY_store P (cz_ba B, cz_ba (cz_zs 0 2197 f M)) (nI z) := by
  have e : ∀ n, n < 2197 → cz_zs 0 2197 f M n = f n := fun n hn => by
    have := cz_zs_in (o := 0) f M hn
    rwa [Nat.zero_add] at this
  refine cy_store hz ?_
  rw [cz_an_c e, cz_zs_c B e]
  exact h _
theorem cz_zs_s0 (i : Nat) (f B : Nat → Bool) (m : Nat) : cz_zs 0 (i + 1) f B m = if m = i then f i else cz_zs 0 i f B m := by
  rw [cz_zs_s, Nat.zero_add]
end
section
def i_Rel (_ : Nat) (u : SX) (v : SY) : Prop := ∃ (B M : Nat → Bool) (b : Nat → Int32), u = (cz_ba B, b) ∧ v = (cz_ba B, cz_ba M)
theorem i_up {k : Nat} {u : SX} {v : SY} (h : i_Rel k u v) : i_Rel (k + 5) u v := h
theorem cz_10 : ¬ (1 : Int32) = 0 := by decide
theorem cz_re (k : Nat) (B M : Nat → Bool) (b : Nat → Int32) : i_Rel k (cz_ba B, b) (cz_ba B, cz_ba M) := ⟨B, M, b, rfl, rfl⟩
-- stores into the picture
theorem cz_zb {f B : Nat → Bool} {x v : Int32} {N : Nat} {P : (Nat → Int32) → Prop} (o i : Nat) (hx : x = nI (o + i)) (hj : o + i < N) (hN : N < 2 ^ 31)
    (hv : vp_nar .boolean v = cz_bi (f i)) (h : P (cz_ba (cz_zs o (i + 1) f B))) :
    vp_in x N ∧ ∀ a', a' = upd (cz_ba (cz_zs o i f B)) x.toNatClampNeg (vp_nar .boolean v) → P a' :=
  cz_st (o + i) (f i) hx hj hN hv (cz_zs_s o i f B) h
theorem cz_z1 {f B : Nat → Bool} {x : Int32} {N : Nat} {P : (Nat → Int32) → Prop} (o i : Nat) (hx : x = nI (o + i)) (hj : o + i < N) (hN : N < 2 ^ 31)
    (hf : f i = true) (h : P (cz_ba (cz_zs o (i + 1) f B))) :
    vp_in x N ∧ ∀ a', a' = upd (cz_ba (cz_zs o i f B)) x.toNatClampNeg (vp_nar .boolean 1) → P a' :=
  cz_zb o i hx hj hN (by rw [hf]; rfl) h
theorem cz_z0 {f B : Nat → Bool} {x : Int32} {N : Nat} {P : (Nat → Int32) → Prop} (o i : Nat) (hx : x = nI (o + i)) (hj : o + i < N) (hN : N < 2 ^ 31)
    (hf : f i = false) (h : P (cz_ba (cz_zs o (i + 1) f B))) :
    vp_in x N ∧ ∀ a', a' = upd (cz_ba (cz_zs o i f B)) x.toNatClampNeg (vp_nar .boolean 0) → P a' :=
  cz_zb o i hx hj hN (by rw [hf]; rfl) h
theorem cz_wb {f M : Nat → Bool} {v : Int32} {P : (Nat → Int32) → Prop} {i : Nat} (hi : i < 2197)
    (hv : vp_nar .boolean v = cz_bi (f i)) (h : P (cz_ba (cz_zs 0 (i + 1) f M))) :
    vp_in (nI i) 2197 ∧ ∀ a', a' = upd (cz_ba (cz_zs 0 i f M)) (nI i).toNatClampNeg (vp_nar .boolean v) → P a' :=
  cz_zb 0 i (by rw [Nat.zero_add]) (by omega) (by decide) hv h
theorem cz_w1 {f M : Nat → Bool} {P : (Nat → Int32) → Prop} {i : Nat} (hi : i < 2197) (hf : f i = true) (h : P (cz_ba (cz_zs 0 (i + 1) f M))) :
    vp_in (nI i) 2197 ∧ ∀ a', a' = upd (cz_ba (cz_zs 0 i f M)) (nI i).toNatClampNeg (vp_nar .boolean 1) → P a' :=
  cz_wb hi (by rw [hf]; rfl) h
theorem cz_w0 {f M : Nat → Bool} {P : (Nat → Int32) → Prop} {i : Nat} (hi : i < 2197) (hf : f i = false) (h : P (cz_ba (cz_zs 0 (i + 1) f M))) :
    vp_in (nI i) 2197 ∧ ∀ a', a' = upd (cz_ba (cz_zs 0 i f M)) (nI i).toNatClampNeg (vp_nar .boolean 0) → P a' :=
  cz_wb hi (by rw [hf]; rfl) h
theorem cz_rz {y w i n : Nat} {f B : Nat → Bool} {x : Int32} (hx : x = nI (w * 2197 + n)) (hi : i ≤ n) (hn : n < 2197) (hw : w < 3) :
    cz_ba (cz_zs (y * 2197) i f B) x.toNatClampNeg = cz_bi (B (w * 2197 + n)) := by
  rw [cz_rdb (w * 2197 + n) hx (by omega), cz_zs_r f B hi hn]
-- fill, all
def cz_T : Nat → Bool := fun _ => true
theorem cx_fill {P : SX → Prop} {B : Nat → Bool} {b : Nat → Int32} {z : Nat} (hz : z < 3) (h : P (cz_ba (cz_zs (z * 2197) 2197 cz_T B), b)) : wpX_fill P (cz_ba B, b) (nI z) := by
  unfold wpX_fill
  refine nm_r (cz_m z) ?_
  have H : ∃ n, wX_fill_8 P (nI (z * 2197)) n (nI 0) (cz_ba (cz_zs (z * 2197) 0 cz_T B)) b :=
    cz_lt (W := fun n i => wX_fill_8 P (nI (z * 2197)) n (nI i) (cz_ba (cz_zs (z * 2197) i cz_T B)) b) 2197
      (fun n => br_t cz_ex1 h)
      (fun n i hi K => br_f (cz_in1 hi) (cz_z1 (z * 2197) i (nI_add _ _) (by omega) (by decide) rfl (nm_r (nI_1 i) K)))
  rw [cz_zs_0] at H
  exact H
theorem cy_all {P : Int32 → SY → Prop} {B : Nat → Bool} {b : Nat → Int32} {z : Nat} (hz : z < 3) (h : P 0 (cz_ba (cz_zs (z * 2197) 2197 cz_T B), b)) : ∃ n, wY_all_12 P (nI z) n 0 (cz_ba B) b := by
  have H : ∃ n, wY_all_12 P (nI z) n (nI 0) (cz_ba (cz_zs (z * 2197) 0 cz_T B)) b :=
    cz_lt (W := fun n i => wY_all_12 P (nI z) n (nI i) (cz_ba (cz_zs (z * 2197) i cz_T B)) b) 2197
      (fun n => br_t cz_ex1 h)
      (fun n i hi K => br_f (cz_in1 hi) (cz_z1 (z * 2197) i (cz_ix z i) (by omega) (by decide) rfl (nm_r (nI_1 i) K)))
  rw [cz_zs_0] at H
  exact H
theorem i_vc_all {k : Nat} {u : SX} {v : SY} (I : i_Rel k u v) (hk : k + 5 ≤ 2560) (v1 : Int32) : wpX_all (fun r u' => wpY_all (fun r' v' => r' = r ∧ i_Rel (k + 5) u' v') v v1) u v1 := by
  obtain ⟨B, M, b, rfl, rfl⟩ := I
  unfold wpX_all wpY_all
  dsimp only
  rcases cz_zone v1 with ⟨hx, hy⟩ | ⟨z, hz, rfl, hx, hy⟩
  · exact hx _ (br_t rfl (hy _ _ _ (br_f cz_10 ⟨rfl, cz_re _ B M b⟩)))
  · exact hx _ (br_f cz_10 (cx_fill hz (hy _ _ _ (br_t rfl (cy_all hz ⟨rfl, cz_re _ _ M b⟩)))))
-- zero
def cz_Z : Nat → Bool := fun n => decide (n = 0)
theorem cx_zero {P : Int32 → SX → Prop} {B : Nat → Bool} {b : Nat → Int32} {z : Nat} (hz : z < 3) (h : P 0 (cz_ba (cz_zs (z * 2197) 2197 cz_Z B), b)) : ∃ n, wX_zero_17 P (nI (z * 2197)) n 0 (cz_ba B) b := by
  have H : ∃ n, wX_zero_17 P (nI (z * 2197)) n (nI 0) (cz_ba (cz_zs (z * 2197) 0 cz_Z B)) b :=
    cz_lt (W := fun n i => wX_zero_17 P (nI (z * 2197)) n (nI i) (cz_ba (cz_zs (z * 2197) i cz_Z B)) b) 2197
      (fun n => br_t cz_ex1 h)
      (fun n i hi K => br_f (cz_in1 hi) (by
        by_cases h0 : i = 0
        · exact br_t (by rw [h0]; rfl) (cz_z1 (z * 2197) i (nI_add _ _) (by omega) (by decide) (decide_eq_true h0) (nm_r (nI_1 i) K))
        · exact br_f (nI_ne0 (by omega) (by omega)) (cz_z0 (z * 2197) i (nI_add _ _) (by omega) (by decide) (decide_eq_false h0) (nm_r (nI_1 i) K))))
  rw [cz_zs_0] at H
  exact H
theorem cy_zero {P : Int32 → SY → Prop} {B : Nat → Bool} {b : Nat → Int32} {z : Nat} (hz : z < 3) (h : P 0 (cz_ba (cz_zs (z * 2197) 2197 cz_Z B), b)) : ∃ n, wY_zero_12 P (nI z) n 0 (cz_ba B) b := by
  have H : ∃ n, wY_zero_12 P (nI z) n (nI 0) (cz_ba (cz_zs (z * 2197) 0 cz_Z B)) b :=
    cz_lt (W := fun n i => wY_zero_12 P (nI z) n (nI i) (cz_ba (cz_zs (z * 2197) i cz_Z B)) b) 2197
      (fun n => br_t cz_ex1 h)
      (fun n i hi K => br_f (cz_in1 hi) (by
        by_cases h0 : i = 0
        · exact br_t (by rw [h0]; rfl) (cz_z1 (z * 2197) i (cz_ix z i) (by omega) (by decide) (decide_eq_true h0) (nm_r (nI_1 i) K))
        · exact br_f (nI_ne0 (by omega) (by omega)) (cz_z0 (z * 2197) i (cz_ix z i) (by omega) (by decide) (decide_eq_false h0) (nm_r (nI_1 i) K))))
  rw [cz_zs_0] at H
  exact H
theorem i_vc_zero {k : Nat} {u : SX} {v : SY} (I : i_Rel k u v) (hk : k + 5 ≤ 2560) (v1 : Int32) : wpX_zero (fun r u' => wpY_zero (fun r' v' => r' = r ∧ i_Rel (k + 5) u' v') v v1) u v1 := by
  obtain ⟨B, M, b, rfl, rfl⟩ := I
  unfold wpX_zero wpY_zero
  dsimp only
  rcases cz_zone v1 with ⟨hx, hy⟩ | ⟨z, hz, rfl, hx, hy⟩
  · exact hx _ (br_t rfl (hy _ _ _ (br_f cz_10 ⟨rfl, cz_re _ B M b⟩)))
  · exact hx _ (br_f cz_10 (nm_r (cz_m z) (cx_zero hz (hy _ _ _ (br_t rfl (cy_zero hz ⟨rfl, cz_re _ _ M b⟩))))))
-- keep
def cz_K (B : Nat → Bool) (o i j : Nat) (c : Int32) : Nat → Bool := fun n => B (o + n) && decide (cz_df n i j ≤ c)
theorem cx_kd {P : SX → Prop} {B : Nat → Bool} {b : Nat → Int32} {z i j : Nat} {c : Int32} (hz : z < 3) (hi : i ≤ 3) (hj : j ≤ 3) (h : P (cz_ba (cz_zs (z * 2197) 2197 (cz_K B (z * 2197) i j c) B), b)) : wpX_keepDifference P (cz_ba B, b) (nI z) (nI i) (nI j) c := by
  unfold wpX_keepDifference
  refine nm_r (cz_m z) ?_
  have H : ∃ n, wX_keepDifference_10 P (nI i) (nI j) c (nI (z * 2197)) n (nI 0) (cz_ba (cz_zs (z * 2197) 0 (cz_K B (z * 2197) i j c) B)) b :=
    cz_lt (W := fun n t => wX_keepDifference_10 P (nI i) (nI j) c (nI (z * 2197)) n (nI t) (cz_ba (cz_zs (z * 2197) t (cz_K B (z * 2197) i j c) B)) b) 2197
      (fun n => br_t cz_ex1 h)
      (fun n t ht K => br_f (cz_in1 ht) (cx_dif ht hi hj (by
        by_cases hd : cz_df t i j ≤ c
        · refine br_t hd (nm_r (nI_1 t) ?_)
          have e : B (z * 2197 + t) = cz_K B (z * 2197) i j c t := by
            show _ = (B (z * 2197 + t) && decide (cz_df t i j ≤ c))
            rw [decide_eq_true hd, Bool.and_true]
          rw [cz_zs_k e] at K
          exact K
        · refine br_f hd (cz_z0 (z * 2197) t (nI_add _ _) (by omega) (by decide) ?_ (nm_r (nI_1 t) K))
          show (B (z * 2197 + t) && decide (cz_df t i j ≤ c)) = false
          rw [decide_eq_false hd, Bool.and_false])))
  rw [cz_zs_0] at H
  exact H
theorem cy_keep {P : Int32 → SY → Prop} {B M : Nat → Bool} {z i j : Nat} {c : Int32} (hz : z < 3) (hi : i ≤ 3) (hj : j ≤ 3) (h : ∀ M' : Nat → Bool, P (cz_bi (cz_an (cz_K B (z * 2197) i j c) 2197)) (cz_ba (cz_zs (z * 2197) 2197 (cz_K B (z * 2197) i j c) B), cz_ba M')) : ∃ n, wY_keep_42 P (nI z) (nI i) (nI j) c n 0 (cz_ba B) (cz_ba M) := by
  have H : ∃ n, wY_keep_42 P (nI z) (nI i) (nI j) c n (nI 0) (cz_ba B) (cz_ba (cz_zs 0 0 (cz_K B (z * 2197) i j c) M)) :=
    cz_lt (W := fun n t => wY_keep_42 P (nI z) (nI i) (nI j) c n (nI t) (cz_ba B) (cz_ba (cz_zs 0 t (cz_K B (z * 2197) i j c) M))) 2197
      (fun n => br_t cz_ex1 (cy_storez hz h))
      (fun n t ht K => br_f (cz_in1 ht) (cy_val ht hi (cy_val ht hj ⟨cz_in (z * 2197 + t) (cz_ix z t) (by omega) (by decide),
        cz_br (B (z * 2197 + t)) (cz_rdb _ (cz_ix z t) (by omega))
          (fun hb => cz_w0 ht (by show (B (z * 2197 + t) && decide (cz_df t i j ≤ c)) = false; rw [hb]; rfl) (nm_r (nI_1 t) K))
          (fun hb => by
            by_cases hd : cz_df t i j ≤ c
            · exact br_f (Int32.not_lt.mpr hd) (cz_w1 ht (by show (B (z * 2197 + t) && decide (cz_df t i j ≤ c)) = true; rw [hb, decide_eq_true hd]; rfl) (nm_r (nI_1 t) K))
            · exact br_t (Int32.not_le.mp hd) (cz_w0 ht (by show (B (z * 2197 + t) && decide (cz_df t i j ≤ c)) = false; rw [decide_eq_false hd, Bool.and_false]) (nm_r (nI_1 t) K)))⟩)))
  rw [cz_zs_0] at H
  exact H
theorem i_vc_keep {k : Nat} {u : SX} {v : SY} (I : i_Rel k u v) (hk : k + 5 ≤ 2560) (v1 : Int32) (v2 : Int32) (v3 : Int32) (v4 : Int32) : wpX_keep (fun r u' => wpY_keep (fun r' v' => r' = r ∧ i_Rel (k + 5) u' v') v v1 v2 v3 v4) u v1 v2 v3 v4 := by
  obtain ⟨B, M, b, rfl, rfl⟩ := I
  unfold wpX_keep wpY_keep
  dsimp only
  rcases cz_zone v1 with ⟨hx, hy⟩ | ⟨z, hz, rfl, hx, hy⟩
  · exact hx _ (br_t rfl (hy _ _ _ (br_f cz_10 ⟨rfl, cz_re _ B M b⟩)))
  rcases cz_pair v2 v3 with ⟨px, py⟩ | ⟨i, j, hi, hj, hij, rfl, rfl, px, py⟩
  · exact hx _ (br_f cz_10 (px _ (br_t rfl (hy _ _ _ (br_t rfl (py _ _ _ (br_f cz_10 ⟨rfl, cz_re _ B M b⟩)))))))
  by_cases h1 : v4 < (-12)
  · exact hx _ (br_f cz_10 (px _ (br_f cz_10 (br_t h1 (hy _ _ _ (br_t rfl (py _ _ _ (br_t rfl (br_t h1 ⟨rfl, cz_re _ B M b⟩)))))))))
  by_cases h2 : v4 ≤ 12
  · exact hx _ (br_f cz_10 (px _ (br_f cz_10 (br_f h1 (br_t h2 (cx_kd hz hi hj (cx_anyz hz (hy _ _ _ (br_t rfl (py _ _ _ (br_t rfl (br_f h1 (br_t h2 (cy_keep hz hi hj (fun M' => ⟨rfl, cz_re _ _ M' b⟩)))))))))))))))
  · exact hx _ (br_f cz_10 (px _ (br_f cz_10 (br_f h1 (br_f h2 (hy _ _ _ (br_t rfl (py _ _ _ (br_t rfl (br_f h1 (br_f h2 ⟨rfl, cz_re _ B M b⟩)))))))))))
end
section
-- meet
def cz_M (B : Nat → Bool) (y z : Nat) : Nat → Bool := fun n => B (y * 2197 + n) && B (z * 2197 + n)
theorem cz_M0 {B : Nat → Bool} {y z n : Nat} (h : B (y * 2197 + n) = false) : cz_M B y z n = false := by
  show (B (y * 2197 + n) && B (z * 2197 + n)) = false
  rw [h]; rfl
theorem cz_M1 {B : Nat → Bool} {y z n : Nat} (h : B (z * 2197 + n) = false) : cz_M B y z n = false := by
  show (B (y * 2197 + n) && B (z * 2197 + n)) = false
  rw [h, Bool.and_false]
theorem cz_M2 {B : Nat → Bool} {y z n : Nat} (h : B (y * 2197 + n) = true) (h' : B (z * 2197 + n) = true) : cz_M B y z n = true := by
  show (B (y * 2197 + n) && B (z * 2197 + n)) = true
  rw [h, h']; rfl
theorem cx_meet {P : Int32 → SX → Prop} {B : Nat → Bool} {b : Nat → Int32} {y z : Nat} (hy : y < 3) (hz : z < 3) (h : P (cz_bi (cz_an (cz_M B y z) 2197)) (cz_ba (cz_zs (y * 2197) 2197 (cz_M B y z) B), b)) : ∃ n, wX_meet_32 P (nI y) (nI (y * 2197)) (nI (z * 2197)) n 0 (cz_ba B) b := by
  have H : ∃ n, wX_meet_32 P (nI y) (nI (y * 2197)) (nI (z * 2197)) n (nI 0) (cz_ba (cz_zs (y * 2197) 0 (cz_M B y z) B)) b :=
    cz_lt (W := fun n i => wX_meet_32 P (nI y) (nI (y * 2197)) (nI (z * 2197)) n (nI i) (cz_ba (cz_zs (y * 2197) i (cz_M B y z) B)) b) 2197
      (fun n => br_t cz_ex1 (cx_anyz hy h))
      (fun n i hi K => br_f (cz_in1 hi) ⟨cz_in (y * 2197 + i) (nI_add _ _) (by omega) (by decide),
        cz_br (B (y * 2197 + i)) (cz_rz (nI_add _ _) (Nat.le_refl _) hi hy)
          (fun h0 => cz_z0 (y * 2197) i (nI_add _ _) (by omega) (by decide) (cz_M0 h0) (nm_r (nI_1 i) K))
          (fun h0 => ⟨cz_in (z * 2197 + i) (nI_add _ _) (by omega) (by decide),
            cz_br (B (z * 2197 + i)) (cz_rz (nI_add _ _) (Nat.le_refl _) hi hz)
              (fun h1 => cz_z0 (y * 2197) i (nI_add _ _) (by omega) (by decide) (cz_M1 h1) (nm_r (nI_1 i) K))
              (fun h1 => cz_z1 (y * 2197) i (nI_add _ _) (by omega) (by decide) (cz_M2 h0 h1) (nm_r (nI_1 i) K))⟩)⟩)
  rw [cz_zs_0] at H
  exact H
theorem cy_meet {P : Int32 → SY → Prop} {B M : Nat → Bool} {y z : Nat} (hy : y < 3) (hz : z < 3) (h : ∀ M' : Nat → Bool, P (cz_bi (cz_an (cz_M B y z) 2197)) (cz_ba (cz_zs (y * 2197) 2197 (cz_M B y z) B), cz_ba M')) : ∃ n, wY_meet_20 P (nI y) (nI z) n 0 (cz_ba B) (cz_ba M) := by
  have H : ∃ n, wY_meet_20 P (nI y) (nI z) n (nI 0) (cz_ba B) (cz_ba (cz_zs 0 0 (cz_M B y z) M)) :=
    cz_lt (W := fun n i => wY_meet_20 P (nI y) (nI z) n (nI i) (cz_ba B) (cz_ba (cz_zs 0 i (cz_M B y z) M))) 2197
      (fun n => br_t cz_ex1 (cy_storez hy h))
      (fun n i hi K => br_f (cz_in1 hi) ⟨cz_in (y * 2197 + i) (cz_ix y i) (by omega) (by decide),
        cz_br (B (y * 2197 + i)) (cz_rdb _ (cz_ix y i) (by omega))
          (fun h0 => cz_w0 hi (cz_M0 h0) (nm_r (nI_1 i) K))
          (fun h0 => ⟨cz_in (z * 2197 + i) (cz_ix z i) (by omega) (by decide),
            cz_br (B (z * 2197 + i)) (cz_rdb _ (cz_ix z i) (by omega))
              (fun h1 => cz_w0 hi (cz_M1 h1) (nm_r (nI_1 i) K))
              (fun h1 => cz_w1 hi (cz_M2 h0 h1) (nm_r (nI_1 i) K))⟩)⟩)
  rw [cz_zs_0] at H
  exact H
theorem i_vc_meet {k : Nat} {u : SX} {v : SY} (I : i_Rel k u v) (hk : k + 5 ≤ 2560) (v1 : Int32) (v2 : Int32) : wpX_meet (fun r u' => wpY_meet (fun r' v' => r' = r ∧ i_Rel (k + 5) u' v') v v1 v2) u v1 v2 := by
  obtain ⟨B, M, b, rfl, rfl⟩ := I
  unfold wpX_meet wpY_meet
  dsimp only
  rcases cz_zone v1 with ⟨hx, hy⟩ | ⟨y, hz, rfl, hx, hy⟩
  · exact hx _ (br_t rfl (hy _ _ _ (br_f cz_10 ⟨rfl, cz_re _ B M b⟩)))
  rcases cz_zone v2 with ⟨gx, gy⟩ | ⟨z, gz, rfl, gx, gy⟩
  · exact hx _ (br_f cz_10 (gx _ (br_t rfl (hy _ _ _ (br_t rfl (gy _ _ _ (br_f cz_10 ⟨rfl, cz_re _ B M b⟩)))))))
  · exact hx _ (br_f cz_10 (gx _ (br_f cz_10 (nm_r (cz_m y) (nm_r (cz_m z) (cx_meet hz gz (hy _ _ _ (br_t rfl (gy _ _ _ (br_t rfl (cy_meet hz gz (fun M' => ⟨rfl, cz_re _ _ M' b⟩))))))))))))
-- copy
def cz_C (B : Nat → Bool) (z : Nat) : Nat → Bool := fun n => B (z * 2197 + n)
theorem cx_copy {P : Int32 → SX → Prop} {B : Nat → Bool} {b : Nat → Int32} {y z : Nat} (hy : y < 3) (hz : z < 3) (h : P 0 (cz_ba (cz_zs (y * 2197) 2197 (cz_C B z) B), b)) : ∃ n, wX_copy_32 P (nI (y * 2197)) (nI (z * 2197)) n 0 (cz_ba B) b := by
  have H : ∃ n, wX_copy_32 P (nI (y * 2197)) (nI (z * 2197)) n (nI 0) (cz_ba (cz_zs (y * 2197) 0 (cz_C B z) B)) b :=
    cz_lt (W := fun n i => wX_copy_32 P (nI (y * 2197)) (nI (z * 2197)) n (nI i) (cz_ba (cz_zs (y * 2197) i (cz_C B z) B)) b) 2197
      (fun n => br_t cz_ex1 h)
      (fun n i hi K => br_f (cz_in1 hi) ⟨cz_in (z * 2197 + i) (nI_add _ _) (by omega) (by decide),
        cz_zb (y * 2197) i (nI_add _ _) (by omega) (by decide) (by rw [cz_rz (w := z) (nI_add _ _) (Nat.le_refl _) hi hz]; exact cz_nb _) (nm_r (nI_1 i) K)⟩)
  rw [cz_zs_0] at H
  exact H
theorem cy_copy {P : Int32 → SY → Prop} {B : Nat → Bool} {b : Nat → Int32} {y z : Nat} (hy : y < 3) (hz : z < 3) (h : P 0 (cz_ba (cz_zs (y * 2197) 2197 (cz_C B z) B), b)) : ∃ n, wY_copy_20 P (nI y) (nI z) n 0 (cz_ba B) b := by
  have H : ∃ n, wY_copy_20 P (nI y) (nI z) n (nI 0) (cz_ba (cz_zs (y * 2197) 0 (cz_C B z) B)) b :=
    cz_lt (W := fun n i => wY_copy_20 P (nI y) (nI z) n (nI i) (cz_ba (cz_zs (y * 2197) i (cz_C B z) B)) b) 2197
      (fun n => br_t cz_ex1 h)
      (fun n i hi K => br_f (cz_in1 hi) ⟨cz_in (z * 2197 + i) (cz_ix z i) (by omega) (by decide),
        cz_zb (y * 2197) i (cz_ix y i) (by omega) (by decide) (by rw [cz_rz (w := z) (cz_ix z i) (Nat.le_refl _) hi hz]; exact cz_nb _) (nm_r (nI_1 i) K)⟩)
  rw [cz_zs_0] at H
  exact H
theorem i_vc_copy {k : Nat} {u : SX} {v : SY} (I : i_Rel k u v) (hk : k + 5 ≤ 2560) (v1 : Int32) (v2 : Int32) : wpX_copy (fun r u' => wpY_copy (fun r' v' => r' = r ∧ i_Rel (k + 5) u' v') v v1 v2) u v1 v2 := by
  obtain ⟨B, M, b, rfl, rfl⟩ := I
  unfold wpX_copy wpY_copy
  dsimp only
  rcases cz_zone v1 with ⟨hx, hy⟩ | ⟨y, hz, rfl, hx, hy⟩
  · exact hx _ (br_t rfl (hy _ _ _ (br_f cz_10 ⟨rfl, cz_re _ B M b⟩)))
  rcases cz_zone v2 with ⟨gx, gy⟩ | ⟨z, gz, rfl, gx, gy⟩
  · exact hx _ (br_f cz_10 (gx _ (br_t rfl (hy _ _ _ (br_t rfl (gy _ _ _ (br_f cz_10 ⟨rfl, cz_re _ B M b⟩)))))))
  · exact hx _ (br_f cz_10 (gx _ (br_f cz_10 (nm_r (cz_m y) (nm_r (cz_m z) (cx_copy hz gz (hy _ _ _ (br_t rfl (gy _ _ _ (br_t rfl (cy_copy hz gz ⟨rfl, cz_re _ _ M b⟩)))))))))))
-- empty
theorem i_vc_empty {k : Nat} {u : SX} {v : SY} (I : i_Rel k u v) (hk : k + 5 ≤ 2560) (v1 : Int32) : wpX_empty (fun r => wpY_empty (fun r' => r' = r ∧ i_Rel (k + 5) u v) v v1) u v1 := by
  obtain ⟨B, M, b, rfl, rfl⟩ := I
  unfold wpX_empty wpY_empty
  dsimp only
  rcases cz_zone v1 with ⟨hx, hy⟩ | ⟨z, hz, rfl, hx, hy⟩
  · exact hx _ (br_t rfl (hy _ _ _ (br_f cz_10 ⟨rfl, cz_re _ B M b⟩)))
  · exact hx _ (br_f cz_10 (cx_any hz (hy _ _ _ (br_t rfl (cy_some hz ⟨rfl, cz_re _ B M b⟩)))))
-- size
def cz_ct (g : Nat → Bool) : Nat → Int32
  | 0 => 0
  | n + 1 => if g n = true then cz_ct g n + 1 else cz_ct g n
theorem cz_ct0 {g : Nat → Bool} {n : Nat} (h : g n = false) : cz_ct g (n + 1) = cz_ct g n := if_neg (by rw [h]; decide)
theorem cz_ct1 {g : Nat → Bool} {n : Nat} (h : g n = true) : cz_ct g (n + 1) = cz_ct g n + 1 := if_pos h
theorem cx_size {P : Int32 → Prop} {B : Nat → Bool} {b : Nat → Int32} {z : Nat} (hz : z < 3) (h : P (cz_ct (cz_C B z) 2197)) : ∃ n, wX_size_20 P (nI (z * 2197)) (cz_ba B) b n 0 0 :=
  cz_lt (W := fun n i => wX_size_20 P (nI (z * 2197)) (cz_ba B) b n (cz_ct (cz_C B z) i) (nI i)) 2197
    (fun n => br_t cz_ex1 h)
    (fun n i hi K => br_f (cz_in1 hi) ⟨cz_in (z * 2197 + i) (nI_add _ _) (by omega) (by decide),
      cz_br (B (z * 2197 + i)) (cz_rdb _ (nI_add _ _) (by omega))
        (fun f => nm_r (nI_1 i) (by rw [cz_ct0 (g := cz_C B z) f] at K; exact K))
        (fun f => nm_r (cz_ct1 (g := cz_C B z) f).symm (nm_r (nI_1 i) K))⟩)
theorem cy_size {P : Int32 → Prop} {B : Nat → Bool} {b : Nat → Int32} {z : Nat} (hz : z < 3) (h : P (cz_ct (cz_C B z) 2197)) : ∃ n, wY_size_14 P (nI z) (cz_ba B) b n 0 0 :=
  cz_lt (W := fun n i => wY_size_14 P (nI z) (cz_ba B) b n (cz_ct (cz_C B z) i) (nI i)) 2197
    (fun n => br_t cz_ex1 h)
    (fun n i hi K => br_f (cz_in1 hi) ⟨cz_in (z * 2197 + i) (cz_ix z i) (by omega) (by decide),
      cz_br (B (z * 2197 + i)) (cz_rdb _ (cz_ix z i) (by omega))
        (fun f => nm_r (nI_1 i) (by rw [cz_ct0 (g := cz_C B z) f] at K; exact K))
        (fun f => nm_r (cz_ct1 (g := cz_C B z) f).symm (nm_r (nI_1 i) K))⟩)
theorem i_vc_size {k : Nat} {u : SX} {v : SY} (I : i_Rel k u v) (hk : k + 5 ≤ 2560) (v1 : Int32) : wpX_size (fun r => wpY_size (fun r' => r' = r ∧ i_Rel (k + 5) u v) v v1) u v1 := by
  obtain ⟨B, M, b, rfl, rfl⟩ := I
  unfold wpX_size wpY_size
  dsimp only
  rcases cz_zone v1 with ⟨hx, hy⟩ | ⟨z, hz, rfl, hx, hy⟩
  · exact hx _ (br_t rfl (hy _ _ _ (br_f cz_10 ⟨rfl, cz_re _ B M b⟩)))
  · exact hx _ (br_f cz_10 (nm_r (cz_m z) (cx_size hz (hy _ _ _ (br_t rfl (cy_size hz ⟨rfl, cz_re _ B M b⟩))))))
-- scans of both sides
theorem cz_scan {WX WY : (Int32 → Prop) → Nat → Nat → Prop} (e : Nat) (r0 : Int32) (hX : ∀ P n, P r0 → WX P (n + 1) e) (hY : ∀ P n, P r0 → WY P (n + 1) e)
    (hs : ∀ i, i < e → (∃ r, (∀ P n, P r → WX P (n + 1) i) ∧ (∀ P n, P r → WY P (n + 1) i)) ∨ ((∀ P n, WX P n (i + 1) → WX P (n + 1) i) ∧ (∀ P n, WY P n (i + 1) → WY P (n + 1) i))) :
    ∃ r, (∀ P, P r → ∃ n, WX P n 0) ∧ (∀ P, P r → ∃ n, WY P n 0) := by
  have H : ∀ d i, i + d = e → ∃ r, (∀ P, P r → WX P (d + 1) i) ∧ (∀ P, P r → WY P (d + 1) i) := by
    intro d
    induction d with
    | zero =>
      intro i hi
      have : i = e := by omega
      subst this
      exact ⟨r0, fun P p => hX P 0 p, fun P p => hY P 0 p⟩
    | succ d ih =>
      intro i hi
      rcases hs i (by omega) with ⟨r, h1, h2⟩ | ⟨h1, h2⟩
      · exact ⟨r, fun P p => h1 P _ p, fun P p => h2 P _ p⟩
      · obtain ⟨r, g1, g2⟩ := ih (i + 1) (by omega)
        exact ⟨r, fun P p => h1 P _ (g1 P p), fun P p => h2 P _ (g2 P p)⟩
  obtain ⟨r, h1, h2⟩ := H e 0 (by omega)
  exact ⟨r, fun P p => ⟨_, h1 P p⟩, fun P p => ⟨_, h2 P p⟩⟩
-- next
theorem cz_next (B : Nat → Bool) (b b' : Nat → Int32) {z : Nat} (hz : z < 3) (a : Int32) :
    ∃ r, (∀ P, P r → ∃ n, wX_next_18 P a (nI (z * 2197)) (cz_ba B) b n 0) ∧ (∀ P, P r → ∃ n, wY_next_12 P (nI z) a (cz_ba B) b' n 0) := by
  refine cz_scan (WX := fun P n i => wX_next_18 P a (nI (z * 2197)) (cz_ba B) b n (nI i)) (WY := fun P n i => wY_next_12 P (nI z) a (cz_ba B) b' n (nI i)) 2197 (-2)
    (fun P n p => br_t cz_ex1 p) (fun P n p => br_t cz_ex1 p) (fun i hi => ?_)
  by_cases h1 : nI i ≤ a
  · exact Or.inr ⟨fun P n K => br_f (cz_in1 hi) (br_t h1 (nm_r (nI_1 i) K)), fun P n K => br_f (cz_in1 hi) (br_t h1 (nm_r (nI_1 i) K))⟩
  · have e1 : cz_ba B (nI (z * 2197) + nI i).toNatClampNeg = cz_bi (B (z * 2197 + i)) := cz_rdb _ (nI_add _ _) (by omega)
    have e2 : cz_ba B (nI z * 2197 + nI i).toNatClampNeg = cz_bi (B (z * 2197 + i)) := cz_rdb _ (cz_ix z i) (by omega)
    have j1 : vp_in (nI (z * 2197) + nI i) 6591 := cz_in (z * 2197 + i) (nI_add _ _) (by omega) (by decide)
    have j2 : vp_in (nI z * 2197 + nI i) 6591 := cz_in (z * 2197 + i) (cz_ix z i) (by omega) (by decide)
    cases hb : B (z * 2197 + i) with
    | false =>
      rw [hb] at e1 e2
      exact Or.inr ⟨fun P n K => br_f (cz_in1 hi) (br_f h1 ⟨j1, br_t e1 (nm_r (nI_1 i) K)⟩), fun P n K => br_f (cz_in1 hi) (br_f h1 ⟨j2, br_t e2 (nm_r (nI_1 i) K)⟩)⟩
    | true =>
      rw [hb] at e1 e2
      exact Or.inl ⟨nI i, fun P n p => br_f (cz_in1 hi) (br_f h1 ⟨j1, br_f (by rw [e1]; exact cz_10) p⟩), fun P n p => br_f (cz_in1 hi) (br_f h1 ⟨j2, br_f (by rw [e2]; exact cz_10) p⟩)⟩
theorem i_vc_next {k : Nat} {u : SX} {v : SY} (I : i_Rel k u v) (hk : k + 5 ≤ 2560) (v1 : Int32) (v2 : Int32) : wpX_next (fun r => wpY_next (fun r' => r' = r ∧ i_Rel (k + 5) u v) v v1 v2) u v1 v2 := by
  obtain ⟨B, M, b, rfl, rfl⟩ := I
  unfold wpX_next wpY_next
  dsimp only
  rcases cz_zone v1 with ⟨hx, hy⟩ | ⟨z, hz, rfl, hx, hy⟩
  · exact hx _ (br_t rfl (hy _ _ _ (br_f cz_10 ⟨rfl, cz_re _ B M b⟩)))
  · obtain ⟨r, h1, h2⟩ := cz_next B b (cz_ba M) hz v2
    exact hx _ (br_f cz_10 (nm_r (cz_m z) (h1 _ (hy _ _ _ (br_t rfl (h2 _ ⟨rfl, cz_re _ B M b⟩))))))
-- within, touch
theorem cz_within (B : Nat → Bool) (b b' : Nat → Int32) {y z : Nat} (hy : y < 3) (hz : z < 3) :
    ∃ r, (∀ P, P r → ∃ n, wX_within_32 P (nI (y * 2197)) (nI (z * 2197)) (cz_ba B) b n 0) ∧ (∀ P, P r → ∃ n, wY_within_20 P (nI y) (nI z) (cz_ba B) b' n 0) := by
  refine cz_scan (WX := fun P n i => wX_within_32 P (nI (y * 2197)) (nI (z * 2197)) (cz_ba B) b n (nI i)) (WY := fun P n i => wY_within_20 P (nI y) (nI z) (cz_ba B) b' n (nI i)) 2197 1
    (fun P n p => br_t cz_ex1 p) (fun P n p => br_t cz_ex1 p) (fun i hi => ?_)
  have e1 : cz_ba B (nI (y * 2197) + nI i).toNatClampNeg = cz_bi (B (y * 2197 + i)) := cz_rdb _ (nI_add _ _) (by omega)
  have e2 : cz_ba B (nI y * 2197 + nI i).toNatClampNeg = cz_bi (B (y * 2197 + i)) := cz_rdb _ (cz_ix y i) (by omega)
  have j1 : vp_in (nI (y * 2197) + nI i) 6591 := cz_in (y * 2197 + i) (nI_add _ _) (by omega) (by decide)
  have j2 : vp_in (nI y * 2197 + nI i) 6591 := cz_in (y * 2197 + i) (cz_ix y i) (by omega) (by decide)
  have e3 : cz_ba B (nI (z * 2197) + nI i).toNatClampNeg = cz_bi (B (z * 2197 + i)) := cz_rdb _ (nI_add _ _) (by omega)
  have e4 : cz_ba B (nI z * 2197 + nI i).toNatClampNeg = cz_bi (B (z * 2197 + i)) := cz_rdb _ (cz_ix z i) (by omega)
  have j3 : vp_in (nI (z * 2197) + nI i) 6591 := cz_in (z * 2197 + i) (nI_add _ _) (by omega) (by decide)
  have j4 : vp_in (nI z * 2197 + nI i) 6591 := cz_in (z * 2197 + i) (cz_ix z i) (by omega) (by decide)
  cases hb : B (y * 2197 + i) with
  | false =>
    rw [hb] at e1 e2
    exact Or.inr ⟨fun P n K => br_f (cz_in1 hi) ⟨j1, br_t e1 (nm_r (nI_1 i) K)⟩, fun P n K => br_f (cz_in1 hi) ⟨j2, br_t e2 (nm_r (nI_1 i) K)⟩⟩
  | true =>
    rw [hb] at e1 e2
    have n1 : ¬ cz_ba B (nI (y * 2197) + nI i).toNatClampNeg = 0 := by rw [e1]; exact cz_10
    have n2 : ¬ cz_ba B (nI y * 2197 + nI i).toNatClampNeg = 0 := by rw [e2]; exact cz_10
    cases hc : B (z * 2197 + i) with
    | false =>
      rw [hc] at e3 e4
      exact Or.inl ⟨0, fun P n p => br_f (cz_in1 hi) ⟨j1, br_f n1 ⟨j3, br_t e3 p⟩⟩, fun P n p => br_f (cz_in1 hi) ⟨j2, br_f n2 ⟨j4, br_t e4 p⟩⟩⟩
    | true =>
      rw [hc] at e3 e4
      exact Or.inr ⟨fun P n K => br_f (cz_in1 hi) ⟨j1, br_f n1 ⟨j3, br_f (by rw [e3]; exact cz_10) (nm_r (nI_1 i) K)⟩⟩, fun P n K => br_f (cz_in1 hi) ⟨j2, br_f n2 ⟨j4, br_f (by rw [e4]; exact cz_10) (nm_r (nI_1 i) K)⟩⟩⟩
theorem i_vc_within {k : Nat} {u : SX} {v : SY} (I : i_Rel k u v) (hk : k + 5 ≤ 2560) (v1 : Int32) (v2 : Int32) : wpX_within (fun r => wpY_within (fun r' => r' = r ∧ i_Rel (k + 5) u v) v v1 v2) u v1 v2 := by
  obtain ⟨B, M, b, rfl, rfl⟩ := I
  unfold wpX_within wpY_within
  dsimp only
  rcases cz_zone v1 with ⟨hx, hy⟩ | ⟨y, hz, rfl, hx, hy⟩
  · exact hx _ (br_t rfl (hy _ _ _ (br_f cz_10 ⟨rfl, cz_re _ B M b⟩)))
  rcases cz_zone v2 with ⟨gx, gy⟩ | ⟨z, gz, rfl, gx, gy⟩
  · exact hx _ (br_f cz_10 (gx _ (br_t rfl (hy _ _ _ (br_t rfl (gy _ _ _ (br_f cz_10 ⟨rfl, cz_re _ B M b⟩)))))))
  · obtain ⟨r, h1, h2⟩ := cz_within B b (cz_ba M) hz gz
    exact hx _ (br_f cz_10 (gx _ (br_f cz_10 (nm_r (cz_m y) (nm_r (cz_m z) (h1 _ (hy _ _ _ (br_t rfl (gy _ _ _ (br_t rfl (h2 _ ⟨rfl, cz_re _ B M b⟩)))))))))))
theorem cz_touch (B : Nat → Bool) (b b' : Nat → Int32) {y z : Nat} (hy : y < 3) (hz : z < 3) :
    ∃ r, (∀ P, P r → ∃ n, wX_touch_32 P (nI (y * 2197)) (nI (z * 2197)) (cz_ba B) b n 0) ∧ (∀ P, P r → ∃ n, wY_touch_20 P (nI y) (nI z) (cz_ba B) b' n 0) := by
  refine cz_scan (WX := fun P n i => wX_touch_32 P (nI (y * 2197)) (nI (z * 2197)) (cz_ba B) b n (nI i)) (WY := fun P n i => wY_touch_20 P (nI y) (nI z) (cz_ba B) b' n (nI i)) 2197 0
    (fun P n p => br_t cz_ex1 p) (fun P n p => br_t cz_ex1 p) (fun i hi => ?_)
  have e1 : cz_ba B (nI (y * 2197) + nI i).toNatClampNeg = cz_bi (B (y * 2197 + i)) := cz_rdb _ (nI_add _ _) (by omega)
  have e2 : cz_ba B (nI y * 2197 + nI i).toNatClampNeg = cz_bi (B (y * 2197 + i)) := cz_rdb _ (cz_ix y i) (by omega)
  have j1 : vp_in (nI (y * 2197) + nI i) 6591 := cz_in (y * 2197 + i) (nI_add _ _) (by omega) (by decide)
  have j2 : vp_in (nI y * 2197 + nI i) 6591 := cz_in (y * 2197 + i) (cz_ix y i) (by omega) (by decide)
  have e3 : cz_ba B (nI (z * 2197) + nI i).toNatClampNeg = cz_bi (B (z * 2197 + i)) := cz_rdb _ (nI_add _ _) (by omega)
  have e4 : cz_ba B (nI z * 2197 + nI i).toNatClampNeg = cz_bi (B (z * 2197 + i)) := cz_rdb _ (cz_ix z i) (by omega)
  have j3 : vp_in (nI (z * 2197) + nI i) 6591 := cz_in (z * 2197 + i) (nI_add _ _) (by omega) (by decide)
  have j4 : vp_in (nI z * 2197 + nI i) 6591 := cz_in (z * 2197 + i) (cz_ix z i) (by omega) (by decide)
  cases hb : B (y * 2197 + i) with
  | false =>
    rw [hb] at e1 e2
    exact Or.inr ⟨fun P n K => br_f (cz_in1 hi) ⟨j1, br_t e1 (nm_r (nI_1 i) K)⟩, fun P n K => br_f (cz_in1 hi) ⟨j2, br_t e2 (nm_r (nI_1 i) K)⟩⟩
  | true =>
    rw [hb] at e1 e2
    have n1 : ¬ cz_ba B (nI (y * 2197) + nI i).toNatClampNeg = 0 := by rw [e1]; exact cz_10
    have n2 : ¬ cz_ba B (nI y * 2197 + nI i).toNatClampNeg = 0 := by rw [e2]; exact cz_10
    cases hc : B (z * 2197 + i) with
    | false =>
      rw [hc] at e3 e4
      exact Or.inr ⟨fun P n K => br_f (cz_in1 hi) ⟨j1, br_f n1 ⟨j3, br_t e3 (nm_r (nI_1 i) K)⟩⟩, fun P n K => br_f (cz_in1 hi) ⟨j2, br_f n2 ⟨j4, br_t e4 (nm_r (nI_1 i) K)⟩⟩⟩
    | true =>
      rw [hc] at e3 e4
      exact Or.inl ⟨1, fun P n p => br_f (cz_in1 hi) ⟨j1, br_f n1 ⟨j3, br_f (by rw [e3]; exact cz_10) p⟩⟩, fun P n p => br_f (cz_in1 hi) ⟨j2, br_f n2 ⟨j4, br_f (by rw [e4]; exact cz_10) p⟩⟩⟩
theorem i_vc_touch {k : Nat} {u : SX} {v : SY} (I : i_Rel k u v) (hk : k + 5 ≤ 2560) (v1 : Int32) (v2 : Int32) : wpX_touch (fun r => wpY_touch (fun r' => r' = r ∧ i_Rel (k + 5) u v) v v1 v2) u v1 v2 := by
  obtain ⟨B, M, b, rfl, rfl⟩ := I
  unfold wpX_touch wpY_touch
  dsimp only
  rcases cz_zone v1 with ⟨hx, hy⟩ | ⟨y, hz, rfl, hx, hy⟩
  · exact hx _ (br_t rfl (hy _ _ _ (br_f cz_10 ⟨rfl, cz_re _ B M b⟩)))
  rcases cz_zone v2 with ⟨gx, gy⟩ | ⟨z, gz, rfl, gx, gy⟩
  · exact hx _ (br_f cz_10 (gx _ (br_t rfl (hy _ _ _ (br_t rfl (gy _ _ _ (br_f cz_10 ⟨rfl, cz_re _ B M b⟩)))))))
  · obtain ⟨r, h1, h2⟩ := cz_touch B b (cz_ba M) hz gz
    exact hx _ (br_f cz_10 (gx _ (br_f cz_10 (nm_r (cz_m y) (nm_r (cz_m z) (h1 _ (hy _ _ _ (br_t rfl (gy _ _ _ (br_t rfl (h2 _ ⟨rfl, cz_re _ B M b⟩)))))))))))
-- has
theorem i_vc_has {k : Nat} {u : SX} {v : SY} (I : i_Rel k u v) (hk : k + 5 ≤ 2560) (v1 : Int32) (v2 : Int32) (v3 : Int32) (v4 : Int32) : wpX_has (fun r => wpY_has (fun r' => r' = r ∧ i_Rel (k + 5) u v) v v1 v2 v3 v4) u v1 v2 v3 v4 := by
  obtain ⟨B, M, b, rfl, rfl⟩ := I
  unfold wpX_has wpY_has wpX_isNumber
  dsimp only
  rcases cz_zone v1 with ⟨hx, hy⟩ | ⟨z, hz, rfl, hx, hy⟩
  · exact hx _ (br_t rfl (hy _ _ _ (br_f cz_10 ⟨rfl, cz_re _ B M b⟩)))
  rcases cz_num v2 with a1 | ⟨a1, a2, a3⟩ | ⟨a, ha, rfl, a1, a2, a3⟩
  · exact hx _ (br_f cz_10 (br_t a1 (br_t rfl (hy _ _ _ (br_t rfl (br_t a1 ⟨rfl, cz_re _ B M b⟩))))))
  · exact hx _ (br_f cz_10 (br_f a1 (br_t a2 (br_t rfl (hy _ _ _ (br_t rfl (br_f a1 (br_t a2 ⟨rfl, cz_re _ B M b⟩))))))))
  refine hx _ (br_f cz_10 (br_f a1 (br_f a2 (br_f cz_10 ?_))))
  rcases cz_num v3 with b1 | ⟨b1, b2, b3⟩ | ⟨c, hc, rfl, b1, b2, b3⟩
  · exact br_t b1 (br_t rfl (hy _ _ _ (br_t rfl (br_f a1 (br_f a2 (br_t b1 ⟨rfl, cz_re _ B M b⟩))))))
  · exact br_f b1 (br_t b2 (br_t rfl (hy _ _ _ (br_t rfl (br_f a1 (br_f a2 (br_f b1 (br_t b2 ⟨rfl, cz_re _ B M b⟩))))))))
  refine br_f b1 (br_f b2 (br_f cz_10 ?_))
  rcases cz_num v4 with c1 | ⟨c1, c2, c3⟩ | ⟨d, hd, rfl, c1, c2, c3⟩
  · exact br_t c1 (br_t rfl (hy _ _ _ (br_t rfl (br_f a1 (br_f a2 (br_f b1 (br_f b2 (br_t c1 ⟨rfl, cz_re _ B M b⟩))))))))
  · exact br_f c1 (br_t c2 (br_t rfl (hy _ _ _ (br_t rfl (br_f a1 (br_f a2 (br_f b1 (br_f b2 (br_f c1 (br_f c3 ⟨rfl, cz_re _ B M b⟩))))))))))
  refine br_f c1 (br_f c2 (br_f cz_10 ?_))
  have e1 : nI a * 169 = nI (a * 169) := pk_mul a 169
  have e2 : nI c * 13 = nI (c * 13) := pk_mul c 13
  have e3 : nI d * 1 = nI (d * 1) := pk_mul d 1
  have e4 : 169 * nI a = nI (169 * a) := pk_mul 169 a
  have e5 : 13 * nI c = nI (13 * c) := pk_mul 13 c
  have ex : nI z * 2197 + nI (a * 169 + c * 13 + d * 1) = nI (z * 2197 + 169 * a + 13 * c + d) := by
    rw [cz_ix]; congr 1; omega
  have ey : nI z * 2197 + 169 * nI a + 13 * nI c + nI d = nI (z * 2197 + 169 * a + 13 * c + d) := by
    rw [cz_m, e4, e5, nI_add, nI_add, nI_add]
  refine nm_r (e' := nI (a * 169 + c * 13 + d * 1)) (by rw [e1, e2, e3, nI_add, nI_add]) ?_
  have gx : cz_ba B (nI z * 2197 + nI (a * 169 + c * 13 + d * 1)).toNatClampNeg = cz_bi (B (z * 2197 + 169 * a + 13 * c + d)) := cz_rdb _ ex (by omega)
  have gy : cz_ba B (nI z * 2197 + 169 * nI a + 13 * nI c + nI d).toNatClampNeg = cz_bi (B (z * 2197 + 169 * a + 13 * c + d)) := cz_rdb _ ey (by omega)
  have jx : vp_in (nI z * 2197 + nI (a * 169 + c * 13 + d * 1)) 6591 := cz_in _ ex (by omega) (by decide)
  have jy : vp_in (nI z * 2197 + 169 * nI a + 13 * nI c + nI d) 6591 := cz_in _ ey (by omega) (by decide)
  exact ⟨jx, cz_br _ gx
    (fun f => hy _ _ _ (br_t rfl (br_f a1 (br_f a2 (br_f b1 (br_f b2 (br_f c1 (br_t c3 ⟨jy, br_t (by rw [gy]; exact cz_b0 f) ⟨rfl, cz_re _ B M b⟩⟩))))))))
    (fun f => hy _ _ _ (br_t rfl (br_f a1 (br_f a2 (br_f b1 (br_f b2 (br_f c1 (br_t c3 ⟨jy, br_f (by rw [gy]; exact cz_b1 f) ⟨rfl, cz_re _ B M b⟩⟩))))))))⟩
end
section
theorem cz_rd1 (n : Nat) : cz_rd n 1 = n / 169 := rfl
theorem cz_rd2 (n : Nat) : cz_rd n 2 = n / 13 % 13 := rfl
theorem cz_rd3 (n : Nat) : cz_rd n 3 = n % 13 := rfl
theorem cz_sum (n : Nat) : n = 169 * cz_rd n 1 + 13 * cz_rd n 2 + cz_rd n 3 := by
  rw [cz_rd1, cz_rd2, cz_rd3]
  have e : n / 169 = n / 13 / 13 := (Nat.div_div_eq_div_mul n 13 13).symm
  omega
theorem cz_dig {a b c : Nat} (hb : b < 13) (hc : c < 13) : cz_rd (169 * a + 13 * b + c) 1 = a ∧ cz_rd (169 * a + 13 * b + c) 2 = b ∧ cz_rd (169 * a + 13 * b + c) 3 = c := by
  rw [cz_rd1, cz_rd2, cz_rd3]
  refine ⟨by omega, by omega, by omega⟩
-- time passes
def cz_Pg (B : Nat → Bool) (o n : Nat) : Nat → Bool := fun d => decide (d ≤ cz_rd n 1 ∧ d ≤ cz_rd n 2 ∧ d ≤ cz_rd n 3) && B (o + (n - 183 * d))
def cz_P (B : Nat → Bool) (o : Nat) : Nat → Bool := fun n => cz_an (cz_Pg B o n) 13
theorem cz_Pg_t {B : Nat → Bool} {o n d : Nat} (h : cz_Pg B o n d = true) : (d ≤ cz_rd n 1 ∧ d ≤ cz_rd n 2 ∧ d ≤ cz_rd n 3) ∧ B (o + (n - 183 * d)) = true := by
  have h' := (Bool.and_eq_true _ _).mp h
  exact ⟨of_decide_eq_true h'.1, h'.2⟩
theorem cz_Pg_i {B : Nat → Bool} {o n d : Nat} (h : d ≤ cz_rd n 1 ∧ d ≤ cz_rd n 2 ∧ d ≤ cz_rd n 3) : cz_Pg B o n d = B (o + (n - 183 * d)) := by
  show (decide _ && _) = _
  rw [decide_eq_true h, Bool.true_and]
theorem cz_Pg_f {B : Nat → Bool} {o n d : Nat} (h : ¬ (d ≤ cz_rd n 1 ∧ d ≤ cz_rd n 2 ∧ d ≤ cz_rd n 3)) : cz_Pg B o n d = false := by
  show (decide _ && _) = _
  rw [decide_eq_false h, Bool.false_and]
theorem cz_P0 {B : Nat → Bool} {o n : Nat} (h : cz_rd n 1 = 0 ∨ cz_rd n 2 = 0 ∨ cz_rd n 3 = 0) : B (o + n) = cz_P B o n := by
  have e0 : cz_Pg B o n 0 = B (o + n) := cz_Pg_i (by omega)
  cases hb : B (o + n) with
  | true => exact (cz_an_t (t := 0) (by decide) (by rw [e0, hb])).symm
  | false =>
    refine (cz_an_f (fun t ht => ?_)).symm
    by_cases h0 : t = 0
    · rw [h0, e0, hb]
    · exact cz_Pg_f (by omega)
theorem cz_P1 {B : Nat → Bool} {o n : Nat} (hn : n < 2197) (h : cz_rd n 1 ≠ 0 ∧ cz_rd n 2 ≠ 0 ∧ cz_rd n 3 ≠ 0) : 183 ≤ n ∧ cz_P B o n = (B (o + n) || cz_P B o (n - 183)) := by
  have s := cz_sum n
  have l1 := cz_rd_le hn 1
  have l2 := cz_rd_le hn 2
  have l3 := cz_rd_le hn 3
  have e0 : cz_Pg B o n 0 = B (o + n) := cz_Pg_i (by omega)
  have hs : n - 183 = 169 * (cz_rd n 1 - 1) + 13 * (cz_rd n 2 - 1) + (cz_rd n 3 - 1) := by omega
  have dg := cz_dig (a := cz_rd n 1 - 1) (b := cz_rd n 2 - 1) (c := cz_rd n 3 - 1) (by omega) (by omega)
  rw [← hs] at dg
  obtain ⟨d1, d2, d3⟩ := dg
  refine ⟨by omega, ?_⟩
  cases hb : B (o + n) with
  | true => rw [Bool.true_or]; exact cz_an_t (t := 0) (by decide) (by rw [e0, hb])
  | false =>
    rw [Bool.false_or]
    cases hp : cz_P B o (n - 183) with
    | true =>
      obtain ⟨t, ht, e⟩ := cz_an_x hp
      obtain ⟨c, e⟩ := cz_Pg_t e
      have hc : t + 1 ≤ cz_rd n 1 ∧ t + 1 ≤ cz_rd n 2 ∧ t + 1 ≤ cz_rd n 3 := by omega
      refine cz_an_t (t := t + 1) (by omega) ?_
      rw [cz_Pg_i hc, ← e]
      congr 1
      omega
    | false =>
      refine cz_an_f (fun t ht => ?_)
      by_cases h0 : t = 0
      · rw [h0, e0, hb]
      · by_cases hc : t ≤ cz_rd n 1 ∧ t ≤ cz_rd n 2 ∧ t ≤ cz_rd n 3
        · cases hg : cz_Pg B o n t with
          | false => rfl
          | true =>
            exfalso
            rw [cz_Pg_i hc] at hg
            have hx : cz_P B o (n - 183) = true := by
              refine cz_an_t (t := t - 1) (by omega) ?_
              rw [cz_Pg_i (by omega), ← hg]
              congr 1
              omega
            rw [hp] at hx
            exact absurd hx (by decide)
        · exact cz_Pg_f hc
theorem cx_ncr {P : Int32 → Prop} {n m : Nat} (hn : n < 2197) (hm : m ≤ 12) (h1 : cz_rd n 1 ≠ m ∧ cz_rd n 2 ≠ m ∧ cz_rd n 3 ≠ m → P 1) (h0 : cz_rd n 1 = m ∨ cz_rd n 2 = m ∨ cz_rd n 3 = m → P 0) : wpX_noClockReads P (nI n) (nI m) := by
  have l1 := cz_rd_le hn 1
  have l2 := cz_rd_le hn 2
  have l3 := cz_rd_le hn 3
  unfold wpX_noClockReads
  refine cx_read (k := 1) hn (by decide) ?_
  by_cases a1 : cz_rd n 1 = m
  · exact br_t (by rw [a1]) (h0 (Or.inl a1))
  refine br_f (fun e => a1 ((nI_eq (by omega) (by omega)).mp e)) ?_
  refine cx_read (k := 2) hn (by decide) ?_
  by_cases a2 : cz_rd n 2 = m
  · exact br_t (by rw [a2]) (h0 (Or.inr (Or.inl a2)))
  refine br_f (fun e => a2 ((nI_eq (by omega) (by omega)).mp e)) ?_
  refine cx_read (k := 3) hn (by decide) ?_
  by_cases a3 : cz_rd n 3 = m
  · exact br_t (by rw [a3]) (h0 (Or.inr (Or.inr a3)))
  exact br_f (fun e => a3 ((nI_eq (by omega) (by omega)).mp e)) (h1 ⟨a1, a2, a3⟩)
theorem cz_zs_e {o i : Nat} {f B : Nat → Bool} (h : ∀ n, n < i → B (o + n) = f n) : cz_zs o i f B = B := by
  funext m
  unfold cz_zs
  by_cases hm : o ≤ m ∧ m < o + i
  · rw [if_pos hm, ← h (m - o) (by omega)]
    congr 1
    omega
  · rw [if_neg hm]
theorem cx_pass {P : Int32 → SX → Prop} {B : Nat → Bool} {b : Nat → Int32} {z : Nat} (hz : z < 3) (h : P (cz_bi (cz_an (cz_P B (z * 2197)) 2197)) (cz_ba (cz_zs (z * 2197) 2197 (cz_P B (z * 2197)) B), b)) : ∃ n, wX_pass_19 P (nI z) (nI (z * 2197)) n 183 (cz_ba B) b := by
  have H : ∃ n, wX_pass_19 P (nI z) (nI (z * 2197)) n (nI 183) (cz_ba (cz_zs (z * 2197) 183 (cz_P B (z * 2197)) B)) b :=
    cz_lo (W := fun n i => wX_pass_19 P (nI z) (nI (z * 2197)) n (nI i) (cz_ba (cz_zs (z * 2197) i (cz_P B (z * 2197)) B)) b) (fun i => 183 ≤ i) 2197 183 (by decide) (Nat.le_refl _)
      (fun _ n => br_t cz_ex1 (cx_anyz hz h))
      (fun n i hi h183 K => by
        have ei : nI (z * 2197) + nI i - 183 = nI (z * 2197 + (i - 183)) := by
          rw [nI_add, show (183 : Int32) = nI 183 from rfl, pk_sub (by omega)]
          congr 1
          omega
        have er : cz_ba (cz_zs (z * 2197) i (cz_P B (z * 2197)) B) (nI (z * 2197) + nI i - 183).toNatClampNeg = cz_bi (cz_P B (z * 2197) (i - 183)) := by
          rw [cz_rdb _ ei (by omega), cz_zs_in _ _ (by omega)]
        have K := K (by omega)
        have same : B (z * 2197 + i) = cz_P B (z * 2197) i → wX_pass_19 P (nI z) (nI (z * 2197)) n (nI (i + 1)) (cz_ba (cz_zs (z * 2197) i (cz_P B (z * 2197)) B)) b := fun e => by
          rw [cz_zs_k e] at K
          exact K
        refine br_f (cz_in1 hi) ⟨cz_in _ ei (by omega) (by decide), cz_br _ er (fun f => ?_) (fun f => ?_)⟩
        · refine nm_r (nI_1 i) (same ?_)
          by_cases hc : cz_rd i 1 ≠ 0 ∧ cz_rd i 2 ≠ 0 ∧ cz_rd i 3 ≠ 0
          · rw [(cz_P1 hi hc).2, f, Bool.or_false]
          · exact cz_P0 (by omega)
        · refine cx_ncr (m := 0) hi (by decide) (fun hc => ?_) (fun hc => ?_)
          · exact br_f cz_10 (cz_z1 (z * 2197) i (nI_add _ _) (by omega) (by decide) (by rw [(cz_P1 hi hc).2, f, Bool.or_true]) (nm_r (nI_1 i) K))
          · exact br_t rfl (nm_r (nI_1 i) (same (cz_P0 hc))))
  rw [cz_zs_e] at H
  · exact H
  · intro n hn
    refine cz_P0 ?_
    rw [cz_rd1, cz_rd2, cz_rd3]
    omega
-- the reference's shifts
theorem cy_tree {A C : Prop} {x y w : Int32} (g : (¬ x < 0 ∧ ¬ 12 < x) ∧ (¬ y < 0 ∧ ¬ 12 < y) ∧ (¬ w < 0 ∧ ¬ 12 < w) → C) (f : ¬ ((¬ x < 0 ∧ ¬ 12 < x) ∧ (¬ y < 0 ∧ ¬ 12 < y) ∧ (¬ w < 0 ∧ ¬ 12 < w)) → A) :
    (x < 0 → A) ∧ (¬ x < 0 → ((12 < x → A) ∧ (¬ 12 < x → ((y < 0 → A) ∧ (¬ y < 0 → ((12 < y → A) ∧ (¬ 12 < y → ((w < 0 → A) ∧ (¬ w < 0 → ((12 < w → A) ∧ (¬ 12 < w → C))))))))))) :=
  ⟨fun h => f (fun q => q.1.1 h), fun h1 => ⟨fun h => f (fun q => q.1.2 h), fun h2 => ⟨fun h => f (fun q => q.2.1.1 h), fun h3 => ⟨fun h => f (fun q => q.2.1.2 h), fun h4 =>
    ⟨fun h => f (fun q => q.2.2.1 h), fun h5 => ⟨fun h => f (fun q => q.2.2.2 h), fun h6 => g ⟨⟨h1, h2⟩, ⟨h3, h4⟩, ⟨h5, h6⟩⟩⟩⟩⟩⟩⟩⟩
theorem cz_okD {a d : Nat} (ha : a ≤ 12) (hd : d ≤ 12) : (¬ nI a + nI d * (-1) < 0 ∧ ¬ 12 < nI a + nI d * (-1)) ↔ d ≤ a := by
  have e : nI a + nI d * (-1) = nI a - nI d := by grind
  rw [e, Int32.lt_iff_toInt_lt, Int32.lt_iff_toInt_lt, pk_sub_toInt (by omega) (by omega), show (0 : Int32).toInt = 0 from rfl, show (12 : Int32).toInt = 12 from rfl]
  omega
theorem cz_okU {a d : Nat} (ha : a ≤ 12) (hd : d ≤ 12) : (¬ nI a + nI d * 1 < 0 ∧ ¬ 12 < nI a + nI d * 1) ↔ a + d ≤ 12 := by
  have e : nI a + nI d * 1 = nI (a + d) := by rw [Int32.mul_one, nI_add]
  rw [e, Int32.lt_iff_toInt_lt, Int32.lt_iff_toInt_lt, nI_toInt (by omega), show (0 : Int32).toInt = 0 from rfl, show (12 : Int32).toInt = 12 from rfl]
  omega
theorem cz_ixD {z p d : Nat} (h : 183 * d ≤ p) : nI z * 2197 + nI p + 183 * (nI d * (-1)) = nI (z * 2197 + (p - 183 * d)) := by
  obtain ⟨q, rfl⟩ : ∃ q, p = q + 183 * d := ⟨p - 183 * d, by omega⟩
  rw [Nat.add_sub_cancel, ← cz_ix, ← nI_add, ← pk_mul, show nI 183 = 183 from rfl]
  grind
theorem cz_ixU {z p d : Nat} : nI z * 2197 + nI p + 183 * (nI d * 1) = nI (z * 2197 + (p + 183 * d)) := by
  rw [← cz_ix, ← nI_add, ← pk_mul, show nI 183 = 183 from rfl]
  grind
theorem cy_sh1 {P : Int32 → Prop} {B : Nat → Bool} {b : Nat → Int32} {z p : Nat} (hz : z < 3) (hp : p < 2197) (h : P (cz_bi (cz_P B (z * 2197) p))) : wpY_shifted P (cz_ba B, b) (nI z) (nI p) (-1) := by
  have l1 := cz_rd_le hp 1
  have l2 := cz_rd_le hp 2
  have l3 := cz_rd_le hp 3
  have s := cz_sum p
  unfold wpY_shifted
  refine cy_val (k := 1) hp (by decide) (cy_val (k := 2) hp (by decide) (cy_val (k := 3) hp (by decide) ?_))
  exact cz_lo (W := fun n d => wY_shifted_27 P (nI z) (nI p) (-1) (nI (cz_rd p 1)) (nI (cz_rd p 2)) (nI (cz_rd p 3)) (cz_ba B) b n (nI d)) (fun d => ∀ t, t < d → cz_Pg B (z * 2197) p t = false) 13 0 (by decide) (fun t ht => by omega)
    (fun H n => br_t (nI_lt (a := 12) (by decide) (by decide)) (by unfold cz_P at h; rw [cz_an_f H] at h; exact h))
    (fun n d hd H K => br_f (nI_nlt (a := 12) (by omega) (by decide)) (nm_e (cy_tree
      (fun q => by
        rw [cz_okD l1 (by omega), cz_okD l2 (by omega), cz_okD l3 (by omega)] at q
        refine br_f cz_10 ⟨cz_in _ (cz_ixD (by omega)) (by omega) (by decide), cz_br _ (cz_rdb _ (cz_ixD (by omega)) (by omega)) (fun f => ?_) (fun f => ?_)⟩
        · exact nm_r (nI_1 d) (K (lt_s H (by rw [cz_Pg_i q]; exact f)))
        · unfold cz_P at h
          rw [cz_an_t (t := d) hd (by rw [cz_Pg_i q]; exact f)] at h
          exact h)
      (fun q => by
        rw [cz_okD l1 (by omega), cz_okD l2 (by omega), cz_okD l3 (by omega)] at q
        exact br_t rfl (nm_r (nI_1 d) (K (lt_s H (cz_Pg_f q))))))))
theorem cy_pass {P : Int32 → SY → Prop} {B M : Nat → Bool} {z : Nat} (hz : z < 3) (h : ∀ M' : Nat → Bool, P (cz_bi (cz_an (cz_P B (z * 2197)) 2197)) (cz_ba (cz_zs (z * 2197) 2197 (cz_P B (z * 2197)) B), cz_ba M')) : ∃ n, wY_pass_12 P (nI z) n 0 (cz_ba B) (cz_ba M) := by
  have H : ∃ n, wY_pass_12 P (nI z) n (nI 0) (cz_ba B) (cz_ba (cz_zs 0 0 (cz_P B (z * 2197)) M)) :=
    cz_lt (W := fun n i => wY_pass_12 P (nI z) n (nI i) (cz_ba B) (cz_ba (cz_zs 0 i (cz_P B (z * 2197)) M))) 2197
      (fun n => br_t cz_ex1 (cy_storez hz h))
      (fun n i hi K => br_f (cz_in1 hi) (cy_sh1 hz hi (cz_wb hi (cz_nb _) (nm_r (nI_1 i) K))))
  rw [cz_zs_0] at H
  exact H
theorem i_vc_pass {k : Nat} {u : SX} {v : SY} (I : i_Rel k u v) (hk : k + 5 ≤ 2560) (v1 : Int32) : wpX_pass (fun r u' => wpY_pass (fun r' v' => r' = r ∧ i_Rel (k + 5) u' v') v v1) u v1 := by
  obtain ⟨B, M, b, rfl, rfl⟩ := I
  unfold wpX_pass wpY_pass
  dsimp only
  rcases cz_zone v1 with ⟨hx, hy⟩ | ⟨z, hz, rfl, hx, hy⟩
  · exact hx _ (br_t rfl (hy _ _ _ (br_f cz_10 ⟨rfl, cz_re _ B M b⟩)))
  · exact hx _ (br_f cz_10 (nm_r (cz_m z) (cx_pass hz (hy _ _ _ (br_t rfl (cy_pass hz (fun M' => ⟨rfl, cz_re _ _ M' b⟩)))))))
end
section
-- time goes back
def cz_Qg (B : Nat → Bool) (o n : Nat) : Nat → Bool := fun d => decide (cz_rd n 1 + d ≤ 12 ∧ cz_rd n 2 + d ≤ 12 ∧ cz_rd n 3 + d ≤ 12) && B (o + (n + 183 * d))
def cz_Q (B : Nat → Bool) (o : Nat) : Nat → Bool := fun n => cz_an (cz_Qg B o n) 13
theorem cz_Qg_t {B : Nat → Bool} {o n d : Nat} (h : cz_Qg B o n d = true) : (cz_rd n 1 + d ≤ 12 ∧ cz_rd n 2 + d ≤ 12 ∧ cz_rd n 3 + d ≤ 12) ∧ B (o + (n + 183 * d)) = true := by
  have h' := (Bool.and_eq_true _ _).mp h
  exact ⟨of_decide_eq_true h'.1, h'.2⟩
theorem cz_Qg_i {B : Nat → Bool} {o n d : Nat} (h : cz_rd n 1 + d ≤ 12 ∧ cz_rd n 2 + d ≤ 12 ∧ cz_rd n 3 + d ≤ 12) : cz_Qg B o n d = B (o + (n + 183 * d)) := by
  show (decide _ && _) = _
  rw [decide_eq_true h, Bool.true_and]
theorem cz_Qg_f {B : Nat → Bool} {o n d : Nat} (h : ¬ (cz_rd n 1 + d ≤ 12 ∧ cz_rd n 2 + d ≤ 12 ∧ cz_rd n 3 + d ≤ 12)) : cz_Qg B o n d = false := by
  show (decide _ && _) = _
  rw [decide_eq_false h, Bool.false_and]
theorem cz_Q0 {B : Nat → Bool} {o n : Nat} (hn : n < 2197) (h : cz_rd n 1 = 12 ∨ cz_rd n 2 = 12 ∨ cz_rd n 3 = 12) : B (o + n) = cz_Q B o n := by
  have l1 := cz_rd_le hn 1
  have l2 := cz_rd_le hn 2
  have l3 := cz_rd_le hn 3
  have e0 : cz_Qg B o n 0 = B (o + n) := cz_Qg_i (by omega)
  cases hb : B (o + n) with
  | true => exact (cz_an_t (t := 0) (by decide) (by rw [e0, hb])).symm
  | false =>
    refine (cz_an_f (fun t ht => ?_)).symm
    by_cases h0 : t = 0
    · rw [h0, e0, hb]
    · exact cz_Qg_f (by omega)
theorem cz_Q1 {B : Nat → Bool} {o n : Nat} (hn : n < 2197) (h : cz_rd n 1 ≠ 12 ∧ cz_rd n 2 ≠ 12 ∧ cz_rd n 3 ≠ 12) : n + 183 < 2197 ∧ cz_Q B o n = (B (o + n) || cz_Q B o (n + 183)) := by
  have s := cz_sum n
  have l1 := cz_rd_le hn 1
  have l2 := cz_rd_le hn 2
  have l3 := cz_rd_le hn 3
  have e0 : cz_Qg B o n 0 = B (o + n) := cz_Qg_i (by omega)
  have hs : n + 183 = 169 * (cz_rd n 1 + 1) + 13 * (cz_rd n 2 + 1) + (cz_rd n 3 + 1) := by omega
  have dg := cz_dig (a := cz_rd n 1 + 1) (b := cz_rd n 2 + 1) (c := cz_rd n 3 + 1) (by omega) (by omega)
  rw [← hs] at dg
  obtain ⟨d1, d2, d3⟩ := dg
  refine ⟨by omega, ?_⟩
  cases hb : B (o + n) with
  | true => rw [Bool.true_or]; exact cz_an_t (t := 0) (by decide) (by rw [e0, hb])
  | false =>
    rw [Bool.false_or]
    cases hp : cz_Q B o (n + 183) with
    | true =>
      obtain ⟨t, ht, e⟩ := cz_an_x hp
      obtain ⟨c, e⟩ := cz_Qg_t e
      have hc : cz_rd n 1 + (t + 1) ≤ 12 ∧ cz_rd n 2 + (t + 1) ≤ 12 ∧ cz_rd n 3 + (t + 1) ≤ 12 := by omega
      refine cz_an_t (t := t + 1) (by omega) ?_
      rw [cz_Qg_i hc, ← e]
      congr 1
      omega
    | false =>
      refine cz_an_f (fun t ht => ?_)
      by_cases h0 : t = 0
      · rw [h0, e0, hb]
      · by_cases hc : cz_rd n 1 + t ≤ 12 ∧ cz_rd n 2 + t ≤ 12 ∧ cz_rd n 3 + t ≤ 12
        · cases hg : cz_Qg B o n t with
          | false => rfl
          | true =>
            exfalso
            rw [cz_Qg_i hc] at hg
            have hx : cz_Q B o (n + 183) = true := by
              refine cz_an_t (t := t - 1) (by omega) ?_
              rw [cz_Qg_i (by omega), ← hg]
              congr 1
              omega
            rw [hp] at hx
            exact absurd hx (by decide)
        · exact cz_Qg_f hc
-- the picture from above: places from m on
def cz_zd (o m : Nat) (f : Nat → Bool) (B : Nat → Bool) : Nat → Bool := fun j => if o + m ≤ j ∧ j < o + 2197 then f (j - o) else B j
theorem cz_zd_0 (o : Nat) (f B : Nat → Bool) : cz_zd o 0 f B = cz_zs o 2197 f B := by
  funext j
  unfold cz_zd cz_zs
  rw [Nat.add_zero]
theorem cz_zd_s {o m : Nat} (hm : m < 2197) (f B : Nat → Bool) (j : Nat) : cz_zd o m f B j = if j = o + m then f m else cz_zd o (m + 1) f B j := by
  unfold cz_zd
  by_cases h : j = o + m
  · rw [if_pos h, if_pos (by omega), h, Nat.add_sub_cancel_left]
  · rw [if_neg h]
    by_cases h2 : o + (m + 1) ≤ j ∧ j < o + 2197
    · rw [if_pos h2, if_pos (by omega)]
    · rw [if_neg h2, if_neg (by omega)]
theorem cz_zd_in {o m n : Nat} (f B : Nat → Bool) (h : m ≤ n) (hn : n < 2197) : cz_zd o m f B (o + n) = f n := by
  unfold cz_zd
  rw [if_pos (by omega), Nat.add_sub_cancel_left]
theorem cz_zd_k {o m : Nat} {f B : Nat → Bool} (hm : m < 2197) (h : B (o + m) = f m) : cz_zd o m f B = cz_zd o (m + 1) f B := by
  funext j
  rw [cz_zd_s hm]
  by_cases hj : j = o + m
  · rw [if_pos hj, hj, ← h]
    exact (if_neg (by omega)).symm
  · rw [if_neg hj]
theorem cz_zd_e {o m : Nat} {f B : Nat → Bool} (h : ∀ n, m ≤ n → n < 2197 → B (o + n) = f n) : cz_zd o m f B = B := by
  funext j
  unfold cz_zd
  by_cases hm : o + m ≤ j ∧ j < o + 2197
  · rw [if_pos hm, ← h (j - o) (by omega) (by omega)]
    congr 1
    omega
  · rw [if_neg hm]
theorem cz_dn {W : Nat → Nat → Prop} (e : Nat) (hx : ∀ n, W (n + 1) 0) (hs : ∀ n m, m < e → W n m → W (n + 1) (m + 1)) : ∃ n, W n e := by
  have H : ∀ m, m ≤ e → W (m + 1) m := by
    intro m
    induction m with
    | zero => exact fun _ => hx 0
    | succ m ih => exact fun h => hs (m + 1) m (by omega) (ih (by omega))
  exact ⟨_, H e (Nat.le_refl _)⟩
theorem cx_back {P : Int32 → SX → Prop} {B : Nat → Bool} {b : Nat → Int32} {z : Nat} (hz : z < 3) (h : P (cz_bi (cz_an (cz_Q B (z * 2197)) 2197)) (cz_ba (cz_zs (z * 2197) 2197 (cz_Q B (z * 2197)) B), b)) : ∃ n, wX_back_19 P (nI z) (nI (z * 2197)) n 2013 (cz_ba B) b := by
  have H : ∃ n, wX_back_19 P (nI z) (nI (z * 2197)) n (nI 2014 + (-1)) (cz_ba (cz_zd (z * 2197) 2014 (cz_Q B (z * 2197)) B)) b :=
    cz_dn (W := fun n m => wX_back_19 P (nI z) (nI (z * 2197)) n (nI m + (-1)) (cz_ba (cz_zd (z * 2197) m (cz_Q B (z * 2197)) B)) b) 2014
      (fun n => br_t (by decide) (by rw [cz_zd_0]; exact cx_anyz hz h))
      (fun n m hm K => by
        rw [pk_m1]
        have ei : nI (z * 2197) + nI m + 183 = nI (z * 2197 + (m + 183)) := by
          rw [show (183 : Int32) = nI 183 from rfl, nI_add, nI_add, Nat.add_assoc]
        have er : cz_ba (cz_zd (z * 2197) (m + 1) (cz_Q B (z * 2197)) B) (nI (z * 2197) + nI m + 183).toNatClampNeg = cz_bi (cz_Q B (z * 2197) (m + 183)) := by
          rw [cz_rdb _ ei (by omega), cz_zd_in _ _ (by omega) (by omega)]
        have same : B (z * 2197 + m) = cz_Q B (z * 2197) m → wX_back_19 P (nI z) (nI (z * 2197)) n (nI m + (-1)) (cz_ba (cz_zd (z * 2197) (m + 1) (cz_Q B (z * 2197)) B)) b := fun e => by
          try dsimp only at K
          rw [cz_zd_k (by omega) e] at K
          exact K
        refine br_f (nI_pos (by omega)) ⟨cz_in _ ei (by omega) (by decide), cz_br _ er (fun f => ?_) (fun f => ?_)⟩
        · refine nm_e (same ?_)
          by_cases hc : cz_rd m 1 ≠ 12 ∧ cz_rd m 2 ≠ 12 ∧ cz_rd m 3 ≠ 12
          · rw [(cz_Q1 (by omega) hc).2, f, Bool.or_false]
          · exact cz_Q0 (by omega) (by omega)
        · refine cx_ncr (m := 12) (by omega) (by decide) (fun hc => ?_) (fun hc => ?_)
          · exact br_f cz_10 (cz_st (z * 2197 + m) (cz_Q B (z * 2197) m) (nI_add _ _) (by omega) (by decide) (by rw [(cz_Q1 (by omega) hc).2, f, Bool.or_true]; rfl) (cz_zd_s (by omega) _ _) (nm_e K))
          · exact br_t rfl (nm_e (same (cz_Q0 (by omega) hc))))
  rw [cz_zd_e, pk_m1] at H
  · exact H
  · intro n hn h2
    refine cz_Q0 h2 ?_
    have s := cz_sum n
    have l1 := cz_rd_le h2 1
    have l2 := cz_rd_le h2 2
    have l3 := cz_rd_le h2 3
    omega
theorem cy_sh2 {P : Int32 → Prop} {B : Nat → Bool} {b : Nat → Int32} {z p : Nat} (hz : z < 3) (hp : p < 2197) (h : P (cz_bi (cz_Q B (z * 2197) p))) : wpY_shifted P (cz_ba B, b) (nI z) (nI p) 1 := by
  have l1 := cz_rd_le hp 1
  have l2 := cz_rd_le hp 2
  have l3 := cz_rd_le hp 3
  have s := cz_sum p
  unfold wpY_shifted
  refine cy_val (k := 1) hp (by decide) (cy_val (k := 2) hp (by decide) (cy_val (k := 3) hp (by decide) ?_))
  exact cz_lo (W := fun n d => wY_shifted_27 P (nI z) (nI p) 1 (nI (cz_rd p 1)) (nI (cz_rd p 2)) (nI (cz_rd p 3)) (cz_ba B) b n (nI d)) (fun d => ∀ t, t < d → cz_Qg B (z * 2197) p t = false) 13 0 (by decide) (fun t ht => by omega)
    (fun H n => br_t (nI_lt (a := 12) (by decide) (by decide)) (by unfold cz_Q at h; rw [cz_an_f H] at h; exact h))
    (fun n d hd H K => br_f (nI_nlt (a := 12) (by omega) (by decide)) (nm_e (cy_tree
      (fun q => by
        rw [cz_okU l1 (by omega), cz_okU l2 (by omega), cz_okU l3 (by omega)] at q
        refine br_f cz_10 ⟨cz_in _ cz_ixU (by omega) (by decide), cz_br _ (cz_rdb _ cz_ixU (by omega)) (fun f => ?_) (fun f => ?_)⟩
        · exact nm_r (nI_1 d) (K (lt_s H (by rw [cz_Qg_i q]; exact f)))
        · unfold cz_Q at h
          rw [cz_an_t (t := d) hd (by rw [cz_Qg_i q]; exact f)] at h
          exact h)
      (fun q => by
        rw [cz_okU l1 (by omega), cz_okU l2 (by omega), cz_okU l3 (by omega)] at q
        exact br_t rfl (nm_r (nI_1 d) (K (lt_s H (cz_Qg_f q))))))))
theorem cy_back {P : Int32 → SY → Prop} {B M : Nat → Bool} {z : Nat} (hz : z < 3) (h : ∀ M' : Nat → Bool, P (cz_bi (cz_an (cz_Q B (z * 2197)) 2197)) (cz_ba (cz_zs (z * 2197) 2197 (cz_Q B (z * 2197)) B), cz_ba M')) : ∃ n, wY_back_12 P (nI z) n 0 (cz_ba B) (cz_ba M) := by
  have H : ∃ n, wY_back_12 P (nI z) n (nI 0) (cz_ba B) (cz_ba (cz_zs 0 0 (cz_Q B (z * 2197)) M)) :=
    cz_lt (W := fun n i => wY_back_12 P (nI z) n (nI i) (cz_ba B) (cz_ba (cz_zs 0 i (cz_Q B (z * 2197)) M))) 2197
      (fun n => br_t cz_ex1 (cy_storez hz h))
      (fun n i hi K => br_f (cz_in1 hi) (cy_sh2 hz hi (cz_wb hi (cz_nb _) (nm_r (nI_1 i) K))))
  rw [cz_zs_0] at H
  exact H
theorem i_vc_back {k : Nat} {u : SX} {v : SY} (I : i_Rel k u v) (hk : k + 5 ≤ 2560) (v1 : Int32) : wpX_back (fun r u' => wpY_back (fun r' v' => r' = r ∧ i_Rel (k + 5) u' v') v v1) u v1 := by
  obtain ⟨B, M, b, rfl, rfl⟩ := I
  unfold wpX_back wpY_back
  dsimp only
  rcases cz_zone v1 with ⟨hx, hy⟩ | ⟨z, hz, rfl, hx, hy⟩
  · exact hx _ (br_t rfl (hy _ _ _ (br_f cz_10 ⟨rfl, cz_re _ B M b⟩)))
  · exact hx _ (br_f cz_10 (nm_r (cz_m z) (cx_back hz (hy _ _ _ (br_t rfl (cy_back hz (fun M' => ⟨rfl, cz_re _ _ M' b⟩)))))))
end
section
-- lines of readings along a clock
def cz_sp (k : Nat) : Nat := if k = 1 then 169 else if k = 2 then 13 else 1
def cz_fs (n k : Nat) : Nat := n - cz_rd n k * cz_sp k
theorem cz_f1 {n k : Nat} (hn : n < 2197) (h1 : 1 ≤ k) (h3 : k ≤ 3) : n = cz_fs n k + cz_rd n k * cz_sp k ∧ cz_rd (cz_fs n k) k = 0 := by
  have hc : k = 1 ∨ k = 2 ∨ k = 3 := by omega
  rcases hc with rfl | rfl | rfl
  · have e : cz_fs n 1 = n - n / 169 * 169 := rfl
    rw [e, cz_rd1, cz_rd1, show cz_sp 1 = 169 from rfl]
    omega
  · have e : cz_fs n 2 = n - n / 13 % 13 * 13 := rfl
    rw [e, cz_rd2, cz_rd2, show cz_sp 2 = 13 from rfl]
    omega
  · have e : cz_fs n 3 = n - n % 13 * 1 := rfl
    rw [e, cz_rd3, cz_rd3, show cz_sp 3 = 1 from rfl]
    omega
theorem cz_f2 {n k t : Nat} (hn : n < 2197) (h1 : 1 ≤ k) (h3 : k ≤ 3) (h0 : cz_rd n k = 0) (ht : t < 13) : n + t * cz_sp k < 2197 ∧ cz_fs (n + t * cz_sp k) k = n := by
  have hc : k = 1 ∨ k = 2 ∨ k = 3 := by omega
  rcases hc with rfl | rfl | rfl
  · rw [show cz_sp 1 = 169 from rfl]
    have e : cz_fs (n + t * 169) 1 = n + t * 169 - (n + t * 169) / 169 * 169 := rfl
    rw [cz_rd1] at h0
    rw [e]
    omega
  · rw [show cz_sp 2 = 13 from rfl]
    have e : cz_fs (n + t * 13) 2 = n + t * 13 - (n + t * 13) / 13 % 13 * 13 := rfl
    rw [cz_rd2] at h0
    rw [e]
    omega
  · rw [show cz_sp 3 = 1 from rfl]
    have e : cz_fs (n + t * 1) 3 = n + t * 1 - (n + t * 1) % 13 * 1 := rfl
    rw [cz_rd3] at h0
    rw [e]
    omega
def cz_Lg (B : Nat → Bool) (o k q : Nat) : Nat → Bool := fun t => B (o + (q + t * cz_sp k))
def cz_L (B : Nat → Bool) (o k : Nat) : Nat → Bool := fun n => cz_an (cz_Lg B o k (cz_fs n k)) 13
-- m places of the line written
def cz_lw (S : Nat → Bool) (o q s : Nat) (A : Bool) : Nat → Nat → Bool
  | 0 => S
  | m + 1 => fun j => if j = o + (q + m * s) then A else cz_lw S o q s A m j
theorem cz_lw_t {S : Nat → Bool} {o q s : Nat} {A : Bool} {m t : Nat} (h : t < m) : cz_lw S o q s A m (o + (q + t * s)) = A := by
  induction m with
  | zero => omega
  | succ m ih =>
    show (if _ = _ then A else cz_lw S o q s A m _) = A
    by_cases e : o + (q + t * s) = o + (q + m * s)
    · rw [if_pos e]
    · rw [if_neg e]
      refine ih ?_
      rcases Nat.lt_or_ge t m with h' | h'
      · exact h'
      · have : t = m := by omega
        subst this
        exact absurd rfl e
theorem cz_lw_f {S : Nat → Bool} {o q s : Nat} {A : Bool} {m j : Nat} (h : ∀ t, t < m → j ≠ o + (q + t * s)) : cz_lw S o q s A m j = S j := by
  induction m with
  | zero => rfl
  | succ m ih =>
    show (if j = o + (q + m * s) then A else cz_lw S o q s A m j) = S j
    rw [if_neg (h m (by omega))]
    exact ih (fun t ht => h t (by omega))
theorem cz_sp_le (k : Nat) : cz_sp k ≤ 169 := by
  unfold cz_sp
  split
  · omega
  · split <;> omega
theorem cx_step {P : Int32 → Prop} {k : Nat} (h1 : 1 ≤ k) (h3 : k ≤ 3) (h : P (nI (cz_sp k))) : wpX_stepOf P (nI k) := by
  have hc : k = 1 ∨ k = 2 ∨ k = 3 := by omega
  rcases hc with rfl | rfl | rfl
  · exact br_t rfl h
  · exact br_f (by decide) (br_t rfl h)
  · exact br_f (by decide) (br_f (by decide) h)
theorem cz_il (o q t s : Nat) : nI (o + q) + nI t * nI s = nI (o + (q + t * s)) := by
  rw [pk_mul, nI_add, Nat.add_assoc]
theorem cz_in13 {t : Nat} (h : t < 13) : ¬ (13 : Int32) ≤ nI t := nI_ge (b := 13) h (by decide)
theorem cz_ex13 : (13 : Int32) ≤ nI 13 := nI_le (a := 13) (Nat.le_refl _) (by decide)
theorem cx_line {P : SX → Prop} {S : Nat → Bool} {b : Nat → Int32} {z q k : Nat} (hz : z < 3) (hq : q < 2197) (h1 : 1 ≤ k) (h3 : k ≤ 3) (h0 : cz_rd q k = 0)
    (h : P (cz_ba (cz_lw S (z * 2197) q (cz_sp k) (cz_an (cz_Lg S (z * 2197) k q) 13) 13), b)) : wpX_freeLine P (cz_ba S, b) (nI z) (nI q) (nI k) := by
  unfold wpX_freeLine
  refine nm_r (cz_ix z q) (cx_step h1 h3 ?_)
  have hb : ∀ t, t < 13 → q + t * cz_sp k < 2197 := fun t ht => (cz_f2 hq h1 h3 h0 ht).1
  refine cz_lt (W := fun n t => wX_freeLine_21 P (nI (z * 2197 + q)) (nI (cz_sp k)) (cz_ba S) b n (cz_bi (cz_an (cz_Lg S (z * 2197) k q) t)) (nI t)) 13
    (fun n => br_t cz_ex13 ?_)
    (fun n t ht K => br_f (cz_in13 ht) ?_)
  · exact cz_lt (W := fun n t => wX_freeLine_65 P (nI (z * 2197 + q)) (nI (cz_sp k)) (cz_bi (cz_an (cz_Lg S (z * 2197) k q) 13)) n (nI t) (cz_ba (cz_lw S (z * 2197) q (cz_sp k) (cz_an (cz_Lg S (z * 2197) k q) 13) t)) b) 13
      (fun n => br_t cz_ex13 h)
      (fun n t ht K => br_f (cz_in13 ht) (cz_st _ (cz_an (cz_Lg S (z * 2197) k q) 13) (cz_il (z * 2197) q t (cz_sp k)) (by have := hb t ht; omega) (by decide) (cz_nb _) (fun m => rfl) (nm_r (nI_1 t) K)))
  · have hbt := hb t ht
    have ea : cz_an (cz_Lg S (z * 2197) k q) (t + 1) = (cz_an (cz_Lg S (z * 2197) k q) t || S (z * 2197 + (q + t * cz_sp k))) := rfl
    have K' : wX_freeLine_21 P (nI (z * 2197 + q)) (nI (cz_sp k)) (cz_ba S) b n (cz_bi (cz_an (cz_Lg S (z * 2197) k q) (t + 1))) (nI (t + 1)) := K
    rw [ea] at K'
    cases hA : cz_an (cz_Lg S (z * 2197) k q) t with
    | true =>
      rw [hA, Bool.true_or] at K'
      exact br_f cz_10 (nm_r (nI_1 t) K')
    | false =>
      rw [hA, Bool.false_or] at K'
      refine br_t rfl ⟨cz_in _ (cz_il _ _ _ _) (by omega) (by decide), cz_br _ (cz_rdb _ (cz_il _ _ _ _) (by omega)) (fun f => ?_) (fun f => ?_)⟩
      · rw [f] at K'
        exact nm_r (nI_1 t) K'
      · rw [f] at K'
        exact nm_r (nI_1 t) K'
-- lines below i freed
def cz_fc (B : Nat → Bool) (o k i : Nat) : Nat → Bool := fun j => if o ≤ j ∧ j < o + 2197 ∧ cz_fs (j - o) k < i then cz_L B o k (j - o) else B j
theorem cz_fc_0 (B : Nat → Bool) (o k : Nat) : cz_fc B o k 0 = B := by
  funext j
  exact if_neg (by omega)
theorem cz_fc_e (B : Nat → Bool) (o k : Nat) : cz_fc B o k 2197 = cz_zs o 2197 (cz_L B o k) B := by
  funext j
  unfold cz_fc cz_zs
  by_cases h : o ≤ j ∧ j < o + 2197
  · have hf : cz_fs (j - o) k ≤ j - o := Nat.sub_le _ _
    rw [if_pos h, if_pos (by omega)]
  · rw [if_neg h, if_neg (by omega)]
theorem cz_fc_k {B : Nat → Bool} {o k i : Nat} (h1 : 1 ≤ k) (h3 : k ≤ 3) (h0 : cz_rd i k ≠ 0) : cz_fc B o k (i + 1) = cz_fc B o k i := by
  funext j
  unfold cz_fc
  by_cases h : o ≤ j ∧ j < o + 2197
  · have hf : cz_fs (j - o) k ≠ i := fun e => h0 (by rw [← e]; exact (cz_f1 (by omega) h1 h3).2)
    by_cases g : cz_fs (j - o) k < i
    · rw [if_pos (by omega), if_pos (by omega)]
    · rw [if_neg (by omega), if_neg (by omega)]
  · rw [if_neg (by omega), if_neg (by omega)]
theorem cz_fc_s {B : Nat → Bool} {o k i : Nat} (hi : i < 2197) (h1 : 1 ≤ k) (h3 : k ≤ 3) (h0 : cz_rd i k = 0) :
    cz_lw (cz_fc B o k i) o i (cz_sp k) (cz_an (cz_Lg (cz_fc B o k i) o k i) 13) 13 = cz_fc B o k (i + 1) := by
  have eA : cz_an (cz_Lg (cz_fc B o k i) o k i) 13 = cz_an (cz_Lg B o k i) 13 := by
    refine cz_an_c (fun t ht => ?_)
    obtain ⟨f1, f2⟩ := cz_f2 hi h1 h3 h0 ht
    show cz_fc B o k i (o + (i + t * cz_sp k)) = B (o + (i + t * cz_sp k))
    unfold cz_fc
    rw [Nat.add_sub_cancel_left, f2]
    exact if_neg (by omega)
  funext j
  by_cases hl : ∃ t, t < 13 ∧ j = o + (i + t * cz_sp k)
  · obtain ⟨t, ht, rfl⟩ := hl
    obtain ⟨f1, f2⟩ := cz_f2 hi h1 h3 h0 ht
    rw [cz_lw_t ht, eA]
    unfold cz_fc
    rw [Nat.add_sub_cancel_left, f2, if_pos (by omega)]
    unfold cz_L
    rw [f2]
  · rw [cz_lw_f (fun t ht e => hl ⟨t, ht, e⟩)]
    unfold cz_fc
    by_cases h : o ≤ j ∧ j < o + 2197
    · have hf : cz_fs (j - o) k ≠ i := fun e => by
        have f := (cz_f1 (n := j - o) (by omega) h1 h3).1
        have l := cz_rd_le (n := j - o) (by omega) k
        rw [e] at f
        exact hl ⟨cz_rd (j - o) k, by omega, by omega⟩
      by_cases g : cz_fs (j - o) k < i
      · rw [if_pos (by omega), if_pos (by omega)]
      · rw [if_neg (by omega), if_neg (by omega)]
    · rw [if_neg (by omega), if_neg (by omega)]
theorem cx_fc {P : SX → Prop} {B : Nat → Bool} {b : Nat → Int32} {z k : Nat} (hz : z < 3) (h1 : 1 ≤ k) (h3 : k ≤ 3) (h : P (cz_ba (cz_zs (z * 2197) 2197 (cz_L B (z * 2197) k) B), b)) : wpX_freeClock P (cz_ba B, b) (nI z) (nI k) := by
  unfold wpX_freeClock
  have H : ∃ n, wX_freeClock_2 P (nI z) (nI k) n (nI 0) (cz_ba (cz_fc B (z * 2197) k 0)) b :=
    cz_lt (W := fun n i => wX_freeClock_2 P (nI z) (nI k) n (nI i) (cz_ba (cz_fc B (z * 2197) k i)) b) 2197
      (fun n => br_t cz_ex1 (by rw [cz_fc_e]; exact h))
      (fun n i hi K => br_f (cz_in1 hi) (cx_read hi h3 (by
        have l := cz_rd_le hi k
        by_cases h0 : cz_rd i k = 0
        · refine br_t (by rw [h0]; rfl) (cx_line hz hi h1 h3 h0 ?_)
          rw [cz_fc_s hi h1 h3 h0]
          exact nm_r (nI_1 i) K
        · refine br_f (nI_ne0 (by omega) (by omega)) (nm_r (nI_1 i) ?_)
          rw [cz_fc_k h1 h3 h0] at K
          exact K)))
  rw [cz_fc_0] at H
  exact H
-- the reference's side
theorem cz_wi {q r s v : Nat} : nI (q + r * s) + (nI v - nI r) * nI s = nI (q + v * s) := by
  rw [← nI_add, ← nI_add, ← pk_mul, ← pk_mul]
  grind
theorem cy_with {P : Int32 → Prop} {a b : Nat → Int32} {p k v : Nat} (hp : p < 2197) (h1 : 1 ≤ k) (h3 : k ≤ 3) (h : P (nI (cz_fs p k + v * cz_sp k))) : wpY_with P (a, b) (nI p) (nI k) (nI v) := by
  have f := (cz_f1 hp h1 h3).1
  have e : nI p + (nI v - nI (cz_rd p k)) * nI (cz_sp k) = nI (cz_fs p k + v * cz_sp k) := by
    have e' : nI p = nI (cz_fs p k + cz_rd p k * cz_sp k) := congrArg nI f
    rw [e', cz_wi]
  rw [← e] at h
  have hc : k = 1 ∨ k = 2 ∨ k = 3 := by omega
  rcases hc with rfl | rfl | rfl
  · exact br_t rfl (cy_val hp h3 h)
  · exact br_f (by decide) (br_t rfl (cy_val hp h3 h))
  · exact br_f (by decide) (br_f (by decide) (cy_val hp h3 h))
theorem cy_anyAt {P : Int32 → Prop} {B : Nat → Bool} {b : Nat → Int32} {z p k : Nat} (hz : z < 3) (hp : p < 2197) (h1 : 1 ≤ k) (h3 : k ≤ 3) (h : P (cz_bi (cz_L B (z * 2197) k p))) : wpY_anyAt P (cz_ba B, b) (nI z) (nI p) (nI k) := by
  have f := cz_f1 hp h1 h3
  unfold wpY_anyAt
  exact cz_lo (W := fun n d => wY_anyAt_3 P (nI z) (nI p) (nI k) (cz_ba B) b n (nI d)) (fun d => ∀ t, t < d → cz_Lg B (z * 2197) k (cz_fs p k) t = false) 13 0 (by decide) (fun t ht => by omega)
    (fun H n => br_t (nI_lt (a := 12) (by decide) (by decide)) (by unfold cz_L at h; rw [cz_an_f H] at h; exact h))
    (fun n d hd H K => br_f (nI_nlt (a := 12) (by omega) (by decide)) (cy_with hp h1 h3 (by
      have hb := (cz_f2 (n := cz_fs p k) (by omega) h1 h3 f.2 hd).1
      refine ⟨cz_in _ (cz_ix z _) (by omega) (by decide), cz_br _ (cz_rdb _ (cz_ix z _) (by omega)) (fun g => ?_) (fun g => ?_)⟩
      · exact nm_r (nI_1 d) (K (lt_s H g))
      · unfold cz_L at h
        rw [cz_an_t (t := d) hd g] at h
        exact h)))
theorem cy_free {P : Int32 → SY → Prop} {B M : Nat → Bool} {z k : Nat} (hz : z < 3) (h1 : 1 ≤ k) (h3 : k ≤ 3) (h : ∀ M' : Nat → Bool, P (cz_bi (cz_an (cz_L B (z * 2197) k) 2197)) (cz_ba (cz_zs (z * 2197) 2197 (cz_L B (z * 2197) k) B), cz_ba M')) : ∃ n, wY_free_23 P (nI z) (nI k) n 0 (cz_ba B) (cz_ba M) := by
  have H : ∃ n, wY_free_23 P (nI z) (nI k) n (nI 0) (cz_ba B) (cz_ba (cz_zs 0 0 (cz_L B (z * 2197) k) M)) :=
    cz_lt (W := fun n i => wY_free_23 P (nI z) (nI k) n (nI i) (cz_ba B) (cz_ba (cz_zs 0 i (cz_L B (z * 2197) k) M))) 2197
      (fun n => br_t cz_ex1 (cy_storez hz h))
      (fun n i hi K => br_f (cz_in1 hi) (cy_anyAt hz hi h1 h3 (cz_wb hi (cz_nb _) (nm_r (nI_1 i) K))))
  rw [cz_zs_0] at H
  exact H
theorem i_vc_free {k : Nat} {u : SX} {v : SY} (I : i_Rel k u v) (hk : k + 5 ≤ 2560) (v1 : Int32) (v2 : Int32) : wpX_free (fun r u' => wpY_free (fun r' v' => r' = r ∧ i_Rel (k + 5) u' v') v v1 v2) u v1 v2 := by
  obtain ⟨B, M, b, rfl, rfl⟩ := I
  unfold wpX_free wpY_free
  dsimp only
  rcases cz_zone v1 with ⟨hx, hy⟩ | ⟨z, hz, rfl, hx, hy⟩
  · exact hx _ (br_t rfl (hy _ _ _ (br_f cz_10 ⟨rfl, cz_re _ B M b⟩)))
  rcases cz_clock v2 with ⟨gx, gy⟩ | ⟨c, g1, g3, rfl, gx, gy⟩
  · exact hx _ (br_f cz_10 (gx _ (br_t rfl (hy _ _ _ (br_t rfl (gy _ _ _ (br_f cz_10 ⟨rfl, cz_re _ B M b⟩)))))))
  · exact hx _ (br_f cz_10 (gx _ (br_f cz_10 (cx_fc hz g1 g3 (cx_anyz hz (hy _ _ _ (br_t rfl (gy _ _ _ (br_t rfl (cy_free hz g1 g3 (fun M' => ⟨rfl, cz_re _ _ M' b⟩)))))))))))
end
section
-- set
def cz_S (B : Nat → Bool) (o k m : Nat) : Nat → Bool := fun n => decide (cz_rd n k = m) && cz_L B o k n
theorem cz_neg {m : Nat} (hm : m ≤ 12) : (-nI m).toInt = -(m : Int) := by
  have e : -nI m = nI 0 - nI m := by rw [nI_0]; grind
  rw [e, pk_sub_toInt (by decide) (by omega)]
  omega
theorem cz_set1 {n k m : Nat} (hn : n < 2197) (hm : m ≤ 12) : (decide (cz_df n k 0 ≤ nI m) && decide (cz_df n 0 k ≤ -nI m)) = decide (cz_rd n k = m) := by
  have e0 : cz_rd n 0 = 0 := rfl
  have a : cz_df n k 0 ≤ nI m ↔ cz_rd n k ≤ m := by
    rw [Int32.le_iff_toInt_le, cz_df_t hn, nI_toInt (by omega), e0]
    omega
  have c : cz_df n 0 k ≤ -nI m ↔ m ≤ cz_rd n k := by
    rw [Int32.le_iff_toInt_le, cz_df_t hn, cz_neg hm, e0]
    omega
  by_cases h1 : cz_rd n k = m
  · rw [decide_eq_true h1, decide_eq_true (a.mpr (by omega)), decide_eq_true (c.mpr (by omega))]
    rfl
  · rw [decide_eq_false h1]
    by_cases h2 : cz_rd n k ≤ m
    · have hc : ¬ cz_df n 0 k ≤ -nI m := fun h => h1 (by have := c.mp h; omega)
      rw [decide_eq_false hc, Bool.and_false]
    · rw [decide_eq_false (fun h => h2 (a.mp h)), Bool.false_and]
theorem cz_two {B f g : Nat → Bool} {o i j i' j' : Nat} {c c' : Int32}
    (hg : ∀ n, n < 2197 → (f n && (decide (cz_df n i j ≤ c) && decide (cz_df n i' j' ≤ c'))) = g n) :
    cz_zs o 2197 (cz_K (cz_zs o 2197 (cz_K (cz_zs o 2197 f B) o i j c) (cz_zs o 2197 f B)) o i' j' c') (cz_zs o 2197 (cz_K (cz_zs o 2197 f B) o i j c) (cz_zs o 2197 f B)) = cz_zs o 2197 g B := by
  rw [cz_zs_z, cz_zs_z]
  refine cz_zs_c B (fun n hn => ?_)
  rw [← hg n hn]
  show (cz_zs o 2197 (cz_K (cz_zs o 2197 f B) o i j c) (cz_zs o 2197 f B) (o + n) && _) = _
  rw [cz_zs_in _ _ hn]
  show ((cz_zs o 2197 f B (o + n) && _) && _) = _
  rw [cz_zs_in _ _ hn, Bool.and_assoc]
theorem cx_set {P : SX → Prop} {B : Nat → Bool} {b : Nat → Int32} {z k m : Nat} (hz : z < 3) (h1 : 1 ≤ k) (h3 : k ≤ 3) (hm : m ≤ 12) (h : P (cz_ba (cz_zs (z * 2197) 2197 (cz_S B (z * 2197) k m) B), b)) :
    wpX_freeClock (fun u => wpX_keepDifference (fun u => wpX_keepDifference P u (nI z) 0 (nI k) (-nI m)) u (nI z) (nI k) 0 (nI m)) (cz_ba B, b) (nI z) (nI k) := by
  refine cx_fc hz h1 h3 (cx_kd (j := 0) hz h3 (by decide) (cx_kd (i := 0) hz (by decide) h3 ?_))
  rw [cz_two (g := cz_S B (z * 2197) k m)]
  · exact h
  · intro n hn
    rw [cz_set1 hn hm, Bool.and_comm]
    rfl
theorem cy_set {P : Int32 → SY → Prop} {B M : Nat → Bool} {z k m : Nat} (hz : z < 3) (h1 : 1 ≤ k) (h3 : k ≤ 3) (hm : m ≤ 12) (h : ∀ M' : Nat → Bool, P (cz_bi (cz_an (cz_S B (z * 2197) k m) 2197)) (cz_ba (cz_zs (z * 2197) 2197 (cz_S B (z * 2197) k m) B), cz_ba M')) : ∃ n, wY_set_37 P (nI z) (nI k) (nI m) n 0 (cz_ba B) (cz_ba M) := by
  have H : ∃ n, wY_set_37 P (nI z) (nI k) (nI m) n (nI 0) (cz_ba B) (cz_ba (cz_zs 0 0 (cz_S B (z * 2197) k m) M)) :=
    cz_lt (W := fun n i => wY_set_37 P (nI z) (nI k) (nI m) n (nI i) (cz_ba B) (cz_ba (cz_zs 0 i (cz_S B (z * 2197) k m) M))) 2197
      (fun n => br_t cz_ex1 (cy_storez hz h))
      (fun n i hi K => br_f (cz_in1 hi) (cy_val hi h3 (by
        have l := cz_rd_le hi k
        have es : cz_S B (z * 2197) k m i = (decide (cz_rd i k = m) && cz_L B (z * 2197) k i) := rfl
        by_cases e : cz_rd i k = m
        · rw [decide_eq_true e, Bool.true_and] at es
          refine br_t (by rw [e]) (cy_anyAt hz hi h1 h3 (cz_br _ rfl (fun f => ?_) (fun f => ?_)))
          · exact cz_w0 hi (by rw [es, f]) (nm_r (nI_1 i) K)
          · exact cz_w1 hi (by rw [es, f]) (nm_r (nI_1 i) K)
        · rw [decide_eq_false e, Bool.false_and] at es
          exact br_f (fun q => e ((nI_eq (by omega) (by omega)).mp q)) (cz_w0 hi es (nm_r (nI_1 i) K)))))
  rw [cz_zs_0] at H
  exact H
theorem i_vc_set {k : Nat} {u : SX} {v : SY} (I : i_Rel k u v) (hk : k + 5 ≤ 2560) (v1 : Int32) (v2 : Int32) (v3 : Int32) : wpX_set (fun r u' => wpY_set (fun r' v' => r' = r ∧ i_Rel (k + 5) u' v') v v1 v2 v3) u v1 v2 v3 := by
  obtain ⟨B, M, b, rfl, rfl⟩ := I
  unfold wpX_set wpY_set wpX_isNumber
  dsimp only
  rcases cz_zone v1 with ⟨hx, hy⟩ | ⟨z, hz, rfl, hx, hy⟩
  · exact hx _ (br_t rfl (hy _ _ _ (br_f cz_10 ⟨rfl, cz_re _ B M b⟩)))
  rcases cz_clock v2 with ⟨gx, gy⟩ | ⟨c, g1, g3, rfl, gx, gy⟩
  · exact hx _ (br_f cz_10 (gx _ (br_t rfl (hy _ _ _ (br_t rfl (gy _ _ _ (br_f cz_10 ⟨rfl, cz_re _ B M b⟩)))))))
  rcases cz_num v3 with a1 | ⟨a1, a2, a3⟩ | ⟨m, hm, rfl, a1, a2, a3⟩
  · exact hx _ (br_f cz_10 (gx _ (br_f cz_10 (br_t a1 (br_t rfl (hy _ _ _ (br_t rfl (gy _ _ _ (br_t rfl (br_t a1 ⟨rfl, cz_re _ B M b⟩))))))))))
  · exact hx _ (br_f cz_10 (gx _ (br_f cz_10 (br_f a1 (br_t a2 (br_t rfl (hy _ _ _ (br_t rfl (gy _ _ _ (br_t rfl (br_f a1 (br_f a3 ⟨rfl, cz_re _ B M b⟩))))))))))))
  · exact hx _ (br_f cz_10 (gx _ (br_f cz_10 (br_f a1 (br_f a2 (br_f cz_10 (cx_set hz g1 g3 hm (cx_anyz hz (hy _ _ _ (br_t rfl (gy _ _ _ (br_t rfl (br_f a1 (br_t a3 (cy_set hz g1 g3 hm (fun M' => ⟨rfl, cz_re _ _ M' b⟩))))))))))))))))
-- follow
def cz_F (B : Nat → Bool) (o i j : Nat) : Nat → Bool := fun n => decide (cz_rd n i = cz_rd n j) && cz_L B o i n
theorem cz_fol1 {n i j : Nat} (hn : n < 2197) : (decide (cz_df n i j ≤ 0) && decide (cz_df n j i ≤ 0)) = decide (cz_rd n i = cz_rd n j) := by
  have a : cz_df n i j ≤ 0 ↔ cz_rd n i ≤ cz_rd n j := by
    rw [Int32.le_iff_toInt_le, cz_df_t hn, show (0 : Int32).toInt = 0 from rfl]
    omega
  have c : cz_df n j i ≤ 0 ↔ cz_rd n j ≤ cz_rd n i := by
    rw [Int32.le_iff_toInt_le, cz_df_t hn, show (0 : Int32).toInt = 0 from rfl]
    omega
  by_cases h1 : cz_rd n i = cz_rd n j
  · rw [decide_eq_true h1, decide_eq_true (a.mpr (by omega)), decide_eq_true (c.mpr (by omega))]
    rfl
  · rw [decide_eq_false h1]
    by_cases h2 : cz_rd n i ≤ cz_rd n j
    · have hc : ¬ cz_df n j i ≤ 0 := fun h => h1 (by have := c.mp h; omega)
      rw [decide_eq_false hc, Bool.and_false]
    · rw [decide_eq_false (fun h => h2 (a.mp h)), Bool.false_and]
theorem cx_fol {P : SX → Prop} {B : Nat → Bool} {b : Nat → Int32} {z i j : Nat} (hz : z < 3) (h1 : 1 ≤ i) (h3 : i ≤ 3) (hj : j ≤ 3) (h : P (cz_ba (cz_zs (z * 2197) 2197 (cz_F B (z * 2197) i j) B), b)) :
    wpX_freeClock (fun u => wpX_keepDifference (fun u => wpX_keepDifference P u (nI z) (nI j) (nI i) 0) u (nI z) (nI i) (nI j) 0) (cz_ba B, b) (nI z) (nI i) := by
  refine cx_fc hz h1 h3 (cx_kd hz h3 hj (cx_kd hz hj h3 ?_))
  rw [cz_two (g := cz_F B (z * 2197) i j)]
  · exact h
  · intro n hn
    rw [cz_fol1 hn, Bool.and_comm]
    rfl
theorem cy_fol {P : Int32 → SY → Prop} {B M : Nat → Bool} {z k m : Nat} (hz : z < 3) (h1 : 1 ≤ k) (h3 : k ≤ 3) (hm : m ≤ 3) (h : ∀ M' : Nat → Bool, P (cz_bi (cz_an (cz_F B (z * 2197) k m) 2197)) (cz_ba (cz_zs (z * 2197) 2197 (cz_F B (z * 2197) k m) B), cz_ba M')) : ∃ n, wY_follow_43 P (nI z) (nI k) (nI m) n 0 (cz_ba B) (cz_ba M) := by
  have H : ∃ n, wY_follow_43 P (nI z) (nI k) (nI m) n (nI 0) (cz_ba B) (cz_ba (cz_zs 0 0 (cz_F B (z * 2197) k m) M)) :=
    cz_lt (W := fun n i => wY_follow_43 P (nI z) (nI k) (nI m) n (nI i) (cz_ba B) (cz_ba (cz_zs 0 i (cz_F B (z * 2197) k m) M))) 2197
      (fun n => br_t cz_ex1 (cy_storez hz h))
      (fun n i hi K => br_f (cz_in1 hi) (cy_val hi h3 (cy_val hi hm (by
        have l := cz_rd_le hi k
        have l2 := cz_rd_le hi m
        have es : cz_F B (z * 2197) k m i = (decide (cz_rd i k = cz_rd i m) && cz_L B (z * 2197) k i) := rfl
        by_cases e : cz_rd i k = cz_rd i m
        · rw [decide_eq_true e, Bool.true_and] at es
          refine br_t (by rw [e]) (cy_anyAt hz hi h1 h3 (cz_br _ rfl (fun f => ?_) (fun f => ?_)))
          · exact cz_w0 hi (by rw [es, f]) (nm_r (nI_1 i) K)
          · exact cz_w1 hi (by rw [es, f]) (nm_r (nI_1 i) K)
        · rw [decide_eq_false e, Bool.false_and] at es
          exact br_f (fun q => e ((nI_eq (by omega) (by omega)).mp q)) (cz_w0 hi es (nm_r (nI_1 i) K))))))
  rw [cz_zs_0] at H
  exact H
theorem i_vc_follow {k : Nat} {u : SX} {v : SY} (I : i_Rel k u v) (hk : k + 5 ≤ 2560) (v1 : Int32) (v2 : Int32) (v3 : Int32) : wpX_follow (fun r u' => wpY_follow (fun r' v' => r' = r ∧ i_Rel (k + 5) u' v') v v1 v2 v3) u v1 v2 v3 := by
  obtain ⟨B, M, b, rfl, rfl⟩ := I
  unfold wpX_follow wpY_follow wX_follow_53
  dsimp only
  rcases cz_zone v1 with ⟨hx, hy⟩ | ⟨z, hz, rfl, hx, hy⟩
  · exact hx _ (br_t rfl (hy _ _ _ (br_f cz_10 ⟨rfl, cz_re _ B M b⟩)))
  rcases cz_clock v2 with ⟨gx, gy⟩ | ⟨i, g1, g3, rfl, gx, gy⟩
  · exact hx _ (br_f cz_10 (gx _ (br_t rfl (hy _ _ _ (br_t rfl (gy _ _ _ (br_f cz_10 ⟨rfl, cz_re _ B M b⟩)))))))
  rcases cz_clock v3 with ⟨fx, fy⟩ | ⟨j, f1, f3, rfl, fx, fy⟩
  · exact hx _ (br_f cz_10 (gx _ (br_f cz_10 (fx _ (br_t rfl (hy _ _ _ (br_t rfl (gy _ _ _ (br_t rfl (fy _ _ _ (br_f cz_10 ⟨rfl, cz_re _ B M b⟩)))))))))))
  by_cases e : nI i = nI j
  · exact hx _ (br_f cz_10 (gx _ (br_f cz_10 (fx _ (br_f cz_10 (br_t e (cx_any hz (hy _ _ _ (br_t rfl (gy _ _ _ (br_t rfl (fy _ _ _ (br_t rfl (br_t e (cy_some hz ⟨rfl, cz_re _ B M b⟩)))))))))))))))
  · exact hx _ (br_f cz_10 (gx _ (br_f cz_10 (fx _ (br_f cz_10 (br_f e (cx_fol hz g1 g3 f3 (cx_anyz hz (hy _ _ _ (br_t rfl (gy _ _ _ (br_t rfl (fy _ _ _ (br_t rfl (br_f e (cy_fol hz g1 g3 f3 (fun M' => ⟨rfl, cz_re _ _ M' b⟩)))))))))))))))))
end
section
-- the greatest difference
def cz_gr (m0 : Int32) (S : Nat → Bool) (i j : Nat) : Nat → Int32
  | 0 => m0
  | n + 1 => if S n = true ∧ ¬ cz_df n i j ≤ cz_gr m0 S i j n then cz_df n i j else cz_gr m0 S i j n
theorem cz_gr0 {m0 : Int32} {S : Nat → Bool} {i j n : Nat} (h : S n = false) : cz_gr m0 S i j (n + 1) = cz_gr m0 S i j n := if_neg (by rw [h]; exact fun q => absurd q.1 (by decide))
theorem cz_gr1 {m0 : Int32} {S : Nat → Bool} {i j n : Nat} (h : cz_df n i j ≤ cz_gr m0 S i j n) : cz_gr m0 S i j (n + 1) = cz_gr m0 S i j n := if_neg (fun q => q.2 h)
theorem cz_gr2 {m0 : Int32} {S : Nat → Bool} {i j n : Nat} (h : S n = true) (h' : ¬ cz_df n i j ≤ cz_gr m0 S i j n) : cz_gr m0 S i j (n + 1) = cz_df n i j := if_pos ⟨h, h'⟩
theorem cz_grc {m0 : Int32} {S S' : Nat → Bool} {i j n : Nat} (h : ∀ t, t < n → S t = S' t) : cz_gr m0 S i j n = cz_gr m0 S' i j n := by
  induction n with
  | zero => rfl
  | succ n ih =>
    have e := ih (fun t ht => h t (by omega))
    show (if S n = true ∧ ¬ cz_df n i j ≤ cz_gr m0 S i j n then _ else cz_gr m0 S i j n) = (if S' n = true ∧ ¬ cz_df n i j ≤ cz_gr m0 S' i j n then _ else cz_gr m0 S' i j n)
    rw [e, h n (by omega)]
theorem cz_df_b {n : Nat} (hn : n < 2197) (i j : Nat) : -12 ≤ (cz_df n i j).toInt := by
  have h1 := cz_rd_le hn i
  have h2 := cz_rd_le hn j
  rw [cz_df_t hn]
  omega
/-- X begins at -13, Y at -100 -/
theorem cz_grb (S : Nat → Bool) (i j : Nat) : ∀ n, n ≤ 2197 → (cz_gr (-13) S i j n = -13 ∧ cz_gr (-100) S i j n = -100) ∨ (cz_gr (-13) S i j n = cz_gr (-100) S i j n ∧ -12 ≤ (cz_gr (-100) S i j n).toInt) := by
  intro n
  induction n with
  | zero => exact fun _ => Or.inl ⟨rfl, rfl⟩
  | succ n ih =>
    intro hn
    have hd := cz_df_b (n := n) (by omega) i j
    cases hS : S n with
    | false =>
      rw [cz_gr0 hS, cz_gr0 hS]
      exact ih (by omega)
    | true =>
      rcases ih (by omega) with ⟨e1, e2⟩ | ⟨e1, e2⟩
      · refine Or.inr ?_
        have a1 : ¬ cz_df n i j ≤ cz_gr (-13) S i j n := by
          rw [e1, Int32.le_iff_toInt_le, show (-13 : Int32).toInt = -13 from rfl]; omega
        have a2 : ¬ cz_df n i j ≤ cz_gr (-100) S i j n := by
          rw [e2, Int32.le_iff_toInt_le, show (-100 : Int32).toInt = -100 from rfl]; omega
        rw [cz_gr2 hS a1, cz_gr2 hS a2]
        exact ⟨rfl, hd⟩
      · refine Or.inr ?_
        by_cases h : cz_df n i j ≤ cz_gr (-100) S i j n
        · rw [cz_gr1 h, cz_gr1 (by rw [e1]; exact h)]
          exact ⟨e1, e2⟩
        · rw [cz_gr2 hS h, cz_gr2 hS (by rw [e1]; exact h)]
          exact ⟨rfl, hd⟩
theorem cx_gr {P : Int32 → Prop} {B : Nat → Bool} {b : Nat → Int32} {z i j : Nat} (hz : z < 3) (hi : i ≤ 3) (hj : j ≤ 3) (h : P (cz_gr (-13) (cz_C B z) i j 2197)) : wpX_greatestDifference P (cz_ba B, b) (nI z) (nI i) (nI j) := by
  unfold wpX_greatestDifference
  refine nm_r (cz_m z) ?_
  exact cz_lt (W := fun n t => wX_greatestDifference_14 P (nI i) (nI j) (nI (z * 2197)) (cz_ba B) b n (cz_gr (-13) (cz_C B z) i j t) (nI t)) 2197
    (fun n => br_t cz_ex1 h)
    (fun n t ht K => br_f (cz_in1 ht) (cx_dif ht hi hj ⟨cz_in (z * 2197 + t) (nI_add _ _) (by omega) (by decide),
      cz_br (B (z * 2197 + t)) (cz_rdb _ (nI_add _ _) (by omega))
        (fun f => nm_r (nI_1 t) (by rw [cz_gr0 (S := cz_C B z) f] at K; exact K))
        (fun f => by
          by_cases hd : cz_df t i j ≤ cz_gr (-13) (cz_C B z) i j t
          · exact br_t hd (nm_r (nI_1 t) (by rw [cz_gr1 hd] at K; exact K))
          · exact br_f hd (nm_r (nI_1 t) (by rw [cz_gr2 (S := cz_C B z) f hd] at K; exact K)))⟩))
theorem cy_gr {P : Int32 → Prop} {a : Nat → Int32} {M : Nat → Bool} {i j : Nat} (hi : i ≤ 3) (hj : j ≤ 3) (h : P (cz_gr (-100) M i j 2197)) : wpY_greatest P (a, cz_ba M) (nI i) (nI j) := by
  unfold wpY_greatest
  exact cz_lt (W := fun n t => wY_greatest_6 P (nI i) (nI j) a (cz_ba M) n (cz_gr (-100) M i j t) (nI t)) 2197
    (fun n => br_t cz_ex1 h)
    (fun n t ht K => br_f (cz_in1 ht) ⟨vp_in_nI ht (by decide),
      cz_br (M t) (cz_rdb t rfl (by omega))
        (fun f => nm_r (nI_1 t) (by rw [cz_gr0 f] at K; exact K))
        (fun f => cy_val ht hi (cy_val ht hj (by
          by_cases hd : cz_df t i j ≤ cz_gr (-100) M i j t
          · exact br_t hd (nm_r (nI_1 t) (by rw [cz_gr1 hd] at K; exact K))
          · exact br_f hd (nm_e (nm_r (nI_1 t) (by rw [cz_gr2 f hd] at K; exact K))))))⟩)
theorem cz_m0 {f M : Nat → Bool} {n : Nat} (hn : n < 2197) : cz_zs 0 2197 f M n = f n := by
  have e := cz_zs_in (o := 0) f M hn
  rwa [Nat.zero_add] at e
-- widest
theorem cy_wid {P : Int32 → SY → Prop} {B M : Nat → Bool} {z i j : Nat} (hz : z < 3) (hi : i ≤ 3) (hj : j ≤ 3)
    (h : ∀ M' : Nat → Bool, (cz_gr (-100) (cz_C B z) i j 2197 = -100 → P (-300) (cz_ba B, cz_ba M')) ∧ (¬ cz_gr (-100) (cz_C B z) i j 2197 = -100 → P (cz_gr (-100) (cz_C B z) i j 2197) (cz_ba B, cz_ba M'))) : ∃ n, wY_widest_27 P (nI z) (nI i) (nI j) n 0 (cz_ba B) (cz_ba M) := by
  have H : ∃ n, wY_widest_27 P (nI z) (nI i) (nI j) n (nI 0) (cz_ba B) (cz_ba (cz_zs 0 0 (cz_C B z) M)) :=
    cz_lt (W := fun n t => wY_widest_27 P (nI z) (nI i) (nI j) n (nI t) (cz_ba B) (cz_ba (cz_zs 0 t (cz_C B z) M))) 2197
      (fun n => br_t cz_ex1 (cy_gr hi hj (by
        rw [cz_grc (S' := cz_C B z) (fun t ht => cz_m0 ht)]
        exact h _)))
      (fun n t ht K => br_f (cz_in1 ht) ⟨cz_in (z * 2197 + t) (cz_ix z t) (by omega) (by decide),
        cz_wb ht (by rw [cz_rdb (z * 2197 + t) (cz_ix z t) (by omega)]; exact cz_nb _) (nm_r (nI_1 t) K)⟩)
  rw [cz_zs_0] at H
  exact H
theorem i_vc_widest {k : Nat} {u : SX} {v : SY} (I : i_Rel k u v) (hk : k + 5 ≤ 2560) (v1 : Int32) (v2 : Int32) (v3 : Int32) : wpX_widest (fun r => wpY_widest (fun r' v' => r' = r ∧ i_Rel (k + 5) u v') v v1 v2 v3) u v1 v2 v3 := by
  obtain ⟨B, M, b, rfl, rfl⟩ := I
  unfold wpX_widest wpY_widest
  dsimp only
  rcases cz_zone v1 with ⟨hx, hy⟩ | ⟨z, hz, rfl, hx, hy⟩
  · exact hx _ (br_t rfl (hy _ _ _ (br_f cz_10 ⟨rfl, cz_re _ B M b⟩)))
  rcases cz_pair v2 v3 with ⟨px, py⟩ | ⟨i, j, hi, hj, hij, rfl, rfl, px, py⟩
  · exact hx _ (br_f cz_10 (px _ (br_t rfl (hy _ _ _ (br_t rfl (py _ _ _ (br_f cz_10 ⟨rfl, cz_re _ B M b⟩)))))))
  refine hx _ (br_f cz_10 (px _ (br_f cz_10 (cx_gr hz hi hj ?_))))
  rcases cz_grb (cz_C B z) i j 2197 (Nat.le_refl _) with ⟨e1, e2⟩ | ⟨e1, e2⟩
  · exact br_t e1 (hy _ _ _ (br_t rfl (py _ _ _ (br_t rfl (cy_wid hz hi hj (fun M' => br_t e2 ⟨rfl, cz_re _ B M' b⟩))))))
  · have n1 : ¬ cz_gr (-13) (cz_C B z) i j 2197 = -13 := fun q => by
      rw [e1] at q
      rw [q, show (-13 : Int32).toInt = -13 from rfl] at e2
      omega
    have n2 : ¬ cz_gr (-100) (cz_C B z) i j 2197 = -100 := fun q => by
      rw [q, show (-100 : Int32).toInt = -100 from rfl] at e2
      omega
    exact br_f n1 (hy _ _ _ (br_t rfl (py _ _ _ (br_t rfl (cy_wid hz hi hj (fun M' => br_f n2 ⟨e1.symm, cz_re _ B M' b⟩))))))
-- hull: the union
def cz_J (B : Nat → Bool) (y z : Nat) : Nat → Bool := fun n => B (y * 2197 + n) || B (z * 2197 + n)
theorem cz_J0 {B : Nat → Bool} {y z n : Nat} (h : B (y * 2197 + n) = true) : cz_J B y z n = true := by
  show (B (y * 2197 + n) || B (z * 2197 + n)) = true
  rw [h]; rfl
theorem cz_J1 {B : Nat → Bool} {y z n : Nat} (h : B (z * 2197 + n) = true) : cz_J B y z n = true := by
  show (B (y * 2197 + n) || B (z * 2197 + n)) = true
  rw [h, Bool.or_true]
theorem cz_J2 {B : Nat → Bool} {y z n : Nat} (h : B (y * 2197 + n) = false) (h' : B (z * 2197 + n) = false) : cz_J B y z n = false := by
  show (B (y * 2197 + n) || B (z * 2197 + n)) = false
  rw [h, h']; rfl
theorem cx_join {P : SX → Prop} {B : Nat → Bool} {b : Nat → Int32} {y z : Nat} (hy : y < 3) (hz : z < 3) (h : P (cz_ba (cz_zs (y * 2197) 2197 (cz_J B y z) B), b)) : wpX_join P (cz_ba B, b) (nI y) (nI z) := by
  unfold wpX_join
  refine nm_r (cz_m y) (nm_r (cz_m z) ?_)
  have H : ∃ n, wX_join_16 P (nI (y * 2197)) (nI (z * 2197)) n (nI 0) (cz_ba (cz_zs (y * 2197) 0 (cz_J B y z) B)) b :=
    cz_lt (W := fun n i => wX_join_16 P (nI (y * 2197)) (nI (z * 2197)) n (nI i) (cz_ba (cz_zs (y * 2197) i (cz_J B y z) B)) b) 2197
      (fun n => br_t cz_ex1 h)
      (fun n i hi K => br_f (cz_in1 hi) ⟨cz_in (y * 2197 + i) (nI_add _ _) (by omega) (by decide),
        cz_br (B (y * 2197 + i)) (cz_rz (nI_add _ _) (Nat.le_refl _) hi hy)
          (fun h0 => ⟨cz_in (z * 2197 + i) (nI_add _ _) (by omega) (by decide),
            cz_br (B (z * 2197 + i)) (cz_rz (nI_add _ _) (Nat.le_refl _) hi hz)
              (fun h1 => cz_z0 (y * 2197) i (nI_add _ _) (by omega) (by decide) (cz_J2 h0 h1) (nm_r (nI_1 i) K))
              (fun h1 => cz_z1 (y * 2197) i (nI_add _ _) (by omega) (by decide) (cz_J1 h1) (nm_r (nI_1 i) K))⟩)
          (fun h0 => cz_z1 (y * 2197) i (nI_add _ _) (by omega) (by decide) (cz_J0 h0) (nm_r (nI_1 i) K))⟩)
  rw [cz_zs_0] at H
  exact H
-- hull: the bounds
def cz_G (m0 : Int32) (S : Nat → Bool) (k : Nat) : Int32 := cz_gr m0 S (k / 4) (k % 4) 2197
def cz_bd (G : Nat → Int32) (b : Nat → Int32) (m : Nat) : Nat → Int32 := fun k => if k < m then G k else b k
theorem cz_bd_s (G b : Nat → Int32) (m : Nat) : upd (cz_bd G b m) m (G m) = cz_bd G b (m + 1) := by
  funext k
  show (if k = m then G m else if k < m then G k else b k) = if k < m + 1 then G k else b k
  by_cases h : k = m
  · rw [if_pos h, if_pos (by omega), h]
  · rw [if_neg h]
    by_cases h2 : k < m
    · rw [if_pos h2, if_pos (by omega)]
    · rw [if_neg h2, if_neg (by omega)]
theorem cz_bd_0 (G b : Nat → Int32) : cz_bd G b 0 = b := by
  funext k
  exact if_neg (by omega)
theorem cz_i4 (i j : Nat) : nI i * 4 + nI j = nI (i * 4 + j) := by
  rw [show (4 : Int32) = nI 4 from rfl, pk_mul, nI_add]
theorem cz_in4 {i : Nat} (h : i < 4) : ¬ (4 : Int32) ≤ nI i := nI_ge (b := 4) h (by decide)
theorem cz_ex4 : (4 : Int32) ≤ nI 4 := nI_le (a := 4) (Nat.le_refl _) (by decide)
theorem cx_meas {P : SX → Prop} {B : Nat → Bool} {b : Nat → Int32} {z : Nat} (hz : z < 3) (h : P (cz_ba B, cz_bd (cz_G (-13) (cz_C B z)) b 16)) : wpX_measure P (cz_ba B, b) (nI z) := by
  unfold wpX_measure
  have H : ∃ n, wX_measure_2 P (nI z) n (nI 0) (cz_ba B) (cz_bd (cz_G (-13) (cz_C B z)) b (0 * 4)) :=
    cz_lt (W := fun n i => wX_measure_2 P (nI z) n (nI i) (cz_ba B) (cz_bd (cz_G (-13) (cz_C B z)) b (i * 4))) 4
      (fun n => br_t cz_ex4 h)
      (fun n i hi K => br_f (cz_in4 hi) (cz_lt (W := fun n' j => wX_measure_9 P (wX_measure_2 P (nI z) n) (nI z) (nI i) n' (nI j) (cz_ba B) (cz_bd (cz_G (-13) (cz_C B z)) b (i * 4 + j))) 4
        (fun n' => br_t cz_ex4 (nm_r (nI_1 i) (by rw [Nat.succ_mul] at K; exact K)))
        (fun n' j hj K' => br_f (cz_in4 hj) (cx_gr hz (by omega) (by omega) ⟨cz_in (i * 4 + j) (cz_i4 i j) (by omega) (by decide), by
          have e : cz_G (-13) (cz_C B z) (i * 4 + j) = cz_gr (-13) (cz_C B z) i j 2197 := by
            unfold cz_G
            rw [show (i * 4 + j) / 4 = i by omega, show (i * 4 + j) % 4 = j by omega]
          rw [← e, cz_i4, nI_clamp (by omega), cz_bd_s]
          exact nm_e (nm_r (nI_1 j) K')⟩))))
  rw [Nat.zero_mul, cz_bd_0] at H
  exact H
def cz_Hg (G : Nat → Int32) (n : Nat) : Nat → Bool := fun k => decide (cz_df n (k / 4) (k % 4) ≤ G k)
def cz_H (G : Nat → Int32) : Nat → Bool := fun n => cz_al (cz_Hg G n) 16
theorem cx_kb {P : Int32 → Prop} {a G : Nat → Int32} {t : Nat} (ht : t < 2197) (h : P (cz_bi (cz_H G t))) : wpX_keepsBounds P (a, G) (nI t) := by
  unfold wpX_keepsBounds
  exact cz_lo (W := fun n i => wX_keepsBounds_2 P (nI t) a G n (nI i)) (fun i => ∀ k, k < i * 4 → cz_Hg G t k = true) 4 0 (by decide) (fun k hk => by omega)
    (fun H n => br_t cz_ex4 (by unfold cz_H at h; rw [cz_al_t H] at h; exact h))
    (fun n i hi H K => br_f (cz_in4 hi) (cz_lo (W := fun n' j => wX_keepsBounds_9 P (wX_keepsBounds_2 P (nI t) a G n) (nI t) (nI i) a G n' (nI j)) (fun j => ∀ k, k < i * 4 + j → cz_Hg G t k = true) 4 0 (by decide) H
      (fun H' n' => br_t cz_ex4 (nm_r (nI_1 i) (K (by rw [Nat.succ_mul]; exact H'))))
      (fun n' j hj H' K' => br_f (cz_in4 hj) (cx_dif ht (by omega) (by omega) ⟨cz_in (i * 4 + j) (cz_i4 i j) (by omega) (by decide), by
        have e : cz_Hg G t (i * 4 + j) = decide (cz_df t i j ≤ G (i * 4 + j)) := by
          unfold cz_Hg
          rw [show (i * 4 + j) / 4 = i by omega, show (i * 4 + j) % 4 = j by omega]
        rw [cz_i4, nI_clamp (by omega)]
        by_cases hd : cz_df t i j ≤ G (i * 4 + j)
        · exact br_t hd (nm_r (nI_1 j) (K' (lt_s (i := i * 4 + j) H' (by rw [e]; exact decide_eq_true hd))))
        · refine br_f hd ?_
          unfold cz_H at h
          rw [cz_al_f (t := i * 4 + j) (by omega) (by rw [e]; exact decide_eq_false hd)] at h
          exact h⟩))))
theorem cx_ftb {P : SX → Prop} {B : Nat → Bool} {b : Nat → Int32} {z : Nat} (hz : z < 3) (h : P (cz_ba (cz_zs (z * 2197) 2197 (cz_H b) B), b)) : wpX_fillToBounds P (cz_ba B, b) (nI z) := by
  unfold wpX_fillToBounds
  refine nm_r (cz_m z) ?_
  have H : ∃ n, wX_fillToBounds_8 P (nI (z * 2197)) n (nI 0) (cz_ba (cz_zs (z * 2197) 0 (cz_H b) B)) b :=
    cz_lt (W := fun n i => wX_fillToBounds_8 P (nI (z * 2197)) n (nI i) (cz_ba (cz_zs (z * 2197) i (cz_H b) B)) b) 2197
      (fun n => br_t cz_ex1 h)
      (fun n i hi K => br_f (cz_in1 hi) (cx_kb hi (cz_zb (z * 2197) i (nI_add _ _) (by omega) (by decide) (cz_nb _) (nm_r (nI_1 i) K))))
  rw [cz_zs_0] at H
  exact H
theorem cx_hull {P : SX → Prop} {B : Nat → Bool} {b : Nat → Int32} {y z : Nat} (hy : y < 3) (hz : z < 3) (h : ∀ b', P (cz_ba (cz_zs (y * 2197) 2197 (cz_H (cz_G (-13) (cz_J B y z))) B), b')) :
    wpX_join (fun u => wpX_measure (fun u => wpX_fillToBounds P u (nI y)) u (nI y)) (cz_ba B, b) (nI y) (nI z) := by
  refine cx_join hy hz (cx_meas hy (cx_ftb hy ?_))
  have e : cz_zs (y * 2197) 2197 (cz_H (cz_bd (cz_G (-13) (cz_C (cz_zs (y * 2197) 2197 (cz_J B y z) B) y)) b 16)) (cz_zs (y * 2197) 2197 (cz_J B y z) B) = cz_zs (y * 2197) 2197 (cz_H (cz_G (-13) (cz_J B y z))) B := by
    rw [cz_zs_z]
    refine cz_zs_c B (fun n hn => cz_al_c (fun k hk => ?_))
    unfold cz_Hg
    have e1 : cz_bd (cz_G (-13) (cz_C (cz_zs (y * 2197) 2197 (cz_J B y z) B) y)) b 16 k = cz_G (-13) (cz_J B y z) k := by
      unfold cz_bd
      rw [if_pos hk]
      exact cz_grc (fun t ht => cz_zs_in _ _ ht)
    rw [e1]
  rw [e]
  exact h _
end
section
-- hull: the reference's side
theorem cy_drop {P : SY → Prop} {B : Nat → Bool} {b : Nat → Int32} {z i j : Nat} {c : Int32} (hz : z < 3) (hi : i ≤ 3) (hj : j ≤ 3) (h : P (cz_ba (cz_zs (z * 2197) 2197 (cz_K B (z * 2197) i j c) B), b)) : wpY_drop P (cz_ba B, b) (nI z) (nI i) (nI j) c := by
  unfold wpY_drop
  have H : ∃ n, wY_drop_3 P (nI z) (nI i) (nI j) c n (nI 0) (cz_ba (cz_zs (z * 2197) 0 (cz_K B (z * 2197) i j c) B)) b :=
    cz_lt (W := fun n t => wY_drop_3 P (nI z) (nI i) (nI j) c n (nI t) (cz_ba (cz_zs (z * 2197) t (cz_K B (z * 2197) i j c) B)) b) 2197
      (fun n => br_t cz_ex1 h)
      (fun n t ht K => br_f (cz_in1 ht) (cy_val ht hi (cy_val ht hj (by
        by_cases hd : cz_df t i j ≤ c
        · refine br_t hd (nm_r (nI_1 t) ?_)
          have e : B (z * 2197 + t) = cz_K B (z * 2197) i j c t := by
            show _ = (B (z * 2197 + t) && decide (cz_df t i j ≤ c))
            rw [decide_eq_true hd, Bool.and_true]
          rw [cz_zs_k e] at K
          exact K
        · refine br_f hd (cz_z0 (z * 2197) t (cz_ix z t) (by omega) (by decide) ?_ (nm_r (nI_1 t) K))
          show (B (z * 2197 + t) && decide (cz_df t i j ≤ c)) = false
          rw [decide_eq_false hd, Bool.and_false]))))
  rw [cz_zs_0] at H
  exact H
def cz_Y (G : Nat → Int32) (k : Nat) : Nat → Bool := fun n => cz_al (cz_Hg G n) k
theorem cy_h104 {P : Int32 → SY → Prop} {B M S : Nat → Bool} {z : Nat} (hz : z < 3) (hM : ∀ n, n < 2197 → M n = S n)
    (h : P (cz_bi (cz_an (cz_H (cz_G (-100) S)) 2197)) (cz_ba (cz_zs (z * 2197) 2197 (cz_H (cz_G (-100) S)) B), cz_ba M)) :
    ∃ n, wY_hull_104 P (nI z) n 0 (cz_ba (cz_zs (z * 2197) 2197 cz_T B)) (cz_ba M) := by
  exact cz_lt (W := fun n k => wY_hull_104 P (nI z) n (nI k) (cz_ba (cz_zs (z * 2197) 2197 (cz_Y (cz_G (-100) S) k) B)) (cz_ba M)) 16
    (fun n => br_t (nI_le (a := 16) (Nat.le_refl _) (by decide)) (cy_somez hz h))
    (fun n k hk K => br_f (nI_ge (b := 16) hk (by decide)) ⟨by decide, nm_r (pk_div (d := 4) (by omega) (by decide) (by decide)) ⟨by decide, nm_r (pk_rem (d := 4) (by omega) (by decide) (by decide))
      (cy_gr (by omega) (by omega) (cy_drop hz (by omega) (by omega) (by
        rw [cz_grc hM]
        have e : cz_zs (z * 2197) 2197 (cz_K (cz_zs (z * 2197) 2197 (cz_Y (cz_G (-100) S) k) B) (z * 2197) (k / 4) (k % 4) (cz_gr (-100) S (k / 4) (k % 4) 2197)) (cz_zs (z * 2197) 2197 (cz_Y (cz_G (-100) S) k) B)
            = cz_zs (z * 2197) 2197 (cz_Y (cz_G (-100) S) (k + 1)) B := by
          rw [cz_zs_z]
          refine cz_zs_c B (fun n hn => ?_)
          show (cz_zs (z * 2197) 2197 (cz_Y (cz_G (-100) S) k) B (z * 2197 + n) && _) = _
          rw [cz_zs_in _ _ hn]
          rfl
        rw [e]
        exact nm_r (nI_1 k) K)))⟩⟩)
theorem cy_h76 {P : Int32 → SY → Prop} {B M : Nat → Bool} {z : Nat} (hz : z < 3) (h : ∃ n, wY_hull_104 P (nI z) n 0 (cz_ba (cz_zs (z * 2197) 2197 cz_T B)) (cz_ba M)) : ∃ n, wY_hull_76 P (nI z) n 0 (cz_ba B) (cz_ba M) := by
  have H : ∃ n, wY_hull_76 P (nI z) n (nI 0) (cz_ba (cz_zs (z * 2197) 0 cz_T B)) (cz_ba M) :=
    cz_lt (W := fun n i => wY_hull_76 P (nI z) n (nI i) (cz_ba (cz_zs (z * 2197) i cz_T B)) (cz_ba M)) 2197
      (fun n => br_t cz_ex1 h)
      (fun n i hi K => br_f (cz_in1 hi) (cz_z1 (z * 2197) i (cz_ix z i) (by omega) (by decide) rfl (nm_r (nI_1 i) K)))
  rw [cz_zs_0] at H
  exact H
theorem cy_hull {P : Int32 → SY → Prop} {B M : Nat → Bool} {y z : Nat} (hy : y < 3) (hz : z < 3)
    (h : ∀ M' : Nat → Bool, P (cz_bi (cz_an (cz_H (cz_G (-100) (cz_J B y z))) 2197)) (cz_ba (cz_zs (y * 2197) 2197 (cz_H (cz_G (-100) (cz_J B y z))) B), cz_ba M')) :
    ∃ n, wY_hull_20 P (nI y) (nI z) n 0 (cz_ba B) (cz_ba M) := by
  have H : ∃ n, wY_hull_20 P (nI y) (nI z) n (nI 0) (cz_ba B) (cz_ba (cz_zs 0 0 (cz_J B y z) M)) :=
    cz_lt (W := fun n i => wY_hull_20 P (nI y) (nI z) n (nI i) (cz_ba B) (cz_ba (cz_zs 0 i (cz_J B y z) M))) 2197
      (fun n => br_t cz_ex1 (cy_h76 hy (cy_h104 hy (S := cz_J B y z) (fun n hn => cz_m0 hn) (h _))))
      (fun n i hi K => br_f (cz_in1 hi) ⟨cz_in (y * 2197 + i) (cz_ix y i) (by omega) (by decide),
        cz_br (B (y * 2197 + i)) (cz_rdb _ (cz_ix y i) (by omega))
          (fun h0 => ⟨cz_in (z * 2197 + i) (cz_ix z i) (by omega) (by decide),
            cz_br (B (z * 2197 + i)) (cz_rdb _ (cz_ix z i) (by omega))
              (fun h1 => cz_w0 hi (cz_J2 h0 h1) (nm_r (nI_1 i) K))
              (fun h1 => cz_w1 hi (cz_J1 h1) (nm_r (nI_1 i) K))⟩)
          (fun h0 => cz_w1 hi (cz_J0 h0) (nm_r (nI_1 i) K))⟩)
  rw [cz_zs_0] at H
  exact H
theorem cz_hxy (S : Nat → Bool) {n : Nat} (hn : n < 2197) : cz_H (cz_G (-13) S) n = cz_H (cz_G (-100) S) n := by
  refine cz_al_c (fun k hk => ?_)
  unfold cz_Hg cz_G
  have hd := cz_df_b hn (k / 4) (k % 4)
  rcases cz_grb S (k / 4) (k % 4) 2197 (Nat.le_refl _) with ⟨e1, e2⟩ | ⟨e1, e2⟩
  · rw [e1, e2]
    have a1 : ¬ cz_df n (k / 4) (k % 4) ≤ -13 := by
      rw [Int32.le_iff_toInt_le, show (-13 : Int32).toInt = -13 from rfl]; omega
    have a2 : ¬ cz_df n (k / 4) (k % 4) ≤ -100 := by
      rw [Int32.le_iff_toInt_le, show (-100 : Int32).toInt = -100 from rfl]; omega
    rw [decide_eq_false a1, decide_eq_false a2]
  · rw [e1]
theorem i_vc_hull {k : Nat} {u : SX} {v : SY} (I : i_Rel k u v) (hk : k + 5 ≤ 2560) (v1 : Int32) (v2 : Int32) : wpX_hull (fun r u' => wpY_hull (fun r' v' => r' = r ∧ i_Rel (k + 5) u' v') v v1 v2) u v1 v2 := by
  obtain ⟨B, M, b, rfl, rfl⟩ := I
  unfold wpX_hull wpY_hull
  dsimp only
  rcases cz_zone v1 with ⟨hx, hy⟩ | ⟨y, hz, rfl, hx, hy⟩
  · exact hx _ (br_t rfl (hy _ _ _ (br_f cz_10 ⟨rfl, cz_re _ B M b⟩)))
  rcases cz_zone v2 with ⟨gx, gy⟩ | ⟨z, gz, rfl, gx, gy⟩
  · exact hx _ (br_f cz_10 (gx _ (br_t rfl (hy _ _ _ (br_t rfl (gy _ _ _ (br_f cz_10 ⟨rfl, cz_re _ B M b⟩)))))))
  have e : ∀ n, n < 2197 → cz_H (cz_G (-13) (cz_J B y z)) n = cz_H (cz_G (-100) (cz_J B y z)) n := fun n hn => cz_hxy _ hn
  refine hx _ (br_f cz_10 (gx _ (br_f cz_10 (cx_hull hz gz (fun b' => ?_)))))
  rw [cz_zs_c B e]
  exact cx_anyz hz (hy _ _ _ (br_t rfl (gy _ _ _ (br_t rfl (cy_hull hz gz (fun M' => ⟨rfl, cz_re _ _ M' b'⟩))))))
end
section
-- the constructors
theorem cx_init {P : SX → Prop} (h : P (cz_ba (fun j => decide (j < 6591)), fun _ => 0)) : wpX_init P := by
  unfold wpX_init
  have H : ∃ n, wX_init_23 P n (nI 0) (cz_ba (fun j => decide (j < 0 * 2197))) (fun _ => 0) :=
    cz_lt (W := fun n i => wX_init_23 P n (nI i) (cz_ba (fun j => decide (j < i * 2197))) (fun _ => 0)) 3
      (fun n => br_t (nI_le (a := 3) (Nat.le_refl _) (by decide)) h)
      (fun n i hi K => br_f (nI_ge (b := 3) hi (by decide)) (cx_fill hi (by
        have e : cz_zs (i * 2197) 2197 cz_T (fun j => decide (j < i * 2197)) = fun j => decide (j < (i + 1) * 2197) := by
          funext j
          unfold cz_zs cz_T
          by_cases c : i * 2197 ≤ j ∧ j < i * 2197 + 2197
          · rw [if_pos c, decide_eq_true (by omega)]
          · rw [if_neg c]
            show decide (j < i * 2197) = decide (j < (i + 1) * 2197)
            by_cases d : j < i * 2197
            · rw [decide_eq_true d, decide_eq_true (by omega)]
            · rw [decide_eq_false d, decide_eq_false (by omega)]
        rw [e]
        exact nm_r (nI_1 i) K)))
  have e0 : cz_ba (fun j => decide (j < 0 * 2197)) = fun _ => 0 := by
    funext j
    show cz_bi (decide (j < 0 * 2197)) = 0
    rw [decide_eq_false (by omega)]
    rfl
  rw [e0] at H
  exact H
theorem cy_init {P : SY → Prop} (h : P (cz_ba (fun j => decide (j < 6591)), cz_ba (fun _ => false))) : wpY_init P := by
  unfold wpY_init
  have H : ∃ n, wY_init_24 P n (nI 0) (cz_ba (fun j => decide (j < 0))) (cz_ba (fun _ => false)) :=
    cz_lt (W := fun n i => wY_init_24 P n (nI i) (cz_ba (fun j => decide (j < i))) (cz_ba (fun _ => false))) 6591
      (fun n => br_t (nI_le (a := 6591) (Nat.le_refl _) (by decide)) h)
      (fun n i hi K => br_f (nI_ge (b := 6591) hi (by decide)) (cz_st i true rfl hi (by decide) rfl (fun m => by
        by_cases c : m = i
        · rw [if_pos c, decide_eq_true (by omega)]
        · rw [if_neg c]
          by_cases d : m < i
          · rw [decide_eq_true d, decide_eq_true (by omega)]
          · rw [decide_eq_false d, decide_eq_false (by omega)]) (nm_r (nI_1 i) K)))
  have e0 : cz_ba (fun j => decide (j < 0)) = fun _ => 0 := by
    funext j
    show cz_bi (decide (j < 0)) = 0
    rw [decide_eq_false (by omega)]
    rfl
  rw [e0] at H
  exact H
theorem i_vc0 : wpX_init (fun u => wpY_init (fun v => i_Rel 0 u v)) := cx_init (cy_init (cz_re _ _ _ _))
end
