theorem cz_an_c {g h : Nat → Bool} {n : Nat} (e : ∀ t, t < n → g t = h t) : cz_an g n = cz_an h n := by
  induction n with
  | zero => rfl
  | succ n ih =>
    show (cz_an g n || g n) = (cz_an h n || h n)
    rw [ih (fun t ht => e t (by omega)), e n (by omega)]
-- arguments: both sides refuse, or both accept
theorem cz_zone (x : Int32) : ((∀ P : Int32 → Prop, P 0 → wpX_isZone P x) ∧ (∀ (P : Int32 → Prop) (a b : Nat → Int32), P 1 → wpY_badZone P (a, b) x)) ∨
    ∃ z, z < 3 ∧ x = nI z ∧ (∀ P : Int32 → Prop, P 1 → wpX_isZone P x) ∧ (∀ (P : Int32 → Prop) (a b : Nat → Int32), P 0 → wpY_badZone P (a, b) x) := by
  by_cases h0 : x < 0
  · exact Or.inl ⟨fun P p => br_t h0 p, fun P a b p => br_t h0 p⟩
  · obtain ⟨j, hj, rfl⟩ := nI_of h0
    by_cases h3 : j < 3
    · exact Or.inr ⟨j, h3, rfl, fun P p => br_f h0 (br_f (nI_ge (b := 3) h3 (by decide)) p), fun P a b p => br_f h0 (br_t (nI_le (b := 2) (by omega) (by decide)) p)⟩
    · exact Or.inl ⟨fun P p => br_f h0 (br_t (nI_le (a := 3) (by omega) hj) p), fun P a b p => br_f h0 (br_f (nI_ge (a := 2) (by omega) hj) p)⟩
theorem cz_clock (x : Int32) : ((∀ P : Int32 → Prop, P 0 → wpX_isClock P x) ∧ (∀ (P : Int32 → Prop) (a b : Nat → Int32), P 1 → wpY_badClock P (a, b) x)) ∨
    ∃ k, 1 ≤ k ∧ k ≤ 3 ∧ x = nI k ∧ (∀ P : Int32 → Prop, P 1 → wpX_isClock P x) ∧ (∀ (P : Int32 → Prop) (a b : Nat → Int32), P 0 → wpY_badClock P (a, b) x) := by
  by_cases h0 : x < 1
  · exact Or.inl ⟨fun P p => br_t h0 p, fun P a b p => br_t h0 p⟩
  · have h00 : ¬ x < 0 := fun h => h0 (Int32.lt_trans h (by decide))
    obtain ⟨j, hj, rfl⟩ := nI_of h00
    have h1 : 1 ≤ j := by
      rcases Nat.lt_or_ge j 1 with h | h
      · exact absurd (nI_lt (b := 1) h (by decide)) h0
      · exact h
    by_cases h3 : j ≤ 3
    · exact Or.inr ⟨j, h1, h3, rfl, fun P p => br_f h0 (br_f (nI_nlt (a := 3) h3 (by decide)) p), fun P a b p => br_f h0 (br_t (nI_le (b := 3) (by omega) (by decide)) p)⟩
    · exact Or.inl ⟨fun P p => br_f h0 (br_t (nI_lt (a := 3) (by omega) hj) p), fun P a b p => br_f h0 (br_f (nI_ge (a := 3) (by omega) hj) p)⟩
theorem cz_pair (x y : Int32) : ((∀ P : Int32 → Prop, P 0 → wpX_isPair P x y) ∧ (∀ (P : Int32 → Prop) (a b : Nat → Int32), P 1 → wpY_badPair P (a, b) x y)) ∨
    ∃ i j, i ≤ 3 ∧ j ≤ 3 ∧ i ≠ j ∧ x = nI i ∧ y = nI j ∧ (∀ P : Int32 → Prop, P 1 → wpX_isPair P x y) ∧ (∀ (P : Int32 → Prop) (a b : Nat → Int32), P 0 → wpY_badPair P (a, b) x y) := by
  by_cases h1 : x < 0
  · exact Or.inl ⟨fun P p => br_t h1 p, fun P a b p => br_t h1 p⟩
  by_cases h2 : 3 < x
  · exact Or.inl ⟨fun P p => br_f h1 (br_t h2 p), fun P a b p => br_f h1 (br_t h2 p)⟩
  by_cases h3 : y < 0
  · exact Or.inl ⟨fun P p => br_f h1 (br_f h2 (br_t h3 p)), fun P a b p => br_f h1 (br_f h2 (br_t h3 p))⟩
  by_cases h4 : 3 < y
  · exact Or.inl ⟨fun P p => br_f h1 (br_f h2 (br_f h3 (br_t h4 p))), fun P a b p => br_f h1 (br_f h2 (br_f h3 (br_t h4 p)))⟩
  by_cases h5 : x = y
  · exact Or.inl ⟨fun P p => br_f h1 (br_f h2 (br_f h3 (br_f h4 (br_t h5 p)))), fun P a b p => br_f h1 (br_f h2 (br_f h3 (br_f h4 (br_t h5 p))))⟩
  obtain ⟨i, hi, rfl⟩ := nI_of h1
  obtain ⟨j, hj, rfl⟩ := nI_of h3
  have e1 : i ≤ 3 := by
    rcases Nat.lt_or_ge 3 i with h | h
    · exact absurd (nI_lt (a := 3) h hi) h2
    · exact h
  have e2 : j ≤ 3 := by
    rcases Nat.lt_or_ge 3 j with h | h
    · exact absurd (nI_lt (a := 3) h hj) h4
    · exact h
  exact Or.inr ⟨i, j, e1, e2, fun e => h5 (by rw [e]), rfl, rfl, fun P p => br_f h1 (br_f h2 (br_f h3 (br_f h4 (br_f h5 p)))), fun P a b p => br_f h1 (br_f h2 (br_f h3 (br_f h4 (br_f h5 p))))⟩
theorem cz_num (x : Int32) : x < 0 ∨ (¬ x < 0 ∧ 12 < x ∧ ¬ x ≤ 12) ∨ ∃ m, m ≤ 12 ∧ x = nI m ∧ ¬ x < 0 ∧ ¬ 12 < x ∧ x ≤ 12 := by
  by_cases h0 : x < 0
  · exact Or.inl h0
  · obtain ⟨j, hj, rfl⟩ := nI_of h0
    by_cases h3 : j ≤ 12
    · exact Or.inr (Or.inr ⟨j, h3, rfl, h0, nI_nlt (a := 12) h3 (by decide), nI_le (b := 12) h3 (by decide)⟩)
    · exact Or.inr (Or.inl ⟨h0, nI_lt (a := 12) (by omega) hj, nI_ge (a := 12) (by omega) hj⟩)
-- what a clock reads
def cz_rd (n k : Nat) : Nat := if k = 1 then n / 169 else if k = 2 then n / 13 % 13 else if k = 3 then n % 13 else 0
theorem cz_rd_le {n : Nat} (hn : n < 2197) (k : Nat) : cz_rd n k ≤ 12 := by
  unfold cz_rd
  split
  · omega
  · split
    · omega
    · split <;> omega
theorem cz_d1 {n : Nat} (hn : n < 2197) : nI n / 169 = nI (n / 169) := pk_div (d := 169) (by omega) (by decide) (by decide)
theorem cz_d3 {n : Nat} (hn : n < 2197) : nI n - nI n / 13 * 13 = nI (n % 13) := pk_rem (d := 13) (by omega) (by decide) (by decide)
theorem cz_d2 {n : Nat} (hn : n < 2197) : nI n / 13 - nI n / 13 / 13 * 13 = nI (n / 13 % 13) := by
  have e : nI n / 13 = nI (n / 13) := pk_div (d := 13) (by omega) (by decide) (by decide)
  rw [e]
  exact pk_rem (d := 13) (by omega) (by decide) (by decide)
theorem cx_read {P : Int32 → Prop} {n k : Nat} (hn : n < 2197) (hk : k ≤ 3) (h : P (nI (cz_rd n k))) : wpX_read P (nI n) (nI k) := by
  have hc : k = 0 ∨ k = 1 ∨ k = 2 ∨ k = 3 := by omega
  rcases hc with rfl | rfl | rfl | rfl
  · exact br_t (by decide) h
  · refine br_f (by decide) (br_f (by decide) (br_t rfl ⟨by decide, ?_⟩))
    rw [cz_d1 hn]; exact h
  · refine br_f (by decide) (br_f (by decide) (br_f (by decide) (br_t rfl ⟨by decide, by decide, ?_⟩)))
    rw [cz_d2 hn]; exact h
  · refine br_f (by decide) (br_f (by decide) (br_f (by decide) (br_f (by decide) (br_t rfl ⟨by decide, ?_⟩))))
    rw [cz_d3 hn]; exact h
theorem cy_val {P : Int32 → Prop} {a b : Nat → Int32} {n k : Nat} (hn : n < 2197) (hk : k ≤ 3) (h : P (nI (cz_rd n k))) : wpY_value P (a, b) (nI n) (nI k) := by
  have hc : k = 0 ∨ k = 1 ∨ k = 2 ∨ k = 3 := by omega
  rcases hc with rfl | rfl | rfl | rfl
  · exact br_t rfl h
  · refine br_f (by decide) (br_t rfl ⟨by decide, ?_⟩)
    rw [cz_d1 hn]; exact h
  · refine br_f (by decide) (br_f (by decide) (br_t rfl ⟨by decide, by decide, ?_⟩))
    rw [cz_d2 hn]; exact h
  · refine br_f (by decide) (br_f (by decide) (br_f (by decide) ⟨by decide, ?_⟩))
    rw [cz_d3 hn]; exact h
def cz_df (n i j : Nat) : Int32 := nI (cz_rd n i) - nI (cz_rd n j)
theorem cx_dif {P : Int32 → Prop} {n i j : Nat} (hn : n < 2197) (hi : i ≤ 3) (hj : j ≤ 3) (h : P (cz_df n i j)) : wpX_difference P (nI n) (nI i) (nI j) := by
  unfold wpX_difference
  exact cx_read hn hi (cx_read hn hj h)
theorem cz_df_t {n : Nat} (hn : n < 2197) (i j : Nat) : (cz_df n i j).toInt = (cz_rd n i : Int) - cz_rd n j := by
  have h1 := cz_rd_le hn i
  have h2 := cz_rd_le hn j
  exact pk_sub_toInt (by omega) (by omega)
-- is there a reading
theorem cx_any {P : Int32 → Prop} {B : Nat → Bool} {b : Nat → Int32} {z : Nat} (hz : z < 3) (h : P (cz_bi (cz_an (fun n => B (z * 2197 + n)) 2197))) : wpX_oneIfAny P (cz_ba B, b) (nI z) := by
  unfold wpX_oneIfAny
  refine nm_r (cz_m z) ?_
  exact cz_lo (W := fun n i => wX_oneIfAny_8 P (nI (z * 2197)) (cz_ba B) b n (nI i)) (fun i => ∀ t, t < i → B (z * 2197 + t) = false) 2197 0 (by omega) (fun t ht => by omega)
    (fun H n => br_t cz_ex1 (by rw [cz_an_f H] at h; exact h))
    (fun n i hi H K => br_f (cz_in1 hi) ⟨cz_in (z * 2197 + i) (nI_add _ _) (by omega) (by decide),
      cz_br (B (z * 2197 + i)) (cz_rdb _ (nI_add _ _) (by omega)) (fun f => nm_r (nI_1 i) (K (lt_s H f)))
        (fun t => by rw [cz_an_t (t := i) hi t] at h; exact h)⟩)
theorem cy_some {P : Int32 → Prop} {B : Nat → Bool} {b : Nat → Int32} {z : Nat} (hz : z < 3) (h : P (cz_bi (cz_an (fun n => B (z * 2197 + n)) 2197))) : wpY_some P (cz_ba B, b) (nI z) := by
  unfold wpY_some
  exact cz_lo (W := fun n i => wY_some_2 P (nI z) (cz_ba B) b n (nI i)) (fun i => ∀ t, t < i → B (z * 2197 + t) = false) 2197 0 (by omega) (fun t ht => by omega)
    (fun H n => br_t cz_ex1 (by rw [cz_an_f H] at h; exact h))
    (fun n i hi H K => br_f (cz_in1 hi) ⟨cz_in (z * 2197 + i) (cz_ix z i) (by omega) (by decide),
      cz_br (B (z * 2197 + i)) (cz_rdb _ (cz_ix z i) (by omega)) (fun f => nm_r (nI_1 i) (K (lt_s H f)))
        (fun t => by rw [cz_an_t (t := i) hi t] at h; exact h)⟩)
theorem cz_an_z (o : Nat) (f B : Nat → Bool) : cz_an (fun n => cz_zs o 2197 f B (o + n)) 2197 = cz_an f 2197 :=
  cz_an_c (fun t ht => cz_zs_in f B ht)
theorem cx_anyz {P : Int32 → Prop} {f B : Nat → Bool} {b : Nat → Int32} {z : Nat} (hz : z < 3) (h : P (cz_bi (cz_an f 2197))) : wpX_oneIfAny P (cz_ba (cz_zs (z * 2197) 2197 f B), b) (nI z) :=
  cx_any hz (by rw [cz_an_z]; exact h)
theorem cy_somez {P : Int32 → Prop} {f B : Nat → Bool} {b : Nat → Int32} {z : Nat} (hz : z < 3) (h : P (cz_bi (cz_an f 2197))) : wpY_some P (cz_ba (cz_zs (z * 2197) 2197 f B), b) (nI z) :=
  cy_some hz (by rw [cz_an_z]; exact h)
theorem cy_store {P : Int32 → SY → Prop} {B M : Nat → Bool} {z : Nat} (hz : z < 3) (h : P (cz_bi (cz_an M 2197)) (cz_ba (cz_zs (z * 2197) 2197 M B), cz_ba M)) : wpY_store P (cz_ba B, cz_ba M) (nI z) := by
  unfold wpY_store
  have H : ∃ n, wY_store_2 P (nI z) n (nI 0) (cz_ba (cz_zs (z * 2197) 0 M B)) (cz_ba M) :=
    cz_lt (W := fun n i => wY_store_2 P (nI z) n (nI i) (cz_ba (cz_zs (z * 2197) i M B)) (cz_ba M)) 2197
      (fun n => br_t cz_ex1 (cy_somez hz h))
      (fun n i hi K => br_f (cz_in1 hi) ⟨vp_in_nI hi (by decide),
        cz_st (z * 2197 + i) (M i) (cz_ix z i) (by omega) (by decide) (by rw [cz_rdb i rfl (by omega)]; exact cz_nb _) (cz_zs_s _ i M B) (nm_r (nI_1 i) K)⟩)
  rw [cz_zs_0] at H
  exact H
/-- the made places are the picture f: what is stored is f -/
theorem cy_storez {P : Int32 → SY → Prop} {f B M : Nat → Bool} {z : Nat} (hz : z < 3) (h : ∀ M' : Nat → Bool, P (cz_bi (cz_an f 2197)) (cz_ba (cz_zs (z * 2197) 2197 f B), cz_ba M')) : wpY_store P (cz_ba B, cz_ba (cz_zs 0 2197 f M)) (nI z) := by
  have e : ∀ n, n < 2197 → cz_zs 0 2197 f M n = f n := fun n hn => by
    have := cz_zs_in (o := 0) f M hn
    rwa [Nat.zero_add] at this
  refine cy_store hz ?_
  rw [cz_an_c e, cz_zs_c B e]
  exact h _
theorem cz_zs_s0 (i : Nat) (f B : Nat → Bool) (m : Nat) : cz_zs 0 (i + 1) f B m = if m = i then f i else cz_zs 0 i f B m := by
  rw [cz_zs_s, Nat.zero_add]
