theorem cz_rd1 (n : Nat) : cz_rd n 1 = n / 169 := rfl
theorem cz_rd2 (n : Nat) : cz_rd n 2 = n / 13 % 13 := rfl
theorem cz_rd3 (n : Nat) : cz_rd n 3 = n % 13 := rfl
theorem cz_sum (n : Nat) : n = 169 * cz_rd n 1 + 13 * cz_rd n 2 + cz_rd n 3 := by
  rw [cz_rd1, cz_rd2, cz_rd3]
  have e : n / 169 = n / 13 / 13 := (Nat.div_div_eq_div_mul n 13 13).symm
  omega
theorem cz_dig {a b c : Nat} (hb : b < 13) (hc : c < 13) : cz_rd (169 * a + 13 * b + c) 1 = a ∧ cz_rd (169 * a + 13 * b + c) 2 = b ∧ cz_rd (169 * a + 13 * b + c) 3 = c := by
  rw [cz_rd1, cz_rd2, cz_rd3]
  refine ⟨by omega, by omega, by omega⟩
-- time passes
def cz_Pg (B : Nat → Bool) (o n : Nat) : Nat → Bool := fun d => decide (d ≤ cz_rd n 1 ∧ d ≤ cz_rd n 2 ∧ d ≤ cz_rd n 3) && B (o + (n - 183 * d))
def cz_P (B : Nat → Bool) (o : Nat) : Nat → Bool := fun n => cz_an (cz_Pg B o n) 13
theorem cz_Pg_t {B : Nat → Bool} {o n d : Nat} (h : cz_Pg B o n d = true) : (d ≤ cz_rd n 1 ∧ d ≤ cz_rd n 2 ∧ d ≤ cz_rd n 3) ∧ B (o + (n - 183 * d)) = true := by
  have h' := (Bool.and_eq_true _ _).mp h
  exact ⟨of_decide_eq_true h'.1, h'.2⟩
theorem cz_Pg_i {B : Nat → Bool} {o n d : Nat} (h : d ≤ cz_rd n 1 ∧ d ≤ cz_rd n 2 ∧ d ≤ cz_rd n 3) : cz_Pg B o n d = B (o + (n - 183 * d)) := by
  show (decide _ && _) = _
  rw [decide_eq_true h, Bool.true_and]
theorem cz_Pg_f {B : Nat → Bool} {o n d : Nat} (h : ¬ (d ≤ cz_rd n 1 ∧ d ≤ cz_rd n 2 ∧ d ≤ cz_rd n 3)) : cz_Pg B o n d = false := by
  show (decide _ && _) = _
  rw [decide_eq_false h, Bool.false_and]
theorem cz_P0 {B : Nat → Bool} {o n : Nat} (h : cz_rd n 1 = 0 ∨ cz_rd n 2 = 0 ∨ cz_rd n 3 = 0) : B (o + n) = cz_P B o n := by
  have e0 : cz_Pg B o n 0 = B (o + n) := cz_Pg_i (by omega)
  cases hb : B (o + n) with
  | true => exact (cz_an_t (t := 0) (by decide) (by rw [e0, hb])).symm
  | false =>
    refine (cz_an_f (fun t ht => ?_)).symm
    by_cases h0 : t = 0
    · rw [h0, e0, hb]
    · exact cz_Pg_f (by omega)
theorem cz_P1 {B : Nat → Bool} {o n : Nat} (hn : n < 2197) (h : cz_rd n 1 ≠ 0 ∧ cz_rd n 2 ≠ 0 ∧ cz_rd n 3 ≠ 0) : 183 ≤ n ∧ cz_P B o n = (B (o + n) || cz_P B o (n - 183)) := by
  have s := cz_sum n
  have l1 := cz_rd_le hn 1
  have l2 := cz_rd_le hn 2
  have l3 := cz_rd_le hn 3
  have e0 : cz_Pg B o n 0 = B (o + n) := cz_Pg_i (by omega)
  have hs : n - 183 = 169 * (cz_rd n 1 - 1) + 13 * (cz_rd n 2 - 1) + (cz_rd n 3 - 1) := by omega
  have dg := cz_dig (a := cz_rd n 1 - 1) (b := cz_rd n 2 - 1) (c := cz_rd n 3 - 1) (by omega) (by omega)
  rw [← hs] at dg
  obtain ⟨d1, d2, d3⟩ := dg
  refine ⟨by omega, ?_⟩
  cases hb : B (o + n) with
  | true => rw [Bool.true_or]; exact cz_an_t (t := 0) (by decide) (by rw [e0, hb])
  | false =>
    rw [Bool.false_or]
    cases hp : cz_P B o (n - 183) with
    | true =>
      obtain ⟨t, ht, e⟩ := cz_an_x hp
      obtain ⟨c, e⟩ := cz_Pg_t e
      have hc : t + 1 ≤ cz_rd n 1 ∧ t + 1 ≤ cz_rd n 2 ∧ t + 1 ≤ cz_rd n 3 := by omega
      refine cz_an_t (t := t + 1) (by omega) ?_
      rw [cz_Pg_i hc, ← e]
      congr 1
      omega
    | false =>
      refine cz_an_f (fun t ht => ?_)
      by_cases h0 : t = 0
      · rw [h0, e0, hb]
      · by_cases hc : t ≤ cz_rd n 1 ∧ t ≤ cz_rd n 2 ∧ t ≤ cz_rd n 3
        · cases hg : cz_Pg B o n t with
          | false => rfl
          | true =>
            exfalso
            rw [cz_Pg_i hc] at hg
            have hx : cz_P B o (n - 183) = true := by
              refine cz_an_t (t := t - 1) (by omega) ?_
              rw [cz_Pg_i (by omega), ← hg]
              congr 1
              omega
            rw [hp] at hx
            exact absurd hx (by decide)
        · exact cz_Pg_f hc
theorem cx_ncr {P : Int32 → Prop} {n m : Nat} (hn : n < 2197) (hm : m ≤ 12) (h1 : cz_rd n 1 ≠ m ∧ cz_rd n 2 ≠ m ∧ cz_rd n 3 ≠ m → P 1) (h0 : cz_rd n 1 = m ∨ cz_rd n 2 = m ∨ cz_rd n 3 = m → P 0) : wpX_noClockReads P (nI n) (nI m) := by
  have l1 := cz_rd_le hn 1
  have l2 := cz_rd_le hn 2
  have l3 := cz_rd_le hn 3
  unfold wpX_noClockReads
  refine cx_read (k := 1) hn (by decide) ?_
  by_cases a1 : cz_rd n 1 = m
  · exact br_t (by rw [a1]) (h0 (Or.inl a1))
  refine br_f (fun e => a1 ((nI_eq (by omega) (by omega)).mp e)) ?_
  refine cx_read (k := 2) hn (by decide) ?_
  by_cases a2 : cz_rd n 2 = m
  · exact br_t (by rw [a2]) (h0 (Or.inr (Or.inl a2)))
  refine br_f (fun e => a2 ((nI_eq (by omega) (by omega)).mp e)) ?_
  refine cx_read (k := 3) hn (by decide) ?_
  by_cases a3 : cz_rd n 3 = m
  · exact br_t (by rw [a3]) (h0 (Or.inr (Or.inr a3)))
  exact br_f (fun e => a3 ((nI_eq (by omega) (by omega)).mp e)) (h1 ⟨a1, a2, a3⟩)
theorem cz_zs_e {o i : Nat} {f B : Nat → Bool} (h : ∀ n, n < i → B (o + n) = f n) : cz_zs o i f B = B := by
  funext m
  unfold cz_zs
  by_cases hm : o ≤ m ∧ m < o + i
  · rw [if_pos hm, ← h (m - o) (by omega)]
    congr 1
    omega
  · rw [if_neg hm]
theorem cx_pass {P : Int32 → SX → Prop} {B : Nat → Bool} {b : Nat → Int32} {z : Nat} (hz : z < 3) (h : P (cz_bi (cz_an (cz_P B (z * 2197)) 2197)) (cz_ba (cz_zs (z * 2197) 2197 (cz_P B (z * 2197)) B), b)) : ∃ n, wX_pass_19 P (nI z) (nI (z * 2197)) n 183 (cz_ba B) b := by
  have H : ∃ n, wX_pass_19 P (nI z) (nI (z * 2197)) n (nI 183) (cz_ba (cz_zs (z * 2197) 183 (cz_P B (z * 2197)) B)) b :=
    cz_lo (W := fun n i => wX_pass_19 P (nI z) (nI (z * 2197)) n (nI i) (cz_ba (cz_zs (z * 2197) i (cz_P B (z * 2197)) B)) b) (fun i => 183 ≤ i) 2197 183 (by decide) (Nat.le_refl _)
      (fun _ n => br_t cz_ex1 (cx_anyz hz h))
      (fun n i hi h183 K => by
        have ei : nI (z * 2197) + nI i - 183 = nI (z * 2197 + (i - 183)) := by
          rw [nI_add, show (183 : Int32) = nI 183 from rfl, pk_sub (by omega)]
          congr 1
          omega
        have er : cz_ba (cz_zs (z * 2197) i (cz_P B (z * 2197)) B) (nI (z * 2197) + nI i - 183).toNatClampNeg = cz_bi (cz_P B (z * 2197) (i - 183)) := by
          rw [cz_rdb _ ei (by omega), cz_zs_in _ _ (by omega)]
        have K := K (by omega)
        have same : B (z * 2197 + i) = cz_P B (z * 2197) i → wX_pass_19 P (nI z) (nI (z * 2197)) n (nI (i + 1)) (cz_ba (cz_zs (z * 2197) i (cz_P B (z * 2197)) B)) b := fun e => by
          rw [cz_zs_k e] at K
          exact K
        refine br_f (cz_in1 hi) ⟨cz_in _ ei (by omega) (by decide), cz_br _ er (fun f => ?_) (fun f => ?_)⟩
        · refine nm_r (nI_1 i) (same ?_)
          by_cases hc : cz_rd i 1 ≠ 0 ∧ cz_rd i 2 ≠ 0 ∧ cz_rd i 3 ≠ 0
          · rw [(cz_P1 hi hc).2, f, Bool.or_false]
          · exact cz_P0 (by omega)
        · refine cx_ncr (m := 0) hi (by decide) (fun hc => ?_) (fun hc => ?_)
          · exact br_f cz_10 (cz_z1 (z * 2197) i (nI_add _ _) (by omega) (by decide) (by rw [(cz_P1 hi hc).2, f, Bool.or_true]) (nm_r (nI_1 i) K))
          · exact br_t rfl (nm_r (nI_1 i) (same (cz_P0 hc))))
  rw [cz_zs_e] at H
  · exact H
  · intro n hn
    refine cz_P0 ?_
    rw [cz_rd1, cz_rd2, cz_rd3]
    omega
-- the reference's shifts
theorem cy_tree {A C : Prop} {x y w : Int32} (g : (¬ x < 0 ∧ ¬ 12 < x) ∧ (¬ y < 0 ∧ ¬ 12 < y) ∧ (¬ w < 0 ∧ ¬ 12 < w) → C) (f : ¬ ((¬ x < 0 ∧ ¬ 12 < x) ∧ (¬ y < 0 ∧ ¬ 12 < y) ∧ (¬ w < 0 ∧ ¬ 12 < w)) → A) :
    (x < 0 → A) ∧ (¬ x < 0 → ((12 < x → A) ∧ (¬ 12 < x → ((y < 0 → A) ∧ (¬ y < 0 → ((12 < y → A) ∧ (¬ 12 < y → ((w < 0 → A) ∧ (¬ w < 0 → ((12 < w → A) ∧ (¬ 12 < w → C))))))))))) :=
  ⟨fun h => f (fun q => q.1.1 h), fun h1 => ⟨fun h => f (fun q => q.1.2 h), fun h2 => ⟨fun h => f (fun q => q.2.1.1 h), fun h3 => ⟨fun h => f (fun q => q.2.1.2 h), fun h4 =>
    ⟨fun h => f (fun q => q.2.2.1 h), fun h5 => ⟨fun h => f (fun q => q.2.2.2 h), fun h6 => g ⟨⟨h1, h2⟩, ⟨h3, h4⟩, ⟨h5, h6⟩⟩⟩⟩⟩⟩⟩⟩
theorem cz_okD {a d : Nat} (ha : a ≤ 12) (hd : d ≤ 12) : (¬ nI a + nI d * (-1) < 0 ∧ ¬ 12 < nI a + nI d * (-1)) ↔ d ≤ a := by
  have e : nI a + nI d * (-1) = nI a - nI d := by grind
  rw [e, Int32.lt_iff_toInt_lt, Int32.lt_iff_toInt_lt, pk_sub_toInt (by omega) (by omega), show (0 : Int32).toInt = 0 from rfl, show (12 : Int32).toInt = 12 from rfl]
  omega
theorem cz_okU {a d : Nat} (ha : a ≤ 12) (hd : d ≤ 12) : (¬ nI a + nI d * 1 < 0 ∧ ¬ 12 < nI a + nI d * 1) ↔ a + d ≤ 12 := by
  have e : nI a + nI d * 1 = nI (a + d) := by rw [Int32.mul_one, nI_add]
  rw [e, Int32.lt_iff_toInt_lt, Int32.lt_iff_toInt_lt, nI_toInt (by omega), show (0 : Int32).toInt = 0 from rfl, show (12 : Int32).toInt = 12 from rfl]
  omega
theorem cz_ixD {z p d : Nat} (h : 183 * d ≤ p) : nI z * 2197 + nI p + 183 * (nI d * (-1)) = nI (z * 2197 + (p - 183 * d)) := by
  obtain ⟨q, rfl⟩ : ∃ q, p = q + 183 * d := ⟨p - 183 * d, by omega⟩
  rw [Nat.add_sub_cancel, ← cz_ix, ← nI_add, ← pk_mul, show nI 183 = 183 from rfl]
  grind
theorem cz_ixU {z p d : Nat} : nI z * 2197 + nI p + 183 * (nI d * 1) = nI (z * 2197 + (p + 183 * d)) := by
  rw [← cz_ix, ← nI_add, ← pk_mul, show nI 183 = 183 from rfl]
  grind
theorem cy_sh1 {P : Int32 → Prop} {B : Nat → Bool} {b : Nat → Int32} {z p : Nat} (hz : z < 3) (hp : p < 2197) (h : P (cz_bi (cz_P B (z * 2197) p))) : wpY_shifted P (cz_ba B, b) (nI z) (nI p) (-1) := by
  have l1 := cz_rd_le hp 1
  have l2 := cz_rd_le hp 2
  have l3 := cz_rd_le hp 3
  have s := cz_sum p
  unfold wpY_shifted
  refine cy_val (k := 1) hp (by decide) (cy_val (k := 2) hp (by decide) (cy_val (k := 3) hp (by decide) ?_))
  exact cz_lo (W := fun n d => wY_shifted_27 P (nI z) (nI p) (-1) (nI (cz_rd p 1)) (nI (cz_rd p 2)) (nI (cz_rd p 3)) (cz_ba B) b n (nI d)) (fun d => ∀ t, t < d → cz_Pg B (z * 2197) p t = false) 13 0 (by decide) (fun t ht => by omega)
    (fun H n => br_t (nI_lt (a := 12) (by decide) (by decide)) (by unfold cz_P at h; rw [cz_an_f H] at h; exact h))
    (fun n d hd H K => br_f (nI_nlt (a := 12) (by omega) (by decide)) (nm_e (cy_tree
      (fun q => by
        rw [cz_okD l1 (by omega), cz_okD l2 (by omega), cz_okD l3 (by omega)] at q
        refine br_f cz_10 ⟨cz_in _ (cz_ixD (by omega)) (by omega) (by decide), cz_br _ (cz_rdb _ (cz_ixD (by omega)) (by omega)) (fun f => ?_) (fun f => ?_)⟩
        · exact nm_r (nI_1 d) (K (lt_s H (by rw [cz_Pg_i q]; exact f)))
        · unfold cz_P at h
          rw [cz_an_t (t := d) hd (by rw [cz_Pg_i q]; exact f)] at h
          exact h)
      (fun q => by
        rw [cz_okD l1 (by omega), cz_okD l2 (by omega), cz_okD l3 (by omega)] at q
        exact br_t rfl (nm_r (nI_1 d) (K (lt_s H (cz_Pg_f q))))))))
theorem cy_pass {P : Int32 → SY → Prop} {B M : Nat → Bool} {z : Nat} (hz : z < 3) (h : ∀ M' : Nat → Bool, P (cz_bi (cz_an (cz_P B (z * 2197)) 2197)) (cz_ba (cz_zs (z * 2197) 2197 (cz_P B (z * 2197)) B), cz_ba M')) : ∃ n, wY_pass_12 P (nI z) n 0 (cz_ba B) (cz_ba M) := by
  have H : ∃ n, wY_pass_12 P (nI z) n (nI 0) (cz_ba B) (cz_ba (cz_zs 0 0 (cz_P B (z * 2197)) M)) :=
    cz_lt (W := fun n i => wY_pass_12 P (nI z) n (nI i) (cz_ba B) (cz_ba (cz_zs 0 i (cz_P B (z * 2197)) M))) 2197
      (fun n => br_t cz_ex1 (cy_storez hz h))
      (fun n i hi K => br_f (cz_in1 hi) (cy_sh1 hz hi (cz_wb hi (cz_nb _) (nm_r (nI_1 i) K))))
  rw [cz_zs_0] at H
  exact H
theorem i_vc_pass {k : Nat} {u : SX} {v : SY} (I : i_Rel k u v) (hk : k + 5 ≤ 2560) (v1 : Int32) : wpX_pass (fun r u' => wpY_pass (fun r' v' => r' = r ∧ i_Rel (k + 5) u' v') v v1) u v1 := by
  obtain ⟨B, M, b, rfl, rfl⟩ := I
  unfold wpX_pass wpY_pass
  dsimp only
  rcases cz_zone v1 with ⟨hx, hy⟩ | ⟨z, hz, rfl, hx, hy⟩
  · exact hx _ (br_t rfl (hy _ _ _ (br_f cz_10 ⟨rfl, cz_re _ B M b⟩)))
  · exact hx _ (br_f cz_10 (nm_r (cz_m z) (cx_pass hz (hy _ _ _ (br_t rfl (cy_pass hz (fun M' => ⟨rfl, cz_re _ _ M' b⟩)))))))
