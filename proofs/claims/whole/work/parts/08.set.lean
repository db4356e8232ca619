-- set
def cz_S (B : Nat → Bool) (o k m : Nat) : Nat → Bool := fun n => decide (cz_rd n k = m) && cz_L B o k n
theorem cz_neg {m : Nat} (hm : m ≤ 12) : (-nI m).toInt = -(m : Int) := by
  have e : -nI m = nI 0 - nI m := by rw [nI_0]; grind
  rw [e, pk_sub_toInt (by decide) (by omega)]
  omega
theorem cz_set1 {n k m : Nat} (hn : n < 2197) (hm : m ≤ 12) : (decide (cz_df n k 0 ≤ nI m) && decide (cz_df n 0 k ≤ -nI m)) = decide (cz_rd n k = m) := by
  have e0 : cz_rd n 0 = 0 := rfl
  have a : cz_df n k 0 ≤ nI m ↔ cz_rd n k ≤ m := by
    rw [Int32.le_iff_toInt_le, cz_df_t hn, nI_toInt (by omega), e0]
    omega
  have c : cz_df n 0 k ≤ -nI m ↔ m ≤ cz_rd n k := by
    rw [Int32.le_iff_toInt_le, cz_df_t hn, cz_neg hm, e0]
    omega
  by_cases h1 : cz_rd n k = m
  · rw [decide_eq_true h1, decide_eq_true (a.mpr (by omega)), decide_eq_true (c.mpr (by omega))]
    rfl
  · rw [decide_eq_false h1]
    by_cases h2 : cz_rd n k ≤ m
    · have hc : ¬ cz_df n 0 k ≤ -nI m := fun h => h1 (by have := c.mp h; omega)
      rw [decide_eq_false hc, Bool.and_false]
    · rw [decide_eq_false (fun h => h2 (a.mp h)), Bool.false_and]
theorem cz_two {B f g : Nat → Bool} {o i j i' j' : Nat} {c c' : Int32}
    (hg : ∀ n, n < 2197 → (f n && (decide (cz_df n i j ≤ c) && decide (cz_df n i' j' ≤ c'))) = g n) :
    cz_zs o 2197 (cz_K (cz_zs o 2197 (cz_K (cz_zs o 2197 f B) o i j c) (cz_zs o 2197 f B)) o i' j' c') (cz_zs o 2197 (cz_K (cz_zs o 2197 f B) o i j c) (cz_zs o 2197 f B)) = cz_zs o 2197 g B := by
  rw [cz_zs_z, cz_zs_z]
  refine cz_zs_c B (fun n hn => ?_)
  rw [← hg n hn]
  show (cz_zs o 2197 (cz_K (cz_zs o 2197 f B) o i j c) (cz_zs o 2197 f B) (o + n) && _) = _
  rw [cz_zs_in _ _ hn]
  show ((cz_zs o 2197 f B (o + n) && _) && _) = _
  rw [cz_zs_in _ _ hn, Bool.and_assoc]
theorem cx_set {P : SX → Prop} {B : Nat → Bool} {b : Nat → Int32} {z k m : Nat} (hz : z < 3) (h1 : 1 ≤ k) (h3 : k ≤ 3) (hm : m ≤ 12) (h : P (cz_ba (cz_zs (z * 2197) 2197 (cz_S B (z * 2197) k m) B), b)) :
    wpX_freeClock (fun u => wpX_keepDifference (fun u => wpX_keepDifference P u (nI z) 0 (nI k) (-nI m)) u (nI z) (nI k) 0 (nI m)) (cz_ba B, b) (nI z) (nI k) := by
  refine cx_fc hz h1 h3 (cx_kd (j := 0) hz h3 (by decide) (cx_kd (i := 0) hz (by decide) h3 ?_))
  rw [cz_two (g := cz_S B (z * 2197) k m)]
  · exact h
  · intro n hn
    rw [cz_set1 hn hm, Bool.and_comm]
    rfl
theorem cy_set {P : Int32 → SY → Prop} {B M : Nat → Bool} {z k m : Nat} (hz : z < 3) (h1 : 1 ≤ k) (h3 : k ≤ 3) (hm : m ≤ 12) (h : ∀ M' : Nat → Bool, P (cz_bi (cz_an (cz_S B (z * 2197) k m) 2197)) (cz_ba (cz_zs (z * 2197) 2197 (cz_S B (z * 2197) k m) B), cz_ba M')) : ∃ n, wY_set_37 P (nI z) (nI k) (nI m) n 0 (cz_ba B) (cz_ba M) := by
  have H : ∃ n, wY_set_37 P (nI z) (nI k) (nI m) n (nI 0) (cz_ba B) (cz_ba (cz_zs 0 0 (cz_S B (z * 2197) k m) M)) :=
    cz_lt (W := fun n i => wY_set_37 P (nI z) (nI k) (nI m) n (nI i) (cz_ba B) (cz_ba (cz_zs 0 i (cz_S B (z * 2197) k m) M))) 2197
      (fun n => br_t cz_ex1 (cy_storez hz h))
      (fun n i hi K => br_f (cz_in1 hi) (cy_val hi h3 (by
        have l := cz_rd_le hi k
        have es : cz_S B (z * 2197) k m i = (decide (cz_rd i k = m) && cz_L B (z * 2197) k i) := rfl
        by_cases e : cz_rd i k = m
        · rw [decide_eq_true e, Bool.true_and] at es
          refine br_t (by rw [e]) (cy_anyAt hz hi h1 h3 (cz_br _ rfl (fun f => ?_) (fun f => ?_)))
          · exact cz_w0 hi (by rw [es, f]) (nm_r (nI_1 i) K)
          · exact cz_w1 hi (by rw [es, f]) (nm_r (nI_1 i) K)
        · rw [decide_eq_false e, Bool.false_and] at es
          exact br_f (fun q => e ((nI_eq (by omega) (by omega)).mp q)) (cz_w0 hi es (nm_r (nI_1 i) K)))))
  rw [cz_zs_0] at H
  exact H
theorem i_vc_set {k : Nat} {u : SX} {v : SY} (I : i_Rel k u v) (hk : k + 5 ≤ 2560) (v1 : Int32) (v2 : Int32) (v3 : Int32) : wpX_set (fun r u' => wpY_set (fun r' v' => r' = r ∧ i_Rel (k + 5) u' v') v v1 v2 v3) u v1 v2 v3 := by
  obtain ⟨B, M, b, rfl, rfl⟩ := I
  unfold wpX_set wpY_set wpX_isNumber
  dsimp only
  rcases cz_zone v1 with ⟨hx, hy⟩ | ⟨z, hz, rfl, hx, hy⟩
  · exact hx _ (br_t rfl (hy _ _ _ (br_f cz_10 ⟨rfl, cz_re _ B M b⟩)))
  rcases cz_clock v2 with ⟨gx, gy⟩ | ⟨c, g1, g3, rfl, gx, gy⟩
  · exact hx _ (br_f cz_10 (gx _ (br_t rfl (hy _ _ _ (br_t rfl (gy _ _ _ (br_f cz_10 ⟨rfl, cz_re _ B M b⟩)))))))
  rcases cz_num v3 with a1 | ⟨a1, a2, a3⟩ | ⟨m, hm, rfl, a1, a2, a3⟩
  · exact hx _ (br_f cz_10 (gx _ (br_f cz_10 (br_t a1 (br_t rfl (hy _ _ _ (br_t rfl (gy _ _ _ (br_t rfl (br_t a1 ⟨rfl, cz_re _ B M b⟩))))))))))
  · exact hx _ (br_f cz_10 (gx _ (br_f cz_10 (br_f a1 (br_t a2 (br_t rfl (hy _ _ _ (br_t rfl (gy _ _ _ (br_t rfl (br_f a1 (br_f a3 ⟨rfl, cz_re _ B M b⟩))))))))))))
  · exact hx _ (br_f cz_10 (gx _ (br_f cz_10 (br_f a1 (br_f a2 (br_f cz_10 (cx_set hz g1 g3 hm (cx_anyz hz (hy _ _ _ (br_t rfl (gy _ _ _ (br_t rfl (br_f a1 (br_t a3 (cy_set hz g1 g3 hm (fun M' => ⟨rfl, cz_re _ _ M' b⟩))))))))))))))))
-- follow
def cz_F (B : Nat → Bool) (o i j : Nat) : Nat → Bool := fun n => decide (cz_rd n i = cz_rd n j) && cz_L B o i n
theorem cz_fol1 {n i j : Nat} (hn : n < 2197) : (decide (cz_df n i j ≤ 0) && decide (cz_df n j i ≤ 0)) = decide (cz_rd n i = cz_rd n j) := by
  have a : cz_df n i j ≤ 0 ↔ cz_rd n i ≤ cz_rd n j := by
    rw [Int32.le_iff_toInt_le, cz_df_t hn, show (0 : Int32).toInt = 0 from rfl]
    omega
  have c : cz_df n j i ≤ 0 ↔ cz_rd n j ≤ cz_rd n i := by
    rw [Int32.le_iff_toInt_le, cz_df_t hn, show (0 : Int32).toInt = 0 from rfl]
    omega
  by_cases h1 : cz_rd n i = cz_rd n j
  · rw [decide_eq_true h1, decide_eq_true (a.mpr (by omega)), decide_eq_true (c.mpr (by omega))]
    rfl
  · rw [decide_eq_false h1]
    by_cases h2 : cz_rd n i ≤ cz_rd n j
    · have hc : ¬ cz_df n j i ≤ 0 := fun h => h1 (by have := c.mp h; omega)
      rw [decide_eq_false hc, Bool.and_false]
    · rw [decide_eq_false (fun h => h2 (a.mp h)), Bool.false_and]
theorem cx_fol {P : SX → Prop} {B : Nat → Bool} {b : Nat → Int32} {z i j : Nat} (hz : z < 3) (h1 : 1 ≤ i) (h3 : i ≤ 3) (hj : j ≤ 3) (h : P (cz_ba (cz_zs (z * 2197) 2197 (cz_F B (z * 2197) i j) B), b)) :
    wpX_freeClock (fun u => wpX_keepDifference (fun u => wpX_keepDifference P u (nI z) (nI j) (nI i) 0) u (nI z) (nI i) (nI j) 0) (cz_ba B, b) (nI z) (nI i) := by
  refine cx_fc hz h1 h3 (cx_kd hz h3 hj (cx_kd hz hj h3 ?_))
  rw [cz_two (g := cz_F B (z * 2197) i j)]
  · exact h
  · intro n hn
    rw [cz_fol1 hn, Bool.and_comm]
    rfl
theorem cy_fol {P : Int32 → SY → Prop} {B M : Nat → Bool} {z k m : Nat} (hz : z < 3) (h1 : 1 ≤ k) (h3 : k ≤ 3) (hm : m ≤ 3) (h : ∀ M' : Nat → Bool, P (cz_bi (cz_an (cz_F B (z * 2197) k m) 2197)) (cz_ba (cz_zs (z * 2197) 2197 (cz_F B (z * 2197) k m) B), cz_ba M')) : ∃ n, wY_follow_43 P (nI z) (nI k) (nI m) n 0 (cz_ba B) (cz_ba M) := by
  have H : ∃ n, wY_follow_43 P (nI z) (nI k) (nI m) n (nI 0) (cz_ba B) (cz_ba (cz_zs 0 0 (cz_F B (z * 2197) k m) M)) :=
    cz_lt (W := fun n i => wY_follow_43 P (nI z) (nI k) (nI m) n (nI i) (cz_ba B) (cz_ba (cz_zs 0 i (cz_F B (z * 2197) k m) M))) 2197
      (fun n => br_t cz_ex1 (cy_storez hz h))
      (fun n i hi K => br_f (cz_in1 hi) (cy_val hi h3 (cy_val hi hm (by
        have l := cz_rd_le hi k
        have l2 := cz_rd_le hi m
        have es : cz_F B (z * 2197) k m i = (decide (cz_rd i k = cz_rd i m) && cz_L B (z * 2197) k i) := rfl
        by_cases e : cz_rd i k = cz_rd i m
        · rw [decide_eq_true e, Bool.true_and] at es
          refine br_t (by rw [e]) (cy_anyAt hz hi h1 h3 (cz_br _ rfl (fun f => ?_) (fun f => ?_)))
          · exact cz_w0 hi (by rw [es, f]) (nm_r (nI_1 i) K)
          · exact cz_w1 hi (by rw [es, f]) (nm_r (nI_1 i) K)
        · rw [decide_eq_false e, Bool.false_and] at es
          exact br_f (fun q => e ((nI_eq (by omega) (by omega)).mp q)) (cz_w0 hi es (nm_r (nI_1 i) K))))))
  rw [cz_zs_0] at H
  exact H
theorem i_vc_follow {k : Nat} {u : SX} {v : SY} (I : i_Rel k u v) (hk : k + 5 ≤ 2560) (v1 : Int32) (v2 : Int32) (v3 : Int32) : wpX_follow (fun r u' => wpY_follow (fun r' v' => r' = r ∧ i_Rel (k + 5) u' v') v v1 v2 v3) u v1 v2 v3 := by
  obtain ⟨B, M, b, rfl, rfl⟩ := I
  unfold wpX_follow wpY_follow wX_follow_53
  dsimp only
  rcases cz_zone v1 with ⟨hx, hy⟩ | ⟨z, hz, rfl, hx, hy⟩
  · exact hx _ (br_t rfl (hy _ _ _ (br_f cz_10 ⟨rfl, cz_re _ B M b⟩)))
  rcases cz_clock v2 with ⟨gx, gy⟩ | ⟨i, g1, g3, rfl, gx, gy⟩
  · exact hx _ (br_f cz_10 (gx _ (br_t rfl (hy _ _ _ (br_t rfl (gy _ _ _ (br_f cz_10 ⟨rfl, cz_re _ B M b⟩)))))))
  rcases cz_clock v3 with ⟨fx, fy⟩ | ⟨j, f1, f3, rfl, fx, fy⟩
  · exact hx _ (br_f cz_10 (gx _ (br_f cz_10 (fx _ (br_t rfl (hy _ _ _ (br_t rfl (gy _ _ _ (br_t rfl (fy _ _ _ (br_f cz_10 ⟨rfl, cz_re _ B M b⟩)))))))))))
  by_cases e : nI i = nI j
  · exact hx _ (br_f cz_10 (gx _ (br_f cz_10 (fx _ (br_f cz_10 (br_t e (cx_any hz (hy _ _ _ (br_t rfl (gy _ _ _ (br_t rfl (fy _ _ _ (br_t rfl (br_t e (cy_some hz ⟨rfl, cz_re _ B M b⟩)))))))))))))))
  · exact hx _ (br_f cz_10 (gx _ (br_f cz_10 (fx _ (br_f cz_10 (br_f e (cx_fol hz g1 g3 f3 (cx_anyz hz (hy _ _ _ (br_t rfl (gy _ _ _ (br_t rfl (fy _ _ _ (br_t rfl (br_f e (cy_fol hz g1 g3 f3 (fun M' => ⟨rfl, cz_re _ _ M' b⟩)))))))))))))))))
