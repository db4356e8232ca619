-- the greatest difference
def cz_gr (m0 : Int32) (S : Nat → Bool) (i j : Nat) : Nat → Int32
  | 0 => m0
  | n + 1 => if S n = true ∧ ¬ cz_df n i j ≤ cz_gr m0 S i j n then cz_df n i j else cz_gr m0 S i j n
theorem cz_gr0 {m0 : Int32} {S : Nat → Bool} {i j n : Nat} (h : S n = false) : cz_gr m0 S i j (n + 1) = cz_gr m0 S i j n := if_neg (by rw [h]; exact fun q => absurd q.1 (by decide))
theorem cz_gr1 {m0 : Int32} {S : Nat → Bool} {i j n : Nat} (h : cz_df n i j ≤ cz_gr m0 S i j n) : cz_gr m0 S i j (n + 1) = cz_gr m0 S i j n := if_neg (fun q => q.2 h)
theorem cz_gr2 {m0 : Int32} {S : Nat → Bool} {i j n : Nat} (h : S n = true) (h' : ¬ cz_df n i j ≤ cz_gr m0 S i j n) : cz_gr m0 S i j (n + 1) = cz_df n i j := if_pos ⟨h, h'⟩
theorem cz_grc {m0 : Int32} {S S' : Nat → Bool} {i j n : Nat} (h : ∀ t, t < n → S t = S' t) : cz_gr m0 S i j n = cz_gr m0 S' i j n := by
  induction n with
  | zero => rfl
  | succ n ih =>
    have e := ih (fun t ht => h t (by omega))
    show (if S n = true ∧ ¬ cz_df n i j ≤ cz_gr m0 S i j n then _ else cz_gr m0 S i j n) = (if S' n = true ∧ ¬ cz_df n i j ≤ cz_gr m0 S' i j n then _ else cz_gr m0 S' i j n)
    rw [e, h n (by omega)]
theorem cz_df_b {n : Nat} (hn : n < 2197) (i j : Nat) : -12 ≤ (cz_df n i j).toInt := by
  have h1 := cz_rd_le hn i
  have h2 := cz_rd_le hn j
  rw [cz_df_t hn]
  omega
/-- X begins at -13, Y at -100 -/
theorem cz_grb (S : Nat → Bool) (i j : Nat) : ∀ n, n ≤ 2197 → (cz_gr (-13) S i j n = -13 ∧ cz_gr (-100) S i j n = -100) ∨ (cz_gr (-13) S i j n = cz_gr (-100) S i j n ∧ -12 ≤ (cz_gr (-100) S i j n).toInt) := by
  intro n
  induction n with
  | zero => exact fun _ => Or.inl ⟨rfl, rfl⟩
  | succ n ih =>
    intro hn
    have hd := cz_df_b (n := n) (by omega) i j
    cases hS : S n with
    | false =>
      rw [cz_gr0 hS, cz_gr0 hS]
      exact ih (by omega)
    | true =>
      rcases ih (by omega) with ⟨e1, e2⟩ | ⟨e1, e2⟩
      · refine Or.inr ?_
        have a1 : ¬ cz_df n i j ≤ cz_gr (-13) S i j n := by
          rw [e1, Int32.le_iff_toInt_le, show (-13 : Int32).toInt = -13 from rfl]; omega
        have a2 : ¬ cz_df n i j ≤ cz_gr (-100) S i j n := by
          rw [e2, Int32.le_iff_toInt_le, show (-100 : Int32).toInt = -100 from rfl]; omega
        rw [cz_gr2 hS a1, cz_gr2 hS a2]
        exact ⟨rfl, hd⟩
      · refine Or.inr ?_
        by_cases h : cz_df n i j ≤ cz_gr (-100) S i j n
        · rw [cz_gr1 h, cz_gr1 (by rw [e1]; exact h)]
          exact ⟨e1, e2⟩
        · rw [cz_gr2 hS h, cz_gr2 hS (by rw [e1]; exact h)]
          exact ⟨rfl, hd⟩
theorem cx_gr {P : Int32 → Prop} {B : Nat → Bool} {b : Nat → Int32} {z i j : Nat} (hz : z < 3) (hi : i ≤ 3) (hj : j ≤ 3) (h : P (cz_gr (-13) (cz_C B z) i j 2197)) : wpX_greatestDifference P (cz_ba B, b) (nI z) (nI i) (nI j) := by
  unfold wpX_greatestDifference
  refine nm_r (cz_m z) ?_
  exact cz_lt (W := fun n t => wX_greatestDifference_14 P (nI i) (nI j) (nI (z * 2197)) (cz_ba B) b n (cz_gr (-13) (cz_C B z) i j t) (nI t)) 2197
    (fun n => br_t cz_ex1 h)
    (fun n t ht K => br_f (cz_in1 ht) (cx_dif ht hi hj ⟨cz_in (z * 2197 + t) (nI_add _ _) (by omega) (by decide),
      cz_br (B (z * 2197 + t)) (cz_rdb _ (nI_add _ _) (by omega))
        (fun f => nm_r (nI_1 t) (by rw [cz_gr0 (S := cz_C B z) f] at K; exact K))
        (fun f => by
          by_cases hd : cz_df t i j ≤ cz_gr (-13) (cz_C B z) i j t
          · exact br_t hd (nm_r (nI_1 t) (by rw [cz_gr1 hd] at K; exact K))
          · exact br_f hd (nm_r (nI_1 t) (by rw [cz_gr2 (S := cz_C B z) f hd] at K; exact K)))⟩))
theorem cy_gr {P : Int32 → Prop} {a : Nat → Int32} {M : Nat → Bool} {i j : Nat} (hi : i ≤ 3) (hj : j ≤ 3) (h : P (cz_gr (-100) M i j 2197)) : wpY_greatest P (a, cz_ba M) (nI i) (nI j) := by
  unfold wpY_greatest
  exact cz_lt (W := fun n t => wY_greatest_6 P (nI i) (nI j) a (cz_ba M) n (cz_gr (-100) M i j t) (nI t)) 2197
    (fun n => br_t cz_ex1 h)
    (fun n t ht K => br_f (cz_in1 ht) ⟨vp_in_nI ht (by decide),
      cz_br (M t) (cz_rdb t rfl (by omega))
        (fun f => nm_r (nI_1 t) (by rw [cz_gr0 f] at K; exact K))
        (fun f => cy_val ht hi (cy_val ht hj (by
          by_cases hd : cz_df t i j ≤ cz_gr (-100) M i j t
          · exact br_t hd (nm_r (nI_1 t) (by rw [cz_gr1 hd] at K; exact K))
          · exact br_f hd (nm_e (nm_r (nI_1 t) (by rw [cz_gr2 f hd] at K; exact K))))))⟩)
theorem cz_m0 {f M : Nat → Bool} {n : Nat} (hn : n < 2197) : cz_zs 0 2197 f M n = f n := by
  have e := cz_zs_in (o := 0) f M hn
  rwa [Nat.zero_add] at e
-- widest
theorem cy_wid {P : Int32 → SY → Prop} {B M : Nat → Bool} {z i j : Nat} (hz : z < 3) (hi : i ≤ 3) (hj : j ≤ 3)
    (h : ∀ M' : Nat → Bool, (cz_gr (-100) (cz_C B z) i j 2197 = -100 → P (-300) (cz_ba B, cz_ba M')) ∧ (¬ cz_gr (-100) (cz_C B z) i j 2197 = -100 → P (cz_gr (-100) (cz_C B z) i j 2197) (cz_ba B, cz_ba M'))) : ∃ n, wY_widest_27 P (nI z) (nI i) (nI j) n 0 (cz_ba B) (cz_ba M) := by
  have H : ∃ n, wY_widest_27 P (nI z) (nI i) (nI j) n (nI 0) (cz_ba B) (cz_ba (cz_zs 0 0 (cz_C B z) M)) :=
    cz_lt (W := fun n t => wY_widest_27 P (nI z) (nI i) (nI j) n (nI t) (cz_ba B) (cz_ba (cz_zs 0 t (cz_C B z) M))) 2197
      (fun n => br_t cz_ex1 (cy_gr hi hj (by
        rw [cz_grc (S' := cz_C B z) (fun t ht => cz_m0 ht)]
        exact h _)))
      (fun n t ht K => br_f (cz_in1 ht) ⟨cz_in (z * 2197 + t) (cz_ix z t) (by omega) (by decide),
        cz_wb ht (by rw [cz_rdb (z * 2197 + t) (cz_ix z t) (by omega)]; exact cz_nb _) (nm_r (nI_1 t) K)⟩)
  rw [cz_zs_0] at H
  exact H
theorem i_vc_widest {k : Nat} {u : SX} {v : SY} (I : i_Rel k u v) (hk : k + 5 ≤ 2560) (v1 : Int32) (v2 : Int32) (v3 : Int32) : wpX_widest (fun r => wpY_widest (fun r' v' => r' = r ∧ i_Rel (k + 5) u v') v v1 v2 v3) u v1 v2 v3 := by
  obtain ⟨B, M, b, rfl, rfl⟩ := I
  unfold wpX_widest wpY_widest
  dsimp only
  rcases cz_zone v1 with ⟨hx, hy⟩ | ⟨z, hz, rfl, hx, hy⟩
  · exact hx _ (br_t rfl (hy _ _ _ (br_f cz_10 ⟨rfl, cz_re _ B M b⟩)))
  rcases cz_pair v2 v3 with ⟨px, py⟩ | ⟨i, j, hi, hj, hij, rfl, rfl, px, py⟩
  · exact hx _ (br_f cz_10 (px _ (br_t rfl (hy _ _ _ (br_t rfl (py _ _ _ (br_f cz_10 ⟨rfl, cz_re _ B M b⟩)))))))
  refine hx _ (br_f cz_10 (px _ (br_f cz_10 (cx_gr hz hi hj ?_))))
  rcases cz_grb (cz_C B z) i j 2197 (Nat.le_refl _) with ⟨e1, e2⟩ | ⟨e1, e2⟩
  · exact br_t e1 (hy _ _ _ (br_t rfl (py _ _ _ (br_t rfl (cy_wid hz hi hj (fun M' => br_t e2 ⟨rfl, cz_re _ B M' b⟩))))))
  · have n1 : ¬ cz_gr (-13) (cz_C B z) i j 2197 = -13 := fun q => by
      rw [e1] at q
      rw [q, show (-13 : Int32).toInt = -13 from rfl] at e2
      omega
    have n2 : ¬ cz_gr (-100) (cz_C B z) i j 2197 = -100 := fun q => by
      rw [q, show (-100 : Int32).toInt = -100 from rfl] at e2
      omega
    exact br_f n1 (hy _ _ _ (br_t rfl (py _ _ _ (br_t rfl (cy_wid hz hi hj (fun M' => br_f n2 ⟨e1.symm, cz_re _ B M' b⟩))))))
-- hull: the union
def cz_J (B : Nat → Bool) (y z : Nat) : Nat → Bool := fun n => B (y * 2197 + n) || B (z * 2197 + n)
theorem cz_J0 {B : Nat → Bool} {y z n : Nat} (h : B (y * 2197 + n) = true) : cz_J B y z n = true := by
  show (B (y * 2197 + n) || B (z * 2197 + n)) = true
  rw [h]; rfl
theorem cz_J1 {B : Nat → Bool} {y z n : Nat} (h : B (z * 2197 + n) = true) : cz_J B y z n = true := by
  show (B (y * 2197 + n) || B (z * 2197 + n)) = true
  rw [h, Bool.or_true]
theorem cz_J2 {B : Nat → Bool} {y z n : Nat} (h : B (y * 2197 + n) = false) (h' : B (z * 2197 + n) = false) : cz_J B y z n = false := by
  show (B (y * 2197 + n) || B (z * 2197 + n)) = false
  rw [h, h']; rfl
theorem cx_join {P : SX → Prop} {B : Nat → Bool} {b : Nat → Int32} {y z : Nat} (hy : y < 3) (hz : z < 3) (h : P (cz_ba (cz_zs (y * 2197) 2197 (cz_J B y z) B), b)) : wpX_join P (cz_ba B, b) (nI y) (nI z) := by
  unfold wpX_join
  refine nm_r (cz_m y) (nm_r (cz_m z) ?_)
  have H : ∃ n, wX_join_16 P (nI (y * 2197)) (nI (z * 2197)) n (nI 0) (cz_ba (cz_zs (y * 2197) 0 (cz_J B y z) B)) b :=
    cz_lt (W := fun n i => wX_join_16 P (nI (y * 2197)) (nI (z * 2197)) n (nI i) (cz_ba (cz_zs (y * 2197) i (cz_J B y z) B)) b) 2197
      (fun n => br_t cz_ex1 h)
      (fun n i hi K => br_f (cz_in1 hi) ⟨cz_in (y * 2197 + i) (nI_add _ _) (by omega) (by decide),
        cz_br (B (y * 2197 + i)) (cz_rz (nI_add _ _) (Nat.le_refl _) hi hy)
          (fun h0 => ⟨cz_in (z * 2197 + i) (nI_add _ _) (by omega) (by decide),
            cz_br (B (z * 2197 + i)) (cz_rz (nI_add _ _) (Nat.le_refl _) hi hz)
              (fun h1 => cz_z0 (y * 2197) i (nI_add _ _) (by omega) (by decide) (cz_J2 h0 h1) (nm_r (nI_1 i) K))
              (fun h1 => cz_z1 (y * 2197) i (nI_add _ _) (by omega) (by decide) (cz_J1 h1) (nm_r (nI_1 i) K))⟩)
          (fun h0 => cz_z1 (y * 2197) i (nI_add _ _) (by omega) (by decide) (cz_J0 h0) (nm_r (nI_1 i) K))⟩)
  rw [cz_zs_0] at H
  exact H
-- hull: the bounds
def cz_G (m0 : Int32) (S : Nat → Bool) (k : Nat) : Int32 := cz_gr m0 S (k / 4) (k % 4) 2197
def cz_bd (G : Nat → Int32) (b : Nat → Int32) (m : Nat) : Nat → Int32 := fun k => if k < m then G k else b k
theorem cz_bd_s (G b : Nat → Int32) (m : Nat) : upd (cz_bd G b m) m (G m) = cz_bd G b (m + 1) := by
  funext k
  show (if k = m then G m else if k < m then G k else b k) = if k < m + 1 then G k else b k
  by_cases h : k = m
  · rw [if_pos h, if_pos (by omega), h]
  · rw [if_neg h]
    by_cases h2 : k < m
    · rw [if_pos h2, if_pos (by omega)]
    · rw [if_neg h2, if_neg (by omega)]
theorem cz_bd_0 (G b : Nat → Int32) : cz_bd G b 0 = b := by
  funext k
  exact if_neg (by omega)
theorem cz_i4 (i j : Nat) : nI i * 4 + nI j = nI (i * 4 + j) := by
  rw [show (4 : Int32) = nI 4 from rfl, pk_mul, nI_add]
theorem cz_in4 {i : Nat} (h : i < 4) : ¬ (4 : Int32) ≤ nI i := nI_ge (b := 4) h (by decide)
theorem cz_ex4 : (4 : Int32) ≤ nI 4 := nI_le (a := 4) (Nat.le_refl _) (by decide)
theorem cx_meas {P : SX → Prop} {B : Nat → Bool} {b : Nat → Int32} {z : Nat} (hz : z < 3) (h : P (cz_ba B, cz_bd (cz_G (-13) (cz_C B z)) b 16)) : wpX_measure P (cz_ba B, b) (nI z) := by
  unfold wpX_measure
  have H : ∃ n, wX_measure_2 P (nI z) n (nI 0) (cz_ba B) (cz_bd (cz_G (-13) (cz_C B z)) b (0 * 4)) :=
    cz_lt (W := fun n i => wX_measure_2 P (nI z) n (nI i) (cz_ba B) (cz_bd (cz_G (-13) (cz_C B z)) b (i * 4))) 4
      (fun n => br_t cz_ex4 h)
      (fun n i hi K => br_f (cz_in4 hi) (cz_lt (W := fun n' j => wX_measure_9 P (wX_measure_2 P (nI z) n) (nI z) (nI i) n' (nI j) (cz_ba B) (cz_bd (cz_G (-13) (cz_C B z)) b (i * 4 + j))) 4
        (fun n' => br_t cz_ex4 (nm_r (nI_1 i) (by rw [Nat.succ_mul] at K; exact K)))
        (fun n' j hj K' => br_f (cz_in4 hj) (cx_gr hz (by omega) (by omega) ⟨cz_in (i * 4 + j) (cz_i4 i j) (by omega) (by decide), by
          have e : cz_G (-13) (cz_C B z) (i * 4 + j) = cz_gr (-13) (cz_C B z) i j 2197 := by
            unfold cz_G
            rw [show (i * 4 + j) / 4 = i by omega, show (i * 4 + j) % 4 = j by omega]
          rw [← e, cz_i4, nI_clamp (by omega), cz_bd_s]
          exact nm_e (nm_r (nI_1 j) K')⟩))))
  rw [Nat.zero_mul, cz_bd_0] at H
  exact H
def cz_Hg (G : Nat → Int32) (n : Nat) : Nat → Bool := fun k => decide (cz_df n (k / 4) (k % 4) ≤ G k)
def cz_H (G : Nat → Int32) : Nat → Bool := fun n => cz_al (cz_Hg G n) 16
theorem cx_kb {P : Int32 → Prop} {a G : Nat → Int32} {t : Nat} (ht : t < 2197) (h : P (cz_bi (cz_H G t))) : wpX_keepsBounds P (a, G) (nI t) := by
  unfold wpX_keepsBounds
  exact cz_lo (W := fun n i => wX_keepsBounds_2 P (nI t) a G n (nI i)) (fun i => ∀ k, k < i * 4 → cz_Hg G t k = true) 4 0 (by decide) (fun k hk => by omega)
    (fun H n => br_t cz_ex4 (by unfold cz_H at h; rw [cz_al_t H] at h; exact h))
    (fun n i hi H K => br_f (cz_in4 hi) (cz_lo (W := fun n' j => wX_keepsBounds_9 P (wX_keepsBounds_2 P (nI t) a G n) (nI t) (nI i) a G n' (nI j)) (fun j => ∀ k, k < i * 4 + j → cz_Hg G t k = true) 4 0 (by decide) H
      (fun H' n' => br_t cz_ex4 (nm_r (nI_1 i) (K (by rw [Nat.succ_mul]; exact H'))))
      (fun n' j hj H' K' => br_f (cz_in4 hj) (cx_dif ht (by omega) (by omega) ⟨cz_in (i * 4 + j) (cz_i4 i j) (by omega) (by decide), by
        have e : cz_Hg G t (i * 4 + j) = decide (cz_df t i j ≤ G (i * 4 + j)) := by
          unfold cz_Hg
          rw [show (i * 4 + j) / 4 = i by omega, show (i * 4 + j) % 4 = j by omega]
        rw [cz_i4, nI_clamp (by omega)]
        by_cases hd : cz_df t i j ≤ G (i * 4 + j)
        · exact br_t hd (nm_r (nI_1 j) (K' (lt_s (i := i * 4 + j) H' (by rw [e]; exact decide_eq_true hd))))
        · refine br_f hd ?_
          unfold cz_H at h
          rw [cz_al_f (t := i * 4 + j) (by omega) (by rw [e]; exact decide_eq_false hd)] at h
          exact h⟩))))
theorem cx_ftb {P : SX → Prop} {B : Nat → Bool} {b : Nat → Int32} {z : Nat} (hz : z < 3) (h : P (cz_ba (cz_zs (z * 2197) 2197 (cz_H b) B), b)) : wpX_fillToBounds P (cz_ba B, b) (nI z) := by
  unfold wpX_fillToBounds
  refine nm_r (cz_m z) ?_
  have H : ∃ n, wX_fillToBounds_8 P (nI (z * 2197)) n (nI 0) (cz_ba (cz_zs (z * 2197) 0 (cz_H b) B)) b :=
    cz_lt (W := fun n i => wX_fillToBounds_8 P (nI (z * 2197)) n (nI i) (cz_ba (cz_zs (z * 2197) i (cz_H b) B)) b) 2197
      (fun n => br_t cz_ex1 h)
      (fun n i hi K => br_f (cz_in1 hi) (cx_kb hi (cz_zb (z * 2197) i (nI_add _ _) (by omega) (by decide) (cz_nb _) (nm_r (nI_1 i) K))))
  rw [cz_zs_0] at H
  exact H
theorem cx_hull {P : SX → Prop} {B : Nat → Bool} {b : Nat → Int32} {y z : Nat} (hy : y < 3) (hz : z < 3) (h : ∀ b', P (cz_ba (cz_zs (y * 2197) 2197 (cz_H (cz_G (-13) (cz_J B y z))) B), b')) :
    wpX_join (fun u => wpX_measure (fun u => wpX_fillToBounds P u (nI y)) u (nI y)) (cz_ba B, b) (nI y) (nI z) := by
  refine cx_join hy hz (cx_meas hy (cx_ftb hy ?_))
  have e : cz_zs (y * 2197) 2197 (cz_H (cz_bd (cz_G (-13) (cz_C (cz_zs (y * 2197) 2197 (cz_J B y z) B) y)) b 16)) (cz_zs (y * 2197) 2197 (cz_J B y z) B) = cz_zs (y * 2197) 2197 (cz_H (cz_G (-13) (cz_J B y z))) B := by
    rw [cz_zs_z]
    refine cz_zs_c B (fun n hn => cz_al_c (fun k hk => ?_))
    unfold cz_Hg
    have e1 : cz_bd (cz_G (-13) (cz_C (cz_zs (y * 2197) 2197 (cz_J B y z) B) y)) b 16 k = cz_G (-13) (cz_J B y z) k := by
      unfold cz_bd
      rw [if_pos hk]
      exact cz_grc (fun t ht => cz_zs_in _ _ ht)
    rw [e1]
  rw [e]
  exact h _
