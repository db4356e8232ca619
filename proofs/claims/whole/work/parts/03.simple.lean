def i_Rel (_ : Nat) (u : SX) (v : SY) : Prop := ∃ (B M : Nat → Bool) (b : Nat → Int32), u = (cz_ba B, b) ∧ v = (cz_ba B, cz_ba M)
theorem i_up {k : Nat} {u : SX} {v : SY} (h : i_Rel k u v) : i_Rel (k + 5) u v := h
theorem cz_10 : ¬ (1 : Int32) = 0 := by decide
theorem cz_re (k : Nat) (B M : Nat → Bool) (b : Nat → Int32) : i_Rel k (cz_ba B, b) (cz_ba B, cz_ba M) := ⟨B, M, b, rfl, rfl⟩
-- stores into the picture
theorem cz_zb {f B : Nat → Bool} {x v : Int32} {N : Nat} {P : (Nat → Int32) → Prop} (o i : Nat) (hx : x = nI (o + i)) (hj : o + i < N) (hN : N < 2 ^ 31)
    (hv : vp_nar .boolean v = cz_bi (f i)) (h : P (cz_ba (cz_zs o (i + 1) f B))) :
    vp_in x N ∧ ∀ a', a' = upd (cz_ba (cz_zs o i f B)) x.toNatClampNeg (vp_nar .boolean v) → P a' :=
  cz_st (o + i) (f i) hx hj hN hv (cz_zs_s o i f B) h
theorem cz_z1 {f B : Nat → Bool} {x : Int32} {N : Nat} {P : (Nat → Int32) → Prop} (o i : Nat) (hx : x = nI (o + i)) (hj : o + i < N) (hN : N < 2 ^ 31)
    (hf : f i = true) (h : P (cz_ba (cz_zs o (i + 1) f B))) :
    vp_in x N ∧ ∀ a', a' = upd (cz_ba (cz_zs o i f B)) x.toNatClampNeg (vp_nar .boolean 1) → P a' :=
  cz_zb o i hx hj hN (by rw [hf]; rfl) h
theorem cz_z0 {f B : Nat → Bool} {x : Int32} {N : Nat} {P : (Nat → Int32) → Prop} (o i : Nat) (hx : x = nI (o + i)) (hj : o + i < N) (hN : N < 2 ^ 31)
    (hf : f i = false) (h : P (cz_ba (cz_zs o (i + 1) f B))) :
    vp_in x N ∧ ∀ a', a' = upd (cz_ba (cz_zs o i f B)) x.toNatClampNeg (vp_nar .boolean 0) → P a' :=
  cz_zb o i hx hj hN (by rw [hf]; rfl) h
theorem cz_wb {f M : Nat → Bool} {v : Int32} {P : (Nat → Int32) → Prop} {i : Nat} (hi : i < 2197)
    (hv : vp_nar .boolean v = cz_bi (f i)) (h : P (cz_ba (cz_zs 0 (i + 1) f M))) :
    vp_in (nI i) 2197 ∧ ∀ a', a' = upd (cz_ba (cz_zs 0 i f M)) (nI i).toNatClampNeg (vp_nar .boolean v) → P a' :=
  cz_zb 0 i (by rw [Nat.zero_add]) (by omega) (by decide) hv h
theorem cz_w1 {f M : Nat → Bool} {P : (Nat → Int32) → Prop} {i : Nat} (hi : i < 2197) (hf : f i = true) (h : P (cz_ba (cz_zs 0 (i + 1) f M))) :
    vp_in (nI i) 2197 ∧ ∀ a', a' = upd (cz_ba (cz_zs 0 i f M)) (nI i).toNatClampNeg (vp_nar .boolean 1) → P a' :=
  cz_wb hi (by rw [hf]; rfl) h
theorem cz_w0 {f M : Nat → Bool} {P : (Nat → Int32) → Prop} {i : Nat} (hi : i < 2197) (hf : f i = false) (h : P (cz_ba (cz_zs 0 (i + 1) f M))) :
    vp_in (nI i) 2197 ∧ ∀ a', a' = upd (cz_ba (cz_zs 0 i f M)) (nI i).toNatClampNeg (vp_nar .boolean 0) → P a' :=
  cz_wb hi (by rw [hf]; rfl) h
theorem cz_rz {y w i n : Nat} {f B : Nat → Bool} {x : Int32} (hx : x = nI (w * 2197 + n)) (hi : i ≤ n) (hn : n < 2197) (hw : w < 3) :
    cz_ba (cz_zs (y * 2197) i f B) x.toNatClampNeg = cz_bi (B (w * 2197 + n)) := by
  rw [cz_rdb (w * 2197 + n) hx (by omega), cz_zs_r f B hi hn]
-- fill, all
def cz_T : Nat → Bool := fun _ => true
theorem cx_fill {P : SX → Prop} {B : Nat → Bool} {b : Nat → Int32} {z : Nat} (hz : z < 3) (h : P (cz_ba (cz_zs (z * 2197) 2197 cz_T B), b)) : wpX_fill P (cz_ba B, b) (nI z) := by
  unfold wpX_fill
  refine nm_r (cz_m z) ?_
  have H : ∃ n, wX_fill_8 P (nI (z * 2197)) n (nI 0) (cz_ba (cz_zs (z * 2197) 0 cz_T B)) b :=
    cz_lt (W := fun n i => wX_fill_8 P (nI (z * 2197)) n (nI i) (cz_ba (cz_zs (z * 2197) i cz_T B)) b) 2197
      (fun n => br_t cz_ex1 h)
      (fun n i hi K => br_f (cz_in1 hi) (cz_z1 (z * 2197) i (nI_add _ _) (by omega) (by decide) rfl (nm_r (nI_1 i) K)))
  rw [cz_zs_0] at H
  exact H
theorem cy_all {P : Int32 → SY → Prop} {B : Nat → Bool} {b : Nat → Int32} {z : Nat} (hz : z < 3) (h : P 0 (cz_ba (cz_zs (z * 2197) 2197 cz_T B), b)) : ∃ n, wY_all_12 P (nI z) n 0 (cz_ba B) b := by
  have H : ∃ n, wY_all_12 P (nI z) n (nI 0) (cz_ba (cz_zs (z * 2197) 0 cz_T B)) b :=
    cz_lt (W := fun n i => wY_all_12 P (nI z) n (nI i) (cz_ba (cz_zs (z * 2197) i cz_T B)) b) 2197
      (fun n => br_t cz_ex1 h)
      (fun n i hi K => br_f (cz_in1 hi) (cz_z1 (z * 2197) i (cz_ix z i) (by omega) (by decide) rfl (nm_r (nI_1 i) K)))
  rw [cz_zs_0] at H
  exact H
theorem i_vc_all {k : Nat} {u : SX} {v : SY} (I : i_Rel k u v) (hk : k + 5 ≤ 2560) (v1 : Int32) : wpX_all (fun r u' => wpY_all (fun r' v' => r' = r ∧ i_Rel (k + 5) u' v') v v1) u v1 := by
  obtain ⟨B, M, b, rfl, rfl⟩ := I
  unfold wpX_all wpY_all
  dsimp only
  rcases cz_zone v1 with ⟨hx, hy⟩ | ⟨z, hz, rfl, hx, hy⟩
  · exact hx _ (br_t rfl (hy _ _ _ (br_f cz_10 ⟨rfl, cz_re _ B M b⟩)))
  · exact hx _ (br_f cz_10 (cx_fill hz (hy _ _ _ (br_t rfl (cy_all hz ⟨rfl, cz_re _ _ M b⟩)))))
-- zero
def cz_Z : Nat → Bool := fun n => decide (n = 0)
theorem cx_zero {P : Int32 → SX → Prop} {B : Nat → Bool} {b : Nat → Int32} {z : Nat} (hz : z < 3) (h : P 0 (cz_ba (cz_zs (z * 2197) 2197 cz_Z B), b)) : ∃ n, wX_zero_17 P (nI (z * 2197)) n 0 (cz_ba B) b := by
  have H : ∃ n, wX_zero_17 P (nI (z * 2197)) n (nI 0) (cz_ba (cz_zs (z * 2197) 0 cz_Z B)) b :=
    cz_lt (W := fun n i => wX_zero_17 P (nI (z * 2197)) n (nI i) (cz_ba (cz_zs (z * 2197) i cz_Z B)) b) 2197
      (fun n => br_t cz_ex1 h)
      (fun n i hi K => br_f (cz_in1 hi) (by
        by_cases h0 : i = 0
        · exact br_t (by rw [h0]; rfl) (cz_z1 (z * 2197) i (nI_add _ _) (by omega) (by decide) (decide_eq_true h0) (nm_r (nI_1 i) K))
        · exact br_f (nI_ne0 (by omega) (by omega)) (cz_z0 (z * 2197) i (nI_add _ _) (by omega) (by decide) (decide_eq_false h0) (nm_r (nI_1 i) K))))
  rw [cz_zs_0] at H
  exact H
theorem cy_zero {P : Int32 → SY → Prop} {B : Nat → Bool} {b : Nat → Int32} {z : Nat} (hz : z < 3) (h : P 0 (cz_ba (cz_zs (z * 2197) 2197 cz_Z B), b)) : ∃ n, wY_zero_12 P (nI z) n 0 (cz_ba B) b := by
  have H : ∃ n, wY_zero_12 P (nI z) n (nI 0) (cz_ba (cz_zs (z * 2197) 0 cz_Z B)) b :=
    cz_lt (W := fun n i => wY_zero_12 P (nI z) n (nI i) (cz_ba (cz_zs (z * 2197) i cz_Z B)) b) 2197
      (fun n => br_t cz_ex1 h)
      (fun n i hi K => br_f (cz_in1 hi) (by
        by_cases h0 : i = 0
        · exact br_t (by rw [h0]; rfl) (cz_z1 (z * 2197) i (cz_ix z i) (by omega) (by decide) (decide_eq_true h0) (nm_r (nI_1 i) K))
        · exact br_f (nI_ne0 (by omega) (by omega)) (cz_z0 (z * 2197) i (cz_ix z i) (by omega) (by decide) (decide_eq_false h0) (nm_r (nI_1 i) K))))
  rw [cz_zs_0] at H
  exact H
theorem i_vc_zero {k : Nat} {u : SX} {v : SY} (I : i_Rel k u v) (hk : k + 5 ≤ 2560) (v1 : Int32) : wpX_zero (fun r u' => wpY_zero (fun r' v' => r' = r ∧ i_Rel (k + 5) u' v') v v1) u v1 := by
  obtain ⟨B, M, b, rfl, rfl⟩ := I
  unfold wpX_zero wpY_zero
  dsimp only
  rcases cz_zone v1 with ⟨hx, hy⟩ | ⟨z, hz, rfl, hx, hy⟩
  · exact hx _ (br_t rfl (hy _ _ _ (br_f cz_10 ⟨rfl, cz_re _ B M b⟩)))
  · exact hx _ (br_f cz_10 (nm_r (cz_m z) (cx_zero hz (hy _ _ _ (br_t rfl (cy_zero hz ⟨rfl, cz_re _ _ M b⟩))))))
-- keep
def cz_K (B : Nat → Bool) (o i j : Nat) (c : Int32) : Nat → Bool := fun n => B (o + n) && decide (cz_df n i j ≤ c)
theorem cx_kd {P : SX → Prop} {B : Nat → Bool} {b : Nat → Int32} {z i j : Nat} {c : Int32} (hz : z < 3) (hi : i ≤ 3) (hj : j ≤ 3) (h : P (cz_ba (cz_zs (z * 2197) 2197 (cz_K B (z * 2197) i j c) B), b)) : wpX_keepDifference P (cz_ba B, b) (nI z) (nI i) (nI j) c := by
  unfold wpX_keepDifference
  refine nm_r (cz_m z) ?_
  have H : ∃ n, wX_keepDifference_10 P (nI i) (nI j) c (nI (z * 2197)) n (nI 0) (cz_ba (cz_zs (z * 2197) 0 (cz_K B (z * 2197) i j c) B)) b :=
    cz_lt (W := fun n t => wX_keepDifference_10 P (nI i) (nI j) c (nI (z * 2197)) n (nI t) (cz_ba (cz_zs (z * 2197) t (cz_K B (z * 2197) i j c) B)) b) 2197
      (fun n => br_t cz_ex1 h)
      (fun n t ht K => br_f (cz_in1 ht) (cx_dif ht hi hj (by
        by_cases hd : cz_df t i j ≤ c
        · refine br_t hd (nm_r (nI_1 t) ?_)
          have e : B (z * 2197 + t) = cz_K B (z * 2197) i j c t := by
            show _ = (B (z * 2197 + t) && decide (cz_df t i j ≤ c))
            rw [decide_eq_true hd, Bool.and_true]
          rw [cz_zs_k e] at K
          exact K
        · refine br_f hd (cz_z0 (z * 2197) t (nI_add _ _) (by omega) (by decide) ?_ (nm_r (nI_1 t) K))
          show (B (z * 2197 + t) && decide (cz_df t i j ≤ c)) = false
          rw [decide_eq_false hd, Bool.and_false])))
  rw [cz_zs_0] at H
  exact H
theorem cy_keep {P : Int32 → SY → Prop} {B M : Nat → Bool} {z i j : Nat} {c : Int32} (hz : z < 3) (hi : i ≤ 3) (hj : j ≤ 3) (h : ∀ M' : Nat → Bool, P (cz_bi (cz_an (cz_K B (z * 2197) i j c) 2197)) (cz_ba (cz_zs (z * 2197) 2197 (cz_K B (z * 2197) i j c) B), cz_ba M')) : ∃ n, wY_keep_42 P (nI z) (nI i) (nI j) c n 0 (cz_ba B) (cz_ba M) := by
  have H : ∃ n, wY_keep_42 P (nI z) (nI i) (nI j) c n (nI 0) (cz_ba B) (cz_ba (cz_zs 0 0 (cz_K B (z * 2197) i j c) M)) :=
    cz_lt (W := fun n t => wY_keep_42 P (nI z) (nI i) (nI j) c n (nI t) (cz_ba B) (cz_ba (cz_zs 0 t (cz_K B (z * 2197) i j c) M))) 2197
      (fun n => br_t cz_ex1 (cy_storez hz h))
      (fun n t ht K => br_f (cz_in1 ht) (cy_val ht hi (cy_val ht hj ⟨cz_in (z * 2197 + t) (cz_ix z t) (by omega) (by decide),
        cz_br (B (z * 2197 + t)) (cz_rdb _ (cz_ix z t) (by omega))
          (fun hb => cz_w0 ht (by show (B (z * 2197 + t) && decide (cz_df t i j ≤ c)) = false; rw [hb]; rfl) (nm_r (nI_1 t) K))
          (fun hb => by
            by_cases hd : cz_df t i j ≤ c
            · exact br_f (Int32.not_lt.mpr hd) (cz_w1 ht (by show (B (z * 2197 + t) && decide (cz_df t i j ≤ c)) = true; rw [hb, decide_eq_true hd]; rfl) (nm_r (nI_1 t) K))
            · exact br_t (Int32.not_le.mp hd) (cz_w0 ht (by show (B (z * 2197 + t) && decide (cz_df t i j ≤ c)) = false; rw [decide_eq_false hd, Bool.and_false]) (nm_r (nI_1 t) K)))⟩)))
  rw [cz_zs_0] at H
  exact H
theorem i_vc_keep {k : Nat} {u : SX} {v : SY} (I : i_Rel k u v) (hk : k + 5 ≤ 2560) (v1 : Int32) (v2 : Int32) (v3 : Int32) (v4 : Int32) : wpX_keep (fun r u' => wpY_keep (fun r' v' => r' = r ∧ i_Rel (k + 5) u' v') v v1 v2 v3 v4) u v1 v2 v3 v4 := by
  obtain ⟨B, M, b, rfl, rfl⟩ := I
  unfold wpX_keep wpY_keep
  dsimp only
  rcases cz_zone v1 with ⟨hx, hy⟩ | ⟨z, hz, rfl, hx, hy⟩
  · exact hx _ (br_t rfl (hy _ _ _ (br_f cz_10 ⟨rfl, cz_re _ B M b⟩)))
  rcases cz_pair v2 v3 with ⟨px, py⟩ | ⟨i, j, hi, hj, hij, rfl, rfl, px, py⟩
  · exact hx _ (br_f cz_10 (px _ (br_t rfl (hy _ _ _ (br_t rfl (py _ _ _ (br_f cz_10 ⟨rfl, cz_re _ B M b⟩)))))))
  by_cases h1 : v4 < (-12)
  · exact hx _ (br_f cz_10 (px _ (br_f cz_10 (br_t h1 (hy _ _ _ (br_t rfl (py _ _ _ (br_t rfl (br_t h1 ⟨rfl, cz_re _ B M b⟩)))))))))
  by_cases h2 : v4 ≤ 12
  · exact hx _ (br_f cz_10 (px _ (br_f cz_10 (br_f h1 (br_t h2 (cx_kd hz hi hj (cx_anyz hz (hy _ _ _ (br_t rfl (py _ _ _ (br_t rfl (br_f h1 (br_t h2 (cy_keep hz hi hj (fun M' => ⟨rfl, cz_re _ _ M' b⟩)))))))))))))))
  · exact hx _ (br_f cz_10 (px _ (br_f cz_10 (br_f h1 (br_f h2 (hy _ _ _ (br_t rfl (py _ _ _ (br_t rfl (br_f h1 (br_f h2 ⟨rfl, cz_re _ B M b⟩)))))))))))
