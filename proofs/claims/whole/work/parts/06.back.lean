-- time goes back
def cz_Qg (B : Nat → Bool) (o n : Nat) : Nat → Bool := fun d => decide (cz_rd n 1 + d ≤ 12 ∧ cz_rd n 2 + d ≤ 12 ∧ cz_rd n 3 + d ≤ 12) && B (o + (n + 183 * d))
def cz_Q (B : Nat → Bool) (o : Nat) : Nat → Bool := fun n => cz_an (cz_Qg B o n) 13
theorem cz_Qg_t {B : Nat → Bool} {o n d : Nat} (h : cz_Qg B o n d = true) : (cz_rd n 1 + d ≤ 12 ∧ cz_rd n 2 + d ≤ 12 ∧ cz_rd n 3 + d ≤ 12) ∧ B (o + (n + 183 * d)) = true := by
  have h' := (Bool.and_eq_true _ _).mp h
  exact ⟨of_decide_eq_true h'.1, h'.2⟩
theorem cz_Qg_i {B : Nat → Bool} {o n d : Nat} (h : cz_rd n 1 + d ≤ 12 ∧ cz_rd n 2 + d ≤ 12 ∧ cz_rd n 3 + d ≤ 12) : cz_Qg B o n d = B (o + (n + 183 * d)) := by
  show (decide _ && _) = _
  rw [decide_eq_true h, Bool.true_and]
theorem cz_Qg_f {B : Nat → Bool} {o n d : Nat} (h : ¬ (cz_rd n 1 + d ≤ 12 ∧ cz_rd n 2 + d ≤ 12 ∧ cz_rd n 3 + d ≤ 12)) : cz_Qg B o n d = false := by
  show (decide _ && _) = _
  rw [decide_eq_false h, Bool.false_and]
theorem cz_Q0 {B : Nat → Bool} {o n : Nat} (hn : n < 2197) (h : cz_rd n 1 = 12 ∨ cz_rd n 2 = 12 ∨ cz_rd n 3 = 12) : B (o + n) = cz_Q B o n := by
  have l1 := cz_rd_le hn 1
  have l2 := cz_rd_le hn 2
  have l3 := cz_rd_le hn 3
  have e0 : cz_Qg B o n 0 = B (o + n) := cz_Qg_i (by omega)
  cases hb : B (o + n) with
  | true => exact (cz_an_t (t := 0) (by decide) (by rw [e0, hb])).symm
  | false =>
    refine (cz_an_f (fun t ht => ?_)).symm
    by_cases h0 : t = 0
    · rw [h0, e0, hb]
    · exact cz_Qg_f (by omega)
theorem cz_Q1 {B : Nat → Bool} {o n : Nat} (hn : n < 2197) (h : cz_rd n 1 ≠ 12 ∧ cz_rd n 2 ≠ 12 ∧ cz_rd n 3 ≠ 12) : n + 183 < 2197 ∧ cz_Q B o n = (B (o + n) || cz_Q B o (n + 183)) := by
  have s := cz_sum n
  have l1 := cz_rd_le hn 1
  have l2 := cz_rd_le hn 2
  have l3 := cz_rd_le hn 3
  have e0 : cz_Qg B o n 0 = B (o + n) := cz_Qg_i (by omega)
  have hs : n + 183 = 169 * (cz_rd n 1 + 1) + 13 * (cz_rd n 2 + 1) + (cz_rd n 3 + 1) := by omega
  have dg := cz_dig (a := cz_rd n 1 + 1) (b := cz_rd n 2 + 1) (c := cz_rd n 3 + 1) (by omega) (by omega)
  rw [← hs] at dg
  obtain ⟨d1, d2, d3⟩ := dg
  refine ⟨by omega, ?_⟩
  cases hb : B (o + n) with
  | true => rw [Bool.true_or]; exact cz_an_t (t := 0) (by decide) (by rw [e0, hb])
  | false =>
    rw [Bool.false_or]
    cases hp : cz_Q B o (n + 183) with
    | true =>
      obtain ⟨t, ht, e⟩ := cz_an_x hp
      obtain ⟨c, e⟩ := cz_Qg_t e
      have hc : cz_rd n 1 + (t + 1) ≤ 12 ∧ cz_rd n 2 + (t + 1) ≤ 12 ∧ cz_rd n 3 + (t + 1) ≤ 12 := by omega
      refine cz_an_t (t := t + 1) (by omega) ?_
      rw [cz_Qg_i hc, ← e]
      congr 1
      omega
    | false =>
      refine cz_an_f (fun t ht => ?_)
      by_cases h0 : t = 0
      · rw [h0, e0, hb]
      · by_cases hc : cz_rd n 1 + t ≤ 12 ∧ cz_rd n 2 + t ≤ 12 ∧ cz_rd n 3 + t ≤ 12
        · cases hg : cz_Qg B o n t with
          | false => rfl
          | true =>
            exfalso
            rw [cz_Qg_i hc] at hg
            have hx : cz_Q B o (n + 183) = true := by
              refine cz_an_t (t := t - 1) (by omega) ?_
              rw [cz_Qg_i (by omega), ← hg]
              congr 1
              omega
            rw [hp] at hx
            exact absurd hx (by decide)
        · exact cz_Qg_f hc
-- the picture from above: places from m on
def cz_zd (o m : Nat) (f : Nat → Bool) (B : Nat → Bool) : Nat → Bool := fun j => if o + m ≤ j ∧ j < o + 2197 then f (j - o) else B j
theorem cz_zd_0 (o : Nat) (f B : Nat → Bool) : cz_zd o 0 f B = cz_zs o 2197 f B := by
  funext j
  unfold cz_zd cz_zs
  rw [Nat.add_zero]
theorem cz_zd_s {o m : Nat} (hm : m < 2197) (f B : Nat → Bool) (j : Nat) : cz_zd o m f B j = if j = o + m then f m else cz_zd o (m + 1) f B j := by
  unfold cz_zd
  by_cases h : j = o + m
  · rw [if_pos h, if_pos (by omega), h, Nat.add_sub_cancel_left]
  · rw [if_neg h]
    by_cases h2 : o + (m + 1) ≤ j ∧ j < o + 2197
    · rw [if_pos h2, if_pos (by omega)]
    · rw [if_neg h2, if_neg (by omega)]
theorem cz_zd_in {o m n : Nat} (f B : Nat → Bool) (h : m ≤ n) (hn : n < 2197) : cz_zd o m f B (o + n) = f n := by
  unfold cz_zd
  rw [if_pos (by omega), Nat.add_sub_cancel_left]
theorem cz_zd_k {o m : Nat} {f B : Nat → Bool} (hm : m < 2197) (h : B (o + m) = f m) : cz_zd o m f B = cz_zd o (m + 1) f B := by
  funext j
  rw [cz_zd_s hm]
  by_cases hj : j = o + m
  · rw [if_pos hj, hj, ← h]
    exact (if_neg (by omega)).symm
  · rw [if_neg hj]
theorem cz_zd_e {o m : Nat} {f B : Nat → Bool} (h : ∀ n, m ≤ n → n < 2197 → B (o + n) = f n) : cz_zd o m f B = B := by
  funext j
  unfold cz_zd
  by_cases hm : o + m ≤ j ∧ j < o + 2197
  · rw [if_pos hm, ← h (j - o) (by omega) (by omega)]
    congr 1
    omega
  · rw [if_neg hm]
theorem cz_dn {W : Nat → Nat → Prop} (e : Nat) (hx : ∀ n, W (n + 1) 0) (hs : ∀ n m, m < e → W n m → W (n + 1) (m + 1)) : ∃ n, W n e := by
  have H : ∀ m, m ≤ e → W (m + 1) m := by
    intro m
    induction m with
    | zero => exact fun _ => hx 0
    | succ m ih => exact fun h => hs (m + 1) m (by omega) (ih (by omega))
  exact ⟨_, H e (Nat.le_refl _)⟩
theorem cx_back {P : Int32 → SX → Prop} {B : Nat → Bool} {b : Nat → Int32} {z : Nat} (hz : z < 3) (h : P (cz_bi (cz_an (cz_Q B (z * 2197)) 2197)) (cz_ba (cz_zs (z * 2197) 2197 (cz_Q B (z * 2197)) B), b)) : ∃ n, wX_back_19 P (nI z) (nI (z * 2197)) n 2013 (cz_ba B) b := by
  have H : ∃ n, wX_back_19 P (nI z) (nI (z * 2197)) n (nI 2014 + (-1)) (cz_ba (cz_zd (z * 2197) 2014 (cz_Q B (z * 2197)) B)) b :=
    cz_dn (W := fun n m => wX_back_19 P (nI z) (nI (z * 2197)) n (nI m + (-1)) (cz_ba (cz_zd (z * 2197) m (cz_Q B (z * 2197)) B)) b) 2014
      (fun n => br_t (by decide) (by rw [cz_zd_0]; exact cx_anyz hz h))
      (fun n m hm K => by
        rw [pk_m1]
        have ei : nI (z * 2197) + nI m + 183 = nI (z * 2197 + (m + 183)) := by
          rw [show (183 : Int32) = nI 183 from rfl, nI_add, nI_add, Nat.add_assoc]
        have er : cz_ba (cz_zd (z * 2197) (m + 1) (cz_Q B (z * 2197)) B) (nI (z * 2197) + nI m + 183).toNatClampNeg = cz_bi (cz_Q B (z * 2197) (m + 183)) := by
          rw [cz_rdb _ ei (by omega), cz_zd_in _ _ (by omega) (by omega)]
        have same : B (z * 2197 + m) = cz_Q B (z * 2197) m → wX_back_19 P (nI z) (nI (z * 2197)) n (nI m + (-1)) (cz_ba (cz_zd (z * 2197) (m + 1) (cz_Q B (z * 2197)) B)) b := fun e => by
          try dsimp only at K
          rw [cz_zd_k (by omega) e] at K
          exact K
        refine br_f (nI_pos (by omega)) ⟨cz_in _ ei (by omega) (by decide), cz_br _ er (fun f => ?_) (fun f => ?_)⟩
        · refine nm_e (same ?_)
          by_cases hc : cz_rd m 1 ≠ 12 ∧ cz_rd m 2 ≠ 12 ∧ cz_rd m 3 ≠ 12
          · rw [(cz_Q1 (by omega) hc).2, f, Bool.or_false]
          · exact cz_Q0 (by omega) (by omega)
        · refine cx_ncr (m := 12) (by omega) (by decide) (fun hc => ?_) (fun hc => ?_)
          · exact br_f cz_10 (cz_st (z * 2197 + m) (cz_Q B (z * 2197) m) (nI_add _ _) (by omega) (by decide) (by rw [(cz_Q1 (by omega) hc).2, f, Bool.or_true]; rfl) (cz_zd_s (by omega) _ _) (nm_e K))
          · exact br_t rfl (nm_e (same (cz_Q0 (by omega) hc))))
  rw [cz_zd_e, pk_m1] at H
  · exact H
  · intro n hn h2
    refine cz_Q0 h2 ?_
    have s := cz_sum n
    have l1 := cz_rd_le h2 1
    have l2 := cz_rd_le h2 2
    have l3 := cz_rd_le h2 3
    omega
theorem cy_sh2 {P : Int32 → Prop} {B : Nat → Bool} {b : Nat → Int32} {z p : Nat} (hz : z < 3) (hp : p < 2197) (h : P (cz_bi (cz_Q B (z * 2197) p))) : wpY_shifted P (cz_ba B, b) (nI z) (nI p) 1 := by
  have l1 := cz_rd_le hp 1
  have l2 := cz_rd_le hp 2
  have l3 := cz_rd_le hp 3
  have s := cz_sum p
  unfold wpY_shifted
  refine cy_val (k := 1) hp (by decide) (cy_val (k := 2) hp (by decide) (cy_val (k := 3) hp (by decide) ?_))
  exact cz_lo (W := fun n d => wY_shifted_27 P (nI z) (nI p) 1 (nI (cz_rd p 1)) (nI (cz_rd p 2)) (nI (cz_rd p 3)) (cz_ba B) b n (nI d)) (fun d => ∀ t, t < d → cz_Qg B (z * 2197) p t = false) 13 0 (by decide) (fun t ht => by omega)
    (fun H n => br_t (nI_lt (a := 12) (by decide) (by decide)) (by unfold cz_Q at h; rw [cz_an_f H] at h; exact h))
    (fun n d hd H K => br_f (nI_nlt (a := 12) (by omega) (by decide)) (nm_e (cy_tree
      (fun q => by
        rw [cz_okU l1 (by omega), cz_okU l2 (by omega), cz_okU l3 (by omega)] at q
        refine br_f cz_10 ⟨cz_in _ cz_ixU (by omega) (by decide), cz_br _ (cz_rdb _ cz_ixU (by omega)) (fun f => ?_) (fun f => ?_)⟩
        · exact nm_r (nI_1 d) (K (lt_s H (by rw [cz_Qg_i q]; exact f)))
        · unfold cz_Q at h
          rw [cz_an_t (t := d) hd (by rw [cz_Qg_i q]; exact f)] at h
          exact h)
      (fun q => by
        rw [cz_okU l1 (by omega), cz_okU l2 (by omega), cz_okU l3 (by omega)] at q
        exact br_t rfl (nm_r (nI_1 d) (K (lt_s H (cz_Qg_f q))))))))
theorem cy_back {P : Int32 → SY → Prop} {B M : Nat → Bool} {z : Nat} (hz : z < 3) (h : ∀ M' : Nat → Bool, P (cz_bi (cz_an (cz_Q B (z * 2197)) 2197)) (cz_ba (cz_zs (z * 2197) 2197 (cz_Q B (z * 2197)) B), cz_ba M')) : ∃ n, wY_back_12 P (nI z) n 0 (cz_ba B) (cz_ba M) := by
  have H : ∃ n, wY_back_12 P (nI z) n (nI 0) (cz_ba B) (cz_ba (cz_zs 0 0 (cz_Q B (z * 2197)) M)) :=
    cz_lt (W := fun n i => wY_back_12 P (nI z) n (nI i) (cz_ba B) (cz_ba (cz_zs 0 i (cz_Q B (z * 2197)) M))) 2197
      (fun n => br_t cz_ex1 (cy_storez hz h))
      (fun n i hi K => br_f (cz_in1 hi) (cy_sh2 hz hi (cz_wb hi (cz_nb _) (nm_r (nI_1 i) K))))
  rw [cz_zs_0] at H
  exact H
theorem i_vc_back {k : Nat} {u : SX} {v : SY} (I : i_Rel k u v) (hk : k + 5 ≤ 2560) (v1 : Int32) : wpX_back (fun r u' => wpY_back (fun r' v' => r' = r ∧ i_Rel (k + 5) u' v') v v1) u v1 := by
  obtain ⟨B, M, b, rfl, rfl⟩ := I
  unfold wpX_back wpY_back
  dsimp only
  rcases cz_zone v1 with ⟨hx, hy⟩ | ⟨z, hz, rfl, hx, hy⟩
  · exact hx _ (br_t rfl (hy _ _ _ (br_f cz_10 ⟨rfl, cz_re _ B M b⟩)))
  · exact hx _ (br_f cz_10 (nm_r (cz_m z) (cx_back hz (hy _ _ _ (br_t rfl (cy_back hz (fun M' => ⟨rfl, cz_re _ _ M' b⟩)))))))
