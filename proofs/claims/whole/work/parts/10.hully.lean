-- hull: the reference's side
theorem cy_drop {P : SY → Prop} {B : Nat → Bool} {b : Nat → Int32} {z i j : Nat} {c : Int32} (hz : z < 3) (hi : i ≤ 3) (hj : j ≤ 3) (h : P (cz_ba (cz_zs (z * 2197) 2197 (cz_K B (z * 2197) i j c) B), b)) : wpY_drop P (cz_ba B, b) (nI z) (nI i) (nI j) c := by
  unfold wpY_drop
  have H : ∃ n, wY_drop_3 P (nI z) (nI i) (nI j) c n (nI 0) (cz_ba (cz_zs (z * 2197) 0 (cz_K B (z * 2197) i j c) B)) b :=
    cz_lt (W := fun n t => wY_drop_3 P (nI z) (nI i) (nI j) c n (nI t) (cz_ba (cz_zs (z * 2197) t (cz_K B (z * 2197) i j c) B)) b) 2197
      (fun n => br_t cz_ex1 h)
      (fun n t ht K => br_f (cz_in1 ht) (cy_val ht hi (cy_val ht hj (by
        by_cases hd : cz_df t i j ≤ c
        · refine br_t hd (nm_r (nI_1 t) ?_)
          have e : B (z * 2197 + t) = cz_K B (z * 2197) i j c t := by
            show _ = (B (z * 2197 + t) && decide (cz_df t i j ≤ c))
            rw [decide_eq_true hd, Bool.and_true]
          rw [cz_zs_k e] at K
          exact K
        · refine br_f hd (cz_z0 (z * 2197) t (cz_ix z t) (by omega) (by decide) ?_ (nm_r (nI_1 t) K))
          show (B (z * 2197 + t) && decide (cz_df t i j ≤ c)) = false
          rw [decide_eq_false hd, Bool.and_false]))))
  rw [cz_zs_0] at H
  exact H
def cz_Y (G : Nat → Int32) (k : Nat) : Nat → Bool := fun n => cz_al (cz_Hg G n) k
theorem cy_h104 {P : Int32 → SY → Prop} {B M S : Nat → Bool} {z : Nat} (hz : z < 3) (hM : ∀ n, n < 2197 → M n = S n)
    (h : P (cz_bi (cz_an (cz_H (cz_G (-100) S)) 2197)) (cz_ba (cz_zs (z * 2197) 2197 (cz_H (cz_G (-100) S)) B), cz_ba M)) :
    ∃ n, wY_hull_104 P (nI z) n 0 (cz_ba (cz_zs (z * 2197) 2197 cz_T B)) (cz_ba M) := by
  exact cz_lt (W := fun n k => wY_hull_104 P (nI z) n (nI k) (cz_ba (cz_zs (z * 2197) 2197 (cz_Y (cz_G (-100) S) k) B)) (cz_ba M)) 16
    (fun n => br_t (nI_le (a := 16) (Nat.le_refl _) (by decide)) (cy_somez hz h))
    (fun n k hk K => br_f (nI_ge (b := 16) hk (by decide)) ⟨by decide, nm_r (pk_div (d := 4) (by omega) (by decide) (by decide)) ⟨by decide, nm_r (pk_rem (d := 4) (by omega) (by decide) (by decide))
      (cy_gr (by omega) (by omega) (cy_drop hz (by omega) (by omega) (by
        rw [cz_grc hM]
        have e : cz_zs (z * 2197) 2197 (cz_K (cz_zs (z * 2197) 2197 (cz_Y (cz_G (-100) S) k) B) (z * 2197) (k / 4) (k % 4) (cz_gr (-100) S (k / 4) (k % 4) 2197)) (cz_zs (z * 2197) 2197 (cz_Y (cz_G (-100) S) k) B)
            = cz_zs (z * 2197) 2197 (cz_Y (cz_G (-100) S) (k + 1)) B := by
          rw [cz_zs_z]
          refine cz_zs_c B (fun n hn => ?_)
          show (cz_zs (z * 2197) 2197 (cz_Y (cz_G (-100) S) k) B (z * 2197 + n) && _) = _
          rw [cz_zs_in _ _ hn]
          rfl
        rw [e]
        exact nm_r (nI_1 k) K)))⟩⟩)
theorem cy_h76 {P : Int32 → SY → Prop} {B M : Nat → Bool} {z : Nat} (hz : z < 3) (h : ∃ n, wY_hull_104 P (nI z) n 0 (cz_ba (cz_zs (z * 2197) 2197 cz_T B)) (cz_ba M)) : ∃ n, wY_hull_76 P (nI z) n 0 (cz_ba B) (cz_ba M) := by
  have H : ∃ n, wY_hull_76 P (nI z) n (nI 0) (cz_ba (cz_zs (z * 2197) 0 cz_T B)) (cz_ba M) :=
    cz_lt (W := fun n i => wY_hull_76 P (nI z) n (nI i) (cz_ba (cz_zs (z * 2197) i cz_T B)) (cz_ba M)) 2197
      (fun n => br_t cz_ex1 h)
      (fun n i hi K => br_f (cz_in1 hi) (cz_z1 (z * 2197) i (cz_ix z i) (by omega) (by decide) rfl (nm_r (nI_1 i) K)))
  rw [cz_zs_0] at H
  exact H
theorem cy_hull {P : Int32 → SY → Prop} {B M : Nat → Bool} {y z : Nat} (hy : y < 3) (hz : z < 3)
    (h : ∀ M' : Nat → Bool, P (cz_bi (cz_an (cz_H (cz_G (-100) (cz_J B y z))) 2197)) (cz_ba (cz_zs (y * 2197) 2197 (cz_H (cz_G (-100) (cz_J B y z))) B), cz_ba M')) :
    ∃ n, wY_hull_20 P (nI y) (nI z) n 0 (cz_ba B) (cz_ba M) := by
  have H : ∃ n, wY_hull_20 P (nI y) (nI z) n (nI 0) (cz_ba B) (cz_ba (cz_zs 0 0 (cz_J B y z) M)) :=
    cz_lt (W := fun n i => wY_hull_20 P (nI y) (nI z) n (nI i) (cz_ba B) (cz_ba (cz_zs 0 i (cz_J B y z) M))) 2197
      (fun n => br_t cz_ex1 (cy_h76 hy (cy_h104 hy (S := cz_J B y z) (fun n hn => cz_m0 hn) (h _))))
      (fun n i hi K => br_f (cz_in1 hi) ⟨cz_in (y * 2197 + i) (cz_ix y i) (by omega) (by decide),
        cz_br (B (y * 2197 + i)) (cz_rdb _ (cz_ix y i) (by omega))
          (fun h0 => ⟨cz_in (z * 2197 + i) (cz_ix z i) (by omega) (by decide),
            cz_br (B (z * 2197 + i)) (cz_rdb _ (cz_ix z i) (by omega))
              (fun h1 => cz_w0 hi (cz_J2 h0 h1) (nm_r (nI_1 i) K))
              (fun h1 => cz_w1 hi (cz_J1 h1) (nm_r (nI_1 i) K))⟩)
          (fun h0 => cz_w1 hi (cz_J0 h0) (nm_r (nI_1 i) K))⟩)
  rw [cz_zs_0] at H
  exact H
theorem cz_hxy (S : Nat → Bool) {n : Nat} (hn : n < 2197) : cz_H (cz_G (-13) S) n = cz_H (cz_G (-100) S) n := by
  refine cz_al_c (fun k hk => ?_)
  unfold cz_Hg cz_G
  have hd := cz_df_b hn (k / 4) (k % 4)
  rcases cz_grb S (k / 4) (k % 4) 2197 (Nat.le_refl _) with ⟨e1, e2⟩ | ⟨e1, e2⟩
  · rw [e1, e2]
    have a1 : ¬ cz_df n (k / 4) (k % 4) ≤ -13 := by
      rw [Int32.le_iff_toInt_le, show (-13 : Int32).toInt = -13 from rfl]; omega
    have a2 : ¬ cz_df n (k / 4) (k % 4) ≤ -100 := by
      rw [Int32.le_iff_toInt_le, show (-100 : Int32).toInt = -100 from rfl]; omega
    rw [decide_eq_false a1, decide_eq_false a2]
  · rw [e1]
theorem i_vc_hull {k : Nat} {u : SX} {v : SY} (I : i_Rel k u v) (hk : k + 5 ≤ 2560) (v1 : Int32) (v2 : Int32) : wpX_hull (fun r u' => wpY_hull (fun r' v' => r' = r ∧ i_Rel (k + 5) u' v') v v1 v2) u v1 v2 := by
  obtain ⟨B, M, b, rfl, rfl⟩ := I
  unfold wpX_hull wpY_hull
  dsimp only
  rcases cz_zone v1 with ⟨hx, hy⟩ | ⟨y, hz, rfl, hx, hy⟩
  · exact hx _ (br_t rfl (hy _ _ _ (br_f cz_10 ⟨rfl, cz_re _ B M b⟩)))
  rcases cz_zone v2 with ⟨gx, gy⟩ | ⟨z, gz, rfl, gx, gy⟩
  · exact hx _ (br_f cz_10 (gx _ (br_t rfl (hy _ _ _ (br_t rfl (gy _ _ _ (br_f cz_10 ⟨rfl, cz_re _ B M b⟩)))))))
  have e : ∀ n, n < 2197 → cz_H (cz_G (-13) (cz_J B y z)) n = cz_H (cz_G (-100) (cz_J B y z)) n := fun n hn => cz_hxy _ hn
  refine hx _ (br_f cz_10 (gx _ (br_f cz_10 (cx_hull hz gz (fun b' => ?_)))))
  rw [cz_zs_c B e]
  exact cx_anyz hz (hy _ _ _ (br_t rfl (gy _ _ _ (br_t rfl (cy_hull hz gz (fun M' => ⟨rfl, cz_re _ _ M' b'⟩))))))
