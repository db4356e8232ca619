-- meet
def cz_M (B : Nat → Bool) (y z : Nat) : Nat → Bool := fun n => B (y * 2197 + n) && B (z * 2197 + n)
theorem cz_M0 {B : Nat → Bool} {y z n : Nat} (h : B (y * 2197 + n) = false) : cz_M B y z n = false := by
  show (B (y * 2197 + n) && B (z * 2197 + n)) = false
  rw [h]; rfl
theorem cz_M1 {B : Nat → Bool} {y z n : Nat} (h : B (z * 2197 + n) = false) : cz_M B y z n = false := by
  show (B (y * 2197 + n) && B (z * 2197 + n)) = false
  rw [h, Bool.and_false]
theorem cz_M2 {B : Nat → Bool} {y z n : Nat} (h : B (y * 2197 + n) = true) (h' : B (z * 2197 + n) = true) : cz_M B y z n = true := by
  show (B (y * 2197 + n) && B (z * 2197 + n)) = true
  rw [h, h']; rfl
theorem cx_meet {P : Int32 → SX → Prop} {B : Nat → Bool} {b : Nat → Int32} {y z : Nat} (hy : y < 3) (hz : z < 3) (h : P (cz_bi (cz_an (cz_M B y z) 2197)) (cz_ba (cz_zs (y * 2197) 2197 (cz_M B y z) B), b)) : ∃ n, wX_meet_32 P (nI y) (nI (y * 2197)) (nI (z * 2197)) n 0 (cz_ba B) b := by
  have H : ∃ n, wX_meet_32 P (nI y) (nI (y * 2197)) (nI (z * 2197)) n (nI 0) (cz_ba (cz_zs (y * 2197) 0 (cz_M B y z) B)) b :=
    cz_lt (W := fun n i => wX_meet_32 P (nI y) (nI (y * 2197)) (nI (z * 2197)) n (nI i) (cz_ba (cz_zs (y * 2197) i (cz_M B y z) B)) b) 2197
      (fun n => br_t cz_ex1 (cx_anyz hy h))
      (fun n i hi K => br_f (cz_in1 hi) ⟨cz_in (y * 2197 + i) (nI_add _ _) (by omega) (by decide),
        cz_br (B (y * 2197 + i)) (cz_rz (nI_add _ _) (Nat.le_refl _) hi hy)
          (fun h0 => cz_z0 (y * 2197) i (nI_add _ _) (by omega) (by decide) (cz_M0 h0) (nm_r (nI_1 i) K))
          (fun h0 => ⟨cz_in (z * 2197 + i) (nI_add _ _) (by omega) (by decide),
            cz_br (B (z * 2197 + i)) (cz_rz (nI_add _ _) (Nat.le_refl _) hi hz)
              (fun h1 => cz_z0 (y * 2197) i (nI_add _ _) (by omega) (by decide) (cz_M1 h1) (nm_r (nI_1 i) K))
              (fun h1 => cz_z1 (y * 2197) i (nI_add _ _) (by omega) (by decide) (cz_M2 h0 h1) (nm_r (nI_1 i) K))⟩)⟩)
  rw [cz_zs_0] at H
  exact H
theorem cy_meet {P : Int32 → SY → Prop} {B M : Nat → Bool} {y z : Nat} (hy : y < 3) (hz : z < 3) (h : ∀ M' : Nat → Bool, P (cz_bi (cz_an (cz_M B y z) 2197)) (cz_ba (cz_zs (y * 2197) 2197 (cz_M B y z) B), cz_ba M')) : ∃ n, wY_meet_20 P (nI y) (nI z) n 0 (cz_ba B) (cz_ba M) := by
  have H : ∃ n, wY_meet_20 P (nI y) (nI z) n (nI 0) (cz_ba B) (cz_ba (cz_zs 0 0 (cz_M B y z) M)) :=
    cz_lt (W := fun n i => wY_meet_20 P (nI y) (nI z) n (nI i) (cz_ba B) (cz_ba (cz_zs 0 i (cz_M B y z) M))) 2197
      (fun n => br_t cz_ex1 (cy_storez hy h))
      (fun n i hi K => br_f (cz_in1 hi) ⟨cz_in (y * 2197 + i) (cz_ix y i) (by omega) (by decide),
        cz_br (B (y * 2197 + i)) (cz_rdb _ (cz_ix y i) (by omega))
          (fun h0 => cz_w0 hi (cz_M0 h0) (nm_r (nI_1 i) K))
          (fun h0 => ⟨cz_in (z * 2197 + i) (cz_ix z i) (by omega) (by decide),
            cz_br (B (z * 2197 + i)) (cz_rdb _ (cz_ix z i) (by omega))
              (fun h1 => cz_w0 hi (cz_M1 h1) (nm_r (nI_1 i) K))
              (fun h1 => cz_w1 hi (cz_M2 h0 h1) (nm_r (nI_1 i) K))⟩)⟩)
  rw [cz_zs_0] at H
  exact H
theorem i_vc_meet {k : Nat} {u : SX} {v : SY} (I : i_Rel k u v) (hk : k + 5 ≤ 2560) (v1 : Int32) (v2 : Int32) : wpX_meet (fun r u' => wpY_meet (fun r' v' => r' = r ∧ i_Rel (k + 5) u' v') v v1 v2) u v1 v2 := by
  obtain ⟨B, M, b, rfl, rfl⟩ := I
  unfold wpX_meet wpY_meet
  dsimp only
  rcases cz_zone v1 with ⟨hx, hy⟩ | ⟨y, hz, rfl, hx, hy⟩
  · exact hx _ (br_t rfl (hy _ _ _ (br_f cz_10 ⟨rfl, cz_re _ B M b⟩)))
  rcases cz_zone v2 with ⟨gx, gy⟩ | ⟨z, gz, rfl, gx, gy⟩
  · exact hx _ (br_f cz_10 (gx _ (br_t rfl (hy _ _ _ (br_t rfl (gy _ _ _ (br_f cz_10 ⟨rfl, cz_re _ B M b⟩)))))))
  · exact hx _ (br_f cz_10 (gx _ (br_f cz_10 (nm_r (cz_m y) (nm_r (cz_m z) (cx_meet hz gz (hy _ _ _ (br_t rfl (gy _ _ _ (br_t rfl (cy_meet hz gz (fun M' => ⟨rfl, cz_re _ _ M' b⟩))))))))))))
-- copy
def cz_C (B : Nat → Bool) (z : Nat) : Nat → Bool := fun n => B (z * 2197 + n)
theorem cx_copy {P : Int32 → SX → Prop} {B : Nat → Bool} {b : Nat → Int32} {y z : Nat} (hy : y < 3) (hz : z < 3) (h : P 0 (cz_ba (cz_zs (y * 2197) 2197 (cz_C B z) B), b)) : ∃ n, wX_copy_32 P (nI (y * 2197)) (nI (z * 2197)) n 0 (cz_ba B) b := by
  have H : ∃ n, wX_copy_32 P (nI (y * 2197)) (nI (z * 2197)) n (nI 0) (cz_ba (cz_zs (y * 2197) 0 (cz_C B z) B)) b :=
    cz_lt (W := fun n i => wX_copy_32 P (nI (y * 2197)) (nI (z * 2197)) n (nI i) (cz_ba (cz_zs (y * 2197) i (cz_C B z) B)) b) 2197
      (fun n => br_t cz_ex1 h)
      (fun n i hi K => br_f (cz_in1 hi) ⟨cz_in (z * 2197 + i) (nI_add _ _) (by omega) (by decide),
        cz_zb (y * 2197) i (nI_add _ _) (by omega) (by decide) (by rw [cz_rz (w := z) (nI_add _ _) (Nat.le_refl _) hi hz]; exact cz_nb _) (nm_r (nI_1 i) K)⟩)
  rw [cz_zs_0] at H
  exact H
theorem cy_copy {P : Int32 → SY → Prop} {B : Nat → Bool} {b : Nat → Int32} {y z : Nat} (hy : y < 3) (hz : z < 3) (h : P 0 (cz_ba (cz_zs (y * 2197) 2197 (cz_C B z) B), b)) : ∃ n, wY_copy_20 P (nI y) (nI z) n 0 (cz_ba B) b := by
  have H : ∃ n, wY_copy_20 P (nI y) (nI z) n (nI 0) (cz_ba (cz_zs (y * 2197) 0 (cz_C B z) B)) b :=
    cz_lt (W := fun n i => wY_copy_20 P (nI y) (nI z) n (nI i) (cz_ba (cz_zs (y * 2197) i (cz_C B z) B)) b) 2197
      (fun n => br_t cz_ex1 h)
      (fun n i hi K => br_f (cz_in1 hi) ⟨cz_in (z * 2197 + i) (cz_ix z i) (by omega) (by decide),
        cz_zb (y * 2197) i (cz_ix y i) (by omega) (by decide) (by rw [cz_rz (w := z) (cz_ix z i) (Nat.le_refl _) hi hz]; exact cz_nb _) (nm_r (nI_1 i) K)⟩)
  rw [cz_zs_0] at H
  exact H
theorem i_vc_copy {k : Nat} {u : SX} {v : SY} (I : i_Rel k u v) (hk : k + 5 ≤ 2560) (v1 : Int32) (v2 : Int32) : wpX_copy (fun r u' => wpY_copy (fun r' v' => r' = r ∧ i_Rel (k + 5) u' v') v v1 v2) u v1 v2 := by
  obtain ⟨B, M, b, rfl, rfl⟩ := I
  unfold wpX_copy wpY_copy
  dsimp only
  rcases cz_zone v1 with ⟨hx, hy⟩ | ⟨y, hz, rfl, hx, hy⟩
  · exact hx _ (br_t rfl (hy _ _ _ (br_f cz_10 ⟨rfl, cz_re _ B M b⟩)))
  rcases cz_zone v2 with ⟨gx, gy⟩ | ⟨z, gz, rfl, gx, gy⟩
  · exact hx _ (br_f cz_10 (gx _ (br_t rfl (hy _ _ _ (br_t rfl (gy _ _ _ (br_f cz_10 ⟨rfl, cz_re _ B M b⟩)))))))
  · exact hx _ (br_f cz_10 (gx _ (br_f cz_10 (nm_r (cz_m y) (nm_r (cz_m z) (cx_copy hz gz (hy _ _ _ (br_t rfl (gy _ _ _ (br_t rfl (cy_copy hz gz ⟨rfl, cz_re _ _ M b⟩)))))))))))
-- empty
theorem i_vc_empty {k : Nat} {u : SX} {v : SY} (I : i_Rel k u v) (hk : k + 5 ≤ 2560) (v1 : Int32) : wpX_empty (fun r => wpY_empty (fun r' => r' = r ∧ i_Rel (k + 5) u v) v v1) u v1 := by
  obtain ⟨B, M, b, rfl, rfl⟩ := I
  unfold wpX_empty wpY_empty
  dsimp only
  rcases cz_zone v1 with ⟨hx, hy⟩ | ⟨z, hz, rfl, hx, hy⟩
  · exact hx _ (br_t rfl (hy _ _ _ (br_f cz_10 ⟨rfl, cz_re _ B M b⟩)))
  · exact hx _ (br_f cz_10 (cx_any hz (hy _ _ _ (br_t rfl (cy_some hz ⟨rfl, cz_re _ B M b⟩)))))
-- size
def cz_ct (g : Nat → Bool) : Nat → Int32
  | 0 => 0
  | n + 1 => if g n = true then cz_ct g n + 1 else cz_ct g n
theorem cz_ct0 {g : Nat → Bool} {n : Nat} (h : g n = false) : cz_ct g (n + 1) = cz_ct g n := if_neg (by rw [h]; decide)
theorem cz_ct1 {g : Nat → Bool} {n : Nat} (h : g n = true) : cz_ct g (n + 1) = cz_ct g n + 1 := if_pos h
theorem cx_size {P : Int32 → Prop} {B : Nat → Bool} {b : Nat → Int32} {z : Nat} (hz : z < 3) (h : P (cz_ct (cz_C B z) 2197)) : ∃ n, wX_size_20 P (nI (z * 2197)) (cz_ba B) b n 0 0 :=
  cz_lt (W := fun n i => wX_size_20 P (nI (z * 2197)) (cz_ba B) b n (cz_ct (cz_C B z) i) (nI i)) 2197
    (fun n => br_t cz_ex1 h)
    (fun n i hi K => br_f (cz_in1 hi) ⟨cz_in (z * 2197 + i) (nI_add _ _) (by omega) (by decide),
      cz_br (B (z * 2197 + i)) (cz_rdb _ (nI_add _ _) (by omega))
        (fun f => nm_r (nI_1 i) (by rw [cz_ct0 (g := cz_C B z) f] at K; exact K))
        (fun f => nm_r (cz_ct1 (g := cz_C B z) f).symm (nm_r (nI_1 i) K))⟩)
theorem cy_size {P : Int32 → Prop} {B : Nat → Bool} {b : Nat → Int32} {z : Nat} (hz : z < 3) (h : P (cz_ct (cz_C B z) 2197)) : ∃ n, wY_size_14 P (nI z) (cz_ba B) b n 0 0 :=
  cz_lt (W := fun n i => wY_size_14 P (nI z) (cz_ba B) b n (cz_ct (cz_C B z) i) (nI i)) 2197
    (fun n => br_t cz_ex1 h)
    (fun n i hi K => br_f (cz_in1 hi) ⟨cz_in (z * 2197 + i) (cz_ix z i) (by omega) (by decide),
      cz_br (B (z * 2197 + i)) (cz_rdb _ (cz_ix z i) (by omega))
        (fun f => nm_r (nI_1 i) (by rw [cz_ct0 (g := cz_C B z) f] at K; exact K))
        (fun f => nm_r (cz_ct1 (g := cz_C B z) f).symm (nm_r (nI_1 i) K))⟩)
theorem i_vc_size {k : Nat} {u : SX} {v : SY} (I : i_Rel k u v) (hk : k + 5 ≤ 2560) (v1 : Int32) : wpX_size (fun r => wpY_size (fun r' => r' = r ∧ i_Rel (k + 5) u v) v v1) u v1 := by
  obtain ⟨B, M, b, rfl, rfl⟩ := I
  unfold wpX_size wpY_size
  dsimp only
  rcases cz_zone v1 with ⟨hx, hy⟩ | ⟨z, hz, rfl, hx, hy⟩
  · exact hx _ (br_t rfl (hy _ _ _ (br_f cz_10 ⟨rfl, cz_re _ B M b⟩)))
  · exact hx _ (br_f cz_10 (nm_r (cz_m z) (cx_size hz (hy _ _ _ (br_t rfl (cy_size hz ⟨rfl, cz_re _ B M b⟩))))))
-- scans of both sides
theorem cz_scan {WX WY : (Int32 → Prop) → Nat → Nat → Prop} (e : Nat) (r0 : Int32) (hX : ∀ P n, P r0 → WX P (n + 1) e) (hY : ∀ P n, P r0 → WY P (n + 1) e)
    (hs : ∀ i, i < e → (∃ r, (∀ P n, P r → WX P (n + 1) i) ∧ (∀ P n, P r → WY P (n + 1) i)) ∨ ((∀ P n, WX P n (i + 1) → WX P (n + 1) i) ∧ (∀ P n, WY P n (i + 1) → WY P (n + 1) i))) :
    ∃ r, (∀ P, P r → ∃ n, WX P n 0) ∧ (∀ P, P r → ∃ n, WY P n 0) := by
  have H : ∀ d i, i + d = e → ∃ r, (∀ P, P r → WX P (d + 1) i) ∧ (∀ P, P r → WY P (d + 1) i) := by
    intro d
    induction d with
    | zero =>
      intro i hi
      have : i = e := by omega
      subst this
      exact ⟨r0, fun P p => hX P 0 p, fun P p => hY P 0 p⟩
    | succ d ih =>
      intro i hi
      rcases hs i (by omega) with ⟨r, h1, h2⟩ | ⟨h1, h2⟩
      · exact ⟨r, fun P p => h1 P _ p, fun P p => h2 P _ p⟩
      · obtain ⟨r, g1, g2⟩ := ih (i + 1) (by omega)
        exact ⟨r, fun P p => h1 P _ (g1 P p), fun P p => h2 P _ (g2 P p)⟩
  obtain ⟨r, h1, h2⟩ := H e 0 (by omega)
  exact ⟨r, fun P p => ⟨_, h1 P p⟩, fun P p => ⟨_, h2 P p⟩⟩
-- next
theorem cz_next (B : Nat → Bool) (b b' : Nat → Int32) {z : Nat} (hz : z < 3) (a : Int32) :
    ∃ r, (∀ P, P r → ∃ n, wX_next_18 P a (nI (z * 2197)) (cz_ba B) b n 0) ∧ (∀ P, P r → ∃ n, wY_next_12 P (nI z) a (cz_ba B) b' n 0) := by
  refine cz_scan (WX := fun P n i => wX_next_18 P a (nI (z * 2197)) (cz_ba B) b n (nI i)) (WY := fun P n i => wY_next_12 P (nI z) a (cz_ba B) b' n (nI i)) 2197 (-2)
    (fun P n p => br_t cz_ex1 p) (fun P n p => br_t cz_ex1 p) (fun i hi => ?_)
  by_cases h1 : nI i ≤ a
  · exact Or.inr ⟨fun P n K => br_f (cz_in1 hi) (br_t h1 (nm_r (nI_1 i) K)), fun P n K => br_f (cz_in1 hi) (br_t h1 (nm_r (nI_1 i) K))⟩
  · have e1 : cz_ba B (nI (z * 2197) + nI i).toNatClampNeg = cz_bi (B (z * 2197 + i)) := cz_rdb _ (nI_add _ _) (by omega)
    have e2 : cz_ba B (nI z * 2197 + nI i).toNatClampNeg = cz_bi (B (z * 2197 + i)) := cz_rdb _ (cz_ix z i) (by omega)
    have j1 : vp_in (nI (z * 2197) + nI i) 6591 := cz_in (z * 2197 + i) (nI_add _ _) (by omega) (by decide)
    have j2 : vp_in (nI z * 2197 + nI i) 6591 := cz_in (z * 2197 + i) (cz_ix z i) (by omega) (by decide)
    cases hb : B (z * 2197 + i) with
    | false =>
      rw [hb] at e1 e2
      exact Or.inr ⟨fun P n K => br_f (cz_in1 hi) (br_f h1 ⟨j1, br_t e1 (nm_r (nI_1 i) K)⟩), fun P n K => br_f (cz_in1 hi) (br_f h1 ⟨j2, br_t e2 (nm_r (nI_1 i) K)⟩)⟩
    | true =>
      rw [hb] at e1 e2
      exact Or.inl ⟨nI i, fun P n p => br_f (cz_in1 hi) (br_f h1 ⟨j1, br_f (by rw [e1]; exact cz_10) p⟩), fun P n p => br_f (cz_in1 hi) (br_f h1 ⟨j2, br_f (by rw [e2]; exact cz_10) p⟩)⟩
theorem i_vc_next {k : Nat} {u : SX} {v : SY} (I : i_Rel k u v) (hk : k + 5 ≤ 2560) (v1 : Int32) (v2 : Int32) : wpX_next (fun r => wpY_next (fun r' => r' = r ∧ i_Rel (k + 5) u v) v v1 v2) u v1 v2 := by
  obtain ⟨B, M, b, rfl, rfl⟩ := I
  unfold wpX_next wpY_next
  dsimp only
  rcases cz_zone v1 with ⟨hx, hy⟩ | ⟨z, hz, rfl, hx, hy⟩
  · exact hx _ (br_t rfl (hy _ _ _ (br_f cz_10 ⟨rfl, cz_re _ B M b⟩)))
  · obtain ⟨r, h1, h2⟩ := cz_next B b (cz_ba M) hz v2
    exact hx _ (br_f cz_10 (nm_r (cz_m z) (h1 _ (hy _ _ _ (br_t rfl (h2 _ ⟨rfl, cz_re _ B M b⟩))))))
-- within, touch
theorem cz_within (B : Nat → Bool) (b b' : Nat → Int32) {y z : Nat} (hy : y < 3) (hz : z < 3) :
    ∃ r, (∀ P, P r → ∃ n, wX_within_32 P (nI (y * 2197)) (nI (z * 2197)) (cz_ba B) b n 0) ∧ (∀ P, P r → ∃ n, wY_within_20 P (nI y) (nI z) (cz_ba B) b' n 0) := by
  refine cz_scan (WX := fun P n i => wX_within_32 P (nI (y * 2197)) (nI (z * 2197)) (cz_ba B) b n (nI i)) (WY := fun P n i => wY_within_20 P (nI y) (nI z) (cz_ba B) b' n (nI i)) 2197 1
    (fun P n p => br_t cz_ex1 p) (fun P n p => br_t cz_ex1 p) (fun i hi => ?_)
  have e1 : cz_ba B (nI (y * 2197) + nI i).toNatClampNeg = cz_bi (B (y * 2197 + i)) := cz_rdb _ (nI_add _ _) (by omega)
  have e2 : cz_ba B (nI y * 2197 + nI i).toNatClampNeg = cz_bi (B (y * 2197 + i)) := cz_rdb _ (cz_ix y i) (by omega)
  have j1 : vp_in (nI (y * 2197) + nI i) 6591 := cz_in (y * 2197 + i) (nI_add _ _) (by omega) (by decide)
  have j2 : vp_in (nI y * 2197 + nI i) 6591 := cz_in (y * 2197 + i) (cz_ix y i) (by omega) (by decide)
  have e3 : cz_ba B (nI (z * 2197) + nI i).toNatClampNeg = cz_bi (B (z * 2197 + i)) := cz_rdb _ (nI_add _ _) (by omega)
  have e4 : cz_ba B (nI z * 2197 + nI i).toNatClampNeg = cz_bi (B (z * 2197 + i)) := cz_rdb _ (cz_ix z i) (by omega)
  have j3 : vp_in (nI (z * 2197) + nI i) 6591 := cz_in (z * 2197 + i) (nI_add _ _) (by omega) (by decide)
  have j4 : vp_in (nI z * 2197 + nI i) 6591 := cz_in (z * 2197 + i) (cz_ix z i) (by omega) (by decide)
  cases hb : B (y * 2197 + i) with
  | false =>
    rw [hb] at e1 e2
    exact Or.inr ⟨fun P n K => br_f (cz_in1 hi) ⟨j1, br_t e1 (nm_r (nI_1 i) K)⟩, fun P n K => br_f (cz_in1 hi) ⟨j2, br_t e2 (nm_r (nI_1 i) K)⟩⟩
  | true =>
    rw [hb] at e1 e2
    have n1 : ¬ cz_ba B (nI (y * 2197) + nI i).toNatClampNeg = 0 := by rw [e1]; exact cz_10
    have n2 : ¬ cz_ba B (nI y * 2197 + nI i).toNatClampNeg = 0 := by rw [e2]; exact cz_10
    cases hc : B (z * 2197 + i) with
    | false =>
      rw [hc] at e3 e4
      exact Or.inl ⟨0, fun P n p => br_f (cz_in1 hi) ⟨j1, br_f n1 ⟨j3, br_t e3 p⟩⟩, fun P n p => br_f (cz_in1 hi) ⟨j2, br_f n2 ⟨j4, br_t e4 p⟩⟩⟩
    | true =>
      rw [hc] at e3 e4
      exact Or.inr ⟨fun P n K => br_f (cz_in1 hi) ⟨j1, br_f n1 ⟨j3, br_f (by rw [e3]; exact cz_10) (nm_r (nI_1 i) K)⟩⟩, fun P n K => br_f (cz_in1 hi) ⟨j2, br_f n2 ⟨j4, br_f (by rw [e4]; exact cz_10) (nm_r (nI_1 i) K)⟩⟩⟩
theorem i_vc_within {k : Nat} {u : SX} {v : SY} (I : i_Rel k u v) (hk : k + 5 ≤ 2560) (v1 : Int32) (v2 : Int32) : wpX_within (fun r => wpY_within (fun r' => r' = r ∧ i_Rel (k + 5) u v) v v1 v2) u v1 v2 := by
  obtain ⟨B, M, b, rfl, rfl⟩ := I
  unfold wpX_within wpY_within
  dsimp only
  rcases cz_zone v1 with ⟨hx, hy⟩ | ⟨y, hz, rfl, hx, hy⟩
  · exact hx _ (br_t rfl (hy _ _ _ (br_f cz_10 ⟨rfl, cz_re _ B M b⟩)))
  rcases cz_zone v2 with ⟨gx, gy⟩ | ⟨z, gz, rfl, gx, gy⟩
  · exact hx _ (br_f cz_10 (gx _ (br_t rfl (hy _ _ _ (br_t rfl (gy _ _ _ (br_f cz_10 ⟨rfl, cz_re _ B M b⟩)))))))
  · obtain ⟨r, h1, h2⟩ := cz_within B b (cz_ba M) hz gz
    exact hx _ (br_f cz_10 (gx _ (br_f cz_10 (nm_r (cz_m y) (nm_r (cz_m z) (h1 _ (hy _ _ _ (br_t rfl (gy _ _ _ (br_t rfl (h2 _ ⟨rfl, cz_re _ B M b⟩)))))))))))
theorem cz_touch (B : Nat → Bool) (b b' : Nat → Int32) {y z : Nat} (hy : y < 3) (hz : z < 3) :
    ∃ r, (∀ P, P r → ∃ n, wX_touch_32 P (nI (y * 2197)) (nI (z * 2197)) (cz_ba B) b n 0) ∧ (∀ P, P r → ∃ n, wY_touch_20 P (nI y) (nI z) (cz_ba B) b' n 0) := by
  refine cz_scan (WX := fun P n i => wX_touch_32 P (nI (y * 2197)) (nI (z * 2197)) (cz_ba B) b n (nI i)) (WY := fun P n i => wY_touch_20 P (nI y) (nI z) (cz_ba B) b' n (nI i)) 2197 0
    (fun P n p => br_t cz_ex1 p) (fun P n p => br_t cz_ex1 p) (fun i hi => ?_)
  have e1 : cz_ba B (nI (y * 2197) + nI i).toNatClampNeg = cz_bi (B (y * 2197 + i)) := cz_rdb _ (nI_add _ _) (by omega)
  have e2 : cz_ba B (nI y * 2197 + nI i).toNatClampNeg = cz_bi (B (y * 2197 + i)) := cz_rdb _ (cz_ix y i) (by omega)
  have j1 : vp_in (nI (y * 2197) + nI i) 6591 := cz_in (y * 2197 + i) (nI_add _ _) (by omega) (by decide)
  have j2 : vp_in (nI y * 2197 + nI i) 6591 := cz_in (y * 2197 + i) (cz_ix y i) (by omega) (by decide)
  have e3 : cz_ba B (nI (z * 2197) + nI i).toNatClampNeg = cz_bi (B (z * 2197 + i)) := cz_rdb _ (nI_add _ _) (by omega)
  have e4 : cz_ba B (nI z * 2197 + nI i).toNatClampNeg = cz_bi (B (z * 2197 + i)) := cz_rdb _ (cz_ix z i) (by omega)
  have j3 : vp_in (nI (z * 2197) + nI i) 6591 := cz_in (z * 2197 + i) (nI_add _ _) (by omega) (by decide)
  have j4 : vp_in (nI z * 2197 + nI i) 6591 := cz_in (z * 2197 + i) (cz_ix z i) (by omega) (by decide)
  cases hb : B (y * 2197 + i) with
  | false =>
    rw [hb] at e1 e2
    exact Or.inr ⟨fun P n K => br_f (cz_in1 hi) ⟨j1, br_t e1 (nm_r (nI_1 i) K)⟩, fun P n K => br_f (cz_in1 hi) ⟨j2, br_t e2 (nm_r (nI_1 i) K)⟩⟩
  | true =>
    rw [hb] at e1 e2
    have n1 : ¬ cz_ba B (nI (y * 2197) + nI i).toNatClampNeg = 0 := by rw [e1]; exact cz_10
    have n2 : ¬ cz_ba B (nI y * 2197 + nI i).toNatClampNeg = 0 := by rw [e2]; exact cz_10
    cases hc : B (z * 2197 + i) with
    | false =>
      rw [hc] at e3 e4
      exact Or.inr ⟨fun P n K => br_f (cz_in1 hi) ⟨j1, br_f n1 ⟨j3, br_t e3 (nm_r (nI_1 i) K)⟩⟩, fun P n K => br_f (cz_in1 hi) ⟨j2, br_f n2 ⟨j4, br_t e4 (nm_r (nI_1 i) K)⟩⟩⟩
    | true =>
      rw [hc] at e3 e4
      exact Or.inl ⟨1, fun P n p => br_f (cz_in1 hi) ⟨j1, br_f n1 ⟨j3, br_f (by rw [e3]; exact cz_10) p⟩⟩, fun P n p => br_f (cz_in1 hi) ⟨j2, br_f n2 ⟨j4, br_f (by rw [e4]; exact cz_10) p⟩⟩⟩
theorem i_vc_touch {k : Nat} {u : SX} {v : SY} (I : i_Rel k u v) (hk : k + 5 ≤ 2560) (v1 : Int32) (v2 : Int32) : wpX_touch (fun r => wpY_touch (fun r' => r' = r ∧ i_Rel (k + 5) u v) v v1 v2) u v1 v2 := by
  obtain ⟨B, M, b, rfl, rfl⟩ := I
  unfold wpX_touch wpY_touch
  dsimp only
  rcases cz_zone v1 with ⟨hx, hy⟩ | ⟨y, hz, rfl, hx, hy⟩
  · exact hx _ (br_t rfl (hy _ _ _ (br_f cz_10 ⟨rfl, cz_re _ B M b⟩)))
  rcases cz_zone v2 with ⟨gx, gy⟩ | ⟨z, gz, rfl, gx, gy⟩
  · exact hx _ (br_f cz_10 (gx _ (br_t rfl (hy _ _ _ (br_t rfl (gy _ _ _ (br_f cz_10 ⟨rfl, cz_re _ B M b⟩)))))))
  · obtain ⟨r, h1, h2⟩ := cz_touch B b (cz_ba M) hz gz
    exact hx _ (br_f cz_10 (gx _ (br_f cz_10 (nm_r (cz_m y) (nm_r (cz_m z) (h1 _ (hy _ _ _ (br_t rfl (gy _ _ _ (br_t rfl (h2 _ ⟨rfl, cz_re _ B M b⟩)))))))))))
-- has
theorem i_vc_has {k : Nat} {u : SX} {v : SY} (I : i_Rel k u v) (hk : k + 5 ≤ 2560) (v1 : Int32) (v2 : Int32) (v3 : Int32) (v4 : Int32) : wpX_has (fun r => wpY_has (fun r' => r' = r ∧ i_Rel (k + 5) u v) v v1 v2 v3 v4) u v1 v2 v3 v4 := by
  obtain ⟨B, M, b, rfl, rfl⟩ := I
  unfold wpX_has wpY_has wpX_isNumber
  dsimp only
  rcases cz_zone v1 with ⟨hx, hy⟩ | ⟨z, hz, rfl, hx, hy⟩
  · exact hx _ (br_t rfl (hy _ _ _ (br_f cz_10 ⟨rfl, cz_re _ B M b⟩)))
  rcases cz_num v2 with a1 | ⟨a1, a2, a3⟩ | ⟨a, ha, rfl, a1, a2, a3⟩
  · exact hx _ (br_f cz_10 (br_t a1 (br_t rfl (hy _ _ _ (br_t rfl (br_t a1 ⟨rfl, cz_re _ B M b⟩))))))
  · exact hx _ (br_f cz_10 (br_f a1 (br_t a2 (br_t rfl (hy _ _ _ (br_t rfl (br_f a1 (br_t a2 ⟨rfl, cz_re _ B M b⟩))))))))
  refine hx _ (br_f cz_10 (br_f a1 (br_f a2 (br_f cz_10 ?_))))
  rcases cz_num v3 with b1 | ⟨b1, b2, b3⟩ | ⟨c, hc, rfl, b1, b2, b3⟩
  · exact br_t b1 (br_t rfl (hy _ _ _ (br_t rfl (br_f a1 (br_f a2 (br_t b1 ⟨rfl, cz_re _ B M b⟩))))))
  · exact br_f b1 (br_t b2 (br_t rfl (hy _ _ _ (br_t rfl (br_f a1 (br_f a2 (br_f b1 (br_t b2 ⟨rfl, cz_re _ B M b⟩))))))))
  refine br_f b1 (br_f b2 (br_f cz_10 ?_))
  rcases cz_num v4 with c1 | ⟨c1, c2, c3⟩ | ⟨d, hd, rfl, c1, c2, c3⟩
  · exact br_t c1 (br_t rfl (hy _ _ _ (br_t rfl (br_f a1 (br_f a2 (br_f b1 (br_f b2 (br_t c1 ⟨rfl, cz_re _ B M b⟩))))))))
  · exact br_f c1 (br_t c2 (br_t rfl (hy _ _ _ (br_t rfl (br_f a1 (br_f a2 (br_f b1 (br_f b2 (br_f c1 (br_f c3 ⟨rfl, cz_re _ B M b⟩))))))))))
  refine br_f c1 (br_f c2 (br_f cz_10 ?_))
  have e1 : nI a * 169 = nI (a * 169) := pk_mul a 169
  have e2 : nI c * 13 = nI (c * 13) := pk_mul c 13
  have e3 : nI d * 1 = nI (d * 1) := pk_mul d 1
  have e4 : 169 * nI a = nI (169 * a) := pk_mul 169 a
  have e5 : 13 * nI c = nI (13 * c) := pk_mul 13 c
  have ex : nI z * 2197 + nI (a * 169 + c * 13 + d * 1) = nI (z * 2197 + 169 * a + 13 * c + d) := by
    rw [cz_ix]; congr 1; omega
  have ey : nI z * 2197 + 169 * nI a + 13 * nI c + nI d = nI (z * 2197 + 169 * a + 13 * c + d) := by
    rw [cz_m, e4, e5, nI_add, nI_add, nI_add]
  refine nm_r (e' := nI (a * 169 + c * 13 + d * 1)) (by rw [e1, e2, e3, nI_add, nI_add]) ?_
  have gx : cz_ba B (nI z * 2197 + nI (a * 169 + c * 13 + d * 1)).toNatClampNeg = cz_bi (B (z * 2197 + 169 * a + 13 * c + d)) := cz_rdb _ ex (by omega)
  have gy : cz_ba B (nI z * 2197 + 169 * nI a + 13 * nI c + nI d).toNatClampNeg = cz_bi (B (z * 2197 + 169 * a + 13 * c + d)) := cz_rdb _ ey (by omega)
  have jx : vp_in (nI z * 2197 + nI (a * 169 + c * 13 + d * 1)) 6591 := cz_in _ ex (by omega) (by decide)
  have jy : vp_in (nI z * 2197 + 169 * nI a + 13 * nI c + nI d) 6591 := cz_in _ ey (by omega) (by decide)
  exact ⟨jx, cz_br _ gx
    (fun f => hy _ _ _ (br_t rfl (br_f a1 (br_f a2 (br_f b1 (br_f b2 (br_f c1 (br_t c3 ⟨jy, br_t (by rw [gy]; exact cz_b0 f) ⟨rfl, cz_re _ B M b⟩⟩))))))))
    (fun f => hy _ _ _ (br_t rfl (br_f a1 (br_f a2 (br_f b1 (br_f b2 (br_f c1 (br_t c3 ⟨jy, br_f (by rw [gy]; exact cz_b1 f) ⟨rfl, cz_re _ B M b⟩⟩))))))))⟩
