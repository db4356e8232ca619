-- lines of readings along a clock
def cz_sp (k : Nat) : Nat := if k = 1 then 169 else if k = 2 then 13 else 1
def cz_fs (n k : Nat) : Nat := n - cz_rd n k * cz_sp k
theorem cz_f1 {n k : Nat} (hn : n < 2197) (h1 : 1 ≤ k) (h3 : k ≤ 3) : n = cz_fs n k + cz_rd n k * cz_sp k ∧ cz_rd (cz_fs n k) k = 0 := by
  have hc : k = 1 ∨ k = 2 ∨ k = 3 := by omega
  rcases hc with rfl | rfl | rfl
  · have e : cz_fs n 1 = n - n / 169 * 169 := rfl
    rw [e, cz_rd1, cz_rd1, show cz_sp 1 = 169 from rfl]
    omega
  · have e : cz_fs n 2 = n - n / 13 % 13 * 13 := rfl
    rw [e, cz_rd2, cz_rd2, show cz_sp 2 = 13 from rfl]
    omega
  · have e : cz_fs n 3 = n - n % 13 * 1 := rfl
    rw [e, cz_rd3, cz_rd3, show cz_sp 3 = 1 from rfl]
    omega
theorem cz_f2 {n k t : Nat} (hn : n < 2197) (h1 : 1 ≤ k) (h3 : k ≤ 3) (h0 : cz_rd n k = 0) (ht : t < 13) : n + t * cz_sp k < 2197 ∧ cz_fs (n + t * cz_sp k) k = n := by
  have hc : k = 1 ∨ k = 2 ∨ k = 3 := by omega
  rcases hc with rfl | rfl | rfl
  · rw [show cz_sp 1 = 169 from rfl]
    have e : cz_fs (n + t * 169) 1 = n + t * 169 - (n + t * 169) / 169 * 169 := rfl
    rw [cz_rd1] at h0
    rw [e]
    omega
  · rw [show cz_sp 2 = 13 from rfl]
    have e : cz_fs (n + t * 13) 2 = n + t * 13 - (n + t * 13) / 13 % 13 * 13 := rfl
    rw [cz_rd2] at h0
    rw [e]
    omega
  · rw [show cz_sp 3 = 1 from rfl]
    have e : cz_fs (n + t * 1) 3 = n + t * 1 - (n + t * 1) % 13 * 1 := rfl
    rw [cz_rd3] at h0
    rw [e]
    omega
def cz_Lg (B : Nat → Bool) (o k q : Nat) : Nat → Bool := fun t => B (o + (q + t * cz_sp k))
def cz_L (B : Nat → Bool) (o k : Nat) : Nat → Bool := fun n => cz_an (cz_Lg B o k (cz_fs n k)) 13
-- m places of the line written
def cz_lw (S : Nat → Bool) (o q s : Nat) (A : Bool) : Nat → Nat → Bool
  | 0 => S
  | m + 1 => fun j => if j = o + (q + m * s) then A else cz_lw S o q s A m j
theorem cz_lw_t {S : Nat → Bool} {o q s : Nat} {A : Bool} {m t : Nat} (h : t < m) : cz_lw S o q s A m (o + (q + t * s)) = A := by
  induction m with
  | zero => omega
  | succ m ih =>
    show (if _ = _ then A else cz_lw S o q s A m _) = A
    by_cases e : o + (q + t * s) = o + (q + m * s)
    · rw [if_pos e]
    · rw [if_neg e]
      refine ih ?_
      rcases Nat.lt_or_ge t m with h' | h'
      · exact h'
      · have : t = m := by omega
        subst this
        exact absurd rfl e
theorem cz_lw_f {S : Nat → Bool} {o q s : Nat} {A : Bool} {m j : Nat} (h : ∀ t, t < m → j ≠ o + (q + t * s)) : cz_lw S o q s A m j = S j := by
  induction m with
  | zero => rfl
  | succ m ih =>
    show (if j = o + (q + m * s) then A else cz_lw S o q s A m j) = S j
    rw [if_neg (h m (by omega))]
    exact ih (fun t ht => h t (by omega))
theorem cz_sp_le (k : Nat) : cz_sp k ≤ 169 := by
  unfold cz_sp
  split
  · omega
  · split <;> omega
theorem cx_step {P : Int32 → Prop} {k : Nat} (h1 : 1 ≤ k) (h3 : k ≤ 3) (h : P (nI (cz_sp k))) : wpX_stepOf P (nI k) := by
  have hc : k = 1 ∨ k = 2 ∨ k = 3 := by omega
  rcases hc with rfl | rfl | rfl
  · exact br_t rfl h
  · exact br_f (by decide) (br_t rfl h)
  · exact br_f (by decide) (br_f (by decide) h)
theorem cz_il (o q t s : Nat) : nI (o + q) + nI t * nI s = nI (o + (q + t * s)) := by
  rw [pk_mul, nI_add, Nat.add_assoc]
theorem cz_in13 {t : Nat} (h : t < 13) : ¬ (13 : Int32) ≤ nI t := nI_ge (b := 13) h (by decide)
theorem cz_ex13 : (13 : Int32) ≤ nI 13 := nI_le (a := 13) (Nat.le_refl _) (by decide)
theorem cx_line {P : SX → Prop} {S : Nat → Bool} {b : Nat → Int32} {z q k : Nat} (hz : z < 3) (hq : q < 2197) (h1 : 1 ≤ k) (h3 : k ≤ 3) (h0 : cz_rd q k = 0)
    (h : P (cz_ba (cz_lw S (z * 2197) q (cz_sp k) (cz_an (cz_Lg S (z * 2197) k q) 13) 13), b)) : wpX_freeLine P (cz_ba S, b) (nI z) (nI q) (nI k) := by
  unfold wpX_freeLine
  refine nm_r (cz_ix z q) (cx_step h1 h3 ?_)
  have hb : ∀ t, t < 13 → q + t * cz_sp k < 2197 := fun t ht => (cz_f2 hq h1 h3 h0 ht).1
  refine cz_lt (W := fun n t => wX_freeLine_21 P (nI (z * 2197 + q)) (nI (cz_sp k)) (cz_ba S) b n (cz_bi (cz_an (cz_Lg S (z * 2197) k q) t)) (nI t)) 13
    (fun n => br_t cz_ex13 ?_)
    (fun n t ht K => br_f (cz_in13 ht) ?_)
  · exact cz_lt (W := fun n t => wX_freeLine_65 P (nI (z * 2197 + q)) (nI (cz_sp k)) (cz_bi (cz_an (cz_Lg S (z * 2197) k q) 13)) n (nI t) (cz_ba (cz_lw S (z * 2197) q (cz_sp k) (cz_an (cz_Lg S (z * 2197) k q) 13) t)) b) 13
      (fun n => br_t cz_ex13 h)
      (fun n t ht K => br_f (cz_in13 ht) (cz_st _ (cz_an (cz_Lg S (z * 2197) k q) 13) (cz_il (z * 2197) q t (cz_sp k)) (by have := hb t ht; omega) (by decide) (cz_nb _) (fun m => rfl) (nm_r (nI_1 t) K)))
  · have hbt := hb t ht
    have ea : cz_an (cz_Lg S (z * 2197) k q) (t + 1) = (cz_an (cz_Lg S (z * 2197) k q) t || S (z * 2197 + (q + t * cz_sp k))) := rfl
    have K' : wX_freeLine_21 P (nI (z * 2197 + q)) (nI (cz_sp k)) (cz_ba S) b n (cz_bi (cz_an (cz_Lg S (z * 2197) k q) (t + 1))) (nI (t + 1)) := K
    rw [ea] at K'
    cases hA : cz_an (cz_Lg S (z * 2197) k q) t with
    | true =>
      rw [hA, Bool.true_or] at K'
      exact br_f cz_10 (nm_r (nI_1 t) K')
    | false =>
      rw [hA, Bool.false_or] at K'
      refine br_t rfl ⟨cz_in _ (cz_il _ _ _ _) (by omega) (by decide), cz_br _ (cz_rdb _ (cz_il _ _ _ _) (by omega)) (fun f => ?_) (fun f => ?_)⟩
      · rw [f] at K'
        exact nm_r (nI_1 t) K'
      · rw [f] at K'
        exact nm_r (nI_1 t) K'
-- lines below i freed
def cz_fc (B : Nat → Bool) (o k i : Nat) : Nat → Bool := fun j => if o ≤ j ∧ j < o + 2197 ∧ cz_fs (j - o) k < i then cz_L B o k (j - o) else B j
theorem cz_fc_0 (B : Nat → Bool) (o k : Nat) : cz_fc B o k 0 = B := by
  funext j
  exact if_neg (by omega)
theorem cz_fc_e (B : Nat → Bool) (o k : Nat) : cz_fc B o k 2197 = cz_zs o 2197 (cz_L B o k) B := by
  funext j
  unfold cz_fc cz_zs
  by_cases h : o ≤ j ∧ j < o + 2197
  · have hf : cz_fs (j - o) k ≤ j - o := Nat.sub_le _ _
    rw [if_pos h, if_pos (by omega)]
  · rw [if_neg h, if_neg (by omega)]
theorem cz_fc_k {B : Nat → Bool} {o k i : Nat} (h1 : 1 ≤ k) (h3 : k ≤ 3) (h0 : cz_rd i k ≠ 0) : cz_fc B o k (i + 1) = cz_fc B o k i := by
  funext j
  unfold cz_fc
  by_cases h : o ≤ j ∧ j < o + 2197
  · have hf : cz_fs (j - o) k ≠ i := fun e => h0 (by rw [← e]; exact (cz_f1 (by omega) h1 h3).2)
    by_cases g : cz_fs (j - o) k < i
    · rw [if_pos (by omega), if_pos (by omega)]
    · rw [if_neg (by omega), if_neg (by omega)]
  · rw [if_neg (by omega), if_neg (by omega)]
theorem cz_fc_s {B : Nat → Bool} {o k i : Nat} (hi : i < 2197) (h1 : 1 ≤ k) (h3 : k ≤ 3) (h0 : cz_rd i k = 0) :
    cz_lw (cz_fc B o k i) o i (cz_sp k) (cz_an (cz_Lg (cz_fc B o k i) o k i) 13) 13 = cz_fc B o k (i + 1) := by
  have eA : cz_an (cz_Lg (cz_fc B o k i) o k i) 13 = cz_an (cz_Lg B o k i) 13 := by
    refine cz_an_c (fun t ht => ?_)
    obtain ⟨f1, f2⟩ := cz_f2 hi h1 h3 h0 ht
    show cz_fc B o k i (o + (i + t * cz_sp k)) = B (o + (i + t * cz_sp k))
    unfold cz_fc
    rw [Nat.add_sub_cancel_left, f2]
    exact if_neg (by omega)
  funext j
  by_cases hl : ∃ t, t < 13 ∧ j = o + (i + t * cz_sp k)
  · obtain ⟨t, ht, rfl⟩ := hl
    obtain ⟨f1, f2⟩ := cz_f2 hi h1 h3 h0 ht
    rw [cz_lw_t ht, eA]
    unfold cz_fc
    rw [Nat.add_sub_cancel_left, f2, if_pos (by omega)]
    unfold cz_L
    rw [f2]
  · rw [cz_lw_f (fun t ht e => hl ⟨t, ht, e⟩)]
    unfold cz_fc
    by_cases h : o ≤ j ∧ j < o + 2197
    · have hf : cz_fs (j - o) k ≠ i := fun e => by
        have f := (cz_f1 (n := j - o) (by omega) h1 h3).1
        have l := cz_rd_le (n := j - o) (by omega) k
        rw [e] at f
        exact hl ⟨cz_rd (j - o) k, by omega, by omega⟩
      by_cases g : cz_fs (j - o) k < i
      · rw [if_pos (by omega), if_pos (by omega)]
      · rw [if_neg (by omega), if_neg (by omega)]
    · rw [if_neg (by omega), if_neg (by omega)]
theorem cx_fc {P : SX → Prop} {B : Nat → Bool} {b : Nat → Int32} {z k : Nat} (hz : z < 3) (h1 : 1 ≤ k) (h3 : k ≤ 3) (h : P (cz_ba (cz_zs (z * 2197) 2197 (cz_L B (z * 2197) k) B), b)) : wpX_freeClock P (cz_ba B, b) (nI z) (nI k) := by
  unfold wpX_freeClock
  have H : ∃ n, wX_freeClock_2 P (nI z) (nI k) n (nI 0) (cz_ba (cz_fc B (z * 2197) k 0)) b :=
    cz_lt (W := fun n i => wX_freeClock_2 P (nI z) (nI k) n (nI i) (cz_ba (cz_fc B (z * 2197) k i)) b) 2197
      (fun n => br_t cz_ex1 (by rw [cz_fc_e]; exact h))
      (fun n i hi K => br_f (cz_in1 hi) (cx_read hi h3 (by
        have l := cz_rd_le hi k
        by_cases h0 : cz_rd i k = 0
        · refine br_t (by rw [h0]; rfl) (cx_line hz hi h1 h3 h0 ?_)
          rw [cz_fc_s hi h1 h3 h0]
          exact nm_r (nI_1 i) K
        · refine br_f (nI_ne0 (by omega) (by omega)) (nm_r (nI_1 i) ?_)
          rw [cz_fc_k h1 h3 h0] at K
          exact K)))
  rw [cz_fc_0] at H
  exact H
-- the reference's side
theorem cz_wi {q r s v : Nat} : nI (q + r * s) + (nI v - nI r) * nI s = nI (q + v * s) := by
  rw [← nI_add, ← nI_add, ← pk_mul, ← pk_mul]
  grind
theorem cy_with {P : Int32 → Prop} {a b : Nat → Int32} {p k v : Nat} (hp : p < 2197) (h1 : 1 ≤ k) (h3 : k ≤ 3) (h : P (nI (cz_fs p k + v * cz_sp k))) : wpY_with P (a, b) (nI p) (nI k) (nI v) := by
  have f := (cz_f1 hp h1 h3).1
  have e : nI p + (nI v - nI (cz_rd p k)) * nI (cz_sp k) = nI (cz_fs p k + v * cz_sp k) := by
    have e' : nI p = nI (cz_fs p k + cz_rd p k * cz_sp k) := congrArg nI f
    rw [e', cz_wi]
  rw [← e] at h
  have hc : k = 1 ∨ k = 2 ∨ k = 3 := by omega
  rcases hc with rfl | rfl | rfl
  · exact br_t rfl (cy_val hp h3 h)
  · exact br_f (by decide) (br_t rfl (cy_val hp h3 h))
  · exact br_f (by decide) (br_f (by decide) (cy_val hp h3 h))
theorem cy_anyAt {P : Int32 → Prop} {B : Nat → Bool} {b : Nat → Int32} {z p k : Nat} (hz : z < 3) (hp : p < 2197) (h1 : 1 ≤ k) (h3 : k ≤ 3) (h : P (cz_bi (cz_L B (z * 2197) k p))) : wpY_anyAt P (cz_ba B, b) (nI z) (nI p) (nI k) := by
  have f := cz_f1 hp h1 h3
  unfold wpY_anyAt
  exact cz_lo (W := fun n d => wY_anyAt_3 P (nI z) (nI p) (nI k) (cz_ba B) b n (nI d)) (fun d => ∀ t, t < d → cz_Lg B (z * 2197) k (cz_fs p k) t = false) 13 0 (by decide) (fun t ht => by omega)
    (fun H n => br_t (nI_lt (a := 12) (by decide) (by decide)) (by unfold cz_L at h; rw [cz_an_f H] at h; exact h))
    (fun n d hd H K => br_f (nI_nlt (a := 12) (by omega) (by decide)) (cy_with hp h1 h3 (by
      have hb := (cz_f2 (n := cz_fs p k) (by omega) h1 h3 f.2 hd).1
      refine ⟨cz_in _ (cz_ix z _) (by omega) (by decide), cz_br _ (cz_rdb _ (cz_ix z _) (by omega)) (fun g => ?_) (fun g => ?_)⟩
      · exact nm_r (nI_1 d) (K (lt_s H g))
      · unfold cz_L at h
        rw [cz_an_t (t := d) hd g] at h
        exact h)))
theorem cy_free {P : Int32 → SY → Prop} {B M : Nat → Bool} {z k : Nat} (hz : z < 3) (h1 : 1 ≤ k) (h3 : k ≤ 3) (h : ∀ M' : Nat → Bool, P (cz_bi (cz_an (cz_L B (z * 2197) k) 2197)) (cz_ba (cz_zs (z * 2197) 2197 (cz_L B (z * 2197) k) B), cz_ba M')) : ∃ n, wY_free_23 P (nI z) (nI k) n 0 (cz_ba B) (cz_ba M) := by
  have H : ∃ n, wY_free_23 P (nI z) (nI k) n (nI 0) (cz_ba B) (cz_ba (cz_zs 0 0 (cz_L B (z * 2197) k) M)) :=
    cz_lt (W := fun n i => wY_free_23 P (nI z) (nI k) n (nI i) (cz_ba B) (cz_ba (cz_zs 0 i (cz_L B (z * 2197) k) M))) 2197
      (fun n => br_t cz_ex1 (cy_storez hz h))
      (fun n i hi K => br_f (cz_in1 hi) (cy_anyAt hz hi h1 h3 (cz_wb hi (cz_nb _) (nm_r (nI_1 i) K))))
  rw [cz_zs_0] at H
  exact H
theorem i_vc_free {k : Nat} {u : SX} {v : SY} (I : i_Rel k u v) (hk : k + 5 ≤ 2560) (v1 : Int32) (v2 : Int32) : wpX_free (fun r u' => wpY_free (fun r' v' => r' = r ∧ i_Rel (k + 5) u' v') v v1 v2) u v1 v2 := by
  obtain ⟨B, M, b, rfl, rfl⟩ := I
  unfold wpX_free wpY_free
  dsimp only
  rcases cz_zone v1 with ⟨hx, hy⟩ | ⟨z, hz, rfl, hx, hy⟩
  · exact hx _ (br_t rfl (hy _ _ _ (br_f cz_10 ⟨rfl, cz_re _ B M b⟩)))
  rcases cz_clock v2 with ⟨gx, gy⟩ | ⟨c, g1, g3, rfl, gx, gy⟩
  · exact hx _ (br_f cz_10 (gx _ (br_t rfl (hy _ _ _ (br_t rfl (gy _ _ _ (br_f cz_10 ⟨rfl, cz_re _ B M b⟩)))))))
  · exact hx _ (br_f cz_10 (gx _ (br_f cz_10 (cx_fc hz g1 g3 (cx_anyz hz (hy _ _ _ (br_t rfl (gy _ _ _ (br_t rfl (cy_free hz g1 g3 (fun M' => ⟨rfl, cz_re _ _ M' b⟩)))))))))))
