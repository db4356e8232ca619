-- the constructors
theorem cx_init {P : SX → Prop} (h : P (cz_ba (fun j => decide (j < 6591)), fun _ => 0)) : wpX_init P := by
  unfold wpX_init
  have H : ∃ n, wX_init_23 P n (nI 0) (cz_ba (fun j => decide (j < 0 * 2197))) (fun _ => 0) :=
    cz_lt (W := fun n i => wX_init_23 P n (nI i) (cz_ba (fun j => decide (j < i * 2197))) (fun _ => 0)) 3
      (fun n => br_t (nI_le (a := 3) (Nat.le_refl _) (by decide)) h)
      (fun n i hi K => br_f (nI_ge (b := 3) hi (by decide)) (cx_fill hi (by
        have e : cz_zs (i * 2197) 2197 cz_T (fun j => decide (j < i * 2197)) = fun j => decide (j < (i + 1) * 2197) := by
          funext j
          unfold cz_zs cz_T
          by_cases c : i * 2197 ≤ j ∧ j < i * 2197 + 2197
          · rw [if_pos c, decide_eq_true (by omega)]
          · rw [if_neg c]
            show decide (j < i * 2197) = decide (j < (i + 1) * 2197)
            by_cases d : j < i * 2197
            · rw [decide_eq_true d, decide_eq_true (by omega)]
            · rw [decide_eq_false d, decide_eq_false (by omega)]
        rw [e]
        exact nm_r (nI_1 i) K)))
  have e0 : cz_ba (fun j => decide (j < 0 * 2197)) = fun _ => 0 := by
    funext j
    show cz_bi (decide (j < 0 * 2197)) = 0
    rw [decide_eq_false (by omega)]
    rfl
  rw [e0] at H
  exact H
theorem cy_init {P : SY → Prop} (h : P (cz_ba (fun j => decide (j < 6591)), cz_ba (fun _ => false))) : wpY_init P := by
  unfold wpY_init
  have H : ∃ n, wY_init_24 P n (nI 0) (cz_ba (fun j => decide (j < 0))) (cz_ba (fun _ => false)) :=
    cz_lt (W := fun n i => wY_init_24 P n (nI i) (cz_ba (fun j => decide (j < i))) (cz_ba (fun _ => false))) 6591
      (fun n => br_t (nI_le (a := 6591) (Nat.le_refl _) (by decide)) h)
      (fun n i hi K => br_f (nI_ge (b := 6591) hi (by decide)) (cz_st i true rfl hi (by decide) rfl (fun m => by
        by_cases c : m = i
        · rw [if_pos c, decide_eq_true (by omega)]
        · rw [if_neg c]
          by_cases d : m < i
          · rw [decide_eq_true d, decide_eq_true (by omega)]
          · rw [decide_eq_false d, decide_eq_false (by omega)]) (nm_r (nI_1 i) K)))
  have e0 : cz_ba (fun j => decide (j < 0)) = fun _ => 0 := by
    funext j
    show cz_bi (decide (j < 0)) = 0
    rw [decide_eq_false (by omega)]
    rfl
  rw [e0] at H
  exact H
theorem i_vc0 : wpX_init (fun u => wpY_init (fun v => i_Rel 0 u v)) := cx_init (cy_init (cz_re _ _ _ _))
