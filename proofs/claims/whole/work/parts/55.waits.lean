/-! WAITS, SHEET -/
def wc (x y v : Int) : Int := x + (if x < v then 6 else 0) + (if x ≤ y then 0 else 2)
theorem pc_cost {x y v : Int} (hx : 0 ≤ x ∧ x ≤ 9) (hy : 0 ≤ y ∧ y ≤ 9) (hv : 0 ≤ v ∧ v ≤ 9) (M : tp_M) : fx_X10_waitCost x y v M = some (wc x y v, M) ∧ fx_X11_costs x y v M = some (wc x y v, M) := by
  unfold fx_X10_waitCost fx_X11_costs wc
  by_cases h1 : x < v
  · by_cases h2 : x ≤ y
    · constructor <;> simp (disch := omega) only [↓tp_lm_n, ↓tp_lt_n, ↓tp_bd_n, ↓tp_jn0_n, ↓tp_jn1_n, ↓tp_jn2_n, ↓tp_jn3_n, w32_id, if_pos, if_neg, if_true, if_false, tp_ck_t, tp_nz_t, tp_gd_i]
    · constructor <;> simp (disch := omega) only [↓tp_lm_n, ↓tp_lt_n, ↓tp_bd_n, ↓tp_jn0_n, ↓tp_jn1_n, ↓tp_jn2_n, ↓tp_jn3_n, w32_id, if_pos, if_neg, if_true, if_false, tp_ck_t, tp_nz_t, tp_gd_i]
  · by_cases h2 : x ≤ y
    · constructor <;> simp (disch := omega) only [↓tp_lm_n, ↓tp_lt_n, ↓tp_bd_n, ↓tp_jn0_n, ↓tp_jn1_n, ↓tp_jn2_n, ↓tp_jn3_n, w32_id, if_pos, if_neg, if_true, if_false, tp_ck_t, tp_nz_t, tp_gd_i]
    · constructor <;> simp (disch := omega) only [↓tp_lm_n, ↓tp_lt_n, ↓tp_bd_n, ↓tp_jn0_n, ↓tp_jn1_n, ↓tp_jn2_n, ↓tp_jn3_n, w32_id, if_pos, if_neg, if_true, if_false, tp_ck_t, tp_nz_t, tp_gd_i]
theorem wc_in {x y v : Int} (hx : 0 ≤ x ∧ x ≤ 9) : 0 ≤ wc x y v ∧ wc x y v ≤ 20 := by
  unfold wc
  repeat' split
  all_goals omega
theorem cs_best {x y v : Int} (hx : 0 ≤ x ∧ x ≤ 9) (hy : 0 ≤ y ∧ y ≤ 9) (hv : 0 ≤ v ∧ v ≤ 9) (M : tp_M) : wp (fx_X10_isBestWait x y v M) (fun r M1 => M1 = M ∧ ((r = 1 ∧ ∀ o : Int, 0 ≤ o → o ≤ 9 → wc x y v ≤ wc o y v) ∨ (r = 0 ∧ ∃ o : Int, (0 ≤ o ∧ o ≤ 9) ∧ wc o y v < wc x y v))) := by
  unfold fx_X10_isBestWait
  rw [(pc_cost hx hy hv M).1, tp_bd_s]
  refine wp_lt ?_
  refine wp_lt ?_
  refine wp_lp1 (fun z M1 => M1 = M ∧ (0 ≤ z ∧ z ≤ 10) ∧ ∀ o : Int, 0 ≤ o → o < z → wc x y v ≤ wc o y v) (fun z _ => (10 - z).toNat) ?_ tp_F 0 M ⟨rfl, by omega, fun o o1 o2 => by omega⟩ (tp_F_pos (by omega))
  intro rec z M1 hI hrec
  obtain ⟨rfl, i1, i2⟩ := hI
  refine wp_K (fun Q hQ => ?_)
  unfold fx_X10_isBestWait_L10
  by_cases hz : z ≤ 9
  · have hc := (pc_cost (x := z) ⟨i1.1, hz⟩ hy hv M1).1
    have w1 := wc_in (x := z) (y := y) (v := v) ⟨i1.1, hz⟩
    have w2 := wc_in (x := x) (y := y) (v := v) hx
    by_cases hl : wc z y v < wc x y v
    · simp (disch := omega) only [↓tp_lm_n, ↓tp_lt_n, ↓tp_bd_n, ↓tp_jn0_n, ↓tp_jn1_n, ↓tp_jn2_n, ↓tp_jn3_n, w32_id, if_pos, if_neg, if_true, if_false, tp_ck_t, tp_nz_t, tp_gd_i, hc]
      exact wp_some (hQ _ _ ⟨rfl, Or.inr ⟨rfl, z, ⟨i1.1, hz⟩, hl⟩⟩)
    · simp (disch := omega) only [↓tp_lm_n, ↓tp_lt_n, ↓tp_bd_n, ↓tp_jn0_n, ↓tp_jn1_n, ↓tp_jn2_n, ↓tp_jn3_n, w32_id, if_pos, if_neg, if_true, if_false, tp_ck_t, tp_nz_t, tp_gd_i, hc]
      refine wp_mono (hrec _ _ ⟨rfl, by omega, fun o o1 o2 => ?_⟩ (by omega)) hQ
      by_cases ho : o = z
      · rw [ho]; omega
      · exact i2 o o1 (by omega)
  · simp (disch := omega) only [↓tp_lm_n, ↓tp_lt_n, ↓tp_bd_n, ↓tp_jn0_n, ↓tp_jn1_n, ↓tp_jn2_n, ↓tp_jn3_n, w32_id, if_pos, if_neg, if_true, if_false, tp_ck_t, tp_nz_t, tp_gd_i]
    exact wp_some (hQ _ _ ⟨rfl, Or.inl ⟨rfl, fun o o1 o2 => i2 o o1 (by omega)⟩⟩)
theorem ps_best {x y v : Int} (hx : 0 ≤ x ∧ x ≤ 9) (hy : 0 ≤ y ∧ y ≤ 9) (hv : 0 ≤ v ∧ v ≤ 9) (M : tp_M) : wp (fx_X11_isRest x y v M) (fun r M1 => M1 = M ∧ ((r = 1 ∧ ∀ o : Int, 0 ≤ o → o ≤ 9 → wc x y v ≤ wc o y v) ∨ (r = 0 ∧ ∃ o : Int, (0 ≤ o ∧ o ≤ 9) ∧ wc o y v < wc x y v))) := by
  unfold fx_X11_isRest
  refine wp_lt ?_
  refine wp_lt ?_
  refine wp_lp2 (fun a z M1 => M1 = M ∧ (0 ≤ z ∧ z ≤ 10) ∧ ((a = 1 ∧ ∀ o : Int, 0 ≤ o → o < z → wc x y v ≤ wc o y v) ∨ (a = 0 ∧ ∃ o : Int, (0 ≤ o ∧ o ≤ 9) ∧ wc o y v < wc x y v))) (fun _ z _ => (10 - z).toNat) ?_ tp_F 1 0 M ⟨rfl, by omega, Or.inl ⟨rfl, fun o o1 o2 => by omega⟩⟩ (tp_F_pos (by omega))
  intro rec a z M1 hI hrec
  obtain ⟨rfl, i1, i2⟩ := hI
  unfold fx_X11_isRest_L5
  by_cases hz : z ≤ 9
  · have hc := (pc_cost (x := z) ⟨i1.1, hz⟩ hy hv M1).2
    have hc2 := (pc_cost (x := x) hx hy hv M1).2
    have w1 := wc_in (x := z) (y := y) (v := v) ⟨i1.1, hz⟩
    have w2 := wc_in (x := x) (y := y) (v := v) hx
    rcases i2 with ⟨rfl, i2⟩ | ⟨rfl, i2⟩
    · by_cases hl : wc z y v < wc x y v
      · simp (disch := omega) only [↓tp_lm_n, ↓tp_lt_n, ↓tp_bd_n, ↓tp_jn0_n, ↓tp_jn1_n, ↓tp_jn2_n, ↓tp_jn3_n, w32_id, if_pos, if_neg, if_true, if_false, tp_ck_t, tp_nz_t, tp_gd_i, hc, hc2]
        exact hrec _ _ _ ⟨rfl, by omega, Or.inr ⟨rfl, z, ⟨i1.1, hz⟩, hl⟩⟩ (by omega)
      · simp (disch := omega) only [↓tp_lm_n, ↓tp_lt_n, ↓tp_bd_n, ↓tp_jn0_n, ↓tp_jn1_n, ↓tp_jn2_n, ↓tp_jn3_n, w32_id, if_pos, if_neg, if_true, if_false, tp_ck_t, tp_nz_t, tp_gd_i, hc, hc2]
        refine hrec _ _ _ ⟨rfl, by omega, Or.inl ⟨rfl, fun o o1 o2 => ?_⟩⟩ (by omega)
        by_cases ho : o = z
        · rw [ho]; omega
        · exact i2 o o1 (by omega)
    · simp (disch := omega) only [↓tp_lm_n, ↓tp_lt_n, ↓tp_bd_n, ↓tp_jn0_n, ↓tp_jn1_n, ↓tp_jn2_n, ↓tp_jn3_n, w32_id, if_pos, if_neg, if_true, if_false, tp_ck_t, tp_nz_t, tp_gd_i]
      exact hrec _ _ _ ⟨rfl, by omega, Or.inr ⟨rfl, i2⟩⟩ (by omega)
  · rcases i2 with ⟨rfl, i2⟩ | ⟨rfl, i2⟩
    · simp (disch := omega) only [↓tp_lm_n, ↓tp_lt_n, ↓tp_bd_n, ↓tp_jn0_n, ↓tp_jn1_n, ↓tp_jn2_n, ↓tp_jn3_n, w32_id, if_pos, if_neg, if_true, if_false, tp_ck_t, tp_nz_t, tp_gd_i]
      exact wp_some ⟨rfl, Or.inl ⟨rfl, fun o o1 o2 => i2 o o1 (by omega)⟩⟩
    · simp (disch := omega) only [↓tp_lm_n, ↓tp_lt_n, ↓tp_bd_n, ↓tp_jn0_n, ↓tp_jn1_n, ↓tp_jn2_n, ↓tp_jn3_n, w32_id, if_pos, if_neg, if_true, if_false, tp_ck_t, tp_nz_t, tp_gd_i]
      exact wp_some ⟨rfl, Or.inr ⟨rfl, i2⟩⟩
theorem w2_best {x y v : Int} (hx : 0 ≤ x ∧ x ≤ 9) (hy : 0 ≤ y ∧ y ≤ 9) (hv : 0 ≤ v ∧ v ≤ 9) (C M : tp_M) : (fx_X10_isBestWait x y v C = some (1, C) ∧ fx_X11_isRest x y v M = some (1, M)) ∨ (fx_X10_isBestWait x y v C = some (0, C) ∧ fx_X11_isRest x y v M = some (0, M)) := by
  obtain ⟨r1, C1, f1, rfl, p⟩ := cs_best hx hy hv C
  obtain ⟨r2, M1, f2, rfl, q⟩ := ps_best hx hy hv M
  rcases p with ⟨rfl, p⟩ | ⟨rfl, o, p1, p2⟩
  · rcases q with ⟨rfl, q⟩ | ⟨rfl, o, q1, q2⟩
    · exact Or.inl ⟨f1, f2⟩
    · have := p o q1.1 q1.2
      omega
  · rcases q with ⟨rfl, q⟩ | ⟨rfl, q⟩
    · have := q o p1.1 p1.2
      omega
    · exact Or.inr ⟨f1, f2⟩
def wt_ok (C0 M0 : tp_M) (p : Int) (C M : tp_M) : Prop := tp_fr [3, 4] C0 C ∧ tp_fr [0, 1] M0 M ∧ sc_F M0 M ∧ ((p = 0 ∧ C 3 1 = 0 ∧ M 0 1 = 0) ∨ (1 ≤ p ∧ C 3 1 = 2 ∧ M 0 1 = 2 ∧ C 4 0 = M 1 0 ∧ C 4 1 = M 1 1))
section ST
variable {B : Int} {C M : tp_M} {a1 a2 a3 a4 : Int}
theorem st_waits (h1 : pu_in a1) (h : Sim B C M) : wp2 (fx_X10_waits a1 C) (fx_X11_waits a1 M) (Ans B) := by
  have e1 := h1
  unfold pu_in at e1
  unfold fx_X10_waits fx_X11_waits
  refine wp2_lm2 ?_
  rw [w32_id e1, pm_in (M := tp_up M 0 0 0) (a := a1) (b := 0) (c := 9) h1 (by unfold pu_in; omega) (by unfold pu_in; omega), tp_bd_s]
  by_cases c1 : 0 ≤ a1
  · by_cases c2 : a1 ≤ 9
    · rw [if_neg (by omega), if_pos c2, if_pos (show 0 ≤ a1 ∧ a1 ≤ 9 from ⟨c1, c2⟩)]
      refine wp2_f2 (by decide) ?_
      refine wp2_lt1 ?_
      rw [pc_tell, tp_bd_s]
      refine wp2_lt1 ?_
      refine wp2_lt2 ?_
      refine wp2_lm2 ?_
      refine wp2_lt2 ?_
      refine wp2_lp22 (fun p x C1 q y M1 => p = q ∧ x = y ∧ (0 ≤ x ∧ x ≤ 10) ∧ (0 ≤ p ∧ p ≤ 10 * x) ∧ wt_ok C M p C1 M1) (fun _ x _ _ _ _ => (10 - x).toNat) ?_ tp_F tp_F 0 0 _ 0 0 _ ⟨rfl, rfl, by omega, by omega, fr_up fr_rf (by simp), fr_up (fr_up fr_rf (by simp)) (by simp), scF_up (scF_up (scF_rf M) (by decide)) (by decide), Or.inl ⟨rfl, up_s _ _ _ _, up_s _ _ _ _⟩⟩ (tp_F_pos (by omega)) (tp_F_pos (by omega))
      intro rec1 rec2 p x C1 q y M1 hI hrec
      obtain ⟨rfl, rfl, i1, i2, i3⟩ := hI
      unfold fx_X10_waits_L23 fx_X11_waits_L28
      rw [w32_id (show -2147483648 ≤ x ∧ x < 2147483648 by omega)]
      by_cases hx : x ≤ 9
      · rw [if_pos hx, if_pos hx]
        refine wp2_lt1 ?_
        refine wp2_lt2 ?_
        refine wp2_lp22 (fun p2 y C2 q2 y2 M2 => p2 = q2 ∧ y = y2 ∧ (0 ≤ y ∧ y ≤ 10) ∧ (0 ≤ p2 ∧ p2 ≤ 10 * x + y) ∧ wt_ok C M p2 C2 M2) (fun _ y _ _ _ _ => (10 - y).toNat) ?_ tp_F tp_F p 0 C1 p 0 M1 ⟨rfl, rfl, by omega, by omega, i3⟩ (tp_F_pos (by omega)) (tp_F_pos (by omega))
        intro r1 r2 p2 y C2 q2 y2 M2 hI2 hr
        obtain ⟨rfl, rfl, j1, j2, j3⟩ := hI2
        unfold fx_X10_waits_L32 fx_X11_waits_L37
        rw [w32_id (show -2147483648 ≤ y ∧ y < 2147483648 by omega)]
        by_cases hy : y ≤ 9
        · rw [if_pos hy, if_pos hy]
          rcases w2_best (x := x) (y := y) (v := a1) ⟨i1.1, hx⟩ ⟨j1.1, hy⟩ ⟨c1, c2⟩ C2 M2 with ⟨f1, f2⟩ | ⟨f1, f2⟩
          · rcases w2_best (x := y) (y := x) (v := a1) ⟨j1.1, hy⟩ ⟨i1.1, hx⟩ ⟨c1, c2⟩ C2 M2 with ⟨g1, g2⟩ | ⟨g1, g2⟩
            · obtain ⟨k1, k2, k3, k4⟩ := j3
              rcases k4 with ⟨rfl, k4, k5⟩ | ⟨k4, k5⟩
              · have ha := pm_enters (M := M2) (a := x) (t := 0) k5 (by decide)
                have hb := pm_enters (M := tp_up (tp_up M2 1 0 x) 0 1 (0 + 1)) (a := y) (t := 0 + 1) (up_s _ _ _ _) (by decide)
                simp (disch := omega) only [↓tp_lm_n, ↓tp_lt_n, ↓tp_bd_n, ↓tp_jn0_n, ↓tp_jn1_n, ↓tp_jn2_n, ↓tp_jn3_n, w32_id, if_pos, if_neg, if_true, if_false, tp_ck_t, tp_nz_t, tp_gd_i, f1, f2, g1, g2, pc_tell2, ha, hb]
                refine hr _ _ _ _ _ _ ⟨rfl, rfl, by omega, by omega, (by (repeat (first | exact fr_rf | assumption | refine fr_up ?_ (by simp) | refine fr_cp ?_ (by simp) | exact fr_mono (by assumption) (by simp)))), (by (repeat (first | exact fr_rf | assumption | refine fr_up ?_ (by simp) | refine fr_cp ?_ (by simp) | exact fr_mono (by assumption) (by simp)))), scF_up (scF_k (scF_up (scF_k k3 (by decide)) (by decide)) (by decide)) (by decide), Or.inr ⟨by omega, up_s _ _ _ _, up_s _ _ _ _, ?_, ?_⟩⟩ (by omega)
                · simp (disch := omega) only [up_k, up_j, up_s]
                · simp (disch := omega) only [up_k, up_j, up_s]
                  rw [show (0 : Int) + 1 = 1 from rfl, up_s]
              · simp (disch := omega) only [↓tp_lm_n, ↓tp_lt_n, ↓tp_bd_n, ↓tp_jn0_n, ↓tp_jn1_n, ↓tp_jn2_n, ↓tp_jn3_n, w32_id, if_pos, if_neg, if_true, if_false, tp_ck_t, tp_nz_t, tp_gd_i, f1, f2, g1, g2]
                exact hr _ _ _ _ _ _ ⟨rfl, rfl, by omega, by omega, k1, k2, k3, Or.inr ⟨by omega, k5⟩⟩ (by omega)
            · simp (disch := omega) only [↓tp_lm_n, ↓tp_lt_n, ↓tp_bd_n, ↓tp_jn0_n, ↓tp_jn1_n, ↓tp_jn2_n, ↓tp_jn3_n, w32_id, if_pos, if_neg, if_true, if_false, tp_ck_t, tp_nz_t, tp_gd_i, f1, f2, g1, g2]
              exact hr _ _ _ _ _ _ ⟨rfl, rfl, by omega, by omega, j3⟩ (by omega)
          · simp (disch := omega) only [↓tp_lm_n, ↓tp_lt_n, ↓tp_bd_n, ↓tp_jn0_n, ↓tp_jn1_n, ↓tp_jn2_n, ↓tp_jn3_n, w32_id, if_pos, if_neg, if_true, if_false, tp_ck_t, tp_nz_t, tp_gd_i, f1, f2]
            exact hr _ _ _ _ _ _ ⟨rfl, rfl, by omega, by omega, j3⟩ (by omega)
        · rw [if_neg hy, if_neg hy]
          refine wp2_lt1 ?_
          refine wp2_lt2 ?_
          exact hrec _ _ _ _ _ _ ⟨rfl, rfl, by omega, by omega, j3⟩ (by omega)
      · rw [if_neg hx, if_neg hx]
        obtain ⟨k1, k2, k3, k4⟩ := i3
        refine wp2_some ⟨rfl, Sim_told h (Int.le_refl B) k1 k2 (by decide) (by decide) k3 ?_⟩
        rcases k4 with ⟨-, k4, k5⟩ | ⟨-, k4, k5, k6, k7⟩
        · exact ⟨by rw [k4, k5], by omega, fun j j1 j2 => by omega⟩
        · refine ⟨by rw [k4, k5], by omega, fun j j1 j2 => ?_⟩
          have hj : j = 0 ∨ j = 1 := by omega
          rcases hj with rfl | rfl
          · rw [k6]
          · rw [k7]
    · rw [if_neg (by omega), if_neg c2, if_neg (show ¬ (0 ≤ a1 ∧ a1 ≤ 9) by omega)]
      refine wp2_t2 (by decide) ?_
      exact wp2_some (ans_no h)
  · rw [if_pos (by omega), if_neg (show ¬ (0 ≤ a1 ∧ a1 ≤ 9) by omega)]
    refine wp2_t2 (by decide) ?_
    exact wp2_some (ans_no h)
end ST
