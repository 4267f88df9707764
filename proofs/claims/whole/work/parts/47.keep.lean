/-! UNDO, KEEP, AGAIN -/
theorem bt_shr {c v : Int} (hc : 0 ≤ c ∧ c < 2147483648) (hv : 0 ≤ v ∧ v < 8) {j : Nat} (hj : v = (j : Int)) : x_and (x_shr c v) 1 = if c.toNat.testBit j = true then 1 else 0 := by
  subst hj
  have h2 : x_and (x_shr c (j : Int)) 1 = (x_shr c (j : Int)) % 2 := x_and_mask (x_shr c (j : Int)) 1 (by decide)
  rw [h2, x_shr_eq c (b := (j : Int)) j rfl (by omega), w32_id (by omega), Nat.testBit_eq_decide_div_mod_eq]
  simp only [decide_eq_true_eq]
  have hp : 0 < (2 ^ j : Nat) := Nat.two_pow_pos j
  have e : c / ((2 ^ j : Nat) : Int) = ((c.toNat / 2 ^ j : Nat) : Int) := by
    rw [Int.natCast_ediv, show ((c.toNat : Nat) : Int) = c by omega]
  rw [e]
  by_cases h : c.toNat / 2 ^ j % 2 = 1
  · rw [if_pos h]; omega
  · rw [if_neg h]; omega
theorem pc_read {a : Int} {k : Nat} {M : tp_M} (h : 0 ≤ a ∧ a < 18) (hk : k = 25 ∨ k = 28 ∨ k = 31) : wp (fx_X3_read a k M) (fun _ M1 => tp_fr [k, k + 1, k + 2] M M1 ∧ (∀ j : Int, 0 ≤ j → j < 8 → M1 (k + 1) j = M 35 (18 * a + j) ∧ M1 (k + 2) j = M 35 (18 * a + 8 + j)) ∧ M1 k 2 = M 35 (18 * a + 16) ∧ M1 k 3 = M 35 (18 * a + 17)) := by
  refine wp_K (fun Q hQ => ?_)
  unfold fx_X3_read
  simp (disch := omega) only [↓tp_lm_n, ↓tp_lt_n, ↓tp_bd_n, ↓tp_jn0_n, ↓tp_jn1_n, ↓tp_jn2_n, ↓tp_jn3_n, w32_id, if_pos, if_neg, tp_ck_t, tp_nz_t, tp_gd_i, up_s, up_k, up_j, cp_k]
  refine wp_some (hQ _ _ ⟨?_, fun j j1 j2 => ⟨?_, ?_⟩, ?_, ?_⟩)
  · (repeat (first | exact fr_rf | assumption | refine fr_up ?_ (by simp) | refine fr_cp ?_ (by simp) | exact fr_mono (by assumption) (by simp)))
  · simp (disch := omega) only [up_k, cp_k, cp_c, if_pos]
    congr 1; omega
  · simp (disch := omega) only [up_k, cp_k, cp_c, if_pos]
    congr 1; omega
  · simp (disch := omega) only [up_k, up_j, up_s, cp_k]
    congr 1; omega
  · simp (disch := omega) only [up_k, up_j, up_s, cp_k]
    congr 1; omega
theorem pm_takesBack {M : tp_M} {u : Int} (hu : M 0 23 = u) (h : 0 ≤ u ∧ u ≤ 15) : wp (fx_X11_takesBack M) (fun _ M1 => tp_fr [4] M M1 ∧ ∀ j : Int, M1 4 j = if 0 ≤ j ∧ j < 17 then M 14 (17 * u + j) else M 4 j) := by
  refine wp_K (fun Q hQ => ?_)
  unfold fx_X11_takesBack
  refine wp_lt ?_
  refine wp_lp1 (fun z M1 => 0 ≤ z ∧ z ≤ 17 ∧ tp_fr [4] M M1 ∧ ∀ j : Int, M1 4 j = if 0 ≤ j ∧ j < z then M 14 (17 * u + j) else M 4 j) (fun z _ => (17 - z).toNat) ?_ tp_F 0 M ⟨by omega, by omega, fr_rf, fun j => by rw [if_neg (by omega)]⟩ (tp_F_pos (by omega))
  intro rec z M1 hI hrec
  obtain ⟨i1, i2, i3, i4⟩ := hI
  have e0 : M1 0 = M 0 := i3 0 (by simp)
  have e14 : M1 14 = M 14 := i3 14 (by simp)
  unfold fx_X11_takesBack_L2
  rw [e0, hu]
  by_cases hz : z < 17
  · simp (disch := omega) only [↓tp_lm_n, ↓tp_lt_n, ↓tp_bd_n, ↓tp_jn0_n, ↓tp_jn1_n, ↓tp_jn2_n, ↓tp_jn3_n, w32_id, if_pos, if_neg, tp_ck_t, tp_nz_t, tp_gd_i]
    refine hrec _ _ ⟨by omega, by omega, fr_up i3 (by simp), fun j => ?_⟩ (by omega)
    rw [up_c, i4 j, e14]
    by_cases hj : j = z
    · rw [if_pos hj, if_pos (by omega), hj]
    · rw [if_neg hj]
      by_cases hj2 : 0 ≤ j ∧ j < z
      · rw [if_pos hj2, if_pos (by omega)]
      · rw [if_neg hj2, if_neg (by omega)]
  · simp (disch := omega) only [↓tp_lm_n, ↓tp_lt_n, ↓tp_bd_n, ↓tp_jn0_n, ↓tp_jn1_n, ↓tp_jn2_n, ↓tp_jn3_n, w32_id, if_pos, if_neg, tp_ck_t, tp_nz_t, tp_gd_i]
    refine wp_some (hQ _ _ ⟨i3, fun j => ?_⟩)
    rw [i4 j, show z = 17 by omega]
theorem Sim_0 {B : Int} {C M : tp_M} (h : Sim B C M) : Sim B C (tp_up M 0 0 0) := Sim_same h (Int.le_refl B) (SC := []) (SM := [0]) fr_rf (fr_up fr_rf (by simp)) (by simp) (by simp) (fun j hj => up_j _ _ _ (f0_ne hj (by decide)))
theorem st_undo {B : Int} {C M : tp_M} (h : Sim B C M) : wp2 (fx_X10_undo C) (fx_X11_undo M) (Ans B) := by
  have n8 := h.2.2.1.2.1.1
  obtain ⟨u1, u2, u3, u4⟩ := h.2.2.2.2.2.1
  unfold fx_X10_undo fx_X11_undo fx_X3_takeBack
  refine wp2_lm2 ?_
  rw [up_j _ _ _ (show ¬ (23 : Int) = 0 by decide), u1]
  by_cases hu : M 0 23 = 0
  · simp (disch := omega) only [↓tp_lm_n, ↓tp_lt_n, ↓tp_bd_n, ↓tp_jn0_n, ↓tp_jn1_n, ↓tp_jn2_n, ↓tp_jn3_n, w32_id, if_pos, if_neg, tp_ck_t, tp_nz_t, tp_gd_i, fl01]
    exact wp2_some ⟨rfl, Sim_0 h⟩
  · generalize hM2 : tp_up (tp_up M 0 0 0) 0 23 (M 0 23 - 1) = M2
    have e23 : M2 0 23 = M 0 23 - 1 := by rw [← hM2, up_s]
    have f2 : tp_fr [0] M M2 := by rw [← hM2]; (repeat (first | exact fr_rf | assumption | refine fr_up ?_ (by simp) | refine fr_cp ?_ (by simp) | exact fr_mono (by assumption) (by simp)))
    have g2 : ∀ j : Int, ¬ j = 0 → ¬ j = 23 → M2 0 j = M 0 j := fun j j1 j2 => by rw [← hM2, up_j _ _ _ j2, up_j _ _ _ j1]
    obtain ⟨x2, M3, f3, m1, m2⟩ := pm_takesBack (M := M2) (u := M 0 23 - 1) e23 (by omega)
    rw [w32_id (show -2147483648 ≤ M 0 23 ∧ M 0 23 < 2147483648 by omega), if_neg (by omega), if_neg hu]
    refine wp2_lm2 ?_
    rw [f3]
    generalize hC2 : tp_up (tp_up C 34 1 (M 0 23 - 1)) 34 2 ((C 34 2 + 14) % 15) = C2
    have f5 : tp_fr [34] C C2 := by rw [← hC2]; (repeat (first | exact fr_rf | assumption | refine fr_up ?_ (by simp) | refine fr_cp ?_ (by simp) | exact fr_mono (by assumption) (by simp)))
    have e1 : C2 34 1 = M 0 23 - 1 := by rw [← hC2, up_j _ _ _ (by decide), up_s]
    have e2 : C2 34 2 = (C 34 2 + 14) % 15 := by rw [← hC2, up_s]
    have e3 : C2 34 3 = C 34 3 := by rw [← hC2, up_j _ _ _ (by decide), up_j _ _ _ (by decide)]
    have hC2' : tp_up (tp_up C 34 1 (M 0 23 - 1)) 34 2 (x_rem (tp_up C 34 1 (M 0 23 - 1) 34 2 + 15 - 1) 15) = C2 := by
      rw [up_j _ _ _ (show ¬ (2 : Int) = 1 by decide), x_rem_nn (by omega) (by omega), show C 34 2 + 15 - 1 = C 34 2 + 14 by omega]
      exact hC2
    obtain ⟨x1, C3, f4, p1, p2, p3, p4⟩ := pc_read (a := C2 34 2) (k := 25) (M := C2) (by rw [e2]; omega) (by omega)
    simp (disch := omega) only [↓tp_lm_n, ↓tp_lt_n, ↓tp_bd_n, ↓tp_jn0_n, ↓tp_jn1_n, ↓tp_jn2_n, ↓tp_jn3_n, w32_id, if_pos, if_neg, tp_ck_t, tp_nz_t, tp_gd_i, hC2', f4]
    unfold fx_X3_size
    simp (disch := omega) only [↓tp_lm_n, ↓tp_lt_n, ↓tp_bd_n, ↓tp_jn0_n, ↓tp_jn1_n, ↓tp_jn2_n, ↓tp_jn3_n, w32_id, if_pos, if_neg, tp_ck_t, tp_nz_t, tp_gd_i]
    refine wp2_some ⟨?_, Sim_act h (Int.le_refl B) (SC := [25, 26, 27, 34]) (SM := [0, 4]) (fr_tr (fr_mono f5 (by simp)) (fr_mono p1 (by simp))) (fr_tr (fr_mono f2 (by simp)) (fr_mono m1 (by simp))) (by simp) (by simp) (fun j hj => ?_) ?_ ?_ ?_ ?_⟩
    · rw [p1 34 (by simp), e1, m1 0 (by simp), e23]
    · simp only [List.mem_cons, List.not_mem_nil, or_false] at hj
      rw [m1 0 (by simp)]
      exact g2 j (by omega) (by omega)
    · rw [p1 3 (by simp), p1 4 (by simp), f5 3 (by simp), f5 4 (by simp), m1 0 (by simp), m1 1 (by simp), f2 1 (by simp), g2 1 (by decide) (by decide)]
      exact h.2.1
    · rw [m1 0 (by simp), g2 3 (by decide) (by decide), m1 2 (by simp), f2 2 (by simp)]
      have hp := u4 (M 0 23 - 1) (by omega) (by omega)
      have e35 : C2 35 = C 35 := f5 35 (by simp)
      have ep : (C 34 2 + 15 - M 0 23 + (M 0 23 - 1)) % 15 = C2 34 2 := by rw [e2]; omega
      rw [ep] at hp
      refine sm_row_cg (by omega) hp (fun v v1 v2 => ?_) (fun v v1 v2 => ?_) ?_ ?_ (fun j j1 j2 => ?_)
      · rw [← e35]; exact (p2 v v1 v2).1
      · rw [← e35]; exact (p2 v v1 v2).2
      · rw [← e35]; exact p3
      · rw [← e35]; exact p4
      · rw [m2 j, if_pos ⟨j1, j2⟩, f2 14 (by simp)]
    · rw [p1 34 (by simp), p1 35 (by simp), f5 35 (by simp), e1, e2, m1 0 (by simp), e23, g2 3 (by decide) (by decide), m1 2 (by simp), f2 2 (by simp), m1 14 (by simp), f2 14 (by simp)]
      refine ⟨rfl, by omega, by omega, fun i i1 i2 => ?_⟩
      have hp := u4 i i1 (by omega)
      rw [show (C 34 2 + 15 - M 0 23 + i) % 15 = ((C 34 2 + 14) % 15 + 15 - (M 0 23 - 1) + i) % 15 by omega] at hp
      exact hp
    · rw [p1 34 (by simp), p1 35 (by simp), f5 35 (by simp), e3, m1 0 (by simp), g2 3 (by decide) (by decide), m1 2 (by simp), f2 2 (by simp), m1 32 (by simp), f2 32 (by simp), m1 33 (by simp), f2 33 (by simp)]
      exact h.2.2.2.2.2.2.1
theorem bt_lt8 {c : Int} (h0 : 0 ≤ c) (h : ∀ j : Nat, 3 ≤ j → ¬ bt c j) : c < 8 := by
  have := Nat.lt_pow_two_of_testBit (n := 3) c.toNat (fun i hi => by
    have := h i hi
    unfold bt at this
    exact Bool.eq_false_iff.mpr this)
  omega
theorem bt_ge {c : Int} (h : 0 ≤ c ∧ c < 8) {j : Nat} (hj : 3 ≤ j) : ¬ bt c j := by
  unfold bt
  have h8 : (2 ^ 3 : Nat) ≤ 2 ^ j := Nat.pow_le_pow_right (by decide) hj
  have h9 : (2 ^ 3 : Nat) = 8 := by decide
  rw [Nat.testBit_lt_two_pow (show c.toNat < 2 ^ j by omega)]
  decide
theorem st_keep {B : Int} {C M : tp_M} {a1 : Int} (h1 : pu_in a1) (h : Sim B C M) : wp2 (fx_X10_keep a1 C) (fx_X11_keep a1 M) (Ans B) := by
  have n8 := h.2.2.1.2.1.1
  obtain ⟨k1, k2⟩ := h.2.2.2.2.2.2.1
  have h1' := h1
  unfold pu_in at h1'
  unfold fx_X10_keep fx_X11_keep
  refine wp2_lm2 ?_
  by_cases c1 : 0 ≤ a1 ∧ a1 ≤ 2
  · generalize hM2 : tp_up (tp_up M 0 0 0) 32 a1 1 = M2
    have f2 : tp_fr [0, 32] M M2 := by rw [← hM2]; (repeat (first | exact fr_rf | assumption | refine fr_up ?_ (by simp) | refine fr_cp ?_ (by simp) | exact fr_mono (by assumption) (by simp)))
    have g2 : ∀ j : Int, ¬ j = 0 → M2 0 j = M 0 j := fun j j1 => by rw [← hM2, up_k _ _ _ (by decide), up_j _ _ _ j1]
    have g32 : ∀ j : Int, M2 32 j = if j = a1 then 1 else M 32 j := fun j => by rw [← hM2, up_c, up_k _ _ _ (by decide)]
    obtain ⟨x1, C3, f4, p1, p2⟩ := pc_write (a := 15 + a1) (k := 25) (M := C) (by omega) (by omega)
    unfold fx_X3_store fx_X3_isNumber
    simp (disch := omega) only [↓tp_lm_n, ↓tp_lt_n, ↓tp_bd_n, ↓tp_jn0_n, ↓tp_jn1_n, ↓tp_jn2_n, ↓tp_jn3_n, w32_id, if_pos, if_neg, tp_ck_t, tp_nz_t, tp_gd_i, pm_in (a := a1) (b := 0) (c := 2) h1 (by unfold pu_in; omega) (by unfold pu_in; omega), hM2, f4]
    have hm : wp (tp_lp1 (fx_X11_keep_L28 a1) tp_F 0 M2) (fun r M3 => r = 1 ∧ tp_fr [33] M2 M3 ∧ ∀ j : Int, M3 33 j = if 17 * a1 ≤ j ∧ j < 17 * a1 + 17 then M 4 (j - 17 * a1) else M 33 j) := by
      refine wp_lp1 (fun z M3 => (0 ≤ z ∧ z ≤ 17) ∧ tp_fr [33] M2 M3 ∧ ∀ j : Int, M3 33 j = if 17 * a1 ≤ j ∧ j < 17 * a1 + z then M 4 (j - 17 * a1) else M 33 j) (fun z _ => (17 - z).toNat) ?_ tp_F 0 M2 ⟨by omega, fr_rf, fun j => by rw [if_neg (by omega), f2 33 (by simp)]⟩ (tp_F_pos (by omega))
      intro rec z M3 hI hrec
      obtain ⟨i1, i3, i4⟩ := hI
      have e4 : M3 4 = M 4 := by rw [i3 4 (by simp), f2 4 (by simp)]
      unfold fx_X11_keep_L28
      by_cases hz : z < 17
      · simp (disch := omega) only [↓tp_lm_n, ↓tp_lt_n, ↓tp_bd_n, ↓tp_jn0_n, ↓tp_jn1_n, ↓tp_jn2_n, ↓tp_jn3_n, w32_id, if_pos, if_neg, tp_ck_t, tp_nz_t, tp_gd_i]
        refine hrec _ _ ⟨by omega, fr_up i3 (by simp), fun j => ?_⟩ (by omega)
        rw [up_c, i4 j, e4]
        by_cases hj : j = 17 * a1 + z
        · rw [if_pos hj, if_pos (by omega)]
          congr 1
          omega
        · rw [if_neg hj]
          by_cases hj2 : 17 * a1 ≤ j ∧ j < 17 * a1 + z
          · rw [if_pos hj2, if_pos (by omega)]
          · rw [if_neg hj2, if_neg (by omega)]
      · simp (disch := omega) only [↓tp_lm_n, ↓tp_lt_n, ↓tp_bd_n, ↓tp_jn0_n, ↓tp_jn1_n, ↓tp_jn2_n, ↓tp_jn3_n, w32_id, if_pos, if_neg, tp_ck_t, tp_nz_t, tp_gd_i]
        refine wp_some ⟨rfl, i3, fun j => ?_⟩
        rw [i4 j, show z = 17 by omega]
    obtain ⟨r3, M3, f3, rfl, m1, m2⟩ := hm
    rw [f3]
    have hbt := bt_or (a := C 34 3) (v := a1) (by omega) (by omega)
    rw [p1 34 (by simp)]
    refine wp2_some ⟨rfl, Sim_keep h (Int.le_refl B) (SC := [34, 35]) (SM := [0, 32, 33]) (fr_up (fr_mono p1 (by simp)) (by simp)) (fr_tr (fr_mono f2 (by simp)) (fr_mono m1 (by simp))) (by simp) (by simp) (fun j hj => ?_) ?_ ?_⟩
    · simp only [List.mem_cons, List.not_mem_nil, or_false] at hj
      rw [m1 0 (by simp)]
      exact g2 j (by omega)
    · rw [up_j _ _ _ (by decide), up_j _ _ _ (by decide), up_k _ _ _ (by decide), p1 34 (by simp), m1 0 (by simp), g2 23 (by decide), g2 3 (by decide), m1 14 (by simp), f2 14 (by simp), m1 2 (by simp), f2 2 (by simp)]
      obtain ⟨u1, u2, u3, u4⟩ := h.2.2.2.2.2.1
      refine ⟨u1, u2, u3, fun i i1 i2 => sm_place_cg (by omega) (u4 i i1 i2) (fun j j1 j2 => ?_) (fun _ _ _ => rfl)⟩
      rw [p2]
      exact wr_other (by omega) ⟨j1, j2⟩
    · rw [up_s, up_k _ _ _ (by decide), m1 0 (by simp), g2 3 (by decide), m1 2 (by simp), f2 2 (by simp), m1 32 (by simp)]
      refine ⟨⟨hbt.1.1, bt_lt8 hbt.1.1 (fun j hj q => ?_)⟩, fun i hi => ?_⟩
      · rw [hbt.2 j] at q
        rcases q with q | q
        · exact bt_ge k1 hj q
        · omega
      · obtain ⟨q1, q2, q3⟩ := k2 i hi
        have hb := hbt.2 i
        unfold bt at hb
        rw [g32, hb, q2]
        by_cases hia : (i : Int) = a1
        · rw [if_pos hia]
          refine ⟨Or.inr rfl, ⟨fun _ => rfl, fun _ => Or.inr hia⟩, fun _ => ?_⟩
          rw [hia, p2]
          refine wr_same (by omega) h.2.2.2.1 (fun j j1 j2 => ?_)
          rw [m2, if_pos (by omega), show 17 * a1 + j - 17 * a1 = j by omega]
        · rw [if_neg hia]
          refine ⟨q1, ⟨fun q => q.resolve_right hia, Or.inl⟩, fun hk => sm_place_cg (by omega) (q3 hk) (fun j j1 j2 => ?_) (fun j j1 j2 => ?_)⟩
          · rw [p2]; exact wr_other (by omega) ⟨j1, j2⟩
          · rw [m2, if_neg (by omega)]
  · unfold fx_X3_isNumber
    by_cases c2 : a1 < 0
    · simp (disch := omega) only [↓tp_lm_n, ↓tp_lt_n, ↓tp_bd_n, ↓tp_jn0_n, ↓tp_jn1_n, ↓tp_jn2_n, ↓tp_jn3_n, w32_id, if_pos, if_neg, tp_ck_t, tp_nz_t, tp_gd_i, pm_in (a := a1) (b := 0) (c := 2) h1 (by unfold pu_in; omega) (by unfold pu_in; omega)]
      exact wp2_some ⟨rfl, Sim_0 h⟩
    · simp (disch := omega) only [↓tp_lm_n, ↓tp_lt_n, ↓tp_bd_n, ↓tp_jn0_n, ↓tp_jn1_n, ↓tp_jn2_n, ↓tp_jn3_n, w32_id, if_pos, if_neg, tp_ck_t, tp_nz_t, tp_gd_i, pm_in (a := a1) (b := 0) (c := 2) h1 (by unfold pu_in; omega) (by unfold pu_in; omega)]
      exact wp2_some ⟨rfl, Sim_0 h⟩
/-- a kept row is brought -/
theorem pc_bring {k : Nat} (hk : k = 25 ∨ k = 28) {C : tp_M} {a1 : Int} (h1 : 0 ≤ a1 ∧ a1 ≤ 2) {i : Nat} (hi : a1 = (i : Int)) (hc : 0 ≤ C 34 3 ∧ C 34 3 < 8) : wp (fx_X3_bring a1 k C) (fun r C1 => (bt (C 34 3) i → r = 1 ∧ tp_fr [k, k + 1, k + 2] C C1 ∧ (∀ j : Int, 0 ≤ j → j < 8 → C1 (k + 1) j = C 35 (18 * (15 + a1) + j) ∧ C1 (k + 2) j = C 35 (18 * (15 + a1) + 8 + j)) ∧ C1 k 2 = C 35 (18 * (15 + a1) + 16) ∧ C1 k 3 = C 35 (18 * (15 + a1) + 17)) ∧ (¬ bt (C 34 3) i → r = 0 ∧ C1 = C)) := by
  refine wp_K (fun Q hQ => ?_)
  have hs := bt_shr (c := C 34 3) (v := a1) (by omega) (by omega) hi
  unfold fx_X3_bring fx_X3_isNumber
  by_cases hb : bt (C 34 3) i
  · rw [if_pos (show (C 34 3).toNat.testBit i = true from hb)] at hs
    obtain ⟨x1, C3, f4, p1⟩ := pc_read (a := 15 + a1) (k := k) (M := C) (by omega) (by omega)
    simp (disch := omega) only [↓tp_lm_n, ↓tp_lt_n, ↓tp_bd_n, ↓tp_jn0_n, ↓tp_jn1_n, ↓tp_jn2_n, ↓tp_jn3_n, w32_id, if_pos, if_neg, tp_ck_t, tp_nz_t, tp_gd_i, hs, f4]
    exact wp_some (hQ _ _ ⟨fun _ => ⟨rfl, p1⟩, fun q => absurd hb q⟩)
  · rw [if_neg (show ¬ (C 34 3).toNat.testBit i = true from hb)] at hs
    simp (disch := omega) only [↓tp_lm_n, ↓tp_lt_n, ↓tp_bd_n, ↓tp_jn0_n, ↓tp_jn1_n, ↓tp_jn2_n, ↓tp_jn3_n, w32_id, if_pos, if_neg, tp_ck_t, tp_nz_t, tp_gd_i, hs]
    exact wp_some (hQ _ _ ⟨fun q => absurd q hb, fun _ => ⟨rfl, rfl⟩⟩)
theorem st_again {B : Int} {C M : tp_M} {a1 : Int} (h1 : pu_in a1) (h : Sim B C M) : wp2 (fx_X10_again a1 C) (fx_X11_again a1 M) (Ans B) := by
  have n8 := h.2.2.1.2.1.1
  obtain ⟨k1, k2⟩ := h.2.2.2.2.2.2.1
  have h1' := h1
  unfold pu_in at h1'
  unfold fx_X10_again fx_X11_again
  refine wp2_lm2 ?_
  by_cases c1 : 0 ≤ a1 ∧ a1 ≤ 2
  · obtain ⟨i, hi⟩ := Int.eq_ofNat_of_zero_le c1.1
    obtain ⟨q1, q2, q3⟩ := k2 i (by omega)
    rw [← hi] at q1 q2 q3
    obtain ⟨r1, C1, f1, p1, p2⟩ := pc_bring (k := 25) (C := C) (a1 := a1) (by omega) c1 hi k1
    have e32 : tp_up M 0 0 0 32 a1 = M 32 a1 := by rw [up_k _ _ _ (by decide)]
    by_cases hb : M 32 a1 = 1
    · obtain ⟨rfl, s1, s2, s3, s4⟩ := p1 (q2.mpr hb)
      unfold fx_X3_forgetActs
      simp (disch := omega) only [↓tp_lm_n, ↓tp_lt_n, ↓tp_bd_n, ↓tp_jn0_n, ↓tp_jn1_n, ↓tp_jn2_n, ↓tp_jn3_n, w32_id, if_pos, if_neg, tp_ck_t, tp_nz_t, tp_gd_i, f1, pm_in (a := a1) (b := 0) (c := 2) h1 (by unfold pu_in; omega) (by unfold pu_in; omega), e32, hb]
      have hm : wp (tp_lp1 (fx_X11_again_L30 a1) tp_F 0 (tp_up M 0 0 0)) (fun r M3 => r = 1 ∧ tp_fr [0, 4] M M3 ∧ (∀ j : Int, ¬ j = 0 → ¬ j = 23 → M3 0 j = M 0 j) ∧ M3 0 23 = 0 ∧ ∀ j : Int, M3 4 j = if 0 ≤ j ∧ j < 17 then M 33 (17 * a1 + j) else M 4 j) := by
        refine wp_lp1 (fun z M3 => (0 ≤ z ∧ z ≤ 17) ∧ tp_fr [0, 4] M M3 ∧ (∀ j : Int, ¬ j = 0 → M3 0 j = M 0 j) ∧ ∀ j : Int, M3 4 j = if 0 ≤ j ∧ j < z then M 33 (17 * a1 + j) else M 4 j) (fun z _ => (17 - z).toNat) ?_ tp_F 0 _ ⟨by omega, fr_up fr_rf (by simp), fun j hj => up_j _ _ _ hj, fun j => by rw [if_neg (by omega), up_k _ _ _ (by decide)]⟩ (tp_F_pos (by omega))
        intro rec z M3 hI hrec
        obtain ⟨i1, i3, i4, i5⟩ := hI
        have e33 : M3 33 = M 33 := i3 33 (by simp)
        unfold fx_X11_again_L30
        by_cases hz : z < 17
        · simp (disch := omega) only [↓tp_lm_n, ↓tp_lt_n, ↓tp_bd_n, ↓tp_jn0_n, ↓tp_jn1_n, ↓tp_jn2_n, ↓tp_jn3_n, w32_id, if_pos, if_neg, tp_ck_t, tp_nz_t, tp_gd_i]
          refine hrec _ _ ⟨by omega, fr_up i3 (by simp), fun j hj => by rw [up_k _ _ _ (by decide)]; exact i4 j hj, fun j => ?_⟩ (by omega)
          rw [up_c, i5 j, e33]
          by_cases hj : j = z
          · rw [if_pos hj, if_pos (by omega), hj]
          · rw [if_neg hj]
            by_cases hj2 : 0 ≤ j ∧ j < z
            · rw [if_pos hj2, if_pos (by omega)]
            · rw [if_neg hj2, if_neg (by omega)]
        · simp (disch := omega) only [↓tp_lm_n, ↓tp_lt_n, ↓tp_bd_n, ↓tp_jn0_n, ↓tp_jn1_n, ↓tp_jn2_n, ↓tp_jn3_n, w32_id, if_pos, if_neg, tp_ck_t, tp_nz_t, tp_gd_i]
          refine wp_some ⟨rfl, fr_up i3 (by simp), fun j j1 j2 => by rw [up_j _ _ _ j2]; exact i4 j j1, up_s _ _ _ _, fun j => ?_⟩
          rw [up_k _ _ _ (by decide), i5 j, show z = 17 by omega]
      obtain ⟨r3, M3, f3, rfl, m1, m2, m3, m4⟩ := hm
      rw [f3]
      refine wp2_some ⟨rfl, Sim_act h (Int.le_refl B) (SC := [25, 26, 27, 34]) (SM := [0, 4]) (fr_up (fr_mono s1 (by simp)) (by simp)) m1 (by simp) (by simp) (fun j hj => ?_) ?_ ?_ ?_ ?_⟩
      · simp only [List.mem_cons, List.not_mem_nil, or_false] at hj
        exact m2 j (by omega) (by omega)
      · rw [up_k _ _ _ (by decide), up_k _ _ _ (by decide), s1 3 (by simp), s1 4 (by simp), m1 1 (by simp), m2 1 (by decide) (by decide)]
        exact h.2.1
      · simp (disch := omega) only [up_k]
        rw [m2 3 (by decide) (by decide), m1 2 (by simp)]
        refine sm_row_cg (by omega) (q3 hb) (fun v v1 v2 => (s2 v v1 v2).1) (fun v v1 v2 => (s2 v v1 v2).2) s3 s4 (fun j j1 j2 => ?_)
        rw [m4 j, if_pos ⟨j1, j2⟩]
      · rw [up_s, m3, up_j _ _ _ (by decide), s1 34 (by simp)]
        exact ⟨rfl, by omega, h.2.2.2.2.2.1.2.2.1, fun i i1 i2 => by omega⟩
      · rw [up_j _ _ _ (by decide), up_k _ _ _ (by decide), s1 34 (by simp), s1 35 (by simp), m2 3 (by decide) (by decide), m1 2 (by simp), m1 32 (by simp), m1 33 (by simp)]
        exact h.2.2.2.2.2.2.1
    · obtain ⟨rfl, rfl⟩ := p2 (fun q => hb (q2.mp q))
      have hb0 : M 32 a1 = 0 := by omega
      simp (disch := omega) only [↓tp_lm_n, ↓tp_lt_n, ↓tp_bd_n, ↓tp_jn0_n, ↓tp_jn1_n, ↓tp_jn2_n, ↓tp_jn3_n, w32_id, if_pos, if_neg, tp_ck_t, tp_nz_t, tp_gd_i, f1, pm_in (a := a1) (b := 0) (c := 2) h1 (by unfold pu_in; omega) (by unfold pu_in; omega), e32, hb0]
      exact wp2_some ⟨rfl, Sim_0 h⟩
  · unfold fx_X3_bring fx_X3_isNumber
    by_cases c2 : a1 < 0
    · simp (disch := omega) only [↓tp_lm_n, ↓tp_lt_n, ↓tp_bd_n, ↓tp_jn0_n, ↓tp_jn1_n, ↓tp_jn2_n, ↓tp_jn3_n, w32_id, if_pos, if_neg, tp_ck_t, tp_nz_t, tp_gd_i, pm_in (a := a1) (b := 0) (c := 2) h1 (by unfold pu_in; omega) (by unfold pu_in; omega)]
      exact wp2_some ⟨rfl, Sim_0 h⟩
    · simp (disch := omega) only [↓tp_lm_n, ↓tp_lt_n, ↓tp_bd_n, ↓tp_jn0_n, ↓tp_jn1_n, ↓tp_jn2_n, ↓tp_jn3_n, w32_id, if_pos, if_neg, tp_ck_t, tp_nz_t, tp_gd_i, pm_in (a := a1) (b := 0) (c := 2) h1 (by unfold pu_in; omega) (by unfold pu_in; omega)]
      exact wp2_some ⟨rfl, Sim_0 h⟩
