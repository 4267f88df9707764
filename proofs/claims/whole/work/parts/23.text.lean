/-! THE TEXT: sign, end on both sides -/
/-- four signs behind t -/
def sg_put (f : Int → Int) (t a : Int) : Int → Int := fun j => if j = t then a / 16777216 % 256 else if j = t + 1 then a / 65536 % 256 else if j = t + 2 then a / 256 % 256 else if j = t + 3 then a % 256 else f j
theorem pc_X7_size (M : tp_M) : fx_X7_size M = some (M 1 1, M) := rfl
theorem pc_X7_add (a : Int) (M : tp_M) {t : Int} (ht : M 1 1 = t) (h : 0 ≤ t ∧ t < 80) : fx_X7_add a M = some (0, tp_up (tp_up M 2 t a) 1 1 (t + 1)) := by
  have e : w32 t = t := w32_id (by omega)
  simp only [fx_X7_add, ht, e, if_pos h.2, tp_ck_t h, tp_lm_s]
  rw [up_k _ _ _ (by decide), ht]
theorem sg_sh24 (a : Int) : x_ushr a 24 = a / 16777216 % 256 := by
  rw [x_ushr_eq a (b := 24) 24 rfl (by decide) (by decide)]
  show a % 4294967296 / 16777216 = _
  omega
theorem sg_sh16 (a : Int) : x_and (x_ushr a 16) 255 = a / 65536 % 256 := by
  rw [x_and_255, x_ushr_eq a (b := 16) 16 rfl (by decide) (by decide)]
  show a % 4294967296 / 65536 % 256 = _
  omega
theorem sg_sh8 (a : Int) : x_and (x_ushr a 8) 255 = a / 256 % 256 := by
  rw [x_and_255, x_ushr_eq a (b := 8) 8 rfl (by decide) (by decide)]
  show a % 4294967296 / 256 % 256 = _
  omega
/-- the class's sign -/
theorem pc_sign (a : Int) (M : tp_M) {t : Int} (ht : M 1 1 = t) (h : 0 ≤ t ∧ t ≤ 80) : wp (fx_X10_sign a M) (fun r M1 => if t ≤ 76 then r = t + 4 ∧ M1 1 1 = t + 4 ∧ M1 2 = sg_put (M 2) t a ∧ tp_fr [1, 2] M M1 else r = -1 ∧ M1 = M) := by
  unfold fx_X10_sign
  rw [pc_X7_size, tp_bd_s, ht]
  by_cases h76 : t ≤ 76
  · have e : w32 (t + 4) ≤ 80 := by rw [w32_id (by omega)]; omega
    rw [if_pos e, pc_X7_add _ M ht (by omega), tp_bd_s]
    rw [pc_X7_add _ _ (t := t + 1) (up_s _ _ _ _) (by omega), tp_bd_s]
    rw [pc_X7_add _ _ (t := t + 1 + 1) (up_s _ _ _ _) (by omega), tp_bd_s]
    rw [pc_X7_add _ _ (t := t + 1 + 1 + 1) (up_s _ _ _ _) (by omega), tp_bd_s]
    rw [pc_X7_size, tp_bd_s]
    refine wp_some ?_
    rw [if_pos h76, up_s]
    refine ⟨by omega, by omega, ?_, fun c hc => ?_⟩
    · funext j
      simp only [up_c, up_k _ _ _ (show ¬ (2 : Nat) = 1 by decide), sg_sh24, sg_sh16, sg_sh8]
      simp only [x_and_255, sg_put]
      repeat' split
      all_goals first | rfl | omega
    · simp only [List.mem_cons, List.not_mem_nil, or_false, not_or] at hc
      simp only [up_k _ _ _ hc.1, up_k _ _ _ hc.2]
  · have e : ¬ w32 (t + 4) ≤ 80 := by rw [w32_id (by omega)]; omega
    rw [if_neg e]
    refine wp_some ?_
    rw [if_neg h76]
    exact ⟨rfl, rfl⟩
/-- the reference's sign -/
theorem pm_sign (a : Int) (M : tp_M) {t : Int} (ht : M 0 9 = t) (h : 0 ≤ t ∧ t ≤ 80) (ha : pu_in a) : wp (fx_X11_sign a M) (fun r M1 => M1 0 0 = 0 ∧ (∀ j, ¬ j = 0 → ¬ j = 9 → M1 0 j = M 0 j) ∧ tp_fr [0, 6] M M1 ∧ if t ≤ 76 then r = t + 4 ∧ M1 0 9 = t + 4 ∧ M1 6 = sg_put (M 6) t a else r = -1 ∧ M1 0 9 = t ∧ M1 6 = M 6) := by
  unfold fx_X11_sign
  refine wp_lm ?_
  have e9 : tp_up M 0 0 0 0 9 = t := ht
  rw [e9, w32_id (by omega)]
  by_cases h76 : t ≤ 76
  · rw [if_pos h76]
    refine wp_lt ?_
    refine wp_lp1 (fun z M1 => 0 ≤ z ∧ z ≤ 4 ∧ M1 0 = tp_up M 0 0 0 0 ∧ tp_fr [0, 6] M M1 ∧ (∀ j, M1 6 j = if t ≤ j ∧ j < t + z then sg_put (M 6) t a j else M 6 j)) (fun z _ => (4 - z).toNat) ?_ tp_F 0 _ ⟨by omega, by omega, rfl, fr_up fr_rf (by decide), fun j => ?_⟩ (tp_F_pos (by omega))
    · intro rec z M1 hI hrec
      obtain ⟨i1, i2, i3, i4, i5⟩ := hI
      unfold fx_X11_sign_L18
      rw [w32_id (by omega), i3, e9]
      by_cases hz : z < 4
      · rw [if_pos hz, w32_id (by omega)]
        refine wp_ck (by omega) ?_
        refine wp_lm ?_
        refine wp_lt ?_
        refine hrec _ _ ⟨by omega, by omega, ?_, fr_up i4 (by decide), fun j => ?_⟩ (by omega)
        · rw [up_k _ _ _ (by decide), i3]
        · rw [up_c, i5 j]
          have hs : x_and (x_shr a (24 - 8 * z)) 255 = sg_put (M 6) t a (t + z) := by
            unfold pu_in at ha
            have hz4 : z = 0 ∨ z = 1 ∨ z = 2 ∨ z = 3 := by omega
            rcases hz4 with rfl | rfl | rfl | rfl
            · rw [x_and_255, x_shr_eq a (b := 24 - 8 * 0) 24 (by decide) (by decide), w32_id ha, sg_put, if_pos (by omega)]
              rfl
            · rw [x_and_255, x_shr_eq a (b := 24 - 8 * 1) 16 (by decide) (by decide), w32_id ha, sg_put, if_neg (by omega), if_pos (by omega)]
              rfl
            · rw [x_and_255, x_shr_eq a (b := 24 - 8 * 2) 8 (by decide) (by decide), w32_id ha, sg_put, if_neg (by omega), if_neg (by omega), if_pos (by omega)]
              rfl
            · rw [x_and_255, x_shr_eq a (b := 24 - 8 * 3) 0 (by decide) (by decide), w32_id ha, sg_put, if_neg (by omega), if_neg (by omega), if_neg (by omega), if_pos (by omega)]
              show a / 1 % 256 = _
              omega
          by_cases hj : j = t + z
          · rw [if_pos hj, hs, hj, if_pos (by omega)]
          · rw [if_neg hj]
            by_cases hj2 : t ≤ j ∧ j < t + z
            · rw [if_pos hj2, if_pos (by omega)]
            · rw [if_neg hj2, if_neg (by omega)]
      · rw [if_neg hz]
        refine wp_lm ?_
        refine wp_some ?_
        refine ⟨?_, fun j h0 h9 => ?_, fr_up i4 (by decide), ?_⟩
        · rw [up_j _ _ _ (by decide), i3]; rfl
        · rw [up_j _ _ _ h9, i3, up_j _ _ _ h0]
        · rw [if_pos h76, up_s, up_k _ _ _ (by decide)]
          refine ⟨rfl, rfl, ?_⟩
          funext j
          rw [i5 j]
          by_cases hj2 : t ≤ j ∧ j < t + z
          · rw [if_pos hj2]
          · rw [if_neg hj2, sg_put, if_neg (by omega), if_neg (by omega), if_neg (by omega), if_neg (by omega)]
    · rw [if_neg (by omega), up_k _ _ _ (by decide)]
  · rw [if_neg h76]
    refine wp_some ⟨rfl, fun j h0 _ => up_j _ _ _ h0, fr_up fr_rf (by decide), ?_⟩
    rw [if_neg h76]
    exact ⟨rfl, e9, up_k _ _ _ (by decide)⟩
theorem x_lcmp_lt {a b : Int} (ha : pu_in a) (hb : pu_in b) : x_lcmp a b < 0 ↔ a < b := by
  unfold pu_in at *
  unfold x_lcmp
  rw [w64_id (by omega), w64_id (by omega)]
  repeat' split
  all_goals omega
theorem x_lcmp_le {a b : Int} (ha : pu_in a) (hb : pu_in b) : x_lcmp a b ≤ 0 ↔ a ≤ b := by
  unfold pu_in at *
  unfold x_lcmp
  rw [w64_id (by omega), w64_id (by omega)]
  repeat' split
  all_goals omega
theorem pm_in {a b c : Int} (ha : pu_in a) (hb : pu_in b) (hc : pu_in c) (M : tp_M) : fx_X11_in a b c M = some (if b ≤ a ∧ a ≤ c then 1 else 0, M) := by
  unfold fx_X11_in
  simp only [x_lcmp_lt ha hb, x_lcmp_le ha hc]
  by_cases h1 : a < b
  · rw [if_pos h1, if_neg (by omega)]
  · rw [if_neg h1]
    by_cases h2 : a ≤ c
    · rw [if_pos h2, if_pos (by omega)]
    · rw [if_neg h2, if_neg (by omega)]
theorem pc_end (a : Int) (M : tp_M) {t : Int} (ht : M 1 1 = t) (h : 0 ≤ t ∧ t ≤ 80) (ha : pu_in a) : wp (fx_X10_end a M) (fun r M1 => tp_fr [1] M M1 ∧ if 0 ≤ a ∧ a ≤ t then r = 1 ∧ M1 1 1 = a else r = 0 ∧ M1 1 1 = t) := by
  unfold fx_X10_end
  rw [w32_id ha]
  unfold pu_in at ha
  by_cases h0 : a < 0
  · rw [if_pos h0]
    refine wp_some ⟨fr_rf, ?_⟩
    rw [if_neg (by omega)]
    exact ⟨rfl, ht⟩
  · rw [if_neg h0, pc_X7_size, tp_bd_s, ht, w32_id (by omega)]
    by_cases h1 : a ≤ t
    · rw [if_pos h1]
      unfold fx_X7_cut
      rw [w32_id (by omega), if_neg h0, ht, w32_id (by omega)]
      by_cases h2 : a < t
      · rw [if_pos h2, tp_lm_s, tp_bd_s]
        refine wp_some ⟨fr_up fr_rf (by decide), ?_⟩
        rw [if_pos (by omega), up_s]
        exact ⟨rfl, rfl⟩
      · rw [if_neg h2, tp_bd_s]
        refine wp_some ⟨fr_rf, ?_⟩
        rw [if_pos (by omega), ht]
        exact ⟨rfl, by omega⟩
    · rw [if_neg h1]
      refine wp_some ⟨fr_rf, ?_⟩
      rw [if_neg (by omega)]
      exact ⟨rfl, ht⟩
theorem pm_end (a : Int) (M : tp_M) {t : Int} (ht : M 0 9 = t) (h : 0 ≤ t ∧ t ≤ 80) (ha : pu_in a) : wp (fx_X11_end a M) (fun r M1 => M1 0 0 = 0 ∧ (∀ j, ¬ j = 0 → ¬ j = 9 → M1 0 j = M 0 j) ∧ tp_fr [0] M M1 ∧ if 0 ≤ a ∧ a ≤ t then r = 1 ∧ M1 0 9 = a else r = 0 ∧ M1 0 9 = t) := by
  unfold fx_X11_end
  refine wp_lm ?_
  have e9 : tp_up M 0 0 0 0 9 = t := ht
  rw [e9, w32_id ha, w32_id (by omega), pm_in ha (by unfold pu_in; omega) (by unfold pu_in; omega), tp_bd_s]
  by_cases h1 : 0 ≤ a ∧ a ≤ t
  · rw [if_pos h1, if_neg (by decide)]
    refine wp_lm ?_
    refine wp_some ⟨?_, fun j h0 h9 => ?_, fr_up (fr_up fr_rf (by decide)) (by decide), ?_⟩
    · rw [up_j _ _ _ (by decide)]; rfl
    · rw [up_j _ _ _ h9, up_j _ _ _ h0]
    · rw [if_pos h1, up_s]
      exact ⟨rfl, rfl⟩
  · rw [if_neg h1, if_pos (by decide)]
    refine wp_some ⟨rfl, fun j h0 _ => up_j _ _ _ h0, fr_up fr_rf (by decide), ?_⟩
    rw [if_neg h1]
    exact ⟨rfl, e9⟩
