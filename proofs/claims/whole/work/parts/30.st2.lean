/-! THE STEP of what is heard -/
abbrev hd_ok (a b : Int) : Prop := (a = 0 ∧ 1 ≤ b ∧ b ≤ 4) ∨ (a = 1 ∧ 0 ≤ b ∧ b ≤ 9) ∨ (a = 2 ∧ 0 ≤ b ∧ b < 8) ∨ (a = 3 ∧ 1 ≤ b ∧ b < 8)
theorem pc_canBeHeard {M : tp_M} {a b : Int} (ha : pu_in a) (hb : pu_in b) : fx_X1_canBeHeard a b M = some (if hd_ok a b then 1 else 0, M) := by
  unfold fx_X1_canBeHeard
  rw [w32_id ha, w32_id hb]
  repeat' split
  all_goals first | rfl | (exfalso; omega) | (unfold hd_ok at *; omega)
theorem pm_lowest {M : tp_M} {a : Int} (ha : pu_in a) : fx_X11_lowest a M = some (if a = 0 ∨ a = 3 then 1 else 0, M) := by
  unfold fx_X11_lowest
  rw [tp_jn1_s, tp_jn0_s, w32_id ha]
  have g1 : fx_X11_flag 1 M = some (1, M) := rfl
  have g0 : fx_X11_flag 0 M = some (0, M) := rfl
  simp only [g1, g0, tp_bd_s]
  by_cases h0 : a = 0
  · rw [if_pos h0, if_pos (Or.inl h0)]
  · rw [if_neg h0]
    by_cases h3 : a = 3
    · rw [if_pos h3, if_pos (Or.inr h3)]
    · rw [if_neg h3, if_neg (by omega)]
theorem pm_highest {M : tp_M} {a : Int} (ha : pu_in a) : fx_X11_highest a M = some (if a = 0 then 4 else if a = 1 then 9 else 7, M) := by
  unfold fx_X11_highest
  rw [w32_id ha]
  by_cases h0 : a = 0
  · rw [if_pos h0, if_pos h0]
  · rw [if_neg h0, if_neg h0]
    by_cases h1 : a = 1
    · rw [if_pos h1, if_pos h1]
    · rw [if_neg h1, if_neg h1]
theorem pc_heard {M : tp_M} {a b t : Int} (ha : pu_in a) (hb : pu_in b) (ht : M 56 2 = t) (h2 : 0 ≤ t ∧ t ≤ 12) : fx_X10_heard a b M = some (if hd_ok a b ∧ t < 12 then (t + 1, tp_up (tp_up (tp_up M 57 t a) 58 t b) 56 2 (t + 1)) else (-1, M)) := by
  unfold fx_X10_heard
  rw [pc_canBeHeard ha hb, tp_bd_s]
  by_cases c1 : hd_ok a b
  · rw [if_pos c1, if_neg (by decide), pc_X1_add ht h2]
    by_cases c5 : t < 12
    · rw [if_pos c5, tp_bd_s, if_neg (by decide), if_pos ⟨c1, c5⟩]
      unfold fx_X1_size
      rw [tp_bd_s, up_s]
    · rw [if_neg c5, tp_bd_s, if_pos (by decide), if_neg (fun q => c5 q.2)]
  · rw [if_neg c1, if_pos (by decide), if_neg (fun q => c1 q.1)]
theorem pm_heard {M : tp_M} {a b t : Int} (ha : pu_in a) (hb : pu_in b) (ht : M 0 44 = t) (h2 : 0 ≤ t ∧ t ≤ 12) : fx_X11_heard a b M = some (if hd_ok a b ∧ t < 12 then (t + 1, tp_up (tp_up (tp_up (tp_up M 0 0 0) 28 t a) 29 t b) 0 44 (t + 1)) else (-1, tp_up M 0 0 0)) := by
  have k44 : tp_up M 0 0 0 0 44 = t := ht
  unfold fx_X11_heard
  rw [tp_lm_s, w32_id ha, pm_in ha (by unfold pu_in; omega) (by unfold pu_in; omega), tp_bd_s]
  by_cases c1 : 0 ≤ a ∧ a ≤ 3
  · rw [if_pos c1, if_neg (by decide), pm_lowest ha, tp_bd_s, pm_highest ha, tp_bd_s]
    have hl : w32 (if a = 0 ∨ a = 3 then 1 else 0) = if a = 0 ∨ a = 3 then 1 else 0 := by split <;> rfl
    have hh : w32 (if a = 0 then 4 else if a = 1 then 9 else 7) = if a = 0 then 4 else if a = 1 then 9 else 7 := by
      repeat' split
      all_goals rfl
    rw [hl, hh, w32_id hb, pm_in hb (by unfold pu_in; split <;> omega) (by
      unfold pu_in
      repeat' split
      all_goals omega), tp_bd_s]
    by_cases c2 : hd_ok a b
    · have c3 : (if a = 0 ∨ a = 3 then (1 : Int) else 0) ≤ b ∧ b ≤ (if a = 0 then (4 : Int) else if a = 1 then 9 else 7) := by
        unfold hd_ok at c2
        repeat' split
        all_goals omega
      rw [if_pos c3, if_neg (by decide), k44, w32_id (by omega)]
      by_cases c5 : t = 12
      · rw [if_pos c5, if_neg (by omega)]
      · rw [if_neg c5, if_pos ⟨c2, by omega⟩, tp_ck_t (by omega), tp_lm_s]
        simp only [up_k _ _ _ (show ¬ (0 : Nat) = 28 by decide), up_k _ _ _ (show ¬ (0 : Nat) = 29 by decide), tp_lm_s, k44, w32_id (show -2147483648 ≤ t ∧ t < 2147483648 by omega), tp_ck_t (show 0 ≤ t ∧ t < 12 by omega), up_s]
    · have c3 : ¬ ((if a = 0 ∨ a = 3 then (1 : Int) else 0) ≤ b ∧ b ≤ (if a = 0 then (4 : Int) else if a = 1 then 9 else 7)) := by
        unfold hd_ok at c2
        repeat' split
        all_goals omega
      rw [if_neg c3, if_pos (by decide), if_neg (fun q => c2 q.1)]
  · rw [if_neg c1, if_pos (by decide), if_neg (fun q => by unfold hd_ok at q; omega)]
theorem st_heard {B : Int} {C M : tp_M} {a1 a2 : Int} (h1 : pu_in a1) (h2 : pu_in a2) (h : Sim B C M) : ∃ r1 r2 : Int × tp_M, fx_X10_heard a1 a2 C = some r1 ∧ fx_X11_heard a1 a2 M = some r2 ∧ w32 r1.1 = w32 r2.1 ∧ Sim B r1.2 r2.2 := by
  obtain ⟨e1, e2, e3⟩ := h.2.2.2.2.2.2.2.2.1
  refine ⟨_, _, pc_heard h1 h2 e1 e2, pm_heard h1 h2 rfl e2, ?_⟩
  by_cases hc : hd_ok a1 a2 ∧ M 0 44 < 12
  · rw [if_pos hc, if_pos hc]
    refine ⟨rfl, Sim_heard h (Int.le_refl B) (SC := [56, 57, 58]) (SM := [0, 28, 29]) (fr_up (fr_up (fr_up fr_rf (by decide)) (by decide)) (by decide)) (fr_up (fr_up (fr_up (fr_up fr_rf (by decide)) (by decide)) (by decide)) (by decide)) (by decide) (by decide) (fun j hj => ?_) ?_⟩
    · simp only [up_j _ _ _ (f0_ne hj (show (44 : Int) ∉ _ by decide)), up_k _ _ _ (show ¬ (0 : Nat) = 28 by decide), up_k _ _ _ (show ¬ (0 : Nat) = 29 by decide), up_j _ _ _ (f0_ne hj (show (0 : Int) ∉ _ by decide))]
    · simp only [up_s, up_k _ _ _ (show ¬ (57 : Nat) = 56 by decide), up_k _ _ _ (show ¬ (57 : Nat) = 58 by decide), up_k _ _ _ (show ¬ (58 : Nat) = 56 by decide), up_k _ _ _ (show ¬ (58 : Nat) = 57 by decide), up_k _ _ _ (show ¬ (28 : Nat) = 0 by decide), up_k _ _ _ (show ¬ (28 : Nat) = 29 by decide), up_k _ _ _ (show ¬ (29 : Nat) = 0 by decide), up_k _ _ _ (show ¬ (29 : Nat) = 28 by decide)]
      refine ⟨rfl, by omega, fun j j1 j2 => ?_⟩
      have hk := hc.1
      unfold hd_ok at hk
      simp only [up_c]
      by_cases hj : j = M 0 44
      · simp only [if_pos hj]
        exact ⟨trivial, by omega, trivial, by omega⟩
      · simp only [if_neg hj]
        exact e3 j j1 (by omega)
  · rw [if_neg hc, if_neg hc]
    exact ⟨rfl, Sim_same h (Int.le_refl B) (SC := []) (SM := [0]) fr_rf (fr_up fr_rf (by decide)) (by decide) (by decide) (fun j hj => up_j _ _ _ (f0_ne hj (by decide)))⟩
