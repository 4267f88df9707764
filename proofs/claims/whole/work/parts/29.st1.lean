/-! THE STEPS of what is seen and heard: forget, denies, seen, heard -/
theorem f0_ne {j : Int} {l : List Int} (hj : j ∈ l) {a : Int} (h : a ∉ l) : ¬ j = a := fun e => h (e ▸ hj)
theorem st_forget {B : Int} {C M : tp_M} (h : Sim B C M) : ∃ r1 r2 : Int × tp_M, fx_X10_forget C = some r1 ∧ fx_X11_forget M = some r2 ∧ w32 r1.1 = w32 r2.1 ∧ Sim B r1.2 r2.2 := by
  obtain ⟨e1, e2, e3⟩ := h.2.2.2.2.2.2.2.1
  refine ⟨(C 52 3, tp_up C 52 3 0), (M 0 39, tp_up (tp_up M 0 0 0) 0 39 0), rfl, ?_, by rw [e1], ?_⟩
  · unfold fx_X11_forget
    rw [tp_lm_s, tp_lt_s, tp_lm_s, up_j _ _ _ (show ¬ (39 : Int) = 0 by decide)]
  · refine Sim_seen h (Int.le_refl B) (fr_up (S := [52]) fr_rf (by decide)) (fr_up (fr_up (S := [0]) fr_rf (by decide)) (by decide)) (by decide) (by decide) (fun j hj => ?_) ⟨?_, ?_, fun j j1 j2 => ?_⟩
    · show tp_up (tp_up M 0 0 0) 0 39 0 0 j = M 0 j
      rw [up_j _ _ _ (f0_ne hj (by decide)), up_j _ _ _ (f0_ne hj (by decide))]
    · show tp_up C 52 3 0 52 3 = tp_up (tp_up M 0 0 0) 0 39 0 0 39
      rw [up_s, up_s]
    · show 0 ≤ tp_up (tp_up M 0 0 0) 0 39 0 0 39 ∧ tp_up (tp_up M 0 0 0) 0 39 0 0 39 ≤ 10
      rw [up_s]; omega
    · have j2 : j < tp_up (tp_up M 0 0 0) 0 39 0 0 39 := j2
      rw [up_s] at j2
      omega
theorem st_denies {B : Int} {C M : tp_M} (h : Sim B C M) : ∃ r1 r2 : Int × tp_M, fx_X10_denies C = some r1 ∧ fx_X11_denies M = some r2 ∧ w32 r1.1 = w32 r2.1 ∧ Sim B r1.2 r2.2 := by
  obtain ⟨e1, e2, e3⟩ := h.2.2.2.2.2.2.2.2.1
  refine ⟨(C 56 2, tp_up C 56 2 0), (M 0 44, tp_up (tp_up M 0 0 0) 0 44 0), rfl, ?_, by rw [e1], ?_⟩
  · unfold fx_X11_denies
    rw [tp_lm_s, tp_lt_s, tp_lm_s, up_j _ _ _ (show ¬ (44 : Int) = 0 by decide)]
  · refine Sim_heard h (Int.le_refl B) (fr_up (S := [56]) fr_rf (by decide)) (fr_up (fr_up (S := [0]) fr_rf (by decide)) (by decide)) (by decide) (by decide) (fun j hj => ?_) ⟨?_, ?_, fun j j1 j2 => ?_⟩
    · show tp_up (tp_up M 0 0 0) 0 44 0 0 j = M 0 j
      rw [up_j _ _ _ (f0_ne hj (by decide)), up_j _ _ _ (f0_ne hj (by decide))]
    · show tp_up C 56 2 0 56 2 = tp_up (tp_up M 0 0 0) 0 44 0 0 44
      rw [up_s, up_s]
    · show 0 ≤ tp_up (tp_up M 0 0 0) 0 44 0 0 44 ∧ tp_up (tp_up M 0 0 0) 0 44 0 0 44 ≤ 12
      rw [up_s]; omega
    · have j2 : j < tp_up (tp_up M 0 0 0) 0 44 0 0 44 := j2
      rw [up_s] at j2
      omega
theorem pc_X6_add {M : tp_M} {a b c t : Int} (ht : M 52 3 = t) (h : 0 ≤ t ∧ t ≤ 10) : fx_X6_add a b c M = some (if t < 10 then (1, tp_up (tp_up (tp_up (tp_up M 53 t a) 54 t b) 55 t c) 52 3 (t + 1)) else (0, M)) := by
  unfold fx_X6_add
  rw [ht, w32_id (by omega)]
  by_cases h1 : t < 10
  · rw [if_pos h1, if_pos h1, tp_ck_t (by omega), tp_lm_s]
    simp only [up_k _ _ _ (show ¬ (52 : Nat) = 53 by decide), up_k _ _ _ (show ¬ (52 : Nat) = 54 by decide), up_k _ _ _ (show ¬ (52 : Nat) = 55 by decide), tp_lm_s, ht, w32_id (show -2147483648 ≤ t ∧ t < 2147483648 by omega), tp_ck_t (show 0 ≤ t ∧ t < 10 by omega)]
  · rw [if_neg h1, if_neg h1]
theorem pc_X1_add {M : tp_M} {a b t : Int} (ht : M 56 2 = t) (h : 0 ≤ t ∧ t ≤ 12) : fx_X1_add a b M = some (if t < 12 then (1, tp_up (tp_up (tp_up M 57 t a) 58 t b) 56 2 (t + 1)) else (0, M)) := by
  unfold fx_X1_add
  rw [ht, w32_id (by omega)]
  by_cases h1 : t < 12
  · rw [if_pos h1, if_pos h1, tp_ck_t (by omega), tp_lm_s]
    simp only [up_k _ _ _ (show ¬ (56 : Nat) = 57 by decide), up_k _ _ _ (show ¬ (56 : Nat) = 58 by decide), tp_lm_s, ht, w32_id (show -2147483648 ≤ t ∧ t < 2147483648 by omega), tp_ck_t (show 0 ≤ t ∧ t < 12 by omega)]
  · rw [if_neg h1, if_neg h1]
/-- what the class answers to seen -/
theorem pc_seen {M : tp_M} {a b c n t : Int} (hn : M 5 4 = n) (h : 0 ≤ n ∧ n ≤ 8) (ha : pu_in a) (hb : pu_in b) (hc : pu_in c) (ht : M 52 3 = t) (h2 : 0 ≤ t ∧ t ≤ 10) : fx_X10_seen a b c M = some (if (1 ≤ a ∧ a < n) ∧ (0 ≤ c ∧ c < n) ∧ (0 ≤ b ∧ b ≤ 20) ∧ t < 10 then (t + 1, tp_up (tp_up (tp_up (tp_up M 53 t a) 54 t b) 55 t c) 52 3 (t + 1)) else (-1, M)) := by
  unfold fx_X10_seen
  rw [pc_hasPost hn h ha, tp_bd_s]
  by_cases c1 : 1 ≤ a ∧ a < n
  · rw [if_pos c1, if_neg (by decide), pc_has hn h hc, tp_bd_s]
    by_cases c2 : 0 ≤ c ∧ c < n
    · rw [if_pos c2, if_neg (by decide), w32_id hb]
      by_cases c3 : b < 0
      · rw [if_pos c3, if_neg (by omega)]
      · rw [if_neg c3]
        by_cases c4 : b ≤ 20
        · rw [if_pos c4, pc_X6_add ht h2]
          by_cases c5 : t < 10
          · rw [if_pos c5, tp_bd_s, if_neg (by decide), if_pos (by omega)]
            unfold fx_X6_size
            rw [tp_bd_s, up_s]
          · rw [if_neg c5, tp_bd_s, if_pos (by decide), if_neg (by omega)]
        · rw [if_neg c4, if_neg (by omega)]
    · rw [if_neg c2, if_pos (by decide), if_neg (by omega)]
  · rw [if_neg c1, if_pos (by decide), if_neg (by omega)]
theorem pm_seen {M : tp_M} {a b c n t : Int} (hn : M 0 3 = n) (h : 0 ≤ n ∧ n ≤ 8) (ha : pu_in a) (hb : pu_in b) (hc : pu_in c) (ht : M 0 39 = t) (h2 : 0 ≤ t ∧ t ≤ 10) : fx_X11_seen a b c M = some (if (1 ≤ a ∧ a < n) ∧ (0 ≤ c ∧ c < n) ∧ (0 ≤ b ∧ b ≤ 20) ∧ t < 10 then (t + 1, tp_up (tp_up (tp_up (tp_up (tp_up M 0 0 0) 24 t a) 25 t b) 26 t c) 0 39 (t + 1)) else (-1, tp_up M 0 0 0)) := by
  have k3 : tp_up M 0 0 0 0 3 = n := hn
  have k39 : tp_up M 0 0 0 0 39 = t := ht
  unfold fx_X11_seen
  rw [tp_lm_s, pm_isOut k3 h ha, tp_bd_s]
  by_cases c1 : 1 ≤ a ∧ a ≤ n - 1
  · rw [if_pos c1, if_neg (by decide), w32_id hb, pm_in hb (by unfold pu_in; omega) (by unfold pu_in; omega), tp_bd_s]
    by_cases c4 : 0 ≤ b ∧ b ≤ 20
    · rw [if_pos c4, if_neg (by decide), pm_isCrossing k3 h hc, tp_bd_s]
      by_cases c2 : 0 ≤ c ∧ c ≤ n - 1
      · rw [if_pos c2, if_neg (by decide), k39, w32_id (by omega)]
        by_cases c5 : t = 10
        · rw [if_pos c5, if_neg (by omega)]
        · rw [if_neg c5, if_pos (by omega), tp_ck_t (by omega), tp_lm_s]
          simp only [up_k _ _ _ (show ¬ (0 : Nat) = 24 by decide), up_k _ _ _ (show ¬ (0 : Nat) = 25 by decide), up_k _ _ _ (show ¬ (0 : Nat) = 26 by decide), tp_lm_s, k39, w32_id (show -2147483648 ≤ t ∧ t < 2147483648 by omega), tp_ck_t (show 0 ≤ t ∧ t < 10 by omega), up_s]
      · rw [if_neg c2, if_pos (by decide), if_neg (by omega)]
    · rw [if_neg c4, if_pos (by decide), if_neg (by omega)]
  · rw [if_neg c1, if_pos (by decide), if_neg (by omega)]
theorem st_seen {B : Int} {C M : tp_M} {a1 a2 a3 : Int} (h1 : pu_in a1) (h2 : pu_in a2) (h3 : pu_in a3) (h : Sim B C M) : ∃ r1 r2 : Int × tp_M, fx_X10_seen a1 a2 a3 C = some r1 ∧ fx_X11_seen a1 a2 a3 M = some r2 ∧ w32 r1.1 = w32 r2.1 ∧ Sim B r1.2 r2.2 := by
  obtain ⟨e1, e2, e3⟩ := h.2.2.2.2.2.2.2.1
  obtain ⟨n1, ⟨n2, -⟩, -⟩ := h.2.2.1
  refine ⟨_, _, pc_seen n1 (by omega) h1 h2 h3 e1 e2, pm_seen rfl (by omega) h1 h2 h3 rfl e2, ?_⟩
  by_cases hc : (1 ≤ a1 ∧ a1 < M 0 3) ∧ (0 ≤ a3 ∧ a3 < M 0 3) ∧ (0 ≤ a2 ∧ a2 ≤ 20) ∧ M 0 39 < 10
  · rw [if_pos hc, if_pos hc]
    refine ⟨rfl, Sim_seen h (Int.le_refl B) (SC := [52, 53, 54, 55]) (SM := [0, 24, 25, 26]) (fr_up (fr_up (fr_up (fr_up fr_rf (by decide)) (by decide)) (by decide)) (by decide)) (fr_up (fr_up (fr_up (fr_up (fr_up fr_rf (by decide)) (by decide)) (by decide)) (by decide)) (by decide)) (by decide) (by decide) (fun j hj => ?_) ?_⟩
    · simp only [up_j _ _ _ (f0_ne hj (show (39 : Int) ∉ _ by decide)), up_k _ _ _ (show ¬ (0 : Nat) = 24 by decide), up_k _ _ _ (show ¬ (0 : Nat) = 25 by decide), up_k _ _ _ (show ¬ (0 : Nat) = 26 by decide), up_j _ _ _ (f0_ne hj (show (0 : Int) ∉ _ by decide))]
    · simp only [up_s, up_k _ _ _ (show ¬ (0 : Nat) = 24 by decide), up_k _ _ _ (show ¬ (0 : Nat) = 25 by decide), up_k _ _ _ (show ¬ (0 : Nat) = 26 by decide), up_k _ _ _ (show ¬ (53 : Nat) = 52 by decide), up_k _ _ _ (show ¬ (53 : Nat) = 54 by decide), up_k _ _ _ (show ¬ (53 : Nat) = 55 by decide), up_k _ _ _ (show ¬ (54 : Nat) = 52 by decide), up_k _ _ _ (show ¬ (54 : Nat) = 55 by decide), up_k _ _ _ (show ¬ (54 : Nat) = 53 by decide), up_k _ _ _ (show ¬ (55 : Nat) = 52 by decide), up_k _ _ _ (show ¬ (55 : Nat) = 53 by decide), up_k _ _ _ (show ¬ (55 : Nat) = 54 by decide), up_k _ _ _ (show ¬ (24 : Nat) = 0 by decide), up_k _ _ _ (show ¬ (25 : Nat) = 0 by decide), up_k _ _ _ (show ¬ (26 : Nat) = 0 by decide), up_k _ _ _ (show ¬ (24 : Nat) = 25 by decide), up_k _ _ _ (show ¬ (24 : Nat) = 26 by decide), up_k _ _ _ (show ¬ (25 : Nat) = 24 by decide), up_k _ _ _ (show ¬ (25 : Nat) = 26 by decide), up_k _ _ _ (show ¬ (26 : Nat) = 24 by decide), up_k _ _ _ (show ¬ (26 : Nat) = 25 by decide), up_j _ _ _ (show ¬ (3 : Int) = 39 by decide), up_j _ _ _ (show ¬ (3 : Int) = 0 by decide)]
      refine ⟨rfl, by omega, fun j j1 j2 => ?_⟩
      simp only [up_c]
      by_cases hj : j = M 0 39
      · simp only [if_pos hj]
        exact ⟨trivial, by omega, trivial, by omega, trivial, by omega⟩
      · simp only [if_neg hj]
        exact e3 j j1 (by omega)
  · rw [if_neg hc, if_neg hc]
    exact ⟨rfl, Sim_same h (Int.le_refl B) (SC := []) (SM := [0]) fr_rf (fr_up fr_rf (by decide)) (by decide) (by decide) (fun j hj => up_j _ _ _ (f0_ne hj (by decide)))⟩
