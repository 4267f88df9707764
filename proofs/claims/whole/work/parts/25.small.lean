/-! SMALL METHODS: the net asked, the row told, rows copied -/
theorem fl01 {c : Prop} {hc : Decidable c} : w32 (if c then (1 : Int) else 0) = 0 ↔ ¬ c := by
  by_cases h : c
  · rw [if_pos h]; exact ⟨fun q => absurd q (by decide), fun q => absurd h q⟩
  · rw [if_neg h]; exact ⟨fun _ => h, fun _ => rfl⟩
theorem fl_gd {c : Prop} {hc : Decidable c} {o : tp_O} {hd : Decidable (w32 (if c then (1 : Int) else 0) = 0 ∨ w32 (if c then (1 : Int) else 0) = 1)} : tp_gd (w32 (if c then (1 : Int) else 0) = 0 ∨ w32 (if c then (1 : Int) else 0) = 1) hd o = o := by
  refine tp_gd_t ?_
  by_cases h : c
  · rw [if_pos h]; exact Or.inr rfl
  · rw [if_neg h]; exact Or.inl rfl
/-- the class's net at t: n crossings, degrees within -/
def nt_ok (M : tp_M) (t : Nat) (n : Int) : Prop := M t 4 = n ∧ (1 ≤ n ∧ n ≤ 8) ∧ ∀ v : Int, 0 ≤ v → v < 8 → 0 ≤ M (t + 1) v ∧ M (t + 1) v ≤ 4
theorem pc_has {t : Nat} {M : tp_M} {n a : Int} (hn : M t 4 = n) (h : 0 ≤ n ∧ n ≤ 8) (ha : pu_in a) : fx_X4_has t a M = some (if 0 ≤ a ∧ a < n then 1 else 0, M) := by
  unfold fx_X4_has
  rw [hn, w32_id ha, w32_id (by omega)]
  by_cases h0 : a < 0
  · rw [if_pos h0, if_neg (by omega)]
  · rw [if_neg h0]
    by_cases h1 : a < n
    · rw [if_pos h1, if_pos (by omega)]
    · rw [if_neg h1, if_neg (by omega)]
theorem pc_hasPost {t : Nat} {M : tp_M} {n a : Int} (hn : M t 4 = n) (h : 0 ≤ n ∧ n ≤ 8) (ha : pu_in a) : fx_X4_hasPost t a M = some (if 1 ≤ a ∧ a < n then 1 else 0, M) := by
  unfold fx_X4_hasPost
  rw [hn, w32_id ha, w32_id (by omega)]
  by_cases h0 : a < 1
  · rw [if_pos h0, if_neg (by omega)]
  · rw [if_neg h0]
    by_cases h1 : a < n
    · rw [if_pos h1, if_pos (by omega)]
    · rw [if_neg h1, if_neg (by omega)]
theorem pc_hasWay {t : Nat} {M : tp_M} {n a k : Int} (G : nt_ok M t n) (ha : pu_in a) (hk : pu_in k) : fx_X4_hasWay t a k M = some (if 1 ≤ a ∧ a < n ∧ 0 ≤ k ∧ k < M (t + 1) a then 1 else 0, M) := by
  obtain ⟨hn, h, hd⟩ := G
  unfold fx_X4_hasWay
  rw [hn, w32_id ha, w32_id (by omega), w32_id hk]
  by_cases h0 : a < 1
  · rw [if_pos h0, if_neg (by omega)]
  · rw [if_neg h0]
    by_cases h1 : a < n
    · rw [if_pos h1]
      have hda := hd a (by omega) (by omega)
      by_cases h2 : k < 0
      · rw [if_pos h2, if_neg (by omega)]
      · rw [if_neg h2, tp_ck_t (by omega), w32_id (by omega)]
        by_cases h3 : k < M (t + 1) a
        · rw [if_pos h3, if_pos (by omega)]
        · rw [if_neg h3, if_neg (by omega)]
    · rw [if_neg h1, if_neg (by omega)]
theorem pc_degree {t : Nat} {M : tp_M} {n a : Int} (hn : M t 4 = n) (h : 0 ≤ n ∧ n ≤ 8) (ha : pu_in a) : fx_X4_degree t a M = some (if 1 ≤ a ∧ a < n then M (t + 1) a else 0, M) := by
  unfold fx_X4_degree
  rw [pc_hasPost hn h ha, tp_bd_s]
  by_cases h1 : 1 ≤ a ∧ a < n
  · rw [if_pos h1, if_neg (by decide), w32_id ha, tp_ck_t (by omega), if_pos h1]
  · rw [if_neg h1, if_pos (by decide), if_neg h1]
theorem pc_goal {t : Nat} {M : tp_M} {n a k : Int} (G : nt_ok M t n) (ha : pu_in a) (hk : pu_in k) : fx_X4_goal t a k M = some (if 1 ≤ a ∧ a < n ∧ 0 ≤ k ∧ k < M (t + 1) a then M (t + 2) (4 * a + k) else 0, M) := by
  unfold fx_X4_goal
  rw [pc_hasWay G ha hk, tp_bd_s]
  obtain ⟨hn, h, hd⟩ := G
  by_cases h1 : 1 ≤ a ∧ a < n ∧ 0 ≤ k ∧ k < M (t + 1) a
  · have hda := hd a (by omega) (by omega)
    rw [if_pos h1, if_neg (by decide), w32_id (by omega), tp_ck_t (by omega), if_pos h1, show a * 4 + k = 4 * a + k by omega]
  · rw [if_neg h1, if_pos (by decide), if_neg h1]
theorem pc_far {t : Nat} {M : tp_M} {n a : Int} (hn : M t 4 = n) (h : 0 ≤ n ∧ n ≤ 8) (ha : pu_in a) : fx_X4_far t a M = some (if 0 ≤ a ∧ a < n then M (t + 4) a else -1, M) := by
  unfold fx_X4_far
  rw [pc_has hn h ha, tp_bd_s]
  by_cases h1 : 0 ≤ a ∧ a < n
  · rw [if_pos h1, if_neg (by decide), w32_id ha, tp_ck_t (by omega), if_pos h1]
  · rw [if_neg h1, if_pos (by decide), if_neg h1]
theorem pm_isCrossing {M : tp_M} {n a : Int} (hn : M 0 3 = n) (h : 0 ≤ n ∧ n ≤ 8) (ha : pu_in a) : fx_X11_isCrossing a M = some (if 0 ≤ a ∧ a ≤ n - 1 then 1 else 0, M) := by
  unfold fx_X11_isCrossing
  rw [hn, w32_id ha, w32_id (by omega), pm_in ha (by unfold pu_in; omega) (by unfold pu_in; omega), tp_bd_s, fl_gd]
theorem pm_isOut {M : tp_M} {n a : Int} (hn : M 0 3 = n) (h : 0 ≤ n ∧ n ≤ 8) (ha : pu_in a) : fx_X11_isOut a M = some (if 1 ≤ a ∧ a ≤ n - 1 then 1 else 0, M) := by
  unfold fx_X11_isOut
  rw [hn, w32_id ha, w32_id (by omega), pm_in ha (by unfold pu_in; omega) (by unfold pu_in; omega), tp_bd_s, fl_gd]
theorem pm_goalOf {M : tp_M} {a k : Int} (h : 0 ≤ 4 * a + k ∧ 4 * a + k < 32) : fx_X11_goalOf a k M = some (M 3 (4 * a + k), M) := by
  unfold fx_X11_goalOf
  rw [w32_id (by omega), tp_ck_t h]
theorem pm_enters {M : tp_M} {a t : Int} (ht : M 0 1 = t) (h : 0 ≤ t ∧ t < 24) : fx_X11_enters a M = some (0, tp_up (tp_up M 1 t a) 0 1 (t + 1)) := by
  unfold fx_X11_enters
  rw [ht, w32_id (by omega), tp_ck_t h, tp_lm_s, tp_lm_s, up_k _ _ _ (by decide), ht]
theorem pc_tell {M : tp_M} : fx_X8_tell M = some (0, tp_up M 3 1 0) := rfl
theorem pc_add {M : tp_M} {a t : Int} (ht : M 3 1 = t) (h : 0 ≤ t ∧ t < 8) : fx_X8_add a M = some (0, tp_up (tp_up M 4 t a) 3 1 (t + 1)) := by
  unfold fx_X8_add
  rw [ht, w32_id (by omega), if_pos h.2, tp_ck_t h, tp_lm_s, tp_lm_s, up_k _ _ _ (by decide), ht]
theorem pc_copyFrom (t k : Nat) (M : tp_M) : fx_X2_copyFrom t k M = some (0, tp_cp (tp_cp (tp_up (tp_up M t 2 (M k 2)) t 3 (tp_up M t 2 (M k 2) k 3)) (k + 1) 0 (t + 1) 0 8) (k + 2) 0 (t + 2) 0 8) := by
  unfold fx_X2_copyFrom
  rw [tp_lm_s, tp_lm_s, tp_gd_t (by decide), tp_lm_s, tp_gd_t (by decide), tp_lm_s]
/-- the reference's copy of a row -/
theorem pm_copies {k1 k2 : Nat} (M : tp_M) (hk : ¬ k1 = k2) : wp (fx_X11_copies k1 17 k2 17 M) (fun _ M1 => tp_fr [k1] M M1 ∧ ∀ j, M1 k1 j = if 0 ≤ j ∧ j < 17 then M k2 j else M k1 j) := by
  unfold fx_X11_copies
  refine wp_lt ?_
  refine wp_lp1 (fun z M1 => 0 ≤ z ∧ z ≤ 17 ∧ tp_fr [k1] M M1 ∧ ∀ j, M1 k1 j = if 0 ≤ j ∧ j < z then M k2 j else M k1 j) (fun z _ => (17 - z).toNat) ?_ tp_F 0 M ⟨by omega, by omega, fr_rf, fun j => by rw [if_neg (by omega)]⟩ (tp_F_pos (by omega))
  intro rec z M1 hI hrec
  obtain ⟨i1, i2, i3, i4⟩ := hI
  unfold fx_X11_copies_L2
  rw [w32_id (by omega)]
  by_cases hz : z < 17
  · rw [if_pos hz]
    refine wp_ck ⟨by omega, by omega⟩ ?_
    refine wp_ck ⟨by omega, by omega⟩ ?_
    refine wp_lm ?_
    refine wp_lt ?_
    refine hrec _ _ ⟨by omega, by omega, fr_up i3 (by simp), fun j => ?_⟩ (by omega)
    have e2 : M1 k2 = M k2 := i3 k2 (by simp; exact fun q => hk q.symm)
    rw [up_c, i4 j, e2]
    by_cases hj : j = z
    · rw [if_pos hj, if_pos (by omega), hj]
    · rw [if_neg hj]
      by_cases hj2 : 0 ≤ j ∧ j < z
      · rw [if_pos hj2, if_pos (by omega)]
      · rw [if_neg hj2, if_neg (by omega)]
  · rw [if_neg hz]
    refine wp_some ⟨i3, fun j => ?_⟩
    rw [i4 j]
    by_cases hj2 : 0 ≤ j ∧ j < 17
    · rw [if_pos hj2, if_pos (by omega)]
    · rw [if_neg hj2, if_neg (by omega)]
