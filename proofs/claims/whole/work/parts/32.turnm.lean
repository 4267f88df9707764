/-! A RULE WORKED by the reference -/
theorem rc_lo {c : Int} (h : c < 1000) : rc_map c = c := by unfold rc_map; rw [if_pos h]
theorem rc_mid {c : Int} (hc : rc_ok c) (h1 : ¬ c < 1000) (h2 : c < 2000) : 1000 ≤ rc_map c ∧ rc_map c < 1007 := by
  unfold rc_ok at hc
  rcases hc with hc | hc | hc | hc | hc | hc | hc | hc | hc | hc | hc | hc | hc | hc | hc | hc
  all_goals first | omega | (subst hc; decide)
theorem rc_hi {c : Int} (hc : rc_ok c) (h1 : ¬ c < 2000) (h2 : ¬ c = 3000) : 2000 ≤ rc_map c ∧ rc_map c < 2007 := by
  unfold rc_ok at hc
  rcases hc with hc | hc | hc | hc | hc | hc | hc | hc | hc | hc | hc | hc | hc | hc | hc | hc
  all_goals first | omega | (subst hc; decide)
theorem pm_worked {c a b : Int} {M : tp_M} (hc : rc_ok c) (h1 : ¬ c < 2000) (h2 : ¬ c = 3000) : fx_X11_worked (rc_map c - 2000) a b M = some (rv_join c a b, M) := by
  have g1 : fx_X11_flag 1 M = some (1, M) := rfl
  have g0 : fx_X11_flag 0 M = some (0, M) := rfl
  unfold fx_X11_worked rv_join
  simp only [tp_jn1_s, g1, g0, tp_bd_s]
  unfold rc_ok at hc
  rcases hc with hc | hc | hc | hc | hc | hc | hc | hc | hc | hc | hc | hc | hc | hc | hc | hc
  all_goals first | (exfalso; omega) | skip
  · subst hc
    show (if w32 a < w32 b then some (1, M) else some (0, M)) = some (if w32 a < w32 b then 1 else 0, M)
    split <;> rfl
  · subst hc
    show (if w32 a ≤ w32 b then some (0, M) else some (1, M)) = some (if w32 a ≤ w32 b then 0 else 1, M)
    split <;> rfl
  · subst hc
    show (if w32 a = w32 b then some (1, M) else some (0, M)) = some (if w32 a = w32 b then 1 else 0, M)
    split <;> rfl
  · subst hc; rfl
  · subst hc; rfl
  · subst hc; rfl
  · subst hc
    show (if w32 b = 0 then some (0, M) else tp_nz (w32 b) (some (x_div a b, M))) = some (if w32 b = 0 then 0 else x_div a b, M)
    by_cases h : w32 b = 0
    · rw [if_pos h, if_pos h]
    · rw [if_neg h, if_neg h, tp_nz_t h]
theorem pm_ruled {M : tp_M} {f q : Int → Int} {s : Int} (hs : M 0 18 = s) (hw : rc_wf f s) (hc : ∀ k : Int, 0 ≤ k → k < s → M 9 k = rc_map (f k)) (hq : ∀ j : Int, 0 ≤ j → j < 7 → M 12 j = q j) : wp (fx_X11_ruled M) (fun r M1 => tp_fr [11] M M1 ∧ r = if s = 0 then 1 else rv_stk f q s.toNat 0) := by
  have hs40 := hw.1
  unfold fx_X11_ruled
  refine wp_lt ?_
  refine wp_lt ?_
  refine wp_lp2 (fun z3 z4 M1 => ∃ k : Nat, z4 = (k : Int) ∧ (k : Int) ≤ s ∧ z3 = rc_high f k ∧ tp_fr [11] M M1 ∧ ∀ j : Int, 0 ≤ j → j < z3 → M1 11 j = rv_stk f q k j) (fun _ z4 _ => (s - z4).toNat) ?_ tp_F 0 0 M ⟨0, rfl, by show (0 : Int) ≤ s; omega, rfl, fr_rf, fun j h1 h2 => by omega⟩ (tp_F_pos (by omega))
  intro rec z3 z4 M1 hI hrec
  obtain ⟨k, rfl, i2, rfl, i4, i5⟩ := hI
  have e0 : M1 0 = M 0 := i4 _ (by decide)
  have e9 : M1 9 = M 9 := i4 _ (by decide)
  have e12 : M1 12 = M 12 := i4 _ (by decide)
  have hp := rv_pos hw k i2
  unfold fx_X11_ruled_L4
  rw [e0, hs, w32_id (by omega), w32_id (by omega)]
  by_cases hk2 : (k : Int) < s
  · obtain ⟨g1, g2, g3⟩ := hw.2.1 k hk2
    rw [if_pos hk2]
    refine wp_ck (by omega) ?_
    refine wp_lt ?_
    refine wp_jn1 ?_
    rw [e9, hc _ (by omega) hk2]
    have go2 : ∀ (h9 : Int) (M2 : tp_M), h9 = rc_high f (k + 1) → tp_fr [11] M M2 → (∀ j : Int, 0 ≤ j → j < h9 → M2 11 j = rv_stk f q (k + 1) j) → wp (tp_lt ((k : Int) + 1) (fun x9 => rec h9 x9 M2)) (fun r M3 => tp_fr [11] M M3 ∧ r = if s = 0 then 1 else rv_stk f q s.toNat 0) := fun h9 M2 a1 a2 a3 => by
      refine wp_lt ?_
      exact hrec _ _ _ ⟨k + 1, by omega, by omega, a1, a2, a3⟩ (by omega)
    by_cases c2 : f (k : Int) = 3000
    · have := g2 c2
      rw [c2, if_pos (by decide), w32_id (show -2147483648 ≤ rc_high f k - 1 ∧ rc_high f k - 1 < 2147483648 by omega)]
      refine wp_ck (by omega) ?_
      refine wp_ck (by omega) ?_
      refine wp_lm ?_
      refine go2 _ _ ?_ (fr_up i4 (by decide)) (fun j j1 j2 => ?_)
      · rw [rc_high_s, if_neg (show ¬ f (k : Int) < 2000 by omega), if_pos c2]
      · rw [up_c]
        unfold rv_stk
        rw [if_neg (show ¬ f (k : Int) < 2000 by omega), if_pos c2]
        show _ = if j = rc_high f k - 1 then _ else _
        by_cases hj : j = rc_high f k - 1
        · rw [if_pos hj, if_pos hj, i5 _ (by omega) (by omega)]
        · rw [if_neg hj, if_neg hj]
          exact i5 j j1 (by omega)
    · by_cases c1 : f (k : Int) < 2000
      · have fin : ∀ y : Int, y = rv_let q (f (k : Int)) → ∀ M2 : tp_M, M2 = M1 → wp (tp_ck (w32 (rc_high f k)) 80 (tp_lm (tp_up M2 11 (w32 (rc_high f k)) y) (fun M17 => tp_lt (rc_high f k + 1) (fun x18 => tp_lt ((k : Int) + 1) (fun x9 => rec x18 x9 M17))))) (fun r M3 => tp_fr [11] M M3 ∧ r = if s = 0 then 1 else rv_stk f q s.toNat 0) := fun y hy M2 hM2 => by
          subst hM2
          rw [w32_id (show -2147483648 ≤ rc_high f k ∧ rc_high f k < 2147483648 by omega)]
          refine wp_ck (by omega) ?_
          refine wp_lm ?_
          refine wp_lt ?_
          refine go2 _ _ ?_ (fr_up i4 (by decide)) (fun j j1 j2 => ?_)
          · rw [rc_high_s, if_pos c1]
          · rw [up_c]
            unfold rv_stk
            rw [if_pos c1]
            show _ = if j = rc_high f k then _ else _
            by_cases hj : j = rc_high f k
            · rw [if_pos hj, if_pos hj, hy]
            · rw [if_neg hj, if_neg hj]
              exact i5 j j1 (by omega)
        by_cases c3 : f (k : Int) < 1000
        · have h0 : 0 ≤ f (k : Int) := by unfold rc_ok at g1; omega
          rw [rc_lo c3, w32_id (by omega), if_neg (by omega), if_pos (by omega)]
          refine wp_jn1 ?_
          rw [if_pos c3]
          exact fin _ (by unfold rv_let; rw [if_pos c3]) _ rfl
        · have hm := rc_mid g1 c3 c1
          rw [w32_id (show -2147483648 ≤ rc_map (f (k : Int)) ∧ rc_map (f (k : Int)) < 2147483648 by omega), if_neg (by omega), if_pos (by omega)]
          refine wp_jn1 ?_
          rw [if_neg (by omega), w32_id (by omega)]
          refine wp_ck (by omega) ?_
          rw [e12, hq _ (by omega) (by omega)]
          exact fin _ (by unfold rv_let; rw [if_neg c3]) _ rfl
      · have := g3 (by omega) c2
        have hm := rc_hi g1 c1 c2
        rw [w32_id (show -2147483648 ≤ rc_map (f (k : Int)) ∧ rc_map (f (k : Int)) < 2147483648 by omega), if_neg (by omega), if_neg (by omega)]
        refine wp_lt ?_
        rw [w32_id (by omega), w32_id (by omega)]
        refine wp_ck (by omega) ?_
        refine wp_ck (by omega) ?_
        rw [pm_worked g1 c1 c2, tp_bd_s]
        refine wp_ck (by omega) ?_
        refine wp_lm ?_
        refine go2 _ _ ?_ (fr_up i4 (by decide)) (fun j j1 j2 => ?_)
        · rw [rc_high_s, if_neg c1, if_neg c2]; omega
        · rw [up_c]
          unfold rv_stk
          rw [if_neg c1, if_neg c2]
          show _ = if j = rc_high f k - 2 then _ else _
          by_cases hj : j = rc_high f k - 2
          · rw [if_pos (by omega), if_pos hj, i5 _ (by omega) (by omega), i5 _ (by omega) (by omega)]
            congr 1 <;> congr 1 <;> omega
          · rw [if_neg (by omega), if_neg hj]
            exact i5 j j1 (by omega)
  · rw [if_neg hk2]
    have hks : s.toNat = k := by omega
    have e18 : M1 0 18 = s := by rw [e0]; exact hs
    show wp (if w32 (M1 0 18) = 0 then some (1, M1) else some (M1 11 0, M1)) _
    rw [e18, w32_id (by omega)]
    by_cases h0 : s = 0
    · rw [if_pos h0]
      refine wp_some ⟨i4, ?_⟩
      rw [if_pos h0]
    · rw [if_neg h0]
      have hh := hw.2.2 (by omega)
      rw [hks] at hh
      refine wp_some ⟨i4, ?_⟩
      rw [if_neg h0, hks, i5 0 (by omega) (by omega)]
