/-! CALM on each side -/
theorem ws_fire {n : Int} {D G x : Int → Int} {v t : Int} (hv : 1 ≤ v ∧ v < n) (w : Int) : sumI (fun u => wy D G u w * sd_fire x v t u) 1 (n - 1).toNat = sumI (fun u => wy D G u w * x u) 1 (n - 1).toNat + t * wy D G v w := by
  have e : sumI (fun u => wy D G u w * sd_fire x v t u) 1 (n - 1).toNat = sumI (fun u => wy D G u w * x u + if u = v then wy D G v w * t else 0) 1 (n - 1).toNat := sumI_cg _ _ (fun z _ _ => by
    unfold sd_fire
    by_cases hz : z = v
    · rw [if_pos hz, if_pos hz, hz, Int.mul_add]
    · rw [if_neg hz, if_neg hz, Int.add_zero])
  rw [e, sumI_plus (f := fun u => wy D G u w * x u) (g := fun u => if u = v then wy D G v w * t else 0), sumI_at (f := fun u => if u = v then wy D G v w * t else 0) (v := v) _ _ (fun z _ _ hz => if_neg hz), if_pos (by omega), if_pos rfl, Int.mul_comm (wy D G v w) t]
theorem cs_once {C : tp_M} {n : Int} {D G h x : Int → Int} {S v : Int} (hN : nC C n D G) (hA : sd_at n D G h x S (C 37)) (hS : S ≤ 100000000) (hv : 1 ≤ v ∧ v < n) : wp (fx_X5_burstAtOnce v C) (fun r C1 => (0 ≤ r ∧ r ≤ S) ∧ tp_fr [37, 38] C C1 ∧ sd_at n D G h (sd_fire x v r) S (C1 37) ∧ (∀ w : Int, C1 38 w = if w = v then C 38 w + r else C 38 w) ∧ (∀ w : Int, (w < 1 ∨ n ≤ w) → C1 37 w = C 37 w) ∧ (r = 0 → C 37 v < D v ∧ C1 37 = C 37)) := by
  have n8 := cn_n hN
  have d4 := cn_D hN hv
  have hle := sd_le hA hv
  refine wp_K (fun Q hQ => ?_)
  unfold fx_X5_burstAtOnce
  rw [cn_degree hN hv, tp_bd_s]
  refine wp_lt ?_
  rw [w32_id (show -2147483648 ≤ D v ∧ D v < 2147483648 by omega), if_neg (show ¬ D v < 1 by omega), w32_id (show -2147483648 ≤ v ∧ v < 2147483648 by omega)]
  refine wp_ck (by omega) ?_
  rw [w32_id (show -2147483648 ≤ C 37 v ∧ C 37 v < 2147483648 by omega)]
  by_cases hc : C 37 v < D v
  · rw [if_pos hc]
    have e0 : sd_fire x v 0 = x := by
      funext u
      unfold sd_fire
      split <;> omega
    exact wp_some (hQ _ _ ⟨by omega, fr_rf, by rw [e0]; exact hA, fun w => by split <;> omega, fun _ _ => rfl, fun _ => ⟨hc, rfl⟩⟩)
  · rw [if_neg hc]
    refine wp_ck (by omega) ?_
    refine wp_nz (by omega) ?_
    refine wp_lt ?_
    rw [x_div_nn (by omega) (by omega)]
    have ht0 : 1 ≤ C 37 v / D v := (Int.le_ediv_iff_mul_le (by omega)).mpr (by omega)
    have ht1 : C 37 v / D v * D v ≤ C 37 v := Int.ediv_mul_le _ (by omega)
    have ht2 : C 37 v / D v ≤ C 37 v := by
      have := Int.mul_le_mul_of_nonneg_left (show 1 ≤ D v by omega) (show 0 ≤ C 37 v / D v by omega)
      omega
    generalize C 37 v / D v = t at *
    refine wp_ck (by omega) ?_
    refine wp_ck (by omega) ?_
    refine wp_lm ?_
    refine wp_lt ?_
    refine wp_lp1 (fun z C1 => ∃ k : Nat, z = (k : Int) ∧ (k : Int) ≤ D v ∧ tp_fr [37] C C1 ∧ (∀ w : Int, 1 ≤ w → w < n → C1 37 w = C 37 w - (if w = v then t * D v else 0) + t * nt_ways G v w k) ∧ ∀ w : Int, (w < 1 ∨ n ≤ w) → C1 37 w = C 37 w) (fun z _ => (D v - z).toNat) ?_ tp_F 0 _ ⟨0, rfl, by omega, fr_up fr_rf (by simp), fun w w1 w2 => ?_, fun w hw => up_j _ _ _ (by omega)⟩ (tp_F_pos (by omega))
    · intro rec z C1 hI hrec
      obtain ⟨k, rfl, i1, i2, i3, i4⟩ := hI
      have hN1 : nC C1 n D G := nC_fr hN (i2 5 (by simp)) (i2 6 (by simp)) (i2 7 (by simp)) (i2 8 (by simp)) (i2 9 (by simp))
      unfold fx_X5_burstAtOnce_L49
      rw [w32_id (show -2147483648 ≤ (k : Int) ∧ (k : Int) < 2147483648 by omega), w32_id (show -2147483648 ≤ D v ∧ D v < 2147483648 by omega)]
      by_cases hz : (k : Int) < D v
      · have g := cn_G hN hv (k := (k : Int)) ⟨by omega, hz⟩
        rw [if_pos hz, cn_goal hN1 hv ⟨by omega, hz⟩, tp_bd_s]
        refine wp_lt ?_
        generalize hgo : G (4 * v + (k : Int)) = go at *
        rw [cn_hasPost hN1 (by unfold pu_in; omega), tp_bd_s]
        refine wp_jn0 ?_
        by_cases h0 : go = 0
        · rw [if_neg (show ¬ (1 ≤ go ∧ go < n) by omega), show w32 0 = 0 from rfl, if_pos rfl]
          refine wp_lt ?_
          refine hrec _ _ ⟨k + 1, by omega, by omega, i2, fun w w1 w2 => ?_, i4⟩ (by omega)
          rw [i3 w w1 w2, nt_ways_s, hgo, if_neg (show ¬ go = w by omega), Int.add_zero]
        · rw [if_pos (show 1 ≤ go ∧ go < n by omega), show w32 1 = 1 from rfl, if_neg (by decide), w32_id (show -2147483648 ≤ go ∧ go < 2147483648 by omega)]
          refine wp_ck (by omega) ?_
          refine wp_ck (by omega) ?_
          refine wp_lm ?_
          refine wp_lt ?_
          refine hrec _ _ ⟨k + 1, by omega, by omega, fr_up i2 (by simp), fun w w1 w2 => ?_, fun w hw => ?_⟩ (by omega)
          · rw [up_c, nt_ways_s, hgo, Int.mul_add]
            by_cases hw : w = go
            · rw [if_pos hw, i3 go (by omega) (by omega), hw, if_pos rfl, Int.mul_one]; omega
            · rw [if_neg hw, i3 w w1 w2, if_neg (show ¬ go = w from fun q => hw q.symm), Int.mul_zero]; omega
          · rw [up_j _ _ _ (by omega)]
            exact i4 w hw
      · rw [if_neg hz]
        refine wp_ck (by omega) ?_
        refine wp_ck (by omega) ?_
        refine wp_lm ?_
        have e38 : C1 38 = C 38 := i2 38 (by simp)
        refine wp_some (hQ _ _ ⟨by omega, fr_up (fr_mono i2 (by simp)) (by simp), ?_, fun w => ?_, fun w hw => ?_, fun q => by omega⟩)
        · rw [up_k _ _ _ (by decide)]
          refine sd_next hN.2.1 hA hv ⟨by omega, ht1⟩ (fun w w1 w2 => ?_)
          rw [i3 w w1 w2]
          unfold wy
          rw [show (D v).toNat = k by omega]
        · rw [up_c, e38]
          by_cases hw : w = v
          · rw [if_pos hw, if_pos hw, hw]
          · rw [if_neg hw, if_neg hw]
        · rw [up_k _ _ _ (by decide)]
          exact i4 w hw
    · rw [up_c]
      have : nt_ways G v w 0 = 0 := rfl
      rw [this, Int.mul_zero]
      by_cases hw : w = v
      · rw [if_pos hw, if_pos hw, hw]; omega
      · rw [if_neg hw, if_neg hw]; omega
theorem cs_calm {C : tp_M} {n : Int} {D G h : Int → Int} {S : Int} (hN : nC C n D G) (hh : ∀ v : Int, 1 ≤ v → v < n → C 37 v = h v ∧ 0 ≤ h v) (hT : sumI h 1 (n - 1).toNat ≤ S) (hS : S ≤ 100000000) : wp (fx_X5_calm C) (fun r C1 => ∃ x : Int → Int, sd_res n D G h r x ∧ tp_fr [37, 38] C C1 ∧ (∀ v : Int, 1 ≤ v → v < n → (C1 37 v = hp n D G h x v ∧ 0 ≤ C1 37 v) ∧ C1 38 v = x v) ∧ ∀ w : Int, (w < 1 ∨ n ≤ w) → C1 37 w = C 37 w) := by
  have n8 := cn_n hN
  refine wp_K (fun Q hQ => ?_)
  unfold fx_X5_calm
  refine wp_lt ?_
  refine wp_lp1 (fun z C1 => (0 ≤ z ∧ z ≤ 8) ∧ tp_fr [38] C C1 ∧ ∀ u : Int, 0 ≤ u → u < z → C1 38 u = 0) (fun z _ => (8 - z).toNat) ?_ tp_F 0 C ⟨by omega, fr_rf, fun u u1 u2 => by omega⟩ (tp_F_pos (by omega))
  intro rec z C1 hI hrec
  obtain ⟨i1, i2, i3⟩ := hI
  unfold fx_X5_calm_L2
  by_cases hz : z < 8
  · rw [w32_id (show -2147483648 ≤ z ∧ z < 2147483648 by omega), if_pos hz]
    refine wp_ck (by omega) ?_
    refine wp_lm ?_
    refine wp_lt ?_
    refine hrec _ _ ⟨by omega, fr_up i2 (by simp), fun u u1 u2 => ?_⟩ (by omega)
    rw [up_c]
    by_cases hu : u = z
    · rw [if_pos hu]
    · rw [if_neg hu]; exact i3 u u1 (by omega)
  · rw [w32_id (show -2147483648 ≤ z ∧ z < 2147483648 by omega), if_neg hz]
    refine wp_lt ?_
    refine wp_lt ?_
    refine wp_lt ?_
    have e37 : C1 37 = C 37 := i2 37 (by simp)
    have hpos : 0 ≤ sumI h 1 (n - 1).toNat := by
      have := sumI_mono (f := fun _ => 0) (g := h) (n - 1).toNat 1 (fun z z1 z2 => (hh z z1 (by omega)).2)
      rw [sumI_0 (f := fun _ => 0) _ _ (fun _ _ _ => rfl)] at this
      exact this
    refine wp_lp3 (fun all ahead sw C2 => (0 ≤ sw ∧ sw ≤ 10000) ∧ ∃ x : Int → Int, all = sumI x 1 (n - 1).toNat ∧ (0 ≤ all ∧ all ≤ 9999 + 7 * S) ∧ (-1 ≤ ahead ∧ ahead ≤ all) ∧ sd_at n D G h x S (C2 37) ∧ tp_fr [37, 38] C C2 ∧ (∀ v : Int, 1 ≤ v → v < n → C2 38 v = x v) ∧ (∀ w : Int, (w < 1 ∨ n ≤ w) → C2 37 w = C 37 w) ∧ ((ahead < all ∧ sw ≤ all) ∨ (ahead = all ∧ ∀ v : Int, 1 ≤ v → v < n → C2 37 v < D v))) (fun _ _ sw _ => (10001 - sw).toNat) ?_ tp_F 0 (-1) 0 C1 ⟨by omega, fun _ => 0, ?_, by omega, by omega, ?_, fr_mono i2 (by simp), fun v v1 v2 => i3 v (by omega) (by omega), fun w hw => by rw [e37], Or.inl ⟨by omega, by omega⟩⟩ (tp_F_pos (by omega))
    · intro rec2 all ahead sw C2 hI2 hrec2
      obtain ⟨j0, x, j1, j2, j3, j4, j5, j6, j7, j8⟩ := hI2
      have fin : (all ≤ 9999 → ∀ v : Int, 1 ≤ v → v < n → C2 37 v < D v) → wp (if w32 all ≤ 9999 then some (all, C2) else some (-3, C2)) Q := fun hst => by
        rw [w32_id (show -2147483648 ≤ all ∧ all < 2147483648 by omega)]
        obtain ⟨b1, b2, b3⟩ := j4
        by_cases h9 : all ≤ 9999
        · rw [if_pos h9]
          refine wp_some (hQ _ _ ⟨x, ⟨fun v v1 v2 => (b1 v v1 v2).2.2, b2, Or.inl ⟨j1, h9, fun v v1 v2 => (b1 v v1 v2).2.2, fun v v1 v2 => ?_⟩⟩, j5, fun v v1 v2 => ⟨⟨(b1 v v1 v2).1, (b1 v v1 v2).2.1⟩, j6 v v1 v2⟩, j7⟩)
          rw [← (b1 v v1 v2).1]
          exact hst h9 v v1 v2
        · rw [if_neg h9]
          exact wp_some (hQ _ _ ⟨x, ⟨fun v v1 v2 => (b1 v v1 v2).2.2, b2, Or.inr ⟨rfl, by omega⟩⟩, j5, fun v v1 v2 => ⟨⟨(b1 v v1 v2).1, (b1 v v1 v2).2.1⟩, j6 v v1 v2⟩, j7⟩)
      unfold fx_X5_calm_L28
      rw [w32_id (show -2147483648 ≤ sw ∧ sw < 2147483648 by omega)]
      by_cases hsw : sw ≤ 9999
      · rw [if_pos hsw, w32_id (show -2147483648 ≤ all ∧ all < 2147483648 by omega), w32_id (show -2147483648 ≤ ahead ∧ ahead < 2147483648 by omega)]
        rw [w32_id (show -2147483648 ≤ all ∧ all < 2147483648 by omega)] at fin
        by_cases ha : all ≤ ahead
        · rw [if_pos ha]
          dsimp only
          rw [w32_id (show -2147483648 ≤ all ∧ all < 2147483648 by omega)]
          refine fin (fun _ => ?_)
          rcases j8 with ⟨k1, k2⟩ | ⟨k1, k2⟩
          · omega
          · exact k2
        · rw [if_neg ha]
          by_cases h9 : all ≤ 9999
          · rw [if_pos h9]
            refine wp_lt ?_
            refine wp_lt ?_
            have hswa : sw ≤ all := by
              rcases j8 with ⟨k1, k2⟩ | ⟨k1, k2⟩ <;> omega
            refine wp_lp2 (fun al v C3 => (1 ≤ v ∧ v ≤ n) ∧ ∃ y : Int → Int, al = sumI y 1 (n - 1).toNat ∧ (all ≤ al ∧ al ≤ 9999 + (v - 1) * S) ∧ sd_at n D G h y S (C3 37) ∧ tp_fr [37, 38] C C3 ∧ (∀ v : Int, 1 ≤ v → v < n → C3 38 v = y v) ∧ (∀ w : Int, (w < 1 ∨ n ≤ w) → C3 37 w = C 37 w) ∧ (al = all → ∀ w : Int, 1 ≤ w → w < v → C3 37 w < D w)) (fun _ v _ => (8 - v).toNat) ?_ tp_F all 1 C2 ⟨by omega, x, j1, by omega, j4, j5, j6, j7, fun _ w w1 w2 => by omega⟩ (tp_F_pos (by omega))
            intro rec3 al v C3 hI3 hrec3
            obtain ⟨l0, y, l1, l2, l4, l5, l6, l7, l8⟩ := hI3
            have hN3 : nC C3 n D G := nC_fr hN (l5 5 (by simp)) (l5 6 (by simp)) (l5 7 (by simp)) (l5 8 (by simp)) (l5 9 (by simp))
            have hmul : (v - 1) * S ≤ 7 * S := Int.mul_le_mul_of_nonneg_right (by omega) (by omega)
            unfold fx_X5_calm_L53
            rw [cn_crossings hN3, tp_bd_s, w32_id (show -2147483648 ≤ v ∧ v < 2147483648 by omega), w32_id (show -2147483648 ≤ n ∧ n < 2147483648 by omega)]
            by_cases hv : v < n
            · rw [if_pos hv]
              refine wp_call (cs_once hN3 l4 hS ⟨l0.1, hv⟩) (fun r C4 q => ?_)
              obtain ⟨q1, q2, q3, q4, q5, q6⟩ := q
              refine wp_lt ?_
              refine wp_lt ?_
              refine hrec3 _ _ _ ⟨by omega, sd_fire y v r, by rw [sum_fire ⟨l0.1, hv⟩, l1], ⟨by omega, by rw [show v + 1 - 1 = (v - 1) + 1 by omega, Int.add_mul, Int.one_mul]; omega⟩, q3, fr_tr l5 q2, fun w w1 w2 => ?_, fun w hw => by rw [q5 w hw]; exact l7 w hw, fun he w w1 w2 => ?_⟩ (by omega)
              · rw [q4 w, l6 w w1 w2]
                unfold sd_fire
                rfl
              · have hr0 : r = 0 := by omega
                obtain ⟨s1, s2⟩ := q6 hr0
                rw [s2]
                by_cases hwv : w = v
                · rw [hwv]; exact s1
                · exact l8 (by omega) w w1 (by omega)
            · rw [if_neg hv]
              refine wp_lt ?_
              have hvn : v = n := by omega
              refine hrec2 _ _ _ _ ⟨by omega, y, l1, by omega, by omega, l4, l5, l6, l7, ?_⟩ (by omega)
              by_cases hal : al = all
              · exact Or.inr ⟨hal.symm, fun w w1 w2 => l8 hal w w1 (by omega)⟩
              · exact Or.inl ⟨by omega, by omega⟩
          · rw [if_neg h9]
            dsimp only
            rw [w32_id (show -2147483648 ≤ all ∧ all < 2147483648 by omega)]
            exact fin (fun q => absurd q h9)
      · rw [if_neg hsw]
        refine fin (fun h9 => ?_)
        rcases j8 with ⟨k1, k2⟩ | ⟨k1, k2⟩
        · omega
        · exact k2
    · exact (sumI_0 (f := fun _ => 0) _ _ (fun _ _ _ => rfl)).symm
    · exact sd_begin (fun v v1 v2 => by rw [e37]; exact hh v v1 v2) hT
theorem ps_calmed {kr : Nat} (hk : kr = 4 ∨ kr = 5) {M : tp_M} {h : Int → Int} {S : Int} (hn : nt_net (M 0 3) (M 2) (M 3)) (hh : ∀ v : Int, 1 ≤ v → v < M 0 3 → M kr (8 + v) = h v ∧ 0 ≤ h v) (hT : sumI h 1 (M 0 3 - 1).toNat ≤ S) (hS : S ≤ 100000000) (h8 : 0 ≤ M kr 8 ∧ M kr 8 ≤ 9999) : wp (fx_X11_calmed kr 17 M) (fun r M1 => ∃ x : Int → Int, sd_res (M 0 3) (M 2) (M 3) h r x ∧ tp_fr [15, kr] M M1 ∧ (∀ j : Int, ¬ (8 ≤ j ∧ j < 16) → M1 kr j = M kr j) ∧ (r = -3 ∨ ((∀ v : Int, 1 ≤ v → v < M 0 3 → M1 kr (8 + v) = hp (M 0 3) (M 2) (M 3) h x v ∧ 0 ≤ M1 kr (8 + v) ∧ M1 15 v = x v) ∧ M1 kr 8 = min 9999 (M kr 8 + sumI (fun u => wy (M 2) (M 3) u 0 * x u) 1 (M 0 3 - 1).toNat)))) := by
  have n8 := hn.1
  generalize hD : M 2 = D at *
  generalize hG : M 3 = G at *
  generalize hnn : M 0 3 = n at *
  have n15 : ¬ kr = 15 := by omega
  refine wp_K (fun Q hQ => ?_)
  unfold fx_X11_calmed
  refine wp_lt ?_
  refine wp_lt ?_
  refine wp_lp1 (fun z M1 => (0 ≤ z ∧ z ≤ 8) ∧ tp_fr [15] M M1 ∧ ∀ u : Int, 0 ≤ u → u < z → M1 15 u = 0) (fun z _ => (8 - z).toNat) ?_ tp_F 0 M ⟨by omega, fr_rf, fun u u1 u2 => by omega⟩ (tp_F_pos (by omega))
  intro rec z M1 hI hrec
  obtain ⟨i1, i2, i3⟩ := hI
  unfold fx_X11_calmed_L4
  by_cases hz : z < 8
  · rw [w32_id (show -2147483648 ≤ z ∧ z < 2147483648 by omega), if_pos hz]
    refine wp_ck (by omega) ?_
    refine wp_lm ?_
    refine wp_lt ?_
    refine hrec _ _ ⟨by omega, fr_up i2 (by simp), fun u u1 u2 => ?_⟩ (by omega)
    rw [up_c]
    by_cases hu : u = z
    · rw [if_pos hu]
    · rw [if_neg hu]; exact i3 u u1 (by omega)
  · rw [w32_id (show -2147483648 ≤ z ∧ z < 2147483648 by omega), if_neg hz]
    refine wp_lt ?_
    have ek : M1 kr = M kr := i2 kr (by simp; omega)
    have hpos : 0 ≤ sumI h 1 (n - 1).toNat := by
      have := sumI_mono (f := fun _ => 0) (g := h) (n - 1).toNat 1 (fun z z1 z2 => (hh z z1 (by omega)).2)
      rw [sumI_0 (f := fun _ => 0) _ _ (fun _ _ _ => rfl)] at this
      exact this
    -- what stands at every place of the loops
    have key : ∀ (PP : Int → (Int → Int) → tp_M → Prop), (∀ many x M2, PP many x M2 ↔ (many = sumI x 1 (n - 1).toNat ∧ (0 ≤ many ∧ many ≤ 9999) ∧ sd_at n D G h x S (fun v => M2 kr (8 + v)) ∧ tp_fr [15, kr] M M2 ∧ (∀ j : Int, ¬ (8 ≤ j ∧ j < 16) → M2 kr j = M kr j) ∧ (∀ v : Int, 1 ≤ v → v < n → M2 15 v = x v) ∧ M2 kr 8 = min 9999 (M kr 8 + sumI (fun u => wy D G u 0 * x u) 1 (n - 1).toNat) ∧ 0 ≤ sumI (fun u => wy D G u 0 * x u) 1 (n - 1).toNat)) → wp (tp_lp2 (fx_X11_calmed_L25 kr 17) tp_F 0 1 M1) Q := fun PP hPP => by
      refine wp_lp2 (fun many more M2 => ∃ x : Int → Int, PP many x M2 ∧ ((more = 1) ∨ (more = 0 ∧ ∀ v : Int, 1 ≤ v → v < n → M2 kr (8 + v) < D v))) (fun many more _ => (2 * (10000 - many)).toNat + more.toNat) ?_ tp_F 0 1 M1 ⟨fun _ => 0, (hPP _ _ _).mpr ⟨?_, by omega, ?_, fr_mono i2 (by simp), fun j _ => by rw [ek], fun v v1 v2 => i3 v (by omega) (by omega), ?_, ?_⟩, Or.inl rfl⟩ (tp_F_pos (by omega))
      · intro rec2 many more M2 hI2 hrec2
        obtain ⟨x, j1, j2⟩ := hI2
        unfold fx_X11_calmed_L25
        rcases j2 with rfl | ⟨rfl, j2⟩
        · rw [show w32 1 = 1 from rfl, if_neg (by decide)]
          refine wp_lt ?_
          refine wp_lt ?_
          have hm0 := ((hPP _ _ _).mp j1).2.1
          refine wp_lp3 (fun mn mr i M3 => (1 ≤ i ∧ i ≤ n) ∧ ∃ y : Int → Int, PP mn y M3 ∧ many ≤ mn ∧ ((mr = 1 ∧ many < mn) ∨ (mr = 0 ∧ mn = many ∧ ∀ v : Int, 1 ≤ v → v < i → M3 kr (8 + v) < D v))) (fun _ _ i _ => (8 - i).toNat) ?_ tp_F many 0 1 M2 ⟨by omega, x, j1, Int.le_refl _, Or.inr ⟨rfl, rfl, fun v v1 v2 => by omega⟩⟩ (tp_F_pos (by omega))
          intro rec3 mn mr i M3 hI3 hrec3
          obtain ⟨l0, y, l1, l2, l3⟩ := hI3
          obtain ⟨p1, p2, p3, p4, p5, p6, p7, p8⟩ := (hPP _ _ _).mp l1
          have e0 : M3 0 = M 0 := p4 0 (by simp; omega)
          unfold fx_X11_calmed_L34
          rw [e0, hnn, w32_id (show -2147483648 ≤ i ∧ i < 2147483648 by omega), w32_id (show -2147483648 ≤ n ∧ n < 2147483648 by omega)]
          by_cases hi : i < n
          · rw [if_pos hi]
            have hiv : 1 ≤ i ∧ i < n := ⟨l0.1, hi⟩
            have d4 := (hn.2 i l0.1 hi).1
            refine wp_lp2 (fun m2 r2 M4 => ∃ y2 : Int → Int, PP m2 y2 M4 ∧ many ≤ m2 ∧ ((r2 = 1 ∧ many < m2) ∨ (r2 = 0 ∧ m2 = many ∧ ∀ v : Int, 1 ≤ v → v < i → M4 kr (8 + v) < D v))) (fun m2 _ _ => (10000 - m2).toNat) ?_ tp_F mn mr M3 ⟨y, l1, l2, l3⟩ (tp_F_pos (by omega))
            intro rec4 m2 r2 M4 hI4 hrec4
            obtain ⟨y2, q1, q2, q3⟩ := hI4
            obtain ⟨s1, s2, s3, s4, s5, s6, s7, s8⟩ := (hPP _ _ _).mp q1
            have f2 : M4 2 = D := by rw [s4 2 (by simp; omega), hD]
            have f3 : M4 3 = G := by rw [s4 3 (by simp; omega), hG]
            have f0 : M4 0 = M 0 := s4 0 (by simp; omega)
            have hle : 0 ≤ M4 kr (8 + i) ∧ M4 kr (8 + i) ≤ S := sd_le (H := fun v => M4 kr (8 + v)) s3 hiv
            unfold fx_X11_calmed_L43
            rw [w32_id (show -2147483648 ≤ i ∧ i < 2147483648 by omega), w32_id (show -2147483648 ≤ 8 + i ∧ 8 + i < 2147483648 by omega)]
            refine wp_ck (by omega) ?_
            refine wp_ck (by omega) ?_
            rw [f2, w32_id (show -2147483648 ≤ M4 kr (8 + i) ∧ M4 kr (8 + i) < 2147483648 by omega), w32_id (show -2147483648 ≤ D i ∧ D i < 2147483648 by omega)]
            by_cases hf : M4 kr (8 + i) < D i
            · rw [if_pos hf]
              refine wp_lt ?_
              refine hrec3 _ _ _ _ ⟨by omega, y2, q1, q2, ?_⟩ (by omega)
              rcases q3 with q3 | ⟨q3, q4, q5⟩
              · exact Or.inl q3
              · refine Or.inr ⟨q3, q4, fun v v1 v2 => ?_⟩
                by_cases hv : v = i
                · rw [hv]; exact hf
                · exact q5 v v1 (by omega)
            · rw [if_neg hf, w32_id (show -2147483648 ≤ m2 ∧ m2 < 2147483648 by omega)]
              have hfire : 1 * D i ≤ (fun v => M4 kr (8 + v)) i := by dsimp only; omega
              by_cases h99 : m2 = 9999
              · rw [if_pos h99]
                have hh2 := s3.1 i l0.1 hi
                refine wp_some (hQ _ _ ⟨sd_fire y2 i 1, ⟨fun v v1 v2 => ?_, leg_fire hn hiv s3.2.1 (by rw [← hh2.1]; exact hfire), Or.inr ⟨rfl, by rw [sum_fire hiv]; omega⟩⟩, s4, s5, Or.inl rfl⟩)
                have := (s3.1 v v1 v2).2.2
                unfold sd_fire
                split <;> omega
              · rw [if_neg h99]
                have h80 : 0 ≤ M4 kr 8 ∧ M4 kr 8 ≤ 9999 := by rw [s7]; omega
                refine wp_call (ps_burst hk (M := M4) (v := i) (by omega) (by rw [f2]; exact d4) (fun k k1 k2 => by
                  rw [f2] at k2
                  rw [f3]
                  have := (hn.2 i l0.1 hi).2 k k1 k2
                  omega) h80) (fun _ M5 t => ?_)
                obtain ⟨t1, t2⟩ := t
                rw [f2, f3] at t2
                refine wp_ck (by omega) ?_
                refine wp_ck (by omega) ?_
                refine wp_lm ?_
                refine wp_lt ?_
                refine wp_lt ?_
                have e15 : M5 15 = M4 15 := t1 15 (by simp; omega)
                have hb : ∀ w : Int, 1 ≤ w → w < n → M5 kr (8 + w) = M4 kr (8 + w) - (if w = i then 1 * D i else 0) + 1 * wy D G i w := fun w w1 w2 => by
                  rw [t2]
                  unfold bs_row wy
                  rw [if_neg (show ¬ 8 + w = 8 by omega), if_pos (show 8 < 8 + w ∧ 8 + w < 16 by omega), show 8 + w - 8 = w by omega]
                  by_cases hw : w = i
                  · rw [if_pos (by omega), if_pos hw]; omega
                  · rw [if_neg (by omega), if_neg hw]; omega
                have h8b : M5 kr 8 = min 9999 (M4 kr 8 + wy D G i 0) := by
                  rw [t2]
                  unfold bs_row wy
                  rw [if_pos rfl]
                have hw0 := wy_in D G i 0
                refine hrec4 _ _ _ ⟨sd_fire y2 i 1, (hPP _ _ _).mpr ⟨by rw [sum_fire hiv, s1], by omega, ?_, fr_up (fr_tr s4 (fr_mono t1 (by simp))) (by simp), fun j hj => ?_, fun w w1 w2 => ?_, ?_, ?_⟩, by omega, Or.inl ⟨rfl, by omega⟩⟩ (by omega)
                · refine sd_next hn s3 hiv ⟨by decide, hfire⟩ (fun w w1 w2 => ?_)
                  show tp_up M5 15 i (M5 15 i + 1) kr (8 + w) = _
                  rw [up_k _ _ _ n15]
                  exact hb w w1 w2
                · rw [up_k _ _ _ n15, t2]
                  unfold bs_row
                  rw [if_neg (by omega), if_neg (by omega)]
                  exact s5 j hj
                · rw [up_c, e15]
                  unfold sd_fire
                  by_cases hw : w = i
                  · rw [if_pos hw, if_pos hw, hw, s6 i l0.1 hi]
                  · rw [if_neg hw, if_neg hw]
                    exact s6 w w1 w2
                · rw [up_k _ _ _ n15, h8b, s7, ws_fire hiv 0, Int.one_mul]
                  omega
                · rw [ws_fire hiv 0, Int.one_mul]
                  omega
          · rw [if_neg hi]
            rcases l3 with ⟨rfl, l3⟩ | ⟨rfl, l3, l4⟩
            · exact hrec2 _ _ _ ⟨y, l1, Or.inl rfl⟩ (by omega)
            · refine hrec2 _ _ _ ⟨y, l1, Or.inr ⟨rfl, fun v v1 v2 => l4 v v1 (by omega)⟩⟩ (by omega)
        · rw [show w32 0 = 0 from rfl, if_pos rfl]
          obtain ⟨p1, p2, p3, p4, p5, p6, p7, p8⟩ := (hPP _ _ _).mp j1
          refine wp_some (hQ _ _ ⟨x, ⟨fun v v1 v2 => (p3.1 v v1 v2).2.2, p3.2.1, Or.inl ⟨p1, p2.2, fun v v1 v2 => (p3.1 v v1 v2).2.2, fun v v1 v2 => ?_⟩⟩, p4, p5, Or.inr ⟨fun v v1 v2 => ⟨(p3.1 v v1 v2).1, (p3.1 v v1 v2).2.1, p6 v v1 v2⟩, p7⟩⟩)
          rw [← (p3.1 v v1 v2).1]
          exact j2 v v1 v2
      · exact (sumI_0 (f := fun _ => 0) _ _ (fun _ _ _ => rfl)).symm
      · exact sd_begin (fun v v1 v2 => by rw [ek]; exact hh v v1 v2) hT
      · rw [ek, sumI_0 (f := fun u => wy D G u 0 * 0) _ _ (fun z _ _ => Int.mul_zero _)]
        omega
      · rw [sumI_0 (f := fun u => wy D G u 0 * 0) _ _ (fun z _ _ => Int.mul_zero _)]
        exact Int.le_refl 0
    exact key _ (fun _ _ _ => Iff.rfl)
