/-! ELIMINATION on the class's cells -/
abbrev elC : List Nat := [42, 43, 44, 45, 46, 47, 48, 49]
theorem elC_mem {i : Nat} (h : i < 8) : 42 + i ∈ elC := by simp; omega
theorem fb_7 : ∀ k : Nat, k ≤ 7 → fb k ≤ 82575360 := by decide
theorem mul_bd {a b : Int} {c : Nat} (ha : a.natAbs ≤ c) (hb : b.natAbs ≤ c) : (a * b).natAbs ≤ c * c := by
  rw [Int.natAbs_mul]
  exact Nat.mul_le_mul ha hb
theorem x_lcmp_0 {b : Int} (hb : -9000000000000000000 ≤ b ∧ b < 9000000000000000000) : x_lcmp b 0 = 0 ↔ b = 0 := by
  unfold x_lcmp
  rw [w64_id (by omega), show w64 0 = 0 from rfl]
  by_cases h1 : b < 0
  · rw [if_pos h1]
    exact ⟨fun q => absurd q (by decide), fun q => by omega⟩
  · rw [if_neg h1]
    by_cases h2 : b = 0
    · rw [if_pos h2]
      exact ⟨fun _ => h2, fun _ => rfl⟩
    · rw [if_neg h2]
      exact ⟨fun q => absurd q (by decide), fun q => absurd q h2⟩
theorem x_ldiv_ex {a b c : Int} (hc : c = a * b) (ha : ¬ a = 0) (h1 : -9000000000000000000 ≤ a ∧ a < 9000000000000000000) (h2 : -9000000000000000000 ≤ c ∧ c < 9000000000000000000) : x_ldiv c a = b := by
  unfold x_ldiv
  rw [w64_id (by omega), w64_id (by omega), hc, Int.mul_tdiv_cancel_left _ ha]
section EL
variable {A : Nat → Nat → Int} {m : Nat}
/-- what is worked out at a step fits -/
theorem el_step {k i j : Nat} (hk : k + 1 ≤ 7) (hp : ∀ t : Nat, t ≤ k + 1 → ¬ dt_det t A = 0) (hb : ∀ a b : Nat, (a < k ∨ a = k ∨ a = i) → (b < k ∨ b = k ∨ b = j) → (A a b).natAbs ≤ 4) : x_ldiv (dt_det (k + 1) A * mn A k i j - mn A k i k * mn A k k j) (dt_det k A) = mn A (k + 1) i j := by
  have b7 := fb_7 (k + 1) (by omega)
  have b6 := fb_7 k (by omega)
  have h1 : (dt_det (k + 1) A).natAbs ≤ 82575360 := Nat.le_trans (det_bd (k + 1) A (fun a b ha hb' => hb a b (by omega) (by omega))) b7
  have h0 : (dt_det k A).natAbs ≤ 82575360 := Nat.le_trans (det_bd k A (fun a b ha hb' => hb a b (by omega) (by omega))) b6
  have h2 : (mn A k i j).natAbs ≤ 82575360 := Nat.le_trans (mn_bd (fun a b ha hb' => hb a b (by omega) (by omega))) b7
  have h3 : (mn A k i k).natAbs ≤ 82575360 := Nat.le_trans (mn_bd (fun a b ha hb' => hb a b (by omega) (by omega))) b7
  have h4 : (mn A k k j).natAbs ≤ 82575360 := Nat.le_trans (mn_bd (fun a b ha hb' => hb a b (by omega) (by omega))) b7
  have m1 := mul_bd h1 h2
  have m2 := mul_bd h3 h4
  refine x_ldiv_ex (mn_B hp i j) (hp k (by omega)) (by omega) ?_
  generalize dt_det (k + 1) A * mn A k i j = x at *
  generalize mn A k i k * mn A k k j = y at *
  have : (82575360 : Nat) * 82575360 = 6818690079129600 := by decide
  omega
theorem cs_elim {C : tp_M} (hm : 1 ≤ m ∧ m ≤ 7) (hA : ∀ i j : Nat, i < m → j ≤ m → C (42 + i) (j : Int) = A i j) (hb : ∀ i j : Nat, i < m → j ≤ m → (A i j).natAbs ≤ 4) :
    wp (fx_X0_eliminate (m : Int) C) (fun r C1 => tp_fr elC C C1 ∧ ((r = 0 ∧ ∃ q : Nat, 1 ≤ q ∧ q ≤ m ∧ dt_det q A = 0) ∨ (r = 1 ∧ (∀ q : Nat, q ≤ m → ¬ dt_det q A = 0) ∧ C1 (42 + (m - 1)) ((m - 1 : Nat) : Int) = dt_det m A ∧ C1 (42 + (m - 1)) (m : Int) = mn A (m - 1) (m - 1) m))) := by
  refine wp_K (fun Q hQ => ?_)
  unfold fx_X0_eliminate
  rw [w32_id (show -2147483648 ≤ (m : Int) ∧ (m : Int) < 2147483648 by omega), if_neg (by omega), if_pos (by omega)]
  refine wp_lt ?_
  refine wp_lt ?_
  refine wp_lp2 (fun a z C1 => ∃ k : Nat, z = (k : Int) ∧ k ≤ m ∧ a = dt_det k A ∧ (∀ q : Nat, q ≤ k → ¬ dt_det q A = 0) ∧ tp_fr elC C C1 ∧ (∀ i j : Nat, k ≤ i → i < m → k ≤ j → j ≤ m → C1 (42 + i) (j : Int) = mn A k i j) ∧ (1 ≤ k → C1 (42 + (k - 1)) ((k - 1 : Nat) : Int) = dt_det k A ∧ C1 (42 + (k - 1)) (m : Int) = mn A (k - 1) (k - 1) m)) (fun _ z _ => (9 - z).toNat) ?_ tp_F 1 0 C ⟨0, rfl, by omega, rfl, fun q hq => by rw [show q = 0 by omega]; show ¬ (1 : Int) = 0; decide, fr_rf, fun i j _ hi _ hj => by rw [mn_0]; exact hA i j hi hj, fun h => by omega⟩ (tp_F_pos (by omega))
  rintro rec a z C1 ⟨k, rfl, k1, rfl, k2, k3, k4, k5⟩ hrec
  unfold fx_X0_eliminate_L18
  rw [w32_id (show -2147483648 ≤ (k : Int) ∧ (k : Int) < 2147483648 by omega), w32_id (show -2147483648 ≤ (m : Int) ∧ (m : Int) < 2147483648 by omega), Int.toNat_natCast]
  by_cases hk : k < m
  · rw [if_pos (by omega)]
    refine wp_ck (by omega) ?_
    refine wp_ck (by omega) ?_
    have b7 := fb_7 (k + 1) (by omega)
    have hp1 : (dt_det (k + 1) A).natAbs ≤ 82575360 := Nat.le_trans (det_bd (k + 1) A (fun a b ha hb' => hb a b (by omega) (by omega))) b7
    rw [k4 k k (Nat.le_refl k) hk (Nat.le_refl k) (by omega), mn_d]
    refine wp_lt ?_
    by_cases hz : dt_det (k + 1) A = 0
    · rw [if_pos ((x_lcmp_0 (by omega)).mpr hz)]
      exact wp_some (hQ _ _ ⟨k3, Or.inl ⟨rfl, k + 1, by omega, by omega, hz⟩⟩)
    · rw [if_neg (fun q => hz ((x_lcmp_0 (by omega)).mp q))]
      refine wp_lt ?_
      have hpk : ∀ t : Nat, t ≤ k + 1 → ¬ dt_det t A = 0 := fun t ht => by
        by_cases e : t = k + 1
        · rw [e]; exact hz
        · exact k2 t (by omega)
      refine wp_lp1 (fun z C2 => ∃ i : Nat, z = (i : Int) ∧ k + 1 ≤ i ∧ i ≤ m ∧ tp_fr elC C C2 ∧ (∀ j : Nat, k ≤ j → j ≤ m → C2 (42 + k) (j : Int) = mn A k k j) ∧ (∀ u j : Nat, i ≤ u → u < m → k ≤ j → j ≤ m → C2 (42 + u) (j : Int) = mn A k u j) ∧ ∀ u j : Nat, k + 1 ≤ u → u < i → k + 1 ≤ j → j ≤ m → C2 (42 + u) (j : Int) = mn A (k + 1) u j) (fun z _ => (9 - z).toNat) ?_ tp_F _ C1 ⟨k + 1, by omega, Nat.le_refl _, by omega, k3, fun j j1 j2 => k4 k j (Nat.le_refl k) hk j1 j2, fun u j u1 u2 j1 j2 => k4 u j (by omega) u2 j1 j2, fun u j u1 u2 => by omega⟩ (tp_F_pos (by omega))
      rintro rec2 z C2 ⟨i, rfl, i1, i2, i3, i4, i5, i6⟩ hrec2
      unfold fx_X0_eliminate_L51
      rw [w32_id (show -2147483648 ≤ (i : Int) ∧ (i : Int) < 2147483648 by omega), w32_id (show -2147483648 ≤ (m : Int) ∧ (m : Int) < 2147483648 by omega)]
      by_cases hi : i < m
      · rw [if_pos (by omega)]
        refine wp_lt ?_
        refine wp_lp1 (fun z C3 => ∃ j : Nat, z = (j : Int) ∧ k + 1 ≤ j ∧ j ≤ m + 1 ∧ tp_fr elC C C3 ∧ (∀ j : Nat, k ≤ j → j ≤ m → C3 (42 + k) (j : Int) = mn A k k j) ∧ (∀ u j : Nat, i + 1 ≤ u → u < m → k ≤ j → j ≤ m → C3 (42 + u) (j : Int) = mn A k u j) ∧ (∀ u j : Nat, k + 1 ≤ u → u < i → k + 1 ≤ j → j ≤ m → C3 (42 + u) (j : Int) = mn A (k + 1) u j) ∧ C3 (42 + i) (k : Int) = mn A k i k ∧ (∀ w : Nat, j ≤ w → w ≤ m → C3 (42 + i) (w : Int) = mn A k i w) ∧ ∀ w : Nat, k + 1 ≤ w → w < j → C3 (42 + i) (w : Int) = mn A (k + 1) i w) (fun z _ => (9 - z).toNat) ?_ tp_F _ C2 ⟨k + 1, by omega, Nat.le_refl _, by omega, i3, i4, fun u j u1 u2 => i5 u j (by omega) u2, i6, i5 i k (Nat.le_refl i) hi (Nat.le_refl k) (by omega), fun w w1 w2 => i5 i w (Nat.le_refl i) hi (by omega) w2, fun w w1 w2 => by omega⟩ (tp_F_pos (by omega))
        rintro rec3 z C3 ⟨j, rfl, j1, j2, j3, j4, j5, j6, j7, j8, j9⟩ hrec3
        unfold fx_X0_eliminate_L63
        rw [w32_id (show -2147483648 ≤ (j : Int) ∧ (j : Int) < 2147483648 by omega), w32_id (show -2147483648 ≤ (m : Int) ∧ (m : Int) < 2147483648 by omega), w32_id (show -2147483648 ≤ (i : Int) ∧ (i : Int) < 2147483648 by omega), w32_id (show -2147483648 ≤ (k : Int) ∧ (k : Int) < 2147483648 by omega), Int.toNat_natCast, Int.toNat_natCast]
        by_cases hj : j ≤ m
        · rw [if_pos (by omega), j7, j8 j (Nat.le_refl j) hj, j4 j (by omega) hj, el_step (by omega) hpk (fun a b ha hb' => hb a b (by omega) (by omega))]
          have hk6 := fb_7 k (by omega)
          have hp0 : (dt_det k A).natAbs ≤ 82575360 := Nat.le_trans (det_bd k A (fun a b ha hb' => hb a b (by omega) (by omega))) hk6
          refine wp_ck (by omega) ?_
          refine wp_ck (by omega) ?_
          refine wp_ck (by omega) ?_
          refine wp_ck (by omega) ?_
          refine wp_ck (by omega) ?_
          refine wp_ck (by omega) ?_
          refine wp_ck (by omega) ?_
          refine wp_nz (by rw [w64_id (by omega)]; exact k2 k (Nat.le_refl k)) ?_
          refine wp_ck (by omega) ?_
          refine wp_lm ?_
          refine wp_lt ?_
          refine hrec3 _ _ ⟨j + 1, by omega, by omega, by omega, fr_up j3 (elC_mem (by omega)), fun w w1 w2 => ?_, fun u w u1 u2 w1 w2 => ?_, fun u w u1 u2 w1 w2 => ?_, ?_, fun w w1 w2 => ?_, fun w w1 w2 => ?_⟩ (by omega)
          · rw [up_k _ _ _ (by omega)]; exact j4 w w1 w2
          · rw [up_k _ _ _ (by omega)]; exact j5 u w u1 u2 w1 w2
          · rw [up_k _ _ _ (by omega)]; exact j6 u w u1 u2 w1 w2
          · rw [up_j _ _ _ (by omega)]; exact j7
          · rw [up_j _ _ _ (by omega)]; exact j8 w (by omega) w2
          · rw [up_c]
            by_cases e : w = j
            · rw [if_pos (by omega), e]
            · rw [if_neg (by omega)]; exact j9 w w1 (by omega)
        · rw [if_neg (by omega)]
          refine wp_lt ?_
          refine hrec2 _ _ ⟨i + 1, by omega, by omega, by omega, j3, j4, j5, fun u w u1 u2 w1 w2 => ?_⟩ (by omega)
          by_cases e : u = i
          · rw [e]; exact j9 w w1 (by omega)
          · exact j6 u w u1 (by omega) w1 w2
      · rw [if_neg (by omega)]
        refine wp_lt ?_
        refine wp_lt ?_
        refine hrec _ _ _ ⟨k + 1, by omega, by omega, rfl, hpk, i3, fun u w u1 u2 w1 w2 => i6 u w u1 (by omega) w1 w2, fun _ => ⟨?_, ?_⟩⟩ (by omega)
        · rw [show k + 1 - 1 = k by omega, i4 k (Nat.le_refl k) (by omega), mn_d]
        · rw [show k + 1 - 1 = k by omega]
          exact i4 m (by omega) (Nat.le_refl m)
  · rw [if_neg (by omega)]
    have hkm : k = m := by omega
    subst hkm
    exact wp_some (hQ _ _ ⟨k3, Or.inr ⟨rfl, k2, k5 hm.1⟩⟩)
end EL
