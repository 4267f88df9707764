/-! ROUTE: the least next crossing, the reference's side -/
theorem ps_least {o1 : tp_O} {Q : Int → tp_M → Int → tp_M → Prop} {M : tp_M} {c1 c2 v d : Int} {f : Int → Int} {K : Int → tp_M → tp_O} (hn : nt_net (M 0 3) (M 2) (M 3)) (hv : 1 ≤ v ∧ v < M 0 3) (hf : M 13 = f) (hf8 : ∀ u : Int, 0 ≤ u → u < M 0 3 → 0 ≤ f u ∧ f u ≤ 1000000) (hd : f v = d + 1) (hex : ∃ k : Int, 0 ≤ k ∧ k < M 2 v ∧ f (M 3 (4 * v + k)) = d)
    (hK : ∀ y : Int, ls_ok (M 2) (M 3) f v d y → wp2 o1 (K y M) Q) : wp2 o1 (tp_lp2 (fx_X11_route_L63 c1 c2 v K) tp_F 1000000 0 M) Q := by
  have n8 := hn.1
  have hdv := hn.2 v hv.1 hv.2
  have d4 := hdv.1
  generalize hn3 : M 0 3 = n at *
  generalize hD : M 2 = D at *
  generalize hG : M 3 = G at *
  have hfv := hf8 v (by omega) hv.2
  refine wp2_R2 (fun y z M1 => M1 = M ∧ (0 ≤ z ∧ z ≤ D v) ∧ (∀ k : Int, 0 ≤ k → k < z → f (G (4 * v + k)) = d → y ≤ G (4 * v + k)) ∧ ((y = 1000000 ∧ ∀ k : Int, 0 ≤ k → k < z → ¬ f (G (4 * v + k)) = d) ∨ ((0 ≤ y ∧ y < n) ∧ f y = d ∧ ∃ k : Int, 0 ≤ k ∧ k < z ∧ G (4 * v + k) = y))) (fun _ z _ => (4 - z).toNat) ?_ tp_F 1000000 0 M ⟨rfl, by omega, fun k k1 k2 => by omega, Or.inl ⟨rfl, fun k k1 k2 => by omega⟩⟩ (tp_F_pos (by omega))
  intro rec y z M1 hI hrec
  obtain ⟨hM1, i1, i2, i3⟩ := hI
  subst M1
  unfold fx_X11_route_L63
  rw [w32_id (show -2147483648 ≤ v ∧ v < 2147483648 by omega)]
  refine wp2_ck2 (by omega) ?_
  rw [hD, w32_id (show -2147483648 ≤ z ∧ z < 2147483648 by omega), w32_id (show -2147483648 ≤ D v ∧ D v < 2147483648 by omega)]
  by_cases hz : z < D v
  · rw [if_pos hz]
    have hg := hdv.2 z i1.1 hz
    have hfg := hf8 _ hg.1 hg.2.1
    rw [pm_goalOf (M := M) (a := v) (k := z) (by omega), tp_bd_s, hG, tp_lt_s, hf, hd, w32_id (show -2147483648 ≤ G (4 * v + z) ∧ G (4 * v + z) < 2147483648 by omega)]
    refine wp2_ck2 (by omega) ?_
    refine wp2_ck2 (by omega) ?_
    rw [tp_jn1_n, show d + 1 - 1 = d by omega, w32_id (show -2147483648 ≤ f (G (4 * v + z)) ∧ f (G (4 * v + z)) < 2147483648 by omega), w32_id (show -2147483648 ≤ d ∧ d < 2147483648 by omega)]
    have hy : 0 ≤ y ∧ y ≤ 1000000 := by
      rcases i3 with i3 | i3 <;> omega
    by_cases e : f (G (4 * v + z)) = d
    · rw [if_pos e, w32_id (show -2147483648 ≤ y ∧ y < 2147483648 by omega)]
      refine wp2_lt2 ?_
      refine wp2_lt2 ?_
      refine hrec _ _ _ ⟨rfl, by omega, fun k k1 k2 k3 => ?_, ?_⟩ (by omega)
      · by_cases ek : k = z
        · rw [ek]; omega
        · have := i2 k k1 (by omega) k3
          omega
      · right
        by_cases c : y ≤ G (4 * v + z)
        · rw [show min y (G (4 * v + z)) = y by omega]
          rcases i3 with ⟨i3, -⟩ | ⟨i3, i4, k, k1, k2, k3⟩
          · omega
          · exact ⟨i3, i4, k, k1, by omega, k3⟩
        · rw [show min y (G (4 * v + z)) = G (4 * v + z) by omega]
          exact ⟨⟨hg.1, hg.2.1⟩, e, z, i1.1, by omega, rfl⟩
    · rw [if_neg e]
      refine wp2_lt2 ?_
      refine wp2_lt2 ?_
      refine hrec _ _ _ ⟨rfl, by omega, fun k k1 k2 k3 => ?_, ?_⟩ (by omega)
      · by_cases ek : k = z
        · rw [ek] at k3; exact absurd k3 e
        · exact i2 k k1 (by omega) k3
      · rcases i3 with ⟨i3, i4⟩ | ⟨i3, i4, k, k1, k2, k3⟩
        · refine Or.inl ⟨i3, fun k k1 k2 => ?_⟩
          by_cases ek : k = z
          · rw [ek]; exact e
          · exact i4 k k1 (by omega)
        · exact Or.inr ⟨i3, i4, k, k1, by omega, k3⟩
  · rw [if_neg hz]
    have ez : z = D v := by omega
    subst ez
    rcases i3 with ⟨i3, i4⟩ | ⟨i3, i4, k, k1, k2, k3⟩
    · obtain ⟨k, k1, k2, k3⟩ := hex
      exact absurd k3 (i4 k k1 k2)
    · exact hK y ⟨⟨i4, k, k1, k2, k3⟩, i2⟩
