/-! ROUTE: the least next crossing, the class's side -/
theorem nt_ways_pos {G : Int → Int} {v u : Int} : ∀ k : Nat, 0 < nt_ways G v u k ↔ ∃ j : Nat, j < k ∧ G (4 * v + (j : Int)) = u := by
  intro k
  induction k with
  | zero => exact ⟨fun h => absurd h (by show ¬ (0 : Int) < 0; omega), fun ⟨j, j1, _⟩ => by omega⟩
  | succ k ih =>
    rw [nt_ways_s]
    have b := nt_ways_in G v u k
    by_cases c : G (4 * v + (k : Int)) = u
    · rw [if_pos c]
      exact ⟨fun _ => ⟨k, by omega, c⟩, fun _ => by omega⟩
    · rw [if_neg c, Int.add_zero, ih]
      constructor
      · rintro ⟨j, j1, j2⟩
        exact ⟨j, by omega, j2⟩
      · rintro ⟨j, j1, j2⟩
        by_cases e : j = k
        · rw [e] at j2; exact absurd j2 c
        · exact ⟨j, by omega, j2⟩
/-- u is the least goal of v with f = d -/
def ls_ok (D G f : Int → Int) (v d u : Int) : Prop := (f u = d ∧ ∃ k : Int, 0 ≤ k ∧ k < D v ∧ G (4 * v + k) = u) ∧ ∀ k : Int, 0 ≤ k → k < D v → f (G (4 * v + k)) = d → u ≤ G (4 * v + k)
theorem cs_least {C : tp_M} {n : Int} {D G f : Int → Int} {v d : Int} (hN : nC C n D G) (hv : 1 ≤ v ∧ v < n) (hf : C 61 = f) (hd : -1 ≤ d ∧ d ≤ 8) (hf8 : ∀ u : Int, 0 ≤ u → u < n → -1 ≤ f u ∧ f u < 8) (hex : ∃ k : Int, 0 ≤ k ∧ k < D v ∧ f (G (4 * v + k)) = d) : wp (fx_X10_leastNext v d C) (fun r C1 => C1 = C ∧ ls_ok D G f v d r) := by
  have n8 := cn_n hN
  have d4 := cn_D hN hv
  refine wp_K (fun Q hQ => ?_)
  unfold fx_X10_leastNext
  refine wp_lt ?_
  refine wp_lp1 (fun z C1 => C1 = C ∧ (0 ≤ z ∧ z ≤ n) ∧ ∀ u : Int, 0 ≤ u → u < z → ¬ (f u = d ∧ ∃ k : Int, 0 ≤ k ∧ k < D v ∧ G (4 * v + k) = u)) (fun z _ => (8 - z).toNat) ?_ tp_F 0 C ⟨rfl, by omega, fun u u1 u2 => by omega⟩ (tp_F_pos (by omega))
  intro rec z C1 hI hrec
  obtain ⟨hC1, i1, i2⟩ := hI
  subst C1
  unfold fx_X10_leastNext_L2
  rw [cn_crossings hN, tp_bd_s, w32_id (show -2147483648 ≤ z ∧ z < 2147483648 by omega), w32_id (show -2147483648 ≤ n ∧ n < 2147483648 by omega)]
  by_cases hz : z < n
  · rw [if_pos hz]
    have hfz := hf8 z i1.1 hz
    have nx : ¬ (f z = d ∧ ∃ k : Int, 0 ≤ k ∧ k < D v ∧ G (4 * v + k) = z) → wp (tp_lt (z + 1) (fun x7 => rec x7 C)) Q := fun hno => by
      refine wp_lt ?_
      refine hrec _ _ ⟨rfl, by omega, fun u u1 u2 => ?_⟩ (by omega)
      by_cases e : u = z
      · rw [e]; exact hno
      · exact i2 u u1 (by omega)
    refine wp_ck (by omega) ?_
    refine wp_jn0 ?_
    rw [hf, w32_id (show -2147483648 ≤ f z ∧ f z < 2147483648 by omega), w32_id (show -2147483648 ≤ d ∧ d < 2147483648 by omega)]
    by_cases e : f z = d
    · rw [if_pos e, cn_waysTo hN hv (by unfold pu_in; omega), tp_bd_s]
      have hw := nt_ways_in G v z (D v).toNat
      have hp := nt_ways_pos (G := G) (v := v) (u := z) (D v).toNat
      rw [w32_id (show -2147483648 ≤ nt_ways G v z (D v).toNat ∧ nt_ways G v z (D v).toNat < 2147483648 by omega)]
      by_cases w : nt_ways G v z (D v).toNat ≤ 0
      · rw [if_pos w]
        refine nx (fun c => ?_)
        obtain ⟨-, k, k1, k2, k3⟩ := c
        have := hp.mpr ⟨k.toNat, by omega, by rw [show ((k.toNat : Nat) : Int) = k by omega]; exact k3⟩
        omega
      · rw [if_neg w]
        obtain ⟨j, j1, j2⟩ := hp.mp (by omega)
        refine wp_some (hQ _ _ ⟨rfl, ⟨e, (j : Int), by omega, by omega, j2⟩, fun k k1 k2 k3 => ?_⟩)
        refine Classical.byContradiction (fun c => ?_)
        have hg := cn_G hN hv ⟨k1, k2⟩
        exact i2 _ hg.1 (by omega) ⟨k3, k, k1, k2, rfl⟩
    · rw [if_neg e]
      exact nx (fun c => e c.1)
  · rw [if_neg hz]
    obtain ⟨k, k1, k2, k3⟩ := hex
    have hg := cn_G hN hv ⟨k1, k2⟩
    exact absurd ⟨k3, k, k1, k2, rfl⟩ (i2 _ hg.1 (by omega))
