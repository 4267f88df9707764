/-! NET: the measure of what was read -/
section MS
variable {n : Int} {D G : Int → Int} {g : Int}
theorem cs_measure_d {C : tp_M} (h4 : C 10 4 = n) (hn : nt_net n D G) (hb8 : ∀ v : Int, 1 ≤ v → v < n → nt_bits D G v (C 13 v)) (hg : 0 ≤ g ∧ g < n) : wp (fx_X4_measure 10 g 14 8 C) (fun _ C1 => tp_fr [14] C C1 ∧ ms_ok n D G g (C1 14)) := by
  have n8 := hn.1
  refine wp_K (fun Q hQ => ?_)
  unfold fx_X4_measure
  refine wp_lt ?_
  refine wp_lp1 (fun z C1 => (0 ≤ z ∧ z ≤ 8) ∧ tp_fr [14] C C1 ∧ ∀ u : Int, 0 ≤ u → u < z → C1 14 u = if u = g then 0 else -1) (fun z _ => (8 - z).toNat) ?_ tp_F 0 C ⟨by omega, fr_rf, fun u u1 u2 => by omega⟩ (tp_F_pos (by omega))
  intro rec z C1 hI hrec
  obtain ⟨i1, i2, i3⟩ := hI
  unfold fx_X4_measure_L2
  rw [w32_id (show -2147483648 ≤ z ∧ z < 2147483648 by omega), w32_id (show -2147483648 ≤ g ∧ g < 2147483648 by omega), show w32 ((8 : Nat) : Int) = 8 from rfl]
  by_cases hz : z < 8
  · rw [if_pos hz, if_pos hz]
    refine wp_jn1 ?_
    have nx : ∀ e : Int, e = (if z = g then 0 else -1) → wp (tp_ck z ((8 : Nat) : Int) (tp_lm (tp_up C1 14 z e) (fun M6 => tp_lt (z + 1) (fun x7 => rec x7 M6)))) Q := fun e he => by
      refine wp_ck (by omega) ?_
      refine wp_lm ?_
      refine wp_lt ?_
      refine hrec _ _ ⟨by omega, fr_up i2 (by simp), fun u u1 u2 => ?_⟩ (by omega)
      rw [up_c]
      by_cases eu : u = z
      · rw [if_pos eu, he, eu]
      · rw [if_neg eu]; exact i3 u u1 (by omega)
    by_cases z0 : z = g
    · rw [if_pos z0]; exact nx _ (by rw [if_pos z0])
    · rw [if_neg z0]; exact nx _ (by rw [if_neg z0])
  · rw [if_neg hz]
    refine wp_lt ?_
    refine wp_lt ?_
    have hb1 := bt_one (v := g) (by omega)
    refine wp_lp2 (fun x r C2 => ∃ d : Nat, r = (d : Int) + 1 ∧ (d : Int) + 1 ≤ n ∧ tp_fr [14] C C2 ∧ (0 ≤ x ∧ x < 256) ∧ (∀ j : Nat, j < 8 → (bt x j ↔ (j : Int) < n ∧ nt_in n D G g d (j : Int))) ∧ ∀ v : Int, 0 ≤ v → v < n → ms_at n D G g d (C2 14) v) (fun _ r _ => (9 - r).toNat) ?_ tp_F (x_shl 1 g) 1 C1 ⟨0, rfl, by omega, i2, hb1.1, fun j hj => ?_, fun v v1 v2 => ?_⟩ (tp_F_pos (by omega))
    · intro rec2 x r C2 hI2 hrec2
      obtain ⟨d, rfl, d1, d2, d3, d4, d5⟩ := hI2
      unfold fx_X4_measure_L40
      rw [show C2 10 4 = n by rw [d2 10 (by simp)]; exact h4, w32_id (show -2147483648 ≤ (d : Int) + 1 ∧ (d : Int) + 1 < 2147483648 by omega), w32_id (show -2147483648 ≤ n ∧ n < 2147483648 by omega)]
      by_cases hd : (d : Int) + 1 < n
      · rw [if_pos hd]
        refine wp_lt ?_
        refine wp_lt ?_
        refine wp_lp2 (fun a v C3 => (1 ≤ v ∧ v ≤ n) ∧ tp_fr [14] C C3 ∧ (0 ≤ a ∧ a < 256) ∧ (∀ j : Nat, j < 8 → (bt a j ↔ (j : Int) < n ∧ (nt_in n D G g d (j : Int) ∨ ((1 ≤ (j : Int) ∧ (j : Int) < v) ∧ nt_in n D G g (d + 1) (j : Int))))) ∧ (∀ u : Int, 0 ≤ u → u < v → ms_at n D G g (d + 1) (C3 14) u) ∧ ∀ u : Int, v ≤ u → u < n → ms_at n D G g d (C3 14) u) (fun _ v _ => (8 - v).toNat) ?_ tp_F x 1 C2 ⟨by omega, d2, d3, fun j hj => ?_, fun u u1 u2 => ?_, fun u u1 u2 => d5 u (by omega) u2⟩ (tp_F_pos (by omega))
        · intro rec3 a v C3 hI3 hrec3
          obtain ⟨v1, v2, v3, v4, v5, v6⟩ := hI3
          have fin : v = n → wp (tp_lt a (fun x26 => tp_lt ((d : Int) + 1 + 1) (fun x27 => rec2 x26 x27 C3))) Q := fun ev => by
            refine wp_lt ?_
            refine wp_lt ?_
            refine hrec2 _ _ _ ⟨d + 1, by omega, by omega, v2, v3, fun j hj => ?_, fun u u1 u2 => v5 u u1 (by omega)⟩ (by omega)
            rw [v4 j hj]
            constructor
            · rintro ⟨q1, q2 | q2⟩
              · exact ⟨q1, Or.inl q2⟩
              · exact ⟨q1, q2.2⟩
            · rintro ⟨q1, q2⟩
              refine ⟨q1, ?_⟩
              by_cases j0 : (j : Int) = 0
              · rw [j0] at q2 ⊢
                exact Or.inl (ms_0 q2)
              · exact Or.inr ⟨by omega, q2⟩
          unfold fx_X4_measure_L55
          rw [show C3 10 4 = n by rw [v2 10 (by simp)]; exact h4, w32_id (show -2147483648 ≤ v ∧ v < 2147483648 by omega), w32_id (show -2147483648 ≤ n ∧ n < 2147483648 by omega), show w32 ((8 : Nat) : Int) = 8 from rfl]
          by_cases hv : v < n
          · rw [if_pos hv, if_pos (show v < 8 by omega)]
            refine wp_ck (by omega) ?_
            refine wp_jn1 ?_
            have old : (nt_in n D G g (d + 1) v → nt_in n D G g d v) → ∀ C4 : tp_M, tp_fr [14] C C4 → (∀ u : Int, ¬ u = v → C4 14 u = C3 14 u) → ms_at n D G g (d + 1) (C4 14) v → wp (tp_lt (v + 1) (fun x22 => rec3 a x22 C4)) Q := fun hno C4 f4 e4 h4 => by
              refine wp_lt ?_
              refine hrec3 _ _ _ ⟨by omega, f4, v3, fun j hj => ?_, fun u u1 u2 => ?_, fun u u1 u2 => ?_⟩ (by omega)
              · rw [v4 j hj]
                constructor
                · rintro ⟨q1, q2 | q2⟩
                  · exact ⟨q1, Or.inl q2⟩
                  · exact ⟨q1, Or.inr ⟨by omega, q2.2⟩⟩
                · rintro ⟨q1, q2 | q2⟩
                  · exact ⟨q1, Or.inl q2⟩
                  · by_cases e : (j : Int) = v
                    · have q3 := q2.2
                      rw [e] at q3 ⊢
                      exact ⟨hv, Or.inl (hno q3)⟩
                    · exact ⟨q1, Or.inr ⟨by omega, q2.2⟩⟩
              · by_cases e : u = v
                · rw [e]; exact h4
                · have := v5 u u1 (by omega)
                  unfold ms_at at this ⊢
                  rw [e4 u e]; exact this
              · have := v6 u (by omega) u2
                unfold ms_at at this ⊢
                rw [e4 u (by omega)]; exact this
            have hb := hb8 v v1.1 hv
            rcases v6 v (Int.le_refl v) hv with ⟨e, e1, e2, e3⟩ | ⟨e1, e2⟩
            · rw [e2, w32_id (show -2147483648 ≤ (e : Int) ∧ (e : Int) < 2147483648 by omega), if_neg (show ¬ (e : Int) < 0 by omega)]
              exact old (fun _ => in_mono e3.1 d e1) C3 v2 (fun _ _ => rfl) (Or.inl ⟨e, by omega, e2, e3⟩)
            · have hnew := ms_new hn ⟨v1.1, hv⟩ e2 hb d4
              have h8 : C3 (10 + 3) v = C 13 v := by rw [show C3 (10 + 3) = C3 13 from rfl, v2 13 (by simp)]
              have ha := bt_and hb.1 d3
              rw [e1, show w32 (-1) = -1 from rfl, if_pos (show (-1 : Int) < 0 by decide), h8, w32_id (show -2147483648 ≤ x_and (C 13 v) x ∧ x_and (C 13 v) x < 2147483648 by omega)]
              refine wp_ck (by omega) ?_
              by_cases hz0 : x_and (C 13 v) x = 0
              · rw [if_pos hz0]
                have hno : ¬ nt_in n D G g (d + 1) v := fun c => by
                  obtain ⟨j, j1, j2, j3⟩ := hnew.mp c
                  have := (ha.2 j).mpr ⟨j2, j3⟩
                  rw [hz0] at this
                  exact bt_0 j this
                exact old (fun c => absurd c hno) C3 v2 (fun _ _ => rfl) (Or.inr ⟨e1, hno⟩)
              · rw [if_neg hz0]
                have hyes : nt_in n D G g (d + 1) v := hnew.mpr (by
                  refine Classical.byContradiction (fun c => hz0 ?_)
                  refine bt_ext ha.1 (by omega) (fun j hj => ⟨fun b => absurd ⟨j, hj, (ha.2 j).mp b⟩ c, fun b => absurd b (bt_0 j)⟩))
                have hfar : nt_far n D G g v (d + 1) := ⟨hyes, fun e he c => e2 (in_mono c d (by omega))⟩
                have hor := bt_or v3 (v := v) (by omega)
                refine wp_ck (by omega) ?_
                refine wp_lm ?_
                refine wp_lt ?_
                refine wp_lt ?_
                refine hrec3 _ _ _ ⟨by omega, fr_up v2 (by simp), hor.1, fun j hj => ?_, fun u u1 u2 => ?_, fun u u1 u2 => ?_⟩ (by omega)
                · rw [hor.2 j, v4 j hj]
                  constructor
                  · rintro (⟨q1, q2 | q2⟩ | q)
                    · exact ⟨q1, Or.inl q2⟩
                    · exact ⟨q1, Or.inr ⟨by omega, q2.2⟩⟩
                    · exact ⟨by omega, Or.inr ⟨by omega, by rw [q]; exact hyes⟩⟩
                  · rintro ⟨q1, q2 | q2⟩
                    · exact Or.inl ⟨q1, Or.inl q2⟩
                    · by_cases e : (j : Int) = v
                      · exact Or.inr e
                      · exact Or.inl ⟨q1, Or.inr ⟨by omega, q2.2⟩⟩
                · unfold ms_at
                  rw [up_c]
                  by_cases e : u = v
                  · rw [if_pos e, e]
                    exact Or.inl ⟨d + 1, by omega, by omega, hfar⟩
                  · rw [if_neg e]
                    exact v5 u u1 (by omega)
                · unfold ms_at
                  rw [up_c, if_neg (by omega)]
                  exact v6 u (by omega) u2
          · rw [if_neg hv]
            exact fin (by omega)
        · rw [d4 j hj]
          constructor
          · rintro ⟨q1, q2⟩
            exact ⟨q1, Or.inl q2⟩
          · rintro ⟨q1, q2 | q2⟩
            · exact ⟨q1, q2⟩
            · omega
        · rw [show u = 0 by omega]
          rcases d5 0 (by decide) (by omega) with ⟨e, e1, e2, e3⟩ | ⟨e1, e2⟩
          · exact Or.inl ⟨e, by omega, e2, e3⟩
          · exact Or.inr ⟨e1, fun c => e2 (ms_0 c)⟩
      · rw [if_neg hd]
        refine wp_some (hQ _ _ ⟨d2, fun v v1 v2 => ?_⟩)
        rcases d5 v v1 v2 with ⟨e, e1, e2, e3⟩ | ⟨e1, e2⟩
        · exact Or.inl ⟨e, by omega, e2, e3⟩
        · refine Or.inr ⟨e1, fun k hk => e2 ?_⟩
          obtain ⟨e, e3, e4⟩ := far_8 hn hg ⟨v1, v2⟩ hk
          have := far_lt hn hg ⟨v1, v2⟩ e4
          exact in_mono e4.1 d (by omega)
    · rw [hb1.2 j]
      constructor
      · intro q
        exact ⟨by omega, q⟩
      · rintro ⟨-, q⟩
        exact q
    · rw [ms_at, i3 v v1 (by omega)]
      by_cases e : v = g
      · rw [if_pos e]
        exact Or.inl ⟨0, by omega, rfl, e, fun k hk => by omega⟩
      · rw [if_neg e]
        exact Or.inr ⟨rfl, e⟩
end MS
