/-! LATER, goes on -/
theorem f0_ne' {j : Int} {l : List Int} (hj : j ∉ l) {a : Int} (h : a ∈ l) : ¬ j = a := fun e => hj (e ▸ h)
theorem w2_later {C0 M0 C M : tp_M} {B a1 a2 : Int} {K : Int → Int → Int → tp_M → tp_O} {Q : Int → tp_M → Int → tp_M → Prop} (hN : sm_net (C0 5 4) (C0 5 5) (C0 6) (C0 7) (C0 8) (C0 9) (M0 0 3) (M0 2) (M0 3)) (hR : sm_rule (C0 15 4) (C0 16) (M0 0 18) (M0 9)) (ha : 1 ≤ a1 ∧ a1 < M0 0 3) (hb : 0 ≤ a2 ∧ a2 ≤ 99) (hC : wk_C C0 C) (hM : wk_M [0, 32, 33] M0 M) (h32 : M 0 32 = 0) (h33 : M 0 33 = 1) (h : sm_row (C 29) (C 30) (C 28 2) (C 28 3) (M 5) (M0 0 3) (M0 2) B)
    (hK : ∀ (z g b : Int) (C1 M1 : tp_M), 0 ≤ z ∧ z < M0 0 3 → 0 ≤ g ∧ g ≤ 99 → 1 ≤ b ∧ b ≤ 100 → wk_C C0 C1 → wk_M [0, 32, 33] M0 M1 → M1 0 32 = g → M1 0 33 = b → wp2 (K z g b C1) (some (z, M1)) Q) : wp2 (tp_lp3 (fx_X10_later_L42 a1 a2 K) tp_F a1 0 1 C) (tp_lp1 (fx_X11_placeAfter_L23 a1 a2) tp_F a1 M) Q := by
  have n8 := hN.2.1.1
  refine wp2_lp31 (fun z8 z9 z10 C1 z6 M1 => z8 = z6 ∧ (0 ≤ z6 ∧ z6 < M0 0 3) ∧ (0 ≤ z9 ∧ z9 ≤ a2) ∧ (1 ≤ z10 ∧ z10 ≤ z9 + 1) ∧ M1 0 32 = z9 ∧ M1 0 33 = z10 ∧ wk_C C0 C1 ∧ wk_M [0, 32, 33] M0 M1 ∧ sm_row (C1 29) (C1 30) (C1 28 2) (C1 28 3) (M1 5) (M0 0 3) (M0 2) B) (fun _ z9 _ _ _ _ => (a2 - z9).toNat) ?_ tp_F tp_F a1 0 1 C a1 M ⟨rfl, by omega, by omega, by omega, h32, h33, hC, hM, h⟩ (tp_F_pos (by omega)) (tp_F_pos (by omega))
  intro rec1 rec2 z8 z9 z10 C1 z6 M1 hI hrec
  obtain ⟨rfl, i1, i2, i3, i4, i5, i6, i7, i8⟩ := hI
  unfold fx_X10_later_L42 fx_X11_placeAfter_L23
  rw [i4, w32_id (show -2147483648 ≤ z9 ∧ z9 < 2147483648 by omega), w32_id (show -2147483648 ≤ z8 ∧ z8 < 2147483648 by omega), w32_id (show -2147483648 ≤ a2 ∧ a2 < 2147483648 by omega)]
  by_cases h0 : z8 = 0
  · refine wp2_t2 (by omega) ?_
    by_cases h9 : z9 < a2
    · refine wp2_t1 h9 ?_
      refine wp2_t1 h0 ?_
      exact hK _ _ _ _ _ i1 (by omega) (by omega) i6 i7 i4 i5
    · refine wp2_f1 h9 ?_
      exact hK _ _ _ _ _ i1 (by omega) (by omega) i6 i7 i4 i5
  · refine wp2_f2 (by omega) ?_
    by_cases h9 : z9 < a2
    · refine wp2_t1 h9 ?_
      refine wp2_f1 h0 ?_
      refine wp2_t2 h9 ?_
      refine wp2_call (w2_walk (F := [0, 32, 33]) (B := B) (by decide) (by decide) i6 i7 hN hR i8 (by omega)) (fun r1 C2 r2 M2 q => ?_)
      obtain ⟨rfl, q2, q3, q4, -, -, q5, q6⟩ := q
      refine wp2_lt1 ?_
      refine wp2_lt1 ?_
      refine wp2_lt2 ?_
      refine wp2_lm2 ?_
      refine wp2_jn12 ?_
      have g1 : fx_X11_flag 1 (tp_up M2 0 32 (M2 0 32 + 1)) = some (1, tp_up M2 0 32 (M2 0 32 + 1)) := rfl
      have g0 : fx_X11_flag 0 (tp_up M2 0 32 (M2 0 32 + 1)) = some (0, tp_up M2 0 32 (M2 0 32 + 1)) := rfl
      have e32 : M2 0 32 = z9 := by rw [q5]; exact i4
      have e33 : M2 0 33 = z10 := by rw [q5]; exact i5
      have nx : ∀ b : Int, 1 ≤ b → b ≤ z9 + 1 + 1 → wp2 (rec1 r1 (z9 + 1) b C2) (rec2 r1 (tp_up (tp_up M2 0 32 (M2 0 32 + 1)) 0 33 b)) Q := fun b b1 b2 => by
        refine hrec _ _ _ _ _ _ ⟨rfl, q2, by omega, ⟨b1, by omega⟩, ?_, up_s _ _ _ _, q3, ⟨fr_up (fr_up q4.1 (by decide)) (by decide), fun j hj => ?_⟩, ?_⟩ (by omega)
        · rw [up_j _ _ _ (by decide), up_s, e32]
        · rw [up_j _ _ _ (f0_ne' hj (by decide)), up_j _ _ _ (f0_ne' hj (by decide))]
          exact q4.2 j hj
        · rw [up_k _ _ _ (by decide), up_k _ _ _ (by decide)]
          exact q6
      rw [w32_id (show -2147483648 ≤ r1 ∧ r1 < 2147483648 by omega), w32_id (show -2147483648 ≤ a1 ∧ a1 < 2147483648 by omega)]
      by_cases hr : r1 = a1
      · refine wp2_t1 hr ?_
        refine wp2_t2 hr ?_
        refine wp2_lt1 ?_
        dsimp only
        rw [g1, tp_bd_s, tp_lm_s, up_j _ _ _ (show ¬ (33 : Int) = 32 by decide), e33]
        exact nx _ (by omega) (by omega)
      · refine wp2_f1 hr ?_
        refine wp2_f2 hr ?_
        dsimp only
        rw [g0, tp_bd_s, tp_lm_s, up_j _ _ _ (show ¬ (33 : Int) = 32 by decide), e33, Int.add_zero]
        exact nx _ (by omega) (by omega)
    · refine wp2_f1 h9 ?_
      refine wp2_f2 h9 ?_
      exact hK _ _ _ _ _ i1 (by omega) (by omega) i6 i7 i4 i5
