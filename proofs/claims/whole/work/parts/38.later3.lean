/-! LATER, the step -/
theorem wp2_b2 {o1 o2 : tp_O} {k : Int → tp_M → tp_O} {Q : Int → tp_M → Int → tp_M → Prop} (h : wp2 o1 o2 (fun r1 M1 r2 M2 => wp2 (some (r1, M1)) (k r2 M2) Q)) : wp2 o1 (tp_bd o2 k) Q := by
  obtain ⟨q1, q2, rfl, rfl, h⟩ := h
  exact h
theorem pc_tell2 {M : tp_M} {a b : Int} : fx_X8_tell__ a b M = some (0, tp_up (tp_up (tp_up (tp_up (tp_up M 3 1 0) 4 0 a) 3 1 1) 4 1 b) 3 1 2) := by
  unfold fx_X8_tell__ fx_X8_tell_
  rw [pc_tell, tp_bd_s, pc_add (t := 0) (up_s _ _ _ _) (by decide), tp_bd_s, tp_bd_s, pc_add (t := 0 + 1) (up_s _ _ _ _) (by decide), tp_bd_s]
  rfl
theorem st_later {B : Int} {C M : tp_M} {a1 a2 : Int} (h1 : pu_in a1) (h2 : pu_in a2) (h : Sim B C M) : wp2 (fx_X10_later a1 a2 C) (fx_X11_later a1 a2 M) (fun r1 C1 r2 M1 => w32 r1 = w32 r2 ∧ Sim B C1 M1) := by
  have hN := h.2.2.1
  have hR := h.2.2.2.2.1
  have hW := h.2.2.2.1
  have n8 := hN.2.1.1
  have hsame : Sim B C (tp_up M 0 0 0) := Sim_same h (Int.le_refl B) (SC := []) (SM := [0]) fr_rf (fr_up fr_rf (by decide)) (by decide) (by decide) (fun j hj => up_j _ _ _ (f0_ne hj (by decide)))
  unfold fx_X10_later fx_X11_later
  refine wp2_lm2 ?_
  rw [pc_hasPost hN.1 (by omega) h1, tp_bd_s, pm_isOut (M := tp_up M 0 0 0) (n := M 0 3) rfl (by omega) h1, tp_bd_s]
  by_cases c1 : 1 ≤ a1 ∧ a1 < M 0 3
  · rw [if_pos c1, if_pos (show 1 ≤ a1 ∧ a1 ≤ M 0 3 - 1 by omega)]
    refine wp2_f1 (by decide) ?_
    refine wp2_f2 (by decide) ?_
    rw [w32_id h2, pm_in h2 (by unfold pu_in; omega) (by unfold pu_in; omega), tp_bd_s]
    by_cases c2 : 0 ≤ a2 ∧ a2 ≤ 99
    · rw [if_pos c2]
      refine wp2_f1 (by omega) ?_
      refine wp2_t1 c2.2 ?_
      refine wp2_f2 (by decide) ?_
      refine wp2_c1 (cy_C C) (fun _ C1 p => ?_)
      obtain ⟨p1, -, p3, p4, p5⟩ := p
      refine wp2_lt1 ?_
      refine wp2_lt1 ?_
      refine wp2_lt1 ?_
      refine wp2_b2 ?_
      unfold fx_X11_placeAfter
      refine wp2_c2 (pm_copies (k1 := 5) (k2 := 4) (tp_up M 0 0 0) (by decide)) (fun _ M2 p => ?_)
      obtain ⟨m1, m2⟩ := p
      refine wp2_lt2 ?_
      refine wp2_lm2 ?_
      refine wp2_lm2 ?_
      have e20 : M2 0 = tp_up M 0 0 0 0 := m1 0 (by decide)
      refine w2_later (C0 := C) (M0 := tp_up M 0 0 0) (B := B) hN hR c1 c2 p1 ⟨fr_up (fr_up (fr_mono m1 (by decide)) (by decide)) (by decide), fun j hj => ?_⟩ ?_ (up_s _ _ _ _) ?_ (fun z g b C3 M3 z1 g1 b1 w1 w2 e1 e2 => ?_)
      · rw [up_j _ _ _ (f0_ne' hj (by decide)), up_j _ _ _ (f0_ne' hj (by decide)), e20]
      · rw [up_j _ _ _ (by decide), up_s]
      · refine cy_row (C := C) (M := tp_up M 0 0 0) (by show M 0 3 ≤ 8; omega) hW p3 p4 p5 (fun j => ?_)
        rw [up_k _ _ _ (by decide), up_k _ _ _ (by decide)]
        exact m2 j
      · show wp2 (tp_bd (fx_X8_tell__ (w32 g) (w32 b) C3) (fun r21 M22 => some (z, M22))) (some (z, M3)) _
        rw [pc_tell2, tp_bd_s, w32_id (show -2147483648 ≤ g ∧ g < 2147483648 by omega), w32_id (show -2147483648 ≤ b ∧ b < 2147483648 by omega)]
        refine wp2_some ?_
        refine wp2_lt2 ?_
        refine wp2_lm2 ?_
        rw [up_j _ _ _ (show ¬ (32 : Int) = 1 by decide), e1, w32_id (show -2147483648 ≤ g ∧ g < 2147483648 by omega), pm_enters (t := 0) (up_s _ _ _ _) (by decide), tp_bd_s]
        rw [up_j _ _ _ (show ¬ (33 : Int) = 1 by decide), up_k _ _ _ (show ¬ (0 : Nat) = 1 by decide), up_j _ _ _ (show ¬ (33 : Int) = 1 by decide), e2, w32_id (show -2147483648 ≤ b ∧ b < 2147483648 by omega), pm_enters (t := 0 + 1) (up_s _ _ _ _) (by decide), tp_bd_s]
        refine wp2_some ⟨rfl, ?_⟩
        refine Sim_told (SC := [18, 28, 29, 30, 59, 3, 4]) (SM := [0, 5, 11, 12, 19, 1]) hsame (Int.le_refl B) (fr_up (fr_up (fr_up (fr_up (fr_up (fr_mono w1 (by decide)) (by decide)) (by decide)) (by decide)) (by decide)) (by decide)) (fr_up (fr_up (fr_up (fr_up (fr_up (fr_mono w2.1 (by decide)) (by decide)) (by decide)) (by decide)) (by decide)) (by decide)) (by decide) (by decide) (fun j hj => ?_) ⟨?_, ?_, fun j j1 j2 => ?_⟩
        · simp only [up_j _ _ _ (f0_ne hj (show (1 : Int) ∉ _ by decide)), up_k _ _ _ (show ¬ (0 : Nat) = 1 by decide)]
          refine w2.2 j ?_
          intro q
          simp only [List.mem_cons, List.not_mem_nil, or_false] at hj q
          omega
        · rw [up_s, up_s]; rfl
        · rw [up_s]; decide
        · rw [up_s] at j2
          have hj : j = 0 ∨ j = 1 := by omega
          rcases hj with rfl | rfl <;> rfl
    · rw [if_neg c2]
      refine wp2_t2 (by decide) ?_
      by_cases c3 : a2 < 0
      · refine wp2_t1 c3 ?_
        exact wp2_some ⟨rfl, hsame⟩
      · refine wp2_f1 c3 ?_
        refine wp2_f1 (by omega) ?_
        exact wp2_some ⟨rfl, hsame⟩
  · rw [if_neg c1, if_neg (show ¬ (1 ≤ a1 ∧ a1 ≤ M 0 3 - 1) by omega)]
    refine wp2_t1 (by decide) ?_
    refine wp2_t2 (by decide) ?_
    exact wp2_some ⟨rfl, hsame⟩
