/-! THE STEPS of the text: sign, end -/
theorem st_0 {B : Int} {C M : tp_M} {a1 : Int} (ha : pu_in a1) (h : Sim B C M) : ∃ r1 r2 : Int × tp_M, fx_X10_sign a1 C = some r1 ∧ fx_X11_sign a1 M = some r2 ∧ w32 r1.1 = w32 r2.1 ∧ Sim B r1.2 r2.2 := by
  obtain ⟨e1, e2, e3⟩ := h.1
  obtain ⟨r1, f1, p1⟩ := wp_get (pc_sign a1 C e1 e2)
  obtain ⟨r2, f2, p2, p3, p4, p5⟩ := wp_get (pm_sign a1 M rfl e2 ha)
  refine ⟨r1, r2, f1, f2, ?_⟩
  by_cases h76 : M 0 9 ≤ 76
  · rw [if_pos h76] at p1 p5
    obtain ⟨q1, q2, q3, q4⟩ := p1
    obtain ⟨s1, s2, s3⟩ := p5
    refine ⟨by rw [q1, s1], Sim_txt h (Int.le_refl B) q4 p4 (by decide) (by decide) (fun j hj => p3 j ?_ ?_) ⟨by rw [q2, s2], by omega, fun j j1 j2 => ?_⟩⟩
    · intro e; subst e; revert hj; decide
    · intro e; subst e; revert hj; decide
    · rw [q3, s3]
      rw [s2] at j2
      have hp : sg_put (C 2) (M 0 9) a1 j = sg_put (M 6) (M 0 9) a1 j ∧ 0 ≤ sg_put (M 6) (M 0 9) a1 j ∧ sg_put (M 6) (M 0 9) a1 j ≤ 255 := by
        have g (x : Int) : 0 ≤ x % 256 ∧ x % 256 ≤ 255 := by omega
        unfold sg_put
        by_cases c0 : j = M 0 9
        · rw [if_pos c0, if_pos c0]; exact ⟨rfl, g _⟩
        · rw [if_neg c0, if_neg c0]
          by_cases c1 : j = M 0 9 + 1
          · rw [if_pos c1, if_pos c1]; exact ⟨rfl, g _⟩
          · rw [if_neg c1, if_neg c1]
            by_cases c2 : j = M 0 9 + 2
            · rw [if_pos c2, if_pos c2]; exact ⟨rfl, g _⟩
            · rw [if_neg c2, if_neg c2]
              by_cases c3 : j = M 0 9 + 3
              · rw [if_pos c3, if_pos c3]; exact ⟨rfl, g _⟩
              · rw [if_neg c3, if_neg c3]
                exact e3 j j1 (by omega)
      exact hp
  · rw [if_neg h76] at p1 p5
    obtain ⟨q1, q2⟩ := p1
    obtain ⟨s1, s2, s3⟩ := p5
    refine ⟨by rw [q1, s1], ?_⟩
    rw [q2]
    refine Sim_txt h (Int.le_refl B) (fr_rf (S := [])) p4 (by decide) (by decide) (fun j hj => p3 j ?_ ?_) ⟨by rw [s2]; exact e1, by omega, fun j j1 j2 => by rw [s3]; exact e3 j j1 (by omega)⟩
    · intro e; subst e; revert hj; decide
    · intro e; subst e; revert hj; decide
theorem st_1 {B : Int} {C M : tp_M} {a1 : Int} (ha : pu_in a1) (h : Sim B C M) : ∃ r1 r2 : Int × tp_M, fx_X10_end a1 C = some r1 ∧ fx_X11_end a1 M = some r2 ∧ w32 r1.1 = w32 r2.1 ∧ Sim B r1.2 r2.2 := by
  obtain ⟨e1, e2, e3⟩ := h.1
  obtain ⟨r1, f1, q4, p1⟩ := wp_get (pc_end a1 C e1 e2 ha)
  obtain ⟨r2, f2, p2, p3, p4, p5⟩ := wp_get (pm_end a1 M rfl e2 ha)
  have k2 : r1.2 2 = C 2 := q4 2 (by decide)
  have k6 : r2.2 6 = M 6 := p4 6 (by decide)
  refine ⟨r1, r2, f1, f2, ?_⟩
  by_cases hc : 0 ≤ a1 ∧ a1 ≤ M 0 9
  · rw [if_pos hc] at p1 p5
    refine ⟨by rw [p1.1, p5.1], Sim_txt h (Int.le_refl B) q4 p4 (by decide) (by decide) (fun j hj => p3 j ?_ ?_) ⟨by rw [p1.2, p5.2], by omega, fun j j1 j2 => by rw [k2, k6]; exact e3 j j1 (by omega)⟩⟩
    · intro e; subst e; revert hj; decide
    · intro e; subst e; revert hj; decide
  · rw [if_neg hc] at p1 p5
    refine ⟨by rw [p1.1, p5.1], Sim_txt h (Int.le_refl B) q4 p4 (by decide) (by decide) (fun j hj => p3 j ?_ ?_) ⟨by rw [p1.2, p5.2], by omega, fun j j1 j2 => by rw [k2, k6]; exact e3 j j1 (by omega)⟩⟩
    · intro e; subst e; revert hj; decide
    · intro e; subst e; revert hj; decide
