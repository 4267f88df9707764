/-! LATER: the loop of steps on both sides -/
theorem w2_step {k1 kr : Nat} (hk : k1 = 25 ∨ k1 = 28 ∨ k1 = 31) (hkr : kr = 4 ∨ kr = 5) {C M : tp_M} {B v : Int} (hN : sm_net (C 5 4) (C 5 5) (C 6) (C 7) (C 8) (C 9) (M 0 3) (M 2) (M 3)) (hR : sm_rule (C 15 4) (C 16) (M 0 18) (M 9)) (h : sm_row (C (k1 + 1)) (C (k1 + 2)) (C k1 2) (C k1 3) (M kr) (M 0 3) (M 2) B) (hv : 1 ≤ v ∧ v < M 0 3) :
    wp2 (fx_X10_stride k1 15 v C) (fx_X11_stepOf kr 17 v M) (fun r1 C1 r2 M1 => r1 = r2 ∧ (0 ≤ r2 ∧ r2 < M 0 3) ∧ tp_fr [18, k1, k1 + 1] C C1 ∧ tp_fr [11, 12, kr] M M1 ∧ sm_row (C1 (k1 + 1)) (C1 (k1 + 2)) (C1 k1 2) (C1 k1 3) (M1 kr) (M 0 3) (M 2) B) := by
  obtain ⟨r1, r2, f1, f2, h1⟩ := sm_step hk hkr hN hR h hv
  exact ⟨r1, r2, f1, f2, h1⟩
/-- what a walk thought of may change: the class's trial row and stack; the reference's other row, stack, letters, fields F -/
def wk_C (C0 C : tp_M) : Prop := tp_fr [18, 28, 29, 30, 59] C0 C
def wk_M (F : List Int) (M0 M : tp_M) : Prop := tp_fr [0, 5, 11, 12, 19] M0 M ∧ ∀ j : Int, j ∉ F → M 0 j = M0 0 j
theorem wk_net {C0 M0 C M : tp_M} {F : List Int} (hC : wk_C C0 C) (hM : wk_M F M0 M) (h3 : (3 : Int) ∉ F) (h : sm_net (C0 5 4) (C0 5 5) (C0 6) (C0 7) (C0 8) (C0 9) (M0 0 3) (M0 2) (M0 3)) : sm_net (C 5 4) (C 5 5) (C 6) (C 7) (C 8) (C 9) (M 0 3) (M 2) (M 3) := by
  rw [hC 5 (by decide), hC 6 (by decide), hC 7 (by decide), hC 8 (by decide), hC 9 (by decide), hM.2 3 h3, hM.1 2 (by decide), hM.1 3 (by decide)]
  exact h
theorem wk_rule {C0 M0 C M : tp_M} {F : List Int} (hC : wk_C C0 C) (hM : wk_M F M0 M) (h18 : (18 : Int) ∉ F) (h : sm_rule (C0 15 4) (C0 16) (M0 0 18) (M0 9)) : sm_rule (C 15 4) (C 16) (M 0 18) (M 9) := by
  rw [hC 15 (by decide), hC 16 (by decide), hM.2 18 h18, hM.1 9 (by decide)]
  exact h
/-- a step of the walk thought of -/
theorem w2_walk {C0 M0 C M : tp_M} {F : List Int} {B v : Int} (h3 : (3 : Int) ∉ F) (h18 : (18 : Int) ∉ F) (hC : wk_C C0 C) (hM : wk_M F M0 M) (hN : sm_net (C0 5 4) (C0 5 5) (C0 6) (C0 7) (C0 8) (C0 9) (M0 0 3) (M0 2) (M0 3)) (hR : sm_rule (C0 15 4) (C0 16) (M0 0 18) (M0 9)) (h : sm_row (C 29) (C 30) (C 28 2) (C 28 3) (M 5) (M0 0 3) (M0 2) B) (hv : 1 ≤ v ∧ v < M0 0 3) :
    wp2 (fx_X10_stride 28 15 v C) (fx_X11_stepOf 5 17 v M) (fun r1 C1 r2 M1 => r1 = r2 ∧ (0 ≤ r2 ∧ r2 < M0 0 3) ∧ wk_C C0 C1 ∧ wk_M F M0 M1 ∧ C1 59 = C 59 ∧ M1 19 = M 19 ∧ M1 0 = M 0 ∧ sm_row (C1 29) (C1 30) (C1 28 2) (C1 28 3) (M1 5) (M0 0 3) (M0 2) B) := by
  have e3 := hM.2 3 h3
  have e2 := hM.1 2 (by decide)
  refine wp2_mono (w2_step (k1 := 28) (kr := 5) (Or.inr (Or.inl rfl)) (Or.inr rfl) (B := B) (wk_net hC hM h3 hN) (wk_rule hC hM h18 hR) (by rw [e3, e2]; exact h) (by rw [e3]; exact hv)) (fun r1 C1 r2 M1 q => ?_)
  obtain ⟨q1, q2, q3, q4, q5⟩ := q
  rw [e3] at q2
  rw [e3, e2] at q5
  have e0 : M1 0 = M 0 := q4 0 (by decide)
  exact ⟨q1, q2, fr_tr hC (fr_mono q3 (by decide)), ⟨fr_tr hM.1 (fr_mono q4 (by decide)), fun j hj => by rw [e0]; exact hM.2 j hj⟩, q3 59 (by decide), q4 19 (by decide), e0, q5⟩
