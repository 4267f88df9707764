/-! LATER: the loop of steps on both sides -/
theorem w2_step {k1 kr : Nat} (hk : k1 = 25 ∨ k1 = 28 ∨ k1 = 31) (hkr : kr = 4 ∨ kr = 5) {C M : tp_M} {B v : Int} (hN : sm_net (C 5 4) (C 5 5) (C 6) (C 7) (C 8) (C 9) (M 0 3) (M 2) (M 3)) (hR : sm_rule (C 15 4) (C 16) (M 0 18) (M 9)) (h : sm_row (C (k1 + 1)) (C (k1 + 2)) (C k1 2) (C k1 3) (M kr) (M 0 3) (M 2) B) (hv : 1 ≤ v ∧ v < M 0 3) :
    wp2 (fx_X10_stride k1 15 v C) (fx_X11_stepOf kr 17 v M) (fun r1 C1 r2 M1 => r1 = r2 ∧ (0 ≤ r2 ∧ r2 < M 0 3) ∧ tp_fr [18, k1, k1 + 1] C C1 ∧ tp_fr [11, 12, kr] M M1 ∧ sm_row (C1 (k1 + 1)) (C1 (k1 + 2)) (C1 k1 2) (C1 k1 3) (M1 kr) (M 0 3) (M 2) B) := by
  obtain ⟨r1, r2, f1, f2, h1⟩ := sm_step hk hkr hN hR h hv
  exact ⟨r1, r2, f1, f2, h1⟩
/-- what a walk thought of may change: the class's trial row and stack; the reference's other row, stack, letters, fields F -/
def wk_C (C0 C : tp_M) : Prop := tp_fr [18, 28, 29, 30, 59] C0 C
def wk_M (F : List Int) (M0 M : tp_M) : Prop := tp_fr [0, 5, 11, 12, 19] M0 M ∧ ∀ j : Int, j ∉ F → M 0 j = M0 0 j
theorem wk_net {C0 M0 C M : tp_M} {F : List Int} (hC : wk_C C0 C) (hM : wk_M F M0 M) (h3 : (3 : Int) ∉ F) (h : sm_net (C0 5 4) (C0 5 5) (C0 6) (C0 7) (C0 8) (C0 9) (M0 0 3) (M0 2) (M0 3)) : sm_net (C 5 4) (C 5 5) (C 6) (C 7) (C 8) (C 9) (M 0 3) (M 2) (M 3) := by
  rw [hC 5 (by decide), hC 6 (by decide), hC 7 (by decide), hC 8 (by decide), hC 9 (by decide), hM.2 3 h3, hM.1 2 (by decide), hM.1 3 (by decide)]
  exact h
theorem wk_rule {C0 M0 C M : tp_M} {F : List Int} (hC : wk_C C0 C) (hM : wk_M F M0 M) (h18 : (18 : Int) ∉ F) (h : sm_rule (C0 15 4) (C0 16) (M0 0 18) (M0 9)) : sm_rule (C 15 4) (C 16) (M 0 18) (M 9) := by
  rw [hC 15 (by decide), hC 16 (by decide), hM.2 18 h18, hM.1 9 (by decide)]
  exact h
/-- a step of the walk thought of -/
theorem w2_walk {C0 M0 C M : tp_M} {F : List Int} {B v : Int} (h3 : (3 : Int) ∉ F) (h18 : (18 : Int) ∉ F) (hC : wk_C C0 C) (hM : wk_M F M0 M) (hN : sm_net (C0 5 4) (C0 5 5) (C0 6) (C0 7) (C0 8) (C0 9) (M0 0 3) (M0 2) (M0 3)) (hR : sm_rule (C0 15 4) (C0 16) (M0 0 18) (M0 9)) (h : sm_row (C 29) (C 30) (C 28 2) (C 28 3) (M 5) (M0 0 3) (M0 2) B) (hv : 1 ≤ v ∧ v < M0 0 3) :
    wp2 (fx_X10_stride 28 15 v C) (fx_X11_stepOf 5 17 v M) (fun r1 C1 r2 M1 => r1 = r2 ∧ (0 ≤ r2 ∧ r2 < M0 0 3) ∧ wk_C C0 C1 ∧ wk_M F M0 M1 ∧ C1 59 = C 59 ∧ M1 19 = M 19 ∧ M1 0 = M 0 ∧ sm_row (C1 29) (C1 30) (C1 28 2) (C1 28 3) (M1 5) (M0 0 3) (M0 2) B) := by
  have e3 := hM.2 3 h3
  have e2 := hM.1 2 (by decide)
  refine wp2_mono (w2_step (k1 := 28) (kr := 5) (Or.inr (Or.inl rfl)) (Or.inr rfl) (B := B) (wk_net hC hM h3 hN) (wk_rule hC hM h18 hR) (by rw [e3, e2]; exact h) (by rw [e3]; exact hv)) (fun r1 C1 r2 M1 q => ?_)
  obtain ⟨q1, q2, q3, q4, q5⟩ := q
  rw [e3] at q2
  rw [e3, e2] at q5
  have e0 : M1 0 = M 0 := q4 0 (by decide)
  exact ⟨q1, q2, fr_tr hC (fr_mono q3 (by decide)), ⟨fr_tr hM.1 (fr_mono q4 (by decide)), fun j hj => by rw [e0]; exact hM.2 j hj⟩, q3 59 (by decide), q4 19 (by decide), e0, q5⟩
/-- the row thought of begins as what is -/
theorem cy_C (C : tp_M) : wp (fx_X2_copyFrom 28 25 C) (fun _ C1 => wk_C C C1 ∧ C1 59 = C 59 ∧ C1 28 2 = C 25 2 ∧ C1 28 3 = C 25 3 ∧ ∀ j : Int, 0 ≤ j → j < 8 → C1 29 j = C 26 j ∧ C1 30 j = C 27 j) := by
  rw [pc_copyFrom]
  refine wp_some ⟨fr_cp (fr_cp (fr_up (fr_up fr_rf (by decide)) (by decide)) (by decide)) (by decide), rfl, ?_, ?_, fun j j1 j2 => ⟨?_, ?_⟩⟩
  · rw [cp_k _ _ _ _ _ (by decide), cp_k _ _ _ _ _ (by decide), up_j _ _ _ (by decide), up_s]
  · rw [cp_k _ _ _ _ _ (by decide), cp_k _ _ _ _ _ (by decide), up_s, up_k _ _ _ (by decide)]
  · rw [cp_k _ _ _ _ _ (by decide), cp_c, if_pos (by omega), up_k _ _ _ (by decide), up_k _ _ _ (by decide), show (0 : Int) + (j - 0) = j by omega]
  · rw [cp_c, if_pos (by omega), cp_k _ _ _ _ _ (by decide), up_k _ _ _ (by decide), up_k _ _ _ (by decide), show (0 : Int) + (j - 0) = j by omega]
theorem cy_row {C M C1 M1 : tp_M} {n : Int} {D : Int → Int} {B : Int} (hn : n ≤ 8) (h : sm_row (C 26) (C 27) (C 25 2) (C 25 3) (M 4) n D B) (h2 : C1 28 2 = C 25 2) (h3 : C1 28 3 = C 25 3) (hC : ∀ j : Int, 0 ≤ j → j < 8 → C1 29 j = C 26 j ∧ C1 30 j = C 27 j) (hM : ∀ j : Int, M1 5 j = if 0 ≤ j ∧ j < 17 then M 4 j else M 5 j) : sm_row (C1 29) (C1 30) (C1 28 2) (C1 28 3) (M1 5) n D B := by
  obtain ⟨g1, g2, g3, g4, g5, g6⟩ := h
  have e8 : M1 5 8 = M 4 8 := by rw [hM, if_pos (by omega)]
  have e16 : M1 5 16 = M 4 16 := by rw [hM, if_pos (by omega)]
  refine ⟨by rw [h2, e8]; exact g1, by rw [e8]; exact g2, by rw [h3, e16]; exact g3, by rw [e16]; exact g4, fun v v1 v2 => ?_, fun v v1 v2 v3 => ?_⟩
  · have a1 : M1 5 v = M 4 v := by rw [hM, if_pos (by omega)]
    have a2 : M1 5 (8 + v) = M 4 (8 + v) := by rw [hM, if_pos (by omega)]
    rw [a1, a2, (hC v (by omega) (by omega)).1, (hC v (by omega) (by omega)).2]
    exact g5 v v1 v2
  · rw [(hC v v1 v2).1, (hC v v1 v2).2]
    exact g6 v v1 v2 v3
