/-! ROUTE: the call -/
section ST
variable {B : Int} {C M : tp_M} {a1 a2 a3 : Int}
theorem st_route (h1 : pu_in a1) (h2 : pu_in a2) (h : Sim B C M) : wp2 (fx_X10_route a1 a2 C) (fx_X11_route a1 a2 M) (Ans B) := by
  have hN : nC C (M 0 3) (M 2) (M 3) := h.2.2.1
  have n8 := cn_n hN
  unfold fx_X10_route fx_X11_route
  refine wp2_lm2 ?_
  rw [cn_has hN h1, pm_isCrossing (M := tp_up M 0 0 0) (n := M 0 3) rfl (by omega) h1]
  by_cases c1 : 0 ≤ a1 ∧ a1 < M 0 3
  · rw [if_pos c1, if_pos (show 0 ≤ a1 ∧ a1 ≤ M 0 3 - 1 by omega), tp_bd_s, tp_bd_s, show w32 1 = 1 from rfl, if_neg (show ¬ (1 : Int) = 0 by decide), if_neg (show ¬ (1 : Int) = 0 by decide), cn_has hN h2, pm_isCrossing (M := tp_up M 0 0 0) (n := M 0 3) rfl (by omega) h2, tp_bd_s, tp_bd_s]
    by_cases c2 : 0 ≤ a2 ∧ a2 < M 0 3
    · rw [if_pos c2, if_pos (show 0 ≤ a2 ∧ a2 ≤ M 0 3 - 1 by omega), show w32 1 = 1 from rfl, if_neg (show ¬ (1 : Int) = 0 by decide), if_neg (show ¬ (1 : Int) = 0 by decide)]
      refine wp2_c1 (cs_measure hN c2) (fun _ C2 p => ?_)
      refine wp2_c2 (pm_laysFar (M := tp_up M 0 0 0) (g := a2) (by exact hN.2.1) (by exact c2)) (fun _ M2 q => ?_)
      obtain ⟨p1, p2⟩ := p
      obtain ⟨q1, q2⟩ := q
      have q3 : fa_ok (M 0 3) (M 2) (M 3) a2 (M2 13) := q2
      rw [w32_id (show -2147483648 ≤ a1 ∧ a1 < 2147483648 by omega)]
      refine wp2_ck1 (by omega) ?_
      refine wp2_ck2 (by omega) ?_
      refine wp2_lt1 ?_
      have f0 : tp_fr [0, 13] M M2 := fr_tr (fr_up fr_rf (by simp)) (fr_mono q1 (by simp))
      have s0 : ∀ j : Int, ¬ j = 0 → M2 0 j = M 0 j := fun j hj => by rw [q1 0 (by simp), up_j _ _ _ hj]
      rcases p2 a1 c1.1 c1.2 with ⟨d, d1, d2, d3⟩ | ⟨d2, d3⟩
      · rw [d2, fa_at q3 c1 d3, w32_id (show -2147483648 ≤ (d : Int) ∧ (d : Int) < 2147483648 by omega), if_neg (show ¬ (d : Int) < 0 by omega), if_pos (show (d : Int) < 1000000 by omega), pc_tell, tp_bd_s]
        refine wp2_lt1 ?_
        refine wp2_lt1 ?_
        refine wp2_lm2 ?_
        refine wp2_lt2 ?_
        refine w2_path (C := tp_up C2 3 1 0) (M := tp_up M2 0 1 0) (n := M 0 3) (D := M 2) (G := M 3) (f1 := C2 61) (f2 := M2 13) (nC_fr hN (by rw [up_k _ _ _ (by decide), p1 5 (by simp)]) (by rw [up_k _ _ _ (by decide), p1 6 (by simp)]) (by rw [up_k _ _ _ (by decide), p1 7 (by simp)]) (by rw [up_k _ _ _ (by decide), p1 8 (by simp)]) (by rw [up_k _ _ _ (by decide), p1 9 (by simp)])) (by rw [up_j _ _ _ (by decide)]; exact s0 3 (by decide)) (by rw [up_k _ _ _ (by decide)]; exact f0 2 (by simp)) (by rw [up_k _ _ _ (by decide)]; exact f0 3 (by simp)) c2 c1 (up_k _ _ _ (by decide)) (up_k _ _ _ (by decide)) p2 q3 d1 d3 (up_s _ _ _ _) (up_s _ _ _ _) (fun C3 M3 w1 w2 w3 w4 w5 w6 => ?_)
        refine ans_told h (fr_tr (fr_mono p1 (by simp)) (fr_tr (fr_up fr_rf (by simp)) (fr_mono w1 (by simp)))) (fr_tr (fr_mono f0 (by simp)) (fr_tr (fr_up fr_rf (by simp)) (fr_mono w2 (by simp)))) (fun j hj => ?_) rfl (m := (d : Int)) (by omega) (g := C3 4) (g2 := M3 1) ⟨w4, fun j _ _ => rfl⟩ ⟨w5, fun j _ _ => rfl⟩ (fun j j1 j2 => by rw [w6 j j1 j2])
        rw [w3 j (f0_ne hj (by decide)), up_j _ _ _ (f0_ne hj (by decide))]
        exact s0 j (f0_ne hj (by decide))
      · rcases q3 a1 c1.1 c1.2 with ⟨b, b1, b2, b3⟩ | ⟨b2, b3⟩
        · exact absurd b3.1 (d3 b)
        · rw [d2, b2, show w32 (-1) = -1 from rfl, show w32 1000000 = 1000000 from rfl, if_pos (show (-1 : Int) < 0 by decide), if_neg (show ¬ (1000000 : Int) < 1000000 by decide)]
          exact wp2_some (ans_same h (fr_mono p1 (by simp)) (fr_mono f0 (by simp)) (fun j hj => s0 j (f0_ne hj (by decide))) rfl (by rw [p1 3 (by simp)]) (p1 4 (by simp)) (s0 1 (by decide)) (f0 1 (by simp)))
    · rw [if_neg c2, if_neg (show ¬ (0 ≤ a2 ∧ a2 ≤ M 0 3 - 1) by omega), show w32 0 = 0 from rfl, if_pos rfl, if_pos rfl]
      exact wp2_some (ans_no h)
  · rw [if_neg c1, if_neg (show ¬ (0 ≤ a1 ∧ a1 ≤ M 0 3 - 1) by omega), tp_bd_s, tp_bd_s, show w32 0 = 0 from rfl, if_pos rfl, if_pos rfl]
    exact wp2_some (ans_no h)
end ST
