/-! POST, FITS -/
theorem ansT_ok {B : Int} {C M C1 M1 : tp_M} {r1 r2 : Int} (h : Sim B C M) (fC : tp_fr [18] C C1) (fM : tp_fr [0, 11, 12, 13] M M1) (h0 : ∀ j : Int, ¬ j = 0 → M1 0 j = M 0 j) (ht : M1 0 0 = 0) (hr : w32 r1 = w32 r2) : AnsT w32 B (w32 r1) C1 r2 M1 := by
  refine ⟨by rw [ht, if_neg th_ne]; rfl, fun _ => by rw [w32_2, hr], ?_⟩
  have := ans_same (r1 := r1) (r2 := r1) h (fr_mono fC (by simp)) (fr_mono fM (by simp)) (fun j hj => h0 j (f0_ne hj (by decide))) rfl (by rw [fC 3 (by simp)]) (fC 4 (by simp)) (h0 1 (by decide)) (fM 1 (by simp))
  exact this.2
section ST
variable {B : Int} {C M : tp_M} {a1 a2 a3 a4 : Int}
theorem st_post (h1 : pu_in a1) (h2 : pu_in a2) (hB : 1000 ≤ B ∧ B ≤ 600000) (h : Sim B C M) : wp2 (fx_X10_post a1 a2 C) (fx_X11_post a1 a2 M) (AnsT w32 B) := by
  have hN : nC C (M 0 3) (M 2) (M 3) := h.2.2.1
  have hR := h.2.2.2.2.1
  have hW := h.2.2.2.1
  have n8 := cn_n hN
  have e1 := h1
  have e2 := h2
  unfold pu_in at e1 e2
  have g0 : tp_fr [0, 11, 12, 13] M (tp_up M 0 0 0) := fr_up fr_rf (by simp)
  have k0 : ∀ j : Int, ¬ j = 0 → tp_up M 0 0 0 0 j = M 0 j := fun j hj => up_j _ _ _ hj
  unfold fx_X10_post fx_X11_post fx_X11_refuse
  refine wp2_lm2 ?_
  rw [cn_has hN h1, tp_bd_s, pm_isCrossing (M := tp_up M 0 0 0) (n := M 0 3) rfl (by omega) h1, tp_bd_s]
  refine wp2_jn02 ?_
  by_cases c1 : 0 ≤ a1 ∧ a1 < M 0 3
  · rw [if_pos c1, if_pos (show 0 ≤ a1 ∧ a1 ≤ M 0 3 - 1 by omega), w32_id e2, w32_id e1]
    refine wp2_f1 (by decide) ?_
    refine wp2_f2 (by decide) ?_
    rw [pm_in (M := tp_up M 0 0 0) (a := a2) (b := 0) (c := 5) h2 (by unfold pu_in; omega) (by unfold pu_in; omega), tp_bd_s]
    by_cases c2 : 0 ≤ a2 ∧ a2 ≤ 5
    · rw [if_pos c2]
      refine wp2_f1 (by omega) ?_
      refine wp2_t1 c2.2 ?_
      refine wp2_f2 (by decide) ?_
      by_cases c3 : a1 = 0
      · rw [if_pos c3, if_pos c3]
        by_cases c4 : a2 = 3
        · rw [if_pos c4, if_pos c4]
          refine wp2_some (ansT_ok h fr_rf g0 k0 (up_s _ _ _ _) ?_)
          rw [up_k _ _ _ (by decide), hW.1]
        · rw [if_neg c4, if_neg c4]
          exact wp2_some (ansT_ok h fr_rf g0 k0 (up_s _ _ _ _) rfl)
      · rw [if_neg c3, if_neg c3]
        have hv : 1 ≤ a1 ∧ a1 < M 0 3 := by omega
        have d4 := cn_D hN hv
        obtain ⟨p1, p2, p3, p4⟩ := hW.2.2.2.2.1 a1 hv.1 hv.2
        have gg := cn_G hN hv p2
        refine wp2_c2 (pm_laysFar (M := tp_up M 0 0 0) (g := 0) hN.2.1 (by show 0 ≤ (0 : Int) ∧ 0 < M 0 3; omega)) (fun _ M1 q => ?_)
        obtain ⟨q1, q2⟩ := q
        have g1 : tp_fr [0, 11, 12, 13] M M1 := fr_tr g0 (fr_mono q1 (by simp))
        have k1 : ∀ j : Int, ¬ j = 0 → M1 0 j = M 0 j := fun j hj => by rw [q1 0 (by simp), up_j _ _ _ hj]
        have k2 : M1 0 0 = 0 := by rw [q1 0 (by simp), up_s]
        have m2 : M1 2 = M 2 := g1 2 (by simp)
        have m3 : M1 3 = M 3 := g1 3 (by simp)
        have m4 : M1 4 = M 4 := g1 4 (by simp)
        by_cases w0 : a2 = 0
        · rw [if_pos w0, if_pos w0, cn_degree hN hv, tp_bd_s]
          refine wp2_ck2 (by omega) ?_
          exact wp2_some (ansT_ok h fr_rf g1 k1 k2 (by rw [m2]))
        rw [if_neg w0, if_neg w0]
        by_cases w1 : a2 = 1
        · rw [if_pos w1, if_pos w1]
          refine wp2_ck1 (by omega) ?_
          refine wp2_ck2 (by omega) ?_
          exact wp2_some (ansT_ok h fr_rf g1 k1 k2 (by rw [m4, p1]))
        rw [if_neg w1, if_neg w1]
        by_cases w2 : a2 = 2
        · rw [if_pos w2, if_pos w2, p1, cn_goal hN hv p2, m4, pm_goalOf (M := M1) (a := a1) (k := M 4 a1) (by omega), tp_bd_s, tp_bd_s]
          refine wp2_ck1 (by omega) ?_
          refine wp2_ck2 (by omega) ?_
          exact wp2_some (ansT_ok h fr_rf g1 k1 k2 (by rw [m3]))
        rw [if_neg w2, if_neg w2]
        by_cases w3 : a2 = 3
        · rw [if_pos w3, if_pos w3, w32_id (show -2147483648 ≤ 8 + a1 ∧ 8 + a1 < 2147483648 by omega)]
          refine wp2_ck1 (by omega) ?_
          refine wp2_ck2 (by omega) ?_
          exact wp2_some (ansT_ok h fr_rf g1 k1 k2 (by rw [m4, p3]))
        rw [if_neg w3, if_neg w3]
        by_cases w4 : a2 = 4
        · rw [if_pos w4, if_pos w4]
          unfold fx_X10_turnNow
          rw [cn_hasPost hN h1, if_pos hv, tp_bd_s]
          refine wp2_bd ?_
          refine wp2_f1 (by decide) ?_
          rw [cn_degree hN hv, tp_bd_s, w32_id e1, p1, cn_goal hN hv p2, tp_bd_s]
          refine wp2_ck1 (by omega) ?_
          refine wp2_c1 (pc_turn (t := 15) (k1 := 25) (s := M 0 18) (Or.inl rfl) (Or.inl rfl) hR.1 hR.2.1 (by omega)) (fun r3 C3 s => ?_)
          obtain ⟨s1, s2⟩ := s
          refine wp2_mono (wp2_of (wp_some (Q := fun r C4 => r = r3 ∧ C4 = C3) ⟨rfl, rfl⟩) (pm_turn (k1 := 4) (Or.inl rfl) (M := M1) (f := C 16) (s := M 0 18) (v := a1) (by omega) (k1 18 (by decide)) hR.2.1 (by rw [g1 9 (by simp)]; exact hR.2.2) (by rw [m4]; omega)) (Q := fun r4 C4 r5 M5 => (r4 = r3 ∧ C4 = C3) ∧ tp_fr [11, 12] M1 M5 ∧ r5 = rv_turn (C 16) (rv_q (M1 2 a1) (M1 4 a1) (M1 3 (4 * a1 + M1 4 a1)) (M1 4 (8 + a1)) a1 (M1 4 8) (M1 4 16)) (M 0 18)) (fun _ _ _ _ x y => ⟨x, y⟩)) (fun r4 C4 r5 M5 q => ?_)
          obtain ⟨⟨rfl, rfl⟩, t1, t2⟩ := q
          refine wp2_some (ansT_ok h s1 (fr_tr g1 (fr_mono t1 (by simp))) (fun j hj => by rw [t1 0 (by simp)]; exact k1 j hj) (by rw [t1 0 (by simp)]; exact k2) ?_)
          rw [s2, t2, m2, m3, m4]
          show w32 (rv_turn (C 16) (rv_q (M 2 a1) (C 26 a1) (M 3 (4 * a1 + M 4 a1)) (C 27 a1) a1 (C 25 2) (C 25 3)) (M 0 18)) = _
          rw [p1, p3, hW.1, hW.2.2.1]
        rw [if_neg w4, if_neg w4, cn_far hN (by omega), tp_bd_s]
        refine wp2_ck2 (by omega) ?_
        have := fa_inn hN q2 (v := a1) (by omega)
        exact wp2_some (ansT_ok h fr_rf g1 k1 k2 (by rw [this.1]))
    · rw [if_neg c2]
      refine wp2_t2 (by decide) ?_
      by_cases c3 : a2 < 0
      · refine wp2_t1 c3 ?_
        exact wp2_some (ansT_th h)
      · refine wp2_f1 c3 ?_
        refine wp2_f1 (by omega) ?_
        exact wp2_some (ansT_th h)
  · rw [if_neg c1, if_neg (show ¬ (0 ≤ a1 ∧ a1 ≤ M 0 3 - 1) by omega)]
    refine wp2_t1 (by decide) ?_
    refine wp2_t2 (by decide) ?_
    exact wp2_some (ansT_th h)
end ST
