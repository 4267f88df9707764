/-! MEAN -/
section ST
variable {B : Int} {C M : tp_M} {a1 : Int}
theorem ps_mean {m c : Nat} {x y dn up : Int} (hn : nt_net (M 0 3) (M 2) (M 3)) (hm : (M 0 3 - 1).toNat = m) (hc : c < m) (hdn : dn = dt_det m (lpL 0 (nD (M 2)) (nG (M 3)))) (hup : up = dt_det m (lpLC 0 c (nD (M 2)) (nG (M 3)))) (hd0 : 0 < dn ∧ dn < 9000000000000000000)
    (hF : ∀ M : tp_M, fx_X11_entersFraction up dn M = some (0, tp_up (tp_up (tp_up (tp_up (tp_up M 0 1 0) 1 0 x) 0 1 (0 + 1)) 1 (0 + 1) y) 0 1 (0 + 1 + 1))) :
    wp (fx_X11_mean ((c : Int) + 1) M) (fun r M1 => tp_fr [0, 1, 21] M M1 ∧ (∀ j : Int, ¬ j = 0 → ¬ j = 1 → ¬ j = 36 → M1 0 j = M 0 j) ∧ tdM M1 2 (fun j => if j = 0 then x else y) ∧ r = x_ldiv up dn) := by
  have n8 := hn.1
  have hD := nt_D hn hm
  have hD2 : ∀ i : Nat, i < m → 1 ≤ nD (M 2) i ∧ nD (M 2) i ≤ 4 := fun i hi => ⟨(hD i hi).1, (hD i hi).2.1⟩
  refine wp_K (fun Q hQ => ?_)
  unfold fx_X11_mean
  refine wp_lm ?_
  rw [pm_isOut (M := tp_up M 0 0 0) (n := M 0 3) rfl (by omega) (by unfold pu_in; omega), if_pos (show 1 ≤ (c : Int) + 1 ∧ (c : Int) + 1 ≤ M 0 3 - 1 by omega), tp_bd_s, if_neg (show ¬ w32 1 = 0 by decide)]
  have lays : ∀ (M1 : tp_M), tp_fr [0, 21] M M1 → (∀ j : Int, ¬ j = 0 → ¬ j = 36 → M1 0 j = M 0 j) → wp (fx_X11_laysMatrix (-1) M1) (fun _ M2 => tp_fr [21] M1 M2 ∧ ∀ x y : Nat, x < 8 → y < 8 → M2 21 (8 * (x : Int) + (y : Int)) = lpM 0 m (nD (M 2)) (nG (M 3)) x y) := fun M1 f f0 => by
    have e3 : M1 0 3 = M 0 3 := f0 3 (by decide) (by decide)
    have e2 : M1 2 = M 2 := f 2 (by simp)
    have e4 : M1 3 = M 3 := f 3 (by simp)
    have := ps_lays (M := M1) (m := m) (p := 0) (b := -1) (by rw [e3, e2, e4]; exact hn) (by rw [e3]; exact hm) (by rw [if_pos rfl]) (by omega)
    rw [e2, e4] at this
    exact this
  refine wp_call (lays _ (fr_up fr_rf (by simp)) (fun j a _ => up_j _ _ _ a)) (fun _ M2 w => ?_)
  obtain ⟨w1, w2⟩ := w
  refine wp_call (ps_determinant (M := M2) (A0 := lpM 0 m (nD (M 2)) (nG (M 3))) w2 (fun x y _ _ => lpM_bd hD2 x y)) (fun r M3 w => ?_)
  obtain ⟨w3, w4, rfl⟩ := w
  rw [det_lpM (by omega) (by omega), ← hdn]
  have f3 : tp_fr [0, 21] M M3 := fr_tr (fr_tr (fr_up fr_rf (by simp)) (fr_mono w1 (by simp))) w3
  have g3 : ∀ j : Int, ¬ j = 0 → ¬ j = 36 → M3 0 j = M 0 j := fun j a b => by rw [w4 j b, w1 0 (by simp), up_j _ _ _ a]
  refine wp_lt ?_
  refine wp_call (lays M3 f3 g3) (fun _ M4 w => ?_)
  obtain ⟨w5, w6⟩ := w
  have f4 : tp_fr [0, 21] M M4 := fr_tr f3 (fr_mono w5 (by simp))
  have g4 : ∀ j : Int, ¬ j = 0 → ¬ j = 36 → M4 0 j = M 0 j := fun j a b => by rw [w5 0 (by simp), g3 j a b]
  clear lays
  refine wp_lt ?_
  refine wp_lp1 (fun z M5 => ∃ u : Nat, z = (u : Int) ∧ u ≤ 8 ∧ tp_fr [0, 21] M M5 ∧ (∀ j : Int, ¬ j = 0 → ¬ j = 36 → M5 0 j = M 0 j) ∧ ∀ x y : Nat, x < 8 → y < 8 → M5 21 (8 * (x : Int) + (y : Int)) = if x < u then lpM2 0 m c (nD (M 2)) (nG (M 3)) x y else lpM 0 m (nD (M 2)) (nG (M 3)) x y) (fun z _ => (9 - z).toNat) ?_ tp_F 0 M4 ⟨0, rfl, by omega, f4, g4, fun x y hx hy => by rw [if_neg (Nat.not_lt_zero x)]; exact w6 x y hx hy⟩ (tp_F_pos (by omega))
  rintro rec z M5 ⟨u, rfl, u1, f5, g5, u2⟩ hrec
  unfold fx_X11_mean_L33
  rw [w32_id (show -2147483648 ≤ (u : Int) ∧ (u : Int) < 2147483648 by omega)]
  by_cases hu : u < 8
  · have e3 : M5 0 3 = M 0 3 := g5 3 (by decide) (by decide)
    have e2 : M5 2 = M 2 := f5 2 (by simp)
    rw [if_pos (by omega), pm_cell, tp_bd_s, e3, w32_id (show -2147483648 ≤ M 0 3 - 1 ∧ M 0 3 - 1 < 2147483648 by omega), pm_in (by unfold pu_in; omega) (by unfold pu_in; omega) (by unfold pu_in; omega), tp_bd_s, w32_id (show -2147483648 ≤ 8 * (u : Int) + ((c : Int) + 1) ∧ 8 * (u : Int) + ((c : Int) + 1) < 2147483648 by omega)]
    refine wp_jn1 ?_
    have nx : ∀ e : Int, (e = lpM2 0 m c (nD (M 2)) (nG (M 3)) u (c + 1)) → wp (tp_ck (8 * (u : Int) + ((c : Int) + 1)) 64 (tp_lm (tp_up M5 21 (8 * (u : Int) + ((c : Int) + 1)) e) (fun M20 => tp_lt ((u : Int) + 1) (fun x21 => rec x21 M20)))) Q := fun e he => by
      refine wp_ck (by omega) ?_
      refine wp_lm ?_
      refine wp_lt ?_
      refine hrec _ _ ⟨u + 1, by omega, by omega, fr_up f5 (by simp), fun j a b => by rw [up_k _ _ _ (by decide)]; exact g5 j a b, fun x y hx hy => ?_⟩ (by omega)
      rw [up_c]
      by_cases q1 : x = u
      · rw [if_pos (show x < u + 1 by omega)]
        by_cases q2 : y = c + 1
        · rw [if_pos (by omega), he, q1, q2]
        · rw [if_neg (by omega), u2 x y hx hy, if_neg (show ¬ x < u by omega)]
          unfold lpM2
          rw [if_neg q2]
      · rw [if_neg (by omega), u2 x y hx hy]
        by_cases q3 : x < u
        · rw [if_pos q3, if_pos (show x < u + 1 by omega)]
        · rw [if_neg q3, if_neg (show ¬ x < u + 1 by omega)]
    by_cases hr : 1 ≤ (u : Int) ∧ (u : Int) ≤ M 0 3 - 1
    · obtain ⟨d1, d4, dE⟩ := hD (u - 1) (by omega)
      rw [show ((u - 1 : Nat) : Int) + 1 = (u : Int) by omega] at dE
      rw [if_pos hr, if_neg (show ¬ w32 1 = 0 by decide)]
      refine wp_ck (by omega) ?_
      rw [e2, w32_id (show -2147483648 ≤ M 2 (u : Int) ∧ M 2 (u : Int) < 2147483648 by omega)]
      refine nx _ ?_
      unfold lpM2 lprc
      rw [if_pos rfl, if_pos (show 1 ≤ u ∧ u ≤ m by omega), if_pos rfl, dE]
    · rw [if_neg hr, if_pos (show w32 0 = 0 by decide)]
      refine nx _ ?_
      unfold lpM2
      rw [if_pos rfl, if_neg (show ¬ (1 ≤ u ∧ u ≤ m) by omega)]
  · rw [if_neg (by omega)]; (try dsimp only)
    refine wp_call (ps_determinant (M := M5) (A0 := lpM2 0 m c (nD (M 2)) (nG (M 3))) (fun x y hx hy => by rw [u2 x y hx hy, if_pos (by omega)]) (fun x y _ _ => lpM2_bd hD2 x y)) (fun r M6 w => ?_)
    obtain ⟨w7, w8, rfl⟩ := w
    rw [det_lpM2 (by omega) (by omega) hc (by omega), ← hup]
    refine wp_lt ?_
    rw [hF, tp_bd_s]
    refine wp_nz (by rw [w64_id (by omega)]; omega) ?_
    have f6 := fr_tr f5 w7
    refine wp_some (hQ _ _ ⟨?_, fun j a b d => ?_, td_2M _ _ _, rfl⟩)
    · exact fr_up (fr_up (fr_up (fr_up (fr_up (fr_mono f6 (by simp)) (by simp)) (by simp)) (by simp)) (by simp)) (by simp)
    · rw [up_j _ _ _ b, up_k _ _ _ (by decide), up_j _ _ _ b, up_k _ _ _ (by decide), up_j _ _ _ b, w8 j d, g5 j a d]
theorem st_mean (h1 : pu_in a1) (h : Sim B C M) : wp2 (fx_X10_mean a1 C) (fx_X11_mean a1 M) (Ans B) := by
  have hN : nC C (M 0 3) (M 2) (M 3) := h.2.2.1
  have n8 := cn_n hN
  have hn := hN.2.1
  by_cases c1 : 1 ≤ a1 ∧ a1 < M 0 3
  · generalize hm : (M 0 3 - 1).toNat = m
    have hD := nt_D hn hm
    have hD2 : ∀ i : Nat, i < m → 1 ≤ nD (M 2) i ∧ nD (M 2) i ≤ 4 := fun i hi => ⟨(hD i hi).1, (hD i hi).2.1⟩
    obtain ⟨c, rfl⟩ : ∃ c : Nat, a1 = (c : Int) + 1 := ⟨(a1 - 1).toNat, by omega⟩
    have hc : c < m := by omega
    have hpos := lp_pos (p := 0) hn hm (fun v v1 v2 => by
      obtain ⟨d, -, -, h⟩ := hN.2.2.2.2.2 v v1 v2
      exact ⟨d, h⟩)
    have hnum := lp_num (p := 0) (g := nG (M 3)) (by omega) hc hD2 hpos
    generalize hdn : dt_det m (lpL 0 (nD (M 2)) (nG (M 3))) = dn at *
    generalize hup : dt_det m (lpLC 0 c (nD (M 2)) (nG (M 3))) = up at *
    obtain ⟨x, y, p1, p2, y0, y1, p3⟩ := w2_frac3 (a := up) (b := dn) (by omega) (by omega)
    obtain ⟨r2, M1, em, fm, f0, tm, rfl⟩ := ps_mean hn hm hc hdn.symm hup.symm (by omega) p2
    have hcl : wp (fx_X10_mean ((c : Int) + 1) C) (fun r C1 => tp_fr (3 :: 4 :: 40 :: elC) C C1 ∧ tdC C1 2 (fun j => if j = 0 then x else y) ∧ r = x_ldiv up dn) := by
      refine wp_K (fun Q hQ => ?_)
      unfold fx_X10_mean
      rw [cn_hasPost hN h1, if_pos c1, tp_bd_s, if_neg (show ¬ w32 1 = 0 by decide)]
      refine wp_call (cs_solve (p := 0) (x := x) (y := y) hN hm hc (by omega) (by rw [hdn]; omega) (by rw [hdn, hup]; exact p1)) (fun _ C1 w => ?_)
      obtain ⟨w1, w2, w3⟩ := w
      rw [w2, w3, pc_tell2, tp_bd_s]
      have e3 : tp_up (tp_up (tp_up (tp_up (tp_up C1 3 1 0) 4 0 x) 3 1 1) 4 1 y) 3 1 2 40 3 = x := by
        simp (disch := omega) only [up_k]; exact w2
      have e4 : tp_up (tp_up (tp_up (tp_up (tp_up C1 3 1 0) 4 0 x) 3 1 1) 4 1 y) 3 1 2 40 4 = y := by
        simp (disch := omega) only [up_k]; exact w3
      rw [e3, e4]
      have hy : ¬ x_lcmp y 0 ≤ 0 := by
        unfold x_lcmp
        rw [w64_id (by omega), show w64 0 = 0 from rfl, if_neg (by omega), if_neg (by omega)]
        decide
      rw [if_neg hy]
      refine wp_nz (by rw [w64_id (by omega)]; omega) ?_
      refine wp_some (hQ _ _ ⟨?_, td_2C _ _ _, p3⟩)
      exact fr_up (fr_up (fr_up (fr_up (fr_up (fr_mono w1 (by simp)) (by simp)) (by simp)) (by simp)) (by simp)) (by simp)
    obtain ⟨r1, C1, ec, fc, tc, rfl⟩ := hcl
    rw [ec, em]
    exact wp2_some (ans_told h (fr_mono fc (by simp)) (fr_mono fm (by simp)) (fun j hj => f0 j (f0_ne hj (by decide)) (f0_ne hj (by decide)) (f0_ne hj (by decide))) rfl ⟨by decide, by decide⟩ tc tm (fun _ _ _ => rfl))
  · unfold fx_X10_mean fx_X11_mean
    refine wp2_lm2 ?_
    rw [cn_hasPost hN h1, pm_isOut (M := tp_up M 0 0 0) (n := M 0 3) rfl (by omega) h1, if_neg c1, if_neg (show ¬ (1 ≤ a1 ∧ a1 ≤ M 0 3 - 1) by omega), tp_bd_s, tp_bd_s, show w32 0 = 0 from rfl, if_pos rfl, if_pos rfl]
    exact wp2_some (ans_no h)
end ST
