/-! GUESS -/
section ST
variable {B : Int} {C M : tp_M} {a1 a2 a3 : Int}
theorem st_guess (h1 : pu_in a1) (h : Sim B C M) : wp2 (fx_X10_guess a1 C) (fx_X11_guess a1 M) (Ans B) := by
  have hN : nC C (M 0 3) (M 2) (M 3) := h.2.2.1
  have n8 := cn_n hN
  unfold fx_X10_guess fx_X11_guess
  refine wp2_lm2 ?_
  rw [cn_hasPost hN h1, pm_isOut (M := tp_up M 0 0 0) (n := M 0 3) rfl (by omega) h1]
  by_cases c1 : 1 ≤ a1 ∧ a1 < M 0 3
  · rw [if_pos c1, if_pos (show 1 ≤ a1 ∧ a1 ≤ M 0 3 - 1 by omega), tp_bd_s, tp_bd_s, show w32 1 = 1 from rfl, if_neg (show ¬ (1 : Int) = 0 by decide), if_neg (show ¬ (1 : Int) = 0 by decide)]
    refine wp2_call (w2_numbers h c1 rfl) (fun x C2 y M2 q => ?_)
    obtain ⟨rfl, f, ⟨g, g0⟩, q1, q2⟩ := q
    have hb := bc_in q1
    have hrow := h.2.2.2.1.2.2.2.2.1 a1 c1.1 c1.2
    rw [tp_lt_s, tp_lt_s, pj_bits, tp_bd_s, w32_id (show -2147483648 ≤ a1 ∧ a1 < 2147483648 by omega), tp_ck_t (by omega), pc_tell2, tp_bd_s, f 26 (by simp), hrow.1, w32_id (show -2147483648 ≤ bc x ∧ bc x < 2147483648 by omega)]
    refine wp2_lm2 ?_
    rw [pj_bits, tp_bd_s, w32_id (show -2147483648 ≤ bc x ∧ bc x < 2147483648 by omega), (pm_enter2 (b := 0) (up_s _ _ _ _)).1, tp_bd_s, tp_ck_t (by omega)]
    have e4 : tp_up (tp_up (tp_up M2 0 1 0) 1 0 (bc x)) 0 1 (0 + 1) 4 a1 = M 4 a1 := by
      rw [up_k _ _ _ (by decide), up_k _ _ _ (by decide), up_k _ _ _ (by decide), g 4 (by simp)]
    rw [e4]
    have d4 := cn_D hN c1
    have hs := bt_shr (c := x) (v := M 4 a1) (j := (M 4 a1).toNat) (by omega) (by omega) (by omega)
    have hh := pm_has (a := x) (v := M 4 a1) (by omega) (by omega) (tp_up (tp_up (tp_up M2 0 1 0) 1 0 (bc x)) 0 1 (0 + 1))
    have fin : ∀ b : Int, b = 0 ∨ b = 1 → x_and (x_shr x (M 4 a1)) 1 = b → fx_X11_has x (M 4 a1) (tp_up (tp_up (tp_up M2 0 1 0) 1 0 (bc x)) 0 1 (0 + 1)) = some (b, tp_up (tp_up (tp_up M2 0 1 0) 1 0 (bc x)) 0 1 (0 + 1)) → wp2 (some (x, tp_up (tp_up (tp_up (tp_up (tp_up C2 3 1 0) 4 0 (bc x)) 3 1 1) 4 1 (w32 (x_and (x_shr x (M 4 a1)) 1))) 3 1 2)) (tp_bd (fx_X11_has x (M 4 a1) (tp_up (tp_up (tp_up M2 0 1 0) 1 0 (bc x)) 0 1 (0 + 1))) fun r12 M13 => tp_bd (fx_X11_flag r12 M13) fun r14 M15 => tp_bd (fx_X11_enters (w32 r14) M15) fun r16 M17 => some (x, M17)) (Ans B) := fun b hb2 hb3 hb4 => by
      have hf : ∀ MM : tp_M, fx_X11_flag b MM = some (b, MM) := fun MM => by
        rcases hb2 with rfl | rfl <;> rfl
      have hw : w32 b = b := by rcases hb2 with rfl | rfl <;> rfl
      rw [hb3, hb4, tp_bd_s, hf, tp_bd_s, (pm_enter2 (a := bc x) (b := w32 b) (up_s _ _ _ _)).2, tp_bd_s, hw]
      refine wp2_some (ans_told h ?_ ?_ ?_ rfl ⟨by decide, by decide⟩ (td_2C _ _ _) (td_2M _ _ _) (fun j j1 j2 => rfl))
      · exact fr_up (fr_up (fr_up (fr_up (fr_up (fr_mono f (by simp)) (by simp)) (by simp)) (by simp)) (by simp)) (by simp)
      · exact fr_up (fr_up (fr_up (fr_up (fr_up (fr_mono g (by simp)) (by simp)) (by simp)) (by simp)) (by simp)) (by simp)
      · refine scF_up (scF_k (scF_up (scF_k (scF_up (fun j hj => ?_) (by decide)) (by decide)) (by decide)) (by decide)) (by decide)
        refine g0 j ?_
        simp only [List.mem_cons, List.not_mem_nil, or_false] at hj
        simp
        omega
    by_cases hbt : bt x (M 4 a1).toNat
    · exact fin 1 (Or.inr rfl) (by rw [hs, if_pos (show x.toNat.testBit (M 4 a1).toNat = true from hbt)]) (hh.1 hbt)
    · exact fin 0 (Or.inl rfl) (by rw [hs, if_neg (show ¬ x.toNat.testBit (M 4 a1).toNat = true from hbt)]) (hh.2 hbt)
  · rw [if_neg c1, if_neg (show ¬ (1 ≤ a1 ∧ a1 ≤ M 0 3 - 1) by omega), tp_bd_s, tp_bd_s, show w32 0 = 0 from rfl, if_pos rfl, if_pos rfl]
    exact wp2_some (ans_no h)
end ST
