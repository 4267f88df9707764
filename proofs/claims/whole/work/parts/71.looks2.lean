/-! LOOKS: the call -/
section ST
variable {B : Int} {C M : tp_M} {a1 a2 a3 : Int}
theorem st_looks (h1 : pu_in a1) (h : Sim B C M) : wp2 (fx_X10_looks a1 C) (fx_X11_looks a1 M) (Ans B) := by
  have hN : nC C (M 0 3) (M 2) (M 3) := h.2.2.1
  have n8 := cn_n hN
  have hrow := h.2.2.2.1
  obtain ⟨u1, u2, u3⟩ := h.2.2.2.2.1
  have hR := rr_of hrow
  unfold fx_X10_looks fx_X11_looks
  refine wp2_lm2 ?_
  rw [cn_hasPost hN h1, pm_isOut (M := tp_up M 0 0 0) (n := M 0 3) rfl (by omega) h1]
  by_cases c1 : 1 ≤ a1 ∧ a1 < M 0 3
  · have d4 := cn_D hN c1
    rw [if_pos c1, if_pos (show 1 ≤ a1 ∧ a1 ≤ M 0 3 - 1 by omega), tp_bd_s, tp_bd_s, show w32 1 = 1 from rfl, if_neg (show ¬ (1 : Int) = 0 by decide), if_neg (show ¬ (1 : Int) = 0 by decide)]
    refine wp2_call (w2_numbers h c1 rfl) (fun x C2 y M2 q => ?_)
    obtain ⟨rfl, f, g, q1, q2⟩ := q
    refine wp2_lt1 ?_
    refine wp2_lt2 ?_
    rw [w32_id (show -2147483648 ≤ x ∧ x < 2147483648 by omega)]
    have gM : lk_M M M2 := ⟨fr_mono g.1 (by simp), g.2⟩
    have scl : ∀ M3 : tp_M, lk_M M M3 → sc_F M M3 := fun M3 hM3 j hj => by
      refine hM3.2 j ?_
      simp only [List.mem_cons, List.not_mem_nil, or_false] at hj
      simp
      omega
    by_cases hx0 : x = 0
    · rw [if_pos hx0, if_pos hx0]
      exact wp2_some (ans_same h (fr_mono f (by simp)) (fr_mono gM.1 (by simp)) (scl M2 gM) rfl (by rw [f 3 (by simp)]) (f 4 (by simp)) (gM.2 1 (by decide)) (gM.1 1 (by simp)))
    · rw [if_neg hx0, if_neg hx0]
      have hex : ∃ j : Nat, j < 8 ∧ x.toNat.testBit j = true := by
        refine Classical.byContradiction (fun c => hx0 ?_)
        refine bt_ext q1 (by omega) (fun j hj => ?_)
        exact ⟨fun b => absurd ⟨j, hj, b⟩ c, fun b => absurd b (bt_0 j)⟩
      refine wp2_lt1 ?_
      refine wp2_lt1 ?_
      refine wp2_lt1 ?_
      refine wp2_lt2 ?_
      refine wp2_lt2 ?_
      refine wp2_lt2 ?_
      refine wp2_lp33 (fun b1 l1 v1 C3 b2 l2 v2 M3 => v1 = v2 ∧ (1 ≤ v1 ∧ v1 ≤ M 0 3) ∧ tp_fr [18, 28, 29, 30, 59, 62] C C3 ∧ lk_M M M3 ∧ ((b1 = b2 ∧ l1 = l2 ∧ (1 ≤ l1 ∧ l1 ≤ 4) ∧ 0 ≤ b1 ∧ b1 ≤ 1000) ∨ (v1 = 1 ∧ b1 = 0 ∧ l1 = 5 ∧ b2 = -1 ∧ l2 = 1000000))) (fun _ _ v1 _ _ _ _ _ => (8 - v1).toNat) ?_ tp_F tp_F 0 5 1 C2 (-1) 1000000 1 M2 ⟨rfl, by omega, fr_mono f (by simp), gM, Or.inr ⟨rfl, rfl, rfl, rfl, rfl⟩⟩ (tp_F_pos (by omega)) (tp_F_pos (by omega))
      intro rec1 rec2 b1 l1 v1 C3 b2 l2 v2 M3 hI hrec
      obtain ⟨rfl, i1, i2, i3, i4⟩ := hI
      have hN3 : nC C3 (M 0 3) (M 2) (M 3) := nC_fr hN (i2 5 (by simp)) (i2 6 (by simp)) (i2 7 (by simp)) (i2 8 (by simp)) (i2 9 (by simp))
      have e03 : M3 0 3 = M 0 3 := i3.2 3 (by decide)
      unfold fx_X10_looks_L34 fx_X11_looks_L38
      rw [cn_crossings hN3, tp_bd_s, e03, w32_id (show -2147483648 ≤ v1 ∧ v1 < 2147483648 by omega), w32_id (show -2147483648 ≤ M 0 3 ∧ M 0 3 < 2147483648 by omega)]
      by_cases hv : v1 < M 0 3
      · rw [if_pos hv, if_pos hv]
        refine wp2_c1 (cs_fillP (f := C 16) (s := C 15 4) (R := M 4) (B := B) (i := a1) (v := v1) (x := x) hN3 (by rw [i2 15 (by simp)]) (by rw [i2 16 (by simp)]) (by rw [u1]; exact u2) (by rw [i2 26 (by simp), i2 27 (by simp), i2 25 (by simp)]; exact hrow) c1 ⟨i1.1, hv⟩ q1 q2) (fun _ C4 t => ?_)
        obtain ⟨t1, t2⟩ := t
        have f4 := fr_tr i2 t1
        refine wp2_lt1 ?_
        refine wp2_lt2 ?_
        refine wp2_lp33 (fun b1 l1 g1 C5 b2 l2 g2 M5 => C5 = C4 ∧ g1 = g2 ∧ (0 ≤ g1 ∧ g1 ≤ 21) ∧ lk_M M M5 ∧ ((b1 = b2 ∧ l1 = l2 ∧ (1 ≤ l1 ∧ l1 ≤ 4) ∧ 0 ≤ b1 ∧ b1 ≤ 1000) ∨ (v1 = 1 ∧ g1 = 0 ∧ b1 = 0 ∧ l1 = 5 ∧ b2 = -1 ∧ l2 = 1000000))) (fun _ _ g1 _ _ _ _ _ => (21 - g1).toNat) ?_ tp_F tp_F b1 l1 0 C4 b2 l2 0 M3 ⟨rfl, rfl, by omega, i3, ?_⟩ (tp_F_pos (by omega)) (tp_F_pos (by omega))
        · intro rec3 rec4 b3 l3 g3 C5 b4 l4 g4 M5 hI2 hrec2
          obtain ⟨hC5, rfl, j1, j2, j3⟩ := hI2
          subst C5
          unfold fx_X10_looks_L57 fx_X11_looks_L50
          rw [w32_id (show -2147483648 ≤ g3 ∧ g3 < 2147483648 by omega)]
          by_cases hg : g3 ≤ 20
          · rw [if_pos hg, if_pos hg]
            generalize hpdef : (fun j : Nat => (wk (M 2) (M 3) (C 16) (C 15 4) (rw_post (M 4) a1 (j : Int)) v1 g3.toNat).1) = p
            have hpj : ∀ j : Nat, (wk (M 2) (M 3) (C 16) (C 15 4) (rw_post (M 4) a1 (j : Int)) v1 g3.toNat).1 = p j := fun j => by rw [← hpdef]
            have hp8 : ∀ j : Nat, j < 4 → x.toNat.testBit j = true → 0 ≤ p j ∧ p j < 8 := fun j hj hb => by
              have := (wk_pos (f := C 16) (s := C 15 4) hN.2.1 (rr_post n8.2 hR c1 (show 0 ≤ (j : Int) ∧ (j : Int) < M 2 a1 from ⟨by omega, q2 j (by omega) hb⟩)) (show 0 ≤ v1 ∧ v1 < M 0 3 by omega) g3.toNat).1
              rw [hpj j] at this
              omega
            refine wp2_c1 (cs_most (C := C4) (x := x) (g := g3) (p := p) q1 ⟨j1.1, hg⟩ hp8 (fun j hj hb => ?_)) (fun y C6 r => ?_)
            · have := t2 j hj hb g3.toNat (by omega)
              rw [hpj j, show ((g3.toNat : Nat) : Int) = g3 by omega] at this
              exact this
            obtain ⟨hC6, r1, r2, r3⟩ := r
            subst C6
            refine wp2_lt1 ?_
            refine wp2_lt2 ?_
            refine wp2_lt2 ?_
            refine ps_wipes j2 (fun M6 m1 m2 => ?_)
            refine wp2_lt2 ?_
            refine ps_often (f := C 16) (s := C 15 4) hN.2.1 ⟨u1.symm, by rw [u1]; exact u2, by rw [u1]; exact u3⟩ hR c1 ⟨i1.1, hv⟩ ⟨j1.1, hg⟩ q1 m1 m2 (fun y2 M7 w1 w2 w3 w4 => ?_)
            rw [hpdef] at w3 w4
            have hy : y = y2 := lk_eq (d := (M 2 a1).toNat) (by omega) (fun j hj hb => by have := q2 j hj hb; omega) hp8 r1.1 r2 r3 w2.1 w3 w4
            subst hy
            have y1 : 1 ≤ y := by
              obtain ⟨j, k1, k2⟩ := hex
              have k3 := q2 j k1 k2
              have k4 := r2 j (by omega) k2
              have k5 := lk_mem (x := x) (p := p) (u := p j) k2 rfl 4 (by omega)
              omega
            rw [tp_jn2_n, tp_jn1_n, w32_id (show -2147483648 ≤ y ∧ y < 2147483648 by omega)]
            rcases j3 with ⟨rfl, rfl, k1, k2⟩ | ⟨k1, k2, rfl, rfl, rfl, rfl⟩
            · rw [w32_id (show -2147483648 ≤ l3 ∧ l3 < 2147483648 by omega)]
              by_cases hyl : y < l3
              · rw [if_pos hyl, if_pos hyl]
                refine wp2_lt1 ?_
                refine wp2_lt1 ?_
                refine wp2_lt1 ?_
                refine wp2_lt2 ?_
                refine wp2_lt2 ?_
                refine wp2_lt2 ?_
                rw [show min l3 y = y by omega]
                exact hrec2 _ _ _ _ _ _ _ _ ⟨rfl, rfl, by omega, w1, Or.inl ⟨rfl, rfl, by omega, by omega⟩⟩ (by omega)
              · rw [if_neg hyl, if_neg hyl]
                refine wp2_lt1 ?_
                refine wp2_lt2 ?_
                refine wp2_lt2 ?_
                refine wp2_lt2 ?_
                rw [show min l3 y = l3 by omega]
                exact hrec2 _ _ _ _ _ _ _ _ ⟨rfl, rfl, by omega, w1, Or.inl ⟨rfl, rfl, k1, k2⟩⟩ (by omega)
            · rw [show w32 5 = 5 from rfl, show w32 1000000 = 1000000 from rfl, if_pos (show y < 5 by omega), if_pos (show y < 1000000 by omega)]
              refine wp2_lt1 ?_
              refine wp2_lt1 ?_
              refine wp2_lt1 ?_
              refine wp2_lt2 ?_
              refine wp2_lt2 ?_
              refine wp2_lt2 ?_
              rw [show min 1000000 y = y by omega]
              exact hrec2 _ _ _ _ _ _ _ _ ⟨rfl, rfl, by omega, w1, Or.inl ⟨rfl, rfl, by omega, by omega⟩⟩ (by omega)
          · rw [if_neg hg, if_neg hg]
            refine wp2_lt1 ?_
            refine wp2_lt2 ?_
            refine hrec _ _ _ _ _ _ _ _ ⟨rfl, by omega, f4, j2, ?_⟩ (by omega)
            rcases j3 with j3 | j3
            · exact Or.inl j3
            · omega
        · rcases i4 with i4 | ⟨k1, k2⟩
          · exact Or.inl i4
          · exact Or.inr ⟨k1, rfl, k2⟩
      · rw [if_neg hv, if_neg hv]
        rcases i4 with ⟨rfl, rfl, k1, k2⟩ | k
        · dsimp only
          rw [pc_tell1, tp_bd_s]
          refine wp2_lm2 ?_
          rw [(pm_enter2 (b := 0) (up_s _ _ _ _)).1, tp_bd_s]
          refine wp2_some (ans_told h ?_ ?_ ?_ rfl ⟨by decide, by decide⟩ (td_1C _ _) (td_1M _ _) (fun j j1 j2 => rfl))
          · exact fr_up (fr_up (fr_up (fr_mono i2 (by simp)) (by simp)) (by simp)) (by simp)
          · exact fr_up (fr_up (fr_up (fr_mono i3.1 (by simp)) (by simp)) (by simp)) (by simp)
          · exact scF_up (scF_k (scF_up (scl M3 i3) (by decide)) (by decide)) (by decide)
        · omega
  · rw [if_neg c1, if_neg (show ¬ (1 ≤ a1 ∧ a1 ≤ M 0 3 - 1) by omega), tp_bd_s, tp_bd_s, show w32 0 = 0 from rfl, if_pos rfl, if_pos rfl]
    exact wp2_some (ans_no h)
end ST
