/-! FOLLOWS and TREE, the steps -/
section ST
variable {B : Int} {C M : tp_M} {a1 a2 a3 : Int}
theorem sm_posts (h : Sim B C M) : ∀ u : Int, 1 ≤ u → u < M 0 3 → C 26 u = M 4 u ∧ 0 ≤ M 4 u ∧ M 4 u < M 2 u := fun u u1 u2 => by
  obtain ⟨p1, p2, -, -⟩ := h.2.2.2.1.2.2.2.2.1 u u1 u2
  exact ⟨p1, p2.1, p2.2⟩
theorem st_follows (h1 : pu_in a1) (h : Sim B C M) : wp2 (fx_X10_follows a1 C) (fx_X11_follows a1 M) (Ans B) := by
  have hN : nC C (M 0 3) (M 2) (M 3) := h.2.2.1
  have n8 := cn_n hN
  have hp := sm_posts h
  have hR2 : ∀ u : Int, 1 ≤ u → u < M 0 3 → 0 ≤ M 4 u ∧ M 4 u < M 2 u := fun u u1 u2 => (hp u u1 u2).2
  unfold fx_X10_follows fx_X11_follows
  refine wp2_lm2 ?_
  rw [cn_hasPost hN h1, pm_isOut (M := tp_up M 0 0 0) (n := M 0 3) rfl (by omega) h1]
  by_cases c1 : 1 ≤ a1 ∧ a1 < M 0 3
  · have hob := ob_in hN.2.1 hR2 (v := a1) (by omega)
    obtain ⟨x, x1, x2, x3⟩ := cs_track hN hp (v := a1) (by omega)
    have d4 := cn_D hN c1
    have hp1 := hp a1 c1.1 c1.2
    have e1 : M 3 (4 * a1 + M 4 a1) = ob (ob_phi (M 3) (M 4)) a1 1 := (phi_n (by omega)).symm
    have b1 := bt_one (v := a1) (by omega)
    rw [if_pos c1, if_pos (show 1 ≤ a1 ∧ a1 ≤ M 0 3 - 1 by omega), tp_bd_s, tp_bd_s]
    refine wp2_f1 (by decide) ?_
    refine wp2_f2 (by decide) ?_
    rw [x3]
    have hxand := x_and_1 x1
    have hm : wp2 (some (x, tp_up (tp_up (tp_up (tp_up (tp_up C 3 1 0) 4 0 (x_and x 1)) 3 1 1) 4 1 (w32 (bc x - x_and x 1))) 3 1 2)) (tp_lt (x_shl 1 a1) fun x4 => tp_ck (w32 a1) 17 (tp_bd (fx_X11_goalOf a1 (tp_up M 0 0 0 4 (w32 a1)) (tp_up M 0 0 0)) fun r5 M6 => tp_lt r5 fun x7 => tp_lt 1 fun x8 => tp_lp3 (fx_X11_follows_L34 fun y13 y14 y15 M23 => tp_lt (x_or y13 (x_shl 1 y14)) fun x24 => tp_lm (tp_up M23 0 1 0) fun M25 => tp_jn1 (fun y26 M27 => tp_bd (fx_X11_flag y26 M27) fun r28 M29 => tp_bd (fx_X11_enters (w32 r28) M29) fun r30 M31 => tp_bd (fx_X11_enters (w32 y15) M31) fun r32 M33 => some (x24, M33)) fun jk91 => if w32 y14 = 0 then jk91 1 M25 else jk91 0 M25) tp_F x4 x7 x8 M6)) (Ans B) := by
      refine wp2_lt2 ?_
      rw [w32_id (show -2147483648 ≤ a1 ∧ a1 < 2147483648 by omega)]
      refine wp2_ck2 (by omega) ?_
      have e4 : tp_up M 0 0 0 4 = M 4 := up_k _ _ _ (by decide)
      have e3 : tp_up M 0 0 0 3 = M 3 := up_k _ _ _ (by decide)
      rw [e4, pm_goalOf (by omega), e3, e1, tp_bd_s]
      refine wp2_lt2 ?_
      refine wp2_lt2 ?_
      suffices hw : wp (tp_lp3 (fx_X11_follows_L34 fun y13 y14 y15 M23 => tp_lt (x_or y13 (x_shl 1 y14)) fun x24 => tp_lm (tp_up M23 0 1 0) fun M25 => tp_jn1 (fun y26 M27 => tp_bd (fx_X11_flag y26 M27) fun r28 M29 => tp_bd (fx_X11_enters (w32 r28) M29) fun r30 M31 => tp_bd (fx_X11_enters (w32 y15) M31) fun r32 M33 => some (x24, M33)) fun jk91 => if w32 y14 = 0 then jk91 1 M25 else jk91 0 M25) tp_F (x_shl 1 a1) (ob (ob_phi (M 3) (M 4)) a1 1) 1 (tp_up M 0 0 0)) (fun r M1 => r = x ∧ ∃ a b : Int, a = x_and x 1 ∧ b = w32 (bc x - x_and x 1) ∧ M1 = tp_up (tp_up (tp_up (tp_up (tp_up (tp_up M 0 0 0) 0 1 0) 1 0 a) 0 1 (0 + 1)) 1 (0 + 1) b) 0 1 (0 + 1 + 1)) by
        obtain ⟨r, M1, f, rfl, a, b, rfl, rfl, rfl⟩ := hw
        rw [f]
        refine wp2_some (ans_told h (by (repeat (first | exact fr_rf | assumption | refine fr_up ?_ (by simp) | refine fr_cp ?_ (by simp) | exact fr_mono (by assumption) (by simp)))) (by (repeat (first | exact fr_rf | assumption | refine fr_up ?_ (by simp) | refine fr_cp ?_ (by simp) | exact fr_mono (by assumption) (by simp)))) ?_ rfl ⟨by decide, by decide⟩ (td_2C _ _ _) (td_2M _ _ _) (fun _ _ _ => rfl))
        exact scF_up (scF_k (scF_up (scF_k (scF_up (scF_up (scF_rf M) (by decide)) (by decide)) (by decide)) (by decide)) (by decide)) (by decide)
      refine wp_lp3 (fun a w g M1 => M1 = tp_up M 0 0 0 ∧ ∃ k : Nat, g = (k : Int) ∧ 1 ≤ k ∧ k ≤ 8 ∧ w = ob (ob_phi (M 3) (M 4)) a1 k ∧ (0 ≤ a ∧ a < 256) ∧ (∀ j : Nat, j < 8 → (bt a j ↔ ∃ i : Nat, i < k ∧ ob (ob_phi (M 3) (M 4)) a1 i = (j : Int))) ∧ (∀ i : Nat, i < k → ¬ ob (ob_phi (M 3) (M 4)) a1 i = 0) ∧ (∀ i j : Nat, i < j → j < k → ¬ ob (ob_phi (M 3) (M 4)) a1 i = ob (ob_phi (M 3) (M 4)) a1 j) ∧ bc a = (k : Int)) (fun _ _ g _ => (9 - g).toNat) ?_ tp_F _ _ 1 _ ⟨rfl, 1, rfl, by omega, by omega, rfl, b1.1, fun j hj => ?_, fun i hi => ?_, fun i j h1 h2 => by omega, bc_one (by omega)⟩ (tp_F_pos (by omega))
      · intro rec a w g M1 hI hrec
        obtain ⟨rfl, k, rfl, k1, k8, rfl, i1, i2, i3, i4, i5⟩ := hI
        have hk := hob k
        have hh := pm_has (a := a) (v := ob (ob_phi (M 3) (M 4)) a1 k) (by omega) (by omega) (tp_up M 0 0 0)
        have hbt := bt_or i1 (v := ob (ob_phi (M 3) (M 4)) a1 k) (by omega)
        have key : (ob (ob_phi (M 3) (M 4)) a1 k = 0 ∨ bt a (ob (ob_phi (M 3) (M 4)) a1 k).toNat) → x_or a (x_shl 1 (ob (ob_phi (M 3) (M 4)) a1 k)) = x := fun hc => by
          refine bt_ext hbt.1 x1 (fun j hj => ?_)
          rw [hbt.2 j, i2 j hj, x2 j hj]
          constructor
          · rintro (⟨i, _, h2⟩ | q)
            · exact ⟨i, h2⟩
            · exact ⟨k, q.symm⟩
          · rintro ⟨m, hm⟩
            rcases hc with h0 | hs
            · by_cases hmk : m < k
              · exact Or.inl ⟨m, hmk, hm⟩
              · rw [ob_zero h0 m (by omega)] at hm
                exact Or.inr (by omega)
            · rw [i2 _ (by omega)] at hs
              obtain ⟨i, q1, q2⟩ := hs
              have q2 : ob (ob_phi (M 3) (M 4)) a1 i = ob (ob_phi (M 3) (M 4)) a1 k := by rw [q2]; omega
              have hst := ob_stay q1 q2 (P := fun w => ∃ i : Nat, i < k ∧ ob (ob_phi (M 3) (M 4)) a1 i = w) (fun i hi => ⟨i, hi, rfl⟩) m
              rw [hm] at hst
              exact Or.inl hst
        have fin : ∀ M1 : tp_M, M1 = tp_up M 0 0 0 → (ob (ob_phi (M 3) (M 4)) a1 k = 0 ∨ bt a (ob (ob_phi (M 3) (M 4)) a1 k).toNat) → wp (tp_lt (x_or a (x_shl 1 (ob (ob_phi (M 3) (M 4)) a1 k))) fun x24 => tp_lm (tp_up M1 0 1 0) fun M25 => tp_jn1 (fun y26 M27 => tp_bd (fx_X11_flag y26 M27) fun r28 M29 => tp_bd (fx_X11_enters (w32 r28) M29) fun r30 M31 => tp_bd (fx_X11_enters (w32 (k : Int)) M31) fun r32 M33 => some (x24, M33)) fun jk91 => if ob (ob_phi (M 3) (M 4)) a1 k = 0 then jk91 1 M25 else jk91 0 M25) (fun r M1 => r = x ∧ ∃ a b : Int, a = x_and x 1 ∧ b = w32 (bc x - x_and x 1) ∧ M1 = tp_up (tp_up (tp_up (tp_up (tp_up (tp_up M 0 0 0) 0 1 0) 1 0 a) 0 1 (0 + 1)) 1 (0 + 1) b) 0 1 (0 + 1 + 1)) := fun M1 hM1 hc => by
          subst hM1
          have hkey := key hc
          refine wp_lt ?_
          refine wp_lm ?_
          refine wp_jn1 ?_
          have g1 : ∀ M : tp_M, fx_X11_flag 1 M = some (1, M) := fun _ => rfl
          have g0 : ∀ M : tp_M, fx_X11_flag 0 M = some (0, M) := fun _ => rfl
          by_cases h0 : ob (ob_phi (M 3) (M 4)) a1 k = 0
          · have hx0 : bt x 0 := by
              rw [x2 0 (by omega)]
              exact ⟨k, h0⟩
            have hbc := bc_add i1 (v := ob (ob_phi (M 3) (M 4)) a1 k) (by omega) (fun q => by
              rw [i2 _ (by omega)] at q
              obtain ⟨i, q1, q2⟩ := q
              exact i3 i q1 (by omega))
            rw [hkey] at hbc
            rw [hkey, if_pos h0]
            dsimp only
            rw [g1, tp_bd_s, (pm_enter2 (b := w32 (k : Int)) (up_s _ _ _ _)).1, tp_bd_s, (pm_enter2 (a := w32 1) (b := w32 (k : Int)) (up_s _ _ _ _)).2, tp_bd_s]
            refine wp_some ⟨rfl, w32 1, w32 (k : Int), by rw [hxand.1 hx0]; rfl, by rw [hbc, i5, hxand.1 hx0]; congr 1; omega, rfl⟩
          · have hs := hc.resolve_left h0
            have hx0 : ¬ bt x 0 := fun q => by
              rw [x2 0 (by omega)] at q
              obtain ⟨m, hm⟩ := q
              rw [i2 _ (by omega)] at hs
              obtain ⟨i, q1, q2⟩ := hs
              have q2 : ob (ob_phi (M 3) (M 4)) a1 i = ob (ob_phi (M 3) (M 4)) a1 k := by rw [q2]; omega
              exact ob_stay q1 q2 (P := fun w => ¬ w = 0) i3 m hm
            have hxa : x_or a (x_shl 1 (ob (ob_phi (M 3) (M 4)) a1 k)) = a := bt_ext hbt.1 i1 (fun j hj => by
              rw [hbt.2 j]
              constructor
              · rintro (q | q)
                · exact q
                · have : (ob (ob_phi (M 3) (M 4)) a1 k).toNat = j := by omega
                  rw [this] at hs
                  exact hs
              · exact Or.inl)
            rw [hxa] at hkey
            rw [hxa, hkey, if_neg h0]
            dsimp only
            rw [g0, tp_bd_s, (pm_enter2 (b := w32 (k : Int)) (up_s _ _ _ _)).1, tp_bd_s, (pm_enter2 (a := w32 0) (b := w32 (k : Int)) (up_s _ _ _ _)).2, tp_bd_s]
            refine wp_some ⟨rfl, w32 0, w32 (k : Int), by rw [hxand.2 hx0]; rfl, by rw [← hkey, i5, hkey, hxand.2 hx0, Int.sub_zero], rfl⟩
        rw [fx_X11_follows_L34]
        by_cases h0 : ob (ob_phi (M 3) (M 4)) a1 k = 0
        · rw [w32_id (show -2147483648 ≤ ob (ob_phi (M 3) (M 4)) a1 k ∧ ob (ob_phi (M 3) (M 4)) a1 k < 2147483648 by omega), if_pos (by omega)]
          exact fin _ rfl (Or.inl h0)
        · rw [w32_id (show -2147483648 ≤ ob (ob_phi (M 3) (M 4)) a1 k ∧ ob (ob_phi (M 3) (M 4)) a1 k < 2147483648 by omega), if_neg (by omega)]
          by_cases hs : bt a (ob (ob_phi (M 3) (M 4)) a1 k).toNat
          · rw [hh.1 hs, tp_bd_s, show w32 1 = 1 from rfl, if_neg (by decide)]
            exact fin _ rfl (Or.inr hs)
          · rw [hh.2 hs, tp_bd_s, show w32 0 = 0 from rfl, if_pos rfl]
            refine wp_lt ?_
            refine wp_ck (by omega) ?_
            have hpk := hp _ (show 1 ≤ ob (ob_phi (M 3) (M 4)) a1 k by omega) hk.2
            have dk := cn_D hN (a := ob (ob_phi (M 3) (M 4)) a1 k) ⟨by omega, hk.2⟩
            rw [e4, pm_goalOf (by omega), e3, tp_bd_s]
            refine wp_lt ?_
            refine wp_lt ?_
            have hdist : ∀ i j : Nat, i < j → j < k + 1 → ¬ ob (ob_phi (M 3) (M 4)) a1 i = ob (ob_phi (M 3) (M 4)) a1 j := fun i j q1 q2 => by
              by_cases hj : j = k
              · intro q
                rw [hj] at q
                apply hs
                rw [i2 _ (by omega)]
                exact ⟨i, by omega, by rw [q]; omega⟩
              · exact i4 i j q1 (by omega)
            have hnz : ∀ i : Nat, i < k + 1 → ¬ ob (ob_phi (M 3) (M 4)) a1 i = 0 := fun i hi => by
              by_cases hik : i = k
              · rw [hik]; exact h0
              · exact i3 i (by omega)
            have k7 : k + 1 ≤ 8 := by
              by_cases q : k + 1 ≤ 8
              · exact q
              · exfalso
                obtain ⟨i, j, q1, q2, q3⟩ := ob_seven (φ := ob_phi (M 3) (M 4)) (v := a1) (m := 7) 1 (fun i hi => by
                  have a := hob i
                  have b := hnz i (by omega)
                  omega)
                exact hdist i j q1 (by omega) q3
            refine hrec _ _ _ _ ⟨rfl, k + 1, by omega, by omega, k7, (phi_n h0).symm, hbt.1, fun j hj => ?_, hnz, hdist, ?_⟩ (by omega)
            · rw [hbt.2 j, i2 j hj]
              constructor
              · rintro (⟨i, q1, q2⟩ | q)
                · exact ⟨i, by omega, q2⟩
                · exact ⟨k, by omega, q.symm⟩
              · rintro ⟨i, q1, q2⟩
                by_cases hik : i = k
                · rw [hik] at q2; exact Or.inr q2.symm
                · exact Or.inl ⟨i, by omega, q2⟩
            · rw [bc_add i1 (by omega) hs, i5]; omega
      · rw [b1.2 j]
        constructor
        · intro q; exact ⟨0, by omega, q.symm⟩
        · rintro ⟨i, q1, q2⟩
          rw [show i = 0 by omega] at q2
          exact q2.symm
      · rw [show i = 0 by omega]
        show ¬ a1 = 0
        omega
    have hxw : w32 (x_and x 1) = x_and x 1 := x_and_w x 1
    rw [tp_bd_s, tp_lt_s, tp_lt_s, pj_bits, tp_bd_s, tp_lt_s, pc_tell2, tp_bd_s, hxw]
    exact hm
  · simp (disch := omega) only [↓tp_lm_n, ↓tp_lt_n, ↓tp_bd_n, ↓tp_jn0_n, ↓tp_jn1_n, ↓tp_jn2_n, ↓tp_jn3_n, w32_id, if_pos, if_neg, if_true, if_false, tp_ck_t, tp_nz_t, tp_gd_i, fl01]
    exact wp2_some (ans_no h)
theorem st_tree (h : Sim B C M) : wp2 (fx_X10_tree C) (fx_X11_tree M) (Ans B) := by
  have hN : nC C (M 0 3) (M 2) (M 3) := h.2.2.1
  have n8 := cn_n hN
  have hp := sm_posts h
  have hR2 : ∀ u : Int, 1 ≤ u → u < M 0 3 → 0 ≤ M 4 u ∧ M 4 u < M 2 u := fun u u1 u2 => (hp u u1 u2).2
  have hw8 : ∀ z : Int, 1 ≤ z → z < M 0 3 → (ob (ob_phi (M 3) (M 4)) z 8 = 0 → ob_w8 (M 3) (M 4) z = 1) ∧ (¬ ob (ob_phi (M 3) (M 4)) z 8 = 0 → ob_w8 (M 3) (M 4) z = 0) := fun z _ _ => ⟨fun q => if_pos q, fun q => if_neg q⟩
  have hin : ∀ z : Int, 0 ≤ ob_w8 (M 3) (M 4) z ∧ ob_w8 (M 3) (M 4) z ≤ 1 := fun z => by unfold ob_w8; split <;> omega
  have hin2 : ∀ z : Int, 0 ≤ rg_w8 (M 3) (M 4) z ∧ rg_w8 (M 3) (M 4) z ≤ 1 := fun z => by unfold rg_w8; split <;> omega
  obtain ⟨-, y3⟩ := lp3_for (b := fx_X10_tree_L6) (f := fun z a => a + ob_w8 (M 3) (M 4) z) (g := fun z a => a + rg_w8 (M 3) (M 4) z) (M := C) (fun _ _ _ => True) (M 0 3 - 1).toNat 1 0 0 tp_F trivial (fun K rec a c z _ z1 z2 => by
    refine ⟨?_, trivial⟩
    obtain ⟨x, x1, x2, x3⟩ := cs_track hN hp (v := z) (by omega)
    have hx := x_and_1 x1
    have hr := cs_ring hN hp (v := z) (by omega)
    have h0 : bt x 0 ↔ ob (ob_phi (M 3) (M 4)) z 8 = 0 := by
      rw [x2 0 (by omega)]
      exact ob_eight hN.2.1 hR2 (by omega)
    have hrr := ob_ring hN.2.1 hR2 (v := z) (by omega)
    obtain ⟨w1, w2⟩ := hw8 z z1 (by omega)
    have hg : rg_w8 (M 3) (M 4) z = if ob_st (ob_phi (M 3) (M 4)) z 8 (ob_phi (M 3) (M 4) z) = z then 1 else 0 := rfl
    rw [fx_X10_tree_L6, cn_crossings hN, tp_bd_s, w32_id (show -2147483648 ≤ z ∧ z < 2147483648 by omega), w32_id (show -2147483648 ≤ M 0 3 ∧ M 0 3 < 2147483648 by omega), if_pos (by omega), x3, tp_bd_s, x_and_w, hg]
    by_cases hq : ob_st (ob_phi (M 3) (M 4)) z 8 (ob_phi (M 3) (M 4) z) = z
    · rw [if_pos (hrr.mpr hq)] at hr
      rw [if_pos hq]
      by_cases hb : bt x 0
      · rw [w1 (h0.mp hb)]
        simp (disch := omega) only [↓tp_lm_n, ↓tp_lt_n, ↓tp_bd_n, ↓tp_jn0_n, ↓tp_jn1_n, ↓tp_jn2_n, ↓tp_jn3_n, w32_id, if_pos, if_neg, if_true, if_false, tp_ck_t, tp_nz_t, tp_gd_i, hr, hx.1 hb]
      · rw [w2 (fun q => hb (h0.mpr q)), Int.add_zero]
        simp (disch := omega) only [↓tp_lm_n, ↓tp_lt_n, ↓tp_bd_n, ↓tp_jn0_n, ↓tp_jn1_n, ↓tp_jn2_n, ↓tp_jn3_n, w32_id, if_pos, if_neg, if_true, if_false, tp_ck_t, tp_nz_t, tp_gd_i, hr, hx.2 hb]
    · rw [if_neg (fun q => hq (hrr.mp q))] at hr
      rw [if_neg hq, Int.add_zero]
      by_cases hb : bt x 0
      · rw [w1 (h0.mp hb)]
        simp (disch := omega) only [↓tp_lm_n, ↓tp_lt_n, ↓tp_bd_n, ↓tp_jn0_n, ↓tp_jn1_n, ↓tp_jn2_n, ↓tp_jn3_n, w32_id, if_pos, if_neg, if_true, if_false, tp_ck_t, tp_nz_t, tp_gd_i, hr, hx.1 hb]
      · rw [w2 (fun q => hb (h0.mpr q)), Int.add_zero]
        simp (disch := omega) only [↓tp_lm_n, ↓tp_lt_n, ↓tp_bd_n, ↓tp_jn0_n, ↓tp_jn1_n, ↓tp_jn2_n, ↓tp_jn3_n, w32_id, if_pos, if_neg, if_true, if_false, tp_ck_t, tp_nz_t, tp_gd_i, hr, hx.2 hb]) (fun K rec a c _ => by
    rw [fx_X10_tree_L6, cn_crossings hN, tp_bd_s, w32_id (by omega), w32_id (by omega), if_neg (by omega)]) (tp_F_pos (by omega))
  rw [fZ_sum (g := ob_w8 (M 3) (M 4)) _ _ _ (fun _ _ _ _ => rfl), fZ_sum (g := rg_w8 (M 3) (M 4)) _ _ _ (fun _ _ _ _ => rfl), Int.zero_add, Int.zero_add] at y3
  have s1 := sumI_in (g := ob_w8 (M 3) (M 4)) (lo := 0) (hi := 1) (M 0 3 - 1).toNat 1 (fun z _ _ => hin z)
  have s2 := sumI_in (g := rg_w8 (M 3) (M 4)) (lo := 0) (hi := 1) (M 0 3 - 1).toNat 1 (fun z _ _ => hin2 z)
  have hcb := ps_comesBy (kr := 4) (kn := 17) (Or.inl ⟨rfl, rfl⟩) (M := tp_up M 0 0 0) hN.2.1 hR2
  have hrb : ∀ MM : tp_M, MM 0 3 = M 0 3 → MM 2 = M 2 → MM 3 = M 3 → MM 4 = M 4 → fx_X11_ringsBy 4 17 MM = some (sumI (rg_w8 (M 3) (M 4)) 1 (M 0 3 - 1).toNat, MM) := fun MM q1 q2 q3 q4 => by
    have := ps_ringsBy (kr := 4) (kn := 17) ⟨rfl, rfl⟩ (M := MM) (by rw [q1, q2, q3]; exact hN.2.1) (by rw [q1, q2, q4]; exact hR2)
    rw [this, q1, q3, q4]
  have k3 : tp_up M 0 0 0 3 = M 3 := up_k _ _ _ (by decide)
  have k4 : tp_up M 0 0 0 4 = M 4 := up_k _ _ _ (by decide)
  have k03 : tp_up M 0 0 0 0 3 = M 0 3 := rfl
  rw [k3, k4, k03] at hcb
  generalize sumI (ob_w8 (M 3) (M 4)) 1 (M 0 3 - 1).toNat = S1 at *
  generalize sumI (rg_w8 (M 3) (M 4)) 1 (M 0 3 - 1).toNat = S2 at *
  have g1 : ∀ M : tp_M, fx_X11_flag 1 M = some (1, M) := fun _ => rfl
  have g0 : ∀ M : tp_M, fx_X11_flag 0 M = some (0, M) := fun _ => rfl
  unfold fx_X10_tree fx_X11_tree
  rw [tp_lt_s, tp_lt_s, tp_lt_s, y3]
  refine wp2_lm2 ?_
  rw [hcb, tp_bd_s, cn_crossings hN, tp_bd_s]
  refine wp2_lt2 ?_
  refine wp2_lm2 ?_
  refine wp2_jn11 ?_
  refine wp2_jn12 ?_
  have k13 : tp_up (tp_up M 0 0 0) 0 1 0 0 3 = M 0 3 := rfl
  rw [k13]
  have fin : ∀ f : Int, w32 f = f → wp2 (tp_bd (fx_X8_tell__ f (w32 S2) C) fun r28 M29 => some (S1, M29)) (tp_bd (fx_X11_enters (w32 f) (tp_up (tp_up M 0 0 0) 0 1 0)) fun r10 M11 => tp_bd (fx_X11_ringsBy 4 17 M11) fun r12 M13 => tp_bd (fx_X11_enters (w32 r12) M13) fun r14 M15 => some (S1, M15)) (Ans B) := fun f hf => by
    rw [hf, pc_tell2, tp_bd_s, (pm_enter2 (a := f) (b := w32 S2) (up_s _ _ _ _)).1, tp_bd_s, hrb (tp_up (tp_up (tp_up (tp_up M 0 0 0) 0 1 0) 1 0 f) 0 1 (0 + 1)) rfl (by simp (disch := omega) only [up_k]) (by simp (disch := omega) only [up_k]) (by simp (disch := omega) only [up_k]), tp_bd_s, (pm_enter2 (a := f) (b := w32 S2) (up_s _ _ _ _)).2, tp_bd_s]
    refine wp2_some (ans_told h (by (repeat (first | exact fr_rf | assumption | refine fr_up ?_ (by simp) | refine fr_cp ?_ (by simp) | exact fr_mono (by assumption) (by simp)))) (by (repeat (first | exact fr_rf | assumption | refine fr_up ?_ (by simp) | refine fr_cp ?_ (by simp) | exact fr_mono (by assumption) (by simp)))) ?_ rfl ⟨by decide, by decide⟩ (td_2C _ _ _) (td_2M _ _ _) (fun _ _ _ => rfl))
    exact scF_up (scF_k (scF_up (scF_k (scF_up (scF_up (scF_rf M) (by decide)) (by decide)) (by decide)) (by decide)) (by decide)) (by decide)
  by_cases hs : w32 S1 = w32 (M 0 3 - 1)
  · rw [if_pos hs, if_pos hs]
    dsimp only
    rw [g1, tp_bd_s]
    exact fin 1 rfl
  · rw [if_neg hs, if_neg hs]
    dsimp only
    rw [g0, tp_bd_s]
    exact fin 0 rfl
end ST
