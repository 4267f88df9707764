/-! ACTS: walks, bursts -/
theorem pc_tell1 {M : tp_M} {a : Int} : fx_X8_tell_ a M = some (0, tp_up (tp_up (tp_up M 3 1 0) 4 0 a) 3 1 1) := by
  unfold fx_X8_tell_
  rw [pc_tell, tp_bd_s, pc_add (t := 0) (up_s _ _ _ _) (by decide), tp_bd_s]
  rfl
theorem cy_gen {t k : Nat} (ht : t = 25 ∨ t = 28 ∨ t = 31) (hk : k = 25 ∨ k = 28 ∨ k = 31) (h : ¬ t = k) (C : tp_M) : wp (fx_X2_copyFrom t k C) (fun _ C1 => tp_fr [t, t + 1, t + 2] C C1 ∧ C1 t 2 = C k 2 ∧ C1 t 3 = C k 3 ∧ ∀ j : Int, 0 ≤ j → j < 8 → C1 (t + 1) j = C (k + 1) j ∧ C1 (t + 2) j = C (k + 2) j) := by
  rw [pc_copyFrom]
  refine wp_some ⟨fr_cp (fr_cp (fr_up (fr_up fr_rf (by simp)) (by simp)) (by simp)) (by simp), ?_, ?_, fun j j1 j2 => ⟨?_, ?_⟩⟩
  · simp (disch := omega) only [cp_k, up_k, up_j, up_s]
  · simp (disch := omega) only [cp_k, up_k, up_j, up_s]
  · simp (disch := omega) only [cp_k, up_k, cp_c]
    rw [if_pos (by omega), show (0 : Int) + (j - 0) = j by omega]
  · simp (disch := omega) only [cp_k, up_k, cp_c]
    rw [if_pos (by omega), show (0 : Int) + (j - 0) = j by omega]
/-- which he came through -/
theorem cs_through {C : tp_M} {K : Int → tp_M → tp_O} {Q : Int → tp_M → Prop} (c2 : Int) (hb : ∀ u : Int, 0 ≤ u → u < 8 → 0 ≤ C 59 u ∧ C 59 u ≤ 1000) (hK : ∀ x : Int, 0 ≤ x ∧ x < 256 → (∀ j : Nat, j < 8 → (bt x j ↔ j = 0 ∨ 0 < C 59 (j : Int))) → wp (K x C) Q) : wp (tp_lp2 (fx_X10_actWalks_L89 c2 K) tp_F 1 1 C) Q := by
  refine wp_lp2 (fun a z C1 => C1 = C ∧ (1 ≤ z ∧ z ≤ 8) ∧ (0 ≤ a ∧ a < 256) ∧ ∀ j : Nat, j < 8 → (bt a j ↔ j = 0 ∨ ((j : Int) < z ∧ 0 < C 59 (j : Int)))) (fun _ z _ => (8 - z).toNat) ?_ tp_F 1 1 C ⟨rfl, by omega, by omega, fun j hj => ?_⟩ (tp_F_pos (by omega))
  · intro rec a z C1 hI hrec
    obtain ⟨rfl, i1, i2, i3⟩ := hI
    unfold fx_X10_actWalks_L89
    by_cases hz : z < 8
    · have h59 := hb z (by omega) hz
      by_cases hl : 0 < C1 59 z
      · simp (disch := omega) only [↓tp_lm_n, ↓tp_lt_n, ↓tp_bd_n, ↓tp_jn0_n, ↓tp_jn1_n, ↓tp_jn2_n, ↓tp_jn3_n, w32_id, if_pos, if_neg, tp_ck_t, tp_nz_t, tp_gd_i]
        have hbt := bt_or i2 (v := z) (by omega)
        refine hrec _ _ _ ⟨rfl, by omega, hbt.1, fun j hj => ?_⟩ (by omega)
        rw [hbt.2 j, i3 j hj]
        constructor
        · rintro ((q | ⟨q1, q2⟩) | q)
          · exact Or.inl q
          · exact Or.inr ⟨by omega, q2⟩
          · exact Or.inr ⟨by omega, by rw [q]; exact hl⟩
        · rintro (q | ⟨q1, q2⟩)
          · exact Or.inl (Or.inl q)
          · by_cases e : (j : Int) = z
            · exact Or.inr e
            · exact Or.inl (Or.inr ⟨by omega, q2⟩)
      · simp (disch := omega) only [↓tp_lm_n, ↓tp_lt_n, ↓tp_bd_n, ↓tp_jn0_n, ↓tp_jn1_n, ↓tp_jn2_n, ↓tp_jn3_n, w32_id, if_pos, if_neg, tp_ck_t, tp_nz_t, tp_gd_i]
        refine hrec _ _ _ ⟨rfl, by omega, i2, fun j hj => ?_⟩ (by omega)
        rw [i3 j hj]
        constructor
        · rintro (q | ⟨q1, q2⟩)
          · exact Or.inl q
          · exact Or.inr ⟨by omega, q2⟩
        · rintro (q | ⟨q1, q2⟩)
          · exact Or.inl q
          · by_cases e : (j : Int) = z
            · rw [e] at q2; exact absurd q2 hl
            · exact Or.inr ⟨by omega, q2⟩
    · simp (disch := omega) only [↓tp_lm_n, ↓tp_lt_n, ↓tp_bd_n, ↓tp_jn0_n, ↓tp_jn1_n, ↓tp_jn2_n, ↓tp_jn3_n, w32_id, if_pos, if_neg, tp_ck_t, tp_nz_t, tp_gd_i]
      refine hK a i2 (fun j hj => ?_)
      rw [i3 j hj]
      constructor
      · rintro (q | ⟨q1, q2⟩)
        · exact Or.inl q
        · exact Or.inr q2
      · rintro (q | q)
        · exact Or.inl q
        · exact Or.inr ⟨by omega, q⟩
  · constructor
    · intro q
      unfold bt at q
      have h1 : ∀ j : Nat, j < 8 → (1 : Int).toNat.testBit j = true → j = 0 := by decide
      exact Or.inl (h1 j hj q)
    · rintro (q | ⟨q1, q2⟩)
      · rw [q]; show (1 : Int).toNat.testBit 0 = true; decide
      · rw [show j = 0 by omega]; show (1 : Int).toNat.testBit 0 = true; decide
theorem ac_walks {C M : tp_M} {B a1 : Int} (h1 : pu_in a1) (hE : ac_env C M) (h : ac_row C M (M 0 3) (M 2) B) (hB : B ≤ 1000000) : wp2 (fx_X10_actWalks a1 C) (fx_X11_walksOne a1 M) (ac_post C M B (fun C1 M1 r => if r < 0 then tl_same C M C1 M1 else C1 3 1 = 1 ∧ C1 4 0 = w32 (M1 0 25) ∧ M1 1 = M 1 ∧ M1 0 1 = M 0 1)) := by
  have hE2 := hE
  obtain ⟨hN, hR⟩ := hE
  have n8 := cn_n hN
  have h1' := h1
  unfold pu_in at h1'
  refine wp2_K (fun Q hQ => ?_)
  have hno (r : Int) (hr : ac_in r) (hn : r < 0) : wp2 (some (r, C)) (some (r, M)) Q := wp2_some (hQ _ _ _ _ ⟨rfl, hr, fr_rf, acM_rf M, h, by simp only [if_pos hn]; exact ⟨rfl, rfl, rfl, rfl⟩⟩)
  by_cases c1 : 1 ≤ a1 ∧ a1 < M 0 3
  · obtain ⟨p1, p2, p3, p4⟩ := h.2.2.2.2.1 a1 c1.1 c1.2
    by_cases hw : M 4 (8 + a1) = 0
    · unfold fx_X10_actWalks fx_X11_walksOne
      rw [cn_hasPost hN h1, pm_isOut (M := M) (n := M 0 3) rfl (by omega) h1]
      simp (disch := omega) only [↓tp_lm_n, ↓tp_lt_n, ↓tp_bd_n, ↓tp_jn0_n, ↓tp_jn1_n, ↓tp_jn2_n, ↓tp_jn3_n, w32_id, if_pos, if_neg, tp_ck_t, tp_nz_t, tp_gd_i, fl01, p3]
      (first | exact hno (-1) ⟨by decide, by decide⟩ (by decide) | exact hno (-2) ⟨by decide, by decide⟩ (by decide) | exact hno (-3) ⟨by decide, by decide⟩ (by decide))
    · have hm := ps_walksOne (M := M) (f := C 16) (s := M 0 18) (v := a1) (B := B) hN.2.1 ⟨rfl, hR.2.1, hR.2.2⟩ (rr_of h) c1 (by omega)
      obtain ⟨r2, M1, f2, m1, m2, m3⟩ := hm
      rw [f2]
      unfold fx_X10_actWalks
      rw [cn_hasPost hN h1]
      simp (disch := omega) only [↓tp_lm_n, ↓tp_lt_n, ↓tp_bd_n, ↓tp_jn0_n, ↓tp_jn1_n, ↓tp_jn2_n, ↓tp_jn3_n, w32_id, if_pos, if_neg, tp_ck_t, tp_nz_t, tp_gd_i, fl01, p3]
      refine wp2_c1 (cy_gen (t := 28) (k := 25) (by omega) (by omega) (by decide) C) (fun _ C1 q => ?_)
      obtain ⟨q1, q2, q3, q4⟩ := q
      generalize hC2 : tp_up C1 30 a1 (C1 30 a1 - 1) = C2
      have e2 : ∀ c : Nat, ¬ c = 30 → C2 c = C1 c := fun c hc => by rw [← hC2, up_k _ _ _ hc]
      have eo : ∀ c : Nat, ¬ c = 28 → ¬ c = 29 → ¬ c = 30 → C2 c = C c := fun c b1 b2 b3 => by rw [e2 c b3, q1 c (by simp; omega)]
      have hN2 : nC C2 (M 0 3) (M 2) (M 3) := nC_fr hN (eo 5 (by decide) (by decide) (by decide)) (eo 6 (by decide) (by decide) (by decide)) (eo 7 (by decide) (by decide) (by decide)) (eo 8 (by decide) (by decide) (by decide)) (eo 9 (by decide) (by decide) (by decide))
      have hrow1 : sm_row (C1 29) (C1 30) (C1 28 2) (C1 28 3) (M 4) (M 0 3) (M 2) B := sm_row_cg (by omega) h (fun u u1 u2 => (q4 u u1 u2).1) (fun u u1 u2 => (q4 u u1 u2).2) q2 q3 (fun _ _ _ => rfl)
      have hrow2 : sm_row (C2 29) (C2 30) (C2 28 2) (C2 28 3) (rw_add (M 4) a1 (-1)) (M 0 3) (M 2) B := by
        rw [e2 29 (by decide), e2 28 (by decide)]
        exact sr_add (x := -1) (by omega) (Int.le_refl B) hrow1 c1 (by omega) (fun u => by rw [← hC2]; exact up_cv _ _ _ _ _ (by omega) u)
      refine wp2_c1 (cs_walkHome (t := 15) (s := M 0 18) (Or.inl rfl) hN2 (by rw [eo 15 (by decide) (by decide) (by decide)]; exact hR.1) (by rw [eo 16 (by decide) (by decide) (by decide)]; exact hR.2.1) hrow2 c1) (fun r1 C3 q => ?_)
      obtain ⟨s1, s2⟩ := q
      rw [show 15 + 1 = 16 from rfl, eo 16 (by decide) (by decide) (by decide)] at s2
      have f3 : tp_fr [18, 28, 29, 30, 59] C C3 := by
        refine fr_tr ?_ (fr_mono s1 (by simp))
        rw [← hC2]
        exact fr_up (fr_mono q1 (by simp)) (by simp)
      rcases s2 with ⟨k, k1, k2, k3, k4⟩ | ⟨k1, k2⟩
      · rcases m3 with ⟨l, l1, l2, l3, l4, l5⟩ | ⟨l1, l2, l3⟩
        · obtain rfl := wk_hm_u k1 l1
          have k999 := k1.2.1
          have k0 := k1.1
          simp (disch := omega) only [↓tp_lm_n, ↓tp_lt_n, ↓tp_bd_n, ↓tp_jn0_n, ↓tp_jn1_n, ↓tp_jn2_n, ↓tp_jn3_n, w32_id, if_pos, if_neg, tp_ck_t, tp_nz_t, tp_gd_i]
          refine wp2_c1 (cy_gen (t := 25) (k := 28) (by omega) (by omega) (by decide) C3) (fun _ C4 q => ?_)
          obtain ⟨t1, t2, t3, t4⟩ := q
          have e59 : C4 59 = C3 59 := t1 59 (by simp)
          have hcs := cs_through (C := C4) (K := fun y16 M21 => tp_bd (fx_X8_tell_ (w32 y16) M21) fun r22 M23 => some (r1, M23)) (Q := fun r C5 => r = r1 ∧ tp_fr [3, 4] C4 C5 ∧ C5 3 1 = 1 ∧ C5 4 0 = M1 0 25) r1 (fun u u1 u2 => by
            rw [e59, k4 u u1 u2]
            have := wk_cnt_in (fun i => (wk (M 2) (M 3) (C 16) (M 0 18) (rw_add (M 4) a1 (-1)) a1 i).1) u k
            omega) (fun x x1 x2 => by
              have hx : x = M1 0 25 := bt_ext x1 l4 (fun j hj => by
                rw [x2 j hj, l5 j hj, e59, k4 (j : Int) (by omega) (by omega), wk_cnt_pos]
                constructor
                · rintro (q | ⟨i, i1, i2⟩)
                  · exact ⟨k, Nat.le_refl k, by rw [q]; exact k1.2.2.1⟩
                  · exact ⟨i, by omega, i2⟩
                · rintro ⟨i, i1, i2⟩
                  by_cases e : i = k
                  · rw [e] at i2
                    have h9 := k1.2.2.1
                    exact Or.inl (by
                      have h9 : (wk (M 2) (M 3) (C 16) (M 0 18) (rw_add (M 4) a1 (-1)) a1 k).1 = 0 := h9
                      omega)
                  · exact Or.inr ⟨i, by omega, i2⟩)
              rw [pc_tell1]
              simp (disch := omega) only [↓tp_lm_n, ↓tp_lt_n, ↓tp_bd_n, ↓tp_jn0_n, ↓tp_jn1_n, ↓tp_jn2_n, ↓tp_jn3_n, w32_id, if_pos, if_neg, tp_ck_t, tp_nz_t, tp_gd_i]
              refine wp_some ⟨rfl, fr_up (fr_up (fr_up fr_rf (by simp)) (by simp)) (by simp), up_s _ _ _ _, ?_⟩
              rw [up_k _ _ _ (by decide), up_s, hx])
          obtain ⟨r5, C5, g1, g2, g3, g4, g5⟩ := hcs
          rw [g1, g2]
          have f5 : ac_C C C5 := fr_tr (fr_mono f3 (by simp)) (fr_tr (fr_mono t1 (by simp)) (fr_mono g3 (by simp)))
          refine wp2_some (hQ _ _ _ _ ⟨by rw [k2, l2], ⟨by omega, by omega⟩, f5, ⟨fr_mono m1 (by simp), fun j hj => m2 j (by simp at hj; omega)⟩, ?_, ?_⟩)
          · unfold ac_row
            rw [l3, g3 26 (by simp), g3 27 (by simp), g3 25 (by simp)]
            exact sm_row_cg (by omega) k3 (fun u u1 u2 => (t4 u u1 u2).1) (fun u u1 u2 => (t4 u u1 u2).2) t2 t3 (fun _ _ _ => rfl)
          · simp only [if_neg (show ¬ r2 < 0 by omega)]
            exact ⟨g4, by rw [g5, w32_id (by omega)], m1 1 (by simp), m2 1 (by decide)⟩
        · exact absurd k1.2.2.1 (l2 k k1.2.1)
      · rcases m3 with ⟨l, l1, l2, l3, l4, l5⟩ | ⟨l1, l2, l3⟩
        · exact absurd l1.2.2.1 (k2 l l1.2.1)
        · simp (disch := omega) only [↓tp_lm_n, ↓tp_lt_n, ↓tp_bd_n, ↓tp_jn0_n, ↓tp_jn1_n, ↓tp_jn2_n, ↓tp_jn3_n, w32_id, if_pos, if_neg, tp_ck_t, tp_nz_t, tp_gd_i]
          refine wp2_some (hQ _ _ _ _ ⟨by rw [k1, l1], by rw [l1]; exact ⟨by decide, by decide⟩, fr_mono f3 (by simp), ⟨fr_mono m1 (by simp), fun j hj => m2 j (by simp at hj; omega)⟩, ?_, ?_⟩)
          · unfold ac_row
            rw [f3 26 (by simp), f3 27 (by simp), f3 25 (by simp)]
            exact sm_row_cg (by omega) h (fun _ _ _ => rfl) (fun _ _ _ => rfl) rfl rfl l3
          · simp only [if_pos (show r2 < 0 by omega)]
            exact ⟨f3 3 (by simp), f3 4 (by simp), m1 1 (by simp), m2 1 (by decide)⟩
  · unfold fx_X10_actWalks fx_X11_walksOne
    rw [cn_hasPost hN h1, pm_isOut (M := M) (n := M 0 3) rfl (by omega) h1]
    simp (disch := omega) only [↓tp_lm_n, ↓tp_lt_n, ↓tp_bd_n, ↓tp_jn0_n, ↓tp_jn1_n, ↓tp_jn2_n, ↓tp_jn3_n, w32_id, if_pos, if_neg, tp_ck_t, tp_nz_t, tp_gd_i, fl01]
    (first | exact hno (-1) ⟨by decide, by decide⟩ (by decide) | exact hno (-2) ⟨by decide, by decide⟩ (by decide) | exact hno (-3) ⟨by decide, by decide⟩ (by decide))
theorem cs_canBurst {k1 : Nat} (hk : k1 = 25 ∨ k1 = 28 ∨ k1 = 31) {C : tp_M} {n : Int} {D G : Int → Int} {v : Int} (hN : nC C n D G) (hv : 1 ≤ v ∧ v < n) (hc : 0 ≤ C (k1 + 2) v ∧ C (k1 + 2) v < 2147483648) : fx_X10_canBurst k1 v C = some (if D v ≤ C (k1 + 2) v then 1 else 0, C) := by
  have n8 := cn_n hN
  have d4 := cn_D hN hv
  have i1 : pu_in v := (by unfold pu_in; omega)
  unfold fx_X10_canBurst
  rw [cn_hasPost hN i1]
  by_cases h : D v ≤ C (k1 + 2) v
  · simp (disch := omega) only [↓tp_lm_n, ↓tp_lt_n, ↓tp_bd_n, ↓tp_jn0_n, ↓tp_jn1_n, ↓tp_jn2_n, ↓tp_jn3_n, w32_id, if_pos, if_neg, tp_ck_t, tp_nz_t, tp_gd_i, fl01, cn_degree hN hv]
  · simp (disch := omega) only [↓tp_lm_n, ↓tp_lt_n, ↓tp_bd_n, ↓tp_jn0_n, ↓tp_jn1_n, ↓tp_jn2_n, ↓tp_jn3_n, w32_id, if_pos, if_neg, tp_ck_t, tp_nz_t, tp_gd_i, fl01, cn_degree hN hv]
theorem ac_bursts {C M : tp_M} {B a1 : Int} (h1 : pu_in a1) (hE : ac_env C M) (h : ac_row C M (M 0 3) (M 2) B) (hB : B ≤ 900000) : wp2 (fx_X10_actBursts a1 C) (fx_X11_burstsOne 4 17 a1 M) (ac_post C M (B + 4) (fun C1 M1 _ => tl_same C M C1 M1)) := by
  have hE2 := hE
  obtain ⟨hN, hR⟩ := hE
  have n8 := cn_n hN
  have h1' := h1
  unfold pu_in at h1'
  refine wp2_K (fun Q hQ => ?_)
  have hno (r : Int) (hr : ac_in r) : wp2 (some (r, C)) (some (r, M)) Q := wp2_some (hQ _ _ _ _ ⟨rfl, hr, fr_rf, acM_rf M, sm_row_le (by omega) h, rfl, rfl, rfl, rfl⟩)
  unfold fx_X10_actBursts fx_X11_burstsOne
  rw [cn_hasPost hN h1, pm_isOut (M := M) (n := M 0 3) rfl (by omega) h1]
  by_cases c1 : 1 ≤ a1 ∧ a1 < M 0 3
  · obtain ⟨p1, p2, p3, p4⟩ := h.2.2.2.2.1 a1 c1.1 c1.2
    have d4 := cn_D hN c1
    have hcb := cs_canBurst (k1 := 25) (Or.inl rfl) hN c1 (by rw [p3]; omega)
    rw [show C (25 + 2) a1 = M 4 (8 + a1) from p3] at hcb
    by_cases hw : M 2 a1 ≤ M 4 (8 + a1)
    · rw [if_pos hw] at hcb
      obtain ⟨r1, C1, f1, q1, q2, q3⟩ := cs_burst (k1 := 25) (Or.inl rfl) hN h c1 hw (by omega)
      obtain ⟨r2, M1, f2, s1, s2⟩ := ps_burst (kr := 4) (Or.inl rfl) (M := M) (v := a1) (by omega) d4 (fun k k1 k2 => by have := cn_G hN c1 ⟨k1, k2⟩; omega) h.2.1
      rw [← s2] at q3
      have e := q3.2.2.2.2.1 a1 c1.1 c1.2
      simp (disch := omega) only [↓tp_lm_n, ↓tp_lt_n, ↓tp_bd_n, ↓tp_jn0_n, ↓tp_jn1_n, ↓tp_jn2_n, ↓tp_jn3_n, w32_id, if_pos, if_neg, tp_ck_t, tp_nz_t, tp_gd_i, fl01, hcb, f1, f2]
      refine wp2_some (hQ _ _ _ _ ⟨e.2.2.1, ⟨by omega, by omega⟩, fr_mono q2 (by simp), acM_fr (fr_mono s1 (by simp)), q3, q2 3 (by simp), q2 4 (by simp), s1 1 (by simp), by rw [s1 0 (by simp)]⟩)
    · rw [if_neg hw] at hcb
      simp (disch := omega) only [↓tp_lm_n, ↓tp_lt_n, ↓tp_bd_n, ↓tp_jn0_n, ↓tp_jn1_n, ↓tp_jn2_n, ↓tp_jn3_n, w32_id, if_pos, if_neg, tp_ck_t, tp_nz_t, tp_gd_i, fl01, hcb]
      (first | exact hno (-1) ⟨by decide, by decide⟩ | exact hno (-2) ⟨by decide, by decide⟩ | exact hno (-3) ⟨by decide, by decide⟩)
  · simp (disch := omega) only [↓tp_lm_n, ↓tp_lt_n, ↓tp_bd_n, ↓tp_jn0_n, ↓tp_jn1_n, ↓tp_jn2_n, ↓tp_jn3_n, w32_id, if_pos, if_neg, tp_ck_t, tp_nz_t, tp_gd_i, fl01]
    (first | exact hno (-1) ⟨by decide, by decide⟩ | exact hno (-2) ⟨by decide, by decide⟩ | exact hno (-3) ⟨by decide, by decide⟩)
