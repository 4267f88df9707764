/-! ACTS on both sides -/
theorem wp2_K {o1 o2 : tp_O} {P : Int → tp_M → Int → tp_M → Prop} (h : ∀ Q : Int → tp_M → Int → tp_M → Prop, (∀ r1 C1 r2 M1, P r1 C1 r2 M1 → Q r1 C1 r2 M1) → wp2 o1 o2 Q) : wp2 o1 o2 P := h P (fun _ _ _ _ h => h)
def ac_in (r : Int) : Prop := -3 ≤ r ∧ r ≤ 1000000
def ac_C (C C1 : tp_M) : Prop := tp_fr [3, 4, 18, 25, 26, 27, 28, 29, 30, 37, 38, 59] C C1
def ac_M (M M1 : tp_M) : Prop := tp_fr [0, 1, 4, 5, 11, 12, 15] M M1 ∧ ∀ j : Int, j ∉ ([1, 25] : List Int) → M1 0 j = M 0 j
def ac_env (C M : tp_M) : Prop := nC C (M 0 3) (M 2) (M 3) ∧ sm_rule (C 15 4) (C 16) (M 0 18) (M 9)
def ac_row (C M : tp_M) (n : Int) (D : Int → Int) (B : Int) : Prop := sm_row (C 26) (C 27) (C 25 2) (C 25 3) (M 4) n D B
def tl_same (C M C1 M1 : tp_M) : Prop := C1 3 = C 3 ∧ C1 4 = C 4 ∧ M1 1 = M 1 ∧ M1 0 1 = M 0 1
def ac_post (C M : tp_M) (B : Int) (T : tp_M → tp_M → Int → Prop) (r1 : Int) (C1 : tp_M) (r2 : Int) (M1 : tp_M) : Prop := r1 = r2 ∧ ac_in r2 ∧ ac_C C C1 ∧ ac_M M M1 ∧ ac_row C1 M1 (M 0 3) (M 2) B ∧ T C1 M1 r2
theorem acM_rf (M : tp_M) : ac_M M M := ⟨fr_rf, fun _ _ => rfl⟩
theorem acM_fr {M M1 : tp_M} (h : tp_fr [1, 4, 5, 11, 12, 15] M M1) : ac_M M M1 := ⟨fr_mono h (by simp), fun j _ => by rw [h 0 (by simp)]⟩
theorem up_add (M : tp_M) (k : Nat) (v x : Int) : tp_up M k (8 + v) (M k (8 + v) + x) k = rw_add (M k) v x := by
  funext j
  rw [up_c]
  unfold rw_add
  by_cases hj : j = 8 + v
  · rw [if_pos hj, if_pos hj, hj]
  · rw [if_neg hj, if_neg hj]
theorem up_cv (M : tp_M) (k : Nat) (v y x : Int) (h : y = M k v + x) : ∀ u : Int, tp_up M k v y k u = if u = v then M k u + x else M k u := fun u => by
  rw [up_c]
  by_cases hu : u = v
  · rw [if_pos hu, if_pos hu, hu, h]
  · rw [if_neg hu, if_neg hu]
theorem ac_comes {C M : tp_M} {B a1 a2 : Int} (h1 : pu_in a1) (h2 : pu_in a2) (hE : ac_env C M) (h : ac_row C M (M 0 3) (M 2) B) (hB : 99 ≤ B) (hB2 : B ≤ 1000000) : wp2 (fx_X10_actComes a1 a2 C) (fx_X11_comesMany 4 17 a1 a2 M) (ac_post C M B (fun C1 M1 _ => tl_same C M C1 M1)) := by
  obtain ⟨hN, hR⟩ := hE
  have n8 := hN.2.1.1
  unfold pu_in at h1 h2
  refine wp2_K (fun Q hQ => ?_)
  have hno (r : Int) (hr : ac_in r) : wp2 (some (r, C)) (some (r, M)) Q := wp2_some (hQ _ _ _ _ ⟨rfl, hr, fr_rf, acM_rf M, h, rfl, rfl, rfl, rfl⟩)
  unfold fx_X10_actComes fx_X11_comesMany
  rw [pc_hasPost hN.1 (by omega) h1, pm_isOut (M := M) (n := M 0 3) rfl (by omega) h1]
  by_cases c1 : 1 ≤ a1 ∧ a1 < M 0 3
  · obtain ⟨p1, p2, p3, p4⟩ := h.2.2.2.2.1 a1 c1.1 c1.2
    by_cases c2 : 1 ≤ a2
    · by_cases c4 : a2 ≤ 99
      · by_cases c3 : M 4 (8 + a1) + a2 ≤ 99
        · simp (disch := omega) only [↓tp_lm_n, ↓tp_lt_n, ↓tp_bd_n, ↓tp_jn0_n, ↓tp_jn1_n, ↓tp_jn2_n, ↓tp_jn3_n, w32_id, if_pos, if_neg, tp_ck_t, tp_nz_t, tp_gd_i, up_s, up_k, up_j, cp_k, fl01, p3, pm_in (a := a2) (b := 1) (c := 99) h2 (by unfold pu_in; omega) (by unfold pu_in; omega)]
          refine wp2_some (hQ _ _ _ _ ⟨rfl, by unfold ac_in; omega, ?_, acM_fr ?_, ?_, rfl, rfl, rfl, rfl⟩)
          · unfold ac_C; (repeat (first | exact fr_rf | assumption | refine fr_up ?_ (by simp) | refine fr_cp ?_ (by simp) | exact fr_mono (by assumption) (by simp)))
          · (repeat (first | exact fr_rf | assumption | refine fr_up ?_ (by simp) | refine fr_cp ?_ (by simp) | exact fr_mono (by assumption) (by simp)))
          · unfold ac_row
            simp (disch := omega) only [up_k, up_add]
            exact sr_add (x := a2) (by omega) (Int.le_refl B) h c1 (by omega) (up_cv _ _ _ _ _ (by rw [p3]))
        · simp (disch := omega) only [↓tp_lm_n, ↓tp_lt_n, ↓tp_bd_n, ↓tp_jn0_n, ↓tp_jn1_n, ↓tp_jn2_n, ↓tp_jn3_n, w32_id, if_pos, if_neg, tp_ck_t, tp_nz_t, tp_gd_i, fl01, p3, pm_in (a := a2) (b := 1) (c := 99) h2 (by unfold pu_in; omega) (by unfold pu_in; omega)]
          (first | exact hno (-1) ⟨by decide, by decide⟩ | exact hno (-2) ⟨by decide, by decide⟩ | exact hno (-3) ⟨by decide, by decide⟩)
      · simp (disch := omega) only [↓tp_lm_n, ↓tp_lt_n, ↓tp_bd_n, ↓tp_jn0_n, ↓tp_jn1_n, ↓tp_jn2_n, ↓tp_jn3_n, w32_id, if_pos, if_neg, tp_ck_t, tp_nz_t, tp_gd_i, fl01, pm_in (a := a2) (b := 1) (c := 99) h2 (by unfold pu_in; omega) (by unfold pu_in; omega)]
        (first | exact hno (-1) ⟨by decide, by decide⟩ | exact hno (-2) ⟨by decide, by decide⟩ | exact hno (-3) ⟨by decide, by decide⟩)
    · simp (disch := omega) only [↓tp_lm_n, ↓tp_lt_n, ↓tp_bd_n, ↓tp_jn0_n, ↓tp_jn1_n, ↓tp_jn2_n, ↓tp_jn3_n, w32_id, if_pos, if_neg, tp_ck_t, tp_nz_t, tp_gd_i, fl01, pm_in (a := a2) (b := 1) (c := 99) h2 (by unfold pu_in; omega) (by unfold pu_in; omega)]
      (first | exact hno (-1) ⟨by decide, by decide⟩ | exact hno (-2) ⟨by decide, by decide⟩ | exact hno (-3) ⟨by decide, by decide⟩)
  · simp (disch := omega) only [↓tp_lm_n, ↓tp_lt_n, ↓tp_bd_n, ↓tp_jn0_n, ↓tp_jn1_n, ↓tp_jn2_n, ↓tp_jn3_n, w32_id, if_pos, if_neg, tp_ck_t, tp_nz_t, tp_gd_i, fl01]
    (first | exact hno (-1) ⟨by decide, by decide⟩ | exact hno (-2) ⟨by decide, by decide⟩ | exact hno (-3) ⟨by decide, by decide⟩)
theorem ac_points {C M : tp_M} {B a1 a2 : Int} (h1 : pu_in a1) (h2 : pu_in a2) (hE : ac_env C M) (h : ac_row C M (M 0 3) (M 2) B) : wp2 (fx_X10_actPoints a1 a2 C) (fx_X11_pointsTo a1 a2 M) (ac_post C M B (fun C1 M1 _ => tl_same C M C1 M1)) := by
  obtain ⟨hN, hR⟩ := hE
  have n8 := hN.2.1.1
  refine wp2_K (fun Q hQ => ?_)
  have hno (r : Int) (hr : ac_in r) : wp2 (some (r, C)) (some (r, M)) Q := wp2_some (hQ _ _ _ _ ⟨rfl, hr, fr_rf, acM_rf M, h, rfl, rfl, rfl, rfl⟩)
  unfold fx_X10_actPoints fx_X11_pointsTo
  rw [cn_hasWay hN h1 h2, pm_isOut (M := M) (n := M 0 3) rfl (by omega) h1]
  unfold pu_in at h1 h2
  by_cases c1 : 1 ≤ a1 ∧ a1 < M 0 3
  · obtain ⟨p1, p2, p3, p4⟩ := h.2.2.2.2.1 a1 c1.1 c1.2
    obtain ⟨d1, d2⟩ := hN.2.1.2 a1 c1.1 c1.2
    obtain ⟨m1, -, m2⟩ := hN.2.2.2.2.1 a1 c1.1 c1.2
    by_cases c2 : 0 ≤ a2 ∧ a2 < M 2 a1
    · by_cases c3 : M 4 a1 = a2
      · simp (disch := omega) only [↓tp_lm_n, ↓tp_lt_n, ↓tp_bd_n, ↓tp_jn0_n, ↓tp_jn1_n, ↓tp_jn2_n, ↓tp_jn3_n, w32_id, if_pos, if_neg, tp_ck_t, tp_nz_t, tp_gd_i, up_s, up_k, up_j, cp_k, fl01, m1, p1, pm_in (a := a2) (b := 0) (c := M 2 a1 - 1) h2 (by unfold pu_in; omega) (by unfold pu_in; omega)]
        have e : tp_up M 4 a1 a2 = M := by
          funext c j
          unfold tp_up
          by_cases hj : c = 4 ∧ j = a1
          · rw [if_pos hj, hj.1, hj.2, c3]
          · rw [if_neg hj]
        rw [e]
        (first | exact hno (-1) ⟨by decide, by decide⟩ | exact hno (-2) ⟨by decide, by decide⟩ | exact hno (-3) ⟨by decide, by decide⟩)
      · simp (disch := omega) only [↓tp_lm_n, ↓tp_lt_n, ↓tp_bd_n, ↓tp_jn0_n, ↓tp_jn1_n, ↓tp_jn2_n, ↓tp_jn3_n, w32_id, if_pos, if_neg, tp_ck_t, tp_nz_t, tp_gd_i, up_s, up_k, up_j, cp_k, fl01, m1, p1, pm_in (a := a2) (b := 0) (c := M 2 a1 - 1) h2 (by unfold pu_in; omega) (by unfold pu_in; omega)]
        refine wp2_some (hQ _ _ _ _ ⟨rfl, by unfold ac_in; omega, ?_, acM_fr ?_, ?_, rfl, rfl, rfl, rfl⟩)
        · unfold ac_C; (repeat (first | exact fr_rf | assumption | refine fr_up ?_ (by simp) | refine fr_cp ?_ (by simp) | exact fr_mono (by assumption) (by simp)))
        · (repeat (first | exact fr_rf | assumption | refine fr_up ?_ (by simp) | refine fr_cp ?_ (by simp) | exact fr_mono (by assumption) (by simp)))
        · obtain ⟨g1, g2, g3, g4, g5, g6⟩ := h
          unfold ac_row
          simp (disch := omega) only [up_k]
          refine ⟨by rw [up_j _ _ _ (by omega)]; exact g1, by rw [up_j _ _ _ (by omega)]; exact g2, by rw [up_j _ _ _ (by omega)]; exact g3, by rw [up_j _ _ _ (by omega)]; exact g4, fun u u1 u2 => ?_, fun u u1 u2 u3 => ?_⟩
          · obtain ⟨t1, t2, t3, t4⟩ := g5 u u1 u2
            rw [up_c, up_c, up_j _ _ _ (show ¬ 8 + u = a1 by omega)]
            by_cases hu : u = a1
            · rw [if_pos hu, if_pos hu, hu]
              exact ⟨rfl, c2, by rw [← hu]; exact t3, by rw [← hu]; exact t4⟩
            · rw [if_neg hu, if_neg hu]
              exact ⟨t1, t2, t3, t4⟩
          · rw [up_j _ _ _ (by omega)]
            exact g6 u u1 u2 u3
    · simp (disch := omega) only [↓tp_lm_n, ↓tp_lt_n, ↓tp_bd_n, ↓tp_jn0_n, ↓tp_jn1_n, ↓tp_jn2_n, ↓tp_jn3_n, w32_id, if_pos, if_neg, tp_ck_t, tp_nz_t, tp_gd_i, fl01, m1, pm_in (a := a2) (b := 0) (c := M 2 a1 - 1) h2 (by unfold pu_in; omega) (by unfold pu_in; omega)]
      (first | exact hno (-1) ⟨by decide, by decide⟩ | exact hno (-2) ⟨by decide, by decide⟩ | exact hno (-3) ⟨by decide, by decide⟩)
  · simp (disch := omega) only [↓tp_lm_n, ↓tp_lt_n, ↓tp_bd_n, ↓tp_jn0_n, ↓tp_jn1_n, ↓tp_jn2_n, ↓tp_jn3_n, w32_id, if_pos, if_neg, tp_ck_t, tp_nz_t, tp_gd_i, fl01]
    (first | exact hno (-1) ⟨by decide, by decide⟩ | exact hno (-2) ⟨by decide, by decide⟩ | exact hno (-3) ⟨by decide, by decide⟩)
/-- the class's step of one of a crowd -/
theorem cs_from {k1 : Nat} (hk : k1 = 25 ∨ k1 = 28 ∨ k1 = 31) {C : tp_M} {n : Int} {D G R : Int → Int} {B s v : Int} (hN : nC C n D G) (hs : C 15 4 = s) (hw : rc_wf (C 16) s) (h : sm_row (C (k1 + 1)) (C (k1 + 2)) (C k1 2) (C k1 3) R n D B) (hv : 1 ≤ v ∧ v < n) (hc : 1 ≤ R (8 + v)) :
    wp (fx_X10_stepOf k1 v C) (fun r C1 => r = G (4 * v + R v) ∧ tp_fr [18, k1, k1 + 1, k1 + 2] C C1 ∧ sm_row (C1 (k1 + 1)) (C1 (k1 + 2)) (C1 k1 2) (C1 k1 3) (rw_from D G (C 16) s R v) n D (B + 1)) := by
  have n8 := hN.2.1.1
  obtain ⟨p1, p2, p3, p4⟩ := h.2.2.2.2.1 v hv.1 hv.2
  obtain ⟨g1, g2, g3⟩ := rw_goal hN hv p2
  have i1 : pu_in v := (by unfold pu_in; omega)
  refine wp_K (fun Q hQ => ?_)
  unfold fx_X10_stepOf
  rw [pc_hasPost hN.1 (by omega) i1]
  simp (disch := omega) only [↓tp_lm_n, ↓tp_lt_n, ↓tp_bd_n, ↓tp_jn0_n, ↓tp_jn1_n, ↓tp_jn2_n, ↓tp_jn3_n, w32_id, if_pos, if_neg, tp_ck_t, tp_nz_t, tp_gd_i, fl01]
  generalize hC1 : tp_up C (k1 + 2) v (C (k1 + 2) v - 1) = C1
  have eo : ∀ c : Nat, ¬ c = k1 + 2 → C1 c = C c := fun c hc => by rw [← hC1, up_k _ _ _ hc]
  have hrow : sm_row (C1 (k1 + 1)) (C1 (k1 + 2)) (C1 k1 2) (C1 k1 3) (rw_add R v (-1)) n D B := by
    rw [eo (k1 + 1) (by omega), eo k1 (by omega)]
    exact sr_add (x := -1) (by omega) (Int.le_refl B) h hv (by omega) (fun u => by rw [← hC1]; exact up_cv _ _ _ _ _ (by omega) u)
  have hN1 : nC C1 n D G := nC_fr hN (eo 5 (by omega)) (eo 6 (by omega)) (eo 7 (by omega)) (eo 8 (by omega)) (eo 9 (by omega))
  refine wp_call (cs_step (t := 15) (s := s) (Or.inl rfl) hk hN1 (by rw [eo 15 (by omega)]; exact hs) (by rw [eo 16 (by omega)]; exact hw) hrow hv) (fun r C2 q => ?_)
  obtain ⟨q1, q2, q3⟩ := q
  have ev : rw_add R v (-1) v = R v := by unfold rw_add; rw [if_neg (by omega)]
  rw [ev] at q1
  have e16 : C1 16 = C 16 := eo 16 (by omega)
  rw [show 15 + 1 = 16 from rfl, e16] at q3
  have ir : pu_in r := by rw [q1]; unfold pu_in; omega
  have e5 : C2 5 = C 5 := by rw [q2 5 (by simp; omega), eo 5 (by omega)]
  rw [pc_hasPost (t := 5) (n := n) (by rw [e5]; exact hN.1) (by omega) ir]
  have f0 : tp_fr [18, k1, k1 + 1, k1 + 2] C C1 := by rw [← hC1]; exact fr_up fr_rf (by simp)
  have f2 : tp_fr [18, k1, k1 + 1, k1 + 2] C C2 := fr_tr f0 (fr_mono q2 (by simp))
  by_cases h0 : r = 0
  · simp (disch := omega) only [↓tp_lm_n, ↓tp_lt_n, ↓tp_bd_n, ↓tp_jn0_n, ↓tp_jn1_n, ↓tp_jn2_n, ↓tp_jn3_n, w32_id, if_pos, if_neg, tp_ck_t, tp_nz_t, tp_gd_i, fl01]
    refine wp_some (hQ _ _ ⟨q1, f2, ?_⟩)
    unfold rw_from
    rw [if_pos (by rw [← q1]; exact h0)]
    exact sm_row_le (by omega) q3
  · rw [← q1] at g1 g2 g3
    simp (disch := omega) only [↓tp_lm_n, ↓tp_lt_n, ↓tp_bd_n, ↓tp_jn0_n, ↓tp_jn1_n, ↓tp_jn2_n, ↓tp_jn3_n, w32_id, if_pos, if_neg, tp_ck_t, tp_nz_t, tp_gd_i, fl01]
    refine wp_some (hQ _ _ ⟨q1, fr_up f2 (by simp), ?_⟩)
    unfold rw_from
    rw [if_neg (by rw [← q1]; exact h0), ← q1, up_k _ _ _ (show ¬ k1 + 1 = k1 + 2 by omega), up_k _ _ _ (show ¬ k1 = k1 + 2 by omega)]
    have hb := q3.2.2.2.2.1 r (by omega) (by omega)
    exact sr_add (x := 1) (by omega) (by omega) q3 ⟨by omega, g2⟩ (by omega) (up_cv _ _ _ _ _ rfl)
theorem ps_of {kr : Nat} {C M : tp_M} {P W : Int → Int} {hh ss B v : Int} (hE : ac_env C M) (h : sm_row P W hh ss (M kr) (M 0 3) (M 2) B) (hv : 1 ≤ v ∧ v < M 0 3) : ps_ok kr M (C 16) (M 0 18) v := by
  obtain ⟨hN, hR⟩ := hE
  have n8 := hN.2.1.1
  obtain ⟨p1, p2, p3, p4⟩ := h.2.2.2.2.1 v hv.1 hv.2
  obtain ⟨d1, d2⟩ := hN.2.1.2 v hv.1 hv.2
  have dg := d2 (M kr v) p2.1 p2.2
  exact ⟨by omega, rfl, hR.2.1, hR.2.2, d1, p2, by omega, h.2.1, h.2.2.2.1⟩
theorem ac_goes {C M : tp_M} {B a1 : Int} (h1 : pu_in a1) (hE : ac_env C M) (h : ac_row C M (M 0 3) (M 2) B) (hB : B ≤ 1000000) : wp2 (fx_X10_actGoes a1 C) (fx_X11_goesOne 4 17 a1 M) (ac_post C M (B + 1) (fun C1 M1 r => if r < 0 then tl_same C M C1 M1 else (1 ≤ a1 ∧ a1 < M 0 3) ∧ C1 3 1 = 2 ∧ C1 4 0 = w32 (C1 26 a1) ∧ C1 4 1 = w32 (C1 27 a1) ∧ M1 1 = M 1 ∧ M1 0 = M 0)) := by
  have hE2 := hE
  obtain ⟨hN, hR⟩ := hE
  have n8 := cn_n hN
  refine wp2_K (fun Q hQ => ?_)
  have hno (r : Int) (hr : ac_in r) (hn : r < 0) : wp2 (some (r, C)) (some (r, M)) Q := wp2_some (hQ _ _ _ _ ⟨rfl, hr, fr_rf, acM_rf M, sm_row_le (by omega) h, by simp only [if_pos hn]; exact ⟨rfl, rfl, rfl, rfl⟩⟩)
  unfold fx_X10_actGoes fx_X11_goesOne
  rw [cn_hasPost hN h1, pm_isOut (M := M) (n := M 0 3) rfl (by omega) h1]
  have h1' := h1
  unfold pu_in at h1'
  by_cases c1 : 1 ≤ a1 ∧ a1 < M 0 3
  · obtain ⟨p1, p2, p3, p4⟩ := h.2.2.2.2.1 a1 c1.1 c1.2
    have g := cn_G hN c1 p2
    by_cases hw : M 4 (8 + a1) = 0
    · simp (disch := omega) only [↓tp_lm_n, ↓tp_lt_n, ↓tp_bd_n, ↓tp_jn0_n, ↓tp_jn1_n, ↓tp_jn2_n, ↓tp_jn3_n, w32_id, if_pos, if_neg, tp_ck_t, tp_nz_t, tp_gd_i, fl01, p3]
      (first | exact hno (-1) ⟨by decide, by decide⟩ (by decide) | exact hno (-2) ⟨by decide, by decide⟩ (by decide) | exact hno (-3) ⟨by decide, by decide⟩ (by decide))
    · simp (disch := omega) only [↓tp_lm_n, ↓tp_lt_n, ↓tp_bd_n, ↓tp_jn0_n, ↓tp_jn1_n, ↓tp_jn2_n, ↓tp_jn3_n, w32_id, if_pos, if_neg, tp_ck_t, tp_nz_t, tp_gd_i, fl01, p3]
      obtain ⟨r1, C1, f1, q1, q2, q3⟩ := cs_from (k1 := 25) (s := M 0 18) (Or.inl rfl) hN hR.1 hR.2.1 h c1 (by omega)
      obtain ⟨r2, M1, f2, s1, s2, s3⟩ := ps_from (kr := 4) (Or.inl rfl) (ps_of hE2 h c1)
      rw [f1, f2]
      simp (disch := omega) only [↓tp_lm_n, ↓tp_lt_n, ↓tp_bd_n, ↓tp_jn0_n, ↓tp_jn1_n, ↓tp_jn2_n, ↓tp_jn3_n, w32_id, if_pos, if_neg, tp_ck_t, tp_nz_t, tp_gd_i, pc_tell2]
      refine wp2_some (hQ _ _ _ _ ⟨by rw [q1, s1], by rw [s1]; unfold ac_in; omega, ?_, acM_fr (fr_mono s2 (by simp)), ?_, ?_⟩)
      · exact fr_up (fr_up (fr_up (fr_up (fr_up (fr_mono q2 (by simp)) (by simp)) (by simp)) (by simp)) (by simp)) (by simp)
      · unfold ac_row
        simp (disch := omega) only [up_k]
        rw [s3]
        exact q3
      · simp only [if_neg (show ¬ r2 < 0 by rw [s1]; omega)]
        refine ⟨c1, rfl, ?_, ?_, s2 1 (by simp), s2 0 (by simp)⟩
        · simp (disch := omega) only [up_k, up_j, up_s]
        · simp (disch := omega) only [up_k, up_j, up_s]
  · simp (disch := omega) only [↓tp_lm_n, ↓tp_lt_n, ↓tp_bd_n, ↓tp_jn0_n, ↓tp_jn1_n, ↓tp_jn2_n, ↓tp_jn3_n, w32_id, if_pos, if_neg, tp_ck_t, tp_nz_t, tp_gd_i, fl01]
    (first | exact hno (-1) ⟨by decide, by decide⟩ (by decide) | exact hno (-2) ⟨by decide, by decide⟩ (by decide) | exact hno (-3) ⟨by decide, by decide⟩ (by decide))
/-! a crowd bursts -/
def bs_row (G : Int → Int) (v d : Int) (R : Int → Int) (k : Nat) : Int → Int := fun j => if j = 8 then min 9999 (R 8 + nt_ways G v 0 k) else if 8 < j ∧ j < 16 then R j + nt_ways G v (j - 8) k - (if j = 8 + v then d else 0) else R j
theorem bs_s {G : Int → Int} {v d : Int} {R : Int → Int} {k : Nat} (hg : 0 ≤ G (4 * v + (k : Int)) ∧ G (4 * v + (k : Int)) < 8) : bs_row G v d R (k + 1) = if G (4 * v + (k : Int)) = 0 then (fun j => if j = 8 then min 9999 (bs_row G v d R k 8 + 1) else bs_row G v d R k j) else (fun j => if j = 8 + G (4 * v + (k : Int)) then bs_row G v d R k j + 1 else bs_row G v d R k j) := by
  by_cases h0 : G (4 * v + (k : Int)) = 0
  · rw [if_pos h0]
    funext j
    unfold bs_row
    simp only [nt_ways_s]
    by_cases h8 : j = 8
    · subst h8; simp only [if_pos h0, if_true]; omega
    · rw [if_neg h8, if_neg h8, if_neg h8]
      by_cases hj : 8 < j ∧ j < 16
      · rw [if_pos hj, if_pos hj, if_neg (by omega)]; omega
      · rw [if_neg hj, if_neg hj]
  · rw [if_neg h0]
    funext j
    unfold bs_row
    simp only [nt_ways_s]
    by_cases h8 : j = 8
    · subst h8; simp only [if_neg h0, if_true]; rw [if_neg (by omega)]; omega
    · rw [if_neg h8, if_neg h8]
      by_cases hj : 8 < j ∧ j < 16
      · rw [if_pos hj, if_pos hj]
        by_cases hjg : j = 8 + G (4 * v + (k : Int))
        · rw [if_pos hjg, if_pos (show G (4 * v + (k : Int)) = j - 8 by omega)]; omega
        · rw [if_neg hjg, if_neg (show ¬ G (4 * v + (k : Int)) = j - 8 by omega)]; omega
      · rw [if_neg hj, if_neg hj, if_neg (by omega)]
theorem bs_0 {G : Int → Int} {v d : Int} {R : Int → Int} (hv : 1 ≤ v ∧ v < 8) (h8 : R 8 ≤ 9999) : bs_row G v d R 0 = rw_add R v (-d) := by
  funext j
  have e : ∀ u : Int, nt_ways G v u 0 = 0 := fun _ => rfl
  unfold bs_row rw_add
  rw [e, e]
  by_cases h8 : j = 8
  · rw [if_pos h8, if_neg (by omega), h8]; omega
  · rw [if_neg h8]
    by_cases hj : j = 8 + v
    · rw [if_pos hj, if_pos (by omega), if_pos hj]; omega
    · rw [if_neg hj, if_neg hj]
      split <;> omega
theorem ps_burst {kr : Nat} (hk : kr = 4 ∨ kr = 5) {M : tp_M} {v : Int} (hv : 1 ≤ v ∧ v < 8) (hd : 1 ≤ M 2 v ∧ M 2 v ≤ 4) (hg : ∀ k : Int, 0 ≤ k → k < M 2 v → 0 ≤ M 3 (4 * v + k) ∧ M 3 (4 * v + k) < 8) (h8 : 0 ≤ M kr 8 ∧ M kr 8 ≤ 9999) : wp (fx_X11_burstsBy kr 17 v M) (fun _ M1 => tp_fr [kr] M M1 ∧ M1 kr = bs_row (M 3) v (M 2 v) (M kr) (M 2 v).toNat) := by
  refine wp_K (fun Q hQ => ?_)
  unfold fx_X11_burstsBy
  simp (disch := omega) only [↓tp_lm_n, ↓tp_lt_n, ↓tp_bd_n, ↓tp_jn0_n, ↓tp_jn1_n, ↓tp_jn2_n, ↓tp_jn3_n, w32_id, if_pos, if_neg, tp_ck_t, tp_nz_t, tp_gd_i]
  refine wp_lp1 (fun z M1 => ∃ k : Nat, z = (k : Int) ∧ (k : Int) ≤ M 2 v ∧ tp_fr [kr] M M1 ∧ M1 kr = bs_row (M 3) v (M 2 v) (M kr) k) (fun z _ => (M 2 v - z).toNat) ?_ tp_F 0 _ ⟨0, rfl, by omega, fr_up fr_rf (by simp), ?_⟩ (tp_F_pos (by omega))
  · intro rec z M1 hI hrec
    obtain ⟨k, rfl, i1, i2, i3⟩ := hI
    have e2 : M1 2 = M 2 := i2 2 (by simp; omega)
    have e3 : M1 3 = M 3 := i2 3 (by simp; omega)
    unfold fx_X11_burstsBy_L17
    rw [e2]
    by_cases hz : (k : Int) < M 2 v
    · have g := hg k (by omega) hz
      have b8 : bs_row (M 3) v (M 2 v) (M kr) k 8 = min 9999 (M kr 8 + nt_ways (M 3) v 0 k) := if_pos rfl
      have hw := nt_ways_in (M 3) v 0 k
      simp (disch := omega) only [↓tp_lm_n, ↓tp_lt_n, ↓tp_bd_n, ↓tp_jn0_n, ↓tp_jn1_n, ↓tp_jn2_n, ↓tp_jn3_n, w32_id, if_pos, if_neg, tp_ck_t, tp_nz_t, tp_gd_i, pm_goalOf (M := M1) (a := v) (k := (k : Int)) (by omega)]
      rw [e3]
      unfold fx_X11_comesTo
      by_cases h0 : M 3 (4 * v + (k : Int)) = 0
      · have e8 : M1 kr 8 = min 9999 (M kr 8 + nt_ways (M 3) v 0 k) := by rw [i3, b8]
        rw [h0]
        simp (disch := omega) only [↓tp_lm_n, ↓tp_lt_n, ↓tp_bd_n, ↓tp_jn0_n, ↓tp_jn1_n, ↓tp_jn2_n, ↓tp_jn3_n, w32_id, if_pos, if_neg, tp_ck_t, tp_nz_t, tp_gd_i, e8]
        refine hrec _ _ ⟨k + 1, by omega, by omega, fr_up i2 (by simp), ?_⟩ (by omega)
        rw [bs_s g, if_pos h0]
        funext j
        show tp_up M1 kr (8 + 0) _ kr j = _
        rw [up_c, i3, Int.add_zero, b8]
      · simp (disch := omega) only [↓tp_lm_n, ↓tp_lt_n, ↓tp_bd_n, ↓tp_jn0_n, ↓tp_jn1_n, ↓tp_jn2_n, ↓tp_jn3_n, w32_id, if_pos, if_neg, tp_ck_t, tp_nz_t, tp_gd_i]
        refine hrec _ _ ⟨k + 1, by omega, by omega, fr_up i2 (by simp), ?_⟩ (by omega)
        rw [bs_s g, if_neg h0]
        funext j
        rw [up_c, i3]
        by_cases hj : j = 8 + M 3 (4 * v + (k : Int))
        · rw [if_pos hj, if_pos hj, hj]
        · rw [if_neg hj, if_neg hj]
    · simp (disch := omega) only [↓tp_lm_n, ↓tp_lt_n, ↓tp_bd_n, ↓tp_jn0_n, ↓tp_jn1_n, ↓tp_jn2_n, ↓tp_jn3_n, w32_id, if_pos, if_neg, tp_ck_t, tp_nz_t, tp_gd_i]
      refine wp_some (hQ _ _ ⟨i2, ?_⟩)
      rw [i3, show (M 2 v).toNat = k by omega]
  · rw [bs_0 hv h8.2, ← up_add]
    rw [show M kr (8 + v) + -M 2 v = M kr (8 + v) - M 2 v by omega]
theorem cs_burst {k1 : Nat} (hk : k1 = 25 ∨ k1 = 28 ∨ k1 = 31) {C : tp_M} {n : Int} {D G R : Int → Int} {B v : Int} (hN : nC C n D G) (h : sm_row (C (k1 + 1)) (C (k1 + 2)) (C k1 2) (C k1 3) R n D B) (hv : 1 ≤ v ∧ v < n) (hc : D v ≤ R (8 + v)) (hB : B ≤ 1000000) : wp (fx_X10_burst k1 v C) (fun r C1 => r = nt_ways G v 0 (D v).toNat ∧ tp_fr [k1, k1 + 2] C C1 ∧ sm_row (C1 (k1 + 1)) (C1 (k1 + 2)) (C1 k1 2) (C1 k1 3) (bs_row G v (D v) R (D v).toNat) n D (B + 4)) := by
  have n8 := cn_n hN
  have d4 := cn_D hN hv
  have i1 : pu_in v := (by unfold pu_in; omega)
  have i0 : pu_in 0 := (by unfold pu_in; omega)
  obtain ⟨g1, g2, g3, g4, g5, g6⟩ := h
  obtain ⟨p1, p2, p3, p4⟩ := g5 v hv.1 hv.2
  have hw := nt_ways_in G v 0 (D v).toNat
  refine wp_K (fun Q hQ => ?_)
  unfold fx_X10_burst
  rw [cn_hasPost hN i1]
  simp (disch := omega) only [↓tp_lm_n, ↓tp_lt_n, ↓tp_bd_n, ↓tp_jn0_n, ↓tp_jn1_n, ↓tp_jn2_n, ↓tp_jn3_n, w32_id, if_pos, if_neg, tp_ck_t, tp_nz_t, tp_gd_i, fl01, cn_degree hN hv, cn_waysTo hN hv i0]
  refine wp_lp1 (fun z C1 => ∃ k : Nat, z = (k : Int) ∧ (k : Int) ≤ D v ∧ tp_fr [k1, k1 + 2] C C1 ∧ C1 k1 = C k1 ∧ ∀ u : Int, 0 ≤ u → u < 8 → C1 (k1 + 2) u = C (k1 + 2) u - (if u = v then D v else 0) + (if 1 ≤ u then nt_ways G v u k else 0)) (fun z _ => (D v - z).toNat) ?_ tp_F 0 _ ⟨0, rfl, by omega, fr_up fr_rf (by simp), up_k _ _ _ (by omega), fun u u1 u2 => ?_⟩ (tp_F_pos (by omega))
  · intro rec z C1 hI hrec
    obtain ⟨k, rfl, i1, i2, i3, i4⟩ := hI
    have eo : ∀ c : Nat, ¬ c = k1 → ¬ c = k1 + 2 → C1 c = C c := fun c c1 c2 => i2 c (by simp; omega)
    have hN1 : nC C1 n D G := nC_fr hN (eo 5 (by omega) (by omega)) (eo 6 (by omega) (by omega)) (eo 7 (by omega) (by omega)) (eo 8 (by omega) (by omega)) (eo 9 (by omega) (by omega))
    unfold fx_X10_burst_L46
    by_cases hz : (k : Int) < D v
    · have g := cn_G hN hv (k := (k : Int)) ⟨by omega, hz⟩
      simp (disch := omega) only [↓tp_lm_n, ↓tp_lt_n, ↓tp_bd_n, ↓tp_jn0_n, ↓tp_jn1_n, ↓tp_jn2_n, ↓tp_jn3_n, w32_id, if_pos, if_neg, tp_ck_t, tp_nz_t, tp_gd_i, cn_goal hN1 hv (k := (k : Int)) (by omega)]
      generalize hgo : G (4 * v + (k : Int)) = go at *
      rw [cn_hasPost hN1 (by unfold pu_in; omega)]
      by_cases h0 : go = 0
      · simp (disch := omega) only [↓tp_lm_n, ↓tp_lt_n, ↓tp_bd_n, ↓tp_jn0_n, ↓tp_jn1_n, ↓tp_jn2_n, ↓tp_jn3_n, w32_id, if_pos, if_neg, tp_ck_t, tp_nz_t, tp_gd_i, fl01]
        refine hrec _ _ ⟨k + 1, by omega, by omega, i2, i3, fun u u1 u2 => ?_⟩ (by omega)
        rw [i4 u u1 u2, nt_ways_s, hgo, h0]
        repeat' split
        all_goals omega
      · simp (disch := omega) only [↓tp_lm_n, ↓tp_lt_n, ↓tp_bd_n, ↓tp_jn0_n, ↓tp_jn1_n, ↓tp_jn2_n, ↓tp_jn3_n, w32_id, if_pos, if_neg, tp_ck_t, tp_nz_t, tp_gd_i, fl01]
        refine hrec _ _ ⟨k + 1, by omega, by omega, fr_up i2 (by simp), by rw [up_k _ _ _ (by omega)]; exact i3, fun u u1 u2 => ?_⟩ (by omega)
        rw [up_c, nt_ways_s, hgo]
        by_cases hu : u = go
        · rw [if_pos hu, i4 go (by omega) (by omega), if_pos hu.symm, hu]
          repeat' split
          all_goals omega
        · rw [if_neg hu, i4 u u1 u2, if_neg (show ¬ go = u from fun q => hu q.symm)]
          repeat' split
          all_goals omega
    · simp (disch := omega) only [↓tp_lm_n, ↓tp_lt_n, ↓tp_bd_n, ↓tp_jn0_n, ↓tp_jn1_n, ↓tp_jn2_n, ↓tp_jn3_n, w32_id, if_pos, if_neg, tp_ck_t, tp_nz_t, tp_gd_i]
      unfold fx_X2_house
      simp (disch := omega) only [↓tp_lm_n, ↓tp_lt_n, ↓tp_bd_n, ↓tp_jn0_n, ↓tp_jn1_n, ↓tp_jn2_n, ↓tp_jn3_n, w32_id, if_pos, if_neg, tp_ck_t, tp_nz_t, tp_gd_i]
      have hkD : (D v).toNat = k := by omega
      rw [hkD] at hw
      refine wp_some (hQ _ _ ⟨rfl, fr_up i2 (by simp), ?_⟩)
      rw [up_k _ _ _ (show ¬ k1 + 1 = k1 by omega), up_k _ _ _ (show ¬ k1 + 2 = k1 by omega), up_s, up_j _ _ _ (by decide), i3, hkD, eo (k1 + 1) (by omega) (by omega)]
      have b8 : bs_row G v (D v) R k 8 = min 9999 (R 8 + nt_ways G v 0 k) := if_pos rfl
      have b16 : bs_row G v (D v) R k 16 = R 16 := by unfold bs_row; rw [if_neg (by omega), if_neg (by omega)]
      refine ⟨?_, ?_, by rw [b16]; exact g3, by rw [b16]; exact g4, fun u u1 u2 => ?_, fun u u1 u2 u3 => ?_⟩
      · rw [b8, g1, w32_id (by omega)]
      · rw [b8]; omega
      · obtain ⟨t1, t2, t3, t4⟩ := g5 u u1 u2
        have hwu := nt_ways_in G v u k
        have bu : bs_row G v (D v) R k u = R u := by unfold bs_row; rw [if_neg (by omega), if_neg (by omega)]
        have b8u : bs_row G v (D v) R k (8 + u) = R (8 + u) + nt_ways G v u k - (if u = v then D v else 0) := by
          unfold bs_row
          rw [if_neg (by omega), if_pos (by omega), show 8 + u - 8 = u by omega]
          by_cases huv : u = v
          · rw [if_pos huv, if_pos (by omega)]
          · rw [if_neg huv, if_neg (by omega)]
        rw [bu, b8u, i4 u (by omega) (by omega), if_pos u1, t3]
        refine ⟨t1, t2, by omega, ?_⟩
        by_cases huv : u = v
        · subst huv; rw [if_pos rfl]; omega
        · rw [if_neg huv]; omega
      · obtain ⟨t1, t2⟩ := g6 u u1 u2 u3
        refine ⟨t1, ?_⟩
        rw [i4 u u1 u2, t2, if_neg (by omega)]
        by_cases hu1 : 1 ≤ u
        · rw [if_pos hu1]
          have hz : ∀ m : Nat, (m : Int) ≤ D v → nt_ways G v u m = 0 := by
            intro m
            induction m with
            | zero => intro _; rfl
            | succ m ih =>
              intro hm
              have g := cn_G hN hv (k := (m : Int)) ⟨by omega, by omega⟩
              rw [nt_ways_s, ih (by omega), if_neg (by omega)]; rfl
          rw [hz k (by omega)]; rfl
        · rw [if_neg hu1]; rfl
  · rw [up_c]
    by_cases hu : u = v
    · rw [if_pos hu, if_pos hu, hu]
      have : nt_ways G v v 0 = 0 := rfl
      rw [this]
      split <;> omega
    · rw [if_neg hu, if_neg hu]
      have : nt_ways G v u 0 = 0 := rfl
      rw [this]
      split <;> omega
