/-! SHEET -/
def ent (kind x : Int) : Int := max 0 (w32 (min 9 (w32 (if kind = 0 then x_i2b x else if kind = 1 then x_i2s x else x))))
theorem ent_in (kind x : Int) : 0 ≤ ent kind x ∧ ent kind x ≤ 9 := by
  unfold ent
  have hw := w32_in (if kind = 0 then x_i2b x else if kind = 1 then x_i2s x else x)
  generalize w32 (if kind = 0 then x_i2b x else if kind = 1 then x_i2s x else x) = y at *
  unfold w32
  omega
theorem cs_entry {kind x : Int} (hk : 0 ≤ kind ∧ kind ≤ 3) (C : tp_M) : fx_X10_sheetEntry kind x C = some (ent kind x, C) := by
  unfold fx_X10_sheetEntry ent
  by_cases h0 : kind = 0
  · simp (disch := omega) only [↓tp_lm_n, ↓tp_lt_n, ↓tp_bd_n, ↓tp_jn0_n, ↓tp_jn1_n, ↓tp_jn2_n, ↓tp_jn3_n, w32_id, if_pos, if_neg, if_true, if_false, tp_ck_t, tp_nz_t, tp_gd_i]
  · by_cases h1 : kind = 1
    · simp (disch := omega) only [↓tp_lm_n, ↓tp_lt_n, ↓tp_bd_n, ↓tp_jn0_n, ↓tp_jn1_n, ↓tp_jn2_n, ↓tp_jn3_n, w32_id, if_pos, if_neg, if_true, if_false, tp_ck_t, tp_nz_t, tp_gd_i]
    · simp (disch := omega) only [↓tp_lm_n, ↓tp_lt_n, ↓tp_bd_n, ↓tp_jn0_n, ↓tp_jn1_n, ↓tp_jn2_n, ↓tp_jn3_n, w32_id, if_pos, if_neg, if_true, if_false, tp_ck_t, tp_nz_t, tp_gd_i]
theorem cs_sheet {C : tp_M} {n : Int} {D G : Int → Int} {c1 c3 c4 c5 : Int} {K : tp_M → tp_O} {Q : Int → tp_M → Prop} (hN : nC C n D G) (hk : 0 ≤ c1 ∧ c1 ≤ 3) (h5 : -2147483648 ≤ c5 ∧ c5 < 2147483648)
    (hK : ∀ C1 : tp_M, tp_fr [27] C C1 → (∀ u : Int, C1 27 u = if 1 ≤ u ∧ u < 8 then (if u < n ∧ u ≤ c5 then ent c1 (c3 + (u - 1) * c4) else 0) else C 27 u) → wp (K C1) Q) : wp (tp_lp1 (fx_X10_sheet_L44 c1 c3 c4 c5 K) tp_F 1 C) Q := by
  have n8 := cn_n hN
  refine wp_lp1 (fun z C1 => (1 ≤ z ∧ z ≤ 8) ∧ tp_fr [27] C C1 ∧ ∀ u : Int, C1 27 u = if 1 ≤ u ∧ u < z then (if u < n ∧ u ≤ c5 then ent c1 (c3 + (u - 1) * c4) else 0) else C 27 u) (fun z _ => (8 - z).toNat) ?_ tp_F 1 C ⟨by omega, fr_rf, fun u => by rw [if_neg (by omega)]⟩ (tp_F_pos (by omega))
  intro rec z C1 hI hrec
  obtain ⟨i1, i2, i3⟩ := hI
  have hN1 : nC C1 n D G := nC_fr hN (i2 5 (by simp)) (i2 6 (by simp)) (i2 7 (by simp)) (i2 8 (by simp)) (i2 9 (by simp))
  unfold fx_X10_sheet_L44
  have nx : ∀ y : Int, y = (if z < n ∧ z ≤ c5 then ent c1 (c3 + (z - 1) * c4) else 0) → z < 8 → wp (rec (z + 1) (tp_up C1 27 z y)) Q := fun y hy hz => by
    refine hrec _ _ ⟨by omega, fr_up i2 (by simp), fun u => ?_⟩ (by omega)
    rw [up_c, i3 u]
    by_cases hu : u = z
    · rw [if_pos hu, if_pos (show 1 ≤ u ∧ u < z + 1 by omega), hu, hy]
    · rw [if_neg hu]
      by_cases hu2 : 1 ≤ u ∧ u < z
      · rw [if_pos hu2, if_pos (show 1 ≤ u ∧ u < z + 1 by omega)]
      · rw [if_neg hu2, if_neg (show ¬ (1 ≤ u ∧ u < z + 1) by omega)]
  by_cases hz : z < 8
  · have hp := cn_hasPost hN1 (a := z) (by unfold pu_in; omega)
    by_cases h1 : z ≤ c5
    · by_cases h2 : z < n
      · rw [if_pos (by omega)] at hp
        simp (disch := omega) only [↓tp_lm_n, ↓tp_lt_n, ↓tp_bd_n, ↓tp_jn0_n, ↓tp_jn1_n, ↓tp_jn2_n, ↓tp_jn3_n, w32_id, if_pos, if_neg, if_true, if_false, tp_ck_t, tp_nz_t, tp_gd_i, hp, cs_entry hk]
        exact nx _ (by rw [if_pos ⟨h2, h1⟩]) hz
      · rw [if_neg (by omega)] at hp
        simp (disch := omega) only [↓tp_lm_n, ↓tp_lt_n, ↓tp_bd_n, ↓tp_jn0_n, ↓tp_jn1_n, ↓tp_jn2_n, ↓tp_jn3_n, w32_id, if_pos, if_neg, if_true, if_false, tp_ck_t, tp_nz_t, tp_gd_i, hp]
        exact nx _ (by rw [if_neg (by omega)]) hz
    · simp (disch := omega) only [↓tp_lm_n, ↓tp_lt_n, ↓tp_bd_n, ↓tp_jn0_n, ↓tp_jn1_n, ↓tp_jn2_n, ↓tp_jn3_n, w32_id, if_pos, if_neg, if_true, if_false, tp_ck_t, tp_nz_t, tp_gd_i]
      exact nx _ (by rw [if_neg (by omega)]) hz
  · simp (disch := omega) only [↓tp_lm_n, ↓tp_lt_n, ↓tp_bd_n, ↓tp_jn0_n, ↓tp_jn1_n, ↓tp_jn2_n, ↓tp_jn3_n, w32_id, if_pos, if_neg, if_true, if_false, tp_ck_t, tp_nz_t, tp_gd_i]
    refine hK C1 i2 (fun u => ?_)
    rw [i3 u, show z = 8 by omega]
theorem ps_sheet {M : tp_M} {c1 c2 c3 c4 : Int} {K : tp_M → tp_O} {Q : Int → tp_M → Prop} (hn : 2 ≤ M 0 3 ∧ M 0 3 ≤ 8) (hk : 0 ≤ c1 ∧ c1 ≤ 3) (h2 : -2147483648 ≤ c2 ∧ c2 < 2147483648)
    (hK : ∀ M1 : tp_M, tp_fr [4] M M1 → (∀ j : Int, M1 4 j = if 9 ≤ j ∧ j < 8 + M 0 3 then (if ¬ c1 = 3 ∧ j - 8 ≤ c2 then ent c1 (c3 + (j - 9) * c4) else 0) else M 4 j) → wp (K M1) Q) : wp (tp_lp2 (fx_X11_sheet_L43 c1 c2 c4 K) tp_F c3 1 M) Q := by
  refine wp_lp2 (fun x z M1 => (1 ≤ z ∧ z ≤ M 0 3) ∧ x = c3 + (z - 1) * c4 ∧ tp_fr [4] M M1 ∧ ∀ j : Int, M1 4 j = if 9 ≤ j ∧ j < 8 + z then (if ¬ c1 = 3 ∧ j - 8 ≤ c2 then ent c1 (c3 + (j - 9) * c4) else 0) else M 4 j) (fun _ z _ => (8 - z).toNat) ?_ tp_F c3 1 M ⟨by omega, by simp, fr_rf, fun j => by rw [if_neg (by omega)]⟩ (tp_F_pos (by omega))
  intro rec x z M1 hI hrec
  obtain ⟨i1, i2, i3, i4⟩ := hI
  have e0 : M1 0 = M 0 := i3 0 (by simp)
  unfold fx_X11_sheet_L43
  rw [e0]
  have nx : ∀ y : Int, y = (if ¬ c1 = 3 ∧ z ≤ c2 then ent c1 x else 0) → z < M 0 3 → wp (rec (x + c4) (z + 1) (tp_up M1 4 (8 + z) y)) Q := fun y hy hz => by
    refine hrec _ _ _ ⟨by omega, by rw [i2, show z + 1 - 1 = (z - 1) + 1 by omega, Int.add_mul]; omega, fr_up i3 (by simp), fun j => ?_⟩ (by omega)
    rw [up_c, i4 j]
    by_cases hj : j = 8 + z
    · rw [if_pos hj, if_pos (show 9 ≤ j ∧ j < 8 + (z + 1) by omega), hy, i2, hj, show 8 + z - 8 = z by omega, show 8 + z - 9 = z - 1 by omega]
    · rw [if_neg hj]
      by_cases hj2 : 9 ≤ j ∧ j < 8 + z
      · rw [if_pos hj2, if_pos (show 9 ≤ j ∧ j < 8 + (z + 1) by omega)]
      · rw [if_neg hj2, if_neg (show ¬ (9 ≤ j ∧ j < 8 + (z + 1)) by omega)]
  by_cases hz : z < M 0 3
  · by_cases h3 : c1 = 3
    · simp (disch := omega) only [↓tp_lm_n, ↓tp_lt_n, ↓tp_bd_n, ↓tp_jn0_n, ↓tp_jn1_n, ↓tp_jn2_n, ↓tp_jn3_n, w32_id, if_pos, if_neg, if_true, if_false, tp_ck_t, tp_nz_t, tp_gd_i]
      exact nx _ (by rw [if_neg (by omega)]) hz
    · by_cases h1 : z ≤ c2
      · have hx : ent c1 x = if c1 = 0 then max 0 (w32 (min 9 (w32 (x_i2b x)))) else if c1 = 1 then max 0 (w32 (min 9 (w32 (x_i2s x)))) else max 0 (w32 (min 9 (w32 x))) := by
          unfold ent
          by_cases k0 : c1 = 0
          · rw [if_pos k0, if_pos k0]
          · rw [if_neg k0, if_neg k0]
            by_cases k1 : c1 = 1
            · rw [if_pos k1, if_pos k1]
            · rw [if_neg k1, if_neg k1]
        by_cases k0 : c1 = 0
        · rw [if_pos k0] at hx
          simp (disch := omega) only [↓tp_lm_n, ↓tp_lt_n, ↓tp_bd_n, ↓tp_jn0_n, ↓tp_jn1_n, ↓tp_jn2_n, ↓tp_jn3_n, w32_id, if_pos, if_neg, if_true, if_false, tp_ck_t, tp_nz_t, tp_gd_i]
          exact nx _ (by rw [if_pos ⟨h3, h1⟩, hx]) hz
        · rw [if_neg k0] at hx
          by_cases k1 : c1 = 1
          · rw [if_pos k1] at hx
            simp (disch := omega) only [↓tp_lm_n, ↓tp_lt_n, ↓tp_bd_n, ↓tp_jn0_n, ↓tp_jn1_n, ↓tp_jn2_n, ↓tp_jn3_n, w32_id, if_pos, if_neg, if_true, if_false, tp_ck_t, tp_nz_t, tp_gd_i]
            exact nx _ (by rw [if_pos ⟨h3, h1⟩, hx]) hz
          · rw [if_neg k1] at hx
            simp (disch := omega) only [↓tp_lm_n, ↓tp_lt_n, ↓tp_bd_n, ↓tp_jn0_n, ↓tp_jn1_n, ↓tp_jn2_n, ↓tp_jn3_n, w32_id, if_pos, if_neg, if_true, if_false, tp_ck_t, tp_nz_t, tp_gd_i]
            exact nx _ (by rw [if_pos ⟨h3, h1⟩, hx]) hz
      · by_cases k0 : c1 = 0
        · simp (disch := omega) only [↓tp_lm_n, ↓tp_lt_n, ↓tp_bd_n, ↓tp_jn0_n, ↓tp_jn1_n, ↓tp_jn2_n, ↓tp_jn3_n, w32_id, if_pos, if_neg, if_true, if_false, tp_ck_t, tp_nz_t, tp_gd_i]
          exact nx _ (by rw [if_neg (by omega)]) hz
        · by_cases k1 : c1 = 1
          · simp (disch := omega) only [↓tp_lm_n, ↓tp_lt_n, ↓tp_bd_n, ↓tp_jn0_n, ↓tp_jn1_n, ↓tp_jn2_n, ↓tp_jn3_n, w32_id, if_pos, if_neg, if_true, if_false, tp_ck_t, tp_nz_t, tp_gd_i]
            exact nx _ (by rw [if_neg (by omega)]) hz
          · simp (disch := omega) only [↓tp_lm_n, ↓tp_lt_n, ↓tp_bd_n, ↓tp_jn0_n, ↓tp_jn1_n, ↓tp_jn2_n, ↓tp_jn3_n, w32_id, if_pos, if_neg, if_true, if_false, tp_ck_t, tp_nz_t, tp_gd_i]
            exact nx _ (by rw [if_neg (by omega)]) hz
  · simp (disch := omega) only [↓tp_lm_n, ↓tp_lt_n, ↓tp_bd_n, ↓tp_jn0_n, ↓tp_jn1_n, ↓tp_jn2_n, ↓tp_jn3_n, w32_id, if_pos, if_neg, if_true, if_false, tp_ck_t, tp_nz_t, tp_gd_i]
    refine hK M1 i3 (fun j => ?_)
    rw [i4 j, show z = M 0 3 by omega]
section ST
variable {B : Int} {C M : tp_M} {a1 a2 a3 a4 : Int}
theorem sheet_row {C1 M1 : tp_M} {c1 c2 c5 c3 c4 : Int} (hB : 1000 ≤ B ∧ B ≤ 600000) (h : Sim B C M) (hc : ∀ u : Int, 1 ≤ u → (u ≤ c5 ↔ ¬ c1 = 3 ∧ u ≤ c2)) (f : tp_fr [27] C C1) (f2 : ∀ u : Int, C1 27 u = if 1 ≤ u ∧ u < 8 then (if u < M 0 3 ∧ u ≤ c5 then ent c1 (c3 + (u - 1) * c4) else 0) else C 27 u) (g : tp_fr [4] (tp_up M 0 0 0) M1) (g2 : ∀ j : Int, M1 4 j = if 9 ≤ j ∧ j < 8 + M 0 3 then (if ¬ c1 = 3 ∧ j - 8 ≤ c2 then ent c1 (c3 + (j - 9) * c4) else 0) else M 4 j) : sm_row (C1 26) (C1 27) (C1 25 2) (C1 25 3) (M1 4) (M 0 3) (M 2) B ∧ Sim B C1 M1 := by
  have n8 := cn_n (show nC C (M 0 3) (M 2) (M 3) from h.2.2.1)
  obtain ⟨q1, q2, q3, q4, q5, q6⟩ := h.2.2.2.1
  have e0 : ∀ j : Int, ¬ j = 0 → M1 0 j = M 0 j := fun j hj => by rw [g 0 (by simp), up_j _ _ _ hj]
  have e2 : M1 2 = M 2 := by rw [g 2 (by simp), up_k _ _ _ (by decide)]
  have hrow : sm_row (C1 26) (C1 27) (C1 25 2) (C1 25 3) (M1 4) (M 0 3) (M 2) B := by
    rw [f 26 (by simp), f 25 (by simp)]
    have k (j : Int) (hj : ¬ (9 ≤ j ∧ j < 8 + M 0 3)) : M1 4 j = M 4 j := by rw [g2, if_neg hj]
    refine ⟨by rw [k 8 (by omega)]; exact q1, by rw [k 8 (by omega)]; exact q2, by rw [k 16 (by omega)]; exact q3, by rw [k 16 (by omega)]; exact q4, fun u u1 u2 => ?_, fun u u1 u2 u3 => ?_⟩
    · obtain ⟨t1, t2, t3, t4⟩ := q5 u u1 u2
      rw [k u (by omega), f2, if_pos (show 1 ≤ u ∧ u < 8 by omega), g2, if_pos (show 9 ≤ 8 + u ∧ 8 + u < 8 + M 0 3 by omega), show 8 + u - 8 = u by omega, show 8 + u - 9 = u - 1 by omega]
      have := hc u u1
      by_cases hq : u ≤ c5
      · rw [if_pos ⟨u2, hq⟩, if_pos (this.mp hq)]
        have := ent_in c1 (c3 + (u - 1) * c4)
        exact ⟨t1, t2, rfl, by omega⟩
      · rw [if_neg (show ¬ (u < M 0 3 ∧ u ≤ c5) by omega), if_neg (fun w => hq (this.mpr w))]
        exact ⟨t1, t2, rfl, by omega⟩
    · obtain ⟨t1, t2⟩ := q6 u u1 u2 u3
      refine ⟨t1, ?_⟩
      rw [f2]
      by_cases hu : 1 ≤ u ∧ u < 8
      · rw [if_pos hu, if_neg (by omega)]
      · rw [if_neg hu]; exact t2
  refine ⟨hrow, Sim_row h (Int.le_refl B) f (fr_tr (fr_up fr_rf (S := [0, 4]) (by simp)) (fr_mono g (by simp))) (by decide) (by decide) (fun j hj => e0 j (f0_ne hj (by decide))) ?_⟩
  rw [e0 3 (by decide), e2]
  exact hrow
theorem st_sheet (h1 : pu_in a1) (h2 : pu_in a2) (hB : 1000 ≤ B ∧ B ≤ 600000) (h : Sim B C M) : wp2 (fx_X10_sheet a1 a2 a3 a4 C) (fx_X11_sheet a1 a2 a3 a4 M) (Ans B) := by
  have hN : nC C (M 0 3) (M 2) (M 3) := h.2.2.1
  have n8 := cn_n hN
  have e1 := h1
  have e2 := h2
  unfold pu_in at e1 e2
  unfold fx_X10_sheet fx_X11_sheet
  refine wp2_lm2 ?_
  rw [w32_id e1, w32_id e2, pm_in (M := tp_up M 0 0 0) (a := a1) (b := 0) (c := 3) h1 (by unfold pu_in; omega) (by unfold pu_in; omega), tp_bd_s]
  by_cases c1 : 0 ≤ a1
  · by_cases c2 : a1 ≤ 3
    · rw [if_neg (show ¬ a1 < 0 by omega), if_pos c2, if_pos (show 0 ≤ a1 ∧ a1 ≤ 3 from ⟨c1, c2⟩)]
      refine wp2_f2 (by decide) ?_
      by_cases c3 : a2 < 8
      · rw [if_pos c3, if_pos (show a2 ≤ 7 by omega)]
        refine wp2_jn01 ?_
        refine wp2_jn02 ?_
        by_cases c4 : a1 = 3
        · rw [if_pos c4, if_pos c4]
          refine wp2_jn11 ?_
          refine wp2_t1 c4 ?_
          refine wp2_lt1 ?_
          refine wp2_lt1 ?_
          refine wp2_lt2 ?_
          refine wp2_lt2 ?_
          refine wp2_of (P1 := fun r C1 => r = -3 ∧ tp_fr [27] C C1 ∧ ∀ u : Int, C1 27 u = if 1 ≤ u ∧ u < 8 then (if u < M 0 3 ∧ u ≤ 0 then ent a1 (a3 + (u - 1) * a4) else 0) else C 27 u) (P2 := fun r M1 => r = -3 ∧ tp_fr [4] (tp_up M 0 0 0) M1 ∧ ∀ j : Int, M1 4 j = if 9 ≤ j ∧ j < 8 + M 0 3 then (if ¬ a1 = 3 ∧ j - 8 ≤ a2 then ent a1 (a3 + (j - 9) * a4) else 0) else M 4 j) ?_ ?_ ?_
          · refine cs_sheet hN ⟨c1, c2⟩ (by omega) (fun C1 f1 f2 => ?_)
            rw [if_pos c4]
            exact wp_some ⟨rfl, f1, f2⟩
          · refine ps_sheet (M := tp_up M 0 0 0) n8 ⟨c1, c2⟩ (by omega) (fun M1 g1 g2 => ?_)
            rw [if_pos c4]
            exact wp_some ⟨rfl, g1, g2⟩
          · intro r1 C1 r2 M1 p q
            obtain ⟨rfl, f1, f2⟩ := p
            obtain ⟨rfl, g1, g2⟩ := q
            exact ⟨rfl, (sheet_row (c1 := a1) (c2 := a2) (c5 := 0) hB h (fun u u1 => by omega) f1 f2 g1 g2).2⟩
        · rw [if_neg c4, if_neg c4]
          by_cases c5 : a2 < 0
          · rw [if_pos c5, if_pos c5]
            exact wp2_some (ans_no h)
          · rw [if_neg c5, if_neg c5]
            refine wp2_jn11 ?_
            refine wp2_f1 c4 ?_
            refine wp2_lt1 ?_
            refine wp2_lt1 ?_
            refine wp2_lt2 ?_
            refine wp2_lt2 ?_
            refine wp2_of (P1 := fun r C1 => r = sumI (C1 27) 1 7 ∧ tp_fr [27] C C1 ∧ ∀ u : Int, C1 27 u = if 1 ≤ u ∧ u < 8 then (if u < M 0 3 ∧ u ≤ a2 then ent a1 (a3 + (u - 1) * a4) else 0) else C 27 u) (P2 := fun r M1 => r = sumI (fun v => M1 4 (8 + v)) 1 (M 0 3 - 1).toNat ∧ tp_fr [4] (tp_up M 0 0 0) M1 ∧ ∀ j : Int, M1 4 j = if 9 ≤ j ∧ j < 8 + M 0 3 then (if ¬ a1 = 3 ∧ j - 8 ≤ a2 then ent a1 (a3 + (j - 9) * a4) else 0) else M 4 j) ?_ ?_ ?_
            · refine cs_sheet hN ⟨c1, c2⟩ (by omega) (fun C1 f1 f2 => ?_)
              rw [if_neg c4, cs_walkers, tp_bd_s]
              exact wp_some ⟨rfl, f1, f2⟩
            · refine ps_sheet (M := tp_up M 0 0 0) n8 ⟨c1, c2⟩ (by omega) (fun M1 g1 g2 => ?_)
              have e3 : M1 0 3 = M 0 3 := by rw [g1 0 (by simp)]; rfl
              rw [if_neg c4, ps_walkers (by rw [e3]; exact n8), tp_bd_s, e3]
              exact wp_some ⟨rfl, g1, g2⟩
            · intro r1 C1 r2 M1 p q
              obtain ⟨rfl, f1, f2⟩ := p
              obtain ⟨rfl, g1, g2⟩ := q
              have hs := sheet_row (c1 := a1) (c2 := a2) (c5 := a2) hB h (fun u u1 => by omega) f1 f2 g1 g2
              exact ⟨by rw [(sm_walkers n8 hs.1).1], hs.2⟩
      · rw [if_neg c3, if_neg (show ¬ a2 ≤ 7 by omega)]
        exact wp2_some (ans_no h)
    · rw [if_neg (show ¬ a1 < 0 by omega), if_neg c2, if_neg (show ¬ (0 ≤ a1 ∧ a1 ≤ 3) by omega)]
      refine wp2_t2 (by decide) ?_
      exact wp2_some (ans_no h)
  · rw [if_pos (show a1 < 0 by omega), if_neg (show ¬ (0 ≤ a1 ∧ a1 ≤ 3) by omega)]
    refine wp2_t2 (by decide) ?_
    exact wp2_some (ans_no h)
end ST
