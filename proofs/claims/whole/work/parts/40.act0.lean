/-! ACTS: what is put by, what is kept for undo -/
theorem wp_K {o : tp_O} {P : Int → tp_M → Prop} (h : ∀ Q : Int → tp_M → Prop, (∀ r M, P r M → Q r M) → wp o Q) : wp o P := h P (fun _ _ h => h)
/-- a place of the shelf written -/
def wr_row (S P W : Int → Int) (h s a : Int) : Int → Int := fun j => if 18 * a ≤ j ∧ j < 18 * a + 8 then P (j - 18 * a) else if 18 * a + 8 ≤ j ∧ j < 18 * a + 16 then W (j - 18 * a - 8) else if j = 18 * a + 16 then h else if j = 18 * a + 17 then s else S j
theorem pc_write {a : Int} {k : Nat} {M : tp_M} (h : 0 ≤ a ∧ a < 18) (hk : k = 25 ∨ k = 28 ∨ k = 31) : wp (fx_X3_write a k M) (fun _ M1 => tp_fr [35] M M1 ∧ M1 35 = wr_row (M 35) (M (k + 1)) (M (k + 2)) (M k 2) (M k 3) a) := by
  refine wp_K (fun Q hQ => ?_)
  unfold fx_X3_write
  simp (disch := omega) only [↓tp_lm_n, ↓tp_lt_n, ↓tp_bd_n, ↓tp_jn0_n, ↓tp_jn1_n, ↓tp_jn2_n, ↓tp_jn3_n, w32_id, if_pos, if_neg, tp_ck_t, tp_nz_t, tp_gd_i, up_s, up_k, up_j, cp_k]
  refine wp_some (hQ _ _ ⟨?_, ?_⟩)
  · (repeat (first | exact fr_rf | assumption | refine fr_up ?_ (by simp) | refine fr_cp ?_ (by simp) | exact fr_mono (by assumption) (by simp)))
  · funext j
    unfold wr_row
    simp (disch := omega) only [up_c, up_k, cp_c, cp_k]
    repeat' split
    all_goals first | rfl | omega | (congr 1; omega)
theorem pc_push {k : Nat} (hk : k = 25 ∨ k = 28 ∨ k = 31) {M : tp_M} {c1 c2 : Int} (h1 : M 34 1 = c1) (h2 : M 34 2 = c2) (b1 : 0 ≤ c1 ∧ c1 ≤ 15) (b2 : 0 ≤ c2 ∧ c2 < 15) : wp (fx_X3_push k M) (fun _ M1 => tp_fr [34, 35] M M1 ∧ M1 34 1 = min 15 (c1 + 1) ∧ M1 34 2 = (c2 + 1) % 15 ∧ M1 34 3 = M 34 3 ∧ M1 35 = wr_row (M 35) (M (k + 1)) (M (k + 2)) (M k 2) (M k 3) c2) := by
  refine wp_K (fun Q hQ => ?_)
  unfold fx_X3_push
  rw [h2]
  refine wp_call (pc_write (by omega) hk) (fun _ M1 h => ?_)
  obtain ⟨f1, f2⟩ := h
  have e34 : M1 34 = M 34 := f1 34 (by simp)
  refine wp_nz (by decide) ?_
  rw [e34, h2, x_rem_nn (by omega) (by omega)]
  have e1 : tp_up M1 34 2 ((c2 + 1) % 15) 34 1 = c1 := by rw [up_j _ _ _ (by decide), e34, h1]
  refine wp_lm ?_
  rw [e1]
  by_cases hc : c1 < 15
  · simp (disch := omega) only [↓tp_lm_n, ↓tp_lt_n, ↓tp_bd_n, ↓tp_jn0_n, ↓tp_jn1_n, ↓tp_jn2_n, ↓tp_jn3_n, w32_id, if_pos, if_neg, tp_ck_t, tp_nz_t, tp_gd_i]
    refine wp_some (hQ _ _ ⟨?_, ?_, ?_, ?_, ?_⟩)
    · (repeat (first | exact fr_rf | assumption | refine fr_up ?_ (by simp) | refine fr_cp ?_ (by simp) | exact fr_mono (by assumption) (by simp)))
    · rw [up_s]; omega
    · rw [up_j _ _ _ (by decide), up_s]
    · rw [up_j _ _ _ (by decide), up_j _ _ _ (by decide), e34]
    · rw [up_k _ _ _ (by decide), up_k _ _ _ (by decide), f2]
  · simp (disch := omega) only [↓tp_lm_n, ↓tp_lt_n, ↓tp_bd_n, ↓tp_jn0_n, ↓tp_jn1_n, ↓tp_jn2_n, ↓tp_jn3_n, w32_id, if_pos, if_neg, tp_ck_t, tp_nz_t, tp_gd_i]
    refine wp_some (hQ _ _ ⟨?_, ?_, ?_, ?_, ?_⟩)
    · (repeat (first | exact fr_rf | assumption | refine fr_up ?_ (by simp) | refine fr_cp ?_ (by simp) | exact fr_mono (by assumption) (by simp)))
    · rw [e1]; omega
    · rw [up_s]
    · rw [up_j _ _ _ (by decide), e34]
    · rw [up_k _ _ _ (by decide), f2]
theorem pm_putsBy {M : tp_M} {u : Int} (hu : M 0 23 = u) (h : 0 ≤ u ∧ u ≤ 15) : wp (fx_X11_putsBy M) (fun _ M1 => tp_fr [14] M M1 ∧ ∀ j : Int, M1 14 j = if 17 * u ≤ j ∧ j < 17 * u + 17 then M 4 (j - 17 * u) else M 14 j) := by
  refine wp_K (fun Q hQ => ?_)
  unfold fx_X11_putsBy
  refine wp_lt ?_
  refine wp_lp1 (fun z M1 => 0 ≤ z ∧ z ≤ 17 ∧ tp_fr [14] M M1 ∧ ∀ j : Int, M1 14 j = if 17 * u ≤ j ∧ j < 17 * u + z then M 4 (j - 17 * u) else M 14 j) (fun z _ => (17 - z).toNat) ?_ tp_F 0 M ⟨by omega, by omega, fr_rf, fun j => by rw [if_neg (by omega)]⟩ (tp_F_pos (by omega))
  intro rec z M1 hI hrec
  obtain ⟨i1, i2, i3, i4⟩ := hI
  have e0 : M1 0 = M 0 := i3 0 (by simp)
  have e4 : M1 4 = M 4 := i3 4 (by simp)
  unfold fx_X11_putsBy_L2
  rw [e0, hu]
  by_cases hz : z < 17
  · simp (disch := omega) only [↓tp_lm_n, ↓tp_lt_n, ↓tp_bd_n, ↓tp_jn0_n, ↓tp_jn1_n, ↓tp_jn2_n, ↓tp_jn3_n, w32_id, if_pos, if_neg, tp_ck_t, tp_nz_t, tp_gd_i]
    refine hrec _ _ ⟨by omega, by omega, ?_, fun j => ?_⟩ (by omega)
    · (repeat (first | exact fr_rf | assumption | refine fr_up ?_ (by simp) | refine fr_cp ?_ (by simp) | exact fr_mono (by assumption) (by simp)))
    · rw [up_c, i4 j, e4]
      by_cases hj : j = 17 * u + z
      · rw [if_pos hj, if_pos (by omega)]
        congr 1
        omega
      · rw [if_neg hj]
        by_cases hj2 : 17 * u ≤ j ∧ j < 17 * u + z
        · rw [if_pos hj2, if_pos (by omega)]
        · rw [if_neg hj2, if_neg (by omega)]
  · simp (disch := omega) only [↓tp_lm_n, ↓tp_lt_n, ↓tp_bd_n, ↓tp_jn0_n, ↓tp_jn1_n, ↓tp_jn2_n, ↓tp_jn3_n, w32_id, if_pos, if_neg, tp_ck_t, tp_nz_t, tp_gd_i]
    refine wp_some (hQ _ _ ⟨i3, fun j => ?_⟩)
    rw [i4 j, show z = 17 by omega]
theorem pm_adds {M : tp_M} {r u : Int} (hu : M 0 23 = u) (h : 0 ≤ u ∧ u ≤ 15) : wp (fx_X11_adds r M) (fun r1 M1 => r1 = r ∧ tp_fr [0, 14] M M1 ∧ (∀ j : Int, ¬ j = 23 → M1 0 j = M 0 j) ∧ M1 0 23 = min 15 (u + 1) ∧ (u < 15 → M1 14 = M 14) ∧ (u = 15 → ∀ j : Int, 0 ≤ j → j < 255 → M1 14 j = M 14 (j + 17))) := by
  refine wp_K (fun Q hQ => ?_)
  unfold fx_X11_adds
  refine wp_lm ?_
  rw [up_s, hu]
  by_cases hc : u < 15
  · simp (disch := omega) only [↓tp_lm_n, ↓tp_lt_n, ↓tp_bd_n, ↓tp_jn0_n, ↓tp_jn1_n, ↓tp_jn2_n, ↓tp_jn3_n, w32_id, if_pos, if_neg, tp_ck_t, tp_nz_t, tp_gd_i]
    refine wp_some (hQ _ _ ⟨rfl, ?_, fun j hj => up_j _ _ _ hj, ?_, fun _ => up_k _ _ _ (by decide), fun q => by omega⟩)
    · (repeat (first | exact fr_rf | assumption | refine fr_up ?_ (by simp) | refine fr_cp ?_ (by simp) | exact fr_mono (by assumption) (by simp)))
    · rw [up_s]; omega
  · simp (disch := omega) only [↓tp_lm_n, ↓tp_lt_n, ↓tp_bd_n, ↓tp_jn0_n, ↓tp_jn1_n, ↓tp_jn2_n, ↓tp_jn3_n, w32_id, if_pos, if_neg, tp_ck_t, tp_nz_t, tp_gd_i]
    refine wp_lp1 (fun z M1 => 0 ≤ z ∧ z ≤ 255 ∧ tp_fr [0, 14] M M1 ∧ (∀ j : Int, ¬ j = 23 → M1 0 j = M 0 j) ∧ M1 0 23 = 16 ∧ ∀ j : Int, M1 14 j = if 0 ≤ j ∧ j < z then M 14 (j + 17) else M 14 j) (fun z _ => (255 - z).toNat) ?_ tp_F 0 _ ⟨by omega, by omega, ?_, fun j hj => up_j _ _ _ hj, ?_, fun j => ?_⟩ (tp_F_pos (by omega))
    · intro rec z M1 hI hrec
      obtain ⟨i1, i2, i3, i4, i5, i6⟩ := hI
      unfold fx_X11_adds_L21
      by_cases hz : z < 255
      · simp (disch := omega) only [↓tp_lm_n, ↓tp_lt_n, ↓tp_bd_n, ↓tp_jn0_n, ↓tp_jn1_n, ↓tp_jn2_n, ↓tp_jn3_n, w32_id, if_pos, if_neg, tp_ck_t, tp_nz_t, tp_gd_i]
        refine hrec _ _ ⟨by omega, by omega, ?_, fun j hj => ?_, ?_, fun j => ?_⟩ (by omega)
        · (repeat (first | exact fr_rf | assumption | refine fr_up ?_ (by simp) | refine fr_cp ?_ (by simp) | exact fr_mono (by assumption) (by simp)))
        · rw [up_k _ _ _ (by decide)]; exact i4 j hj
        · rw [up_k _ _ _ (by decide)]; exact i5
        · rw [up_c]
          by_cases hj : j = z
          · rw [if_pos hj, if_pos (by omega), i6, if_neg (by omega), hj]
          · rw [if_neg hj, i6 j]
            by_cases hj2 : 0 ≤ j ∧ j < z
            · rw [if_pos hj2, if_pos (by omega)]
            · rw [if_neg hj2, if_neg (by omega)]
      · simp (disch := omega) only [↓tp_lm_n, ↓tp_lt_n, ↓tp_bd_n, ↓tp_jn0_n, ↓tp_jn1_n, ↓tp_jn2_n, ↓tp_jn3_n, w32_id, if_pos, if_neg, tp_ck_t, tp_nz_t, tp_gd_i]
        refine wp_some (hQ _ _ ⟨rfl, ?_, fun j hj => ?_, ?_, fun q => by omega, fun _ j j1 j2 => ?_⟩)
        · (repeat (first | exact fr_rf | assumption | refine fr_up ?_ (by simp) | refine fr_cp ?_ (by simp) | exact fr_mono (by assumption) (by simp)))
        · rw [up_j _ _ _ hj]; exact i4 j hj
        · rw [up_s, i5]; omega
        · rw [up_k _ _ _ (by decide), i6, if_pos (by omega)]
    · (repeat (first | exact fr_rf | assumption | refine fr_up ?_ (by simp) | refine fr_cp ?_ (by simp) | exact fr_mono (by assumption) (by simp)))
    · rw [up_s]; omega
    · rw [up_k _ _ _ (by decide), if_neg (by omega)]
theorem sm_row_cg {P W : Int → Int} {h s : Int} {R : Int → Int} {n : Int} {D : Int → Int} {B : Int} {P2 W2 : Int → Int} {h2 s2 : Int} {R2 : Int → Int} (hn : n ≤ 8) (g : sm_row P W h s R n D B) (eP : ∀ v : Int, 0 ≤ v → v < 8 → P2 v = P v) (eW : ∀ v : Int, 0 ≤ v → v < 8 → W2 v = W v) (eh : h2 = h) (es : s2 = s) (eR : ∀ j : Int, 0 ≤ j → j < 17 → R2 j = R j) : sm_row P2 W2 h2 s2 R2 n D B := by
  obtain ⟨g1, g2, g3, g4, g5, g6⟩ := g
  refine ⟨by rw [eh, eR 8 (by decide) (by decide)]; exact g1, by rw [eR 8 (by decide) (by decide)]; exact g2, by rw [es, eR 16 (by decide) (by decide)]; exact g3, by rw [eR 16 (by decide) (by decide)]; exact g4, fun v v1 v2 => ?_, fun v v1 v2 v3 => ?_⟩
  · rw [eP v (by omega) (by omega), eW v (by omega) (by omega), eR v (by omega) (by omega), eR (8 + v) (by omega) (by omega)]
    exact g5 v v1 v2
  · rw [eP v v1 v2, eW v v1 v2]
    exact g6 v v1 v2 v3
theorem wr_same {S P W : Int → Int} {h s a : Int} {R U : Int → Int} {q n : Int} {D : Int → Int} {B : Int} (hn : n ≤ 8) (g : sm_row P W h s R n D B) (hU : ∀ j : Int, 0 ≤ j → j < 17 → U (17 * q + j) = R j) : sm_place (wr_row S P W h s a) a U q n D B := by
  refine sm_row_cg hn g (fun v v1 v2 => ?_) (fun v v1 v2 => ?_) ?_ ?_ hU
  · show wr_row S P W h s a (18 * a + v) = P v
    unfold wr_row
    rw [if_pos (by omega), show 18 * a + v - 18 * a = v by omega]
  · show wr_row S P W h s a (18 * a + 8 + v) = W v
    unfold wr_row
    rw [if_neg (by omega), if_pos (by omega), show 18 * a + 8 + v - 18 * a - 8 = v by omega]
  · unfold wr_row
    rw [if_neg (by omega), if_neg (by omega), if_pos (by omega)]
  · unfold wr_row
    rw [if_neg (by omega), if_neg (by omega), if_neg (by omega), if_pos (by omega)]
theorem wr_other {S P W : Int → Int} {h s a p : Int} (ha : ¬ p = a) {j : Int} (hj : 0 ≤ j ∧ j < 18) : wr_row S P W h s a (18 * p + j) = S (18 * p + j) := by
  unfold wr_row
  rw [if_neg (by omega), if_neg (by omega), if_neg (by omega), if_neg (by omega)]
theorem sm_place_cg {S S2 U U2 : Int → Int} {p p2 q q2 n : Int} {D : Int → Int} {B : Int} (hn : n ≤ 8) (g : sm_place S p U q n D B) (eS : ∀ j : Int, 0 ≤ j → j < 18 → S2 (18 * p2 + j) = S (18 * p + j)) (eU : ∀ j : Int, 0 ≤ j → j < 17 → U2 (17 * q2 + j) = U (17 * q + j)) : sm_place S2 p2 U2 q2 n D B := by
  refine sm_row_cg hn g (fun v v1 v2 => ?_) (fun v v1 v2 => ?_) ?_ ?_ eU
  · exact eS v (by omega) (by omega)
  · have := eS (8 + v) (by omega) (by omega)
    rw [← Int.add_assoc, ← Int.add_assoc] at this
    exact this
  · exact eS 16 (by omega) (by omega)
  · exact eS 17 (by omega) (by omega)
/-- one more is kept for undo -/
theorem sm_push {c1 c2 : Int} {S : Int → Int} {u : Int} {U U1 U2 : Int → Int} {n : Int} {D : Int → Int} {B : Int} {P W : Int → Int} {h s : Int} {R : Int → Int} (hn : n ≤ 8) (g : sm_undo c1 c2 S u U n D B) (gr : sm_row P W h s R n D B) (e1 : ∀ j : Int, U1 j = if 17 * u ≤ j ∧ j < 17 * u + 17 then R (j - 17 * u) else U j) (e2 : u < 15 → U2 = U1) (e3 : u = 15 → ∀ j : Int, 0 ≤ j → j < 255 → U2 j = U1 (j + 17)) : sm_undo (min 15 (c1 + 1)) ((c2 + 1) % 15) (wr_row S P W h s c2) (min 15 (u + 1)) U2 n D B := by
  obtain ⟨g1, g2, g3, g4⟩ := g
  refine ⟨by rw [g1], by omega, by omega, fun i i1 i2 => ?_⟩
  have hnew : ∀ j : Int, 0 ≤ j → j < 17 → U1 (17 * u + j) = R j := fun j j1 j2 => by
    rw [e1, if_pos (by omega), show 17 * u + j - 17 * u = j by omega]
  have hold : ∀ q : Int, q < u → ∀ j : Int, 0 ≤ j → j < 17 → U1 (17 * q + j) = U (17 * q + j) := fun q hq j j1 j2 => by
    rw [e1, if_neg (by omega)]
  by_cases hu : u < 15
  · rw [e2 hu]
    by_cases hi : i = u
    · have hp : ((c2 + 1) % 15 + 15 - min 15 (u + 1) + i) % 15 = c2 := by omega
      rw [hp, hi]
      exact wr_same hn gr hnew
    · refine sm_place_cg hn (g4 i i1 (by omega)) (fun j j1 j2 => ?_) (hold i (by omega))
      have hp : ((c2 + 1) % 15 + 15 - min 15 (u + 1) + i) % 15 = (c2 + 15 - u + i) % 15 := by omega
      rw [hp]
      exact wr_other (by omega) ⟨j1, j2⟩
  · have hu15 : u = 15 := by omega
    have h2 : ∀ j : Int, 0 ≤ j → j < 17 → U2 (17 * i + j) = U1 (17 * (i + 1) + j) := fun j j1 j2 => by
      rw [e3 hu15 _ (by omega) (by omega)]
      congr 1
      omega
    by_cases hi : i = 14
    · have hp : ((c2 + 1) % 15 + 15 - min 15 (u + 1) + i) % 15 = c2 := by omega
      rw [hp]
      refine wr_same hn gr (fun j j1 j2 => ?_)
      rw [h2 j j1 j2, show i + 1 = u by omega]
      exact hnew j j1 j2
    · refine sm_place_cg hn (g4 (i + 1) (by omega) (by omega)) (fun j j1 j2 => ?_) (fun j j1 j2 => ?_)
      · have hp : ((c2 + 1) % 15 + 15 - min 15 (u + 1) + i) % 15 = (c2 + 15 - u + (i + 1)) % 15 := by omega
        rw [hp]
        exact wr_other (by omega) ⟨j1, j2⟩
      · rw [h2 j j1 j2]
        exact hold (i + 1) (by omega) j j1 j2
