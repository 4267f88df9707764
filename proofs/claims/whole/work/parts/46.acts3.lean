/-! ACTS as calls: kept for undo -/
def wr_C (C C1 : tp_M) : Prop := tp_fr [31, 32, 33] C C1 ∧ C1 31 2 = C 25 2 ∧ C1 31 3 = C 25 3 ∧ ∀ j : Int, 0 ≤ j → j < 8 → C1 32 j = C 26 j ∧ C1 33 j = C 27 j
def wr_M (M M1 : tp_M) : Prop := tp_fr [0, 14] M M1 ∧ (∀ j : Int, ¬ j = 0 → M1 0 j = M 0 j) ∧ ∀ j : Int, M1 14 j = if 17 * M 0 23 ≤ j ∧ j < 17 * M 0 23 + 17 then M 4 (j - 17 * M 0 23) else M 14 j
theorem wr_c (C : tp_M) : wp (fx_X2_copyFrom 31 25 C) (fun _ C1 => wr_C C C1) := cy_gen (t := 31) (k := 25) (by omega) (by omega) (by decide) C
theorem wr_m {M : tp_M} (h : 0 ≤ M 0 23 ∧ M 0 23 ≤ 15) : wp (fx_X11_putsBy (tp_up M 0 0 0)) (fun _ M1 => wr_M M M1) := by
  refine wp_mono (pm_putsBy (M := tp_up M 0 0 0) (u := M 0 23) (up_j _ _ _ (by decide)) h) (fun _ M1 q => ?_)
  obtain ⟨q1, q2⟩ := q
  refine ⟨fr_tr (fr_up fr_rf (by simp)) (fr_mono q1 (by simp)), fun j hj => by rw [q1 0 (by simp), up_j _ _ _ hj], fun j => ?_⟩
  rw [q2 j, up_k _ _ _ (by decide), up_k _ _ _ (by decide)]
theorem wr_env {B : Int} {C M C1 M1 : tp_M} (h : Sim B C M) (hC : wr_C C C1) (hM : wr_M M M1) : ac_env C1 M1 ∧ ac_row C1 M1 (M1 0 3) (M1 2) B := by
  have f := hC.1
  have g := hM.1
  have e3 := hM.2.1 3 (by decide)
  have e18 := hM.2.1 18 (by decide)
  unfold ac_env ac_row nC
  rw [f 5 (by simp), f 6 (by simp), f 7 (by simp), f 8 (by simp), f 9 (by simp), f 15 (by simp), f 16 (by simp), f 25 (by simp), f 26 (by simp), f 27 (by simp), g 2 (by simp), g 3 (by simp), g 4 (by simp), g 9 (by simp), e3, e18]
  exact ⟨⟨h.2.2.1, h.2.2.2.2.1⟩, h.2.2.2.1⟩
theorem sm_undo_cg {c1 c2 : Int} {S : Int → Int} {m : Int} {U U2 : Int → Int} {n : Int} {D : Int → Int} {B : Int} (hn : n ≤ 8) (g : sm_undo c1 c2 S m U n D B) (e : ∀ j : Int, 0 ≤ j → j < 17 * m → U2 j = U j) : sm_undo c1 c2 S m U2 n D B := by
  obtain ⟨g1, g2, g3, g4⟩ := g
  exact ⟨g1, g2, g3, fun i i1 i2 => sm_place_cg hn (g4 i i1 i2) (fun _ _ _ => rfl) (fun j j1 j2 => e _ (by omega) (by omega))⟩
theorem wr_kept {B B2 r : Int} {C M C1 M1 C2 M2 : tp_M} (h : Sim B C M) (hB : B ≤ B2) (hC : wr_C C C1) (hM : wr_M M M1) (hr : ac_in r) (fC : ac_C C1 C2) (fM : ac_M M1 M2) (hrow : ac_row C2 M2 (M 0 3) (M 2) B2) (ht : sm_told (C2 3 1) (C2 4) (M2 0 1) (M2 1)) : wp2 (fx_X10_kept r C2) (fx_X11_counted r M2) (fun r1 C3 r2 M3 => w32 r1 = w32 r2 ∧ Sim B2 C3 M3) := by
  have n8 := h.2.2.1.2.1.1
  obtain ⟨c1, c2, c3, c4⟩ := hC
  obtain ⟨m1, m2, m3⟩ := hM
  have hu := h.2.2.2.2.2.1
  have hk := h.2.2.2.2.2.2.1
  have hrw := h.2.2.2.1
  unfold ac_in at hr
  have fC2 : tp_fr [3, 4, 18, 25, 26, 27, 28, 29, 30, 31, 32, 33, 37, 38, 59] C C2 := fr_tr (fr_mono c1 (by simp)) (fr_mono fC (by simp))
  have fM2 : tp_fr [0, 1, 4, 5, 11, 12, 14, 15] M M2 := fr_tr (fr_mono m1 (by simp)) (fr_mono fM.1 (by simp))
  have h0 : ∀ j : Int, j ∈ ([3, 9, 18, 23, 39, 44] : List Int) → M2 0 j = M 0 j := fun j hj => by
    simp only [List.mem_cons, List.not_mem_nil, or_false] at hj
    rw [fM.2 j (by simp; omega), m2 j (by omega)]
  have e34 : C2 34 = C 34 := fC2 34 (by simp)
  have e35 : C2 35 = C 35 := fC2 35 (by simp)
  have e14 : M2 14 = M1 14 := fM.1 14 (by simp)
  have e3 : M2 0 3 = M 0 3 := h0 3 (by simp)
  have e23 : M2 0 23 = M 0 23 := h0 23 (by simp)
  have e2 : M2 2 = M 2 := fM2 2 (by simp)
  have e32 : M2 32 = M 32 := fM2 32 (by simp)
  have e33 : M2 33 = M 33 := fM2 33 (by simp)
  unfold fx_X10_kept fx_X11_counted
  by_cases hr0 : r < 0
  · simp (disch := omega) only [↓tp_lm_n, ↓tp_lt_n, ↓tp_bd_n, ↓tp_jn0_n, ↓tp_jn1_n, ↓tp_jn2_n, ↓tp_jn3_n, w32_id, if_pos, if_neg, tp_ck_t, tp_nz_t, tp_gd_i]
    refine wp2_some ⟨rfl, Sim_act h hB fC2 fM2 (by simp) (by simp) (fun j hj => h0 j ?_) ht (by rw [e3, e2]; exact hrow) ?_ ?_⟩
    · simp only [List.mem_cons, List.not_mem_nil, or_false] at hj ⊢
      omega
    · rw [e34, e35, e23, e14, e3, e2]
      exact sm_undo_le hB (sm_undo_cg (by omega) hu (fun j j1 j2 => by rw [m3 j, if_neg (by omega)]))
    · rw [e34, e35, e32, e33, e3, e2]
      exact sm_kept_le hB hk
  · obtain ⟨u1, u2, u3, u4⟩ := id hu
    obtain ⟨x1, C3, f1, p1, p2, p3, p4, p5⟩ := pc_push (k := 31) (Or.inr (Or.inr rfl)) (M := C2) (c1 := C 34 1) (c2 := C 34 2) (by rw [e34]) (by rw [e34]) (by omega) u3
    obtain ⟨x2, M3, f2, q1, q2, q3, q4, q5, q6⟩ := pm_adds (M := M2) (r := r) (u := M 0 23) e23 u2
    simp (disch := omega) only [↓tp_lm_n, ↓tp_lt_n, ↓tp_bd_n, ↓tp_jn0_n, ↓tp_jn1_n, ↓tp_jn2_n, ↓tp_jn3_n, w32_id, if_pos, if_neg, tp_ck_t, tp_nz_t, tp_gd_i, f1, f2]
    refine wp2_some ⟨by rw [q1], Sim_act h hB (SC := [3, 4, 18, 25, 26, 27, 28, 29, 30, 31, 32, 33, 34, 35, 37, 38, 59]) (SM := [0, 1, 4, 5, 11, 12, 14, 15]) (fr_tr (fr_mono fC2 (by simp)) (fr_mono p1 (by simp))) (fr_tr (fr_mono fM2 (by simp)) (fr_mono q2 (by simp))) (by simp) (by simp) (fun j hj => ?_) ?_ ?_ ?_ ?_⟩
    · simp only [List.mem_cons, List.not_mem_nil, or_false] at hj
      rw [q3 j (by omega)]
      exact h0 j (by simp; omega)
    · rw [p1 3 (by simp), p1 4 (by simp), q3 1 (by decide), q2 1 (by simp)]
      exact ht
    · rw [p1 25 (by simp), p1 26 (by simp), p1 27 (by simp), q2 4 (by simp), q3 3 (by decide), e3, q2 2 (by simp), e2]
      exact hrow
    · rw [p2, p3, p5, q4, q3 3 (by decide), e3, q2 2 (by simp), e2, e35]
      have g31 : C2 31 = C1 31 := fC 31 (by simp)
      have g32 : C2 (31 + 1) = C1 32 := fC 32 (by simp)
      have g33 : C2 (31 + 2) = C1 33 := fC 33 (by simp)
      rw [g31, g32, g33]
      refine sm_push (R := M 4) (U1 := M1 14) (by omega) (sm_undo_le hB hu) (sm_row_le hB ?_) m3 (fun hlt => by rw [q5 hlt, e14]) (fun he j j1 j2 => by rw [q6 he j j1 j2, e14])
      exact sm_row_cg (by omega) hrw (fun v v1 v2 => (c4 v v1 v2).1) (fun v v1 v2 => (c4 v v1 v2).2) c2 c3 (fun _ _ _ => rfl)
    · rw [p4, p5, q2 32 (by simp), q2 33 (by simp), q3 3 (by decide), e3, q2 2 (by simp), e2, e34, e35, e32, e33]
      obtain ⟨k1, k2⟩ := hk
      refine ⟨k1, fun i hi => ⟨(k2 i hi).1, (k2 i hi).2.1, fun hki => sm_place_cg (by omega) (sm_row_le hB ((k2 i hi).2.2 hki)) (fun j j1 j2 => wr_other (by omega) ⟨j1, j2⟩) (fun _ _ _ => rfl)⟩⟩
theorem wr_told {B : Int} {C M C1 M1 C2 M2 : tp_M} (h : Sim B C M) (hC : wr_C C C1) (hM : wr_M M M1) (ht : tl_same C1 M1 C2 M2) : sm_told (C2 3 1) (C2 4) (M2 0 1) (M2 1) := by
  obtain ⟨t1, t2, t3, t4⟩ := ht
  rw [t1, t2, t3, t4, hC.1 3 (by simp), hC.1 4 (by simp), hM.1 1 (by simp), hM.2.1 1 (by decide)]
  exact h.2.1
def Ans (B : Int) (r1 : Int) (C1 : tp_M) (r2 : Int) (M1 : tp_M) : Prop := w32 r1 = w32 r2 ∧ Sim B C1 M1
section ST
variable {B : Int} {C M : tp_M} {a1 a2 : Int}
theorem st_comes (h1 : pu_in a1) (h2 : pu_in a2) (hB : 1000 ≤ B ∧ B ≤ 600000) (h : Sim B C M) : wp2 (fx_X10_comes a1 a2 C) (fx_X11_comes a1 a2 M) (Ans (B + 1000)) := by
  unfold fx_X10_comes fx_X11_comes
  refine wp2_c1 (wr_c C) (fun _ C1 hC => ?_)
  refine wp2_lm2 ?_
  refine wp2_c2 (wr_m h.2.2.2.2.2.1.2.1) (fun _ M1 hM => ?_)
  obtain ⟨hE, hR⟩ := wr_env h hC hM
  have e3 := hM.2.1 3 (by decide)
  have e2 := hM.1 2 (by simp)
  refine wp2_call (ac_comes h1 h2 hE hR (by omega) (by omega)) (fun r1 C2 r2 M2 q => ?_)
  obtain ⟨rfl, q2, q3, q4, q5, q6⟩ := q
  rw [e3, e2] at q5
  refine wp2_call (wr_kept h (B2 := B + 1000) (by omega) hC hM q2 q3 q4 (sm_row_le (by omega) q5) (wr_told h hC hM q6)) (fun _ _ _ _ q => wp2_some q)
theorem st_points (h1 : pu_in a1) (h2 : pu_in a2) (hB : 1000 ≤ B ∧ B ≤ 600000) (h : Sim B C M) : wp2 (fx_X10_points a1 a2 C) (fx_X11_points a1 a2 M) (Ans (B + 1000)) := by
  unfold fx_X10_points fx_X11_points
  refine wp2_c1 (wr_c C) (fun _ C1 hC => ?_)
  refine wp2_lm2 ?_
  refine wp2_c2 (wr_m h.2.2.2.2.2.1.2.1) (fun _ M1 hM => ?_)
  obtain ⟨hE, hR⟩ := wr_env h hC hM
  have e3 := hM.2.1 3 (by decide)
  have e2 := hM.1 2 (by simp)
  refine wp2_call (ac_points h1 h2 hE hR) (fun r1 C2 r2 M2 q => ?_)
  obtain ⟨rfl, q2, q3, q4, q5, q6⟩ := q
  rw [e3, e2] at q5
  refine wp2_call (wr_kept h (B2 := B + 1000) (by omega) hC hM q2 q3 q4 (sm_row_le (by omega) q5) (wr_told h hC hM q6)) (fun _ _ _ _ q => wp2_some q)
theorem st_bursts (h1 : pu_in a1) (hB : 1000 ≤ B ∧ B ≤ 600000) (h : Sim B C M) : wp2 (fx_X10_bursts a1 C) (fx_X11_bursts a1 M) (Ans (B + 1000)) := by
  unfold fx_X10_bursts fx_X11_bursts
  refine wp2_c1 (wr_c C) (fun _ C1 hC => ?_)
  refine wp2_lm2 ?_
  refine wp2_c2 (wr_m h.2.2.2.2.2.1.2.1) (fun _ M1 hM => ?_)
  obtain ⟨hE, hR⟩ := wr_env h hC hM
  have e3 := hM.2.1 3 (by decide)
  have e2 := hM.1 2 (by simp)
  refine wp2_call (ac_bursts h1 hE hR (by omega)) (fun r1 C2 r2 M2 q => ?_)
  obtain ⟨rfl, q2, q3, q4, q5, q6⟩ := q
  rw [e3, e2] at q5
  refine wp2_call (wr_kept h (B2 := B + 1000) (by omega) hC hM q2 q3 q4 (sm_row_le (by omega) q5) (wr_told h hC hM q6)) (fun _ _ _ _ q => wp2_some q)
theorem st_goes (h1 : pu_in a1) (hB : 1000 ≤ B ∧ B ≤ 600000) (h : Sim B C M) : wp2 (fx_X10_goes a1 C) (fx_X11_goes a1 M) (Ans (B + 1000)) := by
  unfold fx_X10_goes fx_X11_goes
  refine wp2_c1 (wr_c C) (fun _ C1 hC => ?_)
  refine wp2_lm2 ?_
  refine wp2_c2 (wr_m h.2.2.2.2.2.1.2.1) (fun _ M1 hM => ?_)
  obtain ⟨hE, hR⟩ := wr_env h hC hM
  have n8 := cn_n hE.1
  have e3 := hM.2.1 3 (by decide)
  have e2 := hM.1 2 (by simp)
  refine wp2_call (ac_goes h1 hE hR (by omega)) (fun r1 C2 r2 M2 q => ?_)
  obtain ⟨rfl, q2, q3, q4, q5, q6⟩ := q
  unfold ac_in at q2
  have hrow := q5
  rw [e3, e2] at q5
  by_cases hr : r1 < 0
  · simp (disch := omega) only [↓tp_lm_n, ↓tp_lt_n, ↓tp_bd_n, ↓tp_jn0_n, ↓tp_jn1_n, ↓tp_jn2_n, ↓tp_jn3_n, w32_id, if_pos, if_neg, tp_ck_t, tp_nz_t, tp_gd_i]
    simp only [if_pos hr] at q6
    refine wp2_call (wr_kept h (B2 := B + 1000) (by omega) hC hM q2 q3 q4 (sm_row_le (by omega) q5) (wr_told h hC hM q6)) (fun _ _ _ _ q => wp2_some q)
  · simp only [if_neg hr] at q6
    obtain ⟨c1, t1, t2, t3, t4, t5⟩ := q6
    have hd := (hE.1.2.1.2 a1 c1.1 c1.2).1
    obtain ⟨b1, b2, b3, b4⟩ := hrow.2.2.2.2.1 a1 c1.1 c1.2
    simp (disch := omega) only [↓tp_lm_n, ↓tp_lt_n, ↓tp_bd_n, ↓tp_jn0_n, ↓tp_jn1_n, ↓tp_jn2_n, ↓tp_jn3_n, w32_id, if_pos, if_neg, tp_ck_t, tp_nz_t, tp_gd_i]
    rw [up_k _ _ _ (by decide), w32_id (show -2147483648 ≤ M2 4 a1 ∧ M2 4 a1 < 2147483648 by omega), pm_enters (t := 0) (up_s _ _ _ _) (by decide)]
    simp (disch := omega) only [↓tp_lm_n, ↓tp_lt_n, ↓tp_bd_n, ↓tp_jn0_n, ↓tp_jn1_n, ↓tp_jn2_n, ↓tp_jn3_n, w32_id, if_pos, if_neg, tp_ck_t, tp_nz_t, tp_gd_i, up_s, up_k, up_j, cp_k]
    rw [pm_enters (t := 0 + 1) (up_s _ _ _ _) (by decide)]
    simp (disch := omega) only [↓tp_lm_n, ↓tp_lt_n, ↓tp_bd_n, ↓tp_jn0_n, ↓tp_jn1_n, ↓tp_jn2_n, ↓tp_jn3_n, w32_id, if_pos, if_neg, tp_ck_t, tp_nz_t, tp_gd_i]
    refine wp2_call (wr_kept h (B2 := B + 1000) (by omega) hC hM q2 q3 ⟨?_, fun j hj => ?_⟩ ?_ ?_) (fun _ _ _ _ q => wp2_some q)
    · exact fr_up (fr_up (fr_up (fr_up (fr_up q4.1 (by simp)) (by simp)) (by simp)) (by simp)) (by simp)
    · have j1 : ¬ j = 1 := fun q => hj (by simp [q])
      simp (disch := omega) only [up_k, up_j]
      exact q4.2 j hj
    · unfold ac_row
      simp (disch := omega) only [up_k]
      exact sm_row_le (by omega) q5
    · rw [t1]
      refine ⟨?_, ?_, fun j j1 j2 => ?_⟩
      · simp (disch := omega) only [up_s]; rfl
      · simp (disch := omega) only [up_s]; decide
      · rw [up_s] at j2
        have hj : j = 0 ∨ j = 1 := by omega
        rcases hj with rfl | rfl
        · rw [t2]
          simp (disch := omega) only [up_k, up_j, up_s]
          rw [b1, w32_id (by omega)]
        · rw [t3]
          simp (disch := omega) only [up_k, up_j, up_s]
          rw [show (0 : Int) + 1 = 1 from rfl, up_s, b3, w32_id (by omega)]
theorem st_walks (h1 : pu_in a1) (hB : 1000 ≤ B ∧ B ≤ 600000) (h : Sim B C M) : wp2 (fx_X10_walks a1 C) (fx_X11_walks a1 M) (Ans (B + 1000)) := by
  unfold fx_X10_walks fx_X11_walks
  refine wp2_c1 (wr_c C) (fun _ C1 hC => ?_)
  refine wp2_lm2 ?_
  refine wp2_c2 (wr_m h.2.2.2.2.2.1.2.1) (fun _ M1 hM => ?_)
  obtain ⟨hE, hR⟩ := wr_env h hC hM
  have n8 := cn_n hE.1
  have e3 := hM.2.1 3 (by decide)
  have e2 := hM.1 2 (by simp)
  refine wp2_call (ac_walks h1 hE hR (by omega)) (fun r1 C2 r2 M2 q => ?_)
  obtain ⟨rfl, q2, q3, q4, q5, q6⟩ := q
  unfold ac_in at q2
  rw [e3, e2] at q5
  by_cases hr : r1 < 0
  · simp (disch := omega) only [↓tp_lm_n, ↓tp_lt_n, ↓tp_bd_n, ↓tp_jn0_n, ↓tp_jn1_n, ↓tp_jn2_n, ↓tp_jn3_n, w32_id, if_pos, if_neg, tp_ck_t, tp_nz_t, tp_gd_i]
    simp only [if_pos hr] at q6
    refine wp2_call (wr_kept h (B2 := B + 1000) (by omega) hC hM q2 q3 q4 (sm_row_le (by omega) q5) (wr_told h hC hM q6)) (fun _ _ _ _ q => wp2_some q)
  · simp only [if_neg hr] at q6
    obtain ⟨t1, t2, t3, t4⟩ := q6
    simp (disch := omega) only [↓tp_lm_n, ↓tp_lt_n, ↓tp_bd_n, ↓tp_jn0_n, ↓tp_jn1_n, ↓tp_jn2_n, ↓tp_jn3_n, w32_id, if_pos, if_neg, tp_ck_t, tp_nz_t, tp_gd_i]
    rw [up_j _ _ _ (show ¬ (25 : Int) = 1 by decide), pm_enters (t := 0) (up_s _ _ _ _) (by decide)]
    simp (disch := omega) only [↓tp_lm_n, ↓tp_lt_n, ↓tp_bd_n, ↓tp_jn0_n, ↓tp_jn1_n, ↓tp_jn2_n, ↓tp_jn3_n, w32_id, if_pos, if_neg, tp_ck_t, tp_nz_t, tp_gd_i]
    refine wp2_call (wr_kept h (B2 := B + 1000) (by omega) hC hM q2 q3 ⟨?_, fun j hj => ?_⟩ ?_ ?_) (fun _ _ _ _ q => wp2_some q)
    · exact fr_up (fr_up (fr_up q4.1 (by simp)) (by simp)) (by simp)
    · have j1 : ¬ j = 1 := fun q => hj (by simp [q])
      simp (disch := omega) only [up_k, up_j]
      exact q4.2 j hj
    · unfold ac_row
      simp (disch := omega) only [up_k]
      exact sm_row_le (by omega) q5
    · rw [t1]
      refine ⟨?_, ?_, fun j j1 j2 => ?_⟩
      · simp (disch := omega) only [up_s]; rfl
      · simp (disch := omega) only [up_s]; decide
      · rw [up_s] at j2
        have hj : j = 0 := by omega
        rw [hj, t2]
        simp (disch := omega) only [up_k, up_j, up_s]
end ST
