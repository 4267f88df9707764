/-! HOME, PASS, ROUND -/
theorem w2_home {C M : tp_M} {B v : Int} (hN : nC C (M 0 3) (M 2) (M 3)) (hR : sm_rule (C 15 4) (C 16) (M 0 18) (M 9)) (h : sm_row (C 29) (C 30) (C 28 2) (C 28 3) (M 5) (M 0 3) (M 2) B) (hv : 1 ≤ v ∧ v < M 0 3) : wp2 (fx_X10_walkHome 28 15 v C) (fx_X11_walkOf v M) (fun r1 C1 r2 M1 => r1 = r2 ∧ tp_fr [18, 28, 29, 59] C C1 ∧ tp_fr [5, 11, 12, 19] M M1 ∧ (((1 ≤ r2 ∧ r2 ≤ 999) ∧ sm_row (C1 29) (C1 30) (C1 28 2) (C1 28 3) (M1 5) (M 0 3) (M 2) B ∧ ∀ u : Int, 0 ≤ u → u < 8 → C1 59 u = M1 19 u ∧ 0 ≤ M1 19 u ∧ M1 19 u ≤ 999) ∨ r2 = -3)) := by
  refine wp2_of (cs_walkHome (t := 15) (s := M 0 18) (Or.inl rfl) hN hR.1 hR.2.1 h hv) (ps_walkOf (f := C 16) (s := M 0 18) hN.2.1 ⟨rfl, hR.2.1, hR.2.2⟩ (rr_of h) hv) (fun r1 C1 r2 M1 p q => ?_)
  obtain ⟨p1, p2⟩ := p
  obtain ⟨q1, q2⟩ := q
  rw [show 15 + 1 = 16 from rfl] at p2
  rcases p2 with ⟨k, k1, k2, k3, k4⟩ | ⟨k1, k2⟩
  · rcases q2 with ⟨l, l1, l2, l3, l4⟩ | ⟨l1, l2⟩
    · obtain rfl := wk_hm_u k1 l1
      have a1 := k1.1
      have a2 := k1.2.1
      refine ⟨by rw [k2, l2], p1, q1, Or.inl ⟨by omega, by rw [l3]; exact k3, fun u u1 u2 => ?_⟩⟩
      rw [k4 u u1 u2, l4 u u1 u2]
      have := wk_cnt_in (fun i => (wk (M 2) (M 3) (C 16) (M 0 18) (M 5) v i).1) u k
      exact ⟨rfl, this.1, by omega⟩
    · exact absurd k1.2.2.1 (l2 k k1.2.1)
  · rcases q2 with ⟨l, l1, l2, l3, l4⟩ | ⟨l1, l2⟩
    · exact absurd l1.2.2.1 (k2 l l1.2.1)
    · exact ⟨by rw [k1, l1], p1, q1, Or.inr l1⟩
/-- the walk thought of goes on from what is -/
def th_ok (B : Int) (C0 M0 C M : tp_M) : Prop := tp_fr [18, 28, 29, 30, 59] C0 C ∧ tp_fr [5, 11, 12, 19] M0 M ∧ sm_row (C 29) (C 30) (C 28 2) (C 28 3) (M 5) (M0 0 3) (M0 2) B
theorem th_begin {B : Int} {C M : tp_M} (h : Sim B C M) : wp2 (fx_X2_copyFrom 28 25 C) (fx_X11_copies 5 17 4 17 (tp_up M 0 0 0)) (fun _ C1 _ M1 => th_ok B C (tp_up M 0 0 0) C1 M1) := by
  have n8 := cn_n (show nC C (M 0 3) (M 2) (M 3) from h.2.2.1)
  refine wp2_of (cy_C C) (pm_copies (k1 := 5) (k2 := 4) (tp_up M 0 0 0) (by decide)) (fun _ C1 _ M1 p q => ?_)
  obtain ⟨p1, -, p3, p4, p5⟩ := p
  obtain ⟨q1, q2⟩ := q
  exact ⟨p1, fr_mono q1 (by simp), cy_row (C := C) (M := tp_up M 0 0 0) (by show M 0 3 ≤ 8; omega) h.2.2.2.1 p3 p4 p5 q2⟩
theorem th_walk {B v : Int} {C0 M0 C M : tp_M} (hE : ac_env C0 M0) (h : th_ok B C0 M0 C M) (hv : 1 ≤ v ∧ v < M0 0 3) : wp2 (fx_X10_walkHome 28 15 v C) (fx_X11_walkOf v M) (fun r1 C1 r2 M1 => r1 = r2 ∧ tp_fr [18, 28, 29, 30, 59] C0 C1 ∧ tp_fr [5, 11, 12, 19] M0 M1 ∧ (((1 ≤ r2 ∧ r2 ≤ 999) ∧ th_ok B C0 M0 C1 M1 ∧ ∀ u : Int, 0 ≤ u → u < 8 → C1 59 u = M1 19 u ∧ 0 ≤ M1 19 u ∧ M1 19 u ≤ 999) ∨ r2 = -3)) := by
  obtain ⟨hN, hR⟩ := hE
  obtain ⟨f, g, hr⟩ := h
  have e0 : M 0 = M0 0 := g 0 (by simp)
  have e2 : M 2 = M0 2 := g 2 (by simp)
  have e3 : M 3 = M0 3 := g 3 (by simp)
  refine wp2_mono (w2_home (C := C) (M := M) (B := B) (v := v) (by rw [e0, e2, e3]; exact nC_fr hN (f 5 (by simp)) (f 6 (by simp)) (f 7 (by simp)) (f 8 (by simp)) (f 9 (by simp))) (by rw [e0, g 9 (by simp), f 15 (by simp), f 16 (by simp)]; exact hR) (by rw [e0, e2]; exact hr) (by rw [e0]; exact hv)) (fun r1 C1 r2 M1 q => ?_)
  obtain ⟨q1, q2, q3, q4⟩ := q
  rw [e0, e2] at q4
  have f1 := fr_tr f (fr_mono q2 (T := [18, 28, 29, 30, 59]) (by simp))
  have g1 := fr_tr g q3
  refine ⟨q1, f1, g1, q4.imp (fun ⟨t1, t2, t3⟩ => ⟨t1, ⟨f1, g1, t2⟩, t3⟩) id⟩
theorem env_0 {B : Int} {C M : tp_M} (h : Sim B C M) : ac_env C (tp_up M 0 0 0) := ⟨h.2.2.1, h.2.2.2.2.1⟩
theorem ans_no2 {B : Int} {C M C1 M1 : tp_M} {r1 r2 : Int} (h : Sim B C M) (hr : r1 = r2) (f : tp_fr [18, 28, 29, 30, 59] C C1) (g : tp_fr [5, 11, 12, 19] (tp_up M 0 0 0) M1) : Ans B r1 C1 r2 M1 := by
  have e0 : M1 0 = tp_up M 0 0 0 0 := g 0 (by simp)
  refine ans_same h (fr_mono f (by simp)) (fr_tr (fr_up fr_rf (by simp)) (fr_mono g (by simp))) (fun j hj => by rw [e0, up_j _ _ _ (f0_ne hj (by decide))]) hr (by rw [f 3 (by simp)]) (f 4 (by simp)) (by rw [e0]; rfl) (by rw [g 1 (by simp), up_k _ _ _ (by decide)])
section ST
variable {B : Int} {C M : tp_M} {a1 a2 a3 : Int}
theorem st_home (h1 : pu_in a1) (h : Sim B C M) : wp2 (fx_X10_home a1 C) (fx_X11_home a1 M) (Ans B) := by
  have hN : nC C (M 0 3) (M 2) (M 3) := h.2.2.1
  have n8 := cn_n hN
  unfold fx_X10_home fx_X11_home
  refine wp2_lm2 ?_
  rw [cn_hasPost hN h1, pm_isOut (M := tp_up M 0 0 0) (n := M 0 3) rfl (by omega) h1]
  by_cases c1 : 1 ≤ a1 ∧ a1 < M 0 3
  · simp (disch := omega) only [↓tp_lm_n, ↓tp_lt_n, ↓tp_bd_n, ↓tp_jn0_n, ↓tp_jn1_n, ↓tp_jn2_n, ↓tp_jn3_n, w32_id, if_pos, if_neg, if_true, if_false, tp_ck_t, tp_nz_t, tp_gd_i, fl01]
    refine wp2_call (th_begin h) (fun _ C1 _ M1 p => ?_)
    refine wp2_call (th_walk (env_0 h) p c1) (fun r1 C2 r2 M2 q => ?_)
    obtain ⟨rfl, f, g, q⟩ := q
    rcases q with ⟨q1, q2, q3⟩ | q
    · have hN2 : nC C2 (M 0 3) (M 2) (M 3) := nC_fr hN (f 5 (by simp)) (f 6 (by simp)) (f 7 (by simp)) (f 8 (by simp)) (f 9 (by simp))
      have e0 : M2 0 = tp_up M 0 0 0 0 := g 0 (by simp)
      have e03 : tp_up M2 0 1 0 0 3 = M 0 3 := by rw [up_j _ _ _ (by decide), e0]; rfl
      simp (disch := omega) only [↓tp_lm_n, ↓tp_lt_n, ↓tp_bd_n, ↓tp_jn0_n, ↓tp_jn1_n, ↓tp_jn2_n, ↓tp_jn3_n, w32_id, if_pos, if_neg, if_true, if_false, tp_ck_t, tp_nz_t, tp_gd_i, cn_crossings hN2]
      refine wp2_c1 (pc_tellRow (k := 59) (n := M 0 3) ⟨by decide, by decide⟩ (by omega)) (fun _ C3 s => ?_)
      obtain ⟨s1, s2⟩ := s
      refine wp2_of (wp_some (Q := fun r C4 => r = r1 ∧ C4 = C3) ⟨rfl, rfl⟩) (lp1_enter (body := fx_X11_home_L43 r1) (K := fun M4 => some (r1, M4)) (g := fun z => w32 (M2 19 z)) (n := M 0 3) (M := tp_up M2 0 1 0) (Q := fun r M4 => r = r1 ∧ tp_fr [0, 1] (tp_up M2 0 1 0) M4 ∧ (∀ j : Int, ¬ j = 1 → M4 0 j = tp_up M2 0 1 0 0 j) ∧ tdM M4 (M 0 3 - 1) (fun j => w32 (M2 19 (j + 1)))) (by omega) (up_s _ _ _ _) (fun rec z M4 t1 t2 z1 z2 => ?_) (fun rec M4 t1 t2 => ?_) (fun M4 t1 t2 t3 => wp_some ⟨rfl, t1, t2, t3⟩)) (fun r3 C4 r4 M4 s t => ?_)
      · have e3 : M4 0 3 = M 0 3 := by rw [t2 3 (by decide), e03]
        have e19 : M4 19 = M2 19 := by rw [t1 19 (by simp), up_k _ _ _ (by decide)]
        unfold fx_X11_home_L43
        rw [e3, e19]
        simp (disch := omega) only [↓tp_lm_n, ↓tp_lt_n, ↓tp_bd_n, ↓tp_jn0_n, ↓tp_jn1_n, ↓tp_jn2_n, ↓tp_jn3_n, w32_id, if_pos, if_neg, if_true, if_false, tp_ck_t, tp_nz_t, tp_gd_i]
      · have e3 : M4 0 3 = M 0 3 := by rw [t2 3 (by decide), e03]
        unfold fx_X11_home_L43
        rw [e3]
        simp (disch := omega) only [↓tp_lm_n, ↓tp_lt_n, ↓tp_bd_n, ↓tp_jn0_n, ↓tp_jn1_n, ↓tp_jn2_n, ↓tp_jn3_n, w32_id, if_pos, if_neg, if_true, if_false, tp_ck_t, tp_nz_t, tp_gd_i]
      · obtain ⟨rfl, rfl⟩ := s
        obtain ⟨rfl, t1, t2, t3⟩ := t
        refine ans_told h (fr_tr (fr_mono f (by simp)) (fr_mono s1 (by simp))) (fr_tr (fr_up fr_rf (by simp)) (fr_tr (fr_mono g (by simp)) (fr_tr (fr_up fr_rf (by simp)) (fr_mono t1 (by simp))))) (fun j hj => ?_) rfl (by omega) s2 t3 (fun j j1 j2 => ?_)
        · rw [t2 j (f0_ne hj (by decide)), up_j _ _ _ (f0_ne hj (by decide)), e0, up_j _ _ _ (f0_ne hj (by decide))]
        · show w64 (w32 (C2 59 (j + 1))) = w64 (w32 (M2 19 (j + 1)))
          rw [(q3 (j + 1) (by omega) (by omega)).1]
    · simp (disch := omega) only [↓tp_lm_n, ↓tp_lt_n, ↓tp_bd_n, ↓tp_jn0_n, ↓tp_jn1_n, ↓tp_jn2_n, ↓tp_jn3_n, w32_id, if_pos, if_neg, if_true, if_false, tp_ck_t, tp_nz_t, tp_gd_i]
      exact wp2_some (ans_no2 h rfl f g)
  · simp (disch := omega) only [↓tp_lm_n, ↓tp_lt_n, ↓tp_bd_n, ↓tp_jn0_n, ↓tp_jn1_n, ↓tp_jn2_n, ↓tp_jn3_n, w32_id, if_pos, if_neg, if_true, if_false, tp_ck_t, tp_nz_t, tp_gd_i, fl01]
    exact wp2_some (ans_no h)
theorem ans_one {b : Int} {C1 M1 : tp_M} {r1 : Int} (h : Sim B C M) (f : tp_fr [18, 28, 29, 30, 59] C C1) (g : tp_fr [5, 11, 12, 19] (tp_up M 0 0 0) M1) : Ans B r1 (tp_up (tp_up (tp_up C1 3 1 0) 4 0 b) 3 1 1) r1 (tp_up (tp_up (tp_up M1 0 1 0) 1 0 b) 0 1 (0 + 1)) := by
  have e0 : M1 0 = tp_up M 0 0 0 0 := g 0 (by simp)
  refine ans_told h (fr_up (fr_up (fr_up (fr_mono f (by simp)) (by simp)) (by simp)) (by simp)) (fr_up (fr_up (fr_up (fr_tr (fr_up fr_rf (by simp)) (fr_mono g (by simp))) (by simp)) (by simp)) (by simp)) (fun j hj => ?_) rfl ⟨by decide, by decide⟩ (td_1C _ _) (td_1M _ _) (fun j j1 j2 => rfl)
  rw [up_j _ _ _ (f0_ne hj (by decide)), up_k _ _ _ (by decide), up_j _ _ _ (f0_ne hj (by decide)), e0, up_j _ _ _ (f0_ne hj (by decide))]
theorem st_pass (h1 : pu_in a1) (h2 : pu_in a2) (h3 : pu_in a3) (h : Sim B C M) : wp2 (fx_X10_pass a1 a2 a3 C) (fx_X11_pass a1 a2 a3 M) (Ans B) := by
  have hN : nC C (M 0 3) (M 2) (M 3) := h.2.2.1
  have n8 := cn_n hN
  have e3 := h3
  unfold pu_in at e3
  unfold fx_X10_pass fx_X11_pass
  refine wp2_lm2 ?_
  rw [cn_hasPost hN h1, pm_isOut (M := tp_up M 0 0 0) (n := M 0 3) rfl (by omega) h1]
  by_cases c1 : 1 ≤ a1 ∧ a1 < M 0 3
  · simp (disch := omega) only [↓tp_lm_n, ↓tp_lt_n, ↓tp_bd_n, ↓tp_jn0_n, ↓tp_jn1_n, ↓tp_jn2_n, ↓tp_jn3_n, w32_id, if_pos, if_neg, if_true, if_false, tp_ck_t, tp_nz_t, tp_gd_i, fl01]
    rw [cn_hasPost hN h2, pm_isOut (M := tp_up M 0 0 0) (n := M 0 3) rfl (by omega) h2]
    by_cases c2 : 1 ≤ a2 ∧ a2 < M 0 3
    · by_cases c3 : 1 ≤ a3
      · by_cases c4 : a3 ≤ 60
        · simp (disch := omega) only [↓tp_lm_n, ↓tp_lt_n, ↓tp_bd_n, ↓tp_jn0_n, ↓tp_jn1_n, ↓tp_jn2_n, ↓tp_jn3_n, w32_id, if_pos, if_neg, if_true, if_false, tp_ck_t, tp_nz_t, tp_gd_i, fl01, pm_in (M := tp_up M 0 0 0) (a := a3) (b := 1) (c := 60) h3 (by unfold pu_in; omega) (by unfold pu_in; omega)]
          refine wp2_call (th_begin h) (fun _ C1 _ M1 p => ?_)
          refine wp2_lp33 (fun x1 x2 x3 C2 y1 y2 y3 M2 => x1 = y1 ∧ x2 = y2 ∧ x3 = y3 ∧ (0 ≤ y3 ∧ y3 ≤ a3) ∧ (0 ≤ y1 ∧ y1 ≤ y3) ∧ (0 ≤ y2 ∧ y2 ≤ 999 * y3) ∧ th_ok B C (tp_up M 0 0 0) C2 M2) (fun _ _ x3 _ _ _ _ _ => (60 - x3).toNat) ?_ tp_F tp_F 0 0 0 C1 0 0 0 M1 ⟨rfl, rfl, rfl, by omega, by omega, by omega, p⟩ (tp_F_pos (by omega)) (tp_F_pos (by omega))
          intro rec1 rec2 x1 x2 x3 C2 y1 y2 y3 M2 hI hrec
          obtain ⟨rfl, rfl, rfl, i1, i2, i3, i4⟩ := hI
          unfold fx_X10_pass_L55 fx_X11_pass_L55
          by_cases hx : x3 < a3
          · rw [w32_id (show -2147483648 ≤ x3 ∧ x3 < 2147483648 by omega), w32_id e3, if_pos hx, if_pos hx]
            refine wp2_call (th_walk (env_0 h) i4 c1) (fun r1 C3 r2 M3 q => ?_)
            obtain ⟨rfl, f, g, q⟩ := q
            have g1 : fx_X11_flag 1 M3 = some (1, M3) := rfl
            have g0 : fx_X11_flag 0 M3 = some (0, M3) := rfl
            rcases q with ⟨q1, q2, q3⟩ | q
            · obtain ⟨t1, t2, t3⟩ := q3 a2 (by omega) (by omega)
              by_cases hp : M3 19 a2 ≤ 0
              · simp (disch := omega) only [↓tp_lm_n, ↓tp_lt_n, ↓tp_bd_n, ↓tp_jn0_n, ↓tp_jn1_n, ↓tp_jn2_n, ↓tp_jn3_n, w32_id, if_pos, if_neg, if_true, if_false, tp_ck_t, tp_nz_t, tp_gd_i, t1, g0]
                refine hrec _ _ _ _ _ _ _ _ ⟨by omega, rfl, rfl, by omega, by omega, by omega, q2⟩ (by omega)
              · simp (disch := omega) only [↓tp_lm_n, ↓tp_lt_n, ↓tp_bd_n, ↓tp_jn0_n, ↓tp_jn1_n, ↓tp_jn2_n, ↓tp_jn3_n, w32_id, if_pos, if_neg, if_true, if_false, tp_ck_t, tp_nz_t, tp_gd_i, t1, g1]
                refine hrec _ _ _ _ _ _ _ _ ⟨by omega, rfl, rfl, by omega, by omega, by omega, q2⟩ (by omega)
            · simp (disch := omega) only [↓tp_lm_n, ↓tp_lt_n, ↓tp_bd_n, ↓tp_jn0_n, ↓tp_jn1_n, ↓tp_jn2_n, ↓tp_jn3_n, w32_id, if_pos, if_neg, if_true, if_false, tp_ck_t, tp_nz_t, tp_gd_i]
              exact wp2_some (ans_no2 h q f g)
          · simp (disch := omega) only [↓tp_lm_n, ↓tp_lt_n, ↓tp_bd_n, ↓tp_jn0_n, ↓tp_jn1_n, ↓tp_jn2_n, ↓tp_jn3_n, w32_id, if_pos, if_neg, if_true, if_false, tp_ck_t, tp_nz_t, tp_gd_i, pc_tell1]
            rw [pm_enters (t := 0) (up_s _ _ _ _) (by decide)]
            simp (disch := omega) only [↓tp_lm_n, ↓tp_lt_n, ↓tp_bd_n, ↓tp_jn0_n, ↓tp_jn1_n, ↓tp_jn2_n, ↓tp_jn3_n, w32_id, if_pos, if_neg, if_true, if_false, tp_ck_t, tp_nz_t, tp_gd_i]
            exact wp2_some (ans_one h i4.1 i4.2.1)
        · simp (disch := omega) only [↓tp_lm_n, ↓tp_lt_n, ↓tp_bd_n, ↓tp_jn0_n, ↓tp_jn1_n, ↓tp_jn2_n, ↓tp_jn3_n, w32_id, if_pos, if_neg, if_true, if_false, tp_ck_t, tp_nz_t, tp_gd_i, fl01, pm_in (M := tp_up M 0 0 0) (a := a3) (b := 1) (c := 60) h3 (by unfold pu_in; omega) (by unfold pu_in; omega)]
          exact wp2_some (ans_no h)
      · simp (disch := omega) only [↓tp_lm_n, ↓tp_lt_n, ↓tp_bd_n, ↓tp_jn0_n, ↓tp_jn1_n, ↓tp_jn2_n, ↓tp_jn3_n, w32_id, if_pos, if_neg, if_true, if_false, tp_ck_t, tp_nz_t, tp_gd_i, fl01, pm_in (M := tp_up M 0 0 0) (a := a3) (b := 1) (c := 60) h3 (by unfold pu_in; omega) (by unfold pu_in; omega)]
        exact wp2_some (ans_no h)
    · simp (disch := omega) only [↓tp_lm_n, ↓tp_lt_n, ↓tp_bd_n, ↓tp_jn0_n, ↓tp_jn1_n, ↓tp_jn2_n, ↓tp_jn3_n, w32_id, if_pos, if_neg, if_true, if_false, tp_ck_t, tp_nz_t, tp_gd_i, fl01]
      exact wp2_some (ans_no h)
  · simp (disch := omega) only [↓tp_lm_n, ↓tp_lt_n, ↓tp_bd_n, ↓tp_jn0_n, ↓tp_jn1_n, ↓tp_jn2_n, ↓tp_jn3_n, w32_id, if_pos, if_neg, if_true, if_false, tp_ck_t, tp_nz_t, tp_gd_i, fl01]
    exact wp2_some (ans_no h)
theorem cs_hasPosts {C : tp_M} (hc : ∀ v : Int, 1 ≤ v → v < 8 → (0 ≤ C 29 v ∧ C 29 v < 8) ∧ 0 ≤ C 26 v ∧ C 26 v < 8) : wp (fx_X2_hasPostsOf 28 25 C) (fun r C1 => C1 = C ∧ ((r = 1 ∧ ∀ v : Int, 1 ≤ v → v < 8 → C 29 v = C 26 v) ∨ (r = 0 ∧ ∃ v : Int, (1 ≤ v ∧ v < 8) ∧ ¬ C 29 v = C 26 v))) := by
  unfold fx_X2_hasPostsOf
  refine wp_lt ?_
  refine wp_lp1 (fun z C1 => C1 = C ∧ (1 ≤ z ∧ z ≤ 8) ∧ ∀ v : Int, 1 ≤ v → v < z → C 29 v = C 26 v) (fun z _ => (8 - z).toNat) ?_ tp_F 1 C ⟨rfl, by omega, fun v v1 v2 => by omega⟩ (tp_F_pos (by omega))
  intro rec z C1 hI hrec
  obtain ⟨rfl, i1, i2⟩ := hI
  refine wp_K (fun Q hQ => ?_)
  unfold fx_X2_hasPostsOf_L2
  by_cases hz : z < 8
  · have h9 := hc z (by omega) hz
    by_cases he : C1 29 z = C1 26 z
    · simp (disch := omega) only [↓tp_lm_n, ↓tp_lt_n, ↓tp_bd_n, ↓tp_jn0_n, ↓tp_jn1_n, ↓tp_jn2_n, ↓tp_jn3_n, w32_id, if_pos, if_neg, if_true, if_false, tp_ck_t, tp_nz_t, tp_gd_i, Nat.reduceAdd, he]
      refine wp_mono (hrec _ _ ⟨rfl, by omega, fun v v1 v2 => ?_⟩ (by omega)) hQ
      by_cases hv : v = z
      · rw [hv]; exact he
      · exact i2 v v1 (by omega)
    · simp (disch := omega) only [↓tp_lm_n, ↓tp_lt_n, ↓tp_bd_n, ↓tp_jn0_n, ↓tp_jn1_n, ↓tp_jn2_n, ↓tp_jn3_n, w32_id, if_pos, if_neg, if_true, if_false, tp_ck_t, tp_nz_t, tp_gd_i, Nat.reduceAdd]
      exact wp_some (hQ _ _ ⟨rfl, Or.inr ⟨rfl, z, by omega, he⟩⟩)
  · simp (disch := omega) only [↓tp_lm_n, ↓tp_lt_n, ↓tp_bd_n, ↓tp_jn0_n, ↓tp_jn1_n, ↓tp_jn2_n, ↓tp_jn3_n, w32_id, if_pos, if_neg, if_true, if_false, tp_ck_t, tp_nz_t, tp_gd_i]
    exact wp_some (hQ _ _ ⟨rfl, Or.inl ⟨rfl, fun v v1 v2 => i2 v v1 (by omega)⟩⟩)
theorem ps_arePosts {k1 k2 : Nat} {M : tp_M} (hn : 2 ≤ M 0 3 ∧ M 0 3 ≤ 8) (hc : ∀ v : Int, 1 ≤ v → v < M 0 3 → (0 ≤ M k1 v ∧ M k1 v < 8) ∧ 0 ≤ M k2 v ∧ M k2 v < 8) : wp (fx_X11_arePosts k1 17 k2 17 M) (fun r M1 => M1 = M ∧ ((r = 1 ∧ ∀ v : Int, 1 ≤ v → v < M 0 3 → M k1 v = M k2 v) ∨ (r = 0 ∧ ∃ v : Int, (1 ≤ v ∧ v < M 0 3) ∧ ¬ M k1 v = M k2 v))) := by
  unfold fx_X11_arePosts
  refine wp_lt ?_
  refine wp_lt ?_
  refine wp_lp2 (fun a z M1 => M1 = M ∧ (1 ≤ z ∧ z ≤ M 0 3) ∧ ((a = 1 ∧ ∀ v : Int, 1 ≤ v → v < z → M k1 v = M k2 v) ∨ (a = 0 ∧ ∃ v : Int, (1 ≤ v ∧ v < M 0 3) ∧ ¬ M k1 v = M k2 v))) (fun _ z _ => (8 - z).toNat) ?_ tp_F 1 1 M ⟨rfl, by omega, Or.inl ⟨rfl, fun v v1 v2 => by omega⟩⟩ (tp_F_pos (by omega))
  intro rec a z M1 hI hrec
  obtain ⟨rfl, i1, i2⟩ := hI
  unfold fx_X11_arePosts_L5
  by_cases hz : z < M1 0 3
  · have h9 := hc z (by omega) hz
    rcases i2 with ⟨rfl, i2⟩ | ⟨rfl, i2⟩
    · by_cases he : M1 k1 z = M1 k2 z
      · simp (disch := omega) only [↓tp_lm_n, ↓tp_lt_n, ↓tp_bd_n, ↓tp_jn0_n, ↓tp_jn1_n, ↓tp_jn2_n, ↓tp_jn3_n, w32_id, if_pos, if_neg, if_true, if_false, tp_ck_t, tp_nz_t, tp_gd_i, he]
        refine hrec _ _ _ ⟨rfl, by omega, Or.inl ⟨rfl, fun v v1 v2 => ?_⟩⟩ (by omega)
        by_cases hv : v = z
        · rw [hv]; exact he
        · exact i2 v v1 (by omega)
      · simp (disch := omega) only [↓tp_lm_n, ↓tp_lt_n, ↓tp_bd_n, ↓tp_jn0_n, ↓tp_jn1_n, ↓tp_jn2_n, ↓tp_jn3_n, w32_id, if_pos, if_neg, if_true, if_false, tp_ck_t, tp_nz_t, tp_gd_i]
        exact hrec _ _ _ ⟨rfl, by omega, Or.inr ⟨rfl, z, by omega, he⟩⟩ (by omega)
    · simp (disch := omega) only [↓tp_lm_n, ↓tp_lt_n, ↓tp_bd_n, ↓tp_jn0_n, ↓tp_jn1_n, ↓tp_jn2_n, ↓tp_jn3_n, w32_id, if_pos, if_neg, if_true, if_false, tp_ck_t, tp_nz_t, tp_gd_i]
      exact hrec _ _ _ ⟨rfl, by omega, Or.inr ⟨rfl, i2⟩⟩ (by omega)
  · rcases i2 with ⟨rfl, i2⟩ | ⟨rfl, i2⟩
    · simp (disch := omega) only [↓tp_lm_n, ↓tp_lt_n, ↓tp_bd_n, ↓tp_jn0_n, ↓tp_jn1_n, ↓tp_jn2_n, ↓tp_jn3_n, w32_id, if_pos, if_neg, if_true, if_false, tp_ck_t, tp_nz_t, tp_gd_i]
      exact wp_some ⟨rfl, Or.inl ⟨rfl, fun v v1 v2 => i2 v v1 (by omega)⟩⟩
    · simp (disch := omega) only [↓tp_lm_n, ↓tp_lt_n, ↓tp_bd_n, ↓tp_jn0_n, ↓tp_jn1_n, ↓tp_jn2_n, ↓tp_jn3_n, w32_id, if_pos, if_neg, if_true, if_false, tp_ck_t, tp_nz_t, tp_gd_i]
      exact wp_some ⟨rfl, Or.inr ⟨rfl, i2⟩⟩
theorem st_round (h1 : pu_in a1) (h : Sim B C M) : wp2 (fx_X10_round a1 C) (fx_X11_round a1 M) (Ans B) := by
  have hN : nC C (M 0 3) (M 2) (M 3) := h.2.2.1
  have n8 := cn_n hN
  have hW := h.2.2.2.1
  unfold fx_X10_round fx_X11_round
  refine wp2_lm2 ?_
  rw [cn_hasPost hN h1, pm_isOut (M := tp_up M 0 0 0) (n := M 0 3) rfl (by omega) h1]
  by_cases c1 : 1 ≤ a1 ∧ a1 < M 0 3
  · simp (disch := omega) only [↓tp_lm_n, ↓tp_lt_n, ↓tp_bd_n, ↓tp_jn0_n, ↓tp_jn1_n, ↓tp_jn2_n, ↓tp_jn3_n, w32_id, if_pos, if_neg, if_true, if_false, tp_ck_t, tp_nz_t, tp_gd_i, fl01]
    refine wp2_call (th_begin h) (fun _ C1 _ M1 p => ?_)
    refine wp2_lp22 (fun x2 x3 C2 y2 y3 M2 => x2 = y2 ∧ x3 = y3 ∧ (1 ≤ y3 ∧ y3 ≤ 301) ∧ (0 ≤ y2 ∧ y2 ≤ 999 * y3) ∧ th_ok B C (tp_up M 0 0 0) C2 M2) (fun _ x3 _ _ _ _ => (301 - x3).toNat) ?_ tp_F tp_F 0 1 C1 0 1 M1 ⟨rfl, rfl, by omega, by omega, p⟩ (tp_F_pos (by omega)) (tp_F_pos (by omega))
    intro rec1 rec2 x2 x3 C2 y2 y3 M2 hI hrec
    obtain ⟨rfl, rfl, i1, i3, i4⟩ := hI
    unfold fx_X10_round_L28 fx_X11_round_L30
    by_cases hx : x3 ≤ 300
    · rw [w32_id (show -2147483648 ≤ x3 ∧ x3 < 2147483648 by omega), if_pos hx, if_pos hx]
      refine wp2_call (th_walk (env_0 h) i4 c1) (fun r1 C3 r2 M3 q => ?_)
      obtain ⟨rfl, f, g, q⟩ := q
      rcases q with ⟨q1, q2, -⟩ | q
      · have e26 : C3 26 = C 26 := f 26 (by simp)
        have e4 : M3 4 = M 4 := by rw [g 4 (by simp), up_k _ _ _ (by decide)]
        have e03 : M3 0 3 = M 0 3 := by rw [g 0 (by simp)]; rfl
        have hr3 := q2.2.2
        have hb1 : ∀ v : Int, 1 ≤ v → v < M 0 3 → C3 29 v = M3 5 v ∧ C 26 v = M 4 v ∧ (0 ≤ M3 5 v ∧ M3 5 v < 8) ∧ 0 ≤ M 4 v ∧ M 4 v < 8 := fun v v1 v2 => by
          obtain ⟨s1, s2, -, -⟩ := hr3.2.2.2.2.1 v v1 v2
          obtain ⟨t1, t2, -, -⟩ := hW.2.2.2.2.1 v v1 v2
          have d4 := cn_D hN (a := v) ⟨v1, v2⟩
          have s2' : 0 ≤ M3 5 v ∧ M3 5 v < M 2 v := s2
          exact ⟨s1, t1, by omega, by omega⟩
        have hb2 : ∀ v : Int, M 0 3 ≤ v → v < 8 → C3 29 v = 0 ∧ C 26 v = 0 := fun v v1 v2 => ⟨(hr3.2.2.2.2.2 v (by omega) v2 (Or.inr v1)).1, (hW.2.2.2.2.2 v (by omega) v2 (Or.inr v1)).1⟩
        have hcp := cs_hasPosts (C := C3) (fun v v1 v2 => by
          rw [e26]
          by_cases hv : v < M 0 3
          · have := hb1 v v1 hv; omega
          · have := hb2 v (by omega) v2; omega)
        have hpp := ps_arePosts (k1 := 5) (k2 := 4) (M := M3) (by rw [e03]; omega) (fun v v1 v2 => by
          rw [e4]
          rw [e03] at v2
          have := hb1 v v1 v2
          exact ⟨this.2.2.1, this.2.2.2⟩)
        obtain ⟨r5, C5, f5, rfl, s⟩ := hcp
        obtain ⟨r6, M6, f6, rfl, t⟩ := hpp
        rw [e26] at s
        rw [e4, e03] at t
        rcases s with ⟨rfl, s⟩ | ⟨rfl, s⟩
        · rcases t with ⟨rfl, t⟩ | ⟨rfl, v, v1, v2⟩
          · simp (disch := omega) only [↓tp_lm_n, ↓tp_lt_n, ↓tp_bd_n, ↓tp_jn0_n, ↓tp_jn1_n, ↓tp_jn2_n, ↓tp_jn3_n, w32_id, if_pos, if_neg, if_true, if_false, tp_ck_t, tp_nz_t, tp_gd_i, f5, f6, pc_tell1]
            rw [pm_enters (t := 0) (up_s _ _ _ _) (by decide)]
            simp (disch := omega) only [↓tp_lm_n, ↓tp_lt_n, ↓tp_bd_n, ↓tp_jn0_n, ↓tp_jn1_n, ↓tp_jn2_n, ↓tp_jn3_n, w32_id, if_pos, if_neg, if_true, if_false, tp_ck_t, tp_nz_t, tp_gd_i]
            exact wp2_some (ans_one h f g)
          · exfalso
            have a := s v v1.1 (by omega)
            have b := hb1 v v1.1 v1.2
            omega
        · rcases t with ⟨rfl, t⟩ | ⟨rfl, t⟩
          · exfalso
            obtain ⟨v, v1, v2⟩ := s
            by_cases hv : v < M 0 3
            · have a := t v v1.1 hv
              have b := hb1 v v1.1 hv
              omega
            · have b := hb2 v (by omega) v1.2
              omega
          · simp (disch := omega) only [↓tp_lm_n, ↓tp_lt_n, ↓tp_bd_n, ↓tp_jn0_n, ↓tp_jn1_n, ↓tp_jn2_n, ↓tp_jn3_n, w32_id, if_pos, if_neg, if_true, if_false, tp_ck_t, tp_nz_t, tp_gd_i, f5, f6]
            refine hrec _ _ _ _ _ _ ⟨rfl, rfl, by omega, by omega, q2⟩ (by omega)
      · simp (disch := omega) only [↓tp_lm_n, ↓tp_lt_n, ↓tp_bd_n, ↓tp_jn0_n, ↓tp_jn1_n, ↓tp_jn2_n, ↓tp_jn3_n, w32_id, if_pos, if_neg, if_true, if_false, tp_ck_t, tp_nz_t, tp_gd_i]
        exact wp2_some (ans_no2 h q f g)
    · simp (disch := omega) only [↓tp_lm_n, ↓tp_lt_n, ↓tp_bd_n, ↓tp_jn0_n, ↓tp_jn1_n, ↓tp_jn2_n, ↓tp_jn3_n, w32_id, if_pos, if_neg, if_true, if_false, tp_ck_t, tp_nz_t, tp_gd_i]
      exact wp2_some (ans_no2 h rfl i4.1 i4.2.1)
  · simp (disch := omega) only [↓tp_lm_n, ↓tp_lt_n, ↓tp_bd_n, ↓tp_jn0_n, ↓tp_jn1_n, ↓tp_jn2_n, ↓tp_jn3_n, w32_id, if_pos, if_neg, if_true, if_false, tp_ck_t, tp_nz_t, tp_gd_i, fl01]
    exact wp2_some (ans_no h)
end ST
