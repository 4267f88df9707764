/-! WAY, ROW, READY, COUNT, SHEET -/
def AnsT (W : Int → Int) (B : Int) (r1 : Int) (C1 : tp_M) (r2 : Int) (M1 : tp_M) : Prop := w32 (M1 0 0) = (if r1 = tp_TH then 1 else 0) ∧ (r1 ≠ tp_TH → W r1 = W r2) ∧ Sim B C1 M1
theorem th_ne {a : Int} : ¬ w32 a = tp_TH := by
  unfold w32 tp_TH
  omega
theorem th_ne64 {a : Int} : ¬ w64 a = tp_TH := by
  unfold w64 tp_TH
  omega
theorem Sim_1 {B : Int} {C M : tp_M} (h : Sim B C M) : Sim B C (tp_up (tp_up M 0 0 0) 0 0 1) := Sim_same h (Int.le_refl B) (SC := []) (SM := [0]) fr_rf (fr_up (fr_up fr_rf (by simp)) (by simp)) (by simp) (by simp) (fun j hj => by rw [up_j _ _ _ (f0_ne hj (by decide)), up_j _ _ _ (f0_ne hj (by decide))])
theorem ansT_th {W : Int → Int} {B : Int} {C M : tp_M} {r : Int} (h : Sim B C M) : AnsT W B tp_TH C r (tp_up (tp_up M 0 0 0) 0 0 1) := ⟨by rw [up_s, if_pos rfl]; rfl, fun q => absurd rfl q, Sim_1 h⟩
theorem w32_2 (a : Int) : w32 (w32 a) = w32 a := by unfold w32; omega
theorem w64_2 (a : Int) : w64 (w64 a) = w64 a := by unfold w64; omega
section ST
variable {B : Int} {C M : tp_M} {a1 a2 a3 a4 : Int}
theorem st_way (h1 : pu_in a1) (h2 : pu_in a2) (h : Sim B C M) : wp2 (fx_X10_way a1 a2 C) (fx_X11_way a1 a2 M) (AnsT w32 B) := by
  have hN : nC C (M 0 3) (M 2) (M 3) := h.2.2.1
  have n8 := cn_n hN
  have e1 := h1
  have e2 := h2
  unfold pu_in at e1 e2
  unfold fx_X10_way fx_X11_way
  refine wp2_lm2 ?_
  rw [cn_hasWay hN h1 h2, pm_isOut (M := tp_up M 0 0 0) (n := M 0 3) rfl (by omega) h1]
  unfold fx_X11_refuse
  by_cases c1 : 1 ≤ a1 ∧ a1 < M 0 3
  · have d4 := cn_D hN c1
    by_cases c2 : 0 ≤ a2 ∧ a2 < M 2 a1
    · simp (disch := omega) only [↓tp_lm_n, ↓tp_lt_n, ↓tp_bd_n, ↓tp_jn0_n, ↓tp_jn1_n, ↓tp_jn2_n, ↓tp_jn3_n, w32_id, if_pos, if_neg, if_true, if_false, tp_ck_t, tp_nz_t, tp_gd_i, fl01, cn_goal hN c1 c2, up_k, pm_in (a := a2) (b := 0) (c := M 2 a1 - 1) h2 (by unfold pu_in; omega) (by unfold pu_in; omega), pm_goalOf (M := tp_up M 0 0 0) (a := a1) (k := a2) (by omega)]
      exact wp2_some ⟨by rw [up_s, if_neg th_ne]; rfl, fun _ => w32_2 _, Sim_0 h⟩
    · simp (disch := omega) only [↓tp_lm_n, ↓tp_lt_n, ↓tp_bd_n, ↓tp_jn0_n, ↓tp_jn1_n, ↓tp_jn2_n, ↓tp_jn3_n, w32_id, if_pos, if_neg, if_true, if_false, tp_ck_t, tp_nz_t, tp_gd_i, fl01, up_k, pm_in (a := a2) (b := 0) (c := M 2 a1 - 1) h2 (by unfold pu_in; omega) (by unfold pu_in; omega)]
      exact wp2_some (ansT_th h)
  · simp (disch := omega) only [↓tp_lm_n, ↓tp_lt_n, ↓tp_bd_n, ↓tp_jn0_n, ↓tp_jn1_n, ↓tp_jn2_n, ↓tp_jn3_n, w32_id, if_pos, if_neg, if_true, if_false, tp_ck_t, tp_nz_t, tp_gd_i, fl01]
    exact wp2_some (ansT_th h)
theorem st_row (h1 : pu_in a1) (h : Sim B C M) : wp2 (fx_X10_row a1 C) (fx_X11_row a1 M) (AnsT w64 B) := by
  obtain ⟨t1, t2, t3⟩ := h.2.1
  have e1 := h1
  unfold pu_in at e1
  unfold fx_X10_row fx_X11_row fx_X8_size fx_X8_at
  refine wp2_lm2 ?_
  rw [up_j _ _ _ (show ¬ (1 : Int) = 0 by decide)]
  by_cases c1 : 0 ≤ a1 ∧ a1 < M 0 1
  · simp (disch := omega) only [↓tp_lm_n, ↓tp_lt_n, ↓tp_bd_n, ↓tp_jn0_n, ↓tp_jn1_n, ↓tp_jn2_n, ↓tp_jn3_n, w32_id, if_pos, if_neg, if_true, if_false, tp_ck_t, tp_nz_t, tp_gd_i, fl01, t1, up_k, pm_in (a := a1) (b := 0) (c := M 0 1 - 1) h1 (by unfold pu_in; omega) (by unfold pu_in; omega)]
    exact wp2_some ⟨by rw [up_s, if_neg th_ne64]; rfl, fun _ => by rw [w64_2]; exact t3 a1 c1.1 c1.2, Sim_0 h⟩
  · by_cases c2 : a1 < 0
    · simp (disch := omega) only [↓tp_lm_n, ↓tp_lt_n, ↓tp_bd_n, ↓tp_jn0_n, ↓tp_jn1_n, ↓tp_jn2_n, ↓tp_jn3_n, w32_id, if_pos, if_neg, if_true, if_false, tp_ck_t, tp_nz_t, tp_gd_i, fl01, pm_in (a := a1) (b := 0) (c := M 0 1 - 1) h1 (by unfold pu_in; omega) (by unfold pu_in; omega)]
      exact wp2_some (ansT_th h)
    · simp (disch := omega) only [↓tp_lm_n, ↓tp_lt_n, ↓tp_bd_n, ↓tp_jn0_n, ↓tp_jn1_n, ↓tp_jn2_n, ↓tp_jn3_n, w32_id, if_pos, if_neg, if_true, if_false, tp_ck_t, tp_nz_t, tp_gd_i, fl01, t1, pm_in (a := a1) (b := 0) (c := M 0 1 - 1) h1 (by unfold pu_in; omega) (by unfold pu_in; omega)]
      exact wp2_some (ansT_th h)
theorem st_ready (hB : 1000 ≤ B ∧ B ≤ 600000) (h : Sim B C M) : wp2 (fx_X10_ready C) (fx_X11_ready M) (Ans B) := by
  have hN : nC C (M 0 3) (M 2) (M 3) := h.2.2.1
  have hR := h.2.2.2.1
  have n8 := cn_n hN
  have hrow := hR.2.2.2.2.1
  have hwk := sm_walkers n8 hR
  unfold fx_X10_ready fx_X11_ready
  refine wp2_lm2 ?_
  refine wp2_lt1 ?_
  refine wp2_lt1 ?_
  refine wp2_lt2 ?_
  refine wp2_lt2 ?_
  obtain ⟨x, x1, x2, x3⟩ := lp2_bits (b := fx_X10_ready_L4) (M := C) (fun z => M 2 z ≤ C 27 z) 1 (M 0 3) (by omega) (fun K rec a z ha z1 z2 => by
    have hc := hrow z z1 z2
    have hcb := cs_canBurst (k1 := 25) (Or.inl rfl) hN ⟨z1, z2⟩ (by rw [hc.2.2.1]; omega)
    unfold fx_X10_ready_L4
    rw [show (25 + 2) = 27 from rfl] at hcb
    constructor
    · intro q
      simp (disch := omega) only [↓tp_lm_n, ↓tp_lt_n, ↓tp_bd_n, ↓tp_jn0_n, ↓tp_jn1_n, ↓tp_jn2_n, ↓tp_jn3_n, w32_id, if_pos, if_neg, if_true, if_false, tp_ck_t, tp_nz_t, tp_gd_i, cn_crossings hN, hcb]
    · intro q
      simp (disch := omega) only [↓tp_lm_n, ↓tp_lt_n, ↓tp_bd_n, ↓tp_jn0_n, ↓tp_jn1_n, ↓tp_jn2_n, ↓tp_jn3_n, w32_id, if_pos, if_neg, if_true, if_false, tp_ck_t, tp_nz_t, tp_gd_i, cn_crossings hN, hcb]) (fun K rec a => by
    unfold fx_X10_ready_L4
    simp (disch := omega) only [↓tp_lm_n, ↓tp_lt_n, ↓tp_bd_n, ↓tp_jn0_n, ↓tp_jn1_n, ↓tp_jn2_n, ↓tp_jn3_n, w32_id, if_pos, if_neg, if_true, if_false, tp_ck_t, tp_nz_t, tp_gd_i, cn_crossings hN])
  obtain ⟨y, y1, y2, y3⟩ := lp2_bits (b := fx_X11_ready_L9) (M := tp_up M 0 0 0) (fun z => M 2 z ≤ M 4 (8 + z)) 1 (M 0 3) (by omega) (fun K rec a z ha z1 z2 => by
    have hc := hrow z z1 z2
    have d4 := cn_D hN ⟨z1, z2⟩
    have e3 : tp_up M 0 0 0 0 3 = M 0 3 := rfl
    unfold fx_X11_ready_L9
    constructor
    · intro q
      simp (disch := omega) only [↓tp_lm_n, ↓tp_lt_n, ↓tp_bd_n, ↓tp_jn0_n, ↓tp_jn1_n, ↓tp_jn2_n, ↓tp_jn3_n, w32_id, if_pos, if_neg, if_true, if_false, tp_ck_t, tp_nz_t, tp_gd_i, e3, up_k]
    · intro q
      simp (disch := omega) only [↓tp_lm_n, ↓tp_lt_n, ↓tp_bd_n, ↓tp_jn0_n, ↓tp_jn1_n, ↓tp_jn2_n, ↓tp_jn3_n, w32_id, if_pos, if_neg, if_true, if_false, tp_ck_t, tp_nz_t, tp_gd_i, e3, up_k, x_or_0 ha]) (fun K rec a => by
    have e3 : tp_up M 0 0 0 0 3 = M 0 3 := rfl
    unfold fx_X11_ready_L9
    simp (disch := omega) only [↓tp_lm_n, ↓tp_lt_n, ↓tp_bd_n, ↓tp_jn0_n, ↓tp_jn1_n, ↓tp_jn2_n, ↓tp_jn3_n, w32_id, if_pos, if_neg, if_true, if_false, tp_ck_t, tp_nz_t, tp_gd_i, e3])
  have hxy : x = y := bits_u x1 y1 x2 y2 (fun z z1 z2 => by
    show M 2 z ≤ C 27 z ↔ M 2 z ≤ M 4 (8 + z)
    rw [(hrow z z1 z2).2.2.1])
  rw [x3, y3]
  subst hxy
  have e3 : ∀ c : Nat, c = 0 → tp_up (tp_up (tp_up M 0 0 0) 0 1 0) 1 0 (w32 (bc x)) c = tp_up (tp_up M 0 0 0) 0 1 0 0 := fun c hc => by rw [hc, up_k _ _ _ (by decide)]
  have bcx := bc_in x1
  have hpw : ∀ MM : tp_M, MM 0 3 = M 0 3 → MM 4 = M 4 → fx_X11_walkers 4 17 MM = some (sumI (fun v => M 4 (8 + v)) 1 (M 0 3 - 1).toNat, MM) := fun MM q1 q2 => by rw [ps_walkers (by rw [q1]; exact n8), q1, q2]
  refine wp2_lm2 ?_
  rw [pj_bits, tp_bd_s, cs_walkers, tp_bd_s, pc_tell2, tp_bd_s, pj_bits, tp_bd_s, (pm_enter2 (b := 0) (up_s _ _ _ _)).1, tp_bd_s, hpw (tp_up (tp_up (tp_up (tp_up M 0 0 0) 0 1 0) 1 0 (w32 (bc x))) 0 1 (0 + 1)) rfl (by simp (disch := omega) only [up_k]), tp_bd_s, (pm_enter2 (a := w32 (bc x)) (b := w32 (sumI (fun v => M 4 (8 + v)) 1 (M 0 3 - 1).toNat)) (up_s _ _ _ _)).2, tp_bd_s]
  refine wp2_some (ans_told h (by (repeat (first | exact fr_rf | assumption | refine fr_up ?_ (by simp) | refine fr_cp ?_ (by simp) | exact fr_mono (by assumption) (by simp)))) (by (repeat (first | exact fr_rf | assumption | refine fr_up ?_ (by simp) | refine fr_cp ?_ (by simp) | exact fr_mono (by assumption) (by simp)))) ?_ rfl ⟨by decide, by decide⟩ (td_2C _ _ _) (td_2M _ _ _) (fun j j1 j2 => ?_))
  · exact scF_up (scF_k (scF_up (scF_k (scF_up (scF_up (scF_rf M) (by decide)) (by decide)) (by decide)) (by decide)) (by decide)) (by decide)
  · rw [← hwk.1]
theorem cs_peopled {t : Nat} {C : tp_M} (hc : ∀ z : Int, 1 ≤ z → z < 8 → 0 ≤ C (t + 2) z ∧ C (t + 2) z < 2147483648) : ∃ x : Int, (0 ≤ x ∧ x < 256) ∧ (∀ j : Nat, j < 8 → (bt x j ↔ (1 ≤ (j : Int) ∧ (j : Int) < 8) ∧ 0 < C (t + 2) (j : Int))) ∧ fx_X2_peopled t C = some (x, C) := by
  obtain ⟨x, x1, x2, x3⟩ := lp2_bits (b := fun K rec a z M => if w32 z < 8 then fx_X2_peopled_L4 t rec a z M else K a M) (M := C) (fun z => 0 < C (t + 2) z) 1 8 (by omega) (fun K rec a z ha z1 z2 => by
    have := hc z z1 z2
    unfold fx_X2_peopled_L4
    constructor
    · intro q
      simp (disch := omega) only [↓tp_lm_n, ↓tp_lt_n, ↓tp_bd_n, ↓tp_jn0_n, ↓tp_jn1_n, ↓tp_jn2_n, ↓tp_jn3_n, w32_id, if_pos, if_neg, if_true, if_false, tp_ck_t, tp_nz_t, tp_gd_i]
    · intro q
      simp (disch := omega) only [↓tp_lm_n, ↓tp_lt_n, ↓tp_bd_n, ↓tp_jn0_n, ↓tp_jn1_n, ↓tp_jn2_n, ↓tp_jn3_n, w32_id, if_pos, if_neg, if_true, if_false, tp_ck_t, tp_nz_t, tp_gd_i]) (fun K rec a => by simp (disch := omega) only [↓tp_lm_n, ↓tp_lt_n, ↓tp_bd_n, ↓tp_jn0_n, ↓tp_jn1_n, ↓tp_jn2_n, ↓tp_jn3_n, w32_id, if_pos, if_neg, if_true, if_false, tp_ck_t, tp_nz_t, tp_gd_i])
  refine ⟨x, x1, x2, ?_⟩
  have := x3 (fun a M => some (a, M))
  unfold fx_X2_peopled
  rw [tp_lt_s, tp_lt_s, ← this]
  congr 1
  funext rec a z M
  unfold fx_X2_peopled_L4
  split <;> rfl
theorem st_count (hB : 1000 ≤ B ∧ B ≤ 600000) (h1 : pu_in a1) (h : Sim B C M) : wp2 (fx_X10_count a1 C) (fx_X11_count a1 M) (Ans B) := by
  have hN : nC C (M 0 3) (M 2) (M 3) := h.2.2.1
  have hR := h.2.2.2.1
  have n8 := cn_n hN
  have hrow := hR.2.2.2.2.1
  have hout := hR.2.2.2.2.2
  have hwk := sm_walkers n8 hR
  have e1 := h1
  unfold pu_in at e1
  have e3 : tp_up M 0 0 0 0 3 = M 0 3 := rfl
  obtain ⟨y1, y3⟩ := lp3_for (b := fx_X11_count_L12 a1) (f := fun z a => a + M 2 z) (g := fun z a => if M 4 (8 + z) ≤ 0 then a else x_or a (x_shl 1 z)) (M := tp_up M 0 0 0) (fun z _ a => (0 ≤ a ∧ a < 256) ∧ ∀ j : Nat, j < 8 → (bt a j ↔ (1 ≤ (j : Int) ∧ (j : Int) < z) ∧ 0 < M 4 (8 + (j : Int)))) (M 0 3 - 1).toNat 1 0 0 tp_F ⟨by omega, fun j hj => ⟨fun q => absurd q (bt_0 j), fun q => by omega⟩⟩ (fun K rec a c z hP z1 z2 => by
    obtain ⟨p1, p2⟩ := hP
    have hc := hrow z z1 (by omega)
    have d4 := cn_D hN (a := z) ⟨z1, by omega⟩
    unfold fx_X11_count_L12
    by_cases q : M 4 (8 + z) ≤ 0
    · refine ⟨?_, ?_⟩
      · simp (disch := omega) only [↓tp_lm_n, ↓tp_lt_n, ↓tp_bd_n, ↓tp_jn0_n, ↓tp_jn1_n, ↓tp_jn2_n, ↓tp_jn3_n, w32_id, if_pos, if_neg, if_true, if_false, tp_ck_t, tp_nz_t, tp_gd_i, e3, up_k, x_or_0 p1]
      · simp only [if_pos q]
        refine ⟨p1, fun j hj => ?_⟩
        rw [p2 j hj]
        constructor
        · rintro ⟨q1, q2⟩
          exact ⟨by omega, q2⟩
        · rintro ⟨q1, q2⟩
          by_cases e : (j : Int) = z
          · rw [e] at q2; omega
          · exact ⟨by omega, q2⟩
    · refine ⟨?_, ?_⟩
      · simp (disch := omega) only [↓tp_lm_n, ↓tp_lt_n, ↓tp_bd_n, ↓tp_jn0_n, ↓tp_jn1_n, ↓tp_jn2_n, ↓tp_jn3_n, w32_id, if_pos, if_neg, if_true, if_false, tp_ck_t, tp_nz_t, tp_gd_i, e3, up_k]
      · simp only [if_neg q]
        have hbt := bt_or p1 (v := z) (by omega)
        refine ⟨hbt.1, fun j hj => ?_⟩
        rw [hbt.2 j, p2 j hj]
        constructor
        · rintro (⟨q1, q2⟩ | e)
          · exact ⟨by omega, q2⟩
          · exact ⟨by omega, by rw [e]; omega⟩
        · rintro ⟨q1, q2⟩
          by_cases e : (j : Int) = z
          · exact Or.inr e
          · exact Or.inl ⟨by omega, q2⟩) (fun K rec a c hP => by
    unfold fx_X11_count_L12
    simp (disch := omega) only [↓tp_lm_n, ↓tp_lt_n, ↓tp_bd_n, ↓tp_jn0_n, ↓tp_jn1_n, ↓tp_jn2_n, ↓tp_jn3_n, w32_id, if_pos, if_neg, if_true, if_false, tp_ck_t, tp_nz_t, tp_gd_i, e3]) (tp_F_pos (by omega))
  rw [show 1 + ((M 0 3 - 1).toNat : Int) = M 0 3 by omega] at y1
  rw [fZ_sum (g := M 2) _ _ _ (fun _ _ _ _ => rfl), Int.zero_add] at y3
  generalize hy : fZ (fun z a => if M 4 (8 + z) ≤ 0 then a else x_or a (x_shl 1 z)) (M 0 3 - 1).toNat 1 0 = y at y1 y3
  obtain ⟨x, x1, x2, x3⟩ := cs_peopled (t := 25) (C := C) (fun z z1 z2 => by
    show 0 ≤ C 27 z ∧ C 27 z < 2147483648
    by_cases hz : z < M 0 3
    · have := hrow z z1 hz; omega
    · have := hout z (by omega) z2 (by omega); omega)
  have hxy : x = y := bt_ext x1 y1.1 (fun j hj => by
    rw [x2 j hj, y1.2 j hj]
    show (1 ≤ (j : Int) ∧ (j : Int) < 8) ∧ 0 < C 27 (j : Int) ↔ _
    constructor
    · rintro ⟨q1, q2⟩
      by_cases hz : (j : Int) < M 0 3
      · rw [(hrow j q1.1 hz).2.2.1] at q2
        exact ⟨⟨q1.1, hz⟩, q2⟩
      · have := hout (j : Int) (by omega) (by omega) (by omega); omega
    · rintro ⟨q1, q2⟩
      rw [(hrow j q1.1 q1.2).2.2.1]
      exact ⟨by omega, q2⟩)
  have hpw := ps_walkers (kr := 4) (M := tp_up M 0 0 0) n8
  unfold fx_X10_count fx_X11_count
  refine wp2_lm2 ?_
  refine wp2_lt2 ?_
  refine wp2_lt2 ?_
  refine wp2_lt2 ?_
  rw [y3]
  rw [w32_id (show -2147483648 ≤ a1 ∧ a1 < 2147483648 from e1)]
  have fin : ∀ r1 r2 : Int, w32 r1 = w32 r2 → wp2 (some (r1, C)) (some (r2, tp_up M 0 0 0)) (Ans B) := fun r1 r2 hr => wp2_some ⟨hr, Sim_0 h⟩
  by_cases c0 : a1 = 0
  · rw [if_pos c0, if_pos c0, cn_crossings hN, tp_bd_s]
    exact fin _ _ rfl
  rw [if_neg c0, if_neg c0]
  by_cases c1 : a1 = 1
  · rw [if_pos c1, if_pos c1]
    unfold fx_X4_waysInAll
    rw [tp_bd_s, hN.2.2.1]
    exact fin _ _ rfl
  rw [if_neg c1, if_neg c1]
  by_cases c2 : a1 = 2
  · rw [if_pos c2, if_pos c2]
    exact fin _ _ (by rw [hR.1]; rfl)
  rw [if_neg c2, if_neg c2]
  by_cases c3 : a1 = 3
  · rw [if_pos c3, if_pos c3]
    exact fin _ _ (by rw [hR.2.2.1]; rfl)
  rw [if_neg c3, if_neg c3]
  by_cases c4 : a1 = 4
  · rw [if_pos c4, if_pos c4, cs_walkers, tp_bd_s, hpw, tp_bd_s]
    exact fin _ _ (by rw [show C (25 + 2) = C 27 from rfl, hwk.1]; rfl)
  rw [if_neg c4, if_neg c4]
  by_cases c5 : a1 = 5
  · rw [if_pos c5, if_pos c5, x3, tp_bd_s]
    exact fin _ _ (by rw [hxy])
  rw [if_neg c5, if_neg c5]
  by_cases c6 : a1 = 6
  · rw [if_pos c6, if_pos c6]
    exact fin _ _ (by rw [h.2.2.2.2.2.2.2.1.1]; rfl)
  rw [if_neg c6, if_neg c6]
  by_cases c7 : a1 = 7
  · rw [if_pos c7, if_pos c7]
    exact fin _ _ (by rw [h.2.2.2.2.2.2.2.2.1.1]; rfl)
  rw [if_neg c7, if_neg c7]
  by_cases c8 : a1 = 8
  · rw [if_pos c8, if_pos c8]
    exact fin _ _ (by rw [h.2.2.2.2.2.1.1]; rfl)
  rw [if_neg c8, if_neg c8]
  by_cases c9 : a1 = 9
  · rw [if_pos c9, if_pos c9]
    exact fin _ _ (by rw [h.2.1.1]; rfl)
  rw [if_neg c9, if_neg c9]
  by_cases c10 : a1 = 10
  · rw [if_pos c10, if_pos c10]
    exact fin _ _ (by rw [h.1.1]; rfl)
  rw [if_neg c10, if_neg c10]
  exact fin _ _ rfl
end ST
