/-! JOINS, RECURS, TRIGGER: the steps -/
section ST
variable {B : Int} {C M : tp_M} {a1 a2 a3 : Int}
theorem st_joins (h1 : pu_in a1) (hB : 1000 ≤ B ∧ B ≤ 600000) (h : Sim B C M) : wp2 (fx_X10_joins a1 C) (fx_X11_joins a1 M) (Ans B) := by
  have hN : nC C (M 0 3) (M 2) (M 3) := h.2.2.1
  have n8 := cn_n hN
  have hW := h.2.2.2.1
  obtain ⟨k1, k2⟩ := h.2.2.2.2.2.2.1
  have e1 := h1
  unfold pu_in at e1
  unfold fx_X10_joins fx_X11_joins
  refine wp2_lm2 ?_
  by_cases c1 : 0 ≤ a1 ∧ a1 ≤ 2
  · obtain ⟨i, hi⟩ := Int.eq_ofNat_of_zero_le c1.1
    obtain ⟨q1, q2, q3⟩ := k2 i (by omega)
    rw [← hi] at q1 q2 q3
    obtain ⟨r1, C1, f1, p1, p2⟩ := pc_bring (k := 28) (C := C) (a1 := a1) (by omega) c1 hi k1
    have e32 : tp_up M 0 0 0 32 a1 = M 32 a1 := by rw [up_k _ _ _ (by decide)]
    have hnum : fx_X3_isNumber a1 C = some (1, C) := by
      unfold fx_X3_isNumber
      simp (disch := omega) only [↓tp_lm_n, ↓tp_lt_n, ↓tp_bd_n, ↓tp_jn0_n, ↓tp_jn1_n, ↓tp_jn2_n, ↓tp_jn3_n, w32_id, if_pos, if_neg, if_true, if_false, tp_ck_t, tp_nz_t, tp_gd_i]
    rw [hnum, tp_bd_s, show w32 1 = 1 from rfl, w32_id e1, pm_in (M := tp_up M 0 0 0) (a := a1) (b := 0) (c := 2) h1 (by unfold pu_in; omega) (by unfold pu_in; omega), tp_bd_s, if_pos c1, show w32 1 = 1 from rfl]
    refine wp2_f1 (by decide) ?_
    refine wp2_f2 (by decide) ?_
    rw [f1, tp_bd_s]
    refine wp2_ck2 (by omega) ?_
    rw [e32]
    by_cases hb : M 32 a1 = 1
    · obtain ⟨rfl, s1, s2, s3, s4⟩ := p1 (q2.mpr hb)
      have hkr := q3 hb
      rw [hb, show w32 1 = 1 from rfl]
      refine wp2_f1 (by decide) ?_
      refine wp2_f2 (by decide) ?_
      have fC1 : tp_fr sn_C C C1 := fr_mono s1 (by simp)
      refine wp2_c1 (cs_load (k := 27) (by decide) C1) (fun _ C2 t => ?_)
      obtain ⟨t1, t2⟩ := t
      refine wp2_c1 (cs_pour (k := 30) (by decide) C2) (fun _ C3 u => ?_)
      obtain ⟨u1, u2⟩ := u
      have fC3 : tp_fr sn_C C C3 := fr_tr fC1 (fr_tr (fr_mono t1 (by simp)) (fr_mono u1 (by simp)))
      have h37 : ∀ u : Int, 0 ≤ u → u < 8 → C3 37 u = C 27 u + C 35 (18 * (15 + a1) + 8 + u) := fun v v1 v2 => by
        rw [u2 v v1 v2, t2 v v1 v2, t1 30 (by simp), fC1 27 (by simp)]
        have : C1 30 v = C 35 (18 * (15 + a1) + 8 + v) := (s2 v v1 v2).2
        rw [this]
      refine wp2_c2 (pm_copies (k1 := 5) (k2 := 4) (tp_up M 0 0 0) (by decide)) (fun _ M1 m => ?_)
      obtain ⟨m1, m2⟩ := m
      refine wp2_lt2 ?_
      have hkv : ∀ v : Int, 1 ≤ v → v < M 0 3 → C 35 (18 * (15 + a1) + 8 + v) = M 33 (17 * a1 + (8 + v)) ∧ 0 ≤ M 33 (17 * a1 + (8 + v)) ∧ M 33 (17 * a1 + (8 + v)) ≤ B := fun v v1 v2 => (hkr.2.2.2.2.1 v v1 v2).2.2
      refine wp2_R1 (fun z M2 => (1 ≤ z ∧ z ≤ M 0 3) ∧ tp_fr [5] (tp_up M 0 0 0) M2 ∧ M2 5 8 = M 4 8 ∧ ∀ v : Int, 1 ≤ v → v < M 0 3 → M2 5 (8 + v) = if v < z then M 4 (8 + v) + M 33 (17 * a1 + (8 + v)) else M 4 (8 + v)) (fun z _ => (8 - z).toNat) ?_ tp_F 1 M1 ⟨by omega, m1, by rw [m2 8, if_pos (by omega)]; rfl, fun v v1 v2 => by rw [if_neg (by omega), m2 (8 + v), if_pos (by omega)]; rfl⟩ (tp_F_pos (by omega))
      intro rec z M2 hI hrec
      obtain ⟨i1, i2, i3, i4⟩ := hI
      have k0 : M2 0 3 = M 0 3 := by rw [i2 0 (by simp)]; rfl
      have k33 : M2 33 = M 33 := by rw [i2 33 (by simp), up_k _ _ _ (by decide)]
      unfold fx_X11_joins_L44
      rw [k0, w32_id (show -2147483648 ≤ z ∧ z < 2147483648 by omega), w32_id (show -2147483648 ≤ M 0 3 ∧ M 0 3 < 2147483648 by omega)]
      by_cases hz : z < M 0 3
      · rw [if_pos hz, w32_id (show -2147483648 ≤ 8 + z ∧ 8 + z < 2147483648 by omega), w32_id (show -2147483648 ≤ 17 * a1 + 8 + z ∧ 17 * a1 + 8 + z < 2147483648 by omega)]
        refine wp2_ck2 (by omega) ?_
        refine wp2_ck2 (by omega) ?_
        refine wp2_ck2 (by omega) ?_
        refine wp2_lm2 ?_
        refine wp2_lt2 ?_
        refine hrec _ _ ⟨by omega, fr_up i2 (by simp), by rw [up_j _ _ _ (by omega)]; exact i3, fun v v1 v2 => ?_⟩ (by omega)
        rw [up_c]
        by_cases hv : v = z
        · rw [if_pos (by omega), if_pos (by omega), i4 z i1.1 hz, if_neg (by omega), hv, k33, show 17 * a1 + 8 + z = 17 * a1 + (8 + z) by omega]
        · rw [if_neg (by omega), i4 v v1 v2]
          by_cases hv2 : v < z
          · rw [if_pos hv2, if_pos (by omega)]
          · rw [if_neg hv2, if_neg (by omega)]
      · rw [if_neg hz]
        clear hrec
        have k2' : M2 2 = M 2 := by rw [i2 2 (by simp), up_k _ _ _ (by decide)]
        have k3' : M2 3 = M 3 := by rw [i2 3 (by simp), up_k _ _ _ (by decide)]
        have gM2 : tp_fr sn_M (tp_up M 0 0 0) M2 := fr_mono i2 (by simp)
        refine wp2_call (w2_calm5 (C := C3) (M := M2) (h := fun v => M 4 (8 + v) + M 33 (17 * a1 + (8 + v))) (S := 7 * (2 * B)) (by rw [k0, k2', k3']; exact nC_fr hN (fC3 5 (by simp)) (fC3 6 (by simp)) (fC3 7 (by simp)) (fC3 8 (by simp)) (fC3 9 (by simp))) (fun v v1 v2 => by
          rw [k0] at v2
          obtain ⟨a1', a2', a3'⟩ := hkv v v1 v2
          obtain ⟨-, -, b3, b4⟩ := hW.2.2.2.2.1 v v1 v2
          rw [h37 v (by omega) (by omega), b3, a1', i4 v v1 v2, if_pos (by omega)]
          exact ⟨rfl, rfl, by omega⟩) (by rw [k0]; exact sum_le n8 (by omega) (fun v v1 v2 => by
          obtain ⟨a1', a2', a3'⟩ := hkv v v1 v2
          obtain ⟨-, -, b3, b4⟩ := hW.2.2.2.2.1 v v1 v2
          omega)) (by omega) (by rw [i3]; exact hW.2.1)) (fun r5 C4 r6 M3 q => ?_)
        obtain ⟨rfl, w1, w2, w3, w4⟩ := q
        rw [k0, k2'] at w4
        have fC4 : tp_fr sn_C C C4 := fr_tr fC3 (fr_mono w1 (by simp))
        have gM3 : tp_fr sn_M (tp_up M 0 0 0) M3 := fr_tr gM2 (fr_mono w2 (by simp))
        refine wp2_lt1 ?_
        refine wp2_lt2 ?_
        rcases w4 with rfl | ⟨w4, w5, w6⟩
        · rw [show w32 (-3) = -3 from rfl]
          refine wp2_t1 (by decide) ?_
          refine wp2_t2 (by decide) ?_
          exact wp2_some (ans_sn h rfl fC4 gM3)
        · have hN4 : nC C4 (M 0 3) (M 2) (M 3) := nC_fr hN (fC4 5 (by simp)) (fC4 6 (by simp)) (fC4 7 (by simp)) (fC4 8 (by simp)) (fC4 9 (by simp))
          have k03 : M3 0 3 = M 0 3 := by rw [gM3 0 (by simp)]; rfl
          rw [w32_id (show -2147483648 ≤ r5 ∧ r5 < 2147483648 by omega)]
          refine wp2_f1 (by omega) ?_
          refine wp2_f2 (by omega) ?_
          rw [cn_crossings hN4, tp_bd_s]
          refine wp2_c1 (pc_tellRow (k := 37) (n := M 0 3) ⟨by decide, by decide⟩ (by omega)) (fun _ C5 x => ?_)
          obtain ⟨x1, x2⟩ := x
          refine wp2_c2 (ps_entersCrowds (M := M3) (by omega)) (fun _ M4 y => ?_)
          obtain ⟨y1, y2, y3⟩ := y
          rw [k03] at y3
          exact wp2_some (ans_snrow h rfl n8 fC4 gM3 x1 x2 y1 y2 y3 (fun j j1 j2 => by
            show w64 (w32 (C4 37 (j + 1))) = w64 (w32 (M3 5 (8 + (j + 1))))
            rw [(w5 (j + 1) (by omega) (by omega)).1]))
    · obtain ⟨rfl, rfl⟩ := p2 (fun q => hb (q2.mp q))
      have hb0 : M 32 a1 = 0 := by omega
      rw [hb0, show w32 0 = 0 from rfl]
      refine wp2_t1 rfl ?_
      refine wp2_t2 rfl ?_
      exact wp2_some (ans_no h)
  · unfold fx_X3_isNumber
    by_cases c2 : a1 < 0
    · simp (disch := omega) only [↓tp_lm_n, ↓tp_lt_n, ↓tp_bd_n, ↓tp_jn0_n, ↓tp_jn1_n, ↓tp_jn2_n, ↓tp_jn3_n, w32_id, if_pos, if_neg, if_true, if_false, tp_ck_t, tp_nz_t, tp_gd_i, pm_in (a := a1) (b := 0) (c := 2) h1 (by unfold pu_in; omega) (by unfold pu_in; omega)]
      exact wp2_some (ans_no h)
    · simp (disch := omega) only [↓tp_lm_n, ↓tp_lt_n, ↓tp_bd_n, ↓tp_jn0_n, ↓tp_jn1_n, ↓tp_jn2_n, ↓tp_jn3_n, w32_id, if_pos, if_neg, if_true, if_false, tp_ck_t, tp_nz_t, tp_gd_i, pm_in (a := a1) (b := 0) (c := 2) h1 (by unfold pu_in; omega) (by unfold pu_in; omega)]
      exact wp2_some (ans_no h)
/-- a heap thought of that is calm, on both sides -/
def sh_ok (C0 M0 C M : tp_M) : Prop := tp_fr sn_C C0 C ∧ tp_fr sn_M M0 M ∧ (∀ v : Int, 1 ≤ v → v < M0 0 3 → C 37 v = M 5 (8 + v) ∧ 0 ≤ C 37 v ∧ C 37 v < M0 2 v) ∧ (∀ v : Int, M0 0 3 ≤ v → v < 8 → C 37 v = 0) ∧ 0 ≤ M 5 8 ∧ M 5 8 ≤ 9999
/-- one more comes to v, and all is calm again -/
theorem w2_one {C0 M0 C M : tp_M} {v : Int} (hN : nC C0 (M0 0 3) (M0 2) (M0 3)) (h : sh_ok C0 M0 C M) (hv : 1 ≤ v ∧ v < M0 0 3) : wp2 (fx_X5_calm (tp_up C 37 v (C 37 v + 1))) (fx_X11_calmed 5 17 (tp_up M 5 (8 + v) (M 5 (8 + v) + 1))) (fun r1 C1 r2 M1 => r1 = r2 ∧ tp_fr sn_C C0 C1 ∧ tp_fr sn_M M0 M1 ∧ (r2 = -3 ∨ ((0 ≤ r2 ∧ r2 ≤ 9999) ∧ sh_ok C0 M0 C1 M1))) := by
  obtain ⟨f, g, p, o, h8⟩ := h
  have n8 := cn_n hN
  have e0 : M 0 = M0 0 := g 0 (by simp)
  have e2 : M 2 = M0 2 := g 2 (by simp)
  have e3 : M 3 = M0 3 := g 3 (by simp)
  generalize hC1 : tp_up C 37 v (C 37 v + 1) = C1
  generalize hM1 : tp_up M 5 (8 + v) (M 5 (8 + v) + 1) = M1
  have fC1 : tp_fr sn_C C0 C1 := by rw [← hC1]; exact fr_up f (by simp)
  have gM1 : tp_fr sn_M M0 M1 := by rw [← hM1]; exact fr_up g (by simp)
  have k0 : M1 0 = M0 0 := gM1 0 (by simp)
  have k2 : M1 2 = M0 2 := gM1 2 (by simp)
  have k3 : M1 3 = M0 3 := gM1 3 (by simp)
  have hc : ∀ u : Int, C1 37 u = if u = v then C 37 v + 1 else C 37 u := fun u => by rw [← hC1, up_c]
  have hm : ∀ u : Int, M1 5 (8 + u) = if u = v then M 5 (8 + v) + 1 else M 5 (8 + u) := fun u => by
    rw [← hM1, up_c]
    by_cases hu : u = v
    · rw [if_pos (by omega), if_pos hu]
    · rw [if_neg (by omega), if_neg hu]
  have hm8 : M1 5 8 = M 5 8 := by rw [← hM1, up_j _ _ _ (by omega)]
  refine wp2_mono (w2_calm5 (C := C1) (M := M1) (h := fun u => M1 5 (8 + u)) (S := 7 * 8) (by rw [k0, k2, k3]; exact nC_fr hN (fC1 5 (by simp)) (fC1 6 (by simp)) (fC1 7 (by simp)) (fC1 8 (by simp)) (fC1 9 (by simp))) (fun u u1 u2 => by
    rw [k0] at u2
    obtain ⟨a1, a2, a3⟩ := p u u1 u2
    rw [hc u, hm u]
    by_cases hu : u = v
    · rw [if_pos hu, if_pos hu, ← hu]
      exact ⟨by omega, rfl, by omega⟩
    · rw [if_neg hu, if_neg hu]
      exact ⟨a1, rfl, by omega⟩) (by rw [k0]; exact sum_le n8 (by decide) (fun u u1 u2 => by
    obtain ⟨a1, a2, a3⟩ := p u u1 u2
    have d4 := cn_D hN (a := u) ⟨u1, u2⟩
    rw [hm u]
    by_cases hu : u = v
    · rw [if_pos hu, ← hu]; omega
    · rw [if_neg hu]; omega)) (by decide) (by rw [hm8]; exact h8)) (fun r1 C2 r2 M2 q => ?_)
  obtain ⟨q1, q2, q3, q4, q5⟩ := q
  rw [k0] at q4
  rw [k0, k2] at q5
  have fC2 : tp_fr sn_C C0 C2 := fr_tr fC1 (fr_mono q2 (by simp))
  have gM2 : tp_fr sn_M M0 M2 := fr_tr gM1 (fr_mono q3 (by simp))
  refine ⟨q1, fC2, gM2, q5.imp id (fun ⟨s1, s2, s3⟩ => ⟨s1, fC2, gM2, s2, fun u u1 u2 => ?_, s3⟩)⟩
  rw [q4 u (Or.inr u1), hc u, if_neg (by omega)]
  exact o u u1 u2
/-- the crowds are laid out to be thought of -/
theorem w2_lay (h : Sim B C M) (hst : ∀ v : Int, 1 ≤ v → v < M 0 3 → M 4 (8 + v) < M 2 v) {C1 M1 : tp_M} (fC : tp_fr sn_C C C1) (gM : tp_fr sn_M (tp_up M 0 0 0) M1) : wp2 (fx_X5_load 27 8 C1) (fx_X11_copies 5 17 4 17 M1) (fun _ C2 _ M2 => sh_ok C (tp_up M 0 0 0) C2 M2) := by
  have hN : nC C (M 0 3) (M 2) (M 3) := h.2.2.1
  have n8 := cn_n hN
  have hW := h.2.2.2.1
  refine wp2_of (cs_load (k := 27) (by decide) C1) (pm_copies (k1 := 5) (k2 := 4) M1 (by decide)) (fun _ C2 _ M2 p q => ?_)
  obtain ⟨p1, p2⟩ := p
  obtain ⟨q1, q2⟩ := q
  have e4 : M1 4 = M 4 := by rw [gM 4 (by simp), up_k _ _ _ (by decide)]
  have e27 : C1 27 = C 27 := fC 27 (by simp)
  refine ⟨fr_tr fC (fr_mono p1 (by simp)), fr_tr gM (fr_mono q1 (by simp)), fun v v1 v2 => ?_, fun v v1 v2 => ?_, ?_⟩
  · have v2' : v < M 0 3 := v2
    obtain ⟨-, -, b3, b4⟩ := hW.2.2.2.2.1 v v1 v2'
    have := hst v v1 v2'
    rw [p2 v (by omega) (by omega), e27, b3, q2 (8 + v), if_pos (by omega), e4]
    exact ⟨rfl, b4.1, this⟩
  · have v1' : M 0 3 ≤ v := v1
    rw [p2 v (by omega) v2, e27]
    exact (hW.2.2.2.2.2 v (by omega) v2 (Or.inr v1')).2
  · rw [q2 8, if_pos (by omega), e4]
    exact hW.2.1
theorem st_recurs (h1 : pu_in a1) (hB : 1000 ≤ B ∧ B ≤ 600000) (h : Sim B C M) : wp2 (fx_X10_recurs a1 C) (fx_X11_recurs a1 M) (Ans B) := by
  have hN : nC C (M 0 3) (M 2) (M 3) := h.2.2.1
  have n8 := cn_n hN
  have hW := h.2.2.2.1
  unfold fx_X10_recurs fx_X11_recurs
  refine wp2_lm2 ?_
  rw [cn_hasPost hN h1, pm_isOut (M := tp_up M 0 0 0) (n := M 0 3) rfl (by omega) h1, tp_bd_s, tp_bd_s]
  by_cases c1 : 1 ≤ a1 ∧ a1 < M 0 3
  · rw [if_pos c1, if_pos (show 1 ≤ a1 ∧ a1 ≤ M 0 3 - 1 by omega), show w32 1 = 1 from rfl]
    refine wp2_f1 (by decide) ?_
    refine wp2_f2 (by decide) ?_
    rcases w2_can (C := C) (M := tp_up M 0 0 0) (B := B) hN (by omega) hW with ⟨f1, f2⟩ | ⟨f1, f2, hst⟩
    · rw [f1, f2, tp_bd_s, tp_bd_s, show w32 1 = 1 from rfl]
      refine wp2_f1 (by decide) ?_
      refine wp2_f2 (by decide) ?_
      exact wp2_some (ans_no h)
    · rw [f1, f2, tp_bd_s, tp_bd_s, show w32 0 = 0 from rfl]
      refine wp2_t1 rfl ?_
      refine wp2_t2 rfl ?_
      refine wp2_call (w2_lay h hst (C1 := C) (M1 := tp_up M 0 0 0) fr_rf fr_rf) (fun _ C1 _ M1 p => ?_)
      refine wp2_lt1 ?_
      refine wp2_lt1 ?_
      refine wp2_lt2 ?_
      refine wp2_lt2 ?_
      refine wp2_lp22 (fun x2 x3 C2 y2 y3 M2 => x2 = y2 ∧ x3 = y3 ∧ (1 ≤ y3 ∧ y3 ≤ 501) ∧ (0 ≤ y2 ∧ y2 ≤ 9999 * y3) ∧ sh_ok C (tp_up M 0 0 0) C2 M2) (fun _ x3 _ _ _ _ => (501 - x3).toNat) ?_ tp_F tp_F 0 1 C1 0 1 M1 ⟨rfl, rfl, by omega, by omega, p⟩ (tp_F_pos (by omega)) (tp_F_pos (by omega))
      intro rec1 rec2 x2 x3 C2 y2 y3 M2 hI hrec
      obtain ⟨rfl, rfl, i1, i3, i4⟩ := hI
      unfold fx_X10_recurs_L41 fx_X11_recurs_L44
      rw [w32_id (show -2147483648 ≤ x3 ∧ x3 < 2147483648 by omega), w32_id (show -2147483648 ≤ a1 ∧ a1 < 2147483648 by omega), w32_id (show -2147483648 ≤ 8 + a1 ∧ 8 + a1 < 2147483648 by omega)]
      by_cases hx : x3 ≤ 500
      · rw [if_pos hx, if_pos hx]
        refine wp2_ck1 (by omega) ?_
        refine wp2_ck1 (by omega) ?_
        refine wp2_ck2 (by omega) ?_
        refine wp2_ck2 (by omega) ?_
        refine wp2_lm1 ?_
        refine wp2_lm2 ?_
        refine wp2_call (w2_one (M0 := tp_up M 0 0 0) hN i4 c1) (fun r1 C3 r2 M3 q => ?_)
        obtain ⟨rfl, q1, q2, q3⟩ := q
        refine wp2_lt1 ?_
        refine wp2_lt2 ?_
        rcases q3 with rfl | ⟨q3, q4⟩
        · rw [show w32 (-3) = -3 from rfl]
          refine wp2_t1 (by decide) ?_
          refine wp2_t2 (by decide) ?_
          exact wp2_some (ans_sn h rfl q1 q2)
        · rw [w32_id (show -2147483648 ≤ r1 ∧ r1 < 2147483648 by omega)]
          refine wp2_f1 (by omega) ?_
          refine wp2_f2 (by omega) ?_
          refine wp2_lt1 ?_
          refine wp2_lt2 ?_
          obtain ⟨s1, s2, s3, s4, s5⟩ := id q4
          rcases w2_holds (C := C3) (M := M3) (n := M 0 3) (B := B) (D := M 2) n8 (by rw [s2 0 (by simp)]; rfl) (by omega) (by rw [s1 26 (by simp), s1 27 (by simp), s1 25 (by simp), s2 4 (by simp), up_k _ _ _ (by decide)]; exact hW) (fun v v1 v2 => by
            obtain ⟨b1, b2, b3⟩ := s3 v v1 v2
            have b3' : C3 37 v < M 2 v := b3
            have d4 := cn_D hN (a := v) ⟨v1, v2⟩
            exact ⟨b1, b2, by omega⟩) s4 with ⟨w1, w2⟩ | ⟨w1, w2⟩
          · rw [w1, w2, tp_bd_s, tp_bd_s, show w32 1 = 1 from rfl]
            refine wp2_f1 (by decide) ?_
            refine wp2_f2 (by decide) ?_
            dsimp only
            rw [pc_tell1, tp_bd_s]
            refine wp2_lm2 ?_
            rw [pm_enters (t := 0) (up_s _ _ _ _) (by decide), tp_bd_s]
            exact wp2_some (ans_snone h q1 q2)
          · rw [w1, w2, tp_bd_s, tp_bd_s, show w32 0 = 0 from rfl]
            refine wp2_t1 rfl ?_
            refine wp2_t2 rfl ?_
            refine wp2_lt1 ?_
            refine wp2_lt2 ?_
            exact hrec _ _ _ _ _ _ ⟨rfl, rfl, by omega, by omega, q4⟩ (by omega)
      · rw [if_neg hx, if_neg hx]
        exact wp2_some (ans_sn h rfl i4.1 i4.2.1)
  · rw [if_neg c1, if_neg (show ¬ (1 ≤ a1 ∧ a1 ≤ M 0 3 - 1) by omega)]
    refine wp2_t1 (by decide) ?_
    refine wp2_t2 (by decide) ?_
    exact wp2_some (ans_no h)
theorem st_trigger (hB : 1000 ≤ B ∧ B ≤ 600000) (h : Sim B C M) : wp2 (fx_X10_trigger C) (fx_X11_trigger M) (Ans B) := by
  have hN : nC C (M 0 3) (M 2) (M 3) := h.2.2.1
  have n8 := cn_n hN
  have hW := h.2.2.2.1
  unfold fx_X10_trigger fx_X11_trigger
  refine wp2_lm2 ?_
  rcases w2_can (C := C) (M := tp_up M 0 0 0) (B := B) hN (by omega) hW with ⟨f1, f2⟩ | ⟨f1, f2, hst⟩
  · rw [f1, f2, tp_bd_s, tp_bd_s, show w32 1 = 1 from rfl]
    refine wp2_f1 (by decide) ?_
    refine wp2_f2 (by decide) ?_
    exact wp2_some (ans_no h)
  · rw [f1, f2, tp_bd_s, tp_bd_s, show w32 0 = 0 from rfl]
    refine wp2_t1 rfl ?_
    refine wp2_t2 rfl ?_
    refine wp2_lt1 ?_
    refine wp2_lt1 ?_
    refine wp2_lt1 ?_
    refine wp2_lt2 ?_
    refine wp2_lt2 ?_
    refine wp2_lt2 ?_
    refine wp2_lp33 (fun b m v C1 b' m' v' M1 => b = b' ∧ m = m' ∧ v = v' ∧ (1 ≤ v ∧ v ≤ M 0 3) ∧ (-1 ≤ m ∧ m ≤ 9999) ∧ tp_fr sn_C C C1 ∧ tp_fr sn_M (tp_up M 0 0 0) M1) (fun _ _ v _ _ _ _ _ => (8 - v).toNat) ?_ tp_F tp_F 0 (-1) 1 C 0 (-1) 1 _ ⟨rfl, rfl, rfl, by omega, by omega, fr_rf, fr_rf⟩ (tp_F_pos (by omega)) (tp_F_pos (by omega))
    intro rec1 rec2 b m v C1 b' m' v' M1 hI hrec
    obtain ⟨rfl, rfl, rfl, i1, i2, i3, i4⟩ := hI
    have e03 : M1 0 3 = M 0 3 := by rw [i4 0 (by simp)]; rfl
    have hN1 : nC C1 (M 0 3) (M 2) (M 3) := nC_fr hN (i3 5 (by simp)) (i3 6 (by simp)) (i3 7 (by simp)) (i3 8 (by simp)) (i3 9 (by simp))
    unfold fx_X10_trigger_L16 fx_X11_trigger_L25
    rw [cn_crossings hN1, tp_bd_s, e03, w32_id (show -2147483648 ≤ v ∧ v < 2147483648 by omega), w32_id (show -2147483648 ≤ M 0 3 ∧ M 0 3 < 2147483648 by omega)]
    by_cases hv : v < M 0 3
    · rw [if_pos hv, if_pos hv, w32_id (show -2147483648 ≤ 8 + v ∧ 8 + v < 2147483648 by omega)]
      refine wp2_call (w2_lay h hst i3 i4) (fun _ C2 _ M2 p => ?_)
      refine wp2_ck1 (by omega) ?_
      refine wp2_ck1 (by omega) ?_
      refine wp2_ck2 (by omega) ?_
      refine wp2_ck2 (by omega) ?_
      refine wp2_lm1 ?_
      refine wp2_lm2 ?_
      refine wp2_call (w2_one (M0 := tp_up M 0 0 0) hN p ⟨i1.1, hv⟩) (fun r1 C3 r2 M3 q => ?_)
      obtain ⟨rfl, q1, q2, q3⟩ := q
      refine wp2_lt1 ?_
      refine wp2_lt2 ?_
      rcases q3 with rfl | ⟨q3, q4⟩
      · rw [show w32 (-3) = -3 from rfl]
        refine wp2_t1 (by decide) ?_
        refine wp2_t2 (by decide) ?_
        exact wp2_some (ans_sn h rfl q1 q2)
      · rw [w32_id (show -2147483648 ≤ r1 ∧ r1 < 2147483648 by omega), w32_id (show -2147483648 ≤ m ∧ m < 2147483648 by omega)]
        refine wp2_f1 (by omega) ?_
        refine wp2_f2 (by omega) ?_
        refine wp2_jn21 ?_
        refine wp2_jn12 ?_
        by_cases hm : r1 ≤ m
        · refine wp2_t1 hm ?_
          refine wp2_t2 hm ?_
          refine wp2_lt1 ?_
          refine wp2_lt2 ?_
          refine wp2_lt2 ?_
          refine wp2_lt2 ?_
          refine hrec _ _ _ _ _ _ _ _ ⟨rfl, by omega, rfl, by omega, by omega, q1, q2⟩ (by omega)
        · refine wp2_f1 hm ?_
          refine wp2_f2 hm ?_
          refine wp2_lt1 ?_
          refine wp2_lt1 ?_
          refine wp2_lt1 ?_
          refine wp2_lt2 ?_
          refine wp2_lt2 ?_
          refine wp2_lt2 ?_
          refine hrec _ _ _ _ _ _ _ _ ⟨rfl, by omega, rfl, by omega, by omega, q1, q2⟩ (by omega)
    · rw [if_neg hv, if_neg hv]
      dsimp only
      rw [pc_tell1, tp_bd_s]
      refine wp2_lm2 ?_
      rw [pm_enters (t := 0) (up_s _ _ _ _) (by decide), tp_bd_s]
      exact wp2_some (ans_snone h i3 i4)
end ST
