/-! GATES, PARISH -/
theorem pm_flag (a : Int) (M : tp_M) : fx_X11_flag a M = some (if w32 a = 0 then 0 else 1, M) := by
  unfold fx_X11_flag
  split <;> rfl
theorem nt_M0 {B : Int} {C M M1 : tp_M} (h : Sim B C M) (e3 : M1 0 3 = M 0 3) (e2 : M1 2 = M 2) (e : M1 3 = M 3) : nt_net (M1 0 3) (M1 2) (M1 3) := by
  rw [e3, e2, e]; exact h.2.2.1.2.1
section ST
variable {B : Int} {C M : tp_M} {a1 a2 a3 : Int}
theorem st_gates (h1 : pu_in a1) (h : Sim B C M) : wp2 (fx_X10_gates a1 C) (fx_X11_gates a1 M) (Ans B) := by
  have hN : nC C (M 0 3) (M 2) (M 3) := h.2.2.1
  have n8 := cn_n hN
  unfold fx_X10_gates fx_X11_gates
  refine wp2_lm2 ?_
  rw [cn_hasPost hN h1, pm_isOut (M := tp_up M 0 0 0) (n := M 0 3) rfl (by omega) h1]
  by_cases c1 : 1 ≤ a1 ∧ a1 < M 0 3
  · rw [if_pos c1, if_pos (show 1 ≤ a1 ∧ a1 ≤ M 0 3 - 1 by omega), tp_bd_s, tp_bd_s, show w32 1 = 1 from rfl, if_neg (show ¬ (1 : Int) = 0 by decide), if_neg (show ¬ (1 : Int) = 0 by decide)]
    refine wp2_lt1 ?_
    refine wp2_lt1 ?_
    refine wp2_lt2 ?_
    refine wp2_lt2 ?_
    obtain ⟨x, x1, x2, x3⟩ := lp2_bits (b := fx_X10_gates_L17 a1) (M := C) (fun z => ¬ z = a1 ∧ ¬ rw_at (M 0 3) (M 2) (M 3) z a1 0) 1 (M 0 3) (by omega) (fun K rec a z ha z1 z2 => by
      obtain ⟨r, r1, r2, r3⟩ := cs_reach hN (a := a1) (w := z) (by omega) (by omega)
      have hm := x_and_mask r 1 (by decide)
      have ht : bt r 0 ↔ r % 2 = 1 := by
        unfold bt
        rw [Nat.testBit_zero]
        simp only [decide_eq_true_eq]
        omega
      have hm2 : x_and r 1 = r % 2 := hm
      have hr := r3 0 (by omega)
      unfold fx_X10_gates_L17
      rw [cn_crossings hN, tp_bd_s, w32_id (show -2147483648 ≤ z ∧ z < 2147483648 by omega), w32_id (show -2147483648 ≤ M 0 3 ∧ M 0 3 < 2147483648 by omega), if_pos z2, tp_jn1_s]; (try dsimp only); rw [w32_id (show -2147483648 ≤ a1 ∧ a1 < 2147483648 by omega)]
      try dsimp only
      by_cases e : z = a1
      · rw [if_pos e]
        exact ⟨fun q => absurd e q.1, fun _ => rfl⟩
      · rw [if_neg e, r1, tp_bd_s, hm2, w32_id (by omega)]
        by_cases e2 : r % 2 = 0
        · rw [if_pos e2]
          exact ⟨fun _ => rfl, fun q => absurd ⟨e, fun c => by have := ht.mp (hr.mpr c); omega⟩ q⟩
        · rw [if_neg e2]
          exact ⟨fun q => absurd (hr.mp (ht.mpr (by omega))) q.2, fun _ => rfl⟩) (fun K rec a => by
      unfold fx_X10_gates_L17
      rw [cn_crossings hN, tp_bd_s, if_neg (by omega)])
    obtain ⟨y, y1, y2, y3⟩ := lp2_bits (b := fx_X11_gates_L19 a1) (M := tp_up M 0 0 0) (fun z => ¬ z = a1 ∧ ¬ rw_at (M 0 3) (M 2) (M 3) z a1 0) 1 (M 0 3) (by omega) (fun K rec a z ha z1 z2 => by
      obtain ⟨r, r1, r2, r3⟩ := ps_comesFrom (M := tp_up M 0 0 0) (a := a1) (w := z) (nt_M0 h rfl (up_k _ _ _ (by decide)) (up_k _ _ _ (by decide))) (by show 0 ≤ a1 ∧ a1 < M 0 3; omega) (by omega)
      have hr := r3 0 (by omega)
      have hr : bt r 0 ↔ rw_at (M 0 3) (M 2) (M 3) z a1 0 := hr
      have hh := pm_has (a := r) (v := 0) (by omega) (by decide) (tp_up M 0 0 0)
      unfold fx_X11_gates_L19
      rw [show tp_up M 0 0 0 0 3 = M 0 3 from rfl, w32_id (show -2147483648 ≤ z ∧ z < 2147483648 by omega), w32_id (show -2147483648 ≤ M 0 3 ∧ M 0 3 < 2147483648 by omega), if_pos z2, tp_jn1_s, tp_jn0_s]; (try dsimp only); rw [w32_id (show -2147483648 ≤ a1 ∧ a1 < 2147483648 by omega)]
      try dsimp only
      by_cases e : z = a1
      · rw [if_pos e, tp_lt_s, tp_lt_s, x_or_0 ha]
        exact ⟨fun q => absurd e q.1, fun _ => rfl⟩
      · rw [if_neg e, r1, tp_bd_s]
        by_cases e2 : bt r 0
        · rw [hh.1 e2, tp_bd_s, if_neg (show ¬ w32 1 = 0 by decide), tp_lt_s, tp_lt_s, x_or_0 ha]
          exact ⟨fun q => absurd (hr.mp e2) q.2, fun _ => rfl⟩
        · rw [hh.2 e2, tp_bd_s, if_pos (show w32 0 = 0 by decide), tp_lt_s, tp_lt_s]
          exact ⟨fun _ => rfl, fun q => absurd ⟨e, fun c => e2 (hr.mpr c)⟩ q⟩) (fun K rec a => by
      unfold fx_X11_gates_L19
      rw [show tp_up M 0 0 0 0 3 = M 0 3 from rfl, if_neg (by omega)])
    have hxy : x = y := bt_ext x1 y1 (fun j hj => (x2 j hj).trans (y2 j hj).symm)
    rw [x3, y3]
    subst hxy
    refine wp2_lm2 ?_
    rw [pj_bits, tp_bd_s, pc_tell1, tp_bd_s, pj_bits, tp_bd_s, pm_enters (t := 0) (up_s _ _ _ _) (by decide), tp_bd_s]
    refine wp2_some (ans_told h (by (repeat (first | exact fr_rf | assumption | refine fr_up ?_ (by simp) | refine fr_cp ?_ (by simp) | exact fr_mono (by assumption) (by simp)))) (by (repeat (first | exact fr_rf | assumption | refine fr_up ?_ (by simp) | refine fr_cp ?_ (by simp) | exact fr_mono (by assumption) (by simp)))) ?_ rfl ⟨by decide, by decide⟩ (td_1C _ _) (td_1M _ _) (fun _ _ _ => rfl))
    exact scF_up (scF_k (scF_up (scF_up (scF_rf M) (by decide)) (by decide)) (by decide)) (by decide)
  · rw [if_neg c1, if_neg (show ¬ (1 ≤ a1 ∧ a1 ≤ M 0 3 - 1) by omega), tp_bd_s, tp_bd_s, show w32 0 = 0 from rfl, if_pos rfl, if_pos rfl]
    exact wp2_some (ans_no h)
/-- both ways -/
def pa_c (n : Int) (D G : Int → Int) (v z : Int) : Prop := rw_at n D G (-1) v z ∧ rw_at n D G (-1) z v
theorem cs_parishOf {C : tp_M} {n : Int} {D G : Int → Int} {v : Int} (hN : nC C n D G) (hv : 0 ≤ v ∧ v < n) : ∃ x : Int, (0 ≤ x ∧ x < 256) ∧ (∀ j : Nat, j < 8 → (bt x j ↔ (0 ≤ (j : Int) ∧ (j : Int) < n) ∧ pa_c n D G v (j : Int))) ∧ fx_X4_parishOf 5 v C = some (x, C) := by
  have n8 := cn_n hN
  have hn := hN.2.1
  have hw : ∀ (a u : Int), 0 ≤ a → a < n → (rw_at n D G 8 a u ↔ rw_at n D G (-1) a u) := fun a u a1 a2 => rw_w hn ⟨a1, a2⟩ (fun u u1 u2 => by omega) u
  obtain ⟨r, r1, r2, r3⟩ := cs_reach hN (a := v) (w := 8) hv (by omega)
  obtain ⟨x, x1, x2, x3⟩ := lp2_bits0 (body := fx_X4_parishOf_L13 5 v r) (M := C) (pa_c n D G v) 0 n (by omega) (fun rec a z ha z1 z2 => by
    have hs := bt_shr (c := r) (v := z) (by omega) (by omega) (j := z.toNat) (by omega)
    have hrz := r3 z.toNat (by omega)
    rw [show ((z.toNat : Nat) : Int) = z by omega, hw v z hv.1 hv.2] at hrz
    obtain ⟨s, s1, s2, s3⟩ := cs_reach hN (a := z) (w := 8) (by omega) (by omega)
    have hs2 := bt_shr (c := s) (v := v) (by omega) (by omega) (j := v.toNat) (by omega)
    have hsv := s3 v.toNat (by omega)
    rw [show ((v.toNat : Nat) : Int) = v by omega, hw z v z1 z2] at hsv
    unfold fx_X4_parishOf_L13
    rw [show C 5 4 = n from hN.1, w32_id (show -2147483648 ≤ z ∧ z < 2147483648 by omega), w32_id (show -2147483648 ≤ n ∧ n < 2147483648 by omega), if_pos z2, tp_jn1_s, tp_jn0_s]; (try dsimp only); rw [x_and_w, hs]
    try dsimp only
    by_cases e : r.toNat.testBit z.toNat = true
    · rw [if_pos e, if_pos rfl, s1, tp_bd_s, x_and_w, hs2]
      by_cases e2 : s.toNat.testBit v.toNat = true
      · rw [if_pos e2, if_pos rfl, tp_lt_s, tp_jn1_s]; (try dsimp only); rw [if_neg (show ¬ w32 1 = 0 by decide), tp_lt_s, tp_lt_s]
        exact ⟨fun _ => rfl, fun q => absurd ⟨hrz.mp e, hsv.mp e2⟩ q⟩
      · rw [if_neg e2, if_neg (by decide), tp_lt_s, tp_jn1_s]; (try dsimp only); rw [if_pos (show w32 0 = 0 by decide), tp_lt_s]
        exact ⟨fun q => absurd (hsv.mpr q.2) e2, fun _ => rfl⟩
    · rw [if_neg e, if_neg (by decide), tp_lt_s, tp_jn1_s]; (try dsimp only); rw [if_pos (show w32 0 = 0 by decide), tp_lt_s]
      exact ⟨fun q => absurd (hrz.mpr q.1) e, fun _ => rfl⟩) (fun rec a => by
    unfold fx_X4_parishOf_L13
    rw [show C 5 4 = n from hN.1, if_neg (by omega)])
  refine ⟨x, x1, x2, ?_⟩
  unfold fx_X4_parishOf
  rw [tp_lt_s, r1, tp_bd_s, tp_lt_s, tp_lt_s]
  exact x3
theorem ps_parishOf {M : tp_M} {v : Int} (hn : nt_net (M 0 3) (M 2) (M 3)) (hv : 0 ≤ v ∧ v < M 0 3) : ∃ x : Int, (0 ≤ x ∧ x < 256) ∧ (∀ j : Nat, j < 8 → (bt x j ↔ (0 ≤ (j : Int) ∧ (j : Int) < M 0 3) ∧ pa_c (M 0 3) (M 2) (M 3) v (j : Int))) ∧ fx_X11_parishOf v M = some (x, M) := by
  have n8 := hn.1
  obtain ⟨r, r1, r2, r3⟩ := ps_comesFrom (M := M) (a := v) (w := -1) hn hv (by omega)
  obtain ⟨x, x1, x2, x3⟩ := lp2_bits0 (body := fx_X11_parishOf_L4 v) (M := M) (pa_c (M 0 3) (M 2) (M 3) v) 0 (M 0 3) (by omega) (fun rec a z ha z1 z2 => by
    have hs := pm_has (a := r) (v := z) (by omega) (by omega) M
    have hrz := r3 z.toNat (by omega)
    rw [show ((z.toNat : Nat) : Int) = z by omega] at hrz
    obtain ⟨s, s1, s2, s3⟩ := ps_comesFrom (M := M) (a := z) (w := -1) hn (by omega) (by omega)
    have hs2 := pm_has (a := s) (v := v) (by omega) (by omega) M
    have hsv := s3 v.toNat (by omega)
    rw [show ((v.toNat : Nat) : Int) = v by omega] at hsv
    unfold fx_X11_parishOf_L4
    rw [w32_id (show -2147483648 ≤ z ∧ z < 2147483648 by omega), w32_id (show -2147483648 ≤ M 0 3 ∧ M 0 3 < 2147483648 by omega), if_pos z2, r1, tp_bd_s]
    by_cases e : bt r z.toNat
    · rw [hs.1 e, tp_bd_s, tp_jn1_s, tp_jn0_s]; (try dsimp only); rw [if_neg (show ¬ w32 1 = 0 by decide), s1, tp_bd_s]
      by_cases e2 : bt s v.toNat
      · rw [hs2.1 e2, tp_bd_s, if_neg (show ¬ w32 1 = 0 by decide), tp_lt_s, tp_lt_s]
        exact ⟨fun _ => rfl, fun q => absurd ⟨hrz.mp e, hsv.mp e2⟩ q⟩
      · rw [hs2.2 e2, tp_bd_s, if_pos (show w32 0 = 0 by decide), tp_lt_s, tp_lt_s, x_or_0 ha]
        exact ⟨fun q => absurd (hsv.mpr q.2) e2, fun _ => rfl⟩
    · rw [hs.2 e, tp_bd_s, tp_jn1_s, tp_jn0_s]; (try dsimp only); rw [if_pos (show w32 0 = 0 by decide), tp_lt_s, tp_lt_s, x_or_0 ha]
      exact ⟨fun q => absurd (hrz.mpr q.1) e, fun _ => rfl⟩) (fun rec a => by
    unfold fx_X11_parishOf_L4
    rw [if_neg (by omega)])
  refine ⟨x, x1, x2, ?_⟩
  unfold fx_X11_parishOf
  rw [tp_lt_s, tp_lt_s]
  exact x3
def tz (a : Int) : Int := ((fx_J6_numberOfTrailingZeros_0f7a4 a (fun _ _ => 0)).getD (0, fun _ _ => 0)).1
theorem pj_tz (a : Int) (M : tp_M) : fx_J6_numberOfTrailingZeros_0f7a4 a M = some (tz a, M) := by
  unfold tz fx_J6_numberOfTrailingZeros_0f7a4
  simp only [tp_lt_n, tp_jn2_n]
  repeat' split
  all_goals rfl
theorem tz_low {a v : Int} (ha : 0 ≤ a ∧ a < 256) (hv : 0 ≤ v ∧ v < 8) (hb : bt a v.toNat) : w32 (x_and a (x_shl 1 v - 1)) = 0 ↔ w32 (tz a) = v := by
  have h : ∀ v : Nat, v < 8 → ∀ a : Nat, a < 256 → a.testBit v = true → (w32 (x_and (a : Int) (x_shl 1 (v : Int) - 1)) = 0 ↔ w32 (tz (a : Int)) = (v : Int)) := by decide +kernel
  obtain ⟨b, rfl⟩ := Int.eq_ofNat_of_zero_le ha.1
  obtain ⟨u, rfl⟩ := Int.eq_ofNat_of_zero_le hv.1
  exact h u (by omega) b (by omega) hb
theorem st_parish (h1 : pu_in a1) (h : Sim B C M) : wp2 (fx_X10_parish a1 C) (fx_X11_parish a1 M) (Ans B) := by
  have hN : nC C (M 0 3) (M 2) (M 3) := h.2.2.1
  have n8 := cn_n hN
  have hn := hN.2.1
  unfold fx_X10_parish fx_X11_parish
  refine wp2_lm2 ?_
  rw [cn_has hN h1, pm_isCrossing (M := tp_up M 0 0 0) (n := M 0 3) rfl (by omega) h1]
  by_cases c1 : 0 ≤ a1 ∧ a1 < M 0 3
  · rw [if_pos c1, if_pos (show 0 ≤ a1 ∧ a1 ≤ M 0 3 - 1 by omega), tp_bd_s, tp_bd_s, show w32 1 = 1 from rfl, if_neg (show ¬ (1 : Int) = 0 by decide), if_neg (show ¬ (1 : Int) = 0 by decide)]
    refine wp2_lt1 ?_
    refine wp2_lt1 ?_
    refine wp2_lt2 ?_
    refine wp2_lt2 ?_
    have hM0 : nt_net (tp_up M 0 0 0 0 3) (tp_up M 0 0 0 2) (tp_up M 0 0 0 3) := nt_M0 h rfl (up_k _ _ _ (by decide)) (up_k _ _ _ (by decide))
    have hx : ∀ z : Int, 0 ≤ z → z < M 0 3 → ∃ x : Int, fx_X4_parishOf 5 z C = some (x, C) ∧ fx_X11_parishOf z (tp_up M 0 0 0) = some (x, tp_up M 0 0 0) ∧ (w32 (x_and x (x_shl 1 z - 1)) = 0 ↔ w32 (tz x) = z) := fun z z1 z2 => by
      obtain ⟨x, x1, x2, x3⟩ := cs_parishOf hN (v := z) ⟨z1, z2⟩
      obtain ⟨y, y1, y2, y3⟩ := ps_parishOf hM0 (v := z) ⟨z1, z2⟩
      have hxy : x = y := bt_ext x1 y1 (fun j hj => (x2 j hj).trans (y2 j hj).symm)
      subst hxy
      refine ⟨x, x3, y3, tz_low x1 (by omega) ((x2 z.toNat (by omega)).mpr ⟨by omega, ?_⟩)⟩
      rw [show ((z.toNat : Nat) : Int) = z by omega]
      exact ⟨⟨0, rfl⟩, ⟨0, rfl⟩⟩
    have hz : ∀ z : Int, ∃ c : Int, 0 ≤ z → z < M 0 3 → ∃ x : Int, fx_X4_parishOf 5 z C = some (x, C) ∧ fx_X11_parishOf z (tp_up M 0 0 0) = some (x, tp_up M 0 0 0) ∧ c = (if w32 (tz x) = z then 1 else 0) ∧ c = (if w32 (x_and x (x_shl 1 z - 1)) = 0 then 1 else 0) := fun z => by
      by_cases q : 0 ≤ z ∧ z < M 0 3
      · obtain ⟨x, x1, x2, x3⟩ := hx z q.1 q.2
        refine ⟨if w32 (tz x) = z then 1 else 0, fun _ _ => ⟨x, x1, x2, rfl, ?_⟩⟩
        by_cases e : w32 (tz x) = z
        · rw [if_pos e, if_pos (x3.mpr e)]
        · rw [if_neg e, if_neg (fun c => e (x3.mp c))]
      · exact ⟨0, fun q1 q2 => absurd ⟨q1, q2⟩ q⟩
    let cc : Int → Int := fun z => Classical.choose (hz z)
    have hcc : ∀ z : Int, 0 ≤ z → z < M 0 3 → ∃ x : Int, fx_X4_parishOf 5 z C = some (x, C) ∧ fx_X11_parishOf z (tp_up M 0 0 0) = some (x, tp_up M 0 0 0) ∧ cc z = (if w32 (tz x) = z then 1 else 0) ∧ cc z = (if w32 (x_and x (x_shl 1 z - 1)) = 0 then 1 else 0) := fun z => Classical.choose_spec (hz z)
    obtain ⟨x, x1, x2, x3⟩ := cs_parishOf hN (v := a1) c1
    obtain ⟨y, y1, y2, y3⟩ := ps_parishOf (M := tp_up (tp_up (tp_up (tp_up M 0 0 0) 0 1 0) 1 0 (w32 (fZ (fun z a => a + cc z) (M 0 3).toNat 0 0))) 0 1 (0 + 1)) (v := a1) (nt_M0 h (by simp (disch := omega) only [up_k, up_j]) (by simp (disch := omega) only [up_k]) (by simp (disch := omega) only [up_k])) (by simp (disch := omega) only [up_k, up_j]; exact c1)
    have g3 : tp_up (tp_up (tp_up (tp_up M 0 0 0) 0 1 0) 1 0 (w32 (fZ (fun z a => a + cc z) (M 0 3).toNat 0 0))) 0 1 (0 + 1) 0 3 = M 0 3 := by simp (disch := omega) only [up_k, up_j]
    have g2 : tp_up (tp_up (tp_up (tp_up M 0 0 0) 0 1 0) 1 0 (w32 (fZ (fun z a => a + cc z) (M 0 3).toNat 0 0))) 0 1 (0 + 1) 2 = M 2 := by simp (disch := omega) only [up_k]
    have g4 : tp_up (tp_up (tp_up (tp_up M 0 0 0) 0 1 0) 1 0 (w32 (fZ (fun z a => a + cc z) (M 0 3).toNat 0 0))) 0 1 (0 + 1) 3 = M 3 := by simp (disch := omega) only [up_k]
    rw [g3, g2, g4] at y2
    have hxy : x = y := bt_ext x1 y1 (fun j hj => (x2 j hj).trans (y2 j hj).symm)
    subst hxy
    rw [lp2_for (body := fx_X10_parish_L17 a1 _) (f := fun z a => a + cc z) (K := fun y8 => tp_bd (fx_X8_tell_ (w32 y8) C) (fun r18 M19 => tp_bd (fx_X4_parishOf 5 a1 M19) (fun r20 M21 => some (r20, M21)))) (M := C) (fun _ _ => True) (M 0 3).toNat 0 0 tp_F trivial (fun rec a z _ z1 z2 => ⟨?_, trivial⟩) (fun rec a _ => ?_) (tp_F_pos (by omega))]
    · rw [lp2_for (body := fx_X11_parish_L19 a1 _) (f := fun z a => a + cc z) (K := fun y9 => tp_lm (tp_up (tp_up M 0 0 0) 0 1 0) (fun M21 => tp_bd (fx_X11_enters (w32 y9) M21) (fun r22 M23 => tp_bd (fx_X11_parishOf a1 M23) (fun r24 M25 => some (r24, M25))))) (M := tp_up M 0 0 0) (fun _ _ => True) (M 0 3).toNat 0 0 tp_F trivial (fun rec a z _ z1 z2 => ⟨?_, trivial⟩) (fun rec a _ => ?_) (tp_F_pos (by omega))]
      · rw [pc_tell1, tp_bd_s]
        refine wp2_lm2 ?_
        rw [pm_enters (t := 0) (up_s _ _ _ _) (by decide), tp_bd_s, y3, tp_bd_s]
        obtain ⟨u, u1, u2, u3⟩ := cs_parishOf (C := tp_up (tp_up (tp_up C 3 1 0) 4 0 (w32 (fZ (fun z a => a + cc z) (M 0 3).toNat 0 0))) 3 1 1) (v := a1) (nC_fr hN (by simp (disch := omega) only [up_k]) (by simp (disch := omega) only [up_k]) (by simp (disch := omega) only [up_k]) (by simp (disch := omega) only [up_k]) (by simp (disch := omega) only [up_k])) c1
        have hux : u = x := bt_ext u1 x1 (fun j hj => (u2 j hj).trans (x2 j hj).symm)
        subst hux
        rw [u3, tp_bd_s]
        refine wp2_some (ans_told h (by (repeat (first | exact fr_rf | assumption | refine fr_up ?_ (by simp) | refine fr_cp ?_ (by simp) | exact fr_mono (by assumption) (by simp)))) (by (repeat (first | exact fr_rf | assumption | refine fr_up ?_ (by simp) | refine fr_cp ?_ (by simp) | exact fr_mono (by assumption) (by simp)))) ?_ rfl ⟨by decide, by decide⟩ (td_1C _ _) (td_1M _ _) (fun _ _ _ => rfl))
        exact scF_up (scF_k (scF_up (scF_up (scF_rf M) (by decide)) (by decide)) (by decide)) (by decide)
      · obtain ⟨p, p1, p2, p3, p4⟩ := hcc z z1 (by omega)
        show fx_X11_parish_L19 a1 _ rec a z (tp_up M 0 0 0) = rec (a + cc z) (z + 1) (tp_up M 0 0 0)
        unfold fx_X11_parish_L19
        rw [show tp_up M 0 0 0 0 3 = M 0 3 from rfl, w32_id (show -2147483648 ≤ z ∧ z < 2147483648 by omega), w32_id (show -2147483648 ≤ M 0 3 ∧ M 0 3 < 2147483648 by omega), if_pos (by omega), p2, tp_bd_s, pj_tz, tp_bd_s, tp_jn1_s]; (try dsimp only); rw [p3]
        try dsimp only
        by_cases e : w32 (tz p) = z
        · rw [if_pos e, if_pos e, pm_flag, tp_bd_s, tp_lt_s, tp_lt_s]; rfl
        · rw [if_neg e, if_neg e, pm_flag, tp_bd_s, tp_lt_s, tp_lt_s]; rfl
      · unfold fx_X11_parish_L19
        rw [show tp_up M 0 0 0 0 3 = M 0 3 from rfl, if_neg (by rw [w32_id (by omega), w32_id (by omega)]; omega)]
    · obtain ⟨p, p1, p2, p3, p4⟩ := hcc z z1 (by omega)
      show fx_X10_parish_L17 a1 _ rec a z C = rec (a + cc z) (z + 1) C
      unfold fx_X10_parish_L17
      rw [cn_crossings hN, tp_bd_s, w32_id (show -2147483648 ≤ z ∧ z < 2147483648 by omega), w32_id (show -2147483648 ≤ M 0 3 ∧ M 0 3 < 2147483648 by omega), if_pos (by omega), p1, tp_bd_s, tp_jn1_s]; (try dsimp only); rw [p4]
      try dsimp only
      by_cases e : w32 (x_and p (x_shl 1 z - 1)) = 0
      · rw [if_pos e, if_pos e, tp_lt_s, tp_lt_s]
      · rw [if_neg e, if_neg e, tp_lt_s, Int.add_zero]
    · unfold fx_X10_parish_L17
      rw [cn_crossings hN, tp_bd_s, if_neg (by rw [w32_id (by omega), w32_id (by omega)]; omega)]
  · rw [if_neg c1, if_neg (show ¬ (0 ≤ a1 ∧ a1 ≤ M 0 3 - 1) by omega), tp_bd_s, tp_bd_s, show w32 0 = 0 from rfl, if_pos rfl, if_pos rfl]
    exact wp2_some (ans_no h)
end ST
