/-! ODDS: the call -/
def od_it (n : Int) (D G P : Int → Int) : Nat → Int → Int
  | 0 => P
  | j + 1 => fun u => sp_v D G (od_it n D G P j) u (n - 1).toNat
def od_x : Nat → Int
  | 0 => 1
  | j + 1 => 96 * od_x j
def od_n : Nat → Int
  | 0 => 1
  | j + 1 => od_n j * 12
theorem od_big : ∀ j : Nat, j < 9 → 0 ≤ od_x j ∧ od_x j < 9000000000000000000 ∧ 0 < od_n j ∧ od_n j < 9000000000000000000 := by decide +kernel
theorem od_b {n : Int} {D G P : Int → Int} (hn : nt_net n D G) (hP : ∀ u : Int, 0 ≤ u → u < 8 → 0 ≤ P u ∧ P u ≤ 1) : ∀ j : Nat, j < 9 → ∀ u : Int, 0 ≤ u → u < 8 → 0 ≤ od_it n D G P j u ∧ od_it n D G P j u ≤ od_x j := by
  intro j
  induction j with
  | zero => intro _; exact hP
  | succ j ih => intro hj u _ _; exact sp_b hn (od_big j (by omega)).1 (ih (by omega)) u
theorem cs_spread {C : tp_M} {n : Int} {D G : Int → Int} {a1 a2 a3 p q : Int} (hN : nC C n D G) (h1 : 0 ≤ a1 ∧ a1 < n) (h2 : 0 ≤ a2 ∧ a2 ≤ 8) (h3 : 0 ≤ a3 ∧ a3 < n) (hf : ∀ C : tp_M, fx_X0_tellFraction (od_it n D G (fun u => if u = a1 then 1 else 0) a2.toNat a3) (od_n a2.toNat) C = some (0, tp_up (tp_up C 40 3 p) 40 4 q)) : wp (fx_X0_spread a1 a2 a3 C) (fun _ C1 => tp_fr [40, 50, 51] C C1 ∧ C1 40 3 = p ∧ C1 40 4 = q) := by
  have n8 := cn_n hN
  generalize hP : (fun u : Int => if u = a1 then (1 : Int) else 0) = P at *
  refine wp_K (fun Q hQ => ?_)
  unfold fx_X0_spread
  rw [cn_has hN (by unfold pu_in; omega), if_pos h1, tp_bd_s, show w32 1 = 1 from rfl, if_neg (show ¬ (1 : Int) = 0 by decide), cn_has hN (by unfold pu_in; omega), if_pos h3, tp_bd_s, show w32 1 = 1 from rfl, if_neg (show ¬ (1 : Int) = 0 by decide)]
  refine wp_lt ?_
  refine wp_lp1 (fun z C1 => (0 ≤ z ∧ z ≤ 8) ∧ tp_fr [50, 51] C C1 ∧ ∀ u : Int, 0 ≤ u → u < z → C1 50 u = P u) (fun z _ => (8 - z).toNat) ?_ tp_F 0 C ⟨by omega, fr_rf, fun u u1 u2 => by omega⟩ (tp_F_pos (by omega))
  intro rec z C1 hI hrec
  obtain ⟨i1, i2, i3⟩ := hI
  unfold fx_X0_spread_L21
  rw [w32_id (show -2147483648 ≤ z ∧ z < 2147483648 by omega), w32_id (show -2147483648 ≤ a1 ∧ a1 < 2147483648 by omega)]
  by_cases hz : z < 8
  · rw [if_pos hz]
    refine wp_jn1 ?_
    have nx : ∀ e : Int, e = P z → wp (tp_ck z 8 (tp_lm (tp_up C1 50 z e) (fun M10 => tp_lt (z + 1) (fun x11 => rec x11 M10)))) Q := fun e he => by
      refine wp_ck (by omega) ?_
      refine wp_lm ?_
      refine wp_lt ?_
      refine hrec _ _ ⟨by omega, fr_up i2 (by simp), fun u u1 u2 => ?_⟩ (by omega)
      rw [up_c]
      by_cases eu : u = z
      · rw [if_pos eu, he, eu]
      · rw [if_neg eu]; exact i3 u u1 (by omega)
    by_cases z0 : z = a1
    · rw [if_pos z0]
      exact nx 1 (by rw [← hP, z0]; exact (if_pos rfl).symm)
    · rw [if_neg z0]
      exact nx 0 (by rw [← hP]; exact (if_neg z0).symm)
  · rw [if_neg hz]
    refine wp_lt ?_
    refine wp_lt ?_
    refine wp_lp2 (fun b r C2 => ∃ j : Nat, (j : Int) ≤ a2 ∧ r = (j : Int) ∧ b = od_n j ∧ tp_fr [50, 51] C C2 ∧ ∀ u : Int, 0 ≤ u → u < 8 → C2 50 u = od_it n D G P j u) (fun _ r _ => (8 - r).toNat) ?_ tp_F 1 0 C1 ⟨0, by omega, rfl, rfl, i2, fun u u1 u2 => i3 u u1 (by omega)⟩ (tp_F_pos (by omega))
    intro rec2 b r C2 hI2 hrec2
    obtain ⟨j, j1, rfl, rfl, j2, j3⟩ := hI2
    unfold fx_X0_spread_L58
    rw [w32_id (show -2147483648 ≤ (j : Int) ∧ (j : Int) < 2147483648 by omega), w32_id (show -2147483648 ≤ a2 ∧ a2 < 2147483648 by omega)]
    by_cases hj : (j : Int) < a2
    · rw [if_pos hj, if_pos (show (j : Int) < 8 by omega)]
      have hN2 : nC C2 n D G := nC_fr hN (j2 5 (by simp)) (j2 6 (by simp)) (j2 7 (by simp)) (j2 8 (by simp)) (j2 9 (by simp))
      refine wp_call (cs_spread1 (C := C2) (n := n) (D := D) (G := G) hN2 rfl) (fun _ C3 t => ?_)
      obtain ⟨t1, t2⟩ := t
      refine wp_lt ?_
      refine wp_lt ?_
      refine hrec2 _ _ _ ⟨j + 1, by omega, by omega, rfl, fr_tr j2 t1, fun u u1 u2 => ?_⟩ (by omega)
      rw [t2 u u1 u2]
      exact sp_cg n8.2 j3 u _ (by omega)
    · rw [if_neg hj]
      have ej : a2.toNat = j := by omega
      rw [ej] at hf
      dsimp only
      rw [w32_id (show -2147483648 ≤ a3 ∧ a3 < 2147483648 by omega)]
      refine wp_ck (by omega) ?_
      rw [j3 a3 h3.1 (by omega), hf, tp_bd_s]
      exact wp_some (hQ _ _ ⟨fr_up (fr_up (fr_mono j2 (by simp)) (by simp)) (by simp), by rw [up_j _ _ _ (by decide), up_s], up_s _ _ _ _⟩)
section ST
variable {B : Int} {C M : tp_M} {a1 a2 a3 : Int}
theorem st_odds (h1 : pu_in a1) (h2 : pu_in a2) (h3 : pu_in a3) (h : Sim B C M) : wp2 (fx_X10_odds a1 a2 a3 C) (fx_X11_odds a1 a2 a3 M) (Ans B) := by
  have hN : nC C (M 0 3) (M 2) (M 3) := h.2.2.1
  have n8 := cn_n hN
  have p2 := h2
  unfold pu_in at p2
  unfold fx_X10_odds fx_X11_odds
  refine wp2_lm2 ?_
  rw [cn_hasPost hN h1, pm_isOut (M := tp_up M 0 0 0) (n := M 0 3) rfl (by omega) h1]
  by_cases c1 : 1 ≤ a1 ∧ a1 < M 0 3
  · rw [if_pos c1, if_pos (show 1 ≤ a1 ∧ a1 ≤ M 0 3 - 1 by omega), tp_bd_s, tp_bd_s, show w32 1 = 1 from rfl, if_neg (show ¬ (1 : Int) = 0 by decide), if_neg (show ¬ (1 : Int) = 0 by decide), cn_has hN h3, w32_id (a := a2) p2, pm_in h2 (by unfold pu_in; omega) (by unfold pu_in; omega), tp_bd_s, tp_bd_s]
    by_cases c2 : 0 ≤ a2 ∧ a2 ≤ 8
    · by_cases c3 : 0 ≤ a3 ∧ a3 < M 0 3
      · rw [if_pos c3, if_pos c2, show w32 1 = 1 from rfl, if_neg (show ¬ (1 : Int) = 0 by decide), if_neg (show ¬ a2 < 0 by omega), if_pos c2.2, if_neg (show ¬ (1 : Int) = 0 by decide), pm_isCrossing (M := tp_up M 0 0 0) (n := M 0 3) rfl (by omega) h3, tp_bd_s, if_pos (show 0 ≤ a3 ∧ a3 ≤ M 0 3 - 1 by omega), show w32 1 = 1 from rfl, if_neg (show ¬ (1 : Int) = 0 by decide)]
        have hbig := od_big a2.toNat (by omega)
        have hb := od_b hN.2.1 (P := fun u => if u = a1 then 1 else 0) (fun u _ _ => by show 0 ≤ (if u = a1 then (1 : Int) else 0) ∧ (if u = a1 then (1 : Int) else 0) ≤ 1; split <;> omega) a2.toNat (by omega) a3 c3.1 (by omega)
        obtain ⟨p, q, hp, hq⟩ := w2_frac (a := od_it (M 0 3) (M 2) (M 3) (fun u => if u = a1 then 1 else 0) a2.toNat a3) (b := od_n a2.toNat) (by omega) ⟨hbig.2.2.1, hbig.2.2.2⟩
        refine wp2_c1 (cs_spread hN (show 0 ≤ a1 ∧ a1 < M 0 3 by omega) c2 c3 hp) (fun _ C1 t => ?_)
        obtain ⟨t1, t2, t3⟩ := t
        rw [t2, t3, pc_tell2, tp_bd_s]
        clear hp hb hbig t2 t3
        generalize hP : (fun u : Int => if u = a1 then (1 : Int) else 0) = P at *
        refine wp2_lt2 ?_
        refine wp2_R1 (fun z M1 => (0 ≤ z ∧ z ≤ 8) ∧ tp_fr [22, 23] (tp_up M 0 0 0) M1 ∧ ∀ u : Int, 0 ≤ u → u < z → M1 22 u = P u) (fun z _ => (8 - z).toNat) ?_ tp_F 0 (tp_up M 0 0 0) ⟨by omega, fr_rf, fun u u1 u2 => by omega⟩ (tp_F_pos (by omega))
        intro rec z M1 hI hrec
        obtain ⟨i1, i2, i3⟩ := hI
        unfold fx_X11_odds_L38
        rw [w32_id (show -2147483648 ≤ z ∧ z < 2147483648 by omega), w32_id (show -2147483648 ≤ a1 ∧ a1 < 2147483648 by omega)]
        by_cases hz : z < 8
        · rw [if_pos hz, tp_jn1_n]
          have nx : ∀ e : Int, e = P z → (e = 0 ∨ e = 1) → wp2 (some (0, tp_up (tp_up (tp_up (tp_up (tp_up C1 3 1 0) 4 0 p) 3 1 1) 4 1 q) 3 1 2)) (tp_bd (fx_X11_flag e M1) (fun r13 M14 => tp_ck z 8 (tp_lm (tp_up M14 22 z (w32 r13)) (fun M15 => tp_lt (z + 1) (fun x16 => rec x16 M15))))) (Ans B) := fun e he e2 => by
            have hfl : fx_X11_flag e M1 = some (e, M1) := by rcases e2 with rfl | rfl <;> rfl
            have hw : w32 e = e := by rcases e2 with rfl | rfl <;> rfl
            rw [hfl, tp_bd_s, hw]
            refine wp2_ck2 (by omega) ?_
            refine wp2_lm2 ?_
            refine wp2_lt2 ?_
            refine hrec _ _ ⟨by omega, fr_up i2 (by simp), fun u u1 u2 => ?_⟩ (by omega)
            rw [up_c]
            by_cases eu : u = z
            · rw [if_pos eu, he, eu]
            · rw [if_neg eu]; exact i3 u u1 (by omega)
          by_cases z0 : z = a1
          · rw [if_pos z0]
            exact nx 1 (by rw [← hP, z0]; exact (if_pos rfl).symm) (Or.inr rfl)
          · rw [if_neg z0]
            exact nx 0 (by rw [← hP]; exact (if_neg z0).symm) (Or.inl rfl)
        · rw [if_neg hz]
          refine wp2_lt2 ?_
          refine wp2_lt2 ?_
          refine wp2_R2 (fun b r M2 => ∃ j : Nat, (j : Int) ≤ a2 ∧ r = (j : Int) ∧ b = od_n j ∧ tp_fr [22, 23] (tp_up M 0 0 0) M2 ∧ ∀ u : Int, 0 ≤ u → u < 8 → M2 22 u = od_it (M 0 3) (M 2) (M 3) P j u) (fun _ r _ => (8 - r).toNat) ?_ tp_F 1 0 M1 ⟨0, by omega, rfl, rfl, i2, fun u u1 u2 => i3 u u1 (by omega)⟩ (tp_F_pos (by omega))
          intro rec2 b r M2 hI2 hrec2
          obtain ⟨j, j1, rfl, rfl, j2, j3⟩ := hI2
          have e03 : M2 0 3 = M 0 3 := by rw [j2 0 (by simp)]; rfl
          have e2 : M2 2 = M 2 := by rw [j2 2 (by simp), up_k _ _ _ (by decide)]
          have e3 : M2 3 = M 3 := by rw [j2 3 (by simp), up_k _ _ _ (by decide)]
          unfold fx_X11_odds_L79
          rw [w32_id (show -2147483648 ≤ (j : Int) ∧ (j : Int) < 2147483648 by omega), w32_id (show -2147483648 ≤ a2 ∧ a2 < 2147483648 by omega)]
          by_cases hj : (j : Int) < a2
          · rw [if_pos hj]
            refine wp2_lt2 ?_
            refine wp2_lt2 ?_
            refine ps_spread (M := M2) (P := M2 22) (by rw [e03, e2, e3]; exact hN.2.1) rfl (fun M3 m1 m2 => ?_)
            rw [e03, e2, e3] at m2
            refine wp2_lt2 ?_
            refine hrec2 _ _ _ ⟨j + 1, by omega, by omega, rfl, fr_tr j2 m1, fun u u1 u2 => ?_⟩ (by omega)
            rw [m2 u u1 u2]
            exact sp_cg n8.2 j3 u _ (by omega)
          · rw [if_neg hj]
            have ej : a2.toNat = j := by omega
            rw [ej] at hq
            dsimp only
            rw [w32_id (show -2147483648 ≤ a3 ∧ a3 < 2147483648 by omega), j3 a3 c3.1 (by omega)]
            refine wp2_ck2 (by omega) ?_
            rw [hq, tp_bd_s]
            refine wp2_some (ans_told h ?_ ?_ ?_ rfl ⟨by decide, by decide⟩ (td_2C _ _ _) (td_2M _ _ _) (fun j j1 j2 => rfl))
            · exact fr_up (fr_up (fr_up (fr_up (fr_up (fr_mono t1 (by simp)) (by simp)) (by simp)) (by simp)) (by simp)) (by simp)
            · exact fr_up (fr_up (fr_up (fr_up (fr_up (fr_tr (fr_up fr_rf (by simp)) (fr_mono j2 (by simp))) (by simp)) (by simp)) (by simp)) (by simp)) (by simp)
            · exact scF_up (scF_k (scF_up (scF_k (scF_up (fun j hj => by rw [j2 0 (by simp), up_j _ _ _ (f0_ne hj (by decide))]) (by decide)) (by decide)) (by decide)) (by decide)) (by decide)
      · rw [if_neg c3, if_pos c2, show w32 0 = 0 from rfl, if_pos (show (0 : Int) = 0 from rfl), show w32 1 = 1 from rfl, if_neg (show ¬ (1 : Int) = 0 by decide), pm_isCrossing (M := tp_up M 0 0 0) (n := M 0 3) rfl (by omega) h3, tp_bd_s, if_neg (show ¬ (0 ≤ a3 ∧ a3 ≤ M 0 3 - 1) by omega), show w32 0 = 0 from rfl, if_pos (show (0 : Int) = 0 from rfl)]
        exact wp2_some (ans_no h)
    · rw [if_neg c2, show w32 0 = 0 from rfl, if_pos (show (0 : Int) = 0 from rfl)]
      have ec : ∀ X : tp_O, (if a2 < 0 then some (-1, C) else if a2 ≤ 8 then X else some (-1, C)) = some (-1, C) := fun X => by
        by_cases z : a2 < 0
        · rw [if_pos z]
        · rw [if_neg z, if_neg (by omega)]
      rw [ec]
      have e2 : ∀ r : Int, (if r = 0 then some (-1, C) else some (-1, C)) = (some (-1, C) : tp_O) := fun r => by split <;> rfl
      rw [e2]
      exact wp2_some (ans_no h)
  · rw [if_neg c1, if_neg (show ¬ (1 ≤ a1 ∧ a1 ≤ M 0 3 - 1) by omega), tp_bd_s, tp_bd_s, show w32 0 = 0 from rfl, if_pos rfl, if_pos rfl]
    exact wp2_some (ans_no h)
end ST
