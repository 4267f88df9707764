/-! ODDS: the reference's step, and the call -/
theorem ps_spread {o1 : tp_O} {Q : Int → tp_M → Int → tp_M → Prop} {M : tp_M} {P : Int → Int} {c2 c3 c4 c6 : Int} {K1 : tp_M → tp_O} (hn : nt_net (M 0 3) (M 2) (M 3)) (hP : M 22 = P)
    (hK : ∀ M1 : tp_M, tp_fr [22, 23] M M1 → (∀ u : Int, 0 ≤ u → u < 8 → M1 22 u = sp_v (M 2) (M 3) P u (M 0 3 - 1).toNat) → wp2 o1 (K1 M1) Q) : wp2 o1 (tp_lp1 (fx_X11_odds_L96 c2 c3 c4 c6 (fun M32 => tp_lt 1 (fun x33 => tp_lp1 (fx_X11_odds_L138 c2 c3 c4 c6 (fun M45 => tp_lt 0 (fun x46 => tp_lp1 (fx_X11_odds_L212 c2 c3 c4 c6 K1) tp_F x46 M45))) tp_F x33 M32))) tp_F 0 M) Q := by
  have n8 := hn.1
  generalize hn3 : M 0 3 = n at *
  generalize hD : M 2 = D at *
  generalize hG : M 3 = G at *
  refine wp2_R1 (fun z M1 => (0 ≤ z ∧ z ≤ 8) ∧ tp_fr [23] M M1 ∧ ∀ u : Int, 0 ≤ u → u < z → M1 23 u = if u = 0 then 12 * P 0 else 0) (fun z _ => (8 - z).toNat) ?_ tp_F 0 M ⟨by omega, fr_rf, fun u u1 u2 => by omega⟩ (tp_F_pos (by omega))
  intro rec z M1 hI hrec
  obtain ⟨i1, i2, i3⟩ := hI
  unfold fx_X11_odds_L96
  rw [w32_id (show -2147483648 ≤ z ∧ z < 2147483648 by omega)]
  by_cases hz : z < 8
  · rw [if_pos hz, tp_jn1_n, i2 22 (by simp), hP]
    have nx : ∀ e : Int, e = (if z = 0 then 12 * P 0 else 0) → wp2 o1 (tp_ck z 8 (tp_lm (tp_up M1 23 z e) (fun M30 => tp_lt (z + 1) (fun x31 => rec x31 M30)))) Q := fun e he => by
      refine wp2_ck2 (by omega) ?_
      refine wp2_lm2 ?_
      refine wp2_lt2 ?_
      refine hrec _ _ ⟨by omega, fr_up i2 (by simp), fun u u1 u2 => ?_⟩ (by omega)
      rw [up_c]
      by_cases eu : u = z
      · rw [if_pos eu, he, eu]
      · rw [if_neg eu]; exact i3 u u1 (by omega)
    by_cases z0 : z = 0
    · rw [if_pos z0]
      exact nx _ (by rw [if_pos z0])
    · rw [if_neg z0]
      exact nx _ (by rw [if_neg z0])
  · rw [if_neg hz]
    refine wp2_lt2 ?_
    refine wp2_R1 (fun v M2 => ∃ t : Nat, v = (t : Int) + 1 ∧ (t : Int) < n ∧ tp_fr [23] M M2 ∧ ∀ u : Int, 0 ≤ u → u < 8 → M2 23 u = sp_v D G P u t) (fun v _ => (9 - v).toNat) ?_ tp_F 1 M1 ⟨0, rfl, by omega, i2, fun u u1 u2 => i3 u u1 (by omega)⟩ (tp_F_pos (by omega))
    intro rec2 v M2 hI2 hrec2
    obtain ⟨t, rfl, t1, t2, t3⟩ := hI2
    unfold fx_X11_odds_L138
    rw [t2 0 (by simp), hn3, w32_id (show -2147483648 ≤ (t : Int) + 1 ∧ (t : Int) + 1 < 2147483648 by omega), w32_id (show -2147483648 ≤ n ∧ n < 2147483648 by omega)]
    by_cases hv : (t : Int) + 1 < n
    · rw [if_pos hv]
      have hd := hn.2 ((t : Int) + 1) (by omega) hv
      have d4 := hd.1
      refine wp2_lt2 ?_
      generalize hs : P ((t : Int) + 1) * w32 (x_div 12 (D ((t : Int) + 1))) = s
      refine wp2_R1 (fun k M3 => ∃ l : Nat, k = (l : Int) ∧ (l : Int) ≤ D ((t : Int) + 1) ∧ tp_fr [23] M M3 ∧ ∀ u : Int, 0 ≤ u → u < 8 → M3 23 u = sp_v D G P u t + sp_k G ((t : Int) + 1) s u l) (fun k _ => (4 - k).toNat) ?_ tp_F 0 M2 ⟨0, rfl, by omega, t2, fun u u1 u2 => by rw [t3 u u1 u2]; exact (Int.add_zero _).symm⟩ (tp_F_pos (by omega))
      intro rec3 k M3 hI3 hrec3
      obtain ⟨l, rfl, l1, l2, l3⟩ := hI3
      unfold fx_X11_odds_L150
      rw [w32_id (show -2147483648 ≤ (t : Int) + 1 ∧ (t : Int) + 1 < 2147483648 by omega), l2 2 (by simp), hD, w32_id (show -2147483648 ≤ (l : Int) ∧ (l : Int) < 2147483648 by omega), w32_id (show -2147483648 ≤ D ((t : Int) + 1) ∧ D ((t : Int) + 1) < 2147483648 by omega)]
      refine wp2_ck2 (by omega) ?_
      by_cases hl : (l : Int) < D ((t : Int) + 1)
      · rw [if_pos hl]
        have hg := hd.2 (l : Int) (by omega) hl
        rw [pm_goalOf (M := M3) (a := (t : Int) + 1) (k := (l : Int)) (by omega), tp_bd_s, l2 3 (by simp), hG, l2 2 (by simp), hD, l2 22 (by simp), hP, w32_id (show -2147483648 ≤ G (4 * ((t : Int) + 1) + (l : Int)) ∧ G (4 * ((t : Int) + 1) + (l : Int)) < 2147483648 by omega), w32_id (show -2147483648 ≤ D ((t : Int) + 1) ∧ D ((t : Int) + 1) < 2147483648 by omega), tp_nz_t (show ¬ D ((t : Int) + 1) = 0 by omega), hs]
        refine wp2_ck2 (by omega) ?_
        refine wp2_ck2 (by omega) ?_
        refine wp2_ck2 (by omega) ?_
        refine wp2_ck2 (by omega) ?_
        refine wp2_lm2 ?_
        refine wp2_lt2 ?_
        refine hrec3 _ _ ⟨l + 1, by omega, by omega, fr_up l2 (by simp), fun u u1 u2 => ?_⟩ (by omega)
        rw [up_c, sp_ks]
        by_cases e : u = G (4 * ((t : Int) + 1) + (l : Int))
        · rw [if_pos e, if_pos e.symm, ← e, l3 u u1 u2]; omega
        · rw [if_neg e, if_neg (fun c => e c.symm), l3 u u1 u2]; omega
      · rw [if_neg hl]
        refine wp2_lt2 ?_
        refine hrec2 _ _ ⟨t + 1, by omega, by omega, l2, fun u u1 u2 => ?_⟩ (by omega)
        rw [l3 u u1 u2, sp_vs, hs, show (D ((t : Int) + 1)).toNat = l by omega]
    · rw [if_neg hv]
      refine wp2_lt2 ?_
      have et : (n - 1).toNat = t := by omega
      rw [et] at hK
      refine wp2_R1 (fun z M3 => (0 ≤ z ∧ z ≤ 8) ∧ tp_fr [22] M2 M3 ∧ ∀ u : Int, 0 ≤ u → u < z → M3 22 u = M2 23 u) (fun z _ => (8 - z).toNat) ?_ tp_F 0 M2 ⟨by omega, fr_rf, fun u u1 u2 => by omega⟩ (tp_F_pos (by omega))
      intro rec3 w M3 hI3 hrec3
      obtain ⟨w1, w2, w3⟩ := hI3
      unfold fx_X11_odds_L212
      rw [w32_id (show -2147483648 ≤ w ∧ w < 2147483648 by omega)]
      by_cases hw : w < 8
      · rw [if_pos hw]
        refine wp2_ck2 (by omega) ?_
        refine wp2_ck2 (by omega) ?_
        refine wp2_lm2 ?_
        refine wp2_lt2 ?_
        refine hrec3 _ _ ⟨by omega, fr_up w2 (by simp), fun u u1 u2 => ?_⟩ (by omega)
        rw [up_c, w2 23 (by simp)]
        by_cases e : u = w
        · rw [if_pos e, e]
        · rw [if_neg e]; exact w3 u u1 (by omega)
      · rw [if_neg hw]
        refine hK M3 (fr_tr (fr_mono t2 (by simp)) (fr_mono w2 (by simp))) (fun u u1 u2 => ?_)
        rw [w3 u u1 (by omega), t3 u u1 u2]
theorem sp_cg {D G P P2 : Int → Int} {n : Int} (hn : n ≤ 8) (e : ∀ u : Int, 0 ≤ u → u < 8 → P2 u = P u) (u : Int) : ∀ t : Nat, (t : Int) < n → sp_v D G P2 u t = sp_v D G P u t := by
  intro t
  induction t with
  | zero => intro _; show (if u = 0 then 12 * P2 0 else 0) = if u = 0 then 12 * P 0 else 0; rw [e 0 (by decide) (by decide)]
  | succ t ih => intro ht; rw [sp_vs, sp_vs, ih (by omega), e ((t : Int) + 1) (by omega) (by omega)]
