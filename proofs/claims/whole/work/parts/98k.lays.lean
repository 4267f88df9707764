/-! THE REFERENCE LAYS ITS MATRIX -/
def lpM (p m : Nat) (D : Nat → Nat) (g : Nat → Nat → Int) (x y : Nat) : Int := if 1 ≤ x ∧ x ≤ m then (if y = 0 then 0 else lpR p D g (x - 1) (y - 1)) else if x = y then 1 else 0
def lpQ (p v y : Nat) (G : Int → Int) (t : Nat) : Int := if G (4 * (v : Int) + (t : Int)) = (y : Int) ∧ 0 < y ∧ ¬ y = p then 1 else 0
theorem lpM_row {D G : Int → Int} {m p v y : Nat} (hv : 1 ≤ v ∧ v ≤ m) (hvp : ¬ v = p) : lpM p m (nD D) (nG G) v y = (if v = y then ((nD D (v - 1) : Nat) : Int) else 0) - dt_sum (lpQ p v y G) (nD D (v - 1)) := by
  unfold lpM
  rw [if_pos hv]
  by_cases y0 : y = 0
  · rw [if_pos y0, if_neg (by omega), sumN_0 (fun t _ => by unfold lpQ; rw [if_neg (by omega)])]
    rfl
  · rw [if_neg y0]
    unfold lpR
    rw [if_neg (by omega)]
    by_cases yp : y = p
    · rw [if_pos (by omega), if_neg (by omega), sumN_0 (fun t _ => by unfold lpQ; rw [if_neg (by omega)])]
      rfl
    · rw [if_neg (by omega), lpL_n (by omega), sum_sub]
      have e1 : ((nD D (v - 1) : Nat) : Int) * (if v - 1 = y - 1 then 1 else 0) = if v = y then ((nD D (v - 1) : Nat) : Int) else 0 := by
        by_cases e : v = y
        · rw [if_pos e, if_pos (by omega), Int.mul_one]
        · rw [if_neg e, if_neg (by omega), Int.mul_zero]
      rw [e1]
      congr 1
      refine sumN_cg (fun t _ => ?_)
      unfold lpQ nG
      rw [show 4 * (((v - 1 : Nat) : Int) + 1) + (t : Int) = 4 * (v : Int) + (t : Int) by omega]
      by_cases e : G (4 * (v : Int) + (t : Int)) = (y : Int)
      · rw [if_pos (by omega), if_pos ⟨e, by omega, yp⟩]
      · rw [if_neg (by omega), if_neg (fun q => e q.1)]
section PL
variable {M : tp_M} {m p : Nat}
theorem ps_lays {b : Int} (hn : nt_net (M 0 3) (M 2) (M 3)) (hm : (M 0 3 - 1).toNat = m) (hb : b = if p = 0 then -1 else (p : Int)) (hp : p ≤ m) : wp (fx_X11_laysMatrix b M) (fun _ M1 => tp_fr [21] M M1 ∧ ∀ x y : Nat, x < 8 → y < 8 → M1 21 (8 * (x : Int) + (y : Int)) = lpM p m (nD (M 2)) (nG (M 3)) x y) := by
  have n8 := hn.1
  have hD := nt_D hn hm
  have hb2 : -1 ≤ b ∧ b < 8 := by rw [hb]; split <;> omega
  have hb3 : ∀ v : Int, 0 < v → (v = b ↔ v = (p : Int)) := fun v hv => by rw [hb]; split <;> omega
  clear hb
  refine wp_K (fun Q hQ => ?_)
  unfold fx_X11_laysMatrix
  refine wp_lt ?_
  refine wp_lp1 (fun z M1 => ∃ u : Nat, z = (u : Int) ∧ u ≤ 8 ∧ tp_fr [21] M M1 ∧ ∀ x y : Nat, x < u → y < 8 → M1 21 (8 * (x : Int) + (y : Int)) = if x = y then 1 else 0) (fun z _ => (9 - z).toNat) ?_ tp_F 0 M ⟨0, rfl, by omega, fr_rf, fun x y h => by omega⟩ (tp_F_pos (by omega))
  rintro rec z M1 ⟨u, rfl, u1, f, u2⟩ hrec
  unfold fx_X11_laysMatrix_L2
  rw [w32_id (show -2147483648 ≤ (u : Int) ∧ (u : Int) < 2147483648 by omega)]
  by_cases hu : u < 8
  · rw [if_pos (by omega)]
    refine wp_lt ?_
    refine wp_lp1 (fun z M2 => ∃ w : Nat, z = (w : Int) ∧ w ≤ 8 ∧ tp_fr [21] M M2 ∧ (∀ x y : Nat, x < u → y < 8 → M2 21 (8 * (x : Int) + (y : Int)) = if x = y then 1 else 0) ∧ ∀ y : Nat, y < w → M2 21 (8 * (u : Int) + (y : Int)) = if u = y then 1 else 0) (fun z _ => (9 - z).toNat) ?_ tp_F 0 M1 ⟨0, rfl, by omega, f, u2, fun y h => by omega⟩ (tp_F_pos (by omega))
    rintro rec2 z M2 ⟨w, rfl, w1, f2, w2, w3⟩ hrec2
    unfold fx_X11_laysMatrix_L10
    rw [w32_id (show -2147483648 ≤ (w : Int) ∧ (w : Int) < 2147483648 by omega), w32_id (show -2147483648 ≤ (u : Int) ∧ (u : Int) < 2147483648 by omega)]
    by_cases hw : w < 8
    · rw [if_pos (by omega), pm_cell, tp_bd_s, w32_id (show -2147483648 ≤ 8 * (u : Int) + (w : Int) ∧ 8 * (u : Int) + (w : Int) < 2147483648 by omega)]
      refine wp_jn1 ?_
      have nx : ∀ e : Int, (e = if u = w then 1 else 0) → wp (tp_bd (fx_X11_flag e M2) (fun r11 M12 => tp_ck (8 * (u : Int) + (w : Int)) 64 (tp_lm (tp_up M12 21 (8 * (u : Int) + (w : Int)) (w32 r11)) (fun M13 => tp_lt ((w : Int) + 1) (fun x14 => rec2 x14 M13))))) Q := fun e he => by
        have e2 : e = 0 ∨ e = 1 := by rw [he]; split <;> omega
        have hfl : fx_X11_flag e M2 = some (e, M2) := by rcases e2 with rfl | rfl <;> rfl
        have hw : w32 e = e := by rcases e2 with rfl | rfl <;> rfl
        rw [hfl, tp_bd_s, hw]
        refine wp_ck (by omega) ?_
        refine wp_lm ?_
        refine wp_lt ?_
        refine hrec2 _ _ ⟨w + 1, by omega, by omega, fr_up f2 (by simp), fun x y hx hy => ?_, fun y hy => ?_⟩ (by omega)
        · rw [up_j _ _ _ (by omega)]; exact w2 x y hx hy
        · rw [up_c]
          by_cases e3 : y = w
          · rw [if_pos (by omega), he, e3]
          · rw [if_neg (by omega)]; exact w3 y (by omega)
      by_cases e : u = w
      · rw [if_pos (by omega)]
        exact nx 1 (by rw [if_pos e])
      · rw [if_neg (by omega)]
        exact nx 0 (by rw [if_neg e])
    · rw [if_neg (by omega)]; (try dsimp only)
      refine wp_lt ?_
      refine hrec _ _ ⟨u + 1, by omega, by omega, f2, fun x y hx hy => ?_⟩ (by omega)
      by_cases e : x = u
      · rw [e]; exact w3 y (by omega)
      · exact w2 x y (by omega) hy
  · rw [if_neg (by omega)]; (try dsimp only)
    refine wp_lt ?_
    refine wp_lp1 (fun z M2 => ∃ v : Nat, z = (v : Int) ∧ 1 ≤ v ∧ v ≤ m + 1 ∧ tp_fr [21] M M2 ∧ ∀ x y : Nat, x < 8 → y < 8 → (x < v → M2 21 (8 * (x : Int) + (y : Int)) = lpM p m (nD (M 2)) (nG (M 3)) x y) ∧ (v ≤ x → M2 21 (8 * (x : Int) + (y : Int)) = if x = y then 1 else 0)) (fun z _ => (9 - z).toNat) ?_ tp_F 1 M1 ⟨1, by omega, by omega, by omega, f, fun x y hx hy => ⟨fun h => by
      rw [u2 x y (by omega) hy]
      unfold lpM
      rw [if_neg (show ¬ (1 ≤ x ∧ x ≤ m) by omega)], fun _ => u2 x y (by omega) hy⟩⟩ (tp_F_pos (by omega))
    rintro rec2 z M2 ⟨v, rfl, v1, v2, f2, v3⟩ hrec2
    have e0 : M2 0 = M 0 := f2 0 (by simp)
    have e2 : M2 2 = M 2 := f2 2 (by simp)
    unfold fx_X11_laysMatrix_L54
    rw [w32_id (show -2147483648 ≤ (v : Int) ∧ (v : Int) < 2147483648 by omega), e0, w32_id (show -2147483648 ≤ M 0 3 ∧ M 0 3 < 2147483648 by omega), w32_id (show -2147483648 ≤ b ∧ b < 2147483648 by omega)]
    by_cases hv : v ≤ m
    · rw [if_pos (by omega)]
      refine wp_jn0 ?_
      have next : ∀ M3 : tp_M, tp_fr [21] M M3 → (∀ x y : Nat, x < 8 → y < 8 → ¬ x = v → M3 21 (8 * (x : Int) + (y : Int)) = M2 21 (8 * (x : Int) + (y : Int))) → (∀ y : Nat, y < 8 → M3 21 (8 * (v : Int) + (y : Int)) = lpM p m (nD (M 2)) (nG (M 3)) v y) → wp (tp_lt ((v : Int) + 1) (fun x22 => rec2 x22 M3)) Q := fun M3 f3 b1 b2 => by
        refine wp_lt ?_
        refine hrec2 _ _ ⟨v + 1, by omega, by omega, by omega, f3, fun x y hx hy => ?_⟩ (by omega)
        by_cases e : x = v
        · rw [e]
          exact ⟨fun _ => b2 y hy, fun h => by omega⟩
        · rw [b1 x y hx hy e]
          exact ⟨fun h => (v3 x y hx hy).1 (by omega), fun h => (v3 x y hx hy).2 (by omega)⟩
      by_cases hvp : v = p
      · rw [if_pos ((hb3 (v : Int) (by omega)).mpr (by omega))]; (try dsimp only)
        refine next M2 f2 (fun _ _ _ _ _ => rfl) (fun y hy => ?_)
        rw [(v3 v y (by omega) hy).2 (Nat.le_refl v)]
        unfold lpM
        rw [if_pos (show 1 ≤ v ∧ v ≤ m from ⟨v1, hv⟩)]
        unfold lpR
        rw [if_pos (show v - 1 + 1 = p by omega)]
        by_cases y0 : y = 0
        · rw [if_pos y0, if_neg (by omega)]
        · rw [if_neg y0]
          by_cases e : v = y
          · rw [if_pos e, if_pos (by omega)]
          · rw [if_neg e, if_neg (by omega)]
      · rw [if_neg (fun q => hvp (by have := (hb3 (v : Int) (by omega)).mp q; omega)), pm_cell, tp_bd_s, w32_id (show -2147483648 ≤ 8 * (v : Int) + (v : Int) ∧ 8 * (v : Int) + (v : Int) < 2147483648 by omega), e2]
        obtain ⟨d1, d4, dE⟩ := hD (v - 1) (by omega)
        rw [show ((v - 1 : Nat) : Int) + 1 = (v : Int) by omega] at dE
        refine wp_ck (by omega) ?_
        refine wp_ck (by omega) ?_
        refine wp_lm ?_
        refine wp_lt ?_
        rw [w32_id (show -2147483648 ≤ M 2 (v : Int) ∧ M 2 (v : Int) < 2147483648 by omega)]
        refine wp_lp1 (fun z M3 => ∃ t : Nat, z = (t : Int) ∧ t ≤ nD (M 2) (v - 1) ∧ tp_fr [21] M M3 ∧ (∀ x y : Nat, x < 8 → y < 8 → ¬ x = v → M3 21 (8 * (x : Int) + (y : Int)) = M2 21 (8 * (x : Int) + (y : Int))) ∧ ∀ y : Nat, y < 8 → M3 21 (8 * (v : Int) + (y : Int)) = (if v = y then ((nD (M 2) (v - 1) : Nat) : Int) else 0) - dt_sum (lpQ p v y (M 3)) t) (fun z _ => (9 - z).toNat) ?_ tp_F 0 _ ⟨0, rfl, by omega, fr_up f2 (by simp), fun x y hx hy e => up_j _ _ _ (by omega), fun y hy => ?_⟩ (tp_F_pos (by omega))
        · rintro rec3 z M3 ⟨t, rfl, t1, f3, t2, t3⟩ hrec3
          have e3 : M3 2 = M 2 := f3 2 (by simp)
          have e4 : M3 3 = M 3 := f3 3 (by simp)
          unfold fx_X11_laysMatrix_L86
          rw [e3, w32_id (show -2147483648 ≤ (v : Int) ∧ (v : Int) < 2147483648 by omega), w32_id (show -2147483648 ≤ (t : Int) ∧ (t : Int) < 2147483648 by omega), w32_id (show -2147483648 ≤ M 2 (v : Int) ∧ M 2 (v : Int) < 2147483648 by omega)]
          refine wp_ck (by omega) ?_
          by_cases ht : (t : Int) < M 2 (v : Int)
          · have hg := (hn.2 (v : Int) (by omega) (by omega)).2 (t : Int) (by omega) ht
            rw [if_pos ht, pm_goalOf (by omega), tp_bd_s, e4]
            generalize hgE : M 3 (4 * (v : Int) + (t : Int)) = ge at *
            obtain ⟨gN, rfl⟩ : ∃ gN : Nat, ge = (gN : Int) := ⟨ge.toNat, by omega⟩
            refine wp_lt ?_
            rw [pm_cell, tp_bd_s, w32_id (show -2147483648 ≤ 8 * (v : Int) + (gN : Int) ∧ 8 * (v : Int) + (gN : Int) < 2147483648 by omega), w32_id (show -2147483648 ≤ (gN : Int) ∧ (gN : Int) < 2147483648 by omega), w32_id (show -2147483648 ≤ b ∧ b < 2147483648 by omega)]
            refine wp_ck (by omega) ?_
            refine wp_jn1 ?_
            refine wp_jn0 ?_
            have nx : ∀ e : Int, (e = if 0 < gN ∧ ¬ gN = p then 1 else 0) → wp (tp_bd (fx_X11_flag e M3) (fun r36 M37 => tp_ck (8 * (v : Int) + (gN : Int)) 64 (tp_lm (tp_up M37 21 (8 * (v : Int) + (gN : Int)) (M3 21 (8 * (v : Int) + (gN : Int)) - w32 r36)) (fun M38 => tp_lt ((t : Int) + 1) (fun x39 => rec3 x39 M38))))) Q := fun e he => by
              have e2 : e = 0 ∨ e = 1 := by rw [he]; split <;> omega
              have hfl : fx_X11_flag e M3 = some (e, M3) := by rcases e2 with rfl | rfl <;> rfl
              have hw : w32 e = e := by rcases e2 with rfl | rfl <;> rfl
              rw [hfl, tp_bd_s, hw]
              refine wp_ck (by omega) ?_
              refine wp_lm ?_
              refine wp_lt ?_
              refine hrec3 _ _ ⟨t + 1, by omega, by omega, fr_up f3 (by simp), fun x y hx hy hxv => ?_, fun y hy => ?_⟩ (by omega)
              · rw [up_j _ _ _ (by omega)]; exact t2 x y hx hy hxv
              · show _ = (if v = y then ((nD (M 2) (v - 1) : Nat) : Int) else 0) - (dt_sum (lpQ p v y (M 3)) t + lpQ p v y (M 3) t)
                have eq : lpQ p v y (M 3) t = if gN = y ∧ 0 < y ∧ ¬ y = p then 1 else 0 := by
                  unfold lpQ
                  rw [hgE]
                  by_cases q : gN = y ∧ 0 < y ∧ ¬ y = p
                  · rw [if_pos q, if_pos ⟨by omega, q.2⟩]
                  · rw [if_neg q, if_neg (fun w => q ⟨by omega, w.2⟩)]
                rw [up_c, eq]
                by_cases q : y = gN
                · rw [if_pos (by omega), ← q, t3 y hy, he, ← q]
                  by_cases q2 : 0 < y ∧ ¬ y = p
                  · rw [if_pos q2, if_pos (show y = y ∧ 0 < y ∧ ¬ y = p from ⟨rfl, q2⟩)]; omega
                  · rw [if_neg q2, if_neg (show ¬ (y = y ∧ 0 < y ∧ ¬ y = p) from fun w => q2 w.2)]; omega
                · rw [if_neg (by omega), t3 y hy, if_neg (show ¬ (gN = y ∧ 0 < y ∧ ¬ y = p) from fun w => q w.1.symm)]; omega
            by_cases c1 : (gN : Int) ≤ 0
            · rw [if_pos c1]
              exact nx 0 (by rw [if_neg (by omega)])
            · rw [if_neg c1]
              by_cases c2 : gN = p
              · rw [if_pos ((hb3 (gN : Int) (by omega)).mpr (by omega))]
                exact nx 0 (by rw [if_neg (by omega)])
              · rw [if_neg (fun q => c2 (by have := (hb3 (gN : Int) (by omega)).mp q; omega))]
                exact nx 1 (by rw [if_pos ⟨by omega, c2⟩])
          · rw [if_neg ht]; (try dsimp only)
            refine next M3 f3 t2 (fun y hy => ?_)
            rw [t3 y hy, lpM_row ⟨v1, hv⟩ hvp, show t = nD (M 2) (v - 1) by omega]
        · rw [up_c]
          show _ = (if v = y then ((nD (M 2) (v - 1) : Nat) : Int) else 0) - 0
          by_cases e : v = y
          · rw [if_pos (by omega), if_pos e, dE]; omega
          · rw [if_neg (by omega), if_neg e, (v3 v y (by omega) hy).2 (Nat.le_refl v), if_neg e]; rfl
    · rw [if_neg (by omega)]
      refine wp_some (hQ _ _ ⟨f2, fun x y hx hy => ?_⟩)
      by_cases e : x < v
      · exact (v3 x y hx hy).1 e
      · rw [(v3 x y hx hy).2 (by omega)]
        unfold lpM
        rw [if_neg (show ¬ (1 ≤ x ∧ x ≤ m) by omega)]
end PL
