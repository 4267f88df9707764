/-! MEETS -/
theorem x_ldiv_1 {a : Int} (ha : 0 < a ∧ a < 9000000000000000000) : x_ldiv a a = 1 := by
  rw [x_ldiv_nn (by omega) (by omega), Int.ediv_self (by omega)]
theorem eg_1 (a : Int) : eg 1 a a := Or.inr (show a % a = 0 from Int.emod_self)
theorem eu_1 (a : Int) : eu 1 a a = a := by
  show (if a = 0 then a else a) = a
  split <;> rfl
theorem cs_frac1 {a : Int} (ha : 0 < a ∧ a < 9000000000000000000) (C : tp_M) : fx_X0_tellFraction a a C = some (0, tp_up (tp_up C 40 3 1) 40 4 1) := by
  have hg : ¬ x_lcmp a 0 = 0 := fun q => by have := (x_lcmp_z (b := a) (by omega)).mp q; omega
  have hg2 : ¬ w64 a = 0 := by rw [w64_i (by omega)]; omega
  unfold fx_X0_tellFraction
  rw [tp_lt_s, tp_lt_s, tp_lt_s, cs_cm 1 tp_F a a 0 C (by omega) (by omega) (eg_1 a) (tp_F_pos (by omega)) (by omega) (by omega), eu_1]
  simp only [tp_jn1_n, tp_lm_n, if_neg hg, tp_nz_t hg2, x_ldiv_1 ha]
theorem ps_frac1 (M : tp_M) : fx_X11_entersFraction 1 1 M = some (0, tp_up (tp_up (tp_up (tp_up (tp_up M 0 1 0) 1 0 1) 0 1 (0 + 1)) 1 (0 + 1) 1) 0 1 (0 + 1 + 1)) := by
  have hc : fx_X11_common 1 1 M = some (eu 1 1 1, M) := ps_cm 1 200 1 1 M (by omega) (by omega) (eg_1 1) (by omega)
  unfold fx_X11_entersFraction
  rw [hc, tp_bd_s, tp_lt_s, tp_lm_s, eu_1]
  have hg2 : ¬ w64 1 = 0 := by decide
  rw [tp_nz_t hg2, x_ldiv_1 (by omega), (pm_enter2 (b := 0) (up_s _ _ _ _)).1, tp_bd_s, tp_nz_t hg2, (pm_enter2 (b := 1) (up_s _ _ _ _)).2, tp_bd_s]
theorem lpLC_self {D : Nat → Nat} {g : Nat → Nat → Int} {m c : Nat} (hc : c < m) : dt_det m (lpLC (c + 1) c D g) = dt_det m (lpL (c + 1) D g) := by
  rw [← det_lpR (p := c + 1) (by omega)]
  refine det_cg (fun i j _ _ => ?_)
  unfold lpLC lpR lprh
  by_cases e1 : i = c
  · subst e1
    by_cases e2 : j = i
    · rw [if_pos e2, if_neg (show ¬ i + 1 = 0 by omega), if_pos (show i + 1 = i + 1 from rfl), if_pos (show i + 1 = i + 1 from rfl), if_pos e2.symm]
    · rw [if_neg e2, if_pos (show i + 1 = i + 1 from rfl), lpL_p]
  · rw [if_neg (show ¬ i + 1 = c + 1 by omega), if_neg (show ¬ i + 1 = c + 1 by omega)]
    by_cases e2 : j = c
    · rw [if_pos e2, if_neg (show ¬ c + 1 = 0 by omega), if_pos (show j + 1 = c + 1 by omega)]
    · rw [if_neg e2, if_neg (show ¬ j + 1 = c + 1 by omega)]
section ST
variable {B : Int} {C M : tp_M} {a1 a2 : Int}
theorem ps_meets {m c p : Nat} {x y dn up : Int} (hn : nt_net (M 0 3) (M 2) (M 3)) (hm : (M 0 3 - 1).toNat = m) (hc : c < m) (hp : 1 ≤ p ∧ p ≤ m) (hcp : ¬ c + 1 = p) (hdn : dn = dt_det m (lpL p (nD (M 2)) (nG (M 3)))) (hup : up = dt_det m (lpLC p c (nD (M 2)) (nG (M 3))))
    (hF : ∀ M : tp_M, fx_X11_entersFraction up dn M = some (0, tp_up (tp_up (tp_up (tp_up (tp_up M 0 1 0) 1 0 x) 0 1 (0 + 1)) 1 (0 + 1) y) 0 1 (0 + 1 + 1))) :
    wp (fx_X11_meets ((c : Int) + 1) (p : Int) M) (fun r M1 => tp_fr [0, 1, 21] M M1 ∧ (∀ j : Int, ¬ j = 0 → ¬ j = 1 → ¬ j = 36 → M1 0 j = M 0 j) ∧ tdM M1 2 (fun j => if j = 0 then x else y) ∧ r = 0) := by
  have n8 := hn.1
  have hD := nt_D hn hm
  have hD2 : ∀ i : Nat, i < m → 1 ≤ nD (M 2) i ∧ nD (M 2) i ≤ 4 := fun i hi => ⟨(hD i hi).1, (hD i hi).2.1⟩
  refine wp_K (fun Q hQ => ?_)
  unfold fx_X11_meets
  refine wp_lm ?_
  rw [pm_isOut (M := tp_up M 0 0 0) (n := M 0 3) rfl (by omega) (by unfold pu_in; omega), if_pos (show 1 ≤ (c : Int) + 1 ∧ (c : Int) + 1 ≤ M 0 3 - 1 by omega), tp_bd_s, if_neg (show ¬ w32 1 = 0 by decide), pm_isOut (M := tp_up M 0 0 0) (n := M 0 3) rfl (by omega) (by unfold pu_in; omega), if_pos (show 1 ≤ (p : Int) ∧ (p : Int) ≤ M 0 3 - 1 by omega), tp_bd_s, if_neg (show ¬ w32 1 = 0 by decide), w32_id (show -2147483648 ≤ (c : Int) + 1 ∧ (c : Int) + 1 < 2147483648 by omega), w32_id (show -2147483648 ≤ (p : Int) ∧ (p : Int) < 2147483648 by omega), if_neg (show ¬ (c : Int) + 1 = (p : Int) by omega)]
  have lays : ∀ (M1 : tp_M), tp_fr [0, 21] M M1 → (∀ j : Int, ¬ j = 0 → ¬ j = 36 → M1 0 j = M 0 j) → wp (fx_X11_laysMatrix (p : Int) M1) (fun _ M2 => tp_fr [21] M1 M2 ∧ ∀ x y : Nat, x < 8 → y < 8 → M2 21 (8 * (x : Int) + (y : Int)) = lpM p m (nD (M 2)) (nG (M 3)) x y) := fun M1 f f0 => by
    have e3 : M1 0 3 = M 0 3 := f0 3 (by decide) (by decide)
    have e2 : M1 2 = M 2 := f 2 (by simp)
    have e4 : M1 3 = M 3 := f 3 (by simp)
    have := ps_lays (M := M1) (m := m) (p := p) (b := (p : Int)) (by rw [e3, e2, e4]; exact hn) (by rw [e3]; exact hm) (by rw [if_neg (show ¬ p = 0 by omega)]) (by omega)
    rw [e2, e4] at this
    exact this
  refine wp_call (lays _ (fr_up fr_rf (by simp)) (fun j a _ => up_j _ _ _ a)) (fun _ M2 w => ?_)
  obtain ⟨w1, w2⟩ := w
  refine wp_call (ps_determinant (M := M2) (A0 := lpM p m (nD (M 2)) (nG (M 3))) w2 (fun x y _ _ => lpM_bd hD2 x y)) (fun r M3 w => ?_)
  obtain ⟨w3, w4, rfl⟩ := w
  rw [det_lpM (by omega) (by omega), ← hdn]
  have f3 : tp_fr [0, 21] M M3 := fr_tr (fr_tr (fr_up fr_rf (by simp)) (fr_mono w1 (by simp))) w3
  have g3 : ∀ j : Int, ¬ j = 0 → ¬ j = 36 → M3 0 j = M 0 j := fun j a b => by rw [w4 j b, w1 0 (by simp), up_j _ _ _ a]
  refine wp_lt ?_
  refine wp_call (lays M3 f3 g3) (fun _ M4 w => ?_)
  obtain ⟨w5, w6⟩ := w
  have f4 : tp_fr [0, 21] M M4 := fr_tr f3 (fr_mono w5 (by simp))
  have g4 : ∀ j : Int, ¬ j = 0 → ¬ j = 36 → M4 0 j = M 0 j := fun j a b => by rw [w5 0 (by simp), g3 j a b]
  clear lays
  refine wp_lt ?_
  refine wp_lp1 (fun z M5 => ∃ u : Nat, z = (u : Int) ∧ u ≤ 8 ∧ tp_fr [0, 21] M M5 ∧ (∀ j : Int, ¬ j = 0 → ¬ j = 36 → M5 0 j = M 0 j) ∧ ∀ x y : Nat, x < 8 → y < 8 → M5 21 (8 * (x : Int) + (y : Int)) = if x < u then lpM2 p m c (nD (M 2)) (nG (M 3)) x y else lpM p m (nD (M 2)) (nG (M 3)) x y) (fun z _ => (9 - z).toNat) ?_ tp_F 0 M4 ⟨0, rfl, by omega, f4, g4, fun x y hx hy => by rw [if_neg (Nat.not_lt_zero x)]; exact w6 x y hx hy⟩ (tp_F_pos (by omega))
  rintro rec z M5 ⟨u, rfl, u1, f5, g5, u2⟩ hrec
  unfold fx_X11_meets_L53
  rw [w32_id (show -2147483648 ≤ (u : Int) ∧ (u : Int) < 2147483648 by omega)]
  by_cases hu : u < 8
  · rw [if_pos (by omega), pm_cell, tp_bd_s, w32_id (show -2147483648 ≤ 8 * (u : Int) + ((c : Int) + 1) ∧ 8 * (u : Int) + ((c : Int) + 1) < 2147483648 by omega)]
    refine wp_ck (by omega) ?_
    refine wp_lm ?_
    refine wp_lt ?_
    have next : ∀ M6 : tp_M, tp_fr [21] M5 M6 → (∀ x y : Nat, x < 8 → y < 8 → ¬ (x = u ∧ y = c + 1) → M6 21 (8 * (x : Int) + (y : Int)) = M5 21 (8 * (x : Int) + (y : Int))) → M6 21 (8 * (u : Int) + ((c : Int) + 1)) = lpM2 p m c (nD (M 2)) (nG (M 3)) u (c + 1) → wp (tp_lt ((u : Int) + 1) (fun x33 => rec x33 M6)) Q := fun M6 f6 b1 b2 => by
      refine wp_lt ?_
      refine hrec _ _ ⟨u + 1, by omega, by omega, fr_tr f5 (fr_mono f6 (by simp)), fun j a b => by rw [f6 0 (by simp)]; exact g5 j a b, fun x y hx hy => ?_⟩ (by omega)
      by_cases q : x = u ∧ y = c + 1
      · rw [q.1, q.2, if_pos (show u < u + 1 by omega), show ((c + 1 : Nat) : Int) = (c : Int) + 1 by omega]
        exact b2
      · rw [b1 x y hx hy q, u2 x y hx hy]
        by_cases q1 : x < u
        · rw [if_pos q1, if_pos (show x < u + 1 by omega)]
        · rw [if_neg q1]
          by_cases q2 : x = u
          · rw [if_pos (show x < u + 1 by omega)]
            unfold lpM2
            rw [if_neg (show ¬ y = c + 1 by omega)]
          · rw [if_neg (show ¬ x < u + 1 by omega)]
    have fS : tp_fr [21] M5 (tp_up M5 21 (8 * (u : Int) + ((c : Int) + 1)) 0) := fr_up fr_rf (by simp)
    have bS : ∀ x y : Nat, x < 8 → y < 8 → ¬ (x = u ∧ y = c + 1) → tp_up M5 21 (8 * (u : Int) + ((c : Int) + 1)) 0 21 (8 * (x : Int) + (y : Int)) = M5 21 (8 * (x : Int) + (y : Int)) := fun x y hx hy q => up_j _ _ _ (by omega)
    have cS : tp_up M5 21 (8 * (u : Int) + ((c : Int) + 1)) 0 21 (8 * (u : Int) + ((c : Int) + 1)) = 0 := up_s _ _ _ _
    generalize tp_up M5 21 (8 * (u : Int) + ((c : Int) + 1)) 0 = M6 at *
    by_cases hr : (1 ≤ u ∧ u ≤ m) ∧ ¬ u = p
    · obtain ⟨d1, d4, dE⟩ := hD (u - 1) (by omega)
      rw [show ((u - 1 : Nat) : Int) + 1 = (u : Int) by omega] at dE
      refine wp_lp1 (fun z M7 => ∃ t : Nat, z = (t : Int) ∧ t ≤ nD (M 2) (u - 1) ∧ tp_fr [21] M5 M7 ∧ (∀ x y : Nat, x < 8 → y < 8 → ¬ (x = u ∧ y = c + 1) → M7 21 (8 * (x : Int) + (y : Int)) = M5 21 (8 * (x : Int) + (y : Int))) ∧ M7 21 (8 * (u : Int) + ((c : Int) + 1)) = dt_sum (fun k => if nG (M 3) (u - 1) k = (p : Int) - 1 then 1 else 0) t) (fun z _ => (9 - z).toNat) ?_ tp_F 0 M6 ⟨0, rfl, by omega, fS, bS, cS⟩ (tp_F_pos (by omega))
      rintro rec2 z M7 ⟨t, rfl, t1, f7, t2, t3⟩ hrec2
      have e0 : M7 0 3 = M 0 3 := by rw [f7 0 (by simp)]; exact g5 3 (by decide) (by decide)
      have e2 : M7 2 = M 2 := by rw [f7 2 (by simp), f5 2 (by simp)]
      have e4 : M7 3 = M 3 := by rw [f7 3 (by simp), f5 3 (by simp)]
      unfold fx_X11_meets_L75
      rw [e0, e2, w32_id (show -2147483648 ≤ (u : Int) ∧ (u : Int) < 2147483648 by omega), w32_id (show -2147483648 ≤ (t : Int) ∧ (t : Int) < 2147483648 by omega), w32_id (show -2147483648 ≤ M 2 (u : Int) ∧ M 2 (u : Int) < 2147483648 by omega), w32_id (show -2147483648 ≤ (p : Int) ∧ (p : Int) < 2147483648 by omega), w32_id (show -2147483648 ≤ M 0 3 ∧ M 0 3 < 2147483648 by omega)]
      refine wp_ck (by omega) ?_
      by_cases ht : (t : Int) < M 2 (u : Int)
      · have hg := (hn.2 (u : Int) (by omega) (by omega)).2 (t : Int) (by omega) ht
        rw [if_pos ht, if_neg (show ¬ (u : Int) ≤ 0 by omega), if_pos (show (u : Int) < M 0 3 by omega), if_neg (show ¬ (u : Int) = (p : Int) by omega), pm_cell, tp_bd_s, w32_id (show -2147483648 ≤ 8 * (u : Int) + ((c : Int) + 1) ∧ 8 * (u : Int) + ((c : Int) + 1) < 2147483648 by omega)]
        refine wp_ck (by omega) ?_
        rw [pm_goalOf (by omega), tp_bd_s, e4]
        have hgE : nG (M 3) (u - 1) t = M 3 (4 * (u : Int) + (t : Int)) - 1 := by
          unfold nG
          rw [show ((u - 1 : Nat) : Int) + 1 = (u : Int) by omega]
        generalize M 3 (4 * (u : Int) + (t : Int)) = ge at *
        rw [w32_id (show -2147483648 ≤ ge ∧ ge < 2147483648 by omega)]
        refine wp_jn1 ?_
        have nx : ∀ e : Int, (e = if nG (M 3) (u - 1) t = (p : Int) - 1 then 1 else 0) → wp (tp_bd (fx_X11_flag e M7) (fun r28 M29 => tp_ck (8 * (u : Int) + ((c : Int) + 1)) 64 (tp_lm (tp_up M29 21 (8 * (u : Int) + ((c : Int) + 1)) (M7 21 (8 * (u : Int) + ((c : Int) + 1)) + w32 r28)) (fun M30 => tp_lt ((t : Int) + 1) (fun x31 => rec2 x31 M30))))) Q := fun e he => by
          have e2 : e = 0 ∨ e = 1 := by rw [he]; split <;> omega
          have hfl : fx_X11_flag e M7 = some (e, M7) := by rcases e2 with rfl | rfl <;> rfl
          have hw : w32 e = e := by rcases e2 with rfl | rfl <;> rfl
          rw [hfl, tp_bd_s, hw]
          refine wp_ck (by omega) ?_
          refine wp_lm ?_
          refine wp_lt ?_
          refine hrec2 _ _ ⟨t + 1, by omega, by omega, fr_up f7 (by simp), fun x y hx hy q => ?_, ?_⟩ (by omega)
          · rw [up_j _ _ _ (by omega)]; exact t2 x y hx hy q
          · rw [up_s, t3, he]
            rfl
        by_cases q : ge = (p : Int)
        · rw [if_pos q]
          exact nx 1 (by rw [if_pos (by omega)])
        · rw [if_neg q]
          exact nx 0 (by rw [if_neg (by omega)])
      · rw [if_neg ht]; (try dsimp only)
        refine next M7 f7 t2 ?_
        rw [t3, show t = nD (M 2) (u - 1) by omega]
        unfold lpM2 lprc lpw
        rw [if_pos rfl, if_pos hr.1, if_neg (show ¬ p = 0 by omega), if_neg (show ¬ u - 1 + 1 = p by omega)]
    · have once : ∀ k : Nat, 1 ≤ k → ∀ K : tp_M → tp_O, tp_lp1 (fx_X11_meets_L75 ((c : Int) + 1) (p : Int) dn (u : Int) K) k 0 M6 = K M6 := fun k hk K => by
        obtain ⟨k, rfl⟩ : ∃ b, k = b + 1 := ⟨k - 1, by omega⟩
        have e0 : M6 0 3 = M 0 3 := by rw [fS 0 (by simp)]; exact g5 3 (by decide) (by decide)
        rw [tp_lp1_s]
        unfold fx_X11_meets_L75
        rw [e0, w32_id (show -2147483648 ≤ (u : Int) ∧ (u : Int) < 2147483648 by omega), w32_id (show -2147483648 ≤ (p : Int) ∧ (p : Int) < 2147483648 by omega), w32_id (show -2147483648 ≤ M 0 3 ∧ M 0 3 < 2147483648 by omega), tp_ck_t (by omega)]
        by_cases q1 : w32 0 < w32 (M6 2 (u : Int))
        · rw [if_pos q1]
          by_cases q2 : (u : Int) ≤ 0
          · rw [if_pos q2]
          · rw [if_neg q2]
            by_cases q3 : (u : Int) < M 0 3
            · rw [if_pos q3, if_pos (show (u : Int) = (p : Int) by omega)]
            · rw [if_neg q3]
        · rw [if_neg q1]
      rw [once tp_F (by unfold tp_F; omega)]
      refine next M6 fS bS ?_
      rw [cS]
      unfold lpM2
      rw [if_pos rfl]
      by_cases q : 1 ≤ u ∧ u ≤ m
      · rw [if_pos q]
        unfold lprc
        rw [if_neg (show ¬ p = 0 by omega), if_pos (show u - 1 + 1 = p by omega)]
      · rw [if_neg q]
  · rw [if_neg (by omega)]; (try dsimp only)
    refine wp_call (ps_determinant (M := M5) (A0 := lpM2 p m c (nD (M 2)) (nG (M 3))) (fun x y hx hy => by rw [u2 x y hx hy, if_pos (by omega)]) (fun x y _ _ => lpM2_bd hD2 x y)) (fun r M6 w => ?_)
    obtain ⟨w7, w8, rfl⟩ := w
    rw [det_lpM2 (by omega) (by omega) hc hcp, ← hup, hF, tp_bd_s]
    have f6 := fr_tr f5 w7
    refine wp_some (hQ _ _ ⟨?_, fun j a b d => ?_, td_2M _ _ _, rfl⟩)
    · exact fr_up (fr_up (fr_up (fr_up (fr_up (fr_mono f6 (by simp)) (by simp)) (by simp)) (by simp)) (by simp)) (by simp)
    · rw [up_j _ _ _ b, up_k _ _ _ (by decide), up_j _ _ _ b, up_k _ _ _ (by decide), up_j _ _ _ b, w8 j d, g5 j a d]
theorem ps_meets1 {c p : Nat} (h8 : M 0 3 ≤ 8) (hc : (c : Int) + 1 ≤ M 0 3 - 1) (hp : c + 1 = p) : wp (fx_X11_meets ((c : Int) + 1) (p : Int) M) (fun r M1 => tp_fr [0, 1, 21] M M1 ∧ (∀ j : Int, ¬ j = 0 → ¬ j = 1 → ¬ j = 36 → M1 0 j = M 0 j) ∧ tdM M1 2 (fun j => if j = 0 then 1 else 1) ∧ r = 0) := by
  refine wp_K (fun Q hQ => ?_)
  unfold fx_X11_meets
  refine wp_lm ?_
  rw [pm_isOut (M := tp_up M 0 0 0) (n := M 0 3) rfl (by omega) (by unfold pu_in; omega), if_pos (show 1 ≤ (c : Int) + 1 ∧ (c : Int) + 1 ≤ M 0 3 - 1 by omega), tp_bd_s, if_neg (show ¬ w32 1 = 0 by decide), pm_isOut (M := tp_up M 0 0 0) (n := M 0 3) rfl (by omega) (by unfold pu_in; omega), if_pos (show 1 ≤ (p : Int) ∧ (p : Int) ≤ M 0 3 - 1 by omega), tp_bd_s, if_neg (show ¬ w32 1 = 0 by decide), w32_id (show -2147483648 ≤ (c : Int) + 1 ∧ (c : Int) + 1 < 2147483648 by omega), w32_id (show -2147483648 ≤ (p : Int) ∧ (p : Int) < 2147483648 by omega), if_pos (show (c : Int) + 1 = (p : Int) by omega), ps_frac1, tp_bd_s]
  refine wp_some (hQ _ _ ⟨?_, fun j a b d => ?_, td_2M _ _ _, rfl⟩)
  · exact fr_up (fr_up (fr_up (fr_up (fr_up (fr_up fr_rf (by simp)) (by simp)) (by simp)) (by simp)) (by simp)) (by simp)
  · rw [up_j _ _ _ b, up_k _ _ _ (by decide), up_j _ _ _ b, up_k _ _ _ (by decide), up_j _ _ _ b, up_j _ _ _ a]
theorem cs_meets {n : Int} {D G : Int → Int} {m c p : Nat} {x y : Int} (hN : nC C n D G) (hm : (n - 1).toNat = m) (hc : c < m) (hp : 1 ≤ p ∧ p ≤ m) (hdet : 1 ≤ dt_det m (lpL p (nD D) (nG G)))
    (hF : ∀ C : tp_M, fx_X0_tellFraction (dt_det m (lpLC p c (nD D) (nG G))) (dt_det m (lpL p (nD D) (nG G))) C = some (0, tp_up (tp_up C 40 3 x) 40 4 y)) :
    wp (fx_X10_meets ((c : Int) + 1) (p : Int) C) (fun r C1 => tp_fr (3 :: 4 :: 40 :: elC) C C1 ∧ tdC C1 2 (fun j => if j = 0 then x else y) ∧ r = 0) := by
  have n8 := cn_n hN
  refine wp_K (fun Q hQ => ?_)
  unfold fx_X10_meets
  rw [cn_hasPost hN (by unfold pu_in; omega), if_pos (show 1 ≤ (c : Int) + 1 ∧ (c : Int) + 1 < n by omega), tp_bd_s, if_neg (show ¬ w32 1 = 0 by decide), cn_hasPost hN (by unfold pu_in; omega), if_pos (show 1 ≤ (p : Int) ∧ (p : Int) < n by omega), tp_bd_s, if_neg (show ¬ w32 1 = 0 by decide)]
  refine wp_call (cs_solve (p := p) (x := x) (y := y) hN hm hc hp.2 hdet hF) (fun _ C1 w => ?_)
  obtain ⟨w1, w2, w3⟩ := w
  rw [w2, w3, pc_tell2, tp_bd_s]
  refine wp_some (hQ _ _ ⟨?_, td_2C _ _ _, rfl⟩)
  exact fr_up (fr_up (fr_up (fr_up (fr_up (fr_mono w1 (by simp)) (by simp)) (by simp)) (by simp)) (by simp)) (by simp)
theorem st_meets (h1 : pu_in a1) (h2 : pu_in a2) (h : Sim B C M) : wp2 (fx_X10_meets a1 a2 C) (fx_X11_meets a1 a2 M) (Ans B) := by
  have hN : nC C (M 0 3) (M 2) (M 3) := h.2.2.1
  have n8 := cn_n hN
  have hn := hN.2.1
  by_cases c1 : 1 ≤ a1 ∧ a1 < M 0 3
  · by_cases c2 : 1 ≤ a2 ∧ a2 < M 0 3
    · generalize hm : (M 0 3 - 1).toNat = m
      have hD := nt_D hn hm
      have hD2 : ∀ i : Nat, i < m → 1 ≤ nD (M 2) i ∧ nD (M 2) i ≤ 4 := fun i hi => ⟨(hD i hi).1, (hD i hi).2.1⟩
      obtain ⟨c, rfl⟩ : ∃ c : Nat, a1 = (c : Int) + 1 := ⟨(a1 - 1).toNat, by omega⟩
      obtain ⟨p, rfl⟩ : ∃ p : Nat, a2 = (p : Int) := ⟨a2.toNat, by omega⟩
      have hc : c < m := by omega
      have hpos := lp_pos (p := p) hn hm (fun v v1 v2 => by
        obtain ⟨d, -, -, h⟩ := hN.2.2.2.2.2 v v1 v2
        exact ⟨d, h⟩)
      have hnum := lp_num (p := p) (g := nG (M 3)) (by omega) hc hD2 hpos
      by_cases hcp : c + 1 = p
      · obtain ⟨r2, M1, em, fm, f0, tm, rfl⟩ := ps_meets1 (M := M) (c := c) (p := p) (by omega) (by omega) hcp
        obtain ⟨r1, C1, ec, fc, tc, rfl⟩ := cs_meets (p := p) (x := 1) (y := 1) hN hm hc (by omega) hpos (fun C => by
          subst hcp
          rw [lpLC_self hc]
          exact cs_frac1 (by omega) C)
        rw [ec, em]
        exact wp2_some (ans_told h (fr_mono fc (by simp)) (fr_mono fm (by simp)) (fun j hj => f0 j (f0_ne hj (by decide)) (f0_ne hj (by decide)) (f0_ne hj (by decide))) rfl ⟨by decide, by decide⟩ tc tm (fun _ _ _ => rfl))
      · obtain ⟨x, y, p1, p2, y0, y1, p3⟩ := w2_frac3 (a := dt_det m (lpLC p c (nD (M 2)) (nG (M 3)))) (b := dt_det m (lpL p (nD (M 2)) (nG (M 3)))) (by omega) (by omega)
        obtain ⟨r2, M1, em, fm, f0, tm, rfl⟩ := ps_meets hn hm hc (by omega) hcp rfl rfl p2
        obtain ⟨r1, C1, ec, fc, tc, rfl⟩ := cs_meets (p := p) (x := x) (y := y) hN hm hc (by omega) hpos p1
        rw [ec, em]
        exact wp2_some (ans_told h (fr_mono fc (by simp)) (fr_mono fm (by simp)) (fun j hj => f0 j (f0_ne hj (by decide)) (f0_ne hj (by decide)) (f0_ne hj (by decide))) rfl ⟨by decide, by decide⟩ tc tm (fun _ _ _ => rfl))
    · unfold fx_X10_meets fx_X11_meets
      refine wp2_lm2 ?_
      rw [cn_hasPost hN h1, pm_isOut (M := tp_up M 0 0 0) (n := M 0 3) rfl (by omega) h1, if_pos c1, if_pos (show 1 ≤ a1 ∧ a1 ≤ M 0 3 - 1 by omega), tp_bd_s, tp_bd_s, show w32 1 = 1 from rfl, if_neg (show ¬ (1 : Int) = 0 by decide), if_neg (show ¬ (1 : Int) = 0 by decide), cn_hasPost hN h2, pm_isOut (M := tp_up M 0 0 0) (n := M 0 3) rfl (by omega) h2, if_neg c2, if_neg (show ¬ (1 ≤ a2 ∧ a2 ≤ M 0 3 - 1) by omega), tp_bd_s, tp_bd_s, show w32 0 = 0 from rfl, if_pos rfl, if_pos rfl]
      exact wp2_some (ans_no h)
  · unfold fx_X10_meets fx_X11_meets
    refine wp2_lm2 ?_
    rw [cn_hasPost hN h1, pm_isOut (M := tp_up M 0 0 0) (n := M 0 3) rfl (by omega) h1, if_neg c1, if_neg (show ¬ (1 ≤ a1 ∧ a1 ≤ M 0 3 - 1) by omega), tp_bd_s, tp_bd_s, show w32 0 = 0 from rfl, if_pos rfl, if_pos rfl]
    exact wp2_some (ans_no h)
end ST
