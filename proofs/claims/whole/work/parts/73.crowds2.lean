/-! CROWDS: the call -/
theorem ps_game {M : tp_M} {c : Int → Int} {a b : Int} (h : sm_cold c) (ha : 0 ≤ a ∧ a ≤ 30) (hb : 0 ≤ b ∧ b ≤ 30) (K : tp_M → tp_O) {Q : Int → tp_M → Prop} (hK : ∀ M1 : tp_M, tp_fr [30] M M1 → (∀ x y : Int, 0 ≤ x → x ≤ a → 0 ≤ y → y ≤ b → (w32 (M1 30 (31 * x + y)) = 0 ↔ c x = y)) → wp (K M1) Q) : wp (tp_lp1 (fx_X11_crowds_L33 a b K) tp_F 0 M) Q := by
  refine wp_lp1 (fun x M1 => (0 ≤ x ∧ x ≤ 31) ∧ tp_fr [30] M M1 ∧ ∀ x2 y2 : Int, 0 ≤ x2 → x2 < x → 0 ≤ y2 → y2 ≤ b → (w32 (M1 30 (31 * x2 + y2)) = 0 ↔ c x2 = y2)) (fun x _ => (31 - x).toNat) ?_ tp_F 0 M ⟨by omega, fr_rf, fun x2 y2 q1 q2 => by omega⟩ (tp_F_pos (by omega))
  intro rec x M1 hI hrec
  obtain ⟨i1, i2, i3⟩ := hI
  unfold fx_X11_crowds_L33
  rw [w32_id (show -2147483648 ≤ x ∧ x < 2147483648 by omega), w32_id (show -2147483648 ≤ a ∧ a < 2147483648 by omega)]
  by_cases hx : x ≤ a
  · rw [if_pos hx]
    refine wp_lt ?_
    refine wp_lp1 (fun y M2 => (0 ≤ y ∧ y ≤ 31) ∧ tp_fr [30] M M2 ∧ (∀ x2 y2 : Int, 0 ≤ x2 → x2 < x → 0 ≤ y2 → y2 ≤ b → (w32 (M2 30 (31 * x2 + y2)) = 0 ↔ c x2 = y2)) ∧ ∀ y2 : Int, 0 ≤ y2 → y2 < y → (w32 (M2 30 (31 * x + y2)) = 0 ↔ c x = y2)) (fun y _ => (31 - y).toNat) ?_ tp_F 0 M1 ⟨by omega, i2, i3, fun y2 q1 q2 => by omega⟩ (tp_F_pos (by omega))
    intro rec2 y M2 hI2 hrec2
    obtain ⟨j1, j2, j3, j4⟩ := hI2
    unfold fx_X11_crowds_L41
    rw [w32_id (show -2147483648 ≤ y ∧ y < 2147483648 by omega), w32_id (show -2147483648 ≤ b ∧ b < 2147483648 by omega)]
    by_cases hy : y ≤ b
    · rw [if_pos hy]
      have hcd := cr_cold h (x := x) (y := y) (by omega) (by omega)
      have hcg : ∀ l r : Int, cr_ok (fun u v => w32 (M2 30 (31 * u + v)) = 0) x y l r ↔ cr_ok (fun u v => c u = v) x y l r := fun l r => cr_cg (fun u w u1 u2 w1 w2 e => by
        by_cases eu : u = x
        · rw [eu]; exact j4 w w1 (by omega)
        · exact j3 u w u1 (by omega) w1 (by omega))
      refine wp_call (ps_move (M := M2) (a := x) (b := y) (by omega) (by omega)) (fun v M3 q => ?_)
      obtain ⟨hM3, q⟩ := q
      subst M3
      refine wp_jn1 ?_
      have fin : ∀ e : Int, e = 0 ∨ e = 1 → (e = 0 ↔ c x = y) → wp (tp_gd (w32 e = 0 ∨ w32 e = 1) inferInstance (tp_ck (w32 ((31 * x) + y)) 961 (tp_lm (tp_up M2 30 (w32 ((31 * x) + y)) e) (fun M16 => tp_lt (y + 1) (fun x17 => rec2 x17 M16))))) Q := fun e e1 e2 => by
        have ew : w32 e = e := by rcases e1 with rfl | rfl <;> rfl
        rw [tp_gd_t (by rw [ew]; exact e1), w32_id (show -2147483648 ≤ 31 * x + y ∧ 31 * x + y < 2147483648 by omega)]
        refine wp_ck (by omega) ?_
        refine wp_lm ?_
        refine wp_lt ?_
        refine hrec2 _ _ ⟨by omega, fr_up j2 (by simp), fun x2 y2 x1 x3 y1 y3 => ?_, fun y2 y1 y3 => ?_⟩ (by omega)
        · rw [up_c, if_neg (by omega)]
          exact j3 x2 y2 x1 x3 y1 y3
        · rw [up_c]
          by_cases ey : y2 = y
          · rw [if_pos (by omega), ew, ey]; exact e2
          · rw [if_neg (by omega)]; exact j4 y2 y1 (by omega)
      rcases q with ⟨rfl, q⟩ | ⟨l, r, rfl, q⟩
      · rw [show w32 (-1) = -1 from rfl, if_pos (show (-1 : Int) ≤ 0 by decide)]
        exact fin 0 (Or.inl rfl) ⟨fun _ => hcd.mpr (fun l r k => q l r ((hcg l r).mpr k)), fun _ => rfl⟩
      · have q1 := q.1.1
        have q2 := q.1.2.1
        rw [w32_id (show -2147483648 ≤ 31 * l + r ∧ 31 * l + r < 2147483648 by omega), if_neg (show ¬ 31 * l + r ≤ 0 by omega)]
        exact fin 1 (Or.inr rfl) ⟨fun k => absurd k (by decide), fun k => absurd ((hcg l r).mp q.1) (hcd.mp k l r)⟩
    · rw [if_neg hy]
      refine wp_lt ?_
      refine hrec _ _ ⟨by omega, j2, fun x2 y2 q1 q2 q3 q4 => ?_⟩ (by omega)
      by_cases e : x2 = x
      · rw [e]; exact j4 y2 q3 (by omega)
      · exact j3 x2 y2 q1 (by omega) q3 q4
  · rw [if_neg hx]
    exact hK M1 i2 (fun x2 y2 q1 q2 q3 q4 => i3 x2 y2 q1 (by omega) q3 q4)
section ST
variable {B : Int} {C M : tp_M} {a1 a2 a3 : Int}
theorem st_crowds (h1 : pu_in a1) (h2 : pu_in a2) (h : Sim B C M) : wp2 (fx_X10_crowds a1 a2 C) (fx_X11_crowds a1 a2 M) (Ans B) := by
  have hcold : sm_cold (C 63) := h.2.2.2.2.2.2.2.2.2
  have p1 := h1
  have p2 := h2
  unfold pu_in at p1 p2
  unfold fx_X10_crowds fx_X11_crowds
  refine wp2_lm2 ?_
  rw [w32_id (a := a1) p1, w32_id (a := a2) p2, pm_in h1 (by unfold pu_in; omega) (by unfold pu_in; omega), tp_bd_s]
  by_cases c1 : 0 ≤ a1 ∧ a1 ≤ 30
  · rw [if_neg (show ¬ a1 < 0 by omega), if_pos c1.2, if_pos c1, show w32 1 = 1 from rfl, if_neg (show ¬ (1 : Int) = 0 by decide), pm_in h2 (by unfold pu_in; omega) (by unfold pu_in; omega), tp_bd_s]
    by_cases c2 : 0 ≤ a2 ∧ a2 ≤ 30
    · rw [if_neg (show ¬ a2 < 0 by omega), if_pos c2.2, if_pos c2, show w32 1 = 1 from rfl, if_neg (show ¬ (1 : Int) = 0 by decide), pc_tell, tp_bd_s]
      have hcd := cr_cold hcold c1 c2
      refine wp2_of (P1 := fun r C1 => (r = 0 ∧ C 63 a1 = a2 ∧ C1 = tp_up C 3 1 0) ∨ ∃ l q : Int, r = 1 ∧ cr_first (fun u v => C 63 u = v) a1 a2 l q ∧ C1 = tp_up (tp_up (tp_up (tp_up (tp_up (tp_up C 3 1 0) 3 1 0) 4 0 (w32 l)) 3 1 1) 4 1 (w32 q)) 3 1 2) (P2 := fun r M1 => tp_fr [0, 1, 30] M M1 ∧ sc_F M M1 ∧ ((r = 0 ∧ C 63 a1 = a2 ∧ M1 0 1 = 0) ∨ ∃ l q : Int, r = 1 ∧ cr_first (fun u v => C 63 u = v) a1 a2 l q ∧ tdM M1 2 (fun j => if j = 0 then w32 l else w32 q))) ?_ ?_ (fun r1 C1 r2 M1 q1 q2 => ?_)
      · have hc := cs_cold (C := tp_up C 3 1 0) (x := a1) (y := a2) hcold (up_k _ _ _ (by decide)) c1 c2
        by_cases cc : C 63 a1 = a2
        · rw [hc.1 cc, tp_bd_s, show w32 1 = 1 from rfl, if_neg (show ¬ (1 : Int) = 0 by decide)]
          exact wp_some (Or.inl ⟨rfl, cc, rfl⟩)
        · rw [hc.2 cc, tp_bd_s, show w32 0 = 0 from rfl, if_pos (show (0 : Int) = 0 from rfl)]
          refine wp_lt ?_
          refine cs_game (C := tp_up C 3 1 0) hcold (up_k _ _ _ (by decide)) c1 c2 _ (fun l r q => ?_) (fun q => absurd (hcd.mpr q) cc)
          rw [pc_tell2, tp_bd_s]
          exact wp_some (Or.inr ⟨l, r, rfl, q, rfl⟩)
      · refine wp_lt ?_
        refine ps_game hcold c1 c2 _ (fun M2 f t => ?_)
        have hcg : ∀ l r : Int, cr_ok (fun u v => w32 (M2 30 (31 * u + v)) = 0) a1 a2 l r ↔ cr_ok (fun u v => C 63 u = v) a1 a2 l r := fun l r => cr_cg (fun u w u1 u2 w1 w2 e => t u w u1 u2 w1 w2)
        have f0 : tp_fr [0, 1, 30] M M2 := fr_tr (fr_up fr_rf (by simp)) (fr_mono f (by simp))
        have s0 : sc_F M M2 := fun j hj => by rw [f 0 (by simp), up_j _ _ _ (f0_ne hj (by decide))]
        refine wp_call (ps_move (M := M2) c1 c2) (fun v M3 q => ?_)
        obtain ⟨hM3, q⟩ := q
        subst M3
        refine wp_lt ?_
        refine wp_lm ?_
        refine wp_jn0 ?_
        rcases q with ⟨rfl, q⟩ | ⟨l, r, rfl, q⟩
        · rw [show w32 (-1) = -1 from rfl, if_pos (show (-1 : Int) ≤ 0 by decide)]
          dsimp only
          refine wp_jn1 ?_
          rw [if_pos (show (-1 : Int) ≤ 0 by decide)]
          dsimp only
          rw [show fx_X11_flag 0 (tp_up M2 0 1 0) = some (0, tp_up M2 0 1 0) from rfl, tp_bd_s]
          refine wp_some ⟨fr_up f0 (by simp), scF_up s0 (by decide), Or.inl ⟨rfl, hcd.mpr (fun l r k => q l r ((hcg l r).mpr k)), up_s _ _ _ _⟩⟩
        · have q1 := q.1.1
          have q2 := q.1.2.1
          have qf : cr_first (fun u v => C 63 u = v) a1 a2 l r := ⟨(hcg l r).mp q.1, fun l2 r2 k1 k2 => q.2 l2 r2 k1 ((hcg l2 r2).mpr k2)⟩
          rw [w32_id (show -2147483648 ≤ 31 * l + r ∧ 31 * l + r < 2147483648 by omega), if_neg (show ¬ 31 * l + r ≤ 0 by omega), tp_nz_t (show ¬ (31 : Int) = 0 by decide), x_div_nn (show 0 ≤ 31 * l + r ∧ 31 * l + r < 2147483648 by omega) (show (0 : Int) < 31 ∧ (31 : Int) < 2147483648 by omega), show (31 * l + r) / 31 = l by omega, (pm_enter2 (a := w32 l) (b := 0) (up_s _ _ _ _)).1, tp_bd_s, tp_nz_t (show ¬ (31 : Int) = 0 by decide), x_rem_nn (show 0 ≤ 31 * l + r ∧ 31 * l + r < 2147483648 by omega) (show (0 : Int) < 31 ∧ (31 : Int) < 2147483648 by omega), show (31 * l + r) % 31 = r by omega, (pm_enter2 (a := w32 l) (b := w32 r) (up_s _ _ _ _)).2, tp_bd_s]
          refine wp_jn1 ?_
          rw [if_neg (show ¬ 31 * l + r ≤ 0 by omega)]
          dsimp only
          rw [show ∀ MM : tp_M, fx_X11_flag 1 MM = some (1, MM) from fun _ => rfl, tp_bd_s]
          exact wp_some ⟨fr_up (fr_up (fr_up (fr_up (fr_up f0 (by simp)) (by simp)) (by simp)) (by simp)) (by simp), scF_up (scF_k (scF_up (scF_k (scF_up s0 (by decide)) (by decide)) (by decide)) (by decide)) (by decide), Or.inr ⟨l, r, rfl, qf, td_2M _ _ _⟩⟩
      · obtain ⟨g, s, q2⟩ := q2
        rcases q1 with ⟨rfl, k1, rfl⟩ | ⟨l, r, rfl, k1, rfl⟩
        · rcases q2 with ⟨rfl, m1, m2⟩ | ⟨l2, r2, rfl, m1, m2⟩
          · exact ans_told h (fr_up fr_rf (by simp)) (fr_mono g (by simp)) s rfl (m := 0) (by decide) (g := fun _ => 0) (g2 := fun _ => 0) ⟨up_s _ _ _ _, fun j j1 j2 => by omega⟩ ⟨m2, fun j j1 j2 => by omega⟩ (fun j j1 j2 => rfl)
          · exact absurd m1.1 (hcd.mp k1 l2 r2)
        · rcases q2 with ⟨rfl, m1, m2⟩ | ⟨l2, r2, rfl, m1, m2⟩
          · exact absurd k1.1 (hcd.mp m1 l r)
          · obtain ⟨rfl, rfl⟩ := cr_u k1 m1
            refine ans_told h ?_ (fr_mono g (by simp)) s rfl (m := 2) (by decide) (td_2C _ _ _) m2 (fun j j1 j2 => rfl)
            exact fr_up (fr_up (fr_up (fr_up (fr_up (fr_up fr_rf (by simp)) (by simp)) (by simp)) (by simp)) (by simp)) (by simp)
    · have ec : ∀ X : tp_O, (if a2 < 0 then some (-1, C) else if a2 ≤ 30 then X else some (-1, C)) = some (-1, C) := fun X => by
        by_cases z : a2 < 0
        · rw [if_pos z]
        · rw [if_neg z, if_neg (by omega)]
      rw [ec, if_neg c2, show w32 0 = 0 from rfl, if_pos (show (0 : Int) = 0 from rfl)]
      exact wp2_some (ans_no h)
  · have ec : ∀ X : tp_O, (if a1 < 0 then some (-1, C) else if a1 ≤ 30 then X else some (-1, C)) = some (-1, C) := fun X => by
      by_cases z : a1 < 0
      · rw [if_pos z]
      · rw [if_neg z, if_neg (by omega)]
    rw [ec, if_neg c1, show w32 0 = 0 from rfl, if_pos (show (0 : Int) = 0 from rfl)]
    exact wp2_some (ans_no h)
end ST
