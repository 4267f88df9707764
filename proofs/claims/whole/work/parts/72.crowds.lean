/-! CROWDS: the game of two heaps -/
def cr_ok (T : Int → Int → Prop) (a b l r : Int) : Prop := (0 ≤ l ∧ l ≤ a ∧ 0 ≤ r ∧ r ≤ b) ∧ 0 < l + r ∧ (l = 0 ∨ r = 0 ∨ l = r) ∧ T (a - l) (b - r)
def cr_first (T : Int → Int → Prop) (a b l r : Int) : Prop := cr_ok T a b l r ∧ ∀ l2 r2 : Int, (l2 < l ∨ (l2 = l ∧ r2 < r)) → ¬ cr_ok T a b l2 r2
theorem cr_u {T : Int → Int → Prop} {a b l r l2 r2 : Int} (h : cr_first T a b l r) (g : cr_first T a b l2 r2) : l = l2 ∧ r = r2 := by
  have n1 : ¬ (l2 < l ∨ (l2 = l ∧ r2 < r)) := fun c => h.2 _ _ c g.1
  have n2 : ¬ (l < l2 ∨ (l = l2 ∧ r < r2)) := fun c => g.2 _ _ c h.1
  omega
theorem cr_cg {T T2 : Int → Int → Prop} {a b l r : Int} (e : ∀ x y : Int, 0 ≤ x → x ≤ a → 0 ≤ y → y ≤ b → (x < a ∨ y < b) → (T2 x y ↔ T x y)) : cr_ok T2 a b l r ↔ cr_ok T a b l r := by
  constructor
  · rintro ⟨h1, h2, h3, h4⟩
    exact ⟨h1, h2, h3, (e _ _ (by omega) (by omega) (by omega) (by omega) (by omega)).mp h4⟩
  · rintro ⟨h1, h2, h3, h4⟩
    exact ⟨h1, h2, h3, (e _ _ (by omega) (by omega) (by omega) (by omega) (by omega)).mpr h4⟩
def cr_L : List Int := [0, 2, 1, 5, 7, 3, 10, 4, 13, 15, 6, 18, 20, 8, 23, 9, 26, 28, 11, 31, 12, 34, 36, 14, 39, 41, 16, 44, 17, 47, 49]
def cr_b1 : Bool := (List.range 31).all fun x => (List.range (x + 1)).all fun l => (List.range 50).all fun r => decide (l + r = 0) || (!(decide (l = 0) || decide (r = 0) || decide (l = r))) || !(decide (cr_L.getD (x - l) 0 = cr_L.getD x 0 - (r : Int)))
def cr_b2 : Bool := (List.range 31).all fun x => (List.range 31).all fun y => decide (cr_L.getD x 0 = (y : Int)) || ((List.range (x + 1)).any fun l => (List.range (y + 1)).any fun r => (!decide (l + r = 0)) && ((decide (l = 0) || decide (r = 0) || decide (l = r)) && decide (cr_L.getD (x - l) 0 = ((y - r : Nat) : Int))))
theorem cr_t1 : cr_b1 = true := by decide +kernel
theorem cr_t2 : cr_b2 = true := by decide +kernel
theorem cr_range : ∀ x : Nat, x < 31 → 0 ≤ cr_L.getD x 0 ∧ cr_L.getD x 0 < 50 := by decide +kernel
theorem cr_cold {c : Int → Int} (h : sm_cold c) {x y : Int} (hx : 0 ≤ x ∧ x ≤ 30) (hy : 0 ≤ y ∧ y ≤ 30) : c x = y ↔ ∀ l r : Int, ¬ cr_ok (fun u v => c u = v) x y l r := by
  have hc : ∀ j : Nat, j < 31 → c (j : Int) = cr_L.getD j 0 := h
  obtain ⟨X, rfl⟩ := Int.eq_ofNat_of_zero_le hx.1
  obtain ⟨Y, rfl⟩ := Int.eq_ofNat_of_zero_le hy.1
  have t1 := cr_t1
  have t2 := cr_t2
  unfold cr_b1 at t1
  unfold cr_b2 at t2
  simp only [List.all_eq_true, List.any_eq_true, List.mem_range, Bool.or_eq_true, Bool.and_eq_true, Bool.not_eq_true', decide_eq_true_eq, decide_eq_false_iff_not, Bool.or_eq_false_iff] at t1 t2
  constructor
  · rintro e l r ⟨h1, h2, h3, h4⟩
    obtain ⟨L, rfl⟩ := Int.eq_ofNat_of_zero_le h1.1
    obtain ⟨R, rfl⟩ := Int.eq_ofNat_of_zero_le h1.2.2.1
    have k := t1 X (by omega) L (by omega) R (by omega)
    have e1 := hc X (by omega)
    have e2 := hc (X - L) (by omega)
    rw [show (((X - L : Nat)) : Int) = (X : Int) - (L : Int) by omega] at e2
    have h4' : c ((X : Int) - (L : Int)) = (Y : Int) - (R : Int) := h4
    rw [e2] at h4'
    rw [e1] at e
    rcases k with (k | k) | k
    · omega
    · omega
    · exact k (by rw [h4', e])
  · intro g
    rcases t2 X (by omega) Y (by omega) with k | ⟨L, L1, R, R1, k1, k2, k3⟩
    · rw [hc X (by omega)]; exact k
    · refine absurd ⟨⟨by omega, by omega, by omega, by omega⟩, by omega, by omega, ?_⟩ (g (L : Int) (R : Int))
      show c ((X : Int) - (L : Int)) = (Y : Int) - (R : Int)
      rw [show (X : Int) - (L : Int) = (((X - L : Nat)) : Int) by omega, hc (X - L) (by omega), k3]
      omega
/-! the class's side -/
theorem cs_cold {C : tp_M} {c : Int → Int} {x y : Int} (h : sm_cold c) (hc : C 63 = c) (hx : 0 ≤ x ∧ x ≤ 30) (hy : 0 ≤ y ∧ y ≤ 30) : (c x = y → fx_X10_isCold x y C = some (1, C)) ∧ (¬ c x = y → fx_X10_isCold x y C = some (0, C)) := by
  have hb : 0 ≤ c x ∧ c x < 50 := by
    have := h x.toNat (by omega)
    rw [show ((x.toNat : Nat) : Int) = x by omega] at this
    rw [this]
    exact cr_range x.toNat (by omega)
  unfold fx_X10_isCold
  rw [hc, w32_id (show -2147483648 ≤ x ∧ x < 2147483648 by omega), w32_id (show -2147483648 ≤ y ∧ y < 2147483648 by omega), w32_id (show -2147483648 ≤ c x ∧ c x < 2147483648 by omega), if_neg (show ¬ x < 0 by omega), if_pos (show x < 31 by omega), tp_ck_t (by omega)]
  exact ⟨fun q => by rw [if_pos q], fun q => by rw [if_neg q]⟩
theorem cs_game {C : tp_M} {c : Int → Int} {a b : Int} (h : sm_cold c) (hc : C 63 = c) (ha : 0 ≤ a ∧ a ≤ 30) (hb : 0 ≤ b ∧ b ≤ 30) (K : Int → Int → tp_M → tp_O) {Q : Int → tp_M → Prop} (hK : ∀ l r : Int, cr_first (fun u v => c u = v) a b l r → wp (K l r C) Q) (hN : (∀ l r : Int, ¬ cr_ok (fun u v => c u = v) a b l r) → Q 0 C) : wp (tp_lp1 (fx_X10_crowds_L42 a b K) tp_F 0 C) Q := by
  refine wp_lp1 (fun l C1 => C1 = C ∧ (0 ≤ l ∧ l ≤ 31) ∧ ∀ l2 r2 : Int, l2 < l → ¬ cr_ok (fun u v => c u = v) a b l2 r2) (fun l _ => (31 - l).toNat) ?_ tp_F 0 C ⟨rfl, by omega, fun l2 r2 q c => by have := c.1; omega⟩ (tp_F_pos (by omega))
  intro rec l C1 hI hrec
  obtain ⟨hC1, i1, i2⟩ := hI
  subst C1
  unfold fx_X10_crowds_L42
  rw [w32_id (show -2147483648 ≤ l ∧ l < 2147483648 by omega), w32_id (show -2147483648 ≤ a ∧ a < 2147483648 by omega)]
  by_cases hl : l ≤ a
  · rw [if_pos hl]
    refine wp_lt ?_
    refine wp_lp1 (fun r C1 => C1 = C ∧ (0 ≤ r ∧ r ≤ 31) ∧ ∀ r2 : Int, r2 < r → ¬ cr_ok (fun u v => c u = v) a b l r2) (fun r _ => (31 - r).toNat) ?_ tp_F 0 C ⟨rfl, by omega, fun r2 q c => by have := c.1; omega⟩ (tp_F_pos (by omega))
    intro rec2 r C1 hI2 hrec2
    obtain ⟨hC1, j1, j2⟩ := hI2
    subst C1
    unfold fx_X10_crowds_L50
    rw [w32_id (show -2147483648 ≤ r ∧ r < 2147483648 by omega), w32_id (show -2147483648 ≤ b ∧ b < 2147483648 by omega)]
    by_cases hr : r ≤ b
    · rw [if_pos hr]
      have nx : ¬ cr_ok (fun u v => c u = v) a b l r → wp (tp_lt (r + 1) (fun x18 => rec2 x18 C)) Q := fun hno => by
        refine wp_lt ?_
        refine hrec2 _ _ ⟨rfl, by omega, fun r2 q => ?_⟩ (by omega)
        by_cases e : r2 = r
        · rw [e]; exact hno
        · exact j2 r2 (by omega)
      have hcold := cs_cold (C := C) (x := a - l) (y := b - r) h hc (by omega) (by omega)
      refine wp_jn1 ?_
      have one : 0 < l + r → (l = 0 ∨ r = 0 ∨ l = r) → wp (tp_lt 1 (fun x16 => tp_jn0 (fun M17 => tp_lt (r + 1) (fun x18 => rec2 x18 M17)) (fun jk124 => if w32 x16 = 0 then jk124 C else tp_bd (fx_X10_isCold (a - l) (b - r) C) (fun r19 M20 => if w32 r19 = 0 then jk124 M20 else K l r M20)))) Q := fun p1 p2 => by
        refine wp_lt ?_
        refine wp_jn0 ?_
        rw [show w32 1 = 1 from rfl, if_neg (show ¬ (1 : Int) = 0 by decide)]
        by_cases hcc : c (a - l) = b - r
        · rw [hcold.1 hcc, tp_bd_s, show w32 1 = 1 from rfl, if_neg (show ¬ (1 : Int) = 0 by decide)]
          refine hK l r ⟨⟨by omega, p1, p2, hcc⟩, fun l2 r2 q => ?_⟩
          rcases q with q | ⟨rfl, q⟩
          · exact i2 l2 r2 q
          · exact j2 r2 q
        · rw [hcold.2 hcc, tp_bd_s, show w32 0 = 0 from rfl, if_pos (show (0 : Int) = 0 from rfl)]
          exact nx (fun q => hcc q.2.2.2)
      have zero : ¬ (0 < l + r ∧ (l = 0 ∨ r = 0 ∨ l = r)) → wp (tp_lt 0 (fun x16 => tp_jn0 (fun M17 => tp_lt (r + 1) (fun x18 => rec2 x18 M17)) (fun jk124 => if w32 x16 = 0 then jk124 C else tp_bd (fx_X10_isCold (a - l) (b - r) C) (fun r19 M20 => if w32 r19 = 0 then jk124 M20 else K l r M20)))) Q := fun p => by
        refine wp_lt ?_
        refine wp_jn0 ?_
        rw [show w32 0 = 0 from rfl, if_pos (show (0 : Int) = 0 from rfl)]
        exact nx (fun q => p ⟨q.2.1, q.2.2.1⟩)
      rw [w32_id (show -2147483648 ≤ l ∧ l < 2147483648 by omega)]
      by_cases l0 : l = 0
      · rw [if_pos l0]
        by_cases r0 : r ≤ 0
        · rw [if_pos r0]; exact zero (by omega)
        · rw [if_neg r0]; exact one (by omega) (by omega)
      · rw [if_neg l0]
        refine wp_jn0 ?_
        by_cases r0 : r = 0
        · rw [if_pos r0]; exact one (by omega) (by omega)
        · rw [if_neg r0]
          by_cases e : l = r
          · rw [if_pos e]; exact one (by omega) (by omega)
          · rw [if_neg e]; exact zero (by omega)
    · rw [if_neg hr]
      refine wp_lt ?_
      refine hrec _ _ ⟨rfl, by omega, fun l2 r2 q c => ?_⟩ (by omega)
      by_cases e : l2 = l
      · rw [e] at c
        exact j2 r2 (by have := c.1; omega) c
      · exact i2 l2 r2 (by omega) c
  · rw [if_neg hl]
    refine wp_some (hN (fun l2 r2 c => ?_))
    exact i2 l2 r2 (by have := c.1; omega) c

/-! the reference's side -/
theorem ps_good {M : tp_M} {a b l r : Int} (ha : 0 ≤ a ∧ a ≤ 30) (hb : 0 ≤ b ∧ b ≤ 30) (hl : 0 ≤ l ∧ l ≤ a) (hr : 0 ≤ r ∧ r ≤ b) : (cr_ok (fun u v => w32 (M 30 (31 * u + v)) = 0) a b l r → fx_X11_isGood a b l r M = some (1, M)) ∧ (¬ cr_ok (fun u v => w32 (M 30 (31 * u + v)) = 0) a b l r → fx_X11_isGood a b l r M = some (0, M)) := by
  unfold fx_X11_isGood
  rw [tp_jn1_n, w32_id (show -2147483648 ≤ l + r ∧ l + r < 2147483648 by omega), w32_id (show -2147483648 ≤ l ∧ l < 2147483648 by omega), w32_id (show -2147483648 ≤ r ∧ r < 2147483648 by omega), w32_id (show -2147483648 ≤ a ∧ a < 2147483648 by omega), w32_id (show -2147483648 ≤ b ∧ b < 2147483648 by omega), w32_id (show -2147483648 ≤ 31 * (a - l) + b - r ∧ 31 * (a - l) + b - r < 2147483648 by omega)]
  simp only [tp_jn0_n, tp_lt_n, if_pos (show l ≤ a from hl.2), if_pos (show r ≤ b from hr.2), show w32 0 = 0 from rfl, show w32 1 = 1 from rfl, if_neg (show ¬ (1 : Int) = 0 by decide), if_true]
  rw [tp_ck_t (by omega), show 31 * (a - l) + b - r = 31 * (a - l) + (b - r) by omega]
  unfold cr_ok
  by_cases p : 0 < l + r ∧ (l = 0 ∨ r = 0 ∨ l = r)
  · rw [if_neg (show ¬ l + r ≤ 0 by omega)]
    have e : ∀ X Y : tp_O, (if l = 0 then X else if r = 0 then X else if l = r then X else Y) = X := fun X Y => by
      by_cases l0 : l = 0
      · rw [if_pos l0]
      · rw [if_neg l0]
        by_cases r0 : r = 0
        · rw [if_pos r0]
        · rw [if_neg r0, if_pos (by omega)]
    rw [e]
    exact ⟨fun q => by rw [if_pos q.2.2.2], fun q => by rw [if_neg (fun c => q ⟨by omega, p.1, p.2, c⟩)]⟩
  · refine ⟨fun q => absurd ⟨q.2.1, q.2.2.1⟩ p, fun _ => ?_⟩
    by_cases z : l + r ≤ 0
    · rw [if_pos z]
    · rw [if_neg z, if_neg (by omega), if_neg (by omega), if_neg (by omega)]
theorem ps_move {M : tp_M} {a b : Int} (ha : 0 ≤ a ∧ a ≤ 30) (hb : 0 ≤ b ∧ b ≤ 30) : wp (fx_X11_goodMove a b M) (fun v M1 => M1 = M ∧ ((v = -1 ∧ ∀ l r : Int, ¬ cr_ok (fun u v => w32 (M 30 (31 * u + v)) = 0) a b l r) ∨ ∃ l r : Int, v = 31 * l + r ∧ cr_first (fun u v => w32 (M 30 (31 * u + v)) = 0) a b l r)) := by
  refine wp_K (fun Q hQ => ?_)
  have hgood := fun l r => ps_good (M := M) (l := l) (r := r) ha hb
  generalize (fun u v => w32 (M 30 (31 * u + v)) = 0) = T at *
  unfold fx_X11_goodMove
  refine wp_lt ?_
  refine wp_lp1 (fun l C1 => C1 = M ∧ (0 ≤ l ∧ l ≤ 31) ∧ ∀ l2 r2 : Int, l2 < l → ¬ cr_ok T a b l2 r2) (fun l _ => (31 - l).toNat) ?_ tp_F 0 M ⟨rfl, by omega, fun l2 r2 q c => by have := c.1; omega⟩ (tp_F_pos (by omega))
  intro rec l C1 hI hrec
  obtain ⟨hC1, i1, i2⟩ := hI
  subst C1
  unfold fx_X11_goodMove_L2
  rw [w32_id (show -2147483648 ≤ l ∧ l < 2147483648 by omega), w32_id (show -2147483648 ≤ a ∧ a < 2147483648 by omega)]
  by_cases hl : l ≤ a
  · rw [if_pos hl]
    refine wp_lt ?_
    refine wp_lp1 (fun r C1 => C1 = M ∧ (0 ≤ r ∧ r ≤ 31) ∧ ∀ r2 : Int, r2 < r → ¬ cr_ok T a b l r2) (fun r _ => (31 - r).toNat) ?_ tp_F 0 M ⟨rfl, by omega, fun r2 q c => by have := c.1; omega⟩ (tp_F_pos (by omega))
    intro rec2 r C1 hI2 hrec2
    obtain ⟨hC1, j1, j2⟩ := hI2
    subst C1
    unfold fx_X11_goodMove_L10
    rw [w32_id (show -2147483648 ≤ r ∧ r < 2147483648 by omega), w32_id (show -2147483648 ≤ b ∧ b < 2147483648 by omega)]
    by_cases hr : r ≤ b
    · rw [if_pos hr]
      have hg := hgood l r ⟨i1.1, hl⟩ ⟨j1.1, hr⟩
      by_cases c : cr_ok T a b l r
      · rw [hg.1 c, tp_bd_s, show w32 1 = 1 from rfl, if_neg (show ¬ (1 : Int) = 0 by decide)]
        refine wp_some (hQ _ _ ⟨rfl, Or.inr ⟨l, r, rfl, c, fun l2 r2 q => ?_⟩⟩)
        rcases q with q | ⟨rfl, q⟩
        · exact i2 l2 r2 q
        · exact j2 r2 q
      · rw [hg.2 c, tp_bd_s, show w32 0 = 0 from rfl, if_pos (show (0 : Int) = 0 from rfl)]
        refine wp_lt ?_
        refine hrec2 _ _ ⟨rfl, by omega, fun r2 q => ?_⟩ (by omega)
        by_cases e : r2 = r
        · rw [e]; exact c
        · exact j2 r2 (by omega)
    · rw [if_neg hr]
      refine wp_lt ?_
      refine hrec _ _ ⟨rfl, by omega, fun l2 r2 q c => ?_⟩ (by omega)
      by_cases e : l2 = l
      · rw [e] at c
        exact j2 r2 (by have := c.1; omega) c
      · exact i2 l2 r2 (by omega) c
  · rw [if_neg hl]
    refine wp_some (hQ _ _ ⟨rfl, Or.inl ⟨rfl, fun l2 r2 c => ?_⟩⟩)
    exact i2 l2 r2 (by have := c.1; omega) c
