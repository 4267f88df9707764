/-! LOOKS -/
theorem wp2_R2 {o1 : tp_O} {body : (Int → Int → tp_M → tp_O) → Int → Int → tp_M → tp_O} {Q : Int → tp_M → Int → tp_M → Prop} (Inv : Int → Int → tp_M → Prop) (mu : Int → Int → tp_M → Nat)
    (step : ∀ (rec : Int → Int → tp_M → tp_O) (a0 a1 : Int) (M : tp_M), Inv a0 a1 M → (∀ (b0 b1 : Int) (M1 : tp_M), Inv b0 b1 M1 → mu b0 b1 M1 < mu a0 a1 M → wp2 o1 (rec b0 b1 M1) Q) → wp2 o1 (body rec a0 a1 M) Q) :
    ∀ (n : Nat) (a0 a1 : Int) (M : tp_M), Inv a0 a1 M → mu a0 a1 M < n → wp2 o1 (tp_lp2 body n a0 a1 M) Q := by
  intro n
  induction n with
  | zero => intro a0 a1 M _ h; omega
  | succ n ih =>
    intro a0 a1 M hI hm
    rw [show tp_lp2 body (n + 1) a0 a1 M = body (tp_lp2 body n) a0 a1 M from rfl]
    exact step _ _ _ _ hI (fun b0 b1 M1 hI1 hm1 => ih b0 b1 M1 hI1 (by omega))
/-- how many of the first t numbers of x stand at u -/
def lk_n (x : Int) (p : Nat → Int) (u : Int) : Nat → Int
  | 0 => 0
  | t + 1 => lk_n x p u t + if x.toNat.testBit t = true ∧ p t = u then 1 else 0
theorem lk_s (x : Int) (p : Nat → Int) (u : Int) (t : Nat) : lk_n x p u (t + 1) = lk_n x p u t + if x.toNat.testBit t = true ∧ p t = u then 1 else 0 := rfl
theorem lk_b (x : Int) (p : Nat → Int) (u : Int) : ∀ t : Nat, 0 ≤ lk_n x p u t ∧ lk_n x p u t ≤ (t : Int) := by
  intro t
  induction t with
  | zero => exact ⟨Int.le_refl 0, Int.le_refl 0⟩
  | succ t ih =>
    rw [lk_s]
    by_cases c : x.toNat.testBit t = true ∧ p t = u
    · rw [if_pos c]; omega
    · rw [if_neg c]; omega
theorem lk_mem {x : Int} {p : Nat → Int} {u : Int} {j : Nat} (hb : x.toNat.testBit j = true) (hp : p j = u) : ∀ t : Nat, j < t → 1 ≤ lk_n x p u t := by
  intro t
  induction t with
  | zero => intro h; omega
  | succ t ih =>
    intro h
    rw [lk_s]
    have b := lk_b x p u t
    by_cases e : j = t
    · rw [if_pos (by rw [← e]; exact ⟨hb, hp⟩)]; omega
    · have := ih (by omega)
      split <;> omega
theorem lk_pos {x : Int} {p : Nat → Int} {u : Int} : ∀ t : Nat, 0 < lk_n x p u t → ∃ j : Nat, j < t ∧ x.toNat.testBit j = true ∧ p j = u := by
  intro t
  induction t with
  | zero => intro h; exact absurd h (by show ¬ (0 : Int) < 0; omega)
  | succ t ih =>
    intro h
    rw [lk_s] at h
    by_cases c : x.toNat.testBit t = true ∧ p t = u
    · exact ⟨t, by omega, c⟩
    · rw [if_neg c] at h
      obtain ⟨j, j1, j2⟩ := ih (by omega)
      exact ⟨j, by omega, j2⟩
theorem lk_stay {x : Int} {p : Nat → Int} {u : Int} {d : Nat} (h : ∀ j : Nat, d ≤ j → j < 8 → ¬ x.toNat.testBit j = true) : ∀ k : Nat, d + k ≤ 8 → lk_n x p u (d + k) = lk_n x p u d := by
  intro k
  induction k with
  | zero => intro _; rfl
  | succ k ih =>
    intro hk
    rw [show d + (k + 1) = (d + k) + 1 by omega, lk_s, if_neg (fun c => h (d + k) (by omega) (by omega) c.1), ih (by omega)]
    omega
theorem lk_eq {x : Int} {p : Nat → Int} {d : Nat} {y1 y2 : Int} (hd : d ≤ 4) (hb : ∀ j : Nat, j < 8 → x.toNat.testBit j = true → j < d) (hp : ∀ j : Nat, j < 4 → x.toNat.testBit j = true → 0 ≤ p j ∧ p j < 8) (h0 : 0 ≤ y1) (h1 : ∀ j : Nat, j < 4 → x.toNat.testBit j = true → lk_n x p (p j) 4 ≤ y1) (h2 : y1 = 0 ∨ ∃ j : Nat, j < 4 ∧ x.toNat.testBit j = true ∧ y1 = lk_n x p (p j) 4) (g0 : 0 ≤ y2) (g1 : ∀ u : Int, 0 ≤ u → u < 8 → lk_n x p u d ≤ y2) (g2 : y2 = 0 ∨ ∃ u : Int, (0 ≤ u ∧ u < 8) ∧ y2 = lk_n x p u d) : y1 = y2 := by
  have e : ∀ u : Int, lk_n x p u 4 = lk_n x p u d := fun u => by
    have := lk_stay (x := x) (p := p) (u := u) (d := d) (fun j j1 j2 c => by have := hb j j2 c; omega) (4 - d) (by omega)
    rw [show d + (4 - d) = 4 by omega] at this
    exact this
  have a : y1 ≤ y2 := by
    rcases h2 with h2 | ⟨j, j1, j2, j3⟩
    · omega
    · rw [j3, e]
      exact g1 _ (hp j j1 j2).1 (hp j j1 j2).2
  have b : y2 ≤ y1 := by
    rcases g2 with g2 | ⟨u, u1, u2⟩
    · omega
    · by_cases hz : 0 < lk_n x p u d
      · obtain ⟨j, j1, j2, j3⟩ := lk_pos d hz
        have := h1 j (by omega) j2
        rw [e, j3] at this
        omega
      · omega
  omega
/-! the class's table of places -/
theorem cs_fillP {C : tp_M} {n : Int} {D G f R : Int → Int} {s B i v x : Int} (hN : nC C n D G) (hs : C 15 4 = s) (hf : C 16 = f) (hw : rc_wf f s) (h : sm_row (C 26) (C 27) (C 25 2) (C 25 3) R n D B) (hi : 1 ≤ i ∧ i < n) (hv : 1 ≤ v ∧ v < n) (hx : 0 ≤ x ∧ x < 256) (hxb : ∀ j : Nat, j < 8 → bt x j → (j : Int) < D i) : wp (fx_X10_fillPlaces i x v C) (fun _ C1 => tp_fr [18, 28, 29, 30, 59, 62] C C1 ∧ ∀ j : Nat, j < 4 → x.toNat.testBit j = true → ∀ g : Nat, g ≤ 20 → C1 62 (21 * (j : Int) + (g : Int)) = (wk D G f s (rw_post R i (j : Int)) v g).1) := by
  have n8 := cn_n hN
  have d4 := cn_D hN hi
  refine wp_K (fun Q hQ => ?_)
  unfold fx_X10_fillPlaces
  refine wp_lt ?_
  refine wp_lp1 (fun z C1 => (0 ≤ z ∧ z ≤ 4) ∧ tp_fr [18, 28, 29, 30, 59, 62] C C1 ∧ ∀ j : Nat, (j : Int) < z → x.toNat.testBit j = true → ∀ g : Nat, g ≤ 20 → C1 62 (21 * (j : Int) + (g : Int)) = (wk D G f s (rw_post R i (j : Int)) v g).1) (fun z _ => (4 - z).toNat) ?_ tp_F 0 C ⟨by omega, fr_rf, fun j j1 => by omega⟩ (tp_F_pos (by omega))
  intro rec z C1 hI hrec
  obtain ⟨i1, i2, i3⟩ := hI
  unfold fx_X10_fillPlaces_L3
  rw [w32_id (show -2147483648 ≤ z ∧ z < 2147483648 by omega)]
  by_cases hz : z < 4
  · rw [if_pos hz]
    have hN1 : nC C1 n D G := nC_fr hN (i2 5 (by simp)) (i2 6 (by simp)) (i2 7 (by simp)) (i2 8 (by simp)) (i2 9 (by simp))
    have hbs := bt_shr (c := x) (v := z) (j := z.toNat) (by omega) (by omega) (by omega)
    rw [cn_hasWay hN1 (by unfold pu_in; omega) (by unfold pu_in; omega), tp_bd_s]
    refine wp_jn0 ?_
    by_cases hb : x.toNat.testBit z.toNat = true
    · have hzd : z < D i := by have := hxb z.toNat (by omega) hb; omega
      rw [if_pos (show 1 ≤ i ∧ i < n ∧ 0 ≤ z ∧ z < D i from ⟨hi.1, hi.2, i1.1, hzd⟩), hbs, if_pos hb, show w32 1 = 1 from rfl, if_neg (show ¬ (1 : Int) = 0 by decide), if_neg (show ¬ (1 : Int) = 0 by decide)]
      refine wp_call (cs_copyPost (C := C1) (n := n) (D := D) (R := R) (B := B) (i := i) (k := z) n8.2 (by rw [i2 26 (by simp), i2 27 (by simp), i2 25 (by simp)]; exact h) hi ⟨i1.1, hzd⟩) (fun _ C2 q => ?_)
      obtain ⟨q1, q2⟩ := q
      rw [w32_id (show -2147483648 ≤ i ∧ i < 2147483648 by omega)]
      refine wp_ck (by omega) ?_
      refine wp_lm ?_
      generalize tp_up C2 29 i z = C3 at *
      have f3 := fr_tr i2 (fr_mono (T := [18, 28, 29, 30, 59, 62]) q1 (by simp))
      have hR := rr_of q2
      refine wp_lt ?_
      refine wp_lt ?_
      refine wp_lp2 (fun a g C4 => ∃ l : Nat, l ≤ 21 ∧ g = (l : Int) ∧ a = (wk D G f s (rw_post R i z) v l).1 ∧ tp_fr [18, 28, 29, 30, 59, 62] C C4 ∧ sm_row (C4 29) (C4 30) (C4 28 2) (C4 28 3) (wk D G f s (rw_post R i z) v l).2 n D B ∧ (∀ g : Nat, g < l → C4 62 (21 * z + (g : Int)) = (wk D G f s (rw_post R i z) v g).1) ∧ ∀ j : Nat, (j : Int) < z → ∀ g : Nat, g ≤ 20 → C4 62 (21 * (j : Int) + (g : Int)) = C1 62 (21 * (j : Int) + (g : Int))) (fun _ g _ => (21 - g).toNat) ?_ tp_F v 0 C3 ⟨0, by omega, rfl, rfl, f3, q2, fun g hg => by omega, fun j j1 g g1 => by rw [q1 62 (by simp)]⟩ (tp_F_pos (by omega))
      intro rec2 a g C4 hI2 hrec2
      obtain ⟨l, l1, rfl, rfl, l4, l5, l6, l7⟩ := hI2
      have hp := (wk_pos (f := f) (s := s) hN.2.1 hR (show 0 ≤ v ∧ v < n by omega) l).1
      unfold fx_X10_fillPlaces_L62
      rw [w32_id (show -2147483648 ≤ (l : Int) ∧ (l : Int) < 2147483648 by omega)]
      by_cases hl : (l : Int) ≤ 20
      · rw [if_pos hl, w32_id (show -2147483648 ≤ z * 21 + (l : Int) ∧ z * 21 + (l : Int) < 2147483648 by omega), w32_id (show -2147483648 ≤ (wk D G f s (rw_post R i z) v l).1 ∧ (wk D G f s (rw_post R i z) v l).1 < 2147483648 by omega)]
        refine wp_ck (by omega) ?_
        refine wp_lm ?_
        refine wp_jn1 ?_
        generalize hC5 : tp_up C4 62 (z * 21 + (l : Int)) (wk D G f s (rw_post R i z) v l).1 = C5
        have f5 : tp_fr [18, 28, 29, 30, 59, 62] C C5 := by rw [← hC5]; exact fr_up l4 (by simp)
        have o5 : ∀ c : Nat, ¬ c = 62 → C5 c = C4 c := fun c hc => by rw [← hC5, up_k _ _ _ hc]
        have t5 : ∀ g : Nat, g < l + 1 → C5 62 (21 * z + (g : Int)) = (wk D G f s (rw_post R i z) v g).1 := fun g hg => by
          rw [← hC5, up_c]
          by_cases e : g = l
          · rw [e, if_pos (by omega)]
          · rw [if_neg (by omega)]; exact l6 g (by omega)
        have s5 : ∀ j : Nat, (j : Int) < z → ∀ g : Nat, g ≤ 20 → C5 62 (21 * (j : Int) + (g : Int)) = C1 62 (21 * (j : Int) + (g : Int)) := fun j j1 g g1 => by
          rw [← hC5, up_c, if_neg (by omega)]
          exact l7 j j1 g g1
        by_cases h0 : (wk D G f s (rw_post R i z) v l).1 = 0
        · rw [if_pos h0]
          refine wp_lt ?_
          refine hrec2 _ _ _ ⟨l + 1, by omega, by omega, ?_, f5, ?_, t5, s5⟩ (by omega)
          · rw [wk_s0 h0]
          · rw [wk_s0 h0, o5 29 (by decide), o5 30 (by decide), o5 28 (by decide)]; exact l5
        · rw [if_neg h0]
          have hN5 : nC C5 n D G := nC_fr hN (f5 5 (by simp)) (f5 6 (by simp)) (f5 7 (by simp)) (f5 8 (by simp)) (f5 9 (by simp))
          have e16 : C5 (15 + 1) = f := by rw [show C5 (15 + 1) = C5 16 from rfl, f5 16 (by simp), hf]
          refine wp_call (cs_step (t := 15) (k1 := 28) (s := s) (B := B) (R := (wk D G f s (rw_post R i z) v l).2) (Or.inl rfl) (Or.inr (Or.inl rfl)) hN5 (by rw [f5 15 (by simp)]; exact hs) (by rw [e16]; exact hw) (by rw [show C5 (28 + 1) = C5 29 from rfl, show C5 (28 + 2) = C5 30 from rfl, o5 29 (by decide), o5 30 (by decide), o5 28 (by decide)]; exact l5) ⟨by omega, hp.2⟩) (fun r C6 t => ?_)
          obtain ⟨t1, t2, t3⟩ := t
          rw [e16] at t3
          have hws := wk_s h0
          refine wp_lt ?_
          refine wp_lt ?_
          have e62 : C6 62 = C5 62 := t2 62 (by simp)
          refine hrec2 _ _ _ ⟨l + 1, by omega, by omega, ?_, fr_tr f5 (fr_mono t2 (by simp)), ?_, fun g hg => by rw [e62]; exact t5 g hg, fun j j1 g g1 => by rw [e62]; exact s5 j j1 g g1⟩ (by omega)
          · rw [hws, t1]
          · rw [hws]; exact t3
      · rw [if_neg hl]
        refine wp_lt ?_
        refine hrec _ _ ⟨by omega, l4, fun j j1 j2 g g1 => ?_⟩ (by omega)
        by_cases e : (j : Int) = z
        · rw [e]; exact l6 g (by omega)
        · rw [l7 j (by omega) g g1]; exact i3 j (by omega) j2 g g1
    · have nx : wp (tp_lt (z + 1) (fun x7 => rec x7 C1)) Q := by
        refine wp_lt ?_
        refine hrec _ _ ⟨by omega, i2, fun j j1 j2 g g1 => ?_⟩ (by omega)
        refine i3 j ?_ j2 g g1
        by_cases e : (j : Int) = z
        · rw [← e] at hb
          exact absurd j2 hb
        · omega
      rw [hbs, if_neg hb, show w32 0 = 0 from rfl, if_pos (show (0 : Int) = 0 from rfl)]
      by_cases hzd : 1 ≤ i ∧ i < n ∧ 0 ≤ z ∧ z < D i
      · rw [if_pos hzd, show w32 1 = 1 from rfl, if_neg (show ¬ (1 : Int) = 0 by decide)]
        exact nx
      · rw [if_neg hzd, show w32 0 = 0 from rfl, if_pos (show (0 : Int) = 0 from rfl)]
        exact nx
  · rw [if_neg hz]
    exact wp_some (hQ _ _ ⟨i2, fun j j1 => i3 j (by omega)⟩)
theorem cs_most {C : tp_M} {x g : Int} {p : Nat → Int} (hx : 0 ≤ x ∧ x < 256) (hg : 0 ≤ g ∧ g ≤ 20) (hp : ∀ j : Nat, j < 4 → x.toNat.testBit j = true → 0 ≤ p j ∧ p j < 8) (ht : ∀ j : Nat, j < 4 → x.toNat.testBit j = true → C 62 (21 * (j : Int) + g) = p j) : wp (fx_X10_mostAtOnePlace x g C) (fun y C1 => C1 = C ∧ (0 ≤ y ∧ y ≤ 4) ∧ (∀ j : Nat, j < 4 → x.toNat.testBit j = true → lk_n x p (p j) 4 ≤ y) ∧ (y = 0 ∨ ∃ j : Nat, j < 4 ∧ x.toNat.testBit j = true ∧ y = lk_n x p (p j) 4)) := by
  refine wp_K (fun Q hQ => ?_)
  unfold fx_X10_mostAtOnePlace
  refine wp_lt ?_
  refine wp_lt ?_
  refine wp_lp2 (fun y z C1 => ∃ t : Nat, t ≤ 4 ∧ z = (t : Int) ∧ C1 = C ∧ (0 ≤ y ∧ y ≤ 4) ∧ (∀ j : Nat, j < t → x.toNat.testBit j = true → lk_n x p (p j) 4 ≤ y) ∧ (y = 0 ∨ ∃ j : Nat, j < 4 ∧ x.toNat.testBit j = true ∧ y = lk_n x p (p j) 4)) (fun _ z _ => (4 - z).toNat) ?_ tp_F 0 0 C ⟨0, by omega, rfl, rfl, by omega, fun j hj => by omega, Or.inl rfl⟩ (tp_F_pos (by omega))
  intro rec y z C1 hI hrec
  obtain ⟨t, t1, rfl, hC, t2, t3, t4⟩ := hI
  subst C1
  unfold fx_X10_mostAtOnePlace_L5
  rw [w32_id (show -2147483648 ≤ (t : Int) ∧ (t : Int) < 2147483648 by omega)]
  by_cases hz : (t : Int) < 4
  · rw [if_pos hz]
    refine wp_lt ?_
    refine wp_lt ?_
    refine wp_lp2 (fun a w C1 => ∃ r : Nat, r ≤ 4 ∧ w = (r : Int) ∧ C1 = C ∧ a = if x.toNat.testBit t = true then lk_n x p (p t) r else 0) (fun _ w _ => (4 - w).toNat) ?_ tp_F 0 0 C ⟨0, by omega, rfl, rfl, by split <;> rfl⟩ (tp_F_pos (by omega))
    intro rec2 a w C1 hI2 hrec2
    obtain ⟨r, r1, rfl, hC, r2⟩ := hI2
    subst C1
    have ht4 := bt_shr (c := x) (v := (t : Int)) (j := t) (by omega) (by omega) rfl
    have hr4 := bt_shr (c := x) (v := (r : Int)) (j := r) (by omega) (by omega) rfl
    unfold fx_X10_mostAtOnePlace_L17
    rw [w32_id (show -2147483648 ≤ (r : Int) ∧ (r : Int) < 2147483648 by omega)]
    have lb := lk_b x p (p t) r
    by_cases hr : (r : Int) < 4
    · rw [if_pos hr]
      refine wp_jn1 ?_
      refine wp_jn0 ?_
      rw [ht4, hr4]
      by_cases bt1 : x.toNat.testBit t = true
      · rw [if_pos bt1] at r2
        rw [if_pos bt1, show w32 1 = 1 from rfl, if_pos (show (1 : Int) = 1 from rfl)]
        by_cases br1 : x.toNat.testBit r = true
        · rw [if_pos br1, show w32 1 = 1 from rfl, if_pos (show (1 : Int) = 1 from rfl)]
          refine wp_lt ?_
          refine wp_jn1 ?_
          rw [show w32 1 = 1 from rfl, if_neg (show ¬ (1 : Int) = 0 by decide), w32_id (show -2147483648 ≤ (t : Int) * 21 + g ∧ (t : Int) * 21 + g < 2147483648 by omega), w32_id (show -2147483648 ≤ (r : Int) * 21 + g ∧ (r : Int) * 21 + g < 2147483648 by omega)]
          refine wp_ck (by omega) ?_
          refine wp_ck (by omega) ?_
          have p1 := hp t (by omega) bt1
          have p2 := hp r (by omega) br1
          rw [show (t : Int) * 21 + g = 21 * (t : Int) + g by omega, show (r : Int) * 21 + g = 21 * (r : Int) + g by omega, ht t (by omega) bt1, ht r (by omega) br1, w32_id (show -2147483648 ≤ p t ∧ p t < 2147483648 by omega), w32_id (show -2147483648 ≤ p r ∧ p r < 2147483648 by omega)]
          by_cases e : p t = p r
          · rw [if_pos e]
            refine wp_lt ?_
            refine wp_lt ?_
            refine hrec2 _ _ _ ⟨r + 1, by omega, by omega, rfl, ?_⟩ (by omega)
            rw [if_pos bt1, lk_s, if_pos ⟨br1, e.symm⟩, r2]
          · rw [if_neg e]
            refine wp_lt ?_
            refine hrec2 _ _ _ ⟨r + 1, by omega, by omega, rfl, ?_⟩ (by omega)
            rw [if_pos bt1, lk_s, if_neg (fun c => e c.2.symm), r2]
            omega
        · rw [if_neg br1, show w32 0 = 0 from rfl, if_neg (show ¬ (0 : Int) = 1 by decide)]
          refine wp_lt ?_
          refine wp_jn1 ?_
          rw [show w32 0 = 0 from rfl, if_pos (show (0 : Int) = 0 from rfl)]
          refine wp_lt ?_
          refine hrec2 _ _ _ ⟨r + 1, by omega, by omega, rfl, ?_⟩ (by omega)
          rw [if_pos bt1, lk_s, if_neg (fun c => br1 c.1), r2]
          omega
      · rw [if_neg bt1] at r2
        rw [if_neg bt1, show w32 0 = 0 from rfl, if_neg (show ¬ (0 : Int) = 1 by decide)]
        refine wp_lt ?_
        refine wp_jn1 ?_
        rw [show w32 0 = 0 from rfl, if_pos (show (0 : Int) = 0 from rfl)]
        refine wp_lt ?_
        refine hrec2 _ _ _ ⟨r + 1, by omega, by omega, rfl, ?_⟩ (by omega)
        rw [if_neg bt1, r2]
    · rw [if_neg hr]
      have r4 : r = 4 := by omega
      rw [r4] at r2
      have lb4 := lk_b x p (p t) 4
      have ha : 0 ≤ a ∧ a ≤ 4 := by
        rw [r2]; split <;> omega
      rw [w32_id (show -2147483648 ≤ y ∧ y < 2147483648 by omega)]
      dsimp only
      rw [w32_id (show -2147483648 ≤ a ∧ a < 2147483648 by omega)]
      refine wp_lt ?_
      refine wp_lt ?_
      refine hrec _ _ _ ⟨t + 1, by omega, by omega, rfl, by omega, fun j j1 j2 => ?_, ?_⟩ (by omega)
      · by_cases e : j = t
        · rw [e] at j2
          rw [if_pos j2] at r2
          rw [e, ← r2]
          omega
        · have := t3 j (by omega) j2
          omega
      · by_cases c : a ≤ y
        · rw [show max y a = y by omega]; exact t4
        · rw [show max y a = a by omega]
          by_cases b : x.toNat.testBit t = true
          · rw [if_pos b] at r2
            exact Or.inr ⟨t, by omega, b, r2⟩
          · rw [if_neg b] at r2
            exact Or.inl r2
  · rw [if_neg hz]
    exact wp_some (hQ _ _ ⟨rfl, t2, fun j j1 => t3 j (by omega), t4⟩)

/-! the reference's side -/
def lk_M (M M1 : tp_M) : Prop := tp_fr [0, 5, 11, 12, 27] M M1 ∧ ∀ j : Int, j ∉ ([0, 32, 33] : List Int) → M1 0 j = M 0 j
theorem ps_wipes {o1 : tp_O} {Q : Int → tp_M → Int → tp_M → Prop} {M M1 : tp_M} {c1 c2 c3 c4 c5 c6 c7 : Int} {K : tp_M → tp_O} (h : lk_M M M1) (hK : ∀ M2 : tp_M, lk_M M M2 → (∀ u : Int, 0 ≤ u → u < 8 → M2 27 u = 0) → wp2 o1 (K M2) Q) : wp2 o1 (tp_lp1 (fx_X11_looks_L63 c1 c2 c3 c4 c5 c6 c7 K) tp_F 0 M1) Q := by
  refine wp2_R1 (fun z M2 => (0 ≤ z ∧ z ≤ 8) ∧ lk_M M M2 ∧ ∀ u : Int, 0 ≤ u → u < z → M2 27 u = 0) (fun z _ => (8 - z).toNat) ?_ tp_F 0 M1 ⟨by omega, h, fun u u1 u2 => by omega⟩ (tp_F_pos (by omega))
  intro rec z M2 hI hrec
  obtain ⟨i1, i2, i3⟩ := hI
  unfold fx_X11_looks_L63
  rw [w32_id (show -2147483648 ≤ z ∧ z < 2147483648 by omega)]
  by_cases hz : z < 8
  · rw [if_pos hz]
    refine wp2_ck2 (by omega) ?_
    refine wp2_lm2 ?_
    refine wp2_lt2 ?_
    refine hrec _ _ ⟨by omega, ⟨fr_up i2.1 (by simp), fun j hj => by rw [up_k _ _ _ (by decide)]; exact i2.2 j hj⟩, fun u u1 u2 => ?_⟩ (by omega)
    rw [up_c]
    by_cases e : u = z
    · rw [if_pos e]
    · rw [if_neg e]; exact i3 u u1 (by omega)
  · rw [if_neg hz]
    exact hK M2 i2 (fun u u1 u2 => i3 u u1 (by omega))
theorem ps_often {o1 : tp_O} {Q : Int → tp_M → Int → tp_M → Prop} {M M1 : tp_M} {f : Int → Int} {s i x c3 c4 v g : Int} {K : Int → tp_M → tp_O} (hn : nt_net (M 0 3) (M 2) (M 3)) (hr : rM M f s) (hrr : rr_ok (M 0 3) (M 2) (M 4)) (hi : 1 ≤ i ∧ i < M 0 3) (hv : 1 ≤ v ∧ v < M 0 3) (hg : 0 ≤ g ∧ g ≤ 20) (hx : 0 ≤ x ∧ x < 256) (h : lk_M M M1) (h27 : ∀ u : Int, 0 ≤ u → u < 8 → M1 27 u = 0)
    (hK : ∀ (y : Int) (M2 : tp_M), lk_M M M2 → (0 ≤ y ∧ y ≤ 4) → (∀ u : Int, 0 ≤ u → u < 8 → lk_n x (fun j => (wk (M 2) (M 3) f s (rw_post (M 4) i (j : Int)) v g.toNat).1) u (M 2 i).toNat ≤ y) → (y = 0 ∨ ∃ u : Int, (0 ≤ u ∧ u < 8) ∧ y = lk_n x (fun j => (wk (M 2) (M 3) f s (rw_post (M 4) i (j : Int)) v g.toNat).1) u (M 2 i).toNat) → wp2 o1 (K y M2) Q) : wp2 o1 (tp_lp2 (fx_X11_looks_L87 i x c3 c4 v g K) tp_F 0 0 M1) Q := by
  have n8 := hn.1
  have d4 := (hn.2 i hi.1 hi.2).1
  generalize hp : (fun j : Nat => (wk (M 2) (M 3) f s (rw_post (M 4) i (j : Int)) v g.toNat).1) = p at *
  have hpj : ∀ j : Nat, (wk (M 2) (M 3) f s (rw_post (M 4) i (j : Int)) v g.toNat).1 = p j := fun j => by rw [← hp]
  refine wp2_R2 (fun y z M2 => ∃ t : Nat, (t : Int) ≤ M 2 i ∧ z = (t : Int) ∧ lk_M M M2 ∧ (0 ≤ y ∧ y ≤ (t : Int)) ∧ (∀ u : Int, 0 ≤ u → u < 8 → M2 27 u = lk_n x p u t) ∧ (∀ u : Int, 0 ≤ u → u < 8 → lk_n x p u t ≤ y) ∧ (y = 0 ∨ ∃ u : Int, (0 ≤ u ∧ u < 8) ∧ y = lk_n x p u t)) (fun _ z _ => (4 - z).toNat) ?_ tp_F 0 0 M1 ⟨0, by omega, rfl, h, by omega, h27, fun u u1 u2 => Int.le_refl 0, Or.inl rfl⟩ (tp_F_pos (by omega))
  intro rec y z M2 hI hrec
  obtain ⟨t, t1, rfl, t2, t3, t4, t5, t6⟩ := hI
  have e2 : M2 2 = M 2 := t2.1 2 (by simp)
  have e3 : M2 3 = M 3 := t2.1 3 (by simp)
  have e4 : M2 4 = M 4 := t2.1 4 (by simp)
  have e03 : M2 0 3 = M 0 3 := t2.2 3 (by decide)
  unfold fx_X11_looks_L87
  rw [w32_id (show -2147483648 ≤ i ∧ i < 2147483648 by omega)]
  refine wp2_ck2 (by omega) ?_
  rw [e2, w32_id (show -2147483648 ≤ (t : Int) ∧ (t : Int) < 2147483648 by omega), w32_id (show -2147483648 ≤ M 2 i ∧ M 2 i < 2147483648 by omega)]
  by_cases hz : (t : Int) < M 2 i
  · rw [if_pos hz]
    have hh := pm_has (a := x) (v := (t : Int)) (by omega) (by omega) M2
    by_cases hb : x.toNat.testBit t = true
    · rw [hh.1 hb, tp_bd_s, tp_jn1_n, show w32 1 = 1 from rfl, if_neg (show ¬ (1 : Int) = 0 by decide)]
      refine wp2_c2 (ps_placeBy (M := M2) (f := f) (s := s) (i := i) (k := (t : Int)) (v := v) (m := g) (by rw [e03, e2, e3]; exact hn) ⟨by rw [t2.2 18 (by decide)]; exact hr.1, hr.2.1, by rw [t2.1 9 (by simp)]; exact hr.2.2⟩ (by rw [e03, e2, e4]; exact hrr) (by rw [e03]; exact hi) (by rw [e2]; omega) (by rw [e03]; exact hv) (by omega)) (fun r M3 q => ?_)
      obtain ⟨q1, q2, q3⟩ := q
      rw [e2, e3, e4, hpj t] at q1
      have hpos := (wk_pos (f := f) (s := s) hn (rr_post n8.2 hrr hi (show 0 ≤ (t : Int) ∧ (t : Int) < M 2 i by omega)) (show 0 ≤ v ∧ v < M 0 3 by omega) g.toNat).1
      rw [hpj t, ← q1] at hpos
      have f3 : lk_M M M3 := ⟨fr_tr t2.1 (fr_mono q2 (by simp)), fun j hj => by
        rw [q3 j (fun c => hj (by simp only [List.mem_cons, List.not_mem_nil, or_false] at c; simp; omega))]
        exact t2.2 j hj⟩
      have e27 : M3 27 r = lk_n x p r t := by rw [q2 27 (by simp)]; exact t4 r (by omega) (by omega)
      have lb := lk_b x p r t
      have lr := t5 r (by omega) (by omega)
      rw [tp_lt_s, w32_id (show -2147483648 ≤ r ∧ r < 2147483648 by omega)]
      refine wp2_ck2 (by omega) ?_
      refine wp2_ck2 (by omega) ?_
      refine wp2_lm2 ?_
      refine wp2_ck2 (by omega) ?_
      rw [tp_lt_s, up_s, e27, w32_id (show -2147483648 ≤ lk_n x p r t + 1 ∧ lk_n x p r t + 1 < 2147483648 by omega), w32_id (show -2147483648 ≤ y ∧ y < 2147483648 by omega)]
      refine wp2_lt2 ?_
      have sr : lk_n x p r (t + 1) = lk_n x p r t + 1 := by rw [lk_s, if_pos ⟨hb, q1.symm⟩]
      have so : ∀ u : Int, ¬ u = r → lk_n x p u (t + 1) = lk_n x p u t := fun u hu => by
        rw [lk_s, if_neg (fun c => hu (by rw [← c.2, q1]))]
        omega
      refine hrec _ _ _ ⟨t + 1, by omega, by omega, ⟨fr_up f3.1 (by simp), fun j hj => by rw [up_k _ _ _ (by decide)]; exact f3.2 j hj⟩, by omega, fun u u1 u2 => ?_, fun u u1 u2 => ?_, ?_⟩ (by omega)
      · rw [up_c]
        by_cases e : u = r
        · rw [if_pos e, e, sr]
        · rw [if_neg e, so u e, q2 27 (by simp)]; exact t4 u u1 u2
      · by_cases e : u = r
        · rw [e, sr]; omega
        · rw [so u e]
          have := t5 u u1 u2
          omega
      · by_cases c : lk_n x p r t + 1 ≤ y
        · rw [show max y (lk_n x p r t + 1) = y by omega]
          rcases t6 with t6 | ⟨u, u1, u2⟩
          · exact Or.inl t6
          · refine Or.inr ⟨u, u1, ?_⟩
            rw [so u (fun e => by rw [e] at u2; omega)]
            exact u2
        · rw [show max y (lk_n x p r t + 1) = lk_n x p r t + 1 by omega]
          exact Or.inr ⟨r, by omega, sr.symm⟩
    · rw [hh.2 hb, tp_bd_s, tp_jn1_n, show w32 0 = 0 from rfl, if_pos (show (0 : Int) = 0 from rfl)]
      refine wp2_lt2 ?_
      have so : ∀ u : Int, lk_n x p u (t + 1) = lk_n x p u t := fun u => by
        rw [lk_s, if_neg (fun c => hb c.1)]
        omega
      refine hrec _ _ _ ⟨t + 1, by omega, by omega, t2, by omega, fun u u1 u2 => ?_, fun u u1 u2 => ?_, ?_⟩ (by omega)
      · rw [so]; exact t4 u u1 u2
      · rw [so]; exact t5 u u1 u2
      · rcases t6 with t6 | ⟨u, u1, u2⟩
        · exact Or.inl t6
        · exact Or.inr ⟨u, u1, by rw [so]; exact u2⟩
  · rw [if_neg hz]
    have e : (M 2 i).toNat = t := by omega
    rw [e] at hK
    exact hK y M2 t2 (by omega) t5 t6
