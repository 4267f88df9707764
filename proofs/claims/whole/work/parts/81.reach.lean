/-! REACH: where one comes to -/
section RC
variable {n : Int} {D G : Int → Int} {w a : Int}
/-- from a one comes to u in k ways, never to w -/
def rw_in (n : Int) (D G : Int → Int) (w a : Int) : Nat → Int → Prop
  | 0, u => u = a
  | k + 1, u => rw_in n D G w a k u ∨ ∃ v : Int, (1 ≤ v ∧ v < n) ∧ rw_in n D G w a k v ∧ ∃ i : Int, (0 ≤ i ∧ i < D v) ∧ G (4 * v + i) = u ∧ ¬ u = w
def rw_at (n : Int) (D G : Int → Int) (w a u : Int) : Prop := ∃ k : Nat, rw_in n D G w a k u
theorem rw_mono {k : Nat} {u : Int} (h : rw_in n D G w a k u) : ∀ e : Nat, k ≤ e → rw_in n D G w a e u := by
  intro e
  induction e with
  | zero => intro he; rw [show k = 0 by omega] at h; exact h
  | succ e ih =>
    intro he
    by_cases hd : k = e + 1
    · rw [← hd]; exact h
    · exact Or.inl (ih (by omega))
theorem rw_rng (hn : nt_net n D G) (ha : 0 ≤ a ∧ a < n) : ∀ (k : Nat) (u : Int), rw_in n D G w a k u → 0 ≤ u ∧ u < n := by
  intro k
  induction k with
  | zero => intro u h; rw [show u = a from h]; exact ha
  | succ k ih =>
    rintro u (h | ⟨v, hv, -, i, hi, e, -⟩)
    · exact ih u h
    · have := (hn.2 v hv.1 hv.2).2 i hi.1 hi.2
      omega
def rw_ml (n : Int) (D G : Int → Int) (w a : Int) (d : Nat) (u : Int) : Prop := rw_in n D G w a d u ∧ ∀ e : Nat, e < d → ¬ rw_in n D G w a e u
theorem rw_lv : ∀ (d : Nat) (u : Int), rw_ml n D G w a d u → ∀ i : Nat, i ≤ d → ∃ v : Int, rw_ml n D G w a i v := by
  intro d
  induction d with
  | zero =>
    intro u h i hi
    rw [show i = 0 by omega]
    exact ⟨u, h⟩
  | succ d ih =>
    intro u h i hi
    by_cases hid : i = d + 1
    · rw [hid]; exact ⟨u, h⟩
    · obtain ⟨h1, h2⟩ := h
      rcases h1 with h1 | ⟨v, hv, h3, j, hj, e, ho⟩
      · exact absurd h1 (h2 d (by omega))
      · refine ih v ⟨h3, fun e2 he q => ?_⟩ i (by omega)
        exact h2 (e2 + 1) (by omega) (Or.inr ⟨v, hv, q, j, hj, e, ho⟩)
theorem rw_min {u : Int} : ∀ d : Nat, rw_in n D G w a d u → ∃ e : Nat, e ≤ d ∧ rw_ml n D G w a e u := by
  intro d
  induction d using Nat.strongRecOn with
  | ind d ih =>
    intro h
    by_cases hx : ∃ e : Nat, e < d ∧ rw_in n D G w a e u
    · obtain ⟨e, e1, e2⟩ := hx
      obtain ⟨c, c1, c2⟩ := ih e e1 e2
      exact ⟨c, by omega, c2⟩
    · exact ⟨d, Nat.le_refl d, h, fun e he q => hx ⟨e, he, q⟩⟩
theorem rw_u {u : Int} {d e : Nat} (h1 : rw_ml n D G w a d u) (h2 : rw_ml n D G w a e u) : d = e := by
  by_cases h : d < e
  · exact absurd h1.1 (h2.2 d h)
  · by_cases h' : e < d
    · exact absurd h2.1 (h1.2 e h')
    · omega
theorem rw_lim (hn : nt_net n D G) (ha : 0 ≤ a ∧ a < n) {u : Int} (h : rw_at n D G w a u) : ∀ m : Nat, n ≤ (m : Int) + 1 → rw_in n D G w a m u := by
  obtain ⟨k, hk⟩ := h
  obtain ⟨d, -, hd⟩ := rw_min k hk
  have n8 := hn.1
  have hdn : (d : Int) < n := by
    refine Classical.byContradiction (fun hc => ?_)
    have hl := rw_lv d u hd
    have hx : ∀ i : Nat, ∃ v : Int, i ≤ n.toNat → rw_ml n D G w a i v := fun i => by
      by_cases hi : i ≤ n.toNat
      · obtain ⟨v, v1⟩ := hl i (by omega)
        exact ⟨v, fun _ => v1⟩
      · exact ⟨0, fun q => absurd q hi⟩
    obtain ⟨i, j, i1, i2, i3⟩ := php n.toNat (fun i => (Classical.choose (hx i)).toNat) (fun i hi => by
      have := rw_rng hn ha i _ (Classical.choose_spec (hx i) hi).1
      omega)
    have p := Classical.choose_spec (hx i) (by omega)
    have q := Classical.choose_spec (hx j) i2
    have e : Classical.choose (hx i) = Classical.choose (hx j) := by
      have a1 := rw_rng hn ha i _ p.1
      have b1 := rw_rng hn ha j _ q.1
      have i3 : (Classical.choose (hx i)).toNat = (Classical.choose (hx j)).toNat := i3
      omega
    rw [e] at p
    have := rw_u p q
    omega
  intro m hm
  exact rw_mono hd.1 m (by omega)
theorem rw_w (hn : nt_net n D G) (ha : 0 ≤ a ∧ a < n) {w2 : Int} (hw : ∀ u : Int, 0 ≤ u → u < n → (u = w ↔ u = w2)) (u : Int) : rw_at n D G w a u ↔ rw_at n D G w2 a u := by
  have h : ∀ (k : Nat) (u : Int), rw_in n D G w a k u ↔ rw_in n D G w2 a k u := by
    intro k
    induction k with
    | zero => intro u; exact Iff.rfl
    | succ k ih =>
      intro u
      refine or_congr (ih u) (exists_congr (fun v => and_congr_right (fun hv => and_congr (ih v) (exists_congr (fun i => and_congr_right (fun hi => and_congr_right (fun e => ?_)))))))
      have := (hn.2 v hv.1 hv.2).2 i hi.1 hi.2
      rw [hw u (by omega) (by omega)]
  exact exists_congr (fun k => h k u)
theorem bt_open {b v : Int} (hb : 0 ≤ b ∧ b < 256) (hv : 0 ≤ v ∧ v ≤ 8) : (0 ≤ x_and b (x_xor (x_shl 1 v) (-1)) ∧ x_and b (x_xor (x_shl 1 v) (-1)) < 256) ∧ ∀ j : Nat, j < 8 → (bt (x_and b (x_xor (x_shl 1 v) (-1))) j ↔ bt b j ∧ ¬ (j : Int) = v) := by
  have h : ∀ b : Nat, b < 256 → ∀ v : Nat, v < 9 → (0 ≤ x_and (b : Int) (x_xor (x_shl 1 (v : Int)) (-1)) ∧ x_and (b : Int) (x_xor (x_shl 1 (v : Int)) (-1)) < 256) ∧ ∀ j : Nat, j < 8 → (x_and (b : Int) (x_xor (x_shl 1 (v : Int)) (-1))).toNat.testBit j = (b.testBit j && !decide (j = v)) := by decide +kernel
  obtain ⟨b, rfl⟩ := Int.eq_ofNat_of_zero_le hb.1
  obtain ⟨v, rfl⟩ := Int.eq_ofNat_of_zero_le hv.1
  obtain ⟨h1, h2⟩ := h b (by omega) v (by omega)
  refine ⟨h1, fun j hj => ?_⟩
  unfold bt
  rw [h2 j hj, Int.toNat_natCast]
  simp only [Bool.and_eq_true, Bool.not_eq_true', decide_eq_false_iff_not]
  exact and_congr_right (fun _ => by omega)
theorem bt_orx {a b : Int} (ha : 0 ≤ a ∧ a < 256) (hb : 0 ≤ b ∧ b < 256) : (0 ≤ x_or a b ∧ x_or a b < 256) ∧ ∀ j : Nat, bt (x_or a b) j ↔ bt a j ∨ bt b j := by
  rw [x_or_nn (by omega) (by omega)]
  have hlt : a.toNat ||| b.toNat < 2 ^ 8 := Nat.or_lt_two_pow (by omega) (by omega)
  have h8 : (2 ^ 8 : Nat) = 256 := by decide
  refine ⟨by omega, fun j => ?_⟩
  unfold bt
  rw [Int.toNat_natCast, Nat.testBit_or]
  simp only [Bool.or_eq_true]
/-- x has what is reached within d ways, and nothing that is not reached -/
def rw_x (n : Int) (D G : Int → Int) (w a : Int) (d : Nat) (x : Int) : Prop := (0 ≤ x ∧ x < 256) ∧ (∀ j : Nat, j < 8 → bt x j → rw_at n D G w a (j : Int)) ∧ ∀ j : Nat, j < 8 → rw_in n D G w a d (j : Int) → bt x j
theorem rw_x_end (hn : nt_net n D G) (ha : 0 ≤ a ∧ a < n) {d : Nat} (hd : n ≤ (d : Int) + 1) {x : Int} (h : rw_x n D G w a d x) : (0 ≤ x ∧ x < 256) ∧ ∀ j : Nat, j < 8 → (bt x j ↔ rw_at n D G w a (j : Int)) :=
  ⟨h.1, fun j hj => ⟨h.2.1 j hj, fun q => h.2.2 j hj (rw_lim hn ha q d hd)⟩⟩
theorem rw_x_0 (ha : 0 ≤ a ∧ a < 8) : rw_x n D G w a 0 (x_shl 1 a) := by
  have h := bt_one ha
  exact ⟨h.1, fun j _ q => ⟨0, (h.2 j).mp q⟩, fun j _ q => (h.2 j).mpr q⟩
theorem rw_x_s (hn : nt_net n D G) {d : Nat} {x : Int} (h : rw_x n D G w a d x) (hc : ∀ v : Int, 1 ≤ v → v < n → rw_in n D G w a d v → ∀ i : Int, 0 ≤ i → i < D v → ¬ G (4 * v + i) = w → ∀ j : Nat, j < 8 → (j : Int) = G (4 * v + i) → bt x j) : rw_x n D G w a (d + 1) x := by
  refine ⟨h.1, h.2.1, fun j hj q => ?_⟩
  rcases q with q | ⟨v, hv, h1, i, hi, e, ho⟩
  · exact h.2.2 j hj q
  · exact hc v hv.1 hv.2 h1 i hi.1 hi.2 (by rw [e]; exact ho) j hj e.symm
theorem cs_reach {C : tp_M} (hN : nC C n D G) (ha : 0 ≤ a ∧ a < n) (hw : 0 ≤ w ∧ w ≤ 8) : ∃ x : Int, fx_X4_reach 5 a w C = some (x, C) ∧ (0 ≤ x ∧ x < 256) ∧ ∀ j : Nat, j < 8 → (bt x j ↔ rw_at n D G w a (j : Int)) := by
  have n8 := cn_n hN
  have hn := hN.2.1
  have hN5 : C 5 4 = n := hN.1
  suffices h : wp (fx_X4_reach 5 a w C) (fun r C1 => C1 = C ∧ (0 ≤ r ∧ r < 256) ∧ ∀ j : Nat, j < 8 → (bt r j ↔ rw_at n D G w a (j : Int))) by
    obtain ⟨r, C1, e, rfl, h⟩ := h
    exact ⟨r, e, h⟩
  refine wp_K (fun Q hQ => ?_)
  unfold fx_X4_reach
  refine wp_lt ?_
  refine wp_lt ?_
  refine wp_lt ?_
  refine wp_lp2 (fun x r C1 => C1 = C ∧ ∃ d : Nat, r = (d : Int) + 1 ∧ (d : Int) + 1 ≤ n ∧ rw_x n D G w a d x) (fun _ r _ => (9 - r).toNat) ?_ tp_F _ 1 C ⟨rfl, 0, rfl, by omega, rw_x_0 (by omega)⟩ (tp_F_pos (by omega))
  rintro rec x r C1 ⟨rfl, d, rfl, d1, d2⟩ hrec
  unfold fx_X4_reach_L14
  rw [hN5, w32_id (show -2147483648 ≤ (d : Int) + 1 ∧ (d : Int) + 1 < 2147483648 by omega), w32_id (show -2147483648 ≤ n ∧ n < 2147483648 by omega)]
  by_cases hd : (d : Int) + 1 < n
  · rw [if_pos hd]
    refine wp_lt ?_
    refine wp_lp2 (fun y v C2 => C2 = C1 ∧ (1 ≤ v ∧ v ≤ n) ∧ rw_x n D G w a d y ∧ ∀ u : Int, 1 ≤ u → u < v → rw_in n D G w a d u → ∀ i : Int, 0 ≤ i → i < D u → ¬ G (4 * u + i) = w → ∀ j : Nat, j < 8 → (j : Int) = G (4 * u + i) → bt y j) (fun _ v _ => (9 - v).toNat) ?_ tp_F x 1 C1 ⟨rfl, by omega, d2, fun u u1 u2 => by omega⟩ (tp_F_pos (by omega))
    rintro rec2 y v C2 ⟨rfl, v1, v2, v3⟩ hrec2
    unfold fx_X4_reach_L26
    rw [hN5, w32_id (show -2147483648 ≤ v ∧ v < 2147483648 by omega), w32_id (show -2147483648 ≤ n ∧ n < 2147483648 by omega)]
    by_cases hv : v < n
    · rw [if_pos hv]
      refine wp_jn1 ?_
      have hs := bt_shr (c := y) (v := v) (by have := v2.1; omega) (by omega) (j := v.toNat) (by omega)
      rw [x_and_w, hs]
      have hvn : ((v.toNat : Nat) : Int) = v := by omega
      by_cases hb : y.toNat.testBit v.toNat = true
      · rw [if_pos hb, if_pos rfl]
        refine wp_ck (by omega) ?_
        refine wp_lt ?_
        refine wp_lt ?_
        have hbv := (hN.2.2.2.2.1 v v1.1 hv).2.1
        have ho := bt_open (v := w) hbv.1 hw
        have hx := bt_orx v2.1 ho.1
        have hat : rw_at n D G w a v := by have := v2.2.1 v.toNat (by omega) hb; rw [hvn] at this; exact this
        refine hrec2 _ _ _ ⟨rfl, by omega, ⟨hx.1, fun j hj q => ?_, fun j hj q => ?_⟩, fun u u1 u2 u3 i i1 i2 i3 j hj e => ?_⟩ (by omega)
        · rcases (hx.2 j).mp q with q | q
          · exact v2.2.1 j hj q
          · obtain ⟨q1, q2⟩ := (ho.2 j hj).mp q
            obtain ⟨k, k1, k2, k3⟩ := (hbv.2 j hj).mp q1
            obtain ⟨m, hm⟩ := hat
            exact ⟨m + 1, Or.inr ⟨v, ⟨v1.1, hv⟩, hm, k, ⟨k1, k2⟩, k3, q2⟩⟩
        · exact (hx.2 j).mpr (Or.inl (v2.2.2 j hj q))
        · by_cases e2 : u = v
          · subst e2
            exact (hx.2 j).mpr (Or.inr ((ho.2 j hj).mpr ⟨(hbv.2 j hj).mpr ⟨i, i1, i2, e.symm⟩, by rw [e]; exact i3⟩))
          · exact (hx.2 j).mpr (Or.inl (v3 u u1 (by omega) u3 i i1 i2 i3 j hj e))
      · rw [if_neg hb, if_neg (by decide)]
        refine wp_lt ?_
        refine hrec2 _ _ _ ⟨rfl, by omega, v2, fun u u1 u2 u3 => ?_⟩ (by omega)
        by_cases e2 : u = v
        · subst e2
          exact absurd (v2.2.2 u.toNat (by omega) (by rw [hvn]; exact u3)) hb
        · exact v3 u u1 (by omega) u3
    · rw [if_neg hv]
      refine wp_lt ?_
      refine hrec _ _ _ ⟨rfl, d + 1, by omega, by omega, rw_x_s hn v2 (fun u u1 u2 => v3 u u1 (by omega))⟩ (by omega)
  · rw [if_neg hd]
    exact wp_some (hQ _ _ ⟨rfl, rw_x_end hn ha (by omega) d2⟩)
end RC
theorem ps_comesFrom {M : tp_M} {a w : Int} (hn : nt_net (M 0 3) (M 2) (M 3)) (ha : 0 ≤ a ∧ a < M 0 3) (hw : -1 ≤ w ∧ w ≤ 8) : ∃ x : Int, fx_X11_comesFrom a w M = some (x, M) ∧ (0 ≤ x ∧ x < 256) ∧ ∀ j : Nat, j < 8 → (bt x j ↔ rw_at (M 0 3) (M 2) (M 3) w a (j : Int)) := by
  have n8 := hn.1
  suffices h : wp (fx_X11_comesFrom a w M) (fun r M1 => M1 = M ∧ (0 ≤ r ∧ r < 256) ∧ ∀ j : Nat, j < 8 → (bt r j ↔ rw_at (M 0 3) (M 2) (M 3) w a (j : Int))) by
    obtain ⟨r, M1, e, rfl, h⟩ := h
    exact ⟨r, e, h⟩
  generalize hD : M 2 = D at *
  generalize hG : M 3 = G at *
  generalize hnn : M 0 3 = n at *
  refine wp_K (fun Q hQ => ?_)
  unfold fx_X11_comesFrom
  refine wp_lt ?_
  refine wp_lt ?_
  refine wp_lp2 (fun x r M1 => M1 = M ∧ ∃ d : Nat, r = (d : Int) ∧ (d : Int) ≤ 8 ∧ rw_x n D G w a d x) (fun _ r _ => (9 - r).toNat) ?_ tp_F _ 0 M ⟨rfl, 0, rfl, by omega, rw_x_0 (by omega)⟩ (tp_F_pos (by omega))
  rintro rec x r M1 ⟨rfl, d, rfl, d1, d2⟩ hrec
  unfold fx_X11_comesFrom_L7
  rw [w32_id (show -2147483648 ≤ (d : Int) ∧ (d : Int) < 2147483648 by omega)]
  by_cases hd : (d : Int) < 8
  · rw [if_pos hd]
    refine wp_lt ?_
    refine wp_lp2 (fun y v M2 => M2 = M1 ∧ (1 ≤ v ∧ v ≤ n) ∧ rw_x n D G w a d y ∧ ∀ u : Int, 1 ≤ u → u < v → rw_in n D G w a d u → ∀ i : Int, 0 ≤ i → i < D u → ¬ G (4 * u + i) = w → ∀ j : Nat, j < 8 → (j : Int) = G (4 * u + i) → bt y j) (fun _ v _ => (9 - v).toNat) ?_ tp_F x 1 M1 ⟨rfl, by omega, d2, fun u u1 u2 => by omega⟩ (tp_F_pos (by omega))
    rintro rec2 y v M2 ⟨rfl, v1, v2, v3⟩ hrec2
    unfold fx_X11_comesFrom_L17
    rw [hnn, w32_id (show -2147483648 ≤ v ∧ v < 2147483648 by omega), w32_id (show -2147483648 ≤ n ∧ n < 2147483648 by omega)]
    by_cases hv : v < n
    · rw [if_pos hv]
      refine wp_lt ?_
      have d4 := (hn.2 v v1.1 hv).1
      refine wp_lp2 (fun y i M3 => M3 = M2 ∧ (0 ≤ i ∧ i ≤ D v) ∧ rw_x n D G w a d y ∧ (∀ u : Int, 1 ≤ u → u < v → rw_in n D G w a d u → ∀ i : Int, 0 ≤ i → i < D u → ¬ G (4 * u + i) = w → ∀ j : Nat, j < 8 → (j : Int) = G (4 * u + i) → bt y j) ∧ ∀ i2 : Int, 0 ≤ i2 → i2 < i → ¬ G (4 * v + i2) = w → ∀ j : Nat, j < 8 → (j : Int) = G (4 * v + i2) → bt y j) (fun _ i _ => (9 - i).toNat) ?_ tp_F y 0 M2 ⟨rfl, by omega, v2, v3, fun i i1 i2 => by omega⟩ (tp_F_pos (by omega))
      rintro rec3 z i M3 ⟨rfl, i1, i2, i3, i4⟩ hrec3
      have fin : (rw_in n D G w a d v → ∀ i : Int, 0 ≤ i → i < D v → ¬ G (4 * v + i) = w → ∀ j : Nat, j < 8 → (j : Int) = G (4 * v + i) → bt z j) → wp (tp_lt (v + 1) (fun x27 => rec2 z x27 M3)) Q := fun hq => by
        refine wp_lt ?_
        refine hrec2 _ _ _ ⟨rfl, by omega, i2, fun u u1 u2 u3 => ?_⟩ (by omega)
        by_cases e2 : u = v
        · subst e2; exact hq u3
        · exact i3 u u1 (by omega) u3
      unfold fx_X11_comesFrom_L29
      rw [w32_id (show -2147483648 ≤ v ∧ v < 2147483648 by omega), hD, w32_id (show -2147483648 ≤ i ∧ i < 2147483648 by omega), w32_id (show -2147483648 ≤ D v ∧ D v < 2147483648 by omega)]
      refine wp_ck (by omega) ?_
      by_cases hi : i < D v
      · have hg := (hn.2 v v1.1 hv).2 i i1.1 hi
        have hvn : ((v.toNat : Nat) : Int) = v := by omega
        have hh := pm_has (a := z) (v := v) (by have := i2.1; omega) (by omega) M3
        rw [if_pos hi]
        by_cases hb : bt z v.toNat
        · have hat : rw_at n D G w a v := by have := i2.2.1 v.toNat (by omega) hb; rw [hvn] at this; exact this
          have hgo := pm_goalOf (M := M3) (a := v) (k := i) (by omega)
          rw [hG] at hgo
          rw [hh.1 hb, tp_bd_s, if_neg (show ¬ w32 1 = 0 by decide), hgo, tp_bd_s]
          refine wp_jn1 ?_
          rw [w32_id (show -2147483648 ≤ G (4 * v + i) ∧ G (4 * v + i) < 2147483648 by omega), w32_id (show -2147483648 ≤ w ∧ w < 2147483648 by omega)]
          by_cases hgw : G (4 * v + i) = w
          · rw [if_pos hgw]
            refine wp_lt ?_
            refine wp_lt ?_
            rw [x_or_0 i2.1]
            refine hrec3 _ _ _ ⟨rfl, by omega, i2, i3, fun k k1 k2 k3 => ?_⟩ (by omega)
            by_cases e : k = i
            · subst e; exact absurd hgw k3
            · exact i4 k k1 (by omega) k3
          · rw [if_neg hgw, hgo, tp_bd_s]
            dsimp only
            refine wp_lt ?_
            refine wp_lt ?_
            have ho := bt_or i2.1 (v := G (4 * v + i)) (by omega)
            refine hrec3 _ _ _ ⟨rfl, by omega, ⟨ho.1, fun j hj q => ?_, fun j hj q => ?_⟩, fun u u1 u2 u3 k k1 k2 k3 j hj e => ?_, fun k k1 k2 k3 j hj e => ?_⟩ (by omega)
            · rcases (ho.2 j).mp q with q | q
              · exact i2.2.1 j hj q
              · obtain ⟨m, hm⟩ := hat
                rw [q]
                exact ⟨m + 1, Or.inr ⟨v, ⟨v1.1, hv⟩, hm, i, ⟨i1.1, hi⟩, rfl, hgw⟩⟩
            · exact (ho.2 j).mpr (Or.inl (i2.2.2 j hj q))
            · exact (ho.2 j).mpr (Or.inl (i3 u u1 u2 u3 k k1 k2 k3 j hj e))
            · by_cases e2 : k = i
              · subst e2
                exact (ho.2 j).mpr (Or.inr e)
              · exact (ho.2 j).mpr (Or.inl (i4 k k1 (by omega) k3 j hj e))
        · rw [hh.2 hb, tp_bd_s, if_pos (show w32 0 = 0 by decide)]
          exact fin (fun q => absurd (i2.2.2 v.toNat (by omega) (by rw [hvn]; exact q)) hb)
      · rw [if_neg hi]
        exact fin (fun _ k k1 k2 => i4 k k1 (by omega))
    · rw [if_neg hv]
      refine wp_lt ?_
      refine hrec _ _ _ ⟨rfl, d + 1, by omega, by omega, rw_x_s hn v2 (fun u u1 u2 => v3 u u1 (by omega))⟩ (by omega)
  · rw [if_neg hd]
    exact wp_some (hQ _ _ ⟨rfl, rw_x_end hn ha (by omega) d2⟩)
