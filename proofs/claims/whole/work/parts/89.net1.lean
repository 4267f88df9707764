/-! NET: what was read looked through, and laid -/
theorem wp2_bd1 {o1 o2 : tp_O} {k : Int → tp_M → tp_O} {Q : Int → tp_M → Int → tp_M → Prop} (h : wp2 o1 o2 (fun r1 C1 r2 M1 => wp2 (k r1 C1) (some (r2, M1)) Q)) : wp2 (tp_bd o1 k) o2 Q := by
  obtain ⟨q1, q2, rfl, rfl, h⟩ := h
  exact h
theorem shr_bits {b n : Int} (hb : 0 ≤ b ∧ b < 256) (hn : 0 ≤ n ∧ n ≤ 8) : w32 (x_shr b n) = 0 ↔ ∀ j : Nat, j < 8 → n ≤ (j : Int) → ¬ bt b j := by
  have h : ∀ n : Nat, n < 9 → ∀ b : Nat, b < 256 → (w32 (x_shr (b : Int) (n : Int)) = 0 ↔ ∀ j : Nat, j < 8 → n ≤ j → ¬ b.testBit j = true) := by decide +kernel
  obtain ⟨b, rfl⟩ := Int.eq_ofNat_of_zero_le hb.1
  obtain ⟨n, rfl⟩ := Int.eq_ofNat_of_zero_le hn.1
  rw [h n (by omega) b (by omega)]
  exact ⟨fun q j j1 j2 => q j j1 (by omega), fun q j j1 j2 => q j j1 (by omega)⟩
theorem ones_bits {n : Int} (hn : 0 ≤ n ∧ n ≤ 8) : (0 ≤ x_shl 1 n - 1 ∧ x_shl 1 n - 1 < 256) ∧ ∀ j : Nat, j < 8 → (bt (x_shl 1 n - 1) j ↔ (j : Int) < n) := by
  have h : ∀ n : Nat, n < 9 → (0 ≤ x_shl 1 (n : Int) - 1 ∧ x_shl 1 (n : Int) - 1 < 256) ∧ ∀ j : Nat, j < 8 → ((x_shl 1 (n : Int) - 1).toNat.testBit j = true ↔ j < n) := by decide +kernel
  obtain ⟨n, rfl⟩ := Int.eq_ofNat_of_zero_le hn.1
  obtain ⟨h1, h2⟩ := h n (by omega)
  refine ⟨h1, fun j hj => ?_⟩
  unfold bt
  rw [h2 j hj]
  omega
/-- all ways go to a crossing below n -/
def n100 (n : Int) (D G : Int → Int) : Prop := ∀ v : Int, 1 ≤ v → v < n → ∀ k : Int, 0 ≤ k → k < D v → G (4 * v + k) < n
section CK
variable {n : Int} {D G : Int → Int}
theorem nw_shr {b v d : Int} (h : nw b G v d) (hn : 2 ≤ n ∧ n ≤ 8) : w32 (x_shr b n) = 0 ↔ ∀ k : Int, 0 ≤ k → k < d → G (4 * v + k) < n := by
  obtain ⟨h1, h2, h3⟩ := h
  rw [shr_bits h1 (by omega)]
  constructor
  · intro q k k1 k2
    have := h3 k k1 k2
    refine Classical.byContradiction (fun c => ?_)
    refine q (G (4 * v + k)).toNat (by omega) (by omega) ((h2 _ (by omega)).mpr ⟨k, k1, k2, by omega⟩)
  · intro q j j1 j2 hb
    obtain ⟨m, m1, m2, m3⟩ := (h2 j j1).mp hb
    have := q m m1 m2
    omega
theorem cs_check_L2 {C : tp_M} {K : tp_M → tp_O} (h4 : C 10 4 = n) (hn : 2 ≤ n ∧ n ≤ 8) (hr : ∀ v : Int, 1 ≤ v → v < n → crow C G v (D v)) : (n100 n D G → tp_lp1 (fx_X4_check_L2 10 K) tp_F 1 C = K C) ∧ (¬ n100 n D G → tp_lp1 (fx_X4_check_L2 10 K) tp_F 1 C = some (-100, C)) := by
  have step : ∀ (rec : Int → tp_M → tp_O) (z : Int), 1 ≤ z → z < n → fx_X4_check_L2 10 K rec z C = if w32 (x_shr (C 13 z) n) = 0 then rec (z + 1) C else some (-100, C) := fun rec z z1 z2 => by
    unfold fx_X4_check_L2
    rw [h4, w32_id (show -2147483648 ≤ z ∧ z < 2147483648 by omega), w32_id (show -2147483648 ≤ n ∧ n < 2147483648 by omega), if_pos z2, tp_ck_t (by omega)]
    rfl
  have last : ∀ (rec : Int → tp_M → tp_O), fx_X4_check_L2 10 K rec n C = K C := fun rec => by
    unfold fx_X4_check_L2
    rw [h4, if_neg (by omega)]
  constructor
  · intro hg
    have gen : ∀ (f fuel : Nat) (z : Int), z + (f : Int) = n → 1 ≤ z → f < fuel → tp_lp1 (fx_X4_check_L2 10 K) fuel z C = K C := by
      intro f
      induction f with
      | zero =>
        intro fuel z hz z1 hf
        obtain ⟨fuel, rfl⟩ : ∃ k, fuel = k + 1 := ⟨fuel - 1, by omega⟩
        have : z = n := by omega
        rw [tp_lp1_s, this, last]
      | succ f ih =>
        intro fuel z hz z1 hf
        obtain ⟨fuel, rfl⟩ : ∃ k, fuel = k + 1 := ⟨fuel - 1, by omega⟩
        rw [tp_lp1_s, step _ z z1 (by omega), if_pos ((nw_shr (hr z z1 (by omega)).2.1 hn).mpr (hg z z1 (by omega)))]
        exact ih fuel (z + 1) (by omega) (by omega) (by omega)
    exact gen (n - 1).toNat tp_F 1 (by omega) (by omega) (tp_F_pos (by omega))
  · intro hg
    have gen : ∀ (f fuel : Nat) (z : Int), z + (f : Int) = n → 1 ≤ z → f < fuel → (∀ v : Int, 1 ≤ v → v < z → ∀ k : Int, 0 ≤ k → k < D v → G (4 * v + k) < n) → tp_lp1 (fx_X4_check_L2 10 K) fuel z C = some (-100, C) := by
      intro f
      induction f with
      | zero =>
        intro fuel z hz z1 hf hb
        have : z = n := by omega
        rw [this] at hb
        exact absurd hb hg
      | succ f ih =>
        intro fuel z hz z1 hf hb
        obtain ⟨fuel, rfl⟩ : ∃ k, fuel = k + 1 := ⟨fuel - 1, by omega⟩
        rw [tp_lp1_s, step _ z z1 (by omega)]
        by_cases c : w32 (x_shr (C 13 z) n) = 0
        · rw [if_pos c]
          refine ih fuel (z + 1) (by omega) (by omega) (by omega) (fun v v1 v2 => ?_)
          by_cases e : v = z
          · rw [e]; exact (nw_shr (hr z z1 (by omega)).2.1 hn).mp c
          · exact hb v v1 (by omega)
        · rw [if_neg c]
    exact gen (n - 1).toNat tp_F 1 (by omega) (by omega) (tp_F_pos (by omega)) (fun v v1 v2 => by omega)
/-- the reference's look -/
theorem ps_net100 {M : tp_M} {K : tp_M → tp_O} (h15 : M 0 15 = n - 1) (hn : 2 ≤ n ∧ n ≤ 8) (hD : M 7 = D) (hG : M 8 = G) (hd : ∀ v : Int, 1 ≤ v → v < n → 1 ≤ D v ∧ D v ≤ 4) (hg : ∀ v : Int, 1 ≤ v → v < n → ∀ k : Int, 0 ≤ k → k < D v → 0 ≤ G (4 * v + k) ∧ G (4 * v + k) < 8) : (n100 n D G → tp_lp1 (fx_X11_net_L76 K) tp_F 1 M = K M) ∧ (¬ n100 n D G → tp_lp1 (fx_X11_net_L76 K) tp_F 1 M = some (-100, M)) := by
  have inner : ∀ (K2 : tp_M → tp_O) (v : Int), 1 ≤ v → v < n → ((∀ k : Int, 0 ≤ k → k < D v → G (4 * v + k) < n) → tp_lp1 (fx_X11_net_L87 v K2) tp_F 0 M = K2 M) ∧ (¬ (∀ k : Int, 0 ≤ k → k < D v → G (4 * v + k) < n) → tp_lp1 (fx_X11_net_L87 v K2) tp_F 0 M = some (-100, M)) := fun K2 v v1 v2 => by
    have d4 := hd v v1 v2
    have step : ∀ (rec : Int → tp_M → tp_O) (z : Int), 0 ≤ z → z < D v → fx_X11_net_L87 v K2 rec z M = if G (4 * v + z) < n then rec (z + 1) M else some (-100, M) := fun rec z z1 z2 => by
      have := hg v v1 v2 z z1 z2
      unfold fx_X11_net_L87
      rw [w32_id (show -2147483648 ≤ v ∧ v < 2147483648 by omega), tp_ck_t (by omega), hD, hG, h15, w32_id (show -2147483648 ≤ z ∧ z < 2147483648 by omega), w32_id (show -2147483648 ≤ D v ∧ D v < 2147483648 by omega), if_pos z2, w32_id (show -2147483648 ≤ 4 * v + z ∧ 4 * v + z < 2147483648 by omega), tp_ck_t (by omega), w32_id (show -2147483648 ≤ G (4 * v + z) ∧ G (4 * v + z) < 2147483648 by omega), w32_id (show -2147483648 ≤ n - 1 ∧ n - 1 < 2147483648 by omega)]
      by_cases c : G (4 * v + z) < n
      · rw [if_pos c, if_pos (by omega), tp_lt_s]
      · rw [if_neg c, if_neg (by omega)]
    have last : ∀ (rec : Int → tp_M → tp_O), fx_X11_net_L87 v K2 rec (D v) M = K2 M := fun rec => by
      unfold fx_X11_net_L87
      rw [w32_id (show -2147483648 ≤ v ∧ v < 2147483648 by omega), tp_ck_t (by omega), hD, if_neg (by omega)]
    have gen : ∀ (f fuel : Nat) (z : Int), z + (f : Int) = D v → 0 ≤ z → f < fuel → (∀ k : Int, 0 ≤ k → k < z → G (4 * v + k) < n) → ((∀ k : Int, 0 ≤ k → k < D v → G (4 * v + k) < n) → tp_lp1 (fx_X11_net_L87 v K2) fuel z M = K2 M) ∧ (¬ (∀ k : Int, 0 ≤ k → k < D v → G (4 * v + k) < n) → tp_lp1 (fx_X11_net_L87 v K2) fuel z M = some (-100, M)) := by
      intro f
      induction f with
      | zero =>
        intro fuel z hz z1 hf hb
        obtain ⟨fuel, rfl⟩ : ∃ k, fuel = k + 1 := ⟨fuel - 1, by omega⟩
        have : z = D v := by omega
        subst this
        rw [tp_lp1_s, last]
        exact ⟨fun _ => rfl, fun q => absurd hb q⟩
      | succ f ih =>
        intro fuel z hz z1 hf hb
        obtain ⟨fuel, rfl⟩ : ∃ k, fuel = k + 1 := ⟨fuel - 1, by omega⟩
        rw [tp_lp1_s, step _ z z1 (by omega)]
        by_cases c : G (4 * v + z) < n
        · rw [if_pos c]
          refine ih fuel (z + 1) (by omega) (by omega) (by omega) (fun k k1 k2 => ?_)
          by_cases e : k = z
          · rw [e]; exact c
          · exact hb k k1 (by omega)
        · rw [if_neg c]
          exact ⟨fun q => absurd (q z z1 (by omega)) c, fun _ => rfl⟩
    exact gen (D v).toNat tp_F 0 (by omega) (by omega) (tp_F_pos (by omega)) (fun k k1 k2 => by omega)
  have last : ∀ (rec : Int → tp_M → tp_O), fx_X11_net_L76 K rec n M = K M := fun rec => by
    unfold fx_X11_net_L76
    rw [h15, w32_id (show -2147483648 ≤ n ∧ n < 2147483648 by omega), w32_id (show -2147483648 ≤ n - 1 ∧ n - 1 < 2147483648 by omega), if_neg (by omega)]
  have step : ∀ (rec : Int → tp_M → tp_O) (z : Int), 1 ≤ z → z < n → fx_X11_net_L76 K rec z M = tp_lp1 (fx_X11_net_L87 z (fun M28 => tp_lt (z + 1) (fun x29 => rec x29 M28))) tp_F 0 M := fun rec z z1 z2 => by
    unfold fx_X11_net_L76
    rw [h15, w32_id (show -2147483648 ≤ z ∧ z < 2147483648 by omega), w32_id (show -2147483648 ≤ n - 1 ∧ n - 1 < 2147483648 by omega), if_pos (by omega), tp_lt_s]
  have gen : ∀ (f fuel : Nat) (z : Int), z + (f : Int) = n → 1 ≤ z → f < fuel → (∀ v : Int, 1 ≤ v → v < z → ∀ k : Int, 0 ≤ k → k < D v → G (4 * v + k) < n) → (n100 n D G → tp_lp1 (fx_X11_net_L76 K) fuel z M = K M) ∧ (¬ n100 n D G → tp_lp1 (fx_X11_net_L76 K) fuel z M = some (-100, M)) := by
    intro f
    induction f with
    | zero =>
      intro fuel z hz z1 hf hb
      obtain ⟨fuel, rfl⟩ : ∃ k, fuel = k + 1 := ⟨fuel - 1, by omega⟩
      have : z = n := by omega
      subst this
      rw [tp_lp1_s, last]
      exact ⟨fun _ => rfl, fun q => absurd hb q⟩
    | succ f ih =>
      intro fuel z hz z1 hf hb
      obtain ⟨fuel, rfl⟩ : ∃ k, fuel = k + 1 := ⟨fuel - 1, by omega⟩
      rw [tp_lp1_s, step _ z z1 (by omega)]
      obtain ⟨i1, i2⟩ := inner (fun M28 => tp_lt (z + 1) (fun x29 => tp_lp1 (fx_X11_net_L76 K) fuel x29 M28)) z z1 (by omega)
      by_cases c : ∀ k : Int, 0 ≤ k → k < D z → G (4 * z + k) < n
      · rw [i1 c, tp_lt_s]
        refine ih fuel (z + 1) (by omega) (by omega) (by omega) (fun v v1 v2 => ?_)
        by_cases e : v = z
        · rw [e]; exact c
        · exact hb v v1 (by omega)
      · rw [i2 c]
        exact ⟨fun q => absurd (q z z1 (by omega)) c, fun _ => rfl⟩
  exact gen (n - 1).toNat tp_F 1 (by omega) (by omega) (tp_F_pos (by omega)) (fun v v1 v2 => by omega)
/-- from each one comes to the inn -/
def n101 (n : Int) (D G : Int → Int) : Prop := ∀ v : Int, 0 ≤ v → v < n → ∃ d : Nat, nt_in n D G 0 d v
theorem ps_allCome {M : tp_M} (h15 : M 0 15 = n - 1) (hD : M 7 = D) (hG : M 8 = G) (hn : nt_net n D G) : (n101 n D G → fx_X11_allCome M = some (1, M)) ∧ (¬ n101 n D G → fx_X11_allCome M = some (0, M)) := by
  have n8 := hn.1
  have main : ∃ x : Int, (0 ≤ x ∧ x < 256) ∧ (∀ j : Nat, j < 8 → (bt x j ↔ (j : Int) < n ∧ ∃ d : Nat, nt_in n D G 0 d (j : Int))) ∧ fx_X11_allCome M = if w32 x = w32 (x_shl 1 (n - 1 + 1) - 1) then some (1, M) else some (0, M) := by
    have hw : wp (fx_X11_allCome M) (fun r M1 => ∃ x : Int, ((0 ≤ x ∧ x < 256) ∧ ∀ j : Nat, j < 8 → (bt x j ↔ (j : Int) < n ∧ ∃ d : Nat, nt_in n D G 0 d (j : Int))) ∧ M1 = M ∧ r = if w32 x = w32 (x_shl 1 (n - 1 + 1) - 1) then 1 else 0) := by
      refine wp_K (fun Q hQ => ?_)
      unfold fx_X11_allCome
      refine wp_lt ?_
      refine wp_lt ?_
      refine wp_lp2 (fun x r M1 => M1 = M ∧ ∃ d : Nat, r = (d : Int) ∧ (d : Int) ≤ 8 ∧ (0 ≤ x ∧ x < 256) ∧ (∀ j : Nat, j < 8 → bt x j → (j : Int) < n ∧ ∃ d : Nat, nt_in n D G 0 d (j : Int)) ∧ ∀ j : Nat, (j : Int) < n → nt_in n D G 0 d (j : Int) → bt x j) (fun _ r _ => (9 - r).toNat) ?_ tp_F 1 0 M ⟨rfl, 0, rfl, by omega, by omega, fun j hj q => ?_, fun j hj q => ?_⟩ (tp_F_pos (by omega))
      · rintro rec x r M1 ⟨rfl, d, rfl, d1, x1, x2, x3⟩ hrec
        unfold fx_X11_allCome_L4
        rw [w32_id (show -2147483648 ≤ (d : Int) ∧ (d : Int) < 2147483648 by omega)]
        by_cases hd : (d : Int) < 8
        · rw [if_pos hd]
          refine wp_lt ?_
          refine wp_lp2 (fun y v M2 => M2 = M1 ∧ (1 ≤ v ∧ v ≤ n) ∧ (0 ≤ y ∧ y < 256) ∧ (∀ j : Nat, j < 8 → bt y j → (j : Int) < n ∧ ∃ d : Nat, nt_in n D G 0 d (j : Int)) ∧ (∀ j : Nat, (j : Int) < n → nt_in n D G 0 d (j : Int) → bt y j) ∧ ∀ j : Nat, (j : Int) < v → nt_in n D G 0 (d + 1) (j : Int) → bt y j) (fun _ v _ => (9 - v).toNat) ?_ tp_F x 1 M1 ⟨rfl, by omega, x1, x2, x3, fun j hj q => ?_⟩ (tp_F_pos (by omega))
          · rintro rec2 y v M2 ⟨rfl, v1, y1, y2, y3, y4⟩ hrec2
            unfold fx_X11_allCome_L12
            rw [h15, w32_id (show -2147483648 ≤ v ∧ v < 2147483648 by omega), w32_id (show -2147483648 ≤ n - 1 ∧ n - 1 < 2147483648 by omega)]
            by_cases hv : v < n
            · rw [if_pos (by omega)]
              refine wp_lt ?_
              have d4 := (hn.2 v v1.1 hv).1
              refine wp_lp2 (fun y i M3 => M3 = M2 ∧ (0 ≤ i ∧ i ≤ D v) ∧ (0 ≤ y ∧ y < 256) ∧ (∀ j : Nat, j < 8 → bt y j → (j : Int) < n ∧ ∃ d : Nat, nt_in n D G 0 d (j : Int)) ∧ (∀ j : Nat, (j : Int) < n → nt_in n D G 0 d (j : Int) → bt y j) ∧ (∀ j : Nat, (j : Int) < v → nt_in n D G 0 (d + 1) (j : Int) → bt y j) ∧ ∀ k : Int, 0 ≤ k → k < i → nt_in n D G 0 d (G (4 * v + k)) → bt y v.toNat) (fun _ i _ => (9 - i).toNat) ?_ tp_F y 0 M2 ⟨rfl, by omega, y1, y2, y3, y4, fun k k1 k2 => by omega⟩ (tp_F_pos (by omega))
              rintro rec3 z i M3 ⟨rfl, i1, z1, z2, z3, z4, z5⟩ hrec3
              have hvn : ((v.toNat : Nat) : Int) = v := by omega
              unfold fx_X11_allCome_L23
              rw [w32_id (show -2147483648 ≤ v ∧ v < 2147483648 by omega), hD, hG, w32_id (show -2147483648 ≤ i ∧ i < 2147483648 by omega), w32_id (show -2147483648 ≤ D v ∧ D v < 2147483648 by omega)]
              refine wp_ck (by omega) ?_
              by_cases hi : i < D v
              · have hg := (hn.2 v v1.1 hv).2 i i1.1 hi
                rw [if_pos hi, w32_id (show -2147483648 ≤ 4 * v + i ∧ 4 * v + i < 2147483648 by omega)]
                refine wp_ck (by omega) ?_
                have hh := pm_has (a := z) (v := G (4 * v + i)) (by omega) (by omega) M3
                have hgn : (((G (4 * v + i)).toNat : Nat) : Int) = G (4 * v + i) := by omega
                by_cases hb : bt z (G (4 * v + i)).toNat
                · rw [hh.1 hb, tp_bd_s]
                  refine wp_jn1 ?_
                  rw [if_neg (show ¬ w32 1 = 0 by decide)]
                  refine wp_lt ?_
                  refine wp_lt ?_
                  have ho := bt_or z1 (v := v) (by omega)
                  refine hrec3 _ _ _ ⟨rfl, by omega, ho.1, fun j hj q => ?_, fun j hj q => (ho.2 j).mpr (Or.inl (z3 j hj q)), fun j hj q => (ho.2 j).mpr (Or.inl (z4 j hj q)), fun k k1 k2 q => (ho.2 _).mpr (Or.inr hvn)⟩ (by omega)
                  rcases (ho.2 j).mp q with q | q
                  · exact z2 j hj q
                  · obtain ⟨-, e, he⟩ := z2 _ (by omega) hb
                    rw [hgn] at he
                    rw [q]
                    exact ⟨hv, e + 1, Or.inr ⟨v1.1, hv, i, i1.1, hi, he⟩⟩
                · rw [hh.2 hb, tp_bd_s]
                  refine wp_jn1 ?_
                  rw [if_pos (show w32 0 = 0 by decide)]
                  refine wp_lt ?_
                  refine wp_lt ?_
                  rw [x_or_0 z1]
                  refine hrec3 _ _ _ ⟨rfl, by omega, z1, z2, z3, z4, fun k k1 k2 q => ?_⟩ (by omega)
                  by_cases e : k = i
                  · rw [e] at q
                    exact absurd (z3 _ (by omega) (by rw [hgn]; exact q)) hb
                  · exact z5 k k1 (by omega) q
              · rw [if_neg hi]
                refine wp_lt ?_
                refine hrec2 _ _ _ ⟨rfl, by omega, z1, z2, z3, fun j hj q => ?_⟩ (by omega)
                by_cases e : (j : Int) = v
                · rcases q with q | ⟨-, -, k, k1, k2, k3⟩
                  · exact z3 j (by omega) q
                  · rw [e] at k2 k3
                    have := z5 k k1 (by omega) k3
                    rw [show v.toNat = j by omega] at this
                    exact this
                · exact z4 j (by omega) q
            · rw [if_neg (by omega)]
              refine wp_lt ?_
              refine hrec _ _ _ ⟨rfl, d + 1, by omega, by omega, y1, y2, fun j hj q => y4 j (by omega) q⟩ (by omega)
          · rw [show j = 0 by omega] at q ⊢
            refine x3 0 (by omega) (ms_0 q)
        · rw [if_neg hd]; (try dsimp only); rw [h15]
          have hfin : ∀ j : Nat, j < 8 → (bt x j ↔ (j : Int) < n ∧ ∃ d : Nat, nt_in n D G 0 d (j : Int)) := fun j hj => ⟨x2 j hj, fun ⟨q1, e, q2⟩ => by
            obtain ⟨e2, e3, e4⟩ := far_8 hn (by omega) (v := (j : Int)) ⟨by omega, q1⟩ q2
            exact x3 j q1 (in_mono e4.1 d (by omega))⟩
          by_cases c : w32 x = w32 (x_shl 1 (n - 1 + 1) - 1)
          · rw [if_pos c]
            exact wp_some (hQ _ _ ⟨x, ⟨x1, hfin⟩, rfl, by rw [if_pos c]⟩)
          · rw [if_neg c]
            exact wp_some (hQ _ _ ⟨x, ⟨x1, hfin⟩, rfl, by rw [if_neg c]⟩)
      · have h1 : j = 0 := by
          have := (bt_one (v := 0) (by omega)).2 j
          rw [show x_shl 1 0 = 1 from by decide] at this
          have := this.mp q
          omega
        rw [h1]
        exact ⟨by omega, 0, rfl⟩
      · have q : (j : Int) = 0 := q
        have := (bt_one (v := 0) (by omega)).2 j
        rw [show x_shl 1 0 = 1 from by decide] at this
        exact this.mpr q
    obtain ⟨r, M1, e, x, ⟨x1, x2⟩, rfl, rfl⟩ := hw
    refine ⟨x, x1, x2, ?_⟩
    rw [e]
    split <;> rfl
  obtain ⟨x, x1, x2, x3⟩ := main
  obtain ⟨o1, o2⟩ := ones_bits (n := n) (by omega)
  rw [show n - 1 + 1 = n by omega, w32_id (show -2147483648 ≤ x ∧ x < 2147483648 by omega), w32_id (show -2147483648 ≤ x_shl 1 n - 1 ∧ x_shl 1 n - 1 < 2147483648 by omega)] at x3
  constructor
  · intro q
    have : x = x_shl 1 n - 1 := bt_ext x1 o1 (fun j hj => by
      rw [x2 j hj, o2 j hj]
      exact ⟨fun w => w.1, fun w => ⟨w, q j (by omega) w⟩⟩)
    rw [x3, if_pos this]
  · intro q
    have : ¬ x = x_shl 1 n - 1 := fun c => q (fun v v1 v2 => by
      have h1 := (o2 v.toNat (by omega)).mpr (by omega)
      rw [← c] at h1
      have h2 := ((x2 v.toNat (by omega)).mp h1).2
      rw [show ((v.toNat : Nat) : Int) = v by omega] at h2
      exact h2)
    rw [x3, if_neg this]
/-- the other look -/
theorem cs_check {C : tp_M} (h4 : C 10 4 = n) (hn : 2 ≤ n ∧ n ≤ 8) (hd : ∀ v : Int, 1 ≤ v → v < n → 1 ≤ D v ∧ D v ≤ 4) (hr : ∀ v : Int, 1 ≤ v → v < n → crow C G v (D v)) :
    (¬ n100 n D G → fx_X4_check 10 C = some (-100, C)) ∧ (n100 n D G → nt_net n D G ∧ (¬ n101 n D G → wp (fx_X4_check 10 C) (fun r C1 => r = -101 ∧ tp_fr [14] C C1)) ∧ (n101 n D G → wp (fx_X4_check 10 C) (fun r C1 => r = n ∧ tp_fr [14] C C1 ∧ ∀ v : Int, 0 ≤ v → v < n → ∃ d : Nat, d < 8 ∧ C1 14 v = (d : Int) ∧ nt_far n D G 0 v d))) := by
  constructor
  · intro q
    unfold fx_X4_check
    rw [tp_lt_s, (cs_check_L2 h4 hn hr).2 q]
  · intro q
    have hnet : nt_net n D G := ⟨hn, fun v v1 v2 => ⟨hd v v1 v2, fun k k1 k2 => by
      have h3 := (hr v v1 v2).2.1.2.2 k k1 k2
      exact ⟨h3.1, q v v1 v2 k k1 k2, h3.2.2⟩⟩⟩
    have hb8 : ∀ v : Int, 1 ≤ v → v < n → nt_bits D G v (C 13 v) := fun v v1 v2 => ⟨(hr v v1 v2).2.1.1, (hr v v1 v2).2.1.2.1⟩
    have run : ∀ Q : Int → tp_M → Prop, (∀ C1 : tp_M, tp_fr [14] C C1 → ms_ok n D G 0 (C1 14) → wp (tp_lp1 (fx_X4_check_L44 10) tp_F 1 C1) Q) → wp (fx_X4_check 10 C) Q := fun Q h => by
      unfold fx_X4_check
      rw [tp_lt_s, (cs_check_L2 h4 hn hr).1 q]
      refine wp_call (cs_measure_d (g := 0) h4 hnet hb8 (by omega)) (fun _ C1 w => ?_)
      refine wp_lt ?_
      exact h C1 w.1 w.2
    refine ⟨hnet, fun c => run _ (fun C1 f m => ?_), fun c => run _ (fun C1 f m => ?_)⟩
    · have e4 : C1 10 4 = n := by rw [f 10 (by simp)]; exact h4
      have hbad : ∃ v : Int, (1 ≤ v ∧ v < n) ∧ C1 14 v = -1 := by
        refine Classical.byContradiction (fun h => c (fun v v1 v2 => ?_))
        rcases m v v1 v2 with ⟨d, -, -, d3⟩ | ⟨d1, d2⟩
        · exact ⟨d, d3.1⟩
        · by_cases v0 : v = 0
          · exact ⟨0, v0⟩
          · exact absurd ⟨v, ⟨by omega, v2⟩, d1⟩ h
      obtain ⟨v, v1, v2⟩ := hbad
      refine wp_lp1 (fun z C2 => C2 = C1 ∧ 1 ≤ z ∧ z ≤ v) (fun z _ => (8 - z).toNat) ?_ tp_F 1 C1 ⟨rfl, by omega, by omega⟩ (tp_F_pos (by omega))
      rintro rec z C2 ⟨rfl, z1, z2⟩ hrec
      unfold fx_X4_check_L44
      rw [e4, w32_id (show -2147483648 ≤ z ∧ z < 2147483648 by omega), w32_id (show -2147483648 ≤ n ∧ n < 2147483648 by omega), if_pos (by omega), show (10 + 4) = 14 from rfl]
      refine wp_ck (by omega) ?_
      have hz := m z (by omega) (by omega)
      by_cases cz : w32 (C2 14 z) < 0
      · rw [if_pos cz]
        exact wp_some ⟨rfl, f⟩
      · rw [if_neg cz]
        refine wp_lt ?_
        refine hrec _ _ ⟨rfl, by omega, ?_⟩ (by omega)
        have : ¬ z = v := fun e => cz (by rw [e, v2]; decide)
        omega
    · have e4 : C1 10 4 = n := by rw [f 10 (by simp)]; exact h4
      have hok : ∀ v : Int, 0 ≤ v → v < n → ∃ d : Nat, d < 8 ∧ C1 14 v = (d : Int) ∧ nt_far n D G 0 v d := fun v v1 v2 => by
        rcases m v v1 v2 with h | ⟨d1, d2⟩
        · exact h
        · obtain ⟨d, hd⟩ := c v v1 v2
          exact absurd hd (d2 d)
      refine wp_lp1 (fun z C2 => C2 = C1 ∧ 1 ≤ z ∧ z ≤ n) (fun z _ => (8 - z).toNat) ?_ tp_F 1 C1 ⟨rfl, by omega, by omega⟩ (tp_F_pos (by omega))
      rintro rec z C2 ⟨rfl, z1, z2⟩ hrec
      unfold fx_X4_check_L44
      rw [e4, w32_id (show -2147483648 ≤ z ∧ z < 2147483648 by omega), w32_id (show -2147483648 ≤ n ∧ n < 2147483648 by omega), show (10 + 4) = 14 from rfl]
      by_cases hz : z < n
      · rw [if_pos hz]
        refine wp_ck (by omega) ?_
        obtain ⟨d, d1, d2, -⟩ := hok z (by omega) hz
        rw [d2, w32_id (by omega), if_neg (by omega)]
        refine wp_lt ?_
        exact hrec _ _ ⟨rfl, by omega, by omega⟩ (by omega)
      · rw [if_neg hz]
        exact wp_some ⟨rfl, f, hok⟩
end CK
