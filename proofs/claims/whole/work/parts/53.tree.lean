/-! FOLLOWS, TREE -/
theorem pm_has {a v : Int} (ha : 0 ≤ a ∧ a < 2147483648) (hv : 0 ≤ v ∧ v < 8) (M : tp_M) : (bt a v.toNat → fx_X11_has a v M = some (1, M)) ∧ (¬ bt a v.toNat → fx_X11_has a v M = some (0, M)) := by
  have h := bt_shr ha hv (j := v.toNat) (by omega)
  unfold fx_X11_has
  rw [x_and_w, h]
  constructor
  · intro q
    rw [if_pos (show a.toNat.testBit v.toNat = true from q), if_pos rfl]
  · intro q
    rw [if_neg (show ¬ a.toNat.testBit v.toNat = true from q), if_neg (by decide)]
/-- a walk that ends at v or below -/
def ob_st (φ : Int → Int) (v : Int) : Nat → Int → Int
  | 0, a => a
  | k + 1, a => if a ≤ v then a else ob_st φ v k (φ a)
theorem ob_st_le {φ : Int → Int} {v a : Int} (h : a ≤ v) : ∀ k : Nat, ob_st φ v k a = a := by
  intro k
  cases k with
  | zero => rfl
  | succ k => exact if_pos h
theorem ob_st_s (φ : Int → Int) (v : Int) : ∀ (k : Nat) (a : Int), ob_st φ v (k + 1) a = if ob_st φ v k a ≤ v then ob_st φ v k a else φ (ob_st φ v k a) := by
  intro k
  induction k with
  | zero => intro a; rfl
  | succ k ih =>
    intro a
    by_cases h : a ≤ v
    · rw [ob_st_le h, ob_st_le h, if_pos h]
    · have e1 : ob_st φ v (k + 1 + 1) a = ob_st φ v (k + 1) (φ a) := if_neg h
      have e2 : ob_st φ v (k + 1) a = ob_st φ v k (φ a) := if_neg h
      rw [e1, ih, e2]
theorem ob_st_ob (φ : Int → Int) (v w : Int) : ∀ k : Nat, (∀ i : Nat, i < k → ¬ ob φ w i ≤ v) → ob_st φ v k w = ob φ w k := by
  intro k
  induction k with
  | zero => intro _; rfl
  | succ k ih =>
    intro h
    rw [ob_st_s, ih (fun i hi => h i (by omega)), if_neg (h k (by omega))]
    rfl
theorem ob_st_gt {φ : Int → Int} {v w : Int} : ∀ k : Nat, ¬ ob_st φ v k w ≤ v → ∀ i : Nat, i ≤ k → ¬ ob φ w i ≤ v := by
  intro k
  induction k with
  | zero => intro h i hi; rw [show i = 0 by omega]; exact h
  | succ k ih =>
    intro h i hi
    rw [ob_st_s] at h
    by_cases h1 : ob_st φ v k w ≤ v
    · rw [if_pos h1] at h; exact absurd h1 h
    · rw [if_neg h1] at h
      have h2 := ih h1
      by_cases hik : i ≤ k
      · exact h2 i hik
      · rw [show i = k + 1 by omega]
        rw [ob_st_ob φ v w k (fun i hi => h2 i (by omega))] at h
        exact h
theorem ob_st_8 {G R : Int → Int} {v : Int} (hob : ∀ k : Nat, 0 ≤ ob (ob_phi G R) v k) (k : Nat) : ob_st (ob_phi G R) 0 k v = ob (ob_phi G R) v k := by
  induction k with
  | zero => rfl
  | succ k ih =>
    rw [ob_st_s, ih]
    by_cases h : ob (ob_phi G R) v k ≤ 0
    · have h0 : ob (ob_phi G R) v k = 0 := by have := hob k; omega
      rw [if_pos h]
      show _ = ob_phi G R (ob (ob_phi G R) v k)
      rw [h0, phi_0]
    · rw [if_neg h]; rfl
section OB
variable {n : Int} {D G R : Int → Int}
theorem ob_eight (hn : nt_net n D G) (hR : ∀ u : Int, 1 ≤ u → u < n → 0 ≤ R u ∧ R u < D u) {v : Int} (hv : 0 ≤ v ∧ v < n) : (∃ k : Nat, ob (ob_phi G R) v k = 0) ↔ ob (ob_phi G R) v 8 = 0 := by
  have hob := ob_in hn hR hv
  have n8 := hn.1
  constructor
  · rintro ⟨k, hk⟩
    by_cases h8 : ob (ob_phi G R) v 8 = 0
    · exact h8
    · exfalso
      have hz : ∀ i : Nat, i ≤ 8 → ¬ ob (ob_phi G R) v i = 0 := fun i hi q => h8 (ob_zero q 8 hi)
      obtain ⟨i, j, h1, h2, h3⟩ := ob_seven (φ := ob_phi G R) (v := v) (m := 7) 1 (fun k hk => by
        have a := hob k
        have b := hz k (by omega)
        omega)
      exact ob_stay h1 h3 (P := fun w => ¬ w = 0) (fun k hk => hz k (by omega)) k hk
  · intro h
    exact ⟨8, h⟩
theorem ob_ring (hn : nt_net n D G) (hR : ∀ u : Int, 1 ≤ u → u < n → 0 ≤ R u ∧ R u < D u) {v : Int} (hv : 1 ≤ v ∧ v < n) : ob_st (ob_phi G R) v 7 (ob_phi G R v) = v ↔ ob_st (ob_phi G R) v 8 (ob_phi G R v) = v := by
  have n8 := hn.1
  rw [ob_st_s (ob_phi G R) v 7]
  by_cases h : ob_st (ob_phi G R) v 7 (ob_phi G R v) ≤ v
  · rw [if_pos h]
  · rw [if_neg h]
    have hgt := ob_st_gt 7 h
    rw [ob_st_ob _ _ _ 7 (fun i hi => hgt i (by omega))] at h ⊢
    constructor
    · intro q; omega
    · intro q
      exfalso
      have hv1 := ob_in hn hR (v := v) (by omega)
      have hob : ∀ k : Nat, 0 ≤ ob (ob_phi G R) (ob_phi G R v) k ∧ ob (ob_phi G R) (ob_phi G R v) k < n := ob_in hn hR (hv1 1)
      obtain ⟨i, j, h1, h2, h3⟩ := ob_seven (φ := ob_phi G R) (v := ob_phi G R v) (m := 7) 1 (fun k hk => by
        have a := hob k
        have b := hgt k hk
        omega)
      have hst := ob_stay h1 h3 (P := fun w => ¬ w ≤ v) (fun k hk => hgt k (by omega)) 8
      have e : ob (ob_phi G R) (ob_phi G R v) 8 = ob_phi G R (ob (ob_phi G R) (ob_phi G R v) 7) := rfl
      rw [← e] at q
      omega
end OB
/-- the class's walk round a ring -/
theorem cs_ring {C : tp_M} {n : Int} {D G R : Int → Int} {v : Int} (hN : nC C n D G) (hR : ∀ u : Int, 1 ≤ u → u < n → C 26 u = R u ∧ 0 ≤ R u ∧ R u < D u) (hv : 1 ≤ v ∧ v < n) : fx_X10_isFirstOfRing v C = some (if ob_st (ob_phi G R) v 7 (ob_phi G R v) = v then 1 else 0, C) := by
  have n8 := cn_n hN
  have hR2 : ∀ u : Int, 1 ≤ u → u < n → 0 ≤ R u ∧ R u < D u := fun u u1 u2 => (hR u u1 u2).2
  have hphi : ∀ w : Int, 0 ≤ w ∧ w < n → 0 ≤ ob_phi G R w ∧ ob_phi G R w < n := fun w hw => ob_in hN.2.1 hR2 hw 1
  have hlp : ∀ (K : Int → tp_M → tp_O) (m k : Nat) (a g : Int), g + (m : Int) = 8 → 0 ≤ g → m < k → (0 ≤ a ∧ a < n) → tp_lp2 (fx_X10_isFirstOfRing_L20 v K) k a g C = K (ob_st (ob_phi G R) v m a) C := by
    intro K m
    induction m with
    | zero =>
      intro k a g hg h0 hk ha
      cases k with
      | zero => omega
      | succ k =>
        rw [tp_lp2_s, fx_X10_isFirstOfRing_L20]
        rw [w32_id (by omega), if_neg (by omega)]
        rfl
    | succ m ih =>
      intro k a g hg h0 hk ha
      cases k with
      | zero => omega
      | succ k =>
        rw [tp_lp2_s, fx_X10_isFirstOfRing_L20]
        by_cases hle : a ≤ v
        · simp (disch := omega) only [↓tp_lm_n, ↓tp_lt_n, ↓tp_bd_n, ↓tp_jn0_n, ↓tp_jn1_n, ↓tp_jn2_n, ↓tp_jn3_n, w32_id, if_pos, if_neg, if_true, if_false, tp_ck_t, tp_nz_t, tp_gd_i]
          rw [ob_st_le hle]
        · have hr := hR a (by omega) ha.2
          have hp := hphi a ha
          have e : ob_phi G R a = G (4 * a + R a) := phi_n (by omega)
          simp (disch := omega) only [↓tp_lm_n, ↓tp_lt_n, ↓tp_bd_n, ↓tp_jn0_n, ↓tp_jn1_n, ↓tp_jn2_n, ↓tp_jn3_n, w32_id, if_pos, if_neg, if_true, if_false, tp_ck_t, tp_nz_t, tp_gd_i, hr.1, cn_goal hN (a := a) (k := R a) ⟨by omega, ha.2⟩ hr.2]
          rw [← e, ih k _ _ (by omega) (by omega) (by omega) hp]
          show _ = K (if a ≤ v then a else ob_st (ob_phi G R) v m (ob_phi G R a)) C
          rw [if_neg hle]
  have hr := hR v hv.1 hv.2
  have e : ob_phi G R v = G (4 * v + R v) := phi_n (by omega)
  have hp := hphi v (by omega)
  unfold fx_X10_isFirstOfRing
  rw [w32_id (by omega), tp_ck_t (by omega), hr.1, cn_goal hN hv hr.2, tp_bd_s, tp_lt_s, tp_lt_s, ← e, hlp _ 7 tp_F _ 1 (by omega) (by omega) (tp_F_pos (by omega)) hp]
  have hs : 0 ≤ ob_st (ob_phi G R) v 7 (ob_phi G R v) ∧ ob_st (ob_phi G R) v 7 (ob_phi G R v) < n := by
    have hz : ∀ (m : Nat) (a : Int), 0 ≤ a ∧ a < n → 0 ≤ ob_st (ob_phi G R) v m a ∧ ob_st (ob_phi G R) v m a < n := by
      intro m
      induction m with
      | zero => intro a ha; exact ha
      | succ m ih =>
        intro a ha
        show 0 ≤ (if a ≤ v then a else ob_st (ob_phi G R) v m (ob_phi G R a)) ∧ (if a ≤ v then a else ob_st (ob_phi G R) v m (ob_phi G R a)) < n
        split
        · exact ha
        · exact ih _ (hphi a ha)
    exact hz 7 _ hp
  rw [w32_id (by omega)]
  split <;> rfl
def ob_w8 (G R : Int → Int) (v : Int) : Int := if ob (ob_phi G R) v 8 = 0 then 1 else 0
def rg_w8 (G R : Int → Int) (v : Int) : Int := if ob_st (ob_phi G R) v 8 (ob_phi G R v) = v then 1 else 0
/-- the reference: from how many one comes to the inn by posts -/
theorem ps_comesBy {kr : Nat} {kn : Nat} (hk : (kr = 4 ∧ kn = 17) ∨ (kr = 20 ∧ kn = 8)) {M : tp_M} (hn : nt_net (M 0 3) (M 2) (M 3)) (hR : ∀ u : Int, 1 ≤ u → u < M 0 3 → 0 ≤ M kr u ∧ M kr u < M 2 u) : fx_X11_comesBy kr kn M = some (sumI (ob_w8 (M 3) (M kr)) 1 (M 0 3 - 1).toNat, M) := by
  have n8 := hn.1
  have hphi : ∀ w : Int, 0 ≤ w ∧ w < M 0 3 → 0 ≤ ob_phi (M 3) (M kr) w ∧ ob_phi (M 3) (M kr) w < M 0 3 := fun w hw => ob_in hn hR hw 1
  have hlp : ∀ (K : Int → tp_M → tp_O) (c2 c3 : Int) (m k : Nat) (a g : Int), g + (m : Int) = 8 → 0 ≤ g → m < k → (0 ≤ a ∧ a < M 0 3) → tp_lp2 (fx_X11_comesBy_L18 kr kn c2 c3 K) k a g M = K (ob_st (ob_phi (M 3) (M kr)) 0 m a) M := by
    intro K c2 c3 m
    induction m with
    | zero =>
      intro k a g hg h0 hk ha
      cases k with
      | zero => omega
      | succ k =>
        rw [tp_lp2_s, fx_X11_comesBy_L18]
        rw [w32_id (by omega), if_neg (by omega)]
        rfl
    | succ m ih =>
      intro k a g hg h0 hk ha
      cases k with
      | zero => omega
      | succ k =>
        rw [tp_lp2_s, fx_X11_comesBy_L18]
        by_cases hle : a ≤ 0
        · simp (disch := omega) only [↓tp_lm_n, ↓tp_lt_n, ↓tp_bd_n, ↓tp_jn0_n, ↓tp_jn1_n, ↓tp_jn2_n, ↓tp_jn3_n, w32_id, if_pos, if_neg, if_true, if_false, tp_ck_t, tp_nz_t, tp_gd_i]
          rw [ob_st_le hle]
        · have hr := hR a (by omega) ha.2
          have hd := (hn.2 a (by omega) ha.2).1
          have hp := hphi a ha
          have e : ob_phi (M 3) (M kr) a = M 3 (4 * a + M kr a) := phi_n (by omega)
          simp (disch := omega) only [↓tp_lm_n, ↓tp_lt_n, ↓tp_bd_n, ↓tp_jn0_n, ↓tp_jn1_n, ↓tp_jn2_n, ↓tp_jn3_n, w32_id, if_pos, if_neg, if_true, if_false, tp_ck_t, tp_nz_t, tp_gd_i, pm_goalOf (M := M) (a := a) (k := M kr a) (by omega)]
          rw [← e, ih k _ _ (by omega) (by omega) (by omega) hp]
          show _ = K (if a ≤ 0 then a else ob_st (ob_phi (M 3) (M kr)) 0 m (ob_phi (M 3) (M kr) a)) M
          rw [if_neg hle]
  unfold fx_X11_comesBy
  rw [tp_lt_s, tp_lt_s]
  rw [lp2_for (body := fx_X11_comesBy_L4 kr kn) (f := fun z a => a + ob_w8 (M 3) (M kr) z) (K := fun x => some (x, M)) (M := M) (fun _ _ => True) (M 0 3 - 1).toNat 1 0 tp_F trivial (fun rec a z _ z1 z2 => ⟨?_, trivial⟩) (fun rec a _ => ?_) (tp_F_pos (by omega))]
  · rw [fZ_sum (g := ob_w8 (M 3) (M kr)) _ _ _ (fun _ _ _ _ => rfl), Int.zero_add]
  · have hob := ob_in hn hR (v := z) (by omega)
    have g1 : fx_X11_flag 1 M = some (1, M) := rfl
    have g0 : fx_X11_flag 0 M = some (0, M) := rfl
    unfold fx_X11_comesBy_L4
    rw [w32_id (by omega), w32_id (by omega), if_pos (by omega), tp_lt_s, tp_lt_s, hlp _ a z 8 tp_F z 0 (by omega) (by omega) (tp_F_pos (by omega)) (by omega), ob_st_8 (fun k => (hob k).1)]
    have h8 := hob 8
    unfold ob_w8
    generalize ob (ob_phi (M 3) (M kr)) z 8 = w at h8 ⊢
    by_cases h : w = 0
    · simp (disch := omega) only [↓tp_lm_n, ↓tp_lt_n, ↓tp_bd_n, ↓tp_jn0_n, ↓tp_jn1_n, ↓tp_jn2_n, ↓tp_jn3_n, w32_id, if_pos, if_neg, if_true, if_false, tp_ck_t, tp_nz_t, tp_gd_i, g1]
    · simp (disch := omega) only [↓tp_lm_n, ↓tp_lt_n, ↓tp_bd_n, ↓tp_jn0_n, ↓tp_jn1_n, ↓tp_jn2_n, ↓tp_jn3_n, w32_id, if_pos, if_neg, if_true, if_false, tp_ck_t, tp_nz_t, tp_gd_i, g0]
  · unfold fx_X11_comesBy_L4
    rw [w32_id (by omega), w32_id (by omega), if_neg (by omega)]
theorem ps_ringsBy {kr kn : Nat} (hk : kr = 4 ∧ kn = 17) {M : tp_M} (hn : nt_net (M 0 3) (M 2) (M 3)) (hR : ∀ u : Int, 1 ≤ u → u < M 0 3 → 0 ≤ M kr u ∧ M kr u < M 2 u) : fx_X11_ringsBy kr kn M = some (sumI (rg_w8 (M 3) (M kr)) 1 (M 0 3 - 1).toNat, M) := by
  have n8 := hn.1
  have hphi : ∀ w : Int, 0 ≤ w ∧ w < M 0 3 → 0 ≤ ob_phi (M 3) (M kr) w ∧ ob_phi (M 3) (M kr) w < M 0 3 := fun w hw => ob_in hn hR hw 1
  have hlp : ∀ (K : Int → tp_M → tp_O) (c2 c3 : Int), 1 ≤ c3 ∧ c3 < M 0 3 → ∀ (m k : Nat) (a g : Int), g + (m : Int) = 8 → 0 ≤ g → m < k → (0 ≤ a ∧ a < M 0 3) → tp_lp2 (fx_X11_ringsBy_L25 kr kn c2 c3 K) k a g M = K (ob_st (ob_phi (M 3) (M kr)) c3 m a) M := by
    intro K c2 c3 hc3 m
    induction m with
    | zero =>
      intro k a g hg h0 hk ha
      cases k with
      | zero => omega
      | succ k =>
        rw [tp_lp2_s, fx_X11_ringsBy_L25]
        rw [w32_id (show -2147483648 ≤ g ∧ g < 2147483648 by omega), if_neg (show ¬ g < 8 by omega)]
        split <;> rfl
    | succ m ih =>
      intro k a g hg h0 hk ha
      cases k with
      | zero => omega
      | succ k =>
        rw [tp_lp2_s, fx_X11_ringsBy_L25]
        by_cases hle : a ≤ c3
        · simp (disch := omega) only [↓tp_lm_n, ↓tp_lt_n, ↓tp_bd_n, ↓tp_jn0_n, ↓tp_jn1_n, ↓tp_jn2_n, ↓tp_jn3_n, w32_id, if_pos, if_neg, if_true, if_false, tp_ck_t, tp_nz_t, tp_gd_i]
          rw [ob_st_le hle]
        · have hr := hR a (by omega) ha.2
          have hd := (hn.2 a (by omega) ha.2).1
          have hp := hphi a ha
          have e : ob_phi (M 3) (M kr) a = M 3 (4 * a + M kr a) := phi_n (by omega)
          simp (disch := omega) only [↓tp_lm_n, ↓tp_lt_n, ↓tp_bd_n, ↓tp_jn0_n, ↓tp_jn1_n, ↓tp_jn2_n, ↓tp_jn3_n, w32_id, if_pos, if_neg, if_true, if_false, tp_ck_t, tp_nz_t, tp_gd_i, pm_goalOf (M := M) (a := a) (k := M kr a) (by omega)]
          rw [← e, ih k _ _ (by omega) (by omega) (by omega) hp]
          show _ = K (if a ≤ c3 then a else ob_st (ob_phi (M 3) (M kr)) c3 m (ob_phi (M 3) (M kr) a)) M
          rw [if_neg hle]
  unfold fx_X11_ringsBy
  rw [tp_lt_s, tp_lt_s]
  rw [lp2_for (body := fx_X11_ringsBy_L4 kr kn) (f := fun z a => a + rg_w8 (M 3) (M kr) z) (K := fun x => some (x, M)) (M := M) (fun _ _ => True) (M 0 3 - 1).toNat 1 0 tp_F trivial (fun rec a z _ z1 z2 => ⟨?_, trivial⟩) (fun rec a _ => ?_) (tp_F_pos (by omega))]
  · rw [fZ_sum (g := rg_w8 (M 3) (M kr)) _ _ _ (fun _ _ _ _ => rfl), Int.zero_add]
  · have g1 : fx_X11_flag 1 M = some (1, M) := rfl
    have g0 : fx_X11_flag 0 M = some (0, M) := rfl
    have hr := hR z z1 (by omega)
    have hd := (hn.2 z (by omega) (by omega)).1
    have hp := hphi z (by omega)
    have e : ob_phi (M 3) (M kr) z = M 3 (4 * z + M kr z) := phi_n (by omega)
    have hs : 0 ≤ ob_st (ob_phi (M 3) (M kr)) z 8 (ob_phi (M 3) (M kr) z) ∧ ob_st (ob_phi (M 3) (M kr)) z 8 (ob_phi (M 3) (M kr) z) < M 0 3 := by
      have hz : ∀ (m : Nat) (a : Int), 0 ≤ a ∧ a < M 0 3 → 0 ≤ ob_st (ob_phi (M 3) (M kr)) z m a ∧ ob_st (ob_phi (M 3) (M kr)) z m a < M 0 3 := by
        intro m
        induction m with
        | zero => intro a ha; exact ha
        | succ m ih =>
          intro a ha
          show 0 ≤ (if a ≤ z then a else ob_st (ob_phi (M 3) (M kr)) z m (ob_phi (M 3) (M kr) a)) ∧ (if a ≤ z then a else ob_st (ob_phi (M 3) (M kr)) z m (ob_phi (M 3) (M kr) a)) < M 0 3
          split
          · exact ha
          · exact ih _ (hphi a ha)
      exact hz 8 _ hp
    unfold fx_X11_ringsBy_L4
    rw [w32_id (by omega), w32_id (by omega), if_pos (by omega), tp_ck_t (by omega), pm_goalOf (by omega), tp_bd_s, tp_lt_s, tp_lt_s, ← e, hlp _ a z ⟨z1, by omega⟩ 8 tp_F _ 0 (by omega) (by omega) (tp_F_pos (by omega)) hp]
    unfold rg_w8
    generalize ob_st (ob_phi (M 3) (M kr)) z 8 (ob_phi (M 3) (M kr) z) = w at hs ⊢
    by_cases h : w = z
    · simp (disch := omega) only [↓tp_lm_n, ↓tp_lt_n, ↓tp_bd_n, ↓tp_jn0_n, ↓tp_jn1_n, ↓tp_jn2_n, ↓tp_jn3_n, w32_id, if_pos, if_neg, if_true, if_false, tp_ck_t, tp_nz_t, tp_gd_i, g1]
    · simp (disch := omega) only [↓tp_lm_n, ↓tp_lt_n, ↓tp_bd_n, ↓tp_jn0_n, ↓tp_jn1_n, ↓tp_jn2_n, ↓tp_jn3_n, w32_id, if_pos, if_neg, if_true, if_false, tp_ck_t, tp_nz_t, tp_gd_i, g0]
  · unfold fx_X11_ringsBy_L4
    rw [w32_id (by omega), w32_id (by omega), if_neg (by omega)]
