/-! THE CLASS'S NET asked, in the reference's words -/
theorem tp_lm_n (M : tp_M) (k : tp_M → tp_O) : tp_lm M k = k M := id rfl
theorem tp_lt_n (a : Int) (k : Int → tp_O) : tp_lt a k = k a := id rfl
theorem tp_bd_n (r : Int) (M : tp_M) (k : Int → tp_M → tp_O) : tp_bd (some (r, M)) k = k r M := id rfl
theorem tp_jn0_n (k : tp_M → tp_O) (b : (tp_M → tp_O) → tp_O) : tp_jn0 k b = b k := id rfl
theorem tp_jn1_n (k : Int → tp_M → tp_O) (b : (Int → tp_M → tp_O) → tp_O) : tp_jn1 k b = b k := id rfl
theorem tp_jn2_n (k : Int → Int → tp_M → tp_O) (b : (Int → Int → tp_M → tp_O) → tp_O) : tp_jn2 k b = b k := id rfl
theorem tp_jn3_n (k : Int → Int → Int → tp_M → tp_O) (b : (Int → Int → Int → tp_M → tp_O) → tp_O) : tp_jn3 k b = b k := id rfl
theorem tp_gd_i (c : Prop) (hc : Decidable c) (o : tp_O) : tp_gd c hc o = @ite tp_O c hc o none := id rfl
def nC (C : tp_M) (n : Int) (D G : Int → Int) : Prop := sm_net (C 5 4) (C 5 5) (C 6) (C 7) (C 8) (C 9) n D G
theorem nC_fr {C C1 : tp_M} {n : Int} {D G : Int → Int} (h : nC C n D G) (h5 : C1 5 = C 5) (h6 : C1 6 = C 6) (h7 : C1 7 = C 7) (h8 : C1 8 = C 8) (h9 : C1 9 = C 9) : nC C1 n D G := by
  unfold nC; rw [h5, h6, h7, h8, h9]; exact h
theorem cn_has {C : tp_M} {n a : Int} {D G : Int → Int} (h : nC C n D G) (ha : pu_in a) : fx_X4_has 5 a C = some (if 0 ≤ a ∧ a < n then 1 else 0, C) := pc_has h.1 (by have := h.2.1.1; omega) ha
theorem cn_hasPost {C : tp_M} {n a : Int} {D G : Int → Int} (h : nC C n D G) (ha : pu_in a) : fx_X4_hasPost 5 a C = some (if 1 ≤ a ∧ a < n then 1 else 0, C) := pc_hasPost h.1 (by have := h.2.1.1; omega) ha
theorem cn_hasWay {C : tp_M} {n a k : Int} {D G : Int → Int} (h : nC C n D G) (ha : pu_in a) (hk : pu_in k) : fx_X4_hasWay 5 a k C = some (if 1 ≤ a ∧ a < n ∧ 0 ≤ k ∧ k < D a then 1 else 0, C) := by
  rw [pc_hasWay (nt_of (c4 := 0) (c5 := 0) h) ha hk]
  by_cases c : 1 ≤ a ∧ a < n
  · rw [show C (5 + 1) a = D a from (h.2.2.2.2.1 a c.1 c.2).1]
  · rw [if_neg (by omega), if_neg (by omega)]
theorem cn_degree {C : tp_M} {n a : Int} {D G : Int → Int} (h : nC C n D G) (ha : 1 ≤ a ∧ a < n) : fx_X4_degree 5 a C = some (D a, C) := by
  have n8 := h.2.1.1
  rw [pc_degree h.1 (by omega) (by unfold pu_in; omega), if_pos ha, show C (5 + 1) a = D a from (h.2.2.2.2.1 a ha.1 ha.2).1]
theorem cn_goal {C : tp_M} {n a k : Int} {D G : Int → Int} (h : nC C n D G) (ha : 1 ≤ a ∧ a < n) (hk : 0 ≤ k ∧ k < D a) : fx_X4_goal 5 a k C = some (G (4 * a + k), C) := by
  have n8 := h.2.1.1
  have d4 := (h.2.1.2 a ha.1 ha.2).1
  have e := (h.2.2.2.2.1 a ha.1 ha.2).1
  rw [pc_goal (nt_of (c4 := 0) (c5 := 0) h) (by unfold pu_in; omega) (by unfold pu_in; omega), show C (5 + 1) a = D a from e, if_pos ⟨ha.1, ha.2, hk.1, hk.2⟩, show C (5 + 2) (4 * a + k) = G (4 * a + k) from (h.2.2.2.2.1 a ha.1 ha.2).2.2 k hk.1 hk.2]
theorem cn_far {C : tp_M} {n a : Int} {D G : Int → Int} (h : nC C n D G) (ha : 0 ≤ a ∧ a < n) : fx_X4_far 5 a C = some (C 9 a, C) := by
  have n8 := h.2.1.1
  rw [pc_far h.1 (by omega) (by unfold pu_in; omega), if_pos ha]
theorem cn_crossings {C : tp_M} {n : Int} {D G : Int → Int} (h : nC C n D G) : fx_X4_crossings 5 C = some (n, C) := by
  unfold fx_X4_crossings; rw [h.1]
theorem cn_D {C : tp_M} {n a : Int} {D G : Int → Int} (h : nC C n D G) (ha : 1 ≤ a ∧ a < n) : 1 ≤ D a ∧ D a ≤ 4 := (h.2.1.2 a ha.1 ha.2).1
theorem cn_G {C : tp_M} {n a k : Int} {D G : Int → Int} (h : nC C n D G) (ha : 1 ≤ a ∧ a < n) (hk : 0 ≤ k ∧ k < D a) : 0 ≤ G (4 * a + k) ∧ G (4 * a + k) < n ∧ ¬ G (4 * a + k) = a := (h.2.1.2 a ha.1 ha.2).2 k hk.1 hk.2
theorem cn_n {C : tp_M} {n : Int} {D G : Int → Int} (h : nC C n D G) : 2 ≤ n ∧ n ≤ 8 := h.2.1.1
/-! loops that only read: a fold -/
def fZ (f : Int → Int → Int) : Nat → Int → Int → Int
  | 0, _, a => a
  | k + 1, lo, a => fZ f k (lo + 1) (f lo a)
theorem lp2_for {body : (Int → Int → tp_M → tp_O) → Int → Int → tp_M → tp_O} {f : Int → Int → Int} {K : Int → tp_O} {M : tp_M} (P : Int → Int → Prop) : ∀ (k : Nat) (lo a : Int) (n : Nat), P lo a → (∀ (rec : Int → Int → tp_M → tp_O) (a z : Int), P z a → lo ≤ z → z < lo + (k : Int) → body rec a z M = rec (f z a) (z + 1) M ∧ P (z + 1) (f z a)) → (∀ (rec : Int → Int → tp_M → tp_O) (a : Int), P (lo + (k : Int)) a → body rec a (lo + (k : Int)) M = K a) → k < n → tp_lp2 body n a lo M = K (fZ f k lo a) := by
  intro k
  induction k with
  | zero =>
    intro lo a n hP _ he hn
    cases n with
    | zero => omega
    | succ n =>
      rw [tp_lp2_s]
      have := he (tp_lp2 body n) a (by simpa using hP)
      simp only [Int.natCast_zero, Int.add_zero] at this
      exact this
  | succ k ih =>
    intro lo a n hP hs he hn
    cases n with
    | zero => omega
    | succ n =>
      rw [tp_lp2_s]
      obtain ⟨h1, h2⟩ := hs (tp_lp2 body n) a lo hP (by omega) (by omega)
      rw [h1]
      refine ih (lo + 1) (f lo a) n h2 (fun rec a z hp z1 z2 => hs rec a z hp (by omega) (by omega)) (fun rec a hp => ?_) (by omega)
      have e : lo + 1 + (k : Int) = lo + ((k + 1 : Nat) : Int) := by omega
      rw [e] at hp ⊢
      exact he rec a hp
theorem sumI_front (g : Int → Int) : ∀ (k : Nat) (lo : Int), sumI g lo (k + 1) = g lo + sumI g (lo + 1) k := by
  intro k
  induction k with
  | zero => intro lo; simp [sumI]
  | succ k ih =>
    intro lo
    show sumI g lo (k + 1) + g (lo + ((k + 1 : Nat) : Int)) = g lo + (sumI g (lo + 1) k + g (lo + 1 + (k : Int)))
    rw [ih lo, show lo + ((k + 1 : Nat) : Int) = lo + 1 + (k : Int) by omega]
    omega
theorem fZ_sum {f : Int → Int → Int} {g : Int → Int} : ∀ (k : Nat) (lo a : Int), (∀ z a : Int, lo ≤ z → z < lo + (k : Int) → f z a = a + g z) → fZ f k lo a = a + sumI g lo k := by
  intro k
  induction k with
  | zero => intro lo a _; simp [fZ, sumI]
  | succ k ih =>
    intro lo a h
    unfold fZ
    rw [ih (lo + 1) _ (fun z a z1 z2 => h z a (by omega) (by omega)), h lo a (by omega) (by omega), sumI_front]
    omega
theorem fZ_cg {f g : Int → Int → Int} : ∀ (k : Nat) (lo a : Int), (∀ z a : Int, lo ≤ z → z < lo + (k : Int) → f z a = g z a) → fZ f k lo a = fZ g k lo a := by
  intro k
  induction k with
  | zero => intro lo a _; rfl
  | succ k ih =>
    intro lo a h
    unfold fZ
    rw [h lo a (by omega) (by omega), ih (lo + 1) _ (fun z a z1 z2 => h z a (by omega) (by omega))]
theorem sumI_in {g : Int → Int} {lo hi : Int} : ∀ (k : Nat) (a : Int), (∀ z : Int, a ≤ z → z < a + (k : Int) → lo ≤ g z ∧ g z ≤ hi) → (k : Int) * lo ≤ sumI g a k ∧ sumI g a k ≤ (k : Int) * hi := by
  intro k
  induction k with
  | zero => intro a _; simp [sumI]
  | succ k ih =>
    intro a h
    have h1 := ih a (fun z z1 z2 => h z z1 (by omega))
    have h2 := h (a + (k : Int)) (by omega) (by omega)
    unfold sumI
    rw [show ((k + 1 : Nat) : Int) * lo = (k : Int) * lo + lo by rw [Int.natCast_add, Int.add_mul]; simp, show ((k + 1 : Nat) : Int) * hi = (k : Int) * hi + hi by rw [Int.natCast_add, Int.add_mul]; simp]
    omega
theorem sumI_cg {f g : Int → Int} : ∀ (k : Nat) (a : Int), (∀ z : Int, a ≤ z → z < a + (k : Int) → f z = g z) → sumI f a k = sumI g a k := by
  intro k
  induction k with
  | zero => intro a _; rfl
  | succ k ih =>
    intro a h
    unfold sumI
    rw [ih a (fun z z1 z2 => h z z1 (by omega)), h _ (by omega) (by omega)]
/-- of the first k ways of v so many go to u -/
def nt_ways (G : Int → Int) (v u : Int) (k : Nat) : Int := sumI (fun i => if G (4 * v + i) = u then 1 else 0) 0 k
theorem nt_ways_s (G : Int → Int) (v u : Int) (k : Nat) : nt_ways G v u (k + 1) = nt_ways G v u k + if G (4 * v + (k : Int)) = u then 1 else 0 := by
  unfold nt_ways
  show sumI _ 0 k + _ = _
  simp only [Int.zero_add]
theorem nt_ways_in (G : Int → Int) (v u : Int) (k : Nat) : 0 ≤ nt_ways G v u k ∧ nt_ways G v u k ≤ (k : Int) := by
  have := sumI_in (g := fun i => if G (4 * v + i) = u then 1 else 0) (lo := 0) (hi := 1) k 0 (fun z _ _ => by split <;> omega)
  unfold nt_ways
  omega
theorem cn_waysTo {C : tp_M} {n a b : Int} {D G : Int → Int} (h : nC C n D G) (ha : 1 ≤ a ∧ a < n) (hb : pu_in b) : fx_X4_waysTo 5 a b C = some (nt_ways G a b (D a).toNat, C) := by
  have n8 := cn_n h
  have d4 := cn_D h ha
  unfold fx_X4_waysTo
  rw [tp_lt_s, tp_lt_s]
  have := lp2_for (body := fx_X4_waysTo_L5 5 a b) (f := fun z acc => acc + if G (4 * a + z) = b then 1 else 0) (K := fun x => some (x, C)) (M := C) (fun _ _ => True) (D a).toNat 0 0 tp_F trivial (fun rec acc z _ z1 z2 => ⟨?_, trivial⟩) (fun rec acc _ => ?_) (tp_F_pos (by omega))
  · rw [this, fZ_sum (g := fun i => if G (4 * a + i) = b then 1 else 0) _ _ _ (fun _ _ _ _ => rfl)]
    unfold nt_ways
    rw [Int.zero_add]
  · have g := cn_G h ha (k := z) (by omega)
    unfold fx_X4_waysTo_L5
    rw [cn_degree h ha, tp_bd_s]
    simp (disch := omega) only [↓tp_lm_n, ↓tp_lt_n, ↓tp_bd_n, ↓tp_jn0_n, ↓tp_jn1_n, ↓tp_jn2_n, ↓tp_jn3_n, w32_id, if_pos, if_neg, tp_ck_t, tp_nz_t, tp_gd_i, cn_goal h ha (k := z) (by omega)]
    unfold pu_in at hb
    by_cases e : G (4 * a + z) = b
    · simp (disch := omega) only [↓tp_lm_n, ↓tp_lt_n, ↓tp_bd_n, ↓tp_jn0_n, ↓tp_jn1_n, ↓tp_jn2_n, ↓tp_jn3_n, w32_id, if_pos, if_neg, tp_ck_t, tp_nz_t, tp_gd_i]
    · simp (disch := omega) only [↓tp_lm_n, ↓tp_lt_n, ↓tp_bd_n, ↓tp_jn0_n, ↓tp_jn1_n, ↓tp_jn2_n, ↓tp_jn3_n, w32_id, if_pos, if_neg, tp_ck_t, tp_nz_t, tp_gd_i]
      rw [Int.add_zero]
  · unfold fx_X4_waysTo_L5
    rw [cn_degree h ha, tp_bd_s]
    simp (disch := omega) only [↓tp_lm_n, ↓tp_lt_n, ↓tp_bd_n, ↓tp_jn0_n, ↓tp_jn1_n, ↓tp_jn2_n, ↓tp_jn3_n, w32_id, if_pos, if_neg, tp_ck_t, tp_nz_t, tp_gd_i]
