/-! SAND: crowds that burst, in whatever order -/
section SD
variable {n : Int} {D G h : Int → Int}
/-- ways from u to v -/
def wy (D G : Int → Int) (u v : Int) : Int := nt_ways G u v (D u).toNat
/-- what lies at v behind x bursts -/
def hp (n : Int) (D G h x : Int → Int) (v : Int) : Int := h v - D v * x v + sumI (fun u => wy D G u v * x u) 1 (n - 1).toNat
def sd_stab (n : Int) (D G h x : Int → Int) : Prop := (∀ v : Int, 1 ≤ v → v < n → 0 ≤ x v) ∧ ∀ v : Int, 1 ≤ v → v < n → hp n D G h x v < D v
def sd_leg (n : Int) (D G h x : Int → Int) : Prop := ∀ y : Int → Int, sd_stab n D G h y → ∀ v : Int, 1 ≤ v → v < n → x v ≤ y v
def sd_fire (x : Int → Int) (v t : Int) : Int → Int := fun u => if u = v then x u + t else x u
theorem sumI_mono {f g : Int → Int} : ∀ (k : Nat) (a : Int), (∀ z : Int, a ≤ z → z < a + (k : Int) → f z ≤ g z) → sumI f a k ≤ sumI g a k := by
  intro k
  induction k with
  | zero => intro a _; exact Int.le_refl 0
  | succ k ih =>
    intro a h
    have h1 := ih a (fun z z1 z2 => h z z1 (by omega))
    have h2 := h (a + (k : Int)) (by omega) (by omega)
    unfold sumI
    omega
theorem sumI_plus {f g : Int → Int} : ∀ (k : Nat) (a : Int), sumI (fun z => f z + g z) a k = sumI f a k + sumI g a k := by
  intro k
  induction k with
  | zero => intro a; rfl
  | succ k ih => intro a; unfold sumI; rw [ih]; omega
theorem sumI_at {f : Int → Int} {v : Int} : ∀ (k : Nat) (a : Int), (∀ z : Int, a ≤ z → z < a + (k : Int) → ¬ z = v → f z = 0) → sumI f a k = if a ≤ v ∧ v < a + (k : Int) then f v else 0 := by
  intro k
  induction k with
  | zero => intro a _; rw [if_neg (by omega)]; rfl
  | succ k ih =>
    intro a h
    unfold sumI
    rw [ih a (fun z z1 z2 => h z z1 (by omega))]
    by_cases hv : v = a + (k : Int)
    · rw [if_neg (by omega), if_pos (by omega), hv, Int.zero_add]
    · rw [h (a + (k : Int)) (by omega) (by omega) (fun q => hv q.symm), Int.add_zero]
      by_cases hr : a ≤ v ∧ v < a + (k : Int)
      · rw [if_pos hr, if_pos (by omega)]
      · rw [if_neg hr, if_neg (by omega)]
theorem wy_in (D G : Int → Int) (u v : Int) : 0 ≤ wy D G u v := (nt_ways_in G u v (D u).toNat).1
theorem wy_le {u v : Int} (hd : 0 ≤ D u) : wy D G u v ≤ D u := by
  have := (nt_ways_in G u v (D u).toNat).2
  unfold wy
  omega
theorem wy_self (hn : nt_net n D G) {v : Int} (hv : 1 ≤ v ∧ v < n) : wy D G v v = 0 := by
  have hz : ∀ m : Nat, (m : Int) ≤ D v → nt_ways G v v m = 0 := by
    intro m
    induction m with
    | zero => intro _; rfl
    | succ m ih =>
      intro hm
      have g := (hn.2 v hv.1 hv.2).2 (m : Int) (by omega) (by omega)
      rw [nt_ways_s, ih (by omega), if_neg g.2.2]; rfl
  have d := (hn.2 v hv.1 hv.2).1
  exact hz _ (by omega)
theorem wy_sum (hn : nt_net n D G) {v : Int} (hv : 1 ≤ v ∧ v < n) : sumI (fun w => wy D G v w) 1 (n - 1).toNat ≤ D v := by
  have d := (hn.2 v hv.1 hv.2).1
  have hz : ∀ m : Nat, sumI (fun w => nt_ways G v w m) 1 (n - 1).toNat ≤ (m : Int) := by
    intro m
    induction m with
    | zero =>
      rw [sumI_0 (f := fun w => nt_ways G v w 0) _ _ (fun _ _ _ => rfl)]
      exact Int.le_refl 0
    | succ m ih =>
      have e : sumI (fun w => nt_ways G v w (m + 1)) 1 (n - 1).toNat = sumI (fun w => nt_ways G v w m + if G (4 * v + (m : Int)) = w then 1 else 0) 1 (n - 1).toNat := sumI_cg _ _ (fun z _ _ => nt_ways_s G v z m)
      rw [e, sumI_plus (f := fun w => nt_ways G v w m) (g := fun w => if G (4 * v + (m : Int)) = w then 1 else 0), sumI_at (f := fun w => if G (4 * v + (m : Int)) = w then 1 else 0) (v := G (4 * v + (m : Int))) _ _ (fun z _ _ hz => if_neg (fun q => hz q.symm))]
      split
      · rw [if_pos rfl]; omega
      · omega
  have := hz (D v).toNat
  unfold wy
  omega
/-- behind one more burst, t times at once -/
theorem hp_fire {x : Int → Int} {v t : Int} (hv : 1 ≤ v ∧ v < n) (w : Int) : hp n D G h (sd_fire x v t) w = hp n D G h x w - (if w = v then t * D v else 0) + t * wy D G v w := by
  unfold hp
  have e : sumI (fun u => wy D G u w * sd_fire x v t u) 1 (n - 1).toNat = sumI (fun u => wy D G u w * x u + if u = v then wy D G v w * t else 0) 1 (n - 1).toNat := sumI_cg _ _ (fun z _ _ => by
    unfold sd_fire
    by_cases hz : z = v
    · rw [if_pos hz, if_pos hz, hz, Int.mul_add]
    · rw [if_neg hz, if_neg hz, Int.add_zero])
  rw [e, sumI_plus (f := fun u => wy D G u w * x u) (g := fun u => if u = v then wy D G v w * t else 0), sumI_at (f := fun u => if u = v then wy D G v w * t else 0) (v := v) _ _ (fun z _ _ hz => if_neg hz), if_pos (by omega), if_pos rfl]
  unfold sd_fire
  by_cases hw : w = v
  · rw [if_pos hw, if_pos hw, hw, Int.mul_add, Int.mul_comm (wy D G v v) t, Int.mul_comm t (D v)]
    omega
  · rw [if_neg hw, if_neg hw, Int.mul_comm (wy D G v w) t]
    omega
theorem leg_fire (hn : nt_net n D G) {x : Int → Int} {v t : Int} (hv : 1 ≤ v ∧ v < n) (hl : sd_leg n D G h x) (hh : t * D v ≤ hp n D G h x v) : sd_leg n D G h (sd_fire x v t) := by
  intro y hy u u1 u2
  have hxy := hl y hy
  unfold sd_fire
  by_cases hu : u = v
  · rw [if_pos hu, hu]
    have h0 := hxy v hv.1 hv.2
    have hs := hy.2 v hv.1 hv.2
    have d := (hn.2 v hv.1 hv.2).1
    have hm := sumI_mono (f := fun u => wy D G u v * x u) (g := fun u => wy D G u v * y u) (n - 1).toNat 1 (fun z z1 z2 => Int.mul_le_mul_of_nonneg_left (hxy z z1 (by omega)) (wy_in D G z v))
    unfold hp at hs hh
    by_cases hc : x v + t ≤ y v
    · exact hc
    · exfalso
      have h3 : D v * (y v - x v) ≤ D v * (t - 1) := Int.mul_le_mul_of_nonneg_left (by omega) (by omega)
      rw [Int.mul_sub, Int.mul_sub, Int.mul_one, Int.mul_comm (D v) t] at h3
      omega
  · rw [if_neg hu]
    exact hxy u u1 u2
/-- how it ends: so often, or too often -/
def sd_res (n : Int) (D G h : Int → Int) (r : Int) (x : Int → Int) : Prop := (∀ v : Int, 1 ≤ v → v < n → 0 ≤ x v) ∧ sd_leg n D G h x ∧ ((r = sumI x 1 (n - 1).toNat ∧ r ≤ 9999 ∧ sd_stab n D G h x) ∨ (r = -3 ∧ 9999 < sumI x 1 (n - 1).toNat))
theorem res_u {r s : Int} {x y : Int → Int} (h1 : sd_res n D G h r x) (h2 : sd_res n D G h s y) (hn : 1 ≤ n) : (r = -3 ∧ s = -3) ∨ ((0 ≤ r ∧ r ≤ 9999) ∧ r = s ∧ ∀ v : Int, 1 ≤ v → v < n → x v = y v ∧ hp n D G h x v < D v) := by
  obtain ⟨a0, a1, a2⟩ := h1
  obtain ⟨b0, b1, b2⟩ := h2
  have hpos : ∀ f : Int → Int, (∀ v : Int, 1 ≤ v → v < n → 0 ≤ f v) → 0 ≤ sumI f 1 (n - 1).toNat := fun f hf => by
    have := sumI_mono (f := fun _ => 0) (g := f) (n - 1).toNat 1 (fun z z1 z2 => hf z z1 (by omega))
    rw [sumI_0 (f := fun _ => 0) _ _ (fun _ _ _ => rfl)] at this
    exact this
  rcases a2 with ⟨a2, a3, a4⟩ | ⟨a2, a3⟩
  · rcases b2 with ⟨b2, b3, b4⟩ | ⟨b2, b3⟩
    · have e : ∀ v : Int, 1 ≤ v → v < n → x v = y v := fun v v1 v2 => by
        have p := a1 y b4 v v1 v2
        have q := b1 x a4 v v1 v2
        omega
      have hp0 := hpos x a0
      refine Or.inr ⟨by omega, ?_, fun v v1 v2 => ⟨e v v1 v2, a4.2 v v1 v2⟩⟩
      rw [a2, b2]
      exact sumI_cg _ _ (fun z z1 z2 => e z z1 (by omega))
    · exfalso
      have := sumI_mono (f := y) (g := x) (n - 1).toNat 1 (fun z z1 z2 => b1 x a4 z z1 (by omega))
      omega
  · rcases b2 with ⟨b2, b3, b4⟩ | ⟨b2, b3⟩
    · exfalso
      have := sumI_mono (f := x) (g := y) (n - 1).toNat 1 (fun z z1 z2 => a1 y b4 z z1 (by omega))
      omega
    · exact Or.inl ⟨a2, b2⟩
/-- nobody is made -/
theorem tot_fire (hn : nt_net n D G) {x : Int → Int} {v t : Int} (hv : 1 ≤ v ∧ v < n) (ht : 0 ≤ t) : sumI (hp n D G h (sd_fire x v t)) 1 (n - 1).toNat ≤ sumI (hp n D G h x) 1 (n - 1).toNat := by
  have e : sumI (hp n D G h (sd_fire x v t)) 1 (n - 1).toNat = sumI (fun w => (hp n D G h x w + if w = v then -(t * D v) else 0) + t * wy D G v w) 1 (n - 1).toNat := sumI_cg _ _ (fun z _ _ => by
    rw [hp_fire hv z]
    split <;> omega)
  have hmul : ∀ (k : Nat) (a : Int), sumI (fun w => t * wy D G v w) a k = t * sumI (fun w => wy D G v w) a k := by
    intro k
    induction k with
    | zero => intro a; show (0 : Int) = t * 0; rw [Int.mul_zero]
    | succ k ih => intro a; unfold sumI; rw [ih a, Int.mul_add]
  rw [e, sumI_plus (f := fun w => hp n D G h x w + if w = v then -(t * D v) else 0) (g := fun w => t * wy D G v w), sumI_plus (f := hp n D G h x) (g := fun w => if w = v then -(t * D v) else 0), sumI_at (f := fun w => if w = v then -(t * D v) else 0) (v := v) _ _ (fun z _ _ hz => if_neg hz), if_pos (by omega), if_pos rfl, hmul]
  have := Int.mul_le_mul_of_nonneg_left (wy_sum hn hv) ht
  omega
theorem sum_fire {x : Int → Int} {v t : Int} (hv : 1 ≤ v ∧ v < n) : sumI (sd_fire x v t) 1 (n - 1).toNat = sumI x 1 (n - 1).toNat + t := by
  have e : sumI (sd_fire x v t) 1 (n - 1).toNat = sumI (fun u => x u + if u = v then t else 0) 1 (n - 1).toNat := sumI_cg _ _ (fun z _ _ => by unfold sd_fire; split <;> omega)
  rw [e, sumI_plus (f := x) (g := fun u => if u = v then t else 0), sumI_at (f := fun u => if u = v then t else 0) (v := v) _ _ (fun z _ _ hz => if_neg hz), if_pos (by omega), if_pos rfl]
theorem le_tot {f : Int → Int} (hf : ∀ v : Int, 1 ≤ v → v < n → 0 ≤ f v) {v : Int} (hv : 1 ≤ v ∧ v < n) : f v ≤ sumI f 1 (n - 1).toNat := by
  have := sumI_mono (f := fun u => if u = v then f v else 0) (g := f) (n - 1).toNat 1 (fun z z1 z2 => by
    have := hf z z1 (by omega)
    by_cases hz : z = v
    · rw [if_pos hz, hz]; omega
    · rw [if_neg hz]; exact this)
  rw [sumI_at (f := fun u => if u = v then f v else 0) (v := v) _ _ (fun z _ _ hz => if_neg hz), if_pos (by omega), if_pos rfl] at this
  exact this
theorem hp_0 {v : Int} : hp n D G h (fun _ => 0) v = h v := by
  unfold hp
  rw [sumI_0 (f := fun u => wy D G u v * 0) _ _ (fun z _ _ => Int.mul_zero _), Int.mul_zero]
  omega
/-- a heap that lies as x bursts left it -/
def sd_at (n : Int) (D G h x : Int → Int) (S : Int) (H : Int → Int) : Prop := (∀ v : Int, 1 ≤ v → v < n → H v = hp n D G h x v ∧ 0 ≤ H v ∧ 0 ≤ x v) ∧ sd_leg n D G h x ∧ sumI (hp n D G h x) 1 (n - 1).toNat ≤ S
theorem sd_le {x H : Int → Int} {S : Int} (h1 : sd_at n D G h x S H) {v : Int} (hv : 1 ≤ v ∧ v < n) : 0 ≤ H v ∧ H v ≤ S := by
  obtain ⟨a1, a2, a3⟩ := h1
  obtain ⟨b1, b2, b3⟩ := a1 v hv.1 hv.2
  have := le_tot (f := hp n D G h x) (fun u u1 u2 => by have := a1 u u1 u2; omega) hv
  omega
theorem sd_begin {S : Int} {H : Int → Int} (he : ∀ v : Int, 1 ≤ v → v < n → H v = h v ∧ 0 ≤ h v) (hS : sumI h 1 (n - 1).toNat ≤ S) : sd_at n D G h (fun _ => 0) S H := by
  refine ⟨fun v v1 v2 => ?_, fun y hy v v1 v2 => hy.1 v v1 v2, ?_⟩
  · rw [hp_0]
    have := he v v1 v2
    exact ⟨this.1, by omega, Int.le_refl 0⟩
  · rw [sumI_cg (f := hp n D G h (fun _ => 0)) (g := h) _ _ (fun z _ _ => hp_0)]
    exact hS
theorem sd_next (hn : nt_net n D G) {x H H2 : Int → Int} {S v t : Int} (h1 : sd_at n D G h x S H) (hv : 1 ≤ v ∧ v < n) (ht : 0 ≤ t ∧ t * D v ≤ H v) (he : ∀ w : Int, 1 ≤ w → w < n → H2 w = H w - (if w = v then t * D v else 0) + t * wy D G v w) : sd_at n D G h (sd_fire x v t) S H2 := by
  obtain ⟨a1, a2, a3⟩ := h1
  obtain ⟨b1, b2, b3⟩ := a1 v hv.1 hv.2
  refine ⟨fun w w1 w2 => ?_, leg_fire hn hv a2 (by omega), by have := tot_fire (h := h) hn (x := x) hv ht.1; omega⟩
  obtain ⟨c1, c2, c3⟩ := a1 w w1 w2
  have hw := he w w1 w2
  have hm : 0 ≤ t * wy D G v w := Int.mul_nonneg ht.1 (wy_in D G v w)
  refine ⟨by rw [hp_fire hv w, hw, c1], ?_, ?_⟩
  · rw [hw]
    by_cases hwv : w = v
    · rw [if_pos hwv]; rw [hwv] at hm ⊢; omega
    · rw [if_neg hwv]; omega
  · unfold sd_fire
    split <;> omega
end SD
