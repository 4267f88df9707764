/-! BAREISS: what stands below is a part's determinant -/
section BA
variable {A : Nat → Nat → Int}
def mx (A : Nat → Nat → Int) (k i j : Nat) : Nat → Nat → Int := fun a b => A (if a < k then a else i) (if b < k then b else j)
def mn (A : Nat → Nat → Int) (k i j : Nat) : Int := dt_det (k + 1) (mx A k i j)
theorem mn_0 (i j : Nat) : mn A 0 i j = A i j := by
  show dt_sum (fun t => dt_sg (0 + t) * mx A 0 i j t 0 * dt_det 0 (fun a b => mx A 0 i j (dt_sk t a) b)) 1 = A i j
  simp only [dt_sum, dt_det, mx]
  simp [dt_sg]
theorem mn_d (k : Nat) : mn A k k k = dt_det (k + 1) A := by
  unfold mn
  refine det_cg (fun a b ha hb => ?_)
  unfold mx
  congr 1
  · split <;> omega
  · split <;> omega
def mc (A : Nat → Nat → Int) (k i t : Nat) : Int := dt_sg (k + t) * dt_det k (fun a b => A (if dt_sk t a < k then dt_sk t a else i) b)
theorem mn_row (k i j : Nat) : mn A k i j = dt_det k A * A i j + dt_sum (fun t => mc A k i t * A t j) k := by
  show dt_sum (fun t => dt_sg (k + t) * mx A k i j t k * dt_det k (fun a b => mx A k i j (dt_sk t a) b)) (k + 1) = _
  show dt_sum (fun t => dt_sg (k + t) * mx A k i j t k * dt_det k (fun a b => mx A k i j (dt_sk t a) b)) k + dt_sg (k + k) * mx A k i j k k * dt_det k (fun a b => mx A k i j (dt_sk k a) b) = _
  have e1 : mx A k i j k k = A i j := by unfold mx; rw [if_neg (by omega), if_neg (by omega)]
  have e2 : dt_det k (fun a b => mx A k i j (dt_sk k a) b) = dt_det k A := det_cg (fun a b ha hb => by
    show mx A k i j (dt_sk k a) b = A a b
    unfold mx
    rw [show dt_sk k a = a by unfold dt_sk; rw [if_pos ha], if_pos ha, if_pos hb])
  rw [e1, e2, dt_sg_2, Int.one_mul, Int.mul_comm (A i j), Int.add_comm]
  congr 1
  refine sumN_cg (fun t ht => ?_)
  have e3 : mx A k i j t k = A t j := by unfold mx; rw [if_pos ht, if_neg (by omega)]
  have e4 : dt_det k (fun a b => mx A k i j (dt_sk t a) b) = dt_det k (fun a b => A (if dt_sk t a < k then dt_sk t a else i) b) := det_cg (fun a b ha hb => by
    show mx A k i j (dt_sk t a) b = A (if dt_sk t a < k then dt_sk t a else i) b
    unfold mx
    rw [if_pos hb])
  rw [e3, e4]
  unfold mc
  grind
theorem mn_B1 {k : Nat} (hz : ∀ i j : Nat, j < k → mn A k i j = 0) (hp : ¬ dt_det (k + 1) A = 0) (i j : Nat) : dt_det (k + 1) A * mn A k i j - mn A k i k * mn A k k j = dt_det k A * mn A (k + 1) i j := by
  generalize hP : dt_det (k + 1) A = P1 at *
  let N := mx A (k + 1) i j
  let cb : Nat → Nat := fun b => if b < k + 1 then b else j
  let de : Nat → Int := fun t => if t < k then P1 * mc A k i t - mn A k i k * mc A k k t else - mn A k i k * dt_det k A
  have hN1 : ∀ a b : Nat, a < k + 1 → N a b = A a (cb b) := fun a b ha => by
    show A (if a < k + 1 then a else i) (if b < k + 1 then b else j) = A a (if b < k + 1 then b else j)
    rw [if_pos ha]
  have hN2 : ∀ b : Nat, N (k + 1) b = A i (cb b) := fun b => by
    show A (if k + 1 < k + 1 then k + 1 else i) (if b < k + 1 then b else j) = A i (if b < k + 1 then b else j)
    rw [if_neg (by omega)]
  have hrow : ∀ b : Nat, (P1 * dt_det k A) * N (k + 1) b + dt_sum (fun t => de t * N t b) (k + 1) = P1 * mn A k i (cb b) - mn A k i k * mn A k k (cb b) := fun b => by
    rw [hN2 b, mn_row k i (cb b), mn_row k k (cb b)]
    show (P1 * dt_det k A) * A i (cb b) + (dt_sum (fun t => de t * N t b) k + de k * N k b) = _
    have e1 : dt_sum (fun t => de t * N t b) k = dt_sum (fun t => P1 * (mc A k i t * A t (cb b)) + (- mn A k i k) * (mc A k k t * A t (cb b))) k := sumN_cg (fun t ht => by
      show (if t < k then P1 * mc A k i t - mn A k i k * mc A k k t else - mn A k i k * dt_det k A) * N t b = _
      rw [if_pos ht, hN1 t b (by omega)]
      grind)
    have e2 : de k = - mn A k i k * dt_det k A := if_neg (Nat.lt_irrefl k)
    rw [e1, sumN_lin, e2, hN1 k b (by omega)]
    grind
  have h1 := det_comb N (r := k + 1) (n := k + 2) (P1 * dt_det k A) de (by omega) (k + 1) (Nat.le_refl _)
  have h2 : dt_det (k + 2) (dt_ru N (k + 1) (fun b => (P1 * dt_det k A) * N (k + 1) b + dt_sum (fun t => de t * N t b) (k + 1))) = (P1 * mn A k i j - mn A k i k * mn A k k j) * P1 := by
    rw [det_last (n := k + 1) (fun b hb => ?_)]
    · have e3 : dt_ru N (k + 1) (fun b => (P1 * dt_det k A) * N (k + 1) b + dt_sum (fun t => de t * N t b) (k + 1)) (k + 1) (k + 1) = P1 * mn A k i j - mn A k i k * mn A k k j := by
        unfold dt_ru
        rw [if_pos rfl]
        refine (hrow (k + 1)).trans ?_
        have : cb (k + 1) = j := if_neg (Nat.lt_irrefl _)
        rw [this]
      rw [e3]
      congr 1
      rw [← hP]
      refine det_cg (fun a b ha hb => ?_)
      unfold dt_ru
      rw [if_neg (by omega), hN1 a b ha]
      have : cb b = b := if_pos hb
      rw [this]
    · unfold dt_ru
      rw [if_pos rfl]
      refine (hrow b).trans ?_
      have : cb b = b := if_pos hb
      rw [this]
      by_cases hbk : b < k
      · rw [hz i b hbk, hz k b hbk]; simp
      · have : b = k := by omega
        rw [this, mn_d, hP]
        grind
  rw [h2] at h1
  have h3 : dt_det (k + 2) N = mn A (k + 1) i j := rfl
  rw [h3] at h1
  have h4 : P1 * (P1 * mn A k i j - mn A k i k * mn A k k j) = P1 * (dt_det k A * mn A (k + 1) i j) := by grind
  exact Int.eq_of_mul_eq_mul_left hp h4
theorem mn_z : ∀ k : Nat, (∀ t : Nat, t ≤ k → ¬ dt_det t A = 0) → ∀ i j : Nat, j < k → mn A k i j = 0 := by
  intro k
  induction k with
  | zero => intro _ i j h; omega
  | succ k ih =>
    intro hp i j hj
    have hz := ih (fun t ht => hp t (by omega))
    have hB := mn_B1 hz (hp (k + 1) (Nat.le_refl _)) i j
    have h0 : dt_det k A * mn A (k + 1) i j = dt_det k A * 0 := by
      rw [← hB]
      by_cases hjk : j < k
      · rw [hz i j hjk, hz k j hjk]; simp
      · have : j = k := by omega
        rw [this, mn_d]
        grind
    exact Int.eq_of_mul_eq_mul_left (hp k (by omega)) h0
theorem mn_B {k : Nat} (hp : ∀ t : Nat, t ≤ k + 1 → ¬ dt_det t A = 0) (i j : Nat) : dt_det (k + 1) A * mn A k i j - mn A k i k * mn A k k j = dt_det k A * mn A (k + 1) i j :=
  mn_B1 (mn_z k (fun t ht => hp t (by omega))) (hp (k + 1) (Nat.le_refl _)) i j
/-- how great it can be -/
def fb : Nat → Nat
  | 0 => 1
  | n + 1 => (n + 1) * (4 * fb n)
theorem sum_bd {f : Nat → Int} {c : Nat} : ∀ k : Nat, (∀ t : Nat, t < k → (f t).natAbs ≤ c) → (dt_sum f k).natAbs ≤ k * c := by
  intro k
  induction k with
  | zero => intro _; simp [dt_sum]
  | succ k ih =>
    intro h
    have h1 := ih (fun t ht => h t (by omega))
    have h2 := h k (by omega)
    show (dt_sum f k + f k).natAbs ≤ (k + 1) * c
    rw [Nat.add_mul]
    omega
theorem sg_abs (k : Nat) : (dt_sg k).natAbs = 1 := by
  unfold dt_sg
  split <;> rfl
theorem det_bd : ∀ (n : Nat) (A : Nat → Nat → Int), (∀ i j : Nat, i < n → j < n → (A i j).natAbs ≤ 4) → (dt_det n A).natAbs ≤ fb n := by
  intro n
  induction n with
  | zero => intro A _; show (1 : Int).natAbs ≤ 1; decide
  | succ n ih =>
    intro A h
    show (dt_sum (fun t => dt_sg (n + t) * A t n * dt_det n (fun i j => A (dt_sk t i) j)) (n + 1)).natAbs ≤ (n + 1) * (4 * fb n)
    refine sum_bd (n + 1) (fun t ht => ?_)
    rw [Int.natAbs_mul, Int.natAbs_mul, sg_abs, Nat.one_mul]
    exact Nat.mul_le_mul (h t n ht (by omega)) (ih _ (fun i j hi hj => h _ _ (by unfold dt_sk; split <;> omega) (by omega)))
theorem mn_bd {k i j : Nat} (h : ∀ a b : Nat, (a < k ∨ a = i) → (b < k ∨ b = j) → (A a b).natAbs ≤ 4) : (mn A k i j).natAbs ≤ fb (k + 1) := by
  unfold mn
  refine det_bd (k + 1) _ (fun a b ha hb => ?_)
  unfold mx
  refine h _ _ ?_ ?_
  · split <;> omega
  · split <;> omega
end BA
