/-! DETERMINANTS, by the last column -/
def dt_sk (t i : Nat) : Nat := if i < t then i else i + 1
def dt_sg (k : Nat) : Int := if k % 2 = 0 then 1 else -1
def dt_sum (f : Nat → Int) : Nat → Int
  | 0 => 0
  | k + 1 => dt_sum f k + f k
def dt_det : Nat → (Nat → Nat → Int) → Int
  | 0, _ => 1
  | n + 1, A => dt_sum (fun t => dt_sg (n + t) * A t n * dt_det n (fun i j => A (dt_sk t i) j)) (n + 1)
theorem dt_sg_s (k : Nat) : dt_sg (k + 1) = - dt_sg k := by
  unfold dt_sg
  by_cases h : k % 2 = 0
  · rw [if_pos h, if_neg (by omega)]
  · rw [if_neg h, if_pos (by omega)]; rfl
theorem dt_sg_2 (k : Nat) : dt_sg (k + k) = 1 := by
  unfold dt_sg
  rw [if_pos (by omega)]
theorem sumN_cg {f g : Nat → Int} : ∀ {k : Nat}, (∀ t, t < k → f t = g t) → dt_sum f k = dt_sum g k := by
  intro k
  induction k with
  | zero => intro _; rfl
  | succ k ih =>
    intro h
    unfold dt_sum
    rw [ih (fun t ht => h t (by omega)), h k (by omega)]
theorem sumN_0 {f : Nat → Int} {k : Nat} (h : ∀ t, t < k → f t = 0) : dt_sum f k = 0 := by
  rw [sumN_cg (g := fun _ => 0) h]
  clear h
  induction k with
  | zero => rfl
  | succ k ih => unfold dt_sum; rw [ih]; rfl
theorem sumN_lin {f g : Nat → Int} (a b : Int) : ∀ k : Nat, dt_sum (fun t => a * f t + b * g t) k = a * dt_sum f k + b * dt_sum g k := by
  intro k
  induction k with
  | zero => simp [dt_sum]
  | succ k ih =>
    simp only [dt_sum]
    rw [ih]
    grind
theorem sumN_mul {f : Nat → Int} (a : Int) : ∀ k : Nat, dt_sum (fun t => a * f t) k = a * dt_sum f k := by
  intro k
  induction k with
  | zero => simp [dt_sum]
  | succ k ih =>
    simp only [dt_sum]
    rw [ih]
    grind
theorem sumN_1 {f : Nat → Int} : ∀ {k : Nat} (a : Nat), a < k → (∀ t, t < k → ¬ t = a → f t = 0) → dt_sum f k = f a := by
  intro k
  induction k with
  | zero => intro a h; omega
  | succ k ih =>
    intro a ha h
    unfold dt_sum
    by_cases hk : a = k
    · rw [sumN_0 (fun t ht => h t (by omega) (by omega)), hk]; omega
    · rw [ih a (by omega) (fun t ht => h t (by omega)), h k (by omega) (by omega)]; omega
theorem sumN_2 {f : Nat → Int} : ∀ {k : Nat} (a b : Nat), a < b → b < k → (∀ t, t < k → ¬ t = a → ¬ t = b → f t = 0) → dt_sum f k = f a + f b := by
  intro k
  induction k with
  | zero => intro a b _ h; omega
  | succ k ih =>
    intro a b hab hb h
    unfold dt_sum
    by_cases hk : b = k
    · rw [sumN_1 a (by omega) (fun t ht h1 => h t (by omega) h1 (by omega)), hk]
    · rw [ih a b hab (by omega) (fun t ht => h t (by omega)), h k (by omega) (by omega) (by omega)]; omega
theorem det_cg : ∀ {n : Nat} {A B : Nat → Nat → Int}, (∀ i j, i < n → j < n → A i j = B i j) → dt_det n A = dt_det n B := by
  intro n
  induction n with
  | zero => intro A B _; rfl
  | succ n ih =>
    intro A B h
    unfold dt_det
    refine sumN_cg (fun t ht => ?_)
    rw [h t n ht (by omega), ih (A := fun i j => A (dt_sk t i) j) (B := fun i j => B (dt_sk t i) j) (fun i j hi hj => h _ _ (by unfold dt_sk; split <;> omega) (by omega))]
/-- a row set anew -/
def dt_ru (A : Nat → Nat → Int) (r : Nat) (x : Nat → Int) : Nat → Nat → Int := fun i j => if i = r then x j else A i j
theorem ru_sk_same (A : Nat → Nat → Int) (r : Nat) (x : Nat → Int) : (fun i j => dt_ru A r x (dt_sk r i) j) = fun i j => A (dt_sk r i) j := by
  funext i j
  unfold dt_ru
  rw [if_neg (by unfold dt_sk; split <;> omega)]
theorem ru_sk_lt (A : Nat → Nat → Int) {r t : Nat} (x : Nat → Int) (h : r < t) : (fun i j => dt_ru A r x (dt_sk t i) j) = dt_ru (fun i j => A (dt_sk t i) j) r x := by
  funext i j
  unfold dt_ru
  by_cases hi : i = r
  · rw [if_pos hi, if_pos (by unfold dt_sk; split <;> omega)]
  · rw [if_neg hi, if_neg (by unfold dt_sk; split <;> omega)]
theorem ru_sk_gt (A : Nat → Nat → Int) {r t : Nat} (x : Nat → Int) (h : t < r) : (fun i j => dt_ru A r x (dt_sk t i) j) = dt_ru (fun i j => A (dt_sk t i) j) (r - 1) x := by
  funext i j
  unfold dt_ru
  by_cases hi : i = r - 1
  · rw [if_pos hi, if_pos (by unfold dt_sk; split <;> omega)]
  · rw [if_neg hi, if_neg (by unfold dt_sk; split <;> omega)]
theorem det_lin : ∀ {n : Nat} (A : Nat → Nat → Int) {r : Nat} (x y : Nat → Int) (a b : Int), r < n → dt_det n (dt_ru A r (fun j => a * x j + b * y j)) = a * dt_det n (dt_ru A r x) + b * dt_det n (dt_ru A r y) := by
  intro n
  induction n with
  | zero => intro A r x y a b h; omega
  | succ n ih =>
    intro A r x y a b hr
    unfold dt_det
    rw [← sumN_lin]
    refine sumN_cg (fun t ht => ?_)
    by_cases h1 : t = r
    · subst h1
      rw [ru_sk_same, ru_sk_same, ru_sk_same]
      have e (z : Nat → Int) : dt_ru A t z t n = z n := if_pos rfl
      rw [e, e, e]
      grind
    · have e (z : Nat → Int) : dt_ru A r z t n = A t n := if_neg h1
      rw [e, e, e]
      by_cases h2 : r < t
      · rw [ru_sk_lt _ _ h2, ru_sk_lt _ _ h2, ru_sk_lt _ _ h2, ih _ x y a b (by omega)]
        grind
      · rw [ru_sk_gt _ _ (by omega), ru_sk_gt _ _ (by omega), ru_sk_gt _ _ (by omega), ih _ x y a b (by omega)]
        grind
theorem ru_id (A : Nat → Nat → Int) (r : Nat) : dt_ru A r (A r) = A := by
  funext i j
  unfold dt_ru
  by_cases h : i = r
  · rw [if_pos h, h]
  · rw [if_neg h]
theorem det_scale {n : Nat} (A : Nat → Nat → Int) {r : Nat} (a : Int) (h : r < n) : dt_det n (dt_ru A r (fun j => a * A r j)) = a * dt_det n A := by
  have := det_lin A (A r) (A r) a 0 h
  rw [ru_id] at this
  rw [show (fun j => a * A r j) = fun j => a * A r j + 0 * A r j by funext j; omega, this]
  omega
theorem det_zrow {n : Nat} {A : Nat → Nat → Int} {r : Nat} (h : r < n) (hz : ∀ j, j < n → A r j = 0) : dt_det n A = 0 := by
  have h1 := det_scale A 0 h
  rw [Int.zero_mul] at h1
  rw [← h1]
  refine det_cg (fun i j hi hj => ?_)
  unfold dt_ru
  by_cases hi2 : i = r
  · rw [if_pos hi2]
    show A i j = 0 * A r j
    rw [hi2, hz j hj, Int.mul_zero]
  · rw [if_neg hi2]
theorem det_adj : ∀ {n : Nat} {A : Nat → Nat → Int} {i : Nat}, i + 1 < n → (∀ j, j < n → A i j = A (i + 1) j) → dt_det n A = 0 := by
  intro n
  induction n with
  | zero => intro A i h; omega
  | succ n ih =>
    intro A i hi h
    unfold dt_det
    rw [sumN_2 i (i + 1) (by omega) hi (fun t ht h1 h2 => ?_)]
    · rw [show n + (i + 1) = (n + i) + 1 by omega, dt_sg_s, ← h n (by omega)]
      rw [det_cg (n := n) (A := fun i' j => A (dt_sk (i + 1) i') j) (B := fun i' j => A (dt_sk i i') j) (fun x j hx hj => ?_)]
      · grind
      · by_cases hxi : x = i
        · show A (dt_sk (i + 1) x) j = A (dt_sk i x) j
          have e1 : dt_sk (i + 1) x = i := by unfold dt_sk; split <;> omega
          have e2 : dt_sk i x = i + 1 := by unfold dt_sk; split <;> omega
          rw [e1, e2]
          exact h j (by omega)
        · show A (dt_sk (i + 1) x) j = A (dt_sk i x) j
          have e1 : dt_sk (i + 1) x = dt_sk i x := by
            unfold dt_sk
            repeat' split
            all_goals omega
          rw [e1]
    · by_cases h3 : t < i
      · rw [ih (i := i - 1) (by omega) (fun j hj => ?_), Int.mul_zero]
        · have e1 : dt_sk t (i - 1) = i := by unfold dt_sk; split <;> omega
          have e2 : dt_sk t (i - 1 + 1) = i + 1 := by unfold dt_sk; split <;> omega
          rw [e1, e2]
          exact h j (by omega)
      · rw [ih (i := i) (by omega) (fun j hj => ?_), Int.mul_zero]
        · have e1 : dt_sk t i = i := by unfold dt_sk; split <;> omega
          have e2 : dt_sk t (i + 1) = i + 1 := by unfold dt_sk; split <;> omega
          rw [e1, e2]
          exact h j (by omega)
/-- two rows set anew -/
theorem ru_ru (A : Nat → Nat → Int) {r s : Nat} (x y : Nat → Int) (h : ¬ r = s) : dt_ru (dt_ru A r x) s y = dt_ru (dt_ru A s y) r x := by
  funext i j
  unfold dt_ru
  by_cases h1 : i = s
  · rw [if_pos h1, if_neg (by omega), if_pos h1]
  · rw [if_neg h1, if_neg h1]
theorem det_swapA {n : Nat} (A : Nat → Nat → Int) {i : Nat} (x y : Nat → Int) (h : i + 1 < n) : dt_det n (dt_ru (dt_ru A i x) (i + 1) y) = - dt_det n (dt_ru (dt_ru A i y) (i + 1) x) := by
  have eq (u v : Nat → Int) (huv : u = v) : dt_det n (dt_ru (dt_ru A i u) (i + 1) v) = 0 := det_adj h (fun j hj => by
    have e1 : dt_ru (dt_ru A i u) (i + 1) v i j = u j := by
      unfold dt_ru
      rw [if_neg (by omega), if_pos rfl]
    have e2 : dt_ru (dt_ru A i u) (i + 1) v (i + 1) j = v j := by
      unfold dt_ru
      rw [if_pos rfl]
    rw [e1, e2, huv])
  have l1 := det_lin (dt_ru A i (fun j => 1 * x j + 1 * y j)) (r := i + 1) x y 1 1 h
  rw [eq _ _ rfl] at l1
  have l2 (z : Nat → Int) : dt_det n (dt_ru (dt_ru A i (fun j => 1 * x j + 1 * y j)) (i + 1) z) = dt_det n (dt_ru (dt_ru A i x) (i + 1) z) + dt_det n (dt_ru (dt_ru A i y) (i + 1) z) := by
    rw [ru_ru _ _ _ (by omega), det_lin _ x y 1 1 (by omega), ru_ru _ _ _ (show ¬ i + 1 = i by omega), ru_ru _ _ _ (show ¬ i + 1 = i by omega)]
    omega
  rw [l2, l2, eq x x rfl, eq y y rfl] at l1
  omega
theorem det_eq : ∀ (d : Nat) {n : Nat} {A : Nat → Nat → Int} {a : Nat}, a + d + 1 < n → (∀ j, j < n → A a j = A (a + d + 1) j) → dt_det n A = 0 := by
  intro d
  induction d with
  | zero => intro n A a h1 h2; exact det_adj h1 h2
  | succ d ih =>
    intro n A a h1 h2
    have e := det_swapA A (i := a + d + 1) (A (a + d + 1)) (A (a + d + 2)) h1
    have e1 : dt_ru (dt_ru A (a + d + 1) (A (a + d + 1))) (a + d + 1 + 1) (A (a + d + 2)) = A := by rw [ru_id]; exact ru_id A (a + d + 2)
    rw [e1] at e
    rw [e, ih (a := a) (by omega) (fun j hj => ?_)]
    · rfl
    · unfold dt_ru
      rw [if_neg (by omega), if_neg (by omega), if_neg (by omega), if_pos rfl]
      exact h2 j hj
theorem det_eq2 {n : Nat} {A : Nat → Nat → Int} {a b : Nat} (hab : ¬ a = b) (ha : a < n) (hb : b < n) (h : ∀ j, j < n → A a j = A b j) : dt_det n A = 0 := by
  by_cases hl : a < b
  · have e : a + (b - a - 1) + 1 = b := by omega
    exact det_eq (b - a - 1) (a := a) (by omega) (fun j hj => by rw [e]; exact h j hj)
  · have e : b + (a - b - 1) + 1 = a := by omega
    exact det_eq (a - b - 1) (a := b) (by omega) (fun j hj => by rw [e]; exact (h j hj).symm)
theorem det_add {n : Nat} (A : Nat → Nat → Int) {r s : Nat} (c : Int) (hrs : ¬ r = s) (hr : r < n) (hs : s < n) : dt_det n (dt_ru A r (fun j => A r j + c * A s j)) = dt_det n A := by
  have h1 := det_lin A (A r) (A s) 1 c hr
  rw [ru_id, det_eq2 (A := dt_ru A r (A s)) hrs hr hs (fun j _ => by unfold dt_ru; rw [if_pos rfl, if_neg (by omega)])] at h1
  rw [show (fun j => A r j + c * A s j) = fun j => 1 * A r j + c * A s j by funext j; omega, h1]
  omega
/-- a row gets a combination of the first k rows -/
theorem det_comb {n : Nat} (A : Nat → Nat → Int) {r : Nat} (q : Int) (b : Nat → Int) (hr : r < n) : ∀ k : Nat, k ≤ r → dt_det n (dt_ru A r (fun j => q * A r j + dt_sum (fun t => b t * A t j) k)) = q * dt_det n A := by
  intro k
  induction k with
  | zero =>
    intro _
    rw [show (fun j => q * A r j + dt_sum (fun t => b t * A t j) 0) = fun j => q * A r j by funext j; simp [dt_sum], det_scale A q hr]
  | succ k ih =>
    intro hk
    rw [← ih (by omega)]
    generalize hx : (fun j => q * A r j + dt_sum (fun t => b t * A t j) k) = x
    have := det_add (dt_ru A r x) (r := r) (s := k) (b k) (by omega) hr (by omega)
    rw [← this]
    congr 1
    funext i j
    unfold dt_ru
    by_cases hi : i = r
    · rw [if_pos hi, if_pos hi]
      show q * A r j + dt_sum (fun t => b t * A t j) (k + 1) = (if r = r then x j else A r j) + b k * (if k = r then x j else A k j)
      rw [if_pos rfl, if_neg (by omega), ← hx]
      simp only [dt_sum]
      omega
    · rw [if_neg hi, if_neg hi, if_neg hi]
theorem det_last {n : Nat} {A : Nat → Nat → Int} (h : ∀ j, j < n → A n j = 0) : dt_det (n + 1) A = A n n * dt_det n A := by
  show dt_sum (fun t => dt_sg (n + t) * A t n * dt_det n (fun i j => A (dt_sk t i) j)) (n + 1) = _
  rw [sumN_1 n (by omega) (fun t ht h1 => ?_)]
  · rw [dt_sg_2, det_cg (n := n) (A := fun i j => A (dt_sk n i) j) (B := A) (fun i j hi hj => by
      show A (dt_sk n i) j = A i j
      rw [show dt_sk n i = i by unfold dt_sk; rw [if_pos hi]])]
    rw [Int.one_mul]
  · cases n with
    | zero => omega
    | succ n =>
      rw [det_zrow (n := n + 1) (r := n) (by omega) (fun j hj => ?_), Int.mul_zero]
      · show A (dt_sk t n) j = 0
        rw [show dt_sk t n = n + 1 by unfold dt_sk; rw [if_neg (by omega)]]
        exact h j hj
/-- rows from k on have nothing up to column k: no determinant -/
theorem det_colz : ∀ {n : Nat} {A : Nat → Nat → Int} {k : Nat}, k < n → (∀ r c, k ≤ r → r < n → c ≤ k → A r c = 0) → dt_det n A = 0 := by
  intro n
  induction n with
  | zero => intro A k h; omega
  | succ n ih =>
    intro A k hk h
    by_cases hn : k = n
    · exact det_zrow (r := n) (by omega) (fun j hj => h n j (by omega) (by omega) (by omega))
    · unfold dt_det
      refine sumN_0 (fun t ht => ?_)
      rw [ih (k := k) (by omega) (fun r c h1 h2 h3 => h _ c (by unfold dt_sk; split <;> omega) (by unfold dt_sk; split <;> omega) h3), Int.mul_zero]
