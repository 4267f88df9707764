/-! DETERMINANTS: columns, frames, signs -/
theorem det_zcol : ∀ {n : Nat} {A : Nat → Nat → Int} {c : Nat}, c < n → (∀ r, r < n → A r c = 0) → dt_det n A = 0 := by
  intro n
  induction n with
  | zero => intro A c h; omega
  | succ n ih =>
    intro A c hc h
    show dt_sum (fun t => dt_sg (n + t) * A t n * dt_det n (fun i j => A (dt_sk t i) j)) (n + 1) = 0
    refine sumN_0 (fun t ht => ?_)
    by_cases e : c = n
    · rw [← e, h t ht]; simp
    · rw [ih (c := c) (by omega) (fun r hr => h _ (by unfold dt_sk; split <;> omega)), Int.mul_zero]
theorem dsum_0 (F : Nat → Nat → Int) : ∀ N : Nat, (∀ t u : Nat, u < t → t ≤ N → F t u + F u (t - 1) = 0) → dt_sum (fun t => dt_sum (fun u => F t u) N) (N + 1) = 0 := by
  intro N
  induction N with
  | zero => intro _; rfl
  | succ N ih =>
    intro h
    have i := ih (fun t u h1 h2 => h t u h1 (by omega))
    have e1 : dt_sum (fun t => dt_sum (fun u => F t u) (N + 1)) (N + 1) = dt_sum (fun t => dt_sum (fun u => F t u) N) (N + 1) + dt_sum (fun t => F t N) (N + 1) := by
      have := sumN_lin (f := fun t => dt_sum (fun u => F t u) N) (g := fun t => F t N) 1 1 (N + 1)
      simp only [Int.one_mul] at this
      exact this
    show dt_sum (fun t => dt_sum (fun u => F t u) (N + 1)) (N + 1) + dt_sum (fun u => F (N + 1) u) (N + 1) = 0
    rw [e1, i, Int.zero_add]
    have := sumN_lin (f := fun t => F t N) (g := fun u => F (N + 1) u) 1 1 (N + 1)
    simp only [Int.one_mul] at this
    rw [← this]
    refine sumN_0 (fun t ht => ?_)
    have := h (N + 1) t (by omega) (Nat.le_refl _)
    rw [Nat.add_sub_cancel] at this
    omega
def sw (j x : Nat) : Nat := if x = j then j + 1 else if x = j + 1 then j else x
theorem det_colsw : ∀ {n : Nat} (A : Nat → Nat → Int) {j : Nat}, j + 1 < n → dt_det n (fun a b => A a (sw j b)) = - dt_det n A := by
  intro n
  induction n with
  | zero => intro A j h; omega
  | succ n ih =>
    intro A j hj
    by_cases hjn : j + 1 < n
    · show dt_sum (fun t => dt_sg (n + t) * A t (sw j n) * dt_det n (fun a b => A (dt_sk t a) (sw j b))) (n + 1) = - dt_sum (fun t => dt_sg (n + t) * A t n * dt_det n (fun a b => A (dt_sk t a) b)) (n + 1)
      have := sumN_mul (f := fun t => dt_sg (n + t) * A t n * dt_det n (fun a b => A (dt_sk t a) b)) (-1) (n + 1)
      rw [show - dt_sum (fun t => dt_sg (n + t) * A t n * dt_det n (fun a b => A (dt_sk t a) b)) (n + 1) = -1 * dt_sum (fun t => dt_sg (n + t) * A t n * dt_det n (fun a b => A (dt_sk t a) b)) (n + 1) by omega, ← this]
      refine sumN_cg (fun t ht => ?_)
      rw [ih (fun a b => A (dt_sk t a) b) hjn, show sw j n = n by unfold sw; rw [if_neg (by omega), if_neg (by omega)]]
      grind
    · obtain ⟨N, rfl⟩ : ∃ N, n = N + 1 := ⟨n - 1, by omega⟩
      have hjN : j = N := by omega
      subst hjN
      let De : Nat → Nat → Int := fun t u => dt_det j (fun a b => A (dt_sk t (dt_sk u a)) b)
      let F : Nat → Nat → Int := fun t u => dt_sg (j + 1 + t) * A t (j + 1) * (dt_sg (j + u) * A (dt_sk t u) j * De t u)
      let F' : Nat → Nat → Int := fun t u => dt_sg (j + 1 + t) * A t j * (dt_sg (j + u) * A (dt_sk t u) (j + 1) * De t u)
      have e1 : dt_det (j + 1 + 1) A = dt_sum (fun t => dt_sum (fun u => F t u) (j + 1)) (j + 1 + 1) := by
        show dt_sum (fun t => dt_sg (j + 1 + t) * A t (j + 1) * dt_sum (fun u => dt_sg (j + u) * A (dt_sk t u) j * dt_det j (fun a b => A (dt_sk t (dt_sk u a)) b)) (j + 1)) (j + 1 + 1) = _
        refine sumN_cg (fun t ht => ?_)
        rw [← sumN_mul]
      have e2 : dt_det (j + 1 + 1) (fun a b => A a (sw j b)) = dt_sum (fun t => dt_sum (fun u => F' t u) (j + 1)) (j + 1 + 1) := by
        show dt_sum (fun t => dt_sg (j + 1 + t) * A t (sw j (j + 1)) * dt_sum (fun u => dt_sg (j + u) * A (dt_sk t u) (sw j j) * dt_det j (fun a b => A (dt_sk t (dt_sk u a)) (sw j b))) (j + 1)) (j + 1 + 1) = _
        have s1 : sw j (j + 1) = j := by unfold sw; rw [if_neg (by omega), if_pos rfl]
        have s2 : sw j j = j + 1 := by unfold sw; rw [if_pos rfl]
        refine sumN_cg (fun t ht => ?_)
        rw [s1, s2, ← sumN_mul]
        refine sumN_cg (fun u hu => ?_)
        have : dt_det j (fun a b => A (dt_sk t (dt_sk u a)) (sw j b)) = De t u := det_cg (fun a b ha hb => by
          show A (dt_sk t (dt_sk u a)) (sw j b) = A (dt_sk t (dt_sk u a)) b
          rw [show sw j b = b by unfold sw; rw [if_neg (by omega), if_neg (by omega)]])
        rw [this]
      have hDe : ∀ t u : Nat, u < t → De t u = De u (t - 1) := fun t u h => by
        refine det_cg (fun a b ha hb => ?_)
        show A (dt_sk t (dt_sk u a)) b = A (dt_sk u (dt_sk (t - 1) a)) b
        congr 1
        unfold dt_sk
        repeat' split
        all_goals omega
      have hsg : ∀ t u : Nat, u < t → dt_sg (j + 1 + t) * dt_sg (j + u) = - (dt_sg (j + 1 + u) * dt_sg (j + (t - 1))) := fun t u h => by
        unfold dt_sg
        repeat' split
        all_goals first | rfl | (exfalso; omega)
      have key := dsum_0 (fun t u => F' t u + F t u) (j + 1) (fun t u h1 h2 => by
        have k1 : dt_sk t u = u := by unfold dt_sk; rw [if_pos h1]
        have k2 : dt_sk u (t - 1) = t := by unfold dt_sk; rw [if_neg (by omega)]; omega
        show (dt_sg (j + 1 + t) * A t j * (dt_sg (j + u) * A (dt_sk t u) (j + 1) * De t u) + dt_sg (j + 1 + t) * A t (j + 1) * (dt_sg (j + u) * A (dt_sk t u) j * De t u)) + (dt_sg (j + 1 + u) * A u j * (dt_sg (j + (t - 1)) * A (dt_sk u (t - 1)) (j + 1) * De u (t - 1)) + dt_sg (j + 1 + u) * A u (j + 1) * (dt_sg (j + (t - 1)) * A (dt_sk u (t - 1)) j * De u (t - 1))) = 0
        rw [k1, k2, hDe t u h1]
        have hs := hsg t u h1
        generalize dt_sg (j + 1 + t) = x1 at *
        generalize dt_sg (j + u) = x2 at *
        generalize dt_sg (j + 1 + u) = x3 at *
        generalize dt_sg (j + (t - 1)) = x4 at *
        generalize De u (t - 1) = y at *
        generalize A t j = p1 at *
        generalize A u (j + 1) = p2 at *
        generalize A t (j + 1) = p3 at *
        generalize A u j = p4 at *
        have h1 : x1 * p1 * (x2 * p2 * y) = (x1 * x2) * (p1 * p2 * y) := by grind
        have h2 : x1 * p3 * (x2 * p4 * y) = (x1 * x2) * (p3 * p4 * y) := by grind
        rw [h1, h2, hs]
        grind)
      have e3 : dt_sum (fun t => dt_sum (fun u => F' t u + F t u) (j + 1)) (j + 1 + 1) = dt_sum (fun t => dt_sum (fun u => F' t u) (j + 1)) (j + 1 + 1) + dt_sum (fun t => dt_sum (fun u => F t u) (j + 1)) (j + 1 + 1) := by
        have h1 := sumN_lin (f := fun t => dt_sum (fun u => F' t u) (j + 1)) (g := fun t => dt_sum (fun u => F t u) (j + 1)) 1 1 (j + 1 + 1)
        simp only [Int.one_mul] at h1
        rw [← h1]
        refine sumN_cg (fun t ht => ?_)
        have h2 := sumN_lin (f := fun u => F' t u) (g := fun u => F t u) 1 1 (j + 1)
        simp only [Int.one_mul] at h2
        exact h2
      rw [e1, e2]
      omega
/-- two neighbours change places, rows and columns -/
theorem det_conj1 {n : Nat} (A : Nat → Nat → Int) {j : Nat} (h : j + 1 < n) : dt_det n (fun a b => A (sw j a) (sw j b)) = dt_det n A := by
  rw [det_colsw (fun a b => A (sw j a) b) h]
  have h1 := det_swapA A (A (j + 1)) (A j) h
  have e1 : dt_ru (dt_ru A j (A (j + 1))) (j + 1) (A j) = fun a b => A (sw j a) b := by
    funext a b
    unfold dt_ru sw
    by_cases c1 : a = j + 1
    · rw [if_pos c1, if_neg (by omega), if_pos c1]
    · rw [if_neg c1]
      by_cases c2 : a = j
      · rw [if_pos c2, if_pos c2]
      · rw [if_neg c2, if_neg c2, if_neg c1]
  have e2 : dt_ru (dt_ru A j (A j)) (j + 1) (A (j + 1)) = A := by rw [ru_id]; exact ru_id A (j + 1)
  rw [e1, e2] at h1
  rw [h1]
  omega
/-- c and l change places -/
def tr (c l x : Nat) : Nat := if x = c then l else if x = l then c else x
theorem det_conj {n : Nat} : ∀ (k : Nat) (A : Nat → Nat → Int) {c : Nat}, c + k < n → dt_det n (fun a b => A (tr c (c + k) a) (tr c (c + k) b)) = dt_det n A := by
  intro k
  induction k with
  | zero =>
    intro A c _
    refine det_cg (fun a b _ _ => ?_)
    have : ∀ x : Nat, tr c (c + 0) x = x := fun x => by
      unfold tr
      repeat' split
      all_goals omega
    rw [this, this]
  | succ k ih =>
    intro A c h
    by_cases k0 : k = 0
    · subst k0
      rw [← det_conj1 A (j := c) (by omega)]
      refine det_cg (fun a b _ _ => ?_)
      have : ∀ x : Nat, tr c (c + (0 + 1)) x = sw c x := fun x => by
        unfold tr sw
        repeat' split
        all_goals omega
      rw [this, this]
    · have e : ∀ x : Nat, tr c (c + (k + 1)) x = sw (c + k) (tr c (c + k) (sw (c + k) x)) := fun x => by
        unfold tr sw
        repeat' split
        all_goals omega
      rw [← det_conj1 A (j := c + k) (by omega), ← ih (fun a b => A (sw (c + k) a) (sw (c + k) b)) (c := c) (by omega), ← det_conj1 (fun a b => A (sw (c + k) (tr c (c + k) a)) (sw (c + k) (tr c (c + k) b))) (j := c + k) (by omega)]
      refine det_cg (fun a b _ _ => ?_)
      rw [e, e]
/-- a row's multiples added to the others -/
theorem det_addrow {n r : Nat} (A : Nat → Nat → Int) (c : Nat → Int) (hr : r < n) : ∀ m : Nat, m ≤ n → dt_det n (fun i j => if i < m ∧ ¬ i = r then A i j + c i * A r j else A i j) = dt_det n A := by
  intro m
  induction m with
  | zero =>
    intro _
    refine det_cg (fun i j _ _ => ?_)
    rw [if_neg (by omega)]
  | succ m ih =>
    intro hm
    by_cases hmr : m = r
    · rw [← ih (by omega)]
      refine det_cg (fun i j _ _ => ?_)
      by_cases h : i < m ∧ ¬ i = r
      · rw [if_pos h, if_pos (by omega)]
      · rw [if_neg h, if_neg (by omega)]
    · rw [← ih (by omega), ← det_add (fun i j => if i < m ∧ ¬ i = r then A i j + c i * A r j else A i j) (r := m) (s := r) (c m) hmr (by omega) hr]
      refine det_cg (fun i j _ _ => ?_)
      unfold dt_ru
      by_cases h1 : i = m
      · rw [if_pos (show i < m + 1 ∧ ¬ i = r by omega), if_pos h1]
        show A i j + c i * A r j = (if m < m ∧ ¬ m = r then A m j + c m * A r j else A m j) + c m * (if r < m ∧ ¬ r = r then A r j + c r * A r j else A r j)
        rw [if_neg (by omega), if_neg (by omega), h1]
      · rw [if_neg h1]
        show (if i < m + 1 ∧ ¬ i = r then A i j + c i * A r j else A i j) = if i < m ∧ ¬ i = r then A i j + c i * A r j else A i j
        by_cases h2 : i < m ∧ ¬ i = r
        · rw [if_pos h2, if_pos (by omega)]
        · rw [if_neg h2, if_neg (by omega)]
/-- a row below which its column has nothing else: its other places don't count -/
theorem det_lone {n c : Nat} {A A2 : Nat → Nat → Int} (hc : c < n) (h1 : ∀ r, r < n → ¬ r = c → A r c = 0) (h2 : ∀ r j, r < n → j < n → ¬ r = c → A2 r j = A r j) (h3 : A2 c c = A c c) : dt_det n A2 = dt_det n A := by
  have e : dt_det n A2 = dt_det n (dt_ru A c (fun j => 1 * A c j + 1 * (A2 c j - A c j))) := det_cg (fun i j hi hj => by
    unfold dt_ru
    by_cases q : i = c
    · rw [if_pos q]
      subst q
      show A2 i j = 1 * A i j + 1 * (A2 i j - A i j)
      omega
    · rw [if_neg q]; exact h2 i j hi hj q)
  have z : dt_det n (dt_ru A c (fun j => A2 c j - A c j)) = 0 := det_zcol (c := c) hc (fun r hr => by
    unfold dt_ru
    by_cases q : r = c
    · rw [if_pos q]
      show A2 c c - A c c = 0
      omega
    · rw [if_neg q]; exact h1 r hr q)
  rw [e, det_lin A (A c) (fun j => A2 c j - A c j) 1 1 hc, ru_id, z]
  omega
/-- the first row alone -/
theorem det_first : ∀ (m : Nat) (A : Nat → Nat → Int), (∀ j, j < m + 1 → A 0 j = if j = 0 then 1 else 0) → dt_det (m + 1) A = dt_det m (fun i j => A (i + 1) (j + 1)) := by
  intro m
  induction m with
  | zero =>
    intro A h
    show dt_sum (fun t => dt_sg (0 + t) * A t 0 * dt_det 0 (fun i j => A (dt_sk t i) j)) 1 = 1
    simp only [dt_sum, dt_det]
    rw [h 0 (by omega), if_pos rfl]
    simp [dt_sg]
  | succ m ih =>
    intro A h
    show dt_sum (fun t => dt_sg (m + 1 + t) * A t (m + 1) * dt_det (m + 1) (fun i j => A (dt_sk t i) j)) (m + 1 + 1) = dt_sum (fun t => dt_sg (m + t) * A (t + 1) (m + 1) * dt_det m (fun i j => A (dt_sk t i + 1) (j + 1))) (m + 1)
    have hsh : ∀ (f : Nat → Int) (k : Nat), dt_sum f (k + 1) = f 0 + dt_sum (fun t => f (t + 1)) k := fun f k => by
      have := sum_add f 1 k
      rw [show k + 1 = 1 + k by omega, this]
      show 0 + f 0 + _ = _
      rw [Int.zero_add]
      congr 1
      exact sumN_cg (fun t _ => by rw [Nat.add_comm])
    rw [hsh]
    have h0 : A 0 (m + 1) = 0 := by rw [h (m + 1) (by omega), if_neg (by omega)]
    simp only [h0, Int.mul_zero, Int.zero_mul, Int.zero_add]
    refine sumN_cg (fun t ht => ?_)
    rw [ih (fun i j => A (dt_sk (t + 1) i) j) (fun j hj => by
      show A (dt_sk (t + 1) 0) j = _
      rw [show dt_sk (t + 1) 0 = 0 by unfold dt_sk; rw [if_pos (by omega)]]
      exact h j (by omega))]
    have e1 : dt_sg (m + 1 + (t + 1)) = dt_sg (m + t) := by
      rw [show m + 1 + (t + 1) = (m + t + 1) + 1 by omega, dt_sg_s, dt_sg_s]; omega
    rw [e1]
    congr 1
    refine det_cg (fun i j _ _ => ?_)
    show A (dt_sk (t + 1) (i + 1)) (j + 1) = A (dt_sk t i + 1) (j + 1)
    congr 1
    unfold dt_sk
    repeat' split
    all_goals omega
theorem det_lastrows {A : Nat → Nat → Int} {a : Nat} : ∀ k : Nat, (∀ r j, a ≤ r → r < a + k → j ≤ r → A r j = if r = j then 1 else 0) → dt_det (a + k) A = dt_det a A := by
  intro k
  induction k with
  | zero => intro _; rfl
  | succ k ih =>
    intro h
    have e : dt_det (a + k + 1) A = A (a + k) (a + k) * dt_det (a + k) A := det_last (fun j hj => by rw [h (a + k) j (by omega) (by omega) (by omega), if_neg (by omega)])
    show dt_det (a + k + 1) A = _
    rw [e, h (a + k) (a + k) (by omega) (by omega) (Nat.le_refl _), if_pos rfl, Int.one_mul]
    exact ih (fun r j h1 h2 h3 => h r j h1 (by omega) h3)
/-- inn, part, what is not there -/
theorem det_frame {A : Nat → Nat → Int} {m : Nat} (hm : m + 1 ≤ 8) (h0 : ∀ j, j < 8 → A 0 j = if j = 0 then 1 else 0) (h1 : ∀ r j, m + 1 ≤ r → r < 8 → j < 8 → A r j = if r = j then 1 else 0) : dt_det 8 A = dt_det m (fun i j => A (i + 1) (j + 1)) := by
  have e := det_lastrows (A := A) (a := m + 1) (8 - (m + 1)) (fun r j a b c => h1 r j a (by omega) (by omega))
  rw [show m + 1 + (8 - (m + 1)) = 8 by omega] at e
  rw [e]
  exact det_first m A (fun j hj => h0 j (by omega))
/-- no number to go on with: nothing at all -/
theorem det_nopiv {A : Nat → Nat → Int} {n k : Nat} (hk : k < n) (hp : ∀ t : Nat, t ≤ k → ¬ dt_det t A = 0) (h0 : ∀ i : Nat, k ≤ i → i < n → mn A k i k = 0) : dt_det n A = 0 := by
  have hz := mn_z k hp
  have step : ∀ r : Nat, k + r ≤ n → ∃ q : Int, ¬ q = 0 ∧ dt_det n (fun i j => if k ≤ i ∧ i < k + r then mn A k i j else A i j) = q * dt_det n A := by
    intro r
    induction r with
    | zero =>
      intro _
      refine ⟨1, by decide, ?_⟩
      rw [Int.one_mul]
      refine det_cg (fun i j _ _ => ?_)
      rw [if_neg (by omega)]
    | succ r ih =>
      intro hr
      obtain ⟨q, q1, q2⟩ := ih (by omega)
      refine ⟨dt_det k A * q, fun c => ?_, ?_⟩
      · rcases Int.mul_eq_zero.mp c with c | c
        · exact hp k (Nat.le_refl k) c
        · exact q1 c
      · rw [Int.mul_assoc, ← q2, ← det_comb (fun i j => if k ≤ i ∧ i < k + r then mn A k i j else A i j) (r := k + r) (dt_det k A) (fun t => mc A k (k + r) t) (by omega) k (by omega)]
        refine det_cg (fun i j hi hj => ?_)
        unfold dt_ru
        by_cases c : i = k + r
        · rw [if_pos (show k ≤ i ∧ i < k + (r + 1) by omega), if_pos c, c, mn_row]
          show _ = dt_det k A * (if k ≤ k + r ∧ k + r < k + r then mn A k (k + r) j else A (k + r) j) + _
          rw [if_neg (by omega)]
          congr 1
          refine sumN_cg (fun t ht => ?_)
          show _ = mc A k (k + r) t * (if k ≤ t ∧ t < k + r then mn A k t j else A t j)
          rw [if_neg (by omega)]
        · rw [if_neg c]
          by_cases c2 : k ≤ i ∧ i < k + r
          · rw [if_pos (show k ≤ i ∧ i < k + (r + 1) by omega)]
            show mn A k i j = (if k ≤ i ∧ i < k + r then mn A k i j else A i j)
            rw [if_pos c2]
          · rw [if_neg (show ¬ (k ≤ i ∧ i < k + (r + 1)) by omega)]
            show A i j = (if k ≤ i ∧ i < k + r then mn A k i j else A i j)
            rw [if_neg c2]
  obtain ⟨q, q1, q2⟩ := step (n - k) (by omega)
  have hc := det_colz (n := n) (A := fun i j => if k ≤ i ∧ i < k + (n - k) then mn A k i j else A i j) (k := k) hk (fun r c h1 h2 h3 => by
    rw [if_pos (by omega)]
    by_cases e : c = k
    · rw [e]; exact h0 r h1 h2
    · exact hz r c (by omega))
  rw [hc] at q2
  rcases Int.mul_eq_zero.mp q2.symm with c | c
  · exact absurd c q1
  · exact c
/-- signs along the way -/
theorem mn_sign {A : Nat → Nat → Int} {m : Nat} (hp : ∀ t : Nat, t ≤ m → 0 < dt_det t A) (h1 : ∀ i j : Nat, i < m → j < m → ¬ i = j → A i j ≤ 0) (h2 : ∀ i : Nat, i < m → 0 ≤ A i m) : ∀ k : Nat, k < m → (∀ i j : Nat, k ≤ i → i < m → k ≤ j → j < m → ¬ i = j → mn A k i j ≤ 0) ∧ ∀ i : Nat, k ≤ i → i < m → 0 ≤ mn A k i m := by
  intro k
  induction k with
  | zero =>
    intro _
    exact ⟨fun i j _ hi _ hj e => by rw [mn_0]; exact h1 i j hi hj e, fun i _ hi => by rw [mn_0]; exact h2 i hi⟩
  | succ k ih =>
    intro hk
    obtain ⟨i1, i2⟩ := ih (by omega)
    have hP1 := hp (k + 1) (by omega)
    have hP := hp k (by omega)
    have hB : ∀ i j : Nat, dt_det (k + 1) A * mn A k i j - mn A k i k * mn A k k j = dt_det k A * mn A (k + 1) i j := fun i j => mn_B (fun t ht => by have := hp t (by omega); omega) i j
    refine ⟨fun i j a b c d e => ?_, fun i a b => ?_⟩
    · have x1 := i1 i j (by omega) b (by omega) d e
      have x2 := i1 i k (by omega) b (Nat.le_refl k) (by omega) (by omega)
      have x3 := i1 k j (Nat.le_refl k) (by omega) (by omega) d (by omega)
      have y1 : 0 ≤ mn A k i k * mn A k k j := Int.mul_nonneg_of_nonpos_of_nonpos x2 x3
      have y2 : dt_det (k + 1) A * mn A k i j ≤ 0 := Int.mul_nonpos_of_nonneg_of_nonpos (by omega) x1
      have y3 := hB i j
      refine Classical.byContradiction (fun q => ?_)
      have : 0 < dt_det k A * mn A (k + 1) i j := Int.mul_pos hP (by omega)
      omega
    · have x1 := i2 i (by omega) b
      have x2 := i1 i k (by omega) b (Nat.le_refl k) (by omega) (by omega)
      have x3 := i2 k (Nat.le_refl k) (by omega)
      have y1 : mn A k i k * mn A k k m ≤ 0 := Int.mul_nonpos_of_nonpos_of_nonneg x2 x3
      have y2 : 0 ≤ dt_det (k + 1) A * mn A k i m := Int.mul_nonneg (by omega) x1
      have y3 := hB i m
      refine Classical.byContradiction (fun q => ?_)
      have : dt_det k A * mn A (k + 1) i m < 0 := Int.mul_neg_of_pos_of_neg hP (by omega)
      omega
