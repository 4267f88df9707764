/-! TREES COUNTED by a determinant -/
theorem det_lastcol {n : Nat} {A : Nat → Nat → Int} (h : ∀ t, t < n → A t n = 0) : dt_det (n + 1) A = A n n * dt_det n A := by
  show dt_sum (fun t => dt_sg (n + t) * A t n * dt_det n (fun i j => A (dt_sk t i) j)) (n + 1) = _
  rw [sumN_1 n (by omega) (fun t ht h1 => by rw [h t (by omega)]; simp), dt_sg_2, Int.one_mul]
  congr 1
  refine det_cg (fun i j hi hj => ?_)
  rw [show dt_sk n i = i by unfold dt_sk; rw [if_pos hi]]
theorem det_addlast {n : Nat} (A : Nat → Nat → Int) (c : Nat → Int) : ∀ m : Nat, m ≤ n → dt_det (n + 1) (fun i j => if i < m then A i j + c i * A n j else A i j) = dt_det (n + 1) A := by
  intro m
  induction m with
  | zero =>
    intro _
    refine det_cg (fun i j _ _ => ?_)
    rw [if_neg (by omega)]
  | succ m ih =>
    intro hm
    rw [← ih (by omega), ← det_add (fun i j => if i < m then A i j + c i * A n j else A i j) (r := m) (s := n) (c m) (by omega) (by omega) (by omega)]
    refine det_cg (fun i j _ _ => ?_)
    unfold dt_ru
    by_cases h1 : i = m
    · rw [if_pos (show i < m + 1 by omega), if_pos h1]; (try dsimp only); rw [if_neg (show ¬ m < m by omega), if_neg (show ¬ n < m by omega), h1]
    · rw [if_neg h1]
      by_cases h2 : i < m
      · rw [if_pos (show i < m + 1 by omega)]; (try dsimp only); rw [if_pos h2]
      · rw [if_neg (show ¬ i < m + 1 by omega)]; (try dsimp only); rw [if_neg h2]
def sgm (s : Nat → Int) : Nat → Nat → Int := fun i j => (if i = j then 1 else 0) - (if s i = (j : Int) then 1 else 0)
/-- each of the first q comes out, by s: there is a rank that falls -/
def al (q : Nat) (s : Nat → Int) : Prop := ∃ h : Nat → Nat, ∀ v w : Nat, v < q → s v = (w : Int) → w < q → h w < h v
theorem al_part {q m : Nat} (hq : q ≤ m) {s : Nat → Int} (h : al m s) : al q s := by
  obtain ⟨h, hh⟩ := h
  exact ⟨h, fun v w hv e hw => hh v w (by omega) e (by omega)⟩
theorem al_cg {q : Nat} {s s2 : Nat → Int} (e : ∀ i : Nat, i < q → s2 i = s i) (h : al q s) : al q s2 := by
  obtain ⟨h, hh⟩ := h
  exact ⟨h, fun v w hv e2 hw => hh v w hv (by rw [← e v hv]; exact e2) hw⟩
theorem al_s {q : Nat} {s : Nat → Int} : al (q + 1) s ↔ ¬ s q = (q : Int) ∧ al q (fun v => if s v = (q : Int) then s q else s v) := by
  constructor
  · rintro ⟨h, hh⟩
    have hq : ¬ s q = (q : Int) := fun e => Nat.lt_irrefl _ (hh q q (by omega) e (by omega))
    refine ⟨hq, h, fun v w hv e hw => ?_⟩
    simp only at e
    by_cases c : s v = (q : Int)
    · rw [if_pos c] at e
      have h1 := hh v q (by omega) c (by omega)
      have h2 := hh q w (by omega) e (by omega)
      omega
    · rw [if_neg c] at e
      exact hh v w (by omega) e (by omega)
  · rintro ⟨hq, h, hh⟩
    refine ⟨fun v => if v = q then (if 0 ≤ s q ∧ s q < (q : Int) then 2 * h (s q).toNat + 3 else 1) else 2 * h v + 2, fun v w hv e hw => ?_⟩
    simp only
    by_cases hvq : v = q
    · subst hvq
      have hwv : ¬ w = v := fun c => hq (by rw [e, c])
      rw [if_neg hwv, if_pos rfl, if_pos (by omega), e, Int.toNat_natCast]
      omega
    · rw [if_neg hvq]
      by_cases hwq : w = q
      · rw [if_pos hwq]
        rw [hwq] at e
        by_cases c : 0 ≤ s q ∧ s q < (q : Int)
        · rw [if_pos c]
          have := hh v (s q).toNat (by omega) (by simp only; rw [if_pos e]; omega) (by omega)
          omega
        · rw [if_neg c]; omega
      · rw [if_neg hwq]
        have := hh v w (by omega) (by simp only; rw [if_neg (by omega)]; exact e) (by omega)
        omega
theorem det_one : ∀ (q : Nat) (s : Nat → Int), (al q s → dt_det q (sgm s) = 1) ∧ (¬ al q s → dt_det q (sgm s) = 0) := by
  intro q
  induction q with
  | zero => intro s; exact ⟨fun _ => rfl, fun h => absurd ⟨fun _ => 0, fun v w hv => by omega⟩ h⟩
  | succ q ih =>
    intro s
    by_cases hq : s q = (q : Int)
    · refine ⟨fun h => absurd hq (al_s.mp h).1, fun _ => det_zrow (r := q) (by omega) (fun j hj => ?_)⟩
      unfold sgm
      rw [hq]
      by_cases e : q = j
      · rw [if_pos e, if_pos (by omega)]; rfl
      · rw [if_neg e, if_neg (by omega)]; rfl
    · have key : dt_det (q + 1) (sgm s) = dt_det q (sgm (fun v => if s v = (q : Int) then s q else s v)) := by
        rw [← det_addlast (sgm s) (fun i => if s i = (q : Int) then 1 else 0) q (Nat.le_refl q)]
        rw [det_lastcol (fun t ht => ?_)]
        · have e1 : (if q < q then sgm s q q + (if s q = (q : Int) then 1 else 0) * sgm s q q else sgm s q q) = 1 := by
            rw [if_neg (Nat.lt_irrefl q)]
            unfold sgm
            rw [if_pos rfl, if_neg hq]; rfl
          refine Eq.trans (congrArg (· * _) e1) ?_
          rw [Int.one_mul]
          refine det_cg (fun i j hi hj => ?_)
          rw [if_pos hi]
          unfold sgm
          by_cases c : s i = (q : Int)
          · simp only [if_pos c]
            rw [c, if_neg (show ¬ (q : Int) = (j : Int) by omega), if_neg (show ¬ q = j by omega)]
            omega
          · simp only [if_neg c]
            omega
        · rw [if_pos ht]
          unfold sgm
          rw [if_neg (show ¬ t = q by omega), if_pos rfl, if_neg hq]
          by_cases c : s t = (q : Int)
          · rw [if_pos c]; rfl
          · rw [if_neg c]; rfl
      rw [key, al_s]
      obtain ⟨i1, i2⟩ := ih (fun v => if s v = (q : Int) then s q else s v)
      exact ⟨fun h => i1 h.2, fun h => i2 (fun c => h ⟨hq, c⟩)⟩
/-! rows of several ways -/
theorem det_rowsum {n : Nat} (A : Nat → Nat → Int) {r : Nat} (hr : r < n) (x : Nat → Nat → Int) : ∀ K : Nat, dt_det n (dt_ru A r (fun j => dt_sum (fun k => x k j) K)) = dt_sum (fun k => dt_det n (dt_ru A r (x k))) K := by
  intro K
  induction K with
  | zero =>
    refine det_zrow hr (fun j _ => ?_)
    unfold dt_ru
    rw [if_pos rfl]; rfl
  | succ K ih =>
    have := det_lin A (r := r) (fun j => dt_sum (fun k => x k j) K) (x K) 1 1 hr
    rw [show (fun j => dt_sum (fun k => x k j) (K + 1)) = fun j => 1 * dt_sum (fun k => x k j) K + 1 * x K j by funext j; simp [dt_sum], this, ih]
    simp [dt_sum]
def upN (s : Nat → Int) (v : Nat) (x : Int) : Nat → Int := fun i => if i = v then x else s i
/-- the first v go by s, the others all their ways -/
def tmx (v : Nat) (s : Nat → Int) (D : Nat → Nat) (g : Nat → Nat → Int) : Nat → Nat → Int := fun i j => if i < v then sgm s i j else dt_sum (fun k => (if i = j then 1 else 0) - (if g i k = (j : Int) then 1 else 0)) (D i)
/-- how many settings of v, v + 1, .. (f of them) bring all out -/
def tn (m : Nat) (D : Nat → Nat) (g : Nat → Nat → Int) : Nat → Nat → (Nat → Int) → Int
  | 0, _, s => dt_det m (sgm s)
  | f + 1, v, s => dt_sum (fun k => tn m D g f (v + 1) (upN s v (g v k))) (D v)
theorem tn_det {m : Nat} {D : Nat → Nat} {g : Nat → Nat → Int} : ∀ (f v : Nat) (s : Nat → Int), v + f = m → dt_det m (tmx v s D g) = tn m D g f v s := by
  intro f
  induction f with
  | zero =>
    intro v s h
    refine det_cg (fun i j hi hj => ?_)
    unfold tmx
    rw [if_pos (by omega)]
  | succ f ih =>
    intro v s h
    show _ = dt_sum (fun k => tn m D g f (v + 1) (upN s v (g v k))) (D v)
    have e : tmx v s D g = dt_ru (tmx v s D g) v (fun j => dt_sum (fun k => (if v = j then 1 else 0) - (if g v k = (j : Int) then 1 else 0)) (D v)) := by
      funext i j
      unfold dt_ru
      by_cases c : i = v
      · rw [if_pos c, c]
        unfold tmx
        rw [if_neg (by omega)]
      · rw [if_neg c]
    rw [e, det_rowsum _ (by omega) (fun k j => (if v = j then 1 else 0) - (if g v k = (j : Int) then 1 else 0))]
    refine sumN_cg (fun k hk => ?_)
    rw [← ih (v + 1) (upN s v (g v k)) (by omega)]
    refine det_cg (fun i j hi hj => ?_)
    unfold dt_ru tmx
    by_cases c : i = v
    · rw [if_pos c, if_pos (show i < v + 1 by omega), c]
      unfold sgm upN
      rw [if_pos rfl]
    · rw [if_neg c]
      by_cases c2 : i < v
      · rw [if_pos c2, if_pos (show i < v + 1 by omega)]
        unfold sgm upN
        rw [if_neg c]
      · rw [if_neg c2, if_neg (show ¬ i < v + 1 by omega)]
theorem sum_ne {f : Nat → Int} : ∀ k : Nat, ¬ dt_sum f k = 0 → ∃ t : Nat, t < k ∧ ¬ f t = 0 := by
  intro k
  induction k with
  | zero => intro h; exact absurd rfl h
  | succ k ih =>
    intro h
    by_cases c : f k = 0
    · obtain ⟨t, t1, t2⟩ := ih (fun q => h (by show dt_sum f k + f k = 0; omega))
      exact ⟨t, by omega, t2⟩
    · exact ⟨k, by omega, c⟩
theorem sum_nn {f : Nat → Int} : ∀ k : Nat, (∀ t : Nat, t < k → 0 ≤ f t) → 0 ≤ dt_sum f k ∧ ∀ t : Nat, t < k → f t ≤ dt_sum f k := by
  intro k
  induction k with
  | zero => intro _; exact ⟨Int.le_refl 0, fun t ht => by omega⟩
  | succ k ih =>
    intro h
    obtain ⟨i1, i2⟩ := ih (fun t ht => h t (by omega))
    have hk := h k (by omega)
    refine ⟨by show 0 ≤ dt_sum f k + f k; omega, fun t ht => ?_⟩
    show f t ≤ dt_sum f k + f k
    by_cases e : t = k
    · rw [e]; omega
    · have := i2 t (by omega); omega
theorem tn_nn {m : Nat} {D : Nat → Nat} {g : Nat → Nat → Int} : ∀ (f v : Nat) (s : Nat → Int), 0 ≤ tn m D g f v s := by
  intro f
  induction f with
  | zero =>
    intro v s
    show 0 ≤ dt_det m (sgm s)
    by_cases c : al m s
    · rw [(det_one m s).1 c]; decide
    · rw [(det_one m s).2 c]; decide
  | succ f ih => intro v s; exact (sum_nn _ (fun t _ => ih _ _)).1
/-- s2 is a setting that goes on from the first v of s -/
def tn_ex (m : Nat) (D : Nat → Nat) (g : Nat → Nat → Int) (v : Nat) (s s2 : Nat → Int) : Prop := (∀ i : Nat, i < v → s2 i = s i) ∧ ∀ i : Nat, v ≤ i → i < m → ∃ k : Nat, k < D i ∧ s2 i = g i k
theorem tn_some {m : Nat} {D : Nat → Nat} {g : Nat → Nat → Int} : ∀ (f v : Nat) (s : Nat → Int), v + f = m → ¬ tn m D g f v s = 0 → ∃ s2 : Nat → Int, tn_ex m D g v s s2 ∧ al m s2 := by
  intro f
  induction f with
  | zero =>
    intro v s hv h
    refine ⟨s, ⟨fun _ _ => rfl, fun i i1 i2 => by omega⟩, ?_⟩
    exact Classical.byContradiction (fun c => h ((det_one m s).2 c))
  | succ f ih =>
    intro v s hv h
    obtain ⟨k, k1, k2⟩ := sum_ne (D v) h
    obtain ⟨s2, ⟨e1, e2⟩, e3⟩ := ih (v + 1) _ (by omega) k2
    refine ⟨s2, ⟨fun i hi => ?_, fun i i1 i2 => ?_⟩, e3⟩
    · rw [e1 i (by omega)]
      unfold upN
      rw [if_neg (by omega)]
    · by_cases c : i = v
      · refine ⟨k, by rw [c]; exact k1, ?_⟩
        rw [c, e1 v (by omega)]
        unfold upN
        rw [if_pos rfl]
      · exact e2 i (by omega) i2
theorem tn_pos {m : Nat} {D : Nat → Nat} {g : Nat → Nat → Int} : ∀ (f v : Nat) (s s2 : Nat → Int), v + f = m → tn_ex m D g v s s2 → al m s2 → 1 ≤ tn m D g f v s := by
  intro f
  induction f with
  | zero =>
    intro v s s2 hv h ha
    show 1 ≤ dt_det m (sgm s)
    rw [(det_one m s).1 (al_cg (fun i hi => (h.1 i (by omega)).symm) ha)]
    decide
  | succ f ih =>
    intro v s s2 hv h ha
    obtain ⟨k, k1, k2⟩ := h.2 v (Nat.le_refl v) (by omega)
    have h1 : 1 ≤ tn m D g f (v + 1) (upN s v (g v k)) := ih (v + 1) _ s2 (by omega) ⟨fun i hi => ?_, fun i i1 i2 => h.2 i (by omega) i2⟩ ha
    · have := (sum_nn (f := fun k => tn m D g f (v + 1) (upN s v (g v k))) (D v) (fun t _ => tn_nn _ _ _)).2 k k1
      show 1 ≤ dt_sum _ _
      omega
    · unfold upN
      by_cases c : i = v
      · rw [if_pos c, c, k2]
      · rw [if_neg c]; exact h.1 i (by omega)
/-- a leading part of it: none of it is 0 if all of it isn't -/
theorem tmx_lead {m q v : Nat} {D : Nat → Nat} {g : Nat → Nat → Int} {s : Nat → Int} (hq : q ≤ m) (hv : v ≤ m) (h : ¬ dt_det m (tmx v s D g) = 0) : 1 ≤ dt_det q (tmx v s D g) := by
  rw [tn_det (m - v) v s (by omega)] at h
  obtain ⟨s2, e1, e2⟩ := tn_some (m - v) v s (by omega) h
  have hq2 := al_part hq e2
  by_cases c : v ≤ q
  · rw [tn_det (q - v) v s (by omega)]
    exact tn_pos (q - v) v s s2 (by omega) ⟨e1.1, fun i i1 i2 => e1.2 i i1 (by omega)⟩ hq2
  · have : dt_det q (tmx v s D g) = dt_det q (sgm s) := det_cg (fun i j hi hj => by unfold tmx; rw [if_pos (by omega)])
    rw [this, (det_one q s).1 (al_cg (fun i hi => (e1.1 i (by omega)).symm) hq2)]
    decide
