/-! MEAN AND MEETS: one matrix, three shapes -/
theorem sum_sub {f : Nat → Int} (a : Int) : ∀ k : Nat, dt_sum (fun t => a - f t) k = (k : Int) * a - dt_sum f k := by
  intro k
  induction k with
  | zero => show (0 : Int) = 0 * a - 0; omega
  | succ k ih =>
    show dt_sum (fun t => a - f t) k + (a - f k) = ((k + 1 : Nat) : Int) * a - (dt_sum f k + f k)
    rw [ih, Int.natCast_add, Int.add_mul]
    omega
section LP
variable {D : Nat → Nat} {g : Nat → Nat → Int} {m p : Nat}
/-- at p one way only, out -/
def lpD (p : Nat) (D : Nat → Nat) : Nat → Nat := fun i => if i + 1 = p then 1 else D i
def lpG (p : Nat) (g : Nat → Nat → Int) : Nat → Nat → Int := fun i k => if i + 1 = p then -1 else g i k
def lpL (p : Nat) (D : Nat → Nat) (g : Nat → Nat → Int) : Nat → Nat → Int := tmx 0 (fun _ => 0) (lpD p D) (lpG p g)
def lprh (p : Nat) (D : Nat → Nat) (i : Nat) : Int := if p = 0 then ((D i : Nat) : Int) else if i + 1 = p then 1 else 0
/-- the ways from i to p -/
def lpw (p : Nat) (D : Nat → Nat) (g : Nat → Nat → Int) (i : Nat) : Int := dt_sum (fun k => if g i k = (p : Int) - 1 then 1 else 0) (D i)
def lpR (p : Nat) (D : Nat → Nat) (g : Nat → Nat → Int) : Nat → Nat → Int := fun i j => if i + 1 = p then (if i = j then 1 else 0) else if j + 1 = p then 0 else lpL p D g i j
def lprc (p : Nat) (D : Nat → Nat) (g : Nat → Nat → Int) (i : Nat) : Int := if p = 0 then ((D i : Nat) : Int) else if i + 1 = p then 0 else lpw p D g i
def lpRC (p c : Nat) (D : Nat → Nat) (g : Nat → Nat → Int) : Nat → Nat → Int := fun i j => if j = c then lprc p D g i else lpR p D g i j
def lpLC (p c : Nat) (D : Nat → Nat) (g : Nat → Nat → Int) : Nat → Nat → Int := fun i j => if j = c then lprh p D i else lpL p D g i j
theorem lpL_n {i j : Nat} (h : ¬ i + 1 = p) : lpL p D g i j = dt_sum (fun k => (if i = j then 1 else 0) - (if g i k = (j : Int) then 1 else 0)) (D i) := by
  unfold lpL tmx lpD lpG
  rw [if_neg (by omega), if_neg h]
  refine sumN_cg (fun t _ => ?_)
  rw [if_neg h]
theorem lpL_p {P j : Nat} : lpL (P + 1) D g P j = if P = j then 1 else 0 := by
  unfold lpL tmx lpD lpG
  rw [if_neg (by omega), if_pos rfl]
  show 0 + ((if P = j then (1 : Int) else 0) - (if (if P + 1 = P + 1 then (-1 : Int) else g P 0) = (j : Int) then 1 else 0)) = _
  rw [if_pos rfl, if_neg (show ¬ (-1 : Int) = (j : Int) by omega)]
  omega
theorem lpL_w {i P : Nat} (h : ¬ i = P) : lpL (P + 1) D g i P = - lpw (P + 1) D g i := by
  rw [lpL_n (by omega)]
  unfold lpw
  rw [if_neg h, sum_sub]
  rw [Int.mul_zero, Int.zero_sub]
  congr 1
  refine sumN_cg (fun t _ => ?_)
  rw [show (((P + 1 : Nat) : Int)) - 1 = (P : Int) by omega]
theorem det_lpR (hp : p ≤ m) : dt_det m (lpR p D g) = dt_det m (lpL p D g) := by
  cases p with
  | zero => exact det_cg (fun i j _ _ => by unfold lpR; rw [if_neg (by omega), if_neg (by omega)])
  | succ P =>
    rw [← det_addrow (lpL (P + 1) D g) (fun i => - lpL (P + 1) D g i P) (show P < m by omega) m (Nat.le_refl m)]
    refine det_cg (fun i j hi hj => ?_)
    unfold lpR
    by_cases e : i = P
    · subst e
      rw [if_pos (show i + 1 = i + 1 from rfl), if_neg (show ¬ (i < m ∧ ¬ i = i) by omega), lpL_p]
    · rw [if_neg (show ¬ i + 1 = P + 1 by omega), if_pos (show i < m ∧ ¬ i = P from ⟨hi, e⟩), lpL_p]
      by_cases e2 : j = P
      · rw [if_pos (show j + 1 = P + 1 by omega), if_pos e2.symm, e2]; omega
      · rw [if_neg (show ¬ j + 1 = P + 1 by omega), if_neg (show ¬ P = j by omega)]; omega
theorem det_lpRC {c : Nat} (hp : p ≤ m) (hc : c < m) (hcp : ¬ c + 1 = p) : dt_det m (lpRC p c D g) = dt_det m (lpLC p c D g) := by
  cases p with
  | zero =>
    refine det_cg (fun i j _ _ => ?_)
    unfold lpRC lpLC
    by_cases e : j = c
    · rw [if_pos e, if_pos e]
      unfold lprc lprh
      rw [if_pos rfl, if_pos rfl]
    · rw [if_neg e, if_neg e]
      unfold lpR
      rw [if_neg (by omega), if_neg (by omega)]
  | succ P =>
    rw [← det_addrow (lpLC (P + 1) c D g) (fun i => - lpL (P + 1) D g i P) (show P < m by omega) m (Nat.le_refl m)]
    have hP : ∀ j : Nat, lpLC (P + 1) c D g P j = if j = c then 1 else if P = j then 1 else 0 := fun j => by
      unfold lpLC lprh
      by_cases e : j = c
      · rw [if_pos e, if_pos e, if_neg (by omega), if_pos rfl]
      · rw [if_neg e, if_neg e, lpL_p]
    refine det_lone (c := P) (by omega) (fun r hr e => ?_) (fun r j hr hj e => ?_) ?_
    · rw [if_pos ⟨hr, e⟩, hP, if_neg (by omega), if_pos rfl]
      unfold lpLC
      rw [if_neg (by omega)]
      omega
    · rw [if_pos ⟨hr, e⟩, hP]
      unfold lpRC lpLC
      by_cases e2 : j = c
      · rw [if_pos e2, if_pos e2, if_pos e2, lpL_w e]
        unfold lprc lprh
        rw [if_neg (by omega), if_neg (by omega), if_neg (by omega), if_neg (by omega)]
        omega
      · rw [if_neg e2, if_neg e2, if_neg e2]
        unfold lpR
        rw [if_neg (by omega)]
        by_cases e3 : j = P
        · rw [if_pos (by omega), if_pos e3.symm, e3]; omega
        · rw [if_neg (by omega), if_neg (by omega)]; omega
    · rw [if_neg (by omega), hP, if_neg (by omega), if_pos rfl]
      unfold lpRC lpR
      rw [if_neg (by omega), if_pos rfl, if_pos rfl]
theorem det_lpL {s : Nat → Int} (hk : ∀ i : Nat, i < m → ∃ k : Nat, k < D i ∧ s i = g i k) (hs : al m s) : 1 ≤ dt_det m (lpL p D g) := by
  unfold lpL
  rw [tn_det m 0 (fun _ => 0) (by omega)]
  refine tn_pos (s2 := fun i => if i + 1 = p then -1 else s i) m 0 _ (by omega) ⟨fun i h => by omega, fun i _ hi => ?_⟩ ?_
  · unfold lpD lpG
    by_cases e : i + 1 = p
    · refine ⟨0, ?_, ?_⟩
      · rw [if_pos e]; omega
      · try dsimp only
        rw [if_pos e, if_pos e]
    · obtain ⟨k, k1, k2⟩ := hk i hi
      refine ⟨k, ?_, ?_⟩
      · rw [if_neg e]; exact k1
      · try dsimp only
        rw [if_neg e, if_neg e]; exact k2
  · obtain ⟨h, hh⟩ := hs
    refine ⟨h, fun v w hv e hw => ?_⟩
    try dsimp only at e
    by_cases q : v + 1 = p
    · rw [if_pos q] at e; omega
    · rw [if_neg q] at e; exact hh v w hv e hw
end LP
