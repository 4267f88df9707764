/-! THE CLASS'S ORDER of the same rows -/
theorem tr_inv (c l x : Nat) : tr c l (tr c l x) = x := by
  unfold tr
  repeat' split
  all_goals omega
def trI (c l : Nat) (x : Int) : Int := if x = (c : Int) then (l : Int) else if x = (l : Int) then (c : Int) else x
theorem trI_iff {c l j : Nat} {x : Int} : trI c l x = (j : Int) ↔ x = ((tr c l j : Nat) : Int) := by
  unfold trI tr
  repeat' split
  all_goals omega
theorem tr_iff {c l i j : Nat} : tr c l i = tr c l j ↔ i = j := by
  constructor
  · intro h
    rw [← tr_inv c l i, h, tr_inv]
  · intro h; rw [h]
section LP
variable {D : Nat → Nat} {g : Nat → Nat → Int} {m p c : Nat}
def lpA (p c m : Nat) (D : Nat → Nat) (g : Nat → Nat → Int) : Nat → Nat → Int := tmx 0 (fun _ => 0) (fun i => lpD p D (tr c (m - 1) i)) (fun i k => trI c (m - 1) (lpG p g (tr c (m - 1) i) k))
def lpAA (p c m : Nat) (D : Nat → Nat) (g : Nat → Nat → Int) : Nat → Nat → Int := fun i j => if j < m then lpA p c m D g i j else lprh p D (tr c (m - 1) i)
theorem lpA_e (i j : Nat) : lpA p c m D g i j = lpL p D g (tr c (m - 1) i) (tr c (m - 1) j) := by
  unfold lpA lpL tmx
  rw [if_neg (Nat.not_lt_zero i), if_neg (Nat.not_lt_zero _)]
  refine sumN_cg (fun t _ => ?_)
  have e1 : (if i = j then (1 : Int) else 0) = if tr c (m - 1) i = tr c (m - 1) j then 1 else 0 := by
    by_cases h : i = j
    · rw [if_pos h, if_pos (tr_iff.mpr h)]
    · rw [if_neg h, if_neg (fun q => h (tr_iff.mp q))]
  have e2 : (if trI c (m - 1) (lpG p g (tr c (m - 1) i) t) = (j : Int) then (1 : Int) else 0) = if lpG p g (tr c (m - 1) i) t = ((tr c (m - 1) j : Nat) : Int) then 1 else 0 := by
    by_cases h : trI c (m - 1) (lpG p g (tr c (m - 1) i) t) = (j : Int)
    · rw [if_pos h, if_pos (trI_iff.mp h)]
    · rw [if_neg h, if_neg (fun q => h (trI_iff.mpr q))]
  show (if i = j then (1 : Int) else 0) - (if trI c (m - 1) (lpG p g (tr c (m - 1) i) t) = (j : Int) then (1 : Int) else 0) = _
  rw [e1, e2]
theorem det_conj2 (A : Nat → Nat → Int) (hc : c < m) : dt_det m (fun a b => A (tr c (m - 1) a) (tr c (m - 1) b)) = dt_det m A := by
  have := det_conj (n := m) (m - 1 - c) A (c := c) (by omega)
  rw [show c + (m - 1 - c) = m - 1 by omega] at this
  exact this
theorem lpAA_det (hc : c < m) : dt_det m (lpAA p c m D g) = dt_det m (lpL p D g) := by
  rw [← det_conj2 (lpL p D g) hc]
  refine det_cg (fun i j _ hj => ?_)
  unfold lpAA
  rw [if_pos hj, lpA_e]
theorem lpAA_lead (hc : c < m) (h : 1 ≤ dt_det m (lpL p D g)) : ∀ q : Nat, q ≤ m → 1 ≤ dt_det q (lpAA p c m D g) := fun q hq => by
  have e : ∀ q : Nat, q ≤ m → dt_det q (lpAA p c m D g) = dt_det q (lpA p c m D g) := fun q hq => det_cg (fun i j _ hj => by unfold lpAA; rw [if_pos (by omega)])
  rw [e q hq]
  refine tmx_lead (m := m) hq (by omega) (fun q2 => ?_)
  have h1 := lpAA_det (p := p) (D := D) (g := g) hc
  rw [e m (Nat.le_refl m)] at h1
  have q3 : dt_det m (lpA p c m D g) = 0 := q2
  omega
theorem lpAA_mn (hc : c < m) : mn (lpAA p c m D g) (m - 1) (m - 1) m = dt_det m (lpLC p c D g) := by
  obtain ⟨M, rfl⟩ : ∃ M, m = M + 1 := ⟨m - 1, by omega⟩
  rw [← det_conj2 (lpLC p c D g) hc]
  show dt_det (M + 1) (mx (lpAA p c (M + 1) D g) M M (M + 1)) = _
  refine det_cg (fun i j hi hj => ?_)
  show lpAA p c (M + 1) D g (if i < M then i else M) (if j < M then j else M + 1) = lpLC p c D g (tr c (M + 1 - 1) i) (tr c (M + 1 - 1) j)
  rw [show (if i < M then i else M) = i by split <;> omega]
  unfold lpAA lpLC
  by_cases h : j < M
  · rw [if_pos h, if_pos (by omega), if_neg (show ¬ tr c (M + 1 - 1) j = c by
      unfold tr
      repeat' split
      all_goals omega), lpA_e]
  · rw [if_neg h, if_neg (by omega), if_pos (show tr c (M + 1 - 1) j = c by
      unfold tr
      repeat' split
      all_goals omega)]
theorem tmx_off {D : Nat → Nat} {g : Nat → Nat → Int} {i j : Nat} (h : ¬ i = j) : tmx 0 (fun _ => 0) D g i j ≤ 0 := by
  unfold tmx
  rw [if_neg (by omega)]
  generalize D i = k
  induction k with
  | zero => exact Int.le_refl 0
  | succ k ih =>
    show dt_sum (fun k => (if i = j then 1 else 0) - (if g i k = (j : Int) then 1 else 0)) k + ((if i = j then 1 else 0) - (if g i k = (j : Int) then 1 else 0)) ≤ 0
    have : (if i = j then (1 : Int) else 0) - (if g i k = (j : Int) then 1 else 0) ≤ 0 := by
      rw [if_neg h]
      split <;> omega
    omega
theorem lpAA_nn (hc : c < m) (h : 1 ≤ dt_det m (lpL p D g)) : 0 ≤ mn (lpAA p c m D g) (m - 1) (m - 1) m := by
  refine (mn_sign (A := lpAA p c m D g) (m := m) (fun t ht => by have := lpAA_lead hc h t ht; omega) (fun i j hi hj e => ?_) (fun i hi => ?_) (m - 1) (by omega)).2 (m - 1) (Nat.le_refl _) (by omega)
  · unfold lpAA
    rw [if_pos hj]
    exact tmx_off e
  · unfold lpAA lprh
    rw [if_neg (by omega)]
    split
    · omega
    · split <;> omega
theorem lpAA_bd (hc : c < m) (hD : ∀ i : Nat, i < m → 1 ≤ D i ∧ D i ≤ 4) (i j : Nat) (hi : i < m) : (lpAA p c m D g i j).natAbs ≤ 4 := by
  have ht : tr c (m - 1) i < m := tr_lt hc (by omega) hi
  have h4 := hD _ ht
  unfold lpAA
  by_cases h : j < m
  · rw [if_pos h]
    refine tmx_bd ?_
    unfold lpD
    split <;> omega
  · rw [if_neg h]
    unfold lprh
    split
    · omega
    · split <;> omega
end LP
