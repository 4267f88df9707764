/-! THE RELATION between what both sides keep from call to call -/
/-- the text: so many signs, the same ones -/
def sm_txt (c : Int) (C2 : Int → Int) (m : Int) (M6 : Int → Int) : Prop := c = m ∧ (0 ≤ m ∧ m ≤ 80) ∧ ∀ j : Int, 0 ≤ j → j < m → C2 j = M6 j ∧ 0 ≤ M6 j ∧ M6 j ≤ 255
/-- the row told -/
def sm_told (c : Int) (C4 : Int → Int) (m : Int) (M1 : Int → Int) : Prop := c = m ∧ (0 ≤ m ∧ m ≤ 8) ∧ ∀ j : Int, 0 ≤ j → j < m → w64 (C4 j) = w64 (M1 j)
/-- a net: n crossings, degrees D, goals G -/
def nt_net (n : Int) (D G : Int → Int) : Prop := (2 ≤ n ∧ n ≤ 8) ∧ ∀ v : Int, 1 ≤ v → v < n → (1 ≤ D v ∧ D v ≤ 4) ∧ ∀ k : Int, 0 ≤ k → k < D v → 0 ≤ G (4 * v + k) ∧ G (4 * v + k) < n ∧ ¬ G (4 * v + k) = v
/-- from v one comes to goal within d ways -/
def nt_in (n : Int) (D G : Int → Int) (goal : Int) : Nat → Int → Prop
  | 0, v => v = goal
  | d + 1, v => nt_in n D G goal d v ∨ (1 ≤ v ∧ v < n ∧ ∃ k : Int, 0 ≤ k ∧ k < D v ∧ nt_in n D G goal d (G (4 * v + k)))
/-- the fewest ways from v to goal are d -/
def nt_far (n : Int) (D G : Int → Int) (goal v : Int) (d : Nat) : Prop := nt_in n D G goal d v ∧ ∀ e : Nat, e < d → ¬ nt_in n D G goal e v
/-- b has the bits of the goals of v -/
def nt_bits (D G : Int → Int) (v b : Int) : Prop := (0 ≤ b ∧ b < 256) ∧ ∀ j : Nat, j < 8 → (b.toNat.testBit j = true ↔ ∃ k : Int, 0 ≤ k ∧ k < D v ∧ G (4 * v + k) = (j : Int))
/-- the sum of f at lo, lo + 1, .. -/
def sumI (f : Int → Int) (lo : Int) : Nat → Int
  | 0 => 0
  | k + 1 => sumI f lo k + f (lo + (k : Int))
/-- the class's net against the reference's -/
def sm_net (c4 c5 : Int) (C6 C7 C8 C9 : Int → Int) (n : Int) (D G : Int → Int) : Prop := c4 = n ∧ nt_net n D G ∧ c5 = sumI D 1 (n - 1).toNat ∧ (∀ v : Int, 0 ≤ v → v < 8 → 0 ≤ C6 v ∧ C6 v ≤ 4) ∧
  (∀ v : Int, 1 ≤ v → v < n → C6 v = D v ∧ nt_bits D G v (C8 v) ∧ ∀ k : Int, 0 ≤ k → k < D v → C7 (4 * v + k) = G (4 * v + k)) ∧ ∀ v : Int, 0 ≤ v → v < n → ∃ d : Nat, d < 8 ∧ C9 v = (d : Int) ∧ nt_far n D G 0 v d
/-- posts P, crowds W, housed h, steps s of the class against a row R of the reference; no crowd above B -/
def sm_row (P W : Int → Int) (h s : Int) (R : Int → Int) (n : Int) (D : Int → Int) (B : Int) : Prop := h = R 8 ∧ (0 ≤ R 8 ∧ R 8 ≤ 9999) ∧ s = R 16 ∧ (0 ≤ R 16 ∧ R 16 ≤ 99999) ∧
  (∀ v : Int, 1 ≤ v → v < n → P v = R v ∧ (0 ≤ R v ∧ R v < D v) ∧ W v = R (8 + v) ∧ (0 ≤ R (8 + v) ∧ R (8 + v) ≤ B)) ∧ ∀ v : Int, 0 ≤ v → v < 8 → (v < 1 ∨ n ≤ v) → P v = 0 ∧ W v = 0
/-- a code of a rule, as the reference has it -/
def rc_map (c : Int) : Int := if c < 1000 then c else if c = 1100 then 1000 else if c = 1107 then 1001 else if c = 1119 then 1002 else if c = 1099 then 1003 else if c = 1105 then 1004 else if c = 1104 then 1005 else if c = 1110 then 1006 else if c = 2060 then 2000 else if c = 2062 then 2001 else if c = 2061 then 2002 else if c = 2043 then 2003 else if c = 2045 then 2004 else if c = 2042 then 2005 else if c = 2047 then 2006 else 3000
def rc_ok (c : Int) : Prop := (0 ≤ c ∧ c < 1000) ∨ c = 1100 ∨ c = 1107 ∨ c = 1119 ∨ c = 1099 ∨ c = 1105 ∨ c = 1104 ∨ c = 1110 ∨ c = 2060 ∨ c = 2062 ∨ c = 2061 ∨ c = 2043 ∨ c = 2045 ∨ c = 2042 ∨ c = 2047 ∨ c = 3000
/-- how high the stack stands behind k codes -/
def rc_high (f : Int → Int) : Nat → Int
  | 0 => 0
  | k + 1 => if f (k : Int) < 2000 then rc_high f k + 1 else if f (k : Int) = 3000 then rc_high f k else rc_high f k - 1
/-- codes that can be worked: each finds what it wants, one number is left -/
def rc_wf (f : Int → Int) (s : Int) : Prop := (0 ≤ s ∧ s ≤ 40) ∧ (∀ k : Nat, (k : Int) < s → rc_ok (f k) ∧ (f k = 3000 → 1 ≤ rc_high f k) ∧ (2000 ≤ f k → ¬ f k = 3000 → 2 ≤ rc_high f k)) ∧ (0 < s → rc_high f s.toNat = 1)
def sm_rule (c : Int) (C16 : Int → Int) (m : Int) (M9 : Int → Int) : Prop := c = m ∧ rc_wf C16 m ∧ ∀ k : Int, 0 ≤ k → k < m → M9 k = rc_map (C16 k)
/-- a place of the class's shelf against a row of the reference's -/
def sm_place (S : Int → Int) (p : Int) (R : Int → Int) (q n : Int) (D : Int → Int) (B : Int) : Prop := sm_row (fun v => S (18 * p + v)) (fun v => S (18 * p + 8 + v)) (S (18 * p + 16)) (S (18 * p + 17)) (fun j => R (17 * q + j)) n D B
def sm_undo (c1 c2 : Int) (S : Int → Int) (m : Int) (U : Int → Int) (n : Int) (D : Int → Int) (B : Int) : Prop := c1 = m ∧ (0 ≤ m ∧ m ≤ 15) ∧ (0 ≤ c2 ∧ c2 < 15) ∧ ∀ i : Int, 0 ≤ i → i < m → sm_place S ((c2 + 15 - m + i) % 15) U i n D B
def sm_kept (c3 : Int) (S : Int → Int) (K V : Int → Int) (n : Int) (D : Int → Int) (B : Int) : Prop := (0 ≤ c3 ∧ c3 < 8) ∧ ∀ i : Nat, i < 3 → (K i = 0 ∨ K i = 1) ∧ (c3.toNat.testBit i = true ↔ K i = 1) ∧ (K i = 1 → sm_place S (15 + i) V i n D B)
def sm_seen (c : Int) (C53 C54 C55 : Int → Int) (m : Int) (A S E : Int → Int) (n : Int) : Prop := c = m ∧ (0 ≤ m ∧ m ≤ 10) ∧ ∀ j : Int, 0 ≤ j → j < m → C53 j = A j ∧ (1 ≤ A j ∧ A j < n) ∧ C54 j = S j ∧ (0 ≤ S j ∧ S j ≤ 20) ∧ C55 j = E j ∧ (0 ≤ E j ∧ E j < n)
def sm_heard (c : Int) (C57 C58 : Int → Int) (m : Int) (A V : Int → Int) : Prop := c = m ∧ (0 ≤ m ∧ m ≤ 12) ∧ ∀ j : Int, 0 ≤ j → j < m → C57 j = A j ∧ (0 ≤ A j ∧ A j ≤ 3) ∧ C58 j = V j ∧ (0 ≤ V j ∧ V j ≤ 9)
def sm_cold (C63 : Int → Int) : Prop := ∀ j : Nat, j < 31 → C63 (j : Int) = [0, 2, 1, 5, 7, 3, 10, 4, 13, 15, 6, 18, 20, 8, 23, 9, 26, 28, 11, 31, 12, 34, 36, 14, 39, 41, 16, 44, 17, 47, 49].getD j 0
/-- all of it -/
def Sim (B : Int) (C M : tp_M) : Prop := sm_txt (C 1 1) (C 2) (M 0 9) (M 6) ∧ sm_told (C 3 1) (C 4) (M 0 1) (M 1) ∧ sm_net (C 5 4) (C 5 5) (C 6) (C 7) (C 8) (C 9) (M 0 3) (M 2) (M 3) ∧ sm_row (C 26) (C 27) (C 25 2) (C 25 3) (M 4) (M 0 3) (M 2) B ∧ sm_rule (C 15 4) (C 16) (M 0 18) (M 9) ∧ sm_undo (C 34 1) (C 34 2) (C 35) (M 0 23) (M 14) (M 0 3) (M 2) B ∧ sm_kept (C 34 3) (C 35) (M 32) (M 33) (M 0 3) (M 2) B ∧ sm_seen (C 52 3) (C 53) (C 54) (C 55) (M 0 39) (M 24) (M 25) (M 26) (M 0 3) ∧ sm_heard (C 56 2) (C 57) (C 58) (M 0 44) (M 28) (M 29) ∧ sm_cold (C 63)
/-- the crowds' bound before the call with n calls left -/
def sm_B (n : Nat) : Int := 1000 * (513 - (n : Int))
theorem sm_start : Sim 0 in_C in_M := by
  refine ⟨⟨by decide +kernel, by decide +kernel, fun j h1 h2 => ?_⟩, ⟨by decide +kernel, by decide +kernel, fun j h1 h2 => ?_⟩, ⟨by decide +kernel, ⟨by decide +kernel, fun v h1 h2 => ?_⟩, by decide +kernel, fun v h1 h2 => ?_, fun v h1 h2 => ?_, fun v h1 h2 => ?_⟩, ⟨by decide +kernel, by decide +kernel, by decide +kernel, by decide +kernel, fun v h1 h2 => ?_, fun v h1 h2 h3 => ?_⟩, ⟨by decide +kernel, ⟨by decide +kernel, fun k h => ?_, fun h => ?_⟩, fun k h1 h2 => ?_⟩, ⟨by decide +kernel, by decide +kernel, by decide +kernel, fun i h1 h2 => ?_⟩, ⟨by decide +kernel, fun i hi => ?_⟩, ⟨by decide +kernel, by decide +kernel, fun j h1 h2 => ?_⟩, ⟨by decide +kernel, by decide +kernel, fun j h1 h2 => ?_⟩, in_cold⟩
  · have e : in_M 0 9 = 0 := by decide +kernel
    omega
  · have e : in_M 0 1 = 0 := by decide +kernel
    omega
  · have e : in_M 0 3 = 2 := by decide +kernel
    obtain rfl : v = 1 := by omega
    refine ⟨by decide +kernel, fun k h3 h4 => ?_⟩
    have e2 : in_M 2 1 = 1 := by decide +kernel
    obtain rfl : k = 0 := by omega
    decide +kernel
  · have h9 : ∀ j : Nat, j < 8 → 0 ≤ in_C 6 (j : Int) ∧ in_C 6 (j : Int) ≤ 4 := by decide +kernel
    obtain ⟨j, rfl⟩ := Int.eq_ofNat_of_zero_le h1
    exact h9 j (by omega)
  · have e : in_M 0 3 = 2 := by decide +kernel
    obtain rfl : v = 1 := by omega
    have e2 : in_M 2 1 = 1 := by decide +kernel
    refine ⟨by decide +kernel, ⟨by decide +kernel, fun j hj => ⟨fun h => ?_, fun h => ?_⟩⟩, fun k h3 h4 => ?_⟩
    · have h9 : ∀ j : Nat, j < 8 → (in_C 8 1).toNat.testBit j = true → j = 0 := by decide +kernel
      obtain rfl := h9 j hj h
      exact ⟨0, by decide, by rw [e2]; decide, by decide +kernel⟩
    · obtain ⟨k, h3, h4, h5⟩ := h
      obtain rfl : k = 0 := by omega
      have h6 : in_M 3 (4 * 1 + 0) = 0 := by decide +kernel
      obtain rfl : j = 0 := by omega
      decide +kernel
    · obtain rfl : k = 0 := by omega
      decide +kernel
  · have e : in_M 0 3 = 2 := by decide +kernel
    have hv : v = 0 ∨ v = 1 := by omega
    rcases hv with rfl | rfl
    · exact ⟨0, by decide, by decide +kernel, rfl, fun e h => by omega⟩
    · refine ⟨1, by decide, by decide +kernel, Or.inr ⟨by decide, by omega, 0, by decide, by decide +kernel, (show in_M 3 (4 * 1 + 0) = 0 from by decide +kernel)⟩, fun e h => ?_⟩
      obtain rfl : e = 0 := by omega
      intro h9
      have h9 : (1 : Int) = 0 := h9
      omega
  · have e : in_M 0 3 = 2 := by decide +kernel
    obtain rfl : v = 1 := by omega
    decide +kernel
  · have h9 : ∀ j : Nat, j < 8 → in_C 26 (j : Int) = 0 ∧ in_C 27 (j : Int) = 0 := by decide +kernel
    obtain ⟨j, rfl⟩ := Int.eq_ofNat_of_zero_le h1
    exact h9 j (by omega)
  · have e : in_M 0 18 = 0 := by decide +kernel
    omega
  · have e : in_M 0 18 = 0 := by decide +kernel
    omega
  · have e : in_M 0 18 = 0 := by decide +kernel
    omega
  · have e : in_M 0 23 = 0 := by decide +kernel
    omega
  · have h9 : ∀ i : Nat, i < 3 → in_M 32 (i : Int) = 0 ∧ (in_C 34 3).toNat.testBit i = false := by decide +kernel
    obtain ⟨g1, g2⟩ := h9 i hi
    refine ⟨Or.inl g1, ⟨fun h => ?_, fun h => ?_⟩, fun h => ?_⟩
    · rw [g2] at h; cases h
    · rw [g1] at h; omega
    · rw [g1] at h; omega
  · have e : in_M 0 39 = 0 := by decide +kernel
    omega
  · have e : in_M 0 44 = 0 := by decide +kernel
    omega
