/-! A STEP keeps the rows alike -/
theorem nt_of {c4 c5 : Int} {C : tp_M} {n : Int} {D G : Int → Int} (h : sm_net (C 5 4) (C 5 5) (C 6) (C 7) (C 8) (C 9) n D G) : nt_ok C 5 n := ⟨h.1, by have := h.2.1.1; omega, h.2.2.2.1⟩
theorem sm_step {k1 kr : Nat} (hk : k1 = 25 ∨ k1 = 28 ∨ k1 = 31) (hkr : kr = 4 ∨ kr = 5) {C M : tp_M} {B v : Int} (hN : sm_net (C 5 4) (C 5 5) (C 6) (C 7) (C 8) (C 9) (M 0 3) (M 2) (M 3)) (hR : sm_rule (C 15 4) (C 16) (M 0 18) (M 9)) (h : sm_row (C (k1 + 1)) (C (k1 + 2)) (C k1 2) (C k1 3) (M kr) (M 0 3) (M 2) B) (hv : 1 ≤ v ∧ v < M 0 3) :
    ∃ r1 r2 : Int × tp_M, fx_X10_stride k1 15 v C = some r1 ∧ fx_X11_stepOf kr 17 v M = some r2 ∧ r1.1 = r2.1 ∧ (0 ≤ r2.1 ∧ r2.1 < M 0 3) ∧ tp_fr [18, k1, k1 + 1] C r1.2 ∧ tp_fr [11, 12, kr] M r2.2 ∧ sm_row (r1.2 (k1 + 1)) (r1.2 (k1 + 2)) (r1.2 k1 2) (r1.2 k1 3) (r2.2 kr) (M 0 3) (M 2) B := by
  obtain ⟨n1, ⟨n2, n3⟩, n4, n5, n6, n7⟩ := id hN
  obtain ⟨q1, q2, q3⟩ := hR
  obtain ⟨g1, g2, g3, g4, g5, g6⟩ := h
  obtain ⟨p1, p2, p3, p4⟩ := g5 v hv.1 hv.2
  obtain ⟨d1, d2⟩ := n3 v hv.1 hv.2
  obtain ⟨m1, -, m2⟩ := n6 v hv.1 hv.2
  have dg := d2 (M kr v) p2.1 p2.2
  have mg := m2 (M kr v) p2.1 p2.2
  obtain ⟨r1, f1, a1, a2, a3, a4, a5⟩ := wp_get (pc_stride (t := 15) (Or.inl rfl) hk (M := C) (n := M 0 3) ⟨n1, by omega, n5⟩ q1 q2 hv (by omega) (by rw [p1, m1]; exact p2) (by rw [p1, mg]; omega) (by omega) (by omega))
  obtain ⟨r2, f2, b1, b2, b3⟩ := wp_get (pm_stepOf hkr (M := M) (f := C 16) (by omega) rfl q2 q3 d1 p2 (by omega) (by omega) (by omega))
  have hgo : r1.1 = r2.1 := by rw [a1, b1, p1, mg]
  refine ⟨r1, r2, f1, f2, hgo, by rw [b1]; omega, a2, b2, ?_⟩
  have w2 : r1.2 (k1 + 2) = C (k1 + 2) := a2 _ (by simp; omega)
  have hsp : sp_post (C 6) (C 7) (C (15 + 1)) (M 0 18) v (C (k1 + 1) v) (C (k1 + 2) v) (C k1 2) (C k1 3) = sp_post (M 2) (M 3) (C 16) (M 0 18) v (M kr v) (M kr (8 + v)) (M kr 8) (M kr 16) := by
    unfold sp_post
    rw [p1, p3, g1, g3, m1, mg]
  have hsr : 0 ≤ sp_post (M 2) (M 3) (C 16) (M 0 18) v (M kr v) (M kr (8 + v)) (M kr 8) (M kr 16) ∧ sp_post (M 2) (M 3) (C 16) (M 0 18) v (M kr v) (M kr (8 + v)) (M kr 8) (M kr 16) < M 2 v := by
    unfold sp_post
    exact ⟨Int.emod_nonneg _ (by omega), Int.emod_lt_of_pos _ (by omega)⟩
  have h8 : r2.2 kr 8 = if r2.1 = 0 then min 9999 (M kr 8 + 1) else M kr 8 := by
    rw [b3 8, if_neg (by omega), if_pos rfl]
  have h16 : r2.2 kr 16 = min 99999 (M kr 16 + 1) := by
    rw [b3 16, if_neg (by omega), if_neg (by decide), if_pos rfl]
  refine ⟨?_, ?_, ?_, ?_, fun u u1 u2 => ?_, fun u u1 u2 u3 => ?_⟩
  · rw [a4, h8, hgo, g1]
  · rw [h8]; split <;> omega
  · rw [a5, h16, g3]
  · rw [h16]; omega
  · obtain ⟨t1, t2, t3, t4⟩ := g5 u u1 u2
    have e8 : r2.2 kr (8 + u) = M kr (8 + u) := by rw [b3, if_neg (by omega), if_neg (by omega), if_neg (by omega)]
    rw [e8, w2]
    by_cases huv : u = v
    · subst huv
      have e1 : r1.2 (k1 + 1) u = sp_post (C 6) (C 7) (C (15 + 1)) (M 0 18) u (C (k1 + 1) u) (C (k1 + 2) u) (C k1 2) (C k1 3) := by rw [a3 u, if_pos rfl]
      have e2 : r2.2 kr u = sp_post (M 2) (M 3) (C 16) (M 0 18) u (M kr u) (M kr (8 + u)) (M kr 8) (M kr 16) := by rw [b3 u, if_pos rfl]
      rw [e1, e2, hsp]
      exact ⟨rfl, hsr, t3, t4⟩
    · have e1 : r1.2 (k1 + 1) u = C (k1 + 1) u := by rw [a3 u, if_neg huv]
      have e2 : r2.2 kr u = M kr u := by rw [b3 u, if_neg huv, if_neg (by omega), if_neg (by omega)]
      rw [e1, e2]
      exact ⟨t1, t2, t3, t4⟩
  · obtain ⟨t1, t2⟩ := g6 u u1 u2 u3
    rw [w2, a3 u, if_neg (by omega)]
    exact ⟨t1, t2⟩
