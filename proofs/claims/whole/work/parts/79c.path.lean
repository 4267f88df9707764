/-! ROUTE: next crossings agree -/
theorem ls_u {n : Int} {D G f1 f2 : Int → Int} {g v y1 y2 : Int} {d : Nat} (hn : nt_net n D G) (hv : 1 ≤ v ∧ v < n) (h1 : ms_ok n D G g f1) (h2 : fa_ok n D G g f2) (hd : d < 8) (g1 : ls_ok D G f1 v (d : Int) y1) (g2 : ls_ok D G f2 v (d : Int) y2) : y1 = y2 := by
  have e : ∀ u : Int, 0 ≤ u → u < n → (f1 u = (d : Int) ↔ f2 u = (d : Int)) := fun u u1 u2 => by
    rcases h1 u u1 u2 with ⟨a, a1, a2, a3⟩ | ⟨a2, a3⟩
    · rcases h2 u u1 u2 with ⟨b, b1, b2, b3⟩ | ⟨b2, b3⟩
      · have := far_u a3 b3
        rw [a2, b2, this]
      · exact absurd a3.1 (b3 a)
    · rcases h2 u u1 u2 with ⟨b, b1, b2, b3⟩ | ⟨b2, b3⟩
      · exact absurd b3.1 (a3 b)
      · omega
  obtain ⟨⟨p1, k, k1, k2, k3⟩, p2⟩ := g1
  obtain ⟨⟨q1, l, l1, l2, l3⟩, q2⟩ := g2
  have hk := (hn.2 v hv.1 hv.2).2 k k1 k2
  have hl := (hn.2 v hv.1 hv.2).2 l l1 l2
  have a := p2 l l1 l2 (by rw [l3] at hl ⊢; exact (e y2 hl.1 hl.2.1).mpr q1)
  have b := q2 k k1 k2 (by rw [k3] at hk ⊢; exact (e y1 hk.1 hk.2.1).mp p1)
  omega
theorem ls_ex {n : Int} {D G : Int → Int} {g v : Int} {d : Nat} (h : nt_far n D G g v (d + 1)) : (1 ≤ v ∧ v < n) ∧ ∃ k : Int, 0 ≤ k ∧ k < D v ∧ nt_far n D G g (G (4 * v + k)) d := by
  rcases h.1 with c | ⟨v1, v2, k, k1, k2, k3⟩
  · exact absurd c (h.2 d (by omega))
  · refine ⟨⟨v1, v2⟩, k, k1, k2, k3, fun e he c => ?_⟩
    exact h.2 (e + 1) (by omega) (Or.inr ⟨v1, v2, k, k1, k2, c⟩)
theorem fa_at {n : Int} {D G f : Int → Int} {g u : Int} {d : Nat} (h2 : fa_ok n D G g f) (hu : 0 ≤ u ∧ u < n) (h : nt_far n D G g u d) : f u = (d : Int) := by
  rcases h2 u hu.1 hu.2 with ⟨b, b1, b2, b3⟩ | ⟨b2, b3⟩
  · rw [b2, far_u b3 h]
  · exact absurd h.1 (b3 d)
theorem ms_at2 {n : Int} {D G f : Int → Int} {g u : Int} {d : Nat} (h2 : ms_ok n D G g f) (hu : 0 ≤ u ∧ u < n) (h : nt_far n D G g u d) : f u = (d : Int) := by
  rcases h2 u hu.1 hu.2 with ⟨b, b1, b2, b3⟩ | ⟨b2, b3⟩
  · rw [b2, far_u b3 h]
  · exact absurd h.1 (b3 d)
