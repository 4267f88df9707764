/-! BOTH SIDES AT ONCE: both come to an end, in Q -/
def wp2 (o1 o2 : tp_O) (Q : Int → tp_M → Int → tp_M → Prop) : Prop := ∃ q1 q2 : Int × tp_M, o1 = some q1 ∧ o2 = some q2 ∧ Q q1.1 q1.2 q2.1 q2.2
section W2
variable {o1 o2 : tp_O} {Q : Int → tp_M → Int → tp_M → Prop}
theorem wp2_some {r1 r2 : Int} {M1 M2 : tp_M} (h : Q r1 M1 r2 M2) : wp2 (some (r1, M1)) (some (r2, M2)) Q := ⟨_, _, rfl, rfl, h⟩
theorem wp2_mono {Q2 : Int → tp_M → Int → tp_M → Prop} (h : wp2 o1 o2 Q) (hq : ∀ r1 M1 r2 M2, Q r1 M1 r2 M2 → Q2 r1 M1 r2 M2) : wp2 o1 o2 Q2 := by
  obtain ⟨q1, q2, e1, e2, h⟩ := h
  exact ⟨q1, q2, e1, e2, hq _ _ _ _ h⟩
theorem wp2_bd {k1 k2 : Int → tp_M → tp_O} (h : wp2 o1 o2 (fun r1 M1 r2 M2 => wp2 (k1 r1 M1) (k2 r2 M2) Q)) : wp2 (tp_bd o1 k1) (tp_bd o2 k2) Q := by
  obtain ⟨q1, q2, rfl, rfl, h⟩ := h
  exact h
theorem wp2_call {k1 k2 : Int → tp_M → tp_O} {P : Int → tp_M → Int → tp_M → Prop} (h : wp2 o1 o2 P) (hk : ∀ r1 M1 r2 M2, P r1 M1 r2 M2 → wp2 (k1 r1 M1) (k2 r2 M2) Q) : wp2 (tp_bd o1 k1) (tp_bd o2 k2) Q := wp2_bd (wp2_mono h hk)
theorem wp2_c1 {k : Int → tp_M → tp_O} {P : Int → tp_M → Prop} (h : wp o1 P) (hk : ∀ r M, P r M → wp2 (k r M) o2 Q) : wp2 (tp_bd o1 k) o2 Q := by
  obtain ⟨r, M, rfl, h⟩ := h
  exact hk r M h
theorem wp2_c2 {k : Int → tp_M → tp_O} {P : Int → tp_M → Prop} (h : wp o2 P) (hk : ∀ r M, P r M → wp2 o1 (k r M) Q) : wp2 o1 (tp_bd o2 k) Q := by
  obtain ⟨r, M, rfl, h⟩ := h
  exact hk r M h
theorem wp2_of {P1 P2 : Int → tp_M → Prop} (h1 : wp o1 P1) (h2 : wp o2 P2) (h : ∀ r1 M1 r2 M2, P1 r1 M1 → P2 r2 M2 → Q r1 M1 r2 M2) : wp2 o1 o2 Q := by
  obtain ⟨r1, M1, e1, g1⟩ := h1
  obtain ⟨r2, M2, e2, g2⟩ := h2
  exact ⟨(r1, M1), (r2, M2), e1, e2, h _ _ _ _ g1 g2⟩
theorem wp2_lm1 {M : tp_M} {k : tp_M → tp_O} (h : wp2 (k M) o2 Q) : wp2 (tp_lm M k) o2 Q := h
theorem wp2_lm2 {M : tp_M} {k : tp_M → tp_O} (h : wp2 o1 (k M) Q) : wp2 o1 (tp_lm M k) Q := h
theorem wp2_lt1 {a : Int} {k : Int → tp_O} (h : wp2 (k a) o2 Q) : wp2 (tp_lt a k) o2 Q := h
theorem wp2_lt2 {a : Int} {k : Int → tp_O} (h : wp2 o1 (k a) Q) : wp2 o1 (tp_lt a k) Q := h
theorem wp2_ck1 {i n : Int} (h : 0 ≤ i ∧ i < n) (k : wp2 o1 o2 Q) : wp2 (tp_ck i n o1) o2 Q := by rw [tp_ck_t h]; exact k
theorem wp2_ck2 {i n : Int} (h : 0 ≤ i ∧ i < n) (k : wp2 o1 o2 Q) : wp2 o1 (tp_ck i n o2) Q := by rw [tp_ck_t h]; exact k
theorem wp2_nz1 {b : Int} (h : ¬ b = 0) (k : wp2 o1 o2 Q) : wp2 (tp_nz b o1) o2 Q := by rw [tp_nz_t h]; exact k
theorem wp2_nz2 {b : Int} (h : ¬ b = 0) (k : wp2 o1 o2 Q) : wp2 o1 (tp_nz b o2) Q := by rw [tp_nz_t h]; exact k
theorem wp2_gd1 {c : Prop} {hc : Decidable c} (h : c) (k : wp2 o1 o2 Q) : wp2 (tp_gd c hc o1) o2 Q := by rw [tp_gd_t h]; exact k
theorem wp2_gd2 {c : Prop} {hc : Decidable c} (h : c) (k : wp2 o1 o2 Q) : wp2 o1 (tp_gd c hc o2) Q := by rw [tp_gd_t h]; exact k
theorem wp2_t1 {c : Prop} {hc : Decidable c} {a b : tp_O} (h : c) (k : wp2 a o2 Q) : wp2 (if c then a else b) o2 Q := by rw [if_pos h]; exact k
theorem wp2_t2 {c : Prop} {hc : Decidable c} {a b : tp_O} (h : c) (k : wp2 o1 a Q) : wp2 o1 (if c then a else b) Q := by rw [if_pos h]; exact k
theorem wp2_f1 {c : Prop} {hc : Decidable c} {a b : tp_O} (h : ¬ c) (k : wp2 b o2 Q) : wp2 (if c then a else b) o2 Q := by rw [if_neg h]; exact k
theorem wp2_f2 {c : Prop} {hc : Decidable c} {a b : tp_O} (h : ¬ c) (k : wp2 o1 b Q) : wp2 o1 (if c then a else b) Q := by rw [if_neg h]; exact k
end W2
theorem wp2_jn01 {k : tp_M → tp_O} {b : (tp_M → tp_O) → tp_O} {o2 : tp_O} {Q : Int → tp_M → Int → tp_M → Prop} (h : wp2 (b k) o2 Q) : wp2 (tp_jn0 k b) o2 Q := h
theorem wp2_jn02 {k : tp_M → tp_O} {b : (tp_M → tp_O) → tp_O} {o1 : tp_O} {Q : Int → tp_M → Int → tp_M → Prop} (h : wp2 o1 (b k) Q) : wp2 o1 (tp_jn0 k b) Q := h
theorem wp2_jn11 {k : Int → tp_M → tp_O} {b : (Int → tp_M → tp_O) → tp_O} {o2 : tp_O} {Q : Int → tp_M → Int → tp_M → Prop} (h : wp2 (b k) o2 Q) : wp2 (tp_jn1 k b) o2 Q := h
theorem wp2_jn12 {k : Int → tp_M → tp_O} {b : (Int → tp_M → tp_O) → tp_O} {o1 : tp_O} {Q : Int → tp_M → Int → tp_M → Prop} (h : wp2 o1 (b k) Q) : wp2 o1 (tp_jn1 k b) Q := h
theorem wp2_jn21 {k : Int → Int → tp_M → tp_O} {b : (Int → Int → tp_M → tp_O) → tp_O} {o2 : tp_O} {Q : Int → tp_M → Int → tp_M → Prop} (h : wp2 (b k) o2 Q) : wp2 (tp_jn2 k b) o2 Q := h
theorem wp2_jn22 {k : Int → Int → tp_M → tp_O} {b : (Int → Int → tp_M → tp_O) → tp_O} {o1 : tp_O} {Q : Int → tp_M → Int → tp_M → Prop} (h : wp2 o1 (b k) Q) : wp2 o1 (tp_jn2 k b) Q := h
theorem wp2_jn31 {k : Int → Int → Int → tp_M → tp_O} {b : (Int → Int → Int → tp_M → tp_O) → tp_O} {o2 : tp_O} {Q : Int → tp_M → Int → tp_M → Prop} (h : wp2 (b k) o2 Q) : wp2 (tp_jn3 k b) o2 Q := h
theorem wp2_jn32 {k : Int → Int → Int → tp_M → tp_O} {b : (Int → Int → Int → tp_M → tp_O) → tp_O} {o1 : tp_O} {Q : Int → tp_M → Int → tp_M → Prop} (h : wp2 o1 (b k) Q) : wp2 o1 (tp_jn3 k b) Q := h
theorem wp2_lp00 {body1 : (tp_M → tp_O) → tp_M → tp_O} {body2 : (tp_M → tp_O) → tp_M → tp_O} {Q : Int → tp_M → Int → tp_M → Prop} (Inv : tp_M → tp_M → Prop) (mu : tp_M → tp_M → Nat)
    (step : ∀ (rec1 : tp_M → tp_O) (rec2 : tp_M → tp_O) (M1 : tp_M) (M2 : tp_M), Inv  M1  M2 → (∀ (N1 : tp_M) (N2 : tp_M), Inv  N1  N2 → mu  N1  N2 < mu  M1  M2 → wp2 (rec1  N1) (rec2  N2) Q) → wp2 (body1 rec1  M1) (body2 rec2  M2) Q) :
    ∀ (n1 n2 : Nat) (M1 : tp_M) (M2 : tp_M), Inv  M1  M2 → mu  M1  M2 < n1 → mu  M1  M2 < n2 → wp2 (tp_lp0 body1 n1  M1) (tp_lp0 body2 n2  M2) Q := by
  intro n1
  induction n1 with
  | zero => intro n2  M1  M2 _ h; omega
  | succ n1 ih =>
    intro n2  M1  M2 hI hm hm2
    cases n2 with
    | zero => omega
    | succ n2 =>
      rw [tp_lp0_s, tp_lp0_s]
      exact step _ _  M1  M2 hI (fun  N1  N2 h1 h2 => ih n2  N1  N2 h1 (by omega) (by omega))
theorem wp2_lp01 {body1 : (tp_M → tp_O) → tp_M → tp_O} {body2 : (Int → tp_M → tp_O) → Int → tp_M → tp_O} {Q : Int → tp_M → Int → tp_M → Prop} (Inv : tp_M → Int → tp_M → Prop) (mu : tp_M → Int → tp_M → Nat)
    (step : ∀ (rec1 : tp_M → tp_O) (rec2 : Int → tp_M → tp_O) (M1 : tp_M) (c0 : Int) (M2 : tp_M), Inv  M1 c0 M2 → (∀ (N1 : tp_M) (g0 : Int) (N2 : tp_M), Inv  N1 g0 N2 → mu  N1 g0 N2 < mu  M1 c0 M2 → wp2 (rec1  N1) (rec2 g0 N2) Q) → wp2 (body1 rec1  M1) (body2 rec2 c0 M2) Q) :
    ∀ (n1 n2 : Nat) (M1 : tp_M) (c0 : Int) (M2 : tp_M), Inv  M1 c0 M2 → mu  M1 c0 M2 < n1 → mu  M1 c0 M2 < n2 → wp2 (tp_lp0 body1 n1  M1) (tp_lp1 body2 n2 c0 M2) Q := by
  intro n1
  induction n1 with
  | zero => intro n2  M1 c0 M2 _ h; omega
  | succ n1 ih =>
    intro n2  M1 c0 M2 hI hm hm2
    cases n2 with
    | zero => omega
    | succ n2 =>
      rw [tp_lp0_s, tp_lp1_s]
      exact step _ _  M1 c0 M2 hI (fun  N1 g0 N2 h1 h2 => ih n2  N1 g0 N2 h1 (by omega) (by omega))
theorem wp2_lp02 {body1 : (tp_M → tp_O) → tp_M → tp_O} {body2 : (Int → Int → tp_M → tp_O) → Int → Int → tp_M → tp_O} {Q : Int → tp_M → Int → tp_M → Prop} (Inv : tp_M → Int → Int → tp_M → Prop) (mu : tp_M → Int → Int → tp_M → Nat)
    (step : ∀ (rec1 : tp_M → tp_O) (rec2 : Int → Int → tp_M → tp_O) (M1 : tp_M) (c0 c1 : Int) (M2 : tp_M), Inv  M1 c0 c1 M2 → (∀ (N1 : tp_M) (g0 g1 : Int) (N2 : tp_M), Inv  N1 g0 g1 N2 → mu  N1 g0 g1 N2 < mu  M1 c0 c1 M2 → wp2 (rec1  N1) (rec2 g0 g1 N2) Q) → wp2 (body1 rec1  M1) (body2 rec2 c0 c1 M2) Q) :
    ∀ (n1 n2 : Nat) (M1 : tp_M) (c0 c1 : Int) (M2 : tp_M), Inv  M1 c0 c1 M2 → mu  M1 c0 c1 M2 < n1 → mu  M1 c0 c1 M2 < n2 → wp2 (tp_lp0 body1 n1  M1) (tp_lp2 body2 n2 c0 c1 M2) Q := by
  intro n1
  induction n1 with
  | zero => intro n2  M1 c0 c1 M2 _ h; omega
  | succ n1 ih =>
    intro n2  M1 c0 c1 M2 hI hm hm2
    cases n2 with
    | zero => omega
    | succ n2 =>
      rw [tp_lp0_s, tp_lp2_s]
      exact step _ _  M1 c0 c1 M2 hI (fun  N1 g0 g1 N2 h1 h2 => ih n2  N1 g0 g1 N2 h1 (by omega) (by omega))
theorem wp2_lp03 {body1 : (tp_M → tp_O) → tp_M → tp_O} {body2 : (Int → Int → Int → tp_M → tp_O) → Int → Int → Int → tp_M → tp_O} {Q : Int → tp_M → Int → tp_M → Prop} (Inv : tp_M → Int → Int → Int → tp_M → Prop) (mu : tp_M → Int → Int → Int → tp_M → Nat)
    (step : ∀ (rec1 : tp_M → tp_O) (rec2 : Int → Int → Int → tp_M → tp_O) (M1 : tp_M) (c0 c1 c2 : Int) (M2 : tp_M), Inv  M1 c0 c1 c2 M2 → (∀ (N1 : tp_M) (g0 g1 g2 : Int) (N2 : tp_M), Inv  N1 g0 g1 g2 N2 → mu  N1 g0 g1 g2 N2 < mu  M1 c0 c1 c2 M2 → wp2 (rec1  N1) (rec2 g0 g1 g2 N2) Q) → wp2 (body1 rec1  M1) (body2 rec2 c0 c1 c2 M2) Q) :
    ∀ (n1 n2 : Nat) (M1 : tp_M) (c0 c1 c2 : Int) (M2 : tp_M), Inv  M1 c0 c1 c2 M2 → mu  M1 c0 c1 c2 M2 < n1 → mu  M1 c0 c1 c2 M2 < n2 → wp2 (tp_lp0 body1 n1  M1) (tp_lp3 body2 n2 c0 c1 c2 M2) Q := by
  intro n1
  induction n1 with
  | zero => intro n2  M1 c0 c1 c2 M2 _ h; omega
  | succ n1 ih =>
    intro n2  M1 c0 c1 c2 M2 hI hm hm2
    cases n2 with
    | zero => omega
    | succ n2 =>
      rw [tp_lp0_s, tp_lp3_s]
      exact step _ _  M1 c0 c1 c2 M2 hI (fun  N1 g0 g1 g2 N2 h1 h2 => ih n2  N1 g0 g1 g2 N2 h1 (by omega) (by omega))
theorem wp2_lp04 {body1 : (tp_M → tp_O) → tp_M → tp_O} {body2 : (Int → Int → Int → Int → tp_M → tp_O) → Int → Int → Int → Int → tp_M → tp_O} {Q : Int → tp_M → Int → tp_M → Prop} (Inv : tp_M → Int → Int → Int → Int → tp_M → Prop) (mu : tp_M → Int → Int → Int → Int → tp_M → Nat)
    (step : ∀ (rec1 : tp_M → tp_O) (rec2 : Int → Int → Int → Int → tp_M → tp_O) (M1 : tp_M) (c0 c1 c2 c3 : Int) (M2 : tp_M), Inv  M1 c0 c1 c2 c3 M2 → (∀ (N1 : tp_M) (g0 g1 g2 g3 : Int) (N2 : tp_M), Inv  N1 g0 g1 g2 g3 N2 → mu  N1 g0 g1 g2 g3 N2 < mu  M1 c0 c1 c2 c3 M2 → wp2 (rec1  N1) (rec2 g0 g1 g2 g3 N2) Q) → wp2 (body1 rec1  M1) (body2 rec2 c0 c1 c2 c3 M2) Q) :
    ∀ (n1 n2 : Nat) (M1 : tp_M) (c0 c1 c2 c3 : Int) (M2 : tp_M), Inv  M1 c0 c1 c2 c3 M2 → mu  M1 c0 c1 c2 c3 M2 < n1 → mu  M1 c0 c1 c2 c3 M2 < n2 → wp2 (tp_lp0 body1 n1  M1) (tp_lp4 body2 n2 c0 c1 c2 c3 M2) Q := by
  intro n1
  induction n1 with
  | zero => intro n2  M1 c0 c1 c2 c3 M2 _ h; omega
  | succ n1 ih =>
    intro n2  M1 c0 c1 c2 c3 M2 hI hm hm2
    cases n2 with
    | zero => omega
    | succ n2 =>
      rw [tp_lp0_s, tp_lp4_s]
      exact step _ _  M1 c0 c1 c2 c3 M2 hI (fun  N1 g0 g1 g2 g3 N2 h1 h2 => ih n2  N1 g0 g1 g2 g3 N2 h1 (by omega) (by omega))
theorem wp2_lp10 {body1 : (Int → tp_M → tp_O) → Int → tp_M → tp_O} {body2 : (tp_M → tp_O) → tp_M → tp_O} {Q : Int → tp_M → Int → tp_M → Prop} (Inv : Int → tp_M → tp_M → Prop) (mu : Int → tp_M → tp_M → Nat)
    (step : ∀ (rec1 : Int → tp_M → tp_O) (rec2 : tp_M → tp_O) (a0 : Int) (M1 : tp_M) (M2 : tp_M), Inv a0 M1  M2 → (∀ (e0 : Int) (N1 : tp_M) (N2 : tp_M), Inv e0 N1  N2 → mu e0 N1  N2 < mu a0 M1  M2 → wp2 (rec1 e0 N1) (rec2  N2) Q) → wp2 (body1 rec1 a0 M1) (body2 rec2  M2) Q) :
    ∀ (n1 n2 : Nat) (a0 : Int) (M1 : tp_M) (M2 : tp_M), Inv a0 M1  M2 → mu a0 M1  M2 < n1 → mu a0 M1  M2 < n2 → wp2 (tp_lp1 body1 n1 a0 M1) (tp_lp0 body2 n2  M2) Q := by
  intro n1
  induction n1 with
  | zero => intro n2 a0 M1  M2 _ h; omega
  | succ n1 ih =>
    intro n2 a0 M1  M2 hI hm hm2
    cases n2 with
    | zero => omega
    | succ n2 =>
      rw [tp_lp1_s, tp_lp0_s]
      exact step _ _ a0 M1  M2 hI (fun e0 N1  N2 h1 h2 => ih n2 e0 N1  N2 h1 (by omega) (by omega))
theorem wp2_lp11 {body1 : (Int → tp_M → tp_O) → Int → tp_M → tp_O} {body2 : (Int → tp_M → tp_O) → Int → tp_M → tp_O} {Q : Int → tp_M → Int → tp_M → Prop} (Inv : Int → tp_M → Int → tp_M → Prop) (mu : Int → tp_M → Int → tp_M → Nat)
    (step : ∀ (rec1 : Int → tp_M → tp_O) (rec2 : Int → tp_M → tp_O) (a0 : Int) (M1 : tp_M) (c0 : Int) (M2 : tp_M), Inv a0 M1 c0 M2 → (∀ (e0 : Int) (N1 : tp_M) (g0 : Int) (N2 : tp_M), Inv e0 N1 g0 N2 → mu e0 N1 g0 N2 < mu a0 M1 c0 M2 → wp2 (rec1 e0 N1) (rec2 g0 N2) Q) → wp2 (body1 rec1 a0 M1) (body2 rec2 c0 M2) Q) :
    ∀ (n1 n2 : Nat) (a0 : Int) (M1 : tp_M) (c0 : Int) (M2 : tp_M), Inv a0 M1 c0 M2 → mu a0 M1 c0 M2 < n1 → mu a0 M1 c0 M2 < n2 → wp2 (tp_lp1 body1 n1 a0 M1) (tp_lp1 body2 n2 c0 M2) Q := by
  intro n1
  induction n1 with
  | zero => intro n2 a0 M1 c0 M2 _ h; omega
  | succ n1 ih =>
    intro n2 a0 M1 c0 M2 hI hm hm2
    cases n2 with
    | zero => omega
    | succ n2 =>
      rw [tp_lp1_s, tp_lp1_s]
      exact step _ _ a0 M1 c0 M2 hI (fun e0 N1 g0 N2 h1 h2 => ih n2 e0 N1 g0 N2 h1 (by omega) (by omega))
theorem wp2_lp12 {body1 : (Int → tp_M → tp_O) → Int → tp_M → tp_O} {body2 : (Int → Int → tp_M → tp_O) → Int → Int → tp_M → tp_O} {Q : Int → tp_M → Int → tp_M → Prop} (Inv : Int → tp_M → Int → Int → tp_M → Prop) (mu : Int → tp_M → Int → Int → tp_M → Nat)
    (step : ∀ (rec1 : Int → tp_M → tp_O) (rec2 : Int → Int → tp_M → tp_O) (a0 : Int) (M1 : tp_M) (c0 c1 : Int) (M2 : tp_M), Inv a0 M1 c0 c1 M2 → (∀ (e0 : Int) (N1 : tp_M) (g0 g1 : Int) (N2 : tp_M), Inv e0 N1 g0 g1 N2 → mu e0 N1 g0 g1 N2 < mu a0 M1 c0 c1 M2 → wp2 (rec1 e0 N1) (rec2 g0 g1 N2) Q) → wp2 (body1 rec1 a0 M1) (body2 rec2 c0 c1 M2) Q) :
    ∀ (n1 n2 : Nat) (a0 : Int) (M1 : tp_M) (c0 c1 : Int) (M2 : tp_M), Inv a0 M1 c0 c1 M2 → mu a0 M1 c0 c1 M2 < n1 → mu a0 M1 c0 c1 M2 < n2 → wp2 (tp_lp1 body1 n1 a0 M1) (tp_lp2 body2 n2 c0 c1 M2) Q := by
  intro n1
  induction n1 with
  | zero => intro n2 a0 M1 c0 c1 M2 _ h; omega
  | succ n1 ih =>
    intro n2 a0 M1 c0 c1 M2 hI hm hm2
    cases n2 with
    | zero => omega
    | succ n2 =>
      rw [tp_lp1_s, tp_lp2_s]
      exact step _ _ a0 M1 c0 c1 M2 hI (fun e0 N1 g0 g1 N2 h1 h2 => ih n2 e0 N1 g0 g1 N2 h1 (by omega) (by omega))
theorem wp2_lp13 {body1 : (Int → tp_M → tp_O) → Int → tp_M → tp_O} {body2 : (Int → Int → Int → tp_M → tp_O) → Int → Int → Int → tp_M → tp_O} {Q : Int → tp_M → Int → tp_M → Prop} (Inv : Int → tp_M → Int → Int → Int → tp_M → Prop) (mu : Int → tp_M → Int → Int → Int → tp_M → Nat)
    (step : ∀ (rec1 : Int → tp_M → tp_O) (rec2 : Int → Int → Int → tp_M → tp_O) (a0 : Int) (M1 : tp_M) (c0 c1 c2 : Int) (M2 : tp_M), Inv a0 M1 c0 c1 c2 M2 → (∀ (e0 : Int) (N1 : tp_M) (g0 g1 g2 : Int) (N2 : tp_M), Inv e0 N1 g0 g1 g2 N2 → mu e0 N1 g0 g1 g2 N2 < mu a0 M1 c0 c1 c2 M2 → wp2 (rec1 e0 N1) (rec2 g0 g1 g2 N2) Q) → wp2 (body1 rec1 a0 M1) (body2 rec2 c0 c1 c2 M2) Q) :
    ∀ (n1 n2 : Nat) (a0 : Int) (M1 : tp_M) (c0 c1 c2 : Int) (M2 : tp_M), Inv a0 M1 c0 c1 c2 M2 → mu a0 M1 c0 c1 c2 M2 < n1 → mu a0 M1 c0 c1 c2 M2 < n2 → wp2 (tp_lp1 body1 n1 a0 M1) (tp_lp3 body2 n2 c0 c1 c2 M2) Q := by
  intro n1
  induction n1 with
  | zero => intro n2 a0 M1 c0 c1 c2 M2 _ h; omega
  | succ n1 ih =>
    intro n2 a0 M1 c0 c1 c2 M2 hI hm hm2
    cases n2 with
    | zero => omega
    | succ n2 =>
      rw [tp_lp1_s, tp_lp3_s]
      exact step _ _ a0 M1 c0 c1 c2 M2 hI (fun e0 N1 g0 g1 g2 N2 h1 h2 => ih n2 e0 N1 g0 g1 g2 N2 h1 (by omega) (by omega))
theorem wp2_lp14 {body1 : (Int → tp_M → tp_O) → Int → tp_M → tp_O} {body2 : (Int → Int → Int → Int → tp_M → tp_O) → Int → Int → Int → Int → tp_M → tp_O} {Q : Int → tp_M → Int → tp_M → Prop} (Inv : Int → tp_M → Int → Int → Int → Int → tp_M → Prop) (mu : Int → tp_M → Int → Int → Int → Int → tp_M → Nat)
    (step : ∀ (rec1 : Int → tp_M → tp_O) (rec2 : Int → Int → Int → Int → tp_M → tp_O) (a0 : Int) (M1 : tp_M) (c0 c1 c2 c3 : Int) (M2 : tp_M), Inv a0 M1 c0 c1 c2 c3 M2 → (∀ (e0 : Int) (N1 : tp_M) (g0 g1 g2 g3 : Int) (N2 : tp_M), Inv e0 N1 g0 g1 g2 g3 N2 → mu e0 N1 g0 g1 g2 g3 N2 < mu a0 M1 c0 c1 c2 c3 M2 → wp2 (rec1 e0 N1) (rec2 g0 g1 g2 g3 N2) Q) → wp2 (body1 rec1 a0 M1) (body2 rec2 c0 c1 c2 c3 M2) Q) :
    ∀ (n1 n2 : Nat) (a0 : Int) (M1 : tp_M) (c0 c1 c2 c3 : Int) (M2 : tp_M), Inv a0 M1 c0 c1 c2 c3 M2 → mu a0 M1 c0 c1 c2 c3 M2 < n1 → mu a0 M1 c0 c1 c2 c3 M2 < n2 → wp2 (tp_lp1 body1 n1 a0 M1) (tp_lp4 body2 n2 c0 c1 c2 c3 M2) Q := by
  intro n1
  induction n1 with
  | zero => intro n2 a0 M1 c0 c1 c2 c3 M2 _ h; omega
  | succ n1 ih =>
    intro n2 a0 M1 c0 c1 c2 c3 M2 hI hm hm2
    cases n2 with
    | zero => omega
    | succ n2 =>
      rw [tp_lp1_s, tp_lp4_s]
      exact step _ _ a0 M1 c0 c1 c2 c3 M2 hI (fun e0 N1 g0 g1 g2 g3 N2 h1 h2 => ih n2 e0 N1 g0 g1 g2 g3 N2 h1 (by omega) (by omega))
theorem wp2_lp20 {body1 : (Int → Int → tp_M → tp_O) → Int → Int → tp_M → tp_O} {body2 : (tp_M → tp_O) → tp_M → tp_O} {Q : Int → tp_M → Int → tp_M → Prop} (Inv : Int → Int → tp_M → tp_M → Prop) (mu : Int → Int → tp_M → tp_M → Nat)
    (step : ∀ (rec1 : Int → Int → tp_M → tp_O) (rec2 : tp_M → tp_O) (a0 a1 : Int) (M1 : tp_M) (M2 : tp_M), Inv a0 a1 M1  M2 → (∀ (e0 e1 : Int) (N1 : tp_M) (N2 : tp_M), Inv e0 e1 N1  N2 → mu e0 e1 N1  N2 < mu a0 a1 M1  M2 → wp2 (rec1 e0 e1 N1) (rec2  N2) Q) → wp2 (body1 rec1 a0 a1 M1) (body2 rec2  M2) Q) :
    ∀ (n1 n2 : Nat) (a0 a1 : Int) (M1 : tp_M) (M2 : tp_M), Inv a0 a1 M1  M2 → mu a0 a1 M1  M2 < n1 → mu a0 a1 M1  M2 < n2 → wp2 (tp_lp2 body1 n1 a0 a1 M1) (tp_lp0 body2 n2  M2) Q := by
  intro n1
  induction n1 with
  | zero => intro n2 a0 a1 M1  M2 _ h; omega
  | succ n1 ih =>
    intro n2 a0 a1 M1  M2 hI hm hm2
    cases n2 with
    | zero => omega
    | succ n2 =>
      rw [tp_lp2_s, tp_lp0_s]
      exact step _ _ a0 a1 M1  M2 hI (fun e0 e1 N1  N2 h1 h2 => ih n2 e0 e1 N1  N2 h1 (by omega) (by omega))
theorem wp2_lp21 {body1 : (Int → Int → tp_M → tp_O) → Int → Int → tp_M → tp_O} {body2 : (Int → tp_M → tp_O) → Int → tp_M → tp_O} {Q : Int → tp_M → Int → tp_M → Prop} (Inv : Int → Int → tp_M → Int → tp_M → Prop) (mu : Int → Int → tp_M → Int → tp_M → Nat)
    (step : ∀ (rec1 : Int → Int → tp_M → tp_O) (rec2 : Int → tp_M → tp_O) (a0 a1 : Int) (M1 : tp_M) (c0 : Int) (M2 : tp_M), Inv a0 a1 M1 c0 M2 → (∀ (e0 e1 : Int) (N1 : tp_M) (g0 : Int) (N2 : tp_M), Inv e0 e1 N1 g0 N2 → mu e0 e1 N1 g0 N2 < mu a0 a1 M1 c0 M2 → wp2 (rec1 e0 e1 N1) (rec2 g0 N2) Q) → wp2 (body1 rec1 a0 a1 M1) (body2 rec2 c0 M2) Q) :
    ∀ (n1 n2 : Nat) (a0 a1 : Int) (M1 : tp_M) (c0 : Int) (M2 : tp_M), Inv a0 a1 M1 c0 M2 → mu a0 a1 M1 c0 M2 < n1 → mu a0 a1 M1 c0 M2 < n2 → wp2 (tp_lp2 body1 n1 a0 a1 M1) (tp_lp1 body2 n2 c0 M2) Q := by
  intro n1
  induction n1 with
  | zero => intro n2 a0 a1 M1 c0 M2 _ h; omega
  | succ n1 ih =>
    intro n2 a0 a1 M1 c0 M2 hI hm hm2
    cases n2 with
    | zero => omega
    | succ n2 =>
      rw [tp_lp2_s, tp_lp1_s]
      exact step _ _ a0 a1 M1 c0 M2 hI (fun e0 e1 N1 g0 N2 h1 h2 => ih n2 e0 e1 N1 g0 N2 h1 (by omega) (by omega))
theorem wp2_lp22 {body1 : (Int → Int → tp_M → tp_O) → Int → Int → tp_M → tp_O} {body2 : (Int → Int → tp_M → tp_O) → Int → Int → tp_M → tp_O} {Q : Int → tp_M → Int → tp_M → Prop} (Inv : Int → Int → tp_M → Int → Int → tp_M → Prop) (mu : Int → Int → tp_M → Int → Int → tp_M → Nat)
    (step : ∀ (rec1 : Int → Int → tp_M → tp_O) (rec2 : Int → Int → tp_M → tp_O) (a0 a1 : Int) (M1 : tp_M) (c0 c1 : Int) (M2 : tp_M), Inv a0 a1 M1 c0 c1 M2 → (∀ (e0 e1 : Int) (N1 : tp_M) (g0 g1 : Int) (N2 : tp_M), Inv e0 e1 N1 g0 g1 N2 → mu e0 e1 N1 g0 g1 N2 < mu a0 a1 M1 c0 c1 M2 → wp2 (rec1 e0 e1 N1) (rec2 g0 g1 N2) Q) → wp2 (body1 rec1 a0 a1 M1) (body2 rec2 c0 c1 M2) Q) :
    ∀ (n1 n2 : Nat) (a0 a1 : Int) (M1 : tp_M) (c0 c1 : Int) (M2 : tp_M), Inv a0 a1 M1 c0 c1 M2 → mu a0 a1 M1 c0 c1 M2 < n1 → mu a0 a1 M1 c0 c1 M2 < n2 → wp2 (tp_lp2 body1 n1 a0 a1 M1) (tp_lp2 body2 n2 c0 c1 M2) Q := by
  intro n1
  induction n1 with
  | zero => intro n2 a0 a1 M1 c0 c1 M2 _ h; omega
  | succ n1 ih =>
    intro n2 a0 a1 M1 c0 c1 M2 hI hm hm2
    cases n2 with
    | zero => omega
    | succ n2 =>
      rw [tp_lp2_s, tp_lp2_s]
      exact step _ _ a0 a1 M1 c0 c1 M2 hI (fun e0 e1 N1 g0 g1 N2 h1 h2 => ih n2 e0 e1 N1 g0 g1 N2 h1 (by omega) (by omega))
theorem wp2_lp23 {body1 : (Int → Int → tp_M → tp_O) → Int → Int → tp_M → tp_O} {body2 : (Int → Int → Int → tp_M → tp_O) → Int → Int → Int → tp_M → tp_O} {Q : Int → tp_M → Int → tp_M → Prop} (Inv : Int → Int → tp_M → Int → Int → Int → tp_M → Prop) (mu : Int → Int → tp_M → Int → Int → Int → tp_M → Nat)
    (step : ∀ (rec1 : Int → Int → tp_M → tp_O) (rec2 : Int → Int → Int → tp_M → tp_O) (a0 a1 : Int) (M1 : tp_M) (c0 c1 c2 : Int) (M2 : tp_M), Inv a0 a1 M1 c0 c1 c2 M2 → (∀ (e0 e1 : Int) (N1 : tp_M) (g0 g1 g2 : Int) (N2 : tp_M), Inv e0 e1 N1 g0 g1 g2 N2 → mu e0 e1 N1 g0 g1 g2 N2 < mu a0 a1 M1 c0 c1 c2 M2 → wp2 (rec1 e0 e1 N1) (rec2 g0 g1 g2 N2) Q) → wp2 (body1 rec1 a0 a1 M1) (body2 rec2 c0 c1 c2 M2) Q) :
    ∀ (n1 n2 : Nat) (a0 a1 : Int) (M1 : tp_M) (c0 c1 c2 : Int) (M2 : tp_M), Inv a0 a1 M1 c0 c1 c2 M2 → mu a0 a1 M1 c0 c1 c2 M2 < n1 → mu a0 a1 M1 c0 c1 c2 M2 < n2 → wp2 (tp_lp2 body1 n1 a0 a1 M1) (tp_lp3 body2 n2 c0 c1 c2 M2) Q := by
  intro n1
  induction n1 with
  | zero => intro n2 a0 a1 M1 c0 c1 c2 M2 _ h; omega
  | succ n1 ih =>
    intro n2 a0 a1 M1 c0 c1 c2 M2 hI hm hm2
    cases n2 with
    | zero => omega
    | succ n2 =>
      rw [tp_lp2_s, tp_lp3_s]
      exact step _ _ a0 a1 M1 c0 c1 c2 M2 hI (fun e0 e1 N1 g0 g1 g2 N2 h1 h2 => ih n2 e0 e1 N1 g0 g1 g2 N2 h1 (by omega) (by omega))
theorem wp2_lp24 {body1 : (Int → Int → tp_M → tp_O) → Int → Int → tp_M → tp_O} {body2 : (Int → Int → Int → Int → tp_M → tp_O) → Int → Int → Int → Int → tp_M → tp_O} {Q : Int → tp_M → Int → tp_M → Prop} (Inv : Int → Int → tp_M → Int → Int → Int → Int → tp_M → Prop) (mu : Int → Int → tp_M → Int → Int → Int → Int → tp_M → Nat)
    (step : ∀ (rec1 : Int → Int → tp_M → tp_O) (rec2 : Int → Int → Int → Int → tp_M → tp_O) (a0 a1 : Int) (M1 : tp_M) (c0 c1 c2 c3 : Int) (M2 : tp_M), Inv a0 a1 M1 c0 c1 c2 c3 M2 → (∀ (e0 e1 : Int) (N1 : tp_M) (g0 g1 g2 g3 : Int) (N2 : tp_M), Inv e0 e1 N1 g0 g1 g2 g3 N2 → mu e0 e1 N1 g0 g1 g2 g3 N2 < mu a0 a1 M1 c0 c1 c2 c3 M2 → wp2 (rec1 e0 e1 N1) (rec2 g0 g1 g2 g3 N2) Q) → wp2 (body1 rec1 a0 a1 M1) (body2 rec2 c0 c1 c2 c3 M2) Q) :
    ∀ (n1 n2 : Nat) (a0 a1 : Int) (M1 : tp_M) (c0 c1 c2 c3 : Int) (M2 : tp_M), Inv a0 a1 M1 c0 c1 c2 c3 M2 → mu a0 a1 M1 c0 c1 c2 c3 M2 < n1 → mu a0 a1 M1 c0 c1 c2 c3 M2 < n2 → wp2 (tp_lp2 body1 n1 a0 a1 M1) (tp_lp4 body2 n2 c0 c1 c2 c3 M2) Q := by
  intro n1
  induction n1 with
  | zero => intro n2 a0 a1 M1 c0 c1 c2 c3 M2 _ h; omega
  | succ n1 ih =>
    intro n2 a0 a1 M1 c0 c1 c2 c3 M2 hI hm hm2
    cases n2 with
    | zero => omega
    | succ n2 =>
      rw [tp_lp2_s, tp_lp4_s]
      exact step _ _ a0 a1 M1 c0 c1 c2 c3 M2 hI (fun e0 e1 N1 g0 g1 g2 g3 N2 h1 h2 => ih n2 e0 e1 N1 g0 g1 g2 g3 N2 h1 (by omega) (by omega))
theorem wp2_lp30 {body1 : (Int → Int → Int → tp_M → tp_O) → Int → Int → Int → tp_M → tp_O} {body2 : (tp_M → tp_O) → tp_M → tp_O} {Q : Int → tp_M → Int → tp_M → Prop} (Inv : Int → Int → Int → tp_M → tp_M → Prop) (mu : Int → Int → Int → tp_M → tp_M → Nat)
    (step : ∀ (rec1 : Int → Int → Int → tp_M → tp_O) (rec2 : tp_M → tp_O) (a0 a1 a2 : Int) (M1 : tp_M) (M2 : tp_M), Inv a0 a1 a2 M1  M2 → (∀ (e0 e1 e2 : Int) (N1 : tp_M) (N2 : tp_M), Inv e0 e1 e2 N1  N2 → mu e0 e1 e2 N1  N2 < mu a0 a1 a2 M1  M2 → wp2 (rec1 e0 e1 e2 N1) (rec2  N2) Q) → wp2 (body1 rec1 a0 a1 a2 M1) (body2 rec2  M2) Q) :
    ∀ (n1 n2 : Nat) (a0 a1 a2 : Int) (M1 : tp_M) (M2 : tp_M), Inv a0 a1 a2 M1  M2 → mu a0 a1 a2 M1  M2 < n1 → mu a0 a1 a2 M1  M2 < n2 → wp2 (tp_lp3 body1 n1 a0 a1 a2 M1) (tp_lp0 body2 n2  M2) Q := by
  intro n1
  induction n1 with
  | zero => intro n2 a0 a1 a2 M1  M2 _ h; omega
  | succ n1 ih =>
    intro n2 a0 a1 a2 M1  M2 hI hm hm2
    cases n2 with
    | zero => omega
    | succ n2 =>
      rw [tp_lp3_s, tp_lp0_s]
      exact step _ _ a0 a1 a2 M1  M2 hI (fun e0 e1 e2 N1  N2 h1 h2 => ih n2 e0 e1 e2 N1  N2 h1 (by omega) (by omega))
theorem wp2_lp31 {body1 : (Int → Int → Int → tp_M → tp_O) → Int → Int → Int → tp_M → tp_O} {body2 : (Int → tp_M → tp_O) → Int → tp_M → tp_O} {Q : Int → tp_M → Int → tp_M → Prop} (Inv : Int → Int → Int → tp_M → Int → tp_M → Prop) (mu : Int → Int → Int → tp_M → Int → tp_M → Nat)
    (step : ∀ (rec1 : Int → Int → Int → tp_M → tp_O) (rec2 : Int → tp_M → tp_O) (a0 a1 a2 : Int) (M1 : tp_M) (c0 : Int) (M2 : tp_M), Inv a0 a1 a2 M1 c0 M2 → (∀ (e0 e1 e2 : Int) (N1 : tp_M) (g0 : Int) (N2 : tp_M), Inv e0 e1 e2 N1 g0 N2 → mu e0 e1 e2 N1 g0 N2 < mu a0 a1 a2 M1 c0 M2 → wp2 (rec1 e0 e1 e2 N1) (rec2 g0 N2) Q) → wp2 (body1 rec1 a0 a1 a2 M1) (body2 rec2 c0 M2) Q) :
    ∀ (n1 n2 : Nat) (a0 a1 a2 : Int) (M1 : tp_M) (c0 : Int) (M2 : tp_M), Inv a0 a1 a2 M1 c0 M2 → mu a0 a1 a2 M1 c0 M2 < n1 → mu a0 a1 a2 M1 c0 M2 < n2 → wp2 (tp_lp3 body1 n1 a0 a1 a2 M1) (tp_lp1 body2 n2 c0 M2) Q := by
  intro n1
  induction n1 with
  | zero => intro n2 a0 a1 a2 M1 c0 M2 _ h; omega
  | succ n1 ih =>
    intro n2 a0 a1 a2 M1 c0 M2 hI hm hm2
    cases n2 with
    | zero => omega
    | succ n2 =>
      rw [tp_lp3_s, tp_lp1_s]
      exact step _ _ a0 a1 a2 M1 c0 M2 hI (fun e0 e1 e2 N1 g0 N2 h1 h2 => ih n2 e0 e1 e2 N1 g0 N2 h1 (by omega) (by omega))
theorem wp2_lp32 {body1 : (Int → Int → Int → tp_M → tp_O) → Int → Int → Int → tp_M → tp_O} {body2 : (Int → Int → tp_M → tp_O) → Int → Int → tp_M → tp_O} {Q : Int → tp_M → Int → tp_M → Prop} (Inv : Int → Int → Int → tp_M → Int → Int → tp_M → Prop) (mu : Int → Int → Int → tp_M → Int → Int → tp_M → Nat)
    (step : ∀ (rec1 : Int → Int → Int → tp_M → tp_O) (rec2 : Int → Int → tp_M → tp_O) (a0 a1 a2 : Int) (M1 : tp_M) (c0 c1 : Int) (M2 : tp_M), Inv a0 a1 a2 M1 c0 c1 M2 → (∀ (e0 e1 e2 : Int) (N1 : tp_M) (g0 g1 : Int) (N2 : tp_M), Inv e0 e1 e2 N1 g0 g1 N2 → mu e0 e1 e2 N1 g0 g1 N2 < mu a0 a1 a2 M1 c0 c1 M2 → wp2 (rec1 e0 e1 e2 N1) (rec2 g0 g1 N2) Q) → wp2 (body1 rec1 a0 a1 a2 M1) (body2 rec2 c0 c1 M2) Q) :
    ∀ (n1 n2 : Nat) (a0 a1 a2 : Int) (M1 : tp_M) (c0 c1 : Int) (M2 : tp_M), Inv a0 a1 a2 M1 c0 c1 M2 → mu a0 a1 a2 M1 c0 c1 M2 < n1 → mu a0 a1 a2 M1 c0 c1 M2 < n2 → wp2 (tp_lp3 body1 n1 a0 a1 a2 M1) (tp_lp2 body2 n2 c0 c1 M2) Q := by
  intro n1
  induction n1 with
  | zero => intro n2 a0 a1 a2 M1 c0 c1 M2 _ h; omega
  | succ n1 ih =>
    intro n2 a0 a1 a2 M1 c0 c1 M2 hI hm hm2
    cases n2 with
    | zero => omega
    | succ n2 =>
      rw [tp_lp3_s, tp_lp2_s]
      exact step _ _ a0 a1 a2 M1 c0 c1 M2 hI (fun e0 e1 e2 N1 g0 g1 N2 h1 h2 => ih n2 e0 e1 e2 N1 g0 g1 N2 h1 (by omega) (by omega))
theorem wp2_lp33 {body1 : (Int → Int → Int → tp_M → tp_O) → Int → Int → Int → tp_M → tp_O} {body2 : (Int → Int → Int → tp_M → tp_O) → Int → Int → Int → tp_M → tp_O} {Q : Int → tp_M → Int → tp_M → Prop} (Inv : Int → Int → Int → tp_M → Int → Int → Int → tp_M → Prop) (mu : Int → Int → Int → tp_M → Int → Int → Int → tp_M → Nat)
    (step : ∀ (rec1 : Int → Int → Int → tp_M → tp_O) (rec2 : Int → Int → Int → tp_M → tp_O) (a0 a1 a2 : Int) (M1 : tp_M) (c0 c1 c2 : Int) (M2 : tp_M), Inv a0 a1 a2 M1 c0 c1 c2 M2 → (∀ (e0 e1 e2 : Int) (N1 : tp_M) (g0 g1 g2 : Int) (N2 : tp_M), Inv e0 e1 e2 N1 g0 g1 g2 N2 → mu e0 e1 e2 N1 g0 g1 g2 N2 < mu a0 a1 a2 M1 c0 c1 c2 M2 → wp2 (rec1 e0 e1 e2 N1) (rec2 g0 g1 g2 N2) Q) → wp2 (body1 rec1 a0 a1 a2 M1) (body2 rec2 c0 c1 c2 M2) Q) :
    ∀ (n1 n2 : Nat) (a0 a1 a2 : Int) (M1 : tp_M) (c0 c1 c2 : Int) (M2 : tp_M), Inv a0 a1 a2 M1 c0 c1 c2 M2 → mu a0 a1 a2 M1 c0 c1 c2 M2 < n1 → mu a0 a1 a2 M1 c0 c1 c2 M2 < n2 → wp2 (tp_lp3 body1 n1 a0 a1 a2 M1) (tp_lp3 body2 n2 c0 c1 c2 M2) Q := by
  intro n1
  induction n1 with
  | zero => intro n2 a0 a1 a2 M1 c0 c1 c2 M2 _ h; omega
  | succ n1 ih =>
    intro n2 a0 a1 a2 M1 c0 c1 c2 M2 hI hm hm2
    cases n2 with
    | zero => omega
    | succ n2 =>
      rw [tp_lp3_s, tp_lp3_s]
      exact step _ _ a0 a1 a2 M1 c0 c1 c2 M2 hI (fun e0 e1 e2 N1 g0 g1 g2 N2 h1 h2 => ih n2 e0 e1 e2 N1 g0 g1 g2 N2 h1 (by omega) (by omega))
theorem wp2_lp34 {body1 : (Int → Int → Int → tp_M → tp_O) → Int → Int → Int → tp_M → tp_O} {body2 : (Int → Int → Int → Int → tp_M → tp_O) → Int → Int → Int → Int → tp_M → tp_O} {Q : Int → tp_M → Int → tp_M → Prop} (Inv : Int → Int → Int → tp_M → Int → Int → Int → Int → tp_M → Prop) (mu : Int → Int → Int → tp_M → Int → Int → Int → Int → tp_M → Nat)
    (step : ∀ (rec1 : Int → Int → Int → tp_M → tp_O) (rec2 : Int → Int → Int → Int → tp_M → tp_O) (a0 a1 a2 : Int) (M1 : tp_M) (c0 c1 c2 c3 : Int) (M2 : tp_M), Inv a0 a1 a2 M1 c0 c1 c2 c3 M2 → (∀ (e0 e1 e2 : Int) (N1 : tp_M) (g0 g1 g2 g3 : Int) (N2 : tp_M), Inv e0 e1 e2 N1 g0 g1 g2 g3 N2 → mu e0 e1 e2 N1 g0 g1 g2 g3 N2 < mu a0 a1 a2 M1 c0 c1 c2 c3 M2 → wp2 (rec1 e0 e1 e2 N1) (rec2 g0 g1 g2 g3 N2) Q) → wp2 (body1 rec1 a0 a1 a2 M1) (body2 rec2 c0 c1 c2 c3 M2) Q) :
    ∀ (n1 n2 : Nat) (a0 a1 a2 : Int) (M1 : tp_M) (c0 c1 c2 c3 : Int) (M2 : tp_M), Inv a0 a1 a2 M1 c0 c1 c2 c3 M2 → mu a0 a1 a2 M1 c0 c1 c2 c3 M2 < n1 → mu a0 a1 a2 M1 c0 c1 c2 c3 M2 < n2 → wp2 (tp_lp3 body1 n1 a0 a1 a2 M1) (tp_lp4 body2 n2 c0 c1 c2 c3 M2) Q := by
  intro n1
  induction n1 with
  | zero => intro n2 a0 a1 a2 M1 c0 c1 c2 c3 M2 _ h; omega
  | succ n1 ih =>
    intro n2 a0 a1 a2 M1 c0 c1 c2 c3 M2 hI hm hm2
    cases n2 with
    | zero => omega
    | succ n2 =>
      rw [tp_lp3_s, tp_lp4_s]
      exact step _ _ a0 a1 a2 M1 c0 c1 c2 c3 M2 hI (fun e0 e1 e2 N1 g0 g1 g2 g3 N2 h1 h2 => ih n2 e0 e1 e2 N1 g0 g1 g2 g3 N2 h1 (by omega) (by omega))
theorem wp2_lp40 {body1 : (Int → Int → Int → Int → tp_M → tp_O) → Int → Int → Int → Int → tp_M → tp_O} {body2 : (tp_M → tp_O) → tp_M → tp_O} {Q : Int → tp_M → Int → tp_M → Prop} (Inv : Int → Int → Int → Int → tp_M → tp_M → Prop) (mu : Int → Int → Int → Int → tp_M → tp_M → Nat)
    (step : ∀ (rec1 : Int → Int → Int → Int → tp_M → tp_O) (rec2 : tp_M → tp_O) (a0 a1 a2 a3 : Int) (M1 : tp_M) (M2 : tp_M), Inv a0 a1 a2 a3 M1  M2 → (∀ (e0 e1 e2 e3 : Int) (N1 : tp_M) (N2 : tp_M), Inv e0 e1 e2 e3 N1  N2 → mu e0 e1 e2 e3 N1  N2 < mu a0 a1 a2 a3 M1  M2 → wp2 (rec1 e0 e1 e2 e3 N1) (rec2  N2) Q) → wp2 (body1 rec1 a0 a1 a2 a3 M1) (body2 rec2  M2) Q) :
    ∀ (n1 n2 : Nat) (a0 a1 a2 a3 : Int) (M1 : tp_M) (M2 : tp_M), Inv a0 a1 a2 a3 M1  M2 → mu a0 a1 a2 a3 M1  M2 < n1 → mu a0 a1 a2 a3 M1  M2 < n2 → wp2 (tp_lp4 body1 n1 a0 a1 a2 a3 M1) (tp_lp0 body2 n2  M2) Q := by
  intro n1
  induction n1 with
  | zero => intro n2 a0 a1 a2 a3 M1  M2 _ h; omega
  | succ n1 ih =>
    intro n2 a0 a1 a2 a3 M1  M2 hI hm hm2
    cases n2 with
    | zero => omega
    | succ n2 =>
      rw [tp_lp4_s, tp_lp0_s]
      exact step _ _ a0 a1 a2 a3 M1  M2 hI (fun e0 e1 e2 e3 N1  N2 h1 h2 => ih n2 e0 e1 e2 e3 N1  N2 h1 (by omega) (by omega))
theorem wp2_lp41 {body1 : (Int → Int → Int → Int → tp_M → tp_O) → Int → Int → Int → Int → tp_M → tp_O} {body2 : (Int → tp_M → tp_O) → Int → tp_M → tp_O} {Q : Int → tp_M → Int → tp_M → Prop} (Inv : Int → Int → Int → Int → tp_M → Int → tp_M → Prop) (mu : Int → Int → Int → Int → tp_M → Int → tp_M → Nat)
    (step : ∀ (rec1 : Int → Int → Int → Int → tp_M → tp_O) (rec2 : Int → tp_M → tp_O) (a0 a1 a2 a3 : Int) (M1 : tp_M) (c0 : Int) (M2 : tp_M), Inv a0 a1 a2 a3 M1 c0 M2 → (∀ (e0 e1 e2 e3 : Int) (N1 : tp_M) (g0 : Int) (N2 : tp_M), Inv e0 e1 e2 e3 N1 g0 N2 → mu e0 e1 e2 e3 N1 g0 N2 < mu a0 a1 a2 a3 M1 c0 M2 → wp2 (rec1 e0 e1 e2 e3 N1) (rec2 g0 N2) Q) → wp2 (body1 rec1 a0 a1 a2 a3 M1) (body2 rec2 c0 M2) Q) :
    ∀ (n1 n2 : Nat) (a0 a1 a2 a3 : Int) (M1 : tp_M) (c0 : Int) (M2 : tp_M), Inv a0 a1 a2 a3 M1 c0 M2 → mu a0 a1 a2 a3 M1 c0 M2 < n1 → mu a0 a1 a2 a3 M1 c0 M2 < n2 → wp2 (tp_lp4 body1 n1 a0 a1 a2 a3 M1) (tp_lp1 body2 n2 c0 M2) Q := by
  intro n1
  induction n1 with
  | zero => intro n2 a0 a1 a2 a3 M1 c0 M2 _ h; omega
  | succ n1 ih =>
    intro n2 a0 a1 a2 a3 M1 c0 M2 hI hm hm2
    cases n2 with
    | zero => omega
    | succ n2 =>
      rw [tp_lp4_s, tp_lp1_s]
      exact step _ _ a0 a1 a2 a3 M1 c0 M2 hI (fun e0 e1 e2 e3 N1 g0 N2 h1 h2 => ih n2 e0 e1 e2 e3 N1 g0 N2 h1 (by omega) (by omega))
theorem wp2_lp42 {body1 : (Int → Int → Int → Int → tp_M → tp_O) → Int → Int → Int → Int → tp_M → tp_O} {body2 : (Int → Int → tp_M → tp_O) → Int → Int → tp_M → tp_O} {Q : Int → tp_M → Int → tp_M → Prop} (Inv : Int → Int → Int → Int → tp_M → Int → Int → tp_M → Prop) (mu : Int → Int → Int → Int → tp_M → Int → Int → tp_M → Nat)
    (step : ∀ (rec1 : Int → Int → Int → Int → tp_M → tp_O) (rec2 : Int → Int → tp_M → tp_O) (a0 a1 a2 a3 : Int) (M1 : tp_M) (c0 c1 : Int) (M2 : tp_M), Inv a0 a1 a2 a3 M1 c0 c1 M2 → (∀ (e0 e1 e2 e3 : Int) (N1 : tp_M) (g0 g1 : Int) (N2 : tp_M), Inv e0 e1 e2 e3 N1 g0 g1 N2 → mu e0 e1 e2 e3 N1 g0 g1 N2 < mu a0 a1 a2 a3 M1 c0 c1 M2 → wp2 (rec1 e0 e1 e2 e3 N1) (rec2 g0 g1 N2) Q) → wp2 (body1 rec1 a0 a1 a2 a3 M1) (body2 rec2 c0 c1 M2) Q) :
    ∀ (n1 n2 : Nat) (a0 a1 a2 a3 : Int) (M1 : tp_M) (c0 c1 : Int) (M2 : tp_M), Inv a0 a1 a2 a3 M1 c0 c1 M2 → mu a0 a1 a2 a3 M1 c0 c1 M2 < n1 → mu a0 a1 a2 a3 M1 c0 c1 M2 < n2 → wp2 (tp_lp4 body1 n1 a0 a1 a2 a3 M1) (tp_lp2 body2 n2 c0 c1 M2) Q := by
  intro n1
  induction n1 with
  | zero => intro n2 a0 a1 a2 a3 M1 c0 c1 M2 _ h; omega
  | succ n1 ih =>
    intro n2 a0 a1 a2 a3 M1 c0 c1 M2 hI hm hm2
    cases n2 with
    | zero => omega
    | succ n2 =>
      rw [tp_lp4_s, tp_lp2_s]
      exact step _ _ a0 a1 a2 a3 M1 c0 c1 M2 hI (fun e0 e1 e2 e3 N1 g0 g1 N2 h1 h2 => ih n2 e0 e1 e2 e3 N1 g0 g1 N2 h1 (by omega) (by omega))
theorem wp2_lp43 {body1 : (Int → Int → Int → Int → tp_M → tp_O) → Int → Int → Int → Int → tp_M → tp_O} {body2 : (Int → Int → Int → tp_M → tp_O) → Int → Int → Int → tp_M → tp_O} {Q : Int → tp_M → Int → tp_M → Prop} (Inv : Int → Int → Int → Int → tp_M → Int → Int → Int → tp_M → Prop) (mu : Int → Int → Int → Int → tp_M → Int → Int → Int → tp_M → Nat)
    (step : ∀ (rec1 : Int → Int → Int → Int → tp_M → tp_O) (rec2 : Int → Int → Int → tp_M → tp_O) (a0 a1 a2 a3 : Int) (M1 : tp_M) (c0 c1 c2 : Int) (M2 : tp_M), Inv a0 a1 a2 a3 M1 c0 c1 c2 M2 → (∀ (e0 e1 e2 e3 : Int) (N1 : tp_M) (g0 g1 g2 : Int) (N2 : tp_M), Inv e0 e1 e2 e3 N1 g0 g1 g2 N2 → mu e0 e1 e2 e3 N1 g0 g1 g2 N2 < mu a0 a1 a2 a3 M1 c0 c1 c2 M2 → wp2 (rec1 e0 e1 e2 e3 N1) (rec2 g0 g1 g2 N2) Q) → wp2 (body1 rec1 a0 a1 a2 a3 M1) (body2 rec2 c0 c1 c2 M2) Q) :
    ∀ (n1 n2 : Nat) (a0 a1 a2 a3 : Int) (M1 : tp_M) (c0 c1 c2 : Int) (M2 : tp_M), Inv a0 a1 a2 a3 M1 c0 c1 c2 M2 → mu a0 a1 a2 a3 M1 c0 c1 c2 M2 < n1 → mu a0 a1 a2 a3 M1 c0 c1 c2 M2 < n2 → wp2 (tp_lp4 body1 n1 a0 a1 a2 a3 M1) (tp_lp3 body2 n2 c0 c1 c2 M2) Q := by
  intro n1
  induction n1 with
  | zero => intro n2 a0 a1 a2 a3 M1 c0 c1 c2 M2 _ h; omega
  | succ n1 ih =>
    intro n2 a0 a1 a2 a3 M1 c0 c1 c2 M2 hI hm hm2
    cases n2 with
    | zero => omega
    | succ n2 =>
      rw [tp_lp4_s, tp_lp3_s]
      exact step _ _ a0 a1 a2 a3 M1 c0 c1 c2 M2 hI (fun e0 e1 e2 e3 N1 g0 g1 g2 N2 h1 h2 => ih n2 e0 e1 e2 e3 N1 g0 g1 g2 N2 h1 (by omega) (by omega))
theorem wp2_lp44 {body1 : (Int → Int → Int → Int → tp_M → tp_O) → Int → Int → Int → Int → tp_M → tp_O} {body2 : (Int → Int → Int → Int → tp_M → tp_O) → Int → Int → Int → Int → tp_M → tp_O} {Q : Int → tp_M → Int → tp_M → Prop} (Inv : Int → Int → Int → Int → tp_M → Int → Int → Int → Int → tp_M → Prop) (mu : Int → Int → Int → Int → tp_M → Int → Int → Int → Int → tp_M → Nat)
    (step : ∀ (rec1 : Int → Int → Int → Int → tp_M → tp_O) (rec2 : Int → Int → Int → Int → tp_M → tp_O) (a0 a1 a2 a3 : Int) (M1 : tp_M) (c0 c1 c2 c3 : Int) (M2 : tp_M), Inv a0 a1 a2 a3 M1 c0 c1 c2 c3 M2 → (∀ (e0 e1 e2 e3 : Int) (N1 : tp_M) (g0 g1 g2 g3 : Int) (N2 : tp_M), Inv e0 e1 e2 e3 N1 g0 g1 g2 g3 N2 → mu e0 e1 e2 e3 N1 g0 g1 g2 g3 N2 < mu a0 a1 a2 a3 M1 c0 c1 c2 c3 M2 → wp2 (rec1 e0 e1 e2 e3 N1) (rec2 g0 g1 g2 g3 N2) Q) → wp2 (body1 rec1 a0 a1 a2 a3 M1) (body2 rec2 c0 c1 c2 c3 M2) Q) :
    ∀ (n1 n2 : Nat) (a0 a1 a2 a3 : Int) (M1 : tp_M) (c0 c1 c2 c3 : Int) (M2 : tp_M), Inv a0 a1 a2 a3 M1 c0 c1 c2 c3 M2 → mu a0 a1 a2 a3 M1 c0 c1 c2 c3 M2 < n1 → mu a0 a1 a2 a3 M1 c0 c1 c2 c3 M2 < n2 → wp2 (tp_lp4 body1 n1 a0 a1 a2 a3 M1) (tp_lp4 body2 n2 c0 c1 c2 c3 M2) Q := by
  intro n1
  induction n1 with
  | zero => intro n2 a0 a1 a2 a3 M1 c0 c1 c2 c3 M2 _ h; omega
  | succ n1 ih =>
    intro n2 a0 a1 a2 a3 M1 c0 c1 c2 c3 M2 hI hm hm2
    cases n2 with
    | zero => omega
    | succ n2 =>
      rw [tp_lp4_s, tp_lp4_s]
      exact step _ _ a0 a1 a2 a3 M1 c0 c1 c2 c3 M2 hI (fun e0 e1 e2 e3 N1 g0 g1 g2 g3 N2 h1 h2 => ih n2 e0 e1 e2 e3 N1 g0 g1 g2 g3 N2 h1 (by omega) (by omega))
