/-! RULE: the reader, sign by sign -/
def rs_str (c : Int) : Int := if c = 2042 then 3 else if c = 2043 then 2 else if c = 2045 then 2 else if c = 2047 then 3 else if c = 2060 then 1 else if c = 2061 then 1 else if c = 2062 then 1 else if c = 3000 then 4 else 0
abbrev rs_let (c : Int) : Prop := c = 99 ∨ c = 100 ∨ c = 104 ∨ c = 105 ∨ c = 107 ∨ c = 110 ∨ c = 119
/-- out, wait, cmp, digs, wants -/
abbrev RS : Type := List Int × List Int × List Int × Int × Bool
def rs_pops (k : Int) : List Int → List Int → List Int × List Int
  | out, [] => (out, [])
  | out, x :: w => if rs_str x < k then (out, x :: w) else rs_pops k (x :: out) w
def rs_dig (o : List Int) (d c : Int) (s : RS) : Option RS := match o with
  | x :: o => some ⟨(x * 10 + (c - 48)) :: o, s.2.1, s.2.2.1, d + 1, false⟩
  | [] => none
def rs_op (s : RS) (k c : Int) (cmp : List Int) : RS := ⟨(rs_pops k s.1 s.2.1).1, (2000 + c) :: (rs_pops k s.1 s.2.1).2, cmp, 0, true⟩
def rs_step (s : RS) (c : Int) : Option RS :=
  if s.2.2.2.2 = true then
    if c = 45 then some ⟨s.1, 3000 :: s.2.1, s.2.2.1, s.2.2.2.1, true⟩
    else if c = 40 then (if s.2.2.1.length < 5 then some ⟨s.1, 3001 :: s.2.1, 0 :: s.2.2.1, s.2.2.2.1, true⟩ else none)
    else if 48 ≤ c ∧ c ≤ 57 then some ⟨(c - 48) :: s.1, s.2.1, s.2.2.1, 1, false⟩
    else if rs_let c then some ⟨(1000 + c) :: s.1, s.2.1, s.2.2.1, 0, false⟩ else none
  else if 48 ≤ c ∧ c ≤ 57 then (if 1 ≤ s.2.2.2.1 ∧ s.2.2.2.1 ≤ 2 then rs_dig s.1 s.2.2.2.1 c s else none)
  else if c = 41 then (if s.2.2.1.length = 1 then none else some ⟨(rs_pops 1 s.1 s.2.1).1, (rs_pops 1 s.1 s.2.1).2.tail, s.2.2.1.tail, 0, false⟩)
  else if rs_str (2000 + c) = 0 then none
  else if rs_str (2000 + c) = 1 then (if s.2.2.1.head? = some 1 then none else some (rs_op s 1 c (1 :: s.2.2.1.tail)))
  else some (rs_op s (rs_str (2000 + c)) c s.2.2.1)
/-- a row of numbers from the bottom up, the list's head on top -/
def stk (f : Int → Int) : List Int → Prop
  | [] => True
  | x :: l => f (l.length : Int) = x ∧ stk f l
theorem stk_cg {f g : Int → Int} : ∀ {l : List Int}, stk f l → (∀ j : Int, 0 ≤ j → j < (l.length : Int) → g j = f j) → stk g l := by
  intro l
  induction l with
  | nil => intro _ _; trivial
  | cons x l ih =>
    intro h hj
    simp only [List.length_cons] at hj
    exact ⟨by rw [hj _ (by omega) (by omega)]; exact h.1, ih h.2 (fun j j1 j2 => hj j j1 (by omega))⟩
theorem stk_up {M : tp_M} {k : Nat} {l : List Int} {j x : Int} (h : stk (M k) l) (hj : j = (l.length : Int)) : stk (tp_up M k j x k) (x :: l) := by
  refine ⟨by rw [hj, up_s], stk_cg h (fun i i1 i2 => by rw [up_j _ _ _ (by omega)])⟩
theorem stk_k {M M1 : tp_M} {k : Nat} {l : List Int} (h : stk (M k) l) (e : M1 k = M k) : stk (M1 k) l := by rw [e]; exact h
theorem pops_len (k : Int) : ∀ (w out : List Int), (rs_pops k out w).1.length + (rs_pops k out w).2.length = out.length + w.length := by
  intro w
  induction w with
  | nil => intro out; rfl
  | cons x w ih =>
    intro out
    unfold rs_pops
    by_cases h : rs_str x < k
    · rw [if_pos h]
    · rw [if_neg h, ih]
      simp only [List.length_cons]
      omega
theorem pops_mem (k : Int) : ∀ (w out : List Int) (x : Int), x ∈ (rs_pops k out w).2 → x ∈ w := by
  intro w
  induction w with
  | nil => intro out x h; exact h
  | cons y w ih =>
    intro out x h
    unfold rs_pops at h
    by_cases hy : rs_str y < k
    · rw [if_pos hy] at h; exact h
    · rw [if_neg hy] at h; exact List.mem_cons_of_mem _ (ih _ _ h)
theorem pops_stk {f : Int → Int} (k : Int) : ∀ (w out : List Int), stk f w → stk f (rs_pops k out w).2 := by
  intro w
  induction w with
  | nil => intro out h; exact h
  | cons y w ih =>
    intro out h
    unfold rs_pops
    by_cases hy : rs_str y < k
    · rw [if_pos hy]; exact h
    · rw [if_neg hy]; exact ih _ h.2
theorem cs_strength {c : Int} (hc : 0 ≤ c ∧ c < 4000) (M : tp_M) : fx_X9_strengthOf c M = some (rs_str c, M) := by
  unfold fx_X9_strengthOf rs_str
  rw [w32_id (by omega)]
  repeat' split
  all_goals first | rfl | (exfalso; omega)
theorem rs_str_in (c : Int) : 0 ≤ rs_str c ∧ rs_str c ≤ 4 := by
  unfold rs_str
  repeat' split
  all_goals omega
theorem cs_emit {C : tp_M} {l : List Int} (x : Int) (h4 : C 20 4 = (l.length : Int)) (hl : l.length < 40) : fx_X9_emit 20 x C = some (0, tp_up (tp_up C 21 (l.length : Int) x) 20 4 ((l.length : Int) + 1)) := by
  unfold fx_X9_emit
  rw [h4, w32_id (by omega), if_pos (by omega), tp_ck_t (by omega), tp_lm_s, up_k _ _ _ (by decide), h4, tp_lm_s]
theorem cs_hold {C : tp_M} {l : List Int} (x : Int) (h5 : C 20 5 = (l.length : Int)) (hl : l.length < 40) : fx_X9_hold 20 x C = some (0, tp_up (tp_up C 22 (l.length : Int) x) 20 5 ((l.length : Int) + 1)) := by
  unfold fx_X9_hold
  rw [h5, w32_id (by omega), if_pos (by omega), tp_ck_t (by omega), tp_lm_s, up_k _ _ _ (by decide), h5, tp_lm_s]
/-- the fields 4 and 5 aside -/
def rs_f45 (C C1 : tp_M) : Prop := ∀ j : Int, ¬ j = 4 → ¬ j = 5 → C1 20 j = C 20 j
theorem cs_pops {k : Int} (hk : 1 ≤ k ∧ k ≤ 3) : ∀ (w out : List Int) (n : Nat) (C : tp_M), C 20 4 = (out.length : Int) → stk (C 21) out → C 20 5 = (w.length : Int) → stk (C 22) w → out.length + w.length ≤ 40 → (∀ x ∈ w, 0 ≤ x ∧ x < 4000) → w.length < n →
    wp (tp_lp0 (fx_X9_emitWaiting_L0 20 k) n C) (fun _ C1 => tp_fr [20, 21] C C1 ∧ rs_f45 C C1 ∧ C1 20 4 = ((rs_pops k out w).1.length : Int) ∧ stk (C1 21) (rs_pops k out w).1 ∧ C1 20 5 = ((rs_pops k out w).2.length : Int)) := by
  intro w
  induction w with
  | nil =>
    intro out n C h4 h1 h5 h2 hl hw hn
    cases n with
    | zero => simp at hn
    | succ n =>
      rw [tp_lp0_s]
      unfold fx_X9_emitWaiting_L0
      rw [h5, if_pos (by show w32 0 ≤ 0; decide)]
      exact wp_some ⟨fr_rf, fun _ _ _ => rfl, h4, h1, h5⟩
  | cons x w ih =>
    intro out n C h4 h1 h5 h2 hl hw hn
    cases n with
    | zero => simp at hn
    | succ n =>
      simp only [List.length_cons] at h5 hl hn
      have hx := hw x (List.mem_cons_self ..)
      rw [tp_lp0_s]
      generalize hR : tp_lp0 (fx_X9_emitWaiting_L0 20 k) n = R
      unfold fx_X9_emitWaiting_L0
      rw [h5, w32_id (show -2147483648 ≤ ((w.length + 1 : Nat) : Int) ∧ ((w.length + 1 : Nat) : Int) < 2147483648 by omega), if_neg (by omega), w32_id (show -2147483648 ≤ ((w.length + 1 : Nat) : Int) - 1 ∧ ((w.length + 1 : Nat) : Int) - 1 < 2147483648 by omega), show ((w.length + 1 : Nat) : Int) - 1 = (w.length : Int) by omega, show C (20 + 2) = C 22 from rfl, h2.1]
      refine wp_ck (by omega) ?_
      rw [cs_strength hx, tp_bd_s]
      have hs := rs_str_in x
      rw [w32_id (show -2147483648 ≤ rs_str x ∧ rs_str x < 2147483648 by omega), w32_id (show -2147483648 ≤ k ∧ k < 2147483648 by omega)]
      unfold rs_pops
      by_cases hlt : rs_str x < k
      · rw [if_pos hlt, if_pos hlt]
        refine wp_some ⟨fr_rf, fun _ _ _ => rfl, h4, h1, ?_⟩
        simp only [List.length_cons]
        exact h5
      · rw [if_neg hlt, if_neg hlt]
        refine wp_lm ?_
        have e5 : tp_up C 20 5 (C 20 5 - 1) 20 5 = (w.length : Int) := by rw [up_s, h5]; omega
        rw [h5, show ((w.length + 1 : Nat) : Int) - 1 = (w.length : Int) by omega] at e5 ⊢
        rw [e5, w32_id (show -2147483648 ≤ (w.length : Int) ∧ (w.length : Int) < 2147483648 by omega)]
        refine wp_ck (by omega) ?_
        rw [show tp_up C 20 5 (w.length : Int) (20 + 2) = C 22 from up_k _ _ _ (by decide), h2.1]
        rw [cs_emit (l := out) x (by rw [up_j _ _ _ (by decide)]; exact h4) (by omega), tp_bd_s, ← hR]
        refine wp_mono (ih (x :: out) n _ (by rw [up_s]; simp only [List.length_cons]; omega) ?_ ?_ ?_ (by simp only [List.length_cons]; omega) (fun y hy => hw y (List.mem_cons_of_mem _ hy)) (by omega)) (fun _ C1 q => ?_)
        · rw [up_k _ _ _ (by decide)]
          refine stk_up (stk_k h1 (up_k _ _ _ (by decide))) rfl
        · rw [up_j _ _ _ (by decide), up_k _ _ _ (by decide), up_s]
        · rw [up_k _ _ _ (by decide), up_k _ _ _ (by decide), up_k _ _ _ (by decide)]
          exact h2.2
        · obtain ⟨q1, q2, q3, q4, q5⟩ := q
          refine ⟨fr_tr (fr_up (fr_up (fr_up fr_rf (by simp)) (by simp)) (by simp)) q1, fun j j4 j5 => ?_, q3, q4, q5⟩
          rw [q2 j j4 j5, up_j _ _ _ j4, up_k _ _ _ (by decide), up_j _ _ _ j5]
/-- the class's reader stands as S -/
def rs_C (C : tp_M) (S : RS) : Prop := C 20 4 = (S.1.length : Int) ∧ stk (C 21) S.1 ∧ C 20 5 = (S.2.1.length : Int) ∧ stk (C 22) S.2.1 ∧ C 20 6 = (S.2.2.1.length : Int) - 1 ∧ stk (C 24) S.2.2.1 ∧ C 20 7 = S.2.2.2.1 ∧ C 20 8 = if S.2.2.2.2 = true then 1 else 0
def rs_ok (p : Nat) (S : RS) : Prop := S.1.length + S.2.1.length ≤ p ∧ (1 ≤ S.2.2.1.length ∧ S.2.2.1.length ≤ 5) ∧ (∀ x ∈ S.2.1, 0 ≤ x ∧ x < 4000) ∧ (∀ x ∈ S.2.2.1, x = 0 ∨ x = 1) ∧ (0 ≤ S.2.2.2.1 ∧ S.2.2.2.1 ≤ 3)
def rs_post (o : Option RS) (p : Nat) (C : tp_M) (r : Int) (C1 : tp_M) : Prop := tp_fr [20, 21, 22, 24] C C1 ∧ (o = none → r = 0) ∧ ∀ S1, o = some S1 → r = 1 ∧ rs_C C1 S1 ∧ rs_ok (p + 1) S1
theorem cs_isDigit {c : Int} (hc : 0 ≤ c ∧ c < 256) (M : tp_M) : fx_X10_isDigit c M = some (if 48 ≤ c ∧ c ≤ 57 then 1 else 0, M) := by
  unfold fx_X10_isDigit
  rw [w32_id (by omega)]
  by_cases h : 48 ≤ c ∧ c ≤ 57
  · rw [if_pos h, if_neg (by omega), if_pos (by omega)]
  · rw [if_neg h]
    by_cases h2 : c < 48
    · rw [if_pos h2]
    · rw [if_neg h2, if_neg (by omega)]
theorem cs_isLetter {c : Int} (hc : 0 ≤ c ∧ c < 256) (M : tp_M) : fx_X9_isLetter c M = some (if rs_let c then 1 else 0, M) := by
  unfold fx_X9_isLetter
  rw [w32_id (by omega)]
  by_cases hl : rs_let c
  · rw [if_pos hl]
    unfold rs_let at hl
    rcases hl with rfl | rfl | rfl | rfl | rfl | rfl | rfl <;> rfl
  · rw [if_neg hl]
    unfold rs_let at hl
    simp only [not_or] at hl
    obtain ⟨h1, h2, h3, h4, h5, h6, h7⟩ := hl
    simp only [if_neg h1, if_neg h2, if_neg h3, if_neg h4, if_neg h5, if_neg h6, if_neg h7, ite_self]
theorem cs_takeThing {C : tp_M} {S : RS} {p : Nat} {c : Int} (h : rs_C C S) (ho : rs_ok p S) (hp : p < 40) (hc : 0 ≤ c ∧ c < 256) (hw : S.2.2.2.2 = true) : wp (fx_X9_takeThing 20 c C) (rs_post (rs_step S c) p C) := by
  obtain ⟨h4, h21, h5, h22, h6, h24, h7, h8⟩ := h
  obtain ⟨o1, o2, o3, o4, o5⟩ := ho
  obtain ⟨out, wait, cmp, digs, wants⟩ := S
  simp only at *
  subst hw
  unfold fx_X9_takeThing rs_step
  simp only [if_true]
  rw [w32_id (show -2147483648 ≤ c ∧ c < 2147483648 by omega)]
  by_cases c45 : c = 45
  · rw [if_pos c45, if_pos c45, cs_hold (l := wait) 3000 h5 (by omega), tp_bd_s]
    refine wp_some ⟨fr_up (fr_up fr_rf (by simp)) (by simp), fun q => (by cases q), fun S1 e => ?_⟩
    cases e
    refine ⟨rfl, ⟨?_, ?_, ?_, ?_, ?_, ?_, ?_, ?_⟩, ⟨?_, o2, ?_, o4, o5⟩⟩
    · rw [up_j _ _ _ (by decide), up_k _ _ _ (by decide)]; exact h4
    · rw [up_k _ _ _ (by decide), up_k _ _ _ (by decide)]; exact h21
    · rw [up_s]; simp only [List.length_cons]; omega
    · rw [up_k _ _ _ (by decide)]; exact stk_up h22 rfl
    · rw [up_j _ _ _ (by decide), up_k _ _ _ (by decide)]; exact h6
    · rw [up_k _ _ _ (by decide), up_k _ _ _ (by decide)]; exact h24
    · rw [up_j _ _ _ (by decide), up_k _ _ _ (by decide)]; exact h7
    · rw [up_j _ _ _ (by decide), up_k _ _ _ (by decide)]; exact h8
    · simp only [List.length_cons]; omega
    · intro x hx
      rcases List.mem_cons.mp hx with rfl | hx
      · omega
      · exact o3 x hx
  · rw [if_neg c45, if_neg c45]
    by_cases c40 : c = 40
    · rw [if_pos c40, if_pos c40, h6, w32_id (show -2147483648 ≤ (cmp.length : Int) - 1 ∧ (cmp.length : Int) - 1 < 2147483648 by omega)]
      by_cases hd : cmp.length < 5
      · rw [if_pos hd, if_pos (by omega)]
        refine wp_lm ?_
        rw [up_s, w32_id (show -2147483648 ≤ (cmp.length : Int) - 1 + 1 ∧ (cmp.length : Int) - 1 + 1 < 2147483648 by omega), show (cmp.length : Int) - 1 + 1 = (cmp.length : Int) by omega]
        refine wp_ck (by omega) ?_
        refine wp_lm ?_
        rw [cs_hold (l := wait) 3001 (by rw [up_k _ _ _ (by decide), up_j _ _ _ (by decide)]; exact h5) (by omega), tp_bd_s]
        refine wp_some ⟨fr_up (fr_up (fr_up (fr_up fr_rf (by simp)) (by simp)) (by simp)) (by simp), fun q => (by cases q), fun S1 e => ?_⟩
        cases e
        refine ⟨rfl, ⟨?_, ?_, ?_, ?_, ?_, ?_, ?_, ?_⟩, ⟨?_, ?_, ?_, ?_, o5⟩⟩
        · simp (disch := omega) only [up_j, up_k]; exact h4
        · simp (disch := omega) only [up_j, up_k]; exact h21
        · rw [up_s]; simp only [List.length_cons]; omega
        · rw [up_k _ _ _ (by decide)]
          refine stk_up (stk_k h22 ?_) rfl
          simp (disch := omega) only [up_j, up_k]
        · simp (disch := omega) only [up_j, up_k]
          rw [up_s]; simp only [List.length_cons]; omega
        · rw [up_k _ _ _ (by decide), up_k _ _ _ (by decide)]
          refine stk_up (stk_k h24 (up_k _ _ _ (by decide))) rfl
        · simp (disch := omega) only [up_j, up_k]; exact h7
        · simp (disch := omega) only [up_j, up_k]; exact h8
        · simp only [List.length_cons]; omega
        · simp only [List.length_cons]; omega
        · intro x hx
          rcases List.mem_cons.mp hx with rfl | hx
          · omega
          · exact o3 x hx
        · intro x hx
          rcases List.mem_cons.mp hx with rfl | hx
          · omega
          · exact o4 x hx
      · rw [if_neg hd, if_neg (by omega)]
        exact wp_some ⟨fr_rf, fun _ => rfl, fun S1 e => by cases e⟩
    · rw [if_neg c40, if_neg c40, cs_isDigit hc, tp_bd_s]
      refine wp_lt ?_
      refine wp_jn0 ?_
      have fin : ∀ (x d : Int), (0 ≤ d ∧ d ≤ 1) → rs_post (some ⟨x :: out, wait, cmp, d, false⟩) p C 1 (tp_up (tp_up (tp_up (tp_up C 21 (out.length : Int) x) 20 4 ((out.length : Int) + 1)) 20 7 d) 20 8 0) := fun x d hd => by
        refine ⟨fr_up (fr_up (fr_up (fr_up fr_rf (by simp)) (by simp)) (by simp)) (by simp), fun q => (by cases q), fun S1 e => ?_⟩
        cases e
        refine ⟨rfl, ⟨?_, ?_, ?_, ?_, ?_, ?_, ?_, ?_⟩, ⟨?_, o2, o3, o4, by simp only; omega⟩⟩
        · simp (disch := omega) only [up_j, up_k, up_s]
          simp only [List.length_cons]; omega
        · simp (disch := omega) only [up_j, up_k]
          exact stk_up h21 rfl
        · simp (disch := omega) only [up_j, up_k]; exact h5
        · simp (disch := omega) only [up_j, up_k]; exact h22
        · simp (disch := omega) only [up_j, up_k]; exact h6
        · simp (disch := omega) only [up_j, up_k]; exact h24
        · simp (disch := omega) only [up_j, up_k, up_s]
        · rw [up_s]; rfl
        · simp only [List.length_cons]; omega
      by_cases cd : 48 ≤ c ∧ c ≤ 57
      · rw [if_pos cd, if_pos cd, if_neg (show ¬ w32 1 = 0 by decide)]
        refine wp_jn1 ?_
        rw [if_neg (show ¬ w32 1 = 0 by decide)]; (try dsimp only); rw [cs_emit (l := out) _ h4 (by omega), tp_bd_s, if_neg (show ¬ w32 1 = 0 by decide)]
        refine wp_lm ?_
        refine wp_lm ?_
        exact wp_some (fin _ 1 (by omega))
      · rw [if_neg cd, if_neg cd, if_pos (show w32 0 = 0 by decide), cs_isLetter hc, tp_bd_s]
        by_cases cl : rs_let c
        · rw [if_pos cl, if_pos cl, if_neg (show ¬ w32 1 = 0 by decide)]
          refine wp_jn1 ?_
          rw [if_pos (show w32 0 = 0 by decide)]; (try dsimp only); rw [cs_emit (l := out) _ h4 (by omega), tp_bd_s, if_pos (show w32 0 = 0 by decide)]
          refine wp_lm ?_
          refine wp_lm ?_
          exact wp_some (fin _ 0 (by omega))
        · rw [if_neg cl, if_neg cl, if_pos (show w32 0 = 0 by decide)]
          exact wp_some ⟨fr_rf, fun _ => rfl, fun S1 e => by cases e⟩
theorem cs_takeNext {C : tp_M} {S : RS} {p : Nat} {c : Int} (h : rs_C C S) (ho : rs_ok p S) (hp : p < 40) (hc : 0 ≤ c ∧ c < 256) (hw : S.2.2.2.2 = false) : wp (fx_X9_takeNext 20 c C) (rs_post (rs_step S c) p C) := by
  obtain ⟨h4, h21, h5, h22, h6, h24, h7, h8⟩ := h
  obtain ⟨o1, o2, o3, o4, o5⟩ := ho
  obtain ⟨out, wait, cmp, digs, wants⟩ := S
  simp only at *
  subst hw
  unfold fx_X9_takeNext rs_step
  simp only [Bool.false_eq_true, if_false]
  rw [cs_isDigit hc, tp_bd_s]
  by_cases cd : 48 ≤ c ∧ c ≤ 57
  · rw [if_pos cd, if_pos cd, if_neg (show ¬ w32 1 = 0 by decide)]
    unfold fx_X9_takeDigit
    rw [h7, w32_id (show -2147483648 ≤ digs ∧ digs < 2147483648 by omega)]
    by_cases hd : 1 ≤ digs ∧ digs ≤ 2
    · rw [if_pos hd, if_neg (by omega), if_pos hd.2, h4, w32_id (show -2147483648 ≤ (out.length : Int) ∧ (out.length : Int) < 2147483648 by omega)]
      cases out with
      | nil =>
        rw [if_pos (by simp), tp_bd_s]
        refine wp_gd (by decide) (wp_some ⟨fr_rf, fun _ => rfl, fun S1 e => by cases e⟩)
      | cons x o =>
        simp only [List.length_cons] at *
        rw [if_neg (by omega), w32_id (show -2147483648 ≤ ((o.length + 1 : Nat) : Int) - 1 ∧ ((o.length + 1 : Nat) : Int) - 1 < 2147483648 by omega), show ((o.length + 1 : Nat) : Int) - 1 = (o.length : Int) by omega, tp_ck_t (by omega), tp_ck_t (by omega), tp_lm_s, up_k _ _ _ (by decide), h7, tp_lm_s, tp_bd_s, show C (20 + 1) = C 21 from rfl, h21.1]
        refine wp_gd (by decide) (wp_some ⟨fr_up (fr_up fr_rf (by simp)) (by simp), fun q => (by cases q), fun S1 e => ?_⟩)
        cases e
        refine ⟨rfl, ⟨?_, ?_, ?_, ?_, ?_, ?_, ?_, ?_⟩, ⟨by simp only [List.length_cons]; omega, o2, o3, o4, by simp only; omega⟩⟩
        · simp (disch := omega) only [up_j, up_k]
          simp only [List.length_cons]; exact h4
        · rw [up_k _ _ _ (by decide)]
          exact stk_up h21.2 rfl
        · simp (disch := omega) only [up_j, up_k]; exact h5
        · simp (disch := omega) only [up_j, up_k]; exact h22
        · simp (disch := omega) only [up_j, up_k]; exact h6
        · simp (disch := omega) only [up_j, up_k]; exact h24
        · rw [up_s]
        · simp (disch := omega) only [up_j, up_k]; exact h8
    · rw [if_neg hd]
      have e : ∀ o : tp_O, (if digs < 1 then some (0, C) else if digs ≤ 2 then o else some (0, C)) = some ((0 : Int), C) := fun o => by
        by_cases q : digs < 1
        · rw [if_pos q]
        · rw [if_neg q, if_neg (by omega)]
      rw [e, tp_bd_s]
      refine wp_gd (by decide) (wp_some ⟨fr_rf, fun _ => rfl, fun S1 e => by cases e⟩)
  · rw [if_neg cd, if_neg cd, if_pos (show w32 0 = 0 by decide), w32_id (show -2147483648 ≤ c ∧ c < 2147483648 by omega)]
    refine wp_lm ?_
    have hf (j : Int) (hj : ¬ j = 7) : tp_up C 20 7 0 20 j = C 20 j := up_j _ _ _ hj
    have hfk (k : Nat) (hk : ¬ k = 20) : tp_up C 20 7 0 k = C k := up_k _ _ _ hk
    have hpop : ∀ (k : Int), (1 ≤ k ∧ k ≤ 3) → ∀ C2 : tp_M, C2 20 4 = (out.length : Int) → stk (C2 21) out → C2 20 5 = (wait.length : Int) → stk (C2 22) wait → wp (fx_X9_emitWaiting 20 k C2) _ := fun k hk C2 q1 q2 q3 q4 => cs_pops hk wait out tp_F C2 q1 q2 q3 q4 (by omega) o3 (tp_F_pos (by omega))
    have hlen (k : Int) := pops_len k wait out
    have hmem (k : Int) := pops_mem k wait out
    have hstk (k : Int) (C2 : tp_M) := pops_stk (f := C2 22) k wait out
    by_cases c41 : c = 41
    · rw [if_pos c41, if_pos c41, hf 6 (by decide), h6, w32_id (show -2147483648 ≤ (cmp.length : Int) - 1 ∧ (cmp.length : Int) - 1 < 2147483648 by omega)]
      by_cases hd : cmp.length = 1
      · rw [if_pos (by omega), if_pos hd]
        exact wp_some ⟨fr_up fr_rf (by simp), fun _ => rfl, fun S1 e => by cases e⟩
      · rw [if_neg (by omega), if_neg hd]
        refine wp_call (hpop 1 (by omega) _ (by rw [hf 4 (by decide)]; exact h4) (by rw [hfk 21 (by decide)]; exact h21) (by rw [hf 5 (by decide)]; exact h5) (by rw [hfk 22 (by decide)]; exact h22)) (fun _ C2 q => ?_)
        obtain ⟨q1, q2, q3, q4, q5⟩ := q
        have s2 := hstk 1 C (h22)
        have m2 := hmem 1
        have l2 := hlen 1
        generalize hP : rs_pops 1 out wait = P at *
        obtain ⟨po, pw⟩ := P
        simp only at *
        have g6 : C2 20 6 = (cmp.length : Int) - 1 := by rw [q2 6 (by decide) (by decide), hf 6 (by decide)]; exact h6
        have g22 : C2 22 = C 22 := by rw [q1 22 (by simp), hfk 22 (by decide)]
        have g24 : C2 24 = C 24 := by rw [q1 24 (by simp), hfk 24 (by decide)]
        have g7 : C2 20 7 = 0 := by rw [q2 7 (by decide) (by decide), up_s]
        have g8 : C2 20 8 = 0 := by rw [q2 8 (by decide) (by decide), hf 8 (by decide)]; exact h8
        rw [q5, w32_id (show -2147483648 ≤ (pw.length : Int) ∧ (pw.length : Int) < 2147483648 by omega)]
        have cmpl : cmp.tail.length = cmp.length - 1 := List.length_tail
        have cmps : stk (C 24) cmp.tail := by
          cases cmp with
          | nil => exact h24
          | cons y cmp => exact h24.2
        have oo4 : ∀ x ∈ cmp.tail, x = 0 ∨ x = 1 := fun x hx => o4 x (List.mem_of_mem_tail hx)
        have oo3 : ∀ x ∈ pw.tail, 0 ≤ x ∧ x < 4000 := fun x hx => o3 x (m2 x (List.mem_of_mem_tail hx))
        have pwl : pw.tail.length = pw.length - 1 := List.length_tail
        have fC2 : tp_fr [20, 21, 22, 24] C C2 := fr_tr (fr_up fr_rf (by simp)) (fr_mono q1 (by simp))
        by_cases hw0 : (pw.length : Int) ≤ 0
        · rw [if_pos hw0]
          refine wp_lm ?_
          rw [g6]
          refine wp_some ⟨fr_up fC2 (by simp), fun q => (by cases q), fun S1 e => ?_⟩
          cases e
          refine ⟨rfl, ⟨?_, ?_, ?_, ?_, ?_, ?_, ?_, ?_⟩, ⟨by simp only; omega, by simp only; omega, oo3, oo4, by simp only; omega⟩⟩
          · rw [up_j _ _ _ (by decide)]; exact q3
          · rw [up_k _ _ _ (by decide)]; exact q4
          · rw [up_j _ _ _ (by decide), q5]; (try simp only); omega
          · rw [up_k _ _ _ (by decide), g22]
            have : pw = [] := List.eq_nil_of_length_eq_zero (by omega)
            rw [this]; trivial
          · rw [up_s]; (try simp only); omega
          · rw [up_k _ _ _ (by decide), g24]; exact cmps
          · rw [up_j _ _ _ (by decide)]; exact g7
          · rw [up_j _ _ _ (by decide)]; exact g8
        · rw [if_neg hw0]
          refine wp_lm ?_
          refine wp_lm ?_
          rw [up_j _ _ _ (by decide), g6]
          refine wp_some ⟨fr_up (fr_up fC2 (by simp)) (by simp), fun q => (by cases q), fun S1 e => ?_⟩
          cases e
          refine ⟨rfl, ⟨?_, ?_, ?_, ?_, ?_, ?_, ?_, ?_⟩, ⟨by simp only; omega, by simp only; omega, oo3, oo4, by simp only; omega⟩⟩
          · rw [up_j _ _ _ (by decide), up_j _ _ _ (by decide)]; exact q3
          · rw [up_k _ _ _ (by decide), up_k _ _ _ (by decide)]; exact q4
          · rw [up_j _ _ _ (by decide), up_s]; (try simp only); omega
          · rw [up_k _ _ _ (by decide), up_k _ _ _ (by decide), g22]
            cases pw with
            | nil => trivial
            | cons y pw => exact s2.2
          · rw [up_s]; (try simp only); omega
          · rw [up_k _ _ _ (by decide), up_k _ _ _ (by decide), g24]; exact cmps
          · rw [up_j _ _ _ (by decide), up_j _ _ _ (by decide)]; exact g7
          · rw [up_j _ _ _ (by decide), up_j _ _ _ (by decide)]; exact g8
    · rw [if_neg c41, if_neg c41, cs_strength (by omega), tp_bd_s]
      refine wp_lt ?_
      have hs := rs_str_in (2000 + c)
      have hs3 : rs_str (2000 + c) ≤ 3 := by
        unfold rs_str
        repeat' split
        all_goals omega
      generalize hk : rs_str (2000 + c) = k at *
      rw [w32_id (show -2147483648 ≤ k ∧ k < 2147483648 by omega)]
      by_cases k0 : k = 0
      · rw [if_pos k0, if_pos k0]
        exact wp_some ⟨fr_up fr_rf (by simp), fun _ => rfl, fun S1 e => by cases e⟩
      · rw [if_neg k0, if_neg k0]
        refine wp_jn0 ?_
        have fin : ∀ (C2 : tp_M) (cmp2 : List Int), tp_fr [20, 21, 22, 24] C C2 → C2 20 4 = C 20 4 → C2 20 5 = C 20 5 → C2 20 6 = C 20 6 → C2 20 7 = 0 → C2 21 = C 21 → C2 22 = C 22 → stk (C2 24) cmp2 → cmp2.length = cmp.length → (∀ x ∈ cmp2, x = 0 ∨ x = 1) → wp (tp_bd (fx_X9_emitWaiting 20 k C2) (fun r8 M9 => tp_bd (fx_X9_hold 20 (2000 + c) M9) (fun r10 M11 => tp_lm (tp_up M11 20 8 1) (fun M12 => some (1, M12))))) (rs_post (some (rs_op ⟨out, wait, cmp, digs, false⟩ k c cmp2)) p C) := fun C2 cmp2 e e4 e5 e6 e7 e21 e22 e24 el ec => by
          refine wp_call (hpop k (by omega) C2 (by rw [e4]; exact h4) (by rw [e21]; exact h21) (by rw [e5]; exact h5) (by rw [e22]; exact h22)) (fun _ C3 q => ?_)
          obtain ⟨q1, q2, q3, q4, q5⟩ := q
          have s2 := hstk k C h22
          have m2 := hmem k
          have l2 := hlen k
          unfold rs_op
          simp only
          generalize hP : rs_pops k out wait = P at *
          obtain ⟨po, pw⟩ := P
          simp only at *
          rw [cs_hold (l := pw) _ q5 (by omega), tp_bd_s]
          refine wp_lm ?_
          refine wp_some ⟨fr_up (fr_up (fr_up (fr_tr e (fr_mono q1 (by simp))) (by simp)) (by simp)) (by simp), fun q => (by cases q), fun S1 e => ?_⟩
          cases e
          refine ⟨rfl, ⟨?_, ?_, ?_, ?_, ?_, ?_, ?_, ?_⟩, ⟨by simp only [List.length_cons]; omega, by simp only; omega, fun x hx => ?_, ec, by simp only; omega⟩⟩
          · simp (disch := omega) only [up_j, up_k]; exact q3
          · simp (disch := omega) only [up_j, up_k]; exact q4
          · rw [up_j _ _ _ (by decide), up_s]; simp only [List.length_cons]; omega
          · rw [up_k _ _ _ (by decide), up_k _ _ _ (by decide)]
            refine stk_up (stk_k s2 ?_) rfl
            rw [q1 22 (by simp), e22]
          · simp (disch := omega) only [up_j, up_k]
            rw [q2 6 (by decide) (by decide), e6, h6]; (try simp only); omega
          · simp (disch := omega) only [up_j, up_k]
            rw [q1 24 (by simp)]; exact e24
          · simp (disch := omega) only [up_j, up_k]
            rw [q2 7 (by decide) (by decide), e7]
          · rw [up_s]; rfl
          · rcases List.mem_cons.mp hx with rfl | hx
            · omega
            · exact o3 x (m2 x hx)
        by_cases k1 : k = 1
        · rw [if_pos k1, if_pos k1, hf 6 (by decide), h6, w32_id (show -2147483648 ≤ (cmp.length : Int) - 1 ∧ (cmp.length : Int) - 1 < 2147483648 by omega), if_neg (by omega), if_pos (by omega)]
          cases cmp with
          | nil => simp at o2
          | cons y cmp =>
            have hy := o4 y (List.mem_cons_self ..)
            simp only [List.length_cons] at *
            have e24 : tp_up C 20 7 0 (20 + 4) (((cmp.length + 1 : Nat) : Int) - 1) = y := by
              rw [show ((cmp.length + 1 : Nat) : Int) - 1 = (cmp.length : Int) by omega, show (20 + 4) = 24 from rfl, hfk 24 (by decide)]; exact h24.1
            refine wp_ck (by omega) ?_
            rw [e24, w32_id (show -2147483648 ≤ y ∧ y < 2147483648 by omega)]
            by_cases hy0 : y = 0
            · rw [if_pos hy0, if_neg (by rw [hy0]; simp)]
              refine wp_ck (by omega) ?_
              refine wp_lm ?_
              rw [show ((cmp.length + 1 : Nat) : Int) - 1 = (cmp.length : Int) by omega]
              have := fin (tp_up (tp_up C 20 7 0) (20 + 4) (cmp.length : Int) 1) (1 :: cmp) (fr_up (fr_up fr_rf (by simp)) (by simp)) (by rw [up_k _ _ _ (by decide)]; exact hf 4 (by decide)) (by rw [up_k _ _ _ (by decide)]; exact hf 5 (by decide)) (by rw [up_k _ _ _ (by decide)]; exact hf 6 (by decide)) (by rw [up_k _ _ _ (by decide)]; exact up_s _ _ _ _) (by rw [up_k _ _ _ (by decide)]; exact hfk 21 (by decide)) (by rw [up_k _ _ _ (by decide)]; exact hfk 22 (by decide)) (stk_up (stk_k h24.2 (hfk 24 (by decide))) rfl) rfl (fun x hx => by
                rcases List.mem_cons.mp hx with rfl | hx
                · exact Or.inr rfl
                · exact o4 x (List.mem_cons_of_mem _ hx))
              rw [k1] at this
              rw [k1]
              exact this
            · have hy1 : y = 1 := by omega
              rw [if_neg hy0, if_pos (by rw [hy1]; rfl)]
              exact wp_some ⟨fr_up fr_rf (by simp), fun _ => rfl, fun S1 e => by cases e⟩
        · rw [if_neg k1, if_neg k1]
          exact fin _ cmp (fr_up fr_rf (by simp)) (hf 4 (by decide)) (hf 5 (by decide)) (hf 6 (by decide)) (up_s _ _ _ _) (hfk 21 (by decide)) (hfk 22 (by decide)) (by rw [hfk 24 (by decide)]; exact h24) rfl o4
