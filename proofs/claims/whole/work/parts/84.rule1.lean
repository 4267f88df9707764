/-! RULE: the reference's reader against it -/
theorem up_same (M : tp_M) (k : Nat) (j : Int) : tp_up M k j (M k j) = M := by
  funext k2 j2
  unfold tp_up
  by_cases h : k2 = k ∧ j2 = j
  · rw [if_pos h, h.1, h.2]
  · rw [if_neg h]
def rs_run (T : Int → Int) : Nat → Int → RS → RS → Prop
  | 0, _, S, S1 => S1 = S
  | k + 1, p, S, S2 => ∃ S1 : RS, rs_step S (T p) = some S1 ∧ rs_run T k (p + 1) S1 S2
theorem rs_run_tr {T : Int → Int} : ∀ (a b : Nat) (p : Int) (S S1 S2 : RS), rs_run T a p S S1 → rs_run T b (p + (a : Int)) S1 S2 → rs_run T (a + b) p S S2 := by
  intro a
  induction a with
  | zero =>
    intro b p S S1 S2 h h2
    have h : S1 = S := h
    subst h
    rw [Nat.zero_add]
    simpa using h2
  | succ a ih =>
    rintro b p S S1 S2 ⟨S3, h3, h4⟩ h2
    rw [show a + 1 + b = (a + b) + 1 by omega]
    exact ⟨S3, h3, ih b (p + 1) S3 S1 S2 h4 (by rw [show p + 1 + (a : Int) = p + ((a + 1 : Nat) : Int) by omega]; exact h2)⟩
theorem rs_run_1 {T : Int → Int} {p : Int} {S S1 : RS} (h : rs_step S (T p) = some S1) : rs_run T 1 p S S1 := ⟨S1, h, rfl⟩
/-- codes that can be worked, the last one first; so many numbers are left -/
def wl : List Int → Int → Prop
  | [], h => h = 0
  | x :: l, h => rc_ok x ∧ if x < 2000 then wl l (h - 1) else if x = 3000 then 1 ≤ h ∧ wl l h else 1 ≤ h ∧ wl l (h + 1)
def rs_M (M : tp_M) (K : List Int) (d p : Int) : Prop := M 0 19 = (K.length : Int) ∧ stk (M 10) (K.map rc_map) ∧ M 0 12 = d ∧ M 0 10 = p
/-- read as far as q: what waits above binds v or more, what could go on binds less than s + 1 -/
def rs_dn (T : Int → Int) (e v s : Int) (c : Prop) (p : Int) (S : RS) (q : Int) (K1 : List Int) : Prop := ∃ (k : Nat) (S1 : RS) (V : List Int), 1 ≤ k ∧ q = p + (k : Int) ∧ q ≤ e ∧ rs_run T k p S S1 ∧ S1.2.2.2.2 = false ∧ S1.2.1 = V ++ S.2.1 ∧ (∀ x ∈ V, v ≤ rs_str x) ∧ K1 = V.reverse ++ S1.1 ∧ (S1.2.2.1.tail = S.2.2.1.tail ∧ S1.2.2.1.length = S.2.2.1.length) ∧ (c → S1.2.2.1 = S.2.2.1) ∧ (q < e → 48 ≤ T q ∧ T q ≤ 57 → ¬ (1 ≤ S1.2.2.2.1 ∧ S1.2.2.2.1 ≤ 2)) ∧ (q < e → (s ≤ 2 → ¬ rs_str (2000 + T q) = 3) ∧ (s ≤ 1 → ¬ rs_str (2000 + T q) = 2) ∧ (s ≤ 0 → rs_str (2000 + T q) = 1 → S1.2.2.1.head? = some 1)) ∧ (∀ h : Int, 0 ≤ h → wl S.1 h → wl K1 (h + 1)) ∧ K1.length ≤ S.1.length + k
def rs_fl (T : Int → Int) (e p : Int) (S : RS) (q : Int) : Prop := ∃ (k : Nat) (S1 : RS), q = p + (k : Int) ∧ q ≤ e ∧ rs_run T k p S S1 ∧ ((q < e ∧ rs_step S1 (T q) = none) ∨ (q = e ∧ (S1.2.2.2.2 = true ∨ 2 ≤ S1.2.2.1.length)))
theorem rs_fl_tr {T : Int → Int} {e p q : Int} {S S1 : RS} {a : Nat} (h1 : rs_run T a p S S1) (h : rs_fl T e (p + (a : Int)) S1 q) : rs_fl T e p S q := by
  obtain ⟨k, S2, k1, k2, k3, k4⟩ := h
  exact ⟨a + k, S2, by omega, k2, rs_run_tr a k p S S1 S2 h1 k3, k4⟩
theorem pops_V {k : Int} : ∀ (V out W : List Int), (∀ x ∈ V, k ≤ rs_str x) → (∀ x, W.head? = some x → rs_str x < k) → rs_pops k out (V ++ W) = (V.reverse ++ out, W) := by
  intro V
  induction V with
  | nil =>
    intro out W _ hW
    cases W with
    | nil => rfl
    | cons y W =>
      show rs_pops k out (y :: W) = _
      unfold rs_pops
      rw [if_pos (hW y rfl)]
      rfl
  | cons x V ih =>
    intro out W hV hW
    show rs_pops k out (x :: (V ++ W)) = _
    unfold rs_pops
    have := hV x (List.mem_cons_self ..)
    rw [if_neg (by omega), ih _ _ (fun y hy => hV y (List.mem_cons_of_mem _ hy)) hW]
    simp
/-! the reference's small ones -/
section PS
variable {M : tp_M} {a e : Int}
theorem ps_takes (ha : M 0 10 = a) (he : M 0 11 = e) (h : 0 ≤ a ∧ a ≤ e ∧ e ≤ 80) (c : Int) (hc : 0 ≤ c ∧ c < 256) (hT : a < e → 0 ≤ M 6 a ∧ M 6 a < 256) : fx_X11_takes c M = if a < e ∧ M 6 a = c then some (1, tp_up M 0 10 (a + 1)) else some (0, M) := by
  have hz : tp_up M 0 10 (a + 0) = M := by
    rw [show a + 0 = M 0 10 by omega]; exact up_same M 0 10
  unfold fx_X11_takes
  rw [tp_jn1_s, tp_jn0_s]; (try dsimp only); rw [ha, he, w32_id (show -2147483648 ≤ a ∧ a < 2147483648 by omega), w32_id (show -2147483648 ≤ e ∧ e < 2147483648 by omega)]
  by_cases hl : a < e
  · have := hT hl
    rw [if_pos hl, tp_ck_t (by omega), w32_id (show -2147483648 ≤ M 6 a ∧ M 6 a < 2147483648 by omega), w32_id (show -2147483648 ≤ c ∧ c < 2147483648 by omega)]
    by_cases h2 : M 6 a = c
    · rw [if_pos h2, if_pos ⟨hl, h2⟩, tp_lt_s, pm_flag, if_neg (by decide), tp_bd_s, tp_lm_s]
      rfl
    · rw [if_neg h2, if_neg (fun q => h2 q.2), tp_lt_s, pm_flag, if_pos (by decide), tp_bd_s, tp_lm_s, hz]
      rfl
  · rw [if_neg hl, if_neg (fun q => hl q.1), tp_lt_s, pm_flag, if_pos (by decide), tp_bd_s, tp_lm_s, hz]
    rfl
theorem ps_isDigit (ha : M 0 10 = a) (he : M 0 11 = e) (h : 0 ≤ a ∧ a ≤ e ∧ e ≤ 80) (hT : a < e → 0 ≤ M 6 a ∧ M 6 a < 256) : fx_X11_isDigit M = some (if a < e ∧ 48 ≤ M 6 a ∧ M 6 a ≤ 57 then 1 else 0, M) := by
  unfold fx_X11_isDigit
  rw [ha, he, w32_id (show -2147483648 ≤ a ∧ a < 2147483648 by omega), w32_id (show -2147483648 ≤ e ∧ e < 2147483648 by omega)]
  by_cases hl : a < e
  · have := hT hl
    rw [if_pos hl, tp_ck_t (by omega), w32_id (show -2147483648 ≤ M 6 a ∧ M 6 a < 2147483648 by omega), pm_in (by unfold pu_in; omega) (by unfold pu_in; omega) (by unfold pu_in; omega), tp_bd_s]
    by_cases h2 : 48 ≤ M 6 a ∧ M 6 a ≤ 57
    · rw [if_pos h2, if_neg (by decide), if_pos ⟨hl, h2⟩]
    · rw [if_neg h2, if_pos (by decide), if_neg (fun q => h2 q.2)]
  · rw [if_neg hl, if_neg (fun q => hl q.1)]
theorem ps_codes (x : Int) {t : Int} (ht : M 0 19 = t) (h : 0 ≤ t ∧ t < 80) : fx_X11_codes x M = some (0, tp_up (tp_up M 10 t x) 0 19 (t + 1)) := by
  unfold fx_X11_codes
  rw [ht, w32_id (by omega), tp_ck_t (by omega), tp_lm_s, up_k _ _ _ (by decide), ht, tp_lm_s]
def tk_from (s : Nat) (c : Int) : Nat → Int → Int
  | 0, _ => -1
  | k + 1, z => if sx_chr s z = c then z else tk_from s c k (z + 1)
def tk (s : Nat) (c : Int) : Int := tk_from s c (tp_len.getD s 0) 0
theorem ps_takesOf (ha : M 0 10 = a) (he : M 0 11 = e) (h : 0 ≤ a ∧ a ≤ e ∧ e ≤ 80) (s : Nat) (hs : s < 5) (hT : a < e → 0 ≤ M 6 a ∧ M 6 a < 256) : fx_X11_takesOf s M = if a < e ∧ 0 ≤ tk s (M 6 a) then some (tk s (M 6 a), tp_up M 0 10 (a + 1)) else some (-1, M) := by
  have hlen : ∀ s : Nat, s < 5 → tp_len.getD s 0 ≤ 7 := by decide
  have hl7 := hlen s hs
  unfold fx_X11_takesOf tk
  rw [tp_lt_s]
  generalize hL : tp_len.getD s 0 = L at *
  have gen : ∀ (k n : Nat) (z : Int), z + (k : Int) = (L : Int) → 0 ≤ z → k < n → tp_lp1 (fx_X11_takesOf_L2 s) n z M = if a < e ∧ 0 ≤ tk_from s (M 6 a) k z then some (tk_from s (M 6 a) k z, tp_up M 0 10 (a + 1)) else some (-1, M) := by
    intro k
    induction k with
    | zero =>
      intro n z hz z0 hn
      cases n with
      | zero => omega
      | succ n =>
        rw [tp_lp1_s]
        unfold fx_X11_takesOf_L2
        rw [tp_bd_s, hL, w32_id (show -2147483648 ≤ z ∧ z < 2147483648 by omega), w32_id (show -2147483648 ≤ (L : Int) ∧ (L : Int) < 2147483648 by omega), if_neg (by omega), if_neg (fun q => by have := q.2; unfold tk_from at this; omega)]
    | succ k ih =>
      intro n z hz z0 hn
      cases n with
      | zero => omega
      | succ n =>
        rw [tp_lp1_s]
        have ihn := ih n (z + 1)
        generalize tp_lp1 (fx_X11_takesOf_L2 s) n = R at *
        unfold fx_X11_takesOf_L2
        rw [tp_bd_s, hL, w32_id (show -2147483648 ≤ z ∧ z < 2147483648 by omega), w32_id (show -2147483648 ≤ (L : Int) ∧ (L : Int) < 2147483648 by omega), if_pos (by omega), ha, he, w32_id (show -2147483648 ≤ a ∧ a < 2147483648 by omega), w32_id (show -2147483648 ≤ e ∧ e < 2147483648 by omega)]
        by_cases hl : a < e
        · have := hT hl
          rw [if_pos hl, tp_ck_t (by omega), tp_bd_s, ha, w32_id (show -2147483648 ≤ a ∧ a < 2147483648 by omega), tp_ck_t (by omega), w32_id (show -2147483648 ≤ M 6 a ∧ M 6 a < 2147483648 by omega), show w32 (sx_chr s z) = sx_chr s z from w32_s _]
          unfold tk_from
          by_cases hc : sx_chr s z = M 6 a
          · rw [if_pos hc, if_pos hc, tp_lm_s, if_pos ⟨hl, z0⟩]
          · rw [if_neg hc, if_neg hc, tp_lt_s]
            exact ihn (by omega) (by omega) (by omega)
        · rw [if_neg hl, if_neg (fun q => hl q.1)]
  exact gen L tp_F 0 (by omega) (by omega) (tp_F_pos (by omega))
end PS
theorem tk_1 (c : Int) : tk 1 c = if 100 = c then 0 else if 107 = c then 1 else if 119 = c then 2 else if 99 = c then 3 else if 105 = c then 4 else if 104 = c then 5 else if 110 = c then 6 else -1 := by
  have e0 : sx_chr 1 0 = 100 := by decide +kernel
  have e1 : sx_chr 1 (0 + 1) = 107 := by decide +kernel
  have e2 : sx_chr 1 (0 + 1 + 1) = 119 := by decide +kernel
  have e3 : sx_chr 1 (0 + 1 + 1 + 1) = 99 := by decide +kernel
  have e4 : sx_chr 1 (0 + 1 + 1 + 1 + 1) = 105 := by decide +kernel
  have e5 : sx_chr 1 (0 + 1 + 1 + 1 + 1 + 1) = 104 := by decide +kernel
  have e6 : sx_chr 1 (0 + 1 + 1 + 1 + 1 + 1 + 1) = 110 := by decide +kernel
  show tk_from 1 c 7 0 = _
  unfold tk_from tk_from tk_from tk_from tk_from tk_from tk_from tk_from
  rw [e0, e1, e2, e3, e4, e5, e6]
  rfl
theorem tk_2 (c : Int) : tk 2 c = if 60 = c then 0 else if 62 = c then 1 else if 61 = c then 2 else -1 := by
  have e0 : sx_chr 2 0 = 60 := by decide +kernel
  have e1 : sx_chr 2 (0 + 1) = 62 := by decide +kernel
  have e2 : sx_chr 2 (0 + 1 + 1) = 61 := by decide +kernel
  show tk_from 2 c 3 0 = _
  unfold tk_from tk_from tk_from tk_from
  rw [e0, e1, e2]
  rfl
theorem tk_3 (c : Int) : tk 3 c = if 43 = c then 0 else if 45 = c then 1 else -1 := by
  have e0 : sx_chr 3 0 = 43 := by decide +kernel
  have e1 : sx_chr 3 (0 + 1) = 45 := by decide +kernel
  show tk_from 3 c 2 0 = _
  unfold tk_from tk_from tk_from
  rw [e0, e1]
  rfl
theorem tk_4 (c : Int) : tk 4 c = if 42 = c then 0 else if 47 = c then 1 else -1 := by
  have e0 : sx_chr 4 0 = 42 := by decide +kernel
  have e1 : sx_chr 4 (0 + 1) = 47 := by decide +kernel
  show tk_from 4 c 2 0 = _
  unfold tk_from tk_from tk_from
  rw [e0, e1]
  rfl
/-- letters -/
theorem tk_let {c : Int} (hc : 0 ≤ c ∧ c < 256) : (0 ≤ tk 1 c ↔ rs_let c) ∧ (rs_let c → rc_map (1000 + c) = 1000 + tk 1 c ∧ rc_ok (1000 + c) ∧ -2147483648 ≤ tk 1 c ∧ tk 1 c < 7) ∧ -1 ≤ tk 1 c ∧ tk 1 c < 7 := by
  rw [tk_1]
  refine ⟨?_, fun hl => ?_, ?_⟩
  · show _ ↔ (c = 99 ∨ c = 100 ∨ c = 104 ∨ c = 105 ∨ c = 107 ∨ c = 110 ∨ c = 119)
    repeat' split
    all_goals omega
  · unfold rs_let at hl
    rcases hl with rfl | rfl | rfl | rfl | rfl | rfl | rfl <;> exact ⟨by decide, by unfold rc_ok; omega, by decide, by decide⟩
  · repeat' split
    all_goals omega
/-- what joins, of rank r -/
theorem tk_op {c r : Int} (hc : 0 ≤ c ∧ c < 256) (hr : r = 0 ∨ r = 1 ∨ r = 2) : (0 ≤ tk (2 + r.toNat) c ↔ rs_str (2000 + c) = r + 1) ∧ (rs_str (2000 + c) = r + 1 → rc_map (2000 + c) = 2000 + tk (2 + r.toNat) c + (if r = 0 then 0 else if r = 1 then 3 else 5) ∧ rc_ok (2000 + c) ∧ ¬ (48 ≤ c ∧ c ≤ 57) ∧ ¬ c = 41) ∧ -1 ≤ tk (2 + r.toNat) c ∧ tk (2 + r.toNat) c < 7 := by
  have hst : rs_str (2000 + c) = if c = 42 ∨ c = 47 then 3 else if c = 43 ∨ c = 45 then 2 else if c = 60 ∨ c = 61 ∨ c = 62 then 1 else 0 := by
    unfold rs_str
    repeat' split
    all_goals omega
  rw [hst]
  rcases hr with rfl | rfl | rfl
  · show (0 ≤ tk 2 c ↔ _) ∧ (_ → rc_map (2000 + c) = 2000 + tk 2 c + _ ∧ _) ∧ -1 ≤ tk 2 c ∧ tk 2 c < 7
    rw [tk_2]
    refine ⟨?_, fun h => ?_, ?_⟩
    · repeat' split
      all_goals omega
    · have h3 : c = 60 ∨ c = 61 ∨ c = 62 := by
        by_cases q : c = 60 ∨ c = 61 ∨ c = 62
        · exact q
        · exfalso
          repeat' split at h
          all_goals omega
      rcases h3 with rfl | rfl | rfl <;> exact ⟨by decide, by unfold rc_ok; omega, by omega, by omega⟩
    · repeat' split
      all_goals omega
  · show (0 ≤ tk 3 c ↔ _) ∧ (_ → rc_map (2000 + c) = 2000 + tk 3 c + _ ∧ _) ∧ -1 ≤ tk 3 c ∧ tk 3 c < 7
    rw [tk_3]
    refine ⟨?_, fun h => ?_, ?_⟩
    · repeat' split
      all_goals omega
    · have h3 : c = 43 ∨ c = 45 := by
        by_cases q : c = 43 ∨ c = 45
        · exact q
        · exfalso
          repeat' split at h
          all_goals omega
      rcases h3 with rfl | rfl <;> exact ⟨by decide, by unfold rc_ok; omega, by omega, by omega⟩
    · repeat' split
      all_goals omega
  · show (0 ≤ tk 4 c ↔ _) ∧ (_ → rc_map (2000 + c) = 2000 + tk 4 c + _ ∧ _) ∧ -1 ≤ tk 4 c ∧ tk 4 c < 7
    rw [tk_4]
    refine ⟨?_, fun h => ?_, ?_⟩
    · repeat' split
      all_goals omega
    · have h3 : c = 42 ∨ c = 47 := by
        by_cases q : c = 42 ∨ c = 47
        · exact q
        · exfalso
          repeat' split at h
          all_goals omega
      rcases h3 with rfl | rfl <;> exact ⟨by decide, by unfold rc_ok; omega, by omega, by omega⟩
    · repeat' split
      all_goals omega
/-! a number -/
theorem ps_number {T : Int → Int} {e p : Int} {S : RS} {M : tp_M} (hM6 : M 6 = T) (he : M 0 11 = e) (hp : M 0 10 = p) (h : 0 ≤ p ∧ p < e ∧ e ≤ 80) (hT : ∀ j : Int, 0 ≤ j → j < e → 0 ≤ T j ∧ T j < 256) (hd : 48 ≤ T p ∧ T p ≤ 57) (hw : S.2.2.2.2 = true) :
    wp (fx_X11_number 3 M) (fun v M1 => tp_fr [0] M M1 ∧ (∀ j : Int, ¬ j = 10 → M1 0 j = M 0 j) ∧ ∃ k : Nat, (1 ≤ k ∧ k ≤ 3) ∧ M1 0 10 = p + (k : Int) ∧ p + (k : Int) ≤ e ∧ (0 ≤ v ∧ v < 1000) ∧ rs_run T k p S (v :: S.1, S.2.1, S.2.2.1, (k : Int), false) ∧ (p + (k : Int) < e → 48 ≤ T (p + (k : Int)) ∧ T (p + (k : Int)) ≤ 57 → k = 3)) := by
  refine wp_K (fun Q hQ => ?_)
  unfold fx_X11_number
  rw [ps_isDigit hp he (by omega) (fun q => by rw [hM6]; exact hT p h.1 q), hM6, if_pos ⟨h.2.1, hd⟩, tp_bd_s, if_neg (show ¬ w32 1 = 0 by decide)]
  refine wp_lt ?_
  refine wp_lt ?_
  refine wp_lp2 (fun v z M1 => tp_fr [0] M M1 ∧ (∀ j : Int, ¬ j = 10 → M1 0 j = M 0 j) ∧ ∃ k : Nat, z = (k : Int) ∧ k ≤ 3 ∧ M1 0 10 = p + (k : Int) ∧ p + (k : Int) ≤ e ∧ ((k = 0 ∧ v = 0) ∨ (k = 1 ∧ 0 ≤ v ∧ v < 10) ∨ (k = 2 ∧ 0 ≤ v ∧ v < 100) ∨ (k = 3 ∧ 0 ≤ v ∧ v < 1000)) ∧ (1 ≤ k → rs_run T k p S (v :: S.1, S.2.1, S.2.2.1, (k : Int), false))) (fun _ z _ => (3 - z).toNat) ?_ tp_F 0 0 M ⟨fr_rf, fun _ _ => rfl, 0, rfl, by omega, by rw [hp]; simp, by simp; omega, Or.inl ⟨rfl, rfl⟩, fun q => by omega⟩ (tp_F_pos (by omega))
  rintro rec v z M1 ⟨f1, f2, k, rfl, k3, k4, k5, k6, k7⟩ hrec
  have g6 : M1 6 = T := by rw [f1 6 (by simp), hM6]
  have g11 : M1 0 11 = e := by rw [f2 11 (by decide), he]
  unfold fx_X11_number_L13
  rw [w32_id (show -2147483648 ≤ (k : Int) ∧ (k : Int) < 2147483648 by omega), show w32 3 = 3 from rfl]
  by_cases hk : (k : Int) < 3
  · rw [if_pos hk, ps_isDigit k4 g11 (by omega) (fun q => by rw [g6]; exact hT _ (by omega) q), g6, tp_bd_s]
    by_cases hdg : p + (k : Int) < e ∧ 48 ≤ T (p + (k : Int)) ∧ T (p + (k : Int)) ≤ 57
    · rw [if_pos hdg, if_neg (show ¬ w32 1 = 0 by decide), k4, w32_id (show -2147483648 ≤ p + (k : Int) ∧ p + (k : Int) < 2147483648 by omega)]
      refine wp_ck (by omega) ?_
      refine wp_lt ?_
      refine wp_lm ?_
      refine wp_lt ?_
      rw [g6]
      have hdg2 := hdg.2
      generalize hc : T (p + (k : Int)) = c at *
      refine hrec _ _ _ ⟨fr_up f1 (by simp), fun j hj => by rw [up_j _ _ _ hj]; exact f2 j hj, k + 1, by omega, by omega, by rw [up_s]; omega, by omega, by omega, fun _ => ?_⟩ (by omega)
      by_cases k0 : k = 0
      · subst k0
        have v0 : v = 0 := by omega
        subst v0
        refine rs_run_1 ?_
        have hc2 : T p = c := by rw [← hc]; simp
        unfold rs_step
        rw [if_pos hw, hc2, if_neg (by omega), if_neg (by omega), if_pos hdg2, show 10 * 0 + c - 48 = c - 48 by omega]
        rfl
      · refine rs_run_tr k 1 p S _ _ (k7 (by omega)) (rs_run_1 ?_)
        rw [hc]
        unfold rs_step
        simp only [Bool.false_eq_true, if_false]
        rw [if_pos hdg2, if_pos (by omega)]
        unfold rs_dig
        simp only
        rw [show v * 10 + (c - 48) = 10 * v + c - 48 by omega]
        rfl
    · rw [if_neg hdg, if_pos (show w32 0 = 0 by decide)]
      have k0 : 1 ≤ k := by
        refine Classical.byContradiction (fun q => hdg ?_)
        have : k = 0 := by omega
        subst this
        simp only [Int.natCast_zero, Int.add_zero]
        exact ⟨h.2.1, hd⟩
      refine wp_some (hQ _ _ ⟨f1, f2, k, by omega, k4, k5, by omega, k7 k0, fun q1 q2 => absurd ⟨q1, q2⟩ hdg⟩)
  · rw [if_neg hk]
    refine wp_some (hQ _ _ ⟨f1, f2, k, by omega, k4, k5, by omega, k7 (by omega), fun _ _ => by omega⟩)
