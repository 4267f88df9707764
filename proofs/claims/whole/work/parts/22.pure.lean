/-! PURE ROWS over the methods' functions: evaluation, loops, what stays -/
theorem tp_ck_t {i n : Int} {o : tp_O} (h : 0 ≤ i ∧ i < n) : tp_ck i n o = o := if_pos h
theorem tp_nz_t {b : Int} {o : tp_O} (h : ¬ b = 0) : tp_nz b o = o := if_neg h
theorem tp_gd_t {c : Prop} {hc : Decidable c} {o : tp_O} (h : c) : tp_gd c hc o = o := if_pos h
theorem tp_bd_s (r : Int) (M : tp_M) (k : Int → tp_M → tp_O) : tp_bd (some (r, M)) k = k r M := rfl
theorem tp_lt_s (a : Int) (k : Int → tp_O) : tp_lt a k = k a := rfl
theorem tp_lm_s (M : tp_M) (k : tp_M → tp_O) : tp_lm M k = k M := rfl
theorem tp_jn0_s (k : tp_M → tp_O) (b : (tp_M → tp_O) → tp_O) : tp_jn0 k b = b k := rfl
theorem tp_jn1_s (k : Int → tp_M → tp_O) (b : (Int → tp_M → tp_O) → tp_O) : tp_jn1 k b = b k := rfl
theorem tp_jn2_s (k : Int → Int → tp_M → tp_O) (b : (Int → Int → tp_M → tp_O) → tp_O) : tp_jn2 k b = b k := rfl
theorem tp_jn3_s (k : Int → Int → Int → tp_M → tp_O) (b : (Int → Int → Int → tp_M → tp_O) → tp_O) : tp_jn3 k b = b k := rfl
theorem tp_F_pos {m : Nat} (h : m < 100000000) : m < tp_F := h
/-- memory: read behind a write -/
theorem up_rd (M : tp_M) (k k2 : Nat) (j j2 x : Int) : tp_up M k j x k2 j2 = if k2 = k ∧ j2 = j then x else M k2 j2 := rfl
theorem up_s (M : tp_M) (k : Nat) (j x : Int) : tp_up M k j x k j = x := if_pos ⟨rfl, rfl⟩
theorem up_k (M : tp_M) {k k2 : Nat} (j x : Int) (h : ¬ k2 = k) : tp_up M k j x k2 = M k2 := by
  funext j2; exact if_neg (fun q => h q.1)
theorem up_j (M : tp_M) (k : Nat) {j j2 : Int} (x : Int) (h : ¬ j2 = j) : tp_up M k j x k j2 = M k j2 := if_neg (fun q => h q.2)
theorem up_c (M : tp_M) (k : Nat) (j j2 x : Int) : tp_up M k j x k j2 = if j2 = j then x else M k j2 := by
  unfold tp_up; by_cases h : j2 = j <;> simp [h]
theorem cp_k (M : tp_M) (ks : Nat) (sp : Int) {kd k2 : Nat} (dp n : Int) (h : ¬ k2 = kd) : tp_cp M ks sp kd dp n k2 = M k2 := by
  funext j2; exact if_neg (fun q => h q.1)
theorem cp_c (M : tp_M) (ks : Nat) (sp : Int) (kd : Nat) (dp n j : Int) : tp_cp M ks sp kd dp n kd j = if dp ≤ j ∧ j < dp + n then M ks (sp + (j - dp)) else M kd j := by
  unfold tp_cp; by_cases h : dp ≤ j ∧ j < dp + n <;> simp [h]
/-- all cells but these stay -/
def tp_fr (S : List Nat) (M M1 : tp_M) : Prop := ∀ c, c ∉ S → M1 c = M c
theorem fr_rf {S : List Nat} {M : tp_M} : tp_fr S M M := fun _ _ => rfl
theorem fr_up {S : List Nat} {M M1 : tp_M} {k : Nat} {j x : Int} (h : tp_fr S M M1) (hk : k ∈ S) : tp_fr S M (tp_up M1 k j x) := fun c hc => by
  rw [up_k _ _ _ (fun q : c = k => hc (by rw [q]; exact hk))]; exact h c hc
theorem fr_cp {S : List Nat} {M M1 : tp_M} {k ks : Nat} {sp dp n : Int} (h : tp_fr S M M1) (hk : k ∈ S) : tp_fr S M (tp_cp M1 ks sp k dp n) := fun c hc => by
  rw [cp_k _ _ _ _ _ (fun q : c = k => hc (by rw [q]; exact hk))]; exact h c hc
theorem fr_tr {S : List Nat} {M M1 M2 : tp_M} (h : tp_fr S M M1) (h2 : tp_fr S M1 M2) : tp_fr S M M2 := fun c hc => (h2 c hc).trans (h c hc)
theorem fr_mono {S T : List Nat} {M M1 : tp_M} (h : tp_fr S M M1) (hs : ∀ c ∈ S, c ∈ T) : tp_fr T M M1 := fun c hc => h c (fun q => hc (hs c q))
/-- o comes to an end in Q -/
def wp (o : tp_O) (Q : Int → tp_M → Prop) : Prop := ∃ (r : Int) (M : tp_M), o = some (r, M) ∧ Q r M
theorem wp_some {r : Int} {M : tp_M} {Q : Int → tp_M → Prop} (h : Q r M) : wp (some (r, M)) Q := ⟨r, M, rfl, h⟩
theorem wp_lt {a : Int} {k : Int → tp_O} {Q : Int → tp_M → Prop} (h : wp (k a) Q) : wp (tp_lt a k) Q := h
theorem wp_lm {M : tp_M} {k : tp_M → tp_O} {Q : Int → tp_M → Prop} (h : wp (k M) Q) : wp (tp_lm M k) Q := h
theorem wp_lmg {M : tp_M} {k : tp_M → tp_O} {Q : Int → tp_M → Prop} (h : ∀ M1 : tp_M, M1 = M → wp (k M1) Q) : wp (tp_lm M k) Q := h M rfl
theorem wp_bd {o : tp_O} {k : Int → tp_M → tp_O} {Q : Int → tp_M → Prop} (h : wp o (fun r M => wp (k r M) Q)) : wp (tp_bd o k) Q := by
  obtain ⟨r, M, rfl, h⟩ := h
  exact h
theorem wp_ck {i n : Int} {o : tp_O} {Q : Int → tp_M → Prop} (h : 0 ≤ i ∧ i < n) (k : wp o Q) : wp (tp_ck i n o) Q := by rw [tp_ck_t h]; exact k
theorem wp_nz {b : Int} {o : tp_O} {Q : Int → tp_M → Prop} (h : ¬ b = 0) (k : wp o Q) : wp (tp_nz b o) Q := by rw [tp_nz_t h]; exact k
theorem wp_gd {c : Prop} {hc : Decidable c} {o : tp_O} {Q : Int → tp_M → Prop} (h : c) (k : wp o Q) : wp (tp_gd c hc o) Q := by rw [tp_gd_t h]; exact k
theorem wp_if {c : Prop} {hc : Decidable c} {a b : tp_O} {Q : Int → tp_M → Prop} (ht : c → wp a Q) (hf : ¬ c → wp b Q) : wp (if c then a else b) Q := by
  by_cases h : c
  · rw [if_pos h]; exact ht h
  · rw [if_neg h]; exact hf h
theorem wp_t {c : Prop} {hc : Decidable c} {a b : tp_O} {Q : Int → tp_M → Prop} (h : c) (ht : wp a Q) : wp (if c then a else b) Q := by rw [if_pos h]; exact ht
theorem wp_f {c : Prop} {hc : Decidable c} {a b : tp_O} {Q : Int → tp_M → Prop} (h : ¬ c) (hf : wp b Q) : wp (if c then a else b) Q := by rw [if_neg h]; exact hf
theorem wp_mono {o : tp_O} {Q Q2 : Int → tp_M → Prop} (h : wp o Q) (hq : ∀ r M, Q r M → Q2 r M) : wp o Q2 := by
  obtain ⟨r, M, e, h⟩ := h
  exact ⟨r, M, e, hq r M h⟩
theorem wp_call {o : tp_O} {k : Int → tp_M → tp_O} {Q Q2 : Int → tp_M → Prop} (h : wp o Q) (hk : ∀ r M, Q r M → wp (k r M) Q2) : wp (tp_bd o k) Q2 := wp_bd (wp_mono h hk)
theorem wp_get {o : tp_O} {Q : Int → tp_M → Prop} (h : wp o Q) : ∃ q : Int × tp_M, o = some q ∧ Q q.1 q.2 := by
  obtain ⟨r, M, e, h⟩ := h
  exact ⟨(r, M), e, h⟩
theorem wp_jn0 {k : tp_M → tp_O} {b : (tp_M → tp_O) → tp_O} {Q : Int → tp_M → Prop} (h : wp (b k) Q) : wp (tp_jn0 k b) Q := h
theorem wp_jn1 {k : Int → tp_M → tp_O} {b : (Int → tp_M → tp_O) → tp_O} {Q : Int → tp_M → Prop} (h : wp (b k) Q) : wp (tp_jn1 k b) Q := h
theorem wp_jn2 {k : Int → Int → tp_M → tp_O} {b : (Int → Int → tp_M → tp_O) → tp_O} {Q : Int → tp_M → Prop} (h : wp (b k) Q) : wp (tp_jn2 k b) Q := h
theorem wp_jn3 {k : Int → Int → Int → tp_M → tp_O} {b : (Int → Int → Int → tp_M → tp_O) → tp_O} {Q : Int → tp_M → Prop} (h : wp (b k) Q) : wp (tp_jn3 k b) Q := h
theorem wp_jn4 {k : Int → Int → Int → Int → tp_M → tp_O} {b : (Int → Int → Int → Int → tp_M → tp_O) → tp_O} {Q : Int → tp_M → Prop} (h : wp (b k) Q) : wp (tp_jn4 k b) Q := h
theorem wp_lp0 {body : (tp_M → tp_O) → tp_M → tp_O} {Q : Int → tp_M → Prop} (Inv : tp_M → Prop) (mu : tp_M → Nat)
    (step : ∀ (rec : tp_M → tp_O) (M : tp_M), Inv  M → (∀ (M1 : tp_M), Inv  M1 → mu  M1 < mu  M → wp (rec  M1) Q) → wp (body rec  M) Q) :
    ∀ (n : Nat) (M : tp_M), Inv  M → mu  M < n → wp (tp_lp0 body n  M) Q := by
  intro n
  induction n with
  | zero => intro  M _ h; omega
  | succ n ih =>
    intro  M hI hm
    rw [tp_lp0_s]
    exact step _  M hI (fun  M1 h1 h2 => ih  M1 h1 (by omega))
theorem wp_lp1 {body : (Int → tp_M → tp_O) → Int → tp_M → tp_O} {Q : Int → tp_M → Prop} (Inv : Int → tp_M → Prop) (mu : Int → tp_M → Nat)
    (step : ∀ (rec : Int → tp_M → tp_O) (a0 : Int) (M : tp_M), Inv a0 M → (∀ (b0 : Int) (M1 : tp_M), Inv b0 M1 → mu b0 M1 < mu a0 M → wp (rec b0 M1) Q) → wp (body rec a0 M) Q) :
    ∀ (n : Nat) (a0 : Int) (M : tp_M), Inv a0 M → mu a0 M < n → wp (tp_lp1 body n a0 M) Q := by
  intro n
  induction n with
  | zero => intro a0 M _ h; omega
  | succ n ih =>
    intro a0 M hI hm
    rw [tp_lp1_s]
    exact step _ a0 M hI (fun b0 M1 h1 h2 => ih b0 M1 h1 (by omega))
theorem wp_lp2 {body : (Int → Int → tp_M → tp_O) → Int → Int → tp_M → tp_O} {Q : Int → tp_M → Prop} (Inv : Int → Int → tp_M → Prop) (mu : Int → Int → tp_M → Nat)
    (step : ∀ (rec : Int → Int → tp_M → tp_O) (a0 a1 : Int) (M : tp_M), Inv a0 a1 M → (∀ (b0 b1 : Int) (M1 : tp_M), Inv b0 b1 M1 → mu b0 b1 M1 < mu a0 a1 M → wp (rec b0 b1 M1) Q) → wp (body rec a0 a1 M) Q) :
    ∀ (n : Nat) (a0 a1 : Int) (M : tp_M), Inv a0 a1 M → mu a0 a1 M < n → wp (tp_lp2 body n a0 a1 M) Q := by
  intro n
  induction n with
  | zero => intro a0 a1 M _ h; omega
  | succ n ih =>
    intro a0 a1 M hI hm
    rw [tp_lp2_s]
    exact step _ a0 a1 M hI (fun b0 b1 M1 h1 h2 => ih b0 b1 M1 h1 (by omega))
theorem wp_lp3 {body : (Int → Int → Int → tp_M → tp_O) → Int → Int → Int → tp_M → tp_O} {Q : Int → tp_M → Prop} (Inv : Int → Int → Int → tp_M → Prop) (mu : Int → Int → Int → tp_M → Nat)
    (step : ∀ (rec : Int → Int → Int → tp_M → tp_O) (a0 a1 a2 : Int) (M : tp_M), Inv a0 a1 a2 M → (∀ (b0 b1 b2 : Int) (M1 : tp_M), Inv b0 b1 b2 M1 → mu b0 b1 b2 M1 < mu a0 a1 a2 M → wp (rec b0 b1 b2 M1) Q) → wp (body rec a0 a1 a2 M) Q) :
    ∀ (n : Nat) (a0 a1 a2 : Int) (M : tp_M), Inv a0 a1 a2 M → mu a0 a1 a2 M < n → wp (tp_lp3 body n a0 a1 a2 M) Q := by
  intro n
  induction n with
  | zero => intro a0 a1 a2 M _ h; omega
  | succ n ih =>
    intro a0 a1 a2 M hI hm
    rw [tp_lp3_s]
    exact step _ a0 a1 a2 M hI (fun b0 b1 b2 M1 h1 h2 => ih b0 b1 b2 M1 h1 (by omega))
theorem wp_lp4 {body : (Int → Int → Int → Int → tp_M → tp_O) → Int → Int → Int → Int → tp_M → tp_O} {Q : Int → tp_M → Prop} (Inv : Int → Int → Int → Int → tp_M → Prop) (mu : Int → Int → Int → Int → tp_M → Nat)
    (step : ∀ (rec : Int → Int → Int → Int → tp_M → tp_O) (a0 a1 a2 a3 : Int) (M : tp_M), Inv a0 a1 a2 a3 M → (∀ (b0 b1 b2 b3 : Int) (M1 : tp_M), Inv b0 b1 b2 b3 M1 → mu b0 b1 b2 b3 M1 < mu a0 a1 a2 a3 M → wp (rec b0 b1 b2 b3 M1) Q) → wp (body rec a0 a1 a2 a3 M) Q) :
    ∀ (n : Nat) (a0 a1 a2 a3 : Int) (M : tp_M), Inv a0 a1 a2 a3 M → mu a0 a1 a2 a3 M < n → wp (tp_lp4 body n a0 a1 a2 a3 M) Q := by
  intro n
  induction n with
  | zero => intro a0 a1 a2 a3 M _ h; omega
  | succ n ih =>
    intro a0 a1 a2 a3 M hI hm
    rw [tp_lp4_s]
    exact step _ a0 a1 a2 a3 M hI (fun b0 b1 b2 b3 M1 h1 h2 => ih b0 b1 b2 b3 M1 h1 (by omega))
theorem wp_lp5 {body : (Int → Int → Int → Int → Int → tp_M → tp_O) → Int → Int → Int → Int → Int → tp_M → tp_O} {Q : Int → tp_M → Prop} (Inv : Int → Int → Int → Int → Int → tp_M → Prop) (mu : Int → Int → Int → Int → Int → tp_M → Nat)
    (step : ∀ (rec : Int → Int → Int → Int → Int → tp_M → tp_O) (a0 a1 a2 a3 a4 : Int) (M : tp_M), Inv a0 a1 a2 a3 a4 M → (∀ (b0 b1 b2 b3 b4 : Int) (M1 : tp_M), Inv b0 b1 b2 b3 b4 M1 → mu b0 b1 b2 b3 b4 M1 < mu a0 a1 a2 a3 a4 M → wp (rec b0 b1 b2 b3 b4 M1) Q) → wp (body rec a0 a1 a2 a3 a4 M) Q) :
    ∀ (n : Nat) (a0 a1 a2 a3 a4 : Int) (M : tp_M), Inv a0 a1 a2 a3 a4 M → mu a0 a1 a2 a3 a4 M < n → wp (tp_lp5 body n a0 a1 a2 a3 a4 M) Q := by
  intro n
  induction n with
  | zero => intro a0 a1 a2 a3 a4 M _ h; omega
  | succ n ih =>
    intro a0 a1 a2 a3 a4 M hI hm
    rw [tp_lp5_s]
    exact step _ a0 a1 a2 a3 a4 M hI (fun b0 b1 b2 b3 b4 M1 h1 h2 => ih b0 b1 b2 b3 b4 M1 h1 (by omega))
theorem wp_lp6 {body : (Int → Int → Int → Int → Int → Int → tp_M → tp_O) → Int → Int → Int → Int → Int → Int → tp_M → tp_O} {Q : Int → tp_M → Prop} (Inv : Int → Int → Int → Int → Int → Int → tp_M → Prop) (mu : Int → Int → Int → Int → Int → Int → tp_M → Nat)
    (step : ∀ (rec : Int → Int → Int → Int → Int → Int → tp_M → tp_O) (a0 a1 a2 a3 a4 a5 : Int) (M : tp_M), Inv a0 a1 a2 a3 a4 a5 M → (∀ (b0 b1 b2 b3 b4 b5 : Int) (M1 : tp_M), Inv b0 b1 b2 b3 b4 b5 M1 → mu b0 b1 b2 b3 b4 b5 M1 < mu a0 a1 a2 a3 a4 a5 M → wp (rec b0 b1 b2 b3 b4 b5 M1) Q) → wp (body rec a0 a1 a2 a3 a4 a5 M) Q) :
    ∀ (n : Nat) (a0 a1 a2 a3 a4 a5 : Int) (M : tp_M), Inv a0 a1 a2 a3 a4 a5 M → mu a0 a1 a2 a3 a4 a5 M < n → wp (tp_lp6 body n a0 a1 a2 a3 a4 a5 M) Q := by
  intro n
  induction n with
  | zero => intro a0 a1 a2 a3 a4 a5 M _ h; omega
  | succ n ih =>
    intro a0 a1 a2 a3 a4 a5 M hI hm
    rw [tp_lp6_s]
    exact step _ a0 a1 a2 a3 a4 a5 M hI (fun b0 b1 b2 b3 b4 b5 M1 h1 h2 => ih b0 b1 b2 b3 b4 b5 M1 h1 (by omega))
theorem wp_lp7 {body : (Int → Int → Int → Int → Int → Int → Int → tp_M → tp_O) → Int → Int → Int → Int → Int → Int → Int → tp_M → tp_O} {Q : Int → tp_M → Prop} (Inv : Int → Int → Int → Int → Int → Int → Int → tp_M → Prop) (mu : Int → Int → Int → Int → Int → Int → Int → tp_M → Nat)
    (step : ∀ (rec : Int → Int → Int → Int → Int → Int → Int → tp_M → tp_O) (a0 a1 a2 a3 a4 a5 a6 : Int) (M : tp_M), Inv a0 a1 a2 a3 a4 a5 a6 M → (∀ (b0 b1 b2 b3 b4 b5 b6 : Int) (M1 : tp_M), Inv b0 b1 b2 b3 b4 b5 b6 M1 → mu b0 b1 b2 b3 b4 b5 b6 M1 < mu a0 a1 a2 a3 a4 a5 a6 M → wp (rec b0 b1 b2 b3 b4 b5 b6 M1) Q) → wp (body rec a0 a1 a2 a3 a4 a5 a6 M) Q) :
    ∀ (n : Nat) (a0 a1 a2 a3 a4 a5 a6 : Int) (M : tp_M), Inv a0 a1 a2 a3 a4 a5 a6 M → mu a0 a1 a2 a3 a4 a5 a6 M < n → wp (tp_lp7 body n a0 a1 a2 a3 a4 a5 a6 M) Q := by
  intro n
  induction n with
  | zero => intro a0 a1 a2 a3 a4 a5 a6 M _ h; omega
  | succ n ih =>
    intro a0 a1 a2 a3 a4 a5 a6 M hI hm
    rw [tp_lp7_s]
    exact step _ a0 a1 a2 a3 a4 a5 a6 M hI (fun b0 b1 b2 b3 b4 b5 b6 M1 h1 h2 => ih b0 b1 b2 b3 b4 b5 b6 M1 h1 (by omega))
/-! bit operations as arithmetic -/
theorem w32_s (x : Int32) : w32 x.toInt = x.toInt := by rw [← w32_eq, w32_of]
theorem x_and_w (a b : Int) : w32 (x_and a b) = x_and a b := w32_s _
theorem x_or_w (a b : Int) : w32 (x_or a b) = x_or a b := w32_s _
theorem x_shl_w (a b : Int) : w32 (x_shl a b) = x_shl a b := w32_s _
theorem x_shr_w (a b : Int) : w32 (x_shr a b) = x_shr a b := w32_s _
theorem x_ushr_w (a b : Int) : w32 (x_ushr a b) = x_ushr a b := w32_s _
theorem x_and_cm (a b : Int) : x_and a b = x_and b a := by unfold x_and; rw [Int32.and_comm]
theorem x_or_cm (a b : Int) : x_or a b = x_or b a := by unfold x_or; rw [Int32.or_comm]
theorem w32_md (a : Int) : w32 a % 4294967296 = a % 4294967296 := by unfold w32; omega
theorem bv_nat (a : Int) : (BitVec.ofInt 32 a).toNat = (a % 4294967296).toNat := by rw [BitVec.toNat_ofInt]; rfl
theorem x_and_mask (a : Int) (k : Nat) (hk : k < 32) : x_and a ((2 ^ k - 1 : Nat) : Int) = a % ((2 ^ k : Nat) : Int) := by
  have h2 : (2 ^ k : Nat) ≤ 2 ^ 31 := Nat.pow_le_pow_right (by decide) (by omega)
  have h31 : (2 ^ 31 : Nat) = 2147483648 := by decide
  have hp : 0 < (2 ^ k : Nat) := Nat.two_pow_pos k
  have hm : a % ((2 ^ k : Nat) : Int) = w32 (a % ((2 ^ k : Nat) : Int)) := by
    rw [w32_id]
    have h3 := Int.emod_nonneg a (show ((2 ^ k : Nat) : Int) ≠ 0 by omega)
    have h4 := Int.emod_lt_of_pos a (show (0 : Int) < ((2 ^ k : Nat) : Int) by omega)
    omega
  rw [hm, ← w32_eq]
  unfold x_and
  congr 1
  rw [← Int32.toBitVec_inj]
  simp only [Int32.toBitVec_and, Int32.toBitVec_ofInt]
  apply BitVec.eq_of_toNat_eq
  rw [BitVec.toNat_and, bv_nat, bv_nat, bv_nat]
  have e1 : (((2 ^ k - 1 : Nat) : Int) % 4294967296).toNat = 2 ^ k - 1 := by omega
  rw [e1, Nat.and_two_pow_sub_one_eq_mod]
  have h3 := Int.emod_nonneg a (show ((2 ^ k : Nat) : Int) ≠ 0 by omega)
  have h4 := Int.emod_lt_of_pos a (show (0 : Int) < ((2 ^ k : Nat) : Int) by omega)
  have e2 : (a % ((2 ^ k : Nat) : Int)) % 4294967296 = a % ((2 ^ k : Nat) : Int) := by omega
  rw [e2]
  have hd : ((2 ^ k : Nat) : Int) ∣ 4294967296 := by
    have : (2 ^ k : Nat) ∣ 2 ^ 32 := Nat.pow_dvd_pow 2 (by omega)
    exact Int.natCast_dvd_natCast.mpr this
  have e3 : (a % 4294967296) % ((2 ^ k : Nat) : Int) = a % ((2 ^ k : Nat) : Int) := Int.emod_emod_of_dvd a hd
  have h5 := Int.emod_nonneg a (show (4294967296 : Int) ≠ 0 by omega)
  rw [← e3]
  rw [Int.toNat_emod h5 (by omega)]
  rfl
theorem x_bk {b : Int} {k : Nat} (hb : b = (k : Int)) (hk : k < 32) : (Int32.ofInt b).toBitVec.toNat % 32 = k := by
  rw [Int32.toBitVec_ofInt, bv_nat]
  omega
theorem x_shr_eq (a : Int) {b : Int} (k : Nat) (hb : b = (k : Int)) (hk : k < 32) : x_shr a b = w32 a / ((2 ^ k : Nat) : Int) := by
  unfold x_shr
  rw [Jvm.RoadKit.c_ishr _ _ k (x_bk hb hk), w32_eq]
theorem x_shl_eq (a : Int) {b : Int} (k : Nat) (hb : b = (k : Int)) (hk : k < 32) : x_shl a b = w32 (a * ((2 ^ k : Nat) : Int)) := by
  have h := Jvm.RoadKit.c_ishl (Int32.ofInt a) (Int32.ofInt b) k (x_bk hb hk)
  rw [← x_shl_w]
  have h2 : ((w32 a - a) * ((2 ^ k : Nat) : Int)) % 4294967296 = 0 := by
    have h3 : (w32 a - a) % 4294967296 = 0 := by unfold w32; omega
    rw [Int.mul_emod, h3, Int.zero_mul]
    rfl
  rw [w32_eq] at h
  have h4 : x_shl a b = (Int32.ofInt a <<< (Int32.ofInt b &&& 31)).toInt := rfl
  rw [← h4] at h
  rw [Int.sub_mul] at h2
  generalize a * ((2 ^ k : Nat) : Int) = p at *
  generalize w32 a * ((2 ^ k : Nat) : Int) = q at *
  unfold w32
  omega
theorem x_ushr_eq (a : Int) {b : Int} (k : Nat) (hb : b = (k : Int)) (hk : k < 32) (h0 : 0 < k) : x_ushr a b = (a % 4294967296) / ((2 ^ k : Nat) : Int) := by
  have e : ((Int32.ofInt b).toUInt32 &&& Int32.toUInt32 31) = (Int32.ofInt b &&& 31).toUInt32 := by first | rfl | simp
  unfold x_ushr
  rw [e, Jvm.RoadKit.c_iushr _ _ k (x_bk hb hk) h0, w32_eq, w32_md]
theorem x_nn {a : Int} (h : 0 ≤ a ∧ a < 2147483648) : (Int32.ofInt a).toBitVec.toNat = a.toNat := by
  rw [Int32.toBitVec_ofInt, bv_nat]
  omega
theorem x_of_nat {x : Int32} {n : Nat} (h : x.toBitVec.toNat = n) (hn : n < 2147483648) : x.toInt = (n : Int) := by
  show x.toBitVec.toInt = _
  rw [BitVec.toInt_eq_toNat_cond, h, if_pos (by omega)]
theorem x_and_nn {a b : Int} (ha : 0 ≤ a ∧ a < 2147483648) (hb : 0 ≤ b ∧ b < 2147483648) : x_and a b = ((a.toNat &&& b.toNat : Nat) : Int) := by
  refine x_of_nat ?_ (Nat.lt_of_le_of_lt Nat.and_le_left (by omega))
  rw [Int32.toBitVec_and, BitVec.toNat_and, x_nn ha, x_nn hb]
theorem x_or_nn {a b : Int} (ha : 0 ≤ a ∧ a < 2147483648) (hb : 0 ≤ b ∧ b < 2147483648) : x_or a b = ((a.toNat ||| b.toNat : Nat) : Int) := by
  refine x_of_nat ?_ (show a.toNat ||| b.toNat < 2 ^ 31 from Nat.or_lt_two_pow (by omega) (by omega))
  rw [Int32.toBitVec_or, BitVec.toNat_or, x_nn ha, x_nn hb]
theorem x_one (k : Nat) (hk : k < 31) : x_shl 1 (k : Int) = ((2 ^ k : Nat) : Int) := by
  rw [x_shl_eq 1 k rfl (by omega), Int.one_mul, w32_id]
  have h2 : (2 ^ k : Nat) ≤ 2 ^ 30 := Nat.pow_le_pow_right (by decide) (by omega)
  have h30 : (2 ^ 30 : Nat) = 1073741824 := by decide
  have h5 : 0 < (2 ^ k : Nat) := Nat.two_pow_pos k
  omega
theorem x_and_255 (a : Int) : x_and a 255 = a % 256 := x_and_mask a 8 (by decide)
