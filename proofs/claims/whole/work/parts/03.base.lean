/-! THE BASE: memory as a function of a cell's number and a place in it, numbers as Int; a judgement tp_J for a method's walk over such a memory -/
abbrev tp_M : Type := Nat → Int → Int
abbrev tp_O : Type := Option (Int × tp_M)
abbrev tp_K : Type := Nat × Nat × List Nat
abbrev tp_V : Type := List (Nat × Value)
def tp_up (M : tp_M) (k : Nat) (j x : Int) : tp_M := fun k' j' => if k' = k ∧ j' = j then x else M k' j'
def tp_cp (M : tp_M) (ks : Nat) (sp : Int) (kd : Nat) (dp n : Int) : tp_M := fun k j => if k = kd ∧ dp ≤ j ∧ j < dp + n then M ks (sp + (j - dp)) else M k j
def w32 (a : Int) : Int := (a + 2147483648) % 4294967296 - 2147483648
def w64 (a : Int) : Int := (a + 9223372036854775808) % 18446744073709551616 - 9223372036854775808
def vI (a : Int) : Value := .int (Int32.ofInt a)
def vL (a : Int) : Value := .long (Int64.ofInt a)
theorem w32_eq (a : Int) : (Int32.ofInt a).toInt = w32 a := by
  rw [Int32.toInt_ofInt, show Int32.size = 4294967296 from rfl, Int.bmod_def, w32]
  split <;> omega
theorem w64_eq (a : Int) : (Int64.ofInt a).toInt = w64 a := by
  rw [Int64.toInt_ofInt, show Int64.size = 18446744073709551616 from rfl, Int.bmod_def, w64]
  split <;> omega
theorem w32_id {a : Int} (h : -2147483648 ≤ a ∧ a < 2147483648) : w32 a = a := by unfold w32; omega
theorem w64_id {a : Int} (h : -9223372036854775808 ≤ a ∧ a < 9223372036854775808) : w64 a = a := by unfold w64; omega
theorem w32_in (a : Int) : -2147483648 ≤ w32 a ∧ w32 a < 2147483648 := by unfold w32; omega
theorem w64_in (a : Int) : -9223372036854775808 ≤ w64 a ∧ w64 a < 9223372036854775808 := by unfold w64; omega
theorem w32_of (x : Int32) : Int32.ofInt x.toInt = x := Int32.ofInt_toInt x
theorem w32_w (a : Int) : Int32.ofInt (w32 a) = Int32.ofInt a := by rw [← w32_eq, w32_of]
theorem w64_w (a : Int) : Int64.ofInt (w64 a) = Int64.ofInt a := by rw [← w64_eq, Int64.ofInt_toInt]
theorem vI_w (a : Int) : vI (w32 a) = vI a := by unfold vI; rw [w32_w]
theorem vL_w (a : Int) : vL (w64 a) = vL a := by unfold vL; rw [w64_w]
def tp_ck (i n : Int) (o : tp_O) : tp_O := if 0 ≤ i ∧ i < n then o else none
def tp_gd (c : Prop) (h : Decidable c) (o : tp_O) : tp_O := if c then o else none
def tp_bd (x : tp_O) (k : Int → tp_M → tp_O) : tp_O := match x with
  | some r => k r.1 r.2
  | none => none
/-- a world's cells -/
def tp_sv (b : Nat) (f : Int → Int) (j : Nat) (k : Nat) : Value := match k with
  | 0 => vI (f j)
  | 1 => vL (f j)
  | t + 2 => .ref (b + t)
def tp_sl (b : Nat) (f : Int → Int) (ks : List Nat) : List Value := ks.mapIdx (fun j k => tp_sv b f j k)
def tp_E (I : Nat → ClassId) (b : Nat) (q : tp_K) (f : Int → Int) : va_E := match q.1 with
  | 0 => .inl (I 0, q.2.1, .inl (fun j => Int32.ofInt (f j)))
  | 1 => .inl (I 1, q.2.1, .inr (.inl (fun j => Int64.ofInt (f j))))
  | 2 => .inl (I 2, q.2.1, .inl (fun j => Int32.ofInt (f j)))
  | 3 => .inl (I 3, q.2.1, .inr (.inr (.inr (.inr (fun j => some (b + (q.2.2.headD 0 + j)))))))
  | t + 4 => .inr (t, tp_sl b f q.2.2)
def tp_ws (L : Nat → tp_K) (N : Nat) (I : Nat → ClassId) (b : Nat) (M : tp_M) : va_W := (List.range N).map fun k => (b + k, tp_E I b (L k) (M k))
theorem tp_ws_at {L : Nat → tp_K} {N : Nat} {I : Nat → ClassId} {b : Nat} {M : tp_M} {k : Nat} (h : k < N) : (tp_ws L N I b M)[k]? = some (b + k, tp_E I b (L k) (M k)) := by
  simp [tp_ws, h]
theorem tp_ws_ge {L : Nat → tp_K} {N : Nat} {I : Nat → ClassId} {b : Nat} {M : tp_M} {k : Nat} {q : Nat × va_E} (h : (tp_ws L N I b M)[k]? = some q) : k < N ∧ q = (b + k, tp_E I b (L k) (M k)) := by
  by_cases hk : k < N
  · rw [tp_ws_at hk] at h
    exact ⟨hk, (Option.some.inj h).symm⟩
  · simp [tp_ws, hk] at h
theorem tp_ws_set {L : Nat → tp_K} {N : Nat} {I : Nat → ClassId} {b : Nat} {M : tp_M} {k : Nat} {j x : Int} {e : va_E} (h : k < N) (he : e = tp_E I b (L k) (fun j' => if j' = j then x else M k j')) : (tp_ws L N I b M).set k (b + k, e) = tp_ws L N I b (tp_up M k j x) := by
  apply List.ext_getElem?
  intro i
  rw [List.getElem?_set]
  by_cases hi : k = i
  · subst hi
    rw [if_pos rfl, if_pos (by simp [tp_ws, h]), tp_ws_at h, he]
    congr 3
    funext j'
    simp [tp_up]
  · rw [if_neg hi]
    by_cases hN : i < N
    · rw [tp_ws_at hN, tp_ws_at hN]
      congr 3
      funext j'
      simp only [tp_up]
      rw [if_neg (fun q => hi q.1.symm)]
    · simp [tp_ws, hN]
def tp_A (b N : Nat) : Nat → Prop := fun q => b ≤ q ∧ q < b + N
theorem tp_ws_D {L : Nat → tp_K} {N : Nat} {I : Nat → ClassId} {b : Nat} {M : tp_M} : va_D (tp_A b N) (tp_ws L N I b M) := by
  refine ⟨fun i j p q hi hj hpq => ?_, fun k q hk => ?_⟩
  · obtain ⟨-, h1⟩ := tp_ws_ge hi
    obtain ⟨-, h2⟩ := tp_ws_ge hj
    rw [h1, h2] at hpq
    simp at hpq
    exact hpq
  · obtain ⟨h0, h1⟩ := tp_ws_ge hk
    rw [h1]
    exact ⟨by simp, by simp; exact h0⟩
abbrev tp_cl : List vw_C := [(RX0, TX0, 5), (RX1, TX1, 3), (RX2, TX2, 4), (RX3, TX3, 4), (RX4, TX4, 6), (RX5, TX5, 3), (RX6, TX6, 4), (RX7, TX7, 2), (RX8, TX8, 2), (RX9, TX9, 9), (RX10, TX10, 19), (RX11, TX11, 52)]
def tp_tys (I : Nat → ClassId) : List (ClassId × FieldType) := [(I 0, .int), (I 1, .long), (I 2, .boolean), (I 3, .array .long)]
/-- the good words of the tables: every method's words -/
def tp_W : List Cond := lw_tbl.filter goodWord
theorem tp_W_good : ∀ w ∈ tp_W, goodWord w = true := fun w h => (List.mem_filter.mp h).2
theorem tp_W_of {w : Cond} (h : w ∈ tables_1) (hg : goodWord w = true) : w ∈ tp_W := List.mem_filter.mpr ⟨List.mem_append_right _ h, hg⟩
theorem tp_W_p {y : MethodName} {n : Nat} (h : (y, n) ∈ lw_privs) : Cond.selects y.cls y y ∈ tp_W := List.mem_filter.mpr ⟨List.mem_append_left _ (List.mem_map.mpr ⟨_, h, rfl⟩), rfl⟩
theorem tp_W_in {cw : Cond} (h : cw ∈ tp_W) {c0 : Cond} : GoodIn (c0 :: tp_W) (cw :: tp_W) := fun w hw => by
  have h2 : w ∈ tp_W := (List.mem_cons.mp hw).elim (fun e => e ▸ h) id
  exact ⟨List.mem_cons_of_mem _ h2, good_of_word (tp_W_good w h2)⟩
def tp_rm (dep : Nat) : Room := { frames := dep, cells := 0, slots := 0, locals := 64 * dep }
/-- launch, where classes stand, array classes, where the world begins -/
abbrev tp_X : Type := Launch × va_G × (Nat → ClassId) × (State → Prop) × Nat
def vR (X : tp_X) (k : Nat) : Value := .ref (X.2.2.2.2 + k)
def tp_isN : Cond → Bool
  | .fieldLinkNest .. => true
  | .methodLinkNest .. => true
  | _ => false
/-- the words of links between nest mates -/
def tp_NW : List Cond := tables_1.filter tp_isN
theorem tp_NW_of {w : Cond} (h : w ∈ tables_1) (hg : tp_isN w = true) : w ∈ tp_NW := List.mem_filter.mpr ⟨h, hg⟩
theorem tp_NW_warm {s U : State} (hW : s.WarmedH U.vm) (h : ∀ w ∈ tp_NW, va_Nw w s) : ∀ w ∈ tp_NW, va_Nw w U := by
  intro w hw
  have h1 := h w hw
  have h2 := (List.mem_filter.mp hw).2
  cases w <;> first | exact va_Nw.warmF hW h1 | exact va_Nw.warmM hW h1 | cases h2
/-- what the world's outside says stays as long as the outside stays -/
def tp_st (E : State → Prop) (A : Nat → Prop) : Prop := ∀ u U : State, E u → u.WarmedH U.vm → u.heap.size ≤ U.heap.size → (∀ q : Nat, q < u.heap.size → ¬ A q → U.heap[q]? = u.heap[q]?) → E U
def tp_P (X : tp_X) (L : Nat → tp_K) (N : Nat) (M : tp_M) (H : Heap) : Prop := va_P X.2.1 tp_cl (tp_ws L N X.2.2.1 X.2.2.2.2 M) H
def tp_Q (X : tp_X) (L : Nat → tp_K) (N rk : Nat) (res : Int × tp_M) : Array Value → State → Outcome → State → Prop := match rk with
  | 0 => va_Qv (fun _ : Unit => True) (fun _ t => tp_P X L N res.2 t.heap) (tp_A X.2.2.2.2 N)
  | 1 => va_Qi (fun r (_ : Unit) => r = Int32.ofInt res.1) (fun _ t => tp_P X L N res.2 t.heap) (tp_A X.2.2.2.2 N)
  | _ => va_Ql (fun r (_ : Unit) => r = Int64.ofInt res.1) (fun _ t => tp_P X L N res.2 t.heap) (tp_A X.2.2.2.2 N)
def tp_B (X : tp_X) (L : Nat → tp_K) (N : Nat) (M : tp_M) (U : State) : Prop := tp_P X L N M U.heap ∧ va_K X.2.1 tp_cl (tp_tys X.2.2.1) U ∧ (∀ w ∈ tp_NW, va_Nw w U) ∧ X.2.2.2.1 U ∧ tp_st X.2.2.2.1 (tp_A X.2.2.2.2 N)
/-- the contract of a method: from these arguments and this memory it returns res.1, with the memory res.2 -/
def tp_Ret (X : tp_X) (L : Nat → tp_K) (N rk : Nat) (y : MethodName) (cw : Cond) (dep : Nat) (av : List Value) (M : tp_M) (res : Int × tp_M) : Prop :=
  Met X.1 y (cw :: tp_W) (tp_rm dep) (va_Pc av (tp_B X L N M)) (tp_Q X L N rk res) 0 0 (tp_A X.2.2.2.2 N)
abbrev tp_Y : Type := Program × Env × State × MethodId × Array Value × List Frame × Method × Code × (Int × tp_M)
def tp_Ok (X : tp_X) (Y : tp_Y) (N : Nat) (cc : ByteArray) (nL : Nat) (own : String) (ret : Option FieldType) : Prop := match Y with
  | (p, _, s, m, args, _, meth, c, _) => p.tables.exec = Jvm.exec ∧ c.code = cc ∧ c.maxLocals = nL ∧ s.vm.findClass own = some m.cls ∧ (∀ w ∈ tp_W, w.before args s = true) ∧ va_K X.2.1 tp_cl (tp_tys X.2.2.1) s ∧ (∀ w ∈ tp_NW, va_Nw w s) ∧ X.2.2.2.1 s ∧ tp_st X.2.2.2.1 (tp_A X.2.2.2.2 N) ∧ meth.sig.returnType = ret ∧ meth.locks = false
/-- the walk: if the rest of the method comes to o, and o is what is sought, then from here the machine comes to the method's end with it -/
def tp_J (X : tp_X) (Y : tp_Y) (L : Nat → tp_K) (N nL dep rk : Nat) (o : tp_O) (M : tp_M) (lv : tp_V) (st : List Value) (pc : Nat) : Prop := match Y with
  | (p, e, s, m, args, below, meth, c, res) => o = some res → ∀ (H : Heap) (locs : List Loc) (ls : Array Slot), tp_P X L N M H → va_S (tp_A X.2.2.2.2 N) s.heap H locs → lv_has ls nL lv → W p X.1 e (tp_rm dep) s m args below meth c H locs 0 0 (MQ below (tp_Q X L N rk res) args s 0 0 (tp_A X.2.2.2.2 N)) (F0 m pc ls st)
