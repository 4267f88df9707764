theorem mo_X10_3 : Cond.methodLink RX10 3 objectInit ∈ tp_W := tp_W_of (tm_1 (List.mem_of_getElem? (i := 29) rfl)) rfl
theorem mo_X7_3 : Cond.methodLink RX7 3 objectInit ∈ tp_W := tp_W_of (tm_1 (List.mem_of_getElem? (i := 37) rfl)) rfl
theorem mo_X8_3 : Cond.methodLink RX8 3 objectInit ∈ tp_W := tp_W_of (tm_1 (List.mem_of_getElem? (i := 51) rfl)) rfl
theorem mo_X4_3 : Cond.methodLink RX4 3 objectInit ∈ tp_W := tp_W_of (tm_1 (List.mem_of_getElem? (i := 65) rfl)) rfl
theorem mo_X9_3 : Cond.methodLink RX9 3 objectInit ∈ tp_W := tp_W_of (tm_1 (List.mem_of_getElem? (i := 90) rfl)) rfl
theorem mo_X2_3 : Cond.methodLink RX2 3 objectInit ∈ tp_W := tp_W_of (tm_1 (List.mem_of_getElem? (i := 125) rfl)) rfl
theorem mo_X3_3 : Cond.methodLink RX3 3 objectInit ∈ tp_W := tp_W_of (tm_1 (List.mem_of_getElem? (i := 156) rfl)) rfl
theorem mo_X5_3 : Cond.methodLink RX5 3 objectInit ∈ tp_W := tp_W_of (tm_1 (List.mem_of_getElem? (i := 175) rfl)) rfl
theorem mo_X0_3 : Cond.methodLink RX0 3 objectInit ∈ tp_W := tp_W_of (tm_1 (List.mem_of_getElem? (i := 194) rfl)) rfl
theorem mo_X6_1 : Cond.methodLink RX6 1 objectInit ∈ tp_W := tp_W_of (tm_1 (List.mem_of_getElem? (i := 220) rfl)) rfl
theorem mo_X1_3 : Cond.methodLink RX1 3 objectInit ∈ tp_W := tp_W_of (tm_1 (List.mem_of_getElem? (i := 239) rfl)) rfl
theorem mo_X11_22 : Cond.methodLink RX11 22 objectInit ∈ tp_W := tp_W_of (tm_5 (List.mem_of_getElem? (i := 182) rfl)) rfl
theorem mo_i : Cond.instanceMethod objectInit ∈ tp_W := tp_W_of (tm_1 (List.mem_of_getElem? (i := 30) rfl)) rfl
theorem mo_c : Cond.code objectInit ⟨#[0xb1]⟩ 1 none ∈ tp_W := tp_W_of (tm_1 (List.mem_of_getElem? (i := 31) rfl)) rfl
theorem ma_int : Cond.arrayClass .int ∈ tp_W := tp_W_of (tm_1 (List.mem_of_getElem? (i := 45) rfl)) rfl
theorem ma_long : Cond.arrayClass .long ∈ tp_W := tp_W_of (tm_1 (List.mem_of_getElem? (i := 59) rfl)) rfl
theorem ma_boolean : Cond.arrayClass .boolean ∈ tp_W := tp_W_of (tm_1 (List.mem_of_getElem? (i := 119) rfl)) rfl
theorem cl_X0_9 : Cond.classLink RX0 9 "[[J" ∈ tp_W := tp_W_of (tm_1 (List.mem_of_getElem? (i := 195) rfl)) rfl
theorem ma_over : Cond.arrayOver (.array .long) ∈ tp_W := tp_W_of (tm_1 (List.mem_of_getElem? (i := 196) rfl)) rfl
theorem cl_L_8 : Cond.classLink RL 8 RX10 ∈ tp_W := tp_W_of (tm_1 (List.mem_of_getElem? (i := 24) rfl)) rfl
theorem mt_X10 : Cond.instantiable RX10 19 ∈ tp_W := tp_W_of (tm_1 (List.mem_of_getElem? (i := 25) rfl)) rfl
theorem cl_X10_9 : Cond.classLink RX10 9 RX7 ∈ tp_W := tp_W_of (tm_1 (List.mem_of_getElem? (i := 32) rfl)) rfl
theorem mt_X7 : Cond.instantiable RX7 2 ∈ tp_W := tp_W_of (tm_1 (List.mem_of_getElem? (i := 33) rfl)) rfl
theorem cl_X10_16 : Cond.classLink RX10 16 RX8 ∈ tp_W := tp_W_of (tm_1 (List.mem_of_getElem? (i := 46) rfl)) rfl
theorem mt_X8 : Cond.instantiable RX8 2 ∈ tp_W := tp_W_of (tm_1 (List.mem_of_getElem? (i := 47) rfl)) rfl
theorem cl_X10_23 : Cond.classLink RX10 23 RX4 ∈ tp_W := tp_W_of (tm_1 (List.mem_of_getElem? (i := 60) rfl)) rfl
theorem mt_X4 : Cond.instantiable RX4 6 ∈ tp_W := tp_W_of (tm_1 (List.mem_of_getElem? (i := 61) rfl)) rfl
theorem cl_X10_33 : Cond.classLink RX10 33 RX9 ∈ tp_W := tp_W_of (tm_1 (List.mem_of_getElem? (i := 85) rfl)) rfl
theorem mt_X9 : Cond.instantiable RX9 9 ∈ tp_W := tp_W_of (tm_1 (List.mem_of_getElem? (i := 86) rfl)) rfl
theorem cl_X10_43 : Cond.classLink RX10 43 RX2 ∈ tp_W := tp_W_of (tm_1 (List.mem_of_getElem? (i := 120) rfl)) rfl
theorem mt_X2 : Cond.instantiable RX2 4 ∈ tp_W := tp_W_of (tm_1 (List.mem_of_getElem? (i := 121) rfl)) rfl
theorem cl_X10_56 : Cond.classLink RX10 56 RX3 ∈ tp_W := tp_W_of (tm_1 (List.mem_of_getElem? (i := 151) rfl)) rfl
theorem mt_X3 : Cond.instantiable RX3 4 ∈ tp_W := tp_W_of (tm_1 (List.mem_of_getElem? (i := 152) rfl)) rfl
theorem cl_X10_63 : Cond.classLink RX10 63 RX5 ∈ tp_W := tp_W_of (tm_1 (List.mem_of_getElem? (i := 170) rfl)) rfl
theorem mt_X5 : Cond.instantiable RX5 3 ∈ tp_W := tp_W_of (tm_1 (List.mem_of_getElem? (i := 171) rfl)) rfl
theorem cl_X10_70 : Cond.classLink RX10 70 RX0 ∈ tp_W := tp_W_of (tm_1 (List.mem_of_getElem? (i := 189) rfl)) rfl
theorem mt_X0 : Cond.instantiable RX0 5 ∈ tp_W := tp_W_of (tm_1 (List.mem_of_getElem? (i := 190) rfl)) rfl
theorem cl_X10_77 : Cond.classLink RX10 77 RX6 ∈ tp_W := tp_W_of (tm_1 (List.mem_of_getElem? (i := 215) rfl)) rfl
theorem mt_X6 : Cond.instantiable RX6 4 ∈ tp_W := tp_W_of (tm_1 (List.mem_of_getElem? (i := 216) rfl)) rfl
theorem cl_X10_84 : Cond.classLink RX10 84 RX1 ∈ tp_W := tp_W_of (tm_1 (List.mem_of_getElem? (i := 234) rfl)) rfl
theorem mt_X1 : Cond.instantiable RX1 3 ∈ tp_W := tp_W_of (tm_1 (List.mem_of_getElem? (i := 235) rfl)) rfl
theorem cl_L_23 : Cond.classLink RL 23 RX11 ∈ tp_W := tp_W_of (tm_5 (List.mem_of_getElem? (i := 177) rfl)) rfl
theorem mt_X11 : Cond.instantiable RX11 52 ∈ tp_W := tp_W_of (tm_5 (List.mem_of_getElem? (i := 178) rfl)) rfl
def cs_ws (b : Nat) (es : List va_E) : va_W := es.mapIdx (fun i e => (b + i, e))
theorem cs_at {b k : Nat} {es : List va_E} {e : va_E} (h : es[k]? = some e) : (cs_ws b es)[k]? = some (b + k, e) := by simp [cs_ws, List.getElem?_mapIdx, h]
theorem cs_ge {b k : Nat} {es : List va_E} {q : Nat × va_E} (h : (cs_ws b es)[k]? = some q) : k < es.length ∧ q.1 = b + k ∧ es[k]? = some q.2 := by
  simp only [cs_ws, List.getElem?_mapIdx] at h
  cases he : es[k]? with
  | none => rw [he] at h; cases h
  | some e =>
    rw [he] at h
    have h2 := Option.some.inj h
    exact ⟨(List.getElem?_eq_some_iff.mp he).1, by rw [← h2], by rw [← h2]⟩
theorem cs_set {b k : Nat} {es : List va_E} {e : va_E} : (cs_ws b es).set k (b + k, e) = cs_ws b (es.set k e) := by
  apply List.ext_getElem?
  intro i
  rw [List.getElem?_set]
  simp only [cs_ws, List.getElem?_mapIdx, List.getElem?_set, List.length_mapIdx]
  by_cases hi : k = i
  · subst hi
    by_cases hk : k < es.length <;> simp [hk]
  · simp [hi]
theorem cs_app {b : Nat} {es : List va_E} {e : va_E} : cs_ws b (es ++ [e]) = cs_ws b es ++ [(b + es.length, e)] := by
  simp [cs_ws, List.mapIdx_append]
theorem cs_D {b : Nat} {es : List va_E} {A : Nat → Prop} (hA : ∀ q : Nat, b ≤ q → A q) : va_D A (cs_ws b es) := by
  refine ⟨fun i j p q hi hj h => ?_, fun k q hk => ?_⟩
  · have h1 := (cs_ge hi).2.1
    have h2 := (cs_ge hj).2.1
    omega
  · have h1 := (cs_ge hk).2.1
    exact hA _ (by omega)
def tp_rmN (dep mc ms : Nat) : Room := { frames := dep, cells := mc, slots := ms, locals := 64 * dep }
abbrev tp_Zt : Type := Program × Env × State × MethodId × Array Value × List Frame × Method × Code
def tp_Qn (b : Nat) (Fin : Heap → Prop) : Array Value → State → Outcome → State → Prop := va_Qv (fun _ : Unit => True) (fun _ t => Fin t.heap) (fun q => b ≤ q)
def tp_N (X : tp_X) (Z : tp_Zt) (b nL dep mc ms : Nat) (Fin : Heap → Prop) (es : List va_E) (cells slots : Nat) (lv : tp_V) (st : List Value) (pc : Nat) : Prop := match Z with
  | (p, e, s, m, args, below, meth, c) => ∀ (H : Heap) (locs : List Loc) (ls : Array Slot), va_P X.2.1 tp_cl (cs_ws b es) H → H.size = b + es.length → va_S (fun q => b ≤ q) s.heap H locs → lv_has ls nL lv → W p X.1 e (tp_rmN dep mc ms) s m args below meth c H locs cells slots (MQ below (tp_Qn b Fin) args s mc ms (fun q => b ≤ q)) (F0 m pc ls st)
def tp_NOk (X : tp_X) (Z : tp_Zt) (b : Nat) (cc : ByteArray) (nL : Nat) (own : String) : Prop := match Z with
  | (p, _, s, m, args, _, meth, c) => p.tables.exec = Jvm.exec ∧ c.code = cc ∧ c.maxLocals = nL ∧ s.vm.findClass own = some m.cls ∧ (∀ w ∈ tp_W, w.before args s = true) ∧ va_K X.2.1 tp_cl (tp_tys X.2.2.1) s ∧ (∀ w ∈ tp_NW, va_Nw w s) ∧ meth.sig.returnType = none ∧ meth.locks = false ∧ meth.name = "<init>" ∧ s.heap.size = b + 1
def ez_i (X : tp_X) (n : Nat) : va_E := .inl (X.2.2.1 0, n, .inl (fun _ => Int32.ofInt 0))
def ez_l (X : tp_X) (n : Nat) : va_E := .inl (X.2.2.1 1, n, .inr (.inl (fun _ => Int64.ofInt 0)))
def ez_z (X : tp_X) (n : Nat) : va_E := .inl (X.2.2.1 2, n, .inl (fun _ => Int32.ofInt 0))
def ez_q (X : tp_X) (n a : Nat) : va_E := .inl (X.2.2.1 3, n, .inr (.inr (.inr (.inr (fun j => if j < n then some (a + j) else none)))))
section TN
variable {X : tp_X} {Z : tp_Zt} {b nL dep mc ms : Nat} {Fin : Heap → Prop} {cc : ByteArray} {own : String} {es : List va_E} {cells slots : Nat} {lv : tp_V} {st : List Value} {pc : Nat}
theorem nn_aload_n (G : tp_NOk X Z b cc nL own) {k : Fin 4} {i a : Nat} (q : Nat) (d : decode cc pc = .ok (.aload_n k, 1)) (hi : (k : Nat) = i) (hq : lv[q]? = some (i, .ref a)) (kk : tp_N X Z b nL dep mc ms Fin (es) (cells) (slots) lv (.ref a :: st) (pc + 1)) : tp_N X Z b nL dep mc ms Fin (es) (cells) (slots) lv (st) (pc) := by
  obtain ⟨p, e, s, m, args, below, meth, c⟩ := Z
  obtain ⟨hx, hb, hml, hown, hts, hK, hNW, hr, hlk, hin, hsz⟩ := G
  intro H locs ls hP hz hS hl
  refine lv_aload_n hx hb d hi (lv_at hl q hq) ?_
  exact kk H locs ls hP hz hS hl
theorem nn_iconst (G : tp_NOk X Z b cc nL own) {v : Int} (d : decode cc pc = .ok (.iconst v, 1)) (kk : tp_N X Z b nL dep mc ms Fin (es) (cells) (slots) lv (vI v :: st) (pc + 1)) : tp_N X Z b nL dep mc ms Fin (es) (cells) (slots) lv (st) (pc) := by
  obtain ⟨p, e, s, m, args, below, meth, c⟩ := Z
  obtain ⟨hx, hb, hml, hown, hts, hK, hNW, hr, hlk, hin, hsz⟩ := G
  intro H locs ls hP hz hS hl
  refine lv_iconst hx hb d rfl ?_
  exact kk H locs ls hP hz hS hl
theorem nn_bipush (G : tp_NOk X Z b cc nL own) {v : Int} (d : decode cc pc = .ok (.bipush v, 2)) (hv : (Int8.ofInt v).toInt32 = Int32.ofInt v) (kk : tp_N X Z b nL dep mc ms Fin (es) (cells) (slots) lv (vI v :: st) (pc + 2)) : tp_N X Z b nL dep mc ms Fin (es) (cells) (slots) lv (st) (pc) := by
  obtain ⟨p, e, s, m, args, below, meth, c⟩ := Z
  obtain ⟨hx, hb, hml, hown, hts, hK, hNW, hr, hlk, hin, hsz⟩ := G
  intro H locs ls hP hz hS hl
  refine lv_bipush hx hb d hv ?_
  exact kk H locs ls hP hz hS hl
theorem nn_sipush (G : tp_NOk X Z b cc nL own) {v : Int} (d : decode cc pc = .ok (.sipush v, 3)) (hv : (Int16.ofInt v).toInt32 = Int32.ofInt v) (kk : tp_N X Z b nL dep mc ms Fin (es) (cells) (slots) lv (vI v :: st) (pc + 3)) : tp_N X Z b nL dep mc ms Fin (es) (cells) (slots) lv (st) (pc) := by
  obtain ⟨p, e, s, m, args, below, meth, c⟩ := Z
  obtain ⟨hx, hb, hml, hown, hts, hK, hNW, hr, hlk, hin, hsz⟩ := G
  intro H locs ls hP hz hS hl
  refine lv_sipush hx hb d hv ?_
  exact kk H locs ls hP hz hS hl
theorem nn_dup (G : tp_NOk X Z b cc nL own) {v : Value} (d : decode cc pc = .ok (.dup, 1)) (hv : v.category = 1) (kk : tp_N X Z b nL dep mc ms Fin (es) (cells) (slots) lv (v :: v :: st) (pc + 1)) : tp_N X Z b nL dep mc ms Fin (es) (cells) (slots) lv (v :: st) (pc) := by
  obtain ⟨p, e, s, m, args, below, meth, c⟩ := Z
  obtain ⟨hx, hb, hml, hown, hts, hK, hNW, hr, hlk, hin, hsz⟩ := G
  intro H locs ls hP hz hS hl
  refine lv_dup hx hb d hv ?_
  exact kk H locs ls hP hz hS hl
theorem nn_oinit (G : tp_NOk X Z b cc nL own) {i a : Nat} (hw : Cond.methodLink own i objectInit ∈ tp_W) (hd : 1 ≤ dep) (hcat : (st.map fun v => v.category).sum ≤ 8) (d : decode cc pc = .ok (.invokespecial i, 3)) (kk : tp_N X Z b nL dep mc ms Fin (es) (cells) (slots) lv (st) (pc + 3)) : tp_N X Z b nL dep mc ms Fin (es) (cells) (slots) lv (.ref a :: st) (pc) := by
  obtain ⟨p, e, s, m, args, below, meth, c⟩ := Z
  obtain ⟨hx, hb, hml, hown, hts, hK, hNW, hr, hlk, hin, hsz⟩ := G
  intro H locs ls hP hz hS hl
  refine W.objInit hx hb hown (hts _ hw) (hts _ mo_i) (hts _ mo_c) rfl (hl.1.trans hml.symm) rfl d hd (by show 2 * 0 + _ + 12 ≤ 64 * dep; omega) ?_
  exact kk H locs ls hP hz hS hl
theorem nn_newa_int (G : tp_NOk X Z b cc nL own) {n : Int} (n2 : Nat) {es2 : List va_E} (hn : n = n2) (hn2 : n2 < 1000) (he : es ++ [ez_i X n2] = es2) (hc : cells + 1 ≤ mc) (hs : slots + n2 ≤ ms) (d : decode cc pc = .ok (.newarray .int, 2)) (kk : tp_N X Z b nL dep mc ms Fin (es2) (cells + 1) (slots + n2) lv (.ref (b + es.length) :: st) (pc + 2)) : tp_N X Z b nL dep mc ms Fin (es) (cells) (slots) lv (vI n :: st) (pc) := by
  obtain ⟨p, e, s, m, args, below, meth, c⟩ := Z
  obtain ⟨hx, hb, hml, hown, hts, hK, hNW, hr, hlk, hin, hsz⟩ := G
  intro H locs ls hP hz hS hl
  subst hn; subst he
  have hcl : (Int32.ofInt (n2 : Int)).toNatClampNeg = n2 := by rw [Int32.toNatClampNeg, w32_eq, w32_id (by omega)]; omega
  refine va_newaK hx hb (atype := .int) (hts _ ma_int) rfl d rfl (by rw [wi_lt0, w32_id (by omega)]; omega) hcl (by show n2 * _ ≤ _; have : componentBytes .int ≤ 8 := by decide
                                                                                                   have := Nat.mul_le_mul_left n2 this; exact Nat.le_trans this (by omega)) hc hs hz (fun H1 cA e1 z1 o1 hAr hNm => ?_)
  have hcA : cA = X.2.2.1 0 := Option.some.inj (hNm.symm.trans (hK.2 0 _ rfl).2)
  subst hcA
  refine kk H1 locs ls ?_ (by rw [z1]; simp; omega) ⟨by rw [z1]; have := hS.1; omega, fun x h1 h2 => (o1 x (by have := hS.1; omega)).trans (hS.2.1 x h1 h2), hS.2.2⟩ hl
  rw [cs_app]
  intro k x hx
  by_cases hk : k < (cs_ws b es).length
  · rw [List.getElem?_append_left hk] at hx
    have h8 := hP k x hx
    exact h8.kept (o1 _ (by have := h8.lt; omega))
  · rw [List.getElem?_append_right (by omega)] at hx
    have h0 : k - (cs_ws b es).length < 1 := (List.getElem?_eq_some_iff.mp hx).1
    rw [show k - (cs_ws b es).length = 0 by omega] at hx
    cases hx
    exact e1
theorem nn_newa_long (G : tp_NOk X Z b cc nL own) {n : Int} (n2 : Nat) {es2 : List va_E} (hn : n = n2) (hn2 : n2 < 1000) (he : es ++ [ez_l X n2] = es2) (hc : cells + 1 ≤ mc) (hs : slots + n2 ≤ ms) (d : decode cc pc = .ok (.newarray .long, 2)) (kk : tp_N X Z b nL dep mc ms Fin (es2) (cells + 1) (slots + n2) lv (.ref (b + es.length) :: st) (pc + 2)) : tp_N X Z b nL dep mc ms Fin (es) (cells) (slots) lv (vI n :: st) (pc) := by
  obtain ⟨p, e, s, m, args, below, meth, c⟩ := Z
  obtain ⟨hx, hb, hml, hown, hts, hK, hNW, hr, hlk, hin, hsz⟩ := G
  intro H locs ls hP hz hS hl
  subst hn; subst he
  have hcl : (Int32.ofInt (n2 : Int)).toNatClampNeg = n2 := by rw [Int32.toNatClampNeg, w32_eq, w32_id (by omega)]; omega
  refine va_newaK hx hb (atype := .long) (hts _ ma_long) rfl d rfl (by rw [wi_lt0, w32_id (by omega)]; omega) hcl (by show n2 * _ ≤ _; have : componentBytes .long ≤ 8 := by decide
                                                                                                   have := Nat.mul_le_mul_left n2 this; exact Nat.le_trans this (by omega)) hc hs hz (fun H1 cA e1 z1 o1 hAr hNm => ?_)
  have hcA : cA = X.2.2.1 1 := Option.some.inj (hNm.symm.trans (hK.2 1 _ rfl).2)
  subst hcA
  refine kk H1 locs ls ?_ (by rw [z1]; simp; omega) ⟨by rw [z1]; have := hS.1; omega, fun x h1 h2 => (o1 x (by have := hS.1; omega)).trans (hS.2.1 x h1 h2), hS.2.2⟩ hl
  rw [cs_app]
  intro k x hx
  by_cases hk : k < (cs_ws b es).length
  · rw [List.getElem?_append_left hk] at hx
    have h8 := hP k x hx
    exact h8.kept (o1 _ (by have := h8.lt; omega))
  · rw [List.getElem?_append_right (by omega)] at hx
    have h0 : k - (cs_ws b es).length < 1 := (List.getElem?_eq_some_iff.mp hx).1
    rw [show k - (cs_ws b es).length = 0 by omega] at hx
    cases hx
    exact e1
theorem nn_newa_boolean (G : tp_NOk X Z b cc nL own) {n : Int} (n2 : Nat) {es2 : List va_E} (hn : n = n2) (hn2 : n2 < 1000) (he : es ++ [ez_z X n2] = es2) (hc : cells + 1 ≤ mc) (hs : slots + n2 ≤ ms) (d : decode cc pc = .ok (.newarray .boolean, 2)) (kk : tp_N X Z b nL dep mc ms Fin (es2) (cells + 1) (slots + n2) lv (.ref (b + es.length) :: st) (pc + 2)) : tp_N X Z b nL dep mc ms Fin (es) (cells) (slots) lv (vI n :: st) (pc) := by
  obtain ⟨p, e, s, m, args, below, meth, c⟩ := Z
  obtain ⟨hx, hb, hml, hown, hts, hK, hNW, hr, hlk, hin, hsz⟩ := G
  intro H locs ls hP hz hS hl
  subst hn; subst he
  have hcl : (Int32.ofInt (n2 : Int)).toNatClampNeg = n2 := by rw [Int32.toNatClampNeg, w32_eq, w32_id (by omega)]; omega
  refine va_newaK hx hb (atype := .boolean) (hts _ ma_boolean) rfl d rfl (by rw [wi_lt0, w32_id (by omega)]; omega) hcl (by show n2 * _ ≤ _; have : componentBytes .boolean ≤ 8 := by decide
                                                                                                   have := Nat.mul_le_mul_left n2 this; exact Nat.le_trans this (by omega)) hc hs hz (fun H1 cA e1 z1 o1 hAr hNm => ?_)
  have hcA : cA = X.2.2.1 2 := Option.some.inj (hNm.symm.trans (hK.2 2 _ rfl).2)
  subst hcA
  refine kk H1 locs ls ?_ (by rw [z1]; simp; omega) ⟨by rw [z1]; have := hS.1; omega, fun x h1 h2 => (o1 x (by have := hS.1; omega)).trans (hS.2.1 x h1 h2), hS.2.2⟩ hl
  rw [cs_app]
  intro k x hx
  by_cases hk : k < (cs_ws b es).length
  · rw [List.getElem?_append_left hk] at hx
    have h8 := hP k x hx
    exact h8.kept (o1 _ (by have := h8.lt; omega))
  · rw [List.getElem?_append_right (by omega)] at hx
    have h0 : k - (cs_ws b es).length < 1 := (List.getElem?_eq_some_iff.mp hx).1
    rw [show k - (cs_ws b es).length = 0 by omega] at hx
    cases hx
    exact e1
theorem nn_new (G : tp_NOk X Z b cc nL own) {ci i Nf : Nat} {C : String} {T : u_T} {ty : Nat → FieldType} {fs : List Value} {es2 : List va_E} (Cx : tp_Cl ci C T Nf ty) (hw : Cond.classLink own i C ∈ tp_W) (hw2 : Cond.instantiable C Nf ∈ tp_W) (hw3 : Cond.initialized C ∈ tp_W) (hfs : ∀ j, j < Nf → defaultValue (ty j) = vp_V fs j) (he : es ++ [.inr (ci, fs)] = es2) (hc : cells + 1 ≤ mc) (hs : slots + Nf ≤ ms) (d : decode cc pc = .ok (.new i, 3)) (kk : tp_N X Z b nL dep mc ms Fin (es2) (cells + 1) (slots + Nf) lv (.ref (b + es.length) :: st) (pc + 3)) : tp_N X Z b nL dep mc ms Fin (es) (cells) (slots) lv (st) (pc) := by
  obtain ⟨p, e, s, m, args, below, meth, c⟩ := Z
  obtain ⟨hx, hb, hml, hown, hts, hK, hNW, hr, hlk, hin, hsz⟩ := G
  intro H locs ls hP hz hS hl
  subst he
  have hKn := hK.1 ci _ Cx.1
  refine W.newcK hx hb hown (hts _ hw) (hts _ hw2) (hts _ hw3) rfl d hc hs hKn.2.1 hz (fun H1 kC hkC e1 z1 o1 => ?_)
  refine kk H1 locs ls ?_ (by rw [z1]; simp; omega) ⟨by rw [z1]; have := hS.1; omega, fun x h1 h2 => (o1 x (by have := hS.1; omega)).trans (hS.2.1 x h1 h2), hS.2.2⟩ hl
  rw [cs_app]
  intro k x hx
  by_cases hk : k < (cs_ws b es).length
  · rw [List.getElem?_append_left hk] at hx
    have h8 := hP k x hx
    exact h8.kept (o1 _ (by have := h8.lt; omega))
  · rw [List.getElem?_append_right (by omega)] at hx
    have h0 : k - (cs_ws b es).length < 1 := (List.getElem?_eq_some_iff.mp hx).1
    rw [show k - (cs_ws b es).length = 0 by omega] at hx
    cases hx
    exact ⟨_, Cx.1, (u_born ty hts Cx.2.1 hKn hkC e1 Cx.2.2.1).to hfs⟩
theorem nn_putF (G : tp_NOk X Z b cc nL own) {ci j k Nf index : Nat} {C : String} {T : u_T} {ty : Nat → FieldType} {fs : List Value} {v : Value} {es2 : List va_E} (Cx : tp_Cl ci C T Nf ty) (hk : es[k]? = some (.inr (ci, fs))) (hjN : j < Nf) (hjl : j < fs.length) (hw : Cond.fieldLink own index (T j).1 (T j).2.1 (T j).2.2.1 ∈ tp_W) (he : es.set k (.inr (ci, fs.set j v)) = es2) (hfin : (T j).2.2.2 = true) (hdecl : (T j).1 = own) (hnr : narrow (ty j) v = v) (hft : fits (ty j) v = true) (d : decode cc pc = .ok (.putfield index, 3)) (kk : tp_N X Z b nL dep mc ms Fin (es2) (cells) (slots) lv (st) (pc + 3)) : tp_N X Z b nL dep mc ms Fin (es) (cells) (slots) lv (v :: .ref (b + k) :: st) (pc) := by
  obtain ⟨p, e, s, m, args, below, meth, c⟩ := Z
  obtain ⟨hx, hb, hml, hown, hts, hK, hNW, hr, hlk, hin, hsz⟩ := G
  intro H locs ls hP hz hS hl
  subst he
  have hws := cs_at (b := b) hk
  have hap := va_apart (own := own) hts Cx.2.1 ty Cx.2.2.1 Cx.2.2.2 hK Cx.1
  obtain ⟨r9, h1, cell, q1, q2, q3, q4⟩ := hP k _ hws
  have hr9 : r9 = (C, T, Nf) := Option.some.inj (h1.symm.trans Cx.1)
  subst hr9
  obtain ⟨hSl, hfc, kC, hkC, hkind⟩ := hK.1 ci _ Cx.1
  obtain ⟨cf, kf, fi, f, hi, hsl⟩ := hSl j hjN
  have hlay := hts _ (Cx.2.1 _ (u_in_lay hjN))
  unfold u_lay at hlay
  rw [if_pos hfin] at hlay
  have hst := (u_facts hfc hkC (u_lays hts Cx.2.1 hjN) hi).1
  have hcf : m.cls = cf := by
    obtain ⟨_, _, c9, _, _, _, -, -, hf9, -, -, -, hown2, -⟩ := Cond.laysFinal_spec hlay
    have e1 : c9 = cf := by have := hi.symm.trans hf9; simp at this; exact this.1.symm
    rw [hdecl] at hown2
    rw [← e1]; exact Option.some.inj (hown.symm.trans hown2)
  have h6 := u_fits hfc hkC hkind (Or.inr hlay) hi (Cx.2.2.1 j hjN) hnr hft
  refine W.putFinK hx hb hown (hts _ hw) hi hst hcf hin (by rw [q2]; exact h6) q1 q3 (by rw [hsl]; exact k2_hasslot (q4 j hjN)) rfl rfl d fun H1 e1 e2 e3 => ?_
  rw [hsl] at e1 ⊢
  have hP1 := hP.set (cs_D (A := fun q => b ≤ q) (fun _ h => h)) hws ⟨_, Cx.1, t_OB.to (V := updV (vp_V fs) j v) ⟨_, e1, q2, q3, t_set q4 hap hjN v⟩ (fun j9 _ => vp_updV_set hjl v j9)⟩ e3
  rw [cs_set] at hP1
  exact kk H1 _ ls hP1 (by rw [e2, hz]; simp) (hS.put e2 e3 (by show b ≤ b + k; omega)) hl
theorem nn_putI (G : tp_NOk X Z b cc nL own) {ci j k Nf index : Nat} {C : String} {T : u_T} {ty : Nat → FieldType} {fs : List Value} {v : Value} {es2 : List va_E} (Cx : tp_Cl ci C T Nf ty) (hk : es[k]? = some (.inr (ci, fs))) (hjN : j < Nf) (hjl : j < fs.length) (hw : Cond.fieldLink own index (T j).1 (T j).2.1 (T j).2.2.1 ∈ tp_W) (he : es.set k (.inr (ci, fs.set j v)) = es2) (hfin : (T j).2.2.2 = false) (hnr : narrow (ty j) v = v) (hft : fits (ty j) v = true) (d : decode cc pc = .ok (.putfield index, 3)) (kk : tp_N X Z b nL dep mc ms Fin (es2) (cells) (slots) lv (st) (pc + 3)) : tp_N X Z b nL dep mc ms Fin (es) (cells) (slots) lv (v :: .ref (b + k) :: st) (pc) := by
  obtain ⟨p, e, s, m, args, below, meth, c⟩ := Z
  obtain ⟨hx, hb, hml, hown, hts, hK, hNW, hr, hlk, hin, hsz⟩ := G
  intro H locs ls hP hz hS hl
  subst he
  have hws := cs_at (b := b) hk
  have hap := va_apart (own := own) hts Cx.2.1 ty Cx.2.2.1 Cx.2.2.2 hK Cx.1
  obtain ⟨r9, h1, cell, q1, q2, q3, q4⟩ := hP k _ hws
  have hr9 : r9 = (C, T, Nf) := Option.some.inj (h1.symm.trans Cx.1)
  subst hr9
  obtain ⟨hSl, hfc, kC, hkC, hkind⟩ := hK.1 ci _ Cx.1
  obtain ⟨cf, kf, fi, f, hi, hsl⟩ := hSl j hjN
  have hlay := hts _ (Cx.2.1 _ (u_in_lay hjN))
  unfold u_lay at hlay
  rw [if_neg (by rw [hfin]; decide)] at hlay
  have hst := (u_facts hfc hkC (u_lays hts Cx.2.1 hjN) hi).1
  have h6 := u_store hfc hkC hkind hlay hi (Cx.2.2.1 j hjN) hnr hft
  refine W.putK hx hb (f := f) ⟨hown, hts _ hw, ⟨_, _, _, hi⟩, hst⟩ (by rw [q2]; exact h6) q1 q3 (by rw [hsl]; exact k2_hasslot (q4 j hjN)) rfl rfl d fun H1 e1 e2 e3 => ?_
  rw [hsl] at e1 ⊢
  have hP1 := hP.set (cs_D (A := fun q => b ≤ q) (fun _ h => h)) hws ⟨_, Cx.1, t_OB.to (V := updV (vp_V fs) j v) ⟨_, e1, q2, q3, t_set q4 hap hjN v⟩ (fun j9 _ => vp_updV_set hjl v j9)⟩ e3
  rw [cs_set] at hP1
  exact kk H1 _ ls hP1 (by rw [e2, hz]; simp) (hS.put e2 e3 (by show b ≤ b + k; omega)) hl
theorem nn_mna (G : tp_NOk X Z b cc nL own) {es2 : List va_E} (he : es ++ (ez_q X 8 (b + es.length + 1) :: List.replicate 8 (ez_l X 9)) = es2) (hc : cells + 1 + 8 ≤ mc) (hs : slots + 8 + 8 * 9 ≤ ms) (ho : own = RX0) (d : decode cc pc = .ok (.multianewarray 9 2, 4)) (kk : tp_N X Z b nL dep mc ms Fin (es2) (cells + 1 + 8) (slots + 8 + 8 * 9) lv (.ref (b + es.length) :: st) (pc + 4)) : tp_N X Z b nL dep mc ms Fin (es) (cells) (slots) lv (vI 9 :: vI 8 :: st) (pc) := by
  obtain ⟨p, e, s, m, args, below, meth, c⟩ := Z
  obtain ⟨hx, hb, hml, hown, hts, hK, hNW, hr, hlk, hin, hsz⟩ := G
  intro H locs ls hP hz hS hl
  subst he; subst ho
  intro T hT Xs
  obtain ⟨vm₁, cA, comp, -, fA, fC, hO, -, X', step⟩ := Xs.multianewarray2F hx hown (ty := .long) (hts _ cl_X0_9) (hts _ ma_over) (hts _ ma_long) (g := F0 m pc ls (vI 9 :: vI 8 :: st)) rfl (by rw [hb]; exact d) (n := 8) (k := 9) rfl (by decide) (by decide) (by decide) (by decide) (by decide) rfl rfl (by show cells + (1 + 8) ≤ mc; omega) (by show slots + (8 + 8 * 9) ≤ ms; omega)
  have eA : cA = X.2.2.1 3 := Option.some.inj (fA.symm.trans (hK.2 3 _ rfl).2)
  have eC : comp = X.2.2.1 1 := Option.some.inj (fC.symm.trans (hK.2 1 _ rfl).2)
  subst eA; subst eC
  have h8 : (8 : Int32).toNatClampNeg = 8 := by decide
  have h9 : (9 : Int32).toNatClampNeg = 9 := by decide
  rw [h8, h9] at X' step
  generalize hF : Jvm.Free.Multi.fill (T.setVm vm₁) (X.2.2.1 3) (X.2.2.1 1) 8 9 (defaultValue .long) 8 = F at X' step
  have hTh : (T.setVm vm₁).heap = H := hT
  obtain ⟨f1, f2, -, -⟩ := Jvm.Free.Multi.fill_facts (T.setVm vm₁) (X.2.2.1 3) (X.2.2.1 1) 8 9 (defaultValue .long) 8
  rw [hF, hTh] at f1 f2
  have hold : ∀ x : Nat, x < H.size → F.heap[x]? = H[x]? := fun x hx => by
    have := Jvm.Free.Multi.fill_old (T.setVm vm₁) (X.2.2.1 3) (X.2.2.1 1) 8 9 (defaultValue .long) (a := x) (by rw [hTh]; exact hx) 8
    rw [hF, hTh] at this
    exact this
  have hrow : ∀ j : Nat, j < 8 → F.heap[H.size + 1 + j]? = some (vp_cell (X.2.2.1 1) (9, .inr (.inl (fun _ => Int64.ofInt 0)))) := fun j hj => by
    have := Jvm.Free.Multi.fill_inner (T.setVm vm₁) (X.2.2.1 3) (X.2.2.1 1) 8 9 (defaultValue .long) 8 j hj
    rw [hF, hTh] at this
    rw [this]
    sorry
  have hout : F.heap[H.size]? = some (vp_cell (X.2.2.1 3) (8, .inr (.inr (.inr (.inr (fun i => if i < 8 then some (H.size + 1 + i) else none)))))) := by
    rw [f2, vp_cell_q]
    exact congrArg some (vr_outer (X.2.2.1 3) 8 H.size 8)
  have eT : T.heap.size = H.size := by rw [hT]
  rw [eT] at step
  have hfs : F.heap.size = b + (es.length + 9) := by rw [f1, hz]; omega
  have hP1 : va_P X.2.1 tp_cl (cs_ws b (es ++ (ez_q X 8 (b + es.length + 1) :: List.replicate 8 (ez_l X 9)))) F.heap := by
    intro k x hx
    obtain ⟨g1, g2, g3⟩ := cs_ge hx
    by_cases hk : k < es.length
    · rw [List.getElem?_append_left hk] at g3
      have h8 := hP k (b + k, x.2) (cs_at g3)
      have h7 : va_at X.2.1 tp_cl x H := by
        have e9 : x = (b + k, x.2) := by rw [← g2]
        rw [e9]; exact h8
      exact h7.kept (hold _ h7.lt)
    · rw [List.getElem?_append_right (by omega)] at g3
      sorry
  obtain ⟨t, a1, b1⟩ := kk F.heap locs ls hP1 (by rw [hfs]; simp) ⟨by rw [hfs]; have := hS.1; omega, fun x h1 h2 => (hold x (by have := hS.1; omega)).trans (hS.2.1 x h1 h2), hS.2.2⟩ hl F rfl X'
  rw [hz] at step
  exact ⟨t, step t a1, b1⟩
theorem nn_ret (G : tp_NOk X Z b cc nL own) (hF : ∀ H : Heap, H.size = b + es.length → va_P X.2.1 tp_cl (cs_ws b es) H → Fin H) (hc : cells = mc) (hs : slots = ms) (d : decode cc pc = .ok (.return_, 1)) : tp_N X Z b nL dep mc ms Fin (es) (cells) (slots) lv [] (pc) := by
  obtain ⟨p, e, s, m, args, below, meth, c⟩ := Z
  obtain ⟨hx, hb, hml, hown, hts, hK, hNW, hr, hlk, hin, hsz⟩ := G
  intro H locs ls hP hz hS hl
  subst hc; subst hs
  exact W.vret hx hb hr (fun t ht _ => ⟨⟨(), rfl, trivial, by show Fin t.heap; rw [ht]; exact hF H hz hP⟩, by rw [va_F]; exact ⟨by rw [ht]; exact hS.1, fun q h1 h2 => by rw [ht]; exact hS.2.1 q h1 h2⟩⟩) (fun q hq => hS.2.2 q hq) d hlk
theorem nn_get (G : tp_NOk X Z b cc nL own) {ci j k Nf index : Nat} {C : String} {T : u_T} {ty : Nat → FieldType} {fs : List Value} {v : Value} (Cx : tp_Cl ci C T Nf ty) (hk : es[k]? = some (.inr (ci, fs))) (hjN : j < Nf) (hv : fs[j]? = some v) (hw : Cond.fieldLink own index (T j).1 (T j).2.1 (T j).2.2.1 ∈ tp_W) (d : decode cc pc = .ok (.getfield index, 3)) (kk : tp_N X Z b nL dep mc ms Fin (es) (cells) (slots) lv (v :: st) (pc + 3)) : tp_N X Z b nL dep mc ms Fin (es) (cells) (slots) lv (.ref (b + k) :: st) (pc) := by
  obtain ⟨p, e, s, m, args, below, meth, c⟩ := Z
  obtain ⟨hx, hb, hml, hown, hts, hK, hNW, hr, hlk, hin, hsz⟩ := G
  intro H locs ls hP hz hS hl
  refine va_get hx hb (ws := cs_ws b es) hts Cx.2.1 hown hK hP k (cs_at hk) Cx.1 j hjN (hts _ hw) (fun x h => h) hv d ?_
  exact kk H locs ls hP hz hS hl
theorem nn_iast (G : tp_NOk X Z b cc nL own) {k n : Nat} {f : Nat → Int32} {i x : Int} {es2 : List va_E} (hk : es[k]? = some (.inl (X.2.2.1 0, n, .inl f))) (hi : 0 ≤ w32 i ∧ w32 i < n) (he : es.set k (.inl (X.2.2.1 0, n, .inl (upd f (Int32.ofInt i).toNatClampNeg (Int32.ofInt x)))) = es2) (d : decode cc pc = .ok (.iastore, 1)) (kk : tp_N X Z b nL dep mc ms Fin (es2) (cells) (slots) lv (st) (pc + 1)) : tp_N X Z b nL dep mc ms Fin (es) (cells) (slots) lv (vI x :: vI i :: .ref (b + k) :: st) (pc) := by
  obtain ⟨p, e, s, m, args, below, meth, c⟩ := Z
  obtain ⟨hx, hb, hml, hown, hts, hK, hNW, hr, hlk, hin, hsz⟩ := G
  intro H locs ls hP hz hS hl
  subst he
  have hws := cs_at (b := b) hk
  refine W.iast hx hb (hP k _ hws) ((hK.2 0 _ rfl).1 n (fun j => .int (f j))) (fun q => by cases q) (by show ¬ (_ ∨ (arrV _ _ _).slots.size ≤ _); rw [arrV_size]; exact wi_in hi) rfl rfl d fun H1 e1 e2 e3 => ?_
  have hP1 := hP.set (cs_D (A := fun q => b ≤ q) (fun _ h => h)) hws (e := .inl (X.2.2.1 0, n, .inl (upd f (Int32.ofInt i).toNatClampNeg (Int32.ofInt x)))) (by
    show H1[b + k]? = some (vp_cell _ _)
    rw [e1]
    rw [vp_cell_i, vp_cell_i, arrV_store]
    congr 2
    funext q
    by_cases hq : q = (Int32.ofInt i).toNatClampNeg
    · subst hq
      simp [updV, upd]
    · simp [updV, upd, hq]) e3
  rw [cs_set] at hP1
  exact kk H1 _ ls hP1 (by rw [e2, hz]; simp) (hS.put e2 e3 (by show b ≤ b + k; omega)) hl
end TN
def tp_Bn (X : tp_X) (b : Nat) (es : List va_E) (U : State) : Prop := U.heap.size = b + 1 ∧ va_P X.2.1 tp_cl (cs_ws b es) U.heap ∧ va_K X.2.1 tp_cl (tp_tys X.2.2.1) U ∧ (∀ w ∈ tp_NW, va_Nw w U)
theorem tp_blindn {X : tp_X} {b : Nat} {es : List va_E} {av : List Value} : FrameBlind (va_Pc av (tp_Bn X b es)) := by
  intro a U g mk h
  obtain ⟨h1, hz, hP, hK, hNW⟩ := h
  have hvm : (U.calling g mk a).vm = U.vm := rfl
  have hW : U.WarmedH (U.calling g mk a).vm := by rw [hvm]; exact State.WarmedH.refl U
  exact ⟨h1, hz, hP, va_K.moved (u := U) (U := U.calling g mk a) (Vm.Alike.refl U.vm) hK, tp_NW_warm hW hNW⟩
/-- the contract of a class's constructor: the object stands last; what it makes stands behind it -/
def tp_RetN (X : tp_X) (y : MethodName) (cw : Cond) (dep mc ms b : Nat) (es0 es9 : List va_E) : Prop :=
  Met X.1 y (cw :: tp_W) (tp_rmN dep mc ms) (va_Pc [.ref b] (tp_Bn X b es0)) (tp_Qn b (fun H => H.size = b + es9.length ∧ va_P X.2.1 tp_cl (cs_ws b es9) H)) mc ms (fun q => b ≤ q)
theorem tp_ofN {X : tp_X} {y : MethodName} {cw : Cond} {dep mc ms b : Nat} {es0 es9 : List va_E} {cc : ByteArray} {own : String} (hy : plainName y.cls = true) (hcw : cw = Cond.code y cc 1 none) (hown : y.cls = own) (hnm : y.name = "<init>") (hlen : es0.length = 1)
    (body : ∀ Z : tp_Zt, tp_NOk X Z b cc 1 own → tp_N X Z b 1 dep mc ms (fun H => H.size = b + es9.length ∧ va_P X.2.1 tp_cl (cs_ws b es9) H) es0 0 0 [(0, .ref b)] [] 0) : tp_RetN X y cw dep mc ms b es0 es9 := by
  refine Met.ofW (cc := cc) (maxL := 1) (ret := none) hy (by rw [hcw]) ?_
  intro p e s m args below meth c s₁ B hml2 hv
  obtain ⟨rfl, hz, hP, hK, hNW⟩ := hv
  have hts := atoms_spec (ws := cw :: tp_W) B.pre
  have hl := lv_entry [Value.ref b] (n := 1) (Nat.le_of_ble_eq_true rfl)
  have hJ := body (p, e, s, m, [Value.ref b].toArray, below, meth, c) ⟨B.exec, B.bytes, hml2, by rw [← hown]; exact findClass_of_methodNamed B.named, fun w hw => hts w (List.mem_cons_of_mem _ hw), hK, hNW, B.returns, B.notSynchronized, by rw [← hnm]; exact (name_of_methodNamed B.named B.method).1, hz⟩ s.heap [] _ hP (by rw [hz, hlen]) va_S.rf hl
  rw [lg_entry_eq]
  exact hJ
section TN
variable {X : tp_X} {Z : tp_Zt} {b nL dep mc ms : Nat} {Fin : Heap → Prop} {cc : ByteArray} {own : String} {es : List va_E} {cells slots : Nat} {lv : tp_V} {st : List Value} {pc : Nat}
theorem nn_callI (G : tp_NOk X Z b cc nL own) {y : MethodName} {cw : Cond} {bytes : ByteArray} {dep2 mc2 ms2 i : Nat} {host : String} {pre es9 es2 : List va_E} {o0 : va_E} {a : Nat} (hM : ∀ b9 : Nat, b9 = b + pre.length → tp_RetN X y cw dep2 mc2 ms2 b9 [o0] es9) (hcw : cw = Cond.code y bytes 1 none) (hci : cw ∈ tp_W) (hini : Cond.initialized y.cls ∈ tp_W) (hin2 : Cond.instanceMethod y ∈ tp_W) (hnm : y.name = "<init>") (hdy : y.cls ≠ "java/lang/invoke/MethodHandle" ∧ y.cls ≠ "java/lang/invoke/VarHandle" ∧ (parseMethodDescriptor y.desc).map (fun d => d.parameters.length) = some 0) (hw : Cond.methodLinkNest own i y host ∈ tp_NW) (hes : pre ++ [o0] = es) (he : pre ++ es9 = es2) (ha : b + pre.length = a) (hd : dep2 + 1 ≤ dep) (hc : cells + mc2 ≤ mc) (hs : slots + ms2 ≤ ms) (hcat : (st.map fun v => v.category).sum ≤ 8) (d : decode cc pc = .ok (.invokespecial i, 3)) (kk : tp_N X Z b nL dep mc ms Fin (es2) (cells + mc2) (slots + ms2) lv (st) (pc + 3)) : tp_N X Z b nL dep mc ms Fin (es) (cells) (slots) lv (.ref a :: st) (pc) := by
  obtain ⟨p, e, s, m, args, below, meth, c⟩ := Z
  obtain ⟨hx, hb, hml, hown, hts, hK, hNW, hr, hlk, hin, hsz⟩ := G
  intro H locs ls hP hz hS hl
  subst hes; subst he; subst ha
  have hM := hM _ rfl
  have hlen : (pre ++ [o0]).length = pre.length + 1 := by simp
  refine va_callv (va_runIN (As := []) (rest := st) ⟨hx, hb, hml, hown, hts⟩ hM ⟨va_cnB (Ts := tp_W) 0 hts (tp_Gd (fun w hwm => by
      rcases List.mem_cons.mp hwm with q | q
      · rw [q]; exact hci
      · exact q)) (by rw [hcw]) rfl rfl (hNW _ hw) (hts _ hini) hdy ⟨hd, by show 8 + (1 + 11) + 64 * dep2 ≤ 64 * dep; omega⟩, hnm, hts _ hin2⟩ ⟨tp_blindn, fun U hU hW => ⟨rfl, by rw [hU, hz, hlen]; omega, fun k q hk => by
        obtain ⟨g1, g2, g3⟩ := cs_ge hk
        obtain rfl : k = 0 := by simp at g1; omega
        rw [hU]
        have h8 := hP pre.length (b + pre.length, o0) (cs_at (by simp))
        have e9 : q = (b + pre.length, o0) := by
          have g4 : o0 = q.2 := by simpa using g3
          rw [g4]; exact (Prod.ext g2 rfl)
        rw [e9]; exact h8, va_K.moved hW.alike hK, tp_NW_warm hW hNW⟩⟩ rfl rfl hl.1 rfl (lv_room hcat) d ⟨hc, hs⟩) hS (fun q _ h => by have h9 : b + pre.length ≤ q := h; show b ≤ q; omega) (fun q h => by have h9 : b + pre.length ≤ q := h; show b ≤ q; omega) (fun u t H1 locs1 ht hvm hw2 hB hz1 hk1 hS1 => ?_)
  obtain ⟨hB1, hB2⟩ := hB
  rw [ht] at hB1 hB2
  refine kk H1 locs1 ls (fun k q hk => ?_) (by rw [hB1]; simp; omega) hS1 hl
  obtain ⟨g1, g2, g3⟩ := cs_ge hk
  by_cases hkp : k < pre.length
  · rw [List.getElem?_append_left hkp] at g3
    have h8 := hP k (b + k, q.2) (cs_at (by rw [List.getElem?_append_left hkp]; exact g3))
    have e9 : q = (b + k, q.2) := Prod.ext g2 rfl
    rw [e9]
    exact h8.kept (hk1 _ h8.lt (fun h9 => by have h7 : b + pre.length ≤ b + k := h9; omega))
  · rw [List.getElem?_append_right (by omega)] at g3
    have h8 := hB2 (k - pre.length) (b + pre.length + (k - pre.length), q.2) (cs_at g3)
    have e9 : q = (b + pre.length + (k - pre.length), q.2) := Prod.ext (by rw [g2]; show b + k = b + pre.length + (k - pre.length); omega) rfl
    rw [e9]
    exact h8
end TN
set_option maxRecDepth 100000 in
set_option maxHeartbeats 4000000 in
theorem nc_X0 (X : tp_X) (b : Nat) : tp_RetN X yX0_init (Cond.code yX0_init cX0_init 1 none) 2 11 96 b [.inr (0, [.null, .null, .null, vL 0, vL 0])] [.inr (0, [.ref (b + 1), .ref (b + 10), .ref (b + 11), vL 0, vL 0]), ez_q X 8 (b + 1 + 1), ez_l X 9, ez_l X 9, ez_l X 9, ez_l X 9, ez_l X 9, ez_l X 9, ez_l X 9, ez_l X 9, ez_l X 8, ez_l X 8] := by
  refine tp_ofN (by decide +kernel) rfl rfl rfl rfl (fun Z G => ?_)
  refine nn_aload_n (pc := 0) G 0 dX0_init_0 rfl rfl ?_
  refine nn_oinit (pc := 1) G mo_X0_3 (by decide) (Nat.le_of_ble_eq_true rfl) dX0_init_1 ?_
  refine nn_aload_n (pc := 4) G 0 dX0_init_4 rfl rfl ?_
  refine nn_bipush (pc := 5) G dX0_init_5 rfl ?_
  refine nn_bipush (pc := 7) G dX0_init_7 rfl ?_
  refine nn_mna (pc := 9) G (es2 := [.inr (0, [.null, .null, .null, vL 0, vL 0]), ez_q X 8 (b + 1 + 1), ez_l X 9, ez_l X 9, ez_l X 9, ez_l X 9, ez_l X 9, ez_l X 9, ez_l X 9, ez_l X 9]) rfl (by decide) (by decide) rfl dX0_init_9 ?_
  refine nn_putF (pc := 13) G (k := 0) (j := 0) (es2 := [.inr (0, [.ref (b + 1), .null, .null, vL 0, vL 0]), ez_q X 8 (b + 1 + 1), ez_l X 9, ez_l X 9, ez_l X 9, ez_l X 9, ez_l X 9, ez_l X 9, ez_l X 9, ez_l X 9]) tk_X0 rfl (by decide) (by decide) fl_X0_11 rfl rfl rfl rfl rfl dX0_init_13 ?_
  refine nn_aload_n (pc := 16) G 0 dX0_init_16 rfl rfl ?_
  refine nn_bipush (pc := 17) G dX0_init_17 rfl ?_
  refine nn_newa_long (pc := 19) G 8 (es2 := [.inr (0, [.ref (b + 1), .null, .null, vL 0, vL 0]), ez_q X 8 (b + 1 + 1), ez_l X 9, ez_l X 9, ez_l X 9, ez_l X 9, ez_l X 9, ez_l X 9, ez_l X 9, ez_l X 9, ez_l X 8]) rfl (by decide) rfl (by decide) (by decide) dX0_init_19 ?_
  refine nn_putF (pc := 21) G (k := 0) (j := 1) (es2 := [.inr (0, [.ref (b + 1), .ref (b + 10), .null, vL 0, vL 0]), ez_q X 8 (b + 1 + 1), ez_l X 9, ez_l X 9, ez_l X 9, ez_l X 9, ez_l X 9, ez_l X 9, ez_l X 9, ez_l X 9, ez_l X 8]) tk_X0 rfl (by decide) (by decide) fl_X0_16 rfl rfl rfl rfl rfl dX0_init_21 ?_
  refine nn_aload_n (pc := 24) G 0 dX0_init_24 rfl rfl ?_
  refine nn_bipush (pc := 25) G dX0_init_25 rfl ?_
  refine nn_newa_long (pc := 27) G 8 (es2 := [.inr (0, [.ref (b + 1), .ref (b + 10), .null, vL 0, vL 0]), ez_q X 8 (b + 1 + 1), ez_l X 9, ez_l X 9, ez_l X 9, ez_l X 9, ez_l X 9, ez_l X 9, ez_l X 9, ez_l X 9, ez_l X 8, ez_l X 8]) rfl (by decide) rfl (by decide) (by decide) dX0_init_27 ?_
  refine nn_putF (pc := 29) G (k := 0) (j := 2) (es2 := [.inr (0, [.ref (b + 1), .ref (b + 10), .ref (b + 11), vL 0, vL 0]), ez_q X 8 (b + 1 + 1), ez_l X 9, ez_l X 9, ez_l X 9, ez_l X 9, ez_l X 9, ez_l X 9, ez_l X 9, ez_l X 9, ez_l X 8, ez_l X 8]) tk_X0 rfl (by decide) (by decide) fl_X0_20 rfl rfl rfl rfl rfl dX0_init_29 ?_
  exact nn_ret (pc := 32) G (fun H h1 h2 => ⟨h1, h2⟩) rfl rfl dX0_init_32
set_option maxRecDepth 100000 in
set_option maxHeartbeats 4000000 in
theorem nc_X1 (X : tp_X) (b : Nat) : tp_RetN X yX1_init (Cond.code yX1_init cX1_init 1 none) 2 2 24 b [.inr (1, [.null, .null, vI 0])] [.inr (1, [.ref (b + 1), .ref (b + 2), vI 0]), ez_i X 12, ez_i X 12] := by
  refine tp_ofN (by decide +kernel) rfl rfl rfl rfl (fun Z G => ?_)
  refine nn_aload_n (pc := 0) G 0 dX1_init_0 rfl rfl ?_
  refine nn_oinit (pc := 1) G mo_X1_3 (by decide) (Nat.le_of_ble_eq_true rfl) dX1_init_1 ?_
  refine nn_aload_n (pc := 4) G 0 dX1_init_4 rfl rfl ?_
  refine nn_bipush (pc := 5) G dX1_init_5 rfl ?_
  refine nn_newa_int (pc := 7) G 12 (es2 := [.inr (1, [.null, .null, vI 0]), ez_i X 12]) rfl (by decide) rfl (by decide) (by decide) dX1_init_7 ?_
  refine nn_putF (pc := 9) G (k := 0) (j := 0) (es2 := [.inr (1, [.ref (b + 1), .null, vI 0]), ez_i X 12]) tk_X1 rfl (by decide) (by decide) fl_X1_11 rfl rfl rfl rfl rfl dX1_init_9 ?_
  refine nn_aload_n (pc := 12) G 0 dX1_init_12 rfl rfl ?_
  refine nn_bipush (pc := 13) G dX1_init_13 rfl ?_
  refine nn_newa_int (pc := 15) G 12 (es2 := [.inr (1, [.ref (b + 1), .null, vI 0]), ez_i X 12, ez_i X 12]) rfl (by decide) rfl (by decide) (by decide) dX1_init_15 ?_
  refine nn_putF (pc := 17) G (k := 0) (j := 1) (es2 := [.inr (1, [.ref (b + 1), .ref (b + 2), vI 0]), ez_i X 12, ez_i X 12]) tk_X1 rfl (by decide) (by decide) fl_X1_15 rfl rfl rfl rfl rfl dX1_init_17 ?_
  exact nn_ret (pc := 20) G (fun H h1 h2 => ⟨h1, h2⟩) rfl rfl dX1_init_20
set_option maxRecDepth 100000 in
set_option maxHeartbeats 4000000 in
theorem nc_X2 (X : tp_X) (b : Nat) : tp_RetN X yX2_init (Cond.code yX2_init cX2_init 1 none) 2 2 16 b [.inr (2, [.null, .null, vI 0, vI 0])] [.inr (2, [.ref (b + 1), .ref (b + 2), vI 0, vI 0]), ez_i X 8, ez_i X 8] := by
  refine tp_ofN (by decide +kernel) rfl rfl rfl rfl (fun Z G => ?_)
  refine nn_aload_n (pc := 0) G 0 dX2_init_0 rfl rfl ?_
  refine nn_oinit (pc := 1) G mo_X2_3 (by decide) (Nat.le_of_ble_eq_true rfl) dX2_init_1 ?_
  refine nn_aload_n (pc := 4) G 0 dX2_init_4 rfl rfl ?_
  refine nn_bipush (pc := 5) G dX2_init_5 rfl ?_
  refine nn_newa_int (pc := 7) G 8 (es2 := [.inr (2, [.null, .null, vI 0, vI 0]), ez_i X 8]) rfl (by decide) rfl (by decide) (by decide) dX2_init_7 ?_
  refine nn_putF (pc := 9) G (k := 0) (j := 0) (es2 := [.inr (2, [.ref (b + 1), .null, vI 0, vI 0]), ez_i X 8]) tk_X2 rfl (by decide) (by decide) fl_X2_9 rfl rfl rfl rfl rfl dX2_init_9 ?_
  refine nn_aload_n (pc := 12) G 0 dX2_init_12 rfl rfl ?_
  refine nn_bipush (pc := 13) G dX2_init_13 rfl ?_
  refine nn_newa_int (pc := 15) G 8 (es2 := [.inr (2, [.ref (b + 1), .null, vI 0, vI 0]), ez_i X 8, ez_i X 8]) rfl (by decide) rfl (by decide) (by decide) dX2_init_15 ?_
  refine nn_putF (pc := 17) G (k := 0) (j := 1) (es2 := [.inr (2, [.ref (b + 1), .ref (b + 2), vI 0, vI 0]), ez_i X 8, ez_i X 8]) tk_X2 rfl (by decide) (by decide) fl_X2_15 rfl rfl rfl rfl rfl dX2_init_17 ?_
  exact nn_ret (pc := 20) G (fun H h1 h2 => ⟨h1, h2⟩) rfl rfl dX2_init_20
set_option maxRecDepth 100000 in
set_option maxHeartbeats 4000000 in
theorem nc_X3 (X : tp_X) (b : Nat) : tp_RetN X yX3_init (Cond.code yX3_init cX3_init 1 none) 2 1 324 b [.inr (3, [.null, vI 0, vI 0, vI 0])] [.inr (3, [.ref (b + 1), vI 0, vI 0, vI 0]), ez_i X 324] := by
  refine tp_ofN (by decide +kernel) rfl rfl rfl rfl (fun Z G => ?_)
  refine nn_aload_n (pc := 0) G 0 dX3_init_0 rfl rfl ?_
  refine nn_oinit (pc := 1) G mo_X3_3 (by decide) (Nat.le_of_ble_eq_true rfl) dX3_init_1 ?_
  refine nn_aload_n (pc := 4) G 0 dX3_init_4 rfl rfl ?_
  refine nn_sipush (pc := 5) G dX3_init_5 rfl ?_
  refine nn_newa_int (pc := 8) G 324 (es2 := [.inr (3, [.null, vI 0, vI 0, vI 0]), ez_i X 324]) rfl (by decide) rfl (by decide) (by decide) dX3_init_8 ?_
  refine nn_putF (pc := 10) G (k := 0) (j := 0) (es2 := [.inr (3, [.ref (b + 1), vI 0, vI 0, vI 0]), ez_i X 324]) tk_X3 rfl (by decide) (by decide) fl_X3_11 rfl rfl rfl rfl rfl dX3_init_10 ?_
  exact nn_ret (pc := 13) G (fun H h1 h2 => ⟨h1, h2⟩) rfl rfl dX3_init_13
set_option maxRecDepth 100000 in
set_option maxHeartbeats 4000000 in
theorem nc_X4 (X : tp_X) (b : Nat) : tp_RetN X yX4_init (Cond.code yX4_init cX4_init 1 none) 2 4 56 b [.inr (4, [.null, .null, .null, .null, vI 0, vI 0])] [.inr (4, [.ref (b + 1), .ref (b + 2), .ref (b + 3), .ref (b + 4), vI 0, vI 0]), ez_i X 8, ez_i X 32, ez_i X 8, ez_i X 8] := by
  refine tp_ofN (by decide +kernel) rfl rfl rfl rfl (fun Z G => ?_)
  refine nn_aload_n (pc := 0) G 0 dX4_init_0 rfl rfl ?_
  refine nn_oinit (pc := 1) G mo_X4_3 (by decide) (Nat.le_of_ble_eq_true rfl) dX4_init_1 ?_
  refine nn_aload_n (pc := 4) G 0 dX4_init_4 rfl rfl ?_
  refine nn_bipush (pc := 5) G dX4_init_5 rfl ?_
  refine nn_newa_int (pc := 7) G 8 (es2 := [.inr (4, [.null, .null, .null, .null, vI 0, vI 0]), ez_i X 8]) rfl (by decide) rfl (by decide) (by decide) dX4_init_7 ?_
  refine nn_putF (pc := 9) G (k := 0) (j := 0) (es2 := [.inr (4, [.ref (b + 1), .null, .null, .null, vI 0, vI 0]), ez_i X 8]) tk_X4 rfl (by decide) (by decide) fl_X4_9 rfl rfl rfl rfl rfl dX4_init_9 ?_
  refine nn_aload_n (pc := 12) G 0 dX4_init_12 rfl rfl ?_
  refine nn_bipush (pc := 13) G dX4_init_13 rfl ?_
  refine nn_newa_int (pc := 15) G 32 (es2 := [.inr (4, [.ref (b + 1), .null, .null, .null, vI 0, vI 0]), ez_i X 8, ez_i X 32]) rfl (by decide) rfl (by decide) (by decide) dX4_init_15 ?_
  refine nn_putF (pc := 17) G (k := 0) (j := 1) (es2 := [.inr (4, [.ref (b + 1), .ref (b + 2), .null, .null, vI 0, vI 0]), ez_i X 8, ez_i X 32]) tk_X4 rfl (by decide) (by decide) fl_X4_15 rfl rfl rfl rfl rfl dX4_init_17 ?_
  refine nn_aload_n (pc := 20) G 0 dX4_init_20 rfl rfl ?_
  refine nn_bipush (pc := 21) G dX4_init_21 rfl ?_
  refine nn_newa_int (pc := 23) G 8 (es2 := [.inr (4, [.ref (b + 1), .ref (b + 2), .null, .null, vI 0, vI 0]), ez_i X 8, ez_i X 32, ez_i X 8]) rfl (by decide) rfl (by decide) (by decide) dX4_init_23 ?_
  refine nn_putF (pc := 25) G (k := 0) (j := 2) (es2 := [.inr (4, [.ref (b + 1), .ref (b + 2), .ref (b + 3), .null, vI 0, vI 0]), ez_i X 8, ez_i X 32, ez_i X 8]) tk_X4 rfl (by decide) (by decide) fl_X4_18 rfl rfl rfl rfl rfl dX4_init_25 ?_
  refine nn_aload_n (pc := 28) G 0 dX4_init_28 rfl rfl ?_
  refine nn_bipush (pc := 29) G dX4_init_29 rfl ?_
  refine nn_newa_int (pc := 31) G 8 (es2 := [.inr (4, [.ref (b + 1), .ref (b + 2), .ref (b + 3), .null, vI 0, vI 0]), ez_i X 8, ez_i X 32, ez_i X 8, ez_i X 8]) rfl (by decide) rfl (by decide) (by decide) dX4_init_31 ?_
  refine nn_putF (pc := 33) G (k := 0) (j := 3) (es2 := [.inr (4, [.ref (b + 1), .ref (b + 2), .ref (b + 3), .ref (b + 4), vI 0, vI 0]), ez_i X 8, ez_i X 32, ez_i X 8, ez_i X 8]) tk_X4 rfl (by decide) (by decide) fl_X4_21 rfl rfl rfl rfl rfl dX4_init_33 ?_
  exact nn_ret (pc := 36) G (fun H h1 h2 => ⟨h1, h2⟩) rfl rfl dX4_init_36
set_option maxRecDepth 100000 in
set_option maxHeartbeats 4000000 in
theorem nc_X5 (X : tp_X) (b : Nat) : tp_RetN X yX5_init (Cond.code yX5_init cX5_init 1 none) 2 3 24 b [.inr (5, [.null, .null, .null])] [.inr (5, [.ref (b + 1), .ref (b + 2), .ref (b + 3)]), ez_i X 8, ez_i X 8, ez_i X 8] := by
  refine tp_ofN (by decide +kernel) rfl rfl rfl rfl (fun Z G => ?_)
  refine nn_aload_n (pc := 0) G 0 dX5_init_0 rfl rfl ?_
  refine nn_oinit (pc := 1) G mo_X5_3 (by decide) (Nat.le_of_ble_eq_true rfl) dX5_init_1 ?_
  refine nn_aload_n (pc := 4) G 0 dX5_init_4 rfl rfl ?_
  refine nn_bipush (pc := 5) G dX5_init_5 rfl ?_
  refine nn_newa_int (pc := 7) G 8 (es2 := [.inr (5, [.null, .null, .null]), ez_i X 8]) rfl (by decide) rfl (by decide) (by decide) dX5_init_7 ?_
  refine nn_putF (pc := 9) G (k := 0) (j := 0) (es2 := [.inr (5, [.ref (b + 1), .null, .null]), ez_i X 8]) tk_X5 rfl (by decide) (by decide) fl_X5_9 rfl rfl rfl rfl rfl dX5_init_9 ?_
  refine nn_aload_n (pc := 12) G 0 dX5_init_12 rfl rfl ?_
  refine nn_bipush (pc := 13) G dX5_init_13 rfl ?_
  refine nn_newa_int (pc := 15) G 8 (es2 := [.inr (5, [.ref (b + 1), .null, .null]), ez_i X 8, ez_i X 8]) rfl (by decide) rfl (by decide) (by decide) dX5_init_15 ?_
  refine nn_putF (pc := 17) G (k := 0) (j := 1) (es2 := [.inr (5, [.ref (b + 1), .ref (b + 2), .null]), ez_i X 8, ez_i X 8]) tk_X5 rfl (by decide) (by decide) fl_X5_15 rfl rfl rfl rfl rfl dX5_init_17 ?_
  refine nn_aload_n (pc := 20) G 0 dX5_init_20 rfl rfl ?_
  refine nn_bipush (pc := 21) G dX5_init_21 rfl ?_
  refine nn_newa_int (pc := 23) G 8 (es2 := [.inr (5, [.ref (b + 1), .ref (b + 2), .null]), ez_i X 8, ez_i X 8, ez_i X 8]) rfl (by decide) rfl (by decide) (by decide) dX5_init_23 ?_
  refine nn_putF (pc := 25) G (k := 0) (j := 2) (es2 := [.inr (5, [.ref (b + 1), .ref (b + 2), .ref (b + 3)]), ez_i X 8, ez_i X 8, ez_i X 8]) tk_X5 rfl (by decide) (by decide) fl_X5_18 rfl rfl rfl rfl rfl dX5_init_25 ?_
  exact nn_ret (pc := 28) G (fun H h1 h2 => ⟨h1, h2⟩) rfl rfl dX5_init_28
set_option maxRecDepth 100000 in
set_option maxHeartbeats 4000000 in
theorem nc_X6 (X : tp_X) (b : Nat) : tp_RetN X yX6_init (Cond.code yX6_init cX6_init 1 none) 2 3 30 b [.inr (6, [.null, .null, .null, vI 0])] [.inr (6, [.ref (b + 1), .ref (b + 2), .ref (b + 3), vI 0]), ez_i X 10, ez_i X 10, ez_i X 10] := by
  refine tp_ofN (by decide +kernel) rfl rfl rfl rfl (fun Z G => ?_)
  refine nn_aload_n (pc := 0) G 0 dX6_init_0 rfl rfl ?_
  refine nn_oinit (pc := 1) G mo_X6_1 (by decide) (Nat.le_of_ble_eq_true rfl) dX6_init_1 ?_
  refine nn_aload_n (pc := 4) G 0 dX6_init_4 rfl rfl ?_
  refine nn_bipush (pc := 5) G dX6_init_5 rfl ?_
  refine nn_newa_int (pc := 7) G 10 (es2 := [.inr (6, [.null, .null, .null, vI 0]), ez_i X 10]) rfl (by decide) rfl (by decide) (by decide) dX6_init_7 ?_
  refine nn_putF (pc := 9) G (k := 0) (j := 0) (es2 := [.inr (6, [.ref (b + 1), .null, .null, vI 0]), ez_i X 10]) tk_X6 rfl (by decide) (by decide) fl_X6_9 rfl rfl rfl rfl rfl dX6_init_9 ?_
  refine nn_aload_n (pc := 12) G 0 dX6_init_12 rfl rfl ?_
  refine nn_bipush (pc := 13) G dX6_init_13 rfl ?_
  refine nn_newa_int (pc := 15) G 10 (es2 := [.inr (6, [.ref (b + 1), .null, .null, vI 0]), ez_i X 10, ez_i X 10]) rfl (by decide) rfl (by decide) (by decide) dX6_init_15 ?_
  refine nn_putF (pc := 17) G (k := 0) (j := 1) (es2 := [.inr (6, [.ref (b + 1), .ref (b + 2), .null, vI 0]), ez_i X 10, ez_i X 10]) tk_X6 rfl (by decide) (by decide) fl_X6_13 rfl rfl rfl rfl rfl dX6_init_17 ?_
  refine nn_aload_n (pc := 20) G 0 dX6_init_20 rfl rfl ?_
  refine nn_bipush (pc := 21) G dX6_init_21 rfl ?_
  refine nn_newa_int (pc := 23) G 10 (es2 := [.inr (6, [.ref (b + 1), .ref (b + 2), .null, vI 0]), ez_i X 10, ez_i X 10, ez_i X 10]) rfl (by decide) rfl (by decide) (by decide) dX6_init_23 ?_
  refine nn_putF (pc := 25) G (k := 0) (j := 2) (es2 := [.inr (6, [.ref (b + 1), .ref (b + 2), .ref (b + 3), vI 0]), ez_i X 10, ez_i X 10, ez_i X 10]) tk_X6 rfl (by decide) (by decide) fl_X6_16 rfl rfl rfl rfl rfl dX6_init_25 ?_
  exact nn_ret (pc := 28) G (fun H h1 h2 => ⟨h1, h2⟩) rfl rfl dX6_init_28
set_option maxRecDepth 100000 in
set_option maxHeartbeats 4000000 in
theorem nc_X7 (X : tp_X) (b : Nat) : tp_RetN X yX7_init (Cond.code yX7_init cX7_init 1 none) 2 1 80 b [.inr (7, [.null, vI 0])] [.inr (7, [.ref (b + 1), vI 0]), ez_i X 80] := by
  refine tp_ofN (by decide +kernel) rfl rfl rfl rfl (fun Z G => ?_)
  refine nn_aload_n (pc := 0) G 0 dX7_init_0 rfl rfl ?_
  refine nn_oinit (pc := 1) G mo_X7_3 (by decide) (Nat.le_of_ble_eq_true rfl) dX7_init_1 ?_
  refine nn_aload_n (pc := 4) G 0 dX7_init_4 rfl rfl ?_
  refine nn_bipush (pc := 5) G dX7_init_5 rfl ?_
  refine nn_newa_int (pc := 7) G 80 (es2 := [.inr (7, [.null, vI 0]), ez_i X 80]) rfl (by decide) rfl (by decide) (by decide) dX7_init_7 ?_
  refine nn_putF (pc := 9) G (k := 0) (j := 0) (es2 := [.inr (7, [.ref (b + 1), vI 0]), ez_i X 80]) tk_X7 rfl (by decide) (by decide) fl_X7_9 rfl rfl rfl rfl rfl dX7_init_9 ?_
  exact nn_ret (pc := 12) G (fun H h1 h2 => ⟨h1, h2⟩) rfl rfl dX7_init_12
set_option maxRecDepth 100000 in
set_option maxHeartbeats 4000000 in
theorem nc_X8 (X : tp_X) (b : Nat) : tp_RetN X yX8_init (Cond.code yX8_init cX8_init 1 none) 2 1 8 b [.inr (8, [.null, vI 0])] [.inr (8, [.ref (b + 1), vI 0]), ez_l X 8] := by
  refine tp_ofN (by decide +kernel) rfl rfl rfl rfl (fun Z G => ?_)
  refine nn_aload_n (pc := 0) G 0 dX8_init_0 rfl rfl ?_
  refine nn_oinit (pc := 1) G mo_X8_3 (by decide) (Nat.le_of_ble_eq_true rfl) dX8_init_1 ?_
  refine nn_aload_n (pc := 4) G 0 dX8_init_4 rfl rfl ?_
  refine nn_bipush (pc := 5) G dX8_init_5 rfl ?_
  refine nn_newa_long (pc := 7) G 8 (es2 := [.inr (8, [.null, vI 0]), ez_l X 8]) rfl (by decide) rfl (by decide) (by decide) dX8_init_7 ?_
  refine nn_putF (pc := 9) G (k := 0) (j := 0) (es2 := [.inr (8, [.ref (b + 1), vI 0]), ez_l X 8]) tk_X8 rfl (by decide) (by decide) fl_X8_9 rfl rfl rfl rfl rfl dX8_init_9 ?_
  exact nn_ret (pc := 12) G (fun H h1 h2 => ⟨h1, h2⟩) rfl rfl dX8_init_12
set_option maxRecDepth 100000 in
set_option maxHeartbeats 4000000 in
theorem nc_X9 (X : tp_X) (b : Nat) : tp_RetN X yX9_init (Cond.code yX9_init cX9_init 1 none) 2 4 125 b [.inr (9, [.null, .null, .null, .null, vI 0, vI 0, vI 0, vI 0, vI 0])] [.inr (9, [.ref (b + 1), .ref (b + 2), .ref (b + 3), .ref (b + 4), vI 0, vI 0, vI 0, vI 0, vI 0]), ez_i X 40, ez_i X 40, ez_i X 40, ez_z X 5] := by
  refine tp_ofN (by decide +kernel) rfl rfl rfl rfl (fun Z G => ?_)
  refine nn_aload_n (pc := 0) G 0 dX9_init_0 rfl rfl ?_
  refine nn_oinit (pc := 1) G mo_X9_3 (by decide) (Nat.le_of_ble_eq_true rfl) dX9_init_1 ?_
  refine nn_aload_n (pc := 4) G 0 dX9_init_4 rfl rfl ?_
  refine nn_bipush (pc := 5) G dX9_init_5 rfl ?_
  refine nn_newa_int (pc := 7) G 40 (es2 := [.inr (9, [.null, .null, .null, .null, vI 0, vI 0, vI 0, vI 0, vI 0]), ez_i X 40]) rfl (by decide) rfl (by decide) (by decide) dX9_init_7 ?_
  refine nn_putF (pc := 9) G (k := 0) (j := 0) (es2 := [.inr (9, [.ref (b + 1), .null, .null, .null, vI 0, vI 0, vI 0, vI 0, vI 0]), ez_i X 40]) tk_X9 rfl (by decide) (by decide) fl_X9_9 rfl rfl rfl rfl rfl dX9_init_9 ?_
  refine nn_aload_n (pc := 12) G 0 dX9_init_12 rfl rfl ?_
  refine nn_bipush (pc := 13) G dX9_init_13 rfl ?_
  refine nn_newa_int (pc := 15) G 40 (es2 := [.inr (9, [.ref (b + 1), .null, .null, .null, vI 0, vI 0, vI 0, vI 0, vI 0]), ez_i X 40, ez_i X 40]) rfl (by decide) rfl (by decide) (by decide) dX9_init_15 ?_
  refine nn_putF (pc := 17) G (k := 0) (j := 1) (es2 := [.inr (9, [.ref (b + 1), .ref (b + 2), .null, .null, vI 0, vI 0, vI 0, vI 0, vI 0]), ez_i X 40, ez_i X 40]) tk_X9 rfl (by decide) (by decide) fl_X9_15 rfl rfl rfl rfl rfl dX9_init_17 ?_
  refine nn_aload_n (pc := 20) G 0 dX9_init_20 rfl rfl ?_
  refine nn_bipush (pc := 21) G dX9_init_21 rfl ?_
  refine nn_newa_int (pc := 23) G 40 (es2 := [.inr (9, [.ref (b + 1), .ref (b + 2), .null, .null, vI 0, vI 0, vI 0, vI 0, vI 0]), ez_i X 40, ez_i X 40, ez_i X 40]) rfl (by decide) rfl (by decide) (by decide) dX9_init_23 ?_
  refine nn_putF (pc := 25) G (k := 0) (j := 2) (es2 := [.inr (9, [.ref (b + 1), .ref (b + 2), .ref (b + 3), .null, vI 0, vI 0, vI 0, vI 0, vI 0]), ez_i X 40, ez_i X 40, ez_i X 40]) tk_X9 rfl (by decide) (by decide) fl_X9_18 rfl rfl rfl rfl rfl dX9_init_25 ?_
  refine nn_aload_n (pc := 28) G 0 dX9_init_28 rfl rfl ?_
  refine nn_iconst (pc := 29) G dX9_init_29 ?_
  refine nn_newa_boolean (pc := 30) G 5 (es2 := [.inr (9, [.ref (b + 1), .ref (b + 2), .ref (b + 3), .null, vI 0, vI 0, vI 0, vI 0, vI 0]), ez_i X 40, ez_i X 40, ez_i X 40, ez_z X 5]) rfl (by decide) rfl (by decide) (by decide) dX9_init_30 ?_
  refine nn_putF (pc := 32) G (k := 0) (j := 3) (es2 := [.inr (9, [.ref (b + 1), .ref (b + 2), .ref (b + 3), .ref (b + 4), vI 0, vI 0, vI 0, vI 0, vI 0]), ez_i X 40, ez_i X 40, ez_i X 40, ez_z X 5]) tk_X9 rfl (by decide) (by decide) fl_X9_21 rfl rfl rfl rfl rfl dX9_init_32 ?_
  exact nn_ret (pc := 35) G (fun H h1 h2 => ⟨h1, h2⟩) rfl rfl dX9_init_35
