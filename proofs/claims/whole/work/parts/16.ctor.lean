theorem mo_X10_3 : Cond.methodLink RX10 3 objectInit ∈ tp_W := tp_W_of (tm_1 (List.mem_of_getElem? (i := 29) rfl)) rfl
theorem mo_X7_3 : Cond.methodLink RX7 3 objectInit ∈ tp_W := tp_W_of (tm_1 (List.mem_of_getElem? (i := 37) rfl)) rfl
theorem mo_X8_3 : Cond.methodLink RX8 3 objectInit ∈ tp_W := tp_W_of (tm_1 (List.mem_of_getElem? (i := 51) rfl)) rfl
theorem mo_X4_3 : Cond.methodLink RX4 3 objectInit ∈ tp_W := tp_W_of (tm_1 (List.mem_of_getElem? (i := 65) rfl)) rfl
theorem mo_X9_3 : Cond.methodLink RX9 3 objectInit ∈ tp_W := tp_W_of (tm_1 (List.mem_of_getElem? (i := 90) rfl)) rfl
theorem mo_X2_3 : Cond.methodLink RX2 3 objectInit ∈ tp_W := tp_W_of (tm_1 (List.mem_of_getElem? (i := 125) rfl)) rfl
theorem mo_X3_3 : Cond.methodLink RX3 3 objectInit ∈ tp_W := tp_W_of (tm_1 (List.mem_of_getElem? (i := 156) rfl)) rfl
theorem mo_X5_3 : Cond.methodLink RX5 3 objectInit ∈ tp_W := tp_W_of (tm_1 (List.mem_of_getElem? (i := 175) rfl)) rfl
theorem mo_X0_3 : Cond.methodLink RX0 3 objectInit ∈ tp_W := tp_W_of (tm_1 (List.mem_of_getElem? (i := 194) rfl)) rfl
theorem mo_X6_1 : Cond.methodLink RX6 1 objectInit ∈ tp_W := tp_W_of (tm_1 (List.mem_of_getElem? (i := 220) rfl)) rfl
theorem mo_X1_3 : Cond.methodLink RX1 3 objectInit ∈ tp_W := tp_W_of (tm_1 (List.mem_of_getElem? (i := 239) rfl)) rfl
theorem mo_X11_22 : Cond.methodLink RX11 22 objectInit ∈ tp_W := tp_W_of (tm_5 (List.mem_of_getElem? (i := 182) rfl)) rfl
theorem mo_i : Cond.instanceMethod objectInit ∈ tp_W := tp_W_of (tm_1 (List.mem_of_getElem? (i := 30) rfl)) rfl
theorem mo_c : Cond.code objectInit ⟨#[0xb1]⟩ 1 none ∈ tp_W := tp_W_of (tm_1 (List.mem_of_getElem? (i := 31) rfl)) rfl
theorem ma_int : Cond.arrayClass .int ∈ tp_W := tp_W_of (tm_1 (List.mem_of_getElem? (i := 45) rfl)) rfl
theorem ma_long : Cond.arrayClass .long ∈ tp_W := tp_W_of (tm_1 (List.mem_of_getElem? (i := 59) rfl)) rfl
theorem ma_boolean : Cond.arrayClass .boolean ∈ tp_W := tp_W_of (tm_1 (List.mem_of_getElem? (i := 119) rfl)) rfl
theorem cl_X0_9 : Cond.classLink RX0 9 "[[J" ∈ tp_W := tp_W_of (tm_1 (List.mem_of_getElem? (i := 195) rfl)) rfl
theorem cl_L_8 : Cond.classLink RL 8 RX10 ∈ tp_W := tp_W_of (tm_1 (List.mem_of_getElem? (i := 24) rfl)) rfl
theorem mt_X10 : Cond.instantiable RX10 19 ∈ tp_W := tp_W_of (tm_1 (List.mem_of_getElem? (i := 25) rfl)) rfl
theorem cl_X10_9 : Cond.classLink RX10 9 RX7 ∈ tp_W := tp_W_of (tm_1 (List.mem_of_getElem? (i := 32) rfl)) rfl
theorem mt_X7 : Cond.instantiable RX7 2 ∈ tp_W := tp_W_of (tm_1 (List.mem_of_getElem? (i := 33) rfl)) rfl
theorem cl_X10_16 : Cond.classLink RX10 16 RX8 ∈ tp_W := tp_W_of (tm_1 (List.mem_of_getElem? (i := 46) rfl)) rfl
theorem mt_X8 : Cond.instantiable RX8 2 ∈ tp_W := tp_W_of (tm_1 (List.mem_of_getElem? (i := 47) rfl)) rfl
theorem cl_X10_23 : Cond.classLink RX10 23 RX4 ∈ tp_W := tp_W_of (tm_1 (List.mem_of_getElem? (i := 60) rfl)) rfl
theorem mt_X4 : Cond.instantiable RX4 6 ∈ tp_W := tp_W_of (tm_1 (List.mem_of_getElem? (i := 61) rfl)) rfl
theorem cl_X10_33 : Cond.classLink RX10 33 RX9 ∈ tp_W := tp_W_of (tm_1 (List.mem_of_getElem? (i := 85) rfl)) rfl
theorem mt_X9 : Cond.instantiable RX9 9 ∈ tp_W := tp_W_of (tm_1 (List.mem_of_getElem? (i := 86) rfl)) rfl
theorem cl_X10_43 : Cond.classLink RX10 43 RX2 ∈ tp_W := tp_W_of (tm_1 (List.mem_of_getElem? (i := 120) rfl)) rfl
theorem mt_X2 : Cond.instantiable RX2 4 ∈ tp_W := tp_W_of (tm_1 (List.mem_of_getElem? (i := 121) rfl)) rfl
theorem cl_X10_56 : Cond.classLink RX10 56 RX3 ∈ tp_W := tp_W_of (tm_1 (List.mem_of_getElem? (i := 151) rfl)) rfl
theorem mt_X3 : Cond.instantiable RX3 4 ∈ tp_W := tp_W_of (tm_1 (List.mem_of_getElem? (i := 152) rfl)) rfl
theorem cl_X10_63 : Cond.classLink RX10 63 RX5 ∈ tp_W := tp_W_of (tm_1 (List.mem_of_getElem? (i := 170) rfl)) rfl
theorem mt_X5 : Cond.instantiable RX5 3 ∈ tp_W := tp_W_of (tm_1 (List.mem_of_getElem? (i := 171) rfl)) rfl
theorem cl_X10_70 : Cond.classLink RX10 70 RX0 ∈ tp_W := tp_W_of (tm_1 (List.mem_of_getElem? (i := 189) rfl)) rfl
theorem mt_X0 : Cond.instantiable RX0 5 ∈ tp_W := tp_W_of (tm_1 (List.mem_of_getElem? (i := 190) rfl)) rfl
theorem cl_X10_77 : Cond.classLink RX10 77 RX6 ∈ tp_W := tp_W_of (tm_1 (List.mem_of_getElem? (i := 215) rfl)) rfl
theorem mt_X6 : Cond.instantiable RX6 4 ∈ tp_W := tp_W_of (tm_1 (List.mem_of_getElem? (i := 216) rfl)) rfl
theorem cl_X10_84 : Cond.classLink RX10 84 RX1 ∈ tp_W := tp_W_of (tm_1 (List.mem_of_getElem? (i := 234) rfl)) rfl
theorem mt_X1 : Cond.instantiable RX1 3 ∈ tp_W := tp_W_of (tm_1 (List.mem_of_getElem? (i := 235) rfl)) rfl
theorem cl_L_23 : Cond.classLink RL 23 RX11 ∈ tp_W := tp_W_of (tm_5 (List.mem_of_getElem? (i := 177) rfl)) rfl
theorem mt_X11 : Cond.instantiable RX11 52 ∈ tp_W := tp_W_of (tm_5 (List.mem_of_getElem? (i := 178) rfl)) rfl
theorem cs_outer (c : ClassId) (N h0 : Nat) : ∀ i : Nat, Jvm.Free.Multi.outerC c N h0 i = arrV c N (fun j => va_rf (if j < i then some (h0 + 1 + j) else none))
  | 0 => by
    show ({ cls := c, slots := Array.replicate N .null, vm := .none } : Cell) = _
    rw [arrV_new]
    refine congrArg (arrV c N) (funext fun j => ?_)
    simp [va_rf]
  | i + 1 => by
    show (Jvm.Free.Multi.outerC c N h0 i).setSlot i (.ref (h0 + 1 + i)) = _
    rw [cs_outer c N h0 i, arrV_store]
    refine congrArg (arrV c N) (funext fun j => ?_)
    by_cases e : j = i
    · subst e
      simp [updV, va_rf]
    · by_cases h : j < i
      · simp [updV, e, h, Nat.lt_succ_of_lt h]
      · simp [updV, e, h, show ¬ j < i + 1 by omega]
theorem cs_arrV {c : ClassId} {N : Nat} {f g : Nat → Value} (h : ∀ j, j < N → f j = g j) : arrV c N f = arrV c N g := by
  unfold arrV
  congr 1
  congr 1
  funext j
  exact h j.1 j.2
def cs_ws (b : Nat) (es : List va_E) : va_W := es.mapIdx (fun i e => (b + i, e))
theorem cs_at {b k : Nat} {es : List va_E} {e : va_E} (h : es[k]? = some e) : (cs_ws b es)[k]? = some (b + k, e) := by simp [cs_ws, List.getElem?_mapIdx, h]
theorem cs_ge {b k : Nat} {es : List va_E} {q : Nat × va_E} (h : (cs_ws b es)[k]? = some q) : k < es.length ∧ q.1 = b + k ∧ es[k]? = some q.2 := by
  simp only [cs_ws, List.getElem?_mapIdx] at h
  cases he : es[k]? with
  | none => rw [he] at h; cases h
  | some e =>
    rw [he] at h
    have h2 := Option.some.inj h
    exact ⟨(List.getElem?_eq_some_iff.mp he).1, by rw [← h2], by rw [← h2]⟩
theorem cs_set {b k : Nat} {es : List va_E} {e : va_E} : (cs_ws b es).set k (b + k, e) = cs_ws b (es.set k e) := by
  apply List.ext_getElem?
  intro i
  rw [List.getElem?_set]
  simp only [cs_ws, List.getElem?_mapIdx, List.getElem?_set, List.length_mapIdx]
  by_cases hi : k = i
  · subst hi
    by_cases hk : k < es.length <;> simp [hk]
  · simp [hi]
theorem cs_app {b : Nat} {es : List va_E} {e : va_E} : cs_ws b (es ++ [e]) = cs_ws b es ++ [(b + es.length, e)] := by
  simp [cs_ws, List.mapIdx_append]
theorem cs_D {b : Nat} {es : List va_E} {A : Nat → Prop} (hA : ∀ q : Nat, b ≤ q → A q) : va_D A (cs_ws b es) := by
  refine ⟨fun i j p q hi hj h => ?_, fun k q hk => ?_⟩
  · have h1 := (cs_ge hi).2.1
    have h2 := (cs_ge hj).2.1
    omega
  · have h1 := (cs_ge hk).2.1
    exact hA _ (by omega)
def tp_rmN (dep mc ms : Nat) : Room := { frames := dep, cells := mc, slots := ms, locals := 64 * dep }
abbrev tp_Zt : Type := Program × Env × State × MethodId × Array Value × List Frame × Method × Code
def tp_Qn (b : Nat) (Fn : Heap → Prop) : Array Value → State → Outcome → State → Prop := va_Qv (fun _ : Unit => True) (fun _ t => Fn t.heap) (fun q => b ≤ q)
/-- long[][] stands over long[] -/
def tp_AO (U : State) : Prop := (Cond.arrayOver (.array .long)).before #[] U = true
theorem tp_AO_moved {u U : State} (hvm : u.vm.Alike U.vm) (h : tp_AO u) : tp_AO U := Jvm.Stand.arrayOver_alikeB hvm h
def tp_N (X : tp_X) (Z : tp_Zt) (b nL dep mc ms : Nat) (Fn : Heap → Prop) (es : List va_E) (cells slots : Nat) (lv : tp_V) (st : List Value) (pc : Nat) : Prop := match Z with
  | (p, e, s, m, args, below, meth, c) => ∀ (H : Heap) (locs : List Loc) (ls : Array Slot), va_P X.2.1 tp_cl (cs_ws b es) H → H.size = b + es.length → va_S (fun q => b ≤ q) s.heap H locs → lv_has ls nL lv → W p X.1 e (tp_rmN dep mc ms) s m args below meth c H locs cells slots (MQ below (tp_Qn b Fn) args s mc ms (fun q => b ≤ q)) (F0 m pc ls st)
def tp_NOk (X : tp_X) (Z : tp_Zt) (b : Nat) (cc : ByteArray) (nL : Nat) (own : String) : Prop := match Z with
  | (p, _, s, m, args, _, meth, c) => p.tables.exec = Jvm.exec ∧ c.code = cc ∧ c.maxLocals = nL ∧ s.vm.findClass own = some m.cls ∧ (∀ w ∈ tp_W, w.before args s = true) ∧ va_K X.2.1 tp_cl (tp_tys X.2.2.1) s ∧ (∀ w ∈ tp_NW, va_Nw w s) ∧ meth.sig.returnType = none ∧ meth.locks = false ∧ meth.name = "<init>" ∧ s.heap.size = b + 1 ∧ tp_AO s
def ez_i (X : tp_X) (n : Nat) : va_E := .inl (X.2.2.1 0, n, .inl (fun _ => Int32.ofInt 0))
def ez_l (X : tp_X) (n : Nat) : va_E := .inl (X.2.2.1 1, n, .inr (.inl (fun _ => Int64.ofInt 0)))
def ez_z (X : tp_X) (n : Nat) : va_E := .inl (X.2.2.1 2, n, .inl (fun _ => Int32.ofInt 0))
def ez_q (X : tp_X) (n a : Nat) : va_E := .inl (X.2.2.1 3, n, .inr (.inr (.inr (.inr (fun j => some (a + j))))))
section TN
variable {X : tp_X} {Z : tp_Zt} {b nL dep mc ms : Nat} {Fn : Heap → Prop} {cc : ByteArray} {own : String} {es : List va_E} {cells slots : Nat} {lv : tp_V} {st : List Value} {pc : Nat}
theorem nn_aload_n (G : tp_NOk X Z b cc nL own) {k : Fin 4} {i a : Nat} (q : Nat) (d : decode cc pc = .ok (.aload_n k, 1)) (hi : (k : Nat) = i) (hq : lv[q]? = some (i, .ref a)) (kk : tp_N X Z b nL dep mc ms Fn (es) (cells) (slots) lv (.ref a :: st) (pc + 1)) : tp_N X Z b nL dep mc ms Fn (es) (cells) (slots) lv (st) (pc) := by
  obtain ⟨p, e, s, m, args, below, meth, c⟩ := Z
  obtain ⟨hx, hb, hml, hown, hts, hK, hNW, hr, hlk, hin, hsz, hAO⟩ := G
  intro H locs ls hP hz hS hl
  refine lv_aload_n hx hb d hi (lv_at hl q hq) ?_
  exact kk H locs ls hP hz hS hl
theorem nn_iconst (G : tp_NOk X Z b cc nL own) {v : Int} (d : decode cc pc = .ok (.iconst v, 1)) (kk : tp_N X Z b nL dep mc ms Fn (es) (cells) (slots) lv (vI v :: st) (pc + 1)) : tp_N X Z b nL dep mc ms Fn (es) (cells) (slots) lv (st) (pc) := by
  obtain ⟨p, e, s, m, args, below, meth, c⟩ := Z
  obtain ⟨hx, hb, hml, hown, hts, hK, hNW, hr, hlk, hin, hsz, hAO⟩ := G
  intro H locs ls hP hz hS hl
  refine lv_iconst hx hb d rfl ?_
  exact kk H locs ls hP hz hS hl
theorem nn_bipush (G : tp_NOk X Z b cc nL own) {v : Int} (d : decode cc pc = .ok (.bipush v, 2)) (hv : (Int8.ofInt v).toInt32 = Int32.ofInt v) (kk : tp_N X Z b nL dep mc ms Fn (es) (cells) (slots) lv (vI v :: st) (pc + 2)) : tp_N X Z b nL dep mc ms Fn (es) (cells) (slots) lv (st) (pc) := by
  obtain ⟨p, e, s, m, args, below, meth, c⟩ := Z
  obtain ⟨hx, hb, hml, hown, hts, hK, hNW, hr, hlk, hin, hsz, hAO⟩ := G
  intro H locs ls hP hz hS hl
  refine lv_bipush hx hb d hv ?_
  exact kk H locs ls hP hz hS hl
theorem nn_sipush (G : tp_NOk X Z b cc nL own) {v : Int} (d : decode cc pc = .ok (.sipush v, 3)) (hv : (Int16.ofInt v).toInt32 = Int32.ofInt v) (kk : tp_N X Z b nL dep mc ms Fn (es) (cells) (slots) lv (vI v :: st) (pc + 3)) : tp_N X Z b nL dep mc ms Fn (es) (cells) (slots) lv (st) (pc) := by
  obtain ⟨p, e, s, m, args, below, meth, c⟩ := Z
  obtain ⟨hx, hb, hml, hown, hts, hK, hNW, hr, hlk, hin, hsz, hAO⟩ := G
  intro H locs ls hP hz hS hl
  refine lv_sipush hx hb d hv ?_
  exact kk H locs ls hP hz hS hl
theorem nn_dup (G : tp_NOk X Z b cc nL own) {v : Value} (d : decode cc pc = .ok (.dup, 1)) (hv : v.category = 1) (kk : tp_N X Z b nL dep mc ms Fn (es) (cells) (slots) lv (v :: v :: st) (pc + 1)) : tp_N X Z b nL dep mc ms Fn (es) (cells) (slots) lv (v :: st) (pc) := by
  obtain ⟨p, e, s, m, args, below, meth, c⟩ := Z
  obtain ⟨hx, hb, hml, hown, hts, hK, hNW, hr, hlk, hin, hsz, hAO⟩ := G
  intro H locs ls hP hz hS hl
  refine lv_dup hx hb d hv ?_
  exact kk H locs ls hP hz hS hl
theorem nn_oinit (G : tp_NOk X Z b cc nL own) {i a : Nat} (hw : Cond.methodLink own i objectInit ∈ tp_W) (hd : 1 ≤ dep) (hcat : (st.map fun v => v.category).sum ≤ 8) (d : decode cc pc = .ok (.invokespecial i, 3)) (kk : tp_N X Z b nL dep mc ms Fn (es) (cells) (slots) lv (st) (pc + 3)) : tp_N X Z b nL dep mc ms Fn (es) (cells) (slots) lv (.ref a :: st) (pc) := by
  obtain ⟨p, e, s, m, args, below, meth, c⟩ := Z
  obtain ⟨hx, hb, hml, hown, hts, hK, hNW, hr, hlk, hin, hsz, hAO⟩ := G
  intro H locs ls hP hz hS hl
  refine W.objInit hx hb hown (hts _ hw) (hts _ mo_i) (hts _ mo_c) rfl (hl.1.trans hml.symm) rfl d hd (by show 2 * 0 + _ + 12 ≤ 64 * dep; omega) ?_
  exact kk H locs ls hP hz hS hl
theorem nn_newa_int (G : tp_NOk X Z b cc nL own) {n : Int} (n2 : Nat) {es2 : List va_E} (hn : n = n2) (hn2 : n2 < 1000) (he : es ++ [ez_i X n2] = es2) (hc : cells + 1 ≤ mc) (hs : slots + n2 ≤ ms) (d : decode cc pc = .ok (.newarray .int, 2)) (kk : tp_N X Z b nL dep mc ms Fn (es2) (cells + 1) (slots + n2) lv (.ref (b + es.length) :: st) (pc + 2)) : tp_N X Z b nL dep mc ms Fn (es) (cells) (slots) lv (vI n :: st) (pc) := by
  obtain ⟨p, e, s, m, args, below, meth, c⟩ := Z
  obtain ⟨hx, hb, hml, hown, hts, hK, hNW, hr, hlk, hin, hsz, hAO⟩ := G
  intro H locs ls hP hz hS hl
  subst hn; subst he
  have hcl : (Int32.ofInt (n2 : Int)).toNatClampNeg = n2 := by rw [Int32.toNatClampNeg, w32_eq, w32_id (by omega)]; omega
  refine va_newaK hx hb (atype := .int) (hts _ ma_int) rfl d rfl (by rw [wi_lt0, w32_id (by omega)]; omega) hcl (by
      have h7 : componentBytes .int ≤ 8 := by decide
      have h8 := Nat.mul_le_mul_left n2 h7
      exact Nat.le_trans h8 (by omega)) hc hs hz (fun H1 cA e1 z1 o1 hAr hNm => ?_)
  have hcA : cA = X.2.2.1 0 := Option.some.inj (hNm.symm.trans (hK.2 0 _ rfl).2)
  subst hcA
  refine kk H1 locs ls ?_ (by rw [z1]; simp; omega) ⟨by rw [z1]; have := hS.1; omega, fun x h1 h2 => (o1 x (by have := hS.1; omega)).trans (hS.2.1 x h1 h2), hS.2.2⟩ hl
  rw [cs_app]
  intro k x hx
  by_cases hk : k < (cs_ws b es).length
  · rw [List.getElem?_append_left hk] at hx
    have h8 := hP k x hx
    exact h8.kept (o1 _ (by have := h8.lt; omega))
  · rw [List.getElem?_append_right (by omega)] at hx
    have h0 : k - (cs_ws b es).length < 1 := (List.getElem?_eq_some_iff.mp hx).1
    rw [show k - (cs_ws b es).length = 0 by omega] at hx
    cases hx
    exact e1
theorem nn_newa_long (G : tp_NOk X Z b cc nL own) {n : Int} (n2 : Nat) {es2 : List va_E} (hn : n = n2) (hn2 : n2 < 1000) (he : es ++ [ez_l X n2] = es2) (hc : cells + 1 ≤ mc) (hs : slots + n2 ≤ ms) (d : decode cc pc = .ok (.newarray .long, 2)) (kk : tp_N X Z b nL dep mc ms Fn (es2) (cells + 1) (slots + n2) lv (.ref (b + es.length) :: st) (pc + 2)) : tp_N X Z b nL dep mc ms Fn (es) (cells) (slots) lv (vI n :: st) (pc) := by
  obtain ⟨p, e, s, m, args, below, meth, c⟩ := Z
  obtain ⟨hx, hb, hml, hown, hts, hK, hNW, hr, hlk, hin, hsz, hAO⟩ := G
  intro H locs ls hP hz hS hl
  subst hn; subst he
  have hcl : (Int32.ofInt (n2 : Int)).toNatClampNeg = n2 := by rw [Int32.toNatClampNeg, w32_eq, w32_id (by omega)]; omega
  refine va_newaK hx hb (atype := .long) (hts _ ma_long) rfl d rfl (by rw [wi_lt0, w32_id (by omega)]; omega) hcl (by
      have h7 : componentBytes .long ≤ 8 := by decide
      have h8 := Nat.mul_le_mul_left n2 h7
      exact Nat.le_trans h8 (by omega)) hc hs hz (fun H1 cA e1 z1 o1 hAr hNm => ?_)
  have hcA : cA = X.2.2.1 1 := Option.some.inj (hNm.symm.trans (hK.2 1 _ rfl).2)
  subst hcA
  refine kk H1 locs ls ?_ (by rw [z1]; simp; omega) ⟨by rw [z1]; have := hS.1; omega, fun x h1 h2 => (o1 x (by have := hS.1; omega)).trans (hS.2.1 x h1 h2), hS.2.2⟩ hl
  rw [cs_app]
  intro k x hx
  by_cases hk : k < (cs_ws b es).length
  · rw [List.getElem?_append_left hk] at hx
    have h8 := hP k x hx
    exact h8.kept (o1 _ (by have := h8.lt; omega))
  · rw [List.getElem?_append_right (by omega)] at hx
    have h0 : k - (cs_ws b es).length < 1 := (List.getElem?_eq_some_iff.mp hx).1
    rw [show k - (cs_ws b es).length = 0 by omega] at hx
    cases hx
    exact e1
theorem nn_newa_boolean (G : tp_NOk X Z b cc nL own) {n : Int} (n2 : Nat) {es2 : List va_E} (hn : n = n2) (hn2 : n2 < 1000) (he : es ++ [ez_z X n2] = es2) (hc : cells + 1 ≤ mc) (hs : slots + n2 ≤ ms) (d : decode cc pc = .ok (.newarray .boolean, 2)) (kk : tp_N X Z b nL dep mc ms Fn (es2) (cells + 1) (slots + n2) lv (.ref (b + es.length) :: st) (pc + 2)) : tp_N X Z b nL dep mc ms Fn (es) (cells) (slots) lv (vI n :: st) (pc) := by
  obtain ⟨p, e, s, m, args, below, meth, c⟩ := Z
  obtain ⟨hx, hb, hml, hown, hts, hK, hNW, hr, hlk, hin, hsz, hAO⟩ := G
  intro H locs ls hP hz hS hl
  subst hn; subst he
  have hcl : (Int32.ofInt (n2 : Int)).toNatClampNeg = n2 := by rw [Int32.toNatClampNeg, w32_eq, w32_id (by omega)]; omega
  refine va_newaK hx hb (atype := .boolean) (hts _ ma_boolean) rfl d rfl (by rw [wi_lt0, w32_id (by omega)]; omega) hcl (by
      have h7 : componentBytes .boolean ≤ 8 := by decide
      have h8 := Nat.mul_le_mul_left n2 h7
      exact Nat.le_trans h8 (by omega)) hc hs hz (fun H1 cA e1 z1 o1 hAr hNm => ?_)
  have hcA : cA = X.2.2.1 2 := Option.some.inj (hNm.symm.trans (hK.2 2 _ rfl).2)
  subst hcA
  refine kk H1 locs ls ?_ (by rw [z1]; simp; omega) ⟨by rw [z1]; have := hS.1; omega, fun x h1 h2 => (o1 x (by have := hS.1; omega)).trans (hS.2.1 x h1 h2), hS.2.2⟩ hl
  rw [cs_app]
  intro k x hx
  by_cases hk : k < (cs_ws b es).length
  · rw [List.getElem?_append_left hk] at hx
    have h8 := hP k x hx
    exact h8.kept (o1 _ (by have := h8.lt; omega))
  · rw [List.getElem?_append_right (by omega)] at hx
    have h0 : k - (cs_ws b es).length < 1 := (List.getElem?_eq_some_iff.mp hx).1
    rw [show k - (cs_ws b es).length = 0 by omega] at hx
    cases hx
    exact e1
theorem nn_new (G : tp_NOk X Z b cc nL own) {ci i Nf : Nat} {C : String} {T : u_T} {ty : Nat → FieldType} {fs : List Value} {es2 : List va_E} (Cx : tp_Cl ci C T Nf ty) (hw : Cond.classLink own i C ∈ tp_W) (hw2 : Cond.instantiable C Nf ∈ tp_W) (hw3 : Cond.initialized C ∈ tp_W) (hfs : ∀ j, j < Nf → defaultValue (ty j) = vp_V fs j) (he : es ++ [.inr (ci, fs)] = es2) (hc : cells + 1 ≤ mc) (hs : slots + Nf ≤ ms) (d : decode cc pc = .ok (.new i, 3)) (kk : tp_N X Z b nL dep mc ms Fn (es2) (cells + 1) (slots + Nf) lv (.ref (b + es.length) :: st) (pc + 3)) : tp_N X Z b nL dep mc ms Fn (es) (cells) (slots) lv (st) (pc) := by
  obtain ⟨p, e, s, m, args, below, meth, c⟩ := Z
  obtain ⟨hx, hb, hml, hown, hts, hK, hNW, hr, hlk, hin, hsz, hAO⟩ := G
  intro H locs ls hP hz hS hl
  subst he
  have hKn := hK.1 ci _ Cx.1
  refine W.newcK hx hb hown (hts _ hw) (hts _ hw2) (hts _ hw3) rfl d hc hs hKn.2.1 hz (fun H1 kC hkC e1 z1 o1 => ?_)
  refine kk H1 locs ls ?_ (by rw [z1]; simp; omega) ⟨by rw [z1]; have := hS.1; omega, fun x h1 h2 => (o1 x (by have := hS.1; omega)).trans (hS.2.1 x h1 h2), hS.2.2⟩ hl
  rw [cs_app]
  intro k x hx
  by_cases hk : k < (cs_ws b es).length
  · rw [List.getElem?_append_left hk] at hx
    have h8 := hP k x hx
    exact h8.kept (o1 _ (by have := h8.lt; omega))
  · rw [List.getElem?_append_right (by omega)] at hx
    have h0 : k - (cs_ws b es).length < 1 := (List.getElem?_eq_some_iff.mp hx).1
    rw [show k - (cs_ws b es).length = 0 by omega] at hx
    cases hx
    exact ⟨_, Cx.1, (u_born ty hts Cx.2.1 hKn hkC e1 Cx.2.2.1).to hfs⟩
theorem nn_putF (G : tp_NOk X Z b cc nL own) {ci j k Nf index : Nat} {C : String} {T : u_T} {ty : Nat → FieldType} {fs : List Value} {v : Value} {es2 : List va_E} (Cx : tp_Cl ci C T Nf ty) (hk : es[k]? = some (.inr (ci, fs))) (hjN : j < Nf) (hjl : j < fs.length) (hw : Cond.fieldLink own index (T j).1 (T j).2.1 (T j).2.2.1 ∈ tp_W) (he : es.set k (.inr (ci, fs.set j v)) = es2) (hfin : (T j).2.2.2 = true) (hdecl : (T j).1 = own) (hnr : narrow (ty j) v = v) (hft : fits (ty j) v = true) (d : decode cc pc = .ok (.putfield index, 3)) (kk : tp_N X Z b nL dep mc ms Fn (es2) (cells) (slots) lv (st) (pc + 3)) : tp_N X Z b nL dep mc ms Fn (es) (cells) (slots) lv (v :: .ref (b + k) :: st) (pc) := by
  obtain ⟨p, e, s, m, args, below, meth, c⟩ := Z
  obtain ⟨hx, hb, hml, hown, hts, hK, hNW, hr, hlk, hin, hsz, hAO⟩ := G
  intro H locs ls hP hz hS hl
  subst he
  have hws := cs_at (b := b) hk
  have hap := va_apart (own := own) hts Cx.2.1 ty Cx.2.2.1 Cx.2.2.2 hK Cx.1
  obtain ⟨r9, h1, cell, q1, q2, q3, q4⟩ := hP k _ hws
  have hr9 : r9 = (C, T, Nf) := Option.some.inj (h1.symm.trans Cx.1)
  subst hr9
  obtain ⟨hSl, hfc, kC, hkC, hkind⟩ := hK.1 ci _ Cx.1
  obtain ⟨cf, kf, fi, f, hi, hsl⟩ := hSl j hjN
  have hlay := hts _ (Cx.2.1 _ (u_in_lay hjN))
  unfold u_lay at hlay
  rw [if_pos hfin] at hlay
  have hst := (u_facts hfc hkC (u_lays hts Cx.2.1 hjN) hi).1
  have hcf : m.cls = cf := by
    obtain ⟨_, _, c9, _, _, _, -, -, hf9, -, -, -, hown2, -⟩ := Cond.laysFinal_spec hlay
    have e1 : c9 = cf := by have := hi.symm.trans hf9; simp at this; exact this.1.symm
    rw [hdecl] at hown2
    rw [← e1]; exact Option.some.inj (hown.symm.trans hown2)
  have h6 := u_fits hfc hkC hkind (Or.inr hlay) hi (Cx.2.2.1 j hjN) hnr hft
  refine W.putFinK hx hb hown (hts _ hw) hi hst hcf hin (by rw [q2]; exact h6) q1 q3 (by rw [hsl]; exact k2_hasslot (q4 j hjN)) rfl rfl d fun H1 e1 e2 e3 => ?_
  rw [hsl] at e1 ⊢
  have hP1 := hP.set (cs_D (A := fun q => b ≤ q) (fun _ h => h)) hws (e := .inr (ci, fs.set j v)) (show va_at X.2.1 tp_cl (b + k, .inr (ci, fs.set j v)) H1 from ⟨_, Cx.1, t_OB.to (V := updV (vp_V fs) j v) ⟨_, e1, q2, q3, t_set q4 hap hjN v⟩ (fun j9 _ => vp_updV_set hjl v j9)⟩) e3
  rw [cs_set] at hP1
  exact kk H1 _ ls hP1 (by rw [e2, hz]; simp) (hS.put e2 e3 (by show b ≤ b + k; omega)) hl
theorem nn_putI (G : tp_NOk X Z b cc nL own) {ci j k Nf index : Nat} {C : String} {T : u_T} {ty : Nat → FieldType} {fs : List Value} {v : Value} {es2 : List va_E} (Cx : tp_Cl ci C T Nf ty) (hk : es[k]? = some (.inr (ci, fs))) (hjN : j < Nf) (hjl : j < fs.length) (hw : Cond.fieldLink own index (T j).1 (T j).2.1 (T j).2.2.1 ∈ tp_W) (he : es.set k (.inr (ci, fs.set j v)) = es2) (hfin : (T j).2.2.2 = false) (hnr : narrow (ty j) v = v) (hft : fits (ty j) v = true) (d : decode cc pc = .ok (.putfield index, 3)) (kk : tp_N X Z b nL dep mc ms Fn (es2) (cells) (slots) lv (st) (pc + 3)) : tp_N X Z b nL dep mc ms Fn (es) (cells) (slots) lv (v :: .ref (b + k) :: st) (pc) := by
  obtain ⟨p, e, s, m, args, below, meth, c⟩ := Z
  obtain ⟨hx, hb, hml, hown, hts, hK, hNW, hr, hlk, hin, hsz, hAO⟩ := G
  intro H locs ls hP hz hS hl
  subst he
  have hws := cs_at (b := b) hk
  have hap := va_apart (own := own) hts Cx.2.1 ty Cx.2.2.1 Cx.2.2.2 hK Cx.1
  obtain ⟨r9, h1, cell, q1, q2, q3, q4⟩ := hP k _ hws
  have hr9 : r9 = (C, T, Nf) := Option.some.inj (h1.symm.trans Cx.1)
  subst hr9
  obtain ⟨hSl, hfc, kC, hkC, hkind⟩ := hK.1 ci _ Cx.1
  obtain ⟨cf, kf, fi, f, hi, hsl⟩ := hSl j hjN
  have hlay := hts _ (Cx.2.1 _ (u_in_lay hjN))
  unfold u_lay at hlay
  rw [if_neg (by rw [hfin]; decide)] at hlay
  have hst := (u_facts hfc hkC (u_lays hts Cx.2.1 hjN) hi).1
  have h6 := u_store hfc hkC hkind hlay hi (Cx.2.2.1 j hjN) hnr hft
  refine W.putK hx hb (f := f) ⟨hown, hts _ hw, ⟨_, _, _, hi⟩, hst⟩ (by rw [q2]; exact h6) q1 q3 (by rw [hsl]; exact k2_hasslot (q4 j hjN)) rfl rfl d fun H1 e1 e2 e3 => ?_
  rw [hsl] at e1 ⊢
  have hP1 := hP.set (cs_D (A := fun q => b ≤ q) (fun _ h => h)) hws (e := .inr (ci, fs.set j v)) (show va_at X.2.1 tp_cl (b + k, .inr (ci, fs.set j v)) H1 from ⟨_, Cx.1, t_OB.to (V := updV (vp_V fs) j v) ⟨_, e1, q2, q3, t_set q4 hap hjN v⟩ (fun j9 _ => vp_updV_set hjl v j9)⟩) e3
  rw [cs_set] at hP1
  exact kk H1 _ ls hP1 (by rw [e2, hz]; simp) (hS.put e2 e3 (by show b ≤ b + k; omega)) hl
theorem nn_mna (G : tp_NOk X Z b cc nL own) {es2 : List va_E} (he : es ++ (ez_q X 8 (b + es.length + 1) :: List.replicate 8 (ez_l X 9)) = es2) (hc : cells + 1 + 8 ≤ mc) (hs : slots + 8 + 8 * 9 ≤ ms) (ho : own = RX0) (d : decode cc pc = .ok (.multianewarray 9 2, 4)) (kk : tp_N X Z b nL dep mc ms Fn (es2) (cells + 1 + 8) (slots + 8 + 8 * 9) lv (.ref (b + es.length) :: st) (pc + 4)) : tp_N X Z b nL dep mc ms Fn (es) (cells) (slots) lv (vI 9 :: vI 8 :: st) (pc) := by
  obtain ⟨p, e, s, m, args, below, meth, c⟩ := Z
  obtain ⟨hx, hb, hml, hown, hts, hK, hNW, hr, hlk, hin, hsz, hAO⟩ := G
  intro H locs ls hP hz hS hl
  subst he; subst ho
  intro T hT Xs
  obtain ⟨vm₁, cA, comp, -, fA, fC, hO, -, X', step⟩ := Xs.multianewarray2F hx hown (ty := .long) (hts _ cl_X0_9) (show (Cond.arrayOver (.array .long)).before args s = true from hAO) (hts _ ma_long) (g := F0 m pc ls (vI 9 :: vI 8 :: st)) rfl (by rw [hb]; exact d) (n := 8) (k := 9) rfl (by decide) (by decide) (by decide) (by decide) (by decide) rfl rfl (by show cells + (1 + 8) ≤ mc; omega) (by show slots + (8 + 8 * 9) ≤ ms; omega)
  have eA : cA = X.2.2.1 3 := Option.some.inj (fA.symm.trans (hK.2 3 _ rfl).2)
  have eC : comp = X.2.2.1 1 := Option.some.inj (fC.symm.trans (hK.2 1 _ rfl).2)
  subst eA; subst eC
  have h8 : (8 : Int32).toNatClampNeg = 8 := by decide
  have h9 : (9 : Int32).toNatClampNeg = 9 := by decide
  rw [h8, h9] at X' step
  generalize hF : Jvm.Free.Multi.fill (T.setVm vm₁) (X.2.2.1 3) (X.2.2.1 1) 8 9 (defaultValue .long) 8 = F at X' step
  have hTh : (T.setVm vm₁).heap = H := hT
  obtain ⟨f1, f2, -, -⟩ := Jvm.Free.Multi.fill_facts (T.setVm vm₁) (X.2.2.1 3) (X.2.2.1 1) 8 9 (defaultValue .long) 8
  rw [hF, hTh] at f1 f2
  have hold : ∀ x : Nat, x < H.size → F.heap[x]? = H[x]? := fun x hx => by
    have := Jvm.Free.Multi.fill_old (T.setVm vm₁) (X.2.2.1 3) (X.2.2.1 1) 8 9 (defaultValue .long) (a := x) (by rw [hTh]; exact hx) 8
    rw [hF, hTh] at this
    exact this
  have hrow : ∀ j : Nat, j < 8 → F.heap[H.size + 1 + j]? = some (vp_cell (X.2.2.1 1) (9, .inr (.inl (fun _ => Int64.ofInt 0)))) := fun j hj => by
    have := Jvm.Free.Multi.fill_inner (T.setVm vm₁) (X.2.2.1 3) (X.2.2.1 1) 8 9 (defaultValue .long) 8 j hj
    rw [hF, hTh] at this
    rw [this]
    show some ({ cls := X.2.2.1 1, slots := Array.replicate 9 (defaultValue .long), vm := .none } : Cell) = _
    rw [arrV_new, vp_cell_l]
    rfl
  have hout : F.heap[H.size]? = some (vp_cell (X.2.2.1 3) (8, .inr (.inr (.inr (.inr (fun i => some (H.size + 1 + i))))))) := by
    rw [f2, vp_cell_q, cs_outer]
    exact congrArg some (cs_arrV fun j hj => by rw [if_pos hj])
  have eT : T.heap.size = H.size := by rw [hT]
  rw [eT] at step
  have hfs : F.heap.size = b + (es.length + 9) := by rw [f1, hz]; omega
  have hP1 : va_P X.2.1 tp_cl (cs_ws b (es ++ (ez_q X 8 (b + es.length + 1) :: List.replicate 8 (ez_l X 9)))) F.heap := by
    intro k x hx
    obtain ⟨g1, g2, g3⟩ := cs_ge hx
    by_cases hk : k < es.length
    · rw [List.getElem?_append_left hk] at g3
      have h8 := hP k (b + k, x.2) (cs_at g3)
      have h7 : va_at X.2.1 tp_cl x H := by
        have e9 : x = (b + k, x.2) := by rw [← g2]
        rw [e9]; exact h8
      exact h7.kept (hold _ h7.lt)
    · rw [List.getElem?_append_right (by omega)] at g3
      obtain ⟨x1, x2⟩ := x
      obtain rfl : x1 = b + k := g2
      obtain ⟨j, rfl⟩ : ∃ j, k = es.length + j := ⟨k - es.length, by omega⟩
      rw [show es.length + j - es.length = j by omega] at g3
      cases j with
      | zero =>
        obtain rfl : ez_q X 8 (b + es.length + 1) = x2 := by simpa using g3
        have h7 := hout
        rw [hz] at h7
        exact h7
      | succ j =>
        simp only [List.getElem?_cons_succ, List.getElem?_replicate] at g3
        split at g3
        · obtain rfl : ez_l X 9 = x2 := by simpa using g3
          have h7 := hrow j (by omega)
          rw [hz, show b + es.length + 1 + j = b + (es.length + (j + 1)) by omega] at h7
          exact h7
        · cases g3
  obtain ⟨t, a1, b1⟩ := kk F.heap locs ls hP1 (by rw [hfs]; simp) ⟨by rw [hfs]; have := hS.1; omega, fun x h1 h2 => (hold x (by have := hS.1; omega)).trans (hS.2.1 x h1 h2), hS.2.2⟩ hl F rfl X'
  rw [hz] at step
  exact ⟨t, step t a1, b1⟩
theorem nn_ret (G : tp_NOk X Z b cc nL own) (hF : ∀ H : Heap, H.size = b + es.length → va_P X.2.1 tp_cl (cs_ws b es) H → Fn H) (hc : cells = mc) (hs : slots = ms) (d : decode cc pc = .ok (.return_, 1)) : tp_N X Z b nL dep mc ms Fn (es) (cells) (slots) lv [] (pc) := by
  obtain ⟨p, e, s, m, args, below, meth, c⟩ := Z
  obtain ⟨hx, hb, hml, hown, hts, hK, hNW, hr, hlk, hin, hsz, hAO⟩ := G
  intro H locs ls hP hz hS hl
  subst hc; subst hs
  exact W.vret hx hb hr (fun t ht _ => ⟨⟨(), rfl, trivial, by show Fn t.heap; rw [ht]; exact hF H hz hP⟩, by rw [va_F]; exact ⟨by rw [ht]; exact hS.1, fun q h1 h2 => by rw [ht]; exact hS.2.1 q h1 h2⟩⟩) (fun q hq => hS.2.2 q hq) d hlk
theorem nn_get (G : tp_NOk X Z b cc nL own) {ci j k Nf index : Nat} {C : String} {T : u_T} {ty : Nat → FieldType} {fs : List Value} {v : Value} (Cx : tp_Cl ci C T Nf ty) (hk : es[k]? = some (.inr (ci, fs))) (hjN : j < Nf) (hv : fs[j]? = some v) (hw : Cond.fieldLink own index (T j).1 (T j).2.1 (T j).2.2.1 ∈ tp_W) (d : decode cc pc = .ok (.getfield index, 3)) (kk : tp_N X Z b nL dep mc ms Fn (es) (cells) (slots) lv (v :: st) (pc + 3)) : tp_N X Z b nL dep mc ms Fn (es) (cells) (slots) lv (.ref (b + k) :: st) (pc) := by
  obtain ⟨p, e, s, m, args, below, meth, c⟩ := Z
  obtain ⟨hx, hb, hml, hown, hts, hK, hNW, hr, hlk, hin, hsz, hAO⟩ := G
  intro H locs ls hP hz hS hl
  refine va_get hx hb (ws := cs_ws b es) hts Cx.2.1 hown hK hP k (cs_at hk) Cx.1 j hjN (hts _ hw) (fun x h => h) hv d ?_
  exact kk H locs ls hP hz hS hl
theorem nn_iast (G : tp_NOk X Z b cc nL own) {k n : Nat} {f : Nat → Int32} {i x : Int} {es2 : List va_E} (hk : es[k]? = some (.inl (X.2.2.1 0, n, .inl f))) (hi : 0 ≤ w32 i ∧ w32 i < n) (he : es.set k (.inl (X.2.2.1 0, n, .inl (upd f (Int32.ofInt i).toNatClampNeg (Int32.ofInt x)))) = es2) (d : decode cc pc = .ok (.iastore, 1)) (kk : tp_N X Z b nL dep mc ms Fn (es2) (cells) (slots) lv (st) (pc + 1)) : tp_N X Z b nL dep mc ms Fn (es) (cells) (slots) lv (vI x :: vI i :: .ref (b + k) :: st) (pc) := by
  obtain ⟨p, e, s, m, args, below, meth, c⟩ := Z
  obtain ⟨hx, hb, hml, hown, hts, hK, hNW, hr, hlk, hin, hsz, hAO⟩ := G
  intro H locs ls hP hz hS hl
  subst he
  have hws := cs_at (b := b) hk
  refine W.iast hx hb (hP k _ hws) ((hK.2 0 _ rfl).1 n (fun j => .int (f j))) (fun q => by cases q) (by show ¬ (_ ∨ (arrV _ _ _).slots.size ≤ _); rw [arrV_size]; exact wi_in hi) rfl rfl d fun H1 e1 e2 e3 => ?_
  have hP1 := hP.set (cs_D (A := fun q => b ≤ q) (fun _ h => h)) hws (e := .inl (X.2.2.1 0, n, .inl (upd f (Int32.ofInt i).toNatClampNeg (Int32.ofInt x)))) (by
    show H1[b + k]? = some (vp_cell _ _)
    rw [e1]
    rw [vp_cell_i, vp_cell_i, arrV_store]
    congr 2
    funext q
    by_cases hq : q = (Int32.ofInt i).toNatClampNeg
    · subst hq
      simp [updV, upd]
    · simp [updV, upd, hq]) e3
  rw [cs_set] at hP1
  exact kk H1 _ ls hP1 (by rw [e2, hz]; simp) (hS.put e2 e3 (by show b ≤ b + k; omega)) hl
end TN
def tp_Bn (X : tp_X) (b : Nat) (es : List va_E) (U : State) : Prop := U.heap.size = b + 1 ∧ va_P X.2.1 tp_cl (cs_ws b es) U.heap ∧ va_K X.2.1 tp_cl (tp_tys X.2.2.1) U ∧ (∀ w ∈ tp_NW, va_Nw w U) ∧ tp_AO U
theorem tp_blindn {X : tp_X} {b : Nat} {es : List va_E} {av : List Value} : FrameBlind (va_Pc av (tp_Bn X b es)) := by
  intro a U g mk h
  obtain ⟨h1, hz, hP, hK, hNW, hAO⟩ := h
  have hvm : (U.calling g mk a).vm = U.vm := rfl
  have hW : U.WarmedH (U.calling g mk a).vm := by rw [hvm]; exact State.WarmedH.refl U
  exact ⟨h1, hz, hP, va_K.moved (u := U) (U := U.calling g mk a) (Vm.Alike.refl U.vm) hK, tp_NW_warm hW hNW, hAO⟩
/-- the contract of a class's constructor: the object stands last; what it makes stands behind it -/
def tp_RetN (X : tp_X) (y : MethodName) (cw : Cond) (dep mc ms b : Nat) (es0 es9 : List va_E) : Prop :=
  Met X.1 y (cw :: tp_W) (tp_rmN dep mc ms) (va_Pc [.ref b] (tp_Bn X b es0)) (tp_Qn b (fun H => H.size = b + es9.length ∧ va_P X.2.1 tp_cl (cs_ws b es9) H)) mc ms (fun q => b ≤ q)
theorem tp_ofN {X : tp_X} {y : MethodName} {cw : Cond} {dep mc ms b : Nat} {es0 es9 : List va_E} {cc : ByteArray} {own : String} (hy : plainName y.cls = true) (hcw : cw = Cond.code y cc 1 none) (hown : y.cls = own) (hnm : y.name = "<init>") (hlen : es0.length = 1)
    (body : ∀ Z : tp_Zt, tp_NOk X Z b cc 1 own → tp_N X Z b 1 dep mc ms (fun H => H.size = b + es9.length ∧ va_P X.2.1 tp_cl (cs_ws b es9) H) es0 0 0 [(0, .ref b)] [] 0) : tp_RetN X y cw dep mc ms b es0 es9 := by
  refine Met.ofW (cc := cc) (maxL := 1) (ret := none) hy (by rw [hcw]) ?_
  intro p e s m args below meth c s₁ B hml2 hv
  obtain ⟨rfl, hz, hP, hK, hNW, hAO⟩ := hv
  have hts := atoms_spec (ws := cw :: tp_W) B.pre
  have hl := lv_entry [Value.ref b] (n := 1) (Nat.le_of_ble_eq_true rfl)
  have hJ := body (p, e, s, m, [Value.ref b].toArray, below, meth, c) ⟨B.exec, B.bytes, hml2, by rw [← hown]; exact findClass_of_methodNamed B.named, fun w hw => hts w (List.mem_cons_of_mem _ hw), hK, hNW, B.returns, B.notSynchronized, by rw [← hnm]; exact (name_of_methodNamed B.named B.method).1, hz, hAO⟩ s.heap [] _ hP (by rw [hz, hlen]) va_S.rf hl
  rw [lg_entry_eq]
  exact hJ
section TN
variable {X : tp_X} {Z : tp_Zt} {b nL dep mc ms : Nat} {Fn : Heap → Prop} {cc : ByteArray} {own : String} {es : List va_E} {cells slots : Nat} {lv : tp_V} {st : List Value} {pc : Nat}
theorem nn_callI (G : tp_NOk X Z b cc nL own) {y : MethodName} {cw : Cond} {bytes : ByteArray} {dep2 mc2 ms2 i : Nat} {host : String} {pre es9 es2 : List va_E} {o0 : va_E} {a : Nat} (hM : ∀ b9 : Nat, b9 = b + pre.length → tp_RetN X y cw dep2 mc2 ms2 b9 [o0] es9) (hcw : cw = Cond.code y bytes 1 none) (hci : cw ∈ tp_W) (hini : Cond.initialized y.cls ∈ tp_W) (hin2 : Cond.instanceMethod y ∈ tp_W) (hnm : y.name = "<init>") (hdy : y.cls ≠ "java/lang/invoke/MethodHandle" ∧ y.cls ≠ "java/lang/invoke/VarHandle" ∧ (parseMethodDescriptor y.desc).map (fun d => d.parameters.length) = some 0) (hw : Cond.methodLinkNest own i y host ∈ tp_NW) (hes : pre ++ [o0] = es) (he : pre ++ es9 = es2) (ha : b + pre.length = a) (hd : dep2 + 1 ≤ dep) (hc : cells + mc2 ≤ mc) (hs : slots + ms2 ≤ ms) (hcat : (st.map fun v => v.category).sum ≤ 8) (d : decode cc pc = .ok (.invokespecial i, 3)) (kk : tp_N X Z b nL dep mc ms Fn (es2) (cells + mc2) (slots + ms2) lv (st) (pc + 3)) : tp_N X Z b nL dep mc ms Fn (es) (cells) (slots) lv (.ref a :: st) (pc) := by
  obtain ⟨p, e, s, m, args, below, meth, c⟩ := Z
  obtain ⟨hx, hb, hml, hown, hts, hK, hNW, hr, hlk, hin, hsz, hAO⟩ := G
  intro H locs ls hP hz hS hl
  subst hes; subst he; subst ha
  have hM := hM _ rfl
  have hlen : (pre ++ [o0]).length = pre.length + 1 := by simp
  refine va_callv (va_runIN (As := []) (rest := st) ⟨hx, hb, hml, hown, hts⟩ hM ⟨va_cnB (Ts := tp_W) 0 hts (tp_Gd (fun w hwm => by
      rcases List.mem_cons.mp hwm with q | q
      · rw [q]; exact hci
      · exact q)) (by rw [hcw]) rfl rfl (hNW _ hw) (hts _ hini) hdy ⟨hd, by show 8 + (1 + 11) + 64 * dep2 ≤ 64 * dep; omega⟩, hnm, hts _ hin2⟩ ⟨tp_blindn, fun U hU hW => ⟨rfl, by rw [hU, hz, hlen]; omega, fun k q hk => by
        obtain ⟨g1, g2, g3⟩ := cs_ge hk
        obtain rfl : k = 0 := by simp at g1; omega
        rw [hU]
        have h8 := hP pre.length (b + pre.length, o0) (cs_at (by simp))
        have e9 : q = (b + pre.length, o0) := by
          have g4 : o0 = q.2 := by simpa using g3
          rw [g4]; exact (Prod.ext g2 rfl)
        rw [e9]; exact h8, va_K.moved hW.alike hK, tp_NW_warm hW hNW, tp_AO_moved hW.alike hAO⟩⟩ rfl rfl hl.1 rfl (lv_room hcat) d ⟨hc, hs⟩) hS (fun q _ h => by have h9 : b + pre.length ≤ q := h; show b ≤ q; omega) (fun q h => by have h9 : b + pre.length ≤ q := h; show b ≤ q; omega) (fun u t H1 locs1 ht hvm hw2 hB hz1 hk1 hS1 => ?_)
  obtain ⟨hB1, hB2⟩ := hB
  rw [ht] at hB1 hB2
  refine kk H1 locs1 ls (fun k q hk => ?_) (by rw [hB1]; simp; omega) hS1 hl
  obtain ⟨g1, g2, g3⟩ := cs_ge hk
  by_cases hkp : k < pre.length
  · rw [List.getElem?_append_left hkp] at g3
    have h8 := hP k (b + k, q.2) (cs_at (by rw [List.getElem?_append_left hkp]; exact g3))
    have e9 : q = (b + k, q.2) := Prod.ext g2 rfl
    rw [e9]
    exact h8.kept (hk1 _ h8.lt (fun h9 => by have h7 : b + pre.length ≤ b + k := h9; omega))
  · rw [List.getElem?_append_right (by omega)] at g3
    have h8 := hB2 (k - pre.length) (b + pre.length + (k - pre.length), q.2) (cs_at g3)
    have e9 : q = (b + pre.length + (k - pre.length), q.2) := Prod.ext (by rw [g2]; show b + k = b + pre.length + (k - pre.length); omega) rfl
    rw [e9]
    exact h8
end TN
def tp_N2 (X : tp_X) (Z : tp_Zt) (nL dep mc ms : Nat) (Fn : Heap → Prop) (L : Nat → tp_K) (N : Nat) (M : tp_M) (cells slots : Nat) (lv : tp_V) (st : List Value) (pc : Nat) : Prop := match Z with
  | (p, e, s, m, args, below, meth, c) => ∀ (H : Heap) (locs : List Loc) (ls : Array Slot), tp_P X L N M H → va_S (fun q => X.2.2.2.2 ≤ q) s.heap H locs → lv_has ls nL lv → W p X.1 e (tp_rmN dep mc ms) s m args below meth c H locs cells slots (MQ below (tp_Qn X.2.2.2.2 Fn) args s mc ms (fun q => X.2.2.2.2 ≤ q)) (F0 m pc ls st)
def tp_NE (X : tp_X) (Z : tp_Zt) (N : Nat) : Prop := X.2.2.2.1 Z.2.2.1 ∧ tp_st X.2.2.2.1 (tp_A X.2.2.2.2 N)
theorem nn_to2 {X : tp_X} {Z : tp_Zt} {nL dep mc ms : Nat} {Fn : Heap → Prop} {es : List va_E} {L : Nat → tp_K} {N : Nat} {M : tp_M} {cells slots : Nat} {lv : tp_V} {st : List Value} {pc : Nat} (he : cs_ws X.2.2.2.2 es = tp_ws L N X.2.2.1 X.2.2.2.2 M) (kk : tp_N2 X Z nL dep mc ms Fn L N M cells slots lv st pc) : tp_N X Z X.2.2.2.2 nL dep mc ms Fn es cells slots lv st pc := by
  obtain ⟨p, e, s, m, args, below, meth, c⟩ := Z
  intro H locs ls hP hz hS hl
  rw [he] at hP
  exact kk H locs ls hP hS hl
theorem tp_pre2 {X : tp_X} {L : Nat → tp_K} {N : Nat} {M : tp_M} {s U : State} {H : Heap} {locs : List Loc} (hN : 1 ≤ N) (hP : tp_P X L N M H) (hz : s.heap.size = X.2.2.2.2 + 1) (hS : va_S (fun q => X.2.2.2.2 ≤ q) s.heap H locs) (hK : va_K X.2.1 tp_cl (tp_tys X.2.2.1) s) (hNW : ∀ w ∈ tp_NW, va_Nw w s) (hE : X.2.2.2.1 s) (hst : tp_st X.2.2.2.1 (tp_A X.2.2.2.2 N)) (hU : U.heap = H) (hW : s.WarmedH U.vm) : tp_B X L N M U :=
  ⟨by rw [hU]; exact hP, va_K.moved hW.alike hK, tp_NW_warm hW hNW, hst s U hE hW (by rw [hU]; exact hS.1) (fun q h1 h2 => by
    rw [hU]
    exact hS.2.1 q h1 (fun h3 => h2 ⟨h3, by
      have h4 : X.2.2.2.2 ≤ q := h3
      omega⟩)), hst⟩
section TN2
variable {X : tp_X} {Z : tp_Zt} {nL dep mc ms : Nat} {Fn : Heap → Prop} {cc : ByteArray} {own : String} {L : Nat → tp_K} {N : Nat} {M : tp_M} {cells slots : Nat} {lv : tp_V} {st : List Value} {pc : Nat}
theorem n2_aload_n (G : tp_NOk X Z X.2.2.2.2 cc nL own) {k : Fin 4} {i a : Nat} (q : Nat) (d : decode cc pc = .ok (.aload_n k, 1)) (hi : (k : Nat) = i) (hq : lv[q]? = some (i, .ref a)) (kk : tp_N2 X Z nL dep mc ms Fn L N M cells slots lv (.ref a :: st) (pc + 1)) : tp_N2 X Z nL dep mc ms Fn L N M cells slots lv st pc := by
  obtain ⟨p, e, s, m, args, below, meth, c⟩ := Z
  obtain ⟨hx, hb, hml, hown, hts, hK, hNW, hr, hlk, hin, hsz, hAO⟩ := G
  intro H locs ls hP hS hl
  refine lv_aload_n hx hb d hi (lv_at hl q hq) ?_
  exact kk H locs ls hP hS hl
theorem n2_getR (G : tp_NOk X Z X.2.2.2.2 cc nL own) {t ci j k n Nf index : Nat} {C : String} {T : u_T} {ty : Nat → FieldType} {ks : List Nat} (Cx : tp_Cl ci C T Nf ty) (hk : k < N) (hL : L k = (ci + 4, n, ks)) (hj : ks[j]? = some (t + 2)) (hjN : j < Nf) (hw : Cond.fieldLink own index (T j).1 (T j).2.1 (T j).2.2.1 ∈ tp_W) (d : decode cc pc = .ok (.getfield index, 3)) (kk : tp_N2 X Z nL dep mc ms Fn L N M cells slots lv (vR X t :: st) (pc + 3)) : tp_N2 X Z nL dep mc ms Fn L N M cells slots lv (vR X k :: st) pc := by
  obtain ⟨p, e, s, m, args, below, meth, c⟩ := Z
  obtain ⟨hx, hb, hml, hown, hts, hK, hNW, hr, hlk, hin, hsz, hAO⟩ := G
  intro H locs ls hP hS hl
  have he := tp_ws_at (L := L) (N := N) (I := X.2.2.1) (b := X.2.2.2.2) (M := M) hk
  rw [hL] at he
  refine va_get hx hb (ws := tp_ws L N X.2.2.1 X.2.2.2.2 M) hts Cx.2.1 hown hK hP k he Cx.1 j hjN (hts _ hw) (fun x h => h) (tp_sl_at hj) d ?_
  exact kk H locs ls hP hS hl
theorem n2_callVv (G : tp_NOk X Z X.2.2.2.2 cc nL own) (GE : tp_NE X Z N) (hN1 : 1 ≤ N) {y : MethodName} {cw : Cond} {bytes : ByteArray} {maxL n dep2 index : Nat} {rt : Option FieldType} {r2 : Int × tp_M} {stk : List Value} (as : List Value) {k ci nn : Nat} {ks : List Nat} {r : vw_C} (Mv : tp_MV y cw bytes maxL rt n) (hk : k < N) (hL : L k = (ci + 4, nn, ks)) (hc : tp_cl[ci]? = some r) (hrc : r.1 = y.cls) (hw : Cond.methodLink own index y ∈ tp_W) (hd : dep2 + 1 ≤ dep) (hn : as.length = n) (hsk : stk = as.reverse ++ vR X k :: st) (hcat : (st.map fun v => v.category).sum ≤ 8) (hM : tp_Ret X L N 0 y cw dep2 (vR X k :: as) M r2) (hc1 : cells ≤ mc) (hs1 : slots ≤ ms) (d : decode cc pc = .ok (.invokevirtual index, 3)) (kk : tp_N2 X Z nL dep mc ms Fn L N r2.2 cells slots lv st (pc + 3)) : tp_N2 X Z nL dep mc ms Fn L N M cells slots lv stk pc := by
  obtain ⟨p, e, s, m, args, below, meth, c⟩ := Z
  obtain ⟨hx, hb, hml, hown, hts, hK, hNW, hr, hlk, hin9, hsz, hAO⟩ := G
  obtain ⟨hE, hst⟩ := GE
  intro H locs ls hP hS hl
  obtain ⟨⟨hcw, hci, hini, hdy, hmx⟩, hin, hse⟩ := Mv
  subst hsk
  refine va_callv (va_runV (As := as) (rest := st) ⟨hx, hb, hml, hown, hts⟩ hM (cwV (Ts := tp_W) n hts (tp_Gd (fun w hwm => by
      rcases List.mem_append.mp hwm with q | q
      · simp only [List.mem_cons, List.not_mem_nil, or_false] at q
        rcases q with q | q | q | q
        · rw [q]; exact hw
        · rw [q]; exact hin
        · rw [q]; exact hse
        · rw [q]; exact hini
      · rcases List.mem_cons.mp q with q | q
        · rw [q]; exact hci
        · exact q)) (by rw [hcw]) rfl rfl ⟨rfl, hdy⟩ ⟨hd, by show 8 + (maxL + 11) + 64 * dep2 ≤ 64 * dep; omega⟩) ⟨tp_blind, (by
      have hrv := va_recv hK hP hc (q0 := k) (by rw [tp_ws_at hk, hL]; rfl)
      rw [hrc] at hrv
      exact hrv), fun U hU hW => ⟨rfl, tp_pre2 hN1 hP hsz hS hK hNW hE hst hU hW⟩⟩ rfl hn hl.1 rfl (lv_room hcat) d ⟨hc1, hs1⟩) hS (fun q _ h => h.1) (fun q h => h.1) (fun u t H1 locs1 ht hvm hw2 hB hz1 hk1 hS1 => ?_)
  have hP1 : tp_P X L N r2.2 H1 := by rw [← ht]; exact hB
  exact kk H1 locs1 ls hP1 hS1 hl
theorem n2_callSv (G : tp_NOk X Z X.2.2.2.2 cc nL own) (GE : tp_NE X Z N) (hN1 : 1 ≤ N) {y : MethodName} {cw : Cond} {bytes : ByteArray} {maxL n dep2 index : Nat} {rt : Option FieldType} {r2 : Int × tp_M} {stk : List Value} (as : List Value) (Mv : tp_MS y cw bytes maxL rt n) (hw : Cond.methodLink own index y ∈ tp_W) (hd : dep2 + 1 ≤ dep) (hn : as.length = n) (hsk : stk = as.reverse ++ st) (hcat : (st.map fun v => v.category).sum ≤ 8) (hM : tp_Ret X L N 0 y cw dep2 as M r2) (hc1 : cells ≤ mc) (hs1 : slots ≤ ms) (d : decode cc pc = .ok (.invokestatic index, 3)) (kk : tp_N2 X Z nL dep mc ms Fn L N r2.2 cells slots lv st (pc + 3)) : tp_N2 X Z nL dep mc ms Fn L N M cells slots lv stk pc := by
  obtain ⟨p, e, s, m, args, below, meth, c⟩ := Z
  obtain ⟨hx, hb, hml, hown, hts, hK, hNW, hr, hlk, hin9, hsz, hAO⟩ := G
  obtain ⟨hE, hst⟩ := GE
  intro H locs ls hP hS hl
  obtain ⟨⟨hcw, hci, hini, hdy, hmx⟩, hsta⟩ := Mv
  subst hsk
  refine va_callv (va_runS (As := as) (rest := st) ⟨hx, hb, hml, hown, hts⟩ hM (va_cwS (Ts := tp_W) n hts (tp_Gd (fun w hwm => by
      rcases List.mem_append.mp hwm with q | q
      · simp only [List.mem_cons, List.not_mem_nil, or_false] at q
        rcases q with q | q | q
        · rw [q]; exact hw
        · rw [q]; exact hsta
        · rw [q]; exact hini
      · rcases List.mem_cons.mp q with q | q
        · rw [q]; exact hci
        · exact q)) (by rw [hcw]) rfl rfl hdy ⟨hd, by show 8 + (maxL + 11) + 64 * dep2 ≤ 64 * dep; omega⟩) ⟨tp_blind, fun U hU hW => ⟨rfl, tp_pre2 hN1 hP hsz hS hK hNW hE hst hU hW⟩⟩ rfl hn hl.1 rfl (lv_room hcat) d ⟨hc1, hs1⟩) hS (fun q _ h => h.1) (fun q h => h.1) (fun u t H1 locs1 ht hvm hw2 hB hz1 hk1 hS1 => ?_)
  have hP1 : tp_P X L N r2.2 H1 := by rw [← ht]; exact hB
  exact kk H1 locs1 ls hP1 hS1 hl
theorem n2_ret (G : tp_NOk X Z X.2.2.2.2 cc nL own) (hF : ∀ H : Heap, tp_P X L N M H → Fn H) (hc : cells = mc) (hs : slots = ms) (d : decode cc pc = .ok (.return_, 1)) : tp_N2 X Z nL dep mc ms Fn L N M cells slots lv [] pc := by
  obtain ⟨p, e, s, m, args, below, meth, c⟩ := Z
  obtain ⟨hx, hb, hml, hown, hts, hK, hNW, hr, hlk, hin, hsz, hAO⟩ := G
  intro H locs ls hP hS hl
  subst hc; subst hs
  exact W.vret hx hb hr (fun t ht _ => ⟨⟨(), rfl, trivial, by show Fn t.heap; rw [ht]; exact hF H hP⟩, by rw [va_F]; exact ⟨by rw [ht]; exact hS.1, fun q h1 h2 => by rw [ht]; exact hS.2.1 q h1 h2⟩⟩) (fun q hq => hS.2.2 q hq) d hlk
end TN2
def tp_Bc (X : tp_X) (N : Nat) (es : List va_E) (U : State) : Prop := tp_Bn X X.2.2.2.2 es U ∧ X.2.2.2.1 U ∧ tp_st X.2.2.2.1 (tp_A X.2.2.2.2 N)
theorem tp_blindc {X : tp_X} {N : Nat} {es : List va_E} {av : List Value} : FrameBlind (va_Pc av (tp_Bc X N es)) := by
  intro a U g mk h
  obtain ⟨h1, ⟨hz, hP, hK, hNW, hAO⟩, hE, hst⟩ := h
  have hvm : (U.calling g mk a).vm = U.vm := rfl
  have hW : U.WarmedH (U.calling g mk a).vm := by rw [hvm]; exact State.WarmedH.refl U
  exact ⟨h1, ⟨hz, hP, va_K.moved (u := U) (U := U.calling g mk a) (Vm.Alike.refl U.vm) hK, tp_NW_warm hW hNW, hAO⟩, hst U _ hE hW (Nat.le_refl _) (fun _ _ _ => rfl), hst⟩
/-- the contract of the two great constructors: the object stands last; then the whole picture stands -/
def tp_RetC (X : tp_X) (L : Nat → tp_K) (N : Nat) (y : MethodName) (cw : Cond) (dep mc ms : Nat) (es0 : List va_E) (M : tp_M) : Prop :=
  Met X.1 y (cw :: tp_W) (tp_rmN dep mc ms) (va_Pc [.ref X.2.2.2.2] (tp_Bc X N es0)) (tp_Qn X.2.2.2.2 (fun H => tp_P X L N M H)) mc ms (fun q => X.2.2.2.2 ≤ q)
theorem tp_ofC {X : tp_X} {L : Nat → tp_K} {N : Nat} {y : MethodName} {cw : Cond} {dep mc ms : Nat} {es0 : List va_E} {M : tp_M} {cc : ByteArray} {own : String} {nL : Nat} (hy : plainName y.cls = true) (hcw : cw = Cond.code y cc nL none) (hown : y.cls = own) (hnm : y.name = "<init>") (hlen : es0.length = 1) (hnL : 1 ≤ nL)
    (body : ∀ Z : tp_Zt, tp_NOk X Z X.2.2.2.2 cc nL own → tp_NE X Z N → tp_N X Z X.2.2.2.2 nL dep mc ms (fun H => tp_P X L N M H) es0 0 0 [(0, .ref X.2.2.2.2)] [] 0) : tp_RetC X L N y cw dep mc ms es0 M := by
  refine Met.ofW (cc := cc) (maxL := nL) (ret := none) hy (by rw [hcw]) ?_
  intro p e s m args below meth c s₁ B hml2 hv
  obtain ⟨rfl, ⟨hz, hP, hK, hNW, hAO⟩, hE, hst⟩ := hv
  have hts := atoms_spec (ws := cw :: tp_W) B.pre
  have hl := lv_entry [Value.ref X.2.2.2.2] (n := nL) hnL
  have hJ := body (p, e, s, m, [Value.ref X.2.2.2.2].toArray, below, meth, c) ⟨B.exec, B.bytes, hml2, by rw [← hown]; exact findClass_of_methodNamed B.named, fun w hw => hts w (List.mem_cons_of_mem _ hw), hK, hNW, B.returns, B.notSynchronized, by rw [← hnm]; exact (name_of_methodNamed B.named B.method).1, hz, hAO⟩ ⟨hE, hst⟩ s.heap [] _ hP (by rw [hz, hlen]) va_S.rf hl
  rw [lg_entry_eq]
  exact hJ
