/-! THE CLAIM OUT OF ONE WALK OF THE LAW'S BODY. Your part is whole_start (and what it stands on); all else here is the same for every law, but numbers. -/
def R_law : String := "TurningPostsLaw"
def lw_P (b : Addr) (xs : List Int32) (args : Array Value) (s : State) : Prop := args = #[.ref b] ∧ s.IntsAt b xs ∧ xs.length ≤ 2560 ∧ (Jvm.Cond.and given_1 narrow_1).before args s = true
def lw_Q (_ : Array Value) (s : State) (o : Outcome) (t : State) : Prop := o = .returned (some (.int 1)) ∧ Framed s o t [] 601024 7293033
def lw_Z (below : List Frame) (a : Array Value) (s : State) : State → Prop := fun t => ∃ o, t.status = .running ∧ Ended t below o ∧ lw_Q a s o t
/-- the law's own end, with 1 on the stack, nothing written that was there before, its room as the claim has it -/
theorem lw_ret {p : Program} {l : Launch} {e : Env} {s : State} {m : MethodId} {below : List Frame} {meth : Method} {c : Code} {b : Nat} (hx : p.tables.exec = Jvm.exec) (hb : c.code = code) (hr : meth.sig.returnType = ret) (hlocks : meth.locks = false) {pc : Nat} {H : Heap} {ls : Array Slot} (hdg : decode code pc = .ok (.ireturn, 1)) : W p l e room_1 s m #[Value.ref b] below meth c H [] 601024 7293033 (lw_Z below #[Value.ref b] s) (F0 m pc ls [.int 1]) := by
  intro T hT X
  obtain ⟨fs, hret, hrun, hended, hW, hframe⟩ := X.leave (v := some (.int 1)) (hlocks := hlocks) (fun h => by rw [hr] at h; cases h)
  have hmeth' : T.vm.method? m = some meth := X.method'
  refine ⟨T.setFrames fs, ?_, .returned (some (.int 1)), hrun, hended, rfl, ⟨_, rfl⟩, hW, hframe⟩
  jvm_step X.here [X.here.top, hx, hb, hdg, hmeth', hr, ret, narrow_b1]
  (try refine ⟨rfl, ?_⟩); (try refine ⟨rfl, ?_⟩)
  first | (intro acts; rw [hret _ acts rfl rfl rfl]) | rw [hret _ _ rfl rfl rfl]
  exact Steps.refl _
/-- what holds at the law's entry: the machine, the code, the tables' words (any of lw_tbl by 'hts w (by decide +kernel)'), the script of L ints xs at the cell b, what the Statement gives of the start (any of its parts by flat_of_before) -/
def lw_At (p : Program) (s : State) (m : MethodId) (meth : Method) (c : Code) (b L : Nat) (xs : Nat → Int32) : Prop :=
  p.tables.exec = Jvm.exec ∧ c.code = code ∧ meth.sig.returnType = ret ∧ c.maxLocals = 8 ∧ s.vm.findClass R_law = some m.cls ∧ (∀ w ∈ lw_tbl, w.before #[Value.ref b] s = true) ∧ va_X b L xs s s.heap ∧ b < s.heap.size ∧ meth.locks = false ∧ (Jvm.Cond.and given_1 narrow_1).before #[Value.ref b] s = true
abbrev lw_Yt : Type := Program × Env × State × MethodId × List Frame × Method × Code × Nat × Nat × (Nat → Int32) × tp_X × (State → Prop) × Nat × Nat
/-- the reference's world: the same machine, another place -/
def mX (X : tp_X) (E : State → Prop) (b : Nat) : tp_X := (X.1, X.2.1, X.2.2.1, E, b)
def yb (Y : lw_Yt) : Nat := Y.2.2.2.2.2.2.2.1
def yL (Y : lw_Yt) : Nat := Y.2.2.2.2.2.2.2.2.1
def yx (Y : lw_Yt) : Nat → Int32 := Y.2.2.2.2.2.2.2.2.2.1
def yX (Y : lw_Yt) : tp_X := Y.2.2.2.2.2.2.2.2.2.2.1
def yZ (Y : lw_Yt) : tp_X := mX Y.2.2.2.2.2.2.2.2.2.2.1 Y.2.2.2.2.2.2.2.2.2.2.2.1 Y.2.2.2.2.2.2.2.2.2.2.2.2.1
def yo (Y : lw_Yt) : Nat := Y.2.2.2.2.2.2.2.2.2.2.2.2.2
def lw_G (Y : lw_Yt) : Prop := match Y with
  | (p, _, s, m, _, meth, c, b, L, xs, X, E, bm, bo) => (p.tables.exec = Jvm.exec ∧ c.code = cL_law ∧ meth.sig.returnType = ret ∧ c.maxLocals = 8 ∧ s.vm.findClass RL = some m.cls ∧ (∀ w ∈ tp_W, w.before #[Value.ref b] s = true) ∧ va_X b L xs s s.heap ∧ b < s.heap.size ∧ meth.locks = false) ∧ L ≤ 2560 ∧ va_K X.2.1 tp_cl (tp_tys X.2.2.1) s ∧ (∀ w ∈ tp_NW, va_Nw w s) ∧ (X.2.2.2.1 s ∧ tp_st X.2.2.2.1 (tp_A X.2.2.2.2 64)) ∧ (E s ∧ tp_st E (tp_A bm 34)) ∧ (s.heap.size ≤ X.2.2.2.2 ∧ X.2.2.2.2 + 64 ≤ bm ∧ bm + 34 ≤ bo) ∧ tp_TX X 64 ∧ tp_SX (mX X E bm) 34
def tp_L (Y : lw_Yt) (Mc Mm : tp_M) (o : Int) (cells slots : Nat) (lv : tp_V) (st : List Value) (pc : Nat) : Prop := match Y with
  | (p, e, s, m, below, meth, c, b, _, _, X, E, bm, bo) => ∀ (H : Heap) (locs : List Loc) (ls : Array Slot), tp_P X LC 64 Mc H → tp_P (mX X E bm) LM 34 Mm H → va_P X.2.1 tp_cl (tp_out X bo o) H → va_S (fun q => s.heap.size ≤ q) s.heap H locs → lv_has ls 8 lv → W p X.1 e room_1 s m #[Value.ref b] below meth c H locs cells slots (lw_Z below #[Value.ref b] s) (F0 m pc ls st)
theorem lw_G_S {Y : lw_Yt} (G : lw_G Y) : tp_SX (yZ Y) 34 := by
  obtain ⟨p, e, s, m, below, meth, c, b, L, xs, X, E, bm, bo⟩ := Y
  exact G.2.2.2.2.2.2.2.2
theorem lw_G_T {Y : lw_Yt} (G : lw_G Y) : tp_TX (yX Y) 64 := by
  obtain ⟨p, e, s, m, below, meth, c, b, L, xs, X, E, bm, bo⟩ := Y
  exact G.2.2.2.2.2.2.2.1
theorem lw_G_o {Y : lw_Yt} (G : lw_G Y) : ¬ tp_A (yX Y).2.2.2.2 64 (yo Y) := by
  obtain ⟨p, e, s, m, below, meth, c, b, L, xs, X, E, bm, bo⟩ := Y
  obtain ⟨-, -, -, -, -, -, ⟨z1, z2, z3⟩, -, -⟩ := G
  intro h
  have h5 : bo < X.2.2.2.2 + 64 := h.2
  omega
theorem lw_G_L {Y : lw_Yt} (G : lw_G Y) : yL Y ≤ 2560 := by
  obtain ⟨p, e, s, m, below, meth, c, b, L, xs, X, E, bm, bo⟩ := Y
  exact G.2.1
theorem tp_preL {X : tp_X} {L : Nat → tp_K} {N : Nat} {M : tp_M} {s U : State} {H : Heap} {locs : List Loc} (hP : tp_P X L N M H) (hS : va_S (fun q => s.heap.size ≤ q) s.heap H locs) (hK : va_K X.2.1 tp_cl (tp_tys X.2.2.1) s) (hNW : ∀ w ∈ tp_NW, va_Nw w s) (hE : X.2.2.2.1 s) (hst : tp_st X.2.2.2.1 (tp_A X.2.2.2.2 N)) (hU : U.heap = H) (hW : s.WarmedH U.vm) : tp_B X L N M U :=
  ⟨by rw [hU]; exact hP, va_K.moved hW.alike hK, tp_NW_warm hW hNW, hst s U hE hW (by rw [hU]; exact hS.1) (fun q h1 _ => by rw [hU]; exact hS.2.1 q h1 (Nat.not_le.mpr h1)), hst⟩
theorem lw_blindH {X : tp_X} {M : tp_M} {o : Nat} {v : Int} {av : List Value} : FrameBlind (va_Pc av (fun U => tp_B X LC 64 M U ∧ va_P X.2.1 tp_cl (tp_out X o v) U.heap)) := by
  intro a U g mk h
  obtain ⟨h1, h2, h3⟩ := h
  exact ⟨h1, (tp_blind (av := av) a U g mk ⟨h1, h2⟩).2, h3⟩
theorem lw_AoZ {X : tp_X} {n bm bo q : Nat} (z1 : n ≤ X.2.2.2.2) (z2 : X.2.2.2.2 + 64 ≤ bm) (z3 : bm + 34 ≤ bo) (h : tp_Ao X bo q) : n ≤ q := by
  rcases h with h | h
  · exact Nat.le_trans z1 h.1
  · have h5 : q = bo := h
    omega
section TL
variable {Y : lw_Yt} {Mc Mm : tp_M} {o : Int} {cells slots : Nat} {lv : tp_V} {st : List Value} {pc : Nat}
theorem la_aload (G : lw_G Y) {k : Fin 4} {i a : Nat} (q : Nat) (d : decode cL_law pc = .ok (.aload_n k, 1)) (hi : (k : Nat) = i) (hq : lv[q]? = some (i, .ref a)) (kk : tp_L Y (Mc) (Mm) (o) (cells) (slots) lv (.ref a :: st) (pc + 1)) : tp_L Y (Mc) (Mm) (o) (cells) (slots) lv (st) (pc) := by
  obtain ⟨p, e, s, m, below, meth, c, b, L, xs, X, E, bm, bo⟩ := Y
  obtain ⟨⟨hx, hb, hr, hml, hown, hts, hXs, hbl, hlk⟩, hL, hK, hNW, ⟨hEc, hsc⟩, ⟨hEm, hsm⟩, ⟨z1, z2, z3⟩, hTX, hSX⟩ := G
  intro H locs ls hP hQ hO hS hl
  refine lv_aload_n hx hb d hi (lv_at hl q hq) ?_
  exact kk H locs ls hP hQ hO hS hl
theorem la_iconst (G : lw_G Y) {v : Int} (d : decode cL_law pc = .ok (.iconst v, 1)) (kk : tp_L Y (Mc) (Mm) (o) (cells) (slots) lv (vI v :: st) (pc + 1)) : tp_L Y (Mc) (Mm) (o) (cells) (slots) lv (st) (pc) := by
  obtain ⟨p, e, s, m, below, meth, c, b, L, xs, X, E, bm, bo⟩ := Y
  obtain ⟨⟨hx, hb, hr, hml, hown, hts, hXs, hbl, hlk⟩, hL, hK, hNW, ⟨hEc, hsc⟩, ⟨hEm, hsm⟩, ⟨z1, z2, z3⟩, hTX, hSX⟩ := G
  intro H locs ls hP hQ hO hS hl
  refine lv_iconst hx hb d rfl ?_
  exact kk H locs ls hP hQ hO hS hl
theorem la_bipush (G : lw_G Y) {v : Int} (d : decode cL_law pc = .ok (.bipush v, 2)) (hv : (Int8.ofInt v).toInt32 = Int32.ofInt v) (kk : tp_L Y (Mc) (Mm) (o) (cells) (slots) lv (vI v :: st) (pc + 2)) : tp_L Y (Mc) (Mm) (o) (cells) (slots) lv (st) (pc) := by
  obtain ⟨p, e, s, m, below, meth, c, b, L, xs, X, E, bm, bo⟩ := Y
  obtain ⟨⟨hx, hb, hr, hml, hown, hts, hXs, hbl, hlk⟩, hL, hK, hNW, ⟨hEc, hsc⟩, ⟨hEm, hsm⟩, ⟨z1, z2, z3⟩, hTX, hSX⟩ := G
  intro H locs ls hP hQ hO hS hl
  refine lv_bipush hx hb d hv ?_
  exact kk H locs ls hP hQ hO hS hl
theorem la_iload (G : lw_G Y) {i : Nat} {a : Int} (q : Nat) (d : decode cL_law pc = .ok (.iload i, 2)) (hq : lv[q]? = some (i, vI a)) (kk : tp_L Y (Mc) (Mm) (o) (cells) (slots) lv (vI a :: st) (pc + 2)) : tp_L Y (Mc) (Mm) (o) (cells) (slots) lv (st) (pc) := by
  obtain ⟨p, e, s, m, below, meth, c, b, L, xs, X, E, bm, bo⟩ := Y
  obtain ⟨⟨hx, hb, hr, hml, hown, hts, hXs, hbl, hlk⟩, hL, hK, hNW, ⟨hEc, hsc⟩, ⟨hEm, hsm⟩, ⟨z1, z2, z3⟩, hTX, hSX⟩ := G
  intro H locs ls hP hQ hO hS hl
  refine lv_iload hx hb d (lv_at hl q hq) ?_
  exact kk H locs ls hP hQ hO hS hl
theorem la_lload (G : lw_G Y) {i : Nat} {a : Int} (q : Nat) (d : decode cL_law pc = .ok (.lload i, 2)) (hq : lv[q]? = some (i, vL a)) (kk : tp_L Y (Mc) (Mm) (o) (cells) (slots) lv (vL a :: st) (pc + 2)) : tp_L Y (Mc) (Mm) (o) (cells) (slots) lv (st) (pc) := by
  obtain ⟨p, e, s, m, below, meth, c, b, L, xs, X, E, bm, bo⟩ := Y
  obtain ⟨⟨hx, hb, hr, hml, hown, hts, hXs, hbl, hlk⟩, hL, hK, hNW, ⟨hEc, hsc⟩, ⟨hEm, hsm⟩, ⟨z1, z2, z3⟩, hTX, hSX⟩ := G
  intro H locs ls hP hQ hO hS hl
  refine lv_lload hx hb d (lv_at hl q hq) ?_
  exact kk H locs ls hP hQ hO hS hl
theorem la_istore (G : lw_G Y) {i : Nat} {a : Int} {lv2 : tp_V} (d : decode cL_law pc = .ok (.istore i, 2)) (hn : i < 8) (hf : (i, vI a) :: lv.filter (fun q => !(q.1 == i) && !(q.1 + 1 == i && q.2.category == 2)) = lv2) (kk : tp_L Y (Mc) (Mm) (o) (cells) (slots) lv2 (st) (pc + 2)) : tp_L Y (Mc) (Mm) (o) (cells) (slots) lv (vI a :: st) (pc) := by
  obtain ⟨p, e, s, m, below, meth, c, b, L, xs, X, E, bm, bo⟩ := Y
  obtain ⟨⟨hx, hb, hr, hml, hown, hts, hXs, hbl, hlk⟩, hL, hK, hNW, ⟨hEc, hsc⟩, ⟨hEm, hsm⟩, ⟨z1, z2, z3⟩, hTX, hSX⟩ := G
  intro H locs ls hP hQ hO hS hl
  refine lv_istore hx hb d hl hn hf fun ls hl => ?_
  exact kk H locs ls hP hQ hO hS hl
theorem la_lstore (G : lw_G Y) {i : Nat} {a : Int} {lv2 : tp_V} (d : decode cL_law pc = .ok (.lstore i, 2)) (hn : i + 1 < 8) (hf : (i, vL a) :: lv.filter (fun q => !(q.1 == i) && (!(q.1 == i + 1) && !(q.1 + 1 == i && q.2.category == 2))) = lv2) (kk : tp_L Y (Mc) (Mm) (o) (cells) (slots) lv2 (st) (pc + 2)) : tp_L Y (Mc) (Mm) (o) (cells) (slots) lv (vL a :: st) (pc) := by
  obtain ⟨p, e, s, m, below, meth, c, b, L, xs, X, E, bm, bo⟩ := Y
  obtain ⟨⟨hx, hb, hr, hml, hown, hts, hXs, hbl, hlk⟩, hL, hK, hNW, ⟨hEc, hsc⟩, ⟨hEm, hsm⟩, ⟨z1, z2, z3⟩, hTX, hSX⟩ := G
  intro H locs ls hP hQ hO hS hl
  refine lv_lstore hx hb d hl hn hf fun ls hl => ?_
  exact kk H locs ls hP hQ hO hS hl
theorem la_iinc (G : lw_G Y) {i : Nat} {n a a2 : Int} {lv2 : tp_V} (q : Nat) (d : decode cL_law pc = .ok (.iinc i n, 3)) (hq : lv[q]? = some (i, vI a)) (hn : i < 8) (ha : a + n = a2) (hf : (i, vI a2) :: lv.filter (fun q => !(q.1 == i) && !(q.1 + 1 == i && q.2.category == 2)) = lv2) (kk : tp_L Y (Mc) (Mm) (o) (cells) (slots) lv2 (st) (pc + 3)) : tp_L Y (Mc) (Mm) (o) (cells) (slots) lv (st) (pc) := by
  obtain ⟨p, e, s, m, below, meth, c, b, L, xs, X, E, bm, bo⟩ := Y
  obtain ⟨⟨hx, hb, hr, hml, hown, hts, hXs, hbl, hlk⟩, hL, hK, hNW, ⟨hEc, hsc⟩, ⟨hEm, hsm⟩, ⟨z1, z2, z3⟩, hTX, hSX⟩ := G
  intro H locs ls hP hQ hO hS hl
  subst ha
  refine lv_iinc hx hb d hl hq (wi_add a n) hn hf fun ls hl => ?_
  exact kk H locs ls hP hQ hO hS hl
theorem la_iadd (G : lw_G Y) {a b2 : Int} (d : decode cL_law pc = .ok (.iadd, 1)) (kk : tp_L Y (Mc) (Mm) (o) (cells) (slots) lv (vI (a + b2) :: st) (pc + 1)) : tp_L Y (Mc) (Mm) (o) (cells) (slots) lv (vI b2 :: vI a :: st) (pc) := by
  obtain ⟨p, e, s, m, below, meth, c, b, L, xs, X, E, bm, bo⟩ := Y
  obtain ⟨⟨hx, hb, hr, hml, hown, hts, hXs, hbl, hlk⟩, hL, hK, hNW, ⟨hEc, hsc⟩, ⟨hEm, hsm⟩, ⟨z1, z2, z3⟩, hTX, hSX⟩ := G
  intro H locs ls hP hQ hO hS hl
  refine lv_iadd hx hb d ?_
  have e9 : (Value.int (Int32.ofInt a + Int32.ofInt b2)) = vI (a + b2) := by rw [wi_add]; rfl
  rw [e9]
  exact kk H locs ls hP hQ hO hS hl
theorem la_isub (G : lw_G Y) {a b2 : Int} (d : decode cL_law pc = .ok (.isub, 1)) (kk : tp_L Y (Mc) (Mm) (o) (cells) (slots) lv (vI (a - b2) :: st) (pc + 1)) : tp_L Y (Mc) (Mm) (o) (cells) (slots) lv (vI b2 :: vI a :: st) (pc) := by
  obtain ⟨p, e, s, m, below, meth, c, b, L, xs, X, E, bm, bo⟩ := Y
  obtain ⟨⟨hx, hb, hr, hml, hown, hts, hXs, hbl, hlk⟩, hL, hK, hNW, ⟨hEc, hsc⟩, ⟨hEm, hsm⟩, ⟨z1, z2, z3⟩, hTX, hSX⟩ := G
  intro H locs ls hP hQ hO hS hl
  refine lv_isub hx hb d ?_
  have e9 : (Value.int (Int32.ofInt a - Int32.ofInt b2)) = vI (a - b2) := by rw [wi_sub]; rfl
  rw [e9]
  exact kk H locs ls hP hQ hO hS hl
theorem la_iand (G : lw_G Y) {a b2 v : Int} (d : decode cL_law pc = .ok (.iand, 1)) (hv : Int32.ofInt a &&& Int32.ofInt b2 = Int32.ofInt v) (kk : tp_L Y (Mc) (Mm) (o) (cells) (slots) lv (vI v :: st) (pc + 1)) : tp_L Y (Mc) (Mm) (o) (cells) (slots) lv (vI b2 :: vI a :: st) (pc) := by
  obtain ⟨p, e, s, m, below, meth, c, b, L, xs, X, E, bm, bo⟩ := Y
  obtain ⟨⟨hx, hb, hr, hml, hown, hts, hXs, hbl, hlk⟩, hL, hK, hNW, ⟨hEc, hsc⟩, ⟨hEm, hsm⟩, ⟨z1, z2, z3⟩, hTX, hSX⟩ := G
  intro H locs ls hP hQ hO hS hl
  refine lv_iand hx hb d ?_
  rw [hv]
  exact kk H locs ls hP hQ hO hS hl
theorem la_len (G : lw_G Y) {v : Int} (hv : (yL Y : Int) = v) (d : decode cL_law pc = .ok (.arraylength, 1)) (kk : tp_L Y (Mc) (Mm) (o) (cells) (slots) lv (vI v :: st) (pc + 1)) : tp_L Y (Mc) (Mm) (o) (cells) (slots) lv (.ref (yb Y) :: st) (pc) := by
  obtain ⟨p, e, s, m, below, meth, c, b, L, xs, X, E, bm, bo⟩ := Y
  obtain ⟨⟨hx, hb, hr, hml, hown, hts, hXs, hbl, hlk⟩, hL, hK, hNW, ⟨hEc, hsc⟩, ⟨hEm, hsm⟩, ⟨z1, z2, z3⟩, hTX, hSX⟩ := G
  intro H locs ls hP hQ hO hS hl
  subst hv
  refine va_slen hx hb hXs hbl (Nat.not_le.mpr hbl) hS d ?_
  have e9 : Value.int (Int32.ofNat L) = vI (L : Int) := congrArg Value.int (by first | rfl | exact (Int32.ofInt_eq_ofNat (n := L)).symm | simp)
  rw [e9]
  exact kk H locs ls hP hQ hO hS hl
theorem la_sld (G : lw_G Y) {a v : Int} {j : Nat} (ha : w32 a = (j : Int)) (hj : j < yL Y) (hv : (yx Y j).toInt = v) (d : decode cL_law pc = .ok (.iaload, 1)) (kk : tp_L Y (Mc) (Mm) (o) (cells) (slots) lv (vI v :: st) (pc + 1)) : tp_L Y (Mc) (Mm) (o) (cells) (slots) lv (vI a :: .ref (yb Y) :: st) (pc) := by
  obtain ⟨p, e, s, m, below, meth, c, b, L, xs, X, E, bm, bo⟩ := Y
  obtain ⟨⟨hx, hb, hr, hml, hown, hts, hXs, hbl, hlk⟩, hL, hK, hNW, ⟨hEc, hsc⟩, ⟨hEm, hsm⟩, ⟨z1, z2, z3⟩, hTX, hSX⟩ := G
  intro H locs ls hP hQ hO hS hl
  subst hv
  have hj2 : j < L := hj
  refine va_sld hx hb hXs hbl (Nat.not_le.mpr hbl) hS (wi_in ⟨by omega, by omega⟩) d ?_
  have hc := wi_cl (a := a) (by omega)
  have e8 : (Int32.ofInt a).toNatClampNeg = j := by omega
  rw [e8]
  have e9 : Value.int (xs j) = vI (xs j).toInt := (w32_v _).symm
  rw [e9]
  exact kk H locs ls hP hQ hO hS hl
theorem la_icmp_eq (G : lw_G Y) {a b2 off : Int} {tgt : Nat} (d : decode cL_law pc = .ok (.if_icmp .eq off, 3)) (ht : (pc : Int) + off = (tgt : Int)) (hab : w32 a = w32 b2) (kk : tp_L Y (Mc) (Mm) (o) (cells) (slots) lv (st) (tgt)) : tp_L Y (Mc) (Mm) (o) (cells) (slots) lv (vI b2 :: vI a :: st) (pc) := by
  obtain ⟨p, e, s, m, below, meth, c, b, L, xs, X, E, bm, bo⟩ := Y
  obtain ⟨⟨hx, hb, hr, hml, hown, hts, hXs, hbl, hlk⟩, hL, hK, hNW, ⟨hEc, hsc⟩, ⟨hEm, hsm⟩, ⟨z1, z2, z3⟩, hTX, hSX⟩ := G
  intro H locs ls hP hQ hO hS hl
  refine lv_icmp_eq hx hb d ht (fun _ => ?_) (fun q => absurd ((wi_eq a b2).mpr hab) q)
  exact kk H locs ls hP hQ hO hS hl
theorem la_icmp_gt (G : lw_G Y) {a b2 off : Int} {tgt : Nat} (d : decode cL_law pc = .ok (.if_icmp .gt off, 3)) (ht : (pc : Int) + off = (tgt : Int)) (kt : w32 b2 < w32 a → tp_L Y (Mc) (Mm) (o) (cells) (slots) lv (st) (tgt)) (kf : ¬ w32 b2 < w32 a → tp_L Y (Mc) (Mm) (o) (cells) (slots) lv (st) (pc + 3)) : tp_L Y (Mc) (Mm) (o) (cells) (slots) lv (vI b2 :: vI a :: st) (pc) := by
  obtain ⟨p, e, s, m, below, meth, c, b, L, xs, X, E, bm, bo⟩ := Y
  obtain ⟨⟨hx, hb, hr, hml, hown, hts, hXs, hbl, hlk⟩, hL, hK, hNW, ⟨hEc, hsc⟩, ⟨hEm, hsm⟩, ⟨z1, z2, z3⟩, hTX, hSX⟩ := G
  intro H locs ls hP hQ hO hS hl
  refine lv_icmp_gt hx hb d ht (fun q => ?_) (fun q => ?_)
  · refine kt ?_ H locs ls hP hQ hO hS hl
    (first | rw [gt_iff_lt, wi_lt] at q | rw [wi_lt] at q | rw [wi_le] at q); omega
  · refine kf ?_ H locs ls hP hQ hO hS hl
    (first | rw [gt_iff_lt, wi_lt] at q | rw [wi_lt] at q | rw [wi_le] at q); omega
theorem la_ifne_t (G : lw_G Y) {a off : Int} {tgt : Nat} (d : decode cL_law pc = .ok (.ifCond .ne off, 3)) (ht : (pc : Int) + off = (tgt : Int)) (ha : ¬ w32 a = 0) (kk : tp_L Y (Mc) (Mm) (o) (cells) (slots) lv (st) (tgt)) : tp_L Y (Mc) (Mm) (o) (cells) (slots) lv (vI a :: st) (pc) := by
  obtain ⟨p, e, s, m, below, meth, c, b, L, xs, X, E, bm, bo⟩ := Y
  obtain ⟨⟨hx, hb, hr, hml, hown, hts, hXs, hbl, hlk⟩, hL, hK, hNW, ⟨hEc, hsc⟩, ⟨hEm, hsm⟩, ⟨z1, z2, z3⟩, hTX, hSX⟩ := G
  intro H locs ls hP hQ hO hS hl
  refine lv_if_ne hx hb d ht (fun _ => ?_) (fun q => absurd ((wi_eq0 a).mp (by first | exact q | exact Classical.not_not.mp q)) ha)
  exact kk H locs ls hP hQ hO hS hl
theorem la_ifne_f (G : lw_G Y) {a off : Int} {tgt : Nat} (d : decode cL_law pc = .ok (.ifCond .ne off, 3)) (ht : (pc : Int) + off = (tgt : Int)) (ha : w32 a = 0) (kk : tp_L Y (Mc) (Mm) (o) (cells) (slots) lv (st) (pc + 3)) : tp_L Y (Mc) (Mm) (o) (cells) (slots) lv (vI a :: st) (pc) := by
  obtain ⟨p, e, s, m, below, meth, c, b, L, xs, X, E, bm, bo⟩ := Y
  obtain ⟨⟨hx, hb, hr, hml, hown, hts, hXs, hbl, hlk⟩, hL, hK, hNW, ⟨hEc, hsc⟩, ⟨hEm, hsm⟩, ⟨z1, z2, z3⟩, hTX, hSX⟩ := G
  intro H locs ls hP hQ hO hS hl
  refine lv_if_ne hx hb d ht (fun q => absurd ((wi_eq0 a).mpr ha) q) (fun _ => ?_)
  exact kk H locs ls hP hQ hO hS hl
theorem la_ifeq (G : lw_G Y) {a off : Int} {tgt : Nat} (d : decode cL_law pc = .ok (.ifCond .eq off, 3)) (ht : (pc : Int) + off = (tgt : Int)) (ha : w32 a = 0) (kk : tp_L Y (Mc) (Mm) (o) (cells) (slots) lv (st) (tgt)) : tp_L Y (Mc) (Mm) (o) (cells) (slots) lv (vI a :: st) (pc) := by
  obtain ⟨p, e, s, m, below, meth, c, b, L, xs, X, E, bm, bo⟩ := Y
  obtain ⟨⟨hx, hb, hr, hml, hown, hts, hXs, hbl, hlk⟩, hL, hK, hNW, ⟨hEc, hsc⟩, ⟨hEm, hsm⟩, ⟨z1, z2, z3⟩, hTX, hSX⟩ := G
  intro H locs ls hP hQ hO hS hl
  refine lv_if_eq hx hb d ht (fun _ => ?_) (fun q => absurd ((wi_eq0 a).mpr ha) q)
  exact kk H locs ls hP hQ hO hS hl
theorem la_i2l (G : lw_G Y) {a : Int} (d : decode cL_law pc = .ok (.i2l, 1)) (kk : tp_L Y (Mc) (Mm) (o) (cells) (slots) lv (vL (w32 a) :: st) (pc + 1)) : tp_L Y (Mc) (Mm) (o) (cells) (slots) lv (vI a :: st) (pc) := by
  obtain ⟨p, e, s, m, below, meth, c, b, L, xs, X, E, bm, bo⟩ := Y
  obtain ⟨⟨hx, hb, hr, hml, hown, hts, hXs, hbl, hlk⟩, hL, hK, hNW, ⟨hEc, hsc⟩, ⟨hEm, hsm⟩, ⟨z1, z2, z3⟩, hTX, hSX⟩ := G
  intro H locs ls hP hQ hO hS hl
  refine lv_i2l hx hb d (wi_l a) ?_
  exact kk H locs ls hP hQ hO hS hl
theorem la_lcmp (G : lw_G Y) {a b2 : Int} (hab : w64 a = w64 b2) (d : decode cL_law pc = .ok (.lcmp, 1)) (kk : tp_L Y (Mc) (Mm) (o) (cells) (slots) lv (vI 0 :: st) (pc + 1)) : tp_L Y (Mc) (Mm) (o) (cells) (slots) lv (vL b2 :: vL a :: st) (pc) := by
  obtain ⟨p, e, s, m, below, meth, c, b, L, xs, X, E, bm, bo⟩ := Y
  obtain ⟨⟨hx, hb, hr, hml, hown, hts, hXs, hbl, hlk⟩, hL, hK, hNW, ⟨hEc, hsc⟩, ⟨hEm, hsm⟩, ⟨z1, z2, z3⟩, hTX, hSX⟩ := G
  intro H locs ls hP hQ hO hS hl
  refine W.lcmp hx hb d ?_
  have e9 : lg_cmp (Int64.ofInt a) (Int64.ofInt b2) = Int32.ofInt 0 := by
    rw [wl_cmp]
    unfold x_lcmp
    rw [hab]
    simp
  rw [e9]
  exact kk H locs ls hP hQ hO hS hl
theorem la_goto (G : lw_G Y) {off : Int} {tgt : Nat} (d : decode cL_law pc = .ok (.goto off, 3)) (ht : (pc : Int) + off = (tgt : Int)) (kk : tp_L Y (Mc) (Mm) (o) (cells) (slots) lv (st) (tgt)) : tp_L Y (Mc) (Mm) (o) (cells) (slots) lv (st) (pc) := by
  obtain ⟨p, e, s, m, below, meth, c, b, L, xs, X, E, bm, bo⟩ := Y
  obtain ⟨⟨hx, hb, hr, hml, hown, hts, hXs, hbl, hlk⟩, hL, hK, hNW, ⟨hEc, hsc⟩, ⟨hEm, hsm⟩, ⟨z1, z2, z3⟩, hTX, hSX⟩ := G
  intro H locs ls hP hQ hO hS hl
  refine lv_goto hx hb d ht ?_
  exact kk H locs ls hP hQ hO hS hl
theorem la_tabIn (G : lw_G Y) {dflt lo hi off : Int} {offs : Array Int} {len tgt : Nat} {a v : Int} (d : decode cL_law pc = .ok (.tableswitch dflt lo hi offs, len)) (hv : w32 a = v) (h1 : ¬ v < lo ∧ ¬ hi < v) (h3 : offs[(v - lo).toNat]? = some off) (ht : (pc : Int) + off = (tgt : Int)) (kk : tp_L Y (Mc) (Mm) (o) (cells) (slots) lv (st) (tgt)) : tp_L Y (Mc) (Mm) (o) (cells) (slots) lv (vI a :: st) (pc) := by
  obtain ⟨p, e, s, m, below, meth, c, b, L, xs, X, E, bm, bo⟩ := Y
  obtain ⟨⟨hx, hb, hr, hml, hown, hts, hXs, hbl, hlk⟩, hL, hK, hNW, ⟨hEc, hsc⟩, ⟨hEm, hsm⟩, ⟨z1, z2, z3⟩, hTX, hSX⟩ := G
  intro H locs ls hP hQ hO hS hl
  subst hv
  rw [← w32_eq] at h1 h3
  refine lv_tableIn hx hb d h1.1 h1.2 h3 ht ?_
  exact kk H locs ls hP hQ hO hS hl
theorem la_tabOut (G : lw_G Y) {dflt lo hi : Int} {offs : Array Int} {len tgt : Nat} {a : Int} (d : decode cL_law pc = .ok (.tableswitch dflt lo hi offs, len)) (h1 : w32 a < lo ∨ hi < w32 a) (ht : (pc : Int) + dflt = (tgt : Int)) (kk : tp_L Y (Mc) (Mm) (o) (cells) (slots) lv (st) (tgt)) : tp_L Y (Mc) (Mm) (o) (cells) (slots) lv (vI a :: st) (pc) := by
  obtain ⟨p, e, s, m, below, meth, c, b, L, xs, X, E, bm, bo⟩ := Y
  obtain ⟨⟨hx, hb, hr, hml, hown, hts, hXs, hbl, hlk⟩, hL, hK, hNW, ⟨hEc, hsc⟩, ⟨hEm, hsm⟩, ⟨z1, z2, z3⟩, hTX, hSX⟩ := G
  intro H locs ls hP hQ hO hS hl
  rw [← w32_eq] at h1
  refine lv_tableOut hx hb d h1 ht ?_
  exact kk H locs ls hP hQ hO hS hl
theorem la_out (G : lw_G Y) (d : decode cL_law pc = .ok (.laload, 1)) (kk : tp_L Y (Mc) (Mm) (o) (cells) (slots) lv (vL o :: st) (pc + 1)) : tp_L Y (Mc) (Mm) (o) (cells) (slots) lv (vI 0 :: .ref (yo Y) :: st) (pc) := by
  obtain ⟨p, e, s, m, below, meth, c, b, L, xs, X, E, bm, bo⟩ := Y
  obtain ⟨⟨hx, hb, hr, hml, hown, hts, hXs, hbl, hlk⟩, hL, hK, hNW, ⟨hEc, hsc⟩, ⟨hEm, hsm⟩, ⟨z1, z2, z3⟩, hTX, hSX⟩ := G
  intro H locs ls hP hQ hO hS hl
  refine va_lald hx hb (ws := tp_out X bo o) hK hO 0 1 rfl rfl (wi_in (a := 0) (n := 1) (by decide)) d ?_
  exact kk H locs ls hP hQ hO hS hl
theorem la_lv (G : lw_G Y) {lv2 : tp_V} (ks : List Nat) (h : lv_pick lv ks = lv2) (kk : tp_L Y (Mc) (Mm) (o) (cells) (slots) lv2 (st) (pc)) : tp_L Y (Mc) (Mm) (o) (cells) (slots) lv (st) (pc) := by
  obtain ⟨p, e, s, m, below, meth, c, b, L, xs, X, E, bm, bo⟩ := Y
  obtain ⟨⟨hx, hb, hr, hml, hown, hts, hXs, hbl, hlk⟩, hL, hK, hNW, ⟨hEc, hsc⟩, ⟨hEm, hsm⟩, ⟨z1, z2, z3⟩, hTX, hSX⟩ := G
  intro H locs ls hP hQ hO hS hl
  exact kk H locs ls hP hQ hO hS (lv_sub hl ks h)
theorem la_ret (G : lw_G Y) (hc : cells ≤ 601024) (hs : slots ≤ 7293033) (d : decode cL_law pc = .ok (.ireturn, 1)) : tp_L Y (Mc) (Mm) (o) (cells) (slots) lv [vI 1] (pc) := by
  obtain ⟨p, e, s, m, below, meth, c, b, L, xs, X, E, bm, bo⟩ := Y
  obtain ⟨⟨hx, hb, hr, hml, hown, hts, hXs, hbl, hlk⟩, hL, hK, hNW, ⟨hEc, hsc⟩, ⟨hEm, hsm⟩, ⟨z1, z2, z3⟩, hTX, hSX⟩ := G
  intro H locs ls hP hQ hO hS hl
  refine va_forget (fun q hq => hS.2.2 q hq) ?_
  refine W.widen (k := 601024) (n := 7293033) hc hs ?_
  exact lw_ret hx hb hr hlk d
theorem la_callC (G : lw_G Y) {y : MethodName} {cw : Cond} {bytes : ByteArray} {maxL n dep2 index : Nat} {rt : Option FieldType} {r2 : Int × tp_M} {stk : List Value} (as : List Value) (Mv : tp_MV y cw bytes maxL rt n) (hcl : RX10 = y.cls) (hw : Cond.methodLink RL index y ∈ tp_W) (hd : dep2 ≤ 1300) (hn : as.length = n) (hsk : stk = as.reverse ++ vR (yX Y) 0 :: st) (hcat : (st.map fun v => v.category).sum ≤ 8) (hM : tp_Ret (yX Y) LC 64 1 y cw dep2 (vR (yX Y) 0 :: as) Mc r2) (hcr : cells ≤ 601024) (hsr : slots ≤ 7293033) (d : decode cL_law pc = .ok (.invokevirtual index, 3)) (kk : tp_L Y (r2.2) (Mm) (o) (cells) (slots) lv (vI r2.1 :: st) (pc + 3)) : tp_L Y (Mc) (Mm) (o) (cells) (slots) lv stk (pc) := by
  obtain ⟨p, e, s, m, below, meth, c, b, L, xs, X, E, bm, bo⟩ := Y
  obtain ⟨⟨hx, hb, hr, hml, hown, hts, hXs, hbl, hlk⟩, hL, hK, hNW, ⟨hEc, hsc⟩, ⟨hEm, hsm⟩, ⟨z1, z2, z3⟩, hTX, hSX⟩ := G
  intro H locs ls hP hQ hO hS hl
  obtain ⟨⟨hcw, hci, hini, hdy, hmx⟩, hin, hse⟩ := Mv
  subst hsk
  refine va_calli (va_runV (As := as) (rest := st) ⟨hx, hb, hml, hown, hts⟩ hM (cwV (Ts := tp_W) n hts (tp_Gd (fun w hwm => by
      rcases List.mem_append.mp hwm with q | q
      · simp only [List.mem_cons, List.not_mem_nil, or_false] at q
        rcases q with q | q | q | q
        · rw [q]; exact hw
        · rw [q]; exact hin
        · rw [q]; exact hse
        · rw [q]; exact hini
      · rcases List.mem_cons.mp q with q | q
        · rw [q]; exact hci
        · exact q)) (by rw [hcw]) rfl rfl ⟨rfl, hdy⟩ ⟨by show dep2 + 1 ≤ 2048; omega, by show 8 + (maxL + 11) + 64 * dep2 ≤ 84000; omega⟩) ⟨tp_blind, (by
      have hrv := va_recv (ci := 10) hK hP rfl (q0 := 0) (by rw [tp_ws_at (by decide)]; rfl)
      rw [← hcl]
      exact hrv), fun U hU hW => ⟨rfl, tp_preL (X := X) hP hS hK hNW hEc hsc hU hW⟩⟩ rfl hn hl.1 rfl (lv_room hcat) d ⟨hcr, hsr⟩) hS (fun q _ h => Nat.le_trans z1 (show _ ≤ q from h.1)) (fun q h => Nat.le_trans z1 (show _ ≤ q from h.1)) (fun r u t H1 locs1 ht hvm hw2 hB hz1 hk1 hS1 => ?_)
  subst hw2
  have hP1 : tp_P X LC 64 r2.2 H1 := by rw [← ht]; exact hB
  have hQ1 : tp_P (mX X E bm) LM 34 Mm H1 := tp_P_kept hQ (fun q h1 h2 => hk1 q h2 (fun h3 => by
    have h4 : bm ≤ q := h1.1
    have h5 : q < X.2.2.2.2 + 64 := h3.2
    omega))
  have hO1 := tp_out_kept hO (hk1 bo (tp_out_lt hO) (fun h3 => by
    have h5 : bo < X.2.2.2.2 + 64 := h3.2
    omega))
  exact kk H1 locs1 ls hP1 hQ1 hO1 hS1 hl
theorem la_callM (G : lw_G Y) {y : MethodName} {cw : Cond} {bytes : ByteArray} {maxL n dep2 index : Nat} {rt : Option FieldType} {r2 : Int × tp_M} {stk : List Value} (as : List Value) (Mv : tp_MV y cw bytes maxL rt n) (hcl : RX11 = y.cls) (hw : Cond.methodLink RL index y ∈ tp_W) (hd : dep2 ≤ 1300) (hn : as.length = n) (hsk : stk = as.reverse ++ vR (yZ Y) 0 :: st) (hcat : (st.map fun v => v.category).sum ≤ 8) (hM : tp_Ret (yZ Y) LM 34 1 y cw dep2 (vR (yZ Y) 0 :: as) Mm r2) (hcr : cells ≤ 601024) (hsr : slots ≤ 7293033) (d : decode cL_law pc = .ok (.invokevirtual index, 3)) (kk : tp_L Y (Mc) (r2.2) (o) (cells) (slots) lv (vI r2.1 :: st) (pc + 3)) : tp_L Y (Mc) (Mm) (o) (cells) (slots) lv stk (pc) := by
  obtain ⟨p, e, s, m, below, meth, c, b, L, xs, X, E, bm, bo⟩ := Y
  obtain ⟨⟨hx, hb, hr, hml, hown, hts, hXs, hbl, hlk⟩, hL, hK, hNW, ⟨hEc, hsc⟩, ⟨hEm, hsm⟩, ⟨z1, z2, z3⟩, hTX, hSX⟩ := G
  intro H locs ls hP hQ hO hS hl
  obtain ⟨⟨hcw, hci, hini, hdy, hmx⟩, hin, hse⟩ := Mv
  subst hsk
  refine va_calli (va_runV (As := as) (rest := st) ⟨hx, hb, hml, hown, hts⟩ hM (cwV (Ts := tp_W) n hts (tp_Gd (fun w hwm => by
      rcases List.mem_append.mp hwm with q | q
      · simp only [List.mem_cons, List.not_mem_nil, or_false] at q
        rcases q with q | q | q | q
        · rw [q]; exact hw
        · rw [q]; exact hin
        · rw [q]; exact hse
        · rw [q]; exact hini
      · rcases List.mem_cons.mp q with q | q
        · rw [q]; exact hci
        · exact q)) (by rw [hcw]) rfl rfl ⟨rfl, hdy⟩ ⟨by show dep2 + 1 ≤ 2048; omega, by show 8 + (maxL + 11) + 64 * dep2 ≤ 84000; omega⟩) ⟨tp_blind, (by
      have hrv := va_recv (ci := 11) hK hQ rfl (q0 := 0) (by rw [tp_ws_at (by decide)]; rfl)
      rw [← hcl]
      exact hrv), fun U hU hW => ⟨rfl, tp_preL (X := mX X E bm) hQ hS hK hNW hEm hsm hU hW⟩⟩ rfl hn hl.1 rfl (lv_room hcat) d ⟨hcr, hsr⟩) hS (fun q _ h => Nat.le_trans (show s.heap.size ≤ bm by omega) (show _ ≤ q from h.1)) (fun q h => Nat.le_trans (show s.heap.size ≤ bm by omega) (show _ ≤ q from h.1)) (fun r u t H1 locs1 ht hvm hw2 hB hz1 hk1 hS1 => ?_)
  subst hw2
  have hQ1 : tp_P (mX X E bm) LM 34 r2.2 H1 := by rw [← ht]; exact hB
  have hP1 : tp_P X LC 64 Mc H1 := tp_P_kept hP (fun q h1 h2 => hk1 q h2 (fun h3 => by
    have h4 : q < X.2.2.2.2 + 64 := h1.2
    have h5 : bm ≤ q := h3.1
    omega))
  have hO1 := tp_out_kept hO (hk1 bo (tp_out_lt hO) (fun h3 => by
    have h5 : bo < bm + 34 := h3.2
    omega))
  exact kk H1 locs1 ls hP1 hQ1 hO1 hS1 hl
theorem la_callMl (G : lw_G Y) {y : MethodName} {cw : Cond} {bytes : ByteArray} {maxL n dep2 index : Nat} {rt : Option FieldType} {r2 : Int × tp_M} {stk : List Value} (as : List Value) (Mv : tp_MV y cw bytes maxL rt n) (hcl : RX11 = y.cls) (hw : Cond.methodLink RL index y ∈ tp_W) (hd : dep2 ≤ 1300) (hn : as.length = n) (hsk : stk = as.reverse ++ vR (yZ Y) 0 :: st) (hcat : (st.map fun v => v.category).sum ≤ 8) (hM : tp_Ret (yZ Y) LM 34 2 y cw dep2 (vR (yZ Y) 0 :: as) Mm r2) (hcr : cells ≤ 601024) (hsr : slots ≤ 7293033) (d : decode cL_law pc = .ok (.invokevirtual index, 3)) (kk : tp_L Y (Mc) (r2.2) (o) (cells) (slots) lv (vL r2.1 :: st) (pc + 3)) : tp_L Y (Mc) (Mm) (o) (cells) (slots) lv stk (pc) := by
  obtain ⟨p, e, s, m, below, meth, c, b, L, xs, X, E, bm, bo⟩ := Y
  obtain ⟨⟨hx, hb, hr, hml, hown, hts, hXs, hbl, hlk⟩, hL, hK, hNW, ⟨hEc, hsc⟩, ⟨hEm, hsm⟩, ⟨z1, z2, z3⟩, hTX, hSX⟩ := G
  intro H locs ls hP hQ hO hS hl
  obtain ⟨⟨hcw, hci, hini, hdy, hmx⟩, hin, hse⟩ := Mv
  subst hsk
  refine va_calll (va_runV (As := as) (rest := st) ⟨hx, hb, hml, hown, hts⟩ hM (cwV (Ts := tp_W) n hts (tp_Gd (fun w hwm => by
      rcases List.mem_append.mp hwm with q | q
      · simp only [List.mem_cons, List.not_mem_nil, or_false] at q
        rcases q with q | q | q | q
        · rw [q]; exact hw
        · rw [q]; exact hin
        · rw [q]; exact hse
        · rw [q]; exact hini
      · rcases List.mem_cons.mp q with q | q
        · rw [q]; exact hci
        · exact q)) (by rw [hcw]) rfl rfl ⟨rfl, hdy⟩ ⟨by show dep2 + 1 ≤ 2048; omega, by show 8 + (maxL + 11) + 64 * dep2 ≤ 84000; omega⟩) ⟨tp_blind, (by
      have hrv := va_recv (ci := 11) hK hQ rfl (q0 := 0) (by rw [tp_ws_at (by decide)]; rfl)
      rw [← hcl]
      exact hrv), fun U hU hW => ⟨rfl, tp_preL (X := mX X E bm) hQ hS hK hNW hEm hsm hU hW⟩⟩ rfl hn hl.1 rfl (lv_room hcat) d ⟨hcr, hsr⟩) hS (fun q _ h => Nat.le_trans (show s.heap.size ≤ bm by omega) (show _ ≤ q from h.1)) (fun q h => Nat.le_trans (show s.heap.size ≤ bm by omega) (show _ ≤ q from h.1)) (fun r u t H1 locs1 ht hvm hw2 hB hz1 hk1 hS1 => ?_)
  subst hw2
  have hQ1 : tp_P (mX X E bm) LM 34 r2.2 H1 := by rw [← ht]; exact hB
  have hP1 : tp_P X LC 64 Mc H1 := tp_P_kept hP (fun q h1 h2 => hk1 q h2 (fun h3 => by
    have h4 : q < X.2.2.2.2 + 64 := h1.2
    have h5 : bm ≤ q := h3.1
    omega))
  have hO1 := tp_out_kept hO (hk1 bo (tp_out_lt hO) (fun h3 => by
    have h5 : bo < bm + 34 := h3.2
    omega))
  exact kk H1 locs1 ls hP1 hQ1 hO1 hS1 hl
theorem la_callH (G : lw_G Y) {y : MethodName} {bytes : ByteArray} {maxL n dep2 index : Nat} {hh : List (Nat × Nat × Nat × Nat)} {M1 : tp_M} {k v1 : Int} {stk : List Value} (as : List Value) (hci : Cond.codeWith y bytes maxL (some .int) hh ∈ tp_W) (hsta : Cond.static y ∈ tp_W) (hini : Cond.initialized y.cls ∈ tp_W) (hdy : y.cls ≠ "java/lang/invoke/MethodHandle" ∧ y.cls ≠ "java/lang/invoke/VarHandle" ∧ (parseMethodDescriptor y.desc).map (fun d => d.parameters.length) = some n) (hmx : maxL ≤ 40) (hw : Cond.methodLink RL index y ∈ tp_W) (hd : dep2 ≤ 1300) (hn : as.length = n) (hsk : stk = as.reverse ++ st) (hcat : (st.map fun v => v.category).sum ≤ 8) (hM : tp_RetH (yX Y) y (Cond.codeWith y bytes maxL (some .int) hh) dep2 (yo Y) as Mc o k M1 v1) (hcr : cells + 1 ≤ 601024) (hsr : slots + 6 ≤ 7293033) (d : decode cL_law pc = .ok (.invokestatic index, 3)) (kk : tp_L Y (M1) (Mm) (v1) (cells + 1) (slots + 6) lv (vI k :: st) (pc + 3)) : tp_L Y (Mc) (Mm) (o) (cells) (slots) lv stk (pc) := by
  obtain ⟨p, e, s, m, below, meth, c, b, L, xs, X, E, bm, bo⟩ := Y
  obtain ⟨⟨hx, hb, hr, hml, hown, hts, hXs, hbl, hlk⟩, hL, hK, hNW, ⟨hEc, hsc⟩, ⟨hEm, hsm⟩, ⟨z1, z2, z3⟩, hTX, hSX⟩ := G
  intro H locs ls hP hQ hO hS hl
  subst hsk
  refine va_calli (vx_runSW (As := as) (rest := st) ⟨hx, hb, hml, hown, hts⟩ hM (vx_cwSW (Ts := tp_W) n hts (tp_Gd (fun w hwm => by
      rcases List.mem_append.mp hwm with q | q
      · simp only [List.mem_cons, List.not_mem_nil, or_false] at q
        rcases q with q | q | q
        · rw [q]; exact hw
        · rw [q]; exact hsta
        · rw [q]; exact hini
      · rcases List.mem_cons.mp q with q | q
        · rw [q]; exact hci
        · exact q)) rfl rfl rfl hdy ⟨by show dep2 + 1 ≤ 2048; omega, by show 8 + (maxL + 11) + 64 * dep2 ≤ 84000; omega⟩) ⟨lw_blindH, fun U hU hW => ⟨rfl, tp_preL (X := X) hP hS hK hNW hEc hsc hU hW, by rw [hU]; exact hO⟩⟩ rfl hn hl.1 rfl (lv_room hcat) d ⟨hcr, hsr⟩) hS (fun q _ h => lw_AoZ z1 z2 z3 h) (fun q h => lw_AoZ z1 z2 z3 h) (fun r u t H1 locs1 ht hvm hw2 hB hz1 hk1 hS1 => ?_)
  subst hw2
  obtain ⟨hB1, hB2⟩ := hB
  rw [ht] at hB1 hB2
  have hQ1 : tp_P (mX X E bm) LM 34 Mm H1 := tp_P_kept hQ (fun q h1 h2 => hk1 q h2 (fun h3 => by
    have h4 : bm ≤ q := h1.1
    have h6 : q < bm + 34 := h1.2
    rcases h3 with h3 | h3
    · have h5 : q < X.2.2.2.2 + 64 := h3.2
      omega
    · have h5 : q = bo := h3
      omega))
  exact kk H1 locs1 ls hB1 hQ1 hB2 hS1 hl
end TL
