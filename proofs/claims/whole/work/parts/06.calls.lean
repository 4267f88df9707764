theorem tp_blind {X : tp_X} {L : Nat → tp_K} {N : Nat} {M : tp_M} {av : List Value} : FrameBlind (va_Pc av (tp_B X L N M)) := by
  intro a U g mk h
  obtain ⟨h1, hP, hK, hNW, hE, hst⟩ := h
  have hvm : (U.calling g mk a).vm = U.vm := rfl
  have hW : U.WarmedH (U.calling g mk a).vm := by rw [hvm]; exact State.WarmedH.refl U
  exact ⟨h1, hP, va_K.moved (u := U) (U := U.calling g mk a) (Vm.Alike.refl U.vm) hK, tp_NW_warm hW hNW, hst U _ hE hW (Nat.le_refl _) (fun _ _ _ => rfl), hst⟩
theorem tp_ofW {X : tp_X} {L : Nat → tp_K} {N rk dep maxL : Nat} {y : MethodName} {cw : Cond} {av : List Value} {M : tp_M} {res : Int × tp_M} {cc : ByteArray} {own : String} {ret : Option FieldType} {o : tp_O} (hy : plainName y.cls = true) (hcw : cw = Cond.code y cc maxL ret) (hown : y.cls = own) (hml : (lg_sl av).length ≤ maxL) (ho : o = some res)
    (body : ∀ Y : tp_Y, tp_Ok X Y N cc maxL own ret → tp_J X Y L N maxL dep rk o M (lv_args 0 av) [] 0) : tp_Ret X L N rk y cw dep av M res := by
  refine Met.ofW (cc := cc) (maxL := maxL) (ret := ret) hy (by rw [hcw]) ?_
  intro p e s m args below meth c s₁ B hml2 hv
  obtain ⟨rfl, hP, hK, hNW, hE, hst⟩ := hv
  have hts := atoms_spec (ws := cw :: tp_W) B.pre
  have hl := lv_entry av (n := maxL) hml
  have hJ := body (p, e, s, m, av.toArray, below, meth, c, res) ⟨B.exec, B.bytes, hml2, by rw [← hown]; exact findClass_of_methodNamed B.named, fun w hw => hts w (List.mem_cons_of_mem _ hw), hK, hNW, hE, hst, B.returns, B.notSynchronized⟩ ho s.heap [] _ hP va_S.rf hl
  rw [lg_entry_eq]
  exact hJ
def tp_MF (y : MethodName) (cw : Cond) (bytes : ByteArray) (maxL : Nat) (rt : Option FieldType) (n : Nat) : Prop := cw = Cond.code y bytes maxL rt ∧ cw ∈ tp_W ∧ Cond.initialized y.cls ∈ tp_W ∧ (y.cls ≠ "java/lang/invoke/MethodHandle" ∧ y.cls ≠ "java/lang/invoke/VarHandle" ∧ (parseMethodDescriptor y.desc).map (fun d => d.parameters.length) = some n) ∧ maxL ≤ 40
def tp_MV (y : MethodName) (cw : Cond) (bytes : ByteArray) (maxL : Nat) (rt : Option FieldType) (n : Nat) : Prop := tp_MF y cw bytes maxL rt n ∧ Cond.instanceMethod y ∈ tp_W ∧ Cond.selects y.cls y y ∈ tp_W
def tp_MS (y : MethodName) (cw : Cond) (bytes : ByteArray) (maxL : Nat) (rt : Option FieldType) (n : Nat) : Prop := tp_MF y cw bytes maxL rt n ∧ Cond.static y ∈ tp_W
theorem tp_Gd {ws : List Cond} (h : ∀ w ∈ ws, w ∈ tp_W) : GoodIn tp_W ws := fun w hw => ⟨h w hw, good_of_word (tp_W_good w (h w hw))⟩
theorem tp_pre {X : tp_X} {L : Nat → tp_K} {N : Nat} {M : tp_M} {s U : State} {H : Heap} {locs : List Loc} (hP : tp_P X L N M H) (hS : va_S (tp_A X.2.2.2.2 N) s.heap H locs) (hK : va_K X.2.1 tp_cl (tp_tys X.2.2.1) s) (hNW : ∀ w ∈ tp_NW, va_Nw w s) (hE : X.2.2.2.1 s) (hst : tp_st X.2.2.2.1 (tp_A X.2.2.2.2 N)) (hU : U.heap = H) (hW : s.WarmedH U.vm) : tp_B X L N M U :=
  ⟨by rw [hU]; exact hP, va_K.moved hW.alike hK, tp_NW_warm hW hNW, hst s U hE hW (by rw [hU]; exact hS.1) (fun q h1 h2 => by rw [hU]; exact hS.2.1 q h1 h2), hst⟩

section TC
variable {X : tp_X} {Y : tp_Y} {L : Nat → tp_K} {N nL dep rk : Nat} {cc : ByteArray} {own : String} {ret : Option FieldType} {o : tp_O} {M : tp_M} {lv : tp_V} {st : List Value} {pc : Nat}
theorem tj_callVi (G : tp_Ok X Y N cc nL own ret) {y : MethodName} {cw : Cond} {bytes : ByteArray} {maxL n dep2 index : Nat} {rt : Option FieldType} {f : tp_O} {K : Int → tp_M → tp_O} {stk : List Value} (as : List Value) {k ci nn : Nat} {ks : List Nat} {r : vw_C} (Mv : tp_MV y cw bytes maxL rt n) (hk : k < N) (hL : L k = (ci + 4, nn, ks)) (hc : tp_cl[ci]? = some r) (hrc : r.1 = y.cls) (hw : Cond.methodLink own index y ∈ tp_W) (hd : dep2 + 1 ≤ dep) (hn : as.length = n) (hsk : stk = as.reverse ++ vR X k :: st) (hcat : (st.map fun v => v.category).sum ≤ 8) (hf : ∀ res2, f = some res2 → tp_Ret X L N 1 y cw dep2 (vR X k :: as) M res2) (d : decode cc pc = .ok (.invokevirtual index, 3)) (kk : ∀ (r : Int) (M1 : tp_M), tp_J X Y L N nL dep rk (K r M1) M1 lv (vI r :: st) (pc + 3)) : tp_J X Y L N nL dep rk (tp_bd f K) M lv (stk) (pc) := by
  obtain ⟨p, e, s, m, args, below, meth, c, res⟩ := Y
  obtain ⟨hx, hb, hml, hown, hts, hK, hNW, hE, hst, hr, hlk⟩ := G
  intro ho H locs ls hP hS hl
  obtain ⟨⟨hcw, hci, hini, hdy, hmx⟩, hin, hse⟩ := Mv
  subst hsk
  cases hfe : f with
  | none => rw [hfe] at ho; cases ho
  | some r2 =>
  rw [hfe] at ho
  have hM := hf r2 hfe
  refine va_calli (va_runV (As := as) (rest := st) ⟨hx, hb, hml, hown, hts⟩ hM (cwV (Ts := tp_W) n hts (tp_Gd (fun w hwm => by
      rcases List.mem_append.mp hwm with q | q
      · simp only [List.mem_cons, List.not_mem_nil, or_false] at q
        rcases q with q | q | q | q
        · rw [q]; exact hw
        · rw [q]; exact hin
        · rw [q]; exact hse
        · rw [q]; exact hini
      · rcases List.mem_cons.mp q with q | q
        · rw [q]; exact hci
        · exact q)) (by rw [hcw]) rfl rfl ⟨rfl, hdy⟩ ⟨hd, by show 8 + (maxL + 11) + 64 * dep2 ≤ 64 * dep; omega⟩) ⟨tp_blind, (by
      have hrv := va_recv hK hP hc (q0 := k) (by rw [tp_ws_at hk, hL]; rfl)
      rw [hrc] at hrv
      exact hrv), fun U hU hW => ⟨rfl, tp_pre hP hS hK hNW hE hst hU hW⟩⟩ rfl hn hl.1 rfl (lv_room hcat) d ⟨Nat.zero_le _, Nat.zero_le _⟩) hS (fun q _ h => h) (fun q h => h) (fun r u t H1 locs1 ht hvm hw2 hB hz1 hk1 hS1 => ?_)
  subst hw2
  have hP1 : tp_P X L N r2.2 H1 := by rw [← ht]; exact hB
  exact kk r2.1 r2.2 ho H1 locs1 ls hP1 hS1 hl
theorem tj_callVl (G : tp_Ok X Y N cc nL own ret) {y : MethodName} {cw : Cond} {bytes : ByteArray} {maxL n dep2 index : Nat} {rt : Option FieldType} {f : tp_O} {K : Int → tp_M → tp_O} {stk : List Value} (as : List Value) {k ci nn : Nat} {ks : List Nat} {r : vw_C} (Mv : tp_MV y cw bytes maxL rt n) (hk : k < N) (hL : L k = (ci + 4, nn, ks)) (hc : tp_cl[ci]? = some r) (hrc : r.1 = y.cls) (hw : Cond.methodLink own index y ∈ tp_W) (hd : dep2 + 1 ≤ dep) (hn : as.length = n) (hsk : stk = as.reverse ++ vR X k :: st) (hcat : (st.map fun v => v.category).sum ≤ 8) (hf : ∀ res2, f = some res2 → tp_Ret X L N 2 y cw dep2 (vR X k :: as) M res2) (d : decode cc pc = .ok (.invokevirtual index, 3)) (kk : ∀ (r : Int) (M1 : tp_M), tp_J X Y L N nL dep rk (K r M1) M1 lv (vL r :: st) (pc + 3)) : tp_J X Y L N nL dep rk (tp_bd f K) M lv (stk) (pc) := by
  obtain ⟨p, e, s, m, args, below, meth, c, res⟩ := Y
  obtain ⟨hx, hb, hml, hown, hts, hK, hNW, hE, hst, hr, hlk⟩ := G
  intro ho H locs ls hP hS hl
  obtain ⟨⟨hcw, hci, hini, hdy, hmx⟩, hin, hse⟩ := Mv
  subst hsk
  cases hfe : f with
  | none => rw [hfe] at ho; cases ho
  | some r2 =>
  rw [hfe] at ho
  have hM := hf r2 hfe
  refine va_calll (va_runV (As := as) (rest := st) ⟨hx, hb, hml, hown, hts⟩ hM (cwV (Ts := tp_W) n hts (tp_Gd (fun w hwm => by
      rcases List.mem_append.mp hwm with q | q
      · simp only [List.mem_cons, List.not_mem_nil, or_false] at q
        rcases q with q | q | q | q
        · rw [q]; exact hw
        · rw [q]; exact hin
        · rw [q]; exact hse
        · rw [q]; exact hini
      · rcases List.mem_cons.mp q with q | q
        · rw [q]; exact hci
        · exact q)) (by rw [hcw]) rfl rfl ⟨rfl, hdy⟩ ⟨hd, by show 8 + (maxL + 11) + 64 * dep2 ≤ 64 * dep; omega⟩) ⟨tp_blind, (by
      have hrv := va_recv hK hP hc (q0 := k) (by rw [tp_ws_at hk, hL]; rfl)
      rw [hrc] at hrv
      exact hrv), fun U hU hW => ⟨rfl, tp_pre hP hS hK hNW hE hst hU hW⟩⟩ rfl hn hl.1 rfl (lv_room hcat) d ⟨Nat.zero_le _, Nat.zero_le _⟩) hS (fun q _ h => h) (fun q h => h) (fun r u t H1 locs1 ht hvm hw2 hB hz1 hk1 hS1 => ?_)
  subst hw2
  have hP1 : tp_P X L N r2.2 H1 := by rw [← ht]; exact hB
  exact kk r2.1 r2.2 ho H1 locs1 ls hP1 hS1 hl
theorem tj_callVv (G : tp_Ok X Y N cc nL own ret) {y : MethodName} {cw : Cond} {bytes : ByteArray} {maxL n dep2 index : Nat} {rt : Option FieldType} {f : tp_O} {K : Int → tp_M → tp_O} {stk : List Value} (as : List Value) {k ci nn : Nat} {ks : List Nat} {r : vw_C} (Mv : tp_MV y cw bytes maxL rt n) (hk : k < N) (hL : L k = (ci + 4, nn, ks)) (hc : tp_cl[ci]? = some r) (hrc : r.1 = y.cls) (hw : Cond.methodLink own index y ∈ tp_W) (hd : dep2 + 1 ≤ dep) (hn : as.length = n) (hsk : stk = as.reverse ++ vR X k :: st) (hcat : (st.map fun v => v.category).sum ≤ 8) (hf : ∀ res2, f = some res2 → tp_Ret X L N 0 y cw dep2 (vR X k :: as) M res2) (d : decode cc pc = .ok (.invokevirtual index, 3)) (kk : ∀ (r : Int) (M1 : tp_M), tp_J X Y L N nL dep rk (K r M1) M1 lv (st) (pc + 3)) : tp_J X Y L N nL dep rk (tp_bd f K) M lv (stk) (pc) := by
  obtain ⟨p, e, s, m, args, below, meth, c, res⟩ := Y
  obtain ⟨hx, hb, hml, hown, hts, hK, hNW, hE, hst, hr, hlk⟩ := G
  intro ho H locs ls hP hS hl
  obtain ⟨⟨hcw, hci, hini, hdy, hmx⟩, hin, hse⟩ := Mv
  subst hsk
  cases hfe : f with
  | none => rw [hfe] at ho; cases ho
  | some r2 =>
  rw [hfe] at ho
  have hM := hf r2 hfe
  refine va_callv (va_runV (As := as) (rest := st) ⟨hx, hb, hml, hown, hts⟩ hM (cwV (Ts := tp_W) n hts (tp_Gd (fun w hwm => by
      rcases List.mem_append.mp hwm with q | q
      · simp only [List.mem_cons, List.not_mem_nil, or_false] at q
        rcases q with q | q | q | q
        · rw [q]; exact hw
        · rw [q]; exact hin
        · rw [q]; exact hse
        · rw [q]; exact hini
      · rcases List.mem_cons.mp q with q | q
        · rw [q]; exact hci
        · exact q)) (by rw [hcw]) rfl rfl ⟨rfl, hdy⟩ ⟨hd, by show 8 + (maxL + 11) + 64 * dep2 ≤ 64 * dep; omega⟩) ⟨tp_blind, (by
      have hrv := va_recv hK hP hc (q0 := k) (by rw [tp_ws_at hk, hL]; rfl)
      rw [hrc] at hrv
      exact hrv), fun U hU hW => ⟨rfl, tp_pre hP hS hK hNW hE hst hU hW⟩⟩ rfl hn hl.1 rfl (lv_room hcat) d ⟨Nat.zero_le _, Nat.zero_le _⟩) hS (fun q _ h => h) (fun q h => h) (fun u t H1 locs1 ht hvm hw2 hB hz1 hk1 hS1 => ?_)
  have hP1 : tp_P X L N r2.2 H1 := by rw [← ht]; exact hB
  exact kk r2.1 r2.2 ho H1 locs1 ls hP1 hS1 hl
theorem tj_callSi (G : tp_Ok X Y N cc nL own ret) {y : MethodName} {cw : Cond} {bytes : ByteArray} {maxL n dep2 index : Nat} {rt : Option FieldType} {f : tp_O} {K : Int → tp_M → tp_O} {stk : List Value} (as : List Value) (Mv : tp_MS y cw bytes maxL rt n) (hw : Cond.methodLink own index y ∈ tp_W) (hd : dep2 + 1 ≤ dep) (hn : as.length = n) (hsk : stk = as.reverse ++ st) (hcat : (st.map fun v => v.category).sum ≤ 8) (hf : ∀ res2, f = some res2 → tp_Ret X L N 1 y cw dep2 (as) M res2) (d : decode cc pc = .ok (.invokestatic index, 3)) (kk : ∀ (r : Int) (M1 : tp_M), tp_J X Y L N nL dep rk (K r M1) M1 lv (vI r :: st) (pc + 3)) : tp_J X Y L N nL dep rk (tp_bd f K) M lv (stk) (pc) := by
  obtain ⟨p, e, s, m, args, below, meth, c, res⟩ := Y
  obtain ⟨hx, hb, hml, hown, hts, hK, hNW, hE, hst, hr, hlk⟩ := G
  intro ho H locs ls hP hS hl
  obtain ⟨⟨hcw, hci, hini, hdy, hmx⟩, hsta⟩ := Mv
  subst hsk
  cases hfe : f with
  | none => rw [hfe] at ho; cases ho
  | some r2 =>
  rw [hfe] at ho
  have hM := hf r2 hfe
  refine va_calli (va_runS (As := as) (rest := st) ⟨hx, hb, hml, hown, hts⟩ hM (va_cwS (Ts := tp_W) n hts (tp_Gd (fun w hwm => by
      rcases List.mem_append.mp hwm with q | q
      · simp only [List.mem_cons, List.not_mem_nil, or_false] at q
        rcases q with q | q | q
        · rw [q]; exact hw
        · rw [q]; exact hsta
        · rw [q]; exact hini
      · rcases List.mem_cons.mp q with q | q
        · rw [q]; exact hci
        · exact q)) (by rw [hcw]) rfl rfl hdy ⟨hd, by show 8 + (maxL + 11) + 64 * dep2 ≤ 64 * dep; omega⟩) ⟨tp_blind, fun U hU hW => ⟨rfl, tp_pre hP hS hK hNW hE hst hU hW⟩⟩ rfl hn hl.1 rfl (lv_room hcat) d ⟨Nat.zero_le _, Nat.zero_le _⟩) hS (fun q _ h => h) (fun q h => h) (fun r u t H1 locs1 ht hvm hw2 hB hz1 hk1 hS1 => ?_)
  subst hw2
  have hP1 : tp_P X L N r2.2 H1 := by rw [← ht]; exact hB
  exact kk r2.1 r2.2 ho H1 locs1 ls hP1 hS1 hl
theorem tj_callSl (G : tp_Ok X Y N cc nL own ret) {y : MethodName} {cw : Cond} {bytes : ByteArray} {maxL n dep2 index : Nat} {rt : Option FieldType} {f : tp_O} {K : Int → tp_M → tp_O} {stk : List Value} (as : List Value) (Mv : tp_MS y cw bytes maxL rt n) (hw : Cond.methodLink own index y ∈ tp_W) (hd : dep2 + 1 ≤ dep) (hn : as.length = n) (hsk : stk = as.reverse ++ st) (hcat : (st.map fun v => v.category).sum ≤ 8) (hf : ∀ res2, f = some res2 → tp_Ret X L N 2 y cw dep2 (as) M res2) (d : decode cc pc = .ok (.invokestatic index, 3)) (kk : ∀ (r : Int) (M1 : tp_M), tp_J X Y L N nL dep rk (K r M1) M1 lv (vL r :: st) (pc + 3)) : tp_J X Y L N nL dep rk (tp_bd f K) M lv (stk) (pc) := by
  obtain ⟨p, e, s, m, args, below, meth, c, res⟩ := Y
  obtain ⟨hx, hb, hml, hown, hts, hK, hNW, hE, hst, hr, hlk⟩ := G
  intro ho H locs ls hP hS hl
  obtain ⟨⟨hcw, hci, hini, hdy, hmx⟩, hsta⟩ := Mv
  subst hsk
  cases hfe : f with
  | none => rw [hfe] at ho; cases ho
  | some r2 =>
  rw [hfe] at ho
  have hM := hf r2 hfe
  refine va_calll (va_runS (As := as) (rest := st) ⟨hx, hb, hml, hown, hts⟩ hM (va_cwS (Ts := tp_W) n hts (tp_Gd (fun w hwm => by
      rcases List.mem_append.mp hwm with q | q
      · simp only [List.mem_cons, List.not_mem_nil, or_false] at q
        rcases q with q | q | q
        · rw [q]; exact hw
        · rw [q]; exact hsta
        · rw [q]; exact hini
      · rcases List.mem_cons.mp q with q | q
        · rw [q]; exact hci
        · exact q)) (by rw [hcw]) rfl rfl hdy ⟨hd, by show 8 + (maxL + 11) + 64 * dep2 ≤ 64 * dep; omega⟩) ⟨tp_blind, fun U hU hW => ⟨rfl, tp_pre hP hS hK hNW hE hst hU hW⟩⟩ rfl hn hl.1 rfl (lv_room hcat) d ⟨Nat.zero_le _, Nat.zero_le _⟩) hS (fun q _ h => h) (fun q h => h) (fun r u t H1 locs1 ht hvm hw2 hB hz1 hk1 hS1 => ?_)
  subst hw2
  have hP1 : tp_P X L N r2.2 H1 := by rw [← ht]; exact hB
  exact kk r2.1 r2.2 ho H1 locs1 ls hP1 hS1 hl
theorem tj_callSv (G : tp_Ok X Y N cc nL own ret) {y : MethodName} {cw : Cond} {bytes : ByteArray} {maxL n dep2 index : Nat} {rt : Option FieldType} {f : tp_O} {K : Int → tp_M → tp_O} {stk : List Value} (as : List Value) (Mv : tp_MS y cw bytes maxL rt n) (hw : Cond.methodLink own index y ∈ tp_W) (hd : dep2 + 1 ≤ dep) (hn : as.length = n) (hsk : stk = as.reverse ++ st) (hcat : (st.map fun v => v.category).sum ≤ 8) (hf : ∀ res2, f = some res2 → tp_Ret X L N 0 y cw dep2 (as) M res2) (d : decode cc pc = .ok (.invokestatic index, 3)) (kk : ∀ (r : Int) (M1 : tp_M), tp_J X Y L N nL dep rk (K r M1) M1 lv (st) (pc + 3)) : tp_J X Y L N nL dep rk (tp_bd f K) M lv (stk) (pc) := by
  obtain ⟨p, e, s, m, args, below, meth, c, res⟩ := Y
  obtain ⟨hx, hb, hml, hown, hts, hK, hNW, hE, hst, hr, hlk⟩ := G
  intro ho H locs ls hP hS hl
  obtain ⟨⟨hcw, hci, hini, hdy, hmx⟩, hsta⟩ := Mv
  subst hsk
  cases hfe : f with
  | none => rw [hfe] at ho; cases ho
  | some r2 =>
  rw [hfe] at ho
  have hM := hf r2 hfe
  refine va_callv (va_runS (As := as) (rest := st) ⟨hx, hb, hml, hown, hts⟩ hM (va_cwS (Ts := tp_W) n hts (tp_Gd (fun w hwm => by
      rcases List.mem_append.mp hwm with q | q
      · simp only [List.mem_cons, List.not_mem_nil, or_false] at q
        rcases q with q | q | q
        · rw [q]; exact hw
        · rw [q]; exact hsta
        · rw [q]; exact hini
      · rcases List.mem_cons.mp q with q | q
        · rw [q]; exact hci
        · exact q)) (by rw [hcw]) rfl rfl hdy ⟨hd, by show 8 + (maxL + 11) + 64 * dep2 ≤ 64 * dep; omega⟩) ⟨tp_blind, fun U hU hW => ⟨rfl, tp_pre hP hS hK hNW hE hst hU hW⟩⟩ rfl hn hl.1 rfl (lv_room hcat) d ⟨Nat.zero_le _, Nat.zero_le _⟩) hS (fun q _ h => h) (fun q h => h) (fun u t H1 locs1 ht hvm hw2 hB hz1 hk1 hS1 => ?_)
  have hP1 : tp_P X L N r2.2 H1 := by rw [← ht]; exact hB
  exact kk r2.1 r2.2 ho H1 locs1 ls hP1 hS1 hl
theorem tj_callNi (G : tp_Ok X Y N cc nL own ret) {y : MethodName} {cw : Cond} {bytes : ByteArray} {maxL n dep2 index : Nat} {rt : Option FieldType} {f : tp_O} {K : Int → tp_M → tp_O} {stk : List Value} (as : List Value) (Mv : tp_MS y cw bytes maxL rt n) {host : String} (hw : Cond.methodLinkNest own index y host ∈ tp_NW) (hd : dep2 + 1 ≤ dep) (hn : as.length = n) (hsk : stk = as.reverse ++ st) (hcat : (st.map fun v => v.category).sum ≤ 8) (hf : ∀ res2, f = some res2 → tp_Ret X L N 1 y cw dep2 (as) M res2) (d : decode cc pc = .ok (.invokestatic index, 3)) (kk : ∀ (r : Int) (M1 : tp_M), tp_J X Y L N nL dep rk (K r M1) M1 lv (vI r :: st) (pc + 3)) : tp_J X Y L N nL dep rk (tp_bd f K) M lv (stk) (pc) := by
  obtain ⟨p, e, s, m, args, below, meth, c, res⟩ := Y
  obtain ⟨hx, hb, hml, hown, hts, hK, hNW, hE, hst, hr, hlk⟩ := G
  intro ho H locs ls hP hS hl
  obtain ⟨⟨hcw, hci, hini, hdy, hmx⟩, hsta⟩ := Mv
  subst hsk
  cases hfe : f with
  | none => rw [hfe] at ho; cases ho
  | some r2 =>
  rw [hfe] at ho
  have hM := hf r2 hfe
  refine va_calli (va_runSN (As := as) (rest := st) ⟨hx, hb, hml, hown, hts⟩ hM ⟨va_cnB (Ts := tp_W) n hts (tp_Gd (fun w hwm => by
      rcases List.mem_cons.mp hwm with q | q
      · rw [q]; exact hci
      · exact q)) (by rw [hcw]) rfl rfl (hNW _ hw) (hts _ hini) hdy ⟨hd, by show 8 + (maxL + 11) + 64 * dep2 ≤ 64 * dep; omega⟩, hts _ hsta, trivial⟩ ⟨tp_blind, fun U hU hW => ⟨rfl, tp_pre hP hS hK hNW hE hst hU hW⟩⟩ rfl hn hl.1 rfl (lv_room hcat) d ⟨Nat.zero_le _, Nat.zero_le _⟩) hS (fun q _ h => h) (fun q h => h) (fun r u t H1 locs1 ht hvm hw2 hB hz1 hk1 hS1 => ?_)
  subst hw2
  have hP1 : tp_P X L N r2.2 H1 := by rw [← ht]; exact hB
  exact kk r2.1 r2.2 ho H1 locs1 ls hP1 hS1 hl
end TC
def tp_lp0 (body : (tp_M → tp_O) → tp_M → tp_O) : Nat → tp_M → tp_O
  | 0 => fun  _ => none
  | n + 1 => body (tp_lp0 body n)
theorem tp_lp0_ok {body : (tp_M → tp_O) → tp_M → tp_O} {P : tp_O → tp_M → Prop} (h0 : ∀ (M : tp_M), P none  M) (hs : ∀ rec : tp_M → tp_O, (∀ (M : tp_M), P (rec  M)  M) → ∀ (M : tp_M), P (body rec  M)  M) (n : Nat) : ∀ (M : tp_M), P (tp_lp0 body n  M)  M := by
  induction n with
  | zero => exact h0
  | succ n ih => exact hs _ ih
theorem tp_lp0_s (body : (tp_M → tp_O) → tp_M → tp_O) (n : Nat) (M : tp_M) : tp_lp0 body (n + 1)  M = body (tp_lp0 body n)  M := rfl
def tp_lp1 (body : (Int → tp_M → tp_O) → Int → tp_M → tp_O) : Nat → Int → tp_M → tp_O
  | 0 => fun _ _ => none
  | n + 1 => body (tp_lp1 body n)
theorem tp_lp1_ok {body : (Int → tp_M → tp_O) → Int → tp_M → tp_O} {P : tp_O → Int → tp_M → Prop} (h0 : ∀ (x0 : Int) (M : tp_M), P none x0 M) (hs : ∀ rec : Int → tp_M → tp_O, (∀ (x0 : Int) (M : tp_M), P (rec x0 M) x0 M) → ∀ (x0 : Int) (M : tp_M), P (body rec x0 M) x0 M) (n : Nat) : ∀ (x0 : Int) (M : tp_M), P (tp_lp1 body n x0 M) x0 M := by
  induction n with
  | zero => exact h0
  | succ n ih => exact hs _ ih
theorem tp_lp1_s (body : (Int → tp_M → tp_O) → Int → tp_M → tp_O) (n : Nat) (x0 : Int) (M : tp_M) : tp_lp1 body (n + 1) x0 M = body (tp_lp1 body n) x0 M := rfl
def tp_lp2 (body : (Int → Int → tp_M → tp_O) → Int → Int → tp_M → tp_O) : Nat → Int → Int → tp_M → tp_O
  | 0 => fun _ _ _ => none
  | n + 1 => body (tp_lp2 body n)
theorem tp_lp2_ok {body : (Int → Int → tp_M → tp_O) → Int → Int → tp_M → tp_O} {P : tp_O → Int → Int → tp_M → Prop} (h0 : ∀ (x0 x1 : Int) (M : tp_M), P none x0 x1 M) (hs : ∀ rec : Int → Int → tp_M → tp_O, (∀ (x0 x1 : Int) (M : tp_M), P (rec x0 x1 M) x0 x1 M) → ∀ (x0 x1 : Int) (M : tp_M), P (body rec x0 x1 M) x0 x1 M) (n : Nat) : ∀ (x0 x1 : Int) (M : tp_M), P (tp_lp2 body n x0 x1 M) x0 x1 M := by
  induction n with
  | zero => exact h0
  | succ n ih => exact hs _ ih
theorem tp_lp2_s (body : (Int → Int → tp_M → tp_O) → Int → Int → tp_M → tp_O) (n : Nat) (x0 x1 : Int) (M : tp_M) : tp_lp2 body (n + 1) x0 x1 M = body (tp_lp2 body n) x0 x1 M := rfl
def tp_lp3 (body : (Int → Int → Int → tp_M → tp_O) → Int → Int → Int → tp_M → tp_O) : Nat → Int → Int → Int → tp_M → tp_O
  | 0 => fun _ _ _ _ => none
  | n + 1 => body (tp_lp3 body n)
theorem tp_lp3_ok {body : (Int → Int → Int → tp_M → tp_O) → Int → Int → Int → tp_M → tp_O} {P : tp_O → Int → Int → Int → tp_M → Prop} (h0 : ∀ (x0 x1 x2 : Int) (M : tp_M), P none x0 x1 x2 M) (hs : ∀ rec : Int → Int → Int → tp_M → tp_O, (∀ (x0 x1 x2 : Int) (M : tp_M), P (rec x0 x1 x2 M) x0 x1 x2 M) → ∀ (x0 x1 x2 : Int) (M : tp_M), P (body rec x0 x1 x2 M) x0 x1 x2 M) (n : Nat) : ∀ (x0 x1 x2 : Int) (M : tp_M), P (tp_lp3 body n x0 x1 x2 M) x0 x1 x2 M := by
  induction n with
  | zero => exact h0
  | succ n ih => exact hs _ ih
theorem tp_lp3_s (body : (Int → Int → Int → tp_M → tp_O) → Int → Int → Int → tp_M → tp_O) (n : Nat) (x0 x1 x2 : Int) (M : tp_M) : tp_lp3 body (n + 1) x0 x1 x2 M = body (tp_lp3 body n) x0 x1 x2 M := rfl
def tp_lp4 (body : (Int → Int → Int → Int → tp_M → tp_O) → Int → Int → Int → Int → tp_M → tp_O) : Nat → Int → Int → Int → Int → tp_M → tp_O
  | 0 => fun _ _ _ _ _ => none
  | n + 1 => body (tp_lp4 body n)
theorem tp_lp4_ok {body : (Int → Int → Int → Int → tp_M → tp_O) → Int → Int → Int → Int → tp_M → tp_O} {P : tp_O → Int → Int → Int → Int → tp_M → Prop} (h0 : ∀ (x0 x1 x2 x3 : Int) (M : tp_M), P none x0 x1 x2 x3 M) (hs : ∀ rec : Int → Int → Int → Int → tp_M → tp_O, (∀ (x0 x1 x2 x3 : Int) (M : tp_M), P (rec x0 x1 x2 x3 M) x0 x1 x2 x3 M) → ∀ (x0 x1 x2 x3 : Int) (M : tp_M), P (body rec x0 x1 x2 x3 M) x0 x1 x2 x3 M) (n : Nat) : ∀ (x0 x1 x2 x3 : Int) (M : tp_M), P (tp_lp4 body n x0 x1 x2 x3 M) x0 x1 x2 x3 M := by
  induction n with
  | zero => exact h0
  | succ n ih => exact hs _ ih
theorem tp_lp4_s (body : (Int → Int → Int → Int → tp_M → tp_O) → Int → Int → Int → Int → tp_M → tp_O) (n : Nat) (x0 x1 x2 x3 : Int) (M : tp_M) : tp_lp4 body (n + 1) x0 x1 x2 x3 M = body (tp_lp4 body n) x0 x1 x2 x3 M := rfl
def tp_lp5 (body : (Int → Int → Int → Int → Int → tp_M → tp_O) → Int → Int → Int → Int → Int → tp_M → tp_O) : Nat → Int → Int → Int → Int → Int → tp_M → tp_O
  | 0 => fun _ _ _ _ _ _ => none
  | n + 1 => body (tp_lp5 body n)
theorem tp_lp5_ok {body : (Int → Int → Int → Int → Int → tp_M → tp_O) → Int → Int → Int → Int → Int → tp_M → tp_O} {P : tp_O → Int → Int → Int → Int → Int → tp_M → Prop} (h0 : ∀ (x0 x1 x2 x3 x4 : Int) (M : tp_M), P none x0 x1 x2 x3 x4 M) (hs : ∀ rec : Int → Int → Int → Int → Int → tp_M → tp_O, (∀ (x0 x1 x2 x3 x4 : Int) (M : tp_M), P (rec x0 x1 x2 x3 x4 M) x0 x1 x2 x3 x4 M) → ∀ (x0 x1 x2 x3 x4 : Int) (M : tp_M), P (body rec x0 x1 x2 x3 x4 M) x0 x1 x2 x3 x4 M) (n : Nat) : ∀ (x0 x1 x2 x3 x4 : Int) (M : tp_M), P (tp_lp5 body n x0 x1 x2 x3 x4 M) x0 x1 x2 x3 x4 M := by
  induction n with
  | zero => exact h0
  | succ n ih => exact hs _ ih
theorem tp_lp5_s (body : (Int → Int → Int → Int → Int → tp_M → tp_O) → Int → Int → Int → Int → Int → tp_M → tp_O) (n : Nat) (x0 x1 x2 x3 x4 : Int) (M : tp_M) : tp_lp5 body (n + 1) x0 x1 x2 x3 x4 M = body (tp_lp5 body n) x0 x1 x2 x3 x4 M := rfl
def tp_lp6 (body : (Int → Int → Int → Int → Int → Int → tp_M → tp_O) → Int → Int → Int → Int → Int → Int → tp_M → tp_O) : Nat → Int → Int → Int → Int → Int → Int → tp_M → tp_O
  | 0 => fun _ _ _ _ _ _ _ => none
  | n + 1 => body (tp_lp6 body n)
theorem tp_lp6_ok {body : (Int → Int → Int → Int → Int → Int → tp_M → tp_O) → Int → Int → Int → Int → Int → Int → tp_M → tp_O} {P : tp_O → Int → Int → Int → Int → Int → Int → tp_M → Prop} (h0 : ∀ (x0 x1 x2 x3 x4 x5 : Int) (M : tp_M), P none x0 x1 x2 x3 x4 x5 M) (hs : ∀ rec : Int → Int → Int → Int → Int → Int → tp_M → tp_O, (∀ (x0 x1 x2 x3 x4 x5 : Int) (M : tp_M), P (rec x0 x1 x2 x3 x4 x5 M) x0 x1 x2 x3 x4 x5 M) → ∀ (x0 x1 x2 x3 x4 x5 : Int) (M : tp_M), P (body rec x0 x1 x2 x3 x4 x5 M) x0 x1 x2 x3 x4 x5 M) (n : Nat) : ∀ (x0 x1 x2 x3 x4 x5 : Int) (M : tp_M), P (tp_lp6 body n x0 x1 x2 x3 x4 x5 M) x0 x1 x2 x3 x4 x5 M := by
  induction n with
  | zero => exact h0
  | succ n ih => exact hs _ ih
theorem tp_lp6_s (body : (Int → Int → Int → Int → Int → Int → tp_M → tp_O) → Int → Int → Int → Int → Int → Int → tp_M → tp_O) (n : Nat) (x0 x1 x2 x3 x4 x5 : Int) (M : tp_M) : tp_lp6 body (n + 1) x0 x1 x2 x3 x4 x5 M = body (tp_lp6 body n) x0 x1 x2 x3 x4 x5 M := rfl
def tp_lp7 (body : (Int → Int → Int → Int → Int → Int → Int → tp_M → tp_O) → Int → Int → Int → Int → Int → Int → Int → tp_M → tp_O) : Nat → Int → Int → Int → Int → Int → Int → Int → tp_M → tp_O
  | 0 => fun _ _ _ _ _ _ _ _ => none
  | n + 1 => body (tp_lp7 body n)
theorem tp_lp7_ok {body : (Int → Int → Int → Int → Int → Int → Int → tp_M → tp_O) → Int → Int → Int → Int → Int → Int → Int → tp_M → tp_O} {P : tp_O → Int → Int → Int → Int → Int → Int → Int → tp_M → Prop} (h0 : ∀ (x0 x1 x2 x3 x4 x5 x6 : Int) (M : tp_M), P none x0 x1 x2 x3 x4 x5 x6 M) (hs : ∀ rec : Int → Int → Int → Int → Int → Int → Int → tp_M → tp_O, (∀ (x0 x1 x2 x3 x4 x5 x6 : Int) (M : tp_M), P (rec x0 x1 x2 x3 x4 x5 x6 M) x0 x1 x2 x3 x4 x5 x6 M) → ∀ (x0 x1 x2 x3 x4 x5 x6 : Int) (M : tp_M), P (body rec x0 x1 x2 x3 x4 x5 x6 M) x0 x1 x2 x3 x4 x5 x6 M) (n : Nat) : ∀ (x0 x1 x2 x3 x4 x5 x6 : Int) (M : tp_M), P (tp_lp7 body n x0 x1 x2 x3 x4 x5 x6 M) x0 x1 x2 x3 x4 x5 x6 M := by
  induction n with
  | zero => exact h0
  | succ n ih => exact hs _ ih
theorem tp_lp7_s (body : (Int → Int → Int → Int → Int → Int → Int → tp_M → tp_O) → Int → Int → Int → Int → Int → Int → Int → tp_M → tp_O) (n : Nat) (x0 x1 x2 x3 x4 x5 x6 : Int) (M : tp_M) : tp_lp7 body (n + 1) x0 x1 x2 x3 x4 x5 x6 M = body (tp_lp7 body n) x0 x1 x2 x3 x4 x5 x6 M := rfl
def tp_F : Nat := 100000000
