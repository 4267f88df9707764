theorem cl_X10_149 : Cond.classLink RX10 149 "java/util/NoSuchElementException" ∈ tp_W := tp_W_of (tm_5 (List.mem_of_getElem? (i := 90) rfl)) rfl
theorem mi_nse : Cond.initialized "java/util/NoSuchElementException" ∈ tp_W := tp_W_of (tm_1 (List.mem_of_getElem? (i := 22) rfl)) rfl
def tp_TH : Int := 1180591620717411303424
def tp_thw : List Cond := [.declares ⟨"java/lang/RuntimeException", "<init>", "()V"⟩, .declares ⟨"java/lang/Exception", "<init>", "()V"⟩, .declares ⟨"java/lang/Throwable", "<init>", "()V"⟩, .castable "java/util/NoSuchElementException" "java/util/NoSuchElementException"]
abbrev tp_ths : List Cond := vx_at0 RX10 151 "java/util/NoSuchElementException" ["java/lang/RuntimeException", "java/lang/Exception"]
theorem tp_thg : ∀ w ∈ tp_ths.filter goodWord, w ∈ tp_W := by decide +kernel
theorem tp_thn : ∀ w ∈ tp_ths.filter (fun w => !goodWord w), w ∈ tp_thw := by decide +kernel
theorem tp_tho : ∀ w ∈ Cond.classLink RX10 149 "java/util/NoSuchElementException" :: Cond.initialized "java/util/NoSuchElementException" :: tp_ths, vx_ot w = true := by decide +kernel
/-- what a throw needs of the world's outside -/
def tp_thr (A : Nat → Prop) (U : State) : Prop := (∀ w ∈ tp_thw, va_Nw w U) ∧ vx_Zq Bundle.tN "UNASSIGNED_STACK" Bundle.steD A U U.heap ∧ vx_Zq Bundle.tN "SUPPRESSED_SENTINEL" Bundle.listD A U U.heap
theorem tp_thr_st {A : Nat → Prop} : tp_st (tp_thr A) A := by
  intro u U h hW hz hq
  obtain ⟨h1, h2, h3⟩ := h
  refine ⟨fun w hw => ?_, (h2.moved hW.alike).kept hq, (h3.moved hW.alike).kept hq⟩
  have h9 := h1 w hw
  simp only [tp_thw, List.mem_cons, List.not_mem_nil, or_false] at hw
  rcases hw with rfl | rfl | rfl | rfl
  · exact va_Nw.warmD hW h9
  · exact va_Nw.warmD hW h9
  · exact va_Nw.warmD hW h9
  · exact va_Nw.warmC hW h9
def tp_TX (X : tp_X) (N : Nat) : Prop := X.1.stackTraces = false ∧ ∀ U, X.2.2.2.1 U → tp_thr (tp_A X.2.2.2.2 N) U
def tp_rmX (dep : Nat) : Room := { frames := dep, cells := 1, slots := 6, locals := 64 * dep }
def tp_QX (X : tp_X) (L : Nat → tp_K) (N rk : Nat) (res : Int × tp_M) : Array Value → State → Outcome → State → Prop := match rk with
  | 1 => va_Qi (fun r (_ : Unit) => r = Int32.ofInt res.1 ∧ res.1 ≠ tp_TH) (fun _ t => tp_P X L N res.2 t.heap) (tp_A X.2.2.2.2 N)
  | _ => va_Ql (fun r (_ : Unit) => r = Int64.ofInt res.1 ∧ res.1 ≠ tp_TH) (fun _ t => tp_P X L N res.2 t.heap) (tp_A X.2.2.2.2 N)
def tp_XC (X : tp_X) (L : Nat → tp_K) (N : Nat) (res : Int × tp_M) : String → State → State → Prop := vx_X (fun _ : Unit => res.1 = tp_TH) (fun E _ t => E = "java/util/NoSuchElementException" ∧ tp_P X L N res.2 t.heap) (tp_A X.2.2.2.2 N)
/-- the contract of a method that may throw NoSuchElementException: then res.1 is tp_TH -/
def tp_RetX (X : tp_X) (L : Nat → tp_K) (N rk : Nat) (y : MethodName) (cw : Cond) (dep : Nat) (av : List Value) (M : tp_M) (res : Int × tp_M) : Prop :=
  vx_Met X.1 y (cw :: tp_W) (tp_rmX dep) (va_Pc av (tp_B X L N M)) (tp_QX X L N rk res) (tp_XC X L N res) 1 6 (tp_A X.2.2.2.2 N)
def tp_OkX (X : tp_X) (Y : tp_Y) (N : Nat) (cc : ByteArray) (nL : Nat) (own : String) (ret : Option FieldType) : Prop := tp_Ok X Y N cc nL own ret ∧ match Y with
  | (_, _, _, _, _, _, _, c, _) => ∀ x ∈ c.exceptionTable.toList, False
def tp_JX (X : tp_X) (Y : tp_Y) (L : Nat → tp_K) (N nL dep rk : Nat) (o : tp_O) (M : tp_M) (lv : tp_V) (st : List Value) (pc : Nat) : Prop := match Y with
  | (p, e, s, m, args, below, meth, c, res) => o = some res → ∀ (H : Heap) (locs : List Loc) (ls : Array Slot), tp_P X L N M H → va_S (tp_A X.2.2.2.2 N) s.heap H locs → lv_has ls nL lv → W p X.1 e (tp_rmX dep) s m args below meth c H locs 0 0 (vx_MQ below (tp_QX X L N rk res) (tp_XC X L N res) args s 1 6 (tp_A X.2.2.2.2 N)) (F0 m pc ls st)
theorem tp_ofWX {X : tp_X} {L : Nat → tp_K} {N rk dep maxL : Nat} {y : MethodName} {cw : Cond} {av : List Value} {M : tp_M} {res : Int × tp_M} {cc : ByteArray} {own : String} {ret : Option FieldType} {o : tp_O} (hy : plainName y.cls = true) (hcw : cw = Cond.code y cc maxL ret) (hown : y.cls = own) (hml : (lg_sl av).length ≤ maxL) (ho : o = some res)
    (body : ∀ Y : tp_Y, tp_OkX X Y N cc maxL own ret → tp_JX X Y L N maxL dep rk o M (lv_args 0 av) [] 0) : tp_RetX X L N rk y cw dep av M res := by
  refine vx_ofW (cc := cc) (maxL := maxL) (ret := ret) hy (by rw [hcw]) ?_
  intro p e s m args below meth c s₁ B hml2 htab hv
  obtain ⟨rfl, hP, hK, hNW, hE, hst⟩ := hv
  have hts := atoms_spec (ws := cw :: tp_W) B.pre
  have hl := lv_entry av (n := maxL) hml
  have hJ := body (p, e, s, m, av.toArray, below, meth, c, res) ⟨⟨B.exec, B.bytes, hml2, by rw [← hown]; exact findClass_of_methodNamed B.named, fun w hw => hts w (List.mem_cons_of_mem _ hw), hK, hNW, hE, hst, B.returns, B.notSynchronized⟩, htab⟩ ho s.heap [] _ hP va_S.rf hl
  rw [lg_entry_eq]
  exact hJ
section TX
variable {X : tp_X} {Y : tp_Y} {L : Nat → tp_K} {N nL dep rk : Nat} {cc : ByteArray} {own : String} {ret : Option FieldType} {o : tp_O} {M : tp_M} {lv : tp_V} {st : List Value} {pc : Nat}
variable {A B : tp_O} {off : Int} {tgt : Nat}
theorem tx_iconst (G : tp_OkX X Y N cc nL own ret) {v : Int} (d : decode cc pc = .ok (.iconst v, 1)) (kk : tp_JX X Y L N nL dep rk o M lv (vI v :: st) (pc + 1)) : tp_JX X Y L N nL dep rk o M lv (st) (pc) := by
  obtain ⟨p, e, s, m, args, below, meth, c, res⟩ := Y
  obtain ⟨⟨hx, hb, hml, hown, hts, hK, hNW, hE, hst, hr, hlk⟩, htab⟩ := G
  intro ho H locs ls hP hS hl
  refine lv_iconst hx hb d rfl ?_
  exact kk ho H locs ls hP hS hl
theorem tx_bipush (G : tp_OkX X Y N cc nL own ret) {v : Int} (d : decode cc pc = .ok (.bipush v, 2)) (hv : (Int8.ofInt v).toInt32 = Int32.ofInt v) (kk : tp_JX X Y L N nL dep rk o M lv (vI v :: st) (pc + 2)) : tp_JX X Y L N nL dep rk o M lv (st) (pc) := by
  obtain ⟨p, e, s, m, args, below, meth, c, res⟩ := Y
  obtain ⟨⟨hx, hb, hml, hown, hts, hK, hNW, hE, hst, hr, hlk⟩, htab⟩ := G
  intro ho H locs ls hP hS hl
  refine lv_bipush hx hb d hv ?_
  exact kk ho H locs ls hP hS hl
theorem tx_iload_n (G : tp_OkX X Y N cc nL own ret) {k : Fin 4} {i : Nat} {a : Int} (q : Nat) (d : decode cc pc = .ok (.iload_n k, 1)) (hi : (k : Nat) = i) (hq : lv[q]? = some (i, vI a)) (kk : tp_JX X Y L N nL dep rk o M lv (vI a :: st) (pc + 1)) : tp_JX X Y L N nL dep rk o M lv (st) (pc) := by
  obtain ⟨p, e, s, m, args, below, meth, c, res⟩ := Y
  obtain ⟨⟨hx, hb, hml, hown, hts, hK, hNW, hE, hst, hr, hlk⟩, htab⟩ := G
  intro ho H locs ls hP hS hl
  refine lv_iload_n hx hb d hi (lv_at hl q hq) ?_
  exact kk ho H locs ls hP hS hl
theorem tx_iload (G : tp_OkX X Y N cc nL own ret) {i : Nat} {a : Int} (q : Nat) (d : decode cc pc = .ok (.iload i, 2)) (hq : lv[q]? = some (i, vI a)) (kk : tp_JX X Y L N nL dep rk o M lv (vI a :: st) (pc + 2)) : tp_JX X Y L N nL dep rk o M lv (st) (pc) := by
  obtain ⟨p, e, s, m, args, below, meth, c, res⟩ := Y
  obtain ⟨⟨hx, hb, hml, hown, hts, hK, hNW, hE, hst, hr, hlk⟩, htab⟩ := G
  intro ho H locs ls hP hS hl
  refine lv_iload hx hb d (lv_at hl q hq) ?_
  exact kk ho H locs ls hP hS hl
theorem tx_aload_n (G : tp_OkX X Y N cc nL own ret) {k : Fin 4} {i : Nat} {a : Nat} (q : Nat) (d : decode cc pc = .ok (.aload_n k, 1)) (hi : (k : Nat) = i) (hq : lv[q]? = some (i, vR X a)) (kk : tp_JX X Y L N nL dep rk o M lv (vR X a :: st) (pc + 1)) : tp_JX X Y L N nL dep rk o M lv (st) (pc) := by
  obtain ⟨p, e, s, m, args, below, meth, c, res⟩ := Y
  obtain ⟨⟨hx, hb, hml, hown, hts, hK, hNW, hE, hst, hr, hlk⟩, htab⟩ := G
  intro ho H locs ls hP hS hl
  refine lv_aload_n hx hb d hi (lv_at hl q hq) ?_
  exact kk ho H locs ls hP hS hl
theorem tx_getI (G : tp_OkX X Y N cc nL own ret) {ci j k n Nf index : Nat} {C : String} {T : u_T} {ty : Nat → FieldType} {ks : List Nat} {j2 : Int} (Cx : tp_Cl ci C T Nf ty) (hk : k < N) (hL : L k = (ci + 4, n, ks)) (hj : ks[j]? = some (0)) (hjN : j < Nf) (hj2 : (j : Int) = j2) (hw : Cond.fieldLink own index (T j).1 (T j).2.1 (T j).2.2.1 ∈ tp_W) (d : decode cc pc = .ok (.getfield index, 3)) (kk : tp_JX X Y L N nL dep rk o M lv (vI (M k j2) :: st) (pc + 3)) : tp_JX X Y L N nL dep rk o M lv (vR X k :: st) (pc) := by
  obtain ⟨p, e, s, m, args, below, meth, c, res⟩ := Y
  obtain ⟨⟨hx, hb, hml, hown, hts, hK, hNW, hE, hst, hr, hlk⟩, htab⟩ := G
  intro ho H locs ls hP hS hl
  subst hj2
  have he := tp_ws_at (L := L) (N := N) (I := X.2.2.1) (b := X.2.2.2.2) (M := M) hk
  rw [hL] at he
  refine va_get hx hb (ws := tp_ws L N X.2.2.1 X.2.2.2.2 M) hts Cx.2.1 hown hK hP k he Cx.1 j hjN (hts _ hw) (fun x h => h) (tp_sl_at hj) d ?_
  exact kk ho H locs ls hP hS hl
theorem tx_getR (G : tp_OkX X Y N cc nL own ret) {t : Nat} {ci j k n Nf index : Nat} {C : String} {T : u_T} {ty : Nat → FieldType} {ks : List Nat} {j2 : Int} (Cx : tp_Cl ci C T Nf ty) (hk : k < N) (hL : L k = (ci + 4, n, ks)) (hj : ks[j]? = some (t + 2)) (hjN : j < Nf) (hj2 : (j : Int) = j2) (hw : Cond.fieldLink own index (T j).1 (T j).2.1 (T j).2.2.1 ∈ tp_W) (d : decode cc pc = .ok (.getfield index, 3)) (kk : tp_JX X Y L N nL dep rk o M lv (vR X t :: st) (pc + 3)) : tp_JX X Y L N nL dep rk o M lv (vR X k :: st) (pc) := by
  obtain ⟨p, e, s, m, args, below, meth, c, res⟩ := Y
  obtain ⟨⟨hx, hb, hml, hown, hts, hK, hNW, hE, hst, hr, hlk⟩, htab⟩ := G
  intro ho H locs ls hP hS hl
  subst hj2
  have he := tp_ws_at (L := L) (N := N) (I := X.2.2.1) (b := X.2.2.2.2) (M := M) hk
  rw [hL] at he
  refine va_get hx hb (ws := tp_ws L N X.2.2.1 X.2.2.2.2 M) hts Cx.2.1 hown hK hP k he Cx.1 j hjN (hts _ hw) (fun x h => h) (tp_sl_at hj) d ?_
  exact kk ho H locs ls hP hS hl
theorem tx_getIN (G : tp_OkX X Y N cc nL own ret) {host : String} {ci j k n Nf index : Nat} {C : String} {T : u_T} {ty : Nat → FieldType} {ks : List Nat} {j2 : Int} (Cx : tp_Cl ci C T Nf ty) (hk : k < N) (hL : L k = (ci + 4, n, ks)) (hj : ks[j]? = some (0)) (hjN : j < Nf) (hj2 : (j : Int) = j2) (hw : Cond.fieldLinkNest own index (T j).1 (T j).2.1 (T j).2.2.1 host ∈ tp_NW) (d : decode cc pc = .ok (.getfield index, 3)) (kk : tp_JX X Y L N nL dep rk o M lv (vI (M k j2) :: st) (pc + 3)) : tp_JX X Y L N nL dep rk o M lv (vR X k :: st) (pc) := by
  obtain ⟨p, e, s, m, args, below, meth, c, res⟩ := Y
  obtain ⟨⟨hx, hb, hml, hown, hts, hK, hNW, hE, hst, hr, hlk⟩, htab⟩ := G
  intro ho H locs ls hP hS hl
  subst hj2
  have he := tp_ws_at (L := L) (N := N) (I := X.2.2.1) (b := X.2.2.2.2) (M := M) hk
  rw [hL] at he
  refine va_getN hx hb (ws := tp_ws L N X.2.2.1 X.2.2.2.2 M) hts Cx.2.1 hown hK hP k he Cx.1 j hjN (va_Nw.use rfl (hNW _ hw)) (fun x h => h) (tp_sl_at hj) d ?_
  exact kk ho H locs ls hP hS hl
theorem tx_getRN (G : tp_OkX X Y N cc nL own ret) {host : String} {t : Nat} {ci j k n Nf index : Nat} {C : String} {T : u_T} {ty : Nat → FieldType} {ks : List Nat} {j2 : Int} (Cx : tp_Cl ci C T Nf ty) (hk : k < N) (hL : L k = (ci + 4, n, ks)) (hj : ks[j]? = some (t + 2)) (hjN : j < Nf) (hj2 : (j : Int) = j2) (hw : Cond.fieldLinkNest own index (T j).1 (T j).2.1 (T j).2.2.1 host ∈ tp_NW) (d : decode cc pc = .ok (.getfield index, 3)) (kk : tp_JX X Y L N nL dep rk o M lv (vR X t :: st) (pc + 3)) : tp_JX X Y L N nL dep rk o M lv (vR X k :: st) (pc) := by
  obtain ⟨p, e, s, m, args, below, meth, c, res⟩ := Y
  obtain ⟨⟨hx, hb, hml, hown, hts, hK, hNW, hE, hst, hr, hlk⟩, htab⟩ := G
  intro ho H locs ls hP hS hl
  subst hj2
  have he := tp_ws_at (L := L) (N := N) (I := X.2.2.1) (b := X.2.2.2.2) (M := M) hk
  rw [hL] at he
  refine va_getN hx hb (ws := tp_ws L N X.2.2.1 X.2.2.2.2 M) hts Cx.2.1 hown hK hP k he Cx.1 j hjN (va_Nw.use rfl (hNW _ hw)) (fun x h => h) (tp_sl_at hj) d ?_
  exact kk ho H locs ls hP hS hl
theorem tx_iald (G : tp_OkX X Y N cc nL own ret) {k n : Nat} {ks : List Nat} {i i2 n2 : Int} (hk : k < N) (hL : L k = (0, n, ks)) (hi : w32 i = i2) (hn : (n : Int) = n2) (d : decode cc pc = .ok (.iaload, 1)) (kk : tp_JX X Y L N nL dep rk o M lv (vI (M k i2) :: st) (pc + 1)) : tp_JX X Y L N nL dep rk (tp_ck i2 n2 o) M lv (vI i :: vR X k :: st) (pc) := by
  obtain ⟨p, e, s, m, args, below, meth, c, res⟩ := Y
  obtain ⟨⟨hx, hb, hml, hown, hts, hK, hNW, hE, hst, hr, hlk⟩, htab⟩ := G
  intro ho H locs ls hP hS hl
  subst hi
  subst hn
  unfold tp_ck at ho
  split at ho
  rotate_left
  · cases ho
  rename_i hin
  have he := tp_ws_at (L := L) (N := N) (I := X.2.2.1) (b := X.2.2.2.2) (M := M) hk
  rw [hL] at he
  refine va_iald hx hb (ws := tp_ws L N X.2.2.1 X.2.2.2.2 M) hK hP k 0 he rfl (wi_in hin) d ?_
  have hc := wi_cl (a := i) hin.1
  rw [hc]
  exact kk ho H locs ls hP hS hl
theorem tx_callVi (G : tp_OkX X Y N cc nL own ret) {y : MethodName} {cw : Cond} {bytes : ByteArray} {maxL n dep2 index : Nat} {rt : Option FieldType} {f : tp_O} {K : Int → tp_M → tp_O} {stk : List Value} (as : List Value) {k ci nn : Nat} {ks : List Nat} {r : vw_C} (Mv : tp_MV y cw bytes maxL rt n) (hk : k < N) (hL : L k = (ci + 4, nn, ks)) (hc : tp_cl[ci]? = some r) (hrc : r.1 = y.cls) (hw : Cond.methodLink own index y ∈ tp_W) (hd : dep2 + 1 ≤ dep) (hn : as.length = n) (hsk : stk = as.reverse ++ vR X k :: st) (hcat : (st.map fun v => v.category).sum ≤ 8) (hf : ∀ res2, f = some res2 → tp_Ret X L N 1 y cw dep2 (vR X k :: as) M res2) (d : decode cc pc = .ok (.invokevirtual index, 3)) (kk : ∀ (r : Int) (M1 : tp_M), tp_JX X Y L N nL dep rk (K r M1) M1 lv (vI r :: st) (pc + 3)) : tp_JX X Y L N nL dep rk (tp_bd f K) M lv (stk) (pc) := by
  obtain ⟨p, e, s, m, args, below, meth, c, res⟩ := Y
  obtain ⟨⟨hx, hb, hml, hown, hts, hK, hNW, hE, hst, hr, hlk⟩, htab⟩ := G
  intro ho H locs ls hP hS hl
  obtain ⟨⟨hcw, hci, hini, hdy, hmx⟩, hin, hse⟩ := Mv
  subst hsk
  cases hfe : f with
  | none => rw [hfe] at ho; cases ho
  | some r2 =>
  rw [hfe] at ho
  have hM := hf r2 hfe
  refine va_calli (va_runV (As := as) (rest := st) ⟨hx, hb, hml, hown, hts⟩ hM (cwV (Ts := tp_W) n hts (tp_Gd (fun w hwm => by
      rcases List.mem_append.mp hwm with q | q
      · simp only [List.mem_cons, List.not_mem_nil, or_false] at q
        rcases q with q | q | q | q
        · rw [q]; exact hw
        · rw [q]; exact hin
        · rw [q]; exact hse
        · rw [q]; exact hini
      · rcases List.mem_cons.mp q with q | q
        · rw [q]; exact hci
        · exact q)) (by rw [hcw]) rfl rfl ⟨rfl, hdy⟩ ⟨hd, by show 8 + (maxL + 11) + 64 * dep2 ≤ 64 * dep; omega⟩) ⟨tp_blind, (by
      have hrv := va_recv hK hP hc (q0 := k) (by rw [tp_ws_at hk, hL]; rfl)
      rw [hrc] at hrv
      exact hrv), fun U hU hW => ⟨rfl, tp_pre hP hS hK hNW hE hst hU hW⟩⟩ rfl hn hl.1 rfl (lv_room hcat) d ⟨Nat.zero_le _, Nat.zero_le _⟩) hS (fun q _ h => h) (fun q h => h) (fun r u t H1 locs1 ht hvm hw2 hB hz1 hk1 hS1 => ?_)
  subst hw2
  have hP1 : tp_P X L N r2.2 H1 := by rw [← ht]; exact hB
  exact kk r2.1 r2.2 ho H1 locs1 ls hP1 hS1 hl
theorem tx_callVl (G : tp_OkX X Y N cc nL own ret) {y : MethodName} {cw : Cond} {bytes : ByteArray} {maxL n dep2 index : Nat} {rt : Option FieldType} {f : tp_O} {K : Int → tp_M → tp_O} {stk : List Value} (as : List Value) {k ci nn : Nat} {ks : List Nat} {r : vw_C} (Mv : tp_MV y cw bytes maxL rt n) (hk : k < N) (hL : L k = (ci + 4, nn, ks)) (hc : tp_cl[ci]? = some r) (hrc : r.1 = y.cls) (hw : Cond.methodLink own index y ∈ tp_W) (hd : dep2 + 1 ≤ dep) (hn : as.length = n) (hsk : stk = as.reverse ++ vR X k :: st) (hcat : (st.map fun v => v.category).sum ≤ 8) (hf : ∀ res2, f = some res2 → tp_Ret X L N 2 y cw dep2 (vR X k :: as) M res2) (d : decode cc pc = .ok (.invokevirtual index, 3)) (kk : ∀ (r : Int) (M1 : tp_M), tp_JX X Y L N nL dep rk (K r M1) M1 lv (vL r :: st) (pc + 3)) : tp_JX X Y L N nL dep rk (tp_bd f K) M lv (stk) (pc) := by
  obtain ⟨p, e, s, m, args, below, meth, c, res⟩ := Y
  obtain ⟨⟨hx, hb, hml, hown, hts, hK, hNW, hE, hst, hr, hlk⟩, htab⟩ := G
  intro ho H locs ls hP hS hl
  obtain ⟨⟨hcw, hci, hini, hdy, hmx⟩, hin, hse⟩ := Mv
  subst hsk
  cases hfe : f with
  | none => rw [hfe] at ho; cases ho
  | some r2 =>
  rw [hfe] at ho
  have hM := hf r2 hfe
  refine va_calll (va_runV (As := as) (rest := st) ⟨hx, hb, hml, hown, hts⟩ hM (cwV (Ts := tp_W) n hts (tp_Gd (fun w hwm => by
      rcases List.mem_append.mp hwm with q | q
      · simp only [List.mem_cons, List.not_mem_nil, or_false] at q
        rcases q with q | q | q | q
        · rw [q]; exact hw
        · rw [q]; exact hin
        · rw [q]; exact hse
        · rw [q]; exact hini
      · rcases List.mem_cons.mp q with q | q
        · rw [q]; exact hci
        · exact q)) (by rw [hcw]) rfl rfl ⟨rfl, hdy⟩ ⟨hd, by show 8 + (maxL + 11) + 64 * dep2 ≤ 64 * dep; omega⟩) ⟨tp_blind, (by
      have hrv := va_recv hK hP hc (q0 := k) (by rw [tp_ws_at hk, hL]; rfl)
      rw [hrc] at hrv
      exact hrv), fun U hU hW => ⟨rfl, tp_pre hP hS hK hNW hE hst hU hW⟩⟩ rfl hn hl.1 rfl (lv_room hcat) d ⟨Nat.zero_le _, Nat.zero_le _⟩) hS (fun q _ h => h) (fun q h => h) (fun r u t H1 locs1 ht hvm hw2 hB hz1 hk1 hS1 => ?_)
  subst hw2
  have hP1 : tp_P X L N r2.2 H1 := by rw [← ht]; exact hB
  exact kk r2.1 r2.2 ho H1 locs1 ls hP1 hS1 hl
theorem tx_icmp_eq (G : tp_OkX X Y N cc nL own ret) {a b a2 b2 : Int} (d : decode cc pc = .ok (.if_icmp .eq off, 3)) (ht : (pc : Int) + off = (tgt : Int)) (ha : w32 a = a2) (hb2 : w32 b = b2) (kt : tp_JX X Y L N nL dep rk A M lv (st) (tgt)) (kf : tp_JX X Y L N nL dep rk B M lv (st) (pc + 3)) : tp_JX X Y L N nL dep rk (if a2 = b2 then A else B) M lv (vI b :: vI a :: st) (pc) := by
  obtain ⟨p, e, s, m, args, below, meth, c, res⟩ := Y
  obtain ⟨⟨hx, hb, hml, hown, hts, hK, hNW, hE, hst, hr, hlk⟩, htab⟩ := G
  intro ho H locs ls hP hS hl
  subst ha; subst hb2
  refine lv_icmp_eq hx hb d ht (fun q => ?_) (fun q => ?_)
  · exact kt (by rw [if_pos ((wi_eq a b).mp q)] at ho; exact ho) H locs ls hP hS hl
  · exact kf (by rw [if_neg (fun z => q ((wi_eq a b).mpr z))] at ho; exact ho) H locs ls hP hS hl
theorem tx_icmp_lt (G : tp_OkX X Y N cc nL own ret) {a b a2 b2 : Int} (d : decode cc pc = .ok (.if_icmp .lt off, 3)) (ht : (pc : Int) + off = (tgt : Int)) (ha : w32 a = a2) (hb2 : w32 b = b2) (kt : tp_JX X Y L N nL dep rk A M lv (st) (tgt)) (kf : tp_JX X Y L N nL dep rk B M lv (st) (pc + 3)) : tp_JX X Y L N nL dep rk (if a2 < b2 then A else B) M lv (vI b :: vI a :: st) (pc) := by
  obtain ⟨p, e, s, m, args, below, meth, c, res⟩ := Y
  obtain ⟨⟨hx, hb, hml, hown, hts, hK, hNW, hE, hst, hr, hlk⟩, htab⟩ := G
  intro ho H locs ls hP hS hl
  subst ha; subst hb2
  refine lv_icmp_lt hx hb d ht (fun q => ?_) (fun q => ?_)
  · exact kt (by rw [if_pos ((wi_lt a b).mp q)] at ho; exact ho) H locs ls hP hS hl
  · exact kf (by rw [if_neg (fun z => q ((wi_lt a b).mpr z))] at ho; exact ho) H locs ls hP hS hl
theorem tx_icmp_le (G : tp_OkX X Y N cc nL own ret) {a b a2 b2 : Int} (d : decode cc pc = .ok (.if_icmp .le off, 3)) (ht : (pc : Int) + off = (tgt : Int)) (ha : w32 a = a2) (hb2 : w32 b = b2) (kt : tp_JX X Y L N nL dep rk A M lv (st) (tgt)) (kf : tp_JX X Y L N nL dep rk B M lv (st) (pc + 3)) : tp_JX X Y L N nL dep rk (if a2 ≤ b2 then A else B) M lv (vI b :: vI a :: st) (pc) := by
  obtain ⟨p, e, s, m, args, below, meth, c, res⟩ := Y
  obtain ⟨⟨hx, hb, hml, hown, hts, hK, hNW, hE, hst, hr, hlk⟩, htab⟩ := G
  intro ho H locs ls hP hS hl
  subst ha; subst hb2
  refine lv_icmp_le hx hb d ht (fun q => ?_) (fun q => ?_)
  · exact kt (by rw [if_pos ((wi_le a b).mp q)] at ho; exact ho) H locs ls hP hS hl
  · exact kf (by rw [if_neg (fun z => q ((wi_le a b).mpr z))] at ho; exact ho) H locs ls hP hS hl
theorem tx_icmp_ne (G : tp_OkX X Y N cc nL own ret) {a b a2 b2 : Int} (d : decode cc pc = .ok (.if_icmp .ne off, 3)) (ht : (pc : Int) + off = (tgt : Int)) (ha : w32 a = a2) (hb2 : w32 b = b2) (kt : tp_JX X Y L N nL dep rk A M lv (st) (tgt)) (kf : tp_JX X Y L N nL dep rk B M lv (st) (pc + 3)) : tp_JX X Y L N nL dep rk (if a2 = b2 then B else A) M lv (vI b :: vI a :: st) (pc) := by
  obtain ⟨p, e, s, m, args, below, meth, c, res⟩ := Y
  obtain ⟨⟨hx, hb, hml, hown, hts, hK, hNW, hE, hst, hr, hlk⟩, htab⟩ := G
  intro ho H locs ls hP hS hl
  subst ha; subst hb2
  refine lv_icmp_ne hx hb d ht (fun q => ?_) (fun q => ?_)
  · refine kt ?_ H locs ls hP hS hl
    rw [if_neg ?_] at ho
    · exact ho
    · exact fun z => q ((wi_eq a b).mpr z)
  · refine kf ?_ H locs ls hP hS hl
    rw [if_pos ?_] at ho
    · exact ho
    · exact (wi_eq a b).mp (by first | exact q | exact Classical.not_not.mp q)
theorem tx_icmp_ge (G : tp_OkX X Y N cc nL own ret) {a b a2 b2 : Int} (d : decode cc pc = .ok (.if_icmp .ge off, 3)) (ht : (pc : Int) + off = (tgt : Int)) (ha : w32 a = a2) (hb2 : w32 b = b2) (kt : tp_JX X Y L N nL dep rk A M lv (st) (tgt)) (kf : tp_JX X Y L N nL dep rk B M lv (st) (pc + 3)) : tp_JX X Y L N nL dep rk (if a2 < b2 then B else A) M lv (vI b :: vI a :: st) (pc) := by
  obtain ⟨p, e, s, m, args, below, meth, c, res⟩ := Y
  obtain ⟨⟨hx, hb, hml, hown, hts, hK, hNW, hE, hst, hr, hlk⟩, htab⟩ := G
  intro ho H locs ls hP hS hl
  subst ha; subst hb2
  refine lv_icmp_ge hx hb d ht (fun q => ?_) (fun q => ?_)
  · refine kt ?_ H locs ls hP hS hl
    rw [if_neg ?_] at ho
    · exact ho
    · (first | rw [ge_iff_le, wi_le] at q | rw [wi_le] at q | rw [wi_lt] at q); omega
  · refine kf ?_ H locs ls hP hS hl
    rw [if_pos ?_] at ho
    · exact ho
    · (first | rw [ge_iff_le, wi_le] at q | rw [wi_le] at q | rw [wi_lt] at q); omega
theorem tx_icmp_gt (G : tp_OkX X Y N cc nL own ret) {a b a2 b2 : Int} (d : decode cc pc = .ok (.if_icmp .gt off, 3)) (ht : (pc : Int) + off = (tgt : Int)) (ha : w32 a = a2) (hb2 : w32 b = b2) (kt : tp_JX X Y L N nL dep rk A M lv (st) (tgt)) (kf : tp_JX X Y L N nL dep rk B M lv (st) (pc + 3)) : tp_JX X Y L N nL dep rk (if a2 ≤ b2 then B else A) M lv (vI b :: vI a :: st) (pc) := by
  obtain ⟨p, e, s, m, args, below, meth, c, res⟩ := Y
  obtain ⟨⟨hx, hb, hml, hown, hts, hK, hNW, hE, hst, hr, hlk⟩, htab⟩ := G
  intro ho H locs ls hP hS hl
  subst ha; subst hb2
  refine lv_icmp_gt hx hb d ht (fun q => ?_) (fun q => ?_)
  · refine kt ?_ H locs ls hP hS hl
    rw [if_neg ?_] at ho
    · exact ho
    · (first | rw [gt_iff_lt, wi_lt] at q | rw [wi_lt] at q | rw [wi_le] at q); omega
  · refine kf ?_ H locs ls hP hS hl
    rw [if_pos ?_] at ho
    · exact ho
    · (first | rw [gt_iff_lt, wi_lt] at q | rw [wi_lt] at q | rw [wi_le] at q); omega
theorem tx_if_eq (G : tp_OkX X Y N cc nL own ret) {a a2 : Int} (d : decode cc pc = .ok (.ifCond .eq off, 3)) (ht : (pc : Int) + off = (tgt : Int)) (ha : w32 a = a2) (kt : tp_JX X Y L N nL dep rk A M lv (st) (tgt)) (kf : tp_JX X Y L N nL dep rk B M lv (st) (pc + 3)) : tp_JX X Y L N nL dep rk (if a2 = 0 then A else B) M lv (vI a :: st) (pc) := by
  obtain ⟨p, e, s, m, args, below, meth, c, res⟩ := Y
  obtain ⟨⟨hx, hb, hml, hown, hts, hK, hNW, hE, hst, hr, hlk⟩, htab⟩ := G
  intro ho H locs ls hP hS hl
  subst ha
  refine lv_if_eq hx hb d ht (fun q => ?_) (fun q => ?_)
  · exact kt (by rw [if_pos ((wi_eq0 a).mp q)] at ho; exact ho) H locs ls hP hS hl
  · exact kf (by rw [if_neg (fun z => q ((wi_eq0 a).mpr z))] at ho; exact ho) H locs ls hP hS hl
theorem tx_if_ne (G : tp_OkX X Y N cc nL own ret) {a a2 : Int} (d : decode cc pc = .ok (.ifCond .ne off, 3)) (ht : (pc : Int) + off = (tgt : Int)) (ha : w32 a = a2) (kt : tp_JX X Y L N nL dep rk A M lv (st) (tgt)) (kf : tp_JX X Y L N nL dep rk B M lv (st) (pc + 3)) : tp_JX X Y L N nL dep rk (if a2 = 0 then B else A) M lv (vI a :: st) (pc) := by
  obtain ⟨p, e, s, m, args, below, meth, c, res⟩ := Y
  obtain ⟨⟨hx, hb, hml, hown, hts, hK, hNW, hE, hst, hr, hlk⟩, htab⟩ := G
  intro ho H locs ls hP hS hl
  subst ha
  refine lv_if_ne hx hb d ht (fun q => ?_) (fun q => ?_)
  · refine kt ?_ H locs ls hP hS hl
    rw [if_neg ?_] at ho
    · exact ho
    · exact fun z => q ((wi_eq0 a).mpr z)
  · refine kf ?_ H locs ls hP hS hl
    rw [if_pos ?_] at ho
    · exact ho
    · exact (wi_eq0 a).mp (by first | exact q | exact Classical.not_not.mp q)
theorem tx_if_lt (G : tp_OkX X Y N cc nL own ret) {a a2 : Int} (d : decode cc pc = .ok (.ifCond .lt off, 3)) (ht : (pc : Int) + off = (tgt : Int)) (ha : w32 a = a2) (kt : tp_JX X Y L N nL dep rk A M lv (st) (tgt)) (kf : tp_JX X Y L N nL dep rk B M lv (st) (pc + 3)) : tp_JX X Y L N nL dep rk (if a2 < 0 then A else B) M lv (vI a :: st) (pc) := by
  obtain ⟨p, e, s, m, args, below, meth, c, res⟩ := Y
  obtain ⟨⟨hx, hb, hml, hown, hts, hK, hNW, hE, hst, hr, hlk⟩, htab⟩ := G
  intro ho H locs ls hP hS hl
  subst ha
  refine lv_if_lt hx hb d ht (fun q => ?_) (fun q => ?_)
  · exact kt (by rw [if_pos ((wi_lt0 a).mp q)] at ho; exact ho) H locs ls hP hS hl
  · exact kf (by rw [if_neg (fun z => q ((wi_lt0 a).mpr z))] at ho; exact ho) H locs ls hP hS hl
theorem tx_if_ge (G : tp_OkX X Y N cc nL own ret) {a a2 : Int} (d : decode cc pc = .ok (.ifCond .ge off, 3)) (ht : (pc : Int) + off = (tgt : Int)) (ha : w32 a = a2) (kt : tp_JX X Y L N nL dep rk A M lv (st) (tgt)) (kf : tp_JX X Y L N nL dep rk B M lv (st) (pc + 3)) : tp_JX X Y L N nL dep rk (if a2 < 0 then B else A) M lv (vI a :: st) (pc) := by
  obtain ⟨p, e, s, m, args, below, meth, c, res⟩ := Y
  obtain ⟨⟨hx, hb, hml, hown, hts, hK, hNW, hE, hst, hr, hlk⟩, htab⟩ := G
  intro ho H locs ls hP hS hl
  subst ha
  refine lv_if_ge hx hb d ht (fun q => ?_) (fun q => ?_)
  · refine kt ?_ H locs ls hP hS hl
    rw [if_neg ?_] at ho
    · exact ho
    · (first | rw [ge_iff_le, wi_0le] at q | rw [wi_0le] at q | rw [wi_lt0] at q); omega
  · refine kf ?_ H locs ls hP hS hl
    rw [if_pos ?_] at ho
    · exact ho
    · (first | rw [ge_iff_le, wi_0le] at q | rw [wi_0le] at q | rw [wi_lt0] at q); omega
theorem tx_if_le (G : tp_OkX X Y N cc nL own ret) {a a2 : Int} (d : decode cc pc = .ok (.ifCond .le off, 3)) (ht : (pc : Int) + off = (tgt : Int)) (ha : w32 a = a2) (kt : tp_JX X Y L N nL dep rk A M lv (st) (tgt)) (kf : tp_JX X Y L N nL dep rk B M lv (st) (pc + 3)) : tp_JX X Y L N nL dep rk (if a2 ≤ 0 then A else B) M lv (vI a :: st) (pc) := by
  obtain ⟨p, e, s, m, args, below, meth, c, res⟩ := Y
  obtain ⟨⟨hx, hb, hml, hown, hts, hK, hNW, hE, hst, hr, hlk⟩, htab⟩ := G
  intro ho H locs ls hP hS hl
  subst ha
  refine lv_if_le hx hb d ht (fun q => ?_) (fun q => ?_)
  · exact kt (by rw [if_pos ((wi_le0 a).mp q)] at ho; exact ho) H locs ls hP hS hl
  · exact kf (by rw [if_neg (fun z => q ((wi_le0 a).mpr z))] at ho; exact ho) H locs ls hP hS hl
theorem tx_if_gt (G : tp_OkX X Y N cc nL own ret) {a a2 : Int} (d : decode cc pc = .ok (.ifCond .gt off, 3)) (ht : (pc : Int) + off = (tgt : Int)) (ha : w32 a = a2) (kt : tp_JX X Y L N nL dep rk A M lv (st) (tgt)) (kf : tp_JX X Y L N nL dep rk B M lv (st) (pc + 3)) : tp_JX X Y L N nL dep rk (if a2 ≤ 0 then B else A) M lv (vI a :: st) (pc) := by
  obtain ⟨p, e, s, m, args, below, meth, c, res⟩ := Y
  obtain ⟨⟨hx, hb, hml, hown, hts, hK, hNW, hE, hst, hr, hlk⟩, htab⟩ := G
  intro ho H locs ls hP hS hl
  subst ha
  refine lv_if_gt hx hb d ht (fun q => ?_) (fun q => ?_)
  · refine kt ?_ H locs ls hP hS hl
    rw [if_neg ?_] at ho
    · exact ho
    · (first | rw [gt_iff_lt, wi_0lt] at q | rw [wi_0lt] at q | rw [wi_le0] at q); omega
  · refine kf ?_ H locs ls hP hS hl
    rw [if_pos ?_] at ho
    · exact ho
    · (first | rw [gt_iff_lt, wi_0lt] at q | rw [wi_0lt] at q | rw [wi_le0] at q); omega
theorem tx_goto (G : tp_OkX X Y N cc nL own ret) (d : decode cc pc = .ok (.goto off, 3)) (ht : (pc : Int) + off = (tgt : Int)) (kk : tp_JX X Y L N nL dep rk o M lv (st) (tgt)) : tp_JX X Y L N nL dep rk o M lv (st) (pc) := by
  obtain ⟨p, e, s, m, args, below, meth, c, res⟩ := Y
  obtain ⟨⟨hx, hb, hml, hown, hts, hK, hNW, hE, hst, hr, hlk⟩, htab⟩ := G
  intro ho H locs ls hP hS hl
  refine lv_goto hx hb d ht ?_
  exact kk ho H locs ls hP hS hl
theorem tx_sub (ks : List Nat) {lv2 : tp_V} (h : lv_pick lv ks = lv2) (kk : tp_JX X Y L N nL dep rk o M lv2 (st) (pc)) : tp_JX X Y L N nL dep rk o M lv (st) (pc) := by
  obtain ⟨p, e, s, m, args, below, meth, c, res⟩ := Y
  intro ho H locs ls hP hS hl
  exact kk ho H locs ls hP hS (lv_sub hl ks h)
theorem tx_none : tp_JX X Y L N nL dep rk none M lv (st) (pc) := by
  obtain ⟨p, e, s, m, args, below, meth, c, res⟩ := Y
  intro ho
  cases ho
theorem tx_case {Cd : Prop} {hC : Decidable Cd} (h1 : Cd → tp_JX X Y L N nL dep rk A M lv (st) (pc)) (h2 : ¬ Cd → tp_JX X Y L N nL dep rk B M lv (st) (pc)) : tp_JX X Y L N nL dep rk (@ite _ Cd hC A B) M lv (st) (pc) := by
  by_cases h : Cd
  · rw [if_pos h]; exact h1 h
  · rw [if_neg h]; exact h2 h
theorem tx_tabIn (G : tp_OkX X Y N cc nL own ret) {dflt lo hi : Int} {offs : Array Int} {len : Nat} {a v : Int} (d : decode cc pc = .ok (.tableswitch dflt lo hi offs, len)) (hv : w32 a = v) (h1 : ¬ v < lo ∧ ¬ hi < v) (h3 : offs[(v - lo).toNat]? = some off) (ht : (pc : Int) + off = (tgt : Int)) (kk : tp_JX X Y L N nL dep rk o M lv (st) (tgt)) : tp_JX X Y L N nL dep rk o M lv (vI a :: st) (pc) := by
  obtain ⟨p, e, s, m, args, below, meth, c, res⟩ := Y
  obtain ⟨⟨hx, hb, hml, hown, hts, hK, hNW, hE, hst, hr, hlk⟩, htab⟩ := G
  intro ho H locs ls hP hS hl
  subst hv
  rw [← w32_eq] at h1 h3
  refine lv_tableIn hx hb d h1.1 h1.2 h3 ht ?_
  exact kk ho H locs ls hP hS hl
theorem tx_tabOut (G : tp_OkX X Y N cc nL own ret) {dflt lo hi : Int} {offs : Array Int} {len : Nat} {a : Int} (d : decode cc pc = .ok (.tableswitch dflt lo hi offs, len)) (h1 : w32 a < lo ∨ hi < w32 a) (ht : (pc : Int) + dflt = (tgt : Int)) (kk : tp_JX X Y L N nL dep rk o M lv (st) (tgt)) : tp_JX X Y L N nL dep rk o M lv (vI a :: st) (pc) := by
  obtain ⟨p, e, s, m, args, below, meth, c, res⟩ := Y
  obtain ⟨⟨hx, hb, hml, hown, hts, hK, hNW, hE, hst, hr, hlk⟩, htab⟩ := G
  intro ho H locs ls hP hS hl
  rw [← w32_eq] at h1
  refine lv_tableOut hx hb d h1 ht ?_
  exact kk ho H locs ls hP hS hl
theorem tx_iret (G : tp_OkX X Y N cc nL own (some .int)) {a : Int} (d : decode cc pc = .ok (.ireturn, 1)) : tp_JX X Y L N nL dep 1 (some (w32 a, M)) M lv [vI a] pc := by
  obtain ⟨p, e, s, m, args, below, meth, c, res⟩ := Y
  obtain ⟨⟨hx, hb, hml, hown, hts, hK, hNW, hE, hst, hr, hlk⟩, htab⟩ := G
  intro ho H locs ls hP hS hl
  cases ho
  refine vx_ret (W.widen (k := 1) (n := 6) (by decide) (by decide) ?_)
  exact W.iret hx hb hr (fun t ht _ => ⟨⟨_, (), rfl, ⟨(w32_w a).symm, by have := w32_in a; unfold tp_TH; omega⟩, by show tp_P X L N M t.heap; rw [ht]; exact hP⟩, by rw [va_F]; exact ⟨by rw [ht]; exact hS.1, fun q h1 h2 => by rw [ht]; exact hS.2.1 q h1 h2⟩⟩) (fun q hq => hS.2.2 q hq) d hlk
theorem tx_lret (G : tp_OkX X Y N cc nL own (some .long)) {a : Int} (d : decode cc pc = .ok (.lreturn, 1)) : tp_JX X Y L N nL dep 2 (some (w64 a, M)) M lv [vL a] pc := by
  obtain ⟨p, e, s, m, args, below, meth, c, res⟩ := Y
  obtain ⟨⟨hx, hb, hml, hown, hts, hK, hNW, hE, hst, hr, hlk⟩, htab⟩ := G
  intro ho H locs ls hP hS hl
  cases ho
  refine vx_ret (W.widen (k := 1) (n := 6) (by decide) (by decide) ?_)
  exact W.lret hx hb hr (fun t ht _ => ⟨⟨_, (), rfl, ⟨(w64_w a).symm, by have := w64_in a; unfold tp_TH; omega⟩, by show tp_P X L N M t.heap; rw [ht]; exact hP⟩, by rw [va_F]; exact ⟨by rw [ht]; exact hS.1, fun q h1 h2 => by rw [ht]; exact hS.2.1 q h1 h2⟩⟩) (fun q hq => hS.2.2 q hq) d hlk
theorem tx_throw (G : tp_OkX X Y N cc nL RX10 ret) (hTX : tp_TX X N) (hr6 : 6 ≤ dep) (hcat : (st.map fun v => v.category).sum ≤ 8) (d0 : decode cc pc = .ok (.new 149, 3)) (d3 : decode cc (pc + 3) = .ok (.dup, 1)) (d4 : decode cc (pc + 4) = .ok (.invokespecial 151, 3)) (d7 : decode cc (pc + 7) = .ok (.athrow, 1)) : tp_JX X Y L N nL dep rk (some (tp_TH, M)) M lv st pc := by
  obtain ⟨p, e, s, m, args, below, meth, c, res⟩ := Y
  obtain ⟨⟨hx, hb, hml, hown, hts, hK, hNW, hE, hst, hr, hlk⟩, htab⟩ := G
  intro ho H locs ls hP hS hl
  cases ho
  obtain ⟨hsx, hTU⟩ := hTX
  obtain ⟨t1, t2, t3⟩ := hTU s hE
  refine vx_throw0 (names := ["java/lang/RuntimeException", "java/lang/Exception"]) (A := tp_A X.2.2.2.2 N) hx hb hsx hown (by decide +kernel) (by decide +kernel) (hts _ cl_X10_149) (hts _ mi_nse) ?_ tp_tho t2 t3 hS (hl.1.trans hml.symm) d0 d3 d4 d7 (fun x hx2 => (htab x hx2).elim) (by show 2 + 3 < dep; omega) (by show _ + (13 * 3 + 42) ≤ 64 * dep; omega) (Nat.le_refl _) (Nat.le_refl _) hlk ?_ (fun q hq => hS.2.2 q hq) (Nat.le_refl _) (Nat.le_refl _)
  · refine vx_hat (B := tp_thw) (fun w hw => hts w (tp_thg w hw)) tp_thn (fun w hw => ?_)
    have h9 := t1 w hw
    simp only [tp_thw, List.mem_cons, List.not_mem_nil, or_false] at hw
    rcases hw with rfl | rfl | rfl | rfl <;> exact va_Nw.use rfl h9
  · intro t hvm hz hq
    refine ⟨(), rfl, ⟨rfl, fun k q hk => ?_⟩, ?_⟩
    · have h8 := hP k q hk
      exact h8.kept (hq q.1 h8.lt)
    · rw [va_F]
      exact ⟨Nat.le_trans hS.1 hz, fun q h1 h2 => (hq q (Nat.lt_of_lt_of_le h1 hS.1)).trans (hS.2.1 q h1 h2)⟩
end TX
def fx_X10_post  (a1 : Int) (a2 : Int) (M : tp_M) : tp_O :=
(tp_bd (fx_X4_has 5 a1 M) (fun r1 M2 =>
(if w32 r1 = 0 then
(some (tp_TH, M2))
else
(if w32 a2 < 0 then
(some (tp_TH, M2))
else
(if w32 a2 ≤ 5 then
(if w32 a1 = 0 then
(if w32 a2 = 3 then
(some (w32 (M2 25 2), M2))
else
(some (w32 (0), M2)))
else
(if w32 a2 = 0 then
(tp_bd (fx_X4_degree 5 a1 M2) (fun r5 M6 =>
(some (w32 (r5), M6))))
else
(if w32 a2 = 1 then
(tp_ck (w32 a1) 8 (some (w32 (M2 26 (w32 a1)), M2)))
else
(if w32 a2 = 2 then
(tp_ck (w32 a1) 8 (tp_bd (fx_X4_goal 5 a1 (M2 26 (w32 a1)) M2) (fun r11 M12 =>
(some (w32 (r11), M12)))))
else
(if w32 a2 = 3 then
(tp_ck (w32 a1) 8 (some (w32 (M2 27 (w32 a1)), M2)))
else
(if w32 a2 = 4 then
(tp_bd (fx_X10_turnNow a1 M2) (fun r17 M18 =>
(some (w32 (r17), M18))))
else
(tp_bd (fx_X4_far 5 a1 M2) (fun r19 M20 =>
(some (w32 (r19), M20))))))))))
else
(some (tp_TH, M2)))))))
set_option maxRecDepth 100000 in
set_option maxHeartbeats 4000000 in
theorem ok_X10_post (X : tp_X) (hTX : tp_TX X 64)  {a1 : Int} {a2 : Int}  {M : tp_M} {res : Int × tp_M} (h : fx_X10_post  a1 a2 M = some res) : tp_RetX X LC 64 1 yX10_post (Cond.code yX10_post cX10_post 3 (some .int)) 12 [vR X 0, vI a1, vI a2] M res := by
  refine tp_ofWX (by decide +kernel) rfl rfl (by show _ ≤ 3; exact Nat.le_of_ble_eq_true rfl) h (fun Y G => ?_)
  show tp_JX X Y LC 64 3 12 1 (fx_X10_post  a1 a2 M) M [(0, vR X 0), (1, vI a1), (2, vI a2)] [] 0
  unfold fx_X10_post
  refine tx_aload_n (pc := 0) G 0 dX10_post_0 rfl rfl ?_
  refine tx_getR (pc := 1) G (k := 0) (j := 2) (j2 := 2) tk_X10 (by decide) lc_0 rfl (by decide) rfl fl_X10_26 dX10_post_1 ?_
  refine tx_iload_n (pc := 4) G 1 dX10_post_4 rfl rfl ?_
  refine tx_callVi (pc := 5) G [vI a1] mf_X4_has (k := 5) (by decide) lc_5 rfl rfl ml_X10_145 (by decide) rfl rfl (Nat.le_of_ble_eq_true rfl) (fun _ h9 => ok_X4_has X gg_Paths_5 h9) dX10_post_5 (fun r1 M2 => ?_)
  refine tx_if_eq (pc := 8) G (tgt := 20) (a2 := w32 r1) dX10_post_8 (by decide) rfl ?_ ?_
  · exact tx_throw (pc := 20) G hTX (by decide) (Nat.le_of_ble_eq_true rfl) dX10_post_20 dX10_post_23 dX10_post_24 dX10_post_27
  refine tx_iload_n (pc := 11) G 2 dX10_post_11 rfl rfl ?_
  refine tx_if_lt (pc := 12) G (tgt := 20) (a2 := w32 a2) dX10_post_12 (by decide) rfl ?_ ?_
  · exact tx_throw (pc := 20) G hTX (by decide) (Nat.le_of_ble_eq_true rfl) dX10_post_20 dX10_post_23 dX10_post_24 dX10_post_27
  refine tx_iload_n (pc := 15) G 2 dX10_post_15 rfl rfl ?_
  refine tx_iconst (pc := 16) G dX10_post_16 ?_
  refine tx_icmp_le (pc := 17) G (tgt := 28) (a2 := w32 a2) (b2 := 5) dX10_post_17 (by decide) rfl rfl ?_ ?_
  · refine tx_iload_n (pc := 28) G 1 dX10_post_28 rfl rfl ?_
    refine tx_if_ne (pc := 29) G (tgt := 49) (a2 := w32 a1) dX10_post_29 (by decide) rfl ?_ ?_
    · refine tx_iload_n (pc := 49) G 2 dX10_post_49 rfl rfl ?_
      refine tx_case (fun hq3 => ?_) (fun hq4 => ?_)
      · refine tx_tabIn (pc := 50) G (v := 0) (tgt := 84) dX10_post_50 hq3 (by decide) rfl (by decide) ?_
        refine tx_aload_n (pc := 84) G 0 dX10_post_84 rfl rfl ?_
        refine tx_getR (pc := 85) G (k := 0) (j := 2) (j2 := 2) tk_X10 (by decide) lc_0 rfl (by decide) rfl fl_X10_26 dX10_post_85 ?_
        refine tx_iload_n (pc := 88) G 1 dX10_post_88 rfl rfl ?_
        refine tx_callVi (pc := 89) G [vI a1] mf_X4_degree (k := 5) (by decide) lc_5 rfl rfl ml_X10_156 (by decide) rfl rfl (Nat.le_of_ble_eq_true rfl) (fun _ h9 => ok_X4_degree X gg_Paths_5 h9) dX10_post_89 (fun r5 M6 => ?_)
        exact tx_iret (pc := 92) G dX10_post_92
      refine tx_case (fun hq7 => ?_) (fun hq8 => ?_)
      · refine tx_tabIn (pc := 50) G (v := 1) (tgt := 93) dX10_post_50 hq7 (by decide) rfl (by decide) ?_
        refine tx_aload_n (pc := 93) G 0 dX10_post_93 rfl rfl ?_
        refine tx_getR (pc := 94) G (k := 0) (j := 6) (j2 := 6) tk_X10 (by decide) lc_0 rfl (by decide) rfl fl_X10_46 dX10_post_94 ?_
        refine tx_getRN (pc := 97) G (k := 25) (j := 0) (j2 := 0) tk_X2 (by decide) lc_25 rfl (by decide) rfl fn_X10_160 dX10_post_97 ?_
        refine tx_iload_n (pc := 100) G 1 dX10_post_100 rfl rfl ?_
        refine tx_iald (pc := 101) G (k := 26) (i2 := w32 a1) (n2 := 8) (by decide) lc_26 rfl rfl dX10_post_101 ?_
        exact tx_iret (pc := 102) G dX10_post_102
      refine tx_case (fun hq9 => ?_) (fun hq10 => ?_)
      · refine tx_tabIn (pc := 50) G (v := 2) (tgt := 103) dX10_post_50 hq9 (by decide) rfl (by decide) ?_
        refine tx_aload_n (pc := 103) G 0 dX10_post_103 rfl rfl ?_
        refine tx_getR (pc := 104) G (k := 0) (j := 2) (j2 := 2) tk_X10 (by decide) lc_0 rfl (by decide) rfl fl_X10_26 dX10_post_104 ?_
        refine tx_iload_n (pc := 107) G 1 dX10_post_107 rfl rfl ?_
        refine tx_aload_n (pc := 108) G 0 dX10_post_108 rfl rfl ?_
        refine tx_getR (pc := 109) G (k := 0) (j := 6) (j2 := 6) tk_X10 (by decide) lc_0 rfl (by decide) rfl fl_X10_46 dX10_post_109 ?_
        refine tx_getRN (pc := 112) G (k := 25) (j := 0) (j2 := 0) tk_X2 (by decide) lc_25 rfl (by decide) rfl fn_X10_160 dX10_post_112 ?_
        refine tx_iload_n (pc := 115) G 1 dX10_post_115 rfl rfl ?_
        refine tx_iald (pc := 116) G (k := 26) (i2 := w32 a1) (n2 := 8) (by decide) lc_26 rfl rfl dX10_post_116 ?_
        refine tx_callVi (pc := 117) G [vI a1, vI (M2 26 (w32 a1))] mf_X4_goal (k := 5) (by decide) lc_5 rfl rfl ml_X10_163 (by decide) rfl rfl (Nat.le_of_ble_eq_true rfl) (fun _ h9 => ok_X4_goal X gg_Paths_5 h9) dX10_post_117 (fun r11 M12 => ?_)
        exact tx_iret (pc := 120) G dX10_post_120
      refine tx_case (fun hq13 => ?_) (fun hq14 => ?_)
      · refine tx_tabIn (pc := 50) G (v := 3) (tgt := 121) dX10_post_50 hq13 (by decide) rfl (by decide) ?_
        refine tx_aload_n (pc := 121) G 0 dX10_post_121 rfl rfl ?_
        refine tx_getR (pc := 122) G (k := 0) (j := 6) (j2 := 6) tk_X10 (by decide) lc_0 rfl (by decide) rfl fl_X10_46 dX10_post_122 ?_
        refine tx_getRN (pc := 125) G (k := 25) (j := 1) (j2 := 1) tk_X2 (by decide) lc_25 rfl (by decide) rfl fn_X10_167 dX10_post_125 ?_
        refine tx_iload_n (pc := 128) G 1 dX10_post_128 rfl rfl ?_
        refine tx_iald (pc := 129) G (k := 27) (i2 := w32 a1) (n2 := 8) (by decide) lc_27 rfl rfl dX10_post_129 ?_
        exact tx_iret (pc := 130) G dX10_post_130
      refine tx_case (fun hq15 => ?_) (fun hq16 => ?_)
      · refine tx_tabIn (pc := 50) G (v := 4) (tgt := 131) dX10_post_50 hq15 (by decide) rfl (by decide) ?_
        refine tx_aload_n (pc := 131) G 0 dX10_post_131 rfl rfl ?_
        refine tx_iload_n (pc := 132) G 1 dX10_post_132 rfl rfl ?_
        refine tx_callVi (pc := 133) G [vI a1] mf_X10_turnNow (k := 0) (by decide) lc_0 rfl rfl ml_X10_170 (by decide) rfl rfl (Nat.le_of_ble_eq_true rfl) (fun _ h9 => ok_X10_turnNow X  h9) dX10_post_133 (fun r17 M18 => ?_)
        exact tx_iret (pc := 136) G dX10_post_136
      refine tx_tabOut (pc := 50) G (tgt := 137) dX10_post_50 (by omega) (by decide) ?_
      refine tx_aload_n (pc := 137) G 0 dX10_post_137 rfl rfl ?_
      refine tx_getR (pc := 138) G (k := 0) (j := 2) (j2 := 2) tk_X10 (by decide) lc_0 rfl (by decide) rfl fl_X10_26 dX10_post_138 ?_
      refine tx_iload_n (pc := 141) G 1 dX10_post_141 rfl rfl ?_
      refine tx_callVi (pc := 142) G [vI a1] mf_X4_far (k := 5) (by decide) lc_5 rfl rfl ml_X10_173 (by decide) rfl rfl (Nat.le_of_ble_eq_true rfl) (fun _ h9 => ok_X4_far X gg_Paths_5 h9) dX10_post_142 (fun r19 M20 => ?_)
      exact tx_iret (pc := 145) G dX10_post_145
    refine tx_iload_n (pc := 32) G 2 dX10_post_32 rfl rfl ?_
    refine tx_iconst (pc := 33) G dX10_post_33 ?_
    refine tx_icmp_ne (pc := 34) G (tgt := 47) (a2 := w32 a2) (b2 := 3) dX10_post_34 (by decide) rfl rfl ?_ ?_
    · refine tx_iconst (pc := 47) G dX10_post_47 ?_
      exact tx_iret (pc := 48) G dX10_post_48
    refine tx_aload_n (pc := 37) G 0 dX10_post_37 rfl rfl ?_
    refine tx_getR (pc := 38) G (k := 0) (j := 6) (j2 := 6) tk_X10 (by decide) lc_0 rfl (by decide) rfl fl_X10_46 dX10_post_38 ?_
    refine tx_getIN (pc := 41) G (k := 25) (j := 2) (j2 := 2) tk_X2 (by decide) lc_25 rfl (by decide) rfl fn_X10_152 dX10_post_41 ?_
    refine tx_goto (pc := 44) G (tgt := 48) dX10_post_44 (by decide) ?_
    exact tx_iret (pc := 48) G dX10_post_48
  exact tx_throw (pc := 20) G hTX (by decide) (Nat.le_of_ble_eq_true rfl) dX10_post_20 dX10_post_23 dX10_post_24 dX10_post_27
def fx_X10_way  (a1 : Int) (a2 : Int) (M : tp_M) : tp_O :=
(tp_bd (fx_X4_hasWay 5 a1 a2 M) (fun r1 M2 =>
(if w32 r1 = 0 then
(some (tp_TH, M2))
else
(tp_bd (fx_X4_goal 5 a1 a2 M2) (fun r3 M4 =>
(some (w32 (r3), M4)))))))
set_option maxRecDepth 100000 in
set_option maxHeartbeats 4000000 in
theorem ok_X10_way (X : tp_X) (hTX : tp_TX X 64)  {a1 : Int} {a2 : Int}  {M : tp_M} {res : Int × tp_M} (h : fx_X10_way  a1 a2 M = some res) : tp_RetX X LC 64 1 yX10_way (Cond.code yX10_way cX10_way 3 (some .int)) 11 [vR X 0, vI a1, vI a2] M res := by
  refine tp_ofWX (by decide +kernel) rfl rfl (by show _ ≤ 3; exact Nat.le_of_ble_eq_true rfl) h (fun Y G => ?_)
  show tp_JX X Y LC 64 3 11 1 (fx_X10_way  a1 a2 M) M [(0, vR X 0), (1, vI a1), (2, vI a2)] [] 0
  unfold fx_X10_way
  refine tx_aload_n (pc := 0) G 0 dX10_way_0 rfl rfl ?_
  refine tx_getR (pc := 1) G (k := 0) (j := 2) (j2 := 2) tk_X10 (by decide) lc_0 rfl (by decide) rfl fl_X10_26 dX10_way_1 ?_
  refine tx_iload_n (pc := 4) G 1 dX10_way_4 rfl rfl ?_
  refine tx_iload_n (pc := 5) G 2 dX10_way_5 rfl rfl ?_
  refine tx_callVi (pc := 6) G [vI a1, vI a2] mf_X4_hasWay (k := 5) (by decide) lc_5 rfl rfl ml_X10_183 (by decide) rfl rfl (Nat.le_of_ble_eq_true rfl) (fun _ h9 => ok_X4_hasWay X gg_Paths_5 h9) dX10_way_6 (fun r1 M2 => ?_)
  refine tx_if_ne (pc := 9) G (tgt := 20) (a2 := w32 r1) dX10_way_9 (by decide) rfl ?_ ?_
  · refine tx_aload_n (pc := 20) G 0 dX10_way_20 rfl rfl ?_
    refine tx_getR (pc := 21) G (k := 0) (j := 2) (j2 := 2) tk_X10 (by decide) lc_0 rfl (by decide) rfl fl_X10_26 dX10_way_21 ?_
    refine tx_iload_n (pc := 24) G 1 dX10_way_24 rfl rfl ?_
    refine tx_iload_n (pc := 25) G 2 dX10_way_25 rfl rfl ?_
    refine tx_callVi (pc := 26) G [vI a1, vI a2] mf_X4_goal (k := 5) (by decide) lc_5 rfl rfl ml_X10_163 (by decide) rfl rfl (Nat.le_of_ble_eq_true rfl) (fun _ h9 => ok_X4_goal X gg_Paths_5 h9) dX10_way_26 (fun r3 M4 => ?_)
    exact tx_iret (pc := 29) G dX10_way_29
  exact tx_throw (pc := 12) G hTX (by decide) (Nat.le_of_ble_eq_true rfl) dX10_way_12 dX10_way_15 dX10_way_16 dX10_way_19
def fx_X10_row  (a1 : Int) (M : tp_M) : tp_O :=
(if w32 a1 < 0 then
(some (tp_TH, M))
else
(tp_bd (fx_X8_size  M) (fun r1 M2 =>
(if w32 a1 < w32 r1 then
(tp_bd (fx_X8_at a1 M2) (fun r3 M4 =>
(some (w64 (r3), M4))))
else
(some (tp_TH, M2))))))
set_option maxRecDepth 100000 in
set_option maxHeartbeats 4000000 in
theorem ok_X10_row (X : tp_X) (hTX : tp_TX X 64)  {a1 : Int}  {M : tp_M} {res : Int × tp_M} (h : fx_X10_row  a1 M = some res) : tp_RetX X LC 64 2 yX10_row (Cond.code yX10_row cX10_row 2 (some .long)) 10 [vR X 0, vI a1] M res := by
  refine tp_ofWX (by decide +kernel) rfl rfl (by show _ ≤ 2; exact Nat.le_of_ble_eq_true rfl) h (fun Y G => ?_)
  show tp_JX X Y LC 64 2 10 2 (fx_X10_row  a1 M) M [(0, vR X 0), (1, vI a1)] [] 0
  unfold fx_X10_row
  refine tx_iload_n (pc := 0) G 1 dX10_row_0 rfl rfl ?_
  refine tx_if_lt (pc := 1) G (tgt := 15) (a2 := w32 a1) dX10_row_1 (by decide) rfl ?_ ?_
  · exact tx_throw (pc := 15) G hTX (by decide) (Nat.le_of_ble_eq_true rfl) dX10_row_15 dX10_row_18 dX10_row_19 dX10_row_22
  refine tx_iload_n (pc := 4) G 1 dX10_row_4 rfl rfl ?_
  refine tx_aload_n (pc := 5) G 0 dX10_row_5 rfl rfl ?_
  refine tx_getR (pc := 6) G (k := 0) (j := 1) (j2 := 1) tk_X10 (by decide) lc_0 rfl (by decide) rfl fl_X10_19 dX10_row_6 ?_
  refine tx_callVi (pc := 9) G [] mf_X8_size (k := 3) (by decide) lc_3 rfl rfl ml_X10_473 (by decide) rfl rfl (Nat.le_of_ble_eq_true rfl) (fun _ h9 => ok_X8_size X  h9) dX10_row_9 (fun r1 M2 => ?_)
  refine tx_icmp_lt (pc := 12) G (tgt := 23) (a2 := w32 a1) (b2 := w32 r1) dX10_row_12 (by decide) rfl rfl ?_ ?_
  · refine tx_aload_n (pc := 23) G 0 dX10_row_23 rfl rfl ?_
    refine tx_getR (pc := 24) G (k := 0) (j := 1) (j2 := 1) tk_X10 (by decide) lc_0 rfl (by decide) rfl fl_X10_19 dX10_row_24 ?_
    refine tx_iload_n (pc := 27) G 1 dX10_row_27 rfl rfl ?_
    refine tx_callVl (pc := 28) G [vI a1] mf_X8_at (k := 3) (by decide) lc_3 rfl rfl ml_X10_474 (by decide) rfl rfl (Nat.le_of_ble_eq_true rfl) (fun _ h9 => ok_X8_at X  h9) dX10_row_28 (fun r3 M4 => ?_)
    exact tx_lret (pc := 31) G dX10_row_31
  exact tx_throw (pc := 15) G hTX (by decide) (Nat.le_of_ble_eq_true rfl) dX10_row_15 dX10_row_18 dX10_row_19 dX10_row_22
