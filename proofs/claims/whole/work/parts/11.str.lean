theorem mi_J0 : Cond.initialized RJ0 ∈ tp_W := tp_W_of (tm_1 (List.mem_of_getElem? (i := 15) rfl)) rfl
theorem mi_J1 : Cond.initialized RJ1 ∈ tp_W := tp_W_of (tm_1 (List.mem_of_getElem? (i := 16) rfl)) rfl
theorem mi_J3 : Cond.initialized RJ3 ∈ tp_W := tp_W_of (tm_1 (List.mem_of_getElem? (i := 17) rfl)) rfl
theorem mc_J0_length_8abf5 : Cond.code yJ0_length_8abf5 cJ0_length_8abf5 1 (some .int) ∈ tp_W := tp_W_of (tm_6 (List.mem_of_getElem? (i := 184) rfl)) rfl
theorem mn_J0_length_8abf5 : Cond.instanceMethod yJ0_length_8abf5 ∈ tp_W := tp_W_of (tm_6 (List.mem_of_getElem? (i := 182) rfl)) rfl
theorem mse_J0_length_8abf5 : Cond.selects RJ0 yJ0_length_8abf5 yJ0_length_8abf5 ∈ tp_W := tp_W_of (tm_6 (List.mem_of_getElem? (i := 183) rfl)) rfl
theorem mf_J0_length_8abf5 : tp_MV yJ0_length_8abf5 (Cond.code yJ0_length_8abf5 cJ0_length_8abf5 1 (some .int)) cJ0_length_8abf5 1 (some .int) 0 := ⟨⟨rfl, mc_J0_length_8abf5, mi_J0, by decide +kernel, by decide⟩, mn_J0_length_8abf5, mse_J0_length_8abf5⟩
theorem mc_J0_coder_7d493 : Cond.code yJ0_coder_7d493 cJ0_coder_7d493 1 (some .byte) ∈ tp_W := tp_W_of (tm_6 (List.mem_of_getElem? (i := 188) rfl)) rfl
theorem mn_J0_coder_7d493 : Cond.instanceMethod yJ0_coder_7d493 ∈ tp_W := tp_W_of (tm_6 (List.mem_of_getElem? (i := 186) rfl)) rfl
theorem mse_J0_coder_7d493 : Cond.selects RJ0 yJ0_coder_7d493 yJ0_coder_7d493 ∈ tp_W := tp_W_of (tm_6 (List.mem_of_getElem? (i := 187) rfl)) rfl
theorem mf_J0_coder_7d493 : tp_MV yJ0_coder_7d493 (Cond.code yJ0_coder_7d493 cJ0_coder_7d493 1 (some .byte)) cJ0_coder_7d493 1 (some .byte) 0 := ⟨⟨rfl, mc_J0_coder_7d493, mi_J0, by decide +kernel, by decide⟩, mn_J0_coder_7d493, mse_J0_coder_7d493⟩
theorem mc_J0_charAt_5068e : Cond.code yJ0_charAt_5068e cJ0_charAt_5068e 2 (some .char) ∈ tp_W := tp_W_of (tm_6 (List.mem_of_getElem? (i := 194) rfl)) rfl
theorem mn_J0_charAt_5068e : Cond.instanceMethod yJ0_charAt_5068e ∈ tp_W := tp_W_of (tm_6 (List.mem_of_getElem? (i := 192) rfl)) rfl
theorem mse_J0_charAt_5068e : Cond.selects RJ0 yJ0_charAt_5068e yJ0_charAt_5068e ∈ tp_W := tp_W_of (tm_6 (List.mem_of_getElem? (i := 193) rfl)) rfl
theorem mf_J0_charAt_5068e : tp_MV yJ0_charAt_5068e (Cond.code yJ0_charAt_5068e cJ0_charAt_5068e 2 (some .char)) cJ0_charAt_5068e 2 (some .char) 1 := ⟨⟨rfl, mc_J0_charAt_5068e, mi_J0, by decide +kernel, by decide⟩, mn_J0_charAt_5068e, mse_J0_charAt_5068e⟩
theorem mc_J0_isLatin1_aae02 : Cond.code yJ0_isLatin1_aae02 cJ0_isLatin1_aae02 1 (some .boolean) ∈ tp_W := tp_W_of (tm_6 (List.mem_of_getElem? (i := 198) rfl)) rfl
theorem mn_J0_isLatin1_aae02 : Cond.instanceMethod yJ0_isLatin1_aae02 ∈ tp_W := tp_W_of (tm_6 (List.mem_of_getElem? (i := 196) rfl)) rfl
theorem mse_J0_isLatin1_aae02 : Cond.selects RJ0 yJ0_isLatin1_aae02 yJ0_isLatin1_aae02 ∈ tp_W := tp_W_of (tm_6 (List.mem_of_getElem? (i := 197) rfl)) rfl
theorem mf_J0_isLatin1_aae02 : tp_MV yJ0_isLatin1_aae02 (Cond.code yJ0_isLatin1_aae02 cJ0_isLatin1_aae02 1 (some .boolean)) cJ0_isLatin1_aae02 1 (some .boolean) 0 := ⟨⟨rfl, mc_J0_isLatin1_aae02, mi_J0, by decide +kernel, by decide⟩, mn_J0_isLatin1_aae02, mse_J0_isLatin1_aae02⟩
theorem mc_J0_checkIndex_df160 : Cond.code yJ0_checkIndex_df160 cJ0_checkIndex_df160 2 none ∈ tp_W := tp_W_of (tm_6 (List.mem_of_getElem? (i := 204) rfl)) rfl
theorem ms_J0_checkIndex_df160 : Cond.static yJ0_checkIndex_df160 ∈ tp_W := tp_W_of (tm_6 (List.mem_of_getElem? (i := 203) rfl)) rfl
theorem mf_J0_checkIndex_df160 : tp_MS yJ0_checkIndex_df160 (Cond.code yJ0_checkIndex_df160 cJ0_checkIndex_df160 2 none) cJ0_checkIndex_df160 2 none 2 := ⟨⟨rfl, mc_J0_checkIndex_df160, mi_J0, by decide +kernel, by decide⟩, ms_J0_checkIndex_df160⟩
theorem mc_J1_charAt_3b067 : Cond.code yJ1_charAt_3b067 cJ1_charAt_3b067 2 (some .char) ∈ tp_W := tp_W_of (tm_6 (List.mem_of_getElem? (i := 201) rfl)) rfl
theorem ms_J1_charAt_3b067 : Cond.static yJ1_charAt_3b067 ∈ tp_W := tp_W_of (tm_6 (List.mem_of_getElem? (i := 200) rfl)) rfl
theorem mf_J1_charAt_3b067 : tp_MS yJ1_charAt_3b067 (Cond.code yJ1_charAt_3b067 cJ1_charAt_3b067 2 (some .char)) cJ1_charAt_3b067 2 (some .char) 2 := ⟨⟨rfl, mc_J1_charAt_3b067, mi_J1, by decide +kernel, by decide⟩, ms_J1_charAt_3b067⟩
theorem mc_J3_checkIndex_8e157 : Cond.code yJ3_checkIndex_8e157 cJ3_checkIndex_8e157 3 (some .int) ∈ tp_W := tp_W_of (tm_6 (List.mem_of_getElem? (i := 209) rfl)) rfl
theorem ms_J3_checkIndex_8e157 : Cond.static yJ3_checkIndex_8e157 ∈ tp_W := tp_W_of (tm_6 (List.mem_of_getElem? (i := 208) rfl)) rfl
theorem mf_J3_checkIndex_8e157 : tp_MS yJ3_checkIndex_8e157 (Cond.code yJ3_checkIndex_8e157 cJ3_checkIndex_8e157 3 (some .int)) cJ3_checkIndex_8e157 3 (some .int) 3 := ⟨⟨rfl, mc_J3_checkIndex_8e157, mi_J3, by decide +kernel, by decide⟩, ms_J3_checkIndex_8e157⟩
theorem ml_X11_159 : Cond.methodLink RX11 159 yJ0_length_8abf5 ∈ tp_W := tp_W_of (tm_6 (List.mem_of_getElem? (i := 181) rfl)) rfl
theorem ml_J0_335 : Cond.methodLink RJ0 335 yJ0_coder_7d493 ∈ tp_W := tp_W_of (tm_6 (List.mem_of_getElem? (i := 185) rfl)) rfl
theorem ml_X11_165 : Cond.methodLink RX11 165 yJ0_charAt_5068e ∈ tp_W := tp_W_of (tm_6 (List.mem_of_getElem? (i := 191) rfl)) rfl
theorem ml_J0_492 : Cond.methodLink RJ0 492 yJ0_isLatin1_aae02 ∈ tp_W := tp_W_of (tm_6 (List.mem_of_getElem? (i := 195) rfl)) rfl
theorem ml_J0_495 : Cond.methodLink RJ0 495 yJ1_charAt_3b067 ∈ tp_W := tp_W_of (tm_6 (List.mem_of_getElem? (i := 199) rfl)) rfl
theorem ml_J1_9 : Cond.methodLink RJ1 9 yJ0_checkIndex_df160 ∈ tp_W := tp_W_of (tm_6 (List.mem_of_getElem? (i := 202) rfl)) rfl
theorem ml_J0_1059 : Cond.methodLink RJ0 1059 yJ3_checkIndex_8e157 ∈ tp_W := tp_W_of (tm_6 (List.mem_of_getElem? (i := 207) rfl)) rfl
theorem ml_J2_414 : Cond.methodLink RJ2 414 yJ0_checkIndex_df160 ∈ tp_W := tp_W_of (tm_6 (List.mem_of_getElem? (i := 219) rfl)) rfl
theorem fl_J0_38 : Cond.fieldLink RJ0 38 "java/lang/String" "COMPACT_STRINGS" "Z" ∈ tp_W := tp_W_of (tm_6 (List.mem_of_getElem? (i := 189) rfl)) rfl
theorem fl_J0_1053 : Cond.fieldLink RJ0 1053 "jdk/internal/util/Preconditions" "SIOOBE_FORMATTER" "Ljava/util/function/BiFunction;" ∈ tp_W := tp_W_of (tm_6 (List.mem_of_getElem? (i := 205) rfl)) rfl
theorem fl_J0_9 : Cond.fieldLink RJ0 9 "java/lang/String" "value" "[B" ∈ tp_W := tp_W_of (tm_8 (List.mem_of_getElem? (i := 233) rfl)) rfl
theorem fl_J0_15 : Cond.fieldLink RJ0 15 "java/lang/String" "coder" "B" ∈ tp_W := tp_W_of (tm_8 (List.mem_of_getElem? (i := 234) rfl)) rfl
def tp_len : List Nat := [6, 7, 3, 2, 2]
def tp_byt : List (List Int32) := [[97, 103, 119, 98, 99, 112], [100, 107, 119, 99, 105, 104, 110], [60, 62, 61], [43, 45], [42, 47]]
/-- the String constants, what the JDK's own statics hold: outside the world -/
def tp_str (I : Nat → Nat) (A : Nat → Prop) (U : State) : Prop := va_Z "java/lang/String" "COMPACT_STRINGS" "Z" (.int 1) A U U.heap ∧ va_Zq "jdk/internal/util/Preconditions" "SIOOBE_FORMATTER" "Ljava/util/function/BiFunction;" A U U.heap ∧ vk_S 5 tp_len tp_byt (fun i => I (10 + i)) (fun i => I (20 + i)) A U U.heap ∧ vk_R RX11 348 "agwbcp" (I 10) U ∧ vk_R RX11 222 "dkwcihn" (I 11) U ∧ vk_R RX11 231 "<>=" (I 12) U ∧ vk_R RX11 233 "+-" (I 13) U ∧ vk_R RX11 235 "*/" (I 14) U
theorem tp_str_st {I : Nat → Nat} {A : Nat → Prop} : tp_st (tp_str I A) A := by
  intro u U h hW hz hq
  obtain ⟨h1, h2, h3, h4, h5, h6, h7, h8⟩ := h
  exact ⟨(h1.moved hW.alike).kept hq, (h2.moved hW.alike).kept hq, (h3.moved hW.alike).kept hq, h4.warm hW, h5.warm hW, h6.warm hW, h7.warm hW, h8.warm hW⟩
def tp_SX (X : tp_X) (N : Nat) : Prop := ∀ U, X.2.2.2.1 U → tp_str X.2.2.1 (tp_A X.2.2.2.2 N) U
def vS (X : tp_X) (s : Nat) : Value := .ref (X.2.2.1 (10 + s))
def vB (X : tp_X) (s : Nat) : Value := .ref (X.2.2.1 (20 + s))
section TS
variable {X : tp_X} {Y : tp_Y} {L : Nat → tp_K} {N nL dep rk : Nat} {cc : ByteArray} {own : String} {ret : Option FieldType} {o : tp_O} {M : tp_M} {lv : tp_V} {st : List Value} {pc : Nat}
theorem tj_rload_n (G : tp_Ok X Y N cc nL own ret) {k : Fin 4} {i : Nat} {a : Nat} (q : Nat) (d : decode cc pc = .ok (.aload_n k, 1)) (hi : (k : Nat) = i) (hq : lv[q]? = some (i, .ref a)) (kk : tp_J X Y L N nL dep rk o M lv (.ref a :: st) (pc + 1)) : tp_J X Y L N nL dep rk o M lv (st) (pc) := by
  obtain ⟨p, e, s, m, args, below, meth, c, res⟩ := Y
  obtain ⟨hx, hb, hml, hown, hts, hK, hNW, hE, hst, hr, hlk⟩ := G
  intro ho H locs ls hP hS hl
  refine lv_aload_n hx hb d hi (lv_at hl q hq) ?_
  exact kk ho H locs ls hP hS hl
theorem tj_rload (G : tp_Ok X Y N cc nL own ret) {i : Nat} {a : Nat} (q : Nat) (d : decode cc pc = .ok (.aload i, 2)) (hq : lv[q]? = some (i, .ref a)) (kk : tp_J X Y L N nL dep rk o M lv (.ref a :: st) (pc + 2)) : tp_J X Y L N nL dep rk o M lv (st) (pc) := by
  obtain ⟨p, e, s, m, args, below, meth, c, res⟩ := Y
  obtain ⟨hx, hb, hml, hown, hts, hK, hNW, hE, hst, hr, hlk⟩ := G
  intro ho H locs ls hP hS hl
  refine lv_aload hx hb d (lv_at hl q hq) ?_
  exact kk ho H locs ls hP hS hl
theorem tj_gets (G : tp_Ok X Y N cc nL own ret) {C n d2 : String} {v : Value} {index : Nat} (hZ : ∀ U, X.2.2.2.1 U → va_Z C n d2 v (tp_A X.2.2.2.2 N) U U.heap) (hw : Cond.fieldLink own index C n d2 ∈ tp_W) (d : decode cc pc = .ok (.getstatic index, 3)) (kk : tp_J X Y L N nL dep rk o M lv (v :: st) (pc + 3)) : tp_J X Y L N nL dep rk o M lv (st) (pc) := by
  obtain ⟨p, e, s, m, args, below, meth, c, res⟩ := Y
  obtain ⟨hx, hb, hml, hown, hts, hK, hNW, hE, hst, hr, hlk⟩ := G
  intro ho H locs ls hP hS hl
  refine va_gets hx hb (hZ s hE) hS hown (hts _ hw) (fun x h => h) d ?_
  exact kk ho H locs ls hP hS hl
theorem tj_getsq (G : tp_Ok X Y N cc nL own ret) {C n d2 : String} {index : Nat} (hZ : ∀ U, X.2.2.2.1 U → va_Zq C n d2 (tp_A X.2.2.2.2 N) U U.heap) (hw : Cond.fieldLink own index C n d2 ∈ tp_W) (d : decode cc pc = .ok (.getstatic index, 3)) (kk : ∀ v : Value, v.category = 1 → tp_J X Y L N nL dep rk o M lv (v :: st) (pc + 3)) : tp_J X Y L N nL dep rk o M lv (st) (pc) := by
  obtain ⟨p, e, s, m, args, below, meth, c, res⟩ := Y
  obtain ⟨hx, hb, hml, hown, hts, hK, hNW, hE, hst, hr, hlk⟩ := G
  intro ho H locs ls hP hS hl
  rcases hZ s hE with h | ⟨t, h⟩
  · refine va_gets hx hb h hS hown (hts _ hw) (fun x h => h) d ?_
    exact kk _ rfl ho H locs ls hP hS hl
  · refine va_gets hx hb h hS hown (hts _ hw) (fun x h => h) d ?_
    exact kk _ rfl ho H locs ls hP hS hl
theorem tj_getOF (G : tp_Ok X Y N cc nL own ret) {oo n d2 : String} {v : Value} {index q : Nat} (hZ : ∀ U, X.2.2.2.1 U → va_OF oo n d2 v q (tp_A X.2.2.2.2 N) U U.heap) (hw : Cond.fieldLink own index oo n d2 ∈ tp_W) (d : decode cc pc = .ok (.getfield index, 3)) (kk : tp_J X Y L N nL dep rk o M lv (v :: st) (pc + 3)) : tp_J X Y L N nL dep rk o M lv (.ref q :: st) (pc) := by
  obtain ⟨p, e, s, m, args, below, meth, c, res⟩ := Y
  obtain ⟨hx, hb, hml, hown, hts, hK, hNW, hE, hst, hr, hlk⟩ := G
  intro ho H locs ls hP hS hl
  refine vk_getf hx hb (hZ s hE) hS hown (hts _ hw) (fun x h => h) d ?_
  exact kk ho H locs ls hP hS hl
theorem tj_tlen (G : tp_Ok X Y N cc nL own ret) {ty : FieldType} {t n : Nat} {f : Nat → Value} (hT : ∀ U, X.2.2.2.1 U → va_T ty t n f (tp_A X.2.2.2.2 N) U U.heap) (d : decode cc pc = .ok (.arraylength, 1)) (kk : tp_J X Y L N nL dep rk o M lv (vI (n : Int) :: st) (pc + 1)) : tp_J X Y L N nL dep rk o M lv (.ref t :: st) (pc) := by
  obtain ⟨p, e, s, m, args, below, meth, c, res⟩ := Y
  obtain ⟨hx, hb, hml, hown, hts, hK, hNW, hE, hst, hr, hlk⟩ := G
  intro ho H locs ls hP hS hl
  refine va_tlen hx hb (hT s hE) hS rfl d ?_
  exact kk ho H locs ls hP hS hl
theorem tj_tb (G : tp_Ok X Y N cc nL own ret) {t n : Nat} {f : Nat → Value} {i i2 : Int} {v : Value} (hT : ∀ U, X.2.2.2.1 U → va_T .byte t n f (tp_A X.2.2.2.2 N) U U.heap) (hi : w32 i = i2) (hin : 0 ≤ i2 ∧ i2 < n) (hv : f i2.toNat = v) (d : decode cc pc = .ok (.baload, 1)) (kk : tp_J X Y L N nL dep rk o M lv (v :: st) (pc + 1)) : tp_J X Y L N nL dep rk o M lv (vI i :: .ref t :: st) (pc) := by
  obtain ⟨p, e, s, m, args, below, meth, c, res⟩ := Y
  obtain ⟨hx, hb, hml, hown, hts, hK, hNW, hE, hst, hr, hlk⟩ := G
  intro ho H locs ls hP hS hl
  subst hi
  refine va_tb hx hb (hT s hE) hS (wi_in hin) (v := v) ?_ d ?_
  · rw [← hv]
    have hc := wi_cl (a := i) hin.1
    congr 1
    omega
  exact kk ho H locs ls hP hS hl
theorem tj_i2c (G : tp_Ok X Y N cc nL own ret) {a : Int} {b : Int} (hv : ((Int32.ofInt a).toUInt32 % 65536).toInt32 = Int32.ofInt b) (d : decode cc pc = .ok (.i2c, 1)) (kk : tp_J X Y L N nL dep rk o M lv (vI b :: st) (pc + 1)) : tp_J X Y L N nL dep rk o M lv (vI a :: st) (pc) := by
  obtain ⟨p, e, s, m, args, below, meth, c, res⟩ := Y
  obtain ⟨hx, hb, hml, hown, hts, hK, hNW, hE, hst, hr, hlk⟩ := G
  intro ho H locs ls hP hS hl
  refine lv_i2c hx hb d hv ?_
  exact kk ho H locs ls hP hS hl
theorem tj_tret {ty : FieldType} {lvv : tp_V} (G : tp_Ok X Y N cc nL own (some ty)) {a : Int} (hz : narrow ty (vI a) = vI a) (d : decode cc pc = .ok (.ireturn, 1)) : tp_J X Y L N nL dep 1 (some (a, M)) M lvv [vI a] pc := by
  obtain ⟨p, e, s, m, args, below, meth, c, res⟩ := Y
  obtain ⟨hx, hb, hml, hown, hts, hK, hNW, hE, hst, hr, hlk⟩ := G
  intro ho H locs ls hP hS hl
  cases ho
  exact W.zret hx hb hr hz (fun t ht _ => ⟨⟨_, (), rfl, rfl, by show tp_P X L N M t.heap; rw [ht]; exact hP⟩, by rw [va_F]; exact ⟨by rw [ht]; exact hS.1, fun q h1 h2 => by rw [ht]; exact hS.2.1 q h1 h2⟩⟩) (fun q hq => hS.2.2 q hq) d hlk
theorem tj_callTi (G : tp_Ok X Y N cc nL own ret) {y : MethodName} {cw : Cond} {bytes : ByteArray} {maxL n dep2 index s0 : Nat} {rt : Option FieldType} {f : tp_O} {K : Int → tp_M → tp_O} {stk : List Value} (hSX : tp_SX X N) (hs0 : s0 < 5) (as : List Value) (Mv : tp_MV y cw bytes maxL rt n) (hrc : y.cls = "java/lang/String") (hw : Cond.methodLink own index y ∈ tp_W) (hd : dep2 + 1 ≤ dep) (hn : as.length = n) (hsk : stk = as.reverse ++ vS X s0 :: st) (hcat : (st.map fun v => v.category).sum ≤ 8) (hf : ∀ res2, f = some res2 → tp_Ret X L N 1 y cw dep2 (vS X s0 :: as) M res2) (d : decode cc pc = .ok (.invokevirtual index, 3)) (kk : ∀ (r : Int) (M1 : tp_M), tp_J X Y L N nL dep rk (K r M1) M1 lv (vI r :: st) (pc + 3)) : tp_J X Y L N nL dep rk (tp_bd f K) M lv (stk) (pc) := by
  obtain ⟨p, e, s, m, args, below, meth, c, res⟩ := Y
  obtain ⟨hx, hb, hml, hown, hts, hK, hNW, hE, hst, hr, hlk⟩ := G
  intro ho H locs ls hP hS hl
  obtain ⟨⟨hcw, hci, hini, hdy, hmx⟩, hin, hse⟩ := Mv
  subst hsk
  cases hfe : f with
  | none => rw [hfe] at ho; cases ho
  | some r2 =>
  rw [hfe] at ho
  have hM := hf r2 hfe
  refine va_calli (va_runV (As := as) (rest := st) ⟨hx, hb, hml, hown, hts⟩ hM (cwV (Ts := tp_W) n hts (tp_Gd (fun w hwm => by
      rcases List.mem_append.mp hwm with q | q
      · simp only [List.mem_cons, List.not_mem_nil, or_false] at q
        rcases q with q | q | q | q
        · rw [q]; exact hw
        · rw [q]; exact hin
        · rw [q]; exact hse
        · rw [q]; exact hini
      · rcases List.mem_cons.mp q with q | q
        · rw [q]; exact hci
        · exact q)) (by rw [hcw]) rfl rfl ⟨rfl, hdy⟩ ⟨hd, by show 8 + (maxL + 11) + 64 * dep2 ≤ 64 * dep; omega⟩) ⟨tp_blind, (by
      have hrv := vk_recv (hSX s hE).2.2.1 hs0 hS
      rw [← hrc] at hrv
      exact hrv), fun U hU hW => ⟨rfl, tp_pre hP hS hK hNW hE hst hU hW⟩⟩ rfl hn hl.1 rfl (lv_room hcat) d ⟨Nat.zero_le _, Nat.zero_le _⟩) hS (fun q _ h => h) (fun q h => h) (fun r u t H1 locs1 ht hvm hw2 hB hz1 hk1 hS1 => ?_)
  subst hw2
  have hP1 : tp_P X L N r2.2 H1 := by rw [← ht]; exact hB
  exact kk r2.1 r2.2 ho H1 locs1 ls hP1 hS1 hl
theorem tj_ldcS (G : tp_Ok X Y N cc nL own ret) {i s0 : Nat} {tx : String} (hR : ∀ U, X.2.2.2.1 U → vk_R own i tx (X.2.2.1 (10 + s0)) U) (d : decode cc pc = .ok (.ldc i, 2)) (kk : tp_J X Y L N nL dep rk o M lv (vS X s0 :: st) (pc + 2)) : tp_J X Y L N nL dep rk o M lv (st) (pc) := by
  obtain ⟨p, e, s, m, args, below, meth, c, res⟩ := Y
  obtain ⟨hx, hb, hml, hown, hts, hK, hNW, hE, hst, hr, hlk⟩ := G
  intro ho H locs ls hP hS hl
  refine va_ldcS hx hb hown (hR s hE) d ?_
  exact kk ho H locs ls hP hS hl
theorem tj_ldcSw (G : tp_Ok X Y N cc nL own ret) {i s0 : Nat} {tx : String} (hR : ∀ U, X.2.2.2.1 U → vk_R own i tx (X.2.2.1 (10 + s0)) U) (d : decode cc pc = .ok (.ldc_w i, 3)) (kk : tp_J X Y L N nL dep rk o M lv (vS X s0 :: st) (pc + 3)) : tp_J X Y L N nL dep rk o M lv (st) (pc) := by
  obtain ⟨p, e, s, m, args, below, meth, c, res⟩ := Y
  obtain ⟨hx, hb, hml, hown, hts, hK, hNW, hE, hst, hr, hlk⟩ := G
  intro ho H locs ls hP hS hl
  intro T hT XX
  obtain ⟨t, a1, b1⟩ := kk ho H locs ls hP hS hl T hT XX
  exact ⟨t, XX.ldcStringW hx hown (text := tx) (a := X.2.2.1 (10 + s0)) (hR s hE).1 (hR s hE).2 (g := F0 m pc ls st) rfl (by rw [hb]; exact d) t a1, b1⟩
theorem tj_ckh {i n : Int} (h : 0 ≤ i ∧ i < n → tp_J X Y L N nL dep rk o M lv (st) (pc)) : tp_J X Y L N nL dep rk (tp_ck i n o) M lv (st) (pc) := by
  unfold tp_ck
  split
  · rename_i q; exact h q
  · exact tj_none
end TS
theorem sx_cs {X : tp_X} {N : Nat} (h : tp_SX X N) : ∀ U, X.2.2.2.1 U → va_Z "java/lang/String" "COMPACT_STRINGS" "Z" (vI 1) (tp_A X.2.2.2.2 N) U U.heap := fun U hU => (h U hU).1
theorem sx_cd {X : tp_X} {N s0 : Nat} (h : tp_SX X N) (hs : s0 < 5) : ∀ U, X.2.2.2.1 U → va_OF "java/lang/String" "coder" "B" (vI 0) (X.2.2.1 (10 + s0)) (tp_A X.2.2.2.2 N) U U.heap := fun U hU => ((h U hU).2.2.1.1 s0 hs).2.1
theorem sx_vl {X : tp_X} {N s0 : Nat} (h : tp_SX X N) (hs : s0 < 5) : ∀ U, X.2.2.2.1 U → va_OF "java/lang/String" "value" "[B" (vB X s0) (X.2.2.1 (10 + s0)) (tp_A X.2.2.2.2 N) U U.heap := fun U hU => ((h U hU).2.2.1.1 s0 hs).2.2.1
theorem sx_by {X : tp_X} {N s0 : Nat} (h : tp_SX X N) (hs : s0 < 5) : ∀ U, X.2.2.2.1 U → va_T .byte (X.2.2.1 (20 + s0)) (tp_len.getD s0 0) (fun j => .int ((tp_byt.getD s0 []).getD j 0)) (tp_A X.2.2.2.2 N) U U.heap := fun U hU => ((h U hU).2.2.1.1 s0 hs).2.2.2
def sx_chr (s0 : Nat) (i : Int) : Int := ((tp_byt.getD s0 []).getD i.toNat 0).toInt
theorem sx_fin {P : Nat → Nat → Prop} (h : ∀ s0, s0 < 5 → ∀ j, j < tp_len.getD s0 0 → P s0 j) {s0 : Nat} (hs : s0 < 5) {i : Int} (hi : 0 ≤ i ∧ i < ((tp_len.getD s0 0 : Nat) : Int)) : P s0 i.toNat := h s0 hs _ (by omega)

set_option maxRecDepth 100000 in
set_option maxHeartbeats 4000000 in
theorem ok_J0_coder_7d493 {L : Nat → tp_K} {N : Nat} (X : tp_X) (hSX : tp_SX X N) {s0 : Nat} (hs : s0 < 5) {M : tp_M} {res : Int × tp_M} (h : some (0, M) = some res) : tp_Ret X L N 1 yJ0_coder_7d493 (Cond.code yJ0_coder_7d493 cJ0_coder_7d493 1 (some .byte)) 1 [vS X s0] M res := by
  refine tp_ofW (by decide +kernel) rfl rfl (by show _ ≤ 1; exact Nat.le_of_ble_eq_true rfl) h (fun Y G => ?_)
  show tp_J X Y L N 1 1 1 (some (0, M)) M [(0, vS X s0)] [] 0
  refine tj_gets (pc := 0) G (sx_cs hSX) fl_J0_38 dJ0_coder_7d493_0 ?_
  rw [show (some ((0 : Int), M) : tp_O) = if (1 : Int) = 0 then none else some (0, M) from rfl]
  refine tj_if_eq (pc := 3) G (tgt := 13) (a2 := 1) dJ0_coder_7d493_3 (by decide) rfl tj_none ?_
  refine tj_rload_n (pc := 6) G 0 dJ0_coder_7d493_6 rfl rfl ?_
  refine tj_getOF (pc := 7) G (sx_cd hSX hs) fl_J0_15 dJ0_coder_7d493_7 ?_
  refine tj_goto (pc := 10) G (tgt := 14) dJ0_coder_7d493_10 (by decide) ?_
  exact tj_tret (pc := 14) G rfl dJ0_coder_7d493_14
set_option maxRecDepth 100000 in
set_option maxHeartbeats 4000000 in
theorem ok_J0_isLatin1_aae02 {L : Nat → tp_K} {N : Nat} (X : tp_X) (hSX : tp_SX X N) {s0 : Nat} (hs : s0 < 5) {M : tp_M} {res : Int × tp_M} (h : some (1, M) = some res) : tp_Ret X L N 1 yJ0_isLatin1_aae02 (Cond.code yJ0_isLatin1_aae02 cJ0_isLatin1_aae02 1 (some .boolean)) 1 [vS X s0] M res := by
  refine tp_ofW (by decide +kernel) rfl rfl (by show _ ≤ 1; exact Nat.le_of_ble_eq_true rfl) h (fun Y G => ?_)
  show tp_J X Y L N 1 1 1 (some (1, M)) M [(0, vS X s0)] [] 0
  refine tj_gets (pc := 0) G (sx_cs hSX) fl_J0_38 dJ0_isLatin1_aae02_0 ?_
  rw [show (some ((1 : Int), M) : tp_O) = if (1 : Int) = 0 then none else some (1, M) from rfl]
  refine tj_if_eq (pc := 3) G (tgt := 17) (a2 := 1) dJ0_isLatin1_aae02_3 (by decide) rfl tj_none ?_
  refine tj_rload_n (pc := 6) G 0 dJ0_isLatin1_aae02_6 rfl rfl ?_
  refine tj_getOF (pc := 7) G (sx_cd hSX hs) fl_J0_15 dJ0_isLatin1_aae02_7 ?_
  rw [show (some ((1 : Int), M) : tp_O) = if (0 : Int) = 0 then some (1, M) else none from rfl]
  refine tj_if_ne (pc := 10) G (tgt := 17) (a2 := 0) dJ0_isLatin1_aae02_10 (by decide) rfl tj_none ?_
  refine tj_iconst (pc := 13) G dJ0_isLatin1_aae02_13 ?_
  refine tj_goto (pc := 14) G (tgt := 18) dJ0_isLatin1_aae02_14 (by decide) ?_
  exact tj_zret (pc := 18) G (by decide) dJ0_isLatin1_aae02_18
set_option maxRecDepth 100000 in
set_option maxHeartbeats 4000000 in
theorem ok_J0_length_8abf5 {L : Nat → tp_K} {N : Nat} (X : tp_X) (hSX : tp_SX X N) {s0 : Nat} (hs : s0 < 5) {M : tp_M} {res : Int × tp_M} (h : (some (((tp_len.getD s0 0 : Nat) : Int), M) : tp_O) = some res) : tp_Ret X L N 1 yJ0_length_8abf5 (Cond.code yJ0_length_8abf5 cJ0_length_8abf5 1 (some .int)) 2 [vS X s0] M res := by
  refine tp_ofW (by decide +kernel) rfl rfl (by show _ ≤ 1; exact Nat.le_of_ble_eq_true rfl) h (fun Y G => ?_)
  show tp_J X Y L N 1 2 1 ((some (((tp_len.getD s0 0 : Nat) : Int), M) : tp_O)) M [(0, vS X s0)] [] 0
  refine tj_rload_n (pc := 0) G 0 dJ0_length_8abf5_0 rfl rfl ?_
  refine tj_getOF (pc := 1) G (sx_vl hSX hs) fl_J0_9 dJ0_length_8abf5_1 ?_
  refine tj_tlen (pc := 4) G (sx_by hSX hs) dJ0_length_8abf5_4 ?_
  refine tj_rload_n (pc := 5) G 0 dJ0_length_8abf5_5 rfl rfl ?_
  rw [show (some (((tp_len.getD s0 0 : Nat) : Int), M) : tp_O) = tp_bd (some (0, M)) (fun r M1 => if r = 0 then some (x_shr ((tp_len.getD s0 0 : Nat) : Int) 0, M1) else none) from by
    show _ = some (x_shr ((tp_len.getD s0 0 : Nat) : Int) 0, M)
    have hh : ∀ s, s < 5 → ((tp_len.getD s 0 : Nat) : Int) = x_shr ((tp_len.getD s 0 : Nat) : Int) 0 := by decide +kernel
    rw [← hh s0 hs]]
  refine tj_callTi (pc := 6) G hSX hs [] mf_J0_coder_7d493 rfl ml_J0_335 (by decide) rfl rfl (Nat.le_of_ble_eq_true rfl) (fun _ h9 => ok_J0_coder_7d493 X hSX hs h9) dJ0_length_8abf5_6 (fun r M1 => ?_)
  refine tj_case (fun hr => ?_) (fun _ => tj_none)
  subst hr
  refine tj_ishr (pc := 9) G dJ0_length_8abf5_9 ?_
  exact tj_iret (pc := 10) G dJ0_length_8abf5_10
set_option maxRecDepth 100000 in
set_option maxHeartbeats 4000000 in
theorem ok_J3_checkIndex_8e157 {L : Nat → tp_K} {N : Nat} (X : tp_X) (hSX : tp_SX X N) {i n i2 n2 : Int} {v : Value} (hv : v.category = 1) (hi : w32 i = i2) (hn : w32 n = n2) (hin : 0 ≤ i2 ∧ i2 < n2) {M : tp_M} {res : Int × tp_M} (h : some (i, M) = some res) : tp_Ret X L N 1 yJ3_checkIndex_8e157 (Cond.code yJ3_checkIndex_8e157 cJ3_checkIndex_8e157 3 (some .int)) 1 [vI i, vI n, v] M res := by
  refine tp_ofW (by decide +kernel) rfl rfl (by
    have hc : (lg_sl [vI i, vI n, v]).length = 3 := by
      unfold lg_sl
      simp only [List.flatMap_cons, List.flatMap_nil, hv]
      rfl
    omega) h (fun Y G => ?_)
  have hla : lv_args 0 [vI i, vI n, v] = [(0, vI i), (1, vI n), (2, v)] := rfl
  rw [hla]
  subst hi; subst hn
  refine tj_iload_n (pc := 0) G 0 dJ3_checkIndex_8e157_0 rfl rfl ?_
  rw [show (some (i, M) : tp_O) = if w32 i < 0 then none else some (i, M) from (if_neg (by omega)).symm]
  refine tj_if_lt (pc := 1) G (tgt := 9) (a2 := w32 i) dJ3_checkIndex_8e157_1 (by decide) rfl tj_none ?_
  refine tj_iload_n (pc := 4) G 0 dJ3_checkIndex_8e157_4 rfl rfl ?_
  refine tj_iload_n (pc := 5) G 1 dJ3_checkIndex_8e157_5 rfl rfl ?_
  rw [show (some (i, M) : tp_O) = if w32 i < w32 n then some (i, M) else none from (if_pos (by omega)).symm]
  refine tj_icmp_lt (pc := 6) G (tgt := 16) (a2 := w32 i) (b2 := w32 n) dJ3_checkIndex_8e157_6 (by decide) rfl rfl ?_ tj_none
  refine tj_iload_n (pc := 16) G 0 dJ3_checkIndex_8e157_16 rfl rfl ?_
  exact tj_iret (pc := 17) G dJ3_checkIndex_8e157_17
set_option maxRecDepth 100000 in
set_option maxHeartbeats 4000000 in
theorem ok_J0_checkIndex_df160 {L : Nat → tp_K} {N : Nat} (X : tp_X) (hSX : tp_SX X N) {i n i2 n2 : Int} (hi : w32 i = i2) (hn : w32 n = n2) (hin : 0 ≤ i2 ∧ i2 < n2) {M : tp_M} {res : Int × tp_M} (h : some (0, M) = some res) : tp_Ret X L N 0 yJ0_checkIndex_df160 (Cond.code yJ0_checkIndex_df160 cJ0_checkIndex_df160 2 none) 2 [vI i, vI n] M res := by
  refine tp_ofW (by decide +kernel) rfl rfl (by show _ ≤ 2; exact Nat.le_of_ble_eq_true rfl) h (fun Y G => ?_)
  show tp_J X Y L N 2 2 0 (some (0, M)) M [(0, vI i), (1, vI n)] [] 0
  refine tj_iload_n (pc := 0) G 0 dJ0_checkIndex_df160_0 rfl rfl ?_
  refine tj_iload_n (pc := 1) G 1 dJ0_checkIndex_df160_1 rfl rfl ?_
  refine tj_getsq (pc := 2) G (fun U hU => (hSX U hU).2.1) fl_J0_1053 dJ0_checkIndex_df160_2 (fun v hv => ?_)
  rw [show (some ((0 : Int), M) : tp_O) = tp_bd (some (i, M)) (fun r M1 => some (0, M1)) from rfl]
  refine tj_callSi (pc := 5) G [vI i, vI n, v] mf_J3_checkIndex_8e157 ml_J0_1059 (by decide) rfl rfl (Nat.le_of_ble_eq_true rfl) (fun _ h9 => ok_J3_checkIndex_8e157 X hSX hv hi hn hin h9) dJ0_checkIndex_df160_5 (fun r M1 => ?_)
  refine tj_pop (pc := 8) G dJ0_checkIndex_df160_8 rfl ?_
  exact tj_vret (pc := 9) G dJ0_checkIndex_df160_9
set_option maxRecDepth 100000 in
set_option maxHeartbeats 4000000 in
theorem ok_J1_charAt_3b067 {L : Nat → tp_K} {N : Nat} (X : tp_X) (hSX : tp_SX X N) {s0 : Nat} (hs : s0 < 5) {i i2 : Int} (hi : w32 i = i2) (hin : 0 ≤ i2 ∧ i2 < ((tp_len.getD s0 0 : Nat) : Int)) {M : tp_M} {res : Int × tp_M} (h : some (sx_chr s0 i2, M) = some res) : tp_Ret X L N 1 yJ1_charAt_3b067 (Cond.code yJ1_charAt_3b067 cJ1_charAt_3b067 2 (some .char)) 3 [vB X s0, vI i] M res := by
  refine tp_ofW (by decide +kernel) rfl rfl (by show _ ≤ 2; exact Nat.le_of_ble_eq_true rfl) h (fun Y G => ?_)
  show tp_J X Y L N 2 3 1 (some (sx_chr s0 i2, M)) M [(0, vB X s0), (1, vI i)] [] 0
  refine tj_iload_n (pc := 0) G 1 dJ1_charAt_3b067_0 rfl rfl ?_
  refine tj_rload_n (pc := 1) G 0 dJ1_charAt_3b067_1 rfl rfl ?_
  refine tj_tlen (pc := 2) G (sx_by hSX hs) dJ1_charAt_3b067_2 ?_
  rw [show (some (sx_chr s0 i2, M) : tp_O) = tp_bd (some (0, M)) (fun r M1 => some (sx_chr s0 i2, M1)) from rfl]
  refine tj_callSv (pc := 3) G [vI i, vI ((tp_len.getD s0 0 : Nat) : Int)] mf_J0_checkIndex_df160 ml_J1_9 (by decide) rfl rfl (Nat.le_of_ble_eq_true rfl) (fun _ h9 => ok_J0_checkIndex_df160 X hSX hi (w32_id (by have hh : ∀ s, s < 5 → tp_len.getD s 0 < 100 := (by decide +kernel); have := hh s0 hs; omega)) hin h9) dJ1_charAt_3b067_3 (fun r M1 => ?_)
  refine tj_rload_n (pc := 6) G 0 dJ1_charAt_3b067_6 rfl rfl ?_
  refine tj_iload_n (pc := 7) G 1 dJ1_charAt_3b067_7 rfl rfl ?_
  refine tj_tb (pc := 8) G (v := vI (sx_chr s0 i2)) (sx_by hSX hs) hi hin (by unfold vI sx_chr; rw [w32_of]) dJ1_charAt_3b067_8 ?_
  refine tj_sipush (pc := 9) G dJ1_charAt_3b067_9 rfl ?_
  refine tj_iand (pc := 12) G dJ1_charAt_3b067_12 ?_
  refine tj_i2c (pc := 13) G (b := sx_chr s0 i2) ?_ dJ1_charAt_3b067_13 ?_
  · have hh : ∀ s, s < 5 → ∀ j, j < tp_len.getD s 0 → ((Int32.ofInt (x_and (((tp_byt.getD s []).getD j 0)).toInt 255)).toUInt32 % 65536).toInt32 = Int32.ofInt ((tp_byt.getD s []).getD j 0).toInt := by decide +kernel
    exact sx_fin (P := fun s j => ((Int32.ofInt (x_and (((tp_byt.getD s []).getD j 0)).toInt 255)).toUInt32 % 65536).toInt32 = Int32.ofInt ((tp_byt.getD s []).getD j 0).toInt) hh hs hin
  have hz : narrow .char (vI (sx_chr s0 i2)) = vI (sx_chr s0 i2) := by
    have hh : ∀ s, s < 5 → ∀ j, j < tp_len.getD s 0 → narrow .char (vI ((tp_byt.getD s []).getD j 0).toInt) = vI ((tp_byt.getD s []).getD j 0).toInt := by decide +kernel
    exact sx_fin (P := fun s j => narrow .char (vI ((tp_byt.getD s []).getD j 0).toInt) = vI ((tp_byt.getD s []).getD j 0).toInt) hh hs hin
  exact tj_tret (pc := 14) G hz dJ1_charAt_3b067_14
set_option maxRecDepth 100000 in
set_option maxHeartbeats 4000000 in
theorem ok_J0_charAt_5068e {L : Nat → tp_K} {N : Nat} (X : tp_X) (hSX : tp_SX X N) {s0 : Nat} (hs : s0 < 5) {i i2 : Int} (hi : w32 i = i2) (hin : 0 ≤ i2 ∧ i2 < ((tp_len.getD s0 0 : Nat) : Int)) {M : tp_M} {res : Int × tp_M} (h : some (sx_chr s0 i2, M) = some res) : tp_Ret X L N 1 yJ0_charAt_5068e (Cond.code yJ0_charAt_5068e cJ0_charAt_5068e 2 (some .char)) 4 [vS X s0, vI i] M res := by
  refine tp_ofW (by decide +kernel) rfl rfl (by show _ ≤ 2; exact Nat.le_of_ble_eq_true rfl) h (fun Y G => ?_)
  show tp_J X Y L N 2 4 1 (some (sx_chr s0 i2, M)) M [(0, vS X s0), (1, vI i)] [] 0
  refine tj_rload_n (pc := 0) G 0 dJ0_charAt_5068e_0 rfl rfl ?_
  rw [show (some (sx_chr s0 i2, M) : tp_O) = tp_bd (some (1, M)) (fun r M1 => if r = 1 then some (sx_chr s0 i2, M1) else none) from rfl]
  refine tj_callTi (pc := 1) G hSX hs [] mf_J0_isLatin1_aae02 rfl ml_J0_492 (by decide) rfl rfl (Nat.le_of_ble_eq_true rfl) (fun _ h9 => ok_J0_isLatin1_aae02 X hSX hs h9) dJ0_charAt_5068e_1 (fun r M1 => ?_)
  refine tj_case (fun hr => ?_) (fun _ => tj_none)
  subst hr
  rw [show (some (sx_chr s0 i2, M1) : tp_O) = if (1 : Int) = 0 then none else some (sx_chr s0 i2, M1) from rfl]
  refine tj_if_eq (pc := 4) G (tgt := 16) (a2 := 1) dJ0_charAt_5068e_4 (by decide) rfl tj_none ?_
  refine tj_rload_n (pc := 7) G 0 dJ0_charAt_5068e_7 rfl rfl ?_
  refine tj_getOF (pc := 8) G (sx_vl hSX hs) fl_J0_9 dJ0_charAt_5068e_8 ?_
  refine tj_iload_n (pc := 11) G 1 dJ0_charAt_5068e_11 rfl rfl ?_
  rw [show (some (sx_chr s0 i2, M1) : tp_O) = tp_bd (some (sx_chr s0 i2, M1)) (fun r M2 => if r = sx_chr s0 i2 then some (r, M2) else none) from (if_pos rfl).symm]
  refine tj_callSi (pc := 12) G [vB X s0, vI i] mf_J1_charAt_3b067 ml_J0_495 (by decide) rfl rfl (Nat.le_of_ble_eq_true rfl) (fun _ h9 => ok_J1_charAt_3b067 X hSX hs hi hin h9) dJ0_charAt_5068e_12 (fun r M2 => ?_)
  refine tj_case (fun hr => ?_) (fun _ => tj_none)
  subst hr
  have hz : narrow .char (vI (sx_chr s0 i2)) = vI (sx_chr s0 i2) := by
    have hh : ∀ s, s < 5 → ∀ j, j < tp_len.getD s 0 → narrow .char (vI ((tp_byt.getD s []).getD j 0).toInt) = vI ((tp_byt.getD s []).getD j 0).toInt := by decide +kernel
    exact sx_fin (P := fun s j => narrow .char (vI ((tp_byt.getD s []).getD j 0).toInt) = vI ((tp_byt.getD s []).getD j 0).toInt) hh hs hin
  exact tj_tret (pc := 15) G hz dJ0_charAt_5068e_15
