def fx_X11_common_b (fC : Int → Int → tp_M → tp_O) (a1 : Int) (a2 : Int) (M : tp_M) : tp_O :=
(if x_lcmp a2 0 = 0 then
(some (a1, M))
else
(tp_nz (w64 a2) (tp_bd (fC a2 (x_lrem a1 a2) M) (fun r1 M2 =>
(some (r1, M2))))))
def fx_X11_cm : Nat → (Int → Int → tp_M → tp_O)
  | 0 => ((fun _ _ _ => none))
  | n + 1 => ((fun a1 a2 M => fx_X11_common_b (fx_X11_cm n) a1 a2 M))
def fx_X11_common (a1 : Int) (a2 : Int) (M : tp_M) : tp_O := (fx_X11_cm 200) a1 a2 M
set_option maxRecDepth 100000 in
set_option maxHeartbeats 4000000 in
theorem ok_X11_common_b (X : tp_X) {n0 : Nat} {fC : Int → Int → tp_M → tp_O} (hfC : ∀ (a1 a2 : Int) (M : tp_M) (res : Int × tp_M), fC a1 a2 M = some res → tp_Ret X LM 34 2 yX11_common (Cond.code yX11_common cX11_common 4 (some .long)) (0 + n0) [vL a1, vL a2] M res) {a1 : Int} {a2 : Int}  {M : tp_M} {res : Int × tp_M} (h : fx_X11_common_b fC a1 a2 M = some res) : tp_Ret X LM 34 2 yX11_common (Cond.code yX11_common cX11_common 4 (some .long)) (0 + n0 + 1) [vL a1, vL a2] M res := by
  refine tp_ofW (by decide +kernel) rfl rfl (by show _ ≤ 4; exact Nat.le_of_ble_eq_true rfl) h (fun Y G => ?_)
  show tp_J X Y LM 34 4 (0 + n0 + 1) 2 (fx_X11_common_b fC a1 a2 M) M [(0, vL a1), (2, vL a2)] [] 0
  unfold fx_X11_common_b
  refine tj_lload_n (pc := 0) G 1 dX11_common_0 rfl rfl ?_
  refine tj_lconst (pc := 1) G (v := 0) dX11_common_1 rfl ?_
  refine tj_lcmp (pc := 2) G dX11_common_2 ?_
  refine tj_if_ne (pc := 3) G (tgt := 10) (a2 := x_lcmp a2 0) dX11_common_3 (by decide) (w32_lcmp _ _) ?_ ?_
  · refine tj_lload_n (pc := 10) G 1 dX11_common_10 rfl rfl ?_
    refine tj_lload_n (pc := 11) G 0 dX11_common_11 rfl rfl ?_
    refine tj_lload_n (pc := 12) G 1 dX11_common_12 rfl rfl ?_
    refine tj_lrem (pc := 13) G (b2 := w64 a2) dX11_common_13 rfl ?_
    refine tj_callSl (pc := 14) G [vL a2, vL (x_lrem a1 a2)] mf_X11_common ml_X11_7 (by omega) rfl rfl (Nat.le_of_ble_eq_true rfl) (fun _ h9 => hfC _ _ _ _ h9) dX11_common_14 (fun r1 M2 => ?_)
    exact tj_lret (pc := 17) G dX11_common_17
  refine tj_lload_n (pc := 6) G 0 dX11_common_6 rfl rfl ?_
  refine tj_goto (pc := 7) G (tgt := 17) dX11_common_7 (by decide) ?_
  exact tj_lret (pc := 17) G dX11_common_17
theorem ok_X11_cm (X : tp_X) : ∀ n : Nat, (∀ (a1 a2 : Int) (M : tp_M) (res : Int × tp_M), (fx_X11_cm n) a1 a2 M = some res → tp_Ret X LM 34 2 yX11_common (Cond.code yX11_common cX11_common 4 (some .long)) (0 + n) [vL a1, vL a2] M res) := by
  intro n
  induction n with
  | zero => exact (fun _ _ _ _ h => (by cases h))
  | succ n ih => exact (fun _ _ _ _ h => ok_X11_common_b X ih h)
theorem ok_X11_common (X : tp_X) {a1 a2 : Int} {M : tp_M} {res : Int × tp_M} (h : fx_X11_common a1 a2 M = some res) : tp_Ret X LM 34 2 yX11_common (Cond.code yX11_common cX11_common 4 (some .long)) 200 [vL a1, vL a2] M res := (ok_X11_cm X 200) _ _ _ _ h

def fx_X11_takesOf_L2 (c1 : Nat) (rec : Int → tp_M → tp_O) (z2 : Int) (M3 : tp_M) : tp_O :=
(tp_bd (some (((tp_len.getD c1 0 : Nat) : Int), M3)) (fun r4 M5 =>
(if w32 z2 < w32 r4 then
(if w32 (M5 0 10) < w32 (M5 0 11) then
(tp_ck (w32 z2) ((tp_len.getD c1 0 : Nat) : Int) (tp_bd (some (sx_chr c1 (w32 z2), M5)) (fun r6 M7 =>
(tp_ck (w32 (M7 0 10)) 80 (if w32 r6 = w32 (M7 6 (w32 (M7 0 10))) then
(tp_lm (tp_up M7 0 10 ((M7 0 10) + 1)) (fun M9 =>
(some (z2, M9))))
else
(tp_lt (z2 + 1) (fun x8 =>
(rec x8 M7))))))))
else
(some ((-1), M5)))
else
(some ((-1), M5)))))
def fx_X11_takesOf  (s1 : Nat) (M : tp_M) : tp_O :=
(tp_lt 0 (fun x1 =>
(tp_lp1 (fx_X11_takesOf_L2 s1 ) tp_F x1 M)))
set_option maxRecDepth 100000 in
set_option maxHeartbeats 4000000 in
theorem fx_X11_takesOf_L2_ok {X : tp_X} {Y : tp_Y} (G : tp_Ok X Y 34 cX11_takesOf 3 RX11 (some .int)) (hSX : tp_SX X 34)  {c1 : Nat}  (hsc1 : c1 < 5)  (n : Nat) : ∀ (z2 : Int) (M3 : tp_M), tp_J X Y LM 34 3 5 1 (tp_lp1 (fx_X11_takesOf_L2  c1 ) n z2 M3) M3 [(0, vR X 0), (1, vS X c1), (2, vI z2)] [] 2 := by
  refine tp_lp1_ok (P := fun o z2 M3 => tp_J X Y LM 34 3 5 1 (o) M3 [(0, vR X 0), (1, vS X c1), (2, vI z2)] [] 2) (fun z2 M3 => tj_none) (fun rec hrec z2 M3 => ?_) n
  unfold fx_X11_takesOf_L2
  refine tj_iload_n (pc := 2) G 2 dX11_takesOf_2 rfl rfl ?_
  refine tj_rload_n (pc := 3) G 1 dX11_takesOf_3 rfl rfl ?_
  refine tj_callTi (pc := 4) G hSX hsc1 [] mf_J0_length_8abf5 rfl ml_X11_159 (by decide) rfl rfl (Nat.le_of_ble_eq_true rfl) (fun _ h9 => ok_J0_length_8abf5 X hSX hsc1 h9) dX11_takesOf_4 (fun r4 M5 => ?_)
  refine tj_icmp_ge (pc := 7) G (tgt := 56) (a2 := w32 z2) (b2 := w32 r4) dX11_takesOf_7 (by decide) rfl rfl ?_ ?_
  · refine tj_iconst (pc := 56) G dX11_takesOf_56 ?_
    exact tj_iret (pc := 57) G dX11_takesOf_57
  refine tj_aload_n (pc := 10) G 0 dX11_takesOf_10 rfl rfl ?_
  refine tj_getI (pc := 11) G (k := 0) (j := 10) (j2 := 10) tk_X11 (by decide) lm_0 rfl (by decide) rfl fl_X11_136 dX11_takesOf_11 ?_
  refine tj_aload_n (pc := 14) G 0 dX11_takesOf_14 rfl rfl ?_
  refine tj_getI (pc := 15) G (k := 0) (j := 11) (j2 := 11) tk_X11 (by decide) lm_0 rfl (by decide) rfl fl_X11_148 dX11_takesOf_15 ?_
  refine tj_icmp_ge (pc := 18) G (tgt := 56) (a2 := w32 (M5 0 10)) (b2 := w32 (M5 0 11)) dX11_takesOf_18 (by decide) rfl rfl ?_ ?_
  · refine tj_iconst (pc := 56) G dX11_takesOf_56 ?_
    exact tj_iret (pc := 57) G dX11_takesOf_57
  refine tj_rload_n (pc := 21) G 1 dX11_takesOf_21 rfl rfl ?_
  refine tj_iload_n (pc := 22) G 2 dX11_takesOf_22 rfl rfl ?_
  refine tj_ckh (fun hin => ?_)
  refine tj_callTi (pc := 23) G hSX hsc1 [vI z2] mf_J0_charAt_5068e rfl ml_X11_165 (by decide) rfl rfl (Nat.le_of_ble_eq_true rfl) (fun _ h9 => ok_J0_charAt_5068e X hSX hsc1 rfl hin h9) dX11_takesOf_23 (fun r6 M7 => ?_)
  refine tj_aload_n (pc := 26) G 0 dX11_takesOf_26 rfl rfl ?_
  refine tj_getR (pc := 27) G (k := 0) (j := 8) (j2 := 8) tk_X11 (by decide) lm_0 rfl (by decide) rfl fl_X11_44 dX11_takesOf_27 ?_
  refine tj_aload_n (pc := 30) G 0 dX11_takesOf_30 rfl rfl ?_
  refine tj_getI (pc := 31) G (k := 0) (j := 10) (j2 := 10) tk_X11 (by decide) lm_0 rfl (by decide) rfl fl_X11_136 dX11_takesOf_31 ?_
  refine tj_iald (pc := 34) G (k := 6) (i2 := w32 (M7 0 10)) (n2 := 80) (by decide) lm_6 rfl rfl dX11_takesOf_34 ?_
  refine tj_icmp_ne (pc := 35) G (tgt := 50) (a2 := w32 r6) (b2 := w32 (M7 6 (w32 (M7 0 10)))) dX11_takesOf_35 (by decide) rfl rfl ?_ ?_
  · refine tj_iinc (pc := 50) G 2 (fun x8 => [(2, vI x8), (0, vR X 0), (1, vS X c1)]) dX11_takesOf_50 rfl (by decide) (fun _ => rfl) (fun x8 => ?_)
    refine tj_goto (pc := 53) G (tgt := 2) dX11_takesOf_53 (by decide) ?_
    exact tj_sub [1, 2, 0] rfl (hrec x8 M7)
  refine tj_aload_n (pc := 38) G 0 dX11_takesOf_38 rfl rfl ?_
  refine tj_dup (pc := 39) G dX11_takesOf_39 rfl ?_
  refine tj_getI (pc := 40) G (k := 0) (j := 10) (j2 := 10) tk_X11 (by decide) lm_0 rfl (by decide) rfl fl_X11_136 dX11_takesOf_40 ?_
  refine tj_iconst (pc := 43) G dX11_takesOf_43 ?_
  refine tj_iadd (pc := 44) G dX11_takesOf_44 ?_
  refine tj_putI (pc := 45) G (k := 0) (j := 10) (j2 := 10) tk_X11 (by decide) lm_0 rfl (by decide) rfl fl_X11_136 rfl rfl dX11_takesOf_45 (fun M9 => ?_)
  refine tj_iload_n (pc := 48) G 2 dX11_takesOf_48 rfl rfl ?_
  exact tj_iret (pc := 49) G dX11_takesOf_49
set_option maxRecDepth 100000 in
set_option maxHeartbeats 4000000 in
theorem ok_X11_takesOf (X : tp_X) (hSX : tp_SX X 34)  {s1 : Nat} (hs1 : s1 < 5) {M : tp_M} {res : Int × tp_M} (h : fx_X11_takesOf  s1 M = some res) : tp_Ret X LM 34 1 yX11_takesOf (Cond.code yX11_takesOf cX11_takesOf 3 (some .int)) 5 [vR X 0, vS X s1] M res := by
  refine tp_ofW (by decide +kernel) rfl rfl (by show _ ≤ 3; exact Nat.le_of_ble_eq_true rfl) h (fun Y G => ?_)
  show tp_J X Y LM 34 3 5 1 (fx_X11_takesOf  s1 M) M [(0, vR X 0), (1, vS X s1)] [] 0
  unfold fx_X11_takesOf
  refine tj_iconst (pc := 0) G dX11_takesOf_0 ?_
  refine tj_istore_n (pc := 1) G (fun x1 => [(2, vI x1), (0, vR X 0), (1, vS X s1)]) dX11_takesOf_1 rfl (by decide) (fun _ => rfl) (fun x1 => ?_)
  refine tj_sub [1, 2, 0] rfl (fx_X11_takesOf_L2_ok G hSX  hs1  tp_F x1 M)

def fx_X11_readsRank_L24 (fR : Int → tp_M → tp_O) (fT : tp_M → tp_O) (c1 : Int) (rec : Int → tp_M → tp_O) (z4 : Int) (M5 : tp_M) : tp_O :=
(if w32 z4 = 0 then
(some (1, M5))
else
(if w32 c1 = 0 then
(tp_bd (fx_X11_takesOf 2 M5) (fun r30 M31 =>
(tp_lt r30 (fun x32 =>
(if w32 x32 < 0 then
(some (1, M31))
else
(tp_bd (fR (c1 + 1) M31) (fun r33 M34 =>
(if w32 r33 = 0 then
(some (0, M34))
else
(tp_jn1 (fun y35 M36 => 
(tp_bd (fx_X11_codes ((2000 + x32) + y35) M36) (fun r37 M38 =>
(tp_jn1 (fun y39 M40 => 
(tp_lt y39 (fun x41 =>
(rec x41 M40)))) (fun jk109 =>
(if w32 c1 ≤ 0 then
(jk109 0 M38)
else
(jk109 1 M38))))))) (fun jk96 =>
(if w32 c1 = 0 then
(jk96 0 M34)
else
(if w32 c1 = 1 then
(jk96 3 M34)
else
(jk96 5 M34)))))))))))))
else
(if w32 c1 = 1 then
(tp_bd (fx_X11_takesOf 3 M5) (fun r18 M19 =>
(tp_lt r18 (fun x20 =>
(if w32 x20 < 0 then
(some (1, M19))
else
(tp_bd (fR (c1 + 1) M19) (fun r21 M22 =>
(if w32 r21 = 0 then
(some (0, M22))
else
(tp_jn1 (fun y23 M24 => 
(tp_bd (fx_X11_codes ((2000 + x20) + y23) M24) (fun r25 M26 =>
(tp_jn1 (fun y27 M28 => 
(tp_lt y27 (fun x29 =>
(rec x29 M28)))) (fun jk109 =>
(if w32 c1 ≤ 0 then
(jk109 0 M26)
else
(jk109 1 M26))))))) (fun jk96 =>
(if w32 c1 = 0 then
(jk96 0 M22)
else
(if w32 c1 = 1 then
(jk96 3 M22)
else
(jk96 5 M22)))))))))))))
else
(tp_bd (fx_X11_takesOf 4 M5) (fun r6 M7 =>
(tp_lt r6 (fun x8 =>
(if w32 x8 < 0 then
(some (1, M7))
else
(tp_bd (fR (c1 + 1) M7) (fun r9 M10 =>
(if w32 r9 = 0 then
(some (0, M10))
else
(tp_jn1 (fun y11 M12 => 
(tp_bd (fx_X11_codes ((2000 + x8) + y11) M12) (fun r13 M14 =>
(tp_jn1 (fun y15 M16 => 
(tp_lt y15 (fun x17 =>
(rec x17 M16)))) (fun jk109 =>
(if w32 c1 ≤ 0 then
(jk109 0 M14)
else
(jk109 1 M14))))))) (fun jk96 =>
(if w32 c1 = 0 then
(jk96 0 M10)
else
(if w32 c1 = 1 then
(jk96 3 M10)
else
(jk96 5 M10))))))))))))))))
def fx_X11_readsRank_b (fR : Int → tp_M → tp_O) (fT : tp_M → tp_O) (a1 : Int) (M : tp_M) : tp_O :=
(if w32 a1 = 3 then
(tp_bd (fT  M) (fun r42 M43 =>
(tp_gd (w32 r42 = 0 ∨ w32 r42 = 1) inferInstance (some (r42, M43)))))
else
(tp_bd (fR (a1 + 1) M) (fun r1 M2 =>
(if w32 r1 = 0 then
(some (0, M2))
else
(tp_lt 1 (fun x3 =>
(tp_lp1 (fx_X11_readsRank_L24 fR fT a1 ) tp_F x3 M2)))))))
def fx_X11_readsThing_b (fR : Int → tp_M → tp_O) (fT : tp_M → tp_O)  (M : tp_M) : tp_O :=
(tp_bd (fx_X11_takes 45 M) (fun r1 M2 =>
(if w32 r1 = 0 then
(tp_bd (fx_X11_isDigit  M2) (fun r3 M4 =>
(if w32 r3 = 0 then
(tp_bd (fx_X11_takesOf 1 M4) (fun r5 M6 =>
(tp_lt r5 (fun x7 =>
(if w32 x7 < 0 then
(if w32 (M6 0 12) = 4 then
(some (0, M6))
else
(tp_bd (fx_X11_takes 40 M6) (fun r8 M9 =>
(if w32 r8 = 0 then
(some (0, M9))
else
(tp_lm (tp_up M9 0 12 ((M9 0 12) + 1)) (fun M10 =>
(tp_bd (fR 0 M10) (fun r11 M12 =>
(if w32 r11 = 0 then
(some (0, M12))
else
(tp_bd (fx_X11_takes 41 M12) (fun r13 M14 =>
(if w32 r13 = 0 then
(some (0, M14))
else
(tp_lm (tp_up M14 0 12 ((M14 0 12) - 1)) (fun M15 =>
(some (1, M15))))))))))))))))
else
(tp_bd (fx_X11_codes (1000 + x7) M6) (fun r16 M17 =>
(some (1, M17)))))))))
else
(tp_bd (fx_X11_number 3 M4) (fun r18 M19 =>
(tp_bd (fx_X11_codes r18 M19) (fun r20 M21 =>
(some (1, M21)))))))))
else
(tp_bd (fT  M2) (fun r22 M23 =>
(tp_lt r22 (fun x24 =>
(tp_bd (fx_X11_codes 3000 M23) (fun r25 M26 =>
(tp_gd (w32 x24 = 0 ∨ w32 x24 = 1) inferInstance (some (x24, M26))))))))))))
def fx_X11_rd : Nat → (Int → tp_M → tp_O) × (tp_M → tp_O)
  | 0 => ((fun _ _ => none), (fun _ => none))
  | n + 1 => ((fun a1 M => fx_X11_readsRank_b (fx_X11_rd n).1 (fx_X11_rd n).2 a1 M), (fun M => fx_X11_readsThing_b (fx_X11_rd n).1 (fx_X11_rd n).2  M))
def fx_X11_readsRank (a1 : Int) (M : tp_M) : tp_O := (fx_X11_rd 100).1 a1 M
def fx_X11_readsThing  (M : tp_M) : tp_O := (fx_X11_rd 100).2  M
set_option maxRecDepth 100000 in
set_option maxHeartbeats 4000000 in
theorem fx_X11_readsRank_L24_ok {X : tp_X} {Y : tp_Y} (G : tp_Ok X Y 34 cX11_readsRank 4 RX11 (some .boolean)) (hSX : tp_SX X 34) {n0 : Nat} {fR : Int → tp_M → tp_O} {fT : tp_M → tp_O} (hfR : ∀ (a1 : Int) (M : tp_M) (res : Int × tp_M), fR a1 M = some res → tp_Ret X LM 34 1 yX11_readsRank (Cond.code yX11_readsRank cX11_readsRank 4 (some .boolean)) (5 + n0) [vR X 0, vI a1] M res) (hfT : ∀ (M : tp_M) (res : Int × tp_M), fT  M = some res → tp_Ret X LM 34 1 yX11_readsThing (Cond.code yX11_readsThing cX11_readsThing 2 (some .boolean)) (5 + n0) [vR X 0] M res) {c1 : Int}    (n : Nat) : ∀ (z4 : Int) (M5 : tp_M), tp_J X Y LM 34 4 (5 + n0 + 1) 1 (tp_lp1 (fx_X11_readsRank_L24  fR fT c1 ) n z4 M5) M5 [(0, vR X 0), (1, vI c1), (2, vI z4)] [] 24 := by
  refine tp_lp1_ok (P := fun o z4 M5 => tp_J X Y LM 34 4 (5 + n0 + 1) 1 (o) M5 [(0, vR X 0), (1, vI c1), (2, vI z4)] [] 24) (fun z4 M5 => tj_none) (fun rec hrec z4 M5 => ?_) n
  unfold fx_X11_readsRank_L24
  refine tj_iload_n (pc := 24) G 2 dX11_readsRank_24 rfl rfl ?_
  refine tj_if_eq (pc := 25) G (tgt := 113) (a2 := w32 z4) dX11_readsRank_25 (by decide) rfl ?_ ?_
  · refine tj_iconst (pc := 113) G dX11_readsRank_113 ?_
    exact tj_zret (pc := 114) G (by decide) dX11_readsRank_114
  refine tj_aload_n (pc := 28) G 0 dX11_readsRank_28 rfl rfl ?_
  refine tj_iload_n (pc := 29) G 1 dX11_readsRank_29 rfl rfl ?_
  refine tj_if_ne (pc := 30) G (tgt := 38) (a2 := w32 c1) dX11_readsRank_30 (by decide) rfl ?_ ?_
  · refine tj_iload_n (pc := 38) G 1 dX11_readsRank_38 rfl rfl ?_
    refine tj_iconst (pc := 39) G dX11_readsRank_39 ?_
    refine tj_icmp_ne (pc := 40) G (tgt := 48) (a2 := w32 c1) (b2 := 1) dX11_readsRank_40 (by decide) rfl rfl ?_ ?_
    · refine tj_ldcS (pc := 48) G (s0 := 4) (fun U hU => (hSX U hU).2.2.2.2.2.2.2) dX11_readsRank_48 ?_
      refine tj_callVi (pc := 50) G [vS X 4] mf_X11_takesOf (k := 0) (by decide) lm_0 rfl rfl ml_X11_224 (by omega) rfl rfl (Nat.le_of_ble_eq_true rfl) (fun _ h9 => ok_X11_takesOf X hSX (by decide) h9) dX11_readsRank_50 (fun r6 M7 => ?_)
      refine tj_istore_n (pc := 53) G (fun x8 => [(3, vI x8), (0, vR X 0), (1, vI c1), (2, vI z4)]) dX11_readsRank_53 rfl (by decide) (fun _ => rfl) (fun x8 => ?_)
      refine tj_iload_n (pc := 54) G 0 dX11_readsRank_54 rfl rfl ?_
      refine tj_if_ge (pc := 55) G (tgt := 60) (a2 := w32 x8) dX11_readsRank_55 (by decide) rfl ?_ ?_
      · refine tj_aload_n (pc := 60) G 1 dX11_readsRank_60 rfl rfl ?_
        refine tj_iload_n (pc := 61) G 2 dX11_readsRank_61 rfl rfl ?_
        refine tj_iconst (pc := 62) G dX11_readsRank_62 ?_
        refine tj_iadd (pc := 63) G dX11_readsRank_63 ?_
        refine tj_callVi (pc := 64) G [vI (c1 + 1)] mf_X11_readsRank (k := 0) (by decide) lm_0 rfl rfl ml_X11_228 (by omega) rfl rfl (Nat.le_of_ble_eq_true rfl) (fun _ h9 => hfR _ _ _ h9) dX11_readsRank_64 (fun r9 M10 => ?_)
        refine tj_if_ne (pc := 67) G (tgt := 72) (a2 := w32 r9) dX11_readsRank_67 (by decide) rfl ?_ ?_
        · refine tj_aload_n (pc := 72) G 1 dX11_readsRank_72 rfl rfl ?_
          refine tj_sipush (pc := 73) G dX11_readsRank_73 rfl ?_
          refine tj_iload_n (pc := 76) G 0 dX11_readsRank_76 rfl rfl ?_
          refine tj_iadd (pc := 77) G dX11_readsRank_77 ?_
          refine tj_iload_n (pc := 78) G 2 dX11_readsRank_78 rfl rfl ?_
          refine tj_jn1 (fun y11 => [(0, vR X 0), (1, vI c1)]) (fun y11 => [vI y11, vI (2000 + x8), vR X 0]) 96 (fun y11 M12 => ?_) (fun jk96 hj96 => ?_)
          · refine tj_iadd (pc := 96) G dX11_readsRank_96 ?_
            refine tj_callVv (pc := 97) G [vI ((2000 + x8) + y11)] mf_X11_codes (k := 0) (by decide) lm_0 rfl rfl ml_X11_215 (by omega) rfl rfl (Nat.le_of_ble_eq_true rfl) (fun _ h9 => ok_X11_codes X  h9) dX11_readsRank_97 (fun r13 M14 => ?_)
            refine tj_iload_n (pc := 100) G 1 dX11_readsRank_100 rfl rfl ?_
            refine tj_jn1 (fun y15 => [(0, vR X 0), (1, vI c1)]) (fun y15 => [vI y15]) 109 (fun y15 M16 => ?_) (fun jk109 hj109 => ?_)
            · refine tj_istore_n (pc := 109) G (fun x17 => [(2, vI x17), (0, vR X 0), (1, vI c1)]) dX11_readsRank_109 rfl (by decide) (fun _ => rfl) (fun x17 => ?_)
              refine tj_goto (pc := 110) G (tgt := 24) dX11_readsRank_110 (by decide) ?_
              exact tj_sub [1, 2, 0] rfl (hrec x17 M16)
            refine tj_if_le (pc := 101) G (tgt := 108) (a2 := w32 c1) dX11_readsRank_101 (by decide) rfl ?_ ?_
            · refine tj_iconst (pc := 108) G dX11_readsRank_108 ?_
              exact tj_sub [0, 1] rfl (hj109 0 M14)
            refine tj_iconst (pc := 104) G dX11_readsRank_104 ?_
            refine tj_goto (pc := 105) G (tgt := 109) dX11_readsRank_105 (by decide) ?_
            exact tj_sub [0, 1] rfl (hj109 1 M14)
          refine tj_if_ne (pc := 79) G (tgt := 86) (a2 := w32 c1) dX11_readsRank_79 (by decide) rfl ?_ ?_
          · refine tj_iload_n (pc := 86) G 2 dX11_readsRank_86 rfl rfl ?_
            refine tj_iconst (pc := 87) G dX11_readsRank_87 ?_
            refine tj_icmp_ne (pc := 88) G (tgt := 95) (a2 := w32 c1) (b2 := 1) dX11_readsRank_88 (by decide) rfl rfl ?_ ?_
            · refine tj_iconst (pc := 95) G dX11_readsRank_95 ?_
              exact tj_sub [1, 2] rfl (hj96 5 M10)
            refine tj_iconst (pc := 91) G dX11_readsRank_91 ?_
            refine tj_goto (pc := 92) G (tgt := 96) dX11_readsRank_92 (by decide) ?_
            exact tj_sub [1, 2] rfl (hj96 3 M10)
          refine tj_iconst (pc := 82) G dX11_readsRank_82 ?_
          refine tj_goto (pc := 83) G (tgt := 96) dX11_readsRank_83 (by decide) ?_
          exact tj_sub [1, 2] rfl (hj96 0 M10)
        refine tj_iconst (pc := 70) G dX11_readsRank_70 ?_
        exact tj_zret (pc := 71) G (by decide) dX11_readsRank_71
      refine tj_iconst (pc := 58) G dX11_readsRank_58 ?_
      exact tj_zret (pc := 59) G (by decide) dX11_readsRank_59
    refine tj_ldcS (pc := 43) G (s0 := 3) (fun U hU => (hSX U hU).2.2.2.2.2.2.1) dX11_readsRank_43 ?_
    refine tj_goto (pc := 45) G (tgt := 50) dX11_readsRank_45 (by decide) ?_
    refine tj_callVi (pc := 50) G [vS X 3] mf_X11_takesOf (k := 0) (by decide) lm_0 rfl rfl ml_X11_224 (by omega) rfl rfl (Nat.le_of_ble_eq_true rfl) (fun _ h9 => ok_X11_takesOf X hSX (by decide) h9) dX11_readsRank_50 (fun r18 M19 => ?_)
    refine tj_istore_n (pc := 53) G (fun x20 => [(3, vI x20), (0, vR X 0), (1, vI c1), (2, vI z4)]) dX11_readsRank_53 rfl (by decide) (fun _ => rfl) (fun x20 => ?_)
    refine tj_iload_n (pc := 54) G 0 dX11_readsRank_54 rfl rfl ?_
    refine tj_if_ge (pc := 55) G (tgt := 60) (a2 := w32 x20) dX11_readsRank_55 (by decide) rfl ?_ ?_
    · refine tj_aload_n (pc := 60) G 1 dX11_readsRank_60 rfl rfl ?_
      refine tj_iload_n (pc := 61) G 2 dX11_readsRank_61 rfl rfl ?_
      refine tj_iconst (pc := 62) G dX11_readsRank_62 ?_
      refine tj_iadd (pc := 63) G dX11_readsRank_63 ?_
      refine tj_callVi (pc := 64) G [vI (c1 + 1)] mf_X11_readsRank (k := 0) (by decide) lm_0 rfl rfl ml_X11_228 (by omega) rfl rfl (Nat.le_of_ble_eq_true rfl) (fun _ h9 => hfR _ _ _ h9) dX11_readsRank_64 (fun r21 M22 => ?_)
      refine tj_if_ne (pc := 67) G (tgt := 72) (a2 := w32 r21) dX11_readsRank_67 (by decide) rfl ?_ ?_
      · refine tj_aload_n (pc := 72) G 1 dX11_readsRank_72 rfl rfl ?_
        refine tj_sipush (pc := 73) G dX11_readsRank_73 rfl ?_
        refine tj_iload_n (pc := 76) G 0 dX11_readsRank_76 rfl rfl ?_
        refine tj_iadd (pc := 77) G dX11_readsRank_77 ?_
        refine tj_iload_n (pc := 78) G 2 dX11_readsRank_78 rfl rfl ?_
        refine tj_jn1 (fun y23 => [(0, vR X 0), (1, vI c1)]) (fun y23 => [vI y23, vI (2000 + x20), vR X 0]) 96 (fun y23 M24 => ?_) (fun jk96 hj96 => ?_)
        · refine tj_iadd (pc := 96) G dX11_readsRank_96 ?_
          refine tj_callVv (pc := 97) G [vI ((2000 + x20) + y23)] mf_X11_codes (k := 0) (by decide) lm_0 rfl rfl ml_X11_215 (by omega) rfl rfl (Nat.le_of_ble_eq_true rfl) (fun _ h9 => ok_X11_codes X  h9) dX11_readsRank_97 (fun r25 M26 => ?_)
          refine tj_iload_n (pc := 100) G 1 dX11_readsRank_100 rfl rfl ?_
          refine tj_jn1 (fun y27 => [(0, vR X 0), (1, vI c1)]) (fun y27 => [vI y27]) 109 (fun y27 M28 => ?_) (fun jk109 hj109 => ?_)
          · refine tj_istore_n (pc := 109) G (fun x29 => [(2, vI x29), (0, vR X 0), (1, vI c1)]) dX11_readsRank_109 rfl (by decide) (fun _ => rfl) (fun x29 => ?_)
            refine tj_goto (pc := 110) G (tgt := 24) dX11_readsRank_110 (by decide) ?_
            exact tj_sub [1, 2, 0] rfl (hrec x29 M28)
          refine tj_if_le (pc := 101) G (tgt := 108) (a2 := w32 c1) dX11_readsRank_101 (by decide) rfl ?_ ?_
          · refine tj_iconst (pc := 108) G dX11_readsRank_108 ?_
            exact tj_sub [0, 1] rfl (hj109 0 M26)
          refine tj_iconst (pc := 104) G dX11_readsRank_104 ?_
          refine tj_goto (pc := 105) G (tgt := 109) dX11_readsRank_105 (by decide) ?_
          exact tj_sub [0, 1] rfl (hj109 1 M26)
        refine tj_if_ne (pc := 79) G (tgt := 86) (a2 := w32 c1) dX11_readsRank_79 (by decide) rfl ?_ ?_
        · refine tj_iload_n (pc := 86) G 2 dX11_readsRank_86 rfl rfl ?_
          refine tj_iconst (pc := 87) G dX11_readsRank_87 ?_
          refine tj_icmp_ne (pc := 88) G (tgt := 95) (a2 := w32 c1) (b2 := 1) dX11_readsRank_88 (by decide) rfl rfl ?_ ?_
          · refine tj_iconst (pc := 95) G dX11_readsRank_95 ?_
            exact tj_sub [1, 2] rfl (hj96 5 M22)
          refine tj_iconst (pc := 91) G dX11_readsRank_91 ?_
          refine tj_goto (pc := 92) G (tgt := 96) dX11_readsRank_92 (by decide) ?_
          exact tj_sub [1, 2] rfl (hj96 3 M22)
        refine tj_iconst (pc := 82) G dX11_readsRank_82 ?_
        refine tj_goto (pc := 83) G (tgt := 96) dX11_readsRank_83 (by decide) ?_
        exact tj_sub [1, 2] rfl (hj96 0 M22)
      refine tj_iconst (pc := 70) G dX11_readsRank_70 ?_
      exact tj_zret (pc := 71) G (by decide) dX11_readsRank_71
    refine tj_iconst (pc := 58) G dX11_readsRank_58 ?_
    exact tj_zret (pc := 59) G (by decide) dX11_readsRank_59
  refine tj_ldcS (pc := 33) G (s0 := 2) (fun U hU => (hSX U hU).2.2.2.2.2.1) dX11_readsRank_33 ?_
  refine tj_goto (pc := 35) G (tgt := 50) dX11_readsRank_35 (by decide) ?_
  refine tj_callVi (pc := 50) G [vS X 2] mf_X11_takesOf (k := 0) (by decide) lm_0 rfl rfl ml_X11_224 (by omega) rfl rfl (Nat.le_of_ble_eq_true rfl) (fun _ h9 => ok_X11_takesOf X hSX (by decide) h9) dX11_readsRank_50 (fun r30 M31 => ?_)
  refine tj_istore_n (pc := 53) G (fun x32 => [(3, vI x32), (0, vR X 0), (1, vI c1), (2, vI z4)]) dX11_readsRank_53 rfl (by decide) (fun _ => rfl) (fun x32 => ?_)
  refine tj_iload_n (pc := 54) G 0 dX11_readsRank_54 rfl rfl ?_
  refine tj_if_ge (pc := 55) G (tgt := 60) (a2 := w32 x32) dX11_readsRank_55 (by decide) rfl ?_ ?_
  · refine tj_aload_n (pc := 60) G 1 dX11_readsRank_60 rfl rfl ?_
    refine tj_iload_n (pc := 61) G 2 dX11_readsRank_61 rfl rfl ?_
    refine tj_iconst (pc := 62) G dX11_readsRank_62 ?_
    refine tj_iadd (pc := 63) G dX11_readsRank_63 ?_
    refine tj_callVi (pc := 64) G [vI (c1 + 1)] mf_X11_readsRank (k := 0) (by decide) lm_0 rfl rfl ml_X11_228 (by omega) rfl rfl (Nat.le_of_ble_eq_true rfl) (fun _ h9 => hfR _ _ _ h9) dX11_readsRank_64 (fun r33 M34 => ?_)
    refine tj_if_ne (pc := 67) G (tgt := 72) (a2 := w32 r33) dX11_readsRank_67 (by decide) rfl ?_ ?_
    · refine tj_aload_n (pc := 72) G 1 dX11_readsRank_72 rfl rfl ?_
      refine tj_sipush (pc := 73) G dX11_readsRank_73 rfl ?_
      refine tj_iload_n (pc := 76) G 0 dX11_readsRank_76 rfl rfl ?_
      refine tj_iadd (pc := 77) G dX11_readsRank_77 ?_
      refine tj_iload_n (pc := 78) G 2 dX11_readsRank_78 rfl rfl ?_
      refine tj_jn1 (fun y35 => [(0, vR X 0), (1, vI c1)]) (fun y35 => [vI y35, vI (2000 + x32), vR X 0]) 96 (fun y35 M36 => ?_) (fun jk96 hj96 => ?_)
      · refine tj_iadd (pc := 96) G dX11_readsRank_96 ?_
        refine tj_callVv (pc := 97) G [vI ((2000 + x32) + y35)] mf_X11_codes (k := 0) (by decide) lm_0 rfl rfl ml_X11_215 (by omega) rfl rfl (Nat.le_of_ble_eq_true rfl) (fun _ h9 => ok_X11_codes X  h9) dX11_readsRank_97 (fun r37 M38 => ?_)
        refine tj_iload_n (pc := 100) G 1 dX11_readsRank_100 rfl rfl ?_
        refine tj_jn1 (fun y39 => [(0, vR X 0), (1, vI c1)]) (fun y39 => [vI y39]) 109 (fun y39 M40 => ?_) (fun jk109 hj109 => ?_)
        · refine tj_istore_n (pc := 109) G (fun x41 => [(2, vI x41), (0, vR X 0), (1, vI c1)]) dX11_readsRank_109 rfl (by decide) (fun _ => rfl) (fun x41 => ?_)
          refine tj_goto (pc := 110) G (tgt := 24) dX11_readsRank_110 (by decide) ?_
          exact tj_sub [1, 2, 0] rfl (hrec x41 M40)
        refine tj_if_le (pc := 101) G (tgt := 108) (a2 := w32 c1) dX11_readsRank_101 (by decide) rfl ?_ ?_
        · refine tj_iconst (pc := 108) G dX11_readsRank_108 ?_
          exact tj_sub [0, 1] rfl (hj109 0 M38)
        refine tj_iconst (pc := 104) G dX11_readsRank_104 ?_
        refine tj_goto (pc := 105) G (tgt := 109) dX11_readsRank_105 (by decide) ?_
        exact tj_sub [0, 1] rfl (hj109 1 M38)
      refine tj_if_ne (pc := 79) G (tgt := 86) (a2 := w32 c1) dX11_readsRank_79 (by decide) rfl ?_ ?_
      · refine tj_iload_n (pc := 86) G 2 dX11_readsRank_86 rfl rfl ?_
        refine tj_iconst (pc := 87) G dX11_readsRank_87 ?_
        refine tj_icmp_ne (pc := 88) G (tgt := 95) (a2 := w32 c1) (b2 := 1) dX11_readsRank_88 (by decide) rfl rfl ?_ ?_
        · refine tj_iconst (pc := 95) G dX11_readsRank_95 ?_
          exact tj_sub [1, 2] rfl (hj96 5 M34)
        refine tj_iconst (pc := 91) G dX11_readsRank_91 ?_
        refine tj_goto (pc := 92) G (tgt := 96) dX11_readsRank_92 (by decide) ?_
        exact tj_sub [1, 2] rfl (hj96 3 M34)
      refine tj_iconst (pc := 82) G dX11_readsRank_82 ?_
      refine tj_goto (pc := 83) G (tgt := 96) dX11_readsRank_83 (by decide) ?_
      exact tj_sub [1, 2] rfl (hj96 0 M34)
    refine tj_iconst (pc := 70) G dX11_readsRank_70 ?_
    exact tj_zret (pc := 71) G (by decide) dX11_readsRank_71
  refine tj_iconst (pc := 58) G dX11_readsRank_58 ?_
  exact tj_zret (pc := 59) G (by decide) dX11_readsRank_59
set_option maxRecDepth 100000 in
set_option maxHeartbeats 4000000 in
theorem ok_X11_readsRank_b (X : tp_X) (hSX : tp_SX X 34) {n0 : Nat} {fR : Int → tp_M → tp_O} {fT : tp_M → tp_O} (hfR : ∀ (a1 : Int) (M : tp_M) (res : Int × tp_M), fR a1 M = some res → tp_Ret X LM 34 1 yX11_readsRank (Cond.code yX11_readsRank cX11_readsRank 4 (some .boolean)) (5 + n0) [vR X 0, vI a1] M res) (hfT : ∀ (M : tp_M) (res : Int × tp_M), fT  M = some res → tp_Ret X LM 34 1 yX11_readsThing (Cond.code yX11_readsThing cX11_readsThing 2 (some .boolean)) (5 + n0) [vR X 0] M res) {a1 : Int}  {M : tp_M} {res : Int × tp_M} (h : fx_X11_readsRank_b fR fT a1 M = some res) : tp_Ret X LM 34 1 yX11_readsRank (Cond.code yX11_readsRank cX11_readsRank 4 (some .boolean)) (5 + n0 + 1) [vR X 0, vI a1] M res := by
  refine tp_ofW (by decide +kernel) rfl rfl (by show _ ≤ 4; exact Nat.le_of_ble_eq_true rfl) h (fun Y G => ?_)
  show tp_J X Y LM 34 4 (5 + n0 + 1) 1 (fx_X11_readsRank_b fR fT a1 M) M [(0, vR X 0), (1, vI a1)] [] 0
  unfold fx_X11_readsRank_b
  refine tj_iload_n (pc := 0) G 1 dX11_readsRank_0 rfl rfl ?_
  refine tj_iconst (pc := 1) G dX11_readsRank_1 ?_
  refine tj_icmp_ne (pc := 2) G (tgt := 10) (a2 := w32 a1) (b2 := 3) dX11_readsRank_2 (by decide) rfl rfl ?_ ?_
  · refine tj_aload_n (pc := 10) G 0 dX11_readsRank_10 rfl rfl ?_
    refine tj_iload_n (pc := 11) G 1 dX11_readsRank_11 rfl rfl ?_
    refine tj_iconst (pc := 12) G dX11_readsRank_12 ?_
    refine tj_iadd (pc := 13) G dX11_readsRank_13 ?_
    refine tj_callVi (pc := 14) G [vI (a1 + 1)] mf_X11_readsRank (k := 0) (by decide) lm_0 rfl rfl ml_X11_228 (by omega) rfl rfl (Nat.le_of_ble_eq_true rfl) (fun _ h9 => hfR _ _ _ h9) dX11_readsRank_14 (fun r1 M2 => ?_)
    refine tj_if_ne (pc := 17) G (tgt := 22) (a2 := w32 r1) dX11_readsRank_17 (by decide) rfl ?_ ?_
    · refine tj_iconst (pc := 22) G dX11_readsRank_22 ?_
      refine tj_istore_n (pc := 23) G (fun x3 => [(2, vI x3), (0, vR X 0), (1, vI a1)]) dX11_readsRank_23 rfl (by decide) (fun _ => rfl) (fun x3 => ?_)
      refine tj_sub [1, 2, 0] rfl (fx_X11_readsRank_L24_ok G hSX hfR hfT    tp_F x3 M2)
    refine tj_iconst (pc := 20) G dX11_readsRank_20 ?_
    exact tj_zret (pc := 21) G (by decide) dX11_readsRank_21
  refine tj_aload_n (pc := 5) G 0 dX11_readsRank_5 rfl rfl ?_
  refine tj_callVi (pc := 6) G [] mf_X11_readsThing (k := 0) (by decide) lm_0 rfl rfl ml_X11_212 (by omega) rfl rfl (Nat.le_of_ble_eq_true rfl) (fun _ h9 => hfT  _ _ h9) dX11_readsRank_6 (fun r42 M43 => ?_)
  exact tj_gd (fun hz => tj_zret (pc := 9) G hz dX11_readsRank_9)
set_option maxRecDepth 100000 in
set_option maxHeartbeats 4000000 in
theorem ok_X11_readsThing_b (X : tp_X) (hSX : tp_SX X 34) {n0 : Nat} {fR : Int → tp_M → tp_O} {fT : tp_M → tp_O} (hfR : ∀ (a1 : Int) (M : tp_M) (res : Int × tp_M), fR a1 M = some res → tp_Ret X LM 34 1 yX11_readsRank (Cond.code yX11_readsRank cX11_readsRank 4 (some .boolean)) (5 + n0) [vR X 0, vI a1] M res) (hfT : ∀ (M : tp_M) (res : Int × tp_M), fT  M = some res → tp_Ret X LM 34 1 yX11_readsThing (Cond.code yX11_readsThing cX11_readsThing 2 (some .boolean)) (5 + n0) [vR X 0] M res)   {M : tp_M} {res : Int × tp_M} (h : fx_X11_readsThing_b fR fT  M = some res) : tp_Ret X LM 34 1 yX11_readsThing (Cond.code yX11_readsThing cX11_readsThing 2 (some .boolean)) (5 + n0 + 1) [vR X 0] M res := by
  refine tp_ofW (by decide +kernel) rfl rfl (by show _ ≤ 2; exact Nat.le_of_ble_eq_true rfl) h (fun Y G => ?_)
  show tp_J X Y LM 34 2 (5 + n0 + 1) 1 (fx_X11_readsThing_b fR fT  M) M [(0, vR X 0)] [] 0
  unfold fx_X11_readsThing_b
  refine tj_aload_n (pc := 0) G 0 dX11_readsThing_0 rfl rfl ?_
  refine tj_bipush (pc := 1) G dX11_readsThing_1 rfl ?_
  refine tj_callVi (pc := 3) G [vI 45] mf_X11_takes (k := 0) (by decide) lm_0 rfl rfl ml_X11_193 (by omega) rfl rfl (Nat.le_of_ble_eq_true rfl) (fun _ h9 => ok_X11_takes X  h9) dX11_readsThing_3 (fun r1 M2 => ?_)
  refine tj_if_eq (pc := 6) G (tgt := 23) (a2 := w32 r1) dX11_readsThing_6 (by decide) rfl ?_ ?_
  · refine tj_aload_n (pc := 23) G 0 dX11_readsThing_23 rfl rfl ?_
    refine tj_callVi (pc := 24) G [] mf_X11_isDigit (k := 0) (by decide) lm_0 rfl rfl ml_X11_169 (by omega) rfl rfl (Nat.le_of_ble_eq_true rfl) (fun _ h9 => ok_X11_isDigit X  h9) dX11_readsThing_24 (fun r3 M4 => ?_)
    refine tj_if_eq (pc := 27) G (tgt := 41) (a2 := w32 r3) dX11_readsThing_27 (by decide) rfl ?_ ?_
    · refine tj_aload_n (pc := 41) G 0 dX11_readsThing_41 rfl rfl ?_
      refine tj_ldcS (pc := 42) G (s0 := 1) (fun U hU => (hSX U hU).2.2.2.2.1) dX11_readsThing_42 ?_
      refine tj_callVi (pc := 44) G [vS X 1] mf_X11_takesOf (k := 0) (by decide) lm_0 rfl rfl ml_X11_224 (by omega) rfl rfl (Nat.le_of_ble_eq_true rfl) (fun _ h9 => ok_X11_takesOf X hSX (by decide) h9) dX11_readsThing_44 (fun r5 M6 => ?_)
      refine tj_istore_n (pc := 47) G (fun x7 => [(1, vI x7), (0, vR X 0)]) dX11_readsThing_47 rfl (by decide) (fun _ => rfl) (fun x7 => ?_)
      refine tj_iload_n (pc := 48) G 0 dX11_readsThing_48 rfl rfl ?_
      refine tj_if_lt (pc := 49) G (tgt := 63) (a2 := w32 x7) dX11_readsThing_49 (by decide) rfl ?_ ?_
      · refine tj_aload_n (pc := 63) G 1 dX11_readsThing_63 rfl rfl ?_
        refine tj_getI (pc := 64) G (k := 0) (j := 12) (j2 := 12) tk_X11 (by decide) lm_0 rfl (by decide) rfl fl_X11_139 dX11_readsThing_64 ?_
        refine tj_iconst (pc := 67) G dX11_readsThing_67 ?_
        refine tj_icmp_eq (pc := 68) G (tgt := 80) (a2 := w32 (M6 0 12)) (b2 := 4) dX11_readsThing_68 (by decide) rfl rfl ?_ ?_
        · refine tj_iconst (pc := 80) G dX11_readsThing_80 ?_
          exact tj_zret (pc := 81) G (by decide) dX11_readsThing_81
        refine tj_aload_n (pc := 71) G 1 dX11_readsThing_71 rfl rfl ?_
        refine tj_bipush (pc := 72) G dX11_readsThing_72 rfl ?_
        refine tj_callVi (pc := 74) G [vI 40] mf_X11_takes (k := 0) (by decide) lm_0 rfl rfl ml_X11_193 (by omega) rfl rfl (Nat.le_of_ble_eq_true rfl) (fun _ h9 => ok_X11_takes X  h9) dX11_readsThing_74 (fun r8 M9 => ?_)
        refine tj_if_ne (pc := 77) G (tgt := 82) (a2 := w32 r8) dX11_readsThing_77 (by decide) rfl ?_ ?_
        · refine tj_aload_n (pc := 82) G 1 dX11_readsThing_82 rfl rfl ?_
          refine tj_dup (pc := 83) G dX11_readsThing_83 rfl ?_
          refine tj_getI (pc := 84) G (k := 0) (j := 12) (j2 := 12) tk_X11 (by decide) lm_0 rfl (by decide) rfl fl_X11_139 dX11_readsThing_84 ?_
          refine tj_iconst (pc := 87) G dX11_readsThing_87 ?_
          refine tj_iadd (pc := 88) G dX11_readsThing_88 ?_
          refine tj_putI (pc := 89) G (k := 0) (j := 12) (j2 := 12) tk_X11 (by decide) lm_0 rfl (by decide) rfl fl_X11_139 rfl rfl dX11_readsThing_89 (fun M10 => ?_)
          refine tj_aload_n (pc := 92) G 1 dX11_readsThing_92 rfl rfl ?_
          refine tj_iconst (pc := 93) G dX11_readsThing_93 ?_
          refine tj_callVi (pc := 94) G [vI 0] mf_X11_readsRank (k := 0) (by decide) lm_0 rfl rfl ml_X11_228 (by omega) rfl rfl (Nat.le_of_ble_eq_true rfl) (fun _ h9 => hfR _ _ _ h9) dX11_readsThing_94 (fun r11 M12 => ?_)
          refine tj_if_eq (pc := 97) G (tgt := 109) (a2 := w32 r11) dX11_readsThing_97 (by decide) rfl ?_ ?_
          · refine tj_iconst (pc := 109) G dX11_readsThing_109 ?_
            exact tj_zret (pc := 110) G (by decide) dX11_readsThing_110
          refine tj_aload_n (pc := 100) G 1 dX11_readsThing_100 rfl rfl ?_
          refine tj_bipush (pc := 101) G dX11_readsThing_101 rfl ?_
          refine tj_callVi (pc := 103) G [vI 41] mf_X11_takes (k := 0) (by decide) lm_0 rfl rfl ml_X11_193 (by omega) rfl rfl (Nat.le_of_ble_eq_true rfl) (fun _ h9 => ok_X11_takes X  h9) dX11_readsThing_103 (fun r13 M14 => ?_)
          refine tj_if_ne (pc := 106) G (tgt := 111) (a2 := w32 r13) dX11_readsThing_106 (by decide) rfl ?_ ?_
          · refine tj_aload_n (pc := 111) G 1 dX11_readsThing_111 rfl rfl ?_
            refine tj_dup (pc := 112) G dX11_readsThing_112 rfl ?_
            refine tj_getI (pc := 113) G (k := 0) (j := 12) (j2 := 12) tk_X11 (by decide) lm_0 rfl (by decide) rfl fl_X11_139 dX11_readsThing_113 ?_
            refine tj_iconst (pc := 116) G dX11_readsThing_116 ?_
            refine tj_isub (pc := 117) G dX11_readsThing_117 ?_
            refine tj_putI (pc := 118) G (k := 0) (j := 12) (j2 := 12) tk_X11 (by decide) lm_0 rfl (by decide) rfl fl_X11_139 rfl rfl dX11_readsThing_118 (fun M15 => ?_)
            refine tj_iconst (pc := 121) G dX11_readsThing_121 ?_
            exact tj_zret (pc := 122) G (by decide) dX11_readsThing_122
          refine tj_iconst (pc := 109) G dX11_readsThing_109 ?_
          exact tj_zret (pc := 110) G (by decide) dX11_readsThing_110
        refine tj_iconst (pc := 80) G dX11_readsThing_80 ?_
        exact tj_zret (pc := 81) G (by decide) dX11_readsThing_81
      refine tj_aload_n (pc := 52) G 1 dX11_readsThing_52 rfl rfl ?_
      refine tj_sipush (pc := 53) G dX11_readsThing_53 rfl ?_
      refine tj_iload_n (pc := 56) G 0 dX11_readsThing_56 rfl rfl ?_
      refine tj_iadd (pc := 57) G dX11_readsThing_57 ?_
      refine tj_callVv (pc := 58) G [vI (1000 + x7)] mf_X11_codes (k := 0) (by decide) lm_0 rfl rfl ml_X11_215 (by omega) rfl rfl (Nat.le_of_ble_eq_true rfl) (fun _ h9 => ok_X11_codes X  h9) dX11_readsThing_58 (fun r16 M17 => ?_)
      refine tj_iconst (pc := 61) G dX11_readsThing_61 ?_
      exact tj_zret (pc := 62) G (by decide) dX11_readsThing_62
    refine tj_aload_n (pc := 30) G 0 dX11_readsThing_30 rfl rfl ?_
    refine tj_aload_n (pc := 31) G 0 dX11_readsThing_31 rfl rfl ?_
    refine tj_iconst (pc := 32) G dX11_readsThing_32 ?_
    refine tj_callVi (pc := 33) G [vI 3] mf_X11_number (k := 0) (by decide) lm_0 rfl rfl ml_X11_219 (by omega) rfl rfl (Nat.le_of_ble_eq_true rfl) (fun _ h9 => ok_X11_number X  h9) dX11_readsThing_33 (fun r18 M19 => ?_)
    refine tj_callVv (pc := 36) G [vI r18] mf_X11_codes (k := 0) (by decide) lm_0 rfl rfl ml_X11_215 (by omega) rfl rfl (Nat.le_of_ble_eq_true rfl) (fun _ h9 => ok_X11_codes X  h9) dX11_readsThing_36 (fun r20 M21 => ?_)
    refine tj_iconst (pc := 39) G dX11_readsThing_39 ?_
    exact tj_zret (pc := 40) G (by decide) dX11_readsThing_40
  refine tj_aload_n (pc := 9) G 0 dX11_readsThing_9 rfl rfl ?_
  refine tj_callVi (pc := 10) G [] mf_X11_readsThing (k := 0) (by decide) lm_0 rfl rfl ml_X11_212 (by omega) rfl rfl (Nat.le_of_ble_eq_true rfl) (fun _ h9 => hfT  _ _ h9) dX11_readsThing_10 (fun r22 M23 => ?_)
  refine tj_istore_n (pc := 13) G (fun x24 => [(1, vI x24), (0, vR X 0)]) dX11_readsThing_13 rfl (by decide) (fun _ => rfl) (fun x24 => ?_)
  refine tj_aload_n (pc := 14) G 1 dX11_readsThing_14 rfl rfl ?_
  refine tj_sipush (pc := 15) G dX11_readsThing_15 rfl ?_
  refine tj_callVv (pc := 18) G [vI 3000] mf_X11_codes (k := 0) (by decide) lm_0 rfl rfl ml_X11_215 (by omega) rfl rfl (Nat.le_of_ble_eq_true rfl) (fun _ h9 => ok_X11_codes X  h9) dX11_readsThing_18 (fun r25 M26 => ?_)
  refine tj_iload_n (pc := 21) G 0 dX11_readsThing_21 rfl rfl ?_
  exact tj_gd (fun hz => tj_zret (pc := 22) G hz dX11_readsThing_22)
theorem ok_X11_rd (X : tp_X) (hSX : tp_SX X 34) : ∀ n : Nat, (∀ (a1 : Int) (M : tp_M) (res : Int × tp_M), (fx_X11_rd n).1 a1 M = some res → tp_Ret X LM 34 1 yX11_readsRank (Cond.code yX11_readsRank cX11_readsRank 4 (some .boolean)) (5 + n) [vR X 0, vI a1] M res) ∧ (∀ (M : tp_M) (res : Int × tp_M), (fx_X11_rd n).2  M = some res → tp_Ret X LM 34 1 yX11_readsThing (Cond.code yX11_readsThing cX11_readsThing 2 (some .boolean)) (5 + n) [vR X 0] M res) := by
  intro n
  induction n with
  | zero => exact ⟨fun _ _ _ h => (by cases h), fun  _ _ h => (by cases h)⟩
  | succ n ih => exact ⟨fun _ _ _ h => ok_X11_readsRank_b X hSX ih.1 ih.2 h, fun  _ _ h => ok_X11_readsThing_b X hSX ih.1 ih.2 h⟩
theorem ok_X11_readsRank (X : tp_X) (hSX : tp_SX X 34) {a1 : Int} {M : tp_M} {res : Int × tp_M} (h : fx_X11_readsRank a1 M = some res) : tp_Ret X LM 34 1 yX11_readsRank (Cond.code yX11_readsRank cX11_readsRank 4 (some .boolean)) 105 [vR X 0, vI a1] M res := (ok_X11_rd X hSX 100).1 _ _ _ h
theorem ok_X11_readsThing (X : tp_X) (hSX : tp_SX X 34) {M : tp_M} {res : Int × tp_M} (h : fx_X11_readsThing  M = some res) : tp_Ret X LM 34 1 yX11_readsThing (Cond.code yX11_readsThing cX11_readsThing 2 (some .boolean)) 105 [vR X 0] M res := (ok_X11_rd X hSX 100).2  _ _ h

def fx_X11_entersFraction  (a1 : Int) (a2 : Int) (M : tp_M) : tp_O :=
(tp_bd (fx_X11_common a1 a2 M) (fun r1 M2 =>
(tp_lt r1 (fun x3 =>
(tp_lm (tp_up M2 0 1 0) (fun M4 =>
(tp_nz (w64 x3) (tp_bd (fx_X11_enters (x_ldiv a1 x3) M4) (fun r5 M6 =>
(tp_nz (w64 x3) (tp_bd (fx_X11_enters (x_ldiv a2 x3) M6) (fun r7 M8 =>
(some (0, M8))))))))))))))
set_option maxRecDepth 100000 in
set_option maxHeartbeats 4000000 in
theorem ok_X11_entersFraction (X : tp_X)  {a1 : Int} {a2 : Int}  {M : tp_M} {res : Int × tp_M} (h : fx_X11_entersFraction  a1 a2 M = some res) : tp_Ret X LM 34 1 yX11_entersFraction (Cond.code yX11_entersFraction cX11_entersFraction 7 (some .int)) 201 [vR X 0, vL a1, vL a2] M res := by
  refine tp_ofW (by decide +kernel) rfl rfl (by show _ ≤ 7; exact Nat.le_of_ble_eq_true rfl) h (fun Y G => ?_)
  show tp_J X Y LM 34 7 201 1 (fx_X11_entersFraction  a1 a2 M) M [(0, vR X 0), (1, vL a1), (3, vL a2)] [] 0
  unfold fx_X11_entersFraction
  refine tj_lload_n (pc := 0) G 1 dX11_entersFraction_0 rfl rfl ?_
  refine tj_lload_n (pc := 1) G 2 dX11_entersFraction_1 rfl rfl ?_
  refine tj_callSl (pc := 2) G [vL a1, vL a2] mf_X11_common ml_X11_7 (by decide) rfl rfl (Nat.le_of_ble_eq_true rfl) (fun _ h9 => ok_X11_common X  h9) dX11_entersFraction_2 (fun r1 M2 => ?_)
  refine tj_lstore (pc := 5) G (fun x3 => [(5, vL x3), (0, vR X 0), (1, vL a1), (3, vL a2)]) dX11_entersFraction_5 (by decide) (fun _ => rfl) (fun x3 => ?_)
  refine tj_aload_n (pc := 7) G 1 dX11_entersFraction_7 rfl rfl ?_
  refine tj_iconst (pc := 8) G dX11_entersFraction_8 ?_
  refine tj_putI (pc := 9) G (k := 0) (j := 1) (j2 := 1) tk_X11 (by decide) lm_0 rfl (by decide) rfl fl_X11_15 rfl rfl dX11_entersFraction_9 (fun M4 => ?_)
  refine tj_aload_n (pc := 12) G 1 dX11_entersFraction_12 rfl rfl ?_
  refine tj_lload_n (pc := 13) G 2 dX11_entersFraction_13 rfl rfl ?_
  refine tj_lload (pc := 14) G 0 dX11_entersFraction_14 rfl ?_
  refine tj_ldiv (pc := 16) G (b2 := w64 x3) dX11_entersFraction_16 rfl ?_
  refine tj_callVv (pc := 17) G [vL (x_ldiv a1 x3)] mf_X11_enters (k := 0) (by decide) lm_0 rfl rfl ml_X11_18 (by decide) rfl rfl (Nat.le_of_ble_eq_true rfl) (fun _ h9 => ok_X11_enters X  h9) dX11_entersFraction_17 (fun r5 M6 => ?_)
  refine tj_aload_n (pc := 20) G 1 dX11_entersFraction_20 rfl rfl ?_
  refine tj_lload_n (pc := 21) G 3 dX11_entersFraction_21 rfl rfl ?_
  refine tj_lload (pc := 22) G 0 dX11_entersFraction_22 rfl ?_
  refine tj_ldiv (pc := 24) G (b2 := w64 x3) dX11_entersFraction_24 rfl ?_
  refine tj_callVv (pc := 25) G [vL (x_ldiv a2 x3)] mf_X11_enters (k := 0) (by decide) lm_0 rfl rfl ml_X11_18 (by decide) rfl rfl (Nat.le_of_ble_eq_true rfl) (fun _ h9 => ok_X11_enters X  h9) dX11_entersFraction_25 (fun r7 M8 => ?_)
  refine tj_iconst (pc := 28) G dX11_entersFraction_28 ?_
  exact tj_iret (pc := 29) G dX11_entersFraction_29

def fx_X11_readsRule   (M : tp_M) : tp_O :=
(tp_bd (fx_X11_begins 40 M) (fun r1 M2 =>
(tp_lt r1 (fun x3 =>
(tp_lm (tp_up M2 0 19 0) (fun M4 =>
(tp_jn1 (fun y5 M6 => 
(tp_lt y5 (fun x7 =>
(tp_bd (fx_X11_faultOf x3 40 x7 M6) (fun r8 M9 =>
(some (r8, M9))))))) (fun jk29 =>
(tp_jn0 (fun M10 => 
(jk29 1 M10)) (fun jk24 =>
(if w32 x3 = 0 then
(jk24 M4)
else
(tp_bd (fx_X11_readsRank 0 M4) (fun r11 M12 =>
(if w32 r11 = 0 then
(jk29 0 M12)
else
(jk24 M12)))))))))))))))
set_option maxRecDepth 100000 in
set_option maxHeartbeats 4000000 in
theorem ok_X11_readsRule (X : tp_X) (hSX : tp_SX X 34)    {M : tp_M} {res : Int × tp_M} (h : fx_X11_readsRule   M = some res) : tp_Ret X LM 34 1 yX11_readsRule (Cond.code yX11_readsRule cX11_readsRule 3 (some .int)) 106 [vR X 0] M res := by
  refine tp_ofW (by decide +kernel) rfl rfl (by show _ ≤ 3; exact Nat.le_of_ble_eq_true rfl) h (fun Y G => ?_)
  show tp_J X Y LM 34 3 106 1 (fx_X11_readsRule   M) M [(0, vR X 0)] [] 0
  unfold fx_X11_readsRule
  refine tj_aload_n (pc := 0) G 0 dX11_readsRule_0 rfl rfl ?_
  refine tj_bipush (pc := 1) G dX11_readsRule_1 rfl ?_
  refine tj_callVi (pc := 3) G [vI 40] mf_X11_begins (k := 0) (by decide) lm_0 rfl rfl ml_X11_187 (by decide) rfl rfl (Nat.le_of_ble_eq_true rfl) (fun _ h9 => ok_X11_begins X  h9) dX11_readsRule_3 (fun r1 M2 => ?_)
  refine tj_istore_n (pc := 6) G (fun x3 => [(1, vI x3), (0, vR X 0)]) dX11_readsRule_6 rfl (by decide) (fun _ => rfl) (fun x3 => ?_)
  refine tj_aload_n (pc := 7) G 1 dX11_readsRule_7 rfl rfl ?_
  refine tj_iconst (pc := 8) G dX11_readsRule_8 ?_
  refine tj_putI (pc := 9) G (k := 0) (j := 19) (j2 := 19) tk_X11 (by decide) lm_0 rfl (by decide) rfl fl_X11_209 rfl rfl dX11_readsRule_9 (fun M4 => ?_)
  refine tj_iload_n (pc := 12) G 0 dX11_readsRule_12 rfl rfl ?_
  refine tj_jn1 (fun y5 => [(0, vR X 0), (1, vI x3)]) (fun y5 => [vI y5]) 29 (fun y5 M6 => ?_) (fun jk29 hj29 => ?_)
  · refine tj_istore_n (pc := 29) G (fun x7 => [(2, vI x7), (0, vR X 0), (1, vI x3)]) dX11_readsRule_29 rfl (by decide) (fun _ => rfl) (fun x7 => ?_)
    refine tj_aload_n (pc := 30) G 1 dX11_readsRule_30 rfl rfl ?_
    refine tj_iload_n (pc := 31) G 2 dX11_readsRule_31 rfl rfl ?_
    refine tj_bipush (pc := 32) G dX11_readsRule_32 rfl ?_
    refine tj_iload_n (pc := 34) G 0 dX11_readsRule_34 rfl rfl ?_
    refine tj_callVi (pc := 35) G [vI x3, vI 40, vI x7] mf_X11_faultOf (k := 0) (by decide) lm_0 rfl rfl ml_X11_237 (by decide) rfl rfl (Nat.le_of_ble_eq_true rfl) (fun _ h9 => ok_X11_faultOf X  h9) dX11_readsRule_35 (fun r8 M9 => ?_)
    exact tj_iret (pc := 38) G dX11_readsRule_38
  refine tj_jn0 [(0, vR X 0), (1, vI x3)] [] 24 (fun M10 => ?_) (fun jk24 hj24 => ?_)
  · refine tj_iconst (pc := 24) G dX11_readsRule_24 ?_
    refine tj_goto (pc := 25) G (tgt := 29) dX11_readsRule_25 (by decide) ?_
    exact tj_sub [0, 1] rfl (hj29 1 M10)
  refine tj_if_eq (pc := 13) G (tgt := 24) (a2 := w32 x3) dX11_readsRule_13 (by decide) rfl ?_ ?_
  · exact tj_sub [1, 0] rfl (hj24  M4)
  refine tj_aload_n (pc := 16) G 1 dX11_readsRule_16 rfl rfl ?_
  refine tj_iconst (pc := 17) G dX11_readsRule_17 ?_
  refine tj_callVi (pc := 18) G [vI 0] mf_X11_readsRank (k := 0) (by decide) lm_0 rfl rfl ml_X11_228 (by decide) rfl rfl (Nat.le_of_ble_eq_true rfl) (fun _ h9 => ok_X11_readsRank X hSX  h9) dX11_readsRule_18 (fun r11 M12 => ?_)
  refine tj_if_eq (pc := 21) G (tgt := 28) (a2 := w32 r11) dX11_readsRule_21 (by decide) rfl ?_ ?_
  · refine tj_iconst (pc := 28) G dX11_readsRule_28 ?_
    exact tj_sub [1, 0] rfl (hj29 0 M12)
  exact tj_sub [1, 0] rfl (hj24  M12)

def fx_X11_rule   (M : tp_M) : tp_O :=
(tp_lm (tp_up M 0 0 0) (fun M1 =>
(tp_bd (fx_X11_readsRule  M1) (fun r2 M3 =>
(tp_lt r2 (fun x4 =>
(if w32 x4 = 0 then
(tp_bd (fx_X11_laysCode 10 80 (M3 0 19) M3) (fun r5 M6 =>
(some (x4, M6))))
else
(some (x4, M3)))))))))
set_option maxRecDepth 100000 in
set_option maxHeartbeats 4000000 in
theorem ok_X11_rule (X : tp_X) (hSX : tp_SX X 34)    {M : tp_M} {res : Int × tp_M} (h : fx_X11_rule   M = some res) : tp_Ret X LM 34 1 yX11_rule (Cond.code yX11_rule cX11_rule 2 (some .int)) 107 [vR X 0] M res := by
  refine tp_ofW (by decide +kernel) rfl rfl (by show _ ≤ 2; exact Nat.le_of_ble_eq_true rfl) h (fun Y G => ?_)
  show tp_J X Y LM 34 2 107 1 (fx_X11_rule   M) M [(0, vR X 0)] [] 0
  unfold fx_X11_rule
  refine tj_aload_n (pc := 0) G 0 dX11_rule_0 rfl rfl ?_
  refine tj_iconst (pc := 1) G dX11_rule_1 ?_
  refine tj_putI (pc := 2) G (k := 0) (j := 0) (j2 := 0) tk_X11 (by decide) lm_0 rfl (by decide) rfl fl_X11_3 rfl rfl dX11_rule_2 (fun M1 => ?_)
  refine tj_aload_n (pc := 5) G 0 dX11_rule_5 rfl rfl ?_
  refine tj_callVi (pc := 6) G [] mf_X11_readsRule (k := 0) (by decide) lm_0 rfl rfl ml_X11_244 (by decide) rfl rfl (Nat.le_of_ble_eq_true rfl) (fun _ h9 => ok_X11_readsRule X hSX  h9) dX11_rule_6 (fun r2 M3 => ?_)
  refine tj_istore_n (pc := 9) G (fun x4 => [(1, vI x4), (0, vR X 0)]) dX11_rule_9 rfl (by decide) (fun _ => rfl) (fun x4 => ?_)
  refine tj_iload_n (pc := 10) G 0 dX11_rule_10 rfl rfl ?_
  refine tj_if_ne (pc := 11) G (tgt := 26) (a2 := w32 x4) dX11_rule_11 (by decide) rfl ?_ ?_
  · refine tj_iload_n (pc := 26) G 0 dX11_rule_26 rfl rfl ?_
    exact tj_iret (pc := 27) G dX11_rule_27
  refine tj_aload_n (pc := 14) G 1 dX11_rule_14 rfl rfl ?_
  refine tj_aload_n (pc := 15) G 1 dX11_rule_15 rfl rfl ?_
  refine tj_getR (pc := 16) G (k := 0) (j := 17) (j2 := 17) tk_X11 (by decide) lm_0 rfl (by decide) rfl fl_X11_56 dX11_rule_16 ?_
  refine tj_aload_n (pc := 19) G 1 dX11_rule_19 rfl rfl ?_
  refine tj_getI (pc := 20) G (k := 0) (j := 19) (j2 := 19) tk_X11 (by decide) lm_0 rfl (by decide) rfl fl_X11_209 dX11_rule_20 ?_
  refine tj_callVv (pc := 23) G [vR X 10, vI (M3 0 19)] mf_X11_laysCode (k := 0) (by decide) lm_0 rfl rfl ml_X11_247 (by decide) rfl rfl (Nat.le_of_ble_eq_true rfl) (fun _ h9 => ok_X11_laysCode X ⟨by decide, lm_10⟩ h9) dX11_rule_23 (fun r5 M6 => ?_)
  refine tj_iload_n (pc := 26) G 0 dX11_rule_26 rfl rfl ?_
  exact tj_iret (pc := 27) G dX11_rule_27

def fx_X11_readsAct   (M : tp_M) : tp_O :=
(tp_lt (M 0 30) (fun x1 =>
(tp_bd (fx_X11_takesOf 0 M) (fun r2 M3 =>
(tp_ck (w32 x1) 60 (tp_lm (tp_up M3 16 (w32 x1) r2) (fun M4 =>
(tp_lm (tp_up M4 0 30 ((M4 0 30) + 1)) (fun M5 =>
(tp_ck (w32 x1) 60 (if w32 (M5 16 (w32 x1)) ≤ 0 then
(tp_ck (w32 x1) 60 (if w32 (M5 16 (w32 x1)) = 0 then
(some (1, M5))
else
(some (0, M5))))
else
(tp_bd (fx_X11_number 1 M5) (fun r6 M7 =>
(tp_ck (w32 x1) 60 (tp_lm (tp_up M7 17 (w32 x1) r6) (fun M8 =>
(tp_ck (w32 x1) 60 (tp_jn0 (fun M9 => 
(tp_ck (w32 x1) 60 (if w32 (M9 17 (w32 x1)) < 0 then
(some (0, M9))
else
(some (1, M9))))) (fun jk82 =>
(if w32 (M8 17 (w32 x1)) < 0 then
(jk82 M8)
else
(tp_ck (w32 x1) 60 (if w32 (M8 16 (w32 x1)) < 4 then
(jk82 M8)
else
(tp_ck (w32 x1) 60 (tp_jn1 (fun y10 M11 => 
(tp_ck (w32 x1) 60 (tp_lm (tp_up M11 18 (w32 x1) y10) (fun M12 =>
(tp_ck (w32 x1) 60 (if w32 (M12 18 (w32 x1)) < 0 then
(some (0, M12))
else
(some (1, M12)))))))) (fun jk128 =>
(if w32 (M8 16 (w32 x1)) = 4 then
(tp_bd (fx_X11_digitIn 1 9 M8) (fun r15 M16 =>
(jk128 r15 M16)))
else
(tp_bd (fx_X11_digitIn 0 3 M8) (fun r13 M14 =>
(jk128 r13 M14)))))))))))))))))))))))))))))
set_option maxRecDepth 100000 in
set_option maxHeartbeats 4000000 in
theorem ok_X11_readsAct (X : tp_X) (hSX : tp_SX X 34)    {M : tp_M} {res : Int × tp_M} (h : fx_X11_readsAct   M = some res) : tp_Ret X LM 34 1 yX11_readsAct (Cond.code yX11_readsAct cX11_readsAct 2 (some .boolean)) 6 [vR X 0] M res := by
  refine tp_ofW (by decide +kernel) rfl rfl (by show _ ≤ 2; exact Nat.le_of_ble_eq_true rfl) h (fun Y G => ?_)
  show tp_J X Y LM 34 2 6 1 (fx_X11_readsAct   M) M [(0, vR X 0)] [] 0
  unfold fx_X11_readsAct
  refine tj_aload_n (pc := 0) G 0 dX11_readsAct_0 rfl rfl ?_
  refine tj_getI (pc := 1) G (k := 0) (j := 30) (j2 := 30) tk_X11 (by decide) lm_0 rfl (by decide) rfl fl_X11_345 dX11_readsAct_1 ?_
  refine tj_istore_n (pc := 4) G (fun x1 => [(1, vI x1), (0, vR X 0)]) dX11_readsAct_4 rfl (by decide) (fun _ => rfl) (fun x1 => ?_)
  refine tj_aload_n (pc := 5) G 1 dX11_readsAct_5 rfl rfl ?_
  refine tj_getR (pc := 6) G (k := 0) (j := 27) (j2 := 27) tk_X11 (by decide) lm_0 rfl (by decide) rfl fl_X11_74 dX11_readsAct_6 ?_
  refine tj_iload_n (pc := 9) G 0 dX11_readsAct_9 rfl rfl ?_
  refine tj_aload_n (pc := 10) G 1 dX11_readsAct_10 rfl rfl ?_
  refine tj_ldcSw (pc := 11) G (s0 := 0) (fun U hU => (hSX U hU).2.2.2.1) dX11_readsAct_11 ?_
  refine tj_callVi (pc := 14) G [vS X 0] mf_X11_takesOf (k := 0) (by decide) lm_0 rfl rfl ml_X11_224 (by decide) rfl rfl (Nat.le_of_ble_eq_true rfl) (fun _ h9 => ok_X11_takesOf X hSX (by decide) h9) dX11_readsAct_14 (fun r2 M3 => ?_)
  refine tj_iast (pc := 17) G (k := 16) (i2 := w32 x1) (n2 := 60) (by decide) lm_16 rfl rfl dX11_readsAct_17 (fun M4 => ?_)
  refine tj_aload_n (pc := 18) G 1 dX11_readsAct_18 rfl rfl ?_
  refine tj_dup (pc := 19) G dX11_readsAct_19 rfl ?_
  refine tj_getI (pc := 20) G (k := 0) (j := 30) (j2 := 30) tk_X11 (by decide) lm_0 rfl (by decide) rfl fl_X11_345 dX11_readsAct_20 ?_
  refine tj_iconst (pc := 23) G dX11_readsAct_23 ?_
  refine tj_iadd (pc := 24) G dX11_readsAct_24 ?_
  refine tj_putI (pc := 25) G (k := 0) (j := 30) (j2 := 30) tk_X11 (by decide) lm_0 rfl (by decide) rfl fl_X11_345 rfl rfl dX11_readsAct_25 (fun M5 => ?_)
  refine tj_aload_n (pc := 28) G 1 dX11_readsAct_28 rfl rfl ?_
  refine tj_getR (pc := 29) G (k := 0) (j := 27) (j2 := 27) tk_X11 (by decide) lm_0 rfl (by decide) rfl fl_X11_74 dX11_readsAct_29 ?_
  refine tj_iload_n (pc := 32) G 0 dX11_readsAct_32 rfl rfl ?_
  refine tj_iald (pc := 33) G (k := 16) (i2 := w32 x1) (n2 := 60) (by decide) lm_16 rfl rfl dX11_readsAct_33 ?_
  refine tj_if_gt (pc := 34) G (tgt := 52) (a2 := w32 (M5 16 (w32 x1))) dX11_readsAct_34 (by decide) rfl ?_ ?_
  · refine tj_aload_n (pc := 52) G 1 dX11_readsAct_52 rfl rfl ?_
    refine tj_getR (pc := 53) G (k := 0) (j := 28) (j2 := 28) tk_X11 (by decide) lm_0 rfl (by decide) rfl fl_X11_77 dX11_readsAct_53 ?_
    refine tj_iload_n (pc := 56) G 0 dX11_readsAct_56 rfl rfl ?_
    refine tj_aload_n (pc := 57) G 1 dX11_readsAct_57 rfl rfl ?_
    refine tj_iconst (pc := 58) G dX11_readsAct_58 ?_
    refine tj_callVi (pc := 59) G [vI 1] mf_X11_number (k := 0) (by decide) lm_0 rfl rfl ml_X11_219 (by decide) rfl rfl (Nat.le_of_ble_eq_true rfl) (fun _ h9 => ok_X11_number X  h9) dX11_readsAct_59 (fun r6 M7 => ?_)
    refine tj_iast (pc := 62) G (k := 17) (i2 := w32 x1) (n2 := 60) (by decide) lm_17 rfl rfl dX11_readsAct_62 (fun M8 => ?_)
    refine tj_aload_n (pc := 63) G 1 dX11_readsAct_63 rfl rfl ?_
    refine tj_getR (pc := 64) G (k := 0) (j := 28) (j2 := 28) tk_X11 (by decide) lm_0 rfl (by decide) rfl fl_X11_77 dX11_readsAct_64 ?_
    refine tj_iload_n (pc := 67) G 0 dX11_readsAct_67 rfl rfl ?_
    refine tj_iald (pc := 68) G (k := 17) (i2 := w32 x1) (n2 := 60) (by decide) lm_17 rfl rfl dX11_readsAct_68 ?_
    refine tj_jn0 [(0, vR X 0), (1, vI x1)] [] 82 (fun M9 => ?_) (fun jk82 hj82 => ?_)
    · refine tj_aload_n (pc := 82) G 0 dX11_readsAct_82 rfl rfl ?_
      refine tj_getR (pc := 83) G (k := 0) (j := 28) (j2 := 28) tk_X11 (by decide) lm_0 rfl (by decide) rfl fl_X11_77 dX11_readsAct_83 ?_
      refine tj_iload_n (pc := 86) G 1 dX11_readsAct_86 rfl rfl ?_
      refine tj_iald (pc := 87) G (k := 17) (i2 := w32 x1) (n2 := 60) (by decide) lm_17 rfl rfl dX11_readsAct_87 ?_
      refine tj_if_lt (pc := 88) G (tgt := 95) (a2 := w32 (M9 17 (w32 x1))) dX11_readsAct_88 (by decide) rfl ?_ ?_
      · refine tj_iconst (pc := 95) G dX11_readsAct_95 ?_
        exact tj_zret (pc := 96) G (by decide) dX11_readsAct_96
      refine tj_iconst (pc := 91) G dX11_readsAct_91 ?_
      refine tj_goto (pc := 92) G (tgt := 96) dX11_readsAct_92 (by decide) ?_
      exact tj_zret (pc := 96) G (by decide) dX11_readsAct_96
    refine tj_if_lt (pc := 69) G (tgt := 82) (a2 := w32 (M8 17 (w32 x1))) dX11_readsAct_69 (by decide) rfl ?_ ?_
    · exact tj_sub [1, 0] rfl (hj82  M8)
    refine tj_aload_n (pc := 72) G 1 dX11_readsAct_72 rfl rfl ?_
    refine tj_getR (pc := 73) G (k := 0) (j := 27) (j2 := 27) tk_X11 (by decide) lm_0 rfl (by decide) rfl fl_X11_74 dX11_readsAct_73 ?_
    refine tj_iload_n (pc := 76) G 0 dX11_readsAct_76 rfl rfl ?_
    refine tj_iald (pc := 77) G (k := 16) (i2 := w32 x1) (n2 := 60) (by decide) lm_16 rfl rfl dX11_readsAct_77 ?_
    refine tj_iconst (pc := 78) G dX11_readsAct_78 ?_
    refine tj_icmp_ge (pc := 79) G (tgt := 97) (a2 := w32 (M8 16 (w32 x1))) (b2 := 4) dX11_readsAct_79 (by decide) rfl rfl ?_ ?_
    · refine tj_aload_n (pc := 97) G 1 dX11_readsAct_97 rfl rfl ?_
      refine tj_getR (pc := 98) G (k := 0) (j := 29) (j2 := 29) tk_X11 (by decide) lm_0 rfl (by decide) rfl fl_X11_80 dX11_readsAct_98 ?_
      refine tj_iload_n (pc := 101) G 0 dX11_readsAct_101 rfl rfl ?_
      refine tj_aload_n (pc := 102) G 1 dX11_readsAct_102 rfl rfl ?_
      refine tj_getR (pc := 103) G (k := 0) (j := 27) (j2 := 27) tk_X11 (by decide) lm_0 rfl (by decide) rfl fl_X11_74 dX11_readsAct_103 ?_
      refine tj_iload_n (pc := 106) G 0 dX11_readsAct_106 rfl rfl ?_
      refine tj_iald (pc := 107) G (k := 16) (i2 := w32 x1) (n2 := 60) (by decide) lm_16 rfl rfl dX11_readsAct_107 ?_
      refine tj_iconst (pc := 108) G dX11_readsAct_108 ?_
      refine tj_jn1 (fun y10 => [(0, vR X 0), (1, vI x1)]) (fun y10 => [vI y10, vI x1, vR X 18]) 128 (fun y10 M11 => ?_) (fun jk128 hj128 => ?_)
      · refine tj_iast (pc := 128) G (k := 18) (i2 := w32 x1) (n2 := 60) (by decide) lm_18 rfl rfl dX11_readsAct_128 (fun M12 => ?_)
        refine tj_aload_n (pc := 129) G 0 dX11_readsAct_129 rfl rfl ?_
        refine tj_getR (pc := 130) G (k := 0) (j := 29) (j2 := 29) tk_X11 (by decide) lm_0 rfl (by decide) rfl fl_X11_80 dX11_readsAct_130 ?_
        refine tj_iload_n (pc := 133) G 1 dX11_readsAct_133 rfl rfl ?_
        refine tj_iald (pc := 134) G (k := 18) (i2 := w32 x1) (n2 := 60) (by decide) lm_18 rfl rfl dX11_readsAct_134 ?_
        refine tj_if_lt (pc := 135) G (tgt := 142) (a2 := w32 (M12 18 (w32 x1))) dX11_readsAct_135 (by decide) rfl ?_ ?_
        · refine tj_iconst (pc := 142) G dX11_readsAct_142 ?_
          exact tj_zret (pc := 143) G (by decide) dX11_readsAct_143
        refine tj_iconst (pc := 138) G dX11_readsAct_138 ?_
        refine tj_goto (pc := 139) G (tgt := 143) dX11_readsAct_139 (by decide) ?_
        exact tj_zret (pc := 143) G (by decide) dX11_readsAct_143
      refine tj_icmp_ne (pc := 109) G (tgt := 122) (a2 := w32 (M8 16 (w32 x1))) (b2 := 4) dX11_readsAct_109 (by decide) rfl rfl ?_ ?_
      · refine tj_aload_n (pc := 122) G 1 dX11_readsAct_122 rfl rfl ?_
        refine tj_iconst (pc := 123) G dX11_readsAct_123 ?_
        refine tj_iconst (pc := 124) G dX11_readsAct_124 ?_
        refine tj_callVi (pc := 125) G [vI 0, vI 3] mf_X11_digitIn (k := 0) (by decide) lm_0 rfl rfl ml_X11_173 (by decide) rfl rfl (Nat.le_of_ble_eq_true rfl) (fun _ h9 => ok_X11_digitIn X  h9) dX11_readsAct_125 (fun r13 M14 => ?_)
        exact tj_sub [1, 0] rfl (hj128 r13 M14)
      refine tj_aload_n (pc := 112) G 1 dX11_readsAct_112 rfl rfl ?_
      refine tj_iconst (pc := 113) G dX11_readsAct_113 ?_
      refine tj_bipush (pc := 114) G dX11_readsAct_114 rfl ?_
      refine tj_callVi (pc := 116) G [vI 1, vI 9] mf_X11_digitIn (k := 0) (by decide) lm_0 rfl rfl ml_X11_173 (by decide) rfl rfl (Nat.le_of_ble_eq_true rfl) (fun _ h9 => ok_X11_digitIn X  h9) dX11_readsAct_116 (fun r15 M16 => ?_)
      refine tj_goto (pc := 119) G (tgt := 128) dX11_readsAct_119 (by decide) ?_
      exact tj_sub [1, 0] rfl (hj128 r15 M16)
    exact tj_sub [1, 0] rfl (hj82  M8)
  refine tj_aload_n (pc := 37) G 1 dX11_readsAct_37 rfl rfl ?_
  refine tj_getR (pc := 38) G (k := 0) (j := 27) (j2 := 27) tk_X11 (by decide) lm_0 rfl (by decide) rfl fl_X11_74 dX11_readsAct_38 ?_
  refine tj_iload_n (pc := 41) G 0 dX11_readsAct_41 rfl rfl ?_
  refine tj_iald (pc := 42) G (k := 16) (i2 := w32 x1) (n2 := 60) (by decide) lm_16 rfl rfl dX11_readsAct_42 ?_
  refine tj_if_ne (pc := 43) G (tgt := 50) (a2 := w32 (M5 16 (w32 x1))) dX11_readsAct_43 (by decide) rfl ?_ ?_
  · refine tj_iconst (pc := 50) G dX11_readsAct_50 ?_
    exact tj_zret (pc := 51) G (by decide) dX11_readsAct_51
  refine tj_iconst (pc := 46) G dX11_readsAct_46 ?_
  refine tj_goto (pc := 47) G (tgt := 51) dX11_readsAct_47 (by decide) ?_
  exact tj_zret (pc := 51) G (by decide) dX11_readsAct_51

def fx_X11_day_L19 (c1 : Int) (K42 : Int → tp_M → tp_O) (rec : Int → tp_M → tp_O) (z7 : Int) (M8 : tp_M) : tp_O :=
(if w32 z7 = 0 then
(K42 z7 M8)
else
(if w32 (M8 0 10) < w32 (M8 0 11) then
(tp_bd (fx_X11_readsAct  M8) (fun r10 M11 =>
(tp_lt r10 (fun x12 =>
(rec x12 M11)))))
else
(K42 z7 M8)))
def fx_X11_day_L64  (K88 : Int → tp_M → tp_O) (rec : Int → tp_M → tp_O) (z20 : Int) (M21 : tp_M) : tp_O :=
(if w32 z20 < w32 (M21 0 30) then
(tp_bd (fx_X11_does z20 M21) (fun r23 M24 =>
(if w32 r23 = 0 then
(K88 z20 M24)
else
(tp_lt (z20 + 1) (fun x25 =>
(rec x25 M24))))))
else
(K88 z20 M21))
def fx_X11_day   (M : tp_M) : tp_O :=
(tp_lm (tp_up M 0 0 0) (fun M1 =>
(tp_bd (fx_X11_begins 60 M1) (fun r2 M3 =>
(tp_lt r2 (fun x4 =>
(tp_lm (tp_up M3 0 30 0) (fun M5 =>
(tp_lt 1 (fun x6 =>
(tp_lp1 (fx_X11_day_L19 x4 (fun y9 M13 =>
(tp_bd (fx_X11_faultOf x4 60 y9 M13) (fun r14 M15 =>
(tp_lt r14 (fun x16 =>
(if w32 x16 < 0 then
(some (x16, M15))
else
(tp_bd (fx_X11_putsBy  M15) (fun r17 M18 =>
(tp_lt 0 (fun x19 =>
(tp_lp1 (fx_X11_day_L64  (fun y22 M26 =>
(tp_lm (tp_up M26 0 1 0) (fun M27 =>
(tp_jn1 (fun y28 M29 => 
(tp_bd (fx_X11_flag y28 M29) (fun r30 M31 =>
(tp_bd (fx_X11_enters (w32 r30) M31) (fun r32 M33 =>
(tp_bd (fx_X11_enters (w32 (M33 4 8)) M33) (fun r34 M35 =>
(if w32 y22 ≤ 0 then
(some (0, M35))
else
(tp_bd (fx_X11_adds y22 M35) (fun r36 M37 =>
(some (r36, M37)))))))))))) (fun jk108 =>
(if w32 y22 < w32 (M27 0 30) then
(jk108 1 M27)
else
(jk108 0 M27)))))))) tp_F x19 M18)))))))))))) tp_F x6 M5)))))))))))
set_option maxRecDepth 100000 in
set_option maxHeartbeats 4000000 in
theorem fx_X11_day_L19_ok {X : tp_X} {Y : tp_Y} (G : tp_Ok X Y 34 cX11_day 5 RX11 (some .int)) (hSX : tp_SX X 34)  {c1 : Int} {K42 : Int → tp_M → tp_O}   (hK42 : ∀ (y9 : Int) (M9 : tp_M), tp_J X Y LM 34 5 9 1 (K42 y9 M9) M9 [(0, vR X 0), (1, vI c1), (2, vI y9)] [] 42) (n : Nat) : ∀ (z7 : Int) (M8 : tp_M), tp_J X Y LM 34 5 9 1 (tp_lp1 (fx_X11_day_L19  c1 K42) n z7 M8) M8 [(0, vR X 0), (1, vI c1), (2, vI z7)] [] 19 := by
  refine tp_lp1_ok (P := fun o z7 M8 => tp_J X Y LM 34 5 9 1 (o) M8 [(0, vR X 0), (1, vI c1), (2, vI z7)] [] 19) (fun z7 M8 => tj_none) (fun rec hrec z7 M8 => ?_) n
  unfold fx_X11_day_L19
  refine tj_iload_n (pc := 19) G 2 dX11_day_19 rfl rfl ?_
  refine tj_if_eq (pc := 20) G (tgt := 42) (a2 := w32 z7) dX11_day_20 (by decide) rfl ?_ ?_
  · exact tj_sub [0, 1, 2] rfl (hK42 z7 M8)
  refine tj_aload_n (pc := 23) G 0 dX11_day_23 rfl rfl ?_
  refine tj_getI (pc := 24) G (k := 0) (j := 10) (j2 := 10) tk_X11 (by decide) lm_0 rfl (by decide) rfl fl_X11_136 dX11_day_24 ?_
  refine tj_aload_n (pc := 27) G 0 dX11_day_27 rfl rfl ?_
  refine tj_getI (pc := 28) G (k := 0) (j := 11) (j2 := 11) tk_X11 (by decide) lm_0 rfl (by decide) rfl fl_X11_148 dX11_day_28 ?_
  refine tj_icmp_ge (pc := 31) G (tgt := 42) (a2 := w32 (M8 0 10)) (b2 := w32 (M8 0 11)) dX11_day_31 (by decide) rfl rfl ?_ ?_
  · exact tj_sub [0, 1, 2] rfl (hK42 z7 M8)
  refine tj_aload_n (pc := 34) G 0 dX11_day_34 rfl rfl ?_
  refine tj_callVi (pc := 35) G [] mf_X11_readsAct (k := 0) (by decide) lm_0 rfl rfl ml_X11_350 (by decide) rfl rfl (Nat.le_of_ble_eq_true rfl) (fun _ h9 => ok_X11_readsAct X hSX  h9) dX11_day_35 (fun r10 M11 => ?_)
  refine tj_istore_n (pc := 38) G (fun x12 => [(2, vI x12), (0, vR X 0), (1, vI c1)]) dX11_day_38 rfl (by decide) (fun _ => rfl) (fun x12 => ?_)
  refine tj_goto (pc := 39) G (tgt := 19) dX11_day_39 (by decide) ?_
  exact tj_sub [1, 2, 0] rfl (hrec x12 M11)
set_option maxRecDepth 100000 in
set_option maxHeartbeats 4000000 in
theorem fx_X11_day_L64_ok {X : tp_X} {Y : tp_Y} (G : tp_Ok X Y 34 cX11_day 5 RX11 (some .int)) (hSX : tp_SX X 34)  {K88 : Int → tp_M → tp_O}   (hK88 : ∀ (y22 : Int) (M9 : tp_M), tp_J X Y LM 34 5 9 1 (K88 y22 M9) M9 [(0, vR X 0), (4, vI y22)] [] 88) (n : Nat) : ∀ (z20 : Int) (M21 : tp_M), tp_J X Y LM 34 5 9 1 (tp_lp1 (fx_X11_day_L64   K88) n z20 M21) M21 [(0, vR X 0), (4, vI z20)] [] 64 := by
  refine tp_lp1_ok (P := fun o z20 M21 => tp_J X Y LM 34 5 9 1 (o) M21 [(0, vR X 0), (4, vI z20)] [] 64) (fun z20 M21 => tj_none) (fun rec hrec z20 M21 => ?_) n
  unfold fx_X11_day_L64
  refine tj_iload (pc := 64) G 1 dX11_day_64 rfl ?_
  refine tj_aload_n (pc := 66) G 0 dX11_day_66 rfl rfl ?_
  refine tj_getI (pc := 67) G (k := 0) (j := 30) (j2 := 30) tk_X11 (by decide) lm_0 rfl (by decide) rfl fl_X11_345 dX11_day_67 ?_
  refine tj_icmp_ge (pc := 70) G (tgt := 88) (a2 := w32 z20) (b2 := w32 (M21 0 30)) dX11_day_70 (by decide) rfl rfl ?_ ?_
  · exact tj_sub [0, 1] rfl (hK88 z20 M21)
  refine tj_aload_n (pc := 73) G 0 dX11_day_73 rfl rfl ?_
  refine tj_iload (pc := 74) G 1 dX11_day_74 rfl ?_
  refine tj_callVi (pc := 76) G [vI z20] mf_X11_does (k := 0) (by decide) lm_0 rfl rfl ml_X11_353 (by decide) rfl rfl (Nat.le_of_ble_eq_true rfl) (fun _ h9 => ok_X11_does X  h9) dX11_day_76 (fun r23 M24 => ?_)
  refine tj_if_eq (pc := 79) G (tgt := 88) (a2 := w32 r23) dX11_day_79 (by decide) rfl ?_ ?_
  · exact tj_sub [0, 1] rfl (hK88 z20 M24)
  refine tj_iinc (pc := 82) G 1 (fun x25 => [(4, vI x25), (0, vR X 0)]) dX11_day_82 rfl (by decide) (fun _ => rfl) (fun x25 => ?_)
  refine tj_goto (pc := 85) G (tgt := 64) dX11_day_85 (by decide) ?_
  exact tj_sub [1, 0] rfl (hrec x25 M24)
set_option maxRecDepth 100000 in
set_option maxHeartbeats 4000000 in
theorem ok_X11_day (X : tp_X) (hSX : tp_SX X 34)    {M : tp_M} {res : Int × tp_M} (h : fx_X11_day   M = some res) : tp_Ret X LM 34 1 yX11_day (Cond.code yX11_day cX11_day 5 (some .int)) 9 [vR X 0] M res := by
  refine tp_ofW (by decide +kernel) rfl rfl (by show _ ≤ 5; exact Nat.le_of_ble_eq_true rfl) h (fun Y G => ?_)
  show tp_J X Y LM 34 5 9 1 (fx_X11_day   M) M [(0, vR X 0)] [] 0
  unfold fx_X11_day
  refine tj_aload_n (pc := 0) G 0 dX11_day_0 rfl rfl ?_
  refine tj_iconst (pc := 1) G dX11_day_1 ?_
  refine tj_putI (pc := 2) G (k := 0) (j := 0) (j2 := 0) tk_X11 (by decide) lm_0 rfl (by decide) rfl fl_X11_3 rfl rfl dX11_day_2 (fun M1 => ?_)
  refine tj_aload_n (pc := 5) G 0 dX11_day_5 rfl rfl ?_
  refine tj_bipush (pc := 6) G dX11_day_6 rfl ?_
  refine tj_callVi (pc := 8) G [vI 60] mf_X11_begins (k := 0) (by decide) lm_0 rfl rfl ml_X11_187 (by decide) rfl rfl (Nat.le_of_ble_eq_true rfl) (fun _ h9 => ok_X11_begins X  h9) dX11_day_8 (fun r2 M3 => ?_)
  refine tj_istore_n (pc := 11) G (fun x4 => [(1, vI x4), (0, vR X 0)]) dX11_day_11 rfl (by decide) (fun _ => rfl) (fun x4 => ?_)
  refine tj_aload_n (pc := 12) G 1 dX11_day_12 rfl rfl ?_
  refine tj_iconst (pc := 13) G dX11_day_13 ?_
  refine tj_putI (pc := 14) G (k := 0) (j := 30) (j2 := 30) tk_X11 (by decide) lm_0 rfl (by decide) rfl fl_X11_345 rfl rfl dX11_day_14 (fun M5 => ?_)
  refine tj_iconst (pc := 17) G dX11_day_17 ?_
  refine tj_istore_n (pc := 18) G (fun x6 => [(2, vI x6), (1, vI x4), (0, vR X 0)]) dX11_day_18 rfl (by decide) (fun _ => rfl) (fun x6 => ?_)
  refine tj_sub [2, 1, 0] rfl (fx_X11_day_L19_ok G hSX   (fun y9 M13 => ?_) tp_F x6 M5)
  refine tj_aload_n (pc := 42) G 0 dX11_day_42 rfl rfl ?_
  refine tj_iload_n (pc := 43) G 1 dX11_day_43 rfl rfl ?_
  refine tj_bipush (pc := 44) G dX11_day_44 rfl ?_
  refine tj_iload_n (pc := 46) G 2 dX11_day_46 rfl rfl ?_
  refine tj_callVi (pc := 47) G [vI x4, vI 60, vI y9] mf_X11_faultOf (k := 0) (by decide) lm_0 rfl rfl ml_X11_237 (by decide) rfl rfl (Nat.le_of_ble_eq_true rfl) (fun _ h9 => ok_X11_faultOf X  h9) dX11_day_47 (fun r14 M15 => ?_)
  refine tj_istore_n (pc := 50) G (fun x16 => [(3, vI x16), (0, vR X 0), (1, vI x4), (2, vI y9)]) dX11_day_50 rfl (by decide) (fun _ => rfl) (fun x16 => ?_)
  refine tj_iload_n (pc := 51) G 0 dX11_day_51 rfl rfl ?_
  refine tj_if_ge (pc := 52) G (tgt := 57) (a2 := w32 x16) dX11_day_52 (by decide) rfl ?_ ?_
  · refine tj_aload_n (pc := 57) G 1 dX11_day_57 rfl rfl ?_
    refine tj_callVv (pc := 58) G [] mf_X11_putsBy (k := 0) (by decide) lm_0 rfl rfl ml_X11_320 (by decide) rfl rfl (Nat.le_of_ble_eq_true rfl) (fun _ h9 => ok_X11_putsBy X  h9) dX11_day_58 (fun r17 M18 => ?_)
    refine tj_iconst (pc := 61) G dX11_day_61 ?_
    refine tj_istore (pc := 62) G (fun x19 => [(4, vI x19), (3, vI x16), (0, vR X 0), (1, vI x4), (2, vI y9)]) dX11_day_62 (by decide) (fun _ => rfl) (fun x19 => ?_)
    refine tj_sub [2, 0] rfl (fx_X11_day_L64_ok G hSX   (fun y22 M26 => ?_) tp_F x19 M18)
    refine tj_aload_n (pc := 88) G 0 dX11_day_88 rfl rfl ?_
    refine tj_iconst (pc := 89) G dX11_day_89 ?_
    refine tj_putI (pc := 90) G (k := 0) (j := 1) (j2 := 1) tk_X11 (by decide) lm_0 rfl (by decide) rfl fl_X11_15 rfl rfl dX11_day_90 (fun M27 => ?_)
    refine tj_aload_n (pc := 93) G 0 dX11_day_93 rfl rfl ?_
    refine tj_iload (pc := 94) G 1 dX11_day_94 rfl ?_
    refine tj_aload_n (pc := 96) G 0 dX11_day_96 rfl rfl ?_
    refine tj_getI (pc := 97) G (k := 0) (j := 30) (j2 := 30) tk_X11 (by decide) lm_0 rfl (by decide) rfl fl_X11_345 dX11_day_97 ?_
    refine tj_jn1 (fun y28 => [(0, vR X 0), (4, vI y22)]) (fun y28 => [vI y28, vR X 0]) 108 (fun y28 M29 => ?_) (fun jk108 hj108 => ?_)
    · refine tj_callSi (pc := 108) G [vI y28] mf_X11_flag ml_X11_151 (by decide) rfl rfl (Nat.le_of_ble_eq_true rfl) (fun _ h9 => ok_X11_flag X  h9) dX11_day_108 (fun r30 M31 => ?_)
      refine tj_i2l (pc := 111) G (b := w32 r30) dX11_day_111 rfl ?_
      refine tj_callVv (pc := 112) G [vL (w32 r30)] mf_X11_enters (k := 0) (by decide) lm_0 rfl rfl ml_X11_18 (by decide) rfl rfl (Nat.le_of_ble_eq_true rfl) (fun _ h9 => ok_X11_enters X  h9) dX11_day_112 (fun r32 M33 => ?_)
      refine tj_aload_n (pc := 115) G 0 dX11_day_115 rfl rfl ?_
      refine tj_aload_n (pc := 116) G 0 dX11_day_116 rfl rfl ?_
      refine tj_getR (pc := 117) G (k := 0) (j := 6) (j2 := 6) tk_X11 (by decide) lm_0 rfl (by decide) rfl fl_X11_38 dX11_day_117 ?_
      refine tj_bipush (pc := 120) G dX11_day_120 rfl ?_
      refine tj_iald1 (pc := 122) G (k := 4) (i2 := 8) (n2 := 0) (by decide) lm_4 rfl (by decide) dX11_day_122 ?_
      refine tj_i2l (pc := 123) G (b := w32 (M33 4 8)) dX11_day_123 rfl ?_
      refine tj_callVv (pc := 124) G [vL (w32 (M33 4 8))] mf_X11_enters (k := 0) (by decide) lm_0 rfl rfl ml_X11_18 (by decide) rfl rfl (Nat.le_of_ble_eq_true rfl) (fun _ h9 => ok_X11_enters X  h9) dX11_day_124 (fun r34 M35 => ?_)
      refine tj_iload (pc := 127) G 1 dX11_day_127 rfl ?_
      refine tj_if_le (pc := 129) G (tgt := 141) (a2 := w32 y22) dX11_day_129 (by decide) rfl ?_ ?_
      · refine tj_iconst (pc := 141) G dX11_day_141 ?_
        exact tj_iret (pc := 142) G dX11_day_142
      refine tj_aload_n (pc := 132) G 0 dX11_day_132 rfl rfl ?_
      refine tj_iload (pc := 133) G 1 dX11_day_133 rfl ?_
      refine tj_callVi (pc := 135) G [vI y22] mf_X11_adds (k := 0) (by decide) lm_0 rfl rfl ml_X11_289 (by decide) rfl rfl (Nat.le_of_ble_eq_true rfl) (fun _ h9 => ok_X11_adds X  h9) dX11_day_135 (fun r36 M37 => ?_)
      refine tj_goto (pc := 138) G (tgt := 142) dX11_day_138 (by decide) ?_
      exact tj_iret (pc := 142) G dX11_day_142
    refine tj_icmp_ge (pc := 100) G (tgt := 107) (a2 := w32 y22) (b2 := w32 (M27 0 30)) dX11_day_100 (by decide) rfl rfl ?_ ?_
    · refine tj_iconst (pc := 107) G dX11_day_107 ?_
      exact tj_sub [0, 1] rfl (hj108 0 M27)
    refine tj_iconst (pc := 103) G dX11_day_103 ?_
    refine tj_goto (pc := 104) G (tgt := 108) dX11_day_104 (by decide) ?_
    exact tj_sub [0, 1] rfl (hj108 1 M27)
  refine tj_iload_n (pc := 55) G 0 dX11_day_55 rfl rfl ?_
  exact tj_iret (pc := 56) G dX11_day_56

def fx_X11_mean_L33 (c1 : Int) (c2 : Int) (K86 : tp_M → tp_O) (rec : Int → tp_M → tp_O) (z12 : Int) (M13 : tp_M) : tp_O :=
(if w32 z12 < 8 then
(tp_bd (fx_X11_cellOf z12 c1 M13) (fun r14 M15 =>
(tp_bd (fx_X11_in (w32 z12) 1 (w32 ((M15 0 3) - 1)) M15) (fun r16 M17 =>
(tp_jn1 (fun y18 M19 => 
(tp_ck (w32 r14) 64 (tp_lm (tp_up M19 21 (w32 r14) y18) (fun M20 =>
(tp_lt (z12 + 1) (fun x21 =>
(rec x21 M20))))))) (fun jk79 =>
(if w32 r16 = 0 then
(jk79 0 M17)
else
(tp_ck (w32 z12) 8 (jk79 (w32 (M17 2 (w32 z12))) M17)))))))))
else
(K86 M13))
def fx_X11_mean  (a1 : Int) (M : tp_M) : tp_O :=
(tp_lm (tp_up M 0 0 0) (fun M1 =>
(tp_bd (fx_X11_isOut a1 M1) (fun r2 M3 =>
(if w32 r2 = 0 then
(some ((-1), M3))
else
(tp_bd (fx_X11_laysMatrix (-1) M3) (fun r4 M5 =>
(tp_bd (fx_X11_determinant  M5) (fun r6 M7 =>
(tp_lt r6 (fun x8 =>
(tp_bd (fx_X11_laysMatrix (-1) M7) (fun r9 M10 =>
(tp_lt 0 (fun x11 =>
(tp_lp1 (fx_X11_mean_L33 a1 x8 (fun M22 =>
(tp_bd (fx_X11_determinant  M22) (fun r23 M24 =>
(tp_lt r23 (fun x25 =>
(tp_bd (fx_X11_entersFraction x25 x8 M24) (fun r26 M27 =>
(tp_nz (w64 x8) (some (x_ldiv x25 x8, M27))))))))))) tp_F x11 M10))))))))))))))))
set_option maxRecDepth 100000 in
set_option maxHeartbeats 4000000 in
theorem fx_X11_mean_L33_ok {X : tp_X} {Y : tp_Y} (G : tp_Ok X Y 34 cX11_mean 6 RX11 (some .int))  {c1 : Int} {c2 : Int} {K86 : tp_M → tp_O}   (hK86 : ∀ (M9 : tp_M), tp_J X Y LM 34 6 202 1 (K86  M9) M9 [(0, vR X 0), (2, vL c2)] [] 86) (n : Nat) : ∀ (z12 : Int) (M13 : tp_M), tp_J X Y LM 34 6 202 1 (tp_lp1 (fx_X11_mean_L33  c1 c2 K86) n z12 M13) M13 [(0, vR X 0), (1, vI c1), (2, vL c2), (4, vI z12)] [] 33 := by
  refine tp_lp1_ok (P := fun o z12 M13 => tp_J X Y LM 34 6 202 1 (o) M13 [(0, vR X 0), (1, vI c1), (2, vL c2), (4, vI z12)] [] 33) (fun z12 M13 => tj_none) (fun rec hrec z12 M13 => ?_) n
  unfold fx_X11_mean_L33
  refine tj_iload (pc := 33) G 3 dX11_mean_33 rfl ?_
  refine tj_bipush (pc := 35) G dX11_mean_35 rfl ?_
  refine tj_icmp_ge (pc := 37) G (tgt := 86) (a2 := w32 z12) (b2 := 8) dX11_mean_37 (by decide) rfl rfl ?_ ?_
  · exact tj_sub [0, 2] rfl (hK86  M13)
  refine tj_aload_n (pc := 40) G 0 dX11_mean_40 rfl rfl ?_
  refine tj_getR (pc := 41) G (k := 0) (j := 35) (j2 := 35) tk_X11 (by decide) lm_0 rfl (by decide) rfl fl_X11_89 dX11_mean_41 ?_
  refine tj_iload (pc := 44) G 3 dX11_mean_44 rfl ?_
  refine tj_iload_n (pc := 46) G 1 dX11_mean_46 rfl rfl ?_
  refine tj_callSi (pc := 47) G [vI z12, vI c1] mf_X11_cellOf ml_X11_408 (by decide) rfl rfl (Nat.le_of_ble_eq_true rfl) (fun _ h9 => ok_X11_cellOf X  h9) dX11_mean_47 (fun r14 M15 => ?_)
  refine tj_iload (pc := 50) G 3 dX11_mean_50 rfl ?_
  refine tj_i2l (pc := 52) G (b := w32 z12) dX11_mean_52 rfl ?_
  refine tj_lconst (pc := 53) G (v := 1) dX11_mean_53 rfl ?_
  refine tj_aload_n (pc := 54) G 0 dX11_mean_54 rfl rfl ?_
  refine tj_getI (pc := 55) G (k := 0) (j := 3) (j2 := 3) tk_X11 (by decide) lm_0 rfl (by decide) rfl fl_X11_28 dX11_mean_55 ?_
  refine tj_iconst (pc := 58) G dX11_mean_58 ?_
  refine tj_isub (pc := 59) G dX11_mean_59 ?_
  refine tj_i2l (pc := 60) G (b := w32 ((M15 0 3) - 1)) dX11_mean_60 rfl ?_
  refine tj_callSi (pc := 61) G [vL (w32 z12), vL 1, vL (w32 ((M15 0 3) - 1))] mf_X11_in ml_X11_129 (by decide) rfl rfl (Nat.le_of_ble_eq_true rfl) (fun _ h9 => ok_X11_in X  h9) dX11_mean_61 (fun r16 M17 => ?_)
  refine tj_jn1 (fun y18 => [(0, vR X 0), (1, vI c1), (2, vL c2), (4, vI z12)]) (fun y18 => [vL y18, vI r14, vR X 21]) 79 (fun y18 M19 => ?_) (fun jk79 hj79 => ?_)
  · refine tj_last (pc := 79) G (k := 21) (i2 := w32 r14) (n2 := 64) (by decide) lm_21 rfl rfl dX11_mean_79 (fun M20 => ?_)
    refine tj_iinc (pc := 80) G 3 (fun x21 => [(4, vI x21), (0, vR X 0), (1, vI c1), (2, vL c2)]) dX11_mean_80 rfl (by decide) (fun _ => rfl) (fun x21 => ?_)
    refine tj_goto (pc := 83) G (tgt := 33) dX11_mean_83 (by decide) ?_
    exact tj_sub [1, 2, 3, 0] rfl (hrec x21 M20)
  refine tj_if_eq (pc := 64) G (tgt := 78) (a2 := w32 r16) dX11_mean_64 (by decide) rfl ?_ ?_
  · refine tj_lconst (pc := 78) G (v := 0) dX11_mean_78 rfl ?_
    exact tj_sub [0, 1, 2, 3] rfl (hj79 0 M17)
  refine tj_aload_n (pc := 67) G 0 dX11_mean_67 rfl rfl ?_
  refine tj_getR (pc := 68) G (k := 0) (j := 4) (j2 := 4) tk_X11 (by decide) lm_0 rfl (by decide) rfl fl_X11_31 dX11_mean_68 ?_
  refine tj_iload (pc := 71) G 3 dX11_mean_71 rfl ?_
  refine tj_iald (pc := 73) G (k := 2) (i2 := w32 z12) (n2 := 8) (by decide) lm_2 rfl rfl dX11_mean_73 ?_
  refine tj_i2l (pc := 74) G (b := w32 (M17 2 (w32 z12))) dX11_mean_74 rfl ?_
  refine tj_goto (pc := 75) G (tgt := 79) dX11_mean_75 (by decide) ?_
  exact tj_sub [0, 1, 2, 3] rfl (hj79 (w32 (M17 2 (w32 z12))) M17)
set_option maxRecDepth 100000 in
set_option maxHeartbeats 4000000 in
theorem ok_X11_mean (X : tp_X)  {a1 : Int}  {M : tp_M} {res : Int × tp_M} (h : fx_X11_mean  a1 M = some res) : tp_Ret X LM 34 1 yX11_mean (Cond.code yX11_mean cX11_mean 6 (some .int)) 202 [vR X 0, vI a1] M res := by
  refine tp_ofW (by decide +kernel) rfl rfl (by show _ ≤ 6; exact Nat.le_of_ble_eq_true rfl) h (fun Y G => ?_)
  show tp_J X Y LM 34 6 202 1 (fx_X11_mean  a1 M) M [(0, vR X 0), (1, vI a1)] [] 0
  unfold fx_X11_mean
  refine tj_aload_n (pc := 0) G 0 dX11_mean_0 rfl rfl ?_
  refine tj_iconst (pc := 1) G dX11_mean_1 ?_
  refine tj_putI (pc := 2) G (k := 0) (j := 0) (j2 := 0) tk_X11 (by decide) lm_0 rfl (by decide) rfl fl_X11_3 rfl rfl dX11_mean_2 (fun M1 => ?_)
  refine tj_aload_n (pc := 5) G 0 dX11_mean_5 rfl rfl ?_
  refine tj_iload_n (pc := 6) G 1 dX11_mean_6 rfl rfl ?_
  refine tj_callVi (pc := 7) G [vI a1] mf_X11_isOut (k := 0) (by decide) lm_0 rfl rfl ml_X11_280 (by decide) rfl rfl (Nat.le_of_ble_eq_true rfl) (fun _ h9 => ok_X11_isOut X  h9) dX11_mean_7 (fun r2 M3 => ?_)
  refine tj_if_ne (pc := 10) G (tgt := 15) (a2 := w32 r2) dX11_mean_10 (by decide) rfl ?_ ?_
  · refine tj_aload_n (pc := 15) G 0 dX11_mean_15 rfl rfl ?_
    refine tj_iconst (pc := 16) G dX11_mean_16 ?_
    refine tj_callVv (pc := 17) G [vI (-1)] mf_X11_laysMatrix (k := 0) (by decide) lm_0 rfl rfl ml_X11_417 (by decide) rfl rfl (Nat.le_of_ble_eq_true rfl) (fun _ h9 => ok_X11_laysMatrix X  h9) dX11_mean_17 (fun r4 M5 => ?_)
    refine tj_aload_n (pc := 20) G 0 dX11_mean_20 rfl rfl ?_
    refine tj_callVl (pc := 21) G [] mf_X11_determinant (k := 0) (by decide) lm_0 rfl rfl ml_X11_420 (by decide) rfl rfl (Nat.le_of_ble_eq_true rfl) (fun _ h9 => ok_X11_determinant X  h9) dX11_mean_21 (fun r6 M7 => ?_)
    refine tj_lstore_n (pc := 24) G (fun x8 => [(2, vL x8), (0, vR X 0), (1, vI a1)]) dX11_mean_24 rfl (by decide) (fun _ => rfl) (fun x8 => ?_)
    refine tj_aload_n (pc := 25) G 1 dX11_mean_25 rfl rfl ?_
    refine tj_iconst (pc := 26) G dX11_mean_26 ?_
    refine tj_callVv (pc := 27) G [vI (-1)] mf_X11_laysMatrix (k := 0) (by decide) lm_0 rfl rfl ml_X11_417 (by decide) rfl rfl (Nat.le_of_ble_eq_true rfl) (fun _ h9 => ok_X11_laysMatrix X  h9) dX11_mean_27 (fun r9 M10 => ?_)
    refine tj_iconst (pc := 30) G dX11_mean_30 ?_
    refine tj_istore (pc := 31) G (fun x11 => [(4, vI x11), (2, vL x8), (0, vR X 0), (1, vI a1)]) dX11_mean_31 (by decide) (fun _ => rfl) (fun x11 => ?_)
    refine tj_sub [2, 3, 1, 0] rfl (fx_X11_mean_L33_ok G    (fun M22 => ?_) tp_F x11 M10)
    refine tj_aload_n (pc := 86) G 0 dX11_mean_86 rfl rfl ?_
    refine tj_callVl (pc := 87) G [] mf_X11_determinant (k := 0) (by decide) lm_0 rfl rfl ml_X11_420 (by decide) rfl rfl (Nat.le_of_ble_eq_true rfl) (fun _ h9 => ok_X11_determinant X  h9) dX11_mean_87 (fun r23 M24 => ?_)
    refine tj_lstore (pc := 90) G (fun x25 => [(4, vL x25), (0, vR X 0), (2, vL x8)]) dX11_mean_90 (by decide) (fun _ => rfl) (fun x25 => ?_)
    refine tj_aload_n (pc := 92) G 1 dX11_mean_92 rfl rfl ?_
    refine tj_lload (pc := 93) G 0 dX11_mean_93 rfl ?_
    refine tj_lload_n (pc := 95) G 2 dX11_mean_95 rfl rfl ?_
    refine tj_callVi (pc := 96) G [vL x25, vL x8] mf_X11_entersFraction (k := 0) (by decide) lm_0 rfl rfl ml_X11_424 (by decide) rfl rfl (Nat.le_of_ble_eq_true rfl) (fun _ h9 => ok_X11_entersFraction X  h9) dX11_mean_96 (fun r26 M27 => ?_)
    refine tj_pop (pc := 99) G dX11_mean_99 rfl ?_
    refine tj_lload (pc := 100) G 0 dX11_mean_100 rfl ?_
    refine tj_lload_n (pc := 102) G 2 dX11_mean_102 rfl rfl ?_
    refine tj_ldiv (pc := 103) G (b2 := w64 x8) dX11_mean_103 rfl ?_
    refine tj_l2i (pc := 104) G dX11_mean_104 ?_
    exact tj_iret (pc := 105) G dX11_mean_105
  refine tj_iconst (pc := 13) G dX11_mean_13 ?_
  exact tj_iret (pc := 14) G dX11_mean_14

def fx_X11_meets_L75 (c1 : Int) (c2 : Int) (c3 : Int) (c5 : Int) (K148 : tp_M → tp_O) (rec : Int → tp_M → tp_O) (z20 : Int) (M21 : tp_M) : tp_O :=
(tp_ck (w32 c5) 8 (if w32 z20 < w32 (M21 2 (w32 c5)) then
(if w32 c5 ≤ 0 then
(K148 M21)
else
(if w32 c5 < w32 (M21 0 3) then
(if w32 c5 = w32 c2 then
(K148 M21)
else
(tp_bd (fx_X11_cellOf c5 c1 M21) (fun r22 M23 =>
(tp_ck (w32 r22) 64 (tp_bd (fx_X11_goalOf c5 z20 M23) (fun r24 M25 =>
(tp_jn1 (fun y26 M27 => 
(tp_bd (fx_X11_flag y26 M27) (fun r28 M29 =>
(tp_ck (w32 r22) 64 (tp_lm (tp_up M29 21 (w32 r22) ((M23 21 (w32 r22)) + (w32 r28))) (fun M30 =>
(tp_lt (z20 + 1) (fun x31 =>
(rec x31 M30))))))))) (fun jk136 =>
(if w32 r24 = w32 c2 then
(jk136 1 M25)
else
(jk136 0 M25))))))))))
else
(K148 M21)))
else
(K148 M21)))
def fx_X11_meets_L53 (c1 : Int) (c2 : Int) (c3 : Int) (K154 : tp_M → tp_O) (rec : Int → tp_M → tp_O) (z14 : Int) (M15 : tp_M) : tp_O :=
(if w32 z14 < 8 then
(tp_bd (fx_X11_cellOf z14 c1 M15) (fun r16 M17 =>
(tp_ck (w32 r16) 64 (tp_lm (tp_up M17 21 (w32 r16) 0) (fun M18 =>
(tp_lt 0 (fun x19 =>
(tp_lp1 (fx_X11_meets_L75 c1 c2 c3 z14 (fun M32 =>
(tp_lt (z14 + 1) (fun x33 =>
(rec x33 M32))))) tp_F x19 M18))))))))
else
(K154 M15))
def fx_X11_meets  (a1 : Int) (a2 : Int) (M : tp_M) : tp_O :=
(tp_lm (tp_up M 0 0 0) (fun M1 =>
(tp_bd (fx_X11_isOut a1 M1) (fun r2 M3 =>
(if w32 r2 = 0 then
(some ((-1), M3))
else
(tp_bd (fx_X11_isOut a2 M3) (fun r4 M5 =>
(if w32 r4 = 0 then
(some ((-1), M5))
else
(if w32 a1 = w32 a2 then
(tp_bd (fx_X11_entersFraction 1 1 M5) (fun r39 M40 =>
(some (r39, M40))))
else
(tp_bd (fx_X11_laysMatrix a2 M5) (fun r6 M7 =>
(tp_bd (fx_X11_determinant  M7) (fun r8 M9 =>
(tp_lt r8 (fun x10 =>
(tp_bd (fx_X11_laysMatrix a2 M9) (fun r11 M12 =>
(tp_lt 0 (fun x13 =>
(tp_lp1 (fx_X11_meets_L53 a1 a2 x10 (fun M34 =>
(tp_bd (fx_X11_determinant  M34) (fun r35 M36 =>
(tp_bd (fx_X11_entersFraction r35 x10 M36) (fun r37 M38 =>
(some (r37, M38)))))))) tp_F x13 M12))))))))))))))))))))
set_option maxRecDepth 100000 in
set_option maxHeartbeats 4000000 in
theorem fx_X11_meets_L75_ok {X : tp_X} {Y : tp_Y} (G : tp_Ok X Y 34 cX11_meets 7 RX11 (some .int))  {c1 : Int} {c2 : Int} {c3 : Int} {c5 : Int} {K148 : tp_M → tp_O}   (hK148 : ∀ (M9 : tp_M), tp_J X Y LM 34 7 202 1 (K148  M9) M9 [(0, vR X 0), (1, vI c1), (2, vI c2), (3, vL c3), (5, vI c5)] [] 148) (n : Nat) : ∀ (z20 : Int) (M21 : tp_M), tp_J X Y LM 34 7 202 1 (tp_lp1 (fx_X11_meets_L75  c1 c2 c3 c5 K148) n z20 M21) M21 [(0, vR X 0), (1, vI c1), (2, vI c2), (3, vL c3), (5, vI c5), (6, vI z20)] [] 75 := by
  refine tp_lp1_ok (P := fun o z20 M21 => tp_J X Y LM 34 7 202 1 (o) M21 [(0, vR X 0), (1, vI c1), (2, vI c2), (3, vL c3), (5, vI c5), (6, vI z20)] [] 75) (fun z20 M21 => tj_none) (fun rec hrec z20 M21 => ?_) n
  unfold fx_X11_meets_L75
  refine tj_iload (pc := 75) G 5 dX11_meets_75 rfl ?_
  refine tj_aload_n (pc := 77) G 0 dX11_meets_77 rfl rfl ?_
  refine tj_getR (pc := 78) G (k := 0) (j := 4) (j2 := 4) tk_X11 (by decide) lm_0 rfl (by decide) rfl fl_X11_31 dX11_meets_78 ?_
  refine tj_iload (pc := 81) G 4 dX11_meets_81 rfl ?_
  refine tj_iald (pc := 83) G (k := 2) (i2 := w32 c5) (n2 := 8) (by decide) lm_2 rfl rfl dX11_meets_83 ?_
  refine tj_icmp_ge (pc := 84) G (tgt := 148) (a2 := w32 z20) (b2 := w32 (M21 2 (w32 c5))) dX11_meets_84 (by decide) rfl rfl ?_ ?_
  · exact tj_sub [0, 1, 2, 3, 4] rfl (hK148  M21)
  refine tj_iload (pc := 87) G 4 dX11_meets_87 rfl ?_
  refine tj_if_le (pc := 89) G (tgt := 148) (a2 := w32 c5) dX11_meets_89 (by decide) rfl ?_ ?_
  · exact tj_sub [0, 1, 2, 3, 4] rfl (hK148  M21)
  refine tj_iload (pc := 92) G 4 dX11_meets_92 rfl ?_
  refine tj_aload_n (pc := 94) G 0 dX11_meets_94 rfl rfl ?_
  refine tj_getI (pc := 95) G (k := 0) (j := 3) (j2 := 3) tk_X11 (by decide) lm_0 rfl (by decide) rfl fl_X11_28 dX11_meets_95 ?_
  refine tj_icmp_ge (pc := 98) G (tgt := 148) (a2 := w32 c5) (b2 := w32 (M21 0 3)) dX11_meets_98 (by decide) rfl rfl ?_ ?_
  · exact tj_sub [0, 1, 2, 3, 4] rfl (hK148  M21)
  refine tj_iload (pc := 101) G 4 dX11_meets_101 rfl ?_
  refine tj_iload_n (pc := 103) G 2 dX11_meets_103 rfl rfl ?_
  refine tj_icmp_eq (pc := 104) G (tgt := 148) (a2 := w32 c5) (b2 := w32 c2) dX11_meets_104 (by decide) rfl rfl ?_ ?_
  · exact tj_sub [0, 1, 2, 3, 4] rfl (hK148  M21)
  refine tj_aload_n (pc := 107) G 0 dX11_meets_107 rfl rfl ?_
  refine tj_getR (pc := 108) G (k := 0) (j := 35) (j2 := 35) tk_X11 (by decide) lm_0 rfl (by decide) rfl fl_X11_89 dX11_meets_108 ?_
  refine tj_iload (pc := 111) G 4 dX11_meets_111 rfl ?_
  refine tj_iload_n (pc := 113) G 1 dX11_meets_113 rfl rfl ?_
  refine tj_callSi (pc := 114) G [vI c5, vI c1] mf_X11_cellOf ml_X11_408 (by decide) rfl rfl (Nat.le_of_ble_eq_true rfl) (fun _ h9 => ok_X11_cellOf X  h9) dX11_meets_114 (fun r22 M23 => ?_)
  refine tj_dup2 (pc := 117) G dX11_meets_117 rfl rfl ?_
  refine tj_lald (pc := 118) G (k := 21) (i2 := w32 r22) (n2 := 64) (by decide) lm_21 rfl rfl dX11_meets_118 ?_
  refine tj_aload_n (pc := 119) G 0 dX11_meets_119 rfl rfl ?_
  refine tj_iload (pc := 120) G 4 dX11_meets_120 rfl ?_
  refine tj_iload (pc := 122) G 5 dX11_meets_122 rfl ?_
  refine tj_callVi (pc := 124) G [vI c5, vI z20] mf_X11_goalOf (k := 0) (by decide) lm_0 rfl rfl ml_X11_255 (by decide) rfl rfl (Nat.le_of_ble_eq_true rfl) (fun _ h9 => ok_X11_goalOf X  h9) dX11_meets_124 (fun r24 M25 => ?_)
  refine tj_iload_n (pc := 127) G 2 dX11_meets_127 rfl rfl ?_
  refine tj_jn1 (fun y26 => [(0, vR X 0), (1, vI c1), (2, vI c2), (3, vL c3), (5, vI c5), (6, vI z20)]) (fun y26 => [vI y26, vL (M23 21 (w32 r22)), vI r22, vR X 21]) 136 (fun y26 M27 => ?_) (fun jk136 hj136 => ?_)
  · refine tj_callSi (pc := 136) G [vI y26] mf_X11_flag ml_X11_151 (by decide) rfl rfl (Nat.le_of_ble_eq_true rfl) (fun _ h9 => ok_X11_flag X  h9) dX11_meets_136 (fun r28 M29 => ?_)
    refine tj_i2l (pc := 139) G (b := w32 r28) dX11_meets_139 rfl ?_
    refine tj_ladd (pc := 140) G dX11_meets_140 ?_
    refine tj_last (pc := 141) G (k := 21) (i2 := w32 r22) (n2 := 64) (by decide) lm_21 rfl rfl dX11_meets_141 (fun M30 => ?_)
    refine tj_iinc (pc := 142) G 5 (fun x31 => [(6, vI x31), (0, vR X 0), (1, vI c1), (2, vI c2), (3, vL c3), (5, vI c5)]) dX11_meets_142 rfl (by decide) (fun _ => rfl) (fun x31 => ?_)
    refine tj_goto (pc := 145) G (tgt := 75) dX11_meets_145 (by decide) ?_
    exact tj_sub [1, 2, 3, 4, 5, 0] rfl (hrec x31 M30)
  refine tj_icmp_ne (pc := 128) G (tgt := 135) (a2 := w32 r24) (b2 := w32 c2) dX11_meets_128 (by decide) rfl rfl ?_ ?_
  · refine tj_iconst (pc := 135) G dX11_meets_135 ?_
    exact tj_sub [0, 1, 2, 3, 4, 5] rfl (hj136 0 M25)
  refine tj_iconst (pc := 131) G dX11_meets_131 ?_
  refine tj_goto (pc := 132) G (tgt := 136) dX11_meets_132 (by decide) ?_
  exact tj_sub [0, 1, 2, 3, 4, 5] rfl (hj136 1 M25)
set_option maxRecDepth 100000 in
set_option maxHeartbeats 4000000 in
theorem fx_X11_meets_L53_ok {X : tp_X} {Y : tp_Y} (G : tp_Ok X Y 34 cX11_meets 7 RX11 (some .int))  {c1 : Int} {c2 : Int} {c3 : Int} {K154 : tp_M → tp_O}   (hK154 : ∀ (M9 : tp_M), tp_J X Y LM 34 7 202 1 (K154  M9) M9 [(0, vR X 0), (3, vL c3)] [] 154) (n : Nat) : ∀ (z14 : Int) (M15 : tp_M), tp_J X Y LM 34 7 202 1 (tp_lp1 (fx_X11_meets_L53  c1 c2 c3 K154) n z14 M15) M15 [(0, vR X 0), (1, vI c1), (2, vI c2), (3, vL c3), (5, vI z14)] [] 53 := by
  refine tp_lp1_ok (P := fun o z14 M15 => tp_J X Y LM 34 7 202 1 (o) M15 [(0, vR X 0), (1, vI c1), (2, vI c2), (3, vL c3), (5, vI z14)] [] 53) (fun z14 M15 => tj_none) (fun rec hrec z14 M15 => ?_) n
  unfold fx_X11_meets_L53
  refine tj_iload (pc := 53) G 4 dX11_meets_53 rfl ?_
  refine tj_bipush (pc := 55) G dX11_meets_55 rfl ?_
  refine tj_icmp_ge (pc := 57) G (tgt := 154) (a2 := w32 z14) (b2 := 8) dX11_meets_57 (by decide) rfl rfl ?_ ?_
  · exact tj_sub [0, 3] rfl (hK154  M15)
  refine tj_aload_n (pc := 60) G 0 dX11_meets_60 rfl rfl ?_
  refine tj_getR (pc := 61) G (k := 0) (j := 35) (j2 := 35) tk_X11 (by decide) lm_0 rfl (by decide) rfl fl_X11_89 dX11_meets_61 ?_
  refine tj_iload (pc := 64) G 4 dX11_meets_64 rfl ?_
  refine tj_iload_n (pc := 66) G 1 dX11_meets_66 rfl rfl ?_
  refine tj_callSi (pc := 67) G [vI z14, vI c1] mf_X11_cellOf ml_X11_408 (by decide) rfl rfl (Nat.le_of_ble_eq_true rfl) (fun _ h9 => ok_X11_cellOf X  h9) dX11_meets_67 (fun r16 M17 => ?_)
  refine tj_lconst (pc := 70) G (v := 0) dX11_meets_70 rfl ?_
  refine tj_last (pc := 71) G (k := 21) (i2 := w32 r16) (n2 := 64) (by decide) lm_21 rfl rfl dX11_meets_71 (fun M18 => ?_)
  refine tj_iconst (pc := 72) G dX11_meets_72 ?_
  refine tj_istore (pc := 73) G (fun x19 => [(6, vI x19), (0, vR X 0), (1, vI c1), (2, vI c2), (3, vL c3), (5, vI z14)]) dX11_meets_73 (by decide) (fun _ => rfl) (fun x19 => ?_)
  refine tj_sub [1, 2, 3, 4, 5, 0] rfl (fx_X11_meets_L75_ok G    (fun M32 => ?_) tp_F x19 M18)
  refine tj_iinc (pc := 148) G 4 (fun x33 => [(5, vI x33), (0, vR X 0), (1, vI c1), (2, vI c2), (3, vL c3)]) dX11_meets_148 rfl (by decide) (fun _ => rfl) (fun x33 => ?_)
  refine tj_goto (pc := 151) G (tgt := 53) dX11_meets_151 (by decide) ?_
  exact tj_sub [1, 2, 3, 4, 0] rfl (hrec x33 M32)
set_option maxRecDepth 100000 in
set_option maxHeartbeats 4000000 in
theorem ok_X11_meets (X : tp_X)  {a1 : Int} {a2 : Int}  {M : tp_M} {res : Int × tp_M} (h : fx_X11_meets  a1 a2 M = some res) : tp_Ret X LM 34 1 yX11_meets (Cond.code yX11_meets cX11_meets 7 (some .int)) 202 [vR X 0, vI a1, vI a2] M res := by
  refine tp_ofW (by decide +kernel) rfl rfl (by show _ ≤ 7; exact Nat.le_of_ble_eq_true rfl) h (fun Y G => ?_)
  show tp_J X Y LM 34 7 202 1 (fx_X11_meets  a1 a2 M) M [(0, vR X 0), (1, vI a1), (2, vI a2)] [] 0
  unfold fx_X11_meets
  refine tj_aload_n (pc := 0) G 0 dX11_meets_0 rfl rfl ?_
  refine tj_iconst (pc := 1) G dX11_meets_1 ?_
  refine tj_putI (pc := 2) G (k := 0) (j := 0) (j2 := 0) tk_X11 (by decide) lm_0 rfl (by decide) rfl fl_X11_3 rfl rfl dX11_meets_2 (fun M1 => ?_)
  refine tj_aload_n (pc := 5) G 0 dX11_meets_5 rfl rfl ?_
  refine tj_iload_n (pc := 6) G 1 dX11_meets_6 rfl rfl ?_
  refine tj_callVi (pc := 7) G [vI a1] mf_X11_isOut (k := 0) (by decide) lm_0 rfl rfl ml_X11_280 (by decide) rfl rfl (Nat.le_of_ble_eq_true rfl) (fun _ h9 => ok_X11_isOut X  h9) dX11_meets_7 (fun r2 M3 => ?_)
  refine tj_if_eq (pc := 10) G (tgt := 21) (a2 := w32 r2) dX11_meets_10 (by decide) rfl ?_ ?_
  · refine tj_iconst (pc := 21) G dX11_meets_21 ?_
    exact tj_iret (pc := 22) G dX11_meets_22
  refine tj_aload_n (pc := 13) G 0 dX11_meets_13 rfl rfl ?_
  refine tj_iload_n (pc := 14) G 2 dX11_meets_14 rfl rfl ?_
  refine tj_callVi (pc := 15) G [vI a2] mf_X11_isOut (k := 0) (by decide) lm_0 rfl rfl ml_X11_280 (by decide) rfl rfl (Nat.le_of_ble_eq_true rfl) (fun _ h9 => ok_X11_isOut X  h9) dX11_meets_15 (fun r4 M5 => ?_)
  refine tj_if_ne (pc := 18) G (tgt := 23) (a2 := w32 r4) dX11_meets_18 (by decide) rfl ?_ ?_
  · refine tj_iload_n (pc := 23) G 1 dX11_meets_23 rfl rfl ?_
    refine tj_iload_n (pc := 24) G 2 dX11_meets_24 rfl rfl ?_
    refine tj_icmp_ne (pc := 25) G (tgt := 35) (a2 := w32 a1) (b2 := w32 a2) dX11_meets_25 (by decide) rfl rfl ?_ ?_
    · refine tj_aload_n (pc := 35) G 0 dX11_meets_35 rfl rfl ?_
      refine tj_iload_n (pc := 36) G 2 dX11_meets_36 rfl rfl ?_
      refine tj_callVv (pc := 37) G [vI a2] mf_X11_laysMatrix (k := 0) (by decide) lm_0 rfl rfl ml_X11_417 (by decide) rfl rfl (Nat.le_of_ble_eq_true rfl) (fun _ h9 => ok_X11_laysMatrix X  h9) dX11_meets_37 (fun r6 M7 => ?_)
      refine tj_aload_n (pc := 40) G 0 dX11_meets_40 rfl rfl ?_
      refine tj_callVl (pc := 41) G [] mf_X11_determinant (k := 0) (by decide) lm_0 rfl rfl ml_X11_420 (by decide) rfl rfl (Nat.le_of_ble_eq_true rfl) (fun _ h9 => ok_X11_determinant X  h9) dX11_meets_41 (fun r8 M9 => ?_)
      refine tj_lstore_n (pc := 44) G (fun x10 => [(3, vL x10), (0, vR X 0), (1, vI a1), (2, vI a2)]) dX11_meets_44 rfl (by decide) (fun _ => rfl) (fun x10 => ?_)
      refine tj_aload_n (pc := 45) G 1 dX11_meets_45 rfl rfl ?_
      refine tj_iload_n (pc := 46) G 3 dX11_meets_46 rfl rfl ?_
      refine tj_callVv (pc := 47) G [vI a2] mf_X11_laysMatrix (k := 0) (by decide) lm_0 rfl rfl ml_X11_417 (by decide) rfl rfl (Nat.le_of_ble_eq_true rfl) (fun _ h9 => ok_X11_laysMatrix X  h9) dX11_meets_47 (fun r11 M12 => ?_)
      refine tj_iconst (pc := 50) G dX11_meets_50 ?_
      refine tj_istore (pc := 51) G (fun x13 => [(5, vI x13), (3, vL x10), (0, vR X 0), (1, vI a1), (2, vI a2)]) dX11_meets_51 (by decide) (fun _ => rfl) (fun x13 => ?_)
      refine tj_sub [2, 3, 4, 1, 0] rfl (fx_X11_meets_L53_ok G    (fun M34 => ?_) tp_F x13 M12)
      refine tj_aload_n (pc := 154) G 0 dX11_meets_154 rfl rfl ?_
      refine tj_aload_n (pc := 155) G 0 dX11_meets_155 rfl rfl ?_
      refine tj_callVl (pc := 156) G [] mf_X11_determinant (k := 0) (by decide) lm_0 rfl rfl ml_X11_420 (by decide) rfl rfl (Nat.le_of_ble_eq_true rfl) (fun _ h9 => ok_X11_determinant X  h9) dX11_meets_156 (fun r35 M36 => ?_)
      refine tj_lload_n (pc := 159) G 1 dX11_meets_159 rfl rfl ?_
      refine tj_callVi (pc := 160) G [vL r35, vL x10] mf_X11_entersFraction (k := 0) (by decide) lm_0 rfl rfl ml_X11_424 (by decide) rfl rfl (Nat.le_of_ble_eq_true rfl) (fun _ h9 => ok_X11_entersFraction X  h9) dX11_meets_160 (fun r37 M38 => ?_)
      exact tj_iret (pc := 163) G dX11_meets_163
    refine tj_aload_n (pc := 28) G 0 dX11_meets_28 rfl rfl ?_
    refine tj_lconst (pc := 29) G (v := 1) dX11_meets_29 rfl ?_
    refine tj_lconst (pc := 30) G (v := 1) dX11_meets_30 rfl ?_
    refine tj_callVi (pc := 31) G [vL 1, vL 1] mf_X11_entersFraction (k := 0) (by decide) lm_0 rfl rfl ml_X11_424 (by decide) rfl rfl (Nat.le_of_ble_eq_true rfl) (fun _ h9 => ok_X11_entersFraction X  h9) dX11_meets_31 (fun r39 M40 => ?_)
    exact tj_iret (pc := 34) G dX11_meets_34
  refine tj_iconst (pc := 21) G dX11_meets_21 ?_
  exact tj_iret (pc := 22) G dX11_meets_22

def fx_X11_odds_L38 (c1 : Int) (c2 : Int) (c3 : Int) (K73 : tp_M → tp_O) (rec : Int → tp_M → tp_O) (z9 : Int) (M10 : tp_M) : tp_O :=
(if w32 z9 < 8 then
(tp_jn1 (fun y11 M12 => 
(tp_bd (fx_X11_flag y11 M12) (fun r13 M14 =>
(tp_ck (w32 z9) 8 (tp_lm (tp_up M14 22 (w32 z9) (w32 r13)) (fun M15 =>
(tp_lt (z9 + 1) (fun x16 =>
(rec x16 M15))))))))) (fun jk62 =>
(if w32 z9 = w32 c1 then
(jk62 1 M10)
else
(jk62 0 M10))))
else
(K73 M10))
def fx_X11_odds_L96 (c2 : Int) (c3 : Int) (c4 : Int) (c6 : Int) (K135 : tp_M → tp_O) (rec : Int → tp_M → tp_O) (z26 : Int) (M27 : tp_M) : tp_O :=
(if w32 z26 < 8 then
(tp_jn1 (fun y28 M29 => 
(tp_ck (w32 z26) 8 (tp_lm (tp_up M29 23 (w32 z26) y28) (fun M30 =>
(tp_lt (z26 + 1) (fun x31 =>
(rec x31 M30))))))) (fun jk128 =>
(if w32 z26 = 0 then
(jk128 (12 * (M27 22 0)) M27)
else
(jk128 0 M27))))
else
(K135 M27))
def fx_X11_odds_L150 (c2 : Int) (c3 : Int) (c4 : Int) (c6 : Int) (c7 : Int) (K203 : tp_M → tp_O) (rec : Int → tp_M → tp_O) (z37 : Int) (M38 : tp_M) : tp_O :=
(tp_ck (w32 c7) 8 (if w32 z37 < w32 (M38 2 (w32 c7)) then
(tp_bd (fx_X11_goalOf c7 z37 M38) (fun r39 M40 =>
(tp_ck (w32 r39) 8 (tp_ck (w32 c7) 8 (tp_ck (w32 c7) 8 (tp_nz (w32 (M40 2 (w32 c7))) (tp_ck (w32 r39) 8 (tp_lm (tp_up M40 23 (w32 r39) ((M40 23 (w32 r39)) + ((M40 22 (w32 c7)) * (w32 (x_div 12 (M40 2 (w32 c7))))))) (fun M41 =>
(tp_lt (z37 + 1) (fun x42 =>
(rec x42 M41))))))))))))
else
(K203 M38)))
def fx_X11_odds_L138 (c2 : Int) (c3 : Int) (c4 : Int) (c6 : Int) (K209 : tp_M → tp_O) (rec : Int → tp_M → tp_O) (z34 : Int) (M35 : tp_M) : tp_O :=
(if w32 z34 < w32 (M35 0 3) then
(tp_lt 0 (fun x36 =>
(tp_lp1 (fx_X11_odds_L150 c2 c3 c4 c6 z34 (fun M43 =>
(tp_lt (z34 + 1) (fun x44 =>
(rec x44 M43))))) tp_F x36 M35)))
else
(K209 M35))
def fx_X11_odds_L212 (c2 : Int) (c3 : Int) (c4 : Int) (c6 : Int) (K239 : tp_M → tp_O) (rec : Int → tp_M → tp_O) (z47 : Int) (M48 : tp_M) : tp_O :=
(if w32 z47 < 8 then
(tp_ck (w32 z47) 8 (tp_ck (w32 z47) 8 (tp_lm (tp_up M48 22 (w32 z47) (M48 23 (w32 z47))) (fun M49 =>
(tp_lt (z47 + 1) (fun x50 =>
(rec x50 M49)))))))
else
(K239 M48))
def fx_X11_odds_L79 (c2 : Int) (c3 : Int) (K245 : Int → tp_M → tp_O) (rec : Int → Int → tp_M → tp_O) (z20 z21 : Int) (M22 : tp_M) : tp_O :=
(if w32 z21 < w32 c2 then
(tp_lt (z20 * 12) (fun x24 =>
(tp_lt 0 (fun x25 =>
(tp_lp1 (fx_X11_odds_L96 c2 c3 x24 z21 (fun M32 =>
(tp_lt 1 (fun x33 =>
(tp_lp1 (fx_X11_odds_L138 c2 c3 x24 z21 (fun M45 =>
(tp_lt 0 (fun x46 =>
(tp_lp1 (fx_X11_odds_L212 c2 c3 x24 z21 (fun M51 =>
(tp_lt (z21 + 1) (fun x52 =>
(rec x24 x52 M51))))) tp_F x46 M45))))) tp_F x33 M32))))) tp_F x25 M22)))))
else
(K245 z20 M22))
def fx_X11_odds  (a1 : Int) (a2 : Int) (a3 : Int) (M : tp_M) : tp_O :=
(tp_lm (tp_up M 0 0 0) (fun M1 =>
(tp_bd (fx_X11_isOut a1 M1) (fun r2 M3 =>
(if w32 r2 = 0 then
(some ((-1), M3))
else
(tp_bd (fx_X11_in (w32 a2) 0 8 M3) (fun r4 M5 =>
(if w32 r4 = 0 then
(some ((-1), M5))
else
(tp_bd (fx_X11_isCrossing a3 M5) (fun r6 M7 =>
(if w32 r6 = 0 then
(some ((-1), M7))
else
(tp_lt 0 (fun x8 =>
(tp_lp1 (fx_X11_odds_L38 a1 a2 a3 (fun M17 =>
(tp_lt 1 (fun x18 =>
(tp_lt 0 (fun x19 =>
(tp_lp2 (fx_X11_odds_L79 a2 a3 (fun y23 M53 =>
(tp_ck (w32 a3) 8 (tp_bd (fx_X11_entersFraction (M53 22 (w32 a3)) y23 M53) (fun r54 M55 =>
(some (r54, M55))))))) tp_F x18 x19 M17))))))) tp_F x8 M7))))))))))))))
set_option maxRecDepth 100000 in
set_option maxHeartbeats 4000000 in
theorem fx_X11_odds_L38_ok {X : tp_X} {Y : tp_Y} (G : tp_Ok X Y 34 cX11_odds 9 RX11 (some .int))  {c1 : Int} {c2 : Int} {c3 : Int} {K73 : tp_M → tp_O}   (hK73 : ∀ (M9 : tp_M), tp_J X Y LM 34 9 202 1 (K73  M9) M9 [(0, vR X 0), (2, vI c2), (3, vI c3)] [] 73) (n : Nat) : ∀ (z9 : Int) (M10 : tp_M), tp_J X Y LM 34 9 202 1 (tp_lp1 (fx_X11_odds_L38  c1 c2 c3 K73) n z9 M10) M10 [(0, vR X 0), (1, vI c1), (2, vI c2), (3, vI c3), (4, vI z9)] [] 38 := by
  refine tp_lp1_ok (P := fun o z9 M10 => tp_J X Y LM 34 9 202 1 (o) M10 [(0, vR X 0), (1, vI c1), (2, vI c2), (3, vI c3), (4, vI z9)] [] 38) (fun z9 M10 => tj_none) (fun rec hrec z9 M10 => ?_) n
  unfold fx_X11_odds_L38
  refine tj_iload (pc := 38) G 4 dX11_odds_38 rfl ?_
  refine tj_bipush (pc := 40) G dX11_odds_40 rfl ?_
  refine tj_icmp_ge (pc := 42) G (tgt := 73) (a2 := w32 z9) (b2 := 8) dX11_odds_42 (by decide) rfl rfl ?_ ?_
  · exact tj_sub [0, 2, 3] rfl (hK73  M10)
  refine tj_aload_n (pc := 45) G 0 dX11_odds_45 rfl rfl ?_
  refine tj_getR (pc := 46) G (k := 0) (j := 37) (j2 := 37) tk_X11 (by decide) lm_0 rfl (by decide) rfl fl_X11_92 dX11_odds_46 ?_
  refine tj_iload (pc := 49) G 4 dX11_odds_49 rfl ?_
  refine tj_iload (pc := 51) G 4 dX11_odds_51 rfl ?_
  refine tj_iload_n (pc := 53) G 1 dX11_odds_53 rfl rfl ?_
  refine tj_jn1 (fun y11 => [(0, vR X 0), (1, vI c1), (2, vI c2), (3, vI c3), (4, vI z9)]) (fun y11 => [vI y11, vI z9, vR X 22]) 62 (fun y11 M12 => ?_) (fun jk62 hj62 => ?_)
  · refine tj_callSi (pc := 62) G [vI y11] mf_X11_flag ml_X11_151 (by decide) rfl rfl (Nat.le_of_ble_eq_true rfl) (fun _ h9 => ok_X11_flag X  h9) dX11_odds_62 (fun r13 M14 => ?_)
    refine tj_i2l (pc := 65) G (b := w32 r13) dX11_odds_65 rfl ?_
    refine tj_last (pc := 66) G (k := 22) (i2 := w32 z9) (n2 := 8) (by decide) lm_22 rfl rfl dX11_odds_66 (fun M15 => ?_)
    refine tj_iinc (pc := 67) G 4 (fun x16 => [(4, vI x16), (0, vR X 0), (1, vI c1), (2, vI c2), (3, vI c3)]) dX11_odds_67 rfl (by decide) (fun _ => rfl) (fun x16 => ?_)
    refine tj_goto (pc := 70) G (tgt := 38) dX11_odds_70 (by decide) ?_
    exact tj_sub [1, 2, 3, 4, 0] rfl (hrec x16 M15)
  refine tj_icmp_ne (pc := 54) G (tgt := 61) (a2 := w32 z9) (b2 := w32 c1) dX11_odds_54 (by decide) rfl rfl ?_ ?_
  · refine tj_iconst (pc := 61) G dX11_odds_61 ?_
    exact tj_sub [0, 1, 2, 3, 4] rfl (hj62 0 M10)
  refine tj_iconst (pc := 57) G dX11_odds_57 ?_
  refine tj_goto (pc := 58) G (tgt := 62) dX11_odds_58 (by decide) ?_
  exact tj_sub [0, 1, 2, 3, 4] rfl (hj62 1 M10)
set_option maxRecDepth 100000 in
set_option maxHeartbeats 4000000 in
theorem fx_X11_odds_L96_ok {X : tp_X} {Y : tp_Y} (G : tp_Ok X Y 34 cX11_odds 9 RX11 (some .int))  {c2 : Int} {c3 : Int} {c4 : Int} {c6 : Int} {K135 : tp_M → tp_O}   (hK135 : ∀ (M9 : tp_M), tp_J X Y LM 34 9 202 1 (K135  M9) M9 [(0, vR X 0), (2, vI c2), (3, vI c3), (4, vL c4), (6, vI c6)] [] 135) (n : Nat) : ∀ (z26 : Int) (M27 : tp_M), tp_J X Y LM 34 9 202 1 (tp_lp1 (fx_X11_odds_L96  c2 c3 c4 c6 K135) n z26 M27) M27 [(0, vR X 0), (2, vI c2), (3, vI c3), (4, vL c4), (6, vI c6), (7, vI z26)] [] 96 := by
  refine tp_lp1_ok (P := fun o z26 M27 => tp_J X Y LM 34 9 202 1 (o) M27 [(0, vR X 0), (2, vI c2), (3, vI c3), (4, vL c4), (6, vI c6), (7, vI z26)] [] 96) (fun z26 M27 => tj_none) (fun rec hrec z26 M27 => ?_) n
  unfold fx_X11_odds_L96
  refine tj_iload (pc := 96) G 5 dX11_odds_96 rfl ?_
  refine tj_bipush (pc := 98) G dX11_odds_98 rfl ?_
  refine tj_icmp_ge (pc := 100) G (tgt := 135) (a2 := w32 z26) (b2 := 8) dX11_odds_100 (by decide) rfl rfl ?_ ?_
  · exact tj_sub [0, 1, 2, 3, 4] rfl (hK135  M27)
  refine tj_aload_n (pc := 103) G 0 dX11_odds_103 rfl rfl ?_
  refine tj_getR (pc := 104) G (k := 0) (j := 38) (j2 := 38) tk_X11 (by decide) lm_0 rfl (by decide) rfl fl_X11_95 dX11_odds_104 ?_
  refine tj_iload (pc := 107) G 5 dX11_odds_107 rfl ?_
  refine tj_iload (pc := 109) G 5 dX11_odds_109 rfl ?_
  refine tj_jn1 (fun y28 => [(0, vR X 0), (2, vI c2), (3, vI c3), (4, vL c4), (6, vI c6), (7, vI z26)]) (fun y28 => [vL y28, vI z26, vR X 23]) 128 (fun y28 M29 => ?_) (fun jk128 hj128 => ?_)
  · refine tj_last (pc := 128) G (k := 23) (i2 := w32 z26) (n2 := 8) (by decide) lm_23 rfl rfl dX11_odds_128 (fun M30 => ?_)
    refine tj_iinc (pc := 129) G 5 (fun x31 => [(7, vI x31), (0, vR X 0), (2, vI c2), (3, vI c3), (4, vL c4), (6, vI c6)]) dX11_odds_129 rfl (by decide) (fun _ => rfl) (fun x31 => ?_)
    refine tj_goto (pc := 132) G (tgt := 96) dX11_odds_132 (by decide) ?_
    exact tj_sub [1, 2, 3, 4, 5, 0] rfl (hrec x31 M30)
  refine tj_if_ne (pc := 111) G (tgt := 127) (a2 := w32 z26) dX11_odds_111 (by decide) rfl ?_ ?_
  · refine tj_lconst (pc := 127) G (v := 0) dX11_odds_127 rfl ?_
    exact tj_sub [0, 1, 2, 3, 4, 5] rfl (hj128 0 M27)
  refine tj_ldc2 (pc := 114) G (v := 12) dX11_odds_114 ct_X11_430 rfl ?_
  refine tj_aload_n (pc := 117) G 0 dX11_odds_117 rfl rfl ?_
  refine tj_getR (pc := 118) G (k := 0) (j := 37) (j2 := 37) tk_X11 (by decide) lm_0 rfl (by decide) rfl fl_X11_92 dX11_odds_118 ?_
  refine tj_iconst (pc := 121) G dX11_odds_121 ?_
  refine tj_lald1 (pc := 122) G (k := 22) (i2 := 0) (n2 := 0) (by decide) lm_22 rfl (by decide) dX11_odds_122 ?_
  refine tj_lmul (pc := 123) G dX11_odds_123 ?_
  refine tj_goto (pc := 124) G (tgt := 128) dX11_odds_124 (by decide) ?_
  exact tj_sub [0, 1, 2, 3, 4, 5] rfl (hj128 (12 * (M27 22 0)) M27)
set_option maxRecDepth 100000 in
set_option maxHeartbeats 4000000 in
theorem fx_X11_odds_L150_ok {X : tp_X} {Y : tp_Y} (G : tp_Ok X Y 34 cX11_odds 9 RX11 (some .int))  {c2 : Int} {c3 : Int} {c4 : Int} {c6 : Int} {c7 : Int} {K203 : tp_M → tp_O}   (hK203 : ∀ (M9 : tp_M), tp_J X Y LM 34 9 202 1 (K203  M9) M9 [(0, vR X 0), (2, vI c2), (3, vI c3), (4, vL c4), (6, vI c6), (7, vI c7)] [] 203) (n : Nat) : ∀ (z37 : Int) (M38 : tp_M), tp_J X Y LM 34 9 202 1 (tp_lp1 (fx_X11_odds_L150  c2 c3 c4 c6 c7 K203) n z37 M38) M38 [(0, vR X 0), (2, vI c2), (3, vI c3), (4, vL c4), (6, vI c6), (7, vI c7), (8, vI z37)] [] 150 := by
  refine tp_lp1_ok (P := fun o z37 M38 => tp_J X Y LM 34 9 202 1 (o) M38 [(0, vR X 0), (2, vI c2), (3, vI c3), (4, vL c4), (6, vI c6), (7, vI c7), (8, vI z37)] [] 150) (fun z37 M38 => tj_none) (fun rec hrec z37 M38 => ?_) n
  unfold fx_X11_odds_L150
  refine tj_iload (pc := 150) G 6 dX11_odds_150 rfl ?_
  refine tj_aload_n (pc := 152) G 0 dX11_odds_152 rfl rfl ?_
  refine tj_getR (pc := 153) G (k := 0) (j := 4) (j2 := 4) tk_X11 (by decide) lm_0 rfl (by decide) rfl fl_X11_31 dX11_odds_153 ?_
  refine tj_iload (pc := 156) G 5 dX11_odds_156 rfl ?_
  refine tj_iald (pc := 158) G (k := 2) (i2 := w32 c7) (n2 := 8) (by decide) lm_2 rfl rfl dX11_odds_158 ?_
  refine tj_icmp_ge (pc := 159) G (tgt := 203) (a2 := w32 z37) (b2 := w32 (M38 2 (w32 c7))) dX11_odds_159 (by decide) rfl rfl ?_ ?_
  · exact tj_sub [0, 1, 2, 3, 4, 5] rfl (hK203  M38)
  refine tj_aload_n (pc := 162) G 0 dX11_odds_162 rfl rfl ?_
  refine tj_getR (pc := 163) G (k := 0) (j := 38) (j2 := 38) tk_X11 (by decide) lm_0 rfl (by decide) rfl fl_X11_95 dX11_odds_163 ?_
  refine tj_aload_n (pc := 166) G 0 dX11_odds_166 rfl rfl ?_
  refine tj_iload (pc := 167) G 5 dX11_odds_167 rfl ?_
  refine tj_iload (pc := 169) G 6 dX11_odds_169 rfl ?_
  refine tj_callVi (pc := 171) G [vI c7, vI z37] mf_X11_goalOf (k := 0) (by decide) lm_0 rfl rfl ml_X11_255 (by decide) rfl rfl (Nat.le_of_ble_eq_true rfl) (fun _ h9 => ok_X11_goalOf X  h9) dX11_odds_171 (fun r39 M40 => ?_)
  refine tj_dup2 (pc := 174) G dX11_odds_174 rfl rfl ?_
  refine tj_lald (pc := 175) G (k := 23) (i2 := w32 r39) (n2 := 8) (by decide) lm_23 rfl rfl dX11_odds_175 ?_
  refine tj_aload_n (pc := 176) G 0 dX11_odds_176 rfl rfl ?_
  refine tj_getR (pc := 177) G (k := 0) (j := 37) (j2 := 37) tk_X11 (by decide) lm_0 rfl (by decide) rfl fl_X11_92 dX11_odds_177 ?_
  refine tj_iload (pc := 180) G 5 dX11_odds_180 rfl ?_
  refine tj_lald (pc := 182) G (k := 22) (i2 := w32 c7) (n2 := 8) (by decide) lm_22 rfl rfl dX11_odds_182 ?_
  refine tj_bipush (pc := 183) G dX11_odds_183 rfl ?_
  refine tj_aload_n (pc := 185) G 0 dX11_odds_185 rfl rfl ?_
  refine tj_getR (pc := 186) G (k := 0) (j := 4) (j2 := 4) tk_X11 (by decide) lm_0 rfl (by decide) rfl fl_X11_31 dX11_odds_186 ?_
  refine tj_iload (pc := 189) G 5 dX11_odds_189 rfl ?_
  refine tj_iald (pc := 191) G (k := 2) (i2 := w32 c7) (n2 := 8) (by decide) lm_2 rfl rfl dX11_odds_191 ?_
  refine tj_idiv (pc := 192) G (b2 := w32 (M40 2 (w32 c7))) dX11_odds_192 rfl ?_
  refine tj_i2l (pc := 193) G (b := w32 (x_div 12 (M40 2 (w32 c7)))) dX11_odds_193 rfl ?_
  refine tj_lmul (pc := 194) G dX11_odds_194 ?_
  refine tj_ladd (pc := 195) G dX11_odds_195 ?_
  refine tj_last (pc := 196) G (k := 23) (i2 := w32 r39) (n2 := 8) (by decide) lm_23 rfl rfl dX11_odds_196 (fun M41 => ?_)
  refine tj_iinc (pc := 197) G 6 (fun x42 => [(8, vI x42), (0, vR X 0), (2, vI c2), (3, vI c3), (4, vL c4), (6, vI c6), (7, vI c7)]) dX11_odds_197 rfl (by decide) (fun _ => rfl) (fun x42 => ?_)
  refine tj_goto (pc := 200) G (tgt := 150) dX11_odds_200 (by decide) ?_
  exact tj_sub [1, 2, 3, 4, 5, 6, 0] rfl (hrec x42 M41)
set_option maxRecDepth 100000 in
set_option maxHeartbeats 4000000 in
theorem fx_X11_odds_L138_ok {X : tp_X} {Y : tp_Y} (G : tp_Ok X Y 34 cX11_odds 9 RX11 (some .int))  {c2 : Int} {c3 : Int} {c4 : Int} {c6 : Int} {K209 : tp_M → tp_O}   (hK209 : ∀ (M9 : tp_M), tp_J X Y LM 34 9 202 1 (K209  M9) M9 [(0, vR X 0), (2, vI c2), (3, vI c3), (4, vL c4), (6, vI c6)] [] 209) (n : Nat) : ∀ (z34 : Int) (M35 : tp_M), tp_J X Y LM 34 9 202 1 (tp_lp1 (fx_X11_odds_L138  c2 c3 c4 c6 K209) n z34 M35) M35 [(0, vR X 0), (2, vI c2), (3, vI c3), (4, vL c4), (6, vI c6), (7, vI z34)] [] 138 := by
  refine tp_lp1_ok (P := fun o z34 M35 => tp_J X Y LM 34 9 202 1 (o) M35 [(0, vR X 0), (2, vI c2), (3, vI c3), (4, vL c4), (6, vI c6), (7, vI z34)] [] 138) (fun z34 M35 => tj_none) (fun rec hrec z34 M35 => ?_) n
  unfold fx_X11_odds_L138
  refine tj_iload (pc := 138) G 5 dX11_odds_138 rfl ?_
  refine tj_aload_n (pc := 140) G 0 dX11_odds_140 rfl rfl ?_
  refine tj_getI (pc := 141) G (k := 0) (j := 3) (j2 := 3) tk_X11 (by decide) lm_0 rfl (by decide) rfl fl_X11_28 dX11_odds_141 ?_
  refine tj_icmp_ge (pc := 144) G (tgt := 209) (a2 := w32 z34) (b2 := w32 (M35 0 3)) dX11_odds_144 (by decide) rfl rfl ?_ ?_
  · exact tj_sub [0, 1, 2, 3, 4] rfl (hK209  M35)
  refine tj_iconst (pc := 147) G dX11_odds_147 ?_
  refine tj_istore (pc := 148) G (fun x36 => [(8, vI x36), (0, vR X 0), (2, vI c2), (3, vI c3), (4, vL c4), (6, vI c6), (7, vI z34)]) dX11_odds_148 (by decide) (fun _ => rfl) (fun x36 => ?_)
  refine tj_sub [1, 2, 3, 4, 5, 6, 0] rfl (fx_X11_odds_L150_ok G    (fun M43 => ?_) tp_F x36 M35)
  refine tj_iinc (pc := 203) G 5 (fun x44 => [(7, vI x44), (0, vR X 0), (2, vI c2), (3, vI c3), (4, vL c4), (6, vI c6)]) dX11_odds_203 rfl (by decide) (fun _ => rfl) (fun x44 => ?_)
  refine tj_goto (pc := 206) G (tgt := 138) dX11_odds_206 (by decide) ?_
  exact tj_sub [1, 2, 3, 4, 5, 0] rfl (hrec x44 M43)
set_option maxRecDepth 100000 in
set_option maxHeartbeats 4000000 in
theorem fx_X11_odds_L212_ok {X : tp_X} {Y : tp_Y} (G : tp_Ok X Y 34 cX11_odds 9 RX11 (some .int))  {c2 : Int} {c3 : Int} {c4 : Int} {c6 : Int} {K239 : tp_M → tp_O}   (hK239 : ∀ (M9 : tp_M), tp_J X Y LM 34 9 202 1 (K239  M9) M9 [(0, vR X 0), (2, vI c2), (3, vI c3), (4, vL c4), (6, vI c6)] [] 239) (n : Nat) : ∀ (z47 : Int) (M48 : tp_M), tp_J X Y LM 34 9 202 1 (tp_lp1 (fx_X11_odds_L212  c2 c3 c4 c6 K239) n z47 M48) M48 [(0, vR X 0), (2, vI c2), (3, vI c3), (4, vL c4), (6, vI c6), (7, vI z47)] [] 212 := by
  refine tp_lp1_ok (P := fun o z47 M48 => tp_J X Y LM 34 9 202 1 (o) M48 [(0, vR X 0), (2, vI c2), (3, vI c3), (4, vL c4), (6, vI c6), (7, vI z47)] [] 212) (fun z47 M48 => tj_none) (fun rec hrec z47 M48 => ?_) n
  unfold fx_X11_odds_L212
  refine tj_iload (pc := 212) G 5 dX11_odds_212 rfl ?_
  refine tj_bipush (pc := 214) G dX11_odds_214 rfl ?_
  refine tj_icmp_ge (pc := 216) G (tgt := 239) (a2 := w32 z47) (b2 := 8) dX11_odds_216 (by decide) rfl rfl ?_ ?_
  · exact tj_sub [0, 1, 2, 3, 4] rfl (hK239  M48)
  refine tj_aload_n (pc := 219) G 0 dX11_odds_219 rfl rfl ?_
  refine tj_getR (pc := 220) G (k := 0) (j := 37) (j2 := 37) tk_X11 (by decide) lm_0 rfl (by decide) rfl fl_X11_92 dX11_odds_220 ?_
  refine tj_iload (pc := 223) G 5 dX11_odds_223 rfl ?_
  refine tj_aload_n (pc := 225) G 0 dX11_odds_225 rfl rfl ?_
  refine tj_getR (pc := 226) G (k := 0) (j := 38) (j2 := 38) tk_X11 (by decide) lm_0 rfl (by decide) rfl fl_X11_95 dX11_odds_226 ?_
  refine tj_iload (pc := 229) G 5 dX11_odds_229 rfl ?_
  refine tj_lald (pc := 231) G (k := 23) (i2 := w32 z47) (n2 := 8) (by decide) lm_23 rfl rfl dX11_odds_231 ?_
  refine tj_last (pc := 232) G (k := 22) (i2 := w32 z47) (n2 := 8) (by decide) lm_22 rfl rfl dX11_odds_232 (fun M49 => ?_)
  refine tj_iinc (pc := 233) G 5 (fun x50 => [(7, vI x50), (0, vR X 0), (2, vI c2), (3, vI c3), (4, vL c4), (6, vI c6)]) dX11_odds_233 rfl (by decide) (fun _ => rfl) (fun x50 => ?_)
  refine tj_goto (pc := 236) G (tgt := 212) dX11_odds_236 (by decide) ?_
  exact tj_sub [1, 2, 3, 4, 5, 0] rfl (hrec x50 M49)
set_option maxRecDepth 100000 in
set_option maxHeartbeats 4000000 in
theorem fx_X11_odds_L79_ok {X : tp_X} {Y : tp_Y} (G : tp_Ok X Y 34 cX11_odds 9 RX11 (some .int))  {c2 : Int} {c3 : Int} {K245 : Int → tp_M → tp_O}   (hK245 : ∀ (y23 : Int) (M9 : tp_M), tp_J X Y LM 34 9 202 1 (K245 y23 M9) M9 [(0, vR X 0), (3, vI c3), (4, vL y23)] [] 245) (n : Nat) : ∀ (z20 z21 : Int) (M22 : tp_M), tp_J X Y LM 34 9 202 1 (tp_lp2 (fx_X11_odds_L79  c2 c3 K245) n z20 z21 M22) M22 [(0, vR X 0), (2, vI c2), (3, vI c3), (4, vL z20), (6, vI z21)] [] 79 := by
  refine tp_lp2_ok (P := fun o z20 z21 M22 => tp_J X Y LM 34 9 202 1 (o) M22 [(0, vR X 0), (2, vI c2), (3, vI c3), (4, vL z20), (6, vI z21)] [] 79) (fun z20 z21 M22 => tj_none) (fun rec hrec z20 z21 M22 => ?_) n
  unfold fx_X11_odds_L79
  refine tj_iload (pc := 79) G 4 dX11_odds_79 rfl ?_
  refine tj_iload_n (pc := 81) G 1 dX11_odds_81 rfl rfl ?_
  refine tj_icmp_ge (pc := 82) G (tgt := 245) (a2 := w32 z21) (b2 := w32 c2) dX11_odds_82 (by decide) rfl rfl ?_ ?_
  · exact tj_sub [0, 2, 3] rfl (hK245 z20 M22)
  refine tj_lload (pc := 85) G 3 dX11_odds_85 rfl ?_
  refine tj_ldc2 (pc := 87) G (v := 12) dX11_odds_87 ct_X11_430 rfl ?_
  refine tj_lmul (pc := 90) G dX11_odds_90 ?_
  refine tj_lstore (pc := 91) G (fun x24 => [(4, vL x24), (0, vR X 0), (2, vI c2), (3, vI c3), (6, vI z21)]) dX11_odds_91 (by decide) (fun _ => rfl) (fun x24 => ?_)
  refine tj_iconst (pc := 93) G dX11_odds_93 ?_
  refine tj_istore (pc := 94) G (fun x25 => [(7, vI x25), (4, vL x24), (0, vR X 0), (2, vI c2), (3, vI c3), (6, vI z21)]) dX11_odds_94 (by decide) (fun _ => rfl) (fun x25 => ?_)
  refine tj_sub [2, 3, 4, 1, 5, 0] rfl (fx_X11_odds_L96_ok G    (fun M32 => ?_) tp_F x25 M22)
  refine tj_iconst (pc := 135) G dX11_odds_135 ?_
  refine tj_istore (pc := 136) G (fun x33 => [(7, vI x33), (0, vR X 0), (2, vI c2), (3, vI c3), (4, vL x24), (6, vI z21)]) dX11_odds_136 (by decide) (fun _ => rfl) (fun x33 => ?_)
  refine tj_sub [1, 2, 3, 4, 5, 0] rfl (fx_X11_odds_L138_ok G    (fun M45 => ?_) tp_F x33 M32)
  refine tj_iconst (pc := 209) G dX11_odds_209 ?_
  refine tj_istore (pc := 210) G (fun x46 => [(7, vI x46), (0, vR X 0), (2, vI c2), (3, vI c3), (4, vL x24), (6, vI z21)]) dX11_odds_210 (by decide) (fun _ => rfl) (fun x46 => ?_)
  refine tj_sub [1, 2, 3, 4, 5, 0] rfl (fx_X11_odds_L212_ok G    (fun M51 => ?_) tp_F x46 M45)
  refine tj_iinc (pc := 239) G 4 (fun x52 => [(6, vI x52), (0, vR X 0), (2, vI c2), (3, vI c3), (4, vL x24)]) dX11_odds_239 rfl (by decide) (fun _ => rfl) (fun x52 => ?_)
  refine tj_goto (pc := 242) G (tgt := 79) dX11_odds_242 (by decide) ?_
  exact tj_sub [1, 2, 3, 4, 0] rfl (hrec x24 x52 M51)
set_option maxRecDepth 100000 in
set_option maxHeartbeats 4000000 in
theorem ok_X11_odds (X : tp_X)  {a1 : Int} {a2 : Int} {a3 : Int}  {M : tp_M} {res : Int × tp_M} (h : fx_X11_odds  a1 a2 a3 M = some res) : tp_Ret X LM 34 1 yX11_odds (Cond.code yX11_odds cX11_odds 9 (some .int)) 202 [vR X 0, vI a1, vI a2, vI a3] M res := by
  refine tp_ofW (by decide +kernel) rfl rfl (by show _ ≤ 9; exact Nat.le_of_ble_eq_true rfl) h (fun Y G => ?_)
  show tp_J X Y LM 34 9 202 1 (fx_X11_odds  a1 a2 a3 M) M [(0, vR X 0), (1, vI a1), (2, vI a2), (3, vI a3)] [] 0
  unfold fx_X11_odds
  refine tj_aload_n (pc := 0) G 0 dX11_odds_0 rfl rfl ?_
  refine tj_iconst (pc := 1) G dX11_odds_1 ?_
  refine tj_putI (pc := 2) G (k := 0) (j := 0) (j2 := 0) tk_X11 (by decide) lm_0 rfl (by decide) rfl fl_X11_3 rfl rfl dX11_odds_2 (fun M1 => ?_)
  refine tj_aload_n (pc := 5) G 0 dX11_odds_5 rfl rfl ?_
  refine tj_iload_n (pc := 6) G 1 dX11_odds_6 rfl rfl ?_
  refine tj_callVi (pc := 7) G [vI a1] mf_X11_isOut (k := 0) (by decide) lm_0 rfl rfl ml_X11_280 (by decide) rfl rfl (Nat.le_of_ble_eq_true rfl) (fun _ h9 => ok_X11_isOut X  h9) dX11_odds_7 (fun r2 M3 => ?_)
  refine tj_if_eq (pc := 10) G (tgt := 33) (a2 := w32 r2) dX11_odds_10 (by decide) rfl ?_ ?_
  · refine tj_iconst (pc := 33) G dX11_odds_33 ?_
    exact tj_iret (pc := 34) G dX11_odds_34
  refine tj_iload_n (pc := 13) G 2 dX11_odds_13 rfl rfl ?_
  refine tj_i2l (pc := 14) G (b := w32 a2) dX11_odds_14 rfl ?_
  refine tj_lconst (pc := 15) G (v := 0) dX11_odds_15 rfl ?_
  refine tj_ldc2 (pc := 16) G (v := 8) dX11_odds_16 ct_X11_428 rfl ?_
  refine tj_callSi (pc := 19) G [vL (w32 a2), vL 0, vL 8] mf_X11_in ml_X11_129 (by decide) rfl rfl (Nat.le_of_ble_eq_true rfl) (fun _ h9 => ok_X11_in X  h9) dX11_odds_19 (fun r4 M5 => ?_)
  refine tj_if_eq (pc := 22) G (tgt := 33) (a2 := w32 r4) dX11_odds_22 (by decide) rfl ?_ ?_
  · refine tj_iconst (pc := 33) G dX11_odds_33 ?_
    exact tj_iret (pc := 34) G dX11_odds_34
  refine tj_aload_n (pc := 25) G 0 dX11_odds_25 rfl rfl ?_
  refine tj_iload_n (pc := 26) G 3 dX11_odds_26 rfl rfl ?_
  refine tj_callVi (pc := 27) G [vI a3] mf_X11_isCrossing (k := 0) (by decide) lm_0 rfl rfl ml_X11_265 (by decide) rfl rfl (Nat.le_of_ble_eq_true rfl) (fun _ h9 => ok_X11_isCrossing X  h9) dX11_odds_27 (fun r6 M7 => ?_)
  refine tj_if_ne (pc := 30) G (tgt := 35) (a2 := w32 r6) dX11_odds_30 (by decide) rfl ?_ ?_
  · refine tj_iconst (pc := 35) G dX11_odds_35 ?_
    refine tj_istore (pc := 36) G (fun x8 => [(4, vI x8), (0, vR X 0), (1, vI a1), (2, vI a2), (3, vI a3)]) dX11_odds_36 (by decide) (fun _ => rfl) (fun x8 => ?_)
    refine tj_sub [1, 2, 3, 4, 0] rfl (fx_X11_odds_L38_ok G    (fun M17 => ?_) tp_F x8 M7)
    refine tj_lconst (pc := 73) G (v := 1) dX11_odds_73 rfl ?_
    refine tj_lstore (pc := 74) G (fun x18 => [(4, vL x18), (0, vR X 0), (2, vI a2), (3, vI a3)]) dX11_odds_74 (by decide) (fun _ => rfl) (fun x18 => ?_)
    refine tj_iconst (pc := 76) G dX11_odds_76 ?_
    refine tj_istore (pc := 77) G (fun x19 => [(6, vI x19), (4, vL x18), (0, vR X 0), (2, vI a2), (3, vI a3)]) dX11_odds_77 (by decide) (fun _ => rfl) (fun x19 => ?_)
    refine tj_sub [2, 3, 4, 1, 0] rfl (fx_X11_odds_L79_ok G    (fun y23 M53 => ?_) tp_F x18 x19 M17)
    refine tj_aload_n (pc := 245) G 0 dX11_odds_245 rfl rfl ?_
    refine tj_aload_n (pc := 246) G 0 dX11_odds_246 rfl rfl ?_
    refine tj_getR (pc := 247) G (k := 0) (j := 37) (j2 := 37) tk_X11 (by decide) lm_0 rfl (by decide) rfl fl_X11_92 dX11_odds_247 ?_
    refine tj_iload_n (pc := 250) G 1 dX11_odds_250 rfl rfl ?_
    refine tj_lald (pc := 251) G (k := 22) (i2 := w32 a3) (n2 := 8) (by decide) lm_22 rfl rfl dX11_odds_251 ?_
    refine tj_lload (pc := 252) G 2 dX11_odds_252 rfl ?_
    refine tj_callVi (pc := 254) G [vL (M53 22 (w32 a3)), vL y23] mf_X11_entersFraction (k := 0) (by decide) lm_0 rfl rfl ml_X11_424 (by decide) rfl rfl (Nat.le_of_ble_eq_true rfl) (fun _ h9 => ok_X11_entersFraction X  h9) dX11_odds_254 (fun r54 M55 => ?_)
    exact tj_iret (pc := 257) G dX11_odds_257
  refine tj_iconst (pc := 33) G dX11_odds_33 ?_
  exact tj_iret (pc := 34) G dX11_odds_34

def fx_X11_law_L35 (c2 : Int) (c3 : Int) (K64 : tp_M → tp_O) (rec : Int → tp_M → tp_O) (z10 : Int) (M11 : tp_M) : tp_O :=
(if w32 z10 < w32 (M11 0 18) then
(tp_ck (w32 z10) 80 (tp_ck (w32 z10) 80 (tp_lm (tp_up M11 31 (w32 z10) (M11 9 (w32 z10))) (fun M12 =>
(tp_lt (z10 + 1) (fun x13 =>
(rec x13 M12)))))))
else
(K64 M11))
def fx_X11_law   (M : tp_M) : tp_O :=
(tp_lm (tp_up M 0 0 0) (fun M1 =>
(tp_bd (fx_X11_readsRule  M1) (fun r2 M3 =>
(tp_lt r2 (fun x4 =>
(if w32 x4 < 0 then
(some ((x4 + 1) - 10000, M3))
else
(tp_bd (fx_X11_homeOfLast  M3) (fun r5 M6 =>
(tp_lt r5 (fun x7 =>
(tp_lt (M6 0 18) (fun x8 =>
(tp_lt 0 (fun x9 =>
(tp_lp1 (fx_X11_law_L35 x7 x8 (fun M14 =>
(tp_bd (fx_X11_laysCode 10 80 (M14 0 19) M14) (fun r15 M16 =>
(tp_bd (fx_X11_homeOfLast  M16) (fun r17 M18 =>
(tp_lt r17 (fun x19 =>
(tp_bd (fx_X11_laysCode 31 80 x8 M18) (fun r20 M21 =>
(tp_lm (tp_up M21 0 1 0) (fun M22 =>
(tp_bd (fx_X11_enters (w32 x19) M22) (fun r23 M24 =>
(tp_bd (fx_X11_enters (w32 x7) M24) (fun r25 M26 =>
(some (x19 - x7, M26)))))))))))))))))) tp_F x9 M6))))))))))))))))
set_option maxRecDepth 100000 in
set_option maxHeartbeats 4000000 in
theorem fx_X11_law_L35_ok {X : tp_X} {Y : tp_Y} (G : tp_Ok X Y 34 cX11_law 5 RX11 (some .int)) (hSX : tp_SX X 34)  {c2 : Int} {c3 : Int} {K64 : tp_M → tp_O}   (hK64 : ∀ (M9 : tp_M), tp_J X Y LM 34 5 107 1 (K64  M9) M9 [(0, vR X 0), (2, vI c2), (3, vI c3)] [] 64) (n : Nat) : ∀ (z10 : Int) (M11 : tp_M), tp_J X Y LM 34 5 107 1 (tp_lp1 (fx_X11_law_L35  c2 c3 K64) n z10 M11) M11 [(0, vR X 0), (2, vI c2), (3, vI c3), (4, vI z10)] [] 35 := by
  refine tp_lp1_ok (P := fun o z10 M11 => tp_J X Y LM 34 5 107 1 (o) M11 [(0, vR X 0), (2, vI c2), (3, vI c3), (4, vI z10)] [] 35) (fun z10 M11 => tj_none) (fun rec hrec z10 M11 => ?_) n
  unfold fx_X11_law_L35
  refine tj_iload (pc := 35) G 3 dX11_law_35 rfl ?_
  refine tj_aload_n (pc := 37) G 0 dX11_law_37 rfl rfl ?_
  refine tj_getI (pc := 38) G (k := 0) (j := 18) (j2 := 18) tk_X11 (by decide) lm_0 rfl (by decide) rfl fl_X11_241 dX11_law_38 ?_
  refine tj_icmp_ge (pc := 41) G (tgt := 64) (a2 := w32 z10) (b2 := w32 (M11 0 18)) dX11_law_41 (by decide) rfl rfl ?_ ?_
  · exact tj_sub [0, 1, 2] rfl (hK64  M11)
  refine tj_aload_n (pc := 44) G 0 dX11_law_44 rfl rfl ?_
  refine tj_getR (pc := 45) G (k := 0) (j := 48) (j2 := 48) tk_X11 (by decide) lm_0 rfl (by decide) rfl fl_X11_120 dX11_law_45 ?_
  refine tj_iload (pc := 48) G 3 dX11_law_48 rfl ?_
  refine tj_aload_n (pc := 50) G 0 dX11_law_50 rfl rfl ?_
  refine tj_getR (pc := 51) G (k := 0) (j := 16) (j2 := 16) tk_X11 (by decide) lm_0 rfl (by decide) rfl fl_X11_53 dX11_law_51 ?_
  refine tj_iload (pc := 54) G 3 dX11_law_54 rfl ?_
  refine tj_iald (pc := 56) G (k := 9) (i2 := w32 z10) (n2 := 80) (by decide) lm_9 rfl rfl dX11_law_56 ?_
  refine tj_iast (pc := 57) G (k := 31) (i2 := w32 z10) (n2 := 80) (by decide) lm_31 rfl rfl dX11_law_57 (fun M12 => ?_)
  refine tj_iinc (pc := 58) G 3 (fun x13 => [(4, vI x13), (0, vR X 0), (2, vI c2), (3, vI c3)]) dX11_law_58 rfl (by decide) (fun _ => rfl) (fun x13 => ?_)
  refine tj_goto (pc := 61) G (tgt := 35) dX11_law_61 (by decide) ?_
  exact tj_sub [1, 2, 3, 0] rfl (hrec x13 M12)
set_option maxRecDepth 100000 in
set_option maxHeartbeats 4000000 in
theorem ok_X11_law (X : tp_X) (hSX : tp_SX X 34)    {M : tp_M} {res : Int × tp_M} (h : fx_X11_law   M = some res) : tp_Ret X LM 34 1 yX11_law (Cond.code yX11_law cX11_law 5 (some .int)) 107 [vR X 0] M res := by
  refine tp_ofW (by decide +kernel) rfl rfl (by show _ ≤ 5; exact Nat.le_of_ble_eq_true rfl) h (fun Y G => ?_)
  show tp_J X Y LM 34 5 107 1 (fx_X11_law   M) M [(0, vR X 0)] [] 0
  unfold fx_X11_law
  refine tj_aload_n (pc := 0) G 0 dX11_law_0 rfl rfl ?_
  refine tj_iconst (pc := 1) G dX11_law_1 ?_
  refine tj_putI (pc := 2) G (k := 0) (j := 0) (j2 := 0) tk_X11 (by decide) lm_0 rfl (by decide) rfl fl_X11_3 rfl rfl dX11_law_2 (fun M1 => ?_)
  refine tj_aload_n (pc := 5) G 0 dX11_law_5 rfl rfl ?_
  refine tj_callVi (pc := 6) G [] mf_X11_readsRule (k := 0) (by decide) lm_0 rfl rfl ml_X11_244 (by decide) rfl rfl (Nat.le_of_ble_eq_true rfl) (fun _ h9 => ok_X11_readsRule X hSX  h9) dX11_law_6 (fun r2 M3 => ?_)
  refine tj_istore_n (pc := 9) G (fun x4 => [(1, vI x4), (0, vR X 0)]) dX11_law_9 rfl (by decide) (fun _ => rfl) (fun x4 => ?_)
  refine tj_iload_n (pc := 10) G 0 dX11_law_10 rfl rfl ?_
  refine tj_if_ge (pc := 11) G (tgt := 22) (a2 := w32 x4) dX11_law_11 (by decide) rfl ?_ ?_
  · refine tj_aload_n (pc := 22) G 1 dX11_law_22 rfl rfl ?_
    refine tj_callVi (pc := 23) G [] mf_X11_homeOfLast (k := 0) (by decide) lm_0 rfl rfl ml_X11_479 (by decide) rfl rfl (Nat.le_of_ble_eq_true rfl) (fun _ h9 => ok_X11_homeOfLast X  h9) dX11_law_23 (fun r5 M6 => ?_)
    refine tj_istore_n (pc := 26) G (fun x7 => [(2, vI x7), (1, vI x4), (0, vR X 0)]) dX11_law_26 rfl (by decide) (fun _ => rfl) (fun x7 => ?_)
    refine tj_aload_n (pc := 27) G 2 dX11_law_27 rfl rfl ?_
    refine tj_getI (pc := 28) G (k := 0) (j := 18) (j2 := 18) tk_X11 (by decide) lm_0 rfl (by decide) rfl fl_X11_241 dX11_law_28 ?_
    refine tj_istore_n (pc := 31) G (fun x8 => [(3, vI x8), (2, vI x7), (1, vI x4), (0, vR X 0)]) dX11_law_31 rfl (by decide) (fun _ => rfl) (fun x8 => ?_)
    refine tj_iconst (pc := 32) G dX11_law_32 ?_
    refine tj_istore (pc := 33) G (fun x9 => [(4, vI x9), (3, vI x8), (2, vI x7), (1, vI x4), (0, vR X 0)]) dX11_law_33 (by decide) (fun _ => rfl) (fun x9 => ?_)
    refine tj_sub [4, 2, 1, 0] rfl (fx_X11_law_L35_ok G hSX   (fun M14 => ?_) tp_F x9 M6)
    refine tj_aload_n (pc := 64) G 0 dX11_law_64 rfl rfl ?_
    refine tj_aload_n (pc := 65) G 0 dX11_law_65 rfl rfl ?_
    refine tj_getR (pc := 66) G (k := 0) (j := 17) (j2 := 17) tk_X11 (by decide) lm_0 rfl (by decide) rfl fl_X11_56 dX11_law_66 ?_
    refine tj_aload_n (pc := 69) G 0 dX11_law_69 rfl rfl ?_
    refine tj_getI (pc := 70) G (k := 0) (j := 19) (j2 := 19) tk_X11 (by decide) lm_0 rfl (by decide) rfl fl_X11_209 dX11_law_70 ?_
    refine tj_callVv (pc := 73) G [vR X 10, vI (M14 0 19)] mf_X11_laysCode (k := 0) (by decide) lm_0 rfl rfl ml_X11_247 (by decide) rfl rfl (Nat.le_of_ble_eq_true rfl) (fun _ h9 => ok_X11_laysCode X ⟨by decide, lm_10⟩ h9) dX11_law_73 (fun r15 M16 => ?_)
    refine tj_aload_n (pc := 76) G 0 dX11_law_76 rfl rfl ?_
    refine tj_callVi (pc := 77) G [] mf_X11_homeOfLast (k := 0) (by decide) lm_0 rfl rfl ml_X11_479 (by decide) rfl rfl (Nat.le_of_ble_eq_true rfl) (fun _ h9 => ok_X11_homeOfLast X  h9) dX11_law_77 (fun r17 M18 => ?_)
    refine tj_istore (pc := 80) G (fun x19 => [(4, vI x19), (0, vR X 0), (2, vI x7), (3, vI x8)]) dX11_law_80 (by decide) (fun _ => rfl) (fun x19 => ?_)
    refine tj_aload_n (pc := 82) G 1 dX11_law_82 rfl rfl ?_
    refine tj_aload_n (pc := 83) G 1 dX11_law_83 rfl rfl ?_
    refine tj_getR (pc := 84) G (k := 0) (j := 48) (j2 := 48) tk_X11 (by decide) lm_0 rfl (by decide) rfl fl_X11_120 dX11_law_84 ?_
    refine tj_iload_n (pc := 87) G 3 dX11_law_87 rfl rfl ?_
    refine tj_callVv (pc := 88) G [vR X 31, vI x8] mf_X11_laysCode (k := 0) (by decide) lm_0 rfl rfl ml_X11_247 (by decide) rfl rfl (Nat.le_of_ble_eq_true rfl) (fun _ h9 => ok_X11_laysCode X ⟨by decide, lm_31⟩ h9) dX11_law_88 (fun r20 M21 => ?_)
    refine tj_aload_n (pc := 91) G 1 dX11_law_91 rfl rfl ?_
    refine tj_iconst (pc := 92) G dX11_law_92 ?_
    refine tj_putI (pc := 93) G (k := 0) (j := 1) (j2 := 1) tk_X11 (by decide) lm_0 rfl (by decide) rfl fl_X11_15 rfl rfl dX11_law_93 (fun M22 => ?_)
    refine tj_aload_n (pc := 96) G 1 dX11_law_96 rfl rfl ?_
    refine tj_iload (pc := 97) G 0 dX11_law_97 rfl ?_
    refine tj_i2l (pc := 99) G (b := w32 x19) dX11_law_99 rfl ?_
    refine tj_callVv (pc := 100) G [vL (w32 x19)] mf_X11_enters (k := 0) (by decide) lm_0 rfl rfl ml_X11_18 (by decide) rfl rfl (Nat.le_of_ble_eq_true rfl) (fun _ h9 => ok_X11_enters X  h9) dX11_law_100 (fun r23 M24 => ?_)
    refine tj_aload_n (pc := 103) G 1 dX11_law_103 rfl rfl ?_
    refine tj_iload_n (pc := 104) G 2 dX11_law_104 rfl rfl ?_
    refine tj_i2l (pc := 105) G (b := w32 x7) dX11_law_105 rfl ?_
    refine tj_callVv (pc := 106) G [vL (w32 x7)] mf_X11_enters (k := 0) (by decide) lm_0 rfl rfl ml_X11_18 (by decide) rfl rfl (Nat.le_of_ble_eq_true rfl) (fun _ h9 => ok_X11_enters X  h9) dX11_law_106 (fun r25 M26 => ?_)
    refine tj_iload (pc := 109) G 0 dX11_law_109 rfl ?_
    refine tj_iload_n (pc := 111) G 2 dX11_law_111 rfl rfl ?_
    refine tj_isub (pc := 112) G dX11_law_112 ?_
    exact tj_iret (pc := 113) G dX11_law_113
  refine tj_iload_n (pc := 14) G 0 dX11_law_14 rfl rfl ?_
  refine tj_iconst (pc := 15) G dX11_law_15 ?_
  refine tj_iadd (pc := 16) G dX11_law_16 ?_
  refine tj_sipush (pc := 17) G dX11_law_17 rfl ?_
  refine tj_isub (pc := 20) G dX11_law_20 ?_
  exact tj_iret (pc := 21) G dX11_law_21
