def fx_X11_comesFrom_L29 (c2 : Int) (c4 : Int) (c5 : Int) (K85 : Int → tp_M → tp_O) (rec : Int → Int → tp_M → tp_O) (z12 z13 : Int) (M14 : tp_M) : tp_O :=
(tp_ck (w32 c5) 8 (if w32 z13 < w32 (M14 2 (w32 c5)) then
(tp_bd (fx_X11_has z12 c5 M14) (fun r16 M17 =>
(if w32 r16 = 0 then
(K85 z12 M17)
else
(tp_bd (fx_X11_goalOf c5 z13 M17) (fun r18 M19 =>
(tp_jn1 (fun y20 M21 => 
(tp_lt (x_or z12 y20) (fun x22 =>
(tp_lt (z13 + 1) (fun x23 =>
(rec x22 x23 M21)))))) (fun jk77 =>
(if w32 r18 = w32 c2 then
(jk77 0 M19)
else
(tp_bd (fx_X11_goalOf c5 z13 M19) (fun r24 M25 =>
(jk77 (x_shl 1 r24) M25)))))))))))
else
(K85 z12 M14)))
def fx_X11_comesFrom_L17 (c2 : Int) (c4 : Int) (K91 : Int → tp_M → tp_O) (rec : Int → Int → tp_M → tp_O) (z7 z8 : Int) (M9 : tp_M) : tp_O :=
(if w32 z8 < w32 (M9 0 3) then
(tp_lt 0 (fun x11 =>
(tp_lp2 (fx_X11_comesFrom_L29 c2 c4 z8 (fun y15 M26 =>
(tp_lt (z8 + 1) (fun x27 =>
(rec y15 x27 M26))))) tp_F z7 x11 M9)))
else
(K91 z7 M9))
def fx_X11_comesFrom_L7 (c2 : Int) (rec : Int → Int → tp_M → tp_O) (z3 z4 : Int) (M5 : tp_M) : tp_O :=
(if w32 z4 < 8 then
(tp_lt 1 (fun x6 =>
(tp_lp2 (fx_X11_comesFrom_L17 c2 z4 (fun y10 M28 =>
(tp_lt (z4 + 1) (fun x29 =>
(rec y10 x29 M28))))) tp_F z3 x6 M5)))
else
(some (z3, M5)))
def fx_X11_comesFrom  (a1 : Int) (a2 : Int) (M : tp_M) : tp_O :=
(tp_lt (x_shl 1 a1) (fun x1 =>
(tp_lt 0 (fun x2 =>
(tp_lp2 (fx_X11_comesFrom_L7 a2 ) tp_F x1 x2 M)))))
set_option maxRecDepth 100000 in
set_option maxHeartbeats 4000000 in
theorem fx_X11_comesFrom_L29_ok {X : tp_X} {Y : tp_Y} (G : tp_Ok X Y 34 cX11_comesFrom 7 RX11 (some .int))  {c2 : Int} {c4 : Int} {c5 : Int} {K85 : Int → tp_M → tp_O}   (hK85 : ∀ (y15 : Int) (M9 : tp_M), tp_J X Y LM 34 7 2 1 (K85 y15 M9) M9 [(0, vR X 0), (2, vI c2), (3, vI y15), (4, vI c4), (5, vI c5)] [] 85) (n : Nat) : ∀ (z12 z13 : Int) (M14 : tp_M), tp_J X Y LM 34 7 2 1 (tp_lp2 (fx_X11_comesFrom_L29  c2 c4 c5 K85) n z12 z13 M14) M14 [(0, vR X 0), (2, vI c2), (3, vI z12), (4, vI c4), (5, vI c5), (6, vI z13)] [] 29 := by
  refine tp_lp2_ok (P := fun o z12 z13 M14 => tp_J X Y LM 34 7 2 1 (o) M14 [(0, vR X 0), (2, vI c2), (3, vI z12), (4, vI c4), (5, vI c5), (6, vI z13)] [] 29) (fun z12 z13 M14 => tj_none) (fun rec hrec z12 z13 M14 => ?_) n
  unfold fx_X11_comesFrom_L29
  refine tj_iload (pc := 29) G 5 dX11_comesFrom_29 rfl ?_
  refine tj_aload_n (pc := 31) G 0 dX11_comesFrom_31 rfl rfl ?_
  refine tj_getR (pc := 32) G (k := 0) (j := 4) (j2 := 4) tk_X11 (by decide) lm_0 rfl (by decide) rfl fl_X11_31 dX11_comesFrom_32 ?_
  refine tj_iload (pc := 35) G 4 dX11_comesFrom_35 rfl ?_
  refine tj_iald (pc := 37) G (k := 2) (i2 := w32 c5) (n2 := 8) (by decide) lm_2 rfl rfl dX11_comesFrom_37 ?_
  refine tj_icmp_ge (pc := 38) G (tgt := 85) (a2 := w32 z13) (b2 := w32 (M14 2 (w32 c5))) dX11_comesFrom_38 (by decide) rfl rfl ?_ ?_
  · exact tj_sub [0, 1, 2, 3, 4] rfl (hK85 z12 M14)
  refine tj_iload_n (pc := 41) G 2 dX11_comesFrom_41 rfl rfl ?_
  refine tj_iload (pc := 42) G 4 dX11_comesFrom_42 rfl ?_
  refine tj_callSi (pc := 44) G [vI z12, vI c5] mf_X11_has ml_X11_183 (by decide) rfl rfl (Nat.le_of_ble_eq_true rfl) (fun _ h9 => ok_X11_has X  h9) dX11_comesFrom_44 (fun r16 M17 => ?_)
  refine tj_if_eq (pc := 47) G (tgt := 85) (a2 := w32 r16) dX11_comesFrom_47 (by decide) rfl ?_ ?_
  · exact tj_sub [0, 1, 2, 3, 4] rfl (hK85 z12 M17)
  refine tj_iload_n (pc := 50) G 2 dX11_comesFrom_50 rfl rfl ?_
  refine tj_aload_n (pc := 51) G 0 dX11_comesFrom_51 rfl rfl ?_
  refine tj_iload (pc := 52) G 4 dX11_comesFrom_52 rfl ?_
  refine tj_iload (pc := 54) G 5 dX11_comesFrom_54 rfl ?_
  refine tj_callVi (pc := 56) G [vI c5, vI z13] mf_X11_goalOf (k := 0) (by decide) lm_0 rfl rfl ml_X11_255 (by decide) rfl rfl (Nat.le_of_ble_eq_true rfl) (fun _ h9 => ok_X11_goalOf X  h9) dX11_comesFrom_56 (fun r18 M19 => ?_)
  refine tj_iload_n (pc := 59) G 1 dX11_comesFrom_59 rfl rfl ?_
  refine tj_jn1 (fun y20 => [(0, vR X 0), (2, vI c2), (4, vI c4), (5, vI c5), (6, vI z13)]) (fun y20 => [vI y20, vI z12]) 77 (fun y20 M21 => ?_) (fun jk77 hj77 => ?_)
  · refine tj_ior (pc := 77) G dX11_comesFrom_77 ?_
    refine tj_istore_n (pc := 78) G (fun x22 => [(3, vI x22), (0, vR X 0), (2, vI c2), (4, vI c4), (5, vI c5), (6, vI z13)]) dX11_comesFrom_78 rfl (by decide) (fun _ => rfl) (fun x22 => ?_)
    refine tj_iinc (pc := 79) G 5 (fun x23 => [(6, vI x23), (3, vI x22), (0, vR X 0), (2, vI c2), (4, vI c4), (5, vI c5)]) dX11_comesFrom_79 rfl (by decide) (fun _ => rfl) (fun x23 => ?_)
    refine tj_goto (pc := 82) G (tgt := 29) dX11_comesFrom_82 (by decide) ?_
    exact tj_sub [2, 3, 1, 4, 5, 0] rfl (hrec x22 x23 M21)
  refine tj_icmp_ne (pc := 60) G (tgt := 67) (a2 := w32 r18) (b2 := w32 c2) dX11_comesFrom_60 (by decide) rfl rfl ?_ ?_
  · refine tj_iconst (pc := 67) G dX11_comesFrom_67 ?_
    refine tj_aload_n (pc := 68) G 0 dX11_comesFrom_68 rfl rfl ?_
    refine tj_iload (pc := 69) G 4 dX11_comesFrom_69 rfl ?_
    refine tj_iload (pc := 71) G 5 dX11_comesFrom_71 rfl ?_
    refine tj_callVi (pc := 73) G [vI c5, vI z13] mf_X11_goalOf (k := 0) (by decide) lm_0 rfl rfl ml_X11_255 (by decide) rfl rfl (Nat.le_of_ble_eq_true rfl) (fun _ h9 => ok_X11_goalOf X  h9) dX11_comesFrom_73 (fun r24 M25 => ?_)
    refine tj_ishl (pc := 76) G dX11_comesFrom_76 ?_
    exact tj_sub [0, 1, 3, 4, 5] rfl (hj77 (x_shl 1 r24) M25)
  refine tj_iconst (pc := 63) G dX11_comesFrom_63 ?_
  refine tj_goto (pc := 64) G (tgt := 77) dX11_comesFrom_64 (by decide) ?_
  exact tj_sub [0, 1, 3, 4, 5] rfl (hj77 0 M19)
set_option maxRecDepth 100000 in
set_option maxHeartbeats 4000000 in
theorem fx_X11_comesFrom_L17_ok {X : tp_X} {Y : tp_Y} (G : tp_Ok X Y 34 cX11_comesFrom 7 RX11 (some .int))  {c2 : Int} {c4 : Int} {K91 : Int → tp_M → tp_O}   (hK91 : ∀ (y10 : Int) (M9 : tp_M), tp_J X Y LM 34 7 2 1 (K91 y10 M9) M9 [(0, vR X 0), (2, vI c2), (3, vI y10), (4, vI c4)] [] 91) (n : Nat) : ∀ (z7 z8 : Int) (M9 : tp_M), tp_J X Y LM 34 7 2 1 (tp_lp2 (fx_X11_comesFrom_L17  c2 c4 K91) n z7 z8 M9) M9 [(0, vR X 0), (2, vI c2), (3, vI z7), (4, vI c4), (5, vI z8)] [] 17 := by
  refine tp_lp2_ok (P := fun o z7 z8 M9 => tp_J X Y LM 34 7 2 1 (o) M9 [(0, vR X 0), (2, vI c2), (3, vI z7), (4, vI c4), (5, vI z8)] [] 17) (fun z7 z8 M9 => tj_none) (fun rec hrec z7 z8 M9 => ?_) n
  unfold fx_X11_comesFrom_L17
  refine tj_iload (pc := 17) G 4 dX11_comesFrom_17 rfl ?_
  refine tj_aload_n (pc := 19) G 0 dX11_comesFrom_19 rfl rfl ?_
  refine tj_getI (pc := 20) G (k := 0) (j := 3) (j2 := 3) tk_X11 (by decide) lm_0 rfl (by decide) rfl fl_X11_28 dX11_comesFrom_20 ?_
  refine tj_icmp_ge (pc := 23) G (tgt := 91) (a2 := w32 z8) (b2 := w32 (M9 0 3)) dX11_comesFrom_23 (by decide) rfl rfl ?_ ?_
  · exact tj_sub [0, 1, 2, 3] rfl (hK91 z7 M9)
  refine tj_iconst (pc := 26) G dX11_comesFrom_26 ?_
  refine tj_istore (pc := 27) G (fun x11 => [(6, vI x11), (0, vR X 0), (2, vI c2), (3, vI z7), (4, vI c4), (5, vI z8)]) dX11_comesFrom_27 (by decide) (fun _ => rfl) (fun x11 => ?_)
  refine tj_sub [1, 2, 3, 4, 5, 0] rfl (fx_X11_comesFrom_L29_ok G    (fun y15 M26 => ?_) tp_F z7 x11 M9)
  refine tj_iinc (pc := 85) G 4 (fun x27 => [(5, vI x27), (0, vR X 0), (2, vI c2), (3, vI y15), (4, vI c4)]) dX11_comesFrom_85 rfl (by decide) (fun _ => rfl) (fun x27 => ?_)
  refine tj_goto (pc := 88) G (tgt := 17) dX11_comesFrom_88 (by decide) ?_
  exact tj_sub [1, 2, 3, 4, 0] rfl (hrec y15 x27 M26)
set_option maxRecDepth 100000 in
set_option maxHeartbeats 4000000 in
theorem fx_X11_comesFrom_L7_ok {X : tp_X} {Y : tp_Y} (G : tp_Ok X Y 34 cX11_comesFrom 7 RX11 (some .int))  {c2 : Int}    (n : Nat) : ∀ (z3 z4 : Int) (M5 : tp_M), tp_J X Y LM 34 7 2 1 (tp_lp2 (fx_X11_comesFrom_L7  c2 ) n z3 z4 M5) M5 [(0, vR X 0), (2, vI c2), (3, vI z3), (4, vI z4)] [] 7 := by
  refine tp_lp2_ok (P := fun o z3 z4 M5 => tp_J X Y LM 34 7 2 1 (o) M5 [(0, vR X 0), (2, vI c2), (3, vI z3), (4, vI z4)] [] 7) (fun z3 z4 M5 => tj_none) (fun rec hrec z3 z4 M5 => ?_) n
  unfold fx_X11_comesFrom_L7
  refine tj_iload (pc := 7) G 3 dX11_comesFrom_7 rfl ?_
  refine tj_bipush (pc := 9) G dX11_comesFrom_9 rfl ?_
  refine tj_icmp_ge (pc := 11) G (tgt := 97) (a2 := w32 z4) (b2 := 8) dX11_comesFrom_11 (by decide) rfl rfl ?_ ?_
  · refine tj_iload_n (pc := 97) G 2 dX11_comesFrom_97 rfl rfl ?_
    exact tj_iret (pc := 98) G dX11_comesFrom_98
  refine tj_iconst (pc := 14) G dX11_comesFrom_14 ?_
  refine tj_istore (pc := 15) G (fun x6 => [(5, vI x6), (0, vR X 0), (2, vI c2), (3, vI z3), (4, vI z4)]) dX11_comesFrom_15 (by decide) (fun _ => rfl) (fun x6 => ?_)
  refine tj_sub [1, 2, 3, 4, 0] rfl (fx_X11_comesFrom_L17_ok G    (fun y10 M28 => ?_) tp_F z3 x6 M5)
  refine tj_iinc (pc := 91) G 3 (fun x29 => [(4, vI x29), (0, vR X 0), (2, vI c2), (3, vI y10)]) dX11_comesFrom_91 rfl (by decide) (fun _ => rfl) (fun x29 => ?_)
  refine tj_goto (pc := 94) G (tgt := 7) dX11_comesFrom_94 (by decide) ?_
  exact tj_sub [1, 2, 3, 0] rfl (hrec y10 x29 M28)
set_option maxRecDepth 100000 in
set_option maxHeartbeats 4000000 in
theorem ok_X11_comesFrom (X : tp_X)  {a1 : Int} {a2 : Int}  {M : tp_M} {res : Int × tp_M} (h : fx_X11_comesFrom  a1 a2 M = some res) : tp_Ret X LM 34 1 yX11_comesFrom (Cond.code yX11_comesFrom cX11_comesFrom 7 (some .int)) 2 [vR X 0, vI a1, vI a2] M res := by
  refine tp_ofW (by decide +kernel) rfl rfl (by show _ ≤ 7; exact Nat.le_of_ble_eq_true rfl) h (fun Y G => ?_)
  show tp_J X Y LM 34 7 2 1 (fx_X11_comesFrom  a1 a2 M) M [(0, vR X 0), (1, vI a1), (2, vI a2)] [] 0
  unfold fx_X11_comesFrom
  refine tj_iconst (pc := 0) G dX11_comesFrom_0 ?_
  refine tj_iload_n (pc := 1) G 1 dX11_comesFrom_1 rfl rfl ?_
  refine tj_ishl (pc := 2) G dX11_comesFrom_2 ?_
  refine tj_istore_n (pc := 3) G (fun x1 => [(3, vI x1), (0, vR X 0), (1, vI a1), (2, vI a2)]) dX11_comesFrom_3 rfl (by decide) (fun _ => rfl) (fun x1 => ?_)
  refine tj_iconst (pc := 4) G dX11_comesFrom_4 ?_
  refine tj_istore (pc := 5) G (fun x2 => [(4, vI x2), (3, vI x1), (0, vR X 0), (1, vI a1), (2, vI a2)]) dX11_comesFrom_5 (by decide) (fun _ => rfl) (fun x2 => ?_)
  refine tj_sub [2, 4, 1, 0] rfl (fx_X11_comesFrom_L7_ok G     tp_F x1 x2 M)

def fx_X11_gates_L19 (c1 : Int) (K61 : Int → tp_M → tp_O) (rec : Int → Int → tp_M → tp_O) (z6 z7 : Int) (M8 : tp_M) : tp_O :=
(if w32 z7 < w32 (M8 0 3) then
(tp_jn1 (fun y10 M11 => 
(tp_lt (x_or z6 y10) (fun x12 =>
(tp_lt (z7 + 1) (fun x13 =>
(rec x12 x13 M11)))))) (fun jk53 =>
(tp_jn0 (fun M14 => 
(jk53 0 M14)) (fun jk52 =>
(if w32 z7 = w32 c1 then
(jk52 M8)
else
(tp_bd (fx_X11_comesFrom c1 z7 M8) (fun r15 M16 =>
(tp_bd (fx_X11_has r15 0 M16) (fun r17 M18 =>
(if w32 r17 = 0 then
(jk53 (x_shl 1 z7) M18)
else
(jk52 M18)))))))))))
else
(K61 z6 M8))
def fx_X11_gates  (a1 : Int) (M : tp_M) : tp_O :=
(tp_lm (tp_up M 0 0 0) (fun M1 =>
(tp_bd (fx_X11_isOut a1 M1) (fun r2 M3 =>
(if w32 r2 = 0 then
(some ((-1), M3))
else
(tp_lt 0 (fun x4 =>
(tp_lt 1 (fun x5 =>
(tp_lp2 (fx_X11_gates_L19 a1 (fun y9 M19 =>
(tp_lm (tp_up M19 0 1 0) (fun M20 =>
(tp_bd (fx_J6_bitCount_0f7a4 y9 M20) (fun r21 M22 =>
(tp_bd (fx_X11_enters (w32 r21) M22) (fun r23 M24 =>
(some (y9, M24)))))))))) tp_F x4 x5 M3))))))))))
set_option maxRecDepth 100000 in
set_option maxHeartbeats 4000000 in
theorem fx_X11_gates_L19_ok {X : tp_X} {Y : tp_Y} (G : tp_Ok X Y 34 cX11_gates 4 RX11 (some .int))  {c1 : Int} {K61 : Int → tp_M → tp_O}   (hK61 : ∀ (y9 : Int) (M9 : tp_M), tp_J X Y LM 34 4 3 1 (K61 y9 M9) M9 [(0, vR X 0), (2, vI y9)] [] 61) (n : Nat) : ∀ (z6 z7 : Int) (M8 : tp_M), tp_J X Y LM 34 4 3 1 (tp_lp2 (fx_X11_gates_L19  c1 K61) n z6 z7 M8) M8 [(0, vR X 0), (1, vI c1), (2, vI z6), (3, vI z7)] [] 19 := by
  refine tp_lp2_ok (P := fun o z6 z7 M8 => tp_J X Y LM 34 4 3 1 (o) M8 [(0, vR X 0), (1, vI c1), (2, vI z6), (3, vI z7)] [] 19) (fun z6 z7 M8 => tj_none) (fun rec hrec z6 z7 M8 => ?_) n
  unfold fx_X11_gates_L19
  refine tj_iload_n (pc := 19) G 3 dX11_gates_19 rfl rfl ?_
  refine tj_aload_n (pc := 20) G 0 dX11_gates_20 rfl rfl ?_
  refine tj_getI (pc := 21) G (k := 0) (j := 3) (j2 := 3) tk_X11 (by decide) lm_0 rfl (by decide) rfl fl_X11_28 dX11_gates_21 ?_
  refine tj_icmp_ge (pc := 24) G (tgt := 61) (a2 := w32 z7) (b2 := w32 (M8 0 3)) dX11_gates_24 (by decide) rfl rfl ?_ ?_
  · exact tj_sub [0, 2] rfl (hK61 z6 M8)
  refine tj_iload_n (pc := 27) G 2 dX11_gates_27 rfl rfl ?_
  refine tj_iload_n (pc := 28) G 3 dX11_gates_28 rfl rfl ?_
  refine tj_iload_n (pc := 29) G 1 dX11_gates_29 rfl rfl ?_
  refine tj_jn1 (fun y10 => [(0, vR X 0), (1, vI c1), (3, vI z7)]) (fun y10 => [vI y10, vI z6]) 53 (fun y10 M11 => ?_) (fun jk53 hj53 => ?_)
  · refine tj_ior (pc := 53) G dX11_gates_53 ?_
    refine tj_istore_n (pc := 54) G (fun x12 => [(2, vI x12), (0, vR X 0), (1, vI c1), (3, vI z7)]) dX11_gates_54 rfl (by decide) (fun _ => rfl) (fun x12 => ?_)
    refine tj_iinc (pc := 55) G 3 (fun x13 => [(3, vI x13), (2, vI x12), (0, vR X 0), (1, vI c1)]) dX11_gates_55 rfl (by decide) (fun _ => rfl) (fun x13 => ?_)
    refine tj_goto (pc := 58) G (tgt := 19) dX11_gates_58 (by decide) ?_
    exact tj_sub [2, 3, 1, 0] rfl (hrec x12 x13 M11)
  refine tj_jn0 [(0, vR X 0), (1, vI c1), (3, vI z7)] [vI z6] 52 (fun M14 => ?_) (fun jk52 hj52 => ?_)
  · refine tj_iconst (pc := 52) G dX11_gates_52 ?_
    exact tj_sub [0, 1, 2] rfl (hj53 0 M14)
  refine tj_icmp_eq (pc := 30) G (tgt := 52) (a2 := w32 z7) (b2 := w32 c1) dX11_gates_30 (by decide) rfl rfl ?_ ?_
  · exact tj_sub [0, 1, 3] rfl (hj52  M8)
  refine tj_aload_n (pc := 33) G 0 dX11_gates_33 rfl rfl ?_
  refine tj_iload_n (pc := 34) G 1 dX11_gates_34 rfl rfl ?_
  refine tj_iload_n (pc := 35) G 3 dX11_gates_35 rfl rfl ?_
  refine tj_callVi (pc := 36) G [vI c1, vI z7] mf_X11_comesFrom (k := 0) (by decide) lm_0 rfl rfl ml_X11_394 (by decide) rfl rfl (Nat.le_of_ble_eq_true rfl) (fun _ h9 => ok_X11_comesFrom X  h9) dX11_gates_36 (fun r15 M16 => ?_)
  refine tj_iconst (pc := 39) G dX11_gates_39 ?_
  refine tj_callSi (pc := 40) G [vI r15, vI 0] mf_X11_has ml_X11_183 (by decide) rfl rfl (Nat.le_of_ble_eq_true rfl) (fun _ h9 => ok_X11_has X  h9) dX11_gates_40 (fun r17 M18 => ?_)
  refine tj_if_ne (pc := 43) G (tgt := 52) (a2 := w32 r17) dX11_gates_43 (by decide) rfl ?_ ?_
  · exact tj_sub [0, 1, 3] rfl (hj52  M18)
  refine tj_iconst (pc := 46) G dX11_gates_46 ?_
  refine tj_iload_n (pc := 47) G 3 dX11_gates_47 rfl rfl ?_
  refine tj_ishl (pc := 48) G dX11_gates_48 ?_
  refine tj_goto (pc := 49) G (tgt := 53) dX11_gates_49 (by decide) ?_
  exact tj_sub [0, 1, 3] rfl (hj53 (x_shl 1 z7) M18)
set_option maxRecDepth 100000 in
set_option maxHeartbeats 4000000 in
theorem ok_X11_gates (X : tp_X)  {a1 : Int}  {M : tp_M} {res : Int × tp_M} (h : fx_X11_gates  a1 M = some res) : tp_Ret X LM 34 1 yX11_gates (Cond.code yX11_gates cX11_gates 4 (some .int)) 3 [vR X 0, vI a1] M res := by
  refine tp_ofW (by decide +kernel) rfl rfl (by show _ ≤ 4; exact Nat.le_of_ble_eq_true rfl) h (fun Y G => ?_)
  show tp_J X Y LM 34 4 3 1 (fx_X11_gates  a1 M) M [(0, vR X 0), (1, vI a1)] [] 0
  unfold fx_X11_gates
  refine tj_aload_n (pc := 0) G 0 dX11_gates_0 rfl rfl ?_
  refine tj_iconst (pc := 1) G dX11_gates_1 ?_
  refine tj_putI (pc := 2) G (k := 0) (j := 0) (j2 := 0) tk_X11 (by decide) lm_0 rfl (by decide) rfl fl_X11_3 rfl rfl dX11_gates_2 (fun M1 => ?_)
  refine tj_aload_n (pc := 5) G 0 dX11_gates_5 rfl rfl ?_
  refine tj_iload_n (pc := 6) G 1 dX11_gates_6 rfl rfl ?_
  refine tj_callVi (pc := 7) G [vI a1] mf_X11_isOut (k := 0) (by decide) lm_0 rfl rfl ml_X11_280 (by decide) rfl rfl (Nat.le_of_ble_eq_true rfl) (fun _ h9 => ok_X11_isOut X  h9) dX11_gates_7 (fun r2 M3 => ?_)
  refine tj_if_ne (pc := 10) G (tgt := 15) (a2 := w32 r2) dX11_gates_10 (by decide) rfl ?_ ?_
  · refine tj_iconst (pc := 15) G dX11_gates_15 ?_
    refine tj_istore_n (pc := 16) G (fun x4 => [(2, vI x4), (0, vR X 0), (1, vI a1)]) dX11_gates_16 rfl (by decide) (fun _ => rfl) (fun x4 => ?_)
    refine tj_iconst (pc := 17) G dX11_gates_17 ?_
    refine tj_istore_n (pc := 18) G (fun x5 => [(3, vI x5), (2, vI x4), (0, vR X 0), (1, vI a1)]) dX11_gates_18 rfl (by decide) (fun _ => rfl) (fun x5 => ?_)
    refine tj_sub [2, 3, 1, 0] rfl (fx_X11_gates_L19_ok G    (fun y9 M19 => ?_) tp_F x4 x5 M3)
    refine tj_aload_n (pc := 61) G 0 dX11_gates_61 rfl rfl ?_
    refine tj_iconst (pc := 62) G dX11_gates_62 ?_
    refine tj_putI (pc := 63) G (k := 0) (j := 1) (j2 := 1) tk_X11 (by decide) lm_0 rfl (by decide) rfl fl_X11_15 rfl rfl dX11_gates_63 (fun M20 => ?_)
    refine tj_aload_n (pc := 66) G 0 dX11_gates_66 rfl rfl ?_
    refine tj_iload_n (pc := 67) G 1 dX11_gates_67 rfl rfl ?_
    refine tj_callSi (pc := 68) G [vI y9] mf_J6_bitCount_0f7a4 ml_X11_397 (by decide) rfl rfl (Nat.le_of_ble_eq_true rfl) (fun _ h9 => ok_J6_bitCount_0f7a4 X  h9) dX11_gates_68 (fun r21 M22 => ?_)
    refine tj_i2l (pc := 71) G (b := w32 r21) dX11_gates_71 rfl ?_
    refine tj_callVv (pc := 72) G [vL (w32 r21)] mf_X11_enters (k := 0) (by decide) lm_0 rfl rfl ml_X11_18 (by decide) rfl rfl (Nat.le_of_ble_eq_true rfl) (fun _ h9 => ok_X11_enters X  h9) dX11_gates_72 (fun r23 M24 => ?_)
    refine tj_iload_n (pc := 75) G 1 dX11_gates_75 rfl rfl ?_
    exact tj_iret (pc := 76) G dX11_gates_76
  refine tj_iconst (pc := 13) G dX11_gates_13 ?_
  exact tj_iret (pc := 14) G dX11_gates_14

def fx_X11_parishOf_L4 (c1 : Int) (rec : Int → Int → tp_M → tp_O) (z3 z4 : Int) (M5 : tp_M) : tp_O :=
(if w32 z4 < w32 (M5 0 3) then
(tp_bd (fx_X11_comesFrom c1 (-1) M5) (fun r6 M7 =>
(tp_bd (fx_X11_has r6 z4 M7) (fun r8 M9 =>
(tp_jn1 (fun y10 M11 => 
(tp_lt (x_or z3 y10) (fun x12 =>
(tp_lt (z4 + 1) (fun x13 =>
(rec x12 x13 M11)))))) (fun jk46 =>
(tp_jn0 (fun M14 => 
(jk46 0 M14)) (fun jk45 =>
(if w32 r8 = 0 then
(jk45 M9)
else
(tp_bd (fx_X11_comesFrom z4 (-1) M9) (fun r15 M16 =>
(tp_bd (fx_X11_has r15 c1 M16) (fun r17 M18 =>
(if w32 r17 = 0 then
(jk45 M18)
else
(jk46 (x_shl 1 z4) M18)))))))))))))))
else
(some (z3, M5)))
def fx_X11_parishOf  (a1 : Int) (M : tp_M) : tp_O :=
(tp_lt 0 (fun x1 =>
(tp_lt 0 (fun x2 =>
(tp_lp2 (fx_X11_parishOf_L4 a1 ) tp_F x1 x2 M)))))
set_option maxRecDepth 100000 in
set_option maxHeartbeats 4000000 in
theorem fx_X11_parishOf_L4_ok {X : tp_X} {Y : tp_Y} (G : tp_Ok X Y 34 cX11_parishOf 4 RX11 (some .int))  {c1 : Int}    (n : Nat) : ∀ (z3 z4 : Int) (M5 : tp_M), tp_J X Y LM 34 4 3 1 (tp_lp2 (fx_X11_parishOf_L4  c1 ) n z3 z4 M5) M5 [(0, vR X 0), (1, vI c1), (2, vI z3), (3, vI z4)] [] 4 := by
  refine tp_lp2_ok (P := fun o z3 z4 M5 => tp_J X Y LM 34 4 3 1 (o) M5 [(0, vR X 0), (1, vI c1), (2, vI z3), (3, vI z4)] [] 4) (fun z3 z4 M5 => tj_none) (fun rec hrec z3 z4 M5 => ?_) n
  unfold fx_X11_parishOf_L4
  refine tj_iload_n (pc := 4) G 3 dX11_parishOf_4 rfl rfl ?_
  refine tj_aload_n (pc := 5) G 0 dX11_parishOf_5 rfl rfl ?_
  refine tj_getI (pc := 6) G (k := 0) (j := 3) (j2 := 3) tk_X11 (by decide) lm_0 rfl (by decide) rfl fl_X11_28 dX11_parishOf_6 ?_
  refine tj_icmp_ge (pc := 9) G (tgt := 54) (a2 := w32 z4) (b2 := w32 (M5 0 3)) dX11_parishOf_9 (by decide) rfl rfl ?_ ?_
  · refine tj_iload_n (pc := 54) G 2 dX11_parishOf_54 rfl rfl ?_
    exact tj_iret (pc := 55) G dX11_parishOf_55
  refine tj_iload_n (pc := 12) G 2 dX11_parishOf_12 rfl rfl ?_
  refine tj_aload_n (pc := 13) G 0 dX11_parishOf_13 rfl rfl ?_
  refine tj_iload_n (pc := 14) G 1 dX11_parishOf_14 rfl rfl ?_
  refine tj_iconst (pc := 15) G dX11_parishOf_15 ?_
  refine tj_callVi (pc := 16) G [vI c1, vI (-1)] mf_X11_comesFrom (k := 0) (by decide) lm_0 rfl rfl ml_X11_394 (by decide) rfl rfl (Nat.le_of_ble_eq_true rfl) (fun _ h9 => ok_X11_comesFrom X  h9) dX11_parishOf_16 (fun r6 M7 => ?_)
  refine tj_iload_n (pc := 19) G 3 dX11_parishOf_19 rfl rfl ?_
  refine tj_callSi (pc := 20) G [vI r6, vI z4] mf_X11_has ml_X11_183 (by decide) rfl rfl (Nat.le_of_ble_eq_true rfl) (fun _ h9 => ok_X11_has X  h9) dX11_parishOf_20 (fun r8 M9 => ?_)
  refine tj_jn1 (fun y10 => [(0, vR X 0), (1, vI c1), (3, vI z4)]) (fun y10 => [vI y10, vI z3]) 46 (fun y10 M11 => ?_) (fun jk46 hj46 => ?_)
  · refine tj_ior (pc := 46) G dX11_parishOf_46 ?_
    refine tj_istore_n (pc := 47) G (fun x12 => [(2, vI x12), (0, vR X 0), (1, vI c1), (3, vI z4)]) dX11_parishOf_47 rfl (by decide) (fun _ => rfl) (fun x12 => ?_)
    refine tj_iinc (pc := 48) G 3 (fun x13 => [(3, vI x13), (2, vI x12), (0, vR X 0), (1, vI c1)]) dX11_parishOf_48 rfl (by decide) (fun _ => rfl) (fun x13 => ?_)
    refine tj_goto (pc := 51) G (tgt := 4) dX11_parishOf_51 (by decide) ?_
    exact tj_sub [2, 3, 1, 0] rfl (hrec x12 x13 M11)
  refine tj_jn0 [(0, vR X 0), (1, vI c1), (3, vI z4)] [vI z3] 45 (fun M14 => ?_) (fun jk45 hj45 => ?_)
  · refine tj_iconst (pc := 45) G dX11_parishOf_45 ?_
    exact tj_sub [0, 1, 2] rfl (hj46 0 M14)
  refine tj_if_eq (pc := 23) G (tgt := 45) (a2 := w32 r8) dX11_parishOf_23 (by decide) rfl ?_ ?_
  · exact tj_sub [0, 1, 3] rfl (hj45  M9)
  refine tj_aload_n (pc := 26) G 0 dX11_parishOf_26 rfl rfl ?_
  refine tj_iload_n (pc := 27) G 3 dX11_parishOf_27 rfl rfl ?_
  refine tj_iconst (pc := 28) G dX11_parishOf_28 ?_
  refine tj_callVi (pc := 29) G [vI z4, vI (-1)] mf_X11_comesFrom (k := 0) (by decide) lm_0 rfl rfl ml_X11_394 (by decide) rfl rfl (Nat.le_of_ble_eq_true rfl) (fun _ h9 => ok_X11_comesFrom X  h9) dX11_parishOf_29 (fun r15 M16 => ?_)
  refine tj_iload_n (pc := 32) G 1 dX11_parishOf_32 rfl rfl ?_
  refine tj_callSi (pc := 33) G [vI r15, vI c1] mf_X11_has ml_X11_183 (by decide) rfl rfl (Nat.le_of_ble_eq_true rfl) (fun _ h9 => ok_X11_has X  h9) dX11_parishOf_33 (fun r17 M18 => ?_)
  refine tj_if_eq (pc := 36) G (tgt := 45) (a2 := w32 r17) dX11_parishOf_36 (by decide) rfl ?_ ?_
  · exact tj_sub [0, 1, 3] rfl (hj45  M18)
  refine tj_iconst (pc := 39) G dX11_parishOf_39 ?_
  refine tj_iload_n (pc := 40) G 3 dX11_parishOf_40 rfl rfl ?_
  refine tj_ishl (pc := 41) G dX11_parishOf_41 ?_
  refine tj_goto (pc := 42) G (tgt := 46) dX11_parishOf_42 (by decide) ?_
  exact tj_sub [0, 1, 3] rfl (hj46 (x_shl 1 z4) M18)
set_option maxRecDepth 100000 in
set_option maxHeartbeats 4000000 in
theorem ok_X11_parishOf (X : tp_X)  {a1 : Int}  {M : tp_M} {res : Int × tp_M} (h : fx_X11_parishOf  a1 M = some res) : tp_Ret X LM 34 1 yX11_parishOf (Cond.code yX11_parishOf cX11_parishOf 4 (some .int)) 3 [vR X 0, vI a1] M res := by
  refine tp_ofW (by decide +kernel) rfl rfl (by show _ ≤ 4; exact Nat.le_of_ble_eq_true rfl) h (fun Y G => ?_)
  show tp_J X Y LM 34 4 3 1 (fx_X11_parishOf  a1 M) M [(0, vR X 0), (1, vI a1)] [] 0
  unfold fx_X11_parishOf
  refine tj_iconst (pc := 0) G dX11_parishOf_0 ?_
  refine tj_istore_n (pc := 1) G (fun x1 => [(2, vI x1), (0, vR X 0), (1, vI a1)]) dX11_parishOf_1 rfl (by decide) (fun _ => rfl) (fun x1 => ?_)
  refine tj_iconst (pc := 2) G dX11_parishOf_2 ?_
  refine tj_istore_n (pc := 3) G (fun x2 => [(3, vI x2), (2, vI x1), (0, vR X 0), (1, vI a1)]) dX11_parishOf_3 rfl (by decide) (fun _ => rfl) (fun x2 => ?_)
  refine tj_sub [2, 3, 1, 0] rfl (fx_X11_parishOf_L4_ok G     tp_F x1 x2 M)

def fx_J6_numberOfTrailingZeros_0f7a4  (a1 : Int) (M : tp_M) : tp_O :=
(tp_lt (x_and (x_xor a1 (-1)) (a1 - 1)) (fun x1 =>
(if w32 x1 ≤ 0 then
(some (x_and x1 32, M))
else
(tp_lt 1 (fun x2 =>
(tp_jn2 (fun y3 y4 M5 => 
(tp_jn2 (fun y6 y7 M8 => 
(tp_jn2 (fun y9 y10 M11 => 
(if w32 y9 ≤ 4 then
(some (y10 + (x_ushr y9 1), M11))
else
(tp_lt (y10 + 2) (fun x12 =>
(tp_lt (x_ushr y9 2) (fun x13 =>
(some (x12 + (x_ushr x13 1), M11)))))))) (fun jk62 =>
(if w32 y6 ≤ 16 then
(jk62 y6 y7 M8)
else
(tp_lt (y7 + 4) (fun x14 =>
(tp_lt (x_ushr y6 4) (fun x15 =>
(jk62 x15 x14 M8))))))))) (fun jk49 =>
(if w32 y3 ≤ 256 then
(jk49 y3 y4 M5)
else
(tp_lt (y4 + 8) (fun x16 =>
(tp_lt (x_ushr y3 8) (fun x17 =>
(jk49 x17 x16 M5))))))))) (fun jk34 =>
(if w32 x1 ≤ 65536 then
(jk34 x1 x2 M)
else
(tp_lt (x2 + 16) (fun x18 =>
(tp_lt (x_ushr x1 16) (fun x19 =>
(jk34 x19 x18 M)))))))))))))
set_option maxRecDepth 100000 in
set_option maxHeartbeats 4000000 in
theorem ok_J6_numberOfTrailingZeros_0f7a4 {L : Nat → tp_K} {N : Nat} (X : tp_X)  {a1 : Int}  {M : tp_M} {res : Int × tp_M} (h : fx_J6_numberOfTrailingZeros_0f7a4  a1 M = some res) : tp_Ret X L N 1 yJ6_numberOfTrailingZeros_0f7a4 (Cond.code yJ6_numberOfTrailingZeros_0f7a4 cJ6_numberOfTrailingZeros_0f7a4 2 (some .int)) 1 [vI a1] M res := by
  refine tp_ofW (by decide +kernel) rfl rfl (by show _ ≤ 2; exact Nat.le_of_ble_eq_true rfl) h (fun Y G => ?_)
  show tp_J X Y L N 2 1 1 (fx_J6_numberOfTrailingZeros_0f7a4  a1 M) M [(0, vI a1)] [] 0
  unfold fx_J6_numberOfTrailingZeros_0f7a4
  refine tj_iload_n (pc := 0) G 0 dJ6_numberOfTrailingZeros_0f7a4_0 rfl rfl ?_
  refine tj_iconst (pc := 1) G dJ6_numberOfTrailingZeros_0f7a4_1 ?_
  refine tj_ixor (pc := 2) G dJ6_numberOfTrailingZeros_0f7a4_2 ?_
  refine tj_iload_n (pc := 3) G 0 dJ6_numberOfTrailingZeros_0f7a4_3 rfl rfl ?_
  refine tj_iconst (pc := 4) G dJ6_numberOfTrailingZeros_0f7a4_4 ?_
  refine tj_isub (pc := 5) G dJ6_numberOfTrailingZeros_0f7a4_5 ?_
  refine tj_iand (pc := 6) G dJ6_numberOfTrailingZeros_0f7a4_6 ?_
  refine tj_istore_n (pc := 7) G (fun x1 => [(0, vI x1)]) dJ6_numberOfTrailingZeros_0f7a4_7 rfl (by decide) (fun _ => rfl) (fun x1 => ?_)
  refine tj_iload_n (pc := 8) G 0 dJ6_numberOfTrailingZeros_0f7a4_8 rfl rfl ?_
  refine tj_if_gt (pc := 9) G (tgt := 17) (a2 := w32 x1) dJ6_numberOfTrailingZeros_0f7a4_9 (by decide) rfl ?_ ?_
  · refine tj_iconst (pc := 17) G dJ6_numberOfTrailingZeros_0f7a4_17 ?_
    refine tj_istore_n (pc := 18) G (fun x2 => [(1, vI x2), (0, vI x1)]) dJ6_numberOfTrailingZeros_0f7a4_18 rfl (by decide) (fun _ => rfl) (fun x2 => ?_)
    refine tj_iload_n (pc := 19) G 1 dJ6_numberOfTrailingZeros_0f7a4_19 rfl rfl ?_
    refine tj_ldcw (pc := 20) G (v := 65536) dJ6_numberOfTrailingZeros_0f7a4_20 ct_J6_264 rfl ?_
    refine tj_jn2 (fun y3 y4 => [(0, vI y3), (1, vI y4)]) (fun y3 y4 => []) 34 (fun y3 y4 M5 => ?_) (fun jk34 hj34 => ?_)
    · refine tj_iload_n (pc := 34) G 0 dJ6_numberOfTrailingZeros_0f7a4_34 rfl rfl ?_
      refine tj_sipush (pc := 35) G dJ6_numberOfTrailingZeros_0f7a4_35 rfl ?_
      refine tj_jn2 (fun y6 y7 => [(0, vI y6), (1, vI y7)]) (fun y6 y7 => []) 49 (fun y6 y7 M8 => ?_) (fun jk49 hj49 => ?_)
      · refine tj_iload_n (pc := 49) G 0 dJ6_numberOfTrailingZeros_0f7a4_49 rfl rfl ?_
        refine tj_bipush (pc := 50) G dJ6_numberOfTrailingZeros_0f7a4_50 rfl ?_
        refine tj_jn2 (fun y9 y10 => [(0, vI y9), (1, vI y10)]) (fun y9 y10 => []) 62 (fun y9 y10 M11 => ?_) (fun jk62 hj62 => ?_)
        · refine tj_iload_n (pc := 62) G 0 dJ6_numberOfTrailingZeros_0f7a4_62 rfl rfl ?_
          refine tj_iconst (pc := 63) G dJ6_numberOfTrailingZeros_0f7a4_63 ?_
          refine tj_icmp_le (pc := 64) G (tgt := 74) (a2 := w32 y9) (b2 := 4) dJ6_numberOfTrailingZeros_0f7a4_64 (by decide) rfl rfl ?_ ?_
          · refine tj_iload_n (pc := 74) G 1 dJ6_numberOfTrailingZeros_0f7a4_74 rfl rfl ?_
            refine tj_iload_n (pc := 75) G 0 dJ6_numberOfTrailingZeros_0f7a4_75 rfl rfl ?_
            refine tj_iconst (pc := 76) G dJ6_numberOfTrailingZeros_0f7a4_76 ?_
            refine tj_iushr (pc := 77) G dJ6_numberOfTrailingZeros_0f7a4_77 ?_
            refine tj_iadd (pc := 78) G dJ6_numberOfTrailingZeros_0f7a4_78 ?_
            exact tj_iret (pc := 79) G dJ6_numberOfTrailingZeros_0f7a4_79
          refine tj_iinc (pc := 67) G 1 (fun x12 => [(1, vI x12), (0, vI y9)]) dJ6_numberOfTrailingZeros_0f7a4_67 rfl (by decide) (fun _ => rfl) (fun x12 => ?_)
          refine tj_iload_n (pc := 70) G 1 dJ6_numberOfTrailingZeros_0f7a4_70 rfl rfl ?_
          refine tj_iconst (pc := 71) G dJ6_numberOfTrailingZeros_0f7a4_71 ?_
          refine tj_iushr (pc := 72) G dJ6_numberOfTrailingZeros_0f7a4_72 ?_
          refine tj_istore_n (pc := 73) G (fun x13 => [(0, vI x13), (1, vI x12)]) dJ6_numberOfTrailingZeros_0f7a4_73 rfl (by decide) (fun _ => rfl) (fun x13 => ?_)
          refine tj_iload_n (pc := 74) G 1 dJ6_numberOfTrailingZeros_0f7a4_74 rfl rfl ?_
          refine tj_iload_n (pc := 75) G 0 dJ6_numberOfTrailingZeros_0f7a4_75 rfl rfl ?_
          refine tj_iconst (pc := 76) G dJ6_numberOfTrailingZeros_0f7a4_76 ?_
          refine tj_iushr (pc := 77) G dJ6_numberOfTrailingZeros_0f7a4_77 ?_
          refine tj_iadd (pc := 78) G dJ6_numberOfTrailingZeros_0f7a4_78 ?_
          exact tj_iret (pc := 79) G dJ6_numberOfTrailingZeros_0f7a4_79
        refine tj_icmp_le (pc := 52) G (tgt := 62) (a2 := w32 y6) (b2 := 16) dJ6_numberOfTrailingZeros_0f7a4_52 (by decide) rfl rfl ?_ ?_
        · exact tj_sub [0, 1] rfl (hj62 y6 y7 M8)
        refine tj_iinc (pc := 55) G 1 (fun x14 => [(1, vI x14), (0, vI y6)]) dJ6_numberOfTrailingZeros_0f7a4_55 rfl (by decide) (fun _ => rfl) (fun x14 => ?_)
        refine tj_iload_n (pc := 58) G 1 dJ6_numberOfTrailingZeros_0f7a4_58 rfl rfl ?_
        refine tj_iconst (pc := 59) G dJ6_numberOfTrailingZeros_0f7a4_59 ?_
        refine tj_iushr (pc := 60) G dJ6_numberOfTrailingZeros_0f7a4_60 ?_
        refine tj_istore_n (pc := 61) G (fun x15 => [(0, vI x15), (1, vI x14)]) dJ6_numberOfTrailingZeros_0f7a4_61 rfl (by decide) (fun _ => rfl) (fun x15 => ?_)
        exact tj_sub [0, 1] rfl (hj62 x15 x14 M8)
      refine tj_icmp_le (pc := 38) G (tgt := 49) (a2 := w32 y3) (b2 := 256) dJ6_numberOfTrailingZeros_0f7a4_38 (by decide) rfl rfl ?_ ?_
      · exact tj_sub [0, 1] rfl (hj49 y3 y4 M5)
      refine tj_iinc (pc := 41) G 1 (fun x16 => [(1, vI x16), (0, vI y3)]) dJ6_numberOfTrailingZeros_0f7a4_41 rfl (by decide) (fun _ => rfl) (fun x16 => ?_)
      refine tj_iload_n (pc := 44) G 1 dJ6_numberOfTrailingZeros_0f7a4_44 rfl rfl ?_
      refine tj_bipush (pc := 45) G dJ6_numberOfTrailingZeros_0f7a4_45 rfl ?_
      refine tj_iushr (pc := 47) G dJ6_numberOfTrailingZeros_0f7a4_47 ?_
      refine tj_istore_n (pc := 48) G (fun x17 => [(0, vI x17), (1, vI x16)]) dJ6_numberOfTrailingZeros_0f7a4_48 rfl (by decide) (fun _ => rfl) (fun x17 => ?_)
      exact tj_sub [0, 1] rfl (hj49 x17 x16 M5)
    refine tj_icmp_le (pc := 23) G (tgt := 34) (a2 := w32 x1) (b2 := 65536) dJ6_numberOfTrailingZeros_0f7a4_23 (by decide) rfl rfl ?_ ?_
    · exact tj_sub [1, 0] rfl (hj34 x1 x2 M)
    refine tj_iinc (pc := 26) G 0 (fun x18 => [(1, vI x18), (0, vI x1)]) dJ6_numberOfTrailingZeros_0f7a4_26 rfl (by decide) (fun _ => rfl) (fun x18 => ?_)
    refine tj_iload_n (pc := 29) G 1 dJ6_numberOfTrailingZeros_0f7a4_29 rfl rfl ?_
    refine tj_bipush (pc := 30) G dJ6_numberOfTrailingZeros_0f7a4_30 rfl ?_
    refine tj_iushr (pc := 32) G dJ6_numberOfTrailingZeros_0f7a4_32 ?_
    refine tj_istore_n (pc := 33) G (fun x19 => [(0, vI x19), (1, vI x18)]) dJ6_numberOfTrailingZeros_0f7a4_33 rfl (by decide) (fun _ => rfl) (fun x19 => ?_)
    exact tj_sub [0, 1] rfl (hj34 x19 x18 M)
  refine tj_iload_n (pc := 12) G 0 dJ6_numberOfTrailingZeros_0f7a4_12 rfl rfl ?_
  refine tj_bipush (pc := 13) G dJ6_numberOfTrailingZeros_0f7a4_13 rfl ?_
  refine tj_iand (pc := 15) G dJ6_numberOfTrailingZeros_0f7a4_15 ?_
  exact tj_iret (pc := 16) G dJ6_numberOfTrailingZeros_0f7a4_16

def fx_X11_parish_L19 (c1 : Int) (K56 : Int → tp_M → tp_O) (rec : Int → Int → tp_M → tp_O) (z6 z7 : Int) (M8 : tp_M) : tp_O :=
(if w32 z7 < w32 (M8 0 3) then
(tp_bd (fx_X11_parishOf z7 M8) (fun r10 M11 =>
(tp_bd (fx_J6_numberOfTrailingZeros_0f7a4 r10 M11) (fun r12 M13 =>
(tp_jn1 (fun y14 M15 => 
(tp_bd (fx_X11_flag y14 M15) (fun r16 M17 =>
(tp_lt (z6 + r16) (fun x18 =>
(tp_lt (z7 + 1) (fun x19 =>
(rec x18 x19 M17)))))))) (fun jk45 =>
(if w32 r12 = w32 z7 then
(jk45 1 M13)
else
(jk45 0 M13))))))))
else
(K56 z6 M8))
def fx_X11_parish  (a1 : Int) (M : tp_M) : tp_O :=
(tp_lm (tp_up M 0 0 0) (fun M1 =>
(tp_bd (fx_X11_isCrossing a1 M1) (fun r2 M3 =>
(if w32 r2 = 0 then
(some ((-1), M3))
else
(tp_lt 0 (fun x4 =>
(tp_lt 0 (fun x5 =>
(tp_lp2 (fx_X11_parish_L19 a1 (fun y9 M20 =>
(tp_lm (tp_up M20 0 1 0) (fun M21 =>
(tp_bd (fx_X11_enters (w32 y9) M21) (fun r22 M23 =>
(tp_bd (fx_X11_parishOf a1 M23) (fun r24 M25 =>
(some (r24, M25)))))))))) tp_F x4 x5 M3))))))))))
set_option maxRecDepth 100000 in
set_option maxHeartbeats 4000000 in
theorem fx_X11_parish_L19_ok {X : tp_X} {Y : tp_Y} (G : tp_Ok X Y 34 cX11_parish 4 RX11 (some .int))  {c1 : Int} {K56 : Int → tp_M → tp_O}   (hK56 : ∀ (y9 : Int) (M9 : tp_M), tp_J X Y LM 34 4 4 1 (K56 y9 M9) M9 [(0, vR X 0), (1, vI c1), (2, vI y9)] [] 56) (n : Nat) : ∀ (z6 z7 : Int) (M8 : tp_M), tp_J X Y LM 34 4 4 1 (tp_lp2 (fx_X11_parish_L19  c1 K56) n z6 z7 M8) M8 [(0, vR X 0), (1, vI c1), (2, vI z6), (3, vI z7)] [] 19 := by
  refine tp_lp2_ok (P := fun o z6 z7 M8 => tp_J X Y LM 34 4 4 1 (o) M8 [(0, vR X 0), (1, vI c1), (2, vI z6), (3, vI z7)] [] 19) (fun z6 z7 M8 => tj_none) (fun rec hrec z6 z7 M8 => ?_) n
  unfold fx_X11_parish_L19
  refine tj_iload_n (pc := 19) G 3 dX11_parish_19 rfl rfl ?_
  refine tj_aload_n (pc := 20) G 0 dX11_parish_20 rfl rfl ?_
  refine tj_getI (pc := 21) G (k := 0) (j := 3) (j2 := 3) tk_X11 (by decide) lm_0 rfl (by decide) rfl fl_X11_28 dX11_parish_21 ?_
  refine tj_icmp_ge (pc := 24) G (tgt := 56) (a2 := w32 z7) (b2 := w32 (M8 0 3)) dX11_parish_24 (by decide) rfl rfl ?_ ?_
  · exact tj_sub [0, 1, 2] rfl (hK56 z6 M8)
  refine tj_iload_n (pc := 27) G 2 dX11_parish_27 rfl rfl ?_
  refine tj_aload_n (pc := 28) G 0 dX11_parish_28 rfl rfl ?_
  refine tj_iload_n (pc := 29) G 3 dX11_parish_29 rfl rfl ?_
  refine tj_callVi (pc := 30) G [vI z7] mf_X11_parishOf (k := 0) (by decide) lm_0 rfl rfl ml_X11_402 (by decide) rfl rfl (Nat.le_of_ble_eq_true rfl) (fun _ h9 => ok_X11_parishOf X  h9) dX11_parish_30 (fun r10 M11 => ?_)
  refine tj_callSi (pc := 33) G [vI r10] mf_J6_numberOfTrailingZeros_0f7a4 ml_X11_405 (by decide) rfl rfl (Nat.le_of_ble_eq_true rfl) (fun _ h9 => ok_J6_numberOfTrailingZeros_0f7a4 X  h9) dX11_parish_33 (fun r12 M13 => ?_)
  refine tj_iload_n (pc := 36) G 3 dX11_parish_36 rfl rfl ?_
  refine tj_jn1 (fun y14 => [(0, vR X 0), (1, vI c1), (3, vI z7)]) (fun y14 => [vI y14, vI z6]) 45 (fun y14 M15 => ?_) (fun jk45 hj45 => ?_)
  · refine tj_callSi (pc := 45) G [vI y14] mf_X11_flag ml_X11_151 (by decide) rfl rfl (Nat.le_of_ble_eq_true rfl) (fun _ h9 => ok_X11_flag X  h9) dX11_parish_45 (fun r16 M17 => ?_)
    refine tj_iadd (pc := 48) G dX11_parish_48 ?_
    refine tj_istore_n (pc := 49) G (fun x18 => [(2, vI x18), (0, vR X 0), (1, vI c1), (3, vI z7)]) dX11_parish_49 rfl (by decide) (fun _ => rfl) (fun x18 => ?_)
    refine tj_iinc (pc := 50) G 3 (fun x19 => [(3, vI x19), (2, vI x18), (0, vR X 0), (1, vI c1)]) dX11_parish_50 rfl (by decide) (fun _ => rfl) (fun x19 => ?_)
    refine tj_goto (pc := 53) G (tgt := 19) dX11_parish_53 (by decide) ?_
    exact tj_sub [2, 3, 1, 0] rfl (hrec x18 x19 M17)
  refine tj_icmp_ne (pc := 37) G (tgt := 44) (a2 := w32 r12) (b2 := w32 z7) dX11_parish_37 (by decide) rfl rfl ?_ ?_
  · refine tj_iconst (pc := 44) G dX11_parish_44 ?_
    exact tj_sub [0, 1, 3] rfl (hj45 0 M13)
  refine tj_iconst (pc := 40) G dX11_parish_40 ?_
  refine tj_goto (pc := 41) G (tgt := 45) dX11_parish_41 (by decide) ?_
  exact tj_sub [0, 1, 3] rfl (hj45 1 M13)
set_option maxRecDepth 100000 in
set_option maxHeartbeats 4000000 in
theorem ok_X11_parish (X : tp_X)  {a1 : Int}  {M : tp_M} {res : Int × tp_M} (h : fx_X11_parish  a1 M = some res) : tp_Ret X LM 34 1 yX11_parish (Cond.code yX11_parish cX11_parish 4 (some .int)) 4 [vR X 0, vI a1] M res := by
  refine tp_ofW (by decide +kernel) rfl rfl (by show _ ≤ 4; exact Nat.le_of_ble_eq_true rfl) h (fun Y G => ?_)
  show tp_J X Y LM 34 4 4 1 (fx_X11_parish  a1 M) M [(0, vR X 0), (1, vI a1)] [] 0
  unfold fx_X11_parish
  refine tj_aload_n (pc := 0) G 0 dX11_parish_0 rfl rfl ?_
  refine tj_iconst (pc := 1) G dX11_parish_1 ?_
  refine tj_putI (pc := 2) G (k := 0) (j := 0) (j2 := 0) tk_X11 (by decide) lm_0 rfl (by decide) rfl fl_X11_3 rfl rfl dX11_parish_2 (fun M1 => ?_)
  refine tj_aload_n (pc := 5) G 0 dX11_parish_5 rfl rfl ?_
  refine tj_iload_n (pc := 6) G 1 dX11_parish_6 rfl rfl ?_
  refine tj_callVi (pc := 7) G [vI a1] mf_X11_isCrossing (k := 0) (by decide) lm_0 rfl rfl ml_X11_265 (by decide) rfl rfl (Nat.le_of_ble_eq_true rfl) (fun _ h9 => ok_X11_isCrossing X  h9) dX11_parish_7 (fun r2 M3 => ?_)
  refine tj_if_ne (pc := 10) G (tgt := 15) (a2 := w32 r2) dX11_parish_10 (by decide) rfl ?_ ?_
  · refine tj_iconst (pc := 15) G dX11_parish_15 ?_
    refine tj_istore_n (pc := 16) G (fun x4 => [(2, vI x4), (0, vR X 0), (1, vI a1)]) dX11_parish_16 rfl (by decide) (fun _ => rfl) (fun x4 => ?_)
    refine tj_iconst (pc := 17) G dX11_parish_17 ?_
    refine tj_istore_n (pc := 18) G (fun x5 => [(3, vI x5), (2, vI x4), (0, vR X 0), (1, vI a1)]) dX11_parish_18 rfl (by decide) (fun _ => rfl) (fun x5 => ?_)
    refine tj_sub [2, 3, 1, 0] rfl (fx_X11_parish_L19_ok G    (fun y9 M20 => ?_) tp_F x4 x5 M3)
    refine tj_aload_n (pc := 56) G 0 dX11_parish_56 rfl rfl ?_
    refine tj_iconst (pc := 57) G dX11_parish_57 ?_
    refine tj_putI (pc := 58) G (k := 0) (j := 1) (j2 := 1) tk_X11 (by decide) lm_0 rfl (by decide) rfl fl_X11_15 rfl rfl dX11_parish_58 (fun M21 => ?_)
    refine tj_aload_n (pc := 61) G 0 dX11_parish_61 rfl rfl ?_
    refine tj_iload_n (pc := 62) G 2 dX11_parish_62 rfl rfl ?_
    refine tj_i2l (pc := 63) G (b := w32 y9) dX11_parish_63 rfl ?_
    refine tj_callVv (pc := 64) G [vL (w32 y9)] mf_X11_enters (k := 0) (by decide) lm_0 rfl rfl ml_X11_18 (by decide) rfl rfl (Nat.le_of_ble_eq_true rfl) (fun _ h9 => ok_X11_enters X  h9) dX11_parish_64 (fun r22 M23 => ?_)
    refine tj_aload_n (pc := 67) G 0 dX11_parish_67 rfl rfl ?_
    refine tj_iload_n (pc := 68) G 1 dX11_parish_68 rfl rfl ?_
    refine tj_callVi (pc := 69) G [vI a1] mf_X11_parishOf (k := 0) (by decide) lm_0 rfl rfl ml_X11_402 (by decide) rfl rfl (Nat.le_of_ble_eq_true rfl) (fun _ h9 => ok_X11_parishOf X  h9) dX11_parish_69 (fun r24 M25 => ?_)
    exact tj_iret (pc := 72) G dX11_parish_72
  refine tj_iconst (pc := 13) G dX11_parish_13 ?_
  exact tj_iret (pc := 14) G dX11_parish_14

def fx_X11_cellOf  (a1 : Int) (a2 : Int) (M : tp_M) : tp_O :=
(some ((8 * a1) + a2, M))
set_option maxRecDepth 100000 in
set_option maxHeartbeats 4000000 in
theorem ok_X11_cellOf (X : tp_X)  {a1 : Int} {a2 : Int}  {M : tp_M} {res : Int × tp_M} (h : fx_X11_cellOf  a1 a2 M = some res) : tp_Ret X LM 34 1 yX11_cellOf (Cond.code yX11_cellOf cX11_cellOf 2 (some .int)) 1 [vI a1, vI a2] M res := by
  refine tp_ofW (by decide +kernel) rfl rfl (by show _ ≤ 2; exact Nat.le_of_ble_eq_true rfl) h (fun Y G => ?_)
  show tp_J X Y LM 34 2 1 1 (fx_X11_cellOf  a1 a2 M) M [(0, vI a1), (1, vI a2)] [] 0
  unfold fx_X11_cellOf
  refine tj_bipush (pc := 0) G dX11_cellOf_0 rfl ?_
  refine tj_iload_n (pc := 2) G 0 dX11_cellOf_2 rfl rfl ?_
  refine tj_imul (pc := 3) G dX11_cellOf_3 ?_
  refine tj_iload_n (pc := 4) G 1 dX11_cellOf_4 rfl rfl ?_
  refine tj_iadd (pc := 5) G dX11_cellOf_5 ?_
  exact tj_iret (pc := 6) G dX11_cellOf_6

def fx_X11_laysMatrix_L10 (c1 : Int) (c2 : Int) (K46 : tp_M → tp_O) (rec : Int → tp_M → tp_O) (z5 : Int) (M6 : tp_M) : tp_O :=
(if w32 z5 < 8 then
(tp_bd (fx_X11_cellOf c2 z5 M6) (fun r7 M8 =>
(tp_jn1 (fun y9 M10 => 
(tp_bd (fx_X11_flag y9 M10) (fun r11 M12 =>
(tp_ck (w32 r7) 64 (tp_lm (tp_up M12 21 (w32 r7) (w32 r11)) (fun M13 =>
(tp_lt (z5 + 1) (fun x14 =>
(rec x14 M13))))))))) (fun jk35 =>
(if w32 c2 = w32 z5 then
(jk35 1 M8)
else
(jk35 0 M8))))))
else
(K46 M6))
def fx_X11_laysMatrix_L2 (c1 : Int) (K52 : tp_M → tp_O) (rec : Int → tp_M → tp_O) (z2 : Int) (M3 : tp_M) : tp_O :=
(if w32 z2 < 8 then
(tp_lt 0 (fun x4 =>
(tp_lp1 (fx_X11_laysMatrix_L10 c1 z2 (fun M15 =>
(tp_lt (z2 + 1) (fun x16 =>
(rec x16 M15))))) tp_F x4 M3)))
else
(K52 M3))
def fx_X11_laysMatrix_L86 (c1 : Int) (c2 : Int) (K144 : tp_M → tp_O) (rec : Int → tp_M → tp_O) (z27 : Int) (M28 : tp_M) : tp_O :=
(tp_ck (w32 c2) 8 (if w32 z27 < w32 (M28 2 (w32 c2)) then
(tp_bd (fx_X11_goalOf c2 z27 M28) (fun r29 M30 =>
(tp_lt r29 (fun x31 =>
(tp_bd (fx_X11_cellOf c2 x31 M30) (fun r32 M33 =>
(tp_ck (w32 r32) 64 (tp_jn1 (fun y34 M35 => 
(tp_bd (fx_X11_flag y34 M35) (fun r36 M37 =>
(tp_ck (w32 r32) 64 (tp_lm (tp_up M37 21 (w32 r32) ((M33 21 (w32 r32)) - (w32 r36))) (fun M38 =>
(tp_lt (z27 + 1) (fun x39 =>
(rec x39 M38))))))))) (fun jk132 =>
(tp_jn0 (fun M40 => 
(jk132 0 M40)) (fun jk131 =>
(if w32 x31 ≤ 0 then
(jk131 M33)
else
(if w32 x31 = w32 c1 then
(jk131 M33)
else
(jk132 1 M33))))))))))))))
else
(K144 M28)))
def fx_X11_laysMatrix_L54 (c1 : Int) (rec : Int → tp_M → tp_O) (z19 : Int) (M20 : tp_M) : tp_O :=
(if w32 z19 < w32 (M20 0 3) then
(tp_jn0 (fun M21 => 
(tp_lt (z19 + 1) (fun x22 =>
(rec x22 M21)))) (fun jk144 =>
(if w32 z19 = w32 c1 then
(jk144 M20)
else
(tp_bd (fx_X11_cellOf z19 z19 M20) (fun r23 M24 =>
(tp_ck (w32 z19) 8 (tp_ck (w32 r23) 64 (tp_lm (tp_up M24 21 (w32 r23) (w32 (M24 2 (w32 z19)))) (fun M25 =>
(tp_lt 0 (fun x26 =>
(tp_lp1 (fx_X11_laysMatrix_L86 c1 z19 (fun M41 =>
(jk144 M41))) tp_F x26 M25))))))))))))
else
(some (0, M20)))
def fx_X11_laysMatrix  (a1 : Int) (M : tp_M) : tp_O :=
(tp_lt 0 (fun x1 =>
(tp_lp1 (fx_X11_laysMatrix_L2 a1 (fun M17 =>
(tp_lt 1 (fun x18 =>
(tp_lp1 (fx_X11_laysMatrix_L54 a1 ) tp_F x18 M17))))) tp_F x1 M)))
set_option maxRecDepth 100000 in
set_option maxHeartbeats 4000000 in
theorem fx_X11_laysMatrix_L10_ok {X : tp_X} {Y : tp_Y} (G : tp_Ok X Y 34 cX11_laysMatrix 5 RX11 none)  {c1 : Int} {c2 : Int} {K46 : tp_M → tp_O}   (hK46 : ∀ (M9 : tp_M), tp_J X Y LM 34 5 2 0 (K46  M9) M9 [(0, vR X 0), (1, vI c1), (2, vI c2)] [] 46) (n : Nat) : ∀ (z5 : Int) (M6 : tp_M), tp_J X Y LM 34 5 2 0 (tp_lp1 (fx_X11_laysMatrix_L10  c1 c2 K46) n z5 M6) M6 [(0, vR X 0), (1, vI c1), (2, vI c2), (3, vI z5)] [] 10 := by
  refine tp_lp1_ok (P := fun o z5 M6 => tp_J X Y LM 34 5 2 0 (o) M6 [(0, vR X 0), (1, vI c1), (2, vI c2), (3, vI z5)] [] 10) (fun z5 M6 => tj_none) (fun rec hrec z5 M6 => ?_) n
  unfold fx_X11_laysMatrix_L10
  refine tj_iload_n (pc := 10) G 3 dX11_laysMatrix_10 rfl rfl ?_
  refine tj_bipush (pc := 11) G dX11_laysMatrix_11 rfl ?_
  refine tj_icmp_ge (pc := 13) G (tgt := 46) (a2 := w32 z5) (b2 := 8) dX11_laysMatrix_13 (by decide) rfl rfl ?_ ?_
  · exact tj_sub [0, 1, 2] rfl (hK46  M6)
  refine tj_aload_n (pc := 16) G 0 dX11_laysMatrix_16 rfl rfl ?_
  refine tj_getR (pc := 17) G (k := 0) (j := 35) (j2 := 35) tk_X11 (by decide) lm_0 rfl (by decide) rfl fl_X11_89 dX11_laysMatrix_17 ?_
  refine tj_iload_n (pc := 20) G 2 dX11_laysMatrix_20 rfl rfl ?_
  refine tj_iload_n (pc := 21) G 3 dX11_laysMatrix_21 rfl rfl ?_
  refine tj_callSi (pc := 22) G [vI c2, vI z5] mf_X11_cellOf ml_X11_408 (by decide) rfl rfl (Nat.le_of_ble_eq_true rfl) (fun _ h9 => ok_X11_cellOf X  h9) dX11_laysMatrix_22 (fun r7 M8 => ?_)
  refine tj_iload_n (pc := 25) G 2 dX11_laysMatrix_25 rfl rfl ?_
  refine tj_iload_n (pc := 26) G 3 dX11_laysMatrix_26 rfl rfl ?_
  refine tj_jn1 (fun y9 => [(0, vR X 0), (1, vI c1), (2, vI c2), (3, vI z5)]) (fun y9 => [vI y9, vI r7, vR X 21]) 35 (fun y9 M10 => ?_) (fun jk35 hj35 => ?_)
  · refine tj_callSi (pc := 35) G [vI y9] mf_X11_flag ml_X11_151 (by decide) rfl rfl (Nat.le_of_ble_eq_true rfl) (fun _ h9 => ok_X11_flag X  h9) dX11_laysMatrix_35 (fun r11 M12 => ?_)
    refine tj_i2l (pc := 38) G (b := w32 r11) dX11_laysMatrix_38 rfl ?_
    refine tj_last (pc := 39) G (k := 21) (i2 := w32 r7) (n2 := 64) (by decide) lm_21 rfl rfl dX11_laysMatrix_39 (fun M13 => ?_)
    refine tj_iinc (pc := 40) G 3 (fun x14 => [(3, vI x14), (0, vR X 0), (1, vI c1), (2, vI c2)]) dX11_laysMatrix_40 rfl (by decide) (fun _ => rfl) (fun x14 => ?_)
    refine tj_goto (pc := 43) G (tgt := 10) dX11_laysMatrix_43 (by decide) ?_
    exact tj_sub [1, 2, 3, 0] rfl (hrec x14 M13)
  refine tj_icmp_ne (pc := 27) G (tgt := 34) (a2 := w32 c2) (b2 := w32 z5) dX11_laysMatrix_27 (by decide) rfl rfl ?_ ?_
  · refine tj_iconst (pc := 34) G dX11_laysMatrix_34 ?_
    exact tj_sub [0, 1, 2, 3] rfl (hj35 0 M8)
  refine tj_iconst (pc := 30) G dX11_laysMatrix_30 ?_
  refine tj_goto (pc := 31) G (tgt := 35) dX11_laysMatrix_31 (by decide) ?_
  exact tj_sub [0, 1, 2, 3] rfl (hj35 1 M8)
set_option maxRecDepth 100000 in
set_option maxHeartbeats 4000000 in
theorem fx_X11_laysMatrix_L2_ok {X : tp_X} {Y : tp_Y} (G : tp_Ok X Y 34 cX11_laysMatrix 5 RX11 none)  {c1 : Int} {K52 : tp_M → tp_O}   (hK52 : ∀ (M9 : tp_M), tp_J X Y LM 34 5 2 0 (K52  M9) M9 [(0, vR X 0), (1, vI c1)] [] 52) (n : Nat) : ∀ (z2 : Int) (M3 : tp_M), tp_J X Y LM 34 5 2 0 (tp_lp1 (fx_X11_laysMatrix_L2  c1 K52) n z2 M3) M3 [(0, vR X 0), (1, vI c1), (2, vI z2)] [] 2 := by
  refine tp_lp1_ok (P := fun o z2 M3 => tp_J X Y LM 34 5 2 0 (o) M3 [(0, vR X 0), (1, vI c1), (2, vI z2)] [] 2) (fun z2 M3 => tj_none) (fun rec hrec z2 M3 => ?_) n
  unfold fx_X11_laysMatrix_L2
  refine tj_iload_n (pc := 2) G 2 dX11_laysMatrix_2 rfl rfl ?_
  refine tj_bipush (pc := 3) G dX11_laysMatrix_3 rfl ?_
  refine tj_icmp_ge (pc := 5) G (tgt := 52) (a2 := w32 z2) (b2 := 8) dX11_laysMatrix_5 (by decide) rfl rfl ?_ ?_
  · exact tj_sub [0, 1] rfl (hK52  M3)
  refine tj_iconst (pc := 8) G dX11_laysMatrix_8 ?_
  refine tj_istore_n (pc := 9) G (fun x4 => [(3, vI x4), (0, vR X 0), (1, vI c1), (2, vI z2)]) dX11_laysMatrix_9 rfl (by decide) (fun _ => rfl) (fun x4 => ?_)
  refine tj_sub [1, 2, 3, 0] rfl (fx_X11_laysMatrix_L10_ok G    (fun M15 => ?_) tp_F x4 M3)
  refine tj_iinc (pc := 46) G 2 (fun x16 => [(2, vI x16), (0, vR X 0), (1, vI c1)]) dX11_laysMatrix_46 rfl (by decide) (fun _ => rfl) (fun x16 => ?_)
  refine tj_goto (pc := 49) G (tgt := 2) dX11_laysMatrix_49 (by decide) ?_
  exact tj_sub [1, 2, 0] rfl (hrec x16 M15)
set_option maxRecDepth 100000 in
set_option maxHeartbeats 4000000 in
theorem fx_X11_laysMatrix_L86_ok {X : tp_X} {Y : tp_Y} (G : tp_Ok X Y 34 cX11_laysMatrix 5 RX11 none)  {c1 : Int} {c2 : Int} {K144 : tp_M → tp_O}   (hK144 : ∀ (M9 : tp_M), tp_J X Y LM 34 5 2 0 (K144  M9) M9 [(0, vR X 0), (1, vI c1), (2, vI c2)] [] 144) (n : Nat) : ∀ (z27 : Int) (M28 : tp_M), tp_J X Y LM 34 5 2 0 (tp_lp1 (fx_X11_laysMatrix_L86  c1 c2 K144) n z27 M28) M28 [(0, vR X 0), (1, vI c1), (2, vI c2), (3, vI z27)] [] 86 := by
  refine tp_lp1_ok (P := fun o z27 M28 => tp_J X Y LM 34 5 2 0 (o) M28 [(0, vR X 0), (1, vI c1), (2, vI c2), (3, vI z27)] [] 86) (fun z27 M28 => tj_none) (fun rec hrec z27 M28 => ?_) n
  unfold fx_X11_laysMatrix_L86
  refine tj_iload_n (pc := 86) G 3 dX11_laysMatrix_86 rfl rfl ?_
  refine tj_aload_n (pc := 87) G 0 dX11_laysMatrix_87 rfl rfl ?_
  refine tj_getR (pc := 88) G (k := 0) (j := 4) (j2 := 4) tk_X11 (by decide) lm_0 rfl (by decide) rfl fl_X11_31 dX11_laysMatrix_88 ?_
  refine tj_iload_n (pc := 91) G 2 dX11_laysMatrix_91 rfl rfl ?_
  refine tj_iald (pc := 92) G (k := 2) (i2 := w32 c2) (n2 := 8) (by decide) lm_2 rfl rfl dX11_laysMatrix_92 ?_
  refine tj_icmp_ge (pc := 93) G (tgt := 144) (a2 := w32 z27) (b2 := w32 (M28 2 (w32 c2))) dX11_laysMatrix_93 (by decide) rfl rfl ?_ ?_
  · exact tj_sub [0, 1, 2] rfl (hK144  M28)
  refine tj_aload_n (pc := 96) G 0 dX11_laysMatrix_96 rfl rfl ?_
  refine tj_iload_n (pc := 97) G 2 dX11_laysMatrix_97 rfl rfl ?_
  refine tj_iload_n (pc := 98) G 3 dX11_laysMatrix_98 rfl rfl ?_
  refine tj_callVi (pc := 99) G [vI c2, vI z27] mf_X11_goalOf (k := 0) (by decide) lm_0 rfl rfl ml_X11_255 (by decide) rfl rfl (Nat.le_of_ble_eq_true rfl) (fun _ h9 => ok_X11_goalOf X  h9) dX11_laysMatrix_99 (fun r29 M30 => ?_)
  refine tj_istore (pc := 102) G (fun x31 => [(4, vI x31), (0, vR X 0), (1, vI c1), (2, vI c2), (3, vI z27)]) dX11_laysMatrix_102 (by decide) (fun _ => rfl) (fun x31 => ?_)
  refine tj_aload_n (pc := 104) G 1 dX11_laysMatrix_104 rfl rfl ?_
  refine tj_getR (pc := 105) G (k := 0) (j := 35) (j2 := 35) tk_X11 (by decide) lm_0 rfl (by decide) rfl fl_X11_89 dX11_laysMatrix_105 ?_
  refine tj_iload_n (pc := 108) G 3 dX11_laysMatrix_108 rfl rfl ?_
  refine tj_iload (pc := 109) G 0 dX11_laysMatrix_109 rfl ?_
  refine tj_callSi (pc := 111) G [vI c2, vI x31] mf_X11_cellOf ml_X11_408 (by decide) rfl rfl (Nat.le_of_ble_eq_true rfl) (fun _ h9 => ok_X11_cellOf X  h9) dX11_laysMatrix_111 (fun r32 M33 => ?_)
  refine tj_dup2 (pc := 114) G dX11_laysMatrix_114 rfl rfl ?_
  refine tj_lald (pc := 115) G (k := 21) (i2 := w32 r32) (n2 := 64) (by decide) lm_21 rfl rfl dX11_laysMatrix_115 ?_
  refine tj_iload (pc := 116) G 0 dX11_laysMatrix_116 rfl ?_
  refine tj_jn1 (fun y34 => [(0, vR X 0), (1, vI c1), (2, vI c2), (3, vI z27)]) (fun y34 => [vI y34, vL (M33 21 (w32 r32)), vI r32, vR X 21]) 132 (fun y34 M35 => ?_) (fun jk132 hj132 => ?_)
  · refine tj_callSi (pc := 132) G [vI y34] mf_X11_flag ml_X11_151 (by decide) rfl rfl (Nat.le_of_ble_eq_true rfl) (fun _ h9 => ok_X11_flag X  h9) dX11_laysMatrix_132 (fun r36 M37 => ?_)
    refine tj_i2l (pc := 135) G (b := w32 r36) dX11_laysMatrix_135 rfl ?_
    refine tj_lsub (pc := 136) G dX11_laysMatrix_136 ?_
    refine tj_last (pc := 137) G (k := 21) (i2 := w32 r32) (n2 := 64) (by decide) lm_21 rfl rfl dX11_laysMatrix_137 (fun M38 => ?_)
    refine tj_iinc (pc := 138) G 3 (fun x39 => [(3, vI x39), (0, vR X 0), (1, vI c1), (2, vI c2)]) dX11_laysMatrix_138 rfl (by decide) (fun _ => rfl) (fun x39 => ?_)
    refine tj_goto (pc := 141) G (tgt := 86) dX11_laysMatrix_141 (by decide) ?_
    exact tj_sub [1, 2, 3, 0] rfl (hrec x39 M38)
  refine tj_jn0 [(0, vR X 0), (1, vI c1), (2, vI c2), (3, vI z27)] [vL (M33 21 (w32 r32)), vI r32, vR X 21] 131 (fun M40 => ?_) (fun jk131 hj131 => ?_)
  · refine tj_iconst (pc := 131) G dX11_laysMatrix_131 ?_
    exact tj_sub [0, 1, 2, 3] rfl (hj132 0 M40)
  refine tj_if_le (pc := 118) G (tgt := 131) (a2 := w32 x31) dX11_laysMatrix_118 (by decide) rfl ?_ ?_
  · exact tj_sub [1, 2, 3, 4] rfl (hj131  M33)
  refine tj_iload (pc := 121) G 0 dX11_laysMatrix_121 rfl ?_
  refine tj_iload_n (pc := 123) G 2 dX11_laysMatrix_123 rfl rfl ?_
  refine tj_icmp_eq (pc := 124) G (tgt := 131) (a2 := w32 x31) (b2 := w32 c1) dX11_laysMatrix_124 (by decide) rfl rfl ?_ ?_
  · exact tj_sub [1, 2, 3, 4] rfl (hj131  M33)
  refine tj_iconst (pc := 127) G dX11_laysMatrix_127 ?_
  refine tj_goto (pc := 128) G (tgt := 132) dX11_laysMatrix_128 (by decide) ?_
  exact tj_sub [1, 2, 3, 4] rfl (hj132 1 M33)
set_option maxRecDepth 100000 in
set_option maxHeartbeats 4000000 in
theorem fx_X11_laysMatrix_L54_ok {X : tp_X} {Y : tp_Y} (G : tp_Ok X Y 34 cX11_laysMatrix 5 RX11 none)  {c1 : Int}    (n : Nat) : ∀ (z19 : Int) (M20 : tp_M), tp_J X Y LM 34 5 2 0 (tp_lp1 (fx_X11_laysMatrix_L54  c1 ) n z19 M20) M20 [(0, vR X 0), (1, vI c1), (2, vI z19)] [] 54 := by
  refine tp_lp1_ok (P := fun o z19 M20 => tp_J X Y LM 34 5 2 0 (o) M20 [(0, vR X 0), (1, vI c1), (2, vI z19)] [] 54) (fun z19 M20 => tj_none) (fun rec hrec z19 M20 => ?_) n
  unfold fx_X11_laysMatrix_L54
  refine tj_iload_n (pc := 54) G 2 dX11_laysMatrix_54 rfl rfl ?_
  refine tj_aload_n (pc := 55) G 0 dX11_laysMatrix_55 rfl rfl ?_
  refine tj_getI (pc := 56) G (k := 0) (j := 3) (j2 := 3) tk_X11 (by decide) lm_0 rfl (by decide) rfl fl_X11_28 dX11_laysMatrix_56 ?_
  refine tj_icmp_ge (pc := 59) G (tgt := 150) (a2 := w32 z19) (b2 := w32 (M20 0 3)) dX11_laysMatrix_59 (by decide) rfl rfl ?_ ?_
  · exact tj_vret (pc := 150) G dX11_laysMatrix_150
  refine tj_iload_n (pc := 62) G 2 dX11_laysMatrix_62 rfl rfl ?_
  refine tj_iload_n (pc := 63) G 1 dX11_laysMatrix_63 rfl rfl ?_
  refine tj_jn0 [(0, vR X 0), (1, vI c1), (2, vI z19)] [] 144 (fun M21 => ?_) (fun jk144 hj144 => ?_)
  · refine tj_iinc (pc := 144) G 2 (fun x22 => [(2, vI x22), (0, vR X 0), (1, vI c1)]) dX11_laysMatrix_144 rfl (by decide) (fun _ => rfl) (fun x22 => ?_)
    refine tj_goto (pc := 147) G (tgt := 54) dX11_laysMatrix_147 (by decide) ?_
    exact tj_sub [1, 2, 0] rfl (hrec x22 M21)
  refine tj_icmp_eq (pc := 64) G (tgt := 144) (a2 := w32 z19) (b2 := w32 c1) dX11_laysMatrix_64 (by decide) rfl rfl ?_ ?_
  · exact tj_sub [0, 1, 2] rfl (hj144  M20)
  refine tj_aload_n (pc := 67) G 0 dX11_laysMatrix_67 rfl rfl ?_
  refine tj_getR (pc := 68) G (k := 0) (j := 35) (j2 := 35) tk_X11 (by decide) lm_0 rfl (by decide) rfl fl_X11_89 dX11_laysMatrix_68 ?_
  refine tj_iload_n (pc := 71) G 2 dX11_laysMatrix_71 rfl rfl ?_
  refine tj_iload_n (pc := 72) G 2 dX11_laysMatrix_72 rfl rfl ?_
  refine tj_callSi (pc := 73) G [vI z19, vI z19] mf_X11_cellOf ml_X11_408 (by decide) rfl rfl (Nat.le_of_ble_eq_true rfl) (fun _ h9 => ok_X11_cellOf X  h9) dX11_laysMatrix_73 (fun r23 M24 => ?_)
  refine tj_aload_n (pc := 76) G 0 dX11_laysMatrix_76 rfl rfl ?_
  refine tj_getR (pc := 77) G (k := 0) (j := 4) (j2 := 4) tk_X11 (by decide) lm_0 rfl (by decide) rfl fl_X11_31 dX11_laysMatrix_77 ?_
  refine tj_iload_n (pc := 80) G 2 dX11_laysMatrix_80 rfl rfl ?_
  refine tj_iald (pc := 81) G (k := 2) (i2 := w32 z19) (n2 := 8) (by decide) lm_2 rfl rfl dX11_laysMatrix_81 ?_
  refine tj_i2l (pc := 82) G (b := w32 (M24 2 (w32 z19))) dX11_laysMatrix_82 rfl ?_
  refine tj_last (pc := 83) G (k := 21) (i2 := w32 r23) (n2 := 64) (by decide) lm_21 rfl rfl dX11_laysMatrix_83 (fun M25 => ?_)
  refine tj_iconst (pc := 84) G dX11_laysMatrix_84 ?_
  refine tj_istore_n (pc := 85) G (fun x26 => [(3, vI x26), (0, vR X 0), (1, vI c1), (2, vI z19)]) dX11_laysMatrix_85 rfl (by decide) (fun _ => rfl) (fun x26 => ?_)
  refine tj_sub [1, 2, 3, 0] rfl (fx_X11_laysMatrix_L86_ok G    (fun M41 => ?_) tp_F x26 M25)
  exact tj_sub [0, 1, 2] rfl (hj144  M41)
set_option maxRecDepth 100000 in
set_option maxHeartbeats 4000000 in
theorem ok_X11_laysMatrix (X : tp_X)  {a1 : Int}  {M : tp_M} {res : Int × tp_M} (h : fx_X11_laysMatrix  a1 M = some res) : tp_Ret X LM 34 0 yX11_laysMatrix (Cond.code yX11_laysMatrix cX11_laysMatrix 5 none) 2 [vR X 0, vI a1] M res := by
  refine tp_ofW (by decide +kernel) rfl rfl (by show _ ≤ 5; exact Nat.le_of_ble_eq_true rfl) h (fun Y G => ?_)
  show tp_J X Y LM 34 5 2 0 (fx_X11_laysMatrix  a1 M) M [(0, vR X 0), (1, vI a1)] [] 0
  unfold fx_X11_laysMatrix
  refine tj_iconst (pc := 0) G dX11_laysMatrix_0 ?_
  refine tj_istore_n (pc := 1) G (fun x1 => [(2, vI x1), (0, vR X 0), (1, vI a1)]) dX11_laysMatrix_1 rfl (by decide) (fun _ => rfl) (fun x1 => ?_)
  refine tj_sub [1, 2, 0] rfl (fx_X11_laysMatrix_L2_ok G    (fun M17 => ?_) tp_F x1 M)
  refine tj_iconst (pc := 52) G dX11_laysMatrix_52 ?_
  refine tj_istore_n (pc := 53) G (fun x18 => [(2, vI x18), (0, vR X 0), (1, vI a1)]) dX11_laysMatrix_53 rfl (by decide) (fun _ => rfl) (fun x18 => ?_)
  refine tj_sub [1, 2, 0] rfl (fx_X11_laysMatrix_L54_ok G     tp_F x18 M17)

def fx_X11_swapsUp_L2 (c1 : Int) (K29 : Int → tp_M → tp_O) (rec : Int → tp_M → tp_O) (z2 : Int) (M3 : tp_M) : tp_O :=
(if w32 z2 < 8 then
(tp_bd (fx_X11_cellOf z2 c1 M3) (fun r5 M6 =>
(tp_ck (w32 r5) 64 (if x_lcmp (M6 21 (w32 r5)) 0 = 0 then
(tp_lt (z2 + 1) (fun x7 =>
(rec x7 M6)))
else
(K29 z2 M6)))))
else
(K29 z2 M3))
def fx_X11_swapsUp_L39 (c1 : Int) (c2 : Int) (K100 : tp_M → tp_O) (rec : Int → tp_M → tp_O) (z10 : Int) (M11 : tp_M) : tp_O :=
(if w32 z10 < 8 then
(if w32 c2 = w32 c1 then
(K100 M11)
else
(tp_bd (fx_X11_cellOf c1 z10 M11) (fun r12 M13 =>
(tp_ck (w32 r12) 64 (tp_lt (M13 21 (w32 r12)) (fun x14 =>
(tp_bd (fx_X11_cellOf c1 z10 M13) (fun r15 M16 =>
(tp_bd (fx_X11_cellOf c2 z10 M16) (fun r17 M18 =>
(tp_ck (w32 r17) 64 (tp_ck (w32 r15) 64 (tp_lm (tp_up M18 21 (w32 r15) (M18 21 (w32 r17))) (fun M19 =>
(tp_bd (fx_X11_cellOf c2 z10 M19) (fun r20 M21 =>
(tp_ck (w32 r20) 64 (tp_lm (tp_up M21 21 (w32 r20) x14) (fun M22 =>
(tp_lt (z10 + 1) (fun x23 =>
(rec x23 M22))))))))))))))))))))))
else
(K100 M11))
def fx_X11_swapsUp  (a1 : Int) (M : tp_M) : tp_O :=
(tp_lt a1 (fun x1 =>
(tp_lp1 (fx_X11_swapsUp_L2 a1 (fun y4 M8 =>
(if w32 y4 = 8 then
(some (0, M8))
else
(tp_lt 0 (fun x9 =>
(tp_lp1 (fx_X11_swapsUp_L39 a1 y4 (fun M24 =>
(if w32 y4 = w32 a1 then
(tp_lm (tp_up M24 0 36 ((M24 0 36) * 1)) (fun M26 =>
(some (1, M26))))
else
(tp_lm (tp_up M24 0 36 ((M24 0 36) * (-1))) (fun M25 =>
(some (1, M25))))))) tp_F x9 M8)))))) tp_F x1 M)))
set_option maxRecDepth 100000 in
set_option maxHeartbeats 4000000 in
theorem fx_X11_swapsUp_L2_ok {X : tp_X} {Y : tp_Y} (G : tp_Ok X Y 34 cX11_swapsUp 6 RX11 (some .boolean))  {c1 : Int} {K29 : Int → tp_M → tp_O}   (hK29 : ∀ (y4 : Int) (M9 : tp_M), tp_J X Y LM 34 6 2 1 (K29 y4 M9) M9 [(0, vR X 0), (1, vI c1), (2, vI y4)] [] 29) (n : Nat) : ∀ (z2 : Int) (M3 : tp_M), tp_J X Y LM 34 6 2 1 (tp_lp1 (fx_X11_swapsUp_L2  c1 K29) n z2 M3) M3 [(0, vR X 0), (1, vI c1), (2, vI z2)] [] 2 := by
  refine tp_lp1_ok (P := fun o z2 M3 => tp_J X Y LM 34 6 2 1 (o) M3 [(0, vR X 0), (1, vI c1), (2, vI z2)] [] 2) (fun z2 M3 => tj_none) (fun rec hrec z2 M3 => ?_) n
  unfold fx_X11_swapsUp_L2
  refine tj_iload_n (pc := 2) G 2 dX11_swapsUp_2 rfl rfl ?_
  refine tj_bipush (pc := 3) G dX11_swapsUp_3 rfl ?_
  refine tj_icmp_ge (pc := 5) G (tgt := 29) (a2 := w32 z2) (b2 := 8) dX11_swapsUp_5 (by decide) rfl rfl ?_ ?_
  · exact tj_sub [0, 1, 2] rfl (hK29 z2 M3)
  refine tj_aload_n (pc := 8) G 0 dX11_swapsUp_8 rfl rfl ?_
  refine tj_getR (pc := 9) G (k := 0) (j := 35) (j2 := 35) tk_X11 (by decide) lm_0 rfl (by decide) rfl fl_X11_89 dX11_swapsUp_9 ?_
  refine tj_iload_n (pc := 12) G 2 dX11_swapsUp_12 rfl rfl ?_
  refine tj_iload_n (pc := 13) G 1 dX11_swapsUp_13 rfl rfl ?_
  refine tj_callSi (pc := 14) G [vI z2, vI c1] mf_X11_cellOf ml_X11_408 (by decide) rfl rfl (Nat.le_of_ble_eq_true rfl) (fun _ h9 => ok_X11_cellOf X  h9) dX11_swapsUp_14 (fun r5 M6 => ?_)
  refine tj_lald (pc := 17) G (k := 21) (i2 := w32 r5) (n2 := 64) (by decide) lm_21 rfl rfl dX11_swapsUp_17 ?_
  refine tj_lconst (pc := 18) G (v := 0) dX11_swapsUp_18 rfl ?_
  refine tj_lcmp (pc := 19) G dX11_swapsUp_19 ?_
  refine tj_if_ne (pc := 20) G (tgt := 29) (a2 := x_lcmp (M6 21 (w32 r5)) 0) dX11_swapsUp_20 (by decide) (w32_lcmp _ _) ?_ ?_
  · exact tj_sub [0, 1, 2] rfl (hK29 z2 M6)
  refine tj_iinc (pc := 23) G 2 (fun x7 => [(2, vI x7), (0, vR X 0), (1, vI c1)]) dX11_swapsUp_23 rfl (by decide) (fun _ => rfl) (fun x7 => ?_)
  refine tj_goto (pc := 26) G (tgt := 2) dX11_swapsUp_26 (by decide) ?_
  exact tj_sub [1, 2, 0] rfl (hrec x7 M6)
set_option maxRecDepth 100000 in
set_option maxHeartbeats 4000000 in
theorem fx_X11_swapsUp_L39_ok {X : tp_X} {Y : tp_Y} (G : tp_Ok X Y 34 cX11_swapsUp 6 RX11 (some .boolean))  {c1 : Int} {c2 : Int} {K100 : tp_M → tp_O}   (hK100 : ∀ (M9 : tp_M), tp_J X Y LM 34 6 2 1 (K100  M9) M9 [(0, vR X 0), (1, vI c1), (2, vI c2)] [] 100) (n : Nat) : ∀ (z10 : Int) (M11 : tp_M), tp_J X Y LM 34 6 2 1 (tp_lp1 (fx_X11_swapsUp_L39  c1 c2 K100) n z10 M11) M11 [(0, vR X 0), (1, vI c1), (2, vI c2), (3, vI z10)] [] 39 := by
  refine tp_lp1_ok (P := fun o z10 M11 => tp_J X Y LM 34 6 2 1 (o) M11 [(0, vR X 0), (1, vI c1), (2, vI c2), (3, vI z10)] [] 39) (fun z10 M11 => tj_none) (fun rec hrec z10 M11 => ?_) n
  unfold fx_X11_swapsUp_L39
  refine tj_iload_n (pc := 39) G 3 dX11_swapsUp_39 rfl rfl ?_
  refine tj_bipush (pc := 40) G dX11_swapsUp_40 rfl ?_
  refine tj_icmp_ge (pc := 42) G (tgt := 100) (a2 := w32 z10) (b2 := 8) dX11_swapsUp_42 (by decide) rfl rfl ?_ ?_
  · exact tj_sub [0, 1, 2] rfl (hK100  M11)
  refine tj_iload_n (pc := 45) G 2 dX11_swapsUp_45 rfl rfl ?_
  refine tj_iload_n (pc := 46) G 1 dX11_swapsUp_46 rfl rfl ?_
  refine tj_icmp_eq (pc := 47) G (tgt := 100) (a2 := w32 c2) (b2 := w32 c1) dX11_swapsUp_47 (by decide) rfl rfl ?_ ?_
  · exact tj_sub [0, 1, 2] rfl (hK100  M11)
  refine tj_aload_n (pc := 50) G 0 dX11_swapsUp_50 rfl rfl ?_
  refine tj_getR (pc := 51) G (k := 0) (j := 35) (j2 := 35) tk_X11 (by decide) lm_0 rfl (by decide) rfl fl_X11_89 dX11_swapsUp_51 ?_
  refine tj_iload_n (pc := 54) G 1 dX11_swapsUp_54 rfl rfl ?_
  refine tj_iload_n (pc := 55) G 3 dX11_swapsUp_55 rfl rfl ?_
  refine tj_callSi (pc := 56) G [vI c1, vI z10] mf_X11_cellOf ml_X11_408 (by decide) rfl rfl (Nat.le_of_ble_eq_true rfl) (fun _ h9 => ok_X11_cellOf X  h9) dX11_swapsUp_56 (fun r12 M13 => ?_)
  refine tj_lald (pc := 59) G (k := 21) (i2 := w32 r12) (n2 := 64) (by decide) lm_21 rfl rfl dX11_swapsUp_59 ?_
  refine tj_lstore (pc := 60) G (fun x14 => [(4, vL x14), (0, vR X 0), (1, vI c1), (2, vI c2), (3, vI z10)]) dX11_swapsUp_60 (by decide) (fun _ => rfl) (fun x14 => ?_)
  refine tj_aload_n (pc := 62) G 1 dX11_swapsUp_62 rfl rfl ?_
  refine tj_getR (pc := 63) G (k := 0) (j := 35) (j2 := 35) tk_X11 (by decide) lm_0 rfl (by decide) rfl fl_X11_89 dX11_swapsUp_63 ?_
  refine tj_iload_n (pc := 66) G 2 dX11_swapsUp_66 rfl rfl ?_
  refine tj_iload_n (pc := 67) G 4 dX11_swapsUp_67 rfl rfl ?_
  refine tj_callSi (pc := 68) G [vI c1, vI z10] mf_X11_cellOf ml_X11_408 (by decide) rfl rfl (Nat.le_of_ble_eq_true rfl) (fun _ h9 => ok_X11_cellOf X  h9) dX11_swapsUp_68 (fun r15 M16 => ?_)
  refine tj_aload_n (pc := 71) G 1 dX11_swapsUp_71 rfl rfl ?_
  refine tj_getR (pc := 72) G (k := 0) (j := 35) (j2 := 35) tk_X11 (by decide) lm_0 rfl (by decide) rfl fl_X11_89 dX11_swapsUp_72 ?_
  refine tj_iload_n (pc := 75) G 3 dX11_swapsUp_75 rfl rfl ?_
  refine tj_iload_n (pc := 76) G 4 dX11_swapsUp_76 rfl rfl ?_
  refine tj_callSi (pc := 77) G [vI c2, vI z10] mf_X11_cellOf ml_X11_408 (by decide) rfl rfl (Nat.le_of_ble_eq_true rfl) (fun _ h9 => ok_X11_cellOf X  h9) dX11_swapsUp_77 (fun r17 M18 => ?_)
  refine tj_lald (pc := 80) G (k := 21) (i2 := w32 r17) (n2 := 64) (by decide) lm_21 rfl rfl dX11_swapsUp_80 ?_
  refine tj_last (pc := 81) G (k := 21) (i2 := w32 r15) (n2 := 64) (by decide) lm_21 rfl rfl dX11_swapsUp_81 (fun M19 => ?_)
  refine tj_aload_n (pc := 82) G 1 dX11_swapsUp_82 rfl rfl ?_
  refine tj_getR (pc := 83) G (k := 0) (j := 35) (j2 := 35) tk_X11 (by decide) lm_0 rfl (by decide) rfl fl_X11_89 dX11_swapsUp_83 ?_
  refine tj_iload_n (pc := 86) G 3 dX11_swapsUp_86 rfl rfl ?_
  refine tj_iload_n (pc := 87) G 4 dX11_swapsUp_87 rfl rfl ?_
  refine tj_callSi (pc := 88) G [vI c2, vI z10] mf_X11_cellOf ml_X11_408 (by decide) rfl rfl (Nat.le_of_ble_eq_true rfl) (fun _ h9 => ok_X11_cellOf X  h9) dX11_swapsUp_88 (fun r20 M21 => ?_)
  refine tj_lload (pc := 91) G 0 dX11_swapsUp_91 rfl ?_
  refine tj_last (pc := 93) G (k := 21) (i2 := w32 r20) (n2 := 64) (by decide) lm_21 rfl rfl dX11_swapsUp_93 (fun M22 => ?_)
  refine tj_iinc (pc := 94) G 4 (fun x23 => [(3, vI x23), (4, vL x14), (0, vR X 0), (1, vI c1), (2, vI c2)]) dX11_swapsUp_94 rfl (by decide) (fun _ => rfl) (fun x23 => ?_)
  refine tj_goto (pc := 97) G (tgt := 39) dX11_swapsUp_97 (by decide) ?_
  exact tj_sub [2, 3, 4, 0] rfl (hrec x23 M22)
set_option maxRecDepth 100000 in
set_option maxHeartbeats 4000000 in
theorem ok_X11_swapsUp (X : tp_X)  {a1 : Int}  {M : tp_M} {res : Int × tp_M} (h : fx_X11_swapsUp  a1 M = some res) : tp_Ret X LM 34 1 yX11_swapsUp (Cond.code yX11_swapsUp cX11_swapsUp 6 (some .boolean)) 2 [vR X 0, vI a1] M res := by
  refine tp_ofW (by decide +kernel) rfl rfl (by show _ ≤ 6; exact Nat.le_of_ble_eq_true rfl) h (fun Y G => ?_)
  show tp_J X Y LM 34 6 2 1 (fx_X11_swapsUp  a1 M) M [(0, vR X 0), (1, vI a1)] [] 0
  unfold fx_X11_swapsUp
  refine tj_iload_n (pc := 0) G 1 dX11_swapsUp_0 rfl rfl ?_
  refine tj_istore_n (pc := 1) G (fun x1 => [(2, vI x1), (0, vR X 0), (1, vI a1)]) dX11_swapsUp_1 rfl (by decide) (fun _ => rfl) (fun x1 => ?_)
  refine tj_sub [1, 2, 0] rfl (fx_X11_swapsUp_L2_ok G    (fun y4 M8 => ?_) tp_F x1 M)
  refine tj_iload_n (pc := 29) G 2 dX11_swapsUp_29 rfl rfl ?_
  refine tj_bipush (pc := 30) G dX11_swapsUp_30 rfl ?_
  refine tj_icmp_ne (pc := 32) G (tgt := 37) (a2 := w32 y4) (b2 := 8) dX11_swapsUp_32 (by decide) rfl rfl ?_ ?_
  · refine tj_iconst (pc := 37) G dX11_swapsUp_37 ?_
    refine tj_istore_n (pc := 38) G (fun x9 => [(3, vI x9), (0, vR X 0), (1, vI a1), (2, vI y4)]) dX11_swapsUp_38 rfl (by decide) (fun _ => rfl) (fun x9 => ?_)
    refine tj_sub [1, 2, 3, 0] rfl (fx_X11_swapsUp_L39_ok G    (fun M24 => ?_) tp_F x9 M8)
    refine tj_aload_n (pc := 100) G 0 dX11_swapsUp_100 rfl rfl ?_
    refine tj_dup (pc := 101) G dX11_swapsUp_101 rfl ?_
    refine tj_getI (pc := 102) G (k := 0) (j := 36) (j2 := 36) tk_X11 (by decide) lm_0 rfl (by decide) rfl fl_X11_411 dX11_swapsUp_102 ?_
    refine tj_iload_n (pc := 105) G 2 dX11_swapsUp_105 rfl rfl ?_
    refine tj_iload_n (pc := 106) G 1 dX11_swapsUp_106 rfl rfl ?_
    refine tj_icmp_ne (pc := 107) G (tgt := 114) (a2 := w32 y4) (b2 := w32 a1) dX11_swapsUp_107 (by decide) rfl rfl ?_ ?_
    · refine tj_iconst (pc := 114) G dX11_swapsUp_114 ?_
      refine tj_imul (pc := 115) G dX11_swapsUp_115 ?_
      refine tj_putI (pc := 116) G (k := 0) (j := 36) (j2 := 36) tk_X11 (by decide) lm_0 rfl (by decide) rfl fl_X11_411 rfl rfl dX11_swapsUp_116 (fun M25 => ?_)
      refine tj_iconst (pc := 119) G dX11_swapsUp_119 ?_
      exact tj_zret (pc := 120) G (by decide) dX11_swapsUp_120
    refine tj_iconst (pc := 110) G dX11_swapsUp_110 ?_
    refine tj_goto (pc := 111) G (tgt := 115) dX11_swapsUp_111 (by decide) ?_
    refine tj_imul (pc := 115) G dX11_swapsUp_115 ?_
    refine tj_putI (pc := 116) G (k := 0) (j := 36) (j2 := 36) tk_X11 (by decide) lm_0 rfl (by decide) rfl fl_X11_411 rfl rfl dX11_swapsUp_116 (fun M26 => ?_)
    refine tj_iconst (pc := 119) G dX11_swapsUp_119 ?_
    exact tj_zret (pc := 120) G (by decide) dX11_swapsUp_120
  refine tj_iconst (pc := 35) G dX11_swapsUp_35 ?_
  exact tj_zret (pc := 36) G (by decide) dX11_swapsUp_36

def fx_X11_determinant_L54 (c1 : Int) (c3 : Int) (c4 : Int) (c6 : Int) (K120 : tp_M → tp_O) (rec : Int → tp_M → tp_O) (z16 : Int) (M17 : tp_M) : tp_O :=
(if w32 z16 < 8 then
(tp_bd (fx_X11_cellOf c6 z16 M17) (fun r18 M19 =>
(tp_bd (fx_X11_cellOf c6 z16 M19) (fun r20 M21 =>
(tp_ck (w32 r20) 64 (tp_bd (fx_X11_cellOf c6 c3 M21) (fun r22 M23 =>
(tp_ck (w32 r22) 64 (tp_bd (fx_X11_cellOf c3 z16 M23) (fun r24 M25 =>
(tp_ck (w32 r24) 64 (tp_nz (w64 c1) (tp_ck (w32 r18) 64 (tp_lm (tp_up M25 21 (w32 r18) (x_ldiv (((M21 21 (w32 r20)) * c4) - ((M23 21 (w32 r22)) * (M25 21 (w32 r24)))) c1)) (fun M26 =>
(tp_lt (z16 + 1) (fun x27 =>
(rec x27 M26))))))))))))))))))
else
(K120 M17))
def fx_X11_determinant_L42 (c1 : Int) (c3 : Int) (c4 : Int) (K126 : tp_M → tp_O) (rec : Int → tp_M → tp_O) (z13 : Int) (M14 : tp_M) : tp_O :=
(if w32 z13 < 8 then
(tp_lt (c3 + 1) (fun x15 =>
(tp_lp1 (fx_X11_determinant_L54 c1 c3 c4 z13 (fun M28 =>
(tp_lt (z13 + 1) (fun x29 =>
(rec x29 M28))))) tp_F x15 M14)))
else
(K126 M14))
def fx_X11_determinant_L9  (K135 : tp_M → tp_O) (rec : Int → Int → tp_M → tp_O) (z4 z5 : Int) (M6 : tp_M) : tp_O :=
(if w32 z5 < 7 then
(tp_bd (fx_X11_swapsUp z5 M6) (fun r7 M8 =>
(if w32 r7 = 0 then
(some (0, M8))
else
(tp_bd (fx_X11_cellOf z5 z5 M8) (fun r9 M10 =>
(tp_ck (w32 r9) 64 (tp_lt (M10 21 (w32 r9)) (fun x11 =>
(tp_lt (z5 + 1) (fun x12 =>
(tp_lp1 (fx_X11_determinant_L42 z4 z5 x11 (fun M30 =>
(tp_lt x11 (fun x31 =>
(tp_lt (z5 + 1) (fun x32 =>
(rec x31 x32 M30))))))) tp_F x12 M10)))))))))))
else
(K135 M6))
def fx_X11_determinant   (M : tp_M) : tp_O :=
(tp_lt 1 (fun x1 =>
(tp_lm (tp_up M 0 36 1) (fun M2 =>
(tp_lt 0 (fun x3 =>
(tp_lp2 (fx_X11_determinant_L9  (fun M33 =>
(tp_bd (fx_X11_cellOf 7 7 M33) (fun r34 M35 =>
(tp_ck (w32 r34) 64 (some ((w32 (M33 0 36)) * (M35 21 (w32 r34)), M35))))))) tp_F x1 x3 M2)))))))
set_option maxRecDepth 100000 in
set_option maxHeartbeats 4000000 in
theorem fx_X11_determinant_L54_ok {X : tp_X} {Y : tp_Y} (G : tp_Ok X Y 34 cX11_determinant 8 RX11 (some .long))  {c1 : Int} {c3 : Int} {c4 : Int} {c6 : Int} {K120 : tp_M → tp_O}   (hK120 : ∀ (M9 : tp_M), tp_J X Y LM 34 8 3 2 (K120  M9) M9 [(0, vR X 0), (1, vL c1), (3, vI c3), (4, vL c4), (6, vI c6)] [] 120) (n : Nat) : ∀ (z16 : Int) (M17 : tp_M), tp_J X Y LM 34 8 3 2 (tp_lp1 (fx_X11_determinant_L54  c1 c3 c4 c6 K120) n z16 M17) M17 [(0, vR X 0), (1, vL c1), (3, vI c3), (4, vL c4), (6, vI c6), (7, vI z16)] [] 54 := by
  refine tp_lp1_ok (P := fun o z16 M17 => tp_J X Y LM 34 8 3 2 (o) M17 [(0, vR X 0), (1, vL c1), (3, vI c3), (4, vL c4), (6, vI c6), (7, vI z16)] [] 54) (fun z16 M17 => tj_none) (fun rec hrec z16 M17 => ?_) n
  unfold fx_X11_determinant_L54
  refine tj_iload (pc := 54) G 5 dX11_determinant_54 rfl ?_
  refine tj_bipush (pc := 56) G dX11_determinant_56 rfl ?_
  refine tj_icmp_ge (pc := 58) G (tgt := 120) (a2 := w32 z16) (b2 := 8) dX11_determinant_58 (by decide) rfl rfl ?_ ?_
  · exact tj_sub [0, 1, 2, 3, 4] rfl (hK120  M17)
  refine tj_aload_n (pc := 61) G 0 dX11_determinant_61 rfl rfl ?_
  refine tj_getR (pc := 62) G (k := 0) (j := 35) (j2 := 35) tk_X11 (by decide) lm_0 rfl (by decide) rfl fl_X11_89 dX11_determinant_62 ?_
  refine tj_iload (pc := 65) G 4 dX11_determinant_65 rfl ?_
  refine tj_iload (pc := 67) G 5 dX11_determinant_67 rfl ?_
  refine tj_callSi (pc := 69) G [vI c6, vI z16] mf_X11_cellOf ml_X11_408 (by decide) rfl rfl (Nat.le_of_ble_eq_true rfl) (fun _ h9 => ok_X11_cellOf X  h9) dX11_determinant_69 (fun r18 M19 => ?_)
  refine tj_aload_n (pc := 72) G 0 dX11_determinant_72 rfl rfl ?_
  refine tj_getR (pc := 73) G (k := 0) (j := 35) (j2 := 35) tk_X11 (by decide) lm_0 rfl (by decide) rfl fl_X11_89 dX11_determinant_73 ?_
  refine tj_iload (pc := 76) G 4 dX11_determinant_76 rfl ?_
  refine tj_iload (pc := 78) G 5 dX11_determinant_78 rfl ?_
  refine tj_callSi (pc := 80) G [vI c6, vI z16] mf_X11_cellOf ml_X11_408 (by decide) rfl rfl (Nat.le_of_ble_eq_true rfl) (fun _ h9 => ok_X11_cellOf X  h9) dX11_determinant_80 (fun r20 M21 => ?_)
  refine tj_lald (pc := 83) G (k := 21) (i2 := w32 r20) (n2 := 64) (by decide) lm_21 rfl rfl dX11_determinant_83 ?_
  refine tj_lload (pc := 84) G 3 dX11_determinant_84 rfl ?_
  refine tj_lmul (pc := 86) G dX11_determinant_86 ?_
  refine tj_aload_n (pc := 87) G 0 dX11_determinant_87 rfl rfl ?_
  refine tj_getR (pc := 88) G (k := 0) (j := 35) (j2 := 35) tk_X11 (by decide) lm_0 rfl (by decide) rfl fl_X11_89 dX11_determinant_88 ?_
  refine tj_iload (pc := 91) G 4 dX11_determinant_91 rfl ?_
  refine tj_iload_n (pc := 93) G 2 dX11_determinant_93 rfl rfl ?_
  refine tj_callSi (pc := 94) G [vI c6, vI c3] mf_X11_cellOf ml_X11_408 (by decide) rfl rfl (Nat.le_of_ble_eq_true rfl) (fun _ h9 => ok_X11_cellOf X  h9) dX11_determinant_94 (fun r22 M23 => ?_)
  refine tj_lald (pc := 97) G (k := 21) (i2 := w32 r22) (n2 := 64) (by decide) lm_21 rfl rfl dX11_determinant_97 ?_
  refine tj_aload_n (pc := 98) G 0 dX11_determinant_98 rfl rfl ?_
  refine tj_getR (pc := 99) G (k := 0) (j := 35) (j2 := 35) tk_X11 (by decide) lm_0 rfl (by decide) rfl fl_X11_89 dX11_determinant_99 ?_
  refine tj_iload_n (pc := 102) G 2 dX11_determinant_102 rfl rfl ?_
  refine tj_iload (pc := 103) G 5 dX11_determinant_103 rfl ?_
  refine tj_callSi (pc := 105) G [vI c3, vI z16] mf_X11_cellOf ml_X11_408 (by decide) rfl rfl (Nat.le_of_ble_eq_true rfl) (fun _ h9 => ok_X11_cellOf X  h9) dX11_determinant_105 (fun r24 M25 => ?_)
  refine tj_lald (pc := 108) G (k := 21) (i2 := w32 r24) (n2 := 64) (by decide) lm_21 rfl rfl dX11_determinant_108 ?_
  refine tj_lmul (pc := 109) G dX11_determinant_109 ?_
  refine tj_lsub (pc := 110) G dX11_determinant_110 ?_
  refine tj_lload_n (pc := 111) G 1 dX11_determinant_111 rfl rfl ?_
  refine tj_ldiv (pc := 112) G (b2 := w64 c1) dX11_determinant_112 rfl ?_
  refine tj_last (pc := 113) G (k := 21) (i2 := w32 r18) (n2 := 64) (by decide) lm_21 rfl rfl dX11_determinant_113 (fun M26 => ?_)
  refine tj_iinc (pc := 114) G 5 (fun x27 => [(7, vI x27), (0, vR X 0), (1, vL c1), (3, vI c3), (4, vL c4), (6, vI c6)]) dX11_determinant_114 rfl (by decide) (fun _ => rfl) (fun x27 => ?_)
  refine tj_goto (pc := 117) G (tgt := 54) dX11_determinant_117 (by decide) ?_
  exact tj_sub [1, 2, 3, 4, 5, 0] rfl (hrec x27 M26)
set_option maxRecDepth 100000 in
set_option maxHeartbeats 4000000 in
theorem fx_X11_determinant_L42_ok {X : tp_X} {Y : tp_Y} (G : tp_Ok X Y 34 cX11_determinant 8 RX11 (some .long))  {c1 : Int} {c3 : Int} {c4 : Int} {K126 : tp_M → tp_O}   (hK126 : ∀ (M9 : tp_M), tp_J X Y LM 34 8 3 2 (K126  M9) M9 [(0, vR X 0), (3, vI c3), (4, vL c4)] [] 126) (n : Nat) : ∀ (z13 : Int) (M14 : tp_M), tp_J X Y LM 34 8 3 2 (tp_lp1 (fx_X11_determinant_L42  c1 c3 c4 K126) n z13 M14) M14 [(0, vR X 0), (1, vL c1), (3, vI c3), (4, vL c4), (6, vI z13)] [] 42 := by
  refine tp_lp1_ok (P := fun o z13 M14 => tp_J X Y LM 34 8 3 2 (o) M14 [(0, vR X 0), (1, vL c1), (3, vI c3), (4, vL c4), (6, vI z13)] [] 42) (fun z13 M14 => tj_none) (fun rec hrec z13 M14 => ?_) n
  unfold fx_X11_determinant_L42
  refine tj_iload (pc := 42) G 4 dX11_determinant_42 rfl ?_
  refine tj_bipush (pc := 44) G dX11_determinant_44 rfl ?_
  refine tj_icmp_ge (pc := 46) G (tgt := 126) (a2 := w32 z13) (b2 := 8) dX11_determinant_46 (by decide) rfl rfl ?_ ?_
  · exact tj_sub [0, 2, 3] rfl (hK126  M14)
  refine tj_iload_n (pc := 49) G 2 dX11_determinant_49 rfl rfl ?_
  refine tj_iconst (pc := 50) G dX11_determinant_50 ?_
  refine tj_iadd (pc := 51) G dX11_determinant_51 ?_
  refine tj_istore (pc := 52) G (fun x15 => [(7, vI x15), (0, vR X 0), (1, vL c1), (3, vI c3), (4, vL c4), (6, vI z13)]) dX11_determinant_52 (by decide) (fun _ => rfl) (fun x15 => ?_)
  refine tj_sub [1, 2, 3, 4, 5, 0] rfl (fx_X11_determinant_L54_ok G    (fun M28 => ?_) tp_F x15 M14)
  refine tj_iinc (pc := 120) G 4 (fun x29 => [(6, vI x29), (0, vR X 0), (1, vL c1), (3, vI c3), (4, vL c4)]) dX11_determinant_120 rfl (by decide) (fun _ => rfl) (fun x29 => ?_)
  refine tj_goto (pc := 123) G (tgt := 42) dX11_determinant_123 (by decide) ?_
  exact tj_sub [1, 2, 3, 4, 0] rfl (hrec x29 M28)
set_option maxRecDepth 100000 in
set_option maxHeartbeats 4000000 in
theorem fx_X11_determinant_L9_ok {X : tp_X} {Y : tp_Y} (G : tp_Ok X Y 34 cX11_determinant 8 RX11 (some .long))  {K135 : tp_M → tp_O}   (hK135 : ∀ (M9 : tp_M), tp_J X Y LM 34 8 3 2 (K135  M9) M9 [(0, vR X 0)] [] 135) (n : Nat) : ∀ (z4 z5 : Int) (M6 : tp_M), tp_J X Y LM 34 8 3 2 (tp_lp2 (fx_X11_determinant_L9   K135) n z4 z5 M6) M6 [(0, vR X 0), (1, vL z4), (3, vI z5)] [] 9 := by
  refine tp_lp2_ok (P := fun o z4 z5 M6 => tp_J X Y LM 34 8 3 2 (o) M6 [(0, vR X 0), (1, vL z4), (3, vI z5)] [] 9) (fun z4 z5 M6 => tj_none) (fun rec hrec z4 z5 M6 => ?_) n
  unfold fx_X11_determinant_L9
  refine tj_iload_n (pc := 9) G 2 dX11_determinant_9 rfl rfl ?_
  refine tj_bipush (pc := 10) G dX11_determinant_10 rfl ?_
  refine tj_icmp_ge (pc := 12) G (tgt := 135) (a2 := w32 z5) (b2 := 7) dX11_determinant_12 (by decide) rfl rfl ?_ ?_
  · exact tj_sub [0] rfl (hK135  M6)
  refine tj_aload_n (pc := 15) G 0 dX11_determinant_15 rfl rfl ?_
  refine tj_iload_n (pc := 16) G 2 dX11_determinant_16 rfl rfl ?_
  refine tj_callVi (pc := 17) G [vI z5] mf_X11_swapsUp (k := 0) (by decide) lm_0 rfl rfl ml_X11_414 (by decide) rfl rfl (Nat.le_of_ble_eq_true rfl) (fun _ h9 => ok_X11_swapsUp X  h9) dX11_determinant_17 (fun r7 M8 => ?_)
  refine tj_if_ne (pc := 20) G (tgt := 25) (a2 := w32 r7) dX11_determinant_20 (by decide) rfl ?_ ?_
  · refine tj_aload_n (pc := 25) G 0 dX11_determinant_25 rfl rfl ?_
    refine tj_getR (pc := 26) G (k := 0) (j := 35) (j2 := 35) tk_X11 (by decide) lm_0 rfl (by decide) rfl fl_X11_89 dX11_determinant_26 ?_
    refine tj_iload_n (pc := 29) G 2 dX11_determinant_29 rfl rfl ?_
    refine tj_iload_n (pc := 30) G 2 dX11_determinant_30 rfl rfl ?_
    refine tj_callSi (pc := 31) G [vI z5, vI z5] mf_X11_cellOf ml_X11_408 (by decide) rfl rfl (Nat.le_of_ble_eq_true rfl) (fun _ h9 => ok_X11_cellOf X  h9) dX11_determinant_31 (fun r9 M10 => ?_)
    refine tj_lald (pc := 34) G (k := 21) (i2 := w32 r9) (n2 := 64) (by decide) lm_21 rfl rfl dX11_determinant_34 ?_
    refine tj_lstore (pc := 35) G (fun x11 => [(4, vL x11), (0, vR X 0), (1, vL z4), (3, vI z5)]) dX11_determinant_35 (by decide) (fun _ => rfl) (fun x11 => ?_)
    refine tj_iload_n (pc := 37) G 3 dX11_determinant_37 rfl rfl ?_
    refine tj_iconst (pc := 38) G dX11_determinant_38 ?_
    refine tj_iadd (pc := 39) G dX11_determinant_39 ?_
    refine tj_istore (pc := 40) G (fun x12 => [(6, vI x12), (4, vL x11), (0, vR X 0), (1, vL z4), (3, vI z5)]) dX11_determinant_40 (by decide) (fun _ => rfl) (fun x12 => ?_)
    refine tj_sub [2, 3, 4, 1, 0] rfl (fx_X11_determinant_L42_ok G    (fun M30 => ?_) tp_F x12 M10)
    refine tj_lload (pc := 126) G 2 dX11_determinant_126 rfl ?_
    refine tj_lstore_n (pc := 128) G (fun x31 => [(1, vL x31), (0, vR X 0), (3, vI z5), (4, vL x11)]) dX11_determinant_128 rfl (by decide) (fun _ => rfl) (fun x31 => ?_)
    refine tj_iinc (pc := 129) G 2 (fun x32 => [(3, vI x32), (1, vL x31), (0, vR X 0), (4, vL x11)]) dX11_determinant_129 rfl (by decide) (fun _ => rfl) (fun x32 => ?_)
    refine tj_goto (pc := 132) G (tgt := 9) dX11_determinant_132 (by decide) ?_
    exact tj_sub [2, 1, 0] rfl (hrec x31 x32 M30)
  refine tj_lconst (pc := 23) G (v := 0) dX11_determinant_23 rfl ?_
  exact tj_lret (pc := 24) G dX11_determinant_24
set_option maxRecDepth 100000 in
set_option maxHeartbeats 4000000 in
theorem ok_X11_determinant (X : tp_X)    {M : tp_M} {res : Int × tp_M} (h : fx_X11_determinant   M = some res) : tp_Ret X LM 34 2 yX11_determinant (Cond.code yX11_determinant cX11_determinant 8 (some .long)) 3 [vR X 0] M res := by
  refine tp_ofW (by decide +kernel) rfl rfl (by show _ ≤ 8; exact Nat.le_of_ble_eq_true rfl) h (fun Y G => ?_)
  show tp_J X Y LM 34 8 3 2 (fx_X11_determinant   M) M [(0, vR X 0)] [] 0
  unfold fx_X11_determinant
  refine tj_lconst (pc := 0) G (v := 1) dX11_determinant_0 rfl ?_
  refine tj_lstore_n (pc := 1) G (fun x1 => [(1, vL x1), (0, vR X 0)]) dX11_determinant_1 rfl (by decide) (fun _ => rfl) (fun x1 => ?_)
  refine tj_aload_n (pc := 2) G 1 dX11_determinant_2 rfl rfl ?_
  refine tj_iconst (pc := 3) G dX11_determinant_3 ?_
  refine tj_putI (pc := 4) G (k := 0) (j := 36) (j2 := 36) tk_X11 (by decide) lm_0 rfl (by decide) rfl fl_X11_411 rfl rfl dX11_determinant_4 (fun M2 => ?_)
  refine tj_iconst (pc := 7) G dX11_determinant_7 ?_
  refine tj_istore_n (pc := 8) G (fun x3 => [(3, vI x3), (1, vL x1), (0, vR X 0)]) dX11_determinant_8 rfl (by decide) (fun _ => rfl) (fun x3 => ?_)
  refine tj_sub [2, 1, 0] rfl (fx_X11_determinant_L9_ok G    (fun M33 => ?_) tp_F x1 x3 M2)
  refine tj_aload_n (pc := 135) G 0 dX11_determinant_135 rfl rfl ?_
  refine tj_getI (pc := 136) G (k := 0) (j := 36) (j2 := 36) tk_X11 (by decide) lm_0 rfl (by decide) rfl fl_X11_411 dX11_determinant_136 ?_
  refine tj_i2l (pc := 139) G (b := w32 (M33 0 36)) dX11_determinant_139 rfl ?_
  refine tj_aload_n (pc := 140) G 0 dX11_determinant_140 rfl rfl ?_
  refine tj_getR (pc := 141) G (k := 0) (j := 35) (j2 := 35) tk_X11 (by decide) lm_0 rfl (by decide) rfl fl_X11_89 dX11_determinant_141 ?_
  refine tj_bipush (pc := 144) G dX11_determinant_144 rfl ?_
  refine tj_bipush (pc := 146) G dX11_determinant_146 rfl ?_
  refine tj_callSi (pc := 148) G [vI 7, vI 7] mf_X11_cellOf ml_X11_408 (by decide) rfl rfl (Nat.le_of_ble_eq_true rfl) (fun _ h9 => ok_X11_cellOf X  h9) dX11_determinant_148 (fun r34 M35 => ?_)
  refine tj_lald (pc := 151) G (k := 21) (i2 := w32 r34) (n2 := 64) (by decide) lm_21 rfl rfl dX11_determinant_151 ?_
  refine tj_lmul (pc := 152) G dX11_determinant_152 ?_
  exact tj_lret (pc := 153) G dX11_determinant_153

def fx_X11_canBurst_L4 (k1 : Nat) (k1n : Nat)  (rec : Int → Int → tp_M → tp_O) (z3 z4 : Int) (M5 : tp_M) : tp_O :=
(if w32 z4 < w32 (M5 0 3) then
(tp_jn1 (fun y6 M7 => 
(tp_lt y6 (fun x8 =>
(tp_lt (z4 + 1) (fun x9 =>
(rec x8 x9 M7)))))) (fun jk36 =>
(tp_jn0 (fun M10 => 
(jk36 1 M10)) (fun jk31 =>
(if w32 z3 = 0 then
(tp_ck (w32 (8 + z4)) k1n (tp_ck (w32 z4) 8 (if w32 (M5 k1 (w32 (8 + z4))) < w32 (M5 2 (w32 z4)) then
(jk36 0 M5)
else
(jk31 M5))))
else
(jk31 M5))))))
else
(tp_gd (w32 z3 = 0 ∨ w32 z3 = 1) inferInstance (some (z3, M5))))
def fx_X11_canBurst  (k1 : Nat) (k1n : Nat) (M : tp_M) : tp_O :=
(tp_lt 0 (fun x1 =>
(tp_lt 1 (fun x2 =>
(tp_lp2 (fx_X11_canBurst_L4 k1 k1n ) tp_F x1 x2 M)))))
set_option maxRecDepth 100000 in
set_option maxHeartbeats 4000000 in
theorem fx_X11_canBurst_L4_ok {X : tp_X} {Y : tp_Y} (G : tp_Ok X Y 34 cX11_canBurst 4 RX11 (some .boolean))  {k1 : Nat} {k1n : Nat} (hk1 : tg_I LM 34 k1 k1n)   (n : Nat) : ∀ (z3 z4 : Int) (M5 : tp_M), tp_J X Y LM 34 4 1 1 (tp_lp2 (fx_X11_canBurst_L4 k1 k1n  ) n z3 z4 M5) M5 [(0, vR X 0), (1, vR X k1), (2, vI z3), (3, vI z4)] [] 4 := by
  refine tp_lp2_ok (P := fun o z3 z4 M5 => tp_J X Y LM 34 4 1 1 (o) M5 [(0, vR X 0), (1, vR X k1), (2, vI z3), (3, vI z4)] [] 4) (fun z3 z4 M5 => tj_none) (fun rec hrec z3 z4 M5 => ?_) n
  unfold fx_X11_canBurst_L4
  refine tj_iload_n (pc := 4) G 3 dX11_canBurst_4 rfl rfl ?_
  refine tj_aload_n (pc := 5) G 0 dX11_canBurst_5 rfl rfl ?_
  refine tj_getI (pc := 6) G (k := 0) (j := 3) (j2 := 3) tk_X11 (by decide) lm_0 rfl (by decide) rfl fl_X11_28 dX11_canBurst_6 ?_
  refine tj_icmp_ge (pc := 9) G (tgt := 43) (a2 := w32 z4) (b2 := w32 (M5 0 3)) dX11_canBurst_9 (by decide) rfl rfl ?_ ?_
  · refine tj_iload_n (pc := 43) G 2 dX11_canBurst_43 rfl rfl ?_
    exact tj_gd (fun hz => tj_zret (pc := 44) G hz dX11_canBurst_44)
  refine tj_iload_n (pc := 12) G 2 dX11_canBurst_12 rfl rfl ?_
  refine tj_jn1 (fun y6 => [(0, vR X 0), (1, vR X k1), (3, vI z4)]) (fun y6 => [vI y6]) 36 (fun y6 M7 => ?_) (fun jk36 hj36 => ?_)
  · refine tj_istore_n (pc := 36) G (fun x8 => [(2, vI x8), (0, vR X 0), (1, vR X k1), (3, vI z4)]) dX11_canBurst_36 rfl (by decide) (fun _ => rfl) (fun x8 => ?_)
    refine tj_iinc (pc := 37) G 3 (fun x9 => [(3, vI x9), (2, vI x8), (0, vR X 0), (1, vR X k1)]) dX11_canBurst_37 rfl (by decide) (fun _ => rfl) (fun x9 => ?_)
    refine tj_goto (pc := 40) G (tgt := 4) dX11_canBurst_40 (by decide) ?_
    exact tj_sub [2, 3, 1, 0] rfl (hrec x8 x9 M7)
  refine tj_jn0 [(0, vR X 0), (1, vR X k1), (3, vI z4)] [] 31 (fun M10 => ?_) (fun jk31 hj31 => ?_)
  · refine tj_iconst (pc := 31) G dX11_canBurst_31 ?_
    refine tj_goto (pc := 32) G (tgt := 36) dX11_canBurst_32 (by decide) ?_
    exact tj_sub [0, 1, 2] rfl (hj36 1 M10)
  refine tj_if_ne (pc := 13) G (tgt := 31) (a2 := w32 z3) dX11_canBurst_13 (by decide) rfl ?_ ?_
  · exact tj_sub [0, 1, 3] rfl (hj31  M5)
  refine tj_aload_n (pc := 16) G 1 dX11_canBurst_16 rfl rfl ?_
  refine tj_bipush (pc := 17) G dX11_canBurst_17 rfl ?_
  refine tj_iload_n (pc := 19) G 3 dX11_canBurst_19 rfl rfl ?_
  refine tj_iadd (pc := 20) G dX11_canBurst_20 ?_
  refine tj_iald (pc := 21) G (k := k1) (i2 := w32 (8 + z4)) (n2 := k1n) hk1.1 hk1.2 rfl rfl dX11_canBurst_21 ?_
  refine tj_aload_n (pc := 22) G 0 dX11_canBurst_22 rfl rfl ?_
  refine tj_getR (pc := 23) G (k := 0) (j := 4) (j2 := 4) tk_X11 (by decide) lm_0 rfl (by decide) rfl fl_X11_31 dX11_canBurst_23 ?_
  refine tj_iload_n (pc := 26) G 3 dX11_canBurst_26 rfl rfl ?_
  refine tj_iald (pc := 27) G (k := 2) (i2 := w32 z4) (n2 := 8) (by decide) lm_2 rfl rfl dX11_canBurst_27 ?_
  refine tj_icmp_lt (pc := 28) G (tgt := 35) (a2 := w32 (M5 k1 (w32 (8 + z4)))) (b2 := w32 (M5 2 (w32 z4))) dX11_canBurst_28 (by decide) rfl rfl ?_ ?_
  · refine tj_iconst (pc := 35) G dX11_canBurst_35 ?_
    exact tj_sub [0, 1, 3] rfl (hj36 0 M5)
  exact tj_sub [0, 1, 3] rfl (hj31  M5)
set_option maxRecDepth 100000 in
set_option maxHeartbeats 4000000 in
theorem ok_X11_canBurst (X : tp_X)  {k1 : Nat} {k1n : Nat} (hk1 : tg_I LM 34 k1 k1n) {M : tp_M} {res : Int × tp_M} (h : fx_X11_canBurst  k1 k1n M = some res) : tp_Ret X LM 34 1 yX11_canBurst (Cond.code yX11_canBurst cX11_canBurst 4 (some .boolean)) 1 [vR X 0, vR X k1] M res := by
  refine tp_ofW (by decide +kernel) rfl rfl (by show _ ≤ 4; exact Nat.le_of_ble_eq_true rfl) h (fun Y G => ?_)
  show tp_J X Y LM 34 4 1 1 (fx_X11_canBurst  k1 k1n M) M [(0, vR X 0), (1, vR X k1)] [] 0
  unfold fx_X11_canBurst
  refine tj_iconst (pc := 0) G dX11_canBurst_0 ?_
  refine tj_istore_n (pc := 1) G (fun x1 => [(2, vI x1), (0, vR X 0), (1, vR X k1)]) dX11_canBurst_1 rfl (by decide) (fun _ => rfl) (fun x1 => ?_)
  refine tj_iconst (pc := 2) G dX11_canBurst_2 ?_
  refine tj_istore_n (pc := 3) G (fun x2 => [(3, vI x2), (2, vI x1), (0, vR X 0), (1, vR X k1)]) dX11_canBurst_3 rfl (by decide) (fun _ => rfl) (fun x2 => ?_)
  refine tj_sub [2, 3, 1, 0] rfl (fx_X11_canBurst_L4_ok G  hk1   tp_F x1 x2 M)

def fx_X11_entersCrowds_L7 (k1 : Nat) (k1n : Nat)  (rec : Int → tp_M → tp_O) (z3 : Int) (M4 : tp_M) : tp_O :=
(if w32 z3 < w32 (M4 0 3) then
(tp_ck (w32 (8 + z3)) k1n (tp_bd (fx_X11_enters (w32 (M4 k1 (w32 (8 + z3)))) M4) (fun r5 M6 =>
(tp_lt (z3 + 1) (fun x7 =>
(rec x7 M6))))))
else
(some (0, M4)))
def fx_X11_entersCrowds  (k1 : Nat) (k1n : Nat) (M : tp_M) : tp_O :=
(tp_lm (tp_up M 0 1 0) (fun M1 =>
(tp_lt 1 (fun x2 =>
(tp_lp1 (fx_X11_entersCrowds_L7 k1 k1n ) tp_F x2 M1)))))
set_option maxRecDepth 100000 in
set_option maxHeartbeats 4000000 in
theorem fx_X11_entersCrowds_L7_ok {X : tp_X} {Y : tp_Y} (G : tp_Ok X Y 34 cX11_entersCrowds 3 RX11 none)  {k1 : Nat} {k1n : Nat} (hk1 : tg_I LM 34 k1 k1n)   (n : Nat) : ∀ (z3 : Int) (M4 : tp_M), tp_J X Y LM 34 3 2 0 (tp_lp1 (fx_X11_entersCrowds_L7 k1 k1n  ) n z3 M4) M4 [(0, vR X 0), (1, vR X k1), (2, vI z3)] [] 7 := by
  refine tp_lp1_ok (P := fun o z3 M4 => tp_J X Y LM 34 3 2 0 (o) M4 [(0, vR X 0), (1, vR X k1), (2, vI z3)] [] 7) (fun z3 M4 => tj_none) (fun rec hrec z3 M4 => ?_) n
  unfold fx_X11_entersCrowds_L7
  refine tj_iload_n (pc := 7) G 2 dX11_entersCrowds_7 rfl rfl ?_
  refine tj_aload_n (pc := 8) G 0 dX11_entersCrowds_8 rfl rfl ?_
  refine tj_getI (pc := 9) G (k := 0) (j := 3) (j2 := 3) tk_X11 (by decide) lm_0 rfl (by decide) rfl fl_X11_28 dX11_entersCrowds_9 ?_
  refine tj_icmp_ge (pc := 12) G (tgt := 32) (a2 := w32 z3) (b2 := w32 (M4 0 3)) dX11_entersCrowds_12 (by decide) rfl rfl ?_ ?_
  · exact tj_vret (pc := 32) G dX11_entersCrowds_32
  refine tj_aload_n (pc := 15) G 0 dX11_entersCrowds_15 rfl rfl ?_
  refine tj_aload_n (pc := 16) G 1 dX11_entersCrowds_16 rfl rfl ?_
  refine tj_bipush (pc := 17) G dX11_entersCrowds_17 rfl ?_
  refine tj_iload_n (pc := 19) G 2 dX11_entersCrowds_19 rfl rfl ?_
  refine tj_iadd (pc := 20) G dX11_entersCrowds_20 ?_
  refine tj_iald (pc := 21) G (k := k1) (i2 := w32 (8 + z3)) (n2 := k1n) hk1.1 hk1.2 rfl rfl dX11_entersCrowds_21 ?_
  refine tj_i2l (pc := 22) G (b := w32 (M4 k1 (w32 (8 + z3)))) dX11_entersCrowds_22 rfl ?_
  refine tj_callVv (pc := 23) G [vL (w32 (M4 k1 (w32 (8 + z3))))] mf_X11_enters (k := 0) (by decide) lm_0 rfl rfl ml_X11_18 (by decide) rfl rfl (Nat.le_of_ble_eq_true rfl) (fun _ h9 => ok_X11_enters X  h9) dX11_entersCrowds_23 (fun r5 M6 => ?_)
  refine tj_iinc (pc := 26) G 2 (fun x7 => [(2, vI x7), (0, vR X 0), (1, vR X k1)]) dX11_entersCrowds_26 rfl (by decide) (fun _ => rfl) (fun x7 => ?_)
  refine tj_goto (pc := 29) G (tgt := 7) dX11_entersCrowds_29 (by decide) ?_
  exact tj_sub [1, 2, 0] rfl (hrec x7 M6)
set_option maxRecDepth 100000 in
set_option maxHeartbeats 4000000 in
theorem ok_X11_entersCrowds (X : tp_X)  {k1 : Nat} {k1n : Nat} (hk1 : tg_I LM 34 k1 k1n) {M : tp_M} {res : Int × tp_M} (h : fx_X11_entersCrowds  k1 k1n M = some res) : tp_Ret X LM 34 0 yX11_entersCrowds (Cond.code yX11_entersCrowds cX11_entersCrowds 3 none) 2 [vR X 0, vR X k1] M res := by
  refine tp_ofW (by decide +kernel) rfl rfl (by show _ ≤ 3; exact Nat.le_of_ble_eq_true rfl) h (fun Y G => ?_)
  show tp_J X Y LM 34 3 2 0 (fx_X11_entersCrowds  k1 k1n M) M [(0, vR X 0), (1, vR X k1)] [] 0
  unfold fx_X11_entersCrowds
  refine tj_aload_n (pc := 0) G 0 dX11_entersCrowds_0 rfl rfl ?_
  refine tj_iconst (pc := 1) G dX11_entersCrowds_1 ?_
  refine tj_putI (pc := 2) G (k := 0) (j := 1) (j2 := 1) tk_X11 (by decide) lm_0 rfl (by decide) rfl fl_X11_15 rfl rfl dX11_entersCrowds_2 (fun M1 => ?_)
  refine tj_iconst (pc := 5) G dX11_entersCrowds_5 ?_
  refine tj_istore_n (pc := 6) G (fun x2 => [(2, vI x2), (0, vR X 0), (1, vR X k1)]) dX11_entersCrowds_6 rfl (by decide) (fun _ => rfl) (fun x2 => ?_)
  refine tj_sub [1, 2, 0] rfl (fx_X11_entersCrowds_L7_ok G  hk1   tp_F x2 M1)

def fx_X11_ready_L9  (K51 : Int → tp_M → tp_O) (rec : Int → Int → tp_M → tp_O) (z4 z5 : Int) (M6 : tp_M) : tp_O :=
(if w32 z5 < w32 (M6 0 3) then
(tp_ck (w32 (8 + z5)) 17 (tp_ck (w32 z5) 8 (tp_jn1 (fun y8 M9 => 
(tp_lt (x_or z4 y8) (fun x10 =>
(tp_lt (z5 + 1) (fun x11 =>
(rec x10 x11 M9)))))) (fun jk43 =>
(if w32 (M6 4 (w32 (8 + z5))) < w32 (M6 2 (w32 z5)) then
(jk43 0 M6)
else
(jk43 (x_shl 1 z5) M6))))))
else
(K51 z4 M6))
def fx_X11_ready   (M : tp_M) : tp_O :=
(tp_lm (tp_up M 0 0 0) (fun M1 =>
(tp_lt 0 (fun x2 =>
(tp_lt 1 (fun x3 =>
(tp_lp2 (fx_X11_ready_L9  (fun y7 M12 =>
(tp_lm (tp_up M12 0 1 0) (fun M13 =>
(tp_bd (fx_J6_bitCount_0f7a4 y7 M13) (fun r14 M15 =>
(tp_bd (fx_X11_enters (w32 r14) M15) (fun r16 M17 =>
(tp_bd (fx_X11_walkers 4 17 M17) (fun r18 M19 =>
(tp_bd (fx_X11_enters (w32 r18) M19) (fun r20 M21 =>
(some (y7, M21)))))))))))))) tp_F x2 x3 M1)))))))
set_option maxRecDepth 100000 in
set_option maxHeartbeats 4000000 in
theorem fx_X11_ready_L9_ok {X : tp_X} {Y : tp_Y} (G : tp_Ok X Y 34 cX11_ready 3 RX11 (some .int))  {K51 : Int → tp_M → tp_O}   (hK51 : ∀ (y7 : Int) (M9 : tp_M), tp_J X Y LM 34 3 2 1 (K51 y7 M9) M9 [(0, vR X 0), (1, vI y7)] [] 51) (n : Nat) : ∀ (z4 z5 : Int) (M6 : tp_M), tp_J X Y LM 34 3 2 1 (tp_lp2 (fx_X11_ready_L9   K51) n z4 z5 M6) M6 [(0, vR X 0), (1, vI z4), (2, vI z5)] [] 9 := by
  refine tp_lp2_ok (P := fun o z4 z5 M6 => tp_J X Y LM 34 3 2 1 (o) M6 [(0, vR X 0), (1, vI z4), (2, vI z5)] [] 9) (fun z4 z5 M6 => tj_none) (fun rec hrec z4 z5 M6 => ?_) n
  unfold fx_X11_ready_L9
  refine tj_iload_n (pc := 9) G 2 dX11_ready_9 rfl rfl ?_
  refine tj_aload_n (pc := 10) G 0 dX11_ready_10 rfl rfl ?_
  refine tj_getI (pc := 11) G (k := 0) (j := 3) (j2 := 3) tk_X11 (by decide) lm_0 rfl (by decide) rfl fl_X11_28 dX11_ready_11 ?_
  refine tj_icmp_ge (pc := 14) G (tgt := 51) (a2 := w32 z5) (b2 := w32 (M6 0 3)) dX11_ready_14 (by decide) rfl rfl ?_ ?_
  · exact tj_sub [0, 1] rfl (hK51 z4 M6)
  refine tj_iload_n (pc := 17) G 1 dX11_ready_17 rfl rfl ?_
  refine tj_aload_n (pc := 18) G 0 dX11_ready_18 rfl rfl ?_
  refine tj_getR (pc := 19) G (k := 0) (j := 6) (j2 := 6) tk_X11 (by decide) lm_0 rfl (by decide) rfl fl_X11_38 dX11_ready_19 ?_
  refine tj_bipush (pc := 22) G dX11_ready_22 rfl ?_
  refine tj_iload_n (pc := 24) G 2 dX11_ready_24 rfl rfl ?_
  refine tj_iadd (pc := 25) G dX11_ready_25 ?_
  refine tj_iald (pc := 26) G (k := 4) (i2 := w32 (8 + z5)) (n2 := 17) (by decide) lm_4 rfl rfl dX11_ready_26 ?_
  refine tj_aload_n (pc := 27) G 0 dX11_ready_27 rfl rfl ?_
  refine tj_getR (pc := 28) G (k := 0) (j := 4) (j2 := 4) tk_X11 (by decide) lm_0 rfl (by decide) rfl fl_X11_31 dX11_ready_28 ?_
  refine tj_iload_n (pc := 31) G 2 dX11_ready_31 rfl rfl ?_
  refine tj_iald (pc := 32) G (k := 2) (i2 := w32 z5) (n2 := 8) (by decide) lm_2 rfl rfl dX11_ready_32 ?_
  refine tj_jn1 (fun y8 => [(0, vR X 0), (2, vI z5)]) (fun y8 => [vI y8, vI z4]) 43 (fun y8 M9 => ?_) (fun jk43 hj43 => ?_)
  · refine tj_ior (pc := 43) G dX11_ready_43 ?_
    refine tj_istore_n (pc := 44) G (fun x10 => [(1, vI x10), (0, vR X 0), (2, vI z5)]) dX11_ready_44 rfl (by decide) (fun _ => rfl) (fun x10 => ?_)
    refine tj_iinc (pc := 45) G 2 (fun x11 => [(2, vI x11), (1, vI x10), (0, vR X 0)]) dX11_ready_45 rfl (by decide) (fun _ => rfl) (fun x11 => ?_)
    refine tj_goto (pc := 48) G (tgt := 9) dX11_ready_48 (by decide) ?_
    exact tj_sub [2, 1, 0] rfl (hrec x10 x11 M9)
  refine tj_icmp_lt (pc := 33) G (tgt := 42) (a2 := w32 (M6 4 (w32 (8 + z5)))) (b2 := w32 (M6 2 (w32 z5))) dX11_ready_33 (by decide) rfl rfl ?_ ?_
  · refine tj_iconst (pc := 42) G dX11_ready_42 ?_
    exact tj_sub [0, 2] rfl (hj43 0 M6)
  refine tj_iconst (pc := 36) G dX11_ready_36 ?_
  refine tj_iload_n (pc := 37) G 2 dX11_ready_37 rfl rfl ?_
  refine tj_ishl (pc := 38) G dX11_ready_38 ?_
  refine tj_goto (pc := 39) G (tgt := 43) dX11_ready_39 (by decide) ?_
  exact tj_sub [0, 2] rfl (hj43 (x_shl 1 z5) M6)
set_option maxRecDepth 100000 in
set_option maxHeartbeats 4000000 in
theorem ok_X11_ready (X : tp_X)    {M : tp_M} {res : Int × tp_M} (h : fx_X11_ready   M = some res) : tp_Ret X LM 34 1 yX11_ready (Cond.code yX11_ready cX11_ready 3 (some .int)) 2 [vR X 0] M res := by
  refine tp_ofW (by decide +kernel) rfl rfl (by show _ ≤ 3; exact Nat.le_of_ble_eq_true rfl) h (fun Y G => ?_)
  show tp_J X Y LM 34 3 2 1 (fx_X11_ready   M) M [(0, vR X 0)] [] 0
  unfold fx_X11_ready
  refine tj_aload_n (pc := 0) G 0 dX11_ready_0 rfl rfl ?_
  refine tj_iconst (pc := 1) G dX11_ready_1 ?_
  refine tj_putI (pc := 2) G (k := 0) (j := 0) (j2 := 0) tk_X11 (by decide) lm_0 rfl (by decide) rfl fl_X11_3 rfl rfl dX11_ready_2 (fun M1 => ?_)
  refine tj_iconst (pc := 5) G dX11_ready_5 ?_
  refine tj_istore_n (pc := 6) G (fun x2 => [(1, vI x2), (0, vR X 0)]) dX11_ready_6 rfl (by decide) (fun _ => rfl) (fun x2 => ?_)
  refine tj_iconst (pc := 7) G dX11_ready_7 ?_
  refine tj_istore_n (pc := 8) G (fun x3 => [(2, vI x3), (1, vI x2), (0, vR X 0)]) dX11_ready_8 rfl (by decide) (fun _ => rfl) (fun x3 => ?_)
  refine tj_sub [2, 1, 0] rfl (fx_X11_ready_L9_ok G    (fun y7 M12 => ?_) tp_F x2 x3 M1)
  refine tj_aload_n (pc := 51) G 0 dX11_ready_51 rfl rfl ?_
  refine tj_iconst (pc := 52) G dX11_ready_52 ?_
  refine tj_putI (pc := 53) G (k := 0) (j := 1) (j2 := 1) tk_X11 (by decide) lm_0 rfl (by decide) rfl fl_X11_15 rfl rfl dX11_ready_53 (fun M13 => ?_)
  refine tj_aload_n (pc := 56) G 0 dX11_ready_56 rfl rfl ?_
  refine tj_iload_n (pc := 57) G 1 dX11_ready_57 rfl rfl ?_
  refine tj_callSi (pc := 58) G [vI y7] mf_J6_bitCount_0f7a4 ml_X11_397 (by decide) rfl rfl (Nat.le_of_ble_eq_true rfl) (fun _ h9 => ok_J6_bitCount_0f7a4 X  h9) dX11_ready_58 (fun r14 M15 => ?_)
  refine tj_i2l (pc := 61) G (b := w32 r14) dX11_ready_61 rfl ?_
  refine tj_callVv (pc := 62) G [vL (w32 r14)] mf_X11_enters (k := 0) (by decide) lm_0 rfl rfl ml_X11_18 (by decide) rfl rfl (Nat.le_of_ble_eq_true rfl) (fun _ h9 => ok_X11_enters X  h9) dX11_ready_62 (fun r16 M17 => ?_)
  refine tj_aload_n (pc := 65) G 0 dX11_ready_65 rfl rfl ?_
  refine tj_aload_n (pc := 66) G 0 dX11_ready_66 rfl rfl ?_
  refine tj_aload_n (pc := 67) G 0 dX11_ready_67 rfl rfl ?_
  refine tj_getR (pc := 68) G (k := 0) (j := 6) (j2 := 6) tk_X11 (by decide) lm_0 rfl (by decide) rfl fl_X11_38 dX11_ready_68 ?_
  refine tj_callVi (pc := 71) G [vR X 4] mf_X11_walkers (k := 0) (by decide) lm_0 rfl rfl ml_X11_285 (by decide) rfl rfl (Nat.le_of_ble_eq_true rfl) (fun _ h9 => ok_X11_walkers X ⟨by decide, lm_4⟩ h9) dX11_ready_71 (fun r18 M19 => ?_)
  refine tj_i2l (pc := 74) G (b := w32 r18) dX11_ready_74 rfl ?_
  refine tj_callVv (pc := 75) G [vL (w32 r18)] mf_X11_enters (k := 0) (by decide) lm_0 rfl rfl ml_X11_18 (by decide) rfl rfl (Nat.le_of_ble_eq_true rfl) (fun _ h9 => ok_X11_enters X  h9) dX11_ready_75 (fun r20 M21 => ?_)
  refine tj_iload_n (pc := 78) G 1 dX11_ready_78 rfl rfl ?_
  exact tj_iret (pc := 79) G dX11_ready_79

def fx_X11_laysUnit_L13  (K46 : tp_M → tp_O) (rec : Int → tp_M → tp_O) (z4 : Int) (M5 : tp_M) : tp_O :=
(if w32 z4 < w32 (M5 0 3) then
(tp_ck (w32 z4) 8 (tp_ck (w32 (8 + z4)) 17 (tp_lm (tp_up M5 5 (w32 (8 + z4)) (2 * ((M5 2 (w32 z4)) - 1))) (fun M6 =>
(tp_lt (z4 + 1) (fun x7 =>
(rec x7 M6)))))))
else
(K46 M5))
def fx_X11_laysUnit_L62  (K105 : tp_M → tp_O) (rec : Int → tp_M → tp_O) (z12 : Int) (M13 : tp_M) : tp_O :=
(if w32 z12 < w32 (M13 0 3) then
(tp_ck (w32 z12) 8 (tp_ck (w32 (8 + z12)) 17 (tp_ck (w32 (8 + z12)) 17 (tp_lm (tp_up M13 5 (w32 (8 + z12)) ((2 * ((M13 2 (w32 z12)) - 1)) - (M13 5 (w32 (8 + z12))))) (fun M14 =>
(tp_lt (z12 + 1) (fun x15 =>
(rec x15 M14))))))))
else
(K105 M13))
def fx_X11_laysUnit   (M : tp_M) : tp_O :=
(tp_bd (fx_X11_copies 5 17 4 17 M) (fun r1 M2 =>
(tp_lt 1 (fun x3 =>
(tp_lp1 (fx_X11_laysUnit_L13  (fun M8 =>
(tp_bd (fx_X11_calmed 5 17 M8) (fun r9 M10 =>
(if w32 r9 < 0 then
(some ((-3), M10))
else
(tp_lt 1 (fun x11 =>
(tp_lp1 (fx_X11_laysUnit_L62  (fun M16 =>
(tp_bd (fx_X11_calmed 5 17 M16) (fun r17 M18 =>
(some (r17, M18)))))) tp_F x11 M10)))))))) tp_F x3 M2)))))
set_option maxRecDepth 100000 in
set_option maxHeartbeats 4000000 in
theorem fx_X11_laysUnit_L13_ok {X : tp_X} {Y : tp_Y} (G : tp_Ok X Y 34 cX11_laysUnit 2 RX11 (some .int))  {K46 : tp_M → tp_O}   (hK46 : ∀ (M9 : tp_M), tp_J X Y LM 34 2 4 1 (K46  M9) M9 [(0, vR X 0)] [] 46) (n : Nat) : ∀ (z4 : Int) (M5 : tp_M), tp_J X Y LM 34 2 4 1 (tp_lp1 (fx_X11_laysUnit_L13   K46) n z4 M5) M5 [(0, vR X 0), (1, vI z4)] [] 13 := by
  refine tp_lp1_ok (P := fun o z4 M5 => tp_J X Y LM 34 2 4 1 (o) M5 [(0, vR X 0), (1, vI z4)] [] 13) (fun z4 M5 => tj_none) (fun rec hrec z4 M5 => ?_) n
  unfold fx_X11_laysUnit_L13
  refine tj_iload_n (pc := 13) G 1 dX11_laysUnit_13 rfl rfl ?_
  refine tj_aload_n (pc := 14) G 0 dX11_laysUnit_14 rfl rfl ?_
  refine tj_getI (pc := 15) G (k := 0) (j := 3) (j2 := 3) tk_X11 (by decide) lm_0 rfl (by decide) rfl fl_X11_28 dX11_laysUnit_15 ?_
  refine tj_icmp_ge (pc := 18) G (tgt := 46) (a2 := w32 z4) (b2 := w32 (M5 0 3)) dX11_laysUnit_18 (by decide) rfl rfl ?_ ?_
  · exact tj_sub [0] rfl (hK46  M5)
  refine tj_aload_n (pc := 21) G 0 dX11_laysUnit_21 rfl rfl ?_
  refine tj_getR (pc := 22) G (k := 0) (j := 7) (j2 := 7) tk_X11 (by decide) lm_0 rfl (by decide) rfl fl_X11_41 dX11_laysUnit_22 ?_
  refine tj_bipush (pc := 25) G dX11_laysUnit_25 rfl ?_
  refine tj_iload_n (pc := 27) G 1 dX11_laysUnit_27 rfl rfl ?_
  refine tj_iadd (pc := 28) G dX11_laysUnit_28 ?_
  refine tj_iconst (pc := 29) G dX11_laysUnit_29 ?_
  refine tj_aload_n (pc := 30) G 0 dX11_laysUnit_30 rfl rfl ?_
  refine tj_getR (pc := 31) G (k := 0) (j := 4) (j2 := 4) tk_X11 (by decide) lm_0 rfl (by decide) rfl fl_X11_31 dX11_laysUnit_31 ?_
  refine tj_iload_n (pc := 34) G 1 dX11_laysUnit_34 rfl rfl ?_
  refine tj_iald (pc := 35) G (k := 2) (i2 := w32 z4) (n2 := 8) (by decide) lm_2 rfl rfl dX11_laysUnit_35 ?_
  refine tj_iconst (pc := 36) G dX11_laysUnit_36 ?_
  refine tj_isub (pc := 37) G dX11_laysUnit_37 ?_
  refine tj_imul (pc := 38) G dX11_laysUnit_38 ?_
  refine tj_iast (pc := 39) G (k := 5) (i2 := w32 (8 + z4)) (n2 := 17) (by decide) lm_5 rfl rfl dX11_laysUnit_39 (fun M6 => ?_)
  refine tj_iinc (pc := 40) G 1 (fun x7 => [(1, vI x7), (0, vR X 0)]) dX11_laysUnit_40 rfl (by decide) (fun _ => rfl) (fun x7 => ?_)
  refine tj_goto (pc := 43) G (tgt := 13) dX11_laysUnit_43 (by decide) ?_
  exact tj_sub [1, 0] rfl (hrec x7 M6)
set_option maxRecDepth 100000 in
set_option maxHeartbeats 4000000 in
theorem fx_X11_laysUnit_L62_ok {X : tp_X} {Y : tp_Y} (G : tp_Ok X Y 34 cX11_laysUnit 2 RX11 (some .int))  {K105 : tp_M → tp_O}   (hK105 : ∀ (M9 : tp_M), tp_J X Y LM 34 2 4 1 (K105  M9) M9 [(0, vR X 0)] [] 105) (n : Nat) : ∀ (z12 : Int) (M13 : tp_M), tp_J X Y LM 34 2 4 1 (tp_lp1 (fx_X11_laysUnit_L62   K105) n z12 M13) M13 [(0, vR X 0), (1, vI z12)] [] 62 := by
  refine tp_lp1_ok (P := fun o z12 M13 => tp_J X Y LM 34 2 4 1 (o) M13 [(0, vR X 0), (1, vI z12)] [] 62) (fun z12 M13 => tj_none) (fun rec hrec z12 M13 => ?_) n
  unfold fx_X11_laysUnit_L62
  refine tj_iload_n (pc := 62) G 1 dX11_laysUnit_62 rfl rfl ?_
  refine tj_aload_n (pc := 63) G 0 dX11_laysUnit_63 rfl rfl ?_
  refine tj_getI (pc := 64) G (k := 0) (j := 3) (j2 := 3) tk_X11 (by decide) lm_0 rfl (by decide) rfl fl_X11_28 dX11_laysUnit_64 ?_
  refine tj_icmp_ge (pc := 67) G (tgt := 105) (a2 := w32 z12) (b2 := w32 (M13 0 3)) dX11_laysUnit_67 (by decide) rfl rfl ?_ ?_
  · exact tj_sub [0] rfl (hK105  M13)
  refine tj_aload_n (pc := 70) G 0 dX11_laysUnit_70 rfl rfl ?_
  refine tj_getR (pc := 71) G (k := 0) (j := 7) (j2 := 7) tk_X11 (by decide) lm_0 rfl (by decide) rfl fl_X11_41 dX11_laysUnit_71 ?_
  refine tj_bipush (pc := 74) G dX11_laysUnit_74 rfl ?_
  refine tj_iload_n (pc := 76) G 1 dX11_laysUnit_76 rfl rfl ?_
  refine tj_iadd (pc := 77) G dX11_laysUnit_77 ?_
  refine tj_iconst (pc := 78) G dX11_laysUnit_78 ?_
  refine tj_aload_n (pc := 79) G 0 dX11_laysUnit_79 rfl rfl ?_
  refine tj_getR (pc := 80) G (k := 0) (j := 4) (j2 := 4) tk_X11 (by decide) lm_0 rfl (by decide) rfl fl_X11_31 dX11_laysUnit_80 ?_
  refine tj_iload_n (pc := 83) G 1 dX11_laysUnit_83 rfl rfl ?_
  refine tj_iald (pc := 84) G (k := 2) (i2 := w32 z12) (n2 := 8) (by decide) lm_2 rfl rfl dX11_laysUnit_84 ?_
  refine tj_iconst (pc := 85) G dX11_laysUnit_85 ?_
  refine tj_isub (pc := 86) G dX11_laysUnit_86 ?_
  refine tj_imul (pc := 87) G dX11_laysUnit_87 ?_
  refine tj_aload_n (pc := 88) G 0 dX11_laysUnit_88 rfl rfl ?_
  refine tj_getR (pc := 89) G (k := 0) (j := 7) (j2 := 7) tk_X11 (by decide) lm_0 rfl (by decide) rfl fl_X11_41 dX11_laysUnit_89 ?_
  refine tj_bipush (pc := 92) G dX11_laysUnit_92 rfl ?_
  refine tj_iload_n (pc := 94) G 1 dX11_laysUnit_94 rfl rfl ?_
  refine tj_iadd (pc := 95) G dX11_laysUnit_95 ?_
  refine tj_iald (pc := 96) G (k := 5) (i2 := w32 (8 + z12)) (n2 := 17) (by decide) lm_5 rfl rfl dX11_laysUnit_96 ?_
  refine tj_isub (pc := 97) G dX11_laysUnit_97 ?_
  refine tj_iast (pc := 98) G (k := 5) (i2 := w32 (8 + z12)) (n2 := 17) (by decide) lm_5 rfl rfl dX11_laysUnit_98 (fun M14 => ?_)
  refine tj_iinc (pc := 99) G 1 (fun x15 => [(1, vI x15), (0, vR X 0)]) dX11_laysUnit_99 rfl (by decide) (fun _ => rfl) (fun x15 => ?_)
  refine tj_goto (pc := 102) G (tgt := 62) dX11_laysUnit_102 (by decide) ?_
  exact tj_sub [1, 0] rfl (hrec x15 M14)
set_option maxRecDepth 100000 in
set_option maxHeartbeats 4000000 in
theorem ok_X11_laysUnit (X : tp_X)    {M : tp_M} {res : Int × tp_M} (h : fx_X11_laysUnit   M = some res) : tp_Ret X LM 34 1 yX11_laysUnit (Cond.code yX11_laysUnit cX11_laysUnit 2 (some .int)) 4 [vR X 0] M res := by
  refine tp_ofW (by decide +kernel) rfl rfl (by show _ ≤ 2; exact Nat.le_of_ble_eq_true rfl) h (fun Y G => ?_)
  show tp_J X Y LM 34 2 4 1 (fx_X11_laysUnit   M) M [(0, vR X 0)] [] 0
  unfold fx_X11_laysUnit
  refine tj_aload_n (pc := 0) G 0 dX11_laysUnit_0 rfl rfl ?_
  refine tj_getR (pc := 1) G (k := 0) (j := 7) (j2 := 7) tk_X11 (by decide) lm_0 rfl (by decide) rfl fl_X11_41 dX11_laysUnit_1 ?_
  refine tj_aload_n (pc := 4) G 0 dX11_laysUnit_4 rfl rfl ?_
  refine tj_getR (pc := 5) G (k := 0) (j := 6) (j2 := 6) tk_X11 (by decide) lm_0 rfl (by decide) rfl fl_X11_38 dX11_laysUnit_5 ?_
  refine tj_callSv (pc := 8) G [vR X 5, vR X 4] mf_X11_copies ml_X11_307 (by decide) rfl rfl (Nat.le_of_ble_eq_true rfl) (fun _ h9 => ok_X11_copies X ⟨by decide, lm_5⟩ ⟨by decide, lm_4⟩ h9) dX11_laysUnit_8 (fun r1 M2 => ?_)
  refine tj_iconst (pc := 11) G dX11_laysUnit_11 ?_
  refine tj_istore_n (pc := 12) G (fun x3 => [(1, vI x3), (0, vR X 0)]) dX11_laysUnit_12 rfl (by decide) (fun _ => rfl) (fun x3 => ?_)
  refine tj_sub [1, 0] rfl (fx_X11_laysUnit_L13_ok G    (fun M8 => ?_) tp_F x3 M2)
  refine tj_aload_n (pc := 46) G 0 dX11_laysUnit_46 rfl rfl ?_
  refine tj_aload_n (pc := 47) G 0 dX11_laysUnit_47 rfl rfl ?_
  refine tj_getR (pc := 48) G (k := 0) (j := 7) (j2 := 7) tk_X11 (by decide) lm_0 rfl (by decide) rfl fl_X11_41 dX11_laysUnit_48 ?_
  refine tj_callVi (pc := 51) G [vR X 5] mf_X11_calmed (k := 0) (by decide) lm_0 rfl rfl ml_X11_317 (by decide) rfl rfl (Nat.le_of_ble_eq_true rfl) (fun _ h9 => ok_X11_calmed X ⟨by decide, lm_5⟩ h9) dX11_laysUnit_51 (fun r9 M10 => ?_)
  refine tj_if_ge (pc := 54) G (tgt := 60) (a2 := w32 r9) dX11_laysUnit_54 (by decide) rfl ?_ ?_
  · refine tj_iconst (pc := 60) G dX11_laysUnit_60 ?_
    refine tj_istore_n (pc := 61) G (fun x11 => [(1, vI x11), (0, vR X 0)]) dX11_laysUnit_61 rfl (by decide) (fun _ => rfl) (fun x11 => ?_)
    refine tj_sub [1, 0] rfl (fx_X11_laysUnit_L62_ok G    (fun M16 => ?_) tp_F x11 M10)
    refine tj_aload_n (pc := 105) G 0 dX11_laysUnit_105 rfl rfl ?_
    refine tj_aload_n (pc := 106) G 0 dX11_laysUnit_106 rfl rfl ?_
    refine tj_getR (pc := 107) G (k := 0) (j := 7) (j2 := 7) tk_X11 (by decide) lm_0 rfl (by decide) rfl fl_X11_41 dX11_laysUnit_107 ?_
    refine tj_callVi (pc := 110) G [vR X 5] mf_X11_calmed (k := 0) (by decide) lm_0 rfl rfl ml_X11_317 (by decide) rfl rfl (Nat.le_of_ble_eq_true rfl) (fun _ h9 => ok_X11_calmed X ⟨by decide, lm_5⟩ h9) dX11_laysUnit_110 (fun r17 M18 => ?_)
    exact tj_iret (pc := 113) G dX11_laysUnit_113
  refine tj_bipush (pc := 57) G dX11_laysUnit_57 rfl ?_
  exact tj_iret (pc := 59) G dX11_laysUnit_59

def fx_X11_unit   (M : tp_M) : tp_O :=
(tp_lm (tp_up M 0 0 0) (fun M1 =>
(tp_bd (fx_X11_laysUnit  M1) (fun r2 M3 =>
(if w32 r2 < 0 then
(some ((-3), M3))
else
(tp_bd (fx_X11_entersCrowds 5 17 M3) (fun r4 M5 =>
(tp_bd (fx_X11_walkers 5 17 M5) (fun r6 M7 =>
(some (r6, M7)))))))))))
set_option maxRecDepth 100000 in
set_option maxHeartbeats 4000000 in
theorem ok_X11_unit (X : tp_X)    {M : tp_M} {res : Int × tp_M} (h : fx_X11_unit   M = some res) : tp_Ret X LM 34 1 yX11_unit (Cond.code yX11_unit cX11_unit 1 (some .int)) 5 [vR X 0] M res := by
  refine tp_ofW (by decide +kernel) rfl rfl (by show _ ≤ 1; exact Nat.le_of_ble_eq_true rfl) h (fun Y G => ?_)
  show tp_J X Y LM 34 1 5 1 (fx_X11_unit   M) M [(0, vR X 0)] [] 0
  unfold fx_X11_unit
  refine tj_aload_n (pc := 0) G 0 dX11_unit_0 rfl rfl ?_
  refine tj_iconst (pc := 1) G dX11_unit_1 ?_
  refine tj_putI (pc := 2) G (k := 0) (j := 0) (j2 := 0) tk_X11 (by decide) lm_0 rfl (by decide) rfl fl_X11_3 rfl rfl dX11_unit_2 (fun M1 => ?_)
  refine tj_aload_n (pc := 5) G 0 dX11_unit_5 rfl rfl ?_
  refine tj_callVi (pc := 6) G [] mf_X11_laysUnit (k := 0) (by decide) lm_0 rfl rfl ml_X11_432 (by decide) rfl rfl (Nat.le_of_ble_eq_true rfl) (fun _ h9 => ok_X11_laysUnit X  h9) dX11_unit_6 (fun r2 M3 => ?_)
  refine tj_if_ge (pc := 9) G (tgt := 15) (a2 := w32 r2) dX11_unit_9 (by decide) rfl ?_ ?_
  · refine tj_aload_n (pc := 15) G 0 dX11_unit_15 rfl rfl ?_
    refine tj_aload_n (pc := 16) G 0 dX11_unit_16 rfl rfl ?_
    refine tj_getR (pc := 17) G (k := 0) (j := 7) (j2 := 7) tk_X11 (by decide) lm_0 rfl (by decide) rfl fl_X11_41 dX11_unit_17 ?_
    refine tj_callVv (pc := 20) G [vR X 5] mf_X11_entersCrowds (k := 0) (by decide) lm_0 rfl rfl ml_X11_435 (by decide) rfl rfl (Nat.le_of_ble_eq_true rfl) (fun _ h9 => ok_X11_entersCrowds X ⟨by decide, lm_5⟩ h9) dX11_unit_20 (fun r4 M5 => ?_)
    refine tj_aload_n (pc := 23) G 0 dX11_unit_23 rfl rfl ?_
    refine tj_aload_n (pc := 24) G 0 dX11_unit_24 rfl rfl ?_
    refine tj_getR (pc := 25) G (k := 0) (j := 7) (j2 := 7) tk_X11 (by decide) lm_0 rfl (by decide) rfl fl_X11_41 dX11_unit_25 ?_
    refine tj_callVi (pc := 28) G [vR X 5] mf_X11_walkers (k := 0) (by decide) lm_0 rfl rfl ml_X11_285 (by decide) rfl rfl (Nat.le_of_ble_eq_true rfl) (fun _ h9 => ok_X11_walkers X ⟨by decide, lm_5⟩ h9) dX11_unit_28 (fun r6 M7 => ?_)
    exact tj_iret (pc := 31) G dX11_unit_31
  refine tj_bipush (pc := 12) G dX11_unit_12 rfl ?_
  exact tj_iret (pc := 14) G dX11_unit_14
