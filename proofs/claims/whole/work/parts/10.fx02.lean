def fx_X4_parishOf_L13 (t : Nat) (c1 : Int) (c3 : Int) (rec : Int → Int → tp_M → tp_O) (z6 z7 : Int) (M8 : tp_M) : tp_O :=
(if w32 z7 < w32 (M8 t 4) then
(tp_jn1 (fun y9 M10 => 
(tp_lt y9 (fun x11 =>
(tp_jn1 (fun y12 M13 => 
(tp_lt (z7 + 1) (fun x14 =>
(rec y12 x14 M13)))) (fun jk67 =>
(if w32 x11 = 0 then
(jk67 z6 M10)
else
(tp_lt (x_or z6 (x_shl 1 z7)) (fun x15 =>
(jk67 x15 M10))))))))) (fun jk53 =>
(tp_jn0 (fun M16 => 
(jk53 0 M16)) (fun jk52 =>
(if w32 (x_and (x_shr c3 z7) 1) = 1 then
(tp_bd (fx_X4_reach t z7 8 M8) (fun r17 M18 =>
(if w32 (x_and (x_shr r17 c1) 1) = 1 then
(jk53 1 M18)
else
(jk52 M18))))
else
(jk52 M8))))))
else
(some (z6, M8)))
def fx_X4_parishOf  (t : Nat) (a1 : Int) (M : tp_M) : tp_O :=
(tp_lt 0 (fun x1 =>
(tp_bd (fx_X4_reach t a1 8 M) (fun r2 M3 =>
(tp_lt r2 (fun x4 =>
(tp_lt 0 (fun x5 =>
(tp_lp2 (fx_X4_parishOf_L13 t a1 x4 ) tp_F x1 x5 M3)))))))))
set_option maxRecDepth 100000 in
set_option maxHeartbeats 4000000 in
theorem fx_X4_parishOf_L13_ok {X : tp_X} {Y : tp_Y} (G : tp_Ok X Y 64 cX4_parishOf 6 RX4 (some .int))  {t : Nat} {c1 : Int} {c3 : Int} (ht : tg_Paths LC 64 t)   (n : Nat) : ∀ (z6 z7 : Int) (M8 : tp_M), tp_J X Y LC 64 6 2 1 (tp_lp2 (fx_X4_parishOf_L13 t c1 c3 ) n z6 z7 M8) M8 [(0, vR X t), (1, vI c1), (2, vI z6), (3, vI c3), (4, vI z7)] [] 13 := by
  refine tp_lp2_ok (P := fun o z6 z7 M8 => tp_J X Y LC 64 6 2 1 (o) M8 [(0, vR X t), (1, vI c1), (2, vI z6), (3, vI c3), (4, vI z7)] [] 13) (fun z6 z7 M8 => tj_none) (fun rec hrec z6 z7 M8 => ?_) n
  unfold fx_X4_parishOf_L13
  refine tj_iload (pc := 13) G 4 dX4_parishOf_13 rfl ?_
  refine tj_aload_n (pc := 15) G 0 dX4_parishOf_15 rfl rfl ?_
  refine tj_getI (pc := 16) G (k := t) (j := 4) (j2 := 4) tk_X4 (tg_Paths_l0 ht) ht.2.1 rfl (by decide) rfl fl_X4_27 dX4_parishOf_16 ?_
  refine tj_icmp_ge (pc := 19) G (tgt := 73) (a2 := w32 z7) (b2 := w32 (M8 t 4)) dX4_parishOf_19 (by decide) rfl rfl ?_ ?_
  · refine tj_iload_n (pc := 73) G 2 dX4_parishOf_73 rfl rfl ?_
    exact tj_iret (pc := 74) G dX4_parishOf_74
  refine tj_iload_n (pc := 22) G 3 dX4_parishOf_22 rfl rfl ?_
  refine tj_iload (pc := 23) G 4 dX4_parishOf_23 rfl ?_
  refine tj_ishr (pc := 25) G dX4_parishOf_25 ?_
  refine tj_iconst (pc := 26) G dX4_parishOf_26 ?_
  refine tj_iand (pc := 27) G dX4_parishOf_27 ?_
  refine tj_iconst (pc := 28) G dX4_parishOf_28 ?_
  refine tj_jn1 (fun y9 => [(0, vR X t), (1, vI c1), (2, vI z6), (3, vI c3), (4, vI z7)]) (fun y9 => [vI y9]) 53 (fun y9 M10 => ?_) (fun jk53 hj53 => ?_)
  · refine tj_istore (pc := 53) G (fun x11 => [(5, vI x11), (0, vR X t), (1, vI c1), (2, vI z6), (3, vI c3), (4, vI z7)]) dX4_parishOf_53 (by decide) (fun _ => rfl) (fun x11 => ?_)
    refine tj_iload (pc := 55) G 0 dX4_parishOf_55 rfl ?_
    refine tj_jn1 (fun y12 => [(0, vR X t), (1, vI c1), (2, vI y12), (3, vI c3), (4, vI z7)]) (fun y12 => []) 67 (fun y12 M13 => ?_) (fun jk67 hj67 => ?_)
    · refine tj_iinc (pc := 67) G 4 (fun x14 => [(4, vI x14), (0, vR X t), (1, vI c1), (2, vI y12), (3, vI c3)]) dX4_parishOf_67 rfl (by decide) (fun _ => rfl) (fun x14 => ?_)
      refine tj_goto (pc := 70) G (tgt := 13) dX4_parishOf_70 (by decide) ?_
      exact tj_sub [1, 2, 3, 4, 0] rfl (hrec y12 x14 M13)
    refine tj_if_eq (pc := 57) G (tgt := 67) (a2 := w32 x11) dX4_parishOf_57 (by decide) rfl ?_ ?_
    · exact tj_sub [1, 2, 3, 4, 5] rfl (hj67 z6 M10)
    refine tj_iload_n (pc := 60) G 3 dX4_parishOf_60 rfl rfl ?_
    refine tj_iconst (pc := 61) G dX4_parishOf_61 ?_
    refine tj_iload (pc := 62) G 5 dX4_parishOf_62 rfl ?_
    refine tj_ishl (pc := 64) G dX4_parishOf_64 ?_
    refine tj_ior (pc := 65) G dX4_parishOf_65 ?_
    refine tj_istore_n (pc := 66) G (fun x15 => [(2, vI x15), (5, vI x11), (0, vR X t), (1, vI c1), (3, vI c3), (4, vI z7)]) dX4_parishOf_66 rfl (by decide) (fun _ => rfl) (fun x15 => ?_)
    exact tj_sub [2, 3, 0, 4, 5] rfl (hj67 x15 M10)
  refine tj_jn0 [(0, vR X t), (1, vI c1), (2, vI z6), (3, vI c3), (4, vI z7)] [] 52 (fun M16 => ?_) (fun jk52 hj52 => ?_)
  · refine tj_iconst (pc := 52) G dX4_parishOf_52 ?_
    exact tj_sub [0, 1, 2, 3, 4] rfl (hj53 0 M16)
  refine tj_icmp_ne (pc := 29) G (tgt := 52) (a2 := w32 (x_and (x_shr c3 z7) 1)) (b2 := 1) dX4_parishOf_29 (by decide) rfl rfl ?_ ?_
  · exact tj_sub [0, 1, 2, 3, 4] rfl (hj52  M8)
  refine tj_aload_n (pc := 32) G 0 dX4_parishOf_32 rfl rfl ?_
  refine tj_iload (pc := 33) G 4 dX4_parishOf_33 rfl ?_
  refine tj_bipush (pc := 35) G dX4_parishOf_35 rfl ?_
  refine tj_callVi (pc := 37) G [vI z7, vI 8] mf_X4_reach (k := t) (tg_Paths_l0 ht) ht.2.1 rfl rfl ml_X4_78 (by decide) rfl rfl (Nat.le_of_ble_eq_true rfl) (fun _ h9 => ok_X4_reach X ht h9) dX4_parishOf_37 (fun r17 M18 => ?_)
  refine tj_iload_n (pc := 40) G 1 dX4_parishOf_40 rfl rfl ?_
  refine tj_ishr (pc := 41) G dX4_parishOf_41 ?_
  refine tj_iconst (pc := 42) G dX4_parishOf_42 ?_
  refine tj_iand (pc := 43) G dX4_parishOf_43 ?_
  refine tj_iconst (pc := 44) G dX4_parishOf_44 ?_
  refine tj_icmp_ne (pc := 45) G (tgt := 52) (a2 := w32 (x_and (x_shr r17 c1) 1)) (b2 := 1) dX4_parishOf_45 (by decide) rfl rfl ?_ ?_
  · exact tj_sub [0, 1, 2, 3, 4] rfl (hj52  M18)
  refine tj_iconst (pc := 48) G dX4_parishOf_48 ?_
  refine tj_goto (pc := 49) G (tgt := 53) dX4_parishOf_49 (by decide) ?_
  exact tj_sub [0, 1, 2, 3, 4] rfl (hj53 1 M18)
set_option maxRecDepth 100000 in
set_option maxHeartbeats 4000000 in
theorem ok_X4_parishOf (X : tp_X)  {t : Nat} {a1 : Int} (ht : tg_Paths LC 64 t) {M : tp_M} {res : Int × tp_M} (h : fx_X4_parishOf  t a1 M = some res) : tp_Ret X LC 64 1 yX4_parishOf (Cond.code yX4_parishOf cX4_parishOf 6 (some .int)) 2 [vR X t, vI a1] M res := by
  refine tp_ofW (by decide +kernel) rfl rfl (by show _ ≤ 6; exact Nat.le_of_ble_eq_true rfl) h (fun Y G => ?_)
  show tp_J X Y LC 64 6 2 1 (fx_X4_parishOf  t a1 M) M [(0, vR X t), (1, vI a1)] [] 0
  unfold fx_X4_parishOf
  refine tj_iconst (pc := 0) G dX4_parishOf_0 ?_
  refine tj_istore_n (pc := 1) G (fun x1 => [(2, vI x1), (0, vR X t), (1, vI a1)]) dX4_parishOf_1 rfl (by decide) (fun _ => rfl) (fun x1 => ?_)
  refine tj_aload_n (pc := 2) G 1 dX4_parishOf_2 rfl rfl ?_
  refine tj_iload_n (pc := 3) G 2 dX4_parishOf_3 rfl rfl ?_
  refine tj_bipush (pc := 4) G dX4_parishOf_4 rfl ?_
  refine tj_callVi (pc := 6) G [vI a1, vI 8] mf_X4_reach (k := t) (tg_Paths_l0 ht) ht.2.1 rfl rfl ml_X4_78 (by decide) rfl rfl (Nat.le_of_ble_eq_true rfl) (fun _ h9 => ok_X4_reach X ht h9) dX4_parishOf_6 (fun r2 M3 => ?_)
  refine tj_istore_n (pc := 9) G (fun x4 => [(3, vI x4), (2, vI x1), (0, vR X t), (1, vI a1)]) dX4_parishOf_9 rfl (by decide) (fun _ => rfl) (fun x4 => ?_)
  refine tj_iconst (pc := 10) G dX4_parishOf_10 ?_
  refine tj_istore (pc := 11) G (fun x5 => [(4, vI x5), (3, vI x4), (2, vI x1), (0, vR X t), (1, vI a1)]) dX4_parishOf_11 (by decide) (fun _ => rfl) (fun x5 => ?_)
  refine tj_sub [3, 4, 2, 1, 0] rfl (fx_X4_parishOf_L13_ok G  ht   tp_F x1 x5 M3)

def fx_X5_load_L2 (k1 : Nat) (k1n : Nat)  (rec : Int → tp_M → tp_O) (z2 : Int) (M3 : tp_M) : tp_O :=
(if w32 z2 < 8 then
(if w32 z2 < w32 k1n then
(tp_ck (w32 z2) k1n (tp_ck (w32 z2) 8 (tp_lm (tp_up M3 37 (w32 z2) (M3 k1 (w32 z2))) (fun M4 =>
(tp_lt (z2 + 1) (fun x5 =>
(rec x5 M4)))))))
else
(some (0, M3)))
else
(some (0, M3)))
def fx_X5_load  (k1 : Nat) (k1n : Nat) (M : tp_M) : tp_O :=
(tp_lt 0 (fun x1 =>
(tp_lp1 (fx_X5_load_L2 k1 k1n ) tp_F x1 M)))
set_option maxRecDepth 100000 in
set_option maxHeartbeats 4000000 in
theorem fx_X5_load_L2_ok {X : tp_X} {Y : tp_Y} (G : tp_Ok X Y 64 cX5_load 3 RX5 none)  {k1 : Nat} {k1n : Nat} (hk1 : tg_I LC 64 k1 k1n)   (n : Nat) : ∀ (z2 : Int) (M3 : tp_M), tp_J X Y LC 64 3 1 0 (tp_lp1 (fx_X5_load_L2 k1 k1n  ) n z2 M3) M3 [(0, vR X 36), (1, vR X k1), (2, vI z2)] [] 2 := by
  refine tp_lp1_ok (P := fun o z2 M3 => tp_J X Y LC 64 3 1 0 (o) M3 [(0, vR X 36), (1, vR X k1), (2, vI z2)] [] 2) (fun z2 M3 => tj_none) (fun rec hrec z2 M3 => ?_) n
  unfold fx_X5_load_L2
  refine tj_iload_n (pc := 2) G 2 dX5_load_2 rfl rfl ?_
  refine tj_bipush (pc := 3) G dX5_load_3 rfl ?_
  refine tj_icmp_ge (pc := 5) G (tgt := 29) (a2 := w32 z2) (b2 := 8) dX5_load_5 (by decide) rfl rfl ?_ ?_
  · exact tj_vret (pc := 29) G dX5_load_29
  refine tj_iload_n (pc := 8) G 2 dX5_load_8 rfl rfl ?_
  refine tj_aload_n (pc := 9) G 1 dX5_load_9 rfl rfl ?_
  refine tj_alen (pc := 10) G (k := k1) (n2 := k1n) hk1.1 hk1.2 rfl (by decide) dX5_load_10 ?_
  refine tj_icmp_ge (pc := 11) G (tgt := 29) (a2 := w32 z2) (b2 := w32 k1n) dX5_load_11 (by decide) rfl rfl ?_ ?_
  · exact tj_vret (pc := 29) G dX5_load_29
  refine tj_aload_n (pc := 14) G 0 dX5_load_14 rfl rfl ?_
  refine tj_getR (pc := 15) G (k := 36) (j := 0) (j2 := 0) tk_X5 (by decide) lc_36 rfl (by decide) rfl fl_X5_9 dX5_load_15 ?_
  refine tj_iload_n (pc := 18) G 2 dX5_load_18 rfl rfl ?_
  refine tj_aload_n (pc := 19) G 1 dX5_load_19 rfl rfl ?_
  refine tj_iload_n (pc := 20) G 2 dX5_load_20 rfl rfl ?_
  refine tj_iald (pc := 21) G (k := k1) (i2 := w32 z2) (n2 := k1n) hk1.1 hk1.2 rfl rfl dX5_load_21 ?_
  refine tj_iast (pc := 22) G (k := 37) (i2 := w32 z2) (n2 := 8) (by decide) lc_37 rfl rfl dX5_load_22 (fun M4 => ?_)
  refine tj_iinc (pc := 23) G 2 (fun x5 => [(2, vI x5), (0, vR X 36), (1, vR X k1)]) dX5_load_23 rfl (by decide) (fun _ => rfl) (fun x5 => ?_)
  refine tj_goto (pc := 26) G (tgt := 2) dX5_load_26 (by decide) ?_
  exact tj_sub [1, 2, 0] rfl (hrec x5 M4)
set_option maxRecDepth 100000 in
set_option maxHeartbeats 4000000 in
theorem ok_X5_load (X : tp_X)  {k1 : Nat} {k1n : Nat} (hk1 : tg_I LC 64 k1 k1n) {M : tp_M} {res : Int × tp_M} (h : fx_X5_load  k1 k1n M = some res) : tp_Ret X LC 64 0 yX5_load (Cond.code yX5_load cX5_load 3 none) 1 [vR X 36, vR X k1] M res := by
  refine tp_ofW (by decide +kernel) rfl rfl (by show _ ≤ 3; exact Nat.le_of_ble_eq_true rfl) h (fun Y G => ?_)
  show tp_J X Y LC 64 3 1 0 (fx_X5_load  k1 k1n M) M [(0, vR X 36), (1, vR X k1)] [] 0
  unfold fx_X5_load
  refine tj_iconst (pc := 0) G dX5_load_0 ?_
  refine tj_istore_n (pc := 1) G (fun x1 => [(2, vI x1), (0, vR X 36), (1, vR X k1)]) dX5_load_1 rfl (by decide) (fun _ => rfl) (fun x1 => ?_)
  refine tj_sub [1, 2, 0] rfl (fx_X5_load_L2_ok G  hk1   tp_F x1 M)

def fx_X5_pour_L2 (k1 : Nat) (k1n : Nat)  (rec : Int → tp_M → tp_O) (z2 : Int) (M3 : tp_M) : tp_O :=
(if w32 z2 < 8 then
(if w32 z2 < w32 k1n then
(tp_ck (w32 z2) 8 (tp_ck (w32 z2) k1n (tp_ck (w32 z2) 8 (tp_lm (tp_up M3 37 (w32 z2) ((M3 37 (w32 z2)) + (M3 k1 (w32 z2)))) (fun M4 =>
(tp_lt (z2 + 1) (fun x5 =>
(rec x5 M4))))))))
else
(some (0, M3)))
else
(some (0, M3)))
def fx_X5_pour  (k1 : Nat) (k1n : Nat) (M : tp_M) : tp_O :=
(tp_lt 0 (fun x1 =>
(tp_lp1 (fx_X5_pour_L2 k1 k1n ) tp_F x1 M)))
set_option maxRecDepth 100000 in
set_option maxHeartbeats 4000000 in
theorem fx_X5_pour_L2_ok {X : tp_X} {Y : tp_Y} (G : tp_Ok X Y 64 cX5_pour 3 RX5 none)  {k1 : Nat} {k1n : Nat} (hk1 : tg_I LC 64 k1 k1n)   (n : Nat) : ∀ (z2 : Int) (M3 : tp_M), tp_J X Y LC 64 3 1 0 (tp_lp1 (fx_X5_pour_L2 k1 k1n  ) n z2 M3) M3 [(0, vR X 36), (1, vR X k1), (2, vI z2)] [] 2 := by
  refine tp_lp1_ok (P := fun o z2 M3 => tp_J X Y LC 64 3 1 0 (o) M3 [(0, vR X 36), (1, vR X k1), (2, vI z2)] [] 2) (fun z2 M3 => tj_none) (fun rec hrec z2 M3 => ?_) n
  unfold fx_X5_pour_L2
  refine tj_iload_n (pc := 2) G 2 dX5_pour_2 rfl rfl ?_
  refine tj_bipush (pc := 3) G dX5_pour_3 rfl ?_
  refine tj_icmp_ge (pc := 5) G (tgt := 32) (a2 := w32 z2) (b2 := 8) dX5_pour_5 (by decide) rfl rfl ?_ ?_
  · exact tj_vret (pc := 32) G dX5_pour_32
  refine tj_iload_n (pc := 8) G 2 dX5_pour_8 rfl rfl ?_
  refine tj_aload_n (pc := 9) G 1 dX5_pour_9 rfl rfl ?_
  refine tj_alen (pc := 10) G (k := k1) (n2 := k1n) hk1.1 hk1.2 rfl (by decide) dX5_pour_10 ?_
  refine tj_icmp_ge (pc := 11) G (tgt := 32) (a2 := w32 z2) (b2 := w32 k1n) dX5_pour_11 (by decide) rfl rfl ?_ ?_
  · exact tj_vret (pc := 32) G dX5_pour_32
  refine tj_aload_n (pc := 14) G 0 dX5_pour_14 rfl rfl ?_
  refine tj_getR (pc := 15) G (k := 36) (j := 0) (j2 := 0) tk_X5 (by decide) lc_36 rfl (by decide) rfl fl_X5_9 dX5_pour_15 ?_
  refine tj_iload_n (pc := 18) G 2 dX5_pour_18 rfl rfl ?_
  refine tj_dup2 (pc := 19) G dX5_pour_19 rfl rfl ?_
  refine tj_iald (pc := 20) G (k := 37) (i2 := w32 z2) (n2 := 8) (by decide) lc_37 rfl rfl dX5_pour_20 ?_
  refine tj_aload_n (pc := 21) G 1 dX5_pour_21 rfl rfl ?_
  refine tj_iload_n (pc := 22) G 2 dX5_pour_22 rfl rfl ?_
  refine tj_iald (pc := 23) G (k := k1) (i2 := w32 z2) (n2 := k1n) hk1.1 hk1.2 rfl rfl dX5_pour_23 ?_
  refine tj_iadd (pc := 24) G dX5_pour_24 ?_
  refine tj_iast (pc := 25) G (k := 37) (i2 := w32 z2) (n2 := 8) (by decide) lc_37 rfl rfl dX5_pour_25 (fun M4 => ?_)
  refine tj_iinc (pc := 26) G 2 (fun x5 => [(2, vI x5), (0, vR X 36), (1, vR X k1)]) dX5_pour_26 rfl (by decide) (fun _ => rfl) (fun x5 => ?_)
  refine tj_goto (pc := 29) G (tgt := 2) dX5_pour_29 (by decide) ?_
  exact tj_sub [1, 2, 0] rfl (hrec x5 M4)
set_option maxRecDepth 100000 in
set_option maxHeartbeats 4000000 in
theorem ok_X5_pour (X : tp_X)  {k1 : Nat} {k1n : Nat} (hk1 : tg_I LC 64 k1 k1n) {M : tp_M} {res : Int × tp_M} (h : fx_X5_pour  k1 k1n M = some res) : tp_Ret X LC 64 0 yX5_pour (Cond.code yX5_pour cX5_pour 3 none) 1 [vR X 36, vR X k1] M res := by
  refine tp_ofW (by decide +kernel) rfl rfl (by show _ ≤ 3; exact Nat.le_of_ble_eq_true rfl) h (fun Y G => ?_)
  show tp_J X Y LC 64 3 1 0 (fx_X5_pour  k1 k1n M) M [(0, vR X 36), (1, vR X k1)] [] 0
  unfold fx_X5_pour
  refine tj_iconst (pc := 0) G dX5_pour_0 ?_
  refine tj_istore_n (pc := 1) G (fun x1 => [(2, vI x1), (0, vR X 36), (1, vR X k1)]) dX5_pour_1 rfl (by decide) (fun _ => rfl) (fun x1 => ?_)
  refine tj_sub [1, 2, 0] rfl (fx_X5_pour_L2_ok G  hk1   tp_F x1 M)

def fx_X5_holds_L2 (k1 : Nat) (k1n : Nat)  (rec : Int → tp_M → tp_O) (z2 : Int) (M3 : tp_M) : tp_O :=
(if w32 z2 < 8 then
(if w32 z2 < w32 k1n then
(tp_ck (w32 z2) 8 (tp_ck (w32 z2) k1n (if w32 (M3 37 (w32 z2)) = w32 (M3 k1 (w32 z2)) then
(tp_lt (z2 + 1) (fun x4 =>
(rec x4 M3)))
else
(some (0, M3)))))
else
(some (1, M3)))
else
(some (1, M3)))
def fx_X5_holds  (k1 : Nat) (k1n : Nat) (M : tp_M) : tp_O :=
(tp_lt 1 (fun x1 =>
(tp_lp1 (fx_X5_holds_L2 k1 k1n ) tp_F x1 M)))
set_option maxRecDepth 100000 in
set_option maxHeartbeats 4000000 in
theorem fx_X5_holds_L2_ok {X : tp_X} {Y : tp_Y} (G : tp_Ok X Y 64 cX5_holds 3 RX5 (some .boolean))  {k1 : Nat} {k1n : Nat} (hk1 : tg_I LC 64 k1 k1n)   (n : Nat) : ∀ (z2 : Int) (M3 : tp_M), tp_J X Y LC 64 3 1 1 (tp_lp1 (fx_X5_holds_L2 k1 k1n  ) n z2 M3) M3 [(0, vR X 36), (1, vR X k1), (2, vI z2)] [] 2 := by
  refine tp_lp1_ok (P := fun o z2 M3 => tp_J X Y LC 64 3 1 1 (o) M3 [(0, vR X 36), (1, vR X k1), (2, vI z2)] [] 2) (fun z2 M3 => tj_none) (fun rec hrec z2 M3 => ?_) n
  unfold fx_X5_holds_L2
  refine tj_iload_n (pc := 2) G 2 dX5_holds_2 rfl rfl ?_
  refine tj_bipush (pc := 3) G dX5_holds_3 rfl ?_
  refine tj_icmp_ge (pc := 5) G (tgt := 34) (a2 := w32 z2) (b2 := 8) dX5_holds_5 (by decide) rfl rfl ?_ ?_
  · refine tj_iconst (pc := 34) G dX5_holds_34 ?_
    exact tj_zret (pc := 35) G (by decide) dX5_holds_35
  refine tj_iload_n (pc := 8) G 2 dX5_holds_8 rfl rfl ?_
  refine tj_aload_n (pc := 9) G 1 dX5_holds_9 rfl rfl ?_
  refine tj_alen (pc := 10) G (k := k1) (n2 := k1n) hk1.1 hk1.2 rfl (by decide) dX5_holds_10 ?_
  refine tj_icmp_ge (pc := 11) G (tgt := 34) (a2 := w32 z2) (b2 := w32 k1n) dX5_holds_11 (by decide) rfl rfl ?_ ?_
  · refine tj_iconst (pc := 34) G dX5_holds_34 ?_
    exact tj_zret (pc := 35) G (by decide) dX5_holds_35
  refine tj_aload_n (pc := 14) G 0 dX5_holds_14 rfl rfl ?_
  refine tj_getR (pc := 15) G (k := 36) (j := 0) (j2 := 0) tk_X5 (by decide) lc_36 rfl (by decide) rfl fl_X5_9 dX5_holds_15 ?_
  refine tj_iload_n (pc := 18) G 2 dX5_holds_18 rfl rfl ?_
  refine tj_iald (pc := 19) G (k := 37) (i2 := w32 z2) (n2 := 8) (by decide) lc_37 rfl rfl dX5_holds_19 ?_
  refine tj_aload_n (pc := 20) G 1 dX5_holds_20 rfl rfl ?_
  refine tj_iload_n (pc := 21) G 2 dX5_holds_21 rfl rfl ?_
  refine tj_iald (pc := 22) G (k := k1) (i2 := w32 z2) (n2 := k1n) hk1.1 hk1.2 rfl rfl dX5_holds_22 ?_
  refine tj_icmp_eq (pc := 23) G (tgt := 28) (a2 := w32 (M3 37 (w32 z2))) (b2 := w32 (M3 k1 (w32 z2))) dX5_holds_23 (by decide) rfl rfl ?_ ?_
  · refine tj_iinc (pc := 28) G 2 (fun x4 => [(2, vI x4), (0, vR X 36), (1, vR X k1)]) dX5_holds_28 rfl (by decide) (fun _ => rfl) (fun x4 => ?_)
    refine tj_goto (pc := 31) G (tgt := 2) dX5_holds_31 (by decide) ?_
    exact tj_sub [1, 2, 0] rfl (hrec x4 M3)
  refine tj_iconst (pc := 26) G dX5_holds_26 ?_
  exact tj_zret (pc := 27) G (by decide) dX5_holds_27
set_option maxRecDepth 100000 in
set_option maxHeartbeats 4000000 in
theorem ok_X5_holds (X : tp_X)  {k1 : Nat} {k1n : Nat} (hk1 : tg_I LC 64 k1 k1n) {M : tp_M} {res : Int × tp_M} (h : fx_X5_holds  k1 k1n M = some res) : tp_Ret X LC 64 1 yX5_holds (Cond.code yX5_holds cX5_holds 3 (some .boolean)) 1 [vR X 36, vR X k1] M res := by
  refine tp_ofW (by decide +kernel) rfl rfl (by show _ ≤ 3; exact Nat.le_of_ble_eq_true rfl) h (fun Y G => ?_)
  show tp_J X Y LC 64 3 1 1 (fx_X5_holds  k1 k1n M) M [(0, vR X 36), (1, vR X k1)] [] 0
  unfold fx_X5_holds
  refine tj_iconst (pc := 0) G dX5_holds_0 ?_
  refine tj_istore_n (pc := 1) G (fun x1 => [(2, vI x1), (0, vR X 36), (1, vR X k1)]) dX5_holds_1 rfl (by decide) (fun _ => rfl) (fun x1 => ?_)
  refine tj_sub [1, 2, 0] rfl (fx_X5_holds_L2_ok G  hk1   tp_F x1 M)

def fx_X5_burstAtOnce_L49 (c2 : Int) (c3 : Int) (c4 : Int) (K91 : tp_M → tp_O) (rec : Int → tp_M → tp_O) (z7 : Int) (M8 : tp_M) : tp_O :=
(if w32 z7 < w32 c3 then
(tp_bd (fx_X4_goal 5 c2 z7 M8) (fun r9 M10 =>
(tp_lt r9 (fun x11 =>
(tp_bd (fx_X4_hasPost 5 x11 M10) (fun r12 M13 =>
(tp_jn0 (fun M14 => 
(tp_lt (z7 + 1) (fun x15 =>
(rec x15 M14)))) (fun jk85 =>
(if w32 r12 = 0 then
(jk85 M13)
else
(tp_ck (w32 x11) 8 (tp_ck (w32 x11) 8 (tp_lm (tp_up M13 37 (w32 x11) ((M13 37 (w32 x11)) + c4)) (fun M16 =>
(jk85 M16))))))))))))))
else
(K91 M8))
def fx_X5_burstAtOnce  (a2 : Int) (M : tp_M) : tp_O :=
(tp_bd (fx_X4_degree 5 a2 M) (fun r1 M2 =>
(tp_lt r1 (fun x3 =>
(if w32 x3 < 1 then
(some (0, M2))
else
(tp_ck (w32 a2) 8 (if w32 (M2 37 (w32 a2)) < w32 x3 then
(some (0, M2))
else
(tp_ck (w32 a2) 8 (tp_nz (w32 x3) (tp_lt (x_div (M2 37 (w32 a2)) x3) (fun x4 =>
(tp_ck (w32 a2) 8 (tp_ck (w32 a2) 8 (tp_lm (tp_up M2 37 (w32 a2) ((M2 37 (w32 a2)) - (x4 * x3))) (fun M5 =>
(tp_lt 0 (fun x6 =>
(tp_lp1 (fx_X5_burstAtOnce_L49 a2 x3 x4 (fun M17 =>
(tp_ck (w32 a2) 8 (tp_ck (w32 a2) 8 (tp_lm (tp_up M17 38 (w32 a2) ((M17 38 (w32 a2)) + x4)) (fun M18 =>
(some (x4, M18)))))))) tp_F x6 M5))))))))))))))))))
set_option maxRecDepth 100000 in
set_option maxHeartbeats 4000000 in
theorem fx_X5_burstAtOnce_L49_ok {X : tp_X} {Y : tp_Y} (G : tp_Ok X Y 64 cX5_burstAtOnce 7 RX5 (some .int))  {c2 : Int} {c3 : Int} {c4 : Int} {K91 : tp_M → tp_O}   (hK91 : ∀ (M9 : tp_M), tp_J X Y LC 64 7 3 1 (K91  M9) M9 [(0, vR X 36), (2, vI c2), (4, vI c4)] [] 91) (n : Nat) : ∀ (z7 : Int) (M8 : tp_M), tp_J X Y LC 64 7 3 1 (tp_lp1 (fx_X5_burstAtOnce_L49  c2 c3 c4 K91) n z7 M8) M8 [(0, vR X 36), (1, vR X 5), (2, vI c2), (3, vI c3), (4, vI c4), (5, vI z7)] [] 49 := by
  refine tp_lp1_ok (P := fun o z7 M8 => tp_J X Y LC 64 7 3 1 (o) M8 [(0, vR X 36), (1, vR X 5), (2, vI c2), (3, vI c3), (4, vI c4), (5, vI z7)] [] 49) (fun z7 M8 => tj_none) (fun rec hrec z7 M8 => ?_) n
  unfold fx_X5_burstAtOnce_L49
  refine tj_iload (pc := 49) G 5 dX5_burstAtOnce_49 rfl ?_
  refine tj_iload_n (pc := 51) G 3 dX5_burstAtOnce_51 rfl rfl ?_
  refine tj_icmp_ge (pc := 52) G (tgt := 91) (a2 := w32 z7) (b2 := w32 c3) dX5_burstAtOnce_52 (by decide) rfl rfl ?_ ?_
  · exact tj_sub [0, 2, 4] rfl (hK91  M8)
  refine tj_aload_n (pc := 55) G 1 dX5_burstAtOnce_55 rfl rfl ?_
  refine tj_iload_n (pc := 56) G 2 dX5_burstAtOnce_56 rfl rfl ?_
  refine tj_iload (pc := 57) G 5 dX5_burstAtOnce_57 rfl ?_
  refine tj_callVi (pc := 59) G [vI c2, vI z7] mf_X4_goal (k := 5) (by decide) lc_5 rfl rfl ml_X5_35 (by decide) rfl rfl (Nat.le_of_ble_eq_true rfl) (fun _ h9 => ok_X4_goal X gg_Paths_5 h9) dX5_burstAtOnce_59 (fun r9 M10 => ?_)
  refine tj_istore (pc := 62) G (fun x11 => [(6, vI x11), (0, vR X 36), (1, vR X 5), (2, vI c2), (3, vI c3), (4, vI c4), (5, vI z7)]) dX5_burstAtOnce_62 (by decide) (fun _ => rfl) (fun x11 => ?_)
  refine tj_aload_n (pc := 64) G 2 dX5_burstAtOnce_64 rfl rfl ?_
  refine tj_iload (pc := 65) G 0 dX5_burstAtOnce_65 rfl ?_
  refine tj_callVi (pc := 67) G [vI x11] mf_X4_hasPost (k := 5) (by decide) lc_5 rfl rfl ml_X5_39 (by decide) rfl rfl (Nat.le_of_ble_eq_true rfl) (fun _ h9 => ok_X4_hasPost X gg_Paths_5 h9) dX5_burstAtOnce_67 (fun r12 M13 => ?_)
  refine tj_jn0 [(0, vR X 36), (1, vR X 5), (2, vI c2), (3, vI c3), (4, vI c4), (5, vI z7)] [] 85 (fun M14 => ?_) (fun jk85 hj85 => ?_)
  · refine tj_iinc (pc := 85) G 5 (fun x15 => [(5, vI x15), (0, vR X 36), (1, vR X 5), (2, vI c2), (3, vI c3), (4, vI c4)]) dX5_burstAtOnce_85 rfl (by decide) (fun _ => rfl) (fun x15 => ?_)
    refine tj_goto (pc := 88) G (tgt := 49) dX5_burstAtOnce_88 (by decide) ?_
    exact tj_sub [1, 2, 3, 4, 5, 0] rfl (hrec x15 M14)
  refine tj_if_eq (pc := 70) G (tgt := 85) (a2 := w32 r12) dX5_burstAtOnce_70 (by decide) rfl ?_ ?_
  · exact tj_sub [1, 2, 3, 4, 5, 6] rfl (hj85  M13)
  refine tj_aload_n (pc := 73) G 1 dX5_burstAtOnce_73 rfl rfl ?_
  refine tj_getR (pc := 74) G (k := 36) (j := 0) (j2 := 0) tk_X5 (by decide) lc_36 rfl (by decide) rfl fl_X5_9 dX5_burstAtOnce_74 ?_
  refine tj_iload (pc := 77) G 0 dX5_burstAtOnce_77 rfl ?_
  refine tj_dup2 (pc := 79) G dX5_burstAtOnce_79 rfl rfl ?_
  refine tj_iald (pc := 80) G (k := 37) (i2 := w32 x11) (n2 := 8) (by decide) lc_37 rfl rfl dX5_burstAtOnce_80 ?_
  refine tj_iload (pc := 81) G 5 dX5_burstAtOnce_81 rfl ?_
  refine tj_iadd (pc := 83) G dX5_burstAtOnce_83 ?_
  refine tj_iast (pc := 84) G (k := 37) (i2 := w32 x11) (n2 := 8) (by decide) lc_37 rfl rfl dX5_burstAtOnce_84 (fun M16 => ?_)
  exact tj_sub [1, 2, 3, 4, 5, 6] rfl (hj85  M16)
set_option maxRecDepth 100000 in
set_option maxHeartbeats 4000000 in
theorem ok_X5_burstAtOnce (X : tp_X)  {a2 : Int}  {M : tp_M} {res : Int × tp_M} (h : fx_X5_burstAtOnce  a2 M = some res) : tp_Ret X LC 64 1 yX5_burstAtOnce (Cond.code yX5_burstAtOnce cX5_burstAtOnce 7 (some .int)) 3 [vR X 36, vR X 5, vI a2] M res := by
  refine tp_ofW (by decide +kernel) rfl rfl (by show _ ≤ 7; exact Nat.le_of_ble_eq_true rfl) h (fun Y G => ?_)
  show tp_J X Y LC 64 7 3 1 (fx_X5_burstAtOnce  a2 M) M [(0, vR X 36), (1, vR X 5), (2, vI a2)] [] 0
  unfold fx_X5_burstAtOnce
  refine tj_aload_n (pc := 0) G 1 dX5_burstAtOnce_0 rfl rfl ?_
  refine tj_iload_n (pc := 1) G 2 dX5_burstAtOnce_1 rfl rfl ?_
  refine tj_callVi (pc := 2) G [vI a2] mf_X4_degree (k := 5) (by decide) lc_5 rfl rfl ml_X5_31 (by decide) rfl rfl (Nat.le_of_ble_eq_true rfl) (fun _ h9 => ok_X4_degree X gg_Paths_5 h9) dX5_burstAtOnce_2 (fun r1 M2 => ?_)
  refine tj_istore_n (pc := 5) G (fun x3 => [(3, vI x3), (0, vR X 36), (1, vR X 5), (2, vI a2)]) dX5_burstAtOnce_5 rfl (by decide) (fun _ => rfl) (fun x3 => ?_)
  refine tj_iload_n (pc := 6) G 0 dX5_burstAtOnce_6 rfl rfl ?_
  refine tj_iconst (pc := 7) G dX5_burstAtOnce_7 ?_
  refine tj_icmp_lt (pc := 8) G (tgt := 21) (a2 := w32 x3) (b2 := 1) dX5_burstAtOnce_8 (by decide) rfl rfl ?_ ?_
  · refine tj_iconst (pc := 21) G dX5_burstAtOnce_21 ?_
    exact tj_iret (pc := 22) G dX5_burstAtOnce_22
  refine tj_aload_n (pc := 11) G 1 dX5_burstAtOnce_11 rfl rfl ?_
  refine tj_getR (pc := 12) G (k := 36) (j := 0) (j2 := 0) tk_X5 (by decide) lc_36 rfl (by decide) rfl fl_X5_9 dX5_burstAtOnce_12 ?_
  refine tj_iload_n (pc := 15) G 3 dX5_burstAtOnce_15 rfl rfl ?_
  refine tj_iald (pc := 16) G (k := 37) (i2 := w32 a2) (n2 := 8) (by decide) lc_37 rfl rfl dX5_burstAtOnce_16 ?_
  refine tj_iload_n (pc := 17) G 0 dX5_burstAtOnce_17 rfl rfl ?_
  refine tj_icmp_ge (pc := 18) G (tgt := 23) (a2 := w32 (M2 37 (w32 a2))) (b2 := w32 x3) dX5_burstAtOnce_18 (by decide) rfl rfl ?_ ?_
  · refine tj_aload_n (pc := 23) G 1 dX5_burstAtOnce_23 rfl rfl ?_
    refine tj_getR (pc := 24) G (k := 36) (j := 0) (j2 := 0) tk_X5 (by decide) lc_36 rfl (by decide) rfl fl_X5_9 dX5_burstAtOnce_24 ?_
    refine tj_iload_n (pc := 27) G 3 dX5_burstAtOnce_27 rfl rfl ?_
    refine tj_iald (pc := 28) G (k := 37) (i2 := w32 a2) (n2 := 8) (by decide) lc_37 rfl rfl dX5_burstAtOnce_28 ?_
    refine tj_iload_n (pc := 29) G 0 dX5_burstAtOnce_29 rfl rfl ?_
    refine tj_idiv (pc := 30) G (b2 := w32 x3) dX5_burstAtOnce_30 rfl ?_
    refine tj_istore (pc := 31) G (fun x4 => [(4, vI x4), (3, vI x3), (0, vR X 36), (1, vR X 5), (2, vI a2)]) dX5_burstAtOnce_31 (by decide) (fun _ => rfl) (fun x4 => ?_)
    refine tj_aload_n (pc := 33) G 2 dX5_burstAtOnce_33 rfl rfl ?_
    refine tj_getR (pc := 34) G (k := 36) (j := 0) (j2 := 0) tk_X5 (by decide) lc_36 rfl (by decide) rfl fl_X5_9 dX5_burstAtOnce_34 ?_
    refine tj_iload_n (pc := 37) G 4 dX5_burstAtOnce_37 rfl rfl ?_
    refine tj_dup2 (pc := 38) G dX5_burstAtOnce_38 rfl rfl ?_
    refine tj_iald (pc := 39) G (k := 37) (i2 := w32 a2) (n2 := 8) (by decide) lc_37 rfl rfl dX5_burstAtOnce_39 ?_
    refine tj_iload (pc := 40) G 0 dX5_burstAtOnce_40 rfl ?_
    refine tj_iload_n (pc := 42) G 1 dX5_burstAtOnce_42 rfl rfl ?_
    refine tj_imul (pc := 43) G dX5_burstAtOnce_43 ?_
    refine tj_isub (pc := 44) G dX5_burstAtOnce_44 ?_
    refine tj_iast (pc := 45) G (k := 37) (i2 := w32 a2) (n2 := 8) (by decide) lc_37 rfl rfl dX5_burstAtOnce_45 (fun M5 => ?_)
    refine tj_iconst (pc := 46) G dX5_burstAtOnce_46 ?_
    refine tj_istore (pc := 47) G (fun x6 => [(5, vI x6), (4, vI x4), (3, vI x3), (0, vR X 36), (1, vR X 5), (2, vI a2)]) dX5_burstAtOnce_47 (by decide) (fun _ => rfl) (fun x6 => ?_)
    refine tj_sub [3, 4, 5, 2, 1, 0] rfl (fx_X5_burstAtOnce_L49_ok G    (fun M17 => ?_) tp_F x6 M5)
    refine tj_aload_n (pc := 91) G 0 dX5_burstAtOnce_91 rfl rfl ?_
    refine tj_getR (pc := 92) G (k := 36) (j := 1) (j2 := 1) tk_X5 (by decide) lc_36 rfl (by decide) rfl fl_X5_15 dX5_burstAtOnce_92 ?_
    refine tj_iload_n (pc := 95) G 1 dX5_burstAtOnce_95 rfl rfl ?_
    refine tj_dup2 (pc := 96) G dX5_burstAtOnce_96 rfl rfl ?_
    refine tj_iald (pc := 97) G (k := 38) (i2 := w32 a2) (n2 := 8) (by decide) lc_38 rfl rfl dX5_burstAtOnce_97 ?_
    refine tj_iload (pc := 98) G 2 dX5_burstAtOnce_98 rfl ?_
    refine tj_iadd (pc := 100) G dX5_burstAtOnce_100 ?_
    refine tj_iast (pc := 101) G (k := 38) (i2 := w32 a2) (n2 := 8) (by decide) lc_38 rfl rfl dX5_burstAtOnce_101 (fun M18 => ?_)
    refine tj_iload (pc := 102) G 2 dX5_burstAtOnce_102 rfl ?_
    exact tj_iret (pc := 104) G dX5_burstAtOnce_104
  refine tj_iconst (pc := 21) G dX5_burstAtOnce_21 ?_
  exact tj_iret (pc := 22) G dX5_burstAtOnce_22

def fx_X5_calm_L2  (K21 : tp_M → tp_O) (rec : Int → tp_M → tp_O) (z2 : Int) (M3 : tp_M) : tp_O :=
(if w32 z2 < 8 then
(tp_ck (w32 z2) 8 (tp_lm (tp_up M3 38 (w32 z2) 0) (fun M4 =>
(tp_lt (z2 + 1) (fun x5 =>
(rec x5 M4))))))
else
(K21 M3))
def fx_X5_calm_L53 (c3 : Int) (c4 : Int) (K78 : Int → tp_M → tp_O) (rec : Int → Int → tp_M → tp_O) (z17 z18 : Int) (M19 : tp_M) : tp_O :=
(tp_bd (fx_X4_crossings 5 M19) (fun r21 M22 =>
(if w32 z18 < w32 r21 then
(tp_bd (fx_X5_burstAtOnce z18 M22) (fun r23 M24 =>
(tp_lt (z17 + r23) (fun x25 =>
(tp_lt (z18 + 1) (fun x26 =>
(rec x25 x26 M24)))))))
else
(K78 z17 M22))))
def fx_X5_calm_L28  (K84 : Int → tp_M → tp_O) (rec : Int → Int → Int → tp_M → tp_O) (z10 z11 z12 : Int) (M13 : tp_M) : tp_O :=
(if w32 z12 ≤ 9999 then
(if w32 z10 ≤ w32 z11 then
(K84 z10 M13)
else
(if w32 z10 ≤ 9999 then
(tp_lt z10 (fun x15 =>
(tp_lt 1 (fun x16 =>
(tp_lp2 (fx_X5_calm_L53 x15 z12 (fun y20 M27 =>
(tp_lt (z12 + 1) (fun x28 =>
(rec y20 x15 x28 M27))))) tp_F z10 x16 M13)))))
else
(K84 z10 M13)))
else
(K84 z10 M13))
def fx_X5_calm   (M : tp_M) : tp_O :=
(tp_lt 0 (fun x1 =>
(tp_lp1 (fx_X5_calm_L2  (fun M6 =>
(tp_lt 0 (fun x7 =>
(tp_lt (-1) (fun x8 =>
(tp_lt 0 (fun x9 =>
(tp_lp3 (fx_X5_calm_L28  (fun y14 M29 =>
(if w32 y14 ≤ 9999 then
(some (y14, M29))
else
(some ((-3), M29))))) tp_F x7 x8 x9 M6))))))))) tp_F x1 M)))
set_option maxRecDepth 100000 in
set_option maxHeartbeats 4000000 in
theorem fx_X5_calm_L2_ok {X : tp_X} {Y : tp_Y} (G : tp_Ok X Y 64 cX5_calm 6 RX5 (some .int))  {K21 : tp_M → tp_O}   (hK21 : ∀ (M9 : tp_M), tp_J X Y LC 64 6 4 1 (K21  M9) M9 [(0, vR X 36), (1, vR X 5)] [] 21) (n : Nat) : ∀ (z2 : Int) (M3 : tp_M), tp_J X Y LC 64 6 4 1 (tp_lp1 (fx_X5_calm_L2   K21) n z2 M3) M3 [(0, vR X 36), (1, vR X 5), (2, vI z2)] [] 2 := by
  refine tp_lp1_ok (P := fun o z2 M3 => tp_J X Y LC 64 6 4 1 (o) M3 [(0, vR X 36), (1, vR X 5), (2, vI z2)] [] 2) (fun z2 M3 => tj_none) (fun rec hrec z2 M3 => ?_) n
  unfold fx_X5_calm_L2
  refine tj_iload_n (pc := 2) G 2 dX5_calm_2 rfl rfl ?_
  refine tj_bipush (pc := 3) G dX5_calm_3 rfl ?_
  refine tj_icmp_ge (pc := 5) G (tgt := 21) (a2 := w32 z2) (b2 := 8) dX5_calm_5 (by decide) rfl rfl ?_ ?_
  · exact tj_sub [0, 1] rfl (hK21  M3)
  refine tj_aload_n (pc := 8) G 0 dX5_calm_8 rfl rfl ?_
  refine tj_getR (pc := 9) G (k := 36) (j := 1) (j2 := 1) tk_X5 (by decide) lc_36 rfl (by decide) rfl fl_X5_15 dX5_calm_9 ?_
  refine tj_iload_n (pc := 12) G 2 dX5_calm_12 rfl rfl ?_
  refine tj_iconst (pc := 13) G dX5_calm_13 ?_
  refine tj_iast (pc := 14) G (k := 38) (i2 := w32 z2) (n2 := 8) (by decide) lc_38 rfl rfl dX5_calm_14 (fun M4 => ?_)
  refine tj_iinc (pc := 15) G 2 (fun x5 => [(2, vI x5), (0, vR X 36), (1, vR X 5)]) dX5_calm_15 rfl (by decide) (fun _ => rfl) (fun x5 => ?_)
  refine tj_goto (pc := 18) G (tgt := 2) dX5_calm_18 (by decide) ?_
  exact tj_sub [1, 2, 0] rfl (hrec x5 M4)
set_option maxRecDepth 100000 in
set_option maxHeartbeats 4000000 in
theorem fx_X5_calm_L53_ok {X : tp_X} {Y : tp_Y} (G : tp_Ok X Y 64 cX5_calm 6 RX5 (some .int))  {c3 : Int} {c4 : Int} {K78 : Int → tp_M → tp_O}   (hK78 : ∀ (y20 : Int) (M9 : tp_M), tp_J X Y LC 64 6 4 1 (K78 y20 M9) M9 [(0, vR X 36), (1, vR X 5), (2, vI y20), (3, vI c3), (4, vI c4)] [] 78) (n : Nat) : ∀ (z17 z18 : Int) (M19 : tp_M), tp_J X Y LC 64 6 4 1 (tp_lp2 (fx_X5_calm_L53  c3 c4 K78) n z17 z18 M19) M19 [(0, vR X 36), (1, vR X 5), (2, vI z17), (3, vI c3), (4, vI c4), (5, vI z18)] [] 53 := by
  refine tp_lp2_ok (P := fun o z17 z18 M19 => tp_J X Y LC 64 6 4 1 (o) M19 [(0, vR X 36), (1, vR X 5), (2, vI z17), (3, vI c3), (4, vI c4), (5, vI z18)] [] 53) (fun z17 z18 M19 => tj_none) (fun rec hrec z17 z18 M19 => ?_) n
  unfold fx_X5_calm_L53
  refine tj_iload (pc := 53) G 5 dX5_calm_53 rfl ?_
  refine tj_aload_n (pc := 55) G 1 dX5_calm_55 rfl rfl ?_
  refine tj_callVi (pc := 56) G [] mf_X4_crossings (k := 5) (by decide) lc_5 rfl rfl ml_X5_21 (by decide) rfl rfl (Nat.le_of_ble_eq_true rfl) (fun _ h9 => ok_X4_crossings X gg_Paths_5 h9) dX5_calm_56 (fun r21 M22 => ?_)
  refine tj_icmp_ge (pc := 59) G (tgt := 78) (a2 := w32 z18) (b2 := w32 r21) dX5_calm_59 (by decide) rfl rfl ?_ ?_
  · exact tj_sub [0, 1, 2, 3, 4] rfl (hK78 z17 M22)
  refine tj_iload_n (pc := 62) G 2 dX5_calm_62 rfl rfl ?_
  refine tj_aload_n (pc := 63) G 0 dX5_calm_63 rfl rfl ?_
  refine tj_aload_n (pc := 64) G 1 dX5_calm_64 rfl rfl ?_
  refine tj_iload (pc := 65) G 5 dX5_calm_65 rfl ?_
  refine tj_callVi (pc := 67) G [vR X 5, vI z18] mf_X5_burstAtOnce (k := 36) (by decide) lc_36 rfl rfl ml_X5_27 (by decide) rfl rfl (Nat.le_of_ble_eq_true rfl) (fun _ h9 => ok_X5_burstAtOnce X  h9) dX5_calm_67 (fun r23 M24 => ?_)
  refine tj_iadd (pc := 70) G dX5_calm_70 ?_
  refine tj_istore_n (pc := 71) G (fun x25 => [(2, vI x25), (0, vR X 36), (1, vR X 5), (3, vI c3), (4, vI c4), (5, vI z18)]) dX5_calm_71 rfl (by decide) (fun _ => rfl) (fun x25 => ?_)
  refine tj_iinc (pc := 72) G 5 (fun x26 => [(5, vI x26), (2, vI x25), (0, vR X 36), (1, vR X 5), (3, vI c3), (4, vI c4)]) dX5_calm_72 rfl (by decide) (fun _ => rfl) (fun x26 => ?_)
  refine tj_goto (pc := 75) G (tgt := 53) dX5_calm_75 (by decide) ?_
  exact tj_sub [2, 3, 1, 4, 5, 0] rfl (hrec x25 x26 M24)
set_option maxRecDepth 100000 in
set_option maxHeartbeats 4000000 in
theorem fx_X5_calm_L28_ok {X : tp_X} {Y : tp_Y} (G : tp_Ok X Y 64 cX5_calm 6 RX5 (some .int))  {K84 : Int → tp_M → tp_O}   (hK84 : ∀ (y14 : Int) (M9 : tp_M), tp_J X Y LC 64 6 4 1 (K84 y14 M9) M9 [(2, vI y14)] [] 84) (n : Nat) : ∀ (z10 z11 z12 : Int) (M13 : tp_M), tp_J X Y LC 64 6 4 1 (tp_lp3 (fx_X5_calm_L28   K84) n z10 z11 z12 M13) M13 [(0, vR X 36), (1, vR X 5), (2, vI z10), (3, vI z11), (4, vI z12)] [] 28 := by
  refine tp_lp3_ok (P := fun o z10 z11 z12 M13 => tp_J X Y LC 64 6 4 1 (o) M13 [(0, vR X 36), (1, vR X 5), (2, vI z10), (3, vI z11), (4, vI z12)] [] 28) (fun z10 z11 z12 M13 => tj_none) (fun rec hrec z10 z11 z12 M13 => ?_) n
  unfold fx_X5_calm_L28
  refine tj_iload (pc := 28) G 4 dX5_calm_28 rfl ?_
  refine tj_sipush (pc := 30) G dX5_calm_30 rfl ?_
  refine tj_icmp_gt (pc := 33) G (tgt := 84) (a2 := w32 z12) (b2 := 9999) dX5_calm_33 (by decide) rfl rfl ?_ ?_
  · exact tj_sub [2] rfl (hK84 z10 M13)
  refine tj_iload_n (pc := 36) G 2 dX5_calm_36 rfl rfl ?_
  refine tj_iload_n (pc := 37) G 3 dX5_calm_37 rfl rfl ?_
  refine tj_icmp_le (pc := 38) G (tgt := 84) (a2 := w32 z10) (b2 := w32 z11) dX5_calm_38 (by decide) rfl rfl ?_ ?_
  · exact tj_sub [2] rfl (hK84 z10 M13)
  refine tj_iload_n (pc := 41) G 2 dX5_calm_41 rfl rfl ?_
  refine tj_sipush (pc := 42) G dX5_calm_42 rfl ?_
  refine tj_icmp_gt (pc := 45) G (tgt := 84) (a2 := w32 z10) (b2 := 9999) dX5_calm_45 (by decide) rfl rfl ?_ ?_
  · exact tj_sub [2] rfl (hK84 z10 M13)
  refine tj_iload_n (pc := 48) G 2 dX5_calm_48 rfl rfl ?_
  refine tj_istore_n (pc := 49) G (fun x15 => [(3, vI x15), (0, vR X 36), (1, vR X 5), (2, vI z10), (4, vI z12)]) dX5_calm_49 rfl (by decide) (fun _ => rfl) (fun x15 => ?_)
  refine tj_iconst (pc := 50) G dX5_calm_50 ?_
  refine tj_istore (pc := 51) G (fun x16 => [(5, vI x16), (3, vI x15), (0, vR X 36), (1, vR X 5), (2, vI z10), (4, vI z12)]) dX5_calm_51 (by decide) (fun _ => rfl) (fun x16 => ?_)
  refine tj_sub [2, 3, 4, 1, 5, 0] rfl (fx_X5_calm_L53_ok G    (fun y20 M27 => ?_) tp_F z10 x16 M13)
  refine tj_iinc (pc := 78) G 4 (fun x28 => [(4, vI x28), (0, vR X 36), (1, vR X 5), (2, vI y20), (3, vI x15)]) dX5_calm_78 rfl (by decide) (fun _ => rfl) (fun x28 => ?_)
  refine tj_goto (pc := 81) G (tgt := 28) dX5_calm_81 (by decide) ?_
  exact tj_sub [1, 2, 3, 4, 0] rfl (hrec y20 x15 x28 M27)
set_option maxRecDepth 100000 in
set_option maxHeartbeats 4000000 in
theorem ok_X5_calm (X : tp_X)    {M : tp_M} {res : Int × tp_M} (h : fx_X5_calm   M = some res) : tp_Ret X LC 64 1 yX5_calm (Cond.code yX5_calm cX5_calm 6 (some .int)) 4 [vR X 36, vR X 5] M res := by
  refine tp_ofW (by decide +kernel) rfl rfl (by show _ ≤ 6; exact Nat.le_of_ble_eq_true rfl) h (fun Y G => ?_)
  show tp_J X Y LC 64 6 4 1 (fx_X5_calm   M) M [(0, vR X 36), (1, vR X 5)] [] 0
  unfold fx_X5_calm
  refine tj_iconst (pc := 0) G dX5_calm_0 ?_
  refine tj_istore_n (pc := 1) G (fun x1 => [(2, vI x1), (0, vR X 36), (1, vR X 5)]) dX5_calm_1 rfl (by decide) (fun _ => rfl) (fun x1 => ?_)
  refine tj_sub [1, 2, 0] rfl (fx_X5_calm_L2_ok G    (fun M6 => ?_) tp_F x1 M)
  refine tj_iconst (pc := 21) G dX5_calm_21 ?_
  refine tj_istore_n (pc := 22) G (fun x7 => [(2, vI x7), (0, vR X 36), (1, vR X 5)]) dX5_calm_22 rfl (by decide) (fun _ => rfl) (fun x7 => ?_)
  refine tj_iconst (pc := 23) G dX5_calm_23 ?_
  refine tj_istore_n (pc := 24) G (fun x8 => [(3, vI x8), (2, vI x7), (0, vR X 36), (1, vR X 5)]) dX5_calm_24 rfl (by decide) (fun _ => rfl) (fun x8 => ?_)
  refine tj_iconst (pc := 25) G dX5_calm_25 ?_
  refine tj_istore (pc := 26) G (fun x9 => [(4, vI x9), (3, vI x8), (2, vI x7), (0, vR X 36), (1, vR X 5)]) dX5_calm_26 (by decide) (fun _ => rfl) (fun x9 => ?_)
  refine tj_sub [3, 4, 2, 1, 0] rfl (fx_X5_calm_L28_ok G    (fun y14 M29 => ?_) tp_F x7 x8 x9 M6)
  refine tj_iload_n (pc := 84) G 0 dX5_calm_84 rfl rfl ?_
  refine tj_sipush (pc := 85) G dX5_calm_85 rfl ?_
  refine tj_icmp_le (pc := 88) G (tgt := 96) (a2 := w32 y14) (b2 := 9999) dX5_calm_88 (by decide) rfl rfl ?_ ?_
  · refine tj_iload_n (pc := 96) G 0 dX5_calm_96 rfl rfl ?_
    exact tj_iret (pc := 97) G dX5_calm_97
  refine tj_bipush (pc := 91) G dX5_calm_91 rfl ?_
  refine tj_goto (pc := 93) G (tgt := 97) dX5_calm_93 (by decide) ?_
  exact tj_iret (pc := 97) G dX5_calm_97

def fx_X5_fillTwice_L2  (rec : Int → tp_M → tp_O) (z2 : Int) (M3 : tp_M) : tp_O :=
(if w32 z2 < 8 then
(tp_bd (fx_X4_hasPost 5 z2 M3) (fun r4 M5 =>
(tp_jn1 (fun y6 M7 => 
(tp_ck (w32 z2) 8 (tp_lm (tp_up M7 37 (w32 z2) y6) (fun M8 =>
(tp_lt (z2 + 1) (fun x9 =>
(rec x9 M8))))))) (fun jk34 =>
(if w32 r4 = 0 then
(jk34 0 M5)
else
(tp_bd (fx_X4_degree 5 z2 M5) (fun r10 M11 =>
(jk34 (2 * (r10 - 1)) M11))))))))
else
(some (0, M3)))
def fx_X5_fillTwice   (M : tp_M) : tp_O :=
(tp_lt 0 (fun x1 =>
(tp_lp1 (fx_X5_fillTwice_L2  ) tp_F x1 M)))
set_option maxRecDepth 100000 in
set_option maxHeartbeats 4000000 in
theorem fx_X5_fillTwice_L2_ok {X : tp_X} {Y : tp_Y} (G : tp_Ok X Y 64 cX5_fillTwice 3 RX5 none)      (n : Nat) : ∀ (z2 : Int) (M3 : tp_M), tp_J X Y LC 64 3 3 0 (tp_lp1 (fx_X5_fillTwice_L2   ) n z2 M3) M3 [(0, vR X 36), (1, vR X 5), (2, vI z2)] [] 2 := by
  refine tp_lp1_ok (P := fun o z2 M3 => tp_J X Y LC 64 3 3 0 (o) M3 [(0, vR X 36), (1, vR X 5), (2, vI z2)] [] 2) (fun z2 M3 => tj_none) (fun rec hrec z2 M3 => ?_) n
  unfold fx_X5_fillTwice_L2
  refine tj_iload_n (pc := 2) G 2 dX5_fillTwice_2 rfl rfl ?_
  refine tj_bipush (pc := 3) G dX5_fillTwice_3 rfl ?_
  refine tj_icmp_ge (pc := 5) G (tgt := 41) (a2 := w32 z2) (b2 := 8) dX5_fillTwice_5 (by decide) rfl rfl ?_ ?_
  · exact tj_vret (pc := 41) G dX5_fillTwice_41
  refine tj_aload_n (pc := 8) G 0 dX5_fillTwice_8 rfl rfl ?_
  refine tj_getR (pc := 9) G (k := 36) (j := 0) (j2 := 0) tk_X5 (by decide) lc_36 rfl (by decide) rfl fl_X5_9 dX5_fillTwice_9 ?_
  refine tj_iload_n (pc := 12) G 2 dX5_fillTwice_12 rfl rfl ?_
  refine tj_aload_n (pc := 13) G 1 dX5_fillTwice_13 rfl rfl ?_
  refine tj_iload_n (pc := 14) G 2 dX5_fillTwice_14 rfl rfl ?_
  refine tj_callVi (pc := 15) G [vI z2] mf_X4_hasPost (k := 5) (by decide) lc_5 rfl rfl ml_X5_39 (by decide) rfl rfl (Nat.le_of_ble_eq_true rfl) (fun _ h9 => ok_X4_hasPost X gg_Paths_5 h9) dX5_fillTwice_15 (fun r4 M5 => ?_)
  refine tj_jn1 (fun y6 => [(0, vR X 36), (1, vR X 5), (2, vI z2)]) (fun y6 => [vI y6, vI z2, vR X 37]) 34 (fun y6 M7 => ?_) (fun jk34 hj34 => ?_)
  · refine tj_iast (pc := 34) G (k := 37) (i2 := w32 z2) (n2 := 8) (by decide) lc_37 rfl rfl dX5_fillTwice_34 (fun M8 => ?_)
    refine tj_iinc (pc := 35) G 2 (fun x9 => [(2, vI x9), (0, vR X 36), (1, vR X 5)]) dX5_fillTwice_35 rfl (by decide) (fun _ => rfl) (fun x9 => ?_)
    refine tj_goto (pc := 38) G (tgt := 2) dX5_fillTwice_38 (by decide) ?_
    exact tj_sub [1, 2, 0] rfl (hrec x9 M8)
  refine tj_if_eq (pc := 18) G (tgt := 33) (a2 := w32 r4) dX5_fillTwice_18 (by decide) rfl ?_ ?_
  · refine tj_iconst (pc := 33) G dX5_fillTwice_33 ?_
    exact tj_sub [0, 1, 2] rfl (hj34 0 M5)
  refine tj_iconst (pc := 21) G dX5_fillTwice_21 ?_
  refine tj_aload_n (pc := 22) G 1 dX5_fillTwice_22 rfl rfl ?_
  refine tj_iload_n (pc := 23) G 2 dX5_fillTwice_23 rfl rfl ?_
  refine tj_callVi (pc := 24) G [vI z2] mf_X4_degree (k := 5) (by decide) lc_5 rfl rfl ml_X5_31 (by decide) rfl rfl (Nat.le_of_ble_eq_true rfl) (fun _ h9 => ok_X4_degree X gg_Paths_5 h9) dX5_fillTwice_24 (fun r10 M11 => ?_)
  refine tj_iconst (pc := 27) G dX5_fillTwice_27 ?_
  refine tj_isub (pc := 28) G dX5_fillTwice_28 ?_
  refine tj_imul (pc := 29) G dX5_fillTwice_29 ?_
  refine tj_goto (pc := 30) G (tgt := 34) dX5_fillTwice_30 (by decide) ?_
  exact tj_sub [0, 1, 2] rfl (hj34 (2 * (r10 - 1)) M11)
set_option maxRecDepth 100000 in
set_option maxHeartbeats 4000000 in
theorem ok_X5_fillTwice (X : tp_X)    {M : tp_M} {res : Int × tp_M} (h : fx_X5_fillTwice   M = some res) : tp_Ret X LC 64 0 yX5_fillTwice (Cond.code yX5_fillTwice cX5_fillTwice 3 none) 3 [vR X 36, vR X 5] M res := by
  refine tp_ofW (by decide +kernel) rfl rfl (by show _ ≤ 3; exact Nat.le_of_ble_eq_true rfl) h (fun Y G => ?_)
  show tp_J X Y LC 64 3 3 0 (fx_X5_fillTwice   M) M [(0, vR X 36), (1, vR X 5)] [] 0
  unfold fx_X5_fillTwice
  refine tj_iconst (pc := 0) G dX5_fillTwice_0 ?_
  refine tj_istore_n (pc := 1) G (fun x1 => [(2, vI x1), (0, vR X 36), (1, vR X 5)]) dX5_fillTwice_1 rfl (by decide) (fun _ => rfl) (fun x1 => ?_)
  refine tj_sub [1, 2, 0] rfl (fx_X5_fillTwice_L2_ok G     tp_F x1 M)

def fx_X5_makeUnit_L18  (K42 : tp_M → tp_O) (rec : Int → tp_M → tp_O) (z6 : Int) (M7 : tp_M) : tp_O :=
(if w32 z6 < 8 then
(tp_ck (w32 z6) 8 (tp_ck (w32 z6) 8 (tp_lm (tp_up M7 39 (w32 z6) (M7 37 (w32 z6))) (fun M8 =>
(tp_lt (z6 + 1) (fun x9 =>
(rec x9 M8)))))))
else
(K42 M7))
def fx_X5_makeUnit_L49  (K76 : tp_M → tp_O) (rec : Int → tp_M → tp_O) (z14 : Int) (M15 : tp_M) : tp_O :=
(if w32 z14 < 8 then
(tp_ck (w32 z14) 8 (tp_ck (w32 z14) 8 (tp_ck (w32 z14) 8 (tp_lm (tp_up M15 37 (w32 z14) ((M15 37 (w32 z14)) - (M15 39 (w32 z14)))) (fun M16 =>
(tp_lt (z14 + 1) (fun x17 =>
(rec x17 M16))))))))
else
(K76 M15))
def fx_X5_makeUnit_L91  (rec : Int → Int → tp_M → tp_O) (z23 z24 : Int) (M25 : tp_M) : tp_O :=
(if w32 z24 < 8 then
(tp_ck (w32 z24) 8 (tp_ck (w32 z24) 8 (tp_lm (tp_up M25 39 (w32 z24) (M25 37 (w32 z24))) (fun M26 =>
(tp_ck (w32 z24) 8 (tp_lt (z23 + (M26 39 (w32 z24))) (fun x27 =>
(tp_lt (z24 + 1) (fun x28 =>
(rec x27 x28 M26))))))))))
else
(some (z23, M25)))
def fx_X5_makeUnit   (M : tp_M) : tp_O :=
(tp_bd (fx_X5_fillTwice  M) (fun r1 M2 =>
(tp_bd (fx_X5_calm  M2) (fun r3 M4 =>
(if w32 r3 < 0 then
(some ((-3), M4))
else
(tp_lt 0 (fun x5 =>
(tp_lp1 (fx_X5_makeUnit_L18  (fun M10 =>
(tp_bd (fx_X5_fillTwice  M10) (fun r11 M12 =>
(tp_lt 0 (fun x13 =>
(tp_lp1 (fx_X5_makeUnit_L49  (fun M18 =>
(tp_bd (fx_X5_calm  M18) (fun r19 M20 =>
(if w32 r19 < 0 then
(some ((-3), M20))
else
(tp_lt 0 (fun x21 =>
(tp_lt 0 (fun x22 =>
(tp_lp2 (fx_X5_makeUnit_L91  ) tp_F x21 x22 M20)))))))))) tp_F x13 M12))))))) tp_F x5 M4))))))))
set_option maxRecDepth 100000 in
set_option maxHeartbeats 4000000 in
theorem fx_X5_makeUnit_L18_ok {X : tp_X} {Y : tp_Y} (G : tp_Ok X Y 64 cX5_makeUnit 4 RX5 (some .int))  {K42 : tp_M → tp_O}   (hK42 : ∀ (M9 : tp_M), tp_J X Y LC 64 4 5 1 (K42  M9) M9 [(0, vR X 36), (1, vR X 5)] [] 42) (n : Nat) : ∀ (z6 : Int) (M7 : tp_M), tp_J X Y LC 64 4 5 1 (tp_lp1 (fx_X5_makeUnit_L18   K42) n z6 M7) M7 [(0, vR X 36), (1, vR X 5), (2, vI z6)] [] 18 := by
  refine tp_lp1_ok (P := fun o z6 M7 => tp_J X Y LC 64 4 5 1 (o) M7 [(0, vR X 36), (1, vR X 5), (2, vI z6)] [] 18) (fun z6 M7 => tj_none) (fun rec hrec z6 M7 => ?_) n
  unfold fx_X5_makeUnit_L18
  refine tj_iload_n (pc := 18) G 2 dX5_makeUnit_18 rfl rfl ?_
  refine tj_bipush (pc := 19) G dX5_makeUnit_19 rfl ?_
  refine tj_icmp_ge (pc := 21) G (tgt := 42) (a2 := w32 z6) (b2 := 8) dX5_makeUnit_21 (by decide) rfl rfl ?_ ?_
  · exact tj_sub [0, 1] rfl (hK42  M7)
  refine tj_aload_n (pc := 24) G 0 dX5_makeUnit_24 rfl rfl ?_
  refine tj_getR (pc := 25) G (k := 36) (j := 2) (j2 := 2) tk_X5 (by decide) lc_36 rfl (by decide) rfl fl_X5_18 dX5_makeUnit_25 ?_
  refine tj_iload_n (pc := 28) G 2 dX5_makeUnit_28 rfl rfl ?_
  refine tj_aload_n (pc := 29) G 0 dX5_makeUnit_29 rfl rfl ?_
  refine tj_getR (pc := 30) G (k := 36) (j := 0) (j2 := 0) tk_X5 (by decide) lc_36 rfl (by decide) rfl fl_X5_9 dX5_makeUnit_30 ?_
  refine tj_iload_n (pc := 33) G 2 dX5_makeUnit_33 rfl rfl ?_
  refine tj_iald (pc := 34) G (k := 37) (i2 := w32 z6) (n2 := 8) (by decide) lc_37 rfl rfl dX5_makeUnit_34 ?_
  refine tj_iast (pc := 35) G (k := 39) (i2 := w32 z6) (n2 := 8) (by decide) lc_39 rfl rfl dX5_makeUnit_35 (fun M8 => ?_)
  refine tj_iinc (pc := 36) G 2 (fun x9 => [(2, vI x9), (0, vR X 36), (1, vR X 5)]) dX5_makeUnit_36 rfl (by decide) (fun _ => rfl) (fun x9 => ?_)
  refine tj_goto (pc := 39) G (tgt := 18) dX5_makeUnit_39 (by decide) ?_
  exact tj_sub [1, 2, 0] rfl (hrec x9 M8)
set_option maxRecDepth 100000 in
set_option maxHeartbeats 4000000 in
theorem fx_X5_makeUnit_L49_ok {X : tp_X} {Y : tp_Y} (G : tp_Ok X Y 64 cX5_makeUnit 4 RX5 (some .int))  {K76 : tp_M → tp_O}   (hK76 : ∀ (M9 : tp_M), tp_J X Y LC 64 4 5 1 (K76  M9) M9 [(0, vR X 36), (1, vR X 5)] [] 76) (n : Nat) : ∀ (z14 : Int) (M15 : tp_M), tp_J X Y LC 64 4 5 1 (tp_lp1 (fx_X5_makeUnit_L49   K76) n z14 M15) M15 [(0, vR X 36), (1, vR X 5), (2, vI z14)] [] 49 := by
  refine tp_lp1_ok (P := fun o z14 M15 => tp_J X Y LC 64 4 5 1 (o) M15 [(0, vR X 36), (1, vR X 5), (2, vI z14)] [] 49) (fun z14 M15 => tj_none) (fun rec hrec z14 M15 => ?_) n
  unfold fx_X5_makeUnit_L49
  refine tj_iload_n (pc := 49) G 2 dX5_makeUnit_49 rfl rfl ?_
  refine tj_bipush (pc := 50) G dX5_makeUnit_50 rfl ?_
  refine tj_icmp_ge (pc := 52) G (tgt := 76) (a2 := w32 z14) (b2 := 8) dX5_makeUnit_52 (by decide) rfl rfl ?_ ?_
  · exact tj_sub [0, 1] rfl (hK76  M15)
  refine tj_aload_n (pc := 55) G 0 dX5_makeUnit_55 rfl rfl ?_
  refine tj_getR (pc := 56) G (k := 36) (j := 0) (j2 := 0) tk_X5 (by decide) lc_36 rfl (by decide) rfl fl_X5_9 dX5_makeUnit_56 ?_
  refine tj_iload_n (pc := 59) G 2 dX5_makeUnit_59 rfl rfl ?_
  refine tj_dup2 (pc := 60) G dX5_makeUnit_60 rfl rfl ?_
  refine tj_iald (pc := 61) G (k := 37) (i2 := w32 z14) (n2 := 8) (by decide) lc_37 rfl rfl dX5_makeUnit_61 ?_
  refine tj_aload_n (pc := 62) G 0 dX5_makeUnit_62 rfl rfl ?_
  refine tj_getR (pc := 63) G (k := 36) (j := 2) (j2 := 2) tk_X5 (by decide) lc_36 rfl (by decide) rfl fl_X5_18 dX5_makeUnit_63 ?_
  refine tj_iload_n (pc := 66) G 2 dX5_makeUnit_66 rfl rfl ?_
  refine tj_iald (pc := 67) G (k := 39) (i2 := w32 z14) (n2 := 8) (by decide) lc_39 rfl rfl dX5_makeUnit_67 ?_
  refine tj_isub (pc := 68) G dX5_makeUnit_68 ?_
  refine tj_iast (pc := 69) G (k := 37) (i2 := w32 z14) (n2 := 8) (by decide) lc_37 rfl rfl dX5_makeUnit_69 (fun M16 => ?_)
  refine tj_iinc (pc := 70) G 2 (fun x17 => [(2, vI x17), (0, vR X 36), (1, vR X 5)]) dX5_makeUnit_70 rfl (by decide) (fun _ => rfl) (fun x17 => ?_)
  refine tj_goto (pc := 73) G (tgt := 49) dX5_makeUnit_73 (by decide) ?_
  exact tj_sub [1, 2, 0] rfl (hrec x17 M16)
set_option maxRecDepth 100000 in
set_option maxHeartbeats 4000000 in
theorem fx_X5_makeUnit_L91_ok {X : tp_X} {Y : tp_Y} (G : tp_Ok X Y 64 cX5_makeUnit 4 RX5 (some .int))      (n : Nat) : ∀ (z23 z24 : Int) (M25 : tp_M), tp_J X Y LC 64 4 5 1 (tp_lp2 (fx_X5_makeUnit_L91   ) n z23 z24 M25) M25 [(0, vR X 36), (2, vI z23), (3, vI z24)] [] 91 := by
  refine tp_lp2_ok (P := fun o z23 z24 M25 => tp_J X Y LC 64 4 5 1 (o) M25 [(0, vR X 36), (2, vI z23), (3, vI z24)] [] 91) (fun z23 z24 M25 => tj_none) (fun rec hrec z23 z24 M25 => ?_) n
  unfold fx_X5_makeUnit_L91
  refine tj_iload_n (pc := 91) G 2 dX5_makeUnit_91 rfl rfl ?_
  refine tj_bipush (pc := 92) G dX5_makeUnit_92 rfl ?_
  refine tj_icmp_ge (pc := 94) G (tgt := 124) (a2 := w32 z24) (b2 := 8) dX5_makeUnit_94 (by decide) rfl rfl ?_ ?_
  · refine tj_iload_n (pc := 124) G 1 dX5_makeUnit_124 rfl rfl ?_
    exact tj_iret (pc := 125) G dX5_makeUnit_125
  refine tj_aload_n (pc := 97) G 0 dX5_makeUnit_97 rfl rfl ?_
  refine tj_getR (pc := 98) G (k := 36) (j := 2) (j2 := 2) tk_X5 (by decide) lc_36 rfl (by decide) rfl fl_X5_18 dX5_makeUnit_98 ?_
  refine tj_iload_n (pc := 101) G 2 dX5_makeUnit_101 rfl rfl ?_
  refine tj_aload_n (pc := 102) G 0 dX5_makeUnit_102 rfl rfl ?_
  refine tj_getR (pc := 103) G (k := 36) (j := 0) (j2 := 0) tk_X5 (by decide) lc_36 rfl (by decide) rfl fl_X5_9 dX5_makeUnit_103 ?_
  refine tj_iload_n (pc := 106) G 2 dX5_makeUnit_106 rfl rfl ?_
  refine tj_iald (pc := 107) G (k := 37) (i2 := w32 z24) (n2 := 8) (by decide) lc_37 rfl rfl dX5_makeUnit_107 ?_
  refine tj_iast (pc := 108) G (k := 39) (i2 := w32 z24) (n2 := 8) (by decide) lc_39 rfl rfl dX5_makeUnit_108 (fun M26 => ?_)
  refine tj_iload_n (pc := 109) G 1 dX5_makeUnit_109 rfl rfl ?_
  refine tj_aload_n (pc := 110) G 0 dX5_makeUnit_110 rfl rfl ?_
  refine tj_getR (pc := 111) G (k := 36) (j := 2) (j2 := 2) tk_X5 (by decide) lc_36 rfl (by decide) rfl fl_X5_18 dX5_makeUnit_111 ?_
  refine tj_iload_n (pc := 114) G 2 dX5_makeUnit_114 rfl rfl ?_
  refine tj_iald (pc := 115) G (k := 39) (i2 := w32 z24) (n2 := 8) (by decide) lc_39 rfl rfl dX5_makeUnit_115 ?_
  refine tj_iadd (pc := 116) G dX5_makeUnit_116 ?_
  refine tj_istore_n (pc := 117) G (fun x27 => [(2, vI x27), (0, vR X 36), (3, vI z24)]) dX5_makeUnit_117 rfl (by decide) (fun _ => rfl) (fun x27 => ?_)
  refine tj_iinc (pc := 118) G 2 (fun x28 => [(3, vI x28), (2, vI x27), (0, vR X 36)]) dX5_makeUnit_118 rfl (by decide) (fun _ => rfl) (fun x28 => ?_)
  refine tj_goto (pc := 121) G (tgt := 91) dX5_makeUnit_121 (by decide) ?_
  exact tj_sub [2, 1, 0] rfl (hrec x27 x28 M26)
set_option maxRecDepth 100000 in
set_option maxHeartbeats 4000000 in
theorem ok_X5_makeUnit (X : tp_X)    {M : tp_M} {res : Int × tp_M} (h : fx_X5_makeUnit   M = some res) : tp_Ret X LC 64 1 yX5_makeUnit (Cond.code yX5_makeUnit cX5_makeUnit 4 (some .int)) 5 [vR X 36, vR X 5] M res := by
  refine tp_ofW (by decide +kernel) rfl rfl (by show _ ≤ 4; exact Nat.le_of_ble_eq_true rfl) h (fun Y G => ?_)
  show tp_J X Y LC 64 4 5 1 (fx_X5_makeUnit   M) M [(0, vR X 36), (1, vR X 5)] [] 0
  unfold fx_X5_makeUnit
  refine tj_aload_n (pc := 0) G 0 dX5_makeUnit_0 rfl rfl ?_
  refine tj_aload_n (pc := 1) G 1 dX5_makeUnit_1 rfl rfl ?_
  refine tj_callVv (pc := 2) G [vR X 5] mf_X5_fillTwice (k := 36) (by decide) lc_36 rfl rfl ml_X5_43 (by decide) rfl rfl (Nat.le_of_ble_eq_true rfl) (fun _ h9 => ok_X5_fillTwice X  h9) dX5_makeUnit_2 (fun r1 M2 => ?_)
  refine tj_aload_n (pc := 5) G 0 dX5_makeUnit_5 rfl rfl ?_
  refine tj_aload_n (pc := 6) G 1 dX5_makeUnit_6 rfl rfl ?_
  refine tj_callVi (pc := 7) G [vR X 5] mf_X5_calm (k := 36) (by decide) lc_36 rfl rfl ml_X5_47 (by decide) rfl rfl (Nat.le_of_ble_eq_true rfl) (fun _ h9 => ok_X5_calm X  h9) dX5_makeUnit_7 (fun r3 M4 => ?_)
  refine tj_if_ge (pc := 10) G (tgt := 16) (a2 := w32 r3) dX5_makeUnit_10 (by decide) rfl ?_ ?_
  · refine tj_iconst (pc := 16) G dX5_makeUnit_16 ?_
    refine tj_istore_n (pc := 17) G (fun x5 => [(2, vI x5), (0, vR X 36), (1, vR X 5)]) dX5_makeUnit_17 rfl (by decide) (fun _ => rfl) (fun x5 => ?_)
    refine tj_sub [1, 2, 0] rfl (fx_X5_makeUnit_L18_ok G    (fun M10 => ?_) tp_F x5 M4)
    refine tj_aload_n (pc := 42) G 0 dX5_makeUnit_42 rfl rfl ?_
    refine tj_aload_n (pc := 43) G 1 dX5_makeUnit_43 rfl rfl ?_
    refine tj_callVv (pc := 44) G [vR X 5] mf_X5_fillTwice (k := 36) (by decide) lc_36 rfl rfl ml_X5_43 (by decide) rfl rfl (Nat.le_of_ble_eq_true rfl) (fun _ h9 => ok_X5_fillTwice X  h9) dX5_makeUnit_44 (fun r11 M12 => ?_)
    refine tj_iconst (pc := 47) G dX5_makeUnit_47 ?_
    refine tj_istore_n (pc := 48) G (fun x13 => [(2, vI x13), (0, vR X 36), (1, vR X 5)]) dX5_makeUnit_48 rfl (by decide) (fun _ => rfl) (fun x13 => ?_)
    refine tj_sub [1, 2, 0] rfl (fx_X5_makeUnit_L49_ok G    (fun M18 => ?_) tp_F x13 M12)
    refine tj_aload_n (pc := 76) G 0 dX5_makeUnit_76 rfl rfl ?_
    refine tj_aload_n (pc := 77) G 1 dX5_makeUnit_77 rfl rfl ?_
    refine tj_callVi (pc := 78) G [vR X 5] mf_X5_calm (k := 36) (by decide) lc_36 rfl rfl ml_X5_47 (by decide) rfl rfl (Nat.le_of_ble_eq_true rfl) (fun _ h9 => ok_X5_calm X  h9) dX5_makeUnit_78 (fun r19 M20 => ?_)
    refine tj_if_ge (pc := 81) G (tgt := 87) (a2 := w32 r19) dX5_makeUnit_81 (by decide) rfl ?_ ?_
    · refine tj_iconst (pc := 87) G dX5_makeUnit_87 ?_
      refine tj_istore_n (pc := 88) G (fun x21 => [(2, vI x21), (0, vR X 36), (1, vR X 5)]) dX5_makeUnit_88 rfl (by decide) (fun _ => rfl) (fun x21 => ?_)
      refine tj_iconst (pc := 89) G dX5_makeUnit_89 ?_
      refine tj_istore_n (pc := 90) G (fun x22 => [(3, vI x22), (2, vI x21), (0, vR X 36), (1, vR X 5)]) dX5_makeUnit_90 rfl (by decide) (fun _ => rfl) (fun x22 => ?_)
      refine tj_sub [2, 1, 0] rfl (fx_X5_makeUnit_L91_ok G     tp_F x21 x22 M20)
    refine tj_bipush (pc := 84) G dX5_makeUnit_84 rfl ?_
    exact tj_iret (pc := 86) G dX5_makeUnit_86
  refine tj_bipush (pc := 13) G dX5_makeUnit_13 rfl ?_
  exact tj_iret (pc := 15) G dX5_makeUnit_15

def fx_X6_size   (M : tp_M) : tp_O :=
(some (M 52 3, M))
set_option maxRecDepth 100000 in
set_option maxHeartbeats 4000000 in
theorem ok_X6_size (X : tp_X)    {M : tp_M} {res : Int × tp_M} (h : fx_X6_size   M = some res) : tp_Ret X LC 64 1 yX6_size (Cond.code yX6_size cX6_size 1 (some .int)) 1 [vR X 52] M res := by
  refine tp_ofW (by decide +kernel) rfl rfl (by show _ ≤ 1; exact Nat.le_of_ble_eq_true rfl) h (fun Y G => ?_)
  show tp_J X Y LC 64 1 1 1 (fx_X6_size   M) M [(0, vR X 52)] [] 0
  unfold fx_X6_size
  refine tj_aload_n (pc := 0) G 0 dX6_size_0 rfl rfl ?_
  refine tj_getI (pc := 1) G (k := 52) (j := 3) (j2 := 3) tk_X6 (by decide) lc_52 rfl (by decide) rfl fl_X6_19 dX6_size_1 ?_
  exact tj_iret (pc := 4) G dX6_size_4

def fx_X6_clear   (M : tp_M) : tp_O :=
(tp_lm (tp_up M 52 3 0) (fun M1 =>
(some (0, M1))))
set_option maxRecDepth 100000 in
set_option maxHeartbeats 4000000 in
theorem ok_X6_clear (X : tp_X)    {M : tp_M} {res : Int × tp_M} (h : fx_X6_clear   M = some res) : tp_Ret X LC 64 0 yX6_clear (Cond.code yX6_clear cX6_clear 1 none) 1 [vR X 52] M res := by
  refine tp_ofW (by decide +kernel) rfl rfl (by show _ ≤ 1; exact Nat.le_of_ble_eq_true rfl) h (fun Y G => ?_)
  show tp_J X Y LC 64 1 1 0 (fx_X6_clear   M) M [(0, vR X 52)] [] 0
  unfold fx_X6_clear
  refine tj_aload_n (pc := 0) G 0 dX6_clear_0 rfl rfl ?_
  refine tj_iconst (pc := 1) G dX6_clear_1 ?_
  refine tj_putI (pc := 2) G (k := 52) (j := 3) (j2 := 3) tk_X6 (by decide) lc_52 rfl (by decide) rfl fl_X6_19 rfl rfl dX6_clear_2 (fun M1 => ?_)
  exact tj_vret (pc := 5) G dX6_clear_5

def fx_X6_add  (a1 : Int) (a2 : Int) (a3 : Int) (M : tp_M) : tp_O :=
(if w32 (M 52 3) < 10 then
(tp_ck (w32 (M 52 3)) 10 (tp_lm (tp_up M 53 (w32 (M 52 3)) a1) (fun M1 =>
(tp_ck (w32 (M1 52 3)) 10 (tp_lm (tp_up M1 54 (w32 (M1 52 3)) a2) (fun M2 =>
(tp_ck (w32 (M2 52 3)) 10 (tp_lm (tp_up M2 55 (w32 (M2 52 3)) a3) (fun M3 =>
(tp_lm (tp_up M3 52 3 ((M3 52 3) + 1)) (fun M4 =>
(some (1, M4)))))))))))))
else
(some (0, M)))
set_option maxRecDepth 100000 in
set_option maxHeartbeats 4000000 in
theorem ok_X6_add (X : tp_X)  {a1 : Int} {a2 : Int} {a3 : Int}  {M : tp_M} {res : Int × tp_M} (h : fx_X6_add  a1 a2 a3 M = some res) : tp_Ret X LC 64 1 yX6_add (Cond.code yX6_add cX6_add 4 (some .boolean)) 1 [vR X 52, vI a1, vI a2, vI a3] M res := by
  refine tp_ofW (by decide +kernel) rfl rfl (by show _ ≤ 4; exact Nat.le_of_ble_eq_true rfl) h (fun Y G => ?_)
  show tp_J X Y LC 64 4 1 1 (fx_X6_add  a1 a2 a3 M) M [(0, vR X 52), (1, vI a1), (2, vI a2), (3, vI a3)] [] 0
  unfold fx_X6_add
  refine tj_aload_n (pc := 0) G 0 dX6_add_0 rfl rfl ?_
  refine tj_getI (pc := 1) G (k := 52) (j := 3) (j2 := 3) tk_X6 (by decide) lc_52 rfl (by decide) rfl fl_X6_19 dX6_add_1 ?_
  refine tj_bipush (pc := 4) G dX6_add_4 rfl ?_
  refine tj_icmp_lt (pc := 6) G (tgt := 11) (a2 := w32 (M 52 3)) (b2 := 10) dX6_add_6 (by decide) rfl rfl ?_ ?_
  · refine tj_aload_n (pc := 11) G 0 dX6_add_11 rfl rfl ?_
    refine tj_getR (pc := 12) G (k := 52) (j := 0) (j2 := 0) tk_X6 (by decide) lc_52 rfl (by decide) rfl fl_X6_9 dX6_add_12 ?_
    refine tj_aload_n (pc := 15) G 0 dX6_add_15 rfl rfl ?_
    refine tj_getI (pc := 16) G (k := 52) (j := 3) (j2 := 3) tk_X6 (by decide) lc_52 rfl (by decide) rfl fl_X6_19 dX6_add_16 ?_
    refine tj_iload_n (pc := 19) G 1 dX6_add_19 rfl rfl ?_
    refine tj_iast (pc := 20) G (k := 53) (i2 := w32 (M 52 3)) (n2 := 10) (by decide) lc_53 rfl rfl dX6_add_20 (fun M1 => ?_)
    refine tj_aload_n (pc := 21) G 0 dX6_add_21 rfl rfl ?_
    refine tj_getR (pc := 22) G (k := 52) (j := 1) (j2 := 1) tk_X6 (by decide) lc_52 rfl (by decide) rfl fl_X6_13 dX6_add_22 ?_
    refine tj_aload_n (pc := 25) G 0 dX6_add_25 rfl rfl ?_
    refine tj_getI (pc := 26) G (k := 52) (j := 3) (j2 := 3) tk_X6 (by decide) lc_52 rfl (by decide) rfl fl_X6_19 dX6_add_26 ?_
    refine tj_iload_n (pc := 29) G 2 dX6_add_29 rfl rfl ?_
    refine tj_iast (pc := 30) G (k := 54) (i2 := w32 (M1 52 3)) (n2 := 10) (by decide) lc_54 rfl rfl dX6_add_30 (fun M2 => ?_)
    refine tj_aload_n (pc := 31) G 0 dX6_add_31 rfl rfl ?_
    refine tj_getR (pc := 32) G (k := 52) (j := 2) (j2 := 2) tk_X6 (by decide) lc_52 rfl (by decide) rfl fl_X6_16 dX6_add_32 ?_
    refine tj_aload_n (pc := 35) G 0 dX6_add_35 rfl rfl ?_
    refine tj_getI (pc := 36) G (k := 52) (j := 3) (j2 := 3) tk_X6 (by decide) lc_52 rfl (by decide) rfl fl_X6_19 dX6_add_36 ?_
    refine tj_iload_n (pc := 39) G 3 dX6_add_39 rfl rfl ?_
    refine tj_iast (pc := 40) G (k := 55) (i2 := w32 (M2 52 3)) (n2 := 10) (by decide) lc_55 rfl rfl dX6_add_40 (fun M3 => ?_)
    refine tj_aload_n (pc := 41) G 0 dX6_add_41 rfl rfl ?_
    refine tj_dup (pc := 42) G dX6_add_42 rfl ?_
    refine tj_getI (pc := 43) G (k := 52) (j := 3) (j2 := 3) tk_X6 (by decide) lc_52 rfl (by decide) rfl fl_X6_19 dX6_add_43 ?_
    refine tj_iconst (pc := 46) G dX6_add_46 ?_
    refine tj_iadd (pc := 47) G dX6_add_47 ?_
    refine tj_putI (pc := 48) G (k := 52) (j := 3) (j2 := 3) tk_X6 (by decide) lc_52 rfl (by decide) rfl fl_X6_19 rfl rfl dX6_add_48 (fun M4 => ?_)
    refine tj_iconst (pc := 51) G dX6_add_51 ?_
    exact tj_zret (pc := 52) G (by decide) dX6_add_52
  refine tj_iconst (pc := 9) G dX6_add_9 ?_
  exact tj_zret (pc := 10) G (by decide) dX6_add_10

def fx_X6_start  (a1 : Int) (M : tp_M) : tp_O :=
(if w32 a1 < 0 then
(some (0, M))
else
(if w32 a1 < w32 (M 52 3) then
(tp_ck (w32 a1) 10 (some (M 53 (w32 a1), M)))
else
(some (0, M))))
set_option maxRecDepth 100000 in
set_option maxHeartbeats 4000000 in
theorem ok_X6_start (X : tp_X)  {a1 : Int}  {M : tp_M} {res : Int × tp_M} (h : fx_X6_start  a1 M = some res) : tp_Ret X LC 64 1 yX6_start (Cond.code yX6_start cX6_start 2 (some .int)) 1 [vR X 52, vI a1] M res := by
  refine tp_ofW (by decide +kernel) rfl rfl (by show _ ≤ 2; exact Nat.le_of_ble_eq_true rfl) h (fun Y G => ?_)
  show tp_J X Y LC 64 2 1 1 (fx_X6_start  a1 M) M [(0, vR X 52), (1, vI a1)] [] 0
  unfold fx_X6_start
  refine tj_iload_n (pc := 0) G 1 dX6_start_0 rfl rfl ?_
  refine tj_if_lt (pc := 1) G (tgt := 21) (a2 := w32 a1) dX6_start_1 (by decide) rfl ?_ ?_
  · refine tj_iconst (pc := 21) G dX6_start_21 ?_
    exact tj_iret (pc := 22) G dX6_start_22
  refine tj_iload_n (pc := 4) G 1 dX6_start_4 rfl rfl ?_
  refine tj_aload_n (pc := 5) G 0 dX6_start_5 rfl rfl ?_
  refine tj_getI (pc := 6) G (k := 52) (j := 3) (j2 := 3) tk_X6 (by decide) lc_52 rfl (by decide) rfl fl_X6_19 dX6_start_6 ?_
  refine tj_icmp_ge (pc := 9) G (tgt := 21) (a2 := w32 a1) (b2 := w32 (M 52 3)) dX6_start_9 (by decide) rfl rfl ?_ ?_
  · refine tj_iconst (pc := 21) G dX6_start_21 ?_
    exact tj_iret (pc := 22) G dX6_start_22
  refine tj_aload_n (pc := 12) G 0 dX6_start_12 rfl rfl ?_
  refine tj_getR (pc := 13) G (k := 52) (j := 0) (j2 := 0) tk_X6 (by decide) lc_52 rfl (by decide) rfl fl_X6_9 dX6_start_13 ?_
  refine tj_iload_n (pc := 16) G 1 dX6_start_16 rfl rfl ?_
  refine tj_iald (pc := 17) G (k := 53) (i2 := w32 a1) (n2 := 10) (by decide) lc_53 rfl rfl dX6_start_17 ?_
  refine tj_goto (pc := 18) G (tgt := 22) dX6_start_18 (by decide) ?_
  exact tj_iret (pc := 22) G dX6_start_22

def fx_X6_steps  (a1 : Int) (M : tp_M) : tp_O :=
(if w32 a1 < 0 then
(some (0, M))
else
(if w32 a1 < w32 (M 52 3) then
(tp_ck (w32 a1) 10 (some (M 54 (w32 a1), M)))
else
(some (0, M))))
set_option maxRecDepth 100000 in
set_option maxHeartbeats 4000000 in
theorem ok_X6_steps (X : tp_X)  {a1 : Int}  {M : tp_M} {res : Int × tp_M} (h : fx_X6_steps  a1 M = some res) : tp_Ret X LC 64 1 yX6_steps (Cond.code yX6_steps cX6_steps 2 (some .int)) 1 [vR X 52, vI a1] M res := by
  refine tp_ofW (by decide +kernel) rfl rfl (by show _ ≤ 2; exact Nat.le_of_ble_eq_true rfl) h (fun Y G => ?_)
  show tp_J X Y LC 64 2 1 1 (fx_X6_steps  a1 M) M [(0, vR X 52), (1, vI a1)] [] 0
  unfold fx_X6_steps
  refine tj_iload_n (pc := 0) G 1 dX6_steps_0 rfl rfl ?_
  refine tj_if_lt (pc := 1) G (tgt := 21) (a2 := w32 a1) dX6_steps_1 (by decide) rfl ?_ ?_
  · refine tj_iconst (pc := 21) G dX6_steps_21 ?_
    exact tj_iret (pc := 22) G dX6_steps_22
  refine tj_iload_n (pc := 4) G 1 dX6_steps_4 rfl rfl ?_
  refine tj_aload_n (pc := 5) G 0 dX6_steps_5 rfl rfl ?_
  refine tj_getI (pc := 6) G (k := 52) (j := 3) (j2 := 3) tk_X6 (by decide) lc_52 rfl (by decide) rfl fl_X6_19 dX6_steps_6 ?_
  refine tj_icmp_ge (pc := 9) G (tgt := 21) (a2 := w32 a1) (b2 := w32 (M 52 3)) dX6_steps_9 (by decide) rfl rfl ?_ ?_
  · refine tj_iconst (pc := 21) G dX6_steps_21 ?_
    exact tj_iret (pc := 22) G dX6_steps_22
  refine tj_aload_n (pc := 12) G 0 dX6_steps_12 rfl rfl ?_
  refine tj_getR (pc := 13) G (k := 52) (j := 1) (j2 := 1) tk_X6 (by decide) lc_52 rfl (by decide) rfl fl_X6_13 dX6_steps_13 ?_
  refine tj_iload_n (pc := 16) G 1 dX6_steps_16 rfl rfl ?_
  refine tj_iald (pc := 17) G (k := 54) (i2 := w32 a1) (n2 := 10) (by decide) lc_54 rfl rfl dX6_steps_17 ?_
  refine tj_goto (pc := 18) G (tgt := 22) dX6_steps_18 (by decide) ?_
  exact tj_iret (pc := 22) G dX6_steps_22

def fx_X6_place  (a1 : Int) (M : tp_M) : tp_O :=
(if w32 a1 < 0 then
(some (0, M))
else
(if w32 a1 < w32 (M 52 3) then
(tp_ck (w32 a1) 10 (some (M 55 (w32 a1), M)))
else
(some (0, M))))
set_option maxRecDepth 100000 in
set_option maxHeartbeats 4000000 in
theorem ok_X6_place (X : tp_X)  {a1 : Int}  {M : tp_M} {res : Int × tp_M} (h : fx_X6_place  a1 M = some res) : tp_Ret X LC 64 1 yX6_place (Cond.code yX6_place cX6_place 2 (some .int)) 1 [vR X 52, vI a1] M res := by
  refine tp_ofW (by decide +kernel) rfl rfl (by show _ ≤ 2; exact Nat.le_of_ble_eq_true rfl) h (fun Y G => ?_)
  show tp_J X Y LC 64 2 1 1 (fx_X6_place  a1 M) M [(0, vR X 52), (1, vI a1)] [] 0
  unfold fx_X6_place
  refine tj_iload_n (pc := 0) G 1 dX6_place_0 rfl rfl ?_
  refine tj_if_lt (pc := 1) G (tgt := 21) (a2 := w32 a1) dX6_place_1 (by decide) rfl ?_ ?_
  · refine tj_iconst (pc := 21) G dX6_place_21 ?_
    exact tj_iret (pc := 22) G dX6_place_22
  refine tj_iload_n (pc := 4) G 1 dX6_place_4 rfl rfl ?_
  refine tj_aload_n (pc := 5) G 0 dX6_place_5 rfl rfl ?_
  refine tj_getI (pc := 6) G (k := 52) (j := 3) (j2 := 3) tk_X6 (by decide) lc_52 rfl (by decide) rfl fl_X6_19 dX6_place_6 ?_
  refine tj_icmp_ge (pc := 9) G (tgt := 21) (a2 := w32 a1) (b2 := w32 (M 52 3)) dX6_place_9 (by decide) rfl rfl ?_ ?_
  · refine tj_iconst (pc := 21) G dX6_place_21 ?_
    exact tj_iret (pc := 22) G dX6_place_22
  refine tj_aload_n (pc := 12) G 0 dX6_place_12 rfl rfl ?_
  refine tj_getR (pc := 13) G (k := 52) (j := 2) (j2 := 2) tk_X6 (by decide) lc_52 rfl (by decide) rfl fl_X6_16 dX6_place_13 ?_
  refine tj_iload_n (pc := 16) G 1 dX6_place_16 rfl rfl ?_
  refine tj_iald (pc := 17) G (k := 55) (i2 := w32 a1) (n2 := 10) (by decide) lc_55 rfl rfl dX6_place_17 ?_
  refine tj_goto (pc := 18) G (tgt := 22) dX6_place_18 (by decide) ?_
  exact tj_iret (pc := 22) G dX6_place_22

def fx_X7_add  (a1 : Int) (M : tp_M) : tp_O :=
(if w32 (M 1 1) < 80 then
(tp_ck (w32 (M 1 1)) 80 (tp_lm (tp_up M 2 (w32 (M 1 1)) a1) (fun M1 =>
(tp_lm (tp_up M1 1 1 ((M1 1 1) + 1)) (fun M2 =>
(some (0, M2)))))))
else
(some (0, M)))
set_option maxRecDepth 100000 in
set_option maxHeartbeats 4000000 in
theorem ok_X7_add (X : tp_X)  {a1 : Int}  {M : tp_M} {res : Int × tp_M} (h : fx_X7_add  a1 M = some res) : tp_Ret X LC 64 0 yX7_add (Cond.code yX7_add cX7_add 2 none) 1 [vR X 1, vI a1] M res := by
  refine tp_ofW (by decide +kernel) rfl rfl (by show _ ≤ 2; exact Nat.le_of_ble_eq_true rfl) h (fun Y G => ?_)
  show tp_J X Y LC 64 2 1 0 (fx_X7_add  a1 M) M [(0, vR X 1), (1, vI a1)] [] 0
  unfold fx_X7_add
  refine tj_aload_n (pc := 0) G 0 dX7_add_0 rfl rfl ?_
  refine tj_getI (pc := 1) G (k := 1) (j := 1) (j2 := 1) tk_X7 (by decide) lc_1 rfl (by decide) rfl fl_X7_15 dX7_add_1 ?_
  refine tj_aload_n (pc := 4) G 0 dX7_add_4 rfl rfl ?_
  refine tj_getR (pc := 5) G (k := 1) (j := 0) (j2 := 0) tk_X7 (by decide) lc_1 rfl (by decide) rfl fl_X7_9 dX7_add_5 ?_
  refine tj_alen (pc := 8) G (k := 2) (n2 := 80) (by decide) lc_2 rfl (by decide) dX7_add_8 ?_
  refine tj_icmp_ge (pc := 9) G (tgt := 32) (a2 := w32 (M 1 1)) (b2 := 80) dX7_add_9 (by decide) rfl rfl ?_ ?_
  · exact tj_vret (pc := 32) G dX7_add_32
  refine tj_aload_n (pc := 12) G 0 dX7_add_12 rfl rfl ?_
  refine tj_getR (pc := 13) G (k := 1) (j := 0) (j2 := 0) tk_X7 (by decide) lc_1 rfl (by decide) rfl fl_X7_9 dX7_add_13 ?_
  refine tj_aload_n (pc := 16) G 0 dX7_add_16 rfl rfl ?_
  refine tj_getI (pc := 17) G (k := 1) (j := 1) (j2 := 1) tk_X7 (by decide) lc_1 rfl (by decide) rfl fl_X7_15 dX7_add_17 ?_
  refine tj_iload_n (pc := 20) G 1 dX7_add_20 rfl rfl ?_
  refine tj_iast (pc := 21) G (k := 2) (i2 := w32 (M 1 1)) (n2 := 80) (by decide) lc_2 rfl rfl dX7_add_21 (fun M1 => ?_)
  refine tj_aload_n (pc := 22) G 0 dX7_add_22 rfl rfl ?_
  refine tj_dup (pc := 23) G dX7_add_23 rfl ?_
  refine tj_getI (pc := 24) G (k := 1) (j := 1) (j2 := 1) tk_X7 (by decide) lc_1 rfl (by decide) rfl fl_X7_15 dX7_add_24 ?_
  refine tj_iconst (pc := 27) G dX7_add_27 ?_
  refine tj_iadd (pc := 28) G dX7_add_28 ?_
  refine tj_putI (pc := 29) G (k := 1) (j := 1) (j2 := 1) tk_X7 (by decide) lc_1 rfl (by decide) rfl fl_X7_15 rfl rfl dX7_add_29 (fun M2 => ?_)
  exact tj_vret (pc := 32) G dX7_add_32

def fx_X7_cut  (a1 : Int) (M : tp_M) : tp_O :=
(if w32 a1 < 0 then
(some (0, M))
else
(if w32 a1 < w32 (M 1 1) then
(tp_lm (tp_up M 1 1 a1) (fun M1 =>
(some (0, M1))))
else
(some (0, M))))
set_option maxRecDepth 100000 in
set_option maxHeartbeats 4000000 in
theorem ok_X7_cut (X : tp_X)  {a1 : Int}  {M : tp_M} {res : Int × tp_M} (h : fx_X7_cut  a1 M = some res) : tp_Ret X LC 64 0 yX7_cut (Cond.code yX7_cut cX7_cut 2 none) 1 [vR X 1, vI a1] M res := by
  refine tp_ofW (by decide +kernel) rfl rfl (by show _ ≤ 2; exact Nat.le_of_ble_eq_true rfl) h (fun Y G => ?_)
  show tp_J X Y LC 64 2 1 0 (fx_X7_cut  a1 M) M [(0, vR X 1), (1, vI a1)] [] 0
  unfold fx_X7_cut
  refine tj_iload_n (pc := 0) G 1 dX7_cut_0 rfl rfl ?_
  refine tj_if_lt (pc := 1) G (tgt := 17) (a2 := w32 a1) dX7_cut_1 (by decide) rfl ?_ ?_
  · exact tj_vret (pc := 17) G dX7_cut_17
  refine tj_iload_n (pc := 4) G 1 dX7_cut_4 rfl rfl ?_
  refine tj_aload_n (pc := 5) G 0 dX7_cut_5 rfl rfl ?_
  refine tj_getI (pc := 6) G (k := 1) (j := 1) (j2 := 1) tk_X7 (by decide) lc_1 rfl (by decide) rfl fl_X7_15 dX7_cut_6 ?_
  refine tj_icmp_ge (pc := 9) G (tgt := 17) (a2 := w32 a1) (b2 := w32 (M 1 1)) dX7_cut_9 (by decide) rfl rfl ?_ ?_
  · exact tj_vret (pc := 17) G dX7_cut_17
  refine tj_aload_n (pc := 12) G 0 dX7_cut_12 rfl rfl ?_
  refine tj_iload_n (pc := 13) G 1 dX7_cut_13 rfl rfl ?_
  refine tj_putI (pc := 14) G (k := 1) (j := 1) (j2 := 1) tk_X7 (by decide) lc_1 rfl (by decide) rfl fl_X7_15 rfl rfl dX7_cut_14 (fun M1 => ?_)
  exact tj_vret (pc := 17) G dX7_cut_17

def fx_X8_size   (M : tp_M) : tp_O :=
(some (M 3 1, M))
set_option maxRecDepth 100000 in
set_option maxHeartbeats 4000000 in
theorem ok_X8_size (X : tp_X)    {M : tp_M} {res : Int × tp_M} (h : fx_X8_size   M = some res) : tp_Ret X LC 64 1 yX8_size (Cond.code yX8_size cX8_size 1 (some .int)) 1 [vR X 3] M res := by
  refine tp_ofW (by decide +kernel) rfl rfl (by show _ ≤ 1; exact Nat.le_of_ble_eq_true rfl) h (fun Y G => ?_)
  show tp_J X Y LC 64 1 1 1 (fx_X8_size   M) M [(0, vR X 3)] [] 0
  unfold fx_X8_size
  refine tj_aload_n (pc := 0) G 0 dX8_size_0 rfl rfl ?_
  refine tj_getI (pc := 1) G (k := 3) (j := 1) (j2 := 1) tk_X8 (by decide) lc_3 rfl (by decide) rfl fl_X8_15 dX8_size_1 ?_
  exact tj_iret (pc := 4) G dX8_size_4

def fx_X8_at  (a1 : Int) (M : tp_M) : tp_O :=
(if w32 a1 < 0 then
(some (0, M))
else
(if w32 a1 < w32 (M 3 1) then
(tp_ck (w32 a1) 8 (some (M 4 (w32 a1), M)))
else
(some (0, M))))
set_option maxRecDepth 100000 in
set_option maxHeartbeats 4000000 in
theorem ok_X8_at (X : tp_X)  {a1 : Int}  {M : tp_M} {res : Int × tp_M} (h : fx_X8_at  a1 M = some res) : tp_Ret X LC 64 2 yX8_at (Cond.code yX8_at cX8_at 2 (some .long)) 1 [vR X 3, vI a1] M res := by
  refine tp_ofW (by decide +kernel) rfl rfl (by show _ ≤ 2; exact Nat.le_of_ble_eq_true rfl) h (fun Y G => ?_)
  show tp_J X Y LC 64 2 1 2 (fx_X8_at  a1 M) M [(0, vR X 3), (1, vI a1)] [] 0
  unfold fx_X8_at
  refine tj_iload_n (pc := 0) G 1 dX8_at_0 rfl rfl ?_
  refine tj_if_lt (pc := 1) G (tgt := 21) (a2 := w32 a1) dX8_at_1 (by decide) rfl ?_ ?_
  · refine tj_lconst (pc := 21) G (v := 0) dX8_at_21 rfl ?_
    exact tj_lret (pc := 22) G dX8_at_22
  refine tj_iload_n (pc := 4) G 1 dX8_at_4 rfl rfl ?_
  refine tj_aload_n (pc := 5) G 0 dX8_at_5 rfl rfl ?_
  refine tj_getI (pc := 6) G (k := 3) (j := 1) (j2 := 1) tk_X8 (by decide) lc_3 rfl (by decide) rfl fl_X8_15 dX8_at_6 ?_
  refine tj_icmp_ge (pc := 9) G (tgt := 21) (a2 := w32 a1) (b2 := w32 (M 3 1)) dX8_at_9 (by decide) rfl rfl ?_ ?_
  · refine tj_lconst (pc := 21) G (v := 0) dX8_at_21 rfl ?_
    exact tj_lret (pc := 22) G dX8_at_22
  refine tj_aload_n (pc := 12) G 0 dX8_at_12 rfl rfl ?_
  refine tj_getR (pc := 13) G (k := 3) (j := 0) (j2 := 0) tk_X8 (by decide) lc_3 rfl (by decide) rfl fl_X8_9 dX8_at_13 ?_
  refine tj_iload_n (pc := 16) G 1 dX8_at_16 rfl rfl ?_
  refine tj_lald (pc := 17) G (k := 4) (i2 := w32 a1) (n2 := 8) (by decide) lc_4 rfl rfl dX8_at_17 ?_
  refine tj_goto (pc := 18) G (tgt := 22) dX8_at_18 (by decide) ?_
  exact tj_lret (pc := 22) G dX8_at_22

def fx_X8_add  (a1 : Int) (M : tp_M) : tp_O :=
(if w32 (M 3 1) < 8 then
(tp_ck (w32 (M 3 1)) 8 (tp_lm (tp_up M 4 (w32 (M 3 1)) a1) (fun M1 =>
(tp_lm (tp_up M1 3 1 ((M1 3 1) + 1)) (fun M2 =>
(some (0, M2)))))))
else
(some (0, M)))
set_option maxRecDepth 100000 in
set_option maxHeartbeats 4000000 in
theorem ok_X8_add (X : tp_X)  {a1 : Int}  {M : tp_M} {res : Int × tp_M} (h : fx_X8_add  a1 M = some res) : tp_Ret X LC 64 0 yX8_add (Cond.code yX8_add cX8_add 3 none) 1 [vR X 3, vL a1] M res := by
  refine tp_ofW (by decide +kernel) rfl rfl (by show _ ≤ 3; exact Nat.le_of_ble_eq_true rfl) h (fun Y G => ?_)
  show tp_J X Y LC 64 3 1 0 (fx_X8_add  a1 M) M [(0, vR X 3), (1, vL a1)] [] 0
  unfold fx_X8_add
  refine tj_aload_n (pc := 0) G 0 dX8_add_0 rfl rfl ?_
  refine tj_getI (pc := 1) G (k := 3) (j := 1) (j2 := 1) tk_X8 (by decide) lc_3 rfl (by decide) rfl fl_X8_15 dX8_add_1 ?_
  refine tj_aload_n (pc := 4) G 0 dX8_add_4 rfl rfl ?_
  refine tj_getR (pc := 5) G (k := 3) (j := 0) (j2 := 0) tk_X8 (by decide) lc_3 rfl (by decide) rfl fl_X8_9 dX8_add_5 ?_
  refine tj_alen (pc := 8) G (k := 4) (n2 := 8) (by decide) lc_4 rfl (by decide) dX8_add_8 ?_
  refine tj_icmp_ge (pc := 9) G (tgt := 32) (a2 := w32 (M 3 1)) (b2 := 8) dX8_add_9 (by decide) rfl rfl ?_ ?_
  · exact tj_vret (pc := 32) G dX8_add_32
  refine tj_aload_n (pc := 12) G 0 dX8_add_12 rfl rfl ?_
  refine tj_getR (pc := 13) G (k := 3) (j := 0) (j2 := 0) tk_X8 (by decide) lc_3 rfl (by decide) rfl fl_X8_9 dX8_add_13 ?_
  refine tj_aload_n (pc := 16) G 0 dX8_add_16 rfl rfl ?_
  refine tj_getI (pc := 17) G (k := 3) (j := 1) (j2 := 1) tk_X8 (by decide) lc_3 rfl (by decide) rfl fl_X8_15 dX8_add_17 ?_
  refine tj_lload_n (pc := 20) G 1 dX8_add_20 rfl rfl ?_
  refine tj_last (pc := 21) G (k := 4) (i2 := w32 (M 3 1)) (n2 := 8) (by decide) lc_4 rfl rfl dX8_add_21 (fun M1 => ?_)
  refine tj_aload_n (pc := 22) G 0 dX8_add_22 rfl rfl ?_
  refine tj_dup (pc := 23) G dX8_add_23 rfl ?_
  refine tj_getI (pc := 24) G (k := 3) (j := 1) (j2 := 1) tk_X8 (by decide) lc_3 rfl (by decide) rfl fl_X8_15 dX8_add_24 ?_
  refine tj_iconst (pc := 27) G dX8_add_27 ?_
  refine tj_iadd (pc := 28) G dX8_add_28 ?_
  refine tj_putI (pc := 29) G (k := 3) (j := 1) (j2 := 1) tk_X8 (by decide) lc_3 rfl (by decide) rfl fl_X8_15 rfl rfl dX8_add_29 (fun M2 => ?_)
  exact tj_vret (pc := 32) G dX8_add_32

def fx_X8_tell   (M : tp_M) : tp_O :=
(tp_lm (tp_up M 3 1 0) (fun M1 =>
(some (0, M1))))
set_option maxRecDepth 100000 in
set_option maxHeartbeats 4000000 in
theorem ok_X8_tell (X : tp_X)    {M : tp_M} {res : Int × tp_M} (h : fx_X8_tell   M = some res) : tp_Ret X LC 64 0 yX8_tell (Cond.code yX8_tell cX8_tell 1 none) 1 [vR X 3] M res := by
  refine tp_ofW (by decide +kernel) rfl rfl (by show _ ≤ 1; exact Nat.le_of_ble_eq_true rfl) h (fun Y G => ?_)
  show tp_J X Y LC 64 1 1 0 (fx_X8_tell   M) M [(0, vR X 3)] [] 0
  unfold fx_X8_tell
  refine tj_aload_n (pc := 0) G 0 dX8_tell_0 rfl rfl ?_
  refine tj_iconst (pc := 1) G dX8_tell_1 ?_
  refine tj_putI (pc := 2) G (k := 3) (j := 1) (j2 := 1) tk_X8 (by decide) lc_3 rfl (by decide) rfl fl_X8_15 rfl rfl dX8_tell_2 (fun M1 => ?_)
  exact tj_vret (pc := 5) G dX8_tell_5

def fx_X8_tell_  (a1 : Int) (M : tp_M) : tp_O :=
(tp_bd (fx_X8_tell  M) (fun r1 M2 =>
(tp_bd (fx_X8_add a1 M2) (fun r3 M4 =>
(some (0, M4))))))
set_option maxRecDepth 100000 in
set_option maxHeartbeats 4000000 in
theorem ok_X8_tell_ (X : tp_X)  {a1 : Int}  {M : tp_M} {res : Int × tp_M} (h : fx_X8_tell_  a1 M = some res) : tp_Ret X LC 64 0 yX8_tell_ (Cond.code yX8_tell_ cX8_tell_ 3 none) 2 [vR X 3, vL a1] M res := by
  refine tp_ofW (by decide +kernel) rfl rfl (by show _ ≤ 3; exact Nat.le_of_ble_eq_true rfl) h (fun Y G => ?_)
  show tp_J X Y LC 64 3 2 0 (fx_X8_tell_  a1 M) M [(0, vR X 3), (1, vL a1)] [] 0
  unfold fx_X8_tell_
  refine tj_aload_n (pc := 0) G 0 dX8_tell__0 rfl rfl ?_
  refine tj_callVv (pc := 1) G [] mf_X8_tell (k := 3) (by decide) lc_3 rfl rfl ml_X8_19 (by decide) rfl rfl (Nat.le_of_ble_eq_true rfl) (fun _ h9 => ok_X8_tell X  h9) dX8_tell__1 (fun r1 M2 => ?_)
  refine tj_aload_n (pc := 4) G 0 dX8_tell__4 rfl rfl ?_
  refine tj_lload_n (pc := 5) G 1 dX8_tell__5 rfl rfl ?_
  refine tj_callVv (pc := 6) G [vL a1] mf_X8_add (k := 3) (by decide) lc_3 rfl rfl ml_X8_22 (by decide) rfl rfl (Nat.le_of_ble_eq_true rfl) (fun _ h9 => ok_X8_add X  h9) dX8_tell__6 (fun r3 M4 => ?_)
  exact tj_vret (pc := 9) G dX8_tell__9

def fx_X8_tell__  (a1 : Int) (a2 : Int) (M : tp_M) : tp_O :=
(tp_bd (fx_X8_tell_ a1 M) (fun r1 M2 =>
(tp_bd (fx_X8_add a2 M2) (fun r3 M4 =>
(some (0, M4))))))
set_option maxRecDepth 100000 in
set_option maxHeartbeats 4000000 in
theorem ok_X8_tell__ (X : tp_X)  {a1 : Int} {a2 : Int}  {M : tp_M} {res : Int × tp_M} (h : fx_X8_tell__  a1 a2 M = some res) : tp_Ret X LC 64 0 yX8_tell__ (Cond.code yX8_tell__ cX8_tell__ 5 none) 3 [vR X 3, vL a1, vL a2] M res := by
  refine tp_ofW (by decide +kernel) rfl rfl (by show _ ≤ 5; exact Nat.le_of_ble_eq_true rfl) h (fun Y G => ?_)
  show tp_J X Y LC 64 5 3 0 (fx_X8_tell__  a1 a2 M) M [(0, vR X 3), (1, vL a1), (3, vL a2)] [] 0
  unfold fx_X8_tell__
  refine tj_aload_n (pc := 0) G 0 dX8_tell___0 rfl rfl ?_
  refine tj_lload_n (pc := 1) G 1 dX8_tell___1 rfl rfl ?_
  refine tj_callVv (pc := 2) G [vL a1] mf_X8_tell_ (k := 3) (by decide) lc_3 rfl rfl ml_X8_26 (by decide) rfl rfl (Nat.le_of_ble_eq_true rfl) (fun _ h9 => ok_X8_tell_ X  h9) dX8_tell___2 (fun r1 M2 => ?_)
  refine tj_aload_n (pc := 5) G 0 dX8_tell___5 rfl rfl ?_
  refine tj_lload_n (pc := 6) G 2 dX8_tell___6 rfl rfl ?_
  refine tj_callVv (pc := 7) G [vL a2] mf_X8_add (k := 3) (by decide) lc_3 rfl rfl ml_X8_22 (by decide) rfl rfl (Nat.le_of_ble_eq_true rfl) (fun _ h9 => ok_X8_add X  h9) dX8_tell___7 (fun r3 M4 => ?_)
  exact tj_vret (pc := 10) G dX8_tell___10

def fx_X8_tellRow_L6 (k1 : Nat) (k1n : Nat) (c2 : Int) (rec : Int → tp_M → tp_O) (z4 : Int) (M5 : tp_M) : tp_O :=
(if w32 z4 < w32 c2 then
(if w32 z4 < w32 k1n then
(tp_ck (w32 z4) k1n (tp_bd (fx_X8_add (w32 (M5 k1 (w32 z4))) M5) (fun r6 M7 =>
(tp_lt (z4 + 1) (fun x8 =>
(rec x8 M7))))))
else
(some (0, M5)))
else
(some (0, M5)))
def fx_X8_tellRow  (k1 : Nat) (k1n : Nat) (a2 : Int) (M : tp_M) : tp_O :=
(tp_bd (fx_X8_tell  M) (fun r1 M2 =>
(tp_lt 1 (fun x3 =>
(tp_lp1 (fx_X8_tellRow_L6 k1 k1n a2 ) tp_F x3 M2)))))
set_option maxRecDepth 100000 in
set_option maxHeartbeats 4000000 in
theorem fx_X8_tellRow_L6_ok {X : tp_X} {Y : tp_Y} (G : tp_Ok X Y 64 cX8_tellRow 4 RX8 none)  {k1 : Nat} {k1n : Nat} {c2 : Int} (hk1 : tg_I LC 64 k1 k1n)   (n : Nat) : ∀ (z4 : Int) (M5 : tp_M), tp_J X Y LC 64 4 2 0 (tp_lp1 (fx_X8_tellRow_L6 k1 k1n c2 ) n z4 M5) M5 [(0, vR X 3), (1, vR X k1), (2, vI c2), (3, vI z4)] [] 6 := by
  refine tp_lp1_ok (P := fun o z4 M5 => tp_J X Y LC 64 4 2 0 (o) M5 [(0, vR X 3), (1, vR X k1), (2, vI c2), (3, vI z4)] [] 6) (fun z4 M5 => tj_none) (fun rec hrec z4 M5 => ?_) n
  unfold fx_X8_tellRow_L6
  refine tj_iload_n (pc := 6) G 3 dX8_tellRow_6 rfl rfl ?_
  refine tj_iload_n (pc := 7) G 2 dX8_tellRow_7 rfl rfl ?_
  refine tj_icmp_ge (pc := 8) G (tgt := 31) (a2 := w32 z4) (b2 := w32 c2) dX8_tellRow_8 (by decide) rfl rfl ?_ ?_
  · exact tj_vret (pc := 31) G dX8_tellRow_31
  refine tj_iload_n (pc := 11) G 3 dX8_tellRow_11 rfl rfl ?_
  refine tj_aload_n (pc := 12) G 1 dX8_tellRow_12 rfl rfl ?_
  refine tj_alen (pc := 13) G (k := k1) (n2 := k1n) hk1.1 hk1.2 rfl (by decide) dX8_tellRow_13 ?_
  refine tj_icmp_ge (pc := 14) G (tgt := 31) (a2 := w32 z4) (b2 := w32 k1n) dX8_tellRow_14 (by decide) rfl rfl ?_ ?_
  · exact tj_vret (pc := 31) G dX8_tellRow_31
  refine tj_aload_n (pc := 17) G 0 dX8_tellRow_17 rfl rfl ?_
  refine tj_aload_n (pc := 18) G 1 dX8_tellRow_18 rfl rfl ?_
  refine tj_iload_n (pc := 19) G 3 dX8_tellRow_19 rfl rfl ?_
  refine tj_iald (pc := 20) G (k := k1) (i2 := w32 z4) (n2 := k1n) hk1.1 hk1.2 rfl rfl dX8_tellRow_20 ?_
  refine tj_i2l (pc := 21) G (b := w32 (M5 k1 (w32 z4))) dX8_tellRow_21 rfl ?_
  refine tj_callVv (pc := 22) G [vL (w32 (M5 k1 (w32 z4)))] mf_X8_add (k := 3) (by decide) lc_3 rfl rfl ml_X8_22 (by decide) rfl rfl (Nat.le_of_ble_eq_true rfl) (fun _ h9 => ok_X8_add X  h9) dX8_tellRow_22 (fun r6 M7 => ?_)
  refine tj_iinc (pc := 25) G 3 (fun x8 => [(3, vI x8), (0, vR X 3), (1, vR X k1), (2, vI c2)]) dX8_tellRow_25 rfl (by decide) (fun _ => rfl) (fun x8 => ?_)
  refine tj_goto (pc := 28) G (tgt := 6) dX8_tellRow_28 (by decide) ?_
  exact tj_sub [1, 2, 3, 0] rfl (hrec x8 M7)
set_option maxRecDepth 100000 in
set_option maxHeartbeats 4000000 in
theorem ok_X8_tellRow (X : tp_X)  {k1 : Nat} {k1n : Nat} {a2 : Int} (hk1 : tg_I LC 64 k1 k1n) {M : tp_M} {res : Int × tp_M} (h : fx_X8_tellRow  k1 k1n a2 M = some res) : tp_Ret X LC 64 0 yX8_tellRow (Cond.code yX8_tellRow cX8_tellRow 4 none) 2 [vR X 3, vR X k1, vI a2] M res := by
  refine tp_ofW (by decide +kernel) rfl rfl (by show _ ≤ 4; exact Nat.le_of_ble_eq_true rfl) h (fun Y G => ?_)
  show tp_J X Y LC 64 4 2 0 (fx_X8_tellRow  k1 k1n a2 M) M [(0, vR X 3), (1, vR X k1), (2, vI a2)] [] 0
  unfold fx_X8_tellRow
  refine tj_aload_n (pc := 0) G 0 dX8_tellRow_0 rfl rfl ?_
  refine tj_callVv (pc := 1) G [] mf_X8_tell (k := 3) (by decide) lc_3 rfl rfl ml_X8_19 (by decide) rfl rfl (Nat.le_of_ble_eq_true rfl) (fun _ h9 => ok_X8_tell X  h9) dX8_tellRow_1 (fun r1 M2 => ?_)
  refine tj_iconst (pc := 4) G dX8_tellRow_4 ?_
  refine tj_istore_n (pc := 5) G (fun x3 => [(3, vI x3), (0, vR X 3), (1, vR X k1), (2, vI a2)]) dX8_tellRow_5 rfl (by decide) (fun _ => rfl) (fun x3 => ?_)
  refine tj_sub [1, 2, 3, 0] rfl (fx_X8_tellRow_L6_ok G  hk1   tp_F x3 M2)

def fx_X9_copyFrom  (t : Nat) (k1 : Nat) (M : tp_M) : tp_O :=
(tp_lm (tp_up M t 4 (M k1 4)) (fun M1 =>
(tp_gd ((0 : Int) ≤ 0 ∧ (0 : Int) ≤ 0 ∧ (0 : Int) ≤ 40 ∧ (0 : Int) + 40 ≤ ((40 : Nat) : Int) ∧ (0 : Int) + 40 ≤ ((40 : Nat) : Int)) inferInstance (tp_lm (tp_cp M1 (k1 + 1) 0 (t + 1) 0 40) (fun M2 =>
(some (0, M2)))))))
set_option maxRecDepth 100000 in
set_option maxHeartbeats 4000000 in
theorem ok_X9_copyFrom (X : tp_X)  {t : Nat} {k1 : Nat} (ht : tg_Turner LC 64 t) (hk1 : tg_Turner LC 64 k1) {M : tp_M} {res : Int × tp_M} (h : fx_X9_copyFrom  t k1 M = some res) : tp_Ret X LC 64 0 yX9_copyFrom (Cond.code yX9_copyFrom cX9_copyFrom 2 none) 1 [vR X t, vR X k1] M res := by
  refine tp_ofW (by decide +kernel) rfl rfl (by show _ ≤ 2; exact Nat.le_of_ble_eq_true rfl) h (fun Y G => ?_)
  show tp_J X Y LC 64 2 1 0 (fx_X9_copyFrom  t k1 M) M [(0, vR X t), (1, vR X k1)] [] 0
  unfold fx_X9_copyFrom
  refine tj_aload_n (pc := 0) G 0 dX9_copyFrom_0 rfl rfl ?_
  refine tj_aload_n (pc := 1) G 1 dX9_copyFrom_1 rfl rfl ?_
  refine tj_getI (pc := 2) G (k := k1) (j := 4) (j2 := 4) tk_X9 (tg_Turner_l0 hk1) hk1.2.1 rfl (by decide) rfl fl_X9_25 dX9_copyFrom_2 ?_
  refine tj_putI (pc := 5) G (k := t) (j := 4) (j2 := 4) tk_X9 (tg_Turner_l0 ht) ht.2.1 rfl (by decide) rfl fl_X9_25 rfl rfl dX9_copyFrom_5 (fun M1 => ?_)
  refine tj_aload_n (pc := 8) G 1 dX9_copyFrom_8 rfl rfl ?_
  refine tj_getR (pc := 9) G (k := k1) (j := 0) (j2 := 0) tk_X9 (tg_Turner_l0 hk1) hk1.2.1 rfl (by decide) rfl fl_X9_9 dX9_copyFrom_9 ?_
  refine tj_iconst (pc := 12) G dX9_copyFrom_12 ?_
  refine tj_aload_n (pc := 13) G 0 dX9_copyFrom_13 rfl rfl ?_
  refine tj_getR (pc := 14) G (k := t) (j := 0) (j2 := 0) tk_X9 (tg_Turner_l0 ht) ht.2.1 rfl (by decide) rfl fl_X9_9 dX9_copyFrom_14 ?_
  refine tj_iconst (pc := 17) G dX9_copyFrom_17 ?_
  refine tj_bipush (pc := 18) G dX9_copyFrom_18 rfl ?_
  refine tj_copy (pc := 20) G (k0 := (k1 + 1)) (k1 := (t + 1)) (sp2 := 0) (dp2 := 0) (n2 := 40) (tg_Turner_l1 hk1) (tg_Turner_l1 ht) hk1.2.2.1 ht.2.2.1 rfl rfl rfl ml_X9_29 mw_copy (by decide) (Nat.le_of_ble_eq_true rfl) dX9_copyFrom_20 (fun M2 => ?_)
  exact tj_vret (pc := 23) G dX9_copyFrom_23

def fx_X9_emit  (t : Nat) (a1 : Int) (M : tp_M) : tp_O :=
(if w32 (M t 4) < 40 then
(tp_ck (w32 (M t 4)) 40 (tp_lm (tp_up M (t + 1) (w32 (M t 4)) a1) (fun M1 =>
(tp_lm (tp_up M1 t 4 ((M1 t 4) + 1)) (fun M2 =>
(some (0, M2)))))))
else
(some (0, M)))
set_option maxRecDepth 100000 in
set_option maxHeartbeats 4000000 in
theorem ok_X9_emit (X : tp_X)  {t : Nat} {a1 : Int} (ht : tg_Turner LC 64 t) {M : tp_M} {res : Int × tp_M} (h : fx_X9_emit  t a1 M = some res) : tp_Ret X LC 64 0 yX9_emit (Cond.code yX9_emit cX9_emit 2 none) 1 [vR X t, vI a1] M res := by
  refine tp_ofW (by decide +kernel) rfl rfl (by show _ ≤ 2; exact Nat.le_of_ble_eq_true rfl) h (fun Y G => ?_)
  show tp_J X Y LC 64 2 1 0 (fx_X9_emit  t a1 M) M [(0, vR X t), (1, vI a1)] [] 0
  unfold fx_X9_emit
  refine tj_aload_n (pc := 0) G 0 dX9_emit_0 rfl rfl ?_
  refine tj_getI (pc := 1) G (k := t) (j := 4) (j2 := 4) tk_X9 (tg_Turner_l0 ht) ht.2.1 rfl (by decide) rfl fl_X9_25 dX9_emit_1 ?_
  refine tj_aload_n (pc := 4) G 0 dX9_emit_4 rfl rfl ?_
  refine tj_getR (pc := 5) G (k := t) (j := 0) (j2 := 0) tk_X9 (tg_Turner_l0 ht) ht.2.1 rfl (by decide) rfl fl_X9_9 dX9_emit_5 ?_
  refine tj_alen (pc := 8) G (k := (t + 1)) (n2 := 40) (tg_Turner_l1 ht) ht.2.2.1 rfl (by decide) dX9_emit_8 ?_
  refine tj_icmp_ge (pc := 9) G (tgt := 32) (a2 := w32 (M t 4)) (b2 := 40) dX9_emit_9 (by decide) rfl rfl ?_ ?_
  · exact tj_vret (pc := 32) G dX9_emit_32
  refine tj_aload_n (pc := 12) G 0 dX9_emit_12 rfl rfl ?_
  refine tj_getR (pc := 13) G (k := t) (j := 0) (j2 := 0) tk_X9 (tg_Turner_l0 ht) ht.2.1 rfl (by decide) rfl fl_X9_9 dX9_emit_13 ?_
  refine tj_aload_n (pc := 16) G 0 dX9_emit_16 rfl rfl ?_
  refine tj_getI (pc := 17) G (k := t) (j := 4) (j2 := 4) tk_X9 (tg_Turner_l0 ht) ht.2.1 rfl (by decide) rfl fl_X9_25 dX9_emit_17 ?_
  refine tj_iload_n (pc := 20) G 1 dX9_emit_20 rfl rfl ?_
  refine tj_iast (pc := 21) G (k := (t + 1)) (i2 := w32 (M t 4)) (n2 := 40) (tg_Turner_l1 ht) ht.2.2.1 rfl rfl dX9_emit_21 (fun M1 => ?_)
  refine tj_aload_n (pc := 22) G 0 dX9_emit_22 rfl rfl ?_
  refine tj_dup (pc := 23) G dX9_emit_23 rfl ?_
  refine tj_getI (pc := 24) G (k := t) (j := 4) (j2 := 4) tk_X9 (tg_Turner_l0 ht) ht.2.1 rfl (by decide) rfl fl_X9_25 dX9_emit_24 ?_
  refine tj_iconst (pc := 27) G dX9_emit_27 ?_
  refine tj_iadd (pc := 28) G dX9_emit_28 ?_
  refine tj_putI (pc := 29) G (k := t) (j := 4) (j2 := 4) tk_X9 (tg_Turner_l0 ht) ht.2.1 rfl (by decide) rfl fl_X9_25 rfl rfl dX9_emit_29 (fun M2 => ?_)
  exact tj_vret (pc := 32) G dX9_emit_32

def fx_X9_strengthOf  (a1 : Int) (M : tp_M) : tp_O :=
(if w32 a1 = 2042 then
(some (3, M))
else
(if w32 a1 = 2043 then
(some (2, M))
else
(if w32 a1 = 2045 then
(some (2, M))
else
(if w32 a1 = 2047 then
(some (3, M))
else
(if w32 a1 = 2060 then
(some (1, M))
else
(if w32 a1 = 2061 then
(some (1, M))
else
(if w32 a1 = 2062 then
(some (1, M))
else
(if w32 a1 = 3000 then
(some (4, M))
else
(some (0, M))))))))))
set_option maxRecDepth 100000 in
set_option maxHeartbeats 4000000 in
theorem ok_X9_strengthOf (X : tp_X)  {a1 : Int}  {M : tp_M} {res : Int × tp_M} (h : fx_X9_strengthOf  a1 M = some res) : tp_Ret X LC 64 1 yX9_strengthOf (Cond.code yX9_strengthOf cX9_strengthOf 1 (some .int)) 1 [vI a1] M res := by
  refine tp_ofW (by decide +kernel) rfl rfl (by show _ ≤ 1; exact Nat.le_of_ble_eq_true rfl) h (fun Y G => ?_)
  show tp_J X Y LC 64 1 1 1 (fx_X9_strengthOf  a1 M) M [(0, vI a1)] [] 0
  unfold fx_X9_strengthOf
  refine tj_iload_n (pc := 0) G 0 dX9_strengthOf_0 rfl rfl ?_
  refine tj_case (fun hq1 => ?_) (fun hq2 => ?_)
  · refine tj_look (pc := 1) G (tgt := 80) dX9_strengthOf_1 (by decide) (by rw [hq1] <;> rfl) (by decide) ?_
    refine tj_iconst (pc := 80) G dX9_strengthOf_80 ?_
    exact tj_iret (pc := 81) G dX9_strengthOf_81
  refine tj_case (fun hq3 => ?_) (fun hq4 => ?_)
  · refine tj_look (pc := 1) G (tgt := 78) dX9_strengthOf_1 (by decide) (by rw [hq3] <;> rfl) (by decide) ?_
    refine tj_iconst (pc := 78) G dX9_strengthOf_78 ?_
    exact tj_iret (pc := 79) G dX9_strengthOf_79
  refine tj_case (fun hq5 => ?_) (fun hq6 => ?_)
  · refine tj_look (pc := 1) G (tgt := 78) dX9_strengthOf_1 (by decide) (by rw [hq5] <;> rfl) (by decide) ?_
    refine tj_iconst (pc := 78) G dX9_strengthOf_78 ?_
    exact tj_iret (pc := 79) G dX9_strengthOf_79
  refine tj_case (fun hq7 => ?_) (fun hq8 => ?_)
  · refine tj_look (pc := 1) G (tgt := 80) dX9_strengthOf_1 (by decide) (by rw [hq7] <;> rfl) (by decide) ?_
    refine tj_iconst (pc := 80) G dX9_strengthOf_80 ?_
    exact tj_iret (pc := 81) G dX9_strengthOf_81
  refine tj_case (fun hq9 => ?_) (fun hq10 => ?_)
  · refine tj_look (pc := 1) G (tgt := 76) dX9_strengthOf_1 (by decide) (by rw [hq9] <;> rfl) (by decide) ?_
    refine tj_iconst (pc := 76) G dX9_strengthOf_76 ?_
    exact tj_iret (pc := 77) G dX9_strengthOf_77
  refine tj_case (fun hq11 => ?_) (fun hq12 => ?_)
  · refine tj_look (pc := 1) G (tgt := 76) dX9_strengthOf_1 (by decide) (by rw [hq11] <;> rfl) (by decide) ?_
    refine tj_iconst (pc := 76) G dX9_strengthOf_76 ?_
    exact tj_iret (pc := 77) G dX9_strengthOf_77
  refine tj_case (fun hq13 => ?_) (fun hq14 => ?_)
  · refine tj_look (pc := 1) G (tgt := 76) dX9_strengthOf_1 (by decide) (by rw [hq13] <;> rfl) (by decide) ?_
    refine tj_iconst (pc := 76) G dX9_strengthOf_76 ?_
    exact tj_iret (pc := 77) G dX9_strengthOf_77
  refine tj_case (fun hq15 => ?_) (fun hq16 => ?_)
  · refine tj_look (pc := 1) G (tgt := 82) dX9_strengthOf_1 (by decide) (by rw [hq15] <;> rfl) (by decide) ?_
    refine tj_iconst (pc := 82) G dX9_strengthOf_82 ?_
    exact tj_iret (pc := 83) G dX9_strengthOf_83
  refine tj_look (pc := 1) G (off := 83) (tgt := 84) dX9_strengthOf_1 (by decide) (by simp only [Op.lookupswitch.offset]; (repeat rw [if_neg (by omega)])) (by decide) ?_
  refine tj_iconst (pc := 84) G dX9_strengthOf_84 ?_
  exact tj_iret (pc := 85) G dX9_strengthOf_85

def fx_X9_emitWaiting_L0 (t : Nat) (c1 : Int) (rec : tp_M → tp_O) (M1 : tp_M) : tp_O :=
(if w32 (M1 t 5) ≤ 0 then
(some (0, M1))
else
(tp_ck (w32 ((M1 t 5) - 1)) 40 (tp_bd (fx_X9_strengthOf (M1 (t + 2) (w32 ((M1 t 5) - 1))) M1) (fun r2 M3 =>
(if w32 r2 < w32 c1 then
(some (0, M3))
else
(tp_lm (tp_up M3 t 5 ((M3 t 5) - 1)) (fun M4 =>
(tp_ck (w32 (M4 t 5)) 40 (tp_bd (fx_X9_emit t (M4 (t + 2) (w32 (M4 t 5))) M4) (fun r5 M6 =>
(rec M6)))))))))))
def fx_X9_emitWaiting  (t : Nat) (a1 : Int) (M : tp_M) : tp_O :=
(tp_lp0 (fx_X9_emitWaiting_L0 t a1 ) tp_F  M)
set_option maxRecDepth 100000 in
set_option maxHeartbeats 4000000 in
theorem fx_X9_emitWaiting_L0_ok {X : tp_X} {Y : tp_Y} (G : tp_Ok X Y 64 cX9_emitWaiting 2 RX9 none)  {t : Nat} {c1 : Int} (ht : tg_Turner LC 64 t)   (n : Nat) : ∀ (M1 : tp_M), tp_J X Y LC 64 2 2 0 (tp_lp0 (fx_X9_emitWaiting_L0 t c1 ) n  M1) M1 [(0, vR X t), (1, vI c1)] [] 0 := by
  refine tp_lp0_ok (P := fun o  M1 => tp_J X Y LC 64 2 2 0 (o) M1 [(0, vR X t), (1, vI c1)] [] 0) (fun M1 => tj_none) (fun rec hrec  M1 => ?_) n
  unfold fx_X9_emitWaiting_L0
  refine tj_aload_n (pc := 0) G 0 dX9_emitWaiting_0 rfl rfl ?_
  refine tj_getI (pc := 1) G (k := t) (j := 5) (j2 := 5) tk_X9 (tg_Turner_l0 ht) ht.2.1 rfl (by decide) rfl fl_X9_35 dX9_emitWaiting_1 ?_
  refine tj_if_le (pc := 4) G (tgt := 51) (a2 := w32 (M1 t 5)) dX9_emitWaiting_4 (by decide) rfl ?_ ?_
  · exact tj_vret (pc := 51) G dX9_emitWaiting_51
  refine tj_aload_n (pc := 7) G 0 dX9_emitWaiting_7 rfl rfl ?_
  refine tj_getR (pc := 8) G (k := t) (j := 1) (j2 := 1) tk_X9 (tg_Turner_l0 ht) ht.2.1 rfl (by decide) rfl fl_X9_15 dX9_emitWaiting_8 ?_
  refine tj_aload_n (pc := 11) G 0 dX9_emitWaiting_11 rfl rfl ?_
  refine tj_getI (pc := 12) G (k := t) (j := 5) (j2 := 5) tk_X9 (tg_Turner_l0 ht) ht.2.1 rfl (by decide) rfl fl_X9_35 dX9_emitWaiting_12 ?_
  refine tj_iconst (pc := 15) G dX9_emitWaiting_15 ?_
  refine tj_isub (pc := 16) G dX9_emitWaiting_16 ?_
  refine tj_iald (pc := 17) G (k := (t + 2)) (i2 := w32 ((M1 t 5) - 1)) (n2 := 40) (tg_Turner_l2 ht) ht.2.2.2.1 rfl rfl dX9_emitWaiting_17 ?_
  refine tj_callSi (pc := 18) G [vI (M1 (t + 2) (w32 ((M1 t 5) - 1)))] mf_X9_strengthOf ml_X9_89 (by decide) rfl rfl (Nat.le_of_ble_eq_true rfl) (fun _ h9 => ok_X9_strengthOf X  h9) dX9_emitWaiting_18 (fun r2 M3 => ?_)
  refine tj_iload_n (pc := 21) G 1 dX9_emitWaiting_21 rfl rfl ?_
  refine tj_icmp_lt (pc := 22) G (tgt := 51) (a2 := w32 r2) (b2 := w32 c1) dX9_emitWaiting_22 (by decide) rfl rfl ?_ ?_
  · exact tj_vret (pc := 51) G dX9_emitWaiting_51
  refine tj_aload_n (pc := 25) G 0 dX9_emitWaiting_25 rfl rfl ?_
  refine tj_dup (pc := 26) G dX9_emitWaiting_26 rfl ?_
  refine tj_getI (pc := 27) G (k := t) (j := 5) (j2 := 5) tk_X9 (tg_Turner_l0 ht) ht.2.1 rfl (by decide) rfl fl_X9_35 dX9_emitWaiting_27 ?_
  refine tj_iconst (pc := 30) G dX9_emitWaiting_30 ?_
  refine tj_isub (pc := 31) G dX9_emitWaiting_31 ?_
  refine tj_putI (pc := 32) G (k := t) (j := 5) (j2 := 5) tk_X9 (tg_Turner_l0 ht) ht.2.1 rfl (by decide) rfl fl_X9_35 rfl rfl dX9_emitWaiting_32 (fun M4 => ?_)
  refine tj_aload_n (pc := 35) G 0 dX9_emitWaiting_35 rfl rfl ?_
  refine tj_aload_n (pc := 36) G 0 dX9_emitWaiting_36 rfl rfl ?_
  refine tj_getR (pc := 37) G (k := t) (j := 1) (j2 := 1) tk_X9 (tg_Turner_l0 ht) ht.2.1 rfl (by decide) rfl fl_X9_15 dX9_emitWaiting_37 ?_
  refine tj_aload_n (pc := 40) G 0 dX9_emitWaiting_40 rfl rfl ?_
  refine tj_getI (pc := 41) G (k := t) (j := 5) (j2 := 5) tk_X9 (tg_Turner_l0 ht) ht.2.1 rfl (by decide) rfl fl_X9_35 dX9_emitWaiting_41 ?_
  refine tj_iald (pc := 44) G (k := (t + 2)) (i2 := w32 (M4 t 5)) (n2 := 40) (tg_Turner_l2 ht) ht.2.2.2.1 rfl rfl dX9_emitWaiting_44 ?_
  refine tj_callVv (pc := 45) G [vI (M4 (t + 2) (w32 (M4 t 5)))] mf_X9_emit (k := t) (tg_Turner_l0 ht) ht.2.1 rfl rfl ml_X9_83 (by decide) rfl rfl (Nat.le_of_ble_eq_true rfl) (fun _ h9 => ok_X9_emit X ht h9) dX9_emitWaiting_45 (fun r5 M6 => ?_)
  refine tj_goto (pc := 48) G (tgt := 0) dX9_emitWaiting_48 (by decide) ?_
  exact tj_sub [0, 1] rfl (hrec  M6)
set_option maxRecDepth 100000 in
set_option maxHeartbeats 4000000 in
theorem ok_X9_emitWaiting (X : tp_X)  {t : Nat} {a1 : Int} (ht : tg_Turner LC 64 t) {M : tp_M} {res : Int × tp_M} (h : fx_X9_emitWaiting  t a1 M = some res) : tp_Ret X LC 64 0 yX9_emitWaiting (Cond.code yX9_emitWaiting cX9_emitWaiting 2 none) 2 [vR X t, vI a1] M res := by
  refine tp_ofW (by decide +kernel) rfl rfl (by show _ ≤ 2; exact Nat.le_of_ble_eq_true rfl) h (fun Y G => ?_)
  show tp_J X Y LC 64 2 2 0 (fx_X9_emitWaiting  t a1 M) M [(0, vR X t), (1, vI a1)] [] 0
  unfold fx_X9_emitWaiting
  refine tj_sub [0, 1] rfl (fx_X9_emitWaiting_L0_ok G  ht   tp_F  M)

def fx_X10_isDigit  (a1 : Int) (M : tp_M) : tp_O :=
(if w32 a1 < 48 then
(some (0, M))
else
(if w32 a1 ≤ 57 then
(some (1, M))
else
(some (0, M))))
set_option maxRecDepth 100000 in
set_option maxHeartbeats 4000000 in
theorem ok_X10_isDigit (X : tp_X)  {a1 : Int}  {M : tp_M} {res : Int × tp_M} (h : fx_X10_isDigit  a1 M = some res) : tp_Ret X LC 64 1 yX10_isDigit (Cond.code yX10_isDigit cX10_isDigit 1 (some .boolean)) 1 [vI a1] M res := by
  refine tp_ofW (by decide +kernel) rfl rfl (by show _ ≤ 1; exact Nat.le_of_ble_eq_true rfl) h (fun Y G => ?_)
  show tp_J X Y LC 64 1 1 1 (fx_X10_isDigit  a1 M) M [(0, vI a1)] [] 0
  unfold fx_X10_isDigit
  refine tj_iload_n (pc := 0) G 0 dX10_isDigit_0 rfl rfl ?_
  refine tj_bipush (pc := 1) G dX10_isDigit_1 rfl ?_
  refine tj_icmp_lt (pc := 3) G (tgt := 16) (a2 := w32 a1) (b2 := 48) dX10_isDigit_3 (by decide) rfl rfl ?_ ?_
  · refine tj_iconst (pc := 16) G dX10_isDigit_16 ?_
    exact tj_zret (pc := 17) G (by decide) dX10_isDigit_17
  refine tj_iload_n (pc := 6) G 0 dX10_isDigit_6 rfl rfl ?_
  refine tj_bipush (pc := 7) G dX10_isDigit_7 rfl ?_
  refine tj_icmp_gt (pc := 9) G (tgt := 16) (a2 := w32 a1) (b2 := 57) dX10_isDigit_9 (by decide) rfl rfl ?_ ?_
  · refine tj_iconst (pc := 16) G dX10_isDigit_16 ?_
    exact tj_zret (pc := 17) G (by decide) dX10_isDigit_17
  refine tj_iconst (pc := 12) G dX10_isDigit_12 ?_
  refine tj_goto (pc := 13) G (tgt := 17) dX10_isDigit_13 (by decide) ?_
  exact tj_zret (pc := 17) G (by decide) dX10_isDigit_17

def fx_X9_hold  (t : Nat) (a1 : Int) (M : tp_M) : tp_O :=
(if w32 (M t 5) < 40 then
(tp_ck (w32 (M t 5)) 40 (tp_lm (tp_up M (t + 2) (w32 (M t 5)) a1) (fun M1 =>
(tp_lm (tp_up M1 t 5 ((M1 t 5) + 1)) (fun M2 =>
(some (0, M2)))))))
else
(some (0, M)))
set_option maxRecDepth 100000 in
set_option maxHeartbeats 4000000 in
theorem ok_X9_hold (X : tp_X)  {t : Nat} {a1 : Int} (ht : tg_Turner LC 64 t) {M : tp_M} {res : Int × tp_M} (h : fx_X9_hold  t a1 M = some res) : tp_Ret X LC 64 0 yX9_hold (Cond.code yX9_hold cX9_hold 2 none) 1 [vR X t, vI a1] M res := by
  refine tp_ofW (by decide +kernel) rfl rfl (by show _ ≤ 2; exact Nat.le_of_ble_eq_true rfl) h (fun Y G => ?_)
  show tp_J X Y LC 64 2 1 0 (fx_X9_hold  t a1 M) M [(0, vR X t), (1, vI a1)] [] 0
  unfold fx_X9_hold
  refine tj_aload_n (pc := 0) G 0 dX9_hold_0 rfl rfl ?_
  refine tj_getI (pc := 1) G (k := t) (j := 5) (j2 := 5) tk_X9 (tg_Turner_l0 ht) ht.2.1 rfl (by decide) rfl fl_X9_35 dX9_hold_1 ?_
  refine tj_aload_n (pc := 4) G 0 dX9_hold_4 rfl rfl ?_
  refine tj_getR (pc := 5) G (k := t) (j := 1) (j2 := 1) tk_X9 (tg_Turner_l0 ht) ht.2.1 rfl (by decide) rfl fl_X9_15 dX9_hold_5 ?_
  refine tj_alen (pc := 8) G (k := (t + 2)) (n2 := 40) (tg_Turner_l2 ht) ht.2.2.2.1 rfl (by decide) dX9_hold_8 ?_
  refine tj_icmp_ge (pc := 9) G (tgt := 32) (a2 := w32 (M t 5)) (b2 := 40) dX9_hold_9 (by decide) rfl rfl ?_ ?_
  · exact tj_vret (pc := 32) G dX9_hold_32
  refine tj_aload_n (pc := 12) G 0 dX9_hold_12 rfl rfl ?_
  refine tj_getR (pc := 13) G (k := t) (j := 1) (j2 := 1) tk_X9 (tg_Turner_l0 ht) ht.2.1 rfl (by decide) rfl fl_X9_15 dX9_hold_13 ?_
  refine tj_aload_n (pc := 16) G 0 dX9_hold_16 rfl rfl ?_
  refine tj_getI (pc := 17) G (k := t) (j := 5) (j2 := 5) tk_X9 (tg_Turner_l0 ht) ht.2.1 rfl (by decide) rfl fl_X9_35 dX9_hold_17 ?_
  refine tj_iload_n (pc := 20) G 1 dX9_hold_20 rfl rfl ?_
  refine tj_iast (pc := 21) G (k := (t + 2)) (i2 := w32 (M t 5)) (n2 := 40) (tg_Turner_l2 ht) ht.2.2.2.1 rfl rfl dX9_hold_21 (fun M1 => ?_)
  refine tj_aload_n (pc := 22) G 0 dX9_hold_22 rfl rfl ?_
  refine tj_dup (pc := 23) G dX9_hold_23 rfl ?_
  refine tj_getI (pc := 24) G (k := t) (j := 5) (j2 := 5) tk_X9 (tg_Turner_l0 ht) ht.2.1 rfl (by decide) rfl fl_X9_35 dX9_hold_24 ?_
  refine tj_iconst (pc := 27) G dX9_hold_27 ?_
  refine tj_iadd (pc := 28) G dX9_hold_28 ?_
  refine tj_putI (pc := 29) G (k := t) (j := 5) (j2 := 5) tk_X9 (tg_Turner_l0 ht) ht.2.1 rfl (by decide) rfl fl_X9_35 rfl rfl dX9_hold_29 (fun M2 => ?_)
  exact tj_vret (pc := 32) G dX9_hold_32

def fx_X9_takeDigit  (t : Nat) (a1 : Int) (M : tp_M) : tp_O :=
(if w32 (M t 7) < 1 then
(some (0, M))
else
(if w32 (M t 7) ≤ 2 then
(if w32 (M t 4) < 1 then
(some (0, M))
else
(tp_ck (w32 ((M t 4) - 1)) 40 (tp_ck (w32 ((M t 4) - 1)) 40 (tp_lm (tp_up M (t + 1) (w32 ((M t 4) - 1)) (((M (t + 1) (w32 ((M t 4) - 1))) * 10) + a1)) (fun M1 =>
(tp_lm (tp_up M1 t 7 ((M1 t 7) + 1)) (fun M2 =>
(some (1, M2)))))))))
else
(some (0, M))))
set_option maxRecDepth 100000 in
set_option maxHeartbeats 4000000 in
theorem ok_X9_takeDigit (X : tp_X)  {t : Nat} {a1 : Int} (ht : tg_Turner LC 64 t) {M : tp_M} {res : Int × tp_M} (h : fx_X9_takeDigit  t a1 M = some res) : tp_Ret X LC 64 1 yX9_takeDigit (Cond.code yX9_takeDigit cX9_takeDigit 2 (some .boolean)) 1 [vR X t, vI a1] M res := by
  refine tp_ofW (by decide +kernel) rfl rfl (by show _ ≤ 2; exact Nat.le_of_ble_eq_true rfl) h (fun Y G => ?_)
  show tp_J X Y LC 64 2 1 1 (fx_X9_takeDigit  t a1 M) M [(0, vR X t), (1, vI a1)] [] 0
  unfold fx_X9_takeDigit
  refine tj_aload_n (pc := 0) G 0 dX9_takeDigit_0 rfl rfl ?_
  refine tj_getI (pc := 1) G (k := t) (j := 7) (j2 := 7) tk_X9 (tg_Turner_l0 ht) ht.2.1 rfl (by decide) rfl fl_X9_41 dX9_takeDigit_1 ?_
  refine tj_iconst (pc := 4) G dX9_takeDigit_4 ?_
  refine tj_icmp_lt (pc := 5) G (tgt := 24) (a2 := w32 (M t 7)) (b2 := 1) dX9_takeDigit_5 (by decide) rfl rfl ?_ ?_
  · refine tj_iconst (pc := 24) G dX9_takeDigit_24 ?_
    exact tj_zret (pc := 25) G (by decide) dX9_takeDigit_25
  refine tj_aload_n (pc := 8) G 0 dX9_takeDigit_8 rfl rfl ?_
  refine tj_getI (pc := 9) G (k := t) (j := 7) (j2 := 7) tk_X9 (tg_Turner_l0 ht) ht.2.1 rfl (by decide) rfl fl_X9_41 dX9_takeDigit_9 ?_
  refine tj_iconst (pc := 12) G dX9_takeDigit_12 ?_
  refine tj_icmp_gt (pc := 13) G (tgt := 24) (a2 := w32 (M t 7)) (b2 := 2) dX9_takeDigit_13 (by decide) rfl rfl ?_ ?_
  · refine tj_iconst (pc := 24) G dX9_takeDigit_24 ?_
    exact tj_zret (pc := 25) G (by decide) dX9_takeDigit_25
  refine tj_aload_n (pc := 16) G 0 dX9_takeDigit_16 rfl rfl ?_
  refine tj_getI (pc := 17) G (k := t) (j := 4) (j2 := 4) tk_X9 (tg_Turner_l0 ht) ht.2.1 rfl (by decide) rfl fl_X9_25 dX9_takeDigit_17 ?_
  refine tj_iconst (pc := 20) G dX9_takeDigit_20 ?_
  refine tj_icmp_ge (pc := 21) G (tgt := 26) (a2 := w32 (M t 4)) (b2 := 1) dX9_takeDigit_21 (by decide) rfl rfl ?_ ?_
  · refine tj_aload_n (pc := 26) G 0 dX9_takeDigit_26 rfl rfl ?_
    refine tj_getR (pc := 27) G (k := t) (j := 0) (j2 := 0) tk_X9 (tg_Turner_l0 ht) ht.2.1 rfl (by decide) rfl fl_X9_9 dX9_takeDigit_27 ?_
    refine tj_aload_n (pc := 30) G 0 dX9_takeDigit_30 rfl rfl ?_
    refine tj_getI (pc := 31) G (k := t) (j := 4) (j2 := 4) tk_X9 (tg_Turner_l0 ht) ht.2.1 rfl (by decide) rfl fl_X9_25 dX9_takeDigit_31 ?_
    refine tj_iconst (pc := 34) G dX9_takeDigit_34 ?_
    refine tj_isub (pc := 35) G dX9_takeDigit_35 ?_
    refine tj_aload_n (pc := 36) G 0 dX9_takeDigit_36 rfl rfl ?_
    refine tj_getR (pc := 37) G (k := t) (j := 0) (j2 := 0) tk_X9 (tg_Turner_l0 ht) ht.2.1 rfl (by decide) rfl fl_X9_9 dX9_takeDigit_37 ?_
    refine tj_aload_n (pc := 40) G 0 dX9_takeDigit_40 rfl rfl ?_
    refine tj_getI (pc := 41) G (k := t) (j := 4) (j2 := 4) tk_X9 (tg_Turner_l0 ht) ht.2.1 rfl (by decide) rfl fl_X9_25 dX9_takeDigit_41 ?_
    refine tj_iconst (pc := 44) G dX9_takeDigit_44 ?_
    refine tj_isub (pc := 45) G dX9_takeDigit_45 ?_
    refine tj_iald (pc := 46) G (k := (t + 1)) (i2 := w32 ((M t 4) - 1)) (n2 := 40) (tg_Turner_l1 ht) ht.2.2.1 rfl rfl dX9_takeDigit_46 ?_
    refine tj_bipush (pc := 47) G dX9_takeDigit_47 rfl ?_
    refine tj_imul (pc := 49) G dX9_takeDigit_49 ?_
    refine tj_iload_n (pc := 50) G 1 dX9_takeDigit_50 rfl rfl ?_
    refine tj_iadd (pc := 51) G dX9_takeDigit_51 ?_
    refine tj_iast (pc := 52) G (k := (t + 1)) (i2 := w32 ((M t 4) - 1)) (n2 := 40) (tg_Turner_l1 ht) ht.2.2.1 rfl rfl dX9_takeDigit_52 (fun M1 => ?_)
    refine tj_aload_n (pc := 53) G 0 dX9_takeDigit_53 rfl rfl ?_
    refine tj_dup (pc := 54) G dX9_takeDigit_54 rfl ?_
    refine tj_getI (pc := 55) G (k := t) (j := 7) (j2 := 7) tk_X9 (tg_Turner_l0 ht) ht.2.1 rfl (by decide) rfl fl_X9_41 dX9_takeDigit_55 ?_
    refine tj_iconst (pc := 58) G dX9_takeDigit_58 ?_
    refine tj_iadd (pc := 59) G dX9_takeDigit_59 ?_
    refine tj_putI (pc := 60) G (k := t) (j := 7) (j2 := 7) tk_X9 (tg_Turner_l0 ht) ht.2.1 rfl (by decide) rfl fl_X9_41 rfl rfl dX9_takeDigit_60 (fun M2 => ?_)
    refine tj_iconst (pc := 63) G dX9_takeDigit_63 ?_
    exact tj_zret (pc := 64) G (by decide) dX9_takeDigit_64
  refine tj_iconst (pc := 24) G dX9_takeDigit_24 ?_
  exact tj_zret (pc := 25) G (by decide) dX9_takeDigit_25
