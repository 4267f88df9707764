def fx_X2_copyFrom  (t : Nat) (k1 : Nat) (M : tp_M) : tp_O :=
(tp_lm (tp_up M t 2 (M k1 2)) (fun M1 =>
(tp_lm (tp_up M1 t 3 (M1 k1 3)) (fun M2 =>
(tp_gd ((0 : Int) ≤ 0 ∧ (0 : Int) ≤ 0 ∧ (0 : Int) ≤ 8 ∧ (0 : Int) + 8 ≤ ((8 : Nat) : Int) ∧ (0 : Int) + 8 ≤ ((8 : Nat) : Int)) inferInstance (tp_lm (tp_cp M2 (k1 + 1) 0 (t + 1) 0 8) (fun M3 =>
(tp_gd ((0 : Int) ≤ 0 ∧ (0 : Int) ≤ 0 ∧ (0 : Int) ≤ 8 ∧ (0 : Int) + 8 ≤ ((8 : Nat) : Int) ∧ (0 : Int) + 8 ≤ ((8 : Nat) : Int)) inferInstance (tp_lm (tp_cp M3 (k1 + 2) 0 (t + 2) 0 8) (fun M4 =>
(some (0, M4))))))))))))
set_option maxRecDepth 100000 in
set_option maxHeartbeats 4000000 in
theorem ok_X2_copyFrom (X : tp_X)  {t : Nat} {k1 : Nat} (ht : tg_Moor LC 64 t) (hk1 : tg_Moor LC 64 k1) {M : tp_M} {res : Int × tp_M} (h : fx_X2_copyFrom  t k1 M = some res) : tp_Ret X LC 64 0 yX2_copyFrom (Cond.code yX2_copyFrom cX2_copyFrom 2 none) 1 [vR X t, vR X k1] M res := by
  refine tp_ofW (by decide +kernel) rfl rfl (by show _ ≤ 2; exact Nat.le_of_ble_eq_true rfl) h (fun Y G => ?_)
  show tp_J X Y LC 64 2 1 0 (fx_X2_copyFrom  t k1 M) M [(0, vR X t), (1, vR X k1)] [] 0
  unfold fx_X2_copyFrom
  refine tj_aload_n (pc := 0) G 0 dX2_copyFrom_0 rfl rfl ?_
  refine tj_aload_n (pc := 1) G 1 dX2_copyFrom_1 rfl rfl ?_
  refine tj_getI (pc := 2) G (k := k1) (j := 2) (j2 := 2) tk_X2 (tg_Moor_l0 hk1) hk1.2.1 rfl (by decide) rfl fl_X2_18 dX2_copyFrom_2 ?_
  refine tj_putI (pc := 5) G (k := t) (j := 2) (j2 := 2) tk_X2 (tg_Moor_l0 ht) ht.2.1 rfl (by decide) rfl fl_X2_18 rfl rfl dX2_copyFrom_5 (fun M1 => ?_)
  refine tj_aload_n (pc := 8) G 0 dX2_copyFrom_8 rfl rfl ?_
  refine tj_aload_n (pc := 9) G 1 dX2_copyFrom_9 rfl rfl ?_
  refine tj_getI (pc := 10) G (k := k1) (j := 3) (j2 := 3) tk_X2 (tg_Moor_l0 hk1) hk1.2.1 rfl (by decide) rfl fl_X2_22 dX2_copyFrom_10 ?_
  refine tj_putI (pc := 13) G (k := t) (j := 3) (j2 := 3) tk_X2 (tg_Moor_l0 ht) ht.2.1 rfl (by decide) rfl fl_X2_22 rfl rfl dX2_copyFrom_13 (fun M2 => ?_)
  refine tj_aload_n (pc := 16) G 1 dX2_copyFrom_16 rfl rfl ?_
  refine tj_getR (pc := 17) G (k := k1) (j := 0) (j2 := 0) tk_X2 (tg_Moor_l0 hk1) hk1.2.1 rfl (by decide) rfl fl_X2_9 dX2_copyFrom_17 ?_
  refine tj_iconst (pc := 20) G dX2_copyFrom_20 ?_
  refine tj_aload_n (pc := 21) G 0 dX2_copyFrom_21 rfl rfl ?_
  refine tj_getR (pc := 22) G (k := t) (j := 0) (j2 := 0) tk_X2 (tg_Moor_l0 ht) ht.2.1 rfl (by decide) rfl fl_X2_9 dX2_copyFrom_22 ?_
  refine tj_iconst (pc := 25) G dX2_copyFrom_25 ?_
  refine tj_bipush (pc := 26) G dX2_copyFrom_26 rfl ?_
  refine tj_copy (pc := 28) G (k0 := (k1 + 1)) (k1 := (t + 1)) (sp2 := 0) (dp2 := 0) (n2 := 8) (tg_Moor_l1 hk1) (tg_Moor_l1 ht) hk1.2.2.1 ht.2.2.1 rfl rfl rfl ml_X2_25 mw_copy (by decide) (Nat.le_of_ble_eq_true rfl) dX2_copyFrom_28 (fun M3 => ?_)
  refine tj_aload_n (pc := 31) G 1 dX2_copyFrom_31 rfl rfl ?_
  refine tj_getR (pc := 32) G (k := k1) (j := 1) (j2 := 1) tk_X2 (tg_Moor_l0 hk1) hk1.2.1 rfl (by decide) rfl fl_X2_15 dX2_copyFrom_32 ?_
  refine tj_iconst (pc := 35) G dX2_copyFrom_35 ?_
  refine tj_aload_n (pc := 36) G 0 dX2_copyFrom_36 rfl rfl ?_
  refine tj_getR (pc := 37) G (k := t) (j := 1) (j2 := 1) tk_X2 (tg_Moor_l0 ht) ht.2.1 rfl (by decide) rfl fl_X2_15 dX2_copyFrom_37 ?_
  refine tj_iconst (pc := 40) G dX2_copyFrom_40 ?_
  refine tj_bipush (pc := 41) G dX2_copyFrom_41 rfl ?_
  refine tj_copy (pc := 43) G (k0 := (k1 + 2)) (k1 := (t + 2)) (sp2 := 0) (dp2 := 0) (n2 := 8) (tg_Moor_l2 hk1) (tg_Moor_l2 ht) hk1.2.2.2 ht.2.2.2 rfl rfl rfl ml_X2_25 mw_copy (by decide) (Nat.le_of_ble_eq_true rfl) dX2_copyFrom_43 (fun M4 => ?_)
  exact tj_vret (pc := 46) G dX2_copyFrom_46

def fx_X2_house  (t : Nat) (a1 : Int) (M : tp_M) : tp_O :=
(tp_lm (tp_up M t 2 (min 9999 (w32 ((M t 2) + a1)))) (fun M1 =>
(some (0, M1))))
set_option maxRecDepth 100000 in
set_option maxHeartbeats 4000000 in
theorem ok_X2_house (X : tp_X)  {t : Nat} {a1 : Int} (ht : tg_Moor LC 64 t) {M : tp_M} {res : Int × tp_M} (h : fx_X2_house  t a1 M = some res) : tp_Ret X LC 64 0 yX2_house (Cond.code yX2_house cX2_house 2 none) 1 [vR X t, vI a1] M res := by
  refine tp_ofW (by decide +kernel) rfl rfl (by show _ ≤ 2; exact Nat.le_of_ble_eq_true rfl) h (fun Y G => ?_)
  show tp_J X Y LC 64 2 1 0 (fx_X2_house  t a1 M) M [(0, vR X t), (1, vI a1)] [] 0
  unfold fx_X2_house
  refine tj_aload_n (pc := 0) G 0 dX2_house_0 rfl rfl ?_
  refine tj_sipush (pc := 1) G dX2_house_1 rfl ?_
  refine tj_aload_n (pc := 4) G 0 dX2_house_4 rfl rfl ?_
  refine tj_getI (pc := 5) G (k := t) (j := 2) (j2 := 2) tk_X2 (tg_Moor_l0 ht) ht.2.1 rfl (by decide) rfl fl_X2_18 dX2_house_5 ?_
  refine tj_iload_n (pc := 8) G 1 dX2_house_8 rfl rfl ?_
  refine tj_iadd (pc := 9) G dX2_house_9 ?_
  refine tj_min (pc := 10) G (a2 := 9999) (b2 := w32 ((M t 2) + a1)) rfl rfl ml_X2_31 mw_min (by decide) (Nat.le_of_ble_eq_true rfl) dX2_house_10 ?_
  refine tj_putI (pc := 13) G (k := t) (j := 2) (j2 := 2) tk_X2 (tg_Moor_l0 ht) ht.2.1 rfl (by decide) rfl fl_X2_18 rfl rfl dX2_house_13 (fun M1 => ?_)
  exact tj_vret (pc := 16) G dX2_house_16

def fx_X2_walkers_L4 (t : Nat)  (rec : Int → Int → tp_M → tp_O) (z3 z4 : Int) (M5 : tp_M) : tp_O :=
(if w32 z4 < 8 then
(tp_ck (w32 z4) 8 (tp_lt (z3 + (M5 (t + 2) (w32 z4))) (fun x6 =>
(tp_lt (z4 + 1) (fun x7 =>
(rec x6 x7 M5))))))
else
(some (z3, M5)))
def fx_X2_walkers  (t : Nat) (M : tp_M) : tp_O :=
(tp_lt 0 (fun x1 =>
(tp_lt 1 (fun x2 =>
(tp_lp2 (fx_X2_walkers_L4 t ) tp_F x1 x2 M)))))
set_option maxRecDepth 100000 in
set_option maxHeartbeats 4000000 in
theorem fx_X2_walkers_L4_ok {X : tp_X} {Y : tp_Y} (G : tp_Ok X Y 64 cX2_walkers 3 RX2 (some .int))  {t : Nat} (ht : tg_Moor LC 64 t)   (n : Nat) : ∀ (z3 z4 : Int) (M5 : tp_M), tp_J X Y LC 64 3 1 1 (tp_lp2 (fx_X2_walkers_L4 t  ) n z3 z4 M5) M5 [(0, vR X t), (1, vI z3), (2, vI z4)] [] 4 := by
  refine tp_lp2_ok (P := fun o z3 z4 M5 => tp_J X Y LC 64 3 1 1 (o) M5 [(0, vR X t), (1, vI z3), (2, vI z4)] [] 4) (fun z3 z4 M5 => tj_none) (fun rec hrec z3 z4 M5 => ?_) n
  unfold fx_X2_walkers_L4
  refine tj_iload_n (pc := 4) G 2 dX2_walkers_4 rfl rfl ?_
  refine tj_bipush (pc := 5) G dX2_walkers_5 rfl ?_
  refine tj_icmp_ge (pc := 7) G (tgt := 25) (a2 := w32 z4) (b2 := 8) dX2_walkers_7 (by decide) rfl rfl ?_ ?_
  · refine tj_iload_n (pc := 25) G 1 dX2_walkers_25 rfl rfl ?_
    exact tj_iret (pc := 26) G dX2_walkers_26
  refine tj_iload_n (pc := 10) G 1 dX2_walkers_10 rfl rfl ?_
  refine tj_aload_n (pc := 11) G 0 dX2_walkers_11 rfl rfl ?_
  refine tj_getR (pc := 12) G (k := t) (j := 1) (j2 := 1) tk_X2 (tg_Moor_l0 ht) ht.2.1 rfl (by decide) rfl fl_X2_15 dX2_walkers_12 ?_
  refine tj_iload_n (pc := 15) G 2 dX2_walkers_15 rfl rfl ?_
  refine tj_iald (pc := 16) G (k := (t + 2)) (i2 := w32 z4) (n2 := 8) (tg_Moor_l2 ht) ht.2.2.2 rfl rfl dX2_walkers_16 ?_
  refine tj_iadd (pc := 17) G dX2_walkers_17 ?_
  refine tj_istore_n (pc := 18) G (fun x6 => [(1, vI x6), (0, vR X t), (2, vI z4)]) dX2_walkers_18 rfl (by decide) (fun _ => rfl) (fun x6 => ?_)
  refine tj_iinc (pc := 19) G 2 (fun x7 => [(2, vI x7), (1, vI x6), (0, vR X t)]) dX2_walkers_19 rfl (by decide) (fun _ => rfl) (fun x7 => ?_)
  refine tj_goto (pc := 22) G (tgt := 4) dX2_walkers_22 (by decide) ?_
  exact tj_sub [2, 1, 0] rfl (hrec x6 x7 M5)
set_option maxRecDepth 100000 in
set_option maxHeartbeats 4000000 in
theorem ok_X2_walkers (X : tp_X)  {t : Nat} (ht : tg_Moor LC 64 t) {M : tp_M} {res : Int × tp_M} (h : fx_X2_walkers  t M = some res) : tp_Ret X LC 64 1 yX2_walkers (Cond.code yX2_walkers cX2_walkers 3 (some .int)) 1 [vR X t] M res := by
  refine tp_ofW (by decide +kernel) rfl rfl (by show _ ≤ 3; exact Nat.le_of_ble_eq_true rfl) h (fun Y G => ?_)
  show tp_J X Y LC 64 3 1 1 (fx_X2_walkers  t M) M [(0, vR X t)] [] 0
  unfold fx_X2_walkers
  refine tj_iconst (pc := 0) G dX2_walkers_0 ?_
  refine tj_istore_n (pc := 1) G (fun x1 => [(1, vI x1), (0, vR X t)]) dX2_walkers_1 rfl (by decide) (fun _ => rfl) (fun x1 => ?_)
  refine tj_iconst (pc := 2) G dX2_walkers_2 ?_
  refine tj_istore_n (pc := 3) G (fun x2 => [(2, vI x2), (1, vI x1), (0, vR X t)]) dX2_walkers_3 rfl (by decide) (fun _ => rfl) (fun x2 => ?_)
  refine tj_sub [2, 1, 0] rfl (fx_X2_walkers_L4_ok G  ht   tp_F x1 x2 M)

def fx_X2_peopled_L4 (t : Nat)  (rec : Int → Int → tp_M → tp_O) (z3 z4 : Int) (M5 : tp_M) : tp_O :=
(if w32 z4 < 8 then
(tp_ck (w32 z4) 8 (tp_jn1 (fun y6 M7 => 
(tp_lt (z4 + 1) (fun x8 =>
(rec y6 x8 M7)))) (fun jk25 =>
(if w32 (M5 (t + 2) (w32 z4)) ≤ 0 then
(jk25 z3 M5)
else
(tp_lt (x_or z3 (x_shl 1 z4)) (fun x9 =>
(jk25 x9 M5)))))))
else
(some (z3, M5)))
def fx_X2_peopled  (t : Nat) (M : tp_M) : tp_O :=
(tp_lt 0 (fun x1 =>
(tp_lt 1 (fun x2 =>
(tp_lp2 (fx_X2_peopled_L4 t ) tp_F x1 x2 M)))))
set_option maxRecDepth 100000 in
set_option maxHeartbeats 4000000 in
theorem fx_X2_peopled_L4_ok {X : tp_X} {Y : tp_Y} (G : tp_Ok X Y 64 cX2_peopled 3 RX2 (some .int))  {t : Nat} (ht : tg_Moor LC 64 t)   (n : Nat) : ∀ (z3 z4 : Int) (M5 : tp_M), tp_J X Y LC 64 3 1 1 (tp_lp2 (fx_X2_peopled_L4 t  ) n z3 z4 M5) M5 [(0, vR X t), (1, vI z3), (2, vI z4)] [] 4 := by
  refine tp_lp2_ok (P := fun o z3 z4 M5 => tp_J X Y LC 64 3 1 1 (o) M5 [(0, vR X t), (1, vI z3), (2, vI z4)] [] 4) (fun z3 z4 M5 => tj_none) (fun rec hrec z3 z4 M5 => ?_) n
  unfold fx_X2_peopled_L4
  refine tj_iload_n (pc := 4) G 2 dX2_peopled_4 rfl rfl ?_
  refine tj_bipush (pc := 5) G dX2_peopled_5 rfl ?_
  refine tj_icmp_ge (pc := 7) G (tgt := 31) (a2 := w32 z4) (b2 := 8) dX2_peopled_7 (by decide) rfl rfl ?_ ?_
  · refine tj_iload_n (pc := 31) G 1 dX2_peopled_31 rfl rfl ?_
    exact tj_iret (pc := 32) G dX2_peopled_32
  refine tj_aload_n (pc := 10) G 0 dX2_peopled_10 rfl rfl ?_
  refine tj_getR (pc := 11) G (k := t) (j := 1) (j2 := 1) tk_X2 (tg_Moor_l0 ht) ht.2.1 rfl (by decide) rfl fl_X2_15 dX2_peopled_11 ?_
  refine tj_iload_n (pc := 14) G 2 dX2_peopled_14 rfl rfl ?_
  refine tj_iald (pc := 15) G (k := (t + 2)) (i2 := w32 z4) (n2 := 8) (tg_Moor_l2 ht) ht.2.2.2 rfl rfl dX2_peopled_15 ?_
  refine tj_jn1 (fun y6 => [(0, vR X t), (1, vI y6), (2, vI z4)]) (fun y6 => []) 25 (fun y6 M7 => ?_) (fun jk25 hj25 => ?_)
  · refine tj_iinc (pc := 25) G 2 (fun x8 => [(2, vI x8), (0, vR X t), (1, vI y6)]) dX2_peopled_25 rfl (by decide) (fun _ => rfl) (fun x8 => ?_)
    refine tj_goto (pc := 28) G (tgt := 4) dX2_peopled_28 (by decide) ?_
    exact tj_sub [1, 2, 0] rfl (hrec y6 x8 M7)
  refine tj_if_le (pc := 16) G (tgt := 25) (a2 := w32 (M5 (t + 2) (w32 z4))) dX2_peopled_16 (by decide) rfl ?_ ?_
  · exact tj_sub [0, 1, 2] rfl (hj25 z3 M5)
  refine tj_iload_n (pc := 19) G 1 dX2_peopled_19 rfl rfl ?_
  refine tj_iconst (pc := 20) G dX2_peopled_20 ?_
  refine tj_iload_n (pc := 21) G 2 dX2_peopled_21 rfl rfl ?_
  refine tj_ishl (pc := 22) G dX2_peopled_22 ?_
  refine tj_ior (pc := 23) G dX2_peopled_23 ?_
  refine tj_istore_n (pc := 24) G (fun x9 => [(1, vI x9), (0, vR X t), (2, vI z4)]) dX2_peopled_24 rfl (by decide) (fun _ => rfl) (fun x9 => ?_)
  exact tj_sub [1, 0, 2] rfl (hj25 x9 M5)
set_option maxRecDepth 100000 in
set_option maxHeartbeats 4000000 in
theorem ok_X2_peopled (X : tp_X)  {t : Nat} (ht : tg_Moor LC 64 t) {M : tp_M} {res : Int × tp_M} (h : fx_X2_peopled  t M = some res) : tp_Ret X LC 64 1 yX2_peopled (Cond.code yX2_peopled cX2_peopled 3 (some .int)) 1 [vR X t] M res := by
  refine tp_ofW (by decide +kernel) rfl rfl (by show _ ≤ 3; exact Nat.le_of_ble_eq_true rfl) h (fun Y G => ?_)
  show tp_J X Y LC 64 3 1 1 (fx_X2_peopled  t M) M [(0, vR X t)] [] 0
  unfold fx_X2_peopled
  refine tj_iconst (pc := 0) G dX2_peopled_0 ?_
  refine tj_istore_n (pc := 1) G (fun x1 => [(1, vI x1), (0, vR X t)]) dX2_peopled_1 rfl (by decide) (fun _ => rfl) (fun x1 => ?_)
  refine tj_iconst (pc := 2) G dX2_peopled_2 ?_
  refine tj_istore_n (pc := 3) G (fun x2 => [(2, vI x2), (1, vI x1), (0, vR X t)]) dX2_peopled_3 rfl (by decide) (fun _ => rfl) (fun x2 => ?_)
  refine tj_sub [2, 1, 0] rfl (fx_X2_peopled_L4_ok G  ht   tp_F x1 x2 M)

def fx_X2_hasPostsOf_L2 (t : Nat) (k1 : Nat)  (rec : Int → tp_M → tp_O) (z2 : Int) (M3 : tp_M) : tp_O :=
(if w32 z2 < 8 then
(tp_ck (w32 z2) 8 (tp_ck (w32 z2) 8 (if w32 (M3 (t + 1) (w32 z2)) = w32 (M3 (k1 + 1) (w32 z2)) then
(tp_lt (z2 + 1) (fun x4 =>
(rec x4 M3)))
else
(some (0, M3)))))
else
(some (1, M3)))
def fx_X2_hasPostsOf  (t : Nat) (k1 : Nat) (M : tp_M) : tp_O :=
(tp_lt 1 (fun x1 =>
(tp_lp1 (fx_X2_hasPostsOf_L2 t k1 ) tp_F x1 M)))
set_option maxRecDepth 100000 in
set_option maxHeartbeats 4000000 in
theorem fx_X2_hasPostsOf_L2_ok {X : tp_X} {Y : tp_Y} (G : tp_Ok X Y 64 cX2_hasPostsOf 3 RX2 (some .boolean))  {t : Nat} {k1 : Nat} (ht : tg_Moor LC 64 t) (hk1 : tg_Moor LC 64 k1)   (n : Nat) : ∀ (z2 : Int) (M3 : tp_M), tp_J X Y LC 64 3 1 1 (tp_lp1 (fx_X2_hasPostsOf_L2 t k1  ) n z2 M3) M3 [(0, vR X t), (1, vR X k1), (2, vI z2)] [] 2 := by
  refine tp_lp1_ok (P := fun o z2 M3 => tp_J X Y LC 64 3 1 1 (o) M3 [(0, vR X t), (1, vR X k1), (2, vI z2)] [] 2) (fun z2 M3 => tj_none) (fun rec hrec z2 M3 => ?_) n
  unfold fx_X2_hasPostsOf_L2
  refine tj_iload_n (pc := 2) G 2 dX2_hasPostsOf_2 rfl rfl ?_
  refine tj_bipush (pc := 3) G dX2_hasPostsOf_3 rfl ?_
  refine tj_icmp_ge (pc := 5) G (tgt := 31) (a2 := w32 z2) (b2 := 8) dX2_hasPostsOf_5 (by decide) rfl rfl ?_ ?_
  · refine tj_iconst (pc := 31) G dX2_hasPostsOf_31 ?_
    exact tj_zret (pc := 32) G (by decide) dX2_hasPostsOf_32
  refine tj_aload_n (pc := 8) G 0 dX2_hasPostsOf_8 rfl rfl ?_
  refine tj_getR (pc := 9) G (k := t) (j := 0) (j2 := 0) tk_X2 (tg_Moor_l0 ht) ht.2.1 rfl (by decide) rfl fl_X2_9 dX2_hasPostsOf_9 ?_
  refine tj_iload_n (pc := 12) G 2 dX2_hasPostsOf_12 rfl rfl ?_
  refine tj_iald (pc := 13) G (k := (t + 1)) (i2 := w32 z2) (n2 := 8) (tg_Moor_l1 ht) ht.2.2.1 rfl rfl dX2_hasPostsOf_13 ?_
  refine tj_aload_n (pc := 14) G 1 dX2_hasPostsOf_14 rfl rfl ?_
  refine tj_getR (pc := 15) G (k := k1) (j := 0) (j2 := 0) tk_X2 (tg_Moor_l0 hk1) hk1.2.1 rfl (by decide) rfl fl_X2_9 dX2_hasPostsOf_15 ?_
  refine tj_iload_n (pc := 18) G 2 dX2_hasPostsOf_18 rfl rfl ?_
  refine tj_iald (pc := 19) G (k := (k1 + 1)) (i2 := w32 z2) (n2 := 8) (tg_Moor_l1 hk1) hk1.2.2.1 rfl rfl dX2_hasPostsOf_19 ?_
  refine tj_icmp_eq (pc := 20) G (tgt := 25) (a2 := w32 (M3 (t + 1) (w32 z2))) (b2 := w32 (M3 (k1 + 1) (w32 z2))) dX2_hasPostsOf_20 (by decide) rfl rfl ?_ ?_
  · refine tj_iinc (pc := 25) G 2 (fun x4 => [(2, vI x4), (0, vR X t), (1, vR X k1)]) dX2_hasPostsOf_25 rfl (by decide) (fun _ => rfl) (fun x4 => ?_)
    refine tj_goto (pc := 28) G (tgt := 2) dX2_hasPostsOf_28 (by decide) ?_
    exact tj_sub [1, 2, 0] rfl (hrec x4 M3)
  refine tj_iconst (pc := 23) G dX2_hasPostsOf_23 ?_
  exact tj_zret (pc := 24) G (by decide) dX2_hasPostsOf_24
set_option maxRecDepth 100000 in
set_option maxHeartbeats 4000000 in
theorem ok_X2_hasPostsOf (X : tp_X)  {t : Nat} {k1 : Nat} (ht : tg_Moor LC 64 t) (hk1 : tg_Moor LC 64 k1) {M : tp_M} {res : Int × tp_M} (h : fx_X2_hasPostsOf  t k1 M = some res) : tp_Ret X LC 64 1 yX2_hasPostsOf (Cond.code yX2_hasPostsOf cX2_hasPostsOf 3 (some .boolean)) 1 [vR X t, vR X k1] M res := by
  refine tp_ofW (by decide +kernel) rfl rfl (by show _ ≤ 3; exact Nat.le_of_ble_eq_true rfl) h (fun Y G => ?_)
  show tp_J X Y LC 64 3 1 1 (fx_X2_hasPostsOf  t k1 M) M [(0, vR X t), (1, vR X k1)] [] 0
  unfold fx_X2_hasPostsOf
  refine tj_iconst (pc := 0) G dX2_hasPostsOf_0 ?_
  refine tj_istore_n (pc := 1) G (fun x1 => [(2, vI x1), (0, vR X t), (1, vR X k1)]) dX2_hasPostsOf_1 rfl (by decide) (fun _ => rfl) (fun x1 => ?_)
  refine tj_sub [1, 2, 0] rfl (fx_X2_hasPostsOf_L2_ok G  ht hk1   tp_F x1 M)

def fx_X3_size   (M : tp_M) : tp_O :=
(some (M 34 1, M))
set_option maxRecDepth 100000 in
set_option maxHeartbeats 4000000 in
theorem ok_X3_size (X : tp_X)    {M : tp_M} {res : Int × tp_M} (h : fx_X3_size   M = some res) : tp_Ret X LC 64 1 yX3_size (Cond.code yX3_size cX3_size 1 (some .int)) 1 [vR X 34] M res := by
  refine tp_ofW (by decide +kernel) rfl rfl (by show _ ≤ 1; exact Nat.le_of_ble_eq_true rfl) h (fun Y G => ?_)
  show tp_J X Y LC 64 1 1 1 (fx_X3_size   M) M [(0, vR X 34)] [] 0
  unfold fx_X3_size
  refine tj_aload_n (pc := 0) G 0 dX3_size_0 rfl rfl ?_
  refine tj_getI (pc := 1) G (k := 34) (j := 1) (j2 := 1) tk_X3 (by decide) lc_34 rfl (by decide) rfl fl_X3_15 dX3_size_1 ?_
  exact tj_iret (pc := 4) G dX3_size_4

def fx_X3_forgetActs   (M : tp_M) : tp_O :=
(tp_lm (tp_up M 34 1 0) (fun M1 =>
(some (0, M1))))
set_option maxRecDepth 100000 in
set_option maxHeartbeats 4000000 in
theorem ok_X3_forgetActs (X : tp_X)    {M : tp_M} {res : Int × tp_M} (h : fx_X3_forgetActs   M = some res) : tp_Ret X LC 64 0 yX3_forgetActs (Cond.code yX3_forgetActs cX3_forgetActs 1 none) 1 [vR X 34] M res := by
  refine tp_ofW (by decide +kernel) rfl rfl (by show _ ≤ 1; exact Nat.le_of_ble_eq_true rfl) h (fun Y G => ?_)
  show tp_J X Y LC 64 1 1 0 (fx_X3_forgetActs   M) M [(0, vR X 34)] [] 0
  unfold fx_X3_forgetActs
  refine tj_aload_n (pc := 0) G 0 dX3_forgetActs_0 rfl rfl ?_
  refine tj_iconst (pc := 1) G dX3_forgetActs_1 ?_
  refine tj_putI (pc := 2) G (k := 34) (j := 1) (j2 := 1) tk_X3 (by decide) lc_34 rfl (by decide) rfl fl_X3_15 rfl rfl dX3_forgetActs_2 (fun M1 => ?_)
  exact tj_vret (pc := 5) G dX3_forgetActs_5

def fx_X3_forgetAll   (M : tp_M) : tp_O :=
(tp_lm (tp_up M 34 1 0) (fun M1 =>
(tp_lm (tp_up M1 34 3 0) (fun M2 =>
(some (0, M2))))))
set_option maxRecDepth 100000 in
set_option maxHeartbeats 4000000 in
theorem ok_X3_forgetAll (X : tp_X)    {M : tp_M} {res : Int × tp_M} (h : fx_X3_forgetAll   M = some res) : tp_Ret X LC 64 0 yX3_forgetAll (Cond.code yX3_forgetAll cX3_forgetAll 1 none) 1 [vR X 34] M res := by
  refine tp_ofW (by decide +kernel) rfl rfl (by show _ ≤ 1; exact Nat.le_of_ble_eq_true rfl) h (fun Y G => ?_)
  show tp_J X Y LC 64 1 1 0 (fx_X3_forgetAll   M) M [(0, vR X 34)] [] 0
  unfold fx_X3_forgetAll
  refine tj_aload_n (pc := 0) G 0 dX3_forgetAll_0 rfl rfl ?_
  refine tj_iconst (pc := 1) G dX3_forgetAll_1 ?_
  refine tj_putI (pc := 2) G (k := 34) (j := 1) (j2 := 1) tk_X3 (by decide) lc_34 rfl (by decide) rfl fl_X3_15 rfl rfl dX3_forgetAll_2 (fun M1 => ?_)
  refine tj_aload_n (pc := 5) G 0 dX3_forgetAll_5 rfl rfl ?_
  refine tj_iconst (pc := 6) G dX3_forgetAll_6 ?_
  refine tj_putI (pc := 7) G (k := 34) (j := 3) (j2 := 3) tk_X3 (by decide) lc_34 rfl (by decide) rfl fl_X3_19 rfl rfl dX3_forgetAll_7 (fun M2 => ?_)
  exact tj_vret (pc := 10) G dX3_forgetAll_10

def fx_X3_write  (a1 : Int) (k2 : Nat) (M : tp_M) : tp_O :=
(if w32 a1 < 0 then
(some (0, M))
else
(if w32 a1 < 18 then
(tp_lt (a1 * 18) (fun x1 =>
(tp_gd ((0 : Int) ≤ 0 ∧ (0 : Int) ≤ w32 x1 ∧ (0 : Int) ≤ 8 ∧ (0 : Int) + 8 ≤ ((8 : Nat) : Int) ∧ (w32 x1 : Int) + 8 ≤ ((324 : Nat) : Int)) inferInstance (tp_lm (tp_cp M (k2 + 1) 0 35 (w32 x1) 8) (fun M2 =>
(tp_gd ((0 : Int) ≤ 0 ∧ (0 : Int) ≤ w32 (x1 + 8) ∧ (0 : Int) ≤ 8 ∧ (0 : Int) + 8 ≤ ((8 : Nat) : Int) ∧ (w32 (x1 + 8) : Int) + 8 ≤ ((324 : Nat) : Int)) inferInstance (tp_lm (tp_cp M2 (k2 + 2) 0 35 (w32 (x1 + 8)) 8) (fun M3 =>
(tp_ck (w32 ((x1 + 18) - 2)) 324 (tp_lm (tp_up M3 35 (w32 ((x1 + 18) - 2)) (M3 k2 2)) (fun M4 =>
(tp_ck (w32 ((x1 + 18) - 1)) 324 (tp_lm (tp_up M4 35 (w32 ((x1 + 18) - 1)) (M4 k2 3)) (fun M5 =>
(some (0, M5))))))))))))))))
else
(some (0, M))))
set_option maxRecDepth 100000 in
set_option maxHeartbeats 4000000 in
theorem ok_X3_write (X : tp_X)  {a1 : Int} {k2 : Nat} (hk2 : tg_Moor LC 64 k2) {M : tp_M} {res : Int × tp_M} (h : fx_X3_write  a1 k2 M = some res) : tp_Ret X LC 64 0 yX3_write (Cond.code yX3_write cX3_write 4 none) 1 [vR X 34, vI a1, vR X k2] M res := by
  refine tp_ofW (by decide +kernel) rfl rfl (by show _ ≤ 4; exact Nat.le_of_ble_eq_true rfl) h (fun Y G => ?_)
  show tp_J X Y LC 64 4 1 0 (fx_X3_write  a1 k2 M) M [(0, vR X 34), (1, vI a1), (2, vR X k2)] [] 0
  unfold fx_X3_write
  refine tj_iload_n (pc := 0) G 1 dX3_write_0 rfl rfl ?_
  refine tj_if_lt (pc := 1) G (tgt := 10) (a2 := w32 a1) dX3_write_1 (by decide) rfl ?_ ?_
  · exact tj_vret (pc := 10) G dX3_write_10
  refine tj_iload_n (pc := 4) G 1 dX3_write_4 rfl rfl ?_
  refine tj_bipush (pc := 5) G dX3_write_5 rfl ?_
  refine tj_icmp_lt (pc := 7) G (tgt := 11) (a2 := w32 a1) (b2 := 18) dX3_write_7 (by decide) rfl rfl ?_ ?_
  · refine tj_iload_n (pc := 11) G 1 dX3_write_11 rfl rfl ?_
    refine tj_bipush (pc := 12) G dX3_write_12 rfl ?_
    refine tj_imul (pc := 14) G dX3_write_14 ?_
    refine tj_istore_n (pc := 15) G (fun x1 => [(3, vI x1), (0, vR X 34), (1, vI a1), (2, vR X k2)]) dX3_write_15 rfl (by decide) (fun _ => rfl) (fun x1 => ?_)
    refine tj_aload_n (pc := 16) G 3 dX3_write_16 rfl rfl ?_
    refine tj_getRN (pc := 17) G (k := k2) (j := 0) (j2 := 0) tk_X2 (tg_Moor_l0 hk2) hk2.2.1 rfl (by decide) rfl fn_X3_36 dX3_write_17 ?_
    refine tj_iconst (pc := 20) G dX3_write_20 ?_
    refine tj_aload_n (pc := 21) G 1 dX3_write_21 rfl rfl ?_
    refine tj_getR (pc := 22) G (k := 34) (j := 0) (j2 := 0) tk_X3 (by decide) lc_34 rfl (by decide) rfl fl_X3_11 dX3_write_22 ?_
    refine tj_iload_n (pc := 25) G 0 dX3_write_25 rfl rfl ?_
    refine tj_bipush (pc := 26) G dX3_write_26 rfl ?_
    refine tj_copy (pc := 28) G (k0 := (k2 + 1)) (k1 := 35) (sp2 := 0) (dp2 := w32 x1) (n2 := 8) (tg_Moor_l1 hk2) (by decide) hk2.2.2.1 lc_35 rfl rfl rfl ml_X3_41 mw_copy (by decide) (Nat.le_of_ble_eq_true rfl) dX3_write_28 (fun M2 => ?_)
    refine tj_aload_n (pc := 31) G 3 dX3_write_31 rfl rfl ?_
    refine tj_getRN (pc := 32) G (k := k2) (j := 1) (j2 := 1) tk_X2 (tg_Moor_l0 hk2) hk2.2.1 rfl (by decide) rfl fn_X3_47 dX3_write_32 ?_
    refine tj_iconst (pc := 35) G dX3_write_35 ?_
    refine tj_aload_n (pc := 36) G 1 dX3_write_36 rfl rfl ?_
    refine tj_getR (pc := 37) G (k := 34) (j := 0) (j2 := 0) tk_X3 (by decide) lc_34 rfl (by decide) rfl fl_X3_11 dX3_write_37 ?_
    refine tj_iload_n (pc := 40) G 0 dX3_write_40 rfl rfl ?_
    refine tj_bipush (pc := 41) G dX3_write_41 rfl ?_
    refine tj_iadd (pc := 43) G dX3_write_43 ?_
    refine tj_bipush (pc := 44) G dX3_write_44 rfl ?_
    refine tj_copy (pc := 46) G (k0 := (k2 + 2)) (k1 := 35) (sp2 := 0) (dp2 := w32 (x1 + 8)) (n2 := 8) (tg_Moor_l2 hk2) (by decide) hk2.2.2.2 lc_35 rfl rfl rfl ml_X3_41 mw_copy (by decide) (Nat.le_of_ble_eq_true rfl) dX3_write_46 (fun M3 => ?_)
    refine tj_aload_n (pc := 49) G 1 dX3_write_49 rfl rfl ?_
    refine tj_getR (pc := 50) G (k := 34) (j := 0) (j2 := 0) tk_X3 (by decide) lc_34 rfl (by decide) rfl fl_X3_11 dX3_write_50 ?_
    refine tj_iload_n (pc := 53) G 0 dX3_write_53 rfl rfl ?_
    refine tj_bipush (pc := 54) G dX3_write_54 rfl ?_
    refine tj_iadd (pc := 56) G dX3_write_56 ?_
    refine tj_iconst (pc := 57) G dX3_write_57 ?_
    refine tj_isub (pc := 58) G dX3_write_58 ?_
    refine tj_aload_n (pc := 59) G 3 dX3_write_59 rfl rfl ?_
    refine tj_getIN (pc := 60) G (k := k2) (j := 2) (j2 := 2) tk_X2 (tg_Moor_l0 hk2) hk2.2.1 rfl (by decide) rfl fn_X3_50 dX3_write_60 ?_
    refine tj_iast (pc := 63) G (k := 35) (i2 := w32 ((x1 + 18) - 2)) (n2 := 324) (by decide) lc_35 rfl rfl dX3_write_63 (fun M4 => ?_)
    refine tj_aload_n (pc := 64) G 1 dX3_write_64 rfl rfl ?_
    refine tj_getR (pc := 65) G (k := 34) (j := 0) (j2 := 0) tk_X3 (by decide) lc_34 rfl (by decide) rfl fl_X3_11 dX3_write_65 ?_
    refine tj_iload_n (pc := 68) G 0 dX3_write_68 rfl rfl ?_
    refine tj_bipush (pc := 69) G dX3_write_69 rfl ?_
    refine tj_iadd (pc := 71) G dX3_write_71 ?_
    refine tj_iconst (pc := 72) G dX3_write_72 ?_
    refine tj_isub (pc := 73) G dX3_write_73 ?_
    refine tj_aload_n (pc := 74) G 3 dX3_write_74 rfl rfl ?_
    refine tj_getIN (pc := 75) G (k := k2) (j := 3) (j2 := 3) tk_X2 (tg_Moor_l0 hk2) hk2.2.1 rfl (by decide) rfl fn_X3_53 dX3_write_75 ?_
    refine tj_iast (pc := 78) G (k := 35) (i2 := w32 ((x1 + 18) - 1)) (n2 := 324) (by decide) lc_35 rfl rfl dX3_write_78 (fun M5 => ?_)
    exact tj_vret (pc := 79) G dX3_write_79
  exact tj_vret (pc := 10) G dX3_write_10

def fx_X3_push  (k1 : Nat) (M : tp_M) : tp_O :=
(tp_bd (fx_X3_write (M 34 2) k1 M) (fun r1 M2 =>
(tp_nz 15 (tp_lm (tp_up M2 34 2 (x_rem ((M2 34 2) + 1) 15)) (fun M3 =>
(if w32 (M3 34 1) < 15 then
(tp_lm (tp_up M3 34 1 ((M3 34 1) + 1)) (fun M4 =>
(some (0, M4))))
else
(some (0, M3))))))))
set_option maxRecDepth 100000 in
set_option maxHeartbeats 4000000 in
theorem ok_X3_push (X : tp_X)  {k1 : Nat} (hk1 : tg_Moor LC 64 k1) {M : tp_M} {res : Int × tp_M} (h : fx_X3_push  k1 M = some res) : tp_Ret X LC 64 0 yX3_push (Cond.code yX3_push cX3_push 2 none) 2 [vR X 34, vR X k1] M res := by
  refine tp_ofW (by decide +kernel) rfl rfl (by show _ ≤ 2; exact Nat.le_of_ble_eq_true rfl) h (fun Y G => ?_)
  show tp_J X Y LC 64 2 2 0 (fx_X3_push  k1 M) M [(0, vR X 34), (1, vR X k1)] [] 0
  unfold fx_X3_push
  refine tj_aload_n (pc := 0) G 0 dX3_push_0 rfl rfl ?_
  refine tj_aload_n (pc := 1) G 0 dX3_push_1 rfl rfl ?_
  refine tj_getI (pc := 2) G (k := 34) (j := 2) (j2 := 2) tk_X3 (by decide) lc_34 rfl (by decide) rfl fl_X3_22 dX3_push_2 ?_
  refine tj_aload_n (pc := 5) G 1 dX3_push_5 rfl rfl ?_
  refine tj_callVv (pc := 6) G [vI (M 34 2), vR X k1] mf_X3_write (k := 34) (by decide) lc_34 rfl rfl ml_X3_25 (by decide) rfl rfl (Nat.le_of_ble_eq_true rfl) (fun _ h9 => ok_X3_write X hk1 h9) dX3_push_6 (fun r1 M2 => ?_)
  refine tj_aload_n (pc := 9) G 0 dX3_push_9 rfl rfl ?_
  refine tj_aload_n (pc := 10) G 0 dX3_push_10 rfl rfl ?_
  refine tj_getI (pc := 11) G (k := 34) (j := 2) (j2 := 2) tk_X3 (by decide) lc_34 rfl (by decide) rfl fl_X3_22 dX3_push_11 ?_
  refine tj_iconst (pc := 14) G dX3_push_14 ?_
  refine tj_iadd (pc := 15) G dX3_push_15 ?_
  refine tj_bipush (pc := 16) G dX3_push_16 rfl ?_
  refine tj_irem (pc := 18) G (b2 := 15) dX3_push_18 rfl ?_
  refine tj_putI (pc := 19) G (k := 34) (j := 2) (j2 := 2) tk_X3 (by decide) lc_34 rfl (by decide) rfl fl_X3_22 rfl rfl dX3_push_19 (fun M3 => ?_)
  refine tj_aload_n (pc := 22) G 0 dX3_push_22 rfl rfl ?_
  refine tj_getI (pc := 23) G (k := 34) (j := 1) (j2 := 1) tk_X3 (by decide) lc_34 rfl (by decide) rfl fl_X3_15 dX3_push_23 ?_
  refine tj_bipush (pc := 26) G dX3_push_26 rfl ?_
  refine tj_icmp_ge (pc := 28) G (tgt := 41) (a2 := w32 (M3 34 1)) (b2 := 15) dX3_push_28 (by decide) rfl rfl ?_ ?_
  · exact tj_vret (pc := 41) G dX3_push_41
  refine tj_aload_n (pc := 31) G 0 dX3_push_31 rfl rfl ?_
  refine tj_dup (pc := 32) G dX3_push_32 rfl ?_
  refine tj_getI (pc := 33) G (k := 34) (j := 1) (j2 := 1) tk_X3 (by decide) lc_34 rfl (by decide) rfl fl_X3_15 dX3_push_33 ?_
  refine tj_iconst (pc := 36) G dX3_push_36 ?_
  refine tj_iadd (pc := 37) G dX3_push_37 ?_
  refine tj_putI (pc := 38) G (k := 34) (j := 1) (j2 := 1) tk_X3 (by decide) lc_34 rfl (by decide) rfl fl_X3_15 rfl rfl dX3_push_38 (fun M4 => ?_)
  exact tj_vret (pc := 41) G dX3_push_41

def fx_X3_read  (a1 : Int) (k2 : Nat) (M : tp_M) : tp_O :=
(if w32 a1 < 0 then
(some (0, M))
else
(if w32 a1 < 18 then
(tp_lt (a1 * 18) (fun x1 =>
(tp_gd ((0 : Int) ≤ w32 x1 ∧ (0 : Int) ≤ 0 ∧ (0 : Int) ≤ 8 ∧ (w32 x1 : Int) + 8 ≤ ((324 : Nat) : Int) ∧ (0 : Int) + 8 ≤ ((8 : Nat) : Int)) inferInstance (tp_lm (tp_cp M 35 (w32 x1) (k2 + 1) 0 8) (fun M2 =>
(tp_gd ((0 : Int) ≤ w32 (x1 + 8) ∧ (0 : Int) ≤ 0 ∧ (0 : Int) ≤ 8 ∧ (w32 (x1 + 8) : Int) + 8 ≤ ((324 : Nat) : Int) ∧ (0 : Int) + 8 ≤ ((8 : Nat) : Int)) inferInstance (tp_lm (tp_cp M2 35 (w32 (x1 + 8)) (k2 + 2) 0 8) (fun M3 =>
(tp_ck (w32 ((x1 + 18) - 2)) 324 (tp_lm (tp_up M3 k2 2 (M3 35 (w32 ((x1 + 18) - 2)))) (fun M4 =>
(tp_ck (w32 ((x1 + 18) - 1)) 324 (tp_lm (tp_up M4 k2 3 (M4 35 (w32 ((x1 + 18) - 1)))) (fun M5 =>
(some (0, M5))))))))))))))))
else
(some (0, M))))
set_option maxRecDepth 100000 in
set_option maxHeartbeats 4000000 in
theorem ok_X3_read (X : tp_X)  {a1 : Int} {k2 : Nat} (hk2 : tg_Moor LC 64 k2) {M : tp_M} {res : Int × tp_M} (h : fx_X3_read  a1 k2 M = some res) : tp_Ret X LC 64 0 yX3_read (Cond.code yX3_read cX3_read 4 none) 1 [vR X 34, vI a1, vR X k2] M res := by
  refine tp_ofW (by decide +kernel) rfl rfl (by show _ ≤ 4; exact Nat.le_of_ble_eq_true rfl) h (fun Y G => ?_)
  show tp_J X Y LC 64 4 1 0 (fx_X3_read  a1 k2 M) M [(0, vR X 34), (1, vI a1), (2, vR X k2)] [] 0
  unfold fx_X3_read
  refine tj_iload_n (pc := 0) G 1 dX3_read_0 rfl rfl ?_
  refine tj_if_lt (pc := 1) G (tgt := 10) (a2 := w32 a1) dX3_read_1 (by decide) rfl ?_ ?_
  · exact tj_vret (pc := 10) G dX3_read_10
  refine tj_iload_n (pc := 4) G 1 dX3_read_4 rfl rfl ?_
  refine tj_bipush (pc := 5) G dX3_read_5 rfl ?_
  refine tj_icmp_lt (pc := 7) G (tgt := 11) (a2 := w32 a1) (b2 := 18) dX3_read_7 (by decide) rfl rfl ?_ ?_
  · refine tj_iload_n (pc := 11) G 1 dX3_read_11 rfl rfl ?_
    refine tj_bipush (pc := 12) G dX3_read_12 rfl ?_
    refine tj_imul (pc := 14) G dX3_read_14 ?_
    refine tj_istore_n (pc := 15) G (fun x1 => [(3, vI x1), (0, vR X 34), (1, vI a1), (2, vR X k2)]) dX3_read_15 rfl (by decide) (fun _ => rfl) (fun x1 => ?_)
    refine tj_aload_n (pc := 16) G 1 dX3_read_16 rfl rfl ?_
    refine tj_getR (pc := 17) G (k := 34) (j := 0) (j2 := 0) tk_X3 (by decide) lc_34 rfl (by decide) rfl fl_X3_11 dX3_read_17 ?_
    refine tj_iload_n (pc := 20) G 0 dX3_read_20 rfl rfl ?_
    refine tj_aload_n (pc := 21) G 3 dX3_read_21 rfl rfl ?_
    refine tj_getRN (pc := 22) G (k := k2) (j := 0) (j2 := 0) tk_X2 (tg_Moor_l0 hk2) hk2.2.1 rfl (by decide) rfl fn_X3_36 dX3_read_22 ?_
    refine tj_iconst (pc := 25) G dX3_read_25 ?_
    refine tj_bipush (pc := 26) G dX3_read_26 rfl ?_
    refine tj_copy (pc := 28) G (k0 := 35) (k1 := (k2 + 1)) (sp2 := w32 x1) (dp2 := 0) (n2 := 8) (by decide) (tg_Moor_l1 hk2) lc_35 hk2.2.2.1 rfl rfl rfl ml_X3_41 mw_copy (by decide) (Nat.le_of_ble_eq_true rfl) dX3_read_28 (fun M2 => ?_)
    refine tj_aload_n (pc := 31) G 1 dX3_read_31 rfl rfl ?_
    refine tj_getR (pc := 32) G (k := 34) (j := 0) (j2 := 0) tk_X3 (by decide) lc_34 rfl (by decide) rfl fl_X3_11 dX3_read_32 ?_
    refine tj_iload_n (pc := 35) G 0 dX3_read_35 rfl rfl ?_
    refine tj_bipush (pc := 36) G dX3_read_36 rfl ?_
    refine tj_iadd (pc := 38) G dX3_read_38 ?_
    refine tj_aload_n (pc := 39) G 3 dX3_read_39 rfl rfl ?_
    refine tj_getRN (pc := 40) G (k := k2) (j := 1) (j2 := 1) tk_X2 (tg_Moor_l0 hk2) hk2.2.1 rfl (by decide) rfl fn_X3_47 dX3_read_40 ?_
    refine tj_iconst (pc := 43) G dX3_read_43 ?_
    refine tj_bipush (pc := 44) G dX3_read_44 rfl ?_
    refine tj_copy (pc := 46) G (k0 := 35) (k1 := (k2 + 2)) (sp2 := w32 (x1 + 8)) (dp2 := 0) (n2 := 8) (by decide) (tg_Moor_l2 hk2) lc_35 hk2.2.2.2 rfl rfl rfl ml_X3_41 mw_copy (by decide) (Nat.le_of_ble_eq_true rfl) dX3_read_46 (fun M3 => ?_)
    refine tj_aload_n (pc := 49) G 3 dX3_read_49 rfl rfl ?_
    refine tj_aload_n (pc := 50) G 1 dX3_read_50 rfl rfl ?_
    refine tj_getR (pc := 51) G (k := 34) (j := 0) (j2 := 0) tk_X3 (by decide) lc_34 rfl (by decide) rfl fl_X3_11 dX3_read_51 ?_
    refine tj_iload_n (pc := 54) G 0 dX3_read_54 rfl rfl ?_
    refine tj_bipush (pc := 55) G dX3_read_55 rfl ?_
    refine tj_iadd (pc := 57) G dX3_read_57 ?_
    refine tj_iconst (pc := 58) G dX3_read_58 ?_
    refine tj_isub (pc := 59) G dX3_read_59 ?_
    refine tj_iald (pc := 60) G (k := 35) (i2 := w32 ((x1 + 18) - 2)) (n2 := 324) (by decide) lc_35 rfl rfl dX3_read_60 ?_
    refine tj_putIN (pc := 61) G (k := k2) (j := 2) (j2 := 2) tk_X2 (tg_Moor_l0 hk2) hk2.2.1 rfl (by decide) rfl fn_X3_50 rfl rfl dX3_read_61 (fun M4 => ?_)
    refine tj_aload_n (pc := 64) G 3 dX3_read_64 rfl rfl ?_
    refine tj_aload_n (pc := 65) G 1 dX3_read_65 rfl rfl ?_
    refine tj_getR (pc := 66) G (k := 34) (j := 0) (j2 := 0) tk_X3 (by decide) lc_34 rfl (by decide) rfl fl_X3_11 dX3_read_66 ?_
    refine tj_iload_n (pc := 69) G 0 dX3_read_69 rfl rfl ?_
    refine tj_bipush (pc := 70) G dX3_read_70 rfl ?_
    refine tj_iadd (pc := 72) G dX3_read_72 ?_
    refine tj_iconst (pc := 73) G dX3_read_73 ?_
    refine tj_isub (pc := 74) G dX3_read_74 ?_
    refine tj_iald (pc := 75) G (k := 35) (i2 := w32 ((x1 + 18) - 1)) (n2 := 324) (by decide) lc_35 rfl rfl dX3_read_75 ?_
    refine tj_putIN (pc := 76) G (k := k2) (j := 3) (j2 := 3) tk_X2 (tg_Moor_l0 hk2) hk2.2.1 rfl (by decide) rfl fn_X3_53 rfl rfl dX3_read_76 (fun M5 => ?_)
    exact tj_vret (pc := 79) G dX3_read_79
  exact tj_vret (pc := 10) G dX3_read_10

def fx_X3_takeBack  (k1 : Nat) (M : tp_M) : tp_O :=
(if w32 (M 34 1) < 1 then
(some (0, M))
else
(tp_lm (tp_up M 34 1 ((M 34 1) - 1)) (fun M1 =>
(tp_nz 15 (tp_lm (tp_up M1 34 2 (x_rem (((M1 34 2) + 15) - 1) 15)) (fun M2 =>
(tp_bd (fx_X3_read (M2 34 2) k1 M2) (fun r3 M4 =>
(some (1, M4))))))))))
set_option maxRecDepth 100000 in
set_option maxHeartbeats 4000000 in
theorem ok_X3_takeBack (X : tp_X)  {k1 : Nat} (hk1 : tg_Moor LC 64 k1) {M : tp_M} {res : Int × tp_M} (h : fx_X3_takeBack  k1 M = some res) : tp_Ret X LC 64 1 yX3_takeBack (Cond.code yX3_takeBack cX3_takeBack 2 (some .boolean)) 2 [vR X 34, vR X k1] M res := by
  refine tp_ofW (by decide +kernel) rfl rfl (by show _ ≤ 2; exact Nat.le_of_ble_eq_true rfl) h (fun Y G => ?_)
  show tp_J X Y LC 64 2 2 1 (fx_X3_takeBack  k1 M) M [(0, vR X 34), (1, vR X k1)] [] 0
  unfold fx_X3_takeBack
  refine tj_aload_n (pc := 0) G 0 dX3_takeBack_0 rfl rfl ?_
  refine tj_getI (pc := 1) G (k := 34) (j := 1) (j2 := 1) tk_X3 (by decide) lc_34 rfl (by decide) rfl fl_X3_15 dX3_takeBack_1 ?_
  refine tj_iconst (pc := 4) G dX3_takeBack_4 ?_
  refine tj_icmp_ge (pc := 5) G (tgt := 10) (a2 := w32 (M 34 1)) (b2 := 1) dX3_takeBack_5 (by decide) rfl rfl ?_ ?_
  · refine tj_aload_n (pc := 10) G 0 dX3_takeBack_10 rfl rfl ?_
    refine tj_dup (pc := 11) G dX3_takeBack_11 rfl ?_
    refine tj_getI (pc := 12) G (k := 34) (j := 1) (j2 := 1) tk_X3 (by decide) lc_34 rfl (by decide) rfl fl_X3_15 dX3_takeBack_12 ?_
    refine tj_iconst (pc := 15) G dX3_takeBack_15 ?_
    refine tj_isub (pc := 16) G dX3_takeBack_16 ?_
    refine tj_putI (pc := 17) G (k := 34) (j := 1) (j2 := 1) tk_X3 (by decide) lc_34 rfl (by decide) rfl fl_X3_15 rfl rfl dX3_takeBack_17 (fun M1 => ?_)
    refine tj_aload_n (pc := 20) G 0 dX3_takeBack_20 rfl rfl ?_
    refine tj_aload_n (pc := 21) G 0 dX3_takeBack_21 rfl rfl ?_
    refine tj_getI (pc := 22) G (k := 34) (j := 2) (j2 := 2) tk_X3 (by decide) lc_34 rfl (by decide) rfl fl_X3_22 dX3_takeBack_22 ?_
    refine tj_bipush (pc := 25) G dX3_takeBack_25 rfl ?_
    refine tj_iadd (pc := 27) G dX3_takeBack_27 ?_
    refine tj_iconst (pc := 28) G dX3_takeBack_28 ?_
    refine tj_isub (pc := 29) G dX3_takeBack_29 ?_
    refine tj_bipush (pc := 30) G dX3_takeBack_30 rfl ?_
    refine tj_irem (pc := 32) G (b2 := 15) dX3_takeBack_32 rfl ?_
    refine tj_putI (pc := 33) G (k := 34) (j := 2) (j2 := 2) tk_X3 (by decide) lc_34 rfl (by decide) rfl fl_X3_22 rfl rfl dX3_takeBack_33 (fun M2 => ?_)
    refine tj_aload_n (pc := 36) G 0 dX3_takeBack_36 rfl rfl ?_
    refine tj_aload_n (pc := 37) G 0 dX3_takeBack_37 rfl rfl ?_
    refine tj_getI (pc := 38) G (k := 34) (j := 2) (j2 := 2) tk_X3 (by decide) lc_34 rfl (by decide) rfl fl_X3_22 dX3_takeBack_38 ?_
    refine tj_aload_n (pc := 41) G 1 dX3_takeBack_41 rfl rfl ?_
    refine tj_callVv (pc := 42) G [vI (M2 34 2), vR X k1] mf_X3_read (k := 34) (by decide) lc_34 rfl rfl ml_X3_29 (by decide) rfl rfl (Nat.le_of_ble_eq_true rfl) (fun _ h9 => ok_X3_read X hk1 h9) dX3_takeBack_42 (fun r3 M4 => ?_)
    refine tj_iconst (pc := 45) G dX3_takeBack_45 ?_
    exact tj_zret (pc := 46) G (by decide) dX3_takeBack_46
  refine tj_iconst (pc := 8) G dX3_takeBack_8 ?_
  exact tj_zret (pc := 9) G (by decide) dX3_takeBack_9

def fx_X3_isNumber  (a1 : Int) (M : tp_M) : tp_O :=
(if w32 a1 < 0 then
(some (0, M))
else
(if w32 a1 < 3 then
(some (1, M))
else
(some (0, M))))
set_option maxRecDepth 100000 in
set_option maxHeartbeats 4000000 in
theorem ok_X3_isNumber (X : tp_X)  {a1 : Int}  {M : tp_M} {res : Int × tp_M} (h : fx_X3_isNumber  a1 M = some res) : tp_Ret X LC 64 1 yX3_isNumber (Cond.code yX3_isNumber cX3_isNumber 2 (some .boolean)) 1 [vR X 34, vI a1] M res := by
  refine tp_ofW (by decide +kernel) rfl rfl (by show _ ≤ 2; exact Nat.le_of_ble_eq_true rfl) h (fun Y G => ?_)
  show tp_J X Y LC 64 2 1 1 (fx_X3_isNumber  a1 M) M [(0, vR X 34), (1, vI a1)] [] 0
  unfold fx_X3_isNumber
  refine tj_iload_n (pc := 0) G 1 dX3_isNumber_0 rfl rfl ?_
  refine tj_if_lt (pc := 1) G (tgt := 13) (a2 := w32 a1) dX3_isNumber_1 (by decide) rfl ?_ ?_
  · refine tj_iconst (pc := 13) G dX3_isNumber_13 ?_
    exact tj_zret (pc := 14) G (by decide) dX3_isNumber_14
  refine tj_iload_n (pc := 4) G 1 dX3_isNumber_4 rfl rfl ?_
  refine tj_iconst (pc := 5) G dX3_isNumber_5 ?_
  refine tj_icmp_ge (pc := 6) G (tgt := 13) (a2 := w32 a1) (b2 := 3) dX3_isNumber_6 (by decide) rfl rfl ?_ ?_
  · refine tj_iconst (pc := 13) G dX3_isNumber_13 ?_
    exact tj_zret (pc := 14) G (by decide) dX3_isNumber_14
  refine tj_iconst (pc := 9) G dX3_isNumber_9 ?_
  refine tj_goto (pc := 10) G (tgt := 14) dX3_isNumber_10 (by decide) ?_
  exact tj_zret (pc := 14) G (by decide) dX3_isNumber_14

def fx_X3_store  (a1 : Int) (k2 : Nat) (M : tp_M) : tp_O :=
(tp_bd (fx_X3_isNumber a1 M) (fun r1 M2 =>
(if w32 r1 = 0 then
(some (0, M2))
else
(tp_bd (fx_X3_write (15 + a1) k2 M2) (fun r3 M4 =>
(tp_lm (tp_up M4 34 3 (x_or (M4 34 3) (x_shl 1 a1))) (fun M5 =>
(some (0, M5)))))))))
set_option maxRecDepth 100000 in
set_option maxHeartbeats 4000000 in
theorem ok_X3_store (X : tp_X)  {a1 : Int} {k2 : Nat} (hk2 : tg_Moor LC 64 k2) {M : tp_M} {res : Int × tp_M} (h : fx_X3_store  a1 k2 M = some res) : tp_Ret X LC 64 0 yX3_store (Cond.code yX3_store cX3_store 3 none) 2 [vR X 34, vI a1, vR X k2] M res := by
  refine tp_ofW (by decide +kernel) rfl rfl (by show _ ≤ 3; exact Nat.le_of_ble_eq_true rfl) h (fun Y G => ?_)
  show tp_J X Y LC 64 3 2 0 (fx_X3_store  a1 k2 M) M [(0, vR X 34), (1, vI a1), (2, vR X k2)] [] 0
  unfold fx_X3_store
  refine tj_aload_n (pc := 0) G 0 dX3_store_0 rfl rfl ?_
  refine tj_iload_n (pc := 1) G 1 dX3_store_1 rfl rfl ?_
  refine tj_callVi (pc := 2) G [vI a1] mf_X3_isNumber (k := 34) (by decide) lc_34 rfl rfl ml_X3_32 (by decide) rfl rfl (Nat.le_of_ble_eq_true rfl) (fun _ h9 => ok_X3_isNumber X  h9) dX3_store_2 (fun r1 M2 => ?_)
  refine tj_if_ne (pc := 5) G (tgt := 9) (a2 := w32 r1) dX3_store_5 (by decide) rfl ?_ ?_
  · refine tj_aload_n (pc := 9) G 0 dX3_store_9 rfl rfl ?_
    refine tj_bipush (pc := 10) G dX3_store_10 rfl ?_
    refine tj_iload_n (pc := 12) G 1 dX3_store_12 rfl rfl ?_
    refine tj_iadd (pc := 13) G dX3_store_13 ?_
    refine tj_aload_n (pc := 14) G 2 dX3_store_14 rfl rfl ?_
    refine tj_callVv (pc := 15) G [vI (15 + a1), vR X k2] mf_X3_write (k := 34) (by decide) lc_34 rfl rfl ml_X3_25 (by decide) rfl rfl (Nat.le_of_ble_eq_true rfl) (fun _ h9 => ok_X3_write X hk2 h9) dX3_store_15 (fun r3 M4 => ?_)
    refine tj_aload_n (pc := 18) G 0 dX3_store_18 rfl rfl ?_
    refine tj_dup (pc := 19) G dX3_store_19 rfl ?_
    refine tj_getI (pc := 20) G (k := 34) (j := 3) (j2 := 3) tk_X3 (by decide) lc_34 rfl (by decide) rfl fl_X3_19 dX3_store_20 ?_
    refine tj_iconst (pc := 23) G dX3_store_23 ?_
    refine tj_iload_n (pc := 24) G 1 dX3_store_24 rfl rfl ?_
    refine tj_ishl (pc := 25) G dX3_store_25 ?_
    refine tj_ior (pc := 26) G dX3_store_26 ?_
    refine tj_putI (pc := 27) G (k := 34) (j := 3) (j2 := 3) tk_X3 (by decide) lc_34 rfl (by decide) rfl fl_X3_19 rfl rfl dX3_store_27 (fun M5 => ?_)
    exact tj_vret (pc := 30) G dX3_store_30
  exact tj_vret (pc := 8) G dX3_store_8

def fx_X3_bring  (a1 : Int) (k2 : Nat) (M : tp_M) : tp_O :=
(tp_bd (fx_X3_isNumber a1 M) (fun r1 M2 =>
(if w32 r1 = 0 then
(some (0, M2))
else
(if w32 (x_and (x_shr (M2 34 3) a1) 1) = 0 then
(some (0, M2))
else
(tp_bd (fx_X3_read (15 + a1) k2 M2) (fun r3 M4 =>
(some (1, M4))))))))
set_option maxRecDepth 100000 in
set_option maxHeartbeats 4000000 in
theorem ok_X3_bring (X : tp_X)  {a1 : Int} {k2 : Nat} (hk2 : tg_Moor LC 64 k2) {M : tp_M} {res : Int × tp_M} (h : fx_X3_bring  a1 k2 M = some res) : tp_Ret X LC 64 1 yX3_bring (Cond.code yX3_bring cX3_bring 3 (some .boolean)) 2 [vR X 34, vI a1, vR X k2] M res := by
  refine tp_ofW (by decide +kernel) rfl rfl (by show _ ≤ 3; exact Nat.le_of_ble_eq_true rfl) h (fun Y G => ?_)
  show tp_J X Y LC 64 3 2 1 (fx_X3_bring  a1 k2 M) M [(0, vR X 34), (1, vI a1), (2, vR X k2)] [] 0
  unfold fx_X3_bring
  refine tj_aload_n (pc := 0) G 0 dX3_bring_0 rfl rfl ?_
  refine tj_iload_n (pc := 1) G 1 dX3_bring_1 rfl rfl ?_
  refine tj_callVi (pc := 2) G [vI a1] mf_X3_isNumber (k := 34) (by decide) lc_34 rfl rfl ml_X3_32 (by decide) rfl rfl (Nat.le_of_ble_eq_true rfl) (fun _ h9 => ok_X3_isNumber X  h9) dX3_bring_2 (fun r1 M2 => ?_)
  refine tj_if_eq (pc := 5) G (tgt := 19) (a2 := w32 r1) dX3_bring_5 (by decide) rfl ?_ ?_
  · refine tj_iconst (pc := 19) G dX3_bring_19 ?_
    exact tj_zret (pc := 20) G (by decide) dX3_bring_20
  refine tj_aload_n (pc := 8) G 0 dX3_bring_8 rfl rfl ?_
  refine tj_getI (pc := 9) G (k := 34) (j := 3) (j2 := 3) tk_X3 (by decide) lc_34 rfl (by decide) rfl fl_X3_19 dX3_bring_9 ?_
  refine tj_iload_n (pc := 12) G 1 dX3_bring_12 rfl rfl ?_
  refine tj_ishr (pc := 13) G dX3_bring_13 ?_
  refine tj_iconst (pc := 14) G dX3_bring_14 ?_
  refine tj_iand (pc := 15) G dX3_bring_15 ?_
  refine tj_if_ne (pc := 16) G (tgt := 21) (a2 := w32 (x_and (x_shr (M2 34 3) a1) 1)) dX3_bring_16 (by decide) rfl ?_ ?_
  · refine tj_aload_n (pc := 21) G 0 dX3_bring_21 rfl rfl ?_
    refine tj_bipush (pc := 22) G dX3_bring_22 rfl ?_
    refine tj_iload_n (pc := 24) G 1 dX3_bring_24 rfl rfl ?_
    refine tj_iadd (pc := 25) G dX3_bring_25 ?_
    refine tj_aload_n (pc := 26) G 2 dX3_bring_26 rfl rfl ?_
    refine tj_callVv (pc := 27) G [vI (15 + a1), vR X k2] mf_X3_read (k := 34) (by decide) lc_34 rfl rfl ml_X3_29 (by decide) rfl rfl (Nat.le_of_ble_eq_true rfl) (fun _ h9 => ok_X3_read X hk2 h9) dX3_bring_27 (fun r3 M4 => ?_)
    refine tj_iconst (pc := 30) G dX3_bring_30 ?_
    exact tj_zret (pc := 31) G (by decide) dX3_bring_31
  refine tj_iconst (pc := 19) G dX3_bring_19 ?_
  exact tj_zret (pc := 20) G (by decide) dX3_bring_20

def fx_X4_addWay  (t : Nat) (a1 : Int) (a2 : Int) (M : tp_M) : tp_O :=
(if w32 a1 < 1 then
(some (0, M))
else
(if w32 a1 < 8 then
(if w32 a1 = w32 a2 then
(some (0, M))
else
(tp_ck (w32 a1) 8 (if w32 (M (t + 1) (w32 a1)) < 4 then
(tp_ck (w32 a1) 8 (tp_ck (w32 ((a1 * 4) + (M (t + 1) (w32 a1)))) 32 (tp_lm (tp_up M (t + 2) (w32 ((a1 * 4) + (M (t + 1) (w32 a1)))) a2) (fun M1 =>
(tp_ck (w32 a1) 8 (tp_ck (w32 a1) 8 (tp_lm (tp_up M1 (t + 1) (w32 a1) ((M1 (t + 1) (w32 a1)) + 1)) (fun M2 =>
(tp_ck (w32 a1) 8 (tp_ck (w32 a1) 8 (tp_lm (tp_up M2 (t + 3) (w32 a1) (x_or (M2 (t + 3) (w32 a1)) (x_shl 1 a2))) (fun M3 =>
(tp_lm (tp_up M3 t 5 ((M3 t 5) + 1)) (fun M4 =>
(some (1, M4))))))))))))))))
else
(some (0, M)))))
else
(some (0, M))))
set_option maxRecDepth 100000 in
set_option maxHeartbeats 4000000 in
theorem ok_X4_addWay (X : tp_X)  {t : Nat} {a1 : Int} {a2 : Int} (ht : tg_Paths LC 64 t) {M : tp_M} {res : Int × tp_M} (h : fx_X4_addWay  t a1 a2 M = some res) : tp_Ret X LC 64 1 yX4_addWay (Cond.code yX4_addWay cX4_addWay 3 (some .boolean)) 1 [vR X t, vI a1, vI a2] M res := by
  refine tp_ofW (by decide +kernel) rfl rfl (by show _ ≤ 3; exact Nat.le_of_ble_eq_true rfl) h (fun Y G => ?_)
  show tp_J X Y LC 64 3 1 1 (fx_X4_addWay  t a1 a2 M) M [(0, vR X t), (1, vI a1), (2, vI a2)] [] 0
  unfold fx_X4_addWay
  refine tj_iload_n (pc := 0) G 1 dX4_addWay_0 rfl rfl ?_
  refine tj_iconst (pc := 1) G dX4_addWay_1 ?_
  refine tj_icmp_lt (pc := 2) G (tgt := 26) (a2 := w32 a1) (b2 := 1) dX4_addWay_2 (by decide) rfl rfl ?_ ?_
  · refine tj_iconst (pc := 26) G dX4_addWay_26 ?_
    exact tj_zret (pc := 27) G (by decide) dX4_addWay_27
  refine tj_iload_n (pc := 5) G 1 dX4_addWay_5 rfl rfl ?_
  refine tj_bipush (pc := 6) G dX4_addWay_6 rfl ?_
  refine tj_icmp_ge (pc := 8) G (tgt := 26) (a2 := w32 a1) (b2 := 8) dX4_addWay_8 (by decide) rfl rfl ?_ ?_
  · refine tj_iconst (pc := 26) G dX4_addWay_26 ?_
    exact tj_zret (pc := 27) G (by decide) dX4_addWay_27
  refine tj_iload_n (pc := 11) G 1 dX4_addWay_11 rfl rfl ?_
  refine tj_iload_n (pc := 12) G 2 dX4_addWay_12 rfl rfl ?_
  refine tj_icmp_eq (pc := 13) G (tgt := 26) (a2 := w32 a1) (b2 := w32 a2) dX4_addWay_13 (by decide) rfl rfl ?_ ?_
  · refine tj_iconst (pc := 26) G dX4_addWay_26 ?_
    exact tj_zret (pc := 27) G (by decide) dX4_addWay_27
  refine tj_aload_n (pc := 16) G 0 dX4_addWay_16 rfl rfl ?_
  refine tj_getR (pc := 17) G (k := t) (j := 0) (j2 := 0) tk_X4 (tg_Paths_l0 ht) ht.2.1 rfl (by decide) rfl fl_X4_9 dX4_addWay_17 ?_
  refine tj_iload_n (pc := 20) G 1 dX4_addWay_20 rfl rfl ?_
  refine tj_iald (pc := 21) G (k := (t + 1)) (i2 := w32 a1) (n2 := 8) (tg_Paths_l1 ht) ht.2.2.1 rfl rfl dX4_addWay_21 ?_
  refine tj_iconst (pc := 22) G dX4_addWay_22 ?_
  refine tj_icmp_lt (pc := 23) G (tgt := 28) (a2 := w32 (M (t + 1) (w32 a1))) (b2 := 4) dX4_addWay_23 (by decide) rfl rfl ?_ ?_
  · refine tj_aload_n (pc := 28) G 0 dX4_addWay_28 rfl rfl ?_
    refine tj_getR (pc := 29) G (k := t) (j := 1) (j2 := 1) tk_X4 (tg_Paths_l0 ht) ht.2.1 rfl (by decide) rfl fl_X4_15 dX4_addWay_29 ?_
    refine tj_iload_n (pc := 32) G 1 dX4_addWay_32 rfl rfl ?_
    refine tj_iconst (pc := 33) G dX4_addWay_33 ?_
    refine tj_imul (pc := 34) G dX4_addWay_34 ?_
    refine tj_aload_n (pc := 35) G 0 dX4_addWay_35 rfl rfl ?_
    refine tj_getR (pc := 36) G (k := t) (j := 0) (j2 := 0) tk_X4 (tg_Paths_l0 ht) ht.2.1 rfl (by decide) rfl fl_X4_9 dX4_addWay_36 ?_
    refine tj_iload_n (pc := 39) G 1 dX4_addWay_39 rfl rfl ?_
    refine tj_iald (pc := 40) G (k := (t + 1)) (i2 := w32 a1) (n2 := 8) (tg_Paths_l1 ht) ht.2.2.1 rfl rfl dX4_addWay_40 ?_
    refine tj_iadd (pc := 41) G dX4_addWay_41 ?_
    refine tj_iload_n (pc := 42) G 2 dX4_addWay_42 rfl rfl ?_
    refine tj_iast (pc := 43) G (k := (t + 2)) (i2 := w32 ((a1 * 4) + (M (t + 1) (w32 a1)))) (n2 := 32) (tg_Paths_l2 ht) ht.2.2.2.1 rfl rfl dX4_addWay_43 (fun M1 => ?_)
    refine tj_aload_n (pc := 44) G 0 dX4_addWay_44 rfl rfl ?_
    refine tj_getR (pc := 45) G (k := t) (j := 0) (j2 := 0) tk_X4 (tg_Paths_l0 ht) ht.2.1 rfl (by decide) rfl fl_X4_9 dX4_addWay_45 ?_
    refine tj_iload_n (pc := 48) G 1 dX4_addWay_48 rfl rfl ?_
    refine tj_dup2 (pc := 49) G dX4_addWay_49 rfl rfl ?_
    refine tj_iald (pc := 50) G (k := (t + 1)) (i2 := w32 a1) (n2 := 8) (tg_Paths_l1 ht) ht.2.2.1 rfl rfl dX4_addWay_50 ?_
    refine tj_iconst (pc := 51) G dX4_addWay_51 ?_
    refine tj_iadd (pc := 52) G dX4_addWay_52 ?_
    refine tj_iast (pc := 53) G (k := (t + 1)) (i2 := w32 a1) (n2 := 8) (tg_Paths_l1 ht) ht.2.2.1 rfl rfl dX4_addWay_53 (fun M2 => ?_)
    refine tj_aload_n (pc := 54) G 0 dX4_addWay_54 rfl rfl ?_
    refine tj_getR (pc := 55) G (k := t) (j := 2) (j2 := 2) tk_X4 (tg_Paths_l0 ht) ht.2.1 rfl (by decide) rfl fl_X4_18 dX4_addWay_55 ?_
    refine tj_iload_n (pc := 58) G 1 dX4_addWay_58 rfl rfl ?_
    refine tj_dup2 (pc := 59) G dX4_addWay_59 rfl rfl ?_
    refine tj_iald (pc := 60) G (k := (t + 3)) (i2 := w32 a1) (n2 := 8) (tg_Paths_l3 ht) ht.2.2.2.2.1 rfl rfl dX4_addWay_60 ?_
    refine tj_iconst (pc := 61) G dX4_addWay_61 ?_
    refine tj_iload_n (pc := 62) G 2 dX4_addWay_62 rfl rfl ?_
    refine tj_ishl (pc := 63) G dX4_addWay_63 ?_
    refine tj_ior (pc := 64) G dX4_addWay_64 ?_
    refine tj_iast (pc := 65) G (k := (t + 3)) (i2 := w32 a1) (n2 := 8) (tg_Paths_l3 ht) ht.2.2.2.2.1 rfl rfl dX4_addWay_65 (fun M3 => ?_)
    refine tj_aload_n (pc := 66) G 0 dX4_addWay_66 rfl rfl ?_
    refine tj_dup (pc := 67) G dX4_addWay_67 rfl ?_
    refine tj_getI (pc := 68) G (k := t) (j := 5) (j2 := 5) tk_X4 (tg_Paths_l0 ht) ht.2.1 rfl (by decide) rfl fl_X4_39 dX4_addWay_68 ?_
    refine tj_iconst (pc := 71) G dX4_addWay_71 ?_
    refine tj_iadd (pc := 72) G dX4_addWay_72 ?_
    refine tj_putI (pc := 73) G (k := t) (j := 5) (j2 := 5) tk_X4 (tg_Paths_l0 ht) ht.2.1 rfl (by decide) rfl fl_X4_39 rfl rfl dX4_addWay_73 (fun M4 => ?_)
    refine tj_iconst (pc := 76) G dX4_addWay_76 ?_
    exact tj_zret (pc := 77) G (by decide) dX4_addWay_77
  refine tj_iconst (pc := 26) G dX4_addWay_26 ?_
  exact tj_zret (pc := 27) G (by decide) dX4_addWay_27

def fx_X4_clear_L12 (t : Nat)  (rec : Int → tp_M → tp_O) (z4 : Int) (M5 : tp_M) : tp_O :=
(if w32 z4 < 8 then
(tp_ck (w32 z4) 8 (tp_lm (tp_up M5 (t + 1) (w32 z4) 0) (fun M6 =>
(tp_ck (w32 z4) 8 (tp_lm (tp_up M6 (t + 3) (w32 z4) 0) (fun M7 =>
(tp_ck (w32 z4) 8 (tp_lm (tp_up M7 (t + 4) (w32 z4) (-1)) (fun M8 =>
(tp_lt (z4 + 1) (fun x9 =>
(rec x9 M8))))))))))))
else
(some (0, M5)))
def fx_X4_clear  (t : Nat) (M : tp_M) : tp_O :=
(tp_lm (tp_up M t 5 0) (fun M1 =>
(tp_lm (tp_up M1 t 4 1) (fun M2 =>
(tp_lt 0 (fun x3 =>
(tp_lp1 (fx_X4_clear_L12 t ) tp_F x3 M2)))))))
set_option maxRecDepth 100000 in
set_option maxHeartbeats 4000000 in
theorem fx_X4_clear_L12_ok {X : tp_X} {Y : tp_Y} (G : tp_Ok X Y 64 cX4_clear 2 RX4 none)  {t : Nat} (ht : tg_Paths LC 64 t)   (n : Nat) : ∀ (z4 : Int) (M5 : tp_M), tp_J X Y LC 64 2 1 0 (tp_lp1 (fx_X4_clear_L12 t  ) n z4 M5) M5 [(0, vR X t), (1, vI z4)] [] 12 := by
  refine tp_lp1_ok (P := fun o z4 M5 => tp_J X Y LC 64 2 1 0 (o) M5 [(0, vR X t), (1, vI z4)] [] 12) (fun z4 M5 => tj_none) (fun rec hrec z4 M5 => ?_) n
  unfold fx_X4_clear_L12
  refine tj_iload_n (pc := 12) G 1 dX4_clear_12 rfl rfl ?_
  refine tj_bipush (pc := 13) G dX4_clear_13 rfl ?_
  refine tj_icmp_ge (pc := 15) G (tgt := 45) (a2 := w32 z4) (b2 := 8) dX4_clear_15 (by decide) rfl rfl ?_ ?_
  · exact tj_vret (pc := 45) G dX4_clear_45
  refine tj_aload_n (pc := 18) G 0 dX4_clear_18 rfl rfl ?_
  refine tj_getR (pc := 19) G (k := t) (j := 0) (j2 := 0) tk_X4 (tg_Paths_l0 ht) ht.2.1 rfl (by decide) rfl fl_X4_9 dX4_clear_19 ?_
  refine tj_iload_n (pc := 22) G 1 dX4_clear_22 rfl rfl ?_
  refine tj_iconst (pc := 23) G dX4_clear_23 ?_
  refine tj_iast (pc := 24) G (k := (t + 1)) (i2 := w32 z4) (n2 := 8) (tg_Paths_l1 ht) ht.2.2.1 rfl rfl dX4_clear_24 (fun M6 => ?_)
  refine tj_aload_n (pc := 25) G 0 dX4_clear_25 rfl rfl ?_
  refine tj_getR (pc := 26) G (k := t) (j := 2) (j2 := 2) tk_X4 (tg_Paths_l0 ht) ht.2.1 rfl (by decide) rfl fl_X4_18 dX4_clear_26 ?_
  refine tj_iload_n (pc := 29) G 1 dX4_clear_29 rfl rfl ?_
  refine tj_iconst (pc := 30) G dX4_clear_30 ?_
  refine tj_iast (pc := 31) G (k := (t + 3)) (i2 := w32 z4) (n2 := 8) (tg_Paths_l3 ht) ht.2.2.2.2.1 rfl rfl dX4_clear_31 (fun M7 => ?_)
  refine tj_aload_n (pc := 32) G 0 dX4_clear_32 rfl rfl ?_
  refine tj_getR (pc := 33) G (k := t) (j := 3) (j2 := 3) tk_X4 (tg_Paths_l0 ht) ht.2.1 rfl (by decide) rfl fl_X4_21 dX4_clear_33 ?_
  refine tj_iload_n (pc := 36) G 1 dX4_clear_36 rfl rfl ?_
  refine tj_iconst (pc := 37) G dX4_clear_37 ?_
  refine tj_iast (pc := 38) G (k := (t + 4)) (i2 := w32 z4) (n2 := 8) (tg_Paths_l4 ht) ht.2.2.2.2.2 rfl rfl dX4_clear_38 (fun M8 => ?_)
  refine tj_iinc (pc := 39) G 1 (fun x9 => [(1, vI x9), (0, vR X t)]) dX4_clear_39 rfl (by decide) (fun _ => rfl) (fun x9 => ?_)
  refine tj_goto (pc := 42) G (tgt := 12) dX4_clear_42 (by decide) ?_
  exact tj_sub [1, 0] rfl (hrec x9 M8)
set_option maxRecDepth 100000 in
set_option maxHeartbeats 4000000 in
theorem ok_X4_clear (X : tp_X)  {t : Nat} (ht : tg_Paths LC 64 t) {M : tp_M} {res : Int × tp_M} (h : fx_X4_clear  t M = some res) : tp_Ret X LC 64 0 yX4_clear (Cond.code yX4_clear cX4_clear 2 none) 1 [vR X t] M res := by
  refine tp_ofW (by decide +kernel) rfl rfl (by show _ ≤ 2; exact Nat.le_of_ble_eq_true rfl) h (fun Y G => ?_)
  show tp_J X Y LC 64 2 1 0 (fx_X4_clear  t M) M [(0, vR X t)] [] 0
  unfold fx_X4_clear
  refine tj_aload_n (pc := 0) G 0 dX4_clear_0 rfl rfl ?_
  refine tj_iconst (pc := 1) G dX4_clear_1 ?_
  refine tj_putI (pc := 2) G (k := t) (j := 5) (j2 := 5) tk_X4 (tg_Paths_l0 ht) ht.2.1 rfl (by decide) rfl fl_X4_39 rfl rfl dX4_clear_2 (fun M1 => ?_)
  refine tj_aload_n (pc := 5) G 0 dX4_clear_5 rfl rfl ?_
  refine tj_iconst (pc := 6) G dX4_clear_6 ?_
  refine tj_putI (pc := 7) G (k := t) (j := 4) (j2 := 4) tk_X4 (tg_Paths_l0 ht) ht.2.1 rfl (by decide) rfl fl_X4_27 rfl rfl dX4_clear_7 (fun M2 => ?_)
  refine tj_iconst (pc := 10) G dX4_clear_10 ?_
  refine tj_istore_n (pc := 11) G (fun x3 => [(1, vI x3), (0, vR X t)]) dX4_clear_11 rfl (by decide) (fun _ => rfl) (fun x3 => ?_)
  refine tj_sub [1, 0] rfl (fx_X4_clear_L12_ok G  ht   tp_F x3 M2)

def fx_X4_measure_L2 (t : Nat) (k2 : Nat) (k2n : Nat) (c1 : Int) (K33 : tp_M → tp_O) (rec : Int → tp_M → tp_O) (z2 : Int) (M3 : tp_M) : tp_O :=
(if w32 z2 < 8 then
(if w32 z2 < w32 k2n then
(tp_jn1 (fun y4 M5 => 
(tp_ck (w32 z2) k2n (tp_lm (tp_up M5 k2 (w32 z2) y4) (fun M6 =>
(tp_lt (z2 + 1) (fun x7 =>
(rec x7 M6))))))) (fun jk26 =>
(if w32 z2 = w32 c1 then
(jk26 0 M3)
else
(jk26 (-1) M3))))
else
(K33 M3))
else
(K33 M3))
def fx_X4_measure_L55 (t : Nat) (k2 : Nat) (k2n : Nat) (c3 : Int) (c4 : Int) (K111 : Int → tp_M → tp_O) (rec : Int → Int → tp_M → tp_O) (z16 z17 : Int) (M18 : tp_M) : tp_O :=
(if w32 z17 < w32 (M18 t 4) then
(if w32 z17 < w32 k2n then
(tp_ck (w32 z17) k2n (tp_jn1 (fun y20 M21 => 
(tp_lt (z17 + 1) (fun x22 =>
(rec y20 x22 M21)))) (fun jk105 =>
(if w32 (M18 k2 (w32 z17)) < 0 then
(tp_ck (w32 z17) 8 (if w32 (x_and (M18 (t + 3) (w32 z17)) c3) = 0 then
(jk105 z16 M18)
else
(tp_ck (w32 z17) k2n (tp_lm (tp_up M18 k2 (w32 z17) c4) (fun M23 =>
(tp_lt (x_or z16 (x_shl 1 z17)) (fun x24 =>
(jk105 x24 M23))))))))
else
(jk105 z16 M18)))))
else
(K111 z16 M18))
else
(K111 z16 M18))
def fx_X4_measure_L40 (t : Nat) (k2 : Nat) (k2n : Nat)  (rec : Int → Int → tp_M → tp_O) (z11 z12 : Int) (M13 : tp_M) : tp_O :=
(if w32 z12 < w32 (M13 t 4) then
(tp_lt z11 (fun x14 =>
(tp_lt 1 (fun x15 =>
(tp_lp2 (fx_X4_measure_L55 t k2 k2n z11 z12 (fun y19 M25 =>
(tp_lt y19 (fun x26 =>
(tp_lt (z12 + 1) (fun x27 =>
(rec x26 x27 M25))))))) tp_F x14 x15 M13)))))
else
(some (0, M13)))
def fx_X4_measure  (t : Nat) (a1 : Int) (k2 : Nat) (k2n : Nat) (M : tp_M) : tp_O :=
(tp_lt 0 (fun x1 =>
(tp_lp1 (fx_X4_measure_L2 t k2 k2n a1 (fun M8 =>
(tp_lt (x_shl 1 a1) (fun x9 =>
(tp_lt 1 (fun x10 =>
(tp_lp2 (fx_X4_measure_L40 t k2 k2n ) tp_F x9 x10 M8))))))) tp_F x1 M)))
set_option maxRecDepth 100000 in
set_option maxHeartbeats 4000000 in
theorem fx_X4_measure_L2_ok {X : tp_X} {Y : tp_Y} (G : tp_Ok X Y 64 cX4_measure 7 RX4 none)  {t : Nat} {k2 : Nat} {k2n : Nat} {c1 : Int} {K33 : tp_M → tp_O} (ht : tg_Paths LC 64 t) (hk2 : tg_I LC 64 k2 k2n)  (hK33 : ∀ (M9 : tp_M), tp_J X Y LC 64 7 1 0 (K33  M9) M9 [(0, vR X t), (1, vI c1), (2, vR X k2)] [] 33) (n : Nat) : ∀ (z2 : Int) (M3 : tp_M), tp_J X Y LC 64 7 1 0 (tp_lp1 (fx_X4_measure_L2 t k2 k2n c1 K33) n z2 M3) M3 [(0, vR X t), (1, vI c1), (2, vR X k2), (3, vI z2)] [] 2 := by
  refine tp_lp1_ok (P := fun o z2 M3 => tp_J X Y LC 64 7 1 0 (o) M3 [(0, vR X t), (1, vI c1), (2, vR X k2), (3, vI z2)] [] 2) (fun z2 M3 => tj_none) (fun rec hrec z2 M3 => ?_) n
  unfold fx_X4_measure_L2
  refine tj_iload_n (pc := 2) G 3 dX4_measure_2 rfl rfl ?_
  refine tj_bipush (pc := 3) G dX4_measure_3 rfl ?_
  refine tj_icmp_ge (pc := 5) G (tgt := 33) (a2 := w32 z2) (b2 := 8) dX4_measure_5 (by decide) rfl rfl ?_ ?_
  · exact tj_sub [0, 1, 2] rfl (hK33  M3)
  refine tj_iload_n (pc := 8) G 3 dX4_measure_8 rfl rfl ?_
  refine tj_aload_n (pc := 9) G 2 dX4_measure_9 rfl rfl ?_
  refine tj_alen (pc := 10) G (k := k2) (n2 := k2n) hk2.1 hk2.2 rfl (by decide) dX4_measure_10 ?_
  refine tj_icmp_ge (pc := 11) G (tgt := 33) (a2 := w32 z2) (b2 := w32 k2n) dX4_measure_11 (by decide) rfl rfl ?_ ?_
  · exact tj_sub [0, 1, 2] rfl (hK33  M3)
  refine tj_aload_n (pc := 14) G 2 dX4_measure_14 rfl rfl ?_
  refine tj_iload_n (pc := 15) G 3 dX4_measure_15 rfl rfl ?_
  refine tj_iload_n (pc := 16) G 3 dX4_measure_16 rfl rfl ?_
  refine tj_iload_n (pc := 17) G 1 dX4_measure_17 rfl rfl ?_
  refine tj_jn1 (fun y4 => [(0, vR X t), (1, vI c1), (2, vR X k2), (3, vI z2)]) (fun y4 => [vI y4, vI z2, vR X k2]) 26 (fun y4 M5 => ?_) (fun jk26 hj26 => ?_)
  · refine tj_iast (pc := 26) G (k := k2) (i2 := w32 z2) (n2 := k2n) hk2.1 hk2.2 rfl rfl dX4_measure_26 (fun M6 => ?_)
    refine tj_iinc (pc := 27) G 3 (fun x7 => [(3, vI x7), (0, vR X t), (1, vI c1), (2, vR X k2)]) dX4_measure_27 rfl (by decide) (fun _ => rfl) (fun x7 => ?_)
    refine tj_goto (pc := 30) G (tgt := 2) dX4_measure_30 (by decide) ?_
    exact tj_sub [1, 2, 3, 0] rfl (hrec x7 M6)
  refine tj_icmp_ne (pc := 18) G (tgt := 25) (a2 := w32 z2) (b2 := w32 c1) dX4_measure_18 (by decide) rfl rfl ?_ ?_
  · refine tj_iconst (pc := 25) G dX4_measure_25 ?_
    exact tj_sub [0, 1, 2, 3] rfl (hj26 (-1) M3)
  refine tj_iconst (pc := 21) G dX4_measure_21 ?_
  refine tj_goto (pc := 22) G (tgt := 26) dX4_measure_22 (by decide) ?_
  exact tj_sub [0, 1, 2, 3] rfl (hj26 0 M3)
set_option maxRecDepth 100000 in
set_option maxHeartbeats 4000000 in
theorem fx_X4_measure_L55_ok {X : tp_X} {Y : tp_Y} (G : tp_Ok X Y 64 cX4_measure 7 RX4 none)  {t : Nat} {k2 : Nat} {k2n : Nat} {c3 : Int} {c4 : Int} {K111 : Int → tp_M → tp_O} (ht : tg_Paths LC 64 t) (hk2 : tg_I LC 64 k2 k2n)  (hK111 : ∀ (y19 : Int) (M9 : tp_M), tp_J X Y LC 64 7 1 0 (K111 y19 M9) M9 [(0, vR X t), (2, vR X k2), (4, vI c4), (5, vI y19)] [] 111) (n : Nat) : ∀ (z16 z17 : Int) (M18 : tp_M), tp_J X Y LC 64 7 1 0 (tp_lp2 (fx_X4_measure_L55 t k2 k2n c3 c4 K111) n z16 z17 M18) M18 [(0, vR X t), (2, vR X k2), (3, vI c3), (4, vI c4), (5, vI z16), (6, vI z17)] [] 55 := by
  refine tp_lp2_ok (P := fun o z16 z17 M18 => tp_J X Y LC 64 7 1 0 (o) M18 [(0, vR X t), (2, vR X k2), (3, vI c3), (4, vI c4), (5, vI z16), (6, vI z17)] [] 55) (fun z16 z17 M18 => tj_none) (fun rec hrec z16 z17 M18 => ?_) n
  unfold fx_X4_measure_L55
  refine tj_iload (pc := 55) G 5 dX4_measure_55 rfl ?_
  refine tj_aload_n (pc := 57) G 0 dX4_measure_57 rfl rfl ?_
  refine tj_getI (pc := 58) G (k := t) (j := 4) (j2 := 4) tk_X4 (tg_Paths_l0 ht) ht.2.1 rfl (by decide) rfl fl_X4_27 dX4_measure_58 ?_
  refine tj_icmp_ge (pc := 61) G (tgt := 111) (a2 := w32 z17) (b2 := w32 (M18 t 4)) dX4_measure_61 (by decide) rfl rfl ?_ ?_
  · exact tj_sub [0, 1, 3, 4] rfl (hK111 z16 M18)
  refine tj_iload (pc := 64) G 5 dX4_measure_64 rfl ?_
  refine tj_aload_n (pc := 66) G 1 dX4_measure_66 rfl rfl ?_
  refine tj_alen (pc := 67) G (k := k2) (n2 := k2n) hk2.1 hk2.2 rfl (by decide) dX4_measure_67 ?_
  refine tj_icmp_ge (pc := 68) G (tgt := 111) (a2 := w32 z17) (b2 := w32 k2n) dX4_measure_68 (by decide) rfl rfl ?_ ?_
  · exact tj_sub [0, 1, 3, 4] rfl (hK111 z16 M18)
  refine tj_aload_n (pc := 71) G 1 dX4_measure_71 rfl rfl ?_
  refine tj_iload (pc := 72) G 5 dX4_measure_72 rfl ?_
  refine tj_iald (pc := 74) G (k := k2) (i2 := w32 z17) (n2 := k2n) hk2.1 hk2.2 rfl rfl dX4_measure_74 ?_
  refine tj_jn1 (fun y20 => [(0, vR X t), (2, vR X k2), (3, vI c3), (4, vI c4), (5, vI y20), (6, vI z17)]) (fun y20 => []) 105 (fun y20 M21 => ?_) (fun jk105 hj105 => ?_)
  · refine tj_iinc (pc := 105) G 5 (fun x22 => [(6, vI x22), (0, vR X t), (2, vR X k2), (3, vI c3), (4, vI c4), (5, vI y20)]) dX4_measure_105 rfl (by decide) (fun _ => rfl) (fun x22 => ?_)
    refine tj_goto (pc := 108) G (tgt := 55) dX4_measure_108 (by decide) ?_
    exact tj_sub [1, 2, 3, 4, 5, 0] rfl (hrec y20 x22 M21)
  refine tj_if_ge (pc := 75) G (tgt := 105) (a2 := w32 (M18 k2 (w32 z17))) dX4_measure_75 (by decide) rfl ?_ ?_
  · exact tj_sub [0, 1, 2, 3, 4, 5] rfl (hj105 z16 M18)
  refine tj_aload_n (pc := 78) G 0 dX4_measure_78 rfl rfl ?_
  refine tj_getR (pc := 79) G (k := t) (j := 2) (j2 := 2) tk_X4 (tg_Paths_l0 ht) ht.2.1 rfl (by decide) rfl fl_X4_18 dX4_measure_79 ?_
  refine tj_iload (pc := 82) G 5 dX4_measure_82 rfl ?_
  refine tj_iald (pc := 84) G (k := (t + 3)) (i2 := w32 z17) (n2 := 8) (tg_Paths_l3 ht) ht.2.2.2.2.1 rfl rfl dX4_measure_84 ?_
  refine tj_iload_n (pc := 85) G 2 dX4_measure_85 rfl rfl ?_
  refine tj_iand (pc := 86) G dX4_measure_86 ?_
  refine tj_if_eq (pc := 87) G (tgt := 105) (a2 := w32 (x_and (M18 (t + 3) (w32 z17)) c3)) dX4_measure_87 (by decide) rfl ?_ ?_
  · exact tj_sub [0, 1, 2, 3, 4, 5] rfl (hj105 z16 M18)
  refine tj_aload_n (pc := 90) G 1 dX4_measure_90 rfl rfl ?_
  refine tj_iload (pc := 91) G 5 dX4_measure_91 rfl ?_
  refine tj_iload (pc := 93) G 3 dX4_measure_93 rfl ?_
  refine tj_iast (pc := 95) G (k := k2) (i2 := w32 z17) (n2 := k2n) hk2.1 hk2.2 rfl rfl dX4_measure_95 (fun M23 => ?_)
  refine tj_iload (pc := 96) G 4 dX4_measure_96 rfl ?_
  refine tj_iconst (pc := 98) G dX4_measure_98 ?_
  refine tj_iload (pc := 99) G 5 dX4_measure_99 rfl ?_
  refine tj_ishl (pc := 101) G dX4_measure_101 ?_
  refine tj_ior (pc := 102) G dX4_measure_102 ?_
  refine tj_istore (pc := 103) G (fun x24 => [(5, vI x24), (0, vR X t), (2, vR X k2), (3, vI c3), (4, vI c4), (6, vI z17)]) dX4_measure_103 (by decide) (fun _ => rfl) (fun x24 => ?_)
  exact tj_sub [1, 2, 3, 4, 0, 5] rfl (hj105 x24 M23)
set_option maxRecDepth 100000 in
set_option maxHeartbeats 4000000 in
theorem fx_X4_measure_L40_ok {X : tp_X} {Y : tp_Y} (G : tp_Ok X Y 64 cX4_measure 7 RX4 none)  {t : Nat} {k2 : Nat} {k2n : Nat} (ht : tg_Paths LC 64 t) (hk2 : tg_I LC 64 k2 k2n)   (n : Nat) : ∀ (z11 z12 : Int) (M13 : tp_M), tp_J X Y LC 64 7 1 0 (tp_lp2 (fx_X4_measure_L40 t k2 k2n  ) n z11 z12 M13) M13 [(0, vR X t), (2, vR X k2), (3, vI z11), (4, vI z12)] [] 40 := by
  refine tp_lp2_ok (P := fun o z11 z12 M13 => tp_J X Y LC 64 7 1 0 (o) M13 [(0, vR X t), (2, vR X k2), (3, vI z11), (4, vI z12)] [] 40) (fun z11 z12 M13 => tj_none) (fun rec hrec z11 z12 M13 => ?_) n
  unfold fx_X4_measure_L40
  refine tj_iload (pc := 40) G 3 dX4_measure_40 rfl ?_
  refine tj_aload_n (pc := 42) G 0 dX4_measure_42 rfl rfl ?_
  refine tj_getI (pc := 43) G (k := t) (j := 4) (j2 := 4) tk_X4 (tg_Paths_l0 ht) ht.2.1 rfl (by decide) rfl fl_X4_27 dX4_measure_43 ?_
  refine tj_icmp_ge (pc := 46) G (tgt := 120) (a2 := w32 z12) (b2 := w32 (M13 t 4)) dX4_measure_46 (by decide) rfl rfl ?_ ?_
  · exact tj_vret (pc := 120) G dX4_measure_120
  refine tj_iload_n (pc := 49) G 2 dX4_measure_49 rfl rfl ?_
  refine tj_istore (pc := 50) G (fun x14 => [(5, vI x14), (0, vR X t), (2, vR X k2), (3, vI z11), (4, vI z12)]) dX4_measure_50 (by decide) (fun _ => rfl) (fun x14 => ?_)
  refine tj_iconst (pc := 52) G dX4_measure_52 ?_
  refine tj_istore (pc := 53) G (fun x15 => [(6, vI x15), (5, vI x14), (0, vR X t), (2, vR X k2), (3, vI z11), (4, vI z12)]) dX4_measure_53 (by decide) (fun _ => rfl) (fun x15 => ?_)
  refine tj_sub [2, 3, 4, 5, 1, 0] rfl (fx_X4_measure_L55_ok G  ht hk2  (fun y19 M25 => ?_) tp_F x14 x15 M13)
  refine tj_iload (pc := 111) G 3 dX4_measure_111 rfl ?_
  refine tj_istore_n (pc := 113) G (fun x26 => [(3, vI x26), (0, vR X t), (2, vR X k2), (4, vI z12), (5, vI y19)]) dX4_measure_113 rfl (by decide) (fun _ => rfl) (fun x26 => ?_)
  refine tj_iinc (pc := 114) G 3 (fun x27 => [(4, vI x27), (3, vI x26), (0, vR X t), (2, vR X k2), (5, vI y19)]) dX4_measure_114 rfl (by decide) (fun _ => rfl) (fun x27 => ?_)
  refine tj_goto (pc := 117) G (tgt := 40) dX4_measure_117 (by decide) ?_
  exact tj_sub [2, 3, 1, 0] rfl (hrec x26 x27 M25)
set_option maxRecDepth 100000 in
set_option maxHeartbeats 4000000 in
theorem ok_X4_measure (X : tp_X)  {t : Nat} {a1 : Int} {k2 : Nat} {k2n : Nat} (ht : tg_Paths LC 64 t) (hk2 : tg_I LC 64 k2 k2n) {M : tp_M} {res : Int × tp_M} (h : fx_X4_measure  t a1 k2 k2n M = some res) : tp_Ret X LC 64 0 yX4_measure (Cond.code yX4_measure cX4_measure 7 none) 1 [vR X t, vI a1, vR X k2] M res := by
  refine tp_ofW (by decide +kernel) rfl rfl (by show _ ≤ 7; exact Nat.le_of_ble_eq_true rfl) h (fun Y G => ?_)
  show tp_J X Y LC 64 7 1 0 (fx_X4_measure  t a1 k2 k2n M) M [(0, vR X t), (1, vI a1), (2, vR X k2)] [] 0
  unfold fx_X4_measure
  refine tj_iconst (pc := 0) G dX4_measure_0 ?_
  refine tj_istore_n (pc := 1) G (fun x1 => [(3, vI x1), (0, vR X t), (1, vI a1), (2, vR X k2)]) dX4_measure_1 rfl (by decide) (fun _ => rfl) (fun x1 => ?_)
  refine tj_sub [1, 2, 3, 0] rfl (fx_X4_measure_L2_ok G  ht hk2  (fun M8 => ?_) tp_F x1 M)
  refine tj_iconst (pc := 33) G dX4_measure_33 ?_
  refine tj_iload_n (pc := 34) G 1 dX4_measure_34 rfl rfl ?_
  refine tj_ishl (pc := 35) G dX4_measure_35 ?_
  refine tj_istore_n (pc := 36) G (fun x9 => [(3, vI x9), (0, vR X t), (1, vI a1), (2, vR X k2)]) dX4_measure_36 rfl (by decide) (fun _ => rfl) (fun x9 => ?_)
  refine tj_iconst (pc := 37) G dX4_measure_37 ?_
  refine tj_istore (pc := 38) G (fun x10 => [(4, vI x10), (3, vI x9), (0, vR X t), (1, vI a1), (2, vR X k2)]) dX4_measure_38 (by decide) (fun _ => rfl) (fun x10 => ?_)
  refine tj_sub [2, 4, 1, 0] rfl (fx_X4_measure_L40_ok G  ht hk2   tp_F x9 x10 M8)

def fx_X4_startAnew  (t : Nat) (M : tp_M) : tp_O :=
(tp_bd (fx_X4_clear t M) (fun r1 M2 =>
(tp_lm (tp_up M2 t 4 2) (fun M3 =>
(tp_bd (fx_X4_addWay t 1 0 M3) (fun r4 M5 =>
(tp_bd (fx_X4_measure t 0 (t + 4) 8 M5) (fun r6 M7 =>
(some (0, M7))))))))))
set_option maxRecDepth 100000 in
set_option maxHeartbeats 4000000 in
theorem ok_X4_startAnew (X : tp_X)  {t : Nat} (ht : tg_Paths LC 64 t) {M : tp_M} {res : Int × tp_M} (h : fx_X4_startAnew  t M = some res) : tp_Ret X LC 64 0 yX4_startAnew (Cond.code yX4_startAnew cX4_startAnew 1 none) 2 [vR X t] M res := by
  refine tp_ofW (by decide +kernel) rfl rfl (by show _ ≤ 1; exact Nat.le_of_ble_eq_true rfl) h (fun Y G => ?_)
  show tp_J X Y LC 64 1 2 0 (fx_X4_startAnew  t M) M [(0, vR X t)] [] 0
  unfold fx_X4_startAnew
  refine tj_aload_n (pc := 0) G 0 dX4_startAnew_0 rfl rfl ?_
  refine tj_callVv (pc := 1) G [] mf_X4_clear (k := t) (tg_Paths_l0 ht) ht.2.1 rfl rfl ml_X4_24 (by decide) rfl rfl (Nat.le_of_ble_eq_true rfl) (fun _ h9 => ok_X4_clear X ht h9) dX4_startAnew_1 (fun r1 M2 => ?_)
  refine tj_aload_n (pc := 4) G 0 dX4_startAnew_4 rfl rfl ?_
  refine tj_iconst (pc := 5) G dX4_startAnew_5 ?_
  refine tj_putI (pc := 6) G (k := t) (j := 4) (j2 := 4) tk_X4 (tg_Paths_l0 ht) ht.2.1 rfl (by decide) rfl fl_X4_27 rfl rfl dX4_startAnew_6 (fun M3 => ?_)
  refine tj_aload_n (pc := 9) G 0 dX4_startAnew_9 rfl rfl ?_
  refine tj_iconst (pc := 10) G dX4_startAnew_10 ?_
  refine tj_iconst (pc := 11) G dX4_startAnew_11 ?_
  refine tj_callVi (pc := 12) G [vI 1, vI 0] mf_X4_addWay (k := t) (tg_Paths_l0 ht) ht.2.1 rfl rfl ml_X4_31 (by decide) rfl rfl (Nat.le_of_ble_eq_true rfl) (fun _ h9 => ok_X4_addWay X ht h9) dX4_startAnew_12 (fun r4 M5 => ?_)
  refine tj_pop (pc := 15) G dX4_startAnew_15 rfl ?_
  refine tj_aload_n (pc := 16) G 0 dX4_startAnew_16 rfl rfl ?_
  refine tj_iconst (pc := 17) G dX4_startAnew_17 ?_
  refine tj_aload_n (pc := 18) G 0 dX4_startAnew_18 rfl rfl ?_
  refine tj_getR (pc := 19) G (k := t) (j := 3) (j2 := 3) tk_X4 (tg_Paths_l0 ht) ht.2.1 rfl (by decide) rfl fl_X4_21 dX4_startAnew_19 ?_
  refine tj_callVv (pc := 22) G [vI 0, vR X (t + 4)] mf_X4_measure (k := t) (tg_Paths_l0 ht) ht.2.1 rfl rfl ml_X4_35 (by decide) rfl rfl (Nat.le_of_ble_eq_true rfl) (fun _ h9 => ok_X4_measure X ht ⟨(tg_Paths_l4 ht), ht.2.2.2.2.2⟩ h9) dX4_startAnew_22 (fun r6 M7 => ?_)
  exact tj_vret (pc := 25) G dX4_startAnew_25

def fx_X4_copyFrom  (t : Nat) (k1 : Nat) (M : tp_M) : tp_O :=
(tp_lm (tp_up M t 4 (M k1 4)) (fun M1 =>
(tp_lm (tp_up M1 t 5 (M1 k1 5)) (fun M2 =>
(tp_gd ((0 : Int) ≤ 0 ∧ (0 : Int) ≤ 0 ∧ (0 : Int) ≤ 8 ∧ (0 : Int) + 8 ≤ ((8 : Nat) : Int) ∧ (0 : Int) + 8 ≤ ((8 : Nat) : Int)) inferInstance (tp_lm (tp_cp M2 (k1 + 1) 0 (t + 1) 0 8) (fun M3 =>
(tp_gd ((0 : Int) ≤ 0 ∧ (0 : Int) ≤ 0 ∧ (0 : Int) ≤ 32 ∧ (0 : Int) + 32 ≤ ((32 : Nat) : Int) ∧ (0 : Int) + 32 ≤ ((32 : Nat) : Int)) inferInstance (tp_lm (tp_cp M3 (k1 + 2) 0 (t + 2) 0 32) (fun M4 =>
(tp_gd ((0 : Int) ≤ 0 ∧ (0 : Int) ≤ 0 ∧ (0 : Int) ≤ 8 ∧ (0 : Int) + 8 ≤ ((8 : Nat) : Int) ∧ (0 : Int) + 8 ≤ ((8 : Nat) : Int)) inferInstance (tp_lm (tp_cp M4 (k1 + 3) 0 (t + 3) 0 8) (fun M5 =>
(tp_gd ((0 : Int) ≤ 0 ∧ (0 : Int) ≤ 0 ∧ (0 : Int) ≤ 8 ∧ (0 : Int) + 8 ≤ ((8 : Nat) : Int) ∧ (0 : Int) + 8 ≤ ((8 : Nat) : Int)) inferInstance (tp_lm (tp_cp M5 (k1 + 4) 0 (t + 4) 0 8) (fun M6 =>
(some (0, M6))))))))))))))))))
set_option maxRecDepth 100000 in
set_option maxHeartbeats 4000000 in
theorem ok_X4_copyFrom (X : tp_X)  {t : Nat} {k1 : Nat} (ht : tg_Paths LC 64 t) (hk1 : tg_Paths LC 64 k1) {M : tp_M} {res : Int × tp_M} (h : fx_X4_copyFrom  t k1 M = some res) : tp_Ret X LC 64 0 yX4_copyFrom (Cond.code yX4_copyFrom cX4_copyFrom 2 none) 1 [vR X t, vR X k1] M res := by
  refine tp_ofW (by decide +kernel) rfl rfl (by show _ ≤ 2; exact Nat.le_of_ble_eq_true rfl) h (fun Y G => ?_)
  show tp_J X Y LC 64 2 1 0 (fx_X4_copyFrom  t k1 M) M [(0, vR X t), (1, vR X k1)] [] 0
  unfold fx_X4_copyFrom
  refine tj_aload_n (pc := 0) G 0 dX4_copyFrom_0 rfl rfl ?_
  refine tj_aload_n (pc := 1) G 1 dX4_copyFrom_1 rfl rfl ?_
  refine tj_getI (pc := 2) G (k := k1) (j := 4) (j2 := 4) tk_X4 (tg_Paths_l0 hk1) hk1.2.1 rfl (by decide) rfl fl_X4_27 dX4_copyFrom_2 ?_
  refine tj_putI (pc := 5) G (k := t) (j := 4) (j2 := 4) tk_X4 (tg_Paths_l0 ht) ht.2.1 rfl (by decide) rfl fl_X4_27 rfl rfl dX4_copyFrom_5 (fun M1 => ?_)
  refine tj_aload_n (pc := 8) G 0 dX4_copyFrom_8 rfl rfl ?_
  refine tj_aload_n (pc := 9) G 1 dX4_copyFrom_9 rfl rfl ?_
  refine tj_getI (pc := 10) G (k := k1) (j := 5) (j2 := 5) tk_X4 (tg_Paths_l0 hk1) hk1.2.1 rfl (by decide) rfl fl_X4_39 dX4_copyFrom_10 ?_
  refine tj_putI (pc := 13) G (k := t) (j := 5) (j2 := 5) tk_X4 (tg_Paths_l0 ht) ht.2.1 rfl (by decide) rfl fl_X4_39 rfl rfl dX4_copyFrom_13 (fun M2 => ?_)
  refine tj_aload_n (pc := 16) G 1 dX4_copyFrom_16 rfl rfl ?_
  refine tj_getR (pc := 17) G (k := k1) (j := 0) (j2 := 0) tk_X4 (tg_Paths_l0 hk1) hk1.2.1 rfl (by decide) rfl fl_X4_9 dX4_copyFrom_17 ?_
  refine tj_iconst (pc := 20) G dX4_copyFrom_20 ?_
  refine tj_aload_n (pc := 21) G 0 dX4_copyFrom_21 rfl rfl ?_
  refine tj_getR (pc := 22) G (k := t) (j := 0) (j2 := 0) tk_X4 (tg_Paths_l0 ht) ht.2.1 rfl (by decide) rfl fl_X4_9 dX4_copyFrom_22 ?_
  refine tj_iconst (pc := 25) G dX4_copyFrom_25 ?_
  refine tj_bipush (pc := 26) G dX4_copyFrom_26 rfl ?_
  refine tj_copy (pc := 28) G (k0 := (k1 + 1)) (k1 := (t + 1)) (sp2 := 0) (dp2 := 0) (n2 := 8) (tg_Paths_l1 hk1) (tg_Paths_l1 ht) hk1.2.2.1 ht.2.2.1 rfl rfl rfl ml_X4_42 mw_copy (by decide) (Nat.le_of_ble_eq_true rfl) dX4_copyFrom_28 (fun M3 => ?_)
  refine tj_aload_n (pc := 31) G 1 dX4_copyFrom_31 rfl rfl ?_
  refine tj_getR (pc := 32) G (k := k1) (j := 1) (j2 := 1) tk_X4 (tg_Paths_l0 hk1) hk1.2.1 rfl (by decide) rfl fl_X4_15 dX4_copyFrom_32 ?_
  refine tj_iconst (pc := 35) G dX4_copyFrom_35 ?_
  refine tj_aload_n (pc := 36) G 0 dX4_copyFrom_36 rfl rfl ?_
  refine tj_getR (pc := 37) G (k := t) (j := 1) (j2 := 1) tk_X4 (tg_Paths_l0 ht) ht.2.1 rfl (by decide) rfl fl_X4_15 dX4_copyFrom_37 ?_
  refine tj_iconst (pc := 40) G dX4_copyFrom_40 ?_
  refine tj_bipush (pc := 41) G dX4_copyFrom_41 rfl ?_
  refine tj_copy (pc := 43) G (k0 := (k1 + 2)) (k1 := (t + 2)) (sp2 := 0) (dp2 := 0) (n2 := 32) (tg_Paths_l2 hk1) (tg_Paths_l2 ht) hk1.2.2.2.1 ht.2.2.2.1 rfl rfl rfl ml_X4_42 mw_copy (by decide) (Nat.le_of_ble_eq_true rfl) dX4_copyFrom_43 (fun M4 => ?_)
  refine tj_aload_n (pc := 46) G 1 dX4_copyFrom_46 rfl rfl ?_
  refine tj_getR (pc := 47) G (k := k1) (j := 2) (j2 := 2) tk_X4 (tg_Paths_l0 hk1) hk1.2.1 rfl (by decide) rfl fl_X4_18 dX4_copyFrom_47 ?_
  refine tj_iconst (pc := 50) G dX4_copyFrom_50 ?_
  refine tj_aload_n (pc := 51) G 0 dX4_copyFrom_51 rfl rfl ?_
  refine tj_getR (pc := 52) G (k := t) (j := 2) (j2 := 2) tk_X4 (tg_Paths_l0 ht) ht.2.1 rfl (by decide) rfl fl_X4_18 dX4_copyFrom_52 ?_
  refine tj_iconst (pc := 55) G dX4_copyFrom_55 ?_
  refine tj_bipush (pc := 56) G dX4_copyFrom_56 rfl ?_
  refine tj_copy (pc := 58) G (k0 := (k1 + 3)) (k1 := (t + 3)) (sp2 := 0) (dp2 := 0) (n2 := 8) (tg_Paths_l3 hk1) (tg_Paths_l3 ht) hk1.2.2.2.2.1 ht.2.2.2.2.1 rfl rfl rfl ml_X4_42 mw_copy (by decide) (Nat.le_of_ble_eq_true rfl) dX4_copyFrom_58 (fun M5 => ?_)
  refine tj_aload_n (pc := 61) G 1 dX4_copyFrom_61 rfl rfl ?_
  refine tj_getR (pc := 62) G (k := k1) (j := 3) (j2 := 3) tk_X4 (tg_Paths_l0 hk1) hk1.2.1 rfl (by decide) rfl fl_X4_21 dX4_copyFrom_62 ?_
  refine tj_iconst (pc := 65) G dX4_copyFrom_65 ?_
  refine tj_aload_n (pc := 66) G 0 dX4_copyFrom_66 rfl rfl ?_
  refine tj_getR (pc := 67) G (k := t) (j := 3) (j2 := 3) tk_X4 (tg_Paths_l0 ht) ht.2.1 rfl (by decide) rfl fl_X4_21 dX4_copyFrom_67 ?_
  refine tj_iconst (pc := 70) G dX4_copyFrom_70 ?_
  refine tj_bipush (pc := 71) G dX4_copyFrom_71 rfl ?_
  refine tj_copy (pc := 73) G (k0 := (k1 + 4)) (k1 := (t + 4)) (sp2 := 0) (dp2 := 0) (n2 := 8) (tg_Paths_l4 hk1) (tg_Paths_l4 ht) hk1.2.2.2.2.2 ht.2.2.2.2.2 rfl rfl rfl ml_X4_42 mw_copy (by decide) (Nat.le_of_ble_eq_true rfl) dX4_copyFrom_73 (fun M6 => ?_)
  exact tj_vret (pc := 76) G dX4_copyFrom_76

def fx_X4_check_L2 (t : Nat) (K33 : tp_M → tp_O) (rec : Int → tp_M → tp_O) (z2 : Int) (M3 : tp_M) : tp_O :=
(if w32 z2 < w32 (M3 t 4) then
(tp_ck (w32 z2) 8 (if w32 (x_shr (M3 (t + 3) (w32 z2)) (M3 t 4)) = 0 then
(tp_lt (z2 + 1) (fun x4 =>
(rec x4 M3)))
else
(some ((-100), M3))))
else
(K33 M3))
def fx_X4_check_L44 (t : Nat)  (rec : Int → tp_M → tp_O) (z9 : Int) (M10 : tp_M) : tp_O :=
(if w32 z9 < w32 (M10 t 4) then
(tp_ck (w32 z9) 8 (if w32 (M10 (t + 4) (w32 z9)) < 0 then
(some ((-101), M10))
else
(tp_lt (z9 + 1) (fun x11 =>
(rec x11 M10)))))
else
(some (M10 t 4, M10)))
def fx_X4_check  (t : Nat) (M : tp_M) : tp_O :=
(tp_lt 1 (fun x1 =>
(tp_lp1 (fx_X4_check_L2 t (fun M5 =>
(tp_bd (fx_X4_measure t 0 (t + 4) 8 M5) (fun r6 M7 =>
(tp_lt 1 (fun x8 =>
(tp_lp1 (fx_X4_check_L44 t ) tp_F x8 M7))))))) tp_F x1 M)))
set_option maxRecDepth 100000 in
set_option maxHeartbeats 4000000 in
theorem fx_X4_check_L2_ok {X : tp_X} {Y : tp_Y} (G : tp_Ok X Y 64 cX4_check 2 RX4 (some .int))  {t : Nat} {K33 : tp_M → tp_O} (ht : tg_Paths LC 64 t)  (hK33 : ∀ (M9 : tp_M), tp_J X Y LC 64 2 2 1 (K33  M9) M9 [(0, vR X t)] [] 33) (n : Nat) : ∀ (z2 : Int) (M3 : tp_M), tp_J X Y LC 64 2 2 1 (tp_lp1 (fx_X4_check_L2 t  K33) n z2 M3) M3 [(0, vR X t), (1, vI z2)] [] 2 := by
  refine tp_lp1_ok (P := fun o z2 M3 => tp_J X Y LC 64 2 2 1 (o) M3 [(0, vR X t), (1, vI z2)] [] 2) (fun z2 M3 => tj_none) (fun rec hrec z2 M3 => ?_) n
  unfold fx_X4_check_L2
  refine tj_iload_n (pc := 2) G 1 dX4_check_2 rfl rfl ?_
  refine tj_aload_n (pc := 3) G 0 dX4_check_3 rfl rfl ?_
  refine tj_getI (pc := 4) G (k := t) (j := 4) (j2 := 4) tk_X4 (tg_Paths_l0 ht) ht.2.1 rfl (by decide) rfl fl_X4_27 dX4_check_4 ?_
  refine tj_icmp_ge (pc := 7) G (tgt := 33) (a2 := w32 z2) (b2 := w32 (M3 t 4)) dX4_check_7 (by decide) rfl rfl ?_ ?_
  · exact tj_sub [0] rfl (hK33  M3)
  refine tj_aload_n (pc := 10) G 0 dX4_check_10 rfl rfl ?_
  refine tj_getR (pc := 11) G (k := t) (j := 2) (j2 := 2) tk_X4 (tg_Paths_l0 ht) ht.2.1 rfl (by decide) rfl fl_X4_18 dX4_check_11 ?_
  refine tj_iload_n (pc := 14) G 1 dX4_check_14 rfl rfl ?_
  refine tj_iald (pc := 15) G (k := (t + 3)) (i2 := w32 z2) (n2 := 8) (tg_Paths_l3 ht) ht.2.2.2.2.1 rfl rfl dX4_check_15 ?_
  refine tj_aload_n (pc := 16) G 0 dX4_check_16 rfl rfl ?_
  refine tj_getI (pc := 17) G (k := t) (j := 4) (j2 := 4) tk_X4 (tg_Paths_l0 ht) ht.2.1 rfl (by decide) rfl fl_X4_27 dX4_check_17 ?_
  refine tj_ishr (pc := 20) G dX4_check_20 ?_
  refine tj_if_eq (pc := 21) G (tgt := 27) (a2 := w32 (x_shr (M3 (t + 3) (w32 z2)) (M3 t 4))) dX4_check_21 (by decide) rfl ?_ ?_
  · refine tj_iinc (pc := 27) G 1 (fun x4 => [(1, vI x4), (0, vR X t)]) dX4_check_27 rfl (by decide) (fun _ => rfl) (fun x4 => ?_)
    refine tj_goto (pc := 30) G (tgt := 2) dX4_check_30 (by decide) ?_
    exact tj_sub [1, 0] rfl (hrec x4 M3)
  refine tj_bipush (pc := 24) G dX4_check_24 rfl ?_
  exact tj_iret (pc := 26) G dX4_check_26
set_option maxRecDepth 100000 in
set_option maxHeartbeats 4000000 in
theorem fx_X4_check_L44_ok {X : tp_X} {Y : tp_Y} (G : tp_Ok X Y 64 cX4_check 2 RX4 (some .int))  {t : Nat} (ht : tg_Paths LC 64 t)   (n : Nat) : ∀ (z9 : Int) (M10 : tp_M), tp_J X Y LC 64 2 2 1 (tp_lp1 (fx_X4_check_L44 t  ) n z9 M10) M10 [(0, vR X t), (1, vI z9)] [] 44 := by
  refine tp_lp1_ok (P := fun o z9 M10 => tp_J X Y LC 64 2 2 1 (o) M10 [(0, vR X t), (1, vI z9)] [] 44) (fun z9 M10 => tj_none) (fun rec hrec z9 M10 => ?_) n
  unfold fx_X4_check_L44
  refine tj_iload_n (pc := 44) G 1 dX4_check_44 rfl rfl ?_
  refine tj_aload_n (pc := 45) G 0 dX4_check_45 rfl rfl ?_
  refine tj_getI (pc := 46) G (k := t) (j := 4) (j2 := 4) tk_X4 (tg_Paths_l0 ht) ht.2.1 rfl (by decide) rfl fl_X4_27 dX4_check_46 ?_
  refine tj_icmp_ge (pc := 49) G (tgt := 70) (a2 := w32 z9) (b2 := w32 (M10 t 4)) dX4_check_49 (by decide) rfl rfl ?_ ?_
  · refine tj_aload_n (pc := 70) G 0 dX4_check_70 rfl rfl ?_
    refine tj_getI (pc := 71) G (k := t) (j := 4) (j2 := 4) tk_X4 (tg_Paths_l0 ht) ht.2.1 rfl (by decide) rfl fl_X4_27 dX4_check_71 ?_
    exact tj_iret (pc := 74) G dX4_check_74
  refine tj_aload_n (pc := 52) G 0 dX4_check_52 rfl rfl ?_
  refine tj_getR (pc := 53) G (k := t) (j := 3) (j2 := 3) tk_X4 (tg_Paths_l0 ht) ht.2.1 rfl (by decide) rfl fl_X4_21 dX4_check_53 ?_
  refine tj_iload_n (pc := 56) G 1 dX4_check_56 rfl rfl ?_
  refine tj_iald (pc := 57) G (k := (t + 4)) (i2 := w32 z9) (n2 := 8) (tg_Paths_l4 ht) ht.2.2.2.2.2 rfl rfl dX4_check_57 ?_
  refine tj_if_ge (pc := 58) G (tgt := 64) (a2 := w32 (M10 (t + 4) (w32 z9))) dX4_check_58 (by decide) rfl ?_ ?_
  · refine tj_iinc (pc := 64) G 1 (fun x11 => [(1, vI x11), (0, vR X t)]) dX4_check_64 rfl (by decide) (fun _ => rfl) (fun x11 => ?_)
    refine tj_goto (pc := 67) G (tgt := 44) dX4_check_67 (by decide) ?_
    exact tj_sub [1, 0] rfl (hrec x11 M10)
  refine tj_bipush (pc := 61) G dX4_check_61 rfl ?_
  exact tj_iret (pc := 63) G dX4_check_63
set_option maxRecDepth 100000 in
set_option maxHeartbeats 4000000 in
theorem ok_X4_check (X : tp_X)  {t : Nat} (ht : tg_Paths LC 64 t) {M : tp_M} {res : Int × tp_M} (h : fx_X4_check  t M = some res) : tp_Ret X LC 64 1 yX4_check (Cond.code yX4_check cX4_check 2 (some .int)) 2 [vR X t] M res := by
  refine tp_ofW (by decide +kernel) rfl rfl (by show _ ≤ 2; exact Nat.le_of_ble_eq_true rfl) h (fun Y G => ?_)
  show tp_J X Y LC 64 2 2 1 (fx_X4_check  t M) M [(0, vR X t)] [] 0
  unfold fx_X4_check
  refine tj_iconst (pc := 0) G dX4_check_0 ?_
  refine tj_istore_n (pc := 1) G (fun x1 => [(1, vI x1), (0, vR X t)]) dX4_check_1 rfl (by decide) (fun _ => rfl) (fun x1 => ?_)
  refine tj_sub [1, 0] rfl (fx_X4_check_L2_ok G  ht  (fun M5 => ?_) tp_F x1 M)
  refine tj_aload_n (pc := 33) G 0 dX4_check_33 rfl rfl ?_
  refine tj_iconst (pc := 34) G dX4_check_34 ?_
  refine tj_aload_n (pc := 35) G 0 dX4_check_35 rfl rfl ?_
  refine tj_getR (pc := 36) G (k := t) (j := 3) (j2 := 3) tk_X4 (tg_Paths_l0 ht) ht.2.1 rfl (by decide) rfl fl_X4_21 dX4_check_36 ?_
  refine tj_callVv (pc := 39) G [vI 0, vR X (t + 4)] mf_X4_measure (k := t) (tg_Paths_l0 ht) ht.2.1 rfl rfl ml_X4_35 (by decide) rfl rfl (Nat.le_of_ble_eq_true rfl) (fun _ h9 => ok_X4_measure X ht ⟨(tg_Paths_l4 ht), ht.2.2.2.2.2⟩ h9) dX4_check_39 (fun r6 M7 => ?_)
  refine tj_iconst (pc := 42) G dX4_check_42 ?_
  refine tj_istore_n (pc := 43) G (fun x8 => [(1, vI x8), (0, vR X t)]) dX4_check_43 rfl (by decide) (fun _ => rfl) (fun x8 => ?_)
  refine tj_sub [1, 0] rfl (fx_X4_check_L44_ok G  ht   tp_F x8 M7)

def fx_X7_at  (a1 : Int) (M : tp_M) : tp_O :=
(if w32 a1 < 0 then
(some ((-1), M))
else
(if w32 a1 < w32 (M 1 1) then
(tp_ck (w32 a1) 80 (some (M 2 (w32 a1), M)))
else
(some ((-1), M))))
set_option maxRecDepth 100000 in
set_option maxHeartbeats 4000000 in
theorem ok_X7_at (X : tp_X)  {a1 : Int}  {M : tp_M} {res : Int × tp_M} (h : fx_X7_at  a1 M = some res) : tp_Ret X LC 64 1 yX7_at (Cond.code yX7_at cX7_at 2 (some .int)) 1 [vR X 1, vI a1] M res := by
  refine tp_ofW (by decide +kernel) rfl rfl (by show _ ≤ 2; exact Nat.le_of_ble_eq_true rfl) h (fun Y G => ?_)
  show tp_J X Y LC 64 2 1 1 (fx_X7_at  a1 M) M [(0, vR X 1), (1, vI a1)] [] 0
  unfold fx_X7_at
  refine tj_iload_n (pc := 0) G 1 dX7_at_0 rfl rfl ?_
  refine tj_if_lt (pc := 1) G (tgt := 21) (a2 := w32 a1) dX7_at_1 (by decide) rfl ?_ ?_
  · refine tj_iconst (pc := 21) G dX7_at_21 ?_
    exact tj_iret (pc := 22) G dX7_at_22
  refine tj_iload_n (pc := 4) G 1 dX7_at_4 rfl rfl ?_
  refine tj_aload_n (pc := 5) G 0 dX7_at_5 rfl rfl ?_
  refine tj_getI (pc := 6) G (k := 1) (j := 1) (j2 := 1) tk_X7 (by decide) lc_1 rfl (by decide) rfl fl_X7_15 dX7_at_6 ?_
  refine tj_icmp_ge (pc := 9) G (tgt := 21) (a2 := w32 a1) (b2 := w32 (M 1 1)) dX7_at_9 (by decide) rfl rfl ?_ ?_
  · refine tj_iconst (pc := 21) G dX7_at_21 ?_
    exact tj_iret (pc := 22) G dX7_at_22
  refine tj_aload_n (pc := 12) G 0 dX7_at_12 rfl rfl ?_
  refine tj_getR (pc := 13) G (k := 1) (j := 0) (j2 := 0) tk_X7 (by decide) lc_1 rfl (by decide) rfl fl_X7_9 dX7_at_13 ?_
  refine tj_iload_n (pc := 16) G 1 dX7_at_16 rfl rfl ?_
  refine tj_iald (pc := 17) G (k := 2) (i2 := w32 a1) (n2 := 80) (by decide) lc_2 rfl rfl dX7_at_17 ?_
  refine tj_goto (pc := 18) G (tgt := 22) dX7_at_18 (by decide) ?_
  exact tj_iret (pc := 22) G dX7_at_22

def fx_X7_size   (M : tp_M) : tp_O :=
(some (M 1 1, M))
set_option maxRecDepth 100000 in
set_option maxHeartbeats 4000000 in
theorem ok_X7_size (X : tp_X)    {M : tp_M} {res : Int × tp_M} (h : fx_X7_size   M = some res) : tp_Ret X LC 64 1 yX7_size (Cond.code yX7_size cX7_size 1 (some .int)) 1 [vR X 1] M res := by
  refine tp_ofW (by decide +kernel) rfl rfl (by show _ ≤ 1; exact Nat.le_of_ble_eq_true rfl) h (fun Y G => ?_)
  show tp_J X Y LC 64 1 1 1 (fx_X7_size   M) M [(0, vR X 1)] [] 0
  unfold fx_X7_size
  refine tj_aload_n (pc := 0) G 0 dX7_size_0 rfl rfl ?_
  refine tj_getI (pc := 1) G (k := 1) (j := 1) (j2 := 1) tk_X7 (by decide) lc_1 rfl (by decide) rfl fl_X7_15 dX7_size_1 ?_
  exact tj_iret (pc := 4) G dX7_size_4

def fx_X4_read_L8 (t : Nat) (K88 : Int → tp_M → tp_O) (rec : Int → Int → tp_M → tp_O) (z5 z6 : Int) (M7 : tp_M) : tp_O :=
(tp_bd (fx_X7_size  M7) (fun r9 M10 =>
(if w32 z6 < w32 r9 then
(tp_bd (fx_X7_at z6 M10) (fun r11 M12 =>
(tp_lt r11 (fun x13 =>
(tp_jn1 (fun y14 M15 => 
(tp_lt (z6 + 1) (fun x16 =>
(rec y14 x16 M15)))) (fun jk82 =>
(tp_jn0 (fun M17 => 
(if w32 x13 < 48 then
(some ((-1) - z6, M17))
else
(if w32 x13 ≤ 55 then
(tp_bd (fx_X4_addWay t z5 (x13 - 48) M17) (fun r18 M19 =>
(if w32 r18 = 0 then
(some ((-1) - z6, M19))
else
(jk82 z5 M19))))
else
(some ((-1) - z6, M17))))) (fun jk51 =>
(if w32 x13 = 59 then
(if w32 z5 < 8 then
(tp_ck (w32 z5) 8 (if w32 (M12 (t + 1) (w32 z5)) ≤ 0 then
(jk51 M12)
else
(tp_lt (z5 + 1) (fun x20 =>
(jk82 x20 M12)))))
else
(jk51 M12))
else
(jk51 M12))))))))))
else
(K88 z5 M10))))
def fx_X4_read  (t : Nat) (M : tp_M) : tp_O :=
(tp_bd (fx_X4_clear t M) (fun r1 M2 =>
(tp_lt 1 (fun x3 =>
(tp_lt 0 (fun x4 =>
(tp_lp2 (fx_X4_read_L8 t (fun y8 M21 =>
(tp_jn0 (fun M22 => 
(tp_bd (fx_X7_size  M22) (fun r23 M24 =>
(some ((-1) - r23, M24))))) (fun jk103 =>
(if w32 y8 < 8 then
(tp_ck (w32 y8) 8 (if w32 (M21 (t + 1) (w32 y8)) = 0 then
(jk103 M21)
else
(tp_lm (tp_up M21 t 4 (y8 + 1)) (fun M25 =>
(tp_bd (fx_X4_check t M25) (fun r26 M27 =>
(some (r26, M27))))))))
else
(jk103 M21)))))) tp_F x3 x4 M2)))))))
set_option maxRecDepth 100000 in
set_option maxHeartbeats 4000000 in
theorem fx_X4_read_L8_ok {X : tp_X} {Y : tp_Y} (G : tp_Ok X Y 64 cX4_read 5 RX4 (some .int))  {t : Nat} {K88 : Int → tp_M → tp_O} (ht : tg_Paths LC 64 t)  (hK88 : ∀ (y8 : Int) (M9 : tp_M), tp_J X Y LC 64 5 3 1 (K88 y8 M9) M9 [(0, vR X t), (1, vR X 1), (2, vI y8)] [] 88) (n : Nat) : ∀ (z5 z6 : Int) (M7 : tp_M), tp_J X Y LC 64 5 3 1 (tp_lp2 (fx_X4_read_L8 t  K88) n z5 z6 M7) M7 [(0, vR X t), (1, vR X 1), (2, vI z5), (3, vI z6)] [] 8 := by
  refine tp_lp2_ok (P := fun o z5 z6 M7 => tp_J X Y LC 64 5 3 1 (o) M7 [(0, vR X t), (1, vR X 1), (2, vI z5), (3, vI z6)] [] 8) (fun z5 z6 M7 => tj_none) (fun rec hrec z5 z6 M7 => ?_) n
  unfold fx_X4_read_L8
  refine tj_iload_n (pc := 8) G 3 dX4_read_8 rfl rfl ?_
  refine tj_aload_n (pc := 9) G 1 dX4_read_9 rfl rfl ?_
  refine tj_callVi (pc := 10) G [] mf_X7_size (k := 1) (by decide) lc_1 rfl rfl ml_X4_48 (by decide) rfl rfl (Nat.le_of_ble_eq_true rfl) (fun _ h9 => ok_X7_size X  h9) dX4_read_10 (fun r9 M10 => ?_)
  refine tj_icmp_ge (pc := 13) G (tgt := 88) (a2 := w32 z6) (b2 := w32 r9) dX4_read_13 (by decide) rfl rfl ?_ ?_
  · exact tj_sub [0, 1, 2] rfl (hK88 z5 M10)
  refine tj_aload_n (pc := 16) G 1 dX4_read_16 rfl rfl ?_
  refine tj_iload_n (pc := 17) G 3 dX4_read_17 rfl rfl ?_
  refine tj_callVi (pc := 18) G [vI z6] mf_X7_at (k := 1) (by decide) lc_1 rfl rfl ml_X4_54 (by decide) rfl rfl (Nat.le_of_ble_eq_true rfl) (fun _ h9 => ok_X7_at X  h9) dX4_read_18 (fun r11 M12 => ?_)
  refine tj_istore (pc := 21) G (fun x13 => [(4, vI x13), (0, vR X t), (1, vR X 1), (2, vI z5), (3, vI z6)]) dX4_read_21 (by decide) (fun _ => rfl) (fun x13 => ?_)
  refine tj_iload (pc := 23) G 0 dX4_read_23 rfl ?_
  refine tj_bipush (pc := 25) G dX4_read_25 rfl ?_
  refine tj_jn1 (fun y14 => [(0, vR X t), (1, vR X 1), (2, vI y14), (3, vI z6)]) (fun y14 => []) 82 (fun y14 M15 => ?_) (fun jk82 hj82 => ?_)
  · refine tj_iinc (pc := 82) G 3 (fun x16 => [(3, vI x16), (0, vR X t), (1, vR X 1), (2, vI y14)]) dX4_read_82 rfl (by decide) (fun _ => rfl) (fun x16 => ?_)
    refine tj_goto (pc := 85) G (tgt := 8) dX4_read_85 (by decide) ?_
    exact tj_sub [1, 2, 3, 0] rfl (hrec y14 x16 M15)
  refine tj_jn0 [(0, vR X t), (1, vR X 1), (2, vI z5), (3, vI z6), (4, vI x13)] [] 51 (fun M17 => ?_) (fun jk51 hj51 => ?_)
  · refine tj_iload (pc := 51) G 4 dX4_read_51 rfl ?_
    refine tj_bipush (pc := 53) G dX4_read_53 rfl ?_
    refine tj_icmp_lt (pc := 55) G (tgt := 78) (a2 := w32 x13) (b2 := 48) dX4_read_55 (by decide) rfl rfl ?_ ?_
    · refine tj_iconst (pc := 78) G dX4_read_78 ?_
      refine tj_iload_n (pc := 79) G 3 dX4_read_79 rfl rfl ?_
      refine tj_isub (pc := 80) G dX4_read_80 ?_
      exact tj_iret (pc := 81) G dX4_read_81
    refine tj_iload (pc := 58) G 4 dX4_read_58 rfl ?_
    refine tj_bipush (pc := 60) G dX4_read_60 rfl ?_
    refine tj_icmp_gt (pc := 62) G (tgt := 78) (a2 := w32 x13) (b2 := 55) dX4_read_62 (by decide) rfl rfl ?_ ?_
    · refine tj_iconst (pc := 78) G dX4_read_78 ?_
      refine tj_iload_n (pc := 79) G 3 dX4_read_79 rfl rfl ?_
      refine tj_isub (pc := 80) G dX4_read_80 ?_
      exact tj_iret (pc := 81) G dX4_read_81
    refine tj_aload_n (pc := 65) G 0 dX4_read_65 rfl rfl ?_
    refine tj_iload_n (pc := 66) G 2 dX4_read_66 rfl rfl ?_
    refine tj_iload (pc := 67) G 4 dX4_read_67 rfl ?_
    refine tj_bipush (pc := 69) G dX4_read_69 rfl ?_
    refine tj_isub (pc := 71) G dX4_read_71 ?_
    refine tj_callVi (pc := 72) G [vI z5, vI (x13 - 48)] mf_X4_addWay (k := t) (tg_Paths_l0 ht) ht.2.1 rfl rfl ml_X4_31 (by decide) rfl rfl (Nat.le_of_ble_eq_true rfl) (fun _ h9 => ok_X4_addWay X ht h9) dX4_read_72 (fun r18 M19 => ?_)
    refine tj_if_ne (pc := 75) G (tgt := 82) (a2 := w32 r18) dX4_read_75 (by decide) rfl ?_ ?_
    · exact tj_sub [0, 1, 2, 3] rfl (hj82 z5 M19)
    refine tj_iconst (pc := 78) G dX4_read_78 ?_
    refine tj_iload_n (pc := 79) G 3 dX4_read_79 rfl rfl ?_
    refine tj_isub (pc := 80) G dX4_read_80 ?_
    exact tj_iret (pc := 81) G dX4_read_81
  refine tj_icmp_ne (pc := 27) G (tgt := 51) (a2 := w32 x13) (b2 := 59) dX4_read_27 (by decide) rfl rfl ?_ ?_
  · exact tj_sub [1, 2, 3, 4, 0] rfl (hj51  M12)
  refine tj_iload_n (pc := 30) G 3 dX4_read_30 rfl rfl ?_
  refine tj_bipush (pc := 31) G dX4_read_31 rfl ?_
  refine tj_icmp_ge (pc := 33) G (tgt := 51) (a2 := w32 z5) (b2 := 8) dX4_read_33 (by decide) rfl rfl ?_ ?_
  · exact tj_sub [1, 2, 3, 4, 0] rfl (hj51  M12)
  refine tj_aload_n (pc := 36) G 1 dX4_read_36 rfl rfl ?_
  refine tj_getR (pc := 37) G (k := t) (j := 0) (j2 := 0) tk_X4 (tg_Paths_l0 ht) ht.2.1 rfl (by decide) rfl fl_X4_9 dX4_read_37 ?_
  refine tj_iload_n (pc := 40) G 3 dX4_read_40 rfl rfl ?_
  refine tj_iald (pc := 41) G (k := (t + 1)) (i2 := w32 z5) (n2 := 8) (tg_Paths_l1 ht) ht.2.2.1 rfl rfl dX4_read_41 ?_
  refine tj_if_le (pc := 42) G (tgt := 51) (a2 := w32 (M12 (t + 1) (w32 z5))) dX4_read_42 (by decide) rfl ?_ ?_
  · exact tj_sub [1, 2, 3, 4, 0] rfl (hj51  M12)
  refine tj_iinc (pc := 45) G 3 (fun x20 => [(2, vI x20), (4, vI x13), (0, vR X t), (1, vR X 1), (3, vI z6)]) dX4_read_45 rfl (by decide) (fun _ => rfl) (fun x20 => ?_)
  refine tj_goto (pc := 48) G (tgt := 82) dX4_read_48 (by decide) ?_
  exact tj_sub [2, 3, 0, 4] rfl (hj82 x20 M12)
set_option maxRecDepth 100000 in
set_option maxHeartbeats 4000000 in
theorem ok_X4_read (X : tp_X)  {t : Nat} (ht : tg_Paths LC 64 t) {M : tp_M} {res : Int × tp_M} (h : fx_X4_read  t M = some res) : tp_Ret X LC 64 1 yX4_read (Cond.code yX4_read cX4_read 5 (some .int)) 3 [vR X t, vR X 1] M res := by
  refine tp_ofW (by decide +kernel) rfl rfl (by show _ ≤ 5; exact Nat.le_of_ble_eq_true rfl) h (fun Y G => ?_)
  show tp_J X Y LC 64 5 3 1 (fx_X4_read  t M) M [(0, vR X t), (1, vR X 1)] [] 0
  unfold fx_X4_read
  refine tj_aload_n (pc := 0) G 0 dX4_read_0 rfl rfl ?_
  refine tj_callVv (pc := 1) G [] mf_X4_clear (k := t) (tg_Paths_l0 ht) ht.2.1 rfl rfl ml_X4_24 (by decide) rfl rfl (Nat.le_of_ble_eq_true rfl) (fun _ h9 => ok_X4_clear X ht h9) dX4_read_1 (fun r1 M2 => ?_)
  refine tj_iconst (pc := 4) G dX4_read_4 ?_
  refine tj_istore_n (pc := 5) G (fun x3 => [(2, vI x3), (0, vR X t), (1, vR X 1)]) dX4_read_5 rfl (by decide) (fun _ => rfl) (fun x3 => ?_)
  refine tj_iconst (pc := 6) G dX4_read_6 ?_
  refine tj_istore_n (pc := 7) G (fun x4 => [(3, vI x4), (2, vI x3), (0, vR X t), (1, vR X 1)]) dX4_read_7 rfl (by decide) (fun _ => rfl) (fun x4 => ?_)
  refine tj_sub [2, 3, 1, 0] rfl (fx_X4_read_L8_ok G  ht  (fun y8 M21 => ?_) tp_F x3 x4 M2)
  refine tj_iload_n (pc := 88) G 2 dX4_read_88 rfl rfl ?_
  refine tj_bipush (pc := 89) G dX4_read_89 rfl ?_
  refine tj_jn0 [(1, vR X 1)] [] 103 (fun M22 => ?_) (fun jk103 hj103 => ?_)
  · refine tj_iconst (pc := 103) G dX4_read_103 ?_
    refine tj_aload_n (pc := 104) G 0 dX4_read_104 rfl rfl ?_
    refine tj_callVi (pc := 105) G [] mf_X7_size (k := 1) (by decide) lc_1 rfl rfl ml_X4_48 (by decide) rfl rfl (Nat.le_of_ble_eq_true rfl) (fun _ h9 => ok_X7_size X  h9) dX4_read_105 (fun r23 M24 => ?_)
    refine tj_isub (pc := 108) G dX4_read_108 ?_
    exact tj_iret (pc := 109) G dX4_read_109
  refine tj_icmp_ge (pc := 91) G (tgt := 103) (a2 := w32 y8) (b2 := 8) dX4_read_91 (by decide) rfl rfl ?_ ?_
  · exact tj_sub [1] rfl (hj103  M21)
  refine tj_aload_n (pc := 94) G 0 dX4_read_94 rfl rfl ?_
  refine tj_getR (pc := 95) G (k := t) (j := 0) (j2 := 0) tk_X4 (tg_Paths_l0 ht) ht.2.1 rfl (by decide) rfl fl_X4_9 dX4_read_95 ?_
  refine tj_iload_n (pc := 98) G 2 dX4_read_98 rfl rfl ?_
  refine tj_iald (pc := 99) G (k := (t + 1)) (i2 := w32 y8) (n2 := 8) (tg_Paths_l1 ht) ht.2.2.1 rfl rfl dX4_read_99 ?_
  refine tj_if_ne (pc := 100) G (tgt := 110) (a2 := w32 (M21 (t + 1) (w32 y8))) dX4_read_100 (by decide) rfl ?_ ?_
  · refine tj_aload_n (pc := 110) G 0 dX4_read_110 rfl rfl ?_
    refine tj_iload_n (pc := 111) G 2 dX4_read_111 rfl rfl ?_
    refine tj_iconst (pc := 112) G dX4_read_112 ?_
    refine tj_iadd (pc := 113) G dX4_read_113 ?_
    refine tj_putI (pc := 114) G (k := t) (j := 4) (j2 := 4) tk_X4 (tg_Paths_l0 ht) ht.2.1 rfl (by decide) rfl fl_X4_27 rfl rfl dX4_read_114 (fun M25 => ?_)
    refine tj_aload_n (pc := 117) G 0 dX4_read_117 rfl rfl ?_
    refine tj_callVi (pc := 118) G [] mf_X4_check (k := t) (tg_Paths_l0 ht) ht.2.1 rfl rfl ml_X4_58 (by decide) rfl rfl (Nat.le_of_ble_eq_true rfl) (fun _ h9 => ok_X4_check X ht h9) dX4_read_118 (fun r26 M27 => ?_)
    exact tj_iret (pc := 121) G dX4_read_121
  exact tj_sub [1] rfl (hj103  M21)

def fx_X4_waysInAll  (t : Nat) (M : tp_M) : tp_O :=
(some (M t 5, M))
set_option maxRecDepth 100000 in
set_option maxHeartbeats 4000000 in
theorem ok_X4_waysInAll (X : tp_X)  {t : Nat} (ht : tg_Paths LC 64 t) {M : tp_M} {res : Int × tp_M} (h : fx_X4_waysInAll  t M = some res) : tp_Ret X LC 64 1 yX4_waysInAll (Cond.code yX4_waysInAll cX4_waysInAll 1 (some .int)) 1 [vR X t] M res := by
  refine tp_ofW (by decide +kernel) rfl rfl (by show _ ≤ 1; exact Nat.le_of_ble_eq_true rfl) h (fun Y G => ?_)
  show tp_J X Y LC 64 1 1 1 (fx_X4_waysInAll  t M) M [(0, vR X t)] [] 0
  unfold fx_X4_waysInAll
  refine tj_aload_n (pc := 0) G 0 dX4_waysInAll_0 rfl rfl ?_
  refine tj_getI (pc := 1) G (k := t) (j := 5) (j2 := 5) tk_X4 (tg_Paths_l0 ht) ht.2.1 rfl (by decide) rfl fl_X4_39 dX4_waysInAll_1 ?_
  exact tj_iret (pc := 4) G dX4_waysInAll_4

def fx_X4_far  (t : Nat) (a1 : Int) (M : tp_M) : tp_O :=
(tp_bd (fx_X4_has t a1 M) (fun r1 M2 =>
(if w32 r1 = 0 then
(some ((-1), M2))
else
(tp_ck (w32 a1) 8 (some (M2 (t + 4) (w32 a1), M2))))))
set_option maxRecDepth 100000 in
set_option maxHeartbeats 4000000 in
theorem ok_X4_far (X : tp_X)  {t : Nat} {a1 : Int} (ht : tg_Paths LC 64 t) {M : tp_M} {res : Int × tp_M} (h : fx_X4_far  t a1 M = some res) : tp_Ret X LC 64 1 yX4_far (Cond.code yX4_far cX4_far 2 (some .int)) 2 [vR X t, vI a1] M res := by
  refine tp_ofW (by decide +kernel) rfl rfl (by show _ ≤ 2; exact Nat.le_of_ble_eq_true rfl) h (fun Y G => ?_)
  show tp_J X Y LC 64 2 2 1 (fx_X4_far  t a1 M) M [(0, vR X t), (1, vI a1)] [] 0
  unfold fx_X4_far
  refine tj_aload_n (pc := 0) G 0 dX4_far_0 rfl rfl ?_
  refine tj_iload_n (pc := 1) G 1 dX4_far_1 rfl rfl ?_
  refine tj_callVi (pc := 2) G [vI a1] mf_X4_has (k := t) (tg_Paths_l0 ht) ht.2.1 rfl rfl ml_X4_68 (by decide) rfl rfl (Nat.le_of_ble_eq_true rfl) (fun _ h9 => ok_X4_has X ht h9) dX4_far_2 (fun r1 M2 => ?_)
  refine tj_if_eq (pc := 5) G (tgt := 17) (a2 := w32 r1) dX4_far_5 (by decide) rfl ?_ ?_
  · refine tj_iconst (pc := 17) G dX4_far_17 ?_
    exact tj_iret (pc := 18) G dX4_far_18
  refine tj_aload_n (pc := 8) G 0 dX4_far_8 rfl rfl ?_
  refine tj_getR (pc := 9) G (k := t) (j := 3) (j2 := 3) tk_X4 (tg_Paths_l0 ht) ht.2.1 rfl (by decide) rfl fl_X4_21 dX4_far_9 ?_
  refine tj_iload_n (pc := 12) G 1 dX4_far_12 rfl rfl ?_
  refine tj_iald (pc := 13) G (k := (t + 4)) (i2 := w32 a1) (n2 := 8) (tg_Paths_l4 ht) ht.2.2.2.2.2 rfl rfl dX4_far_13 ?_
  refine tj_goto (pc := 14) G (tgt := 18) dX4_far_14 (by decide) ?_
  exact tj_iret (pc := 18) G dX4_far_18

def fx_X4_waysTo_L5 (t : Nat) (c1 : Int) (c2 : Int) (rec : Int → Int → tp_M → tp_O) (z3 z4 : Int) (M5 : tp_M) : tp_O :=
(tp_bd (fx_X4_degree t c1 M5) (fun r6 M7 =>
(if w32 z4 < w32 r6 then
(tp_bd (fx_X4_goal t c1 z4 M7) (fun r8 M9 =>
(tp_jn1 (fun y10 M11 => 
(tp_lt (z4 + 1) (fun x12 =>
(rec y10 x12 M11)))) (fun jk29 =>
(if w32 r8 = w32 c2 then
(tp_lt (z3 + 1) (fun x13 =>
(jk29 x13 M9)))
else
(jk29 z3 M9))))))
else
(some (z3, M7)))))
def fx_X4_waysTo  (t : Nat) (a1 : Int) (a2 : Int) (M : tp_M) : tp_O :=
(tp_lt 0 (fun x1 =>
(tp_lt 0 (fun x2 =>
(tp_lp2 (fx_X4_waysTo_L5 t a1 a2 ) tp_F x1 x2 M)))))
set_option maxRecDepth 100000 in
set_option maxHeartbeats 4000000 in
theorem fx_X4_waysTo_L5_ok {X : tp_X} {Y : tp_Y} (G : tp_Ok X Y 64 cX4_waysTo 5 RX4 (some .int))  {t : Nat} {c1 : Int} {c2 : Int} (ht : tg_Paths LC 64 t)   (n : Nat) : ∀ (z3 z4 : Int) (M5 : tp_M), tp_J X Y LC 64 5 3 1 (tp_lp2 (fx_X4_waysTo_L5 t c1 c2 ) n z3 z4 M5) M5 [(0, vR X t), (1, vI c1), (2, vI c2), (3, vI z3), (4, vI z4)] [] 5 := by
  refine tp_lp2_ok (P := fun o z3 z4 M5 => tp_J X Y LC 64 5 3 1 (o) M5 [(0, vR X t), (1, vI c1), (2, vI c2), (3, vI z3), (4, vI z4)] [] 5) (fun z3 z4 M5 => tj_none) (fun rec hrec z3 z4 M5 => ?_) n
  unfold fx_X4_waysTo_L5
  refine tj_iload (pc := 5) G 4 dX4_waysTo_5 rfl ?_
  refine tj_aload_n (pc := 7) G 0 dX4_waysTo_7 rfl rfl ?_
  refine tj_iload_n (pc := 8) G 1 dX4_waysTo_8 rfl rfl ?_
  refine tj_callVi (pc := 9) G [vI c1] mf_X4_degree (k := t) (tg_Paths_l0 ht) ht.2.1 rfl rfl ml_X4_71 (by decide) rfl rfl (Nat.le_of_ble_eq_true rfl) (fun _ h9 => ok_X4_degree X ht h9) dX4_waysTo_9 (fun r6 M7 => ?_)
  refine tj_icmp_ge (pc := 12) G (tgt := 35) (a2 := w32 z4) (b2 := w32 r6) dX4_waysTo_12 (by decide) rfl rfl ?_ ?_
  · refine tj_iload_n (pc := 35) G 3 dX4_waysTo_35 rfl rfl ?_
    exact tj_iret (pc := 36) G dX4_waysTo_36
  refine tj_aload_n (pc := 15) G 0 dX4_waysTo_15 rfl rfl ?_
  refine tj_iload_n (pc := 16) G 1 dX4_waysTo_16 rfl rfl ?_
  refine tj_iload (pc := 17) G 4 dX4_waysTo_17 rfl ?_
  refine tj_callVi (pc := 19) G [vI c1, vI z4] mf_X4_goal (k := t) (tg_Paths_l0 ht) ht.2.1 rfl rfl ml_X4_74 (by decide) rfl rfl (Nat.le_of_ble_eq_true rfl) (fun _ h9 => ok_X4_goal X ht h9) dX4_waysTo_19 (fun r8 M9 => ?_)
  refine tj_iload_n (pc := 22) G 2 dX4_waysTo_22 rfl rfl ?_
  refine tj_jn1 (fun y10 => [(0, vR X t), (1, vI c1), (2, vI c2), (3, vI y10), (4, vI z4)]) (fun y10 => []) 29 (fun y10 M11 => ?_) (fun jk29 hj29 => ?_)
  · refine tj_iinc (pc := 29) G 4 (fun x12 => [(4, vI x12), (0, vR X t), (1, vI c1), (2, vI c2), (3, vI y10)]) dX4_waysTo_29 rfl (by decide) (fun _ => rfl) (fun x12 => ?_)
    refine tj_goto (pc := 32) G (tgt := 5) dX4_waysTo_32 (by decide) ?_
    exact tj_sub [1, 2, 3, 4, 0] rfl (hrec y10 x12 M11)
  refine tj_icmp_ne (pc := 23) G (tgt := 29) (a2 := w32 r8) (b2 := w32 c2) dX4_waysTo_23 (by decide) rfl rfl ?_ ?_
  · exact tj_sub [0, 1, 2, 3, 4] rfl (hj29 z3 M9)
  refine tj_iinc (pc := 26) G 3 (fun x13 => [(3, vI x13), (0, vR X t), (1, vI c1), (2, vI c2), (4, vI z4)]) dX4_waysTo_26 rfl (by decide) (fun _ => rfl) (fun x13 => ?_)
  exact tj_sub [1, 2, 3, 0, 4] rfl (hj29 x13 M9)
set_option maxRecDepth 100000 in
set_option maxHeartbeats 4000000 in
theorem ok_X4_waysTo (X : tp_X)  {t : Nat} {a1 : Int} {a2 : Int} (ht : tg_Paths LC 64 t) {M : tp_M} {res : Int × tp_M} (h : fx_X4_waysTo  t a1 a2 M = some res) : tp_Ret X LC 64 1 yX4_waysTo (Cond.code yX4_waysTo cX4_waysTo 5 (some .int)) 3 [vR X t, vI a1, vI a2] M res := by
  refine tp_ofW (by decide +kernel) rfl rfl (by show _ ≤ 5; exact Nat.le_of_ble_eq_true rfl) h (fun Y G => ?_)
  show tp_J X Y LC 64 5 3 1 (fx_X4_waysTo  t a1 a2 M) M [(0, vR X t), (1, vI a1), (2, vI a2)] [] 0
  unfold fx_X4_waysTo
  refine tj_iconst (pc := 0) G dX4_waysTo_0 ?_
  refine tj_istore_n (pc := 1) G (fun x1 => [(3, vI x1), (0, vR X t), (1, vI a1), (2, vI a2)]) dX4_waysTo_1 rfl (by decide) (fun _ => rfl) (fun x1 => ?_)
  refine tj_iconst (pc := 2) G dX4_waysTo_2 ?_
  refine tj_istore (pc := 3) G (fun x2 => [(4, vI x2), (3, vI x1), (0, vR X t), (1, vI a1), (2, vI a2)]) dX4_waysTo_3 (by decide) (fun _ => rfl) (fun x2 => ?_)
  refine tj_sub [2, 3, 4, 1, 0] rfl (fx_X4_waysTo_L5_ok G  ht   tp_F x1 x2 M)

def fx_X4_reach_L26 (t : Nat) (c4 : Int) (c5 : Int) (K64 : Int → tp_M → tp_O) (rec : Int → Int → tp_M → tp_O) (z8 z9 : Int) (M10 : tp_M) : tp_O :=
(if w32 z9 < w32 (M10 t 4) then
(tp_jn1 (fun y12 M13 => 
(tp_lt (z9 + 1) (fun x14 =>
(rec y12 x14 M13)))) (fun jk58 =>
(if w32 (x_and (x_shr z8 z9) 1) = 1 then
(tp_ck (w32 z9) 8 (tp_lt (x_or z8 (x_and (M10 (t + 3) (w32 z9)) c4)) (fun x15 =>
(jk58 x15 M10))))
else
(jk58 z8 M10))))
else
(K64 z8 M10))
def fx_X4_reach_L14 (t : Nat) (c4 : Int) (rec : Int → Int → tp_M → tp_O) (z4 z5 : Int) (M6 : tp_M) : tp_O :=
(if w32 z5 < w32 (M6 t 4) then
(tp_lt 1 (fun x7 =>
(tp_lp2 (fx_X4_reach_L26 t c4 z5 (fun y11 M16 =>
(tp_lt (z5 + 1) (fun x17 =>
(rec y11 x17 M16))))) tp_F z4 x7 M6)))
else
(some (z4, M6)))
def fx_X4_reach  (t : Nat) (a1 : Int) (a2 : Int) (M : tp_M) : tp_O :=
(tp_lt (x_shl 1 a1) (fun x1 =>
(tp_lt (x_xor (x_shl 1 a2) (-1)) (fun x2 =>
(tp_lt 1 (fun x3 =>
(tp_lp2 (fx_X4_reach_L14 t x2 ) tp_F x1 x3 M)))))))
set_option maxRecDepth 100000 in
set_option maxHeartbeats 4000000 in
theorem fx_X4_reach_L26_ok {X : tp_X} {Y : tp_Y} (G : tp_Ok X Y 64 cX4_reach 7 RX4 (some .int))  {t : Nat} {c4 : Int} {c5 : Int} {K64 : Int → tp_M → tp_O} (ht : tg_Paths LC 64 t)  (hK64 : ∀ (y11 : Int) (M9 : tp_M), tp_J X Y LC 64 7 1 1 (K64 y11 M9) M9 [(0, vR X t), (3, vI y11), (4, vI c4), (5, vI c5)] [] 64) (n : Nat) : ∀ (z8 z9 : Int) (M10 : tp_M), tp_J X Y LC 64 7 1 1 (tp_lp2 (fx_X4_reach_L26 t c4 c5 K64) n z8 z9 M10) M10 [(0, vR X t), (3, vI z8), (4, vI c4), (5, vI c5), (6, vI z9)] [] 26 := by
  refine tp_lp2_ok (P := fun o z8 z9 M10 => tp_J X Y LC 64 7 1 1 (o) M10 [(0, vR X t), (3, vI z8), (4, vI c4), (5, vI c5), (6, vI z9)] [] 26) (fun z8 z9 M10 => tj_none) (fun rec hrec z8 z9 M10 => ?_) n
  unfold fx_X4_reach_L26
  refine tj_iload (pc := 26) G 4 dX4_reach_26 rfl ?_
  refine tj_aload_n (pc := 28) G 0 dX4_reach_28 rfl rfl ?_
  refine tj_getI (pc := 29) G (k := t) (j := 4) (j2 := 4) tk_X4 (tg_Paths_l0 ht) ht.2.1 rfl (by decide) rfl fl_X4_27 dX4_reach_29 ?_
  refine tj_icmp_ge (pc := 32) G (tgt := 64) (a2 := w32 z9) (b2 := w32 (M10 t 4)) dX4_reach_32 (by decide) rfl rfl ?_ ?_
  · exact tj_sub [0, 1, 2, 3] rfl (hK64 z8 M10)
  refine tj_iload_n (pc := 35) G 1 dX4_reach_35 rfl rfl ?_
  refine tj_iload (pc := 36) G 4 dX4_reach_36 rfl ?_
  refine tj_ishr (pc := 38) G dX4_reach_38 ?_
  refine tj_iconst (pc := 39) G dX4_reach_39 ?_
  refine tj_iand (pc := 40) G dX4_reach_40 ?_
  refine tj_iconst (pc := 41) G dX4_reach_41 ?_
  refine tj_jn1 (fun y12 => [(0, vR X t), (3, vI y12), (4, vI c4), (5, vI c5), (6, vI z9)]) (fun y12 => []) 58 (fun y12 M13 => ?_) (fun jk58 hj58 => ?_)
  · refine tj_iinc (pc := 58) G 4 (fun x14 => [(6, vI x14), (0, vR X t), (3, vI y12), (4, vI c4), (5, vI c5)]) dX4_reach_58 rfl (by decide) (fun _ => rfl) (fun x14 => ?_)
    refine tj_goto (pc := 61) G (tgt := 26) dX4_reach_61 (by decide) ?_
    exact tj_sub [1, 2, 3, 4, 0] rfl (hrec y12 x14 M13)
  refine tj_icmp_ne (pc := 42) G (tgt := 58) (a2 := w32 (x_and (x_shr z8 z9) 1)) (b2 := 1) dX4_reach_42 (by decide) rfl rfl ?_ ?_
  · exact tj_sub [0, 1, 2, 3, 4] rfl (hj58 z8 M10)
  refine tj_iload_n (pc := 45) G 1 dX4_reach_45 rfl rfl ?_
  refine tj_aload_n (pc := 46) G 0 dX4_reach_46 rfl rfl ?_
  refine tj_getR (pc := 47) G (k := t) (j := 2) (j2 := 2) tk_X4 (tg_Paths_l0 ht) ht.2.1 rfl (by decide) rfl fl_X4_18 dX4_reach_47 ?_
  refine tj_iload (pc := 50) G 4 dX4_reach_50 rfl ?_
  refine tj_iald (pc := 52) G (k := (t + 3)) (i2 := w32 z9) (n2 := 8) (tg_Paths_l3 ht) ht.2.2.2.2.1 rfl rfl dX4_reach_52 ?_
  refine tj_iload (pc := 53) G 2 dX4_reach_53 rfl ?_
  refine tj_iand (pc := 55) G dX4_reach_55 ?_
  refine tj_ior (pc := 56) G dX4_reach_56 ?_
  refine tj_istore_n (pc := 57) G (fun x15 => [(3, vI x15), (0, vR X t), (4, vI c4), (5, vI c5), (6, vI z9)]) dX4_reach_57 rfl (by decide) (fun _ => rfl) (fun x15 => ?_)
  exact tj_sub [1, 0, 2, 3, 4] rfl (hj58 x15 M10)
set_option maxRecDepth 100000 in
set_option maxHeartbeats 4000000 in
theorem fx_X4_reach_L14_ok {X : tp_X} {Y : tp_Y} (G : tp_Ok X Y 64 cX4_reach 7 RX4 (some .int))  {t : Nat} {c4 : Int} (ht : tg_Paths LC 64 t)   (n : Nat) : ∀ (z4 z5 : Int) (M6 : tp_M), tp_J X Y LC 64 7 1 1 (tp_lp2 (fx_X4_reach_L14 t c4 ) n z4 z5 M6) M6 [(0, vR X t), (3, vI z4), (4, vI c4), (5, vI z5)] [] 14 := by
  refine tp_lp2_ok (P := fun o z4 z5 M6 => tp_J X Y LC 64 7 1 1 (o) M6 [(0, vR X t), (3, vI z4), (4, vI c4), (5, vI z5)] [] 14) (fun z4 z5 M6 => tj_none) (fun rec hrec z4 z5 M6 => ?_) n
  unfold fx_X4_reach_L14
  refine tj_iload (pc := 14) G 3 dX4_reach_14 rfl ?_
  refine tj_aload_n (pc := 16) G 0 dX4_reach_16 rfl rfl ?_
  refine tj_getI (pc := 17) G (k := t) (j := 4) (j2 := 4) tk_X4 (tg_Paths_l0 ht) ht.2.1 rfl (by decide) rfl fl_X4_27 dX4_reach_17 ?_
  refine tj_icmp_ge (pc := 20) G (tgt := 70) (a2 := w32 z5) (b2 := w32 (M6 t 4)) dX4_reach_20 (by decide) rfl rfl ?_ ?_
  · refine tj_iload_n (pc := 70) G 1 dX4_reach_70 rfl rfl ?_
    exact tj_iret (pc := 71) G dX4_reach_71
  refine tj_iconst (pc := 23) G dX4_reach_23 ?_
  refine tj_istore (pc := 24) G (fun x7 => [(6, vI x7), (0, vR X t), (3, vI z4), (4, vI c4), (5, vI z5)]) dX4_reach_24 (by decide) (fun _ => rfl) (fun x7 => ?_)
  refine tj_sub [1, 2, 3, 4, 0] rfl (fx_X4_reach_L26_ok G  ht  (fun y11 M16 => ?_) tp_F z4 x7 M6)
  refine tj_iinc (pc := 64) G 3 (fun x17 => [(5, vI x17), (0, vR X t), (3, vI y11), (4, vI c4)]) dX4_reach_64 rfl (by decide) (fun _ => rfl) (fun x17 => ?_)
  refine tj_goto (pc := 67) G (tgt := 14) dX4_reach_67 (by decide) ?_
  exact tj_sub [1, 2, 3, 0] rfl (hrec y11 x17 M16)
set_option maxRecDepth 100000 in
set_option maxHeartbeats 4000000 in
theorem ok_X4_reach (X : tp_X)  {t : Nat} {a1 : Int} {a2 : Int} (ht : tg_Paths LC 64 t) {M : tp_M} {res : Int × tp_M} (h : fx_X4_reach  t a1 a2 M = some res) : tp_Ret X LC 64 1 yX4_reach (Cond.code yX4_reach cX4_reach 7 (some .int)) 1 [vR X t, vI a1, vI a2] M res := by
  refine tp_ofW (by decide +kernel) rfl rfl (by show _ ≤ 7; exact Nat.le_of_ble_eq_true rfl) h (fun Y G => ?_)
  show tp_J X Y LC 64 7 1 1 (fx_X4_reach  t a1 a2 M) M [(0, vR X t), (1, vI a1), (2, vI a2)] [] 0
  unfold fx_X4_reach
  refine tj_iconst (pc := 0) G dX4_reach_0 ?_
  refine tj_iload_n (pc := 1) G 1 dX4_reach_1 rfl rfl ?_
  refine tj_ishl (pc := 2) G dX4_reach_2 ?_
  refine tj_istore_n (pc := 3) G (fun x1 => [(3, vI x1), (0, vR X t), (1, vI a1), (2, vI a2)]) dX4_reach_3 rfl (by decide) (fun _ => rfl) (fun x1 => ?_)
  refine tj_iconst (pc := 4) G dX4_reach_4 ?_
  refine tj_iload_n (pc := 5) G 3 dX4_reach_5 rfl rfl ?_
  refine tj_ishl (pc := 6) G dX4_reach_6 ?_
  refine tj_iconst (pc := 7) G dX4_reach_7 ?_
  refine tj_ixor (pc := 8) G dX4_reach_8 ?_
  refine tj_istore (pc := 9) G (fun x2 => [(4, vI x2), (3, vI x1), (0, vR X t), (1, vI a1), (2, vI a2)]) dX4_reach_9 (by decide) (fun _ => rfl) (fun x2 => ?_)
  refine tj_iconst (pc := 11) G dX4_reach_11 ?_
  refine tj_istore (pc := 12) G (fun x3 => [(5, vI x3), (4, vI x2), (3, vI x1), (0, vR X t), (1, vI a1), (2, vI a2)]) dX4_reach_12 (by decide) (fun _ => rfl) (fun x3 => ?_)
  refine tj_sub [3, 2, 1, 0] rfl (fx_X4_reach_L14_ok G  ht   tp_F x1 x3 M)
