theorem tp_sl_at {b : Nat} {f : Int → Int} {ks : List Nat} {j kd : Nat} (h : ks[j]? = some kd) : (tp_sl b f ks)[j]? = some (tp_sv b f j kd) := by
  simp [tp_sl, List.getElem?_mapIdx, h]
theorem tp_sl_len {b : Nat} {f : Int → Int} {ks : List Nat} : (tp_sl b f ks).length = ks.length := by simp [tp_sl]
theorem tp_sl_set {b : Nat} {f : Int → Int} {ks : List Nat} {j kd : Nat} {x : Int} (h : ks[j]? = some kd) (hk : kd = 0 ∨ kd = 1) : (tp_sl b f ks).set j (tp_sv b (fun _ => x) j kd) = tp_sl b (fun j' => if j' = j then x else f j') ks := by
  apply List.ext_getElem?
  intro i
  rw [List.getElem?_set]
  by_cases hi : j = i
  · subst hi
    have hl : j < (tp_sl b f ks).length := by rw [tp_sl_len]; exact (List.getElem?_eq_some_iff.mp h).1
    rw [if_pos rfl, if_pos hl, tp_sl_at h]
    rcases hk with rfl | rfl <;> simp [tp_sv]
  · rw [if_neg hi]
    simp only [tp_sl, List.getElem?_mapIdx]
    cases hq : ks[i]? with
    | none => simp
    | some k =>
      simp only [Option.map_some]
      congr 1
      match k with
      | 0 => simp only [tp_sv]; rw [if_neg (by omega)]
      | 1 => simp only [tp_sv]; rw [if_neg (by omega)]
      | t + 2 => rfl
def tp_Cl (ci : Nat) (C : String) (T : u_T) (Nf : Nat) (ty : Nat → FieldType) : Prop := tp_cl[ci]? = some (C, T, Nf) ∧ (∀ w ∈ u_ws C T Nf, w ∈ tp_W) ∧ (∀ k, k < Nf → parseFieldDescriptor (T k).2.2.1 = some (ty k)) ∧ ∀ a, a < Nf → ∀ b, b < Nf → a ≠ b → (T a).2.1 ≠ (T b).2.1
theorem tp_put {X : tp_X} {L : Nat → tp_K} {N : Nat} {M : tp_M} {k n ci j kd : Nat} {ks : List Nat} {x : Int} {H1 : Heap} (hk : k < N) (hL : L k = (ci + 4, n, ks)) (hj : ks[j]? = some kd) (hkd : kd = 0 ∨ kd = 1) {v : Value} (hv : v = tp_sv X.2.2.2.2 (fun _ => x) j kd)
    (h : va_P X.2.1 tp_cl ((tp_ws L N X.2.2.1 X.2.2.2.2 M).set k (X.2.2.2.2 + k, .inr (ci, (tp_sl X.2.2.2.2 (M k) ks).set j v))) H1) : tp_P X L N (tp_up M k j x) H1 := by
  rw [tp_ws_set (j := (j : Int)) (x := x) hk (by rw [hv, tp_sl_set hj hkd, hL]; rfl)] at h
  exact h
theorem tp_ast {X : tp_X} {L : Nat → tp_K} {N : Nat} {M : tp_M} {k : Nat} {j x : Int} {e : va_E} {H1 : Heap} (hk : k < N) (he : e = tp_E X.2.2.1 X.2.2.2.2 (L k) (fun j' => if j' = j then x else M k j'))
    (h : va_P X.2.1 tp_cl ((tp_ws L N X.2.2.1 X.2.2.2.2 M).set k (X.2.2.2.2 + k, e)) H1) : tp_P X L N (tp_up M k j x) H1 := by
  rw [tp_ws_set hk he] at h
  exact h
theorem tp_upd {f : Int → Int} {i2 x : Int} {a : Int} (h0 : 0 ≤ i2) (hi : w32 a = i2) : upd (fun j : Nat => Int32.ofInt (f j)) (Int32.ofInt a).toNatClampNeg (Int32.ofInt x) = fun j : Nat => Int32.ofInt (if (j : Int) = i2 then x else f j) := by
  have hc := wi_cl (a := a) (by rw [hi]; exact h0)
  funext j
  unfold upd
  by_cases h : j = (Int32.ofInt a).toNatClampNeg
  · rw [if_pos h, if_pos (by rw [h, hc, hi])]
  · rw [if_neg h, if_neg (fun q => h (by omega))]
theorem tp_updL {f : Int → Int} {i2 x : Int} {a : Int} (h0 : 0 ≤ i2) (hi : w32 a = i2) : vp_updL (fun j : Nat => Int64.ofInt (f j)) (Int32.ofInt a).toNatClampNeg (Int64.ofInt x) = fun j : Nat => Int64.ofInt (if (j : Int) = i2 then x else f j) := by
  have hc := wi_cl (a := a) (by rw [hi]; exact h0)
  funext j
  unfold vp_updL
  by_cases h : j = (Int32.ofInt a).toNatClampNeg
  · rw [if_pos h, if_pos (by rw [h, hc, hi])]
  · rw [if_neg h, if_neg (fun q => h (by omega))]
theorem tp_nz2 {x : Int} (h : w32 x = 0 ∨ w32 x = 1) : narrow .boolean (vI x) = vI x := by
  unfold vI
  show Value.int (Int32.ofInt x &&& 1) = _
  rw [wi_and1, Value.int.injEq, wi_eq]
  have := w32_in x
  unfold w32 at *
  omega
theorem tp_fz {x : Int} (h : w32 x = 0 ∨ w32 x = 1) : fits .boolean (vI x) = true := by
  unfold vI
  show (Int32.ofInt x == 0 || Int32.ofInt x == 1) = true
  rw [Bool.or_eq_true, beq_iff_eq, beq_iff_eq, wi_eq0]
  exact h.imp id (fun q => (wi_eq x 1).mpr q)

section TJ
variable {X : tp_X} {Y : tp_Y} {L : Nat → tp_K} {N nL dep rk : Nat} {cc : ByteArray} {own : String} {ret : Option FieldType} {o : tp_O} {M : tp_M} {lv : tp_V} {st : List Value} {pc : Nat}
theorem tj_getI (G : tp_Ok X Y N cc nL own ret) {ci j k n Nf index : Nat} {C : String} {T : u_T} {ty : Nat → FieldType} {ks : List Nat} {j2 : Int} (Cx : tp_Cl ci C T Nf ty) (hk : k < N) (hL : L k = (ci + 4, n, ks)) (hj : ks[j]? = some (0)) (hjN : j < Nf) (hj2 : (j : Int) = j2) (hw : Cond.fieldLink own index (T j).1 (T j).2.1 (T j).2.2.1 ∈ tp_W) (d : decode cc pc = .ok (.getfield index, 3)) (kk : tp_J X Y L N nL dep rk o M lv (vI (M k j2) :: st) (pc + 3)) : tp_J X Y L N nL dep rk o M lv (vR X k :: st) (pc) := by
  obtain ⟨p, e, s, m, args, below, meth, c, res⟩ := Y
  obtain ⟨hx, hb, hml, hown, hts, hK, hNW, hE, hst, hr, hlk⟩ := G
  intro ho H locs ls hP hS hl
  subst hj2
  have he := tp_ws_at (L := L) (N := N) (I := X.2.2.1) (b := X.2.2.2.2) (M := M) hk
  rw [hL] at he
  refine va_get hx hb (ws := tp_ws L N X.2.2.1 X.2.2.2.2 M) hts Cx.2.1 hown hK hP k he Cx.1 j hjN (hts _ hw) (fun x h => h) (tp_sl_at hj) d ?_
  exact kk ho H locs ls hP hS hl
theorem tj_getL (G : tp_Ok X Y N cc nL own ret) {ci j k n Nf index : Nat} {C : String} {T : u_T} {ty : Nat → FieldType} {ks : List Nat} {j2 : Int} (Cx : tp_Cl ci C T Nf ty) (hk : k < N) (hL : L k = (ci + 4, n, ks)) (hj : ks[j]? = some (1)) (hjN : j < Nf) (hj2 : (j : Int) = j2) (hw : Cond.fieldLink own index (T j).1 (T j).2.1 (T j).2.2.1 ∈ tp_W) (d : decode cc pc = .ok (.getfield index, 3)) (kk : tp_J X Y L N nL dep rk o M lv (vL (M k j2) :: st) (pc + 3)) : tp_J X Y L N nL dep rk o M lv (vR X k :: st) (pc) := by
  obtain ⟨p, e, s, m, args, below, meth, c, res⟩ := Y
  obtain ⟨hx, hb, hml, hown, hts, hK, hNW, hE, hst, hr, hlk⟩ := G
  intro ho H locs ls hP hS hl
  subst hj2
  have he := tp_ws_at (L := L) (N := N) (I := X.2.2.1) (b := X.2.2.2.2) (M := M) hk
  rw [hL] at he
  refine va_get hx hb (ws := tp_ws L N X.2.2.1 X.2.2.2.2 M) hts Cx.2.1 hown hK hP k he Cx.1 j hjN (hts _ hw) (fun x h => h) (tp_sl_at hj) d ?_
  exact kk ho H locs ls hP hS hl
theorem tj_getR (G : tp_Ok X Y N cc nL own ret) {t : Nat} {ci j k n Nf index : Nat} {C : String} {T : u_T} {ty : Nat → FieldType} {ks : List Nat} {j2 : Int} (Cx : tp_Cl ci C T Nf ty) (hk : k < N) (hL : L k = (ci + 4, n, ks)) (hj : ks[j]? = some (t + 2)) (hjN : j < Nf) (hj2 : (j : Int) = j2) (hw : Cond.fieldLink own index (T j).1 (T j).2.1 (T j).2.2.1 ∈ tp_W) (d : decode cc pc = .ok (.getfield index, 3)) (kk : tp_J X Y L N nL dep rk o M lv (vR X t :: st) (pc + 3)) : tp_J X Y L N nL dep rk o M lv (vR X k :: st) (pc) := by
  obtain ⟨p, e, s, m, args, below, meth, c, res⟩ := Y
  obtain ⟨hx, hb, hml, hown, hts, hK, hNW, hE, hst, hr, hlk⟩ := G
  intro ho H locs ls hP hS hl
  subst hj2
  have he := tp_ws_at (L := L) (N := N) (I := X.2.2.1) (b := X.2.2.2.2) (M := M) hk
  rw [hL] at he
  refine va_get hx hb (ws := tp_ws L N X.2.2.1 X.2.2.2.2 M) hts Cx.2.1 hown hK hP k he Cx.1 j hjN (hts _ hw) (fun x h => h) (tp_sl_at hj) d ?_
  exact kk ho H locs ls hP hS hl
theorem tj_putI (G : tp_Ok X Y N cc nL own ret) {x : Int} {K : tp_M → tp_O} {ci j k n Nf index : Nat} {C : String} {T : u_T} {ty : Nat → FieldType} {ks : List Nat} {j2 : Int} (Cx : tp_Cl ci C T Nf ty) (hk : k < N) (hL : L k = (ci + 4, n, ks)) (hj : ks[j]? = some (0)) (hjN : j < Nf) (hj2 : (j : Int) = j2) (hw : Cond.fieldLink own index (T j).1 (T j).2.1 (T j).2.2.1 ∈ tp_W) (hfin : (T j).2.2.2 = false) (hty : ty j = .int) (d : decode cc pc = .ok (.putfield index, 3)) (kk : ∀ M1 : tp_M, tp_J X Y L N nL dep rk (K M1) M1 lv (st) (pc + 3)) : tp_J X Y L N nL dep rk (tp_lm (tp_up M k j2 x) K) M lv (vI x :: vR X k :: st) (pc) := by
  obtain ⟨p, e, s, m, args, below, meth, c, res⟩ := Y
  obtain ⟨hx, hb, hml, hown, hts, hK, hNW, hE, hst, hr, hlk⟩ := G
  intro ho H locs ls hP hS hl
  subst hj2
  have he := tp_ws_at (L := L) (N := N) (I := X.2.2.1) (b := X.2.2.2.2) (M := M) hk
  rw [hL] at he
  refine va_put hx hb (ws := tp_ws L N X.2.2.1 X.2.2.2.2 M) hts Cx.2.1 ty Cx.2.2.1 Cx.2.2.2 hown hK hP tp_ws_D hS k he Cx.1 j hjN (hts _ hw) (fun x h => h) hfin (hty ▸ Cx.2.2.1 j hjN) rfl rfl (by rw [tp_sl_len]; exact (List.getElem?_eq_some_iff.mp hj).1) d (fun H1 locs1 hP1 hD1 hS1 => ?_)
  exact kk _ ho H1 locs1 ls (tp_put hk hL hj (by first | exact Or.inl rfl | exact Or.inr rfl) rfl hP1) hS1 hl
theorem tj_putZ (G : tp_Ok X Y N cc nL own ret) {x : Int} {K : tp_M → tp_O} {ci j k n Nf index : Nat} {C : String} {T : u_T} {ty : Nat → FieldType} {ks : List Nat} {j2 : Int} (Cx : tp_Cl ci C T Nf ty) (hk : k < N) (hL : L k = (ci + 4, n, ks)) (hj : ks[j]? = some (0)) (hjN : j < Nf) (hj2 : (j : Int) = j2) (hw : Cond.fieldLink own index (T j).1 (T j).2.1 (T j).2.2.1 ∈ tp_W) (hfin : (T j).2.2.2 = false) (hty : ty j = .boolean) (hz : w32 x = 0 ∨ w32 x = 1) (d : decode cc pc = .ok (.putfield index, 3)) (kk : ∀ M1 : tp_M, tp_J X Y L N nL dep rk (K M1) M1 lv (st) (pc + 3)) : tp_J X Y L N nL dep rk (tp_lm (tp_up M k j2 x) K) M lv (vI x :: vR X k :: st) (pc) := by
  obtain ⟨p, e, s, m, args, below, meth, c, res⟩ := Y
  obtain ⟨hx, hb, hml, hown, hts, hK, hNW, hE, hst, hr, hlk⟩ := G
  intro ho H locs ls hP hS hl
  subst hj2
  have he := tp_ws_at (L := L) (N := N) (I := X.2.2.1) (b := X.2.2.2.2) (M := M) hk
  rw [hL] at he
  refine va_put hx hb (ws := tp_ws L N X.2.2.1 X.2.2.2.2 M) hts Cx.2.1 ty Cx.2.2.1 Cx.2.2.2 hown hK hP tp_ws_D hS k he Cx.1 j hjN (hts _ hw) (fun x h => h) hfin (hty ▸ Cx.2.2.1 j hjN) (tp_nz2 hz) (tp_fz hz) (by rw [tp_sl_len]; exact (List.getElem?_eq_some_iff.mp hj).1) d (fun H1 locs1 hP1 hD1 hS1 => ?_)
  exact kk _ ho H1 locs1 ls (tp_put hk hL hj (by first | exact Or.inl rfl | exact Or.inr rfl) rfl hP1) hS1 hl
theorem tj_putL (G : tp_Ok X Y N cc nL own ret) {x : Int} {K : tp_M → tp_O} {ci j k n Nf index : Nat} {C : String} {T : u_T} {ty : Nat → FieldType} {ks : List Nat} {j2 : Int} (Cx : tp_Cl ci C T Nf ty) (hk : k < N) (hL : L k = (ci + 4, n, ks)) (hj : ks[j]? = some (1)) (hjN : j < Nf) (hj2 : (j : Int) = j2) (hw : Cond.fieldLink own index (T j).1 (T j).2.1 (T j).2.2.1 ∈ tp_W) (hfin : (T j).2.2.2 = false) (hty : ty j = .long) (d : decode cc pc = .ok (.putfield index, 3)) (kk : ∀ M1 : tp_M, tp_J X Y L N nL dep rk (K M1) M1 lv (st) (pc + 3)) : tp_J X Y L N nL dep rk (tp_lm (tp_up M k j2 x) K) M lv (vL x :: vR X k :: st) (pc) := by
  obtain ⟨p, e, s, m, args, below, meth, c, res⟩ := Y
  obtain ⟨hx, hb, hml, hown, hts, hK, hNW, hE, hst, hr, hlk⟩ := G
  intro ho H locs ls hP hS hl
  subst hj2
  have he := tp_ws_at (L := L) (N := N) (I := X.2.2.1) (b := X.2.2.2.2) (M := M) hk
  rw [hL] at he
  refine va_put hx hb (ws := tp_ws L N X.2.2.1 X.2.2.2.2 M) hts Cx.2.1 ty Cx.2.2.1 Cx.2.2.2 hown hK hP tp_ws_D hS k he Cx.1 j hjN (hts _ hw) (fun x h => h) hfin (hty ▸ Cx.2.2.1 j hjN) rfl rfl (by rw [tp_sl_len]; exact (List.getElem?_eq_some_iff.mp hj).1) d (fun H1 locs1 hP1 hD1 hS1 => ?_)
  exact kk _ ho H1 locs1 ls (tp_put hk hL hj (by first | exact Or.inl rfl | exact Or.inr rfl) rfl hP1) hS1 hl
theorem tj_getIN (G : tp_Ok X Y N cc nL own ret) {host : String} {ci j k n Nf index : Nat} {C : String} {T : u_T} {ty : Nat → FieldType} {ks : List Nat} {j2 : Int} (Cx : tp_Cl ci C T Nf ty) (hk : k < N) (hL : L k = (ci + 4, n, ks)) (hj : ks[j]? = some (0)) (hjN : j < Nf) (hj2 : (j : Int) = j2) (hw : Cond.fieldLinkNest own index (T j).1 (T j).2.1 (T j).2.2.1 host ∈ tp_NW) (d : decode cc pc = .ok (.getfield index, 3)) (kk : tp_J X Y L N nL dep rk o M lv (vI (M k j2) :: st) (pc + 3)) : tp_J X Y L N nL dep rk o M lv (vR X k :: st) (pc) := by
  obtain ⟨p, e, s, m, args, below, meth, c, res⟩ := Y
  obtain ⟨hx, hb, hml, hown, hts, hK, hNW, hE, hst, hr, hlk⟩ := G
  intro ho H locs ls hP hS hl
  subst hj2
  have he := tp_ws_at (L := L) (N := N) (I := X.2.2.1) (b := X.2.2.2.2) (M := M) hk
  rw [hL] at he
  refine va_getN hx hb (ws := tp_ws L N X.2.2.1 X.2.2.2.2 M) hts Cx.2.1 hown hK hP k he Cx.1 j hjN (va_Nw.use rfl (hNW _ hw)) (fun x h => h) (tp_sl_at hj) d ?_
  exact kk ho H locs ls hP hS hl
theorem tj_getLN (G : tp_Ok X Y N cc nL own ret) {host : String} {ci j k n Nf index : Nat} {C : String} {T : u_T} {ty : Nat → FieldType} {ks : List Nat} {j2 : Int} (Cx : tp_Cl ci C T Nf ty) (hk : k < N) (hL : L k = (ci + 4, n, ks)) (hj : ks[j]? = some (1)) (hjN : j < Nf) (hj2 : (j : Int) = j2) (hw : Cond.fieldLinkNest own index (T j).1 (T j).2.1 (T j).2.2.1 host ∈ tp_NW) (d : decode cc pc = .ok (.getfield index, 3)) (kk : tp_J X Y L N nL dep rk o M lv (vL (M k j2) :: st) (pc + 3)) : tp_J X Y L N nL dep rk o M lv (vR X k :: st) (pc) := by
  obtain ⟨p, e, s, m, args, below, meth, c, res⟩ := Y
  obtain ⟨hx, hb, hml, hown, hts, hK, hNW, hE, hst, hr, hlk⟩ := G
  intro ho H locs ls hP hS hl
  subst hj2
  have he := tp_ws_at (L := L) (N := N) (I := X.2.2.1) (b := X.2.2.2.2) (M := M) hk
  rw [hL] at he
  refine va_getN hx hb (ws := tp_ws L N X.2.2.1 X.2.2.2.2 M) hts Cx.2.1 hown hK hP k he Cx.1 j hjN (va_Nw.use rfl (hNW _ hw)) (fun x h => h) (tp_sl_at hj) d ?_
  exact kk ho H locs ls hP hS hl
theorem tj_getRN (G : tp_Ok X Y N cc nL own ret) {host : String} {t : Nat} {ci j k n Nf index : Nat} {C : String} {T : u_T} {ty : Nat → FieldType} {ks : List Nat} {j2 : Int} (Cx : tp_Cl ci C T Nf ty) (hk : k < N) (hL : L k = (ci + 4, n, ks)) (hj : ks[j]? = some (t + 2)) (hjN : j < Nf) (hj2 : (j : Int) = j2) (hw : Cond.fieldLinkNest own index (T j).1 (T j).2.1 (T j).2.2.1 host ∈ tp_NW) (d : decode cc pc = .ok (.getfield index, 3)) (kk : tp_J X Y L N nL dep rk o M lv (vR X t :: st) (pc + 3)) : tp_J X Y L N nL dep rk o M lv (vR X k :: st) (pc) := by
  obtain ⟨p, e, s, m, args, below, meth, c, res⟩ := Y
  obtain ⟨hx, hb, hml, hown, hts, hK, hNW, hE, hst, hr, hlk⟩ := G
  intro ho H locs ls hP hS hl
  subst hj2
  have he := tp_ws_at (L := L) (N := N) (I := X.2.2.1) (b := X.2.2.2.2) (M := M) hk
  rw [hL] at he
  refine va_getN hx hb (ws := tp_ws L N X.2.2.1 X.2.2.2.2 M) hts Cx.2.1 hown hK hP k he Cx.1 j hjN (va_Nw.use rfl (hNW _ hw)) (fun x h => h) (tp_sl_at hj) d ?_
  exact kk ho H locs ls hP hS hl
theorem tj_putIN (G : tp_Ok X Y N cc nL own ret) {host : String} {x : Int} {K : tp_M → tp_O} {ci j k n Nf index : Nat} {C : String} {T : u_T} {ty : Nat → FieldType} {ks : List Nat} {j2 : Int} (Cx : tp_Cl ci C T Nf ty) (hk : k < N) (hL : L k = (ci + 4, n, ks)) (hj : ks[j]? = some (0)) (hjN : j < Nf) (hj2 : (j : Int) = j2) (hw : Cond.fieldLinkNest own index (T j).1 (T j).2.1 (T j).2.2.1 host ∈ tp_NW) (hfin : (T j).2.2.2 = false) (hty : ty j = .int) (d : decode cc pc = .ok (.putfield index, 3)) (kk : ∀ M1 : tp_M, tp_J X Y L N nL dep rk (K M1) M1 lv (st) (pc + 3)) : tp_J X Y L N nL dep rk (tp_lm (tp_up M k j2 x) K) M lv (vI x :: vR X k :: st) (pc) := by
  obtain ⟨p, e, s, m, args, below, meth, c, res⟩ := Y
  obtain ⟨hx, hb, hml, hown, hts, hK, hNW, hE, hst, hr, hlk⟩ := G
  intro ho H locs ls hP hS hl
  subst hj2
  have he := tp_ws_at (L := L) (N := N) (I := X.2.2.1) (b := X.2.2.2.2) (M := M) hk
  rw [hL] at he
  refine va_putN hx hb (ws := tp_ws L N X.2.2.1 X.2.2.2.2 M) hts Cx.2.1 ty Cx.2.2.1 Cx.2.2.2 hown hK hP tp_ws_D hS k he Cx.1 j hjN (va_Nw.use rfl (hNW _ hw)) (fun x h => h) hfin (hty ▸ Cx.2.2.1 j hjN) rfl rfl (by rw [tp_sl_len]; exact (List.getElem?_eq_some_iff.mp hj).1) d (fun H1 locs1 hP1 hD1 hS1 => ?_)
  exact kk _ ho H1 locs1 ls (tp_put hk hL hj (by first | exact Or.inl rfl | exact Or.inr rfl) rfl hP1) hS1 hl
theorem tj_iald (G : tp_Ok X Y N cc nL own ret) {k n : Nat} {ks : List Nat} {i i2 n2 : Int} (hk : k < N) (hL : L k = (0, n, ks)) (hi : w32 i = i2) (hn : (n : Int) = n2) (d : decode cc pc = .ok (.iaload, 1)) (kk : tp_J X Y L N nL dep rk o M lv (vI (M k i2) :: st) (pc + 1)) : tp_J X Y L N nL dep rk (tp_ck i2 n2 o) M lv (vI i :: vR X k :: st) (pc) := by
  obtain ⟨p, e, s, m, args, below, meth, c, res⟩ := Y
  obtain ⟨hx, hb, hml, hown, hts, hK, hNW, hE, hst, hr, hlk⟩ := G
  intro ho H locs ls hP hS hl
  subst hi
  subst hn
  unfold tp_ck at ho
  split at ho
  rotate_left
  · cases ho
  rename_i hin
  have he := tp_ws_at (L := L) (N := N) (I := X.2.2.1) (b := X.2.2.2.2) (M := M) hk
  rw [hL] at he
  refine va_iald hx hb (ws := tp_ws L N X.2.2.1 X.2.2.2.2 M) hK hP k 0 he rfl (wi_in hin) d ?_
  have hc := wi_cl (a := i) hin.1
  rw [hc]
  exact kk ho H locs ls hP hS hl
theorem tj_iald1 (G : tp_Ok X Y N cc nL own ret) {k n : Nat} {ks : List Nat} {i i2 n2 : Int} (hk : k < N) (hL : L k = (0, n, ks)) (hi : w32 i = i2) (hin : 0 ≤ i2 ∧ i2 < n) (d : decode cc pc = .ok (.iaload, 1)) (kk : tp_J X Y L N nL dep rk o M lv (vI (M k i2) :: st) (pc + 1)) : tp_J X Y L N nL dep rk o M lv (vI i :: vR X k :: st) (pc) := by
  obtain ⟨p, e, s, m, args, below, meth, c, res⟩ := Y
  obtain ⟨hx, hb, hml, hown, hts, hK, hNW, hE, hst, hr, hlk⟩ := G
  intro ho H locs ls hP hS hl
  subst hi
  have he := tp_ws_at (L := L) (N := N) (I := X.2.2.1) (b := X.2.2.2.2) (M := M) hk
  rw [hL] at he
  refine va_iald hx hb (ws := tp_ws L N X.2.2.1 X.2.2.2.2 M) hK hP k 0 he rfl (wi_in hin) d ?_
  have hc := wi_cl (a := i) hin.1
  rw [hc]
  exact kk ho H locs ls hP hS hl
theorem tj_lald (G : tp_Ok X Y N cc nL own ret) {k n : Nat} {ks : List Nat} {i i2 n2 : Int} (hk : k < N) (hL : L k = (1, n, ks)) (hi : w32 i = i2) (hn : (n : Int) = n2) (d : decode cc pc = .ok (.laload, 1)) (kk : tp_J X Y L N nL dep rk o M lv (vL (M k i2) :: st) (pc + 1)) : tp_J X Y L N nL dep rk (tp_ck i2 n2 o) M lv (vI i :: vR X k :: st) (pc) := by
  obtain ⟨p, e, s, m, args, below, meth, c, res⟩ := Y
  obtain ⟨hx, hb, hml, hown, hts, hK, hNW, hE, hst, hr, hlk⟩ := G
  intro ho H locs ls hP hS hl
  subst hi
  subst hn
  unfold tp_ck at ho
  split at ho
  rotate_left
  · cases ho
  rename_i hin
  have he := tp_ws_at (L := L) (N := N) (I := X.2.2.1) (b := X.2.2.2.2) (M := M) hk
  rw [hL] at he
  refine va_lald hx hb (ws := tp_ws L N X.2.2.1 X.2.2.2.2 M) hK hP k 1 he rfl (wi_in hin) d ?_
  have hc := wi_cl (a := i) hin.1
  rw [hc]
  exact kk ho H locs ls hP hS hl
theorem tj_lald1 (G : tp_Ok X Y N cc nL own ret) {k n : Nat} {ks : List Nat} {i i2 n2 : Int} (hk : k < N) (hL : L k = (1, n, ks)) (hi : w32 i = i2) (hin : 0 ≤ i2 ∧ i2 < n) (d : decode cc pc = .ok (.laload, 1)) (kk : tp_J X Y L N nL dep rk o M lv (vL (M k i2) :: st) (pc + 1)) : tp_J X Y L N nL dep rk o M lv (vI i :: vR X k :: st) (pc) := by
  obtain ⟨p, e, s, m, args, below, meth, c, res⟩ := Y
  obtain ⟨hx, hb, hml, hown, hts, hK, hNW, hE, hst, hr, hlk⟩ := G
  intro ho H locs ls hP hS hl
  subst hi
  have he := tp_ws_at (L := L) (N := N) (I := X.2.2.1) (b := X.2.2.2.2) (M := M) hk
  rw [hL] at he
  refine va_lald hx hb (ws := tp_ws L N X.2.2.1 X.2.2.2.2 M) hK hP k 1 he rfl (wi_in hin) d ?_
  have hc := wi_cl (a := i) hin.1
  rw [hc]
  exact kk ho H locs ls hP hS hl
theorem tj_zald (G : tp_Ok X Y N cc nL own ret) {k n : Nat} {ks : List Nat} {i i2 n2 : Int} (hk : k < N) (hL : L k = (2, n, ks)) (hi : w32 i = i2) (hn : (n : Int) = n2) (d : decode cc pc = .ok (.baload, 1)) (kk : tp_J X Y L N nL dep rk o M lv (vI (M k i2) :: st) (pc + 1)) : tp_J X Y L N nL dep rk (tp_ck i2 n2 o) M lv (vI i :: vR X k :: st) (pc) := by
  obtain ⟨p, e, s, m, args, below, meth, c, res⟩ := Y
  obtain ⟨hx, hb, hml, hown, hts, hK, hNW, hE, hst, hr, hlk⟩ := G
  intro ho H locs ls hP hS hl
  subst hi
  subst hn
  unfold tp_ck at ho
  split at ho
  rotate_left
  · cases ho
  rename_i hin
  have he := tp_ws_at (L := L) (N := N) (I := X.2.2.1) (b := X.2.2.2.2) (M := M) hk
  rw [hL] at he
  refine va_zald hx hb (ws := tp_ws L N X.2.2.1 X.2.2.2.2 M) hK hP k 2 he rfl (wi_in hin) d ?_
  have hc := wi_cl (a := i) hin.1
  rw [hc]
  exact kk ho H locs ls hP hS hl
theorem tj_zald1 (G : tp_Ok X Y N cc nL own ret) {k n : Nat} {ks : List Nat} {i i2 n2 : Int} (hk : k < N) (hL : L k = (2, n, ks)) (hi : w32 i = i2) (hin : 0 ≤ i2 ∧ i2 < n) (d : decode cc pc = .ok (.baload, 1)) (kk : tp_J X Y L N nL dep rk o M lv (vI (M k i2) :: st) (pc + 1)) : tp_J X Y L N nL dep rk o M lv (vI i :: vR X k :: st) (pc) := by
  obtain ⟨p, e, s, m, args, below, meth, c, res⟩ := Y
  obtain ⟨hx, hb, hml, hown, hts, hK, hNW, hE, hst, hr, hlk⟩ := G
  intro ho H locs ls hP hS hl
  subst hi
  have he := tp_ws_at (L := L) (N := N) (I := X.2.2.1) (b := X.2.2.2.2) (M := M) hk
  rw [hL] at he
  refine va_zald hx hb (ws := tp_ws L N X.2.2.1 X.2.2.2.2 M) hK hP k 2 he rfl (wi_in hin) d ?_
  have hc := wi_cl (a := i) hin.1
  rw [hc]
  exact kk ho H locs ls hP hS hl
theorem tj_iast (G : tp_Ok X Y N cc nL own ret) {x : Int} {K : tp_M → tp_O} {k n : Nat} {ks : List Nat} {i i2 n2 : Int} (hk : k < N) (hL : L k = (0, n, ks)) (hi : w32 i = i2) (hn : (n : Int) = n2) (d : decode cc pc = .ok (.iastore, 1)) (kk : ∀ M1 : tp_M, tp_J X Y L N nL dep rk (K M1) M1 lv (st) (pc + 1)) : tp_J X Y L N nL dep rk (tp_ck i2 n2 (tp_lm (tp_up M k i2 x) K)) M lv (vI x :: vI i :: vR X k :: st) (pc) := by
  obtain ⟨p, e, s, m, args, below, meth, c, res⟩ := Y
  obtain ⟨hx, hb, hml, hown, hts, hK, hNW, hE, hst, hr, hlk⟩ := G
  intro ho H locs ls hP hS hl
  have hi0 := hi
  subst hi
  subst hn
  unfold tp_ck at ho
  split at ho
  rotate_left
  · cases ho
  rename_i hin
  have he := tp_ws_at (L := L) (N := N) (I := X.2.2.1) (b := X.2.2.2.2) (M := M) hk
  rw [hL] at he
  refine va_iast hx hb (ws := tp_ws L N X.2.2.1 X.2.2.2.2 M) hK hP tp_ws_D hS k 0 he rfl (wi_in hin) d (fun H1 locs1 hP1 hD1 hS1 => ?_)
  exact kk _ ho H1 locs1 ls (tp_ast hk (by rw [tp_upd hin.1 rfl, hL]; rfl) hP1) hS1 hl
theorem tj_iast1 (G : tp_Ok X Y N cc nL own ret) {x : Int} {K : tp_M → tp_O} {k n : Nat} {ks : List Nat} {i i2 n2 : Int} (hk : k < N) (hL : L k = (0, n, ks)) (hi : w32 i = i2) (hin : 0 ≤ i2 ∧ i2 < n) (d : decode cc pc = .ok (.iastore, 1)) (kk : ∀ M1 : tp_M, tp_J X Y L N nL dep rk (K M1) M1 lv (st) (pc + 1)) : tp_J X Y L N nL dep rk (tp_lm (tp_up M k i2 x) K) M lv (vI x :: vI i :: vR X k :: st) (pc) := by
  obtain ⟨p, e, s, m, args, below, meth, c, res⟩ := Y
  obtain ⟨hx, hb, hml, hown, hts, hK, hNW, hE, hst, hr, hlk⟩ := G
  intro ho H locs ls hP hS hl
  have hi0 := hi
  subst hi
  have he := tp_ws_at (L := L) (N := N) (I := X.2.2.1) (b := X.2.2.2.2) (M := M) hk
  rw [hL] at he
  refine va_iast hx hb (ws := tp_ws L N X.2.2.1 X.2.2.2.2 M) hK hP tp_ws_D hS k 0 he rfl (wi_in hin) d (fun H1 locs1 hP1 hD1 hS1 => ?_)
  exact kk _ ho H1 locs1 ls (tp_ast hk (by rw [tp_upd hin.1 rfl, hL]; rfl) hP1) hS1 hl
theorem tj_last (G : tp_Ok X Y N cc nL own ret) {x : Int} {K : tp_M → tp_O} {k n : Nat} {ks : List Nat} {i i2 n2 : Int} (hk : k < N) (hL : L k = (1, n, ks)) (hi : w32 i = i2) (hn : (n : Int) = n2) (d : decode cc pc = .ok (.lastore, 1)) (kk : ∀ M1 : tp_M, tp_J X Y L N nL dep rk (K M1) M1 lv (st) (pc + 1)) : tp_J X Y L N nL dep rk (tp_ck i2 n2 (tp_lm (tp_up M k i2 x) K)) M lv (vL x :: vI i :: vR X k :: st) (pc) := by
  obtain ⟨p, e, s, m, args, below, meth, c, res⟩ := Y
  obtain ⟨hx, hb, hml, hown, hts, hK, hNW, hE, hst, hr, hlk⟩ := G
  intro ho H locs ls hP hS hl
  have hi0 := hi
  subst hi
  subst hn
  unfold tp_ck at ho
  split at ho
  rotate_left
  · cases ho
  rename_i hin
  have he := tp_ws_at (L := L) (N := N) (I := X.2.2.1) (b := X.2.2.2.2) (M := M) hk
  rw [hL] at he
  refine va_last hx hb (ws := tp_ws L N X.2.2.1 X.2.2.2.2 M) hK hP tp_ws_D hS k 1 he rfl (wi_in hin) d (fun H1 locs1 hP1 hD1 hS1 => ?_)
  exact kk _ ho H1 locs1 ls (tp_ast hk (by rw [tp_updL hin.1 rfl, hL]; rfl) hP1) hS1 hl
theorem tj_last1 (G : tp_Ok X Y N cc nL own ret) {x : Int} {K : tp_M → tp_O} {k n : Nat} {ks : List Nat} {i i2 n2 : Int} (hk : k < N) (hL : L k = (1, n, ks)) (hi : w32 i = i2) (hin : 0 ≤ i2 ∧ i2 < n) (d : decode cc pc = .ok (.lastore, 1)) (kk : ∀ M1 : tp_M, tp_J X Y L N nL dep rk (K M1) M1 lv (st) (pc + 1)) : tp_J X Y L N nL dep rk (tp_lm (tp_up M k i2 x) K) M lv (vL x :: vI i :: vR X k :: st) (pc) := by
  obtain ⟨p, e, s, m, args, below, meth, c, res⟩ := Y
  obtain ⟨hx, hb, hml, hown, hts, hK, hNW, hE, hst, hr, hlk⟩ := G
  intro ho H locs ls hP hS hl
  have hi0 := hi
  subst hi
  have he := tp_ws_at (L := L) (N := N) (I := X.2.2.1) (b := X.2.2.2.2) (M := M) hk
  rw [hL] at he
  refine va_last hx hb (ws := tp_ws L N X.2.2.1 X.2.2.2.2 M) hK hP tp_ws_D hS k 1 he rfl (wi_in hin) d (fun H1 locs1 hP1 hD1 hS1 => ?_)
  exact kk _ ho H1 locs1 ls (tp_ast hk (by rw [tp_updL hin.1 rfl, hL]; rfl) hP1) hS1 hl
theorem tj_zast (G : tp_Ok X Y N cc nL own ret) {x : Int} {K : tp_M → tp_O} {k n : Nat} {ks : List Nat} {i i2 n2 : Int} (hk : k < N) (hL : L k = (2, n, ks)) (hi : w32 i = i2) (hn : (n : Int) = n2) (hz : w32 x = 0 ∨ w32 x = 1) (d : decode cc pc = .ok (.bastore, 1)) (kk : ∀ M1 : tp_M, tp_J X Y L N nL dep rk (K M1) M1 lv (st) (pc + 1)) : tp_J X Y L N nL dep rk (tp_ck i2 n2 (tp_lm (tp_up M k i2 x) K)) M lv (vI x :: vI i :: vR X k :: st) (pc) := by
  obtain ⟨p, e, s, m, args, below, meth, c, res⟩ := Y
  obtain ⟨hx, hb, hml, hown, hts, hK, hNW, hE, hst, hr, hlk⟩ := G
  intro ho H locs ls hP hS hl
  have hi0 := hi
  subst hi
  subst hn
  unfold tp_ck at ho
  split at ho
  rotate_left
  · cases ho
  rename_i hin
  have he := tp_ws_at (L := L) (N := N) (I := X.2.2.1) (b := X.2.2.2.2) (M := M) hk
  rw [hL] at he
  refine va_zast hx hb (ws := tp_ws L N X.2.2.1 X.2.2.2.2 M) hK hP tp_ws_D hS k 2 he rfl (wi_in hin) d (fun H1 locs1 hP1 hD1 hS1 => ?_)
  have hz1 : vp_nar .boolean (Int32.ofInt x) = Int32.ofInt x := by
    have h9 := tp_nz2 hz
    unfold vI at h9
    unfold vp_nar
    rw [h9]
  rw [hz1] at hP1
  exact kk _ ho H1 locs1 ls (tp_ast hk (by rw [tp_upd hin.1 rfl, hL]; rfl) hP1) hS1 hl
theorem tj_zast1 (G : tp_Ok X Y N cc nL own ret) {x : Int} {K : tp_M → tp_O} {k n : Nat} {ks : List Nat} {i i2 n2 : Int} (hk : k < N) (hL : L k = (2, n, ks)) (hi : w32 i = i2) (hin : 0 ≤ i2 ∧ i2 < n) (hz : w32 x = 0 ∨ w32 x = 1) (d : decode cc pc = .ok (.bastore, 1)) (kk : ∀ M1 : tp_M, tp_J X Y L N nL dep rk (K M1) M1 lv (st) (pc + 1)) : tp_J X Y L N nL dep rk (tp_lm (tp_up M k i2 x) K) M lv (vI x :: vI i :: vR X k :: st) (pc) := by
  obtain ⟨p, e, s, m, args, below, meth, c, res⟩ := Y
  obtain ⟨hx, hb, hml, hown, hts, hK, hNW, hE, hst, hr, hlk⟩ := G
  intro ho H locs ls hP hS hl
  have hi0 := hi
  subst hi
  have he := tp_ws_at (L := L) (N := N) (I := X.2.2.1) (b := X.2.2.2.2) (M := M) hk
  rw [hL] at he
  refine va_zast hx hb (ws := tp_ws L N X.2.2.1 X.2.2.2.2 M) hK hP tp_ws_D hS k 2 he rfl (wi_in hin) d (fun H1 locs1 hP1 hD1 hS1 => ?_)
  have hz1 : vp_nar .boolean (Int32.ofInt x) = Int32.ofInt x := by
    have h9 := tp_nz2 hz
    unfold vI at h9
    unfold vp_nar
    rw [h9]
  rw [hz1] at hP1
  exact kk _ ho H1 locs1 ls (tp_ast hk (by rw [tp_upd hin.1 rfl, hL]; rfl) hP1) hS1 hl
theorem tj_alen (G : tp_Ok X Y N cc nL own ret) {k n : Nat} {ks : List Nat} {tg : Nat} {n2 : Int} (hk : k < N) (hL : L k = (tg, n, ks)) (hn : (n : Int) = n2) (ht : tg < 3) (d : decode cc pc = .ok (.arraylength, 1)) (kk : tp_J X Y L N nL dep rk o M lv (vI n2 :: st) (pc + 1)) : tp_J X Y L N nL dep rk o M lv (vR X k :: st) (pc) := by
  obtain ⟨p, e, s, m, args, below, meth, c, res⟩ := Y
  obtain ⟨hx, hb, hml, hown, hts, hK, hNW, hE, hst, hr, hlk⟩ := G
  intro ho H locs ls hP hS hl
  subst hn
  have he := tp_ws_at (L := L) (N := N) (I := X.2.2.1) (b := X.2.2.2.2) (M := M) hk
  rw [hL] at he
  match tg, ht, hL, he with
  | 0, _, hL, he => exact va_alen hx hb (ws := tp_ws L N X.2.2.1 X.2.2.2.2 M) hK hP k 0 he (ty := .int) rfl (v := Int32.ofInt n) (by rfl) d (kk ho H locs ls hP hS hl)
  | 1, _, hL, he => exact va_alen hx hb (ws := tp_ws L N X.2.2.1 X.2.2.2.2 M) hK hP k 1 he (ty := .long) rfl (v := Int32.ofInt n) (by rfl) d (kk ho H locs ls hP hS hl)
  | 2, _, hL, he => exact va_alen hx hb (ws := tp_ws L N X.2.2.1 X.2.2.2.2 M) hK hP k 2 he (ty := .boolean) rfl (v := Int32.ofInt n) (by rfl) d (kk ho H locs ls hP hS hl)
theorem tj_aald (G : tp_Ok X Y N cc nL own ret) {k n t : Nat} {i i2 n2 : Int} (hk : k < N) (hL : L k = (3, n, [t])) (hi : w32 i = i2) (hn : (n : Int) = n2) (d : decode cc pc = .ok (.aaload, 1)) (kk : 0 ≤ i2 ∧ i2 < n2 → tp_J X Y L N nL dep rk o M lv (vR X (t + i2.toNat) :: st) (pc + 1)) : tp_J X Y L N nL dep rk (tp_ck i2 n2 o) M lv (vI i :: vR X k :: st) (pc) := by
  obtain ⟨p, e, s, m, args, below, meth, c, res⟩ := Y
  obtain ⟨hx, hb, hml, hown, hts, hK, hNW, hE, hst, hr, hlk⟩ := G
  intro ho H locs ls hP hS hl
  subst hi; subst hn
  unfold tp_ck at ho
  split at ho
  rotate_left
  · cases ho
  rename_i hin
  have he := tp_ws_at (L := L) (N := N) (I := X.2.2.1) (b := X.2.2.2.2) (M := M) hk
  rw [hL] at he
  have hlt : (Int32.ofInt i).toNatClampNeg < n := by
    have hc := wi_cl (a := i) hin.1
    omega
  refine W.aald (v := .ref (X.2.2.2.2 + (t + (Int32.ofInt i).toNatClampNeg))) (ty := .array .long) hx hb (hP k _ he) ((hK.2 3 _ rfl).1 n (fun j => va_rf (some (X.2.2.2.2 + (t + j))))) rfl (fun q => by cases q) (by show ¬ (_ ∨ (arrV _ _ _).slots.size ≤ _); rw [arrV_size]; exact wi_in hin) (by show (arrV _ _ _).slots[_]? = _; rw [arrV_read _ _ hlt]; rfl) rfl rfl d ?_
  have hc : (Int32.ofInt i).toNatClampNeg = (w32 i).toNat := by
    have hc := wi_cl (a := i) hin.1
    omega
  rw [hc]
  exact kk hin ho H locs ls hP hS hl
theorem tj_copy (G : tp_Ok X Y N cc nL own ret) {k0 k1 n0 n1 index : Nat} {ks0 ks1 : List Nat} {sp dp n sp2 dp2 n2 : Int} {K : tp_M → tp_O} (hk0 : k0 < N) (hk1 : k1 < N) (hL0 : L k0 = (0, n0, ks0)) (hL1 : L k1 = (0, n1, ks1)) (hsp : w32 sp = sp2) (hdp : w32 dp = dp2) (hn : w32 n = n2) (hw : Cond.methodLink own index arraycopyName ∈ tp_W) (hw2 : Cond.native arraycopyName ∈ tp_W ∧ Cond.static arraycopyName ∈ tp_W ∧ Cond.initialized "java/lang/System" ∈ tp_W) (hd1 : 1 ≤ dep) (hs : (st.map fun v => v.category).sum ≤ 8) (d : decode cc pc = .ok (.invokestatic index, 3)) (kk : ∀ M1 : tp_M, tp_J X Y L N nL dep rk (K M1) M1 lv (st) (pc + 3)) : tp_J X Y L N nL dep rk (tp_gd (0 ≤ sp2 ∧ 0 ≤ dp2 ∧ 0 ≤ n2 ∧ sp2 + n2 ≤ n0 ∧ dp2 + n2 ≤ n1) inferInstance (tp_lm (tp_cp M k0 sp2 k1 dp2 n2) K)) M lv (vI n :: vI dp :: vR X k1 :: vI sp :: vR X k0 :: st) (pc) := by
  obtain ⟨p, e, s, m, args, below, meth, c, res⟩ := Y
  obtain ⟨hx, hb, hml, hown, hts, hK, hNW, hE, hst, hr, hlk⟩ := G
  intro ho H locs ls hP hS hl
  subst hsp; subst hdp; subst hn
  unfold tp_gd at ho
  split at ho
  rotate_left
  · cases ho
  rename_i hin
  obtain ⟨g1, g2, g3, g4, g5⟩ := hin
  have he0 := tp_ws_at (L := L) (N := N) (I := X.2.2.1) (b := X.2.2.2.2) (M := M) hk0
  have he1 := tp_ws_at (L := L) (N := N) (I := X.2.2.1) (b := X.2.2.2.2) (M := M) hk1
  rw [hL0] at he0
  rw [hL1] at he1
  have c1 := wi_cl (a := sp) g1
  have c2 := wi_cl (a := dp) g2
  have c3 := wi_cl (a := n) g3
  refine va_copyi hx hb (hml.trans hl.1.symm) hown (hts _ hw) (hts _ hw2.1) (hts _ hw2.2.1) (hts _ hw2.2.2) (ws := tp_ws L N X.2.2.1 X.2.2.2.2 M) hK hP tp_ws_D hS k0 k1 0 0 he0 he1 (ty := .int) rfl rfl rfl (by rw [wi_lt0]; omega) (by rw [wi_lt0]; omega) (by rw [wi_lt0]; omega) (by show _ ≤ n0; omega) (by show _ ≤ n1; omega) (fun _ _ => rfl) hd1 (by
    have h9 : nativeFrameWords "java/lang/System" "arraycopy" 5 + 11 ≤ 40 := by decide
    show _ ≤ 64 * dep
    omega) d (fun H1 locs1 hP1 hD1 hS1 => ?_)
  refine kk _ ho H1 locs1 ls ?_ hS1 hl
  have e : (tp_ws L N X.2.2.1 X.2.2.2.2 M).set k1 (X.2.2.2.2 + k1, .inl (X.2.2.1 0, n1, .inl (va_cpy (fun j : Nat => Int32.ofInt (M k0 j)) (fun j : Nat => Int32.ofInt (M k1 j)) (Int32.ofInt sp).toNatClampNeg (Int32.ofInt dp).toNatClampNeg (Int32.ofInt n).toNatClampNeg))) = tp_ws L N X.2.2.1 X.2.2.2.2 (tp_cp M k0 (w32 sp) k1 (w32 dp) (w32 n)) := by
    apply List.ext_getElem?
    intro i
    rw [List.getElem?_set]
    by_cases hi : k1 = i
    · subst hi
      rw [if_pos rfl, if_pos (by simp [tp_ws, hk1]), tp_ws_at hk1, hL1]
      show some (_, Sum.inl (_, _, Sum.inl _)) = some (_, Sum.inl (_, _, Sum.inl _))
      congr 6
      funext j
      unfold va_cpy tp_cp
      by_cases hj : (Int32.ofInt dp).toNatClampNeg ≤ j ∧ j < (Int32.ofInt dp).toNatClampNeg + (Int32.ofInt n).toNatClampNeg
      · rw [if_pos hj, if_pos ⟨rfl, by omega, by omega⟩]
        refine congrArg (fun z => Int32.ofInt (M k0 z)) ?_
        omega
      · rw [if_neg hj, if_neg (fun q => hj ⟨by omega, by omega⟩)]
    · rw [if_neg hi]
      by_cases hN : i < N
      · rw [tp_ws_at hN, tp_ws_at hN]
        congr 3
        funext j
        simp only [tp_cp]
        rw [if_neg (fun q => hi q.1.symm)]
      · simp [tp_ws, hN]
  rw [e] at hP1
  exact hP1
theorem tj_min (G : tp_Ok X Y N cc nL own ret) {index : Nat} {a b a2 b2 : Int} (ha : w32 a = a2) (hb2 : w32 b = b2) (hw : Cond.methodLink own index Lib.Math.min.name ∈ tp_W) (hw2 : Cond.static Lib.Math.min.name ∈ tp_W ∧ Cond.initialized "java/lang/Math" ∈ tp_W ∧ Cond.code Lib.Math.min.name Lib.Math.min.code 2 (some .int) ∈ tp_W) (hd1 : 1 ≤ dep) (hs : (st.map fun v => v.category).sum ≤ 8) (d : decode cc pc = .ok (.invokestatic index, 3)) (kk : tp_J X Y L N nL dep rk o M lv (vI (min a2 b2) :: st) (pc + 3)) : tp_J X Y L N nL dep rk o M lv (vI b :: vI a :: st) (pc) := by
  obtain ⟨p, e, s, m, args, below, meth, c, res⟩ := Y
  obtain ⟨hx, hb, hml, hown, hts, hK, hNW, hE, hst, hr, hlk⟩ := G
  intro ho H locs ls hP hS hl
  subst ha; subst hb2
  refine va_mmin hx hb (hml.trans hl.1.symm) hown (hts _ hw) (hts _ hw2.1) (hts _ hw2.2.1) (hts _ hw2.2.2) hd1 (by show _ ≤ 64 * dep; omega) (Nat.zero_le _) (Nat.zero_le _) d ?_
  have e : Value.int (if Int32.ofInt b < Int32.ofInt a then Int32.ofInt b else Int32.ofInt a) = vI (min (w32 a) (w32 b)) := by
    unfold vI
    rw [Value.int.injEq]
    split
    · rename_i h
      rw [wi_lt] at h
      rw [show min (w32 a) (w32 b) = w32 b by omega, w32_w]
    · rename_i h
      rw [wi_lt] at h
      rw [show min (w32 a) (w32 b) = w32 a by omega, w32_w]
  rw [e]
  exact kk ho H locs ls hP hS hl
theorem tj_max (G : tp_Ok X Y N cc nL own ret) {index : Nat} {a b a2 b2 : Int} (ha : w32 a = a2) (hb2 : w32 b = b2) (hw : Cond.methodLink own index Lib.Math.max.name ∈ tp_W) (hw2 : Cond.static Lib.Math.max.name ∈ tp_W ∧ Cond.initialized "java/lang/Math" ∈ tp_W ∧ Cond.code Lib.Math.max.name Lib.Math.max.code 2 (some .int) ∈ tp_W) (hd1 : 1 ≤ dep) (hs : (st.map fun v => v.category).sum ≤ 8) (d : decode cc pc = .ok (.invokestatic index, 3)) (kk : tp_J X Y L N nL dep rk o M lv (vI (max a2 b2) :: st) (pc + 3)) : tp_J X Y L N nL dep rk o M lv (vI b :: vI a :: st) (pc) := by
  obtain ⟨p, e, s, m, args, below, meth, c, res⟩ := Y
  obtain ⟨hx, hb, hml, hown, hts, hK, hNW, hE, hst, hr, hlk⟩ := G
  intro ho H locs ls hP hS hl
  subst ha; subst hb2
  refine va_mmax hx hb (hml.trans hl.1.symm) hown (hts _ hw) (hts _ hw2.1) (hts _ hw2.2.1) (hts _ hw2.2.2) hd1 (by show _ ≤ 64 * dep; omega) (Nat.zero_le _) (Nat.zero_le _) d ?_
  have e : Value.int (if Int32.ofInt a < Int32.ofInt b then Int32.ofInt b else Int32.ofInt a) = vI (max (w32 a) (w32 b)) := by
    unfold vI
    rw [Value.int.injEq]
    split
    · rename_i h
      rw [wi_lt] at h
      rw [show max (w32 a) (w32 b) = w32 b by omega, w32_w]
    · rename_i h
      rw [wi_lt] at h
      rw [show max (w32 a) (w32 b) = w32 a by omega, w32_w]
  rw [e]
  exact kk ho H locs ls hP hS hl
end TJ
section TR
variable {X : tp_X} {Y : tp_Y} {L : Nat → tp_K} {N nL dep : Nat} {cc : ByteArray} {own : String} {ret : Option FieldType} {M : tp_M} {lv : tp_V} {st : List Value} {pc : Nat}
theorem tj_iret (G : tp_Ok X Y N cc nL own (some .int)) {a : Int} (d : decode cc pc = .ok (.ireturn, 1)) : tp_J X Y L N nL dep 1 (some (a, M)) M lv ([vI a]) pc := by
  obtain ⟨p, e, s, m, args, below, meth, c, res⟩ := Y
  obtain ⟨hx, hb, hml, hown, hts, hK, hNW, hE, hst, hr, hlk⟩ := G
  intro ho H locs ls hP hS hl
  cases ho
  exact W.iret hx hb hr (fun t ht _ => ⟨⟨_, (), rfl, rfl, by show tp_P X L N M t.heap; rw [ht]; exact hP⟩, by rw [va_F]; exact ⟨by rw [ht]; exact hS.1, fun q h1 h2 => by rw [ht]; exact hS.2.1 q h1 h2⟩⟩) (fun q hq => hS.2.2 q hq) d hlk
theorem tj_zret (G : tp_Ok X Y N cc nL own (some .boolean)) {a : Int} (hz : w32 a = 0 ∨ w32 a = 1) (d : decode cc pc = .ok (.ireturn, 1)) : tp_J X Y L N nL dep 1 (some (a, M)) M lv ([vI a]) pc := by
  obtain ⟨p, e, s, m, args, below, meth, c, res⟩ := Y
  obtain ⟨hx, hb, hml, hown, hts, hK, hNW, hE, hst, hr, hlk⟩ := G
  intro ho H locs ls hP hS hl
  cases ho
  exact W.zret hx hb hr (tp_nz2 hz) (fun t ht _ => ⟨⟨_, (), rfl, rfl, by show tp_P X L N M t.heap; rw [ht]; exact hP⟩, by rw [va_F]; exact ⟨by rw [ht]; exact hS.1, fun q h1 h2 => by rw [ht]; exact hS.2.1 q h1 h2⟩⟩) (fun q hq => hS.2.2 q hq) d hlk
theorem tj_vret (G : tp_Ok X Y N cc nL own none) (d : decode cc pc = .ok (.return_, 1)) : tp_J X Y L N nL dep 0 (some (0, M)) M lv ([]) pc := by
  obtain ⟨p, e, s, m, args, below, meth, c, res⟩ := Y
  obtain ⟨hx, hb, hml, hown, hts, hK, hNW, hE, hst, hr, hlk⟩ := G
  intro ho H locs ls hP hS hl
  cases ho
  exact W.vret hx hb hr (fun t ht _ => ⟨⟨(), rfl, trivial, by show tp_P X L N M t.heap; rw [ht]; exact hP⟩, by rw [va_F]; exact ⟨by rw [ht]; exact hS.1, fun q h1 h2 => by rw [ht]; exact hS.2.1 q h1 h2⟩⟩) (fun q hq => hS.2.2 q hq) d hlk
theorem tj_lret (G : tp_Ok X Y N cc nL own (some .long)) {a : Int} (d : decode cc pc = .ok (.lreturn, 1)) : tp_J X Y L N nL dep 2 (some (a, M)) M lv ([vL a]) pc := by
  obtain ⟨p, e, s, m, args, below, meth, c, res⟩ := Y
  obtain ⟨hx, hb, hml, hown, hts, hK, hNW, hE, hst, hr, hlk⟩ := G
  intro ho H locs ls hP hS hl
  cases ho
  exact W.lret hx hb hr (fun t ht _ => ⟨⟨_, (), rfl, rfl, by show tp_P X L N M t.heap; rw [ht]; exact hP⟩, by rw [va_F]; exact ⟨by rw [ht]; exact hS.1, fun q h1 h2 => by rw [ht]; exact hS.2.1 q h1 h2⟩⟩) (fun q hq => hS.2.2 q hq) d hlk
end TR
