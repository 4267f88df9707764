def tp_lt (a : Int) (k : Int → tp_O) : tp_O := k a
def tp_lm (M : tp_M) (k : tp_M → tp_O) : tp_O := k M
theorem wi_add (a b : Int) : Int32.ofInt a + Int32.ofInt b = Int32.ofInt (a + b) := (Int32.ofInt_add ..).symm
theorem wi_sub (a b : Int) : Int32.ofInt a - Int32.ofInt b = Int32.ofInt (a - b) := (Int32.ofInt_sub ..).symm
theorem wi_mul (a b : Int) : Int32.ofInt a * Int32.ofInt b = Int32.ofInt (a * b) := (Int32.ofInt_mul ..).symm
theorem wi_neg (a : Int) : -Int32.ofInt a = Int32.ofInt (-a) := (Int32.ofInt_neg ..).symm
theorem wl_add (a b : Int) : Int64.ofInt a + Int64.ofInt b = Int64.ofInt (a + b) := (Int64.ofInt_add ..).symm
theorem wl_sub (a b : Int) : Int64.ofInt a - Int64.ofInt b = Int64.ofInt (a - b) := (Int64.ofInt_sub ..).symm
theorem wl_mul (a b : Int) : Int64.ofInt a * Int64.ofInt b = Int64.ofInt (a * b) := (Int64.ofInt_mul ..).symm
theorem wi_eq (a b : Int) : Int32.ofInt a = Int32.ofInt b ↔ w32 a = w32 b := by
  rw [← w32_eq, ← w32_eq]; exact ⟨fun h => by rw [h], fun h => Int32.toInt_inj.mp h⟩
theorem wi_eq0 (a : Int) : Int32.ofInt a = 0 ↔ w32 a = 0 := wi_eq a 0
theorem wl_eq (a b : Int) : Int64.ofInt a = Int64.ofInt b ↔ w64 a = w64 b := by
  rw [← w64_eq, ← w64_eq]; exact ⟨fun h => by rw [h], fun h => Int64.toInt_inj.mp h⟩
theorem wl_eq0 (a : Int) : Int64.ofInt a = 0 ↔ w64 a = 0 := wl_eq a 0
theorem wi_lt (a b : Int) : Int32.ofInt a < Int32.ofInt b ↔ w32 a < w32 b := by
  rw [← w32_eq, ← w32_eq]; exact Int32.lt_iff_toInt_lt
theorem wi_lt0 (a : Int) : Int32.ofInt a < 0 ↔ w32 a < 0 := wi_lt a 0
theorem wi_0lt (a : Int) : 0 < Int32.ofInt a ↔ 0 < w32 a := wi_lt 0 a
theorem wi_le (a b : Int) : Int32.ofInt a ≤ Int32.ofInt b ↔ w32 a ≤ w32 b := by
  rw [← w32_eq, ← w32_eq]; exact Int32.le_iff_toInt_le
theorem wi_le0 (a : Int) : Int32.ofInt a ≤ 0 ↔ w32 a ≤ 0 := wi_le a 0
theorem wi_0le (a : Int) : 0 ≤ Int32.ofInt a ↔ 0 ≤ w32 a := wi_le 0 a
theorem wi_in {a : Int} {n : Nat} (h : 0 ≤ w32 a ∧ w32 a < n) : vp_in (Int32.ofInt a) n := by
  rw [vp_in_iff, w32_eq]; exact h
theorem wi_cl {a : Int} (h : 0 ≤ w32 a) : ((Int32.ofInt a).toNatClampNeg : Int) = w32 a := by
  rw [Int32.toNatClampNeg, w32_eq]; omega
theorem wi_and1 (a : Int) : Int32.ofInt a &&& 1 = Int32.ofInt (a % 2) := by
  rw [← Int32.toBitVec_inj]
  simp only [Int32.toBitVec_and, Int32.toBitVec_ofInt]
  apply BitVec.eq_of_toNat_eq
  rw [BitVec.toNat_and, BitVec.toNat_ofInt, BitVec.toNat_ofInt]
  show (_ &&& 1) = _
  rw [Nat.and_one_is_mod]
  omega
theorem w32_v (x : Int32) : vI x.toInt = .int x := by unfold vI; rw [w32_of]
def x_and (a b : Int) : Int := (Int32.ofInt a &&& Int32.ofInt b).toInt
def x_or (a b : Int) : Int := (Int32.ofInt a ||| Int32.ofInt b).toInt
def x_xor (a b : Int) : Int := (Int32.ofInt a ^^^ Int32.ofInt b).toInt
def x_shl (a b : Int) : Int := (Int32.ofInt a <<< (Int32.ofInt b &&& 31)).toInt
def x_shr (a b : Int) : Int := (Int32.ofInt a >>> (Int32.ofInt b &&& 31)).toInt
def x_ushr (a b : Int) : Int := ((Int32.ofInt a).toUInt32 >>> ((Int32.ofInt b).toUInt32 &&& Int32.toUInt32 31)).toInt32.toInt
def x_div (a b : Int) : Int := (w32 a).tdiv (w32 b)
def x_rem (a b : Int) : Int := (w32 a).tmod (w32 b)
def x_ldiv (a b : Int) : Int := (w64 a).tdiv (w64 b)
def x_lrem (a b : Int) : Int := (w64 a).tmod (w64 b)
def x_i2b (a : Int) : Int := (a + 128) % 256 - 128
def x_i2s (a : Int) : Int := (a + 32768) % 65536 - 32768
def x_lcmp (a b : Int) : Int := if w64 a < w64 b then -1 else if w64 a = w64 b then 0 else 1
theorem wm_32 (x : Int) : x.bmod 4294967296 = w32 x := by rw [Int.bmod_def, w32]; split <;> omega
theorem wm_64 (x : Int) : x.bmod 18446744073709551616 = w64 x := by rw [Int.bmod_def, w64]; split <;> omega
theorem wi_div (a b : Int) : Int32.ofInt a / Int32.ofInt b = Int32.ofInt (x_div a b) := by
  apply Int32.toInt_inj.mp
  rw [Int32.toInt_div, w32_eq, w32_eq, w32_eq, x_div, show (2 ^ 32 : Nat) = 4294967296 from rfl, wm_32]
theorem wi_rem (a b : Int) (h : ¬ Int32.ofInt b = 0) : Int32.ofInt a - Int32.ofInt a / Int32.ofInt b * Int32.ofInt b = Int32.ofInt (x_rem a b) := by
  rw [wi_div, wi_mul, wi_sub, wi_eq]
  have e : x_rem a b = w32 a - x_div a b * w32 b := by
    rw [x_rem, x_div, Int.tmod_def, Int.mul_comm]
  rw [e, ← wi_eq, ← wi_sub, ← wi_sub, ← wi_mul, ← wi_mul, w32_w, w32_w]
theorem wl_div (a b : Int) : Int64.ofInt a / Int64.ofInt b = Int64.ofInt (x_ldiv a b) := by
  apply Int64.toInt_inj.mp
  rw [Int64.toInt_div, w64_eq, w64_eq, w64_eq, x_ldiv, show (2 ^ 64 : Nat) = 18446744073709551616 from rfl, wm_64]
theorem wl_rem (a b : Int) : Int64.ofInt a - Int64.ofInt a / Int64.ofInt b * Int64.ofInt b = Int64.ofInt (x_lrem a b) := by
  rw [wl_div, wl_mul, wl_sub, wl_eq]
  have e : x_lrem a b = w64 a - x_ldiv a b * w64 b := by
    rw [x_lrem, x_ldiv, Int.tmod_def, Int.mul_comm]
  rw [e, ← wl_eq, ← wl_sub, ← wl_sub, ← wl_mul, ← wl_mul, w64_w, w64_w]
theorem wi_l (a : Int) : (Int32.ofInt a).toInt64 = Int64.ofInt (w32 a) := by
  rw [← w32_eq]; exact (Int64.ofInt_int32ToInt _).symm
theorem wl_i (a : Int) : (Int64.ofInt a).toInt32 = Int32.ofInt a := Int64.toInt32_ofInt ..
theorem wi_b (a : Int) : (Int32.ofInt a).toInt8.toInt32 = Int32.ofInt (x_i2b a) := by
  apply Int32.toInt_inj.mp
  rw [Int8.toInt_toInt32, Int32.toInt8_ofInt, Int8.toInt_ofInt, w32_eq, show Int8.size = 256 from rfl, Int.bmod_def, x_i2b, w32]
  split <;> omega
theorem wi_s (a : Int) : (Int32.ofInt a).toInt16.toInt32 = Int32.ofInt (x_i2s a) := by
  apply Int32.toInt_inj.mp
  rw [Int16.toInt_toInt32, Int32.toInt16_ofInt, Int16.toInt_ofInt, w32_eq, show Int16.size = 65536 from rfl, Int.bmod_def, x_i2s, w32]
  split <;> omega
theorem wl_cmp (a b : Int) : lg_cmp (Int64.ofInt a) (Int64.ofInt b) = Int32.ofInt (x_lcmp a b) := by
  have h1 : Int64.ofInt a < Int64.ofInt b ↔ w64 a < w64 b := by rw [← w64_eq, ← w64_eq]; exact Int64.lt_iff_toInt_lt
  have h2 : Int64.ofInt b < Int64.ofInt a ↔ w64 b < w64 a := by rw [← w64_eq, ← w64_eq]; exact Int64.lt_iff_toInt_lt
  unfold lg_cmp x_lcmp
  simp only [h1, h2, wl_eq]
  (repeat' split) <;> first | rfl | omega

section TJ
variable {X : tp_X} {Y : tp_Y} {L : Nat → tp_K} {N nL dep rk : Nat} {cc : ByteArray} {own : String} {ret : Option FieldType} {o : tp_O} {M : tp_M} {lv : tp_V} {st : List Value} {pc : Nat}
theorem tj_iconst (G : tp_Ok X Y N cc nL own ret) {v : Int} (d : decode cc pc = .ok (.iconst v, 1)) (kk : tp_J X Y L N nL dep rk o M lv (vI v :: st) (pc + 1)) : tp_J X Y L N nL dep rk o M lv (st) (pc) := by
  obtain ⟨p, e, s, m, args, below, meth, c, res⟩ := Y
  obtain ⟨hx, hb, hml, hown, hts, hK, hNW, hE, hst, hr, hlk⟩ := G
  intro ho H locs ls hP hS hl
  refine lv_iconst hx hb d rfl ?_
  exact kk ho H locs ls hP hS hl
theorem tj_bipush (G : tp_Ok X Y N cc nL own ret) {v : Int} (d : decode cc pc = .ok (.bipush v, 2)) (hv : (Int8.ofInt v).toInt32 = Int32.ofInt v) (kk : tp_J X Y L N nL dep rk o M lv (vI v :: st) (pc + 2)) : tp_J X Y L N nL dep rk o M lv (st) (pc) := by
  obtain ⟨p, e, s, m, args, below, meth, c, res⟩ := Y
  obtain ⟨hx, hb, hml, hown, hts, hK, hNW, hE, hst, hr, hlk⟩ := G
  intro ho H locs ls hP hS hl
  refine lv_bipush hx hb d hv ?_
  exact kk ho H locs ls hP hS hl
theorem tj_sipush (G : tp_Ok X Y N cc nL own ret) {v : Int} (d : decode cc pc = .ok (.sipush v, 3)) (hv : (Int16.ofInt v).toInt32 = Int32.ofInt v) (kk : tp_J X Y L N nL dep rk o M lv (vI v :: st) (pc + 3)) : tp_J X Y L N nL dep rk o M lv (st) (pc) := by
  obtain ⟨p, e, s, m, args, below, meth, c, res⟩ := Y
  obtain ⟨hx, hb, hml, hown, hts, hK, hNW, hE, hst, hr, hlk⟩ := G
  intro ho H locs ls hP hS hl
  refine lv_sipush hx hb d hv ?_
  exact kk ho H locs ls hP hS hl
theorem tj_lconst (G : tp_Ok X Y N cc nL own ret) {n : Fin 2} {v : Int} (d : decode cc pc = .ok (.lconst n, 1)) (hv : Int64.ofNat (n : Nat) = Int64.ofInt v) (kk : tp_J X Y L N nL dep rk o M lv (vL v :: st) (pc + 1)) : tp_J X Y L N nL dep rk o M lv (st) (pc) := by
  obtain ⟨p, e, s, m, args, below, meth, c, res⟩ := Y
  obtain ⟨hx, hb, hml, hown, hts, hK, hNW, hE, hst, hr, hlk⟩ := G
  intro ho H locs ls hP hS hl
  refine lv_lconst hx hb d hv ?_
  exact kk ho H locs ls hP hS hl
theorem tj_ldc (G : tp_Ok X Y N cc nL own ret) {i : Nat} {v : Int} {v2 : Int32} (d : decode cc pc = .ok (.ldc i, 2)) (hw : Cond.constant own i v2 ∈ tp_W) (hv : v2 = Int32.ofInt v) (kk : tp_J X Y L N nL dep rk o M lv (vI v :: st) (pc + 2)) : tp_J X Y L N nL dep rk o M lv (st) (pc) := by
  obtain ⟨p, e, s, m, args, below, meth, c, res⟩ := Y
  obtain ⟨hx, hb, hml, hown, hts, hK, hNW, hE, hst, hr, hlk⟩ := G
  intro ho H locs ls hP hS hl
  subst hv
  refine lv_ldc hx hb hown (hts _ hw) d ?_
  exact kk ho H locs ls hP hS hl
theorem tj_ldcw (G : tp_Ok X Y N cc nL own ret) {i : Nat} {v : Int} {v2 : Int32} (d : decode cc pc = .ok (.ldc_w i, 3)) (hw : Cond.constant own i v2 ∈ tp_W) (hv : v2 = Int32.ofInt v) (kk : tp_J X Y L N nL dep rk o M lv (vI v :: st) (pc + 3)) : tp_J X Y L N nL dep rk o M lv (st) (pc) := by
  obtain ⟨p, e, s, m, args, below, meth, c, res⟩ := Y
  obtain ⟨hx, hb, hml, hown, hts, hK, hNW, hE, hst, hr, hlk⟩ := G
  intro ho H locs ls hP hS hl
  subst hv
  refine lv_ldcw hx hb hown (hts _ hw) d ?_
  exact kk ho H locs ls hP hS hl
theorem tj_ldc2 (G : tp_Ok X Y N cc nL own ret) {i : Nat} {v : Int} {v2 : Int64} (d : decode cc pc = .ok (.ldc2_w i, 3)) (hw : Cond.constantLong own i v2 ∈ tp_W) (hv : v2 = Int64.ofInt v) (kk : tp_J X Y L N nL dep rk o M lv (vL v :: st) (pc + 3)) : tp_J X Y L N nL dep rk o M lv (st) (pc) := by
  obtain ⟨p, e, s, m, args, below, meth, c, res⟩ := Y
  obtain ⟨hx, hb, hml, hown, hts, hK, hNW, hE, hst, hr, hlk⟩ := G
  intro ho H locs ls hP hS hl
  subst hv
  refine lv_ldc2 hx hb hown (hts _ hw) d ?_
  exact kk ho H locs ls hP hS hl
theorem tj_iload_n (G : tp_Ok X Y N cc nL own ret) {k : Fin 4} {i : Nat} {a : Int} (q : Nat) (d : decode cc pc = .ok (.iload_n k, 1)) (hi : (k : Nat) = i) (hq : lv[q]? = some (i, vI a)) (kk : tp_J X Y L N nL dep rk o M lv (vI a :: st) (pc + 1)) : tp_J X Y L N nL dep rk o M lv (st) (pc) := by
  obtain ⟨p, e, s, m, args, below, meth, c, res⟩ := Y
  obtain ⟨hx, hb, hml, hown, hts, hK, hNW, hE, hst, hr, hlk⟩ := G
  intro ho H locs ls hP hS hl
  refine lv_iload_n hx hb d hi (lv_at hl q hq) ?_
  exact kk ho H locs ls hP hS hl
theorem tj_iload (G : tp_Ok X Y N cc nL own ret) {i : Nat} {a : Int} (q : Nat) (d : decode cc pc = .ok (.iload i, 2)) (hq : lv[q]? = some (i, vI a)) (kk : tp_J X Y L N nL dep rk o M lv (vI a :: st) (pc + 2)) : tp_J X Y L N nL dep rk o M lv (st) (pc) := by
  obtain ⟨p, e, s, m, args, below, meth, c, res⟩ := Y
  obtain ⟨hx, hb, hml, hown, hts, hK, hNW, hE, hst, hr, hlk⟩ := G
  intro ho H locs ls hP hS hl
  refine lv_iload hx hb d (lv_at hl q hq) ?_
  exact kk ho H locs ls hP hS hl
theorem tj_lload_n (G : tp_Ok X Y N cc nL own ret) {k : Fin 4} {i : Nat} {a : Int} (q : Nat) (d : decode cc pc = .ok (.lload_n k, 1)) (hi : (k : Nat) = i) (hq : lv[q]? = some (i, vL a)) (kk : tp_J X Y L N nL dep rk o M lv (vL a :: st) (pc + 1)) : tp_J X Y L N nL dep rk o M lv (st) (pc) := by
  obtain ⟨p, e, s, m, args, below, meth, c, res⟩ := Y
  obtain ⟨hx, hb, hml, hown, hts, hK, hNW, hE, hst, hr, hlk⟩ := G
  intro ho H locs ls hP hS hl
  refine lv_lload_n hx hb d hi (lv_at hl q hq) ?_
  exact kk ho H locs ls hP hS hl
theorem tj_lload (G : tp_Ok X Y N cc nL own ret) {i : Nat} {a : Int} (q : Nat) (d : decode cc pc = .ok (.lload i, 2)) (hq : lv[q]? = some (i, vL a)) (kk : tp_J X Y L N nL dep rk o M lv (vL a :: st) (pc + 2)) : tp_J X Y L N nL dep rk o M lv (st) (pc) := by
  obtain ⟨p, e, s, m, args, below, meth, c, res⟩ := Y
  obtain ⟨hx, hb, hml, hown, hts, hK, hNW, hE, hst, hr, hlk⟩ := G
  intro ho H locs ls hP hS hl
  refine lv_lload hx hb d (lv_at hl q hq) ?_
  exact kk ho H locs ls hP hS hl
theorem tj_aload_n (G : tp_Ok X Y N cc nL own ret) {k : Fin 4} {i : Nat} {a : Nat} (q : Nat) (d : decode cc pc = .ok (.aload_n k, 1)) (hi : (k : Nat) = i) (hq : lv[q]? = some (i, vR X a)) (kk : tp_J X Y L N nL dep rk o M lv (vR X a :: st) (pc + 1)) : tp_J X Y L N nL dep rk o M lv (st) (pc) := by
  obtain ⟨p, e, s, m, args, below, meth, c, res⟩ := Y
  obtain ⟨hx, hb, hml, hown, hts, hK, hNW, hE, hst, hr, hlk⟩ := G
  intro ho H locs ls hP hS hl
  refine lv_aload_n hx hb d hi (lv_at hl q hq) ?_
  exact kk ho H locs ls hP hS hl
theorem tj_aload (G : tp_Ok X Y N cc nL own ret) {i : Nat} {a : Nat} (q : Nat) (d : decode cc pc = .ok (.aload i, 2)) (hq : lv[q]? = some (i, vR X a)) (kk : tp_J X Y L N nL dep rk o M lv (vR X a :: st) (pc + 2)) : tp_J X Y L N nL dep rk o M lv (st) (pc) := by
  obtain ⟨p, e, s, m, args, below, meth, c, res⟩ := Y
  obtain ⟨hx, hb, hml, hown, hts, hK, hNW, hE, hst, hr, hlk⟩ := G
  intro ho H locs ls hP hS hl
  refine lv_aload hx hb d (lv_at hl q hq) ?_
  exact kk ho H locs ls hP hS hl
theorem tj_istore_n (G : tp_Ok X Y N cc nL own ret) {k : Fin 4} {i : Nat} {a : Int} {K : Int → tp_O} (lvf : Int → tp_V) (d : decode cc pc = .ok (.istore_n k, 1)) (hi : (k : Nat) = i) (hn : i < nL) (hf : ∀ x : Int, (i, vI x) :: lv.filter (fun q => !(q.1 == i) && !(q.1 + 1 == i && q.2.category == 2)) = lvf x) (kk : ∀ x : Int, tp_J X Y L N nL dep rk (K x) M (lvf x) (st) (pc + 1)) : tp_J X Y L N nL dep rk (tp_lt a K) M lv (vI a :: st) (pc) := by
  obtain ⟨p, e, s, m, args, below, meth, c, res⟩ := Y
  obtain ⟨hx, hb, hml, hown, hts, hK, hNW, hE, hst, hr, hlk⟩ := G
  intro ho H locs ls hP hS hl
  refine lv_istore_n hx hb d hi hl hn (hf a) fun ls hl => ?_
  exact kk a ho H locs ls hP hS hl
theorem tj_istore (G : tp_Ok X Y N cc nL own ret) {i : Nat} {a : Int} {K : Int → tp_O} (lvf : Int → tp_V) (d : decode cc pc = .ok (.istore i, 2)) (hn : i < nL) (hf : ∀ x : Int, (i, vI x) :: lv.filter (fun q => !(q.1 == i) && !(q.1 + 1 == i && q.2.category == 2)) = lvf x) (kk : ∀ x : Int, tp_J X Y L N nL dep rk (K x) M (lvf x) (st) (pc + 2)) : tp_J X Y L N nL dep rk (tp_lt a K) M lv (vI a :: st) (pc) := by
  obtain ⟨p, e, s, m, args, below, meth, c, res⟩ := Y
  obtain ⟨hx, hb, hml, hown, hts, hK, hNW, hE, hst, hr, hlk⟩ := G
  intro ho H locs ls hP hS hl
  refine lv_istore hx hb d hl hn (hf a) fun ls hl => ?_
  exact kk a ho H locs ls hP hS hl
theorem tj_lstore_n (G : tp_Ok X Y N cc nL own ret) {k : Fin 4} {i : Nat} {a : Int} {K : Int → tp_O} (lvf : Int → tp_V) (d : decode cc pc = .ok (.lstore_n k, 1)) (hi : (k : Nat) = i) (hn : i + 1 < nL) (hf : ∀ x : Int, (i, vL x) :: lv.filter (fun q => !(q.1 == i) && (!(q.1 == i + 1) && !(q.1 + 1 == i && q.2.category == 2))) = lvf x) (kk : ∀ x : Int, tp_J X Y L N nL dep rk (K x) M (lvf x) (st) (pc + 1)) : tp_J X Y L N nL dep rk (tp_lt a K) M lv (vL a :: st) (pc) := by
  obtain ⟨p, e, s, m, args, below, meth, c, res⟩ := Y
  obtain ⟨hx, hb, hml, hown, hts, hK, hNW, hE, hst, hr, hlk⟩ := G
  intro ho H locs ls hP hS hl
  refine lv_lstore_n hx hb d hi hl hn (hf a) fun ls hl => ?_
  exact kk a ho H locs ls hP hS hl
theorem tj_lstore (G : tp_Ok X Y N cc nL own ret) {i : Nat} {a : Int} {K : Int → tp_O} (lvf : Int → tp_V) (d : decode cc pc = .ok (.lstore i, 2)) (hn : i + 1 < nL) (hf : ∀ x : Int, (i, vL x) :: lv.filter (fun q => !(q.1 == i) && (!(q.1 == i + 1) && !(q.1 + 1 == i && q.2.category == 2))) = lvf x) (kk : ∀ x : Int, tp_J X Y L N nL dep rk (K x) M (lvf x) (st) (pc + 2)) : tp_J X Y L N nL dep rk (tp_lt a K) M lv (vL a :: st) (pc) := by
  obtain ⟨p, e, s, m, args, below, meth, c, res⟩ := Y
  obtain ⟨hx, hb, hml, hown, hts, hK, hNW, hE, hst, hr, hlk⟩ := G
  intro ho H locs ls hP hS hl
  refine lv_lstore hx hb d hl hn (hf a) fun ls hl => ?_
  exact kk a ho H locs ls hP hS hl
theorem tj_astore_n (G : tp_Ok X Y N cc nL own ret) {k : Fin 4} {i : Nat} {a : Nat} {lv2 : tp_V} (d : decode cc pc = .ok (.astore_n k, 1)) (hi : (k : Nat) = i) (hn : i < nL) (hf : (i, vR X a) :: lv.filter (fun q => !(q.1 == i) && !(q.1 + 1 == i && q.2.category == 2)) = lv2) (kk : tp_J X Y L N nL dep rk o M lv2 (st) (pc + 1)) : tp_J X Y L N nL dep rk o M lv (vR X a :: st) (pc) := by
  obtain ⟨p, e, s, m, args, below, meth, c, res⟩ := Y
  obtain ⟨hx, hb, hml, hown, hts, hK, hNW, hE, hst, hr, hlk⟩ := G
  intro ho H locs ls hP hS hl
  refine lv_astore_n hx hb d hi hl hn hf fun ls hl => ?_
  exact kk ho H locs ls hP hS hl
theorem tj_iinc (G : tp_Ok X Y N cc nL own ret) {i : Nat} {n a : Int} {K : Int → tp_O} (q : Nat) (lvf : Int → tp_V) (d : decode cc pc = .ok (.iinc i n, 3)) (hq : lv[q]? = some (i, vI a)) (hn : i < nL) (hf : ∀ x : Int, (i, vI x) :: lv.filter (fun q => !(q.1 == i) && !(q.1 + 1 == i && q.2.category == 2)) = lvf x) (kk : ∀ x : Int, tp_J X Y L N nL dep rk (K x) M (lvf x) (st) (pc + 3)) : tp_J X Y L N nL dep rk (tp_lt (a + n) K) M lv (st) (pc) := by
  obtain ⟨p, e, s, m, args, below, meth, c, res⟩ := Y
  obtain ⟨hx, hb, hml, hown, hts, hK, hNW, hE, hst, hr, hlk⟩ := G
  intro ho H locs ls hP hS hl
  refine lv_iinc hx hb d hl hq (wi_add a n) hn (hf (a + n)) fun ls hl => ?_
  exact kk (a + n) ho H locs ls hP hS hl
theorem tj_iadd (G : tp_Ok X Y N cc nL own ret) {a b : Int} (d : decode cc pc = .ok (.iadd, 1)) (kk : tp_J X Y L N nL dep rk o M lv (vI (a + b) :: st) (pc + 1)) : tp_J X Y L N nL dep rk o M lv (vI b :: vI a :: st) (pc) := by
  obtain ⟨p, e, s, m, args, below, meth, c, res⟩ := Y
  obtain ⟨hx, hb, hml, hown, hts, hK, hNW, hE, hst, hr, hlk⟩ := G
  intro ho H locs ls hP hS hl
  refine lv_iadd hx hb d ?_
  rw [wi_add]
  exact kk ho H locs ls hP hS hl
theorem tj_isub (G : tp_Ok X Y N cc nL own ret) {a b : Int} (d : decode cc pc = .ok (.isub, 1)) (kk : tp_J X Y L N nL dep rk o M lv (vI (a - b) :: st) (pc + 1)) : tp_J X Y L N nL dep rk o M lv (vI b :: vI a :: st) (pc) := by
  obtain ⟨p, e, s, m, args, below, meth, c, res⟩ := Y
  obtain ⟨hx, hb, hml, hown, hts, hK, hNW, hE, hst, hr, hlk⟩ := G
  intro ho H locs ls hP hS hl
  refine lv_isub hx hb d ?_
  rw [wi_sub]
  exact kk ho H locs ls hP hS hl
theorem tj_imul (G : tp_Ok X Y N cc nL own ret) {a b : Int} (d : decode cc pc = .ok (.imul, 1)) (kk : tp_J X Y L N nL dep rk o M lv (vI (a * b) :: st) (pc + 1)) : tp_J X Y L N nL dep rk o M lv (vI b :: vI a :: st) (pc) := by
  obtain ⟨p, e, s, m, args, below, meth, c, res⟩ := Y
  obtain ⟨hx, hb, hml, hown, hts, hK, hNW, hE, hst, hr, hlk⟩ := G
  intro ho H locs ls hP hS hl
  refine lv_imul hx hb d ?_
  rw [wi_mul]
  exact kk ho H locs ls hP hS hl
theorem tj_ladd (G : tp_Ok X Y N cc nL own ret) {a b : Int} (d : decode cc pc = .ok (.ladd, 1)) (kk : tp_J X Y L N nL dep rk o M lv (vL (a + b) :: st) (pc + 1)) : tp_J X Y L N nL dep rk o M lv (vL b :: vL a :: st) (pc) := by
  obtain ⟨p, e, s, m, args, below, meth, c, res⟩ := Y
  obtain ⟨hx, hb, hml, hown, hts, hK, hNW, hE, hst, hr, hlk⟩ := G
  intro ho H locs ls hP hS hl
  refine lv_ladd hx hb d ?_
  rw [wl_add]
  exact kk ho H locs ls hP hS hl
theorem tj_lsub (G : tp_Ok X Y N cc nL own ret) {a b : Int} (d : decode cc pc = .ok (.lsub, 1)) (kk : tp_J X Y L N nL dep rk o M lv (vL (a - b) :: st) (pc + 1)) : tp_J X Y L N nL dep rk o M lv (vL b :: vL a :: st) (pc) := by
  obtain ⟨p, e, s, m, args, below, meth, c, res⟩ := Y
  obtain ⟨hx, hb, hml, hown, hts, hK, hNW, hE, hst, hr, hlk⟩ := G
  intro ho H locs ls hP hS hl
  refine lv_lsub hx hb d ?_
  rw [wl_sub]
  exact kk ho H locs ls hP hS hl
theorem tj_lmul (G : tp_Ok X Y N cc nL own ret) {a b : Int} (d : decode cc pc = .ok (.lmul, 1)) (kk : tp_J X Y L N nL dep rk o M lv (vL (a * b) :: st) (pc + 1)) : tp_J X Y L N nL dep rk o M lv (vL b :: vL a :: st) (pc) := by
  obtain ⟨p, e, s, m, args, below, meth, c, res⟩ := Y
  obtain ⟨hx, hb, hml, hown, hts, hK, hNW, hE, hst, hr, hlk⟩ := G
  intro ho H locs ls hP hS hl
  refine lv_lmul hx hb d ?_
  rw [wl_mul]
  exact kk ho H locs ls hP hS hl
theorem tj_iand (G : tp_Ok X Y N cc nL own ret) {a b : Int} (d : decode cc pc = .ok (.iand, 1)) (kk : tp_J X Y L N nL dep rk o M lv (vI (x_and a b) :: st) (pc + 1)) : tp_J X Y L N nL dep rk o M lv (vI b :: vI a :: st) (pc) := by
  obtain ⟨p, e, s, m, args, below, meth, c, res⟩ := Y
  obtain ⟨hx, hb, hml, hown, hts, hK, hNW, hE, hst, hr, hlk⟩ := G
  intro ho H locs ls hP hS hl
  refine lv_iand hx hb d ?_
  rw [← w32_v]
  exact kk ho H locs ls hP hS hl
theorem tj_ior (G : tp_Ok X Y N cc nL own ret) {a b : Int} (d : decode cc pc = .ok (.ior, 1)) (kk : tp_J X Y L N nL dep rk o M lv (vI (x_or a b) :: st) (pc + 1)) : tp_J X Y L N nL dep rk o M lv (vI b :: vI a :: st) (pc) := by
  obtain ⟨p, e, s, m, args, below, meth, c, res⟩ := Y
  obtain ⟨hx, hb, hml, hown, hts, hK, hNW, hE, hst, hr, hlk⟩ := G
  intro ho H locs ls hP hS hl
  refine lv_ior hx hb d ?_
  rw [← w32_v]
  exact kk ho H locs ls hP hS hl
theorem tj_ixor (G : tp_Ok X Y N cc nL own ret) {a b : Int} (d : decode cc pc = .ok (.ixor, 1)) (kk : tp_J X Y L N nL dep rk o M lv (vI (x_xor a b) :: st) (pc + 1)) : tp_J X Y L N nL dep rk o M lv (vI b :: vI a :: st) (pc) := by
  obtain ⟨p, e, s, m, args, below, meth, c, res⟩ := Y
  obtain ⟨hx, hb, hml, hown, hts, hK, hNW, hE, hst, hr, hlk⟩ := G
  intro ho H locs ls hP hS hl
  refine lv_ixor hx hb d ?_
  rw [← w32_v]
  exact kk ho H locs ls hP hS hl
theorem tj_ishl (G : tp_Ok X Y N cc nL own ret) {a b : Int} (d : decode cc pc = .ok (.ishl, 1)) (kk : tp_J X Y L N nL dep rk o M lv (vI (x_shl a b) :: st) (pc + 1)) : tp_J X Y L N nL dep rk o M lv (vI b :: vI a :: st) (pc) := by
  obtain ⟨p, e, s, m, args, below, meth, c, res⟩ := Y
  obtain ⟨hx, hb, hml, hown, hts, hK, hNW, hE, hst, hr, hlk⟩ := G
  intro ho H locs ls hP hS hl
  refine lv_ishl hx hb d ?_
  rw [← w32_v]
  exact kk ho H locs ls hP hS hl
theorem tj_ishr (G : tp_Ok X Y N cc nL own ret) {a b : Int} (d : decode cc pc = .ok (.ishr, 1)) (kk : tp_J X Y L N nL dep rk o M lv (vI (x_shr a b) :: st) (pc + 1)) : tp_J X Y L N nL dep rk o M lv (vI b :: vI a :: st) (pc) := by
  obtain ⟨p, e, s, m, args, below, meth, c, res⟩ := Y
  obtain ⟨hx, hb, hml, hown, hts, hK, hNW, hE, hst, hr, hlk⟩ := G
  intro ho H locs ls hP hS hl
  refine lv_ishr hx hb d ?_
  rw [← w32_v]
  exact kk ho H locs ls hP hS hl
theorem tj_iushr (G : tp_Ok X Y N cc nL own ret) {a b : Int} (d : decode cc pc = .ok (.iushr, 1)) (kk : tp_J X Y L N nL dep rk o M lv (vI (x_ushr a b) :: st) (pc + 1)) : tp_J X Y L N nL dep rk o M lv (vI b :: vI a :: st) (pc) := by
  obtain ⟨p, e, s, m, args, below, meth, c, res⟩ := Y
  obtain ⟨hx, hb, hml, hown, hts, hK, hNW, hE, hst, hr, hlk⟩ := G
  intro ho H locs ls hP hS hl
  refine lv_iushr hx hb d (w32_of _).symm ?_
  exact kk ho H locs ls hP hS hl
theorem tj_ineg (G : tp_Ok X Y N cc nL own ret) {a : Int} (d : decode cc pc = .ok (.ineg, 1)) (kk : tp_J X Y L N nL dep rk o M lv (vI (-a) :: st) (pc + 1)) : tp_J X Y L N nL dep rk o M lv (vI a :: st) (pc) := by
  obtain ⟨p, e, s, m, args, below, meth, c, res⟩ := Y
  obtain ⟨hx, hb, hml, hown, hts, hK, hNW, hE, hst, hr, hlk⟩ := G
  intro ho H locs ls hP hS hl
  refine lv_ineg hx hb d ?_
  rw [wi_neg]
  exact kk ho H locs ls hP hS hl
def tp_nz (b : Int) (o : tp_O) : tp_O := if b = 0 then none else o
theorem tj_idiv (G : tp_Ok X Y N cc nL own ret) {a b b2 : Int} (d : decode cc pc = .ok (.idiv, 1)) (hb2 : w32 b = b2) (kk : tp_J X Y L N nL dep rk o M lv (vI (x_div a b) :: st) (pc + 1)) : tp_J X Y L N nL dep rk (tp_nz b2 o) M lv (vI b :: vI a :: st) (pc) := by
  obtain ⟨p, e, s, m, args, below, meth, c, res⟩ := Y
  obtain ⟨hx, hb, hml, hown, hts, hK, hNW, hE, hst, hr, hlk⟩ := G
  intro ho H locs ls hP hS hl
  subst hb2
  unfold tp_nz at ho
  split at ho
  · cases ho
  · rename_i hz
    have hne := fun q => hz ((wi_eq0 b).mp q)
    refine lv_idiv hx hb d hne ?_
    rw [wi_div]
    exact kk ho H locs ls hP hS hl
theorem tj_irem (G : tp_Ok X Y N cc nL own ret) {a b b2 : Int} (d : decode cc pc = .ok (.irem, 1)) (hb2 : w32 b = b2) (kk : tp_J X Y L N nL dep rk o M lv (vI (x_rem a b) :: st) (pc + 1)) : tp_J X Y L N nL dep rk (tp_nz b2 o) M lv (vI b :: vI a :: st) (pc) := by
  obtain ⟨p, e, s, m, args, below, meth, c, res⟩ := Y
  obtain ⟨hx, hb, hml, hown, hts, hK, hNW, hE, hst, hr, hlk⟩ := G
  intro ho H locs ls hP hS hl
  subst hb2
  unfold tp_nz at ho
  split at ho
  · cases ho
  · rename_i hz
    have hne := fun q => hz ((wi_eq0 b).mp q)
    refine lv_irem hx hb d hne ?_
    rw [wi_rem a b hne]
    exact kk ho H locs ls hP hS hl
theorem tj_ldiv (G : tp_Ok X Y N cc nL own ret) {a b b2 : Int} (d : decode cc pc = .ok (.ldiv, 1)) (hb2 : w64 b = b2) (kk : tp_J X Y L N nL dep rk o M lv (vL (x_ldiv a b) :: st) (pc + 1)) : tp_J X Y L N nL dep rk (tp_nz b2 o) M lv (vL b :: vL a :: st) (pc) := by
  obtain ⟨p, e, s, m, args, below, meth, c, res⟩ := Y
  obtain ⟨hx, hb, hml, hown, hts, hK, hNW, hE, hst, hr, hlk⟩ := G
  intro ho H locs ls hP hS hl
  subst hb2
  unfold tp_nz at ho
  split at ho
  · cases ho
  · rename_i hz
    have hne := fun q => hz ((wl_eq0 b).mp q)
    refine lv_ldiv hx hb d hne ?_
    rw [wl_div]
    exact kk ho H locs ls hP hS hl
theorem tj_lrem (G : tp_Ok X Y N cc nL own ret) {a b b2 : Int} (d : decode cc pc = .ok (.lrem, 1)) (hb2 : w64 b = b2) (kk : tp_J X Y L N nL dep rk o M lv (vL (x_lrem a b) :: st) (pc + 1)) : tp_J X Y L N nL dep rk (tp_nz b2 o) M lv (vL b :: vL a :: st) (pc) := by
  obtain ⟨p, e, s, m, args, below, meth, c, res⟩ := Y
  obtain ⟨hx, hb, hml, hown, hts, hK, hNW, hE, hst, hr, hlk⟩ := G
  intro ho H locs ls hP hS hl
  subst hb2
  unfold tp_nz at ho
  split at ho
  · cases ho
  · rename_i hz
    have hne := fun q => hz ((wl_eq0 b).mp q)
    refine lv_lrem hx hb d hne ?_
    rw [wl_rem]
    exact kk ho H locs ls hP hS hl
theorem tj_i2l (G : tp_Ok X Y N cc nL own ret) {a b : Int} (d : decode cc pc = .ok (.i2l, 1)) (hb2 : w32 a = b) (kk : tp_J X Y L N nL dep rk o M lv (vL b :: st) (pc + 1)) : tp_J X Y L N nL dep rk o M lv (vI a :: st) (pc) := by
  obtain ⟨p, e, s, m, args, below, meth, c, res⟩ := Y
  obtain ⟨hx, hb, hml, hown, hts, hK, hNW, hE, hst, hr, hlk⟩ := G
  intro ho H locs ls hP hS hl
  subst hb2
  refine lv_i2l hx hb d (wi_l a) ?_
  exact kk ho H locs ls hP hS hl
theorem tj_l2i (G : tp_Ok X Y N cc nL own ret) {a : Int} (d : decode cc pc = .ok (.l2i, 1)) (kk : tp_J X Y L N nL dep rk o M lv (vI a :: st) (pc + 1)) : tp_J X Y L N nL dep rk o M lv (vL a :: st) (pc) := by
  obtain ⟨p, e, s, m, args, below, meth, c, res⟩ := Y
  obtain ⟨hx, hb, hml, hown, hts, hK, hNW, hE, hst, hr, hlk⟩ := G
  intro ho H locs ls hP hS hl
  refine lv_l2i hx hb d (wl_i a) ?_
  exact kk ho H locs ls hP hS hl
theorem tj_i2b (G : tp_Ok X Y N cc nL own ret) {a : Int} (d : decode cc pc = .ok (.i2b, 1)) (kk : tp_J X Y L N nL dep rk o M lv (vI (x_i2b a) :: st) (pc + 1)) : tp_J X Y L N nL dep rk o M lv (vI a :: st) (pc) := by
  obtain ⟨p, e, s, m, args, below, meth, c, res⟩ := Y
  obtain ⟨hx, hb, hml, hown, hts, hK, hNW, hE, hst, hr, hlk⟩ := G
  intro ho H locs ls hP hS hl
  refine lv_i2b hx hb d (wi_b a) ?_
  exact kk ho H locs ls hP hS hl
theorem tj_i2s (G : tp_Ok X Y N cc nL own ret) {a : Int} (d : decode cc pc = .ok (.i2s, 1)) (kk : tp_J X Y L N nL dep rk o M lv (vI (x_i2s a) :: st) (pc + 1)) : tp_J X Y L N nL dep rk o M lv (vI a :: st) (pc) := by
  obtain ⟨p, e, s, m, args, below, meth, c, res⟩ := Y
  obtain ⟨hx, hb, hml, hown, hts, hK, hNW, hE, hst, hr, hlk⟩ := G
  intro ho H locs ls hP hS hl
  refine lv_i2s hx hb d (wi_s a) ?_
  exact kk ho H locs ls hP hS hl
theorem tj_lcmp (G : tp_Ok X Y N cc nL own ret) {a b : Int} (d : decode cc pc = .ok (.lcmp, 1)) (kk : tp_J X Y L N nL dep rk o M lv (vI (x_lcmp a b) :: st) (pc + 1)) : tp_J X Y L N nL dep rk o M lv (vL b :: vL a :: st) (pc) := by
  obtain ⟨p, e, s, m, args, below, meth, c, res⟩ := Y
  obtain ⟨hx, hb, hml, hown, hts, hK, hNW, hE, hst, hr, hlk⟩ := G
  intro ho H locs ls hP hS hl
  refine W.lcmp hx hb d ?_
  rw [wl_cmp]
  exact kk ho H locs ls hP hS hl
variable {A B : tp_O} {off : Int} {tgt : Nat}
theorem tj_icmp_eq (G : tp_Ok X Y N cc nL own ret) {a b a2 b2 : Int} (d : decode cc pc = .ok (.if_icmp .eq off, 3)) (ht : (pc : Int) + off = (tgt : Int)) (ha : w32 a = a2) (hb2 : w32 b = b2) (kt : tp_J X Y L N nL dep rk A M lv (st) (tgt)) (kf : tp_J X Y L N nL dep rk B M lv (st) (pc + 3)) : tp_J X Y L N nL dep rk (if a2 = b2 then A else B) M lv (vI b :: vI a :: st) (pc) := by
  obtain ⟨p, e, s, m, args, below, meth, c, res⟩ := Y
  obtain ⟨hx, hb, hml, hown, hts, hK, hNW, hE, hst, hr, hlk⟩ := G
  intro ho H locs ls hP hS hl
  subst ha; subst hb2
  refine lv_icmp_eq hx hb d ht (fun q => ?_) (fun q => ?_)
  · exact kt (by rw [if_pos ((wi_eq a b).mp q)] at ho; exact ho) H locs ls hP hS hl
  · exact kf (by rw [if_neg (fun z => q ((wi_eq a b).mpr z))] at ho; exact ho) H locs ls hP hS hl
theorem tj_icmp_lt (G : tp_Ok X Y N cc nL own ret) {a b a2 b2 : Int} (d : decode cc pc = .ok (.if_icmp .lt off, 3)) (ht : (pc : Int) + off = (tgt : Int)) (ha : w32 a = a2) (hb2 : w32 b = b2) (kt : tp_J X Y L N nL dep rk A M lv (st) (tgt)) (kf : tp_J X Y L N nL dep rk B M lv (st) (pc + 3)) : tp_J X Y L N nL dep rk (if a2 < b2 then A else B) M lv (vI b :: vI a :: st) (pc) := by
  obtain ⟨p, e, s, m, args, below, meth, c, res⟩ := Y
  obtain ⟨hx, hb, hml, hown, hts, hK, hNW, hE, hst, hr, hlk⟩ := G
  intro ho H locs ls hP hS hl
  subst ha; subst hb2
  refine lv_icmp_lt hx hb d ht (fun q => ?_) (fun q => ?_)
  · exact kt (by rw [if_pos ((wi_lt a b).mp q)] at ho; exact ho) H locs ls hP hS hl
  · exact kf (by rw [if_neg (fun z => q ((wi_lt a b).mpr z))] at ho; exact ho) H locs ls hP hS hl
theorem tj_icmp_le (G : tp_Ok X Y N cc nL own ret) {a b a2 b2 : Int} (d : decode cc pc = .ok (.if_icmp .le off, 3)) (ht : (pc : Int) + off = (tgt : Int)) (ha : w32 a = a2) (hb2 : w32 b = b2) (kt : tp_J X Y L N nL dep rk A M lv (st) (tgt)) (kf : tp_J X Y L N nL dep rk B M lv (st) (pc + 3)) : tp_J X Y L N nL dep rk (if a2 ≤ b2 then A else B) M lv (vI b :: vI a :: st) (pc) := by
  obtain ⟨p, e, s, m, args, below, meth, c, res⟩ := Y
  obtain ⟨hx, hb, hml, hown, hts, hK, hNW, hE, hst, hr, hlk⟩ := G
  intro ho H locs ls hP hS hl
  subst ha; subst hb2
  refine lv_icmp_le hx hb d ht (fun q => ?_) (fun q => ?_)
  · exact kt (by rw [if_pos ((wi_le a b).mp q)] at ho; exact ho) H locs ls hP hS hl
  · exact kf (by rw [if_neg (fun z => q ((wi_le a b).mpr z))] at ho; exact ho) H locs ls hP hS hl
theorem tj_if_eq (G : tp_Ok X Y N cc nL own ret) {a a2 : Int} (d : decode cc pc = .ok (.ifCond .eq off, 3)) (ht : (pc : Int) + off = (tgt : Int)) (ha : w32 a = a2) (kt : tp_J X Y L N nL dep rk A M lv (st) (tgt)) (kf : tp_J X Y L N nL dep rk B M lv (st) (pc + 3)) : tp_J X Y L N nL dep rk (if a2 = 0 then A else B) M lv (vI a :: st) (pc) := by
  obtain ⟨p, e, s, m, args, below, meth, c, res⟩ := Y
  obtain ⟨hx, hb, hml, hown, hts, hK, hNW, hE, hst, hr, hlk⟩ := G
  intro ho H locs ls hP hS hl
  subst ha
  refine lv_if_eq hx hb d ht (fun q => ?_) (fun q => ?_)
  · exact kt (by rw [if_pos ((wi_eq0 a).mp q)] at ho; exact ho) H locs ls hP hS hl
  · exact kf (by rw [if_neg (fun z => q ((wi_eq0 a).mpr z))] at ho; exact ho) H locs ls hP hS hl
theorem tj_if_lt (G : tp_Ok X Y N cc nL own ret) {a a2 : Int} (d : decode cc pc = .ok (.ifCond .lt off, 3)) (ht : (pc : Int) + off = (tgt : Int)) (ha : w32 a = a2) (kt : tp_J X Y L N nL dep rk A M lv (st) (tgt)) (kf : tp_J X Y L N nL dep rk B M lv (st) (pc + 3)) : tp_J X Y L N nL dep rk (if a2 < 0 then A else B) M lv (vI a :: st) (pc) := by
  obtain ⟨p, e, s, m, args, below, meth, c, res⟩ := Y
  obtain ⟨hx, hb, hml, hown, hts, hK, hNW, hE, hst, hr, hlk⟩ := G
  intro ho H locs ls hP hS hl
  subst ha
  refine lv_if_lt hx hb d ht (fun q => ?_) (fun q => ?_)
  · exact kt (by rw [if_pos ((wi_lt0 a).mp q)] at ho; exact ho) H locs ls hP hS hl
  · exact kf (by rw [if_neg (fun z => q ((wi_lt0 a).mpr z))] at ho; exact ho) H locs ls hP hS hl
theorem tj_if_le (G : tp_Ok X Y N cc nL own ret) {a a2 : Int} (d : decode cc pc = .ok (.ifCond .le off, 3)) (ht : (pc : Int) + off = (tgt : Int)) (ha : w32 a = a2) (kt : tp_J X Y L N nL dep rk A M lv (st) (tgt)) (kf : tp_J X Y L N nL dep rk B M lv (st) (pc + 3)) : tp_J X Y L N nL dep rk (if a2 ≤ 0 then A else B) M lv (vI a :: st) (pc) := by
  obtain ⟨p, e, s, m, args, below, meth, c, res⟩ := Y
  obtain ⟨hx, hb, hml, hown, hts, hK, hNW, hE, hst, hr, hlk⟩ := G
  intro ho H locs ls hP hS hl
  subst ha
  refine lv_if_le hx hb d ht (fun q => ?_) (fun q => ?_)
  · exact kt (by rw [if_pos ((wi_le0 a).mp q)] at ho; exact ho) H locs ls hP hS hl
  · exact kf (by rw [if_neg (fun z => q ((wi_le0 a).mpr z))] at ho; exact ho) H locs ls hP hS hl
theorem tj_icmp_ne (G : tp_Ok X Y N cc nL own ret) {a b a2 b2 : Int} (d : decode cc pc = .ok (.if_icmp .ne off, 3)) (ht : (pc : Int) + off = (tgt : Int)) (ha : w32 a = a2) (hb2 : w32 b = b2) (kt : tp_J X Y L N nL dep rk A M lv (st) (tgt)) (kf : tp_J X Y L N nL dep rk B M lv (st) (pc + 3)) : tp_J X Y L N nL dep rk (if a2 = b2 then B else A) M lv (vI b :: vI a :: st) (pc) := by
  obtain ⟨p, e, s, m, args, below, meth, c, res⟩ := Y
  obtain ⟨hx, hb, hml, hown, hts, hK, hNW, hE, hst, hr, hlk⟩ := G
  intro ho H locs ls hP hS hl
  subst ha; subst hb2
  refine lv_icmp_ne hx hb d ht (fun q => ?_) (fun q => ?_)
  · refine kt ?_ H locs ls hP hS hl
    rw [if_neg ?_] at ho
    · exact ho
    · exact fun z => q ((wi_eq a b).mpr z)
  · refine kf ?_ H locs ls hP hS hl
    rw [if_pos ?_] at ho
    · exact ho
    · exact (wi_eq a b).mp (by first | exact q | exact Classical.not_not.mp q)
theorem tj_if_ne (G : tp_Ok X Y N cc nL own ret) {a a2 : Int} (d : decode cc pc = .ok (.ifCond .ne off, 3)) (ht : (pc : Int) + off = (tgt : Int)) (ha : w32 a = a2) (kt : tp_J X Y L N nL dep rk A M lv (st) (tgt)) (kf : tp_J X Y L N nL dep rk B M lv (st) (pc + 3)) : tp_J X Y L N nL dep rk (if a2 = 0 then B else A) M lv (vI a :: st) (pc) := by
  obtain ⟨p, e, s, m, args, below, meth, c, res⟩ := Y
  obtain ⟨hx, hb, hml, hown, hts, hK, hNW, hE, hst, hr, hlk⟩ := G
  intro ho H locs ls hP hS hl
  subst ha
  refine lv_if_ne hx hb d ht (fun q => ?_) (fun q => ?_)
  · refine kt ?_ H locs ls hP hS hl
    rw [if_neg ?_] at ho
    · exact ho
    · exact fun z => q ((wi_eq0 a).mpr z)
  · refine kf ?_ H locs ls hP hS hl
    rw [if_pos ?_] at ho
    · exact ho
    · exact (wi_eq0 a).mp (by first | exact q | exact Classical.not_not.mp q)
theorem tj_icmp_ge (G : tp_Ok X Y N cc nL own ret) {a b a2 b2 : Int} (d : decode cc pc = .ok (.if_icmp .ge off, 3)) (ht : (pc : Int) + off = (tgt : Int)) (ha : w32 a = a2) (hb2 : w32 b = b2) (kt : tp_J X Y L N nL dep rk A M lv (st) (tgt)) (kf : tp_J X Y L N nL dep rk B M lv (st) (pc + 3)) : tp_J X Y L N nL dep rk (if a2 < b2 then B else A) M lv (vI b :: vI a :: st) (pc) := by
  obtain ⟨p, e, s, m, args, below, meth, c, res⟩ := Y
  obtain ⟨hx, hb, hml, hown, hts, hK, hNW, hE, hst, hr, hlk⟩ := G
  intro ho H locs ls hP hS hl
  subst ha; subst hb2
  refine lv_icmp_ge hx hb d ht (fun q => ?_) (fun q => ?_)
  · refine kt ?_ H locs ls hP hS hl
    rw [if_neg ?_] at ho
    · exact ho
    · (first | rw [ge_iff_le, wi_le] at q | rw [wi_le] at q | rw [wi_lt] at q); omega
  · refine kf ?_ H locs ls hP hS hl
    rw [if_pos ?_] at ho
    · exact ho
    · (first | rw [ge_iff_le, wi_le] at q | rw [wi_le] at q | rw [wi_lt] at q); omega
theorem tj_if_ge (G : tp_Ok X Y N cc nL own ret) {a a2 : Int} (d : decode cc pc = .ok (.ifCond .ge off, 3)) (ht : (pc : Int) + off = (tgt : Int)) (ha : w32 a = a2) (kt : tp_J X Y L N nL dep rk A M lv (st) (tgt)) (kf : tp_J X Y L N nL dep rk B M lv (st) (pc + 3)) : tp_J X Y L N nL dep rk (if a2 < 0 then B else A) M lv (vI a :: st) (pc) := by
  obtain ⟨p, e, s, m, args, below, meth, c, res⟩ := Y
  obtain ⟨hx, hb, hml, hown, hts, hK, hNW, hE, hst, hr, hlk⟩ := G
  intro ho H locs ls hP hS hl
  subst ha
  refine lv_if_ge hx hb d ht (fun q => ?_) (fun q => ?_)
  · refine kt ?_ H locs ls hP hS hl
    rw [if_neg ?_] at ho
    · exact ho
    · (first | rw [ge_iff_le, wi_0le] at q | rw [wi_0le] at q | rw [wi_lt0] at q); omega
  · refine kf ?_ H locs ls hP hS hl
    rw [if_pos ?_] at ho
    · exact ho
    · (first | rw [ge_iff_le, wi_0le] at q | rw [wi_0le] at q | rw [wi_lt0] at q); omega
theorem tj_icmp_gt (G : tp_Ok X Y N cc nL own ret) {a b a2 b2 : Int} (d : decode cc pc = .ok (.if_icmp .gt off, 3)) (ht : (pc : Int) + off = (tgt : Int)) (ha : w32 a = a2) (hb2 : w32 b = b2) (kt : tp_J X Y L N nL dep rk A M lv (st) (tgt)) (kf : tp_J X Y L N nL dep rk B M lv (st) (pc + 3)) : tp_J X Y L N nL dep rk (if a2 ≤ b2 then B else A) M lv (vI b :: vI a :: st) (pc) := by
  obtain ⟨p, e, s, m, args, below, meth, c, res⟩ := Y
  obtain ⟨hx, hb, hml, hown, hts, hK, hNW, hE, hst, hr, hlk⟩ := G
  intro ho H locs ls hP hS hl
  subst ha; subst hb2
  refine lv_icmp_gt hx hb d ht (fun q => ?_) (fun q => ?_)
  · refine kt ?_ H locs ls hP hS hl
    rw [if_neg ?_] at ho
    · exact ho
    · (first | rw [gt_iff_lt, wi_lt] at q | rw [wi_lt] at q | rw [wi_le] at q); omega
  · refine kf ?_ H locs ls hP hS hl
    rw [if_pos ?_] at ho
    · exact ho
    · (first | rw [gt_iff_lt, wi_lt] at q | rw [wi_lt] at q | rw [wi_le] at q); omega
theorem tj_if_gt (G : tp_Ok X Y N cc nL own ret) {a a2 : Int} (d : decode cc pc = .ok (.ifCond .gt off, 3)) (ht : (pc : Int) + off = (tgt : Int)) (ha : w32 a = a2) (kt : tp_J X Y L N nL dep rk A M lv (st) (tgt)) (kf : tp_J X Y L N nL dep rk B M lv (st) (pc + 3)) : tp_J X Y L N nL dep rk (if a2 ≤ 0 then B else A) M lv (vI a :: st) (pc) := by
  obtain ⟨p, e, s, m, args, below, meth, c, res⟩ := Y
  obtain ⟨hx, hb, hml, hown, hts, hK, hNW, hE, hst, hr, hlk⟩ := G
  intro ho H locs ls hP hS hl
  subst ha
  refine lv_if_gt hx hb d ht (fun q => ?_) (fun q => ?_)
  · refine kt ?_ H locs ls hP hS hl
    rw [if_neg ?_] at ho
    · exact ho
    · (first | rw [gt_iff_lt, wi_0lt] at q | rw [wi_0lt] at q | rw [wi_le0] at q); omega
  · refine kf ?_ H locs ls hP hS hl
    rw [if_pos ?_] at ho
    · exact ho
    · (first | rw [gt_iff_lt, wi_0lt] at q | rw [wi_0lt] at q | rw [wi_le0] at q); omega
theorem tj_goto (G : tp_Ok X Y N cc nL own ret) (d : decode cc pc = .ok (.goto off, 3)) (ht : (pc : Int) + off = (tgt : Int)) (kk : tp_J X Y L N nL dep rk o M lv (st) (tgt)) : tp_J X Y L N nL dep rk o M lv (st) (pc) := by
  obtain ⟨p, e, s, m, args, below, meth, c, res⟩ := Y
  obtain ⟨hx, hb, hml, hown, hts, hK, hNW, hE, hst, hr, hlk⟩ := G
  intro ho H locs ls hP hS hl
  refine lv_goto hx hb d ht ?_
  exact kk ho H locs ls hP hS hl
theorem tj_dup (G : tp_Ok X Y N cc nL own ret) {v : Value} (d : decode cc pc = .ok (.dup, 1)) (hv : v.category = 1) (kk : tp_J X Y L N nL dep rk o M lv (v :: v :: st) (pc + 1)) : tp_J X Y L N nL dep rk o M lv (v :: st) (pc) := by
  obtain ⟨p, e, s, m, args, below, meth, c, res⟩ := Y
  obtain ⟨hx, hb, hml, hown, hts, hK, hNW, hE, hst, hr, hlk⟩ := G
  intro ho H locs ls hP hS hl
  refine lv_dup hx hb d hv ?_
  exact kk ho H locs ls hP hS hl
theorem tj_dup_x1 (G : tp_Ok X Y N cc nL own ret) {v w : Value} (d : decode cc pc = .ok (.dup_x1, 1)) (hv : v.category = 1) (hw : w.category = 1) (kk : tp_J X Y L N nL dep rk o M lv (v :: w :: v :: st) (pc + 1)) : tp_J X Y L N nL dep rk o M lv (v :: w :: st) (pc) := by
  obtain ⟨p, e, s, m, args, below, meth, c, res⟩ := Y
  obtain ⟨hx, hb, hml, hown, hts, hK, hNW, hE, hst, hr, hlk⟩ := G
  intro ho H locs ls hP hS hl
  refine lv_dup_x1 hx hb d hv hw ?_
  exact kk ho H locs ls hP hS hl
theorem tj_dup2 (G : tp_Ok X Y N cc nL own ret) {v w : Value} (d : decode cc pc = .ok (.dup2, 1)) (hv : v.category = 1) (hw : w.category = 1) (kk : tp_J X Y L N nL dep rk o M lv (v :: w :: v :: w :: st) (pc + 1)) : tp_J X Y L N nL dep rk o M lv (v :: w :: st) (pc) := by
  obtain ⟨p, e, s, m, args, below, meth, c, res⟩ := Y
  obtain ⟨hx, hb, hml, hown, hts, hK, hNW, hE, hst, hr, hlk⟩ := G
  intro ho H locs ls hP hS hl
  refine lv_dup2_11 hx hb d hv hw ?_
  exact kk ho H locs ls hP hS hl
theorem tj_pop (G : tp_Ok X Y N cc nL own ret) {v : Value} (d : decode cc pc = .ok (.pop, 1)) (hv : v.category = 1) (kk : tp_J X Y L N nL dep rk o M lv (st) (pc + 1)) : tp_J X Y L N nL dep rk o M lv (v :: st) (pc) := by
  obtain ⟨p, e, s, m, args, below, meth, c, res⟩ := Y
  obtain ⟨hx, hb, hml, hown, hts, hK, hNW, hE, hst, hr, hlk⟩ := G
  intro ho H locs ls hP hS hl
  refine lv_pop hx hb d hv ?_
  exact kk ho H locs ls hP hS hl
theorem tj_sub (ks : List Nat) {lv2 : tp_V} (h : lv_pick lv ks = lv2) (kk : tp_J X Y L N nL dep rk o M lv2 (st) (pc)) : tp_J X Y L N nL dep rk o M lv (st) (pc) := by
  obtain ⟨p, e, s, m, args, below, meth, c, res⟩ := Y
  intro ho H locs ls hP hS hl
  exact kk ho H locs ls hP hS (lv_sub hl ks h)
theorem tj_none : tp_J X Y L N nL dep rk none M lv (st) (pc) := by
  obtain ⟨p, e, s, m, args, below, meth, c, res⟩ := Y
  intro ho
  cases ho
theorem tj_case {Cd : Prop} {hC : Decidable Cd} (h1 : Cd → tp_J X Y L N nL dep rk A M lv (st) (pc)) (h2 : ¬ Cd → tp_J X Y L N nL dep rk B M lv (st) (pc)) : tp_J X Y L N nL dep rk (@ite _ Cd hC A B) M lv (st) (pc) := by
  by_cases h : Cd
  · rw [if_pos h]; exact h1 h
  · rw [if_neg h]; exact h2 h
theorem tj_tabIn (G : tp_Ok X Y N cc nL own ret) {dflt lo hi : Int} {offs : Array Int} {len : Nat} {a v : Int} (d : decode cc pc = .ok (.tableswitch dflt lo hi offs, len)) (hv : w32 a = v) (h1 : ¬ v < lo ∧ ¬ hi < v) (h3 : offs[(v - lo).toNat]? = some off) (ht : (pc : Int) + off = (tgt : Int)) (kk : tp_J X Y L N nL dep rk o M lv (st) (tgt)) : tp_J X Y L N nL dep rk o M lv (vI a :: st) (pc) := by
  obtain ⟨p, e, s, m, args, below, meth, c, res⟩ := Y
  obtain ⟨hx, hb, hml, hown, hts, hK, hNW, hE, hst, hr, hlk⟩ := G
  intro ho H locs ls hP hS hl
  subst hv
  rw [← w32_eq] at h1 h3
  refine lv_tableIn hx hb d h1.1 h1.2 h3 ht ?_
  exact kk ho H locs ls hP hS hl
theorem tj_tabOut (G : tp_Ok X Y N cc nL own ret) {dflt lo hi : Int} {offs : Array Int} {len : Nat} {a : Int} (d : decode cc pc = .ok (.tableswitch dflt lo hi offs, len)) (h1 : w32 a < lo ∨ hi < w32 a) (ht : (pc : Int) + dflt = (tgt : Int)) (kk : tp_J X Y L N nL dep rk o M lv (st) (tgt)) : tp_J X Y L N nL dep rk o M lv (vI a :: st) (pc) := by
  obtain ⟨p, e, s, m, args, below, meth, c, res⟩ := Y
  obtain ⟨hx, hb, hml, hown, hts, hK, hNW, hE, hst, hr, hlk⟩ := G
  intro ho H locs ls hP hS hl
  rw [← w32_eq] at h1
  refine lv_tableOut hx hb d h1 ht ?_
  exact kk ho H locs ls hP hS hl
theorem tj_look (G : tp_Ok X Y N cc nL own ret) {dflt : Int} {ps : Array (Int × Int)} {len : Nat} {a : Int} (d : decode cc pc = .ok (.lookupswitch dflt ps, len)) (hp : (ps.toList.zip (ps.toList.drop 1)).all (fun (a, next) => a.1 < next.1) = true) (h3 : Op.lookupswitch.offset ps.toList dflt (w32 a) = off) (ht : (pc : Int) + off = (tgt : Int)) (kk : tp_J X Y L N nL dep rk o M lv (st) (tgt)) : tp_J X Y L N nL dep rk o M lv (vI a :: st) (pc) := by
  obtain ⟨p, e, s, m, args, below, meth, c, res⟩ := Y
  obtain ⟨hx, hb, hml, hown, hts, hK, hNW, hE, hst, hr, hlk⟩ := G
  intro ho H locs ls hP hS hl
  rw [← w32_eq] at h3
  refine lv_lookup hx hb d hp h3 ht ?_
  exact kk ho H locs ls hP hS hl
end TJ
