/-! SETTINGS in their order -/
theorem sum_add (f : Nat → Int) (a : Nat) : ∀ b : Nat, dt_sum f (a + b) = dt_sum f a + dt_sum (fun t => f (a + t)) b := by
  intro b
  induction b with
  | zero => simp [dt_sum]
  | succ b ih =>
    show dt_sum f (a + b) + f (a + b) = dt_sum f a + (dt_sum (fun t => f (a + t)) b + f (a + b))
    rw [ih]; omega
theorem sum_blk (f : Nat → Int) (W : Nat) : ∀ K : Nat, dt_sum f (K * W) = dt_sum (fun k => dt_sum (fun t => f (k * W + t)) W) K := by
  intro K
  induction K with
  | zero => rw [Nat.zero_mul]; rfl
  | succ K ih =>
    rw [Nat.add_mul, Nat.one_mul, sum_add, ih]
    rfl
/-- the number of the first v posts: its digits -/
def dg (D : Nat → Nat) : Nat → Nat → Nat → Nat
  | 0, _, _ => 0
  | v + 1, b, i => if i = v then b % D v else dg D v (b / D v) i
def sg_of (g : Nat → Nat → Int) (d : Nat → Nat) : Nat → Int := fun i => g i (d i)
/-- in how many ways f posts from v on can be set -/
def wf (D : Nat → Nat) : Nat → Nat → Nat
  | 0, _ => 1
  | f + 1, v => D v * wf D f (v + 1)
section EN
variable {m : Nat} {D : Nat → Nat} {g : Nat → Nat → Int}
/-- 1 if setting b of all is a tree -/
def trb (m : Nat) (D : Nat → Nat) (g : Nat → Nat → Int) (b : Nat) : Int := dt_det m (sgm (sg_of g (dg D m b)))
theorem trb_01 (b : Nat) : (al m (sg_of g (dg D m b)) → trb m D g b = 1) ∧ (¬ al m (sg_of g (dg D m b)) → trb m D g b = 0) := det_one m _
theorem trb_in (b : Nat) : 0 ≤ trb m D g b ∧ trb m D g b ≤ 1 := by
  by_cases c : al m (sg_of g (dg D m b))
  · rw [(trb_01 b).1 c]; decide
  · rw [(trb_01 b).2 c]; decide
theorem tn_cg : ∀ (f v : Nat) (s s2 : Nat → Int), v + f = m → (∀ i : Nat, i < v → s2 i = s i) → tn m D g f v s2 = tn m D g f v s := by
  intro f
  induction f with
  | zero =>
    intro v s s2 hv h
    refine det_cg (fun i j hi hj => ?_)
    unfold sgm
    rw [h i (by omega)]
  | succ f ih =>
    intro v s s2 hv h
    refine sumN_cg (fun k hk => ih (v + 1) _ _ (by omega) (fun i hi => ?_))
    unfold upN
    by_cases c : i = v
    · rw [if_pos c, if_pos c]
    · rw [if_neg c, if_neg c]; exact h i (by omega)
theorem dg_child {v b k : Nat} (hk : k < D v) : ∀ i : Nat, i < v + 1 → dg D (v + 1) (b * D v + k) i = if i = v then k else dg D v b i := by
  intro i hi
  have h1 : (b * D v + k) % D v = k := by rw [Nat.mul_comm, Nat.mul_add_mod, Nat.mod_eq_of_lt hk]
  have h2 : (b * D v + k) / D v = b := by
    rw [Nat.mul_comm, Nat.mul_add_div (by omega), Nat.div_eq_of_lt hk, Nat.add_zero]
  show (if i = v then (b * D v + k) % D v else dg D v ((b * D v + k) / D v) i) = _
  rw [h1, h2]
/-- trees whose first posts have the number b -/
def cc (m : Nat) (D : Nat → Nat) (g : Nat → Nat → Int) (v b : Nat) : Int := tn m D g (m - v) v (sg_of g (dg D v b))
theorem cc_child {v b : Nat} (hv : v < m) : cc m D g v b = dt_sum (fun k => cc m D g (v + 1) (b * D v + k)) (D v) := by
  unfold cc
  rw [show m - v = (m - (v + 1)) + 1 by omega]
  show dt_sum (fun k => tn m D g (m - (v + 1)) (v + 1) (upN (sg_of g (dg D v b)) v (g v k))) (D v) = _
  refine sumN_cg (fun k hk => tn_cg _ _ _ _ (by omega) (fun i hi => ?_))
  unfold upN sg_of
  rw [dg_child hk i hi]
  by_cases c : i = v
  · rw [if_pos c, if_pos c, c]
  · rw [if_neg c, if_neg c]
theorem cc_blk : ∀ (f v b : Nat), v + f = m → cc m D g v b = dt_sum (fun t => trb m D g (b * wf D f v + t)) (wf D f v) := by
  intro f
  induction f with
  | zero =>
    intro v b hv
    have : v = m := by omega
    subst this
    unfold cc
    rw [Nat.sub_self]
    show dt_det v (sgm (sg_of g (dg D v b))) = 0 + trb v D g (b * 1 + 0)
    rw [Nat.mul_one, Nat.add_zero, Int.zero_add]
    rfl
  | succ f ih =>
    intro v b hv
    rw [cc_child (by omega)]
    show _ = dt_sum (fun t => trb m D g (b * (D v * wf D f (v + 1)) + t)) (D v * wf D f (v + 1))
    rw [sum_blk]
    refine sumN_cg (fun k hk => ?_)
    rw [ih (v + 1) _ (by omega)]
    refine sumN_cg (fun t ht => ?_)
    congr 1
    rw [Nat.add_mul, Nat.mul_assoc]
    omega
theorem cc_all : cc m D g 0 0 = dt_sum (trb m D g) (wf D m 0) := by
  rw [cc_blk m 0 0 (by omega)]
  refine sumN_cg (fun t _ => ?_)
  rw [Nat.zero_mul, Nat.zero_add]
theorem cc_end (b : Nat) : cc m D g m b = trb m D g b := by
  unfold cc
  rw [Nat.sub_self]
  rfl
theorem cc_nn (v b : Nat) : 0 ≤ cc m D g v b := tn_nn _ _ _
/-- trees ahead of setting s -/
def ahd (m : Nat) (D : Nat → Nat) (g : Nat → Nat → Int) (s : Nat) : Int := dt_sum (trb m D g) s
theorem ahd_blk {f v : Nat} (b : Nat) (hv : v + f = m) : ahd m D g ((b + 1) * wf D f v) = ahd m D g (b * wf D f v) + cc m D g v b := by
  unfold ahd
  rw [cc_blk f v b hv, Nat.add_mul, Nat.one_mul, sum_add]
theorem ahd_mono {a b : Nat} (h : a ≤ b) : ahd m D g a ≤ ahd m D g b := by
  obtain ⟨c, rfl⟩ : ∃ c, b = a + c := ⟨b - a, by omega⟩
  unfold ahd
  rw [sum_add]
  have := (sum_nn (f := fun t => trb m D g (a + t)) c (fun t _ => (trb_in _).1)).1
  omega
theorem dg_lt (hD : ∀ i : Nat, i < m → 1 ≤ D i) : ∀ (v b i : Nat), v ≤ m → i < v → dg D v b i < D i := by
  intro v
  induction v with
  | zero => intro b i _ h; omega
  | succ v ih =>
    intro b i hv hi
    show (if i = v then b % D v else dg D v (b / D v) i) < D i
    by_cases c : i = v
    · rw [if_pos c, c]; exact Nat.mod_lt _ (hD v (by omega))
    · rw [if_neg c]; exact ih _ i (by omega) (by omega)
theorem wf_pos (hD : ∀ i : Nat, i < m → 1 ≤ D i) : ∀ (f v : Nat), v + f ≤ m → 1 ≤ wf D f v := by
  intro f
  induction f with
  | zero => intro v _; exact Nat.le_refl 1
  | succ f ih =>
    intro v hv
    have h1 := hD v (by omega)
    have h2 := ih (v + 1) (by omega)
    exact Nat.mul_pos h1 h2
theorem wf_le (hD : ∀ i : Nat, i < m → D i ≤ 4) : ∀ (f v : Nat), v + f ≤ m → wf D f v ≤ 4 ^ f := by
  intro f
  induction f with
  | zero => intro v _; exact Nat.le_refl 1
  | succ f ih =>
    intro v hv
    show D v * wf D f (v + 1) ≤ 4 ^ (f + 1)
    rw [Nat.pow_succ, Nat.mul_comm (4 ^ f)]
    exact Nat.mul_le_mul (hD v (by omega)) (ih (v + 1) (by omega))
/-- a number of the first v posts below all there are, by its digits -/
def nb (D : Nat → Nat) (d : Nat → Nat) : Nat → Nat
  | 0 => 0
  | v + 1 => nb D d v * D v + d v
theorem nb_dg {d : Nat → Nat} : ∀ v : Nat, (∀ i : Nat, i < v → d i < D i) → ∀ i : Nat, i < v → dg D v (nb D d v) i = d i := by
  intro v
  induction v with
  | zero => intro _ i h; omega
  | succ v ih =>
    intro h i hi
    show dg D (v + 1) (nb D d v * D v + d v) i = d i
    rw [dg_child (h v (by omega)) i hi]
    by_cases c : i = v
    · rw [if_pos c, c]
    · rw [if_neg c]; exact ih (fun i hi => h i (by omega)) i (by omega)
/-- how many numbers of the first v posts there are -/
def wu (D : Nat → Nat) : Nat → Nat
  | 0 => 1
  | v + 1 => wu D v * D v
theorem wu_wf : ∀ (v f : Nat), v + f = m → wu D v * wf D f v = wf D m 0 := by
  intro v
  induction v with
  | zero => intro f h; show 1 * wf D f 0 = _; rw [Nat.one_mul, show f = m by omega]
  | succ v ih =>
    intro f h
    rw [← ih (f + 1) (by omega)]
    show wu D v * D v * wf D f (v + 1) = wu D v * (D v * wf D f (v + 1))
    rw [Nat.mul_assoc]
theorem nb_lt {d : Nat → Nat} : ∀ v : Nat, (∀ i : Nat, i < v → d i < D i) → nb D d v < wu D v := by
  intro v
  induction v with
  | zero => intro _; exact Nat.lt_succ_self 0
  | succ v ih =>
    intro h
    have h1 := ih (fun i hi => h i (by omega))
    have h2 := h v (by omega)
    show nb D d v * D v + d v < wu D v * D v
    have h3 : (nb D d v + 1) * D v ≤ wu D v * D v := Nat.mul_le_mul_right _ h1
    rw [Nat.add_mul, Nat.one_mul] at h3
    omega
theorem nb_of_dg {b : Nat} : ∀ (v b : Nat), (∀ i : Nat, i < v → 1 ≤ D i) → b < wu D v → nb D (dg D v b) v = b := by
  intro v
  induction v with
  | zero => intro b _ h; have : b < 1 := h; show 0 = b; omega
  | succ v ih =>
    intro b hD h
    have h : b < wu D v * D v := h
    have h1 : b / D v < wu D v := Nat.div_lt_of_lt_mul (by rw [Nat.mul_comm]; exact h)
    have h2 := ih (b / D v) (fun i hi => hD i (by omega)) h1
    show nb D (dg D (v + 1) b) v * D v + dg D (v + 1) b v = b
    have e1 : nb D (dg D (v + 1) b) v = nb D (dg D v (b / D v)) v := by
      have : ∀ u : Nat, u ≤ v → nb D (dg D (v + 1) b) u = nb D (dg D v (b / D v)) u := by
        intro u
        induction u with
        | zero => intro _; rfl
        | succ u iu =>
          intro hu
          show nb D (dg D (v + 1) b) u * D u + dg D (v + 1) b u = nb D (dg D v (b / D v)) u * D u + dg D v (b / D v) u
          rw [iu (by omega)]
          congr 1
          show (if u = v then b % D v else dg D v (b / D v) u) = _
          rw [if_neg (by omega)]
      exact this v (Nat.le_refl v)
    have e2 : dg D (v + 1) b v = b % D v := if_pos rfl
    rw [e1, h2, e2]
    have := Nat.div_add_mod b (D v)
    rw [Nat.mul_comm] at this
    exact this
end EN
/-! walks against ranks -/
theorem ob_shift (φ : Int → Int) (v : Int) : ∀ k : Nat, ob φ (φ v) k = ob φ v (k + 1) := by
  intro k
  induction k with
  | zero => rfl
  | succ k ih =>
    show φ (ob φ (φ v) k) = φ (ob φ v (k + 1))
    rw [ih]
theorem al_ob {n : Int} {D G R : Int → Int} {s : Nat → Int} (hn : nt_net n D G) (hR : ∀ u : Int, 1 ≤ u → u < n → 0 ≤ R u ∧ R u < D u) (hs : ∀ i : Nat, (i : Int) < n - 1 → s i = G (4 * ((i : Int) + 1) + R ((i : Int) + 1)) - 1) : al (n - 1).toNat s ↔ ∀ v : Int, 1 ≤ v → v < n → ob (ob_phi G R) v 8 = 0 := by
  have n8 := hn.1
  have hphi : ∀ i : Nat, (i : Int) < n - 1 → ob_phi G R ((i : Int) + 1) = s i + 1 := fun i hi => by
    rw [phi_n (by omega), hs i hi]; omega
  constructor
  · rintro ⟨h, hh⟩
    have gen : ∀ (N : Nat) (i : Nat), (i : Int) < n - 1 → h i < N → ∃ k : Nat, ob (ob_phi G R) ((i : Int) + 1) k = 0 := by
      intro N
      induction N with
      | zero => intro i _ h; omega
      | succ N ih =>
        intro i hi hN
        have hb := ob_in hn hR (v := (i : Int) + 1) (by omega) 1
        have hb : 0 ≤ ob_phi G R ((i : Int) + 1) ∧ ob_phi G R ((i : Int) + 1) < n := hb
        have hp := hphi i hi
        by_cases c : s i = -1
        · exact ⟨1, by show ob_phi G R ((i : Int) + 1) = 0; omega⟩
        · have hw : s i = (((s i).toNat : Nat) : Int) := by omega
          have hlt := hh i (s i).toNat (by omega) hw (by omega)
          obtain ⟨k, hk⟩ := ih (s i).toNat (by omega) (by omega)
          refine ⟨k + 1, ?_⟩
          rw [← ob_shift, hp]
          rw [← hw] at hk
          exact hk
    intro v v1 v2
    obtain ⟨k, hk⟩ := gen (h (v - 1).toNat + 1) (v - 1).toNat (by omega) (by omega)
    rw [show (((v - 1).toNat : Nat) : Int) + 1 = v by omega] at hk
    exact (ob_eight hn hR (v := v) (by omega)).mp ⟨k, hk⟩
  · intro hz
    have hmin : ∀ v : Int, ∃ k : Nat, 1 ≤ v → v < n → ob (ob_phi G R) v k = 0 ∧ ∀ e : Nat, e < k → ¬ ob (ob_phi G R) v e = 0 := fun v => by
      by_cases hv : 1 ≤ v ∧ v < n
      · have : ∀ N : Nat, ob (ob_phi G R) v N = 0 → ∃ k : Nat, ob (ob_phi G R) v k = 0 ∧ ∀ e : Nat, e < k → ¬ ob (ob_phi G R) v e = 0 := by
          intro N
          induction N using Nat.strongRecOn with
          | ind N ih =>
            intro h0
            by_cases hx : ∃ e : Nat, e < N ∧ ob (ob_phi G R) v e = 0
            · obtain ⟨e, e1, e2⟩ := hx
              exact ih e e1 e2
            · exact ⟨N, h0, fun e he q => hx ⟨e, he, q⟩⟩
        obtain ⟨k, hk⟩ := this 8 (hz v hv.1 hv.2)
        exact ⟨k, fun _ _ => hk⟩
      · exact ⟨0, fun a b => absurd ⟨a, b⟩ hv⟩
    refine ⟨fun i => Classical.choose (hmin ((i : Int) + 1)), fun v w hv e hw => ?_⟩
    obtain ⟨a1, a2⟩ := Classical.choose_spec (hmin ((v : Int) + 1)) (by omega) (by omega)
    obtain ⟨b1, b2⟩ := Classical.choose_spec (hmin ((w : Int) + 1)) (by omega) (by omega)
    have hp := hphi v (by omega)
    rw [e] at hp
    show Classical.choose (hmin ((w : Int) + 1)) < Classical.choose (hmin ((v : Int) + 1))
    generalize Classical.choose (hmin ((v : Int) + 1)) = kv at *
    generalize Classical.choose (hmin ((w : Int) + 1)) = kw at *
    have hkv : 1 ≤ kv := by
      refine Classical.byContradiction (fun c => ?_)
      have : kv = 0 := by omega
      rw [this] at a1
      have a1 : (v : Int) + 1 = 0 := a1
      omega
    refine Classical.byContradiction (fun c => ?_)
    refine b2 (kv - 1) (by omega) ?_
    rw [← hp, ob_shift, show kv - 1 + 1 = kv by omega]
    exact a1
