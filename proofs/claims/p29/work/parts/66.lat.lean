abbrev Z4 : Type := Int × Int × Int × Int
theorem Z4.eq {u z : Z4} (h : u.1 = z.1 ∧ u.2.1 = z.2.1 ∧ u.2.2.1 = z.2.2.1 ∧ u.2.2.2 = z.2.2.2) : u = z := Prod.ext h.1 (Prod.ext h.2.1 (Prod.ext h.2.2.1 h.2.2.2))
def zneg (z : Z4) : Z4 := (-z.1, -z.2.1, -z.2.2.1, -z.2.2.2)
noncomputable def dt4 (w x y v : Nat) (z : Z4) : Int := (w : Int) * z.1 + (x : Int) * z.2.1 + (y : Int) * z.2.2.1 + (v : Int) * z.2.2.2
def K4 (a b c d : Nat) (z : Z4) : Prop := dt4 (a / 4) (b / 4) (c / 4) (d / 4) z = 0 ∧ dt4 (a % 4) (b % 4) (c % 4) (d % 4) z = 0
def cf4 (u z : Z4) : Prop := c1 u.1 z.1 ∧ c1 u.2.1 z.2.1 ∧ c1 u.2.2.1 z.2.2.1 ∧ c1 u.2.2.2 z.2.2.2
def Gm4 (a b c d : Nat) (z : Z4) : Prop := K4 a b c d z ∧ z ≠ (0, 0, 0, 0) ∧ ∀ u, K4 a b c d u → u ≠ (0, 0, 0, 0) → cf4 u z → u = z
noncomputable def dp4 (w x y v : Nat) (z : Z4) : Nat := w * z.1.toNat + x * z.2.1.toNat + y * z.2.2.1.toNat + v * z.2.2.2.toNat
def Fb4 (a b c d : Nat) (z : Z4) : Prop := AtM (F4q (a / 4) (a % 4) (b / 4) (b % 4) (c / 4) (c % 4) (d / 4) (d % 4) (dp4 (a / 4) (b / 4) (c / 4) (d / 4) z) (dp4 (a % 4) (b % 4) (c % 4) (d % 4) z)) 32
def bd4 (B : Nat) (z : Z4) : Prop := z.1.natAbs ≤ B ∧ z.2.1.natAbs ≤ B ∧ z.2.2.1.natAbs ≤ B ∧ z.2.2.2.natAbs ≤ B
def Qg (B a b c d : Nat) : Prop := ∃ G : List Z4, G.length ≤ 15 ∧ (∀ z, Gm4 a b c d z → z ∈ G ∨ zneg z ∈ G) ∧ ∀ g, g ∈ G → bd4 B g ∧ Fb4 a b c d g
theorem K4.neg {a b c d : Nat} {z : Z4} (h : K4 a b c d z) : K4 a b c d (zneg z) := by
  unfold K4 dt4 zneg at *
  constructor
  · have := h.1; grind
  · have := h.2; grind
theorem c1_nn {u v : Int} (h : c1 u (-v)) : c1 (-u) v := by unfold c1 at *; omega
theorem zneg_zneg (z : Z4) : zneg (zneg z) = z := by unfold zneg; exact Z4.eq ⟨Int.neg_neg _, Int.neg_neg _, Int.neg_neg _, Int.neg_neg _⟩
theorem zneg_ne {z : Z4} (h : z ≠ (0, 0, 0, 0)) : zneg z ≠ (0, 0, 0, 0) := fun e => h (by rw [← zneg_zneg z, e]; rfl)
theorem Gm4.neg {a b c d : Nat} {z : Z4} (h : Gm4 a b c d z) : Gm4 a b c d (zneg z) := by
  refine ⟨h.1.neg, zneg_ne h.2.1, fun u hu hn hc => ?_⟩
  have := h.2.2 (zneg u) hu.neg (zneg_ne hn) ⟨c1_nn hc.1, c1_nn hc.2.1, c1_nn hc.2.2.1, c1_nn hc.2.2.2⟩
  rw [← this, zneg_zneg]
-- columns k, l are the pivots, x, y are free
theorem cram {uk ul ux uy lk ll lx ly zk zl zx zy ak al ax ay bk bl bx by_ : Int} (z1 : uk * zk + ul * zl + ux * zx + uy * zy = 0) (z2 : lk * zk + ll * zl + lx * zx + ly * zy = 0)
    (a1 : uk * ak + ul * al + ux * ax + uy * ay = 0) (a2 : lk * ak + ll * al + lx * ax + ly * ay = 0) (b1 : uk * bk + ul * bl + ux * bx + uy * by_ = 0) (b2 : lk * bk + ll * bl + lx * bx + ly * by_ = 0) (hp : uk * ll - ul * lk ≠ 0) :
    (ax * by_ - ay * bx) * zk = (zx * by_ - zy * bx) * ak + (ax * zy - ay * zx) * bk ∧ (ax * by_ - ay * bx) * zl = (zx * by_ - zy * bx) * al + (ax * zy - ay * zx) * bl ∧
    (ax * by_ - ay * bx) * zx = (zx * by_ - zy * bx) * ax + (ax * zy - ay * zx) * bx ∧ (ax * by_ - ay * bx) * zy = (zx * by_ - zy * bx) * ay + (ax * zy - ay * zx) * by_ := by
  have h1 : uk * ((ax * by_ - ay * bx) * zk - (zx * by_ - zy * bx) * ak - (ax * zy - ay * zx) * bk) + ul * ((ax * by_ - ay * bx) * zl - (zx * by_ - zy * bx) * al - (ax * zy - ay * zx) * bl) = 0 := by
    have e : uk * ((ax * by_ - ay * bx) * zk - (zx * by_ - zy * bx) * ak - (ax * zy - ay * zx) * bk) + ul * ((ax * by_ - ay * bx) * zl - (zx * by_ - zy * bx) * al - (ax * zy - ay * zx) * bl) = (ax * by_ - ay * bx) * (uk * zk + ul * zl + ux * zx + uy * zy) - (zx * by_ - zy * bx) * (uk * ak + ul * al + ux * ax + uy * ay) - (ax * zy - ay * zx) * (uk * bk + ul * bl + ux * bx + uy * by_) := by grind
    rw [e, z1, a1, b1]; simp
  have h2 : lk * ((ax * by_ - ay * bx) * zk - (zx * by_ - zy * bx) * ak - (ax * zy - ay * zx) * bk) + ll * ((ax * by_ - ay * bx) * zl - (zx * by_ - zy * bx) * al - (ax * zy - ay * zx) * bl) = 0 := by
    have e : lk * ((ax * by_ - ay * bx) * zk - (zx * by_ - zy * bx) * ak - (ax * zy - ay * zx) * bk) + ll * ((ax * by_ - ay * bx) * zl - (zx * by_ - zy * bx) * al - (ax * zy - ay * zx) * bl) = (ax * by_ - ay * bx) * (lk * zk + ll * zl + lx * zx + ly * zy) - (zx * by_ - zy * bx) * (lk * ak + ll * al + lx * ax + ly * ay) - (ax * zy - ay * zx) * (lk * bk + ll * bl + lx * bx + ly * by_) := by grind
    rw [e, z2, a2, b2]; simp
  generalize e1 : (ax * by_ - ay * bx) * zk - (zx * by_ - zy * bx) * ak - (ax * zy - ay * zx) * bk = wk at h1 h2
  generalize e2 : (ax * by_ - ay * bx) * zl - (zx * by_ - zy * bx) * al - (ax * zy - ay * zx) * bl = wl at h1 h2
  have k1 : (uk * ll - ul * lk) * wk = 0 := by
    have e : (uk * ll - ul * lk) * wk = ll * (uk * wk + ul * wl) - ul * (lk * wk + ll * wl) := by grind
    rw [e, h1, h2]; simp
  have k2 : (uk * ll - ul * lk) * wl = 0 := by
    have e : (uk * ll - ul * lk) * wl = uk * (lk * wk + ll * wl) - lk * (uk * wk + ul * wl) := by grind
    rw [e, h1, h2]; simp
  have w1 := (Int.mul_eq_zero.1 k1).resolve_left hp
  have w2 := (Int.mul_eq_zero.1 k2).resolve_left hp
  refine ⟨by omega, by omega, by grind, by grind⟩
noncomputable def cmb (x y : Int) (g h : Z4) : Z4 := (x * g.1 + y * h.1, x * g.2.1 + y * h.2.1, x * g.2.2.1 + y * h.2.2.1, x * g.2.2.2 + y * h.2.2.2)
noncomputable def ip4 (h z : Z4) : Int := h.1 * z.1 + h.2.1 * z.2.1 + h.2.2.1 * z.2.2.1 + h.2.2.2 * z.2.2.2
theorem ip_cmb (h g g' : Z4) (x y : Int) : ip4 h (cmb x y g g') = x * ip4 h g + y * ip4 h g' := by unfold ip4 cmb; grind
theorem dt_cmb (p q r s : Nat) (g g' : Z4) (x y : Int) : dt4 p q r s (cmb x y g g') = x * dt4 p q r s g + y * dt4 p q r s g' := by unfold dt4 cmb; grind
theorem K4.cmb {a b c d : Nat} {g g' : Z4} (h : K4 a b c d g) (h' : K4 a b c d g') (x y : Int) : K4 a b c d (cmb x y g g') := by
  refine ⟨?_, ?_⟩
  · rw [dt_cmb, h.1, h'.1]; simp
  · rw [dt_cmb, h.2, h'.2]; simp
theorem of_D {D A B : Int} {h h' g g' z : Z4} (hD : D ≠ 0) (e1 : ip4 h g = 1) (e2 : ip4 h g' = 0) (e3 : ip4 h' g = 0) (e4 : ip4 h' g' = 1) (hz : cmb D 0 z z = cmb A B g g') : z = cmb (ip4 h z) (ip4 h' z) g g' := by
  have i1 := congrArg (ip4 h) hz
  have i2 := congrArg (ip4 h') hz
  rw [ip_cmb, ip_cmb, e1, e2] at i1
  rw [ip_cmb, ip_cmb, e3, e4] at i2
  have A' : A = D * ip4 h z := by omega
  have B' : B = D * ip4 h' z := by omega
  rw [A', B'] at hz
  have f : ∀ {p q r : Int}, D * p + 0 * p = D * ip4 h z * q + D * ip4 h' z * r → p = ip4 h z * q + ip4 h' z * r := fun {p q r} h => by
    refine Int.eq_of_mul_eq_mul_left hD ?_
    grind
  exact Z4.eq ⟨f (congrArg (fun v : Z4 => v.1) hz), f (congrArg (fun v : Z4 => v.2.1) hz), f (congrArg (fun v : Z4 => v.2.2.1) hz), f (congrArg (fun v : Z4 => v.2.2.2) hz)⟩
-- the pivots in each place
def Pv4 (a b c d : Nat) (g g' : Z4) : Prop := (((a / 4 : Nat) : Int) * ((b % 4 : Nat) : Int) - ((b / 4 : Nat) : Int) * ((a % 4 : Nat) : Int) ≠ 0 ∧ g.2.2.1 * g'.2.2.2 - g.2.2.2 * g'.2.2.1 ≠ 0) ∨ (((a / 4 : Nat) : Int) * ((c % 4 : Nat) : Int) - ((c / 4 : Nat) : Int) * ((a % 4 : Nat) : Int) ≠ 0 ∧ g.2.1 * g'.2.2.2 - g.2.2.2 * g'.2.1 ≠ 0) ∨ (((a / 4 : Nat) : Int) * ((d % 4 : Nat) : Int) - ((d / 4 : Nat) : Int) * ((a % 4 : Nat) : Int) ≠ 0 ∧ g.2.1 * g'.2.2.1 - g.2.2.1 * g'.2.1 ≠ 0) ∨ (((b / 4 : Nat) : Int) * ((c % 4 : Nat) : Int) - ((c / 4 : Nat) : Int) * ((b % 4 : Nat) : Int) ≠ 0 ∧ g.1 * g'.2.2.2 - g.2.2.2 * g'.1 ≠ 0) ∨ (((b / 4 : Nat) : Int) * ((d % 4 : Nat) : Int) - ((d / 4 : Nat) : Int) * ((b % 4 : Nat) : Int) ≠ 0 ∧ g.1 * g'.2.2.1 - g.2.2.1 * g'.1 ≠ 0) ∨ (((c / 4 : Nat) : Int) * ((d % 4 : Nat) : Int) - ((d / 4 : Nat) : Int) * ((c % 4 : Nat) : Int) ≠ 0 ∧ g.1 * g'.2.1 - g.2.1 * g'.1 ≠ 0)
theorem basis {a b c d : Nat} {h h' g g' z : Z4} (hz : K4 a b c d z) (hg : K4 a b c d g) (hg' : K4 a b c d g') (e1 : ip4 h g = 1) (e2 : ip4 h g' = 0) (e3 : ip4 h' g = 0) (e4 : ip4 h' g' = 1)
    (hm : Pv4 a b c d g g') : z = cmb (ip4 h z) (ip4 h' z) g g' := by
  have w0 : ∀ x y : Int, x * y + 0 * y = x * y := fun x y => by omega
  obtain ⟨z1, z2⟩ := hz
  obtain ⟨a1, a2⟩ := hg
  obtain ⟨b1, b2⟩ := hg'
  unfold dt4 at z1 z2 a1 a2 b1 b2
  rcases hm with ⟨hp, hD⟩ | ⟨hp, hD⟩ | ⟨hp, hD⟩ | ⟨hp, hD⟩ | ⟨hp, hD⟩ | ⟨hp, hD⟩
  · have C := cram (show ((a / 4 : Nat) : Int) * z.1 + ((b / 4 : Nat) : Int) * z.2.1 + ((c / 4 : Nat) : Int) * z.2.2.1 + ((d / 4 : Nat) : Int) * z.2.2.2 = 0 by first | exact z1 | (rw [← z1]; ac_rfl)) (show ((a % 4 : Nat) : Int) * z.1 + ((b % 4 : Nat) : Int) * z.2.1 + ((c % 4 : Nat) : Int) * z.2.2.1 + ((d % 4 : Nat) : Int) * z.2.2.2 = 0 by first | exact z2 | (rw [← z2]; ac_rfl)) (show ((a / 4 : Nat) : Int) * g.1 + ((b / 4 : Nat) : Int) * g.2.1 + ((c / 4 : Nat) : Int) * g.2.2.1 + ((d / 4 : Nat) : Int) * g.2.2.2 = 0 by first | exact a1 | (rw [← a1]; ac_rfl)) (show ((a % 4 : Nat) : Int) * g.1 + ((b % 4 : Nat) : Int) * g.2.1 + ((c % 4 : Nat) : Int) * g.2.2.1 + ((d % 4 : Nat) : Int) * g.2.2.2 = 0 by first | exact a2 | (rw [← a2]; ac_rfl)) (show ((a / 4 : Nat) : Int) * g'.1 + ((b / 4 : Nat) : Int) * g'.2.1 + ((c / 4 : Nat) : Int) * g'.2.2.1 + ((d / 4 : Nat) : Int) * g'.2.2.2 = 0 by first | exact b1 | (rw [← b1]; ac_rfl)) (show ((a % 4 : Nat) : Int) * g'.1 + ((b % 4 : Nat) : Int) * g'.2.1 + ((c % 4 : Nat) : Int) * g'.2.2.1 + ((d % 4 : Nat) : Int) * g'.2.2.2 = 0 by first | exact b2 | (rw [← b2]; ac_rfl)) hp
    exact of_D hD e1 e2 e3 e4 (Z4.eq ⟨(w0 _ _).trans C.1, (w0 _ _).trans C.2.1, (w0 _ _).trans C.2.2.1, (w0 _ _).trans C.2.2.2⟩)
  · have C := cram (show ((a / 4 : Nat) : Int) * z.1 + ((c / 4 : Nat) : Int) * z.2.2.1 + ((b / 4 : Nat) : Int) * z.2.1 + ((d / 4 : Nat) : Int) * z.2.2.2 = 0 by first | exact z1 | (rw [← z1]; ac_rfl)) (show ((a % 4 : Nat) : Int) * z.1 + ((c % 4 : Nat) : Int) * z.2.2.1 + ((b % 4 : Nat) : Int) * z.2.1 + ((d % 4 : Nat) : Int) * z.2.2.2 = 0 by first | exact z2 | (rw [← z2]; ac_rfl)) (show ((a / 4 : Nat) : Int) * g.1 + ((c / 4 : Nat) : Int) * g.2.2.1 + ((b / 4 : Nat) : Int) * g.2.1 + ((d / 4 : Nat) : Int) * g.2.2.2 = 0 by first | exact a1 | (rw [← a1]; ac_rfl)) (show ((a % 4 : Nat) : Int) * g.1 + ((c % 4 : Nat) : Int) * g.2.2.1 + ((b % 4 : Nat) : Int) * g.2.1 + ((d % 4 : Nat) : Int) * g.2.2.2 = 0 by first | exact a2 | (rw [← a2]; ac_rfl)) (show ((a / 4 : Nat) : Int) * g'.1 + ((c / 4 : Nat) : Int) * g'.2.2.1 + ((b / 4 : Nat) : Int) * g'.2.1 + ((d / 4 : Nat) : Int) * g'.2.2.2 = 0 by first | exact b1 | (rw [← b1]; ac_rfl)) (show ((a % 4 : Nat) : Int) * g'.1 + ((c % 4 : Nat) : Int) * g'.2.2.1 + ((b % 4 : Nat) : Int) * g'.2.1 + ((d % 4 : Nat) : Int) * g'.2.2.2 = 0 by first | exact b2 | (rw [← b2]; ac_rfl)) hp
    exact of_D hD e1 e2 e3 e4 (Z4.eq ⟨(w0 _ _).trans C.1, (w0 _ _).trans C.2.2.1, (w0 _ _).trans C.2.1, (w0 _ _).trans C.2.2.2⟩)
  · have C := cram (show ((a / 4 : Nat) : Int) * z.1 + ((d / 4 : Nat) : Int) * z.2.2.2 + ((b / 4 : Nat) : Int) * z.2.1 + ((c / 4 : Nat) : Int) * z.2.2.1 = 0 by first | exact z1 | (rw [← z1]; ac_rfl)) (show ((a % 4 : Nat) : Int) * z.1 + ((d % 4 : Nat) : Int) * z.2.2.2 + ((b % 4 : Nat) : Int) * z.2.1 + ((c % 4 : Nat) : Int) * z.2.2.1 = 0 by first | exact z2 | (rw [← z2]; ac_rfl)) (show ((a / 4 : Nat) : Int) * g.1 + ((d / 4 : Nat) : Int) * g.2.2.2 + ((b / 4 : Nat) : Int) * g.2.1 + ((c / 4 : Nat) : Int) * g.2.2.1 = 0 by first | exact a1 | (rw [← a1]; ac_rfl)) (show ((a % 4 : Nat) : Int) * g.1 + ((d % 4 : Nat) : Int) * g.2.2.2 + ((b % 4 : Nat) : Int) * g.2.1 + ((c % 4 : Nat) : Int) * g.2.2.1 = 0 by first | exact a2 | (rw [← a2]; ac_rfl)) (show ((a / 4 : Nat) : Int) * g'.1 + ((d / 4 : Nat) : Int) * g'.2.2.2 + ((b / 4 : Nat) : Int) * g'.2.1 + ((c / 4 : Nat) : Int) * g'.2.2.1 = 0 by first | exact b1 | (rw [← b1]; ac_rfl)) (show ((a % 4 : Nat) : Int) * g'.1 + ((d % 4 : Nat) : Int) * g'.2.2.2 + ((b % 4 : Nat) : Int) * g'.2.1 + ((c % 4 : Nat) : Int) * g'.2.2.1 = 0 by first | exact b2 | (rw [← b2]; ac_rfl)) hp
    exact of_D hD e1 e2 e3 e4 (Z4.eq ⟨(w0 _ _).trans C.1, (w0 _ _).trans C.2.2.1, (w0 _ _).trans C.2.2.2, (w0 _ _).trans C.2.1⟩)
  · have C := cram (show ((b / 4 : Nat) : Int) * z.2.1 + ((c / 4 : Nat) : Int) * z.2.2.1 + ((a / 4 : Nat) : Int) * z.1 + ((d / 4 : Nat) : Int) * z.2.2.2 = 0 by first | exact z1 | (rw [← z1]; ac_rfl)) (show ((b % 4 : Nat) : Int) * z.2.1 + ((c % 4 : Nat) : Int) * z.2.2.1 + ((a % 4 : Nat) : Int) * z.1 + ((d % 4 : Nat) : Int) * z.2.2.2 = 0 by first | exact z2 | (rw [← z2]; ac_rfl)) (show ((b / 4 : Nat) : Int) * g.2.1 + ((c / 4 : Nat) : Int) * g.2.2.1 + ((a / 4 : Nat) : Int) * g.1 + ((d / 4 : Nat) : Int) * g.2.2.2 = 0 by first | exact a1 | (rw [← a1]; ac_rfl)) (show ((b % 4 : Nat) : Int) * g.2.1 + ((c % 4 : Nat) : Int) * g.2.2.1 + ((a % 4 : Nat) : Int) * g.1 + ((d % 4 : Nat) : Int) * g.2.2.2 = 0 by first | exact a2 | (rw [← a2]; ac_rfl)) (show ((b / 4 : Nat) : Int) * g'.2.1 + ((c / 4 : Nat) : Int) * g'.2.2.1 + ((a / 4 : Nat) : Int) * g'.1 + ((d / 4 : Nat) : Int) * g'.2.2.2 = 0 by first | exact b1 | (rw [← b1]; ac_rfl)) (show ((b % 4 : Nat) : Int) * g'.2.1 + ((c % 4 : Nat) : Int) * g'.2.2.1 + ((a % 4 : Nat) : Int) * g'.1 + ((d % 4 : Nat) : Int) * g'.2.2.2 = 0 by first | exact b2 | (rw [← b2]; ac_rfl)) hp
    exact of_D hD e1 e2 e3 e4 (Z4.eq ⟨(w0 _ _).trans C.2.2.1, (w0 _ _).trans C.1, (w0 _ _).trans C.2.1, (w0 _ _).trans C.2.2.2⟩)
  · have C := cram (show ((b / 4 : Nat) : Int) * z.2.1 + ((d / 4 : Nat) : Int) * z.2.2.2 + ((a / 4 : Nat) : Int) * z.1 + ((c / 4 : Nat) : Int) * z.2.2.1 = 0 by first | exact z1 | (rw [← z1]; ac_rfl)) (show ((b % 4 : Nat) : Int) * z.2.1 + ((d % 4 : Nat) : Int) * z.2.2.2 + ((a % 4 : Nat) : Int) * z.1 + ((c % 4 : Nat) : Int) * z.2.2.1 = 0 by first | exact z2 | (rw [← z2]; ac_rfl)) (show ((b / 4 : Nat) : Int) * g.2.1 + ((d / 4 : Nat) : Int) * g.2.2.2 + ((a / 4 : Nat) : Int) * g.1 + ((c / 4 : Nat) : Int) * g.2.2.1 = 0 by first | exact a1 | (rw [← a1]; ac_rfl)) (show ((b % 4 : Nat) : Int) * g.2.1 + ((d % 4 : Nat) : Int) * g.2.2.2 + ((a % 4 : Nat) : Int) * g.1 + ((c % 4 : Nat) : Int) * g.2.2.1 = 0 by first | exact a2 | (rw [← a2]; ac_rfl)) (show ((b / 4 : Nat) : Int) * g'.2.1 + ((d / 4 : Nat) : Int) * g'.2.2.2 + ((a / 4 : Nat) : Int) * g'.1 + ((c / 4 : Nat) : Int) * g'.2.2.1 = 0 by first | exact b1 | (rw [← b1]; ac_rfl)) (show ((b % 4 : Nat) : Int) * g'.2.1 + ((d % 4 : Nat) : Int) * g'.2.2.2 + ((a % 4 : Nat) : Int) * g'.1 + ((c % 4 : Nat) : Int) * g'.2.2.1 = 0 by first | exact b2 | (rw [← b2]; ac_rfl)) hp
    exact of_D hD e1 e2 e3 e4 (Z4.eq ⟨(w0 _ _).trans C.2.2.1, (w0 _ _).trans C.1, (w0 _ _).trans C.2.2.2, (w0 _ _).trans C.2.1⟩)
  · have C := cram (show ((c / 4 : Nat) : Int) * z.2.2.1 + ((d / 4 : Nat) : Int) * z.2.2.2 + ((a / 4 : Nat) : Int) * z.1 + ((b / 4 : Nat) : Int) * z.2.1 = 0 by first | exact z1 | (rw [← z1]; ac_rfl)) (show ((c % 4 : Nat) : Int) * z.2.2.1 + ((d % 4 : Nat) : Int) * z.2.2.2 + ((a % 4 : Nat) : Int) * z.1 + ((b % 4 : Nat) : Int) * z.2.1 = 0 by first | exact z2 | (rw [← z2]; ac_rfl)) (show ((c / 4 : Nat) : Int) * g.2.2.1 + ((d / 4 : Nat) : Int) * g.2.2.2 + ((a / 4 : Nat) : Int) * g.1 + ((b / 4 : Nat) : Int) * g.2.1 = 0 by first | exact a1 | (rw [← a1]; ac_rfl)) (show ((c % 4 : Nat) : Int) * g.2.2.1 + ((d % 4 : Nat) : Int) * g.2.2.2 + ((a % 4 : Nat) : Int) * g.1 + ((b % 4 : Nat) : Int) * g.2.1 = 0 by first | exact a2 | (rw [← a2]; ac_rfl)) (show ((c / 4 : Nat) : Int) * g'.2.2.1 + ((d / 4 : Nat) : Int) * g'.2.2.2 + ((a / 4 : Nat) : Int) * g'.1 + ((b / 4 : Nat) : Int) * g'.2.1 = 0 by first | exact b1 | (rw [← b1]; ac_rfl)) (show ((c % 4 : Nat) : Int) * g'.2.2.1 + ((d % 4 : Nat) : Int) * g'.2.2.2 + ((a % 4 : Nat) : Int) * g'.1 + ((b % 4 : Nat) : Int) * g'.2.1 = 0 by first | exact b2 | (rw [← b2]; ac_rfl)) hp
    exact of_D hD e1 e2 e3 e4 (Z4.eq ⟨(w0 _ _).trans C.2.2.1, (w0 _ _).trans C.2.2.2, (w0 _ _).trans C.1, (w0 _ _).trans C.2.1⟩)
-- two neighbours: what lies between them and is minimal is one of them
theorem c1_add {x y P Q : Int} (hx : 1 ≤ x) (hy : 0 ≤ y) (h : 0 ≤ P * Q) : c1 P (x * P + y * Q) := by
  unfold c1
  rcases Int.lt_trichotomy P 0 with hp | hp | hp
  · have hq : Q ≤ 0 := Int.not_lt.1 fun hq => by have := Int.mul_neg_of_neg_of_pos hp hq; omega
    have h1 := Int.mul_le_mul_of_nonpos_right hx (Int.le_of_lt hp)
    have h2 := Int.mul_nonpos_of_nonneg_of_nonpos hy hq
    right; omega
  · subst hp
    rcases Int.le_total 0 Q with hq | hq
    · have := Int.mul_nonneg hy hq; left; omega
    · have := Int.mul_nonpos_of_nonneg_of_nonpos hy hq; right; omega
  · have hq : 0 ≤ Q := Int.not_lt.1 fun hq => by have := Int.mul_neg_of_pos_of_neg hp hq; omega
    have h1 := Int.mul_le_mul_of_nonneg_right hx (Int.le_of_lt hp)
    have h2 := Int.mul_nonneg hy hq
    left; omega
def nb4 (P Q : Z4) : Prop := 0 ≤ P.1 * Q.1 ∧ 0 ≤ P.2.1 * Q.2.1 ∧ 0 ≤ P.2.2.1 * Q.2.2.1 ∧ 0 ≤ P.2.2.2 * Q.2.2.2
theorem nb4.sw {P Q : Z4} (h : nb4 P Q) : nb4 Q P := by unfold nb4 at *; rw [Int.mul_comm Q.1, Int.mul_comm Q.2.1, Int.mul_comm Q.2.2.1, Int.mul_comm Q.2.2.2]; exact h
theorem cf_cmb {x y : Int} {P Q : Z4} (hx : 1 ≤ x) (hy : 0 ≤ y) (h : nb4 P Q) : cf4 P (cmb x y P Q) := ⟨c1_add hx hy h.1, c1_add hx hy h.2.1, c1_add hx hy h.2.2.1, c1_add hx hy h.2.2.2⟩
theorem cmb_sw (x y : Int) (P Q : Z4) : cmb x y P Q = cmb y x Q P := by unfold cmb; exact Z4.eq ⟨Int.add_comm _ _, Int.add_comm _ _, Int.add_comm _ _, Int.add_comm _ _⟩
theorem between {a b c d : Nat} {x y : Int} {P Q : Z4} (hx : 0 ≤ x) (hy : 0 ≤ y) (hP : K4 a b c d P) (hQ : K4 a b c d Q) (hP0 : P ≠ (0, 0, 0, 0)) (hQ0 : Q ≠ (0, 0, 0, 0)) (hn : nb4 P Q) (h : Gm4 a b c d (cmb x y P Q)) : cmb x y P Q = P ∨ cmb x y P Q = Q := by
  rcases Int.lt_or_le 0 x with h1 | h1
  · exact .inl (h.2.2 P hP hP0 (cf_cmb h1 hy hn)).symm
  rcases Int.lt_or_le 0 y with h2 | h2
  · exact .inr (h.2.2 Q hQ hQ0 (cmb_sw x y P Q ▸ cf_cmb h2 hx hn.sw)).symm
  · exfalso
    apply h.2.1
    have e1 : x = 0 := by omega
    have e2 : y = 0 := by omega
    rw [e1, e2]; unfold cmb; exact Z4.eq ⟨by simp, by simp, by simp, by simp⟩
theorem step_ex {s : Nat → Int} : ∀ n, s 0 ≤ 0 → 0 ≤ s (n + 1) → ∃ k, k < n + 1 ∧ s k ≤ 0 ∧ 0 ≤ s (k + 1)
  | 0, h0, h1 => ⟨0, by omega, h0, h1⟩
  | n + 1, h0, h1 => by
    rcases Int.le_total (s (n + 1)) 0 with h | h
    · exact ⟨n + 1, by omega, h, h1⟩
    · obtain ⟨k, hk, h2, h3⟩ := step_ex n h0 h
      exact ⟨k, by omega, h2, h3⟩
theorem cmb_cmb {A B x y x' y' : Int} {g g' : Z4} (h : x * y' - x' * y = 1) : cmb A B g g' = cmb (A * y' - B * x') (x * B - y * A) (cmb x y g g') (cmb x' y' g g') := by
  unfold cmb
  have e1 : A = (A * y' - B * x') * x + (x * B - y * A) * x' := by grind
  have e2 : B = (A * y' - B * x') * y + (x * B - y * A) * y' := by grind
  have f : ∀ p q : Int, A * p + B * q = (A * y' - B * x') * (x * p + y * q) + (x * B - y * A) * (x' * p + y' * q) := fun p q => by grind
  exact Z4.eq ⟨f _ _, f _ _, f _ _, f _ _⟩
theorem ip_z (h : Z4) : ip4 h (0, 0, 0, 0) = 0 := by unfold ip4; simp
theorem cmb_0 {a b c d : Nat} {h h' g g' : Z4} {x y : Int} (e1 : ip4 h g = 1) (e2 : ip4 h g' = 0) (e3 : ip4 h' g = 0) (e4 : ip4 h' g' = 1) (hn : ¬ (x = 0 ∧ y = 0)) : cmb x y g g' ≠ (0, 0, 0, 0) := fun e => by
  have i1 := congrArg (ip4 h) e
  have i2 := congrArg (ip4 h') e
  rw [ip_cmb, e1, e2] at i1
  rw [ip_cmb, e3, e4] at i2
  rw [ip_z] at i1 i2
  exact hn ⟨by omega, by omega⟩
theorem chain {a b c d : Nat} {h h' g g' : Z4} {n : Nat} {X Y : Nat → Int} (hg : K4 a b c d g) (hg' : K4 a b c d g') (e1 : ip4 h g = 1) (e2 : ip4 h g' = 0) (e3 : ip4 h' g = 0) (e4 : ip4 h' g' = 1) (hp : Pv4 a b c d g g')
    (h0 : X 0 = -1 ∧ Y 0 = 0) (h1 : X (n + 1) = 1 ∧ Y (n + 1) = 0) (hd : ∀ k, k < n + 1 → X (k + 1) * Y k - X k * Y (k + 1) = 1) (hn : ∀ k, k < n + 1 → nb4 (cmb (X (k + 1)) (Y (k + 1)) g g') (cmb (X k) (Y k) g g')) {z : Z4} (hz : Gm4 a b c d z) :
    ∃ k, k < n + 2 ∧ (z = cmb (X k) (Y k) g g' ∨ zneg z = cmb (X k) (Y k) g g') := by
  have key : ∀ z, Gm4 a b c d z → 0 ≤ ip4 h' z → ∃ k, k < n + 2 ∧ z = cmb (X k) (Y k) g g' := fun z hz hs => by
    have ez := basis hz.1 hg hg' e1 e2 e3 e4 hp
    generalize ip4 h z = A at ez
    generalize ip4 h' z = B at ez hs
    obtain ⟨k, hk, s1, s2⟩ := step_ex (s := fun k => X k * B - Y k * A) n (by rw [h0.1, h0.2]; omega) (by rw [h1.1, h1.2]; omega)
    have ec := cmb_cmb (A := A) (B := B) (g := g) (g' := g') (hd k hk)
    have d1 := hd k hk
    have nz1 : ¬ (X (k + 1) = 0 ∧ Y (k + 1) = 0) := fun e => by rw [e.1, e.2] at d1; simp at d1
    have nz0 : ¬ (X k = 0 ∧ Y k = 0) := fun e => by rw [e.1, e.2] at d1; simp at d1
    rw [ez, ec] at hz
    have hx : 0 ≤ A * Y k - B * X k := by rw [Int.mul_comm A, Int.mul_comm B]; omega
    rcases between hx s2 (hg.cmb hg' _ _) (hg.cmb hg' _ _) (cmb_0 (a := a) (b := b) (c := c) (d := d) e1 e2 e3 e4 nz1) (cmb_0 (a := a) (b := b) (c := c) (d := d) e1 e2 e3 e4 nz0) (hn k hk) hz with e | e
    · exact ⟨k + 1, by omega, ez.trans (ec.trans e)⟩
    · exact ⟨k, by omega, ez.trans (ec.trans e)⟩
  rcases Int.le_total 0 (ip4 h' z) with hs | hs
  · obtain ⟨k, hk, e⟩ := key z hz hs; exact ⟨k, hk, .inl e⟩
  · obtain ⟨k, hk, e⟩ := key (zneg z) hz.neg (by
      have : ip4 h' (zneg z) = -ip4 h' z := by unfold ip4 zneg; grind
      omega)
    exact ⟨k, hk, .inr e⟩
