/-- row e of the reference's basis -/
def er (F : FE) (e : Int) : Int → Int := fun j => F 4 (4 * e + j)
def lst (E : Int → Int → Int) (z : Int → Int) (k : Int) : Prop := ∀ e, 0 ≤ e ∧ e < k → ¬ c4 (E e) z 4 ∧ ¬ c4 (ng (E e)) z 4
theorem c4_ext {u u' v : Int → Int} {k : Nat} (e : ∀ j, u j = u' j) (h : c4 u v k) : c4 u' v k := fun i hi => by rw [← e]; exact h i hi
theorem lr_il {d n0 : Nat} {Q : PQ} {I : IE} {F : FE} {k : Int} (hd : 2 ≤ d) (hk : 0 ≤ k ∧ k < 800) (hc : 0 ≤ I 0 5 ∧ I 0 5 ≤ 159) (hE : ∀ e, 0 ≤ e ∧ e < I 0 5 → ∀ j, 0 ≤ j ∧ j < 4 → -100 ≤ er F e j ∧ er F e j ≤ 100) (hv : ∀ j, 0 ≤ j ∧ j < 4 → -100 ≤ kr F k j ∧ kr F k j ≤ 100)
    (K : ∀ v x, tf (lst (er F) (kr F k) (I 0 5)) v → WS m8_isLeast d 0 0 n0 Q 0 0 60 [lr 0, li k, li v, x] [] shM I F) :
    ∀ (m c : Nat) (v : Int), (c + m : Int) = I 0 5 → tf (lst (er F) (kr F k) c) v → WS m8_isLeast d 0 0 n0 Q 0 0 4 [lr 0, li k, li v, li c] [] shM I F := by
  intro m
  induction m with
  | zero =>
    intro c v hc hP
    have ec : (c : Int) = I 0 5 := by omega
    rw [ec] at hP
    refine w_iload i8_isLeast_4 rfl ?_
    refine w_aload i8_isLeast_5 rfl ?_
    refine w_get i8_isLeast_6 rfl rfl ?_
    refine w_icmpge i8_isLeast_9 (fun h9 => ?_) (fun h_ => absurd h_ (by omega))
    exact K v _ hP
  | succ m ih =>
    intro c v hcm hP
    have bE := hE c (by omega)
    have hu : ∀ j, 0 ≤ j ∧ j < 4 → F 4 (4 * (c : Int) + j) = er F c j ∧ -100 ≤ er F c j ∧ er F c j ≤ 100 := fun j hj => ⟨rfl, bE j hj⟩
    have hw : ∀ j, 0 ≤ j ∧ j < 4 → F 5 (4 * k + j) = kr F k j ∧ -100 ≤ kr F k j ∧ kr F k j ≤ 100 := fun j hj => ⟨rfl, hv j hj⟩
    have p1 : c4 (fun j => 1 * er F c j) (kr F k) 4 ↔ c4 (er F c) (kr F k) 4 := ⟨c4_ext (fun j => Int.one_mul _), c4_ext (fun j => (Int.one_mul _).symm)⟩
    have p2 : c4 (fun j => -1 * er F c j) (kr F k) 4 ↔ c4 (ng (er F c)) (kr F k) 4 := ⟨c4_ext (fun j => by unfold ng; omega), c4_ext (fun j => by unfold ng; omega)⟩
    have ek : ((c + 1 : Nat) : Int) = (c : Int) + 1 := by omega
    have up : ∀ w, tf (v = 1 ∧ ¬ c4 (er F c) (kr F k) 4 ∧ ¬ c4 (ng (er F c)) (kr F k) 4) w → tf (lst (er F) (kr F k) ((c + 1 : Nat) : Int)) w := fun w hw => by
      have key : (v = 1 ∧ ¬ c4 (er F c) (kr F k) 4 ∧ ¬ c4 (ng (er F c)) (kr F k) 4) ↔ lst (er F) (kr F k) ((c + 1 : Nat) : Int) := by
        constructor
        · rintro ⟨g1, g2⟩ e he
          rcases hP with ⟨-, g⟩ | ⟨g, -⟩
          · by_cases x : e = c
            · rw [x]; exact g2
            · exact g e (by omega)
          · omega
        · intro g
          refine ⟨?_, g c (by omega)⟩
          rcases hP with ⟨g1, -⟩ | ⟨-, g1⟩
          · exact g1
          · exact absurd (fun e he => g e (by omega)) g1
      unfold tf at hw ⊢
      rw [← key]
      exact hw
    have dn : v = 0 → tf (lst (er F) (kr F k) (I 0 5)) 0 := fun h0 => Or.inr ⟨rfl, fun g => by
      rcases hP with ⟨g1, -⟩ | ⟨-, g1⟩
      · omega
      · exact g1 (fun e he => g e (by omega))⟩
    have nx : ∀ w, tf (v = 1 ∧ ¬ c4 (er F c) (kr F k) 4 ∧ ¬ c4 (ng (er F c)) (kr F k) 4) w → WS m8_isLeast d 0 0 n0 Q 0 0 4 [lr 0, li k, li w, li ((c : Int) + 1)] [] shM I F := fun w hw => by
      rw [← ek]
      exact ih (c + 1) w (by omega) (up w hw)
    have v01 : v = 1 ∨ v = 0 := by rcases hP with ⟨h, -⟩ | ⟨h, -⟩ <;> omega
    rcases v01 with rfl | rfl
    · refine w_iload i8_isLeast_4 rfl ?_
      refine w_aload i8_isLeast_5 rfl ?_
      refine w_get i8_isLeast_6 rfl rfl ?_
      refine w_icmpge i8_isLeast_9 (fun h_ => absurd h_ (by omega)) (fun h9 => ?_)
      refine w_iload i8_isLeast_12 rfl ?_
      refine w_ifeq i8_isLeast_13 (fun h_ => absurd h_ (by omega)) (fun h13 => ?_)
      refine w_aload i8_isLeast_16 rfl ?_
      refine w_iload i8_isLeast_17 rfl ?_
      refine w_const i8_isLeast_18 ?_
      refine w_aload i8_isLeast_19 rfl ?_
      refine w_getr i8_isLeast_20 rfl rfl ?_
      refine w_const i8_isLeast_23 ?_
      refine w_iload i8_isLeast_24 rfl ?_
      refine w_imul i8_isLeast_25 (by omega) ?_
      refine w_cVP i8_isLeast_26 f8_isConformal v8_isConformal (r_isConformal (N := 3200) (by omega) (by omega) (Or.inl rfl) (by omega) rfl (by omega) hu hw) rfl rfl (by decide) rfl rfl (Nat.le_of_ble_eq_true rfl) (by omega) (fun x1 hx1 => ?_)
      rw [show tf (c4 (fun j => 1 * er F c j) (kr F k) 4) = tf (c4 (er F c) (kr F k) 4) by rw [propext p1]] at hx1
      refine w_ifne i8_isLeast_29 (fun h29 => ?_) (fun h29 => ?_)
      · refine w_const i8_isLeast_52 ?_
        refine w_is2 i8_isLeast_53 ?_
        refine w_ii3 i8_isLeast_54 (by omega) ?_
        refine w_goto i8_isLeast_57 ?_
        first
        | (have a2 := hx2
           refine nx 1 (Or.inl ⟨rfl, rfl, ?_, ?_⟩)
           · rcases hx1 with ⟨h, -⟩ | ⟨-, h⟩
             · omega
             · exact h
           · rcases hx2 with ⟨h, -⟩ | ⟨-, h⟩
             · omega
             · exact h)
        | (have a2 := hx2
           refine nx 0 (Or.inr ⟨rfl, fun h => ?_⟩)
           rcases hx2 with ⟨-, h2⟩ | ⟨h2, -⟩
           · exact h.2.2 h2
           · omega)
        | (refine nx 0 (Or.inr ⟨rfl, fun h => ?_⟩)
           rcases hx1 with ⟨-, h2⟩ | ⟨h2, -⟩
           · exact h.2.1 h2
           · omega)
      · refine w_aload i8_isLeast_32 rfl ?_
        refine w_iload i8_isLeast_33 rfl ?_
        refine w_const i8_isLeast_34 ?_
        refine w_aload i8_isLeast_35 rfl ?_
        refine w_getr i8_isLeast_36 rfl rfl ?_
        refine w_const i8_isLeast_39 ?_
        refine w_iload i8_isLeast_40 rfl ?_
        refine w_imul i8_isLeast_41 (by omega) ?_
        refine w_cVP i8_isLeast_42 f8_isConformal v8_isConformal (r_isConformal (N := 3200) (by omega) (by omega) (Or.inr rfl) (by omega) rfl (by omega) hu hw) rfl rfl (by decide) rfl rfl (Nat.le_of_ble_eq_true rfl) (by omega) (fun x2 hx2 => ?_)
        rw [show tf (c4 (fun j => -1 * er F c j) (kr F k) 4) = tf (c4 (ng (er F c)) (kr F k) 4) by rw [propext p2]] at hx2
        refine w_ifne i8_isLeast_45 (fun h45 => ?_) (fun h45 => ?_)
        · refine w_const i8_isLeast_52 ?_
          refine w_is2 i8_isLeast_53 ?_
          refine w_ii3 i8_isLeast_54 (by omega) ?_
          refine w_goto i8_isLeast_57 ?_
          first
          | (have a2 := hx2
             refine nx 1 (Or.inl ⟨rfl, rfl, ?_, ?_⟩)
             · rcases hx1 with ⟨h, -⟩ | ⟨-, h⟩
               · omega
               · exact h
             · rcases hx2 with ⟨h, -⟩ | ⟨-, h⟩
               · omega
               · exact h)
          | (have a2 := hx2
             refine nx 0 (Or.inr ⟨rfl, fun h => ?_⟩)
             rcases hx2 with ⟨-, h2⟩ | ⟨h2, -⟩
             · exact h.2.2 h2
             · omega)
          | (refine nx 0 (Or.inr ⟨rfl, fun h => ?_⟩)
             rcases hx1 with ⟨-, h2⟩ | ⟨h2, -⟩
             · exact h.2.1 h2
             · omega)
        · refine w_const i8_isLeast_48 ?_
          refine w_goto i8_isLeast_49 ?_
          refine w_is2 i8_isLeast_53 ?_
          refine w_ii3 i8_isLeast_54 (by omega) ?_
          refine w_goto i8_isLeast_57 ?_
          first
          | (have a2 := hx2
             refine nx 1 (Or.inl ⟨rfl, rfl, ?_, ?_⟩)
             · rcases hx1 with ⟨h, -⟩ | ⟨-, h⟩
               · omega
               · exact h
             · rcases hx2 with ⟨h, -⟩ | ⟨-, h⟩
               · omega
               · exact h)
          | (have a2 := hx2
             refine nx 0 (Or.inr ⟨rfl, fun h => ?_⟩)
             rcases hx2 with ⟨-, h2⟩ | ⟨h2, -⟩
             · exact h.2.2 h2
             · omega)
          | (refine nx 0 (Or.inr ⟨rfl, fun h => ?_⟩)
             rcases hx1 with ⟨-, h2⟩ | ⟨h2, -⟩
             · exact h.2.1 h2
             · omega)
    · refine w_iload i8_isLeast_4 rfl ?_
      refine w_aload i8_isLeast_5 rfl ?_
      refine w_get i8_isLeast_6 rfl rfl ?_
      refine w_icmpge i8_isLeast_9 (fun h_ => absurd h_ (by omega)) (fun h9 => ?_)
      refine w_iload i8_isLeast_12 rfl ?_
      refine w_ifeq i8_isLeast_13 (fun h13 => ?_) (fun h_ => absurd h_ (by omega))
      exact K 0 _ (dn rfl)
theorem r_isLeast {d : Nat} {I : IE} {F : FE} {k : Int} (hd : 2 ≤ d) (hk : 0 ≤ k ∧ k < 800) (hc : 0 ≤ I 0 5 ∧ I 0 5 ≤ 159) (hE : ∀ e, 0 ≤ e ∧ e < I 0 5 → ∀ j, 0 ≤ j ∧ j < 4 → -100 ≤ er F e j ∧ er F e j ≤ 100) (hv : ∀ j, 0 ≤ j ∧ j < 4 → -100 ≤ kr F k j ∧ kr F k j ≤ 100) : MP m8_isLeast d shM [rv 0, iv k] I F (tf (lst (er F) (kr F k) (I 0 5))) := by
  refine MS_of (ls := [lr 0, li k, lu, lu]) f8_isLeast rfl rfl (Nat.le_of_ble_eq_true rfl) ?_
  refine w_const i8_isLeast_0 ?_
  refine w_is2 i8_isLeast_1 ?_
  refine w_const i8_isLeast_2 ?_
  refine w_is3 i8_isLeast_3 ?_
  refine lr_il hd hk hc hE hv (fun v x h => ?_) (I 0 5).toNat 0 1 (by omega) (Or.inl ⟨rfl, fun e he => absurd he (by omega)⟩)
  refine w_iload i8_isLeast_60 rfl ?_
  refine w_iret i8_isLeast_61 (Or.inr ⟨rfl, by rcases h with h | h <;> omega⟩) ⟨Nat.le_refl _, Nat.le_refl _⟩ ?_
  exact ⟨rfl, _, rfl, h, rfl, rfl⟩
def nz (n : Int) (z : Int → Int) : Prop := ∃ j, 0 ≤ j ∧ j < n ∧ z j ≠ 0
/-- a vector of the kernel with nothing of it below -/
def Gmin (M : Int → Int) (n : Int) (z : Int → Int) : Prop := KerF M n z ∧ nz n z ∧ ∀ u, KerF M n u → nz n u → cf n u z → ∀ j, 0 ≤ j ∧ j < n → u j = z j
/-- facts of numbers, proved later -/
def CapG : Prop := ∀ (M : Int → Int) (n : Int), (2 ≤ n ∧ n ≤ 4) → (∀ j, 0 ≤ M j ∧ M j ≤ 3) → ∀ (k : Nat) (E : Nat → Int → Int), (∀ i, i < k → Gmin M n (E i) ∧ lead (E i) n) → (∀ i j, i < j → j < k → ¬ ∀ c, 0 ≤ c ∧ c < n → E i c = E j c) → k ≤ 15
def BndG : Prop := ∀ (M : Int → Int) (n r b : Int) (z : Int → Int), (2 ≤ n ∧ n ≤ 4) → (∀ j, 0 ≤ M j ∧ M j ≤ 3) → PVr M n r b → Gmin M n z → ∀ j, 0 ≤ j ∧ j < n → -b ≤ z j ∧ z j ≤ b
theorem c1_ng {u v : Int} (h : c1 u v) : c1 (-u) (-v) := by unfold c1 at *; omega
theorem cf_ng {n : Int} {u v : Int → Int} (h : cf n u v) : cf n (ng u) (ng v) := fun i hi => c1_ng (h i hi)
theorem ng_ng (u : Int → Int) : ng (ng u) = u := by funext j; unfold ng; omega
theorem lead_or {n : Int} {u : Int → Int} (hn : 0 ≤ n) (h : nz n u) : lead u n ∨ lead (ng u) n := by
  obtain ⟨j, j0, j1, j2⟩ := h
  have key : ∀ k : Nat, (∃ i, 0 ≤ i ∧ i < (k : Int) ∧ i < n ∧ u i ≠ 0) → lead u n ∨ lead (ng u) n := by
    intro k
    induction k with
    | zero => rintro ⟨i, i0, i1, -⟩; omega
    | succ k ih =>
      rintro ⟨i, i0, i1, i2, i3⟩
      by_cases c : ∃ i, 0 ≤ i ∧ i < (k : Int) ∧ i < n ∧ u i ≠ 0
      · exact ih c
      · have z : ∀ i, 0 ≤ i ∧ i < (k : Int) → i < n → u i = 0 := fun i hi hn => Classical.byContradiction fun h => c ⟨i, hi.1, hi.2, hn, h⟩
        have ik : i = k := by
          by_cases e : i = k
          · exact e
          · exact absurd (z i (by omega) i2) i3
        by_cases p : 0 < u i
        · exact Or.inl ⟨i, i0, i2, fun q hq => z q (by omega) (by omega), p⟩
        · refine Or.inr ⟨i, i0, i2, fun q hq => ?_, ?_⟩
          · unfold ng; rw [z q (by omega) (by omega)]; rfl
          · unfold ng; omega
  exact key (j.toNat + 1) ⟨j, j0, by omega, j1, j2⟩
/-- the vector cut to n places -/
def trn (n : Int) (u : Int → Int) : Int → Int := fun j => if 0 ≤ j ∧ j < n then u j else 0
theorem trn_in {n : Int} {u : Int → Int} {j : Int} (h : 0 ≤ j ∧ j < n) : trn n u j = u j := if_pos h
theorem asum_n {n : Int} {z : Int → Int} (hn : 0 ≤ n ∧ n ≤ 4) (h : ∀ j, n ≤ j ∧ j < 4 → z j = 0) : asum z 4 = asum z n.toNat := by
  have key : ∀ k : Nat, n.toNat + k ≤ 4 → asum z (n.toNat + k) = asum z n.toNat := by
    intro k
    induction k with
    | zero => intro _; rfl
    | succ k ih =>
      intro hk
      show asum z (n.toNat + k) + ab (z ((n.toNat + k : Nat) : Int)) = _
      rw [ih (by omega), h _ (by omega)]
      show _ + 0 = _
      omega
  have := key (4 - n.toNat) (by omega)
  rw [show n.toNat + (4 - n.toNat) = 4 by omega] at this
  exact this
theorem cf_c4 {n : Int} {u v : Int → Int} (hn : 0 ≤ n ∧ n ≤ 4) (hu : ∀ j, n ≤ j ∧ j < 4 → u j = 0) : c4 u v 4 ↔ cf n u v := by
  constructor
  · exact fun h i hi => h i (by omega)
  · intro h i hi
    by_cases c : i < n
    · exact h i (by omega)
    · rw [hu i (by omega)]
      unfold c1; omega
/-- the processed vectors of the list -/
def prc (K : Int → Int → Int) (N k i : Int) : Prop := asum (K i) 4 < N ∨ (asum (K i) 4 = N ∧ i < k)
def LBI (M : Int → Int) (n b m N k : Int) (K : Int → Int → Int) (c : Int) (E : Int → Int → Int) : Prop := 0 ≤ c ∧
  (∀ e, 0 ≤ e ∧ e < c → Cnd M n b (E e) ∧ Gmin M n (E e) ∧ ∃ i, (0 ≤ i ∧ i < m) ∧ prc K N k i ∧ ∀ j, 0 ≤ j ∧ j < 4 → E e j = K i j) ∧
  (∀ e e', 0 ≤ e ∧ e < e' ∧ e' < c → (asum (E e) 4 < asum (E e') 4 ∨ (asum (E e) 4 = asum (E e') 4 ∧ Lxg (E e) (E e'))) ∧ ¬ cf n (E e) (E e') ∧ ¬ cf n (ng (E e)) (E e')) ∧
  ∀ i, 0 ≤ i ∧ i < m → prc K N k i → ∃ e, 0 ≤ e ∧ e < c ∧ (cf n (E e) (K i) ∨ cf n (ng (E e)) (K i))
theorem LBI.cap {M : Int → Int} {n b m N k c : Int} {K E : Int → Int → Int} (hG : CapG) (hn : 2 ≤ n ∧ n ≤ 4) (hM : ∀ j, 0 ≤ M j ∧ M j ≤ 3) (h : LBI M n b m N k K c E) : c ≤ 15 := by
  have := hG M n hn hM c.toNat (fun i => E i) (fun i hi => ⟨(h.2.1 i (by omega)).2.1, (h.2.1 i (by omega)).1.2.2.1⟩) (fun i j hij hj e => by
    have := (h.2.2.1 i j (by omega)).2.1
    exact this (fun q hq => by rw [e q hq]; exact c1_rf _))
  have := h.1
  omega
theorem LBI.cut {M : Int → Int} {n b m N k c : Int} {K E E' : Int → Int → Int} (hn : 2 ≤ n ∧ n ≤ 4) (h : LBI M n b m N k K c E) (e : ∀ x, 0 ≤ x ∧ x < c → ∀ j, 0 ≤ j ∧ j < 4 → E x j = E' x j) : LBI M n b m N k K c E' := by
  obtain ⟨h0, h1, h2, h3⟩ := h
  refine ⟨h0, fun x hx => ?_, fun x y hxy => ?_, fun i hi hp => ?_⟩
  · obtain ⟨a1, ⟨a2, ⟨p, p0, p1, p2⟩, a4⟩, i, i1, i2, i3⟩ := h1 x hx
    refine ⟨a1.ext ⟨by omega, hn.2⟩ (e x hx), ⟨a2.ext (fun j hj => e x hx j (by omega)), ⟨p, p0, p1, by rw [← e x hx p (by omega)]; exact p2⟩, fun u hu hnz hc j hj => ?_⟩, i, i1, i2, fun j hj => by rw [← e x hx j hj]; exact i3 j hj⟩
    rw [← e x hx j (by omega)]
    exact a4 u hu hnz (cf_ext (fun _ _ => rfl) (fun j hj => (e x hx j (by omega)).symm) hc) j hj
  · obtain ⟨a1, a2, a3⟩ := h2 x y hxy
    have ex := e x (by omega)
    have ey := e y (by omega)
    refine ⟨?_, fun g => a2 (cf_ext (fun j hj => (ex j (by omega)).symm) (fun j hj => (ey j (by omega)).symm) g), fun g => a3 (cf_ext (fun j hj => ng_ext (ex j (by omega)).symm) (fun j hj => (ey j (by omega)).symm) g)⟩
    rw [← asum_ext 4 (fun j hj => ex j (by omega)), ← asum_ext 4 (fun j hj => ey j (by omega))]
    rcases a1 with a1 | ⟨a1, p, p0, p1, p2⟩
    · exact Or.inl a1
    · exact Or.inr ⟨a1, p, p0, fun q hq => by rw [← ex q (by omega), ← ey q (by omega)]; exact p1 q hq, by rw [← ex p (by omega), ← ey p (by omega)]; exact p2⟩
  · obtain ⟨x, x0, x1, x2⟩ := h3 i hi hp
    exact ⟨x, x0, x1, x2.imp (cf_ext (fun j hj => e x ⟨x0, x1⟩ j (by omega)) (fun _ _ => rfl)) (cf_ext (fun j hj => ng_ext (e x ⟨x0, x1⟩ j (by omega))) (fun _ _ => rfl))⟩
