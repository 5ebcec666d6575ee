noncomputable def gpt (a x y : Nat) : Nat := cond (Nat.beq a 0) 0 (y + (5 - x))
theorem gpt_s {a x y : Nat} (hx : x ≤ 5) (w : Nat) (hw : a = 0 → w = 0) : w * gpt a x y + w * x = w * y + 5 * w := by
  unfold gpt
  rcases @beq_0 a with ⟨e, h⟩ | ⟨e, h⟩ <;> rw [e] <;> dsimp only [cond]
  · rw [hw h]; simp
  · rw [Nat.mul_add, Nat.add_assoc, ← Nat.mul_add, show 5 - x + x = 5 by omega, Nat.mul_comm w 5]
theorem gpt_0 {a x y : Nat} : Slk (a / 4) (a % 4) (gpt a x y) := fun h1 h2 => by
  have : a = 0 := by omega
  unfold gpt; rw [this]; rfl
theorem gpt_i {a x y y' : Nat} (h : Slk (a / 4) (a % 4) y) (h' : Slk (a / 4) (a % 4) y') (e : gpt a x y = gpt a x y') : y = y' := by
  unfold gpt at e
  rcases @beq_0 a with ⟨q, g⟩ | ⟨q, g⟩ <;> rw [q] at e <;> dsimp only [cond] at e
  · rw [h (by omega) (by omega), h' (by omega) (by omega)]
  · omega
theorem pt_A {a b c d x0 x1 x2 x3 : Nat} (ha : a ≤ 15) (hb : b ≤ 15) (hc : c ≤ 15) (hd : d ≤ 15) (h0 : x0 ≤ 5) (h1 : x1 ≤ 5) (h2 : x2 ≤ 5) (h3 : x3 ≤ 5) : AtM (F4q (a / 4) (a % 4) (b / 4) (b % 4) (c / 4) (c % 4) (d / 4) (d % 4) (a / 4 * x0 + b / 4 * x1 + c / 4 * x2 + d / 4 * x3) (a % 4 * x0 + b % 4 * x1 + c % 4 * x2 + d % 4 * x3)) 2048 := by
  refine AtM.map (fp4 ha hb hc hd) (fun y => (gpt a x0 y.1, gpt b x1 y.2.1, gpt c x2 y.2.2.1, gpt d x3 y.2.2.2)) (fun y hy => ?_) (fun y y' hy hy' e => ?_)
  · obtain ⟨_, q5, q6⟩ := hy
    refine ⟨⟨gpt_0, gpt_0, gpt_0, gpt_0⟩, ?_, ?_⟩
    · have e0 := gpt_s (y := y.1) h0 (a := a) (a / 4) (fun h => by rw [h])
      have e1 := gpt_s (y := y.2.1) h1 (a := b) (b / 4) (fun h => by rw [h])
      have e2 := gpt_s (y := y.2.2.1) h2 (a := c) (c / 4) (fun h => by rw [h])
      have e3 := gpt_s (y := y.2.2.2) h3 (a := d) (d / 4) (fun h => by rw [h])
      dsimp only; omega
    · have e0 := gpt_s (y := y.1) h0 (a := a) (a % 4) (fun h => by rw [h])
      have e1 := gpt_s (y := y.2.1) h1 (a := b) (b % 4) (fun h => by rw [h])
      have e2 := gpt_s (y := y.2.2.1) h2 (a := c) (c % 4) (fun h => by rw [h])
      have e3 := gpt_s (y := y.2.2.2) h3 (a := d) (d % 4) (fun h => by rw [h])
      dsimp only; omega
  · obtain ⟨⟨q1, q2, q3, q4⟩, _⟩ := hy
    obtain ⟨⟨p1, p2, p3, p4⟩, _⟩ := hy'
    exact Prod.ext (gpt_i q1 p1 (congrArg (fun z : Nat × Nat × Nat × Nat => z.1) e)) (Prod.ext (gpt_i q2 p2 (congrArg (fun z : Nat × Nat × Nat × Nat => z.2.1) e)) (Prod.ext (gpt_i q3 p3 (congrArg (fun z : Nat × Nat × Nat × Nat => z.2.2.1) e)) (gpt_i q4 p4 (congrArg (fun z : Nat × Nat × Nat × Nat => z.2.2.2) e))))
theorem dp_dt {w x y v : Nat} {z : Z4} (h : ∀ i, 0 ≤ i ∧ i < 4 → 0 ≤ cmp4 z i) : ((dp4 w x y v z : Nat) : Int) = dt4 w x y v z := by
  have p0 : ((z.1.toNat : Nat) : Int) = z.1 := Int.toNat_of_nonneg (h 0 (by decide))
  have p1 : ((z.2.1.toNat : Nat) : Int) = z.2.1 := Int.toNat_of_nonneg (h 1 (by decide))
  have p2 : ((z.2.2.1.toNat : Nat) : Int) = z.2.2.1 := Int.toNat_of_nonneg (h 2 (by decide))
  have p3 : ((z.2.2.2.toNat : Nat) : Int) = z.2.2.2 := Int.toNat_of_nonneg (h 3 (by decide))
  unfold dp4 dt4
  simp only [Int.natCast_add, Int.natCast_mul, p0, p1, p2, p3]
theorem cap_pt {M y : Int → Int} {n : Int} (hn : 2 ≤ n ∧ n ≤ 4) (hM : ∀ j, 0 ≤ M j ∧ M j ≤ 3) (hy : ∀ j, 0 ≤ y j ∧ y j ≤ 5) : CapR M n (dt M y 0 n.toNat) (dt M y 1 n.toNat) := by
  intro m f hf hm
  have sh : ∀ i, 0 ≤ shf n y i ∧ shf n y i ≤ 5 := fun i => by
    unfold shf; split
    · exact hy _
    · omega
  have nn : ∀ i, 0 ≤ i ∧ i < 4 → 0 ≤ cmp4 (z4 n y) i := fun i hi => by rw [cmp_z4 hi]; exact (sh i).1
  have le5 : ∀ i : Int, (shf n y i).toNat ≤ 5 := fun i => by have := sh i; omega
  exact capX (S := dp4 (ccN M n 0 / 4) (ccN M n 1 / 4) (ccN M n 2 / 4) (ccN M n 3 / 4) (z4 n y)) (T := dp4 (ccN M n 0 % 4) (ccN M n 1 % 4) (ccN M n 2 % 4) (ccN M n 3 % 4) (z4 n y)) hM (by rw [dp_dt nn, (dt_z4 hn hM).1]) (by rw [dp_dt nn, (dt_z4 hn hM).2])
    (pt_A (ccN_b hM).1 (ccN_b hM).1 (ccN_b hM).1 (ccN_b hM).1 (le5 0) (le5 1) (le5 2) (le5 3)) m f hf hm
theorem capPR : CapPR := fun _ _ _ hn hM _ hy => cap_pt hn hM hy
theorem LInv.mem {u l : Int → Int} {s t p m : Int} {f : Int → Int} (h : LInv u l s t p m f) : ∀ i, 0 ≤ i ∧ i < m → ∃ y, FS u l s t y ∧ f i = cd4 y := fun i hi => by
  obtain ⟨y, h1, _, h3⟩ := (h.2.2 (f i)).1 ⟨i, hi.1, hi.2, rfl⟩
  exact ⟨y, h1, h3⟩
theorem capP : CapP := fun _ _ _ hn hM _ hy _ m f h => cap_pt hn hM hy m f h.2.1 h.mem
-- the parts of a minimal vector
theorem Fb4.neg {a b c d : Nat} {z : Z4} (hz : K4 a b c d z) (h : Fb4 a b c d (zneg z)) : Fb4 a b c d z := by
  have k : ∀ w x y v : Nat, dt4 w x y v z = 0 → dp4 w x y v (zneg z) = dp4 w x y v z := fun w x y v e => by
    apply Int.ofNat.inj
    show ((_ : Nat) : Int) = ((_ : Nat) : Int)
    have p : ∀ (w : Nat) (t : Int), (w : Int) * (t.toNat : Int) = (w : Int) * ((-t).toNat : Int) + (w : Int) * t := fun w t => by
      rw [← Int.mul_add]; congr 1; omega
    unfold dp4 zneg
    unfold dt4 at e
    dsimp only
    simp only [Int.natCast_add, Int.natCast_mul]
    have := p w z.1; have := p x z.2.1; have := p y z.2.2.1; have := p v z.2.2.2
    omega
  unfold Fb4 at *
  rw [k _ _ _ _ hz.1, k _ _ _ _ hz.2] at h
  exact h
theorem cap_el {M y z : Int → Int} {n : Int} (hn : 2 ≤ n ∧ n ≤ 4) (hM : ∀ j, 0 ≤ M j ∧ M j ≤ 3) (hz : Gmin M n z) (hy : ∀ j, 0 ≤ j ∧ j < n → y j = if 0 ≤ z j then z j else 0) (m : Int) (f : Int → Int) (hf : ∀ i j, 0 ≤ i ∧ i < j ∧ j < m → f i < f j) (hm : ∀ i, 0 ≤ i ∧ i < m → ∃ x, FS (uu M n) (ul M n) (dt M y 0 n.toNat) (dt M y 1 n.toNat) x ∧ f i = cd4 x) : m ≤ 32 := by
  have hg := hz.g4 hn hM
  have hF : Fb4 (ccN M n 0) (ccN M n 1) (ccN M n 2) (ccN M n 3) (z4 n z) := by
    obtain ⟨G, _, h2, h3⟩ := q_any (a := ccN M n 0) (b := ccN M n 1) (c := ccN M n 2) (d := ccN M n 3) (ccN_b hM).1 (ccN_b hM).1 (ccN_b hM).1 (ccN_b hM).1
    rcases h2 _ hg with h | h
    · exact (h3 _ h).2
    · exact ((h3 _ h).2).neg hg.1
  have sh : ∀ i : Int, i < 4 → shf n y i = ((shf n z i).toNat : Int) := fun i hi => by
    unfold shf
    by_cases c : 4 - n ≤ i
    · rw [if_pos c, if_pos c, hy _ (by omega)]; split <;> omega
    · rw [if_neg c, if_neg c]; rfl
  have nn : ∀ i, 0 ≤ i ∧ i < 4 → 0 ≤ cmp4 (z4 n y) i := fun i hi => by rw [cmp_z4 hi, sh i hi.2]; exact Int.natCast_nonneg _
  have dd : ∀ w x y' v : Nat, dp4 w x y' v (z4 n y) = dp4 w x y' v (z4 n z) := fun w x y' v => by
    unfold dp4 z4
    dsimp only
    rw [sh 0 (by decide), sh 1 (by decide), sh 2 (by decide), sh 3 (by decide)]
    rfl
  exact capX (S := dp4 (ccN M n 0 / 4) (ccN M n 1 / 4) (ccN M n 2 / 4) (ccN M n 3 / 4) (z4 n z)) (T := dp4 (ccN M n 0 % 4) (ccN M n 1 % 4) (ccN M n 2 % 4) (ccN M n 3 % 4) (z4 n z)) hM (by rw [← dd, dp_dt nn, (dt_z4 hn hM).1]) (by rw [← dd, dp_dt nn, (dt_z4 hn hM).2]) hF m f hf hm
theorem capE : CapE := fun M y n r b k E hn hM _ hP hB e he hy q m f h => cap_el hn hM (hB.gmin ⟨by omega, hn.2⟩ (hP.b9).2.2 e he) hy m f h.2.1 h.mem
theorem capER : CapER := by
  intro M n e hn hM _ hB he m f hf hm
  obtain ⟨_, b, hP, hS⟩ := hB
  have := cap_el hn hM (hS.gmin ⟨by omega, hn.2⟩ (hP.b9).2.2 e he) (y := gp M n e 1) (fun j hj => by unfold gp; simp only [Int.one_mul]) m f hf hm
  omega
