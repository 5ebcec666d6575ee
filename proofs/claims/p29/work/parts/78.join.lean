theorem LInv.ex {u l : Int → Int} {s t : Int} (hc : ¬ (u 3 = 0 ∧ l 3 = 0)) : ∀ p : Nat, ∃ m f, LInv u l s t p m f
  | 0 => ⟨0, fun _ => 0, by decide, fun i j h => by omega, fun x => ⟨fun ⟨i, h1, h2, _⟩ => by omega, fun ⟨y, h1, h2, _⟩ => by
      have := h1.1 0 (by decide); have := h1.1 1 (by decide); have := h1.1 2 (by decide)
      unfold pre3 at h2; omega⟩⟩
  | p + 1 => by
    obtain ⟨m, f, h⟩ := LInv.ex (u := u) (l := l) (s := s) (t := t) hc p
    by_cases hy : ∃ y, FS u l s t y ∧ pre3 y = p
    · obtain ⟨y, hy, hp⟩ := hy
      refine ⟨m + 1, fun i => if i = m then cd4 y else f i, LInv.put h hy hp (fun z hz hzp => ?_) (fun i hi => if_neg (by omega)) (if_pos rfl)⟩
      obtain ⟨a1, a2, a3⟩ := hy
      obtain ⟨b1, b2, b3⟩ := hz
      have := a1 0 (by decide); have := a1 1 (by decide); have := a1 2 (by decide)
      have := b1 0 (by decide); have := b1 1 (by decide); have := b1 2 (by decide)
      have e := hzp.trans hp.symm
      unfold pre3 at e
      have e0 : z 0 = y 0 := by omega
      have e1 : z 1 = y 1 := by omega
      have e2 : z 2 = y 2 := by omega
      rw [e0, e1, e2] at b2 b3
      by_cases hu : u 3 = 0
      · exact Int.eq_of_mul_eq_mul_left (fun hl => hc ⟨hu, hl⟩) (show l 3 * z 3 = l 3 * y 3 by omega)
      · exact Int.eq_of_mul_eq_mul_left hu (show u 3 * z 3 = u 3 * y 3 by omega)
    · exact ⟨m, f, LInv.skip h (by omega) (fun y h1 h2 h3 => hy ⟨y, h1, by omega⟩)⟩
theorem fibP_ok {M y : Int → Int} {n : Int} (hn : 2 ≤ n ∧ n ≤ 4) (hpos : Pos M n) : FibP M n y (fbm M n y, fbf M n y) := by
  obtain ⟨m, f, h⟩ := LInv.ex (u := uu M n) (l := ul M n) (s := dt M y 0 n.toNat) (t := dt M y 1 n.toNat) (fun hc => hpos (n - 1) (by omega) (by
    unfold uu ul at hc
    rw [if_pos (by omega), if_pos (by omega), show (3 : Int) - (4 - n) = n - 1 by omega] at hc
    exact hc)) 2097152
  exact (FibP.eq (m := m) (f := f) h).2.2
theorem fy_of {M y z : Int → Int} {n i : Int} (hn : 2 ≤ n ∧ n ≤ 4) (h : FibP M n y (fbm M n y, fbf M n y)) (hi : 0 ≤ i ∧ i < fbm M n y) (hz : ∀ j, 0 ≤ j ∧ j < n → 0 ≤ z j ∧ z j ≤ 127) (e : fbf M n y i = cd4 (shf n z)) : ∀ j, 0 ≤ j ∧ j < n → fy M n y i j = z j := by
  obtain ⟨e1, e2, _, _⟩ := row_pk hn h hi
  rw [← pk_cd4 hn, ← e1] at e
  exact fun j hj => pkn_inj n.toNat (fun j hj => e2 j (by omega)) (fun j hj => hz j (by omega)) e j (by omega)
theorem fy_110 {M y : Int → Int} {n i : Int} (hn : 2 ≤ n ∧ n ≤ 4) (hM : ∀ j, 0 ≤ M j ∧ M j ≤ 3) (hy : ∀ j, 0 ≤ j ∧ j < n → 0 ≤ y j ∧ y j ≤ 9) (h : FibP M n y (fbm M n y, fbf M n y)) (hi : 0 ≤ i ∧ i < fbm M n y) : ∀ j, 0 ≤ j ∧ j < n → 0 ≤ fy M n y i j ∧ fy M n y i j ≤ 110 := fun j hj => by
  have d0 := dt_b9 (v := y) (r := 0) hM n.toNat (fun j hj => by have := hy j (by omega); omega)
  have d1 := dt_b9 (v := y) (r := 1) hM n.toNat (fun j hj => by have := hy j (by omega); omega)
  have := (row_pk hn h hi).2.1 j (by omega)
  have g := FS_110 (u := uu M n) (l := ul M n) (uu_b hM) (by omega) (by omega) (fbY_ok h hi).1 (j + (4 - n)) (by omega)
  unfold fy at this ⊢
  rw [if_pos hj.2] at this ⊢
  omega
-- two vectors joined by active steps that stay at 0 or above
def Rc (M : Int → Int) (n : Int) (A : Nat → Int) (x y : Int → Int) : Prop := ∀ P : (Int → Int) → Prop, P x → (∀ (u v : Int → Int) (e s : Int), P u → (0 ≤ e ∧ e < gk M n) → A e.toNat = 1 → (s = 1 ∨ s = -1) → (∀ j, 0 ≤ j ∧ j < n → 0 ≤ u j ∧ 0 ≤ v j ∧ v j = u j + s * gE M n e j) → P v) → (∀ u v : Int → Int, P u → (∀ j, 0 ≤ j ∧ j < n → u j = v j) → P v) → P y
theorem Rc.rf {M : Int → Int} {n : Int} {A : Nat → Int} (x : Int → Int) : Rc M n A x x := fun _ h _ _ => h
theorem Rc.tr {M : Int → Int} {n : Int} {A : Nat → Int} {x y z : Int → Int} (h : Rc M n A x y) (g : Rc M n A y z) : Rc M n A x z := fun P h1 h2 h3 => g P (h P h1 h2 h3) h2 h3
theorem Rc.ex {M : Int → Int} {n : Int} {A : Nat → Int} {x y : Int → Int} (h : ∀ j, 0 ≤ j ∧ j < n → x j = y j) : Rc M n A x y := fun _ h1 _ h3 => h3 _ _ h1 h
theorem Rc.st {M : Int → Int} {n : Int} {A : Nat → Int} {u v : Int → Int} {e s : Int} (he : 0 ≤ e ∧ e < gk M n) (ha : A e.toNat = 1) (hs : s = 1 ∨ s = -1) (h : ∀ j, 0 ≤ j ∧ j < n → 0 ≤ u j ∧ 0 ≤ v j ∧ v j = u j + s * gE M n e j) : Rc M n A u v := fun _ h1 h2 _ => h2 _ _ _ _ h1 he ha hs h
theorem Rc.sy {M : Int → Int} {n : Int} {A : Nat → Int} {x y : Int → Int} (h : Rc M n A x y) : Rc M n A y x := by
  refine h (fun y => Rc M n A y x) (Rc.rf x) (fun u v e s hu he ha hs hv => ?_) (fun u v hu hv => (Rc.ex fun j hj => (hv j hj).symm).tr hu)
  refine Rc.tr (Rc.st he ha (s := -s) (by omega) (fun j hj => ?_)) hu
  obtain ⟨h1, h2, h3⟩ := hv j hj
  refine ⟨h2, h1, ?_⟩
  rw [h3, Int.neg_mul]; omega
theorem Rc.sh {M : Int → Int} {n : Int} {A : Nat → Int} {x y t : Int → Int} (ht : ∀ j, 0 ≤ j ∧ j < n → 0 ≤ t j) (h : Rc M n A x y) : Rc M n A (fun j => x j + t j) (fun j => y j + t j) := by
  refine h (fun y => Rc M n A (fun j => x j + t j) (fun j => y j + t j)) (Rc.rf _) (fun u v e s hu he ha hs hv => ?_) (fun u v hu hv => hu.tr (Rc.ex fun j hj => by rw [hv j hj]))
  refine hu.tr (Rc.st he ha hs (fun j hj => ?_))
  obtain ⟨h1, h2, h3⟩ := hv j hj
  have := ht j hj
  omega
theorem Rc.by {M : Int → Int} {n : Int} {A B : Nat → Int} {x y : Int → Int} (hs : ∀ (u v : Int → Int) (e s : Int), (0 ≤ e ∧ e < gk M n) → A e.toNat = 1 → (s = 1 ∨ s = -1) → (∀ j, 0 ≤ j ∧ j < n → 0 ≤ u j ∧ 0 ≤ v j ∧ v j = u j + s * gE M n e j) → Rc M n B u v) (h : Rc M n A x y) : Rc M n B x y :=
  h (fun y => Rc M n B x y) (Rc.rf x) (fun u v e s hu he ha hs' hv => hu.tr (hs u v e s he ha hs' hv)) (fun u v hu hv => hu.tr (Rc.ex hv))
theorem gp_c {M : Int → Int} {n e j : Int} : gp M n e (-1) j = gp M n e 1 j - gE M n e j ∧ 0 ≤ gp M n e 1 j ∧ 0 ≤ gp M n e (-1) j := by
  unfold gp; rw [Int.one_mul]; split <;> split <;> omega
theorem jn_iff {M : Int → Int} {n e : Int} {A : Nat → Int} (hn : 2 ≤ n ∧ n ≤ 4) (hM : ∀ j, 0 ≤ M j ∧ M j ≤ 3) (hpos : Pos M n) (hB : Bas M n (gk M n, grk M n, gE M n)) (he : 0 ≤ e ∧ e < gk M n) : Jn M n A e ↔ Rc M n A (gp M n e 1) (gp M n e (-1)) := by
  obtain ⟨k0, b, hP, hS⟩ := id hB
  have k0' : 0 ≤ gk M n := k0
  have b9 := hP.b9.2.2
  have gb : ∀ e, 0 ≤ e ∧ e < gk M n → ∀ j, 0 ≤ j ∧ j < n → -9 ≤ gE M n e j ∧ gE M n e j ≤ 9 := fun e he j hj => by have := (hS.1 e he).2.1 j hj; dsimp only at this; omega
  have gkr : ∀ e, 0 ≤ e ∧ e < gk M n → KerF M n (gE M n e) := fun e he => (hS.1 e he).1
  have cb : ∀ c, 0 ≤ c ∧ c < 2 * gk M n → ∀ j, 0 ≤ j ∧ j < n → -9 ≤ cvec (gE M n) c j ∧ cvec (gE M n) c j ≤ 9 := fun c hc j hj => by
    have := gb (c / 2) (by omega) j hj
    unfold cvec; split
    · exact this
    · unfold ng; omega
  have ck : ∀ c, 0 ≤ c ∧ c < 2 * gk M n → KerF M n (cvec (gE M n) c) := fun c hc => by
    have := gkr (c / 2) (by omega)
    unfold cvec; split
    · exact this
    · exact this.neg
  have cs : ∀ c, 0 ≤ c ∧ c < 2 * gk M n → ∃ s : Int, (s = 1 ∨ s = -1) ∧ ∀ j, cvec (gE M n) c j = s * gE M n (c / 2) j := fun c hc => by
    unfold cvec; split
    · exact ⟨1, .inl rfl, fun j => by omega⟩
    · exact ⟨-1, .inr rfl, fun j => by unfold ng; omega⟩
  have gpb : ∀ s : Int, (s = 1 ∨ s = -1) → ∀ j, 0 ≤ j ∧ j < n → 0 ≤ gp M n e s j ∧ gp M n e s j ≤ 9 := fun s hs j hj => gp_b hs (gb e he j hj)
  obtain ⟨i1, i2⟩ := gp_in (M := M) (e := e) hn (gb e he) (gkr e he)
  unfold Jn
  generalize hy : gp M n e 1 = y at *
  have hy9 : ∀ j, 0 ≤ j ∧ j < n → 0 ≤ y j ∧ y j ≤ 9 := fun j hj => by have := gpb 1 (.inl rfl) j hj; rw [hy] at this; exact this
  have hF : FibP M n y (fbm M n y, fbf M n y) := fibP_ok hn hpos
  have r1 := ix_in hn hpos hF i1
  have r2 := ix_in hn hpos hF i2
  have q1 : fbf M n y (ixo M n y y) = cd4 (shf n y) := by
    rcases ixo_ok M n y y with ⟨_, _, h⟩ | ⟨h, _⟩
    · exact h
    · omega
  have q2 : fbf M n y (ixo M n y (gp M n e (-1))) = cd4 (shf n (gp M n e (-1))) := by
    rcases ixo_ok M n y (gp M n e (-1)) with ⟨_, _, h⟩ | ⟨h, _⟩
    · exact h
    · omega
  have f1 := fy_of hn hF r1 (fun j hj => by have := hy9 j hj; omega) q1
  have f2 := fy_of hn hF r2 (fun j hj => by have := gpb (-1) (.inr rfl) j hj; omega) q2
  have nlt : ∀ q c : Int, nxo M n y q c < fbm M n y := fun q c => by
    have z0 : 0 ≤ fbm M n y := hF.1
    rcases (nxo_ok M n y q c).lt hF.1 with ⟨_, h⟩ | ⟨_, h2⟩
    · exact h
    · omega
  have nok : ∀ q c : Int, (0 ≤ q ∧ q < fbm M n y) → (0 ≤ c ∧ c < 2 * gk M n) → 0 ≤ nxo M n y q c → ∀ j, 0 ≤ j ∧ j < n → 0 ≤ fy M n y q j + cvec (gE M n) c j ∧ fy M n y (nxo M n y q c) j = fy M n y q j + cvec (gE M n) c j := fun q c hq hc h0 => by
    have ev : ∀ i, 0 ≤ i ∧ i < n → fbY M n y q (i + (4 - n)) + cvec (gE M n) c i = fy M n y q i + cvec (gE M n) c i := fun i hi => by unfold fy; rw [if_pos hi.2]
    rcases NasP_ext (fun _ _ => rfl) ev (nxo_ok M n y q c) with ⟨h, _⟩ | ⟨h1, h2⟩
    · omega
    · rcases h2 with ⟨_, h3, h4⟩ | ⟨h3, _⟩
      · have := fy_of hn hF ⟨h0, h3⟩ (z := fun i => fy M n y q i + cvec (gE M n) c i) (fun j hj => by
          have h5 : 0 ≤ fy M n y q j + cvec (gE M n) c j := h1 j hj
          have := fy_110 hn hM hy9 hF hq j hj; have := cb c hc j hj
          exact ⟨h5, show fy M n y q j + cvec (gE M n) c j ≤ 127 by omega⟩) h4
        exact fun j hj => ⟨h1 j hj, this j hj⟩
      · omega
  have m1 : ((fbm M n y).toNat : Int) = fbm M n y := by omega
  have kk : ((2 * (gk M n).toNat : Nat) : Int) = 2 * gk M n := by omega
  have B := bfrom_ok (m := (fbm M n y).toNat) (nx := nxo M n y) (act := acI A) (k2 := 2 * (gk M n).toNat) (s := ixo M n y y) (by omega) (fun q c _ _ => by rw [m1]; exact nlt q c)
  obtain ⟨b1, b2, b3, b4⟩ := B
  unfold stp
  rw [if_pos (by rw [m1]; exact ⟨r1, r2⟩)]
  constructor
  · intro h
    have := b4 (fun q => Rc M n A y (fy M n y q)) (Rc.ex fun j hj => (f1 j hj).symm) (fun q c hq hP hc ha h0 => by
      have hq' : 0 ≤ q ∧ q < fbm M n y := by omega
      have hc' : 0 ≤ c ∧ c < 2 * gk M n := by omega
      obtain ⟨s, hs, hv⟩ := cs c hc'
      refine Rc.tr hP (Rc.st (e := c / 2) (by omega) ha hs (fun j hj => ?_))
      obtain ⟨w1, w2⟩ := nok q c hq' hc' h0 j hj
      have := (fy_110 hn hM hy9 hF hq' j hj).1
      rw [w2, ← hv j]
      exact ⟨this, w1, rfl⟩) _ h
    exact this.tr (Rc.ex f2)
  · intro h
    have key := h (fun w => ∃ q, 0 ≤ bfrom (nxo M n y) (acI A) (2 * (gk M n).toNat) (fbm M n y).toNat (fun _ => -1) (ixo M n y y) q ∧ ∀ j, 0 ≤ j ∧ j < n → fy M n y q j = w j) ⟨_, b1, f1⟩ (fun u v e' s hu he' ha hs hv => ?_) (fun u v hu hv => ?_)
    · obtain ⟨q, g1, g2⟩ := key
      have hq := b3 q g1
      rw [m1] at hq
      have p1 := (row_pk hn hF hq).1
      have p2 := (row_pk hn hF r2).1
      have pe : pkn (fy M n y q) n.toNat = pkn (fy M n y (ixo M n y (gp M n e (-1)))) n.toNat := pkn_ext n.toNat (fun j hj => by rw [g2 j (by omega), f2 j (by omega)])
      rw [p1, p2] at pe
      have : q = ixo M n y (gp M n e (-1)) := by
        rcases Int.lt_trichotomy q (ixo M n y (gp M n e (-1))) with hl | hl | hl
        · have := hF.2.1 q _ ⟨hq.1, hl, r2.2⟩; dsimp only at this; omega
        · exact hl
        · have := hF.2.1 _ q ⟨r2.1, hl, hq.2⟩; dsimp only at this; omega
      rw [← this]; exact g1
    · obtain ⟨q, g1, g2⟩ := hu
      have hq := b3 q g1
      rw [m1] at hq
      obtain ⟨c, hc, hc2, hcv⟩ : ∃ c, (0 ≤ c ∧ c < 2 * gk M n) ∧ c / 2 = e' ∧ ∀ j, cvec (gE M n) c j = s * gE M n e' j := by
        rcases hs with rfl | rfl
        · exact ⟨2 * e', by omega, by omega, fun j => by unfold cvec; rw [if_pos (by omega), show 2 * e' / 2 = e' by omega]; omega⟩
        · exact ⟨2 * e' + 1, by omega, by omega, fun j => by unfold cvec ng; rw [if_neg (by omega), show (2 * e' + 1) / 2 = e' by omega]; omega⟩
      have h0 : ∀ i, 0 ≤ i ∧ i < n → 0 ≤ fy M n y q i + cvec (gE M n) c i ∧ fy M n y q i + cvec (gE M n) c i ≤ 127 := fun i hi => by
        obtain ⟨_, v2, v3⟩ := hv i hi
        rw [hcv i, g2 i hi, ← v3]
        have t1 := fy_110 hn hM hy9 hF hq i hi
        have t2 := cb c hc i hi
        rw [hcv i] at t2
        rw [g2 i hi] at t1
        omega
      have ni := nx_in hn hpos hF hq (ck c hc) h0
      refine ⟨nxo M n y q c, b2 q c g1 (by omega) (by unfold acI; rw [hc2]; exact ha) ni.1.1, fun j hj => ?_⟩
      rw [(nok q c hq hc ni.1.1 j hj).2, hcv j, g2 j hj, (hv j hj).2.2]
    · obtain ⟨q, g1, g2⟩ := hu
      exact ⟨q, g1, fun j hj => (g2 j hj).trans (hv j hj)⟩
-- an active element joins its parts
theorem jn_act {M : Int → Int} {n : Int} {e : Nat} {A : Nat → Int} (he : (e : Int) < gk M n) (ha : A e = 1) : Rc M n A (gp M n e 1) (gp M n e (-1)) :=
  Rc.st (e := (e : Int)) (s := -1) ⟨by omega, he⟩ ha (.inr rfl) (fun j _ => by
    have := @gp_c M n (e : Int) j
    exact ⟨this.2.1, this.2.2, by omega⟩)
theorem mk_eq {M : Int → Int} {n : Int} {A : Nat → Int} (hn : 2 ≤ n ∧ n ≤ 4) (hM : ∀ j, 0 ≤ M j ∧ M j ≤ 3) (hpos : Pos M n) (hB : Bas M n (gk M n, grk M n, gE M n)) : MkO M n A ↔ MkA M n A := by
  refine ⟨fun h e he => ?_, fun h e he => .inr (h e he)⟩
  rcases h e he with h | h
  · exact (jn_iff hn hM hpos hB ⟨by omega, he⟩).2 (jn_act he h)
  · exact h
-- without one of the active: it is a basis still just when that one's parts are joined
theorem mk_drop {M : Int → Int} {n : Int} {A : Nat → Int} {k : Nat} (hn : 2 ≤ n ∧ n ≤ 4) (hM : ∀ j, 0 ≤ M j ∧ M j ≤ 3) (hpos : Pos M n) (hB : Bas M n (gk M n, grk M n, gE M n)) (hk : (k : Int) < gk M n) (h : MkA M n A) : MkA M n (swA A k 0) ↔ Jn M n (swA A k 0) k := by
  refine ⟨fun g => g k hk, fun g e he => ?_⟩
  have gk' := (jn_iff hn hM hpos hB ⟨by omega, hk⟩).1 g
  refine (jn_iff hn hM hpos hB ⟨by omega, he⟩).2 ?_
  refine Rc.by (fun u v e' s he' ha hs hv => ?_) ((jn_iff hn hM hpos hB ⟨by omega, he⟩).1 (h e he))
  by_cases c : e'.toNat = k
  · have ee : e' = (k : Int) := by omega
    subst ee
    have t0 : ∀ {w w' : Int → Int}, (∀ j, 0 ≤ j ∧ j < n → 0 ≤ w j ∧ 0 ≤ w' j ∧ w' j = w j - gE M n k j) → Rc M n (swA A k 0) w w' := fun {w w'} hw => by
      have := Rc.sh (t := fun j => w j - gp M n k 1 j) (fun j hj => ?_) gk'
      · refine (Rc.ex fun j hj => ?_).tr (this.tr (Rc.ex fun j hj => ?_))
        · omega
        · have := @gp_c M n (k : Int) j
          have := hw j hj
          omega
      · obtain ⟨a1, a2, a3⟩ := hw j hj
        show 0 ≤ w j - gp M n k 1 j
        unfold gp
        rw [Int.one_mul]
        split <;> omega
    rcases hs with rfl | rfl
    · exact (t0 fun j hj => by obtain ⟨a1, a2, a3⟩ := hv j hj; exact ⟨a2, a1, by omega⟩).sy
    · exact t0 fun j hj => by obtain ⟨a1, a2, a3⟩ := hv j hj; exact ⟨a1, a2, by omega⟩
  · exact Rc.st he' (by unfold swA; rw [if_neg c]; exact ha) hs hv
theorem rd_eq {M : Int → Int} {n : Int} (hn : 2 ≤ n ∧ n ≤ 4) (hM : ∀ j, 0 ≤ M j ∧ M j ≤ 3) (hpos : Pos M n) (hB : Bas M n (gk M n, grk M n, gE M n)) : ∀ (k : Nat) (A : Nat → Int), (k : Int) ≤ gk M n → MkA M n A → rdA M n k A = rdR M n k A
  | 0, _, _, _ => rfl
  | k + 1, A, hk, h => by
    have e := mk_drop (k := k) hn hM hpos hB (by omega) h
    show rdA M n k (@ite _ (A k = 1 ∧ Jn M n (swA A k 0) k) (Classical.propDecidable _) (swA A k 0) A) = rdR M n k (@ite _ (A k = 1 ∧ MkA M n (swA A k 0)) (Classical.propDecidable _) (swA A k 0) A)
    by_cases c : A k = 1 ∧ MkA M n (swA A k 0)
    · rw [if_pos c, if_pos ⟨c.1, e.1 c.2⟩]
      exact rd_eq hn hM hpos hB k _ (by omega) c.2
    · rw [if_neg c, if_neg (fun d => c ⟨d.1, e.2 d.2⟩)]
      exact rd_eq hn hM hpos hB k _ (by omega) h
