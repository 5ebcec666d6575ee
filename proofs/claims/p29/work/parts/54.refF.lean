def FSn (M : Int → Int) (n s t : Int) (z : Int → Int) : Prop := (∀ j, 0 ≤ j ∧ j < n → 0 ≤ z j ∧ z j ≤ 127) ∧ dt M z 0 n.toNat = s ∧ dt M z 1 n.toNat = t
theorem FSn.fs {M : Int → Int} {n s t : Int} {z : Int → Int} (hn : 2 ≤ n ∧ n ≤ 4) (hpos : Pos M n) (h : FSn M n s t z) : FS (uu M n) (ul M n) s t (shf n z) := by
  obtain ⟨h1, h2, h3⟩ := h
  refine ⟨fun i hi => ?_, ?_, ?_⟩
  · unfold shf uu ul
    by_cases c : 4 - n ≤ i
    · rw [if_pos c, if_pos c, if_pos c]
      have := h1 (i - (4 - n)) (by omega)
      exact ⟨this.1, this.2, fun g1 g2 => absurd ⟨g1, g2⟩ (hpos _ (by omega))⟩
    · rw [if_neg c, if_neg c, if_neg c]
      exact ⟨by decide, by decide, fun _ _ => rfl⟩
  · rw [← h2]
    rcases (show n = 2 ∨ n = 3 ∨ n = 4 by omega) with rfl | rfl | rfl
    · show 0 * 0 + 0 * 0 + M 0 * z 0 + M 1 * z 1 = 0 + M (0 * 4 + 0) * z 0 + M (0 * 4 + 1) * z 1
      rw [show (0 : Int) * 4 + 0 = 0 by decide, show (0 : Int) * 4 + 1 = 1 by decide]; omega
    · show 0 * 0 + M 0 * z 0 + M 1 * z 1 + M 2 * z 2 = 0 + M (0 * 4 + 0) * z 0 + M (0 * 4 + 1) * z 1 + M (0 * 4 + 2) * z 2
      rw [show (0 : Int) * 4 + 0 = 0 by decide, show (0 : Int) * 4 + 1 = 1 by decide, show (0 : Int) * 4 + 2 = 2 by decide]; omega
    · show M 0 * z 0 + M 1 * z 1 + M 2 * z 2 + M 3 * z 3 = 0 + M (0 * 4 + 0) * z 0 + M (0 * 4 + 1) * z 1 + M (0 * 4 + 2) * z 2 + M (0 * 4 + 3) * z 3
      rw [show (0 : Int) * 4 + 0 = 0 by decide, show (0 : Int) * 4 + 1 = 1 by decide, show (0 : Int) * 4 + 2 = 2 by decide, show (0 : Int) * 4 + 3 = 3 by decide]; omega
  · rw [← h3]
    rcases (show n = 2 ∨ n = 3 ∨ n = 4 by omega) with rfl | rfl | rfl
    · show 0 * 0 + 0 * 0 + M 4 * z 0 + M 5 * z 1 = 0 + M (1 * 4 + 0) * z 0 + M (1 * 4 + 1) * z 1
      rw [show (1 : Int) * 4 + 0 = 4 by decide, show (1 : Int) * 4 + 1 = 5 by decide]; omega
    · show 0 * 0 + M 4 * z 0 + M 5 * z 1 + M 6 * z 2 = 0 + M (1 * 4 + 0) * z 0 + M (1 * 4 + 1) * z 1 + M (1 * 4 + 2) * z 2
      rw [show (1 : Int) * 4 + 0 = 4 by decide, show (1 : Int) * 4 + 1 = 5 by decide, show (1 : Int) * 4 + 2 = 6 by decide]; omega
    · show M 4 * z 0 + M 5 * z 1 + M 6 * z 2 + M 7 * z 3 = 0 + M (1 * 4 + 0) * z 0 + M (1 * 4 + 1) * z 1 + M (1 * 4 + 2) * z 2 + M (1 * 4 + 3) * z 3
      rw [show (1 : Int) * 4 + 0 = 4 by decide, show (1 : Int) * 4 + 1 = 5 by decide, show (1 : Int) * 4 + 2 = 6 by decide, show (1 : Int) * 4 + 3 = 7 by decide]; omega
/-- the last n of the four places -/
def usf (n : Int) (y : Int → Int) : Int → Int := fun j => y (j + (4 - n))
theorem FS.fsn {M : Int → Int} {n s t : Int} {y : Int → Int} (hn : 2 ≤ n ∧ n ≤ 4) (h : FS (uu M n) (ul M n) s t y) : FSn M n s t (usf n y) ∧ ∀ i, 0 ≤ i ∧ i < 4 → shf n (usf n y) i = y i := by
  obtain ⟨h1, h2, h3⟩ := h
  have hz : ∀ i, 0 ≤ i ∧ i < 4 - n → y i = 0 := fun i hi => (h1 i (by omega)).2.2 (by unfold uu; rw [if_neg (by omega)]) (by unfold ul; rw [if_neg (by omega)])
  refine ⟨⟨fun j hj => ?_, ?_, ?_⟩, fun i hi => ?_⟩
  · have := h1 (j + (4 - n)) (by omega)
    exact ⟨this.1, this.2.1⟩
  · rw [← h2]
    rcases (show n = 2 ∨ n = 3 ∨ n = 4 by omega) with rfl | rfl | rfl
    · show 0 + M (0 * 4 + 0) * y 2 + M (0 * 4 + 1) * y 3 = 0 * y 0 + 0 * y 1 + M 0 * y 2 + M 1 * y 3
      rw [show (0 : Int) * 4 + 0 = 0 by decide, show (0 : Int) * 4 + 1 = 1 by decide]; omega
    · show 0 + M (0 * 4 + 0) * y 1 + M (0 * 4 + 1) * y 2 + M (0 * 4 + 2) * y 3 = 0 * y 0 + M 0 * y 1 + M 1 * y 2 + M 2 * y 3
      rw [show (0 : Int) * 4 + 0 = 0 by decide, show (0 : Int) * 4 + 1 = 1 by decide, show (0 : Int) * 4 + 2 = 2 by decide]; omega
    · show 0 + M (0 * 4 + 0) * y 0 + M (0 * 4 + 1) * y 1 + M (0 * 4 + 2) * y 2 + M (0 * 4 + 3) * y 3 = M 0 * y 0 + M 1 * y 1 + M 2 * y 2 + M 3 * y 3
      rw [show (0 : Int) * 4 + 0 = 0 by decide, show (0 : Int) * 4 + 1 = 1 by decide, show (0 : Int) * 4 + 2 = 2 by decide, show (0 : Int) * 4 + 3 = 3 by decide]; omega
  · rw [← h3]
    rcases (show n = 2 ∨ n = 3 ∨ n = 4 by omega) with rfl | rfl | rfl
    · show 0 + M (1 * 4 + 0) * y 2 + M (1 * 4 + 1) * y 3 = 0 * y 0 + 0 * y 1 + M 4 * y 2 + M 5 * y 3
      rw [show (1 : Int) * 4 + 0 = 4 by decide, show (1 : Int) * 4 + 1 = 5 by decide]; omega
    · show 0 + M (1 * 4 + 0) * y 1 + M (1 * 4 + 1) * y 2 + M (1 * 4 + 2) * y 3 = 0 * y 0 + M 4 * y 1 + M 5 * y 2 + M 6 * y 3
      rw [show (1 : Int) * 4 + 0 = 4 by decide, show (1 : Int) * 4 + 1 = 5 by decide, show (1 : Int) * 4 + 2 = 6 by decide]; omega
    · show 0 + M (1 * 4 + 0) * y 0 + M (1 * 4 + 1) * y 1 + M (1 * 4 + 2) * y 2 + M (1 * 4 + 3) * y 3 = M 4 * y 0 + M 5 * y 1 + M 6 * y 2 + M 7 * y 3
      rw [show (1 : Int) * 4 + 0 = 4 by decide, show (1 : Int) * 4 + 1 = 5 by decide, show (1 : Int) * 4 + 2 = 6 by decide, show (1 : Int) * 4 + 3 = 7 by decide]; omega
  · unfold shf usf
    by_cases c : 4 - n ≤ i
    · rw [if_pos c]; congr 1; omega
    · rw [if_neg c]; exact (hz i (by omega)).symm
theorem pkn_ext {u v : Int → Int} : ∀ k : Nat, (∀ j : Int, 0 ≤ j ∧ j < k → u j = v j) → pkn u k = pkn v k
  | 0, _ => rfl
  | k + 1, h => by simp only [pkn]; rw [pkn_ext k (fun j hj => h j (by omega)), h k (by omega)]
theorem pkn_inj {u v : Int → Int} : ∀ k : Nat, (∀ j : Int, 0 ≤ j ∧ j < k → 0 ≤ u j ∧ u j ≤ 127) → (∀ j : Int, 0 ≤ j ∧ j < k → 0 ≤ v j ∧ v j ≤ 127) → pkn u k = pkn v k → ∀ j : Int, 0 ≤ j ∧ j < k → u j = v j
  | 0, _, _, _, j, hj => absurd hj (by omega)
  | k + 1, hu, hv, h, j, hj => by
    simp only [pkn] at h
    have a := hu k (by omega)
    have b := hv k (by omega)
    have e : pkn u k = pkn v k := by omega
    by_cases c : j = k
    · rw [c]; omega
    · exact pkn_inj k (fun i hi => hu i (by omega)) (fun i hi => hv i (by omega)) e j (by omega)
theorem dt_mono {M z : Int → Int} {r : Int} (hM : ∀ j, 0 ≤ M j ∧ M j ≤ 3) : ∀ (a k : Nat), (∀ j : Int, 0 ≤ j ∧ j < (k + a : Nat) → 0 ≤ z j) → dt M z r k ≤ dt M z r (k + a)
  | 0, k, _ => Int.le_refl _
  | a + 1, k, h => by
    have := dt_mono (r := r) hM a k (fun j hj => h j (by omega))
    have h2 := Int.mul_nonneg (hM (r * 4 + (k + a : Nat))).1 (h (k + a : Nat) (by omega))
    show _ ≤ dt M z r (k + a) + M (r * 4 + (k + a : Nat)) * z (k + a : Nat)
    omega
/-- the list of a fiber as the reference lays it: at the k-th place -/
def LRI (M : Int → Int) (n s t : Int) (k : Nat) (Y : Int → Int) (m : Int) (R : Int → Int → Int) : Prop := (0 ≤ m ∧ ∀ i, 0 ≤ i ∧ i < m → FSn M n s t (R i) ∧ ∀ j, n ≤ j ∧ j < 4 → R i j = 0) ∧ (∀ i j, 0 ≤ i ∧ i < j ∧ j < m → pkn (R i) n.toNat < pkn (R j) n.toNat) ∧ ∀ z, FSn M n s t z → (pkn z k ≤ pkn Y k ↔ ∃ i, 0 ≤ i ∧ i < m ∧ pkn (R i) n.toNat = pkn z n.toNat)
/-- what was laid stays within the room -/
def CapR (M : Int → Int) (n s t : Int) : Prop := ∀ (m : Int) (f : Int → Int), (∀ i j, 0 ≤ i ∧ i < j ∧ j < m → f i < f j) → (∀ i, 0 ≤ i ∧ i < m → ∃ y, FS (uu M n) (ul M n) s t y ∧ f i = cd4 y) → m ≤ 2048
theorem LRI.cap {M : Int → Int} {n s t : Int} {k : Nat} {Y : Int → Int} {m : Int} {R : Int → Int → Int} (hn : 2 ≤ n ∧ n ≤ 4) (hpos : Pos M n) (hcap : CapR M n s t) (h : LRI M n s t k Y m R) : m ≤ 2048 :=
  hcap m (fun i => cd4 (shf n (R i))) (fun i j hij => by
    show cd4 (shf n (R i)) < cd4 (shf n (R j))
    rw [← pk_cd4 hn, ← pk_cd4 hn]; exact h.2.1 i j hij) (fun i hi => ⟨_, (h.1.2 i hi).1.fs hn hpos, rfl⟩)
def Yok (k : Nat) (Y : Int → Int) : Prop := (∀ j : Int, 0 ≤ j ∧ j < k → 0 ≤ Y j ∧ Y j ≤ 108) ∧ -1 ≤ Y k ∧ Y k ≤ 108
theorem pkn_s (u : Int → Int) (k : Nat) : pkn u (k + 1) = pkn u k * 128 + u k := rfl
/-- T1: too much at the k-th place -/
theorem LRI.pop {M : Int → Int} {n s t : Int} {k : Nat} {Y Y' : Int → Int} {m : Int} {R : Int → Int → Int} (hM : ∀ j, 0 ≤ M j ∧ M j ≤ 3) (hk : (k : Int) < n) (hY : Yok k Y) (e : ∀ j : Int, 0 ≤ j ∧ j < k → Y' j = Y j) (ek : Y' k = Y k + 1) (hx : s < dt M Y' 0 (k + 1) ∨ t < dt M Y' 1 (k + 1)) (h : LRI M n s t (k + 1) Y m R) : LRI M n s t k Y' m R := by
  refine ⟨h.1, h.2.1, fun z hz => ?_⟩
  rw [← h.2.2 z hz, pkn_ext k e, pkn_s, pkn_s]
  have zk := hz.1 k (by omega)
  constructor
  · intro g
    by_cases c : pkn z k = pkn Y k
    · have ze := pkn_inj k (fun j hj => hz.1 j (by omega)) (fun j hj => by have := hY.1 j hj; omega) c
      have le : z k ≤ Y k := by
        apply Classical.byContradiction
        intro hc
        have mono : ∀ r, dt M z r (k + 1) ≤ dt M z r n.toNat := fun r => by
          have := dt_mono (r := r) hM (n.toNat - (k + 1)) (k + 1) (z := z) (fun j hj => (hz.1 j (by omega)).1)
          rw [show k + 1 + (n.toNat - (k + 1)) = n.toNat by omega] at this
          exact this
        have big : ∀ r, dt M Y' r (k + 1) ≤ dt M z r (k + 1) := fun r => by
          show dt M Y' r k + M (r * 4 + k) * Y' k ≤ dt M z r k + M (r * 4 + k) * z k
          rw [dt_ext k e, dt_ext (w := Y) k ze, ek]
          have := Int.mul_le_mul_of_nonneg_left (show Y k + 1 ≤ z k by omega) (hM (r * 4 + k)).1
          omega
        have m0 := mono 0; have m1 := mono 1; have b0 := big 0; have b1 := big 1
        rw [hz.2.1] at m0
        rw [hz.2.2] at m1
        omega
      omega
    · have := hY.2
      omega
  · intro g
    have := hY.2
    omega
/-- T2: on to the next place -/
theorem LRI.push {M : Int → Int} {n s t : Int} {k : Nat} {Y Y' : Int → Int} {m : Int} {R : Int → Int → Int} (hk : (k : Int) + 1 < n) (e : ∀ j : Int, 0 ≤ j ∧ j < k → Y' j = Y j) (ek : Y' k = Y k + 1) (ek2 : Y' ((k + 1 : Nat) : Int) = -1) (h : LRI M n s t (k + 1) Y m R) : LRI M n s t (k + 1 + 1) Y' m R := by
  refine ⟨h.1, h.2.1, fun z hz => ?_⟩
  have z2 := hz.1 ((k + 1 : Nat) : Int) (by omega)
  rw [← h.2.2 z hz, pkn_s z (k + 1), pkn_s Y' (k + 1), ek2, pkn_s Y' k, pkn_ext k e, ek, pkn_s Y k]
  omega
/-- T3: one more -/
theorem LRI.add {M : Int → Int} {n s t : Int} {k : Nat} {Y Y' : Int → Int} {m : Int} {R R' : Int → Int → Int} (hn : 2 ≤ n ∧ n ≤ 4) (hk : (k : Int) + 1 = n) (hY : Yok k Y) (e : ∀ j : Int, 0 ≤ j ∧ j < k → Y' j = Y j) (ek : Y' k = Y k + 1) (h0 : dt M Y' 0 (k + 1) = s) (h1 : dt M Y' 1 (k + 1) = t) (h : LRI M n s t (k + 1) Y m R) (r : ∀ i, 0 ≤ i ∧ i < m → ∀ j, 0 ≤ j ∧ j < 4 → R' i j = R i j) (r2 : ∀ j, 0 ≤ j ∧ j < 4 → R' m j = if j < n then Y' j else 0) : LRI M n s t (k + 1) Y' (m + 1) R' := by
  have en : n.toNat = k + 1 := by omega
  obtain ⟨⟨m0, a1⟩, a2, a3⟩ := h
  have pe : ∀ i, 0 ≤ i ∧ i < m → pkn (R' i) n.toNat = pkn (R i) n.toNat := fun i hi => pkn_ext _ (fun j hj => r i hi j (by omega))
  have pm : pkn (R' m) n.toNat = pkn Y' n.toNat := pkn_ext _ (fun j hj => by rw [r2 j (by omega), if_pos (by omega)])
  have Y1 : pkn Y' n.toNat = pkn Y n.toNat + 1 := by rw [en, pkn_s, pkn_s, pkn_ext k e, ek]; omega
  have low : ∀ i, 0 ≤ i ∧ i < m → pkn (R i) n.toNat ≤ pkn Y n.toNat := fun i hi => by
    have := (a3 (R i) (a1 i hi).1).mpr ⟨i, hi.1, hi.2, rfl⟩
    rw [en]; exact this
  have fY : FSn M n s t Y' := ⟨fun j hj => by
    by_cases c : j = k
    · rw [c, ek]; have := hY.2; omega
    · rw [e j (by omega)]; have := hY.1 j (by omega); omega, by rw [en]; exact h0, by rw [en]; exact h1⟩
  refine ⟨⟨by omega, fun i hi => ?_⟩, fun i j hij => ?_, fun z hz => ?_⟩
  · by_cases c : i = m
    · subst c
      refine ⟨⟨fun j hj => ?_, ?_, ?_⟩, fun j hj => by rw [r2 j (by omega), if_neg (by omega)]⟩
      · rw [r2 j (by omega), if_pos (by omega)]; exact fY.1 j hj
      · rw [dt_ext (w := Y') n.toNat (fun j hj => by rw [r2 j (by omega), if_pos (by omega)])]; exact fY.2.1
      · rw [dt_ext (w := Y') n.toNat (fun j hj => by rw [r2 j (by omega), if_pos (by omega)])]; exact fY.2.2
    · obtain ⟨b1, b2⟩ := a1 i (by omega)
      have re := r i (by omega)
      refine ⟨⟨fun j hj => by rw [re j (by omega)]; exact b1.1 j hj, ?_, ?_⟩, fun j hj => by rw [re j (by omega)]; exact b2 j hj⟩
      · rw [dt_ext (w := R i) n.toNat (fun j hj => re j (by omega))]; exact b1.2.1
      · rw [dt_ext (w := R i) n.toNat (fun j hj => re j (by omega))]; exact b1.2.2
  · by_cases c : j = m
    · rw [c, pm, pe i (by omega), Y1]
      have := low i (by omega)
      omega
    · rw [pe i (by omega), pe j (by omega)]; exact a2 i j (by omega)
  · have b := a3 z hz
    rw [← en] at b ⊢
    rw [Y1]
    constructor
    · intro g
      by_cases c : pkn z n.toNat ≤ pkn Y n.toNat
      · obtain ⟨i, i0, i1, i2⟩ := b.mp c
        exact ⟨i, i0, by omega, by rw [pe i ⟨i0, i1⟩]; exact i2⟩
      · exact ⟨m, m0, by omega, by rw [pm, Y1]; omega⟩
    · rintro ⟨i, i0, i1, i2⟩
      by_cases c : i = m
      · rw [c, pm, Y1] at i2; omega
      · rw [pe i (by omega)] at i2
        have := low i (by omega)
        omega
/-- T4: nothing here -/
theorem LRI.stay {M : Int → Int} {n s t : Int} {k : Nat} {Y Y' : Int → Int} {m : Int} {R : Int → Int → Int} (hk : (k : Int) + 1 = n) (hY : Yok k Y) (e : ∀ j : Int, 0 ≤ j ∧ j < k → Y' j = Y j) (ek : Y' k = Y k + 1) (hno : ¬ (dt M Y' 0 (k + 1) = s ∧ dt M Y' 1 (k + 1) = t)) (h : LRI M n s t (k + 1) Y m R) : LRI M n s t (k + 1) Y' m R := by
  refine ⟨h.1, h.2.1, fun z hz => ?_⟩
  rw [← h.2.2 z hz, pkn_s Y' k, pkn_ext k e, ek]
  have ne : pkn z (k + 1) ≠ pkn Y k * 128 + (Y k + 1) := fun g => by
    have g' : pkn z (k + 1) = pkn Y' (k + 1) := by rw [pkn_s Y' k, pkn_ext k e, ek]; exact g
    have := pkn_inj (k + 1) (fun j hj => hz.1 j (by omega)) (fun j hj => by
      by_cases c : j = k
      · rw [c, ek]; have := hY.2; omega
      · rw [e j (by omega)]; have := hY.1 j (by omega); omega) g'
    have en : n.toNat = k + 1 := by omega
    refine hno ⟨?_, ?_⟩
    · rw [← hz.2.1, en]; exact dt_ext _ (fun j hj => (this j hj).symm)
    · rw [← hz.2.2, en]; exact dt_ext _ (fun j hj => (this j hj).symm)
  rw [pkn_s Y k]
  omega
/-- row i as it stands in the reference -/
noncomputable def fy (M : Int → Int) (n : Int) (y : Int → Int) (i : Int) : Int → Int := fun j => if j < n then fbY M n y i (j + (4 - n)) else 0
theorem LRI.fin {M y : Int → Int} {n : Int} {Y : Int → Int} {m : Int} {R : Int → Int → Int} (hn : 2 ≤ n ∧ n ≤ 4) (hpos : Pos M n) (h : LRI M n (dt M y 0 n.toNat) (dt M y 1 n.toNat) 0 Y m R) : m = fbm M n y ∧ (∀ i, 0 ≤ i ∧ i < m → ∀ j, 0 ≤ j ∧ j < 4 → R i j = fy M n y i j) ∧ FibP M n y (fbm M n y, fbf M n y) := by
  obtain ⟨⟨m0, a1⟩, a2, a3⟩ := h
  have hF : FibP M n y (m, fun i => cd4 (shf n (R i))) := by
    refine ⟨m0, fun i j hij => ?_, fun x => ⟨?_, ?_⟩⟩
    · show cd4 (shf n (R i)) < cd4 (shf n (R j))
      rw [← pk_cd4 hn, ← pk_cd4 hn]; exact a2 i j hij
    · rintro ⟨i, i0, i1, i2⟩
      have f := (a1 i ⟨i0, i1⟩).1.fs hn hpos
      have b := f.1
      have b0 := b 0 (by decide); have b1 := b 1 (by decide); have b2 := b 2 (by decide)
      refine ⟨_, f, ?_, i2.symm⟩
      unfold pre3; omega
    · rintro ⟨z, z1, z2, z3⟩
      obtain ⟨z4, z5⟩ := z1.fsn hn
      obtain ⟨i, i0, i1, i2⟩ := (a3 _ z4).mp (Int.le_refl _)
      refine ⟨i, i0, i1, ?_⟩
      show cd4 (shf n (R i)) = x
      rw [← pk_cd4 hn, i2, pk_cd4 hn, z3]
      unfold cd4 pre3
      rw [z5 0 (by decide), z5 1 (by decide), z5 2 (by decide), z5 3 (by decide)]
  obtain ⟨e1, e2, e3⟩ := hF.eq
  refine ⟨e1, fun i hi j hj => ?_, e3⟩
  obtain ⟨g1, g2⟩ := fbY_ok e3 (i := i) (by omega)
  have g3 := e2 i hi
  rw [g2] at g3
  unfold fy
  by_cases c : j < n
  · rw [if_pos c]
    have f := (a1 i hi).1.fs hn hpos
    have := cd4_inj (fun q hq => ⟨(f.1 q hq).1, (f.1 q hq).2.1⟩) (fun q hq => ⟨(g1.1 q hq).1, (g1.1 q hq).2.1⟩) g3 (j + (4 - n)) (by omega)
    rw [← this]
    unfold shf
    rw [if_pos (by omega)]
    congr 1; omega
  · rw [if_neg c]
    exact (a1 i hi).2 j (by omega)
