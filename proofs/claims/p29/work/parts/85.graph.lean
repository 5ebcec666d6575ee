-- distances and classes of a graph on 0 .. m - 1
/-- D tells the distances from s (below 0: no way) -/
def DsG (m : Int) (Ad : Int → Int → Prop) (s : Int) (D : Int → Int) : Prop := D s = 0 ∧ (∀ i j, (0 ≤ i ∧ i < m) → (0 ≤ j ∧ j < m) → 0 ≤ D i → Ad i j → 0 ≤ D j ∧ D j ≤ D i + 1) ∧ ∀ j, (0 ≤ j ∧ j < m) → 0 ≤ D j → j = s ∨ ∃ i, (0 ≤ i ∧ i < m) ∧ 0 ≤ D i ∧ Ad i j ∧ D j = D i + 1
theorem DsG.le {m s : Int} {Ad : Int → Int → Prop} {D D' : Int → Int} (h : DsG m Ad s D) (g : DsG m Ad s D') : ∀ (k : Nat) (j : Int), (0 ≤ j ∧ j < m) → 0 ≤ D j → D j ≤ k → 0 ≤ D' j ∧ D' j ≤ D j := by
  intro k
  induction k with
  | zero =>
    intro j hj h0 h1
    rcases h.2.2 j hj h0 with rfl | ⟨i, i1, i2, i3, i4⟩
    · rw [g.1]; omega
    · omega
  | succ k ih =>
    intro j hj h0 h1
    rcases h.2.2 j hj h0 with rfl | ⟨i, i1, i2, i3, i4⟩
    · rw [g.1]; omega
    · have a := ih i i1 i2 (by omega)
      have b := g.2.1 i j i1 hj a.1 i3
      omega
theorem DsG.uq {m s : Int} {Ad : Int → Int → Prop} {D D' : Int → Int} (h : DsG m Ad s D) (g : DsG m Ad s D') {j : Int} (hj : 0 ≤ j ∧ j < m) : (0 ≤ D j ↔ 0 ≤ D' j) ∧ (0 ≤ D j → D j = D' j) := by
  have a : 0 ≤ D j → 0 ≤ D' j ∧ D' j ≤ D j := fun h0 => h.le g (D j).toNat j hj h0 (by omega)
  have b : 0 ≤ D' j → 0 ≤ D j ∧ D j ≤ D' j := fun h0 => g.le h (D' j).toNat j hj h0 (by omega)
  refine ⟨⟨fun h0 => (a h0).1, fun h0 => (b h0).1⟩, fun h0 => ?_⟩
  have := a h0
  have := b this.1
  omega
theorem DsG.ext {m s : Int} {Ad Ad' : Int → Int → Prop} {D : Int → Int} (e : ∀ i j, (0 ≤ i ∧ i < m) → (0 ≤ j ∧ j < m) → (Ad i j ↔ Ad' i j)) (h : DsG m Ad s D) : DsG m Ad' s D :=
  ⟨h.1, fun i j hi hj h0 ha => h.2.1 i j hi hj h0 ((e i j hi hj).mpr ha), fun j hj h0 => by
    rcases h.2.2 j hj h0 with g | ⟨i, i1, i2, i3, i4⟩
    · exact .inl g
    · exact .inr ⟨i, i1, i2, (e i j i1 hj).mp i3, i4⟩⟩
/-- what may be reached from s -/
def Re (m : Int) (Ad : Int → Int → Prop) (s j : Int) : Prop := ∀ P : Int → Prop, P s → (∀ q j, (0 ≤ q ∧ q < m) → (0 ≤ j ∧ j < m) → P q → Ad q j → P j) → P j
theorem Re.rf {m : Int} {Ad : Int → Int → Prop} (s : Int) : Re m Ad s s := fun _ h _ => h
theorem Re.tr {m : Int} {Ad : Int → Int → Prop} {a b c : Int} (h : Re m Ad a b) (g : Re m Ad b c) : Re m Ad a c := fun P h1 h2 => g P (h P h1 h2) h2
theorem Re.st {m : Int} {Ad : Int → Int → Prop} {a b : Int} (ha : 0 ≤ a ∧ a < m) (hb : 0 ≤ b ∧ b < m) (h : Ad a b) : Re m Ad a b := fun _ h1 h2 => h2 a b ha hb h1 h
theorem Re.sy {m : Int} {Ad : Int → Int → Prop} (hs : ∀ i j, (0 ≤ i ∧ i < m) → (0 ≤ j ∧ j < m) → Ad i j → Ad j i) {a b : Int} (h : Re m Ad a b) : Re m Ad b a :=
  h (fun b => Re m Ad b a) (Re.rf a) (fun q j hq hj hP ha => (Re.st hj hq (hs q j hq hj ha)).tr hP)
theorem Re.in {m : Int} {Ad : Int → Int → Prop} {a b : Int} (ha : 0 ≤ a ∧ a < m) (h : Re m Ad a b) : 0 ≤ b ∧ b < m := h (fun b => 0 ≤ b ∧ b < m) ha (fun _ _ _ hj _ _ => hj)
theorem Re.ext {m : Int} {Ad Ad' : Int → Int → Prop} (e : ∀ i j, (0 ≤ i ∧ i < m) → (0 ≤ j ∧ j < m) → (Ad i j → Ad' i j)) {a b : Int} (h : Re m Ad a b) : Re m Ad' a b := fun P h1 h2 => h P h1 (fun q j hq hj hP ha => h2 q j hq hj hP (e q j hq hj ha))
/-- how many below k have P -/
noncomputable def cP (P : Int → Prop) : Nat → Int
  | 0 => 0
  | k + 1 => cP P k + @ite _ (P k) (Classical.propDecidable _) 1 0
theorem cP_b {P : Int → Prop} : ∀ k : Nat, 0 ≤ cP P k ∧ cP P k ≤ k
  | 0 => ⟨Int.le_refl _, Int.le_refl _⟩
  | k + 1 => by
    have := cP_b (P := P) k
    unfold cP
    split <;> omega
theorem cP_ext {P Q : Int → Prop} : ∀ k : Nat, (∀ j : Int, 0 ≤ j ∧ j < k → (P j ↔ Q j)) → cP P k = cP Q k
  | 0, _ => rfl
  | k + 1, h => by
    unfold cP
    rw [cP_ext k (fun j hj => h j (by omega))]
    have := h k (by omega)
    by_cases c : P k
    · rw [if_pos c, if_pos (this.mp c)]
    · rw [if_neg c, if_neg (fun z => c (this.mpr z))]
theorem cP_all {P : Int → Prop} : ∀ k : Nat, cP P k = k → ∀ j : Int, 0 ≤ j ∧ j < k → P j
  | 0, _, j, hj => by omega
  | k + 1, h, j, hj => by
    unfold cP at h
    have b := cP_b (P := P) k
    by_cases c : P k
    · rw [if_pos c] at h
      by_cases e : j = k
      · rw [e]; exact c
      · exact cP_all k (by omega) j (by omega)
    · rw [if_neg c] at h; omega
theorem cP_full {P : Int → Prop} : ∀ k : Nat, (∀ j : Int, 0 ≤ j ∧ j < k → P j) → cP P k = k
  | 0, _ => rfl
  | k + 1, h => by
    unfold cP
    rw [cP_full k (fun j hj => h j (by omega)), if_pos (h k (by omega))]
    rfl
theorem cP_none {P : Int → Prop} : ∀ k : Nat, (∀ j : Int, 0 ≤ j ∧ j < k → ¬ P j) → cP P k = 0
  | 0, _ => rfl
  | k + 1, h => by
    unfold cP
    rw [cP_none k (fun j hj => h j (by omega)), if_neg (h k (by omega))]
    rfl
theorem cP_one {P Q : Int → Prop} {a : Int} : ∀ k : Nat, (0 ≤ a ∧ a < k) → ¬ P a → (∀ j : Int, 0 ≤ j ∧ j < k → (Q j ↔ P j ∨ j = a)) → cP Q k = cP P k + 1
  | 0, h, _, _ => by omega
  | k + 1, h, ha, hq => by
    unfold cP
    have e := hq k (by omega)
    by_cases c : a = k
    · have e0 : cP Q k = cP P k := cP_ext k (fun j hj => by
        rw [hq j (by omega)]
        exact ⟨fun z => z.elim id (fun z => absurd z (by omega)), fun z => .inl z⟩)
      rw [e0]
      subst c
      rw [if_pos (e.mpr (.inr rfl)), if_neg ha]
      omega
    · rw [cP_one k (by omega) ha (fun j hj => hq j (by omega))]
      by_cases p : P k
      · rw [if_pos p, if_pos (e.mpr (.inl p))]
      · rw [if_neg p, if_neg (fun z => (e.mp z).elim p (fun z => c z.symm))]
        omega
/-- the least of its class -/
def LR (m : Int) (Ad : Int → Int → Prop) (k : Int) : Prop := ∀ i, 0 ≤ i ∧ i < k → ¬ Re m Ad i k
theorem lr_ex {m : Int} {Ad : Int → Int → Prop} (hs : ∀ i j, (0 ≤ i ∧ i < m) → (0 ≤ j ∧ j < m) → Ad i j → Ad j i) : ∀ (k : Nat), (k : Int) < m → ∃ a : Int, (0 ≤ a ∧ a ≤ (k : Int)) ∧ Re m Ad k a ∧ LR m Ad a := by
  intro k
  induction k using Nat.strongRecOn with
  | ind k ih =>
    intro hk
    by_cases c : LR m Ad k
    · exact ⟨k, by omega, Re.rf _, c⟩
    · have : ∃ i, (0 ≤ i ∧ i < (k : Int)) ∧ Re m Ad i k := by
        apply Classical.byContradiction
        intro h
        exact c (fun i hi hr => h ⟨i, hi, hr⟩)
      obtain ⟨i, hi, hr⟩ := this
      obtain ⟨a, a1, a2, a3⟩ := ih i.toNat (by omega) (by omega)
      rw [show ((i.toNat : Nat) : Int) = i by omega] at a2
      exact ⟨a, by omega, (hr.sy hs).tr a2, a3⟩
/-- a class more: one least more -/
theorem lr_more {m : Nat} {Ad : Int → Int → Prop} (hs : ∀ i j, (0 ≤ i ∧ i < (m : Int)) → (0 ≤ j ∧ j < (m : Int)) → Ad i j → Ad j i) {V V' : Int → Prop} {s : Int} (hsm : 0 ≤ s ∧ s < m) (hV : ∀ i j, (0 ≤ i ∧ i < (m : Int)) → (0 ≤ j ∧ j < (m : Int)) → V i → Ad i j → V j) (hsV : ¬ V s) (hV' : ∀ j, 0 ≤ j ∧ j < (m : Int) → (V' j ↔ V j ∨ Re m Ad s j)) :
    cP (fun k => LR m Ad k ∧ V' k) m = cP (fun k => LR m Ad k ∧ V k) m + 1 := by
  obtain ⟨a, a1, a2, a3⟩ := lr_ex hs s.toNat (by omega)
  rw [show ((s.toNat : Nat) : Int) = s by omega] at a2
  have clo : ∀ b, V b → (0 ≤ b ∧ b < (m : Int)) → ∀ j, Re m Ad b j → V j := fun b hb hbm j hr => by
    have := hr (fun j => V j ∧ 0 ≤ j ∧ j < (m : Int)) ⟨hb, hbm⟩ (fun q j hq hj hP ha => ⟨hV q j hq hj hP.1 ha, hj⟩)
    exact this.1
  refine cP_one (a := a) m (by omega) (fun z => hsV (clo a z.2 (by omega) s (a2.sy hs))) (fun j hj => ?_)
  constructor
  · rintro ⟨h1, h2⟩
    rcases (hV' j hj).mp h2 with h | h
    · exact .inl ⟨h1, h⟩
    · refine .inr ?_
      have aj : Re m Ad a j := (a2.sy hs).tr h
      rcases Int.lt_trichotomy j a with hl | hl | hl
      · exact absurd (aj.sy hs) (a3 j ⟨hj.1, hl⟩)
      · exact hl
      · exact absurd aj (h1 a ⟨a1.1, hl⟩)
  · rintro (⟨h1, h2⟩ | hja)
    · exact ⟨h1, (hV' j hj).mpr (.inl h2)⟩
    · exact ⟨by rw [hja]; exact a3, (hV' j hj).mpr (.inr (by rw [hja]; exact a2))⟩
-- the object's search
/-- steps by nx -/
def AdN (nx : Int → Int → Int) (act : Int → Int) (k2 : Nat) (q j : Int) : Prop := ∃ c : Int, (0 ≤ c ∧ c < k2) ∧ act (c / 2) = 1 ∧ nx q c = j ∧ 0 ≤ j
/-- what holds of a search for distances -/
def QI (m : Nat) (nx : Int → Int → Int) (act : Int → Int) (k2 : Nat) (s : Int) (st : BS) : Prop := BI m st ∧ InL st ∧ (∀ a b : Nat, a < b → b < st.2.length → st.1 (st.2.getD a 0) ≤ st.1 (st.2.getD b 0)) ∧ (∀ j, 0 ≤ st.1 j → j = s ∨ ∃ q, (0 ≤ q ∧ q < (m : Int)) ∧ 0 ≤ st.1 q ∧ AdN nx act k2 q j ∧ st.1 j = st.1 q + 1) ∧ st.1 s = 0
/-- all that is reached lies within one more than x -/
def Spn (x : Int) (st : BS) : Prop := ∀ b : Nat, b < st.2.length → st.1 (st.2.getD b 0) ≤ x
theorem QI.rch {m : Nat} {nx : Int → Int → Int} {act : Int → Int} {k2 : Nat} {s q num : Int} {st : BS} {p : Nat} (h : QI m nx act k2 s st) (hp : p < st.2.length) (hq : st.2.getD p 0 = q) (hsp : Spn (st.1 q + 1) st) (ha : 0 ≤ num → AdN nx act k2 q num) (hn : num < m) :
    QI m nx act k2 s (rchp num (st.1 q + 1) st) ∧ Spn (st.1 q + 1) (rchp num (st.1 q + 1) st) ∧ (0 ≤ num → 0 ≤ (rchp num (st.1 q + 1) st).1 num) ∧ (∀ j, 0 ≤ st.1 j → (rchp num (st.1 q + 1) st).1 j = st.1 j) := by
  obtain ⟨hB, hI, hM, hP, h0⟩ := h
  have hqr := hB.2.1 p hp
  rw [hq] at hqr
  obtain ⟨g1, g2, g3, g4⟩ := hB.rch (num := num) (d := st.1 q + 1) hn ⟨by omega, by omega⟩
  have gI := hI.rch num (st.1 q + 1)
  by_cases c : 0 ≤ num ∧ st.1 num < 0
  · have e : rchp num (st.1 q + 1) st = (fun j => if j = num then st.1 q + 1 else st.1 j, st.2 ++ [num]) := if_pos c
    rw [e] at g1 g2 g3 g4 gI ⊢
    have en : (if num = num then st.1 q + 1 else st.1 num) = st.1 q + 1 := if_pos rfl
    have eo : ∀ b : Nat, b < st.2.length → (if (st.2 ++ [num]).getD b 0 = num then st.1 q + 1 else st.1 ((st.2 ++ [num]).getD b 0)) = st.1 (st.2.getD b 0) := fun b hb => by
      rw [getD_app hb]
      have := (hB.2.1 b hb).2.2.1
      rw [if_neg (fun z => by rw [z] at this; omega)]
    have el : (if (st.2 ++ [num]).getD st.2.length 0 = num then st.1 q + 1 else st.1 ((st.2 ++ [num]).getD st.2.length 0)) = st.1 q + 1 := by
      rw [getD_app2]; exact if_pos rfl
    have ll : (st.2 ++ [num]).length = st.2.length + 1 := by simp
    refine ⟨⟨g1, gI, fun a b hab hb => ?_, fun j hj => ?_, ?_⟩, fun b hb => ?_, fun _ => ?_, g4⟩
    · dsimp only at hb ⊢
      rw [ll] at hb
      rw [eo a (by omega)]
      by_cases hbl : b = st.2.length
      · rw [hbl, el]; exact hsp a (by omega)
      · rw [eo b (by omega)]; exact hM a b hab (by omega)
    · dsimp only at hj ⊢
      have eq0 : (if q = num then st.1 q + 1 else st.1 q) = st.1 q := if_neg (fun z => by rw [z] at hqr; omega)
      by_cases hjn : j = num
      · refine .inr ⟨q, ⟨hqr.1, hqr.2.1⟩, by rw [eq0]; exact hqr.2.2.1, by rw [hjn]; exact ha c.1, by rw [if_pos hjn, eq0]⟩
      · rw [if_neg hjn] at hj ⊢
        rcases hP j hj with g | ⟨i, i1, i2, i3, i4⟩
        · exact .inl g
        · have ei : (if i = num then st.1 q + 1 else st.1 i) = st.1 i := if_neg (fun z => by rw [z] at i2; omega)
          exact .inr ⟨i, i1, by rw [ei]; exact i2, i3, by rw [ei]; exact i4⟩
    · dsimp only
      rw [if_neg (fun z => by rw [z] at h0; omega)]; exact h0
    · dsimp only at hb ⊢
      rw [ll] at hb
      by_cases hbl : b = st.2.length
      · rw [hbl, el]; exact Int.le_refl _
      · rw [eo b (by omega)]; exact hsp b (by omega)
    · dsimp only
      rw [en]; omega
  · have e : rchp num (st.1 q + 1) st = st := if_neg c
    rw [e]
    exact ⟨⟨hB, hI, hM, hP, h0⟩, hsp, fun hn0 => by omega, fun _ _ => rfl⟩
theorem QI.node {m : Nat} {nx : Int → Int → Int} {act : Int → Int} {k2 : Nat} {s q : Int} {st : BS} {p : Nat} (h : QI m nx act k2 s st) (hp : p < st.2.length) (hq : st.2.getD p 0 = q) (hsp : Spn (st.1 q + 1) st) : ∀ k : Nat, k ≤ k2 → (∀ c : Nat, c < k → nx q c < m) →
    QI m nx act k2 s (bnode nx act q k st) ∧ Spn (st.1 q + 1) (bnode nx act q k st) ∧ (∀ c : Nat, c < k → act ((c : Int) / 2) = 1 → 0 ≤ nx q c → 0 ≤ (bnode nx act q k st).1 (nx q c)) ∧ (∀ j, 0 ≤ st.1 j → (bnode nx act q k st).1 j = st.1 j) ∧ p < (bnode nx act q k st).2.length ∧ (bnode nx act q k st).2.getD p 0 = q
  | 0, _, _ => ⟨h, hsp, fun c hc => absurd hc (Nat.not_lt_zero _), fun _ _ => rfl, hp, hq⟩
  | k + 1, hk, hnx => by
    obtain ⟨h1, h2, h3, h4, h5, h6⟩ := QI.node h hp hq hsp k (by omega) (fun c hc => hnx c (by omega))
    have hqr := h.1.2.1 p hp
    rw [hq] at hqr
    have eq0 := h4 q hqr.2.2.1
    show QI m nx act k2 s (bcode nx act q k (bnode nx act q k st)) ∧ Spn _ (bcode nx act q k (bnode nx act q k st)) ∧ (∀ c : Nat, c < k + 1 → _ → _ → 0 ≤ (bcode nx act q k (bnode nx act q k st)).1 (nx q c)) ∧ (∀ j, _ → (bcode nx act q k (bnode nx act q k st)).1 j = _) ∧ p < (bcode nx act q k (bnode nx act q k st)).2.length ∧ (bcode nx act q k (bnode nx act q k st)).2.getD p 0 = q
    by_cases ha : act ((k : Int) / 2) = 1
    · have e : bcode nx act q k (bnode nx act q k st) = rchp (nx q k) ((bnode nx act q k st).1 q + 1) (bnode nx act q k st) := if_pos ha
      rw [← eq0] at h2
      obtain ⟨r1, r2, r3, r4⟩ := h1.rch h5 h6 h2 (num := nx q k) (fun h0 => ⟨k, by omega, ha, rfl, h0⟩) (hnx k (by omega))
      have bq := h1.1.2.1 p h5
      obtain ⟨z1, z2, z3, z4⟩ := h1.1.rch (num := nx q k) (d := (bnode nx act q k st).1 q + 1) (hnx k (by omega)) ⟨by rw [h6] at bq; omega, by rw [h6] at bq; omega⟩
      rw [e]
      refine ⟨r1, by rw [← eq0]; exact r2, fun c hc hca h0 => ?_, fun j hj => ?_, by omega, by rw [z3 p h5]; exact h6⟩
      · by_cases hck : c = k
        · subst hck; exact r3 h0
        · have := h3 c (by omega) hca h0
          rw [r4 _ this]; exact this
      · rw [r4 j (by rw [h4 j hj]; exact hj), h4 j hj]
    · have e : bcode nx act q k (bnode nx act q k st) = bnode nx act q k st := if_neg ha
      rw [e]
      refine ⟨h1, h2, fun c hc hca h0 => ?_, h4, h5, h6⟩
      by_cases hck : c = k
      · subst hck; exact absurd hca ha
      · exact h3 c (by omega) hca h0
/-- behind i steps of the queue -/
theorem bfs_QI {m : Nat} {nx : Int → Int → Int} {act : Int → Int} {k2 : Nat} {s : Int} {st : BS} (h : QI m nx act k2 s st) (h1 : ∀ a b : Nat, a < st.2.length → b < st.2.length → st.1 (st.2.getD b 0) ≤ st.1 (st.2.getD a 0) + 1) (hnx : ∀ q c : Int, 0 ≤ q ∧ q < m → 0 ≤ c ∧ c < k2 → nx q c < m) :
    ∀ i, QI m nx act k2 s (bfs nx act k2 i st) ∧ (∀ a b : Nat, i ≤ a → a < (bfs nx act k2 i st).2.length → b < (bfs nx act k2 i st).2.length → (bfs nx act k2 i st).1 ((bfs nx act k2 i st).2.getD b 0) ≤ (bfs nx act k2 i st).1 ((bfs nx act k2 i st).2.getD a 0) + 1) ∧
      ∀ p : Nat, p < i → p < (bfs nx act k2 i st).2.length → ∀ c : Nat, c < k2 → act ((c : Int) / 2) = 1 → 0 ≤ nx ((bfs nx act k2 i st).2.getD p 0) c → 0 ≤ (bfs nx act k2 i st).1 (nx ((bfs nx act k2 i st).2.getD p 0) c) ∧ (bfs nx act k2 i st).1 (nx ((bfs nx act k2 i st).2.getD p 0) c) ≤ (bfs nx act k2 i st).1 ((bfs nx act k2 i st).2.getD p 0) + 1
  | 0 => ⟨h, fun a b _ ha hb => h1 a b ha hb, fun p hp => absurd hp (Nat.not_lt_zero _)⟩
  | i + 1 => by
    obtain ⟨i1, i2, i3⟩ := bfs_QI h h1 hnx i
    have e : bfs nx act k2 (i + 1) st = if i < (bfs nx act k2 i st).2.length then bnode nx act ((bfs nx act k2 i st).2.getD i 0) k2 (bfs nx act k2 i st) else bfs nx act k2 i st := rfl
    rw [e]
    generalize bfs nx act k2 i st = T at *
    by_cases hi : i < T.2.length
    · rw [if_pos hi]
      generalize hq : T.2.getD i 0 = q
      have hr := i1.1.2.1 i hi
      rw [hq] at hr
      have hx : ∀ c : Nat, c < k2 → nx q c < m := fun c hc => hnx _ _ ⟨hr.1, hr.2.1⟩ (by omega)
      have sp : Spn (T.1 q + 1) T := fun b hb => by
        have := i2 i b (Nat.le_refl _) hi hb
        rw [hq] at this; exact this
      obtain ⟨n1, n2, n3, n4, n5, n6⟩ := i1.node hi hq sp k2 (Nat.le_refl _) hx
      obtain ⟨-, b2, b3, b4⟩ := i1.1.node (act := act) hi hq k2 hx
      have eq0 : (bnode nx act q k2 T).1 q = T.1 q := n4 q hr.2.2.1
      refine ⟨n1, fun a b hia ha hb => ?_, fun p hp hp2 c hc hca h0 => ?_⟩
      · have m1 := n1.2.2.1 i a (by omega) ha
        rw [n6, eq0] at m1
        have := n2 b hb
        omega
      · by_cases hpi : p = i
        · subst hpi
          rw [n6] at h0 ⊢
          have g := n3 c hc hca h0
          refine ⟨g, ?_⟩
          obtain ⟨w, w1, w2⟩ := n1.2.1 _ g
          have := n2 w w1
          rw [w2] at this
          rw [eq0]; exact this
        · rw [b3 p (by omega)] at h0 ⊢
          have g := i3 p (by omega) (by omega) c hc hca h0
          have bp := (i1.1.2.1 p (by omega)).2.2.1
          rw [n4 _ g.1, n4 _ bp]; exact g
    · rw [if_neg hi]
      exact ⟨i1, fun a b hia ha hb => i2 a b (by omega) ha hb, fun p hp hp2 => i3 p (by omega) hp2⟩
/-- the object's search tells the distances -/
theorem bfrom_ds {m : Nat} {nx : Int → Int → Int} {act : Int → Int} {k2 : Nat} {s : Int} (hs : 0 ≤ s ∧ s < m) (hnx : ∀ q c : Int, 0 ≤ q ∧ q < m → 0 ≤ c ∧ c < k2 → nx q c < m) : DsG m (AdN nx act k2) s (bfrom nx act k2 m (fun _ => -1) s) := by
  obtain ⟨a1, a2, a3⟩ := st0_ok (m := m) hs
  have e0 : rchp s 0 ((fun _ => -1), ([] : List Int)) = (fun j => if j = s then 0 else -1, [s]) := if_pos ⟨hs.1, show (-1 : Int) < 0 by decide⟩
  have h0 : QI m nx act k2 s (rchp s 0 ((fun _ => -1), [])) := by
    refine ⟨a1, a2, ?_, ?_, ?_⟩
    · rw [e0]; intro a b hab hb
      have : b < 1 := hb
      omega
    · rw [e0]; intro j hj
      dsimp only at hj
      by_cases c : j = s
      · exact .inl c
      · rw [if_neg c] at hj; omega
    · rw [e0]; exact if_pos rfl
  have h1 : ∀ a b : Nat, a < (rchp s 0 ((fun _ => -1), [])).2.length → b < (rchp s 0 ((fun _ => -1), [])).2.length → (rchp s 0 ((fun _ => -1), [])).1 ((rchp s 0 ((fun _ => -1), [])).2.getD b 0) ≤ (rchp s 0 ((fun _ => -1), [])).1 ((rchp s 0 ((fun _ => -1), [])).2.getD a 0) + 1 := by
    rw [e0]
    intro a b ha hb
    have ha' : a < 1 := ha
    have hb' : b < 1 := hb
    obtain rfl : a = 0 := by omega
    obtain rfl : b = 0 := by omega
    omega
  obtain ⟨i1, i2, i3⟩ := bfs_QI h0 h1 hnx m
  refine ⟨i1.2.2.2.2, fun i j hi hj h0 ha => ?_, fun j hj h0 => i1.2.2.2.1 j h0⟩
  obtain ⟨c, c1, c2, c3, c4⟩ := ha
  obtain ⟨w, w1, w2⟩ := i1.2.1 i h0
  have hl := i1.1.1
  have := i3 w (by omega) w1 c.toNat (by omega) (by rw [show ((c.toNat : Nat) : Int) = c by omega]; exact c2) (by rw [w2, show ((c.toNat : Nat) : Int) = c by omega, c3]; exact c4)
  rw [w2, show ((c.toNat : Nat) : Int) = c by omega, c3] at this
  exact this
-- the object's classes
theorem bfs_dnQ {m : Nat} {nx : Int → Int → Int} {act : Int → Int} {k2 : Nat} {st : BS} (h : BI m st) (hnx : ∀ q c : Int, 0 ≤ q ∧ q < m → 0 ≤ c ∧ c < k2 → nx q c < m) : ∀ i, Dn nx act k2 i (bfs nx act k2 i st) ∧ ∀ j, 0 ≤ st.1 j → (bfs nx act k2 i st).1 j = st.1 j
  | 0 => ⟨fun p hp => absurd hp (Nat.not_lt_zero _), fun _ _ => rfl⟩
  | i + 1 => by
    obtain ⟨ih1, ih2⟩ := bfs_dnQ (act := act) h hnx i
    have hb := BI_bfs (act := act) h hnx i
    rw [show bfs nx act k2 (i + 1) st = if i < (bfs nx act k2 i st).2.length then bnode nx act ((bfs nx act k2 i st).2.getD i 0) k2 (bfs nx act k2 i st) else bfs nx act k2 i st from rfl]
    split
    · rename_i hi
      have hr := hb.2.1 i hi
      have hx : ∀ c : Nat, c < k2 → nx ((bfs nx act k2 i st).2.getD i 0) c < m := fun c hc => hnx _ _ ⟨hr.1, hr.2.1⟩ (by omega)
      obtain ⟨g1, g2, g3, g4⟩ := hb.node (act := act) hi rfl k2 hx
      refine ⟨fun p hp hp2 c hc ha hn => ?_, fun j hj => by rw [g4 j (by rw [ih2 j hj]; exact hj), ih2 j hj]⟩
      rw [g3 p (by omega)] at hn ⊢
      rcases Nat.lt_or_ge p i with hl | hl
      · have := ih1 p hl (by omega) c hc ha hn
        rw [g4 _ this]; exact this
      · obtain rfl : p = i := by omega
        exact node_cl hb hi rfl k2 hx c hc ha hn
    · rename_i hi
      exact ⟨fun p hp hp2 => ih1 p (by omega) hp2, ih2⟩
/-- reached: in the queue, or reached before -/
def InQ (Q0 : Int → Prop) (st : BS) : Prop := ∀ j, 0 ≤ st.1 j → Q0 j ∨ ∃ i, i < st.2.length ∧ st.2.getD i 0 = j
theorem InQ.rch {Q0 : Int → Prop} {st : BS} (h : InQ Q0 st) (num d : Int) : InQ Q0 (rchp num d st) := by
  unfold rchp
  split
  · intro j hj
    by_cases e : j = num
    · exact .inr ⟨st.2.length, by simp, by rw [e]; exact getD_app2⟩
    · have hj' : 0 ≤ st.1 j := by
        have : (if j = num then d else st.1 j) = st.1 j := if_neg e
        rw [← this]; exact hj
      rcases h j hj' with g | ⟨i, h1, h2⟩
      · exact .inl g
      · exact .inr ⟨i, by simp; omega, by rw [← h2]; exact getD_app h1⟩
  · exact h
theorem InQ.node {Q0 : Int → Prop} {nx : Int → Int → Int} {act : Int → Int} {q : Int} {st : BS} (h : InQ Q0 st) : ∀ k, InQ Q0 (bnode nx act q k st)
  | 0 => h
  | k + 1 => by
    have ih := InQ.node (nx := nx) (act := act) (q := q) h k
    show InQ Q0 (bcode nx act q k (bnode nx act q k st))
    unfold bcode
    split
    · exact ih.rch _ _
    · exact ih
theorem InQ_bfs {Q0 : Int → Prop} {nx : Int → Int → Int} {act : Int → Int} {k2 : Nat} {st : BS} (h : InQ Q0 st) : ∀ i, InQ Q0 (bfs nx act k2 i st)
  | 0 => h
  | i + 1 => by
    have ih := InQ_bfs (nx := nx) (act := act) (k2 := k2) h i
    rw [show bfs nx act k2 (i + 1) st = if i < (bfs nx act k2 i st).2.length then bnode nx act ((bfs nx act k2 i st).2.getD i 0) k2 (bfs nx act k2 i st) else bfs nx act k2 i st from rfl]
    split
    · exact ih.node k2
    · exact ih
theorem bfrom_cl {m : Nat} {nx : Int → Int → Int} {act : Int → Int} {k2 : Nat} {s : Int} {D : Int → Int} (hs : 0 ≤ s ∧ s < m) (hD : D s < 0) (hnx : ∀ q c : Int, 0 ≤ q ∧ q < m → 0 ≤ c ∧ c < k2 → nx q c < m) (hc : ∀ i j, (0 ≤ i ∧ i < (m : Int)) → (0 ≤ j ∧ j < (m : Int)) → 0 ≤ D i → AdN nx act k2 i j → 0 ≤ D j) :
    ∀ j, 0 ≤ j ∧ j < (m : Int) → (0 ≤ bfrom nx act k2 m D s j ↔ 0 ≤ D j ∨ Re m (AdN nx act k2) s j) := by
  have e0 : rchp s 0 (D, ([] : List Int)) = (fun j => if j = s then 0 else D j, [s]) := if_pos ⟨hs.1, hD⟩
  have hB0 : BI m (D, []) := BI.nil
  have hB := (hB0.rch (num := s) (d := 0) hs.2 ⟨by decide, by simp⟩).1
  obtain ⟨d1, d2⟩ := bfs_dnQ (act := act) hB hnx m
  have dq := InQ_bfs (Q0 := fun j => 0 ≤ D j) (nx := nx) (act := act) (k2 := k2) (InQ.rch (st := (D, [])) (fun j hj => .inl hj) s 0) m
  have hb := BI_bfs (act := act) hB hnx m
  have s0 : 0 ≤ (rchp s 0 (D, [])).1 s := by rw [e0]; show 0 ≤ (if s = s then (0 : Int) else D s); rw [if_pos rfl]; decide
  have old : ∀ j, 0 ≤ D j → 0 ≤ (rchp s 0 (D, [])).1 j := fun j hj => by
    rw [e0]; show 0 ≤ (if j = s then (0 : Int) else D j)
    split
    · decide
    · exact hj
  intro j hj
  show 0 ≤ (bfs nx act k2 m (rchp s 0 (D, []))).1 j ↔ _
  constructor
  · intro h
    refine Snd_bfs (P := fun j => 0 ≤ D j ∨ Re m (AdN nx act k2) s j) hB (Snd.rch (st := (D, [])) (fun j hj => .inl hj) (fun _ => .inr (Re.rf s))) hnx (fun q c hq hP hc' ha h0 => ?_) m j h
    have hA : AdN nx act k2 q (nx q c) := ⟨c, hc', ha, rfl, h0⟩
    have hr : 0 ≤ nx q c ∧ nx q c < (m : Int) := ⟨h0, hnx q c hq hc'⟩
    rcases hP with hP | hP
    · exact .inl (hc q _ hq hr hP hA)
    · exact .inr (hP.tr (Re.st hq hr hA))
  · rintro (h | h)
    · rw [d2 j (old j h)]; exact old j h
    · refine (h (fun j => 0 ≤ (bfs nx act k2 m (rchp s 0 (D, []))).1 j) (by rw [d2 s s0]; exact s0) (fun q j hq hj hP ha => ?_))
      rcases dq q hP with g | ⟨w, w1, w2⟩
      · have := hc q j hq hj g ha
        rw [d2 j (old j this)]; exact old j this
      · obtain ⟨c, c1, c2, c3, c4⟩ := ha
        have hl := hb.1
        have := d1 w (by omega) w1 c.toNat (by omega) (by rw [show ((c.toNat : Nat) : Int) = c by omega]; exact c2) (by rw [w2, show ((c.toNat : Nat) : Int) = c by omega, c3]; exact c4)
        rw [w2, show ((c.toNat : Nat) : Int) = c by omega, c3] at this
        exact this
theorem bcls_ok {m : Nat} {nx : Int → Int → Int} {act : Int → Int} {k2 : Nat} (hnx : ∀ q c : Int, 0 ≤ q ∧ q < m → 0 ≤ c ∧ c < k2 → nx q c < m) : ∀ k : Nat, k ≤ m → (bcls nx act k2 m k).1 = cP (LR m (AdN nx act k2)) k ∧ ∀ j, 0 ≤ j ∧ j < (m : Int) → (0 ≤ (bcls nx act k2 m k).2 j ↔ ∃ i, (0 ≤ i ∧ i < (k : Int)) ∧ Re m (AdN nx act k2) i j)
  | 0, _ => ⟨rfl, fun j hj => ⟨fun h => absurd (show (0 : Int) ≤ -1 from h) (by decide), fun ⟨i, hi, _⟩ => by omega⟩⟩
  | k + 1, hk => by
    obtain ⟨h1, h2⟩ := bcls_ok (act := act) hnx k (by omega)
    have clo : ∀ i j, (0 ≤ i ∧ i < (m : Int)) → (0 ≤ j ∧ j < (m : Int)) → 0 ≤ (bcls nx act k2 m k).2 i → AdN nx act k2 i j → 0 ≤ (bcls nx act k2 m k).2 j := fun i j hi hj h0 ha => by
      obtain ⟨w, w1, w2⟩ := (h2 i hi).mp h0
      exact (h2 j hj).mpr ⟨w, w1, w2.tr (Re.st hi hj ha)⟩
    have hkr : 0 ≤ (k : Int) ∧ (k : Int) < m := by omega
    have e : bcls nx act k2 m (k + 1) = if (bcls nx act k2 m k).2 k < 0 then ((bcls nx act k2 m k).1 + 1, bfrom nx act k2 m (bcls nx act k2 m k).2 k) else bcls nx act k2 m k := rfl
    rw [e]
    unfold cP
    by_cases c : (bcls nx act k2 m k).2 k < 0
    · rw [if_pos c]
      have hlr : LR m (AdN nx act k2) k := fun i hi hr => by
        have := (h2 k hkr).mpr ⟨i, hi, hr⟩
        omega
      refine ⟨by rw [if_pos hlr]; dsimp only; rw [h1], fun j hj => ?_⟩
      dsimp only
      rw [bfrom_cl hkr c hnx clo j hj, h2 j hj]
      constructor
      · rintro (⟨i, i1, i2⟩ | h)
        · exact ⟨i, by omega, i2⟩
        · exact ⟨k, by omega, h⟩
      · rintro ⟨i, i1, i2⟩
        by_cases hik : i = k
        · rw [hik] at i2; exact .inr i2
        · exact .inl ⟨i, by omega, i2⟩
    · rw [if_neg c]
      obtain ⟨i, i1, i2⟩ := (h2 k hkr).mp (by omega)
      have hlr : ¬ LR m (AdN nx act k2) k := fun h => h i i1 i2
      refine ⟨by rw [if_neg hlr, h1]; omega, fun j hj => ?_⟩
      rw [h2 j hj]
      constructor
      · rintro ⟨w, w1, w2⟩; exact ⟨w, by omega, w2⟩
      · rintro ⟨w, w1, w2⟩
        by_cases hwk : w = k
        · rw [hwk] at w2; exact ⟨i, i1, i2.tr w2⟩
        · exact ⟨w, by omega, w2⟩
