/-- a search through numbered things: the distances (below 0: not reached), and those reached in their order -/
abbrev BS : Type := (Int → Int) × List Int
def rchp (num d : Int) (st : BS) : BS := if 0 ≤ num ∧ st.1 num < 0 then (fun j => if j = num then d else st.1 j, st.2 ++ [num]) else st
def bcode (nx : Int → Int → Int) (act : Int → Int) (q c : Int) (st : BS) : BS := if act (c / 2) = 1 then rchp (nx q c) (st.1 q + 1) st else st
def bnode (nx : Int → Int → Int) (act : Int → Int) (q : Int) : Nat → BS → BS
  | 0, st => st
  | c + 1, st => bcode nx act q c (bnode nx act q c st)
def bfs (nx : Int → Int → Int) (act : Int → Int) (k2 : Nat) : Nat → BS → BS
  | 0, st => st
  | i + 1, st => if i < (bfs nx act k2 i st).2.length then bnode nx act ((bfs nx act k2 i st).2.getD i 0) k2 (bfs nx act k2 i st) else bfs nx act k2 i st
/-- all that a search reaches from one -/
def bfrom (nx : Int → Int → Int) (act : Int → Int) (k2 m : Nat) (D : Int → Int) (start : Int) : Int → Int := (bfs nx act k2 m (rchp start 0 (D, []))).1
/-- the classes: how many, and the distances behind the first j -/
def bcls (nx : Int → Int → Int) (act : Int → Int) (k2 m : Nat) : Nat → Int × (Int → Int)
  | 0 => (0, fun _ => -1)
  | j + 1 => if (bcls nx act k2 m j).2 j < 0 then ((bcls nx act k2 m j).1 + 1, bfrom nx act k2 m (bcls nx act k2 m j).2 j) else bcls nx act k2 m j
theorem php : ∀ (m k : Nat) (f : Nat → Nat), (∀ i, i < k → f i < m) → (∀ i j, i < j → j < k → f i ≠ f j) → k ≤ m
  | 0, k, f, h1, _ => by
    by_cases hk : k = 0
    · omega
    · have := h1 0 (by omega); omega
  | m + 1, 0, f, _, _ => by omega
  | m + 1, k + 1, f, h1, h2 => by
    have := php m k (fun i => if f i = m then f k else f i) (fun i hi => by
      have a := h1 i (by omega); have b := h1 k (by omega); have c := h2 i k hi (by omega)
      split <;> omega) (fun i j hij hj => by
      have a := h2 i j hij (by omega); have b := h2 i k (by omega) (by omega); have c := h2 j k hj (by omega)
      (repeat' split) <;> omega)
    omega
/-- what holds of a search among m -/
def BI (m : Nat) (st : BS) : Prop := st.2.length ≤ m ∧ (∀ i : Nat, i < st.2.length → 0 ≤ st.2.getD i 0 ∧ st.2.getD i 0 < m ∧ 0 ≤ st.1 (st.2.getD i 0) ∧ st.1 (st.2.getD i 0) ≤ i) ∧ ∀ i j : Nat, i < j → j < st.2.length → st.2.getD i 0 ≠ st.2.getD j 0
theorem getD_app {L : List Int} {x : Int} {i : Nat} (h : i < L.length) : (L ++ [x]).getD i 0 = L.getD i 0 := by
  simp [List.getD_eq_getElem?_getD, List.getElem?_append_left h]
theorem getD_app2 {L : List Int} {x : Int} : (L ++ [x]).getD L.length 0 = x := by
  simp [List.getD_eq_getElem?_getD]
theorem BI.room {m : Nat} {st : BS} {num : Int} (h : BI m st) (hn : 0 ≤ num ∧ num < m) (hu : st.1 num < 0) : st.2.length + 1 ≤ m := by
  refine php m (st.2.length + 1) (fun i => ((st.2 ++ [num]).getD i 0).toNat) (fun i hi => ?_) (fun i j hij hj => ?_)
  · by_cases e : i < st.2.length
    · have := h.2.1 i e
      simp only [getD_app e]
      omega
    · obtain rfl : i = st.2.length := by omega
      simp only [getD_app2]
      omega
  · have hi := h.2.1 i (by omega)
    by_cases e : j < st.2.length
    · have h2 := h.2.1 j e
      have h3 := h.2.2 i j hij e
      simp only [getD_app e, getD_app (show i < st.2.length by omega)]
      omega
    · obtain rfl : j = st.2.length := by omega
      simp only [getD_app2, getD_app hij]
      intro z
      have : st.2.getD i 0 = num := by omega
      rw [this] at hi
      omega
theorem BI.rch {m : Nat} {st : BS} {num d : Int} (h : BI m st) (hn : num < m) (hd : 0 ≤ d ∧ d ≤ st.2.length) : BI m (rchp num d st) ∧ st.2.length ≤ (rchp num d st).2.length ∧ (∀ i : Nat, i < st.2.length → (rchp num d st).2.getD i 0 = st.2.getD i 0) ∧ ∀ j, 0 ≤ st.1 j → (rchp num d st).1 j = st.1 j := by
  unfold rchp
  by_cases hc : 0 ≤ num ∧ st.1 num < 0
  · rw [if_pos hc]
    have hr := h.room ⟨hc.1, hn⟩ hc.2
    refine ⟨⟨by simp only [List.length_append, List.length_singleton]; exact hr, fun i hi => ?_, fun i j hij hj => ?_⟩, by simp, fun i hi => getD_app hi, fun j hj => ?_⟩
    · simp only [List.length_append, List.length_singleton] at hi
      by_cases e : i < st.2.length
      · have := h.2.1 i e
        simp only [getD_app e]
        rw [if_neg (fun z => by rw [z] at this; omega)]
        exact this
      · obtain rfl : i = st.2.length := by omega
        simp only [getD_app2, if_true]
        omega
    · simp only [List.length_append, List.length_singleton] at hj
      have hi := h.2.1 i (by omega)
      by_cases e : j < st.2.length
      · simp only [getD_app e, getD_app (show i < st.2.length by omega)]
        exact h.2.2 i j hij e
      · obtain rfl : j = st.2.length := by omega
        simp only [getD_app2, getD_app hij]
        intro z
        rw [z] at hi
        omega
    · simp only
      rw [if_neg (fun z => by rw [z] at hj; omega)]
  · rw [if_neg hc]
    exact ⟨h, Nat.le_refl _, fun _ _ => rfl, fun _ _ => rfl⟩
theorem BI.code {m : Nat} {nx : Int → Int → Int} {act : Int → Int} {q c : Int} {st : BS} {p : Nat} (h : BI m st) (hp : p < st.2.length) (hq : st.2.getD p 0 = q) (hnx : nx q c < m) : BI m (bcode nx act q c st) ∧ st.2.length ≤ (bcode nx act q c st).2.length ∧ (∀ i : Nat, i < st.2.length → (bcode nx act q c st).2.getD i 0 = st.2.getD i 0) ∧ ∀ j, 0 ≤ st.1 j → (bcode nx act q c st).1 j = st.1 j := by
  unfold bcode
  split
  · have := h.2.1 p hp
    rw [hq] at this
    exact h.rch hnx (by omega)
  · exact ⟨h, Nat.le_refl _, fun _ _ => rfl, fun _ _ => rfl⟩
theorem BI.node {m : Nat} {nx : Int → Int → Int} {act : Int → Int} {q : Int} {st : BS} {p : Nat} (h : BI m st) (hp : p < st.2.length) (hq : st.2.getD p 0 = q) : ∀ k : Nat, (∀ c : Nat, c < k → nx q c < m) → BI m (bnode nx act q k st) ∧ st.2.length ≤ (bnode nx act q k st).2.length ∧ (∀ i : Nat, i < st.2.length → (bnode nx act q k st).2.getD i 0 = st.2.getD i 0) ∧ ∀ j, 0 ≤ st.1 j → (bnode nx act q k st).1 j = st.1 j
  | 0, _ => ⟨h, Nat.le_refl _, fun _ _ => rfl, fun _ _ => rfl⟩
  | k + 1, hnx => by
    obtain ⟨h1, h2, h3, h4⟩ := BI.node (act := act) h hp hq k (fun c hc => hnx c (by omega))
    obtain ⟨g1, g2, g3, g4⟩ := BI.code (act := act) (c := k) h1 (p := p) (by omega) (by rw [h3 p hp]; exact hq) (hnx k (by omega))
    refine ⟨g1, Nat.le_trans h2 g2, fun i hi => ?_, fun j hj => ?_⟩
    · show (bcode nx act q k (bnode nx act q k st)).2.getD i 0 = _
      rw [g3 i (by omega), h3 i hi]
    · show (bcode nx act q k (bnode nx act q k st)).1 j = _
      rw [g4 j (by rw [h4 j hj]; exact hj), h4 j hj]
theorem BI_bfs {m : Nat} {nx : Int → Int → Int} {act : Int → Int} {k2 : Nat} {st : BS} (h : BI m st) (hnx : ∀ q c : Int, 0 ≤ q ∧ q < m → 0 ≤ c ∧ c < k2 → nx q c < m) : ∀ i : Nat, BI m (bfs nx act k2 i st)
  | 0 => h
  | i + 1 => by
    have ih := BI_bfs (act := act) h hnx i
    rw [show bfs nx act k2 (i + 1) st = if i < (bfs nx act k2 i st).2.length then bnode nx act ((bfs nx act k2 i st).2.getD i 0) k2 (bfs nx act k2 i st) else bfs nx act k2 i st from rfl]
    split
    · rename_i hi
      have := ih.2.1 i hi
      exact (ih.node hi rfl k2 (fun c hc => hnx _ _ ⟨this.1, this.2.1⟩ (by omega))).1
    · exact ih
/-- once the queue is through nothing changes -/
theorem bfs_stop {nx : Int → Int → Int} {act : Int → Int} {k2 : Nat} {st : BS} {i : Nat} (h : (bfs nx act k2 i st).2.length ≤ i) : ∀ k, bfs nx act k2 (i + k) st = bfs nx act k2 i st
  | 0 => rfl
  | k + 1 => by
    have ih := bfs_stop h k
    show (if i + k < (bfs nx act k2 (i + k) st).2.length then _ else _) = _
    rw [if_neg (by rw [ih]; omega)]
    exact ih
-- the walk: place 58: 0 queue (59), 1 steps (60), 2 queued
def WR (m : Nat) (st : BS) (I : IE) (F : FE) : Prop := (∀ j : Int, 0 ≤ j ∧ j < m → F 60 j = st.1 j) ∧ I 58 2 = st.2.length ∧ ∀ i : Nat, i < st.2.length → F 59 i = st.2.getD i 0
def Wfr (I I' : IE) (F F' : FE) : Prop := (∀ a k, (a ≠ 58 ∨ k ≠ 2) → I' a k = I a k) ∧ ∀ a, a ≠ 59 → a ≠ 60 → F' a = F a
theorem Wfr.rf {I : IE} {F : FE} : Wfr I I F F := ⟨fun _ _ _ => rfl, fun _ _ _ => rfl⟩
theorem Wfr.tr {I I1 I2 : IE} {F F1 F2 : FE} (h : Wfr I I1 F F1) (g : Wfr I1 I2 F1 F2) : Wfr I I2 F F2 := ⟨fun a k ha => (g.1 a k ha).trans (h.1 a k ha), fun a h1 h2 => (g.2 a h1 h2).trans (h.2 a h1 h2)⟩
theorem s6_reach {d : Nat} {I : IE} {F : FE} {m : Nat} {st : BS} {num x : Int} (hm : m ≤ 2048) (hnum : num < m) (hI : BI m st) (hW : WR m st I F) : MU m6_reach d shX [rv 58, iv num, iv x] I F (fun I' F' => Wfr I I' F F' ∧ WR m (rchp num x st) I' F') := by
  obtain ⟨w1, w2, w3⟩ := hW
  refine MS_of (ls := [lr 58, li num, li x]) f6_reach rfl rfl (Nat.le_of_ble_eq_true rfl) ?_
  by_cases hc : 0 ≤ num ∧ st.1 num < 0
  · have hr := hI.room ⟨hc.1, hnum⟩ hc.2
    have e := w1 num ⟨hc.1, hnum⟩
    have er : rchp num x st = (fun j => if j = num then x else st.1 j, st.2 ++ [num]) := if_pos hc
    refine w_iload i6_reach_0 rfl ?_
    refine w_iflt i6_reach_1 (fun h_ => absurd h_ (by omega)) (fun h1 => ?_)
    refine w_iload i6_reach_4 rfl ?_
    refine w_aload i6_reach_5 rfl ?_
    refine w_getr i6_reach_6 rfl rfl ?_
    refine w_alen i6_reach_9 rfl (by decide) ?_
    refine w_icmpge i6_reach_10 (fun h_ => absurd h_ (by omega)) (fun h10 => ?_)
    refine w_aload i6_reach_13 rfl ?_
    refine w_getr i6_reach_14 rfl rfl ?_
    refine w_iload i6_reach_17 rfl ?_
    refine w_iald i6_reach_18 rfl (by omega) ?_
    refine w_ifge i6_reach_19 (fun h_ => absurd h_ (by omega)) (fun h19 => ?_)
    refine w_aload i6_reach_22 rfl ?_
    refine w_get i6_reach_23 rfl rfl ?_
    refine w_aload i6_reach_26 rfl ?_
    refine w_getr i6_reach_27 rfl rfl ?_
    refine w_alen i6_reach_30 rfl (by decide) ?_
    refine w_icmpge i6_reach_31 (fun h_ => absurd h_ (by omega)) (fun h31 => ?_)
    refine w_aload i6_reach_34 rfl ?_
    refine w_getr i6_reach_35 rfl rfl ?_
    refine w_iload i6_reach_38 rfl ?_
    refine w_iload i6_reach_39 rfl ?_
    refine w_iast i6_reach_40 rfl (by omega) ?_
    refine w_aload i6_reach_41 rfl ?_
    refine w_getr i6_reach_42 rfl rfl ?_
    refine w_aload i6_reach_45 rfl ?_
    refine w_get i6_reach_46 rfl rfl ?_
    refine w_iload i6_reach_49 rfl ?_
    refine w_iast i6_reach_50 rfl (by omega) ?_
    refine w_aload i6_reach_51 rfl ?_
    refine w_dup i6_reach_52 ?_
    refine w_get i6_reach_53 rfl rfl ?_
    refine w_const i6_reach_56 ?_
    refine w_iadd i6_reach_57 (by omega) ?_
    refine w_put i6_reach_58 rfl rfl (Or.inl rfl) ?_
    refine w_vret i6_reach_61 rfl ⟨Nat.le_refl _, Nat.le_refl _⟩ ?_
    refine ⟨rfl, rfl, ⟨fun a k ha => by simp only [upI]; rw [if_neg (by omega)], fun a h1 h2 => by funext i; simp only [upF, h1, h2, false_and, if_false]⟩, ?_⟩
    rw [er]
    refine ⟨fun j hj => ?_, by simp [upI, w2], fun i hi => ?_⟩
    · simp only [upF, true_and]
      rw [if_neg (by omega)]
      split
      · rfl
      · exact w1 j hj
    · simp only [List.length_append, List.length_singleton] at hi
      simp only [upF, true_and]
      by_cases e : i < st.2.length
      · rw [if_neg (by omega), getD_app e, if_neg (by omega)]; exact w3 i e
      · obtain rfl : i = st.2.length := by omega
        rw [if_pos w2.symm, getD_app2]
  · have er : rchp num x st = st := if_neg hc
    have hno : num < 0 ∨ 0 ≤ st.1 num := by omega
    refine w_iload i6_reach_0 rfl ?_
    refine w_iflt i6_reach_1 (fun h1 => ?_) (fun h1 => ?_)
    · refine w_vret i6_reach_61 rfl ⟨Nat.le_refl _, Nat.le_refl _⟩ ?_
      refine ⟨rfl, rfl, Wfr.rf, ?_⟩
      rw [er]
      exact ⟨w1, w2, w3⟩
    · refine w_iload i6_reach_4 rfl ?_
      refine w_aload i6_reach_5 rfl ?_
      refine w_getr i6_reach_6 rfl rfl ?_
      refine w_alen i6_reach_9 rfl (by decide) ?_
      refine w_icmpge i6_reach_10 (fun h_ => absurd h_ (by omega)) (fun h10 => ?_)
      refine w_aload i6_reach_13 rfl ?_
      refine w_getr i6_reach_14 rfl rfl ?_
      refine w_iload i6_reach_17 rfl ?_
      refine w_iald i6_reach_18 rfl (by omega) ?_
      refine w_ifge i6_reach_19 (fun h19 => ?_) (fun h_ => absurd h_ (by have e := w1 num ⟨by omega, hnum⟩; omega))
      refine w_vret i6_reach_61 rfl ⟨Nat.le_refl _, Nat.le_refl _⟩ ?_
      refine ⟨rfl, rfl, Wfr.rf, ?_⟩
      rw [er]
      exact ⟨w1, w2, w3⟩
theorem l6_forget {d n0 : Nat} {Q : PQ} {I : IE} {F : FE} {b N : Nat} (hB : FbAt b N) (hm : 0 ≤ I b 0 ∧ I b 0 ≤ 2048)
    (K : ∀ F', (∀ j, 0 ≤ j ∧ j < I b 0 → F' 60 j = -1) → (∀ a, a ≠ 60 → F' a = F a) → WS m6_forget d 0 0 n0 Q 0 0 23 [lr 58, lr b, li (I b 0)] [] shX I F') :
    ∀ (m k : Nat) (F' : FE), (k + m : Int) = I b 0 → (∀ j, 0 ≤ j ∧ j < (k : Int) → F' 60 j = -1) → (∀ a, a ≠ 60 → F' a = F a) → WS m6_forget d 0 0 n0 Q 0 0 2 [lr 58, lr b, li k] [] shX I F' := by
  intro m
  induction m with
  | zero =>
    intro k F' hk h1 h2
    have ek : (k : Int) = I b 0 := by omega
    rw [ek] at h1 ⊢
    refine w_iload i6_forget_2 rfl ?_
    refine w_aload i6_forget_3 rfl ?_
    refine w_get i6_forget_4 hB.1 rfl ?_
    refine w_icmpge i6_forget_7 (fun h7 => ?_) (fun h_ => absurd h_ (by omega))
    exact K F' h1 h2
  | succ m ih =>
    intro k F' hk h1 h2
    refine w_iload i6_forget_2 rfl ?_
    refine w_aload i6_forget_3 rfl ?_
    refine w_get i6_forget_4 hB.1 rfl ?_
    refine w_icmpge i6_forget_7 (fun h_ => absurd h_ (by omega)) (fun h7 => ?_)
    refine w_aload i6_forget_10 rfl ?_
    refine w_getr i6_forget_11 rfl rfl ?_
    refine w_iload i6_forget_14 rfl ?_
    refine w_const i6_forget_15 ?_
    refine w_iast i6_forget_16 rfl (by omega) ?_
    refine w_ii2 i6_forget_17 (by omega) ?_
    refine w_goto i6_forget_20 ?_
    refine ih (k + 1) _ (by omega) (fun j hj => ?_) (fun a ha => ?_)
    · simp only [upF, true_and]
      split
      · rfl
      · exact h1 j (by omega)
    · funext i
      simp only [upF, ha, false_and, if_false]
      rw [h2 a ha]
theorem s6_forget {d : Nat} {I : IE} {F : FE} {b N : Nat} (hB : FbAt b N) (hm : 0 ≤ I b 0 ∧ I b 0 ≤ 2048) : MU m6_forget d shX [rv 58, rv b] I F (fun I' F' => I' = I ∧ (∀ j, 0 ≤ j ∧ j < I b 0 → F' 60 j = -1) ∧ ∀ a, a ≠ 60 → F' a = F a) := by
  refine MS_of (ls := [lr 58, lr b, lu]) f6_forget rfl rfl (Nat.le_of_ble_eq_true rfl) ?_
  refine w_const i6_forget_0 ?_
  refine w_is2 i6_forget_1 ?_
  refine l6_forget (F := F) hB hm (fun F' h1 h2 => ?_) (I b 0).toNat 0 _ (by omega) (fun j hj => absurd hj (by omega)) (fun _ _ => rfl)
  refine w_vret i6_forget_23 rfl ⟨Nat.le_refl _, Nat.le_refl _⟩ ?_
  exact ⟨rfl, rfl, rfl, h1, h2⟩
/-- a fiber as it stands, with its rows Y -/
def FbIs (b N m : Nat) (n : Int) (Y : Int → Int → Int) (I : IE) (F : FE) : Prop := FbAt b N ∧ (N = 2048 ∨ N = 32) ∧ m ≤ N ∧ I b 0 = m ∧ I b 1 = n ∧ (2 ≤ n ∧ n ≤ 4) ∧ (∀ i j, 0 ≤ i ∧ i < j ∧ j < (m : Int) → F (b + 3) i < F (b + 3) j) ∧ ∀ i, 0 ≤ i ∧ i < (m : Int) → F (b + 3) i = cd4 (Y i) ∧ b127 (Y i) ∧ ∀ j, 0 ≤ j ∧ j < 4 → Y i j ≤ 110
/-- the steps of the elements among the rows -/
def NxP (b m : Nat) (n : Int) (k : Nat) (Y : Int → Int → Int) (F : FE) (nx : Int → Int → Int) : Prop := ∀ q c v : Int, 0 ≤ q ∧ q < m → 0 ≤ c ∧ c < 2 * k → NasP (F (b + 3)) m n (fun i => Y q (i + (4 - n)) + cvec (en F) c i) v → v = nx q c
theorem NasP.lt {f v : Int → Int} {m n r : Int} (hm : 0 ≤ m) (h : NasP f m n v r) : -1 ≤ r ∧ r < m ∨ m = 0 ∧ r = -1 := by
  rcases h with ⟨h, -⟩ | ⟨-, ⟨h1, h2, -⟩ | ⟨h, -⟩⟩ <;> omega
theorem Wfr.fix {I I' : IE} {F F' : FE} {b : Nat} (h : Wfr I I' F F') (hb : 47 < b ∧ b + 3 < 58) : I' 42 0 = I 42 0 ∧ I' 1 5 = I 1 5 ∧ I' b 0 = I b 0 ∧ I' b 1 = I b 1 ∧ F' (b + 3) = F (b + 3) ∧ en F' = en F :=
  ⟨h.1 42 0 (by omega), h.1 1 5 (by omega), h.1 b 0 (by omega), h.1 b 1 (by omega), h.2 _ (by omega) (by omega), by funext a j; unfold en; rw [h.2 43 (by decide) (by decide)]⟩
theorem l6_elem {d n0 : Nat} {Q : PQ} {I : IE} {F : FE} {b N m k : Nat} {n start i : Int} {Y : Int → Int → Int} {nx : Int → Int → Int} {act : Int → Int} {p : Nat} {q : Int} {st0 : BS}
    (hd : 2 ≤ d) (hF : FbIs b N m n Y I F) (hk : I 42 0 = (k : Int)) (hk15 : k ≤ 15) (ha : 0 ≤ I 1 5 ∧ I 1 5 < 65536) (hact : ∀ e : Nat, e < k → act e = bt (I 1 5) e) (hE : ∀ e i, 0 ≤ e ∧ e < (k : Int) → 0 ≤ i ∧ i < n → -10 ≤ en F e i ∧ en F e i ≤ 10) (hnx : NxP b m n k Y F nx) (hlt : ∀ c : Nat, c < 2 * k → nx q c < m) (hI : BI m st0) (hp : p < st0.2.length) (hq : st0.2.getD p 0 = q)
    (K : ∀ x x8 I' F', Wfr I I' F F' → WR m (bnode nx act q (2 * k) st0) I' F' → WS m6_reachFrom d 0 0 n0 Q 0 0 113 [lr 58, li start, lr b, lr 42, lr 1, li i, li q, x, x8] [] shX I' F') :
    ∀ (w e : Nat) (x8 : Option AV) (I' : IE) (F' : FE), e + w = k → Wfr I I' F F' → WR m (bnode nx act q (2 * e) st0) I' F' → WS m6_reachFrom d 0 0 n0 Q 0 0 45 [lr 58, li start, lr b, lr 42, lr 1, li i, li q, li e, x8] [] shX I' F' := by
  obtain ⟨hB, hN2, hmN, hb0, hb1, hn, hsrt, hY⟩ := hF
  have hq2 := hI.2.1 p hp
  rw [hq] at hq2
  intro w
  induction w with
  | zero =>
    intro e x8 I' F' hw hf hW
    obtain rfl : e = k := by omega
    have e1 : I' 42 0 = I 42 0 := hf.1 42 0 (by omega)
    refine w_iload i6_reachFrom_45 rfl ?_
    refine w_aload i6_reachFrom_47 rfl ?_
    refine w_get i6_reachFrom_48 rfl rfl ?_
    refine w_icmpge i6_reachFrom_51 (fun h51 => ?_) (fun h_ => absurd h_ (by omega))
    exact K _ _ I' F' hf hW
  | succ w ih =>
    intro e x8 I' F' hw hf hW
    have hbb := hB.2.2.2.2
    obtain ⟨e1, e2, e3, e4, e5, een⟩ := hf.fix hbb
    obtain ⟨hn1, hn2, hn3, hn4⟩ := BI.node (act := act) hI hp hq (2 * e) (fun c hc => hlt c (by omega))
    have hae := hact e (by omega)
    by_cases on : bt (I 1 5) e = 1
    · have g1 : bcode nx act q ((2 * e : Nat) : Int) (bnode nx act q (2 * e) st0) = rchp (nx q ((2 * e : Nat) : Int)) ((bnode nx act q (2 * e) st0).1 q + 1) (bnode nx act q (2 * e) st0) := by
        unfold bcode
        rw [show ((2 * e : Nat) : Int) / 2 = e by omega, if_pos (by rw [hae]; exact on)]
      obtain ⟨hm1, hm2, hm3, hm4⟩ := BI.code (act := act) (c := ((2 * e : Nat) : Int)) hn1 (p := p) (by omega) (by rw [hn3 p hp]; exact hq) (hlt (2 * e) (by omega))
      have g2 : bnode nx act q (2 * (e + 1)) st0 = rchp (nx q ((2 * e + 1 : Nat) : Int)) ((bnode nx act q (2 * e) st0).1 q + 1) (bcode nx act q ((2 * e : Nat) : Int) (bnode nx act q (2 * e) st0)) := by
        show bcode nx act q ((2 * e + 1 : Nat) : Int) (bcode nx act q ((2 * e : Nat) : Int) (bnode nx act q (2 * e) st0)) = _
        have hqq : (bcode nx act q ((2 * e : Nat) : Int) (bnode nx act q (2 * e) st0)).1 q = (bnode nx act q (2 * e) st0).1 q := hm4 q (by rw [hn4 q hq2.2.2.1]; exact hq2.2.2.1)
        rw [← hqq]
        unfold bcode
        rw [show ((2 * e + 1 : Nat) : Int) / 2 = e by omega, if_pos (by rw [hae]; exact on)]
      have hqv := hn4 q hq2.2.2.1
      have hlen := hI.1
      have hw60 := hW.1 q ⟨hq2.1, hq2.2.1⟩
      rw [g1] at hm1 g2
      have hN0 : (0 : Int) ≤ I' b 0 ∧ I' b 0 ≤ N := by rw [e3, hb0]; omega
      have hYq := hY q ⟨hq2.1, hq2.2.1⟩
      have c0 : cvec (en F) ((2 * e : Nat) : Int) = en F e := by
        unfold cvec
        rw [if_pos (by omega), show ((2 * e : Nat) : Int) / 2 = e by omega]
      have c1' : cvec (en F) ((2 * e + 1 : Nat) : Int) = ng (en F e) := by
        unfold cvec
        rw [if_neg (by omega), show ((2 * e + 1 : Nat) : Int) / 2 = e by omega]
      refine w_iload i6_reachFrom_45 rfl ?_
      refine w_aload i6_reachFrom_47 rfl ?_
      refine w_get i6_reachFrom_48 rfl rfl ?_
      refine w_icmpge i6_reachFrom_51 (fun h_ => absurd h_ (by omega)) (fun h51 => ?_)
      refine w_aload i6_reachFrom_54 rfl ?_
      refine w_iload i6_reachFrom_56 rfl ?_
      refine w_cVP i6_reachFrom_58 f5_isOn v5_isOn (s5_isOn (by omega) (by rw [e2]; exact ha)) rfl rfl (by decide) rfl rfl (Nat.le_of_ble_eq_true rfl) (by omega) (fun von hv => ?_)
      rw [e2] at hv
      have hv1 : von = 1 := hv.elim (fun z => z.1) (fun z => absurd on z.2)
      refine w_ifeq i6_reachFrom_61 (fun h_ => absurd h_ (by omega)) (fun h61 => ?_)
      refine w_aload i6_reachFrom_64 rfl ?_
      refine w_getr i6_reachFrom_65 rfl rfl ?_
      refine w_iload i6_reachFrom_68 rfl ?_
      refine w_iald i6_reachFrom_70 rfl (by omega) ?_
      refine w_const i6_reachFrom_71 ?_
      refine w_iadd i6_reachFrom_72 (by omega) ?_
      refine w_is8 i6_reachFrom_73 ?_
      refine w_aload i6_reachFrom_75 rfl ?_
      refine w_aload i6_reachFrom_76 rfl ?_
      refine w_iload i6_reachFrom_77 rfl ?_
      refine w_aload i6_reachFrom_79 rfl ?_
      refine w_iload i6_reachFrom_80 rfl ?_
      refine w_const i6_reachFrom_82 ?_
      refine w_cVP i6_reachFrom_83 f1_numberAfterStep v1_numberAfterStep (s1_numberAfterStep (N := N) (y := Y q) hB (by omega) hN2 (by rw [e3, hb0]; omega) hN0.2 (by rw [e4, hb1]; exact hn) (by rw [e3, hb0, e5]; exact hsrt) hYq.2.1 hYq.2.2 (by rw [e5]; exact hYq.1) (by omega) (Or.inl rfl) (by rw [e4, hb1, een]; exact fun i hi => hE e i ⟨by omega, by omega⟩ hi)) rfl hB.1 (by decide) rfl rfl (Nat.le_of_ble_eq_true rfl) (by omega) (fun v1 hv1' => ?_)
      rw [e3, hb0, e4, hb1, e5, een] at hv1'
      have r1 : v1 = nx q ((2 * e : Nat) : Int) := hnx q _ v1 ⟨hq2.1, hq2.2.1⟩ (by omega) (by rw [c0]; simpa only [Int.one_mul] using hv1')
      subst r1
      refine w_iload i6_reachFrom_86 rfl ?_
      refine w_cVU i6_reachFrom_88 f6_reach v6_reach (s6_reach (m := m) (by omega) (hlt (2 * e) (by omega)) hn1 hW) rfl rfl (by decide) rfl rfl (Nat.le_of_ble_eq_true rfl) (by omega) (fun I1 F1 hr => ?_)
      obtain ⟨hr1, hr2⟩ := hr
      have hf1 := hf.tr hr1
      obtain ⟨e1, e2, e3, e4, e5, een⟩ := hf1.fix hbb
      rw [hw60] at hr2
      refine w_aload i6_reachFrom_91 rfl ?_
      refine w_aload i6_reachFrom_92 rfl ?_
      refine w_iload i6_reachFrom_93 rfl ?_
      refine w_aload i6_reachFrom_95 rfl ?_
      refine w_iload i6_reachFrom_96 rfl ?_
      refine w_const i6_reachFrom_98 ?_
      refine w_cVP i6_reachFrom_99 f1_numberAfterStep v1_numberAfterStep (s1_numberAfterStep (N := N) (y := Y q) hB (by omega) hN2 (by rw [e3, hb0]; omega) (by rw [e3, hb0]; omega) (by rw [e4, hb1]; exact hn) (by rw [e3, hb0, e5]; exact hsrt) hYq.2.1 hYq.2.2 (by rw [e5]; exact hYq.1) (by omega) (Or.inr rfl) (by rw [e4, hb1, een]; exact fun i hi => hE e i ⟨by omega, by omega⟩ hi)) rfl hB.1 (by decide) rfl rfl (Nat.le_of_ble_eq_true rfl) (by omega) (fun v2 hv2 => ?_)
      rw [e3, hb0, e4, hb1, e5, een] at hv2
      have r2 : v2 = nx q ((2 * e + 1 : Nat) : Int) := hnx q _ v2 ⟨hq2.1, hq2.2.1⟩ (by omega) (by rw [c1']; unfold ng; simpa only [Int.neg_mul, Int.one_mul] using hv2)
      subst r2
      refine w_iload i6_reachFrom_102 rfl ?_
      refine w_cVU i6_reachFrom_104 f6_reach v6_reach (s6_reach (m := m) (by omega) (hlt (2 * e + 1) (by omega)) hm1 hr2) rfl rfl (by decide) rfl rfl (Nat.le_of_ble_eq_true rfl) (by omega) (fun I2 F2 hs => ?_)
      refine w_ii7 i6_reachFrom_107 (by omega) ?_
      refine w_goto i6_reachFrom_110 ?_
      rw [hw60] at hs
      rw [← g2] at hs
      exact ih (e + 1) _ I2 F2 (by omega) (hf1.tr hs.1) hs.2
    · have g2 : bnode nx act q (2 * (e + 1)) st0 = bnode nx act q (2 * e) st0 := by
        show bcode nx act q ((2 * e + 1 : Nat) : Int) (bcode nx act q ((2 * e : Nat) : Int) (bnode nx act q (2 * e) st0)) = _
        unfold bcode
        rw [show ((2 * e + 1 : Nat) : Int) / 2 = e by omega, show ((2 * e : Nat) : Int) / 2 = e by omega, if_neg (by rw [hae]; exact on), if_neg (by rw [hae]; exact on)]
      rw [← g2] at hW
      refine w_iload i6_reachFrom_45 rfl ?_
      refine w_aload i6_reachFrom_47 rfl ?_
      refine w_get i6_reachFrom_48 rfl rfl ?_
      refine w_icmpge i6_reachFrom_51 (fun h_ => absurd h_ (by omega)) (fun h51 => ?_)
      refine w_aload i6_reachFrom_54 rfl ?_
      refine w_iload i6_reachFrom_56 rfl ?_
      refine w_cVP i6_reachFrom_58 f5_isOn v5_isOn (s5_isOn (by omega) (by rw [e2]; exact ha)) rfl rfl (by decide) rfl rfl (Nat.le_of_ble_eq_true rfl) (by omega) (fun von hv => ?_)
      rw [e2] at hv
      have hv1 : von = 0 := hv.elim (fun z => absurd z.2 on) (fun z => z.1)
      refine w_ifeq i6_reachFrom_61 (fun h61 => ?_) (fun h_ => absurd h_ (by omega))
      refine w_ii7 i6_reachFrom_107 (by omega) ?_
      refine w_goto i6_reachFrom_110 ?_
      exact ih (e + 1) _ I' F' (by omega) hf hW
-- tail
theorem l6_rf {d n0 : Nat} {Q : PQ} {I : IE} {F : FE} {b N m k : Nat} {n start : Int} {Y : Int → Int → Int} {nx : Int → Int → Int} {act : Int → Int} {st0 : BS}
    (hd : 3 ≤ d) (hF : FbIs b N m n Y I F) (hk : I 42 0 = (k : Int)) (hk15 : k ≤ 15) (ha : 0 ≤ I 1 5 ∧ I 1 5 < 65536) (hact : ∀ e : Nat, e < k → act e = bt (I 1 5) e) (hE : ∀ e i, 0 ≤ e ∧ e < (k : Int) → 0 ≤ i ∧ i < n → -10 ≤ en F e i ∧ en F e i ≤ 10) (hnx : NxP b m n k Y F nx) (hlt : ∀ q c : Int, 0 ≤ q ∧ q < m → 0 ≤ c ∧ c < (2 * k : Nat) → nx q c < m) (hI : BI m st0)
    (K : ∀ x x6 x7 x8 I' F', Wfr I I' F F' → WR m (bfs nx act (2 * k) m st0) I' F' → WS m6_reachFrom d 0 0 n0 Q 0 0 119 [lr 58, li start, lr b, lr 42, lr 1, x, x6, x7, x8] [] shX I' F') :
    ∀ (w i : Nat) (x6 x7 x8 : Option AV) (I' : IE) (F' : FE), i + w = m → Wfr I I' F F' → WR m (bfs nx act (2 * k) i st0) I' F' → WS m6_reachFrom d 0 0 n0 Q 0 0 14 [lr 58, li start, lr b, lr 42, lr 1, li i, x6, x7, x8] [] shX I' F' := by
  have hbb := hF.1.2.2.2.2
  have hmN : m ≤ 2048 := by have := hF.2.1; have := hF.2.2.1; omega
  intro w
  induction w with
  | zero =>
    intro i x6 x7 x8 I' F' hw hf hW
    obtain rfl : i = m := by omega
    have hb := BI_bfs (act := act) hI hlt i
    have hl := hb.1
    have e2 := hW.2.1
    refine w_iload i6_reachFrom_14 rfl ?_
    refine w_aload i6_reachFrom_16 rfl ?_
    refine w_get i6_reachFrom_17 rfl rfl ?_
    refine w_icmpge i6_reachFrom_20 (fun h20 => ?_) (fun h_ => absurd h_ (by omega))
    exact K _ _ _ _ I' F' hf hW
  | succ w ih =>
    intro i x6 x7 x8 I' F' hw hf hW
    have hb := BI_bfs (act := act) hI hlt i
    have hl := hb.1
    have e2 := hW.2.1
    by_cases hc : i < (bfs nx act (2 * k) i st0).2.length
    · have e3 := hW.2.2 i hc
      have g : bfs nx act (2 * k) (i + 1) st0 = bnode nx act ((bfs nx act (2 * k) i st0).2.getD i 0) (2 * k) (bfs nx act (2 * k) i st0) := if_pos hc
      have hq := hb.2.1 i hc
      obtain ⟨e1', e2', e3', e4', e5', een⟩ := hf.fix hbb
      obtain ⟨hB, hN2, hmN', hb0, hb1, hn, hsrt, hY⟩ := hF
      refine w_iload i6_reachFrom_14 rfl ?_
      refine w_aload i6_reachFrom_16 rfl ?_
      refine w_get i6_reachFrom_17 rfl rfl ?_
      refine w_icmpge i6_reachFrom_20 (fun h_ => absurd h_ (by omega)) (fun h20 => ?_)
      refine w_iload i6_reachFrom_23 rfl ?_
      refine w_aload i6_reachFrom_25 rfl ?_
      refine w_getr i6_reachFrom_26 rfl rfl ?_
      refine w_alen i6_reachFrom_29 rfl (by decide) ?_
      refine w_icmpge i6_reachFrom_30 (fun h_ => absurd h_ (by omega)) (fun h30 => ?_)
      refine w_aload i6_reachFrom_33 rfl ?_
      refine w_getr i6_reachFrom_34 rfl rfl ?_
      refine w_iload i6_reachFrom_37 rfl ?_
      refine w_iald i6_reachFrom_39 rfl (by omega) ?_
      refine w_is6 i6_reachFrom_40 ?_
      refine w_const i6_reachFrom_42 ?_
      refine w_is7 i6_reachFrom_43 ?_
      rw [e3]
      refine l6_elem (p := i) (st0 := bfs nx act (2 * k) i st0) (nx := nx) (act := act) (m := m) (k := k) (n := n) (Y := Y) (by omega) ⟨hB, hN2, hmN', by rw [e3', hb0], by rw [e4', hb1], hn, by rw [e5']; exact hsrt, by rw [e5']; exact hY⟩ (by rw [e1', hk]) hk15 (by rw [e2']; exact ha) (by rw [e2']; exact hact) (by rw [een]; exact hE) (fun q c v h1 h2 h3 => hnx q c v h1 h2 (by rw [← e5', ← een]; exact h3)) (fun c hc => hlt _ c ⟨hq.1, hq.2.1⟩ (by omega)) hb hc rfl (fun x x8 I2 F2 h1 h2 => ?_) k 0 _ I' F' (by omega) Wfr.rf hW
      rw [← g] at h2
      refine w_ii5 i6_reachFrom_113 (by omega) ?_
      refine w_goto i6_reachFrom_116 ?_
      exact ih (i + 1) _ x x8 I2 F2 (by omega) (hf.tr h1) h2
    · have g := bfs_stop (nx := nx) (act := act) (k2 := 2 * k) (st := st0) (i := i) (by omega) (m - i)
      rw [show i + (m - i) = m by omega] at g
      refine w_iload i6_reachFrom_14 rfl ?_
      refine w_aload i6_reachFrom_16 rfl ?_
      refine w_get i6_reachFrom_17 rfl rfl ?_
      refine w_icmpge i6_reachFrom_20 (fun h20 => ?_) (fun h_ => absurd h_ (by omega))
      exact K _ _ _ _ I' F' hf (by rw [g]; exact hW)
theorem BI.nil {m : Nat} {D : Int → Int} : BI m (D, []) := ⟨Nat.zero_le _, fun i hi => absurd hi (Nat.not_lt_zero _), fun i j _ hj => absurd hj (Nat.not_lt_zero _)⟩
theorem s6_reachFrom {d : Nat} {I : IE} {F : FE} {b N m k : Nat} {n start : Int} {Y : Int → Int → Int} {nx : Int → Int → Int} {act D : Int → Int}
    (hd : 3 ≤ d) (hF : FbIs b N m n Y I F) (hk : I 42 0 = (k : Int)) (hk15 : k ≤ 15) (ha : 0 ≤ I 1 5 ∧ I 1 5 < 65536) (hact : ∀ e : Nat, e < k → act e = bt (I 1 5) e) (hE : ∀ e i, 0 ≤ e ∧ e < (k : Int) → 0 ≤ i ∧ i < n → -10 ≤ en F e i ∧ en F e i ≤ 10) (hnx : NxP b m n k Y F nx) (hlt : ∀ q c : Int, 0 ≤ q ∧ q < m → 0 ≤ c ∧ c < (2 * k : Nat) → nx q c < m) (hs : 0 ≤ start ∧ start < m) (hD : ∀ j : Int, 0 ≤ j ∧ j < m → F 60 j = D j) :
    MU m6_reachFrom d shX [rv 58, iv start, rv b, rv 42, rv 1] I F (fun I' F' => Wfr I I' F F' ∧ ∀ j : Int, 0 ≤ j ∧ j < m → F' 60 j = bfrom nx act (2 * k) m D start j) := by
  have hbb := hF.1.2.2.2.2
  have hmN : m ≤ 2048 := by have := hF.2.1; have := hF.2.2.1; omega
  refine MS_of (ls := [lr 58, li start, lr b, lr 42, lr 1, lu, lu, lu, lu]) f6_reachFrom rfl rfl (Nat.le_of_ble_eq_true rfl) ?_
  refine w_aload i6_reachFrom_0 rfl ?_
  refine w_const i6_reachFrom_1 ?_
  refine w_put i6_reachFrom_2 rfl rfl (Or.inl rfl) ?_
  refine w_aload i6_reachFrom_5 rfl ?_
  refine w_iload i6_reachFrom_6 rfl ?_
  refine w_const i6_reachFrom_7 ?_
  refine w_cVU i6_reachFrom_8 f6_reach v6_reach (s6_reach (m := m) (st := (D, [])) hmN hs.2 BI.nil ⟨hD, rfl, fun i hi => absurd hi (Nat.not_lt_zero _)⟩) rfl rfl (by decide) rfl rfl (Nat.le_of_ble_eq_true rfl) (by omega) (fun I1 F1 hr => ?_)
  obtain ⟨hr1, hr2⟩ := hr
  have hf1 : Wfr I I1 F F1 := ⟨fun a k ha => by rw [hr1.1 a k ha]; simp only [upI]; rw [if_neg (by omega)], hr1.2⟩
  obtain ⟨e1', e2', e3', e4', e5', een⟩ := hf1.fix hbb
  obtain ⟨hB, hN2, hmN', hb0, hb1, hn, hsrt, hY⟩ := hF
  refine w_const i6_reachFrom_11 ?_
  refine w_is5 i6_reachFrom_12 ?_
  refine l6_rf (nx := nx) (act := act) (m := m) (k := k) (n := n) (Y := Y) (st0 := rchp start 0 (D, [])) hd ⟨hB, hN2, hmN', by rw [e3', hb0], by rw [e4', hb1], hn, by rw [e5']; exact hsrt, by rw [e5']; exact hY⟩ (by rw [e1', hk]) hk15 (by rw [e2']; exact ha) (by rw [e2']; exact hact) (by rw [een]; exact hE) (fun q c v h1 h2 h3 => hnx q c v h1 h2 (by rw [← e5', ← een]; exact h3)) hlt (BI.nil.rch hs.2 ⟨Int.le_refl _, Int.le_refl _⟩).1 (fun x x6 x7 x8 I2 F2 h1 h2 => ?_) m 0 _ _ _ I1 F1 (by omega) Wfr.rf hr2
  refine w_vret i6_reachFrom_119 rfl ⟨Nat.le_refl _, Nat.le_refl _⟩ ?_
  exact ⟨rfl, rfl, hf1.tr h1, h2.1⟩
theorem s6_countSteps {d : Nat} {I : IE} {F : FE} {b N m k : Nat} {n s t : Int} {Y : Int → Int → Int} {nx : Int → Int → Int} {act : Int → Int}
    (hd : 4 ≤ d) (hF : FbIs b N m n Y I F) (hk : I 42 0 = (k : Int)) (hk15 : k ≤ 15) (ha : 0 ≤ I 1 5 ∧ I 1 5 < 65536) (hact : ∀ e : Nat, e < k → act e = bt (I 1 5) e) (hE : ∀ e i, 0 ≤ e ∧ e < (k : Int) → 0 ≤ i ∧ i < n → -10 ≤ en F e i ∧ en F e i ≤ 10) (hnx : NxP b m n k Y F nx) (hlt : ∀ q c : Int, 0 ≤ q ∧ q < m → 0 ≤ c ∧ c < (2 * k : Nat) → nx q c < m) :
    MB m6_countSteps d shX [rv 58, rv b, rv 42, rv 1, iv s, iv t] I F (fun v I' F' => Wfr I I' F F' ∧ v = if (0 ≤ s ∧ s < m) ∧ 0 ≤ t ∧ t < m then bfrom nx act (2 * k) m (fun _ => -1) s t else -1) := by
  have hbb := hF.1.2.2.2.2
  have hB := hF.1
  have hb0 := hF.2.2.2.1
  have hmN : m ≤ 2048 := by have := hF.2.1; have := hF.2.2.1; omega
  refine MS_of (ls := [lr 58, lr b, lr 42, lr 1, li s, li t]) f6_countSteps rfl rfl (Nat.le_of_ble_eq_true rfl) ?_
  by_cases hc : (0 ≤ s ∧ s < m) ∧ 0 ≤ t ∧ t < m
  · rw [if_pos hc]
    refine w_iload i6_countSteps_0 rfl ?_
    refine w_iflt i6_countSteps_2 (fun h_ => absurd h_ (by omega)) (fun h2 => ?_)
    refine w_iload i6_countSteps_5 rfl ?_
    refine w_aload i6_countSteps_7 rfl ?_
    refine w_get i6_countSteps_8 hB.1 rfl ?_
    refine w_icmpge i6_countSteps_11 (fun h_ => absurd h_ (by omega)) (fun h11 => ?_)
    refine w_iload i6_countSteps_14 rfl ?_
    refine w_iflt i6_countSteps_16 (fun h_ => absurd h_ (by omega)) (fun h16 => ?_)
    refine w_iload i6_countSteps_19 rfl ?_
    refine w_aload i6_countSteps_21 rfl ?_
    refine w_get i6_countSteps_22 hB.1 rfl ?_
    refine w_icmplt i6_countSteps_25 (fun h25 => ?_) (fun h_ => absurd h_ (by omega))
    refine w_aload i6_countSteps_30 rfl ?_
    refine w_aload i6_countSteps_31 rfl ?_
    refine w_cVU i6_countSteps_32 f6_forget v6_forget (s6_forget hB (by rw [hb0]; omega)) rfl rfl (by decide) rfl rfl (Nat.le_of_ble_eq_true rfl) (by omega) (fun I1 F1 hr => ?_)
    obtain ⟨eI, hr1, hr2⟩ := hr
    have hf1 : Wfr I I1 F F1 := ⟨fun a k _ => by rw [eI], fun a _ h => hr2 a h⟩
    obtain ⟨e1', e2', e3', e4', e5', een⟩ := hf1.fix hbb
    obtain ⟨-, hN2, hmN', -, hb1, hn, hsrt, hY⟩ := hF
    refine w_aload i6_countSteps_35 rfl ?_
    refine w_iload i6_countSteps_36 rfl ?_
    refine w_aload i6_countSteps_38 rfl ?_
    refine w_aload i6_countSteps_39 rfl ?_
    refine w_aload i6_countSteps_40 rfl ?_
    refine w_cVU i6_countSteps_41 f6_reachFrom v6_reachFrom (s6_reachFrom (nx := nx) (act := act) (m := m) (k := k) (n := n) (Y := Y) (D := fun _ => -1) (by omega) ⟨hB, hN2, hmN', by rw [e3', hb0], by rw [e4', hb1], hn, by rw [e5']; exact hsrt, by rw [e5']; exact hY⟩ (by rw [e1', hk]) hk15 (by rw [e2']; exact ha) (by rw [e2']; exact hact) (by rw [een]; exact hE) (fun q c v h1 h2 h3 => hnx q c v h1 h2 (by rw [← e5', ← een]; exact h3)) hlt hc.1 (fun j hj => hr1 j (by rw [hb0]; exact hj))) rfl rfl (by decide) rfl rfl (Nat.le_of_ble_eq_true rfl) (by omega) (fun I2 F2 hs => ?_)
    refine w_aload i6_countSteps_44 rfl ?_
    refine w_getr i6_countSteps_45 rfl rfl ?_
    refine w_iload i6_countSteps_48 rfl ?_
    refine w_iald i6_countSteps_50 rfl (by omega) ?_
    refine w_iret i6_countSteps_51 (Or.inl rfl) ⟨Nat.le_refl _, Nat.le_refl _⟩ ?_
    exact ⟨rfl, _, rfl, hf1.tr hs.1, hs.2 t hc.2⟩
  · rw [if_neg hc]
    refine w_iload i6_countSteps_0 rfl ?_
    refine w_iflt i6_countSteps_2 (fun h2 => ?_) (fun h2 => ?_)
    · refine w_const i6_countSteps_28 ?_
      refine w_iret i6_countSteps_29 (Or.inl rfl) ⟨Nat.le_refl _, Nat.le_refl _⟩ ?_
      exact ⟨rfl, _, rfl, Wfr.rf, rfl⟩
    · refine w_iload i6_countSteps_5 rfl ?_
      refine w_aload i6_countSteps_7 rfl ?_
      refine w_get i6_countSteps_8 hB.1 rfl ?_
      refine w_icmpge i6_countSteps_11 (fun h11 => ?_) (fun h11 => ?_)
      · refine w_const i6_countSteps_28 ?_
        refine w_iret i6_countSteps_29 (Or.inl rfl) ⟨Nat.le_refl _, Nat.le_refl _⟩ ?_
        exact ⟨rfl, _, rfl, Wfr.rf, rfl⟩
      · refine w_iload i6_countSteps_14 rfl ?_
        refine w_iflt i6_countSteps_16 (fun h16 => ?_) (fun h16 => ?_)
        · refine w_const i6_countSteps_28 ?_
          refine w_iret i6_countSteps_29 (Or.inl rfl) ⟨Nat.le_refl _, Nat.le_refl _⟩ ?_
          exact ⟨rfl, _, rfl, Wfr.rf, rfl⟩
        · refine w_iload i6_countSteps_19 rfl ?_
          refine w_aload i6_countSteps_21 rfl ?_
          refine w_get i6_countSteps_22 hB.1 rfl ?_
          refine w_icmplt i6_countSteps_25 (fun h_ => absurd h_ (by omega)) (fun h25 => ?_)
          refine w_const i6_countSteps_28 ?_
          refine w_iret i6_countSteps_29 (Or.inl rfl) ⟨Nat.le_refl _, Nat.le_refl _⟩ ?_
          exact ⟨rfl, _, rfl, Wfr.rf, rfl⟩
theorem l6_cc {d n0 : Nat} {Q : PQ} {I : IE} {F : FE} {b N m k : Nat} {n : Int} {Y : Int → Int → Int} {nx : Int → Int → Int} {act : Int → Int}
    (hd : 4 ≤ d) (hF : FbIs b N m n Y I F) (hk : I 42 0 = (k : Int)) (hk15 : k ≤ 15) (ha : 0 ≤ I 1 5 ∧ I 1 5 < 65536) (hact : ∀ e : Nat, e < k → act e = bt (I 1 5) e) (hE : ∀ e i, 0 ≤ e ∧ e < (k : Int) → 0 ≤ i ∧ i < n → -10 ≤ en F e i ∧ en F e i ≤ 10) (hnx : NxP b m n k Y F nx) (hlt : ∀ q c : Int, 0 ≤ q ∧ q < m → 0 ≤ c ∧ c < (2 * k : Nat) → nx q c < m)
    (K : ∀ x I' F', Wfr I I' F F' → WS m6_countClasses d 0 0 n0 Q 0 0 48 [lr 58, lr b, lr 42, lr 1, li (bcls nx act (2 * k) m m).1, x] [] shX I' F') :
    ∀ (w j : Nat) (I' : IE) (F' : FE), j + w = m → Wfr I I' F F' → (bcls nx act (2 * k) m j).1 ≤ j → 0 ≤ (bcls nx act (2 * k) m j).1 → (∀ i : Int, 0 ≤ i ∧ i < m → F' 60 i = (bcls nx act (2 * k) m j).2 i) → WS m6_countClasses d 0 0 n0 Q 0 0 11 [lr 58, lr b, lr 42, lr 1, li (bcls nx act (2 * k) m j).1, li j] [] shX I' F' := by
  have hbb := hF.1.2.2.2.2
  have hB := hF.1
  have hb0 := hF.2.2.2.1
  have hmN : m ≤ 2048 := by have := hF.2.1; have := hF.2.2.1; omega
  intro w
  induction w with
  | zero =>
    intro j I' F' hw hf _ _ hW
    obtain rfl : j = m := by omega
    have e3 : I' b 0 = j := by rw [hf.1 b 0 (by omega), hb0]
    refine w_iload i6_countClasses_11 rfl ?_
    refine w_aload i6_countClasses_13 rfl ?_
    refine w_get i6_countClasses_14 hB.1 rfl ?_
    refine w_icmpge i6_countClasses_17 (fun h17 => ?_) (fun h_ => absurd h_ (by omega))
    exact K _ I' F' hf
  | succ w ih =>
    intro j I' F' hw hf hl1 hl2 hW
    obtain ⟨e1', e2', e3', e4', e5', een⟩ := hf.fix hbb
    have e6 := hW j ⟨by omega, by omega⟩
    by_cases hc : (bcls nx act (2 * k) m j).2 j < 0
    · have g : bcls nx act (2 * k) m (j + 1) = ((bcls nx act (2 * k) m j).1 + 1, bfrom nx act (2 * k) m (bcls nx act (2 * k) m j).2 j) := if_pos hc
      obtain ⟨-, hN2, hmN', -, hb1, hn, hsrt, hY⟩ := hF
      refine w_iload i6_countClasses_11 rfl ?_
      refine w_aload i6_countClasses_13 rfl ?_
      refine w_get i6_countClasses_14 hB.1 rfl ?_
      refine w_icmpge i6_countClasses_17 (fun h_ => absurd h_ (by omega)) (fun h17 => ?_)
      refine w_aload i6_countClasses_20 rfl ?_
      refine w_getr i6_countClasses_21 rfl rfl ?_
      refine w_iload i6_countClasses_24 rfl ?_
      refine w_iald i6_countClasses_26 rfl (by omega) ?_
      refine w_ifge i6_countClasses_27 (fun h_ => absurd h_ (by omega)) (fun h27 => ?_)
      refine w_ii4 i6_countClasses_30 (by omega) ?_
      refine w_aload i6_countClasses_33 rfl ?_
      refine w_iload i6_countClasses_34 rfl ?_
      refine w_aload i6_countClasses_36 rfl ?_
      refine w_aload i6_countClasses_37 rfl ?_
      refine w_aload i6_countClasses_38 rfl ?_
      refine w_cVU i6_countClasses_39 f6_reachFrom v6_reachFrom (s6_reachFrom (nx := nx) (act := act) (m := m) (k := k) (n := n) (Y := Y) (D := (bcls nx act (2 * k) m j).2) (by omega) ⟨hB, hN2, hmN', by rw [e3', hb0], by rw [e4', hb1], hn, by rw [e5']; exact hsrt, by rw [e5']; exact hY⟩ (by rw [e1', hk]) hk15 (by rw [e2']; exact ha) (by rw [e2']; exact hact) (by rw [een]; exact hE) (fun q c v h1 h2 h3 => hnx q c v h1 h2 (by rw [← e5', ← een]; exact h3)) hlt ⟨by omega, by omega⟩ hW) rfl rfl (by decide) rfl rfl (Nat.le_of_ble_eq_true rfl) (by omega) (fun I2 F2 hs => ?_)
      refine w_ii5 i6_countClasses_42 (by omega) ?_
      refine w_goto i6_countClasses_45 ?_
      have h := ih (j + 1) I2 F2 (by omega) (hf.tr hs.1)
      rw [g] at h
      exact h (by simp only; omega) (by simp only; omega) hs.2
    · have g : bcls nx act (2 * k) m (j + 1) = bcls nx act (2 * k) m j := if_neg hc
      refine w_iload i6_countClasses_11 rfl ?_
      refine w_aload i6_countClasses_13 rfl ?_
      refine w_get i6_countClasses_14 hB.1 rfl ?_
      refine w_icmpge i6_countClasses_17 (fun h_ => absurd h_ (by omega)) (fun h17 => ?_)
      refine w_aload i6_countClasses_20 rfl ?_
      refine w_getr i6_countClasses_21 rfl rfl ?_
      refine w_iload i6_countClasses_24 rfl ?_
      refine w_iald i6_countClasses_26 rfl (by omega) ?_
      refine w_ifge i6_countClasses_27 (fun h27 => ?_) (fun h_ => absurd h_ (by omega))
      refine w_ii5 i6_countClasses_42 (by omega) ?_
      refine w_goto i6_countClasses_45 ?_
      have h := ih (j + 1) I' F' (by omega) hf
      rw [g] at h
      exact h (by omega) hl2 hW
theorem s6_countClasses {d : Nat} {I : IE} {F : FE} {b N m k : Nat} {n : Int} {Y : Int → Int → Int} {nx : Int → Int → Int} {act : Int → Int}
    (hd : 4 ≤ d) (hF : FbIs b N m n Y I F) (hk : I 42 0 = (k : Int)) (hk15 : k ≤ 15) (ha : 0 ≤ I 1 5 ∧ I 1 5 < 65536) (hact : ∀ e : Nat, e < k → act e = bt (I 1 5) e) (hE : ∀ e i, 0 ≤ e ∧ e < (k : Int) → 0 ≤ i ∧ i < n → -10 ≤ en F e i ∧ en F e i ≤ 10) (hnx : NxP b m n k Y F nx) (hlt : ∀ q c : Int, 0 ≤ q ∧ q < m → 0 ≤ c ∧ c < (2 * k : Nat) → nx q c < m) :
    MB m6_countClasses d shX [rv 58, rv b, rv 42, rv 1] I F (fun v I' F' => Wfr I I' F F' ∧ v = (bcls nx act (2 * k) m m).1) := by
  have hB := hF.1
  have hb0 := hF.2.2.2.1
  have hbb := hF.1.2.2.2.2
  have hmN : m ≤ 2048 := by have := hF.2.1; have := hF.2.2.1; omega
  refine MS_of (ls := [lr 58, lr b, lr 42, lr 1, lu, lu]) f6_countClasses rfl rfl (Nat.le_of_ble_eq_true rfl) ?_
  refine w_aload i6_countClasses_0 rfl ?_
  refine w_aload i6_countClasses_1 rfl ?_
  refine w_cVU i6_countClasses_2 f6_forget v6_forget (s6_forget hB (by rw [hb0]; omega)) rfl rfl (by decide) rfl rfl (Nat.le_of_ble_eq_true rfl) (by omega) (fun I1 F1 hr => ?_)
  obtain ⟨eI, hr1, hr2⟩ := hr
  have hf1 : Wfr I I1 F F1 := ⟨fun a k _ => by rw [eI], fun a _ h => hr2 a h⟩
  refine w_const i6_countClasses_5 ?_
  refine w_is4 i6_countClasses_6 ?_
  refine w_const i6_countClasses_8 ?_
  refine w_is5 i6_countClasses_9 ?_
  refine l6_cc hd hF hk hk15 ha hact hE hnx hlt (fun x I2 F2 h => ?_) m 0 I1 F1 (by omega) hf1 (Int.le_refl _) (Int.le_refl _) (fun j hj => hr1 j (by rw [hb0]; exact hj))
  refine w_iload i6_countClasses_48 rfl ?_
  refine w_iret i6_countClasses_50 (Or.inl rfl) ⟨Nat.le_refl _, Nat.le_refl _⟩ ?_
  exact ⟨rfl, _, rfl, h, rfl⟩
