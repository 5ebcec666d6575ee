/-- a search through numbered things: the distances (below 0: not reached), and those reached in their order -/
abbrev BS : Type := (Int → Int) × List Int
def rchp (num d : Int) (st : BS) : BS := if 0 ≤ num ∧ st.1 num < 0 then (fun j => if j = num then d else st.1 j, st.2 ++ [num]) else st
def bcode (nx : Int → Int → Int) (act : Int → Int) (q c : Int) (st : BS) : BS := if act (c / 2) = 1 then rchp (nx q c) (st.1 q + 1) st else st
def bnode (nx : Int → Int → Int) (act : Int → Int) (q : Int) : Nat → BS → BS
  | 0, st => st
  | c + 1, st => bcode nx act q c (bnode nx act q c st)
def bfs (nx : Int → Int → Int) (act : Int → Int) (k2 : Nat) : Nat → BS → BS
  | 0, st => st
  | i + 1, st => if i < (bfs nx act k2 i st).2.length then bnode nx act ((bfs nx act k2 i st).2.getD i 0) k2 (bfs nx act k2 i st) else bfs nx act k2 i st
/-- all that a search reaches from one -/
def bfrom (nx : Int → Int → Int) (act : Int → Int) (k2 m : Nat) (D : Int → Int) (start : Int) : Int → Int := (bfs nx act k2 m (rchp start 0 (D, []))).1
/-- the classes: how many, and the distances behind the first j -/
def bcls (nx : Int → Int → Int) (act : Int → Int) (k2 m : Nat) : Nat → Int × (Int → Int)
  | 0 => (0, fun _ => -1)
  | j + 1 => if (bcls nx act k2 m j).2 j < 0 then ((bcls nx act k2 m j).1 + 1, bfrom nx act k2 m (bcls nx act k2 m j).2 j) else bcls nx act k2 m j
theorem php : ∀ (m k : Nat) (f : Nat → Nat), (∀ i, i < k → f i < m) → (∀ i j, i < j → j < k → f i ≠ f j) → k ≤ m
  | 0, k, f, h1, _ => by
    by_cases hk : k = 0
    · omega
    · have := h1 0 (by omega); omega
  | m + 1, 0, f, _, _ => by omega
  | m + 1, k + 1, f, h1, h2 => by
    have := php m k (fun i => if f i = m then f k else f i) (fun i hi => by
      have a := h1 i (by omega); have b := h1 k (by omega); have c := h2 i k hi (by omega)
      split <;> omega) (fun i j hij hj => by
      have a := h2 i j hij (by omega); have b := h2 i k (by omega) (by omega); have c := h2 j k hj (by omega)
      (repeat' split) <;> omega)
    omega
/-- what holds of a search among m -/
def BI (m : Nat) (st : BS) : Prop := st.2.length ≤ m ∧ (∀ i : Nat, i < st.2.length → 0 ≤ st.2.getD i 0 ∧ st.2.getD i 0 < m ∧ 0 ≤ st.1 (st.2.getD i 0) ∧ st.1 (st.2.getD i 0) ≤ i) ∧ ∀ i j : Nat, i < j → j < st.2.length → st.2.getD i 0 ≠ st.2.getD j 0
theorem getD_app {L : List Int} {x : Int} {i : Nat} (h : i < L.length) : (L ++ [x]).getD i 0 = L.getD i 0 := by
  simp [List.getD_eq_getElem?_getD, List.getElem?_append_left h]
theorem getD_app2 {L : List Int} {x : Int} : (L ++ [x]).getD L.length 0 = x := by
  simp [List.getD_eq_getElem?_getD]
theorem BI.room {m : Nat} {st : BS} {num : Int} (h : BI m st) (hn : 0 ≤ num ∧ num < m) (hu : st.1 num < 0) : st.2.length + 1 ≤ m := by
  refine php m (st.2.length + 1) (fun i => ((st.2 ++ [num]).getD i 0).toNat) (fun i hi => ?_) (fun i j hij hj => ?_)
  · by_cases e : i < st.2.length
    · have := h.2.1 i e
      simp only [getD_app e]
      omega
    · obtain rfl : i = st.2.length := by omega
      simp only [getD_app2]
      omega
  · have hi := h.2.1 i (by omega)
    by_cases e : j < st.2.length
    · have h2 := h.2.1 j e
      have h3 := h.2.2 i j hij e
      simp only [getD_app e, getD_app (show i < st.2.length by omega)]
      omega
    · obtain rfl : j = st.2.length := by omega
      simp only [getD_app2, getD_app hij]
      intro z
      have : st.2.getD i 0 = num := by omega
      rw [this] at hi
      omega
theorem BI.rch {m : Nat} {st : BS} {num d : Int} (h : BI m st) (hn : num < m) (hd : 0 ≤ d ∧ d ≤ st.2.length) : BI m (rchp num d st) ∧ st.2.length ≤ (rchp num d st).2.length ∧ (∀ i : Nat, i < st.2.length → (rchp num d st).2.getD i 0 = st.2.getD i 0) ∧ ∀ j, 0 ≤ st.1 j → (rchp num d st).1 j = st.1 j := by
  unfold rchp
  by_cases hc : 0 ≤ num ∧ st.1 num < 0
  · rw [if_pos hc]
    have hr := h.room ⟨hc.1, hn⟩ hc.2
    refine ⟨⟨by simp only [List.length_append, List.length_singleton]; exact hr, fun i hi => ?_, fun i j hij hj => ?_⟩, by simp, fun i hi => getD_app hi, fun j hj => ?_⟩
    · simp only [List.length_append, List.length_singleton] at hi
      by_cases e : i < st.2.length
      · have := h.2.1 i e
        simp only [getD_app e]
        rw [if_neg (fun z => by rw [z] at this; omega)]
        exact this
      · obtain rfl : i = st.2.length := by omega
        simp only [getD_app2, if_true]
        omega
    · simp only [List.length_append, List.length_singleton] at hj
      have hi := h.2.1 i (by omega)
      by_cases e : j < st.2.length
      · simp only [getD_app e, getD_app (show i < st.2.length by omega)]
        exact h.2.2 i j hij e
      · obtain rfl : j = st.2.length := by omega
        simp only [getD_app2, getD_app hij]
        intro z
        rw [z] at hi
        omega
    · simp only
      rw [if_neg (fun z => by rw [z] at hj; omega)]
  · rw [if_neg hc]
    exact ⟨h, Nat.le_refl _, fun _ _ => rfl, fun _ _ => rfl⟩
theorem BI.code {m : Nat} {nx : Int → Int → Int} {act : Int → Int} {q c : Int} {st : BS} {p : Nat} (h : BI m st) (hp : p < st.2.length) (hq : st.2.getD p 0 = q) (hnx : nx q c < m) : BI m (bcode nx act q c st) ∧ st.2.length ≤ (bcode nx act q c st).2.length ∧ (∀ i : Nat, i < st.2.length → (bcode nx act q c st).2.getD i 0 = st.2.getD i 0) ∧ ∀ j, 0 ≤ st.1 j → (bcode nx act q c st).1 j = st.1 j := by
  unfold bcode
  split
  · have := h.2.1 p hp
    rw [hq] at this
    exact h.rch hnx (by omega)
  · exact ⟨h, Nat.le_refl _, fun _ _ => rfl, fun _ _ => rfl⟩
theorem BI.node {m : Nat} {nx : Int → Int → Int} {act : Int → Int} {q : Int} {st : BS} {p : Nat} (h : BI m st) (hp : p < st.2.length) (hq : st.2.getD p 0 = q) : ∀ k : Nat, (∀ c : Nat, c < k → nx q c < m) → BI m (bnode nx act q k st) ∧ st.2.length ≤ (bnode nx act q k st).2.length ∧ (∀ i : Nat, i < st.2.length → (bnode nx act q k st).2.getD i 0 = st.2.getD i 0) ∧ ∀ j, 0 ≤ st.1 j → (bnode nx act q k st).1 j = st.1 j
  | 0, _ => ⟨h, Nat.le_refl _, fun _ _ => rfl, fun _ _ => rfl⟩
  | k + 1, hnx => by
    obtain ⟨h1, h2, h3, h4⟩ := BI.node (act := act) h hp hq k (fun c hc => hnx c (by omega))
    obtain ⟨g1, g2, g3, g4⟩ := BI.code (act := act) (c := k) h1 (p := p) (by omega) (by rw [h3 p hp]; exact hq) (hnx k (by omega))
    refine ⟨g1, Nat.le_trans h2 g2, fun i hi => ?_, fun j hj => ?_⟩
    · show (bcode nx act q k (bnode nx act q k st)).2.getD i 0 = _
      rw [g3 i (by omega), h3 i hi]
    · show (bcode nx act q k (bnode nx act q k st)).1 j = _
      rw [g4 j (by rw [h4 j hj]; exact hj), h4 j hj]
theorem BI_bfs {m : Nat} {nx : Int → Int → Int} {act : Int → Int} {k2 : Nat} {st : BS} (h : BI m st) (hnx : ∀ q c : Int, 0 ≤ q ∧ q < m → 0 ≤ c ∧ c < k2 → nx q c < m) : ∀ i : Nat, BI m (bfs nx act k2 i st)
  | 0 => h
  | i + 1 => by
    have ih := BI_bfs (act := act) h hnx i
    rw [show bfs nx act k2 (i + 1) st = if i < (bfs nx act k2 i st).2.length then bnode nx act ((bfs nx act k2 i st).2.getD i 0) k2 (bfs nx act k2 i st) else bfs nx act k2 i st from rfl]
    split
    · rename_i hi
      have := ih.2.1 i hi
      exact (ih.node hi rfl k2 (fun c hc => hnx _ _ ⟨this.1, this.2.1⟩ (by omega))).1
    · exact ih
/-- once the queue is through nothing changes -/
theorem bfs_stop {nx : Int → Int → Int} {act : Int → Int} {k2 : Nat} {st : BS} {i : Nat} (h : (bfs nx act k2 i st).2.length ≤ i) : ∀ k, bfs nx act k2 (i + k) st = bfs nx act k2 i st
  | 0 => rfl
  | k + 1 => by
    have ih := bfs_stop h k
    show (if i + k < (bfs nx act k2 (i + k) st).2.length then _ else _) = _
    rw [if_neg (by rw [ih]; omega)]
    exact ih
-- the walk: place 58: 0 queue (59), 1 steps (60), 2 queued
def WR (m : Nat) (st : BS) (I : IE) (F : FE) : Prop := (∀ j : Int, 0 ≤ j ∧ j < m → F 60 j = st.1 j) ∧ I 58 2 = st.2.length ∧ ∀ i : Nat, i < st.2.length → F 59 i = st.2.getD i 0
def Wfr (I I' : IE) (F F' : FE) : Prop := (∀ a k, (a ≠ 58 ∨ k ≠ 2) → I' a k = I a k) ∧ ∀ a, a ≠ 59 → a ≠ 60 → F' a = F a
theorem Wfr.rf {I : IE} {F : FE} : Wfr I I F F := ⟨fun _ _ _ => rfl, fun _ _ _ => rfl⟩
theorem Wfr.tr {I I1 I2 : IE} {F F1 F2 : FE} (h : Wfr I I1 F F1) (g : Wfr I1 I2 F1 F2) : Wfr I I2 F F2 := ⟨fun a k ha => (g.1 a k ha).trans (h.1 a k ha), fun a h1 h2 => (g.2 a h1 h2).trans (h.2 a h1 h2)⟩
theorem s6_reach {d : Nat} {I : IE} {F : FE} {m : Nat} {st : BS} {num x : Int} (hm : m ≤ 2048) (hnum : num < m) (hI : BI m st) (hW : WR m st I F) : MU m6_reach d shX [rv 58, iv num, iv x] I F (fun I' F' => Wfr I I' F F' ∧ WR m (rchp num x st) I' F') := by
  obtain ⟨w1, w2, w3⟩ := hW
  refine MS_of (ls := [lr 58, li num, li x]) f6_reach rfl rfl (Nat.le_of_ble_eq_true rfl) ?_
  by_cases hc : 0 ≤ num ∧ st.1 num < 0
  · have hr := hI.room ⟨hc.1, hnum⟩ hc.2
    have e := w1 num ⟨hc.1, hnum⟩
    have er : rchp num x st = (fun j => if j = num then x else st.1 j, st.2 ++ [num]) := if_pos hc
    refine w_iload i6_reach_0 rfl ?_
    refine w_iflt i6_reach_1 (fun h_ => absurd h_ (by omega)) (fun h1 => ?_)
    refine w_iload i6_reach_4 rfl ?_
    refine w_aload i6_reach_5 rfl ?_
    refine w_getr i6_reach_6 rfl rfl ?_
    refine w_alen i6_reach_9 rfl (by decide) ?_
    refine w_icmpge i6_reach_10 (fun h_ => absurd h_ (by omega)) (fun h10 => ?_)
    refine w_aload i6_reach_13 rfl ?_
    refine w_getr i6_reach_14 rfl rfl ?_
    refine w_iload i6_reach_17 rfl ?_
    refine w_iald i6_reach_18 rfl (by omega) ?_
    refine w_ifge i6_reach_19 (fun h_ => absurd h_ (by omega)) (fun h19 => ?_)
    refine w_aload i6_reach_22 rfl ?_
    refine w_get i6_reach_23 rfl rfl ?_
    refine w_aload i6_reach_26 rfl ?_
    refine w_getr i6_reach_27 rfl rfl ?_
    refine w_alen i6_reach_30 rfl (by decide) ?_
    refine w_icmpge i6_reach_31 (fun h_ => absurd h_ (by omega)) (fun h31 => ?_)
    refine w_aload i6_reach_34 rfl ?_
    refine w_getr i6_reach_35 rfl rfl ?_
    refine w_iload i6_reach_38 rfl ?_
    refine w_iload i6_reach_39 rfl ?_
    refine w_iast i6_reach_40 rfl (by omega) ?_
    refine w_aload i6_reach_41 rfl ?_
    refine w_getr i6_reach_42 rfl rfl ?_
    refine w_aload i6_reach_45 rfl ?_
    refine w_get i6_reach_46 rfl rfl ?_
    refine w_iload i6_reach_49 rfl ?_
    refine w_iast i6_reach_50 rfl (by omega) ?_
    refine w_aload i6_reach_51 rfl ?_
    refine w_dup i6_reach_52 ?_
    refine w_get i6_reach_53 rfl rfl ?_
    refine w_const i6_reach_56 ?_
    refine w_iadd i6_reach_57 (by omega) ?_
    refine w_put i6_reach_58 rfl rfl (Or.inl rfl) ?_
    refine w_vret i6_reach_61 rfl ⟨Nat.le_refl _, Nat.le_refl _⟩ ?_
    refine ⟨rfl, rfl, ⟨fun a k ha => by simp only [upI]; rw [if_neg (by omega)], fun a h1 h2 => by funext i; simp only [upF, h1, h2, false_and, if_false]⟩, ?_⟩
    rw [er]
    refine ⟨fun j hj => ?_, by simp [upI, w2], fun i hi => ?_⟩
    · simp only [upF, true_and]
      rw [if_neg (by omega)]
      split
      · rfl
      · exact w1 j hj
    · simp only [List.length_append, List.length_singleton] at hi
      simp only [upF, true_and]
      by_cases e : i < st.2.length
      · rw [if_neg (by omega), getD_app e, if_neg (by omega)]; exact w3 i e
      · obtain rfl : i = st.2.length := by omega
        rw [if_pos w2.symm, getD_app2]
  · have er : rchp num x st = st := if_neg hc
    have hno : num < 0 ∨ 0 ≤ st.1 num := by omega
    refine w_iload i6_reach_0 rfl ?_
    refine w_iflt i6_reach_1 (fun h1 => ?_) (fun h1 => ?_)
    · refine w_vret i6_reach_61 rfl ⟨Nat.le_refl _, Nat.le_refl _⟩ ?_
      refine ⟨rfl, rfl, Wfr.rf, ?_⟩
      rw [er]
      exact ⟨w1, w2, w3⟩
    · refine w_iload i6_reach_4 rfl ?_
      refine w_aload i6_reach_5 rfl ?_
      refine w_getr i6_reach_6 rfl rfl ?_
      refine w_alen i6_reach_9 rfl (by decide) ?_
      refine w_icmpge i6_reach_10 (fun h_ => absurd h_ (by omega)) (fun h10 => ?_)
      refine w_aload i6_reach_13 rfl ?_
      refine w_getr i6_reach_14 rfl rfl ?_
      refine w_iload i6_reach_17 rfl ?_
      refine w_iald i6_reach_18 rfl (by omega) ?_
      refine w_ifge i6_reach_19 (fun h19 => ?_) (fun h_ => absurd h_ (by have e := w1 num ⟨by omega, hnum⟩; omega))
      refine w_vret i6_reach_61 rfl ⟨Nat.le_refl _, Nat.le_refl _⟩ ?_
      refine ⟨rfl, rfl, Wfr.rf, ?_⟩
      rw [er]
      exact ⟨w1, w2, w3⟩
theorem l6_forget {d n0 : Nat} {Q : PQ} {I : IE} {F : FE} {b N : Nat} (hB : FbAt b N) (hm : 0 ≤ I b 0 ∧ I b 0 ≤ 2048)
    (K : ∀ F', (∀ j, 0 ≤ j ∧ j < I b 0 → F' 60 j = -1) → (∀ a, a ≠ 60 → F' a = F a) → WS m6_forget d 0 0 n0 Q 0 0 23 [lr 58, lr b, li (I b 0)] [] shX I F') :
    ∀ (m k : Nat) (F' : FE), (k + m : Int) = I b 0 → (∀ j, 0 ≤ j ∧ j < (k : Int) → F' 60 j = -1) → (∀ a, a ≠ 60 → F' a = F a) → WS m6_forget d 0 0 n0 Q 0 0 2 [lr 58, lr b, li k] [] shX I F' := by
  intro m
  induction m with
  | zero =>
    intro k F' hk h1 h2
    have ek : (k : Int) = I b 0 := by omega
    rw [ek] at h1 ⊢
    refine w_iload i6_forget_2 rfl ?_
    refine w_aload i6_forget_3 rfl ?_
    refine w_get i6_forget_4 hB.1 rfl ?_
    refine w_icmpge i6_forget_7 (fun h7 => ?_) (fun h_ => absurd h_ (by omega))
    exact K F' h1 h2
  | succ m ih =>
    intro k F' hk h1 h2
    refine w_iload i6_forget_2 rfl ?_
    refine w_aload i6_forget_3 rfl ?_
    refine w_get i6_forget_4 hB.1 rfl ?_
    refine w_icmpge i6_forget_7 (fun h_ => absurd h_ (by omega)) (fun h7 => ?_)
    refine w_aload i6_forget_10 rfl ?_
    refine w_getr i6_forget_11 rfl rfl ?_
    refine w_iload i6_forget_14 rfl ?_
    refine w_const i6_forget_15 ?_
    refine w_iast i6_forget_16 rfl (by omega) ?_
    refine w_ii2 i6_forget_17 (by omega) ?_
    refine w_goto i6_forget_20 ?_
    refine ih (k + 1) _ (by omega) (fun j hj => ?_) (fun a ha => ?_)
    · simp only [upF, true_and]
      split
      · rfl
      · exact h1 j (by omega)
    · funext i
      simp only [upF, ha, false_and, if_false]
      rw [h2 a ha]
theorem s6_forget {d : Nat} {I : IE} {F : FE} {b N : Nat} (hB : FbAt b N) (hm : 0 ≤ I b 0 ∧ I b 0 ≤ 2048) : MU m6_forget d shX [rv 58, rv b] I F (fun I' F' => I' = I ∧ (∀ j, 0 ≤ j ∧ j < I b 0 → F' 60 j = -1) ∧ ∀ a, a ≠ 60 → F' a = F a) := by
  refine MS_of (ls := [lr 58, lr b, lu]) f6_forget rfl rfl (Nat.le_of_ble_eq_true rfl) ?_
  refine w_const i6_forget_0 ?_
  refine w_is2 i6_forget_1 ?_
  refine l6_forget (F := F) hB hm (fun F' h1 h2 => ?_) (I b 0).toNat 0 _ (by omega) (fun j hj => absurd hj (by omega)) (fun _ _ => rfl)
  refine w_vret i6_forget_23 rfl ⟨Nat.le_refl _, Nat.le_refl _⟩ ?_
  exact ⟨rfl, rfl, rfl, h1, h2⟩
/-- a fiber as it stands, with its rows Y -/
def FbIs (b N m : Nat) (n : Int) (Y : Int → Int → Int) (I : IE) (F : FE) : Prop := FbAt b N ∧ (N = 2048 ∨ N = 32) ∧ m ≤ N ∧ I b 0 = m ∧ I b 1 = n ∧ (2 ≤ n ∧ n ≤ 4) ∧ (∀ i j, 0 ≤ i ∧ i < j ∧ j < (m : Int) → F (b + 3) i < F (b + 3) j) ∧ ∀ i, 0 ≤ i ∧ i < (m : Int) → F (b + 3) i = cd4 (Y i) ∧ b127 (Y i) ∧ ∀ j, 0 ≤ j ∧ j < 4 → Y i j ≤ 110
/-- the steps of the elements among the rows -/
def NxP (b m : Nat) (n : Int) (k : Nat) (Y : Int → Int → Int) (F : FE) (nx : Int → Int → Int) : Prop := ∀ q c v : Int, 0 ≤ q ∧ q < m → 0 ≤ c ∧ c < 2 * k → NasP (F (b + 3)) m n (fun i => Y q (i + (4 - n)) + cvec (en F) c i) v → v = nx q c
theorem NasP.lt {f v : Int → Int} {m n r : Int} (hm : 0 ≤ m) (h : NasP f m n v r) : -1 ≤ r ∧ r < m ∨ m = 0 ∧ r = -1 := by
  rcases h with ⟨h, -⟩ | ⟨-, ⟨h1, h2, -⟩ | ⟨h, -⟩⟩ <;> omega
theorem l6_elem {d n0 : Nat} {Q : PQ} {I : IE} {F : FE} {b N m k : Nat} {n start i : Int} {Y : Int → Int → Int} {nx : Int → Int → Int} {act : Int → Int} {p : Nat} {q : Int} {st0 : BS}
    (hd : 2 ≤ d) (hF : FbIs b N m n Y I F) (hk : I 42 0 = (k : Int)) (hk15 : k ≤ 15) (ha : 0 ≤ I 1 5 ∧ I 1 5 < 65536) (hact : ∀ e : Nat, e < k → act e = bt (I 1 5) e) (hE : ∀ e i, 0 ≤ e ∧ e < (k : Int) → 0 ≤ i ∧ i < n → -10 ≤ en F e i ∧ en F e i ≤ 10) (hnx : NxP b m n k Y F nx) (hI : BI m st0) (hp : p < st0.2.length) (hq : st0.2.getD p 0 = q)
    (K : ∀ x x8 I' F', Wfr I I' F F' → WR m (bnode nx act q (2 * k) st0) I' F' → WS m6_reachFrom d 0 0 n0 Q 0 0 113 [lr 58, li start, lr b, lr 42, lr 1, li i, li q, x, x8] [] shX I' F') :
    ∀ (w e : Nat) (x8 : Option AV) (I' : IE) (F' : FE), e + w = k → Wfr I I' F F' → WR m (bnode nx act q (2 * e) st0) I' F' → WS m6_reachFrom d 0 0 n0 Q 0 0 45 [lr 58, li start, lr b, lr 42, lr 1, li i, li q, li e, x8] [] shX I' F' := by
  obtain ⟨hB, hN2, hmN, hb0, hb1, hn, hsrt, hY⟩ := hF
  have hq2 := hI.2.1 p hp
  rw [hq] at hq2
  intro w
  induction w with
  | zero =>
    intro e x8 I' F' hw hf hW
    obtain rfl : e = k := by omega
    have e1 : I' 42 0 = I 42 0 := hf.1 42 0 (by omega)
    refine w_iload i6_reachFrom_45 rfl ?_
    refine w_aload i6_reachFrom_47 rfl ?_
    refine w_get i6_reachFrom_48 rfl rfl ?_
    refine w_icmpge i6_reachFrom_51 (fun h51 => ?_) (fun h_ => absurd h_ (by omega))
    exact K _ _ I' F' hf hW
  | succ w ih =>
    intro e x8 I' F' hw hf hW
    have hbb := hB.2.2.2.2
    have e1 : I' 42 0 = I 42 0 := hf.1 42 0 (by omega)
    have e2 : I' 1 5 = I 1 5 := hf.1 1 5 (by omega)
    have e3 : I' b 0 = I b 0 := hf.1 b 0 (by omega)
    have e4 : I' b 1 = I b 1 := hf.1 b 1 (by omega)
    have e5 : F' (b + 3) = F (b + 3) := by
      by_cases h59 : b + 3 = 59
      · omega
      · by_cases h60 : b + 3 = 60
        · omega
        · exact hf.2 _ h59 h60
    have e6 : F' 43 = F 43 := hf.2 43 (by decide) (by decide)
    have een : en F' = en F := by funext a j; unfold en; rw [e6]
    have hnxb : ∀ c : Int, 0 ≤ c ∧ c < 2 * k → ∀ v, NasP (F (b + 3)) m n (fun i => Y q (i + (4 - n)) + cvec (en F) c i) v → v = nx q c := fun c hc v hv => hnx q c v ⟨hq2.1, hq2.2.1⟩ hc hv
    sorry
