-- what a search reaches: all of it may be reached, and it is closed under steps
def InL (st : BS) : Prop := ∀ j, 0 ≤ st.1 j → ∃ i, i < st.2.length ∧ st.2.getD i 0 = j
theorem InL.rch {st : BS} (h : InL st) (num d : Int) : InL (rchp num d st) := by
  unfold rchp
  split
  · intro j hj
    by_cases e : j = num
    · exact ⟨st.2.length, by simp, by rw [e]; exact getD_app2⟩
    · have hj' : 0 ≤ st.1 j := by
        have : (if j = num then d else st.1 j) = st.1 j := if_neg e
        rw [← this]; exact hj
      obtain ⟨i, h1, h2⟩ := h j hj'
      exact ⟨i, by simp; omega, by rw [← h2]; exact getD_app h1⟩
  · exact h
theorem InL.node {nx : Int → Int → Int} {act : Int → Int} {q : Int} {st : BS} (h : InL st) : ∀ k, InL (bnode nx act q k st)
  | 0 => h
  | k + 1 => by
    have ih := InL.node (nx := nx) (act := act) (q := q) h k
    show InL (bcode nx act q k (bnode nx act q k st))
    unfold bcode
    split
    · exact ih.rch _ _
    · exact ih
def Snd (P : Int → Prop) (st : BS) : Prop := ∀ j, 0 ≤ st.1 j → P j
theorem Snd.rch {P : Int → Prop} {st : BS} (h : Snd P st) {num d : Int} (hn : 0 ≤ num → P num) : Snd P (rchp num d st) := by
  unfold rchp
  split
  · rename_i hc
    intro j hj
    by_cases e : j = num
    · rw [e]; exact hn hc.1
    · refine h j ?_
      have : (if j = num then d else st.1 j) = st.1 j := if_neg e
      rw [← this]; exact hj
  · exact h
theorem Snd.node {P : Int → Prop} {nx : Int → Int → Int} {act : Int → Int} {q : Int} {st : BS} (h : Snd P st) : ∀ k : Nat, (∀ c : Nat, c < k → act ((c : Int) / 2) = 1 → 0 ≤ nx q c → P (nx q c)) → Snd P (bnode nx act q k st)
  | 0, _ => h
  | k + 1, hk => by
    have ih := Snd.node (act := act) h k (fun c hc => hk c (by omega))
    show Snd P (bcode nx act q k (bnode nx act q k st))
    unfold bcode
    split
    · rename_i ha
      exact ih.rch (fun hn => hk k (by omega) ha hn)
    · exact ih
theorem Snd_bfs {P : Int → Prop} {m : Nat} {nx : Int → Int → Int} {act : Int → Int} {k2 : Nat} {st : BS} (h : BI m st) (hs : Snd P st) (hnx : ∀ q c : Int, 0 ≤ q ∧ q < m → 0 ≤ c ∧ c < k2 → nx q c < m) (hP : ∀ q c : Int, 0 ≤ q ∧ q < m → P q → 0 ≤ c ∧ c < k2 → act (c / 2) = 1 → 0 ≤ nx q c → P (nx q c)) : ∀ i, Snd P (bfs nx act k2 i st)
  | 0 => hs
  | i + 1 => by
    have ih := Snd_bfs h hs hnx hP i
    have hb := BI_bfs (act := act) h hnx i
    rw [show bfs nx act k2 (i + 1) st = if i < (bfs nx act k2 i st).2.length then bnode nx act ((bfs nx act k2 i st).2.getD i 0) k2 (bfs nx act k2 i st) else bfs nx act k2 i st from rfl]
    split
    · rename_i hi
      have := hb.2.1 i hi
      exact ih.node k2 (fun c hc ha hn => hP _ _ ⟨this.1, this.2.1⟩ (ih _ this.2.2.1) (by omega) ha hn)
    · exact ih
theorem node_cl {m : Nat} {nx : Int → Int → Int} {act : Int → Int} {q : Int} {st : BS} {p : Nat} (h : BI m st) (hp : p < st.2.length) (hq : st.2.getD p 0 = q) : ∀ k : Nat, (∀ c : Nat, c < k → nx q c < m) → ∀ c : Nat, c < k → act ((c : Int) / 2) = 1 → 0 ≤ nx q c → 0 ≤ (bnode nx act q k st).1 (nx q c)
  | 0, _, c, hc, _, _ => absurd hc (Nat.not_lt_zero _)
  | k + 1, hnx, c, hc, ha, hn => by
    obtain ⟨h1, h2, h3, h4⟩ := BI.node (act := act) h hp hq k (fun c hc => hnx c (by omega))
    have hq' : (bnode nx act q k st).2.getD p 0 = q := by rw [h3 p hp]; exact hq
    obtain ⟨g1, g2, g3, g4⟩ := BI.code (act := act) (c := k) h1 (p := p) (by omega) hq' (hnx k (by omega))
    show 0 ≤ (bcode nx act q k (bnode nx act q k st)).1 (nx q c)
    rcases Nat.lt_or_ge c k with hl | hl
    · have ih := node_cl (act := act) h hp hq k (fun c hc => hnx c (by omega)) c hl ha hn
      rw [g4 _ ih]; exact ih
    · obtain rfl : c = k := by omega
      unfold bcode
      rw [if_pos ha]
      unfold rchp
      have hr := h1.2.1 p (by omega)
      rw [hq'] at hr
      by_cases hc' : 0 ≤ nx q c ∧ (bnode nx act q c st).1 (nx q c) < 0
      · rw [if_pos hc']
        show 0 ≤ (if nx q c = nx q c then (bnode nx act q c st).1 q + 1 else _)
        rw [if_pos rfl]; omega
      · rw [if_neg hc']; omega
def Dn (nx : Int → Int → Int) (act : Int → Int) (k2 : Nat) (i : Nat) (st : BS) : Prop := ∀ p, p < i → p < st.2.length → ∀ c : Nat, c < k2 → act ((c : Int) / 2) = 1 → 0 ≤ nx (st.2.getD p 0) c → 0 ≤ st.1 (nx (st.2.getD p 0) c)
theorem bfs_dn {m : Nat} {nx : Int → Int → Int} {act : Int → Int} {k2 : Nat} {st : BS} (h : BI m st) (hL : InL st) (hnx : ∀ q c : Int, 0 ≤ q ∧ q < m → 0 ≤ c ∧ c < k2 → nx q c < m) : ∀ i, Dn nx act k2 i (bfs nx act k2 i st) ∧ InL (bfs nx act k2 i st)
  | 0 => ⟨fun p hp => absurd hp (Nat.not_lt_zero _), hL⟩
  | i + 1 => by
    obtain ⟨ih1, ih2⟩ := bfs_dn (act := act) h hL hnx i
    have hb := BI_bfs (act := act) h hnx i
    rw [show bfs nx act k2 (i + 1) st = if i < (bfs nx act k2 i st).2.length then bnode nx act ((bfs nx act k2 i st).2.getD i 0) k2 (bfs nx act k2 i st) else bfs nx act k2 i st from rfl]
    split
    · rename_i hi
      have hr := hb.2.1 i hi
      have hx : ∀ c : Nat, c < k2 → nx ((bfs nx act k2 i st).2.getD i 0) c < m := fun c hc => hnx _ _ ⟨hr.1, hr.2.1⟩ (by omega)
      obtain ⟨g1, g2, g3, g4⟩ := hb.node (act := act) hi rfl k2 hx
      refine ⟨fun p hp hp2 c hc ha hn => ?_, ih2.node k2⟩
      rw [g3 p (by omega)] at hn ⊢
      rcases Nat.lt_or_ge p i with hl | hl
      · have := ih1 p hl (by omega) c hc ha hn
        rw [g4 _ this]; exact this
      · obtain rfl : p = i := by omega
        exact node_cl hb hi rfl k2 hx c hc ha hn
    · rename_i hi
      exact ⟨fun p hp hp2 => ih1 p (by omega) hp2, ih2⟩
theorem st0_ok {m : Nat} {s : Int} (hs : 0 ≤ s ∧ s < m) : BI m (rchp s 0 ((fun _ => -1), [])) ∧ InL (rchp s 0 ((fun _ => -1), [])) ∧ 0 ≤ (rchp s 0 ((fun _ => -1), [])).1 s := by
  have h0 : BI m ((fun _ => -1), []) := ⟨Nat.zero_le _, fun i hi => absurd hi (Nat.not_lt_zero _), fun i j _ hj => absurd hj (Nat.not_lt_zero _)⟩
  have hL : InL ((fun _ => -1), []) := fun j hj => absurd (show (0 : Int) ≤ -1 from hj) (by decide)
  refine ⟨(h0.rch hs.2 ⟨by decide, by simp⟩).1, hL.rch _ _, ?_⟩
  unfold rchp
  rw [if_pos ⟨hs.1, show (-1 : Int) < 0 by decide⟩]
  show 0 ≤ (if s = s then (0 : Int) else _)
  rw [if_pos rfl]; decide
theorem bfrom_ok {m : Nat} {nx : Int → Int → Int} {act : Int → Int} {k2 : Nat} {s : Int} (hs : 0 ≤ s ∧ s < m) (hnx : ∀ q c : Int, 0 ≤ q ∧ q < m → 0 ≤ c ∧ c < k2 → nx q c < m) :
    0 ≤ bfrom nx act k2 m (fun _ => -1) s s ∧ (∀ q c : Int, 0 ≤ bfrom nx act k2 m (fun _ => -1) s q → 0 ≤ c ∧ c < k2 → act (c / 2) = 1 → 0 ≤ nx q c → 0 ≤ bfrom nx act k2 m (fun _ => -1) s (nx q c)) ∧ (∀ j, 0 ≤ bfrom nx act k2 m (fun _ => -1) s j → 0 ≤ j ∧ j < m) ∧
    ∀ P : Int → Prop, P s → (∀ q c : Int, 0 ≤ q ∧ q < m → P q → 0 ≤ c ∧ c < k2 → act (c / 2) = 1 → 0 ≤ nx q c → P (nx q c)) → ∀ j, 0 ≤ bfrom nx act k2 m (fun _ => -1) s j → P j := by
  obtain ⟨h1, h2, h3⟩ := st0_ok hs
  have hb := BI_bfs (act := act) h1 hnx m
  obtain ⟨d1, d2⟩ := bfs_dn (act := act) h1 h2 hnx m
  have snd : ∀ P : Int → Prop, P s → (∀ q c : Int, 0 ≤ q ∧ q < m → P q → 0 ≤ c ∧ c < k2 → act (c / 2) = 1 → 0 ≤ nx q c → P (nx q c)) → ∀ j, 0 ≤ bfrom nx act k2 m (fun _ => -1) s j → P j := fun P hP hst => by
    refine Snd_bfs (P := P) h1 (Snd.rch (st := ((fun _ => -1), [])) (fun j hj => absurd (show (0 : Int) ≤ -1 from hj) (by decide)) (fun _ => hP)) hnx hst m
  refine ⟨?_, fun q c hq hc ha hn => ?_, fun j hj => ?_, snd⟩
  · have mono : ∀ i, 0 ≤ (bfs nx act k2 i (rchp s 0 ((fun _ => -1), []))).1 s := fun i => by
      induction i with
      | zero => exact h3
      | succ i ih =>
        have hbi := BI_bfs (act := act) h1 hnx i
        rw [show bfs nx act k2 (i + 1) (rchp s 0 ((fun _ => -1), [])) = if i < (bfs nx act k2 i (rchp s 0 ((fun _ => -1), []))).2.length then bnode nx act ((bfs nx act k2 i (rchp s 0 ((fun _ => -1), []))).2.getD i 0) k2 (bfs nx act k2 i (rchp s 0 ((fun _ => -1), []))) else bfs nx act k2 i (rchp s 0 ((fun _ => -1), [])) from rfl]
        split
        · rename_i hi
          have hr := hbi.2.1 i hi
          rw [(hbi.node (act := act) hi rfl k2 (fun c hc => hnx _ _ ⟨hr.1, hr.2.1⟩ (by omega))).2.2.2 _ ih]
          exact ih
        · exact ih
    exact mono m
  · obtain ⟨i, i1, i2⟩ := d2 q hq
    have hm := hb.1
    have := d1 i (by omega) i1 c.toNat (by omega) (by rw [show ((c.toNat : Nat) : Int) = c by omega]; exact ha) (by rw [i2, show ((c.toNat : Nat) : Int) = c by omega]; exact hn)
    rw [i2, show ((c.toNat : Nat) : Int) = c by omega] at this
    exact this
  · obtain ⟨i, i1, i2⟩ := d2 j hj
    have := hb.2.1 i i1
    rw [i2] at this
    exact ⟨this.1, this.2.1⟩
