noncomputable def ccN (M : Int → Int) (n i : Int) : Nat := 4 * (uu M n i).toNat + (ul M n i).toNat
theorem uuB {M : Int → Int} {n i : Int} (hM : ∀ j, 0 ≤ M j ∧ M j ≤ 3) : (0 ≤ uu M n i ∧ uu M n i ≤ 3) ∧ 0 ≤ ul M n i ∧ ul M n i ≤ 3 := by
  unfold uu ul; split
  · exact ⟨hM _, hM _⟩
  · omega
theorem ccN_b {M : Int → Int} {n i : Int} (hM : ∀ j, 0 ≤ M j ∧ M j ≤ 3) : ccN M n i ≤ 15 ∧ ccN M n i / 4 = (uu M n i).toNat ∧ ccN M n i % 4 = (ul M n i).toNat ∧ ((ccN M n i / 4 : Nat) : Int) = uu M n i ∧ ((ccN M n i % 4 : Nat) : Int) = ul M n i := by
  have h := @uuB M n i hM
  unfold ccN
  omega
noncomputable def z4 (n : Int) (z : Int → Int) : Z4 := (shf n z 0, shf n z 1, shf n z 2, shf n z 3)
theorem dt_z4 {M z : Int → Int} {n : Int} (hn : 2 ≤ n ∧ n ≤ 4) (hM : ∀ j, 0 ≤ M j ∧ M j ≤ 3) : dt4 (ccN M n 0 / 4) (ccN M n 1 / 4) (ccN M n 2 / 4) (ccN M n 3 / 4) (z4 n z) = dt M z 0 n.toNat ∧ dt4 (ccN M n 0 % 4) (ccN M n 1 % 4) (ccN M n 2 % 4) (ccN M n 3 % 4) (z4 n z) = dt M z 1 n.toNat := by
  unfold dt4
  simp only [(ccN_b hM).2.2.2.1, (ccN_b hM).2.2.2.2]
  have : n = 2 ∨ n = 3 ∨ n = 4 := by omega
  rcases this with rfl | rfl | rfl
  · simp [uu, ul, z4, shf, dt]
  · simp [uu, ul, z4, shf, dt]
  · simp [uu, ul, z4, shf, dt]
theorem shf_at {n c : Int} {z : Int → Int} (h : 0 ≤ c ∧ c < n) : shf n z (c + (4 - n)) = z c := by
  unfold shf; rw [if_pos (by omega)]; congr 1; omega
def cmp4 (u : Z4) (i : Int) : Int := if i = 0 then u.1 else if i = 1 then u.2.1 else if i = 2 then u.2.2.1 else u.2.2.2
theorem cmp_z4 {n i : Int} {z : Int → Int} (h : 0 ≤ i ∧ i < 4) : cmp4 (z4 n z) i = shf n z i := by
  have : i = 0 ∨ i = 1 ∨ i = 2 ∨ i = 3 := by omega
  rcases this with rfl | rfl | rfl | rfl <;> rfl
theorem z4_at {n c : Int} {z : Int → Int} (hn : n ≤ 4) (h : 0 ≤ c ∧ c < n) : cmp4 (z4 n z) (c + (4 - n)) = z c := by rw [cmp_z4 (by omega), shf_at h]
theorem z4_ext {n : Int} {z w : Int → Int} (hn : 2 ≤ n ∧ n ≤ 4) (h : ∀ j, 0 ≤ j ∧ j < n → z j = w j) : z4 n z = z4 n w := by
  have k : ∀ i : Int, i < 4 → shf n z i = shf n w i := fun i hi => by
    unfold shf; split
    · exact h _ (by omega)
    · rfl
  exact Z4.eq ⟨k 0 (by decide), k 1 (by decide), k 2 (by decide), k 3 (by decide)⟩
noncomputable def u4 (n : Int) (u : Z4) : Int → Int := fun j => cmp4 u (j + (4 - n))
theorem z4_u4 {n : Int} {u : Z4} (hn : 2 ≤ n ∧ n ≤ 4) (h : ∀ i, 0 ≤ i ∧ i < 4 - n → cmp4 u i = 0) : z4 n (u4 n u) = u := by
  have k : ∀ i : Int, 0 ≤ i ∧ i < 4 → shf n (u4 n u) i = cmp4 u i := fun i hi => by
    unfold shf u4; split
    · congr 1; omega
    · exact (h i (by omega)).symm
  exact Z4.eq ⟨k 0 (by decide), k 1 (by decide), k 2 (by decide), k 3 (by decide)⟩
theorem cf_cmp {u v : Z4} (h : cf4 u v) {i : Int} (hi : 0 ≤ i ∧ i < 4) : c1 (cmp4 u i) (cmp4 v i) := by
  have : i = 0 ∨ i = 1 ∨ i = 2 ∨ i = 3 := by omega
  rcases this with rfl | rfl | rfl | rfl
  · exact h.1
  · exact h.2.1
  · exact h.2.2.1
  · exact h.2.2.2
theorem K4_ker {M z : Int → Int} {n : Int} (hn : 2 ≤ n ∧ n ≤ 4) (hM : ∀ j, 0 ≤ M j ∧ M j ≤ 3) : K4 (ccN M n 0) (ccN M n 1) (ccN M n 2) (ccN M n 3) (z4 n z) ↔ KerF M n z := by
  unfold K4 KerF; rw [(dt_z4 hn hM).1, (dt_z4 hn hM).2]
theorem z4_0 {n : Int} {z : Int → Int} (hn : 2 ≤ n ∧ n ≤ 4) (h : z4 n z = (0, 0, 0, 0)) : ∀ j, 0 ≤ j ∧ j < n → z j = 0 := fun j hj => by
  rw [← z4_at (z := z) hn.2 hj, h]; unfold cmp4; split
  · rfl
  · split
    · rfl
    · split <;> rfl
theorem Gmin.g4 {M z : Int → Int} {n : Int} (hn : 2 ≤ n ∧ n ≤ 4) (hM : ∀ j, 0 ≤ M j ∧ M j ≤ 3) (h : Gmin M n z) : Gm4 (ccN M n 0) (ccN M n 1) (ccN M n 2) (ccN M n 3) (z4 n z) := by
  obtain ⟨h1, ⟨j, j0, j1, j2⟩, h3⟩ := h
  refine ⟨(K4_ker hn hM).2 h1, fun e => j2 (z4_0 hn e j ⟨j0, j1⟩), fun u hu hn0 hc => ?_⟩
  have e0 : ∀ i, 0 ≤ i ∧ i < 4 - n → cmp4 u i = 0 := fun i hi => by
    have := cf_cmp hc (i := i) (by omega)
    rw [cmp_z4 (by omega)] at this
    unfold shf at this
    rw [if_neg (by omega)] at this
    unfold c1 at this; omega
  have eu := z4_u4 hn e0
  rw [← eu] at hu hn0
  have nzu : nz n (u4 n u) := Classical.byContradiction fun hx => hn0 (by
    have : z4 n (u4 n u) = z4 n (fun _ => 0) := z4_ext hn (fun j hj => Classical.byContradiction fun hy => hx ⟨j, hj.1, hj.2, hy⟩)
    rw [this]; unfold z4 shf; simp)
  have := h3 (u4 n u) ((K4_ker hn hM).1 hu) nzu (fun i hi => by
    have := cf_cmp hc (i := i + (4 - n)) (by omega)
    rwa [z4_at hn.2 hi] at this)
  rw [← eu]
  exact z4_ext hn this
theorem zneg_at (z : Z4) (i : Int) : cmp4 (zneg z) i = -cmp4 z i := by
  unfold cmp4 zneg; split
  · rfl
  · split
    · rfl
    · split <;> rfl
theorem AtM.mem {α : Type} (G : List α) : AtM (fun x => x ∈ G) G.length := by
  induction G with
  | nil => exact AtM.none (fun x h => by simp at h)
  | cons a G ih =>
    refine (AtM.or (P := fun x => x = a) (AtM.one fun x y hx hy => hx.trans hy.symm) ih fun x hx => List.mem_cons.1 hx).mono (by simp only [List.length_cons]; omega) (fun _ h => h)
theorem AtM.seq {α : Type} {P : α → Prop} {N : Nat} (h : AtM P N) (f : Nat → α) (m : Nat) (hf : ∀ i, i < m → P (f i)) (hi : ∀ i j, i < j → j < m → f i ≠ f j) : m ≤ N := by
  have key : ∀ m, (∀ i j, i < j → j < m → f i ≠ f j) → ((List.range m).map f).Nodup := fun m => by
    induction m with
    | zero => exact fun _ => List.nodup_nil
    | succ m ih =>
      intro hi
      rw [List.range_succ, List.map_append]
      refine List.nodup_append.2 ⟨ih (fun i j hij hj => hi i j hij (by omega)), by simp, fun a ha b hb => ?_⟩
      obtain ⟨i, hi', rfl⟩ := List.mem_map.1 ha
      simp only [List.map_cons, List.map_nil, List.mem_singleton] at hb
      subst hb
      exact hi i m (List.mem_range.1 hi') (by omega)
  have := h _ (key m hi) (fun x hx => by
    obtain ⟨i, hi', rfl⟩ := List.mem_map.1 hx
    exact hf i (List.mem_range.1 hi'))
  rwa [List.length_map, List.length_range] at this
theorem capG : CapG := by
  intro M n hn hM k E hE hd
  obtain ⟨G, h1, h2, h3⟩ := q_any (a := ccN M n 0) (b := ccN M n 1) (c := ccN M n 2) (d := ccN M n 3) (ccN_b hM).1 (ccN_b hM).1 (ccN_b hM).1 (ccN_b hM).1
  have : ∀ i, ∃ g, i < k → g ∈ G ∧ (z4 n (E i) = g ∨ zneg (z4 n (E i)) = g) := fun i => by
    by_cases hi : i < k
    · rcases h2 _ ((hE i hi).1.g4 hn hM) with h | h
      · exact ⟨_, fun _ => ⟨h, .inl rfl⟩⟩
      · exact ⟨_, fun _ => ⟨h, .inr rfl⟩⟩
    · exact ⟨(0, 0, 0, 0), fun h => absurd h hi⟩
  obtain ⟨f, hf⟩ := Classical.skolem.1 this
  refine Nat.le_trans ((AtM.mem G).seq f k (fun i hi => (hf i hi).1) (fun i j hij hj e => ?_)) h1
  have same : ∀ {x y : Int → Int}, z4 n x = z4 n y → ∀ c, 0 ≤ c ∧ c < n → x c = y c := fun {x y} e c hc => by rw [← z4_at (z := x) hn.2 hc, ← z4_at (z := y) hn.2 hc, e]
  have opp : ∀ {x y : Int → Int}, z4 n x = zneg (z4 n y) → lead x n → lead y n → False := fun {x y} e hx hy => by
    have : ∀ c, 0 ≤ c ∧ c < n → x c = -y c := fun c hc => by rw [← z4_at (z := x) hn.2 hc, ← z4_at (z := y) hn.2 hc, e, zneg_at]
    exact lead_neg hy (lead_ext hx this)
  have hi := hf i (by omega)
  have hj' := hf j hj
  rcases hi.2 with e1 | e1 <;> rcases hj'.2 with e2 | e2
  · exact hd i j hij hj (same (e1.trans (e.trans e2.symm)))
  · exact opp (e1.trans (e.trans e2.symm)) (hE i (by omega)).2 (hE j hj).2
  · exact opp (e2.trans (e.symm.trans e1.symm)) (hE j hj).2 (hE i (by omega)).2
  · have := congrArg zneg (e1.trans (e.trans e2.symm))
    rw [zneg_zneg, zneg_zneg] at this
    exact hd i j hij hj (same this)
theorem bd_at {B : Nat} {z : Z4} (h : bd4 B z) (i : Int) : (cmp4 z i).natAbs ≤ B := by
  unfold cmp4; split
  · exact h.1
  · split
    · exact h.2.1
    · split
      · exact h.2.2.1
      · exact h.2.2.2
theorem bndG : BndG := by
  intro M n r b z hn hM hP hz j hj
  have fin : ∀ {B : Nat}, (B : Int) = b → Qg B (ccN M n 0) (ccN M n 1) (ccN M n 2) (ccN M n 3) → -b ≤ z j ∧ z j ≤ b := fun {B} hB hq => by
    obtain ⟨G, h1, h2, h3⟩ := hq
    have e := z4_at (z := z) hn.2 hj
    rcases h2 _ (hz.g4 hn hM) with h | h
    · have := bd_at (h3 _ h).1 (j + (4 - n)); omega
    · have := bd_at (h3 _ h).1 (j + (4 - n)); rw [zneg_at] at this; omega
  rcases hP with ⟨_, hb, h0⟩ | ⟨_, hb, ⟨p, c, hp0, hp1, hc0, hc1, hx⟩, hm⟩ | ⟨_, hb, _⟩
  · refine fin (B := 1) (by omega) ?_
    have e : ∀ i, i < 4 → ccN M n i = 0 := fun i hi => by
      unfold ccN uu ul; split
      · rw [(h0 _ (by omega)).1, (h0 _ (by omega)).2]; rfl
      · rfl
    rw [e 0 (by decide), e 1 (by decide), e 2 (by decide), e 3 (by decide)]; exact q_rank0
  · refine fin (B := 3) (by omega) (q_rank1 (ccN_b hM).1 (ccN_b hM).1 (ccN_b hM).1 (ccN_b hM).1 ?_ (fun h0 => ?_))
    · have k : ∀ i j : Int, 0 ≤ i ∧ i < j ∧ j < 4 → ccN M n i / 4 * (ccN M n j % 4) = ccN M n j / 4 * (ccN M n i % 4) := fun i j hij => by
        apply Int.ofNat.inj
        show ((ccN M n i / 4 * (ccN M n j % 4) : Nat) : Int) = ((ccN M n j / 4 * (ccN M n i % 4) : Nat) : Int)
        rw [Int.natCast_mul, Int.natCast_mul, (ccN_b hM).2.2.2.1, (ccN_b hM).2.2.2.2, (ccN_b hM).2.2.2.1, (ccN_b hM).2.2.2.2]
        unfold uu ul
        by_cases hi : 4 - n ≤ i
        · rw [if_pos hi, if_pos hi, if_pos (by omega), if_pos (by omega)]
          have := hm (i - (4 - n)) (j - (4 - n)) (by omega)
          unfold mnr at this
          rw [Int.mul_comm (M (j - (4 - n)))]; omega
        · rw [if_neg hi, if_neg hi]; simp
      exact ⟨⟨k 0 1 (by decide), k 0 2 (by decide), k 0 3 (by decide)⟩, k 1 2 (by decide), k 1 3 (by decide), k 2 3 (by decide)⟩
    · have z0 : ∀ i : Int, 0 ≤ i ∧ i < 4 → uu M n i = 0 ∧ ul M n i = 0 := fun i hi => by
        have h4 : ccN M n i = 0 := by
          have : i = 0 ∨ i = 1 ∨ i = 2 ∨ i = 3 := by omega
          rcases this with rfl | rfl | rfl | rfl
          · exact h0.1
          · exact h0.2.1
          · exact h0.2.2.1
          · exact h0.2.2.2
        have := @ccN_b M n i hM
        omega
      have := z0 (c + (4 - n)) (by omega)
      unfold uu ul at this
      rw [if_pos (by omega), if_pos (by omega), show c + (4 - n) - (4 - n) = c by omega] at this
      have : p = 0 ∨ p = 1 := by omega
      rcases this with rfl | rfl
      · apply hx; rw [show (0 : Int) * 4 + c = c by omega]; exact (by assumption : M c = 0 ∧ M (4 + c) = 0).1
      · apply hx; rw [show (1 : Int) * 4 + c = 4 + c by omega]; exact (by assumption : M c = 0 ∧ M (4 + c) = 0).2
  · exact fin (B := 9) (by omega) (q_any (ccN_b hM).1 (ccN_b hM).1 (ccN_b hM).1 (ccN_b hM).1)
