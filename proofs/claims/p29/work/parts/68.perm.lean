theorem wlog4 {Q : Nat → Nat → Nat → Nat → Prop} (h : ∀ a b c d, a ≤ b → b ≤ c → c ≤ d → d ≤ 15 → Q a b c d) (s1 : ∀ a b c d, Q a b c d → Q b a c d) (s2 : ∀ a b c d, Q a b c d → Q a c b d) (s3 : ∀ a b c d, Q a b c d → Q a b d c) {a b c d : Nat} (ha : a ≤ 15) (hb : b ≤ 15) (hc : c ≤ 15) (hd : d ≤ 15) : Q a b c d := by
  have k1 : ∀ a b c d, a ≤ b → b ≤ c → c ≤ 15 → d ≤ 15 → Q a b c d := fun a b c d h1 h2 h3 h4 => by
    rcases Nat.le_total c d with g | g
    · exact h a b c d h1 h2 g h4
    rcases Nat.le_total b d with g2 | g2
    · exact s3 _ _ _ _ (h a b d c h1 g2 g h3)
    rcases Nat.le_total a d with g3 | g3
    · exact s3 _ _ _ _ (s2 _ _ _ _ (h a d b c g3 g2 h2 h3))
    · exact s3 _ _ _ _ (s2 _ _ _ _ (s1 _ _ _ _ (h d a b c g3 h1 h2 h3)))
  have k2 : ∀ a b c d, a ≤ b → b ≤ 15 → c ≤ 15 → d ≤ 15 → Q a b c d := fun a b c d h1 h2 h3 h4 => by
    rcases Nat.le_total b c with g | g
    · exact k1 a b c d h1 g h3 h4
    rcases Nat.le_total a c with g2 | g2
    · exact s2 _ _ _ _ (k1 a c b d g2 g h2 h4)
    · exact s2 _ _ _ _ (s1 _ _ _ _ (k1 c a b d g2 h1 h2 h4))
  rcases Nat.le_total a b with g | g
  · exact k2 a b c d g hb hc hd
  · exact s1 _ _ _ _ (k2 b a c d g ha hc hd)
theorem AtM.map {α β : Type} {P : α → Prop} {R : β → Prop} {n : Nat} (h : AtM P n) (f : β → α) (hf : ∀ x, R x → P (f x)) (hi : ∀ x y, R x → R y → f x = f y → x = y) : AtM R n := fun l hl hR => by
  have key : ∀ l : List β, l.Nodup → (∀ x, x ∈ l → R x) → (l.map f).Nodup := fun l => by
    induction l with
    | nil => exact fun _ _ => List.nodup_nil
    | cons a l ih =>
      intro hl hR
      have hl' := List.nodup_cons.1 hl
      rw [List.map_cons]
      refine List.nodup_cons.2 ⟨fun hm => ?_, ih hl'.2 (fun x hx => hR x (List.mem_cons_of_mem _ hx))⟩
      obtain ⟨x, hx, e⟩ := List.mem_map.1 hm
      have := hi x a (hR x (List.mem_cons_of_mem _ hx)) (hR a List.mem_cons_self) e
      exact hl'.1 (this ▸ hx)
  have := h (l.map f) (key l hl hR) (fun x hx => by
    obtain ⟨y, hy, rfl⟩ := List.mem_map.1 hx
    exact hf y (hR y hy))
  rwa [List.length_map] at this
theorem Qg.sw {B a b c d a' b' c' d' : Nat} (σ : Z4 → Z4) (hσ : ∀ z, σ (σ z) = z) (hK : ∀ z, K4 a b c d z → K4 a' b' c' d' (σ z)) (hK' : ∀ z, K4 a' b' c' d' z → K4 a b c d (σ z)) (h0 : σ (0, 0, 0, 0) = (0, 0, 0, 0)) (hcf : ∀ u z, cf4 u z → cf4 (σ u) (σ z)) (hng : ∀ z, zneg (σ z) = σ (zneg z)) (hb : ∀ z, bd4 B z → bd4 B (σ z)) (hf : ∀ z, Fb4 a b c d z → Fb4 a' b' c' d' (σ z)) (h : Qg B a b c d) : Qg B a' b' c' d' := by
  obtain ⟨G, h1, h2, h3⟩ := h
  have n0 : ∀ z, z ≠ (0, 0, 0, 0) → σ z ≠ (0, 0, 0, 0) := fun z hz e => hz (by rw [← hσ z, e, h0])
  refine ⟨G.map σ, by rw [List.length_map]; exact h1, fun z hz => ?_, fun g hg => ?_⟩
  · have hz' : Gm4 a b c d (σ z) := ⟨hK' z hz.1, n0 z hz.2.1, fun u hu hn hc => by
      have := hz.2.2 (σ u) (hK u hu) (n0 u hn) (by have := hcf u (σ z) hc; rwa [hσ] at this)
      rw [← this, hσ]⟩
    rcases h2 _ hz' with e | e
    · exact .inl (List.mem_map.2 ⟨_, e, hσ z⟩)
    · exact .inr (List.mem_map.2 ⟨_, e, by rw [← hng, hσ]⟩)
  · obtain ⟨y, hy, rfl⟩ := List.mem_map.1 hg
    exact ⟨hb y (h3 y hy).1, hf y (h3 y hy).2⟩
def sw1 {α : Type} (z : α × α × α × α) : α × α × α × α := (z.2.1, z.1, z.2.2.1, z.2.2.2)
def sw2 {α : Type} (z : α × α × α × α) : α × α × α × α := (z.1, z.2.2.1, z.2.1, z.2.2.2)
def sw3 {α : Type} (z : α × α × α × α) : α × α × α × α := (z.1, z.2.1, z.2.2.2, z.2.2.1)
theorem Qg.s1 {B a b c d : Nat} (h : Qg B a b c d) : Qg B b a c d := by
  refine Qg.sw sw1 (fun _ => rfl) (fun z hz => ?_) (fun z hz => ?_) rfl (fun u z h => ⟨h.2.1, h.1, h.2.2.1, h.2.2.2⟩) (fun _ => rfl) (fun z h => ⟨h.2.1, h.1, h.2.2.1, h.2.2.2⟩) (fun z hz => ?_) h
  · unfold K4 dt4 sw1 at *; dsimp only; omega
  · unfold K4 dt4 sw1 at *; dsimp only; omega
  · refine AtM.map hz sw1 (fun y hy => ?_) (fun x y _ _ e => by have := congrArg sw1 e; exact this)
    obtain ⟨⟨q1, q2, q3, q4⟩, q5, q6⟩ := hy
    refine ⟨⟨q2, q1, q3, q4⟩, ?_, ?_⟩
    · unfold dp4 sw1 at *; dsimp only at *; omega
    · unfold dp4 sw1 at *; dsimp only at *; omega
theorem Qg.s2 {B a b c d : Nat} (h : Qg B a b c d) : Qg B a c b d := by
  refine Qg.sw sw2 (fun _ => rfl) (fun z hz => ?_) (fun z hz => ?_) rfl (fun u z h => ⟨h.1, h.2.2.1, h.2.1, h.2.2.2⟩) (fun _ => rfl) (fun z h => ⟨h.1, h.2.2.1, h.2.1, h.2.2.2⟩) (fun z hz => ?_) h
  · unfold K4 dt4 sw2 at *; dsimp only; omega
  · unfold K4 dt4 sw2 at *; dsimp only; omega
  · refine AtM.map hz sw2 (fun y hy => ?_) (fun x y _ _ e => by have := congrArg sw2 e; exact this)
    obtain ⟨⟨q1, q2, q3, q4⟩, q5, q6⟩ := hy
    refine ⟨⟨q1, q3, q2, q4⟩, ?_, ?_⟩
    · unfold dp4 sw2 at *; dsimp only at *; omega
    · unfold dp4 sw2 at *; dsimp only at *; omega
theorem Qg.s3 {B a b c d : Nat} (h : Qg B a b c d) : Qg B a b d c := by
  refine Qg.sw sw3 (fun _ => rfl) (fun z hz => ?_) (fun z hz => ?_) rfl (fun u z h => ⟨h.1, h.2.1, h.2.2.2, h.2.2.1⟩) (fun _ => rfl) (fun z h => ⟨h.1, h.2.1, h.2.2.2, h.2.2.1⟩) (fun z hz => ?_) h
  · unfold K4 dt4 sw3 at *; dsimp only; omega
  · unfold K4 dt4 sw3 at *; dsimp only; omega
  · refine AtM.map hz sw3 (fun y hy => ?_) (fun x y _ _ e => by have := congrArg sw3 e; exact this)
    obtain ⟨⟨q1, q2, q3, q4⟩, q5, q6⟩ := hy
    refine ⟨⟨q1, q2, q4, q3⟩, ?_, ?_⟩
    · unfold dp4 sw3 at *; dsimp only at *; omega
    · unfold dp4 sw3 at *; dsimp only at *; omega
def mz4 (a b c d : Nat) : Prop := (a / 4 * (b % 4) = b / 4 * (a % 4) ∧ a / 4 * (c % 4) = c / 4 * (a % 4) ∧ a / 4 * (d % 4) = d / 4 * (a % 4)) ∧ b / 4 * (c % 4) = c / 4 * (b % 4) ∧ b / 4 * (d % 4) = d / 4 * (b % 4) ∧ c / 4 * (d % 4) = d / 4 * (c % 4)
theorem mzB_t {a b c d : Nat} (h : mzB a b c d = true) : mz4 a b c d := by
  obtain ⟨h1, h⟩ := and_t h
  obtain ⟨h2, h⟩ := and_t h
  obtain ⟨h3, h⟩ := and_t h
  obtain ⟨h4, h⟩ := and_t h
  obtain ⟨h5, h6⟩ := and_t h
  exact ⟨⟨Nat.eq_of_beq_eq_true h1, Nat.eq_of_beq_eq_true h2, Nat.eq_of_beq_eq_true h3⟩, Nat.eq_of_beq_eq_true h4, Nat.eq_of_beq_eq_true h5, Nat.eq_of_beq_eq_true h6⟩
theorem q_rank2 {a b c d : Nat} (ha : a ≤ 15) (hb : b ≤ 15) (hc : c ≤ 15) (hd : d ≤ 15) : ¬ mz4 a b c d → Qg 9 a b c d := by
  refine wlog4 (Q := fun a b c d => ¬ mz4 a b c d → Qg 9 a b c d) (fun a b c d h1 h2 h3 h4 hm => ?_) (fun a b c d h hm => (h fun m => hm ?_).s1) (fun a b c d h hm => (h fun m => hm ?_).s2) (fun a b c d h hm => (h fun m => hm ?_).s3) ha hb hc hd
  · rcases ck4_t (srtA_t ck4_all h1 h2 h3 h4) with e | e
    · exact absurd (mzB_t e) hm
    · exact e
  · obtain ⟨⟨m1, m2, m3⟩, m4, m5, m6⟩ := m
    exact ⟨⟨m1.symm, m4, m5⟩, m2, m3, m6⟩
  · obtain ⟨⟨m1, m2, m3⟩, m4, m5, m6⟩ := m
    exact ⟨⟨m2, m1, m3⟩, m4.symm, m6, m5⟩
  · obtain ⟨⟨m1, m2, m3⟩, m4, m5, m6⟩ := m
    exact ⟨⟨m1, m3, m2⟩, m5, m4, m6.symm⟩
