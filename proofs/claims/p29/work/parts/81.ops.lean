section OPS
variable {S : Sx}
theorem OB.s {μ : MI} {d : Nat} {as : List AV} {P : Int → Prop} (h : ∀ I F, CI S I F → MB μ d shX (rv 0 :: as) I F (fun v I' F' => CI S I' F' ∧ P v)) : OB μ d as S (fun v S' => P v ∧ S' = S) := fun I F c => ⟨_, h I F c, fun r I' F' hq => by
  obtain ⟨v, hr, h1, h2⟩ := hq
  exact ⟨v, S, hr, ⟨h2, rfl⟩, h1⟩⟩
theorem OB.r {μ : MI} {d : Nat} {as : List AV} {v : Int} (h : ∀ I F, CI S I F → MR μ d shX (rv 0 :: as) I F v) : OB μ d as S (fun w S' => w = v ∧ S' = S) := fun I F c => ⟨_, h I F c, fun r I' F' hq => by
  obtain ⟨hr, rfl, rfl⟩ := hq
  exact ⟨v, S, hr, ⟨rfl, rfl⟩, c⟩⟩
theorem OB.p {μ : MI} {d : Nat} {as : List AV} {P : Int → Prop} (h : ∀ I F, CI S I F → MP μ d shX (rv 0 :: as) I F P) : OB μ d as S (fun w S' => P w ∧ S' = S) := fun I F c => ⟨_, h I F c, fun r I' F' hq => by
  obtain ⟨v, hr, hv, rfl, rfl⟩ := hq
  exact ⟨v, S, hr, ⟨hv, rfl⟩, c⟩⟩
theorem OB.i {μ : MI} {d : Nat} {as : List AV} {P Q : Int → Sx → Prop} (h : OB μ d as S P) (hi : ∀ v S', P v S' → Q v S') : OB μ d as S Q := fun I F c => by
  obtain ⟨P0, h1, h2⟩ := h I F c
  refine ⟨P0, h1, fun r I' F' hq => ?_⟩
  obtain ⟨v, S', a, b, c⟩ := h2 r I' F' hq
  exact ⟨v, S', a, hi v S' b, c⟩
theorem o_configure {x y : Int} (hx : 1 ≤ x ∧ x ≤ 2) (hy : 2 ≤ y ∧ y ≤ 4) : OB m7_configure 6 [iv x, iv y] S (fun v S' => v = gC S.1 ∧ S' = cfg (psh S) x y) := fun I F c => ⟨_, s7_configure capB (by decide) c, fun r I' F' hq => by
  obtain ⟨v, hr, hq⟩ := hq
  rw [if_pos ⟨hx, hy⟩] at hq
  exact ⟨v, _, hr, ⟨hq.1, rfl⟩, hq.2⟩⟩
theorem o_setEntry {x y z : Int} (hx : 0 ≤ x ∧ x < gR S.1) (hy : 0 ≤ y ∧ y < gC S.1) (hz : 0 ≤ z ∧ z ≤ 3) (hne : gM S.1 (x * 4 + y) ≠ z) : OB m7_setEntry 6 [iv x, iv y, iv z] S (fun v S' => v = gM S.1 (x * 4 + y) ∧ S' = wM (psh S) (x * 4 + y) z) := fun I F c => ⟨_, s7_setEntry capB (by decide) c, fun r I' F' hq => by
  obtain ⟨v, hr, hq⟩ := hq
  rw [if_pos ⟨⟨hx, hy⟩, hz⟩, if_neg hne] at hq
  exact ⟨v, _, hr, ⟨hq.1, rfl⟩, hq.2⟩⟩
theorem o_isPositive : OB m7_isPositive 2 [] S (fun v S' => tf (Pos (gM S.1) (gC S.1)) v ∧ S' = S) := OB.p fun I F c => s7_isPositive (by decide) c
theorem o_graverCount : OB m7_graverCount 0 [] S (fun v S' => v = gk (gM S.1) (gC S.1) ∧ S' = S) := OB.r fun I F c => s7_graverCount c
theorem o_graverEntry {x y : Int} (hx : 0 ≤ x ∧ x < gk (gM S.1) (gC S.1)) (hy : 0 ≤ y ∧ y < gC S.1) : OB m7_graverEntry 2 [iv x, iv y] S (fun v S' => v = gE (gM S.1) (gC S.1) x y ∧ S' = S) := (OB.r fun I F c => s7_graverEntry (by decide) c).i fun v S' h => by
  rw [if_pos ⟨hx, hy⟩] at h; exact h
theorem o_isIndispensable {x : Int} (hx : 0 ≤ x ∧ x < gk (gM S.1) (gC S.1)) (hp : Pos (gM S.1) (gC S.1)) : OB m7_isIndispensable 6 [iv x] S (fun v S' => tf (fbm (gM S.1) (gC S.1) (gp (gM S.1) (gC S.1) x 1) = 2) v ∧ S' = S) := (OB.s fun I F c => s7_isIndispensable capE (by decide) c).i fun v S' h => by
  refine ⟨?_, h.2⟩
  rcases h.1 with ⟨h1, -⟩ | ⟨-, ⟨h1, -⟩ | ⟨-, h1⟩⟩
  · exact absurd hx h1
  · exact absurd hp h1
  · exact h1
theorem o_isInd0 {x : Int} (hp : ¬ Pos (gM S.1) (gC S.1)) : OB m7_isIndispensable 6 [iv x] S (fun v S' => v = (if 0 ≤ x ∧ x < gk (gM S.1) (gC S.1) then -1002 else -1001) ∧ S' = S) := (OB.s fun I F c => s7_isIndispensable capE (by decide) c).i fun v S' h => by
  refine ⟨?_, h.2⟩
  rcases h.1 with ⟨h1, e⟩ | ⟨h0, ⟨-, e⟩ | ⟨h1, -⟩⟩
  · rw [if_neg h1]; exact e
  · rw [if_pos h0]; exact e
  · exact absurd h1 hp
theorem o_setPoint {x y : Int} (hx : 0 ≤ x ∧ x < gC S.1) (hy : 0 ≤ y ∧ y ≤ 5) : OB m7_setPoint 4 [iv x, iv y] S (fun v S' => v = gY S.1 x ∧ S' = wY (psh S) x y) := fun I F c => ⟨_, s7_setPoint (by decide) c, fun r I' F' hq => by
  obtain ⟨v, hr, hq⟩ := hq
  rw [if_pos ⟨hx, hy⟩] at hq
  exact ⟨v, _, hr, ⟨hq.1, rfl⟩, hq.2⟩⟩
theorem o_setPoint0 {x y : Int} (hy : ¬ (0 ≤ y ∧ y ≤ 5)) : OB m7_setPoint 4 [iv x, iv y] S (fun v S' => v = -1001 ∧ S' = S) := fun I F c => ⟨_, s7_setPoint (by decide) c, fun r I' F' hq => by
  obtain ⟨v, hr, hq⟩ := hq
  rw [if_neg (fun h => hy h.2)] at hq
  exact ⟨v, _, hr, ⟨hq.1, rfl⟩, hq.2⟩⟩
theorem o_fiberSize (hp : Pos (gM S.1) (gC S.1)) : OB m7_fiberSize 6 [] S (fun v S' => v = fbm (gM S.1) (gC S.1) (gY S.1) ∧ S' = S) := (OB.s fun I F c => s7_fiberSize capP (by decide) c).i fun v S' h => by
  refine ⟨?_, h.2⟩
  rcases h.1 with ⟨h1, -⟩ | ⟨-, e⟩
  · exact absurd hp h1
  · exact e
theorem o_fiberSize0 (hp : ¬ Pos (gM S.1) (gC S.1)) : OB m7_fiberSize 6 [] S (fun v S' => v = -1002 ∧ S' = S) := (OB.s fun I F c => s7_fiberSize capP (by decide) c).i fun v S' h => by
  refine ⟨?_, h.2⟩
  rcases h.1 with ⟨-, e⟩ | ⟨h1, -⟩
  · exact e
  · exact absurd h1 hp
theorem o_fiberEntry {x y : Int} (hp : Pos (gM S.1) (gC S.1)) (hx : 0 ≤ x ∧ x < fbm (gM S.1) (gC S.1) (gY S.1)) (hy : 0 ≤ y ∧ y < gC S.1) : OB m7_fiberEntry 6 [iv x, iv y] S (fun v S' => v = fy (gM S.1) (gC S.1) (gY S.1) x y ∧ S' = S) := (OB.s fun I F c => s7_fiberEntry capP (by decide) c).i fun v S' h => by
  refine ⟨?_, h.2⟩
  rcases h.1 with ⟨h1, -⟩ | ⟨-, ⟨h1, -⟩ | ⟨-, e⟩⟩
  · exact absurd ⟨hx.1, hy⟩ h1
  · exact absurd hp h1
  · rw [if_pos hx.2] at e
    unfold fy
    rw [if_pos hy.2]; exact e
theorem o_fiberEntryN {x y : Int} (hp : Pos (gM S.1) (gC S.1)) (hx : 0 ≤ x ∧ fbm (gM S.1) (gC S.1) (gY S.1) ≤ x) (hy : 0 ≤ y ∧ y < gC S.1) : OB m7_fiberEntry 6 [iv x, iv y] S (fun v S' => v = -1009 ∧ S' = S) := (OB.s fun I F c => s7_fiberEntry capP (by decide) c).i fun v S' h => by
  refine ⟨?_, h.2⟩
  rcases h.1 with ⟨h1, -⟩ | ⟨-, ⟨h1, -⟩ | ⟨-, e⟩⟩
  · exact absurd ⟨hx.1, hy⟩ h1
  · exact absurd hp h1
  · rw [if_neg (by omega)] at e; exact e
theorem o_fiberEntryI {x y : Int} (h0 : ¬ (0 ≤ x ∧ 0 ≤ y ∧ y < gC S.1)) : OB m7_fiberEntry 6 [iv x, iv y] S (fun v S' => v = -1001 ∧ S' = S) := (OB.s fun I F c => s7_fiberEntry capP (by decide) c).i fun v S' h => by
  refine ⟨?_, h.2⟩
  rcases h.1 with ⟨-, e⟩ | ⟨h1, -⟩
  · exact e
  · exact absurd h1 h0
theorem o_fiberEntry0 {x y : Int} (hp : ¬ Pos (gM S.1) (gC S.1)) (h0 : 0 ≤ x ∧ 0 ≤ y ∧ y < gC S.1) : OB m7_fiberEntry 6 [iv x, iv y] S (fun v S' => v = -1002 ∧ S' = S) := (OB.s fun I F c => s7_fiberEntry capP (by decide) c).i fun v S' h => by
  refine ⟨?_, h.2⟩
  rcases h.1 with ⟨h1, -⟩ | ⟨-, ⟨-, e⟩ | ⟨h1, -⟩⟩
  · exact absurd h0 h1
  · exact e
  · exact absurd h1 hp
theorem o_activate {x y : Int} (hx : 0 ≤ x ∧ x < gk (gM S.1) (gC S.1)) (hy : 0 ≤ y ∧ y ≤ 1) (hne : gA S.1 x.toNat ≠ y) : OB m7_activate 4 [iv x, iv y] S (fun v S' => v = ons (swA (gA S.1) x.toNat y) 16 ∧ S' = wA (psh S) x.toNat y) := fun I F c => ⟨_, s7_activate (by decide) c, fun r I' F' hq => by
  obtain ⟨v, hr, hq⟩ := hq
  rw [if_pos ⟨hx, hy⟩, if_neg hne] at hq
  exact ⟨v, _, hr, ⟨hq.1, rfl⟩, hq.2⟩⟩
theorem o_activateI {x y : Int} (hx : 0 ≤ x ∧ x < gk (gM S.1) (gC S.1)) (hy : 0 ≤ y ∧ y ≤ 1) (he : gA S.1 x.toNat = y) : OB m7_activate 4 [iv x, iv y] S (fun v S' => v = -1002 ∧ S' = S) := fun I F c => ⟨_, s7_activate (by decide) c, fun r I' F' hq => by
  obtain ⟨v, hr, hq⟩ := hq
  rw [if_pos ⟨hx, hy⟩, if_pos he] at hq
  exact ⟨v, _, hr, ⟨hq.1, rfl⟩, hq.2⟩⟩
theorem o_activate0 {x y : Int} (h0 : ¬ ((0 ≤ x ∧ x < gk (gM S.1) (gC S.1)) ∧ 0 ≤ y ∧ y ≤ 1)) : OB m7_activate 4 [iv x, iv y] S (fun v S' => v = -1001 ∧ S' = S) := fun I F c => ⟨_, s7_activate (by decide) c, fun r I' F' hq => by
  obtain ⟨v, hr, hq⟩ := hq
  rw [if_neg h0] at hq
  exact ⟨v, _, hr, ⟨hq.1, rfl⟩, hq.2⟩⟩
theorem o_isActive {x : Int} (hx : 0 ≤ x ∧ x < gk (gM S.1) (gC S.1)) : OB m7_isActive 2 [iv x] S (fun v S' => v = gA S.1 x.toNat ∧ S' = S) := (OB.r fun I F c => s7_isActive (by decide) c).i fun v S' h => by
  rw [if_pos hx] at h; exact h
theorem o_classes (hp : Pos (gM S.1) (gC S.1)) : OB m7_classes 6 [] S (fun v S' => v = ncl (gM S.1) (gC S.1) (gY S.1) (gA S.1) ∧ S' = S) := (OB.s fun I F c => s7_classes capP (by decide) c).i fun v S' h => by
  refine ⟨?_, h.2⟩
  rcases h.1 with ⟨h1, -⟩ | ⟨-, e⟩
  · exact absurd hp h1
  · exact e
theorem o_classes0 (hp : ¬ Pos (gM S.1) (gC S.1)) : OB m7_classes 6 [] S (fun v S' => v = -1002 ∧ S' = S) := (OB.s fun I F c => s7_classes capP (by decide) c).i fun v S' h => by
  refine ⟨?_, h.2⟩
  rcases h.1 with ⟨-, e⟩ | ⟨h1, -⟩
  · exact e
  · exact absurd h1 hp
/-- from the point -/
noncomputable def sto (S : Sx) (x : Int) : Int := stp (gM S.1) (gC S.1) (gY S.1) (gA S.1) (ixo (gM S.1) (gC S.1) (gY S.1) (gY S.1)) x
theorem o_distance {x : Int} (hp : Pos (gM S.1) (gC S.1)) (hx : 0 ≤ x) : OB m7_distance 6 [iv x] S (fun v S' => v = (if sto S x < 0 then -1009 else sto S x) ∧ S' = S) := (OB.s fun I F c => s7_distance capP (by decide) c).i fun v S' h => by
  refine ⟨?_, h.2⟩
  rcases h.1 with ⟨h1, -⟩ | ⟨-, ⟨h1, -⟩ | ⟨-, e⟩⟩
  · omega
  · exact absurd hp h1
  · exact e
theorem o_distanceI {x : Int} (hx : x < 0) : OB m7_distance 6 [iv x] S (fun v S' => v = -1001 ∧ S' = S) := (OB.s fun I F c => s7_distance capP (by decide) c).i fun v S' h => by
  refine ⟨?_, h.2⟩
  rcases h.1 with ⟨-, e⟩ | ⟨h1, -⟩
  · exact e
  · omega
theorem o_distance0 {x : Int} (hp : ¬ Pos (gM S.1) (gC S.1)) (hx : 0 ≤ x) : OB m7_distance 6 [iv x] S (fun v S' => v = -1002 ∧ S' = S) := (OB.s fun I F c => s7_distance capP (by decide) c).i fun v S' h => by
  refine ⟨?_, h.2⟩
  rcases h.1 with ⟨h1, -⟩ | ⟨-, ⟨-, e⟩ | ⟨h1, -⟩⟩
  · omega
  · exact e
  · exact absurd h1 hp
theorem o_isMarkov (hp : Pos (gM S.1) (gC S.1)) : OB m7_isMarkov 8 [] S (fun v S' => tf (MkO (gM S.1) (gC S.1) (gA S.1)) v ∧ S' = S) := (OB.s fun I F c => s7_isMarkov capE (by decide) c).i fun v S' h => by
  refine ⟨?_, h.2⟩
  rcases h.1 with ⟨h1, -⟩ | ⟨-, e⟩
  · exact absurd hp h1
  · exact e
theorem o_isMarkov0 (hp : ¬ Pos (gM S.1) (gC S.1)) : OB m7_isMarkov 8 [] S (fun v S' => v = -1002 ∧ S' = S) := (OB.s fun I F c => s7_isMarkov capE (by decide) c).i fun v S' h => by
  refine ⟨?_, h.2⟩
  rcases h.1 with ⟨-, e⟩ | ⟨h1, -⟩
  · exact e
  · exact absurd h1 hp
noncomputable def rdS (S : Sx) : Nat → Int := rdA (gM S.1) (gC S.1) (gk (gM S.1) (gC S.1)).toNat (gA S.1)
theorem o_reduce (hp : Pos (gM S.1) (gC S.1)) (hm : MkO (gM S.1) (gC S.1) (gA S.1)) : OB m7_reduce 8 [] S (fun v S' => v = ons (rdS S) 16 ∧ S' = stA (psh S) (rdS S)) := fun I F c => ⟨_, s7_reduce capE (by decide) c, fun r I' F' hq => by
  obtain ⟨v, hr, hq⟩ := hq
  rcases hq with ⟨h1, -, -⟩ | ⟨-, h2, h3⟩
  · exact absurd ⟨hp, hm⟩ h1
  · exact ⟨v, _, hr, ⟨h2, rfl⟩, h3⟩⟩
theorem o_reduce0 (h0 : ¬ (Pos (gM S.1) (gC S.1) ∧ MkO (gM S.1) (gC S.1) (gA S.1))) : OB m7_reduce 8 [] S (fun v S' => v = -1002 ∧ S' = S) := fun I F c => ⟨_, s7_reduce capE (by decide) c, fun r I' F' hq => by
  obtain ⟨v, hr, hq⟩ := hq
  rcases hq with ⟨-, h2, h3⟩ | ⟨h1, -, -⟩
  · exact ⟨v, _, hr, ⟨h2, rfl⟩, h3⟩
  · exact absurd h1 h0⟩
theorem o_undo (h0 : S.2.1.1 ≠ 0) : OB m7_undo 5 [] S (fun v S' => v = (S.2.1.1 : Int) - 1 ∧ S' = pop S) := fun I F c => ⟨_, s7_undo capB (by decide) c, fun r I' F' hq => by
  obtain ⟨v, hr, hq⟩ := hq
  rw [if_neg h0] at hq
  exact ⟨v, _, hr, ⟨hq.1, rfl⟩, hq.2⟩⟩
end OPS
/-- what a told state is known to be -/
def SF (S : Sx) : Prop := SV S.1 ∧ Bas (gM S.1) (gC S.1) (gk (gM S.1) (gC S.1), grk (gM S.1) (gC S.1), gE (gM S.1) (gC S.1)) ∧ (0 ≤ gk (gM S.1) (gC S.1) ∧ gk (gM S.1) (gC S.1) ≤ 15)
theorem CI.sf {S : Sx} {I : IE} {F : FE} (h : CI S I F) : SF S := by
  have hV := h.1.1
  obtain ⟨b1, b2, b3, b, b4, b5⟩ := h.2.2.2.1
  obtain ⟨q1, q2, q3, q4⟩ := (show Bas (gM S.1) (gC S.1) (I 42 0, I 42 1, en F) from ⟨b2.1, b, b4, b5⟩).eq (by have := hV.2.1; omega)
  exact ⟨hV, q4, by rw [← q1]; exact b2⟩
theorem bas_el {M : Int → Int} {n e : Int} (hB : Bas M n (gk M n, grk M n, gE M n)) (he : 0 ≤ e ∧ e < gk M n) : KerF M n (gE M n e) ∧ (∀ j, 0 ≤ j ∧ j < n → -9 ≤ gE M n e j ∧ gE M n e j ≤ 9) ∧ lead (gE M n e) n ∧ ∀ j, n ≤ j ∧ j < 4 → gE M n e j = 0 := by
  obtain ⟨k0, b, hP, hS⟩ := hB
  have b9 := hP.b9.2.2
  obtain ⟨h1, h2, h3, h4⟩ := hS.1 e he
  exact ⟨h1, fun j hj => by have := h2 j hj; dsimp only at this; omega, h3, h4⟩
theorem bas_uq {M : Int → Int} {n e e' s : Int} (hB : Bas M n (gk M n, grk M n, gE M n)) (he : 0 ≤ e ∧ e < gk M n) (he' : 0 ≤ e' ∧ e' < gk M n) (hs : s = 1 ∨ s = -1) (h : ∀ j, 0 ≤ j ∧ j < n → gE M n e j = s * gE M n e' j) : e = e' ∧ s = 1 := by
  have l1 := (bas_el hB he).2.2.1
  have l2 := (bas_el hB he').2.2.1
  obtain ⟨k0, b, hP, hS⟩ := hB
  have s1 : s = 1 := by
    rcases hs with rfl | rfl
    · rfl
    · exfalso
      refine lead_neg l2 (lead_ext l1 (fun j hj => ?_))
      rw [h j hj]; omega
  subst s1
  refine ⟨?_, rfl⟩
  rcases Int.lt_trichotomy e e' with hl | hl | hl
  · exact absurd (fun j hj => by dsimp only; rw [h j hj, Int.one_mul]; exact c1_rf _) (hS.2.1 e e' ⟨he.1, hl, he'.2⟩).2.1
  · exact hl
  · exact absurd (fun j hj => by dsimp only; rw [h j hj, Int.one_mul]; exact c1_rf _) (hS.2.1 e' e ⟨he'.1, hl, he.2⟩).2.1
theorem psh_c (S : Sx) : (psh S).2.1.1 ≠ 0 ∧ (psh S).1 = S.1 := by
  unfold psh
  refine ⟨?_, rfl⟩
  dsimp only
  split <;> simp
/-- taken back at once, the state is the old one -/
theorem pop_psh (S : Sx) (σ : Sg) : (pop (σ, (psh S).2)).1 = S.1 := by
  show (psh S).2.1.2 ((psh S).2.1.1 - 1) = S.1
  unfold psh
  dsimp only
  by_cases h : S.2.1.1 = 8
  · simp only [if_pos h]
    rw [if_neg (by omega)]
  · simp only [if_neg h, Nat.add_sub_cancel]
    exact if_pos trivial
