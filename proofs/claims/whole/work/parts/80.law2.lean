section PAIRS
-- an operation of both sides: from the same told state the same answer, and the same told state behind it
def Par (μ1 μ2 : MI) (as : List AV) : Prop := ∀ (S : Sx) (I1 I2 : IE) (F1 F2 : FE), CI S I1 F1 → DI S I2 F2 → ∃ P1 P2 : Option AV → IE → FE → Prop, MG μ1 9 shX (rv 0 :: as) I1 F1 P1 ∧ MG μ2 9 shM (rv 0 :: as) I2 F2 P2 ∧ (∀ r I' F', P1 r I' F' → ∃ v, r = some (.inl v)) ∧ ∀ r1 r2 I1' I2' F1' F2', P1 r1 I1' F1' → P2 r2 I2' F2' → ∃ v S', r1 = some (.inl v) ∧ r2 = some (.inl v) ∧ CI S' I1' F1' ∧ DI S' I2' F2'
theorem par_b {μ1 μ2 : MI} {as : List AV} (h : ∀ (S : Sx) (I1 I2 : IE) (F1 F2 : FE), CI S I1 F1 → DI S I2 F2 → ∃ P1 P2 : Int → IE → FE → Prop, MB μ1 9 shX (rv 0 :: as) I1 F1 P1 ∧ MB μ2 9 shM (rv 0 :: as) I2 F2 P2 ∧ ∀ v1 v2 I1' I2' F1' F2', P1 v1 I1' F1' → P2 v2 I2' F2' → v1 = v2 ∧ ∃ S', CI S' I1' F1' ∧ DI S' I2' F2') : Par μ1 μ2 as := fun S I1 I2 F1 F2 h1 h2 => by
  obtain ⟨P1, P2, a, b, hP⟩ := h S I1 I2 F1 F2 h1 h2
  refine ⟨_, _, a, b, fun r I' F' ⟨v, h, _⟩ => ⟨v, h⟩, fun r1 r2 I1' I2' F1' F2' a1 a2 => ?_⟩
  obtain ⟨v1, rfl, a1⟩ := a1
  obtain ⟨v2, rfl, a2⟩ := a2
  obtain ⟨rfl, S', c1, c2⟩ := hP _ _ _ _ _ _ a1 a2
  exact ⟨v1, S', rfl, rfl, c1, c2⟩
theorem tf_eq {P : Prop} {v w : Int} (h : tf P v) (g : tf P w) : v = w := by
  rcases h with ⟨h1, h2⟩ | ⟨h1, h2⟩ <;> rcases g with ⟨g1, g2⟩ | ⟨g1, g2⟩
  · omega
  · exact absurd h2 g2
  · exact absurd g2 h2
  · omega
theorem p_configure (x y : Int) : Par m7_configure m8_configure [iv x, iv y] := par_b fun S I1 I2 F1 F2 h1 h2 => ⟨_, _, s7_configure capB (by decide) h1, r_configure capG bndG (by decide) h2, fun v1 v2 I1' I2' F1' F2' a1 a2 => by
  by_cases c : (1 ≤ x ∧ x ≤ 2) ∧ 2 ≤ y ∧ y ≤ 4
  · rw [if_pos c] at a1 a2; exact ⟨a1.1.trans a2.1.symm, _, a1.2, a2.2⟩
  · rw [if_neg c] at a1 a2; exact ⟨a1.1.trans a2.1.symm, _, a1.2, a2.2⟩⟩
theorem p_setEntry (x y z : Int) : Par m7_setEntry m8_setEntry [iv x, iv y, iv z] := par_b fun S I1 I2 F1 F2 h1 h2 => ⟨_, _, s7_setEntry capB (by decide) h1, r_setEntry capG bndG (by decide) h2, fun v1 v2 I1' I2' F1' F2' a1 a2 => by
  by_cases c : ((0 ≤ x ∧ x < gR S.1) ∧ 0 ≤ y ∧ y < gC S.1) ∧ 0 ≤ z ∧ z ≤ 3
  · rw [if_pos c] at a1 a2
    by_cases c2 : gM S.1 (x * 4 + y) = z
    · rw [if_pos c2] at a1 a2; exact ⟨a1.1.trans a2.1.symm, _, a1.2, a2.2⟩
    · rw [if_neg c2] at a1 a2; exact ⟨a1.1.trans a2.1.symm, _, a1.2, a2.2⟩
  · rw [if_neg c] at a1 a2; exact ⟨a1.1.trans a2.1.symm, _, a1.2, a2.2⟩⟩
theorem p_append (x : Int) : Par m7_append m8_append [iv x] := par_b fun S I1 I2 F1 F2 h1 h2 => ⟨_, _, s7_append (by decide) h1, r_append (by decide) h2, fun v1 v2 I1' I2' F1' F2' a1 a2 => by
  rcases a1 with ⟨c, e, g⟩ | ⟨c, ⟨c2, e, g⟩ | ⟨c2, e, g⟩⟩ <;> rcases a2 with ⟨c', e', g'⟩ | ⟨c', ⟨c2', e', g'⟩ | ⟨c2', e', g'⟩⟩
  · exact ⟨e.trans e'.symm, _, g, g'⟩
  · exact absurd c' c
  · exact absurd c' c
  · exact absurd c c'
  · exact ⟨e.trans e'.symm, _, g, g'⟩
  · omega
  · exact absurd c c'
  · omega
  · exact ⟨e.trans e'.symm, _, g, g'⟩⟩
theorem p_clearText : Par m7_clearText m8_clearText [] := par_b fun S I1 I2 F1 F2 h1 h2 => ⟨_, _, s7_clearText h1, r_clearText h2, fun v1 v2 I1' I2' F1' F2' a1 a2 => ⟨a1.1.trans a2.1.symm, _, a1.2, a2.2⟩⟩
theorem par_r {μ1 μ2 : MI} {as : List AV} (h : ∀ (S : Sx) (I1 I2 : IE) (F1 F2 : FE), CI S I1 F1 → DI S I2 F2 → ∃ v, MR μ1 9 shX (rv 0 :: as) I1 F1 v ∧ MR μ2 9 shM (rv 0 :: as) I2 F2 v) : Par μ1 μ2 as := fun S I1 I2 F1 F2 h1 h2 => by
  obtain ⟨v, a, b⟩ := h S I1 I2 F1 F2 h1 h2
  refine ⟨_, _, a, b, fun r I' F' h => ⟨_, h.1⟩, fun r1 r2 I1' I2' F1' F2' a1 a2 => ?_⟩
  obtain ⟨rfl, rfl, rfl⟩ := a1
  obtain ⟨rfl, rfl, rfl⟩ := a2
  exact ⟨v, S, rfl, rfl, h1, h2⟩
theorem par_p {μ1 μ2 : MI} {as : List AV} (h : ∀ (S : Sx) (I1 I2 : IE) (F1 F2 : FE), CI S I1 F1 → DI S I2 F2 → ∃ P : Int → Prop, MP μ1 9 shX (rv 0 :: as) I1 F1 P ∧ MP μ2 9 shM (rv 0 :: as) I2 F2 P ∧ ∀ v w, P v → P w → v = w) : Par μ1 μ2 as := fun S I1 I2 F1 F2 h1 h2 => by
  obtain ⟨P, a, b, hP⟩ := h S I1 I2 F1 F2 h1 h2
  refine ⟨_, _, a, b, fun r I' F' ⟨v, h, _⟩ => ⟨v, h⟩, fun r1 r2 I1' I2' F1' F2' a1 a2 => ?_⟩
  obtain ⟨v1, rfl, p1, rfl, rfl⟩ := a1
  obtain ⟨v2, rfl, p2, rfl, rfl⟩ := a2
  exact ⟨v1, S, rfl, by rw [hP _ _ p1 p2], h1, h2⟩
theorem p_entry (x y : Int) : Par m7_entry m8_entry [iv x, iv y] := par_r fun S I1 I2 F1 F2 h1 h2 => ⟨_, s7_entry (by decide) h1, r_entry (by decide) h2⟩
theorem p_rank : Par m7_rank m8_rank [] := par_r fun S I1 I2 F1 F2 h1 h2 => ⟨_, s7_rank h1, r_rank (by decide) h2⟩
theorem p_isPositive : Par m7_isPositive m8_isPositive [] := par_p fun S I1 I2 F1 F2 h1 h2 => ⟨_, s7_isPositive (by decide) h1, r_isPositive (by decide) h2, fun v w => tf_eq⟩
theorem p_graverCount : Par m7_graverCount m8_graverCount [] := par_r fun S I1 I2 F1 F2 h1 h2 => ⟨_, s7_graverCount h1, r_graverCount h2⟩
theorem p_graverEntry (x y : Int) : Par m7_graverEntry m8_graverEntry [iv x, iv y] := par_r fun S I1 I2 F1 F2 h1 h2 => ⟨_, s7_graverEntry (by decide) h1, r_graverEntry (by decide) h2⟩
theorem p_isCircuit (x : Int) : Par m7_isCircuit m8_isCircuit [iv x] := par_p fun S I1 I2 F1 F2 h1 h2 => ⟨_, s7_isCircuit (by decide) h1, r_isCircuit (by decide) h2, fun v w a b => by
  split at a <;> split at b
  · exact tf_eq a b
  · contradiction
  · contradiction
  · exact a.trans b.symm⟩
-- an answer behind up to two refusals, the told state as it was
theorem par_s {μ1 μ2 : MI} {as : List AV} (h : ∀ (S : Sx) (I1 I2 : IE) (F1 F2 : FE), CI S I1 F1 → DI S I2 F2 → ∃ P1 P2 : Int → Prop, MB μ1 9 shX (rv 0 :: as) I1 F1 (fun v I' F' => CI S I' F' ∧ P1 v) ∧ MB μ2 9 shM (rv 0 :: as) I2 F2 (fun v I' F' => DI S I' F' ∧ P2 v) ∧ ∀ v w, P1 v → P2 w → v = w) : Par μ1 μ2 as := par_b fun S I1 I2 F1 F2 h1 h2 => by
  obtain ⟨P1, P2, a, b, hP⟩ := h S I1 I2 F1 F2 h1 h2
  exact ⟨_, _, a, b, fun v1 v2 I1' I2' F1' F2' a1 a2 => ⟨hP _ _ a1.2 a2.2, S, a1.1, a2.1⟩⟩
theorem or_eq {p q : Prop} {a : Int} {R1 R2 : Prop} {v w : Int} (hpq : p → ¬ q) (h1 : (p ∧ v = a) ∨ q ∧ R1) (h2 : (p ∧ w = a) ∨ q ∧ R2) (hR : q → R1 → R2 → v = w) : v = w := by
  rcases h1 with ⟨h, e⟩ | ⟨h, e⟩ <;> rcases h2 with ⟨g, f⟩ | ⟨g, f⟩
  · exact e.trans f.symm
  · exact absurd g (hpq h)
  · exact absurd h (hpq g)
  · exact hR h e f
theorem p_isIndispensable (x : Int) : Par m7_isIndispensable m8_isIndispensable [iv x] := par_s fun S I1 I2 F1 F2 h1 h2 => ⟨_, _, s7_isIndispensable capE (by decide) h1, r_isIndispensable capER (by decide) h2, fun v w a b => by
  refine or_eq (hpq := ?_) (h1 := a) (h2 := b) (hR := ?_)
  · exact fun h g => h g
  intro hp a b
  refine or_eq (hpq := ?_) (h1 := a) (h2 := b) (hR := ?_)
  · exact fun h g => h g
  intro hp a b
  exact tf_eq a b⟩
theorem p_setVector (x y : Int) : Par m7_setVector m8_setVector [iv x, iv y] := par_b fun S I1 I2 F1 F2 h1 h2 => ⟨_, _, s7_setVector (by decide) h1, r_setVector (by decide) h2, fun v1 v2 I1' I2' F1' F2' a1 a2 => by
  by_cases c : (0 ≤ x ∧ x < gC S.1) ∧ -30 ≤ y ∧ y ≤ 30
  · rw [if_pos c] at a1 a2; exact ⟨a1.1.trans a2.1.symm, _, a1.2, a2.2⟩
  · rw [if_neg c] at a1 a2; exact ⟨a1.1.trans a2.1.symm, _, a1.2, a2.2⟩⟩
theorem p_isInKernel : Par m7_isInKernel m8_isInKernel [] := par_p fun S I1 I2 F1 F2 h1 h2 => ⟨_, s7_isInKernel (by decide) h1, r_isInKernel (by decide) h2, fun v w => tf_eq⟩
theorem di_bas {S : Sx} {I : IE} {F : FE} (h : DI S I F) : (2 ≤ gC S.1 ∧ gC S.1 ≤ 4) ∧ (∀ j, 0 ≤ gM S.1 j ∧ gM S.1 j ≤ 3) ∧ Bas (gM S.1) (gC S.1) (gk (gM S.1) (gC S.1), grk (gM S.1) (gC S.1), gE (gM S.1) (gC S.1)) := ⟨h.1.1.2.1, h.1.1.2.2.1, h.2.1.2.2.2⟩
theorem p_decompositionLength : Par m7_decompositionLength m8_decompositionLength [] := par_s fun S I1 I2 F1 F2 h1 h2 => ⟨_, _, s7_decompositionLength (by decide) h1, r_decompositionLength (by decide) h2 (hex (di_bas h2).1 (di_bas h2).2.1 (di_bas h2).2.2), fun v w a b => by
  refine or_eq (hpq := ?_) (h1 := a) (h2 := b) (hR := ?_)
  · exact fun h g => h g
  intro hp a b
  obtain ⟨len, seq, d1, rfl⟩ := a
  obtain ⟨len', R, C, d2, rfl⟩ := b
  rw [(dec_eq (di_bas h2).2.2 d2 d1).1]⟩
theorem p_decompositionStep (x : Int) : Par m7_decompositionStep m8_decompositionStep [iv x] := par_s fun S I1 I2 F1 F2 h1 h2 => ⟨_, _, s7_decompositionStep (by decide) h1, r_decompositionStep (by decide) h2 (hex (di_bas h2).1 (di_bas h2).2.1 (di_bas h2).2.2), fun v w a b => by
  rcases a with ⟨c, e⟩ | ⟨c, c2, e⟩ | ⟨c, c2, len, seq, d1, e⟩ <;> rcases b with ⟨c', e'⟩ | ⟨c', c2', e'⟩ | ⟨c', c2', len', R, C, d2, e'⟩
  · exact e.trans e'.symm
  · omega
  · omega
  · omega
  · exact e.trans e'.symm
  · exact absurd c2' c2
  · omega
  · exact absurd c2 c2'
  · obtain ⟨q1, q2⟩ := dec_eq (di_bas h2).2.2 d2 d1
    subst q1
    rw [e, e']
    by_cases hx : x < (len' : Int)
    · rw [if_pos hx, if_pos hx, ← q2 x.toNat (by omega), show ((x.toNat : Nat) : Int) = x by omega]
    · rw [if_neg hx, if_neg hx]⟩
theorem p_setPoint (x y : Int) : Par m7_setPoint m8_setPoint [iv x, iv y] := par_b fun S I1 I2 F1 F2 h1 h2 => ⟨_, _, s7_setPoint (by decide) h1, r_setPoint (by decide) h2, fun v1 v2 I1' I2' F1' F2' a1 a2 => by
  by_cases c : (0 ≤ x ∧ x < gC S.1) ∧ 0 ≤ y ∧ y ≤ 5
  · rw [if_pos c] at a1 a2; exact ⟨a1.1.trans a2.1.symm, _, a1.2, a2.2⟩
  · rw [if_neg c] at a1 a2; exact ⟨a1.1.trans a2.1.symm, _, a1.2, a2.2⟩⟩
theorem p_fiberSize : Par m7_fiberSize m8_fiberSize [] := par_s fun S I1 I2 F1 F2 h1 h2 => ⟨_, _, s7_fiberSize capP (by decide) h1, r_fiberSize capPR (by decide) h2, fun v w a b => by
  refine or_eq (hpq := ?_) (h1 := a) (h2 := b) (hR := ?_)
  · exact fun h g => h g
  intro hp a b
  exact a.trans b.symm⟩
theorem p_fiberEntry (x y : Int) : Par m7_fiberEntry m8_fiberEntry [iv x, iv y] := par_s fun S I1 I2 F1 F2 h1 h2 => ⟨_, _, s7_fiberEntry capP (by decide) h1, r_fiberEntry capPR (by decide) h2, fun v w a b => by
  refine or_eq (hpq := ?_) (h1 := a) (h2 := b) (hR := ?_)
  · exact fun h g => h g
  intro hp a b
  refine or_eq (hpq := ?_) (h1 := a) (h2 := b) (hR := ?_)
  · exact fun h g => h g
  intro hp a b
  exact a.trans b.symm⟩
theorem p_activate (x y : Int) : Par m7_activate m8_activate [iv x, iv y] := par_b fun S I1 I2 F1 F2 h1 h2 => ⟨_, _, s7_activate (by decide) h1, r_activate (by decide) h2, fun v1 v2 I1' I2' F1' F2' a1 a2 => by
  by_cases c : (0 ≤ x ∧ x < gk (gM S.1) (gC S.1)) ∧ 0 ≤ y ∧ y ≤ 1
  · rw [if_pos c] at a1 a2
    by_cases c2 : gA S.1 x.toNat = y
    · rw [if_pos c2] at a1 a2; exact ⟨a1.1.trans a2.1.symm, _, a1.2, a2.2⟩
    · rw [if_neg c2] at a1 a2; exact ⟨a1.1.trans a2.1.symm, _, a1.2, a2.2⟩
  · rw [if_neg c] at a1 a2; exact ⟨a1.1.trans a2.1.symm, _, a1.2, a2.2⟩⟩
theorem p_isActive (x : Int) : Par m7_isActive m8_isActive [iv x] := par_r fun S I1 I2 F1 F2 h1 h2 => ⟨_, s7_isActive (by decide) h1, r_isActive (by decide) h2⟩
theorem p_classes : Par m7_classes m8_classes [] := par_s fun S I1 I2 F1 F2 h1 h2 => ⟨_, _, s7_classes capP (by decide) h1, r_classes capPR (by decide) h2, fun v w a b => by
  refine or_eq (hpq := ?_) (h1 := a) (h2 := b) (hR := ?_)
  · exact fun h g => h g
  intro hp a b
  exact a.trans b.symm⟩
theorem p_distance (x : Int) : Par m7_distance m8_distance [iv x] := par_s fun S I1 I2 F1 F2 h1 h2 => ⟨_, _, s7_distance capP (by decide) h1, r_distance capPR (by decide) h2, fun v w a b => by
  refine or_eq (hpq := ?_) (h1 := a) (h2 := b) (hR := ?_)
  · intro h g; omega
  intro hp a b
  refine or_eq (hpq := ?_) (h1 := a) (h2 := b) (hR := ?_)
  · exact fun h g => h g
  intro hp a b
  exact a.trans b.symm⟩
theorem p_isMarkov : Par m7_isMarkov m8_isMarkov [] := par_s fun S I1 I2 F1 F2 h1 h2 => ⟨_, _, s7_isMarkov capE (by decide) h1, r_isMarkov capER (by decide) h2, fun v w a b => by
  refine or_eq (hpq := ?_) (h1 := a) (h2 := b) (hR := ?_)
  · exact fun h g => h g
  intro hp a b
  rw [mk_eq (di_bas h2).1 (di_bas h2).2.1 hp (di_bas h2).2.2] at a
  exact tf_eq a b⟩
theorem p_reduce : Par m7_reduce m8_reduce [] := par_b fun S I1 I2 F1 F2 h1 h2 => ⟨_, _, s7_reduce capE (by decide) h1, r_reduce capER (by decide) h2, fun v1 v2 I1' I2' F1' F2' a1 a2 => by
  obtain ⟨hn, hM, hB⟩ := di_bas h2
  have e : Pos (gM S.1) (gC S.1) ∧ MkO (gM S.1) (gC S.1) (gA S.1) ↔ Pos (gM S.1) (gC S.1) ∧ MkA (gM S.1) (gC S.1) (gA S.1) := and_congr_right fun hp => mk_eq hn hM hp hB
  rcases a1 with ⟨c, v, g⟩ | ⟨c, v, g⟩ <;> rcases a2 with ⟨c', v', g'⟩ | ⟨c', v', g'⟩
  · exact ⟨v.trans v'.symm, _, g, g'⟩
  · exact absurd (e.2 c') c
  · exact absurd (e.1 c) c'
  · have k0 : 0 ≤ gk (gM S.1) (gC S.1) := hB.1
    have r := rd_eq hn hM c'.1 hB (gk (gM S.1) (gC S.1)).toNat (gA S.1) (by omega) c'.2
    rw [← r] at v' g'
    exact ⟨v.trans v'.symm, _, g, g'⟩⟩
theorem p_undo : Par m7_undo m8_undo [] := par_b fun S I1 I2 F1 F2 h1 h2 => ⟨_, _, s7_undo capB (by decide) h1, r_undo capG bndG (by decide) h2, fun v1 v2 I1' I2' F1' F2' a1 a2 => by
  by_cases c : S.2.1.1 = 0
  · rw [if_pos c] at a1 a2; exact ⟨a1.1.trans a2.1.symm, _, a1.2, a2.2⟩
  · rw [if_neg c] at a1 a2; exact ⟨a1.1.trans a2.1.symm, _, a1.2, a2.2⟩⟩
theorem prun_none {c : Int → Int} {k : Nat} (h : prun c k = none) : ∀ i, prun c (k + i) = none
  | 0 => h
  | i + 1 => by
    show (prun c (k + i)).bind (pstep (c ((k + i : Nat) : Int))) = none
    rw [prun_none h i]; rfl
theorem prun_lt {c : Int → Int} {k k' : Nat} {p : PSt} (h : prun c (k + 1) = none) (g : prun c k' = some p) : k' ≤ k := by
  rcases Nat.lt_or_ge k k' with hl | hl
  · have := prun_none h (k' - (k + 1))
    rw [show k + 1 + (k' - (k + 1)) = k' by omega, g] at this
    cases this
  · exact hl
theorem perr_uniq {c : Int → Int} {n : Nat} {v w : Int} (hv : 0 ≤ v) (hw : 0 ≤ w) (h : PErr c n v) (g : PErr c n w) : v = w := by
  rcases h with ⟨k, p, h1, h2, h3, h4⟩ | ⟨p, h2, h3, h4⟩ | ⟨p, _, _, h4⟩ <;> rcases g with ⟨k', p', g1, g2, g3, g4⟩ | ⟨p', g2, g3, g4⟩ | ⟨p', _, _, g4⟩
  · have := prun_lt h3 g2; have := prun_lt g3 h2; omega
  · have := prun_lt h3 g2; omega
  · omega
  · have := prun_lt g3 h2; omega
  · omega
  · omega
  · omega
  · omega
  · omega
theorem perr_no {c : Int → Int} {n : Nat} {v : Int} {p : PSt} (hv : 0 ≤ v) (h : PErr c n v) (g : prun c n = some p) (ge : pend p) : False := by
  rcases h with ⟨k, p', h1, h2, h3, h4⟩ | ⟨p', h2, h3, h4⟩ | ⟨p', _, _, h4⟩
  · have := prun_lt h3 g; omega
  · rw [g] at h2; cases h2; exact h3 ge
  · omega
theorem p_loadText : Par m7_loadText m8_loadText [] := par_b fun S I1 I2 F1 F2 h1 h2 => ⟨_, _, s7_loadText capB (by decide) h1, r_loadText capG bndG (by decide) h2, fun v1 v2 I1' I2' F1' F2' a1 a2 => by
  rcases a1 with ⟨w, w0, e, hv, c⟩ | ⟨p, e, ep, hv, c⟩ <;> rcases a2 with ⟨w', w0', e', hv', c'⟩ | ⟨p', e', ep', hv', c'⟩
  · have := perr_uniq w0 w0' e e'
    subst this
    exact ⟨hv.trans hv'.symm, _, c, c'⟩
  · exact (perr_no w0 e e' ep').elim
  · exact (perr_no w0' e' e ep).elim
  · rw [e] at e'
    cases e'
    exact ⟨hv.trans hv'.symm, _, c, c'⟩⟩
end PAIRS
