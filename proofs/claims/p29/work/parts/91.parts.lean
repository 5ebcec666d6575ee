section PARTS
variable {d n0 : Nat} {Q : PQ} {S0 : Sx} {G : FE}
/-- a state like S0 but for the point -/
def PV (G F : FE) : Prop := ∀ a, 62 ≤ a → a ≠ 63 → F a = G a
/-- the entries of the element e -/
theorem lpK2 {k e all : Int} {S : Sx} (hd : 8 ≤ d) (hE : EqM S0 S) (hS : SF S0) (hM : G 62 1 = gC S0.1) (he : 0 ≤ e ∧ e < gk (gM S0.1) (gC S0.1))
    (K : ∀ sm x7 x8 x9 x10 x11 I F, CI S I F → PV G F → (∀ j, 0 ≤ j ∧ j < 4 → F 63 j = gp (gM S0.1) (gC S0.1) e 1 j) → tf (∀ j, 0 ≤ j ∧ j < 4 → gE (gM S0.1) (gC S0.1) e j < 6) sm → WS mL_parts d 0 0 n0 Q 0 0 91 [lr 0, lr 62, lr 63, li k, li all, li e, li sm, x7, x8, x9, x10, x11] [] shL I F) :
    ∀ (w q : Nat) (sm : Int) (x8 x9 x10 x11 : Option AV) (I : IE) (F : FE), q + w = 4 → CI S I F → PV G F → (∀ j, 0 ≤ j ∧ j < (q : Int) → F 63 j = gp (gM S0.1) (gC S0.1) e 1 j) → tf (∀ j, 0 ≤ j ∧ j < (q : Int) → gE (gM S0.1) (gC S0.1) e j < 6) sm → WS mL_parts d 0 0 n0 Q 0 0 23 [lr 0, lr 62, lr 63, li k, li all, li e, li sm, li q, x8, x9, x10, x11] [] shL I F := by
  intro w
  induction w with
  | zero =>
    intro q sm x8 x9 x10 x11 I F hq hC hV hp hsm
    obtain rfl : q = 4 := by omega
    refine w_iload iL_parts_23 rfl ?_
    refine w_const iL_parts_25 ?_
    refine w_icmpge iL_parts_26 (fun h26 => ?_) (fun h_ => absurd h_ (by omega))
    exact K sm _ _ _ _ _ I F hC hV hp hsm
  | succ w ih =>
    intro q sm x8 x9 x10 x11 I F hq hC hV hp hsm
    have hn := hS.1.2.1
    have el := bas_el hS.2.1 he
    have gm : gM S.1 = gM S0.1 := hE.2.2.1
    have gc : gC S.1 = gC S0.1 := hE.2.1
    have eb : -9 ≤ gE (gM S0.1) (gC S0.1) e q ∧ gE (gM S0.1) (gC S0.1) e q ≤ 9 := by
      by_cases c : (q : Int) < gC S0.1
      · exact el.2.1 q ⟨by omega, c⟩
      · rw [el.2.2.2 q ⟨by omega, by omega⟩]; decide
    -- behind the entry
    have c49 : ∀ (v : Int) (I1 : IE) (F1 : FE), CI S I1 F1 → (∀ a, 62 ≤ a → F1 a = F a) → v = gE (gM S0.1) (gC S0.1) e q → WS mL_parts d 0 0 n0 Q 0 0 49 [lr 0, lr 62, lr 63, li k, li all, li e, li sm, li q, x8, x9, x10, x11] [.inl v] shL I1 F1 := fun v I1 F1 hC1 hF1 hv => by
      have nx : ∀ (sm' : Int) (x : Int), x = gp (gM S0.1) (gC S0.1) e 1 q → tf (∀ j, 0 ≤ j ∧ j < (q : Int) + 1 → gE (gM S0.1) (gC S0.1) e j < 6) sm' → WS mL_parts d 0 0 n0 Q 0 0 84 [lr 0, lr 62, lr 63, li k, li all, li e, li sm', li q, li v, x9, x10, x11] [.inl x, .inl (q : Int), .inr (some 63)] shL I1 F1 := fun sm' x hx hsm' => by
        refine w_iast iL_parts_84 sL63 (by omega) ?_
        refine w_ii7 iL_parts_85 (by omega) ?_
        refine w_goto iL_parts_88 ?_
        refine ih (q + 1) sm' _ _ _ _ _ _ (by omega) (hC1.up (by decide)) (fun a h1 h2 => ?_) (fun j hj => ?_) hsm'
        · rw [← hV a h1 h2, ← hF1 a h1]; funext j; simp only [upF]; rw [if_neg (fun z => h2 z.1)]
        · simp only [upF, true_and]
          by_cases cj : j = (q : Int)
          · rw [if_pos cj, hx, cj]
          · rw [if_neg cj, hF1 63 (by decide)]; exact hp j (by omega)
      have gpv : gp (gM S0.1) (gC S0.1) e 1 q = if 0 < v then v else 0 := by
        unfold gp; rw [Int.one_mul, ← hv]
        split <;> split <;> omega
      have ext : (∀ j, 0 ≤ j ∧ j < (q : Int) → gE (gM S0.1) (gC S0.1) e j < 6) → v < 6 → ∀ j, 0 ≤ j ∧ j < (q : Int) + 1 → gE (gM S0.1) (gC S0.1) e j < 6 := fun h1 h2 j hj => by
        by_cases cj : j = (q : Int)
        · rw [cj, ← hv]; exact h2
        · exact h1 j (by omega)
      have s0 : ¬ (∀ j, 0 ≤ j ∧ j < (q : Int) → gE (gM S0.1) (gC S0.1) e j < 6) → tf (∀ j, 0 ≤ j ∧ j < (q : Int) + 1 → gE (gM S0.1) (gC S0.1) e j < 6) 0 := fun h => .inr ⟨rfl, fun z => h (fun j hj => z j (by omega))⟩
      have s1 : 6 ≤ v → tf (∀ j, 0 ≤ j ∧ j < (q : Int) + 1 → gE (gM S0.1) (gC S0.1) e j < 6) 0 := fun h => .inr ⟨rfl, fun z => by have := z q (by omega); omega⟩
      have nsm : sm = 0 → ¬ (∀ j, 0 ≤ j ∧ j < (q : Int) → gE (gM S0.1) (gC S0.1) e j < 6) := fun h => by
        rcases hsm with ⟨g, -⟩ | ⟨-, g⟩
        · omega
        · exact g
      have ysm : ¬ sm = 0 → ∀ j, 0 ≤ j ∧ j < (q : Int) → gE (gM S0.1) (gC S0.1) e j < 6 := fun h => by
        rcases hsm with ⟨-, g⟩ | ⟨g, -⟩
        · exact g
        · omega
      refine w_is8 iL_parts_49 ?_
      refine w_iload iL_parts_51 rfl ?_
      refine w_ifeq iL_parts_53 (fun h53 => ?_) (fun h53 => ?_)
      · refine w_const iL_parts_67 ?_
        refine w_is6 iL_parts_68 ?_
        refine w_aload iL_parts_70 rfl ?_
        refine w_iload iL_parts_71 rfl ?_
        refine w_iload iL_parts_73 rfl ?_
        refine w_ifle iL_parts_75 (fun h75 => ?_) (fun h75 => ?_)
        · refine w_const iL_parts_83 ?_
          exact nx 0 0 (by rw [gpv, if_neg (by omega)]) (s0 (nsm h53))
        · refine w_iload iL_parts_78 rfl ?_
          refine w_goto iL_parts_80 ?_
          exact nx 0 v (by rw [gpv, if_pos h75]) (s0 (nsm h53))
      · refine w_iload iL_parts_56 rfl ?_
        refine w_const iL_parts_58 ?_
        refine w_icmpge iL_parts_60 (fun h60 => ?_) (fun h60 => ?_)
        · refine w_const iL_parts_67 ?_
          refine w_is6 iL_parts_68 ?_
          refine w_aload iL_parts_70 rfl ?_
          refine w_iload iL_parts_71 rfl ?_
          refine w_iload iL_parts_73 rfl ?_
          refine w_ifle iL_parts_75 (fun h75 => ?_) (fun h75 => ?_)
          · refine w_const iL_parts_83 ?_
            exact nx 0 0 (by rw [gpv, if_neg (by omega)]) (s1 h60)
          · refine w_iload iL_parts_78 rfl ?_
            refine w_goto iL_parts_80 ?_
            exact nx 0 v (by rw [gpv, if_pos h75]) (s1 h60)
        · refine w_const iL_parts_63 ?_
          refine w_goto iL_parts_64 ?_
          refine w_is6 iL_parts_68 ?_
          refine w_aload iL_parts_70 rfl ?_
          refine w_iload iL_parts_71 rfl ?_
          refine w_iload iL_parts_73 rfl ?_
          refine w_ifle iL_parts_75 (fun h75 => ?_) (fun h75 => ?_)
          · refine w_const iL_parts_83 ?_
            exact nx 1 0 (by rw [gpv, if_neg (by omega)]) (.inl ⟨rfl, ext (ysm h53) h60⟩)
          · refine w_iload iL_parts_78 rfl ?_
            refine w_goto iL_parts_80 ?_
            exact nx 1 v (by rw [gpv, if_pos h75]) (.inl ⟨rfl, ext (ysm h53) h60⟩)
    have e62 : F 62 1 = gC S0.1 := by rw [hV 62 (by decide) (by decide)]; exact hM
    refine w_iload iL_parts_23 rfl ?_
    refine w_const iL_parts_25 ?_
    refine w_icmpge iL_parts_26 (fun h_ => absurd h_ (by omega)) (fun h26 => ?_)
    refine w_iload iL_parts_29 rfl ?_
    refine w_aload iL_parts_31 rfl ?_
    refine w_const iL_parts_32 ?_
    refine w_iald iL_parts_33 sL62 (by omega) ?_
    rw [e62]
    refine w_icmpge iL_parts_34 (fun h34 => ?_) (fun h34 => ?_)
    · refine w_const iL_parts_48 ?_
      exact c49 0 I F hC (fun _ _ => rfl) (el.2.2.2 q ⟨by omega, by omega⟩).symm
    · refine w_aload iL_parts_37 rfl ?_
      refine w_iload iL_parts_38 rfl ?_
      refine w_iload iL_parts_40 rfl ?_
      refine w_o iL_parts_42 f7_graverEntry v7_graverEntry (o_graverEntry (by rw [gm, gc]; exact he) (by rw [gc]; omega)) hC rfl rfl rfl rfl (Nat.le_of_ble_eq_true rfl) (by omega) ⟨Nat.le_refl _, Nat.le_refl _⟩ (fun v1 S1 I1 F1 hq1 hC1 hf1 => ?_)
      obtain ⟨rfl, rfl⟩ := hq1
      refine w_goto iL_parts_45 ?_
      exact c49 _ I1 F1 hC1 hf1 (by rw [gm, gc])
/-- one vector of the fiber against the negative part -/
theorem lpW {k e all sz i : Int} {S : Sx} {x6 : Option AV} (hd : 8 ≤ d) (hE : EqM S0 S) (hS : SF S0) (hp : Pos (gM S0.1) (gC S0.1)) (hM : G 62 1 = gC S0.1) (he : 0 ≤ e ∧ e < gk (gM S0.1) (gC S0.1)) (hi : 0 ≤ i ∧ i < fbm (gM S0.1) (gC S0.1) (gY S.1))
    (K : ∀ is x10 x11 I F, CI S I F → PV G F → tf (∀ j, 0 ≤ j ∧ j < gC S0.1 → fy (gM S0.1) (gC S0.1) (gY S.1) i j = gp (gM S0.1) (gC S0.1) e (-1) j) is → WS mL_parts d 0 0 n0 Q 0 0 212 [lr 0, lr 62, lr 63, li k, li all, li e, x6, li sz, li i, li is, x10, x11] [] shL I F) :
    ∀ (w q : Nat) (is : Int) (x11 : Option AV) (I : IE) (F : FE), (q + w : Int) = gC S0.1 → CI S I F → PV G F → tf (∀ j, 0 ≤ j ∧ j < (q : Int) → fy (gM S0.1) (gC S0.1) (gY S.1) i j = gp (gM S0.1) (gC S0.1) e (-1) j) is → WS mL_parts d 0 0 n0 Q 0 0 153 [lr 0, lr 62, lr 63, li k, li all, li e, x6, li sz, li i, li is, li q, x11] [] shL I F := by
  have hn := hS.1.2.1
  have gm : gM S.1 = gM S0.1 := hE.2.2.1
  have gc : gC S.1 = gC S0.1 := hE.2.1
  intro w
  induction w with
  | zero =>
    intro q is x11 I F hq hC hV his
    have e62 : F 62 1 = gC S0.1 := by rw [hV 62 (by decide) (by decide)]; exact hM
    have eq : (q : Int) = gC S0.1 := by omega
    refine w_iload iL_parts_153 rfl ?_
    refine w_aload iL_parts_155 rfl ?_
    refine w_const iL_parts_156 ?_
    refine w_iald iL_parts_157 sL62 (by omega) ?_
    rw [e62]
    refine w_icmpge iL_parts_158 (fun h158 => ?_) (fun h_ => absurd h_ (by omega))
    refine K is _ _ I F hC hV ?_
    rcases his with ⟨a, b⟩ | ⟨a, b⟩
    · exact .inl ⟨a, fun j hj => b j (by omega)⟩
    · exact .inr ⟨a, fun z => b (fun j hj => z j (by omega))⟩
  | succ w ih =>
    intro q is x11 I F hq hC hV his
    have e62 : F 62 1 = gC S0.1 := by rw [hV 62 (by decide) (by decide)]; exact hM
    have hqn : 0 ≤ (q : Int) ∧ (q : Int) < gC S0.1 := by omega
    have el := bas_el hS.2.1 he
    have eb := el.2.1 q hqn
    have gpv : gp (gM S0.1) (gC S0.1) e (-1) q = if gE (gM S0.1) (gC S0.1) e q < 0 then -gE (gM S0.1) (gC S0.1) e q else 0 := by
      unfold gp
      split <;> split <;> omega
    have nx : ∀ (is' : Int) (v : Int) (I1 : IE) (F1 : FE), CI S I1 F1 → PV G F1 → tf (∀ j, 0 ≤ j ∧ j < (q : Int) + 1 → fy (gM S0.1) (gC S0.1) (gY S.1) i j = gp (gM S0.1) (gC S0.1) e (-1) j) is' → WS mL_parts d 0 0 n0 Q 0 0 204 [lr 0, lr 62, lr 63, li k, li all, li e, x6, li sz, li i, li is, li q, li v] [.inl is'] shL I1 F1 := fun is' v I1 F1 h1 h2 h3 => by
      refine w_is9 iL_parts_204 ?_
      refine w_ii10 iL_parts_206 (by omega) ?_
      refine w_goto iL_parts_209 ?_
      exact ih (q + 1) is' _ I1 F1 (by omega) h1 h2 h3
    have yis : ¬ is = 0 → ∀ j, 0 ≤ j ∧ j < (q : Int) → fy (gM S0.1) (gC S0.1) (gY S.1) i j = gp (gM S0.1) (gC S0.1) e (-1) j := fun h => by
      rcases his with ⟨-, g⟩ | ⟨g, -⟩
      · exact g
      · omega
    refine w_iload iL_parts_153 rfl ?_
    refine w_aload iL_parts_155 rfl ?_
    refine w_const iL_parts_156 ?_
    refine w_iald iL_parts_157 sL62 (by omega) ?_
    rw [e62]
    refine w_icmpge iL_parts_158 (fun h_ => absurd h_ (by omega)) (fun h158 => ?_)
    refine w_iload iL_parts_161 rfl ?_
    refine w_ifeq iL_parts_163 (fun h163 => ?_) (fun h163 => ?_)
    · refine K is _ _ I F hC hV (.inr ⟨?_, fun z => ?_⟩)
      · exact h163
      · rcases his with ⟨g, -⟩ | ⟨-, g⟩
        · omega
        · exact g (fun j hj => z j (by omega))
    · refine w_aload iL_parts_166 rfl ?_
      refine w_iload iL_parts_167 rfl ?_
      refine w_iload iL_parts_169 rfl ?_
      refine w_o iL_parts_171 f7_graverEntry v7_graverEntry (o_graverEntry (by rw [gm, gc]; exact he) (by rw [gc]; omega)) hC rfl rfl rfl rfl (Nat.le_of_ble_eq_true rfl) (by omega) ⟨Nat.le_refl _, Nat.le_refl _⟩ (fun v1 S1 I1 F1 hq1 hC1 hf1 => ?_)
      obtain ⟨rfl, rfl⟩ := hq1
      refine w_is11 iL_parts_174 ?_
      refine w_aload iL_parts_176 rfl ?_
      refine w_iload iL_parts_177 rfl ?_
      refine w_iload iL_parts_179 rfl ?_
      refine w_o iL_parts_181 f7_fiberEntry v7_fiberEntry (o_fiberEntry (by rw [gm, gc]; exact hp) (by rw [gm, gc]; exact hi) (by rw [gc]; exact hqn)) hC1 rfl rfl rfl rfl (Nat.le_of_ble_eq_true rfl) (by omega) ⟨Nat.le_refl _, Nat.le_refl _⟩ (fun v2 S2 I2 F2 hq2 hC2 hf2 => ?_)
      obtain ⟨rfl, rfl⟩ := hq2
      have hV2 : PV G F2 := fun a h1 h2 => (hf2 a h1).trans ((hf1 a h1).trans (hV a h1 h2))
      rw [gm, gc]
      refine w_iload iL_parts_184 rfl ?_
      refine w_ifge iL_parts_186 (fun h186 => ?_) (fun h186 => ?_)
      · refine w_const iL_parts_195 ?_
        refine w_icmpne iL_parts_196 (fun h196 => ?_) (fun h196 => ?_)
        · refine w_const iL_parts_203 ?_
          refine nx 0 _ I2 F2 hC2 hV2 (.inr ⟨rfl, fun z => ?_⟩)
          have := z q (by omega)
          rw [gpv, if_neg (by omega)] at this
          exact h196 this
        · refine w_const iL_parts_199 ?_
          refine w_goto iL_parts_200 ?_
          refine nx 1 _ I2 F2 hC2 hV2 (.inl ⟨rfl, fun j hj => ?_⟩)
          by_cases cj : j = (q : Int)
          · rw [cj, gpv, if_neg (by omega)]; exact h196
          · exact yis h163 j (by omega)
      · refine w_iload iL_parts_189 rfl ?_
        refine w_ineg iL_parts_191 (by omega) ?_
        refine w_goto iL_parts_192 ?_
        refine w_icmpne iL_parts_196 (fun h196 => ?_) (fun h196 => ?_)
        · refine w_const iL_parts_203 ?_
          refine nx 0 _ I2 F2 hC2 hV2 (.inr ⟨rfl, fun z => ?_⟩)
          have := z q (by omega)
          rw [gpv, if_pos h186] at this
          exact h196 this
        · refine w_const iL_parts_199 ?_
          refine w_goto iL_parts_200 ?_
          refine nx 1 _ I2 F2 hC2 hV2 (.inl ⟨rfl, fun j hj => ?_⟩)
          by_cases cj : j = (q : Int)
          · rw [cj, gpv, if_pos h186]; exact h196
          · exact yis h163 j (by omega)
/-- the fiber of the positive part is looked through -/
theorem lpI {k e all0 : Int} {S : Sx} {x6 : Option AV} (hd : 8 ≤ d) (hE : EqM S0 S) (hS : SF S0) (hp : Pos (gM S0.1) (gC S0.1)) (hM : G 62 1 = gC S0.1) (he : 0 ≤ e ∧ e < gk (gM S0.1) (gC S0.1)) (hY : ∀ j, 0 ≤ j ∧ j < gC S0.1 → gY S.1 j = gp (gM S0.1) (gC S0.1) e 1 j)
    (K : ∀ all x8 x9 x10 x11 I F, CI S I F → PV G F → all = @ite _ (Jn (gM S0.1) (gC S0.1) (gA S0.1) e) (Classical.propDecidable _) all0 0 → WS mL_parts d 0 0 n0 Q 0 0 240 [lr 0, lr 62, lr 63, li k, li all, li e, x6, li (fbm (gM S0.1) (gC S0.1) (gY S.1)), x8, x9, x10, x11] [] shL I F) :
    ∀ (w q : Nat) (all : Int) (x9 x10 x11 : Option AV) (I : IE) (F : FE), (q + w : Int) = fbm (gM S0.1) (gC S0.1) (gY S.1) → CI S I F → PV G F → all = @ite _ (ixo (gM S0.1) (gC S0.1) (gY S.1) (gp (gM S0.1) (gC S0.1) e (-1)) < q ∧ ¬ Jn (gM S0.1) (gC S0.1) (gA S0.1) e) (Classical.propDecidable _) 0 all0 → WS mL_parts d 0 0 n0 Q 0 0 140 [lr 0, lr 62, lr 63, li k, li all, li e, x6, li (fbm (gM S0.1) (gC S0.1) (gY S.1)), li q, x9, x10, x11] [] shL I F := by
  have hn := hS.1.2.1
  have gm : gM S.1 = gM S0.1 := hE.2.2.1
  have gc : gC S.1 = gC S0.1 := hE.2.1
  have ga : gA S.1 = gA S0.1 := hE.2.2.2
  have el := bas_el hS.2.1 he
  obtain ⟨g1, g2⟩ := gp_in (M := gM S0.1) (e := e) hn el.2.1 el.1
  obtain ⟨y1, y2, y3, y4, y5⟩ := y_ext (M := gM S0.1) (n := gC S0.1) (by omega) hY
  have hF : FibP (gM S0.1) (gC S0.1) (gp (gM S0.1) (gC S0.1) e 1) (fbm (gM S0.1) (gC S0.1) (gp (gM S0.1) (gC S0.1) e 1), fbf (gM S0.1) (gC S0.1) (gp (gM S0.1) (gC S0.1) e 1)) := fibP_ok hn hp
  have cap : fbm (gM S0.1) (gC S0.1) (gp (gM S0.1) (gC S0.1) e 1) ≤ 32 := by
    obtain ⟨k0, b, hP, hBs⟩ := hS.2.1
    exact capE (gM S0.1) (gp (gM S0.1) (gC S0.1) e 1) (gC S0.1) _ b _ _ hn hS.1.2.2.1 hp hP hBs e he (fun j hj => by unfold gp; rw [Int.one_mul]) _ _ _ hF
  rw [← y1] at cap
  -- the number of the negative part
  have r2 : 0 ≤ ixo (gM S0.1) (gC S0.1) (gY S.1) (gp (gM S0.1) (gC S0.1) e (-1)) ∧ ixo (gM S0.1) (gC S0.1) (gY S.1) (gp (gM S0.1) (gC S0.1) e (-1)) < fbm (gM S0.1) (gC S0.1) (gY S.1) := by
    rw [y5 _ _ (fun _ _ => rfl), y1]; exact ix_in hn hp hF g2
  have row2 : ∀ j, 0 ≤ j ∧ j < gC S0.1 → fy (gM S0.1) (gC S0.1) (gY S.1) (ixo (gM S0.1) (gC S0.1) (gY S.1) (gp (gM S0.1) (gC S0.1) e (-1))) j = gp (gM S0.1) (gC S0.1) e (-1) j := by
    rw [fy_ext (by omega) hY, y5 _ _ (fun _ _ => rfl)]
    rw [y5 _ _ (fun _ _ => rfl), y1] at r2
    refine fy_of hn hF r2 (fun j hj => g2.1 j hj) ?_
    rcases ixo_ok (gM S0.1) (gC S0.1) (gp (gM S0.1) (gC S0.1) e 1) (gp (gM S0.1) (gC S0.1) e (-1)) with ⟨_, _, h⟩ | ⟨h, _⟩
    · exact h
    · omega
  have only : ∀ i, 0 ≤ i ∧ i < fbm (gM S0.1) (gC S0.1) (gY S.1) → ((∀ j, 0 ≤ j ∧ j < gC S0.1 → fy (gM S0.1) (gC S0.1) (gY S.1) i j = gp (gM S0.1) (gC S0.1) e (-1) j) ↔ i = ixo (gM S0.1) (gC S0.1) (gY S.1) (gp (gM S0.1) (gC S0.1) e (-1))) := fun i hi => ⟨fun h => by
    have hF1 : FibP (gM S0.1) (gC S0.1) (gY S.1) (fbm (gM S0.1) (gC S0.1) (gY S.1), fbf (gM S0.1) (gC S0.1) (gY S.1)) := fibP_ok hn hp
    have p1 := (row_pk hn hF1 hi).1
    have p2 := (row_pk hn hF1 r2).1
    have pe := pkn_ext (u := fy (gM S0.1) (gC S0.1) (gY S.1) i) (v := fy (gM S0.1) (gC S0.1) (gY S.1) (ixo (gM S0.1) (gC S0.1) (gY S.1) (gp (gM S0.1) (gC S0.1) e (-1)))) (gC S0.1).toNat (fun j hj => by rw [h j (by omega), row2 j (by omega)])
    rw [p1, p2] at pe
    rcases Int.lt_trichotomy i (ixo (gM S0.1) (gC S0.1) (gY S.1) (gp (gM S0.1) (gC S0.1) e (-1))) with hl | hl | hl
    · have := hF1.2.1 i _ ⟨hi.1, hl, r2.2⟩; dsimp only at this; omega
    · exact hl
    · have := hF1.2.1 _ i ⟨r2.1, hl, hi.2⟩; dsimp only at this; omega, fun h => by rw [h]; exact row2⟩
  have jn : 0 ≤ sto S (ixo (gM S0.1) (gC S0.1) (gY S.1) (gp (gM S0.1) (gC S0.1) e (-1))) ↔ Jn (gM S0.1) (gC S0.1) (gA S0.1) e := by
    unfold sto Jn
    rw [gm, gc, ga, y4, y5 (gY S.1) (gp (gM S0.1) (gC S0.1) e 1) hY, y5 (gp (gM S0.1) (gC S0.1) e (-1)) (gp (gM S0.1) (gC S0.1) e (-1)) (fun _ _ => rfl)]
  intro w
  induction w with
  | zero =>
    intro q all x9 x10 x11 I F hq hC hV ha
    refine w_iload iL_parts_140 rfl ?_
    refine w_iload iL_parts_142 rfl ?_
    refine w_icmpge iL_parts_144 (fun h144 => ?_) (fun h_ => absurd h_ (by omega))
    refine K all _ _ _ _ I F hC hV ?_
    rw [ha]
    by_cases c : Jn (gM S0.1) (gC S0.1) (gA S0.1) e
    · rw [if_neg (fun z => z.2 c), if_pos c]
    · rw [if_pos ⟨by omega, c⟩, if_neg c]
  | succ w ih =>
    intro q all x9 x10 x11 I F hq hC hV ha
    have hqm : 0 ≤ (q : Int) ∧ (q : Int) < fbm (gM S0.1) (gC S0.1) (gY S.1) := by omega
    have nx : ∀ (all' : Int) (x9 x10 x11 : Option AV) (I1 : IE) (F1 : FE), CI S I1 F1 → PV G F1 → all' = @ite _ (ixo (gM S0.1) (gC S0.1) (gY S.1) (gp (gM S0.1) (gC S0.1) e (-1)) < (q : Int) + 1 ∧ ¬ Jn (gM S0.1) (gC S0.1) (gA S0.1) e) (Classical.propDecidable _) 0 all0 → WS mL_parts d 0 0 n0 Q 0 0 234 [lr 0, lr 62, lr 63, li k, li all', li e, x6, li (fbm (gM S0.1) (gC S0.1) (gY S.1)), li q, x9, x10, x11] [] shL I1 F1 := fun all' x9 x10 x11 I1 F1 h1 h2 h3 => by
      refine w_ii8 iL_parts_234 (by omega) ?_
      refine w_goto iL_parts_237 ?_
      exact ih (q + 1) all' _ _ _ I1 F1 (by omega) h1 h2 h3
    have skp : ¬ (q : Int) = ixo (gM S0.1) (gC S0.1) (gY S.1) (gp (gM S0.1) (gC S0.1) e (-1)) → all = @ite _ (ixo (gM S0.1) (gC S0.1) (gY S.1) (gp (gM S0.1) (gC S0.1) e (-1)) < (q : Int) + 1 ∧ ¬ Jn (gM S0.1) (gC S0.1) (gA S0.1) e) (Classical.propDecidable _) 0 all0 := fun h => by
      rw [ha]
      by_cases c : ixo (gM S0.1) (gC S0.1) (gY S.1) (gp (gM S0.1) (gC S0.1) e (-1)) < (q : Int) ∧ ¬ Jn (gM S0.1) (gC S0.1) (gA S0.1) e
      · rw [if_pos c, if_pos ⟨by omega, c.2⟩]
      · rw [if_neg c, if_neg (fun z => c ⟨by omega, z.2⟩)]
    have stay : Jn (gM S0.1) (gC S0.1) (gA S0.1) e → all = @ite _ (ixo (gM S0.1) (gC S0.1) (gY S.1) (gp (gM S0.1) (gC S0.1) e (-1)) < (q : Int) + 1 ∧ ¬ Jn (gM S0.1) (gC S0.1) (gA S0.1) e) (Classical.propDecidable _) 0 all0 := fun h => by
      rw [ha, if_neg (fun z => z.2 h), if_neg (fun z => z.2 h)]
    have c212 : ∀ (is : Int) (x10 x11 : Option AV) (I1 : IE) (F1 : FE), CI S I1 F1 → PV G F1 → tf (∀ j, 0 ≤ j ∧ j < gC S0.1 → fy (gM S0.1) (gC S0.1) (gY S.1) q j = gp (gM S0.1) (gC S0.1) e (-1) j) is → WS mL_parts d 0 0 n0 Q 0 0 212 [lr 0, lr 62, lr 63, li k, li all, li e, x6, li (fbm (gM S0.1) (gC S0.1) (gY S.1)), li q, li is, x10, x11] [] shL I1 F1 := fun is x10 x11 I1 F1 hC1 hV1 his => by
      have iff := only q hqm
      refine w_iload iL_parts_212 rfl ?_
      refine w_ifeq iL_parts_214 (fun h214 => ?_) (fun h214 => ?_)
      · refine nx all _ _ _ I1 F1 hC1 hV1 (skp (fun z => ?_))
        have g := iff.mpr z
        rcases his with ⟨g1, -⟩ | ⟨-, g1⟩
        · omega
        · exact g1 g
      · refine w_aload iL_parts_217 rfl ?_
        refine w_iload iL_parts_218 rfl ?_
        refine w_o iL_parts_220 f7_distance v7_distance (o_distance (by rw [gm, gc]; exact hp) hqm.1) hC1 rfl rfl rfl rfl (Nat.le_of_ble_eq_true rfl) (by omega) ⟨Nat.le_refl _, Nat.le_refl _⟩ (fun v2 S2 I2 F2 hq2 hC2 hf2 => ?_)
        obtain ⟨rfl, rfl⟩ := hq2
        have hV2 : PV G F2 := fun a h1 h2 => (hf2 a h1).trans (hV1 a h1 h2)
        have hqi := iff.mp (by
          rcases his with ⟨-, g⟩ | ⟨g, -⟩
          · exact g
          · omega)
        rw [← hqi] at jn
        refine w_ifge iL_parts_223 (fun h223 => ?_) (fun h223 => ?_)
        · refine w_iload iL_parts_230 rfl ?_
          refine w_is4 iL_parts_232 ?_
          refine nx all _ _ _ I2 F2 hC2 hV2 (stay (jn.mp ?_))
          apply Classical.byContradiction
          intro z
          rw [if_pos (by omega)] at h223
          omega
        · refine w_const iL_parts_226 ?_
          refine w_goto iL_parts_227 ?_
          refine w_is4 iL_parts_232 ?_
          refine nx 0 _ _ _ I2 F2 hC2 hV2 ?_
          have hnj : ¬ Jn (gM S0.1) (gC S0.1) (gA S0.1) e := fun z => by
            have := jn.mpr z
            rw [if_neg (by omega)] at h223
            omega
          exact (if_pos ⟨by omega, hnj⟩).symm
    refine w_iload iL_parts_140 rfl ?_
    refine w_iload iL_parts_142 rfl ?_
    refine w_icmpge iL_parts_144 (fun h_ => absurd h_ (by omega)) (fun h144 => ?_)
    refine w_const iL_parts_147 ?_
    refine w_is9 iL_parts_148 ?_
    refine w_const iL_parts_150 ?_
    refine w_is10 iL_parts_151 ?_
    exact lpW hd hE hS hp hM he hqm (fun is x10 x11 I1 F1 h1 h2 h3 => c212 is x10 x11 I1 F1 h1 h2 h3) (gC S0.1).toNat 0 1 _ I F (by omega) hC hV (.inl ⟨rfl, fun j hj => absurd hj (by omega)⟩)
theorem lpE (hd : 8 ≤ d) (hS : SF S0) (hp : Pos (gM S0.1) (gC S0.1)) (hM : G 62 1 = gC S0.1)
    (K : ∀ (v : Int) (S : Sx) (I : IE) (F : FE), CI S I F → EqM S0 S → PV G F → (v = 2 ∨ v = 1 ∧ MkA (gM S0.1) (gC S0.1) (gA S0.1) ∨ v = 0 ∧ ¬ MkA (gM S0.1) (gC S0.1) (gA S0.1)) → Q (some (.inl v)) shL I F) :
    ∀ (w q : Nat) (all : Int) (x6 x7 x8 : Option AV) (S : Sx) (I : IE) (F : FE), (q + w : Int) = gk (gM S0.1) (gC S0.1) → CI S I F → EqM S0 S → PV G F → tf (∀ e : Nat, e < q → Jn (gM S0.1) (gC S0.1) (gA S0.1) e) all → ∀ x9 x10 x11, WS mL_parts d 0 0 n0 Q 0 0 11 [lr 0, lr 62, lr 63, li (gk (gM S0.1) (gC S0.1)), li all, li q, x6, x7, x8, x9, x10, x11] [] shL I F := by
  have hn := hS.1.2.1
  have hk15 := hS.2.2
  intro w
  induction w with
  | zero =>
    intro q all x6 x7 x8 S I F hq hC hE hV ha x9 x10 x11
    refine w_iload iL_parts_11 rfl ?_
    refine w_iload iL_parts_13 rfl ?_
    refine w_icmpge iL_parts_14 (fun h14 => ?_) (fun h_ => absurd h_ (by omega))
    refine w_iload iL_parts_246 rfl ?_
    refine w_iret iL_parts_248 (Or.inl rfl) ⟨Nat.le_refl _, Nat.le_refl _⟩ ?_
    refine K all S I F hC hE hV (.inr ?_)
    rcases ha with ⟨h1, h2⟩ | ⟨h1, h2⟩
    · exact .inl ⟨h1, fun e he => h2 e (by omega)⟩
    · exact .inr ⟨h1, fun z => h2 (fun e he => z e (by omega))⟩
  | succ w ih =>
    intro q all x6 x7 x8 S I F hq hC hE hV ha x9 x10 x11
    have he : 0 ≤ (q : Int) ∧ (q : Int) < gk (gM S0.1) (gC S0.1) := by omega
    have el := bas_el hS.2.1 he
    have gm : gM S.1 = gM S0.1 := hE.2.2.1
    have gc : gC S.1 = gC S0.1 := hE.2.1
    have c91 : ∀ (sm : Int) (x7 x8 x9 x10 x11 : Option AV) (I1 : IE) (F1 : FE), CI S I1 F1 → PV G F1 → (∀ j, 0 ≤ j ∧ j < 4 → F1 63 j = gp (gM S0.1) (gC S0.1) q 1 j) → tf (∀ j, 0 ≤ j ∧ j < 4 → gE (gM S0.1) (gC S0.1) q j < 6) sm → WS mL_parts d 0 0 n0 Q 0 0 91 [lr 0, lr 62, lr 63, li (gk (gM S0.1) (gC S0.1)), li all, li q, li sm, x7, x8, x9, x10, x11] [] shL I1 F1 := fun sm x7 x8 x9 x10 x11 I1 F1 hC1 hV1 hp1 hsm => by
      have e62 : F1 62 1 = gC S0.1 := by rw [hV1 62 (by decide) (by decide)]; exact hM
      by_cases c : sm = 0
      · refine w_iload iL_parts_91 rfl ?_
        refine w_ifne iL_parts_93 (fun h_ => absurd h_ (by omega)) (fun h93 => ?_)
        refine w_const iL_parts_96 ?_
        refine w_iret iL_parts_97 (Or.inl rfl) ⟨Nat.le_refl _, Nat.le_refl _⟩ ?_
        exact K 2 S I1 F1 hC1 hE hV1 (.inl rfl)
      · have small : ∀ j, 0 ≤ j ∧ j < 4 → gE (gM S0.1) (gC S0.1) q j < 6 := by
          rcases hsm with ⟨-, g⟩ | ⟨g, -⟩
          · exact g
          · omega
        have gpb : ∀ j, 0 ≤ j ∧ j < gC S0.1 → 0 ≤ F1 63 j ∧ F1 63 j ≤ 5 := fun j hj => by
          rw [hp1 j (by omega)]
          have := small j (by omega)
          unfold gp
          rw [Int.one_mul]
          split <;> omega
        refine w_iload iL_parts_91 rfl ?_
        refine w_ifne iL_parts_93 (fun h93 => ?_) (fun h_ => absurd h_ (by omega))
        refine w_aload iL_parts_98 rfl ?_
        refine w_aload iL_parts_99 rfl ?_
        refine w_aload iL_parts_100 rfl ?_
        refine w_cSB iL_parts_101 fL_point vL_point (sL_point (by omega) hC1 (by rw [e62, gc]) (by rw [gc]; exact gpb)) rfl rfl (Nat.le_of_ble_eq_true rfl) (by omega) ⟨Nat.le_refl _, Nat.le_refl _⟩ (fun v I2 F2 hq2 => ?_)
        obtain ⟨rfl, S2, hC2, hE2, hY2, hf2⟩ := hq2
        have E2 : EqM S0 S2 := ⟨hE2.1.trans hE.1, hE2.2.1.trans hE.2.1, hE2.2.2.1.trans hE.2.2.1, hE2.2.2.2.trans hE.2.2.2⟩
        have gm2 : gM S2.1 = gM S0.1 := E2.2.2.1
        have gc2 : gC S2.1 = gC S0.1 := E2.2.1
        have V2 : PV G F2 := fun a h1 h2 => (hf2 a h1).trans (hV1 a h1 h2)
        have Y2 : ∀ j, 0 ≤ j ∧ j < gC S0.1 → gY S2.1 j = gp (gM S0.1) (gC S0.1) q 1 j := fun j hj => by
          rw [hY2 j (by rw [gc]; exact hj), hp1 j (by omega)]
        obtain ⟨y1, -, -, -, -⟩ := y_ext (M := gM S0.1) (n := gC S0.1) (by omega) Y2
        refine w_ifne iL_parts_104 (fun h104 => ?_) (fun h_ => absurd h_ (by decide))
        refine w_aload iL_parts_109 rfl ?_
        refine w_o iL_parts_110 f7_fiberSize v7_fiberSize (o_fiberSize (by rw [gm2, gc2]; exact hp)) hC2 rfl rfl rfl rfl (Nat.le_of_ble_eq_true rfl) (by omega) ⟨Nat.le_refl _, Nat.le_refl _⟩ (fun v3 S3 I3 F3 hq3 hC3 hf3 => ?_)
        obtain ⟨rfl, rfl⟩ := hq3
        have V3 : PV G F3 := fun a h1 h2 => (hf3 a h1).trans (V2 a h1 h2)
        rw [gm2, gc2]
        refine w_is7 iL_parts_113 ?_
        refine w_aload iL_parts_115 rfl ?_
        refine w_iload iL_parts_116 rfl ?_
        refine w_o iL_parts_118 f7_isIndispensable v7_isIndispensable (o_isIndispensable (by rw [gm2, gc2]; exact he) (by rw [gm2, gc2]; exact hp)) hC3 rfl rfl rfl rfl (Nat.le_of_ble_eq_true rfl) (by omega) ⟨Nat.le_refl _, Nat.le_refl _⟩ (fun v4 S4 I4 F4 hq4 hC4 hf4 => ?_)
        obtain ⟨hv4, rfl⟩ := hq4
        have V4 : PV G F4 := fun a h1 h2 => (hf4 a h1).trans (V3 a h1 h2)
        rw [gm2, gc2, ← y1] at hv4
        refine w_iload iL_parts_121 rfl ?_
        refine w_const iL_parts_123 ?_
        refine w_icmpne iL_parts_124 (fun h124 => ?_) (fun h124 => ?_)
        · refine w_const iL_parts_131 ?_
          refine w_icmpeq iL_parts_132 (fun h132 => ?_) (fun h_ => absurd h_ (fun z => z (by rcases hv4 with ⟨a, b⟩ | ⟨a, b⟩ <;> omega)))
          refine w_const iL_parts_137 ?_
          refine w_is8 iL_parts_138 ?_
          have hF9 : FibP (gM S0.1) (gC S0.1) (gY S4.1) (fbm (gM S0.1) (gC S0.1) (gY S4.1), fbf (gM S0.1) (gC S0.1) (gY S4.1)) := fibP_ok hn hp
          have z9 := hF9.1
          dsimp only at z9
          refine lpI hd E2 hS hp hM he Y2 (all0 := all) (fun all' x8 x9 x10 x11 I5 F5 h1 h2 h3 => ?_) (fbm (gM S0.1) (gC S0.1) (gY S4.1)).toNat 0 all _ _ _ I4 F4 (by omega) hC4 V4 ?_
          · refine w_ii5 iL_parts_240 (by omega) ?_
            refine w_goto iL_parts_243 ?_
            refine ih (q + 1) all' _ _ _ S4 I5 F5 (by omega) h1 E2 h2 ?_ _ _ _
            rw [h3]
            by_cases cj : Jn (gM S0.1) (gC S0.1) (gA S0.1) q
            · rw [if_pos cj]
              rcases ha with ⟨a1, a2⟩ | ⟨a1, a2⟩
              · refine .inl ⟨a1, fun e' he' => ?_⟩
                by_cases ce : e' = q
                · rw [ce]; exact cj
                · exact a2 e' (by omega)
              · exact .inr ⟨a1, fun z => a2 (fun e' he' => z e' (by omega))⟩
            · rw [if_neg cj]
              exact .inr ⟨rfl, fun z => cj (z q (by omega))⟩
          · rw [if_neg]
            intro z
            obtain ⟨g1, g2⟩ := gp_in (M := gM S0.1) (e := (q : Int)) hn el.2.1 el.1
            have y5 := (y_ext (M := gM S0.1) (n := gC S0.1) (by omega) Y2).2.2.2.2 (gp (gM S0.1) (gC S0.1) q (-1)) (gp (gM S0.1) (gC S0.1) q (-1)) (fun _ _ => rfl)
            have := ix_in hn hp (fibP_ok hn hp) g2
            rw [y5] at z
            omega
        · refine w_const iL_parts_127 ?_
          refine w_goto iL_parts_128 ?_
          refine w_icmpeq iL_parts_132 (fun h132 => ?_) (fun h_ => absurd h_ (fun z => z (by rcases hv4 with ⟨a, b⟩ | ⟨a, b⟩ <;> omega)))
          refine w_const iL_parts_137 ?_
          refine w_is8 iL_parts_138 ?_
          have hF9 : FibP (gM S0.1) (gC S0.1) (gY S4.1) (fbm (gM S0.1) (gC S0.1) (gY S4.1), fbf (gM S0.1) (gC S0.1) (gY S4.1)) := fibP_ok hn hp
          have z9 := hF9.1
          dsimp only at z9
          refine lpI hd E2 hS hp hM he Y2 (all0 := all) (fun all' x8 x9 x10 x11 I5 F5 h1 h2 h3 => ?_) (fbm (gM S0.1) (gC S0.1) (gY S4.1)).toNat 0 all _ _ _ I4 F4 (by omega) hC4 V4 ?_
          · refine w_ii5 iL_parts_240 (by omega) ?_
            refine w_goto iL_parts_243 ?_
            refine ih (q + 1) all' _ _ _ S4 I5 F5 (by omega) h1 E2 h2 ?_ _ _ _
            rw [h3]
            by_cases cj : Jn (gM S0.1) (gC S0.1) (gA S0.1) q
            · rw [if_pos cj]
              rcases ha with ⟨a1, a2⟩ | ⟨a1, a2⟩
              · refine .inl ⟨a1, fun e' he' => ?_⟩
                by_cases ce : e' = q
                · rw [ce]; exact cj
                · exact a2 e' (by omega)
              · exact .inr ⟨a1, fun z => a2 (fun e' he' => z e' (by omega))⟩
            · rw [if_neg cj]
              exact .inr ⟨rfl, fun z => cj (z q (by omega))⟩
          · rw [if_neg]
            intro z
            obtain ⟨g1, g2⟩ := gp_in (M := gM S0.1) (e := (q : Int)) hn el.2.1 el.1
            have y5 := (y_ext (M := gM S0.1) (n := gC S0.1) (by omega) Y2).2.2.2.2 (gp (gM S0.1) (gC S0.1) q (-1)) (gp (gM S0.1) (gC S0.1) q (-1)) (fun _ _ => rfl)
            have := ix_in hn hp (fibP_ok hn hp) g2
            rw [y5] at z
            omega
    refine w_iload iL_parts_11 rfl ?_
    refine w_iload iL_parts_13 rfl ?_
    refine w_icmpge iL_parts_14 (fun h_ => absurd h_ (by omega)) (fun h14 => ?_)
    refine w_const iL_parts_17 ?_
    refine w_is6 iL_parts_18 ?_
    refine w_const iL_parts_20 ?_
    refine w_is7 iL_parts_21 ?_
    exact lpK2 hd hE hS hM he (fun sm x7 x8 x9 x10 x11 I1 F1 h1 h2 h3 h4 => c91 sm x7 x8 x9 x10 x11 I1 F1 h1 h2 h3 h4) 4 0 1 _ _ _ _ I F rfl hC hV (fun j hj => absurd hj (by omega)) (.inl ⟨rfl, fun j hj => absurd hj (by omega)⟩)
end PARTS
theorem sL_parts {d : Nat} {S : Sx} {I : IE} {F : FE} (hd : 8 ≤ d) (hC : CI S I F) (hM : F 62 1 = gC S.1) (hp : Pos (gM S.1) (gC S.1)) : MB mL_parts d shL [rv 0, rv 62, rv 63] I F (fun v I' F' => (∃ S', CI S' I' F' ∧ EqM S S') ∧ (∀ a, 62 ≤ a → a ≠ 63 → F' a = F a) ∧ (v = 2 ∨ v = 1 ∧ MkA (gM S.1) (gC S.1) (gA S.1) ∨ v = 0 ∧ ¬ MkA (gM S.1) (gC S.1) (gA S.1))) := by
  have hS := hC.sf
  have hk := hS.2.2
  refine MS_of (ls := [lr 0, lr 62, lr 63, lu, lu, lu, lu, lu, lu, lu, lu, lu]) fL_parts rfl rfl (Nat.le_of_ble_eq_true rfl) ?_
  refine w_aload iL_parts_0 rfl ?_
  refine w_o iL_parts_1 f7_graverCount v7_graverCount o_graverCount hC rfl rfl rfl rfl (Nat.le_of_ble_eq_true rfl) (by omega) ⟨Nat.le_refl _, Nat.le_refl _⟩ (fun v1 S1 I1 F1 hq1 hC1 hf1 => ?_)
  obtain ⟨rfl, rfl⟩ := hq1
  refine w_is3 iL_parts_4 ?_
  refine w_const iL_parts_5 ?_
  refine w_is4 iL_parts_6 ?_
  refine w_const iL_parts_8 ?_
  refine w_is5 iL_parts_9 ?_
  exact lpE hd hS hp (G := F) hM (fun v S2 I2 F2 h1 h2 h3 h4 => ⟨rfl, v, rfl, ⟨S2, h1, h2⟩, h3, h4⟩) (gk (gM S1.1) (gC S1.1)).toNat 0 1 _ _ _ S1 I1 F1 (by omega) hC1 ⟨rfl, rfl, rfl, rfl⟩ (fun a h1 _ => hf1 a h1) (.inl ⟨rfl, fun e he => absurd he (Nat.not_lt_zero _)⟩) _ _ _
