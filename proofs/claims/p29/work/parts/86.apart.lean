def dv (d0 d1 d2 d3 : Int) : Int → Int := fun j => if j = 0 then d0 else if j = 1 then d1 else if j = 2 then d2 else d3
/-- an active element apart -/
def ApD (S : Sx) (d0 d1 d2 d3 : Int) : Prop := ∃ e s, (0 ≤ e ∧ e < gk (gM S.1) (gC S.1)) ∧ (s = 1 ∨ s = -1) ∧ gA S.1 e.toNat = 1 ∧ ∀ j, 0 ≤ j ∧ j < gC S.1 → dv d0 d1 d2 d3 j = s * gE (gM S.1) (gC S.1) e j
/-- element k is d, or its negative -/
def Mt (S : Sx) (b d0 d1 d2 d3 k : Int) : Prop := ∀ j, 0 ≤ j ∧ j < gC S.1 → gE (gM S.1) (gC S.1) k j = b * dv d0 d1 d2 d3 j
theorem sgnL {g d : Int → Int} {n s sg : Int} (hn : 2 ≤ n ∧ n ≤ 4) (hs : s = 1 ∨ s = -1) (hl : lead g n) (h : ∀ j, 0 ≤ j ∧ j < n → d j = s * g j) {k : Int} (hk : 0 ≤ k ∧ k < 4) (hz : ∀ j, 0 ≤ j ∧ j < k → d j = 0) (h0 : ∀ j, n ≤ j ∧ j < 4 → d j = 0) (hd : d k ≠ 0 ∨ k = 3) (hsg : sg = d k) : (s = 1 → 0 < sg) ∧ (s = -1 → sg < 0) := by
  obtain ⟨l, l0, l1, l2, l3⟩ := hl
  have hdl := h l ⟨l0, l1⟩
  have key : l = k := by
    rcases Int.lt_trichotomy l k with c | c | c
    · have := hz l ⟨l0, c⟩
      rcases hs with rfl | rfl <;> omega
    · exact c
    · have := l2 k ⟨hk.1, c⟩
      have := h k (by omega)
      rcases hs with rfl | rfl <;> omega
  subst key
  rw [hsg, hdl]
  rcases hs with rfl | rfl
  · exact ⟨fun _ => by omega, fun z => by omega⟩
  · exact ⟨fun z => by omega, fun _ => by omega⟩
theorem lL_apart {d n0 : Nat} {Q : PQ} {S : Sx} {G : FE} {b d0 d1 d2 d3 sg : Int} (hd : 6 ≤ d) (hS : SF S) (hM : G 62 1 = gC S.1) (hb : b = 1 ∨ b = -1) (b0 : -1000 ≤ d0 ∧ d0 ≤ 1000) (b1 : -1000 ≤ d1 ∧ d1 ≤ 1000) (b2 : -1000 ≤ d2 ∧ d2 ≤ 1000) (b3 : -1000 ≤ d3 ∧ d3 ≤ 1000)
    (Kn : ∀ x x10 I F, CI S I F → (∀ a, 62 ≤ a → F a = G a) → (∀ e, 0 ≤ e ∧ e < gk (gM S.1) (gC S.1) → ¬ Mt S b d0 d1 d2 d3 e) → WS mL_apart d 0 0 n0 Q 0 0 164 [lr 0, lr 62, li d0, li d1, li d2, li d3, li (gk (gM S.1) (gC S.1)), li sg, li b, x, x10] [] shL I F)
    (Kf : ∀ (k v : Int) I F, CI S I F → (∀ a, 62 ≤ a → F a = G a) → (0 ≤ k ∧ k < gk (gM S.1) (gC S.1)) → Mt S b d0 d1 d2 d3 k → tf (gA S.1 k.toNat = 1) v → Q (some (.inl v)) shL I F) :
    ∀ (m k : Nat) (x10 : Option AV) (I : IE) (F : FE), (k + m : Int) = gk (gM S.1) (gC S.1) → CI S I F → (∀ a, 62 ≤ a → F a = G a) → (∀ e, 0 ≤ e ∧ e < (k : Int) → ¬ Mt S b d0 d1 d2 d3 e) → WS mL_apart d 0 0 n0 Q 0 0 51 [lr 0, lr 62, li d0, li d1, li d2, li d3, li (gk (gM S.1) (gC S.1)), li sg, li b, li k, x10] [] shL I F := by
  have hn := hS.1.2.1
  have hk15 := hS.2.2
  have r0 : -1000 ≤ b * d0 ∧ b * d0 ≤ 1000 := by rcases hb with rfl | rfl <;> omega
  have r1 : -1000 ≤ b * d1 ∧ b * d1 ≤ 1000 := by rcases hb with rfl | rfl <;> omega
  have r2 : -1000 ≤ b * d2 ∧ b * d2 ≤ 1000 := by rcases hb with rfl | rfl <;> omega
  have r3 : -1000 ≤ b * d3 ∧ b * d3 ≤ 1000 := by rcases hb with rfl | rfl <;> omega
  intro m
  induction m with
  | zero =>
    intro k x10 I F hk hC hF hno
    refine w_iload iL_apart_51 rfl ?_
    refine w_iload iL_apart_53 rfl ?_
    refine w_icmpge iL_apart_55 (fun h55 => ?_) (fun h_ => absurd h_ (by omega))
    exact Kn _ _ I F hC hF (fun e he => hno e (by omega))
  | succ m ih =>
    intro k x10 I F hk hC hF hno
    have hkr : 0 ≤ (k : Int) ∧ (k : Int) < gk (gM S.1) (gC S.1) := by omega
    have c135 : ∀ (v : Int) (x10 : Option AV) (I1 : IE) (F1 : FE), CI S I1 F1 → (∀ a, 62 ≤ a → F1 a = G a) → tf (Mt S b d0 d1 d2 d3 k) v → WS mL_apart d 0 0 n0 Q 0 0 135 [lr 0, lr 62, li d0, li d1, li d2, li d3, li (gk (gM S.1) (gC S.1)), li sg, li b, li k, x10] [.inl v] shL I1 F1 := fun v x10 I1 F1 hC1 hF1 hv => by
      refine w_is10 iL_apart_135 ?_
      refine w_iload iL_apart_137 rfl ?_
      refine w_ifeq iL_apart_139 (fun h139 => ?_) (fun h139 => ?_)
      · refine w_ii9 iL_apart_158 (by omega) ?_
        refine w_goto iL_apart_161 ?_
        refine ih (k + 1) _ _ _ (by omega) hC1 hF1 (fun e he => ?_)
        by_cases c : e = k
        · rw [c]
          rcases hv with ⟨g, -⟩ | ⟨-, g⟩
          · omega
          · exact g
        · exact hno e (by omega)
      · refine w_aload iL_apart_142 rfl ?_
        refine w_iload iL_apart_143 rfl ?_
        refine w_o iL_apart_145 f7_isActive v7_isActive (o_isActive hkr) hC1 rfl rfl rfl rfl (Nat.le_of_ble_eq_true rfl) (by omega) ⟨Nat.le_refl _, Nat.le_refl _⟩ (fun v2 S2 I2 F2 hq2 hC2 hf2 => ?_)
        obtain ⟨rfl, rfl⟩ := hq2
        refine w_const iL_apart_148 ?_
        refine w_icmpne iL_apart_149 (fun h149 => ?_) (fun h149 => ?_)
        · refine w_const iL_apart_156 ?_
          refine w_iret iL_apart_157 (Or.inr ⟨rfl, by omega⟩) ⟨Nat.le_refl _, Nat.le_refl _⟩ ?_
          exact Kf k 0 _ _ hC2 (fun a ha => (hf2 a ha).trans (hF1 a ha)) hkr (by
          rcases hv with ⟨-, g⟩ | ⟨g, -⟩
          · exact g
          · omega) (Or.inr ⟨rfl, h149⟩)
        · refine w_const iL_apart_152 ?_
          refine w_goto iL_apart_153 ?_
          refine w_iret iL_apart_157 (Or.inr ⟨rfl, by omega⟩) ⟨Nat.le_refl _, Nat.le_refl _⟩ ?_
          exact Kf k 1 _ _ hC2 (fun a ha => (hf2 a ha).trans (hF1 a ha)) hkr (by
          rcases hv with ⟨-, g⟩ | ⟨g, -⟩
          · exact g
          · omega) (Or.inl ⟨rfl, h149⟩)
    have no : ∀ j, 0 ≤ j ∧ j < gC S.1 → gE (gM S.1) (gC S.1) k j ≠ b * dv d0 d1 d2 d3 j → tf (Mt S b d0 d1 d2 d3 k) 0 := fun j hj h => .inr ⟨rfl, fun z => h (z j hj)⟩
    have yes : gE (gM S.1) (gC S.1) k 0 = b * d0 → gE (gM S.1) (gC S.1) k 1 = b * d1 → (gC S.1 < 3 ∨ gE (gM S.1) (gC S.1) k 2 = b * d2) → (gC S.1 < 4 ∨ gE (gM S.1) (gC S.1) k 3 = b * d3) → tf (Mt S b d0 d1 d2 d3 k) 1 := fun e0 e1 e2 e3 => .inl ⟨rfl, fun j hj => by
      rcases (show j = 0 ∨ j = 1 ∨ j = 2 ∨ j = 3 by omega) with rfl | rfl | rfl | rfl
      · exact e0
      · exact e1
      · rcases e2 with e2 | e2
        · omega
        · exact e2
      · rcases e3 with e3 | e3
        · omega
        · exact e3⟩
    have e62 : ∀ {F1 : FE}, (∀ a, 62 ≤ a → F1 a = G a) → F1 62 1 = gC S.1 := fun h => by rw [h 62 (by decide)]; exact hM
    have c115 : ∀ (I3 : IE) (F3 : FE), CI S I3 F3 → (∀ a, 62 ≤ a → F3 a = G a) → gE (gM S.1) (gC S.1) k 0 = b * d0 → gE (gM S.1) (gC S.1) k 1 = b * d1 → (gC S.1 < 3 ∨ gE (gM S.1) (gC S.1) k 2 = b * d2) → 4 ≤ gC S.1 → WS mL_apart d 0 0 n0 Q 0 0 115 [lr 0, lr 62, li d0, li d1, li d2, li d3, li (gk (gM S.1) (gC S.1)), li sg, li b, li k, x10] [] shL I3 F3 := fun I3 F3 hC3 k3 e0 e1 e2 e3 => by
      refine w_aload iL_apart_115 rfl ?_
      refine w_iload iL_apart_116 rfl ?_
      refine w_const iL_apart_118 ?_
      refine w_o iL_apart_119 f7_graverEntry v7_graverEntry (o_graverEntry hkr (by omega)) hC3 rfl rfl rfl rfl (Nat.le_of_ble_eq_true rfl) (by omega) ⟨Nat.le_refl _, Nat.le_refl _⟩ (fun v4 S4 I4 F4 hq4 hC4 hf4 => ?_)
      obtain ⟨rfl, rfl⟩ := hq4
      have k4 : ∀ a, 62 ≤ a → F4 a = G a := fun a ha => (hf4 a ha).trans (k3 a ha)
      refine w_iload iL_apart_122 rfl ?_
      refine w_iload iL_apart_124 rfl ?_
      refine w_imul iL_apart_126 (by omega) ?_
      refine w_icmpne iL_apart_127 (fun h127 => ?_) (fun h127 => ?_)
      · refine w_const iL_apart_134 ?_
        exact c135 0 _ _ _ hC4 k4 (no 3 (by omega) h127)
      · refine w_const iL_apart_130 ?_
        refine w_goto iL_apart_131 ?_
        exact c135 1 _ _ _ hC4 k4 (yes e0 e1 e2 (.inr h127))
    refine w_iload iL_apart_51 rfl ?_
    refine w_iload iL_apart_53 rfl ?_
    refine w_icmpge iL_apart_55 (fun h_ => absurd h_ (by omega)) (fun h55 => ?_)
    refine w_aload iL_apart_58 rfl ?_
    refine w_iload iL_apart_59 rfl ?_
    refine w_const iL_apart_61 ?_
    refine w_o iL_apart_62 f7_graverEntry v7_graverEntry (o_graverEntry hkr (by omega)) hC rfl rfl rfl rfl (Nat.le_of_ble_eq_true rfl) (by omega) ⟨Nat.le_refl _, Nat.le_refl _⟩ (fun v1 S1 I1 F1 hq1 hC1 hf1 => ?_)
    obtain ⟨rfl, rfl⟩ := hq1
    have k1 : ∀ a, 62 ≤ a → F1 a = G a := fun a ha => (hf1 a ha).trans (hF a ha)
    refine w_iload iL_apart_65 rfl ?_
    refine w_iload iL_apart_67 rfl ?_
    refine w_imul iL_apart_68 (by omega) ?_
    refine w_icmpne iL_apart_69 (fun h69 => ?_) (fun h69 => ?_)
    · refine w_const iL_apart_134 ?_
      exact c135 0 _ _ _ hC1 k1 (no 0 (by omega) h69)
    · refine w_aload iL_apart_72 rfl ?_
      refine w_iload iL_apart_73 rfl ?_
      refine w_const iL_apart_75 ?_
      refine w_o iL_apart_76 f7_graverEntry v7_graverEntry (o_graverEntry hkr (by omega)) hC1 rfl rfl rfl rfl (Nat.le_of_ble_eq_true rfl) (by omega) ⟨Nat.le_refl _, Nat.le_refl _⟩ (fun v2 S2 I2 F2 hq2 hC2 hf2 => ?_)
      obtain ⟨rfl, rfl⟩ := hq2
      have k2 : ∀ a, 62 ≤ a → F2 a = G a := fun a ha => (hf2 a ha).trans (k1 a ha)
      refine w_iload iL_apart_79 rfl ?_
      refine w_iload iL_apart_81 rfl ?_
      refine w_imul iL_apart_82 (by omega) ?_
      refine w_icmpne iL_apart_83 (fun h83 => ?_) (fun h83 => ?_)
      · refine w_const iL_apart_134 ?_
        exact c135 0 _ _ _ hC2 k2 (no 1 (by omega) h83)
      · refine w_aload iL_apart_86 rfl ?_
        refine w_const iL_apart_87 ?_
        refine w_iald iL_apart_88 sL62 (by omega) ?_
        rw [e62 k2]
        refine w_const iL_apart_89 ?_
        refine w_icmplt iL_apart_90 (fun h90 => ?_) (fun h90 => ?_)
        · refine w_aload iL_apart_108 rfl ?_
          refine w_const iL_apart_109 ?_
          refine w_iald iL_apart_110 sL62 (by omega) ?_
          rw [e62 k2]
          refine w_const iL_apart_111 ?_
          refine w_icmplt iL_apart_112 (fun h112 => ?_) (fun h112 => ?_)
          · refine w_const iL_apart_130 ?_
            refine w_goto iL_apart_131 ?_
            exact c135 1 _ _ _ hC2 k2 (yes h69 h83 (.inl h90) (.inl h112))
          · exact c115 _ _ hC2 k2 h69 h83 (.inl h90) h112
        · refine w_aload iL_apart_93 rfl ?_
          refine w_iload iL_apart_94 rfl ?_
          refine w_const iL_apart_96 ?_
          refine w_o iL_apart_97 f7_graverEntry v7_graverEntry (o_graverEntry hkr (by omega)) hC2 rfl rfl rfl rfl (Nat.le_of_ble_eq_true rfl) (by omega) ⟨Nat.le_refl _, Nat.le_refl _⟩ (fun v3 S3 I3 F3 hq3 hC3 hf3 => ?_)
          obtain ⟨rfl, rfl⟩ := hq3
          have k3 : ∀ a, 62 ≤ a → F3 a = G a := fun a ha => (hf3 a ha).trans (k2 a ha)
          refine w_iload iL_apart_100 rfl ?_
          refine w_iload iL_apart_102 rfl ?_
          refine w_imul iL_apart_104 (by omega) ?_
          refine w_icmpne iL_apart_105 (fun h105 => ?_) (fun h105 => ?_)
          · refine w_const iL_apart_134 ?_
            exact c135 0 _ _ _ hC3 k3 (no 2 (by omega) h105)
          · refine w_aload iL_apart_108 rfl ?_
            refine w_const iL_apart_109 ?_
            refine w_iald iL_apart_110 sL62 (by omega) ?_
            rw [e62 k3]
            refine w_const iL_apart_111 ?_
            refine w_icmplt iL_apart_112 (fun h112 => ?_) (fun h112 => ?_)
            · refine w_const iL_apart_130 ?_
              refine w_goto iL_apart_131 ?_
              exact c135 1 _ _ _ hC3 k3 (yes h69 h83 (.inr h105) (.inl h112))
            · exact c115 _ _ hC3 k3 h69 h83 (.inr h105) h112
theorem sL_apart {d : Nat} {S : Sx} {I : IE} {F : FE} {d0 d1 d2 d3 : Int} (hd : 6 ≤ d) (hC : CI S I F) (hM : F 62 1 = gC S.1) (b0 : -1000 ≤ d0 ∧ d0 ≤ 1000) (b1 : -1000 ≤ d1 ∧ d1 ≤ 1000) (b2 : -1000 ≤ d2 ∧ d2 ≤ 1000) (b3 : -1000 ≤ d3 ∧ d3 ≤ 1000) (h2 : gC S.1 < 3 → d2 = 0) (h3 : gC S.1 < 4 → d3 = 0) :
    MB mL_apart d shL [rv 0, rv 62, iv d0, iv d1, iv d2, iv d3] I F (fun v I' F' => CI S I' F' ∧ (∀ a, 62 ≤ a → F' a = F a) ∧ tf (ApD S d0 d1 d2 d3) v) := by
  have hS := hC.sf
  have hn := hS.1.2.1
  have hB := hS.2.1
  have hk := hS.2.2
  have hz : ∀ j, gC S.1 ≤ j ∧ j < 4 → dv d0 d1 d2 d3 j = 0 := fun j hj => by
    rcases (show j = 2 ∨ j = 3 by omega) with rfl | rfl
    · exact h2 (by omega)
    · exact h3 (by omega)
  have fin : ∀ (b sg : Int) (I1 : IE) (F1 : FE), CI S I1 F1 → (∀ a, 62 ≤ a → F1 a = F a) → (b = 1 ∨ b = -1) → (∀ e s, (0 ≤ e ∧ e < gk (gM S.1) (gC S.1)) → (s = 1 ∨ s = -1) → (∀ j, 0 ≤ j ∧ j < gC S.1 → dv d0 d1 d2 d3 j = s * gE (gM S.1) (gC S.1) e j) → s = b) → ∀ x10 : Option AV,
      WS mL_apart d 0 0 shL.length (fun r sh' I' F' => sh' = shL ∧ ∃ v, r = some (.inl v) ∧ CI S I' F' ∧ (∀ a, 62 ≤ a → F' a = F a) ∧ tf (ApD S d0 d1 d2 d3) v) 0 0 51 [lr 0, lr 62, li d0, li d1, li d2, li d3, li (gk (gM S.1) (gC S.1)), li sg, li b, li ((0 : Nat) : Int), x10] [] shL I1 F1 := fun b sg I1 F1 hC1 hF1 hb hby x10 => by
    have mt_of : ∀ e s, (s = 1 ∨ s = -1) → s = b → (∀ j, 0 ≤ j ∧ j < gC S.1 → dv d0 d1 d2 d3 j = s * gE (gM S.1) (gC S.1) e j) → Mt S b d0 d1 d2 d3 e := fun e s hs hsb h j hj => by
      rw [h j hj, ← hsb]
      rcases hs with rfl | rfl <;> omega
    refine lL_apart hd hS (G := F) hM hb b0 b1 b2 b3 (fun x x10 I2 F2 hC2 hF2 hno => ?_) (fun k v I2 F2 hC2 hF2 hkr hm hv => ?_) (gk (gM S.1) (gC S.1)).toNat 0 x10 I1 F1 (by omega) hC1 hF1 (fun e he => absurd he (by omega))
    · refine w_const iL_apart_164 ?_
      refine w_iret iL_apart_165 (Or.inr ⟨rfl, by omega⟩) ⟨Nat.le_refl _, Nat.le_refl _⟩ ?_
      refine ⟨rfl, 0, rfl, hC2, hF2, Or.inr ⟨rfl, fun ⟨e, s, he, hs, ha, h⟩ => hno e he (mt_of e s hs (hby e s he hs h) h)⟩⟩
    · refine ⟨rfl, v, rfl, hC2, hF2, ?_⟩
      rcases hv with ⟨rfl, g⟩ | ⟨rfl, g⟩
      · refine Or.inl ⟨rfl, k, b, hkr, hb, g, fun j hj => ?_⟩
        rw [hm j hj]
        rcases hb with rfl | rfl <;> omega
      · refine Or.inr ⟨rfl, fun ⟨e, s, he, hs, ha, h⟩ => g ?_⟩
        have me := mt_of e s hs (hby e s he hs h) h
        have := (bas_uq hB he hkr (s := 1) (.inl rfl) (fun j hj => by rw [me j hj, hm j hj]; omega)).1
        rw [← this]; exact ha
  have go : ∀ (sg : Int) (k : Int), (0 ≤ k ∧ k < 4) → (∀ j, 0 ≤ j ∧ j < k → dv d0 d1 d2 d3 j = 0) → (dv d0 d1 d2 d3 k ≠ 0 ∨ k = 3) → sg = dv d0 d1 d2 d3 k → ∀ e s, (0 ≤ e ∧ e < gk (gM S.1) (gC S.1)) → (s = 1 ∨ s = -1) → (∀ j, 0 ≤ j ∧ j < gC S.1 → dv d0 d1 d2 d3 j = s * gE (gM S.1) (gC S.1) e j) → (s = 1 → 0 < sg) ∧ (s = -1 → sg < 0) := fun sg k hk' hz' hd' hsg e s he hs h => sgnL hn hs (bas_el hB he).2.2.1 h hk' hz' hz hd' hsg
  have c34 : ∀ (sg : Int) (I1 : IE) (F1 : FE), CI S I1 F1 → (∀ a, 62 ≤ a → F1 a = F a) → (∀ e s, (0 ≤ e ∧ e < gk (gM S.1) (gC S.1)) → (s = 1 ∨ s = -1) → (∀ j, 0 ≤ j ∧ j < gC S.1 → dv d0 d1 d2 d3 j = s * gE (gM S.1) (gC S.1) e j) → (s = 1 → 0 < sg) ∧ (s = -1 → sg < 0)) →
      WS mL_apart d 0 0 shL.length (fun r sh' I' F' => sh' = shL ∧ ∃ v, r = some (.inl v) ∧ CI S I' F' ∧ (∀ a, 62 ≤ a → F' a = F a) ∧ tf (ApD S d0 d1 d2 d3) v) 0 0 34 [lr 0, lr 62, li d0, li d1, li d2, li d3, li (gk (gM S.1) (gC S.1)), lu, lu, lu, lu] [.inl sg] shL I1 F1 := fun sg I1 F1 hC1 hF1 hsg => by
    refine w_is7 iL_apart_34 ?_
    refine w_iload iL_apart_36 rfl ?_
    refine w_ifge iL_apart_38 (fun h38 => ?_) (fun h38 => ?_)
    · refine w_const iL_apart_45 ?_
      refine w_is8 iL_apart_46 ?_
      refine w_const iL_apart_48 ?_
      refine w_is9 iL_apart_49 ?_
      exact fin 1 sg I1 F1 hC1 hF1 (.inl rfl) (fun e s he hs h => by have := hsg e s he hs h; omega) _
    · refine w_const iL_apart_41 ?_
      refine w_goto iL_apart_42 ?_
      refine w_is8 iL_apart_46 ?_
      refine w_const iL_apart_48 ?_
      refine w_is9 iL_apart_49 ?_
      exact fin (-1) sg I1 F1 hC1 hF1 (.inr rfl) (fun e s he hs h => by have := hsg e s he hs h; omega) _
  refine MS_of (ls := [lr 0, lr 62, li d0, li d1, li d2, li d3, lu, lu, lu, lu, lu]) fL_apart rfl rfl (Nat.le_of_ble_eq_true rfl) ?_
  refine w_aload iL_apart_0 rfl ?_
  refine w_o iL_apart_1 f7_graverCount v7_graverCount o_graverCount hC rfl rfl rfl rfl (Nat.le_of_ble_eq_true rfl) (by omega) ⟨Nat.le_refl _, Nat.le_refl _⟩ (fun v1 S1 I1 F1 hq1 hC1 hf1 => ?_)
  obtain ⟨rfl, rfl⟩ := hq1
  refine w_is6 iL_apart_4 ?_
  refine w_iload iL_apart_6 rfl ?_
  refine w_ifeq iL_apart_7 (fun h7 => ?_) (fun h7 => ?_)
  · refine w_iload iL_apart_14 rfl ?_
    refine w_ifeq iL_apart_15 (fun h15 => ?_) (fun h15 => ?_)
    · refine w_iload iL_apart_22 rfl ?_
      refine w_ifeq iL_apart_24 (fun h24 => ?_) (fun h24 => ?_)
      · refine w_iload iL_apart_32 rfl ?_
        refine c34 _ _ _ hC1 hf1 (go _ 3 (by decide) (fun j hj => ?_) (.inr rfl) rfl)
        rcases (show j = 0 ∨ j = 1 ∨ j = 2 by omega) with rfl | rfl | rfl
        · exact h7
        · exact h15
        · exact h24
      · refine w_iload iL_apart_27 rfl ?_
        refine w_goto iL_apart_29 ?_
        refine c34 _ _ _ hC1 hf1 (go _ 2 (by decide) (fun j hj => ?_) (.inl h24) rfl)
        rcases (show j = 0 ∨ j = 1 by omega) with rfl | rfl
        · exact h7
        · exact h15
    · refine w_iload iL_apart_18 rfl ?_
      refine w_goto iL_apart_19 ?_
      refine c34 _ _ _ hC1 hf1 (go _ 1 (by decide) (fun j hj => ?_) (.inl h15) rfl)
      obtain rfl : j = 0 := by omega
      exact h7
  · refine w_iload iL_apart_10 rfl ?_
    refine w_goto iL_apart_11 ?_
    exact c34 _ _ _ hC1 hf1 (go _ 0 (by decide) (fun j hj => absurd hj (by omega)) (.inl h7) rfl)
