/-- the reference's reading, as far as p -/
def TRr (I : IE) (F : FE) (p : PSt) : Prop := I 0 10 = p.1 ∧ F 7 0 = p.2.1 ∧ F 7 1 = p.2.2.1 ∧ (∀ j, 0 ≤ j ∧ j < p.2.1 → F 8 j = p.2.2.2 j) ∧ ∀ j, 0 ≤ j ∧ j < p.2.2.1 → F 8 (4 + j) = p.2.2.2 (4 + j)
def Rfr (I I' : IE) (F F' : FE) : Prop := (∀ a k, (a ≠ 0 ∨ k ≠ 10) → I' a k = I a k) ∧ ∀ a, a ≠ 7 → a ≠ 8 → F' a = F a
theorem Rfr.rf {I : IE} {F : FE} : Rfr I I F F := ⟨fun _ _ _ => rfl, fun _ _ _ => rfl⟩
theorem Rfr.tr {I I1 I2 : IE} {F F1 F2 : FE} (h : Rfr I I1 F F1) (g : Rfr I1 I2 F1 F2) : Rfr I I2 F F2 := ⟨fun a k ha => (g.1 a k ha).trans (h.1 a k ha), fun a h1 h2 => (g.2 a h1 h2).trans (h.2 a h1 h2)⟩
theorem DI.R {S : Sx} {I I' : IE} {F F' : FE} (h : DI S I F) (hf : Rfr I I' F F') : DI S I' F' := by
  obtain ⟨⟨h1, h2, h3⟩, hB, hH, hT⟩ := h
  exact ⟨⟨h1, h2, by rw [hf.2 1 (by decide) (by decide)]; exact h3⟩, hB.fr (hf.1 0 5 (by omega)) (hf.2 4 (by decide) (by decide)), hH.fr (hf.1 0 2 (by omega)) (hf.2 2 (by decide) (by decide)), hT.fr (hf.1 0 4 (by omega)) (hf.2 3 (by decide) (by decide))⟩
theorem r_readsCharacter {d : Nat} {I : IE} {F : FE} {p : PSt} {ch : Int} (hd : 1 ≤ d) (hp : pok p) (hT : TRr I F p) : MB m8_readsCharacter d shM [rv 0, iv ch] I F (fun v I' F' => Rfr I I' F F' ∧ (v = 1 ∧ (∃ q, pstep ch p = some q ∧ TRr I' F' q) ∨ v = 0 ∧ pstep ch p = none)) := by
  obtain ⟨r, d0, d1, g⟩ := p
  obtain ⟨p1, p2, p3, p4, p5⟩ := hp
  obtain ⟨t1, t2, t3, t4, t5⟩ := hT
  simp only at p1 p2 p3 p4 p5 t1 t2 t3 t4 t5
  have e : pstep ch (r, d0, d1, g) = if ch = 32 then some (r, d0, d1, g) else if ch = 59 then (if r = 1 ∧ 2 ≤ d0 then some (2, d0, 0, g) else none) else if 48 ≤ ch ∧ ch ≤ 51 then (if r = 1 then (if d0 < 4 then some (1, d0 + 1, d1, dgp g d0 (ch - 48)) else none) else (if d1 < d0 then some (2, d0, d1 + 1, dgp g (4 + d1) (ch - 48)) else none)) else none := rfl
  rw [e]
  have r12 : r = 1 ∨ r = 2 := by omega
  have u7 : ∀ (x y : Int) (j : Int), upF F 8 x y 7 j = F 7 j := fun x y j => by simp [upF]
  have nodig : ∀ v, tf (48 ≤ ch ∧ ch ≤ 51) v → v = 0 → ¬ (48 ≤ ch ∧ ch ≤ 51) := fun v hv h0 => by rcases hv with ⟨h, -⟩ | ⟨-, h⟩; omega; exact h
  rcases r12 with rfl | rfl
  · have i0 : I 0 10 - 1 = 0 := by omega
    refine MS_of (ls := [lr 0, li ch, lu, lu]) f8_readsCharacter rfl rfl (Nat.le_of_ble_eq_true rfl) ?_
    refine w_aload i8_readsCharacter_0 rfl ?_
    refine w_get i8_readsCharacter_1 rfl rfl ?_
    refine w_const i8_readsCharacter_4 ?_
    refine w_isub i8_readsCharacter_5 (by omega) ?_
    rw [i0]
    refine w_is2 i8_readsCharacter_6 ?_
    refine w_iload i8_readsCharacter_7 rfl ?_
    refine w_ifne i8_readsCharacter_8 (fun h_ => absurd h_ (by omega)) (fun h8 => ?_)
    refine w_const i8_readsCharacter_11 ?_
    refine w_goto i8_readsCharacter_12 ?_
    refine w_is3 i8_readsCharacter_21 ?_
    refine w_iload i8_readsCharacter_22 rfl ?_
    refine w_const i8_readsCharacter_23 ?_
    refine w_const i8_readsCharacter_25 ?_
    refine w_cSP i8_readsCharacter_27 f8_in v8_in r_in rfl rfl (Nat.le_of_ble_eq_true rfl) (by omega) (fun v hv => ?_)
    have vd : v = 1 ∨ v = 0 := by rcases hv with h | h <;> omega
    refine w_ifeq i8_readsCharacter_30 (fun h30 => ?_) (fun h30 => ?_)
    · refine w_iload i8_readsCharacter_74 rfl ?_
      refine w_const i8_readsCharacter_75 ?_
      refine w_icmpne i8_readsCharacter_77 (fun h77 => ?_) (fun h77 => ?_)
      · refine w_iload i8_readsCharacter_101 rfl ?_
        refine w_const i8_readsCharacter_102 ?_
        refine w_icmpne i8_readsCharacter_104 (fun h104 => ?_) (fun h104 => ?_)
        · refine w_const i8_readsCharacter_111 ?_
          refine w_iret i8_readsCharacter_112 (Or.inr ⟨rfl, by omega⟩) ⟨Nat.le_refl _, Nat.le_refl _⟩ ?_
          first
          | (refine ⟨rfl, 1, rfl, Rfr.rf, Or.inl ⟨rfl, ?_⟩⟩
             rw [if_pos (by omega)]
             exact ⟨_, rfl, t1, t2, t3, t4, t5⟩)
          | (have nd := nodig v hv (by omega)
             refine ⟨rfl, 0, rfl, Rfr.rf, Or.inr ⟨rfl, ?_⟩⟩
             rw [if_neg (by omega)]
             by_cases c59 : ch = 59
             · rw [if_pos c59, if_neg (by omega)]
             · rw [if_neg c59, if_neg nd])
          | (refine ⟨rfl, 0, rfl, Rfr.rf, Or.inr ⟨rfl, ?_⟩⟩
             rw [if_neg (by omega)]
             by_cases c59 : ch = 59
             · rw [if_pos c59, if_neg (by omega)]
             · rw [if_neg c59]
               by_cases cd : 48 ≤ ch ∧ ch ≤ 51
               · rw [if_pos cd, if_pos rfl, if_neg (by omega)]
               · rw [if_neg cd])
        · refine w_const i8_readsCharacter_107 ?_
          refine w_goto i8_readsCharacter_108 ?_
          refine w_iret i8_readsCharacter_112 (Or.inr ⟨rfl, by omega⟩) ⟨Nat.le_refl _, Nat.le_refl _⟩ ?_
          first
          | (refine ⟨rfl, 1, rfl, Rfr.rf, Or.inl ⟨rfl, ?_⟩⟩
             rw [if_pos (by omega)]
             exact ⟨_, rfl, t1, t2, t3, t4, t5⟩)
          | (have nd := nodig v hv (by omega)
             refine ⟨rfl, 0, rfl, Rfr.rf, Or.inr ⟨rfl, ?_⟩⟩
             rw [if_neg (by omega)]
             by_cases c59 : ch = 59
             · rw [if_pos c59, if_neg (by omega)]
             · rw [if_neg c59, if_neg nd])
          | (refine ⟨rfl, 0, rfl, Rfr.rf, Or.inr ⟨rfl, ?_⟩⟩
             rw [if_neg (by omega)]
             by_cases c59 : ch = 59
             · rw [if_pos c59, if_neg (by omega)]
             · rw [if_neg c59]
               by_cases cd : 48 ≤ ch ∧ ch ≤ 51
               · rw [if_pos cd, if_pos rfl, if_neg (by omega)]
               · rw [if_neg cd])
      · refine w_iload i8_readsCharacter_80 rfl ?_
        refine w_ifne i8_readsCharacter_81 (fun h_ => absurd h_ (by omega)) (fun h81 => ?_)
        refine w_aload i8_readsCharacter_84 rfl ?_
        refine w_getr i8_readsCharacter_85 rfl rfl ?_
        refine w_const i8_readsCharacter_88 ?_
        refine w_iald i8_readsCharacter_89 rfl (by omega) ?_
        refine w_const i8_readsCharacter_90 ?_
        refine w_icmplt i8_readsCharacter_91 (fun h91 => ?_) (fun h91 => ?_)
        · refine w_iload i8_readsCharacter_101 rfl ?_
          refine w_const i8_readsCharacter_102 ?_
          refine w_icmpne i8_readsCharacter_104 (fun h104 => ?_) (fun h104 => ?_)
          · refine w_const i8_readsCharacter_111 ?_
            refine w_iret i8_readsCharacter_112 (Or.inr ⟨rfl, by omega⟩) ⟨Nat.le_refl _, Nat.le_refl _⟩ ?_
            first
            | (refine ⟨rfl, 1, rfl, Rfr.rf, Or.inl ⟨rfl, ?_⟩⟩
               rw [if_pos (by omega)]
               exact ⟨_, rfl, t1, t2, t3, t4, t5⟩)
            | (have nd := nodig v hv (by omega)
               refine ⟨rfl, 0, rfl, Rfr.rf, Or.inr ⟨rfl, ?_⟩⟩
               rw [if_neg (by omega)]
               by_cases c59 : ch = 59
               · rw [if_pos c59, if_neg (by omega)]
               · rw [if_neg c59, if_neg nd])
            | (refine ⟨rfl, 0, rfl, Rfr.rf, Or.inr ⟨rfl, ?_⟩⟩
               rw [if_neg (by omega)]
               by_cases c59 : ch = 59
               · rw [if_pos c59, if_neg (by omega)]
               · rw [if_neg c59]
                 by_cases cd : 48 ≤ ch ∧ ch ≤ 51
                 · rw [if_pos cd, if_pos rfl, if_neg (by omega)]
                 · rw [if_neg cd])
          · refine w_const i8_readsCharacter_107 ?_
            refine w_goto i8_readsCharacter_108 ?_
            refine w_iret i8_readsCharacter_112 (Or.inr ⟨rfl, by omega⟩) ⟨Nat.le_refl _, Nat.le_refl _⟩ ?_
            first
            | (refine ⟨rfl, 1, rfl, Rfr.rf, Or.inl ⟨rfl, ?_⟩⟩
               rw [if_pos (by omega)]
               exact ⟨_, rfl, t1, t2, t3, t4, t5⟩)
            | (have nd := nodig v hv (by omega)
               refine ⟨rfl, 0, rfl, Rfr.rf, Or.inr ⟨rfl, ?_⟩⟩
               rw [if_neg (by omega)]
               by_cases c59 : ch = 59
               · rw [if_pos c59, if_neg (by omega)]
               · rw [if_neg c59, if_neg nd])
            | (refine ⟨rfl, 0, rfl, Rfr.rf, Or.inr ⟨rfl, ?_⟩⟩
               rw [if_neg (by omega)]
               by_cases c59 : ch = 59
               · rw [if_pos c59, if_neg (by omega)]
               · rw [if_neg c59]
                 by_cases cd : 48 ≤ ch ∧ ch ≤ 51
                 · rw [if_pos cd, if_pos rfl, if_neg (by omega)]
                 · rw [if_neg cd])
        · refine w_aload i8_readsCharacter_94 rfl ?_
          refine w_const i8_readsCharacter_95 ?_
          refine w_put i8_readsCharacter_96 rfl rfl (Or.inl rfl) ?_
          refine w_const i8_readsCharacter_99 ?_
          refine w_iret i8_readsCharacter_100 (Or.inr ⟨rfl, by omega⟩) ⟨Nat.le_refl _, Nat.le_refl _⟩ ?_
          refine ⟨rfl, _, rfl, ⟨fun a k h => by simp only [upI]; rw [if_neg (by omega)], fun _ _ _ => rfl⟩, Or.inl ⟨rfl, ?_⟩⟩
          rw [if_neg (by omega), if_pos (by omega), if_pos (by omega)]
          refine ⟨_, rfl, by simp [upI], t2, (show F 7 1 = 0 by omega), t4, fun j hj => ?_⟩
          simp only at hj; omega
    · refine w_aload i8_readsCharacter_33 rfl ?_
      refine w_getr i8_readsCharacter_34 rfl rfl ?_
      refine w_iload i8_readsCharacter_37 rfl ?_
      refine w_iald i8_readsCharacter_38 rfl (by omega) ?_
      refine w_iload i8_readsCharacter_39 rfl ?_
      refine w_icmpge i8_readsCharacter_40 (fun h40 => ?_) (fun h40 => ?_)
      · refine w_iload i8_readsCharacter_74 rfl ?_
        refine w_const i8_readsCharacter_75 ?_
        refine w_icmpne i8_readsCharacter_77 (fun h77 => ?_) (fun h77 => ?_)
        · refine w_iload i8_readsCharacter_101 rfl ?_
          refine w_const i8_readsCharacter_102 ?_
          refine w_icmpne i8_readsCharacter_104 (fun h104 => ?_) (fun h104 => ?_)
          · refine w_const i8_readsCharacter_111 ?_
            refine w_iret i8_readsCharacter_112 (Or.inr ⟨rfl, by omega⟩) ⟨Nat.le_refl _, Nat.le_refl _⟩ ?_
            first
            | (refine ⟨rfl, 1, rfl, Rfr.rf, Or.inl ⟨rfl, ?_⟩⟩
               rw [if_pos (by omega)]
               exact ⟨_, rfl, t1, t2, t3, t4, t5⟩)
            | (have nd := nodig v hv (by omega)
               refine ⟨rfl, 0, rfl, Rfr.rf, Or.inr ⟨rfl, ?_⟩⟩
               rw [if_neg (by omega)]
               by_cases c59 : ch = 59
               · rw [if_pos c59, if_neg (by omega)]
               · rw [if_neg c59, if_neg nd])
            | (refine ⟨rfl, 0, rfl, Rfr.rf, Or.inr ⟨rfl, ?_⟩⟩
               rw [if_neg (by omega)]
               by_cases c59 : ch = 59
               · rw [if_pos c59, if_neg (by omega)]
               · rw [if_neg c59]
                 by_cases cd : 48 ≤ ch ∧ ch ≤ 51
                 · rw [if_pos cd, if_pos rfl, if_neg (by omega)]
                 · rw [if_neg cd])
          · refine w_const i8_readsCharacter_107 ?_
            refine w_goto i8_readsCharacter_108 ?_
            refine w_iret i8_readsCharacter_112 (Or.inr ⟨rfl, by omega⟩) ⟨Nat.le_refl _, Nat.le_refl _⟩ ?_
            first
            | (refine ⟨rfl, 1, rfl, Rfr.rf, Or.inl ⟨rfl, ?_⟩⟩
               rw [if_pos (by omega)]
               exact ⟨_, rfl, t1, t2, t3, t4, t5⟩)
            | (have nd := nodig v hv (by omega)
               refine ⟨rfl, 0, rfl, Rfr.rf, Or.inr ⟨rfl, ?_⟩⟩
               rw [if_neg (by omega)]
               by_cases c59 : ch = 59
               · rw [if_pos c59, if_neg (by omega)]
               · rw [if_neg c59, if_neg nd])
            | (refine ⟨rfl, 0, rfl, Rfr.rf, Or.inr ⟨rfl, ?_⟩⟩
               rw [if_neg (by omega)]
               by_cases c59 : ch = 59
               · rw [if_pos c59, if_neg (by omega)]
               · rw [if_neg c59]
                 by_cases cd : 48 ≤ ch ∧ ch ≤ 51
                 · rw [if_pos cd, if_pos rfl, if_neg (by omega)]
                 · rw [if_neg cd])
        · refine w_iload i8_readsCharacter_80 rfl ?_
          refine w_ifne i8_readsCharacter_81 (fun h_ => absurd h_ (by omega)) (fun h81 => ?_)
          refine w_aload i8_readsCharacter_84 rfl ?_
          refine w_getr i8_readsCharacter_85 rfl rfl ?_
          refine w_const i8_readsCharacter_88 ?_
          refine w_iald i8_readsCharacter_89 rfl (by omega) ?_
          refine w_const i8_readsCharacter_90 ?_
          refine w_icmplt i8_readsCharacter_91 (fun h91 => ?_) (fun h91 => ?_)
          · refine w_iload i8_readsCharacter_101 rfl ?_
            refine w_const i8_readsCharacter_102 ?_
            refine w_icmpne i8_readsCharacter_104 (fun h104 => ?_) (fun h104 => ?_)
            · refine w_const i8_readsCharacter_111 ?_
              refine w_iret i8_readsCharacter_112 (Or.inr ⟨rfl, by omega⟩) ⟨Nat.le_refl _, Nat.le_refl _⟩ ?_
              first
              | (refine ⟨rfl, 1, rfl, Rfr.rf, Or.inl ⟨rfl, ?_⟩⟩
                 rw [if_pos (by omega)]
                 exact ⟨_, rfl, t1, t2, t3, t4, t5⟩)
              | (have nd := nodig v hv (by omega)
                 refine ⟨rfl, 0, rfl, Rfr.rf, Or.inr ⟨rfl, ?_⟩⟩
                 rw [if_neg (by omega)]
                 by_cases c59 : ch = 59
                 · rw [if_pos c59, if_neg (by omega)]
                 · rw [if_neg c59, if_neg nd])
              | (refine ⟨rfl, 0, rfl, Rfr.rf, Or.inr ⟨rfl, ?_⟩⟩
                 rw [if_neg (by omega)]
                 by_cases c59 : ch = 59
                 · rw [if_pos c59, if_neg (by omega)]
                 · rw [if_neg c59]
                   by_cases cd : 48 ≤ ch ∧ ch ≤ 51
                   · rw [if_pos cd, if_pos rfl, if_neg (by omega)]
                   · rw [if_neg cd])
            · refine w_const i8_readsCharacter_107 ?_
              refine w_goto i8_readsCharacter_108 ?_
              refine w_iret i8_readsCharacter_112 (Or.inr ⟨rfl, by omega⟩) ⟨Nat.le_refl _, Nat.le_refl _⟩ ?_
              first
              | (refine ⟨rfl, 1, rfl, Rfr.rf, Or.inl ⟨rfl, ?_⟩⟩
                 rw [if_pos (by omega)]
                 exact ⟨_, rfl, t1, t2, t3, t4, t5⟩)
              | (have nd := nodig v hv (by omega)
                 refine ⟨rfl, 0, rfl, Rfr.rf, Or.inr ⟨rfl, ?_⟩⟩
                 rw [if_neg (by omega)]
                 by_cases c59 : ch = 59
                 · rw [if_pos c59, if_neg (by omega)]
                 · rw [if_neg c59, if_neg nd])
              | (refine ⟨rfl, 0, rfl, Rfr.rf, Or.inr ⟨rfl, ?_⟩⟩
                 rw [if_neg (by omega)]
                 by_cases c59 : ch = 59
                 · rw [if_pos c59, if_neg (by omega)]
                 · rw [if_neg c59]
                   by_cases cd : 48 ≤ ch ∧ ch ≤ 51
                   · rw [if_pos cd, if_pos rfl, if_neg (by omega)]
                   · rw [if_neg cd])
          · refine w_aload i8_readsCharacter_94 rfl ?_
            refine w_const i8_readsCharacter_95 ?_
            refine w_put i8_readsCharacter_96 rfl rfl (Or.inl rfl) ?_
            refine w_const i8_readsCharacter_99 ?_
            refine w_iret i8_readsCharacter_100 (Or.inr ⟨rfl, by omega⟩) ⟨Nat.le_refl _, Nat.le_refl _⟩ ?_
            refine ⟨rfl, _, rfl, ⟨fun a k h => by simp only [upI]; rw [if_neg (by omega)], fun _ _ _ => rfl⟩, Or.inl ⟨rfl, ?_⟩⟩
            rw [if_neg (by omega), if_pos (by omega), if_pos (by omega)]
            refine ⟨_, rfl, by simp [upI], t2, (show F 7 1 = 0 by omega), t4, fun j hj => ?_⟩
            simp only at hj; omega
      · refine w_aload i8_readsCharacter_43 rfl ?_
        refine w_getr i8_readsCharacter_44 rfl rfl ?_
        refine w_const i8_readsCharacter_47 ?_
        refine w_iload i8_readsCharacter_48 rfl ?_
        refine w_imul i8_readsCharacter_49 (by omega) ?_
        refine w_aload i8_readsCharacter_50 rfl ?_
        refine w_getr i8_readsCharacter_51 rfl rfl ?_
        refine w_iload i8_readsCharacter_54 rfl ?_
        refine w_iald i8_readsCharacter_55 rfl (by omega) ?_
        refine w_iadd i8_readsCharacter_56 (by omega) ?_
        refine w_iload i8_readsCharacter_57 rfl ?_
        refine w_const i8_readsCharacter_58 ?_
        refine w_isub i8_readsCharacter_60 ((by rcases hv with h | h <;> constructor <;> omega)) ?_
        refine w_iast i8_readsCharacter_61 rfl (by omega) ?_
        refine w_aload i8_readsCharacter_62 rfl ?_
        refine w_getr i8_readsCharacter_63 rfl rfl ?_
        refine w_iload i8_readsCharacter_66 rfl ?_
        refine w_dup2 i8_readsCharacter_67 ?_
        refine w_iald i8_readsCharacter_68 rfl (by omega) ?_
        rw [u7]
        refine w_const i8_readsCharacter_69 ?_
        refine w_iadd i8_readsCharacter_70 (by omega) ?_
        refine w_iast i8_readsCharacter_71 rfl (by omega) ?_
        refine w_const i8_readsCharacter_72 ?_
        refine w_iret i8_readsCharacter_73 (Or.inr ⟨rfl, by omega⟩) ⟨Nat.le_refl _, Nat.le_refl _⟩ ?_
        refine ⟨rfl, _, rfl, ⟨fun _ _ _ => rfl, fun a h7 h8 => by funext j; simp only [upF, h7, h8, false_and, if_false]⟩, Or.inl ⟨rfl, ?_⟩⟩
        have hch : 48 ≤ ch ∧ ch ≤ 51 := by rcases hv with ⟨-, h⟩ | ⟨h, -⟩; exact h; omega
        rw [if_neg (by omega), if_neg (by omega), if_pos hch, if_pos rfl, if_pos (by omega)]
        refine ⟨_, rfl, t1, by simp [upF]; omega, by simp [upF]; omega, fun j hj => ?_, fun j hj => ?_⟩
        · simp only at hj
          simp only [upF, dgp, show ¬ ((8 : Nat) = 7) by decide, false_and, if_false, true_and]
          by_cases c : j = d0
          · rw [if_pos (by omega), if_pos c]
          · rw [if_neg (by omega), if_neg c]; exact t4 j (by omega)
        · simp only at hj; omega
  · have i0 : I 0 10 - 1 = 1 := by omega
    have p22 : 2 ≤ d0 ∧ d1 ≤ d0 := by omega
    refine MS_of (ls := [lr 0, li ch, lu, lu]) f8_readsCharacter rfl rfl (Nat.le_of_ble_eq_true rfl) ?_
    refine w_aload i8_readsCharacter_0 rfl ?_
    refine w_get i8_readsCharacter_1 rfl rfl ?_
    refine w_const i8_readsCharacter_4 ?_
    refine w_isub i8_readsCharacter_5 (by omega) ?_
    rw [i0]
    refine w_is2 i8_readsCharacter_6 ?_
    refine w_iload i8_readsCharacter_7 rfl ?_
    refine w_ifne i8_readsCharacter_8 (fun h8 => ?_) (fun h_ => absurd h_ (by omega))
    refine w_aload i8_readsCharacter_15 rfl ?_
    refine w_getr i8_readsCharacter_16 rfl rfl ?_
    refine w_const i8_readsCharacter_19 ?_
    refine w_iald i8_readsCharacter_20 rfl (by omega) ?_
    refine w_is3 i8_readsCharacter_21 ?_
    refine w_iload i8_readsCharacter_22 rfl ?_
    refine w_const i8_readsCharacter_23 ?_
    refine w_const i8_readsCharacter_25 ?_
    refine w_cSP i8_readsCharacter_27 f8_in v8_in r_in rfl rfl (Nat.le_of_ble_eq_true rfl) (by omega) (fun v hv => ?_)
    have vd : v = 1 ∨ v = 0 := by rcases hv with h | h <;> omega
    refine w_ifeq i8_readsCharacter_30 (fun h30 => ?_) (fun h30 => ?_)
    · refine w_iload i8_readsCharacter_74 rfl ?_
      refine w_const i8_readsCharacter_75 ?_
      refine w_icmpne i8_readsCharacter_77 (fun h77 => ?_) (fun h77 => ?_)
      · refine w_iload i8_readsCharacter_101 rfl ?_
        refine w_const i8_readsCharacter_102 ?_
        refine w_icmpne i8_readsCharacter_104 (fun h104 => ?_) (fun h104 => ?_)
        · refine w_const i8_readsCharacter_111 ?_
          refine w_iret i8_readsCharacter_112 (Or.inr ⟨rfl, by omega⟩) ⟨Nat.le_refl _, Nat.le_refl _⟩ ?_
          first
          | (refine ⟨rfl, 1, rfl, Rfr.rf, Or.inl ⟨rfl, ?_⟩⟩
             rw [if_pos (by omega)]
             exact ⟨_, rfl, t1, t2, t3, t4, t5⟩)
          | (have nd := nodig v hv (by omega)
             refine ⟨rfl, 0, rfl, Rfr.rf, Or.inr ⟨rfl, ?_⟩⟩
             rw [if_neg (by omega)]
             by_cases c59 : ch = 59
             · rw [if_pos c59, if_neg (by omega)]
             · rw [if_neg c59, if_neg nd])
          | (refine ⟨rfl, 0, rfl, Rfr.rf, Or.inr ⟨rfl, ?_⟩⟩
             rw [if_neg (by omega)]
             by_cases c59 : ch = 59
             · rw [if_pos c59, if_neg (by omega)]
             · rw [if_neg c59]
               by_cases cd : 48 ≤ ch ∧ ch ≤ 51
               · rw [if_pos cd, if_neg (by decide), if_neg (by omega)]
               · rw [if_neg cd])
        · refine w_const i8_readsCharacter_107 ?_
          refine w_goto i8_readsCharacter_108 ?_
          refine w_iret i8_readsCharacter_112 (Or.inr ⟨rfl, by omega⟩) ⟨Nat.le_refl _, Nat.le_refl _⟩ ?_
          first
          | (refine ⟨rfl, 1, rfl, Rfr.rf, Or.inl ⟨rfl, ?_⟩⟩
             rw [if_pos (by omega)]
             exact ⟨_, rfl, t1, t2, t3, t4, t5⟩)
          | (have nd := nodig v hv (by omega)
             refine ⟨rfl, 0, rfl, Rfr.rf, Or.inr ⟨rfl, ?_⟩⟩
             rw [if_neg (by omega)]
             by_cases c59 : ch = 59
             · rw [if_pos c59, if_neg (by omega)]
             · rw [if_neg c59, if_neg nd])
          | (refine ⟨rfl, 0, rfl, Rfr.rf, Or.inr ⟨rfl, ?_⟩⟩
             rw [if_neg (by omega)]
             by_cases c59 : ch = 59
             · rw [if_pos c59, if_neg (by omega)]
             · rw [if_neg c59]
               by_cases cd : 48 ≤ ch ∧ ch ≤ 51
               · rw [if_pos cd, if_neg (by decide), if_neg (by omega)]
               · rw [if_neg cd])
      · refine w_iload i8_readsCharacter_80 rfl ?_
        refine w_ifne i8_readsCharacter_81 (fun h81 => ?_) (fun h_ => absurd h_ (by omega))
        refine w_iload i8_readsCharacter_101 rfl ?_
        refine w_const i8_readsCharacter_102 ?_
        refine w_icmpne i8_readsCharacter_104 (fun h104 => ?_) (fun h104 => ?_)
        · refine w_const i8_readsCharacter_111 ?_
          refine w_iret i8_readsCharacter_112 (Or.inr ⟨rfl, by omega⟩) ⟨Nat.le_refl _, Nat.le_refl _⟩ ?_
          first
          | (refine ⟨rfl, 1, rfl, Rfr.rf, Or.inl ⟨rfl, ?_⟩⟩
             rw [if_pos (by omega)]
             exact ⟨_, rfl, t1, t2, t3, t4, t5⟩)
          | (have nd := nodig v hv (by omega)
             refine ⟨rfl, 0, rfl, Rfr.rf, Or.inr ⟨rfl, ?_⟩⟩
             rw [if_neg (by omega)]
             by_cases c59 : ch = 59
             · rw [if_pos c59, if_neg (by omega)]
             · rw [if_neg c59, if_neg nd])
          | (refine ⟨rfl, 0, rfl, Rfr.rf, Or.inr ⟨rfl, ?_⟩⟩
             rw [if_neg (by omega)]
             by_cases c59 : ch = 59
             · rw [if_pos c59, if_neg (by omega)]
             · rw [if_neg c59]
               by_cases cd : 48 ≤ ch ∧ ch ≤ 51
               · rw [if_pos cd, if_neg (by decide), if_neg (by omega)]
               · rw [if_neg cd])
        · refine w_const i8_readsCharacter_107 ?_
          refine w_goto i8_readsCharacter_108 ?_
          refine w_iret i8_readsCharacter_112 (Or.inr ⟨rfl, by omega⟩) ⟨Nat.le_refl _, Nat.le_refl _⟩ ?_
          first
          | (refine ⟨rfl, 1, rfl, Rfr.rf, Or.inl ⟨rfl, ?_⟩⟩
             rw [if_pos (by omega)]
             exact ⟨_, rfl, t1, t2, t3, t4, t5⟩)
          | (have nd := nodig v hv (by omega)
             refine ⟨rfl, 0, rfl, Rfr.rf, Or.inr ⟨rfl, ?_⟩⟩
             rw [if_neg (by omega)]
             by_cases c59 : ch = 59
             · rw [if_pos c59, if_neg (by omega)]
             · rw [if_neg c59, if_neg nd])
          | (refine ⟨rfl, 0, rfl, Rfr.rf, Or.inr ⟨rfl, ?_⟩⟩
             rw [if_neg (by omega)]
             by_cases c59 : ch = 59
             · rw [if_pos c59, if_neg (by omega)]
             · rw [if_neg c59]
               by_cases cd : 48 ≤ ch ∧ ch ≤ 51
               · rw [if_pos cd, if_neg (by decide), if_neg (by omega)]
               · rw [if_neg cd])
    · refine w_aload i8_readsCharacter_33 rfl ?_
      refine w_getr i8_readsCharacter_34 rfl rfl ?_
      refine w_iload i8_readsCharacter_37 rfl ?_
      refine w_iald i8_readsCharacter_38 rfl (by omega) ?_
      refine w_iload i8_readsCharacter_39 rfl ?_
      refine w_icmpge i8_readsCharacter_40 (fun h40 => ?_) (fun h40 => ?_)
      · refine w_iload i8_readsCharacter_74 rfl ?_
        refine w_const i8_readsCharacter_75 ?_
        refine w_icmpne i8_readsCharacter_77 (fun h77 => ?_) (fun h77 => ?_)
        · refine w_iload i8_readsCharacter_101 rfl ?_
          refine w_const i8_readsCharacter_102 ?_
          refine w_icmpne i8_readsCharacter_104 (fun h104 => ?_) (fun h104 => ?_)
          · refine w_const i8_readsCharacter_111 ?_
            refine w_iret i8_readsCharacter_112 (Or.inr ⟨rfl, by omega⟩) ⟨Nat.le_refl _, Nat.le_refl _⟩ ?_
            first
            | (refine ⟨rfl, 1, rfl, Rfr.rf, Or.inl ⟨rfl, ?_⟩⟩
               rw [if_pos (by omega)]
               exact ⟨_, rfl, t1, t2, t3, t4, t5⟩)
            | (have nd := nodig v hv (by omega)
               refine ⟨rfl, 0, rfl, Rfr.rf, Or.inr ⟨rfl, ?_⟩⟩
               rw [if_neg (by omega)]
               by_cases c59 : ch = 59
               · rw [if_pos c59, if_neg (by omega)]
               · rw [if_neg c59, if_neg nd])
            | (refine ⟨rfl, 0, rfl, Rfr.rf, Or.inr ⟨rfl, ?_⟩⟩
               rw [if_neg (by omega)]
               by_cases c59 : ch = 59
               · rw [if_pos c59, if_neg (by omega)]
               · rw [if_neg c59]
                 by_cases cd : 48 ≤ ch ∧ ch ≤ 51
                 · rw [if_pos cd, if_neg (by decide), if_neg (by omega)]
                 · rw [if_neg cd])
          · refine w_const i8_readsCharacter_107 ?_
            refine w_goto i8_readsCharacter_108 ?_
            refine w_iret i8_readsCharacter_112 (Or.inr ⟨rfl, by omega⟩) ⟨Nat.le_refl _, Nat.le_refl _⟩ ?_
            first
            | (refine ⟨rfl, 1, rfl, Rfr.rf, Or.inl ⟨rfl, ?_⟩⟩
               rw [if_pos (by omega)]
               exact ⟨_, rfl, t1, t2, t3, t4, t5⟩)
            | (have nd := nodig v hv (by omega)
               refine ⟨rfl, 0, rfl, Rfr.rf, Or.inr ⟨rfl, ?_⟩⟩
               rw [if_neg (by omega)]
               by_cases c59 : ch = 59
               · rw [if_pos c59, if_neg (by omega)]
               · rw [if_neg c59, if_neg nd])
            | (refine ⟨rfl, 0, rfl, Rfr.rf, Or.inr ⟨rfl, ?_⟩⟩
               rw [if_neg (by omega)]
               by_cases c59 : ch = 59
               · rw [if_pos c59, if_neg (by omega)]
               · rw [if_neg c59]
                 by_cases cd : 48 ≤ ch ∧ ch ≤ 51
                 · rw [if_pos cd, if_neg (by decide), if_neg (by omega)]
                 · rw [if_neg cd])
        · refine w_iload i8_readsCharacter_80 rfl ?_
          refine w_ifne i8_readsCharacter_81 (fun h81 => ?_) (fun h_ => absurd h_ (by omega))
          refine w_iload i8_readsCharacter_101 rfl ?_
          refine w_const i8_readsCharacter_102 ?_
          refine w_icmpne i8_readsCharacter_104 (fun h104 => ?_) (fun h104 => ?_)
          · refine w_const i8_readsCharacter_111 ?_
            refine w_iret i8_readsCharacter_112 (Or.inr ⟨rfl, by omega⟩) ⟨Nat.le_refl _, Nat.le_refl _⟩ ?_
            first
            | (refine ⟨rfl, 1, rfl, Rfr.rf, Or.inl ⟨rfl, ?_⟩⟩
               rw [if_pos (by omega)]
               exact ⟨_, rfl, t1, t2, t3, t4, t5⟩)
            | (have nd := nodig v hv (by omega)
               refine ⟨rfl, 0, rfl, Rfr.rf, Or.inr ⟨rfl, ?_⟩⟩
               rw [if_neg (by omega)]
               by_cases c59 : ch = 59
               · rw [if_pos c59, if_neg (by omega)]
               · rw [if_neg c59, if_neg nd])
            | (refine ⟨rfl, 0, rfl, Rfr.rf, Or.inr ⟨rfl, ?_⟩⟩
               rw [if_neg (by omega)]
               by_cases c59 : ch = 59
               · rw [if_pos c59, if_neg (by omega)]
               · rw [if_neg c59]
                 by_cases cd : 48 ≤ ch ∧ ch ≤ 51
                 · rw [if_pos cd, if_neg (by decide), if_neg (by omega)]
                 · rw [if_neg cd])
          · refine w_const i8_readsCharacter_107 ?_
            refine w_goto i8_readsCharacter_108 ?_
            refine w_iret i8_readsCharacter_112 (Or.inr ⟨rfl, by omega⟩) ⟨Nat.le_refl _, Nat.le_refl _⟩ ?_
            first
            | (refine ⟨rfl, 1, rfl, Rfr.rf, Or.inl ⟨rfl, ?_⟩⟩
               rw [if_pos (by omega)]
               exact ⟨_, rfl, t1, t2, t3, t4, t5⟩)
            | (have nd := nodig v hv (by omega)
               refine ⟨rfl, 0, rfl, Rfr.rf, Or.inr ⟨rfl, ?_⟩⟩
               rw [if_neg (by omega)]
               by_cases c59 : ch = 59
               · rw [if_pos c59, if_neg (by omega)]
               · rw [if_neg c59, if_neg nd])
            | (refine ⟨rfl, 0, rfl, Rfr.rf, Or.inr ⟨rfl, ?_⟩⟩
               rw [if_neg (by omega)]
               by_cases c59 : ch = 59
               · rw [if_pos c59, if_neg (by omega)]
               · rw [if_neg c59]
                 by_cases cd : 48 ≤ ch ∧ ch ≤ 51
                 · rw [if_pos cd, if_neg (by decide), if_neg (by omega)]
                 · rw [if_neg cd])
      · refine w_aload i8_readsCharacter_43 rfl ?_
        refine w_getr i8_readsCharacter_44 rfl rfl ?_
        refine w_const i8_readsCharacter_47 ?_
        refine w_iload i8_readsCharacter_48 rfl ?_
        refine w_imul i8_readsCharacter_49 (by omega) ?_
        refine w_aload i8_readsCharacter_50 rfl ?_
        refine w_getr i8_readsCharacter_51 rfl rfl ?_
        refine w_iload i8_readsCharacter_54 rfl ?_
        refine w_iald i8_readsCharacter_55 rfl (by omega) ?_
        refine w_iadd i8_readsCharacter_56 (by omega) ?_
        refine w_iload i8_readsCharacter_57 rfl ?_
        refine w_const i8_readsCharacter_58 ?_
        refine w_isub i8_readsCharacter_60 ((by rcases hv with h | h <;> constructor <;> omega)) ?_
        refine w_iast i8_readsCharacter_61 rfl (by omega) ?_
        refine w_aload i8_readsCharacter_62 rfl ?_
        refine w_getr i8_readsCharacter_63 rfl rfl ?_
        refine w_iload i8_readsCharacter_66 rfl ?_
        refine w_dup2 i8_readsCharacter_67 ?_
        refine w_iald i8_readsCharacter_68 rfl (by omega) ?_
        rw [u7]
        refine w_const i8_readsCharacter_69 ?_
        refine w_iadd i8_readsCharacter_70 (by omega) ?_
        refine w_iast i8_readsCharacter_71 rfl (by omega) ?_
        refine w_const i8_readsCharacter_72 ?_
        refine w_iret i8_readsCharacter_73 (Or.inr ⟨rfl, by omega⟩) ⟨Nat.le_refl _, Nat.le_refl _⟩ ?_
        refine ⟨rfl, _, rfl, ⟨fun _ _ _ => rfl, fun a h7 h8 => by funext j; simp only [upF, h7, h8, false_and, if_false]⟩, Or.inl ⟨rfl, ?_⟩⟩
        have hch : 48 ≤ ch ∧ ch ≤ 51 := by rcases hv with ⟨-, h⟩ | ⟨h, -⟩; exact h; omega
        rw [if_neg (by omega), if_neg (by omega), if_pos hch, if_neg (by decide), if_pos (by omega)]
        refine ⟨_, rfl, t1, by simp [upF]; omega, by simp [upF]; omega, fun j hj => ?_, fun j hj => ?_⟩
        · simp only at hj
          simp only [upF, dgp, show ¬ ((8 : Nat) = 7) by decide, false_and, if_false, true_and]
          rw [if_neg (by omega), if_neg (by omega)]; exact t4 j (by omega)
        · simp only at hj
          simp only [upF, dgp, show ¬ ((8 : Nat) = 7) by decide, false_and, if_false, true_and]
          by_cases c : j = d1
          · rw [if_pos (by omega), if_pos (by omega)]
          · rw [if_neg (by omega), if_neg (by omega)]; exact t5 j (by omega)
theorem lr_rt {d n0 : Nat} {Q : PQ} {I : IE} {F : FE} (hd : 2 ≤ d) (hl : 0 ≤ I 0 4 ∧ I 0 4 ≤ 40)
    (K1 : ∀ I' F' p, Rfr I I' F F' → prun (F 3) (I 0 4).toNat = some p → TRr I' F' p → WS m8_readsText d 0 0 n0 Q 0 0 50 [lr 0, li (I 0 4)] [] shM I' F')
    (K0 : ∀ I' F' p (k : Nat), Rfr I I' F F' → k < (I 0 4).toNat → prun (F 3) k = some p → prun (F 3) (k + 1) = none → WS m8_readsText d 0 0 n0 Q 0 0 42 [lr 0, li k] [] shM I' F') :
    ∀ (m k : Nat) (I' : IE) (F' : FE) (p : PSt), (k + m : Int) = I 0 4 → Rfr I I' F F' → prun (F 3) k = some p → TRr I' F' p → WS m8_readsText d 0 0 n0 Q 0 0 21 [lr 0, li k] [] shM I' F' := by
  intro m
  induction m with
  | zero =>
    intro k I' F' p hk hf hr hT
    have e : (k : Int) = I 0 4 := by omega
    have e0 : I' 0 4 = I 0 4 := hf.1 0 4 (by omega)
    refine w_iload i8_readsText_21 rfl ?_
    refine w_aload i8_readsText_22 rfl ?_
    refine w_get i8_readsText_23 rfl rfl ?_
    refine w_icmpge i8_readsText_26 (fun h26 => ?_) (fun h_ => absurd h_ (by omega))
    rw [e]
    exact K1 I' F' p hf (by rw [← hr]; congr 1; omega) hT
  | succ m ih =>
    intro k I' F' p hk hf hr hT
    have e0 : I' 0 4 = I 0 4 := hf.1 0 4 (by omega)
    have e1 : F' 3 = F 3 := hf.2 3 (by decide) (by decide)
    have es : prun (F 3) (k + 1) = pstep (F 3 k) p := by simp only [prun]; rw [hr]; rfl
    refine w_iload i8_readsText_21 rfl ?_
    refine w_aload i8_readsText_22 rfl ?_
    refine w_get i8_readsText_23 rfl rfl ?_
    refine w_icmpge i8_readsText_26 (fun h_ => absurd h_ (by omega)) (fun h26 => ?_)
    refine w_aload i8_readsText_29 rfl ?_
    refine w_aload i8_readsText_30 rfl ?_
    refine w_getr i8_readsText_31 rfl rfl ?_
    refine w_iload i8_readsText_34 rfl ?_
    refine w_iald i8_readsText_35 rfl (by omega) ?_
    rw [e1]
    refine w_cVB i8_readsText_36 f8_readsCharacter v8_readsCharacter (r_readsCharacter (p := p) (by omega) (prun_ok k hr) hT) rfl rfl (by decide) rfl rfl (Nat.le_of_ble_eq_true rfl) (by omega) (fun v I1 F1 hq => ?_)
    obtain ⟨hf2, hv⟩ := hq
    refine w_ifne i8_readsText_39 (fun h39 => ?_) (fun h39 => ?_)
    · refine w_ii1 i8_readsText_44 (by omega) ?_
      refine w_goto i8_readsText_47 ?_
      obtain ⟨q, hq1, hq2⟩ : ∃ q, pstep (F 3 k) p = some q ∧ TRr I1 F1 q := by
        rcases hv with h | h
        · exact h.2
        · omega
      exact ih (k + 1) I1 F1 q (by omega) (hf.tr hf2) (by rw [es]; exact hq1) hq2
    · have hn : pstep (F 3 k) p = none := by
        rcases hv with h | h
        · omega
        · exact h.2
      exact K0 _ _ p k (hf.tr hf2) (by omega) hr (by rw [es]; exact hn)
theorem r_readsText {d : Nat} {I : IE} {F : FE} (hd : 2 ≤ d) (hl : 0 ≤ I 0 4 ∧ I 0 4 ≤ 40) :
    MB m8_readsText d shM [rv 0] I F (fun v I' F' => Rfr I I' F F' ∧ ((0 ≤ v ∧ PErr (F 3) (I 0 4).toNat v) ∨ (v = -1009 ∧ ∃ p, prun (F 3) (I 0 4).toNat = some p ∧ pend p ∧ TRr I' F' p))) := by
  refine MS_of (ls := [lr 0, lu]) f8_readsText rfl rfl (Nat.le_of_ble_eq_true rfl) ?_
  refine w_aload i8_readsText_0 rfl ?_
  refine w_const i8_readsText_1 ?_
  refine w_put i8_readsText_2 rfl rfl (Or.inl rfl) ?_
  refine w_aload i8_readsText_5 rfl ?_
  refine w_getr i8_readsText_6 rfl rfl ?_
  refine w_const i8_readsText_9 ?_
  refine w_const i8_readsText_10 ?_
  refine w_iast i8_readsText_11 rfl (by omega) ?_
  refine w_aload i8_readsText_12 rfl ?_
  refine w_getr i8_readsText_13 rfl rfl ?_
  refine w_const i8_readsText_16 ?_
  refine w_const i8_readsText_17 ?_
  refine w_iast i8_readsText_18 rfl (by omega) ?_
  refine w_const i8_readsText_19 ?_
  refine w_is1 i8_readsText_20 ?_
  refine lr_rt (I := I) (F := F) hd hl (fun I' F' p hf hr hT => ?_) (fun I' F' p k hf hk hr hn => ?_) (I 0 4).toNat 0 _ _ (1, 0, 0, fun _ => 0) (by omega) ⟨fun a k ha => by simp only [upI]; rw [if_neg (by omega)], fun a h7 h8 => by funext j; simp only [upF, h7, false_and, if_false]⟩ rfl ⟨by simp [upI], by simp [upF], by simp [upF], fun j hj => absurd hj (by simp), fun j hj => absurd hj (by simp)⟩
  · have hpok := prun_ok _ hr
    obtain ⟨r, d0, d1, g⟩ := p
    obtain ⟨p1, p2, p3, p4, p5⟩ := hpok
    have hT' := hT
    obtain ⟨t1, t2, t3, t4, t5⟩ := hT
    simp only at p1 p2 p3 p4 p5 t1 t2 t3 t4 t5
    have e0 : I' 0 4 = I 0 4 := hf.1 0 4 (by omega)
    have en : ((I 0 4).toNat : Int) = I 0 4 := by omega
    have epe : pend (r, d0, d1, g) = (if r = 1 then 2 ≤ d0 else d0 ≤ d1) := rfl
    have key : pend (r, d0, d1, g) ↔ (2 ≤ d0 ∧ (r = 2 → d0 ≤ d1)) := by
      rw [epe]
      rcases p1 with ⟨h, -⟩ | ⟨h, h2, -⟩
      · rw [if_pos h]; omega
      · rw [if_neg (by omega)]; omega
    refine w_aload i8_readsText_50 rfl ?_
    refine w_getr i8_readsText_51 rfl rfl ?_
    refine w_const i8_readsText_54 ?_
    refine w_iald i8_readsText_55 rfl (by omega) ?_
    refine w_const i8_readsText_56 ?_
    refine w_icmplt i8_readsText_57 (fun h57 => ?_) (fun h57 => ?_)
    · refine w_aload i8_readsText_83 rfl ?_
      refine w_get i8_readsText_84 rfl rfl ?_
      refine w_goto i8_readsText_87 ?_
      refine w_iret i8_readsText_93 (Or.inl rfl) ⟨Nat.le_refl _, Nat.le_refl _⟩ ?_
      first
      | (refine ⟨rfl, -1009, rfl, hf, Or.inr ⟨rfl, _, hr, key.mpr ⟨by omega, fun h => by omega⟩, hT'⟩⟩)
      | (refine ⟨rfl, I' 0 4, rfl, hf, Or.inl ⟨by omega, Or.inr (Or.inl ⟨_, hr, fun h => ?_, by omega⟩)⟩⟩
         have := key.mp h
         omega)
    · refine w_aload i8_readsText_60 rfl ?_
      refine w_get i8_readsText_61 rfl rfl ?_
      refine w_const i8_readsText_64 ?_
      refine w_icmpne i8_readsText_65 (fun h65 => ?_) (fun h65 => ?_)
      · refine w_const i8_readsText_90 ?_
        refine w_iret i8_readsText_93 (Or.inl rfl) ⟨Nat.le_refl _, Nat.le_refl _⟩ ?_
        first
        | (refine ⟨rfl, -1009, rfl, hf, Or.inr ⟨rfl, _, hr, key.mpr ⟨by omega, fun h => by omega⟩, hT'⟩⟩)
        | (refine ⟨rfl, I' 0 4, rfl, hf, Or.inl ⟨by omega, Or.inr (Or.inl ⟨_, hr, fun h => ?_, by omega⟩)⟩⟩
           have := key.mp h
           omega)
      · refine w_aload i8_readsText_68 rfl ?_
        refine w_getr i8_readsText_69 rfl rfl ?_
        refine w_const i8_readsText_72 ?_
        refine w_iald i8_readsText_73 rfl (by omega) ?_
        refine w_aload i8_readsText_74 rfl ?_
        refine w_getr i8_readsText_75 rfl rfl ?_
        refine w_const i8_readsText_78 ?_
        refine w_iald i8_readsText_79 rfl (by omega) ?_
        refine w_icmpge i8_readsText_80 (fun h80 => ?_) (fun h80 => ?_)
        · refine w_const i8_readsText_90 ?_
          refine w_iret i8_readsText_93 (Or.inl rfl) ⟨Nat.le_refl _, Nat.le_refl _⟩ ?_
          first
          | (refine ⟨rfl, -1009, rfl, hf, Or.inr ⟨rfl, _, hr, key.mpr ⟨by omega, fun h => by omega⟩, hT'⟩⟩)
          | (refine ⟨rfl, I' 0 4, rfl, hf, Or.inl ⟨by omega, Or.inr (Or.inl ⟨_, hr, fun h => ?_, by omega⟩)⟩⟩
             have := key.mp h
             omega)
        · refine w_aload i8_readsText_83 rfl ?_
          refine w_get i8_readsText_84 rfl rfl ?_
          refine w_goto i8_readsText_87 ?_
          refine w_iret i8_readsText_93 (Or.inl rfl) ⟨Nat.le_refl _, Nat.le_refl _⟩ ?_
          first
          | (refine ⟨rfl, -1009, rfl, hf, Or.inr ⟨rfl, _, hr, key.mpr ⟨by omega, fun h => by omega⟩, hT'⟩⟩)
          | (refine ⟨rfl, I' 0 4, rfl, hf, Or.inl ⟨by omega, Or.inr (Or.inl ⟨_, hr, fun h => ?_, by omega⟩)⟩⟩
             have := key.mp h
             omega)
  · refine w_iload i8_readsText_42 rfl ?_
    refine w_iret i8_readsText_43 (Or.inl rfl) ⟨Nat.le_refl _, Nat.le_refl _⟩ ?_
    exact ⟨rfl, _, rfl, hf, Or.inl ⟨by omega, Or.inl ⟨k, p, hk, hr, hn, rfl⟩⟩⟩
theorem r_append {d : Nat} {I : IE} {F : FE} {S : Sx} {x : Int} (hd : 1 ≤ d) (h : DI S I F) : MB m8_append d shM [rv 0, iv x] I F (fun v I' F' => (¬ (0 ≤ x ∧ x ≤ 255) ∧ v = -1001 ∧ DI S I' F') ∨ (0 ≤ x ∧ x ≤ 255) ∧ (S.2.2.1 = 40 ∧ v = -1003 ∧ DI S I' F' ∨ S.2.2.1 < 40 ∧ v = (S.2.2.1 : Int) + 1 ∧ DI (S.1, S.2.1, (S.2.2.1 + 1, fun j => if j = (S.2.2.1 : Int) then x else S.2.2.2 j)) I' F')) := by
  obtain ⟨hS, hB, hH, t1, t2, t3⟩ := id h
  refine MS_of (ls := [lr 0, li x]) f8_append rfl rfl (Nat.le_of_ble_eq_true rfl) ?_
  refine w_iload i8_append_0 rfl ?_
  refine w_const i8_append_1 ?_
  refine w_const i8_append_2 ?_
  refine w_cSP i8_append_5 f8_in v8_in r_in rfl rfl (Nat.le_of_ble_eq_true rfl) (by omega) (fun v hv => ?_)
  refine w_ifne i8_append_8 (fun h8 => ?_) (fun h8 => ?_)
  · refine w_aload i8_append_15 rfl ?_
    refine w_get i8_append_16 rfl rfl ?_
    refine w_const i8_append_19 ?_
    refine w_icmpne i8_append_21 (fun h21 => ?_) (fun h21 => ?_)
    · refine w_aload i8_append_28 rfl ?_
      refine w_getr i8_append_29 rfl rfl ?_
      refine w_aload i8_append_32 rfl ?_
      refine w_get i8_append_33 rfl rfl ?_
      refine w_iload i8_append_36 rfl ?_
      refine w_iast i8_append_37 rfl (by omega) ?_
      refine w_aload i8_append_38 rfl ?_
      refine w_dup i8_append_39 ?_
      refine w_get i8_append_40 rfl rfl ?_
      refine w_const i8_append_43 ?_
      refine w_iadd i8_append_44 (by omega) ?_
      refine w_put i8_append_45 rfl rfl (Or.inl rfl) ?_
      refine w_aload i8_append_48 rfl ?_
      refine w_get i8_append_49 rfl rfl ?_
      refine w_iret i8_append_52 (Or.inl rfl) ⟨Nat.le_refl _, Nat.le_refl _⟩ ?_
      have u2 : ∀ a, a ≠ 3 → upF F 3 (I 0 4) x a = F a := fun a ha => by funext j; simp only [upF, ha, false_and, if_false]
      refine ⟨rfl, _, rfl, Or.inr ⟨by rcases hv with g | g <;> omega, Or.inr ⟨by omega, by simp [upI, t1], ⟨hS.1, hS.2.1, by rw [u2 1 (by decide)]; exact hS.2.2⟩, hB.fr (by simp only [upI]; rw [if_neg (by omega)]) (u2 4 (by decide)), hH.fr (by simp only [upI]; rw [if_neg (by omega)]) (u2 2 (by decide)), by simp [upI, t1], by show S.2.2.1 + 1 ≤ 40; omega, fun j hj => ?_⟩⟩⟩
      have hj' : 0 ≤ j ∧ j < ((S.2.2.1 + 1 : Nat) : Int) := hj
      show upF F 3 (I 0 4) x 3 j = if j = (S.2.2.1 : Int) then x else S.2.2.2 j
      simp only [upF, true_and, t1]
      split
      · rfl
      · exact t3 j (by omega)
    · refine w_const i8_append_24 ?_
      refine w_iret i8_append_27 (Or.inl rfl) ⟨Nat.le_refl _, Nat.le_refl _⟩ ?_
      exact ⟨rfl, _, rfl, Or.inr ⟨by rcases hv with g | g <;> omega, Or.inl ⟨by omega, rfl, h⟩⟩⟩
  · refine w_const i8_append_11 ?_
    refine w_iret i8_append_14 (Or.inl rfl) ⟨Nat.le_refl _, Nat.le_refl _⟩ ?_
    exact ⟨rfl, _, rfl, Or.inl ⟨by rcases hv with g | g <;> omega, rfl, h⟩⟩
theorem r_clearText {d : Nat} {I : IE} {F : FE} {S : Sx} (h : DI S I F) : MB m8_clearText d shM [rv 0] I F (fun v I' F' => v = S.2.2.1 ∧ DI (S.1, S.2.1, (0, S.2.2.2)) I' F') := by
  obtain ⟨hS, hB, hH, t1, t2, t3⟩ := h
  refine MS_of (ls := [lr 0, lu]) f8_clearText rfl rfl (Nat.le_of_ble_eq_true rfl) ?_
  refine w_aload i8_clearText_0 rfl ?_
  refine w_get i8_clearText_1 rfl rfl ?_
  refine w_is1 i8_clearText_4 ?_
  refine w_aload i8_clearText_5 rfl ?_
  refine w_const i8_clearText_6 ?_
  refine w_put i8_clearText_7 rfl rfl (Or.inl rfl) ?_
  refine w_iload i8_clearText_10 rfl ?_
  refine w_iret i8_clearText_11 (Or.inl rfl) ⟨Nat.le_refl _, Nat.le_refl _⟩ ?_
  refine ⟨rfl, _, rfl, t1, hS, hB.fr (by simp only [upI]; rw [if_neg (by omega)]) rfl, hH.fr (by simp only [upI]; rw [if_neg (by omega)]) rfl, by simp [upI], Nat.zero_le _, fun j hj => absurd hj (by show ¬ (0 ≤ j ∧ j < ((0 : Nat) : Int)); omega)⟩
