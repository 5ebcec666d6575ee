section MARKOV
variable {d n0 : Nat} {Q : PQ}
/-- one after the other: none of those that are left may be spared -/
theorem lmE {S0 : Sx} {G : FE} {x left : Int} {x5 x6 x7 : Option AV} (hd : 9 ≤ d) (hS : SF S0) (hp : Pos (gM S0.1) (gC S0.1)) (hA : MkA (gM S0.1) (gC S0.1) (gA S0.1)) (hl : left = ons (gA S0.1) 16) (hmin : ∀ e : Nat, (e : Int) < gk (gM S0.1) (gC S0.1) → gA S0.1 e = 1 → ¬ MkA (gM S0.1) (gC S0.1) (swA (gA S0.1) e 0))
    (K : ∀ S I F, CI S I F → S.1 = S0.1 → (∀ a, 62 ≤ a → F a = G a) → Q (some (.inl 1)) shL I F) :
    ∀ (w q : Nat) (x10 : Option AV) (S : Sx) (I : IE) (F : FE), (q + w : Int) = gk (gM S0.1) (gC S0.1) → CI S I F → S.1 = S0.1 → (∀ a, 62 ≤ a → F a = G a) → WS mL_markov d 0 0 n0 Q 0 0 191 [lr 0, lr 62, lr 63, li x, li (gk (gM S0.1) (gC S0.1)), x5, x6, x7, li left, li q, x10] [] shL I F := by
  have hn := hS.1.2.1
  have hM3 := hS.1.2.2.1
  have hB := hS.2.1
  have hk := hS.2.2
  intro w
  induction w with
  | zero =>
    intro q x10 S I F hq hC hE hF
    refine w_iload iL_markov_191 rfl ?_
    refine w_iload iL_markov_193 rfl ?_
    refine w_icmpge iL_markov_195 (fun h195 => ?_) (fun h_ => absurd h_ (by omega))
    refine w_const iL_markov_263 ?_
    refine w_iret iL_markov_264 (Or.inr ⟨rfl, by omega⟩) ⟨Nat.le_refl _, Nat.le_refl _⟩ ?_
    exact K S I F hC hE hF
  | succ w ih =>
    intro q x10 S I F hq hC hE hF
    have hqr : 0 ≤ (q : Int) ∧ (q : Int) < gk (gM S0.1) (gC S0.1) := by omega
    have tq : ((q : Int)).toNat = q := by omega
    have nx : ∀ (x10 : Option AV) (S1 : Sx) (I1 : IE) (F1 : FE), CI S1 I1 F1 → S1.1 = S0.1 → (∀ a, 62 ≤ a → F1 a = G a) → WS mL_markov d 0 0 n0 Q 0 0 257 [lr 0, lr 62, lr 63, li x, li (gk (gM S0.1) (gC S0.1)), x5, x6, x7, li left, li q, x10] [] shL I1 F1 := fun x10 S1 I1 F1 h1 h2 h3 => by
      refine w_ii9 iL_markov_257 (by omega) ?_
      refine w_goto iL_markov_260 ?_
      exact ih (q + 1) _ S1 I1 F1 (by omega) h1 h2 h3
    have a01 : gA S0.1 q = 0 ∨ gA S0.1 q = 1 := hS.1.2.2.2.2.2.2.2.2 q
    -- behind the first question
    have c221 : ∀ (S1 : Sx) (I1 : IE) (F1 : FE), CI S1 I1 F1 → S1.1 = S0.1 → (∀ a, 62 ≤ a → F1 a = G a) → WS mL_markov d 0 0 n0 Q 0 0 221 [lr 0, lr 62, lr 63, li x, li (gk (gM S0.1) (gC S0.1)), x5, x6, x7, li left, li q, li (gA S0.1 q)] [] shL I1 F1 := fun S1 I1 F1 hC1 hE1 hF1 => by
      by_cases c : gA S0.1 q = 1
      · have hle := (ons_le (A := gA S0.1) (B := gA S0.1) (fun j => by have := hS.1.2.2.2.2.2.2.2.2 j; omega) 16).1
        have hub := ons_ub (A := gA S0.1) (fun j => by have := hS.1.2.2.2.2.2.2.2.2 j; omega) 16
        refine w_iload iL_markov_221 rfl ?_
        refine w_const iL_markov_223 ?_
        refine w_icmpne iL_markov_224 (fun h_ => absurd h_ (by omega)) (fun h224 => ?_)
        refine w_aload iL_markov_227 rfl ?_
        refine w_iload iL_markov_228 rfl ?_
        refine w_const iL_markov_230 ?_
        refine w_o iL_markov_231 f7_activate v7_activate (o_activate (by rw [hE1]; exact hqr) (by decide) (by rw [hE1, tq, c]; decide)) hC1 rfl rfl rfl rfl (Nat.le_of_ble_eq_true rfl) (by omega) ⟨Nat.le_refl _, Nat.le_refl _⟩ (fun v2 S2 I2 F2 hq2 hC2 hf2 => ?_)
        obtain ⟨rfl, rfl⟩ := hq2
        have F2e : ∀ a, 62 ≤ a → F2 a = G a := fun a h => (hf2 a h).trans (hF1 a h)
        refine w_iload iL_markov_234 rfl ?_
        refine w_const iL_markov_236 ?_
        refine w_isub iL_markov_237 (by omega) ?_
        refine w_icmpne iL_markov_238 (fun h_ => absurd h_ (fun z => z (by rw [hE1, tq, ons_sw, if_pos (by omega), c, hl]))) (fun h238 => ?_)
        refine w_aload iL_markov_241 rfl ?_
        refine w_o iL_markov_242 f7_isMarkov v7_isMarkov (o_isMarkov (by show Pos (gM S1.1) (gC S1.1); rw [hE1]; exact hp)) hC2 rfl rfl rfl rfl (Nat.le_of_ble_eq_true rfl) (by omega) ⟨Nat.le_refl _, Nat.le_refl _⟩ (fun v3 S3 I3 F3 hq3 hC3 hf3 => ?_)
        obtain ⟨hv3, rfl⟩ := hq3
        have hnm : ¬ MkO (gM (wA (psh S1) ((q : Int)).toNat 0).1) (gC (wA (psh S1) ((q : Int)).toNat 0).1) (gA (wA (psh S1) ((q : Int)).toNat 0).1) := fun z => by
          have z2 : MkO (gM S1.1) (gC S1.1) (swA (gA S1.1) ((q : Int)).toNat 0) := z
          rw [hE1, tq] at z2
          exact hmin q hqr.2 c ((mk_eq hn hM3 hp hB).mp z2)
        have F3e : ∀ a, 62 ≤ a → F3 a = G a := fun a h => (hf3 a h).trans (F2e a h)
        refine w_ifne iL_markov_245 (fun h_ => absurd h_ (fun z => by rcases hv3 with ⟨-, g⟩ | ⟨g, -⟩; exact hnm g; exact z g)) (fun h245 => ?_)
        refine w_aload iL_markov_248 rfl ?_
        refine w_o iL_markov_249 f7_undo v7_undo (o_undo (S := wA (psh S1) ((q : Int)).toNat 0) (psh_c S1).1) hC3 rfl rfl rfl rfl (Nat.le_of_ble_eq_true rfl) (by omega) ⟨Nat.le_refl _, Nat.le_refl _⟩ (fun v4 S4 I4 F4 hq4 hC4 hf4 => ?_)
        obtain ⟨rfl, rfl⟩ := hq4
        have pc1 := (psh_c S1).1
        refine w_ifge iL_markov_252 (fun h252 => ?_) (fun h_ => absurd h_ (by have : (((wA (psh S1) ((q : Int)).toNat 0).2.1.1 : Nat) : Int) = ((psh S1).2.1.1 : Nat) := rfl; omega))
        refine nx _ _ I4 F4 hC4 ?_ (fun a h => (hf4 a h).trans (F3e a h))
        rw [← hE1]; exact pop_psh S1 _
      · refine w_iload iL_markov_221 rfl ?_
        refine w_const iL_markov_223 ?_
        refine w_icmpne iL_markov_224 (fun h224 => ?_) (fun h_ => absurd h_ (by omega))
        exact nx _ S1 I1 F1 hC1 hE1 hF1
    refine w_iload iL_markov_191 rfl ?_
    refine w_iload iL_markov_193 rfl ?_
    refine w_icmpge iL_markov_195 (fun h_ => absurd h_ (by omega)) (fun h195 => ?_)
    refine w_aload iL_markov_198 rfl ?_
    refine w_iload iL_markov_199 rfl ?_
    refine w_o iL_markov_201 f7_isActive v7_isActive (o_isActive (by rw [hE]; exact hqr)) hC rfl rfl rfl rfl (Nat.le_of_ble_eq_true rfl) (by omega) ⟨Nat.le_refl _, Nat.le_refl _⟩ (fun v1 S1 I1 F1 hq1 hC1 hf1 => ?_)
    obtain ⟨rfl, rfl⟩ := hq1
    rw [hE, tq]
    refine w_is10 iL_markov_204 ?_
    refine w_aload iL_markov_206 rfl ?_
    refine w_iload iL_markov_207 rfl ?_
    refine w_o iL_markov_209 f7_isIndispensable v7_isIndispensable (o_isIndispensable (by rw [hE]; exact hqr) (by rw [hE]; exact hp)) hC1 rfl rfl rfl rfl (Nat.le_of_ble_eq_true rfl) (by omega) ⟨Nat.le_refl _, Nat.le_refl _⟩ (fun v2 S2 I2 F2 hq2 hC2 hf2 => ?_)
    obtain ⟨hv2, rfl⟩ := hq2
    rw [hE] at hv2
    refine w_const iL_markov_212 ?_
    refine w_icmpne iL_markov_213 (fun h213 => ?_) (fun h213 => ?_)
    · exact c221 _ I2 F2 hC2 hE (fun a h => (hf2 a h).trans ((hf1 a h).trans (hF a h)))
    · skip
      have e218 : ¬ gA S0.1 q = 0 := fun z => by
        rcases hv2 with ⟨-, g⟩ | ⟨g, -⟩
        · rw [ind_on hn hM3 hp hB hqr.2 g hA] at z; exact absurd z (by decide)
        · omega
      refine w_iload iL_markov_216 rfl ?_
      refine w_ifeq iL_markov_218 (fun h_ => absurd h_ (e218)) (fun h218 => ?_)
      exact c221 _ I2 F2 hC2 hE (fun a h => (hf2 a h).trans ((hf1 a h).trans (hF a h)))
/-- behind the choice of what is active -/
theorem lm107 {S : Sx} {I : IE} {F : FE} {x act : Int} {x6 : Option AV} (hd : 9 ≤ d) (hC : CI S I F) (hM : F 62 1 = gC S.1) (hp : Pos (gM S.1) (gC S.1)) (ha : act = ons (gA S.1) 16)
    (K : ∀ S' I' F', CI S' I' F' → (∀ a, 62 ≤ a → a ≠ 63 → F' a = F a) → Q (some (.inl 1)) shL I' F') :
    WS mL_markov d 0 0 n0 Q 0 0 107 [lr 0, lr 62, lr 63, li x, li (gk (gM S.1) (gC S.1)), li act, x6, lu, lu, lu, lu] [] shL I F := by
  have hS := hC.sf
  have hn := hS.1.2.1
  have hM3 := hS.1.2.2.1
  have hB := hS.2.1
  have hk := hS.2.2
  -- behind the question whether it is one
  have c141 : ∀ (al is : Int) (S2 : Sx) (I2 : IE) (F2 : FE), CI S2 I2 F2 → EqM S S2 → (∀ a, 62 ≤ a → a ≠ 63 → F2 a = F a) → tf (MkO (gM S.1) (gC S.1) (gA S.1)) is → WS mL_markov d 0 0 n0 Q 0 0 141 [lr 0, lr 62, lr 63, li x, li (gk (gM S.1) (gC S.1)), li act, li al, li is, lu, lu, lu] [] shL I2 F2 := fun al is S2 I2 F2 hC2 hE2 hV2 his => by
    have gm : gM S2.1 = gM S.1 := hE2.2.2.1
    have gc : gC S2.1 = gC S.1 := hE2.2.1
    have ga : gA S2.1 = gA S.1 := hE2.2.2.2
    by_cases c : MkO (gM S.1) (gC S.1) (gA S.1)
    · have is1 : is = 1 := by
        rcases his with ⟨g, -⟩ | ⟨-, g⟩
        · exact g
        · exact absurd c g
      have rd : rdS S2 = rdA (gM S.1) (gC S.1) (gk (gM S.1) (gC S.1)).toNat (gA S.1) := by unfold rdS; rw [gm, gc, ga]
      obtain ⟨r1, r2, r3, r4⟩ := rd_ok hn hM3 hp hB (gk (gM S.1) (gC S.1)).toNat (gA S.1) (by omega) ((mk_eq hn hM3 hp hB).mp c)
      rw [← rd] at r1 r2 r3 r4
      have ol := ons_le (A := rdS S2) (B := gA S.1) (fun j => by
        have := hS.1.2.2.2.2.2.2.2.2 j
        have := r2 j
        omega) 16
      refine w_aload iL_markov_141 rfl ?_
      refine w_o iL_markov_142 f7_reduce v7_reduce (o_reduce (by rw [gm, gc]; exact hp) (by rw [gm, gc, ga]; exact c)) hC2 rfl rfl rfl rfl (Nat.le_of_ble_eq_true rfl) (by omega) ⟨Nat.le_refl _, Nat.le_refl _⟩ (fun v3 S3 I3 F3 hq3 hC3 hf3 => ?_)
      obtain ⟨rfl, rfl⟩ := hq3
      have mk3 : MkA (gM (stA (psh S2) (rdS S2)).1) (gC (stA (psh S2) (rdS S2)).1) (gA (stA (psh S2) (rdS S2)).1) := by
        show MkA (gM S2.1) (gC S2.1) (rdS S2)
        rw [gm, gc]; exact r1
      have hp3 : Pos (gM (stA (psh S2) (rdS S2)).1) (gC (stA (psh S2) (rdS S2)).1) := by
        show Pos (gM S2.1) (gC S2.1)
        rw [gm, gc]; exact hp
      refine w_is8 iL_markov_145 ?_
      refine w_iload iL_markov_147 rfl ?_
      refine w_ifne iL_markov_149 (fun h149 => ?_) (fun h_ => absurd h_ (by omega))
      refine w_iload iL_markov_166 rfl ?_
      refine w_iload iL_markov_168 rfl ?_
      refine w_icmpgt iL_markov_170 (fun h_ => absurd h_ (by omega)) (fun h170 => ?_)
      refine w_iload iL_markov_173 rfl ?_
      refine w_iflt iL_markov_175 (fun h_ => absurd h_ (by omega)) (fun h175 => ?_)
      refine w_aload iL_markov_178 rfl ?_
      refine w_o iL_markov_179 f7_isMarkov v7_isMarkov (o_isMarkov hp3) hC3 rfl rfl rfl rfl (Nat.le_of_ble_eq_true rfl) (by omega) ⟨Nat.le_refl _, Nat.le_refl _⟩ (fun v4 S4 I4 F4 hq4 hC4 hf4 => ?_)
      obtain ⟨hv4, rfl⟩ := hq4
      refine w_const iL_markov_182 ?_
      refine w_icmpeq iL_markov_183 (fun h183 => ?_) (fun h_ => absurd h_ (fun z => by rcases hv4 with ⟨g, -⟩ | ⟨-, g⟩; exact z g; exact g ((mk_eq (by show 2 ≤ gC S2.1 ∧ gC S2.1 ≤ 4; rw [gc]; exact hn) (by show ∀ j, 0 ≤ gM S2.1 j ∧ gM S2.1 j ≤ 3; rw [gm]; exact hM3) hp3 hC3.sf.2.1).mpr mk3)))
      refine w_const iL_markov_188 ?_
      refine w_is9 iL_markov_189 ?_
      have e0 : gk (gM (stA (psh S2) (rdS S2)).1) (gC (stA (psh S2) (rdS S2)).1) = gk (gM S.1) (gC S.1) := by
        show gk (gM S2.1) (gC S2.1) = _
        rw [gm, gc]
      rw [← e0]
      refine lmE (S0 := stA (psh S2) (rdS S2)) (G := F4) hd hC3.sf hp3 mk3 rfl (fun e he h1 => ?_) (fun S5 I5 F5 g1 g2 g3 => K S5 I5 F5 g1 (fun a h1 h2 => by rw [g3 a h1, hf4 a h1, hf3 a h1, hV2 a h1 h2])) (gk (gM S.1) (gC S.1)).toNat 0 _ _ I4 F4 (by rw [e0]; omega) hC4 rfl (fun _ _ => rfl)
      show ¬ MkA (gM S2.1) (gC S2.1) (swA (rdS S2) e 0)
      rw [gm, gc]
      exact r4 e (by rw [e0] at he; omega) h1
    · have is0 : is = 0 := by
        rcases his with ⟨-, g⟩ | ⟨g, -⟩
        · exact absurd g c
        · exact g
      refine w_aload iL_markov_141 rfl ?_
      refine w_o iL_markov_142 f7_reduce v7_reduce (o_reduce0 (by rw [gm, gc, ga]; exact fun z => c z.2)) hC2 rfl rfl rfl rfl (Nat.le_of_ble_eq_true rfl) (by omega) ⟨Nat.le_refl _, Nat.le_refl _⟩ (fun v3 S3 I3 F3 hq3 hC3 hf3 => ?_)
      obtain ⟨rfl, rfl⟩ := hq3
      refine w_is8 iL_markov_145 ?_
      refine w_iload iL_markov_147 rfl ?_
      refine w_ifne iL_markov_149 (fun h_ => absurd h_ (fun z => z is0)) (fun h149 => ?_)
      refine w_iload iL_markov_152 rfl ?_
      refine w_const iL_markov_154 ?_
      refine w_icmpne iL_markov_157 (fun h_ => absurd h_ (fun z => z rfl)) (fun h157 => ?_)
      refine w_const iL_markov_160 ?_
      refine w_goto iL_markov_161 ?_
      refine w_iret iL_markov_165 (Or.inr ⟨rfl, by omega⟩) ⟨Nat.le_refl _, Nat.le_refl _⟩ ?_
      exact K _ I3 F3 hC3 (fun a h1 h2 => (hf3 a h1).trans (hV2 a h1 h2))
  refine w_aload iL_markov_107 rfl ?_
  refine w_aload iL_markov_108 rfl ?_
  refine w_aload iL_markov_109 rfl ?_
  refine w_cSB iL_markov_110 fL_parts vL_parts (sL_parts (by omega) hC hM hp) rfl rfl (Nat.le_of_ble_eq_true rfl) (by omega) ⟨Nat.le_refl _, Nat.le_refl _⟩ (fun al I2 F2 hq2 => ?_)
  obtain ⟨⟨S2, hC2, hE2⟩, hV2, hal⟩ := hq2
  have gm : gM S2.1 = gM S.1 := hE2.2.2.1
  have gc : gC S2.1 = gC S.1 := hE2.2.1
  have ga : gA S2.1 = gA S.1 := hE2.2.2.2
  refine w_is6 iL_markov_113 ?_
  refine w_aload iL_markov_115 rfl ?_
  refine w_o iL_markov_116 f7_isMarkov v7_isMarkov (o_isMarkov (by rw [gm, gc]; exact hp)) hC2 rfl rfl rfl rfl (Nat.le_of_ble_eq_true rfl) (by omega) ⟨Nat.le_refl _, Nat.le_refl _⟩ (fun v3 S3 I3 F3 hq3 hC3 hf3 => ?_)
  obtain ⟨hv3, rfl⟩ := hq3
  rw [gm, gc, ga] at hv3
  have V3 : ∀ a, 62 ≤ a → a ≠ 63 → F3 a = F a := fun a h1 h2 => (hf3 a h1).trans (hV2 a h1 h2)
  refine w_is7 iL_markov_119 ?_
  refine w_iload iL_markov_121 rfl ?_
  refine w_iflt iL_markov_123 (fun h_ => absurd h_ (by omega)) (fun h123 => ?_)
  refine w_iload iL_markov_126 rfl ?_
  refine w_const iL_markov_128 ?_
  refine w_icmpge iL_markov_129 (fun h129 => ?_) (fun h129 => ?_)
  · exact c141 _ _ _ I3 F3 hC3 hE2 V3 hv3
  · skip
    have e136 : v3 = al := by
      have mk := mk_eq (A := gA S.1) hn hM3 hp hB
      rcases hal with g | ⟨g, h⟩ | ⟨g, h⟩
      · omega
      · rcases hv3 with ⟨a, b⟩ | ⟨a, b⟩
        · omega
        · exact absurd (mk.mpr h) b
      · rcases hv3 with ⟨a, b⟩ | ⟨a, b⟩
        · exact absurd (mk.mp b) h
        · omega
    refine w_iload iL_markov_132 rfl ?_
    refine w_iload iL_markov_134 rfl ?_
    refine w_icmpeq iL_markov_136 (fun h136 => ?_) (fun h_ => absurd h_ (fun z => z e136))
    exact c141 _ _ _ I3 F3 hC3 hE2 V3 hv3
end MARKOV
theorem sL_markov {d : Nat} {S : Sx} {I : IE} {F : FE} {x : Int} (hd : 9 ≤ d) (hC : CI S I F) (hM : F 62 1 = gC S.1) (hp : Pos (gM S.1) (gC S.1)) (hA : AO S) : MB mL_markov d shL [rv 0, rv 62, rv 63, iv x] I F (fun v I' F' => v = 1 ∧ (∃ S', CI S' I' F') ∧ ∀ a, 62 ≤ a → a ≠ 63 → F' a = F a) := by
  have hS := hC.sf
  have hk := hS.2.2
  have onA : ∀ e : Nat, (e : Int) < gk (gM S.1) (gC S.1) → gA S.1 e = 1 := fun e he => by rw [hA e, if_pos he]
  have mk0 : MkO (gM S.1) (gC S.1) (gA S.1) := fun e he => .inl (onA e he)
  have o16 : ons (gA S.1) 16 = gk (gM S.1) (gC S.1) := by
    rw [ons_ao hk.1 hA 16, if_neg (by omega)]
  have fin2 : ∀ (I2 : IE) (F2 : FE), CI S I2 F2 → (∀ a, 62 ≤ a → F2 a = F a) → ∀ x6, WS mL_markov d 0 0 shL.length (fun r sh' I' F' => sh' = shL ∧ ∃ v, r = some (.inl v) ∧ v = 1 ∧ (∃ S', CI S' I' F') ∧ ∀ a, 62 ≤ a → a ≠ 63 → F' a = F a) 0 0 107 [lr 0, lr 62, lr 63, li x, li (gk (gM S.1) (gC S.1)), li (gk (gM S.1) (gC S.1)), x6, lu, lu, lu, lu] [] shL I2 F2 := fun I2 F2 hC2 F2e x6 => by
    refine lm107 hd hC2 (by rw [F2e 62 (by decide)]; exact hM) hp o16.symm (fun S' I' F' k1 k2 => ⟨rfl, 1, rfl, rfl, ⟨S', k1⟩, fun a h1 h2 => ?_⟩)
    rw [k2 a h1 h2, F2e a h1]
  refine MS_of (ls := [lr 0, lr 62, lr 63, li x, lu, lu, lu, lu, lu, lu, lu]) fL_markov rfl rfl (Nat.le_of_ble_eq_true rfl) ?_
  refine w_aload iL_markov_0 rfl ?_
  refine w_o iL_markov_1 f7_graverCount v7_graverCount o_graverCount hC rfl rfl rfl rfl (Nat.le_of_ble_eq_true rfl) (by omega) ⟨Nat.le_refl _, Nat.le_refl _⟩ (fun v1 S1 I1 F1 hq1 hC1 hf1 => ?_)
  obtain ⟨rfl, rfl⟩ := hq1
  refine w_is4 iL_markov_4 ?_
  refine w_iload iL_markov_6 rfl ?_
  refine w_is5 iL_markov_8 ?_
  refine w_aload iL_markov_10 rfl ?_
  refine w_o iL_markov_11 f7_isMarkov v7_isMarkov (o_isMarkov hp) hC1 rfl rfl rfl rfl (Nat.le_of_ble_eq_true rfl) (by omega) ⟨Nat.le_refl _, Nat.le_refl _⟩ (fun v2 S2 I2 F2 hq2 hC2 hf2 => ?_)
  obtain ⟨hv2, rfl⟩ := hq2
  have F2e : ∀ a, 62 ≤ a → F2 a = F a := fun a h => (hf2 a h).trans (hf1 a h)
  refine w_const iL_markov_14 ?_
  refine w_icmpeq iL_markov_15 (fun h15 => ?_) (fun h_ => absurd h_ (fun z => by rcases hv2 with ⟨g, -⟩ | ⟨-, g⟩; exact z g; exact g mk0))
  refine w_iload iL_markov_20 rfl ?_
  refine w_ifle iL_markov_22 (fun h22 => ?_) (fun h22 => ?_)
  · exact fin2 I2 F2 hC2 F2e _
  · refine w_iload iL_markov_25 rfl ?_
    refine w_const iL_markov_26 ?_
    refine w_iand iL_markov_27 ?_
    refine w_const iL_markov_28 ?_
    refine w_icmpne iL_markov_29 (fun h29 => ?_) (fun h29 => ?_)
    · exact fin2 I2 F2 hC2 F2e _
    · refine w_iload iL_markov_32 rfl ?_
      refine w_const iL_markov_33 ?_
      refine w_ishr iL_markov_34 ?_
      refine w_iload iL_markov_35 rfl ?_
      refine w_cSP iL_markov_37 fL_low vL_low (sL_low (by omega)) rfl rfl (Nat.le_of_ble_eq_true rfl) (by omega) (fun e he => ?_)
      have hee := onA e.toNat (by omega)
      refine w_is6 iL_markov_40 ?_
      refine w_ii5 iL_markov_42 (by omega) ?_
      refine w_aload iL_markov_45 rfl ?_
      refine w_iload iL_markov_46 rfl ?_
      refine w_const iL_markov_48 ?_
      refine w_o iL_markov_49 f7_activate v7_activate (o_activateI (by omega) (by decide) hee) hC2 rfl rfl rfl rfl (Nat.le_of_ble_eq_true rfl) (by omega) ⟨Nat.le_refl _, Nat.le_refl _⟩ (fun v3 S3 I3 F3 hq3 hC3 hf3 => ?_)
      obtain ⟨rfl, rfl⟩ := hq3
      refine w_const iL_markov_52 ?_
      refine w_icmpne iL_markov_55 (fun h_ => absurd h_ (fun z => z rfl)) (fun h55 => ?_)
      refine w_aload iL_markov_58 rfl ?_
      refine w_iload iL_markov_59 rfl ?_
      refine w_const iL_markov_61 ?_
      refine w_o iL_markov_62 f7_activate v7_activate (o_activate (by omega) (by decide) (by rw [hee]; decide)) hC3 rfl rfl rfl rfl (Nat.le_of_ble_eq_true rfl) (by omega) ⟨Nat.le_refl _, Nat.le_refl _⟩ (fun v4 S4 I4 F4 hq4 hC4 hf4 => ?_)
      obtain ⟨rfl, hS4⟩ := hq4
      have g4M : gM S4.1 = gM S3.1 := by rw [hS4]; rfl
      have g4C : gC S4.1 = gC S3.1 := by rw [hS4]; rfl
      have g4A : gA S4.1 = swA (gA S3.1) e.toNat 0 := by rw [hS4]; rfl
      have o4 : ons (swA (gA S3.1) e.toNat 0) 16 = gk (gM S3.1) (gC S3.1) - 1 := by rw [ons_sw, o16, if_pos (by omega), hee]
      have sw0 : swA (gA S3.1) e.toNat 0 e.toNat = 0 := by unfold swA; rw [if_pos rfl]
      rw [o4]
      refine w_iload iL_markov_65 rfl ?_
      refine w_icmpne iL_markov_67 (fun h_ => absurd h_ (fun z => z (by omega))) (fun h67 => ?_)
      refine w_aload iL_markov_70 rfl ?_
      refine w_iload iL_markov_71 rfl ?_
      refine w_const iL_markov_73 ?_
      refine w_o iL_markov_74 f7_activate v7_activate (o_activateI (by rw [g4M, g4C]; omega) (by decide) (by rw [g4A]; exact sw0)) hC4 rfl rfl rfl rfl (Nat.le_of_ble_eq_true rfl) (by omega) ⟨Nat.le_refl _, Nat.le_refl _⟩ (fun v5 S5 I5 F5 hq5 hC5 hf5 => ?_)
      obtain ⟨rfl, rfl⟩ := hq5
      refine w_const iL_markov_77 ?_
      refine w_icmpne iL_markov_80 (fun h_ => absurd h_ (fun z => z rfl)) (fun h80 => ?_)
      refine w_aload iL_markov_83 rfl ?_
      refine w_iload iL_markov_84 rfl ?_
      refine w_const iL_markov_86 ?_
      refine w_o iL_markov_87 f7_activate v7_activate (o_activate0 (by omega)) hC5 rfl rfl rfl rfl (Nat.le_of_ble_eq_true rfl) (by omega) ⟨Nat.le_refl _, Nat.le_refl _⟩ (fun v6 S6 I6 F6 hq6 hC6 hf6 => ?_)
      obtain ⟨rfl, rfl⟩ := hq6
      refine w_const iL_markov_90 ?_
      refine w_icmpne iL_markov_93 (fun h_ => absurd h_ (fun z => z rfl)) (fun h93 => ?_)
      refine w_aload iL_markov_96 rfl ?_
      refine w_iload iL_markov_97 rfl ?_
      refine w_o iL_markov_99 f7_isActive v7_isActive (o_isActive (by rw [g4M, g4C]; omega)) hC6 rfl rfl rfl rfl (Nat.le_of_ble_eq_true rfl) (by omega) ⟨Nat.le_refl _, Nat.le_refl _⟩ (fun v7 S7 I7 F7 hq7 hC7 hf7 => ?_)
      obtain ⟨rfl, rfl⟩ := hq7
      rw [g4A, sw0]
      refine w_ifeq iL_markov_102 (fun h102 => ?_) (fun h_ => absurd h_ (fun z => z rfl))
      rw [← g4M, ← g4C]
      refine lm107 (S := S7) hd hC7 ?_ (by rw [g4M, g4C]; exact hp) (by rw [g4A, o4, g4M, g4C]; omega) (fun S' I' F' k1 k2 => ⟨rfl, 1, rfl, rfl, ⟨S', k1⟩, fun a h1 h2 => ?_⟩)
      · rw [hf7 62 (by decide), hf6 62 (by decide), hf5 62 (by decide), hf4 62 (by decide), hf3 62 (by decide), F2e 62 (by decide), g4C]; exact hM
      · rw [k2 a h1 h2, hf7 a h1, hf6 a h1, hf5 a h1, hf4 a h1, hf3 a h1, F2e a h1]
