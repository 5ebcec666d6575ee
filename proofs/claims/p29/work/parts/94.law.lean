/-- taken back twice -/
theorem pop2 (S : Sx) (σ1 σ2 : Sg) : (pop ((pop (σ2, (psh (σ1, (psh S).2)).2)))).1 = S.1 ∧ (pop (σ2, (psh (σ1, (psh S).2)).2)).2.1.1 ≠ 0 := by
  obtain ⟨σ, ⟨n, f⟩, T⟩ := S
  unfold pop psh
  dsimp only
  by_cases h8 : n = 8
  · subst h8
    refine ⟨?_, ?_⟩
    · simp
    · simp
  · by_cases h7 : n = 7
    · subst h7
      refine ⟨?_, ?_⟩
      · simp
      · simp
    · have e1 : ¬ n + 1 = 8 := by omega
      refine ⟨?_, ?_⟩
      · simp [h8, e1]
      · simp [h8, e1]
section LAW
variable {b L : Nat} {xs : Nat → Int32} {n0 kc ks : Nat}
/-- the point is chosen -/
theorem lwP {n y q x10 : Int} {x13 x14 x15 : Option AV} {S : Sx} {G : FE} (hcap : kc ≤ 600000 ∧ ks ≤ 7302250) (hn : 2 ≤ n ∧ n ≤ 4) (hM : G 62 1 = n)
    (K : ∀ x12 F I, CI S I F → (∀ a, 62 ≤ a → a ≠ 63 → F a = G a) → (∀ j, 0 ≤ j ∧ j < 4 → 0 ≤ F 63 j ∧ F 63 j ≤ 3) → (∀ j, n ≤ j ∧ j < 4 → F 63 j = 0) → WG (some b) (TGL b L xs) mL_law 10 600000 7302250 n0 kc ks 266 [lu, lr 0, lr 62, lr 63, lr 64, lr 65, lr 66, lr 67, lr 68, li q, li x10, li y, x12, x13, x14, x15] [] shL I F) :
    ∀ (w k : Nat) (I : IE) (F : FE), k + w = 4 → CI S I F → (∀ a, 62 ≤ a → a ≠ 63 → F a = G a) → (∀ j, 0 ≤ j ∧ j < (k : Int) → 0 ≤ F 63 j ∧ F 63 j ≤ 3) → (∀ j, n ≤ j ∧ j < (k : Int) → F 63 j = 0) → WG (some b) (TGL b L xs) mL_law 10 600000 7302250 n0 kc ks 229 [lu, lr 0, lr 62, lr 63, lr 64, lr 65, lr 66, lr 67, lr 68, li q, li x10, li y, li k, x13, x14, x15] [] shL I F := by
  intro w
  induction w with
  | zero =>
    intro k I F hk hC hV h3 h0
    obtain rfl : k = 4 := by omega
    refine w_iload iL_law_229 rfl ?_
    refine w_const iL_law_231 ?_
    refine w_icmpge iL_law_232 (fun h232 => ?_) (fun h_ => absurd h_ (by omega))
    exact K _ F I hC hV h3 h0
  | succ w ih =>
    intro k I F hk hC hV h3 h0
    have e62 : F 62 1 = n := by rw [hV 62 (by decide) (by decide)]; exact hM
    have hb3 : 0 ≤ bandI (shrI y (2 * k)) 3 ∧ bandI (shrI y (2 * k)) 3 ≤ 3 := band_b (m := 3) (by decide)
    have nx : ∀ v : Int, 0 ≤ v ∧ v ≤ 3 → (n ≤ (k : Int) → v = 0) → WG (some b) (TGL b L xs) mL_law 10 600000 7302250 n0 kc ks 259 [lu, lr 0, lr 62, lr 63, lr 64, lr 65, lr 66, lr 67, lr 68, li q, li x10, li y, li k, x13, x14, x15] [.inl v, .inl (k : Int), .inr (some 63)] shL I F := fun v hv hv0 => by
      refine w_iast iL_law_259 sL63 (by omega) ?_
      refine w_ii12 iL_law_260 (by omega) ?_
      refine w_goto iL_law_263 ?_
      have u : ∀ j, upF F 63 k v 63 j = if j = (k : Int) then v else F 63 j := fun j => by simp only [upF, true_and]
      refine ih (k + 1) I _ (by omega) (hC.up (by decide)) (fun a h1 h2 => ?_) (fun j hj => ?_) (fun j hj => ?_)
      · rw [← hV a h1 h2]; funext j; simp only [upF]; rw [if_neg (fun z => h2 z.1)]
      · rw [u]
        by_cases c : j = (k : Int)
        · rw [if_pos c]; exact hv
        · rw [if_neg c]; exact h3 j (by omega)
      · rw [u]
        by_cases c : j = (k : Int)
        · rw [if_pos c]; exact hv0 (by omega)
        · rw [if_neg c]; exact h0 j (by omega)
    refine w_iload iL_law_229 rfl ?_
    refine w_const iL_law_231 ?_
    refine w_icmpge iL_law_232 (fun h_ => absurd h_ (by omega)) (fun h232 => ?_)
    refine w_aload iL_law_235 rfl ?_
    refine w_iload iL_law_236 rfl ?_
    refine w_iload iL_law_238 rfl ?_
    refine w_aload iL_law_240 rfl ?_
    refine w_const iL_law_241 ?_
    refine w_iald iL_law_242 sL62 (by omega) ?_
    rw [e62]
    refine w_icmpge iL_law_243 (fun h243 => ?_) (fun h243 => ?_)
    · refine w_const iL_law_258 ?_
      exact nx 0 (by decide) (fun _ => rfl)
    · refine w_iload iL_law_246 rfl ?_
      refine w_const iL_law_248 ?_
      refine w_iload iL_law_249 rfl ?_
      refine w_imul iL_law_251 (by omega) ?_
      refine w_ishr iL_law_252 ?_
      refine w_const iL_law_253 ?_
      refine w_iand iL_law_254 ?_
      refine w_goto iL_law_255 ?_
      exact nx _ hb3 (fun z => by omega)
/-- behind the choice of elements: the state is the old one -/
theorem lw429 {q : Nat} {x10 x11 x12 x13 x14 x15 : Option AV} {S : Sx} {I : IE} {F : FE} (hL : L ≤ 260) (hcap : kc ≤ 600000 ∧ ks ≤ 7302250) (hq : q ≤ 3) (hC : CI S I F) (hM : F 62 1 = gC S.1) (hp : Pos (gM S.1) (gC S.1)) (hA : AO S)
    (K : ∀ S I F, CI S I F → WG (some b) (TGL b L xs) mL_law 10 600000 7302250 n0 kc ks 450 [lu, lr 0, lr 62, lr 63, lr 64, lr 65, lr 66, lr 67, lr 68, li q, x10, x11, x12, x13, x14, x15] [] shL I F) :
    WG (some b) (TGL b L xs) mL_law 10 600000 7302250 n0 kc ks 429 [lu, lr 0, lr 62, lr 63, lr 64, lr 65, lr 66, lr 67, lr 68, li q, x10, x11, x12, x13, x14, x15] [] shL I F := by
  refine w_aload iL_law_429 rfl ?_
  refine w_aload iL_law_430 rfl ?_
  refine w_aload iL_law_431 rfl ?_
  refine w_cellB dLw_432 dLw_433 dLw_434 dLw_436 dLw_437 dLw_438 iL_law_439 rfl (by omega) (by decide) hL hcap (Nat.le_of_ble_eq_true rfl) (fun z => ?_)
  refine w_cSB iL_law_442 fL_markov vL_markov (sL_markov (by omega) hC hM hp hA) rfl rfl (Nat.le_of_ble_eq_true rfl) (by omega) hcap (fun v I1 F1 hq1 => ?_)
  obtain ⟨rfl, ⟨S1, hC1⟩, hf1⟩ := hq1
  refine w_ifne iL_law_445 (fun h445 => ?_) (fun h_ => absurd h_ (by decide))
  exact K S1 I1 F1 hC1
/-- behind the fiber -/
theorem lw302 {q : Nat} {own y : Int} {x10 : Int} {S : Sx} {I : IE} {F : FE} (hL : L ≤ 260) (hcap : kc ≤ 600000 ∧ ks ≤ 7302250) (hq : q ≤ 3) (hC : CI S I F) (h : FP S F) (hA : AO S) (hown : fbm (gM S.1) (gC S.1) (gY S.1) ≤ 64 → own = ixo (gM S.1) (gC S.1) (gY S.1) (gY S.1) ∧ RwF S (fbm (gM S.1) (gC S.1) (gY S.1)) F)
    (K : ∀ x11 x12 x13 x14 x15 S I F, CI S I F → WG (some b) (TGL b L xs) mL_law 10 600000 7302250 n0 kc ks 450 [lu, lr 0, lr 62, lr 63, lr 64, lr 65, lr 66, lr 67, lr 68, li q, li x10, x11, x12, x13, x14, x15] [] shL I F) :
    WG (some b) (TGL b L xs) mL_law 10 600000 7302250 n0 kc ks 302 [lu, lr 0, lr 62, lr 63, lr 64, lr 65, lr 66, lr 67, lr 68, li q, li x10, li y, li own, lu, lu, lu] [] shL I F := by
  have hS := h.1
  have hn := hS.1.2.1
  have hk := hS.2.2
  have hp := h.2.2.1
  have onA : ∀ e : Nat, (e : Int) < gk (gM S.1) (gC S.1) → gA S.1 e = 1 := fun e he => by rw [hA e, if_pos he]
  have o16 : ons (gA S.1) 16 = gk (gM S.1) (gC S.1) := by
    rw [ons_ao hk.1 hA 16, if_neg (by omega)]
  -- behind the first look at the moves
  have c339 : ∀ (I1 : IE) (F1 : FE), CI S I1 F1 → (∀ a, 62 ≤ a → a ≠ 68 → F1 a = F a) → WG (some b) (TGL b L xs) mL_law 10 600000 7302250 n0 kc ks 339 [lu, lr 0, lr 62, lr 63, lr 64, lr 65, lr 66, lr 67, lr 68, li q, li x10, li y, li own, li (fbm (gM S.1) (gC S.1) (gY S.1)), lu, lu] [] shL I1 F1 := fun I1 F1 hC1 hV1 => by
    have h1 : FP S F1 := h.f (hV1 62 (by decide) (by decide)) (hV1 63 (by decide) (by decide))
    have rw1 : ∀ k, RwF S k F → RwF S k F1 := fun k hr => by
      unfold RwF at *
      rw [hV1 64 (by decide) (by decide), hV1 65 (by decide) (by decide), hV1 66 (by decide) (by decide), hV1 67 (by decide) (by decide)]
      exact hr
    -- behind the second: an element off, or none
    have c386 : ∀ (e off : Int) (S2 : Sx) (I2 : IE) (F2 : FE), CI S2 I2 F2 → (∀ a, 62 ≤ a → F2 a = F1 a) → gM S2.1 = gM S.1 → gC S2.1 = gC S.1 → gY S2.1 = gY S.1 → (off < 0 ∧ S2 = S ∨ 0 ≤ off ∧ S2 = wA (psh S) e.toNat 0) → WG (some b) (TGL b L xs) mL_law 10 600000 7302250 n0 kc ks 386 [lu, lr 0, lr 62, lr 63, lr 64, lr 65, lr 66, lr 67, lr 68, li q, li x10, li y, li own, li (fbm (gM S.1) (gC S.1) (gY S.1)), li e, li off] [] shL I2 F2 := fun e off S2 I2 F2 hC2 hF2 gm gc gy hor => by
      have hFP2 : FP S2 F2 := by
        have hS2 := hC2.sf
        obtain ⟨-, b2, b3, b4, b5, b6⟩ := h1.f (G := F2) (hF2 62 (by decide)) (hF2 63 (by decide))
        obtain ⟨m1, m2, m3⟩ := b2
        refine ⟨hS2, ⟨?_, by rw [gc]; exact m2, by rw [gm]; exact m3⟩, by rw [gm, gc]; exact b3, by rw [gc, gy]; exact b4, b5, by rw [gc]; exact b6⟩
        rw [m1]
        rcases hor with ⟨-, rfl⟩ | ⟨-, rfl⟩ <;> rfl
      have hR2 : ∀ k, RwF S k F → RwF S2 k F2 := fun k hr => by
        have := rw1 k hr
        unfold RwF at *
        rw [gm, gc, gy, hF2 64 (by decide), hF2 65 (by decide), hF2 66 (by decide), hF2 67 (by decide)]
        exact this
      -- behind the moves
      have c415 : ∀ (I3 : IE) (F3 : FE), CI S2 I3 F3 → (∀ a, 62 ≤ a → a ≠ 68 → F3 a = F a) → WG (some b) (TGL b L xs) mL_law 10 600000 7302250 n0 kc ks 415 [lu, lr 0, lr 62, lr 63, lr 64, lr 65, lr 66, lr 67, lr 68, li q, li x10, li y, li own, li (fbm (gM S.1) (gC S.1) (gY S.1)), li e, li off] [] shL I3 F3 := fun I3 F3 hC3 hV3 => by
        have m3 : F3 62 1 = gC S.1 := by rw [hV3 62 (by decide) (by decide)]; exact h.2.1.2.1
        rcases hor with ⟨ho, rfl⟩ | ⟨ho, rfl⟩
        · refine w_iload iL_law_415 rfl ?_
          refine w_iflt iL_law_417 (fun h417 => ?_) (fun h_ => absurd h_ (by omega))
          exact lw429 hL hcap hq hC3 m3 hp hA (fun S5 I5 F5 g1 => K _ _ _ _ _ S5 I5 F5 g1)
        · have pc1 := (psh_c S).1
          refine w_iload iL_law_415 rfl ?_
          refine w_iflt iL_law_417 (fun h_ => absurd h_ (by omega)) (fun h417 => ?_)
          refine w_aload iL_law_420 rfl ?_
          refine w_o iL_law_421 f7_undo v7_undo (o_undo (S := wA (psh S) e.toNat 0) (psh_c S).1) hC3 rfl rfl rfl rfl (Nat.le_of_ble_eq_true rfl) (by omega) hcap (fun v4 S4 I4 F4 hq4 hC4 hf4 => ?_)
          obtain ⟨rfl, rfl⟩ := hq4
          refine w_ifge iL_law_424 (fun h424 => ?_) (fun h_ => absurd h_ (by have : (((wA (psh S) e.toNat 0).2.1.1 : Nat) : Int) = ((psh S).2.1.1 : Nat) := rfl; omega))
          have e4 : (pop (wA (psh S) e.toNat 0)).1 = S.1 := pop_psh S _
          have hA4 : AO (pop (wA (psh S) e.toNat 0)) := by unfold AO; rw [e4]; exact hA
          exact lw429 hL hcap hq hC4 (by rw [hf4 62 (by decide), e4]; exact m3) (by rw [e4]; exact hp) hA4 (fun S5 I5 F5 g1 => K _ _ _ _ _ S5 I5 F5 g1)
      have efm : fbm (gM S2.1) (gC S2.1) (gY S2.1) = fbm (gM S.1) (gC S.1) (gY S.1) := by rw [gm, gc, gy]
      have z0 : 0 ≤ fbm (gM S.1) (gC S.1) (gY S.1) := h.fib.1
      have V2 : ∀ a, 62 ≤ a → a ≠ 68 → F2 a = F a := fun a k1 k2 => (hF2 a k1).trans (hV1 a k1 k2)
      by_cases c20 : fbm (gM S.1) (gC S.1) (gY S.1) < 20
      · obtain ⟨ho1, ho2⟩ := hown (by omega)
        refine w_iload iL_law_386 rfl ?_
        refine w_const iL_law_388 ?_
        refine w_icmpge iL_law_390 (fun h_ => absurd h_ (by omega)) (fun h390 => ?_)
        refine w_aload iL_law_393 rfl ?_
        refine w_aload iL_law_394 rfl ?_
        refine w_iload iL_law_395 rfl ?_
        refine w_iload iL_law_397 rfl ?_
        refine w_aload iL_law_399 rfl ?_
        refine w_aload iL_law_401 rfl ?_
        refine w_aload iL_law_403 rfl ?_
        refine w_aload iL_law_405 rfl ?_
        refine w_aload iL_law_407 rfl ?_
        refine w_cSB iL_law_409 fL_moves vL_moves (sL_moves (by omega) hC2 hFP2 efm.symm (by omega) (by rw [gm, gc, gy]; exact ho1) (hR2 _ ho2)) rfl rfl (Nat.le_of_ble_eq_true rfl) (by omega) hcap (fun v3 I3 F3 hq3 => ?_)
        obtain ⟨rfl, hC3, hf3⟩ := hq3
        refine w_ifeq iL_law_412 (fun h_ => absurd h_ (by decide)) (fun h412 => ?_)
        exact c415 I3 F3 hC3 (fun a k1 k2 => (hf3 a k1 k2).trans (V2 a k1 k2))
      · refine w_iload iL_law_386 rfl ?_
        refine w_const iL_law_388 ?_
        refine w_icmpge iL_law_390 (fun h390 => ?_) (fun h_ => absurd h_ (by omega))
        exact c415 I2 F2 hC2 V2
    refine w_iload iL_law_339 rfl ?_
    refine w_const iL_law_341 ?_
    refine w_ishr iL_law_343 ?_
    refine w_const iL_law_344 ?_
    refine w_cSB iL_law_346 fL_low vL_low (sL_low (by decide)).mb rfl rfl (Nat.le_of_ble_eq_true rfl) (by omega) hcap (fun e I2 F2 hq2 => ?_)
    obtain ⟨he, rfl, rfl⟩ := hq2
    -- one that is there, or none
    have c358 : ∀ (off : Int) (S3 : Sx) (I3 : IE) (F3 : FE), CI S3 I3 F3 → (∀ a, 62 ≤ a → F3 a = F2 a) → gM S3.1 = gM S.1 → gC S3.1 = gC S.1 → gY S3.1 = gY S.1 → (off < 0 ∧ S3 = S ∨ 0 ≤ off ∧ S3 = wA (psh S) e.toNat 0) → off = (if e < gk (gM S.1) (gC S.1) then gk (gM S.1) (gC S.1) - 1 else -1001) → WG (some b) (TGL b L xs) mL_law 10 600000 7302250 n0 kc ks 358 [lu, lr 0, lr 62, lr 63, lr 64, lr 65, lr 66, lr 67, lr 68, li q, li x10, li y, li own, li (fbm (gM S.1) (gC S.1) (gY S.1)), li e, lu] [.inl off] shL I3 F3 := fun off S3 I3 F3 hC3 hF3 gm gc gy hor hoff => by
      refine w_is15 iL_law_358 ?_
      refine w_iload iL_law_360 rfl ?_
      refine w_iload iL_law_362 rfl ?_
      refine w_aload iL_law_364 rfl ?_
      refine w_o iL_law_365 f7_graverCount v7_graverCount o_graverCount hC3 rfl rfl rfl rfl (Nat.le_of_ble_eq_true rfl) (by omega) hcap (fun v4 S4 I4 F4 hq4 hC4 hf4 => ?_)
      obtain ⟨rfl, rfl⟩ := hq4
      have F4e : ∀ a, 62 ≤ a → F4 a = F2 a := fun a k1 => (hf4 a k1).trans (hF3 a k1)
      rw [gm, gc]
      refine w_icmpge iL_law_368 (fun h368 => ?_) (fun h368 => ?_)
      · refine w_const iL_law_380 ?_
        refine w_icmpne iL_law_383 (fun h_ => absurd h_ (fun z => z (by rw [hoff, if_neg (by omega)]))) (fun h383 => ?_)
        exact c386 e off S4 I4 F4 hC4 F4e gm gc gy hor
      · refine w_aload iL_law_371 rfl ?_
        refine w_o iL_law_372 f7_graverCount v7_graverCount o_graverCount hC4 rfl rfl rfl rfl (Nat.le_of_ble_eq_true rfl) (by omega) hcap (fun v5 S5 I5 F5 hq5 hC5 hf5 => ?_)
        obtain ⟨rfl, rfl⟩ := hq5
        rw [gm, gc]
        refine w_const iL_law_375 ?_
        refine w_isub iL_law_376 (by omega) ?_
        refine w_goto iL_law_377 ?_
        refine w_icmpne iL_law_383 (fun h_ => absurd h_ (fun z => z (by rw [hoff, if_pos (by omega)]))) (fun h383 => ?_)
        exact c386 e off S5 I5 F5 hC5 (fun a k1 => (hf5 a k1).trans (F4e a k1)) gm gc gy hor
    refine w_is14 iL_law_349 ?_
    refine w_aload iL_law_351 rfl ?_
    refine w_iload iL_law_352 rfl ?_
    refine w_const iL_law_354 ?_
    skip
    by_cases ce : e < gk (gM S.1) (gC S.1)
    · have hee := onA e.toNat (by omega)
      have o4 : ons (swA (gA S.1) e.toNat 0) 16 = gk (gM S.1) (gC S.1) - 1 := by rw [ons_sw, o16, if_pos (by omega), hee]
      refine w_o iL_law_355 f7_activate v7_activate (o_activate (by omega) (by decide) (by rw [hee]; decide)) hC1 rfl rfl rfl rfl (Nat.le_of_ble_eq_true rfl) (by omega) hcap (fun v3 S3 I3 F3 hq3 hC3 hf3 => ?_)
      obtain ⟨rfl, hS3⟩ := hq3
      exact c358 _ S3 I3 F3 hC3 hf3 (by rw [hS3]; rfl) (by rw [hS3]; rfl) (by rw [hS3]; rfl) (.inr ⟨by rw [o4]; omega, hS3⟩) (by rw [o4, if_pos ce])
    · refine w_o iL_law_355 f7_activate v7_activate (o_activate0 (fun z => ce z.1.2)) hC1 rfl rfl rfl rfl (Nat.le_of_ble_eq_true rfl) (by omega) hcap (fun v3 S3 I3 F3 hq3 hC3 hf3 => ?_)
      obtain ⟨rfl, hS3⟩ := hq3
      exact c358 _ S3 I3 F3 hC3 hf3 (by rw [hS3]) (by rw [hS3]) (by rw [hS3]) (.inl ⟨by decide, hS3⟩) (by rw [if_neg ce])
  have z0 : 0 ≤ fbm (gM S.1) (gC S.1) (gY S.1) := h.fib.1
  by_cases c25 : fbm (gM S.1) (gC S.1) (gY S.1) < 25
  · obtain ⟨ho1, ho2⟩ := hown (by omega)
    refine w_aload iL_law_302 rfl ?_
    refine w_o iL_law_303 f7_fiberSize v7_fiberSize (o_fiberSize hp) hC rfl rfl rfl rfl (Nat.le_of_ble_eq_true rfl) (by omega) hcap (fun v1 S1 I1 F1 hq1 hC1 hf1 => ?_)
    obtain ⟨rfl, hS1⟩ := hq1
    rw [hS1] at hC1
    have h1 : FP S F1 := h.f (hf1 62 (by decide)) (hf1 63 (by decide))
    have r1 : RwF S (fbm (gM S.1) (gC S.1) (gY S.1)) F1 := by
      unfold RwF at *
      rw [hf1 64 (by decide), hf1 65 (by decide), hf1 66 (by decide), hf1 67 (by decide)]
      exact ho2
    refine w_is13 iL_law_306 ?_
    refine w_iload iL_law_308 rfl ?_
    refine w_const iL_law_310 ?_
    refine w_icmpge iL_law_312 (fun h_ => absurd h_ (by omega)) (fun h312 => ?_)
    refine w_aload iL_law_315 rfl ?_
    refine w_aload iL_law_316 rfl ?_
    refine w_iload iL_law_317 rfl ?_
    refine w_iload iL_law_319 rfl ?_
    refine w_aload iL_law_321 rfl ?_
    refine w_aload iL_law_323 rfl ?_
    refine w_aload iL_law_325 rfl ?_
    refine w_aload iL_law_327 rfl ?_
    refine w_aload iL_law_329 rfl ?_
    refine w_cSB iL_law_331 fL_moves vL_moves (sL_moves (by omega) hC1 h1 rfl (by omega) ho1 r1) rfl rfl (Nat.le_of_ble_eq_true rfl) (by omega) hcap (fun v2 I2 F2 hq2 => ?_)
    obtain ⟨rfl, hC2, hf2⟩ := hq2
    refine w_ifne iL_law_334 (fun h334 => ?_) (fun h_ => absurd h_ (by decide))
    exact c339 I2 F2 hC2 (fun a k1 k2 => (hf2 a k1 k2).trans (hf1 a k1))
  · refine w_aload iL_law_302 rfl ?_
    refine w_o iL_law_303 f7_fiberSize v7_fiberSize (o_fiberSize hp) hC rfl rfl rfl rfl (Nat.le_of_ble_eq_true rfl) (by omega) hcap (fun v1 S1 I1 F1 hq1 hC1 hf1 => ?_)
    obtain ⟨rfl, hS1⟩ := hq1
    rw [hS1] at hC1
    refine w_is13 iL_law_306 ?_
    refine w_iload iL_law_308 rfl ?_
    refine w_const iL_law_310 ?_
    refine w_icmpge iL_law_312 (fun h312 => ?_) (fun h_ => absurd h_ (by omega))
    exact c339 I1 F1 hC1 (fun a k1 _ => hf1 a k1)
/-- four matrices, one after the other -/
theorem lwN (hL : L ≤ 260) (hcap : kc ≤ 600000 ∧ ks ≤ 7302250)
    (K : ∀ x9 x10 x11 x12 x13 x14 x15 S I F, CI S I F → WG (some b) (TGL b L xs) mL_law 10 600000 7302250 n0 kc ks 456 [lu, lr 0, lr 62, lr 63, lr 64, lr 65, lr 66, lr 67, lr 68, x9, x10, x11, x12, x13, x14, x15] [] shL I F) :
    ∀ (w q : Nat) (x10 x11 x12 x13 x14 x15 : Option AV) (S : Sx) (I : IE) (F : FE), q + w = 4 → CI S I F → WG (some b) (TGL b L xs) mL_law 10 600000 7302250 n0 kc ks 50 [lu, lr 0, lr 62, lr 63, lr 64, lr 65, lr 66, lr 67, lr 68, li q, x10, x11, x12, x13, x14, x15] [] shL I F := by
  intro w
  induction w with
  | zero =>
    intro q x10 x11 x12 x13 x14 x15 S I F hw hC
    obtain rfl : q = 4 := by omega
    refine w_iload iL_law_50 rfl ?_
    refine w_const iL_law_52 ?_
    refine w_icmpge iL_law_53 (fun h53 => ?_) (fun h_ => absurd h_ (by omega))
    exact K _ _ _ _ _ _ _ S I F hC
  | succ w ih =>
    intro q x10 x11 x12 x13 x14 x15 S I F hw hC
    have nx : ∀ (x10 x11 x12 x13 x14 x15 : Option AV) (S : Sx) (I : IE) (F : FE), CI S I F → WG (some b) (TGL b L xs) mL_law 10 600000 7302250 n0 kc ks 450 [lu, lr 0, lr 62, lr 63, lr 64, lr 65, lr 66, lr 67, lr 68, li q, x10, x11, x12, x13, x14, x15] [] shL I F := fun x10 x11 x12 x13 x14 x15 S I F hC => by
      refine w_ii9 iL_law_450 (by omega) ?_
      refine w_goto iL_law_453 ?_
      exact ih (q + 1) _ _ _ _ _ _ S I F (by omega) hC
    -- a matrix that isn't positive
    have c114 : ∀ (x10 : Option AV) (S : Sx) (I : IE) (F : FE), CI S I F → ¬ Pos (gM S.1) (gC S.1) → WG (some b) (TGL b L xs) mL_law 10 600000 7302250 n0 kc ks 114 [lu, lr 0, lr 62, lr 63, lr 64, lr 65, lr 66, lr 67, lr 68, li q, x10, x11, x12, x13, x14, x15] [] shL I F := fun x10 S I F hC hnp => by
      have hn := hC.sf.1.2.1
      have hk := hC.sf.2.2
      refine w_aload iL_law_114 rfl ?_
      refine w_o iL_law_115 f7_fiberSize v7_fiberSize (o_fiberSize0 hnp) hC rfl rfl rfl rfl (Nat.le_of_ble_eq_true rfl) (by omega) hcap (fun v1 S1 I1 F1 hq1 hC1 hf1 => ?_)
      obtain ⟨rfl, rfl⟩ := hq1
      refine w_const iL_law_118 ?_
      refine w_icmpne iL_law_121 (fun h_ => absurd h_ (fun z => z rfl)) (fun h121 => ?_)
      refine w_aload iL_law_124 rfl ?_
      refine w_const iL_law_125 ?_
      refine w_const iL_law_126 ?_
      refine w_o iL_law_127 f7_fiberEntry v7_fiberEntry (o_fiberEntry0 hnp (by omega)) hC1 rfl rfl rfl rfl (Nat.le_of_ble_eq_true rfl) (by omega) hcap (fun v2 S2 I2 F2 hq2 hC2 hf2 => ?_)
      obtain ⟨rfl, rfl⟩ := hq2
      refine w_const iL_law_130 ?_
      refine w_icmpne iL_law_133 (fun h_ => absurd h_ (fun z => z rfl)) (fun h133 => ?_)
      refine w_aload iL_law_136 rfl ?_
      refine w_o iL_law_137 f7_classes v7_classes (o_classes0 hnp) hC2 rfl rfl rfl rfl (Nat.le_of_ble_eq_true rfl) (by omega) hcap (fun v3 S3 I3 F3 hq3 hC3 hf3 => ?_)
      obtain ⟨rfl, rfl⟩ := hq3
      refine w_const iL_law_140 ?_
      refine w_icmpne iL_law_143 (fun h_ => absurd h_ (fun z => z rfl)) (fun h143 => ?_)
      refine w_aload iL_law_146 rfl ?_
      refine w_const iL_law_147 ?_
      refine w_o iL_law_148 f7_distance v7_distance (o_distance0 hnp (by decide)) hC3 rfl rfl rfl rfl (Nat.le_of_ble_eq_true rfl) (by omega) hcap (fun v4 S4 I4 F4 hq4 hC4 hf4 => ?_)
      obtain ⟨rfl, rfl⟩ := hq4
      refine w_const iL_law_151 ?_
      refine w_icmpne iL_law_154 (fun h_ => absurd h_ (fun z => z rfl)) (fun h154 => ?_)
      refine w_aload iL_law_157 rfl ?_
      refine w_const iL_law_158 ?_
      refine w_o iL_law_159 f7_distance v7_distance (o_distanceI (by decide)) hC4 rfl rfl rfl rfl (Nat.le_of_ble_eq_true rfl) (by omega) hcap (fun v5 S5 I5 F5 hq5 hC5 hf5 => ?_)
      obtain ⟨rfl, rfl⟩ := hq5
      refine w_const iL_law_162 ?_
      refine w_icmpne iL_law_165 (fun h_ => absurd h_ (fun z => z rfl)) (fun h165 => ?_)
      refine w_aload iL_law_168 rfl ?_
      refine w_o iL_law_169 f7_isMarkov v7_isMarkov (o_isMarkov0 hnp) hC5 rfl rfl rfl rfl (Nat.le_of_ble_eq_true rfl) (by omega) hcap (fun v6 S6 I6 F6 hq6 hC6 hf6 => ?_)
      obtain ⟨rfl, rfl⟩ := hq6
      refine w_const iL_law_172 ?_
      refine w_icmpne iL_law_175 (fun h_ => absurd h_ (fun z => z rfl)) (fun h175 => ?_)
      refine w_aload iL_law_178 rfl ?_
      refine w_o iL_law_179 f7_reduce v7_reduce (o_reduce0 (fun z => hnp z.1)) hC6 rfl rfl rfl rfl (Nat.le_of_ble_eq_true rfl) (by omega) hcap (fun v7 S7 I7 F7 hq7 hC7 hf7 => ?_)
      obtain ⟨rfl, rfl⟩ := hq7
      refine w_const iL_law_182 ?_
      refine w_icmpne iL_law_185 (fun h_ => absurd h_ (fun z => z rfl)) (fun h185 => ?_)
      refine w_aload iL_law_188 rfl ?_
      refine w_const iL_law_189 ?_
      refine w_o iL_law_190 f7_isIndispensable v7_isIndispensable (o_isInd0 hnp) hC7 rfl rfl rfl rfl (Nat.le_of_ble_eq_true rfl) (by omega) hcap (fun v8 S8 I8 F8 hq8 hC8 hf8 => ?_)
      obtain ⟨hv8, rfl⟩ := hq8
      refine w_aload iL_law_193 rfl ?_
      refine w_o iL_law_194 f7_graverCount v7_graverCount o_graverCount hC8 rfl rfl rfl rfl (Nat.le_of_ble_eq_true rfl) (by omega) hcap (fun v9 S9 I9 F9 hq9 hC9 hf9 => ?_)
      obtain ⟨rfl, rfl⟩ := hq9
      refine w_ifle iL_law_197 (fun h197 => ?_) (fun h197 => ?_)
      · refine w_const iL_law_206 ?_
        refine w_icmpeq iL_law_209 (fun h209 => ?_) (fun h_ => absurd h_ (fun z => z (by rw [hv8]; first | (rw [if_neg (by omega)]; done) | (rw [if_pos (by omega)]; done))))
        exact nx _ _ _ _ _ _ S9 I9 F9 hC9
      · refine w_const iL_law_200 ?_
        refine w_goto iL_law_203 ?_
        refine w_icmpeq iL_law_209 (fun h209 => ?_) (fun h_ => absurd h_ (fun z => z (by rw [hv8]; first | (rw [if_neg (by omega)]; done) | (rw [if_pos (by omega)]; done))))
        exact nx _ _ _ _ _ _ S9 I9 F9 hC9
    -- a positive one
    have c214 : ∀ (x10 : Int) (S : Sx) (I : IE) (F : FE), CI S I F → MA S F → AO S → Pos (gM S.1) (gC S.1) → WG (some b) (TGL b L xs) mL_law 10 600000 7302250 n0 kc ks 214 [lu, lr 0, lr 62, lr 63, lr 64, lr 65, lr 66, lr 67, lr 68, li q, li x10, x11, x12, x13, x14, x15] [] shL I F := fun x10 S I F hC hM hA hp => by
      have hS := hC.sf
      have hn := hS.1.2.1
      refine w_any (ls' := [lu, lr 0, lr 62, lr 63, lr 64, lr 65, lr 66, lr 67, lr 68, li q, li x10, lu, lu, lu, lu, lu]) rfl (fun k v hk => ?_) ?_
      · match k, hk with
        | 0, hk => cases hk
        | 1, hk => exact hk
        | 2, hk => exact hk
        | 3, hk => exact hk
        | 4, hk => exact hk
        | 5, hk => exact hk
        | 6, hk => exact hk
        | 7, hk => exact hk
        | 8, hk => exact hk
        | 9, hk => exact hk
        | 10, hk => exact hk
        | 11, hk => cases hk
        | 12, hk => cases hk
        | 13, hk => cases hk
        | 14, hk => cases hk
        | 15, hk => cases hk
        | k + 16, hk => simp at hk
      refine w_cellB dLw_214 dLw_215 dLw_216 dLw_218 dLw_219 dLw_220 iL_law_221 rfl (by omega) (by decide) hL hcap (Nat.le_of_ble_eq_true rfl) (fun y => ?_)
      refine w_is11 iL_law_224 ?_
      refine w_const iL_law_226 ?_
      refine w_is12 iL_law_227 ?_
      refine lwP (S := S) (G := F) hcap hn hM.2.1 (fun x12' F1 I1 k1 k2 k3 k4 => ?_) 4 0 I F rfl hC (fun _ _ _ => rfl) (fun j hj => absurd hj (by omega)) (fun j hj => absurd hj (by omega))
      have m1 : F1 62 = F 62 := k2 62 (by decide) (by decide)
      refine w_aload iL_law_266 rfl ?_
      refine w_aload iL_law_267 rfl ?_
      refine w_aload iL_law_268 rfl ?_
      refine w_cSB iL_law_269 fL_point vL_point (sL_point (by omega) k1 (by rw [m1]; exact hM.2.1) (fun j hj => by have := k3 j (by omega); omega)) rfl rfl (Nat.le_of_ble_eq_true rfl) (by omega) hcap (fun v2 I2 F2 hq2 => ?_)
      obtain ⟨rfl, S2, hC2, hE2, hY2, hf2⟩ := hq2
      refine w_ifeq iL_law_272 (fun h_ => absurd h_ (by decide)) (fun _ => ?_)
      have gm : gM S2.1 = gM S.1 := hE2.2.2.1
      have gc : gC S2.1 = gC S.1 := hE2.2.1
      have hF2 : FP S2 F2 := by
        refine ⟨hC2.sf, ⟨?_, ?_, ?_⟩, by rw [gm, gc]; exact hp, fun j hj => ?_, fun j hj => ?_, fun j hj => ?_⟩
        · rw [hf2 62 (by decide), m1, hE2.1]; exact hM.1
        · rw [hf2 62 (by decide), m1, gc]; exact hM.2.1
        · rw [hf2 62 (by decide), m1, gm]; exact hM.2.2
        · rw [hf2 63 (by decide)]; exact hY2 j (by rw [← gc]; exact hj)
        · rw [hf2 63 (by decide)]; exact k3 j hj
        · rw [hf2 63 (by decide)]; exact k4 j (by rw [← gc]; exact hj)
      have hA2 : AO S2 := fun k => by rw [hE2.2.2.2, gm, gc]; exact hA k
      refine w_aload iL_law_275 rfl ?_
      refine w_aload iL_law_276 rfl ?_
      refine w_aload iL_law_277 rfl ?_
      refine w_aload iL_law_278 rfl ?_
      refine w_aload iL_law_280 rfl ?_
      refine w_aload iL_law_282 rfl ?_
      refine w_aload iL_law_284 rfl ?_
      refine w_cSB iL_law_286 fL_fiber vL_fiber (sL_fiber (by omega) hC2 hF2) rfl rfl (Nat.le_of_ble_eq_true rfl) (by omega) hcap (fun own I3 F3 hq3 => ?_)
      obtain ⟨hC3, o1, o2, o3, o4⟩ := hq3
      refine w_goto iL_law_289 ?_
      refine w_is12 iL_law_293 ?_
      refine w_iload iL_law_295 rfl ?_
      refine w_ifge iL_law_297 (fun _ => ?_) (fun h_ => absurd h_ (by omega))
      exact lw302 hL hcap (by omega) hC3 (hF2.f o2 o3) hA2 o4 (fun x11 x12 x13 x14 x15 S5 I5 F5 g1 => nx _ _ _ _ _ _ S5 I5 F5 g1)
    refine w_iload iL_law_50 rfl ?_
    refine w_const iL_law_52 ?_
    refine w_icmpge iL_law_53 (fun h_ => absurd h_ (by omega)) (fun h53 => ?_)
    refine w_cellA dLw_56 dLw_57 dLw_58 dLw_60 iL_law_61 rfl (by omega) hL hcap (Nat.le_of_ble_eq_true rfl) (fun x => ?_)
    refine w_is10 iL_law_64 ?_
    refine w_aload iL_law_66 rfl ?_
    refine w_aload iL_law_67 rfl ?_
    refine w_iload iL_law_68 rfl ?_
    refine w_cellB dLw_70 dLw_71 dLw_72 dLw_74 dLw_75 dLw_76 iL_law_77 rfl (by omega) (by decide) hL hcap (Nat.le_of_ble_eq_true rfl) (fun y => ?_)
    refine w_cSB iL_law_80 fL_makes vL_makes (sL_makes (by omega) hC) rfl rfl (Nat.le_of_ble_eq_true rfl) (by omega) hcap (fun v1 I1 F1 hq1 => ?_)
    obtain ⟨rfl, S1, hC1, hM1, hA1, hf1⟩ := hq1
    have hS1 := hC1.sf
    have hn := hS1.1.2.1
    have pos1 := hM1.pos hS1
    refine w_ifeq iL_law_83 (fun h_ => absurd h_ (by decide)) (fun h83 => ?_)
    refine w_aload iL_law_86 rfl ?_
    refine w_o iL_law_87 f7_isPositive v7_isPositive o_isPositive hC1 rfl rfl rfl rfl (Nat.le_of_ble_eq_true rfl) (by omega) hcap (fun v2 S2 I2 F2 hq2 hC2 hf2 => ?_)
    obtain ⟨hv2, rfl⟩ := hq2
    have m2 : F2 62 = F1 62 := hf2 62 (by decide)
    have hM2 : MA S2 F2 := by unfold MA; rw [m2]; exact hM1
    have pos2 := hM2.pos hS1
    refine w_aload iL_law_90 rfl ?_
    refine w_cSB iL_law_91 fL_positive vL_positive (sL_positive (by rw [hM2.2.1]; exact hn) (hM2.a3 hS1)).mb rfl rfl (Nat.le_of_ble_eq_true rfl) (by omega) hcap (fun v3 I3 F3 hq3 => ?_)
    obtain ⟨hv3, rfl, rfl⟩ := hq3
    rw [pos2] at hv3
    refine w_ifeq iL_law_94 (fun h94 => ?_) (fun h94 => ?_)
    · refine w_const iL_law_101 ?_
      refine w_icmpeq iL_law_102 (fun h102 => ?_) (fun h_ => absurd h_ (fun z => z (by rcases hv2 with ⟨a, a'⟩ | ⟨a, a'⟩ <;> rcases hv3 with ⟨c, c'⟩ | ⟨c, c'⟩ <;> first | omega | exact absurd a' c' | exact absurd c' a')))
      refine w_aload iL_law_107 rfl ?_
      refine w_cSB iL_law_108 fL_positive vL_positive (sL_positive (by rw [hM2.2.1]; exact hn) (hM2.a3 hS1)).mb rfl rfl (Nat.le_of_ble_eq_true rfl) (by omega) hcap (fun v4 I4 F4 hq4 => ?_)
      obtain ⟨hv4, rfl, rfl⟩ := hq4
      rw [pos2] at hv4
      refine w_ifne iL_law_111 (fun h111 => ?_) (fun h111 => ?_)
      · refine c214 _ S2 I4 F4 hC2 hM2 hA1 ?_
        rcases hv4 with ⟨-, a⟩ | ⟨a, -⟩
        · exact a
        · omega
      · refine c114 _ S2 I4 F4 hC2 (fun z => ?_)
        rcases hv4 with ⟨a, -⟩ | ⟨-, a⟩
        · omega
        · exact a z
    · refine w_const iL_law_97 ?_
      refine w_goto iL_law_98 ?_
      refine w_icmpeq iL_law_102 (fun h102 => ?_) (fun h_ => absurd h_ (fun z => z (by rcases hv2 with ⟨a, a'⟩ | ⟨a, a'⟩ <;> rcases hv3 with ⟨c, c'⟩ | ⟨c, c'⟩ <;> first | omega | exact absurd a' c' | exact absurd c' a')))
      refine w_aload iL_law_107 rfl ?_
      refine w_cSB iL_law_108 fL_positive vL_positive (sL_positive (by rw [hM2.2.1]; exact hn) (hM2.a3 hS1)).mb rfl rfl (Nat.le_of_ble_eq_true rfl) (by omega) hcap (fun v4 I4 F4 hq4 => ?_)
      obtain ⟨hv4, rfl, rfl⟩ := hq4
      rw [pos2] at hv4
      refine w_ifne iL_law_111 (fun h111 => ?_) (fun h111 => ?_)
      · refine c214 _ S2 I4 F4 hC2 hM2 hA1 ?_
        rcases hv4 with ⟨-, a⟩ | ⟨a, -⟩
        · exact a
        · omega
      · refine c114 _ S2 I4 F4 hC2 (fun z => ?_)
        rcases hv4 with ⟨a, -⟩ | ⟨-, a⟩
        · omega
        · exact a z
/-- the end: the point, taken back -/
theorem lwE {x9 x10 x11 x12 x13 x14 x15 : Option AV} {S : Sx} {I : IE} {F : FE} (hcap : kc ≤ 600000 ∧ ks ≤ 7302250) (hC : CI S I F) : WG (some b) (TGL b L xs) mL_law 10 600000 7302250 n0 kc ks 456 [lu, lr 0, lr 62, lr 63, lr 64, lr 65, lr 66, lr 67, lr 68, x9, x10, x11, x12, x13, x14, x15] [] shL I F := by
  have hV := hC.sf.1
  have hn := hV.2.1
  have y0 := hV.2.2.2.2.2.2.1 0
  refine w_aload iL_law_456 rfl ?_
  refine w_const iL_law_457 ?_
  refine w_const iL_law_458 ?_
  refine w_o iL_law_459 f7_setPoint v7_setPoint (o_setPoint (by omega) (by decide)) hC rfl rfl rfl rfl (Nat.le_of_ble_eq_true rfl) (by omega) hcap (fun v1 S1 I1 F1 hq1 hC1 hf1 => ?_)
  obtain ⟨rfl, hS1⟩ := hq1
  have c1 : gC S1.1 = gC S.1 := by rw [hS1]; rfl
  have p1 : gY S1.1 0 = 3 := by rw [hS1]; rfl
  refine w_is9 iL_law_462 ?_
  refine w_aload iL_law_464 rfl ?_
  refine w_const iL_law_465 ?_
  refine w_const iL_law_466 ?_
  refine w_o iL_law_468 f7_setPoint v7_setPoint (o_setPoint0 (by decide)) hC1 rfl rfl rfl rfl (Nat.le_of_ble_eq_true rfl) (by omega) hcap (fun v2 S2 I2 F2 hq2 hC2 hf2 => ?_)
  obtain ⟨rfl, rfl⟩ := hq2
  refine w_const iL_law_471 ?_
  refine w_icmpne iL_law_474 (fun h_ => absurd h_ (fun z => z rfl)) (fun h474 => ?_)
  refine w_aload iL_law_477 rfl ?_
  refine w_const iL_law_478 ?_
  refine w_const iL_law_479 ?_
  refine w_o iL_law_480 f7_setPoint v7_setPoint (o_setPoint0 (by decide)) hC2 rfl rfl rfl rfl (Nat.le_of_ble_eq_true rfl) (by omega) hcap (fun v3 S3 I3 F3 hq3 hC3 hf3 => ?_)
  obtain ⟨rfl, rfl⟩ := hq3
  refine w_const iL_law_483 ?_
  refine w_icmpne iL_law_486 (fun h_ => absurd h_ (fun z => z rfl)) (fun h486 => ?_)
  refine w_aload iL_law_489 rfl ?_
  refine w_const iL_law_490 ?_
  refine w_const iL_law_491 ?_
  refine w_o iL_law_492 f7_setPoint v7_setPoint (o_setPoint (by omega) (by decide)) hC3 rfl rfl rfl rfl (Nat.le_of_ble_eq_true rfl) (by omega) hcap (fun v4 S4 I4 F4 hq4 hC4 hf4 => ?_)
  obtain ⟨rfl, hS4⟩ := hq4
  have pp := pop2 S S3.1 S4.1
  have e3 : S3 = (S3.1, (psh S).2) := by rw [hS1]; rfl
  have e4 : S4 = (S4.1, (psh (S3.1, (psh S).2)).2) := by rw [← e3, hS4]; rfl
  rw [← e4] at pp
  have n4 : S4.2.1.1 ≠ 0 := by rw [hS4]; exact (psh_c S3).1
  refine w_const iL_law_495 ?_
  refine w_icmpne iL_law_496 (fun h_ => absurd h_ (fun z => z p1)) (fun h496 => ?_)
  refine w_aload iL_law_499 rfl ?_
  refine w_o iL_law_500 f7_undo v7_undo (o_undo n4) hC4 rfl rfl rfl rfl (Nat.le_of_ble_eq_true rfl) (by omega) hcap (fun v5 S5 I5 F5 hq5 hC5 hf5 => ?_)
  obtain ⟨rfl, hS5⟩ := hq5
  have n5 : S5.2.1.1 ≠ 0 := by rw [hS5]; exact pp.2
  refine w_iflt iL_law_503 (fun h_ => absurd h_ (by omega)) (fun h503 => ?_)
  refine w_aload iL_law_506 rfl ?_
  refine w_o iL_law_507 f7_undo v7_undo (o_undo n5) hC5 rfl rfl rfl rfl (Nat.le_of_ble_eq_true rfl) (by omega) hcap (fun v6 S6 I6 F6 hq6 hC6 hf6 => ?_)
  obtain ⟨rfl, hS6⟩ := hq6
  have e6 : S6.1 = S.1 := by rw [hS6, hS5]; exact pp.1
  refine w_iflt iL_law_510 (fun h_ => absurd h_ (by omega)) (fun h510 => ?_)
  refine w_aload iL_law_513 rfl ?_
  refine w_const iL_law_514 ?_
  refine w_iload iL_law_515 rfl ?_
  refine w_o iL_law_517 f7_setPoint v7_setPoint (o_setPoint (by rw [e6]; omega) (by omega)) hC6 rfl rfl rfl rfl (Nat.le_of_ble_eq_true rfl) (by omega) hcap (fun v7 S7 I7 F7 hq7 hC7 hf7 => ?_)
  obtain ⟨rfl, hS7⟩ := hq7
  rw [e6]
  refine w_iload iL_law_520 rfl ?_
  refine w_icmpne iL_law_522 (fun h_ => absurd h_ (fun z => z rfl)) (fun h522 => ?_)
  refine w_const iL_law_525 ?_
  refine w_goto iL_law_526 ?_
  exact w_lret iL_law_530 hcap
end LAW
