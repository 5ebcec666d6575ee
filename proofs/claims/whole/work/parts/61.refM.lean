/-- each element has its parts joined -/
def MkA (M : Int → Int) (n : Int) (A : Nat → Int) : Prop := ∀ e : Nat, (e : Int) < gk M n → Jn M n A e
theorem lr_arc {d n0 : Nat} {Q : PQ} {S : Sx} (hE : CapER) (hd : 5 ≤ d) (hpos : Pos (gM S.1) (gC S.1)) {I : IE} {F : FE} (h : DI S I F)
    (K : ∀ v x I' F', tf (MkA (gM S.1) (gC S.1) (gA S.1)) v → Ofr I I' F F' → WS m8_areConnected d 0 0 n0 Q 0 0 71 [lr 0, li v, x] [] shM I' F') :
    ∀ (w k : Nat) (v : Int) (I' : IE) (F' : FE), (k + w : Int) = gk (gM S.1) (gC S.1) → tf (∀ e : Nat, e < k → Jn (gM S.1) (gC S.1) (gA S.1) e) v → Ofr I I' F F' → WS m8_areConnected d 0 0 n0 Q 0 0 4 [lr 0, li v, li k] [] shM I' F' := by
  have hV := h.1.1
  have hn := hV.2.1
  have hM := hV.2.2.1
  intro w
  induction w with
  | zero =>
    intro k v I' F' hk hP hf
    have h' := h.O hf
    have hb1 := h'.2.1.1
    refine w_iload i8_areConnected_4 rfl ?_
    refine w_aload i8_areConnected_5 rfl ?_
    refine w_get i8_areConnected_6 rfl rfl ?_
    refine w_icmpge i8_areConnected_9 (fun h9 => ?_) (fun h_ => absurd h_ (by omega))
    refine K v _ I' F' ?_ hf
    have e : (∀ e : Nat, e < k → Jn (gM S.1) (gC S.1) (gA S.1) e) ↔ MkA (gM S.1) (gC S.1) (gA S.1) := ⟨fun g e he => g e (by omega), fun g e he => g e (by omega)⟩
    unfold tf at hP ⊢
    rw [← e]
    exact hP
  | succ w ih =>
    intro k v I' F' hk hP hf
    have h' := h.O hf
    have hb := h'.2.1
    have hb1 := hb.1
    have hb2 := hb.2.1
    have hx : 0 ≤ (k : Int) ∧ (k : Int) < gk (gM S.1) (gC S.1) := by omega
    have hEe := DB.E hb k hx
    have n2 := h'.1.2.2.2.1
    have ek : ((k + 1 : Nat) : Int) = (k : Int) + 1 := by omega
    have gin := gp_in hn hEe.1 hEe.2.2.1
    have v01 : v = 1 ∨ v = 0 := by rcases hP with g | g <;> omega
    rcases v01 with rfl | rfl
    · have all : ∀ e : Nat, e < k → Jn (gM S.1) (gC S.1) (gA S.1) e := by rcases hP with ⟨-, g⟩ | ⟨g, -⟩; exact g; omega
      refine w_iload i8_areConnected_4 rfl ?_
      refine w_aload i8_areConnected_5 rfl ?_
      refine w_get i8_areConnected_6 rfl rfl ?_
      refine w_icmpge i8_areConnected_9 (fun h_ => absurd h_ (by omega)) (fun h9 => ?_)
      refine w_iload i8_areConnected_12 rfl ?_
      refine w_ifeq i8_areConnected_13 (fun h_ => absurd h_ (by omega)) (fun h13 => ?_)
      refine w_aload i8_areConnected_16 rfl ?_
      refine w_iload i8_areConnected_17 rfl ?_
      refine w_const i8_areConnected_18 ?_
      refine w_cVU i8_areConnected_19 f8_setGoal v8_setGoal (r_setGoal (u := gE (gM S.1) (gC S.1) k) (by omega) (Or.inl rfl) (fun j hj => by have := hEe.2.2.2 j hj; omega)) rfl rfl (by decide) rfl rfl (Nat.le_of_ble_eq_true rfl) (by omega) (fun I1 F1 hq => ?_)
      obtain ⟨rfl, g1, g2⟩ := hq
      have nm : NM (gM S.1) F1 := ⟨fun j hj => by rw [g2 1 (by decide)]; exact h'.1.nm.1 j hj, hM⟩
      refine w_aload i8_areConnected_22 rfl ?_
      refine w_cVU i8_areConnected_23 f8_layFiber v8_layFiber (r_layFiber (M := gM S.1) (y := gp (gM S.1) (gC S.1) k 1) (by omega) nm (by rw [g2 1 (by decide)]; exact n2) hn hpos (fun j hj => ⟨by rw [g1 j (by omega)]; rfl, gp_b (Or.inl rfl) (hEe.1 j hj)⟩) (hE _ _ _ hn hM hpos hb.2.2.2 hx)) rfl rfl (by decide) rfl rfl (Nat.le_of_ble_eq_true rfl) (by omega) (fun I2 F2 hr => ?_)
      obtain ⟨yf, hR⟩ := hr
      have e14 := hR.1
      have fm := hR.2.1
      have ix1 := ix_in hn hpos hR.2.2.2 gin.1
      have ix2 := ix_in hn hpos hR.2.2.2 gin.2
      refine w_aload i8_areConnected_26 rfl ?_
      refine w_cVU i8_areConnected_27 f8_clearFar v8_clearFar (r_clearFar e14 (by omega)) rfl rfl (by decide) rfl rfl (Nat.le_of_ble_eq_true rfl) (by omega) (fun I3 F3 hr => ?_)
      obtain ⟨rfl, c1, c2⟩ := hr
      have t10 : F3 10 = F1 10 := by rw [c2 10 (by decide), yf.2 10 (by decide) (by decide)]
      refine w_aload i8_areConnected_30 rfl ?_
      refine w_aload i8_areConnected_31 rfl ?_
      refine w_cVB i8_areConnected_32 f8_numberOfGoal v8_numberOfGoal (r_numberOfGoal (M := gM S.1) (y := gp (gM S.1) (gC S.1) k 1) (z := gp (gM S.1) (gC S.1) k 1) (n := gC S.1) (by omega) hn (hR.kp rfl (c2 9 (by decide))) (fun j hj => ⟨by rw [t10, g1 j hj]; rfl, by have := gp_b (M := gM S.1) (n := gC S.1) (e := k) (s := 1) (j := j) (Or.inl rfl) (by have := hEe.2.2.2 j hj; omega); omega⟩) (fun j hj => gp_0 (hEe.2.1 j hj)) ix1.1) rfl rfl (by decide) rfl rfl (Nat.le_of_ble_eq_true rfl) (by omega) (fun s I4 F4 hs => ?_)
      obtain ⟨rfl, rfl, p3⟩ := hs
      have f4 : Ofr I1 I4 F' F4 := ⟨yf.O.1, fun a ha => by rw [p3 a (by omega), c2 a (by omega), yf.O.2 a ha, g2 a (by omega)]⟩
      have hR4 : FibR (gM S.1) (gC S.1) (gp (gM S.1) (gC S.1) k 1) I4 F4 := hR.kp rfl (by rw [p3 9 (by decide), c2 9 (by decide)])
      have hS := h'.srh f4 hpos (fun j hj => gp_b (Or.inl rfl) (hEe.1 j hj)) hR4
      refine w_cVU i8_areConnected_35 f8_search v8_search (r_search (y := gp (gM S.1) (gC S.1) k 1) (D := fun _ => -1) (by omega) hS ix1 (fun j hj => by rw [p3 12 (by decide), c1 j hj]; rfl) (show (-1 : Int) < 0 by decide)) rfl rfl (by decide) rfl rfl (Nat.le_of_ble_eq_true rfl) (by omega) (fun I5 F5 hw => ?_)
      have hS5 := hS.S hw.1
      have hEe5 := DB.E hS5.1 k hx
      refine w_aload i8_areConnected_38 rfl ?_
      refine w_iload i8_areConnected_39 rfl ?_
      refine w_const i8_areConnected_40 ?_
      refine w_cVU i8_areConnected_41 f8_setGoal v8_setGoal (r_setGoal (u := gE (gM S.1) (gC S.1) k) (by omega) (Or.inr rfl) (fun j hj => by have := hEe5.2.2.2 j hj; omega)) rfl rfl (by decide) rfl rfl (Nat.le_of_ble_eq_true rfl) (by omega) (fun I6 F6 hq => ?_)
      obtain ⟨rfl, g3, g4⟩ := hq
      refine w_aload i8_areConnected_44 rfl ?_
      refine w_getr i8_areConnected_45 rfl rfl ?_
      refine w_aload i8_areConnected_48 rfl ?_
      refine w_cVB i8_areConnected_49 f8_numberOfGoal v8_numberOfGoal (r_numberOfGoal (M := gM S.1) (y := gp (gM S.1) (gC S.1) k 1) (z := gp (gM S.1) (gC S.1) k (-1)) (n := gC S.1) (by omega) hn (hS5.2.2.2.2.1.kp rfl (g4 9 (by decide))) (fun j hj => ⟨by rw [g3 j hj]; rfl, by have := gp_b (M := gM S.1) (n := gC S.1) (e := k) (s := -1) (j := j) (Or.inr rfl) (by have := hEe.2.2.2 j hj; omega); omega⟩) (fun j hj => gp_0 (hEe.2.1 j hj)) ix2.1) rfl rfl (by decide) rfl rfl (Nat.le_of_ble_eq_true rfl) (by omega) (fun t I7 F7 hs => ?_)
      obtain ⟨rfl, rfl, p4⟩ := hs
      have e12 : F7 12 = F5 12 := by rw [p4 12 (by decide), g4 12 (by decide)]
      have val := hw.2 _ ix2
      have jn : Jn (gM S.1) (gC S.1) (gA S.1) k ↔ ¬ F7 12 (ixo (gM S.1) (gC S.1) (gp (gM S.1) (gC S.1) k 1) (gp (gM S.1) (gC S.1) k (-1))) = -1009 := by
        rw [e12, val, fD_iff]
        unfold Jn stp
        rw [if_pos (by omega)]
        omega
      have fO : Ofr I I7 F F7 := hf.tr (f4.tr (hw.1.O.tr ⟨fun _ _ _ => rfl, fun a ha => by rw [p4 a (by omega), g4 a (by omega)]⟩))
      refine w_iald i8_areConnected_52 rfl (by omega) ?_
      refine w_const i8_areConnected_53 ?_
      refine w_icmpeq i8_areConnected_56 (fun h56 => ?_) (fun h56 => ?_)
      · refine w_const i8_areConnected_63 ?_
        refine w_is1 i8_areConnected_64 ?_
        refine w_ii2 i8_areConnected_65 (by omega) ?_
        refine w_goto i8_areConnected_68 ?_
        rw [← ek]
        first
        | (have hne : ¬ F7 12 (ixo (gM S.1) (gC S.1) (gp (gM S.1) (gC S.1) k 1) (gp (gM S.1) (gC S.1) k (-1))) = -1009 := by assumption
           exact ih (k + 1) 1 I7 F7 (by omega) (Or.inl ⟨rfl, fun e he => by
             by_cases c : e = k
             · rw [c]; exact jn.mpr hne
             · exact all e (by omega)⟩) fO)
        | (have hne : F7 12 (ixo (gM S.1) (gC S.1) (gp (gM S.1) (gC S.1) k 1) (gp (gM S.1) (gC S.1) k (-1))) = -1009 := by assumption
           exact ih (k + 1) 0 I7 F7 (by omega) (Or.inr ⟨rfl, fun g => jn.mp (g k (by omega)) hne⟩) fO)
      · refine w_const i8_areConnected_59 ?_
        refine w_goto i8_areConnected_60 ?_
        refine w_is1 i8_areConnected_64 ?_
        refine w_ii2 i8_areConnected_65 (by omega) ?_
        refine w_goto i8_areConnected_68 ?_
        rw [← ek]
        first
        | (have hne : ¬ F7 12 (ixo (gM S.1) (gC S.1) (gp (gM S.1) (gC S.1) k 1) (gp (gM S.1) (gC S.1) k (-1))) = -1009 := by assumption
           exact ih (k + 1) 1 I7 F7 (by omega) (Or.inl ⟨rfl, fun e he => by
             by_cases c : e = k
             · rw [c]; exact jn.mpr hne
             · exact all e (by omega)⟩) fO)
        | (have hne : F7 12 (ixo (gM S.1) (gC S.1) (gp (gM S.1) (gC S.1) k 1) (gp (gM S.1) (gC S.1) k (-1))) = -1009 := by assumption
           exact ih (k + 1) 0 I7 F7 (by omega) (Or.inr ⟨rfl, fun g => jn.mp (g k (by omega)) hne⟩) fO)
    · refine w_iload i8_areConnected_4 rfl ?_
      refine w_aload i8_areConnected_5 rfl ?_
      refine w_get i8_areConnected_6 rfl rfl ?_
      refine w_icmpge i8_areConnected_9 (fun h_ => absurd h_ (by omega)) (fun h9 => ?_)
      refine w_iload i8_areConnected_12 rfl ?_
      refine w_ifeq i8_areConnected_13 (fun h13 => ?_) (fun h_ => absurd h_ (by omega))
      refine K 0 _ I' F' (Or.inr ⟨rfl, fun g => ?_⟩) hf
      rcases hP with ⟨g1, -⟩ | ⟨-, g1⟩
      · omega
      · exact g1 (fun e he => g e (by omega))
theorem r_areConnected {d : Nat} {I : IE} {F : FE} {S : Sx} (hE : CapER) (hd : 5 ≤ d) (h : DI S I F) (hpos : Pos (gM S.1) (gC S.1)) : MB m8_areConnected d shM [rv 0] I F (fun v I' F' => Ofr I I' F F' ∧ tf (MkA (gM S.1) (gC S.1) (gA S.1)) v) := by
  have hb2 := h.2.1.2.1
  refine MS_of (ls := [lr 0, lu, lu]) f8_areConnected rfl rfl (Nat.le_of_ble_eq_true rfl) ?_
  refine w_const i8_areConnected_0 ?_
  refine w_is1 i8_areConnected_1 ?_
  refine w_const i8_areConnected_2 ?_
  refine w_is2 i8_areConnected_3 ?_
  refine lr_arc hE hd hpos h (fun v x I' F' g1 g2 => ?_) (gk (gM S.1) (gC S.1)).toNat 0 1 I F (by omega) (Or.inl ⟨rfl, fun e he => absurd he (Nat.not_lt_zero _)⟩) ⟨fun _ _ _ => rfl, fun _ _ => rfl⟩
  refine w_iload i8_areConnected_71 rfl ?_
  refine w_iret i8_areConnected_72 (Or.inr ⟨rfl, by rcases g1 with h | h <;> omega⟩) ⟨Nat.le_refl _, Nat.le_refl _⟩ ?_
  exact ⟨rfl, _, rfl, g2, g1⟩
theorem r_isMarkov {d : Nat} {I : IE} {F : FE} {S : Sx} (hE : CapER) (hd : 6 ≤ d) (h : DI S I F) : MB m8_isMarkov d shM [rv 0] I F (fun v I' F' => DI S I' F' ∧ ((¬ Pos (gM S.1) (gC S.1) ∧ v = -1002) ∨ Pos (gM S.1) (gC S.1) ∧ tf (MkA (gM S.1) (gC S.1) (gA S.1)) v)) := by
  have hn := h.1.1.2.1
  refine MS_of (ls := [lr 0]) f8_isMarkov rfl rfl (Nat.le_of_ble_eq_true rfl) ?_
  refine w_aload i8_isMarkov_0 rfl ?_
  refine w_cVP i8_isMarkov_1 f8_isAllPositive v8_isAllPositive (r_isAllPositive (by omega) h.1.nm h.1.2.2.2.1 (by omega)) rfl rfl (by decide) rfl rfl (Nat.le_of_ble_eq_true rfl) (by omega) (fun v1 hv1 => ?_)
  have hpos : v1 ≠ 0 → Pos (gM S.1) (gC S.1) := fun g => by rcases hv1 with ⟨-, a⟩ | ⟨a, -⟩; exact a; omega
  refine w_ifne i8_isMarkov_4 (fun h4 => ?_) (fun h4 => ?_)
  · refine w_aload i8_isMarkov_13 rfl ?_
    refine w_cVB i8_isMarkov_14 f8_areConnected v8_areConnected (r_areConnected hE (by omega) h (hpos (by assumption))) rfl rfl (by decide) rfl rfl (Nat.le_of_ble_eq_true rfl) (by omega) (fun w I1 F1 hq => ?_)
    refine w_ifeq i8_isMarkov_17 (fun h17 => ?_) (fun h17 => ?_)
    · refine w_const i8_isMarkov_24 ?_
      refine w_iret i8_isMarkov_25 (Or.inl rfl) ⟨Nat.le_refl _, Nat.le_refl _⟩ ?_
      first
      | (have hw := hq.2
         refine ⟨rfl, 1, rfl, h.O hq.1, Or.inr ⟨hpos (by assumption), Or.inl ⟨rfl, ?_⟩⟩⟩
         rcases hw with ⟨-, g⟩ | ⟨g, -⟩
         · exact g
         · omega)
      | (have hw := hq.2
         refine ⟨rfl, 0, rfl, h.O hq.1, Or.inr ⟨hpos (by assumption), Or.inr ⟨rfl, ?_⟩⟩⟩
         rcases hw with ⟨g, -⟩ | ⟨-, g⟩
         · omega
         · exact g)
      | (refine ⟨rfl, -1002, rfl, h, Or.inl ⟨fun g => ?_, rfl⟩⟩
         rcases hv1 with ⟨a, -⟩ | ⟨-, a⟩
         · omega
         · exact a g)
    · refine w_const i8_isMarkov_20 ?_
      refine w_goto i8_isMarkov_21 ?_
      refine w_iret i8_isMarkov_25 (Or.inl rfl) ⟨Nat.le_refl _, Nat.le_refl _⟩ ?_
      first
      | (have hw := hq.2
         refine ⟨rfl, 1, rfl, h.O hq.1, Or.inr ⟨hpos (by assumption), Or.inl ⟨rfl, ?_⟩⟩⟩
         rcases hw with ⟨-, g⟩ | ⟨g, -⟩
         · exact g
         · omega)
      | (have hw := hq.2
         refine ⟨rfl, 0, rfl, h.O hq.1, Or.inr ⟨hpos (by assumption), Or.inr ⟨rfl, ?_⟩⟩⟩
         rcases hw with ⟨g, -⟩ | ⟨-, g⟩
         · omega
         · exact g)
      | (refine ⟨rfl, -1002, rfl, h, Or.inl ⟨fun g => ?_, rfl⟩⟩
         rcases hv1 with ⟨a, -⟩ | ⟨-, a⟩
         · omega
         · exact a g)
  · refine w_const i8_isMarkov_7 ?_
    refine w_goto i8_isMarkov_10 ?_
    refine w_iret i8_isMarkov_25 (Or.inl rfl) ⟨Nat.le_refl _, Nat.le_refl _⟩ ?_
    first
    | (have hw := hq.2
       refine ⟨rfl, 1, rfl, h.O hq.1, Or.inr ⟨hpos (by assumption), Or.inl ⟨rfl, ?_⟩⟩⟩
       rcases hw with ⟨-, g⟩ | ⟨g, -⟩
       · exact g
       · omega)
    | (have hw := hq.2
       refine ⟨rfl, 0, rfl, h.O hq.1, Or.inr ⟨hpos (by assumption), Or.inr ⟨rfl, ?_⟩⟩⟩
       rcases hw with ⟨g, -⟩ | ⟨-, g⟩
       · omega
       · exact g)
    | (refine ⟨rfl, -1002, rfl, h, Or.inl ⟨fun g => ?_, rfl⟩⟩
       rcases hv1 with ⟨a, -⟩ | ⟨-, a⟩
       · omega
       · exact a g)
/-- the switches behind the elements below k, from k - 1 down, all elements being looked at each time -/
noncomputable def rdR (M : Int → Int) (n : Int) : Nat → (Nat → Int) → Nat → Int
  | 0, A => A
  | k + 1, A => rdR M n k (@ite _ (A k = 1 ∧ MkA M n (swA A k 0)) (Classical.propDecidable _) (swA A k 0) A)
theorem lr_rd {d n0 : Nat} {Q : PQ} {S : Sx} (hE : CapER) (hd : 6 ≤ d) (hpos : Pos (gM S.1) (gC S.1)) (A' : Nat → Int)
    (K : ∀ I F x, DI (stA S A') I F → WS m8_reduce d 0 0 n0 Q 0 0 83 [lr 0, x] [] shM I F) :
    ∀ (k : Nat) (A : Nat → Int) (I : IE) (F : FE), (k : Int) ≤ gk (gM S.1) (gC S.1) → DI (stA S A) I F → rdR (gM S.1) (gC S.1) k A = A' → WS m8_reduce d 0 0 n0 Q 0 0 29 [lr 0, li ((k : Int) - 1)] [] shM I F := by
  intro k
  induction k with
  | zero =>
    intro A I F hk h hA
    refine w_iload i8_reduce_29 rfl ?_
    refine w_iflt i8_reduce_30 (fun h30 => ?_) (fun h_ => absurd h_ (by omega))
    have hA2 : A = A' := hA
    rw [hA2] at h
    exact K I F _ h
  | succ k ih =>
    intro A I F hk h hA
    have e0 : ((k + 1 : Nat) : Int) - 1 = (k : Int) := by omega
    rw [e0]
    have hb2 : 0 ≤ gk (gM S.1) (gC S.1) ∧ gk (gM S.1) (gC S.1) ≤ 15 := h.2.1.2.1
    have ak : F 1 (18 + (k : Int)) = A k := h.1.2.2.2.2.2.2.2 k (by omega)
    have e2 : (k : Int) + -1 = (k : Int) - 1 := by omega
    have hA2 : rdR (gM S.1) (gC S.1) k (@ite _ (A k = 1 ∧ MkA (gM S.1) (gC S.1) (swA A k 0)) (Classical.propDecidable _) (swA A k 0) A) = A' := hA
    by_cases c1 : A k = 1
    · have w0 : DI (stA S (swA A k 0)) I (upF F 1 (18 + (k : Int)) 0) := DI.wA (S := stA S A) h (by show (k : Int) < gk (gM S.1) (gC S.1); omega) (Or.inl rfl)
      refine w_iload i8_reduce_29 rfl ?_
      refine w_iflt i8_reduce_30 (fun h_ => absurd h_ (by omega)) (fun h30 => ?_)
      refine w_aload i8_reduce_33 rfl ?_
      refine w_getr i8_reduce_34 rfl rfl ?_
      refine w_const i8_reduce_37 ?_
      refine w_iload i8_reduce_39 rfl ?_
      refine w_iadd i8_reduce_40 (by omega) ?_
      refine w_iald i8_reduce_41 rfl (by omega) ?_
      refine w_const i8_reduce_42 ?_
      refine w_icmpne i8_reduce_43 (fun h_ => absurd h_ (by rw [ak]; exact fun h => h c1)) (fun h43 => ?_)
      refine w_aload i8_reduce_46 rfl ?_
      refine w_getr i8_reduce_47 rfl rfl ?_
      refine w_const i8_reduce_50 ?_
      refine w_iload i8_reduce_52 rfl ?_
      refine w_iadd i8_reduce_53 (by omega) ?_
      refine w_const i8_reduce_54 ?_
      refine w_iast i8_reduce_55 rfl (by omega) ?_
      refine w_aload i8_reduce_56 rfl ?_
      refine w_getr i8_reduce_57 rfl rfl ?_
      refine w_const i8_reduce_60 ?_
      refine w_iload i8_reduce_62 rfl ?_
      refine w_iadd i8_reduce_63 (by omega) ?_
      refine w_aload i8_reduce_64 rfl ?_
      refine w_cVB i8_reduce_65 f8_areConnected v8_areConnected (r_areConnected (S := stA S (swA A k 0)) hE (by omega) w0 hpos) rfl rfl (by decide) rfl rfl (Nat.le_of_ble_eq_true rfl) (by omega) (fun v I1 F1 hq => ?_)
      have hd1 : DI (stA S (swA A k 0)) I1 F1 := w0.O hq.1
      refine w_ifeq i8_reduce_68 (fun h68 => ?_) (fun h68 => ?_)
      · refine w_const i8_reduce_75 ?_
        refine w_iast i8_reduce_76 rfl (by omega) ?_
        refine w_ii1 i8_reduce_77 (by omega) ?_
        refine w_goto i8_reduce_80 ?_
        rw [e2]
        first
        | (have hm : ¬ MkA (gM S.1) (gC S.1) (swA A k 0) := by
             rcases hq.2 with ⟨g, -⟩ | ⟨-, g⟩
             · omega
             · exact g
           rw [if_neg (fun g => hm g.2)] at hA2
           have w1 := DI.wA (S := stA S (swA A k 0)) (e := k) (v := 1) hd1 (by show (k : Int) < gk (gM S.1) (gC S.1); omega) (Or.inr rfl)
           have e1 : wA (stA S (swA A k 0)) k 1 = stA S A := by
             show ((gR S.1, gC S.1, gM S.1, gZ S.1, gY S.1, swA (swA A k 0) k 1), S.2) = stA S A
             rw [swA_1 c1]
             rfl
           rw [e1] at w1
           exact ih A I1 _ (by omega) w1 hA2)
        | (have hm : MkA (gM S.1) (gC S.1) (swA A k 0) := by
             rcases hq.2 with ⟨-, g⟩ | ⟨g, -⟩
             · exact g
             · omega
           rw [if_pos ⟨c1, hm⟩] at hA2
           have w1 := DI.wA (S := stA S (swA A k 0)) (e := k) (v := 0) hd1 (by show (k : Int) < gk (gM S.1) (gC S.1); omega) (Or.inl rfl)
           have e1 : wA (stA S (swA A k 0)) k 0 = stA S (swA A k 0) := by
             show ((gR S.1, gC S.1, gM S.1, gZ S.1, gY S.1, swA (swA A k 0) k 0), S.2) = stA S (swA A k 0)
             have : swA (swA A k 0) k 0 = swA A k 0 := by
               funext j
               unfold swA
               by_cases c : j = k
               · rw [if_pos c, if_pos c]
               · rw [if_neg c]
             rw [this]
             rfl
           rw [e1] at w1
           exact ih (swA A k 0) I1 _ (by omega) w1 hA2)
      · refine w_const i8_reduce_71 ?_
        refine w_goto i8_reduce_72 ?_
        refine w_iast i8_reduce_76 rfl (by omega) ?_
        refine w_ii1 i8_reduce_77 (by omega) ?_
        refine w_goto i8_reduce_80 ?_
        rw [e2]
        first
        | (have hm : ¬ MkA (gM S.1) (gC S.1) (swA A k 0) := by
             rcases hq.2 with ⟨g, -⟩ | ⟨-, g⟩
             · omega
             · exact g
           rw [if_neg (fun g => hm g.2)] at hA2
           have w1 := DI.wA (S := stA S (swA A k 0)) (e := k) (v := 1) hd1 (by show (k : Int) < gk (gM S.1) (gC S.1); omega) (Or.inr rfl)
           have e1 : wA (stA S (swA A k 0)) k 1 = stA S A := by
             show ((gR S.1, gC S.1, gM S.1, gZ S.1, gY S.1, swA (swA A k 0) k 1), S.2) = stA S A
             rw [swA_1 c1]
             rfl
           rw [e1] at w1
           exact ih A I1 _ (by omega) w1 hA2)
        | (have hm : MkA (gM S.1) (gC S.1) (swA A k 0) := by
             rcases hq.2 with ⟨-, g⟩ | ⟨g, -⟩
             · exact g
             · omega
           rw [if_pos ⟨c1, hm⟩] at hA2
           have w1 := DI.wA (S := stA S (swA A k 0)) (e := k) (v := 0) hd1 (by show (k : Int) < gk (gM S.1) (gC S.1); omega) (Or.inl rfl)
           have e1 : wA (stA S (swA A k 0)) k 0 = stA S (swA A k 0) := by
             show ((gR S.1, gC S.1, gM S.1, gZ S.1, gY S.1, swA (swA A k 0) k 0), S.2) = stA S (swA A k 0)
             have : swA (swA A k 0) k 0 = swA A k 0 := by
               funext j
               unfold swA
               by_cases c : j = k
               · rw [if_pos c, if_pos c]
               · rw [if_neg c]
             rw [this]
             rfl
           rw [e1] at w1
           exact ih (swA A k 0) I1 _ (by omega) w1 hA2)
    · rw [if_neg (fun g => c1 g.1)] at hA2
      refine w_iload i8_reduce_29 rfl ?_
      refine w_iflt i8_reduce_30 (fun h_ => absurd h_ (by omega)) (fun h30 => ?_)
      refine w_aload i8_reduce_33 rfl ?_
      refine w_getr i8_reduce_34 rfl rfl ?_
      refine w_const i8_reduce_37 ?_
      refine w_iload i8_reduce_39 rfl ?_
      refine w_iadd i8_reduce_40 (by omega) ?_
      refine w_iald i8_reduce_41 rfl (by omega) ?_
      refine w_const i8_reduce_42 ?_
      refine w_icmpne i8_reduce_43 (fun h43 => ?_) (fun h_ => absurd h_ (by rw [ak]; exact c1))
      refine w_ii1 i8_reduce_77 (by omega) ?_
      refine w_goto i8_reduce_80 ?_
      rw [e2]
      exact ih A I F (by omega) h hA2
theorem r_reduce {d : Nat} {I : IE} {F : FE} {S : Sx} (hE : CapER) (hd : 6 ≤ d) (h : DI S I F) : MB m8_reduce d shM [rv 0] I F (fun v I' F' => (¬ (Pos (gM S.1) (gC S.1) ∧ MkA (gM S.1) (gC S.1) (gA S.1)) ∧ v = -1002 ∧ DI S I' F') ∨ (Pos (gM S.1) (gC S.1) ∧ MkA (gM S.1) (gC S.1) (gA S.1)) ∧ v = ons (rdR (gM S.1) (gC S.1) (gk (gM S.1) (gC S.1)).toNat (gA S.1)) 16 ∧ DI (stA (psh S) (rdR (gM S.1) (gC S.1) (gk (gM S.1) (gC S.1)).toNat (gA S.1))) I' F') := by
  have hn := h.1.1.2.1
  refine MS_of (ls := [lr 0, lu]) f8_reduce rfl rfl (Nat.le_of_ble_eq_true rfl) ?_
  refine w_aload i8_reduce_0 rfl ?_
  refine w_cVP i8_reduce_1 f8_isAllPositive v8_isAllPositive (r_isAllPositive (by omega) h.1.nm h.1.2.2.2.1 (by omega)) rfl rfl (by decide) rfl rfl (Nat.le_of_ble_eq_true rfl) (by omega) (fun v1 hv1 => ?_)
  have hpos : v1 ≠ 0 → Pos (gM S.1) (gC S.1) := fun g => by rcases hv1 with ⟨-, a⟩ | ⟨a, -⟩; exact a; omega
  refine w_ifeq i8_reduce_4 (fun h4 => ?_) (fun h4 => ?_)
  · refine w_const i8_reduce_14 ?_
    refine w_iret i8_reduce_17 (Or.inl rfl) ⟨Nat.le_refl _, Nat.le_refl _⟩ ?_
    first
    | (have hw := hq.2
       refine ⟨rfl, _, rfl, Or.inl ⟨fun g => ?_, rfl, h.O hq.1⟩⟩
       rcases hw with ⟨a, -⟩ | ⟨-, a⟩
       · omega
       · exact a g.2)
    | (refine ⟨rfl, _, rfl, Or.inl ⟨fun g => ?_, rfl, h⟩⟩
       rcases hv1 with ⟨a, -⟩ | ⟨-, a⟩
       · omega
       · exact a g.1)
  · refine w_aload i8_reduce_7 rfl ?_
    refine w_cVB i8_reduce_8 f8_areConnected v8_areConnected (r_areConnected hE (by omega) h (hpos (by assumption))) rfl rfl (by decide) rfl rfl (Nat.le_of_ble_eq_true rfl) (by omega) (fun w I1 F1 hq => ?_)
    refine w_ifne i8_reduce_11 (fun h11 => ?_) (fun h11 => ?_)
    · refine w_aload i8_reduce_18 rfl ?_
      refine w_cVU i8_reduce_19 f8_keep v8_keep (r_keep (h.O hq.1)) rfl rfl (by decide) rfl rfl (Nat.le_of_ble_eq_true rfl) (by omega) (fun I2 F2 hr => ?_)
      have hPo := hpos (by assumption)
      have hMk : MkA (gM S.1) (gC S.1) (gA S.1) := by rcases hq.2 with ⟨-, a⟩ | ⟨a, -⟩; exact a; omega
      have d2 := hr.1
      have hb1 : I2 0 5 = gk (gM S.1) (gC S.1) := d2.2.1.1
      have hb2 : 0 ≤ gk (gM S.1) (gC S.1) ∧ gk (gM S.1) (gC S.1) ≤ 15 := d2.2.1.2.1
      have e5 : I2 0 5 - 1 = ((gk (gM S.1) (gC S.1)).toNat : Int) - 1 := by omega
      refine w_aload i8_reduce_22 rfl ?_
      refine w_get i8_reduce_23 rfl rfl ?_
      refine w_const i8_reduce_26 ?_
      refine w_isub i8_reduce_27 (by omega) ?_
      refine w_is1 i8_reduce_28 ?_
      rw [e5]
      refine lr_rd (S := psh S) hE (by omega) hPo (rdR (gM S.1) (gC S.1) (gk (gM S.1) (gC S.1)).toNat (gA S.1)) (fun I3 F3 x hx => ?_) (gk (gM S.1) (gC S.1)).toNat (gA S.1) I2 F2 (by show (((gk (gM S.1) (gC S.1)).toNat : Nat) : Int) ≤ gk (gM S.1) (gC S.1); omega) d2 rfl
      refine w_aload i8_reduce_83 rfl ?_
      refine w_cVR i8_reduce_84 f8_activeCount v8_activeCount (r_activeCount hx) rfl rfl (by decide) rfl rfl (Nat.le_of_ble_eq_true rfl) (by omega) ?_
      exact w_iret i8_reduce_87 (Or.inl rfl) ⟨Nat.le_refl _, Nat.le_refl _⟩ ⟨rfl, _, rfl, Or.inr ⟨⟨hPo, hMk⟩, rfl, hx⟩⟩
    · refine w_const i8_reduce_14 ?_
      refine w_iret i8_reduce_17 (Or.inl rfl) ⟨Nat.le_refl _, Nat.le_refl _⟩ ?_
      first
      | (have hw := hq.2
         refine ⟨rfl, _, rfl, Or.inl ⟨fun g => ?_, rfl, h.O hq.1⟩⟩
         rcases hw with ⟨a, -⟩ | ⟨-, a⟩
         · omega
         · exact a g.2)
      | (refine ⟨rfl, _, rfl, Or.inl ⟨fun g => ?_, rfl, h⟩⟩
         rcases hv1 with ⟨a, -⟩ | ⟨-, a⟩
         · omega
         · exact a g.1)
