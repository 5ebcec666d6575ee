/-- a row of the matrix times a vector, as both sides say it -/
theorem pdt_dt {S : Sx} {F : FE} {w : Int → Int} {r : Int} (hS : SF S) (hM : MA S F) (hr : 0 ≤ r ∧ r ≤ 1) (h0 : ∀ j, gC S.1 ≤ j ∧ j < 4 → w j = 0) : pdt F r (w 0) (w 1) (w 2) (w 3) = dt (gM S.1) w r (gC S.1).toNat := by
  have hn := hS.1.2.1
  have e := hM.2.2
  unfold pdt
  rw [show (2 : Int) + 4 * r = 2 + (r * 4 + 0) by omega, show (3 : Int) + 4 * r = 2 + (r * 4 + 1) by omega, show (4 : Int) + 4 * r = 2 + (r * 4 + 2) by omega, show (5 : Int) + 4 * r = 2 + (r * 4 + 3) by omega, e _ (by omega), e _ (by omega), e _ (by omega), e _ (by omega)]
  generalize gM S.1 = M at *
  generalize gC S.1 = n at *
  rcases (show n = 2 ∨ n = 3 ∨ n = 4 by omega) with rfl | rfl | rfl
  · rw [h0 2 (by decide), h0 3 (by decide)]
    show M (r * 4 + 0) * w 0 + M (r * 4 + 1) * w 1 + M (r * 4 + 2) * 0 + M (r * 4 + 3) * 0 = 0 + M (r * 4 + 0) * w 0 + M (r * 4 + 1) * w 1
    omega
  · rw [h0 3 (by decide)]
    show M (r * 4 + 0) * w 0 + M (r * 4 + 1) * w 1 + M (r * 4 + 2) * w 2 + M (r * 4 + 3) * 0 = 0 + M (r * 4 + 0) * w 0 + M (r * 4 + 1) * w 1 + M (r * 4 + 2) * w 2
    omega
  · show M (r * 4 + 0) * w 0 + M (r * 4 + 1) * w 1 + M (r * 4 + 2) * w 2 + M (r * 4 + 3) * w 3 = 0 + M (r * 4 + 0) * w 0 + M (r * 4 + 1) * w 1 + M (r * 4 + 2) * w 2 + M (r * 4 + 3) * w 3
    omega
/-- the law's rows hold the fiber -/
def RwF (S : Sx) (k : Int) (F : FE) : Prop := ∀ i, 0 ≤ i ∧ i < k → F 64 i = fy (gM S.1) (gC S.1) (gY S.1) i 0 ∧ F 65 i = fy (gM S.1) (gC S.1) (gY S.1) i 1 ∧ F 66 i = fy (gM S.1) (gC S.1) (gY S.1) i 2 ∧ F 67 i = fy (gM S.1) (gC S.1) (gY S.1) i 3
theorem lexi {n a0 a1 a2 a3 b0 b1 b2 b3 : Int} (hn : 2 ≤ n ∧ n ≤ 4) (ha : (0 ≤ a0 ∧ a0 ≤ 127) ∧ (0 ≤ a1 ∧ a1 ≤ 127) ∧ (0 ≤ a2 ∧ a2 ≤ 127) ∧ 0 ≤ a3 ∧ a3 ≤ 127) (hb : (0 ≤ b0 ∧ b0 ≤ 127) ∧ (0 ≤ b1 ∧ b1 ≤ 127) ∧ (0 ≤ b2 ∧ b2 ≤ 127) ∧ 0 ≤ b3 ∧ b3 ≤ 127)
    (z2 : n < 3 → a2 = 0 ∧ b2 = 0) (z3 : n < 4 → a3 = 0 ∧ b3 = 0) (h : Pn n a0 a1 a2 a3 < Pn n b0 b1 b2 b3) : (b0 ≠ a0 → a0 < b0) ∧ (b0 = a0 → b1 ≠ a1 → a1 < b1) ∧ (b0 = a0 → b1 = a1 → b2 ≠ a2 → a2 < b2) ∧ (b0 = a0 → b1 = a1 → b2 = a2 → a3 < b3) := by
  unfold Pn at h
  rcases (show n = 2 ∨ n = 3 ∨ n = 4 by omega) with rfl | rfl | rfl
  · have := z2 (by decide); have := z3 (by decide)
    simp only [show ¬ (2 : Int) = 4 by decide, show ¬ (2 : Int) = 3 by decide, if_false] at h
    refine ⟨?_, ?_, ?_, ?_⟩ <;> intros <;> omega
  · have := z3 (by decide)
    simp only [show ¬ (3 : Int) = 4 by decide, if_false, if_true] at h
    refine ⟨?_, ?_, ?_, ?_⟩ <;> intros <;> omega
  · simp only [if_true] at h
    refine ⟨?_, ?_, ?_, ?_⟩ <;> intros <;> omega
theorem pkn_Pn {n : Int} {w : Int → Int} (hn : 2 ≤ n ∧ n ≤ 4) (h0 : ∀ j, n ≤ j ∧ j < 4 → w j = 0) : pkn w n.toNat = Pn n (w 0) (w 1) (w 2) (w 3) := by
  rcases (show n = 2 ∨ n = 3 ∨ n = 4 by omega) with rfl | rfl | rfl
  · rw [h0 2 (by decide), h0 3 (by decide)]
    show (0 * 128 + w 0) * 128 + w 1 = w 0 * 128 + w 1 + 0 + 0
    omega
  · rw [h0 3 (by decide)]
    show ((0 * 128 + w 0) * 128 + w 1) * 128 + w 2 = (w 0 * 128 + w 1) * 128 + w 2 + 0
    omega
  · show (((0 * 128 + w 0) * 128 + w 1) * 128 + w 2) * 128 + w 3 = ((w 0 * 128 + w 1) * 128 + w 2) * 128 + w 3
    omega
/-- what is known of a point and its fiber -/
def FP (S : Sx) (F : FE) : Prop := SF S ∧ MA S F ∧ Pos (gM S.1) (gC S.1) ∧ (∀ j, 0 ≤ j ∧ j < gC S.1 → gY S.1 j = F 63 j) ∧ (∀ j, 0 ≤ j ∧ j < 4 → 0 ≤ F 63 j ∧ F 63 j ≤ 3) ∧ ∀ j, gC S.1 ≤ j ∧ j < 4 → F 63 j = 0
theorem FP.cn {S : Sx} {F : FE} (h : FP S F) : CN F (gC S.1) (pdt F 0 (F 63 0) (F 63 1) (F 63 2) (F 63 3)) (pdt F 1 (F 63 0) (F 63 1) (F 63 2) (F 63 3)) (if 2 < gC S.1 then 40 else 0) (if 3 < gC S.1 then 40 else 0) := by
  obtain ⟨hS, hM, hp, -, h3, -⟩ := h
  have hn := hS.1.2.1
  have hA := hM.a3 hS
  have p0 := h3 0 (by decide); have p1 := h3 1 (by decide); have p2 := h3 2 (by decide); have p3 := h3 3 (by decide)
  have b : ∀ r : Int, 0 ≤ r ∧ r ≤ 1 → 0 ≤ pdt F r (F 63 0) (F 63 1) (F 63 2) (F 63 3) ∧ pdt F r (F 63 0) (F 63 1) (F 63 2) (F 63 3) ≤ 36 := fun r hr => by
    have a0 := mul_le3 (hA (2 + 4 * r) (by omega)) p0
    have a1 := mul_le3 (hA (3 + 4 * r) (by omega)) p1
    have a2 := mul_le3 (hA (4 + 4 * r) (by omega)) p2
    have a3 := mul_le3 (hA (5 + 4 * r) (by omega)) p3
    unfold pdt
    omega
  refine ⟨hA, by rw [← hM.2.1]; exact (hM.pos hS).mpr hp, hn, b 0 (by decide), b 1 (by decide), ?_, ?_⟩
  · split
    · exact Or.inl ⟨rfl, by omega⟩
    · exact Or.inr ⟨rfl, by omega⟩
  · split
    · exact Or.inl ⟨rfl, by omega⟩
    · exact Or.inr ⟨rfl, by omega⟩
theorem FP.st {S : Sx} {F : FE} (h : FP S F) {r : Int} (hr : 0 ≤ r ∧ r ≤ 1) : pdt F r (F 63 0) (F 63 1) (F 63 2) (F 63 3) = dt (gM S.1) (gY S.1) r (gC S.1).toNat := by
  obtain ⟨hS, hM, hp, hY, h3, h0⟩ := h
  rw [pdt_dt (w := F 63) hS hM hr h0]
  have hn := hS.1.2.1
  exact dt_ext _ (fun j hj => (hY j (by omega)).symm)
theorem FP.fib {S : Sx} {F : FE} (h : FP S F) : FibP (gM S.1) (gC S.1) (gY S.1) (fbm (gM S.1) (gC S.1) (gY S.1), fbf (gM S.1) (gC S.1) (gY S.1)) := fibP_ok h.1.1.2.1 h.2.2.1
theorem FP.row {S : Sx} {F : FE} (h : FP S F) {i : Int} (hi : 0 ≤ i ∧ i < fbm (gM S.1) (gC S.1) (gY S.1)) : (∀ j, 0 ≤ j ∧ j < 4 → 0 ≤ fy (gM S.1) (gC S.1) (gY S.1) i j ∧ fy (gM S.1) (gC S.1) (gY S.1) i j ≤ 127) ∧ (∀ j, gC S.1 ≤ j ∧ j < 4 → fy (gM S.1) (gC S.1) (gY S.1) i j = 0) ∧
    (∀ r, 0 ≤ r ∧ r ≤ 1 → pdt F r (fy (gM S.1) (gC S.1) (gY S.1) i 0) (fy (gM S.1) (gC S.1) (gY S.1) i 1) (fy (gM S.1) (gC S.1) (gY S.1) i 2) (fy (gM S.1) (gC S.1) (gY S.1) i 3) = pdt F r (F 63 0) (F 63 1) (F 63 2) (F 63 3)) ∧
    Pn (gC S.1) (fy (gM S.1) (gC S.1) (gY S.1) i 0) (fy (gM S.1) (gC S.1) (gY S.1) i 1) (fy (gM S.1) (gC S.1) (gY S.1) i 2) (fy (gM S.1) (gC S.1) (gY S.1) i 3) = fbf (gM S.1) (gC S.1) (gY S.1) i := by
  have hn := h.1.1.2.1
  obtain ⟨e1, e2, e3, e4⟩ := row_pk hn h.fib hi
  refine ⟨e2, e3, fun r hr => ?_, by rw [← pkn_Pn hn e3]; exact e1⟩
  rw [pdt_dt h.1 h.2.1 hr e3, h.st hr]
  rcases (show r = 0 ∨ r = 1 by omega) with rfl | rfl
  · exact e4.2.1
  · exact e4.2.2
theorem FP.own {S : Sx} {F : FE} (h : FP S F) : (0 ≤ ixo (gM S.1) (gC S.1) (gY S.1) (gY S.1) ∧ ixo (gM S.1) (gC S.1) (gY S.1) (gY S.1) < fbm (gM S.1) (gC S.1) (gY S.1)) ∧ ∀ i, 0 ≤ i ∧ i < fbm (gM S.1) (gC S.1) (gY S.1) → ((∀ j, 0 ≤ j ∧ j < 4 → fy (gM S.1) (gC S.1) (gY S.1) i j = F 63 j) ↔ i = ixo (gM S.1) (gC S.1) (gY S.1) (gY S.1)) := by
  have hF := h.fib
  obtain ⟨hS, hM, hp, hY, h3, h0⟩ := id h
  have hn := hS.1.2.1
  have y5 : ∀ j, 0 ≤ gY S.1 j ∧ gY S.1 j ≤ 5 := hS.1.2.2.2.2.2.2.1
  have r1 : 0 ≤ ixo (gM S.1) (gC S.1) (gY S.1) (gY S.1) ∧ ixo (gM S.1) (gC S.1) (gY S.1) (gY S.1) < fbm (gM S.1) (gC S.1) (gY S.1) := ix_in hn hp hF ⟨fun j _ => by have := y5 j; omega, rfl, rfl⟩
  have q1 : fbf (gM S.1) (gC S.1) (gY S.1) (ixo (gM S.1) (gC S.1) (gY S.1) (gY S.1)) = cd4 (shf (gC S.1) (gY S.1)) := by
    rcases ixo_ok (gM S.1) (gC S.1) (gY S.1) (gY S.1) with ⟨_, _, g⟩ | ⟨g, _⟩
    · exact g
    · omega
  have f1 := fy_of hn hF r1 (fun j _ => by have := y5 j; omega) q1
  refine ⟨r1, fun i hi => ⟨fun g => ?_, fun g => ?_⟩⟩
  · have a := (h.row hi).2.2.2
    have b := (h.row r1).2.2.2
    have z := (h.row r1).2.1
    have e : ∀ j, 0 ≤ j ∧ j < 4 → fy (gM S.1) (gC S.1) (gY S.1) (ixo (gM S.1) (gC S.1) (gY S.1) (gY S.1)) j = F 63 j := fun j hj => by
      by_cases c : j < gC S.1
      · rw [f1 j ⟨hj.1, c⟩, hY j ⟨hj.1, c⟩]
      · rw [z j ⟨by omega, hj.2⟩, h0 j ⟨by omega, hj.2⟩]
    rw [g 0 (by decide), g 1 (by decide), g 2 (by decide), g 3 (by decide)] at a
    rw [e 0 (by decide), e 1 (by decide), e 2 (by decide), e 3 (by decide)] at b
    rw [a] at b
    rcases Int.lt_trichotomy i (ixo (gM S.1) (gC S.1) (gY S.1) (gY S.1)) with hl | hl | hl
    · have := hF.2.1 i _ ⟨hi.1, hl, r1.2⟩; dsimp only at this; omega
    · exact hl
    · have := hF.2.1 _ i ⟨r1.1, hl, hi.2⟩; dsimp only at this; omega
  · rw [g]
    intro j hj
    by_cases c : j < gC S.1
    · rw [f1 j ⟨hj.1, c⟩, hY j ⟨hj.1, c⟩]
    · rw [(h.row r1).2.1 j ⟨by omega, hj.2⟩, h0 j ⟨by omega, hj.2⟩]
theorem FP.f {S : Sx} {F G : FE} (h : FP S F) (h2 : G 62 = F 62) (h3 : G 63 = F 63) : FP S G := by
  obtain ⟨a, b, c, d, e, f⟩ := h
  unfold FP MA
  rw [h2, h3]
  exact ⟨a, b, c, d, e, f⟩
theorem pdt_f {F G : FE} {r y0 y1 y2 y3 : Int} (h : G 62 = F 62) : pdt G r y0 y1 y2 y3 = pdt F r y0 y1 y2 y3 := by unfold pdt; rw [h]
theorem lL_fiber {d n0 : Nat} {Q : PQ} {S : Sx} {G : FE} {s t m : Int} (hd : 8 ≤ d) (hG : FP S G) (hs : s = pdt G 0 (G 63 0) (G 63 1) (G 63 2) (G 63 3)) (ht : t = pdt G 1 (G 63 0) (G 63 1) (G 63 2) (G 63 3)) (hm : m = fbm (gM S.1) (gC S.1) (gY S.1))
    (K : ∀ x12 x13 (k : Int) own I F, 0 ≤ k → (m ≤ k ∨ 64 ≤ k) → k ≤ m → CI S I F → F 62 = G 62 → F 63 = G 63 → RwF S k F → own = (if ixo (gM S.1) (gC S.1) (gY S.1) (gY S.1) < k then ixo (gM S.1) (gC S.1) (gY S.1) (gY S.1) else -1) → WS mL_fiber d 0 0 n0 Q 0 0 478 [lr 0, lr 62, lr 63, lr 64, lr 65, lr 66, lr 67, li s, li t, li m, li own, li k, x12, x13] [] shL I F) :
    ∀ (w k : Nat) (x12 x13 : Option AV) (own : Int) (I : IE) (F : FE), (k + w : Int) = m → CI S I F → F 62 = G 62 → F 63 = G 63 → RwF S k F → own = (if ixo (gM S.1) (gC S.1) (gY S.1) (gY S.1) < (k : Int) then ixo (gM S.1) (gC S.1) (gY S.1) (gY S.1) else -1) → WS mL_fiber d 0 0 n0 Q 0 0 104 [lr 0, lr 62, lr 63, lr 64, lr 65, lr 66, lr 67, li s, li t, li m, li own, li k, x12, x13] [] shL I F := by
  have hS := hG.1
  have hp := hG.2.2.1
  have hn := hS.1.2.1
  have hA := hG.2.1.a3 hS
  have h621 := hG.2.1.2.1
  intro w
  induction w with
  | zero =>
    intro k x12 x13 own I F hk hC f2 f3 hR ho
    refine w_iload iL_fiber_104 rfl ?_
    refine w_iload iL_fiber_106 rfl ?_
    refine w_icmpge iL_fiber_108 (fun h108 => ?_) (fun h_ => absurd h_ (by omega))
    exact K _ _ k own I F (by omega) (by omega) (by omega) hC f2 f3 hR ho
  | succ w ih =>
    intro k x12 x13 own I F hk hC f2 f3 hR ho
    by_cases hk64 : 64 ≤ (k : Int)
    · refine w_iload iL_fiber_104 rfl ?_
      refine w_iload iL_fiber_106 rfl ?_
      refine w_icmpge iL_fiber_108 (fun h_ => absurd h_ (by omega)) (fun h108 => ?_)
      refine w_iload iL_fiber_111 rfl ?_
      refine w_const iL_fiber_113 ?_
      refine w_icmpge iL_fiber_115 (fun h115 => ?_) (fun h_ => absurd h_ (by omega))
      exact K _ _ k own I F (by omega) (by omega) (by omega) hC f2 f3 hR ho
    · have hkm : 0 ≤ (k : Int) ∧ (k : Int) < fbm (gM S.1) (gC S.1) (gY S.1) := by omega
      obtain ⟨rb, rz, rp, rq⟩ := hG.row hkm
      have b0 := rb 0 (by decide); have b1 := rb 1 (by decide); have b2 := rb 2 (by decide); have b3 := rb 3 (by decide)
      -- the row stands
      have c198 : ∀ (I1 : IE) (F1 : FE) (x12 x13 : Option AV), CI S I1 F1 → F1 62 = G 62 → F1 63 = G 63 → RwF S (k + 1) F1 → WS mL_fiber d 0 0 n0 Q 0 0 198 [lr 0, lr 62, lr 63, lr 64, lr 65, lr 66, lr 67, li s, li t, li m, li own, li k, x12, x13] [] shL I1 F1 := fun I1 F1 x12 x13 c1 g2 g3 r1 => by
        obtain ⟨e0, e1, e2, e3⟩ := r1 k (by omega)
        have hA1 : A3 F1 := by unfold A3; rw [g2]; exact hA
        have q0 := rp 0 (by decide)
        have q1 := rp 1 (by decide)
        rw [← hs] at q0
        rw [← ht] at q1
        have nx : ∀ (own' : Int) (x12 x13 : Option AV), own' = (if ixo (gM S.1) (gC S.1) (gY S.1) (gY S.1) < (k + 1 : Int) then ixo (gM S.1) (gC S.1) (gY S.1) (gY S.1) else -1) → WS mL_fiber d 0 0 n0 Q 0 0 104 [lr 0, lr 62, lr 63, lr 64, lr 65, lr 66, lr 67, li s, li t, li m, li own', li (k + 1 : Int), x12, x13] [] shL I1 F1 := fun own' x12 x13 ho' => ih (k + 1) _ _ _ _ _ (by omega) c1 g2 g3 r1 ho'
        have iff := hG.own.2 k hkm
        have hown := hG.own.1
        have nohit : ¬ (k : Int) = ixo (gM S.1) (gC S.1) (gY S.1) (gY S.1) → own = (if ixo (gM S.1) (gC S.1) (gY S.1) (gY S.1) < (k + 1 : Int) then ixo (gM S.1) (gC S.1) (gY S.1) (gY S.1) else -1) := fun hh => by
          rw [ho]; split <;> split <;> omega
        have hit : (k : Int) = ixo (gM S.1) (gC S.1) (gY S.1) (gY S.1) → (k : Int) = (if ixo (gM S.1) (gC S.1) (gY S.1) (gY S.1) < (k + 1 : Int) then ixo (gM S.1) (gC S.1) (gY S.1) (gY S.1) else -1) := fun hh => by
          rw [if_pos (by omega)]; exact hh
        have c413 : ∀ (v : Int), 0 < v → WS mL_fiber d 0 0 n0 Q 0 0 413 [lr 0, lr 62, lr 63, lr 64, lr 65, lr 66, lr 67, li s, li t, li m, li own, li k, li 1, li v] [] shL I1 F1 := fun v hv => by
          refine w_iload iL_fiber_413 rfl ?_
          refine w_ifgt iL_fiber_415 (fun h415 => ?_) (fun h_ => absurd h_ (by omega))
          refine w_aload iL_fiber_420 rfl ?_
          refine w_iload iL_fiber_421 rfl ?_
          refine w_iald iL_fiber_423 sL64 (by omega) ?_
          rw [e0]
          refine w_aload iL_fiber_424 rfl ?_
          refine w_const iL_fiber_425 ?_
          refine w_iald iL_fiber_426 sL63 (by omega) ?_
          rw [g3]
          refine w_icmpne iL_fiber_427 (fun h427 => ?_) (fun h427 => ?_)
          · refine w_iload iL_fiber_468 rfl ?_
            refine w_is10 iL_fiber_470 ?_
            refine w_ii11 iL_fiber_472 (by omega) ?_
            refine w_goto iL_fiber_475 ?_
            first
            | exact nx _ _ _ (nohit (fun z => h427 (iff.mpr z 0 (by decide))))
            | exact nx _ _ _ (nohit (fun z => h438 (iff.mpr z 1 (by decide))))
            | exact nx _ _ _ (nohit (fun z => h449 (iff.mpr z 2 (by decide))))
            | exact nx _ _ _ (nohit (fun z => h460 (iff.mpr z 3 (by decide))))
            | (refine nx _ _ _ (hit (iff.mp (fun j hj => ?_)))
               rcases (show j = 0 ∨ j = 1 ∨ j = 2 ∨ j = 3 by omega) with rfl | rfl | rfl | rfl
               · exact h427
               · exact h438
               · exact h449
               · exact h460)
            | show 2 = 3
          · refine w_aload iL_fiber_430 rfl ?_
            refine w_iload iL_fiber_432 rfl ?_
            refine w_iald iL_fiber_434 sL65 (by omega) ?_
            rw [e1]
            refine w_aload iL_fiber_435 rfl ?_
            refine w_const iL_fiber_436 ?_
            refine w_iald iL_fiber_437 sL63 (by omega) ?_
            rw [g3]
            refine w_icmpne iL_fiber_438 (fun h438 => ?_) (fun h438 => ?_)
            · refine w_iload iL_fiber_468 rfl ?_
              refine w_is10 iL_fiber_470 ?_
              refine w_ii11 iL_fiber_472 (by omega) ?_
              refine w_goto iL_fiber_475 ?_
              first
              | exact nx _ _ _ (nohit (fun z => h427 (iff.mpr z 0 (by decide))))
              | exact nx _ _ _ (nohit (fun z => h438 (iff.mpr z 1 (by decide))))
              | exact nx _ _ _ (nohit (fun z => h449 (iff.mpr z 2 (by decide))))
              | exact nx _ _ _ (nohit (fun z => h460 (iff.mpr z 3 (by decide))))
              | (refine nx _ _ _ (hit (iff.mp (fun j hj => ?_)))
                 rcases (show j = 0 ∨ j = 1 ∨ j = 2 ∨ j = 3 by omega) with rfl | rfl | rfl | rfl
                 · exact h427
                 · exact h438
                 · exact h449
                 · exact h460)
              | show 2 = 3
            · refine w_aload iL_fiber_441 rfl ?_
              refine w_iload iL_fiber_443 rfl ?_
              refine w_iald iL_fiber_445 sL66 (by omega) ?_
              rw [e2]
              refine w_aload iL_fiber_446 rfl ?_
              refine w_const iL_fiber_447 ?_
              refine w_iald iL_fiber_448 sL63 (by omega) ?_
              rw [g3]
              refine w_icmpne iL_fiber_449 (fun h449 => ?_) (fun h449 => ?_)
              · refine w_iload iL_fiber_468 rfl ?_
                refine w_is10 iL_fiber_470 ?_
                refine w_ii11 iL_fiber_472 (by omega) ?_
                refine w_goto iL_fiber_475 ?_
                first
                | exact nx _ _ _ (nohit (fun z => h427 (iff.mpr z 0 (by decide))))
                | exact nx _ _ _ (nohit (fun z => h438 (iff.mpr z 1 (by decide))))
                | exact nx _ _ _ (nohit (fun z => h449 (iff.mpr z 2 (by decide))))
                | exact nx _ _ _ (nohit (fun z => h460 (iff.mpr z 3 (by decide))))
                | (refine nx _ _ _ (hit (iff.mp (fun j hj => ?_)))
                   rcases (show j = 0 ∨ j = 1 ∨ j = 2 ∨ j = 3 by omega) with rfl | rfl | rfl | rfl
                   · exact h427
                   · exact h438
                   · exact h449
                   · exact h460)
                | show 2 = 3
              · refine w_aload iL_fiber_452 rfl ?_
                refine w_iload iL_fiber_454 rfl ?_
                refine w_iald iL_fiber_456 sL67 (by omega) ?_
                rw [e3]
                refine w_aload iL_fiber_457 rfl ?_
                refine w_const iL_fiber_458 ?_
                refine w_iald iL_fiber_459 sL63 (by omega) ?_
                rw [g3]
                refine w_icmpne iL_fiber_460 (fun h460 => ?_) (fun h460 => ?_)
                · refine w_iload iL_fiber_468 rfl ?_
                  refine w_is10 iL_fiber_470 ?_
                  refine w_ii11 iL_fiber_472 (by omega) ?_
                  refine w_goto iL_fiber_475 ?_
                  first
                  | exact nx _ _ _ (nohit (fun z => h427 (iff.mpr z 0 (by decide))))
                  | exact nx _ _ _ (nohit (fun z => h438 (iff.mpr z 1 (by decide))))
                  | exact nx _ _ _ (nohit (fun z => h449 (iff.mpr z 2 (by decide))))
                  | exact nx _ _ _ (nohit (fun z => h460 (iff.mpr z 3 (by decide))))
                  | (refine nx _ _ _ (hit (iff.mp (fun j hj => ?_)))
                     rcases (show j = 0 ∨ j = 1 ∨ j = 2 ∨ j = 3 by omega) with rfl | rfl | rfl | rfl
                     · exact h427
                     · exact h438
                     · exact h449
                     · exact h460)
                  | show 2 = 3
                · refine w_iload iL_fiber_463 rfl ?_
                  refine w_goto iL_fiber_465 ?_
                  refine w_is10 iL_fiber_470 ?_
                  refine w_ii11 iL_fiber_472 (by omega) ?_
                  refine w_goto iL_fiber_475 ?_
                  first
                  | exact nx _ _ _ (nohit (fun z => h427 (iff.mpr z 0 (by decide))))
                  | exact nx _ _ _ (nohit (fun z => h438 (iff.mpr z 1 (by decide))))
                  | exact nx _ _ _ (nohit (fun z => h449 (iff.mpr z 2 (by decide))))
                  | exact nx _ _ _ (nohit (fun z => h460 (iff.mpr z 3 (by decide))))
                  | (refine nx _ _ _ (hit (iff.mp (fun j hj => ?_)))
                     rcases (show j = 0 ∨ j = 1 ∨ j = 2 ∨ j = 3 by omega) with rfl | rfl | rfl | rfl
                     · exact h427
                     · exact h438
                     · exact h449
                     · exact h460)
                  | show 2 = 3
        have lx : 0 < (k : Int) → (fy (gM S.1) (gC S.1) (gY S.1) k 0 ≠ F1 64 (k - 1) → F1 64 (k - 1) < fy (gM S.1) (gC S.1) (gY S.1) k 0) ∧ (fy (gM S.1) (gC S.1) (gY S.1) k 0 = F1 64 (k - 1) → fy (gM S.1) (gC S.1) (gY S.1) k 1 ≠ F1 65 (k - 1) → F1 65 (k - 1) < fy (gM S.1) (gC S.1) (gY S.1) k 1) ∧ (fy (gM S.1) (gC S.1) (gY S.1) k 0 = F1 64 (k - 1) → fy (gM S.1) (gC S.1) (gY S.1) k 1 = F1 65 (k - 1) → fy (gM S.1) (gC S.1) (gY S.1) k 2 ≠ F1 66 (k - 1) → F1 66 (k - 1) < fy (gM S.1) (gC S.1) (gY S.1) k 2) ∧ (fy (gM S.1) (gC S.1) (gY S.1) k 0 = F1 64 (k - 1) → fy (gM S.1) (gC S.1) (gY S.1) k 1 = F1 65 (k - 1) → fy (gM S.1) (gC S.1) (gY S.1) k 2 = F1 66 (k - 1) → F1 67 (k - 1) < fy (gM S.1) (gC S.1) (gY S.1) k 3) := fun h0 => by
          obtain ⟨d0, d1, d2, d3⟩ := r1 (k - 1) (by omega)
          rw [d0, d1, d2, d3]
          obtain ⟨ab, az, -, aq⟩ := hG.row (i := k - 1) (by omega)
          refine lexi hn ⟨ab 0 (by decide), ab 1 (by decide), ab 2 (by decide), ab 3 (by decide)⟩ ⟨b0, b1, b2, b3⟩ (fun c => ⟨az 2 (by omega), rz 2 (by omega)⟩) (fun c => ⟨az 3 (by omega), rz 3 (by omega)⟩) ?_
          rw [aq, rq]
          exact hG.fib.2.1 (k - 1) k (by omega)
        have pb : 0 < (k : Int) → (0 ≤ F1 64 (k - 1) ∧ F1 64 (k - 1) ≤ 127) ∧ (0 ≤ F1 65 (k - 1) ∧ F1 65 (k - 1) ≤ 127) ∧ (0 ≤ F1 66 (k - 1) ∧ F1 66 (k - 1) ≤ 127) ∧ (0 ≤ F1 67 (k - 1) ∧ F1 67 (k - 1) ≤ 127) := fun h0 => by
          obtain ⟨d0, d1, d2, d3⟩ := r1 (k - 1) (by omega)
          obtain ⟨ab, az, -, aq⟩ := hG.row (i := k - 1) (by omega)
          rw [d0, d1, d2, d3]
          exact ⟨ab 0 (by decide), ab 1 (by decide), ab 2 (by decide), ab 3 (by decide)⟩
        refine w_aload iL_fiber_198 rfl ?_
        refine w_iload iL_fiber_199 rfl ?_
        refine w_iald iL_fiber_201 sL64 (by omega) ?_
        rw [e0]
        refine w_iflt iL_fiber_202 (fun h_ => absurd h_ (by omega)) (fun h202 => ?_)
        refine w_aload iL_fiber_205 rfl ?_
        refine w_iload iL_fiber_207 rfl ?_
        refine w_iald iL_fiber_209 sL65 (by omega) ?_
        rw [e1]
        refine w_iflt iL_fiber_210 (fun h_ => absurd h_ (by omega)) (fun h210 => ?_)
        refine w_aload iL_fiber_213 rfl ?_
        refine w_iload iL_fiber_215 rfl ?_
        refine w_iald iL_fiber_217 sL66 (by omega) ?_
        rw [e2]
        refine w_iflt iL_fiber_218 (fun h_ => absurd h_ (by omega)) (fun h218 => ?_)
        refine w_aload iL_fiber_221 rfl ?_
        refine w_iload iL_fiber_223 rfl ?_
        refine w_iald iL_fiber_225 sL67 (by omega) ?_
        rw [e3]
        refine w_iflt iL_fiber_226 (fun h_ => absurd h_ (by omega)) (fun h226 => ?_)
        refine w_const iL_fiber_229 ?_
        refine w_goto iL_fiber_230 ?_
        refine w_is12 iL_fiber_234 ?_
        refine w_iload iL_fiber_236 rfl ?_
        refine w_ifeq iL_fiber_238 (fun h_ => absurd h_ (by omega)) (fun h238 => ?_)
        refine w_aload iL_fiber_241 rfl ?_
        refine w_const iL_fiber_242 ?_
        refine w_aload iL_fiber_243 rfl ?_
        refine w_iload iL_fiber_244 rfl ?_
        refine w_iald iL_fiber_246 sL64 (by omega) ?_
        rw [e0]
        refine w_aload iL_fiber_247 rfl ?_
        refine w_iload iL_fiber_249 rfl ?_
        refine w_iald iL_fiber_251 sL65 (by omega) ?_
        rw [e1]
        refine w_aload iL_fiber_252 rfl ?_
        refine w_iload iL_fiber_254 rfl ?_
        refine w_iald iL_fiber_256 sL66 (by omega) ?_
        rw [e2]
        refine w_aload iL_fiber_257 rfl ?_
        refine w_iload iL_fiber_259 rfl ?_
        refine w_iald iL_fiber_261 sL67 (by omega) ?_
        rw [e3]
        refine w_cSR iL_fiber_262 fL_product vL_product (sL_product (by decide) hA1 (by omega) (by omega) (by omega) (by omega)) rfl rfl (Nat.le_of_ble_eq_true rfl) (by omega) ?_
        rw [pdt_f g2, q0]
        refine w_iload iL_fiber_265 rfl ?_
        refine w_icmpne iL_fiber_267 (fun h_ => absurd h_ (fun z => z rfl)) (fun h267 => ?_)
        refine w_aload iL_fiber_270 rfl ?_
        refine w_const iL_fiber_271 ?_
        refine w_aload iL_fiber_272 rfl ?_
        refine w_iload iL_fiber_273 rfl ?_
        refine w_iald iL_fiber_275 sL64 (by omega) ?_
        rw [e0]
        refine w_aload iL_fiber_276 rfl ?_
        refine w_iload iL_fiber_278 rfl ?_
        refine w_iald iL_fiber_280 sL65 (by omega) ?_
        rw [e1]
        refine w_aload iL_fiber_281 rfl ?_
        refine w_iload iL_fiber_283 rfl ?_
        refine w_iald iL_fiber_285 sL66 (by omega) ?_
        rw [e2]
        refine w_aload iL_fiber_286 rfl ?_
        refine w_iload iL_fiber_288 rfl ?_
        refine w_iald iL_fiber_290 sL67 (by omega) ?_
        rw [e3]
        refine w_cSR iL_fiber_291 fL_product vL_product (sL_product (by decide) hA1 (by omega) (by omega) (by omega) (by omega)) rfl rfl (Nat.le_of_ble_eq_true rfl) (by omega) ?_
        rw [pdt_f g2, q1]
        refine w_iload iL_fiber_294 rfl ?_
        refine w_icmpeq iL_fiber_296 (fun h296 => ?_) (fun h_ => absurd h_ (fun z => z rfl))
        refine w_const iL_fiber_301 ?_
        refine w_is13 iL_fiber_302 ?_
        refine w_iload iL_fiber_304 rfl ?_
        refine w_ifle iL_fiber_306 (fun h306 => ?_) (fun h306 => ?_)
        · first
          | exact c413 1 (by decide)
          | (refine c413 _ ?_
             have := hl.1 h319
             omega)
          | (refine c413 _ ?_
             have := hl.2.1 h319 h348
             omega)
          | (refine c413 _ ?_
             have := hl.2.2.1 h319 h348 h379
             omega)
          | (refine c413 _ ?_
             have := hl.2.2.2 h319 h348 h379
             omega)
          | show 2 = 3
        · have hl := lx (by omega)
          have hb := pb (by omega)
          refine w_aload iL_fiber_309 rfl ?_
          refine w_iload iL_fiber_310 rfl ?_
          refine w_iald iL_fiber_312 sL64 (by omega) ?_
          rw [e0]
          refine w_aload iL_fiber_313 rfl ?_
          refine w_iload iL_fiber_314 rfl ?_
          refine w_const iL_fiber_316 ?_
          refine w_isub iL_fiber_317 (by omega) ?_
          refine w_iald iL_fiber_318 sL64 (by omega) ?_
          refine w_icmpeq iL_fiber_319 (fun h319 => ?_) (fun h319 => ?_)
          · refine w_aload iL_fiber_336 rfl ?_
            refine w_iload iL_fiber_338 rfl ?_
            refine w_iald iL_fiber_340 sL65 (by omega) ?_
            rw [e1]
            refine w_aload iL_fiber_341 rfl ?_
            refine w_iload iL_fiber_343 rfl ?_
            refine w_const iL_fiber_345 ?_
            refine w_isub iL_fiber_346 (by omega) ?_
            refine w_iald iL_fiber_347 sL65 (by omega) ?_
            refine w_icmpeq iL_fiber_348 (fun h348 => ?_) (fun h348 => ?_)
            · refine w_aload iL_fiber_367 rfl ?_
              refine w_iload iL_fiber_369 rfl ?_
              refine w_iald iL_fiber_371 sL66 (by omega) ?_
              rw [e2]
              refine w_aload iL_fiber_372 rfl ?_
              refine w_iload iL_fiber_374 rfl ?_
              refine w_const iL_fiber_376 ?_
              refine w_isub iL_fiber_377 (by omega) ?_
              refine w_iald iL_fiber_378 sL66 (by omega) ?_
              refine w_icmpeq iL_fiber_379 (fun h379 => ?_) (fun h379 => ?_)
              · refine w_aload iL_fiber_398 rfl ?_
                refine w_iload iL_fiber_400 rfl ?_
                refine w_iald iL_fiber_402 sL67 (by omega) ?_
                rw [e3]
                refine w_aload iL_fiber_403 rfl ?_
                refine w_iload iL_fiber_405 rfl ?_
                refine w_const iL_fiber_407 ?_
                refine w_isub iL_fiber_408 (by omega) ?_
                refine w_iald iL_fiber_409 sL67 (by omega) ?_
                refine w_isub iL_fiber_410 (by omega) ?_
                refine w_is13 iL_fiber_411 ?_
                first
                | exact c413 1 (by decide)
                | (refine c413 _ ?_
                   have := hl.1 h319
                   omega)
                | (refine c413 _ ?_
                   have := hl.2.1 h319 h348
                   omega)
                | (refine c413 _ ?_
                   have := hl.2.2.1 h319 h348 h379
                   omega)
                | (refine c413 _ ?_
                   have := hl.2.2.2 h319 h348 h379
                   omega)
                | show 2 = 3
              · refine w_aload iL_fiber_382 rfl ?_
                refine w_iload iL_fiber_384 rfl ?_
                refine w_iald iL_fiber_386 sL66 (by omega) ?_
                rw [e2]
                refine w_aload iL_fiber_387 rfl ?_
                refine w_iload iL_fiber_389 rfl ?_
                refine w_const iL_fiber_391 ?_
                refine w_isub iL_fiber_392 (by omega) ?_
                refine w_iald iL_fiber_393 sL66 (by omega) ?_
                refine w_isub iL_fiber_394 (by omega) ?_
                refine w_goto iL_fiber_395 ?_
                refine w_is13 iL_fiber_411 ?_
                first
                | exact c413 1 (by decide)
                | (refine c413 _ ?_
                   have := hl.1 h319
                   omega)
                | (refine c413 _ ?_
                   have := hl.2.1 h319 h348
                   omega)
                | (refine c413 _ ?_
                   have := hl.2.2.1 h319 h348 h379
                   omega)
                | (refine c413 _ ?_
                   have := hl.2.2.2 h319 h348 h379
                   omega)
                | show 2 = 3
            · refine w_aload iL_fiber_351 rfl ?_
              refine w_iload iL_fiber_353 rfl ?_
              refine w_iald iL_fiber_355 sL65 (by omega) ?_
              rw [e1]
              refine w_aload iL_fiber_356 rfl ?_
              refine w_iload iL_fiber_358 rfl ?_
              refine w_const iL_fiber_360 ?_
              refine w_isub iL_fiber_361 (by omega) ?_
              refine w_iald iL_fiber_362 sL65 (by omega) ?_
              refine w_isub iL_fiber_363 (by omega) ?_
              refine w_goto iL_fiber_364 ?_
              refine w_is13 iL_fiber_411 ?_
              first
              | exact c413 1 (by decide)
              | (refine c413 _ ?_
                 have := hl.1 h319
                 omega)
              | (refine c413 _ ?_
                 have := hl.2.1 h319 h348
                 omega)
              | (refine c413 _ ?_
                 have := hl.2.2.1 h319 h348 h379
                 omega)
              | (refine c413 _ ?_
                 have := hl.2.2.2 h319 h348 h379
                 omega)
              | show 2 = 3
          · refine w_aload iL_fiber_322 rfl ?_
            refine w_iload iL_fiber_323 rfl ?_
            refine w_iald iL_fiber_325 sL64 (by omega) ?_
            rw [e0]
            refine w_aload iL_fiber_326 rfl ?_
            refine w_iload iL_fiber_327 rfl ?_
            refine w_const iL_fiber_329 ?_
            refine w_isub iL_fiber_330 (by omega) ?_
            refine w_iald iL_fiber_331 sL64 (by omega) ?_
            refine w_isub iL_fiber_332 (by omega) ?_
            refine w_goto iL_fiber_333 ?_
            refine w_is13 iL_fiber_411 ?_
            first
            | exact c413 1 (by decide)
            | (refine c413 _ ?_
               have := hl.1 h319
               omega)
            | (refine c413 _ ?_
               have := hl.2.1 h319 h348
               omega)
            | (refine c413 _ ?_
               have := hl.2.2.1 h319 h348 h379
               omega)
            | (refine c413 _ ?_
               have := hl.2.2.2 h319 h348 h379
               omega)
            | show 2 = 3
      have e621 : ∀ {F1 : FE}, F1 62 = F 62 → F1 62 1 = gC S.1 := fun h => by rw [h, f2]; exact h621
      have putr : ∀ {F1 F2 : FE} {p : Nat} {v : Int}, (∀ a, 62 ≤ a → F2 a = upF F1 p k v a) → ∀ a, 62 ≤ a → a ≠ p → F2 a = F1 a := fun h a ha hp' => by
        rw [h a ha]; funext j; simp only [upF]; rw [if_neg (fun z => hp' z.1)]
      refine w_iload iL_fiber_104 rfl ?_
      refine w_iload iL_fiber_106 rfl ?_
      refine w_icmpge iL_fiber_108 (fun h_ => absurd h_ (by omega)) (fun h108 => ?_)
      refine w_iload iL_fiber_111 rfl ?_
      refine w_const iL_fiber_113 ?_
      refine w_icmpge iL_fiber_115 (fun h_ => absurd h_ (by omega)) (fun h115 => ?_)
      refine w_aload iL_fiber_118 rfl ?_
      refine w_iload iL_fiber_119 rfl ?_
      refine w_aload iL_fiber_121 rfl ?_
      refine w_iload iL_fiber_122 rfl ?_
      refine w_const iL_fiber_124 ?_
      refine w_o iL_fiber_125 f7_fiberEntry v7_fiberEntry (o_fiberEntry hp hkm (by omega)) hC rfl rfl rfl rfl (Nat.le_of_ble_eq_true rfl) (by omega) ⟨Nat.le_refl _, Nat.le_refl _⟩ (fun v1 S1 I1 F1 hq1 hC1 hf1 => ?_)
      obtain ⟨rfl, rfl⟩ := hq1
      refine w_iast iL_fiber_128 sL64 (by omega) ?_
      have hCa := hC1.up (p := 64) (i := (k : Int)) (x := fy (gM S1.1) (gC S1.1) (gY S1.1) k 0) (by decide)
      have ga : ∀ a, 62 ≤ a → a ≠ 64 → upF F1 64 k (fy (gM S1.1) (gC S1.1) (gY S1.1) k 0) a = F a := fun a ha hp' => by
        rw [← hf1 a ha]; funext j; simp only [upF]; rw [if_neg (fun z => hp' z.1)]
      have ga4 : ∀ j, upF F1 64 k (fy (gM S1.1) (gC S1.1) (gY S1.1) k 0) 64 j = if j = (k : Int) then fy (gM S1.1) (gC S1.1) (gY S1.1) k 0 else F 64 j := fun j => by
        simp only [upF, true_and]; rw [hf1 64 (by decide)]
      generalize upF F1 64 k (fy (gM S1.1) (gC S1.1) (gY S1.1) k 0) = Fa at hCa ga ga4 ⊢
      refine w_aload iL_fiber_129 rfl ?_
      refine w_iload iL_fiber_131 rfl ?_
      refine w_aload iL_fiber_133 rfl ?_
      refine w_const iL_fiber_134 ?_
      refine w_iald iL_fiber_135 sL62 (by omega) ?_
      rw [e621 (ga 62 (by decide) (by decide))]
      refine w_const iL_fiber_136 ?_
      refine w_icmple iL_fiber_137 (fun h_ => absurd h_ (by omega)) (fun h137 => ?_)
      refine w_aload iL_fiber_140 rfl ?_
      refine w_iload iL_fiber_141 rfl ?_
      refine w_const iL_fiber_143 ?_
      refine w_o iL_fiber_144 f7_fiberEntry v7_fiberEntry (o_fiberEntry hp hkm (by omega)) hCa rfl rfl rfl rfl (Nat.le_of_ble_eq_true rfl) (by omega) ⟨Nat.le_refl _, Nat.le_refl _⟩ (fun v2 S2 I2 F2 hq2 hC2 hf2 => ?_)
      obtain ⟨rfl, rfl⟩ := hq2
      refine w_goto iL_fiber_147 ?_
      refine w_iast iL_fiber_151 sL65 (by omega) ?_
      have hCb := hC2.up (p := 65) (i := (k : Int)) (x := fy (gM S2.1) (gC S2.1) (gY S2.1) k 1) (by decide)
      have gb : ∀ a, 62 ≤ a → a ≠ 65 → upF F2 65 k (fy (gM S2.1) (gC S2.1) (gY S2.1) k 1) a = Fa a := fun a ha hp' => by
        rw [← hf2 a ha]; funext j; simp only [upF]; rw [if_neg (fun z => hp' z.1)]
      have gb5 : ∀ j, upF F2 65 k (fy (gM S2.1) (gC S2.1) (gY S2.1) k 1) 65 j = if j = (k : Int) then fy (gM S2.1) (gC S2.1) (gY S2.1) k 1 else F 65 j := fun j => by
        simp only [upF, true_and]; rw [hf2 65 (by decide), ga 65 (by decide) (by decide)]
      generalize upF F2 65 k (fy (gM S2.1) (gC S2.1) (gY S2.1) k 1) = Fb at hCb gb gb5 ⊢
      -- behind the third and the fourth entry
      have c197 : ∀ (v : Int) (I4 : IE) (F4 : FE), CI S2 I4 F4 → (∀ a, 62 ≤ a → a ≠ 66 → F4 a = Fb a) → (∀ j, F4 66 j = if j = (k : Int) then fy (gM S2.1) (gC S2.1) (gY S2.1) k 2 else F 66 j) → v = fy (gM S2.1) (gC S2.1) (gY S2.1) k 3 → WS mL_fiber d 0 0 n0 Q 0 0 197 [lr 0, lr 62, lr 63, lr 64, lr 65, lr 66, lr 67, li s, li t, li m, li own, li k, x12, x13] [.inl v, .inl (k : Int), .inr (some 67)] shL I4 F4 := fun v I4 F4 c4 g4 g46 hv => by
        subst hv
        refine w_iast iL_fiber_197 sL67 (by omega) ?_
        have g62 : F4 62 = G 62 := by rw [g4 62 (by decide) (by decide), gb 62 (by decide) (by decide), ga 62 (by decide) (by decide), f2]
        have g63 : F4 63 = G 63 := by rw [g4 63 (by decide) (by decide), gb 63 (by decide) (by decide), ga 63 (by decide) (by decide), f3]
        refine c198 _ _ _ _ (c4.up (by decide)) ?_ ?_ (fun i hi => ?_)
        · rw [← g62]; funext j; simp only [upF]; rw [if_neg (by omega)]
        · rw [← g63]; funext j; simp only [upF]; rw [if_neg (by omega)]
        · have u : ∀ a, a ≠ 67 → upF F4 67 k (fy (gM S2.1) (gC S2.1) (gY S2.1) k 3) a i = F4 a i := fun a ha => by simp only [upF]; rw [if_neg (fun z => ha z.1)]
          have u7 : upF F4 67 k (fy (gM S2.1) (gC S2.1) (gY S2.1) k 3) 67 i = if i = (k : Int) then fy (gM S2.1) (gC S2.1) (gY S2.1) k 3 else F 67 i := by
            simp only [upF, true_and]; rw [g4 67 (by decide) (by decide), gb 67 (by decide) (by decide), ga 67 (by decide) (by decide)]
          rw [u 64 (by decide), u 65 (by decide), u 66 (by decide), u7, g4 64 (by decide) (by decide), gb 64 (by decide) (by decide), ga4, g4 65 (by decide) (by decide), gb5, g46]
          by_cases e : i = (k : Int)
          · rw [if_pos e, if_pos e, if_pos e, if_pos e, e]; exact ⟨rfl, rfl, rfl, rfl⟩
          · rw [if_neg e, if_neg e, if_neg e, if_neg e]; exact hR i (by omega)
      have c174 : ∀ (v : Int) (I3 : IE) (F3 : FE), CI S2 I3 F3 → (∀ a, 62 ≤ a → F3 a = Fb a) → v = fy (gM S2.1) (gC S2.1) (gY S2.1) k 2 → WS mL_fiber d 0 0 n0 Q 0 0 174 [lr 0, lr 62, lr 63, lr 64, lr 65, lr 66, lr 67, li s, li t, li m, li own, li k, x12, x13] [.inl v, .inl (k : Int), .inr (some 66)] shL I3 F3 := fun v I3 F3 c3 g3 hv => by
        subst hv
        refine w_iast iL_fiber_174 sL66 (by omega) ?_
        have hCc := c3.up (p := 66) (i := (k : Int)) (x := fy (gM S2.1) (gC S2.1) (gY S2.1) k 2) (by decide)
        have gc : ∀ a, 62 ≤ a → a ≠ 66 → upF F3 66 k (fy (gM S2.1) (gC S2.1) (gY S2.1) k 2) a = Fb a := fun a ha hp' => by
          rw [← g3 a ha]; funext j; simp only [upF]; rw [if_neg (fun z => hp' z.1)]
        have gc6 : ∀ j, upF F3 66 k (fy (gM S2.1) (gC S2.1) (gY S2.1) k 2) 66 j = if j = (k : Int) then fy (gM S2.1) (gC S2.1) (gY S2.1) k 2 else F 66 j := fun j => by
          simp only [upF, true_and]; rw [g3 66 (by decide), gb 66 (by decide) (by decide), ga 66 (by decide) (by decide)]
        generalize upF F3 66 k (fy (gM S2.1) (gC S2.1) (gY S2.1) k 2) = Fc at hCc gc gc6 ⊢
        have ec : Fc 62 1 = gC S2.1 := e621 (by rw [gc 62 (by decide) (by decide), gb 62 (by decide) (by decide), ga 62 (by decide) (by decide)])
        by_cases hn3 : gC S2.1 ≤ 3
        · refine w_aload iL_fiber_175 rfl ?_
          refine w_iload iL_fiber_177 rfl ?_
          refine w_aload iL_fiber_179 rfl ?_
          refine w_const iL_fiber_180 ?_
          refine w_iald iL_fiber_181 sL62 (by omega) ?_
          refine w_const iL_fiber_182 ?_
          rw [ec]
          refine w_icmple iL_fiber_183 (fun _ => ?_) (fun h_ => absurd h_ (by omega))
          refine w_const iL_fiber_196 ?_
          exact c197 _ _ _ hCc gc gc6 (rz 3 (by omega)).symm
        · refine w_aload iL_fiber_175 rfl ?_
          refine w_iload iL_fiber_177 rfl ?_
          refine w_aload iL_fiber_179 rfl ?_
          refine w_const iL_fiber_180 ?_
          refine w_iald iL_fiber_181 sL62 (by omega) ?_
          refine w_const iL_fiber_182 ?_
          rw [ec]
          refine w_icmple iL_fiber_183 (fun h_ => absurd h_ (by omega)) (fun _ => ?_)
          refine w_aload iL_fiber_186 rfl ?_
          refine w_iload iL_fiber_187 rfl ?_
          refine w_const iL_fiber_189 ?_
          refine w_o iL_fiber_190 f7_fiberEntry v7_fiberEntry (o_fiberEntry hp hkm (by omega)) hCc rfl rfl rfl rfl (Nat.le_of_ble_eq_true rfl) (by omega) ⟨Nat.le_refl _, Nat.le_refl _⟩ (fun v4 S4 I4 F4 hq4 hC4 hf4 => ?_)
          obtain ⟨rfl, rfl⟩ := hq4
          refine w_goto iL_fiber_193 ?_
          exact c197 _ _ _ hC4 (fun a ha hp' => (hf4 a ha).trans (gc a ha hp')) (fun j => by rw [hf4 66 (by decide)]; exact gc6 j) rfl
      refine w_aload iL_fiber_152 rfl ?_
      refine w_iload iL_fiber_154 rfl ?_
      refine w_aload iL_fiber_156 rfl ?_
      refine w_const iL_fiber_157 ?_
      refine w_iald iL_fiber_158 sL62 (by omega) ?_
      rw [e621 (F1 := Fb) (by rw [gb 62 (by decide) (by decide), ga 62 (by decide) (by decide)])]
      refine w_const iL_fiber_159 ?_
      refine w_icmple iL_fiber_160 (fun h160 => ?_) (fun h160 => ?_)
      · refine w_const iL_fiber_173 ?_
        first
        | exact c174 _ _ _ hC3 hf3 rfl
        | exact c174 _ _ _ hCb (fun _ _ => rfl) (rz 2 (by omega)).symm
        | show 2 = 3
      · refine w_aload iL_fiber_163 rfl ?_
        refine w_iload iL_fiber_164 rfl ?_
        refine w_const iL_fiber_166 ?_
        refine w_o iL_fiber_167 f7_fiberEntry v7_fiberEntry (o_fiberEntry hp hkm (by omega)) hCb rfl rfl rfl rfl (Nat.le_of_ble_eq_true rfl) (by omega) ⟨Nat.le_refl _, Nat.le_refl _⟩ (fun v3 S3 I3 F3 hq3 hC3 hf3 => ?_)
        obtain ⟨rfl, rfl⟩ := hq3
        refine w_goto iL_fiber_170 ?_
        first
        | exact c174 _ _ _ hC3 hf3 rfl
        | exact c174 _ _ _ hCb (fun _ _ => rfl) (rz 2 (by omega)).symm
        | show 2 = 3
theorem sL_fiber {d : Nat} {S : Sx} {I : IE} {F : FE} (hd : 8 ≤ d) (hC : CI S I F) (h : FP S F) : MB mL_fiber d shL [rv 0, rv 62, rv 63, rv 64, rv 65, rv 66, rv 67] I F (fun v I' F' => CI S I' F' ∧ 0 ≤ v ∧ F' 62 = F 62 ∧ F' 63 = F 63 ∧ (fbm (gM S.1) (gC S.1) (gY S.1) ≤ 64 → v = ixo (gM S.1) (gC S.1) (gY S.1) (gY S.1) ∧ RwF S (fbm (gM S.1) (gC S.1) (gY S.1)) F')) := by
  have hS := h.1
  have hp := h.2.2.1
  have hn := hS.1.2.1
  have hA := h.2.1.a3 hS
  have h621 := h.2.1.2.1
  have p0 := h.2.2.2.2.1 0 (by decide); have p1 := h.2.2.2.2.1 1 (by decide); have p2 := h.2.2.2.2.1 2 (by decide); have p3 := h.2.2.2.2.1 3 (by decide)
  have hcn := h.cn
  have hm0 := h.fib.1
  dsimp only at hm0
  have st0 := h.st (r := 0) (by decide)
  have st1 := h.st (r := 1) (by decide)
  generalize hs : pdt F 0 (F 63 0) (F 63 1) (F 63 2) (F 63 3) = s at *
  generalize ht : pdt F 1 (F 63 0) (F 63 1) (F 63 2) (F 63 3) = t at *
  refine MS_of (ls := [lr 0, lr 62, lr 63, lr 64, lr 65, lr 66, lr 67, lu, lu, lu, lu, lu, lu, lu]) fL_fiber rfl rfl (Nat.le_of_ble_eq_true rfl) ?_
  refine w_aload iL_fiber_0 rfl ?_
  refine w_const iL_fiber_1 ?_
  refine w_aload iL_fiber_2 rfl ?_
  refine w_const iL_fiber_3 ?_
  refine w_iald iL_fiber_4 sL63 (by omega) ?_
  refine w_aload iL_fiber_5 rfl ?_
  refine w_const iL_fiber_6 ?_
  refine w_iald iL_fiber_7 sL63 (by omega) ?_
  refine w_aload iL_fiber_8 rfl ?_
  refine w_const iL_fiber_9 ?_
  refine w_iald iL_fiber_10 sL63 (by omega) ?_
  refine w_aload iL_fiber_11 rfl ?_
  refine w_const iL_fiber_12 ?_
  refine w_iald iL_fiber_13 sL63 (by omega) ?_
  refine w_cSR iL_fiber_14 fL_product vL_product (sL_product (by decide) hA (by omega) (by omega) (by omega) (by omega)) rfl rfl (Nat.le_of_ble_eq_true rfl) (by omega) ?_
  rw [hs]
  refine w_is7 iL_fiber_17 ?_
  refine w_aload iL_fiber_19 rfl ?_
  refine w_const iL_fiber_20 ?_
  refine w_aload iL_fiber_21 rfl ?_
  refine w_const iL_fiber_22 ?_
  refine w_iald iL_fiber_23 sL63 (by omega) ?_
  refine w_aload iL_fiber_24 rfl ?_
  refine w_const iL_fiber_25 ?_
  refine w_iald iL_fiber_26 sL63 (by omega) ?_
  refine w_aload iL_fiber_27 rfl ?_
  refine w_const iL_fiber_28 ?_
  refine w_iald iL_fiber_29 sL63 (by omega) ?_
  refine w_aload iL_fiber_30 rfl ?_
  refine w_const iL_fiber_31 ?_
  refine w_iald iL_fiber_32 sL63 (by omega) ?_
  refine w_cSR iL_fiber_33 fL_product vL_product (sL_product (by decide) hA (by omega) (by omega) (by omega) (by omega)) rfl rfl (Nat.le_of_ble_eq_true rfl) (by omega) ?_
  rw [ht]
  refine w_is8 iL_fiber_36 ?_
  refine w_aload iL_fiber_38 rfl ?_
  refine w_o iL_fiber_39 f7_fiberSize v7_fiberSize (o_fiberSize hp) hC rfl rfl rfl rfl (Nat.le_of_ble_eq_true rfl) (by omega) ⟨Nat.le_refl _, Nat.le_refl _⟩ (fun v1 S1 I1 F1 hq1 hC1 hf1 => ?_)
  obtain ⟨rfl, rfl⟩ := hq1
  have g2 : F1 62 = F 62 := hf1 62 (by decide)
  have g3 : F1 63 = F 63 := hf1 63 (by decide)
  have hcn1 : CN F1 (gC S1.1) s t (if 2 < gC S1.1 then 40 else 0) (if 3 < gC S1.1 then 40 else 0) := by unfold CN A3 PosF at *; rw [g2]; exact hcn
  refine w_is9 iL_fiber_42 ?_
  refine w_const iL_fiber_44 ?_
  refine w_is10 iL_fiber_45 ?_
  refine w_iload iL_fiber_47 rfl ?_
  refine w_aload iL_fiber_49 rfl ?_
  refine w_iload iL_fiber_50 rfl ?_
  refine w_iload iL_fiber_52 rfl ?_
  refine w_cSP iL_fiber_54 fL_count vL_count (sL_count (by omega) (by rw [g2]; exact h621) hcn1) rfl rfl (Nat.le_of_ble_eq_true rfl) (by omega) (fun c hc => ?_)
  have ec : c = fbm (gM S1.1) (gC S1.1) (gY S1.1) := (h.f g2 g3).2.1.lcf h.1 hp st0 st1 hc
  subst ec
  refine w_icmpne iL_fiber_57 (fun h_ => absurd h_ (fun z => z rfl)) (fun h57 => ?_)
  refine w_aload iL_fiber_60 rfl ?_
  refine w_iload iL_fiber_61 rfl ?_
  refine w_const iL_fiber_63 ?_
  refine w_o iL_fiber_64 f7_fiberEntry v7_fiberEntry (o_fiberEntryN hp ⟨hm0, Int.le_refl _⟩ (by omega)) hC1 rfl rfl rfl rfl (Nat.le_of_ble_eq_true rfl) (by omega) ⟨Nat.le_refl _, Nat.le_refl _⟩ (fun v2 S2 I2 F2 hq2 hC2 hf2 => ?_)
  obtain ⟨rfl, rfl⟩ := hq2
  refine w_const iL_fiber_67 ?_
  refine w_icmpne iL_fiber_70 (fun h_ => absurd h_ (fun z => z rfl)) (fun h70 => ?_)
  refine w_aload iL_fiber_73 rfl ?_
  refine w_const iL_fiber_74 ?_
  refine w_const iL_fiber_75 ?_
  refine w_o iL_fiber_76 f7_fiberEntry v7_fiberEntry (o_fiberEntryI (by omega)) hC2 rfl rfl rfl rfl (Nat.le_of_ble_eq_true rfl) (by omega) ⟨Nat.le_refl _, Nat.le_refl _⟩ (fun v3 S3 I3 F3 hq3 hC3 hf3 => ?_)
  obtain ⟨rfl, rfl⟩ := hq3
  refine w_const iL_fiber_79 ?_
  refine w_icmpne iL_fiber_82 (fun h_ => absurd h_ (fun z => z rfl)) (fun h82 => ?_)
  refine w_aload iL_fiber_85 rfl ?_
  refine w_const iL_fiber_86 ?_
  refine w_aload iL_fiber_87 rfl ?_
  refine w_const iL_fiber_88 ?_
  refine w_iald iL_fiber_89 sL62 (by omega) ?_
  rw [hf3 62 (by decide), hf2 62 (by decide), g2, h621]
  refine w_o iL_fiber_90 f7_fiberEntry v7_fiberEntry (o_fiberEntryI (by omega)) hC3 rfl rfl rfl rfl (Nat.le_of_ble_eq_true rfl) (by omega) ⟨Nat.le_refl _, Nat.le_refl _⟩ (fun v4 S4 I4 F4 hq4 hC4 hf4 => ?_)
  obtain ⟨rfl, rfl⟩ := hq4
  refine w_const iL_fiber_93 ?_
  refine w_icmpeq iL_fiber_96 (fun h96 => ?_) (fun h_ => absurd h_ (fun z => z rfl))
  refine w_const iL_fiber_101 ?_
  refine w_is11 iL_fiber_102 ?_
  have k2 : F4 62 = F 62 := by rw [hf4 62 (by decide), hf3 62 (by decide), hf2 62 (by decide), g2]
  have k3 : F4 63 = F 63 := by rw [hf4 63 (by decide), hf3 63 (by decide), hf2 63 (by decide), g3]
  refine lL_fiber hd (h.f k2 k3) (by rw [pdt_f k2, k3]; exact hs.symm) (by rw [pdt_f k2, k3]; exact ht.symm) rfl (fun x12 x13 k own I5 F5 a0 a1 a2 a3 a4 a5 a6 a7 => ?_) (fbm (gM S4.1) (gC S4.1) (gY S4.1)).toNat 0 _ _ _ I4 F4 (by omega) hC4 rfl rfl (fun i hi => absurd hi (by omega)) (by have := (h.f k2 k3).own.1; rw [if_neg (by omega)])
  have hown := h.own.1
  refine w_iload iL_fiber_478 rfl ?_
  refine w_const iL_fiber_480 ?_
  refine w_icmple iL_fiber_482 (fun h482 => ?_) (fun h482 => ?_)
  · refine w_iload iL_fiber_490 rfl ?_
    refine w_iret iL_fiber_492 (Or.inl rfl) ⟨Nat.le_refl _, Nat.le_refl _⟩ ?_
    first
    | (refine ⟨rfl, _, rfl, ⟨a3, ?_, by rw [a4, k2], by rw [a5, k3], fun hle => ?_⟩⟩
       · rw [a7, if_pos (by omega)]; exact hown.1
       · have ek : k = fbm (gM S4.1) (gC S4.1) (gY S4.1) := by omega
         rw [a7, if_pos (by omega)]
         rw [ek] at a6
         exact ⟨rfl, a6⟩)
    | exact ⟨rfl, _, rfl, ⟨a3, by decide, by rw [a4, k2], by rw [a5, k3], fun hle => absurd hle (by omega)⟩⟩
    | show 2 = 3
  · refine w_const iL_fiber_485 ?_
    refine w_goto iL_fiber_487 ?_
    refine w_iret iL_fiber_492 (Or.inl rfl) ⟨Nat.le_refl _, Nat.le_refl _⟩ ?_
    first
    | (refine ⟨rfl, _, rfl, ⟨a3, ?_, by rw [a4, k2], by rw [a5, k3], fun hle => ?_⟩⟩
       · rw [a7, if_pos (by omega)]; exact hown.1
       · have ek : k = fbm (gM S4.1) (gC S4.1) (gY S4.1) := by omega
         rw [a7, if_pos (by omega)]
         rw [ek] at a6
         exact ⟨rfl, a6⟩)
    | exact ⟨rfl, _, rfl, ⟨a3, by decide, by rw [a4, k2], by rw [a5, k3], fun hle => absurd hle (by omega)⟩⟩
    | show 2 = 3
