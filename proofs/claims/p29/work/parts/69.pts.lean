noncomputable def NP (a b c d : Nat) : Bool := Nat.ble (N4c b d a c (5 * (b / 4 + d / 4 + a / 4 + c / 4)) (5 * (b % 4 + d % 4 + a % 4 + c % 4))) 2048
theorem np_all : srtA NP = true := by decide +kernel
def Fp4 (a b c d : Nat) : Prop := AtM (F4q (a / 4) (a % 4) (b / 4) (b % 4) (c / 4) (c % 4) (d / 4) (d % 4) (5 * (a / 4) + 5 * (b / 4) + 5 * (c / 4) + 5 * (d / 4)) (5 * (a % 4) + 5 * (b % 4) + 5 * (c % 4) + 5 * (d % 4))) 2048
theorem fp4 {a b c d : Nat} (ha : a ≤ 15) (hb : b ≤ 15) (hc : c ≤ 15) (hd : d ≤ 15) : Fp4 a b c d := by
  refine wlog4 (Q := Fp4) (fun a b c d h1 h2 h3 h4 => ?_) (fun a b c d h => ?_) (fun a b c d h => ?_) (fun a b c d h => ?_) ha hb hc hd
  · have h := Nat.le_of_ble_eq_true (srtA_t np_all h1 h2 h3 h4)
    rw [N4c_eq] at h
    refine AtM.map ((F4q.atm _ _ _ _ _ _ _ _ _ _).mono h (fun _ h => h)) (fun z => (z.2.1, z.2.2.2, z.1, z.2.2.1)) (fun y hy => ?_) (fun x y _ _ e => ?_)
    · obtain ⟨⟨q1, q2, q3, q4⟩, q5, q6⟩ := hy
      exact ⟨⟨q2, q4, q1, q3⟩, by dsimp only; omega, by dsimp only; omega⟩
    · have := congrArg (fun z : Nat × Nat × Nat × Nat => (z.2.2.1, z.1, z.2.2.2, z.2.1)) e
      exact this
  · refine AtM.map h sw1 (fun y hy => ?_) (fun x y _ _ e => by have := congrArg sw1 e; exact this)
    obtain ⟨⟨q1, q2, q3, q4⟩, q5, q6⟩ := hy
    exact ⟨⟨q2, q1, q3, q4⟩, by unfold sw1; dsimp only; omega, by unfold sw1; dsimp only; omega⟩
  · refine AtM.map h sw2 (fun y hy => ?_) (fun x y _ _ e => by have := congrArg sw2 e; exact this)
    obtain ⟨⟨q1, q2, q3, q4⟩, q5, q6⟩ := hy
    exact ⟨⟨q1, q3, q2, q4⟩, by unfold sw2; dsimp only; omega, by unfold sw2; dsimp only; omega⟩
  · refine AtM.map h sw3 (fun y hy => ?_) (fun x y _ _ e => by have := congrArg sw3 e; exact this)
    obtain ⟨⟨q1, q2, q3, q4⟩, q5, q6⟩ := hy
    exact ⟨⟨q1, q2, q4, q3⟩, by unfold sw3; dsimp only; omega, by unfold sw3; dsimp only; omega⟩
