theorem s7_save2 {d : Nat} {I : IE} {F : FE} {S : Sx} (hd : 3 ≤ d) (h : CI S I F) : MU m7_save d shX [rv 0] I F (fun I' F' => CI (psh S) I' F' ∧ I' 0 9 = 0 ∧ (∀ a k, 39 ≤ a → I' a k = I a k) ∧ ∀ a, 39 ≤ a → F' a = F a) := by
  obtain ⟨hS, hH, hT, hB, hP⟩ := h
  obtain ⟨h1, h2, h3, h4⟩ := hH
  refine MS_of (ls := [lr 0]) f7_save rfl rfl (Nat.le_of_ble_eq_true rfl) ?_
  refine w_aload i7_save_0 rfl ?_
  refine w_getr i7_save_1 rfl rfl ?_
  refine w_aload i7_save_4 rfl ?_
  refine w_getr i7_save_5 rfl rfl ?_
  refine w_cVU i7_save_8 f3_save v3_save (s3_save (by omega) (by omega) h3) rfl rfl (by decide) rfl rfl (Nat.le_of_ble_eq_true rfl) (by omega) (fun I1 F1 hq => ?_)
  refine w_aload i7_save_11 rfl ?_
  refine w_const i7_save_12 ?_
  refine w_put i7_save_13 rfl rfl (Or.inr ⟨rfl, by omega⟩) ?_
  refine w_vret i7_save_16 rfl ⟨Nat.le_refl _, Nat.le_refl _⟩ ?_
  refine ⟨rfl, rfl, ?_, rfl, ?_⟩
  · obtain ⟨c, o, j, hc, hj, e0, e1, e2, e3, e4, e5, e6, e7⟩ := hq
    exact ci_psh ⟨hS, ⟨h1, h2, h3, h4⟩, hT, hB, hP⟩ hc hj e0 e1 e2 e3 e4 e5 e6 e7
  · obtain ⟨c, o, j, hc, hj, e0, e1, e2, e3, e4, e5, e6, e7⟩ := hq
    have hj8 : j < 8 := by omega
    exact ⟨fun a k ha => by simp only [upI]; rw [if_neg (by omega)]; exact e3 a k (by omega) (by omega), fun a ha => e7 a (by omega) (by omega) (by omega)⟩
theorem prun_ext {c c' : Int → Int} : ∀ n : Nat, (∀ j : Int, 0 ≤ j ∧ j < n → c j = c' j) → prun c n = prun c' n
  | 0, _ => rfl
  | n + 1, h => by
    simp only [prun]
    rw [prun_ext n (fun j hj => h j (by omega)), h n (by omega)]
theorem PErr_ext {c c' : Int → Int} {n : Nat} {v : Int} (h : ∀ j : Int, 0 ≤ j ∧ j < n → c j = c' j) (g : PErr c n v) : PErr c' n v := by
  rcases g with ⟨k, p, g1, g2, g3, g4⟩ | ⟨p, g1, g2⟩ | ⟨p, g1, g2⟩
  · exact Or.inl ⟨k, p, g1, by rw [← prun_ext k (fun j hj => h j (by omega))]; exact g2, by rw [← prun_ext (k + 1) (fun j hj => h j (by omega))]; exact g3, g4⟩
  · exact Or.inr (Or.inl ⟨p, by rw [← prun_ext n h]; exact g1, g2⟩)
  · exact Or.inr (Or.inr ⟨p, by rw [← prun_ext n h]; exact g1, g2⟩)
/-- a matrix of r rows and c columns, out of g; the vector and the point as the columns say; all active -/
noncomputable def newm (S : Sx) (r c : Int) (g : Int → Int) : Sx := (nwm (r, c, fun j => if 0 ≤ j ∧ j < 8 ∧ j % 4 < c ∧ j / 4 < r then g j else 0, if gC S.1 = c then gZ S.1 else fun _ => 0, if gC S.1 = c then gY S.1 else fun _ => 0, gA S.1), S.2)
noncomputable def ldt (S : Sx) (p : PSt) : Sx := ((newm S p.1 p.2.1 p.2.2.2).1, S.2.1, (0, S.2.2.2))
theorem SV_newm {S : Sx} {r c : Int} {g : Int → Int} (h : SV S.1) (hr : 1 ≤ r ∧ r ≤ 2) (hc : 2 ≤ c ∧ c ≤ 4) (hg : ∀ j, 0 ≤ g j ∧ g j ≤ 3) : SV (r, c, (fun j => if 0 ≤ j ∧ j < 8 ∧ j % 4 < c ∧ j / 4 < r then g j else 0), (if gC S.1 = c then gZ S.1 else fun _ => 0), (if gC S.1 = c then gY S.1 else fun _ => 0), gA S.1) := by
  obtain ⟨w1, w2, w3, w4, w5, w6, w7, w8, w9⟩ := h
  refine ⟨hr, hc, fun j => ?_, fun j hj => ?_, fun j => ?_, fun j hj => ?_, fun j => ?_, fun j hj => ?_, w9⟩
  · show 0 ≤ (if 0 ≤ j ∧ j < 8 ∧ j % 4 < c ∧ j / 4 < r then g j else 0) ∧ (if 0 ≤ j ∧ j < 8 ∧ j % 4 < c ∧ j / 4 < r then g j else 0) ≤ 3
    split
    · exact hg j
    · exact ⟨by decide, by decide⟩
  · have hj' : j < 0 ∨ 8 ≤ j ∨ c ≤ j % 4 ∨ r ≤ j / 4 := hj
    exact if_neg (by omega)
  · show -30 ≤ (if gC S.1 = c then gZ S.1 else fun _ => 0) j ∧ (if gC S.1 = c then gZ S.1 else fun _ => 0) j ≤ 30
    split
    · exact w5 j
    · exact ⟨(by decide : (-30 : Int) ≤ 0), (by decide : (0 : Int) ≤ 30)⟩
  · show (if gC S.1 = c then gZ S.1 else fun _ => 0) j = 0
    have hj' : j < 0 ∨ c ≤ j := hj
    split
    · exact w6 j (by show j < 0 ∨ gC S.1 ≤ j; omega)
    · rfl
  · show 0 ≤ (if gC S.1 = c then gY S.1 else fun _ => 0) j ∧ (if gC S.1 = c then gY S.1 else fun _ => 0) j ≤ 5
    split
    · exact w7 j
    · exact ⟨(by decide : (0 : Int) ≤ 0), (by decide : (0 : Int) ≤ 5)⟩
  · show (if gC S.1 = c then gY S.1 else fun _ => 0) j = 0
    have hj' : j < 0 ∨ c ≤ j := hj
    split
    · exact w8 j (by show j < 0 ∨ gC S.1 ≤ j; omega)
    · rfl
theorem s7_loadText {d : Nat} {I : IE} {F : FE} {S : Sx} (hcap : CapB) (hd : 6 ≤ d) (h : CI S I F) : MB m7_loadText d shX [rv 0] I F (fun v I' F' =>
    (∃ w, 0 ≤ w ∧ PErr S.2.2.2 S.2.2.1 w ∧ v = -10 - w ∧ CI S I' F') ∨ ∃ p, prun S.2.2.2 S.2.2.1 = some p ∧ pend p ∧ v = p.1 ∧ CI (ldt (psh S) p) I' F') := by
  obtain ⟨hS, hH, hT, hB, hP⟩ := h
  obtain ⟨t1, t2, t3, t4⟩ := id hT
  have en1 : (I 39 0).toNat = S.2.2.1 := by omega
  have ext : ∀ j : Int, 0 ≤ j ∧ j < (S.2.2.1 : Int) → F 41 j = S.2.2.2 j := t3
  refine MS_of (ls := [lr 0, lu]) f7_loadText rfl rfl (Nat.le_of_ble_eq_true rfl) ?_
  refine w_aload i7_loadText_0 rfl ?_
  refine w_getr i7_loadText_1 rfl rfl ?_
  refine w_cVB i7_loadText_4 f4_findError v4_findError (s4_findError (by omega) (by omega) t4) rfl rfl (by decide) rfl rfl (Nat.le_of_ble_eq_true rfl) (by omega) (fun w I1 F1 hq => ?_)
  obtain ⟨hf, he, hw⟩ := hq
  rw [en1] at he hw
  have hex := PErr_ext ext he
  have hwb : -1 ≤ w ∧ w ≤ 40 := by
    rcases hex with ⟨k, p, g1, g2, g3, g4⟩ | ⟨p, g1, g2, g3⟩ | ⟨p, g1, g2, g3⟩ <;> omega
  have c1 : CI S I1 F1 := ⟨hS.fr (fun k => hf.1 1 k (by decide)) (fun a ha => hf.2.2 a (by omega)), hH.fr (fun a k ha => hf.1 a k (by omega)) (fun a ha => hf.2.2 a (by omega)), hT.fr hf.2.1 (hf.2.2 41 (by decide)), hB.fr (fun k => hf.1 42 k (by decide)) (hf.2.2 43 (by decide)), hP.fr (fun k => hf.1 50 k (by decide)) (hf.1 0 9 (by decide)) (hf.2.2 53 (by decide))⟩
  refine w_is1 i7_loadText_7 ?_
  refine w_iload i7_loadText_8 rfl ?_
  refine w_iflt i7_loadText_9 (fun h9 => ?_) (fun h9 => ?_)
  · refine w_aload i7_loadText_17 rfl ?_
    refine w_cVU i7_loadText_18 f7_save v7_save (s7_save2 (by omega) c1) rfl rfl (by decide) rfl rfl (Nat.le_of_ble_eq_true rfl) (by omega) (fun I2 F2 hq => ?_)
    obtain ⟨⟨t0, tH, tT, tB, tP⟩, h9, sv1, sv2⟩ := hq
    obtain ⟨p, hp1, hp2, hp3, hp4⟩ := hw (by omega)
    have hpk := prun_ok _ hp1
    obtain ⟨r1, r2, r3, r4, r5⟩ := id hp3
    obtain ⟨k1, k2, k3, k4, k5⟩ := id hpk
    have hpe : if p.1 = 1 then 2 ≤ p.2.1 else p.2.1 ≤ p.2.2.1 := hp2
    have hr12 : 1 ≤ p.1 ∧ p.1 ≤ 2 := by omega
    have hc24 : 2 ≤ p.2.1 ∧ p.2.1 ≤ 4 := by
      rcases k1 with ⟨g, -⟩ | ⟨g, g2, -⟩
      · rw [if_pos g] at hpe; omega
      · omega
    have dg0 : ∀ j, 0 ≤ j ∧ j < p.2.1 → F1 40 j = p.2.2.2 j := r4
    have dg1 : p.1 = 2 → ∀ j, 0 ≤ j ∧ j < p.2.1 → F1 40 (4 + j) = p.2.2.2 (4 + j) := fun g j hj => by
      rw [if_neg (by omega)] at hpe
      exact r5 j (by omega)
    have j1 : I2 39 1 = p.1 := by rw [sv1 39 1 (by decide)]; exact r1
    have j2 : I2 39 2 = p.2.1 := by rw [sv1 39 2 (by decide)]; exact hp4
    obtain ⟨v0, s1, s2, s3, s4, s5, s6⟩ := t0
    have v0' := v0
    obtain ⟨w1, w2, w3, w4, w5, w6, w7, w8, w9⟩ := v0'
    refine w_aload i7_loadText_21 rfl ?_
    refine w_getr i7_loadText_22 rfl rfl ?_
    refine w_aload i7_loadText_25 rfl ?_
    refine w_getr i7_loadText_26 rfl rfl ?_
    refine w_get i7_loadText_29 rfl rfl ?_
    refine w_aload i7_loadText_32 rfl ?_
    refine w_getr i7_loadText_33 rfl rfl ?_
    refine w_get i7_loadText_36 rfl rfl ?_
    refine w_cVU i7_loadText_39 f5_reshape v5_reshape s5_reshape rfl rfl (by decide) rfl rfl (Nat.le_of_ble_eq_true rfl) (by omega) (fun I3 F3 hp => ?_)
    obtain ⟨eI, eF⟩ := hp
    rw [j1, j2] at eI
    rw [j2] at eF
    have i0 : I3 1 0 = p.1 := by rw [eI]; simp [upI]
    have i1 : I3 1 1 = p.2.1 := by rw [eI]; simp [upI]
    have ii : ∀ a k, a ≠ 1 → I3 a k = I2 a k := fun a k ha => by rw [eI]; simp only [upI]; rw [if_neg (by omega), if_neg (by omega)]
    refine w_aload i7_loadText_42 rfl ?_
    refine w_getr i7_loadText_43 rfl rfl ?_
    refine w_aload i7_loadText_46 rfl ?_
    refine w_getr i7_loadText_47 rfl rfl ?_
    refine w_getr i7_loadText_50 rfl rfl ?_
    refine w_cVU i7_loadText_53 f5_fillFrom v5_fillFrom (s5_fillFrom (by omega) (by omega) (by omega)) rfl rfl (by decide) rfl rfl (Nat.le_of_ble_eq_true rfl) (by omega) (fun I4 F4 hr => ?_)
    obtain ⟨eI3, eF3⟩ := hr
    have f40 : F3 40 = F1 40 := by
      rw [eF]
      funext j
      have e1 : ¬ ((40 : Nat) = 2) := by decide
      simp only [zf2, e1, false_and, if_false]
      split
      · rw [sv2 40 (by decide)]
      · simp only [zf34, show ¬ ((40 : Nat) = 3 ∨ (40 : Nat) = 4) by decide, false_and, if_false]
        rw [sv2 40 (by decide)]
    have g2 : F4 2 = fun j => if 0 ≤ j ∧ j < 8 ∧ j % 4 < p.2.1 ∧ j / 4 < p.1 then p.2.2.2 j else 0 := by
      funext j
      rw [eF3, i0, i1]
      simp only [ff2, true_and]
      by_cases hj : 0 ≤ j ∧ j < 8
      · by_cases hk : j % 4 < p.2.1 ∧ j / 4 < p.1
        · rw [if_pos (by omega), if_pos (by omega), f40]
          by_cases hj4 : j < 4
          · exact dg0 j (by omega)
          · have := dg1 (by omega) (j - 4) (by omega)
            rw [show 4 + (j - 4) = j by omega] at this
            exact this
        · rw [if_neg (by omega), show (if 0 ≤ j ∧ j < 8 ∧ j % 4 < p.2.1 ∧ j / 4 < p.1 then p.2.2.2 j else 0) = 0 from if_neg (by omega), eF]
          simp only [zf2, true_and]
          rw [if_pos hj]
      · rw [if_neg (by omega), show (if 0 ≤ j ∧ j < 8 ∧ j % 4 < p.2.1 ∧ j / 4 < p.1 then p.2.2.2 j else 0) = 0 from if_neg (by omega), eF]
        simp only [zf2, true_and]
        rw [if_neg hj]
        have e0 : F2 2 j = 0 := by rw [s3]; exact w4 j (by omega)
        split
        · exact e0
        · simp only [zf34]; rw [if_neg (by omega)]; exact e0
    have hne : ∀ a, a ≠ 2 → F4 a = (if I2 1 1 = p.2.1 then F2 else zf34 F2 4) a := fun a ha => by
      rw [eF3, eF]
      funext j
      simp only [ff2, zf2, ha, false_and, if_false]
    have t2' : I2 1 1 = gC S.1 := s2
    rw [t2'] at hne
    have zz : ∀ (a : Nat) (g : Int → Int), a = 3 ∨ a = 4 → F2 a = g → (∀ j, (j < 0 ∨ gC S.1 ≤ j) → g j = 0) → F4 a = if gC S.1 = p.2.1 then g else fun _ => 0 := fun a g ha hg h0 => by
      rw [hne a (by omega)]
      by_cases e : gC S.1 = p.2.1
      · rw [if_pos e, if_pos e]; exact hg
      · rw [if_neg e, if_neg e]
        funext j
        simp only [zf34]
        split
        · rfl
        · rw [hg]; exact h0 j (by have hw : 2 ≤ gC S.1 ∧ gC S.1 ≤ 4 := w2; omega)
    have g3 := zz 3 (gZ S.1) (Or.inl rfl) s4 w6
    have g4 := zz 4 (gY S.1) (Or.inr rfl) s5 w8
    have gn : ∀ a, a ≠ 2 → a ≠ 3 → a ≠ 4 → F4 a = F2 a := fun a h2 h3 h4 => by
      rw [hne a h2]
      split
      · rfl
      · funext j; simp only [zf34, h3, h4, or_self, false_and, if_false]
    have hSV := SV_newm (S := S) (r := p.1) (c := p.2.1) (g := p.2.2.2) v0 hr12 hc24 k5
    refine w_aload i7_loadText_56 rfl ?_
    refine w_cVU i7_loadText_57 f7_takeNewMatrix v7_takeNewMatrix (s7_takeNewMatrix hcap (by omega) hSV (by rw [eI3]; exact i0) (by rw [eI3]; exact i1) g2 g3 g4 (by rw [gn 43 (by decide) (by decide) (by decide)]; exact tB.2.2.1)) rfl rfl (by decide) rfl rfl (Nat.le_of_ble_eq_true rfl) (by omega) (fun I5 F5 hs => ?_)
    refine w_aload i7_loadText_60 rfl ?_
    refine w_getr i7_loadText_61 rfl rfl ?_
    refine w_const i7_loadText_64 ?_
    refine w_put i7_loadText_65 rfl rfl (Or.inl rfl) ?_
    refine w_aload i7_loadText_68 rfl ?_
    refine w_getr i7_loadText_69 rfl rfl ?_
    refine w_get i7_loadText_72 rfl rfl ?_
    refine w_iret i7_loadText_75 (Or.inl rfl) ⟨Nat.le_refl _, Nat.le_refl _⟩ ?_
    refine ⟨rfl, _, rfl, Or.inr ⟨p, by rw [← prun_ext _ ext]; exact hp1, hp2, ?_, ?_⟩⟩
    · obtain ⟨a1, a2, a3, a4⟩ := hs
      have := a1.2.1
      simp only [upI]
      rw [if_neg (by omega)]
      exact this
    · obtain ⟨a1, a2, a3, a4⟩ := hs
      have ii' : ∀ a k, a ≠ 1 → a ≠ 42 → I5 a k = I2 a k := fun a k h1 h2 => by rw [a3 a k h1 h2, eI3, ii a k h1]
      have ff : ∀ a, a ≠ 2 → a ≠ 3 → a ≠ 4 → a ≠ 43 → a ≠ 44 → a ≠ 45 → a ≠ 46 → F5 a = F2 a := fun a h2 h3 h4 h5 h6 h7 h8 => by rw [a4 a h5 h6 h7 h8, gn a h2 h3 h4]
      have u : ∀ a k, a ≠ 39 → upI I5 39 0 0 a k = I5 a k := fun a k ha => by simp only [upI]; rw [if_neg (by omega)]
      exact ⟨CS.fr a1 (fun k => u 1 k (by decide)) (fun _ _ => rfl), tH.fr (fun a k ha => by rw [u a k (by omega), ii' a k (by omega) (by omega)]) (fun a ha => ff a (by omega) (by omega) (by omega) (by omega) (by omega) (by omega) (by omega)), ⟨by simp [upI]; rfl, Nat.zero_le _, fun j hj => absurd hj (by show ¬ (0 ≤ j ∧ j < ((0 : Nat) : Int)); omega), by rw [ff 41 (by decide) (by decide) (by decide) (by decide) (by decide) (by decide) (by decide)]; exact tT.2.2.2⟩, CB.fr a2 (fun k => u 42 k (by decide)) rfl, Or.inl (by rw [u 0 9 (by decide), ii' 0 9 (by decide) (by decide)]; exact h9)⟩
  · refine w_const i7_loadText_12 ?_
    refine w_iload i7_loadText_14 rfl ?_
    refine w_isub i7_loadText_15 (by omega) ?_
    refine w_iret i7_loadText_16 (Or.inl rfl) ⟨Nat.le_refl _, Nat.le_refl _⟩ ?_
    exact ⟨rfl, _, rfl, Or.inl ⟨w, by omega, hex, rfl, c1⟩⟩
