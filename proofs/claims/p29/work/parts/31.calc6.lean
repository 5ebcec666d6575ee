theorem s7_save2 {d : Nat} {I : IE} {F : FE} {S : Sx} (hd : 3 ≤ d) (h : CI S I F) : MU m7_save d shX [rv 0] I F (fun I' F' => CI (psh S) I' F' ∧ I' 0 9 = 0 ∧ (∀ a k, 39 ≤ a → I' a k = I a k) ∧ ∀ a, 39 ≤ a → F' a = F a) := by
  obtain ⟨hS, hH, hT, hB, hP⟩ := h
  obtain ⟨h1, h2, h3, h4⟩ := hH
  refine MS_of (ls := [lr 0]) f7_save rfl rfl (Nat.le_of_ble_eq_true rfl) ?_
  refine w_aload i7_save_0 rfl ?_
  refine w_getr i7_save_1 rfl rfl ?_
  refine w_aload i7_save_4 rfl ?_
  refine w_getr i7_save_5 rfl rfl ?_
  refine w_cVU i7_save_8 f3_save v3_save (s3_save (by omega) (by omega) h3) rfl rfl (by decide) rfl rfl (Nat.le_of_ble_eq_true rfl) (by omega) (fun I1 F1 hq => ?_)
  refine w_aload i7_save_11 rfl ?_
  refine w_const i7_save_12 ?_
  refine w_put i7_save_13 rfl rfl (Or.inr ⟨rfl, by omega⟩) ?_
  refine w_vret i7_save_16 rfl ⟨Nat.le_refl _, Nat.le_refl _⟩ ?_
  refine ⟨rfl, rfl, ?_, rfl, ?_⟩
  · obtain ⟨c, o, j, hc, hj, e0, e1, e2, e3, e4, e5, e6, e7⟩ := hq
    exact ci_psh ⟨hS, ⟨h1, h2, h3, h4⟩, hT, hB, hP⟩ hc hj e0 e1 e2 e3 e4 e5 e6 e7
  · obtain ⟨c, o, j, hc, hj, e0, e1, e2, e3, e4, e5, e6, e7⟩ := hq
    have hj8 : j < 8 := by omega
    exact ⟨fun a k ha => by simp only [upI]; rw [if_neg (by omega)]; exact e3 a k (by omega) (by omega), fun a ha => e7 a (by omega) (by omega) (by omega)⟩
theorem prun_ext {c c' : Int → Int} : ∀ n : Nat, (∀ j : Int, 0 ≤ j ∧ j < n → c j = c' j) → prun c n = prun c' n
  | 0, _ => rfl
  | n + 1, h => by
    simp only [prun]
    rw [prun_ext n (fun j hj => h j (by omega)), h n (by omega)]
theorem PErr_ext {c c' : Int → Int} {n : Nat} {v : Int} (h : ∀ j : Int, 0 ≤ j ∧ j < n → c j = c' j) (g : PErr c n v) : PErr c' n v := by
  rcases g with ⟨k, p, g1, g2, g3, g4⟩ | ⟨p, g1, g2⟩ | ⟨p, g1, g2⟩
  · exact Or.inl ⟨k, p, g1, by rw [← prun_ext k (fun j hj => h j (by omega))]; exact g2, by rw [← prun_ext (k + 1) (fun j hj => h j (by omega))]; exact g3, g4⟩
  · exact Or.inr (Or.inl ⟨p, by rw [← prun_ext n h]; exact g1, g2⟩)
  · exact Or.inr (Or.inr ⟨p, by rw [← prun_ext n h]; exact g1, g2⟩)
/-- a matrix of r rows and c columns, out of g; the vector and the point as the columns say; all active -/
noncomputable def newm (S : Sx) (r c : Int) (g : Int → Int) : Sx := (nwm (r, c, fun j => if 0 ≤ j ∧ j < 8 ∧ j % 4 < c ∧ j / 4 < r then g j else 0, if gC S.1 = c then gZ S.1 else fun _ => 0, if gC S.1 = c then gY S.1 else fun _ => 0, gA S.1), S.2)
noncomputable def ldt (S : Sx) (p : PSt) : Sx := ((newm S p.1 p.2.1 p.2.2.2).1, S.2.1, (0, S.2.2.2))
theorem SV_newm {S : Sx} {r c : Int} {g : Int → Int} (h : SV S.1) (hr : 1 ≤ r ∧ r ≤ 2) (hc : 2 ≤ c ∧ c ≤ 4) (hg : ∀ j, 0 ≤ g j ∧ g j ≤ 3) : SV (r, c, (fun j => if 0 ≤ j ∧ j < 8 ∧ j % 4 < c ∧ j / 4 < r then g j else 0), (if gC S.1 = c then gZ S.1 else fun _ => 0), (if gC S.1 = c then gY S.1 else fun _ => 0), gA S.1) := by
  obtain ⟨w1, w2, w3, w4, w5, w6, w7, w8, w9⟩ := h
  refine ⟨hr, hc, fun j => ?_, fun j hj => ?_, fun j => ?_, fun j hj => ?_, fun j => ?_, fun j hj => ?_, w9⟩
  · show 0 ≤ (if 0 ≤ j ∧ j < 8 ∧ j % 4 < c ∧ j / 4 < r then g j else 0) ∧ (if 0 ≤ j ∧ j < 8 ∧ j % 4 < c ∧ j / 4 < r then g j else 0) ≤ 3
    split
    · exact hg j
    · exact ⟨by decide, by decide⟩
  · have hj' : j < 0 ∨ 8 ≤ j ∨ c ≤ j % 4 ∨ r ≤ j / 4 := hj
    exact if_neg (by omega)
  · show -30 ≤ (if gC S.1 = c then gZ S.1 else fun _ => 0) j ∧ (if gC S.1 = c then gZ S.1 else fun _ => 0) j ≤ 30
    split
    · exact w5 j
    · exact ⟨(by decide : (-30 : Int) ≤ 0), (by decide : (0 : Int) ≤ 30)⟩
  · show (if gC S.1 = c then gZ S.1 else fun _ => 0) j = 0
    have hj' : j < 0 ∨ c ≤ j := hj
    split
    · exact w6 j (by show j < 0 ∨ gC S.1 ≤ j; omega)
    · rfl
  · show 0 ≤ (if gC S.1 = c then gY S.1 else fun _ => 0) j ∧ (if gC S.1 = c then gY S.1 else fun _ => 0) j ≤ 5
    split
    · exact w7 j
    · exact ⟨(by decide : (0 : Int) ≤ 0), (by decide : (0 : Int) ≤ 5)⟩
  · show (if gC S.1 = c then gY S.1 else fun _ => 0) j = 0
    have hj' : j < 0 ∨ c ≤ j := hj
    split
    · exact w8 j (by show j < 0 ∨ gC S.1 ≤ j; omega)
    · rfl
