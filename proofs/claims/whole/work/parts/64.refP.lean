def U0 : Shp := [.inr (8, [some none, some none, none, some none, none, none, some none, some none, none, some none, none, some none, some none, some none, none, some none, some none, some none, some none, none, some none])]
def U1 : Shp := [.inr (8, [some (some 1), some none, none, some none, none, none, some none, some none, none, some none, none, some none, some none, some none, none, some none, some none, some none, some none, none, some none]), .inl 178]
theorem b8_0 {d n0 : Nat} {Q : PQ} (hd : 1 ≤ d) (K : WS m8_init d 14 18108 n0 Q 1 178 13 [lr 0] [] U1 Z0 Z1) : WS m8_init d 14 18108 n0 Q 0 0 4 [lr 0] [] U0 Z0 Z1 := by
  refine w_aload i8_init_4 rfl ?_
  refine w_const i8_init_5 ?_
  refine w_newa3 (q := 1) (sh' := U0 ++ [.inl 178]) i8_init_8 (by decide) (fun _ _ => rfl) (by decide) (by decide +kernel) rfl ?_
  exact w_putz3 (a := 0) (r := 1) (sh' := U1) i8_init_10 rfl rfl (fun _ => ⟨rfl, rfl⟩) (by decide +kernel) K
def U2 : Shp := [.inr (8, [some (some 1), some (some 2), none, some none, none, none, some none, some none, none, some none, none, some none, some none, some none, none, some none, some none, some none, some none, none, some none]), .inl 178, .inl 1424]
theorem b8_1 {d n0 : Nat} {Q : PQ} (hd : 1 ≤ d) (K : WS m8_init d 14 18108 n0 Q 2 1602 22 [lr 0] [] U2 Z0 Z1) : WS m8_init d 14 18108 n0 Q 1 178 13 [lr 0] [] U1 Z0 Z1 := by
  refine w_aload i8_init_13 rfl ?_
  refine w_const i8_init_14 ?_
  refine w_newa3 (q := 2) (sh' := U1 ++ [.inl 1424]) i8_init_17 (by decide) (fun _ _ => rfl) (by decide) (by decide +kernel) rfl ?_
  exact w_putz3 (a := 0) (r := 2) (sh' := U2) i8_init_19 rfl rfl (fun _ => ⟨rfl, rfl⟩) (by decide +kernel) K
def U3 : Shp := [.inr (8, [some (some 1), some (some 2), none, some (some 3), none, none, some none, some none, none, some none, none, some none, some none, some none, none, some none, some none, some none, some none, none, some none]), .inl 178, .inl 1424, .inl 40]
theorem b8_2 {d n0 : Nat} {Q : PQ} (hd : 1 ≤ d) (K : WS m8_init d 14 18108 n0 Q 3 1642 30 [lr 0] [] U3 Z0 Z1) : WS m8_init d 14 18108 n0 Q 2 1602 22 [lr 0] [] U2 Z0 Z1 := by
  refine w_aload i8_init_22 rfl ?_
  refine w_const i8_init_23 ?_
  refine w_newa3 (q := 3) (sh' := U2 ++ [.inl 40]) i8_init_25 (by decide) (fun _ _ => rfl) (by decide) (by decide +kernel) rfl ?_
  exact w_putz3 (a := 0) (r := 3) (sh' := U3) i8_init_27 rfl rfl (fun _ => ⟨rfl, rfl⟩) (by decide +kernel) K
def U4 : Shp := [.inr (8, [some (some 1), some (some 2), none, some (some 3), none, none, some (some 4), some none, none, some none, none, some none, some none, some none, none, some none, some none, some none, some none, none, some none]), .inl 178, .inl 1424, .inl 40, .inl 640]
theorem b8_3 {d n0 : Nat} {Q : PQ} (hd : 1 ≤ d) (K : WS m8_init d 14 18108 n0 Q 4 2282 39 [lr 0] [] U4 Z0 Z1) : WS m8_init d 14 18108 n0 Q 3 1642 30 [lr 0] [] U3 Z0 Z1 := by
  refine w_aload i8_init_30 rfl ?_
  refine w_const i8_init_31 ?_
  refine w_newa3 (q := 4) (sh' := U3 ++ [.inl 640]) i8_init_34 (by decide) (fun _ _ => rfl) (by decide) (by decide +kernel) rfl ?_
  exact w_putz3 (a := 0) (r := 4) (sh' := U4) i8_init_36 rfl rfl (fun _ => ⟨rfl, rfl⟩) (by decide +kernel) K
def U5 : Shp := [.inr (8, [some (some 1), some (some 2), none, some (some 3), none, none, some (some 4), some (some 5), none, some none, none, some none, some none, some none, none, some none, some none, some none, some none, none, some none]), .inl 178, .inl 1424, .inl 40, .inl 640, .inl 3200]
theorem b8_4 {d n0 : Nat} {Q : PQ} (hd : 1 ≤ d) (K : WS m8_init d 14 18108 n0 Q 5 5482 48 [lr 0] [] U5 Z0 Z1) : WS m8_init d 14 18108 n0 Q 4 2282 39 [lr 0] [] U4 Z0 Z1 := by
  refine w_aload i8_init_39 rfl ?_
  refine w_const i8_init_40 ?_
  refine w_newa3 (q := 5) (sh' := U4 ++ [.inl 3200]) i8_init_43 (by decide) (fun _ _ => rfl) (by decide) (by decide +kernel) rfl ?_
  exact w_putz3 (a := 0) (r := 5) (sh' := U5) i8_init_45 rfl rfl (fun _ => ⟨rfl, rfl⟩) (by decide +kernel) K
def U6 : Shp := [.inr (8, [some (some 1), some (some 2), none, some (some 3), none, none, some (some 4), some (some 5), none, some (some 6), none, some none, some none, some none, none, some none, some none, some none, some none, none, some none]), .inl 178, .inl 1424, .inl 40, .inl 640, .inl 3200, .inl 4]
theorem b8_5 {d n0 : Nat} {Q : PQ} (hd : 1 ≤ d) (K : WS m8_init d 14 18108 n0 Q 6 5486 55 [lr 0] [] U6 Z0 Z1) : WS m8_init d 14 18108 n0 Q 5 5482 48 [lr 0] [] U5 Z0 Z1 := by
  refine w_aload i8_init_48 rfl ?_
  refine w_const i8_init_49 ?_
  refine w_newa3 (q := 6) (sh' := U5 ++ [.inl 4]) i8_init_50 (by decide) (fun _ _ => rfl) (by decide) (by decide +kernel) rfl ?_
  exact w_putz3 (a := 0) (r := 6) (sh' := U6) i8_init_52 rfl rfl (fun _ => ⟨rfl, rfl⟩) (by decide +kernel) K
def U7 : Shp := [.inr (8, [some (some 1), some (some 2), none, some (some 3), none, none, some (some 4), some (some 5), none, some (some 6), none, some (some 7), some none, some none, none, some none, some none, some none, some none, none, some none]), .inl 178, .inl 1424, .inl 40, .inl 640, .inl 3200, .inl 4, .inl 2]
theorem b8_6 {d n0 : Nat} {Q : PQ} (hd : 1 ≤ d) (K : WS m8_init d 14 18108 n0 Q 7 5488 62 [lr 0] [] U7 Z0 Z1) : WS m8_init d 14 18108 n0 Q 6 5486 55 [lr 0] [] U6 Z0 Z1 := by
  refine w_aload i8_init_55 rfl ?_
  refine w_const i8_init_56 ?_
  refine w_newa3 (q := 7) (sh' := U6 ++ [.inl 2]) i8_init_57 (by decide) (fun _ _ => rfl) (by decide) (by decide +kernel) rfl ?_
  exact w_putz3 (a := 0) (r := 7) (sh' := U7) i8_init_59 rfl rfl (fun _ => ⟨rfl, rfl⟩) (by decide +kernel) K
def U8 : Shp := [.inr (8, [some (some 1), some (some 2), none, some (some 3), none, none, some (some 4), some (some 5), none, some (some 6), none, some (some 7), some (some 8), some none, none, some none, some none, some none, some none, none, some none]), .inl 178, .inl 1424, .inl 40, .inl 640, .inl 3200, .inl 4, .inl 2, .inl 8]
theorem b8_7 {d n0 : Nat} {Q : PQ} (hd : 1 ≤ d) (K : WS m8_init d 14 18108 n0 Q 8 5496 70 [lr 0] [] U8 Z0 Z1) : WS m8_init d 14 18108 n0 Q 7 5488 62 [lr 0] [] U7 Z0 Z1 := by
  refine w_aload i8_init_62 rfl ?_
  refine w_const i8_init_63 ?_
  refine w_newa3 (q := 8) (sh' := U7 ++ [.inl 8]) i8_init_65 (by decide) (fun _ _ => rfl) (by decide) (by decide +kernel) rfl ?_
  exact w_putz3 (a := 0) (r := 8) (sh' := U8) i8_init_67 rfl rfl (fun _ => ⟨rfl, rfl⟩) (by decide +kernel) K
def U9 : Shp := [.inr (8, [some (some 1), some (some 2), none, some (some 3), none, none, some (some 4), some (some 5), none, some (some 6), none, some (some 7), some (some 8), some (some 9), none, some none, some none, some none, some none, none, some none]), .inl 178, .inl 1424, .inl 40, .inl 640, .inl 3200, .inl 4, .inl 2, .inl 8, .inl 8400]
theorem b8_8 {d n0 : Nat} {Q : PQ} (hd : 1 ≤ d) (K : WS m8_init d 14 18108 n0 Q 9 13896 79 [lr 0] [] U9 Z0 Z1) : WS m8_init d 14 18108 n0 Q 8 5496 70 [lr 0] [] U8 Z0 Z1 := by
  refine w_aload i8_init_70 rfl ?_
  refine w_const i8_init_71 ?_
  refine w_newa3 (q := 9) (sh' := U8 ++ [.inl 8400]) i8_init_74 (by decide) (fun _ _ => rfl) (by decide) (by decide +kernel) rfl ?_
  exact w_putz3 (a := 0) (r := 9) (sh' := U9) i8_init_76 rfl rfl (fun _ => ⟨rfl, rfl⟩) (by decide +kernel) K
def U10 : Shp := [.inr (8, [some (some 1), some (some 2), none, some (some 3), none, none, some (some 4), some (some 5), none, some (some 6), none, some (some 7), some (some 8), some (some 9), none, some (some 10), some none, some none, some none, none, some none]), .inl 178, .inl 1424, .inl 40, .inl 640, .inl 3200, .inl 4, .inl 2, .inl 8, .inl 8400, .inl 4]
theorem b8_9 {d n0 : Nat} {Q : PQ} (hd : 1 ≤ d) (K : WS m8_init d 14 18108 n0 Q 10 13900 86 [lr 0] [] U10 Z0 Z1) : WS m8_init d 14 18108 n0 Q 9 13896 79 [lr 0] [] U9 Z0 Z1 := by
  refine w_aload i8_init_79 rfl ?_
  refine w_const i8_init_80 ?_
  refine w_newa3 (q := 10) (sh' := U9 ++ [.inl 4]) i8_init_81 (by decide) (fun _ _ => rfl) (by decide) (by decide +kernel) rfl ?_
  exact w_putz3 (a := 0) (r := 10) (sh' := U10) i8_init_83 rfl rfl (fun _ => ⟨rfl, rfl⟩) (by decide +kernel) K
def U11 : Shp := [.inr (8, [some (some 1), some (some 2), none, some (some 3), none, none, some (some 4), some (some 5), none, some (some 6), none, some (some 7), some (some 8), some (some 9), none, some (some 10), some (some 11), some none, some none, none, some none]), .inl 178, .inl 1424, .inl 40, .inl 640, .inl 3200, .inl 4, .inl 2, .inl 8, .inl 8400, .inl 4, .inl 4]
theorem b8_10 {d n0 : Nat} {Q : PQ} (hd : 1 ≤ d) (K : WS m8_init d 14 18108 n0 Q 11 13904 93 [lr 0] [] U11 Z0 Z1) : WS m8_init d 14 18108 n0 Q 10 13900 86 [lr 0] [] U10 Z0 Z1 := by
  refine w_aload i8_init_86 rfl ?_
  refine w_const i8_init_87 ?_
  refine w_newa3 (q := 11) (sh' := U10 ++ [.inl 4]) i8_init_88 (by decide) (fun _ _ => rfl) (by decide) (by decide +kernel) rfl ?_
  exact w_putz3 (a := 0) (r := 11) (sh' := U11) i8_init_90 rfl rfl (fun _ => ⟨rfl, rfl⟩) (by decide +kernel) K
def U12 : Shp := [.inr (8, [some (some 1), some (some 2), none, some (some 3), none, none, some (some 4), some (some 5), none, some (some 6), none, some (some 7), some (some 8), some (some 9), none, some (some 10), some (some 11), some (some 12), some none, none, some none]), .inl 178, .inl 1424, .inl 40, .inl 640, .inl 3200, .inl 4, .inl 2, .inl 8, .inl 8400, .inl 4, .inl 4, .inl 2100]
theorem b8_11 {d n0 : Nat} {Q : PQ} (hd : 1 ≤ d) (K : WS m8_init d 14 18108 n0 Q 12 16004 102 [lr 0] [] U12 Z0 Z1) : WS m8_init d 14 18108 n0 Q 11 13904 93 [lr 0] [] U11 Z0 Z1 := by
  refine w_aload i8_init_93 rfl ?_
  refine w_const i8_init_94 ?_
  refine w_newa3 (q := 12) (sh' := U11 ++ [.inl 2100]) i8_init_97 (by decide) (fun _ _ => rfl) (by decide) (by decide +kernel) rfl ?_
  exact w_putz3 (a := 0) (r := 12) (sh' := U12) i8_init_99 rfl rfl (fun _ => ⟨rfl, rfl⟩) (by decide +kernel) K
def U13 : Shp := [.inr (8, [some (some 1), some (some 2), none, some (some 3), none, none, some (some 4), some (some 5), none, some (some 6), none, some (some 7), some (some 8), some (some 9), none, some (some 10), some (some 11), some (some 12), some (some 13), none, some none]), .inl 178, .inl 1424, .inl 40, .inl 640, .inl 3200, .inl 4, .inl 2, .inl 8, .inl 8400, .inl 4, .inl 4, .inl 2100, .inl 2100]
theorem b8_12 {d n0 : Nat} {Q : PQ} (hd : 1 ≤ d) (K : WS m8_init d 14 18108 n0 Q 13 18104 111 [lr 0] [] U13 Z0 Z1) : WS m8_init d 14 18108 n0 Q 12 16004 102 [lr 0] [] U12 Z0 Z1 := by
  refine w_aload i8_init_102 rfl ?_
  refine w_const i8_init_103 ?_
  refine w_newa3 (q := 13) (sh' := U12 ++ [.inl 2100]) i8_init_106 (by decide) (fun _ _ => rfl) (by decide) (by decide +kernel) rfl ?_
  exact w_putz3 (a := 0) (r := 13) (sh' := U13) i8_init_108 rfl rfl (fun _ => ⟨rfl, rfl⟩) (by decide +kernel) K
def U14 : Shp := [.inr (8, [some (some 1), some (some 2), none, some (some 3), none, none, some (some 4), some (some 5), none, some (some 6), none, some (some 7), some (some 8), some (some 9), none, some (some 10), some (some 11), some (some 12), some (some 13), none, some (some 14)]), .inl 178, .inl 1424, .inl 40, .inl 640, .inl 3200, .inl 4, .inl 2, .inl 8, .inl 8400, .inl 4, .inl 4, .inl 2100, .inl 2100, .inl 4]
theorem b8_13 {d n0 : Nat} {Q : PQ} (hd : 1 ≤ d) (K : WS m8_init d 14 18108 n0 Q 14 18108 118 [lr 0] [] U14 Z0 Z1) : WS m8_init d 14 18108 n0 Q 13 18104 111 [lr 0] [] U13 Z0 Z1 := by
  refine w_aload i8_init_111 rfl ?_
  refine w_const i8_init_112 ?_
  refine w_newa3 (q := 14) (sh' := U13 ++ [.inl 4]) i8_init_113 (by decide) (fun _ _ => rfl) (by decide) (by decide +kernel) rfl ?_
  exact w_putz3 (a := 0) (r := 14) (sh' := U14) i8_init_115 rfl rfl (fun _ => ⟨rfl, rfl⟩) (by decide +kernel) K
theorem SV00 : SV (1, 3, (fun j => if 0 ≤ j ∧ j < 8 ∧ j % 4 < 3 ∧ j / 4 < 1 then 1 else 0), (fun _ => 0), (fun _ => 0), fun _ => 0) := by
  refine ⟨⟨by decide, by decide⟩, ⟨by decide, by decide⟩, fun j => ?_, fun j hj => ?_, fun j => ⟨(by decide : (-30 : Int) ≤ 0), (by decide : (0 : Int) ≤ 30)⟩, fun j _ => rfl, fun j => ⟨(by decide : (0 : Int) ≤ 0), (by decide : (0 : Int) ≤ 5)⟩, fun j _ => rfl, fun k => Or.inl rfl⟩
  · show 0 ≤ (if 0 ≤ j ∧ j < 8 ∧ j % 4 < 3 ∧ j / 4 < 1 then (1 : Int) else 0) ∧ (if 0 ≤ j ∧ j < 8 ∧ j % 4 < 3 ∧ j / 4 < 1 then (1 : Int) else 0) ≤ 3
    split <;> omega
  · have hj' : j < 0 ∨ 8 ≤ j ∨ 3 ≤ j % 4 ∨ 1 ≤ j / 4 := hj
    exact if_neg (by omega)
theorem r_begin0 {d : Nat} (hG : CapG) (hB : BndG) (hd : 8 ≤ d) : MU m8_begin d shM [rv 0, iv 1, iv 3] Z0 Z1 (fun I' F' => DS S00.1 F' ∧ DB S00.1 I' F' ∧ (∀ a k, (a ≠ 0 ∨ (k ≠ 5 ∧ k ≠ 8)) → I' a k = 0) ∧ ∀ a, a ≠ 1 → a ≠ 4 → a ≠ 5 → a ≠ 6 → F' a = fun _ => 0) := by
  refine MS_of (ls := [lr 0, li 1, li 3, lu]) f8_begin rfl rfl (Nat.le_of_ble_eq_true rfl) ?_
  refine w_iload i8_begin_0 rfl ?_
  refine w_aload i8_begin_1 rfl ?_
  refine w_getr i8_begin_2 rfl rfl ?_
  refine w_const i8_begin_5 ?_
  refine w_iald i8_begin_6 rfl (by omega) ?_
  refine w_icmpeq i8_begin_7 (fun h_ => absurd h_ (by decide)) (fun h7 => ?_)
  refine w_const i8_begin_10 ?_
  refine w_is3 i8_begin_11 ?_
  refine lr_bg1 (F := Z1) (fun x F1 p1 p2 p3 => ?_) 4 0 Z1 (by omega) (fun j hj => absurd hj (by omega)) (fun _ _ => rfl) (fun _ _ => rfl)
  have z1 : ∀ j, F1 1 j = 0 := fun j => by
    by_cases c : 10 ≤ j ∧ j < 18
    · exact p1 j c
    · rw [p2 j c]
  refine w_aload i8_begin_43 rfl ?_
  refine w_getr i8_begin_44 rfl rfl ?_
  refine w_const i8_begin_47 ?_
  refine w_iload i8_begin_48 rfl ?_
  refine w_iast i8_begin_49 rfl (by omega) ?_
  refine w_aload i8_begin_50 rfl ?_
  refine w_getr i8_begin_51 rfl rfl ?_
  refine w_const i8_begin_54 ?_
  refine w_iload i8_begin_55 rfl ?_
  refine w_iast i8_begin_56 rfl (by omega) ?_
  refine w_const i8_begin_57 ?_
  refine w_is3 i8_begin_58 ?_
  refine lr_bg2 (by decide) (by decide) (fun F2 q1 q2 q3 => ?_) 8 0 _ (by omega) (fun j hj => absurd hj (by omega)) (fun _ _ => rfl) (fun _ _ => rfl)
  have e0 : F2 1 0 = 1 := by rw [q2 0 (by decide)]; simp [upF]
  have e1 : F2 1 1 = 3 := by rw [q2 1 (by decide)]; simp [upF]
  have e2 : ∀ j, 10 ≤ j → F2 1 j = 0 := fun j hj => by rw [q2 j (by omega)]; simp only [upF, true_and]; rw [if_neg (by omega), if_neg (by omega)]; exact z1 j
  refine w_aload i8_begin_98 rfl ?_
  refine w_cVU i8_begin_99 f8_changed v8_changed (r_changed hG hB (by omega) SV00 e0 e1 q1 (fun j hj => e2 _ (by omega)) (fun j hj => e2 _ (by omega))) rfl rfl (by decide) rfl rfl (Nat.le_of_ble_eq_true rfl) (by omega) (fun I3 F3 hq => ?_)
  refine w_vret i8_begin_102 rfl ⟨Nat.le_refl _, Nat.le_refl _⟩ ?_
  refine ⟨rfl, rfl, hq.1, hq.2.1, fun a k h => hq.2.2.1 a k h, fun a h1 h2 h3 h4 => ?_⟩
  rw [hq.2.2.2 a h1 h2 h3 h4, q3 a h1]
  funext j
  simp only [upF, h1, false_and, if_false]
  rw [p3 a h1]
theorem r_init {d : Nat} (hG : CapG) (hB : BndG) (hd : 9 ≤ d) : MS m8_init d 14 18108 U0 [rv 0] Z0 Z1 (fun r sh' I' F' => r = none ∧ sh' = shM ∧ DI S00 I' F') := by
  refine MS_of (ls := [lr 0]) f8_init rfl rfl (Nat.le_of_ble_eq_true rfl) ?_
  refine w_aload i8_init_0 rfl ?_
  refine w_obj i8_init_1 (by omega) (Nat.le_of_ble_eq_true rfl) ?_
  refine b8_0 (by omega) (b8_1 (by omega) (b8_2 (by omega) (b8_3 (by omega) (b8_4 (by omega) (b8_5 (by omega) (b8_6 (by omega) (b8_7 (by omega) (b8_8 (by omega) (b8_9 (by omega) (b8_10 (by omega) (b8_11 (by omega) (b8_12 (by omega) (b8_13 (by omega) (?_))))))))))))))
  change WS m8_init d 14 18108 _ _ 14 18108 118 [lr 0] [] shM Z0 Z1
  refine w_aload i8_init_118 rfl ?_
  refine w_const i8_init_119 ?_
  refine w_const i8_init_120 ?_
  refine w_cV i8_init_121 f8_begin v8_begin (r_begin0 hG hB (by omega)) rfl rfl (by decide) rfl rfl (Nat.le_of_ble_eq_true rfl) (by omega) ⟨Nat.le_refl _, Nat.le_refl _⟩ (fun r I1 F1 hq => ?_)
  obtain ⟨rfl, a1, a2, a3, a4⟩ := hq
  exact w_vret i8_init_124 rfl ⟨Nat.le_refl _, Nat.le_refl _⟩ ⟨rfl, rfl, a1, a2, ⟨a3 0 2 (by omega), Nat.zero_le _, fun i hi => absurd hi (Nat.not_lt_zero _)⟩, ⟨a3 0 4 (by omega), Nat.zero_le _, fun j hj => absurd hj (by show ¬ (0 ≤ j ∧ j < ((0 : Nat) : Int)); omega)⟩⟩
