abbrev Z0 : IE := fun _ _ => 0
abbrev Z1 : FE := fun _ _ => 0
section CTORS
variable {μ : MI} {d mc ms n0 kc ks pc n : Nat} {Q : PQ} {ls : List (Option AV)} {st : List AV} {pre l : Shp} {I : IE} {F : FE}
theorem w_newa2 {x : Int} (h : INA μ.2.2.1 pc n) (hx0 : 0 ≤ x ∧ x ≤ 100000) (hz : ∀ a j, F a j = 0) (hcap : kc + 1 ≤ mc ∧ ks + x.toNat ≤ ms)
    (K : WS μ d mc ms n0 Q (kc + 1) (ks + x.toNat) n ls (.inr (some (pre.length + l.length)) :: st) (pre ++ (l ++ [.inl x.toNat])) I F) : WS μ d mc ms n0 Q kc ks pc ls (.inl x :: st) (pre ++ l) I F := by
  refine w_newa h hx0 (fun j => hz _ j) hcap ?_
  rw [List.length_append, List.append_assoc]
  exact K
theorem w_newq2 {x : Int} (h : INQ μ pc n) (hx0 : 0 ≤ x ∧ x ≤ 100000) (hcap : kc + 1 ≤ mc ∧ ks + x.toNat ≤ ms)
    (K : WS μ d mc ms n0 Q (kc + 1) (ks + x.toNat) n ls (.inr (some (pre.length + l.length)) :: st) (pre ++ (l ++ [.inr (50, List.replicate x.toNat (some none))])) I F) : WS μ d mc ms n0 Q kc ks pc ls (.inl x :: st) (pre ++ l) I F := by
  refine w_newq h hx0 hcap ?_
  rw [List.length_append, List.append_assoc]
  exact K
theorem w_new2 {ci : Nat} (h : INW μ pc n ci) (hds : ∀ j, j < NN ci → ∃ s, (dsl ci)[j]? = some s ∧ defaultValue (YY ci j) = sv (fun _ => 0) 0 s ∧ ∀ r, s ≠ some (some r)) (hz : ∀ a k, I a k = 0) (hcap : kc + 1 ≤ mc ∧ ks + NN ci ≤ ms)
    (K : WS μ d mc ms n0 Q (kc + 1) (ks + NN ci) n ls (.inr (some (pre.length + l.length)) :: st) (pre ++ (l ++ [.inr (ci, dsl ci)])) I F) : WS μ d mc ms n0 Q kc ks pc ls st (pre ++ l) I F := by
  refine w_new h hds (fun k => hz _ k) hcap ?_
  rw [List.length_append, List.append_assoc]
  exact K
theorem at_app (j : Nat) : (pre ++ l)[pre.length + j]? = l[j]? := by
  rw [List.getElem?_append_right (Nat.le_add_right _ _), Nat.add_sub_cancel_left]
theorem set_app (j : Nat) (x : Sc) : (pre ++ l).set (pre.length + j) x = pre ++ l.set j x := by
  rw [List.set_append_right _ _ (Nat.le_add_right _ _), Nat.add_sub_cancel_left]
theorem w_putz2 (j : Nat) {ci k : Nat} {sl : List (Option (Option Nat))} {r : Nat} {r0 : Option Nat} (h : IPZ μ pc n ci k) (hs : l[j]? = some (.inr (ci, sl))) (hv : sl[k]? = some (some r0)) (hty : ∀ q, fits (YY ci k) (.ref q) = true ∧ narrow (YY ci k) (.ref q) = .ref q)
    (K : WS μ d mc ms n0 Q kc ks n ls st (pre ++ l.set j (.inr (ci, sl.set k (some (some r))))) I F) : WS μ d mc ms n0 Q kc ks pc ls (.inr (some r) :: .inr (some (pre.length + j)) :: st) (pre ++ l) I F := by
  refine w_putz h (by rw [at_app]; exact hs) hv hty ?_
  rw [set_app]
  exact K
theorem w_aast2 (j q : Nat) {r a : Nat} {sl slv : List (Option (Option Nat))} {i : Int} (hr : r = pre.length + q) (ha : a = pre.length + j) (h : IO μ.2.2.1 pc n .aastore) (hs : l[j]? = some (.inr (50, sl))) (hv : l[q]? = some (.inr (5, slv))) (hi : 0 ≤ i ∧ i < sl.length)
    (K : WS μ d mc ms n0 Q kc ks n ls st (pre ++ l.set j (.inr (50, sl.set i.toNat (some (some (pre.length + q)))))) I F) : WS μ d mc ms n0 Q kc ks pc ls (.inr (some r) :: .inl i :: .inr (some a) :: st) (pre ++ l) I F := by
  subst hr ha
  refine w_aast h (by rw [at_app]; exact hs) (by rw [at_app]; exact hv) hi ?_
  rw [set_app]
  exact K
theorem w_getr2 (j : Nat) {ci k : Nat} {sl : List (Option (Option Nat))} {r : Nat} (h : IGF μ pc n ci k) (hs : l[j]? = some (.inr (ci, sl))) (hv : sl[k]? = some (some (some r)))
    (K : WS μ d mc ms n0 Q kc ks n ls (.inr (some r) :: st) (pre ++ l) I F) : WS μ d mc ms n0 Q kc ks pc ls (.inr (some (pre.length + j)) :: st) (pre ++ l) I F :=
  w_getr h (by rw [at_app]; exact hs) hv K
end CTORS
theorem ds5 : ∀ j, j < NN 5 → ∃ s, (dsl 5)[j]? = some s ∧ defaultValue (YY 5 j) = sv (fun _ => 0) 0 s ∧ ∀ r, s ≠ some (some r) := by
  intro j hj
  have hj' : j < 6 := hj
  rcases (show j = 0 ∨ j = 1 ∨ j = 2 ∨ j = 3 ∨ j = 4 ∨ j = 5 by omega) with rfl | rfl | rfl | rfl | rfl | rfl <;> exact ⟨_, rfl, rfl, fun r h => by cases h⟩
theorem s5_init {d : Nat} {pre : Shp} (hd : 1 ≤ d) : MS m5_init d 3 16 (pre ++ [.inr (5, dsl 5)]) [rv pre.length] Z0 Z1 (fun r sh' I' F' => r = none ∧ sh' = pre ++ (.inr (5, [none, none, some (some (pre.length + 1)), some (some (pre.length + 2)), some (some (pre.length + 3)), none]) :: [.inl 8, .inl 4, .inl 4]) ∧ I' = Z0 ∧ F' = Z1) := by
  refine MS_of (ls := [lr pre.length]) f5_init rfl rfl (Nat.le_of_ble_eq_true rfl) ?_
  refine w_aload i5_init_0 rfl ?_
  refine w_obj i5_init_1 (by omega) (Nat.le_of_ble_eq_true rfl) ?_
  refine w_aload i5_init_4 rfl ?_
  refine w_const i5_init_5 ?_
  refine w_newa2 i5_init_7 (by decide) (fun _ _ => rfl) (by decide) ?_
  refine w_putz2 0 i5_init_9 rfl rfl (fun _ => ⟨rfl, rfl⟩) ?_
  refine w_aload i5_init_12 rfl ?_
  refine w_const i5_init_13 ?_
  refine w_newa2 i5_init_14 (by decide) (fun _ _ => rfl) (by decide) ?_
  refine w_putz2 0 i5_init_16 rfl rfl (fun _ => ⟨rfl, rfl⟩) ?_
  refine w_aload i5_init_19 rfl ?_
  refine w_const i5_init_20 ?_
  refine w_newa2 i5_init_21 (by decide) (fun _ _ => rfl) (by decide) ?_
  refine w_putz2 0 i5_init_23 rfl rfl (fun _ => ⟨rfl, rfl⟩) ?_
  exact w_vret i5_init_26 rfl ⟨Nat.le_of_ble_eq_true rfl, Nat.le_of_ble_eq_true rfl⟩ ⟨rfl, rfl, rfl, rfl⟩
theorem s4_init {d : Nat} {pre : Shp} (hd : 1 ≤ d) : MS m4_init d 2 48 (pre ++ [.inr (4, dsl 4)]) [rv pre.length] Z0 Z1 (fun r sh' I' F' => r = none ∧ sh' = pre ++ (.inr (4, [none, none, none, some (some (pre.length + 1)), some (some (pre.length + 2)), none]) :: [.inl 8, .inl 40]) ∧ I' = Z0 ∧ F' = Z1) := by
  refine MS_of (ls := [lr pre.length]) f4_init rfl rfl (Nat.le_of_ble_eq_true rfl) ?_
  refine w_aload i4_init_0 rfl ?_
  refine w_obj i4_init_1 (by omega) (Nat.le_of_ble_eq_true rfl) ?_
  refine w_aload i4_init_4 rfl ?_
  refine w_const i4_init_5 ?_
  refine w_newa2 i4_init_7 (by decide) (fun _ _ => rfl) (by decide) ?_
  refine w_putz2 0 i4_init_9 rfl rfl (fun _ => ⟨rfl, rfl⟩) ?_
  refine w_aload i4_init_12 rfl ?_
  refine w_const i4_init_13 ?_
  refine w_newa2 i4_init_15 (by decide) (fun _ _ => rfl) (by decide) ?_
  refine w_putz2 0 i4_init_17 rfl rfl (fun _ => ⟨rfl, rfl⟩) ?_
  exact w_vret i4_init_20 rfl ⟨Nat.le_of_ble_eq_true rfl, Nat.le_of_ble_eq_true rfl⟩ ⟨rfl, rfl, rfl, rfl⟩
theorem s2_init {d : Nat} {pre : Shp} (hd : 1 ≤ d) : MS m2_init d 4 264 (pre ++ [.inr (2, dsl 2)]) [rv pre.length] Z0 Z1 (fun r sh' I' F' => r = none ∧ sh' = pre ++ (.inr (2, [none, none, some (some (pre.length + 1)), none, none, none, none, none, none, none, some (some (pre.length + 2)), some (some (pre.length + 3)), some (some (pre.length + 4)), none]) :: [.inl 64, .inl 4, .inl 4, .inl 192]) ∧ I' = Z0 ∧ F' = Z1) := by
  refine MS_of (ls := [lr pre.length]) f2_init rfl rfl (Nat.le_of_ble_eq_true rfl) ?_
  refine w_aload i2_init_0 rfl ?_
  refine w_obj i2_init_1 (by omega) (Nat.le_of_ble_eq_true rfl) ?_
  refine w_aload i2_init_4 rfl ?_
  refine w_const i2_init_5 ?_
  refine w_newa2 i2_init_7 (by decide) (fun _ _ => rfl) (by decide) ?_
  refine w_putz2 0 i2_init_9 rfl rfl (fun _ => ⟨rfl, rfl⟩) ?_
  refine w_aload i2_init_12 rfl ?_
  refine w_const i2_init_13 ?_
  refine w_newa2 i2_init_14 (by decide) (fun _ _ => rfl) (by decide) ?_
  refine w_putz2 0 i2_init_16 rfl rfl (fun _ => ⟨rfl, rfl⟩) ?_
  refine w_aload i2_init_19 rfl ?_
  refine w_const i2_init_20 ?_
  refine w_newa2 i2_init_21 (by decide) (fun _ _ => rfl) (by decide) ?_
  refine w_putz2 0 i2_init_23 rfl rfl (fun _ => ⟨rfl, rfl⟩) ?_
  refine w_aload i2_init_26 rfl ?_
  refine w_const i2_init_27 ?_
  refine w_newa2 i2_init_30 (by decide) (fun _ _ => rfl) (by decide) ?_
  refine w_putz2 0 i2_init_32 rfl rfl (fun _ => ⟨rfl, rfl⟩) ?_
  exact w_vret i2_init_35 rfl ⟨Nat.le_of_ble_eq_true rfl, Nat.le_of_ble_eq_true rfl⟩ ⟨rfl, rfl, rfl, rfl⟩
theorem s0_init {d : Nat} {pre : Shp} (hd : 1 ≤ d) : MS m0_init d 2 124 (pre ++ [.inr (0, dsl 0)]) [rv pre.length] Z0 Z1 (fun r sh' I' F' => r = none ∧ sh' = pre ++ (.inr (0, [none, some (some (pre.length + 1)), some (some (pre.length + 2))]) :: [.inl 120, .inl 4]) ∧ I' = Z0 ∧ F' = Z1) := by
  refine MS_of (ls := [lr pre.length]) f0_init rfl rfl (Nat.le_of_ble_eq_true rfl) ?_
  refine w_aload i0_init_0 rfl ?_
  refine w_obj i0_init_1 (by omega) (Nat.le_of_ble_eq_true rfl) ?_
  refine w_aload i0_init_4 rfl ?_
  refine w_const i0_init_5 ?_
  refine w_newa2 i0_init_7 (by decide) (fun _ _ => rfl) (by decide) ?_
  refine w_putz2 0 i0_init_9 rfl rfl (fun _ => ⟨rfl, rfl⟩) ?_
  refine w_aload i0_init_12 rfl ?_
  refine w_const i0_init_13 ?_
  refine w_newa2 i0_init_14 (by decide) (fun _ _ => rfl) (by decide) ?_
  refine w_putz2 0 i0_init_16 rfl rfl (fun _ => ⟨rfl, rfl⟩) ?_
  exact w_vret i0_init_19 rfl ⟨Nat.le_of_ble_eq_true rfl, Nat.le_of_ble_eq_true rfl⟩ ⟨rfl, rfl, rfl, rfl⟩
theorem s1_initA {d : Nat} {pre : Shp} (hd : 1 ≤ d) : MS m1_init d 3 2056 (pre ++ [.inr (1, dsl 1)]) [rv pre.length, iv 2048] Z0 Z1 (fun r sh' I' F' => r = none ∧ sh' = pre ++ (.inr (1, [none, none, some (some (pre.length + 3)), some (some (pre.length + 1)), some (some (pre.length + 2))]) :: [.inl 4, .inl 4, .inl 2048]) ∧ I' = Z0 ∧ F' = Z1) := by
  refine MS_of (ls := [lr pre.length, li 2048]) f1_init rfl rfl (Nat.le_of_ble_eq_true rfl) ?_
  refine w_aload i1_init_0 rfl ?_
  refine w_obj i1_init_1 (by omega) (Nat.le_of_ble_eq_true rfl) ?_
  refine w_aload i1_init_4 rfl ?_
  refine w_const i1_init_5 ?_
  refine w_newa2 i1_init_6 (by decide) (fun _ _ => rfl) (by decide) ?_
  refine w_putz2 0 i1_init_8 rfl rfl (fun _ => ⟨rfl, rfl⟩) ?_
  refine w_aload i1_init_11 rfl ?_
  refine w_const i1_init_12 ?_
  refine w_newa2 i1_init_13 (by decide) (fun _ _ => rfl) (by decide) ?_
  refine w_putz2 0 i1_init_15 rfl rfl (fun _ => ⟨rfl, rfl⟩) ?_
  refine w_aload i1_init_18 rfl ?_
  refine w_iload i1_init_19 rfl ?_
  refine w_newa2 i1_init_20 (by decide) (fun _ _ => rfl) (by decide) ?_
  refine w_putz2 0 i1_init_22 rfl rfl (fun _ => ⟨rfl, rfl⟩) ?_
  exact w_vret i1_init_25 rfl ⟨Nat.le_of_ble_eq_true rfl, Nat.le_of_ble_eq_true rfl⟩ ⟨rfl, rfl, rfl, rfl⟩
theorem s1_initB {d : Nat} {pre : Shp} (hd : 1 ≤ d) : MS m1_init d 3 40 (pre ++ [.inr (1, dsl 1)]) [rv pre.length, iv 32] Z0 Z1 (fun r sh' I' F' => r = none ∧ sh' = pre ++ (.inr (1, [none, none, some (some (pre.length + 3)), some (some (pre.length + 1)), some (some (pre.length + 2))]) :: [.inl 4, .inl 4, .inl 32]) ∧ I' = Z0 ∧ F' = Z1) := by
  refine MS_of (ls := [lr pre.length, li 32]) f1_init rfl rfl (Nat.le_of_ble_eq_true rfl) ?_
  refine w_aload i1_init_0 rfl ?_
  refine w_obj i1_init_1 (by omega) (Nat.le_of_ble_eq_true rfl) ?_
  refine w_aload i1_init_4 rfl ?_
  refine w_const i1_init_5 ?_
  refine w_newa2 i1_init_6 (by decide) (fun _ _ => rfl) (by decide) ?_
  refine w_putz2 0 i1_init_8 rfl rfl (fun _ => ⟨rfl, rfl⟩) ?_
  refine w_aload i1_init_11 rfl ?_
  refine w_const i1_init_12 ?_
  refine w_newa2 i1_init_13 (by decide) (fun _ _ => rfl) (by decide) ?_
  refine w_putz2 0 i1_init_15 rfl rfl (fun _ => ⟨rfl, rfl⟩) ?_
  refine w_aload i1_init_18 rfl ?_
  refine w_iload i1_init_19 rfl ?_
  refine w_newa2 i1_init_20 (by decide) (fun _ _ => rfl) (by decide) ?_
  refine w_putz2 0 i1_init_22 rfl rfl (fun _ => ⟨rfl, rfl⟩) ?_
  exact w_vret i1_init_25 rfl ⟨Nat.le_of_ble_eq_true rfl, Nat.le_of_ble_eq_true rfl⟩ ⟨rfl, rfl, rfl, rfl⟩
theorem s6_init {d : Nat} {pre : Shp} (hd : 1 ≤ d) : MS m6_init d 2 4096 (pre ++ [.inr (6, dsl 6)]) [rv pre.length] Z0 Z1 (fun r sh' I' F' => r = none ∧ sh' = pre ++ (.inr (6, [some (some (pre.length + 1)), some (some (pre.length + 2)), none]) :: [.inl 2048, .inl 2048]) ∧ I' = Z0 ∧ F' = Z1) := by
  refine MS_of (ls := [lr pre.length]) f6_init rfl rfl (Nat.le_of_ble_eq_true rfl) ?_
  refine w_aload i6_init_0 rfl ?_
  refine w_obj i6_init_1 (by omega) (Nat.le_of_ble_eq_true rfl) ?_
  refine w_aload i6_init_4 rfl ?_
  refine w_const i6_init_5 ?_
  refine w_newa2 i6_init_8 (by decide) (fun _ _ => rfl) (by decide) ?_
  refine w_putz2 0 i6_init_10 rfl rfl (fun _ => ⟨rfl, rfl⟩) ?_
  refine w_aload i6_init_13 rfl ?_
  refine w_const i6_init_14 ?_
  refine w_newa2 i6_init_17 (by decide) (fun _ _ => rfl) (by decide) ?_
  refine w_putz2 0 i6_init_19 rfl rfl (fun _ => ⟨rfl, rfl⟩) ?_
  exact w_vret i6_init_22 rfl ⟨Nat.le_of_ble_eq_true rfl, Nat.le_of_ble_eq_true rfl⟩ ⟨rfl, rfl, rfl, rfl⟩
theorem s5_init2 {d : Nat} {pre l : Shp} (hd : 1 ≤ d) : MS m5_init d 3 16 (pre ++ (l ++ [.inr (5, dsl 5)])) [rv (pre.length + l.length)] Z0 Z1 (fun r sh' I' F' => r = none ∧ sh' = pre ++ (l ++ (.inr (5, [none, none, some (some (pre.length + l.length + 1)), some (some (pre.length + l.length + 2)), some (some (pre.length + l.length + 3)), none]) :: [.inl 8, .inl 4, .inl 4])) ∧ I' = Z0 ∧ F' = Z1) := by
  have h := s5_init (pre := pre ++ l) hd
  simp only [List.length_append, List.append_assoc] at h
  exact h
theorem s3_init {d : Nat} {pre : Shp} (hd : 3 ≤ d) : MS m3_init d 33 184 (pre ++ [.inr (3, dsl 3)]) [rv pre.length] Z0 Z1 (fun r sh' I' F' => r = none ∧ sh' = pre ++ (.inr (3, [none, none, some (some (pre.length + 1))]) :: .inr (50, [some (some (pre.length + 2)), some (some (pre.length + 6)), some (some (pre.length + 10)), some (some (pre.length + 14)), some (some (pre.length + 18)), some (some (pre.length + 22)), some (some (pre.length + 26)), some (some (pre.length + 30))]) :: [.inr (5, [none, none, some (some (pre.length + 3)), some (some (pre.length + 4)), some (some (pre.length + 5)), none]), .inl 8, .inl 4, .inl 4, .inr (5, [none, none, some (some (pre.length + 7)), some (some (pre.length + 8)), some (some (pre.length + 9)), none]), .inl 8, .inl 4, .inl 4, .inr (5, [none, none, some (some (pre.length + 11)), some (some (pre.length + 12)), some (some (pre.length + 13)), none]), .inl 8, .inl 4, .inl 4, .inr (5, [none, none, some (some (pre.length + 15)), some (some (pre.length + 16)), some (some (pre.length + 17)), none]), .inl 8, .inl 4, .inl 4, .inr (5, [none, none, some (some (pre.length + 19)), some (some (pre.length + 20)), some (some (pre.length + 21)), none]), .inl 8, .inl 4, .inl 4, .inr (5, [none, none, some (some (pre.length + 23)), some (some (pre.length + 24)), some (some (pre.length + 25)), none]), .inl 8, .inl 4, .inl 4, .inr (5, [none, none, some (some (pre.length + 27)), some (some (pre.length + 28)), some (some (pre.length + 29)), none]), .inl 8, .inl 4, .inl 4, .inr (5, [none, none, some (some (pre.length + 31)), some (some (pre.length + 32)), some (some (pre.length + 33)), none]), .inl 8, .inl 4, .inl 4]) ∧ I' = Z0 ∧ F' = Z1) := by
  refine MS_of (ls := [lr pre.length, lu]) f3_init rfl rfl (Nat.le_of_ble_eq_true rfl) ?_
  refine w_aload i3_init_0 rfl ?_
  refine w_obj i3_init_1 (by omega) (Nat.le_of_ble_eq_true rfl) ?_
  refine w_aload i3_init_4 rfl ?_
  refine w_const i3_init_5 ?_
  refine w_newq2 i3_init_7 (by decide) (by decide) ?_
  refine w_putz2 0 i3_init_10 rfl rfl (fun _ => ⟨rfl, rfl⟩) ?_
  refine w_const i3_init_13 ?_
  refine w_is1 i3_init_14 ?_
  refine w_iload i3_init_15 rfl ?_
  refine w_const i3_init_16 ?_
  refine w_icmpge i3_init_18 (fun h_ => absurd h_ (by decide)) (fun _ => ?_)
  refine w_aload i3_init_21 rfl ?_
  refine w_getr2 0 i3_init_22 rfl rfl ?_
  refine w_iload i3_init_25 rfl ?_
  refine w_new2 i3_init_26 ds5 (fun _ _ => rfl) (by decide) ?_
  refine w_dup i3_init_29 ?_
  refine w_callN (as := []) i3_init_30 (List.mem_of_getElem? (i := 1) rfl) f5_init v5_init rfl (s5_init2 (d := 1) (by omega)) rfl rfl (Nat.le_of_ble_eq_true rfl) (by omega) (by decide) ?_
  rintro r sh1 I1 F1 ⟨rfl, rfl, rfl, rfl⟩
  refine w_aast2 (pre := pre) 1 2 rfl rfl i3_init_33 rfl rfl (show (0 : Int) ≤ (0 : Int) ∧ (0 : Int) < ((8 : Nat) : Int) from by decide) ?_
  refine w_ii1 i3_init_34 (by decide) ?_
  change WS m3_init d 33 184 _ _ 5 30 37 [lr pre.length, li 1] [] (pre ++ [.inr (3, [none, none, some (some (pre.length + 1))]), .inr (50, [some (some (pre.length + 2)), some none, some none, some none, some none, some none, some none, some none]), .inr (5, [none, none, some (some (pre.length + 3)), some (some (pre.length + 4)), some (some (pre.length + 5)), none]), .inl 8, .inl 4, .inl 4]) Z0 Z1
  refine w_goto i3_init_37 ?_
  refine w_iload i3_init_15 rfl ?_
  refine w_const i3_init_16 ?_
  refine w_icmpge i3_init_18 (fun h_ => absurd h_ (by decide)) (fun _ => ?_)
  refine w_aload i3_init_21 rfl ?_
  refine w_getr2 0 i3_init_22 rfl rfl ?_
  refine w_iload i3_init_25 rfl ?_
  refine w_new2 i3_init_26 ds5 (fun _ _ => rfl) (by decide) ?_
  refine w_dup i3_init_29 ?_
  refine w_callN (as := []) i3_init_30 (List.mem_of_getElem? (i := 1) rfl) f5_init v5_init rfl (s5_init2 (d := 1) (by omega)) rfl rfl (Nat.le_of_ble_eq_true rfl) (by omega) (by decide) ?_
  rintro r sh1 I1 F1 ⟨rfl, rfl, rfl, rfl⟩
  refine w_aast2 (pre := pre) 1 6 rfl rfl i3_init_33 rfl rfl (show (0 : Int) ≤ (1 : Int) ∧ (1 : Int) < ((8 : Nat) : Int) from by decide) ?_
  refine w_ii1 i3_init_34 (by decide) ?_
  change WS m3_init d 33 184 _ _ 9 52 37 [lr pre.length, li 2] [] (pre ++ [.inr (3, [none, none, some (some (pre.length + 1))]), .inr (50, [some (some (pre.length + 2)), some (some (pre.length + 6)), some none, some none, some none, some none, some none, some none]), .inr (5, [none, none, some (some (pre.length + 3)), some (some (pre.length + 4)), some (some (pre.length + 5)), none]), .inl 8, .inl 4, .inl 4, .inr (5, [none, none, some (some (pre.length + 7)), some (some (pre.length + 8)), some (some (pre.length + 9)), none]), .inl 8, .inl 4, .inl 4]) Z0 Z1
  refine w_goto i3_init_37 ?_
  refine w_iload i3_init_15 rfl ?_
  refine w_const i3_init_16 ?_
  refine w_icmpge i3_init_18 (fun h_ => absurd h_ (by decide)) (fun _ => ?_)
  refine w_aload i3_init_21 rfl ?_
  refine w_getr2 0 i3_init_22 rfl rfl ?_
  refine w_iload i3_init_25 rfl ?_
  refine w_new2 i3_init_26 ds5 (fun _ _ => rfl) (by decide) ?_
  refine w_dup i3_init_29 ?_
  refine w_callN (as := []) i3_init_30 (List.mem_of_getElem? (i := 1) rfl) f5_init v5_init rfl (s5_init2 (d := 1) (by omega)) rfl rfl (Nat.le_of_ble_eq_true rfl) (by omega) (by decide) ?_
  rintro r sh1 I1 F1 ⟨rfl, rfl, rfl, rfl⟩
  refine w_aast2 (pre := pre) 1 10 rfl rfl i3_init_33 rfl rfl (show (0 : Int) ≤ (2 : Int) ∧ (2 : Int) < ((8 : Nat) : Int) from by decide) ?_
  refine w_ii1 i3_init_34 (by decide) ?_
  change WS m3_init d 33 184 _ _ 13 74 37 [lr pre.length, li 3] [] (pre ++ [.inr (3, [none, none, some (some (pre.length + 1))]), .inr (50, [some (some (pre.length + 2)), some (some (pre.length + 6)), some (some (pre.length + 10)), some none, some none, some none, some none, some none]), .inr (5, [none, none, some (some (pre.length + 3)), some (some (pre.length + 4)), some (some (pre.length + 5)), none]), .inl 8, .inl 4, .inl 4, .inr (5, [none, none, some (some (pre.length + 7)), some (some (pre.length + 8)), some (some (pre.length + 9)), none]), .inl 8, .inl 4, .inl 4, .inr (5, [none, none, some (some (pre.length + 11)), some (some (pre.length + 12)), some (some (pre.length + 13)), none]), .inl 8, .inl 4, .inl 4]) Z0 Z1
  refine w_goto i3_init_37 ?_
  refine w_iload i3_init_15 rfl ?_
  refine w_const i3_init_16 ?_
  refine w_icmpge i3_init_18 (fun h_ => absurd h_ (by decide)) (fun _ => ?_)
  refine w_aload i3_init_21 rfl ?_
  refine w_getr2 0 i3_init_22 rfl rfl ?_
  refine w_iload i3_init_25 rfl ?_
  refine w_new2 i3_init_26 ds5 (fun _ _ => rfl) (by decide) ?_
  refine w_dup i3_init_29 ?_
  refine w_callN (as := []) i3_init_30 (List.mem_of_getElem? (i := 1) rfl) f5_init v5_init rfl (s5_init2 (d := 1) (by omega)) rfl rfl (Nat.le_of_ble_eq_true rfl) (by omega) (by decide) ?_
  rintro r sh1 I1 F1 ⟨rfl, rfl, rfl, rfl⟩
  refine w_aast2 (pre := pre) 1 14 rfl rfl i3_init_33 rfl rfl (show (0 : Int) ≤ (3 : Int) ∧ (3 : Int) < ((8 : Nat) : Int) from by decide) ?_
  refine w_ii1 i3_init_34 (by decide) ?_
  change WS m3_init d 33 184 _ _ 17 96 37 [lr pre.length, li 4] [] (pre ++ [.inr (3, [none, none, some (some (pre.length + 1))]), .inr (50, [some (some (pre.length + 2)), some (some (pre.length + 6)), some (some (pre.length + 10)), some (some (pre.length + 14)), some none, some none, some none, some none]), .inr (5, [none, none, some (some (pre.length + 3)), some (some (pre.length + 4)), some (some (pre.length + 5)), none]), .inl 8, .inl 4, .inl 4, .inr (5, [none, none, some (some (pre.length + 7)), some (some (pre.length + 8)), some (some (pre.length + 9)), none]), .inl 8, .inl 4, .inl 4, .inr (5, [none, none, some (some (pre.length + 11)), some (some (pre.length + 12)), some (some (pre.length + 13)), none]), .inl 8, .inl 4, .inl 4, .inr (5, [none, none, some (some (pre.length + 15)), some (some (pre.length + 16)), some (some (pre.length + 17)), none]), .inl 8, .inl 4, .inl 4]) Z0 Z1
  refine w_goto i3_init_37 ?_
  refine w_iload i3_init_15 rfl ?_
  refine w_const i3_init_16 ?_
  refine w_icmpge i3_init_18 (fun h_ => absurd h_ (by decide)) (fun _ => ?_)
  refine w_aload i3_init_21 rfl ?_
  refine w_getr2 0 i3_init_22 rfl rfl ?_
  refine w_iload i3_init_25 rfl ?_
  refine w_new2 i3_init_26 ds5 (fun _ _ => rfl) (by decide) ?_
  refine w_dup i3_init_29 ?_
  refine w_callN (as := []) i3_init_30 (List.mem_of_getElem? (i := 1) rfl) f5_init v5_init rfl (s5_init2 (d := 1) (by omega)) rfl rfl (Nat.le_of_ble_eq_true rfl) (by omega) (by decide) ?_
  rintro r sh1 I1 F1 ⟨rfl, rfl, rfl, rfl⟩
  refine w_aast2 (pre := pre) 1 18 rfl rfl i3_init_33 rfl rfl (show (0 : Int) ≤ (4 : Int) ∧ (4 : Int) < ((8 : Nat) : Int) from by decide) ?_
  refine w_ii1 i3_init_34 (by decide) ?_
  change WS m3_init d 33 184 _ _ 21 118 37 [lr pre.length, li 5] [] (pre ++ [.inr (3, [none, none, some (some (pre.length + 1))]), .inr (50, [some (some (pre.length + 2)), some (some (pre.length + 6)), some (some (pre.length + 10)), some (some (pre.length + 14)), some (some (pre.length + 18)), some none, some none, some none]), .inr (5, [none, none, some (some (pre.length + 3)), some (some (pre.length + 4)), some (some (pre.length + 5)), none]), .inl 8, .inl 4, .inl 4, .inr (5, [none, none, some (some (pre.length + 7)), some (some (pre.length + 8)), some (some (pre.length + 9)), none]), .inl 8, .inl 4, .inl 4, .inr (5, [none, none, some (some (pre.length + 11)), some (some (pre.length + 12)), some (some (pre.length + 13)), none]), .inl 8, .inl 4, .inl 4, .inr (5, [none, none, some (some (pre.length + 15)), some (some (pre.length + 16)), some (some (pre.length + 17)), none]), .inl 8, .inl 4, .inl 4, .inr (5, [none, none, some (some (pre.length + 19)), some (some (pre.length + 20)), some (some (pre.length + 21)), none]), .inl 8, .inl 4, .inl 4]) Z0 Z1
  refine w_goto i3_init_37 ?_
  refine w_iload i3_init_15 rfl ?_
  refine w_const i3_init_16 ?_
  refine w_icmpge i3_init_18 (fun h_ => absurd h_ (by decide)) (fun _ => ?_)
  refine w_aload i3_init_21 rfl ?_
  refine w_getr2 0 i3_init_22 rfl rfl ?_
  refine w_iload i3_init_25 rfl ?_
  refine w_new2 i3_init_26 ds5 (fun _ _ => rfl) (by decide) ?_
  refine w_dup i3_init_29 ?_
  refine w_callN (as := []) i3_init_30 (List.mem_of_getElem? (i := 1) rfl) f5_init v5_init rfl (s5_init2 (d := 1) (by omega)) rfl rfl (Nat.le_of_ble_eq_true rfl) (by omega) (by decide) ?_
  rintro r sh1 I1 F1 ⟨rfl, rfl, rfl, rfl⟩
  refine w_aast2 (pre := pre) 1 22 rfl rfl i3_init_33 rfl rfl (show (0 : Int) ≤ (5 : Int) ∧ (5 : Int) < ((8 : Nat) : Int) from by decide) ?_
  refine w_ii1 i3_init_34 (by decide) ?_
  change WS m3_init d 33 184 _ _ 25 140 37 [lr pre.length, li 6] [] (pre ++ [.inr (3, [none, none, some (some (pre.length + 1))]), .inr (50, [some (some (pre.length + 2)), some (some (pre.length + 6)), some (some (pre.length + 10)), some (some (pre.length + 14)), some (some (pre.length + 18)), some (some (pre.length + 22)), some none, some none]), .inr (5, [none, none, some (some (pre.length + 3)), some (some (pre.length + 4)), some (some (pre.length + 5)), none]), .inl 8, .inl 4, .inl 4, .inr (5, [none, none, some (some (pre.length + 7)), some (some (pre.length + 8)), some (some (pre.length + 9)), none]), .inl 8, .inl 4, .inl 4, .inr (5, [none, none, some (some (pre.length + 11)), some (some (pre.length + 12)), some (some (pre.length + 13)), none]), .inl 8, .inl 4, .inl 4, .inr (5, [none, none, some (some (pre.length + 15)), some (some (pre.length + 16)), some (some (pre.length + 17)), none]), .inl 8, .inl 4, .inl 4, .inr (5, [none, none, some (some (pre.length + 19)), some (some (pre.length + 20)), some (some (pre.length + 21)), none]), .inl 8, .inl 4, .inl 4, .inr (5, [none, none, some (some (pre.length + 23)), some (some (pre.length + 24)), some (some (pre.length + 25)), none]), .inl 8, .inl 4, .inl 4]) Z0 Z1
  refine w_goto i3_init_37 ?_
  refine w_iload i3_init_15 rfl ?_
  refine w_const i3_init_16 ?_
  refine w_icmpge i3_init_18 (fun h_ => absurd h_ (by decide)) (fun _ => ?_)
  refine w_aload i3_init_21 rfl ?_
  refine w_getr2 0 i3_init_22 rfl rfl ?_
  refine w_iload i3_init_25 rfl ?_
  refine w_new2 i3_init_26 ds5 (fun _ _ => rfl) (by decide) ?_
  refine w_dup i3_init_29 ?_
  refine w_callN (as := []) i3_init_30 (List.mem_of_getElem? (i := 1) rfl) f5_init v5_init rfl (s5_init2 (d := 1) (by omega)) rfl rfl (Nat.le_of_ble_eq_true rfl) (by omega) (by decide) ?_
  rintro r sh1 I1 F1 ⟨rfl, rfl, rfl, rfl⟩
  refine w_aast2 (pre := pre) 1 26 rfl rfl i3_init_33 rfl rfl (show (0 : Int) ≤ (6 : Int) ∧ (6 : Int) < ((8 : Nat) : Int) from by decide) ?_
  refine w_ii1 i3_init_34 (by decide) ?_
  change WS m3_init d 33 184 _ _ 29 162 37 [lr pre.length, li 7] [] (pre ++ [.inr (3, [none, none, some (some (pre.length + 1))]), .inr (50, [some (some (pre.length + 2)), some (some (pre.length + 6)), some (some (pre.length + 10)), some (some (pre.length + 14)), some (some (pre.length + 18)), some (some (pre.length + 22)), some (some (pre.length + 26)), some none]), .inr (5, [none, none, some (some (pre.length + 3)), some (some (pre.length + 4)), some (some (pre.length + 5)), none]), .inl 8, .inl 4, .inl 4, .inr (5, [none, none, some (some (pre.length + 7)), some (some (pre.length + 8)), some (some (pre.length + 9)), none]), .inl 8, .inl 4, .inl 4, .inr (5, [none, none, some (some (pre.length + 11)), some (some (pre.length + 12)), some (some (pre.length + 13)), none]), .inl 8, .inl 4, .inl 4, .inr (5, [none, none, some (some (pre.length + 15)), some (some (pre.length + 16)), some (some (pre.length + 17)), none]), .inl 8, .inl 4, .inl 4, .inr (5, [none, none, some (some (pre.length + 19)), some (some (pre.length + 20)), some (some (pre.length + 21)), none]), .inl 8, .inl 4, .inl 4, .inr (5, [none, none, some (some (pre.length + 23)), some (some (pre.length + 24)), some (some (pre.length + 25)), none]), .inl 8, .inl 4, .inl 4, .inr (5, [none, none, some (some (pre.length + 27)), some (some (pre.length + 28)), some (some (pre.length + 29)), none]), .inl 8, .inl 4, .inl 4]) Z0 Z1
  refine w_goto i3_init_37 ?_
  refine w_iload i3_init_15 rfl ?_
  refine w_const i3_init_16 ?_
  refine w_icmpge i3_init_18 (fun h_ => absurd h_ (by decide)) (fun _ => ?_)
  refine w_aload i3_init_21 rfl ?_
  refine w_getr2 0 i3_init_22 rfl rfl ?_
  refine w_iload i3_init_25 rfl ?_
  refine w_new2 i3_init_26 ds5 (fun _ _ => rfl) (by decide) ?_
  refine w_dup i3_init_29 ?_
  refine w_callN (as := []) i3_init_30 (List.mem_of_getElem? (i := 1) rfl) f5_init v5_init rfl (s5_init2 (d := 1) (by omega)) rfl rfl (Nat.le_of_ble_eq_true rfl) (by omega) (by decide) ?_
  rintro r sh1 I1 F1 ⟨rfl, rfl, rfl, rfl⟩
  refine w_aast2 (pre := pre) 1 30 rfl rfl i3_init_33 rfl rfl (show (0 : Int) ≤ (7 : Int) ∧ (7 : Int) < ((8 : Nat) : Int) from by decide) ?_
  refine w_ii1 i3_init_34 (by decide) ?_
  change WS m3_init d 33 184 _ _ 33 184 37 [lr pre.length, li 8] [] (pre ++ [.inr (3, [none, none, some (some (pre.length + 1))]), .inr (50, [some (some (pre.length + 2)), some (some (pre.length + 6)), some (some (pre.length + 10)), some (some (pre.length + 14)), some (some (pre.length + 18)), some (some (pre.length + 22)), some (some (pre.length + 26)), some (some (pre.length + 30))]), .inr (5, [none, none, some (some (pre.length + 3)), some (some (pre.length + 4)), some (some (pre.length + 5)), none]), .inl 8, .inl 4, .inl 4, .inr (5, [none, none, some (some (pre.length + 7)), some (some (pre.length + 8)), some (some (pre.length + 9)), none]), .inl 8, .inl 4, .inl 4, .inr (5, [none, none, some (some (pre.length + 11)), some (some (pre.length + 12)), some (some (pre.length + 13)), none]), .inl 8, .inl 4, .inl 4, .inr (5, [none, none, some (some (pre.length + 15)), some (some (pre.length + 16)), some (some (pre.length + 17)), none]), .inl 8, .inl 4, .inl 4, .inr (5, [none, none, some (some (pre.length + 19)), some (some (pre.length + 20)), some (some (pre.length + 21)), none]), .inl 8, .inl 4, .inl 4, .inr (5, [none, none, some (some (pre.length + 23)), some (some (pre.length + 24)), some (some (pre.length + 25)), none]), .inl 8, .inl 4, .inl 4, .inr (5, [none, none, some (some (pre.length + 27)), some (some (pre.length + 28)), some (some (pre.length + 29)), none]), .inl 8, .inl 4, .inl 4, .inr (5, [none, none, some (some (pre.length + 31)), some (some (pre.length + 32)), some (some (pre.length + 33)), none]), .inl 8, .inl 4, .inl 4]) Z0 Z1
  refine w_goto i3_init_37 ?_
  refine w_iload i3_init_15 rfl ?_
  refine w_const i3_init_16 ?_
  refine w_icmpge i3_init_18 (fun _ => ?_) (fun h_ => absurd h_ (by decide))
  exact w_vret i3_init_40 rfl ⟨Nat.le_of_ble_eq_true rfl, Nat.le_of_ble_eq_true rfl⟩ ⟨rfl, rfl, rfl, rfl⟩
