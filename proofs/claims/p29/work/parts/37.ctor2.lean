theorem ds0 : ∀ j, j < NN 0 → ∃ s, (dsl 0)[j]? = some s ∧ defaultValue (YY 0 j) = sv (fun _ => 0) 0 s ∧ ∀ r, s ≠ some (some r) := by
  intro j hj
  have hj' : j < 3 := hj
  rcases (show j = 0 ∨ j = 1 ∨ j = 2 by omega) with rfl | rfl | rfl <;> exact ⟨_, rfl, rfl, fun r h => by cases h⟩
theorem ds1 : ∀ j, j < NN 1 → ∃ s, (dsl 1)[j]? = some s ∧ defaultValue (YY 1 j) = sv (fun _ => 0) 0 s ∧ ∀ r, s ≠ some (some r) := by
  intro j hj
  have hj' : j < 5 := hj
  rcases (show j = 0 ∨ j = 1 ∨ j = 2 ∨ j = 3 ∨ j = 4 by omega) with rfl | rfl | rfl | rfl | rfl <;> exact ⟨_, rfl, rfl, fun r h => by cases h⟩
theorem ds2 : ∀ j, j < NN 2 → ∃ s, (dsl 2)[j]? = some s ∧ defaultValue (YY 2 j) = sv (fun _ => 0) 0 s ∧ ∀ r, s ≠ some (some r) := by
  intro j hj
  have hj' : j < 14 := hj
  rcases (show j = 0 ∨ j = 1 ∨ j = 2 ∨ j = 3 ∨ j = 4 ∨ j = 5 ∨ j = 6 ∨ j = 7 ∨ j = 8 ∨ j = 9 ∨ j = 10 ∨ j = 11 ∨ j = 12 ∨ j = 13 by omega) with rfl | rfl | rfl | rfl | rfl | rfl | rfl | rfl | rfl | rfl | rfl | rfl | rfl | rfl <;> exact ⟨_, rfl, rfl, fun r h => by cases h⟩
theorem ds3 : ∀ j, j < NN 3 → ∃ s, (dsl 3)[j]? = some s ∧ defaultValue (YY 3 j) = sv (fun _ => 0) 0 s ∧ ∀ r, s ≠ some (some r) := by
  intro j hj
  have hj' : j < 3 := hj
  rcases (show j = 0 ∨ j = 1 ∨ j = 2 by omega) with rfl | rfl | rfl <;> exact ⟨_, rfl, rfl, fun r h => by cases h⟩
theorem ds4 : ∀ j, j < NN 4 → ∃ s, (dsl 4)[j]? = some s ∧ defaultValue (YY 4 j) = sv (fun _ => 0) 0 s ∧ ∀ r, s ≠ some (some r) := by
  intro j hj
  have hj' : j < 6 := hj
  rcases (show j = 0 ∨ j = 1 ∨ j = 2 ∨ j = 3 ∨ j = 4 ∨ j = 5 by omega) with rfl | rfl | rfl | rfl | rfl | rfl <;> exact ⟨_, rfl, rfl, fun r h => by cases h⟩
theorem ds6 : ∀ j, j < NN 6 → ∃ s, (dsl 6)[j]? = some s ∧ defaultValue (YY 6 j) = sv (fun _ => 0) 0 s ∧ ∀ r, s ≠ some (some r) := by
  intro j hj
  have hj' : j < 3 := hj
  rcases (show j = 0 ∨ j = 1 ∨ j = 2 by omega) with rfl | rfl | rfl <;> exact ⟨_, rfl, rfl, fun r h => by cases h⟩
theorem ds7 : ∀ j, j < NN 7 → ∃ s, (dsl 7)[j]? = some s ∧ defaultValue (YY 7 j) = sv (fun _ => 0) 0 s ∧ ∀ r, s ≠ some (some r) := by
  intro j hj
  have hj' : j < 10 := hj
  rcases (show j = 0 ∨ j = 1 ∨ j = 2 ∨ j = 3 ∨ j = 4 ∨ j = 5 ∨ j = 6 ∨ j = 7 ∨ j = 8 ∨ j = 9 by omega) with rfl | rfl | rfl | rfl | rfl | rfl | rfl | rfl | rfl | rfl <;> exact ⟨_, rfl, rfl, fun r h => by cases h⟩
section CTORB
variable {μ : MI} {d mc ms n0 kc ks pc n : Nat} {Q : PQ} {ls : List (Option AV)} {st : List AV} {sh sh' : Shp} {I : IE} {F : FE}
theorem w_new3 {ci q : Nat} (h : INW μ pc n ci) (hds : ∀ j, j < NN ci → ∃ s, (dsl ci)[j]? = some s ∧ defaultValue (YY ci j) = sv (fun _ => 0) 0 s ∧ ∀ r, s ≠ some (some r)) (hz : ∀ a k, I a k = 0) (hcap : kc + 1 ≤ mc ∧ ks + NN ci ≤ ms) (hq : sh.length = q) (hsh : sh ++ [.inr (ci, dsl ci)] = sh')
    (K : WS μ d mc ms n0 Q (kc + 1) (ks + NN ci) n ls (.inr (some q) :: st) sh' I F) : WS μ d mc ms n0 Q kc ks pc ls st sh I F := by
  subst hq hsh
  exact w_new h hds (fun k => hz _ k) hcap K
theorem w_newa3 {q : Nat} {x : Int} (h : INA μ.2.2.1 pc n) (hx0 : 0 ≤ x ∧ x ≤ 100000) (hz : ∀ a j, F a j = 0) (hcap : kc + 1 ≤ mc ∧ ks + x.toNat ≤ ms) (hq : sh.length = q) (hsh : sh ++ [.inl x.toNat] = sh')
    (K : WS μ d mc ms n0 Q (kc + 1) (ks + x.toNat) n ls (.inr (some q) :: st) sh' I F) : WS μ d mc ms n0 Q kc ks pc ls (.inl x :: st) sh I F := by
  subst hq hsh
  exact w_newa h hx0 (fun j => hz _ j) hcap K
theorem w_putz3 {a ci k : Nat} {sl : List (Option (Option Nat))} {r : Nat} {r0 : Option Nat} (h : IPZ μ pc n ci k) (hs : sh[a]? = some (.inr (ci, sl))) (hv : sl[k]? = some (some r0)) (hty : ∀ q, fits (YY ci k) (.ref q) = true ∧ narrow (YY ci k) (.ref q) = .ref q) (hsh : sh.set a (.inr (ci, sl.set k (some (some r)))) = sh')
    (K : WS μ d mc ms n0 Q kc ks n ls st sh' I F) : WS μ d mc ms n0 Q kc ks pc ls (.inr (some r) :: .inr (some a) :: st) sh I F := by
  subst hsh
  exact w_putz h hs hv hty K
end CTORB
theorem s5_initC {d : Nat} {pre W1 W2 : Shp} {q : Nat} (hd : 1 ≤ d) (hq : pre.length = q) (h1 : pre ++ [.inr (5, dsl 5)] = W1) (h2 : pre ++ [.inr (5, [none, none, some (some (q + 1)), some (some (q + 2)), some (some (q + 3)), none]), .inl 8, .inl 4, .inl 4] = W2) : MS m5_init d 3 16 W1 [rv q] Z0 Z1 (fun r sh' I' F' => r = none ∧ sh' = W2 ∧ I' = Z0 ∧ F' = Z1) := by
  subst hq h1 h2
  exact s5_init hd
theorem s3_initC {d : Nat} {pre W1 W2 : Shp} {q : Nat} (hd : 3 ≤ d) (hq : pre.length = q) (h1 : pre ++ [.inr (3, dsl 3)] = W1) (h2 : pre ++ [.inr (3, [none, none, some (some (q + 1))]), .inr (50, [some (some (q + 2)), some (some (q + 6)), some (some (q + 10)), some (some (q + 14)), some (some (q + 18)), some (some (q + 22)), some (some (q + 26)), some (some (q + 30))]), .inr (5, [none, none, some (some (q + 3)), some (some (q + 4)), some (some (q + 5)), none]), .inl 8, .inl 4, .inl 4, .inr (5, [none, none, some (some (q + 7)), some (some (q + 8)), some (some (q + 9)), none]), .inl 8, .inl 4, .inl 4, .inr (5, [none, none, some (some (q + 11)), some (some (q + 12)), some (some (q + 13)), none]), .inl 8, .inl 4, .inl 4, .inr (5, [none, none, some (some (q + 15)), some (some (q + 16)), some (some (q + 17)), none]), .inl 8, .inl 4, .inl 4, .inr (5, [none, none, some (some (q + 19)), some (some (q + 20)), some (some (q + 21)), none]), .inl 8, .inl 4, .inl 4, .inr (5, [none, none, some (some (q + 23)), some (some (q + 24)), some (some (q + 25)), none]), .inl 8, .inl 4, .inl 4, .inr (5, [none, none, some (some (q + 27)), some (some (q + 28)), some (some (q + 29)), none]), .inl 8, .inl 4, .inl 4, .inr (5, [none, none, some (some (q + 31)), some (some (q + 32)), some (some (q + 33)), none]), .inl 8, .inl 4, .inl 4] = W2) : MS m3_init d 33 184 W1 [rv q] Z0 Z1 (fun r sh' I' F' => r = none ∧ sh' = W2 ∧ I' = Z0 ∧ F' = Z1) := by
  subst hq h1 h2
  exact s3_init hd
theorem s4_initC {d : Nat} {pre W1 W2 : Shp} {q : Nat} (hd : 1 ≤ d) (hq : pre.length = q) (h1 : pre ++ [.inr (4, dsl 4)] = W1) (h2 : pre ++ [.inr (4, [none, none, none, some (some (q + 1)), some (some (q + 2)), none]), .inl 8, .inl 40] = W2) : MS m4_init d 2 48 W1 [rv q] Z0 Z1 (fun r sh' I' F' => r = none ∧ sh' = W2 ∧ I' = Z0 ∧ F' = Z1) := by
  subst hq h1 h2
  exact s4_init hd
theorem s2_initC {d : Nat} {pre W1 W2 : Shp} {q : Nat} (hd : 1 ≤ d) (hq : pre.length = q) (h1 : pre ++ [.inr (2, dsl 2)] = W1) (h2 : pre ++ [.inr (2, [none, none, some (some (q + 1)), none, none, none, none, none, none, none, some (some (q + 2)), some (some (q + 3)), some (some (q + 4)), none]), .inl 64, .inl 4, .inl 4, .inl 192] = W2) : MS m2_init d 4 264 W1 [rv q] Z0 Z1 (fun r sh' I' F' => r = none ∧ sh' = W2 ∧ I' = Z0 ∧ F' = Z1) := by
  subst hq h1 h2
  exact s2_init hd
theorem s0_initC {d : Nat} {pre W1 W2 : Shp} {q : Nat} (hd : 1 ≤ d) (hq : pre.length = q) (h1 : pre ++ [.inr (0, dsl 0)] = W1) (h2 : pre ++ [.inr (0, [none, some (some (q + 1)), some (some (q + 2))]), .inl 120, .inl 4] = W2) : MS m0_init d 2 124 W1 [rv q] Z0 Z1 (fun r sh' I' F' => r = none ∧ sh' = W2 ∧ I' = Z0 ∧ F' = Z1) := by
  subst hq h1 h2
  exact s0_init hd
theorem s1_initAC {d : Nat} {pre W1 W2 : Shp} {q : Nat} (hd : 1 ≤ d) (hq : pre.length = q) (h1 : pre ++ [.inr (1, dsl 1)] = W1) (h2 : pre ++ [.inr (1, [none, none, some (some (q + 3)), some (some (q + 1)), some (some (q + 2))]), .inl 4, .inl 4, .inl 2048] = W2) : MS m1_init d 3 2056 W1 [rv q, iv 2048] Z0 Z1 (fun r sh' I' F' => r = none ∧ sh' = W2 ∧ I' = Z0 ∧ F' = Z1) := by
  subst hq h1 h2
  exact s1_initA hd
theorem s1_initBC {d : Nat} {pre W1 W2 : Shp} {q : Nat} (hd : 1 ≤ d) (hq : pre.length = q) (h1 : pre ++ [.inr (1, dsl 1)] = W1) (h2 : pre ++ [.inr (1, [none, none, some (some (q + 3)), some (some (q + 1)), some (some (q + 2))]), .inl 4, .inl 4, .inl 32] = W2) : MS m1_init d 3 40 W1 [rv q, iv 32] Z0 Z1 (fun r sh' I' F' => r = none ∧ sh' = W2 ∧ I' = Z0 ∧ F' = Z1) := by
  subst hq h1 h2
  exact s1_initB hd
theorem s6_initC {d : Nat} {pre W1 W2 : Shp} {q : Nat} (hd : 1 ≤ d) (hq : pre.length = q) (h1 : pre ++ [.inr (6, dsl 6)] = W1) (h2 : pre ++ [.inr (6, [some (some (q + 1)), some (some (q + 2)), none]), .inl 2048, .inl 2048] = W2) : MS m6_init d 2 4096 W1 [rv q] Z0 Z1 (fun r sh' I' F' => r = none ∧ sh' = W2 ∧ I' = Z0 ∧ F' = Z1) := by
  subst hq h1 h2
  exact s6_init hd
def V0 : Shp := [.inr (7, [some none, some none, some none, some none, some none, some none, some none, some none, some none, none])]
def V0a : Shp := V0 ++ [.inr (5, dsl 5)]
def V0b : Shp := [.inr (7, [some none, some none, some none, some none, some none, some none, some none, some none, some none, none]), .inr (5, [none, none, some (some 2), some (some 3), some (some 4), none]), .inl 8, .inl 4, .inl 4]
def V1 : Shp := [.inr (7, [some (some 1), some none, some none, some none, some none, some none, some none, some none, some none, none]), .inr (5, [none, none, some (some 2), some (some 3), some (some 4), none]), .inl 8, .inl 4, .inl 4]
theorem b7_0 {d n0 : Nat} {Q : PQ} (hd : 6 ≤ d) (K : WS m7_init d 61 6877 n0 Q 4 22 15 [lr 0] [] V1 Z0 Z1) : WS m7_init d 61 6877 n0 Q 0 0 4 [lr 0] [] V0 Z0 Z1 := by
  refine w_aload i7_init_4 rfl ?_
  refine w_new3 (q := 1) (sh' := V0a) i7_init_5 ds5 (fun _ _ => rfl) (by decide) (by decide +kernel) rfl ?_
  refine w_dup i7_init_8 ?_
  refine w_callN (as := []) i7_init_9 (List.mem_of_getElem? (i := 0) rfl) f5_init v5_init rfl (s5_initC (d := 1) (q := 1) (pre := V0) (W1 := V0a) (W2 := V0b) (by omega) (by decide +kernel) rfl (by decide +kernel)) rfl rfl (Nat.le_of_ble_eq_true rfl) (by omega) (by decide) ?_
  rintro r sh1 I1 F1 ⟨rfl, rfl, rfl, rfl⟩
  exact w_putz3 (a := 0) (r := 1) (sh' := V1) i7_init_12 rfl rfl (fun _ => ⟨rfl, rfl⟩) (by decide +kernel) K
def V1a : Shp := V1 ++ [.inr (3, dsl 3)]
def V1b : Shp := [.inr (7, [some (some 1), some none, some none, some none, some none, some none, some none, some none, some none, none]), .inr (5, [none, none, some (some 2), some (some 3), some (some 4), none]), .inl 8, .inl 4, .inl 4, .inr (3, [none, none, some (some 6)]), .inr (50, [some (some 7), some (some 11), some (some 15), some (some 19), some (some 23), some (some 27), some (some 31), some (some 35)]), .inr (5, [none, none, some (some 8), some (some 9), some (some 10), none]), .inl 8, .inl 4, .inl 4, .inr (5, [none, none, some (some 12), some (some 13), some (some 14), none]), .inl 8, .inl 4, .inl 4, .inr (5, [none, none, some (some 16), some (some 17), some (some 18), none]), .inl 8, .inl 4, .inl 4, .inr (5, [none, none, some (some 20), some (some 21), some (some 22), none]), .inl 8, .inl 4, .inl 4, .inr (5, [none, none, some (some 24), some (some 25), some (some 26), none]), .inl 8, .inl 4, .inl 4, .inr (5, [none, none, some (some 28), some (some 29), some (some 30), none]), .inl 8, .inl 4, .inl 4, .inr (5, [none, none, some (some 32), some (some 33), some (some 34), none]), .inl 8, .inl 4, .inl 4, .inr (5, [none, none, some (some 36), some (some 37), some (some 38), none]), .inl 8, .inl 4, .inl 4]
def V2 : Shp := [.inr (7, [some (some 1), some (some 5), some none, some none, some none, some none, some none, some none, some none, none]), .inr (5, [none, none, some (some 2), some (some 3), some (some 4), none]), .inl 8, .inl 4, .inl 4, .inr (3, [none, none, some (some 6)]), .inr (50, [some (some 7), some (some 11), some (some 15), some (some 19), some (some 23), some (some 27), some (some 31), some (some 35)]), .inr (5, [none, none, some (some 8), some (some 9), some (some 10), none]), .inl 8, .inl 4, .inl 4, .inr (5, [none, none, some (some 12), some (some 13), some (some 14), none]), .inl 8, .inl 4, .inl 4, .inr (5, [none, none, some (some 16), some (some 17), some (some 18), none]), .inl 8, .inl 4, .inl 4, .inr (5, [none, none, some (some 20), some (some 21), some (some 22), none]), .inl 8, .inl 4, .inl 4, .inr (5, [none, none, some (some 24), some (some 25), some (some 26), none]), .inl 8, .inl 4, .inl 4, .inr (5, [none, none, some (some 28), some (some 29), some (some 30), none]), .inl 8, .inl 4, .inl 4, .inr (5, [none, none, some (some 32), some (some 33), some (some 34), none]), .inl 8, .inl 4, .inl 4, .inr (5, [none, none, some (some 36), some (some 37), some (some 38), none]), .inl 8, .inl 4, .inl 4]
theorem b7_1 {d n0 : Nat} {Q : PQ} (hd : 6 ≤ d) (K : WS m7_init d 61 6877 n0 Q 38 209 26 [lr 0] [] V2 Z0 Z1) : WS m7_init d 61 6877 n0 Q 4 22 15 [lr 0] [] V1 Z0 Z1 := by
  refine w_aload i7_init_15 rfl ?_
  refine w_new3 (q := 5) (sh' := V1a) i7_init_16 ds3 (fun _ _ => rfl) (by decide) (by decide +kernel) rfl ?_
  refine w_dup i7_init_19 ?_
  refine w_callI (as := []) i7_init_20 f3_init v3_init rfl (s3_initC (d := 3) (q := 5) (pre := V1) (W1 := V1a) (W2 := V1b) (by omega) (by decide +kernel) rfl (by decide +kernel)) rfl rfl (Nat.le_of_ble_eq_true rfl) (by omega) (by decide) ?_
  rintro r sh1 I1 F1 ⟨rfl, rfl, rfl, rfl⟩
  exact w_putz3 (a := 0) (r := 5) (sh' := V2) i7_init_23 rfl rfl (fun _ => ⟨rfl, rfl⟩) (by decide +kernel) K
def V2a : Shp := V2 ++ [.inr (4, dsl 4)]
def V2b : Shp := [.inr (7, [some (some 1), some (some 5), some none, some none, some none, some none, some none, some none, some none, none]), .inr (5, [none, none, some (some 2), some (some 3), some (some 4), none]), .inl 8, .inl 4, .inl 4, .inr (3, [none, none, some (some 6)]), .inr (50, [some (some 7), some (some 11), some (some 15), some (some 19), some (some 23), some (some 27), some (some 31), some (some 35)]), .inr (5, [none, none, some (some 8), some (some 9), some (some 10), none]), .inl 8, .inl 4, .inl 4, .inr (5, [none, none, some (some 12), some (some 13), some (some 14), none]), .inl 8, .inl 4, .inl 4, .inr (5, [none, none, some (some 16), some (some 17), some (some 18), none]), .inl 8, .inl 4, .inl 4, .inr (5, [none, none, some (some 20), some (some 21), some (some 22), none]), .inl 8, .inl 4, .inl 4, .inr (5, [none, none, some (some 24), some (some 25), some (some 26), none]), .inl 8, .inl 4, .inl 4, .inr (5, [none, none, some (some 28), some (some 29), some (some 30), none]), .inl 8, .inl 4, .inl 4, .inr (5, [none, none, some (some 32), some (some 33), some (some 34), none]), .inl 8, .inl 4, .inl 4, .inr (5, [none, none, some (some 36), some (some 37), some (some 38), none]), .inl 8, .inl 4, .inl 4, .inr (4, [none, none, none, some (some 40), some (some 41), none]), .inl 8, .inl 40]
def V3 : Shp := [.inr (7, [some (some 1), some (some 5), some (some 39), some none, some none, some none, some none, some none, some none, none]), .inr (5, [none, none, some (some 2), some (some 3), some (some 4), none]), .inl 8, .inl 4, .inl 4, .inr (3, [none, none, some (some 6)]), .inr (50, [some (some 7), some (some 11), some (some 15), some (some 19), some (some 23), some (some 27), some (some 31), some (some 35)]), .inr (5, [none, none, some (some 8), some (some 9), some (some 10), none]), .inl 8, .inl 4, .inl 4, .inr (5, [none, none, some (some 12), some (some 13), some (some 14), none]), .inl 8, .inl 4, .inl 4, .inr (5, [none, none, some (some 16), some (some 17), some (some 18), none]), .inl 8, .inl 4, .inl 4, .inr (5, [none, none, some (some 20), some (some 21), some (some 22), none]), .inl 8, .inl 4, .inl 4, .inr (5, [none, none, some (some 24), some (some 25), some (some 26), none]), .inl 8, .inl 4, .inl 4, .inr (5, [none, none, some (some 28), some (some 29), some (some 30), none]), .inl 8, .inl 4, .inl 4, .inr (5, [none, none, some (some 32), some (some 33), some (some 34), none]), .inl 8, .inl 4, .inl 4, .inr (5, [none, none, some (some 36), some (some 37), some (some 38), none]), .inl 8, .inl 4, .inl 4, .inr (4, [none, none, none, some (some 40), some (some 41), none]), .inl 8, .inl 40]
theorem b7_2 {d n0 : Nat} {Q : PQ} (hd : 6 ≤ d) (K : WS m7_init d 61 6877 n0 Q 41 263 37 [lr 0] [] V3 Z0 Z1) : WS m7_init d 61 6877 n0 Q 38 209 26 [lr 0] [] V2 Z0 Z1 := by
  refine w_aload i7_init_26 rfl ?_
  refine w_new3 (q := 39) (sh' := V2a) i7_init_27 ds4 (fun _ _ => rfl) (by decide) (by decide +kernel) rfl ?_
  refine w_dup i7_init_30 ?_
  refine w_callN (as := []) i7_init_31 (List.mem_of_getElem? (i := 2) rfl) f4_init v4_init rfl (s4_initC (d := 1) (q := 39) (pre := V2) (W1 := V2a) (W2 := V2b) (by omega) (by decide +kernel) rfl (by decide +kernel)) rfl rfl (Nat.le_of_ble_eq_true rfl) (by omega) (by decide) ?_
  rintro r sh1 I1 F1 ⟨rfl, rfl, rfl, rfl⟩
  exact w_putz3 (a := 0) (r := 39) (sh' := V3) i7_init_34 rfl rfl (fun _ => ⟨rfl, rfl⟩) (by decide +kernel) K
def V3a : Shp := V3 ++ [.inr (2, dsl 2)]
def V3b : Shp := [.inr (7, [some (some 1), some (some 5), some (some 39), some none, some none, some none, some none, some none, some none, none]), .inr (5, [none, none, some (some 2), some (some 3), some (some 4), none]), .inl 8, .inl 4, .inl 4, .inr (3, [none, none, some (some 6)]), .inr (50, [some (some 7), some (some 11), some (some 15), some (some 19), some (some 23), some (some 27), some (some 31), some (some 35)]), .inr (5, [none, none, some (some 8), some (some 9), some (some 10), none]), .inl 8, .inl 4, .inl 4, .inr (5, [none, none, some (some 12), some (some 13), some (some 14), none]), .inl 8, .inl 4, .inl 4, .inr (5, [none, none, some (some 16), some (some 17), some (some 18), none]), .inl 8, .inl 4, .inl 4, .inr (5, [none, none, some (some 20), some (some 21), some (some 22), none]), .inl 8, .inl 4, .inl 4, .inr (5, [none, none, some (some 24), some (some 25), some (some 26), none]), .inl 8, .inl 4, .inl 4, .inr (5, [none, none, some (some 28), some (some 29), some (some 30), none]), .inl 8, .inl 4, .inl 4, .inr (5, [none, none, some (some 32), some (some 33), some (some 34), none]), .inl 8, .inl 4, .inl 4, .inr (5, [none, none, some (some 36), some (some 37), some (some 38), none]), .inl 8, .inl 4, .inl 4, .inr (4, [none, none, none, some (some 40), some (some 41), none]), .inl 8, .inl 40, .inr (2, [none, none, some (some 43), none, none, none, none, none, none, none, some (some 44), some (some 45), some (some 46), none]), .inl 64, .inl 4, .inl 4, .inl 192]
def V4 : Shp := [.inr (7, [some (some 1), some (some 5), some (some 39), some (some 42), some none, some none, some none, some none, some none, none]), .inr (5, [none, none, some (some 2), some (some 3), some (some 4), none]), .inl 8, .inl 4, .inl 4, .inr (3, [none, none, some (some 6)]), .inr (50, [some (some 7), some (some 11), some (some 15), some (some 19), some (some 23), some (some 27), some (some 31), some (some 35)]), .inr (5, [none, none, some (some 8), some (some 9), some (some 10), none]), .inl 8, .inl 4, .inl 4, .inr (5, [none, none, some (some 12), some (some 13), some (some 14), none]), .inl 8, .inl 4, .inl 4, .inr (5, [none, none, some (some 16), some (some 17), some (some 18), none]), .inl 8, .inl 4, .inl 4, .inr (5, [none, none, some (some 20), some (some 21), some (some 22), none]), .inl 8, .inl 4, .inl 4, .inr (5, [none, none, some (some 24), some (some 25), some (some 26), none]), .inl 8, .inl 4, .inl 4, .inr (5, [none, none, some (some 28), some (some 29), some (some 30), none]), .inl 8, .inl 4, .inl 4, .inr (5, [none, none, some (some 32), some (some 33), some (some 34), none]), .inl 8, .inl 4, .inl 4, .inr (5, [none, none, some (some 36), some (some 37), some (some 38), none]), .inl 8, .inl 4, .inl 4, .inr (4, [none, none, none, some (some 40), some (some 41), none]), .inl 8, .inl 40, .inr (2, [none, none, some (some 43), none, none, none, none, none, none, none, some (some 44), some (some 45), some (some 46), none]), .inl 64, .inl 4, .inl 4, .inl 192]
theorem b7_3 {d n0 : Nat} {Q : PQ} (hd : 6 ≤ d) (K : WS m7_init d 61 6877 n0 Q 46 541 48 [lr 0] [] V4 Z0 Z1) : WS m7_init d 61 6877 n0 Q 41 263 37 [lr 0] [] V3 Z0 Z1 := by
  refine w_aload i7_init_37 rfl ?_
  refine w_new3 (q := 42) (sh' := V3a) i7_init_38 ds2 (fun _ _ => rfl) (by decide) (by decide +kernel) rfl ?_
  refine w_dup i7_init_41 ?_
  refine w_callN (as := []) i7_init_42 (List.mem_of_getElem? (i := 3) rfl) f2_init v2_init rfl (s2_initC (d := 1) (q := 42) (pre := V3) (W1 := V3a) (W2 := V3b) (by omega) (by decide +kernel) rfl (by decide +kernel)) rfl rfl (Nat.le_of_ble_eq_true rfl) (by omega) (by decide) ?_
  rintro r sh1 I1 F1 ⟨rfl, rfl, rfl, rfl⟩
  exact w_putz3 (a := 0) (r := 42) (sh' := V4) i7_init_45 rfl rfl (fun _ => ⟨rfl, rfl⟩) (by decide +kernel) K
def V4a : Shp := V4 ++ [.inr (0, dsl 0)]
def V4b : Shp := [.inr (7, [some (some 1), some (some 5), some (some 39), some (some 42), some none, some none, some none, some none, some none, none]), .inr (5, [none, none, some (some 2), some (some 3), some (some 4), none]), .inl 8, .inl 4, .inl 4, .inr (3, [none, none, some (some 6)]), .inr (50, [some (some 7), some (some 11), some (some 15), some (some 19), some (some 23), some (some 27), some (some 31), some (some 35)]), .inr (5, [none, none, some (some 8), some (some 9), some (some 10), none]), .inl 8, .inl 4, .inl 4, .inr (5, [none, none, some (some 12), some (some 13), some (some 14), none]), .inl 8, .inl 4, .inl 4, .inr (5, [none, none, some (some 16), some (some 17), some (some 18), none]), .inl 8, .inl 4, .inl 4, .inr (5, [none, none, some (some 20), some (some 21), some (some 22), none]), .inl 8, .inl 4, .inl 4, .inr (5, [none, none, some (some 24), some (some 25), some (some 26), none]), .inl 8, .inl 4, .inl 4, .inr (5, [none, none, some (some 28), some (some 29), some (some 30), none]), .inl 8, .inl 4, .inl 4, .inr (5, [none, none, some (some 32), some (some 33), some (some 34), none]), .inl 8, .inl 4, .inl 4, .inr (5, [none, none, some (some 36), some (some 37), some (some 38), none]), .inl 8, .inl 4, .inl 4, .inr (4, [none, none, none, some (some 40), some (some 41), none]), .inl 8, .inl 40, .inr (2, [none, none, some (some 43), none, none, none, none, none, none, none, some (some 44), some (some 45), some (some 46), none]), .inl 64, .inl 4, .inl 4, .inl 192, .inr (0, [none, some (some 48), some (some 49)]), .inl 120, .inl 4]
def V5 : Shp := [.inr (7, [some (some 1), some (some 5), some (some 39), some (some 42), some (some 47), some none, some none, some none, some none, none]), .inr (5, [none, none, some (some 2), some (some 3), some (some 4), none]), .inl 8, .inl 4, .inl 4, .inr (3, [none, none, some (some 6)]), .inr (50, [some (some 7), some (some 11), some (some 15), some (some 19), some (some 23), some (some 27), some (some 31), some (some 35)]), .inr (5, [none, none, some (some 8), some (some 9), some (some 10), none]), .inl 8, .inl 4, .inl 4, .inr (5, [none, none, some (some 12), some (some 13), some (some 14), none]), .inl 8, .inl 4, .inl 4, .inr (5, [none, none, some (some 16), some (some 17), some (some 18), none]), .inl 8, .inl 4, .inl 4, .inr (5, [none, none, some (some 20), some (some 21), some (some 22), none]), .inl 8, .inl 4, .inl 4, .inr (5, [none, none, some (some 24), some (some 25), some (some 26), none]), .inl 8, .inl 4, .inl 4, .inr (5, [none, none, some (some 28), some (some 29), some (some 30), none]), .inl 8, .inl 4, .inl 4, .inr (5, [none, none, some (some 32), some (some 33), some (some 34), none]), .inl 8, .inl 4, .inl 4, .inr (5, [none, none, some (some 36), some (some 37), some (some 38), none]), .inl 8, .inl 4, .inl 4, .inr (4, [none, none, none, some (some 40), some (some 41), none]), .inl 8, .inl 40, .inr (2, [none, none, some (some 43), none, none, none, none, none, none, none, some (some 44), some (some 45), some (some 46), none]), .inl 64, .inl 4, .inl 4, .inl 192, .inr (0, [none, some (some 48), some (some 49)]), .inl 120, .inl 4]
theorem b7_4 {d n0 : Nat} {Q : PQ} (hd : 6 ≤ d) (K : WS m7_init d 61 6877 n0 Q 49 668 59 [lr 0] [] V5 Z0 Z1) : WS m7_init d 61 6877 n0 Q 46 541 48 [lr 0] [] V4 Z0 Z1 := by
  refine w_aload i7_init_48 rfl ?_
  refine w_new3 (q := 47) (sh' := V4a) i7_init_49 ds0 (fun _ _ => rfl) (by decide) (by decide +kernel) rfl ?_
  refine w_dup i7_init_52 ?_
  refine w_callN (as := []) i7_init_53 (List.mem_of_getElem? (i := 4) rfl) f0_init v0_init rfl (s0_initC (d := 1) (q := 47) (pre := V4) (W1 := V4a) (W2 := V4b) (by omega) (by decide +kernel) rfl (by decide +kernel)) rfl rfl (Nat.le_of_ble_eq_true rfl) (by omega) (by decide) ?_
  rintro r sh1 I1 F1 ⟨rfl, rfl, rfl, rfl⟩
  exact w_putz3 (a := 0) (r := 47) (sh' := V5) i7_init_56 rfl rfl (fun _ => ⟨rfl, rfl⟩) (by decide +kernel) K
def V5a : Shp := V5 ++ [.inr (1, dsl 1)]
def V5b : Shp := [.inr (7, [some (some 1), some (some 5), some (some 39), some (some 42), some (some 47), some none, some none, some none, some none, none]), .inr (5, [none, none, some (some 2), some (some 3), some (some 4), none]), .inl 8, .inl 4, .inl 4, .inr (3, [none, none, some (some 6)]), .inr (50, [some (some 7), some (some 11), some (some 15), some (some 19), some (some 23), some (some 27), some (some 31), some (some 35)]), .inr (5, [none, none, some (some 8), some (some 9), some (some 10), none]), .inl 8, .inl 4, .inl 4, .inr (5, [none, none, some (some 12), some (some 13), some (some 14), none]), .inl 8, .inl 4, .inl 4, .inr (5, [none, none, some (some 16), some (some 17), some (some 18), none]), .inl 8, .inl 4, .inl 4, .inr (5, [none, none, some (some 20), some (some 21), some (some 22), none]), .inl 8, .inl 4, .inl 4, .inr (5, [none, none, some (some 24), some (some 25), some (some 26), none]), .inl 8, .inl 4, .inl 4, .inr (5, [none, none, some (some 28), some (some 29), some (some 30), none]), .inl 8, .inl 4, .inl 4, .inr (5, [none, none, some (some 32), some (some 33), some (some 34), none]), .inl 8, .inl 4, .inl 4, .inr (5, [none, none, some (some 36), some (some 37), some (some 38), none]), .inl 8, .inl 4, .inl 4, .inr (4, [none, none, none, some (some 40), some (some 41), none]), .inl 8, .inl 40, .inr (2, [none, none, some (some 43), none, none, none, none, none, none, none, some (some 44), some (some 45), some (some 46), none]), .inl 64, .inl 4, .inl 4, .inl 192, .inr (0, [none, some (some 48), some (some 49)]), .inl 120, .inl 4, .inr (1, [none, none, some (some 53), some (some 51), some (some 52)]), .inl 4, .inl 4, .inl 2048]
def V6 : Shp := [.inr (7, [some (some 1), some (some 5), some (some 39), some (some 42), some (some 47), some (some 50), some none, some none, some none, none]), .inr (5, [none, none, some (some 2), some (some 3), some (some 4), none]), .inl 8, .inl 4, .inl 4, .inr (3, [none, none, some (some 6)]), .inr (50, [some (some 7), some (some 11), some (some 15), some (some 19), some (some 23), some (some 27), some (some 31), some (some 35)]), .inr (5, [none, none, some (some 8), some (some 9), some (some 10), none]), .inl 8, .inl 4, .inl 4, .inr (5, [none, none, some (some 12), some (some 13), some (some 14), none]), .inl 8, .inl 4, .inl 4, .inr (5, [none, none, some (some 16), some (some 17), some (some 18), none]), .inl 8, .inl 4, .inl 4, .inr (5, [none, none, some (some 20), some (some 21), some (some 22), none]), .inl 8, .inl 4, .inl 4, .inr (5, [none, none, some (some 24), some (some 25), some (some 26), none]), .inl 8, .inl 4, .inl 4, .inr (5, [none, none, some (some 28), some (some 29), some (some 30), none]), .inl 8, .inl 4, .inl 4, .inr (5, [none, none, some (some 32), some (some 33), some (some 34), none]), .inl 8, .inl 4, .inl 4, .inr (5, [none, none, some (some 36), some (some 37), some (some 38), none]), .inl 8, .inl 4, .inl 4, .inr (4, [none, none, none, some (some 40), some (some 41), none]), .inl 8, .inl 40, .inr (2, [none, none, some (some 43), none, none, none, none, none, none, none, some (some 44), some (some 45), some (some 46), none]), .inl 64, .inl 4, .inl 4, .inl 192, .inr (0, [none, some (some 48), some (some 49)]), .inl 120, .inl 4, .inr (1, [none, none, some (some 53), some (some 51), some (some 52)]), .inl 4, .inl 4, .inl 2048]
theorem b7_5 {d n0 : Nat} {Q : PQ} (hd : 6 ≤ d) (K : WS m7_init d 61 6877 n0 Q 53 2729 73 [lr 0] [] V6 Z0 Z1) : WS m7_init d 61 6877 n0 Q 49 668 59 [lr 0] [] V5 Z0 Z1 := by
  refine w_aload i7_init_59 rfl ?_
  refine w_new3 (q := 50) (sh' := V5a) i7_init_60 ds1 (fun _ _ => rfl) (by decide) (by decide +kernel) rfl ?_
  refine w_dup i7_init_63 ?_
  refine w_const i7_init_64 ?_
  refine w_callI (as := [iv 2048]) i7_init_67 f1_init v1_init rfl (s1_initAC (d := 1) (q := 50) (pre := V5) (W1 := V5a) (W2 := V5b) (by omega) (by decide +kernel) rfl (by decide +kernel)) rfl rfl (Nat.le_of_ble_eq_true rfl) (by omega) (by decide) ?_
  rintro r sh1 I1 F1 ⟨rfl, rfl, rfl, rfl⟩
  exact w_putz3 (a := 0) (r := 50) (sh' := V6) i7_init_70 rfl rfl (fun _ => ⟨rfl, rfl⟩) (by decide +kernel) K
def V6a : Shp := V6 ++ [.inr (1, dsl 1)]
def V6b : Shp := [.inr (7, [some (some 1), some (some 5), some (some 39), some (some 42), some (some 47), some (some 50), some none, some none, some none, none]), .inr (5, [none, none, some (some 2), some (some 3), some (some 4), none]), .inl 8, .inl 4, .inl 4, .inr (3, [none, none, some (some 6)]), .inr (50, [some (some 7), some (some 11), some (some 15), some (some 19), some (some 23), some (some 27), some (some 31), some (some 35)]), .inr (5, [none, none, some (some 8), some (some 9), some (some 10), none]), .inl 8, .inl 4, .inl 4, .inr (5, [none, none, some (some 12), some (some 13), some (some 14), none]), .inl 8, .inl 4, .inl 4, .inr (5, [none, none, some (some 16), some (some 17), some (some 18), none]), .inl 8, .inl 4, .inl 4, .inr (5, [none, none, some (some 20), some (some 21), some (some 22), none]), .inl 8, .inl 4, .inl 4, .inr (5, [none, none, some (some 24), some (some 25), some (some 26), none]), .inl 8, .inl 4, .inl 4, .inr (5, [none, none, some (some 28), some (some 29), some (some 30), none]), .inl 8, .inl 4, .inl 4, .inr (5, [none, none, some (some 32), some (some 33), some (some 34), none]), .inl 8, .inl 4, .inl 4, .inr (5, [none, none, some (some 36), some (some 37), some (some 38), none]), .inl 8, .inl 4, .inl 4, .inr (4, [none, none, none, some (some 40), some (some 41), none]), .inl 8, .inl 40, .inr (2, [none, none, some (some 43), none, none, none, none, none, none, none, some (some 44), some (some 45), some (some 46), none]), .inl 64, .inl 4, .inl 4, .inl 192, .inr (0, [none, some (some 48), some (some 49)]), .inl 120, .inl 4, .inr (1, [none, none, some (some 53), some (some 51), some (some 52)]), .inl 4, .inl 4, .inl 2048, .inr (1, [none, none, some (some 57), some (some 55), some (some 56)]), .inl 4, .inl 4, .inl 32]
def V7 : Shp := [.inr (7, [some (some 1), some (some 5), some (some 39), some (some 42), some (some 47), some (some 50), some (some 54), some none, some none, none]), .inr (5, [none, none, some (some 2), some (some 3), some (some 4), none]), .inl 8, .inl 4, .inl 4, .inr (3, [none, none, some (some 6)]), .inr (50, [some (some 7), some (some 11), some (some 15), some (some 19), some (some 23), some (some 27), some (some 31), some (some 35)]), .inr (5, [none, none, some (some 8), some (some 9), some (some 10), none]), .inl 8, .inl 4, .inl 4, .inr (5, [none, none, some (some 12), some (some 13), some (some 14), none]), .inl 8, .inl 4, .inl 4, .inr (5, [none, none, some (some 16), some (some 17), some (some 18), none]), .inl 8, .inl 4, .inl 4, .inr (5, [none, none, some (some 20), some (some 21), some (some 22), none]), .inl 8, .inl 4, .inl 4, .inr (5, [none, none, some (some 24), some (some 25), some (some 26), none]), .inl 8, .inl 4, .inl 4, .inr (5, [none, none, some (some 28), some (some 29), some (some 30), none]), .inl 8, .inl 4, .inl 4, .inr (5, [none, none, some (some 32), some (some 33), some (some 34), none]), .inl 8, .inl 4, .inl 4, .inr (5, [none, none, some (some 36), some (some 37), some (some 38), none]), .inl 8, .inl 4, .inl 4, .inr (4, [none, none, none, some (some 40), some (some 41), none]), .inl 8, .inl 40, .inr (2, [none, none, some (some 43), none, none, none, none, none, none, none, some (some 44), some (some 45), some (some 46), none]), .inl 64, .inl 4, .inl 4, .inl 192, .inr (0, [none, some (some 48), some (some 49)]), .inl 120, .inl 4, .inr (1, [none, none, some (some 53), some (some 51), some (some 52)]), .inl 4, .inl 4, .inl 2048, .inr (1, [none, none, some (some 57), some (some 55), some (some 56)]), .inl 4, .inl 4, .inl 32]
theorem b7_6 {d n0 : Nat} {Q : PQ} (hd : 6 ≤ d) (K : WS m7_init d 61 6877 n0 Q 57 2774 86 [lr 0] [] V7 Z0 Z1) : WS m7_init d 61 6877 n0 Q 53 2729 73 [lr 0] [] V6 Z0 Z1 := by
  refine w_aload i7_init_73 rfl ?_
  refine w_new3 (q := 54) (sh' := V6a) i7_init_74 ds1 (fun _ _ => rfl) (by decide) (by decide +kernel) rfl ?_
  refine w_dup i7_init_77 ?_
  refine w_const i7_init_78 ?_
  refine w_callI (as := [iv 32]) i7_init_80 f1_init v1_init rfl (s1_initBC (d := 1) (q := 54) (pre := V6) (W1 := V6a) (W2 := V6b) (by omega) (by decide +kernel) rfl (by decide +kernel)) rfl rfl (Nat.le_of_ble_eq_true rfl) (by omega) (by decide) ?_
  rintro r sh1 I1 F1 ⟨rfl, rfl, rfl, rfl⟩
  exact w_putz3 (a := 0) (r := 54) (sh' := V7) i7_init_83 rfl rfl (fun _ => ⟨rfl, rfl⟩) (by decide +kernel) K
def V7a : Shp := V7 ++ [.inr (6, dsl 6)]
def V7b : Shp := [.inr (7, [some (some 1), some (some 5), some (some 39), some (some 42), some (some 47), some (some 50), some (some 54), some none, some none, none]), .inr (5, [none, none, some (some 2), some (some 3), some (some 4), none]), .inl 8, .inl 4, .inl 4, .inr (3, [none, none, some (some 6)]), .inr (50, [some (some 7), some (some 11), some (some 15), some (some 19), some (some 23), some (some 27), some (some 31), some (some 35)]), .inr (5, [none, none, some (some 8), some (some 9), some (some 10), none]), .inl 8, .inl 4, .inl 4, .inr (5, [none, none, some (some 12), some (some 13), some (some 14), none]), .inl 8, .inl 4, .inl 4, .inr (5, [none, none, some (some 16), some (some 17), some (some 18), none]), .inl 8, .inl 4, .inl 4, .inr (5, [none, none, some (some 20), some (some 21), some (some 22), none]), .inl 8, .inl 4, .inl 4, .inr (5, [none, none, some (some 24), some (some 25), some (some 26), none]), .inl 8, .inl 4, .inl 4, .inr (5, [none, none, some (some 28), some (some 29), some (some 30), none]), .inl 8, .inl 4, .inl 4, .inr (5, [none, none, some (some 32), some (some 33), some (some 34), none]), .inl 8, .inl 4, .inl 4, .inr (5, [none, none, some (some 36), some (some 37), some (some 38), none]), .inl 8, .inl 4, .inl 4, .inr (4, [none, none, none, some (some 40), some (some 41), none]), .inl 8, .inl 40, .inr (2, [none, none, some (some 43), none, none, none, none, none, none, none, some (some 44), some (some 45), some (some 46), none]), .inl 64, .inl 4, .inl 4, .inl 192, .inr (0, [none, some (some 48), some (some 49)]), .inl 120, .inl 4, .inr (1, [none, none, some (some 53), some (some 51), some (some 52)]), .inl 4, .inl 4, .inl 2048, .inr (1, [none, none, some (some 57), some (some 55), some (some 56)]), .inl 4, .inl 4, .inl 32, .inr (6, [some (some 59), some (some 60), none]), .inl 2048, .inl 2048]
def V8 : Shp := [.inr (7, [some (some 1), some (some 5), some (some 39), some (some 42), some (some 47), some (some 50), some (some 54), some (some 58), some none, none]), .inr (5, [none, none, some (some 2), some (some 3), some (some 4), none]), .inl 8, .inl 4, .inl 4, .inr (3, [none, none, some (some 6)]), .inr (50, [some (some 7), some (some 11), some (some 15), some (some 19), some (some 23), some (some 27), some (some 31), some (some 35)]), .inr (5, [none, none, some (some 8), some (some 9), some (some 10), none]), .inl 8, .inl 4, .inl 4, .inr (5, [none, none, some (some 12), some (some 13), some (some 14), none]), .inl 8, .inl 4, .inl 4, .inr (5, [none, none, some (some 16), some (some 17), some (some 18), none]), .inl 8, .inl 4, .inl 4, .inr (5, [none, none, some (some 20), some (some 21), some (some 22), none]), .inl 8, .inl 4, .inl 4, .inr (5, [none, none, some (some 24), some (some 25), some (some 26), none]), .inl 8, .inl 4, .inl 4, .inr (5, [none, none, some (some 28), some (some 29), some (some 30), none]), .inl 8, .inl 4, .inl 4, .inr (5, [none, none, some (some 32), some (some 33), some (some 34), none]), .inl 8, .inl 4, .inl 4, .inr (5, [none, none, some (some 36), some (some 37), some (some 38), none]), .inl 8, .inl 4, .inl 4, .inr (4, [none, none, none, some (some 40), some (some 41), none]), .inl 8, .inl 40, .inr (2, [none, none, some (some 43), none, none, none, none, none, none, none, some (some 44), some (some 45), some (some 46), none]), .inl 64, .inl 4, .inl 4, .inl 192, .inr (0, [none, some (some 48), some (some 49)]), .inl 120, .inl 4, .inr (1, [none, none, some (some 53), some (some 51), some (some 52)]), .inl 4, .inl 4, .inl 2048, .inr (1, [none, none, some (some 57), some (some 55), some (some 56)]), .inl 4, .inl 4, .inl 32, .inr (6, [some (some 59), some (some 60), none]), .inl 2048, .inl 2048]
theorem b7_7 {d n0 : Nat} {Q : PQ} (hd : 6 ≤ d) (K : WS m7_init d 61 6877 n0 Q 60 6873 97 [lr 0] [] V8 Z0 Z1) : WS m7_init d 61 6877 n0 Q 57 2774 86 [lr 0] [] V7 Z0 Z1 := by
  refine w_aload i7_init_86 rfl ?_
  refine w_new3 (q := 58) (sh' := V7a) i7_init_87 ds6 (fun _ _ => rfl) (by decide) (by decide +kernel) rfl ?_
  refine w_dup i7_init_90 ?_
  refine w_callN (as := []) i7_init_91 (List.mem_of_getElem? (i := 5) rfl) f6_init v6_init rfl (s6_initC (d := 1) (q := 58) (pre := V7) (W1 := V7a) (W2 := V7b) (by omega) (by decide +kernel) rfl (by decide +kernel)) rfl rfl (Nat.le_of_ble_eq_true rfl) (by omega) (by decide) ?_
  rintro r sh1 I1 F1 ⟨rfl, rfl, rfl, rfl⟩
  exact w_putz3 (a := 0) (r := 58) (sh' := V8) i7_init_94 rfl rfl (fun _ => ⟨rfl, rfl⟩) (by decide +kernel) K
/-- the state of a new object -/
noncomputable def S00 : Sx := (nwm (1, 3, fun j => if 0 ≤ j ∧ j < 8 ∧ j % 4 < 3 ∧ j / 4 < 1 then 1 else 0, fun _ => 0, fun _ => 0, fun _ => 0), (0, fun _ => (1, 2, fun _ => 0, fun _ => 0, fun _ => 0, fun _ => 0)), (0, fun _ => 0))
theorem s7_init {d : Nat} (hcap : CapB) (hd : 6 ≤ d) : MS m7_init d 61 6877 V0 [rv 0] Z0 Z1 (fun r sh' I' F' => r = none ∧ sh' = shX ∧ CI S00 I' F') := by
  refine MS_of (ls := [lr 0]) f7_init rfl rfl (Nat.le_of_ble_eq_true rfl) ?_
  refine w_aload i7_init_0 rfl ?_
  refine w_obj i7_init_1 (by omega) (Nat.le_of_ble_eq_true rfl) ?_
  refine b7_0 hd (b7_1 hd (b7_2 hd (b7_3 hd (b7_4 hd (b7_5 hd (b7_6 hd (b7_7 hd (?_))))))))
  refine w_aload i7_init_97 rfl ?_
  refine w_const i7_init_98 ?_
  refine w_newa3 (q := 61) (sh' := V8 ++ [.inl 4]) i7_init_99 (by decide) (fun _ _ => rfl) (by decide) (by decide +kernel) rfl ?_
  refine w_putz3 (a := 0) (r := 61) (sh' := shX) i7_init_101 rfl rfl (fun _ => ⟨rfl, rfl⟩) (by decide +kernel) ?_
  refine w_aload i7_init_104 rfl ?_
  refine w_getr i7_init_105 rfl rfl ?_
  refine w_const i7_init_108 ?_
  refine w_const i7_init_109 ?_
  refine w_cV i7_init_110 f5_reshape v5_reshape s5_reshape rfl rfl (by decide) rfl rfl (Nat.le_of_ble_eq_true rfl) (by omega) ⟨Nat.le_refl _, Nat.le_refl _⟩ (fun r I1 F1 hq => ?_)
  obtain ⟨rfl, eI, eF⟩ := hq
  have i0 : I1 1 0 = 1 := by rw [eI]; simp [upI]
  have i1 : I1 1 1 = 3 := by rw [eI]; simp [upI]
  have ii : ∀ a k, a ≠ 1 → I1 a k = 0 := fun a k ha => by rw [eI]; simp only [upI]; rw [if_neg (by omega), if_neg (by omega)]
  have ff : ∀ a j, F1 a j = 0 := fun a j => by
    rw [eF]
    simp only [zf2]
    split
    · rfl
    · split
      · rfl
      · simp only [zf34]
        split <;> rfl
  refine w_aload i7_init_113 rfl ?_
  refine w_getr i7_init_114 rfl rfl ?_
  refine w_cV i7_init_117 f5_fillWithOnes v5_fillWithOnes (s5_fillWithOnes (by omega) (by omega) (by omega)) rfl rfl (by decide) rfl rfl (Nat.le_of_ble_eq_true rfl) (by omega) ⟨Nat.le_refl _, Nat.le_refl _⟩ (fun r I2 F2 hq => ?_)
  obtain ⟨rfl, eI2, eF2⟩ := hq
  rw [i0, i1] at eF2
  have g2 : F2 2 = fun j => if 0 ≤ j ∧ j < 8 ∧ j % 4 < 3 ∧ j / 4 < 1 then 1 else 0 := by
    funext j
    rw [eF2]
    simp only [of2, true_and, ff]
    by_cases c : 0 ≤ j ∧ j < 8 ∧ j % 4 < 3 ∧ j / 4 < 1
    · rw [if_pos (by omega), if_pos c]
    · rw [if_neg (by omega), if_neg c]
  have gn : ∀ a, a ≠ 2 → F2 a = fun _ => 0 := fun a ha => by
    funext j
    rw [eF2]
    simp only [of2, ha, false_and, if_false]
    exact ff a j
  have hSV : SV (1, 3, (fun j => if 0 ≤ j ∧ j < 8 ∧ j % 4 < 3 ∧ j / 4 < 1 then 1 else 0), (fun _ => 0), (fun _ => 0), fun _ => 0) := by
    refine ⟨⟨by decide, by decide⟩, ⟨by decide, by decide⟩, fun j => ?_, fun j hj => ?_, fun j => ⟨(by decide : (-30 : Int) ≤ 0), (by decide : (0 : Int) ≤ 30)⟩, fun j _ => rfl, fun j => ⟨(by decide : (0 : Int) ≤ 0), (by decide : (0 : Int) ≤ 5)⟩, fun j _ => rfl, fun k => Or.inl rfl⟩
    · show 0 ≤ (if 0 ≤ j ∧ j < 8 ∧ j % 4 < 3 ∧ j / 4 < 1 then (1 : Int) else 0) ∧ (if 0 ≤ j ∧ j < 8 ∧ j % 4 < 3 ∧ j / 4 < 1 then (1 : Int) else 0) ≤ 3
      split <;> omega
    · have hj' : j < 0 ∨ 8 ≤ j ∨ 3 ≤ j % 4 ∨ 1 ≤ j / 4 := hj
      exact if_neg (by omega)
  refine w_aload i7_init_120 rfl ?_
  refine w_cV i7_init_121 f7_takeNewMatrix v7_takeNewMatrix (s7_takeNewMatrix hcap (by omega) hSV (by rw [eI2]; exact i0) (by rw [eI2]; exact i1) g2 (gn 3 (by decide)) (gn 4 (by decide)) (fun j => by rw [gn 43 (by decide)]; exact ⟨(by decide : (-100 : Int) ≤ 0), (by decide : (0 : Int) ≤ 100)⟩)) rfl rfl (by decide) rfl rfl (Nat.le_of_ble_eq_true rfl) (by omega) ⟨Nat.le_refl _, Nat.le_refl _⟩ (fun r I3 F3 hq => ?_)
  obtain ⟨rfl, a1, a2, a3, a4⟩ := hq
  have jj : ∀ a k, a ≠ 1 → a ≠ 42 → I3 a k = 0 := fun a k h1 h2 => by rw [a3 a k h1 h2, eI2]; exact ii a k h1
  refine w_vret i7_init_124 rfl ⟨Nat.le_refl _, Nat.le_refl _⟩ ⟨rfl, rfl, a1, ⟨jj 5 0 (by decide) (by decide), Nat.zero_le _, by rw [jj 5 1 (by decide) (by decide)]; decide, fun i j hi => absurd hi (Nat.not_lt_zero _)⟩, ⟨jj 39 0 (by decide) (by decide), Nat.zero_le _, fun j hj => absurd hj (by show ¬ (0 ≤ j ∧ j < ((0 : Nat) : Int)); omega), fun j => ?_⟩, a2, Or.inl (jj 0 9 (by decide) (by decide))⟩
  rw [a4 41 (by decide) (by decide) (by decide) (by decide), gn 41 (by decide)]
  exact ⟨(by decide : (0 : Int) ≤ 0), (by decide : (0 : Int) ≤ 255)⟩
