theorem Rc.mono {M : Int → Int} {n : Int} {A B : Nat → Int} {x y : Int → Int} (h : ∀ k, A k = 1 → B k = 1) (g : Rc M n A x y) : Rc M n B x y := Rc.by (fun u v e s he ha hs hv => Rc.st he (h _ ha) hs hv) g
theorem mkA_mono {M : Int → Int} {n : Int} {A B : Nat → Int} (hn : 2 ≤ n ∧ n ≤ 4) (hM : ∀ j, 0 ≤ M j ∧ M j ≤ 3) (hpos : Pos M n) (hB : Bas M n (gk M n, grk M n, gE M n)) (h : ∀ k, A k = 1 → B k = 1) (g : MkA M n A) : MkA M n B := fun e he => (jn_iff hn hM hpos hB ⟨by omega, he⟩).2 (((jn_iff hn hM hpos hB ⟨by omega, he⟩).1 (g e he)).mono h)
/-- what is left of the switches: a basis, of the old ones, none to be spared -/
theorem rd_ok {M : Int → Int} {n : Int} (hn : 2 ≤ n ∧ n ≤ 4) (hM : ∀ j, 0 ≤ M j ∧ M j ≤ 3) (hpos : Pos M n) (hB : Bas M n (gk M n, grk M n, gE M n)) : ∀ (k : Nat) (A : Nat → Int), (k : Int) ≤ gk M n → MkA M n A →
    MkA M n (rdA M n k A) ∧ (∀ j, rdA M n k A j = A j ∨ rdA M n k A j = 0) ∧ (∀ j, k ≤ j → rdA M n k A j = A j) ∧ ∀ e, e < k → rdA M n k A e = 1 → ¬ MkA M n (swA (rdA M n k A) e 0)
  | 0, A, _, h => ⟨h, fun _ => .inl rfl, fun _ _ => rfl, fun e he => absurd he (Nat.not_lt_zero _)⟩
  | k + 1, A, hk, h => by
    have e := mk_drop (k := k) hn hM hpos hB (by omega) h
    show MkA M n (rdA M n k (@ite _ (A k = 1 ∧ Jn M n (swA A k 0) k) (Classical.propDecidable _) (swA A k 0) A)) ∧ _
    have e0 : rdA M n (k + 1) A = rdA M n k (@ite _ (A k = 1 ∧ Jn M n (swA A k 0) k) (Classical.propDecidable _) (swA A k 0) A) := rfl
    rw [e0]
    by_cases c : A k = 1 ∧ Jn M n (swA A k 0) k
    · rw [if_pos c]
      obtain ⟨i1, i2, i3, i4⟩ := rd_ok hn hM hpos hB k (swA A k 0) (by omega) (e.2 c.2)
      refine ⟨i1, fun j => ?_, fun j hj => ?_, fun j hj hj1 => ?_⟩
      · rcases i2 j with g | g
        · by_cases cj : j = k
          · right; rw [g]; unfold swA; rw [if_pos cj]
          · left; rw [g]; unfold swA; rw [if_neg cj]
        · exact .inr g
      · rw [i3 j (by omega)]; unfold swA; rw [if_neg (by omega)]
      · by_cases cj : j = k
        · rw [i3 j (by omega)] at hj1
          unfold swA at hj1
          rw [if_pos cj] at hj1
          omega
        · exact i4 j (by omega) hj1
    · rw [if_neg c]
      obtain ⟨i1, i2, i3, i4⟩ := rd_ok hn hM hpos hB k A (by omega) h
      refine ⟨i1, i2, fun j hj => i3 j (by omega), fun j hj hj1 hmk => ?_⟩
      by_cases cj : j = k
      · rw [i3 j (by omega)] at hj1
        rw [cj] at hj1 hmk
        refine c ⟨hj1, e.1 (mkA_mono hn hM hpos hB (fun t ht => ?_) hmk)⟩
        unfold swA at ht ⊢
        by_cases ct : t = k
        · rw [if_pos ct] at ht; omega
        · rw [if_neg ct] at ht ⊢
          rcases i2 t with g | g
          · rw [← g]; exact ht
          · rw [g] at ht; omega
      · exact i4 j (by omega) hj1 hmk
theorem ons_sw {A : Nat → Int} {e : Nat} : ∀ k : Nat, ons (swA A e 0) k = ons A k - (if e < k then A e else 0)
  | 0 => rfl
  | k + 1 => by
    unfold ons
    rw [ons_sw k]
    unfold swA
    by_cases c : k = e
    · rw [if_pos c, if_neg (by omega), if_pos (by omega), c]; omega
    · rw [if_neg c]
      by_cases c2 : e < k
      · rw [if_pos c2, if_pos (by omega)]; omega
      · rw [if_neg c2, if_neg (by omega)]; omega
theorem ons_le {A B : Nat → Int} (h : ∀ j, 0 ≤ A j ∧ A j ≤ B j) : ∀ k : Nat, 0 ≤ ons A k ∧ ons A k ≤ ons B k
  | 0 => ⟨Int.le_refl _, Int.le_refl _⟩
  | k + 1 => by
    have := ons_le h k
    have := h k
    unfold ons
    omega
theorem ons_ub {A : Nat → Int} (h : ∀ j, A j ≤ 1) : ∀ k : Nat, ons A k ≤ k
  | 0 => Int.le_refl _
  | k + 1 => by
    have := ons_ub h k
    have := h k
    unfold ons
    omega
theorem ons_ao {A : Nat → Int} {g : Int} (hg : 0 ≤ g) (h : ∀ k : Nat, A k = if (k : Int) < g then 1 else 0) : ∀ k : Nat, ons A k = if (k : Int) < g then (k : Int) else g
  | 0 => by
    show (0 : Int) = _
    split <;> omega
  | k + 1 => by
    unfold ons
    rw [ons_ao hg h k, h k]
    by_cases c : (k : Int) < g
    · rw [if_pos c, if_pos c]
      split <;> omega
    · rw [if_neg c, if_neg c, if_neg (by omega)]; omega
/-- the fiber of a vector looks at its first n entries alone -/
theorem y_ext {M : Int → Int} {n : Int} {y z : Int → Int} (hn : 0 ≤ n) (e : ∀ j, 0 ≤ j ∧ j < n → y j = z j) : fbm M n y = fbm M n z ∧ fbf M n y = fbf M n z ∧ fbY M n y = fbY M n z ∧ stp M n y = stp M n z ∧ ∀ w w' : Int → Int, (∀ j, 0 ≤ j ∧ j < n → w j = w' j) → ixo M n y w = ixo M n z w' := by
  obtain ⟨p1, p2⟩ := fbp_ext (M := M) hn e
  have f1 : fbm M n y = fbm M n z := by unfold fbm; rw [p2]
  have f2 : fbf M n y = fbf M n z := by unfold fbf; rw [p2]
  have f3 : fbY M n y = fbY M n z := by
    funext i
    unfold fbY
    rw [f2, dt_ext (M := M) (r := 0) n.toNat (fun j hj => e j (by omega)), dt_ext (M := M) (r := 1) n.toNat (fun j hj => e j (by omega))]
  have f4 : nxo M n y = nxo M n z := by unfold nxo; rw [f1, f2, f3]
  refine ⟨f1, f2, f3, ?_, fun w w' h => ?_⟩
  · unfold stp; rw [f1, f4]
  · unfold ixo; rw [f1, f2, shf_ext h]
theorem fy_ext {M : Int → Int} {n : Int} {y z : Int → Int} (hn : 0 ≤ n) (e : ∀ j, 0 ≤ j ∧ j < n → y j = z j) : fy M n y = fy M n z := by
  have := (y_ext (M := M) hn e).2.2.1
  unfold fy; rw [this]
theorem dt_nul {M : Int → Int} {r : Int} : ∀ k : Nat, dt M (fun _ => 0) r k = 0
  | 0 => rfl
  | k + 1 => by
    simp only [dt]
    rw [dt_nul k, Int.mul_zero]; rfl
/-- an element whose two parts are alone in their fiber is active in every basis -/
theorem ind_on {M : Int → Int} {n : Int} {A : Nat → Int} {e : Nat} (hn : 2 ≤ n ∧ n ≤ 4) (hM : ∀ j, 0 ≤ M j ∧ M j ≤ 3) (hpos : Pos M n) (hB : Bas M n (gk M n, grk M n, gE M n)) (he : (e : Int) < gk M n) (h2 : fbm M n (gp M n e 1) = 2) (hA : MkA M n A) : A e = 1 := by
  apply Classical.byContradiction
  intro hna
  have he' : 0 ≤ (e : Int) ∧ (e : Int) < gk M n := by omega
  obtain ⟨kr, kb, kl, kz⟩ := bas_el hB he'
  have R := (jn_iff hn hM hpos hB he').1 (hA e he)
  obtain ⟨i1, i2⟩ := gp_in (M := M) (e := (e : Int)) hn kb kr
  have hF : FibP M n (gp M n e 1) (fbm M n (gp M n e 1), fbf M n (gp M n e 1)) := fibP_ok hn hpos
  have gb : ∀ s : Int, (s = 1 ∨ s = -1) → ∀ j, 0 ≤ j ∧ j < n → 0 ≤ gp M n e s j ∧ gp M n e s j ≤ 9 := fun s hs j hj => gp_b hs (kb j hj)
  -- every vector of the fiber is one of the two
  have two : ∀ z : Int → Int, FSn M n (dt M (gp M n e 1) 0 n.toNat) (dt M (gp M n e 1) 1 n.toNat) z → (∀ j, 0 ≤ j ∧ j < n → z j = gp M n e 1 j) ∨ ∀ j, 0 ≤ j ∧ j < n → z j = gp M n e (-1) j := fun z hz => by
    have num : ∀ w : Int → Int, FSn M n (dt M (gp M n e 1) 0 n.toNat) (dt M (gp M n e 1) 1 n.toNat) w → (0 ≤ ixo M n (gp M n e 1) w ∧ ixo M n (gp M n e 1) w < 2) ∧ ∀ j, 0 ≤ j ∧ j < n → fy M n (gp M n e 1) (ixo M n (gp M n e 1) w) j = w j := fun w hw => by
      have r := ix_in hn hpos hF hw
      have q : fbf M n (gp M n e 1) (ixo M n (gp M n e 1) w) = cd4 (shf n w) := by
        rcases ixo_ok M n (gp M n e 1) w with ⟨_, _, h⟩ | ⟨h, _⟩
        · exact h
        · omega
      exact ⟨by omega, fy_of hn hF r (fun j hj => hw.1 j hj) q⟩
    obtain ⟨za, zb⟩ := num z hz
    obtain ⟨pa, pb⟩ := num _ i1
    obtain ⟨na, nb⟩ := num _ i2
    have hne : ixo M n (gp M n e 1) (gp M n e 1) ≠ ixo M n (gp M n e 1) (gp M n e (-1)) := fun h => by
      obtain ⟨l, l0, l1, l2, l3⟩ := kl
      have a := pb l ⟨l0, l1⟩
      have b := nb l ⟨l0, l1⟩
      rw [h, b] at a
      have := (@gp_c M n (e : Int) l).1
      omega
    by_cases c : ixo M n (gp M n e 1) z = ixo M n (gp M n e 1) (gp M n e 1)
    · left; intro j hj; rw [← zb j hj, c, pb j hj]
    · right; intro j hj
      rw [← zb j hj, show ixo M n (gp M n e 1) z = ixo M n (gp M n e 1) (gp M n e (-1)) by omega, nb j hj]
  have key := R (fun v => ∀ j, 0 ≤ j ∧ j < n → v j = gp M n e 1 j) (fun _ _ => rfl) (fun u v e' s hu he2 ha hs hv => ?_) (fun u v hu huv j hj => by rw [← huv j hj]; exact hu j hj)
  · obtain ⟨l, l0, l1, l2, l3⟩ := kl
    have := key l ⟨l0, l1⟩
    have := (@gp_c M n (e : Int) l).1
    omega
  · obtain ⟨kr', kb', kl', kz'⟩ := bas_el hB he2
    have zk : ∀ r : Int, dt M (gE M n e') r n.toNat = 0 → dt M v r n.toNat = dt M (gp M n e 1) r n.toNat := fun r hr => by
      have hsd : dt M (fun j => s * gE M n e' j) r n.toNat = 0 := by
        rcases hs with rfl | rfl
        · rw [← hr]; exact dt_ext _ (fun j hj => by omega)
        · have := dt_sub' (M := M) (r := r) (u := fun _ => 0) (v := gE M n e') (w := fun j => -1 * gE M n e' j) n.toNat (fun j _ => by omega)
          have z : dt M (fun _ => 0) r n.toNat = 0 := dt_nul _
          omega
      have := dt_sub' (M := M) (r := r) (u := v) (v := gp M n e 1) (w := fun j => s * gE M n e' j) n.toNat (fun j hj => by rw [(hv j (by omega)).2.2, hu j (by omega)])
      omega
    have vf : FSn M n (dt M (gp M n e 1) 0 n.toNat) (dt M (gp M n e 1) 1 n.toNat) v := ⟨fun j hj => by
      have a := hv j hj
      have b := hu j hj
      have c := gb 1 (.inl rfl) j hj
      have d := kb' j hj
      refine ⟨a.2.1, ?_⟩
      rcases hs with rfl | rfl <;> omega, zk 0 kr'.1, zk 1 kr'.2⟩
    rcases two v vf with g | g
    · exact g
    · exfalso
      -- the step is by e itself
      have st : ∀ j, 0 ≤ j ∧ j < n → gE M n e j = -s * gE M n e' j := fun j hj => by
        have a := (hv j hj).2.2
        rw [g j hj, hu j hj] at a
        have := (@gp_c M n (e : Int) j).1
        rw [Int.neg_mul]
        omega
      have := (bas_uq hB he' he2 (s := -s) (by omega) st).1
      rw [← this, show ((e : Int)).toNat = e by omega] at ha
      exact hna ha
