/-- u lies between 0 and v, place by place -/
def cf (n : Int) (u v : Int → Int) : Prop := ∀ i, 0 ≤ i ∧ i < n → c1 (u i) (v i)
def ng (u : Int → Int) : Int → Int := fun i => -u i
theorem cf_ext {n : Int} {u u' v v' : Int → Int} (hu : ∀ j, 0 ≤ j ∧ j < n → u j = u' j) (hv : ∀ j, 0 ≤ j ∧ j < n → v j = v' j) (h : cf n u v) : cf n u' v' := fun i hi => by
  rw [← hu i hi, ← hv i hi]; exact h i hi
theorem cf_1 {n : Int} {u v : Int → Int} : (∀ i, 0 ≤ i ∧ i < n → c1 (1 * u i) (v i)) ↔ cf n u v := by
  unfold cf
  constructor <;> intro h i hi <;> have := h i hi
  · rw [Int.one_mul] at this; exact this
  · rw [Int.one_mul]; exact this
theorem cf_m1 {n : Int} {u v : Int → Int} : (∀ i, 0 ≤ i ∧ i < n → c1 (-1 * u i) (v i)) ↔ cf n (ng u) v := by
  unfold cf ng
  constructor <;> intro h i hi <;> have := h i hi
  · rw [Int.neg_mul, Int.one_mul] at this; exact this
  · rw [Int.neg_mul, Int.one_mul]; exact this
theorem l2_iae {d n0 : Nat} {Q : PQ} {I : IE} {F : FE} (hd : 2 ≤ d) (hc : 0 ≤ I 42 0 ∧ I 42 0 ≤ 16) (hn : 0 ≤ I 42 3 ∧ I 42 3 ≤ 4) (hE : ∀ j, -100 ≤ F 43 j ∧ F 43 j ≤ 100) (hv : ∀ j, 0 ≤ j ∧ j < 4 → -100 ≤ F 45 j ∧ F 45 j ≤ 100)
    (K1 : ∀ x, (∃ e, 0 ≤ e ∧ e < I 42 0 ∧ (cf (I 42 3) (en F e) (F 45) ∨ cf (I 42 3) (ng (en F e)) (F 45))) → WS m2_isAboveAnElement d 0 0 n0 Q 0 0 36 [lr 42, x] [] shX I F)
    (K0 : ∀ x, (¬ ∃ e, 0 ≤ e ∧ e < I 42 0 ∧ (cf (I 42 3) (en F e) (F 45) ∨ cf (I 42 3) (ng (en F e)) (F 45))) → WS m2_isAboveAnElement d 0 0 n0 Q 0 0 44 [lr 42, x] [] shX I F) :
    ∀ (m k : Nat), (k + m : Int) = I 42 0 → (∀ e, 0 ≤ e ∧ e < (k : Int) → ¬ (cf (I 42 3) (en F e) (F 45) ∨ cf (I 42 3) (ng (en F e)) (F 45))) → WS m2_isAboveAnElement d 0 0 n0 Q 0 0 2 [lr 42, li k] [] shX I F := by
  intro m
  induction m with
  | zero =>
    intro k hk hP
    refine w_iload i2_isAboveAnElement_2 rfl ?_
    refine w_aload i2_isAboveAnElement_3 rfl ?_
    refine w_get i2_isAboveAnElement_4 rfl rfl ?_
    refine w_icmpge i2_isAboveAnElement_7 (fun h7 => ?_) (fun h_ => absurd h_ (by omega))
    exact K0 _ (fun ⟨e, h1, h2, h3⟩ => hP e (by omega) h3)
  | succ m ih =>
    intro k hk hP
    refine w_iload i2_isAboveAnElement_2 rfl ?_
    refine w_aload i2_isAboveAnElement_3 rfl ?_
    refine w_get i2_isAboveAnElement_4 rfl rfl ?_
    refine w_icmpge i2_isAboveAnElement_7 (fun h_ => absurd h_ (by omega)) (fun _ => ?_)
    refine w_aload i2_isAboveAnElement_10 rfl ?_
    refine w_iload i2_isAboveAnElement_11 rfl ?_
    refine w_const i2_isAboveAnElement_12 ?_
    refine w_aload i2_isAboveAnElement_13 rfl ?_
    refine w_getr i2_isAboveAnElement_14 rfl rfl ?_
    refine w_cVP i2_isAboveAnElement_17 f2_conforms v2_conforms (s2_conforms (N := 4) (by omega) (by omega) (Or.inl rfl) hn hE rfl (by omega) hv) rfl rfl (by decide) rfl rfl (Nat.le_of_ble_eq_true rfl) (by omega) (fun v hv1 => ?_)
    refine w_ifne i2_isAboveAnElement_20 (fun h20 => ?_) (fun h20 => ?_)
    · first
      | (have h20' : ¬ v = 0 := h20
         refine K1 _ ⟨k, by omega, by omega, Or.inl (cf_1.mp ?_)⟩
         rcases hv1 with h | h
         · exact h.2
         · exact absurd h.1 h20)
      | (refine K1 _ ⟨k, by omega, by omega, Or.inr (cf_m1.mp ?_)⟩
         rcases hv2 with h | h
         · exact h.2
         · exact absurd h.1 (by omega))
    · refine w_aload i2_isAboveAnElement_23 rfl ?_
      refine w_iload i2_isAboveAnElement_24 rfl ?_
      refine w_const i2_isAboveAnElement_25 ?_
      refine w_aload i2_isAboveAnElement_26 rfl ?_
      refine w_getr i2_isAboveAnElement_27 rfl rfl ?_
      refine w_cVP i2_isAboveAnElement_30 f2_conforms v2_conforms (s2_conforms (N := 4) (by omega) (by omega) (Or.inr rfl) hn hE rfl (by omega) hv) rfl rfl (by decide) rfl rfl (Nat.le_of_ble_eq_true rfl) (by omega) (fun v2 hv2 => ?_)
      refine w_ifeq i2_isAboveAnElement_33 (fun h33 => ?_) (fun h33 => ?_)
      · refine w_ii1 i2_isAboveAnElement_38 (by omega) ?_
        refine w_goto i2_isAboveAnElement_41 ?_
        refine ih (k + 1) (by omega) (fun e he => ?_)
        by_cases hek : e = k
        · subst hek
          rintro (h | h)
          · rcases hv1 with g | g
            · exact absurd g.1 (by omega)
            · exact g.2 (cf_1.mpr h)
          · rcases hv2 with g | g
            · exact absurd g.1 (by omega)
            · exact g.2 (cf_m1.mpr h)
        · exact hP e (by omega)
      · first
        | (have h20' : ¬ v = 0 := h20
           refine K1 _ ⟨k, by omega, by omega, Or.inl (cf_1.mp ?_)⟩
           rcases hv1 with h | h
           · exact h.2
           · exact absurd h.1 h20)
        | (refine K1 _ ⟨k, by omega, by omega, Or.inr (cf_m1.mp ?_)⟩
           rcases hv2 with h | h
           · exact h.2
           · exact absurd h.1 (by omega))
theorem s2_isAboveAnElement {d : Nat} {I : IE} {F : FE} (hd : 2 ≤ d) (hc : 0 ≤ I 42 0 ∧ I 42 0 ≤ 16) (hn : 0 ≤ I 42 3 ∧ I 42 3 ≤ 4) (hE : ∀ j, -100 ≤ F 43 j ∧ F 43 j ≤ 100) (hv : ∀ j, 0 ≤ j ∧ j < 4 → -100 ≤ F 45 j ∧ F 45 j ≤ 100) :
    MP m2_isAboveAnElement d shX [rv 42] I F (tf (∃ e, 0 ≤ e ∧ e < I 42 0 ∧ (cf (I 42 3) (en F e) (F 45) ∨ cf (I 42 3) (ng (en F e)) (F 45)))) := by
  refine MS_of (ls := [lr 42, lu]) f2_isAboveAnElement rfl rfl (Nat.le_of_ble_eq_true rfl) ?_
  refine w_const i2_isAboveAnElement_0 ?_
  refine w_is1 i2_isAboveAnElement_1 ?_
  refine l2_iae hd hc hn hE hv (fun x h => ?_) (fun x h => ?_) (I 42 0).toNat 0 (by omega) (fun i hi => absurd hi (by omega))
  · refine w_const i2_isAboveAnElement_36 ?_
    refine w_iret i2_isAboveAnElement_37 (Or.inr ⟨rfl, by omega⟩) ⟨Nat.le_refl _, Nat.le_refl _⟩ ?_
    exact ⟨rfl, _, rfl, Or.inl ⟨rfl, h⟩, rfl, rfl⟩
  · refine w_const i2_isAboveAnElement_44 ?_
    refine w_iret i2_isAboveAnElement_45 (Or.inr ⟨rfl, by omega⟩) ⟨Nat.le_refl _, Nat.le_refl _⟩ ?_
    exact ⟨rfl, _, rfl, Or.inr ⟨rfl, h⟩, rfl, rfl⟩
/-- what has been kept of the candidates ahead of the m-th -/
def KInv (M : Int → Int) (n b : Int) (f : Int → Int) (m k : Int) (E : Int → Int → Int) : Prop :=
  (∀ e, 0 ≤ e ∧ e < k → Cnd M n b (E e) ∧ ∃ i, 0 ≤ i ∧ i < m ∧ f i = kc (E e)) ∧ (∀ e e', 0 ≤ e ∧ e < e' ∧ e' < k → kc (E e) < kc (E e') ∧ ¬ cf n (E e) (E e') ∧ ¬ cf n (ng (E e)) (E e')) ∧
  ∀ i z, 0 ≤ i ∧ i < m → Cnd M n b z → f i = kc z → ∃ e, 0 ≤ e ∧ e < k ∧ (cf n (E e) z ∨ cf n (ng (E e)) z)
theorem c1_rf (x : Int) : c1 x x := by unfold c1; omega
theorem KInv.skip {M : Int → Int} {n b : Int} {f : Int → Int} {m k : Int} {E : Int → Int → Int} {z : Int → Int} (h : KInv M n b f m k E) (hb : b ≤ 9) (hz : Cnd M n b z) (hf : f m = kc z) (ha : ∃ e, 0 ≤ e ∧ e < k ∧ (cf n (E e) z ∨ cf n (ng (E e)) z)) (hn : n ≤ 4) : KInv M n b f (m + 1) k E := by
  obtain ⟨h1, h2, h3⟩ := h
  refine ⟨fun e he => ⟨(h1 e he).1, ?_⟩, h2, fun i y hi hy hfi => ?_⟩
  · obtain ⟨i, i1, i2, i3⟩ := (h1 e he).2
    exact ⟨i, i1, by omega, i3⟩
  · by_cases him : i = m
    · subst him
      have e := kc_inj (hz.b9 hb) (hy.b9 hb) (by rw [← hf, ← hfi])
      obtain ⟨q, q1, q2, q3⟩ := ha
      refine ⟨q, q1, q2, ?_⟩
      rcases q3 with g | g
      · exact Or.inl (cf_ext (fun _ _ => rfl) (fun j hj => e j (by omega)) g)
      · exact Or.inr (cf_ext (fun _ _ => rfl) (fun j hj => e j (by omega)) g)
    · exact h3 i y (by omega) hy hfi
theorem Cnd.ext {M : Int → Int} {n b : Int} {z y : Int → Int} (h : Cnd M n b z) (hn : 0 ≤ n ∧ n ≤ 4) (e : ∀ j, 0 ≤ j ∧ j < 4 → z j = y j) : Cnd M n b y :=
  ⟨h.1.ext (fun j hj => e j (by omega)), fun j hj => by rw [← e j (by omega)]; exact h.2.1 j hj, lead_ext h.2.2.1 (fun j hj => e j (by omega)), fun j hj => by rw [← e j (by omega)]; exact h.2.2.2 j hj⟩
theorem ng_ext {u v : Int → Int} {j : Int} (h : u j = v j) : ng u j = ng v j := by unfold ng; rw [h]
theorem KInv.put {M : Int → Int} {n b : Int} {f : Int → Int} {m k : Int} {E E' : Int → Int → Int} {z : Int → Int} (h : KInv M n b f m k E) (hb : b ≤ 9) (hz : Cnd M n b z) (hf : f m = kc z) (hs : ∀ i, 0 ≤ i ∧ i < m → f i < f m) (ha : ¬ ∃ e, 0 ≤ e ∧ e < k ∧ (cf n (E e) z ∨ cf n (ng (E e)) z)) (hm : 0 ≤ m) (hk : 0 ≤ k) (hn : 0 ≤ n ∧ n ≤ 4)
    (hE : ∀ e, 0 ≤ e ∧ e < k → ∀ j, 0 ≤ j ∧ j < 4 → E' e j = E e j) (hE2 : ∀ j, 0 ≤ j ∧ j < 4 → E' k j = z j) : KInv M n b f (m + 1) (k + 1) E' := by
  obtain ⟨h1, h2, h3⟩ := h
  have ck : Cnd M n b (E' k) := hz.ext hn (fun j hj => (hE2 j hj).symm)
  have kk : kc (E' k) = kc z := kc_ext hE2
  have ke : ∀ e, 0 ≤ e ∧ e < k → kc (E' e) = kc (E e) := fun e he => kc_ext (hE e he)
  refine ⟨fun e he => ?_, fun e e' hee => ?_, fun i y hi hy hfi => ?_⟩
  · by_cases hek : e = k
    · subst hek
      exact ⟨ck, m, hm, by omega, by rw [kk]; exact hf⟩
    · obtain ⟨g1, i, i1, i2, i3⟩ := h1 e (by omega)
      exact ⟨g1.ext hn (fun j hj => (hE e (by omega) j hj).symm), i, i1, by omega, by rw [ke e (by omega)]; exact i3⟩
  · by_cases hek : e' = k
    · subst hek
      rw [ke e (by omega), kk]
      obtain ⟨g1, i, i1, i2, i3⟩ := h1 e (by omega)
      refine ⟨by rw [← i3, ← hf]; exact hs i ⟨i1, i2⟩, fun g => ha ⟨e, by omega, by omega, Or.inl (cf_ext (fun j hj => hE e (by omega) j (by omega)) (fun j hj => hE2 j (by omega)) g)⟩, fun g => ha ⟨e, by omega, by omega, Or.inr (cf_ext (fun j hj => ng_ext (hE e (by omega) j (by omega))) (fun j hj => hE2 j (by omega)) g)⟩⟩
    · rw [ke e (by omega), ke e' (by omega)]
      obtain ⟨g1, g2, g3⟩ := h2 e e' (by omega)
      exact ⟨g1, fun g => g2 (cf_ext (fun j hj => hE e (by omega) j (by omega)) (fun j hj => hE e' (by omega) j (by omega)) g), fun g => g3 (cf_ext (fun j hj => ng_ext (hE e (by omega) j (by omega))) (fun j hj => hE e' (by omega) j (by omega)) g)⟩
  · by_cases him : i = m
    · subst him
      have e := kc_inj (hz.b9 hb) (hy.b9 hb) (by rw [← hf, ← hfi])
      exact ⟨k, hk, by omega, Or.inl (fun j hj => by rw [hE2 j (by omega), e j (by omega)]; exact c1_rf _)⟩
    · obtain ⟨q, q1, q2, q3⟩ := h3 i y (by omega) hy hfi
      exact ⟨q, q1, by omega, q3.imp (cf_ext (fun j hj => (hE q (by omega) j (by omega)).symm) (fun _ _ => rfl)) (cf_ext (fun j hj => (ng_ext (hE q (by omega) j (by omega))).symm) (fun _ _ => rfl))⟩
theorem l2_klc {d n0 : Nat} {Q : PQ} {I : IE} {F : FE} {M : Int → Int} {n b : Int} (hd : 3 ≤ d) (hn : 0 ≤ n ∧ n ≤ 4) (h3 : I 42 3 = n) (hb : b ≤ 9) (hcn : 0 ≤ I 42 13 ∧ I 42 13 ≤ 180) (hmem : ∀ i, 0 ≤ i ∧ i < I 42 13 → ∃ z, Cnd M n b z ∧ F 46 i = kc z) (hsrt : ∀ i j, 0 ≤ i ∧ i < j ∧ j < I 42 13 → F 46 i < F 46 j)
    (hcap : ∀ m k E, 0 ≤ m → m ≤ I 42 13 → 0 ≤ k → KInv M n b (F 46) m k E → k ≤ 15)
    (K : ∀ x k F', 0 ≤ k → k ≤ 15 → (∀ a, a ≠ 43 → a ≠ 45 → F' a = F a) → (∀ j, -100 ≤ F' 43 j ∧ F' 43 j ≤ 100) → KInv M n b (F 46) (I 42 13) k (en F') → WS m2_keepLeastCandidates d 0 0 n0 Q 0 0 76 [lr 42, x] [] shX (upI I 42 0 k) F') :
    ∀ (m c : Nat) (k : Int) (F' : FE), (c + m : Int) = I 42 13 → 0 ≤ k → (∀ a, a ≠ 43 → a ≠ 45 → F' a = F a) → (∀ j, -100 ≤ F' 43 j ∧ F' 43 j ≤ 100) → KInv M n b (F 46) c k (en F') → WS m2_keepLeastCandidates d 0 0 n0 Q 0 0 7 [lr 42, li c] [] shX (upI I 42 0 k) F' := by
  have u : ∀ (k : Int) (a j : Nat), (a ≠ 42 ∨ j ≠ 0) → upI I 42 0 k a j = I a j := fun k a j h => by simp only [upI]; rw [if_neg (by omega)]
  have u0 : ∀ k : Int, upI I 42 0 k 42 0 = k := fun k => by simp [upI]
  intro m
  induction m with
  | zero =>
    intro c k G hc hk hF hE hI
    have u13 := u k 42 13 (by omega)
    have ec : (c : Int) = I 42 13 := by omega
    have := hcap c k _ (by omega) (by omega) hk hI
    rw [ec] at hI
    refine w_iload i2_keepLeastCandidates_7 rfl ?_
    refine w_aload i2_keepLeastCandidates_8 rfl ?_
    refine w_get i2_keepLeastCandidates_9 rfl rfl ?_
    refine w_icmpge i2_keepLeastCandidates_12 (fun h12 => ?_) (fun h_ => absurd h_ (by omega))
    exact K _ k G hk this hF hE hI
  | succ m ih =>
    intro c k G hc hk hF hE hI
    have u13 := u k 42 13 (by omega)
    have u3 := u k 42 3 (by omega)
    have hk15 := hcap c k _ (by omega) (by omega) hk hI
    have e46 : G 46 = F 46 := hF 46 (by decide) (by decide)
    obtain ⟨z, hz, hkz⟩ := hmem c (by omega)
    have ecell : G 46 c = kc z := by rw [e46]; exact hkz
    have h0 := u0 k
    refine w_iload i2_keepLeastCandidates_7 rfl ?_
    refine w_aload i2_keepLeastCandidates_8 rfl ?_
    refine w_get i2_keepLeastCandidates_9 rfl rfl ?_
    refine w_icmpge i2_keepLeastCandidates_12 (fun h_ => absurd h_ (by omega)) (fun h12 => ?_)
    refine w_aload i2_keepLeastCandidates_15 rfl ?_
    refine w_aload i2_keepLeastCandidates_16 rfl ?_
    refine w_getr i2_keepLeastCandidates_17 rfl rfl ?_
    refine w_iload i2_keepLeastCandidates_20 rfl ?_
    refine w_iald i2_keepLeastCandidates_21 rfl (by omega) ?_
    rw [ecell]
    refine w_cVU i2_keepLeastCandidates_22 f2_decode v2_decode (s2_decode (hz.b9 hb)) rfl rfl (by decide) rfl rfl (Nat.le_of_ble_eq_true rfl) (by omega) (fun I' F' hq => ?_)
    obtain ⟨rfl, p1, p2⟩ := hq
    have e43 : F' 43 = G 43 := p2 43 (by decide)
    have een : ∀ e, en F' e = en G e := fun e => by funext i; unfold en; rw [e43]
    have hb45 : ∀ j, 0 ≤ j ∧ j < 4 → -100 ≤ F' 45 j ∧ F' 45 j ≤ 100 := fun j hj => by rw [p1 j hj]; have := hz.b9 hb j hj; omega
    have habove : (∃ e, 0 ≤ e ∧ e < k ∧ (cf n (en F' e) (F' 45) ∨ cf n (ng (en F' e)) (F' 45))) ↔ ∃ e, 0 ≤ e ∧ e < k ∧ (cf n (en G e) z ∨ cf n (ng (en G e)) z) := by
      constructor
      · rintro ⟨e, g1, g2, g3⟩
        rw [een] at g3
        exact ⟨e, g1, g2, g3.imp (cf_ext (fun _ _ => rfl) (fun j hj => p1 j (by omega))) (cf_ext (fun _ _ => rfl) (fun j hj => p1 j (by omega)))⟩
      · rintro ⟨e, g1, g2, g3⟩
        rw [← een] at g3
        exact ⟨e, g1, g2, g3.imp (cf_ext (fun _ _ => rfl) (fun j hj => (p1 j (by omega)).symm)) (cf_ext (fun _ _ => rfl) (fun j hj => (p1 j (by omega)).symm))⟩
    refine w_aload i2_keepLeastCandidates_25 rfl ?_
    refine w_get i2_keepLeastCandidates_26 rfl rfl ?_
    refine w_const i2_keepLeastCandidates_29 ?_
    refine w_icmpge i2_keepLeastCandidates_31 (fun h_ => absurd h_ (by omega)) (fun h31 => ?_)
    refine w_aload i2_keepLeastCandidates_34 rfl ?_
    refine w_cVP i2_keepLeastCandidates_35 f2_isAboveAnElement v2_isAboveAnElement (s2_isAboveAnElement (by omega) (by rw [h0]; omega) (by rw [u3, h3]; exact hn) (by rw [e43]; exact hE) hb45) rfl rfl (by decide) rfl rfl (Nat.le_of_ble_eq_true rfl) (by omega) (fun v hv => ?_)
    rw [h0, u3, h3] at hv
    rw [habove] at hv
    refine w_ifne i2_keepLeastCandidates_38 (fun h38 => ?_) (fun h38 => ?_)
    · refine w_ii1 i2_keepLeastCandidates_70 (by omega) ?_
      refine w_goto i2_keepLeastCandidates_73 ?_
      have hcc : ((c + 1 : Nat) : Int) = (c : Int) + 1 := by omega
      first
      | (have h38' : ¬ v = 0 := h38
         refine ih (c + 1) k _ (by omega) hk (fun a h1 h2 => by rw [p2 a h2]; exact hF a h1 h2) (by rw [e43]; exact hE) ?_
         rw [hcc, show en F' = en G from funext een]
         refine hI.skip hb hz hkz ?_ hn.2
         rcases hv with h | h
         · exact h.2
         · exact absurd h.1 h38)
      | (rw [upI_upI]
         refine ih (c + 1) (k + 1) _ (by omega) (by omega) (fun a h1 h2 => ?_) (fun j => ?_) ?_
         · funext i
           simp only [cpF]
           rw [if_neg (fun q => h1 q.1), p2 a h2]
           exact congrFun (hF a h1 h2) i
         · simp only [cpF, true_and]
           split
           · exact hb45 _ (by omega)
           · rw [e43]; exact hE j
         · rw [hcc]
           refine hI.put hb hz hkz (fun i hi => hsrt i c (by omega)) ?_ (by omega) hk hn (fun e he j hj => ?_) (fun j hj => ?_)
           · rcases hv with h | h
             · exact absurd h.1 (by omega)
             · exact h.2
           · simp only [en, cpF, true_and]
             rw [if_neg (by omega), e43]
           · simp only [en, cpF, true_and]
             rw [if_pos (by omega), show 0 + (k * 4 + j - k * 4) = j by omega]
             exact p1 j hj)
    · refine w_aload i2_keepLeastCandidates_41 rfl ?_
      refine w_getr i2_keepLeastCandidates_42 rfl rfl ?_
      refine w_const i2_keepLeastCandidates_45 ?_
      refine w_aload i2_keepLeastCandidates_46 rfl ?_
      refine w_getr i2_keepLeastCandidates_47 rfl rfl ?_
      refine w_aload i2_keepLeastCandidates_50 rfl ?_
      refine w_get i2_keepLeastCandidates_51 rfl rfl ?_
      rw [h0]
      refine w_const i2_keepLeastCandidates_54 ?_
      refine w_imul i2_keepLeastCandidates_55 (by omega) ?_
      refine w_const i2_keepLeastCandidates_56 ?_
      refine w_copy i2_keepLeastCandidates_57 rfl rfl (by omega) (by omega) (by omega) (Nat.le_of_ble_eq_true rfl) ?_
      refine w_aload i2_keepLeastCandidates_60 rfl ?_
      refine w_dup i2_keepLeastCandidates_61 ?_
      refine w_get i2_keepLeastCandidates_62 rfl rfl ?_
      rw [h0]
      refine w_const i2_keepLeastCandidates_65 ?_
      refine w_iadd i2_keepLeastCandidates_66 (by omega) ?_
      refine w_put i2_keepLeastCandidates_67 rfl rfl (Or.inl rfl) ?_
      refine w_ii1 i2_keepLeastCandidates_70 (by omega) ?_
      refine w_goto i2_keepLeastCandidates_73 ?_
      have hcc : ((c + 1 : Nat) : Int) = (c : Int) + 1 := by omega
      first
      | (have h38' : ¬ v = 0 := h38
         refine ih (c + 1) k _ (by omega) hk (fun a h1 h2 => by rw [p2 a h2]; exact hF a h1 h2) (by rw [e43]; exact hE) ?_
         rw [hcc, show en F' = en G from funext een]
         refine hI.skip hb hz hkz ?_ hn.2
         rcases hv with h | h
         · exact h.2
         · exact absurd h.1 h38)
      | (rw [upI_upI]
         refine ih (c + 1) (k + 1) _ (by omega) (by omega) (fun a h1 h2 => ?_) (fun j => ?_) ?_
         · funext i
           simp only [cpF]
           rw [if_neg (fun q => h1 q.1), p2 a h2]
           exact congrFun (hF a h1 h2) i
         · simp only [cpF, true_and]
           split
           · exact hb45 _ (by omega)
           · rw [e43]; exact hE j
         · rw [hcc]
           refine hI.put hb hz hkz (fun i hi => hsrt i c (by omega)) ?_ (by omega) hk hn (fun e he j hj => ?_) (fun j hj => ?_)
           · rcases hv with h | h
             · exact absurd h.1 (by omega)
             · exact h.2
           · simp only [en, cpF, true_and]
             rw [if_neg (by omega), e43]
           · simp only [en, cpF, true_and]
             rw [if_pos (by omega), show 0 + (k * 4 + j - k * 4) = j by omega]
             exact p1 j hj)
theorem s2_keepLeastCandidates {d : Nat} {I : IE} {F : FE} {M : Int → Int} {n b : Int} (hd : 3 ≤ d) (hn : 0 ≤ n ∧ n ≤ 4) (h3 : I 42 3 = n) (hb : b ≤ 9) (hcn : 0 ≤ I 42 13 ∧ I 42 13 ≤ 180) (hmem : ∀ i, 0 ≤ i ∧ i < I 42 13 → ∃ z, Cnd M n b z ∧ F 46 i = kc z) (hsrt : ∀ i j, 0 ≤ i ∧ i < j ∧ j < I 42 13 → F 46 i < F 46 j)
    (hE : ∀ j, -100 ≤ F 43 j ∧ F 43 j ≤ 100) (hcap : ∀ m k E, 0 ≤ m → m ≤ I 42 13 → 0 ≤ k → KInv M n b (F 46) m k E → k ≤ 15) :
    MU m2_keepLeastCandidates d shX [rv 42] I F (fun I' F' => ∃ k, I' = upI I 42 0 k ∧ 0 ≤ k ∧ k ≤ 15 ∧ (∀ a, a ≠ 43 → a ≠ 45 → F' a = F a) ∧ (∀ j, -100 ≤ F' 43 j ∧ F' 43 j ≤ 100) ∧ KInv M n b (F 46) (I 42 13) k (en F')) := by
  refine MS_of (ls := [lr 42, lu]) f2_keepLeastCandidates rfl rfl (Nat.le_of_ble_eq_true rfl) ?_
  refine w_aload i2_keepLeastCandidates_0 rfl ?_
  refine w_const i2_keepLeastCandidates_1 ?_
  refine w_put i2_keepLeastCandidates_2 rfl rfl (Or.inl rfl) ?_
  refine w_const i2_keepLeastCandidates_5 ?_
  refine w_is1 i2_keepLeastCandidates_6 ?_
  refine l2_klc (F := F) hd hn h3 hb hcn hmem hsrt hcap (fun x k F' h1 h2 h3 h4 h5 => ?_) (I 42 13).toNat 0 0 F (by omega) (by omega) (fun _ _ _ => rfl) hE ⟨fun e he => absurd he (by omega), fun e e' he => absurd he (by omega), fun i z hi => absurd hi (by omega)⟩
  refine w_vret i2_keepLeastCandidates_76 rfl ⟨Nat.le_refl _, Nat.le_refl _⟩ ?_
  exact ⟨rfl, rfl, k, rfl, h1, h2, h3, h4, h5⟩
/-- the elements as they stand behind a building: rows of vectors within the bound, ascending, none above an earlier one, and every vector within the bound lies above one -/
def Bsp (M : Int → Int) (n b k : Int) (E : Int → Int → Int) : Prop :=
  (∀ e, 0 ≤ e ∧ e < k → Cnd M n b (E e)) ∧ (∀ e e', 0 ≤ e ∧ e < e' ∧ e' < k → kc (E e) < kc (E e') ∧ ¬ cf n (E e) (E e') ∧ ¬ cf n (ng (E e)) (E e')) ∧ ∀ z, Cnd M n b z → ∃ e, 0 ≤ e ∧ e < k ∧ (cf n (E e) z ∨ cf n (ng (E e)) z)
def PVr (M : Int → Int) (n : Int) (r b : Int) : Prop := (r = 0 ∧ b = 1 ∧ ∀ c, 0 ≤ c ∧ c < n → M c = 0 ∧ M (4 + c) = 0) ∨ (r = 1 ∧ b = 3 ∧ (∃ p c, 0 ≤ p ∧ p ≤ 1 ∧ 0 ≤ c ∧ c < n ∧ M (p * 4 + c) ≠ 0) ∧ ∀ x y, 0 ≤ x ∧ x < y ∧ y < n → mnr M x y = 0) ∨ (r = 2 ∧ b = 9 ∧ ∃ x y, 0 ≤ x ∧ x < y ∧ y < n ∧ mnr M x y ≠ 0)
theorem PVs.r {M : Int → Int} {n : Int} {I : IE} (h : PVs M n I) : PVr M n (I 42 1) (I 42 4) := by
  rcases h with ⟨h1, h2, -, -, -, h6⟩ | ⟨⟨h1, h2, -, h4, h5, h6, h7⟩, h8⟩ | ⟨h1, h2, h3, h4, h5, h6, h7⟩
  · exact Or.inl ⟨h1, h2, h6⟩
  · exact Or.inr (Or.inl ⟨h1, h2, ⟨_, _, h4.1, h4.2, h5.1, h5.2, by rw [← h6]; exact h7⟩, h8⟩)
  · exact Or.inr (Or.inr ⟨h1, h2, _, _, h3, h4, h5, by rw [← h6]; exact h7⟩)
/-- what a building of the basis may change -/
def Bfr (I I' : IE) (F F' : FE) : Prop := (∀ a k, a ≠ 42 → I' a k = I a k) ∧ ∀ a, a ≠ 43 → a ≠ 44 → a ≠ 45 → a ≠ 46 → F' a = F a
theorem s2_build {d : Nat} {I : IE} {F : FE} (hd : 4 ≤ d) (hn : 0 ≤ I 1 1 ∧ I 1 1 ≤ 4) (hM : ∀ j, 0 ≤ F 2 j ∧ F 2 j ≤ 3) (hE : ∀ j, -100 ≤ F 43 j ∧ F 43 j ≤ 100)
    (hcap : ∀ r b f m k E, PVr (F 2) (I 1 1) r b → (∀ i j, 0 ≤ i ∧ i < j ∧ j < m → f i < f j) → (∀ i, 0 ≤ i ∧ i < m → ∃ z, Cnd (F 2) (I 1 1) b z ∧ f i = kc z) → (∀ z, Cnd (F 2) (I 1 1) b z → ∀ i, 0 ≤ i ∧ i < m → kc z ≤ f i → ∃ j, 0 ≤ j ∧ j < m ∧ f j = kc z) → 0 ≤ k → KInv (F 2) (I 1 1) b f m k E → k ≤ 15) :
    MU m2_build d shX [rv 42, rv 1] I F (fun I' F' => Bfr I I' F F' ∧ I' 42 3 = I 1 1 ∧ 0 ≤ I' 42 0 ∧ I' 42 0 ≤ 15 ∧ (∀ j, -100 ≤ F' 43 j ∧ F' 43 j ≤ 100) ∧ ∃ b, PVr (F 2) (I 1 1) (I' 42 1) b ∧ Bsp (F 2) (I 1 1) b (I' 42 0) (en F')) := by
  refine MS_of (ls := [lr 42, lr 1]) f2_build rfl rfl (Nat.le_of_ble_eq_true rfl) ?_
  refine w_aload i2_build_0 rfl ?_
  refine w_aload i2_build_1 rfl ?_
  refine w_get i2_build_2 rfl rfl ?_
  refine w_put i2_build_5 rfl rfl (Or.inl rfl) ?_
  refine w_aload i2_build_8 rfl ?_
  refine w_aload i2_build_9 rfl ?_
  refine w_cVU i2_build_10 f2_choosePivots v2_choosePivots (s2_choosePivots (by omega) (by simp [upI]; exact hn) hM) rfl rfl (by decide) rfl rfl (Nat.le_of_ble_eq_true rfl) (by omega) (fun I' F' hq => ?_)
  obtain ⟨eF, pf, hP⟩ := hq
  rw [eF]
  have e3 : I' 42 3 = I 1 1 := by rw [pf 42 3 (by omega)]; simp [upI]
  have e11 : I' 1 1 = I 1 1 := by rw [pf 1 1 (by omega)]; simp [upI]
  have eo : ∀ a k, a ≠ 42 → I' a k = I a k := fun a k ha => by rw [pf a k (by omega)]; simp [upI, ha]
  have hP : PVs (F 2) (I 1 1) I' := by
    have := hP
    simp only [upI] at this
    exact this
  refine w_aload i2_build_13 rfl ?_
  refine w_cVU i2_build_14 f2_listFreeColumns v2_listFreeColumns (s2_listFreeColumns (by rw [e3]; exact hn)) rfl rfl (by decide) rfl rfl (Nat.le_of_ble_eq_true rfl) (by omega) (fun I2 F2 hq => ?_)
  obtain ⟨fc, hfn, h9, hI2, hF2, hfree⟩ := hq
  rw [e3] at hfn hfree
  have f3 : I2 42 3 = I 1 1 := by rw [hI2 42 3 (by omega)]; exact e3
  have f11 : I2 1 1 = I 1 1 := by rw [hI2 1 1 (by omega)]; exact e11
  have g2 : F2 2 = F 2 := hF2 2 (by decide)
  have hP2 : PVs (F 2) (I 1 1) I2 := by
    unfold PVs PV0 PV1 PV2 at hP ⊢
    rw [hI2 42 1 (by omega), hI2 42 4 (by omega), hI2 42 5 (by omega), hI2 42 6 (by omega), hI2 42 7 (by omega), hI2 42 8 (by omega)]
    exact hP
  refine w_aload i2_build_17 rfl ?_
  refine w_aload i2_build_18 rfl ?_
  refine w_cVU i2_build_19 f2_collectCandidates v2_collectCandidates (s2_collectCandidates (fc := fc) (by omega) (by rw [f11]; exact hn) (by rw [f3, f11]) h9 (by rw [g2]; exact hM) (by rw [g2, f11]; exact hP2) (by rw [f11, hI2 42 5 (by omega), hI2 42 6 (by omega)]; exact hfree) (by rw [f11]; exact hfn)) rfl rfl (by decide) rfl rfl (Nat.le_of_ble_eq_true rfl) (by omega) (fun I3 F3 hq => ?_)
  obtain ⟨m, rfl, m0, m180, hF3, hsrt, hmem⟩ := hq
  rw [g2, f11] at hmem
  have hb9 := (hfree : Free (F2 44) fc (I 1 1) (I' 42 5) (I' 42 6))
  have hb := Free.fc hP2 hn (by rw [hI2 42 5 (by omega), hI2 42 6 (by omega)]; exact hfree) hfn
  have w13 : upI I2 42 13 m 42 13 = m := by simp [upI]
  have w3 : upI I2 42 13 m 42 3 = I 1 1 := by simp [upI]; exact f3
  have w1 : upI I2 42 13 m 42 1 = I2 42 1 := by simp [upI]
  have g43 : F3 43 = F 43 := by rw [hF3 43 (by decide) (by decide), hF2 43 (by decide)]
  have hm1 : ∀ i, 0 ≤ i ∧ i < m → ∃ z, Cnd (F 2) (I 1 1) (I2 42 4) z ∧ F3 46 i = kc z := fun i hi => by
    obtain ⟨z, z1, z2⟩ := (hmem (F3 46 i)).mp ⟨i, hi.1, hi.2, rfl⟩
    exact ⟨z, z1, z2⟩
  have hcap' : ∀ m' k E, 0 ≤ m' → m' ≤ upI I2 42 13 m 42 13 → 0 ≤ k → KInv (F 2) (I 1 1) (I2 42 4) (F3 46) m' k E → k ≤ 15 := by
    intro m' k E h0 hle hk hK
    rw [w13] at hle
    refine hcap (I2 42 1) (I2 42 4) (F3 46) m' k E hP2.r (fun i j hij => hsrt i j (by omega)) (fun i hi => hm1 i (by omega)) (fun z hz i hi hzi => ?_) hk hK
    obtain ⟨j, j1, j2, j3⟩ := (hmem (kc z)).mpr ⟨z, hz, rfl⟩
    refine ⟨j, j1, ?_, j3⟩
    apply Classical.byContradiction
    intro hj
    have := hsrt i j (by omega)
    omega
  refine w_aload i2_build_22 rfl ?_
  refine w_cVU i2_build_23 f2_keepLeastCandidates v2_keepLeastCandidates (s2_keepLeastCandidates (M := F 2) (n := I 1 1) (b := I2 42 4) (by omega) hn w3 hb.2.1 (by rw [w13]; omega) (by rw [w13]; exact hm1) (by rw [w13]; exact hsrt) (by rw [g43]; exact hE) hcap') rfl rfl (by decide) rfl rfl (Nat.le_of_ble_eq_true rfl) (by omega) (fun I4 F4 hq => ?_)
  obtain ⟨k, rfl, k0, k15, hF4, hE4, hK⟩ := hq
  rw [w13] at hK
  refine w_vret i2_build_26 rfl ⟨Nat.le_refl _, Nat.le_refl _⟩ ?_
  refine ⟨rfl, rfl, ⟨fun a j ha => ?_, fun a h1 h2 h3 h4 => ?_⟩, ?_, ?_, ?_, hE4, I2 42 4, ?_, ?_⟩
  · simp only [upI]; rw [if_neg (fun z => ha z.1), if_neg (fun z => ha z.1), hI2 a j (by omega)]; exact eo a j ha
  · rw [hF4 a h1 h3, hF3 a h3 h4, hF2 a h2]
  · simp [upI]; exact f3
  · simp [upI]; exact k0
  · simp [upI]; exact k15
  · have := hP2.r; simp [upI]; exact this
  · have e0 : upI (upI I2 42 13 m) 42 0 k 42 0 = k := by simp [upI]
    rw [e0]
    refine ⟨fun e he => (hK.1 e he).1, hK.2.1, fun z hz => ?_⟩
    obtain ⟨i, i1, i2, i3⟩ := (hmem (kc z)).mpr ⟨z, hz, rfl⟩
    exact hK.2.2 i z ⟨i1, i2⟩ hz i3
