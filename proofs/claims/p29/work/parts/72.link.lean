theorem Qg.mono {B B' a b c d : Nat} (hB : B ≤ B') (h : Qg B a b c d) : Qg B' a b c d := by
  obtain ⟨G, h1, h2, h3⟩ := h
  exact ⟨G, h1, h2, fun g hg => ⟨⟨Nat.le_trans (h3 g hg).1.1 hB, Nat.le_trans (h3 g hg).1.2.1 hB, Nat.le_trans (h3 g hg).1.2.2.1 hB, Nat.le_trans (h3 g hg).1.2.2.2 hB⟩, (h3 g hg).2⟩⟩
theorem Qg.of_row {B a b c d a' b' c' d' : Nat} (hK : ∀ z, K4 a b c d z ↔ K4 a' b' c' d' z) (hF : ∀ z, Fb4 a' b' c' d' z → Fb4 a b c d z) (h : Qg B a' b' c' d') : Qg B a b c d := by
  obtain ⟨G, h1, h2, h3⟩ := h
  exact ⟨G, h1, fun z hz => h2 z ⟨(hK z).1 hz.1, hz.2.1, fun u hu hn hc => hz.2.2 u ((hK u).2 hu) hn hc⟩, fun g hg => ⟨(h3 g hg).1, hF g (h3 g hg).2⟩⟩
theorem m44 (x : Nat) : 4 * x / 4 = x ∧ 4 * x % 4 = 0 := ⟨by omega, by omega⟩
theorem prop_row {u0 u1 u2 u3 l0 l1 l2 l3 : Nat} {z : Z4} (h01 : u0 * l1 = u1 * l0) (h02 : u0 * l2 = u2 * l0) (h03 : u0 * l3 = u3 * l0) (hu : u0 ≠ 0) (e : dt4 u0 u1 u2 u3 z = 0) : dt4 l0 l1 l2 l3 z = 0 := by
  have c : ∀ {a b c d : Nat}, a * b = c * d → (a : Int) * b = (c : Int) * d := fun {a b c d} h => by
    have := congrArg (fun n : Nat => (n : Int)) h
    simpa only [Int.natCast_mul] using this
  have k01 := c h01
  have k02 := c h02
  have k03 := c h03
  have : (u0 : Int) * dt4 l0 l1 l2 l3 z = (l0 : Int) * dt4 u0 u1 u2 u3 z := by unfold dt4; grind
  rw [e, Int.mul_zero] at this
  exact (Int.mul_eq_zero.1 this).resolve_left (by omega)
theorem q_rank1 {a b c d : Nat} (ha : a ≤ 15) (hb : b ≤ 15) (hc : c ≤ 15) (hd : d ≤ 15) (hm : mz4 a b c d) (hn : ¬ (a = 0 ∧ b = 0 ∧ c = 0 ∧ d = 0)) : Qg 3 a b c d := by
  obtain ⟨⟨m1, m2, m3⟩, m4, m5, m6⟩ := hm
  by_cases hu : a / 4 = 0 ∧ b / 4 = 0 ∧ c / 4 = 0 ∧ d / 4 = 0
  · obtain ⟨u1, u2, u3, u4⟩ := hu
    have q := q_row (a := 4 * (a % 4)) (b := 4 * (b % 4)) (c := 4 * (c % 4)) (d := 4 * (d % 4)) (by omega) (by omega) (by omega) (by omega) ⟨(m44 _).2, (m44 _).2, (m44 _).2, (m44 _).2⟩ (by omega)
    refine q.of_row (fun z => ?_) (fun z hz => ?_)
    · unfold K4
      rw [(m44 _).1, (m44 _).1, (m44 _).1, (m44 _).1, (m44 _).2, (m44 _).2, (m44 _).2, (m44 _).2, u1, u2, u3, u4]
      exact And.comm
    · unfold Fb4 at *
      rw [(m44 _).1, (m44 _).1, (m44 _).1, (m44 _).1, (m44 _).2, (m44 _).2, (m44 _).2, (m44 _).2] at hz
      rw [u1, u2, u3, u4]
      refine hz.mono (Nat.le_refl _) (fun y hy => ?_)
      obtain ⟨⟨q1, q2, q3, q4⟩, q5, q6⟩ := hy
      exact ⟨⟨fun h h' => q1 h' h, fun h h' => q2 h' h, fun h h' => q3 h' h, fun h h' => q4 h' h⟩, q6, q5⟩
  · have q := q_row (a := 4 * (a / 4)) (b := 4 * (b / 4)) (c := 4 * (c / 4)) (d := 4 * (d / 4)) (by omega) (by omega) (by omega) (by omega) ⟨(m44 _).2, (m44 _).2, (m44 _).2, (m44 _).2⟩ (by omega)
    have z0 : ∀ {x y : Nat}, x / 4 ≠ 0 → x / 4 * (y % 4) = y / 4 * (x % 4) → y / 4 = 0 → y % 4 = 0 := fun {x y} h1 h2 h3 => by
      rw [h3, Nat.zero_mul] at h2
      exact (Nat.mul_eq_zero.1 h2).resolve_left h1
    have hl : (∀ z, dt4 (a / 4) (b / 4) (c / 4) (d / 4) z = 0 → dt4 (a % 4) (b % 4) (c % 4) (d % 4) z = 0) ∧ (a / 4 = 0 → a % 4 = 0) ∧ (b / 4 = 0 → b % 4 = 0) ∧ (c / 4 = 0 → c % 4 = 0) ∧ (d / 4 = 0 → d % 4 = 0) := by
      by_cases p1 : a / 4 = 0
      · by_cases p2 : b / 4 = 0
        · by_cases p3 : c / 4 = 0
          · by_cases p4 : d / 4 = 0
            · exact absurd ⟨p1, p2, p3, p4⟩ hu
            · refine ⟨fun z e => ?_, z0 p4 m3.symm, z0 p4 m5.symm, z0 p4 m6.symm, fun h => absurd h p4⟩
              have := prop_row (z := (z.2.2.2, z.1, z.2.1, z.2.2.1)) m3.symm m5.symm m6.symm p4 (by unfold dt4 at *; dsimp only; omega)
              unfold dt4 at *; dsimp only at this; omega
          · refine ⟨fun z e => ?_, z0 p3 m2.symm, z0 p3 m4.symm, fun h => absurd h p3, z0 p3 m6⟩
            have := prop_row (z := (z.2.2.1, z.1, z.2.1, z.2.2.2)) m2.symm m4.symm m6 p3 (by unfold dt4 at *; dsimp only; omega)
            unfold dt4 at *; dsimp only at this; omega
        · refine ⟨fun z e => ?_, z0 p2 m1.symm, fun h => absurd h p2, z0 p2 m4, z0 p2 m5⟩
          have := prop_row (z := (z.2.1, z.1, z.2.2.1, z.2.2.2)) m1.symm m4 m5 p2 (by unfold dt4 at *; dsimp only; omega)
          unfold dt4 at *; dsimp only at this; omega
      · exact ⟨fun z e => prop_row m1 m2 m3 p1 e, fun h => absurd h p1, z0 p1 m1, z0 p1 m2, z0 p1 m3⟩
    refine q.of_row (fun z => ?_) (fun z hz => ?_)
    · unfold K4
      rw [(m44 _).1, (m44 _).1, (m44 _).1, (m44 _).1, (m44 _).2, (m44 _).2, (m44 _).2, (m44 _).2]
      refine ⟨fun h => ⟨h.1, ?_⟩, fun h => ⟨h.1, hl.1 z h.1⟩⟩
      unfold dt4; simp
    · unfold Fb4 at *
      rw [(m44 _).1, (m44 _).1, (m44 _).1, (m44 _).1, (m44 _).2, (m44 _).2, (m44 _).2, (m44 _).2] at hz
      refine hz.mono (Nat.le_refl _) (fun y hy => ?_)
      obtain ⟨⟨q1, q2, q3, q4⟩, q5, q6⟩ := hy
      refine ⟨⟨fun h _ => q1 h (hl.2.1 h), fun h _ => q2 h (hl.2.2.1 h), fun h _ => q3 h (hl.2.2.2.1 h), fun h _ => q4 h (hl.2.2.2.2 h)⟩, q5, ?_⟩
      unfold dp4; simp
noncomputable def un4 : List Z4 := [(1, 0, 0, 0), (0, 1, 0, 0), (0, 0, 1, 0), (0, 0, 0, 1)]
theorem q_rank0 : Qg 1 0 0 0 0 := by
  refine ⟨un4, by unfold un4; decide, fun z hz => ?_, fun g hg => ?_⟩
  · have k : ∀ u, K4 0 0 0 0 u := fun u => by unfold K4 dt4; simp
    have c0 : ∀ x : Int, c1 0 x := fun x => by unfold c1; omega
    have up : ∀ {x : Int}, 0 < x → c1 1 x := fun {x} h => by unfold c1; omega
    have dn : ∀ {x : Int}, x < 0 → c1 (-1) x := fun {x} h => by unfold c1; omega
    by_cases h1 : z.1 = 0
    · by_cases h2 : z.2.1 = 0
      · by_cases h3 : z.2.2.1 = 0
        · have h4 : z.2.2.2 ≠ 0 := fun h4 => hz.2.1 (Z4.eq ⟨h1, h2, h3, h4⟩)
          rcases Int.lt_or_gt_of_ne h4 with h | h
          · right; rw [← hz.2.2 (0, 0, 0, -1) (k _) (by simp) ⟨c0 _, c0 _, c0 _, dn h⟩]; unfold un4 zneg; simp
          · left; rw [← hz.2.2 (0, 0, 0, 1) (k _) (by simp) ⟨c0 _, c0 _, c0 _, up h⟩]; unfold un4; simp
        · rcases Int.lt_or_gt_of_ne h3 with h | h
          · right; rw [← hz.2.2 (0, 0, -1, 0) (k _) (by simp) ⟨c0 _, c0 _, dn h, c0 _⟩]; unfold un4 zneg; simp
          · left; rw [← hz.2.2 (0, 0, 1, 0) (k _) (by simp) ⟨c0 _, c0 _, up h, c0 _⟩]; unfold un4; simp
      · rcases Int.lt_or_gt_of_ne h2 with h | h
        · right; rw [← hz.2.2 (0, -1, 0, 0) (k _) (by simp) ⟨c0 _, dn h, c0 _, c0 _⟩]; unfold un4 zneg; simp
        · left; rw [← hz.2.2 (0, 1, 0, 0) (k _) (by simp) ⟨c0 _, up h, c0 _, c0 _⟩]; unfold un4; simp
    · rcases Int.lt_or_gt_of_ne h1 with h | h
      · right; rw [← hz.2.2 (-1, 0, 0, 0) (k _) (by simp) ⟨dn h, c0 _, c0 _, c0 _⟩]; unfold un4 zneg; simp
      · left; rw [← hz.2.2 (1, 0, 0, 0) (k _) (by simp) ⟨up h, c0 _, c0 _, c0 _⟩]; unfold un4; simp
  · have e : ∀ g, g ∈ un4 → bdB 1 g = true ∧ fbB 0 0 0 0 g = true := fun g hg => by
      unfold un4 at hg
      simp only [List.mem_cons, List.not_mem_nil, or_false] at hg
      rcases hg with rfl | rfl | rfl | rfl
      · exact ⟨by decide +kernel, by decide +kernel⟩
      · exact ⟨by decide +kernel, by decide +kernel⟩
      · exact ⟨by decide +kernel, by decide +kernel⟩
      · exact ⟨by decide +kernel, by decide +kernel⟩
    exact ⟨bdB_t (e g hg).1, fbB_t (e g hg).2⟩
theorem q_any {a b c d : Nat} (ha : a ≤ 15) (hb : b ≤ 15) (hc : c ≤ 15) (hd : d ≤ 15) : Qg 9 a b c d := by
  by_cases hm : mz4 a b c d
  · by_cases h0 : a = 0 ∧ b = 0 ∧ c = 0 ∧ d = 0
    · obtain ⟨rfl, rfl, rfl, rfl⟩ := h0
      exact q_rank0.mono (by decide)
    · exact (q_rank1 ha hb hc hd hm h0).mono (by decide)
  · exact q_rank2 ha hb hc hd hm
