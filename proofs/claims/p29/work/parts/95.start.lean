section LAWSTART
variable {s : State} {b L : Nat} {xs : Nat → Int32} {rw_ : Option Nat} {TG : TGT} {μ : MI} {d mc ms n0 kc ks pc n : Nat} {ls : List (Option AV)} {st : List AV} {sh sh' : Shp} {I : IE} {F F1 : FE}
theorem gtbl_of (hts : ∀ w ∈ lw_tbl, w.before #[Value.ref b] s = true) : ∀ w ∈ gtbl, w.before #[Value.ref b] s = true := fun w hw => hts w (List.mem_filter.mp hw).1
theorem inst_ok : ∀ ci, ci < 8 → Cond.instantiable (CC ci) (NN ci) ∈ lw_tbl
  | 0, _ => List.mem_of_getElem? (i := 175) (by decide +kernel)
  | 1, _ => List.mem_of_getElem? (i := 190) (by decide +kernel)
  | 2, _ => List.mem_of_getElem? (i := 124) (by decide +kernel)
  | 3, _ => List.mem_of_getElem? (i := 83) (by decide +kernel)
  | 4, _ => List.mem_of_getElem? (i := 103) (by decide +kernel)
  | 5, _ => List.mem_of_getElem? (i := 52) (by decide +kernel)
  | 6, _ => List.mem_of_getElem? (i := 214) (by decide +kernel)
  | 7, _ => List.mem_of_getElem? (i := 44) (by decide +kernel)
  | k + 8, h => absurd h (by omega)
/-- what is known of the classes -/
theorem known (hts : ∀ w ∈ lw_tbl, w.before #[Value.ref b] s = true) : ∃ (D : va_G) (cI cS : ClassId), Kn D cI cS s := by
  have htg := gtbl_of hts
  have h1 : ∀ ci, ci < 8 → ∃ q : ClassId × (Nat → Nat), u_Kn s (CC ci) (TT ci) (NN ci) q.1 q.2 := fun ci hci => by
    obtain ⟨cC, iS, h⟩ := u_known (C := CC ci) (T := TT ci) (N := NN ci) htg (in_ok ci hci) (hts _ (inst_ok ci hci))
    exact ⟨(cC, iS), h⟩
  have h2 : ∀ ci, ∃ q : ClassId × (Nat → Nat), ci < 8 → u_Kn s (CC ci) (TT ci) (NN ci) q.1 q.2 := fun ci => by
    by_cases hci : ci < 8
    · obtain ⟨q, hq⟩ := h1 ci hci
      exact ⟨q, fun _ => hq⟩
    · obtain ⟨q, _⟩ := h1 0 (by decide)
      exact ⟨q, fun h => absurd h hci⟩
  obtain ⟨f, hf⟩ := Classical.skolem.1 h2
  obtain ⟨cI, kI, compI, i1, i2, i3⟩ := Cond.arrayClass_spec (hts _ (List.mem_of_getElem? (i := 81) (show lw_tbl[81]? = some (Cond.arrayClass .int) by decide +kernel)))
  have hov : (Cond.arrayOver (.object RX5)).before #[Value.ref b] s = true := hts _ (List.mem_of_getElem? (i := 89) (by decide +kernel))
  obtain ⟨comp, cS, kS, o1, o2, o3, o4, o5⟩ := Cond.arrayOver_spec hov
  refine ⟨(fun k => (f k).1, fun k => (f k).2), cI, cS, ⟨fun ci q hq => ?_, fun k q hk => ?_⟩, trivial, fun q hq => ?_, va_AO.of hov⟩
  · have hci : ci < 8 := (List.getElem?_eq_some_iff.mp hq).1
    have := cl_ok ci hci
    rw [hq] at this
    cases Option.some.inj this
    exact hf ci hci
  · match k, hk with
    | 0, hk =>
      cases Option.some.inj hk
      exact ⟨fun n z => ⟨(fun k h => by cases h), kI, i2, compI, i3⟩, i1⟩
    | 1, hk =>
      cases Option.some.inj hk
      exact ⟨fun n z => ⟨(fun k h => by cases h), kS, o3, comp, o4⟩, kS, comp, o3, o4, o1, o5⟩
    | k + 2, hk => simp at hk
  · simp only [nwM, List.mem_cons, List.not_mem_nil, or_false] at hq
    rcases hq with rfl | rfl | rfl | rfl | rfl | rfl
    · exact va_Nw.of rfl (hts _ (List.mem_of_getElem? (i := 53) (by decide +kernel)))
    · exact va_Nw.of rfl (hts _ (List.mem_of_getElem? (i := 90) (by decide +kernel)))
    · exact va_Nw.of rfl (hts _ (List.mem_of_getElem? (i := 104) (by decide +kernel)))
    · exact va_Nw.of rfl (hts _ (List.mem_of_getElem? (i := 125) (by decide +kernel)))
    · exact va_Nw.of rfl (hts _ (List.mem_of_getElem? (i := 176) (by decide +kernel)))
    · exact va_Nw.of rfl (hts _ (List.mem_of_getElem? (i := 215) (by decide +kernel)))
/-- what no cell says yet -/
theorem w_tail (h1 : ∀ a, a < sh.length → F1 a = F a) (h2 : ∀ a, sh.length ≤ a → F1 a = fun _ => 0) (K : WG rw_ TG μ d mc ms n0 kc ks pc ls st sh I F1) : WG rw_ TG μ d mc ms n0 kc ks pc ls st sh I F := by
  intro p l e s m args below meth c D cI cS A ad0 ad H locs lsc hC hK hA had hn0 hW hS hL hst
  have he : cw cI cS ad sh I F1 = cw cI cS ad sh I F := by
    apply List.ext_getElem?
    intro j
    simp only [cw, List.getElem?_mapIdx]
    cases hc : sh[j]? with
    | none => rfl
    | some c' =>
      have hj := (List.getElem?_eq_some_iff.mp hc).1
      simp only [Option.map_some]
      rw [cel_eq (N := sh.length) (ad := ad) (ad' := ad) (I := I) (I1 := I) (F := F) (F1 := F1) (fun ci sl z => by subst z; exact (hW.2.2.1 j ci sl hc).2) (fun _ _ => rfl) rfl (h1 j hj)]
  refine K p l e s m args below meth c D cI cS A ad0 ad H locs lsc hC hK hA had hn0 ?_ hS hL hst
  obtain ⟨a1, a2, a3, a4, a5⟩ := hW
  refine ⟨by rw [he]; exact a1, by rw [he]; exact a2, a3, a4, fun a i => ?_⟩
  by_cases h : a < sh.length
  · rw [h1 a h]; exact a5 a i
  · rw [h2 a (by omega)]; exact inR0
/-- a row of its own -/
theorem w_row {x : Int} {k N kc' ks' : Nat} (h : INA μ.2.2.1 pc n) (hx0 : 0 ≤ x ∧ x ≤ 100000) (hk : sh.length = k) (hN : x.toNat = N) (h1 : kc + 1 = kc') (h2 : ks + N = ks') (hsh : sh ++ [.inl N] = sh') (hz : ∀ j, F k j = 0) (hcap : kc' ≤ mc ∧ ks' ≤ ms)
    (K : WG rw_ TG μ d mc ms n0 kc' ks' n ls (.inr (some k) :: st) sh' I F) : WG rw_ TG μ d mc ms n0 kc ks pc ls (.inl x :: st) sh I F := by
  subst hk hN h1 h2 hsh
  exact w_newa h hx0 hz hcap K
theorem lX62 : shX.length = 62 := rfl
theorem lX2 (r : Shp) {k : Nat} (h : 62 + r.length = k) : (shX ++ r).length = k := by rw [List.length_append, lX62]; exact h
/-- the law, from its start -/
theorem lwA (hL : L ≤ 260) : WG (some b) (TGL b L xs) mL_law 10 600000 7302250 0 0 0 0 [lu, lu, lu, lu, lu, lu, lu, lu, lu, lu, lu, lu, lu, lu, lu, lu] [] [] Z0 Z1 := by
  have k7 : ∀ (I : IE) (F : FE), CI S00 I F → WG (some b) (TGL b L xs) mL_law 10 600000 7302250 0 62 6887 7 [lu, lu, lu, lu, lu, lu, lu, lu, lu, lu, lu, lu, lu, lu, lu, lu] [.inr (some 0)] shX I F := fun I F hC => by
    have m1 : ∀ a, a < 62 → mxF 62 F Z1 a = F a := fun a ha => by unfold mxF; rw [if_pos ha]
    have m2 : ∀ a, 62 ≤ a → mxF 62 F Z1 a = fun _ => 0 := fun a ha => by unfold mxF; rw [if_neg (by omega)]
    have z : ∀ a, 62 ≤ a → ∀ j, mxF 62 F Z1 a j = 0 := fun a ha j => by rw [m2 a ha]
    have hC1 : CI S00 I (mxF 62 F Z1) := hC.hi (fun _ _ _ => rfl) (fun a ha => m1 a (by omega))
    refine w_as1 iL_law_7 ?_
    refine w_tail (F1 := mxF 62 F Z1) (fun a ha => m1 a ha) (fun a ha => m2 a ha) ?_
    refine w_const iL_law_8 ?_
    refine w_row (k := 62) (N := 10) (kc' := 63) (ks' := 6897) (sh' := shX ++ [.inl 10]) iL_law_10 (by decide) lX62 rfl rfl rfl rfl (z 62 (by decide)) (by decide) ?_
    refine w_as2 iL_law_12 ?_
    refine w_const iL_law_13 ?_
    refine w_row (k := 63) (N := 4) (kc' := 64) (ks' := 6901) (sh' := shX ++ [.inl 10, .inl 4]) iL_law_14 (by decide) (lX2 _ rfl) rfl rfl rfl (List.append_assoc _ _ _) (z 63 (by decide)) (by decide) ?_
    refine w_as3 iL_law_16 ?_
    refine w_const iL_law_17 ?_
    refine w_row (k := 64) (N := 64) (kc' := 65) (ks' := 6965) (sh' := shX ++ [.inl 10, .inl 4, .inl 64]) iL_law_19 (by decide) (lX2 _ rfl) rfl rfl rfl (List.append_assoc _ _ _) (z 64 (by decide)) (by decide) ?_
    refine w_as4 iL_law_21 ?_
    refine w_const iL_law_23 ?_
    refine w_row (k := 65) (N := 64) (kc' := 66) (ks' := 7029) (sh' := shX ++ [.inl 10, .inl 4, .inl 64, .inl 64]) iL_law_25 (by decide) (lX2 _ rfl) rfl rfl rfl (List.append_assoc _ _ _) (z 65 (by decide)) (by decide) ?_
    refine w_as5 iL_law_27 ?_
    refine w_const iL_law_29 ?_
    refine w_row (k := 66) (N := 64) (kc' := 67) (ks' := 7093) (sh' := shX ++ [.inl 10, .inl 4, .inl 64, .inl 64, .inl 64]) iL_law_31 (by decide) (lX2 _ rfl) rfl rfl rfl (List.append_assoc _ _ _) (z 66 (by decide)) (by decide) ?_
    refine w_as6 iL_law_33 ?_
    refine w_const iL_law_35 ?_
    refine w_row (k := 67) (N := 64) (kc' := 68) (ks' := 7157) (sh' := shX ++ [.inl 10, .inl 4, .inl 64, .inl 64, .inl 64, .inl 64]) iL_law_37 (by decide) (lX2 _ rfl) rfl rfl rfl (List.append_assoc _ _ _) (z 67 (by decide)) (by decide) ?_
    refine w_as7 iL_law_39 ?_
    refine w_const iL_law_41 ?_
    refine w_row (k := 68) (N := 64) (kc' := 69) (ks' := 7221) (sh' := shX ++ shR) iL_law_43 (by decide) (lX2 _ rfl) rfl rfl rfl (List.append_assoc _ _ _) (z 68 (by decide)) (by decide) ?_
    refine w_as8 iL_law_45 ?_
    refine w_const iL_law_47 ?_
    refine w_is9 iL_law_48 ?_
    exact lwN hL ⟨by decide, by decide⟩ (fun x9 x10 x11 x12 x13 x14 x15 S I F hC => lwE ⟨by decide, by decide⟩ hC) 4 0 _ _ _ _ _ _ S00 I (mxF 62 F Z1) rfl hC1
  refine w_new iL_law_0 ds7 (fun _ => rfl) ⟨by decide, by decide⟩ ?_
  refine w_dup iL_law_3 ?_
  refine w_callI (a := 0) (as := []) (rest := [.inr (some 0)]) iL_law_4 f7_init v7_init rfl (s7_init (d := 9) capB (by decide)) rfl rfl (Nat.le_of_ble_eq_true rfl) (by decide) ⟨by decide, by decide⟩ (fun r sh' I' F' hq => ?_)
  obtain ⟨rfl, rfl, hC0⟩ := hq
  exact k7 I' F' hC0
end LAWSTART
set_option maxRecDepth 100000 in
/-- from the entry, for every script of at most 260 ints, the law comes to its end with true -/
theorem whole_start {p : Program} {e : Env} {s : State} {m : MethodId} {below : List Frame} {meth : Method} {c : Code} (l : Launch) (hflags : l.flags = flags0) {b L : Nat} {xs : Nat → Int32} (hL : L ≤ 260) (C0 : lw_At p s m meth c b L xs) : W p l e room_1 s m #[Value.ref b] below meth c s.heap [] 0 0 (lw_Z below #[Value.ref b] s) (entryFrame m ([Value.ref b] : List Value).toArray 16) := by
  obtain ⟨hx, hb, hr, hml, hown, hts, hX, hbl, hlocks, hgv⟩ := id C0
  obtain ⟨D, cI, cS, hK⟩ := known hts
  have hW0 : Wd D cI cS (fun q : Nat => s.heap.size ≤ q) (fun _ => 0) [] Z0 Z1 s.heap := ⟨fun k q h => by simp [cw] at h, ⟨fun i j p q h => by simp [cw] at h, fun k q h => by simp [cw] at h⟩, fun p ci sl h => by simp at h, fun _ _ => inR0, fun _ _ => inR0⟩
  have hl := lv_entry ([.ref b]) (n := 16) (Nat.le_of_ble_eq_true rfl)
  rw [lg_entry_eq]
  generalize (lg_sl ([.ref b]) ++ List.replicate (16 - (lg_sl ([.ref b])).length) Slot.unset).toArray = ls at hl ⊢
  have hl : lv_has ls 16 [(0, .ref b)] := hl
  have hC : Cx mL_law p s m #[Value.ref b] meth c := ⟨hx, hb, hr, hml, hown, gtbl_of hts, hlocks, fun z => absurd z (by decide)⟩
  have hLc : Lcl (some b) (fun _ => 0) 0 ls 16 [lu, lu, lu, lu, lu, lu, lu, lu, lu, lu, lu, lu, lu, lu, lu, lu] := by
    refine ⟨rfl, _, hl, fun k v hk => ?_, fun b' hb' => ?_⟩
    · have h1 : ∀ x ∈ [lu, lu, lu, lu, lu, lu, lu, lu, lu, lu, lu, lu, lu, lu, lu, lu], x = none := by decide
      exact absurd (h1 _ (List.mem_of_getElem? hk)) (by simp)
    · cases hb'; exact List.mem_cons_self
  have K := lwA (b := b) (xs := xs) hL p l e s m #[Value.ref b] below meth c D cI cS (fun q : Nat => s.heap.size ≤ q) (fun _ => 0) (fun _ => 0) s.heap [] ls hC hK (fun _ h => h) (fun _ _ => rfl) (Nat.le_refl _) hW0 va_S.rf hLc (fun v h => by simp at h)
  intro T hT X
  obtain ⟨t, a1, z⟩ := K T hT X
  exact ⟨t, a1, z ⟨rfl, hX, hbl, fun _ h => h⟩⟩
