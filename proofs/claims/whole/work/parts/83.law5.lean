section LAWSTART
variable {p : Program} {l : Launch} {e : Env} {s : State} {m : MethodId} {below : List Frame} {meth : Method} {c : Code} {b L : Nat} {xs : Nat → Int32} {D : va_G} {cI cS : ClassId}
theorem inst_ok : ∀ ci, ci < 9 → Cond.instantiable (CC ci) (NN ci) ∈ lw_tbl
  | 0, _ => List.mem_of_getElem? (i := 231) (by decide +kernel)
  | 1, _ => List.mem_of_getElem? (i := 249) (by decide +kernel)
  | 2, _ => List.mem_of_getElem? (i := 177) (by decide +kernel)
  | 3, _ => List.mem_of_getElem? (i := 128) (by decide +kernel)
  | 4, _ => List.mem_of_getElem? (i := 148) (by decide +kernel)
  | 5, _ => List.mem_of_getElem? (i := 96) (by decide +kernel)
  | 6, _ => List.mem_of_getElem? (i := 273) (by decide +kernel)
  | 7, _ => List.mem_of_getElem? (i := 88) (by decide +kernel)
  | 8, _ => List.mem_of_getElem? (i := 724) (by decide +kernel)
  | k + 9, h => absurd h (by omega)
theorem known (hts : ∀ w ∈ lw_tbl, w.before #[Value.ref b] s = true) : ∃ (D : va_G) (cI cS : ClassId), Kn D cI cS s := by
  have htg := gtbl_of hts
  have h1 : ∀ ci, ci < 9 → ∃ q : ClassId × (Nat → Nat), u_Kn s (CC ci) (TT ci) (NN ci) q.1 q.2 := fun ci hci => by
    obtain ⟨cC, iS, h⟩ := u_known (C := CC ci) (T := TT ci) (N := NN ci) htg (in_ok ci hci) (hts _ (inst_ok ci hci))
    exact ⟨(cC, iS), h⟩
  have h2 : ∀ ci, ∃ q : ClassId × (Nat → Nat), ci < 9 → u_Kn s (CC ci) (TT ci) (NN ci) q.1 q.2 := fun ci => by
    by_cases hci : ci < 9
    · obtain ⟨q, hq⟩ := h1 ci hci
      exact ⟨q, fun _ => hq⟩
    · obtain ⟨q, _⟩ := h1 0 (by decide)
      exact ⟨q, fun h => absurd h hci⟩
  obtain ⟨f, hf⟩ := Classical.skolem.1 h2
  obtain ⟨cI, kI, compI, i1, i2, i3⟩ := Cond.arrayClass_spec (hts _ (List.mem_of_getElem? (i := 126) (show lw_tbl[126]? = some (Cond.arrayClass .int) by decide +kernel)))
  have hov : (Cond.arrayOver (.object RX5)).before #[Value.ref b] s = true := hts _ (List.mem_of_getElem? (i := 134) (by decide +kernel))
  obtain ⟨comp, cS, kS, o1, o2, o3, o4, o5⟩ := Cond.arrayOver_spec hov
  refine ⟨(fun k => (f k).1, fun k => (f k).2), cI, cS, ⟨fun ci q hq => ?_, fun k q hk => ?_⟩, va_Nw.of rfl (hts _ (List.mem_of_getElem? (i := 190) (by decide +kernel))), fun q hq => ?_, va_AO.of hov⟩
  · have hci : ci < 9 := (List.getElem?_eq_some_iff.mp hq).1
    have := cl_ok ci hci
    rw [hq] at this
    cases Option.some.inj this
    exact hf ci hci
  · match k, hk with
    | 0, hk =>
      cases Option.some.inj hk
      exact ⟨fun n z => ⟨(fun k h => by cases h), kI, i2, compI, i3⟩, i1⟩
    | 1, hk =>
      cases Option.some.inj hk
      exact ⟨fun n z => ⟨(fun k h => by cases h), kS, o3, comp, o4⟩, kS, comp, o3, o4, o1, o5⟩
    | k + 2, hk => simp at hk
  · simp only [nwM, List.mem_cons, List.not_mem_nil, or_false] at hq
    rcases hq with rfl | rfl | rfl | rfl | rfl | rfl
    · exact va_Nw.of rfl (hts _ (List.mem_of_getElem? (i := 97) (by decide +kernel)))
    · exact va_Nw.of rfl (hts _ (List.mem_of_getElem? (i := 135) (by decide +kernel)))
    · exact va_Nw.of rfl (hts _ (List.mem_of_getElem? (i := 149) (by decide +kernel)))
    · exact va_Nw.of rfl (hts _ (List.mem_of_getElem? (i := 178) (by decide +kernel)))
    · exact va_Nw.of rfl (hts _ (List.mem_of_getElem? (i := 232) (by decide +kernel)))
    · exact va_Nw.of rfl (hts _ (List.mem_of_getElem? (i := 274) (by decide +kernel)))
/-- the law makes an object: a world of its own -/
theorem lw_new {ci idx pc kc ks : Nat} {sh : Shp} {I : IE} {F : FE} {ad : Nat → Nat} {H : Heap} {locs : List Loc} {lsc : Array Slot} {st : List Value} (C0 : lw_At p s m meth c b L xs) (hK : Kn D cI cS s) (hci : ci < 9) (hdg : decode code pc = .ok (.new idx, 3)) (hlk : Cond.classLink R_law idx (CC ci) ∈ lw_tbl) (hini : Cond.initialized (CC ci) ∈ lw_tbl)
    (hds : ∀ j, j < NN ci → ∃ s, (dsl ci)[j]? = some s ∧ defaultValue (YY ci j) = sv (fun _ => 0) 0 s ∧ ∀ r, s ≠ some (some r)) (hW : Wd D cI cS (lwA s) ad sh I F H) (hS : va_S (lwA s) s.heap H locs) (hcap : kc + 1 ≤ 600000 ∧ ks + NN ci ≤ 7302249)
    (K : ∀ (q : Nat) (H : Heap), Wd D cI cS (lwA s) ad sh I F H → Wd D cI cS (lwA s) (fun _ => q) [.inr (ci, dsl ci)] Z0 Z1 H → Apt ad sh (fun _ => q) [.inr (ci, dsl ci)] → va_S (lwA s) s.heap H locs → W p l e room_1 s m #[Value.ref b] below meth c H locs (kc + 1) (ks + NN ci) (lw_Z below #[Value.ref b] s) (F0 m (pc + 3) lsc (.ref q :: st))) :
    W p l e room_1 s m #[Value.ref b] below meth c H locs kc ks (lw_Z below #[Value.ref b] s) (F0 m pc lsc st) := by
  obtain ⟨hx, hb, hr, hml, hown, hts, hX, hbl, hlocks, hgv⟩ := id C0
  have htg := gtbl_of hts
  have hlen : (dsl ci).length = NN ci := by simp [dsl]
  have hnr : ∀ (k r : Nat), (dsl ci)[k]? = some (some (some r)) → False := fun k r hk => by
    have hkl := (List.getElem?_eq_some_iff.mp hk).1
    obtain ⟨s', h1, -, h3⟩ := hds k (by omega)
    rw [hk] at h1
    cases h1
    exact h3 r rfl
  refine va_new (D := D) hx hb htg (in_ok ci hci) (YY ci) (ty_ok ci hci) hown (hts _ hlk) (hts _ (inst_ok ci hci)) (hts _ hini) hK.1 hW.1 hW.2.1 hS (fun _ h => h) (cl_ok ci hci) (fs := (dsl ci).map (sv (fun _ => 0) 0)) (fun j hj => ?_) hcap.1 hcap.2 hdg (fun q H1 hP1 hD1 hS1 => ?_)
  · obtain ⟨s', h1, h2, -⟩ := hds j hj
    rw [h2]
    simp [vp_V, h1]
  · have he : cw cI cS (fun _ => q) [Sum.inr (ci, dsl ci)] Z0 Z1 = [(q, .inr (ci, (dsl ci).map (sv (fun _ => 0) 0)))] := by
      show [(q, cel cI cS (fun _ => q) Z0 Z1 0 (.inr (ci, dsl ci)))] = _
      have hl : (dsl ci).mapIdx (fun k s => sv (fun _ => q) (Z0 0 k) s) = (dsl ci).map (sv (fun _ => 0) 0) := by
        apply List.ext_getElem?
        intro j
        rw [List.getElem?_mapIdx, List.getElem?_map]
        rcases hs : (dsl ci)[j]? with _ | ⟨_ | ⟨_ | r⟩⟩
        · rfl
        · rfl
        · rfl
        · exact absurd hs (fun z => hnr j r z)
      rw [cel_obj hci, hl]
    have lft : ∀ (k : Nat) (x : Nat × va_E), (cw cI cS ad sh I F)[k]? = some x → (cw cI cS ad sh I F ++ [(q, .inr (ci, (dsl ci).map (sv (fun _ => 0) 0)))])[k]? = some x := fun k x hk => by
      rw [List.getElem?_append_left (List.getElem?_eq_some_iff.mp hk).1]; exact hk
    have rgt : (cw cI cS ad sh I F ++ [(q, .inr (ci, (dsl ci).map (sv (fun _ => 0) 0)))])[sh.length]? = some (q, .inr (ci, (dsl ci).map (sv (fun _ => 0) 0))) := by
      rw [List.getElem?_append_right (by rw [cw_len]; omega), cw_len, Nat.sub_self]; rfl
    have one : ∀ (k : Nat) (x : Nat × va_E), (cw cI cS (fun _ => q) [Sum.inr (ci, dsl ci)] Z0 Z1)[k]? = some x → k = 0 ∧ x = (q, .inr (ci, (dsl ci).map (sv (fun _ => 0) 0))) := fun k x hk => by
      rw [he] at hk
      have h1 : k < 1 := (List.getElem?_eq_some_iff.mp hk).1
      obtain rfl : k = 0 := by omega
      exact ⟨rfl, (Option.some.inj hk).symm⟩
    refine K q H1 ⟨fun k x hk => hP1 k x (lft k x hk), ⟨fun i j x y hi hj h => hD1.1 i j x y (lft i x hi) (lft j y hj) h, fun k x hk => hD1.2 k x (lft k x hk)⟩, hW.2.2⟩ ⟨fun k x hk => ?_, ⟨fun i j x y hi hj _ => ?_, fun k x hk => ?_⟩, ?_, fun _ _ => inR0, fun _ _ => inR0⟩ (fun i j hi hj h => ?_) hS1
    · rw [(one k x hk).2]; exact hP1 _ _ rgt
    · rw [(one i x hi).1, (one j y hj).1]
    · rw [(one k x hk).2]; exact hD1.2 _ _ rgt
    · intro p' cj sj hp'
      have h1 : p' < 1 := (List.getElem?_eq_some_iff.mp hp').1
      obtain rfl : p' = 0 := by omega
      cases Option.some.inj hp'
      exact ⟨Or.inl ⟨hci, hlen⟩, fun k r hk => (hnr k r hk).elim⟩
    · have hi' := cw_at (cI := cI) (cS := cS) (ad := ad) (I := I) (F := F) (List.getElem?_eq_getElem hi)
      have := hD1.1 i sh.length _ _ (lft i _ hi') rgt h
      omega
theorem lw_callI {μ' : MI} {d' mc' ms' idx pc kc ks : Nat} {rest : List Value} {sh sh2 : Shp} {I I2 : IE} {F F2 : FE} {ad ad2 : Nat → Nat} {H : Heap} {locs : List Loc} {lsc : Array Slot} {lv : List (Nat × Value)} {Q' : PQ}
    (C0 : lw_At p s m meth c b L xs) (hK : Kn D cI cS s) (hdg : decode code pc = .ok (.invokespecial idx, 3)) (hlk : Cond.methodLink R_law idx μ'.1 ∈ lw_tbl) (hF : MF μ' 0) (hV : MN μ') (hret : μ'.2.2.2.2 = none) (hM : MS μ' d' mc' ms' sh [.inr (some 0)] I F Q') (h0 : 0 < sh.length) (hd : d' ≤ 9)
    (hW : Wd D cI cS (lwA s) ad sh I F H) (hW2 : Wd D cI cS (lwA s) ad2 sh2 I2 F2 H) (hap : Apt ad sh ad2 sh2) (hS : va_S (lwA s) s.heap H locs) (hl : lv_has lsc 4 lv) (hrest : (rest.map fun v => v.category).sum ≤ 8) (hcap : kc + mc' ≤ 600000 ∧ ks + ms' ≤ 7302249)
    (K : ∀ r sh' I' F' ad' H' locs', Q' r sh' I' F' → (∀ v, r = some v → okv sh'.length v) → (∀ k, k < sh.length → ad' k = ad k) → Wd D cI cS (lwA s) ad' sh' I' F' H' → Wd D cI cS (lwA s) ad2 sh2 I2 F2 H' → Apt ad' sh' ad2 sh2 → va_S (lwA s) s.heap H' locs' → W p l e room_1 s m #[Value.ref b] below meth c H' locs' (kc + mc') (ks + ms') (lw_Z below #[Value.ref b] s) (F0 m (pc + 3) lsc ((r.map (cv ad')).toList ++ rest))) :
    W p l e room_1 s m #[Value.ref b] below meth c H locs kc ks (lw_Z below #[Value.ref b] s) (F0 m pc lsc (.ref (ad 0) :: rest)) := by
  obtain ⟨hx, hb, hr, hml, hown, hts, hX, hbl, hlocks, hgv⟩ := id C0
  have htg := gtbl_of hts
  have hoas : ∀ v ∈ [(Sum.inr (some 0) : AV)], okv sh.length v := fun v hv => by
    rw [List.mem_singleton.1 hv]; exact h0
  have hpre := pre_ok (as := [.inr (some 0)]) hK hW hoas
  have cb : CallB room_1 s #[Value.ref b] R_law idx μ'.1 μ'.2.2.1 μ'.2.2.2.1 μ'.2.2.2.2 (wsy μ') (rmd d' mc' ms') mc' ms' 0 := callB_of 0 htg (goodG.mpr hF.1) rfl rfl rfl (htg _ hF.2.1) (hts _ hlk) ⟨hF.2.2.1, hF.2.2.2.1, hF.2.2.2.2.1⟩ ⟨by show d' + 1 ≤ 10; omega, by have := hF.2.2.2.2.2.2; show 8 + (μ'.2.2.2.1 + 11) + 30 * d' ≤ 390; omega⟩
  rw [hret] at cb
  have hrun := va_runI (locs := locs) (cells := kc) (slots := ks) (p := p) (e := e) (below := below) (meth := meth) (As := []) (rest := rest) (g := F0 m pc lsc (.ref (ad 0) :: rest)) (nL := 4) (cc := code) (b := ad 0) (H := H)
    ⟨hx, hb, hml, hown, htg⟩ (hM l D cI cS ad H.size) ⟨cb, hV.2, htg _ hV.1⟩ ⟨hpre.1, hpre.2⟩ rfl rfl hl.1 rfl
    (by show 2 * 0 + _ ≤ 8; omega) hdg hcap
  exact lw_back hW hW2 hap hS hrun K
end LAWSTART
