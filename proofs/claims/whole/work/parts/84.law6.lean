set_option maxRecDepth 100000 in
/-- from the entry, for every script of at most 2048 ints, the law comes to its end with true -/
theorem whole_start {p : Program} {e : Env} {s : State} {m : MethodId} {below : List Frame} {meth : Method} {c : Code} (l : Launch) (hflags : l.flags = flags0) {b L : Nat} {xs : Nat → Int32} (hL : L ≤ 2048) (C0 : lw_At p s m meth c b L xs) : W p l e room_1 s m #[Value.ref b] below meth c s.heap [] 0 0 (lw_Z below #[Value.ref b] s) (entryFrame m ([Value.ref b] : List Value).toArray 4) := by
  obtain ⟨hx, hb, hr, hml, hown, hts, hX, hbl, hlocks, hgv⟩ := id C0
  obtain ⟨D, cI, cS, hK⟩ := known hts
  have hS : va_S (lwA s) s.heap s.heap [] := va_S.rf
  have hW0 : Wd D cI cS (lwA s) (fun _ => 0) [] Z0 Z1 s.heap := ⟨fun k q h => by simp [cw] at h, ⟨fun i j p q h => by simp [cw] at h, fun k q h => by simp [cw] at h⟩, fun p ci sl h => by simp at h, fun _ _ => inR0, fun _ _ => inR0⟩
  have hl := lv_entry ([.ref b]) (n := 4) (Nat.le_of_ble_eq_true rfl)
  rw [lg_entry_eq]
  generalize (lg_sl ([.ref b]) ++ List.replicate (4 - (lg_sl ([.ref b])).length) Slot.unset).toArray = ls at hl ⊢
  have hl : lv_has ls 4 [(0, .ref b)] := hl
  refine lw_new (ci := 7) (idx := 7) (pc := 0) C0 hK (by decide) dL_0 (List.mem_of_getElem? (i := 87) (by decide +kernel)) (List.mem_filter.mp q_75).1 ds7 hW0 hS ⟨by decide, by decide⟩ (fun q1 H hW0 hW1 hap hS => ?_)
  refine lv_dup hx hb dL_3 rfl ?_
  refine lw_callI (ad := fun _ => q1) (sh2 := []) (I2 := Z0) (F2 := Z1) (ad2 := fun _ => 0) (rest := [.ref q1]) C0 hK dL_4 (List.mem_of_getElem? (i := 89) (by decide +kernel)) f7_init v7_init rfl (s7_init (d := 9) capB (by decide)) (by decide) (by decide) hW1 hW0 (fun i j hi hj => absurd hj (by simp)) hS hl (Nat.le_of_ble_eq_true rfl) ⟨by decide, by decide⟩ (fun r sh' I1 F1 ad1 H locs hq hokr hag hW1 hW0 hap hS => ?_)
  obtain ⟨rfl, rfl, hC⟩ := hq
  have e1 : ad1 0 = q1 := hag 0 (by decide)
  refine lv_astore_n (lv' := [(1, .ref (ad1 0)), (0, .ref b)]) hx hb dL_7 rfl hl (by decide) (by rw [e1]; rfl) (fun ls hl => ?_)
  refine lw_new (ci := 8) (idx := 10) (pc := 8) C0 hK (by decide) dL_8 (List.mem_of_getElem? (i := 723) (by decide +kernel)) (List.mem_filter.mp q_85).1 ds8 hW1 hS ⟨by decide, by decide⟩ (fun q2 H hW1 hW2 hap hS => ?_)
  refine lv_dup hx hb dL_11 rfl ?_
  refine lw_callI (ad := fun _ => q2) (rest := [.ref q2]) C0 hK dL_12 (List.mem_of_getElem? (i := 725) (by decide +kernel)) f8_init v8_init rfl (r_init (d := 9) capG bndG (by decide)) (by decide) (by decide) hW2 hW1 hap.sw hS hl (Nat.le_of_ble_eq_true rfl) ⟨by decide, by decide⟩ (fun r sh' I2 F2 ad2 H locs hq hokr hag hW2 hW1 hap hS => ?_)
  obtain ⟨rfl, rfl, hD⟩ := hq
  have e2 : ad2 0 = q2 := hag 0 (by decide)
  refine lv_astore_n (lv' := [(2, .ref (ad2 0)), (1, .ref (ad1 0)), (0, .ref b)]) hx hb dL_15 rfl hl (by decide) (by rw [e2]; rfl) (fun ls hl => ?_)
  refine lv_iconst (v := 0) hx hb dL_16 (by decide) ?_
  refine lv_istore_n (lv' := [(3, .int 0), (2, .ref (ad2 0)), (1, .ref (ad1 0)), (0, .ref b)]) hx hb dL_17 rfl hl (by decide) rfl (fun ls hl => ?_)
  exact law_loop hL C0 hK ⟨by decide, by decide⟩ (L + 1) 0 (Nat.zero_le _) (by omega) ls S00 ad1 ad2 I1 I2 F1 F2 H locs hC hD hW1 hW2 hap.sw hS (lv_sub hl [3, 2, 1, 0] rfl)
