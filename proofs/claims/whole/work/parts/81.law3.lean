section LAWCASES
variable {p : Program} {l : Launch} {e : Env} {s : State} {m : MethodId} {below : List Frame} {meth : Method} {c : Code} {b L : Nat} {xs : Nat → Int32} {D : va_G} {cI cS : ClassId}
theorem lw_arg {pc kc ks : Nat} {H : Heap} {locs : List Loc} {lsc : Array Slot} {x : Int32} {q1 q2 : Nat} {st : List Value} {a : Int32} {z : Int} (C0 : lw_At p s m meth c b L xs) (hS : va_S (lwA s) s.heap H locs) (hl : lv_has lsc 4 [(0, .ref b), (1, .ref q1), (2, .ref q2), (3, .int x)]) (hin : vp_in (x + a) L)
    (d1 : decode code pc = .ok (.aload_n 0, 1)) (d2 : decode code (pc + 1) = .ok (.iload_n 3, 1)) (d3 : decode code (pc + 2) = .ok (.iconst z, 1)) (hz : Int32.ofInt z = a) (d4 : decode code (pc + 3) = .ok (.iadd, 1)) (d5 : decode code (pc + 4) = .ok (.iaload, 1))
    (K : W p l e room_1 s m #[Value.ref b] below meth c H locs kc ks (lw_Z below #[Value.ref b] s) (F0 m (pc + 5) lsc (.int (Int32.ofInt (xs (x + a).toNatClampNeg).toInt) :: st))) : W p l e room_1 s m #[Value.ref b] below meth c H locs kc ks (lw_Z below #[Value.ref b] s) (F0 m pc lsc st) := by
  obtain ⟨hx, hb, hr, hml, hown, hts, hX, hbl, hlocks, hgv⟩ := id C0
  have hbA : ¬ lwA s b := Nat.not_le.mpr hbl
  rw [Int32.ofInt_toInt] at K
  refine lv_aload_n hx hb d1 rfl (lv_at hl 0 rfl) ?_
  refine lv_iload_n hx hb d2 rfl (lv_at hl 3 rfl) ?_
  refine lv_iconst (v := a) hx hb d3 hz ?_
  refine lv_iadd hx hb d4 ?_
  exact va_sld hx hb hX hbl hbA hS hin d5 K
def LK (p : Program) (l : Launch) (e : Env) (s : State) (m : MethodId) (below : List Frame) (meth : Method) (c : Code) (b : Nat) (D : va_G) (cI cS : ClassId) (lsc : Array Slot) (x : Int32) (kc ks pc : Nat) : Prop := ∀ (S : Sx) (ad1 ad2 : Nat → Nat) (I1 I2 : IE) (F1 F2 : FE) (H : Heap) (locs : List Loc), CI S I1 F1 → DI S I2 F2 → Wd D cI cS (lwA s) ad1 shX I1 F1 H → Wd D cI cS (lwA s) ad2 shM I2 F2 H → Apt ad1 shX ad2 shM → va_S (lwA s) s.heap H locs → lv_has lsc 4 [(0, .ref b), (1, .ref (ad1 0)), (2, .ref (ad2 0)), (3, .int x)] → W p l e room_1 s m #[Value.ref b] below meth c H locs kc ks (lw_Z below #[Value.ref b] s) (F0 m pc lsc [])
theorem Apt.sw {ad ad2 : Nat → Nat} {sh sh2 : Shp} (h : Apt ad sh ad2 sh2) : Apt ad2 sh2 ad sh := fun i j hi hj e => h j i hj hi e.symm
theorem law_c0 {kc ks : Nat} {lsc : Array Slot} {x : Int32} (C0 : lw_At p s m meth c b L xs) (hK : Kn D cI cS s) (h1 : vp_in (x + 1) L) (h2 : vp_in (x + 2) L) (h3 : vp_in (x + 3) L) (hcap : kc ≤ 600000 ∧ ks ≤ 7302249) (K : LK p l e s m below meth c b D cI cS lsc x kc ks 720) : LK p l e s m below meth c b D cI cS lsc x kc ks 152 := by
  intro S ad1 ad2 I1 I2 F1 F2 H locs hC hD hW1 hW2 hap hS hl
  obtain ⟨hx, hb, hr, hml, hown, hts, hX, hbl, hlocks, hgv⟩ := id C0
  refine lv_aload_n hx hb dL_152 rfl (lv_at hl 1 rfl) ?_
  refine lw_arg (a := 1) C0 hS hl h1 dL_153 dL_154 dL_155 rfl dL_156 dL_157 ?_
  refine lw_arg (a := 2) C0 hS hl h2 dL_158 dL_159 dL_160 rfl dL_161 dL_162 ?_
  obtain ⟨P1, P2, M1, M2, hI1, hP⟩ := p_configure (xs (x + 1).toNatClampNeg).toInt (xs (x + 2).toNatClampNeg).toInt S I1 I2 F1 F2 hC hD
  refine lw_callV (as := [iv (xs (x + 1).toNatClampNeg).toInt, iv (xs (x + 2).toNatClampNeg).toInt]) (rest := []) C0 hK dL_163 (List.mem_of_getElem? (i := 426) (by decide +kernel)) f7_configure v7_configure M1 rfl rfl (by decide) rfl (by decide) hW1 hW2 hap hS hl (fun v hv => by simp only [List.mem_cons, List.not_mem_nil, or_false] at hv; rcases hv with rfl | rfl <;> exact ti_R _) (Nat.le_of_ble_eq_true rfl) hcap (fun r sh' I1' F1' ad1' H locs hq hr hag hW1 hW2 hap hS => ?_)
  obtain ⟨rfl, hq⟩ := hq
  obtain ⟨v1, rfl⟩ := hI1 _ _ _ hq
  have hl : lv_has lsc 4 [(0, .ref b), (1, .ref (ad1' 0)), (2, .ref (ad2 0)), (3, .int x)] := by rw [hag 0 (by decide)]; exact hl
  refine lv_aload_n hx hb dL_166 rfl (lv_at hl 2 rfl) ?_
  refine lw_arg (a := 1) C0 hS hl h1 dL_167 dL_168 dL_169 rfl dL_170 dL_171 ?_
  refine lw_arg (a := 2) C0 hS hl h2 dL_172 dL_173 dL_174 rfl dL_175 dL_176 ?_
  refine lw_callV (as := [iv (xs (x + 1).toNatClampNeg).toInt, iv (xs (x + 2).toNatClampNeg).toInt]) (rest := [.int (Int32.ofInt v1)]) C0 hK dL_177 (List.mem_of_getElem? (i := 851) (by decide +kernel)) f8_configure v8_configure M2 rfl rfl (by decide) rfl (by decide) hW2 hW1 hap.sw hS hl (fun v hv => by simp only [List.mem_cons, List.not_mem_nil, or_false] at hv; rcases hv with rfl | rfl <;> exact ti_R _) (Nat.le_of_ble_eq_true rfl) hcap (fun r sh' I2' F2' ad2' H locs hq2 hr2 hag2 hW2 hW1 hap hS => ?_)
  obtain ⟨rfl, hq2⟩ := hq2
  obtain ⟨v, S', e1, e2, c1, c2⟩ := hP _ _ _ _ _ _ hq hq2
  cases e1
  subst e2
  refine lv_icmp_eq (tgt := 720) hx hb dL_180 (by decide) (fun _ => ?_) (fun h => absurd rfl h)
  exact K S' ad1' ad2' I1' I2' F1' F2' H locs c1 c2 hW1 hW2 hap.sw hS (by rw [hag2 0 (by decide)]; exact hl)
theorem law_c1 {kc ks : Nat} {lsc : Array Slot} {x : Int32} (C0 : lw_At p s m meth c b L xs) (hK : Kn D cI cS s) (h1 : vp_in (x + 1) L) (h2 : vp_in (x + 2) L) (h3 : vp_in (x + 3) L) (hcap : kc ≤ 600000 ∧ ks ≤ 7302249) (K : LK p l e s m below meth c b D cI cS lsc x kc ks 720) : LK p l e s m below meth c b D cI cS lsc x kc ks 185 := by
  intro S ad1 ad2 I1 I2 F1 F2 H locs hC hD hW1 hW2 hap hS hl
  obtain ⟨hx, hb, hr, hml, hown, hts, hX, hbl, hlocks, hgv⟩ := id C0
  refine lv_aload_n hx hb dL_185 rfl (lv_at hl 1 rfl) ?_
  refine lw_arg (a := 1) C0 hS hl h1 dL_186 dL_187 dL_188 rfl dL_189 dL_190 ?_
  refine lw_arg (a := 2) C0 hS hl h2 dL_191 dL_192 dL_193 rfl dL_194 dL_195 ?_
  refine lw_arg (a := 3) C0 hS hl h3 dL_196 dL_197 dL_198 rfl dL_199 dL_200 ?_
  obtain ⟨P1, P2, M1, M2, hI1, hP⟩ := p_setEntry (xs (x + 1).toNatClampNeg).toInt (xs (x + 2).toNatClampNeg).toInt (xs (x + 3).toNatClampNeg).toInt S I1 I2 F1 F2 hC hD
  refine lw_callV (as := [iv (xs (x + 1).toNatClampNeg).toInt, iv (xs (x + 2).toNatClampNeg).toInt, iv (xs (x + 3).toNatClampNeg).toInt]) (rest := []) C0 hK dL_201 (List.mem_of_getElem? (i := 443) (by decide +kernel)) f7_setEntry v7_setEntry M1 rfl rfl (by decide) rfl (by decide) hW1 hW2 hap hS hl (fun v hv => by simp only [List.mem_cons, List.not_mem_nil, or_false] at hv; rcases hv with rfl | rfl | rfl <;> exact ti_R _) (Nat.le_of_ble_eq_true rfl) hcap (fun r sh' I1' F1' ad1' H locs hq hr hag hW1 hW2 hap hS => ?_)
  obtain ⟨rfl, hq⟩ := hq
  obtain ⟨v1, rfl⟩ := hI1 _ _ _ hq
  have hl : lv_has lsc 4 [(0, .ref b), (1, .ref (ad1' 0)), (2, .ref (ad2 0)), (3, .int x)] := by rw [hag 0 (by decide)]; exact hl
  refine lv_aload_n hx hb dL_204 rfl (lv_at hl 2 rfl) ?_
  refine lw_arg (a := 1) C0 hS hl h1 dL_205 dL_206 dL_207 rfl dL_208 dL_209 ?_
  refine lw_arg (a := 2) C0 hS hl h2 dL_210 dL_211 dL_212 rfl dL_213 dL_214 ?_
  refine lw_arg (a := 3) C0 hS hl h3 dL_215 dL_216 dL_217 rfl dL_218 dL_219 ?_
  refine lw_callV (as := [iv (xs (x + 1).toNatClampNeg).toInt, iv (xs (x + 2).toNatClampNeg).toInt, iv (xs (x + 3).toNatClampNeg).toInt]) (rest := [.int (Int32.ofInt v1)]) C0 hK dL_220 (List.mem_of_getElem? (i := 862) (by decide +kernel)) f8_setEntry v8_setEntry M2 rfl rfl (by decide) rfl (by decide) hW2 hW1 hap.sw hS hl (fun v hv => by simp only [List.mem_cons, List.not_mem_nil, or_false] at hv; rcases hv with rfl | rfl | rfl <;> exact ti_R _) (Nat.le_of_ble_eq_true rfl) hcap (fun r sh' I2' F2' ad2' H locs hq2 hr2 hag2 hW2 hW1 hap hS => ?_)
  obtain ⟨rfl, hq2⟩ := hq2
  obtain ⟨v, S', e1, e2, c1, c2⟩ := hP _ _ _ _ _ _ hq hq2
  cases e1
  subst e2
  refine lv_icmp_eq (tgt := 720) hx hb dL_223 (by decide) (fun _ => ?_) (fun h => absurd rfl h)
  exact K S' ad1' ad2' I1' I2' F1' F2' H locs c1 c2 hW1 hW2 hap.sw hS (by rw [hag2 0 (by decide)]; exact hl)
theorem law_c2 {kc ks : Nat} {lsc : Array Slot} {x : Int32} (C0 : lw_At p s m meth c b L xs) (hK : Kn D cI cS s) (h1 : vp_in (x + 1) L) (h2 : vp_in (x + 2) L) (h3 : vp_in (x + 3) L) (hcap : kc ≤ 600000 ∧ ks ≤ 7302249) (K : LK p l e s m below meth c b D cI cS lsc x kc ks 720) : LK p l e s m below meth c b D cI cS lsc x kc ks 228 := by
  intro S ad1 ad2 I1 I2 F1 F2 H locs hC hD hW1 hW2 hap hS hl
  obtain ⟨hx, hb, hr, hml, hown, hts, hX, hbl, hlocks, hgv⟩ := id C0
  refine lv_aload_n hx hb dL_228 rfl (lv_at hl 1 rfl) ?_
  refine lw_arg (a := 1) C0 hS hl h1 dL_229 dL_230 dL_231 rfl dL_232 dL_233 ?_
  obtain ⟨P1, P2, M1, M2, hI1, hP⟩ := p_append (xs (x + 1).toNatClampNeg).toInt S I1 I2 F1 F2 hC hD
  refine lw_callV (as := [iv (xs (x + 1).toNatClampNeg).toInt]) (rest := []) C0 hK dL_234 (List.mem_of_getElem? (i := 457) (by decide +kernel)) f7_append v7_append M1 rfl rfl (by decide) rfl (by decide) hW1 hW2 hap hS hl (fun v hv => by simp only [List.mem_cons, List.not_mem_nil, or_false] at hv; rcases hv with rfl <;> exact ti_R _) (Nat.le_of_ble_eq_true rfl) hcap (fun r sh' I1' F1' ad1' H locs hq hr hag hW1 hW2 hap hS => ?_)
  obtain ⟨rfl, hq⟩ := hq
  obtain ⟨v1, rfl⟩ := hI1 _ _ _ hq
  have hl : lv_has lsc 4 [(0, .ref b), (1, .ref (ad1' 0)), (2, .ref (ad2 0)), (3, .int x)] := by rw [hag 0 (by decide)]; exact hl
  refine lv_aload_n hx hb dL_237 rfl (lv_at hl 2 rfl) ?_
  refine lw_arg (a := 1) C0 hS hl h1 dL_238 dL_239 dL_240 rfl dL_241 dL_242 ?_
  refine lw_callV (as := [iv (xs (x + 1).toNatClampNeg).toInt]) (rest := [.int (Int32.ofInt v1)]) C0 hK dL_243 (List.mem_of_getElem? (i := 874) (by decide +kernel)) f8_append v8_append M2 rfl rfl (by decide) rfl (by decide) hW2 hW1 hap.sw hS hl (fun v hv => by simp only [List.mem_cons, List.not_mem_nil, or_false] at hv; rcases hv with rfl <;> exact ti_R _) (Nat.le_of_ble_eq_true rfl) hcap (fun r sh' I2' F2' ad2' H locs hq2 hr2 hag2 hW2 hW1 hap hS => ?_)
  obtain ⟨rfl, hq2⟩ := hq2
  obtain ⟨v, S', e1, e2, c1, c2⟩ := hP _ _ _ _ _ _ hq hq2
  cases e1
  subst e2
  refine lv_icmp_eq (tgt := 720) hx hb dL_246 (by decide) (fun _ => ?_) (fun h => absurd rfl h)
  exact K S' ad1' ad2' I1' I2' F1' F2' H locs c1 c2 hW1 hW2 hap.sw hS (by rw [hag2 0 (by decide)]; exact hl)
theorem law_c3 {kc ks : Nat} {lsc : Array Slot} {x : Int32} (C0 : lw_At p s m meth c b L xs) (hK : Kn D cI cS s) (h1 : vp_in (x + 1) L) (h2 : vp_in (x + 2) L) (h3 : vp_in (x + 3) L) (hcap : kc ≤ 600000 ∧ ks ≤ 7302249) (K : LK p l e s m below meth c b D cI cS lsc x kc ks 720) : LK p l e s m below meth c b D cI cS lsc x kc ks 251 := by
  intro S ad1 ad2 I1 I2 F1 F2 H locs hC hD hW1 hW2 hap hS hl
  obtain ⟨hx, hb, hr, hml, hown, hts, hX, hbl, hlocks, hgv⟩ := id C0
  refine lv_aload_n hx hb dL_251 rfl (lv_at hl 1 rfl) ?_
  obtain ⟨P1, P2, M1, M2, hI1, hP⟩ := p_clearText  S I1 I2 F1 F2 hC hD
  refine lw_callV (as := []) (rest := []) C0 hK dL_252 (List.mem_of_getElem? (i := 465) (by decide +kernel)) f7_clearText v7_clearText M1 rfl rfl (by decide) rfl (by decide) hW1 hW2 hap hS hl (fun v hv => by cases hv) (Nat.le_of_ble_eq_true rfl) hcap (fun r sh' I1' F1' ad1' H locs hq hr hag hW1 hW2 hap hS => ?_)
  obtain ⟨rfl, hq⟩ := hq
  obtain ⟨v1, rfl⟩ := hI1 _ _ _ hq
  have hl : lv_has lsc 4 [(0, .ref b), (1, .ref (ad1' 0)), (2, .ref (ad2 0)), (3, .int x)] := by rw [hag 0 (by decide)]; exact hl
  refine lv_aload_n hx hb dL_255 rfl (lv_at hl 2 rfl) ?_
  refine lw_callV (as := []) (rest := [.int (Int32.ofInt v1)]) C0 hK dL_256 (List.mem_of_getElem? (i := 878) (by decide +kernel)) f8_clearText v8_clearText M2 rfl rfl (by decide) rfl (by decide) hW2 hW1 hap.sw hS hl (fun v hv => by cases hv) (Nat.le_of_ble_eq_true rfl) hcap (fun r sh' I2' F2' ad2' H locs hq2 hr2 hag2 hW2 hW1 hap hS => ?_)
  obtain ⟨rfl, hq2⟩ := hq2
  obtain ⟨v, S', e1, e2, c1, c2⟩ := hP _ _ _ _ _ _ hq hq2
  cases e1
  subst e2
  refine lv_icmp_eq (tgt := 720) hx hb dL_259 (by decide) (fun _ => ?_) (fun h => absurd rfl h)
  exact K S' ad1' ad2' I1' I2' F1' F2' H locs c1 c2 hW1 hW2 hap.sw hS (by rw [hag2 0 (by decide)]; exact hl)
theorem law_c4 {kc ks : Nat} {lsc : Array Slot} {x : Int32} (C0 : lw_At p s m meth c b L xs) (hK : Kn D cI cS s) (h1 : vp_in (x + 1) L) (h2 : vp_in (x + 2) L) (h3 : vp_in (x + 3) L) (hcap : kc ≤ 600000 ∧ ks ≤ 7302249) (K : LK p l e s m below meth c b D cI cS lsc x kc ks 720) : LK p l e s m below meth c b D cI cS lsc x kc ks 264 := by
  intro S ad1 ad2 I1 I2 F1 F2 H locs hC hD hW1 hW2 hap hS hl
  obtain ⟨hx, hb, hr, hml, hown, hts, hX, hbl, hlocks, hgv⟩ := id C0
  refine lv_aload_n hx hb dL_264 rfl (lv_at hl 1 rfl) ?_
  obtain ⟨P1, P2, M1, M2, hI1, hP⟩ := p_loadText  S I1 I2 F1 F2 hC hD
  refine lw_callV (as := []) (rest := []) C0 hK dL_265 (List.mem_of_getElem? (i := 469) (by decide +kernel)) f7_loadText v7_loadText M1 rfl rfl (by decide) rfl (by decide) hW1 hW2 hap hS hl (fun v hv => by cases hv) (Nat.le_of_ble_eq_true rfl) hcap (fun r sh' I1' F1' ad1' H locs hq hr hag hW1 hW2 hap hS => ?_)
  obtain ⟨rfl, hq⟩ := hq
  obtain ⟨v1, rfl⟩ := hI1 _ _ _ hq
  have hl : lv_has lsc 4 [(0, .ref b), (1, .ref (ad1' 0)), (2, .ref (ad2 0)), (3, .int x)] := by rw [hag 0 (by decide)]; exact hl
  refine lv_aload_n hx hb dL_268 rfl (lv_at hl 2 rfl) ?_
  refine lw_callV (as := []) (rest := [.int (Int32.ofInt v1)]) C0 hK dL_269 (List.mem_of_getElem? (i := 882) (by decide +kernel)) f8_loadText v8_loadText M2 rfl rfl (by decide) rfl (by decide) hW2 hW1 hap.sw hS hl (fun v hv => by cases hv) (Nat.le_of_ble_eq_true rfl) hcap (fun r sh' I2' F2' ad2' H locs hq2 hr2 hag2 hW2 hW1 hap hS => ?_)
  obtain ⟨rfl, hq2⟩ := hq2
  obtain ⟨v, S', e1, e2, c1, c2⟩ := hP _ _ _ _ _ _ hq hq2
  cases e1
  subst e2
  refine lv_icmp_eq (tgt := 720) hx hb dL_272 (by decide) (fun _ => ?_) (fun h => absurd rfl h)
  exact K S' ad1' ad2' I1' I2' F1' F2' H locs c1 c2 hW1 hW2 hap.sw hS (by rw [hag2 0 (by decide)]; exact hl)
theorem law_c5 {kc ks : Nat} {lsc : Array Slot} {x : Int32} (C0 : lw_At p s m meth c b L xs) (hK : Kn D cI cS s) (h1 : vp_in (x + 1) L) (h2 : vp_in (x + 2) L) (h3 : vp_in (x + 3) L) (hcap : kc ≤ 600000 ∧ ks ≤ 7302249) (K : LK p l e s m below meth c b D cI cS lsc x kc ks 720) : LK p l e s m below meth c b D cI cS lsc x kc ks 277 := by
  intro S ad1 ad2 I1 I2 F1 F2 H locs hC hD hW1 hW2 hap hS hl
  obtain ⟨hx, hb, hr, hml, hown, hts, hX, hbl, hlocks, hgv⟩ := id C0
  refine lv_aload_n hx hb dL_277 rfl (lv_at hl 1 rfl) ?_
  refine lw_arg (a := 1) C0 hS hl h1 dL_278 dL_279 dL_280 rfl dL_281 dL_282 ?_
  refine lw_arg (a := 2) C0 hS hl h2 dL_283 dL_284 dL_285 rfl dL_286 dL_287 ?_
  obtain ⟨P1, P2, M1, M2, hI1, hP⟩ := p_entry (xs (x + 1).toNatClampNeg).toInt (xs (x + 2).toNatClampNeg).toInt S I1 I2 F1 F2 hC hD
  refine lw_callV (as := [iv (xs (x + 1).toNatClampNeg).toInt, iv (xs (x + 2).toNatClampNeg).toInt]) (rest := []) C0 hK dL_288 (List.mem_of_getElem? (i := 497) (by decide +kernel)) f7_entry v7_entry M1 rfl rfl (by decide) rfl (by decide) hW1 hW2 hap hS hl (fun v hv => by simp only [List.mem_cons, List.not_mem_nil, or_false] at hv; rcases hv with rfl | rfl <;> exact ti_R _) (Nat.le_of_ble_eq_true rfl) hcap (fun r sh' I1' F1' ad1' H locs hq hr hag hW1 hW2 hap hS => ?_)
  obtain ⟨rfl, hq⟩ := hq
  obtain ⟨v1, rfl⟩ := hI1 _ _ _ hq
  have hl : lv_has lsc 4 [(0, .ref b), (1, .ref (ad1' 0)), (2, .ref (ad2 0)), (3, .int x)] := by rw [hag 0 (by decide)]; exact hl
  refine lv_aload_n hx hb dL_291 rfl (lv_at hl 2 rfl) ?_
  refine lw_arg (a := 1) C0 hS hl h1 dL_292 dL_293 dL_294 rfl dL_295 dL_296 ?_
  refine lw_arg (a := 2) C0 hS hl h2 dL_297 dL_298 dL_299 rfl dL_300 dL_301 ?_
  refine lw_callV (as := [iv (xs (x + 1).toNatClampNeg).toInt, iv (xs (x + 2).toNatClampNeg).toInt]) (rest := [.int (Int32.ofInt v1)]) C0 hK dL_302 (List.mem_of_getElem? (i := 894) (by decide +kernel)) f8_entry v8_entry M2 rfl rfl (by decide) rfl (by decide) hW2 hW1 hap.sw hS hl (fun v hv => by simp only [List.mem_cons, List.not_mem_nil, or_false] at hv; rcases hv with rfl | rfl <;> exact ti_R _) (Nat.le_of_ble_eq_true rfl) hcap (fun r sh' I2' F2' ad2' H locs hq2 hr2 hag2 hW2 hW1 hap hS => ?_)
  obtain ⟨rfl, hq2⟩ := hq2
  obtain ⟨v, S', e1, e2, c1, c2⟩ := hP _ _ _ _ _ _ hq hq2
  cases e1
  subst e2
  refine lv_icmp_eq (tgt := 720) hx hb dL_305 (by decide) (fun _ => ?_) (fun h => absurd rfl h)
  exact K S' ad1' ad2' I1' I2' F1' F2' H locs c1 c2 hW1 hW2 hap.sw hS (by rw [hag2 0 (by decide)]; exact hl)
theorem law_c6 {kc ks : Nat} {lsc : Array Slot} {x : Int32} (C0 : lw_At p s m meth c b L xs) (hK : Kn D cI cS s) (h1 : vp_in (x + 1) L) (h2 : vp_in (x + 2) L) (h3 : vp_in (x + 3) L) (hcap : kc ≤ 600000 ∧ ks ≤ 7302249) (K : LK p l e s m below meth c b D cI cS lsc x kc ks 720) : LK p l e s m below meth c b D cI cS lsc x kc ks 310 := by
  intro S ad1 ad2 I1 I2 F1 F2 H locs hC hD hW1 hW2 hap hS hl
  obtain ⟨hx, hb, hr, hml, hown, hts, hX, hbl, hlocks, hgv⟩ := id C0
  refine lv_aload_n hx hb dL_310 rfl (lv_at hl 1 rfl) ?_
  obtain ⟨P1, P2, M1, M2, hI1, hP⟩ := p_rank  S I1 I2 F1 F2 hC hD
  refine lw_callV (as := []) (rest := []) C0 hK dL_311 (List.mem_of_getElem? (i := 501) (by decide +kernel)) f7_rank v7_rank M1 rfl rfl (by decide) rfl (by decide) hW1 hW2 hap hS hl (fun v hv => by cases hv) (Nat.le_of_ble_eq_true rfl) hcap (fun r sh' I1' F1' ad1' H locs hq hr hag hW1 hW2 hap hS => ?_)
  obtain ⟨rfl, hq⟩ := hq
  obtain ⟨v1, rfl⟩ := hI1 _ _ _ hq
  have hl : lv_has lsc 4 [(0, .ref b), (1, .ref (ad1' 0)), (2, .ref (ad2 0)), (3, .int x)] := by rw [hag 0 (by decide)]; exact hl
  refine lv_aload_n hx hb dL_314 rfl (lv_at hl 2 rfl) ?_
  refine lw_callV (as := []) (rest := [.int (Int32.ofInt v1)]) C0 hK dL_315 (List.mem_of_getElem? (i := 898) (by decide +kernel)) f8_rank v8_rank M2 rfl rfl (by decide) rfl (by decide) hW2 hW1 hap.sw hS hl (fun v hv => by cases hv) (Nat.le_of_ble_eq_true rfl) hcap (fun r sh' I2' F2' ad2' H locs hq2 hr2 hag2 hW2 hW1 hap hS => ?_)
  obtain ⟨rfl, hq2⟩ := hq2
  obtain ⟨v, S', e1, e2, c1, c2⟩ := hP _ _ _ _ _ _ hq hq2
  cases e1
  subst e2
  refine lv_icmp_eq (tgt := 720) hx hb dL_318 (by decide) (fun _ => ?_) (fun h => absurd rfl h)
  exact K S' ad1' ad2' I1' I2' F1' F2' H locs c1 c2 hW1 hW2 hap.sw hS (by rw [hag2 0 (by decide)]; exact hl)
theorem law_c7 {kc ks : Nat} {lsc : Array Slot} {x : Int32} (C0 : lw_At p s m meth c b L xs) (hK : Kn D cI cS s) (h1 : vp_in (x + 1) L) (h2 : vp_in (x + 2) L) (h3 : vp_in (x + 3) L) (hcap : kc ≤ 600000 ∧ ks ≤ 7302249) (K : LK p l e s m below meth c b D cI cS lsc x kc ks 720) : LK p l e s m below meth c b D cI cS lsc x kc ks 323 := by
  intro S ad1 ad2 I1 I2 F1 F2 H locs hC hD hW1 hW2 hap hS hl
  obtain ⟨hx, hb, hr, hml, hown, hts, hX, hbl, hlocks, hgv⟩ := id C0
  refine lv_aload_n hx hb dL_323 rfl (lv_at hl 1 rfl) ?_
  obtain ⟨P1, P2, M1, M2, hI1, hP⟩ := p_isPositive  S I1 I2 F1 F2 hC hD
  refine lw_callV (as := []) (rest := []) C0 hK dL_324 (List.mem_of_getElem? (i := 505) (by decide +kernel)) f7_isPositive v7_isPositive M1 rfl rfl (by decide) rfl (by decide) hW1 hW2 hap hS hl (fun v hv => by cases hv) (Nat.le_of_ble_eq_true rfl) hcap (fun r sh' I1' F1' ad1' H locs hq hr hag hW1 hW2 hap hS => ?_)
  obtain ⟨rfl, hq⟩ := hq
  obtain ⟨v1, rfl⟩ := hI1 _ _ _ hq
  have hl : lv_has lsc 4 [(0, .ref b), (1, .ref (ad1' 0)), (2, .ref (ad2 0)), (3, .int x)] := by rw [hag 0 (by decide)]; exact hl
  refine lv_aload_n hx hb dL_327 rfl (lv_at hl 2 rfl) ?_
  refine lw_callV (as := []) (rest := [.int (Int32.ofInt v1)]) C0 hK dL_328 (List.mem_of_getElem? (i := 902) (by decide +kernel)) f8_isPositive v8_isPositive M2 rfl rfl (by decide) rfl (by decide) hW2 hW1 hap.sw hS hl (fun v hv => by cases hv) (Nat.le_of_ble_eq_true rfl) hcap (fun r sh' I2' F2' ad2' H locs hq2 hr2 hag2 hW2 hW1 hap hS => ?_)
  obtain ⟨rfl, hq2⟩ := hq2
  obtain ⟨v, S', e1, e2, c1, c2⟩ := hP _ _ _ _ _ _ hq hq2
  cases e1
  subst e2
  refine lv_icmp_eq (tgt := 720) hx hb dL_331 (by decide) (fun _ => ?_) (fun h => absurd rfl h)
  exact K S' ad1' ad2' I1' I2' F1' F2' H locs c1 c2 hW1 hW2 hap.sw hS (by rw [hag2 0 (by decide)]; exact hl)
theorem law_c8 {kc ks : Nat} {lsc : Array Slot} {x : Int32} (C0 : lw_At p s m meth c b L xs) (hK : Kn D cI cS s) (h1 : vp_in (x + 1) L) (h2 : vp_in (x + 2) L) (h3 : vp_in (x + 3) L) (hcap : kc ≤ 600000 ∧ ks ≤ 7302249) (K : LK p l e s m below meth c b D cI cS lsc x kc ks 720) : LK p l e s m below meth c b D cI cS lsc x kc ks 336 := by
  intro S ad1 ad2 I1 I2 F1 F2 H locs hC hD hW1 hW2 hap hS hl
  obtain ⟨hx, hb, hr, hml, hown, hts, hX, hbl, hlocks, hgv⟩ := id C0
  refine lv_aload_n hx hb dL_336 rfl (lv_at hl 1 rfl) ?_
  obtain ⟨P1, P2, M1, M2, hI1, hP⟩ := p_graverCount  S I1 I2 F1 F2 hC hD
  refine lw_callV (as := []) (rest := []) C0 hK dL_337 (List.mem_of_getElem? (i := 516) (by decide +kernel)) f7_graverCount v7_graverCount M1 rfl rfl (by decide) rfl (by decide) hW1 hW2 hap hS hl (fun v hv => by cases hv) (Nat.le_of_ble_eq_true rfl) hcap (fun r sh' I1' F1' ad1' H locs hq hr hag hW1 hW2 hap hS => ?_)
  obtain ⟨rfl, hq⟩ := hq
  obtain ⟨v1, rfl⟩ := hI1 _ _ _ hq
  have hl : lv_has lsc 4 [(0, .ref b), (1, .ref (ad1' 0)), (2, .ref (ad2 0)), (3, .int x)] := by rw [hag 0 (by decide)]; exact hl
  refine lv_aload_n hx hb dL_340 rfl (lv_at hl 2 rfl) ?_
  refine lw_callV (as := []) (rest := [.int (Int32.ofInt v1)]) C0 hK dL_341 (List.mem_of_getElem? (i := 910) (by decide +kernel)) f8_graverCount v8_graverCount M2 rfl rfl (by decide) rfl (by decide) hW2 hW1 hap.sw hS hl (fun v hv => by cases hv) (Nat.le_of_ble_eq_true rfl) hcap (fun r sh' I2' F2' ad2' H locs hq2 hr2 hag2 hW2 hW1 hap hS => ?_)
  obtain ⟨rfl, hq2⟩ := hq2
  obtain ⟨v, S', e1, e2, c1, c2⟩ := hP _ _ _ _ _ _ hq hq2
  cases e1
  subst e2
  refine lv_icmp_eq (tgt := 720) hx hb dL_344 (by decide) (fun _ => ?_) (fun h => absurd rfl h)
  exact K S' ad1' ad2' I1' I2' F1' F2' H locs c1 c2 hW1 hW2 hap.sw hS (by rw [hag2 0 (by decide)]; exact hl)
theorem law_c9 {kc ks : Nat} {lsc : Array Slot} {x : Int32} (C0 : lw_At p s m meth c b L xs) (hK : Kn D cI cS s) (h1 : vp_in (x + 1) L) (h2 : vp_in (x + 2) L) (h3 : vp_in (x + 3) L) (hcap : kc ≤ 600000 ∧ ks ≤ 7302249) (K : LK p l e s m below meth c b D cI cS lsc x kc ks 720) : LK p l e s m below meth c b D cI cS lsc x kc ks 349 := by
  intro S ad1 ad2 I1 I2 F1 F2 H locs hC hD hW1 hW2 hap hS hl
  obtain ⟨hx, hb, hr, hml, hown, hts, hX, hbl, hlocks, hgv⟩ := id C0
  refine lv_aload_n hx hb dL_349 rfl (lv_at hl 1 rfl) ?_
  refine lw_arg (a := 1) C0 hS hl h1 dL_350 dL_351 dL_352 rfl dL_353 dL_354 ?_
  refine lw_arg (a := 2) C0 hS hl h2 dL_355 dL_356 dL_357 rfl dL_358 dL_359 ?_
  obtain ⟨P1, P2, M1, M2, hI1, hP⟩ := p_graverEntry (xs (x + 1).toNatClampNeg).toInt (xs (x + 2).toNatClampNeg).toInt S I1 I2 F1 F2 hC hD
  refine lw_callV (as := [iv (xs (x + 1).toNatClampNeg).toInt, iv (xs (x + 2).toNatClampNeg).toInt]) (rest := []) C0 hK dL_360 (List.mem_of_getElem? (i := 520) (by decide +kernel)) f7_graverEntry v7_graverEntry M1 rfl rfl (by decide) rfl (by decide) hW1 hW2 hap hS hl (fun v hv => by simp only [List.mem_cons, List.not_mem_nil, or_false] at hv; rcases hv with rfl | rfl <;> exact ti_R _) (Nat.le_of_ble_eq_true rfl) hcap (fun r sh' I1' F1' ad1' H locs hq hr hag hW1 hW2 hap hS => ?_)
  obtain ⟨rfl, hq⟩ := hq
  obtain ⟨v1, rfl⟩ := hI1 _ _ _ hq
  have hl : lv_has lsc 4 [(0, .ref b), (1, .ref (ad1' 0)), (2, .ref (ad2 0)), (3, .int x)] := by rw [hag 0 (by decide)]; exact hl
  refine lv_aload_n hx hb dL_363 rfl (lv_at hl 2 rfl) ?_
  refine lw_arg (a := 1) C0 hS hl h1 dL_364 dL_365 dL_366 rfl dL_367 dL_368 ?_
  refine lw_arg (a := 2) C0 hS hl h2 dL_369 dL_370 dL_371 rfl dL_372 dL_373 ?_
  refine lw_callV (as := [iv (xs (x + 1).toNatClampNeg).toInt, iv (xs (x + 2).toNatClampNeg).toInt]) (rest := [.int (Int32.ofInt v1)]) C0 hK dL_374 (List.mem_of_getElem? (i := 914) (by decide +kernel)) f8_graverEntry v8_graverEntry M2 rfl rfl (by decide) rfl (by decide) hW2 hW1 hap.sw hS hl (fun v hv => by simp only [List.mem_cons, List.not_mem_nil, or_false] at hv; rcases hv with rfl | rfl <;> exact ti_R _) (Nat.le_of_ble_eq_true rfl) hcap (fun r sh' I2' F2' ad2' H locs hq2 hr2 hag2 hW2 hW1 hap hS => ?_)
  obtain ⟨rfl, hq2⟩ := hq2
  obtain ⟨v, S', e1, e2, c1, c2⟩ := hP _ _ _ _ _ _ hq hq2
  cases e1
  subst e2
  refine lv_icmp_eq (tgt := 720) hx hb dL_377 (by decide) (fun _ => ?_) (fun h => absurd rfl h)
  exact K S' ad1' ad2' I1' I2' F1' F2' H locs c1 c2 hW1 hW2 hap.sw hS (by rw [hag2 0 (by decide)]; exact hl)
theorem law_c10 {kc ks : Nat} {lsc : Array Slot} {x : Int32} (C0 : lw_At p s m meth c b L xs) (hK : Kn D cI cS s) (h1 : vp_in (x + 1) L) (h2 : vp_in (x + 2) L) (h3 : vp_in (x + 3) L) (hcap : kc ≤ 600000 ∧ ks ≤ 7302249) (K : LK p l e s m below meth c b D cI cS lsc x kc ks 720) : LK p l e s m below meth c b D cI cS lsc x kc ks 382 := by
  intro S ad1 ad2 I1 I2 F1 F2 H locs hC hD hW1 hW2 hap hS hl
  obtain ⟨hx, hb, hr, hml, hown, hts, hX, hbl, hlocks, hgv⟩ := id C0
  refine lv_aload_n hx hb dL_382 rfl (lv_at hl 1 rfl) ?_
  refine lw_arg (a := 1) C0 hS hl h1 dL_383 dL_384 dL_385 rfl dL_386 dL_387 ?_
  obtain ⟨P1, P2, M1, M2, hI1, hP⟩ := p_isCircuit (xs (x + 1).toNatClampNeg).toInt S I1 I2 F1 F2 hC hD
  refine lw_callV (as := [iv (xs (x + 1).toNatClampNeg).toInt]) (rest := []) C0 hK dL_388 (List.mem_of_getElem? (i := 529) (by decide +kernel)) f7_isCircuit v7_isCircuit M1 rfl rfl (by decide) rfl (by decide) hW1 hW2 hap hS hl (fun v hv => by simp only [List.mem_cons, List.not_mem_nil, or_false] at hv; rcases hv with rfl <;> exact ti_R _) (Nat.le_of_ble_eq_true rfl) hcap (fun r sh' I1' F1' ad1' H locs hq hr hag hW1 hW2 hap hS => ?_)
  obtain ⟨rfl, hq⟩ := hq
  obtain ⟨v1, rfl⟩ := hI1 _ _ _ hq
  have hl : lv_has lsc 4 [(0, .ref b), (1, .ref (ad1' 0)), (2, .ref (ad2 0)), (3, .int x)] := by rw [hag 0 (by decide)]; exact hl
  refine lv_aload_n hx hb dL_391 rfl (lv_at hl 2 rfl) ?_
  refine lw_arg (a := 1) C0 hS hl h1 dL_392 dL_393 dL_394 rfl dL_395 dL_396 ?_
  refine lw_callV (as := [iv (xs (x + 1).toNatClampNeg).toInt]) (rest := [.int (Int32.ofInt v1)]) C0 hK dL_397 (List.mem_of_getElem? (i := 922) (by decide +kernel)) f8_isCircuit v8_isCircuit M2 rfl rfl (by decide) rfl (by decide) hW2 hW1 hap.sw hS hl (fun v hv => by simp only [List.mem_cons, List.not_mem_nil, or_false] at hv; rcases hv with rfl <;> exact ti_R _) (Nat.le_of_ble_eq_true rfl) hcap (fun r sh' I2' F2' ad2' H locs hq2 hr2 hag2 hW2 hW1 hap hS => ?_)
  obtain ⟨rfl, hq2⟩ := hq2
  obtain ⟨v, S', e1, e2, c1, c2⟩ := hP _ _ _ _ _ _ hq hq2
  cases e1
  subst e2
  refine lv_icmp_eq (tgt := 720) hx hb dL_400 (by decide) (fun _ => ?_) (fun h => absurd rfl h)
  exact K S' ad1' ad2' I1' I2' F1' F2' H locs c1 c2 hW1 hW2 hap.sw hS (by rw [hag2 0 (by decide)]; exact hl)
theorem law_c11 {kc ks : Nat} {lsc : Array Slot} {x : Int32} (C0 : lw_At p s m meth c b L xs) (hK : Kn D cI cS s) (h1 : vp_in (x + 1) L) (h2 : vp_in (x + 2) L) (h3 : vp_in (x + 3) L) (hcap : kc ≤ 600000 ∧ ks ≤ 7302249) (K : LK p l e s m below meth c b D cI cS lsc x kc ks 720) : LK p l e s m below meth c b D cI cS lsc x kc ks 405 := by
  intro S ad1 ad2 I1 I2 F1 F2 H locs hC hD hW1 hW2 hap hS hl
  obtain ⟨hx, hb, hr, hml, hown, hts, hX, hbl, hlocks, hgv⟩ := id C0
  refine lv_aload_n hx hb dL_405 rfl (lv_at hl 1 rfl) ?_
  refine lw_arg (a := 1) C0 hS hl h1 dL_406 dL_407 dL_408 rfl dL_409 dL_410 ?_
  obtain ⟨P1, P2, M1, M2, hI1, hP⟩ := p_isIndispensable (xs (x + 1).toNatClampNeg).toInt S I1 I2 F1 F2 hC hD
  refine lw_callV (as := [iv (xs (x + 1).toNatClampNeg).toInt]) (rest := []) C0 hK dL_411 (List.mem_of_getElem? (i := 541) (by decide +kernel)) f7_isIndispensable v7_isIndispensable M1 rfl rfl (by decide) rfl (by decide) hW1 hW2 hap hS hl (fun v hv => by simp only [List.mem_cons, List.not_mem_nil, or_false] at hv; rcases hv with rfl <;> exact ti_R _) (Nat.le_of_ble_eq_true rfl) hcap (fun r sh' I1' F1' ad1' H locs hq hr hag hW1 hW2 hap hS => ?_)
  obtain ⟨rfl, hq⟩ := hq
  obtain ⟨v1, rfl⟩ := hI1 _ _ _ hq
  have hl : lv_has lsc 4 [(0, .ref b), (1, .ref (ad1' 0)), (2, .ref (ad2 0)), (3, .int x)] := by rw [hag 0 (by decide)]; exact hl
  refine lv_aload_n hx hb dL_414 rfl (lv_at hl 2 rfl) ?_
  refine lw_arg (a := 1) C0 hS hl h1 dL_415 dL_416 dL_417 rfl dL_418 dL_419 ?_
  refine lw_callV (as := [iv (xs (x + 1).toNatClampNeg).toInt]) (rest := [.int (Int32.ofInt v1)]) C0 hK dL_420 (List.mem_of_getElem? (i := 930) (by decide +kernel)) f8_isIndispensable v8_isIndispensable M2 rfl rfl (by decide) rfl (by decide) hW2 hW1 hap.sw hS hl (fun v hv => by simp only [List.mem_cons, List.not_mem_nil, or_false] at hv; rcases hv with rfl <;> exact ti_R _) (Nat.le_of_ble_eq_true rfl) hcap (fun r sh' I2' F2' ad2' H locs hq2 hr2 hag2 hW2 hW1 hap hS => ?_)
  obtain ⟨rfl, hq2⟩ := hq2
  obtain ⟨v, S', e1, e2, c1, c2⟩ := hP _ _ _ _ _ _ hq hq2
  cases e1
  subst e2
  refine lv_icmp_eq (tgt := 720) hx hb dL_423 (by decide) (fun _ => ?_) (fun h => absurd rfl h)
  exact K S' ad1' ad2' I1' I2' F1' F2' H locs c1 c2 hW1 hW2 hap.sw hS (by rw [hag2 0 (by decide)]; exact hl)
theorem law_c12 {kc ks : Nat} {lsc : Array Slot} {x : Int32} (C0 : lw_At p s m meth c b L xs) (hK : Kn D cI cS s) (h1 : vp_in (x + 1) L) (h2 : vp_in (x + 2) L) (h3 : vp_in (x + 3) L) (hcap : kc ≤ 600000 ∧ ks ≤ 7302249) (K : LK p l e s m below meth c b D cI cS lsc x kc ks 720) : LK p l e s m below meth c b D cI cS lsc x kc ks 428 := by
  intro S ad1 ad2 I1 I2 F1 F2 H locs hC hD hW1 hW2 hap hS hl
  obtain ⟨hx, hb, hr, hml, hown, hts, hX, hbl, hlocks, hgv⟩ := id C0
  refine lv_aload_n hx hb dL_428 rfl (lv_at hl 1 rfl) ?_
  refine lw_arg (a := 1) C0 hS hl h1 dL_429 dL_430 dL_431 rfl dL_432 dL_433 ?_
  refine lw_arg (a := 2) C0 hS hl h2 dL_434 dL_435 dL_436 rfl dL_437 dL_438 ?_
  obtain ⟨P1, P2, M1, M2, hI1, hP⟩ := p_setVector (xs (x + 1).toNatClampNeg).toInt (xs (x + 2).toNatClampNeg).toInt S I1 I2 F1 F2 hC hD
  refine lw_callV (as := [iv (xs (x + 1).toNatClampNeg).toInt, iv (xs (x + 2).toNatClampNeg).toInt]) (rest := []) C0 hK dL_439 (List.mem_of_getElem? (i := 574) (by decide +kernel)) f7_setVector v7_setVector M1 rfl rfl (by decide) rfl (by decide) hW1 hW2 hap hS hl (fun v hv => by simp only [List.mem_cons, List.not_mem_nil, or_false] at hv; rcases hv with rfl | rfl <;> exact ti_R _) (Nat.le_of_ble_eq_true rfl) hcap (fun r sh' I1' F1' ad1' H locs hq hr hag hW1 hW2 hap hS => ?_)
  obtain ⟨rfl, hq⟩ := hq
  obtain ⟨v1, rfl⟩ := hI1 _ _ _ hq
  have hl : lv_has lsc 4 [(0, .ref b), (1, .ref (ad1' 0)), (2, .ref (ad2 0)), (3, .int x)] := by rw [hag 0 (by decide)]; exact hl
  refine lv_aload_n hx hb dL_442 rfl (lv_at hl 2 rfl) ?_
  refine lw_arg (a := 1) C0 hS hl h1 dL_443 dL_444 dL_445 rfl dL_446 dL_447 ?_
  refine lw_arg (a := 2) C0 hS hl h2 dL_448 dL_449 dL_450 rfl dL_451 dL_452 ?_
  refine lw_callV (as := [iv (xs (x + 1).toNatClampNeg).toInt, iv (xs (x + 2).toNatClampNeg).toInt]) (rest := [.int (Int32.ofInt v1)]) C0 hK dL_453 (List.mem_of_getElem? (i := 946) (by decide +kernel)) f8_setVector v8_setVector M2 rfl rfl (by decide) rfl (by decide) hW2 hW1 hap.sw hS hl (fun v hv => by simp only [List.mem_cons, List.not_mem_nil, or_false] at hv; rcases hv with rfl | rfl <;> exact ti_R _) (Nat.le_of_ble_eq_true rfl) hcap (fun r sh' I2' F2' ad2' H locs hq2 hr2 hag2 hW2 hW1 hap hS => ?_)
  obtain ⟨rfl, hq2⟩ := hq2
  obtain ⟨v, S', e1, e2, c1, c2⟩ := hP _ _ _ _ _ _ hq hq2
  cases e1
  subst e2
  refine lv_icmp_eq (tgt := 720) hx hb dL_456 (by decide) (fun _ => ?_) (fun h => absurd rfl h)
  exact K S' ad1' ad2' I1' I2' F1' F2' H locs c1 c2 hW1 hW2 hap.sw hS (by rw [hag2 0 (by decide)]; exact hl)
theorem law_c13 {kc ks : Nat} {lsc : Array Slot} {x : Int32} (C0 : lw_At p s m meth c b L xs) (hK : Kn D cI cS s) (h1 : vp_in (x + 1) L) (h2 : vp_in (x + 2) L) (h3 : vp_in (x + 3) L) (hcap : kc ≤ 600000 ∧ ks ≤ 7302249) (K : LK p l e s m below meth c b D cI cS lsc x kc ks 720) : LK p l e s m below meth c b D cI cS lsc x kc ks 461 := by
  intro S ad1 ad2 I1 I2 F1 F2 H locs hC hD hW1 hW2 hap hS hl
  obtain ⟨hx, hb, hr, hml, hown, hts, hX, hbl, hlocks, hgv⟩ := id C0
  refine lv_aload_n hx hb dL_461 rfl (lv_at hl 1 rfl) ?_
  obtain ⟨P1, P2, M1, M2, hI1, hP⟩ := p_isInKernel  S I1 I2 F1 F2 hC hD
  refine lw_callV (as := []) (rest := []) C0 hK dL_462 (List.mem_of_getElem? (i := 578) (by decide +kernel)) f7_isInKernel v7_isInKernel M1 rfl rfl (by decide) rfl (by decide) hW1 hW2 hap hS hl (fun v hv => by cases hv) (Nat.le_of_ble_eq_true rfl) hcap (fun r sh' I1' F1' ad1' H locs hq hr hag hW1 hW2 hap hS => ?_)
  obtain ⟨rfl, hq⟩ := hq
  obtain ⟨v1, rfl⟩ := hI1 _ _ _ hq
  have hl : lv_has lsc 4 [(0, .ref b), (1, .ref (ad1' 0)), (2, .ref (ad2 0)), (3, .int x)] := by rw [hag 0 (by decide)]; exact hl
  refine lv_aload_n hx hb dL_465 rfl (lv_at hl 2 rfl) ?_
  refine lw_callV (as := []) (rest := [.int (Int32.ofInt v1)]) C0 hK dL_466 (List.mem_of_getElem? (i := 950) (by decide +kernel)) f8_isInKernel v8_isInKernel M2 rfl rfl (by decide) rfl (by decide) hW2 hW1 hap.sw hS hl (fun v hv => by cases hv) (Nat.le_of_ble_eq_true rfl) hcap (fun r sh' I2' F2' ad2' H locs hq2 hr2 hag2 hW2 hW1 hap hS => ?_)
  obtain ⟨rfl, hq2⟩ := hq2
  obtain ⟨v, S', e1, e2, c1, c2⟩ := hP _ _ _ _ _ _ hq hq2
  cases e1
  subst e2
  refine lv_icmp_eq (tgt := 720) hx hb dL_469 (by decide) (fun _ => ?_) (fun h => absurd rfl h)
  exact K S' ad1' ad2' I1' I2' F1' F2' H locs c1 c2 hW1 hW2 hap.sw hS (by rw [hag2 0 (by decide)]; exact hl)
theorem law_c14 {kc ks : Nat} {lsc : Array Slot} {x : Int32} (C0 : lw_At p s m meth c b L xs) (hK : Kn D cI cS s) (h1 : vp_in (x + 1) L) (h2 : vp_in (x + 2) L) (h3 : vp_in (x + 3) L) (hcap : kc ≤ 600000 ∧ ks ≤ 7302249) (K : LK p l e s m below meth c b D cI cS lsc x kc ks 720) : LK p l e s m below meth c b D cI cS lsc x kc ks 474 := by
  intro S ad1 ad2 I1 I2 F1 F2 H locs hC hD hW1 hW2 hap hS hl
  obtain ⟨hx, hb, hr, hml, hown, hts, hX, hbl, hlocks, hgv⟩ := id C0
  refine lv_aload_n hx hb dL_474 rfl (lv_at hl 1 rfl) ?_
  obtain ⟨P1, P2, M1, M2, hI1, hP⟩ := p_decompositionLength  S I1 I2 F1 F2 hC hD
  refine lw_callV (as := []) (rest := []) C0 hK dL_475 (List.mem_of_getElem? (i := 587) (by decide +kernel)) f7_decompositionLength v7_decompositionLength M1 rfl rfl (by decide) rfl (by decide) hW1 hW2 hap hS hl (fun v hv => by cases hv) (Nat.le_of_ble_eq_true rfl) hcap (fun r sh' I1' F1' ad1' H locs hq hr hag hW1 hW2 hap hS => ?_)
  obtain ⟨rfl, hq⟩ := hq
  obtain ⟨v1, rfl⟩ := hI1 _ _ _ hq
  have hl : lv_has lsc 4 [(0, .ref b), (1, .ref (ad1' 0)), (2, .ref (ad2 0)), (3, .int x)] := by rw [hag 0 (by decide)]; exact hl
  refine lv_aload_n hx hb dL_478 rfl (lv_at hl 2 rfl) ?_
  refine lw_callV (as := []) (rest := [.int (Int32.ofInt v1)]) C0 hK dL_479 (List.mem_of_getElem? (i := 958) (by decide +kernel)) f8_decompositionLength v8_decompositionLength M2 rfl rfl (by decide) rfl (by decide) hW2 hW1 hap.sw hS hl (fun v hv => by cases hv) (Nat.le_of_ble_eq_true rfl) hcap (fun r sh' I2' F2' ad2' H locs hq2 hr2 hag2 hW2 hW1 hap hS => ?_)
  obtain ⟨rfl, hq2⟩ := hq2
  obtain ⟨v, S', e1, e2, c1, c2⟩ := hP _ _ _ _ _ _ hq hq2
  cases e1
  subst e2
  refine lv_icmp_eq (tgt := 720) hx hb dL_482 (by decide) (fun _ => ?_) (fun h => absurd rfl h)
  exact K S' ad1' ad2' I1' I2' F1' F2' H locs c1 c2 hW1 hW2 hap.sw hS (by rw [hag2 0 (by decide)]; exact hl)
theorem law_c15 {kc ks : Nat} {lsc : Array Slot} {x : Int32} (C0 : lw_At p s m meth c b L xs) (hK : Kn D cI cS s) (h1 : vp_in (x + 1) L) (h2 : vp_in (x + 2) L) (h3 : vp_in (x + 3) L) (hcap : kc ≤ 600000 ∧ ks ≤ 7302249) (K : LK p l e s m below meth c b D cI cS lsc x kc ks 720) : LK p l e s m below meth c b D cI cS lsc x kc ks 487 := by
  intro S ad1 ad2 I1 I2 F1 F2 H locs hC hD hW1 hW2 hap hS hl
  obtain ⟨hx, hb, hr, hml, hown, hts, hX, hbl, hlocks, hgv⟩ := id C0
  refine lv_aload_n hx hb dL_487 rfl (lv_at hl 1 rfl) ?_
  refine lw_arg (a := 1) C0 hS hl h1 dL_488 dL_489 dL_490 rfl dL_491 dL_492 ?_
  obtain ⟨P1, P2, M1, M2, hI1, hP⟩ := p_decompositionStep (xs (x + 1).toNatClampNeg).toInt S I1 I2 F1 F2 hC hD
  refine lw_callV (as := [iv (xs (x + 1).toNatClampNeg).toInt]) (rest := []) C0 hK dL_493 (List.mem_of_getElem? (i := 602) (by decide +kernel)) f7_decompositionStep v7_decompositionStep M1 rfl rfl (by decide) rfl (by decide) hW1 hW2 hap hS hl (fun v hv => by simp only [List.mem_cons, List.not_mem_nil, or_false] at hv; rcases hv with rfl <;> exact ti_R _) (Nat.le_of_ble_eq_true rfl) hcap (fun r sh' I1' F1' ad1' H locs hq hr hag hW1 hW2 hap hS => ?_)
  obtain ⟨rfl, hq⟩ := hq
  obtain ⟨v1, rfl⟩ := hI1 _ _ _ hq
  have hl : lv_has lsc 4 [(0, .ref b), (1, .ref (ad1' 0)), (2, .ref (ad2 0)), (3, .int x)] := by rw [hag 0 (by decide)]; exact hl
  refine lv_aload_n hx hb dL_496 rfl (lv_at hl 2 rfl) ?_
  refine lw_arg (a := 1) C0 hS hl h1 dL_497 dL_498 dL_499 rfl dL_500 dL_501 ?_
  refine lw_callV (as := [iv (xs (x + 1).toNatClampNeg).toInt]) (rest := [.int (Int32.ofInt v1)]) C0 hK dL_502 (List.mem_of_getElem? (i := 970) (by decide +kernel)) f8_decompositionStep v8_decompositionStep M2 rfl rfl (by decide) rfl (by decide) hW2 hW1 hap.sw hS hl (fun v hv => by simp only [List.mem_cons, List.not_mem_nil, or_false] at hv; rcases hv with rfl <;> exact ti_R _) (Nat.le_of_ble_eq_true rfl) hcap (fun r sh' I2' F2' ad2' H locs hq2 hr2 hag2 hW2 hW1 hap hS => ?_)
  obtain ⟨rfl, hq2⟩ := hq2
  obtain ⟨v, S', e1, e2, c1, c2⟩ := hP _ _ _ _ _ _ hq hq2
  cases e1
  subst e2
  refine lv_icmp_eq (tgt := 720) hx hb dL_505 (by decide) (fun _ => ?_) (fun h => absurd rfl h)
  exact K S' ad1' ad2' I1' I2' F1' F2' H locs c1 c2 hW1 hW2 hap.sw hS (by rw [hag2 0 (by decide)]; exact hl)
theorem law_c16 {kc ks : Nat} {lsc : Array Slot} {x : Int32} (C0 : lw_At p s m meth c b L xs) (hK : Kn D cI cS s) (h1 : vp_in (x + 1) L) (h2 : vp_in (x + 2) L) (h3 : vp_in (x + 3) L) (hcap : kc ≤ 600000 ∧ ks ≤ 7302249) (K : LK p l e s m below meth c b D cI cS lsc x kc ks 720) : LK p l e s m below meth c b D cI cS lsc x kc ks 510 := by
  intro S ad1 ad2 I1 I2 F1 F2 H locs hC hD hW1 hW2 hap hS hl
  obtain ⟨hx, hb, hr, hml, hown, hts, hX, hbl, hlocks, hgv⟩ := id C0
  refine lv_aload_n hx hb dL_510 rfl (lv_at hl 1 rfl) ?_
  refine lw_arg (a := 1) C0 hS hl h1 dL_511 dL_512 dL_513 rfl dL_514 dL_515 ?_
  refine lw_arg (a := 2) C0 hS hl h2 dL_516 dL_517 dL_518 rfl dL_519 dL_520 ?_
  obtain ⟨P1, P2, M1, M2, hI1, hP⟩ := p_setPoint (xs (x + 1).toNatClampNeg).toInt (xs (x + 2).toNatClampNeg).toInt S I1 I2 F1 F2 hC hD
  refine lw_callV (as := [iv (xs (x + 1).toNatClampNeg).toInt, iv (xs (x + 2).toNatClampNeg).toInt]) (rest := []) C0 hK dL_521 (List.mem_of_getElem? (i := 606) (by decide +kernel)) f7_setPoint v7_setPoint M1 rfl rfl (by decide) rfl (by decide) hW1 hW2 hap hS hl (fun v hv => by simp only [List.mem_cons, List.not_mem_nil, or_false] at hv; rcases hv with rfl | rfl <;> exact ti_R _) (Nat.le_of_ble_eq_true rfl) hcap (fun r sh' I1' F1' ad1' H locs hq hr hag hW1 hW2 hap hS => ?_)
  obtain ⟨rfl, hq⟩ := hq
  obtain ⟨v1, rfl⟩ := hI1 _ _ _ hq
  have hl : lv_has lsc 4 [(0, .ref b), (1, .ref (ad1' 0)), (2, .ref (ad2 0)), (3, .int x)] := by rw [hag 0 (by decide)]; exact hl
  refine lv_aload_n hx hb dL_524 rfl (lv_at hl 2 rfl) ?_
  refine lw_arg (a := 1) C0 hS hl h1 dL_525 dL_526 dL_527 rfl dL_528 dL_529 ?_
  refine lw_arg (a := 2) C0 hS hl h2 dL_530 dL_531 dL_532 rfl dL_533 dL_534 ?_
  refine lw_callV (as := [iv (xs (x + 1).toNatClampNeg).toInt, iv (xs (x + 2).toNatClampNeg).toInt]) (rest := [.int (Int32.ofInt v1)]) C0 hK dL_535 (List.mem_of_getElem? (i := 974) (by decide +kernel)) f8_setPoint v8_setPoint M2 rfl rfl (by decide) rfl (by decide) hW2 hW1 hap.sw hS hl (fun v hv => by simp only [List.mem_cons, List.not_mem_nil, or_false] at hv; rcases hv with rfl | rfl <;> exact ti_R _) (Nat.le_of_ble_eq_true rfl) hcap (fun r sh' I2' F2' ad2' H locs hq2 hr2 hag2 hW2 hW1 hap hS => ?_)
  obtain ⟨rfl, hq2⟩ := hq2
  obtain ⟨v, S', e1, e2, c1, c2⟩ := hP _ _ _ _ _ _ hq hq2
  cases e1
  subst e2
  refine lv_icmp_eq (tgt := 720) hx hb dL_538 (by decide) (fun _ => ?_) (fun h => absurd rfl h)
  exact K S' ad1' ad2' I1' I2' F1' F2' H locs c1 c2 hW1 hW2 hap.sw hS (by rw [hag2 0 (by decide)]; exact hl)
theorem law_c17 {kc ks : Nat} {lsc : Array Slot} {x : Int32} (C0 : lw_At p s m meth c b L xs) (hK : Kn D cI cS s) (h1 : vp_in (x + 1) L) (h2 : vp_in (x + 2) L) (h3 : vp_in (x + 3) L) (hcap : kc ≤ 600000 ∧ ks ≤ 7302249) (K : LK p l e s m below meth c b D cI cS lsc x kc ks 720) : LK p l e s m below meth c b D cI cS lsc x kc ks 543 := by
  intro S ad1 ad2 I1 I2 F1 F2 H locs hC hD hW1 hW2 hap hS hl
  obtain ⟨hx, hb, hr, hml, hown, hts, hX, hbl, hlocks, hgv⟩ := id C0
  refine lv_aload_n hx hb dL_543 rfl (lv_at hl 1 rfl) ?_
  obtain ⟨P1, P2, M1, M2, hI1, hP⟩ := p_fiberSize  S I1 I2 F1 F2 hC hD
  refine lw_callV (as := []) (rest := []) C0 hK dL_544 (List.mem_of_getElem? (i := 610) (by decide +kernel)) f7_fiberSize v7_fiberSize M1 rfl rfl (by decide) rfl (by decide) hW1 hW2 hap hS hl (fun v hv => by cases hv) (Nat.le_of_ble_eq_true rfl) hcap (fun r sh' I1' F1' ad1' H locs hq hr hag hW1 hW2 hap hS => ?_)
  obtain ⟨rfl, hq⟩ := hq
  obtain ⟨v1, rfl⟩ := hI1 _ _ _ hq
  have hl : lv_has lsc 4 [(0, .ref b), (1, .ref (ad1' 0)), (2, .ref (ad2 0)), (3, .int x)] := by rw [hag 0 (by decide)]; exact hl
  refine lv_aload_n hx hb dL_547 rfl (lv_at hl 2 rfl) ?_
  refine lw_callV (as := []) (rest := [.int (Int32.ofInt v1)]) C0 hK dL_548 (List.mem_of_getElem? (i := 978) (by decide +kernel)) f8_fiberSize v8_fiberSize M2 rfl rfl (by decide) rfl (by decide) hW2 hW1 hap.sw hS hl (fun v hv => by cases hv) (Nat.le_of_ble_eq_true rfl) hcap (fun r sh' I2' F2' ad2' H locs hq2 hr2 hag2 hW2 hW1 hap hS => ?_)
  obtain ⟨rfl, hq2⟩ := hq2
  obtain ⟨v, S', e1, e2, c1, c2⟩ := hP _ _ _ _ _ _ hq hq2
  cases e1
  subst e2
  refine lv_icmp_eq (tgt := 720) hx hb dL_551 (by decide) (fun _ => ?_) (fun h => absurd rfl h)
  exact K S' ad1' ad2' I1' I2' F1' F2' H locs c1 c2 hW1 hW2 hap.sw hS (by rw [hag2 0 (by decide)]; exact hl)
theorem law_c18 {kc ks : Nat} {lsc : Array Slot} {x : Int32} (C0 : lw_At p s m meth c b L xs) (hK : Kn D cI cS s) (h1 : vp_in (x + 1) L) (h2 : vp_in (x + 2) L) (h3 : vp_in (x + 3) L) (hcap : kc ≤ 600000 ∧ ks ≤ 7302249) (K : LK p l e s m below meth c b D cI cS lsc x kc ks 720) : LK p l e s m below meth c b D cI cS lsc x kc ks 556 := by
  intro S ad1 ad2 I1 I2 F1 F2 H locs hC hD hW1 hW2 hap hS hl
  obtain ⟨hx, hb, hr, hml, hown, hts, hX, hbl, hlocks, hgv⟩ := id C0
  refine lv_aload_n hx hb dL_556 rfl (lv_at hl 1 rfl) ?_
  refine lw_arg (a := 1) C0 hS hl h1 dL_557 dL_558 dL_559 rfl dL_560 dL_561 ?_
  refine lw_arg (a := 2) C0 hS hl h2 dL_562 dL_563 dL_564 rfl dL_565 dL_566 ?_
  obtain ⟨P1, P2, M1, M2, hI1, hP⟩ := p_fiberEntry (xs (x + 1).toNatClampNeg).toInt (xs (x + 2).toNatClampNeg).toInt S I1 I2 F1 F2 hC hD
  refine lw_callV (as := [iv (xs (x + 1).toNatClampNeg).toInt, iv (xs (x + 2).toNatClampNeg).toInt]) (rest := []) C0 hK dL_567 (List.mem_of_getElem? (i := 618) (by decide +kernel)) f7_fiberEntry v7_fiberEntry M1 rfl rfl (by decide) rfl (by decide) hW1 hW2 hap hS hl (fun v hv => by simp only [List.mem_cons, List.not_mem_nil, or_false] at hv; rcases hv with rfl | rfl <;> exact ti_R _) (Nat.le_of_ble_eq_true rfl) hcap (fun r sh' I1' F1' ad1' H locs hq hr hag hW1 hW2 hap hS => ?_)
  obtain ⟨rfl, hq⟩ := hq
  obtain ⟨v1, rfl⟩ := hI1 _ _ _ hq
  have hl : lv_has lsc 4 [(0, .ref b), (1, .ref (ad1' 0)), (2, .ref (ad2 0)), (3, .int x)] := by rw [hag 0 (by decide)]; exact hl
  refine lv_aload_n hx hb dL_570 rfl (lv_at hl 2 rfl) ?_
  refine lw_arg (a := 1) C0 hS hl h1 dL_571 dL_572 dL_573 rfl dL_574 dL_575 ?_
  refine lw_arg (a := 2) C0 hS hl h2 dL_576 dL_577 dL_578 rfl dL_579 dL_580 ?_
  refine lw_callV (as := [iv (xs (x + 1).toNatClampNeg).toInt, iv (xs (x + 2).toNatClampNeg).toInt]) (rest := [.int (Int32.ofInt v1)]) C0 hK dL_581 (List.mem_of_getElem? (i := 990) (by decide +kernel)) f8_fiberEntry v8_fiberEntry M2 rfl rfl (by decide) rfl (by decide) hW2 hW1 hap.sw hS hl (fun v hv => by simp only [List.mem_cons, List.not_mem_nil, or_false] at hv; rcases hv with rfl | rfl <;> exact ti_R _) (Nat.le_of_ble_eq_true rfl) hcap (fun r sh' I2' F2' ad2' H locs hq2 hr2 hag2 hW2 hW1 hap hS => ?_)
  obtain ⟨rfl, hq2⟩ := hq2
  obtain ⟨v, S', e1, e2, c1, c2⟩ := hP _ _ _ _ _ _ hq hq2
  cases e1
  subst e2
  refine lv_icmp_eq (tgt := 720) hx hb dL_584 (by decide) (fun _ => ?_) (fun h => absurd rfl h)
  exact K S' ad1' ad2' I1' I2' F1' F2' H locs c1 c2 hW1 hW2 hap.sw hS (by rw [hag2 0 (by decide)]; exact hl)
theorem law_c19 {kc ks : Nat} {lsc : Array Slot} {x : Int32} (C0 : lw_At p s m meth c b L xs) (hK : Kn D cI cS s) (h1 : vp_in (x + 1) L) (h2 : vp_in (x + 2) L) (h3 : vp_in (x + 3) L) (hcap : kc ≤ 600000 ∧ ks ≤ 7302249) (K : LK p l e s m below meth c b D cI cS lsc x kc ks 720) : LK p l e s m below meth c b D cI cS lsc x kc ks 589 := by
  intro S ad1 ad2 I1 I2 F1 F2 H locs hC hD hW1 hW2 hap hS hl
  obtain ⟨hx, hb, hr, hml, hown, hts, hX, hbl, hlocks, hgv⟩ := id C0
  refine lv_aload_n hx hb dL_589 rfl (lv_at hl 1 rfl) ?_
  refine lw_arg (a := 1) C0 hS hl h1 dL_590 dL_591 dL_592 rfl dL_593 dL_594 ?_
  refine lw_arg (a := 2) C0 hS hl h2 dL_595 dL_596 dL_597 rfl dL_598 dL_599 ?_
  obtain ⟨P1, P2, M1, M2, hI1, hP⟩ := p_activate (xs (x + 1).toNatClampNeg).toInt (xs (x + 2).toNatClampNeg).toInt S I1 I2 F1 F2 hC hD
  refine lw_callV (as := [iv (xs (x + 1).toNatClampNeg).toInt, iv (xs (x + 2).toNatClampNeg).toInt]) (rest := []) C0 hK dL_600 (List.mem_of_getElem? (i := 626) (by decide +kernel)) f7_activate v7_activate M1 rfl rfl (by decide) rfl (by decide) hW1 hW2 hap hS hl (fun v hv => by simp only [List.mem_cons, List.not_mem_nil, or_false] at hv; rcases hv with rfl | rfl <;> exact ti_R _) (Nat.le_of_ble_eq_true rfl) hcap (fun r sh' I1' F1' ad1' H locs hq hr hag hW1 hW2 hap hS => ?_)
  obtain ⟨rfl, hq⟩ := hq
  obtain ⟨v1, rfl⟩ := hI1 _ _ _ hq
  have hl : lv_has lsc 4 [(0, .ref b), (1, .ref (ad1' 0)), (2, .ref (ad2 0)), (3, .int x)] := by rw [hag 0 (by decide)]; exact hl
  refine lv_aload_n hx hb dL_603 rfl (lv_at hl 2 rfl) ?_
  refine lw_arg (a := 1) C0 hS hl h1 dL_604 dL_605 dL_606 rfl dL_607 dL_608 ?_
  refine lw_arg (a := 2) C0 hS hl h2 dL_609 dL_610 dL_611 rfl dL_612 dL_613 ?_
  refine lw_callV (as := [iv (xs (x + 1).toNatClampNeg).toInt, iv (xs (x + 2).toNatClampNeg).toInt]) (rest := [.int (Int32.ofInt v1)]) C0 hK dL_614 (List.mem_of_getElem? (i := 994) (by decide +kernel)) f8_activate v8_activate M2 rfl rfl (by decide) rfl (by decide) hW2 hW1 hap.sw hS hl (fun v hv => by simp only [List.mem_cons, List.not_mem_nil, or_false] at hv; rcases hv with rfl | rfl <;> exact ti_R _) (Nat.le_of_ble_eq_true rfl) hcap (fun r sh' I2' F2' ad2' H locs hq2 hr2 hag2 hW2 hW1 hap hS => ?_)
  obtain ⟨rfl, hq2⟩ := hq2
  obtain ⟨v, S', e1, e2, c1, c2⟩ := hP _ _ _ _ _ _ hq hq2
  cases e1
  subst e2
  refine lv_icmp_eq (tgt := 720) hx hb dL_617 (by decide) (fun _ => ?_) (fun h => absurd rfl h)
  exact K S' ad1' ad2' I1' I2' F1' F2' H locs c1 c2 hW1 hW2 hap.sw hS (by rw [hag2 0 (by decide)]; exact hl)
theorem law_c20 {kc ks : Nat} {lsc : Array Slot} {x : Int32} (C0 : lw_At p s m meth c b L xs) (hK : Kn D cI cS s) (h1 : vp_in (x + 1) L) (h2 : vp_in (x + 2) L) (h3 : vp_in (x + 3) L) (hcap : kc ≤ 600000 ∧ ks ≤ 7302249) (K : LK p l e s m below meth c b D cI cS lsc x kc ks 720) : LK p l e s m below meth c b D cI cS lsc x kc ks 622 := by
  intro S ad1 ad2 I1 I2 F1 F2 H locs hC hD hW1 hW2 hap hS hl
  obtain ⟨hx, hb, hr, hml, hown, hts, hX, hbl, hlocks, hgv⟩ := id C0
  refine lv_aload_n hx hb dL_622 rfl (lv_at hl 1 rfl) ?_
  refine lw_arg (a := 1) C0 hS hl h1 dL_623 dL_624 dL_625 rfl dL_626 dL_627 ?_
  obtain ⟨P1, P2, M1, M2, hI1, hP⟩ := p_isActive (xs (x + 1).toNatClampNeg).toInt S I1 I2 F1 F2 hC hD
  refine lw_callV (as := [iv (xs (x + 1).toNatClampNeg).toInt]) (rest := []) C0 hK dL_628 (List.mem_of_getElem? (i := 648) (by decide +kernel)) f7_isActive v7_isActive M1 rfl rfl (by decide) rfl (by decide) hW1 hW2 hap hS hl (fun v hv => by simp only [List.mem_cons, List.not_mem_nil, or_false] at hv; rcases hv with rfl <;> exact ti_R _) (Nat.le_of_ble_eq_true rfl) hcap (fun r sh' I1' F1' ad1' H locs hq hr hag hW1 hW2 hap hS => ?_)
  obtain ⟨rfl, hq⟩ := hq
  obtain ⟨v1, rfl⟩ := hI1 _ _ _ hq
  have hl : lv_has lsc 4 [(0, .ref b), (1, .ref (ad1' 0)), (2, .ref (ad2 0)), (3, .int x)] := by rw [hag 0 (by decide)]; exact hl
  refine lv_aload_n hx hb dL_631 rfl (lv_at hl 2 rfl) ?_
  refine lw_arg (a := 1) C0 hS hl h1 dL_632 dL_633 dL_634 rfl dL_635 dL_636 ?_
  refine lw_callV (as := [iv (xs (x + 1).toNatClampNeg).toInt]) (rest := [.int (Int32.ofInt v1)]) C0 hK dL_637 (List.mem_of_getElem? (i := 1002) (by decide +kernel)) f8_isActive v8_isActive M2 rfl rfl (by decide) rfl (by decide) hW2 hW1 hap.sw hS hl (fun v hv => by simp only [List.mem_cons, List.not_mem_nil, or_false] at hv; rcases hv with rfl <;> exact ti_R _) (Nat.le_of_ble_eq_true rfl) hcap (fun r sh' I2' F2' ad2' H locs hq2 hr2 hag2 hW2 hW1 hap hS => ?_)
  obtain ⟨rfl, hq2⟩ := hq2
  obtain ⟨v, S', e1, e2, c1, c2⟩ := hP _ _ _ _ _ _ hq hq2
  cases e1
  subst e2
  refine lv_icmp_eq (tgt := 720) hx hb dL_640 (by decide) (fun _ => ?_) (fun h => absurd rfl h)
  exact K S' ad1' ad2' I1' I2' F1' F2' H locs c1 c2 hW1 hW2 hap.sw hS (by rw [hag2 0 (by decide)]; exact hl)
theorem law_c21 {kc ks : Nat} {lsc : Array Slot} {x : Int32} (C0 : lw_At p s m meth c b L xs) (hK : Kn D cI cS s) (h1 : vp_in (x + 1) L) (h2 : vp_in (x + 2) L) (h3 : vp_in (x + 3) L) (hcap : kc ≤ 600000 ∧ ks ≤ 7302249) (K : LK p l e s m below meth c b D cI cS lsc x kc ks 720) : LK p l e s m below meth c b D cI cS lsc x kc ks 645 := by
  intro S ad1 ad2 I1 I2 F1 F2 H locs hC hD hW1 hW2 hap hS hl
  obtain ⟨hx, hb, hr, hml, hown, hts, hX, hbl, hlocks, hgv⟩ := id C0
  refine lv_aload_n hx hb dL_645 rfl (lv_at hl 1 rfl) ?_
  obtain ⟨P1, P2, M1, M2, hI1, hP⟩ := p_classes  S I1 I2 F1 F2 hC hD
  refine lw_callV (as := []) (rest := []) C0 hK dL_646 (List.mem_of_getElem? (i := 652) (by decide +kernel)) f7_classes v7_classes M1 rfl rfl (by decide) rfl (by decide) hW1 hW2 hap hS hl (fun v hv => by cases hv) (Nat.le_of_ble_eq_true rfl) hcap (fun r sh' I1' F1' ad1' H locs hq hr hag hW1 hW2 hap hS => ?_)
  obtain ⟨rfl, hq⟩ := hq
  obtain ⟨v1, rfl⟩ := hI1 _ _ _ hq
  have hl : lv_has lsc 4 [(0, .ref b), (1, .ref (ad1' 0)), (2, .ref (ad2 0)), (3, .int x)] := by rw [hag 0 (by decide)]; exact hl
  refine lv_aload_n hx hb dL_649 rfl (lv_at hl 2 rfl) ?_
  refine lw_callV (as := []) (rest := [.int (Int32.ofInt v1)]) C0 hK dL_650 (List.mem_of_getElem? (i := 1006) (by decide +kernel)) f8_classes v8_classes M2 rfl rfl (by decide) rfl (by decide) hW2 hW1 hap.sw hS hl (fun v hv => by cases hv) (Nat.le_of_ble_eq_true rfl) hcap (fun r sh' I2' F2' ad2' H locs hq2 hr2 hag2 hW2 hW1 hap hS => ?_)
  obtain ⟨rfl, hq2⟩ := hq2
  obtain ⟨v, S', e1, e2, c1, c2⟩ := hP _ _ _ _ _ _ hq hq2
  cases e1
  subst e2
  refine lv_icmp_eq (tgt := 720) hx hb dL_653 (by decide) (fun _ => ?_) (fun h => absurd rfl h)
  exact K S' ad1' ad2' I1' I2' F1' F2' H locs c1 c2 hW1 hW2 hap.sw hS (by rw [hag2 0 (by decide)]; exact hl)
theorem law_c22 {kc ks : Nat} {lsc : Array Slot} {x : Int32} (C0 : lw_At p s m meth c b L xs) (hK : Kn D cI cS s) (h1 : vp_in (x + 1) L) (h2 : vp_in (x + 2) L) (h3 : vp_in (x + 3) L) (hcap : kc ≤ 600000 ∧ ks ≤ 7302249) (K : LK p l e s m below meth c b D cI cS lsc x kc ks 720) : LK p l e s m below meth c b D cI cS lsc x kc ks 658 := by
  intro S ad1 ad2 I1 I2 F1 F2 H locs hC hD hW1 hW2 hap hS hl
  obtain ⟨hx, hb, hr, hml, hown, hts, hX, hbl, hlocks, hgv⟩ := id C0
  refine lv_aload_n hx hb dL_658 rfl (lv_at hl 1 rfl) ?_
  refine lw_arg (a := 1) C0 hS hl h1 dL_659 dL_660 dL_661 rfl dL_662 dL_663 ?_
  obtain ⟨P1, P2, M1, M2, hI1, hP⟩ := p_distance (xs (x + 1).toNatClampNeg).toInt S I1 I2 F1 F2 hC hD
  refine lw_callV (as := [iv (xs (x + 1).toNatClampNeg).toInt]) (rest := []) C0 hK dL_664 (List.mem_of_getElem? (i := 683) (by decide +kernel)) f7_distance v7_distance M1 rfl rfl (by decide) rfl (by decide) hW1 hW2 hap hS hl (fun v hv => by simp only [List.mem_cons, List.not_mem_nil, or_false] at hv; rcases hv with rfl <;> exact ti_R _) (Nat.le_of_ble_eq_true rfl) hcap (fun r sh' I1' F1' ad1' H locs hq hr hag hW1 hW2 hap hS => ?_)
  obtain ⟨rfl, hq⟩ := hq
  obtain ⟨v1, rfl⟩ := hI1 _ _ _ hq
  have hl : lv_has lsc 4 [(0, .ref b), (1, .ref (ad1' 0)), (2, .ref (ad2 0)), (3, .int x)] := by rw [hag 0 (by decide)]; exact hl
  refine lv_aload_n hx hb dL_667 rfl (lv_at hl 2 rfl) ?_
  refine lw_arg (a := 1) C0 hS hl h1 dL_668 dL_669 dL_670 rfl dL_671 dL_672 ?_
  refine lw_callV (as := [iv (xs (x + 1).toNatClampNeg).toInt]) (rest := [.int (Int32.ofInt v1)]) C0 hK dL_673 (List.mem_of_getElem? (i := 1030) (by decide +kernel)) f8_distance v8_distance M2 rfl rfl (by decide) rfl (by decide) hW2 hW1 hap.sw hS hl (fun v hv => by simp only [List.mem_cons, List.not_mem_nil, or_false] at hv; rcases hv with rfl <;> exact ti_R _) (Nat.le_of_ble_eq_true rfl) hcap (fun r sh' I2' F2' ad2' H locs hq2 hr2 hag2 hW2 hW1 hap hS => ?_)
  obtain ⟨rfl, hq2⟩ := hq2
  obtain ⟨v, S', e1, e2, c1, c2⟩ := hP _ _ _ _ _ _ hq hq2
  cases e1
  subst e2
  refine lv_icmp_eq (tgt := 720) hx hb dL_676 (by decide) (fun _ => ?_) (fun h => absurd rfl h)
  exact K S' ad1' ad2' I1' I2' F1' F2' H locs c1 c2 hW1 hW2 hap.sw hS (by rw [hag2 0 (by decide)]; exact hl)
theorem law_c23 {kc ks : Nat} {lsc : Array Slot} {x : Int32} (C0 : lw_At p s m meth c b L xs) (hK : Kn D cI cS s) (h1 : vp_in (x + 1) L) (h2 : vp_in (x + 2) L) (h3 : vp_in (x + 3) L) (hcap : kc ≤ 600000 ∧ ks ≤ 7302249) (K : LK p l e s m below meth c b D cI cS lsc x kc ks 720) : LK p l e s m below meth c b D cI cS lsc x kc ks 681 := by
  intro S ad1 ad2 I1 I2 F1 F2 H locs hC hD hW1 hW2 hap hS hl
  obtain ⟨hx, hb, hr, hml, hown, hts, hX, hbl, hlocks, hgv⟩ := id C0
  refine lv_aload_n hx hb dL_681 rfl (lv_at hl 1 rfl) ?_
  obtain ⟨P1, P2, M1, M2, hI1, hP⟩ := p_isMarkov  S I1 I2 F1 F2 hC hD
  refine lw_callV (as := []) (rest := []) C0 hK dL_682 (List.mem_of_getElem? (i := 695) (by decide +kernel)) f7_isMarkov v7_isMarkov M1 rfl rfl (by decide) rfl (by decide) hW1 hW2 hap hS hl (fun v hv => by cases hv) (Nat.le_of_ble_eq_true rfl) hcap (fun r sh' I1' F1' ad1' H locs hq hr hag hW1 hW2 hap hS => ?_)
  obtain ⟨rfl, hq⟩ := hq
  obtain ⟨v1, rfl⟩ := hI1 _ _ _ hq
  have hl : lv_has lsc 4 [(0, .ref b), (1, .ref (ad1' 0)), (2, .ref (ad2 0)), (3, .int x)] := by rw [hag 0 (by decide)]; exact hl
  refine lv_aload_n hx hb dL_685 rfl (lv_at hl 2 rfl) ?_
  refine lw_callV (as := []) (rest := [.int (Int32.ofInt v1)]) C0 hK dL_686 (List.mem_of_getElem? (i := 1038) (by decide +kernel)) f8_isMarkov v8_isMarkov M2 rfl rfl (by decide) rfl (by decide) hW2 hW1 hap.sw hS hl (fun v hv => by cases hv) (Nat.le_of_ble_eq_true rfl) hcap (fun r sh' I2' F2' ad2' H locs hq2 hr2 hag2 hW2 hW1 hap hS => ?_)
  obtain ⟨rfl, hq2⟩ := hq2
  obtain ⟨v, S', e1, e2, c1, c2⟩ := hP _ _ _ _ _ _ hq hq2
  cases e1
  subst e2
  refine lv_icmp_eq (tgt := 720) hx hb dL_689 (by decide) (fun _ => ?_) (fun h => absurd rfl h)
  exact K S' ad1' ad2' I1' I2' F1' F2' H locs c1 c2 hW1 hW2 hap.sw hS (by rw [hag2 0 (by decide)]; exact hl)
theorem law_c24 {kc ks : Nat} {lsc : Array Slot} {x : Int32} (C0 : lw_At p s m meth c b L xs) (hK : Kn D cI cS s) (h1 : vp_in (x + 1) L) (h2 : vp_in (x + 2) L) (h3 : vp_in (x + 3) L) (hcap : kc ≤ 600000 ∧ ks ≤ 7302249) (K : LK p l e s m below meth c b D cI cS lsc x kc ks 720) : LK p l e s m below meth c b D cI cS lsc x kc ks 694 := by
  intro S ad1 ad2 I1 I2 F1 F2 H locs hC hD hW1 hW2 hap hS hl
  obtain ⟨hx, hb, hr, hml, hown, hts, hX, hbl, hlocks, hgv⟩ := id C0
  refine lv_aload_n hx hb dL_694 rfl (lv_at hl 1 rfl) ?_
  obtain ⟨P1, P2, M1, M2, hI1, hP⟩ := p_reduce  S I1 I2 F1 F2 hC hD
  refine lw_callV (as := []) (rest := []) C0 hK dL_695 (List.mem_of_getElem? (i := 707) (by decide +kernel)) f7_reduce v7_reduce M1 rfl rfl (by decide) rfl (by decide) hW1 hW2 hap hS hl (fun v hv => by cases hv) (Nat.le_of_ble_eq_true rfl) hcap (fun r sh' I1' F1' ad1' H locs hq hr hag hW1 hW2 hap hS => ?_)
  obtain ⟨rfl, hq⟩ := hq
  obtain ⟨v1, rfl⟩ := hI1 _ _ _ hq
  have hl : lv_has lsc 4 [(0, .ref b), (1, .ref (ad1' 0)), (2, .ref (ad2 0)), (3, .int x)] := by rw [hag 0 (by decide)]; exact hl
  refine lv_aload_n hx hb dL_698 rfl (lv_at hl 2 rfl) ?_
  refine lw_callV (as := []) (rest := [.int (Int32.ofInt v1)]) C0 hK dL_699 (List.mem_of_getElem? (i := 1046) (by decide +kernel)) f8_reduce v8_reduce M2 rfl rfl (by decide) rfl (by decide) hW2 hW1 hap.sw hS hl (fun v hv => by cases hv) (Nat.le_of_ble_eq_true rfl) hcap (fun r sh' I2' F2' ad2' H locs hq2 hr2 hag2 hW2 hW1 hap hS => ?_)
  obtain ⟨rfl, hq2⟩ := hq2
  obtain ⟨v, S', e1, e2, c1, c2⟩ := hP _ _ _ _ _ _ hq hq2
  cases e1
  subst e2
  refine lv_icmp_eq (tgt := 720) hx hb dL_702 (by decide) (fun _ => ?_) (fun h => absurd rfl h)
  exact K S' ad1' ad2' I1' I2' F1' F2' H locs c1 c2 hW1 hW2 hap.sw hS (by rw [hag2 0 (by decide)]; exact hl)
theorem law_c25 {kc ks : Nat} {lsc : Array Slot} {x : Int32} (C0 : lw_At p s m meth c b L xs) (hK : Kn D cI cS s) (h1 : vp_in (x + 1) L) (h2 : vp_in (x + 2) L) (h3 : vp_in (x + 3) L) (hcap : kc ≤ 600000 ∧ ks ≤ 7302249) (K : LK p l e s m below meth c b D cI cS lsc x kc ks 720) : LK p l e s m below meth c b D cI cS lsc x kc ks 707 := by
  intro S ad1 ad2 I1 I2 F1 F2 H locs hC hD hW1 hW2 hap hS hl
  obtain ⟨hx, hb, hr, hml, hown, hts, hX, hbl, hlocks, hgv⟩ := id C0
  refine lv_aload_n hx hb dL_707 rfl (lv_at hl 1 rfl) ?_
  obtain ⟨P1, P2, M1, M2, hI1, hP⟩ := p_undo  S I1 I2 F1 F2 hC hD
  refine lw_callV (as := []) (rest := []) C0 hK dL_708 (List.mem_of_getElem? (i := 715) (by decide +kernel)) f7_undo v7_undo M1 rfl rfl (by decide) rfl (by decide) hW1 hW2 hap hS hl (fun v hv => by cases hv) (Nat.le_of_ble_eq_true rfl) hcap (fun r sh' I1' F1' ad1' H locs hq hr hag hW1 hW2 hap hS => ?_)
  obtain ⟨rfl, hq⟩ := hq
  obtain ⟨v1, rfl⟩ := hI1 _ _ _ hq
  have hl : lv_has lsc 4 [(0, .ref b), (1, .ref (ad1' 0)), (2, .ref (ad2 0)), (3, .int x)] := by rw [hag 0 (by decide)]; exact hl
  refine lv_aload_n hx hb dL_711 rfl (lv_at hl 2 rfl) ?_
  refine lw_callV (as := []) (rest := [.int (Int32.ofInt v1)]) C0 hK dL_712 (List.mem_of_getElem? (i := 1050) (by decide +kernel)) f8_undo v8_undo M2 rfl rfl (by decide) rfl (by decide) hW2 hW1 hap.sw hS hl (fun v hv => by cases hv) (Nat.le_of_ble_eq_true rfl) hcap (fun r sh' I2' F2' ad2' H locs hq2 hr2 hag2 hW2 hW1 hap hS => ?_)
  obtain ⟨rfl, hq2⟩ := hq2
  obtain ⟨v, S', e1, e2, c1, c2⟩ := hP _ _ _ _ _ _ hq hq2
  cases e1
  subst e2
  refine lv_icmp_eq (tgt := 720) hx hb dL_715 (by decide) (fun _ => ?_) (fun h => absurd rfl h)
  exact K S' ad1' ad2' I1' I2' F1' F2' H locs c1 c2 hW1 hW2 hap.sw hS (by rw [hag2 0 (by decide)]; exact hl)
end LAWCASES
