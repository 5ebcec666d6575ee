section LAWCASES
variable {p : Program} {l : Launch} {e : Env} {s : State} {m : MethodId} {below : List Frame} {meth : Method} {c : Code} {b L : Nat} {xs : Nat → Int32} {D : va_G} {cI cS : ClassId}
theorem lw_arg {pc kc ks : Nat} {H : Heap} {locs : List Loc} {lsc : Array Slot} {x : Int32} {q1 q2 : Nat} {st : List Value} {a : Int32} {z : Int} (C0 : lw_At p s m meth c b L xs) (hS : va_S (lwA s) s.heap H locs) (hl : lv_has lsc 4 [(0, .ref b), (1, .ref q1), (2, .ref q2), (3, .int x)]) (hin : vp_in (x + a) L)
    (d1 : decode code pc = .ok (.aload_n 0, 1)) (d2 : decode code (pc + 1) = .ok (.iload_n 3, 1)) (d3 : decode code (pc + 2) = .ok (.iconst z, 1)) (hz : Int32.ofInt z = a) (d4 : decode code (pc + 3) = .ok (.iadd, 1)) (d5 : decode code (pc + 4) = .ok (.iaload, 1))
    (K : W p l e room_1 s m #[Value.ref b] below meth c H locs kc ks (lw_Z below #[Value.ref b] s) (F0 m (pc + 5) lsc (.int (Int32.ofInt (xs (x + a).toNatClampNeg).toInt) :: st))) : W p l e room_1 s m #[Value.ref b] below meth c H locs kc ks (lw_Z below #[Value.ref b] s) (F0 m pc lsc st) := by
  obtain ⟨hx, hb, hr, hml, hown, hts, hX, hbl, hlocks, hgv⟩ := id C0
  have hbA : ¬ lwA s b := Nat.not_le.mpr hbl
  rw [Int32.ofInt_toInt] at K
  refine lv_aload_n hx hb d1 rfl (lv_at hl 0 rfl) ?_
  refine lv_iload_n hx hb d2 rfl (lv_at hl 3 rfl) ?_
  refine lv_iconst (v := a) hx hb d3 hz ?_
  refine lv_iadd hx hb d4 ?_
  exact va_sld hx hb hX hbl hbA hS hin d5 K
def LK (p : Program) (l : Launch) (e : Env) (s : State) (m : MethodId) (below : List Frame) (meth : Method) (c : Code) (b : Nat) (D : va_G) (cI cS : ClassId) (lsc : Array Slot) (x : Int32) (kc ks pc : Nat) : Prop := ∀ (S : Sx) (ad1 ad2 : Nat → Nat) (I1 I2 : IE) (F1 F2 : FE) (H : Heap) (locs : List Loc), CI S I1 F1 → DI S I2 F2 → Wd D cI cS (lwA s) ad1 shX I1 F1 H → Wd D cI cS (lwA s) ad2 shM I2 F2 H → Apt ad1 shX ad2 shM → va_S (lwA s) s.heap H locs → lv_has lsc 4 [(0, .ref b), (1, .ref (ad1 0)), (2, .ref (ad2 0)), (3, .int x)] → W p l e room_1 s m #[Value.ref b] below meth c H locs kc ks (lw_Z below #[Value.ref b] s) (F0 m pc lsc [])
theorem Apt.sw {ad ad2 : Nat → Nat} {sh sh2 : Shp} (h : Apt ad sh ad2 sh2) : Apt ad2 sh2 ad sh := fun i j hi hj e => h j i hj hi e.symm
theorem law_c0 {kc ks : Nat} {lsc : Array Slot} {x : Int32} (C0 : lw_At p s m meth c b L xs) (hK : Kn D cI cS s) (h1 : vp_in (x + 1) L) (h2 : vp_in (x + 2) L) (h3 : vp_in (x + 3) L) (hcap : kc ≤ 600000 ∧ ks ≤ 7302249) (K : LK p l e s m below meth c b D cI cS lsc x kc ks 720) : LK p l e s m below meth c b D cI cS lsc x kc ks 152 := by
  intro S ad1 ad2 I1 I2 F1 F2 H locs hC hD hW1 hW2 hap hS hl
  obtain ⟨hx, hb, hr, hml, hown, hts, hX, hbl, hlocks, hgv⟩ := id C0
  refine lv_aload_n hx hb dL_152 rfl (lv_at hl 1 rfl) ?_
  refine lw_arg (a := 1) C0 hS hl h1 dL_153 dL_154 dL_155 rfl dL_156 dL_157 ?_
  refine lw_arg (a := 2) C0 hS hl h2 dL_158 dL_159 dL_160 rfl dL_161 dL_162 ?_
  obtain ⟨P1, P2, M1, M2, hI1, hP⟩ := p_configure (xs (x + 1).toNatClampNeg).toInt (xs (x + 2).toNatClampNeg).toInt S I1 I2 F1 F2 hC hD
  refine lw_callV (as := [iv (xs (x + 1).toNatClampNeg).toInt, iv (xs (x + 2).toNatClampNeg).toInt]) (rest := []) C0 hK dL_163 (List.mem_of_getElem? (i := 427) (by decide +kernel)) f7_configure v7_configure M1 rfl rfl (by decide) rfl (by decide) hW1 hW2 hap hS hl (fun v hv => by simp only [List.mem_cons, List.not_mem_nil, or_false] at hv; rcases hv with rfl | rfl <;> exact ti_R _) (Nat.le_of_ble_eq_true rfl) hcap (fun r sh' I1' F1' ad1' H locs hq hr hag hW1 hW2 hap hS => ?_)
  obtain ⟨rfl, hq⟩ := hq
  obtain ⟨v1, rfl⟩ := hI1 _ _ _ hq
  have hl : lv_has lsc 4 [(0, .ref b), (1, .ref (ad1' 0)), (2, .ref (ad2 0)), (3, .int x)] := by rw [hag 0 (by decide)]; exact hl
  refine lv_aload_n hx hb dL_166 rfl (lv_at hl 2 rfl) ?_
  refine lw_arg (a := 1) C0 hS hl h1 dL_167 dL_168 dL_169 rfl dL_170 dL_171 ?_
  refine lw_arg (a := 2) C0 hS hl h2 dL_172 dL_173 dL_174 rfl dL_175 dL_176 ?_
  refine lw_callV (as := [iv (xs (x + 1).toNatClampNeg).toInt, iv (xs (x + 2).toNatClampNeg).toInt]) (rest := [.int (Int32.ofInt v1)]) C0 hK dL_177 (List.mem_of_getElem? (i := 859) (by decide +kernel)) f8_configure v8_configure M2 rfl rfl (by decide) rfl (by decide) hW2 hW1 hap.sw hS hl (fun v hv => by simp only [List.mem_cons, List.not_mem_nil, or_false] at hv; rcases hv with rfl | rfl <;> exact ti_R _) (Nat.le_of_ble_eq_true rfl) hcap (fun r sh' I2' F2' ad2' H locs hq2 hr2 hag2 hW2 hW1 hap hS => ?_)
  obtain ⟨rfl, hq2⟩ := hq2
  obtain ⟨v, S', e1, e2, c1, c2⟩ := hP _ _ _ _ _ _ hq hq2
  cases e1
  subst e2
  refine lv_icmp_eq (tgt := 720) hx hb dL_180 (by decide) (fun _ => ?_) (fun h => absurd rfl h)
  exact K S' ad1' ad2' I1' I2' F1' F2' H locs c1 c2 hW1 hW2 hap.sw hS (by rw [hag2 0 (by decide)]; exact hl)
end LAWCASES
