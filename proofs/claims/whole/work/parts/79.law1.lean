/-! THE CLAIM OUT OF ONE WALK OF THE LAW'S BODY. Your part is whole_start (and what it stands on); all else here is the same for every law, but numbers. -/
def R_law : String := "GraverCalculatorLaw"
def lw_P (b : Addr) (xs : List Int32) (args : Array Value) (s : State) : Prop := args = #[.ref b] ∧ s.IntsAt b xs ∧ xs.length ≤ 2048 ∧ (Jvm.Cond.and given_1 narrow_1).before args s = true
def lw_Q (_ : Array Value) (s : State) (o : Outcome) (t : State) : Prop := o = .returned (some (.int 1)) ∧ Framed s o t [] 600000 7302249
def lw_Z (below : List Frame) (a : Array Value) (s : State) : State → Prop := fun t => ∃ o, t.status = .running ∧ Ended t below o ∧ lw_Q a s o t
/-- the law's own end, with 1 on the stack, nothing written that was there before, its room as the claim has it -/
theorem lw_ret {p : Program} {l : Launch} {e : Env} {s : State} {m : MethodId} {below : List Frame} {meth : Method} {c : Code} {b : Nat} (hx : p.tables.exec = Jvm.exec) (hb : c.code = code) (hr : meth.sig.returnType = ret) (hlocks : meth.locks = false) {pc : Nat} {H : Heap} {ls : Array Slot} (hdg : decode code pc = .ok (.ireturn, 1)) : W p l e room_1 s m #[Value.ref b] below meth c H [] 600000 7302249 (lw_Z below #[Value.ref b] s) (F0 m pc ls [.int 1]) := by
  intro T hT X
  obtain ⟨fs, hret, hrun, hended, hW, hframe⟩ := X.leave (v := some (.int 1)) (hlocks := hlocks) (fun h => by rw [hr] at h; cases h)
  have hmeth' : T.vm.method? m = some meth := X.method'
  refine ⟨T.setFrames fs, ?_, .returned (some (.int 1)), hrun, hended, rfl, ⟨_, rfl⟩, hW, hframe⟩
  jvm_step X.here [X.here.top, hx, hb, hdg, hmeth', hr, ret, narrow_b1]
  (try refine ⟨rfl, ?_⟩); (try refine ⟨rfl, ?_⟩)
  first | (intro acts; rw [hret _ acts rfl rfl rfl]) | rw [hret _ _ rfl rfl rfl]
  exact Steps.refl _
/-- what holds at the law's entry: the machine, the code, the tables' words (any of lw_tbl by 'hts w (by decide +kernel)'), the script of L ints xs at the cell b, what the Statement gives of the start (any of its parts by flat_of_before) -/
def lw_At (p : Program) (s : State) (m : MethodId) (meth : Method) (c : Code) (b L : Nat) (xs : Nat → Int32) : Prop :=
  p.tables.exec = Jvm.exec ∧ c.code = code ∧ meth.sig.returnType = ret ∧ c.maxLocals = 4 ∧ s.vm.findClass R_law = some m.cls ∧ (∀ w ∈ lw_tbl, w.before #[Value.ref b] s = true) ∧ va_X b L xs s s.heap ∧ b < s.heap.size ∧ meth.locks = false ∧ (Jvm.Cond.and given_1 narrow_1).before #[Value.ref b] s = true
section LAWCALL
variable {p : Program} {l : Launch} {e : Env} {s : State} {m : MethodId} {below : List Frame} {meth : Method} {c : Code} {b L : Nat} {xs : Nat → Int32} {D : va_G} {cI cS : ClassId}
def lwA (s : State) : Nat → Prop := fun q : Nat => s.heap.size ≤ q
def Apt (ad : Nat → Nat) (sh : Shp) (ad2 : Nat → Nat) (sh2 : Shp) : Prop := ∀ i j, i < sh.length → j < sh2.length → ad i ≠ ad2 j
theorem gtbl_of (hts : ∀ w ∈ lw_tbl, w.before #[Value.ref b] s = true) : ∀ w ∈ gtbl, w.before #[Value.ref b] s = true := fun w hw => hts w (List.mem_filter.mp hw).1
/-- behind a call of the law: the world of the call is moved, the other stands -/
theorem lw_back {sh sh2 : Shp} {I I2 : IE} {F F2 : FE} {ad ad2 : Nat → Nat} {H : Heap} {locs : List Loc} {lsc : Array Slot} {st1 rest : List Value} {ca : Array Value} {pc kc ks mc' ms' : Nat} {Q' : PQ}
    (hW : Wd D cI cS (lwA s) ad sh I F H) (hW2 : Wd D cI cS (lwA s) ad2 sh2 I2 F2 H) (hap : Apt ad sh ad2 sh2) (hS : va_S (lwA s) s.heap H locs)
    (hrun : va_Run p l e room_1 s m #[Value.ref b] below meth c H locs kc ks mc' ms' (F0 m pc lsc st1) rest (PP D cI cS (va_A (cw cI cS ad sh I F) H.size) ad sh.length Q' ca) (va_A (cw cI cS ad sh I F) H.size))
    (K : ∀ r sh' I' F' ad' H' locs', Q' r sh' I' F' → (∀ v, r = some v → okv sh'.length v) → (∀ k, k < sh.length → ad' k = ad k) → Wd D cI cS (lwA s) ad' sh' I' F' H' → Wd D cI cS (lwA s) ad2 sh2 I2 F2 H' → Apt ad' sh' ad2 sh2 → va_S (lwA s) s.heap H' locs' → W p l e room_1 s m #[Value.ref b] below meth c H' locs' (kc + mc') (ks + ms') (lw_Z below #[Value.ref b] s) (F0 m (pc + 3) lsc ((r.map (cv ad')).toList ++ rest))) :
    W p l e room_1 s m #[Value.ref b] below meth c H locs kc ks (lw_Z below #[Value.ref b] s) (F0 m pc lsc st1) := by
  intro T hT X
  obtain ⟨v, st₀, t, T', L, h0, X', hL2, e1, e2, ⟨⟨r, sh', I', F', ad', hv, hq, hag, hlen, hW', hokr⟩, hz, hkeep⟩, stp⟩ := hrun T hT X
  have hv : v = r.map (cv ad') := by cases hv; rfl
  subst hv
  rw [h0] at hz hkeep
  have hAA : ∀ q : Nat, va_A (cw cI cS ad sh I F) H.size q → lwA s q := fun q hq => by
    rcases hq with ⟨k, e, hk⟩ | hq
    · exact hW.2.1.2 k _ hk
    · exact Nat.le_trans hS.1 hq
  have hS' : va_S (lwA s) s.heap T'.heap (locs ++ L) := ⟨Nat.le_trans hS.1 (by rw [e1]; exact hz), fun q h1 h2 => by rw [e1, hkeep q (Nat.lt_of_lt_of_le h1 hS.1) (fun z => h2 (hAA q z))]; exact hS.2.1 q h1 h2, fun q hq => by
      rcases List.mem_append.mp hq with h | h
      · exact hS.2.2 q h
      · exact hAA _ (hL2 q h)⟩
  have inW : ∀ (k : Nat) (q : Nat × va_E), (cw cI cS ad2 sh2 I2 F2)[k]? = some q → k < sh2.length ∧ q.1 = ad2 k ∧ q.1 < H.size := fun k q hk => by
    have hlt := (hW2.1 k q hk).lt
    have hk2 : k < sh2.length := by
      have := (List.getElem?_eq_some_iff.mp hk).1
      rwa [cw_len] at this
    refine ⟨hk2, ?_, hlt⟩
    have := cw_at (cI := cI) (cS := cS) (ad := ad2) (I := I2) (F := F2) (List.getElem?_eq_getElem hk2)
    rw [hk] at this
    rw [Option.some.inj this]
  have notA : ∀ (k : Nat) (q : Nat × va_E), (cw cI cS ad2 sh2 I2 F2)[k]? = some q → ¬ va_A (cw cI cS ad sh I F) H.size q.1 := fun k q hk hA => by
    obtain ⟨a1, a2, a3⟩ := inW k q hk
    rcases hA with ⟨j, e, hj⟩ | hA
    · have hj2 : j < sh.length := by
        have := (List.getElem?_eq_some_iff.mp hj).1
        rwa [cw_len] at this
      have := cw_at (cI := cI) (cS := cS) (ad := ad) (I := I) (F := F) (List.getElem?_eq_getElem hj2)
      rw [hj] at this
      have e3 : q.1 = ad j := congrArg Prod.fst (Option.some.inj this)
      exact hap j k hj2 a1 (by rw [← e3, a2])
    · exact absurd hA (Nat.not_le.mpr a3)
  have hW2' : Wd D cI cS (lwA s) ad2 sh2 I2 F2 T'.heap := ⟨hW2.1.kept (fun k q hk => by rw [e1]; exact hkeep q.1 (inW k q hk).2.2 (notA k q hk)), hW2.2⟩
  have hW1' : Wd D cI cS (lwA s) ad' sh' I' F' T'.heap := ⟨by rw [e1]; exact hW'.1, hW'.2.1.weaken (fun k q _ h => hAA q.1 h), hW'.2.2⟩
  have hap' : Apt ad' sh' ad2 sh2 := fun i j hi hj he => by
    have hi' := cw_at (cI := cI) (cS := cS) (ad := ad') (I := I') (F := F') (List.getElem?_eq_getElem hi)
    have hj' := cw_at (cI := cI) (cS := cS) (ad := ad2) (I := I2) (F := F2) (List.getElem?_eq_getElem hj)
    have hA := hW'.2.1.2 i _ hi'
    exact notA j _ hj' (by rw [← he]; exact hA)
  obtain ⟨t2, a1, b1⟩ := K r sh' I' F' ad' T'.heap (locs ++ L) hq hokr hag hW1' hW2' hap' hS' T' rfl X'
  exact ⟨t2, stp t2 a1, b1⟩
theorem lw_callV {μ' : MI} {k d' idx pc ci kc ks : Nat} {as : List AV} {rest : List Value} {sl : List (Option (Option Nat))} {sh sh2 : Shp} {I I2 : IE} {F F2 : FE} {ad ad2 : Nat → Nat} {H : Heap} {locs : List Loc} {lsc : Array Slot} {lv : List (Nat × Value)} {Q' : PQ}
    (C0 : lw_At p s m meth c b L xs) (hK : Kn D cI cS s) (hdg : decode code pc = .ok (.invokevirtual idx, 3)) (hlk : Cond.methodLink R_law idx μ'.1 ∈ lw_tbl) (hF : MF μ' k) (hV : MV μ') (hM : MS μ' d' 0 0 sh (.inr (some 0) :: as) I F Q') (hk : as.length = k) (hs : sh[0]? = some (.inr (ci, sl))) (hci : ci < 9) (hcc : CC ci = μ'.1.cls) (hd : d' ≤ 9)
    (hW : Wd D cI cS (lwA s) ad sh I F H) (hW2 : Wd D cI cS (lwA s) ad2 sh2 I2 F2 H) (hap : Apt ad sh ad2 sh2) (hS : va_S (lwA s) s.heap H locs) (hl : lv_has lsc 4 lv) (ho : ∀ v ∈ as, okv sh.length v) (hrest : (rest.map fun v => v.category).sum ≤ 8) (hcap : kc ≤ 600000 ∧ ks ≤ 7302249)
    (K : ∀ r sh' I' F' ad' H' locs', Q' r sh' I' F' → (∀ v, r = some v → okv sh'.length v) → (∀ k, k < sh.length → ad' k = ad k) → Wd D cI cS (lwA s) ad' sh' I' F' H' → Wd D cI cS (lwA s) ad2 sh2 I2 F2 H' → Apt ad' sh' ad2 sh2 → va_S (lwA s) s.heap H' locs' → W p l e room_1 s m #[Value.ref b] below meth c H' locs' kc ks (lw_Z below #[Value.ref b] s) (F0 m (pc + 3) lsc ((r.map (cv ad')).toList ++ rest))) :
    W p l e room_1 s m #[Value.ref b] below meth c H locs kc ks (lw_Z below #[Value.ref b] s) (F0 m pc lsc ((as.map (cv ad)).reverse ++ .ref (ad 0) :: rest)) := by
  obtain ⟨hx, hb, hr, hml, hown, hts, hX, hbl, hlocks, hgv⟩ := id C0
  have htg := gtbl_of hts
  have h0 : 0 < sh.length := (List.getElem?_eq_some_iff.mp hs).1
  have hoas : ∀ v ∈ Sum.inr (some 0) :: as, okv sh.length v := fun v hv => by
    rcases List.mem_cons.mp hv with rfl | hv
    · exact h0
    · exact ho v hv
  have hpre := pre_ok (as := .inr (some 0) :: as) hK hW hoas
  have he := cw_at (cI := cI) (cS := cS) (ad := ad) (I := I) (F := F) hs
  rw [cel_obj hci] at he
  have hrecv := va_recv hK.1 hW.1 (cl_ok ci hci) he
  have cb : CallB room_1 s #[Value.ref b] R_law idx μ'.1 μ'.2.2.1 μ'.2.2.2.1 μ'.2.2.2.2 (wsy μ') (rmd d' 0 0) 0 0 k := callB_of k htg (goodG.mpr hF.1) rfl rfl rfl (htg _ hF.2.1) (hts _ hlk) ⟨hF.2.2.1, hF.2.2.2.1, hF.2.2.2.2.1⟩ ⟨by show d' + 1 ≤ 10; omega, by have := hF.2.2.2.2.2.2; show 8 + (μ'.2.2.2.1 + 11) + 30 * d' ≤ 390; omega⟩
  have hrun := va_runV (locs := locs) (cells := kc) (slots := ks) (p := p) (e := e) (below := below) (meth := meth) (C := μ'.1.cls) (As := as.map (cv ad)) (rest := rest) (g := F0 m pc lsc ((as.map (cv ad)).reverse ++ .ref (ad 0) :: rest)) (nL := 4) (cc := code) (b := ad 0) (H := H)
    ⟨hx, hb, hml, hown, htg⟩ (hM l D cI cS ad H.size) ⟨cb, htg _ hV.1, htg _ hV.2⟩ ⟨hpre.1, by rw [← hcc]; exact hrecv, hpre.2⟩ rfl (by rw [List.length_map]; exact hk) hl.1 rfl
    (by show 2 * 0 + _ ≤ 8; omega) hdg ⟨by show kc + 0 ≤ 600000; omega, by show ks + 0 ≤ 7302249; omega⟩
  exact lw_back hW hW2 hap hS hrun K
end LAWCALL
