/-! THE CLAIM OUT OF ONE WALK OF THE LAW'S BODY. Your part is whole_start (and what it stands on); all else here is the same for every law, but numbers. -/
def R_law : String := "GraverCalculatorLaw"
def lw_P (b : Addr) (xs : List Int32) (args : Array Value) (s : State) : Prop := args = #[.ref b] ∧ s.IntsAt b xs ∧ xs.length ≤ 260 ∧ (Jvm.Cond.and given_1 narrow_1).before args s = true
def lw_Q (_ : Array Value) (s : State) (o : Outcome) (t : State) : Prop := o = .returned (some (.int 1)) ∧ Framed s o t [] 600000 7302250
def lw_Z (below : List Frame) (a : Array Value) (s : State) : State → Prop := fun t => ∃ o, t.status = .running ∧ Ended t below o ∧ lw_Q a s o t
/-- the law's own end, with 1 on the stack, nothing written that was there before, its room as the claim has it -/
theorem lw_ret {p : Program} {l : Launch} {e : Env} {s : State} {m : MethodId} {below : List Frame} {meth : Method} {c : Code} {b : Nat} (hx : p.tables.exec = Jvm.exec) (hb : c.code = code) (hr : meth.sig.returnType = ret) (hlocks : meth.locks = false) {pc : Nat} {H : Heap} {ls : Array Slot} (hdg : decode code pc = .ok (.ireturn, 1)) : W p l e room_1 s m #[Value.ref b] below meth c H [] 600000 7302250 (lw_Z below #[Value.ref b] s) (F0 m pc ls [.int 1]) := by
  intro T hT X
  obtain ⟨fs, hret, hrun, hended, hW, hframe⟩ := X.leave (v := some (.int 1)) (hlocks := hlocks) (fun h => by rw [hr] at h; cases h)
  have hmeth' : T.vm.method? m = some meth := X.method'
  refine ⟨T.setFrames fs, ?_, .returned (some (.int 1)), hrun, hended, rfl, ⟨_, rfl⟩, hW, hframe⟩
  jvm_step X.here [X.here.top, hx, hb, hdg, hmeth', hr, ret, narrow_b1]
  (try refine ⟨rfl, ?_⟩); (try refine ⟨rfl, ?_⟩)
  first | (intro acts; rw [hret _ acts rfl rfl rfl]) | rw [hret _ _ rfl rfl rfl]
  exact Steps.refl _
/-- what holds at the law's entry: the machine, the code, the tables' words (any of lw_tbl by 'hts w (by decide +kernel)'), the script of L ints xs at the cell b, what the Statement gives of the start (any of its parts by flat_of_before) -/
def lw_At (p : Program) (s : State) (m : MethodId) (meth : Method) (c : Code) (b L : Nat) (xs : Nat → Int32) : Prop :=
  p.tables.exec = Jvm.exec ∧ c.code = code ∧ meth.sig.returnType = ret ∧ c.maxLocals = 16 ∧ s.vm.findClass R_law = some m.cls ∧ (∀ w ∈ lw_tbl, w.before #[Value.ref b] s = true) ∧ va_X b L xs s s.heap ∧ b < s.heap.size ∧ meth.locks = false ∧ (Jvm.Cond.and given_1 narrow_1).before #[Value.ref b] s = true
theorem dLw_56 : decode cL_law 56 = .ok (.aload_n 0, 1) := by decide +kernel
theorem dLw_57 : decode cL_law 57 = .ok (.iconst 5, 1) := by decide +kernel
theorem dLw_58 : decode cL_law 58 = .ok (.iload 9, 2) := by decide +kernel
theorem dLw_60 : decode cL_law 60 = .ok (.imul, 1) := by decide +kernel
theorem dLw_70 : decode cL_law 70 = .ok (.aload_n 0, 1) := by decide +kernel
theorem dLw_71 : decode cL_law 71 = .ok (.iconst 5, 1) := by decide +kernel
theorem dLw_72 : decode cL_law 72 = .ok (.iload 9, 2) := by decide +kernel
theorem dLw_74 : decode cL_law 74 = .ok (.imul, 1) := by decide +kernel
theorem dLw_75 : decode cL_law 75 = .ok (.iconst 1, 1) := by decide +kernel
theorem dLw_76 : decode cL_law 76 = .ok (.iadd, 1) := by decide +kernel
theorem dLw_214 : decode cL_law 214 = .ok (.aload_n 0, 1) := by decide +kernel
theorem dLw_215 : decode cL_law 215 = .ok (.iconst 5, 1) := by decide +kernel
theorem dLw_216 : decode cL_law 216 = .ok (.iload 9, 2) := by decide +kernel
theorem dLw_218 : decode cL_law 218 = .ok (.imul, 1) := by decide +kernel
theorem dLw_219 : decode cL_law 219 = .ok (.iconst 2, 1) := by decide +kernel
theorem dLw_220 : decode cL_law 220 = .ok (.iadd, 1) := by decide +kernel
theorem dLw_432 : decode cL_law 432 = .ok (.aload_n 0, 1) := by decide +kernel
theorem dLw_433 : decode cL_law 433 = .ok (.iconst 5, 1) := by decide +kernel
theorem dLw_434 : decode cL_law 434 = .ok (.iload 9, 2) := by decide +kernel
theorem dLw_436 : decode cL_law 436 = .ok (.imul, 1) := by decide +kernel
theorem dLw_437 : decode cL_law 437 = .ok (.iconst 3, 1) := by decide +kernel
theorem dLw_438 : decode cL_law 438 = .ok (.iadd, 1) := by decide +kernel
theorem dCe_0 : decode cL_cell 0 = .ok (.iload_n 1, 1) := by decide +kernel
theorem dCe_1 : decode cL_cell 1 = .ok (.aload_n 0, 1) := by decide +kernel
theorem dCe_2 : decode cL_cell 2 = .ok (.arraylength, 1) := by decide +kernel
theorem dCe_3 : decode cL_cell 3 = .ok (.if_icmp .ge 9, 3) := by decide +kernel
theorem dCe_6 : decode cL_cell 6 = .ok (.aload_n 0, 1) := by decide +kernel
theorem dCe_7 : decode cL_cell 7 = .ok (.iload_n 1, 1) := by decide +kernel
theorem dCe_8 : decode cL_cell 8 = .ok (.iaload, 1) := by decide +kernel
theorem dCe_9 : decode cL_cell 9 = .ok (.goto 15, 3) := by decide +kernel
theorem dCe_12 : decode cL_cell 12 = .ok (.ldc 7, 2) := by decide +kernel
theorem dCe_14 : decode cL_cell 14 = .ok (.iload_n 1, 1) := by decide +kernel
theorem dCe_15 : decode cL_cell 15 = .ok (.sipush 997, 3) := by decide +kernel
theorem dCe_18 : decode cL_cell 18 = .ok (.iadd, 1) := by decide +kernel
theorem dCe_19 : decode cL_cell 19 = .ok (.imul, 1) := by decide +kernel
theorem dCe_20 : decode cL_cell 20 = .ok (.sipush 823, 3) := by decide +kernel
theorem dCe_23 : decode cL_cell 23 = .ok (.iadd, 1) := by decide +kernel
theorem dCe_24 : decode cL_cell 24 = .ok (.ireturn, 1) := by decide +kernel
/-- what the law is to come to -/
def TGL (b L : Nat) (xs : Nat → Int32) : TGT := fun below args s A _ _ _ _ t => (args = #[Value.ref b] ∧ va_X b L xs s s.heap ∧ b < s.heap.size ∧ ∀ q : Nat, A q → s.heap.size ≤ q) → lw_Z below #[Value.ref b] s t
/-- a cell of the script, or a number of its own -/
theorem cell_met (l : Launch) {b L : Nat} {xs : Nat → Int32} (hL : L ≤ 260) (sz : Nat) (x : Int32) (hx0 : 0 ≤ x.toInt) : Met l yL_cell (wsy mL_cell) (rmd 1 0 0) (va_Pc [.ref b, .int x] (fun U => U.heap.size = sz ∧ va_X b L xs U U.heap ∧ b < U.heap.size)) (va_Qi (S := Unit) (fun _ _ => True) (fun _ _ => True) (va_A [] sz)) 0 0 (va_A [] sz) := by
  refine Met.ofW (cc := cL_cell) (maxL := 2) (ret := some .int) (by decide +kernel) rfl ?_
  intro p e s m args below meth c s₁ B hml hv
  obtain ⟨rfl, hsz, hX, hbl⟩ := hv
  subst hsz
  have hx := B.exec
  have hb : c.code = cL_cell := B.bytes
  have hts := atoms_spec (ws := wsy mL_cell) B.pre
  have hown : s.vm.findClass RL = some m.cls := findClass_of_methodNamed B.named
  have hbA : ¬ va_A [] s.heap.size b := fun h => by
    rcases h with ⟨k, e, h⟩ | h
    · simp at h
    · exact absurd hbl (Nat.not_lt.mpr h)
  have hS : va_S (va_A [] s.heap.size) s.heap s.heap [] := va_S.rf
  have hl := lv_entry [.ref b, .int x] (n := 2) (Nat.le_of_ble_eq_true rfl)
  rw [lg_entry_eq]
  generalize (lg_sl ([.ref b, .int x]) ++ List.replicate (2 - (lg_sl ([.ref b, .int x])).length) Slot.unset).toArray = ls at hl ⊢
  have hl : lv_has ls 2 [(0, .ref b), (1, .int x)] := hl
  have hk := hts _ (List.mem_cons_of_mem _ iL_cell_12.choose_spec.2.2.2)
  refine lv_iload_n hx hb dCe_0 rfl (lv_at hl 1 rfl) ?_
  refine lv_aload_n hx hb dCe_1 rfl (lv_at hl 0 rfl) ?_
  refine va_slen hx hb hX hbl hbA hS dCe_2 ?_
  refine lv_icmp_ge (tgt := 12) hx hb dCe_3 (by decide) (fun h => ?_) (fun h => ?_)
  · refine lv_ldc hx hb hown hk iL_cell_12.choose_spec.1 ?_
    refine lv_iload_n hx hb dCe_14 rfl (lv_at hl 1 rfl) ?_
    refine lv_sipush (v := 997) hx hb dCe_15 (by decide) ?_
    refine lv_iadd hx hb dCe_18 ?_
    refine lv_imul hx hb dCe_19 ?_
    refine lv_sipush (v := 823) hx hb dCe_20 (by decide) ?_
    refine lv_iadd hx hb dCe_23 ?_
    exact W.iret hx hb B.returns (fun t ht _ => ⟨⟨_, (), rfl, trivial, trivial⟩, hS.F ht⟩) hS.2.2 dCe_24 (hlocks := B.notSynchronized)
  · refine lv_aload_n hx hb dCe_6 rfl (lv_at hl 0 rfl) ?_
    refine lv_iload_n hx hb dCe_7 rfl (lv_at hl 1 rfl) ?_
    refine va_sld hx hb hX hbl hbA hS (vp_in_iff.mpr ⟨hx0, ?_⟩) dCe_8 ?_
    · have : ¬ nI L ≤ x := h
      rw [Int32.le_iff_toInt_le, nI_toInt (by omega)] at this
      omega
    refine lv_goto (tgt := 24) hx hb dCe_9 (by decide) ?_
    exact W.iret hx hb B.returns (fun t ht _ => ⟨⟨_, (), rfl, trivial, trivial⟩, hS.F ht⟩) hS.2.2 dCe_24 (hlocks := B.notSynchronized)
section CELL
variable {b L : Nat} {xs : Nat → Int32} {n0 kc ks pc n : Nat} {ls : List (Option AV)} {st : List AV} {sh : Shp} {I : IE} {F : FE}
/-- nothing is wanted where the script isn't the law's -/
theorem tg_no {p : Program} {l : Launch} {e : Env} {R : Room} {s : State} {m : MethodId} {args : Array Value} {below : List Frame} {meth : Method} {c : Code} {H : Heap} {locs : List Loc} {D : va_G} {cI cS : ClassId} {A : Nat → Prop} {ad0 : Nat → Nat} {g : JFrame} (h : ¬ (args = #[Value.ref b] ∧ va_X b L xs s s.heap ∧ b < s.heap.size ∧ ∀ q : Nat, A q → s.heap.size ≤ q)) : W p l e R s m args below meth c H locs kc ks (TGL b L xs below args s A D cI cS ad0) g :=
  fun T _ _ => ⟨T.setTop g, Steps.refl _, fun z => absurd z h⟩
/-- less is known of the locals -/
theorem w_any {rw_ : Option Nat} {TG : TGT} {μ : MI} {d mc ms n0 kc ks pc : Nat} {ls ls' : List (Option AV)} {st : List AV} {sh : Shp} {I : IE} {F : FE} (hlen : ls'.length = ls.length) (hsub : ∀ (k : Nat) (v : AV), ls'[k]? = some (some v) → ls[k]? = some (some v)) (K : WG rw_ TG μ d mc ms n0 kc ks pc ls' st sh I F) : WG rw_ TG μ d mc ms n0 kc ks pc ls st sh I F := by
  intro p l e s m args below meth c D cI cS A ad0 ad H locs lsc hC hK hA had hn0 hW hS hL hst
  obtain ⟨hl, lv, hv, hm, hr⟩ := hL
  exact K p l e s m args below meth c D cI cS A ad0 ad H locs lsc hC hK hA had hn0 hW hS ⟨hlen.trans hl, lv, hv, fun k v hk => hm k v (hsub k v hk), hr⟩ hst
theorem w_cc {p : Program} {l : Launch} {e : Env} {s : State} {m : MethodId} {args : Array Value} {below : List Frame} {meth : Method} {c : Code} {D : va_G} {cI cS : ClassId} {A : Nat → Prop} {ad0 ad : Nat → Nat} {H : Heap} {locs : List Loc} {lsc : Array Slot} {x : Int} (h : ICS mL_law pc n yL_cell) (hx0 : 0 ≤ x ∧ x ≤ 1000) (hL : L ≤ 260) (hcap : kc ≤ 600000 ∧ ks ≤ 7302250) (hrest : st.length ≤ 8)
    (hC : Cx mL_law p s m args meth c) (hK : Kn D cI cS s) (hA : ∀ q : Nat, s.heap.size ≤ q → A q) (had : ∀ k, k < n0 → ad k = ad0 k) (hn0 : n0 ≤ sh.length) (hW : Wd D cI cS A ad sh I F H) (hS : va_S A s.heap H locs) (hL0 : Lcl (some b) ad sh.length lsc 16 ls) (hst : ∀ v ∈ st, okv sh.length v)
    (hs : args = #[Value.ref b] ∧ va_X b L xs s s.heap ∧ b < s.heap.size ∧ ∀ q : Nat, A q → s.heap.size ≤ q)
    (K : ∀ v, WG (some b) (TGL b L xs) mL_law 10 600000 7302250 n0 kc ks n ls (.inl v :: st) sh I F) :
    W p l e (rmd 10 600000 7302250) s m args below meth c H locs kc ks (TGL b L xs below args s A D cI cS ad0) (F0 m pc lsc (.int (Int32.ofInt x) :: .ref b :: st.map (cv ad))) := by
  obtain ⟨idx, hdg, rfl, hlk⟩ := h
  obtain ⟨-, hX, hbl, hAs⟩ := hs
  have hts := hC.2.2.2.2.2.1
  have hbA : ¬ A b := fun z => absurd (hAs b z) (Nat.not_le.mpr hbl)
  have hXH : va_X b L xs s H := hX.kept (hS.2.1 b hbl hbA)
  have hbH : b < H.size := Nat.lt_of_lt_of_le hbl hS.1
  have cb : CallB (rmd 10 600000 7302250) s args mL_law.2.1 idx mL_cell.1 mL_cell.2.2.1 mL_cell.2.2.2.1 mL_cell.2.2.2.2 (wsy mL_cell) (rmd 1 0 0) 0 0 2 := callB_of 2 hts (goodG.mpr fL_cell.1) rfl rfl rfl (hts _ fL_cell.2.1) (hts _ hlk) ⟨fL_cell.2.2.1, fL_cell.2.2.2.1, fL_cell.2.2.2.2.1⟩ ⟨by decide, by decide⟩
  have hrun := va_runS (locs := locs) (cells := kc) (slots := ks) (p := p) (e := e) (below := below) (meth := meth) (As := [.ref b, .int (Int32.ofInt x)]) (rest := st.map (cv ad)) (g := F0 m pc lsc (.int (Int32.ofInt x) :: .ref b :: st.map (cv ad))) (nL := 16) (cc := cL_law) (H := H)
    ⟨hC.1, hC.2.1, hC.2.2.2.1, hC.2.2.2.2.1, hts⟩ (cell_met l (b := b) (L := L) (xs := xs) hL H.size (Int32.ofInt x) (by rw [oi_toInt ⟨by omega, by omega⟩]; exact hx0.1)) ⟨cb, hts _ vL_cell⟩
    ⟨fun a U g mk h => ⟨h.1, h.2.1, h.2.2.1.moved (Vm.Alike.refl U.vm), h.2.2.2⟩, fun U hU hw => ⟨rfl, by rw [hU], by rw [hU]; exact hXH.moved hw.alike, by rw [hU]; exact hbH⟩⟩ rfl rfl hL0.size rfl
    (by show 2 * 0 + _ ≤ 8; rw [cv_len]; omega) hdg ⟨by show kc + 0 ≤ 600000; omega, by show ks + 0 ≤ 7302250; omega⟩
  refine va_calli hrun hS (fun q h1 h2 => ?_) (fun q hq => ?_) (fun r u t H1 locs1 ht _ _ _ hz hk hS1 => ?_)
  · rcases h2 with ⟨k, e, h⟩ | h
    · simp at h
    · exact absurd h1 (Nat.not_lt.mpr h)
  · rcases hq with ⟨k, e, h⟩ | h
    · simp at h
    · exact hA q (Nat.le_trans hS.1 h)
  · have hW1 : Wd D cI cS A ad sh I F H1 := ⟨hW.1.kept (fun k q hk' => hk q.1 ((hW.1 k q hk').lt) (fun z => by
      rcases z with ⟨j, e, h⟩ | h
      · simp at h
      · exact absurd ((hW.1 k q hk').lt) (Nat.not_lt.mpr h))), hW.2⟩
    have key := K r.toInt p l e s m args below meth c D cI cS A ad0 ad H1 locs1 lsc hC hK hA had hn0 hW1 hS1 hL0 (ok_cons (v := .inl r.toInt) (ti_R r) hst)
    simp only [List.map_cons, cv, Int32.ofInt_toInt] at key
    exact key
theorem w_cellA {i : Int} (d0 : decode cL_law pc = .ok (.aload_n 0, 1)) (d1 : decode cL_law (pc + 1) = .ok (.iconst 5, 1)) (d2 : decode cL_law (pc + 2) = .ok (.iload 9, 2)) (d3 : decode cL_law (pc + 4) = .ok (.imul, 1)) (h : ICS mL_law (pc + 5) n yL_cell) (hl : ls[9]? = some (some (.inl i))) (hi : 0 ≤ i ∧ i ≤ 10) (hL : L ≤ 260) (hcap : kc ≤ 600000 ∧ ks ≤ 7302250) (hrest : st.length ≤ 8)
    (K : ∀ v, WG (some b) (TGL b L xs) mL_law 10 600000 7302250 n0 kc ks n ls (.inl v :: st) sh I F) : WG (some b) (TGL b L xs) mL_law 10 600000 7302250 n0 kc ks pc ls st sh I F := by
  intro p l e s m args below meth c D cI cS A ad0 ad H locs lsc hC hK hA had hn0 hW hS hL0 hst
  by_cases hs : args = #[Value.ref b] ∧ va_X b L xs s s.heap ∧ b < s.heap.size ∧ ∀ q : Nat, A q → s.heap.size ≤ q
  · have hb : c.code = cL_law := hC.2.1
    refine lv_aload_n hC.1 hb d0 rfl hL0.raw ?_
    refine lv_iconst (v := Int32.ofInt 5) hC.1 hb d1 rfl ?_
    refine lv_iload hC.1 hb d2 (hL0.get hl).1 ?_
    refine lv_imul hC.1 hb d3 ?_
    rw [← Int32.ofInt_mul]
    exact w_cc h (by omega) hL hcap hrest hC hK hA had hn0 hW hS hL0 hst hs K
  · exact tg_no hs
theorem w_cellB {i j : Int} (d0 : decode cL_law pc = .ok (.aload_n 0, 1)) (d1 : decode cL_law (pc + 1) = .ok (.iconst 5, 1)) (d2 : decode cL_law (pc + 2) = .ok (.iload 9, 2)) (d3 : decode cL_law (pc + 4) = .ok (.imul, 1)) (d4 : decode cL_law (pc + 5) = .ok (.iconst j, 1)) (d5 : decode cL_law (pc + 6) = .ok (.iadd, 1)) (h : ICS mL_law (pc + 7) n yL_cell) (hl : ls[9]? = some (some (.inl i))) (hi : 0 ≤ i ∧ i ≤ 10) (hj : 0 ≤ j ∧ j ≤ 10) (hL : L ≤ 260) (hcap : kc ≤ 600000 ∧ ks ≤ 7302250) (hrest : st.length ≤ 8)
    (K : ∀ v, WG (some b) (TGL b L xs) mL_law 10 600000 7302250 n0 kc ks n ls (.inl v :: st) sh I F) : WG (some b) (TGL b L xs) mL_law 10 600000 7302250 n0 kc ks pc ls st sh I F := by
  intro p l e s m args below meth c D cI cS A ad0 ad H locs lsc hC hK hA had hn0 hW hS hL0 hst
  by_cases hs : args = #[Value.ref b] ∧ va_X b L xs s s.heap ∧ b < s.heap.size ∧ ∀ q : Nat, A q → s.heap.size ≤ q
  · have hb : c.code = cL_law := hC.2.1
    refine lv_aload_n hC.1 hb d0 rfl hL0.raw ?_
    refine lv_iconst (v := Int32.ofInt 5) hC.1 hb d1 rfl ?_
    refine lv_iload hC.1 hb d2 (hL0.get hl).1 ?_
    refine lv_imul hC.1 hb d3 ?_
    refine lv_iconst (v := Int32.ofInt j) hC.1 hb d4 rfl ?_
    refine lv_iadd hC.1 hb d5 ?_
    rw [← Int32.ofInt_mul, ← Int32.ofInt_add]
    exact w_cc h (by omega) hL hcap hrest hC hK hA had hn0 hW hS hL0 hst hs K
  · exact tg_no hs
/-- the law's own end -/
theorem w_lret (h : IO cL_law pc n .ireturn) (hcap : kc ≤ 600000 ∧ ks ≤ 7302250) : WG (some b) (TGL b L xs) mL_law 10 600000 7302250 n0 kc ks pc ls [.inl 1] sh I F := by
  intro p l e s m args below meth c D cI cS A ad0 ad H locs lsc hC hK hA had hn0 hW hS hL0 hst
  by_cases hs : args = #[Value.ref b] ∧ va_X b L xs s s.heap ∧ b < s.heap.size ∧ ∀ q : Nat, A q → s.heap.size ≤ q
  · obtain ⟨hd, -⟩ := h
    obtain ⟨rfl, hX, hbl, hAs⟩ := hs
    refine va_forget (fun q hq => hAs _ (hS.2.2 q hq)) ?_
    refine W.widen (k := 600000) (n := 7302250) hcap.1 hcap.2 ?_
    have key := lw_ret (p := p) (l := l) (e := e) (s := s) (m := m) (below := below) (meth := meth) (c := c) (b := b) hC.1 hC.2.1 hC.2.2.1 hC.2.2.2.2.2.2.1 (H := H) (ls := lsc) hd
    intro T hT X
    obtain ⟨t, a1, b1⟩ := key T hT X
    exact ⟨t, a1, fun _ => b1⟩
  · exact tg_no hs
end CELL
theorem MP.mb {μ : MI} {d : Nat} {sh : Shp} {as : List AV} {I : IE} {F : FE} {P : Int → Prop} (h : MP μ d sh as I F P) : MB μ d sh as I F (fun v I' F' => P v ∧ I' = I ∧ F' = F) := h
