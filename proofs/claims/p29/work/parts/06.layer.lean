abbrev AV : Type := Int ⊕ Option Nat
abbrev Sc : Type := Nat ⊕ (Nat × List (Option (Option Nat)))
abbrev Shp : Type := List Sc
abbrev IE : Type := Nat → Nat → Int
abbrev FE : Type := Nat → Int → Int
abbrev PQ : Type := Option AV → Shp → IE → FE → Prop
def upI (I : IE) (a k : Nat) (x : Int) : IE := fun b j => if b = a ∧ j = k then x else I b j
def upF (F : FE) (a : Nat) (i x : Int) : FE := fun b j => if b = a ∧ j = i then x else F b j
def cpF (F : FE) (a0 : Nat) (sp : Int) (a1 : Nat) (dp n : Int) : FE := fun b j => if b = a1 ∧ dp ≤ j ∧ j < dp + n then F a0 (sp + (j - dp)) else F b j
def cv (ad : Nat → Nat) (v : AV) : Value := match v with
  | .inl x => .int (Int32.ofInt x)
  | .inr none => .null
  | .inr (some k) => .ref (ad k)
def okv (n : Nat) (v : AV) : Prop := match v with
  | .inl x => inR x
  | .inr none => True
  | .inr (some k) => k < n
def sv (ad : Nat → Nat) (x : Int) (s : Option (Option Nat)) : Value := match s with
  | none => .int (Int32.ofInt x)
  | some none => .null
  | some (some r) => .ref (ad r)
def cq (ad : Nat → Nat) (sl : List (Option (Option Nat))) (k : Nat) : Option Nat := match sl[k]? with
  | some (some (some r)) => some (ad r)
  | _ => none
def cel (cI cS : ClassId) (ad : Nat → Nat) (I : IE) (F : FE) (p : Nat) (c : Sc) : va_E := match c with
  | .inl n => .inl (cI, n, .inl (fun k => Int32.ofInt (F p k)))
  | .inr (ci, sl) => if ci = 50 then .inl (cS, sl.length, .inr (.inr (.inr (.inr (cq ad sl))))) else .inr (ci, sl.mapIdx (fun k s => sv ad (I p k) s))
def cw (cI cS : ClassId) (ad : Nat → Nat) (sh : Shp) (I : IE) (F : FE) : va_W := sh.mapIdx (fun p c => (ad p, cel cI cS ad I F p c))
def okSh (sh : Shp) : Prop := ∀ (p ci : Nat) (sl : List (Option (Option Nat))), sh[p]? = some (.inr (ci, sl)) → ((ci < 8 ∧ sl.length = NN ci) ∨ ci = 50) ∧ ∀ (k r : Nat), sl[k]? = some (some (some r)) → r < sh.length
def Wd (D : va_G) (cI cS : ClassId) (A : Nat → Prop) (ad : Nat → Nat) (sh : Shp) (I : IE) (F : FE) (H : Heap) : Prop := va_P D vwCl (cw cI cS ad sh I F) H ∧ va_D A (cw cI cS ad sh I F) ∧ okSh sh ∧ (∀ a k, inR (I a k)) ∧ (∀ a i, inR (F a i))
def nwM : List (String × Nat × MethodName × String) := [(RX7, 11, yX5_init, "GraverCalculator"), (RX3, 17, yX5_init, "GraverCalculator"), (RX7, 25, yX4_init, "GraverCalculator"), (RX7, 32, yX2_init, "GraverCalculator"), (RX7, 39, yX0_init, "GraverCalculator"), (RX7, 58, yX6_init, "GraverCalculator")]
def NW (s : State) : Prop := True ∧ (∀ q ∈ nwM, va_Nw (.methodLinkNest q.1 q.2.1 q.2.2.1 q.2.2.2) s) ∧ va_AO RX5 s
def Kn (D : va_G) (cI cS : ClassId) (s : State) : Prop := va_K D vwCl [(cI, .int), (cS, .object RX5)] s ∧ NW s
theorem Kn.warm {D : va_G} {cI cS : ClassId} {s U : State} (hW : s.WarmedH U.vm) (h : Kn D cI cS s) : Kn D cI cS U :=
  ⟨va_K.moved hW.alike h.1, trivial, fun q hq => va_Nw.warmM hW (h.2.2.1 q hq), va_AO.moved hW.alike h.2.2.2⟩
theorem Kn.same {D : va_G} {cI cS : ClassId} {s U : State} (hW : s.vm = U.vm) (h : Kn D cI cS s) : Kn D cI cS U :=
  ⟨va_K.moved (by rw [hW]; exact Vm.Alike.refl U.vm) h.1, trivial, fun q hq => va_Nw.same rfl hW (h.2.2.1 q hq), va_AO.moved (by rw [hW]; exact Vm.Alike.refl U.vm) h.2.2.2⟩
def Cx (μ : MI) (p : Program) (s : State) (m : MethodId) (args : Array Value) (meth : Method) (c : Code) : Prop :=
  p.tables.exec = Jvm.exec ∧ c.code = μ.2.2.1 ∧ meth.sig.returnType = μ.2.2.2.2 ∧ c.maxLocals = μ.2.2.2.1 ∧ s.vm.findClass μ.2.1 = some m.cls ∧ (∀ w ∈ gtbl, w.before args s = true) ∧ meth.locks = false ∧ (μ.1.name = "<init>" → meth.name = "<init>")
def Lcl (rw_ : Option Nat) (ad : Nat → Nat) (n : Nat) (lsc : Array Slot) (mL : Nat) (ls : List (Option AV)) : Prop := ls.length = mL ∧ ∃ lv, lv_has lsc mL lv ∧ (∀ (k : Nat) (v : AV), ls[k]? = some (some v) → (k, cv ad v) ∈ lv ∧ okv n v) ∧ ∀ b : Nat, rw_ = some b → (0, Value.ref b) ∈ lv
def PP (D : va_G) (cI cS : ClassId) (A : Nat → Prop) (ad0 : Nat → Nat) (n0 : Nat) (Q : PQ) : Array Value → State → Outcome → State → Prop := fun _ st oc t =>
  (∃ (r : Option AV) (sh' : Shp) (I' : IE) (F' : FE) (ad' : Nat → Nat), oc = .returned (r.map (cv ad')) ∧ Q r sh' I' F' ∧ (∀ k, k < n0 → ad' k = ad0 k) ∧ n0 ≤ sh'.length ∧ Wd D cI cS A ad' sh' I' F' t.heap ∧ ∀ v, r = some v → okv sh'.length v) ∧ va_F A st t
def rmd (d mc ms : Nat) : Room := { frames := d, cells := mc, slots := ms, locals := 40 * d }
/-- what is to be reached -/
abbrev TGT : Type := List Frame → Array Value → State → (Nat → Prop) → va_G → ClassId → ClassId → (Nat → Nat) → State → Prop
/-- inside a method: from here it comes to TG; rw_: the script's cell in local 0 -/
def WG (rw_ : Option Nat) (TG : TGT) (μ : MI) (d mc ms n0 : Nat) (kc ks pc : Nat) (ls : List (Option AV)) (st : List AV) (sh : Shp) (I : IE) (F : FE) : Prop :=
  ∀ (p : Program) (l : Launch) (e : Env) (s : State) (m : MethodId) (args : Array Value) (below : List Frame) (meth : Method) (c : Code) (D : va_G) (cI cS : ClassId) (A : Nat → Prop) (ad0 ad : Nat → Nat) (H : Heap) (locs : List Loc) (lsc : Array Slot),
  Cx μ p s m args meth c → Kn D cI cS s → (∀ q : Nat, s.heap.size ≤ q → A q) → (∀ k, k < n0 → ad k = ad0 k) → n0 ≤ sh.length → Wd D cI cS A ad sh I F H → va_S A s.heap H locs → Lcl rw_ ad sh.length lsc μ.2.2.2.1 ls → (∀ v ∈ st, okv sh.length v) →
  W p l e (rmd d mc ms) s m args below meth c H locs kc ks (TG below args s A D cI cS ad0) (F0 m pc lsc (st.map (cv ad)))
/-- inside a method: from here it comes to its end, with Q -/
abbrev WS (μ : MI) (d mc ms n0 : Nat) (Q : PQ) (kc ks pc : Nat) (ls : List (Option AV)) (st : List AV) (sh : Shp) (I : IE) (F : FE) : Prop :=
  WG none (fun below args s A D cI cS ad0 => MQ below (PP D cI cS A ad0 n0 Q) args s mc ms A) μ d mc ms n0 kc ks pc ls st sh I F
def wsy (μ : MI) : List Cond := .code μ.1 μ.2.2.1 μ.2.2.2.1 μ.2.2.2.2 :: gtbl
/-- a method's contract -/
def MS (μ : MI) (d mc ms : Nat) (sh : Shp) (as : List AV) (I : IE) (F : FE) (Q : PQ) : Prop :=
  ∀ (l : Launch) (D : va_G) (cI cS : ClassId) (ad : Nat → Nat) (sz : Nat), Met l μ.1 (wsy μ) (rmd d mc ms) (va_Pc (as.map (cv ad)) (fun U => U.heap.size = sz ∧ Wd D cI cS (fun _ => True) ad sh I F U.heap ∧ Kn D cI cS U ∧ ∀ v ∈ as, okv sh.length v))
    (PP D cI cS (va_A (cw cI cS ad sh I F) sz) ad sh.length Q) mc ms (va_A (cw cI cS ad sh I F) sz)
-- numbers
theorem oi_toInt {x : Int} (h : inR x) : (Int32.ofInt x).toInt = x := Int32.toInt_ofInt_of_le (by have := h.1; omega) (by have := h.2; omega)
theorem ti_R (x : Int32) : inR x.toInt := ⟨by have := x.le_toInt; omega, by have := x.toInt_lt; omega⟩
theorem oi_le {x y : Int} (hx : inR x) (hy : inR y) : Int32.ofInt x ≤ Int32.ofInt y ↔ x ≤ y := by rw [Int32.le_iff_toInt_le, oi_toInt hx, oi_toInt hy]
theorem oi_lt {x y : Int} (hx : inR x) (hy : inR y) : Int32.ofInt x < Int32.ofInt y ↔ x < y := by rw [Int32.lt_iff_toInt_lt, oi_toInt hx, oi_toInt hy]
theorem oi_eq {x y : Int} (hx : inR x) (hy : inR y) : Int32.ofInt x = Int32.ofInt y ↔ x = y := by rw [← Int32.toInt_inj, oi_toInt hx, oi_toInt hy]
theorem oi_nat {x : Int} (hx : inR x) : (Int32.ofInt x).toNatClampNeg = x.toNat := Int32.toNatClampNeg_ofInt_of_le (by have := hx.1; omega) (by have := hx.2; omega)
theorem oi_0 : Int32.ofInt 0 = 0 := by decide
theorem inR0 : inR 0 := by decide
theorem oi_in {x : Int} {n : Nat} (hx : inR x) (h : 0 ≤ x ∧ x < n) : vp_in (Int32.ofInt x) n := by rw [vp_in_iff, oi_toInt hx]; exact h
def bandI (x y : Int) : Int := (Int32.ofInt x &&& Int32.ofInt y).toInt
def borI (x y : Int) : Int := (Int32.ofInt x ||| Int32.ofInt y).toInt
def bxorI (x y : Int) : Int := (Int32.ofInt x ^^^ Int32.ofInt y).toInt
def shlI (x y : Int) : Int := (Int32.ofInt x <<< (Int32.ofInt y &&& 31)).toInt
def shrI (x y : Int) : Int := (Int32.ofInt x >>> (Int32.ofInt y &&& 31)).toInt
def ushrI (x y : Int) : Int := ((Int32.ofInt x).toUInt32 >>> ((Int32.ofInt y).toUInt32 &&& Int32.toUInt32 31)).toInt32.toInt
-- worlds
theorem cw_at {cI cS : ClassId} {ad : Nat → Nat} {sh : Shp} {I : IE} {F : FE} {p : Nat} {c : Sc} (h : sh[p]? = some c) : (cw cI cS ad sh I F)[p]? = some (ad p, cel cI cS ad I F p c) := by
  simp [cw, List.getElem?_mapIdx, h]
theorem cw_len {cI cS : ClassId} {ad : Nat → Nat} {sh : Shp} {I : IE} {F : FE} : (cw cI cS ad sh I F).length = sh.length := by simp [cw]
theorem cel_arr {cI cS : ClassId} {ad : Nat → Nat} {I : IE} {F : FE} {p n : Nat} : cel cI cS ad I F p (.inl n) = .inl (cI, n, .inl (fun k => Int32.ofInt (F p k))) := rfl
theorem cel_obj {cI cS : ClassId} {ad : Nat → Nat} {I : IE} {F : FE} {p ci : Nat} {sl : List (Option (Option Nat))} (h : ci < 8) : cel cI cS ad I F p (.inr (ci, sl)) = .inr (ci, sl.mapIdx (fun k s => sv ad (I p k) s)) := by
  simp only [cel]; rw [if_neg (by omega)]
theorem cel_q {cI cS : ClassId} {ad : Nat → Nat} {I : IE} {F : FE} {p : Nat} {sl : List (Option (Option Nat))} : cel cI cS ad I F p (.inr (50, sl)) = .inl (cS, sl.length, .inr (.inr (.inr (.inr (cq ad sl))))) := by
  simp [cel]
theorem cw_set {cI cS : ClassId} {ad : Nat → Nat} {sh sh' : Shp} {I I' : IE} {F F' : FE} {p : Nat} {c : Sc} {E : va_E} (hl : sh'.length = sh.length) (hp : sh'[p]? = some c) (hE : cel cI cS ad I' F' p c = E)
    (ho : ∀ q, q ≠ p → sh'[q]? = sh[q]? ∧ ∀ c', sh[q]? = some c' → cel cI cS ad I' F' q c' = cel cI cS ad I F q c') : (cw cI cS ad sh I F).set p (ad p, E) = cw cI cS ad sh' I' F' := by
  apply List.ext_getElem?
  intro j
  rw [List.getElem?_set]
  by_cases hj : p = j
  · subst hj
    have hlt := (List.getElem?_eq_some_iff.mp hp).1
    rw [if_pos rfl, if_pos (by rw [cw_len]; omega), cw_at hp, hE]
  · rw [if_neg hj]
    obtain ⟨h1, h2⟩ := ho j (Ne.symm hj)
    simp only [cw, List.getElem?_mapIdx, h1]
    cases hc : sh[j]? with
    | none => rfl
    | some c' => simp only [Option.map_some]; rw [h2 c' hc]
theorem cw_push {cI cS : ClassId} {ad : Nat → Nat} {sh : Shp} {I : IE} {F : FE} {c : Sc} {E : va_E} {q : Nat} {ad' : Nat → Nat} (hag : ∀ k, k < sh.length → ad' k = ad k) (hq : ad' sh.length = q) (hok : okSh sh) (hE : cel cI cS ad' I F sh.length c = E) :
    cw cI cS ad sh I F ++ [(q, E)] = cw cI cS ad' (sh ++ [c]) I F := by
  apply List.ext_getElem?
  intro j
  by_cases hj : j < sh.length
  · rw [List.getElem?_append_left (by rw [cw_len]; exact hj)]
    simp only [cw, List.getElem?_mapIdx]
    rw [List.getElem?_append_left hj]
    cases hc : sh[j]? with
    | none => rfl
    | some c' =>
      simp only [Option.map_some]
      rw [hag j hj]
      congr 2
      cases c' with
      | inl n => rfl
      | inr o =>
        obtain ⟨ci, sl⟩ := o
        have hk := (hok j ci sl hc).2
        simp only [cel]
        by_cases h50 : ci = 50
        · rw [if_pos h50, if_pos h50]
          congr 7
          funext k
          simp only [cq]
          rcases hs : sl[k]? with _ | ⟨_ | ⟨_ | r⟩⟩ <;> try rfl
          simp only
          rw [hag r (hk k r hs)]
        · rw [if_neg h50, if_neg h50]
          congr 2
          apply List.ext_getElem?
          intro k
          simp only [List.getElem?_mapIdx]
          rcases hs : sl[k]? with _ | ⟨_ | ⟨_ | r⟩⟩ <;> try rfl
          simp only [Option.map_some, sv]
          rw [hag r (hk k r hs)]
  · by_cases hj2 : j = sh.length
    · subst hj2
      rw [List.getElem?_append_right (by rw [cw_len]; omega), cw_len, Nat.sub_self]
      simp only [cw, List.getElem?_mapIdx]
      rw [List.getElem?_append_right (Nat.le_refl _), Nat.sub_self]
      simp only [List.getElem?_cons_zero, Option.map_some, hq, hE]
    · rw [List.getElem?_eq_none (by rw [List.length_append, cw_len, List.length_singleton]; omega), List.getElem?_eq_none (by rw [cw_len, List.length_append, List.length_singleton]; omega)]
theorem upI_ok {I : IE} {a k : Nat} {x : Int} (h : ∀ a k, inR (I a k)) (hx : inR x) : ∀ b j, inR (upI I a k x b j) := by
  intro b j
  unfold upI
  split
  · exact hx
  · exact h b j
theorem upF_ok {F : FE} {a : Nat} {i x : Int} (h : ∀ a k, inR (F a k)) (hx : inR x) : ∀ b j, inR (upF F a i x b j) := by
  intro b j
  unfold upF
  split
  · exact hx
  · exact h b j
theorem cv_cat (ad : Nat → Nat) (v : AV) : (cv ad v).category = 1 := by rcases v with x | _ | k <;> rfl
theorem cv_len (ad : Nat → Nat) (st : List AV) : ((st.map (cv ad)).map fun v => v.category).sum = st.length := by
  induction st with
  | nil => rfl
  | cons a t ih =>
    simp only [List.map_cons, List.sum_cons, List.length_cons, cv_cat]
    omega
theorem cv_ag {ad ad' : Nat → Nat} {n : Nat} (h : ∀ k, k < n → ad' k = ad k) {v : AV} (hv : okv n v) : cv ad' v = cv ad v := by
  rcases v with x | _ | k
  · rfl
  · rfl
  · simp only [cv]; rw [h k hv]
theorem okv_mono {n n' : Nat} (h : n ≤ n') {v : AV} (hv : okv n v) : okv n' v := by
  rcases v with x | _ | k
  · exact hv
  · trivial
  · exact Nat.lt_of_lt_of_le hv h
theorem Lcl.get {rw_ : Option Nat} {ad : Nat → Nat} {n : Nat} {lsc : Array Slot} {mL : Nat} {ls : List (Option AV)} (h : Lcl rw_ ad n lsc mL ls) {k : Nat} {v : AV} (hk : ls[k]? = some (some v)) : lsc[k]? = some (.val (cv ad v)) ∧ okv n v := by
  obtain ⟨-, lv, hv, hm, -⟩ := h
  exact ⟨hv.2.2 _ (hm k v hk).1, (hm k v hk).2⟩
theorem Lcl.raw {b : Nat} {ad : Nat → Nat} {n : Nat} {lsc : Array Slot} {mL : Nat} {ls : List (Option AV)} (h : Lcl (some b) ad n lsc mL ls) : lsc[0]? = some (.val (.ref b)) := by
  obtain ⟨-, lv, hv, -, hm⟩ := h
  exact hv.2.2 _ (hm b rfl)
theorem Lcl.size {rw_ : Option Nat} {ad : Nat → Nat} {n : Nat} {lsc : Array Slot} {mL : Nat} {ls : List (Option AV)} (h : Lcl rw_ ad n lsc mL ls) : lsc.size = mL := by
  obtain ⟨-, lv, hv, -⟩ := h
  exact hv.1
theorem Lcl.mono {rw_ : Option Nat} {ad ad' : Nat → Nat} {n n' : Nat} {lsc : Array Slot} {mL : Nat} {ls : List (Option AV)} (h : Lcl rw_ ad n lsc mL ls) (hn : n ≤ n') (hag : ∀ k, k < n → ad' k = ad k) : Lcl rw_ ad' n' lsc mL ls := by
  obtain ⟨hl, lv, hv, hm, hr⟩ := h
  refine ⟨hl, lv, hv, fun k v hk => ?_, hr⟩
  rw [cv_ag hag (hm k v hk).2]
  exact ⟨(hm k v hk).1, okv_mono hn (hm k v hk).2⟩
theorem Lcl.put {rw_ : Option Nat} {ad : Nat → Nat} {n : Nat} {lsc : Array Slot} {mL : Nat} {ls : List (Option AV)} {lv : List (Nat × Value)} (hl : ls.length = mL) (hm : ∀ (k : Nat) (v : AV), ls[k]? = some (some v) → (k, cv ad v) ∈ lv ∧ okv n v) (hr : ∀ b : Nat, rw_ = some b → (0, Value.ref b) ∈ lv) {i : Nat} (hi : rw_ = none ∨ i ≠ 0) {w : AV} (hw : okv n w)
    (h' : lv_has lsc mL ((i, cv ad w) :: lv.filter (fun q => !(q.1 == i) && !(q.1 + 1 == i && q.2.category == 2)))) : Lcl rw_ ad n lsc mL (ls.set i (some w)) := by
  refine ⟨by rw [List.length_set]; exact hl, _, h', fun k v hk => ?_, fun b hb => ?_⟩
  · rw [List.getElem?_set] at hk
    by_cases hki : i = k
    · subst hki
      rw [if_pos rfl] at hk
      split at hk
      · cases hk
        exact ⟨List.mem_cons_self, hw⟩
      · cases hk
    · rw [if_neg hki] at hk
      refine ⟨List.mem_cons_of_mem _ (List.mem_filter.mpr ⟨(hm k v hk).1, ?_⟩), (hm k v hk).2⟩
      simp [cv_cat, Ne.symm hki]
  · have h0 : i ≠ 0 := by
      rcases hi with h | h
      · rw [h] at hb; cases hb
      · exact h
    refine List.mem_cons_of_mem _ (List.mem_filter.mpr ⟨hr b hb, ?_⟩)
    simp [Value.category, Ne.symm h0]
theorem ok_cons {n : Nat} {v : AV} {st : List AV} (h : okv n v) (hs : ∀ w ∈ st, okv n w) : ∀ w ∈ v :: st, okv n w := List.forall_mem_cons.mpr ⟨h, hs⟩
theorem ok_tail {n : Nat} {v : AV} {st : List AV} (hs : ∀ w ∈ v :: st, okv n w) : ∀ w ∈ st, okv n w := fun w h => hs w (List.mem_cons_of_mem _ h)
theorem ok_head {n : Nat} {v : AV} {st : List AV} (hs : ∀ w ∈ v :: st, okv n w) : okv n v := hs v List.mem_cons_self
theorem mem_good {w : Cond} (h : w ∈ gtbl) : (w.onTables && w.keeps) = true ∨ ∃ ty, w = .arrayClass ty := good_of_word (List.mem_filter.mp h).2
section LAYER
variable {rw_ : Option Nat} {TG : TGT} {μ : MI} {d mc ms n0 kc ks pc n t : Nat} {Q : PQ} {ls : List (Option AV)} {st : List AV} {sh : Shp} {I : IE} {F : FE}
theorem w_iload {k : Nat} {x : Int} (h : ILi μ.2.2.1 pc n k) (hl : ls[k]? = some (some (.inl x)))
    (K : (WG rw_ TG μ d mc ms n0 kc ks n ls (.inl x :: st) sh I F)) : (WG rw_ TG μ d mc ms n0 kc ks pc ls (st) sh I F) := by
  intro p l e s m args below meth c D cI cS A ad0 ad H locs lsc hC hK hA had hn0 hW hS hL hst
  obtain ⟨hv, ho⟩ := hL.get hl
  have hk := K p l e s m args below meth c D cI cS A ad0 ad H locs lsc hC hK hA had hn0 hW hS hL (ok_cons ho hst)
  rcases h with ⟨j, hd, hj, rfl⟩ | ⟨hd, rfl⟩
  · exact lv_iload_n hC.1 hC.2.1 hd hj hv hk
  · exact lv_iload hC.1 hC.2.1 hd hv hk
theorem w_aload {k : Nat} {x : Nat} (h : ILa μ.2.2.1 pc n k) (hl : ls[k]? = some (some (.inr (some x))))
    (K : (WG rw_ TG μ d mc ms n0 kc ks n ls (.inr (some x) :: st) sh I F)) : (WG rw_ TG μ d mc ms n0 kc ks pc ls (st) sh I F) := by
  intro p l e s m args below meth c D cI cS A ad0 ad H locs lsc hC hK hA had hn0 hW hS hL hst
  obtain ⟨hv, ho⟩ := hL.get hl
  have hk := K p l e s m args below meth c D cI cS A ad0 ad H locs lsc hC hK hA had hn0 hW hS hL (ok_cons ho hst)
  rcases h with ⟨j, hd, hj, rfl⟩ | ⟨hd, rfl⟩
  · exact lv_aload_n hC.1 hC.2.1 hd hj hv hk
  · exact lv_aload hC.1 hC.2.1 hd hv hk
theorem w_istore {k : Nat} {x : Int} (h : ISi μ.2.2.1 pc n k) (hk : k < ls.length) (h0 : rw_ = none ∨ k ≠ 0)
    (K : (WG rw_ TG μ d mc ms n0 kc ks n (ls.set k (some (.inl x))) (st) sh I F)) : (WG rw_ TG μ d mc ms n0 kc ks pc ls (.inl x :: st) sh I F) := by
  intro p l e s m args below meth c D cI cS A ad0 ad H locs lsc hC hK hA had hn0 hW hS hL hst
  obtain ⟨hl, lv, hv, hm, hr⟩ := hL
  have kk : ∀ ls' : Array Slot, lv_has ls' μ.2.2.2.1 ((k, Value.int (Int32.ofInt x)) :: lv.filter (fun q => !(q.1 == k) && !(q.1 + 1 == k && q.2.category == 2))) → W p l e (rmd d mc ms) s m args below meth c H locs kc ks (TG below args s A D cI cS ad0) (F0 m n ls' (st.map (cv ad))) := fun ls' h' => K p l e s m args below meth c D cI cS A ad0 ad H locs ls' hC hK hA had hn0 hW hS (Lcl.put hl hm hr h0 (ok_head hst) h') (ok_tail hst)
  rcases h with ⟨j, hd, hj, rfl⟩ | ⟨hd, rfl⟩
  · exact lv_istore_n hC.1 hC.2.1 hd hj hv (by omega) rfl kk
  · exact lv_istore hC.1 hC.2.1 hd hv (by omega) rfl kk
theorem w_astore {k x : Nat} (h : ISr μ.2.2.1 pc n k) (hk : k < ls.length) (h0 : rw_ = none ∨ k ≠ 0)
    (K : (WG rw_ TG μ d mc ms n0 kc ks n (ls.set k (some (.inr (some x)))) (st) sh I F)) : (WG rw_ TG μ d mc ms n0 kc ks pc ls (.inr (some x) :: st) sh I F) := by
  intro p l e s m args below meth c D cI cS A ad0 ad H locs lsc hC hK hA had hn0 hW hS hL hst
  obtain ⟨hl, lv, hv, hm, hr⟩ := hL
  have kk : ∀ ls' : Array Slot, lv_has ls' μ.2.2.2.1 ((k, Value.ref (ad x)) :: lv.filter (fun q => !(q.1 == k) && !(q.1 + 1 == k && q.2.category == 2))) → W p l e (rmd d mc ms) s m args below meth c H locs kc ks (TG below args s A D cI cS ad0) (F0 m n ls' (st.map (cv ad))) := fun ls' h' => K p l e s m args below meth c D cI cS A ad0 ad H locs ls' hC hK hA had hn0 hW hS (Lcl.put (w := .inr (some x)) hl hm hr h0 (ok_head hst) h') (ok_tail hst)
  rcases h with ⟨j, hd, hj, rfl⟩ | ⟨hd, rfl⟩
  · exact lv_astore_n hC.1 hC.2.1 hd hj hv (by omega) rfl kk
  · exact lv_astore hC.1 hC.2.1 hd hv (by omega) rfl kk
theorem w_iinc {k : Nat} {v x : Int} (h : II μ.2.2.1 pc n k v) (hx : ls[k]? = some (some (.inl x))) (hr : inR (x + v)) (h0 : rw_ = none ∨ k ≠ 0)
    (K : (WG rw_ TG μ d mc ms n0 kc ks n (ls.set k (some (.inl (x + v)))) (st) sh I F)) : (WG rw_ TG μ d mc ms n0 kc ks pc ls (st) sh I F) := by
  intro p l e s m args below meth c D cI cS A ad0 ad H locs lsc hC hK hA had hn0 hW hS hL hst
  obtain ⟨hd, hrv, rfl⟩ := h
  obtain ⟨hl, lv, hv, hm, hrr⟩ := hL
  obtain ⟨q, hq⟩ := List.getElem?_of_mem (hm k _ hx).1
  have hlt := (List.getElem?_eq_some_iff.mp hx).1
  refine lv_iinc (v := Int32.ofInt (x + v)) hC.1 hC.2.1 hd hv hq (by rw [Int32.ofInt_add]) (by omega) rfl (fun ls' h' => ?_)
  exact K p l e s m args below meth c D cI cS A ad0 ad H locs ls' hC hK hA had hn0 hW hS (Lcl.put hl hm hrr h0 (w := .inl (x + v)) hr h') hst
theorem w_const {v : Int} (h : IC μ.2.2.1 pc n v)
    (K : (WG rw_ TG μ d mc ms n0 kc ks n ls (.inl v :: st) sh I F)) : (WG rw_ TG μ d mc ms n0 kc ks pc ls (st) sh I F) := by
  intro p l e s m args below meth c D cI cS A ad0 ad H locs lsc hC hK hA had hn0 hW hS hL hst
  obtain ⟨hr, h⟩ := h
  have hk := K p l e s m args below meth c D cI cS A ad0 ad H locs lsc hC hK hA had hn0 hW hS hL (ok_cons (v := .inl v) hr hst)
  rcases h with ⟨hd, rfl⟩ | ⟨hd, hv, rfl⟩ | ⟨hd, hv, rfl⟩
  · exact lv_iconst hC.1 hC.2.1 hd rfl hk
  · exact lv_bipush hC.1 hC.2.1 hd hv hk
  · exact lv_sipush hC.1 hC.2.1 hd hv hk
theorem w_ldc {v : Int} (h : ILD μ pc n v)
    (K : (WG rw_ TG μ d mc ms n0 kc ks n ls (.inl v :: st) sh I F)) : (WG rw_ TG μ d mc ms n0 kc ks pc ls (st) sh I F) := by
  intro p l e s m args below meth c D cI cS A ad0 ad H locs lsc hC hK hA had hn0 hW hS hL hst
  obtain ⟨idx, hd, rfl, hr, hw⟩ := h
  exact lv_ldcw hC.1 hC.2.1 hC.2.2.2.2.1 (hC.2.2.2.2.2.1 _ hw) hd (K p l e s m args below meth c D cI cS A ad0 ad H locs lsc hC hK hA had hn0 hW hS hL (ok_cons (v := .inl v) hr hst))
theorem w_ldc1 {v : Int} (h : IL2 μ pc n v)
    (K : (WG rw_ TG μ d mc ms n0 kc ks n ls (.inl v :: st) sh I F)) : (WG rw_ TG μ d mc ms n0 kc ks pc ls (st) sh I F) := by
  intro p l e s m args below meth c D cI cS A ad0 ad H locs lsc hC hK hA had hn0 hW hS hL hst
  obtain ⟨idx, hd, rfl, hr, hw⟩ := h
  exact lv_ldc hC.1 hC.2.1 hC.2.2.2.2.1 (hC.2.2.2.2.2.1 _ hw) hd (K p l e s m args below meth c D cI cS A ad0 ad H locs lsc hC hK hA had hn0 hW hS hL (ok_cons (v := .inl v) hr hst))
theorem w_dup {v : AV} (h : IO μ.2.2.1 pc n .dup)
    (K : (WG rw_ TG μ d mc ms n0 kc ks n ls (v :: v :: st) sh I F)) : (WG rw_ TG μ d mc ms n0 kc ks pc ls (v :: st) sh I F) := by
  intro p l e s m args below meth c D cI cS A ad0 ad H locs lsc hC hK hA had hn0 hW hS hL hst
  obtain ⟨hd, rfl⟩ := h
  exact lv_dup hC.1 hC.2.1 hd (cv_cat ad v) (K p l e s m args below meth c D cI cS A ad0 ad H locs lsc hC hK hA had hn0 hW hS hL (ok_cons (ok_head hst) hst))
theorem w_dup2 {v w : AV} (h : IO μ.2.2.1 pc n .dup2)
    (K : (WG rw_ TG μ d mc ms n0 kc ks n ls (v :: w :: v :: w :: st) sh I F)) : (WG rw_ TG μ d mc ms n0 kc ks pc ls (v :: w :: st) sh I F) := by
  intro p l e s m args below meth c D cI cS A ad0 ad H locs lsc hC hK hA had hn0 hW hS hL hst
  obtain ⟨hd, rfl⟩ := h
  exact lv_dup2_11 hC.1 hC.2.1 hd (cv_cat ad v) (cv_cat ad w) (K p l e s m args below meth c D cI cS A ad0 ad H locs lsc hC hK hA had hn0 hW hS hL (ok_cons (ok_head hst) (ok_cons (ok_head (ok_tail hst)) hst)))
theorem w_iadd {x y : Int} (h : IO μ.2.2.1 pc n .iadd) (hr : inR (x + y))
    (K : (WG rw_ TG μ d mc ms n0 kc ks n ls (.inl (x + y) :: st) sh I F)) : (WG rw_ TG μ d mc ms n0 kc ks pc ls (.inl y :: .inl x :: st) sh I F) := by
  intro p l e s m args below meth c D cI cS A ad0 ad H locs lsc hC hK hA had hn0 hW hS hL hst
  obtain ⟨hd, rfl⟩ := h
  have hk := K p l e s m args below meth c D cI cS A ad0 ad H locs lsc hC hK hA had hn0 hW hS hL (ok_cons (v := .inl (x + y)) hr (ok_tail (ok_tail hst)))
  simp only [List.map_cons, cv, Int32.ofInt_add] at hk
  exact lv_iadd hC.1 hC.2.1 hd hk
theorem w_isub {x y : Int} (h : IO μ.2.2.1 pc n .isub) (hr : inR (x - y))
    (K : (WG rw_ TG μ d mc ms n0 kc ks n ls (.inl (x - y) :: st) sh I F)) : (WG rw_ TG μ d mc ms n0 kc ks pc ls (.inl y :: .inl x :: st) sh I F) := by
  intro p l e s m args below meth c D cI cS A ad0 ad H locs lsc hC hK hA had hn0 hW hS hL hst
  obtain ⟨hd, rfl⟩ := h
  have hk := K p l e s m args below meth c D cI cS A ad0 ad H locs lsc hC hK hA had hn0 hW hS hL (ok_cons (v := .inl (x - y)) hr (ok_tail (ok_tail hst)))
  simp only [List.map_cons, cv, Int32.ofInt_sub] at hk
  exact lv_isub hC.1 hC.2.1 hd hk
theorem w_imul {x y : Int} (h : IO μ.2.2.1 pc n .imul) (hr : inR (x * y))
    (K : (WG rw_ TG μ d mc ms n0 kc ks n ls (.inl (x * y) :: st) sh I F)) : (WG rw_ TG μ d mc ms n0 kc ks pc ls (.inl y :: .inl x :: st) sh I F) := by
  intro p l e s m args below meth c D cI cS A ad0 ad H locs lsc hC hK hA had hn0 hW hS hL hst
  obtain ⟨hd, rfl⟩ := h
  have hk := K p l e s m args below meth c D cI cS A ad0 ad H locs lsc hC hK hA had hn0 hW hS hL (ok_cons (v := .inl (x * y)) hr (ok_tail (ok_tail hst)))
  simp only [List.map_cons, cv, Int32.ofInt_mul] at hk
  exact lv_imul hC.1 hC.2.1 hd hk
theorem w_idiv {x y : Int} (h : IO μ.2.2.1 pc n .idiv) (hy : y ≠ 0) (hr : inR (x.tdiv y))
    (K : (WG rw_ TG μ d mc ms n0 kc ks n ls (.inl (x.tdiv y) :: st) sh I F)) : (WG rw_ TG μ d mc ms n0 kc ks pc ls (.inl y :: .inl x :: st) sh I F) := by
  intro p l e s m args below meth c D cI cS A ad0 ad H locs lsc hC hK hA had hn0 hW hS hL hst
  obtain ⟨hd, rfl⟩ := h
  have h1 : inR y := ok_head hst
  have h2 : inR x := ok_head (ok_tail hst)
  have hk := K p l e s m args below meth c D cI cS A ad0 ad H locs lsc hC hK hA had hn0 hW hS hL (ok_cons (v := .inl (x.tdiv y)) hr (ok_tail (ok_tail hst)))
  have m1 : Int32.minValue.toInt = -2147483648 := by decide
  have m2 : Int32.maxValue.toInt = 2147483647 := by decide
  have he0 : Int32.ofInt (x.tdiv y) = Int32.ofInt x / Int32.ofInt y := Int32.ofInt_tdiv (by rw [m1]; exact h2.1) (by rw [m2]; exact h2.2) (by rw [m1]; exact h1.1) (by rw [m2]; exact h1.2)
  have he : Int32.ofInt (x.tdiv y) = Int32.ofInt x / Int32.ofInt y := he0
  simp only [List.map_cons, cv, he] at hk
  exact lv_idiv hC.1 hC.2.1 hd (by rw [← oi_0, oi_eq h1 inR0]; exact hy) hk
theorem w_irem {x y : Int} (h : IO μ.2.2.1 pc n .irem) (hy : y ≠ 0) (hr : inR (x.tmod y))
    (K : (WG rw_ TG μ d mc ms n0 kc ks n ls (.inl (x.tmod y) :: st) sh I F)) : (WG rw_ TG μ d mc ms n0 kc ks pc ls (.inl y :: .inl x :: st) sh I F) := by
  intro p l e s m args below meth c D cI cS A ad0 ad H locs lsc hC hK hA had hn0 hW hS hL hst
  obtain ⟨hd, rfl⟩ := h
  have h1 : inR y := ok_head hst
  have h2 : inR x := ok_head (ok_tail hst)
  have hk := K p l e s m args below meth c D cI cS A ad0 ad H locs lsc hC hK hA had hn0 hW hS hL (ok_cons (v := .inl (x.tmod y)) hr (ok_tail (ok_tail hst)))
  have m1 : Int32.minValue.toInt = -2147483648 := by decide
  have m2 : Int32.maxValue.toInt = 2147483647 := by decide
  have he0 : Int32.ofInt (x.tdiv y) = Int32.ofInt x / Int32.ofInt y := Int32.ofInt_tdiv (by rw [m1]; exact h2.1) (by rw [m2]; exact h2.2) (by rw [m1]; exact h1.1) (by rw [m2]; exact h1.2)
  have he : Int32.ofInt (x.tmod y) = Int32.ofInt x - Int32.ofInt x / Int32.ofInt y * Int32.ofInt y := by rw [Int.tmod_def, Int32.ofInt_sub, Int32.ofInt_mul, he0, Int32.mul_comm]
  simp only [List.map_cons, cv, he] at hk
  exact lv_irem hC.1 hC.2.1 hd (by rw [← oi_0, oi_eq h1 inR0]; exact hy) hk
theorem w_ineg {x : Int} (h : IO μ.2.2.1 pc n .ineg) (hr : inR (-x))
    (K : (WG rw_ TG μ d mc ms n0 kc ks n ls (.inl (-x) :: st) sh I F)) : (WG rw_ TG μ d mc ms n0 kc ks pc ls (.inl x :: st) sh I F) := by
  intro p l e s m args below meth c D cI cS A ad0 ad H locs lsc hC hK hA had hn0 hW hS hL hst
  obtain ⟨hd, rfl⟩ := h
  have hk := K p l e s m args below meth c D cI cS A ad0 ad H locs lsc hC hK hA had hn0 hW hS hL (ok_cons (v := .inl (-x)) hr (ok_tail hst))
  simp only [List.map_cons, cv, Int32.ofInt_neg] at hk
  exact lv_ineg hC.1 hC.2.1 hd (by first | exact hk | (rw [Int32.zero_sub]; exact hk) | simpa using hk)
theorem w_iand {x y : Int} (h : IO μ.2.2.1 pc n .iand)
    (K : (WG rw_ TG μ d mc ms n0 kc ks n ls (.inl (bandI x y) :: st) sh I F)) : (WG rw_ TG μ d mc ms n0 kc ks pc ls (.inl y :: .inl x :: st) sh I F) := by
  intro p l e s m args below meth c D cI cS A ad0 ad H locs lsc hC hK hA had hn0 hW hS hL hst
  obtain ⟨hd, rfl⟩ := h
  have hk := K p l e s m args below meth c D cI cS A ad0 ad H locs lsc hC hK hA had hn0 hW hS hL (ok_cons (v := .inl (bandI x y)) (ti_R _) (ok_tail (ok_tail hst)))
  simp only [List.map_cons, cv, bandI, Int32.ofInt_toInt] at hk
  exact lv_iand hC.1 hC.2.1 hd hk
theorem w_ior {x y : Int} (h : IO μ.2.2.1 pc n .ior)
    (K : (WG rw_ TG μ d mc ms n0 kc ks n ls (.inl (borI x y) :: st) sh I F)) : (WG rw_ TG μ d mc ms n0 kc ks pc ls (.inl y :: .inl x :: st) sh I F) := by
  intro p l e s m args below meth c D cI cS A ad0 ad H locs lsc hC hK hA had hn0 hW hS hL hst
  obtain ⟨hd, rfl⟩ := h
  have hk := K p l e s m args below meth c D cI cS A ad0 ad H locs lsc hC hK hA had hn0 hW hS hL (ok_cons (v := .inl (borI x y)) (ti_R _) (ok_tail (ok_tail hst)))
  simp only [List.map_cons, cv, borI, Int32.ofInt_toInt] at hk
  exact lv_ior hC.1 hC.2.1 hd hk
theorem w_ixor {x y : Int} (h : IO μ.2.2.1 pc n .ixor)
    (K : (WG rw_ TG μ d mc ms n0 kc ks n ls (.inl (bxorI x y) :: st) sh I F)) : (WG rw_ TG μ d mc ms n0 kc ks pc ls (.inl y :: .inl x :: st) sh I F) := by
  intro p l e s m args below meth c D cI cS A ad0 ad H locs lsc hC hK hA had hn0 hW hS hL hst
  obtain ⟨hd, rfl⟩ := h
  have hk := K p l e s m args below meth c D cI cS A ad0 ad H locs lsc hC hK hA had hn0 hW hS hL (ok_cons (v := .inl (bxorI x y)) (ti_R _) (ok_tail (ok_tail hst)))
  simp only [List.map_cons, cv, bxorI, Int32.ofInt_toInt] at hk
  exact lv_ixor hC.1 hC.2.1 hd hk
theorem w_ishl {x y : Int} (h : IO μ.2.2.1 pc n .ishl)
    (K : (WG rw_ TG μ d mc ms n0 kc ks n ls (.inl (shlI x y) :: st) sh I F)) : (WG rw_ TG μ d mc ms n0 kc ks pc ls (.inl y :: .inl x :: st) sh I F) := by
  intro p l e s m args below meth c D cI cS A ad0 ad H locs lsc hC hK hA had hn0 hW hS hL hst
  obtain ⟨hd, rfl⟩ := h
  have hk := K p l e s m args below meth c D cI cS A ad0 ad H locs lsc hC hK hA had hn0 hW hS hL (ok_cons (v := .inl (shlI x y)) (ti_R _) (ok_tail (ok_tail hst)))
  simp only [List.map_cons, cv, shlI, Int32.ofInt_toInt] at hk
  exact lv_ishl hC.1 hC.2.1 hd hk
theorem w_ishr {x y : Int} (h : IO μ.2.2.1 pc n .ishr)
    (K : (WG rw_ TG μ d mc ms n0 kc ks n ls (.inl (shrI x y) :: st) sh I F)) : (WG rw_ TG μ d mc ms n0 kc ks pc ls (.inl y :: .inl x :: st) sh I F) := by
  intro p l e s m args below meth c D cI cS A ad0 ad H locs lsc hC hK hA had hn0 hW hS hL hst
  obtain ⟨hd, rfl⟩ := h
  have hk := K p l e s m args below meth c D cI cS A ad0 ad H locs lsc hC hK hA had hn0 hW hS hL (ok_cons (v := .inl (shrI x y)) (ti_R _) (ok_tail (ok_tail hst)))
  simp only [List.map_cons, cv, shrI, Int32.ofInt_toInt] at hk
  exact lv_ishr hC.1 hC.2.1 hd hk
theorem w_iushr {x y : Int} (h : IO μ.2.2.1 pc n .iushr)
    (K : (WG rw_ TG μ d mc ms n0 kc ks n ls (.inl (ushrI x y) :: st) sh I F)) : (WG rw_ TG μ d mc ms n0 kc ks pc ls (.inl y :: .inl x :: st) sh I F) := by
  intro p l e s m args below meth c D cI cS A ad0 ad H locs lsc hC hK hA had hn0 hW hS hL hst
  obtain ⟨hd, rfl⟩ := h
  have hk := K p l e s m args below meth c D cI cS A ad0 ad H locs lsc hC hK hA had hn0 hW hS hL (ok_cons (v := .inl (ushrI x y)) (ti_R _) (ok_tail (ok_tail hst)))
  simp only [List.map_cons, cv, ushrI, Int32.ofInt_toInt] at hk
  exact lv_iushr hC.1 hC.2.1 hd rfl hk
theorem w_ifeq {x : Int} (h : IJ μ.2.2.1 pc n t (.ifCond .eq))
    (kt : x = 0 → (WG rw_ TG μ d mc ms n0 kc ks t ls (st) sh I F)) (kf : ¬ x = 0 → (WG rw_ TG μ d mc ms n0 kc ks n ls (st) sh I F)) : (WG rw_ TG μ d mc ms n0 kc ks pc ls (.inl x :: st) sh I F) := by
  intro p l e s m args below meth c D cI cS A ad0 ad H locs lsc hC hK hA had hn0 hW hS hL hst
  obtain ⟨off, hd, rfl, ht⟩ := h
  have hx : inR x := ok_head hst
  have hy : inR 0 := inR0
  have hs := ok_tail hst
  have hi : (Int32.ofInt x = (0 : Int32)) ↔ (x = 0) := by rw [← oi_0]; exact oi_eq hx hy
  refine lv_if_eq hC.1 hC.2.1 hd ht (fun hc => ?_) (fun hc => ?_)
  · exact kt (hi.mp hc) p l e s m args below meth c D cI cS A ad0 ad H locs lsc hC hK hA had hn0 hW hS hL hs
  · exact kf (fun z => hc (hi.mpr z)) p l e s m args below meth c D cI cS A ad0 ad H locs lsc hC hK hA had hn0 hW hS hL hs
theorem w_icmpeq {x y : Int} (h : IJ μ.2.2.1 pc n t (.if_icmp .eq))
    (kt : x = y → (WG rw_ TG μ d mc ms n0 kc ks t ls (st) sh I F)) (kf : ¬ x = y → (WG rw_ TG μ d mc ms n0 kc ks n ls (st) sh I F)) : (WG rw_ TG μ d mc ms n0 kc ks pc ls (.inl y :: .inl x :: st) sh I F) := by
  intro p l e s m args below meth c D cI cS A ad0 ad H locs lsc hC hK hA had hn0 hW hS hL hst
  obtain ⟨off, hd, rfl, ht⟩ := h
  have hx : inR x := ok_head (ok_tail hst)
  have hy : inR y := ok_head hst
  have hs := ok_tail (ok_tail hst)
  have hi : (Int32.ofInt x = Int32.ofInt y) ↔ (x = y) := oi_eq hx hy
  refine lv_icmp_eq hC.1 hC.2.1 hd ht (fun hc => ?_) (fun hc => ?_)
  · exact kt (hi.mp hc) p l e s m args below meth c D cI cS A ad0 ad H locs lsc hC hK hA had hn0 hW hS hL hs
  · exact kf (fun z => hc (hi.mpr z)) p l e s m args below meth c D cI cS A ad0 ad H locs lsc hC hK hA had hn0 hW hS hL hs
theorem w_ifne {x : Int} (h : IJ μ.2.2.1 pc n t (.ifCond .ne))
    (kt : ¬ x = 0 → (WG rw_ TG μ d mc ms n0 kc ks t ls (st) sh I F)) (kf : x = 0 → (WG rw_ TG μ d mc ms n0 kc ks n ls (st) sh I F)) : (WG rw_ TG μ d mc ms n0 kc ks pc ls (.inl x :: st) sh I F) := by
  intro p l e s m args below meth c D cI cS A ad0 ad H locs lsc hC hK hA had hn0 hW hS hL hst
  obtain ⟨off, hd, rfl, ht⟩ := h
  have hx : inR x := ok_head hst
  have hy : inR 0 := inR0
  have hs := ok_tail hst
  have hi : (Int32.ofInt x = (0 : Int32)) ↔ (x = 0) := by rw [← oi_0]; exact oi_eq hx hy
  refine lv_if_ne hC.1 hC.2.1 hd ht (fun hc => ?_) (fun hc => ?_)
  · exact kt (fun z => hc (hi.mpr z)) p l e s m args below meth c D cI cS A ad0 ad H locs lsc hC hK hA had hn0 hW hS hL hs
  · exact kf (hi.mp hc) p l e s m args below meth c D cI cS A ad0 ad H locs lsc hC hK hA had hn0 hW hS hL hs
theorem w_icmpne {x y : Int} (h : IJ μ.2.2.1 pc n t (.if_icmp .ne))
    (kt : ¬ x = y → (WG rw_ TG μ d mc ms n0 kc ks t ls (st) sh I F)) (kf : x = y → (WG rw_ TG μ d mc ms n0 kc ks n ls (st) sh I F)) : (WG rw_ TG μ d mc ms n0 kc ks pc ls (.inl y :: .inl x :: st) sh I F) := by
  intro p l e s m args below meth c D cI cS A ad0 ad H locs lsc hC hK hA had hn0 hW hS hL hst
  obtain ⟨off, hd, rfl, ht⟩ := h
  have hx : inR x := ok_head (ok_tail hst)
  have hy : inR y := ok_head hst
  have hs := ok_tail (ok_tail hst)
  have hi : (Int32.ofInt x = Int32.ofInt y) ↔ (x = y) := oi_eq hx hy
  refine lv_icmp_ne hC.1 hC.2.1 hd ht (fun hc => ?_) (fun hc => ?_)
  · exact kt (fun z => hc (hi.mpr z)) p l e s m args below meth c D cI cS A ad0 ad H locs lsc hC hK hA had hn0 hW hS hL hs
  · exact kf (hi.mp hc) p l e s m args below meth c D cI cS A ad0 ad H locs lsc hC hK hA had hn0 hW hS hL hs
theorem w_iflt {x : Int} (h : IJ μ.2.2.1 pc n t (.ifCond .lt))
    (kt : x < 0 → (WG rw_ TG μ d mc ms n0 kc ks t ls (st) sh I F)) (kf : 0 ≤ x → (WG rw_ TG μ d mc ms n0 kc ks n ls (st) sh I F)) : (WG rw_ TG μ d mc ms n0 kc ks pc ls (.inl x :: st) sh I F) := by
  intro p l e s m args below meth c D cI cS A ad0 ad H locs lsc hC hK hA had hn0 hW hS hL hst
  obtain ⟨off, hd, rfl, ht⟩ := h
  have hx : inR x := ok_head hst
  have hy : inR 0 := inR0
  have hs := ok_tail hst
  have hi : (Int32.ofInt x < (0 : Int32)) ↔ (x < 0) := by rw [← oi_0]; exact oi_lt hx hy
  refine lv_if_lt hC.1 hC.2.1 hd ht (fun hc => ?_) (fun hc => ?_)
  · exact kt (hi.mp hc) p l e s m args below meth c D cI cS A ad0 ad H locs lsc hC hK hA had hn0 hW hS hL hs
  · exact kf (by have := mt hi.mpr hc; omega) p l e s m args below meth c D cI cS A ad0 ad H locs lsc hC hK hA had hn0 hW hS hL hs
theorem w_icmplt {x y : Int} (h : IJ μ.2.2.1 pc n t (.if_icmp .lt))
    (kt : x < y → (WG rw_ TG μ d mc ms n0 kc ks t ls (st) sh I F)) (kf : y ≤ x → (WG rw_ TG μ d mc ms n0 kc ks n ls (st) sh I F)) : (WG rw_ TG μ d mc ms n0 kc ks pc ls (.inl y :: .inl x :: st) sh I F) := by
  intro p l e s m args below meth c D cI cS A ad0 ad H locs lsc hC hK hA had hn0 hW hS hL hst
  obtain ⟨off, hd, rfl, ht⟩ := h
  have hx : inR x := ok_head (ok_tail hst)
  have hy : inR y := ok_head hst
  have hs := ok_tail (ok_tail hst)
  have hi : (Int32.ofInt x < Int32.ofInt y) ↔ (x < y) := oi_lt hx hy
  refine lv_icmp_lt hC.1 hC.2.1 hd ht (fun hc => ?_) (fun hc => ?_)
  · exact kt (hi.mp hc) p l e s m args below meth c D cI cS A ad0 ad H locs lsc hC hK hA had hn0 hW hS hL hs
  · exact kf (by have := mt hi.mpr hc; omega) p l e s m args below meth c D cI cS A ad0 ad H locs lsc hC hK hA had hn0 hW hS hL hs
theorem w_ifge {x : Int} (h : IJ μ.2.2.1 pc n t (.ifCond .ge))
    (kt : 0 ≤ x → (WG rw_ TG μ d mc ms n0 kc ks t ls (st) sh I F)) (kf : x < 0 → (WG rw_ TG μ d mc ms n0 kc ks n ls (st) sh I F)) : (WG rw_ TG μ d mc ms n0 kc ks pc ls (.inl x :: st) sh I F) := by
  intro p l e s m args below meth c D cI cS A ad0 ad H locs lsc hC hK hA had hn0 hW hS hL hst
  obtain ⟨off, hd, rfl, ht⟩ := h
  have hx : inR x := ok_head hst
  have hy : inR 0 := inR0
  have hs := ok_tail hst
  have hi : ((0 : Int32) ≤ Int32.ofInt x) ↔ (0 ≤ x) := by rw [← oi_0]; exact oi_le hy hx
  refine lv_if_ge hC.1 hC.2.1 hd ht (fun hc => ?_) (fun hc => ?_)
  · exact kt (hi.mp hc) p l e s m args below meth c D cI cS A ad0 ad H locs lsc hC hK hA had hn0 hW hS hL hs
  · exact kf (by have := mt hi.mpr hc; omega) p l e s m args below meth c D cI cS A ad0 ad H locs lsc hC hK hA had hn0 hW hS hL hs
theorem w_icmpge {x y : Int} (h : IJ μ.2.2.1 pc n t (.if_icmp .ge))
    (kt : y ≤ x → (WG rw_ TG μ d mc ms n0 kc ks t ls (st) sh I F)) (kf : x < y → (WG rw_ TG μ d mc ms n0 kc ks n ls (st) sh I F)) : (WG rw_ TG μ d mc ms n0 kc ks pc ls (.inl y :: .inl x :: st) sh I F) := by
  intro p l e s m args below meth c D cI cS A ad0 ad H locs lsc hC hK hA had hn0 hW hS hL hst
  obtain ⟨off, hd, rfl, ht⟩ := h
  have hx : inR x := ok_head (ok_tail hst)
  have hy : inR y := ok_head hst
  have hs := ok_tail (ok_tail hst)
  have hi : (Int32.ofInt y ≤ Int32.ofInt x) ↔ (y ≤ x) := oi_le hy hx
  refine lv_icmp_ge hC.1 hC.2.1 hd ht (fun hc => ?_) (fun hc => ?_)
  · exact kt (hi.mp hc) p l e s m args below meth c D cI cS A ad0 ad H locs lsc hC hK hA had hn0 hW hS hL hs
  · exact kf (by have := mt hi.mpr hc; omega) p l e s m args below meth c D cI cS A ad0 ad H locs lsc hC hK hA had hn0 hW hS hL hs
theorem w_ifgt {x : Int} (h : IJ μ.2.2.1 pc n t (.ifCond .gt))
    (kt : 0 < x → (WG rw_ TG μ d mc ms n0 kc ks t ls (st) sh I F)) (kf : x ≤ 0 → (WG rw_ TG μ d mc ms n0 kc ks n ls (st) sh I F)) : (WG rw_ TG μ d mc ms n0 kc ks pc ls (.inl x :: st) sh I F) := by
  intro p l e s m args below meth c D cI cS A ad0 ad H locs lsc hC hK hA had hn0 hW hS hL hst
  obtain ⟨off, hd, rfl, ht⟩ := h
  have hx : inR x := ok_head hst
  have hy : inR 0 := inR0
  have hs := ok_tail hst
  have hi : ((0 : Int32) < Int32.ofInt x) ↔ (0 < x) := by rw [← oi_0]; exact oi_lt hy hx
  refine lv_if_gt hC.1 hC.2.1 hd ht (fun hc => ?_) (fun hc => ?_)
  · exact kt (hi.mp hc) p l e s m args below meth c D cI cS A ad0 ad H locs lsc hC hK hA had hn0 hW hS hL hs
  · exact kf (by have := mt hi.mpr hc; omega) p l e s m args below meth c D cI cS A ad0 ad H locs lsc hC hK hA had hn0 hW hS hL hs
theorem w_icmpgt {x y : Int} (h : IJ μ.2.2.1 pc n t (.if_icmp .gt))
    (kt : y < x → (WG rw_ TG μ d mc ms n0 kc ks t ls (st) sh I F)) (kf : x ≤ y → (WG rw_ TG μ d mc ms n0 kc ks n ls (st) sh I F)) : (WG rw_ TG μ d mc ms n0 kc ks pc ls (.inl y :: .inl x :: st) sh I F) := by
  intro p l e s m args below meth c D cI cS A ad0 ad H locs lsc hC hK hA had hn0 hW hS hL hst
  obtain ⟨off, hd, rfl, ht⟩ := h
  have hx : inR x := ok_head (ok_tail hst)
  have hy : inR y := ok_head hst
  have hs := ok_tail (ok_tail hst)
  have hi : (Int32.ofInt y < Int32.ofInt x) ↔ (y < x) := oi_lt hy hx
  refine lv_icmp_gt hC.1 hC.2.1 hd ht (fun hc => ?_) (fun hc => ?_)
  · exact kt (hi.mp hc) p l e s m args below meth c D cI cS A ad0 ad H locs lsc hC hK hA had hn0 hW hS hL hs
  · exact kf (by have := mt hi.mpr hc; omega) p l e s m args below meth c D cI cS A ad0 ad H locs lsc hC hK hA had hn0 hW hS hL hs
theorem w_ifle {x : Int} (h : IJ μ.2.2.1 pc n t (.ifCond .le))
    (kt : x ≤ 0 → (WG rw_ TG μ d mc ms n0 kc ks t ls (st) sh I F)) (kf : 0 < x → (WG rw_ TG μ d mc ms n0 kc ks n ls (st) sh I F)) : (WG rw_ TG μ d mc ms n0 kc ks pc ls (.inl x :: st) sh I F) := by
  intro p l e s m args below meth c D cI cS A ad0 ad H locs lsc hC hK hA had hn0 hW hS hL hst
  obtain ⟨off, hd, rfl, ht⟩ := h
  have hx : inR x := ok_head hst
  have hy : inR 0 := inR0
  have hs := ok_tail hst
  have hi : (Int32.ofInt x ≤ (0 : Int32)) ↔ (x ≤ 0) := by rw [← oi_0]; exact oi_le hx hy
  refine lv_if_le hC.1 hC.2.1 hd ht (fun hc => ?_) (fun hc => ?_)
  · exact kt (hi.mp hc) p l e s m args below meth c D cI cS A ad0 ad H locs lsc hC hK hA had hn0 hW hS hL hs
  · exact kf (by have := mt hi.mpr hc; omega) p l e s m args below meth c D cI cS A ad0 ad H locs lsc hC hK hA had hn0 hW hS hL hs
theorem w_icmple {x y : Int} (h : IJ μ.2.2.1 pc n t (.if_icmp .le))
    (kt : x ≤ y → (WG rw_ TG μ d mc ms n0 kc ks t ls (st) sh I F)) (kf : y < x → (WG rw_ TG μ d mc ms n0 kc ks n ls (st) sh I F)) : (WG rw_ TG μ d mc ms n0 kc ks pc ls (.inl y :: .inl x :: st) sh I F) := by
  intro p l e s m args below meth c D cI cS A ad0 ad H locs lsc hC hK hA had hn0 hW hS hL hst
  obtain ⟨off, hd, rfl, ht⟩ := h
  have hx : inR x := ok_head (ok_tail hst)
  have hy : inR y := ok_head hst
  have hs := ok_tail (ok_tail hst)
  have hi : (Int32.ofInt x ≤ Int32.ofInt y) ↔ (x ≤ y) := oi_le hx hy
  refine lv_icmp_le hC.1 hC.2.1 hd ht (fun hc => ?_) (fun hc => ?_)
  · exact kt (hi.mp hc) p l e s m args below meth c D cI cS A ad0 ad H locs lsc hC hK hA had hn0 hW hS hL hs
  · exact kf (by have := mt hi.mpr hc; omega) p l e s m args below meth c D cI cS A ad0 ad H locs lsc hC hK hA had hn0 hW hS hL hs
theorem w_goto (h : IJ μ.2.2.1 pc n t .goto)
    (K : (WG rw_ TG μ d mc ms n0 kc ks t ls (st) sh I F)) : (WG rw_ TG μ d mc ms n0 kc ks pc ls (st) sh I F) := by
  intro p l e s m args below meth c D cI cS A ad0 ad H locs lsc hC hK hA had hn0 hW hS hL hst
  obtain ⟨off, hd, rfl, ht⟩ := h
  exact lv_goto hC.1 hC.2.1 hd ht (K p l e s m args below meth c D cI cS A ad0 ad H locs lsc hC hK hA had hn0 hW hS hL hst)
theorem w_get {a ci k : Nat} {sl : List (Option (Option Nat))} (h : IGF μ pc n ci k) (hs : sh[a]? = some (.inr (ci, sl))) (hv : sl[k]? = some none)
    (K : (WG rw_ TG μ d mc ms n0 kc ks n ls (.inl (I a k) :: st) sh I F)) : (WG rw_ TG μ d mc ms n0 kc ks pc ls (.inr (some a) :: st) sh I F) := by
  intro p l e s m args below meth c D cI cS A ad0 ad H locs lsc hC hK hA had hn0 hW hS hL hst
  obtain ⟨idx, hd, rfl, hci, hk, hw⟩ := h
  have he := cw_at (cI := cI) (cS := cS) (ad := ad) (I := I) (F := F) hs
  rw [cel_obj hci] at he
  have hv' : (sl.mapIdx (fun k s => sv ad (I a k) s))[k]? = some (.int (Int32.ofInt (I a k))) := by rw [List.getElem?_mapIdx, hv]; rfl
  exact va_get (D := D) hC.1 hC.2.1 hC.2.2.2.2.2.1 (in_ok ci hci) hC.2.2.2.2.1 hK.1 hW.1 a he (cl_ok ci hci) k hk (hC.2.2.2.2.2.1 _ hw) (fun _ h9 => h9) hv' hd (K p l e s m args below meth c D cI cS A ad0 ad H locs lsc hC hK hA had hn0 hW hS hL (ok_cons (v := .inl (I a k)) (hW.2.2.2.1 a k) (ok_tail hst)))
theorem w_getr {a ci k : Nat} {sl : List (Option (Option Nat))} {r : Nat} (h : IGF μ pc n ci k) (hs : sh[a]? = some (.inr (ci, sl))) (hv : sl[k]? = some (some (some r)))
    (K : (WG rw_ TG μ d mc ms n0 kc ks n ls (.inr (some r) :: st) sh I F)) : (WG rw_ TG μ d mc ms n0 kc ks pc ls (.inr (some a) :: st) sh I F) := by
  intro p l e s m args below meth c D cI cS A ad0 ad H locs lsc hC hK hA had hn0 hW hS hL hst
  obtain ⟨idx, hd, rfl, hci, hk, hw⟩ := h
  have he := cw_at (cI := cI) (cS := cS) (ad := ad) (I := I) (F := F) hs
  rw [cel_obj hci] at he
  have hv' : (sl.mapIdx (fun k s => sv ad (I a k) s))[k]? = some (.ref (ad r)) := by rw [List.getElem?_mapIdx, hv]; rfl
  exact va_get (D := D) hC.1 hC.2.1 hC.2.2.2.2.2.1 (in_ok ci hci) hC.2.2.2.2.1 hK.1 hW.1 a he (cl_ok ci hci) k hk (hC.2.2.2.2.2.1 _ hw) (fun _ h9 => h9) hv' hd (K p l e s m args below meth c D cI cS A ad0 ad H locs lsc hC hK hA had hn0 hW hS hL (ok_cons (v := .inr (some r)) ((hW.2.2.1 a ci sl hs).2 k r hv) (ok_tail hst)))
theorem w_put {a ci k : Nat} {sl : List (Option (Option Nat))} {x : Int} (h : IPF μ pc n ci k) (hs : sh[a]? = some (.inr (ci, sl))) (hv : sl[k]? = some none) (hty : YY ci k = .int ∨ YY ci k = .boolean ∧ (x = 0 ∨ x = 1))
    (K : (WG rw_ TG μ d mc ms n0 kc ks n ls (st) sh (upI I a k x) F)) : (WG rw_ TG μ d mc ms n0 kc ks pc ls (.inl x :: .inr (some a) :: st) sh I F) := by
  intro p l e s m args below meth c D cI cS A ad0 ad H locs lsc hC hK hA had hn0 hW hS hL hst
  obtain ⟨idx, hd, rfl, hci, hk, hw, hfin⟩ := h
  have he := cw_at (cI := cI) (cS := cS) (ad := ad) (I := I) (F := F) hs
  rw [cel_obj hci] at he
  have hx : inR x := ok_head hst
  have hkl := (List.getElem?_eq_some_iff.mp hv).1
  have hnar : narrow (YY ci k) (.int (Int32.ofInt x)) = .int (Int32.ofInt x) := by
    rcases hty with h1 | ⟨h1, rfl | rfl⟩
    · rw [h1]; rfl
    · rw [h1]; rfl
    · rw [h1]; rfl
  have hfit : fits (YY ci k) (.int (Int32.ofInt x)) = true := by
    rcases hty with h1 | ⟨h1, rfl | rfl⟩
    · rw [h1]; rfl
    · rw [h1]; rfl
    · rw [h1]; rfl
  have hset : (cw cI cS ad sh I F).set a (ad a, .inr (ci, (sl.mapIdx (fun k s => sv ad (I a k) s)).set k (cv ad (.inl x)))) = cw cI cS ad sh (upI I a k x) F := by
    refine cw_set rfl hs ?_ (fun q hq => ⟨rfl, fun c' _ => ?_⟩)
    · rw [cel_obj hci]
      congr 2
      apply List.ext_getElem?
      intro j
      rw [List.getElem?_set, List.getElem?_mapIdx, List.getElem?_mapIdx]
      by_cases hj : k = j
      · subst hj
        rw [if_pos rfl, if_pos (by simpa using hkl), hv]
        simp [sv, upI, cv]
      · rw [if_neg hj]
        have : ∀ s, sv ad (upI I a k x a j) s = sv ad (I a j) s := fun s => by simp [upI, Ne.symm hj]
        cases sl[j]? <;> simp [this]
    · rcases c' with n' | ⟨cj, sj⟩
      · rfl
      · simp only [cel]
        have : ∀ j s, sv ad (upI I a k x q j) s = sv ad (I q j) s := fun j s => by simp [upI, hq]
        simp only [this]
  refine va_put (D := D) hC.1 hC.2.1 hC.2.2.2.2.2.1 (in_ok ci hci) (YY ci) (ty_ok ci hci) (nm_ok ci hci) hC.2.2.2.2.1 hK.1 hW.1 hW.2.1 hS a he (cl_ok ci hci) k hk (hC.2.2.2.2.2.1 _ hw) (fun _ h9 => h9) hfin (ty_ok ci hci k hk) hnar hfit (by simpa using hkl) hd (fun H1 locs1 hP1 hD1 hS1 => ?_)
  rw [hset] at hP1 hD1
  exact K p l e s m args below meth c D cI cS A ad0 ad H1 locs1 lsc hC hK hA had hn0 ⟨hP1, hD1, hW.2.2.1, upI_ok hW.2.2.2.1 hx, hW.2.2.2.2⟩ hS1 hL (ok_tail (ok_tail hst))
theorem w_putz {a ci k : Nat} {sl : List (Option (Option Nat))} {r : Nat} {r0 : Option Nat} (h : IPZ μ pc n ci k) (hs : sh[a]? = some (.inr (ci, sl))) (hv : sl[k]? = some (some r0)) (hty : ∀ q, fits (YY ci k) (.ref q) = true ∧ narrow (YY ci k) (.ref q) = .ref q)
    (K : (WG rw_ TG μ d mc ms n0 kc ks n ls (st) (sh.set a (.inr (ci, sl.set k (some (some r))))) I F)) : (WG rw_ TG μ d mc ms n0 kc ks pc ls (.inr (some r) :: .inr (some a) :: st) sh I F) := by
  intro p l e s m args below meth c D cI cS A ad0 ad H locs lsc hC hK hA had hn0 hW hS hL hst
  obtain ⟨idx, hd, rfl, hci, hk, hw, hfin, hin, hdecl⟩ := h
  have he := cw_at (cI := cI) (cS := cS) (ad := ad) (I := I) (F := F) hs
  rw [cel_obj hci] at he
  have hr : r < sh.length := ok_head hst
  have hkl := (List.getElem?_eq_some_iff.mp hv).1
  have hal := (List.getElem?_eq_some_iff.mp hs).1
  have hset : (cw cI cS ad sh I F).set a (ad a, .inr (ci, (sl.mapIdx (fun k s => sv ad (I a k) s)).set k (cv ad (.inr (some r))))) = cw cI cS ad (sh.set a (.inr (ci, sl.set k (some (some r))))) I F := by
    refine cw_set (c := .inr (ci, sl.set k (some (some r)))) (by simp) (by rw [List.getElem?_set, if_pos rfl, if_pos hal]) ?_ (fun q hq => ⟨by rw [List.getElem?_set_ne (Ne.symm hq)], fun c' _ => rfl⟩)
    rw [cel_obj hci]
    congr 2
    apply List.ext_getElem?
    intro j
    rw [List.getElem?_set, List.getElem?_mapIdx, List.getElem?_mapIdx, List.getElem?_set]
    by_cases hj : k = j
    · subst hj
      simp [hkl, sv, cv]
    · rw [if_neg hj, if_neg hj]
  have hok : okSh (sh.set a (.inr (ci, sl.set k (some (some r))))) := by
    intro q cj sj hq
    rw [List.length_set]
    rw [List.getElem?_set] at hq
    by_cases hqa : a = q
    · subst hqa
      rw [if_pos rfl, if_pos hal] at hq
      cases hq
      obtain ⟨g1, g2⟩ := hW.2.2.1 a ci sl hs
      refine ⟨by rw [List.length_set]; exact g1, fun k' r' h' => ?_⟩
      rw [List.getElem?_set] at h'
      by_cases hkk : k = k'
      · subst hkk
        rw [if_pos rfl, if_pos hkl] at h'
        cases h'
        exact hr
      · rw [if_neg hkk] at h'
        exact g2 k' r' h'
    · rw [if_neg hqa] at hq
      exact hW.2.2.1 q cj sj hq
  refine va_putF (D := D) hC.1 hC.2.1 hC.2.2.2.2.2.1 (in_ok ci hci) (YY ci) (ty_ok ci hci) (nm_ok ci hci) hC.2.2.2.2.1 hK.1 hW.1 hW.2.1 hS a he (cl_ok ci hci) k hk (hC.2.2.2.2.2.1 _ hw) (fun _ h9 => h9) hfin (hC.2.2.2.2.2.2.2 hin) hdecl (ty_ok ci hci k hk) (hty _).2 (hty _).1 (by simpa using hkl) hd (fun H1 locs1 hP1 hD1 hS1 => ?_)
  rw [hset] at hP1 hD1
  have hn0' : n0 ≤ (sh.set a (.inr (ci, sl.set k (some (some r))))).length := by rw [List.length_set]; exact hn0
  have hL' : Lcl rw_ ad (sh.set a (.inr (ci, sl.set k (some (some r))))).length lsc μ.2.2.2.1 ls := by rw [List.length_set]; exact hL
  exact K p l e s m args below meth c D cI cS A ad0 ad H1 locs1 lsc hC hK hA had hn0' ⟨hP1, hD1, hok, hW.2.2.2⟩ hS1 hL' (by rw [List.length_set]; exact ok_tail (ok_tail hst))
theorem w_iald {a N : Nat} {i : Int} (h : IO μ.2.2.1 pc n .iaload) (hs : sh[a]? = some (.inl N)) (hi : 0 ≤ i ∧ i < N)
    (K : (WG rw_ TG μ d mc ms n0 kc ks n ls (.inl (F a i) :: st) sh I F)) : (WG rw_ TG μ d mc ms n0 kc ks pc ls (.inl i :: .inr (some a) :: st) sh I F) := by
  intro p l e s m args below meth c D cI cS A ad0 ad H locs lsc hC hK hA had hn0 hW hS hL hst
  obtain ⟨hd, rfl⟩ := h
  have he := cw_at (cI := cI) (cS := cS) (ad := ad) (I := I) (F := F) hs
  have hx : inR i := ok_head hst
  have hk := K p l e s m args below meth c D cI cS A ad0 ad H locs lsc hC hK hA had hn0 hW hS hL (ok_cons (v := .inl (F a i)) (hW.2.2.2.2 a i) (ok_tail (ok_tail hst)))
  refine va_iald (D := D) hC.1 hC.2.1 hK.1 hW.1 a 0 he rfl (oi_in hx hi) hd ?_
  rw [oi_nat hx, show ((i.toNat : Nat) : Int) = i by omega]
  exact hk
theorem w_iast {a N : Nat} {i x : Int} (h : IO μ.2.2.1 pc n .iastore) (hs : sh[a]? = some (.inl N)) (hi : 0 ≤ i ∧ i < N)
    (K : (WG rw_ TG μ d mc ms n0 kc ks n ls (st) sh I (upF F a i x))) : (WG rw_ TG μ d mc ms n0 kc ks pc ls (.inl x :: .inl i :: .inr (some a) :: st) sh I F) := by
  intro p l e s m args below meth c D cI cS A ad0 ad H locs lsc hC hK hA had hn0 hW hS hL hst
  obtain ⟨hd, rfl⟩ := h
  have he := cw_at (cI := cI) (cS := cS) (ad := ad) (I := I) (F := F) hs
  have hx : inR x := ok_head hst
  have hri : inR i := ok_head (ok_tail hst)
  have hset : (cw cI cS ad sh I F).set a (ad a, .inl (cI, N, .inl (upd (fun k => Int32.ofInt (F a k)) (Int32.ofInt i).toNatClampNeg (Int32.ofInt x)))) = cw cI cS ad sh I (upF F a i x) := by
    refine cw_set rfl hs ?_ (fun q hq => ⟨rfl, fun c' _ => ?_⟩)
    · rw [cel_arr]
      congr 4
      funext j
      rw [oi_nat hri]
      simp only [upF, upd, true_and]
      by_cases hj : (j : Int) = i
      · rw [if_pos hj, if_pos (by omega)]
      · rw [if_neg hj, if_neg (by omega)]
    · rcases c' with n' | ⟨cj, sj⟩
      · simp only [cel, upF, hq, false_and, if_false]
      · rfl
  refine va_iast (D := D) hC.1 hC.2.1 hK.1 hW.1 hW.2.1 hS a 0 he rfl (oi_in hri hi) hd (fun H1 locs1 hP1 hD1 hS1 => ?_)
  rw [hset] at hP1 hD1
  exact K p l e s m args below meth c D cI cS A ad0 ad H1 locs1 lsc hC hK hA had hn0 ⟨hP1, hD1, hW.2.2.1, hW.2.2.2.1, upF_ok hW.2.2.2.2 hx⟩ hS1 hL (ok_tail (ok_tail (ok_tail hst)))
theorem w_alen {a N : Nat} (h : IO μ.2.2.1 pc n .arraylength) (hs : sh[a]? = some (.inl N)) (hN : (N : Int) ≤ 2147483647)
    (K : (WG rw_ TG μ d mc ms n0 kc ks n ls (.inl (N : Int) :: st) sh I F)) : (WG rw_ TG μ d mc ms n0 kc ks pc ls (.inr (some a) :: st) sh I F) := by
  intro p l e s m args below meth c D cI cS A ad0 ad H locs lsc hC hK hA had hn0 hW hS hL hst
  obtain ⟨hd, rfl⟩ := h
  have he := cw_at (cI := cI) (cS := cS) (ad := ad) (I := I) (F := F) hs
  exact va_alen (D := D) hC.1 hC.2.1 hK.1 hW.1 a 0 he rfl (v := Int32.ofInt (N : Int)) (by first | rfl | exact (Int32.ofInt_natCast _).symm | simp) hd (K p l e s m args below meth c D cI cS A ad0 ad H locs lsc hC hK hA had hn0 hW hS hL (ok_cons (v := .inl (N : Int)) ⟨by omega, hN⟩ (ok_tail hst)))
theorem w_aald {a r : Nat} {sl : List (Option (Option Nat))} {i : Int} (h : IO μ.2.2.1 pc n .aaload) (hs : sh[a]? = some (.inr (50, sl))) (hi : 0 ≤ i ∧ i < sl.length) (hv : sl[i.toNat]? = some (some (some r)))
    (K : (WG rw_ TG μ d mc ms n0 kc ks n ls (.inr (some r) :: st) sh I F)) : (WG rw_ TG μ d mc ms n0 kc ks pc ls (.inl i :: .inr (some a) :: st) sh I F) := by
  intro p l e s m args below meth c D cI cS A ad0 ad H locs lsc hC hK hA had hn0 hW hS hL hst
  obtain ⟨hd, rfl⟩ := h
  have he := cw_at (cI := cI) (cS := cS) (ad := ad) (I := I) (F := F) hs
  rw [cel_q] at he
  have hx : inR i := ok_head hst
  have hk := K p l e s m args below meth c D cI cS A ad0 ad H locs lsc hC hK hA had hn0 hW hS hL (ok_cons (v := .inr (some r)) ((hW.2.2.1 a 50 sl hs).2 _ r hv) (ok_tail (ok_tail hst)))
  refine va_aldq (D := D) hC.1 hC.2.1 hK.1 hW.1 a 1 he rfl (oi_in hx hi) hd ?_
  rw [oi_nat hx]
  have : cq ad sl i.toNat = some (ad r) := by simp only [cq, hv]
  rw [this]
  exact hk
end LAYER
