section CALLS
variable {rw_ : Option Nat} {TG : TGT} {μ μ' : MI} {d mc ms d' mc' ms' n0 kc ks pc n t : Nat} {Q Q' : PQ} {ls : List (Option AV)} {st : List AV} {sh : Shp} {I : IE} {F : FE}
theorem lv_args_at : ∀ (vs : List Value) (i j : Nat) (v : Value), (∀ v ∈ vs, v.category = 1) → vs[j]? = some v → (i + j, v) ∈ lv_args i vs
  | [], i, j, v, _, h => by simp at h
  | a :: vs, i, j, v, hc, h => by
    have ha : a.category = 1 := hc a List.mem_cons_self
    have e : lv_args i (a :: vs) = (i, a) :: lv_args (i + 1) vs := by simp only [lv_args]; rw [if_neg (by rw [ha]; decide)]
    rw [e]
    cases j with
    | zero =>
      simp only [List.getElem?_cons_zero, Option.some.injEq] at h
      subst h
      exact List.mem_cons_self
    | succ j =>
      rw [List.getElem?_cons_succ] at h
      have := lv_args_at vs (i + 1) j v (fun v hv => hc v (List.mem_cons_of_mem _ hv)) h
      rw [show i + 1 + j = i + (j + 1) by omega] at this
      exact List.mem_cons_of_mem _ this
theorem lg_sl_len : ∀ (vs : List Value), (∀ v ∈ vs, v.category = 1) → (lg_sl vs).length = vs.length
  | [], _ => rfl
  | a :: vs, hc => by
    have ha : a.category = 1 := hc a List.mem_cons_self
    have := lg_sl_len vs (fun v hv => hc v (List.mem_cons_of_mem _ hv))
    simp only [lg_sl, List.flatMap_cons, List.length_append, List.length_cons] at this ⊢
    rw [if_neg (by rw [ha]; decide), this, List.length_singleton]
    omega
theorem w_vret (h : IO μ.2.2.1 pc n .return_) (hr : μ.2.2.2.2 = none) (hc : kc ≤ mc ∧ ks ≤ ms) (q : Q none sh I F) : WS μ d mc ms n0 Q kc ks pc ls [] sh I F := by
  intro p l e s m args below meth c D cI cS A ad0 ad H locs lsc hC hK hA had hn0 hW hS hL hst
  obtain ⟨hd, rfl⟩ := h
  refine W.widen hc.1 hc.2 ?_
  exact W.vret hC.1 hC.2.1 (by rw [hC.2.2.1, hr]) (fun t ht _ => ⟨⟨none, sh, I, F, ad, rfl, q, had, hn0, by rw [ht]; exact hW, fun v h => by cases h⟩, hS.F ht⟩) hS.2.2 hd (hlocks := hC.2.2.2.2.2.2.1)
theorem w_iret {x : Int} (h : IO μ.2.2.1 pc n .ireturn) (hr : μ.2.2.2.2 = some .int ∨ μ.2.2.2.2 = some .boolean ∧ (x = 0 ∨ x = 1)) (hc : kc ≤ mc ∧ ks ≤ ms) (q : Q (some (.inl x)) sh I F) : WS μ d mc ms n0 Q kc ks pc ls [.inl x] sh I F := by
  intro p l e s m args below meth c D cI cS A ad0 ad H locs lsc hC hK hA had hn0 hW hS hL hst
  obtain ⟨hd, rfl⟩ := h
  have hx : inR x := ok_head hst
  refine W.widen hc.1 hc.2 ?_
  rcases hr with hr | ⟨hr, hx01⟩
  · exact W.iret hC.1 hC.2.1 (by rw [hC.2.2.1, hr]) (fun t ht _ => ⟨⟨some (.inl x), sh, I, F, ad, rfl, q, had, hn0, by rw [ht]; exact hW, fun v h => by cases h; exact hx⟩, hS.F ht⟩) hS.2.2 hd (hlocks := hC.2.2.2.2.2.2.1)
  · exact W.zret hC.1 hC.2.1 (by rw [hC.2.2.1, hr]) (by rcases hx01 with rfl | rfl <;> rfl) (fun t ht _ => ⟨⟨some (.inl x), sh, I, F, ad, rfl, q, had, hn0, by rw [ht]; exact hW, fun v h => by cases h; exact hx⟩, hS.F ht⟩) hS.2.2 hd (hlocks := hC.2.2.2.2.2.2.1)
theorem MS_of {k : Nat} {as : List AV} (hF : MF μ k) (hown : μ.2.1 = μ.1.cls) (hls : as.map some ++ List.replicate (μ.2.2.2.1 - as.length) none = ls) (hlen : as.length ≤ μ.2.2.2.1) (Kw : WS μ d mc ms sh.length Q 0 0 0 ls [] sh I F) : MS μ d mc ms sh as I F Q := by
  intro l D cI cS ad sz
  refine Met.ofW (cc := μ.2.2.1) (maxL := μ.2.2.2.1) (ret := μ.2.2.2.2) hF.2.2.2.2.2.1 rfl ?_
  intro p e s m args below meth c s₁ B hml hv
  obtain ⟨rfl, hsz, hW, hK, hok⟩ := hv
  subst hsz
  have hts := atoms_spec (ws := wsy μ) B.pre
  have hcat : ∀ v ∈ as.map (cv ad), v.category = 1 := fun v hv => by
    obtain ⟨a, -, rfl⟩ := List.mem_map.mp hv
    exact cv_cat ad a
  have hl := lv_entry (as.map (cv ad)) (n := μ.2.2.2.1) (by rw [lg_sl_len _ hcat, List.length_map]; exact hlen)
  rw [lg_entry_eq]
  refine Kw p l e s m _ below meth c D cI cS (va_A (cw cI cS ad sh I F) s.heap.size) ad ad s.heap [] _ ⟨B.exec, B.bytes, B.returns, hml, by rw [hown]; exact findClass_of_methodNamed B.named, fun w hw => hts w (List.mem_cons_of_mem _ hw), B.notSynchronized, fun h => by rw [(name_of_methodNamed B.named B.method).1]; exact h⟩ hK (fun q h => Or.inr h) (fun _ _ => rfl) (Nat.le_refl _) ⟨hW.1, hW.2.1.self, hW.2.2⟩ va_S.rf ⟨?_, _, hl, fun k v hk => ?_, fun b hb => by cases hb⟩ (fun _ h => by cases h)
  · rw [← hls]; simp; omega
  · rw [← hls] at hk
    by_cases hka : k < as.length
    · rw [List.getElem?_append_left (by simpa using hka), List.getElem?_map] at hk
      cases hak : as[k]? with
      | none => rw [hak] at hk; cases hk
      | some a =>
        rw [hak] at hk
        have hav : a = v := Option.some.inj (Option.some.inj hk)
        subst hav
        refine ⟨?_, hok _ (List.mem_of_getElem? hak)⟩
        have := lv_args_at (as.map (cv ad)) 0 k (cv ad a) hcat (by rw [List.getElem?_map, hak]; rfl)
        rw [Nat.zero_add] at this
        exact this
    · rw [List.getElem?_append_right (by simpa using hka), List.getElem?_replicate] at hk
      split at hk <;> cases hk
theorem goodG : GoodIn gtbl (wsy μ') ↔ Cond.code μ'.1 μ'.2.2.1 μ'.2.2.2.1 μ'.2.2.2.2 ∈ gtbl := by
  constructor
  · intro h
    exact (h _ List.mem_cons_self).1
  · intro h w hw
    rcases List.mem_cons.mp hw with rfl | hw
    · exact ⟨h, mem_good h⟩
    · exact ⟨hw, mem_good hw⟩
/-- behind a call: what the callee's contract says, in the caller's words -/
theorem w_back {p : Program} {l : Launch} {e : Env} {s : State} {m : MethodId} {args : Array Value} {below : List Frame} {meth : Method} {c : Code} {D : va_G} {cI cS : ClassId} {A : Nat → Prop} {ad0 ad : Nat → Nat} {H : Heap} {locs : List Loc} {lsc : Array Slot} {rest : List AV} {st1 : List Value} {ca : Array Value}
    (hC : Cx μ p s m args meth c) (hK : Kn D cI cS s) (hA : ∀ q : Nat, s.heap.size ≤ q → A q) (had : ∀ k, k < n0 → ad k = ad0 k) (hn0 : n0 ≤ sh.length) (hW : Wd D cI cS A ad sh I F H) (hS : va_S A s.heap H locs) (hL : Lcl rw_ ad sh.length lsc μ.2.2.2.1 ls) (hst : ∀ v ∈ rest, okv sh.length v)
    (hrun : va_Run p l e (rmd d mc ms) s m args below meth c H locs kc ks mc' ms' (F0 m pc lsc st1) (rest.map (cv ad)) (PP D cI cS (va_A (cw cI cS ad sh I F) H.size) ad sh.length Q' ca) (va_A (cw cI cS ad sh I F) H.size))
    (K : ∀ r sh' I' F', Q' r sh' I' F' → WG rw_ TG μ d mc ms n0 (kc + mc') (ks + ms') (pc + 3) ls (r.toList ++ rest) sh' I' F') :
    W p l e (rmd d mc ms) s m args below meth c H locs kc ks (TG below args s A D cI cS ad0) (F0 m pc lsc st1) := by
  intro T hT X
  obtain ⟨v, st₀, t, T', L, h0, X', hL2, e1, e2, ⟨⟨r, sh', I', F', ad', hv, hq, hag, hlen, hW', hokr⟩, hz, hkeep⟩, stp⟩ := hrun T hT X
  have hv : v = r.map (cv ad') := by cases hv; rfl
  subst hv
  rw [h0] at hz hkeep
  have hAA : ∀ q : Nat, va_A (cw cI cS ad sh I F) H.size q → A q := fun q hq => by
    rcases hq with ⟨k, e, hk⟩ | hq
    · exact hW.2.1.2 k _ hk
    · exact hA q (Nat.le_trans hS.1 hq)
  have hS' : va_S A s.heap T'.heap (locs ++ L) := ⟨Nat.le_trans hS.1 (by rw [e1]; exact hz), fun q h1 h2 => by rw [e1, hkeep q (Nat.lt_of_lt_of_le h1 hS.1) (fun z => h2 (hAA q z))]; exact hS.2.1 q h1 h2, fun q hq => by
      rcases List.mem_append.mp hq with h | h
      · exact hS.2.2 q h
      · exact hAA _ (hL2 q h)⟩
  have hst' : ∀ v ∈ r.toList ++ rest, okv sh'.length v := fun v hv => by
    rcases List.mem_append.mp hv with h | h
    · cases r with
      | none => cases h
      | some r =>
        have : v = r := by simpa using h
        subst this
        exact hokr v rfl
    · exact okv_mono hlen (hst v h)
  have key := K r sh' I' F' hq p l e s m args below meth c D cI cS A ad0 ad' T'.heap (locs ++ L) lsc hC hK hA (fun k hk => by rw [hag k (Nat.lt_of_lt_of_le hk hn0)]; exact had k hk) (Nat.le_trans hn0 hlen)
    ⟨by rw [e1]; exact hW'.1, hW'.2.1.weaken (fun k q _ h => hAA q.1 h), hW'.2.2⟩ hS' (hL.mono hlen hag) hst' T' rfl X'
  obtain ⟨t2, a1, b1⟩ := key
  refine ⟨t2, stp t2 ?_, b1⟩
  have es : (r.toList ++ rest).map (cv ad') = (r.map (cv ad')).toList ++ rest.map (cv ad) := by
    rw [List.map_append]
    congr 1
    · cases r <;> rfl
    · exact List.map_congr_left (fun v hv => cv_ag hag (hst v hv))
  rw [es] at a1
  exact a1
theorem pre_ok {D : va_G} {cI cS : ClassId} {A : Nat → Prop} {ad : Nat → Nat} {s : State} {H : Heap} {as : List AV} (hK : Kn D cI cS s) (hW : Wd D cI cS A ad sh I F H) (ho : ∀ v ∈ as, okv sh.length v) :
    FrameBlind (va_Pc (as.map (cv ad)) (fun U => U.heap.size = H.size ∧ Wd D cI cS (fun _ => True) ad sh I F U.heap ∧ Kn D cI cS U ∧ ∀ v ∈ as, okv sh.length v)) ∧ ∀ U : State, U.heap = H → s.WarmedH U.vm → (va_Pc (as.map (cv ad)) (fun U => U.heap.size = H.size ∧ Wd D cI cS (fun _ => True) ad sh I F U.heap ∧ Kn D cI cS U ∧ ∀ v ∈ as, okv sh.length v)) (as.map (cv ad)).toArray U := by
  refine ⟨fun a U g mk h => ?_, fun U hU hw => ⟨rfl, by rw [hU], by rw [hU]; exact ⟨hW.1, hW.2.1.weaken (fun _ _ _ _ => trivial), hW.2.2⟩, hK.warm hw, ho⟩⟩
  obtain ⟨h1, h2, h3, h4, h5⟩ := h
  exact ⟨h1, h2, h3, h4.same rfl, h5⟩
theorem w_callV {k a ci : Nat} {as rest : List AV} {sl : List (Option (Option Nat))} (h : ICV μ pc n μ') (hF : MF μ' k) (hV : MV μ') (hM : MS μ' d' mc' ms' sh (.inr (some a) :: as) I F Q') (hk : as.length = k) (hs : sh[a]? = some (.inr (ci, sl))) (hci : ci < 8) (hcc : CC ci = μ'.1.cls)
    (hst0 : as.reverse ++ .inr (some a) :: rest = st) (hrest : rest.length ≤ 8) (hd : d' + 1 ≤ d) (hcap : kc + mc' ≤ mc ∧ ks + ms' ≤ ms)
    (K : ∀ r sh' I' F', Q' r sh' I' F' → WG rw_ TG μ d mc ms n0 (kc + mc') (ks + ms') n ls (r.toList ++ rest) sh' I' F') : WG rw_ TG μ d mc ms n0 kc ks pc ls st sh I F := by
  intro p l e s m args below meth c D cI cS A ad0 ad H locs lsc hC hK hA had hn0 hW hS hL hst
  subst hst0
  obtain ⟨idx, hdg, rfl, hlk⟩ := h
  have hts := hC.2.2.2.2.2.1
  have hoas : ∀ v ∈ Sum.inr (some a) :: as, okv sh.length v := fun v hv => by
    rcases List.mem_cons.mp hv with rfl | hv
    · exact hst _ (by simp)
    · exact hst _ (by simp [hv])
  have hpre := pre_ok (as := .inr (some a) :: as) hK hW hoas
  have he := cw_at (cI := cI) (cS := cS) (ad := ad) (I := I) (F := F) hs
  rw [cel_obj hci] at he
  have hrecv := va_recv hK.1 hW.1 (cl_ok ci hci) he
  have cb : CallB (rmd d mc ms) s args μ.2.1 idx μ'.1 μ'.2.2.1 μ'.2.2.2.1 μ'.2.2.2.2 (wsy μ') (rmd d' mc' ms') mc' ms' k := callB_of k hts (goodG.mpr hF.1) rfl rfl rfl (hts _ hF.2.1) (hts _ hlk) ⟨hF.2.2.1, hF.2.2.2.1, hF.2.2.2.2.1⟩ ⟨hd, by have := hF.2.2.2.2.2.2; show 8 + (μ'.2.2.2.1 + 11) + 40 * d' ≤ 40 * d; omega⟩
  have hrun := va_runV (locs := locs) (cells := kc) (slots := ks) (p := p) (e := e) (below := below) (meth := meth) (C := μ'.1.cls) (As := as.map (cv ad)) (rest := rest.map (cv ad)) (g := F0 m pc lsc ((as.reverse ++ .inr (some a) :: rest).map (cv ad))) (nL := μ.2.2.2.1) (cc := μ.2.2.1) (b := ad a) (H := H)
    ⟨hC.1, hC.2.1, hC.2.2.2.1, hC.2.2.2.2.1, hts⟩ (hM l D cI cS ad H.size) ⟨cb, hts _ hV.1, hts _ hV.2⟩ ⟨hpre.1, by rw [← hcc]; exact hrecv, hpre.2⟩ rfl (by rw [List.length_map]; exact hk) hL.size (by simp [List.map_append, List.map_reverse, cv])
    (by show 2 * 0 + _ ≤ 8; rw [cv_len]; omega) hdg hcap
  exact w_back hC hK hA had hn0 hW hS hL (fun v hv => hst v (by simp [hv])) hrun K
theorem w_callS {k : Nat} {as rest : List AV} (h : ICS μ pc n μ'.1) (hF : MF μ' k) (hV : MS_ μ') (hM : MS μ' d' mc' ms' sh as I F Q') (hk : as.length = k)
    (hst0 : as.reverse ++ rest = st) (hrest : rest.length ≤ 8) (hd : d' + 1 ≤ d) (hcap : kc + mc' ≤ mc ∧ ks + ms' ≤ ms)
    (K : ∀ r sh' I' F', Q' r sh' I' F' → WG rw_ TG μ d mc ms n0 (kc + mc') (ks + ms') n ls (r.toList ++ rest) sh' I' F') : WG rw_ TG μ d mc ms n0 kc ks pc ls st sh I F := by
  intro p l e s m args below meth c D cI cS A ad0 ad H locs lsc hC hK hA had hn0 hW hS hL hst
  subst hst0
  obtain ⟨idx, hdg, rfl, hlk⟩ := h
  have hts := hC.2.2.2.2.2.1
  have hpre := pre_ok (as := as) hK hW (fun v hv => hst v (by simp [hv]))
  have cb : CallB (rmd d mc ms) s args μ.2.1 idx μ'.1 μ'.2.2.1 μ'.2.2.2.1 μ'.2.2.2.2 (wsy μ') (rmd d' mc' ms') mc' ms' k := callB_of k hts (goodG.mpr hF.1) rfl rfl rfl (hts _ hF.2.1) (hts _ hlk) ⟨hF.2.2.1, hF.2.2.2.1, hF.2.2.2.2.1⟩ ⟨hd, by have := hF.2.2.2.2.2.2; show 8 + (μ'.2.2.2.1 + 11) + 40 * d' ≤ 40 * d; omega⟩
  have hrun := va_runS (locs := locs) (cells := kc) (slots := ks) (p := p) (e := e) (below := below) (meth := meth) (As := as.map (cv ad)) (rest := rest.map (cv ad)) (g := F0 m pc lsc ((as.reverse ++ rest).map (cv ad))) (nL := μ.2.2.2.1) (cc := μ.2.2.1) (H := H)
    ⟨hC.1, hC.2.1, hC.2.2.2.1, hC.2.2.2.2.1, hts⟩ (hM l D cI cS ad H.size) ⟨cb, hts _ hV⟩ ⟨hpre.1, hpre.2⟩ rfl (by rw [List.length_map]; exact hk) hL.size (by simp [List.map_append, List.map_reverse])
    (by show 2 * 0 + _ ≤ 8; rw [cv_len]; omega) hdg hcap
  exact w_back hC hK hA had hn0 hW hS hL (fun v hv => hst v (by simp [hv])) hrun K
theorem w_callI {k a : Nat} {as rest : List AV} (h : ICI μ pc n μ'.1) (hF : MF μ' k) (hV : MN μ') (hret : μ'.2.2.2.2 = none) (hM : MS μ' d' mc' ms' sh (.inr (some a) :: as) I F Q') (hk : as.length = k)
    (hst0 : as.reverse ++ .inr (some a) :: rest = st) (hrest : rest.length ≤ 8) (hd : d' + 1 ≤ d) (hcap : kc + mc' ≤ mc ∧ ks + ms' ≤ ms)
    (K : ∀ r sh' I' F', Q' r sh' I' F' → WG rw_ TG μ d mc ms n0 (kc + mc') (ks + ms') n ls (r.toList ++ rest) sh' I' F') : WG rw_ TG μ d mc ms n0 kc ks pc ls st sh I F := by
  intro p l e s m args below meth c D cI cS A ad0 ad H locs lsc hC hK hA had hn0 hW hS hL hst
  subst hst0
  obtain ⟨idx, hdg, rfl, hlk⟩ := h
  have hts := hC.2.2.2.2.2.1
  have hoas : ∀ v ∈ Sum.inr (some a) :: as, okv sh.length v := fun v hv => by
    rcases List.mem_cons.mp hv with rfl | hv
    · exact hst _ (by simp)
    · exact hst _ (by simp [hv])
  have hpre := pre_ok (as := .inr (some a) :: as) hK hW hoas
  have cb : CallB (rmd d mc ms) s args μ.2.1 idx μ'.1 μ'.2.2.1 μ'.2.2.2.1 μ'.2.2.2.2 (wsy μ') (rmd d' mc' ms') mc' ms' k := callB_of k hts (goodG.mpr hF.1) rfl rfl rfl (hts _ hF.2.1) (hts _ hlk) ⟨hF.2.2.1, hF.2.2.2.1, hF.2.2.2.2.1⟩ ⟨hd, by have := hF.2.2.2.2.2.2; show 8 + (μ'.2.2.2.1 + 11) + 40 * d' ≤ 40 * d; omega⟩
  rw [hret] at cb
  have hrun := va_runI (locs := locs) (cells := kc) (slots := ks) (p := p) (e := e) (below := below) (meth := meth) (As := as.map (cv ad)) (rest := rest.map (cv ad)) (g := F0 m pc lsc ((as.reverse ++ .inr (some a) :: rest).map (cv ad))) (nL := μ.2.2.2.1) (cc := μ.2.2.1) (b := ad a) (H := H)
    ⟨hC.1, hC.2.1, hC.2.2.2.1, hC.2.2.2.2.1, hts⟩ (hM l D cI cS ad H.size) ⟨cb, hV.2, hts _ hV.1⟩ ⟨hpre.1, hpre.2⟩ rfl (by rw [List.length_map]; exact hk) hL.size (by simp [List.map_append, List.map_reverse, cv])
    (by show 2 * 0 + _ ≤ 8; rw [cv_len]; omega) hdg hcap
  exact w_back hC hK hA had hn0 hW hS hL (fun v hv => hst v (by simp [hv])) hrun K
/-- a private constructor of a nest mate -/
theorem w_callN {k a idx : Nat} {as rest : List AV} {host : String} (h : ICN μ pc n idx) (hnw : (μ.2.1, idx, μ'.1, host) ∈ nwM) (hF : MF μ' k) (hV : MN μ') (hret : μ'.2.2.2.2 = none) (hM : MS μ' d' mc' ms' sh (.inr (some a) :: as) I F Q') (hk : as.length = k)
    (hst0 : as.reverse ++ .inr (some a) :: rest = st) (hrest : rest.length ≤ 8) (hd : d' + 1 ≤ d) (hcap : kc + mc' ≤ mc ∧ ks + ms' ≤ ms)
    (K : ∀ r sh' I' F', Q' r sh' I' F' → WG rw_ TG μ d mc ms n0 (kc + mc') (ks + ms') n ls (r.toList ++ rest) sh' I' F') : WG rw_ TG μ d mc ms n0 kc ks pc ls st sh I F := by
  intro p l e s m args below meth c D cI cS A ad0 ad H locs lsc hC hK hA had hn0 hW hS hL hst
  subst hst0
  obtain ⟨hdg, rfl⟩ := h
  have hts := hC.2.2.2.2.2.1
  have hoas : ∀ v ∈ Sum.inr (some a) :: as, okv sh.length v := fun v hv => by
    rcases List.mem_cons.mp hv with rfl | hv
    · exact hst _ (by simp)
    · exact hst _ (by simp [hv])
  have hpre := pre_ok (as := .inr (some a) :: as) hK hW hoas
  have cb : va_CN (rmd d mc ms) s args μ.2.1 idx μ'.1 host μ'.2.2.1 μ'.2.2.2.1 μ'.2.2.2.2 (wsy μ') (rmd d' mc' ms') mc' ms' k := va_cnB k hts (goodG.mpr hF.1) rfl rfl rfl (hK.2.2.1 _ hnw) (hts _ hF.2.1) ⟨hF.2.2.1, hF.2.2.2.1, hF.2.2.2.2.1⟩ ⟨hd, by have := hF.2.2.2.2.2.2; show 8 + (μ'.2.2.2.1 + 11) + 40 * d' ≤ 40 * d; omega⟩
  rw [hret] at cb
  have hrun := va_runIN (locs := locs) (cells := kc) (slots := ks) (p := p) (e := e) (below := below) (meth := meth) (As := as.map (cv ad)) (rest := rest.map (cv ad)) (g := F0 m pc lsc ((as.reverse ++ .inr (some a) :: rest).map (cv ad))) (nL := μ.2.2.2.1) (cc := μ.2.2.1) (b := ad a) (H := H)
    ⟨hC.1, hC.2.1, hC.2.2.2.1, hC.2.2.2.2.1, hts⟩ (hM l D cI cS ad H.size) ⟨cb, hV.2, hts _ hV.1⟩ ⟨hpre.1, hpre.2⟩ rfl (by rw [List.length_map]; exact hk) hL.size (by simp [List.map_append, List.map_reverse, cv])
    (by show 2 * 0 + _ ≤ 8; rw [cv_len]; omega) hdg hcap
  exact w_back hC hK hA had hn0 hW hS hL (fun v hv => hst v (by simp [hv])) hrun K
theorem w_obj {a : Nat} {rest : List AV} (h : ICI μ pc n objectInit) (hd : 1 ≤ d) (hrest : rest.length ≤ 8) (K : WG rw_ TG μ d mc ms n0 kc ks n ls rest sh I F) : WG rw_ TG μ d mc ms n0 kc ks pc ls (.inr (some a) :: rest) sh I F := by
  intro p l e s m args below meth c D cI cS A ad0 ad H locs lsc hC hK hA had hn0 hW hS hL hst
  obtain ⟨idx, hdg, rfl, hlk⟩ := h
  have hts := hC.2.2.2.2.2.1
  exact W.objInit hC.1 hC.2.1 hC.2.2.2.2.1 (hts _ hlk) (hts _ q_49) (hts _ q_50) rfl (by rw [hC.2.2.2.1]; exact hL.size) rfl hdg hd (by show 2 * 0 + _ + 12 ≤ 40 * d; rw [cv_len]; omega) (K p l e s m args below meth c D cI cS A ad0 ad H locs lsc hC hK hA had hn0 hW hS hL (ok_tail hst))
theorem w_mabs {x : Int} {rest : List AV} (h : ICS μ pc n yJ9_abs_0f7a4) (hr : -2147483647 ≤ x) (hd : 1 ≤ d) (hc : kc ≤ mc ∧ ks ≤ ms) (hrest : rest.length ≤ 8) (K : WG rw_ TG μ d mc ms n0 kc ks n ls (.inl (if 0 ≤ x then x else -x) :: rest) sh I F) : WG rw_ TG μ d mc ms n0 kc ks pc ls (.inl x :: rest) sh I F := by
  intro p l e s m args below meth c D cI cS A ad0 ad H locs lsc hC hK hA had hn0 hW hS hL hst
  obtain ⟨idx, hdg, rfl, hlk⟩ := h
  have hts := hC.2.2.2.2.2.1
  have hx : inR x := ok_head hst
  have hk := K p l e s m args below meth c D cI cS A ad0 ad H locs lsc hC hK hA had hn0 hW hS hL (ok_cons (v := .inl (if 0 ≤ x then x else -x)) (by show inR _; have := hx.2; split <;> constructor <;> omega) (ok_tail hst))
  refine va_mabs hC.1 hC.2.1 (by rw [hC.2.2.2.1, hL.size]) hC.2.2.2.2.1 (hts _ hlk) (hts _ q_295) (hts _ q_40) (hts _ q_296) hd (by show _ + 13 ≤ 40 * d; rw [cv_len]; omega) hc.1 hc.2 hdg ?_
  have e1 : (if (0 : Int32) ≤ Int32.ofInt x then Int32.ofInt x else 0 - Int32.ofInt x) = Int32.ofInt (if 0 ≤ x then x else -x) := by
    by_cases h0 : 0 ≤ x
    · rw [if_pos h0, if_pos (by rw [← oi_0]; exact (oi_le inR0 hx).mpr h0)]
    · rw [if_neg h0, if_neg (by rw [← oi_0]; exact fun z => h0 ((oi_le inR0 hx).mp z)), Int32.ofInt_neg, Int32.zero_sub]
  rw [e1]
  exact hk
theorem w_mmax {x y : Int} {rest : List AV} (h : ICS μ pc n yJ9_max_7cf53) (hd : 1 ≤ d) (hc : kc ≤ mc ∧ ks ≤ ms) (hrest : rest.length ≤ 8) (K : WG rw_ TG μ d mc ms n0 kc ks n ls (.inl (if x < y then y else x) :: rest) sh I F) : WG rw_ TG μ d mc ms n0 kc ks pc ls (.inl y :: .inl x :: rest) sh I F := by
  intro p l e s m args below meth c D cI cS A ad0 ad H locs lsc hC hK hA had hn0 hW hS hL hst
  obtain ⟨idx, hdg, rfl, hlk⟩ := h
  have hts := hC.2.2.2.2.2.1
  have hy : inR y := ok_head hst
  have hx : inR x := ok_head (ok_tail hst)
  have hk := K p l e s m args below meth c D cI cS A ad0 ad H locs lsc hC hK hA had hn0 hW hS hL (ok_cons (v := .inl (if x < y then y else x)) (by show inR _; split <;> assumption) (ok_tail (ok_tail hst)))
  refine va_mmax hC.1 hC.2.1 (by rw [hC.2.2.2.1, hL.size]) hC.2.2.2.2.1 (hts _ hlk) (hts _ q_399) (hts _ q_40) (hts _ q_400) hd (by show _ + 13 ≤ 40 * d; rw [cv_len]; omega) hc.1 hc.2 hdg ?_
  have e1 : (if Int32.ofInt x < Int32.ofInt y then Int32.ofInt y else Int32.ofInt x) = Int32.ofInt (if x < y then y else x) := by
    by_cases h0 : x < y
    · rw [if_pos h0, if_pos ((oi_lt hx hy).mpr h0)]
    · rw [if_neg h0, if_neg (fun z => h0 ((oi_lt hx hy).mp z))]
  rw [e1]
  exact hk

theorem w_copy {a0 a1 N0 N1 : Nat} {sp dp x : Int} {rest : List AV} (h : ICS μ pc n arraycopyName) (hs0 : sh[a0]? = some (.inl N0)) (hs1 : sh[a1]? = some (.inl N1)) (h1 : 0 ≤ sp ∧ 0 ≤ dp ∧ 0 ≤ x) (h2 : sp + x ≤ N0 ∧ dp + x ≤ N1) (hd : 1 ≤ d) (hrest : rest.length ≤ 8)
    (K : WG rw_ TG μ d mc ms n0 kc ks n ls rest sh I (cpF F a0 sp a1 dp x)) : WG rw_ TG μ d mc ms n0 kc ks pc ls (.inl x :: .inl dp :: .inr (some a1) :: .inl sp :: .inr (some a0) :: rest) sh I F := by
  intro p l e s m args below meth c D cI cS A ad0 ad H locs lsc hC hK hA had hn0 hW hS hL hst
  obtain ⟨idx, hdg, rfl, hlk⟩ := h
  have hts := hC.2.2.2.2.2.1
  have hx : inR x := ok_head hst
  have hdp : inR dp := ok_head (ok_tail hst)
  have hsp : inR sp := ok_head (ok_tail (ok_tail (ok_tail hst)))
  have e0 := cw_at (cI := cI) (cS := cS) (ad := ad) (I := I) (F := F) hs0
  have e1 := cw_at (cI := cI) (cS := cS) (ad := ad) (I := I) (F := F) hs1
  have hset : (cw cI cS ad sh I F).set a1 (ad a1, .inl (cI, N1, .inl (va_cpy (fun k => Int32.ofInt (F a0 k)) (fun k => Int32.ofInt (F a1 k)) (Int32.ofInt sp).toNatClampNeg (Int32.ofInt dp).toNatClampNeg (Int32.ofInt x).toNatClampNeg))) = cw cI cS ad sh I (cpF F a0 sp a1 dp x) := by
    refine cw_set rfl hs1 ?_ (fun q hq => ⟨rfl, fun c' _ => ?_⟩)
    · rw [cel_arr]
      congr 4
      funext j
      rw [oi_nat hsp, oi_nat hdp, oi_nat hx]
      simp only [cpF, va_cpy, true_and]
      by_cases hj : dp ≤ (j : Int) ∧ (j : Int) < dp + x
      · rw [if_pos hj, if_pos (by omega), show sp + ((j : Int) - dp) = ((sp.toNat + (j - dp.toNat) : Nat) : Int) by omega]
      · rw [if_neg hj, if_neg (by omega)]
    · rcases c' with n' | ⟨cj, sj⟩
      · simp only [cel, cpF, hq, false_and, if_false]
      · rfl
  have nn : ∀ z : Int, inR z → 0 ≤ z → ¬ Int32.ofInt z < 0 := fun z hz h0 w => by rw [← oi_0, oi_lt hz inR0] at w; omega
  refine va_copyi (D := D) hC.1 hC.2.1 (by rw [hC.2.2.2.1, hL.size]) hC.2.2.2.2.1 (hts _ hlk) (hts _ q_331) (hts _ q_330) (hts _ q_41) hK.1 hW.1 hW.2.1 hS a0 a1 0 0 e0 e1 rfl rfl rfl (nn sp hsp h1.1) (nn dp hdp h1.2.1) (nn x hx h1.2.2) (by rw [oi_nat hsp, oi_nat hx]; omega) (by rw [oi_nat hdp, oi_nat hx]; omega) (fun _ _ => rfl) hd (by show _ + (7 + 11) ≤ 40 * d; rw [cv_len]; omega) hdg (fun H1 locs1 hP1 hD1 hS1 => ?_)
  rw [hset] at hP1 hD1
  refine K p l e s m args below meth c D cI cS A ad0 ad H1 locs1 lsc hC hK hA had hn0 ⟨hP1, hD1, hW.2.2.1, hW.2.2.2.1, fun b j => ?_⟩ hS1 hL (ok_tail (ok_tail (ok_tail (ok_tail (ok_tail hst)))))
  unfold cpF
  split
  · exact hW.2.2.2.2 _ _
  · exact hW.2.2.2.2 _ _
def dsl (ci : Nat) : List (Option (Option Nat)) := (List.range (NN ci)).map (fun k => match YY ci k with | .int => none | .boolean => none | _ => some none)
theorem w_new {ci : Nat} (h : INW μ pc n ci) (hds : ∀ j, j < NN ci → ∃ s, (dsl ci)[j]? = some s ∧ defaultValue (YY ci j) = sv (fun _ => 0) 0 s ∧ ∀ r, s ≠ some (some r)) (hz : ∀ k, I sh.length k = 0) (hcap : kc + 1 ≤ mc ∧ ks + NN ci ≤ ms)
    (K : WG rw_ TG μ d mc ms n0 (kc + 1) (ks + NN ci) n ls (.inr (some sh.length) :: st) (sh ++ [.inr (ci, dsl ci)]) I F) : WG rw_ TG μ d mc ms n0 kc ks pc ls st sh I F := by
  intro p l e s m args below meth c D cI cS A ad0 ad H locs lsc hC hK hA had hn0 hW hS hL hst
  obtain ⟨idx, hdg, rfl, hci, hlk, hins, hini⟩ := h
  have hts := hC.2.2.2.2.2.1
  have hlen : (dsl ci).length = NN ci := by simp [dsl]
  have hnr : ∀ (k r : Nat), (dsl ci)[k]? = some (some (some r)) → False := fun k r hk => by
    have hkl := (List.getElem?_eq_some_iff.mp hk).1
    obtain ⟨s', h1, -, h3⟩ := hds k (by omega)
    rw [hk] at h1
    cases h1
    exact h3 r rfl
  refine va_new (D := D) hC.1 hC.2.1 hts (in_ok ci hci) (YY ci) (ty_ok ci hci) hC.2.2.2.2.1 (hts _ hlk) (hts _ hins) (hts _ hini) hK.1 hW.1 hW.2.1 hS hA (cl_ok ci hci) (fs := (dsl ci).map (sv (fun _ => 0) 0)) (fun j hj => ?_) hcap.1 hcap.2 hdg (fun q H1 hP1 hD1 hS1 => ?_)
  · obtain ⟨s', h1, h2, -⟩ := hds j hj
    rw [h2]
    simp [vp_V, h1]
  · have hag : ∀ k, k < sh.length → (fun k => if k = sh.length then q else ad k) k = ad k := fun k hk => if_neg (by omega)
    have hw : cw cI cS ad sh I F ++ [(q, .inr (ci, (dsl ci).map (sv (fun _ => 0) 0)))] = cw cI cS (fun k => if k = sh.length then q else ad k) (sh ++ [.inr (ci, dsl ci)]) I F := by
      refine cw_push hag (if_pos rfl) hW.2.2.1 ?_
      rw [cel_obj hci]
      congr 2
      apply List.ext_getElem?
      intro j
      rw [List.getElem?_mapIdx, List.getElem?_map]
      rcases hs : (dsl ci)[j]? with _ | ⟨_ | ⟨_ | r⟩⟩
      · rfl
      · simp [sv, hz]
      · rfl
      · exact absurd hs (fun z => hnr j r z)
    rw [hw] at hP1 hD1
    have hlen2 : (sh ++ [Sum.inr (ci, dsl ci)] : Shp).length = sh.length + 1 := by simp
    have zok : okSh (sh ++ [Sum.inr (ci, dsl ci)]) := by
      intro p' cj sj hp'
      rw [hlen2]
      by_cases hp2 : p' < sh.length
      · rw [List.getElem?_append_left hp2] at hp'
        obtain ⟨g1, g2⟩ := hW.2.2.1 p' cj sj hp'
        exact ⟨g1, fun k r hk => Nat.lt_succ_of_lt (g2 k r hk)⟩
      · rw [List.getElem?_append_right (by omega)] at hp'
        have : p' - sh.length = 0 := by
          have := (List.getElem?_eq_some_iff.mp hp').1
          simp at this
          omega
        rw [this] at hp'
        cases hp'
        exact ⟨Or.inl ⟨hci, hlen⟩, fun k r hk => (hnr k r hk).elim⟩
    have zL : Lcl rw_ (fun k => if k = sh.length then q else ad k) (sh ++ [Sum.inr (ci, dsl ci)] : Shp).length lsc μ.2.2.2.1 ls := by
      rw [hlen2]; exact hL.mono (Nat.le_succ _) hag
    have zst : ∀ v ∈ (Sum.inr (some sh.length) :: st : List AV), okv (sh ++ [Sum.inr (ci, dsl ci)] : Shp).length v := by
      rw [hlen2]
      exact ok_cons (v := .inr (some sh.length)) (Nat.lt_succ_self _) (fun v hv => okv_mono (Nat.le_succ _) (hst v hv))
    have z := K p l e s m args below meth c D cI cS A ad0 (fun k => if k = sh.length then q else ad k) H1 locs lsc hC hK hA (fun k hk => by rw [← had k hk]; exact hag k (by omega)) (by rw [hlen2]; omega) ⟨hP1, hD1, zok, hW.2.2.2⟩ hS1 zL zst
    have e2 : (Sum.inr (some sh.length) :: st).map (cv (fun k => if k = sh.length then q else ad k)) = .ref q :: st.map (cv ad) := by
      rw [List.map_cons]
      congr 1
      · simp [cv]
      · exact List.map_congr_left (fun v hv => cv_ag hag (hst v hv))
    rw [e2] at z
    exact z
theorem w_newa {x : Int} (h : INA μ.2.2.1 pc n) (hx0 : 0 ≤ x ∧ x ≤ 100000) (hz : ∀ j, F sh.length j = 0) (hcap : kc + 1 ≤ mc ∧ ks + x.toNat ≤ ms)
    (K : WG rw_ TG μ d mc ms n0 (kc + 1) (ks + x.toNat) n ls (.inr (some sh.length) :: st) (sh ++ [.inl x.toNat]) I F) : WG rw_ TG μ d mc ms n0 kc ks pc ls (.inl x :: st) sh I F := by
  intro p l e s m args below meth c D cI cS A ad0 ad H locs lsc hC hK hA had hn0 hW hS hL hst
  obtain ⟨hdg, rfl⟩ := h
  have hts := hC.2.2.2.2.2.1
  have hx : inR x := ok_head hst
  refine va_newa (D := D) (atype := .int) hC.1 hC.2.1 (hts _ q_81) (ty := .int) rfl hK.1 hW.1 hW.2.1 hS hA (a0 := (x.toNat, .inl (fun _ => 0))) (fun cA => rfl) (by intro w; rw [← oi_0, oi_lt hx inR0] at w; omega) (oi_nat hx) (by show x.toNat * 4 ≤ _; omega) hcap.1 hcap.2 hdg (fun q cA H1 hK1 hP1 hD1 hS1 => ?_)
  have hcA : cA = cI := by
    have h1 : va_RA s cA .int := (hK1.2 2 (cA, .int) (by simp)).2
    have h2 : va_RA s cI .int := (hK.1.2 0 (cI, .int) rfl).2
    exact Option.some.inj ((show s.vm.findClass _ = some cA from h1).symm.trans (show s.vm.findClass _ = some cI from h2))
  subst hcA
  have hag : ∀ k, k < sh.length → (fun k => if k = sh.length then q else ad k) k = ad k := fun k hk => if_neg (by omega)
  have hw : cw cA cS ad sh I F ++ [(q, .inl (cA, (x.toNat, .inl (fun _ => 0))))] = cw cA cS (fun k => if k = sh.length then q else ad k) (sh ++ [.inl x.toNat]) I F := by
    refine cw_push hag (if_pos rfl) hW.2.2.1 ?_
    rw [cel_arr]
    congr 4
    funext j
    rw [hz, oi_0]
  rw [hw] at hP1 hD1
  have hlen2 : (sh ++ [Sum.inl x.toNat] : Shp).length = sh.length + 1 := by simp
  have zok : okSh (sh ++ [Sum.inl x.toNat]) := by
    intro p' cj sj hp'
    rw [hlen2]
    by_cases hp2 : p' < sh.length
    · rw [List.getElem?_append_left hp2] at hp'
      obtain ⟨g1, g2⟩ := hW.2.2.1 p' cj sj hp'
      exact ⟨g1, fun k r hk => Nat.lt_succ_of_lt (g2 k r hk)⟩
    · rw [List.getElem?_append_right (by omega)] at hp'
      have : p' - sh.length = 0 := by
        have := (List.getElem?_eq_some_iff.mp hp').1
        simp at this
        omega
      rw [this] at hp'
      cases hp'
  have zL : Lcl rw_ (fun k => if k = sh.length then q else ad k) (sh ++ [Sum.inl x.toNat] : Shp).length lsc μ.2.2.2.1 ls := by
    rw [hlen2]; exact hL.mono (Nat.le_succ _) hag
  have zst : ∀ v ∈ (Sum.inr (some sh.length) :: st : List AV), okv (sh ++ [Sum.inl x.toNat] : Shp).length v := by
    rw [hlen2]
    exact ok_cons (v := .inr (some sh.length)) (Nat.lt_succ_self _) (fun v hv => okv_mono (Nat.le_succ _) (ok_tail hst v hv))
  have z := K p l e s m args below meth c D cA cS A ad0 (fun k => if k = sh.length then q else ad k) H1 locs lsc hC hK hA (fun k hk => by rw [← had k hk]; exact hag k (by omega)) (by rw [hlen2]; omega) ⟨hP1, hD1, zok, hW.2.2.2⟩ hS1 zL zst
  have e2 : (Sum.inr (some sh.length) :: st).map (cv (fun k => if k = sh.length then q else ad k)) = .ref q :: st.map (cv ad) := by
    rw [List.map_cons]
    congr 1
    · simp [cv]
    · exact List.map_congr_left (fun v hv => cv_ag hag (ok_tail hst v hv))
  rw [e2] at z
  exact z
theorem w_newq {x : Int} (h : INQ μ pc n) (hx0 : 0 ≤ x ∧ x ≤ 100000) (hcap : kc + 1 ≤ mc ∧ ks + x.toNat ≤ ms)
    (K : WG rw_ TG μ d mc ms n0 (kc + 1) (ks + x.toNat) n ls (.inr (some sh.length) :: st) (sh ++ [.inr (50, List.replicate x.toNat (some none))]) I F) : WG rw_ TG μ d mc ms n0 kc ks pc ls (.inl x :: st) sh I F := by
  intro p l e s m args below meth c D cI cS A ad0 ad H locs lsc hC hK hA had hn0 hW hS hL hst
  obtain ⟨idx, hdg, rfl, hlk⟩ := h
  have hts := hC.2.2.2.2.2.1
  have hx : inR x := ok_head hst
  refine va_newq (D := D) hC.1 hC.2.1 hC.2.2.2.2.1 (hts _ hlk) hK.2.2.2 hK.1 hW.1 hW.2.1 hS hA (by intro w; rw [← oi_0, oi_lt hx inR0] at w; omega) (oi_nat hx) (by omega) hcap.1 hcap.2 hdg (fun q cA H1 hK1 hP1 hD1 hS1 => ?_)
  have hcA : cA = cS := by
    have h1 : va_RA s cA (.object RX5) := (hK1.2 2 (cA, .object RX5) (by simp)).2
    have h2 : va_RA s cS (.object RX5) := (hK.1.2 1 (cS, .object RX5) rfl).2
    obtain ⟨_, _, _, _, _, h1⟩ := h1
    obtain ⟨_, _, _, _, _, h2⟩ := h2
    exact Option.some.inj (h1.symm.trans h2)
  subst hcA
  have hag : ∀ k, k < sh.length → (fun k => if k = sh.length then q else ad k) k = ad k := fun k hk => if_neg (by omega)
  have hw : cw cI cA ad sh I F ++ [(q, .inl (cA, (x.toNat, .inr (.inr (.inr (.inr (fun _ => none)))))))] = cw cI cA (fun k => if k = sh.length then q else ad k) (sh ++ [.inr (50, List.replicate x.toNat (some none))]) I F := by
    refine cw_push hag (if_pos rfl) hW.2.2.1 ?_
    rw [cel_q, List.length_replicate]
    congr 7
    funext j
    simp only [cq, List.getElem?_replicate]
    split <;> rename_i hh <;> first | rfl | (split at hh <;> cases hh)
  rw [hw] at hP1 hD1
  have hlen2 : (sh ++ [Sum.inr (50, List.replicate x.toNat (some none))] : Shp).length = sh.length + 1 := by simp
  have zok : okSh (sh ++ [Sum.inr (50, List.replicate x.toNat (some none))]) := by
    intro p' cj sj hp'
    rw [hlen2]
    by_cases hp2 : p' < sh.length
    · rw [List.getElem?_append_left hp2] at hp'
      obtain ⟨g1, g2⟩ := hW.2.2.1 p' cj sj hp'
      exact ⟨g1, fun k r hk => Nat.lt_succ_of_lt (g2 k r hk)⟩
    · rw [List.getElem?_append_right (by omega)] at hp'
      have : p' - sh.length = 0 := by
        have := (List.getElem?_eq_some_iff.mp hp').1
        simp at this
        omega
      rw [this] at hp'
      cases hp'
      refine ⟨Or.inr rfl, fun k r hk => ?_⟩
      rw [List.getElem?_replicate] at hk
      split at hk <;> cases hk
  have zL : Lcl rw_ (fun k => if k = sh.length then q else ad k) (sh ++ [Sum.inr (50, List.replicate x.toNat (some none))] : Shp).length lsc μ.2.2.2.1 ls := by
    rw [hlen2]; exact hL.mono (Nat.le_succ _) hag
  have zst : ∀ v ∈ (Sum.inr (some sh.length) :: st : List AV), okv (sh ++ [Sum.inr (50, List.replicate x.toNat (some none))] : Shp).length v := by
    rw [hlen2]
    exact ok_cons (v := .inr (some sh.length)) (Nat.lt_succ_self _) (fun v hv => okv_mono (Nat.le_succ _) (ok_tail hst v hv))
  have z := K p l e s m args below meth c D cI cA A ad0 (fun k => if k = sh.length then q else ad k) H1 locs lsc hC hK hA (fun k hk => by rw [← had k hk]; exact hag k (by omega)) (by rw [hlen2]; omega) ⟨hP1, hD1, zok, hW.2.2.2⟩ hS1 zL zst
  have e2 : (Sum.inr (some sh.length) :: st).map (cv (fun k => if k = sh.length then q else ad k)) = .ref q :: st.map (cv ad) := by
    rw [List.map_cons]
    congr 1
    · simp [cv]
    · exact List.map_congr_left (fun v hv => cv_ag hag (ok_tail hst v hv))
  rw [e2] at z
  exact z
theorem w_aast {a v : Nat} {sl slv : List (Option (Option Nat))} {i : Int} (h : IO μ.2.2.1 pc n .aastore) (hs : sh[a]? = some (.inr (50, sl))) (hv : sh[v]? = some (.inr (5, slv))) (hi : 0 ≤ i ∧ i < sl.length)
    (K : WG rw_ TG μ d mc ms n0 kc ks n ls st (sh.set a (.inr (50, sl.set i.toNat (some (some v))))) I F) : WG rw_ TG μ d mc ms n0 kc ks pc ls (.inr (some v) :: .inl i :: .inr (some a) :: st) sh I F := by
  intro p l e s m args below meth c D cI cS A ad0 ad H locs lsc hC hK hA had hn0 hW hS hL hst
  obtain ⟨hd, rfl⟩ := h
  have he := cw_at (cI := cI) (cS := cS) (ad := ad) (I := I) (F := F) hs
  rw [cel_q] at he
  have hev := cw_at (cI := cI) (cS := cS) (ad := ad) (I := I) (F := F) hv
  rw [cel_obj (by decide)] at hev
  have hri : inR i := ok_head (ok_tail hst)
  have hrv : v < sh.length := ok_head hst
  have hal := (List.getElem?_eq_some_iff.mp hs).1
  have hset : (cw cI cS ad sh I F).set a (ad a, .inl (cS, sl.length, .inr (.inr (.inr (.inr (va_up (cq ad sl) (Int32.ofInt i).toNatClampNeg (some (ad v)))))))) = cw cI cS ad (sh.set a (.inr (50, sl.set i.toNat (some (some v))))) I F := by
    refine cw_set (c := .inr (50, sl.set i.toNat (some (some v)))) (by simp) (by rw [List.getElem?_set, if_pos rfl, if_pos hal]) ?_ (fun q hq => ⟨by rw [List.getElem?_set_ne (Ne.symm hq)], fun c' _ => rfl⟩)
    rw [cel_q, List.length_set]
    congr 7
    funext j
    rw [oi_nat hri]
    simp only [cq, va_up, List.getElem?_set]
    by_cases hj : j = i.toNat
    · subst hj
      rw [if_pos rfl, if_pos (by omega), if_pos rfl]
    · rw [if_neg hj, if_neg (fun z => hj z.symm)]
  have hok : okSh (sh.set a (.inr (50, sl.set i.toNat (some (some v))))) := by
    intro q cj sj hq
    rw [List.length_set]
    rw [List.getElem?_set] at hq
    by_cases hqa : a = q
    · subst hqa
      rw [if_pos rfl, if_pos hal] at hq
      cases hq
      obtain ⟨g1, g2⟩ := hW.2.2.1 a 50 sl hs
      refine ⟨Or.inr rfl, fun k' r' h' => ?_⟩
      rw [List.getElem?_set] at h'
      by_cases hkk : i.toNat = k'
      · subst hkk
        rw [if_pos rfl, if_pos (by omega)] at h'
        cases h'
        exact hrv
      · rw [if_neg hkk] at h'
        exact g2 k' r' h'
    · rw [if_neg hqa] at hq
      exact hW.2.2.1 q cj sj hq
  refine va_astq (D := D) (r := (CC 5, TT 5, NN 5)) hC.1 hC.2.1 hK.1 hW.1 hW.2.1 hS a 1 v 5 he rfl hev (cl_ok 5 (by decide)) (oi_in hri hi) hd (fun H1 locs1 hP1 hD1 hS1 => ?_)
  rw [hset] at hP1 hD1
  have hn0' : n0 ≤ (sh.set a (.inr (50, sl.set i.toNat (some (some v))))).length := by rw [List.length_set]; exact hn0
  have hL' : Lcl rw_ ad (sh.set a (.inr (50, sl.set i.toNat (some (some v))))).length lsc μ.2.2.2.1 ls := by rw [List.length_set]; exact hL
  exact K p l e s m args below meth c D cI cS A ad0 ad H1 locs1 lsc hC hK hA had hn0' ⟨hP1, hD1, hok, hW.2.2.2⟩ hS1 hL' (by rw [List.length_set]; exact ok_tail (ok_tail (ok_tail hst)))
/-- the shape of a world's ranges, where a proof wants them -/
theorem w_rng (K : (∀ a k, inR (I a k)) → (∀ a i, inR (F a i)) → WG rw_ TG μ d mc ms n0 kc ks pc ls st sh I F) : WG rw_ TG μ d mc ms n0 kc ks pc ls st sh I F := by
  intro p l e s m args below meth c D cI cS A ad0 ad H locs lsc hC hK hA had hn0 hW hS hL hst
  exact K hW.2.2.2.1 hW.2.2.2.2 p l e s m args below meth c D cI cS A ad0 ad H locs lsc hC hK hA had hn0 hW hS hL hst
theorem w_top {x : Int} (K : inR x → WG rw_ TG μ d mc ms n0 kc ks pc ls (.inl x :: st) sh I F) : WG rw_ TG μ d mc ms n0 kc ks pc ls (.inl x :: st) sh I F := by
  intro p l e s m args below meth c D cI cS A ad0 ad H locs lsc hC hK hA had hn0 hW hS hL hst
  exact K (ok_head hst) p l e s m args below meth c D cI cS A ad0 ad H locs lsc hC hK hA had hn0 hW hS hL hst
theorem w_lcl {k : Nat} {x : Int} (hk : ls[k]? = some (some (.inl x))) (K : inR x → WG rw_ TG μ d mc ms n0 kc ks pc ls st sh I F) : WG rw_ TG μ d mc ms n0 kc ks pc ls st sh I F := by
  intro p l e s m args below meth c D cI cS A ad0 ad H locs lsc hC hK hA had hn0 hW hS hL hst
  exact K (hL.get hk).2 p l e s m args below meth c D cI cS A ad0 ad H locs lsc hC hK hA had hn0 hW hS hL hst
theorem w_is0 {x : Int} {y : Option AV} (h : ISi μ.2.2.1 pc n 0) (K : WG none TG μ d mc ms n0 kc ks n (some (.inl x) :: ls) st sh I F) : WG none TG μ d mc ms n0 kc ks pc (y :: ls) (.inl x :: st) sh I F := w_istore h (by simp) (Or.inl rfl) K
theorem w_as0 {x : Nat} {y : Option AV} (h : ISr μ.2.2.1 pc n 0) (K : WG none TG μ d mc ms n0 kc ks n (some (.inr (some x)) :: ls) st sh I F) : WG none TG μ d mc ms n0 kc ks pc (y :: ls) (.inr (some x) :: st) sh I F := w_astore h (by simp) (Or.inl rfl) K
theorem w_ii0 {x v : Int} (h : II μ.2.2.1 pc n 0 v) (hr : inR (x + v)) (K : WG none TG μ d mc ms n0 kc ks n (some (.inl (x + v)) :: ls) st sh I F) : WG none TG μ d mc ms n0 kc ks pc (some (.inl x) :: ls) st sh I F := w_iinc h (x := x) rfl hr (Or.inl rfl) K
theorem w_is1 {x : Int} {a0 y : Option AV} (h : ISi μ.2.2.1 pc n 1) (K : WG rw_ TG μ d mc ms n0 kc ks n (a0 :: some (.inl x) :: ls) st sh I F) : WG rw_ TG μ d mc ms n0 kc ks pc (a0 :: y :: ls) (.inl x :: st) sh I F := w_istore h (by simp) (Or.inr (by decide)) K
theorem w_as1 {x : Nat} {a0 y : Option AV} (h : ISr μ.2.2.1 pc n 1) (K : WG rw_ TG μ d mc ms n0 kc ks n (a0 :: some (.inr (some x)) :: ls) st sh I F) : WG rw_ TG μ d mc ms n0 kc ks pc (a0 :: y :: ls) (.inr (some x) :: st) sh I F := w_astore h (by simp) (Or.inr (by decide)) K
theorem w_ii1 {x v : Int} {a0 : Option AV} (h : II μ.2.2.1 pc n 1 v) (hr : inR (x + v)) (K : WG rw_ TG μ d mc ms n0 kc ks n (a0 :: some (.inl (x + v)) :: ls) st sh I F) : WG rw_ TG μ d mc ms n0 kc ks pc (a0 :: some (.inl x) :: ls) st sh I F := w_iinc h (x := x) rfl hr (Or.inr (by decide)) K
theorem w_is2 {x : Int} {a0 a1 y : Option AV} (h : ISi μ.2.2.1 pc n 2) (K : WG rw_ TG μ d mc ms n0 kc ks n (a0 :: a1 :: some (.inl x) :: ls) st sh I F) : WG rw_ TG μ d mc ms n0 kc ks pc (a0 :: a1 :: y :: ls) (.inl x :: st) sh I F := w_istore h (by simp) (Or.inr (by decide)) K
theorem w_as2 {x : Nat} {a0 a1 y : Option AV} (h : ISr μ.2.2.1 pc n 2) (K : WG rw_ TG μ d mc ms n0 kc ks n (a0 :: a1 :: some (.inr (some x)) :: ls) st sh I F) : WG rw_ TG μ d mc ms n0 kc ks pc (a0 :: a1 :: y :: ls) (.inr (some x) :: st) sh I F := w_astore h (by simp) (Or.inr (by decide)) K
theorem w_ii2 {x v : Int} {a0 a1 : Option AV} (h : II μ.2.2.1 pc n 2 v) (hr : inR (x + v)) (K : WG rw_ TG μ d mc ms n0 kc ks n (a0 :: a1 :: some (.inl (x + v)) :: ls) st sh I F) : WG rw_ TG μ d mc ms n0 kc ks pc (a0 :: a1 :: some (.inl x) :: ls) st sh I F := w_iinc h (x := x) rfl hr (Or.inr (by decide)) K
theorem w_is3 {x : Int} {a0 a1 a2 y : Option AV} (h : ISi μ.2.2.1 pc n 3) (K : WG rw_ TG μ d mc ms n0 kc ks n (a0 :: a1 :: a2 :: some (.inl x) :: ls) st sh I F) : WG rw_ TG μ d mc ms n0 kc ks pc (a0 :: a1 :: a2 :: y :: ls) (.inl x :: st) sh I F := w_istore h (by simp) (Or.inr (by decide)) K
theorem w_as3 {x : Nat} {a0 a1 a2 y : Option AV} (h : ISr μ.2.2.1 pc n 3) (K : WG rw_ TG μ d mc ms n0 kc ks n (a0 :: a1 :: a2 :: some (.inr (some x)) :: ls) st sh I F) : WG rw_ TG μ d mc ms n0 kc ks pc (a0 :: a1 :: a2 :: y :: ls) (.inr (some x) :: st) sh I F := w_astore h (by simp) (Or.inr (by decide)) K
theorem w_ii3 {x v : Int} {a0 a1 a2 : Option AV} (h : II μ.2.2.1 pc n 3 v) (hr : inR (x + v)) (K : WG rw_ TG μ d mc ms n0 kc ks n (a0 :: a1 :: a2 :: some (.inl (x + v)) :: ls) st sh I F) : WG rw_ TG μ d mc ms n0 kc ks pc (a0 :: a1 :: a2 :: some (.inl x) :: ls) st sh I F := w_iinc h (x := x) rfl hr (Or.inr (by decide)) K
theorem w_is4 {x : Int} {a0 a1 a2 a3 y : Option AV} (h : ISi μ.2.2.1 pc n 4) (K : WG rw_ TG μ d mc ms n0 kc ks n (a0 :: a1 :: a2 :: a3 :: some (.inl x) :: ls) st sh I F) : WG rw_ TG μ d mc ms n0 kc ks pc (a0 :: a1 :: a2 :: a3 :: y :: ls) (.inl x :: st) sh I F := w_istore h (by simp) (Or.inr (by decide)) K
theorem w_as4 {x : Nat} {a0 a1 a2 a3 y : Option AV} (h : ISr μ.2.2.1 pc n 4) (K : WG rw_ TG μ d mc ms n0 kc ks n (a0 :: a1 :: a2 :: a3 :: some (.inr (some x)) :: ls) st sh I F) : WG rw_ TG μ d mc ms n0 kc ks pc (a0 :: a1 :: a2 :: a3 :: y :: ls) (.inr (some x) :: st) sh I F := w_astore h (by simp) (Or.inr (by decide)) K
theorem w_ii4 {x v : Int} {a0 a1 a2 a3 : Option AV} (h : II μ.2.2.1 pc n 4 v) (hr : inR (x + v)) (K : WG rw_ TG μ d mc ms n0 kc ks n (a0 :: a1 :: a2 :: a3 :: some (.inl (x + v)) :: ls) st sh I F) : WG rw_ TG μ d mc ms n0 kc ks pc (a0 :: a1 :: a2 :: a3 :: some (.inl x) :: ls) st sh I F := w_iinc h (x := x) rfl hr (Or.inr (by decide)) K
theorem w_is5 {x : Int} {a0 a1 a2 a3 a4 y : Option AV} (h : ISi μ.2.2.1 pc n 5) (K : WG rw_ TG μ d mc ms n0 kc ks n (a0 :: a1 :: a2 :: a3 :: a4 :: some (.inl x) :: ls) st sh I F) : WG rw_ TG μ d mc ms n0 kc ks pc (a0 :: a1 :: a2 :: a3 :: a4 :: y :: ls) (.inl x :: st) sh I F := w_istore h (by simp) (Or.inr (by decide)) K
theorem w_as5 {x : Nat} {a0 a1 a2 a3 a4 y : Option AV} (h : ISr μ.2.2.1 pc n 5) (K : WG rw_ TG μ d mc ms n0 kc ks n (a0 :: a1 :: a2 :: a3 :: a4 :: some (.inr (some x)) :: ls) st sh I F) : WG rw_ TG μ d mc ms n0 kc ks pc (a0 :: a1 :: a2 :: a3 :: a4 :: y :: ls) (.inr (some x) :: st) sh I F := w_astore h (by simp) (Or.inr (by decide)) K
theorem w_ii5 {x v : Int} {a0 a1 a2 a3 a4 : Option AV} (h : II μ.2.2.1 pc n 5 v) (hr : inR (x + v)) (K : WG rw_ TG μ d mc ms n0 kc ks n (a0 :: a1 :: a2 :: a3 :: a4 :: some (.inl (x + v)) :: ls) st sh I F) : WG rw_ TG μ d mc ms n0 kc ks pc (a0 :: a1 :: a2 :: a3 :: a4 :: some (.inl x) :: ls) st sh I F := w_iinc h (x := x) rfl hr (Or.inr (by decide)) K
theorem w_is6 {x : Int} {a0 a1 a2 a3 a4 a5 y : Option AV} (h : ISi μ.2.2.1 pc n 6) (K : WG rw_ TG μ d mc ms n0 kc ks n (a0 :: a1 :: a2 :: a3 :: a4 :: a5 :: some (.inl x) :: ls) st sh I F) : WG rw_ TG μ d mc ms n0 kc ks pc (a0 :: a1 :: a2 :: a3 :: a4 :: a5 :: y :: ls) (.inl x :: st) sh I F := w_istore h (by simp) (Or.inr (by decide)) K
theorem w_as6 {x : Nat} {a0 a1 a2 a3 a4 a5 y : Option AV} (h : ISr μ.2.2.1 pc n 6) (K : WG rw_ TG μ d mc ms n0 kc ks n (a0 :: a1 :: a2 :: a3 :: a4 :: a5 :: some (.inr (some x)) :: ls) st sh I F) : WG rw_ TG μ d mc ms n0 kc ks pc (a0 :: a1 :: a2 :: a3 :: a4 :: a5 :: y :: ls) (.inr (some x) :: st) sh I F := w_astore h (by simp) (Or.inr (by decide)) K
theorem w_ii6 {x v : Int} {a0 a1 a2 a3 a4 a5 : Option AV} (h : II μ.2.2.1 pc n 6 v) (hr : inR (x + v)) (K : WG rw_ TG μ d mc ms n0 kc ks n (a0 :: a1 :: a2 :: a3 :: a4 :: a5 :: some (.inl (x + v)) :: ls) st sh I F) : WG rw_ TG μ d mc ms n0 kc ks pc (a0 :: a1 :: a2 :: a3 :: a4 :: a5 :: some (.inl x) :: ls) st sh I F := w_iinc h (x := x) rfl hr (Or.inr (by decide)) K
theorem w_is7 {x : Int} {a0 a1 a2 a3 a4 a5 a6 y : Option AV} (h : ISi μ.2.2.1 pc n 7) (K : WG rw_ TG μ d mc ms n0 kc ks n (a0 :: a1 :: a2 :: a3 :: a4 :: a5 :: a6 :: some (.inl x) :: ls) st sh I F) : WG rw_ TG μ d mc ms n0 kc ks pc (a0 :: a1 :: a2 :: a3 :: a4 :: a5 :: a6 :: y :: ls) (.inl x :: st) sh I F := w_istore h (by simp) (Or.inr (by decide)) K
theorem w_as7 {x : Nat} {a0 a1 a2 a3 a4 a5 a6 y : Option AV} (h : ISr μ.2.2.1 pc n 7) (K : WG rw_ TG μ d mc ms n0 kc ks n (a0 :: a1 :: a2 :: a3 :: a4 :: a5 :: a6 :: some (.inr (some x)) :: ls) st sh I F) : WG rw_ TG μ d mc ms n0 kc ks pc (a0 :: a1 :: a2 :: a3 :: a4 :: a5 :: a6 :: y :: ls) (.inr (some x) :: st) sh I F := w_astore h (by simp) (Or.inr (by decide)) K
theorem w_ii7 {x v : Int} {a0 a1 a2 a3 a4 a5 a6 : Option AV} (h : II μ.2.2.1 pc n 7 v) (hr : inR (x + v)) (K : WG rw_ TG μ d mc ms n0 kc ks n (a0 :: a1 :: a2 :: a3 :: a4 :: a5 :: a6 :: some (.inl (x + v)) :: ls) st sh I F) : WG rw_ TG μ d mc ms n0 kc ks pc (a0 :: a1 :: a2 :: a3 :: a4 :: a5 :: a6 :: some (.inl x) :: ls) st sh I F := w_iinc h (x := x) rfl hr (Or.inr (by decide)) K
theorem w_is8 {x : Int} {a0 a1 a2 a3 a4 a5 a6 a7 y : Option AV} (h : ISi μ.2.2.1 pc n 8) (K : WG rw_ TG μ d mc ms n0 kc ks n (a0 :: a1 :: a2 :: a3 :: a4 :: a5 :: a6 :: a7 :: some (.inl x) :: ls) st sh I F) : WG rw_ TG μ d mc ms n0 kc ks pc (a0 :: a1 :: a2 :: a3 :: a4 :: a5 :: a6 :: a7 :: y :: ls) (.inl x :: st) sh I F := w_istore h (by simp) (Or.inr (by decide)) K
theorem w_as8 {x : Nat} {a0 a1 a2 a3 a4 a5 a6 a7 y : Option AV} (h : ISr μ.2.2.1 pc n 8) (K : WG rw_ TG μ d mc ms n0 kc ks n (a0 :: a1 :: a2 :: a3 :: a4 :: a5 :: a6 :: a7 :: some (.inr (some x)) :: ls) st sh I F) : WG rw_ TG μ d mc ms n0 kc ks pc (a0 :: a1 :: a2 :: a3 :: a4 :: a5 :: a6 :: a7 :: y :: ls) (.inr (some x) :: st) sh I F := w_astore h (by simp) (Or.inr (by decide)) K
theorem w_ii8 {x v : Int} {a0 a1 a2 a3 a4 a5 a6 a7 : Option AV} (h : II μ.2.2.1 pc n 8 v) (hr : inR (x + v)) (K : WG rw_ TG μ d mc ms n0 kc ks n (a0 :: a1 :: a2 :: a3 :: a4 :: a5 :: a6 :: a7 :: some (.inl (x + v)) :: ls) st sh I F) : WG rw_ TG μ d mc ms n0 kc ks pc (a0 :: a1 :: a2 :: a3 :: a4 :: a5 :: a6 :: a7 :: some (.inl x) :: ls) st sh I F := w_iinc h (x := x) rfl hr (Or.inr (by decide)) K
theorem w_is9 {x : Int} {a0 a1 a2 a3 a4 a5 a6 a7 a8 y : Option AV} (h : ISi μ.2.2.1 pc n 9) (K : WG rw_ TG μ d mc ms n0 kc ks n (a0 :: a1 :: a2 :: a3 :: a4 :: a5 :: a6 :: a7 :: a8 :: some (.inl x) :: ls) st sh I F) : WG rw_ TG μ d mc ms n0 kc ks pc (a0 :: a1 :: a2 :: a3 :: a4 :: a5 :: a6 :: a7 :: a8 :: y :: ls) (.inl x :: st) sh I F := w_istore h (by simp) (Or.inr (by decide)) K
theorem w_as9 {x : Nat} {a0 a1 a2 a3 a4 a5 a6 a7 a8 y : Option AV} (h : ISr μ.2.2.1 pc n 9) (K : WG rw_ TG μ d mc ms n0 kc ks n (a0 :: a1 :: a2 :: a3 :: a4 :: a5 :: a6 :: a7 :: a8 :: some (.inr (some x)) :: ls) st sh I F) : WG rw_ TG μ d mc ms n0 kc ks pc (a0 :: a1 :: a2 :: a3 :: a4 :: a5 :: a6 :: a7 :: a8 :: y :: ls) (.inr (some x) :: st) sh I F := w_astore h (by simp) (Or.inr (by decide)) K
theorem w_ii9 {x v : Int} {a0 a1 a2 a3 a4 a5 a6 a7 a8 : Option AV} (h : II μ.2.2.1 pc n 9 v) (hr : inR (x + v)) (K : WG rw_ TG μ d mc ms n0 kc ks n (a0 :: a1 :: a2 :: a3 :: a4 :: a5 :: a6 :: a7 :: a8 :: some (.inl (x + v)) :: ls) st sh I F) : WG rw_ TG μ d mc ms n0 kc ks pc (a0 :: a1 :: a2 :: a3 :: a4 :: a5 :: a6 :: a7 :: a8 :: some (.inl x) :: ls) st sh I F := w_iinc h (x := x) rfl hr (Or.inr (by decide)) K
theorem w_is10 {x : Int} {a0 a1 a2 a3 a4 a5 a6 a7 a8 a9 y : Option AV} (h : ISi μ.2.2.1 pc n 10) (K : WG rw_ TG μ d mc ms n0 kc ks n (a0 :: a1 :: a2 :: a3 :: a4 :: a5 :: a6 :: a7 :: a8 :: a9 :: some (.inl x) :: ls) st sh I F) : WG rw_ TG μ d mc ms n0 kc ks pc (a0 :: a1 :: a2 :: a3 :: a4 :: a5 :: a6 :: a7 :: a8 :: a9 :: y :: ls) (.inl x :: st) sh I F := w_istore h (by simp) (Or.inr (by decide)) K
theorem w_as10 {x : Nat} {a0 a1 a2 a3 a4 a5 a6 a7 a8 a9 y : Option AV} (h : ISr μ.2.2.1 pc n 10) (K : WG rw_ TG μ d mc ms n0 kc ks n (a0 :: a1 :: a2 :: a3 :: a4 :: a5 :: a6 :: a7 :: a8 :: a9 :: some (.inr (some x)) :: ls) st sh I F) : WG rw_ TG μ d mc ms n0 kc ks pc (a0 :: a1 :: a2 :: a3 :: a4 :: a5 :: a6 :: a7 :: a8 :: a9 :: y :: ls) (.inr (some x) :: st) sh I F := w_astore h (by simp) (Or.inr (by decide)) K
theorem w_ii10 {x v : Int} {a0 a1 a2 a3 a4 a5 a6 a7 a8 a9 : Option AV} (h : II μ.2.2.1 pc n 10 v) (hr : inR (x + v)) (K : WG rw_ TG μ d mc ms n0 kc ks n (a0 :: a1 :: a2 :: a3 :: a4 :: a5 :: a6 :: a7 :: a8 :: a9 :: some (.inl (x + v)) :: ls) st sh I F) : WG rw_ TG μ d mc ms n0 kc ks pc (a0 :: a1 :: a2 :: a3 :: a4 :: a5 :: a6 :: a7 :: a8 :: a9 :: some (.inl x) :: ls) st sh I F := w_iinc h (x := x) rfl hr (Or.inr (by decide)) K
theorem w_is11 {x : Int} {a0 a1 a2 a3 a4 a5 a6 a7 a8 a9 a10 y : Option AV} (h : ISi μ.2.2.1 pc n 11) (K : WG rw_ TG μ d mc ms n0 kc ks n (a0 :: a1 :: a2 :: a3 :: a4 :: a5 :: a6 :: a7 :: a8 :: a9 :: a10 :: some (.inl x) :: ls) st sh I F) : WG rw_ TG μ d mc ms n0 kc ks pc (a0 :: a1 :: a2 :: a3 :: a4 :: a5 :: a6 :: a7 :: a8 :: a9 :: a10 :: y :: ls) (.inl x :: st) sh I F := w_istore h (by simp) (Or.inr (by decide)) K
theorem w_as11 {x : Nat} {a0 a1 a2 a3 a4 a5 a6 a7 a8 a9 a10 y : Option AV} (h : ISr μ.2.2.1 pc n 11) (K : WG rw_ TG μ d mc ms n0 kc ks n (a0 :: a1 :: a2 :: a3 :: a4 :: a5 :: a6 :: a7 :: a8 :: a9 :: a10 :: some (.inr (some x)) :: ls) st sh I F) : WG rw_ TG μ d mc ms n0 kc ks pc (a0 :: a1 :: a2 :: a3 :: a4 :: a5 :: a6 :: a7 :: a8 :: a9 :: a10 :: y :: ls) (.inr (some x) :: st) sh I F := w_astore h (by simp) (Or.inr (by decide)) K
theorem w_ii11 {x v : Int} {a0 a1 a2 a3 a4 a5 a6 a7 a8 a9 a10 : Option AV} (h : II μ.2.2.1 pc n 11 v) (hr : inR (x + v)) (K : WG rw_ TG μ d mc ms n0 kc ks n (a0 :: a1 :: a2 :: a3 :: a4 :: a5 :: a6 :: a7 :: a8 :: a9 :: a10 :: some (.inl (x + v)) :: ls) st sh I F) : WG rw_ TG μ d mc ms n0 kc ks pc (a0 :: a1 :: a2 :: a3 :: a4 :: a5 :: a6 :: a7 :: a8 :: a9 :: a10 :: some (.inl x) :: ls) st sh I F := w_iinc h (x := x) rfl hr (Or.inr (by decide)) K
theorem w_is12 {x : Int} {a0 a1 a2 a3 a4 a5 a6 a7 a8 a9 a10 a11 y : Option AV} (h : ISi μ.2.2.1 pc n 12) (K : WG rw_ TG μ d mc ms n0 kc ks n (a0 :: a1 :: a2 :: a3 :: a4 :: a5 :: a6 :: a7 :: a8 :: a9 :: a10 :: a11 :: some (.inl x) :: ls) st sh I F) : WG rw_ TG μ d mc ms n0 kc ks pc (a0 :: a1 :: a2 :: a3 :: a4 :: a5 :: a6 :: a7 :: a8 :: a9 :: a10 :: a11 :: y :: ls) (.inl x :: st) sh I F := w_istore h (by simp) (Or.inr (by decide)) K
theorem w_as12 {x : Nat} {a0 a1 a2 a3 a4 a5 a6 a7 a8 a9 a10 a11 y : Option AV} (h : ISr μ.2.2.1 pc n 12) (K : WG rw_ TG μ d mc ms n0 kc ks n (a0 :: a1 :: a2 :: a3 :: a4 :: a5 :: a6 :: a7 :: a8 :: a9 :: a10 :: a11 :: some (.inr (some x)) :: ls) st sh I F) : WG rw_ TG μ d mc ms n0 kc ks pc (a0 :: a1 :: a2 :: a3 :: a4 :: a5 :: a6 :: a7 :: a8 :: a9 :: a10 :: a11 :: y :: ls) (.inr (some x) :: st) sh I F := w_astore h (by simp) (Or.inr (by decide)) K
theorem w_ii12 {x v : Int} {a0 a1 a2 a3 a4 a5 a6 a7 a8 a9 a10 a11 : Option AV} (h : II μ.2.2.1 pc n 12 v) (hr : inR (x + v)) (K : WG rw_ TG μ d mc ms n0 kc ks n (a0 :: a1 :: a2 :: a3 :: a4 :: a5 :: a6 :: a7 :: a8 :: a9 :: a10 :: a11 :: some (.inl (x + v)) :: ls) st sh I F) : WG rw_ TG μ d mc ms n0 kc ks pc (a0 :: a1 :: a2 :: a3 :: a4 :: a5 :: a6 :: a7 :: a8 :: a9 :: a10 :: a11 :: some (.inl x) :: ls) st sh I F := w_iinc h (x := x) rfl hr (Or.inr (by decide)) K
theorem w_is13 {x : Int} {a0 a1 a2 a3 a4 a5 a6 a7 a8 a9 a10 a11 a12 y : Option AV} (h : ISi μ.2.2.1 pc n 13) (K : WG rw_ TG μ d mc ms n0 kc ks n (a0 :: a1 :: a2 :: a3 :: a4 :: a5 :: a6 :: a7 :: a8 :: a9 :: a10 :: a11 :: a12 :: some (.inl x) :: ls) st sh I F) : WG rw_ TG μ d mc ms n0 kc ks pc (a0 :: a1 :: a2 :: a3 :: a4 :: a5 :: a6 :: a7 :: a8 :: a9 :: a10 :: a11 :: a12 :: y :: ls) (.inl x :: st) sh I F := w_istore h (by simp) (Or.inr (by decide)) K
theorem w_as13 {x : Nat} {a0 a1 a2 a3 a4 a5 a6 a7 a8 a9 a10 a11 a12 y : Option AV} (h : ISr μ.2.2.1 pc n 13) (K : WG rw_ TG μ d mc ms n0 kc ks n (a0 :: a1 :: a2 :: a3 :: a4 :: a5 :: a6 :: a7 :: a8 :: a9 :: a10 :: a11 :: a12 :: some (.inr (some x)) :: ls) st sh I F) : WG rw_ TG μ d mc ms n0 kc ks pc (a0 :: a1 :: a2 :: a3 :: a4 :: a5 :: a6 :: a7 :: a8 :: a9 :: a10 :: a11 :: a12 :: y :: ls) (.inr (some x) :: st) sh I F := w_astore h (by simp) (Or.inr (by decide)) K
theorem w_ii13 {x v : Int} {a0 a1 a2 a3 a4 a5 a6 a7 a8 a9 a10 a11 a12 : Option AV} (h : II μ.2.2.1 pc n 13 v) (hr : inR (x + v)) (K : WG rw_ TG μ d mc ms n0 kc ks n (a0 :: a1 :: a2 :: a3 :: a4 :: a5 :: a6 :: a7 :: a8 :: a9 :: a10 :: a11 :: a12 :: some (.inl (x + v)) :: ls) st sh I F) : WG rw_ TG μ d mc ms n0 kc ks pc (a0 :: a1 :: a2 :: a3 :: a4 :: a5 :: a6 :: a7 :: a8 :: a9 :: a10 :: a11 :: a12 :: some (.inl x) :: ls) st sh I F := w_iinc h (x := x) rfl hr (Or.inr (by decide)) K
theorem w_is14 {x : Int} {a0 a1 a2 a3 a4 a5 a6 a7 a8 a9 a10 a11 a12 a13 y : Option AV} (h : ISi μ.2.2.1 pc n 14) (K : WG rw_ TG μ d mc ms n0 kc ks n (a0 :: a1 :: a2 :: a3 :: a4 :: a5 :: a6 :: a7 :: a8 :: a9 :: a10 :: a11 :: a12 :: a13 :: some (.inl x) :: ls) st sh I F) : WG rw_ TG μ d mc ms n0 kc ks pc (a0 :: a1 :: a2 :: a3 :: a4 :: a5 :: a6 :: a7 :: a8 :: a9 :: a10 :: a11 :: a12 :: a13 :: y :: ls) (.inl x :: st) sh I F := w_istore h (by simp) (Or.inr (by decide)) K
theorem w_as14 {x : Nat} {a0 a1 a2 a3 a4 a5 a6 a7 a8 a9 a10 a11 a12 a13 y : Option AV} (h : ISr μ.2.2.1 pc n 14) (K : WG rw_ TG μ d mc ms n0 kc ks n (a0 :: a1 :: a2 :: a3 :: a4 :: a5 :: a6 :: a7 :: a8 :: a9 :: a10 :: a11 :: a12 :: a13 :: some (.inr (some x)) :: ls) st sh I F) : WG rw_ TG μ d mc ms n0 kc ks pc (a0 :: a1 :: a2 :: a3 :: a4 :: a5 :: a6 :: a7 :: a8 :: a9 :: a10 :: a11 :: a12 :: a13 :: y :: ls) (.inr (some x) :: st) sh I F := w_astore h (by simp) (Or.inr (by decide)) K
theorem w_ii14 {x v : Int} {a0 a1 a2 a3 a4 a5 a6 a7 a8 a9 a10 a11 a12 a13 : Option AV} (h : II μ.2.2.1 pc n 14 v) (hr : inR (x + v)) (K : WG rw_ TG μ d mc ms n0 kc ks n (a0 :: a1 :: a2 :: a3 :: a4 :: a5 :: a6 :: a7 :: a8 :: a9 :: a10 :: a11 :: a12 :: a13 :: some (.inl (x + v)) :: ls) st sh I F) : WG rw_ TG μ d mc ms n0 kc ks pc (a0 :: a1 :: a2 :: a3 :: a4 :: a5 :: a6 :: a7 :: a8 :: a9 :: a10 :: a11 :: a12 :: a13 :: some (.inl x) :: ls) st sh I F := w_iinc h (x := x) rfl hr (Or.inr (by decide)) K
theorem w_is15 {x : Int} {a0 a1 a2 a3 a4 a5 a6 a7 a8 a9 a10 a11 a12 a13 a14 y : Option AV} (h : ISi μ.2.2.1 pc n 15) (K : WG rw_ TG μ d mc ms n0 kc ks n (a0 :: a1 :: a2 :: a3 :: a4 :: a5 :: a6 :: a7 :: a8 :: a9 :: a10 :: a11 :: a12 :: a13 :: a14 :: some (.inl x) :: ls) st sh I F) : WG rw_ TG μ d mc ms n0 kc ks pc (a0 :: a1 :: a2 :: a3 :: a4 :: a5 :: a6 :: a7 :: a8 :: a9 :: a10 :: a11 :: a12 :: a13 :: a14 :: y :: ls) (.inl x :: st) sh I F := w_istore h (by simp) (Or.inr (by decide)) K
theorem w_as15 {x : Nat} {a0 a1 a2 a3 a4 a5 a6 a7 a8 a9 a10 a11 a12 a13 a14 y : Option AV} (h : ISr μ.2.2.1 pc n 15) (K : WG rw_ TG μ d mc ms n0 kc ks n (a0 :: a1 :: a2 :: a3 :: a4 :: a5 :: a6 :: a7 :: a8 :: a9 :: a10 :: a11 :: a12 :: a13 :: a14 :: some (.inr (some x)) :: ls) st sh I F) : WG rw_ TG μ d mc ms n0 kc ks pc (a0 :: a1 :: a2 :: a3 :: a4 :: a5 :: a6 :: a7 :: a8 :: a9 :: a10 :: a11 :: a12 :: a13 :: a14 :: y :: ls) (.inr (some x) :: st) sh I F := w_astore h (by simp) (Or.inr (by decide)) K
theorem w_ii15 {x v : Int} {a0 a1 a2 a3 a4 a5 a6 a7 a8 a9 a10 a11 a12 a13 a14 : Option AV} (h : II μ.2.2.1 pc n 15 v) (hr : inR (x + v)) (K : WG rw_ TG μ d mc ms n0 kc ks n (a0 :: a1 :: a2 :: a3 :: a4 :: a5 :: a6 :: a7 :: a8 :: a9 :: a10 :: a11 :: a12 :: a13 :: a14 :: some (.inl (x + v)) :: ls) st sh I F) : WG rw_ TG μ d mc ms n0 kc ks pc (a0 :: a1 :: a2 :: a3 :: a4 :: a5 :: a6 :: a7 :: a8 :: a9 :: a10 :: a11 :: a12 :: a13 :: a14 :: some (.inl x) :: ls) st sh I F := w_iinc h (x := x) rfl hr (Or.inr (by decide)) K
end CALLS
