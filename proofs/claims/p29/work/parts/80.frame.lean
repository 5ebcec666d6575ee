section FRAME
variable {rw_ : Option Nat} {TG : TGT} {μ μ' : MI} {d mc ms d' n0 kc ks pc n t : Nat} {ls : List (Option AV)} {st : List AV} {sh sh1 R : Shp} {I : IE} {F : FE} {cI cS : ClassId} {ad ad' : Nat → Nat}
def mxI (N : Nat) (I1 I : IE) : IE := fun a => if a < N then I1 a else I a
def mxF (N : Nat) (F1 F : FE) : FE := fun a => if a < N then F1 a else F a
theorem cw_in {k : Nat} {q : Nat × va_E} (h : (cw cI cS ad sh I F)[k]? = some q) : ∃ c, sh[k]? = some c ∧ q = (ad k, cel cI cS ad I F k c) := by
  simp only [cw, List.getElem?_mapIdx] at h
  cases hc : sh[k]? with
  | none => rw [hc] at h; cases h
  | some c =>
    rw [hc] at h
    exact ⟨c, rfl, (Option.some.inj h).symm⟩
/-- a cell's words by the same addresses and the same contents -/
theorem cel_eq {I1 : IE} {F1 : FE} {p : Nat} {c : Sc} {N : Nat} (hok : ∀ (ci : Nat) (sl : List (Option (Option Nat))), c = .inr (ci, sl) → ∀ (k r : Nat), sl[k]? = some (some (some r)) → r < N) (hag : ∀ k, k < N → ad' k = ad k) (hI : I1 p = I p) (hF : F1 p = F p) : cel cI cS ad' I1 F1 p c = cel cI cS ad I F p c := by
  rcases c with n | ⟨ci, sl⟩
  · simp only [cel, hF]
  · have hk := hok ci sl rfl
    simp only [cel]
    by_cases h50 : ci = 50
    · rw [if_pos h50, if_pos h50]
      congr 7
      funext k
      simp only [cq]
      rcases hs : sl[k]? with _ | ⟨_ | ⟨_ | r⟩⟩ <;> try rfl
      simp only
      rw [hag r (hk k r hs)]
    · rw [if_neg h50, if_neg h50]
      congr 2
      apply List.ext_getElem?
      intro k
      simp only [List.getElem?_mapIdx]
      rcases hs : sl[k]? with _ | ⟨_ | ⟨_ | r⟩⟩
      · rfl
      · simp only [Option.map_some, sv, hI]
      · rfl
      · simp only [Option.map_some, sv]
        rw [hag r (hk k r hs)]
/-- behind a call whose contract speaks of the first cells alone -/
theorem w_backX {p : Program} {l : Launch} {e : Env} {s : State} {m : MethodId} {args : Array Value} {below : List Frame} {meth : Method} {c : Code} {D : va_G} {A : Nat → Prop} {ad0 : Nat → Nat} {H : Heap} {locs : List Loc} {lsc : Array Slot} {rest : List AV} {st1 : List Value} {ca : Array Value} {P : Option AV → IE → FE → Prop} {N : Nat}
    (hN : sh1.length = N) (hok1 : okSh sh1) (hC : Cx μ p s m args meth c) (hK : Kn D cI cS s) (hA : ∀ q : Nat, s.heap.size ≤ q → A q) (had : ∀ k, k < n0 → ad k = ad0 k) (hn0 : n0 ≤ (sh1 ++ R).length) (hW : Wd D cI cS A ad (sh1 ++ R) I F H) (hS : va_S A s.heap H locs) (hL : Lcl rw_ ad (sh1 ++ R).length lsc μ.2.2.2.1 ls) (hst : ∀ v ∈ rest, okv (sh1 ++ R).length v)
    (hrun : va_Run p l e (rmd d mc ms) s m args below meth c H locs kc ks 0 0 (F0 m pc lsc st1) (rest.map (cv ad)) (PP D cI cS (va_A (cw cI cS ad sh1 I F) H.size) ad sh1.length (fun r sh' I' F' => sh' = sh1 ∧ P r I' F') ca) (va_A (cw cI cS ad sh1 I F) H.size))
    (K : ∀ r I1 F1, P r I1 F1 → WG rw_ TG μ d mc ms n0 kc ks (pc + 3) ls (r.toList ++ rest) (sh1 ++ R) (mxI N I1 I) (mxF N F1 F)) :
    W p l e (rmd d mc ms) s m args below meth c H locs kc ks (TG below args s A D cI cS ad0) (F0 m pc lsc st1) := by
  subst hN
  intro T hT X
  obtain ⟨v, st₀, t, T', L, h0, X', hL2, e1, e2, ⟨⟨r, sh', I', F', ad', hv, ⟨rfl, hq⟩, hag, hlen, hW', hokr⟩, hz, hkeep⟩, stp⟩ := hrun T hT X
  have hv : v = r.map (cv ad') := by cases hv; rfl
  subst hv
  rw [h0] at hz hkeep
  have hll : sh'.length ≤ (sh' ++ R).length := by rw [List.length_append]; omega
  have ad1 : ∀ (k : Nat) (q : Nat × va_E), (cw cI cS ad sh' I F)[k]? = some q → (cw cI cS ad (sh' ++ R) I F)[k]? = some q := fun k q hk => by
    obtain ⟨cc, h1, rfl⟩ := cw_in hk
    exact cw_at (by rw [List.getElem?_append_left (List.getElem?_eq_some_iff.mp h1).1]; exact h1)
  have hAA : ∀ q : Nat, va_A (cw cI cS ad sh' I F) H.size q → A q := fun q hq => by
    rcases hq with ⟨k, e, hk⟩ | hq
    · exact hW.2.1.2 k _ (ad1 k _ hk)
    · exact hA q (Nat.le_trans hS.1 hq)
  have hS' : va_S A s.heap T'.heap (locs ++ L) := ⟨Nat.le_trans hS.1 (by rw [e1]; exact hz), fun q h1 h2 => by rw [e1, hkeep q (Nat.lt_of_lt_of_le h1 hS.1) (fun z => h2 (hAA q z))]; exact hS.2.1 q h1 h2, fun q hq => by
      rcases List.mem_append.mp hq with h | h
      · exact hS.2.2 q h
      · exact hAA _ (hL2 q h)⟩
  have hst' : ∀ v ∈ r.toList ++ rest, okv (sh' ++ R).length v := fun v hv => by
    rcases List.mem_append.mp hv with h | h
    · cases r with
      | none => cases h
      | some r =>
        have : v = r := by simpa using h
        subst this
        exact okv_mono hll (hokr v rfl)
    · exact hst v h
  -- the world behind the call, at the old addresses
  have oldn : ∀ (k : Nat) (cc : Sc), (sh' ++ R)[k]? = some cc → ad k < H.size ∧ (sh'.length ≤ k → ¬ va_A (cw cI cS ad sh' I F) H.size (ad k)) := fun k cc hk => by
    have hk' := cw_at (cI := cI) (cS := cS) (ad := ad) (I := I) (F := F) hk
    have hlt := (hW.1 k _ hk').lt
    refine ⟨hlt, fun hge hA' => ?_⟩
    rcases hA' with ⟨j, e, hj⟩ | hA'
    · obtain ⟨cj, h1, h2⟩ := cw_in hj
      have hj' := ad1 j _ hj
      have := hW.2.1.1 k j _ _ hk' hj' (by show ad k = ad k; rfl)
      have := (List.getElem?_eq_some_iff.mp h1).1
      omega
    · exact absurd hA' (Nat.not_le.mpr hlt)
  have newc : ∀ (k : Nat) (cc : Sc), (sh' ++ R)[k]? = some cc → k < sh'.length → cel cI cS ad (mxI sh'.length I' I) (mxF sh'.length F' F) k cc = cel cI cS ad' I' F' k cc ∧ sh'[k]? = some cc := fun k cc hk hlt => by
    rw [List.getElem?_append_left hlt] at hk
    refine ⟨?_, hk⟩
    refine cel_eq (N := sh'.length) (fun ci sl h => ?_) (fun j hj => (hag j hj).symm) (by simp only [mxI, hlt, if_true]) (by simp only [mxF, hlt, if_true])
    subst h
    exact (hok1 k ci sl hk).2
  have oldc : ∀ (k : Nat) (cc : Sc), (sh' ++ R)[k]? = some cc → sh'.length ≤ k → cel cI cS ad (mxI sh'.length I' I) (mxF sh'.length F' F) k cc = cel cI cS ad I F k cc := fun k cc hk hge => by
    have hnl : ¬ k < sh'.length := by omega
    refine cel_eq (N := (sh' ++ R).length) (fun ci sl h => ?_) (fun j hj => rfl) (by simp only [mxI, hnl, if_false]) (by simp only [mxF, hnl, if_false])
    subst h
    exact (hW.2.2.1 k ci sl hk).2
  have hW2 : Wd D cI cS A ad (sh' ++ R) (mxI sh'.length I' I) (mxF sh'.length F' F) T'.heap := by
    refine ⟨fun k q hk => ?_, ⟨fun i j a b hi hj hab => ?_, fun k q hk => ?_⟩, hW.2.2.1, fun a k => ?_, fun a i => ?_⟩
    · obtain ⟨cc, h1, rfl⟩ := cw_in hk
      by_cases hlt : k < sh'.length
      · obtain ⟨g1, g2⟩ := newc k cc h1 hlt
        rw [g1, ← hag k hlt, e1]
        exact hW'.1 k _ (cw_at g2)
      · have hge : sh'.length ≤ k := by omega
        rw [oldc k cc h1 hge]
        obtain ⟨o1, o2⟩ := oldn k cc h1
        have one : va_P D vwCl [(ad k, cel cI cS ad I F k cc)] H := fun j q' hj => by
          have hj0 : j < 1 := (List.getElem?_eq_some_iff.mp hj).1
          obtain rfl : j = 0 := by omega
          cases Option.some.inj hj
          exact hW.1 k _ (cw_at h1)
        have two : va_P D vwCl [(ad k, cel cI cS ad I F k cc)] T'.heap := one.kept (fun j q' hj => by
          have hj0 : j < 1 := (List.getElem?_eq_some_iff.mp hj).1
          obtain rfl : j = 0 := by omega
          cases Option.some.inj hj
          rw [e1]
          exact hkeep _ o1 (o2 hge))
        exact two 0 _ rfl
    · obtain ⟨ca', h1, rfl⟩ := cw_in hi
      obtain ⟨cb', h2, rfl⟩ := cw_in hj
      exact hW.2.1.1 i j _ _ (cw_at h1) (cw_at h2) hab
    · obtain ⟨cc, h1, rfl⟩ := cw_in hk
      exact hW.2.1.2 k (ad k, cel cI cS ad I F k cc) (cw_at h1)
    · unfold mxI
      split
      · exact hW'.2.2.2.1 a k
      · exact hW.2.2.2.1 a k
    · unfold mxF
      split
      · exact hW'.2.2.2.2 a i
      · exact hW.2.2.2.2 a i
  have key := K r I' F' hq p l e s m args below meth c D cI cS A ad0 ad T'.heap (locs ++ L) lsc hC hK hA had hn0 hW2 hS' hL hst' T' rfl X'
  obtain ⟨t2, a1, b1⟩ := key
  refine ⟨t2, stp t2 ?_, b1⟩
  have es : (r.toList ++ rest).map (cv ad) = (r.map (cv ad')).toList ++ rest.map (cv ad) := by
    rw [List.map_append]
    congr 1
    cases r with
    | none => rfl
    | some r => 
      have := cv_ag hag (hokr r rfl)
      simp [this]
  rw [es] at a1
  exact a1
def isI : AV → Bool
  | .inl _ => true
  | _ => false
theorem w_cVX {P : Option AV → IE → FE → Prop} {k a ci N : Nat} {as rest : List AV} {sl : List (Option (Option Nat))} (h : ICV μ pc n μ') (hN : sh1.length = N) (hok1 : okSh sh1) (hF : MF μ' k) (hV : MV μ') (hM : MG μ' d' sh1 (.inr (some a) :: as) I F P) (hk : as.length = k) (hs : sh1[a]? = some (.inr (ci, sl))) (hci : ci < 8) (hcc : CC ci = μ'.1.cls)
    (has : as.all isI = true) (hst0 : as.reverse ++ .inr (some a) :: rest = st) (hrest : rest.length ≤ 8) (hd : d' + 1 ≤ d) (hcap : kc ≤ mc ∧ ks ≤ ms)
    (K : ∀ r I1 F1, P r I1 F1 → WG rw_ TG μ d mc ms n0 kc ks n ls (r.toList ++ rest) (sh1 ++ R) (mxI N I1 I) (mxF N F1 F)) : WG rw_ TG μ d mc ms n0 kc ks pc ls st (sh1 ++ R) I F := by
  intro p l e s m args below meth c D cI cS A ad0 ad H locs lsc hC hK hA had hn0 hW hS hL hst
  subst hst0
  obtain ⟨idx, hdg, rfl, hlk⟩ := h
  have hts := hC.2.2.2.2.2.1
  have hoas : ∀ v ∈ Sum.inr (some a) :: as, okv sh1.length v := fun v hv => by
    rcases List.mem_cons.mp hv with rfl | hv
    · exact (List.getElem?_eq_some_iff.mp hs).1
    · have h1 := hst v (by simp [hv])
      have h2 := List.all_eq_true.mp has v hv
      rcases v with x | r
      · exact h1
      · cases h2
  have ad1 : ∀ (k : Nat) (q : Nat × va_E), (cw cI cS ad sh1 I F)[k]? = some q → (cw cI cS ad (sh1 ++ R) I F)[k]? = some q := fun k q hk => by
    obtain ⟨cc, h1, rfl⟩ := cw_in hk
    exact cw_at (by rw [List.getElem?_append_left (List.getElem?_eq_some_iff.mp h1).1]; exact h1)
  have hW1 : Wd D cI cS A ad sh1 I F H := ⟨fun k q hk => hW.1 k q (ad1 k q hk), ⟨fun i j x y hi hj hxy => hW.2.1.1 i j x y (ad1 i x hi) (ad1 j y hj) hxy, fun k q hk => hW.2.1.2 k q (ad1 k q hk)⟩, hok1, hW.2.2.2⟩
  have hpre := pre_ok (as := .inr (some a) :: as) hK hW1 hoas
  have he := cw_at (cI := cI) (cS := cS) (ad := ad) (I := I) (F := F) hs
  rw [cel_obj hci] at he
  have hrecv := va_recv hK.1 hW1.1 (cl_ok ci hci) he
  have cb : CallB (rmd d mc ms) s args μ.2.1 idx μ'.1 μ'.2.2.1 μ'.2.2.2.1 μ'.2.2.2.2 (wsy μ') (rmd d' 0 0) 0 0 k := callB_of k hts (goodG.mpr hF.1) rfl rfl rfl (hts _ hF.2.1) (hts _ hlk) ⟨hF.2.2.1, hF.2.2.2.1, hF.2.2.2.2.1⟩ ⟨hd, by have := hF.2.2.2.2.2.2; show 8 + (μ'.2.2.2.1 + 11) + 40 * d' ≤ 40 * d; omega⟩
  have hrun := va_runV (locs := locs) (cells := kc) (slots := ks) (p := p) (e := e) (below := below) (meth := meth) (C := μ'.1.cls) (As := as.map (cv ad)) (rest := rest.map (cv ad)) (g := F0 m pc lsc ((as.reverse ++ .inr (some a) :: rest).map (cv ad))) (nL := μ.2.2.2.1) (cc := μ.2.2.1) (b := ad a) (H := H)
    ⟨hC.1, hC.2.1, hC.2.2.2.1, hC.2.2.2.2.1, hts⟩ (hM l D cI cS ad H.size) ⟨cb, hts _ hV.1, hts _ hV.2⟩ ⟨hpre.1, by rw [← hcc]; exact hrecv, hpre.2⟩ rfl (by rw [List.length_map]; exact hk) hL.size (by simp [List.map_append, List.map_reverse, cv])
    (by show 2 * 0 + _ ≤ 8; rw [cv_len]; omega) hdg hcap
  exact w_backX hN hok1 hC hK hA had hn0 hW hS hL (fun v hv => hst v (by simp [hv])) hrun K
end FRAME
/-- the law's own rows: a, p, y0 .. y3, far -/
def shR : Shp := [.inl 10, .inl 4, .inl 64, .inl 64, .inl 64, .inl 64, .inl 64]
abbrev shL : Shp := shX ++ shR
theorem sL62 : shL[62]? = some (.inl 10) := rfl
theorem sL63 : shL[63]? = some (.inl 4) := rfl
theorem sL64 : shL[64]? = some (.inl 64) := rfl
theorem sL65 : shL[65]? = some (.inl 64) := rfl
theorem sL66 : shL[66]? = some (.inl 64) := rfl
theorem sL67 : shL[67]? = some (.inl 64) := rfl
theorem sL68 : shL[68]? = some (.inl 64) := rfl
theorem sX0 : shX[0]? = some (.inr (7, [some (some 1), some (some 5), some (some 39), some (some 42), some (some 47), some (some 50), some (some 54), some (some 58), some (some 61), none])) := rfl
/-- the references of a shape lead into it -/
def okB (N : Nat) (c : Sc) : Bool := match c with
  | .inl _ => true
  | .inr (ci, sl) => ((Nat.blt ci 8 && sl.length == NN ci) || ci == 50) && sl.all (fun s => match s with
    | some (some r) => Nat.blt r N
    | _ => true)
theorem okSh_of {sh : Shp} {N : Nat} (hN : sh.length = N) (h : sh.all (okB N) = true) : okSh sh := by
  subst hN
  intro p ci sl hp
  have := List.all_eq_true.mp h _ (List.mem_of_getElem? hp)
  simp only [okB, Bool.and_eq_true, Bool.or_eq_true, beq_iff_eq] at this
  obtain ⟨h1, h2⟩ := this
  refine ⟨?_, fun k r hk => ?_⟩
  · rcases h1 with h1 | h1
    · exact Or.inl ⟨Nat.blt_eq.mp h1.1, h1.2⟩
    · exact Or.inr h1
  · have := List.all_eq_true.mp h2 _ (List.mem_of_getElem? hk)
    exact Nat.blt_eq.mp this
theorem okX : okSh shX := okSh_of (N := 62) rfl (by decide +kernel)
/-- an operation of the object, by the told state -/
def OB (μ' : MI) (d' : Nat) (as : List AV) (S : Sx) (P : Int → Sx → Prop) : Prop := ∀ (I : IE) (F : FE), CI S I F → ∃ P0 : Option AV → IE → FE → Prop, MG μ' d' shX (rv 0 :: as) I F P0 ∧ ∀ r I' F', P0 r I' F' → ∃ v S', r = some (.inl v) ∧ P v S' ∧ CI S' I' F'
theorem CI.mx {S : Sx} {I1 I : IE} {F1 F : FE} (h : CI S I1 F1) : CI S (mxI 62 I1 I) (mxF 62 F1 F) := h.hi (fun a k ha => by unfold mxI; rw [if_pos (by omega)]) (fun a ha => by unfold mxF; rw [if_pos (by omega)])
theorem w_o {rw_ : Option Nat} {TG : TGT} {μ μ' : MI} {d mc ms d' n0 kc ks pc n k : Nat} {ls : List (Option AV)} {st as rest : List AV} {I : IE} {F : FE} {S : Sx} {P : Int → Sx → Prop} (h : ICV μ pc n μ') (hF : MF μ' k) (hV : MV μ') (hO : OB μ' d' as S P) (hC : CI S I F) (hk : as.length = k) (hcc : CC 7 = μ'.1.cls)
    (has : as.all isI = true) (hst0 : as.reverse ++ rv 0 :: rest = st) (hrest : rest.length ≤ 8) (hd : d' + 1 ≤ d) (hcap : kc ≤ mc ∧ ks ≤ ms)
    (K : ∀ v S' I' F', P v S' → CI S' I' F' → (∀ a, 62 ≤ a → F' a = F a) → WG rw_ TG μ d mc ms n0 kc ks n ls (.inl v :: rest) shL I' F') : WG rw_ TG μ d mc ms n0 kc ks pc ls st shL I F := by
  obtain ⟨P0, hM, hP⟩ := hO I F hC
  refine w_cVX (sh1 := shX) (R := shR) (N := 62) h rfl okX hF hV hM hk sX0 (by decide) hcc has hst0 hrest hd hcap (fun r I1 F1 hq => ?_)
  obtain ⟨v, S', rfl, hP, hC'⟩ := hP _ _ _ hq
  exact K v S' _ _ hP hC'.mx (fun a ha => by unfold mxF; rw [if_neg (by omega)])
-- a method of the law's that changes no cell but the object's and some rows
theorem w_cSB {rw_ : Option Nat} {TG : TGT} {μ μ' : MI} {d mc ms n0 kc ks pc n k : Nat} {ls : List (Option AV)} {st as rest : List AV} {sh : Shp} {I : IE} {F : FE} {P : Int → IE → FE → Prop} (h : ICS μ pc n μ'.1) (hF : MF μ' k) (hV : MS_ μ') (hM : MB μ' (d - 1) sh as I F P) (hk : as.length = k)
    (hst0 : as.reverse ++ rest = st) (hrest : rest.length ≤ 8) (hd : 1 ≤ d) (hcap : kc ≤ mc ∧ ks ≤ ms)
    (K : ∀ v I' F', P v I' F' → WG rw_ TG μ d mc ms n0 kc ks n ls (.inl v :: rest) sh I' F') : WG rw_ TG μ d mc ms n0 kc ks pc ls st sh I F :=
  w_callS h hF hV hM hk hst0 hrest (by omega) ⟨hcap.1, hcap.2⟩ (fun r sh' I' F' hq => by obtain ⟨rfl, v, rfl, hq⟩ := hq; exact K v I' F' hq)
