abbrev iv (x : Int) : AV := .inl x
abbrev rv (k : Nat) : AV := .inr (some k)
abbrev li (x : Int) : Option AV := some (.inl x)
abbrev lr (k : Nat) : Option AV := some (.inr (some k))
abbrev lu : Option AV := none
section SPECS
variable {μ μ' : MI} {d mc ms n0 kc ks pc n t k a ci : Nat} {Q : PQ} {ls : List (Option AV)} {st as rest : List AV} {sh : Shp} {I : IE} {F : FE} {sl : List (Option (Option Nat))}
/-- contracts of methods that make nothing -/
def MG (μ : MI) (d : Nat) (sh : Shp) (as : List AV) (I : IE) (F : FE) (P : Option AV → IE → FE → Prop) : Prop := MS μ d 0 0 sh as I F (fun r sh' I' F' => sh' = sh ∧ P r I' F')
/-- an int, nothing changed -/
def MR (μ : MI) (d : Nat) (sh : Shp) (as : List AV) (I : IE) (F : FE) (v : Int) : Prop := MG μ d sh as I F (fun r I' F' => r = some (.inl v) ∧ I' = I ∧ F' = F)
/-- an int with a property, nothing changed -/
def MP (μ : MI) (d : Nat) (sh : Shp) (as : List AV) (I : IE) (F : FE) (P : Int → Prop) : Prop := MG μ d sh as I F (fun r I' F' => ∃ v, r = some (.inl v) ∧ P v ∧ I' = I ∧ F' = F)
/-- nothing answered -/
def MU (μ : MI) (d : Nat) (sh : Shp) (as : List AV) (I : IE) (F : FE) (P : IE → FE → Prop) : Prop := MG μ d sh as I F (fun r I' F' => r = none ∧ P I' F')
/-- an int, and the state -/
def MB (μ : MI) (d : Nat) (sh : Shp) (as : List AV) (I : IE) (F : FE) (P : Int → IE → FE → Prop) : Prop := MG μ d sh as I F (fun r I' F' => ∃ v, r = some (.inl v) ∧ P v I' F')
theorem w_cV {P : Option AV → IE → FE → Prop} (h : ICV μ pc n μ') (hF : MF μ' k) (hV : MV μ') (hM : MG μ' (d - 1) sh (.inr (some a) :: as) I F P) (hk : as.length = k) (hs : sh[a]? = some (.inr (ci, sl))) (hci : ci < 8) (hcc : CC ci = μ'.1.cls)
    (hst0 : as.reverse ++ .inr (some a) :: rest = st) (hrest : rest.length ≤ 8) (hd : 1 ≤ d) (hcap : kc ≤ mc ∧ ks ≤ ms)
    (K : ∀ r I' F', P r I' F' → WS μ d mc ms n0 Q kc ks n ls (r.toList ++ rest) sh I' F') : WS μ d mc ms n0 Q kc ks pc ls st sh I F :=
  w_callV h hF hV hM hk hs hci hcc hst0 hrest (by omega) hcap (fun r sh' I' F' hq => by obtain ⟨rfl, hq⟩ := hq; exact K r I' F' hq)
theorem w_cS {P : Option AV → IE → FE → Prop} (h : ICS μ pc n μ'.1) (hF : MF μ' k) (hV : MS_ μ') (hM : MG μ' (d - 1) sh as I F P) (hk : as.length = k)
    (hst0 : as.reverse ++ rest = st) (hrest : rest.length ≤ 8) (hd : 1 ≤ d) (hcap : kc ≤ mc ∧ ks ≤ ms)
    (K : ∀ r I' F', P r I' F' → WS μ d mc ms n0 Q kc ks n ls (r.toList ++ rest) sh I' F') : WS μ d mc ms n0 Q kc ks pc ls st sh I F :=
  w_callS h hF hV hM hk hst0 hrest (by omega) hcap (fun r sh' I' F' hq => by obtain ⟨rfl, hq⟩ := hq; exact K r I' F' hq)
theorem w_cVR {v : Int} (h : ICV μ pc n μ') (hF : MF μ' k) (hV : MV μ') (hM : MR μ' (d - 1) sh (.inr (some a) :: as) I F v) (hk : as.length = k) (hs : sh[a]? = some (.inr (ci, sl))) (hci : ci < 8) (hcc : CC ci = μ'.1.cls)
    (hst0 : as.reverse ++ .inr (some a) :: rest = st) (hrest : rest.length ≤ 8) (hd : 1 ≤ d)
    (K : WS μ d 0 0 n0 Q 0 0 n ls (.inl v :: rest) sh I F) : WS μ d 0 0 n0 Q 0 0 pc ls st sh I F :=
  w_cV h hF hV hM hk hs hci hcc hst0 hrest hd ⟨Nat.le_refl _, Nat.le_refl _⟩ (fun r I' F' hq => by obtain ⟨rfl, rfl, rfl⟩ := hq; exact K)
theorem w_cVP {P : Int → Prop} (h : ICV μ pc n μ') (hF : MF μ' k) (hV : MV μ') (hM : MP μ' (d - 1) sh (.inr (some a) :: as) I F P) (hk : as.length = k) (hs : sh[a]? = some (.inr (ci, sl))) (hci : ci < 8) (hcc : CC ci = μ'.1.cls)
    (hst0 : as.reverse ++ .inr (some a) :: rest = st) (hrest : rest.length ≤ 8) (hd : 1 ≤ d)
    (K : ∀ v, P v → WS μ d 0 0 n0 Q 0 0 n ls (.inl v :: rest) sh I F) : WS μ d 0 0 n0 Q 0 0 pc ls st sh I F :=
  w_cV h hF hV hM hk hs hci hcc hst0 hrest hd ⟨Nat.le_refl _, Nat.le_refl _⟩ (fun r I' F' hq => by obtain ⟨v, rfl, hv, rfl, rfl⟩ := hq; exact K v hv)
theorem w_cVU {P : IE → FE → Prop} (h : ICV μ pc n μ') (hF : MF μ' k) (hV : MV μ') (hM : MU μ' (d - 1) sh (.inr (some a) :: as) I F P) (hk : as.length = k) (hs : sh[a]? = some (.inr (ci, sl))) (hci : ci < 8) (hcc : CC ci = μ'.1.cls)
    (hst0 : as.reverse ++ .inr (some a) :: rest = st) (hrest : rest.length ≤ 8) (hd : 1 ≤ d)
    (K : ∀ I' F', P I' F' → WS μ d 0 0 n0 Q 0 0 n ls rest sh I' F') : WS μ d 0 0 n0 Q 0 0 pc ls st sh I F :=
  w_cV h hF hV hM hk hs hci hcc hst0 hrest hd ⟨Nat.le_refl _, Nat.le_refl _⟩ (fun r I' F' hq => by obtain ⟨rfl, hq⟩ := hq; exact K I' F' hq)
theorem w_cVB {P : Int → IE → FE → Prop} (h : ICV μ pc n μ') (hF : MF μ' k) (hV : MV μ') (hM : MB μ' (d - 1) sh (.inr (some a) :: as) I F P) (hk : as.length = k) (hs : sh[a]? = some (.inr (ci, sl))) (hci : ci < 8) (hcc : CC ci = μ'.1.cls)
    (hst0 : as.reverse ++ .inr (some a) :: rest = st) (hrest : rest.length ≤ 8) (hd : 1 ≤ d)
    (K : ∀ v I' F', P v I' F' → WS μ d 0 0 n0 Q 0 0 n ls (.inl v :: rest) sh I' F') : WS μ d 0 0 n0 Q 0 0 pc ls st sh I F :=
  w_cV h hF hV hM hk hs hci hcc hst0 hrest hd ⟨Nat.le_refl _, Nat.le_refl _⟩ (fun r I' F' hq => by obtain ⟨v, rfl, hq⟩ := hq; exact K v I' F' hq)
theorem w_cSR {v : Int} (h : ICS μ pc n μ'.1) (hF : MF μ' k) (hV : MS_ μ') (hM : MR μ' (d - 1) sh as I F v) (hk : as.length = k)
    (hst0 : as.reverse ++ rest = st) (hrest : rest.length ≤ 8) (hd : 1 ≤ d)
    (K : WS μ d 0 0 n0 Q 0 0 n ls (.inl v :: rest) sh I F) : WS μ d 0 0 n0 Q 0 0 pc ls st sh I F :=
  w_cS h hF hV hM hk hst0 hrest hd ⟨Nat.le_refl _, Nat.le_refl _⟩ (fun r I' F' hq => by obtain ⟨rfl, rfl, rfl⟩ := hq; exact K)
theorem w_cSP {P : Int → Prop} (h : ICS μ pc n μ'.1) (hF : MF μ' k) (hV : MS_ μ') (hM : MP μ' (d - 1) sh as I F P) (hk : as.length = k)
    (hst0 : as.reverse ++ rest = st) (hrest : rest.length ≤ 8) (hd : 1 ≤ d)
    (K : ∀ v, P v → WS μ d 0 0 n0 Q 0 0 n ls (.inl v :: rest) sh I F) : WS μ d 0 0 n0 Q 0 0 pc ls st sh I F :=
  w_cS h hF hV hM hk hst0 hrest hd ⟨Nat.le_refl _, Nat.le_refl _⟩ (fun r I' F' hq => by obtain ⟨v, rfl, hv, rfl, rfl⟩ := hq; exact K v hv)
end SPECS
/-- the component's world: what stands where -/
def shX : Shp := [.inr (7, [some (some 1), some (some 5), some (some 39), some (some 42), some (some 47), some (some 50), some (some 54), some (some 58), some (some 61), none]),
  .inr (5, [none, none, some (some 2), some (some 3), some (some 4), none]), .inl 8, .inl 4, .inl 4,
  .inr (3, [none, none, some (some 6)]), .inr (50, [some (some 7), some (some 11), some (some 15), some (some 19), some (some 23), some (some 27), some (some 31), some (some 35)]),
  .inr (5, [none, none, some (some 8), some (some 9), some (some 10), none]), .inl 8, .inl 4, .inl 4,
  .inr (5, [none, none, some (some 12), some (some 13), some (some 14), none]), .inl 8, .inl 4, .inl 4,
  .inr (5, [none, none, some (some 16), some (some 17), some (some 18), none]), .inl 8, .inl 4, .inl 4,
  .inr (5, [none, none, some (some 20), some (some 21), some (some 22), none]), .inl 8, .inl 4, .inl 4,
  .inr (5, [none, none, some (some 24), some (some 25), some (some 26), none]), .inl 8, .inl 4, .inl 4,
  .inr (5, [none, none, some (some 28), some (some 29), some (some 30), none]), .inl 8, .inl 4, .inl 4,
  .inr (5, [none, none, some (some 32), some (some 33), some (some 34), none]), .inl 8, .inl 4, .inl 4,
  .inr (5, [none, none, some (some 36), some (some 37), some (some 38), none]), .inl 8, .inl 4, .inl 4,
  .inr (4, [none, none, none, some (some 40), some (some 41), none]), .inl 8, .inl 40,
  .inr (2, [none, none, some (some 43), none, none, none, none, none, none, none, some (some 44), some (some 45), some (some 46), none]), .inl 64, .inl 4, .inl 4, .inl 192,
  .inr (0, [none, some (some 48), some (some 49)]), .inl 120, .inl 4,
  .inr (1, [none, none, some (some 53), some (some 51), some (some 52)]), .inl 4, .inl 4, .inl 2048,
  .inr (1, [none, none, some (some 57), some (some 55), some (some 56)]), .inl 4, .inl 4, .inl 32,
  .inr (6, [some (some 59), some (some 60), none]), .inl 2048, .inl 2048, .inl 4]
