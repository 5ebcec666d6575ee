section LAWLOOP
variable {p : Program} {l : Launch} {e : Env} {s : State} {m : MethodId} {below : List Frame} {meth : Method} {c : Code} {b L : Nat} {xs : Nat → Int32} {D : va_G} {cI cS : ClassId}
theorem sub4 {L : Nat} (hL : L ≤ 2048) : (Int32.ofNat L - 4).toInt = (L : Int) - 4 := by
  rw [show Int32.ofNat L = nI L from rfl, Int32.toInt_sub, nI_toInt (by omega), show (4 : Int32).toInt = 4 from by decide]
  exact Int.bmod_eq_of_le (by omega) (by omega)
theorem law_loop {kc ks : Nat} (hL : L ≤ 2048) (C0 : lw_At p s m meth c b L xs) (hK : Kn D cI cS s) (hcap : kc ≤ 600000 ∧ ks ≤ 7302249) : ∀ (n i : Nat), i ≤ L → L + 1 ≤ i + n → ∀ lsc : Array Slot, LK p l e s m below meth c b D cI cS lsc (nI i) kc ks 18 := by
  intro n
  induction n with
  | zero => intro i h1 h2; exact absurd h2 (by omega)
  | succ n ih =>
    intro i hi hin lsc S ad1 ad2 I1 I2 F1 F2 H locs hC hD hW1 hW2 hap hS hl
    obtain ⟨hx, hb, hr, hml, hown, hts, hX, hbl, hlocks, hgv⟩ := id C0
    have hbA : ¬ lwA s b := Nat.not_le.mpr hbl
    refine lv_iload_n hx hb dL_18 rfl (lv_at hl 3 rfl) ?_
    refine lv_aload_n hx hb dL_19 rfl (lv_at hl 0 rfl) ?_
    refine va_slen hx hb hX hbl hbA hS dL_20 ?_
    refine lv_iconst (v := 4) hx hb dL_21 (by decide) ?_
    refine lv_isub hx hb dL_22 ?_
    refine lv_icmp_gt (tgt := 726) hx hb dL_23 (by decide) (fun h23 => ?_) (fun h23 => ?_)
    · refine lv_iconst (v := 1) hx hb dL_726 (by decide) ?_
      refine va_forget (fun q hq => hS.2.2 q hq) ?_
      refine W.widen (k := 600000) (n := 7302249) hcap.1 hcap.2 ?_
      exact lw_ret hx hb hr hlocks dL_727
    · have hi4 : i + 4 ≤ L := by
        rw [Int32.lt_iff_toInt_lt, sub4 hL, nI_toInt (by omega)] at h23
        omega
      have h0 : vp_in (nI i) L := vp_in_nI (by omega) (by omega)
      have h1 : vp_in (nI i + 1) L := by rw [show nI i + 1 = nI (i + 1) from nI_add i 1]; exact vp_in_nI (by omega) (by omega)
      have h2 : vp_in (nI i + 2) L := by rw [show nI i + 2 = nI (i + 2) from nI_add i 2]; exact vp_in_nI (by omega) (by omega)
      have h3 : vp_in (nI i + 3) L := by rw [show nI i + 3 = nI (i + 3) from nI_add i 3]; exact vp_in_nI (by omega) (by omega)
      have K : LK p l e s m below meth c b D cI cS lsc (nI i) kc ks 720 := fun S ad1 ad2 I1 I2 F1 F2 H locs hC hD hW1 hW2 hap hS hl => by
        refine lv_iinc (v := nI (i + 4)) (lv' := [(3, .int (nI (i + 4))), (0, .ref b), (1, .ref (ad1 0)), (2, .ref (ad2 0))]) hx hb dL_720 hl (k := 3) rfl (nI_add i 4) (by decide) rfl (fun ls hl => ?_)
        refine lv_goto (tgt := 18) hx hb dL_723 (by decide) ?_
        exact ih (i + 4) hi4 (by omega) ls S ad1 ad2 I1 I2 F1 F2 H locs hC hD hW1 hW2 hap hS (lv_sub hl [1, 2, 3, 0] rfl)
      refine lv_aload_n hx hb dL_26 rfl (lv_at hl 0 rfl) ?_
      refine lv_iload_n hx hb dL_27 rfl (lv_at hl 3 rfl) ?_
      refine va_sld hx hb hX hbl hbA hS h0 dL_28 ?_
      refine lv_bipush (v := 31) hx hb dL_29 (by decide) ?_
      refine lv_iand hx hb dL_31 ?_
      generalize xs (nI i).toNatClampNeg &&& 31 = w
      by_cases hw : w.toInt < 0 ∨ 25 < w.toInt
      · exact lv_tableOut (tgt := 720) hx hb dL_32 hw (by decide) (K S ad1 ad2 I1 I2 F1 F2 H locs hC hD hW1 hW2 hap hS hl)
      · have hw1 : ¬ w.toInt < 0 := fun h => hw (.inl h)
        have hw2 : ¬ 25 < w.toInt := fun h => hw (.inr h)
        have hk : (w.toInt - 0).toNat = 0 ∨ (w.toInt - 0).toNat = 1 ∨ (w.toInt - 0).toNat = 2 ∨ (w.toInt - 0).toNat = 3 ∨ (w.toInt - 0).toNat = 4 ∨ (w.toInt - 0).toNat = 5 ∨ (w.toInt - 0).toNat = 6 ∨ (w.toInt - 0).toNat = 7 ∨ (w.toInt - 0).toNat = 8 ∨ (w.toInt - 0).toNat = 9 ∨ (w.toInt - 0).toNat = 10 ∨ (w.toInt - 0).toNat = 11 ∨ (w.toInt - 0).toNat = 12 ∨ (w.toInt - 0).toNat = 13 ∨ (w.toInt - 0).toNat = 14 ∨ (w.toInt - 0).toNat = 15 ∨ (w.toInt - 0).toNat = 16 ∨ (w.toInt - 0).toNat = 17 ∨ (w.toInt - 0).toNat = 18 ∨ (w.toInt - 0).toNat = 19 ∨ (w.toInt - 0).toNat = 20 ∨ (w.toInt - 0).toNat = 21 ∨ (w.toInt - 0).toNat = 22 ∨ (w.toInt - 0).toNat = 23 ∨ (w.toInt - 0).toNat = 24 ∨ (w.toInt - 0).toNat = 25 := by omega
        rcases hk with hk | hk | hk | hk | hk | hk | hk | hk | hk | hk | hk | hk | hk | hk | hk | hk | hk | hk | hk | hk | hk | hk | hk | hk | hk | hk
        · exact lv_tableIn (off := 120) (tgt := 152) hx hb dL_32 hw1 hw2 (by rw [hk]; rfl) (by decide) (law_c0 C0 hK h1 h2 h3 hcap K S ad1 ad2 I1 I2 F1 F2 H locs hC hD hW1 hW2 hap hS hl)
        · exact lv_tableIn (off := 153) (tgt := 185) hx hb dL_32 hw1 hw2 (by rw [hk]; rfl) (by decide) (law_c1 C0 hK h1 h2 h3 hcap K S ad1 ad2 I1 I2 F1 F2 H locs hC hD hW1 hW2 hap hS hl)
        · exact lv_tableIn (off := 196) (tgt := 228) hx hb dL_32 hw1 hw2 (by rw [hk]; rfl) (by decide) (law_c2 C0 hK h1 h2 h3 hcap K S ad1 ad2 I1 I2 F1 F2 H locs hC hD hW1 hW2 hap hS hl)
        · exact lv_tableIn (off := 219) (tgt := 251) hx hb dL_32 hw1 hw2 (by rw [hk]; rfl) (by decide) (law_c3 C0 hK h1 h2 h3 hcap K S ad1 ad2 I1 I2 F1 F2 H locs hC hD hW1 hW2 hap hS hl)
        · exact lv_tableIn (off := 232) (tgt := 264) hx hb dL_32 hw1 hw2 (by rw [hk]; rfl) (by decide) (law_c4 C0 hK h1 h2 h3 hcap K S ad1 ad2 I1 I2 F1 F2 H locs hC hD hW1 hW2 hap hS hl)
        · exact lv_tableIn (off := 245) (tgt := 277) hx hb dL_32 hw1 hw2 (by rw [hk]; rfl) (by decide) (law_c5 C0 hK h1 h2 h3 hcap K S ad1 ad2 I1 I2 F1 F2 H locs hC hD hW1 hW2 hap hS hl)
        · exact lv_tableIn (off := 278) (tgt := 310) hx hb dL_32 hw1 hw2 (by rw [hk]; rfl) (by decide) (law_c6 C0 hK h1 h2 h3 hcap K S ad1 ad2 I1 I2 F1 F2 H locs hC hD hW1 hW2 hap hS hl)
        · exact lv_tableIn (off := 291) (tgt := 323) hx hb dL_32 hw1 hw2 (by rw [hk]; rfl) (by decide) (law_c7 C0 hK h1 h2 h3 hcap K S ad1 ad2 I1 I2 F1 F2 H locs hC hD hW1 hW2 hap hS hl)
        · exact lv_tableIn (off := 304) (tgt := 336) hx hb dL_32 hw1 hw2 (by rw [hk]; rfl) (by decide) (law_c8 C0 hK h1 h2 h3 hcap K S ad1 ad2 I1 I2 F1 F2 H locs hC hD hW1 hW2 hap hS hl)
        · exact lv_tableIn (off := 317) (tgt := 349) hx hb dL_32 hw1 hw2 (by rw [hk]; rfl) (by decide) (law_c9 C0 hK h1 h2 h3 hcap K S ad1 ad2 I1 I2 F1 F2 H locs hC hD hW1 hW2 hap hS hl)
        · exact lv_tableIn (off := 350) (tgt := 382) hx hb dL_32 hw1 hw2 (by rw [hk]; rfl) (by decide) (law_c10 C0 hK h1 h2 h3 hcap K S ad1 ad2 I1 I2 F1 F2 H locs hC hD hW1 hW2 hap hS hl)
        · exact lv_tableIn (off := 373) (tgt := 405) hx hb dL_32 hw1 hw2 (by rw [hk]; rfl) (by decide) (law_c11 C0 hK h1 h2 h3 hcap K S ad1 ad2 I1 I2 F1 F2 H locs hC hD hW1 hW2 hap hS hl)
        · exact lv_tableIn (off := 396) (tgt := 428) hx hb dL_32 hw1 hw2 (by rw [hk]; rfl) (by decide) (law_c12 C0 hK h1 h2 h3 hcap K S ad1 ad2 I1 I2 F1 F2 H locs hC hD hW1 hW2 hap hS hl)
        · exact lv_tableIn (off := 429) (tgt := 461) hx hb dL_32 hw1 hw2 (by rw [hk]; rfl) (by decide) (law_c13 C0 hK h1 h2 h3 hcap K S ad1 ad2 I1 I2 F1 F2 H locs hC hD hW1 hW2 hap hS hl)
        · exact lv_tableIn (off := 442) (tgt := 474) hx hb dL_32 hw1 hw2 (by rw [hk]; rfl) (by decide) (law_c14 C0 hK h1 h2 h3 hcap K S ad1 ad2 I1 I2 F1 F2 H locs hC hD hW1 hW2 hap hS hl)
        · exact lv_tableIn (off := 455) (tgt := 487) hx hb dL_32 hw1 hw2 (by rw [hk]; rfl) (by decide) (law_c15 C0 hK h1 h2 h3 hcap K S ad1 ad2 I1 I2 F1 F2 H locs hC hD hW1 hW2 hap hS hl)
        · exact lv_tableIn (off := 478) (tgt := 510) hx hb dL_32 hw1 hw2 (by rw [hk]; rfl) (by decide) (law_c16 C0 hK h1 h2 h3 hcap K S ad1 ad2 I1 I2 F1 F2 H locs hC hD hW1 hW2 hap hS hl)
        · exact lv_tableIn (off := 511) (tgt := 543) hx hb dL_32 hw1 hw2 (by rw [hk]; rfl) (by decide) (law_c17 C0 hK h1 h2 h3 hcap K S ad1 ad2 I1 I2 F1 F2 H locs hC hD hW1 hW2 hap hS hl)
        · exact lv_tableIn (off := 524) (tgt := 556) hx hb dL_32 hw1 hw2 (by rw [hk]; rfl) (by decide) (law_c18 C0 hK h1 h2 h3 hcap K S ad1 ad2 I1 I2 F1 F2 H locs hC hD hW1 hW2 hap hS hl)
        · exact lv_tableIn (off := 557) (tgt := 589) hx hb dL_32 hw1 hw2 (by rw [hk]; rfl) (by decide) (law_c19 C0 hK h1 h2 h3 hcap K S ad1 ad2 I1 I2 F1 F2 H locs hC hD hW1 hW2 hap hS hl)
        · exact lv_tableIn (off := 590) (tgt := 622) hx hb dL_32 hw1 hw2 (by rw [hk]; rfl) (by decide) (law_c20 C0 hK h1 h2 h3 hcap K S ad1 ad2 I1 I2 F1 F2 H locs hC hD hW1 hW2 hap hS hl)
        · exact lv_tableIn (off := 613) (tgt := 645) hx hb dL_32 hw1 hw2 (by rw [hk]; rfl) (by decide) (law_c21 C0 hK h1 h2 h3 hcap K S ad1 ad2 I1 I2 F1 F2 H locs hC hD hW1 hW2 hap hS hl)
        · exact lv_tableIn (off := 626) (tgt := 658) hx hb dL_32 hw1 hw2 (by rw [hk]; rfl) (by decide) (law_c22 C0 hK h1 h2 h3 hcap K S ad1 ad2 I1 I2 F1 F2 H locs hC hD hW1 hW2 hap hS hl)
        · exact lv_tableIn (off := 649) (tgt := 681) hx hb dL_32 hw1 hw2 (by rw [hk]; rfl) (by decide) (law_c23 C0 hK h1 h2 h3 hcap K S ad1 ad2 I1 I2 F1 F2 H locs hC hD hW1 hW2 hap hS hl)
        · exact lv_tableIn (off := 662) (tgt := 694) hx hb dL_32 hw1 hw2 (by rw [hk]; rfl) (by decide) (law_c24 C0 hK h1 h2 h3 hcap K S ad1 ad2 I1 I2 F1 F2 H locs hC hD hW1 hW2 hap hS hl)
        · exact lv_tableIn (off := 675) (tgt := 707) hx hb dL_32 hw1 hw2 (by rw [hk]; rfl) (by decide) (law_c25 C0 hK h1 h2 h3 hcap K S ad1 ad2 I1 I2 F1 F2 H locs hC hD hW1 hW2 hap hS hl)
end LAWLOOP
