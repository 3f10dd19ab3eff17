section LL
variable {G : qG} {b : Nat} {σ : (Nat → Nat) × (Nat → Nat)} {sb L : Nat} {xs : Nat → Int32} {cn sn i : Nat} {x y : qS}
theorem law_next (h : LAW G b σ sb L xs cn sn 18 (LV b sb (i + 6)) [] x y) : LAW G b σ sb L xs cn sn 1218 (LV b sb i) [] x y := by
  intro p l e s m below meth c H locs ls hC hP hS hl h1 h2
  refine lv_iinc (v := nI (i + 6)) (lv' := LV b sb (i + 6)) hC.1 hC.2.1 dL_law_1218 hl (k := 0) rfl (by rw [← nI_add, show Int32.ofInt 6 = nI 6 by decide +kernel]) (by decide) rfl (fun ls hl => ?_)
  refine lv_goto (tgt := 18) hC.1 hC.2.1 dL_law_1221 (by decide) ?_
  exact h p l e s m below meth c H locs ls hC hP hS hl h1 h2
theorem law_six {L : Nat} (h : 6 ≤ L) : nI L - nI 6 = nI (L - 6) := by
  have e : nI L = nI (L - 6) + nI 6 := by rw [nI_add]; congr 1; omega
  rw [e]; exact Int32.add_sub_cancel _ _
theorem law_few : ∀ L : Nat, L < 6 → (nI L - nI 6).toInt < 0 := by decide +kernel
theorem law_gt {L i : Nat} (hL : L ≤ 3072) (hi : i ≤ L + 6) (h : ¬ i + 6 ≤ L) : nI L - nI 6 < nI i := by
  by_cases h6 : 6 ≤ L
  · rw [law_six h6]; exact nI_lt (by omega) (by omega)
  · have h1 := law_few L (by omega)
    rw [Int32.lt_iff_toInt_lt, nI_toInt (n := i) (by omega)]
    omega
theorem law_head (hL : L ≤ 3072) (hi : i ≤ L + 6) (kt : ¬ i + 6 ≤ L → LAW G b σ sb L xs cn sn 1224 (LV b sb i) [] x y) (kf : i + 6 ≤ L → LAW G b σ sb L xs cn sn 27 (LV b sb i) [] x y) : LAW G b σ sb L xs cn sn 18 (LV b sb i) [] x y := by
  intro p l e s m below meth c H locs ls hC hP hS hl h1 h2
  have hC0 := hC
  obtain ⟨hx, hb, hr, hml, hown, hts, hX, hbl, hlk, hK, hWs, hbs⟩ := hC
  refine lv_iload_n hx hb dL_law_18 rfl (lv_at hl 0 rfl) ?_
  refine lv_aload_n hx hb dL_law_19 rfl (lv_at hl 3 rfl) ?_
  refine va_slen (A := q_A b) hx hb hX hbl (show ¬ b ≤ sb by omega) hS dL_law_20 ?_
  refine lv_bipush (v := nI 6) hx hb dL_law_21 (by decide +kernel) ?_
  refine lv_isub hx hb dL_law_23 ?_
  refine lv_icmp_gt (tgt := 1224) hx hb dL_law_24 (by decide) (fun q => ?_) (fun q => ?_)
  · refine kt (fun h6 => ?_) p l e s m below meth c H locs ls hC0 hP hS hl h1 h2
    have q' : nI L - nI 6 < nI i := q
    rw [law_six (by omega)] at q'
    exact nI_nlt (a := L - 6) (b := i) (by omega) (by omega) q'
  · refine kf (Classical.byContradiction fun h6 => q (law_gt hL hi h6)) p l e s m below meth c H locs ls hC0 hP hS hl h1 h2
theorem law_end : LAW G b σ sb L xs cn sn 1224 (LV b sb i) [] x y := by
  intro p l e s m below meth c H locs ls hC hP hS hl h1 h2
  obtain ⟨hx, hb, hr, hml, hown, hts, hX, hbl, hlk, hK, hWs, hbs⟩ := hC
  refine lv_iconst (v := 1) hx hb dL_law_1224 (by decide +kernel) ?_
  refine va_forget (fun q hq => by have := hS.2.2 q hq; unfold q_A at this; omega) ?_
  exact W.widen h1 h2 (lw_ret hx hb hr hlk dL_law_1225)
set_option maxHeartbeats 4000000 in
theorem law_body (hL : L ≤ 3072) (hi : i + 6 ≤ L) (h : Rel x y) (nx : ∀ x2 y2, Rel x2 y2 → LAW G b σ sb L xs cn sn 1218 (LV b sb i) [] x2 y2) : LAW G b σ sb L xs cn sn 27 (LV b sb i) [] x y := by
  intro p l e s m below meth c H locs ls hC hP hS hl h1 h2
  have hC0 := hC
  obtain ⟨hx, hb, hr, hml, hown, hts, hX, hbl, hlk, hK, hWs, hbs⟩ := hC
  refine lv_aload_n hx hb dL_law_27 rfl (lv_at hl 3 rfl) ?_
  refine lv_iload_n hx hb dL_law_28 rfl (lv_at hl 0 rfl) ?_
  refine va_sld (A := q_A b) hx hb hX hbl (show ¬ b ≤ sb by omega) hS (show vp_in (nI i) L from nI_in (by omega) (by omega)) dL_law_29 ?_
  refine lv_bipush (v := nI 63) hx hb dL_law_30 (by decide +kernel) ?_
  refine lv_iand hx hb dL_law_32 ?_
  refine lv_topi (fun v _ => ?_)
  by_cases hv : v.toInt < 0 ∨ 33 < v.toInt
  · exact lv_tableOut (tgt := 1218) hx hb dL_law_33 hv (by decide) (nx x y h p l e s m below meth c H locs ls hC0 hP hS hl h1 h2)
  · obtain ⟨k, hk⟩ : ∃ k : Nat, v.toInt = k := ⟨v.toInt.toNat, by omega⟩
    have hk' : k = 0 ∨ k = 1 ∨ k = 2 ∨ k = 3 ∨ k = 4 ∨ k = 5 ∨ k = 6 ∨ k = 7 ∨ k = 8 ∨ k = 9 ∨ k = 10 ∨ k = 11 ∨ k = 12 ∨ k = 13 ∨ k = 14 ∨ k = 15 ∨ k = 16 ∨ k = 17 ∨ k = 18 ∨ k = 19 ∨ k = 20 ∨ k = 21 ∨ k = 22 ∨ k = 23 ∨ k = 24 ∨ k = 25 ∨ k = 26 ∨ k = 27 ∨ k = 28 ∨ k = 29 ∨ k = 30 ∨ k = 31 ∨ k = 32 ∨ k = 33 := by omega
    rcases hk' with rfl | rfl | rfl | rfl | rfl | rfl | rfl | rfl | rfl | rfl | rfl | rfl | rfl | rfl | rfl | rfl | rfl | rfl | rfl | rfl | rfl | rfl | rfl | rfl | rfl | rfl | rfl | rfl | rfl | rfl | rfl | rfl | rfl | rfl
    · exact lv_tableIn (off := 151) (tgt := 184) hx hb dL_law_33 (by rw [hk]; decide) (by rw [hk]; decide) (by rw [hk]; rfl) (by decide) (la_0 hi hL h nx p l e s m below meth c H locs ls hC0 hP hS hl h1 h2)
    · exact lv_tableIn (off := 174) (tgt := 207) hx hb dL_law_33 (by rw [hk]; decide) (by rw [hk]; decide) (by rw [hk]; rfl) (by decide) (la_1 hi hL h nx p l e s m below meth c H locs ls hC0 hP hS hl h1 h2)
    · exact lv_tableIn (off := 197) (tgt := 230) hx hb dL_law_33 (by rw [hk]; decide) (by rw [hk]; decide) (by rw [hk]; rfl) (by decide) (la_2 hi hL h nx p l e s m below meth c H locs ls hC0 hP hS hl h1 h2)
    · exact lv_tableIn (off := 220) (tgt := 253) hx hb dL_law_33 (by rw [hk]; decide) (by rw [hk]; decide) (by rw [hk]; rfl) (by decide) (la_3 hi hL h nx p l e s m below meth c H locs ls hC0 hP hS hl h1 h2)
    · exact lv_tableIn (off := 263) (tgt := 296) hx hb dL_law_33 (by rw [hk]; decide) (by rw [hk]; decide) (by rw [hk]; rfl) (by decide) (la_4 hi hL h nx p l e s m below meth c H locs ls hC0 hP hS hl h1 h2)
    · exact lv_tableIn (off := 306) (tgt := 339) hx hb dL_law_33 (by rw [hk]; decide) (by rw [hk]; decide) (by rw [hk]; rfl) (by decide) (la_5 hi hL h nx p l e s m below meth c H locs ls hC0 hP hS hl h1 h2)
    · exact lv_tableIn (off := 349) (tgt := 382) hx hb dL_law_33 (by rw [hk]; decide) (by rw [hk]; decide) (by rw [hk]; rfl) (by decide) (la_6 hi hL h nx p l e s m below meth c H locs ls hC0 hP hS hl h1 h2)
    · exact lv_tableIn (off := 398) (tgt := 431) hx hb dL_law_33 (by rw [hk]; decide) (by rw [hk]; decide) (by rw [hk]; rfl) (by decide) (la_7 hi hL h nx p l e s m below meth c H locs ls hC0 hP hS hl h1 h2)
    · exact lv_tableIn (off := 431) (tgt := 464) hx hb dL_law_33 (by rw [hk]; decide) (by rw [hk]; decide) (by rw [hk]; rfl) (by decide) (la_8 hi hL h nx p l e s m below meth c H locs ls hC0 hP hS hl h1 h2)
    · exact lv_tableIn (off := 454) (tgt := 487) hx hb dL_law_33 (by rw [hk]; decide) (by rw [hk]; decide) (by rw [hk]; rfl) (by decide) (la_9 hi hL h nx p l e s m below meth c H locs ls hC0 hP hS hl h1 h2)
    · exact lv_tableIn (off := 517) (tgt := 550) hx hb dL_law_33 (by rw [hk]; decide) (by rw [hk]; decide) (by rw [hk]; rfl) (by decide) (la_10 hi hL h nx p l e s m below meth c H locs ls hC0 hP hS hl h1 h2)
    · exact lv_tableIn (off := 540) (tgt := 573) hx hb dL_law_33 (by rw [hk]; decide) (by rw [hk]; decide) (by rw [hk]; rfl) (by decide) (la_11 hi hL h nx p l e s m below meth c H locs ls hC0 hP hS hl h1 h2)
    · exact lv_tableIn (off := 563) (tgt := 596) hx hb dL_law_33 (by rw [hk]; decide) (by rw [hk]; decide) (by rw [hk]; rfl) (by decide) (la_12 hi hL h nx p l e s m below meth c H locs ls hC0 hP hS hl h1 h2)
    · exact lv_tableIn (off := 586) (tgt := 619) hx hb dL_law_33 (by rw [hk]; decide) (by rw [hk]; decide) (by rw [hk]; rfl) (by decide) (la_13 hi hL h nx p l e s m below meth c H locs ls hC0 hP hS hl h1 h2)
    · exact lv_tableIn (off := 619) (tgt := 652) hx hb dL_law_33 (by rw [hk]; decide) (by rw [hk]; decide) (by rw [hk]; rfl) (by decide) (la_14 hi hL h nx p l e s m below meth c H locs ls hC0 hP hS hl h1 h2)
    · exact lv_tableIn (off := 652) (tgt := 685) hx hb dL_law_33 (by rw [hk]; decide) (by rw [hk]; decide) (by rw [hk]; rfl) (by decide) (la_15 hi hL h nx p l e s m below meth c H locs ls hC0 hP hS hl h1 h2)
    · exact lv_tableIn (off := 685) (tgt := 718) hx hb dL_law_33 (by rw [hk]; decide) (by rw [hk]; decide) (by rw [hk]; rfl) (by decide) (la_16 hi hL h nx p l e s m below meth c H locs ls hC0 hP hS hl h1 h2)
    · exact lv_tableIn (off := 708) (tgt := 741) hx hb dL_law_33 (by rw [hk]; decide) (by rw [hk]; decide) (by rw [hk]; rfl) (by decide) (la_17 hi hL h nx p l e s m below meth c H locs ls hC0 hP hS hl h1 h2)
    · exact lv_tableIn (off := 741) (tgt := 774) hx hb dL_law_33 (by rw [hk]; decide) (by rw [hk]; decide) (by rw [hk]; rfl) (by decide) (la_18 hi hL h nx p l e s m below meth c H locs ls hC0 hP hS hl h1 h2)
    · exact lv_tableIn (off := 784) (tgt := 817) hx hb dL_law_33 (by rw [hk]; decide) (by rw [hk]; decide) (by rw [hk]; rfl) (by decide) (la_19 hi hL h nx p l e s m below meth c H locs ls hC0 hP hS hl h1 h2)
    · exact lv_tableIn (off := 807) (tgt := 840) hx hb dL_law_33 (by rw [hk]; decide) (by rw [hk]; decide) (by rw [hk]; rfl) (by decide) (la_20 hi hL h nx p l e s m below meth c H locs ls hC0 hP hS hl h1 h2)
    · exact lv_tableIn (off := 850) (tgt := 883) hx hb dL_law_33 (by rw [hk]; decide) (by rw [hk]; decide) (by rw [hk]; rfl) (by decide) (la_21 hi hL h nx p l e s m below meth c H locs ls hC0 hP hS hl h1 h2)
    · exact lv_tableIn (off := 883) (tgt := 916) hx hb dL_law_33 (by rw [hk]; decide) (by rw [hk]; decide) (by rw [hk]; rfl) (by decide) (la_22 hi hL h nx p l e s m below meth c H locs ls hC0 hP hS hl h1 h2)
    · exact lv_tableIn (off := 906) (tgt := 939) hx hb dL_law_33 (by rw [hk]; decide) (by rw [hk]; decide) (by rw [hk]; rfl) (by decide) (la_23 hi hL h nx p l e s m below meth c H locs ls hC0 hP hS hl h1 h2)
    · exact lv_tableIn (off := 939) (tgt := 972) hx hb dL_law_33 (by rw [hk]; decide) (by rw [hk]; decide) (by rw [hk]; rfl) (by decide) (la_24 hi hL h nx p l e s m below meth c H locs ls hC0 hP hS hl h1 h2)
    · exact lv_tableIn (off := 962) (tgt := 995) hx hb dL_law_33 (by rw [hk]; decide) (by rw [hk]; decide) (by rw [hk]; rfl) (by decide) (la_25 hi hL h nx p l e s m below meth c H locs ls hC0 hP hS hl h1 h2)
    · exact lv_tableIn (off := 985) (tgt := 1018) hx hb dL_law_33 (by rw [hk]; decide) (by rw [hk]; decide) (by rw [hk]; rfl) (by decide) (la_26 hi hL h nx p l e s m below meth c H locs ls hC0 hP hS hl h1 h2)
    · exact lv_tableIn (off := 1008) (tgt := 1041) hx hb dL_law_33 (by rw [hk]; decide) (by rw [hk]; decide) (by rw [hk]; rfl) (by decide) (la_27 hi hL h nx p l e s m below meth c H locs ls hC0 hP hS hl h1 h2)
    · exact lv_tableIn (off := 1031) (tgt := 1064) hx hb dL_law_33 (by rw [hk]; decide) (by rw [hk]; decide) (by rw [hk]; rfl) (by decide) (la_28 hi hL h nx p l e s m below meth c H locs ls hC0 hP hS hl h1 h2)
    · exact lv_tableIn (off := 1054) (tgt := 1087) hx hb dL_law_33 (by rw [hk]; decide) (by rw [hk]; decide) (by rw [hk]; rfl) (by decide) (la_29 hi hL h nx p l e s m below meth c H locs ls hC0 hP hS hl h1 h2)
    · exact lv_tableIn (off := 1087) (tgt := 1120) hx hb dL_law_33 (by rw [hk]; decide) (by rw [hk]; decide) (by rw [hk]; rfl) (by decide) (la_30 hi hL h nx p l e s m below meth c H locs ls hC0 hP hS hl h1 h2)
    · exact lv_tableIn (off := 1110) (tgt := 1143) hx hb dL_law_33 (by rw [hk]; decide) (by rw [hk]; decide) (by rw [hk]; rfl) (by decide) (la_31 hi hL h nx p l e s m below meth c H locs ls hC0 hP hS hl h1 h2)
    · exact lv_tableIn (off := 1123) (tgt := 1156) hx hb dL_law_33 (by rw [hk]; decide) (by rw [hk]; decide) (by rw [hk]; rfl) (by decide) (la_32 hi hL h nx p l e s m below meth c H locs ls hC0 hP hS hl h1 h2)
    · exact lv_tableIn (off := 1162) (tgt := 1195) hx hb dL_law_33 (by rw [hk]; decide) (by rw [hk]; decide) (by rw [hk]; rfl) (by decide) (la_33 hi hL h nx p l e s m below meth c H locs ls hC0 hP hS hl h1 h2)
theorem law_loop (hL : L ≤ 3072) : ∀ (n i : Nat), L ≤ i + n → i ≤ L + 6 → ∀ x y, Rel x y → LAW G b σ sb L xs cn sn 18 (LV b sb i) [] x y
  | 0, i, hn, hi, x, y, _ => law_head hL hi (fun _ => law_end) (fun h6 => absurd h6 (by omega))
  | n + 1, i, hn, hi, x, y, h => law_head hL hi (fun _ => law_end) (fun h6 => law_body hL h6 h (fun x2 y2 h2 => law_next (law_loop hL n (i + 6) (by omega) (by omega) x2 y2 h2)))
end LL
