/-! LAYER 2: THE CALLS, 2: party, eater, taste -/
/-- one slot of the commune's rows was told -/
theorem Rel.slot {x y : qS} {v : Int32} (h : Rel x y) (j c s : Nat) (hj : j < 86) (hc : cC j = c) (hs : cS j = s) (h0 : j ≠ 0) (hv : bLo j ≤ v.toInt ∧ v.toInt ≤ bHi j) (h4 : j ≠ 4)
    (ht : 20 ≤ j → j < 34 → v.toInt < (y.1 163 6).toInt) (hp : 5 ≤ j → j < 10 → (y.1 163 6).toInt ≤ ((j - 5 : Nat) : Int) → v = nI 0) (hq : 10 ≤ j → j < 15 → (y.1 163 6).toInt ≤ ((j - 10 : Nat) : Int) → v = nI 0) :
    Rel (q_up (q_up x (2 + c) s v) 0 5 (nI 0)) (q_up (q_up (q_up y 163 0 (nI 0)) 164 j v) 163 3 (nI 0)) := by
  have hc9 : c < 9 := hc ▸ cC_lt j hj
  have e4 : ∀ i, i < 136 → (q_up (q_up (q_up y 163 0 (nI 0)) 164 j v) 163 3 (nI 0)).1 164 i = if i = j then v else y.1 164 i := fun i _ => rfl
  have eg : ∀ i, i ≠ 0 → i ≠ 3 → (q_up (q_up (q_up y 163 0 (nI 0)) 164 j v) 163 3 (nI 0)).1 163 i = y.1 163 i := fun i h1 h2 => by
    rw [q_up_1, if_pos rfl, upd_g, if_neg h2]; show upd (y.1 163) 0 (nI 0) i = _; rw [upd_g, if_neg h1]
  refine h.set (fun c' h1 h2 => ?_) (by rw [q_up_1, if_pos rfl, upd_g, if_neg (by omega), q_up_1, if_neg (by omega)]) (by rw [q_up_1, if_pos rfl, upd_g, if_pos rfl]) (by rw [q_up_1, if_pos rfl, upd_g, if_neg (by omega), q_up_1, if_neg (by omega)]) (fun c' h1 h2 => ?_) (fun i h1 h2 _ => eg i h1 h2) rfl ?_ ?_ ?_ ?_ ?_ ?_
  · rw [q_up_1, if_neg h1, q_up_1, if_neg (by omega)]
  · rw [q_up_1, if_neg h1, q_up_1, if_neg h2, q_up_1, if_neg h1]
  · exact ((h.C.up j hj hc hs (X' := (q_up x (2 + c) s v).1) (v := v) (fun c => q_up_1) e4).fr (fun c a1 a2 => by rw [q_up_1, if_neg (by omega)])).gr (eg 6 (by omega) (by omega)) (eg 7 (by omega) (by omega)) (eg 8 (by omega) (by omega)) (eg 9 (by omega) (by omega)) (eg 10 (by omega) (by omega)) (eg 11 (by omega) (by omega))
  · exact (h.B.up h.G j (by omega) hv e4 h4 ht hp hq (by omega)).gr (eg 6 (by omega) (by omega)) (eg 7 (by omega) (by omega))
  · rw [e4 0 (by omega), if_neg (by omega)]; exact h.w
  · exact h.G.mv (fun i hi => eg i (by omega) (by omega))
  · rw [eg 6 (by omega) (by omega)]; omega
  · rw [eg 7 (by omega) (by omega)]; omega
theorem sim_party (a : Int32) : SIM (m_X10_party a) (m_X11_party a) := fun x y h => by
  obtain ⟨P, hP5, hP, hP2⟩ := h.G.P
  have hx7 : x.1 2 7 = nI P := by rw [h.C.parties, hP]
  have p63 : (q_up y 163 0 (nI 0)).1 163 6 = nI P := hP
  unfold m_X10_party m_X11_party
  simp only [lit_n, mI_lit]
  rcases within_b a 0 999 (by omega) (by omega) with ⟨n, n0, n1, n2, w1, w2⟩ | ⟨w1, w2⟩
  · by_cases hp5 : P = 5
    · refine ⟨mI, x, q_up y 163 0 (nI 0), ?_, ?_, h.told⟩
      · simp only [w1, q_bd_some, z10, if_false, hx7, hp5, nI_t (show 5 < 2147483648 by omega), show ¬ (((5 : Nat) : Int) < ((5 : Nat) : Int)) by omega]
      · simp only [q_let, w2, q_bd_some, z10, if_false, p63, hp5, if_true]
    · subst n2
      have z1 : q_ast (q_up x 0 5 (nI 0)) 3 5 (nI P) (nI n) = some (q_up (q_up x 0 5 (nI 0)) 3 P (nI n)) := ast_n (by omega) (by omega)
      have z2 : ∀ u : qS, q_ast u 4 5 (nI P) (nI 0) = some (q_up u 4 P (nI 0)) := fun u => ast_n (by omega) (by omega)
      have z3 : ∀ u : qS, q_ast u 5 5 (nI P) (nI 0) = some (q_up u 5 P (nI 0)) := fun u => ast_n (by omega) (by omega)
      have y1 : q_ast (q_up y 163 0 (nI 0)) 164 136 (nI (15 + P)) (nI n) = some (q_up (q_up y 163 0 (nI 0)) 164 (15 + P) (nI n)) := ast_n (by omega) (by omega)
      have hm : nI (P + 1) - nI 1 = nI P := nI_sub (by omega)
      refine ⟨nI P, q_up (q_up (q_up (q_up (q_up x 0 5 (nI 0)) 3 P (nI n)) 4 P (nI 0)) 5 P (nI 0)) 2 7 (nI (P + 1)), q_up (q_up (q_up (q_up y 163 0 (nI 0)) 164 (15 + P) (nI n)) 163 6 (nI (P + 1))) 163 3 (nI 0), ?_, ?_, ?_⟩
      · have c1 : (nI P).toInt < (nI 5).toInt := by rw [nI_t (by omega), nI_t (by omega)]; omega
        unfold m_X10_forget m_X0_addParty
        have e7 : (q_up x 0 5 (nI 0)).1 2 7 = nI P := hx7
        have e8 : (q_up (q_up (q_up (q_up x 0 5 (nI 0)) 3 P (nI n)) 4 P (nI 0)) 5 P (nI 0)).1 2 7 = nI P := hx7
        simp only [lit_n, w1, q_bd_some, z10, if_false, hx7, if_pos c1, q_let, e7, z1, z2, z3, Option.bind_some, e8, nI_add]
      · have c1 : ¬ (nI P).toInt = (nI 5).toInt := by rw [nI_t (by omega), nI_t (by omega)]; omega
        have e6 : (q_up (q_up y 163 0 (nI 0)) 164 (15 + P) (nI n)).1 163 6 = nI P := hP
        have e7 : (q_up (q_up (q_up (q_up y 163 0 (nI 0)) 164 (15 + P) (nI n)) 163 6 (nI (P + 1))) 163 3 (nI 0)).1 163 6 = nI (P + 1) := rfl
        simp only [q_let, w2, q_bd_some, z10, if_false, p63, if_neg c1, nI_add, y1, Option.bind_some, e6, e7, hm]
      · have hb0 := h.B.2.2.1 P (by rw [hP2]; omega) (by omega)
        have e4 : ∀ i, i < 136 → (q_up (q_up (q_up (q_up y 163 0 (nI 0)) 164 (15 + P) (nI n)) 163 6 (nI (P + 1))) 163 3 (nI 0)).1 164 i = if i = 15 + P then nI n else y.1 164 i := fun i _ => rfl
        have eg : ∀ i, i ≠ 0 → i ≠ 3 → i ≠ 6 → (q_up (q_up (q_up (q_up y 163 0 (nI 0)) 164 (15 + P) (nI n)) 163 6 (nI (P + 1))) 163 3 (nI 0)).1 163 i = y.1 163 i := fun i h1 h2 h3 => by
          rw [q_up_1, if_pos rfl, upd_g, if_neg h2, q_up_1, if_pos rfl, upd_g, if_neg h3]; show upd (y.1 163) 0 (nI 0) i = _; rw [upd_g, if_neg h1]
        have eg6 : (q_up (q_up (q_up (q_up y 163 0 (nI 0)) 164 (15 + P) (nI n)) 163 6 (nI (P + 1))) 163 3 (nI 0)).1 163 6 = nI (P + 1) := rfl
        have C0 : RC 2 (q_up x 0 5 (nI 0)).1 (y.1 164) (y.1 163) := h.C.fr (fun c a1 a2 => by rw [q_up_1, if_neg (by omega)])
        have C1 := C0.up (15 + P) (c := 1) (s := P) (by omega) (by unfold cC; simp (disch := omega) only [if_pos, if_neg]) (by unfold cS; simp (disch := omega) only [if_pos, if_neg]; omega) (X' := (q_up (q_up x 0 5 (nI 0)) 3 P (nI n)).1) (v := nI n) (fun c => q_up_1) e4
        have C2 := C1.up (5 + P) (c := 2) (s := P) (by omega) (by unfold cC; simp (disch := omega) only [if_pos, if_neg]) (by unfold cS; simp (disch := omega) only [if_pos, if_neg]; omega) (X' := (q_up (q_up (q_up x 0 5 (nI 0)) 3 P (nI n)) 4 P (nI 0)).1) (v := nI 0) (f' := (q_up (q_up (q_up (q_up y 163 0 (nI 0)) 164 (15 + P) (nI n)) 163 6 (nI (P + 1))) 163 3 (nI 0)).1 164) (fun c => q_up_1) (fun i hi => by
          by_cases e : i = 5 + P
          · rw [if_pos e, e, e4 _ (by omega), if_neg (by omega)]; exact hb0.1
          · rw [if_neg e])
        have C3 := C2.up (10 + P) (c := 3) (s := P) (by omega) (by unfold cC; simp (disch := omega) only [if_pos, if_neg]) (by unfold cS; simp (disch := omega) only [if_pos, if_neg]; omega) (X' := (q_up (q_up (q_up (q_up x 0 5 (nI 0)) 3 P (nI n)) 4 P (nI 0)) 5 P (nI 0)).1) (v := nI 0) (f' := (q_up (q_up (q_up (q_up y 163 0 (nI 0)) 164 (15 + P) (nI n)) 163 6 (nI (P + 1))) 163 3 (nI 0)).1 164) (fun c => q_up_1) (fun i hi => by
          by_cases e : i = 10 + P
          · rw [if_pos e, e, e4 _ (by omega), if_neg (by omega)]; exact hb0.2
          · rw [if_neg e])
        have C4 := C3.fld (s := 7) (v := nI (P + 1)) (X2 := (q_up (q_up (q_up (q_up (q_up x 0 5 (nI 0)) 3 P (nI n)) 4 P (nI 0)) 5 P (nI 0)) 2 7 (nI (P + 1))).1) (g2 := (q_up (q_up (q_up (q_up y 163 0 (nI 0)) 164 (15 + P) (nI n)) 163 6 (nI (P + 1))) 163 3 (nI 0)).1 163) (by omega) (fun c => q_up_1) (eg 7 (by omega) (by omega) (by omega)) ((show _ = x.1 2 2 from rfl).trans h.C.bad) ((show _ = x.1 2 3 from rfl).trans h.C.wasps) ((show _ = x.1 2 4 from rfl).trans h.C.chairs) ((show _ = x.1 2 5 from rfl).trans h.C.every) rfl
        refine h.set (fun c h1 h2 => ?_) rfl rfl rfl (fun c h1 h2 => ?_) (fun j h1 h2 h3 => eg j h1 h2 (by omega)) rfl C4 ?_ ?_ ?_ ?_ ?_
        · rw [q_up_1, if_neg (by omega), q_up_1, if_neg (by omega), q_up_1, if_neg (by omega), q_up_1, if_neg (by omega), q_up_1, if_neg h1]
        · rw [q_up_1, if_neg h1, q_up_1, if_neg h1, q_up_1, if_neg h2, q_up_1, if_neg h1]
        · refine BC.mono (g := y.1 163) (h.B.up h.G (15 + P) (by omega) (by rw [nI_t (by omega), bLo_0 (by omega) (by omega), bHi_j (by omega)]; omega) e4 (by omega) (by omega) (by omega) (by omega) (by omega)) ?_ ?_
          · rw [eg6, nI_t (by omega), hP2]; omega
          · rw [eg 7 (by omega) (by omega) (by omega)]; omega
        · rw [e4 0 (by omega), if_neg (by omega)]; exact h.w
        · have hG := h.G
          refine ⟨?_, ?_, ?_, ?_, ?_, ?_⟩
          · rw [eg6, nI_t (by omega)]; omega
          · rw [eg 7 (by omega) (by omega) (by omega)]; exact hG.2.1
          · rw [eg 8 (by omega) (by omega) (by omega)]; exact hG.2.2.1
          · rw [eg 9 (by omega) (by omega) (by omega)]; exact hG.2.2.2.1
          · rw [eg 10 (by omega) (by omega) (by omega)]; exact hG.2.2.2.2.1
          · rw [eg 11 (by omega) (by omega) (by omega)]; exact hG.2.2.2.2.2
        · rw [eg6, nI_t (by omega), hP2]; omega
        · rw [eg 7 (by omega) (by omega) (by omega)]; omega
  · refine ⟨mI, x, q_up y 163 0 (nI 0), ?_, ?_, h.told⟩
    · simp only [w1, q_bd_some, z00, if_true]
    · simp only [q_let, w2, q_bd_some, z00, if_true]
theorem five_it {e : Nat} {x2 : Int32} {K : qS → qR} {x : qS} (he : e < 10) : ∀ (n p f : Nat) (r : Nat → Int32), p + n = 5 → n < f →
    q_it1 (m_X0_addEater_L14 2 (nI e) K) f (nI p) (q_st x 11 r) = K (q_st x 11 (fun i => if 5 * e + p ≤ i ∧ i < 5 * e + 5 then nI 5 else r i))
  | n, p, 0, r, hp, hf => by omega
  | 0, p, f + 1, r, hp, hf => by
    have : (fun i => if 5 * e + p ≤ i ∧ i < 5 * e + 5 then nI 5 else r i) = r := funext fun i => if_neg (by omega)
    rw [this]
    show m_X0_addEater_L14 _ _ _ _ _ _ = _
    unfold m_X0_addEater_L14
    rw [lit_n, if_pos (by rw [nI_t (by omega), nI_t (by omega)]; omega)]
  | n + 1, p, f + 1, r, hp, hf => by
    have ih := five_it (x2 := x2) (K := K) (x := x) he n (p + 1) f (upd r (5 * e + p) (nI 5)) (by omega) (by omega)
    have e1 : (fun i => if 5 * e + (p + 1) ≤ i ∧ i < 5 * e + 5 then nI 5 else upd r (5 * e + p) (nI 5) i) = (fun i => if 5 * e + p ≤ i ∧ i < 5 * e + 5 then nI 5 else r i) := funext fun i => by
      rw [upd_g]
      by_cases h : i = 5 * e + p
      · rw [if_neg (by omega), if_pos h, if_pos (by omega)]
      · by_cases h2 : 5 * e + (p + 1) ≤ i ∧ i < 5 * e + 5
        · rw [if_pos h2, if_pos (by omega)]
        · rw [if_neg h2, if_neg h, if_neg (by omega)]
    rw [e1] at ih
    rw [← ih]
    show m_X0_addEater_L14 _ _ _ (q_it1 (m_X0_addEater_L14 2 (nI e) K) f) _ _ = _
    generalize q_it1 (m_X0_addEater_L14 2 (nI e) K) f = self
    unfold m_X0_addEater_L14
    have c1 : ¬ (nI 5).toInt ≤ (nI p).toInt := by rw [nI_t (by omega), nI_t (by omega)]; omega
    have y1 : q_ast (q_st x 11 r) (2 + 9) 50 (nI (e * 5 + p)) (nI 5) = some (q_st x 11 (upd r (5 * e + p) (nI 5))) := by rw [q_ast_ok (by omega) (by omega), q_st_st, q_st_g, if_pos rfl, show e * 5 + p = 5 * e + p by omega]
    simp only [lit_n, pk_mul, nI_add, if_neg c1, y1, Option.bind_some]
theorem sim_eater (a : Int32) : SIM (m_X10_eater a) (m_X11_eater a) := fun x y h => by
  obtain ⟨E, hE1, hE, hE2⟩ := h.G.E
  have hx9 : x.1 2 9 = nI E := by rw [h.C.eaters, hE]
  have p63 : (q_up y 163 0 (nI 0)).1 163 7 = nI E := hE
  unfold m_X10_eater m_X11_eater
  simp only [lit_n, mI_lit]
  rcases within_b a 0 20 (by omega) (by omega) with ⟨n, n0, n1, n2, w1, w2⟩ | ⟨w1, w2⟩
  · by_cases hp5 : E = 10
    · refine ⟨mI, x, q_up y 163 0 (nI 0), ?_, ?_, h.told⟩
      · simp only [w1, q_bd_some, z10, if_false, hx9, hp5, nI_t (show 10 < 2147483648 by omega), show ¬ (((10 : Nat) : Int) < ((10 : Nat) : Int)) by omega]
      · simp only [q_let, w2, q_bd_some, z10, if_false, p63, hp5, if_true]
    · subst n2
      let x1 := q_up (q_up x 0 5 (nI 0)) 10 E (nI n)
      have z1 : q_ast (q_up x 0 5 (nI 0)) (2 + 8) 10 (nI E) (nI n) = some x1 := ast_n (by omega) (by omega)
      have y1 : q_ast (q_up y 163 0 (nI 0)) 164 136 (nI (76 + E)) (nI n) = some (q_up (q_up y 163 0 (nI 0)) 164 (76 + E) (nI n)) := ast_n (by omega) (by omega)
      have hm : nI (E + 1) - nI 1 = nI E := nI_sub (by omega)
      have e11 : x1.1 11 = x.1 11 := rfl
      have fi := five_it (e := E) (x2 := nI 0) (K := fun u_3 => q_let (q_up u_3 2 9 ((u_3.1 2 9) + nI 1)) fun u_4 => some (nI E, u_4)) (x := x1) (by omega) 5 0 q_F (x1.1 11) (by omega) (by rw [q_F_eq]; omega)
      rw [q_st_self rfl] at fi
      have hx3 : ∀ r, (q_st x1 11 r).1 2 9 = nI E := fun r => hx9
      rw [q_let_s, hx3, nI_add, Nat.add_zero] at fi
      refine ⟨nI E, q_up (q_st x1 11 (fun i => if 5 * E ≤ i ∧ i < 5 * E + 5 then nI 5 else x1.1 11 i)) 2 9 (nI (E + 1)), q_up (q_up (q_up (q_up y 163 0 (nI 0)) 164 (76 + E) (nI n)) 163 7 (nI (E + 1))) 163 3 (nI 0), ?_, ?_, ?_⟩
      · have c1 : (nI E).toInt < (nI 10).toInt := by rw [nI_t (by omega), nI_t (by omega)]; omega
        have ae : m_X0_addEater 2 (nI n) (q_up x 0 5 (nI 0)) = some (nI E, q_up (q_st x1 11 (fun i => if 5 * E ≤ i ∧ i < 5 * E + 5 then nI 5 else x1.1 11 i)) 2 9 (nI (E + 1))) := by
          unfold m_X0_addEater
          have e9 : (q_up x 0 5 (nI 0)).1 2 9 = nI E := hx9
          simp only [lit_n]
          rw [q_let_s, e9, z1, Option.bind_some, fi]
        unfold m_X10_forget
        simp only [lit_n, w1, q_bd_some, z10, if_false, hx9, if_pos c1, q_let, ae]
      · have c1 : ¬ (nI E).toInt = (nI 10).toInt := by rw [nI_t (by omega), nI_t (by omega)]; omega
        have e6 : (q_up (q_up y 163 0 (nI 0)) 164 (76 + E) (nI n)).1 163 7 = nI E := hE
        have e7 : (q_up (q_up (q_up (q_up y 163 0 (nI 0)) 164 (76 + E) (nI n)) 163 7 (nI (E + 1))) 163 3 (nI 0)).1 163 7 = nI (E + 1) := rfl
        simp only [q_let, w2, q_bd_some, z10, if_false, p63, if_neg c1, nI_add, y1, Option.bind_some, e6, e7, hm]
      · have e4 : ∀ i, i < 136 → (q_up (q_up (q_up (q_up y 163 0 (nI 0)) 164 (76 + E) (nI n)) 163 7 (nI (E + 1))) 163 3 (nI 0)).1 164 i = if i = 76 + E then nI n else y.1 164 i := fun i _ => rfl
        have eg : ∀ i, i ≠ 0 → i ≠ 3 → i ≠ 7 → (q_up (q_up (q_up (q_up y 163 0 (nI 0)) 164 (76 + E) (nI n)) 163 7 (nI (E + 1))) 163 3 (nI 0)).1 163 i = y.1 163 i := fun i h1 h2 h3 => by
          rw [q_up_1, if_pos rfl, upd_g, if_neg h2, q_up_1, if_pos rfl, upd_g, if_neg h3]; show upd (y.1 163) 0 (nI 0) i = _; rw [upd_g, if_neg h1]
        have eg7 : (q_up (q_up (q_up (q_up y 163 0 (nI 0)) 164 (76 + E) (nI n)) 163 7 (nI (E + 1))) 163 3 (nI 0)).1 163 7 = nI (E + 1) := rfl
        have C0 : RC 2 (q_up x 0 5 (nI 0)).1 (y.1 164) (y.1 163) := h.C.fr (fun c a1 a2 => by rw [q_up_1, if_neg (by omega)])
        have C1 := C0.up (76 + E) (c := 8) (s := E) (by omega) (by unfold cC; simp (disch := omega) only [if_pos, if_neg]) (by unfold cS; simp (disch := omega) only [if_pos, if_neg]; omega) (X' := x1.1) (v := nI n) (fun c => q_up_1) e4
        have hr : ∀ c, c ≠ 2 → c ≠ 11 → (q_up (q_st x1 11 (fun i => if 5 * E ≤ i ∧ i < 5 * E + 5 then nI 5 else x1.1 11 i)) 2 9 (nI (E + 1))).1 c = x1.1 c := fun c h1 h2 => by rw [q_up_1, if_neg h1, q_st_g, if_neg h2]
        have h2s : ∀ s, s ≠ 9 → (q_up (q_st x1 11 (fun i => if 5 * E ≤ i ∧ i < 5 * E + 5 then nI 5 else x1.1 11 i)) 2 9 (nI (E + 1))).1 2 s = x.1 2 s := fun s hs => by rw [q_up_1, if_pos rfl, upd_g, if_neg hs]; rfl
        refine h.set (fun c h1 h2 => ?_) rfl rfl rfl (fun c h1 h2 => ?_) (fun j h1 h2 h3 => eg j h1 h2 (by omega)) rfl ?_ ?_ ?_ ?_ ?_ ?_
        · rw [hr c (by omega) (by omega)]; show (q_up (q_up x 0 5 (nI 0)) 10 E (nI n)).1 c = _; rw [q_up_1, if_neg (by omega), q_up_1, if_neg h1]
        · rw [q_up_1, if_neg h1, q_up_1, if_neg h1, q_up_1, if_neg h2, q_up_1, if_neg h1]
        · refine ⟨fun j hj => ?_, fun i hi he => ?_, ?_, ?_, ?_, ?_, ?_, ?_⟩
          · have hj9 := cC_lt j hj
            by_cases e0 : cC j = 0
            · have := cC_0 j hj e0
              have hh := C1.1 j hj
              rw [e0] at hh ⊢
              rw [Nat.add_zero, h2s _ (by omega)]; exact hh
            · rw [hr _ (by omega) (by omega)]; exact C1.1 j hj
          · rw [eg7, nI_t (by omega)] at he
            rw [e4 _ (by omega), if_neg (by omega)]
            show (q_up (q_st x1 11 (fun i => if 5 * E ≤ i ∧ i < 5 * E + 5 then nI 5 else x1.1 11 i)) 2 9 (nI (E + 1))).1 11 i = _
            rw [q_up_1, if_neg (by omega), q_st_g, if_pos rfl]
            by_cases hi5 : 5 * E ≤ i
            · rw [if_pos ⟨hi5, by omega⟩, h.B.2.2.2 i (by rw [hE2]; omega) hi]; rfl
            · rw [if_neg (fun e => hi5 e.1)]
              exact h.C.taste hi (by rw [hE2]; omega)
          · rw [h2s 2 (by omega), eg 8 (by omega) (by omega) (by omega)]; exact h.C.bad
          · rw [h2s 3 (by omega), eg 9 (by omega) (by omega) (by omega)]; exact h.C.wasps
          · rw [h2s 4 (by omega), eg 10 (by omega) (by omega) (by omega)]; exact h.C.chairs
          · rw [h2s 5 (by omega), eg 11 (by omega) (by omega) (by omega)]; exact h.C.every
          · rw [h2s 7 (by omega), eg 6 (by omega) (by omega) (by omega)]; exact h.C.parties
          · rfl
        · refine BC.mono (g := y.1 163) (h.B.up h.G (76 + E) (by omega) (by rw [nI_t (by omega), bLo_0 (by omega) (by omega), bHi_u (by omega)]; omega) e4 (by omega) (by omega) (by omega) (by omega) (by omega)) ?_ ?_
          · rw [eg 6 (by omega) (by omega) (by omega)]; omega
          · rw [eg7, nI_t (by omega), hE2]; omega
        · rw [e4 0 (by omega), if_neg (by omega)]; exact h.w
        · have hG := h.G
          refine ⟨?_, ?_, ?_, ?_, ?_, ?_⟩
          · rw [eg 6 (by omega) (by omega) (by omega)]; exact hG.1
          · rw [eg7, nI_t (by omega)]; omega
          · rw [eg 8 (by omega) (by omega) (by omega)]; exact hG.2.2.1
          · rw [eg 9 (by omega) (by omega) (by omega)]; exact hG.2.2.2.1
          · rw [eg 10 (by omega) (by omega) (by omega)]; exact hG.2.2.2.2.1
          · rw [eg 11 (by omega) (by omega) (by omega)]; exact hG.2.2.2.2.2
        · rw [eg 6 (by omega) (by omega) (by omega)]; omega
        · rw [eg7, nI_t (by omega), hE2]; omega
  · refine ⟨mI, x, q_up y 163 0 (nI 0), ?_, ?_, h.told⟩
    · simp only [w1, q_bd_some, z00, if_true]
    · simp only [q_let, w2, q_bd_some, z00, if_true]
