/-! LAYER 2: THE CALLS, 43: a plan's line -/
def PLd (u v : qS) (P E i : Nat) : Prop := ∃ d q o : Nat, d < 5 ∧ u.1 84 i = v.1 179 (64 + 4 * i) ∧ v.1 179 (64 + 4 * i + 1) = nI d ∧ u.1 85 i = nI (if d = 0 then 257 else 258 + d) ∧ u.1 86 i = nI q ∧ v.1 179 (64 + 4 * i + 2) = nI q ∧ u.1 87 i = nI o ∧ v.1 179 (64 + 4 * i + 3) = nI o ∧ q < 10 ∧ ((d = 0 ∨ d = 3) → q < P) ∧ (d = 4 → q < E) ∧ (d = 0 → o < 10) ∧ (d = 3 → 1 ≤ o) ∧ o ≤ 99
theorem nm_n {n : Nat} (h : n < 2147483648) : ¬ (nI n).toInt = mI.toInt := by rw [nI_t h, mI_t]; omega
/-- only what belongs to line k of the draft has changed -/
def PK (k : Nat) (u v u2 v2 : qS) : Prop := (∀ c j, 84 ≤ c → c ≤ 87 → j ≠ k → u2.1 c j = u.1 c j) ∧ (∀ j, (j < 64 + 4 * k ∨ 64 + 4 * k + 4 ≤ j) → v2.1 179 j = v.1 179 j)
theorem PK.rfl' {k : Nat} {u v : qS} : PK k u v u v := ⟨fun _ _ _ _ _ => rfl, fun _ _ => rfl⟩
def ENDc (k : Nat) (u_23 : qS) : qR := q_let (q_up u_23 83 0 ((u_23.1 83 0) + nI 1)) fun u_24 => Option.bind (q_ald u_24 87 16 (nI k)) fun a_25 => if a_25.toInt = mI.toInt then some (nI 0, u_24) else q_bd (m_X6_takes 66 (nI 59) u_24) fun r_26 u_27 => if r_26.toInt = 0 then some (nI 0, u_27) else some (nI 1, u_27)
def RCc (k : Nat) (r_5 s0 r_17 : Int32) (u_18 : qS) : qR := Option.bind (q_ast u_18 86 16 (nI k) r_17) fun u_19 => Option.bind (q_ald u_19 86 16 (nI k)) fun a_20 => if a_20.toInt = mI.toInt then some (nI 0, u_19) else q_jn (fun (u_21 : qS) => Option.bind (q_ast u_21 87 16 (nI k) (nI 0)) fun u_22 => q_jn (fun (u_23 : qS) => ENDc k u_23) fun J244 => if s0.toInt = 0 then J244 u_22 else q_jn (fun (s0_28 : Int32) (u_29 : qS) => Option.bind (q_ast u_29 87 16 (nI k) s0_28) fun u_30 => J244 u_30) fun J243 => if r_5.toInt = (nI 257).toInt then q_bd (m_X6_number 66 (nI 0) (nI 9) u_22) fun r_33 u_34 => J243 r_33 u_34 else q_bd (m_X6_number 66 (nI 1) (nI 99) u_22) fun r_31 u_32 => J243 r_31 u_32) fun J197 => if r_5.toInt = (nI 257).toInt then q_bd (m_X6_takes 66 (nI 258) u_19) fun r_35 u_36 => if r_35.toInt = 0 then some (nI 0, u_36) else J197 u_36 else J197 u_19
def J12r (a s0 : Int32) (u_2 : qS) : qR := Option.bind (q_ast u_2 179 128 (a + nI 3) s0) fun u_3 => Option.bind (q_ald u_3 179 128 (a + nI 3)) fun a_4 => some (a_4, u_3)
def RDr (x1 x2 : Int32) (r : Int32) (u_10 : qS) : qR := Option.bind (q_ast u_10 179 128 (x1 + nI 2) r) fun u_1 => Option.bind (q_ald u_1 179 128 (x1 + nI 2)) fun a => if a.toInt = mI.toInt then some (mI, u_1) else q_jn (fun (s0 : Int32) (u_2 : qS) => J12r x1 s0 u_2) fun J120 => if x2.toInt = (nI 19).toInt then q_bd (m_X11_readTold (nI 20) (nI 0) (nI 9) u_1) fun r_6 u_7 => J120 r_6 u_7 else if x2.toInt = (nI 23).toInt then q_bd (m_X11_readNumber (nI 1) (nI 99) u_1) fun r u_5 => J120 r u_5 else J120 (nI 0) u_1
section
variable {N T : Nat} {z : Nat → Int} {u0 v0 : qS}
/-- what a line ends with -/
theorem ptl {u v : qS} {i k o P E : Nat} (hX : CX N z 2 T u0 v0) (hk : k < 16) (hB : BS N z T u0 v0 u v i) (h83 : u.1 83 0 = nI k) (ho : u.1 87 k = nI o) (ho9 : o ≤ 99) (hL : PLd u v P E k) :
    (∃ u2 v2 w p, ENDc k u = some (nI 0, u2) ∧ m_X11_readMark (nI 59) v = some (mI, v2) ∧ FC u0 u2 w p ∧ FV v0 v2 w p) ∨
    (∃ u2 v2, ENDc k u = some (nI 1, u2) ∧ m_X11_readMark (nI 59) v = some (nI 0, v2) ∧ BS N z T u0 v0 u2 v2 (i + 1) ∧ u2.1 83 0 = nI (k + 1) ∧ PLd u2 v2 P E k ∧ PK k u v u2 v2) := by
  have hB1 := hB.uc (c := 83) (j := 0) (x := u.1 83 0 + nI 1) (by omega)
  have al : q_ald (q_up u 83 0 (u.1 83 0 + nI 1)) 87 16 (nI k) = some (nI o) := by
    rw [ald_n (by omega) (by omega)]
    exact congrArg some ho
  rcases mark_b hX hB1 with ⟨u9, v9, w, p, z1, z2, z3, z4⟩ | ⟨v9, z1, z2, z3, z4, z5⟩
  · refine Or.inl ⟨u9, v9, w, p, ?_, z2, z3, z4⟩
    unfold ENDc
    rw [q_let_s, al, Option.bind_some, if_neg (nm_n (by omega)), z1, q_bd_s', if_pos (by decide)]
  · refine Or.inr ⟨_, v9, ?_, z3, z4, ?_, ?_, fun c j h1 h2 h3 => ?_, fun j hj => ?_⟩
    · unfold ENDc
      rw [q_let_s, al, Option.bind_some, if_neg (nm_n (by omega)), z2, q_bd_s', if_neg (by decide)]
    · show u.1 83 0 + nI 1 = _
      rw [h83, nI_add]
    · have v9e : v9.1 179 = v.1 179 := z5.1 179 (by omega)
      unfold PLd at hL ⊢
      rw [v9e]
      exact hL
    · rw [q_up_1, if_neg (by omega), q_up_1, if_neg (by omega)]
    · rw [z5.1 179 (by omega)]
theorem pln {u v : qS} {i k P E : Nat} (hX : CX N z 2 T u0 v0) (hk : k < 16) (hP : P ≤ 5) (hE : E ≤ 10) (hB : BS N z T u0 v0 u v i) (c256 : ck 2 (tx N z i) = 256) (h83 : u.1 83 0 = nI k) (u7 : u0.1 66 7 = nI P) (u8 : u0.1 66 8 = nI E) (v6 : v0.1 163 6 = nI P) (v7 : v0.1 163 7 = nI E) :
    (∃ u2 v2 w p, m_X6_planLine 66 (nI k) u = some (nI 0, u2) ∧ m_X11_readPlanLine (nI (64 + 4 * k)) v = some (mI, v2) ∧ FC u0 u2 w p ∧ FV v0 v2 w p) ∨
    (∃ u2 v2 i2, m_X6_planLine 66 (nI k) u = some (nI 1, u2) ∧ m_X11_readPlanLine (nI (64 + 4 * k)) v = some (nI 0, v2) ∧ i < i2 ∧ BS N z T u0 v0 u2 v2 i2 ∧ u2.1 83 0 = nI (k + 1) ∧ PLd u2 v2 P E k ∧ PK k u v u2 v2) := by
  have hT := hX.T4
  have hsA : sA 2 = 18 := rfl
  have hsE : sE 2 = 25 := rfl
  have kd := kind_c hX hB.1 hB.2.1.1 hB.2.2.1
  have w18 := word_is (w := 18) hX hB.2.2.2.2 (by decide) (by decide)
  rw [show 256 + (18 - sA 2) = 256 from rfl] at w18
  rcases take_b (c := 256) hX hB (by omega) (by omega) with ⟨t1, t2, t3, va, r1, r2, r3⟩ | ⟨t1, _⟩
  · have bg : m_X6_begins 66 (nI 256) (nI k) u = some (nI 1, q_up u 66 6 (u.1 66 6 + nI 1)) := by
      unfold m_X6_begins
      simp only [lit_n]
      rw [kd, q_bd_s', q_jn, c256, if_pos rfl, if_pos (by rw [nI_t (by omega), nI_t (by omega)]; omega)]
      dsimp only
      rw [t3, q_bd_s', bz_1]
    have ua_c : ∀ c, c ≠ 66 → (q_up u 66 6 (u.1 66 6 + nI 1)).1 c = u.1 c := fun c hc => by rw [q_up_1, if_neg hc]
    generalize q_up u 66 6 (u.1 66 6 + nI 1) = ua at *
    have rt : ∀ r v3, m_X11_readNumber (nI 0) (nI 999) va = some (r, v3) → m_X11_readTold (nI 18) (nI 0) (nI 999) v = some (r, v3) := fun r v3 hr => by
      unfold m_X11_readTold
      simp only [lit_n]
      rw [w18, q_bd_s', decide_eq_true c256, if_neg bI_1, r1, q_bd_s', hr, q_bd_s']
    rcases num_b hX r2 0 (nI 999) (by omega) with ⟨u3, v3, w, p, x1, x2, x3, x4⟩ | ⟨vb, x1, x2, x3, x4, x5, x6, x7, x8, x9⟩
    · -- the week
      refine Or.inl ⟨q_up u3 84 k mI, q_up v3 179 (64 + 4 * k) mI, w, p, ?_, ?_, x3.up (by omega), x4.up (Or.inr ⟨rfl, by omega⟩)⟩
      · unfold m_X6_planLine
        simp only [lit_n, mI_lit]
        rw [bg, q_bd_s', if_neg (by decide), x1, q_bd_s', show 66 + 18 = 84 from rfl, ast_n (by omega) (by omega), Option.bind_some, ald_n (by omega) (by omega), Option.bind_some, q_up_1, if_pos rfl, upd_g, if_pos rfl, if_pos rfl]
      · unfold m_X11_readPlanLine
        simp only [lit_n, mI_lit]
        rw [rt _ _ x2, q_bd_s', ast_n (by omega) (by omega), Option.bind_some, ald_n (by omega) (by omega), Option.bind_some, q_up_1, if_pos rfl, upd_g, if_pos rfl, if_pos rfl]
    · generalize (tx N z (i + 1)).2 = wk at *
      have ub_c : ∀ c, c ≠ 66 → (q_up ua 66 6 (ua.1 66 6 + nI 1)).1 c = u.1 c := fun c hc => by rw [q_up_1, if_neg hc, ua_c c hc]
      generalize q_up ua 66 6 (ua.1 66 6 + nI 1) = ub at *
      have vb_179 : vb.1 179 = v.1 179 := by rw [x9.1 179 (by omega), r3.1 179 (by omega)]
      -- written
      have hB2 := (x8.uc (c := 84) (j := k) (x := nI wk) (by omega)).vc (c := 179) (j := 64 + 4 * k) (x := nI wk) (Or.inr ⟨rfl, by omega⟩)
      have uc_c : ∀ c j, c ≠ 66 → (q_up ub 84 k (nI wk)).1 c j = if c = 84 ∧ j = k then nI wk else u.1 c j := fun c j hc => by
        rw [q_up_1]
        by_cases e : c = 84
        · rw [if_pos e, upd_g]
          by_cases e2 : j = k
          · rw [if_pos e2, if_pos ⟨e, e2⟩]
          · rw [if_neg e2, if_neg (fun h => e2 h.2), ub_c 84 (by omega), e]
        · rw [if_neg e, if_neg (fun h => e h.1), ub_c c hc]
      have vc_j : ∀ j, (q_up vb 179 (64 + 4 * k) (nI wk)).1 179 j = if j = 64 + 4 * k then nI wk else v.1 179 j := fun j => by
        rw [q_up_1, if_pos rfl, upd_g, vb_179]
      have al84 : q_ald (q_up ub 84 k (nI wk)) 84 16 (nI k) = some (nI wk) := by rw [ald_n (by omega) (by omega), q_up_1, if_pos rfl, upd_g, if_pos rfl]
      have al179 : q_ald (q_up vb 179 (64 + 4 * k) (nI wk)) 179 128 (nI (64 + 4 * k)) = some (nI wk) := by rw [ald_n (by omega) (by omega), q_up_1, if_pos rfl, upd_g, if_pos rfl]
      have headC : ∀ X : qR, (∀ uc, uc = q_up ub 84 k (nI wk) → (q_bd (m_X6_kind 66 uc) fun r_5 u_6 => q_bd (m_X10_isWithin r_5 (nI 257) (nI 262) u_6) fun r_7 u_8 => q_jn (fun (u_9 : qS) => q_bd (m_X6_fail 66 (nI 1) u_9) fun r_10 u_11 => q_bz r_10 (some (r_10, u_11))) fun J70 => if r_7.toInt = 0 then J70 u_8 else if r_5.toInt = (nI 258).toInt then J70 u_8 else q_let (q_up u_8 66 6 ((u_8.1 66 6) + nI 1)) fun u_12 => q_jn (fun (s0 : Int32) (u_13 : qS) => q_jn (fun (s0_14 : Int32) (u_15 : qS) => Option.bind (q_ast u_15 85 16 (nI k) r_5) fun u_16 => q_bd (m_X6_number 66 (nI 0) s0_14 u_16) fun r_17 u_18 => Option.bind (q_ast u_18 86 16 (nI k) r_17) fun u_19 => Option.bind (q_ald u_19 86 16 (nI k)) fun a_20 => if a_20.toInt = mI.toInt then some (nI 0, u_19) else q_jn (fun (u_21 : qS) => Option.bind (q_ast u_21 87 16 (nI k) (nI 0)) fun u_22 => q_jn (fun (u_23 : qS) => q_let (q_up u_23 83 0 ((u_23.1 83 0) + nI 1)) fun u_24 => Option.bind (q_ald u_24 87 16 (nI k)) fun a_25 => if a_25.toInt = mI.toInt then some (nI 0, u_24) else q_bd (m_X6_takes 66 (nI 59) u_24) fun r_26 u_27 => if r_26.toInt = 0 then some (nI 0, u_27) else some (nI 1, u_27)) fun J244 => if s0.toInt = 0 then J244 u_22 else q_jn (fun (s0_28 : Int32) (u_29 : qS) => Option.bind (q_ast u_29 87 16 (nI k) s0_28) fun u_30 => J244 u_30) fun J243 => if r_5.toInt = (nI 257).toInt then q_bd (m_X6_number 66 (nI 0) (nI 9) u_22) fun r_33 u_34 => J243 r_33 u_34 else q_bd (m_X6_number 66 (nI 1) (nI 99) u_22) fun r_31 u_32 => J243 r_31 u_32) fun J197 => if r_5.toInt = (nI 257).toInt then q_bd (m_X6_takes 66 (nI 258) u_19) fun r_35 u_36 => if r_35.toInt = 0 then some (nI 0, u_36) else J197 u_36 else J197 u_19) fun J137 => if s0.toInt = 0 then if r_5.toInt = (nI 262).toInt then J137 ((u_13.1 66 8) - nI 1) u_13 else J137 (nI 9) u_13 else J137 ((u_13.1 66 7) - nI 1) u_13) fun J105 => q_jn (fun (u_37 : qS) => J105 (nI 1) u_37) fun J100 => if r_5.toInt = (nI 257).toInt then J100 u_12 else if r_5.toInt = (nI 261).toInt then J100 u_12 else J105 (nI 0) u_12) = X) → m_X6_planLine 66 (nI k) u = X := fun X hX' => by
        unfold m_X6_planLine
        simp only [lit_n, mI_lit]
        rw [bg, q_bd_s', if_neg (by decide), x6, q_bd_s', show 66 + 18 = 84 from rfl, ast_n (by omega) (by omega), Option.bind_some, al84, Option.bind_some, if_neg (nm_n (by omega))]
        exact hX' _ rfl
      have headR : ∀ Y : qR, (∀ vc, vc = q_up vb 179 (64 + 4 * k) (nI wk) → (q_jn (fun (s0 : Int32) (u_3 : qS) => q_jn (fun (u_4 : qS) => q_bd (m_X11_reads u_4) fun _ u_5 => q_jn (fun (s0_6 : Int32) (u_7 : qS) => Option.bind (q_ast u_7 179 128 (nI (64 + 4 * k) + nI 1) s0_6) fun u_8 => q_bd (m_X11_readDeed (nI (64 + 4 * k)) s0 u_8) fun r_9 u_10 => if r_9.toInt = mI.toInt then some (mI, u_10) else q_bd (m_X11_readMark (nI 59) u_10) fun r_11 u_12 => some (r_11, u_12)) fun J96 => if s0.toInt = (nI 19).toInt then J96 (nI 0) u_5 else J96 ((nI 1 + s0) - nI 21) u_5) fun J69 => if s0.toInt = (nI 19).toInt then J69 u_3 else q_bd (m_X11_isIn s0 (nI 21) (nI 24) u_3) fun r_13 u_14 => if r_13.toInt = 0 then q_bd (m_X11_errs (nI 1) u_14) fun r_15 u_16 => some (r_15, u_16) else J69 u_14) fun J44 => if (vc.1 163 17).toInt = (nI 2).toInt then J44 (vc.1 163 18) vc else J44 mI vc) = Y) → m_X11_readPlanLine (nI (64 + 4 * k)) v = Y := fun Y hY => by
        unfold m_X11_readPlanLine
        simp only [lit_n, mI_lit]
        rw [rt _ _ x7, q_bd_s', ast_n (by omega) (by omega), Option.bind_some, al179, Option.bind_some, if_neg (nm_n (by omega))]
        exact hY _ rfl
      have uc83 : (q_up ub 84 k (nI wk)).1 83 0 = nI k := by rw [uc_c 83 0 (by omega), if_neg (by omega)]; exact h83
      generalize q_up ub 84 k (nI wk) = uc at *
      generalize q_up vb 179 (64 + 4 * k) (nI wk) = vc at *
      have hA2 := hB2.2.2.2.2
      have i2T : i + 1 + 1 ≤ T := hB2.2.2.1
      have ha2 := ck_all (si := 2) (hX.tok (i + 1 + 1)) hX.se
      have h42 := (hX.tok (i + 1 + 1)).1
      have kl2 := ck_lt hX (i + 1 + 1)
      have kd2 := kind_c hX hB2.1 hB2.2.1.1 i2T
      have inn := in_c (nI (ck 2 (tx N z (i + 1 + 1)))) 257 262 uc (by omega) (by omega)
      rw [nI_t (show ck 2 (tx N z (i + 1 + 1)) < _ by omega)] at inn
      by_cases hK : 257 ≤ ck 2 (tx N z (i + 1 + 1)) ∧ ck 2 (tx N z (i + 1 + 1)) ≤ 262 ∧ ck 2 (tx N z (i + 1 + 1)) ≠ 258
      · have hw2 : (tx N z (i + 1 + 1)).1 = 2 ∧ (tx N z (i + 1 + 1)).2 + 238 = ck 2 (tx N z (i + 1 + 1)) := by omega
        have h18c : vc.1 163 18 = nI (tx N z (i + 1 + 1)).2 := hA2.2.2.2 (by omega)
        generalize hwd : (tx N z (i + 1 + 1)).2 = wd at *
        generalize hKe : ck 2 (tx N z (i + 1 + 1)) = K at *
        have hlt2 := hX.lt i2T (show ck 2 (tx N z (i + 1 + 1)) ≠ 0 by omega)
        obtain ⟨vd, e1, e2, e3, e4⟩ := read_n hX hA2 hB2.2.2.2.1
        have hB3 := hB2.nx hlt2 e2 e3
        rw [decide_eq_true (by omega)] at inn
        have ue_c : ∀ c, c ≠ 66 → (q_up uc 66 6 (uc.1 66 6 + nI 1)).1 c = uc.1 c := fun c hc => by rw [q_up_1, if_neg hc]
        have ue7 : (q_up uc 66 6 (uc.1 66 6 + nI 1)).1 66 7 = nI P := by rw [hB3.2.1.2 7 (by omega)]; exact u7
        have ue8 : (q_up uc 66 6 (uc.1 66 6 + nI 1)).1 66 8 = nI E := by rw [hB3.2.1.2 8 (by omega)]; exact u8
        have vd6 : vd.1 163 6 = nI P := by rw [e3.2.1 6 (by omega) (by omega) (by omega) (by omega) (by omega) (by omega)]; exact v6
        have vd7 : vd.1 163 7 = nI E := by rw [e3.2.1 7 (by omega) (by omega) (by omega) (by omega) (by omega) (by omega)]; exact v7
        have vd179 : vd.1 179 = vc.1 179 := e4.1 179 (by omega)
        generalize hue : q_up uc 66 6 (uc.1 66 6 + nI 1) = ue at *
        -- what, who
        obtain ⟨d, hd⟩ : ∃ d, d = if K = 257 then 0 else K - 258 := ⟨_, rfl⟩
        obtain ⟨most, hmost⟩ : ∃ most : Int32, most = if K = 257 ∨ K = 261 then nI P - nI 1 else if K = 262 then nI E - nI 1 else nI 9 := ⟨_, rfl⟩
        have hB4 := (hB3.uc (c := 85) (j := k) (x := nI K) (by omega)).vc (c := 179) (j := 64 + 4 * k + 1) (x := nI d) (Or.inr ⟨rfl, by omega⟩)
        have KK : K = 257 ∨ K = 259 ∨ K = 260 ∨ K = 261 ∨ K = 262 := by omega
        have stC : ∀ r u', m_X6_number 66 (nI 0) most (q_up ue 85 k (nI K)) = some (r, u') → m_X6_planLine 66 (nI k) u = RCc k (nI K) (if K = 257 ∨ K = 261 then nI 1 else nI 0) r u' := fun r u' hr => headC _ (fun uc' e => by
          rw [e, kd2, q_bd_s', inn, q_bd_s', q_jn, if_neg bI_1, if_neg (by rw [nI_t (by omega), nI_t (by omega)]; omega), hue, q_let_s, q_jn, q_jn]
          rcases KK with rfl | rfl | rfl | rfl | rfl
          · rw [if_pos rfl]
            dsimp only
            rw [q_jn, if_neg (by decide)]
            dsimp only
            rw [ast_n (by omega) (by omega), Option.bind_some, ue7]
            rw [if_pos (by omega)] at hmost
            rw [← hmost, hr, q_bd_s', if_pos (by omega)]
            rfl
          · rw [if_neg (by decide), if_neg (by decide)]
            dsimp only
            rw [q_jn, if_pos (by decide), if_neg (by decide)]
            dsimp only
            rw [ast_n (by omega) (by omega), Option.bind_some]
            rw [if_neg (by omega), if_neg (by omega)] at hmost
            rw [← hmost, hr, q_bd_s', if_neg (by omega)]
            rfl
          · rw [if_neg (by decide), if_neg (by decide)]
            dsimp only
            rw [q_jn, if_pos (by decide), if_neg (by decide)]
            dsimp only
            rw [ast_n (by omega) (by omega), Option.bind_some]
            rw [if_neg (by omega), if_neg (by omega)] at hmost
            rw [← hmost, hr, q_bd_s', if_neg (by omega)]
            rfl
          · rw [if_neg (by decide), if_pos rfl]
            dsimp only
            rw [q_jn, if_neg (by decide)]
            dsimp only
            rw [ast_n (by omega) (by omega), Option.bind_some, ue7]
            rw [if_pos (by omega)] at hmost
            rw [← hmost, hr, q_bd_s', if_pos (by omega)]
            rfl
          · rw [if_neg (by decide), if_neg (by decide)]
            dsimp only
            rw [q_jn, if_pos (by decide), if_pos rfl]
            dsimp only
            rw [ast_n (by omega) (by omega), Option.bind_some, ue8]
            rw [if_neg (by omega), if_pos rfl] at hmost
            rw [← hmost, hr, q_bd_s', if_neg (by omega)]
            rfl)
        have wdK : wd = K - 238 := by omega
        have stR : ∀ r v', m_X11_readNumber (nI 0) most (q_up vd 179 (64 + 4 * k + 1) (nI d)) = some (r, v') → m_X11_readPlanLine (nI (64 + 4 * k)) v = q_bd (RDr (nI (64 + 4 * k)) (nI wd) r v') fun r_9 u_10 => if r_9.toInt = mI.toInt then some (mI, u_10) else q_bd (m_X11_readMark (nI 59) u_10) fun r_11 u_12 => some (r_11, u_12) := fun r v' hr => headR _ (fun vc' e => by
          have f6 : (q_up vd 179 (64 + 4 * k + 1) (nI d)).1 163 6 = nI P := vd6
          have f7 : (q_up vd 179 (64 + 4 * k + 1) (nI d)).1 163 7 = nI E := vd7
          have dd : m_X11_readDeed (nI (64 + 4 * k)) (nI wd) (q_up vd 179 (64 + 4 * k + 1) (nI d)) = RDr (nI (64 + 4 * k)) (nI wd) r v' := by
            unfold m_X11_readDeed
            simp only [lit_n, mI_lit]
            rw [q_jn, q_jn]
            rcases KK with h1 | h1 | h1 | h1 | h1
            · rw [show wd = 19 by omega, if_pos rfl]
              dsimp only
              rw [f6]
              rw [if_pos (by omega)] at hmost
              rw [← hmost, hr, q_bd_s']
              rfl
            · rw [show wd = 21 by omega, if_neg (by decide), if_neg (by decide), q_jn, if_neg (by decide)]
              dsimp only
              rw [if_neg (by omega), if_neg (by omega)] at hmost
              rw [← hmost, hr, q_bd_s']
              rfl
            · rw [show wd = 22 by omega, if_neg (by decide), if_neg (by decide), q_jn, if_neg (by decide)]
              dsimp only
              rw [if_neg (by omega), if_neg (by omega)] at hmost
              rw [← hmost, hr, q_bd_s']
              rfl
            · rw [show wd = 23 by omega, if_neg (by decide), if_pos rfl]
              dsimp only
              rw [f6]
              rw [if_pos (by omega)] at hmost
              rw [← hmost, hr, q_bd_s']
              rfl
            · rw [show wd = 24 by omega, if_neg (by decide), if_neg (by decide), q_jn, if_pos rfl]
              dsimp only
              rw [f7]
              rw [if_neg (by omega), if_pos (by omega)] at hmost
              rw [← hmost, hr, q_bd_s']
              rfl
          rw [e, q_jn, hA2.2.2.1, hw2.1, if_pos rfl, h18c]
          dsimp only
          rw [q_jn]
          by_cases e257 : K = 257
          · have d0 : d = 0 := by rw [hd, if_pos e257]
            have w19 : wd = 19 := by omega
            rw [if_pos (by rw [w19])]
            dsimp only
            rw [e1, q_bd_s', q_jn, if_pos (by rw [w19])]
            dsimp only
            rw [nI_add, ast_n (by omega) (by omega), Option.bind_some, ← d0, dd]
          · have dK : d = K - 258 := by rw [hd, if_neg e257]
            have nw : ¬ (nI wd).toInt = (nI 19).toInt := by rw [nI_t (by omega), nI_t (by omega)]; omega
            have ii := in_r (nI wd) 21 24 vc (by omega) (by omega)
            rw [nI_t (by omega), decide_eq_true (by omega)] at ii
            rw [if_neg nw, ii, q_bd_s', if_neg bI_1]
            dsimp only
            rw [e1, q_bd_s', q_jn, if_neg nw]
            dsimp only
            rw [nI_add, nI_add, nI_sub (by omega), show 1 + wd - 21 = d by omega, ast_n (by omega) (by omega), Option.bind_some, dd])
        generalize huf : q_up ue 85 k (nI K) = uf at *
        generalize hve : q_up vd 179 (64 + 4 * k + 1) (nI d) = ve at *
        have uf_c : ∀ c j, c ≠ 66 → uf.1 c j = if c = 85 ∧ j = k then nI K else uc.1 c j := fun c j hc => by
          rw [← huf, q_up_1]
          by_cases e : c = 85
          · rw [if_pos e, upd_g]
            by_cases e2 : j = k
            · rw [if_pos e2, if_pos ⟨e, e2⟩]
            · rw [if_neg e2, if_neg (fun h => e2 h.2), ue_c 85 (by omega), e]
          · rw [if_neg e, if_neg (fun h => e h.1), ue_c c hc]
        have ve_j : ∀ j, ve.1 179 j = if j = 64 + 4 * k + 1 then nI d else vc.1 179 j := fun j => by rw [← hve, q_up_1, if_pos rfl, upd_g, vd179]
        rcases num_b hX hB4 0 most (by omega) with ⟨u3, v3, w, p, y1, y2, y3, y4⟩ | ⟨vf, y1, y2, y3, y4, y5, y6, y7, y8, y9⟩
        · refine Or.inl ⟨q_up u3 86 k mI, q_up v3 179 (64 + 4 * k + 2) mI, w, p, ?_, ?_, y3.up (by omega), y4.up (Or.inr ⟨rfl, by omega⟩)⟩
          · rw [stC _ _ y1]
            unfold RCc
            rw [ast_n (by omega) (by omega), Option.bind_some, ald_n (by omega) (by omega), Option.bind_some, q_up_1, if_pos rfl, upd_g, if_pos rfl, if_pos rfl]
          · rw [stR _ _ y2]
            unfold RDr
            rw [nI_add, ast_n (by omega) (by omega), Option.bind_some, ald_n (by omega) (by omega), Option.bind_some, q_up_1, if_pos rfl, upd_g, if_pos rfl, if_pos rfl, q_bd_s', if_pos rfl]
        · generalize (tx N z (i + 1 + 1 + 1)).2 = who at *
          have hwho : who < 10 ∧ ((K = 257 ∨ K = 261) → who < P) ∧ (K = 262 → who < E) := by
            by_cases h1 : K = 257 ∨ K = 261
            · rw [if_pos h1] at hmost
              rw [hmost, e1_t P (by omega)] at y3
              omega
            · rw [if_neg h1] at hmost
              by_cases h2 : K = 262
              · rw [if_pos h2] at hmost
                rw [hmost, e1_t E (by omega)] at y3
                omega
              · rw [if_neg h2] at hmost
                rw [hmost] at y3
                have : (nI 9).toInt = 9 := rfl
                omega
          -- who is written
          have hB5 := (y8.uc (c := 86) (j := k) (x := nI who) (by omega)).vc (c := 179) (j := 64 + 4 * k + 2) (x := nI who) (Or.inr ⟨rfl, by omega⟩)
          have ug_c : ∀ c, c ≠ 66 → (q_up uf 66 6 (uf.1 66 6 + nI 1)).1 c = uf.1 c := fun c hc => by rw [q_up_1, if_neg hc]
          have vf179 : vf.1 179 = ve.1 179 := y9.1 179 (by omega)
          generalize q_up uf 66 6 (uf.1 66 6 + nI 1) = ug at *
          have C1 : m_X6_planLine 66 (nI k) u = q_jn (fun (u_21 : qS) => Option.bind (q_ast u_21 87 16 (nI k) (nI 0)) fun u_22 => q_jn (fun (u_23 : qS) => ENDc k u_23) fun J244 => if (if K = 257 ∨ K = 261 then nI 1 else nI 0).toInt = 0 then J244 u_22 else q_jn (fun (s0_28 : Int32) (u_29 : qS) => Option.bind (q_ast u_29 87 16 (nI k) s0_28) fun u_30 => J244 u_30) fun J243 => if (nI K).toInt = (nI 257).toInt then q_bd (m_X6_number 66 (nI 0) (nI 9) u_22) fun r_33 u_34 => J243 r_33 u_34 else q_bd (m_X6_number 66 (nI 1) (nI 99) u_22) fun r_31 u_32 => J243 r_31 u_32) fun J197 => if (nI K).toInt = (nI 257).toInt then q_bd (m_X6_takes 66 (nI 258) (q_up ug 86 k (nI who))) fun r_35 u_36 => if r_35.toInt = 0 then some (nI 0, u_36) else J197 u_36 else J197 (q_up ug 86 k (nI who)) := by
            rw [stC _ _ y6]
            unfold RCc
            rw [ast_n (by omega) (by omega), Option.bind_some, ald_n (by omega) (by omega), Option.bind_some, q_up_1, if_pos rfl, upd_g, if_pos rfl, if_neg (nm_n (by omega))]
          have R1' : ∀ r v', (q_jn (fun (s0 : Int32) (u_2 : qS) => J12r (nI (64 + 4 * k)) s0 u_2) fun J120 => if (nI wd).toInt = (nI 19).toInt then q_bd (m_X11_readTold (nI 20) (nI 0) (nI 9) (q_up vf 179 (64 + 4 * k + 2) (nI who))) fun r_6 u_7 => J120 r_6 u_7 else if (nI wd).toInt = (nI 23).toInt then q_bd (m_X11_readNumber (nI 1) (nI 99) (q_up vf 179 (64 + 4 * k + 2) (nI who))) fun r u_5 => J120 r u_5 else J120 (nI 0) (q_up vf 179 (64 + 4 * k + 2) (nI who))) = some (r, v') → m_X11_readPlanLine (nI (64 + 4 * k)) v = if r.toInt = mI.toInt then some (mI, v') else q_bd (m_X11_readMark (nI 59) v') fun r_11 u_12 => some (r_11, u_12) := fun r v' hr => by
            rw [stR _ _ y7]
            unfold RDr
            rw [nI_add, ast_n (by omega) (by omega), Option.bind_some, ald_n (by omega) (by omega), Option.bind_some, q_up_1, if_pos rfl, upd_g, if_pos rfl, if_neg (nm_n (by omega)), hr, q_bd_s']
          have uh_c : ∀ c j, c ≠ 66 → (q_up ug 86 k (nI who)).1 c j = if c = 86 ∧ j = k then nI who else if c = 85 ∧ j = k then nI K else uc.1 c j := fun c j hc => by
            rw [q_up_1]
            by_cases e : c = 86
            · rw [if_pos e, upd_g]
              by_cases e2 : j = k
              · rw [if_pos e2, if_pos ⟨e, e2⟩]
              · rw [if_neg e2, if_neg (fun h => e2 h.2), ug_c 86 (by omega), uf_c 86 j (by omega), e]
            · rw [if_neg e, if_neg (fun h => e h.1), ug_c c hc, uf_c c j hc]
          have vh_j : ∀ j, (q_up vf 179 (64 + 4 * k + 2) (nI who)).1 179 j = if j = 64 + 4 * k + 2 then nI who else if j = 64 + 4 * k + 1 then nI d else vc.1 179 j := fun j => by rw [q_up_1, if_pos rfl, upd_g, vf179, ve_j]
          generalize q_up ug 86 k (nI who) = uh at *
          generalize q_up vf 179 (64 + 4 * k + 2) (nI who) = vh at *
          -- the end, with the other number o
          have fin : ∀ (ui vi : qS) (i5 o : Nat), i < i5 → BS N z T u0 v0 ui vi i5 → (∀ c j, c ≠ 66 → ui.1 c j = if c = 87 ∧ j = k then nI o else uh.1 c j) → (∀ j, vi.1 179 j = if j = 64 + 4 * k + 3 then nI o else vh.1 179 j) → (K = 257 → o < 10) → (K = 261 → 1 ≤ o) → o ≤ 99 → m_X6_planLine 66 (nI k) u = ENDc k ui → m_X11_readPlanLine (nI (64 + 4 * k)) v = (q_bd (m_X11_readMark (nI 59) vi) fun r_11 u_12 => some (r_11, u_12)) → (∃ u2 v2 w p, m_X6_planLine 66 (nI k) u = some (nI 0, u2) ∧ m_X11_readPlanLine (nI (64 + 4 * k)) v = some (mI, v2) ∧ FC u0 u2 w p ∧ FV v0 v2 w p) ∨ (∃ u2 v2 i2, m_X6_planLine 66 (nI k) u = some (nI 1, u2) ∧ m_X11_readPlanLine (nI (64 + 4 * k)) v = some (nI 0, v2) ∧ i < i2 ∧ BS N z T u0 v0 u2 v2 i2 ∧ u2.1 83 0 = nI (k + 1) ∧ PLd u2 v2 P E k ∧ PK k u v u2 v2) := fun ui vi i5 o hi5 hBi hui hvi o1 o2 o3 hC' hR' => by
            have a83 : ui.1 83 0 = nI k := by rw [hui 83 0 (by omega), if_neg (by omega), uh_c 83 0 (by omega), if_neg (by omega), if_neg (by omega)]; exact uc83
            have a87 : ui.1 87 k = nI o := by rw [hui 87 k (by omega), if_pos ⟨rfl, rfl⟩]
            have a86 : ui.1 86 k = nI who := by rw [hui 86 k (by omega), if_neg (by omega), uh_c 86 k (by omega), if_pos ⟨rfl, rfl⟩]
            have a85 : ui.1 85 k = nI K := by rw [hui 85 k (by omega), if_neg (by omega), uh_c 85 k (by omega), if_neg (by omega), if_pos ⟨rfl, rfl⟩]
            have a84 : ui.1 84 k = nI wk := by rw [hui 84 k (by omega), if_neg (by omega), uh_c 84 k (by omega), if_neg (by omega), if_neg (by omega), uc_c 84 k (by omega), if_pos ⟨rfl, rfl⟩]
            have b0 : vi.1 179 (64 + 4 * k) = nI wk := by rw [hvi, if_neg (by omega), vh_j, if_neg (by omega), if_neg (by omega), vc_j, if_pos rfl]
            have b1 : vi.1 179 (64 + 4 * k + 1) = nI d := by rw [hvi, if_neg (by omega), vh_j, if_neg (by omega), if_pos rfl]
            have b2 : vi.1 179 (64 + 4 * k + 2) = nI who := by rw [hvi, if_neg (by omega), vh_j, if_pos rfl]
            have b3 : vi.1 179 (64 + 4 * k + 3) = nI o := by rw [hvi, if_pos rfl]
            have dK : (d = 0 ∧ K = 257) ∨ (d ≠ 0 ∧ K = 258 + d ∧ d < 5) := by
              by_cases e257 : K = 257
              · rw [if_pos e257] at hd; omega
              · rw [if_neg e257] at hd; omega
            have hL : PLd ui vi P E k := by
              refine ⟨d, who, o, by omega, by rw [a84, b0], b1, ?_, a86, b2, a87, b3, hwho.1, fun h => hwho.2.1 (by omega), fun h => hwho.2.2 (by omega), fun h => o1 (by omega), fun h => o2 (by omega), o3⟩
              rw [a85]
              by_cases e0 : d = 0
              · rw [if_pos e0, show K = 257 by omega]
              · rw [if_neg e0, show K = 258 + d by omega]
            have hPK : PK k u v ui vi := ⟨fun c j h1 h2 h3 => by rw [hui c j (by omega), if_neg (fun h => h3 h.2), uh_c c j (by omega), if_neg (fun h => h3 h.2), if_neg (fun h => h3 h.2), uc_c c j (by omega), if_neg (fun h => h3 h.2)], fun j hj => by rw [hvi, if_neg (by omega), vh_j, if_neg (by omega), if_neg (by omega), vc_j, if_neg (by omega)]⟩
            rcases ptl hX hk hBi a83 a87 o3 hL with ⟨u9, v9, w, p, q1, q2, q3, q4⟩ | ⟨u9, v9, q1, q2, q3, q4, q5, q6⟩
            · exact Or.inl ⟨u9, v9, w, p, hC'.trans q1, by rw [hR', q2, q_bd_s'], q3, q4⟩
            · refine Or.inr ⟨u9, v9, i5 + 1, hC'.trans q1, by rw [hR', q2, q_bd_s'], by omega, q3, q4, q5, fun c j h1 h2 h3 => (q6.1 c j h1 h2 h3).trans (hPK.1 c j h1 h2 h3), fun j hj => (q6.2 j hj).trans (hPK.2 j hj)⟩
          by_cases hp : K = 257
          · -- plant .. at ..
            have w19 : wd = 19 := by omega
            rw [q_jn, if_pos (by rw [hp])] at C1
            have w20 := word_is (w := 20) hX hB5.2.2.2.2 (by decide) (by decide)
            rw [show 256 + (20 - sA 2) = 258 from rfl] at w20
            rcases take_b (c := 258) hX hB5 (by omega) (by omega) with ⟨s1, s2, s3, vi, q1, q2, q3⟩ | ⟨s1, u4, v4, s2, s3, s4, s5⟩
            · rw [s3, q_bd_s', if_neg (by decide)] at C1
              dsimp only at C1
              have ui_c : ∀ c, c ≠ 66 → (q_up uh 66 6 (uh.1 66 6 + nI 1)).1 c = uh.1 c := fun c hc => by rw [q_up_1, if_neg hc]
              have vi179 : vi.1 179 = vh.1 179 := q3.1 179 (by omega)
              generalize q_up uh 66 6 (uh.1 66 6 + nI 1) = ui at *
              have hB6 := q2.uc (c := 87) (j := k) (x := nI 0) (by omega)
              have rt2 : ∀ r v3, m_X11_readNumber (nI 0) (nI 9) vi = some (r, v3) → m_X11_readTold (nI 20) (nI 0) (nI 9) vh = some (r, v3) := fun r v3 hr => by
                unfold m_X11_readTold
                simp only [lit_n]
                rw [w20, q_bd_s', decide_eq_true s1, if_neg bI_1, q1, q_bd_s', hr, q_bd_s']
              rw [ast_n (by omega) (by omega), Option.bind_some, q_jn, if_pos (show K = 257 ∨ K = 261 by omega), if_neg (by decide), q_jn, if_pos (by rw [hp])] at C1
              rcases num_b hX hB6 0 (nI 9) (by omega) with ⟨u5, v5, w, p, z1, z2, z3, z4⟩ | ⟨vj, z1, z2, z3, z4, z5, z6, z7, z8, z9⟩
              · rw [z1, q_bd_s'] at C1
                dsimp only at C1
                have R2 := R1' mI (q_up v5 179 (64 + 4 * k + 3) mI) (by
                  rw [q_jn, if_pos (by rw [w19]), rt2 _ _ z2, q_bd_s']
                  unfold J12r
                  dsimp only
                  rw [nI_add, ast_n (by omega) (by omega), Option.bind_some, ald_n (by omega) (by omega), Option.bind_some, q_up_1, if_pos rfl, upd_g, if_pos rfl])
                rw [if_pos rfl] at R2
                refine Or.inl ⟨q_up (q_up u5 87 k mI) 83 0 ((q_up u5 87 k mI).1 83 0 + nI 1), _, w, p, ?_, R2, (z3.up (by omega)).up (by omega), z4.up (Or.inr ⟨rfl, by omega⟩)⟩
                rw [C1, ast_n (by omega) (by omega), Option.bind_some]
                unfold ENDc
                rw [q_let_s, ald_n (by omega) (by omega), Option.bind_some, q_up_1, if_neg (show ¬ 87 = 83 by omega), q_up_1, if_pos rfl, upd_g, if_pos rfl, if_pos rfl]
              · generalize (tx N z (i + 1 + 1 + 1 + 1 + 1)).2 = oo at *
                have o9 : oo < 10 := by
                  have : (nI 9).toInt = 9 := rfl
                  omega
                have R2 := R1' (nI oo) (q_up vj 179 (64 + 4 * k + 3) (nI oo)) (by
                  rw [q_jn, if_pos (by rw [w19]), rt2 _ _ z7, q_bd_s']
                  unfold J12r
                  dsimp only
                  rw [nI_add, ast_n (by omega) (by omega), Option.bind_some, ald_n (by omega) (by omega), Option.bind_some, q_up_1, if_pos rfl, upd_g, if_pos rfl])
                rw [if_neg (nm_n (by omega))] at R2
                have hBf := (z8.uc (c := 87) (j := k) (x := nI oo) (by omega)).vc (c := 179) (j := 64 + 4 * k + 3) (x := nI oo) (Or.inr ⟨rfl, by omega⟩)
                refine fin _ _ _ oo (by omega) hBf (fun c j hc => ?_) (fun j => ?_) (fun _ => o9) (fun h => by omega) (by omega) ?_ R2
                · rw [q_up_1]
                  by_cases e : c = 87
                  · rw [if_pos e, upd_g]
                    by_cases e2 : j = k
                    · rw [if_pos e2, if_pos ⟨e, e2⟩]
                    · rw [if_neg e2, if_neg (fun h => e2 h.2), q_up_1, if_neg (by omega), q_up_1, if_pos rfl, upd_g, if_neg e2, ui_c 87 (by omega), e]
                  · rw [if_neg e, if_neg (fun h => e h.1), q_up_1, if_neg hc, q_up_1, if_neg e, ui_c c hc]
                · rw [q_up_1, if_pos rfl, upd_g, z9.1 179 (by omega), vi179]
                · rw [C1, z6, q_bd_s']
                  dsimp only
                  rw [ast_n (by omega) (by omega), Option.bind_some]
            · rw [s2, q_bd_s', if_pos (by decide)] at C1
              have rt3 : m_X11_readTold (nI 20) (nI 0) (nI 9) vh = some (mI, v4) := by
                unfold m_X11_readTold
                simp only [lit_n]
                rw [w20, q_bd_s', decide_eq_false s1, if_pos bI_0, s3, q_bd_s']
              have R2 := R1' mI (q_up v4 179 (64 + 4 * k + 3) mI) (by
                rw [q_jn, if_pos (by rw [w19]), rt3, q_bd_s']
                unfold J12r
                dsimp only
                rw [nI_add, ast_n (by omega) (by omega), Option.bind_some, ald_n (by omega) (by omega), Option.bind_some, q_up_1, if_pos rfl, upd_g, if_pos rfl])
              rw [if_pos rfl] at R2
              exact Or.inl ⟨u4, _, 1, _, C1, R2, s4, s5.up (Or.inr ⟨rfl, by omega⟩)⟩
          · have nK : ¬ (nI K).toInt = (nI 257).toInt := by rw [nI_t (by omega), nI_t (by omega)]; omega
            have nw : ¬ (nI wd).toInt = (nI 19).toInt := by rw [nI_t (by omega), nI_t (by omega)]; omega
            rw [q_jn, if_neg nK] at C1
            dsimp only at C1
            rw [ast_n (by omega) (by omega), Option.bind_some, q_jn] at C1
            have hB6 := hB5.uc (c := 87) (j := k) (x := nI 0) (by omega)
            by_cases hb : K = 261
            · -- boil
              rw [if_pos (show K = 257 ∨ K = 261 by omega), if_neg (by decide), q_jn, if_neg nK] at C1
              have w23 : wd = 23 := by omega
              rcases num_b hX hB6 1 (nI 99) (by omega) with ⟨u5, v5, w, p, z1, z2, z3, z4⟩ | ⟨vj, z1, z2, z3, z4, z5, z6, z7, z8, z9⟩
              · rw [z1, q_bd_s'] at C1
                dsimp only at C1
                have R2 := R1' mI (q_up v5 179 (64 + 4 * k + 3) mI) (by
                  rw [q_jn, if_neg nw, if_pos (by rw [w23]), z2, q_bd_s']
                  unfold J12r
                  dsimp only
                  rw [nI_add, ast_n (by omega) (by omega), Option.bind_some, ald_n (by omega) (by omega), Option.bind_some, q_up_1, if_pos rfl, upd_g, if_pos rfl])
                rw [if_pos rfl] at R2
                refine Or.inl ⟨q_up (q_up u5 87 k mI) 83 0 ((q_up u5 87 k mI).1 83 0 + nI 1), _, w, p, ?_, R2, (z3.up (by omega)).up (by omega), z4.up (Or.inr ⟨rfl, by omega⟩)⟩
                rw [C1, ast_n (by omega) (by omega), Option.bind_some]
                unfold ENDc
                rw [q_let_s, ald_n (by omega) (by omega), Option.bind_some, q_up_1, if_neg (show ¬ 87 = 83 by omega), q_up_1, if_pos rfl, upd_g, if_pos rfl, if_pos rfl]
              · generalize (tx N z (i + 1 + 1 + 1 + 1)).2 = oo at *
                have o9 : oo ≤ 99 := by
                  have : (nI 99).toInt = 99 := rfl
                  omega
                have R2 := R1' (nI oo) (q_up vj 179 (64 + 4 * k + 3) (nI oo)) (by
                  rw [q_jn, if_neg nw, if_pos (by rw [w23]), z7, q_bd_s']
                  unfold J12r
                  dsimp only
                  rw [nI_add, ast_n (by omega) (by omega), Option.bind_some, ald_n (by omega) (by omega), Option.bind_some, q_up_1, if_pos rfl, upd_g, if_pos rfl])
                rw [if_neg (nm_n (by omega))] at R2
                have hBf := (z8.uc (c := 87) (j := k) (x := nI oo) (by omega)).vc (c := 179) (j := 64 + 4 * k + 3) (x := nI oo) (Or.inr ⟨rfl, by omega⟩)
                refine fin _ _ _ oo (by omega) hBf (fun c j hc => ?_) (fun j => ?_) (fun h => absurd h hp) (fun _ => z2) o9 ?_ R2
                · rw [q_up_1]
                  by_cases e : c = 87
                  · rw [if_pos e, upd_g]
                    by_cases e2 : j = k
                    · rw [if_pos e2, if_pos ⟨e, e2⟩]
                    · rw [if_neg e2, if_neg (fun h => e2 h.2), q_up_1, if_neg (by omega), q_up_1, if_pos rfl, upd_g, if_neg e2, e]
                  · rw [if_neg e, if_neg (fun h => e h.1), q_up_1, if_neg hc, q_up_1, if_neg e]
                · rw [q_up_1, if_pos rfl, upd_g, z9.1 179 (by omega)]
                · rw [C1, z6, q_bd_s']
                  dsimp only
                  rw [ast_n (by omega) (by omega), Option.bind_some]
            · -- fence, open, cheese
              rw [if_neg (show ¬ (K = 257 ∨ K = 261) by omega), if_pos (by decide)] at C1
              have nw3 : ¬ (nI wd).toInt = (nI 23).toInt := by rw [nI_t (by omega), nI_t (by omega)]; omega
              have R2 := R1' (nI 0) (q_up vh 179 (64 + 4 * k + 3) (nI 0)) (by
                rw [q_jn, if_neg nw, if_neg nw3]
                unfold J12r
                dsimp only
                rw [nI_add, ast_n (by omega) (by omega), Option.bind_some, ald_n (by omega) (by omega), Option.bind_some, q_up_1, if_pos rfl, upd_g, if_pos rfl])
              rw [if_neg (nm_n (by omega))] at R2
              have hBf := hB6.vc (c := 179) (j := 64 + 4 * k + 3) (x := nI 0) (Or.inr ⟨rfl, by omega⟩)
              refine fin _ _ _ 0 (by omega) hBf (fun c j hc => ?_) (fun j => ?_) (fun h => absurd h hp) (fun h => absurd h hb) (by omega) C1 R2
              · rw [q_up_1]
                by_cases e : c = 87
                · rw [if_pos e, upd_g]
                  by_cases e2 : j = k
                  · rw [if_pos e2, if_pos ⟨e, e2⟩]
                  · rw [if_neg e2, if_neg (fun h => e2 h.2), e]
                · rw [if_neg e, if_neg (fun h => e h.1)]
              · rw [q_up_1, if_pos rfl, upd_g]
      · -- no deed
        obtain ⟨u3, c1, c2⟩ := fail_c (w := 1) hX hB2.1 hB2.2.1.1 i2T
        obtain ⟨v3, d1, d2⟩ := errs_r (w := 1) hA2 hB2.2.2.2.1
        refine Or.inl ⟨u3, v3, 1, _, headC _ (fun uc' e => ?_), headR _ (fun vc' e => ?_), c2, d2⟩
        · rw [e, kd2, q_bd_s', inn, q_bd_s', q_jn]
          by_cases e1 : 257 ≤ ck 2 (tx N z (i + 1 + 1)) ∧ ck 2 (tx N z (i + 1 + 1)) ≤ 262
          · rw [decide_eq_true (by omega), if_neg bI_1, if_pos (by rw [nI_t (by omega), nI_t (by omega)]; omega)]
            dsimp only
            rw [c1, q_bd_s', bz_0]
          · rw [decide_eq_false (by omega), if_pos bI_0]
            dsimp only
            rw [c1, q_bd_s', bz_0]
        · rw [e, q_jn, hA2.2.2.1]
          by_cases e2 : (tx N z (i + 1 + 1)).1 = 2
          · have h25 := (hX.tok (i + 1 + 1)).2.2.1 e2
            have ii := in_r (nI (tx N z (i + 1 + 1)).2) 21 24 vc (by omega) (by omega)
            rw [nI_t (by omega), decide_eq_false (by omega)] at ii
            rw [e2, if_pos rfl, hA2.2.2.2 (by omega)]
            dsimp only
            rw [q_jn, if_neg (by rw [nI_t (by omega), nI_t (by omega)]; omega), ii, q_bd_s', if_pos bI_0, d1, q_bd_s']
          · have ii := in_r mI 21 24 vc (by omega) (by omega)
            rw [mI_t, decide_eq_false (by omega)] at ii
            rw [if_neg (by rw [nI_t (by omega), nI_t (by omega)]; omega)]
            dsimp only
            rw [q_jn, if_neg (by decide), ii, q_bd_s', if_pos bI_0, d1, q_bd_s']
  · exact absurd c256 t1
end
