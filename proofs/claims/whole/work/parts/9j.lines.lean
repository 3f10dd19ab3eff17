/-! LAYER 2: THE CALLS, 36: the law's lines -/
/-- line j of k: its word, its value, its condition, where they lie in cs and in xp cs -/
def LJ (u v : qS) (k : Nat) (cs : List (Nat × Nat)) (h : Bool) (j : Nat) : Prop := ∃ (wd : Nat) (C1 A B C2 : List (Nat × Nat)), wd < 3 ∧ cs = C1 ++ A ++ B ++ C2 ∧ u.1 73 j = nI wd ∧ v.1 171 (32 + j) = nI wd ∧ u.1 74 j = nI C1.length ∧ u.1 75 j = nI (C1 ++ A).length ∧ v.1 172 (32 + j) = nI (xp C1).length ∧ v.1 173 (32 + j) = nI (xp (C1 ++ A)).length ∧ v.1 174 (32 + j) = nI (xp (C1 ++ A ++ B)).length ∧ (j + 1 < k → u.1 74 (j + 1) = nI (C1 ++ A ++ B).length) ∧ (j + 1 = k → C2 = []) ∧ QS A 3 false ∧ (B = [] ∨ QS B 32 true) ∧ okA (A ++ B) ∧ (h = false → wd = 2 → ∀ t, t ∈ A ++ B → t ≠ (1, 4))
def LI (u v : qS) (k : Nat) (cs : List (Nat × Nat)) (h : Bool) : Prop := ∀ j, j < k → LJ u v k cs h j
theorem LI.step {u v u2 v2 : qS} {k wd : Nat} {cs A B : List (Nat × Nat)} {h h2 : Bool} (hI : LI u v k cs h) (r73 : ∀ j, j < k → u2.1 73 j = u.1 73 j) (r74 : ∀ j, j < k → u2.1 74 j = u.1 74 j) (r75 : ∀ j, j < k → u2.1 75 j = u.1 75 j) (s1 : ∀ c j, 171 ≤ c → c ≤ 174 → j < k → v2.1 c (32 + j) = v.1 c (32 + j)) (hh : h2 = false → h = false) (hwd : wd < 3) (a1 : u2.1 73 k = nI wd) (a2 : v2.1 171 (32 + k) = nI wd) (a3 : u2.1 74 k = nI cs.length) (a4 : u2.1 75 k = nI (cs ++ A).length) (a5 : v2.1 172 (32 + k) = nI (xp cs).length) (a6 : v2.1 173 (32 + k) = nI (xp (cs ++ A)).length) (a7 : v2.1 174 (32 + k) = nI (xp (cs ++ A ++ B)).length) (qA : QS A 3 false) (qB : B = [] ∨ QS B 32 true) (ok : okA (A ++ B)) (hg : h2 = false → wd = 2 → ∀ t, t ∈ A ++ B → t ≠ (1, 4)) : LI u2 v2 (k + 1) (cs ++ A ++ B) h2 := by
  intro j hj
  by_cases e : j = k
  · subst e
    exact ⟨wd, cs, A, B, [], hwd, by rw [List.append_nil], a1, a2, a3, a4, a5, a6, a7, fun h => by omega, fun _ => rfl, qA, qB, ok, hg⟩
  · obtain ⟨wd', C1, A', B', C2, b1, b2, b3, b4, b5, b6, b7, b8, b9, b10, b11, b12, b13, b14, b15⟩ := hI j (by omega)
    refine ⟨wd', C1, A', B', C2 ++ A ++ B, b1, by rw [b2]; simp only [List.append_assoc], by rw [r73 j (by omega)]; exact b3, by rw [s1 171 j (by omega) (by omega) (by omega)]; exact b4, by rw [r74 j (by omega)]; exact b5, by rw [r75 j (by omega)]; exact b6, by rw [s1 172 j (by omega) (by omega) (by omega)]; exact b7, by rw [s1 173 j (by omega) (by omega) (by omega)]; exact b8, by rw [s1 174 j (by omega) (by omega) (by omega)]; exact b9, fun _ => ?_, fun h => by omega, b12, b13, b14, fun hf => b15 (hh hf)⟩
    by_cases e2 : j + 1 = k
    · have := b11 e2
      rw [e2, a3, b2, this, List.append_nil]
    · rw [r74 (j + 1) (by omega)]; exact b10 (by omega)
def RLl (g : Nat) (k : Int32) (v : qS) : qR := q_it1 (m_X11_readLaw_L2 (fun u_18 => q_bd (m_X11_errs (nI 3) u_18) fun r u_19 => some (r, u_19)) (fun u_20 => some (mI, u_20)) (fun u_21 => some (mI, u_21)) (fun u_22 => q_bd (m_X11_errs (nI 1) u_22) fun r_23 u_24 => some (r_23, u_24)) (fun x1 u_25 => if (u_25.1 163 17).toInt = 0 then some (x1, u_25) else q_bd (m_X11_errs (nI 1) u_25) fun r_26 u_27 => some (r_26, u_27))) g k v
section
variable {N T : Nat} {z : Nat → Int} {u0 v0 : qS}
theorem lwd (hX : CX N z 0 T u0 v0) {v : qS} {i : Nat} (hA : AT N z v i) : m_X11_isLineWord v = some (bI (decide (256 ≤ ck 0 (tx N z i) ∧ ck 0 (tx N z i) ≤ 258)), v) := by
  have w0 := word_is (w := 0) hX hA (by decide) (by decide)
  have w1 := word_is (w := 1) hX hA (by decide) (by decide)
  have w2 := word_is (w := 2) hX hA (by decide) (by decide)
  rw [show 256 + (0 - sA 0) = 256 from rfl] at w0
  rw [show 256 + (1 - sA 0) = 257 from rfl] at w1
  rw [show 256 + (2 - sA 0) = 258 from rfl] at w2
  unfold m_X11_isLineWord
  simp only [lit_n]
  rw [w0, q_bd_s', q_jn]
  by_cases e0 : ck 0 (tx N z i) = 256
  · rw [decide_eq_true e0, if_neg bI_1, decide_eq_true (by omega)]; rfl
  · rw [decide_eq_false e0, if_pos bI_0, w1, q_bd_s']
    by_cases e1 : ck 0 (tx N z i) = 257
    · rw [decide_eq_true e1, if_neg bI_1, decide_eq_true (by omega)]; rfl
    · rw [decide_eq_false e1, if_pos bI_0, w2, q_bd_s']
      by_cases e2 : ck 0 (tx N z i) = 258
      · rw [decide_eq_true e2, if_neg bI_1, decide_eq_true (by omega)]; rfl
      · rw [decide_eq_false e2, if_pos bI_0, decide_eq_false (by omega)]; rfl
/-- a row of the draft's lines written -/
theorem PV.row {v v1 : qS} {i c j o : Nat} {rs : List (Nat × Nat)} {x : Int32} (hV : PV N z v0 v1 v i rs o) (h1 : 171 ≤ c) (h2 : c ≤ 174) (hj : 32 ≤ j) : PV N z v0 (q_up v c j x) (q_up v c j x) i rs o := by
  obtain ⟨g, ⟨a1, a2, a3, a4⟩, ⟨e1, e2, e3⟩, r1⟩ := hV
  have nc : 163 ≠ c := by omega
  have e163 : (q_up v c j x).1 163 = v.1 163 := by rw [q_up_1, if_neg nc]
  refine ⟨⟨fun c' h3 h4 => ?_, fun j' h3 h4 h5 h6 h7 h8 => ?_, fun c' j' h3 h4 h5 => ?_, fun c' j' h3 h4 h5 => ?_, fun j' h3 => ?_, fun j' h3 => ?_, g.2.2.2.2.2.2⟩, ⟨by rw [e163]; exact a1, by rw [e163]; exact a2, by rw [e163]; exact a3, fun h => by rw [e163]; exact a4 h⟩, ⟨by rw [e163]; exact e1, by rw [e163]; exact e2, fun j' h3 => ?_⟩, fun _ _ _ => rfl⟩
  · rw [q_up_1, if_neg (by omega)]; exact g.1 c' h3 h4
  · rw [e163]; exact g.2.1 j' h3 h4 h5 h6 h7 h8
  · rw [q_up_1]
    by_cases e : c' = c
    · rw [if_pos e, upd_g, if_neg (by omega), ← e]; exact g.2.2.1 c' j' h3 h4 h5
    · rw [if_neg e]; exact g.2.2.1 c' j' h3 h4 h5
  · rw [q_up_1, if_neg (by omega)]; exact g.2.2.2.1 c' j' h3 h4 h5
  · rw [q_up_1, if_neg (by omega)]; exact g.2.2.2.2.1 j' h3
  · rw [q_up_1, if_neg (by omega)]; exact g.2.2.2.2.2.1 j' h3
  · rw [q_up_1, if_neg (by omega), q_up_1, if_neg (by omega)]; exact e3 j' h3
theorem PC.row {u u1 : qS} {i c j k : Nat} {cs : List (Nat × Nat)} {h : Bool} {x : Int32} (hC : PC T u0 u1 u i cs h k) (hc : c = 73 ∨ c = 74 ∨ c = 75) : PC T u0 (q_up u c j x) (q_up u c j x) i cs h k := by
  obtain ⟨g, ⟨n1, n2⟩, hi, ⟨l1, l2, l3, l4⟩, r⟩ := hC
  refine ⟨⟨fun d hd => ?_, g.2⟩, ⟨?_, fun j' hj => ?_⟩, hi, ⟨?_, ?_, ?_, fun j' hj => ?_⟩, rfl, rfl, rfl⟩
  · rw [q_up_1, if_neg (by omega)]; exact g.1 d hd
  · rw [q_up_1, if_neg (by omega)]; exact n1
  · rw [q_up_1, if_neg (by omega)]; exact n2 j' hj
  · rw [q_up_1, if_neg (by omega)]; exact l1
  · rw [q_up_1, if_neg (by omega)]; exact l2
  · rw [q_up_1, if_neg (by omega)]; exact l3
  · rw [q_up_1, if_neg (by omega)]; exact l4 j' hj
theorem PC.lines {u u1 : qS} {i k : Nat} {cs : List (Nat × Nat)} {h : Bool} (hC : PC T u0 u1 u i cs h k) : PC T u0 u1 (q_up u 72 0 (u.1 72 0 + nI 1)) i cs h (k + 1) := by
  obtain ⟨g, ⟨n1, n2⟩, hi, ⟨l1, l2, l3, l4⟩, r⟩ := hC
  refine ⟨⟨fun d hd => ?_, g.2⟩, ⟨n1, n2⟩, hi, ⟨?_, l2, l3, l4⟩, r⟩
  · rw [q_up_1, if_neg (by omega)]; exact g.1 d hd
  · rw [l1, nI_add]; rfl
theorem rll (hX : CX N z 0 T u0 v0) : ∀ (n i k f g : Nat) (u u1 v v1 : qS) (cs : List (Nat × Nat)) (h : Bool), T - i < n → T - i < f → T - i < g → k ≤ 16 → PC T u0 u1 u i cs h k → PV N z v0 v1 v i (xp cs) 0 → cs.length ≤ i → (xp cs).length ≤ i → LI u v k cs h →
    (∃ u2 v2 w p, (∀ KA KB, q_it1 (m_X6_readLaw_L18 66 12 KA KB) f (nI k) u = KA u2) ∧ RLl g (nI k) v = some (mI, v2) ∧ FC u0 u2 w p ∧ FV v0 v2 w p) ∨
    (∃ u2 u3 v2 v3 k2 i2 cs2 h2, (∀ KA KB, q_it1 (m_X6_readLaw_L18 66 12 KA KB) f (nI k) u = KB u2) ∧ RLl g (nI k) v = some (nI k2, v2) ∧ k2 ≤ 16 ∧ PC T u0 u3 u2 i2 cs2 h2 k2 ∧ PV N z v0 v3 v2 i2 (xp cs2) 0 ∧ cs2.length ≤ i2 ∧ (xp cs2).length ≤ i2 ∧ LI u2 v2 k2 cs2 h2)
  | 0, i, k, f, g, u, u1, v, v1, cs, h, hn, hf, hg, hk, hC, hV, b1, b2, hI => by omega
  | n + 1, i, k, 0, g, u, u1, v, v1, cs, h, hn, hf, hg, hk, hC, hV, b1, b2, hI => by omega
  | n + 1, i, k, f, 0, u, u1, v, v1, cs, h, hn, hf, hg, hk, hC, hV, b1, b2, hI => by omega
  | n + 1, i, k, f + 1, g + 1, u, u1, v, v1, cs, h, hn, hf, hg, hk, hC, hV, b1, b2, hI => by
    have hT := hX.T4
    have hiT : i ≤ T := hC.2.2.1
    have kl := ck_lt hX i
    have hA := hV.2.1
    have kd := kind_c hX hC.1 hC.2.1.1 hiT
    have lw := lwd hX hA
    have ha := ck_all (si := 0) (hX.tok i) hX.se
    have h0A : sA 0 = 0 := rfl
    have h0E : sE 0 = 16 := rfl
    have h4 := (hX.tok i).1
    have inn := in_c (nI (ck 0 (tx N z i))) 256 258 u (by omega) (by omega)
    rw [nI_t (show ck 0 (tx N z i) < _ by omega)] at inn
    have g16 : ¬ (nI 16).toInt < (nI k).toInt := by rw [nI_t (by omega), nI_t (by omega)]; omega
    by_cases hw : 256 ≤ ck 0 (tx N z i) ∧ ck 0 (tx N z i) ≤ 258
    · have hlt := hX.lt hiT (by omega)
      rw [decide_eq_true (by omega)] at inn
      by_cases k16 : k < 16
      · -- the line
        have hwd : (tx N z i).1 = 2 ∧ (tx N z i).2 < 3 ∧ ck 0 (tx N z i) = 256 + (tx N z i).2 := by omega
        have h18 : v.1 163 18 = nI (tx N z i).2 := hA.2.2.2 (by omega)
        generalize hwe : (tx N z i).2 = wd at *
        -- class: next, word, start
        have hC1 := nx_c hC hlt
        have hC2 := (hC1.row (c := 73) (j := k) (x := nI wd) (by omega)).row (c := 74) (j := k) (x := nI cs.length) (by omega)
        generalize hu6 : q_up (q_up (q_up u 66 6 (u.1 66 6 + nI 1)) 73 k (nI wd)) 74 k (nI cs.length) = u6 at hC2
        have u6_73 : ∀ j, u6.1 73 j = if j = k then nI wd else u.1 73 j := fun j => by rw [← hu6]; rfl
        have u6_74 : ∀ j, u6.1 74 j = if j = k then nI cs.length else u.1 74 j := fun j => by rw [← hu6]; rfl
        have u6_75 : u6.1 75 = u.1 75 := by rw [← hu6]; rfl
        -- reference: word, read, start
        have hV1 := hV.row (c := 171) (j := 32 + k) (x := nI wd) (by omega) (by omega) (by omega)
        obtain ⟨va, f1, f2, f3⟩ := rd_r hX hV1
        have hV2 := f2.row (c := 172) (j := 32 + k) (x := nI (xp cs).length) (by omega) (by omega) (by omega)
        have va28 : va.1 163 28 = nI (xp cs).length := f2.2.2.1.1
        have va_r : ∀ c, 171 ≤ c → c ≤ 174 → va.1 c = (q_up v 171 (32 + k) (nI wd)).1 c := f2.2.2.2
        generalize hv4 : q_up va 172 (32 + k) (nI (xp cs).length) = v4 at hV2
        have v4_171 : ∀ j, v4.1 171 j = if j = 32 + k then nI wd else v.1 171 j := fun j => by
          have : v4.1 171 = va.1 171 := by rw [← hv4]; rfl
          rw [this, va_r 171 (by omega) (by omega)]; rfl
        have v4_172 : ∀ j, v4.1 172 j = if j = 32 + k then nI (xp cs).length else v.1 172 j := fun j => by
          have e1 : v4.1 172 j = if j = 32 + k then nI (xp cs).length else va.1 172 j := by rw [← hv4]; rfl
          rw [e1, va_r 172 (by omega) (by omega)]; rfl
        have v4_173 : ∀ j, v4.1 173 j = v.1 173 j := fun j => by
          have : v4.1 173 = va.1 173 := by rw [← hv4]; rfl
          rw [this, va_r 173 (by omega) (by omega)]; rfl
        have v4_174 : ∀ j, v4.1 174 j = v.1 174 j := fun j => by
          have : v4.1 174 = va.1 174 := by rw [← hv4]; rfl
          rw [this, va_r 174 (by omega) (by omega)]; rfl
        have headR : ∀ self : Int32 → qS → qR, m_X11_readLaw_L2 (fun u_18 => q_bd (m_X11_errs (nI 3) u_18) fun r u_19 => some (r, u_19)) (fun u_20 => some (mI, u_20)) (fun u_21 => some (mI, u_21)) (fun u_22 => q_bd (m_X11_errs (nI 1) u_22) fun r_23 u_24 => some (r_23, u_24)) (fun x1 u_25 => if (u_25.1 163 17).toInt = 0 then some (x1, u_25) else q_bd (m_X11_errs (nI 1) u_25) fun r_26 u_27 => some (r_26, u_27)) self (nI k) v = q_bd (m_X11_readSum v4) fun r_5 u_6 => if r_5.toInt = mI.toInt then some (mI, u_6) else Option.bind (q_ast u_6 173 48 (nI (32 + k)) (u_6.1 163 28)) fun u_7 => q_bd (m_X11_isWord (nI 3) u_7) fun r_8 u_9 => q_jn (fun (u_10 : qS) => Option.bind (q_ast u_10 174 48 (nI (32 + k)) (u_10.1 163 28)) fun u_11 => q_bd (m_X11_isSign (nI 59) u_11) fun r_12 u_13 => if r_12.toInt = 0 then q_bd (m_X11_errs (nI 1) u_13) fun r_23 u_24 => some (r_23, u_24) else q_bd (m_X11_reads u_13) fun _ u_14 => q_let (nI k + nI 1) fun y1 => self y1 u_14) fun J92 => if r_8.toInt = 0 then J92 u_9 else q_bd (m_X11_reads u_9) fun _ u_15 => q_bd (m_X11_readAny u_15) fun r_16 u_17 => if r_16.toInt = mI.toInt then some (mI, u_17) else J92 u_17 := fun self => by
          unfold m_X11_readLaw_L2
          simp only [lit_n, mI_lit]
          rw [lw, q_bd_s', decide_eq_true hw, if_neg bI_1, if_neg (by rw [nI_t (by omega), nI_t (by omega)]; omega), nI_add, q_let_s, ast_n (by omega) (by omega), Option.bind_some, h18, f1, q_bd_s', va28, ast_n (by omega) (by omega), Option.bind_some, hv4]
        have headC : m_X6_lawLine 66 (nI k) u = q_bd (m_X6_sum 66 u6) fun r_7 u_8 => if r_7.toInt = 0 then some (nI 0, u_8) else Option.bind (q_ast u_8 75 16 (nI k) (u_8.1 72 5)) fun u_9 => q_bd (m_X6_kind 66 u_9) fun r_10 u_11 => q_jn (fun (u_12 : qS) => q_let (q_up u_12 72 0 ((u_12.1 72 0) + nI 1)) fun u_13 => q_bd (m_X6_takes 66 (nI 59) u_13) fun r_14 u_15 => q_bz r_14 (some (r_14, u_15))) fun J131 => if r_10.toInt = (nI 259).toInt then q_let (q_up u_11 66 6 ((u_11.1 66 6) + nI 1)) fun u_16 => q_bd (m_X6_condition 66 (nI 0) u_16) fun r_17 u_18 => if r_17.toInt = 0 then some (nI 0, u_18) else J131 u_18 else J131 u_11 := by
          have l5 : (q_up (q_up u 66 6 (u.1 66 6 + nI 1)) 73 k (nI wd)).1 72 5 = nI cs.length := hC.2.2.2.1.2.1
          unfold m_X6_lawLine
          simp only [lit_n]
          rw [kd, q_bd_s', inn, q_bd_s', if_neg bI_1, if_pos (by rw [nI_t (by omega), nI_t (by omega)]; omega), q_let_s, hwd.2.2, nI_sub (by omega), show 256 + wd - 256 = wd by omega, show 66 + 7 = 73 from rfl, ast_n (by omega) (by omega), Option.bind_some, show 66 + 8 = 74 from rfl, show 66 + 6 = 72 from rfl, l5, ast_n (by omega) (by omega), Option.bind_some, hu6]
        have stC0 : ∀ KA KB, q_it1 (m_X6_readLaw_L18 66 12 KA KB) (f + 1) (nI k) u = q_bd (m_X6_lawLine 66 (nI k) u) fun r_4 u_5 => if r_4.toInt = 0 then KA u_5 else q_it1 (m_X6_readLaw_L18 66 12 KA KB) f (nI (k + 1)) u_5 := fun KA KB => by
          show m_X6_readLaw_L18 _ _ _ _ (q_it1 (m_X6_readLaw_L18 66 12 KA KB) f) _ _ = _
          generalize q_it1 (m_X6_readLaw_L18 66 12 KA KB) f = self
          unfold m_X6_readLaw_L18
          simp only [lit_n]
          rw [if_neg g16, kd, q_bd_s', if_neg (by rw [nI_t (by omega)]; omega), nI_add]
        have stR0 : RLl (g + 1) (nI k) v = _ := headR (RLl g)
        have hw0 : u6.1 73 k = nI wd := by rw [u6_73, if_pos rfl]
        rcases sum_s (np := 0) hX (by omega) hw0 hwd.2.1 hC2 hV2 (by omega) (by omega) with ⟨u2, v2, w', p, x1, x2, x3, x4⟩ | ⟨u2, v2, i2, h2, A, x1, x2, x3, x4, x5, x6, x7, x8, x9, x10, x11⟩
        · refine Or.inl ⟨u2, v2, w', p, fun KA KB => ?_, ?_, x3, x4⟩
          · rw [stC0, headC, x1, q_bd_s', if_pos (by decide), q_bd_s', if_pos (by decide)]
          · rw [stR0, x2, q_bd_s', if_pos rfl]
        · rw [← xp_app] at x5 x7
          have i2T : i2 ≤ T := x4.2.2.1
          have hC3 := x4.row (c := 75) (j := k) (x := nI (cs ++ A).length) (by omega)
          have hV3 := x5.row (c := 173) (j := 32 + k) (x := nI (xp (cs ++ A)).length) (by omega) (by omega) (by omega)
          have u2_5 : u2.1 72 5 = nI (cs ++ A).length := x4.2.2.2.1.2.1
          have v2_28 : v2.1 163 28 = nI (xp (cs ++ A)).length := x5.2.2.1.1
          generalize hu9 : q_up u2 75 k (nI (cs ++ A).length) = u9 at hC3
          generalize hv7 : q_up v2 173 (32 + k) (nI (xp (cs ++ A)).length) = v7 at hV3
          have u9_73 : u9.1 73 = u6.1 73 := by rw [← hu9]; exact x4.2.2.2.2.1
          have u9_74 : u9.1 74 = u6.1 74 := by rw [← hu9]; exact x4.2.2.2.2.2.1
          have u9_75 : ∀ j, u9.1 75 j = if j = k then nI (cs ++ A).length else u6.1 75 j := fun j => by
            rw [← hu9]
            show (if j = k then _ else u2.1 75 j) = _
            rw [x4.2.2.2.2.2.2]
          have v7_c : ∀ c j, 171 ≤ c → c ≤ 174 → v7.1 c j = if c = 173 ∧ j = 32 + k then nI (xp (cs ++ A)).length else v4.1 c j := fun c j h1 h2 => by
            rw [← hv7, q_up_1]
            by_cases e : c = 173
            · rw [if_pos e, upd_g]
              by_cases e2 : j = 32 + k
              · rw [if_pos e2, if_pos ⟨e, e2⟩]
              · rw [if_neg e2, if_neg (fun h => e2 h.2), x5.2.2.2 173 (by omega) (by omega), e]
            · rw [if_neg e, if_neg (fun h => e h.1), x5.2.2.2 c h1 h2]
          have kd9 := kind_c hX hC3.1 hC3.2.1.1 hC3.2.2.1
          have kl2 := ck_lt hX i2
          have w3 := word_is (w := 3) hX hV3.2.1 (by decide) (by decide)
          rw [show 256 + (3 - sA 0) = 259 from rfl] at w3
          have stC1 : m_X6_lawLine 66 (nI k) u = q_jn (fun (u_12 : qS) => q_let (q_up u_12 72 0 ((u_12.1 72 0) + nI 1)) fun u_13 => q_bd (m_X6_takes 66 (nI 59) u_13) fun r_14 u_15 => q_bz r_14 (some (r_14, u_15))) fun J131 => if (nI (ck 0 (tx N z i2))).toInt = (nI 259).toInt then q_let (q_up u9 66 6 ((u9.1 66 6) + nI 1)) fun u_16 => q_bd (m_X6_condition 66 (nI 0) u_16) fun r_17 u_18 => if r_17.toInt = 0 then some (nI 0, u_18) else J131 u_18 else J131 u9 := by
            rw [headC, x1, q_bd_s', if_neg (by decide), u2_5, ast_n (by omega) (by omega), Option.bind_some, hu9, kd9, q_bd_s']
          have stR1 : RLl (g + 1) (nI k) v = q_jn (fun (u_10 : qS) => Option.bind (q_ast u_10 174 48 (nI (32 + k)) (u_10.1 163 28)) fun u_11 => q_bd (m_X11_isSign (nI 59) u_11) fun r_12 u_13 => if r_12.toInt = 0 then q_bd (m_X11_errs (nI 1) u_13) fun r_23 u_24 => some (r_23, u_24) else q_bd (m_X11_reads u_13) fun _ u_14 => q_let (nI k + nI 1) fun y1 => RLl g y1 u_14) fun J92 => if (bI (decide (ck 0 (tx N z i2) = 259))).toInt = 0 then J92 v7 else q_bd (m_X11_reads v7) fun _ u_15 => q_bd (m_X11_readAny u_15) fun r_16 u_17 => if r_16.toInt = mI.toInt then some (mI, u_17) else J92 u_17 := by
            rw [stR0, x2, q_bd_s', if_neg (by decide), v2_28, ast_n (by omega) (by omega), Option.bind_some, hv7, w3, q_bd_s']
          have tail : ∀ (u3 v3 : qS) (i3 : Nat) (h3 : Bool) (B : List (Nat × Nat)), i < i3 → PC T u0 u9 u3 i3 (cs ++ A ++ B) h3 k → PV N z v0 v7 v3 i3 (xp (cs ++ A ++ B)) 0 → (cs ++ A ++ B).length ≤ i3 → (xp (cs ++ A ++ B)).length ≤ i3 → (B = [] ∨ QS B 32 true) → okA (A ++ B) → HG h h3 wd (A ++ B) → m_X6_lawLine 66 (nI k) u = (q_let (q_up u3 72 0 ((u3.1 72 0) + nI 1)) fun u_13 => q_bd (m_X6_takes 66 (nI 59) u_13) fun r_14 u_15 => q_bz r_14 (some (r_14, u_15))) → RLl (g + 1) (nI k) v = (Option.bind (q_ast v3 174 48 (nI (32 + k)) (v3.1 163 28)) fun u_11 => q_bd (m_X11_isSign (nI 59) u_11) fun r_12 u_13 => if r_12.toInt = 0 then q_bd (m_X11_errs (nI 1) u_13) fun r_23 u_24 => some (r_23, u_24) else q_bd (m_X11_reads u_13) fun _ u_14 => q_let (nI k + nI 1) fun y1 => RLl g y1 u_14) →
              (∃ u2 v2 w p, (∀ KA KB, q_it1 (m_X6_readLaw_L18 66 12 KA KB) (f + 1) (nI k) u = KA u2) ∧ RLl (g + 1) (nI k) v = some (mI, v2) ∧ FC u0 u2 w p ∧ FV v0 v2 w p) ∨ (∃ u2 u3 v2 v3 k2 i2 cs2 h2, (∀ KA KB, q_it1 (m_X6_readLaw_L18 66 12 KA KB) (f + 1) (nI k) u = KB u2) ∧ RLl (g + 1) (nI k) v = some (nI k2, v2) ∧ k2 ≤ 16 ∧ PC T u0 u3 u2 i2 cs2 h2 k2 ∧ PV N z v0 v3 v2 i2 (xp cs2) 0 ∧ cs2.length ≤ i2 ∧ (xp cs2).length ≤ i2 ∧ LI u2 v2 k2 cs2 h2) := fun u3 v3 i3 h3 B hi3 y1 y2 y3 y4 y5 y6 y7 y8 y9 => by
            have i3T : i3 ≤ T := y1.2.2.1
            have hC4 := y1.lines
            have v3_28 : v3.1 163 28 = nI (xp (cs ++ A ++ B)).length := y2.2.2.1.1
            have hV4 := y2.row (c := 174) (j := 32 + k) (x := nI (xp (cs ++ A ++ B)).length) (by omega) (by omega) (by omega)
            have s59 := sign_r (c := 59) hX hV4.2.1 (by omega) (by omega)
            rw [v3_28, ast_n (by omega) (by omega), Option.bind_some, s59, q_bd_s'] at y9
            rw [q_let_s] at y8
            rcases takes_c (c := 59) hX hC4.1 hC4.2.1 i3T (by omega) (by omega) with ⟨t1, t2, t3⟩ | ⟨t1, u5, t2, t3⟩
            · have hC5 := nx_c hC4 t2
              obtain ⟨v5, r1, r2, r3⟩ := rd_r hX hV4
              rw [decide_eq_true t1, if_neg bI_1, r1, q_bd_s', q_let_s, nI_add] at y9
              rw [t3, q_bd_s', bz_1] at y8
              have hLI : LI (q_up (q_up u3 72 0 (u3.1 72 0 + nI 1)) 66 6 ((q_up u3 72 0 (u3.1 72 0 + nI 1)).1 66 6 + nI 1)) v5 (k + 1) (cs ++ A ++ B) h3 := by
                have a73 : ∀ j, (q_up (q_up u3 72 0 (u3.1 72 0 + nI 1)) 66 6 ((q_up u3 72 0 (u3.1 72 0 + nI 1)).1 66 6 + nI 1)).1 73 j = if j = k then nI wd else u.1 73 j := fun j => by
                  show u3.1 73 j = _
                  rw [y1.2.2.2.2.1, u9_73, u6_73]
                have a74 : ∀ j, (q_up (q_up u3 72 0 (u3.1 72 0 + nI 1)) 66 6 ((q_up u3 72 0 (u3.1 72 0 + nI 1)).1 66 6 + nI 1)).1 74 j = if j = k then nI cs.length else u.1 74 j := fun j => by
                  show u3.1 74 j = _
                  rw [y1.2.2.2.2.2.1, u9_74, u6_74]
                have a75 : ∀ j, (q_up (q_up u3 72 0 (u3.1 72 0 + nI 1)) 66 6 ((q_up u3 72 0 (u3.1 72 0 + nI 1)).1 66 6 + nI 1)).1 75 j = if j = k then nI (cs ++ A).length else u.1 75 j := fun j => by
                  show u3.1 75 j = _
                  rw [y1.2.2.2.2.2.2, u9_75, u6_75]
                have av : ∀ c j, 171 ≤ c → c ≤ 174 → v5.1 c j = if c = 174 ∧ j = 32 + k then nI (xp (cs ++ A ++ B)).length else v7.1 c j := fun c j h1 h2 => by
                  rw [r2.2.2.2 c h1 h2, q_up_1]
                  by_cases e : c = 174
                  · rw [if_pos e, upd_g]
                    by_cases e2 : j = 32 + k
                    · rw [if_pos e2, if_pos ⟨e, e2⟩]
                    · rw [if_neg e2, if_neg (fun h => e2 h.2), y2.2.2.2 174 (by omega) (by omega), e]
                  · rw [if_neg e, if_neg (fun h => e h.1), y2.2.2.2 c h1 h2]
                refine hI.step (fun j hj => by rw [a73, if_neg (by omega)]) (fun j hj => by rw [a74, if_neg (by omega)]) (fun j hj => by rw [a75, if_neg (by omega)]) (fun c j h1 h2 hj => ?_) (fun e => (y7 e).1) hwd.2.1 (by rw [a73, if_pos rfl]) ?_ (by rw [a74, if_pos rfl]) (by rw [a75, if_pos rfl]) ?_ ?_ ?_ x8 y5 y6 (fun e => (y7 e).2)
                · rw [av c (32 + j) h1 h2, if_neg (by omega), v7_c c (32 + j) h1 h2, if_neg (by omega)]
                  have : c = 171 ∨ c = 172 ∨ c = 173 ∨ c = 174 := by omega
                  rcases this with rfl | rfl | rfl | rfl
                  · rw [v4_171, if_neg (by omega)]
                  · rw [v4_172, if_neg (by omega)]
                  · rw [v4_173]
                  · rw [v4_174]
                · rw [av 171 (32 + k) (by omega) (by omega), if_neg (by omega), v7_c 171 (32 + k) (by omega) (by omega), if_neg (by omega), v4_171, if_pos rfl]
                · rw [av 172 (32 + k) (by omega) (by omega), if_neg (by omega), v7_c 172 (32 + k) (by omega) (by omega), if_neg (by omega), v4_172, if_pos rfl]
                · rw [av 173 (32 + k) (by omega) (by omega), if_neg (by omega), v7_c 173 (32 + k) (by omega) (by omega), if_pos ⟨rfl, rfl⟩]
                · rw [av 174 (32 + k) (by omega) (by omega), if_pos ⟨rfl, rfl⟩]
              rcases rll hX n (i3 + 1) (k + 1) f g _ _ v5 _ (cs ++ A ++ B) h3 (by omega) (by omega) (by omega) (by omega) hC5 r2 (by omega) (by omega) hLI with ⟨u6', v6, w', p, z1, z2, z3, z4⟩ | ⟨u6', u7', v6, v7', k2, i6, cs6, h6, z1, z2, z3⟩
              · refine Or.inl ⟨u6', v6, w', p, fun KA KB => ?_, y9.trans z2, z3, z4⟩
                rw [stC0, y8, q_bd_s', if_neg (by decide)]; exact z1 KA KB
              · refine Or.inr ⟨u6', u7', v6, v7', k2, i6, cs6, h6, fun KA KB => ?_, y9.trans z2, z3⟩
                rw [stC0, y8, q_bd_s', if_neg (by decide)]; exact z1 KA KB
            · obtain ⟨v5, d1, d2⟩ := errs_r (w := 1) hV4.2.1 hV4.1
              rw [decide_eq_false t1, if_pos bI_0, d1, q_bd_s'] at y9
              rw [t2, q_bd_s', bz_0] at y8
              refine Or.inl ⟨u5, v5, 1, tq N z i3, fun KA KB => ?_, y9, t3, d2⟩
              rw [stC0, y8, q_bd_s', if_pos (by decide)]
          by_cases hwn : ck 0 (tx N z i2) = 259
          · have hlt2 := hX.lt i2T (by omega)
            have hC4 := nx_c hC3 hlt2
            obtain ⟨vb, r1, r2, r3⟩ := rd_r hX hV3
            have hw9 : u9.1 73 k = nI wd := by rw [u9_73]; exact hw0
            rw [hwn, q_jn, if_pos rfl, q_let_s] at stC1
            rw [decide_eq_true hwn, q_jn, if_neg bI_1, r1, q_bd_s'] at stR1
            rcases any_s (np := 0) hX (by omega) hw9 hwd.2.1 hC4 r2 (by omega) (by omega) with ⟨u3, v3, w', p, y1, y2, y3, y4⟩ | ⟨u3, v3, i3, h3, B, y1, y2, y3, y4, y5, y6, y7, y8, y9, y10⟩
            · refine Or.inl ⟨u3, v3, w', p, fun KA KB => ?_, ?_, y3, y4⟩
              · rw [stC0, stC1, y1, q_bd_s', if_pos (by decide), q_bd_s', if_pos (by decide)]
              · rw [stR1, y2, q_bd_s', if_pos rfl]
            · rw [← xp_app] at y5 y7
              refine tail u3 v3 i3 h3 B (by omega) y4 y5 (by omega) (by omega) (Or.inr y8) (x9.app y9) (x10.app y10) ?_ ?_
              · rw [stC1, y1, q_bd_s', if_neg (by decide)]
              · rw [stR1, y2, q_bd_s', if_neg (by decide)]
          · have e0 : cs ++ A ++ [] = cs ++ A := List.append_nil _
            have e1 : A ++ [] = A := List.append_nil _
            rw [q_jn, nI_t (by omega), nI_t (by omega), if_neg (by omega)] at stC1
            rw [decide_eq_false hwn, q_jn, if_pos bI_0] at stR1
            exact tail u9 v7 i2 h2 [] (by omega) (by rw [e0]; exact hC3) (by rw [e0]; exact hV3) (by rw [e0]; omega) (by rw [e0]; omega) (Or.inl rfl) (by rw [e1]; exact x9) (by rw [e1]; exact x10) stC1 stR1
      · -- a line too many
        obtain ⟨u2, c1, c2⟩ := fail_c (w := 3) hX hC.1 hC.2.1.1 hiT
        obtain ⟨v2, d1, d2⟩ := errs_r (w := 3) hA hV.1
        refine Or.inl ⟨u2, v2, 3, tq N z i, fun KA KB => ?_, ?_, c2, d2⟩
        · show m_X6_readLaw_L18 _ _ _ _ (q_it1 (m_X6_readLaw_L18 66 12 KA KB) f) _ _ = _
          generalize q_it1 (m_X6_readLaw_L18 66 12 KA KB) f = self
          unfold m_X6_readLaw_L18 m_X6_lawLine
          simp only [lit_n]
          rw [if_neg g16, kd, q_bd_s', if_neg (by rw [nI_t (by omega)]; omega), kd, q_bd_s', inn, q_bd_s', if_neg bI_1, if_neg (by rw [nI_t (by omega), nI_t (by omega)]; omega), c1, q_bd_s', bz_0, q_bd_s', if_pos (by decide)]
        · unfold RLl
          show m_X11_readLaw_L2 _ _ _ _ _ _ _ _ = _
          unfold m_X11_readLaw_L2
          simp only [lit_n, mI_lit]
          rw [lw, q_bd_s', decide_eq_true hw, if_neg bI_1, if_pos (by rw [nI_t (by omega), nI_t (by omega)]; omega), d1, q_bd_s']
    · by_cases k0 : ck 0 (tx N z i) = 0
      · refine Or.inr ⟨u, u1, v, v1, k, i, cs, h, fun KA KB => ?_, ?_, hk, hC, hV, b1, b2, hI⟩
        · show m_X6_readLaw_L18 _ _ _ _ (q_it1 (m_X6_readLaw_L18 66 12 KA KB) f) _ _ = _
          unfold m_X6_readLaw_L18
          simp only [lit_n]
          rw [if_neg g16, kd, q_bd_s', k0, if_pos (by decide)]
        · unfold RLl
          show m_X11_readLaw_L2 _ _ _ _ _ _ _ _ = _
          unfold m_X11_readLaw_L2
          simp only [lit_n, mI_lit]
          rw [lw, q_bd_s', decide_eq_false hw, if_pos bI_0, hA.2.2.1, if_pos (by rw [nI_t (by omega)]; omega)]
      · obtain ⟨u2, c1, c2⟩ := fail_c (w := 1) hX hC.1 hC.2.1.1 hiT
        obtain ⟨v2, d1, d2⟩ := errs_r (w := 1) hA hV.1
        rw [decide_eq_false (by omega)] at inn
        refine Or.inl ⟨u2, v2, 1, tq N z i, fun KA KB => ?_, ?_, c2, d2⟩
        · show m_X6_readLaw_L18 _ _ _ _ (q_it1 (m_X6_readLaw_L18 66 12 KA KB) f) _ _ = _
          generalize q_it1 (m_X6_readLaw_L18 66 12 KA KB) f = self
          unfold m_X6_readLaw_L18 m_X6_lawLine
          simp only [lit_n]
          rw [if_neg g16, kd, q_bd_s', if_neg (by rw [nI_t (by omega)]; omega), kd, q_bd_s', inn, q_bd_s', if_pos bI_0, c1, q_bd_s', bz_0, q_bd_s', if_pos (by decide)]
        · unfold RLl
          show m_X11_readLaw_L2 _ _ _ _ _ _ _ _ = _
          unfold m_X11_readLaw_L2
          simp only [lit_n, mI_lit]
          rw [lw, q_bd_s', decide_eq_false hw, if_pos bI_0, hA.2.2.1, if_neg (by rw [nI_t (by omega)]; omega), d1, q_bd_s']
end
