/-! LAYER 2: THE CALLS, 6: feed; tree, who, lasts. (The rows on bits are kit/laws/BITS.to-paste) -/
def bt (x : Int32) (i : Nat) : Bool := x.toBitVec.getLsbD i
theorem b_ext {x y : Int32} (h : ∀ i, i < 32 → bt x i = bt y i) : x = y := Int32.toBitVec_inj.mp (BitVec.eq_of_getLsbD_eq (fun i hi => h i hi))
theorem b_or (x y : Int32) (i : Nat) : bt (x ||| y) i = (bt x i || bt y i) := by unfold bt; rw [Int32.toBitVec_or, BitVec.getLsbD_or]
theorem b_and (x y : Int32) (i : Nat) : bt (x &&& y) i = (bt x i && bt y i) := by unfold bt; rw [Int32.toBitVec_and, BitVec.getLsbD_and]
theorem b_xor (x y : Int32) (i : Nat) : bt (x ^^^ y) i = (bt x i ^^ bt y i) := by unfold bt; rw [Int32.toBitVec_xor, BitVec.getLsbD_xor]
theorem b_big {x : Int32} {i : Nat} (h : 32 ≤ i) : bt x i = false := BitVec.getLsbD_of_ge _ _ h
theorem b_255 (i : Nat) : bt 255 i = decide (i < 8) := by
  rcases Nat.lt_or_ge i 32 with h | h
  · exact (by decide +kernel : ∀ i, i < 32 → bt 255 i = decide (i < 8)) i h
  · rw [b_big h, decide_eq_false (by omega)]
theorem s_l : ∀ n, n < 32 → ((nI n &&& 31).toBitVec.smod 32).toNat = n := by decide +kernel
theorem s_u : ∀ n, n < 32 → (((nI n).toUInt32 &&& Int32.toUInt32 31).toBitVec % 32).toNat = n := by decide +kernel
theorem b_shl (n : Nat) (hn : n < 32) (x : Int32) {i : Nat} (hi : i < 32) : bt (x <<< (nI n &&& 31)) i = (decide (n ≤ i) && bt x (i - n)) := by
  unfold bt
  rw [Int32.toBitVec_shiftLeft]
  show (x.toBitVec <<< ((nI n &&& 31).toBitVec.smod 32).toNat).getLsbD i = _
  rw [s_l n hn, BitVec.getLsbD_shiftLeft]
  rcases Nat.lt_or_ge i n with h | h
  · simp [h, Nat.not_le.mpr h]
  · simp [hi, h, Nat.not_lt.mpr h]
theorem b_ushr (n : Nat) (hn : n < 32) (x : Int32) (i : Nat) : bt ((x.toUInt32 >>> ((nI n).toUInt32 &&& Int32.toUInt32 31)).toInt32) i = bt x (n + i) := by
  show (x.toUInt32 >>> ((nI n).toUInt32 &&& Int32.toUInt32 31)).toBitVec.getLsbD i = x.toUInt32.toBitVec.getLsbD (n + i)
  rw [UInt32.toBitVec_shiftRight]
  show (x.toUInt32.toBitVec >>> (((nI n).toUInt32 &&& Int32.toUInt32 31).toBitVec % 32).toNat).getLsbD i = _
  rw [s_u n hn, BitVec.getLsbD_ushiftRight]
theorem b_sshr (n : Nat) (hn : n < 32) (x : Int32) {i : Nat} (hi : i < 32) : bt (x >>> (nI n &&& 31)) i = if n + i < 32 then bt x (n + i) else bt x 31 := by
  unfold bt
  rw [Int32.toBitVec_shiftRight]
  show (x.toBitVec.sshiftRight ((nI n &&& 31).toBitVec.smod 32).toNat).getLsbD i = _
  rw [s_l n hn, BitVec.getLsbD_sshiftRight, BitVec.msb_eq_getLsbD_last]
  simp [hi]

theorem byte_eq (x : Int32) (n : Nat) (hn : n ≤ 24) : q_ushr x (nI n) &&& nI 255 = (x >>> (nI n &&& nI 31)) &&& nI 255 := by
  apply b_ext
  intro i hi
  have e1 : bt (q_ushr x (nI n)) i = bt x (n + i) := b_ushr n (by omega) x i
  have e2 : bt (x >>> (nI n &&& nI 31)) i = if n + i < 32 then bt x (n + i) else bt x 31 := b_sshr n (by omega) x hi
  have e3 : bt (nI 255) i = decide (i < 8) := b_255 i
  rw [b_and, b_and, e1, e2, e3]
  by_cases h : i < 8
  · rw [if_pos (by omega)]
  · rw [decide_eq_false h, Bool.and_false, Bool.and_false]
theorem byte_n (x : Int32) : ∃ c : Nat, c < 256 ∧ x &&& nI 255 = nI c := pk_andE x 8 (by decide)
/-- the tape on both sides, n bytes -/
def TS (x y : qS) (n : Nat) : Prop := x.1 67 1 = nI n ∧ y.1 163 14 = nI n ∧ ∀ i, i < n → ∃ c : Nat, c < 256 ∧ x.1 68 i = nI c ∧ y.1 168 i = nI c
def TF (x y x2 y2 : qS) : Prop := (∀ c, c ≠ 67 → c ≠ 68 → x2.1 c = x.1 c) ∧ (∀ j, j ≠ 1 → x2.1 67 j = x.1 67 j) ∧ (∀ c, c ≠ 163 → c ≠ 168 → y2.1 c = y.1 c) ∧ (∀ j, j ≠ 14 → y2.1 163 j = y.1 163 j)
theorem TF.trans {x y x1 y1 x2 y2 : qS} (h : TF x y x1 y1) (h2 : TF x1 y1 x2 y2) : TF x y x2 y2 := ⟨fun c a b => (h2.1 c a b).trans (h.1 c a b), fun j a => (h2.2.1 j a).trans (h.2.1 j a), fun c a b => (h2.2.2.1 c a b).trans (h.2.2.1 c a b), fun j a => (h2.2.2.2 j a).trans (h.2.2.2 j a)⟩
theorem one_b {a : Int32} {n s : Nat} {x y : qS} (h : TS x y n) (hn : n < 400) (hs : s ≤ 24) : ∃ x2 y2, (∀ (K : qS → qR) (self : Int32 → qS → qR), m_X8_addFour_L3 67 a K self (nI s) x = self (nI s + -nI 8) x2) ∧ (∀ (K : qS → qR) (self : Int32 → qS → qR), m_X11_types_L3 a K self (nI s) y = self (nI s + -nI 8) y2) ∧ TS x2 y2 (n + 1) ∧ TF x y x2 y2 := by
  obtain ⟨t1, t2, t3⟩ := h
  obtain ⟨c, hc, hc2⟩ := byte_n (a >>> (nI s &&& nI 31))
  have hc1 : q_ushr a (nI s) &&& nI 255 = nI c := by rw [byte_eq a s hs]; exact hc2
  have c1 : ¬ (nI s).toInt < 0 := by rw [nI_t (by omega)]; omega
  have c2 : ¬ (nI 400).toInt ≤ (nI n).toInt := by rw [nI_t (by omega), nI_t (by omega)]; omega
  have z1 : q_ast x (67 + 1) 400 (nI n) (nI c) = some (q_up x 68 n (nI c)) := ast_n hn (by omega)
  have z2 : q_ast y 168 400 (nI n) (nI c) = some (q_up y 168 n (nI c)) := ast_n hn (by omega)
  have e1 : (q_up x 68 n (nI c)).1 67 1 = nI n := t1
  have e2 : (q_up y 168 n (nI c)).1 163 14 = nI n := t2
  refine ⟨q_up (q_up x 68 n (nI c)) 67 1 (nI (n + 1)), q_up (q_up y 168 n (nI c)) 163 14 (nI (n + 1)), fun K self => ?_, fun K self => ?_, ⟨rfl, rfl, fun i hi => ?_⟩, ⟨fun c' h1 h2 => ?_, fun j hj => ?_, fun c' h1 h2 => ?_, fun j hj => ?_⟩⟩
  · unfold m_X8_addFour_L3
    simp only [lit_n, if_neg c1, t1, if_neg c2, hc1, z1, Option.bind_some, e1, q_let, nI_add]
  · unfold m_X11_types_L3
    simp only [lit_n, if_neg c1, t2, hc2, z2, Option.bind_some, e2, q_let, nI_add]
  · by_cases hin : i = n
    · subst hin
      refine ⟨c, hc, ?_, ?_⟩
      · show upd (x.1 68) i (nI c) i = _; rw [upd_g, if_pos rfl]
      · show upd (y.1 168) i (nI c) i = _; rw [upd_g, if_pos rfl]
    · obtain ⟨d, d1, d2, d3⟩ := t3 i (by omega)
      refine ⟨d, d1, ?_, ?_⟩
      · show upd (x.1 68) n (nI c) i = _; rw [upd_g, if_neg hin]; exact d2
      · show upd (y.1 168) n (nI c) i = _; rw [upd_g, if_neg hin]; exact d3
  · rw [q_up_1, if_neg h1, q_up_1, if_neg h2]
  · rw [q_up_1, if_pos rfl, upd_g, if_neg hj]; rfl
  · rw [q_up_1, if_neg h1, q_up_1, if_neg h2]
  · rw [q_up_1, if_pos rfl, upd_g, if_neg hj]; rfl
theorem four_b {a : Int32} {n : Nat} {x y : qS} (h : TS x y n) (hn : n + 4 ≤ 400) : ∃ x2 y2, m_X8_addFour 67 a x = some (nI 0, x2) ∧ m_X11_types a y = some (nI 0, y2) ∧ TS x2 y2 (n + 4) ∧ TF x y x2 y2 := by
  obtain ⟨x1, y1, a1, b1, t1, f1⟩ := one_b (a := a) (s := 24) h (by omega) (by omega)
  obtain ⟨x2, y2, a2, b2, t2, f2⟩ := one_b (a := a) (s := 16) t1 (by omega) (by omega)
  obtain ⟨x3, y3, a3, b3, t3, f3⟩ := one_b (a := a) (s := 8) t2 (by omega) (by omega)
  obtain ⟨x4, y4, a4, b4, t4, f4⟩ := one_b (a := a) (s := 0) t3 (by omega) (by omega)
  have e24 : nI 24 + -nI 8 = nI 16 := by decide
  have e16 : nI 16 + -nI 8 = nI 8 := by decide
  have e8 : nI 8 + -nI 8 = nI 0 := by decide
  have hm : (nI 0 + -nI 8).toInt < 0 := by decide
  have hc : ∀ (K : qS → qR) (f : Nat), q_it1 (m_X8_addFour_L3 67 a K) (f + 5) (nI 24) x = K x4 := fun K f => by
    show m_X8_addFour_L3 67 a K (q_it1 (m_X8_addFour_L3 67 a K) (f + 4)) _ _ = _
    rw [a1, e24]
    show m_X8_addFour_L3 67 a K (q_it1 (m_X8_addFour_L3 67 a K) (f + 3)) _ _ = _
    rw [a2, e16]
    show m_X8_addFour_L3 67 a K (q_it1 (m_X8_addFour_L3 67 a K) (f + 2)) _ _ = _
    rw [a3, e8]
    show m_X8_addFour_L3 67 a K (q_it1 (m_X8_addFour_L3 67 a K) (f + 1)) _ _ = _
    rw [a4]
    show m_X8_addFour_L3 67 a K (q_it1 (m_X8_addFour_L3 67 a K) f) _ _ = _
    unfold m_X8_addFour_L3
    rw [if_pos hm]
  have hr : ∀ (K : qS → qR) (f : Nat), q_it1 (m_X11_types_L3 a K) (f + 5) (nI 24) y = K y4 := fun K f => by
    show m_X11_types_L3 a K (q_it1 (m_X11_types_L3 a K) (f + 4)) _ _ = _
    rw [b1, e24]
    show m_X11_types_L3 a K (q_it1 (m_X11_types_L3 a K) (f + 3)) _ _ = _
    rw [b2, e16]
    show m_X11_types_L3 a K (q_it1 (m_X11_types_L3 a K) (f + 2)) _ _ = _
    rw [b3, e8]
    show m_X11_types_L3 a K (q_it1 (m_X11_types_L3 a K) (f + 1)) _ _ = _
    rw [b4]
    show m_X11_types_L3 a K (q_it1 (m_X11_types_L3 a K) f) _ _ = _
    unfold m_X11_types_L3
    rw [if_pos hm]
  refine ⟨x4, y4, ?_, ?_, t4, ((f1.trans f2).trans f3).trans f4⟩
  · unfold m_X8_addFour
    simp only [lit_n]
    exact hc _ 2995
  · unfold m_X11_types
    simp only [lit_n]
    exact hr _ 2995
theorem Rel.tape {x y x2 y2 : qS} {n : Nat} (h : Rel x y) (hT : TS x2 y2 n) (hn : n ≤ 400) (hF : TF x y x2 y2) : Rel x2 y2 := by
  obtain ⟨r1, r2, r3, r4, r5⟩ := h
  obtain ⟨f1, f2, f3, f4⟩ := hF
  refine ⟨?_, ?_, ?_, ?_, ?_⟩
  · exact r1.mv (XP.of (fun c a1 a2 _ _ => f1 c (by omega) (by omega))) ⟨fun j _ => by rw [f3 164 (by omega) (by omega)], fun j hj => f4 j (by unfold gsl at hj; omega), fun i _ => by rw [f3 167 (by omega) (by omega)], by rw [f3 170 (by omega) (by omega)], fun c a1 a2 i _ => by rw [f3 c (by omega) (by omega)], fun c a1 a2 i _ => by rw [f3 c (by omega) (by omega)], fun j _ => by rw [f3 178 (by omega) (by omega)], fun j _ => by rw [f3 179 (by omega) (by omega)], fun j _ => by rw [f3 184 (by omega) (by omega)]⟩
  · exact r2.fr (by rw [f1 0 (by omega) (by omega)]) (by rw [f1 0 (by omega) (by omega)]) (fun c a1 a2 => f1 c (by omega) (by omega)) (f4 3 (by omega)) (fun j hj => f4 j (by omega)) (f3 165 (by omega) (by omega))
  · refine ⟨⟨n, hn, hT.1, hT.2.1, hT.2.2⟩, ?_, ?_⟩
    · rw [f1 66 (by omega) (by omega), f4 34 (by omega)]; exact r3.2.1
    · rw [f1 66 (by omega) (by omega), f4 35 (by omega)]; exact r3.2.2
  · exact r4.fr (by rw [f1 88 (by omega) (by omega)]) (by rw [f1 90 (by omega) (by omega)]) (f4 5 (by omega)) (f3 169 (by omega) (by omega))
  · exact r5.fr (by rw [f1 0 (by omega) (by omega)]) (fun c a1 a2 _ _ => f1 c (by omega) (by omega)) (f4 53 (by omega)) (f3 187 (by omega) (by omega))
theorem sim_feed (a b c d e : Int32) : SIM (m_X10_feed a b c d e) (m_X11_feed a b c d e) := fun x y h => by
  obtain ⟨⟨n, n4, t1, t2, t3⟩, -, -⟩ := h.2.2.1
  have T0 : TS x (q_up y 163 0 (nI 0)) n := ⟨t1, t2, t3⟩
  have t2' : (q_up y 163 0 (nI 0)).1 163 14 = nI n := t2
  unfold m_X10_feed m_X11_feed
  simp only [lit_n, mI_lit, q_let, t1, t2', nI_add]
  by_cases hn : n ≤ 380
  · have c1 : (nI (n + 20)).toInt ≤ (nI 400).toInt := by rw [nI_t (by omega), nI_t (by omega)]; omega
    have c2 : (nI n).toInt ≤ (nI 380).toInt := by rw [nI_t (by omega), nI_t (by omega)]; omega
    obtain ⟨x1, y1, a1, b1, s1, f1⟩ := four_b (a := a) T0 (by omega)
    obtain ⟨x2, y2, a2, b2, s2, f2⟩ := four_b (a := b) s1 (by omega)
    obtain ⟨x3, y3, a3, b3, s3, f3⟩ := four_b (a := c) s2 (by omega)
    obtain ⟨x4, y4, a4, b4, s4, f4⟩ := four_b (a := d) s3 (by omega)
    obtain ⟨x5, y5, a5, b5, s5, f5⟩ := four_b (a := e) s4 (by omega)
    refine ⟨nI (n + 4 + 4 + 4 + 4 + 4), x5, y5, ?_, ?_, h.told.tape s5 (by omega) ((((f1.trans f2).trans f3).trans f4).trans f5)⟩
    · simp only [if_pos c1, a1, a2, a3, a4, a5, q_bd_some, s5.1]
    · simp only [if_pos c2, b1, b2, b3, b4, b5, q_bd_some, s5.2.1]
  · have c1 : ¬ (nI (n + 20)).toInt ≤ (nI 400).toInt := by rw [nI_t (by omega), nI_t (by omega)]; omega
    have c2 : ¬ (nI n).toInt ≤ (nI 380).toInt := by rw [nI_t (by omega), nI_t (by omega)]; omega
    exact ⟨mI, x, q_up y 163 0 (nI 0), by rw [if_neg c1], by rw [if_neg c2], h.told⟩
theorem isIn_n {w a b : Nat} {v : qS} (hw : w < 2147483648) (ha : a < 2147483648) (hb : b < 2147483648) : m_X11_isIn (nI w) (nI a) (nI b) v = some ((if a ≤ w ∧ w ≤ b then nI 1 else nI 0), v) := by
  unfold m_X11_isIn
  simp only [lit_n, nI_t hw, nI_t ha, nI_t hb]
  by_cases h1 : a ≤ w
  · rw [if_neg (by omega)]
    by_cases h2 : w ≤ b
    · rw [if_neg (by omega), if_pos ⟨h1, h2⟩]
    · rw [if_pos (by omega), if_neg (fun e => h2 e.2)]
  · rw [if_pos (by omega), if_neg (fun e => h1 e.1)]
theorem isW_n {w a b : Nat} {v : qS} (hw : w < 2147483648) (ha : a < 2147483648) (hb : b < 2147483648) : m_X10_isWithin (nI w) (nI a) (nI b) v = some ((if a ≤ w ∧ w ≤ b then nI 1 else nI 0), v) := by
  unfold m_X10_isWithin
  simp only [lit_n, nI_t hw, nI_t ha, nI_t hb]
  by_cases h1 : a ≤ w
  · rw [if_neg (by omega)]
    by_cases h2 : w ≤ b
    · rw [if_neg (by omega), if_pos ⟨h1, h2⟩]
    · rw [if_pos (by omega), if_neg (fun e => h2 e.2)]
  · rw [if_pos (by omega), if_neg (fun e => h1 e.1)]
/-- outside of a range -/
theorem isIn_o {x : Int32} {a b : Nat} {v : qS} (ha : a < 2147483648) (hb : b < 2147483648) (h : x.toInt < a ∨ (b : Int) < x.toInt) : m_X11_isIn x (nI a) (nI b) v = some (nI 0, v) := by
  unfold m_X11_isIn
  simp only [lit_n, nI_t ha, nI_t hb]
  by_cases h1 : x.toInt < (a : Int)
  · rw [if_pos h1]
  · rw [if_neg h1, if_pos (by omega)]
theorem isW_o {x : Int32} {a b : Nat} {v : qS} (ha : a < 2147483648) (hb : b < 2147483648) (h : x.toInt < a ∨ (b : Int) < x.toInt) : m_X10_isWithin x (nI a) (nI b) v = some (nI 0, v) := by
  unfold m_X10_isWithin
  simp only [lit_n, nI_t ha, nI_t hb]
  by_cases h1 : x.toInt < (a : Int)
  · rw [if_pos h1]
  · rw [if_neg h1, if_pos (by omega)]
theorem sim_tree (t a : Int32) : SIM (m_X10_tree t a) (m_X11_tree t a) := fun x y h => by
  obtain ⟨P, hP5, hP, hP2⟩ := h.G.P
  obtain ⟨T, hT4, hT, hT2⟩ := h.B.trees
  have hx8 : x.1 2 8 = nI T := by rw [h.C.trees, hT]
  have ht := h.told (v := nI 0)
  unfold m_X10_tree m_X11_tree
  simp only [lit_n, mI_lit]
  rcases tree_b t (x := x) (y := q_up y 163 0 (nI 0)) hx8 hT hT4 with ⟨q, q1, q2, p1, p2⟩ | ⟨p1, p2⟩
  · subst q2
    by_cases hw : 0 ≤ a.toInt ∧ a.toInt ≤ 4
    · obtain ⟨m, m1, m2, m3⟩ := nI_ex (x := a) (b := 4) hw.1 hw.2 (by omega)
      subst m2
      have w2 : ∀ v, m_X11_isIn (nI m) (nI 0) (nI 4) v = some (nI 1, v) := fun v => by rw [isIn_n (by omega) (by omega) (by omega), if_pos ⟨by omega, m1⟩]
      have z0 : q_ald x 6 14 (nI q) = some (y.1 164 (20 + q)) := by rw [ald_n (by omega) (by omega)]; exact congrArg some (h.C.tparty (by omega))
      have z1 : q_ald x 7 14 (nI q) = some (y.1 164 (34 + q)) := by rw [ald_n (by omega) (by omega)]; exact congrArg some (h.C.tplace (by omega))
      have z2 : q_ald x 8 14 (nI q) = some (y.1 164 (48 + q)) := by rw [ald_n (by omega) (by omega)]; exact congrArg some (h.C.tage (by omega))
      have z3 : q_ald x 9 14 (nI q) = some (y.1 164 (62 + q)) := by rw [ald_n (by omega) (by omega)]; exact congrArg some (h.C.hang (by omega))
      have yy : ∀ j, j < 136 → q_ald (q_up y 163 0 (nI 0)) 164 136 (nI j) = some (y.1 164 j) := fun j hj => ald_n hj (by omega)
      have hm : m = 0 ∨ m = 1 ∨ m = 2 ∨ m = 3 ∨ m = 4 := by omega
      rcases hm with rfl | rfl | rfl | rfl | rfl
      · have tm : (nI 0).toInt = 0 := rfl
        have c4 : ¬ ((nI 0).toInt = (nI 4).toInt) := by decide
        exact ⟨y.1 164 (20 + q), x, q_up y 163 0 (nI 0), by simp only [p1, q_bd_some, z10, if_false, tm, if_true, z0, Option.bind_some], by simp only [q_let, p2, q_bd_some, z10, if_false, w2, if_neg c4, pk_mul, nI_add, yy (20 + 14 * 0 + q) (by omega), Option.bind_some], ht⟩
      · have tm : (nI 1).toInt = 1 := rfl
        have c4 : ¬ ((nI 1).toInt = (nI 4).toInt) := by decide
        exact ⟨y.1 164 (34 + q), x, q_up y 163 0 (nI 0), by simp only [p1, q_bd_some, z10, if_false, tm, if_neg (show ¬ ((1 : Int) = 0) by omega), if_true, z1, Option.bind_some], by simp only [q_let, p2, q_bd_some, z10, if_false, w2, if_neg c4, pk_mul, nI_add, yy (20 + 14 * 1 + q) (by omega), Option.bind_some], ht⟩
      · have tm : (nI 2).toInt = 2 := rfl
        have c4 : ¬ ((nI 2).toInt = (nI 4).toInt) := by decide
        exact ⟨y.1 164 (48 + q), x, q_up y 163 0 (nI 0), by simp only [p1, q_bd_some, z10, if_false, tm, if_neg (show ¬ ((2 : Int) = 0) by omega), if_neg (show ¬ ((2 : Int) = 1) by omega), if_true, z2, Option.bind_some], by simp only [q_let, p2, q_bd_some, z10, if_false, w2, if_neg c4, pk_mul, nI_add, yy (20 + 14 * 2 + q) (by omega), Option.bind_some], ht⟩
      · have tm : (nI 3).toInt = 3 := rfl
        have c4 : ¬ ((nI 3).toInt = (nI 4).toInt) := by decide
        exact ⟨y.1 164 (62 + q), x, q_up y 163 0 (nI 0), by simp only [p1, q_bd_some, z10, if_false, tm, if_neg (show ¬ ((3 : Int) = 0) by omega), if_neg (show ¬ ((3 : Int) = 1) by omega), if_neg (show ¬ ((3 : Int) = 2) by omega), if_true, z3, Option.bind_some], by simp only [q_let, p2, q_bd_some, z10, if_false, w2, if_neg c4, pk_mul, nI_add, yy (20 + 14 * 3 + q) (by omega), Option.bind_some], ht⟩
      · have tm : (nI 4).toInt = 4 := rfl
        obtain ⟨s, a', e1⟩ := bears_c (t := q) (k := 2) (u := x) (by omega) h.C h.B h.G h.1.2.2.2.2.1 hT hT4 q1
        obtain ⟨s', a'', e2⟩ := bear_r (X := x.1) (v := q_up y 163 0 (nI 0)) (t := q) ht.B ht.1.2.2.2.2.1 hT hT4 q1 hP hP5
        exact ⟨bearF x.1 (y.1 164) q, sc x s a', sr (q_up y 163 0 (nI 0)) s' a'', by simp only [p1, q_bd_some, z10, if_false, tm, if_neg (show ¬ ((4 : Int) = 0) by omega), if_neg (show ¬ ((4 : Int) = 1) by omega), if_neg (show ¬ ((4 : Int) = 2) by omega), if_neg (show ¬ ((4 : Int) = 3) by omega), if_true, e1], by simp only [q_let, p2, q_bd_some, z10, if_false, w2, if_true, e2]; rfl, ht.law⟩
    · have w2 : ∀ v, m_X11_isIn a (nI 0) (nI 4) v = some (nI 0, v) := fun v => isIn_o (by omega) (by omega) (by omega)
      refine ⟨mI, x, q_up y 163 0 (nI 0), ?_, by simp only [q_let, p2, q_bd_some, z10, if_false, w2, z00, if_true], ht⟩
      rw [p1, q_bd_some, if_neg (by decide), if_neg (by omega), if_neg (by omega), if_neg (by omega), if_neg (by omega), if_neg (by omega)]
  · exact ⟨mI, x, q_up y 163 0 (nI 0), by simp only [p1, q_bd_some, z00, if_true], by simp only [q_let, p2, q_bd_some, z00, if_true], ht⟩
theorem sim_who (e a : Int32) : SIM (m_X10_who e a) (m_X11_who e a) := fun x y h => by
  obtain ⟨P, hP5, hP, hP2⟩ := h.G.P
  obtain ⟨E, hE1, hE, hE2⟩ := h.G.E
  have hx9 : x.1 2 9 = nI E := by rw [h.C.eaters, hE]
  have hx7 : x.1 2 7 = nI P := by rw [h.C.parties, hP]
  have ht := h.told (v := nI 0)
  have h6 : (q_up y 163 0 (nI 0)).1 163 6 = nI P := hP
  unfold m_X10_who m_X11_who
  simp only [lit_n, mI_lit]
  rcases eater_b e (x := x) (y := q_up y 163 0 (nI 0)) hx9 hE hE1 with ⟨q, q1, q2, p1, p2⟩ | ⟨p1, p2⟩
  · subst q2
    obtain ⟨M, m1, m2, m3, m4, m5⟩ := h.1.2.2.2.2.2.1.2 q (by omega)
    have yM : q_ald (q_up y 163 0 (nI 0)) 178 180 (nI (9 * q)) = some (nI M) := by rw [ald_n (by omega) (by omega)]; exact congrArg some m3
    have xM : q_ald x 20 10 (nI q) = some (nI M) := by rw [ald_n (by omega) (by omega)]; exact congrArg some m2
    have t1 : (nI 1).toInt = 1 := rfl
    have t2 : (nI 2).toInt = 2 := rfl
    by_cases a0 : a.toInt = 0
    · have xh : q_ald x 10 10 (nI q) = some (y.1 164 (76 + q)) := by rw [ald_n (by omega) (by omega)]; exact congrArg some (h.C.hunger (by omega))
      have yh : q_ald (q_up y 163 0 (nI 0)) 164 136 (nI (76 + q)) = some (y.1 164 (76 + q)) := ald_n (by omega) (by omega)
      exact ⟨y.1 164 (76 + q), x, q_up y 163 0 (nI 0), by simp only [p1, q_bd_some, z10, if_false, if_pos a0, xh, Option.bind_some], by simp only [q_let, p2, q_bd_some, z10, if_false, pk_mul, yM, Option.bind_some, if_pos a0, nI_add, yh], ht⟩
    by_cases a1 : a.toInt = 1
    · obtain ⟨s, a', e1⟩ := wants_c (k := 2) (u := x) (e := q) (by omega) h.C h.1.2.2.2.2.1 (by omega)
      obtain ⟨s', a'', e2⟩ := want_r (X := x.1) (v := q_up y 163 0 (nI 0)) (e := q) ht.1.2.2.2.2.1 (by omega)
      have a1' : a.toInt = (nI 1).toInt := by rw [t1]; exact a1
      exact ⟨wantF x.1 (y.1 164) q, sc x s a', sr (q_up y 163 0 (nI 0)) s' a'', by simp only [p1, q_bd_some, z10, if_false, if_neg a0, if_pos a1, e1], by simp only [q_let, p2, q_bd_some, z10, if_false, pk_mul, yM, Option.bind_some, if_neg a0, if_pos a1', e2]; rfl, ht.law⟩
    by_cases a2 : a.toInt = 2
    · have a1' : ¬ a.toInt = (nI 1).toInt := by rw [t1]; exact a1
      have a2' : a.toInt = (nI 2).toInt := by rw [t2]; exact a2
      exact ⟨nI M, x, q_up y 163 0 (nI 0), by simp only [p1, q_bd_some, z10, if_false, if_neg a0, if_neg a1, if_pos a2, xM, Option.bind_some], by simp only [q_let, p2, q_bd_some, z10, if_false, pk_mul, yM, Option.bind_some, if_neg a0, if_neg a1', if_pos a2'], ht⟩
    have a1' : ¬ a.toInt = (nI 1).toInt := by rw [t1]; exact a1
    have a2' : ¬ a.toInt = (nI 2).toInt := by rw [t2]; exact a2
    have none_c : ∀ (hA : a.toInt < 10 ∨ (17 : Int) < a.toInt) (hB : a.toInt < 20 ∨ (24 : Int) < a.toInt), ∃ r x2 y2, (q_bd (some (nI 1, x)) fun r u_1 => if r.toInt = 0 then some (mI, u_1) else some (r, u_1)) = some (r, x2) ∧ True ∧ y2 = y := fun _ _ => ⟨_, _, _, rfl, trivial, rfl⟩
    by_cases hs : 10 ≤ a.toInt ∧ a.toInt ≤ 17
    · obtain ⟨w, w1, w2, w3⟩ := nI_ex (x := a) (b := 17) (by omega) hs.2 (by omega)
      subst w2
      have w10 : 10 ≤ w := by omega
      have iw : ∀ v, m_X10_isWithin (nI w) (nI 10) (nI 17) v = some (nI 1, v) := fun v => by rw [isW_n (by omega) (by omega) (by omega), if_pos ⟨w10, w1⟩]
      have e10 : nI w - nI 10 = nI (w - 10) := nI_sub w10
      have c0 : ¬ (nI (w - 10)).toInt < 0 := by rw [nI_t (by omega)]; omega
      by_cases hm : w - 10 < M
      · obtain ⟨l, l1, l2, l3⟩ := m4 (w - 10) hm
        have st : m_X4_step 19 (nI q) (nI (w - 10)) x = some (nI l, x) := by
          unfold m_X4_step
          have c1 : ¬ (nI M).toInt ≤ (nI (w - 10)).toInt := by rw [nI_t (by omega), nI_t (by omega)]; omega
          have xs : q_ald x 21 80 (nI (q * 8 + (w - 10))) = some (nI l) := by rw [ald_n (by omega) (by omega), show q * 8 + (w - 10) = 8 * q + (w - 10) by omega]; exact congrArg some l2
          simp only [if_neg c0, xM, Option.bind_some, if_neg c1, lit_n, pk_mul, nI_add, xs]
        have ir : ∀ v, m_X11_isIn (nI w) (nI 10) (nI (9 + M)) v = some (nI 1, v) := fun v => by rw [isIn_n (by omega) (by omega) (by omega), if_pos ⟨w10, by omega⟩]
        have e9 : nI (9 * q + w) - nI 9 = nI (9 * q + w - 9) := nI_sub (by omega)
        have ys : q_ald (q_up y 163 0 (nI 0)) 178 180 (nI (9 * q + w - 9)) = some (nI l) := by rw [ald_n (by omega) (by omega), show 9 * q + w - 9 = 9 * q + 1 + (w - 10) by omega]; exact congrArg some l3
        exact ⟨nI l, x, q_up y 163 0 (nI 0), by simp only [p1, q_bd_some, z10, if_false, if_neg a0, if_neg a1, if_neg a2, iw, e10, st], by simp only [q_let, p2, q_bd_some, z10, if_false, pk_mul, yM, Option.bind_some, if_neg a0, if_neg a1', if_neg a2', nI_add, ir, e9, ys], ht⟩
      · have st : m_X4_step 19 (nI q) (nI (w - 10)) x = some (mI, x) := by
          unfold m_X4_step
          have c1 : (nI M).toInt ≤ (nI (w - 10)).toInt := by rw [nI_t (by omega), nI_t (by omega)]; omega
          simp only [if_neg c0, xM, Option.bind_some, if_pos c1, lit_n, mI_lit]
        have ir : ∀ v, m_X11_isIn (nI w) (nI 10) (nI (9 + M)) v = some (nI 0, v) := fun v => by rw [isIn_n (by omega) (by omega) (by omega), if_neg (by omega)]
        have ir2 : ∀ v, m_X11_isIn (nI w) (nI 20) (nI (19 + P)) v = some (nI 0, v) := fun v => by rw [isIn_n (by omega) (by omega) (by omega), if_neg (by omega)]
        exact ⟨mI, x, q_up y 163 0 (nI 0), by simp only [p1, q_bd_some, z10, if_false, if_neg a0, if_neg a1, if_neg a2, iw, e10, st], by simp only [q_let, p2, q_bd_some, z10, if_false, pk_mul, yM, Option.bind_some, if_neg a0, if_neg a1', if_neg a2', nI_add, ir, z00, if_true, h6, ir2], ht⟩
    have iw : ∀ v, m_X10_isWithin a (nI 10) (nI 17) v = some (nI 0, v) := fun v => isW_o (by omega) (by omega) (by omega)
    have ir : ∀ v, m_X11_isIn a (nI 10) (nI (9 + M)) v = some (nI 0, v) := fun v => isIn_o (by omega) (by omega) (by omega)
    by_cases hs2 : 20 ≤ a.toInt ∧ a.toInt ≤ 24
    · obtain ⟨w, w1, w2, w3⟩ := nI_ex (x := a) (b := 24) (by omega) hs2.2 (by omega)
      subst w2
      have w20 : 20 ≤ w := by omega
      have iw2 : ∀ v, m_X10_isWithin (nI w) (nI 20) (nI 24) v = some (nI 1, v) := fun v => by rw [isW_n (by omega) (by omega) (by omega), if_pos ⟨w20, w1⟩]
      have e20 : nI w - nI 20 = nI (w - 20) := nI_sub w20
      by_cases hwP : w - 20 < P
      · have ip : m_X0_isParty 2 (nI (w - 20)) x = some (nI 1, x) := by
          unfold m_X0_isParty
          rw [if_neg (by rw [nI_t (by omega)]; omega), hx7, if_neg (by rw [nI_t (by omega), nI_t (by omega)]; omega)]; rfl
        have ir2 : ∀ v, m_X11_isIn (nI w) (nI 20) (nI (19 + P)) v = some (nI 1, v) := fun v => by rw [isIn_n (by omega) (by omega) (by omega), if_pos ⟨w20, by omega⟩]
        have tc := taste_c (u := x) h.C hE hE1 q1 (p := w - 20) (by omega)
        have tr := taste_r (v := q_up y 163 0 (nI 0)) (e := q) (p := w - 20) (by omega) (by omega)
        exact ⟨y.1 164 (86 + (5 * q + (w - 20))) + nI 5, x, q_up y 163 0 (nI 0), by simp only [p1, q_bd_some, z10, if_false, if_neg a0, if_neg a1, if_neg a2, iw, z00, if_true, iw2, e20, ip, tc], by simp only [q_let, p2, q_bd_some, z10, if_false, pk_mul, yM, Option.bind_some, if_neg a0, if_neg a1', if_neg a2', nI_add, ir, z00, if_true, h6, ir2, e20, tr]; rfl, ht⟩
      · have ip : m_X0_isParty 2 (nI (w - 20)) x = some (nI 0, x) := by
          unfold m_X0_isParty
          rw [if_neg (by rw [nI_t (by omega)]; omega), hx7, if_pos (by rw [nI_t (by omega), nI_t (by omega)]; omega)]; rfl
        have ir2 : ∀ v, m_X11_isIn (nI w) (nI 20) (nI (19 + P)) v = some (nI 0, v) := fun v => by rw [isIn_n (by omega) (by omega) (by omega), if_neg (by omega)]
        exact ⟨mI, x, q_up y 163 0 (nI 0), by simp only [p1, q_bd_some, z10, if_false, if_neg a0, if_neg a1, if_neg a2, iw, z00, if_true, iw2, e20, ip], by simp only [q_let, p2, q_bd_some, z10, if_false, pk_mul, yM, Option.bind_some, if_neg a0, if_neg a1', if_neg a2', nI_add, ir, z00, if_true, h6, ir2], ht⟩
    · have iw2 : ∀ v, m_X10_isWithin a (nI 20) (nI 24) v = some (nI 0, v) := fun v => isW_o (by omega) (by omega) (by omega)
      have ir2 : ∀ v, m_X11_isIn a (nI 20) (nI (19 + P)) v = some (nI 0, v) := fun v => isIn_o (by omega) (by omega) (by omega)
      exact ⟨mI, x, q_up y 163 0 (nI 0), by simp only [p1, q_bd_some, z10, if_false, if_neg a0, if_neg a1, if_neg a2, iw, z00, if_true, iw2], by simp only [q_let, p2, q_bd_some, z10, if_false, pk_mul, yM, Option.bind_some, if_neg a0, if_neg a1', if_neg a2', nI_add, ir, z00, if_true, h6, ir2], ht⟩
  · exact ⟨mI, x, q_up y 163 0 (nI 0), by simp only [p1, q_bd_some, z00, if_true], by simp only [q_let, p2, q_bd_some, z00, if_true], ht⟩
