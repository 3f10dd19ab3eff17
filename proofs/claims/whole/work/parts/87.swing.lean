/-! LAYER 2: THE CALLS, 14: swings, the call -/
theorem q_rm_n {a d : Nat} (ha : a < 2147483648) (hd : d < 2147483648) (h0 : 0 < d) : q_rm (nI a) (nI d) = nI (a % d) := by
  have := q_rem_n ha hd h0
  unfold q_rem at this
  by_cases e : nI d = 0
  · rw [if_pos e] at this; cases this
  · rw [if_neg e] at this; exact Option.some.inj this
theorem last_it {x : qS} {W e : Nat} (h0 : x.1 2 0 = nI W) (h5 : x.1 2 5 = nI e) (he : 0 < e) (he2 : e < 100000) (hW : W ≤ 20000) : ∀ (n f : Nat), n ≤ 20 → n < f → ∃ R, R ≤ n ∧ (∀ m, R < m → m ≤ n → ¬ (W + m) % e = 0) ∧ q_it1 (m_X10_weeksToLastSeating_L2 (fun x2 u_2 => some (x2, u_2)) (fun u_3 => some (nI 0, u_3))) f (nI n) x = some (nI R, x)
  | n, 0, hn, hf => by omega
  | 0, f + 1, hn, hf => by
    refine ⟨0, by omega, fun m m1 m2 => by omega, ?_⟩
    show m_X10_weeksToLastSeating_L2 _ _ _ _ _ = _
    unfold m_X10_weeksToLastSeating_L2
    rw [if_pos (by decide)]
  | n + 1, f + 1, hn, hf => by
    have c1 : ¬ (nI (n + 1)).toInt ≤ 0 := by rw [nI_t (by omega)]; omega
    have c2 : ¬ (nI e).toInt ≤ 0 := by rw [nI_t (by omega)]; omega
    have md : (W + (n + 1)) % e < e := Nat.mod_lt _ he
    have dn : nI (n + 1) + mI = nI n := by
      rw [show mI = -nI 1 from rfl, ← Int32.sub_eq_add_neg]
      exact nI_sub (by omega)
    by_cases hz : (W + (n + 1)) % e = 0
    · refine ⟨n + 1, by omega, fun m m1 m2 => by omega, ?_⟩
      show m_X10_weeksToLastSeating_L2 _ _ (q_it1 _ f) _ _ = _
      generalize q_it1 (m_X10_weeksToLastSeating_L2 (fun x2 u_2 => some (x2, u_2)) (fun u_3 => some (nI 0, u_3))) f = self
      unfold m_X10_weeksToLastSeating_L2
      rw [if_neg c1, q_jn, h5, if_neg c2, h0, nI_add, q_rem_n (by omega) (by omega) he, Option.bind_some, hz, if_pos (by decide)]
    · obtain ⟨R, R1, R2, R3⟩ := last_it h0 h5 he he2 hW n f (by omega) (by omega)
      refine ⟨R, by omega, fun m m1 m2 => ?_, ?_⟩
      · by_cases e1 : m = n + 1
        · rw [e1]; exact hz
        · exact R2 m m1 (by omega)
      · rw [← R3]
        show m_X10_weeksToLastSeating_L2 _ _ (q_it1 _ f) _ _ = _
        generalize q_it1 (m_X10_weeksToLastSeating_L2 (fun x2 u_2 => some (x2, u_2)) (fun u_3 => some (nI 0, u_3))) f = self
        unfold m_X10_weeksToLastSeating_L2
        have c3 : ¬ (nI ((W + (n + 1)) % e)).toInt = 0 := by rw [nI_t (by omega)]; omega
        rw [if_neg c1, q_jn, h5, if_neg c2, h0, nI_add, q_rem_n (by omega) (by omega) he, Option.bind_some, if_neg c3]
        show self (nI (n + 1) + mI) x = _
        rw [dn]
theorem TH.mix {x0 y0 x y x2 y2 : qS} (h : TH x0 y0 x y) (h' : TH x0 y0 x2 y2) : TH x0 y0 x y2 := ⟨h.1, h.2.1, h'.2.2.1, h'.2.2.2.1, h'.2.2.2.2.1, h'.2.2.2.2.2⟩
section
variable {x0 y0 : qS} {t H R N P : Nat}
theorem sw0_it (hR : Rel x0 y0) (ht : t < 14) (hH : y0.1 164 (62 + t) = nI H) (hH9 : H ≤ 99) (hP : y0.1 163 6 = nI P) (hP5 : P ≤ 5) (hN : N ≤ 20) (hns : ∀ m, 0 < m → m ≤ N → ¬ (q_rm (y0.1 164 0 + nI m) (y0.1 163 11 + nI 4)).toInt = 0) : ∀ (n i f : Nat) (x y : qS), i + n = H + 1 → n < f → TH x0 y0 x y →
    ∃ y2, (∀ K : Int32 → qS → qR, q_it2 (m_X11_swings_L55 (nI t) (nI N) (nI H) (enc (stro (y0.1 164) P)) K) f mI (nI i) y = K mI y2) ∧ TH x0 y0 x y2
  | n, i, 0, x, y, hi, hf, h => by omega
  | 0, i, f + 1, x, y, hi, hf, h => by
    have c1 : (nI H).toInt < (nI i).toInt := by rw [nI_t (by omega), nI_t (by omega)]; omega
    refine ⟨y, fun K => ?_, h⟩
    show m_X11_swings_L55 _ _ _ _ _ _ _ _ _ = _
    unfold m_X11_swings_L55
    rw [if_pos c1]
  | n + 1, i, f + 1, x, y, hi, hf, h => by
    have c1 : ¬ (nI H).toInt < (nI i).toInt := by rw [nI_t (by omega), nI_t (by omega)]; omega
    obtain ⟨r, x2, y2, b1, b2, t2, hr⟩ := behind_s (d := i) (R := 0) (N := N) hR h ht hH hH9 (by omega) hP hP5 (by omega) hN hns
    have hr := hr rfl
    subst hr
    obtain ⟨y3, d1, t3⟩ := sw0_it hR ht hH hH9 hP hP5 hN hns n (i + 1) f x y2 (by omega) (by omega) (h.mix t2)
    refine ⟨y3, fun K => ?_, t3⟩
    rw [← d1 K]
    show m_X11_swings_L55 _ _ _ _ _ (q_it2 (m_X11_swings_L55 (nI t) (nI N) (nI H) (enc (stro (y0.1 164) P)) K) f) _ _ _ = _
    generalize q_it2 (m_X11_swings_L55 (nI t) (nI N) (nI H) (enc (stro (y0.1 164) P)) K) f = self
    unfold m_X11_swings_L55
    simp only [lit_n, mI_lit]
    rw [if_neg c1, if_pos trivial, b2, q_bd_s', q_jn, if_pos rfl, nI_add]
theorem sw_it {r0 : Int32} (hR : Rel x0 y0) (ht : t < 14) (hH : y0.1 164 (62 + t) = nI H) (hH9 : H ≤ 99) (hP : y0.1 163 6 = nI P) (hP5 : P ≤ 5) (hRN : R ≤ N) (hN : N ≤ 20) (hns : ∀ m, R < m → m ≤ N → ¬ (q_rm (y0.1 164 0 + nI m) (y0.1 163 11 + nI 4)).toInt = 0) : ∀ (n i f1 f2 : Nat) (x y : qS), i + n = H + 1 → n < f1 → n + 1 < f2 → TH x0 y0 x y →
    ∃ r x2 y2, q_it1 (m_X10_swings_L47 (nI t) (nI R) r0 (fun x5 u_9 => some (x5, u_9)) (fun u_10 => some (mI, u_10))) f1 (nI i) x = some (r, x2) ∧ (∀ K : Int32 → qS → qR, q_it2 (m_X11_swings_L55 (nI t) (nI N) (nI H) r0 K) f2 mI (nI i) y = K r y2) ∧ TH x0 y0 x2 y2
  | n, i, 0, f2, x, y, hi, hf, hf2, h => by omega
  | n, i, f1, 0, x, y, hi, hf, hf2, h => by omega
  | 0, i, f1 + 1, f2 + 1, x, y, hi, hf, hf2, h => by
    have c1 : (nI H).toInt < (nI i).toInt := by rw [nI_t (by omega), nI_t (by omega)]; omega
    have xh : q_ald x 9 14 (nI t) = some (nI H) := by rw [ald_n (by omega) (by omega), h.1 9 (by omega) (by omega) (by omega)]; exact congrArg some ((hR.C.hang ht).trans hH)
    refine ⟨mI, x, y, ?_, fun K => ?_, h⟩
    · show m_X10_swings_L47 _ _ _ _ _ _ _ _ = _
      unfold m_X10_swings_L47
      rw [xh, Option.bind_some, if_pos c1]
    · show m_X11_swings_L55 _ _ _ _ _ _ _ _ _ = _
      unfold m_X11_swings_L55
      rw [if_pos c1]
  | n + 1, i, f1 + 1, f2 + 1, x, y, hi, hf, hf2, h => by
    have c1 : ¬ (nI H).toInt < (nI i).toInt := by rw [nI_t (by omega), nI_t (by omega)]; omega
    have xh : q_ald x 9 14 (nI t) = some (nI H) := by rw [ald_n (by omega) (by omega), h.1 9 (by omega) (by omega) (by omega)]; exact congrArg some ((hR.C.hang ht).trans hH)
    obtain ⟨r, x2, y2, b1, b2, t2, -⟩ := behind_s (d := i) (R := R) (N := N) hR h ht hH hH9 (by omega) hP hP5 hRN hN hns
    by_cases hr : r.toInt = r0.toInt
    · obtain ⟨r2, x3, y3, d1, d2, t3⟩ := sw_it (r0 := r0) hR ht hH hH9 hP hP5 hRN hN hns n (i + 1) f1 f2 x2 y2 (by omega) (by omega) (by omega) t2
      refine ⟨r2, x3, y3, ?_, fun K => ?_, t3⟩
      · rw [← d1]
        show m_X10_swings_L47 _ _ _ _ _ (q_it1 _ f1) _ _ = _
        generalize q_it1 (m_X10_swings_L47 (nI t) (nI R) r0 (fun x5 u_9 => some (x5, u_9)) (fun u_10 => some (mI, u_10))) f1 = self
        unfold m_X10_swings_L47
        rw [xh, Option.bind_some, if_neg c1, b1, q_bd_s', if_pos hr, lit_n, nI_add]
      · rw [← d2 K]
        show m_X11_swings_L55 _ _ _ _ _ (q_it2 (m_X11_swings_L55 (nI t) (nI N) (nI H) r0 K) f2) _ _ _ = _
        generalize q_it2 (m_X11_swings_L55 (nI t) (nI N) (nI H) r0 K) f2 = self
        unfold m_X11_swings_L55
        simp only [lit_n, mI_lit]
        rw [if_neg c1, if_pos trivial, b2, q_bd_s', q_jn, if_pos hr, nI_add]
    · refine ⟨nI i, x2, y2, ?_, fun K => ?_, t2⟩
      · show m_X10_swings_L47 _ _ _ _ _ (q_it1 _ f1) _ _ = _
        generalize q_it1 (m_X10_swings_L47 (nI t) (nI R) r0 (fun x5 u_9 => some (x5, u_9)) (fun u_10 => some (mI, u_10))) f1 = self
        unfold m_X10_swings_L47
        rw [xh, Option.bind_some, if_neg c1, b1, q_bd_s', if_neg hr]
      · have fin : ∀ f3, q_it2 (m_X11_swings_L55 (nI t) (nI N) (nI H) r0 K) (f3 + 1) (nI i) (nI (i + 1)) y2 = K (nI i) y2 := fun f3 => by
          show m_X11_swings_L55 _ _ _ _ _ _ _ _ _ = _
          unfold m_X11_swings_L55
          by_cases e : (nI H).toInt < (nI (i + 1)).toInt
          · rw [if_pos e]
          · have ne : ¬ (nI i).toInt = (mI).toInt := by rw [nI_t (by omega), show mI.toInt = -1 from rfl]; omega
            rw [if_neg e]
            exact if_neg ne
        obtain ⟨f3, hf3⟩ : ∃ f3, f2 = f3 + 1 := ⟨f2 - 1, by omega⟩
        rw [← fin f3, ← hf3]
        show m_X11_swings_L55 _ _ _ _ _ (q_it2 (m_X11_swings_L55 (nI t) (nI N) (nI H) r0 K) f2) _ _ _ = _
        generalize q_it2 (m_X11_swings_L55 (nI t) (nI N) (nI H) r0 K) f2 = self
        unfold m_X11_swings_L55
        simp only [lit_n, mI_lit]
        rw [if_neg c1, if_pos trivial, b2, q_bd_s', q_jn, if_neg hr, nI_add]
end
theorem sim_swings (a b : Int32) : SIM (m_X10_swings a b) (m_X11_swings a b) := fun x y h => by
  obtain ⟨P, hP1, hP, hP2⟩ := h.G.P
  obtain ⟨T, hT1, hT, hT2⟩ := h.B.trees
  have hx8 : x.1 2 8 = nI T := by rw [h.C.trees, hT]
  have p63 : (q_up y 163 0 (nI 0)).1 163 6 = nI P := hP
  have h' := h.told (v := nI 0)
  unfold m_X10_swings m_X11_swings
  simp only [lit_n, mI_lit]
  rcases tree_b (k := 2) (y := q_up y 163 0 (nI 0)) a hx8 hT hT1 with ⟨t, t1, t2, w1, w2⟩ | ⟨w1, w2⟩
  · subst t2
    rcases within_b b 1 20 (by omega) (by omega) with ⟨n, n0, n1, n2, u1, u2⟩ | ⟨u1, u2⟩
    · subst n2
      obtain ⟨H, hH9, hH, -⟩ := h.B.hang (t := t) (by omega)
      have a6 : q_ald (q_up y 163 0 (nI 0)) 164 136 (nI (62 + t)) = some (nI H) := by rw [ald_n (by omega) (by omega)]; exact congrArg some hH
      obtain ⟨W, W1, W2, W3⟩ := h.B.week
      have hx0 : x.1 2 0 = nI W := by rw [h.C.week, W2]
      have g11 := h.G.2.2.2.2.2
      have t4 : (nI 4).toInt = 4 := rfl
      have ct : (y.1 163 11 + nI 4).toInt = (y.1 163 11).toInt + 4 := by rw [i32_add] <;> rw [t4] <;> omega
      obtain ⟨e, e9, e1, e2⟩ := nI_ex (x := y.1 163 11 + nI 4) (b := 9999) (by omega) (by omega) (by omega)
      have hx5 : x.1 2 5 = nI e := by rw [h.C.every, e1]
      obtain ⟨R, R1, R2, R3⟩ := last_it hx0 hx5 (by omega) (by omega) W1 n q_F n1 (by rw [q_F_eq]; omega)
      have hns : ∀ m, R < m → m ≤ n → ¬ (q_rm ((q_up y 163 0 (nI 0)).1 164 0 + nI m) ((q_up y 163 0 (nI 0)).1 163 11 + nI 4)).toInt = 0 := fun m m1 m2 => by
        have md : (W + m) % e < e := Nat.mod_lt _ (by omega)
        rw [show (q_up y 163 0 (nI 0)).1 164 0 = nI W from W2, show (q_up y 163 0 (nI 0)).1 163 11 + nI 4 = nI e from e1, nI_add, q_rm_n (by omega) (by omega) (by omega), nI_t (by omega)]
        have := R2 m m1 m2
        omega
      have wl : m_X10_weeksToLastSeating (nI n) x = some (nI R, x) := by
        unfold m_X10_weeksToLastSeating
        simp only [lit_n]
        exact R3
      obtain ⟨y1, f1, t1', r1, -, -, -⟩ := thinks_s (x := x) (y := q_up y 163 0 (nI 0))
      obtain ⟨r0, x2, y2, b1, b2, t2, hr0⟩ := behind_s (d := 0) (R := R) (N := n) h' t1' (show t < 14 by omega) (show (q_up y 163 0 (nI 0)).1 164 (62 + t) = nI H from hH) hH9 (by omega) p63 hP1 R1 n1 hns
      by_cases hR0 : R = 0
      · subst hR0
        have hr0 := hr0 rfl
        subst hr0
        obtain ⟨y3, d1, t3⟩ := sw0_it h' (show t < 14 by omega) (show (q_up y 163 0 (nI 0)).1 164 (62 + t) = nI H from hH) hH9 p63 hP1 n1 hns H 1 q_F x y2 (by omega) (by rw [q_F_eq]; omega) (t1'.mix t2)
        obtain ⟨y4, e4, R4⟩ := t3.ends h'
        refine ⟨mI, x, y4, ?_, ?_, R4⟩
        · rw [w1, q_bd_s', if_neg (by decide), u1, q_bd_s', if_neg (by decide), wl, q_bd_s', if_pos (by decide)]
        · rw [q_let_s, w2, q_bd_s', if_neg (by decide), u2, q_bd_s', if_neg (by decide), nI_add, a6, Option.bind_some, f1, q_bd_s', b2, q_bd_s', d1, e4, q_bd_s']
      · obtain ⟨r, x3, y3, d1, d2, t3⟩ := sw_it (r0 := r0) h' (show t < 14 by omega) (show (q_up y 163 0 (nI 0)).1 164 (62 + t) = nI H from hH) hH9 p63 hP1 R1 n1 hns H 1 q_F q_F x2 y2 (by omega) (by rw [q_F_eq]; omega) (by rw [q_F_eq]; omega) t2
        obtain ⟨y4, e4, R4⟩ := t3.ends h'
        have cR : ¬ (nI R).toInt = 0 := by rw [nI_t (by omega)]; omega
        refine ⟨r, x3, y4, ?_, ?_, R4⟩
        · rw [w1, q_bd_s', if_neg (by decide), u1, q_bd_s', if_neg (by decide), wl, q_bd_s', if_neg cR, b1, q_bd_s', d1]
        · rw [q_let_s, w2, q_bd_s', if_neg (by decide), u2, q_bd_s', if_neg (by decide), nI_add, a6, Option.bind_some, f1, q_bd_s', b2, q_bd_s', d2, e4, q_bd_s']
    · refine ⟨mI, x, q_up y 163 0 (nI 0), ?_, ?_, h.told⟩
      · rw [w1, q_bd_s', if_neg (by decide), u1, q_bd_s', if_pos (by decide)]
      · rw [q_let_s, w2, q_bd_s', if_neg (by decide), u2, q_bd_s', if_pos (by decide)]
  · refine ⟨mI, x, q_up y 163 0 (nI 0), ?_, ?_, h.told⟩
    · rw [w1, q_bd_s', if_pos (by decide)]
    · rw [q_let_s, w2, q_bd_s', if_pos (by decide)]
