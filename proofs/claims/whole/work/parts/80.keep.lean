/-! LAYER 2: THE CALLS, 7: what is kept -/
theorem q_cp_g {f g : Nat → Int32} {n s : Nat} : q_cp f g n s = if s < n then f s else g s := by
  unfold q_cp va_cpy
  by_cases h : s < n
  · rw [if_pos h, if_pos ⟨by omega, by omega⟩, Nat.sub_zero, Nat.zero_add]
  · rw [if_neg h, if_neg (by omega)]
def CPI (u0 u : qS) (k k1 m : Nat) : Prop := (∀ d, (d < k ∨ k + m ≤ d) → u.1 d = u0.1 d) ∧ (∀ o s, o < m → s < szo (o + 1) → u.1 (k + o) s = u0.1 (k1 + o) s) ∧ u.2 = u0.2
theorem cp_s {u0 u : qS} {k k1 m n : Nat} (h : CPI u0 u k k1 m) (hn : szo (m + 1) = n) (hd : k + 10 ≤ k1 ∨ k1 + 10 ≤ k) (hm : m < 10) : CPI u0 (q_st u (k + m) (q_cp (u.1 (k1 + m)) (u.1 (k + m)) n)) k k1 (m + 1) := by
  obtain ⟨h1, h2, h3⟩ := h
  refine ⟨fun d hd' => ?_, fun o s ho hs => ?_, h3⟩
  · rw [q_st_g, if_neg (by omega)]; exact h1 d (by omega)
  · rw [q_st_g]
    by_cases e : o = m
    · subst e
      rw [if_pos rfl, q_cp_g, if_pos (by omega), h1 (k1 + o) (by omega)]
    · rw [if_neg (by omega)]; exact h2 o s (by omega) hs
theorem copy_c {u : qS} {k k1 : Nat} (hd : k + 10 ≤ k1 ∨ k1 + 10 ≤ k) : ∃ u2, m_X0_copyFrom k k1 u = some (nI 0, u2) ∧ CPI u u2 k k1 10 := by
  unfold m_X0_copyFrom
  simp only [lit_n, q_let]
  have base : CPI u (q_up (q_up (q_up (q_up (q_up (q_up (q_up (q_up (q_up (q_up (q_up u k 0 (u.1 k1 0)) k 1 (u.1 k1 1)) k 2 (u.1 k1 2)) k 3 (u.1 k1 3)) k 4 (u.1 k1 4)) k 5 (u.1 k1 5)) k 6 (u.1 k1 6)) k 7 (u.1 k1 7)) k 8 (u.1 k1 8)) k 9 (u.1 k1 9)) k 10 (u.1 k1 10)) k k1 1 := by
    refine ⟨fun d hd' => ?_, fun o s ho hs => ?_, rfl⟩
    · simp only [q_up_1, if_neg (show ¬ d = k by omega)]
    · have e : o = 0 := by omega
      subst e
      have hs' : s < 11 := hs
      rw [Nat.add_zero, Nat.add_zero]
      simp only [q_up_1, if_true, upd_g]
      have : s = 0 ∨ s = 1 ∨ s = 2 ∨ s = 3 ∨ s = 4 ∨ s = 5 ∨ s = 6 ∨ s = 7 ∨ s = 8 ∨ s = 9 ∨ s = 10 := by omega
      rcases this with rfl | rfl | rfl | rfl | rfl | rfl | rfl | rfl | rfl | rfl | rfl <;> rfl
  have hk : ∀ d, (q_up u k d (u.1 k1 d)).1 k1 = u.1 k1 := fun d => by rw [q_up_1, if_neg (by omega)]
  have e : ∀ (w : qS) (j : Nat) (v : Int32), (q_up w k j v).1 k1 = w.1 k1 := fun w j v => by rw [q_up_1, if_neg (by omega)]
  simp only [e]
  have c1 := cp_s base (n := 5) rfl hd (by omega)
  have c2 := cp_s c1 (n := 5) rfl hd (by omega)
  have c3 := cp_s c2 (n := 5) rfl hd (by omega)
  have c4 := cp_s c3 (n := 14) rfl hd (by omega)
  have c5 := cp_s c4 (n := 14) rfl hd (by omega)
  have c6 := cp_s c5 (n := 14) rfl hd (by omega)
  have c7 := cp_s c6 (n := 14) rfl hd (by omega)
  have c8 := cp_s c7 (n := 10) rfl hd (by omega)
  have c9 := cp_s c8 (n := 50) rfl hd (by omega)
  exact ⟨_, rfl, c9⟩
theorem CPI.rc {u u2 : qS} {k k1 : Nat} {f g : Nat → Int32} (h : CPI u u2 k k1 10) (hR : RC k1 u.1 f g) : RC k u2.1 f g := hR.mv (fun o s ho hs => h.2.1 o s ho hs) (fun _ _ => rfl) (fun _ _ => rfl)
/-! the reference's rows -/
theorem shift_it {K : qS → qR} {y : qS} (h3 : y.1 163 3 = nI 5) : ∀ (n i f : Nat) (r : Nat → Int32), i + n = 680 → n < f → q_it1 (m_X11_keepsAhead_L21 K) f (nI i) (q_st y 165 (fun j => if j < i then r (j + 136) else r j)) = K (q_st y 165 (fun j => if j < 680 then r (j + 136) else r j))
  | n, i, 0, r, hi, hf => by omega
  | 0, i, f + 1, r, hi, hf => by
    have : i = 680 := by omega
    subst this
    show m_X11_keepsAhead_L21 _ _ _ _ = _
    unfold m_X11_keepsAhead_L21
    have e3 : ∀ s, (q_st y 165 s).1 163 3 = nI 5 := fun s => h3
    rw [lit_n, e3, pk_mul, if_pos (by decide)]
  | n + 1, i, f + 1, r, hi, hf => by
    have ih := shift_it (K := K) h3 n (i + 1) f r (by omega) (by omega)
    rw [← ih]
    show m_X11_keepsAhead_L21 _ (q_it1 (m_X11_keepsAhead_L21 K) f) _ _ = _
    generalize q_it1 (m_X11_keepsAhead_L21 K) f = self
    unfold m_X11_keepsAhead_L21
    have e3 : ∀ s, (q_st y 165 s).1 163 3 = nI 5 := fun s => h3
    have c1 : ¬ (nI (136 * 5)).toInt ≤ (nI i).toInt := by rw [nI_t (by omega), nI_t (by omega)]; omega
    have a1 : q_ald (q_st y 165 (fun j => if j < i then r (j + 136) else r j)) 165 816 (nI (i + 136)) = some (r (i + 136)) := by rw [ald_n (by omega) (by omega), q_st_g, if_pos rfl, if_neg (by omega)]
    have b1 : q_ast (q_st y 165 (fun j => if j < i then r (j + 136) else r j)) 165 816 (nI i) (r (i + 136)) = some (q_st y 165 (fun j => if j < i + 1 then r (j + 136) else r j)) := by
      rw [q_ast_ok (by omega) (by omega), q_st_st, q_st_g, if_pos rfl]
      congr 2
      funext j
      rw [upd_g]
      by_cases h : j = i
      · rw [if_pos h, if_pos (by omega), h]
      · rw [if_neg h]
        by_cases h2 : j < i
        · rw [if_pos h2, if_pos (by omega)]
        · rw [if_neg h2, if_neg (by omega)]
    simp only [lit_n, e3, pk_mul, nI_add, if_neg c1, a1, Option.bind_some, b1]
theorem put_it {K : qS → qR} {y : qS} {m : Nat} (hm : m ≤ 5) (h3 : y.1 163 3 = nI m) : ∀ (n i f : Nat) (r : Nat → Int32), i + n = 136 → n < f → q_it1 (m_X11_keepsAhead_L57 K) f (nI i) (q_st y 165 (fun j => if 136 * m ≤ j ∧ j < 136 * m + i then y.1 164 (j - 136 * m) else r j)) = K (q_st y 165 (fun j => if 136 * m ≤ j ∧ j < 136 * m + 136 then y.1 164 (j - 136 * m) else r j))
  | n, i, 0, r, hi, hf => by omega
  | 0, i, f + 1, r, hi, hf => by
    have : i = 136 := by omega
    subst this
    show m_X11_keepsAhead_L57 _ _ _ _ = _
    unfold m_X11_keepsAhead_L57
    rw [lit_n, if_pos (by omega)]
  | n + 1, i, f + 1, r, hi, hf => by
    have ih := put_it (K := K) hm h3 n (i + 1) f r (by omega) (by omega)
    rw [← ih]
    show m_X11_keepsAhead_L57 _ (q_it1 (m_X11_keepsAhead_L57 K) f) _ _ = _
    generalize q_it1 (m_X11_keepsAhead_L57 K) f = self
    unfold m_X11_keepsAhead_L57
    have e3 : ∀ s, (q_st y 165 s).1 163 3 = nI m := fun s => h3
    have c1 : ¬ (nI 136).toInt ≤ (nI i).toInt := by rw [nI_t (by omega), nI_t (by omega)]; omega
    have a1 : ∀ s, q_ald (q_st y 165 s) 164 136 (nI i) = some (y.1 164 i) := fun s => ald_n (by omega) (by omega)
    have b1 : q_ast (q_st y 165 (fun j => if 136 * m ≤ j ∧ j < 136 * m + i then y.1 164 (j - 136 * m) else r j)) 165 816 (nI (136 * m + i)) (y.1 164 i) = some (q_st y 165 (fun j => if 136 * m ≤ j ∧ j < 136 * m + (i + 1) then y.1 164 (j - 136 * m) else r j)) := by
      rw [q_ast_ok (by omega) (by omega), q_st_st, q_st_g, if_pos rfl]
      congr 2
      funext j
      rw [upd_g]
      by_cases h : j = 136 * m + i
      · rw [if_pos h, if_pos (by omega), h, Nat.add_sub_cancel_left]
      · rw [if_neg h]
        by_cases h2 : 136 * m ≤ j ∧ j < 136 * m + i
        · rw [if_pos h2, if_pos (by omega)]
        · rw [if_neg h2, if_neg (by omega)]
    simp only [lit_n, e3, pk_mul, nI_add, if_neg c1, a1, Option.bind_some, b1]
/-- what keeping changes -/
def KF (x y x2 y2 : qS) : Prop := (∀ c, c ≠ 0 → c < 103 → x2.1 c = x.1 c) ∧ (∀ j, j ≠ 5 → j ≠ 6 → x2.1 0 j = x.1 0 j) ∧ (∀ c, c ≠ 163 → c ≠ 165 → y2.1 c = y.1 c) ∧ (∀ j, j ≠ 3 → y2.1 163 j = y.1 163 j)
theorem Rel.kf {x y x2 y2 : qS} (h : Rel x y) (hF : KF x y x2 y2) (hK : KR x2 y2) : Rel x2 y2 := by
  obtain ⟨r1, r2, r3, r4, r5⟩ := h
  obtain ⟨f1, f2, f3, f4⟩ := hF
  refine ⟨?_, hK, ?_, ?_, ?_⟩
  · exact r1.mv (XP.of (fun c a1 a2 _ _ => f1 c (by omega) (by omega))) ⟨fun j _ => by rw [f3 164 (by omega) (by omega)], fun j hj => f4 j (by unfold gsl at hj; omega), fun i _ => by rw [f3 167 (by omega) (by omega)], by rw [f3 170 (by omega) (by omega)], fun c a1 a2 i _ => by rw [f3 c (by omega) (by omega)], fun c a1 a2 i _ => by rw [f3 c (by omega) (by omega)], fun j _ => by rw [f3 178 (by omega) (by omega)], fun j _ => by rw [f3 179 (by omega) (by omega)], fun j _ => by rw [f3 184 (by omega) (by omega)]⟩
  · exact r3.fr (by rw [f1 67 (by omega) (by omega)]) (f1 68 (by omega) (by omega)) (f1 66 (by omega) (by omega)) (f4 14 (by omega)) (f4 34 (by omega)) (f4 35 (by omega)) (f3 168 (by omega) (by omega))
  · exact r4.fr (by rw [f1 88 (by omega) (by omega)]) (by rw [f1 90 (by omega) (by omega)]) (f4 5 (by omega)) (f3 169 (by omega) (by omega))
  · exact r5.fr (f2 3 (by omega) (by omega)) (fun c a1 a2 _ _ => f1 c (by omega) (by omega)) (f4 53 (by omega)) (f3 187 (by omega) (by omega))
theorem keepsAhead_r {y : qS} {m : Nat} (hm : m ≤ 6) (h3 : y.1 163 3 = nI m) : ∃ y2, m_X11_keepsAhead y = some (nI 0, y2) ∧ y2.1 163 3 = nI (min 6 (m + 1)) ∧ (∀ c, c ≠ 163 → c ≠ 165 → y2.1 c = y.1 c) ∧ (∀ j, j ≠ 3 → y2.1 163 j = y.1 163 j) ∧
    ∀ i j, i < min 6 (m + 1) → j < 136 → y2.1 165 (136 * i + j) = (if i + 1 = min 6 (m + 1) then y.1 164 j else if m = 6 then y.1 165 (136 * (i + 1) + j) else y.1 165 (136 * i + j)) := by
  unfold m_X11_keepsAhead
  simp only [lit_n]
  rw [q_jn, h3]
  by_cases h6 : m = 6
  · subst h6
    rw [if_pos rfl, q_let_s, show nI 6 - nI 1 = nI 5 from nI_sub (by omega)]
    have e5 : (q_up y 163 3 (nI 5)).1 163 3 = nI 5 := rfl
    have sh := fun K => shift_it (K := K) (y := q_up y 163 3 (nI 5)) e5 680 0 q_F ((q_up y 163 3 (nI 5)).1 165) (by omega) (by rw [q_F_eq]; omega)
    simp only [Nat.not_lt_zero, if_false] at sh
    have self165 : q_st (q_up y 163 3 (nI 5)) 165 (fun j => (q_up y 163 3 (nI 5)).1 165 j) = q_up y 163 3 (nI 5) := q_st_self rfl
    rw [self165] at sh
    rw [sh]
    let y1 := q_st (q_up y 163 3 (nI 5)) 165 (fun j => if j < 680 then (q_up y 163 3 (nI 5)).1 165 (j + 136) else (q_up y 163 3 (nI 5)).1 165 j)
    have e5' : y1.1 163 3 = nI 5 := rfl
    have pu := fun K => put_it (K := K) (y := y1) (m := 5) (by omega) e5' 136 0 q_F (y1.1 165) (by omega) (by rw [q_F_eq]; omega)
    have f0 : (fun j => if 136 * 5 ≤ j ∧ j < 136 * 5 + 0 then y1.1 164 (j - 136 * 5) else y1.1 165 j) = y1.1 165 := funext fun j => if_neg (by omega)
    rw [f0, q_st_self rfl] at pu
    rw [show (fun u_7 => (fun u_1 => q_it1 (m_X11_keepsAhead_L57 fun u_3 => q_let (q_up u_3 163 3 (u_3.1 163 3 + nI 1)) fun u_4 => some (nI 0, u_4)) q_F (nI 0) u_1) u_7) y1 = q_it1 (m_X11_keepsAhead_L57 fun u_3 => q_let (q_up u_3 163 3 (u_3.1 163 3 + nI 1)) fun u_4 => some (nI 0, u_4)) q_F (nI 0) y1 from rfl, pu, q_let_s]
    refine ⟨_, rfl, ?_, fun c h1 h2 => ?_, fun j hj => ?_, fun i j hi hj => ?_⟩
    · rw [q_up_1, if_pos rfl, upd_g, if_pos rfl]; rfl
    · rw [q_up_1, if_neg h1, q_st_g, if_neg h2]
      show (q_st (q_up y 163 3 (nI 5)) 165 _).1 c = _
      rw [q_st_g, if_neg h2, q_up_1, if_neg h1]
    · rw [q_up_1, if_pos rfl, upd_g, if_neg hj]
      show upd (y.1 163) 3 (nI 5) j = _
      rw [upd_g, if_neg hj]
    · rw [q_up_1, if_neg (by omega), q_st_g, if_pos rfl]
      by_cases hi5 : i + 1 = min 6 (6 + 1)
      · rw [if_pos (by omega), if_pos hi5, show 136 * i + j - 136 * 5 = j by omega]; rfl
      · rw [if_neg (by omega), if_neg hi5, if_pos rfl]
        show (if 136 * i + j < 680 then y.1 165 (136 * i + j + 136) else y.1 165 (136 * i + j)) = _
        rw [if_pos (by omega), show 136 * i + j + 136 = 136 * (i + 1) + j by omega]
  · rw [if_neg (by rw [nI_t (by omega), nI_t (by omega)]; omega)]
    have pu := fun K => put_it (K := K) (y := y) (m := m) (by omega) h3 136 0 q_F (y.1 165) (by omega) (by rw [q_F_eq]; omega)
    have f0 : (fun j => if 136 * m ≤ j ∧ j < 136 * m + 0 then y.1 164 (j - 136 * m) else y.1 165 j) = y.1 165 := funext fun j => if_neg (by omega)
    rw [f0, q_st_self rfl] at pu
    dsimp only
    rw [pu, q_let_s]
    have hmin : min 6 (m + 1) = m + 1 := by omega
    rw [hmin]
    refine ⟨_, rfl, ?_, fun c h1 h2 => ?_, fun j hj => ?_, fun i j hi hj => ?_⟩
    · rw [q_up_1, if_pos rfl, upd_g, if_pos rfl, q_st_g, if_neg (by omega), h3, nI_add]
    · rw [q_up_1, if_neg h1, q_st_g, if_neg h2]
    · rw [q_up_1, if_pos rfl, upd_g, if_neg hj, q_st_g, if_neg (by omega)]
    · rw [q_up_1, if_neg (by omega), q_st_g, if_pos rfl]
      by_cases hi5 : i + 1 = m + 1
      · have : i = m := by omega
        subst this
        rw [if_pos (by omega), if_pos rfl, show 136 * i + j - 136 * i = j by omega]
      · rw [if_neg (by omega), if_neg hi5, if_neg h6]
theorem keep_s {x y : qS} (h : Rel x y) : ∃ x2 y2, m_X10_keep x = some (nI 0, x2) ∧ m_X11_keepsAhead y = some (nI 0, y2) ∧ Rel x2 y2 ∧ KF x y x2 y2 := by
  obtain ⟨m, q, m6, q6, k1, k2, k3, k4⟩ := h.2.1
  obtain ⟨y2, e2, g1, g2, g3, g4⟩ := keepsAhead_r m6 k2
  obtain ⟨x1, c1, c2⟩ := copy_c (u := x) (k := q_kp q) (k1 := 2) (by unfold q_kp; omega)
  have ix : q_ix 6 (nI q) = some q := by unfold q_ix; rw [nI_t (by omega), if_pos (by omega)]; rfl
  have hx0 : x1.1 0 = x.1 0 := c2.1 0 (by unfold q_kp; omega)
  let x2 := q_up (q_up x1 0 6 (nI ((q + 1) % 6))) 0 5 (nI (min 6 (m + 1)))
  have hk : m_X10_keep x = some (nI 0, x2) := by
    unfold m_X10_keep
    have e5 : ∀ v, (q_up x1 0 6 v).1 0 5 = nI m := fun v => by rw [q_up_1, if_pos rfl, upd_g, if_neg (by omega), hx0, k1]
    have mn : q_min (nI 6) (nI (m + 1)) = nI (min 6 (m + 1)) := q_min_n (by omega) (by omega)
    simp only [lit_n, k3, ix, Option.bind_some, c1, q_bd_some, hx0, q_jn, q_let, e5, nI_add, mn]
    by_cases hq : q = 5
    · rw [if_pos (by rw [nI_t (by omega), nI_t (by omega)]; omega), show nI 0 = nI ((q + 1) % 6) by rw [hq]]
    · rw [if_neg (by rw [nI_t (by omega), nI_t (by omega)]; omega), show (q + 1) = (q + 1) % 6 by omega]
  have hF : KF x y x2 y2 := by
    refine ⟨fun c h1 h2 => ?_, fun j h1 h2 => ?_, g2, g3⟩
    · show (q_up (q_up x1 0 6 _) 0 5 _).1 c = _
      rw [q_up_1, if_neg h1, q_up_1, if_neg h1]; exact c2.1 c (by unfold q_kp; omega)
    · show (q_up (q_up x1 0 6 _) 0 5 _).1 0 j = _
      rw [q_up_1, if_pos rfl, upd_g, if_neg h1, q_up_1, if_pos rfl, upd_g, if_neg h2, hx0]
  have hg : ∀ j, j = 6 ∨ j = 7 ∨ j = 8 ∨ j = 9 ∨ j = 10 ∨ j = 11 → y2.1 163 j = y.1 163 j := fun j hj => g3 j (by omega)
  have hx2 : ∀ c, c ≠ 0 → x2.1 c = x1.1 c := fun c h1 => by
    show (q_up (q_up x1 0 6 _) 0 5 _).1 c = _
    rw [q_up_1, if_neg h1, q_up_1, if_neg h1]
  refine ⟨x2, y2, hk, e2, h.kf hF ⟨min 6 (m + 1), (q + 1) % 6, by omega, Nat.mod_lt _ (by omega), ?_, g1, ?_, fun i hi => ?_⟩, hF⟩
  · show (q_up (q_up x1 0 6 _) 0 5 _).1 0 5 = _
    rw [q_up_1, if_pos rfl, upd_g, if_pos rfl]
  · show (q_up (q_up x1 0 6 _) 0 5 _).1 0 6 = _
    rw [q_up_1, if_pos rfl, upd_g, if_neg (by omega), q_up_1, if_pos rfl, upd_g, if_pos rfl]
  · by_cases hl : i + 1 = min 6 (m + 1)
    · have hidx : ((q + 1) % 6 + 6 - min 6 (m + 1) + i) % 6 = q := by omega
      have row : ∀ j, j < 136 → (fun j => y2.1 165 (136 * i + j)) j = y.1 164 j := fun j hj => by
        show y2.1 165 (136 * i + j) = _
        rw [g4 i j hi hj, if_pos hl]
      unfold KRi
      rw [hidx]
      refine ⟨?_, ?_, ?_⟩
      · have r := c2.rc h.C
        exact r.mv (fun o s ho hs => by rw [hx2 _ (by unfold q_kp; omega)]) row hg
      · exact (h.B.rw row).gr (hg 6 (by omega)) (hg 7 (by omega))
      · have := row 0 (by omega)
        rw [show 136 * i = 136 * i + 0 from rfl]
        rw [show y2.1 165 (136 * i + 0) = y.1 164 0 from this]; exact h.w
    · by_cases h6 : m = 6
      · subst h6
        obtain ⟨b1, b2, b3⟩ := k4 (i + 1) (by omega)
        have hidx : ((q + 1) % 6 + 6 - min 6 (6 + 1) + i) % 6 = (q + 6 - 6 + (i + 1)) % 6 := by omega
        have hne : (q + 6 - 6 + (i + 1)) % 6 ≠ q := by omega
        have hlt : (q + 6 - 6 + (i + 1)) % 6 < 6 := Nat.mod_lt _ (by omega)
        have row : ∀ j, j < 136 → (fun j => y2.1 165 (136 * i + j)) j = (fun j => y.1 165 (136 * (i + 1) + j)) j := fun j hj => by
          show y2.1 165 (136 * i + j) = y.1 165 (136 * (i + 1) + j)
          rw [g4 i j hi hj, if_neg hl, if_pos rfl]
        unfold KRi
        rw [hidx]
        refine ⟨b1.mv (fun o s ho hs => ?_) row hg, (b2.rw row).gr (hg 6 (by omega)) (hg 7 (by omega)), ?_⟩
        · rw [hx2 _ (by unfold q_kp; omega), c2.1 _ (by unfold q_kp; omega)]
        · have := row 0 (by omega)
          rw [show 136 * i = 136 * i + 0 from rfl]
          rw [show y2.1 165 (136 * i + 0) = y.1 165 (136 * (i + 1) + 0) from this]; exact b3
      · obtain ⟨b1, b2, b3⟩ := k4 i (by omega)
        have hidx : ((q + 1) % 6 + 6 - min 6 (m + 1) + i) % 6 = (q + 6 - m + i) % 6 := by omega
        have hne : (q + 6 - m + i) % 6 ≠ q := by omega
        have hlt : (q + 6 - m + i) % 6 < 6 := Nat.mod_lt _ (by omega)
        have row : ∀ j, j < 136 → (fun j => y2.1 165 (136 * i + j)) j = (fun j => y.1 165 (136 * i + j)) j := fun j hj => by
          show y2.1 165 (136 * i + j) = y.1 165 (136 * i + j)
          rw [g4 i j hi hj, if_neg hl, if_neg h6]
        unfold KRi
        rw [hidx]
        refine ⟨b1.mv (fun o s ho hs => ?_) row hg, (b2.rw row).gr (hg 6 (by omega)) (hg 7 (by omega)), ?_⟩
        · rw [hx2 _ (by unfold q_kp; omega), c2.1 _ (by unfold q_kp; omega)]
        · have := row 0 (by omega)
          rw [show 136 * i = 136 * i + 0 from rfl]
          rw [show y2.1 165 (136 * i + 0) = y.1 165 (136 * i + 0) from this]; exact b3
