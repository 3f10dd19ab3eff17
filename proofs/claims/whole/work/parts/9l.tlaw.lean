/-! LAYER 2: THE CALLS, 38: text, the law -/
def xB (x : qS) : qS := q_up (q_up (q_up (q_up (q_up x 66 7 (x.1 2 7)) 66 8 (x.1 2 9)) 66 0 (nI 0)) 66 1 mI) 66 6 (nI 0)
def yB (y : qS) : qS := q_up (q_up (q_up (q_up (q_up (q_up (q_up y 163 0 (nI 0)) 163 34 (nI 0)) 163 35 mI) 163 15 (nI 0)) 163 28 (nI 0)) 163 29 (nI 0)) 163 27 (nI 0)
theorem xB_o {x : qS} {c : Nat} (h : c ≠ 66) : (xB x).1 c = x.1 c := by
  unfold xB
  rw [q_up_1, if_neg h, q_up_1, if_neg h, q_up_1, if_neg h, q_up_1, if_neg h, q_up_1, if_neg h]
theorem yB_o {y : qS} {c : Nat} (h : c ≠ 163) : (yB y).1 c = y.1 c := by
  unfold yB
  rw [q_up_1, if_neg h, q_up_1, if_neg h, q_up_1, if_neg h, q_up_1, if_neg h, q_up_1, if_neg h, q_up_1, if_neg h, q_up_1, if_neg h]
theorem yB_j {y : qS} {j : Nat} (h : j ≠ 0) (h1 : j ≠ 34) (h2 : j ≠ 35) (h3 : j ≠ 15) (h4 : j ≠ 28) (h5 : j ≠ 29) (h6 : j ≠ 27) : (yB y).1 163 j = y.1 163 j := by
  unfold yB
  rw [up163 h6, up163 h5, up163 h4, up163 h3, up163 h2, up163 h1, up163 h]
theorem begin_t {x : qS} : m_X6_begin 66 (x.1 2 7) (x.1 2 9) x = some (nI 0, xB x) := by
  unfold m_X6_begin xB
  simp only [lit_n, mI_lit]
  rw [q_let_s, q_let_s, q_let_s, q_let_s, q_let_s]
/-- the class's and the reference's ends -/
def JX (a : Int32) (x2 : Int32) (u_2 : qS) : qR :=
  q_let (q_up u_2 67 1 (nI 0)) fun u_3 =>
  if x2.toInt = mI.toInt then some (x2, u_3)
  else if a.toInt = 0 then some (x2, u_3)
  else q_bd (m_X10_forget u_3) fun _ u_4 => some (x2, u_4)
def JY (a : Int32) (x2 : Int32) (u_8 : qS) : qR :=
  q_let (q_up u_8 163 14 (nI 0)) fun u_9 =>
  if x2.toInt = mI.toInt then some (mI, u_9)
  else if a.toInt = 0 then q_bd (m_X11_takesLaw x2 u_9) fun _ u_11 => some (x2, u_11)
  else q_bd (m_X11_takesOther a x2 u_9) fun _ u_10 => some (x2, u_10)
theorem ctx_s {x y : qS} (h : Rel x y) : ∃ (N : Nat) (z : Nat → Int), TP N z ∧ TC N z (xB x) ∧ TV N z (yB y) ∧ ∀ i, i < 129 → (yB y).1 169 i = nI (wCh i) := by
  obtain ⟨⟨n, n4, t1, t2, t3⟩, f1, f2⟩ := h.2.2.1
  refine ⟨n, fun p => if p < n then (x.1 68 p).toInt else -1, ⟨n4, fun p hp => ?_, fun p hp => ?_⟩, ⟨?_, fun p hp => ?_⟩, ⟨?_, fun p hp => ?_⟩, fun i hi => ?_⟩
  · obtain ⟨c, c1, c2, c3⟩ := t3 p hp
    show 0 ≤ (if p < n then (x.1 68 p).toInt else -1) ∧ (if p < n then (x.1 68 p).toInt else -1) < 256
    rw [if_pos hp, c2, nI_t (by omega)]; omega
  · show (if p < n then (x.1 68 p).toInt else -1) = -1
    rw [if_neg (by omega)]
  · rw [xB_o (by omega)]; exact t1
  · show ((xB x).1 68 p).toInt = (if p < n then (x.1 68 p).toInt else -1)
    rw [xB_o (by omega), if_pos hp]
  · rw [yB_j (by omega) (by omega) (by omega) (by omega) (by omega) (by omega) (by omega)]; exact t2
  · obtain ⟨c, c1, c2, c3⟩ := t3 p hp
    show ((yB y).1 168 p).toInt = (if p < n then (x.1 68 p).toInt else -1)
    rw [yB_o (by omega), if_pos hp, c2, c3]
  · rw [yB_o (by omega)]; exact h.2.2.2.1.2.2.2 i hi
theorem text_c {x : qS} {t : Nat} {r : Int32} {u : qS} (ht : t < 3) (h0 : t = 0 → m_X6_readLaw 66 12 (xB x) = some (r, u)) (h1 : t = 1 → m_X6_readPaths 66 19 (xB x) = some (r, u)) (h2 : t = 2 → m_X6_readPlan 66 23 (xB x) = some (r, u)) : m_X10_text (nI t) x = JX (nI t) r u := by
  unfold m_X10_text JX
  simp only [lit_n, mI_lit]
  rw [begin_t, q_bd_s', q_jn]
  have : t = 0 ∨ t = 1 ∨ t = 2 := by omega
  rcases this with rfl | rfl | rfl
  · rw [if_pos (show (nI 0).toInt = 0 by decide), h0 rfl, q_bd_s']
  · rw [if_neg (show ¬ (nI 1).toInt = 0 by decide), if_pos (show (nI 1).toInt = 1 by decide), h1 rfl, q_bd_s']
  · rw [if_neg (show ¬ (nI 2).toInt = 0 by decide), if_neg (show ¬ (nI 2).toInt = 1 by decide), if_pos (show (nI 2).toInt = 2 by decide), h2 rfl, q_bd_s']
theorem text_r {y v : qS} {t : Nat} {r : Int32} {v2 : qS} (ht : t < 3) (hr : m_X11_reads (yB y) = some (nI 0, v)) (h0 : t = 0 → m_X11_readLaw v = some (r, v2)) (h1 : t = 1 → m_X11_readPaths v = some (r, v2)) (h2 : t = 2 → m_X11_readPlan v = some (r, v2)) : m_X11_text (nI t) y = if r.toInt = mI.toInt then JY (nI t) r (q_up (q_up v2 163 34 (v2.1 163 32)) 163 35 (v2.1 163 33)) else JY (nI t) r v2 := by
  have hi := in_r (nI t) 0 2 (q_up (q_up (q_up (q_up (q_up (q_up y 163 0 (nI 0)) 163 34 (nI 0)) 163 35 mI) 163 15 (nI 0)) 163 28 (nI 0)) 163 29 (nI 0)) (by omega) (by omega)
  rw [nI_t (show t < _ by omega), decide_eq_true (by omega)] at hi
  have hrt : m_X11_readsText (nI t) (q_up (q_up (q_up (q_up (q_up (q_up y 163 0 (nI 0)) 163 34 (nI 0)) 163 35 mI) 163 15 (nI 0)) 163 28 (nI 0)) 163 29 (nI 0)) = some (r, v2) := by
    unfold m_X11_readsText
    simp only [lit_n]
    unfold yB at hr
    rw [q_let_s, hr, q_bd_s']
    have : t = 0 ∨ t = 1 ∨ t = 2 := by omega
    rcases this with rfl | rfl | rfl
    · rw [if_neg (by decide), if_neg (by decide), h0 rfl, q_bd_s']
    · rw [if_pos rfl, h1 rfl, q_bd_s']
    · rw [if_neg (by decide), if_pos rfl, h2 rfl, q_bd_s']
  unfold m_X11_text
  simp only [lit_n, mI_lit]
  rw [q_let_s, q_let_s, q_let_s, q_let_s, q_let_s, q_let_s, hi, q_bd_s', q_jn, if_neg bI_1, hrt, q_bd_s', q_let_s, q_let_s]
  rfl
/-- a text with a fault -/
theorem text_bad {x y u2 v2 : qS} {t w p : Nat} (h : Rel x y) (ht : t < 3) (hx : ∀ c, (c < 66 ∨ 88 ≤ c) → u2.1 c = x.1 c) (f0 : u2.1 66 0 = nI w) (f1 : u2.1 66 1 = nI p) (hv : GV (yB y) v2) (e0 : v2.1 163 32 = nI w) (e1 : v2.1 163 33 = nI p) : ∃ r x2 y2, JX (nI t) mI u2 = some (r, x2) ∧ JY (nI t) mI (q_up (q_up v2 163 34 (v2.1 163 32)) 163 35 (v2.1 163 33)) = some (r, y2) ∧ Rel x2 y2 := by
  refine ⟨mI, q_up u2 67 1 (nI 0), q_up (q_up (q_up v2 163 34 (v2.1 163 32)) 163 35 (v2.1 163 33)) 163 14 (nI 0), ?_, ?_, ?_⟩
  · unfold JX
    rw [q_let_s, if_pos rfl]
  · unfold JY
    rw [q_let_s, if_pos rfl]
  · have cx : ∀ c, c < 66 ∨ 88 ≤ c → (q_up u2 67 1 (nI 0)).1 c = x.1 c := fun c hc => by rw [q_up_1, if_neg (by omega)]; exact hx c hc
    have cy : ∀ c, c ≠ 163 → (q_up (q_up (q_up v2 163 34 (v2.1 163 32)) 163 35 (v2.1 163 33)) 163 14 (nI 0)).1 c = v2.1 c := fun c hc => by rw [q_up_1, if_neg hc, q_up_1, if_neg hc, q_up_1, if_neg hc]
    have gj : ∀ j, j = 3 ∨ j = 5 ∨ j = 6 ∨ j = 7 ∨ j = 8 ∨ j = 9 ∨ j = 10 ∨ j = 11 ∨ j = 36 ∨ j = 38 ∨ j = 48 ∨ j = 53 → (q_up (q_up (q_up v2 163 34 (v2.1 163 32)) 163 35 (v2.1 163 33)) 163 14 (nI 0)).1 163 j = y.1 163 j := fun j hj => by
      rw [up163 (by omega), up163 (by omega), up163 (by omega), hv.2.1 j (by omega) (by omega) (by omega) (by omega) (by omega) (by omega), yB_j (by omega) (by omega) (by omega) (by omega) (by omega) (by omega) (by omega)]
    have hW := h.1.mv (X2 := (q_up u2 67 1 (nI 0)).1) (Z2 := (q_up (q_up (q_up v2 163 34 (v2.1 163 32)) 163 35 (v2.1 163 33)) 163 14 (nI 0)).1) (XP.of (fun c a1 a2 _ _ => cx c (by omega))) ⟨fun j hj => by rw [cy 164 (by omega), hv.1 164 (by omega) (by omega), yB_o (by omega)], fun j hj => gj j (by unfold gsl at hj; omega), fun j hj => by rw [cy 167 (by omega), hv.1 167 (by omega) (by omega), yB_o (by omega)], by rw [cy 170 (by omega), hv.1 170 (by omega) (by omega), yB_o (by omega)], fun c a1 a2 j hj => by rw [cy c (by omega), hv.2.2.1 c j a1 (by omega) (by omega), yB_o (by omega)], fun c a1 a2 j hj => by rw [cy c (by omega), hv.2.2.2.1 c j a1 (by omega) (by omega), yB_o (by omega)], fun j hj => by rw [cy 178 (by omega), hv.2.2.2.2.1 j hj, yB_o (by omega)], fun j hj => by rw [cy 179 (by omega), hv.2.2.2.2.2.1 j hj, yB_o (by omega)], fun j hj => by rw [cy 184 (by omega), hv.1 184 (by omega) (by omega), yB_o (by omega)]⟩
    refine h.txt (fun c hc => cx c (by omega)) (by rw [cx 0 (by omega)]) (by rw [cx 0 (by omega)]) hW.2.2.2.2.1 hW.2.2.2.2.2.1 hW.2.2.2.2.2.2.1 (Or.inl ⟨by rw [cx 0 (by omega)], gj 3 (by omega)⟩) (fun c h1 h2 => by rw [cy c h1, hv.1 c h1 (by omega), yB_o h1]) (fun j hj => gj j (by omega)) rfl rfl ?_ ?_
    · have e2 : (q_up (q_up (q_up v2 163 34 (v2.1 163 32)) 163 35 (v2.1 163 33)) 163 14 (nI 0)).1 163 34 = nI w := e0
      rw [e2]; exact f0
    · have e2 : (q_up (q_up (q_up v2 163 34 (v2.1 163 32)) 163 35 (v2.1 163 33)) 163 14 (nI 0)).1 163 35 = nI p := e1
      rw [e2]; exact f1
theorem text_law {x y : qS} (h : Rel x y) : ∃ r x2 y2, m_X10_text (nI 0) x = some (r, x2) ∧ m_X11_text (nI 0) y = some (r, y2) ∧ Rel x2 y2 := by
  obtain ⟨N, z, hT, hC, hV, hW⟩ := ctx_s h
  obtain ⟨T, uc, c1, c2, c3, c4, c5, c6, c7⟩ := cut_s (si := 0) (by omega) hT hC
  have hN := hT.1
  have cl : m_X2_clear 72 uc = some (nI 0, q_up (q_up (q_up uc 72 0 (nI 0)) 72 5 (nI 0)) 72 6 (nI 0)) := by
    unfold m_X2_clear
    simp only [lit_n]
    rw [q_let_s, q_let_s, bz_0, q_let_s]
  generalize hud : q_up (q_up (q_up uc 72 0 (nI 0)) 72 5 (nI 0)) 72 6 (nI 0) = ud at cl
  have ud_o : ∀ c, c ≠ 72 → ud.1 c = uc.1 c := fun c hc => by rw [← hud, q_up_1, if_neg hc, q_up_1, if_neg hc, q_up_1, if_neg hc]
  have hX : CX N z 0 T ud (yB y) := by
    refine ⟨hT, by omega, c2, c3, ?_, hV, hW⟩
    unfold LX
    rw [ud_o 67 (by omega), ud_o 69 (by omega), ud_o 70 (by omega), ud_o 71 (by omega)]; exact c4
  have hT4 := hX.T4
  obtain ⟨va, r1, r2, r3, r4⟩ := read_r (v := yB y) (i := 0) hX rfl GV.rfl'
  have pv : PV N z (yB y) va va 0 (xp []) 0 := ⟨r3, r2, ⟨by rw [r4.2 28 (by omega)]; rfl, by rw [r4.2 29 (by omega)]; rfl, fun j hj => by have : j < 0 := hj; omega⟩, fun _ _ _ => rfl⟩
  have pc : PC T ud ud ud 0 [] false 0 := ⟨⟨fun _ _ => rfl, rfl⟩, ⟨by rw [ud_o 66 (by omega), c5 66 (by omega) (by omega) (by omega) (by omega)]; rfl, fun _ _ => rfl⟩, Nat.zero_le _, ⟨by rw [← hud]; rfl, by rw [← hud]; rfl, by rw [← hud]; rfl, fun j hj => by have : j < 0 := hj; omega⟩, rfl, rfl, rfl⟩
  have udx : ∀ c, (c < 66 ∨ 88 ≤ c) → ud.1 c = x.1 c := fun c hc => by rw [ud_o c (by omega), c5 c (by omega) (by omega) (by omega) (by omega), xB_o (by omega)]
  have stR : m_X11_readLaw va = RLl q_F (nI 0) va := by
    unfold m_X11_readLaw RLl
    simp only [lit_n, mI_lit]
  have stC : m_X6_readLaw 66 12 (xB x) = q_it1 (m_X6_readLaw_L18 66 12 (fun u_6 => some (mI, u_6)) (fun u_7 => Option.bind (q_ast u_7 74 17 (u_7.1 72 0) (u_7.1 72 5)) fun u_8 => q_bd (m_X2_copyFrom 12 72 u_8) fun _ u_9 => some (u_9.1 72 0, u_9))) q_F (nI 0) ud := by
    unfold m_X6_readLaw
    simp only [lit_n, mI_lit]
    rw [show 66 + 1 = 67 from rfl, c1, q_bd_s', show 66 + 6 = 72 from rfl, cl, q_bd_s']
  rcases rll hX (T + 1) 0 0 q_F q_F ud ud va va [] false (by omega) (by rw [q_F_eq]; omega) (by rw [q_F_eq]; omega) (by omega) pc pv (by show 0 ≤ 0; omega) (by show 0 ≤ 0; omega) (fun j hj => by omega) with ⟨u2, v2, w, p, a1, a2, a3, a4⟩ | ⟨u2, u3, v2, v3, k, i2, cs, hf, a1, a2, a3, a4, a5, a6, a7, a8⟩
  · have eC := text_c (x := x) (t := 0) (r := mI) (u := u2) (by omega) (fun _ => by rw [stC, a1]) (fun e => by omega) (fun e => by omega)
    have eR := text_r (y := y) (t := 0) (r := mI) (v2 := v2) (by omega) r1 (fun _ => by rw [stR]; exact a2) (fun e => by omega) (fun e => by omega)
    rw [if_pos rfl] at eR
    rw [eC, eR]
    exact text_bad h (by omega) (fun c hc => by rw [a3.2.2.1 c (by omega)]; exact udx c hc) a3.1 a3.2.1 a4.2.2 a4.1 a4.2.1
  · have i2T : i2 ≤ T := a4.2.2.1
    obtain ⟨g, nx, _, ⟨l1, l2, l3, l4⟩, -⟩ := a4
    obtain ⟨gv, at', ⟨e1, e2, e3⟩, -⟩ := a5
    -- the class takes
    have h6 : (q_up u2 74 k (nI cs.length)).1 72 6 = nI 0 ∨ (q_up u2 74 k (nI cs.length)).1 72 6 = nI 1 := by
      have : (q_up u2 74 k (nI cs.length)).1 72 6 = bI hf := l3
      rw [this]
      cases hf
      · exact Or.inl rfl
      · exact Or.inr rfl
    obtain ⟨u9, b1, b2, b3, b4, b5, b6, b7, b8, b9⟩ := lawcp h6
    have eC := text_c (x := x) (t := 0) (r := nI k) (u := u9) (by omega) (fun _ => by
      rw [stC, a1, l1, l2, ast_n (by omega) (by omega), Option.bind_some, b1, q_bd_s', b8 72 (by omega)]
      exact congrArg (fun q => some (q, u9)) l1) (fun e => by omega) (fun e => by omega)
    have eR := text_r (y := y) (t := 0) (r := nI k) (v2 := v2) (by omega) r1 (fun _ => by rw [stR]; exact a2) (fun e => by omega) (fun e => by omega)
    have nk : ¬ (nI k).toInt = mI.toInt := by rw [nI_t (by omega), mI_t]; omega
    rw [if_neg nk] at eR
    -- the reference takes
    have v27 : (q_up v2 163 14 (nI 0)).1 163 27 = nI 0 := by rw [up163 (by omega), gv.2.1 27 (by omega) (by omega) (by omega) (by omega) (by omega) (by omega)]; rfl
    have v28 : (q_up v2 163 14 (nI 0)).1 163 28 = nI (xp cs).length := e1
    obtain ⟨v9, d1, d2, d3, d4, d5, d6⟩ := takes_law (k := k) (n := (xp cs).length) a3 (by omega) v27 v28
    refine ⟨nI k, q_up u9 67 1 (nI 0), v9, ?_, ?_, ?_⟩
    · rw [eC]
      unfold JX
      rw [q_let_s, if_neg nk, if_pos (by decide)]
    · rw [eR]
      unfold JY
      rw [q_let_s, if_neg nk, if_pos (by decide), d1, q_bd_s']
    · have cx9 : ∀ c, (c < 12 ∨ (16 < c ∧ c < 66) ∨ 88 ≤ c) → (q_up u9 67 1 (nI 0)).1 c = x.1 c := fun c hc => by
        rw [q_up_1, if_neg (by omega), b8 c (by omega), q_up_1, if_neg (by omega), g.1 c (by omega)]; exact udx c (by omega)
      have cy9 : ∀ c, c ≠ 163 → (c < 170 ∨ 179 < c) → v9.1 c = y.1 c := fun c h1 h2 => by
        rw [d5 c (by omega), q_up_1, if_neg h1, gv.1 c h1 (by omega), yB_o h1]
      have gj : ∀ j, j = 3 ∨ j = 5 ∨ j = 6 ∨ j = 7 ∨ j = 8 ∨ j = 9 ∨ j = 10 ∨ j = 11 ∨ j = 36 ∨ j = 38 ∨ j = 48 ∨ j = 53 ∨ j = 34 ∨ j = 35 → v9.1 163 j = (yB y).1 163 j := fun j hj => by
        rw [d5 163 (by omega), up163 (by omega), gv.2.1 j (by omega) (by omega) (by omega) (by omega) (by omega) (by omega)]
      have gy : ∀ j, j = 3 ∨ j = 5 ∨ j = 6 ∨ j = 7 ∨ j = 8 ∨ j = 9 ∨ j = 10 ∨ j = 11 ∨ j = 36 ∨ j = 38 ∨ j = 48 ∨ j = 53 → v9.1 163 j = y.1 163 j := fun j hj => by
        rw [gj j (by omega), yB_j (by omega) (by omega) (by omega) (by omega) (by omega) (by omega) (by omega)]
      have hP : RPa 19 (q_up u9 67 1 (nI 0)).1 v9.1 := by
        have hp := h.1.2.2.2.2.2.1
        refine ⟨?_, fun e he => ?_⟩
        · rw [cx9 19 (by omega), gy 36 (by omega)]; exact hp.1
        · obtain ⟨m, m1, m2, m3, m4, m5⟩ := hp.2 e he
          have z178 : ∀ j, j < 90 → v9.1 178 j = y.1 178 j := fun j hj => by rw [d5 178 (by omega), q_up_1, if_neg (by omega), gv.2.2.2.2.1 j hj, yB_o (by omega)]
          have hps : ∀ n, n ≤ 8 → pset (fun i => v9.1 178 (9 * e + 1 + i)) n = pset (fun i => y.1 178 (9 * e + 1 + i)) n := by
            intro n
            induction n with
            | zero => intro _; rfl
            | succ n ih => intro hn; unfold pset; rw [ih (by omega), z178 _ (by omega)]
          refine ⟨m, m1, by rw [cx9 (19 + 1) (by omega)]; exact m2, by rw [z178 _ (by omega)]; exact m3, fun i hi => ?_, by rw [cx9 (19 + 3) (by omega), hps m m1]; exact m5⟩
          obtain ⟨q, q1, q2, q3⟩ := m4 i hi
          exact ⟨q, q1, by rw [cx9 (19 + 2) (by omega)]; exact q2, by rw [z178 _ (by omega)]; exact q3⟩
      have hNn : RPn 23 (q_up u9 67 1 (nI 0)).1 v9.1 (v9.1 163) := by
        obtain ⟨n, n1, n2, n3, n4⟩ := h.1.2.2.2.2.2.2.1
        have z179 : ∀ j, j < 64 → v9.1 179 j = y.1 179 j := fun j hj => by rw [d5 179 (by omega), q_up_1, if_neg (by omega), gv.2.2.2.2.2.1 j hj, yB_o (by omega)]
        refine ⟨n, n1, by rw [cx9 23 (by omega)]; exact n2, by rw [gy 38 (by omega)]; exact n3, fun i hi => ?_⟩
        obtain ⟨d, q, o, p1, p2, p3, p4, p5, p6, p7, p8, p9⟩ := n4 i hi
        refine ⟨d, q, o, p1, by rw [cx9 (23 + 1) (by omega), z179 _ (by omega)]; exact p2, by rw [z179 _ (by omega)]; exact p3, by rw [cx9 (23 + 2) (by omega)]; exact p4, by rw [cx9 (23 + 3) (by omega)]; exact p5, by rw [z179 _ (by omega)]; exact p6, by rw [cx9 (23 + 4) (by omega)]; exact p7, by rw [z179 _ (by omega)]; exact p8, ?_⟩
        rw [gy 6 (by omega), gy 7 (by omega)]; exact p9
      have hL : RLw 12 (q_up u9 67 1 (nI 0)).1 v9.1 := by
        refine ⟨k, a3, ?_, d4, ?_, fun j hj => ?_⟩
        · show u9.1 12 0 = _
          rw [b2]; exact l1
        · show u9.1 12 6 = _ ∨ u9.1 12 6 = _
          rw [b3]; exact h6
        · refine (a8 j hj).ln (X := q_up u9 67 1 (nI 0)) (Z := v9) hj a3 (by omega) (by omega) (by show u9.1 12 6 = _; rw [b3]; exact l3) (by show u9.1 13 j = _; rw [b4 j (by omega)]; rfl) (by show u9.1 14 j = _; rw [b5 j (by omega)]; show (if j = k then _ else u2.1 74 j) = _; rw [if_neg (by omega)]) (fun e => by show u9.1 14 (j + 1) = _; rw [b5 (j + 1) (by omega)]; show (if j + 1 = k then _ else u2.1 74 (j + 1)) = _; rw [if_neg (by omega)]) (fun e => by show u9.1 14 k = _; rw [b5 k (by omega)]; show (if k = k then _ else u2.1 74 k) = _; rw [if_pos rfl]) (by show u9.1 15 j = _; rw [b6 j (by omega)]; rfl) (fun i hi => by show u9.1 16 i = _; rw [b7 i (by omega)]; exact l4 i hi) (fun c h1 h2 => ?_) (fun i hi => ?_)
          · rw [d2 c j h1 h2 hj, q_up_1, if_neg (by omega)]
          · rw [d3 175 i (by omega) (by omega) hi, d3 176 i (by omega) (by omega) hi]; exact e3 i hi
      refine h.txt (fun c hc => cx9 c (by omega)) (by rw [cx9 0 (by omega)]) (by rw [cx9 0 (by omega)]) hL hP hNn (Or.inl ⟨by rw [cx9 0 (by omega)], gy 3 (by omega)⟩) cy9 (fun j hj => gy j (by omega)) rfl ?_ ?_ ?_
      · rw [d5 163 (by omega)]; rfl
      · rw [gj 34 (by omega)]
        show u9.1 66 0 = nI 0
        rw [b8 66 (by omega)]
        show u2.1 66 0 = nI 0
        rw [nx.2 0 (by omega), ud_o 66 (by omega), c5 66 (by omega) (by omega) (by omega) (by omega)]; rfl
      · rw [gj 35 (by omega)]
        show u9.1 66 1 = mI
        rw [b8 66 (by omega)]
        show u2.1 66 1 = mI
        rw [nx.2 1 (by omega), ud_o 66 (by omega), c5 66 (by omega) (by omega) (by omega) (by omega)]; rfl
