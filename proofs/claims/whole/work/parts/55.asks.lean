/-! LAYER 2: what is asked, and the law's three answers -/
def aF (w p pl ag h hu ta ja se : Int32) : Nat → Int32 := fun j => if j = 0 then w else if j = 1 then p else if j = 2 then pl else if j = 3 then ag else if j = 4 then h else if j = 5 then hu else if j = 6 then ta else if j = 7 then ja else se
theorem tF_a {l : Nat} {X : qX} {a b : Nat → Int32} {w oth : Int32} (hab : ∀ j, j < 9 → b j = a j) : tF X l b w oth = tF X l a w oth := by
  have e : ∀ i j, ev (X (l + 4)) b i j = ev (X (l + 4)) a i j := fun i j => by unfold ev; rw [mC_a hab]
  have key : ∀ n i, fF X l b w i n = fF X l a w i n := by
    intro n
    induction n with
    | zero => intro i; rfl
    | succ n ih => intro i; unfold fF; rw [ih, e]
  unfold tF
  rw [key]
  cases fF X l a w 0 (X l 0).toInt.toNat with
  | none => rfl
  | some j => exact e _ _
theorem tF_X {l : Nat} {X Y : qX} {a : Nat → Int32} {w oth : Int32} (h : ∀ c, l ≤ c → c < l + 5 → Y c = X c) : tF Y l a w oth = tF X l a w oth := by
  have key : ∀ n i, fF Y l a w i n = fF X l a w i n := by
    intro n
    induction n with
    | zero => intro i; rfl
    | succ n ih => intro i; unfold fF; rw [ih, h (l + 1) (by omega) (by omega), h (l + 2) (by omega) (by omega), h (l + 3) (by omega) (by omega), h (l + 4) (by omega) (by omega)]
  unfold tF
  rw [key, h l (by omega) (by omega), h (l + 2) (by omega) (by omega), h (l + 3) (by omega) (by omega), h (l + 4) (by omega) (by omega)]
theorem ask_it {k1 : Nat} {x2 : Int32} {K : qS → qR} {u : qS} : ∀ (n i f : Nat) (s : Nat → Int32), i + n = 9 → n < f →
    ∃ s2, q_it1 (m_X2_ask_L2 12 k1 x2 K) f (nI i) (q_st u 18 s) = K (q_st u 18 s2) ∧ ∀ j, j < 9 → s2 j = if j < i then s j else nI 0
  | 0, i, f, s, hi, hf => by
    cases f with
    | zero => omega
    | succ f =>
      refine ⟨s, ?_, fun j hj => by rw [if_pos (by omega)]⟩
      show m_X2_ask_L2 _ _ _ _ _ _ _ = _
      unfold m_X2_ask_L2
      rw [lit_n, if_pos (by rw [nI_t (by omega), nI_t (by omega)]; omega)]
  | n + 1, i, f, s, hi, hf => by
    cases f with
    | zero => omega
    | succ f =>
      show ∃ s2, m_X2_ask_L2 _ _ _ _ _ _ _ = _ ∧ _
      unfold m_X2_ask_L2
      simp only [lit_n, nI_add]
      rw [if_neg (by rw [nI_t (by omega), nI_t (by omega)]; omega), q_ast_ok (by omega) (by omega), Option.bind_some, q_st_st, q_st_g, if_pos rfl]
      obtain ⟨s2, e, h⟩ := ask_it (k1 := k1) (x2 := x2) (K := K) (u := u) n (i + 1) f (upd s i (nI 0)) (by omega) (by omega)
      refine ⟨s2, e, fun j hj => ?_⟩
      rw [h j hj]
      by_cases h1 : j < i
      · rw [if_pos (by omega), if_pos h1, upd_g, if_neg (by omega)]
      · rw [if_neg h1]
        by_cases h2 : j = i
        · rw [if_pos (by omega), upd_g, if_pos h2]
        · rw [if_neg (by omega)]
theorem ask_p {k1 P q : Nat} {u : qS} (hk : k1 = 2 ∨ k1 = 92) (hP : u.1 k1 7 = nI P) (hP5 : P ≤ 5) (hq : q < P) :
    ∃ a, m_X2_ask 12 k1 (nI q) u = some (nI 0, q_st u 18 a) ∧ ∀ j, j < 9 → a j = aF (q_rm (u.1 k1 0) (nI 52)) (nI q) (nI 0) (nI 0) (nI 0) (nI 0) (nI 0) (nI 0) (u.1 (k1 + 3) q) j := by
  unfold m_X2_ask
  obtain ⟨s2, e, h⟩ := ask_it (k1 := k1) (x2 := nI q) (K := fun u_2 =>
    Option.bind (q_ast u_2 (12 + 6) 9 (0 : Int32) (q_rm (u_2.1 k1 0) (52 : Int32))) fun u_3 =>
    q_bd (m_X0_isParty k1 (nI q) u_3) fun r u_4 =>
    if r.toInt = 0 then
      some (0, u_4)
    else
      Option.bind (q_ast u_4 (12 + 6) 9 (1 : Int32) (nI q)) fun u_5 =>
      Option.bind (q_ald u_5 (k1 + 3) 5 (nI q)) fun a =>
      Option.bind (q_ast u_5 (12 + 6) 9 (8 : Int32) a) fun u_6 =>
      some (0, u_6)) (u := u) 9 0 q_F (u.1 18) (by omega) (by rw [q_F_eq]; omega)
  rw [q_st_self rfl] at e
  simp only [lit_n] at e ⊢
  rw [e]
  have hk0 : (q_st u 18 s2).1 k1 = u.1 k1 := by rw [q_st_g, if_neg (by omega)]
  have hk3 : ∀ s, (q_st u 18 s).1 (k1 + 3) = u.1 (k1 + 3) := fun s => by rw [q_st_g, if_neg (by omega)]
  have hk7 : ∀ s, (q_st u 18 s).1 k1 = u.1 k1 := fun s => by rw [q_st_g, if_neg (by omega)]
  have hip : ∀ s, m_X0_isParty k1 (nI q) (q_st u 18 s) = some (nI 1, q_st u 18 s) := fun s => by
    unfold m_X0_isParty
    rw [if_neg (by rw [nI_t (by omega)]; omega), hk7, hP, if_neg (by rw [nI_t (by omega), nI_t (by omega)]; omega)]; rfl
  rw [q_ast_ok (by omega) (by omega), Option.bind_some]
  simp only [q_st_st, hip, q_bd_some]
  rw [if_neg (by decide), q_ast_ok (by omega) (by omega), Option.bind_some, ald_n (by omega) (by omega), Option.bind_some, q_ast_ok (by omega) (by omega), Option.bind_some]
  simp only [q_st_st, hk3, hk0]
  refine ⟨_, rfl, fun j hj => ?_⟩
  have g := h j hj
  rw [if_neg (by omega)] at g
  unfold aF
  simp only [upd_g, q_st_g, if_true, g]
  repeat' split
  all_goals first | rfl | omega
theorem ask_n {k1 : Nat} {u : qS} (hk : k1 = 2 ∨ k1 = 92) :
    ∃ a, m_X2_ask 12 k1 mI u = some (nI 0, q_st u 18 a) ∧ ∀ j, j < 9 → a j = aF (q_rm (u.1 k1 0) (nI 52)) (nI 0) (nI 0) (nI 0) (nI 0) (nI 0) (nI 0) (nI 0) (nI 0) j := by
  unfold m_X2_ask
  obtain ⟨s2, e, h⟩ := ask_it (k1 := k1) (x2 := mI) (K := fun u_2 =>
    Option.bind (q_ast u_2 (12 + 6) 9 (0 : Int32) (q_rm (u_2.1 k1 0) (52 : Int32))) fun u_3 =>
    q_bd (m_X0_isParty k1 mI u_3) fun r u_4 =>
    if r.toInt = 0 then
      some (0, u_4)
    else
      Option.bind (q_ast u_4 (12 + 6) 9 (1 : Int32) mI) fun u_5 =>
      Option.bind (q_ald u_5 (k1 + 3) 5 mI) fun a =>
      Option.bind (q_ast u_5 (12 + 6) 9 (8 : Int32) a) fun u_6 =>
      some (0, u_6)) (u := u) 9 0 q_F (u.1 18) (by omega) (by rw [q_F_eq]; omega)
  rw [q_st_self rfl] at e
  simp only [lit_n] at e ⊢
  rw [e]
  have hk0 : (q_st u 18 s2).1 k1 = u.1 k1 := by rw [q_st_g, if_neg (by omega)]
  have hip : ∀ v : qS, m_X0_isParty k1 mI v = some (nI 0, v) := fun v => by
    unfold m_X0_isParty
    rw [if_pos (by rw [mI_t]; omega)]; rfl
  rw [q_ast_ok (by omega) (by omega), Option.bind_some]
  simp only [q_st_st, hip, q_bd_some]
  rw [if_pos (by decide), hk0]
  refine ⟨_, rfl, fun j hj => ?_⟩
  have g := h j hj
  rw [if_neg (by omega)] at g
  unfold aF
  simp only [upd_g, q_st_g, if_true, g]
  repeat' split
  all_goals first | rfl | omega
theorem asks_r {x1 x2 x3 x4 : Int32} {v : qS} :
    ∃ a, m_X11_asks x1 x2 x3 x4 v = some (nI 0, q_st v 180 a) ∧ ∀ j, j < 9 → a j = aF (q_rm (v.1 164 0) (nI 52)) x1 x2 x3 x4 (nI 0) (nI 0) (nI 0) (nI 0) j := by
  unfold m_X11_asks
  simp only [lit_n]
  rw [ald_n (by omega) (by omega), Option.bind_some]
  iterate 9 rw [q_ast_ok (by omega) (by omega), Option.bind_some]
  simp only [q_st_st, q_st_g, if_true]
  refine ⟨_, rfl, fun j hj => ?_⟩
  unfold aF
  simp only [upd_g]
  repeat' split
  all_goals first | rfl | omega
/-! the three answers -/
def bearF (X : qX) (f : Nat → Int32) (t : Nat) : Int32 := hd (nI 99) (tF X 12 (aF (q_rm (f 0) (nI 52)) (f (20 + t)) (f (34 + t)) (f (48 + t)) (f (62 + t)) (nI 0) (nI 0) (nI 0) (f (10 + (f (20 + t)).toInt.toNat))) (nI 0) (f (48 + t) / nI 5))
def wantF (X : qX) (f : Nat → Int32) (e : Nat) : Int32 := hd (nI 20) (tF X 12 (aF (q_rm (f 0) (nI 52)) (nI 0) (nI 0) (nI 0) (nI 0) (f (76 + e)) (nI 0) (nI 0) (nI 0)) (nI 1) (f (76 + e)))
def countF (X : qX) (f : Nat → Int32) (e p t : Nat) : Int32 := hd (nI 9) (tF X 12 (aF (q_rm (f 0) (nI 52)) (nI p) (f (34 + t)) (f (48 + t)) (f (62 + t)) (f (76 + e)) (f (86 + (5 * e + p)) + nI 5) (nI 0) (f (10 + p))) (nI 2) (nI 1))
def countJ (X : qX) (f : Nat → Int32) (e p : Nat) : Int32 := hd (nI 9) (tF X 12 (aF (q_rm (f 0) (nI 52)) (nI p) (nI 0) (nI 0) (nI 0) (f (76 + e)) (f (86 + (5 * e + p)) + nI 5) (nI 1) (f (10 + p))) (nI 2) (nI 1))
/-- the law's own rows (17, 18), in which it works -/
def sc (u : qS) (s a : Nat → Int32) : qS := q_st (q_st u 18 a) 17 s
theorem sc_o {u : qS} {s a : Nat → Int32} {c : Nat} (h1 : c ≠ 17) (h2 : c ≠ 18) : (sc u s a).1 c = u.1 c := by
  unfold sc; rw [q_st_g, if_neg h1, q_st_g, if_neg h2]
def sr (v : qS) (s a : Nat → Int32) : qS := q_st (q_st v 180 a) 181 s
theorem sr_o {u : qS} {s a : Nat → Int32} {c : Nat} (h1 : c ≠ 180) (h2 : c ≠ 181) : (sr u s a).1 c = u.1 c := by
  unfold sr; rw [q_st_g, if_neg h2, q_st_g, if_neg h1]
theorem hold_eq {m r : Int32} {u : qS} : m_X2_hold r m u = some (hd m r, u) := by unfold m_X2_hold hd; simp only [lit_n]
theorem tell_s {Z : qX} {w oth : Int32} {u : qS} {a b : Nat → Int32} (hR : RLw 12 u.1 Z) (hb : ∀ j, j < 9 → a j = b j) : ∃ s, m_X2_tell 12 w oth (q_st u 18 a) = some (tF u.1 12 b w oth, sc u s a) := by
  have hf : ∀ c, 12 ≤ c → c < 12 + 5 → (q_st u 18 a).1 c = u.1 c := fun c h1 h2 => by rw [q_st_g, if_neg (by omega)]
  obtain ⟨s, e⟩ := tell_c (l := 12) (w := w) (oth := oth) (u := q_st u 18 a) (hR.fr hf (fun c _ _ => rfl))
  refine ⟨s, ?_⟩
  rw [e, tF_X hf, show (q_st u 18 a).1 (12 + 6) = a from by rw [q_st_g, if_pos rfl], tF_a hb]; rfl
theorem tell_t {m : Nat} {X : qX} {w oth : Int32} {v : qS} {a b : Nat → Int32} (hm : m < 2147483648) (hR : RLw 12 X v.1) (hb : ∀ j, j < 9 → a j = b j) : ∃ s, m_X11_lawTells w oth (nI m) (q_st v 180 a) = some (hd (nI m) (tF X 12 b w oth), sr v s a) := by
  obtain ⟨s, e⟩ := tell_r (l := 12) (w := w) (oth := oth) (v := q_st v 180 a) (a := b) hm (hR.fr (fun c _ _ => rfl) (fun c h1 h2 => by rw [q_st_g, if_neg (by omega)])) (fun j hj => by rw [q_st_g, if_pos rfl]; exact hb j hj)
  exact ⟨s, e⟩
