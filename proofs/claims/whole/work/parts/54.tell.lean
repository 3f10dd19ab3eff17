/-! LAYER 2: a law's lines, told alike -/
def LN (l : Nat) (X Z : qX) (i : Nat) : Prop := ∃ s w e s2 w2 e2 : Nat, X (l + 1) i = Z 171 i ∧ X (l + 2) i = nI s ∧ X (l + 3) i = nI w ∧ X (l + 2) (i + 1) = nI e ∧ Z 172 i = nI s2 ∧ Z 173 i = nI w2 ∧ Z 174 i = nI e2 ∧
  s ≤ w ∧ w ≤ e ∧ e ≤ 400 ∧ s2 ≤ w2 ∧ w2 ≤ e2 ∧ e2 ≤ 400 ∧ (w = e ↔ w2 = e2) ∧ Sg (X (l + 4)) (Z 175) (Z 176) s (w - s) s2 (w2 - s2) 3 false ∧
  (w < e → Sg (X (l + 4)) (Z 175) (Z 176) w (e - w) w2 (e2 - w2) 32 true) ∧ (X l 6 = nI 0 → (X (l + 1) i).toInt = 2 → NH (X (l + 4)) s (e - s))
def RLw (l : Nat) (X Z : qX) : Prop := ∃ N : Nat, N ≤ 16 ∧ X l 0 = nI N ∧ Z 170 0 = nI N ∧ (X l 6 = nI 0 ∨ X l 6 = nI 1) ∧ ∀ i, i < N → LN l X Z i
theorem LN.fr {l i : Nat} {X X2 Z Z2 : qX} (h : LN l X Z i) (hx : ∀ c, l ≤ c → c < l + 5 → X2 c = X c) (hz : ∀ c, 171 ≤ c → c < 177 → Z2 c = Z c) : LN l X2 Z2 i := by
  unfold LN
  rw [hx l (by omega) (by omega), hx (l + 1) (by omega) (by omega), hx (l + 2) (by omega) (by omega), hx (l + 3) (by omega) (by omega), hx (l + 4) (by omega) (by omega), hz 171 (by omega) (by omega), hz 172 (by omega) (by omega), hz 173 (by omega) (by omega), hz 174 (by omega) (by omega), hz 175 (by omega) (by omega), hz 176 (by omega) (by omega)]
  exact h
theorem RLw.fr {l : Nat} {X X2 Z Z2 : qX} (h : RLw l X Z) (hx : ∀ c, l ≤ c → c < l + 5 → X2 c = X c) (hz : ∀ c, 170 ≤ c → c < 177 → Z2 c = Z c) : RLw l X2 Z2 := by
  obtain ⟨N, h1, h2, h3, h4, h5⟩ := h
  refine ⟨N, h1, ?_, ?_, ?_, fun i hi => (h5 i hi).fr hx (fun c a b => hz c (by omega) b)⟩
  · rw [hx l (by omega) (by omega)]; exact h2
  · rw [hz 170 (by omega) (by omega)]; exact h3
  · rw [hx l (by omega) (by omega)]; exact h4
def ev (c a : Nat → Int32) (i j : Int32) : Int32 := ((mC c a i.toInt.toNat (j.toInt.toNat - i.toInt.toNat) []).getD []).headD (nI 0)
def fF (X : qX) (l : Nat) (a : Nat → Int32) (w : Int32) : Nat → Nat → Option Nat
  | _, 0 => none
  | i, n + 1 => if (X (l + 1) i).toInt = w.toInt ∧ ((X (l + 3) i).toInt = (X (l + 2) (i + 1)).toInt ∨ (ev (X (l + 4)) a (X (l + 3) i) (X (l + 2) (i + 1))).toInt ≠ 0) then some i else fF X l a w (i + 1) n
def tF (X : qX) (l : Nat) (a : Nat → Int32) (w oth : Int32) : Int32 := match fF X l a w 0 (X l 0).toInt.toNat with
  | none => oth
  | some j => ev (X (l + 4)) a (X (l + 2) j) (X (l + 3) j)
theorem ev_n {c a : Nat → Int32} {i j : Nat} {v : Int32} (hj : i ≤ j) (hj2 : j ≤ 400) (h : mC c a i (j - i) [] = some [v]) : ev c a (nI i) (nI j) = v := by
  unfold ev
  rw [nI_t (by omega), nI_t (by omega)]
  show ((mC c a i (j - i) []).getD []).headD (nI 0) = v
  rw [h]; rfl
theorem val_ev {k i j : Nat} {u : qS} {v : Int32} (hij : i ≤ j) (hj : j ≤ 400) (h : mC (u.1 (k + 4)) (u.1 (k + 6)) i (j - i) [] = some [v]) : ∃ s, m_X2_value k (nI i) (nI j) u = some (v, q_st u (k + 5) s) := by
  have := val_eq (k := k) (i := i) (n := j - i) (u := u) (by omega) h
  rw [show i + (j - i) = j by omega] at this
  exact this
theorem run_ev {i j : Nat} {u : qS} {v : Int32} (hij : i ≤ j) (hj : j ≤ 400) (h : mR (u.1 175) (u.1 176) (u.1 180) i (j - i) [] = some [v]) : ∃ s, m_X11_runs (nI 0) (nI i) (nI j) u = some (v, q_st u 181 s) := by
  have := run_eq (i := i) (n := j - i) (u := u) (by omega) h
  rw [show i + (j - i) = j by omega] at this
  exact this
theorem mC_a {c a b : Nat → Int32} (hab : ∀ j, j < 9 → b j = a j) : ∀ (n i : Nat) (st : List Int32), mC c b i n st = mC c a i n st
  | 0, i, st => rfl
  | n + 1, i, st => by
    unfold mC
    have e : sC b (c i) st = sC a (c i) st := by
      unfold sC sC2
      split
      · rfl
      · split
        · split
          · rename_i h3
            rw [hab _ (by omega)]
          · rfl
        · rfl
    rw [e]
    congr 1
    funext s
    exact mC_a hab n (i + 1) s
theorem fF_lt {X : qX} {l : Nat} {a : Nat → Int32} {w : Int32} : ∀ (n i j : Nat), fF X l a w i n = some j → j < i + n
  | 0, i, j, h => by cases h
  | n + 1, i, j, h => by
    unfold fF at h
    split at h
    · cases h; omega
    · have := fF_lt n (i + 1) j h; omega
set_option maxHeartbeats 2000000 in
theorem tell_it {l N : Nat} {Z : qX} {w : Int32} {K58 : Int32 → qS → qR} {K81 : qS → qR} {oth : Int32} {u : qS} (hN : u.1 l 0 = nI N) (hN16 : N ≤ 16) (hL : ∀ i, i < N → LN l u.1 Z i) : ∀ (n i f : Nat) (s : Nat → Int32), i + n = N → n < f →
    ∃ s2, q_it1 (m_X2_tell_L2 l w oth K58 K81) f (nI i) (q_st u (l + 5) s) = (match fF u.1 l (u.1 (l + 6)) w i n with | none => K81 (q_st u (l + 5) s2) | some j => K58 (nI j) (q_st u (l + 5) s2))
  | 0, i, f, s, hi, hf => by
    cases f with
    | zero => omega
    | succ f =>
      refine ⟨s, ?_⟩
      show m_X2_tell_L2 _ _ _ _ _ _ _ _ = _
      unfold m_X2_tell_L2
      rw [if_pos (by simp only [q_st_g]; rw [if_neg (by omega), hN, nI_t (by omega), nI_t (by omega)]; omega)]
      rfl
  | n + 1, i, f, s, hi, hf => by
    cases f with
    | zero => omega
    | succ f =>
      obtain ⟨sa, wa, ea, s2, w2, e2, h1, h2, h3, h4, h5, h6, h7, b1, b2, b3, b4, b5, b6, b7, hS, hB, hN2⟩ := hL i (by omega)
      show ∃ s2, m_X2_tell_L2 _ _ _ _ _ _ _ _ = _
      unfold m_X2_tell_L2
      rw [if_neg (by simp only [q_st_g]; rw [if_neg (by omega), hN, nI_t (by omega), nI_t (by omega)]; omega)]
      have g1 : (q_st u (l + 5) s).1 (l + 1) = u.1 (l + 1) := by rw [q_st_g, if_neg (by omega)]
      have g2 : (q_st u (l + 5) s).1 (l + 2) = u.1 (l + 2) := by rw [q_st_g, if_neg (by omega)]
      have g3 : (q_st u (l + 5) s).1 (l + 3) = u.1 (l + 3) := by rw [q_st_g, if_neg (by omega)]
      have g4 : (q_st u (l + 5) s).1 (l + 4) = u.1 (l + 4) := by rw [q_st_g, if_neg (by omega)]
      have g6 : (q_st u (l + 5) s).1 (l + 6) = u.1 (l + 6) := by rw [q_st_g, if_neg (by omega)]
      have a1 : q_ald (q_st u (l + 5) s) (l + 1) 16 (nI i) = some (u.1 (l + 1) i) := by rw [ald_n (by omega) (by omega), g1]
      have a3 : q_ald (q_st u (l + 5) s) (l + 3) 16 (nI i) = some (nI wa) := by rw [ald_n (by omega) (by omega), g3, h3]
      have a2 : q_ald (q_st u (l + 5) s) (l + 2) 17 (nI (i + 1)) = some (nI ea) := by rw [ald_n (by omega) (by omega), g2, h4]
      simp only [lit_n, nI_add, a1, a2, a3, Option.bind_some, q_jn]
      unfold fF
      rw [h3, h4]
      by_cases hw : (u.1 (l + 1) i).toInt = w.toInt
      · rw [if_pos hw]
        by_cases hwe : wa = ea
        · rw [if_pos (by rw [hwe]), if_pos ⟨hw, Or.inl (by rw [hwe])⟩]
          exact ⟨s, rfl⟩
        · rw [if_neg (by rw [nI_t (by omega), nI_t (by omega)]; omega)]
          obtain ⟨v, hv, -, -⟩ := hB (by omega) (u.1 (l + 6)) [] (by simp)
          have hev := ev_n b2 b3 hv
          obtain ⟨s3, e3⟩ := val_ev (k := l) (u := q_st u (l + 5) s) b2 b3 (by rw [g4, g6]; exact hv)
          rw [e3, q_bd_some, hev, q_st_st]
          by_cases hv0 : v.toInt = 0
          · rw [if_pos hv0, if_neg (fun h => h.2.elim (fun h => by rw [nI_t (by omega), nI_t (by omega)] at h; omega) (fun h => h hv0))]
            exact tell_it (oth := oth) hN hN16 hL n (i + 1) f s3 (by omega) (by omega)
          · rw [if_neg hv0, if_pos ⟨hw, Or.inr hv0⟩]
            exact ⟨s3, rfl⟩
      · rw [if_neg hw, if_neg (fun h => hw h.1)]
        exact tell_it (oth := oth) hN hN16 hL n (i + 1) f s (by omega) (by omega)
theorem tell_c {l : Nat} {Z : qX} {w oth : Int32} {u : qS} (hR : RLw l u.1 Z) : ∃ s, m_X2_tell l w oth u = some (tF u.1 l (u.1 (l + 6)) w oth, q_st u (l + 5) s) := by
  obtain ⟨N, h1, h2, h3, h4, h5⟩ := hR
  unfold m_X2_tell
  obtain ⟨s2, e⟩ := tell_it (w := w) (oth := oth) (K58 := fun x3 u_7 =>
    Option.bind (q_ald u_7 (l + 2) 17 x3) fun a =>
    Option.bind (q_ald u_7 (l + 3) 16 x3) fun a_8 =>
    q_bd (m_X2_value l a a_8 u_7) fun r u_9 =>
    some (r, u_9)) (K81 := fun  u_10 =>
    some (oth, u_10)) h2 h1 h5 N 0 q_F (u.1 (l + 5)) (by omega) (by rw [q_F_eq]; omega)
  rw [q_st_self rfl] at e
  rw [lit_n, e]
  unfold tF
  rw [h2, nI_t (by omega)]
  cases hf : fF u.1 l (u.1 (l + 6)) w 0 N with
  | none => exact ⟨s2, by rw [show (N : Int).toNat = N from rfl, hf]⟩
  | some j =>
    have hj := fF_lt _ _ _ hf
    obtain ⟨sa, wa, ea, s3, w3, e3, g1, g2, g3, g4, g5, g6, g7, b1, b2, b3, b4, b5, b6, b7, hS, hB, hN2⟩ := h5 j (by omega)
    obtain ⟨v, hv, -, -⟩ := hS (u.1 (l + 6)) [] (by simp)
    simp only
    rw [ald_n (by omega) (by omega), Option.bind_some, ald_n (by omega) (by omega), Option.bind_some, q_st_g, if_neg (by omega), q_st_g, if_neg (by omega), g2, g3]
    obtain ⟨s4, e4⟩ := val_ev (k := l) (u := q_st u (l + 5) s2) b1 (by omega) (by rw [q_st_g, if_neg (by omega), q_st_g, if_neg (by omega)]; exact hv)
    rw [e4, q_bd_some, q_st_st]
    refine ⟨s4, ?_⟩
    rw [show (N : Int).toNat = N from rfl, hf]
    simp only
    rw [g2, g3, ev_n b1 (by omega) hv]
set_option maxHeartbeats 2000000 in
theorem line_it {l N : Nat} {X : qX} {a : Nat → Int32} {w : Int32} {K57 : Int32 → qS → qR} {K65 : qS → qR} {v : qS} (hN : v.1 170 0 = nI N) (hN16 : N ≤ 16) (hL : ∀ i, i < N → LN l X v.1 i) (ha : ∀ j, j < 9 → v.1 180 j = a j) : ∀ (n i f : Nat) (s : Nat → Int32), i + n = N → n < f →
    ∃ s2, q_it1 (m_X11_lineOf_L2 w K57 K65) f (nI i) (q_st v 181 s) = (match fF X l a w i n with | none => K65 (q_st v 181 s2) | some j => K57 (nI j) (q_st v 181 s2))
  | 0, i, f, s, hi, hf => by
    cases f with
    | zero => omega
    | succ f =>
      refine ⟨s, ?_⟩
      show m_X11_lineOf_L2 _ _ _ _ _ _ = _
      unfold m_X11_lineOf_L2
      rw [lit_n, ald_n (by omega) (by omega), Option.bind_some, if_pos (by simp only [q_st_g]; rw [if_neg (by omega), hN, nI_t (by omega), nI_t (by omega)]; omega)]
      rfl
  | n + 1, i, f, s, hi, hf => by
    cases f with
    | zero => omega
    | succ f =>
      obtain ⟨sa, wa, ea, s2, w2, e2, h1, h2, h3, h4, h5, h6, h7, b1, b2, b3, b4, b5, b6, b7, hS, hB, hN2⟩ := hL i (by omega)
      show ∃ s2, m_X11_lineOf_L2 _ _ _ _ _ _ = _
      unfold m_X11_lineOf_L2
      have a0 : q_ald (q_st v 181 s) 170 2 (nI 0) = some (nI N) := by rw [ald_n (by omega) (by omega)]; exact congrArg some hN
      have a1 : q_ald (q_st v 181 s) 171 48 (nI i) = some (X (l + 1) i) := by rw [ald_n (by omega) (by omega)]; exact congrArg some h1.symm
      have a3 : q_ald (q_st v 181 s) 173 48 (nI i) = some (nI w2) := by rw [ald_n (by omega) (by omega)]; exact congrArg some h6
      have a2 : q_ald (q_st v 181 s) 174 48 (nI i) = some (nI e2) := by rw [ald_n (by omega) (by omega)]; exact congrArg some h7
      simp only [lit_n, nI_add, a0, a1, a2, a3, Option.bind_some, q_jn]
      rw [if_neg (by rw [nI_t (by omega), nI_t (by omega)]; omega)]
      unfold fF
      rw [h3, h4]
      by_cases hw : (X (l + 1) i).toInt = w.toInt
      · rw [if_pos hw]
        by_cases hwe : wa = ea
        · rw [if_pos (by rw [b7.mp hwe]), if_pos ⟨hw, Or.inl (by rw [hwe])⟩]
          exact ⟨s, rfl⟩
        · have hwe2 : w2 ≠ e2 := fun e => hwe (b7.mpr e)
          rw [if_neg (by rw [nI_t (by omega), nI_t (by omega)]; omega)]
          obtain ⟨x, hv, hr, -⟩ := hB (by omega) (v.1 180) [] (by simp)
          rw [mC_a ha] at hv
          have hev := ev_n b2 b3 hv
          obtain ⟨s3, e3⟩ := run_ev (u := q_st v 181 s) b5 b6 hr
          rw [e3, q_bd_some, hev, q_st_st]
          by_cases hv0 : x.toInt = 0
          · rw [if_pos hv0, if_neg (fun h => h.2.elim (fun h => by rw [nI_t (by omega), nI_t (by omega)] at h; omega) (fun h => h hv0))]
            exact line_it hN hN16 hL ha n (i + 1) f s3 (by omega) (by omega)
          · rw [if_neg hv0, if_pos ⟨hw, Or.inr hv0⟩]
            exact ⟨s3, rfl⟩
      · rw [if_neg hw, if_neg (fun h => hw h.1)]
        exact line_it hN hN16 hL ha n (i + 1) f s (by omega) (by omega)
/-- what a law's answer is held to -/
def hd (m r : Int32) : Int32 := q_max (nI 0) (q_min m r)
theorem held_eq {r : Int32} {m : Nat} {u : qS} (hm : m < 2147483648) : m_X11_held r (nI 0) (nI m) u = some (hd (nI m) r, u) := by
  unfold m_X11_held hd q_max q_min
  have t0 : (nI 0).toInt = 0 := rfl
  have tm := nI_t hm
  simp only [Int32.lt_iff_toInt_lt, t0, tm]
  by_cases h1 : (0 : Int) ≤ r.toInt
  · rw [if_pos h1]
    by_cases h2 : r.toInt ≤ (m : Int)
    · rw [if_pos h2]
      by_cases h3 : r.toInt < (m : Int)
      · rw [if_pos h3]
        by_cases h4 : (0 : Int) < r.toInt
        · rw [if_pos h4]
        · rw [if_neg h4]; congr 2; exact i32_eq (by rw [t0]; omega)
      · rw [if_neg h3, tm]
        by_cases h4 : (0 : Int) < (m : Int)
        · rw [if_pos h4]; congr 2; exact i32_eq (by rw [tm]; omega)
        · rw [if_neg h4]; congr 2; exact i32_eq (by rw [t0]; omega)
    · rw [if_neg h2, if_neg (show ¬ r.toInt < (m : Int) by omega), tm]
      by_cases h4 : (0 : Int) < (m : Int)
      · rw [if_pos h4]
      · rw [if_neg h4]; congr 2; exact i32_eq (by rw [t0, tm]; omega)
  · rw [if_neg h1]
    by_cases h3 : r.toInt < (m : Int)
    · rw [if_pos h3, if_neg (by omega)]
    · omega
theorem hd_rng {m : Nat} {r : Int32} (hm : m < 2147483648) : 0 ≤ (hd (nI m) r).toInt ∧ (hd (nI m) r).toInt ≤ m := by
  unfold hd q_max q_min
  have t0 : (nI 0).toInt = 0 := rfl
  have tm := nI_t hm
  simp only [Int32.lt_iff_toInt_lt, t0]
  repeat' split
  all_goals (try rw [tm] at *)
  all_goals (try rw [t0])
  all_goals omega
theorem tell_r {l m : Nat} {X : qX} {a : Nat → Int32} {w oth : Int32} {v : qS} (hm : m < 2147483648) (hR : RLw l X v.1) (ha : ∀ j, j < 9 → v.1 180 j = a j) : ∃ s, m_X11_lawTells w oth (nI m) v = some (hd (nI m) (tF X l a w oth), q_st v 181 s) := by
  obtain ⟨N, h1, h2, h3, h4, h5⟩ := hR
  unfold m_X11_lawTells m_X11_lineOf
  obtain ⟨s2, e⟩ := line_it (w := w) (K57 := fun x2 u_8 =>
    some (x2, u_8)) (K65 := fun  u_9 =>
    some ((-1 : Int32), u_9)) h3 h1 h5 ha N 0 q_F (v.1 181) (by omega) (by rw [q_F_eq]; omega)
  rw [q_st_self rfl] at e
  simp only [lit_n, mI_lit] at e ⊢
  rw [e]
  unfold tF
  rw [h2, nI_t (by omega)]
  rw [show (N : Int).toNat = N from rfl]
  cases hf : fF X l a w 0 N with
  | none =>
    refine ⟨s2, ?_⟩
    simp only [q_bd_some, q_jn]
    rw [if_pos trivial, held_eq hm, q_bd_some]
  | some j =>
    have hj := fF_lt _ _ _ hf
    obtain ⟨sa, wa, ea, s3, w3, e3, g1, g2, g3, g4, g5, g6, g7, b1, b2, b3, b4, b5, b6, b7, hS, hB, hN2⟩ := h5 j (by omega)
    obtain ⟨x, hv, hr, -⟩ := hS (v.1 180) [] (by simp)
    rw [mC_a ha] at hv
    obtain ⟨s4, e4⟩ := run_ev (u := q_st v 181 s2) b4 (by omega) hr
    refine ⟨s4, ?_⟩
    have a1 : q_ald (q_st v 181 s2) 172 48 (nI j) = some (nI s3) := by rw [ald_n (by omega) (by omega)]; exact congrArg some g5
    have a2 : q_ald (q_st v 181 s2) 173 48 (nI j) = some (nI w3) := by rw [ald_n (by omega) (by omega)]; exact congrArg some g6
    simp only [q_bd_some, q_jn, a1, a2, Option.bind_some]
    rw [if_neg (by rw [nI_t (by omega)]; show ¬ (j : Int) = -1; omega), e4, q_bd_some, held_eq hm, q_bd_some, q_st_st, g2, g3, ev_n b1 (by omega) hv]
/-- without a line of count that asks for hanging, what hangs doesn't count -/
theorem tF_nh {l : Nat} {X Z : qX} {a b : Nat → Int32} {oth : Int32} (hR : RLw l X Z) (h6 : X l 6 = nI 0) (hab : ∀ j, j ≠ 4 → b j = a j) : tF X l b (nI 2) oth = tF X l a (nI 2) oth := by
  obtain ⟨N, h1, h2, h3, h4, h5⟩ := hR
  have key : ∀ n i, i + n = N → fF X l b (nI 2) i n = fF X l a (nI 2) i n := by
    intro n
    induction n with
    | zero => intro i _; rfl
    | succ n ih =>
      intro i hi
      unfold fF
      rw [ih (i + 1) (by omega)]
      by_cases hw : (X (l + 1) i).toInt = (nI 2).toInt
      · obtain ⟨sa, wa, ea, s3, w3, e3, g1, g2, g3, g4, g5, g6, g7, b1, b2, b3, b4, b5, b6, b7, hS, hB, hN2⟩ := h5 i (by omega)
        have hn := hN2 h6 hw
        have : ev (X (l + 4)) b (X (l + 3) i) (X (l + 2) (i + 1)) = ev (X (l + 4)) a (X (l + 3) i) (X (l + 2) (i + 1)) := by
          unfold ev
          rw [g3, g4, nI_t (by omega), nI_t (by omega)]
          show ((mC _ b wa (ea - wa) []).getD []).headD (nI 0) = ((mC _ a wa (ea - wa) []).getD []).headD (nI 0)
          rw [mC_nh hab _ _ _ (fun j h1 h2 => hn j (by omega) (by omega))]
        rw [this]
      · rw [if_neg (fun h => hw h.1), if_neg (fun h => hw h.1)]
  unfold tF
  rw [h2, nI_t (by omega), show (N : Int).toNat = N from rfl, key N 0 (by omega)]
  cases hf : fF X l a (nI 2) 0 N with
  | none => rfl
  | some j =>
    have hj := fF_lt _ _ _ hf
    have hw : (X (l + 1) j).toInt = (nI 2).toInt := by
      have : ∀ n i, fF X l a (nI 2) i n = some j → (X (l + 1) j).toInt = (nI 2).toInt := by
        intro n
        induction n with
        | zero => intro i h; cases h
        | succ n ih =>
          intro i h
          unfold fF at h
          split at h
          · rename_i hc; cases h; exact hc.1
          · exact ih _ h
      exact this N 0 hf
    obtain ⟨sa, wa, ea, s3, w3, e3, g1, g2, g3, g4, g5, g6, g7, b1, b2, b3, b4, b5, b6, b7, hS, hB, hN2⟩ := h5 j (by omega)
    have hn := hN2 h6 hw
    simp only
    unfold ev
    rw [g2, g3, nI_t (by omega), nI_t (by omega)]
    show ((mC _ b sa (wa - sa) []).getD []).headD (nI 0) = ((mC _ a sa (wa - sa) []).getD []).headD (nI 0)
    rw [mC_nh hab _ _ _ (fun j h1 h2 => hn j (by omega) (by omega))]
