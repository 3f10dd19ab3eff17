/-! LAYER 2, THE LAW: both stack machines over lists -/
def bC (o x y : Int32) : Int32 := if o.toInt = 4 then x * y else if o.toInt = 5 then x + y else if o.toInt = 6 then x - y else if o.toInt = 7 then (if y.toInt ≤ x.toInt then nI 0 else nI 1) else if o.toInt = 8 then (if x.toInt = y.toInt then nI 1 else nI 0) else if o.toInt = 9 then (if x.toInt ≤ y.toInt then nI 0 else nI 1) else if o.toInt = 10 then x &&& y else x ||| y
def sC2 (o n : Int32) (a : Nat → Int32) (st : List Int32) : Option (List Int32) :=
  if o.toInt = 0 then (if st.length < 32 then some (n :: st) else none)
  else if o.toInt = 1 then (if st.length < 32 ∧ 0 ≤ n.toInt ∧ n.toInt < 9 then some (a n.toInt.toNat :: st) else none)
  else match st with
  | [] => none
  | y :: r => if o.toInt = 2 then (if n.toInt = 0 then none else some (y / n :: r))
    else if o.toInt = 3 then some ((if y.toInt = 0 then nI 1 else nI 0) :: r)
    else match r with
    | [] => none
    | x :: r2 => some (bC o x y :: r2)
def sC (a : Nat → Int32) (c : Int32) (st : List Int32) : Option (List Int32) := sC2 (c &&& nI 15) (c >>> (nI 4 &&& nI 31)) a st
def mC (c a : Nat → Int32) : Nat → Nat → List Int32 → Option (List Int32)
  | _, 0, st => some st
  | i, n + 1, st => (sC a (c i) st).bind (mC c a (i + 1) n)
def SK (f : Nat → Int32) : List Int32 → Prop
  | [] => True
  | v :: r => f r.length = v ∧ SK f r
def tp (st : List Int32) : Int32 := nI st.length + mI
theorem tp_c {v : Int32} {r : List Int32} : tp (v :: r) = nI r.length := nI_m r.length
theorem SK.out {f : Nat → Int32} {j : Nat} {x : Int32} : ∀ {st : List Int32}, st.length ≤ j → SK f st → SK (upd f j x) st
  | [], _, _ => trivial
  | v :: r, hl, h => ⟨by
      rw [upd_g, if_neg (by simp only [List.length_cons] at hl; omega)]; exact h.1, SK.out (by simp only [List.length_cons] at hl; omega) h.2⟩
theorem q_st_self {u : qS} {k : Nat} {f : Nat → Int32} (h : u.1 k = f) : q_st u k f = u := by
  unfold q_st
  refine Prod.ext (funext fun a => ?_) rfl
  show (if a = k then f else u.1 a) = u.1 a
  split
  · rename_i e; rw [e, h]
  · rfl
theorem q_up_st {u : qS} {k j : Nat} {v : Int32} : q_up u k j v = q_st u k (upd (u.1 k) j v) := rfl
theorem q_st_st {u : qS} {k : Nat} {f h : Nat → Int32} : q_st (q_st u k f) k h = q_st u k h := by
  unfold q_st
  refine Prod.ext (funext fun a => ?_) rfl
  show (if a = k then h else if a = k then f else u.1 a) = if a = k then h else u.1 a
  split <;> rfl
theorem i0 {x : Int32} (h : x.toInt = 0) : x = nI 0 := i32_eq h
theorem div_ne {x y : Int32} (h : y.toInt ≠ 0) : q_div x y = some (x / y) := by
  unfold q_div; rw [if_neg]; intro e; apply h; rw [e]; rfl
theorem ald_i {u : qS} {a n : Nat} {i : Int32} (h0 : 0 ≤ i.toInt) (h : i.toInt < n) : q_ald u a n i = some (u.1 a i.toInt.toNat) := by
  unfold q_ald; rw [if_pos ⟨h0, h⟩]
theorem tp_p {st : List Int32} : tp st + nI 1 = nI st.length := by
  show (nI st.length + mI) + 1 = nI st.length
  rw [Int32.add_assoc]
  show nI st.length + (mI + 1) = _
  rw [show mI + 1 = (0 : Int32) from rfl, Int32.add_zero]
theorem tp_t {st : List Int32} (h : st.length ≤ 400) : (tp st).toInt = (st.length : Int) - 1 := by
  unfold tp
  rw [i32_add] <;> rw [nI_t (by omega), mI_t] <;> omega
theorem q_ast_ok {u : qS} {a n j : Nat} {v : Int32} (h : j < n) (hn : n < 2147483648) : q_ast u a n (nI j) v = some (q_st u a (upd (u.1 a) j v)) := ast_n h hn
set_option maxHeartbeats 4000000 in
theorem val_st {k i T : Nat} {st st1 : List Int32} {u : qS} {K : Int32 → qS → qR} {self : Int32 → Int32 → qS → qR} (hi : i < T) (hT : T ≤ 400) (hl : st.length ≤ 32) (hs : SK (u.1 (k + 5)) st) (h : sC (u.1 (k + 6)) (u.1 (k + 4) i) st = some st1) :
    ∃ s1, m_X2_value_L5 k (nI T) K self (tp st) (nI i) u = self (tp st1) (nI (i + 1)) (q_st u (k + 5) s1) ∧ SK s1 st1 ∧ st1.length ≤ 32 := by
  unfold m_X2_value_L5
  unfold sC at h
  rw [if_neg (by rw [nI_t (by omega), nI_t (by omega)]; omega), ald_n (by omega) (by omega)]
  simp only [Option.bind_some, q_let, lit_n, q_jn, mI_lit, nI_add]
  obtain ⟨o, ho⟩ : ∃ o, u.1 (k + 4) i &&& nI 15 = o := ⟨_, rfl⟩
  obtain ⟨n, hn⟩ : ∃ n, u.1 (k + 4) i >>> (nI 4 &&& nI 31) = n := ⟨_, rfl⟩
  simp only [ho, hn] at h ⊢
  clear ho hn
  unfold sC2 at h
  have ht := tp_t (st := st) (by omega)
  have t1 : (nI 1).toInt = 1 := rfl
  have t2 : (nI 2).toInt = 2 := rfl
  have t3 : (nI 3).toInt = 3 := rfl
  have t31 : (nI 31).toInt = 31 := rfl
  simp only [t1, t2, t3, t31]
  by_cases h0 : o.toInt = 0
  · rw [if_pos h0] at h ⊢
    split at h
    · rename_i h2
      cases h
      refine ⟨upd (u.1 (k + 5)) st.length n, ?_, ?_, ?_⟩
      · rw [if_neg (by omega), if_pos h0, tp_p, q_ast_ok h2 (by omega), tp_c]; rfl
      · exact ⟨by rw [upd_g, if_pos rfl], SK.out (Nat.le_refl _) hs⟩
      · simp only [List.length_cons]; omega
    · exact absurd h (by simp)
  · rw [if_neg h0] at h ⊢
    by_cases h1 : o.toInt = 1
    · rw [if_pos h1] at h ⊢
      split at h
      · rename_i h2
        cases h
        obtain ⟨h2, h3, h4⟩ := h2
        refine ⟨upd (u.1 (k + 5)) st.length (u.1 (k + 6) n.toInt.toNat), ?_, ?_, ?_⟩
        · rw [if_neg (by omega), if_neg h0, tp_p, ald_i h3 h4, Option.bind_some, q_ast_ok h2 (by omega), tp_c]; rfl
        · exact ⟨by rw [upd_g, if_pos rfl], SK.out (Nat.le_refl _) hs⟩
        · simp only [List.length_cons]; omega
      · exact absurd h (by simp)
    · rw [if_neg h1] at h ⊢
      cases st with
      | nil => exact absurd h (by simp)
      | cons y r =>
        rw [tp_c] at ht ⊢
        simp only [List.length_cons] at hl
        obtain ⟨hs1, hs2⟩ := hs
        simp only at h
        by_cases h2 : o.toInt = 2
        · rw [if_pos h2] at h ⊢
          split at h
          · exact absurd h (by simp)
          · rename_i h3
            cases h
            refine ⟨upd (u.1 (k + 5)) r.length (y / n), ?_, ?_, ?_⟩
            · rw [if_neg (by rw [nI_t (by omega)]; omega), if_neg h3, ald_n (by omega) (by omega), Option.bind_some, hs1, div_ne h3, Option.bind_some, q_ast_ok (by omega) (by omega), tp_c]; rfl
            · exact ⟨by rw [upd_g, if_pos rfl], SK.out (Nat.le_refl _) hs2⟩
            · simp only [List.length_cons]; omega
        · rw [if_neg h2] at h ⊢
          by_cases h3 : o.toInt = 3
          · rw [if_pos h3] at h ⊢
            cases h
            refine ⟨upd (u.1 (k + 5)) r.length (if y.toInt = 0 then nI 1 else nI 0), ?_, ?_, ?_⟩
            · rw [if_neg (by rw [nI_t (by omega)]; omega), ald_n (by omega) (by omega), Option.bind_some, hs1, q_ast_ok (by omega) (by omega), q_ast_ok (by omega) (by omega), tp_c]
              by_cases h4 : y.toInt = 0
              · rw [if_pos h4, if_pos h4]; rfl
              · rw [if_neg h4, if_neg h4]; rfl
            · exact ⟨by rw [upd_g, if_pos rfl], SK.out (Nat.le_refl _) hs2⟩
            · simp only [List.length_cons]; omega
          · rw [if_neg h3] at h ⊢
            cases r with
            | nil => exact absurd h (by simp)
            | cons x r2 =>
              simp only [Option.some.injEq] at h
              subst h
              obtain ⟨hs3, hs4⟩ := hs2
              simp only [List.length_cons] at hl ht hs1 ⊢
              have e1 : nI (r2.length + 1) + mI = nI r2.length := nI_m _
              refine ⟨upd (u.1 (k + 5)) r2.length (bC o x y), ?_, ?_, ?_⟩
              · rw [if_neg (by rw [nI_t (by omega)]; omega), ald_n (by omega) (by omega), Option.bind_some, e1, ald_n (by omega) (by omega), Option.bind_some, hs1, hs3, tp_c]
                simp only [q_ast_ok (u := u) (a := k + 5) (n := 32) (j := r2.length) (by omega) (by omega), Option.bind_some]
                unfold bC
                by_cases c4 : o.toInt = 4
                · rw [if_pos c4, if_pos c4]
                rw [if_neg c4, if_neg c4]
                by_cases c5 : o.toInt = 5
                · rw [if_pos c5, if_pos c5]
                rw [if_neg c5, if_neg c5]
                by_cases c6 : o.toInt = 6
                · rw [if_pos c6, if_pos c6]
                rw [if_neg c6, if_neg c6]
                by_cases c7 : o.toInt = 7
                · rw [if_pos c7, if_pos c7]
                  by_cases d : y.toInt ≤ x.toInt
                  · rw [if_pos d, if_pos d]
                  · rw [if_neg d, if_neg d]
                rw [if_neg c7, if_neg c7]
                by_cases c8 : o.toInt = 8
                · rw [if_pos c8, if_pos c8]
                  by_cases d : x.toInt = y.toInt
                  · rw [if_pos d, if_pos d]
                  · rw [if_neg d, if_neg d]
                rw [if_neg c8, if_neg c8]
                by_cases c9 : o.toInt = 9
                · rw [if_pos c9, if_pos c9]
                  by_cases d : x.toInt ≤ y.toInt
                  · rw [if_pos d, if_pos d]
                  · rw [if_neg d, if_neg d]
                rw [if_neg c9, if_neg c9]
                by_cases c10 : o.toInt = 10
                · rw [if_pos c10, if_pos c10]
                · rw [if_neg c10, if_neg c10]
              · exact ⟨by rw [upd_g, if_pos rfl], SK.out (Nat.le_refl _) hs4⟩
              · omega
theorem val_it {k : Nat} {K : Int32 → qS → qR} : ∀ (n i f : Nat) (st st2 : List Int32) (u : qS), n < f → i + n ≤ 400 → st.length ≤ 32 → SK (u.1 (k + 5)) st → mC (u.1 (k + 4)) (u.1 (k + 6)) i n st = some st2 →
    ∃ s2, q_it2 (m_X2_value_L5 k (nI (i + n)) K) f (tp st) (nI i) u = K (tp st2) (q_st u (k + 5) s2) ∧ SK s2 st2 ∧ st2.length ≤ 32
  | 0, i, f, st, st2, u, hf, hi, hl, hs, h => by
    cases f with
    | zero => omega
    | succ f =>
      cases h
      refine ⟨u.1 (k + 5), ?_, hs, hl⟩
      show m_X2_value_L5 k _ K _ _ _ u = _
      unfold m_X2_value_L5
      rw [if_pos (by rw [nI_t (by omega), nI_t (by omega)]; omega), q_st_self rfl]
  | n + 1, i, f, st, st2, u, hf, hi, hl, hs, h => by
    cases f with
    | zero => omega
    | succ f =>
      unfold mC at h
      cases h1 : sC (u.1 (k + 6)) (u.1 (k + 4) i) st with
      | none => rw [h1] at h; exact absurd h (by simp)
      | some st1 =>
        rw [h1] at h
        obtain ⟨s1, e1, hs1, hl1⟩ := val_st (T := i + (n + 1)) (K := K) (self := q_it2 (m_X2_value_L5 k (nI (i + (n + 1))) K) f) (by omega) (by omega) hl hs h1
        have h2 : mC ((q_st u (k + 5) s1).1 (k + 4)) ((q_st u (k + 5) s1).1 (k + 6)) (i + 1) n st1 = some st2 := by
          simp (disch := omega) only [q_let, q_jn, q_bd_some, Option.bind_some, ald_n, ast_n, lit_n, mI_lit, nI_add, pk_mul, nI_t, mI_t, if_pos, if_neg, q_up_1, q_st_g, upd_g, q_up_2, q_st_2, bz_0, bz_1, if_true, if_false]; exact h
        obtain ⟨s2, e2, hs2, hl2⟩ := val_it (K := K) n (i + 1) f st1 st2 (q_st u (k + 5) s1) (by omega) (by omega) hl1 (by simp (disch := omega) only [q_let, q_jn, q_bd_some, Option.bind_some, ald_n, ast_n, lit_n, mI_lit, nI_add, pk_mul, nI_t, mI_t, if_pos, if_neg, q_up_1, q_st_g, upd_g, q_up_2, q_st_2, bz_0, bz_1, if_true, if_false]; exact hs1) h2
        refine ⟨s2, ?_, hs2, hl2⟩
        show m_X2_value_L5 k _ K _ _ _ u = _
        rw [e1]
        rw [show i + 1 + n = i + (n + 1) by omega] at e2
        rw [e2, q_st_st]
theorem val_eq {k i n : Nat} {v : Int32} {u : qS} (hi : i + n ≤ 400) (h : mC (u.1 (k + 4)) (u.1 (k + 6)) i n [] = some [v]) :
    ∃ s, m_X2_value k (nI i) (nI (i + n)) u = some (v, q_st u (k + 5) s) := by
  unfold m_X2_value
  obtain ⟨s, e, hs, -⟩ := val_it (k := k) (K := fun x3 u_31 =>
    if x3.toInt < 0 then
      some ((0 : Int32), u_31)
    else
      Option.bind (q_ald u_31 (k + 5) 32 x3) fun a =>
      some (a, u_31)) n i q_F [] [v] u (by rw [q_F_eq]; omega) hi (by simp) trivial h
  refine ⟨s, ?_⟩
  rw [show (-1 : Int32) = tp [] from rfl, e]
  rw [tp_c]
  have : s 0 = v := hs.1
  simp (disch := omega) only [q_let, q_jn, q_bd_some, Option.bind_some, ald_n, ast_n, lit_n, mI_lit, nI_add, pk_mul, nI_t, mI_t, if_pos, if_neg, q_up_1, q_st_g, upd_g, q_up_2, q_st_2, bz_0, bz_1, if_true, if_false, List.length_nil, this]
