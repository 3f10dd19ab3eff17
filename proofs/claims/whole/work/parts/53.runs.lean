/-! LAYER 2: the reference's machine -/
def bR (o x y : Int32) : Option Int32 := if o.toInt = 2 then some (x + y) else if o.toInt = 3 then some (x - y) else if o.toInt = 4 then some (x * y) else if o.toInt = 5 then q_div x y else if o.toInt = 6 then (if y.toInt ≤ x.toInt then some (nI 0) else some (nI 1)) else if o.toInt = 7 then (if x.toInt = y.toInt then some (nI 1) else some (nI 0)) else if o.toInt = 8 then (if x.toInt ≤ y.toInt then some (nI 0) else some (nI 1)) else if o.toInt = 10 then some (x * y) else (if (x + y).toInt ≤ 0 then some (nI 0) else some (nI 1))
def sR (a : Nat → Int32) (o v : Int32) (st : List Int32) : Option (List Int32) :=
  if o.toInt = 0 then some (v :: st)
  else if o.toInt = 1 then (if 0 ≤ v.toInt ∧ v.toInt < 9 then some (a v.toInt.toNat :: st) else none)
  else match st with
  | [] => none
  | y :: r => if o.toInt = 9 then some ((nI 1 - y) :: r)
    else match r with
    | [] => none
    | x :: r2 => (bR o x y).bind (fun z => some (z :: r2))
def mR (op ar a : Nat → Int32) : Nat → Nat → List Int32 → Option (List Int32)
  | _, 0, st => some st
  | i, n + 1, st => (sR a (op i) (ar i) st).bind (mR op ar a (i + 1) n)
theorem two_eq {o x y : Int32} {u : qS} : m_X11_twoOf o x y u = (bR o x y).bind (fun a => some (a, u)) := by
  unfold m_X11_twoOf bR
  have t2 : (2 : Int32).toInt = 2 := rfl
  have t3 : (3 : Int32).toInt = 3 := rfl
  have t4 : (4 : Int32).toInt = 4 := rfl
  have t5 : (5 : Int32).toInt = 5 := rfl
  have t6 : (6 : Int32).toInt = 6 := rfl
  have t7 : (7 : Int32).toInt = 7 := rfl
  have t8 : (8 : Int32).toInt = 8 := rfl
  have t10 : (10 : Int32).toInt = 10 := rfl
  simp only [t2, t3, t4, t5, t6, t7, t8, t10]
  repeat' split
  all_goals rfl
set_option maxHeartbeats 4000000 in
theorem run_st {i T : Nat} {st st1 : List Int32} {u : qS} {K : qS → qR} {self : Int32 → Int32 → qS → qR} (hi : i < T) (hT : T ≤ 400) (hl : st.length < 420) (hs : SK (u.1 181) st) (h : sR (u.1 180) (u.1 175 i) (u.1 176 i) st = some st1) :
    ∃ s1, m_X11_runs_L12 (nI 0) (nI T) K self (nI st.length) (nI i) u = self (nI st1.length) (nI (i + 1)) (q_st u 181 s1) ∧ SK s1 st1 ∧ st1.length ≤ st.length + 1 := by
  unfold m_X11_runs_L12
  simp only [lit_n, pk_mul, nI_add]
  rw [if_neg (by rw [nI_t (by omega), nI_t (by omega)]; omega)]
  have hld : q_ald u 175 1200 (nI i) = some (u.1 175 i) := ald_n (by omega) (by omega)
  simp only [hld, Option.bind_some, q_let, lit_n, q_jn, mI_lit, nI_add]
  unfold sR at h
  have t1 : (nI 1).toInt = 1 := rfl
  have t9 : (nI 9).toInt = 9 := rfl
  simp only [t1, t9]
  by_cases h0 : (u.1 175 i).toInt = 0
  · rw [if_pos h0] at h ⊢
    cases h
    refine ⟨upd (u.1 181) st.length (u.1 176 i), ?_, ?_, ?_⟩
    · rw [if_pos h0, ald_n (by omega) (by omega), Option.bind_some, q_ast_ok hl (by omega)]; rfl
    · exact ⟨by rw [upd_g, if_pos rfl], SK.out (Nat.le_refl _) hs⟩
    · simp only [List.length_cons]; omega
  · rw [if_neg h0] at h ⊢
    by_cases h1 : (u.1 175 i).toInt = 1
    · rw [if_pos h1] at h ⊢
      split at h
      · rename_i h2
        cases h
        refine ⟨upd (u.1 181) st.length (u.1 180 (u.1 176 i).toInt.toNat), ?_, ?_, ?_⟩
        · rw [if_neg h0, ald_n (by omega) (by omega), Option.bind_some, ald_i h2.1 h2.2, Option.bind_some, q_ast_ok hl (by omega)]; rfl
        · exact ⟨by rw [upd_g, if_pos rfl], SK.out (Nat.le_refl _) hs⟩
        · simp only [List.length_cons]; omega
      · exact absurd h (by simp)
    · rw [if_neg h1] at h ⊢
      cases st with
      | nil => exact absurd h (by simp)
      | cons y r =>
        simp only [List.length_cons] at hl
        obtain ⟨hs1, hs2⟩ := hs
        simp only at h
        have e1 : nI (r.length + 1) - nI 1 = nI r.length := nI_sub (by omega)
        simp only [List.length_cons, e1]
        by_cases h9 : (u.1 175 i).toInt = 9
        · rw [if_pos h9] at h ⊢
          cases h
          refine ⟨upd (u.1 181) r.length (nI 1 - y), ?_, ?_, ?_⟩
          · rw [ald_n (by omega) (by omega), Option.bind_some, hs1, q_ast_ok (by omega) (by omega)]; rfl
          · exact ⟨by rw [upd_g, if_pos rfl], SK.out (Nat.le_refl _) hs2⟩
          · simp only [List.length_cons]; omega
        · rw [if_neg h9] at h ⊢
          cases r with
          | nil => exact absurd h (by simp)
          | cons x r2 =>
            simp only at h
            cases hb : bR (u.1 175 i) x y with
            | none => rw [hb] at h; exact absurd h (by simp)
            | some z =>
              rw [hb] at h
              cases h
              obtain ⟨hs3, hs4⟩ := hs2
              simp only [List.length_cons] at hl hs1 ⊢
              have e2 : nI (r2.length + 1) - nI 1 = nI r2.length := nI_sub (by omega)
              refine ⟨upd (u.1 181) r2.length z, ?_, ?_, ?_⟩
              · rw [e2, ald_n (by omega) (by omega), Option.bind_some, ald_n (by omega) (by omega), Option.bind_some, hs1, hs3, two_eq, hb]
                simp only [Option.bind_some, q_bd_some]
                rw [q_ast_ok (by omega) (by omega)]; rfl
              · exact ⟨by rw [upd_g, if_pos rfl], SK.out (Nat.le_refl _) hs4⟩
              · omega
theorem run_it {K : qS → qR} : ∀ (n i f : Nat) (st st2 : List Int32) (u : qS), n < f → i + n ≤ 400 → st.length + n ≤ 420 → SK (u.1 181) st → mR (u.1 175) (u.1 176) (u.1 180) i n st = some st2 →
    ∃ s2, q_it2 (m_X11_runs_L12 (nI 0) (nI (i + n)) K) f (nI st.length) (nI i) u = K (q_st u 181 s2) ∧ SK s2 st2
  | 0, i, f, st, st2, u, hf, hi, hl, hs, h => by
    cases f with
    | zero => omega
    | succ f =>
      cases h
      refine ⟨u.1 181, ?_, hs⟩
      show m_X11_runs_L12 _ _ K _ _ _ u = _
      unfold m_X11_runs_L12
      simp only [lit_n, pk_mul, nI_add]
      rw [if_pos (by rw [nI_t (by omega), nI_t (by omega)]; omega), q_st_self rfl]
  | n + 1, i, f, st, st2, u, hf, hi, hl, hs, h => by
    cases f with
    | zero => omega
    | succ f =>
      unfold mR at h
      cases h1 : sR (u.1 180) (u.1 175 i) (u.1 176 i) st with
      | none => rw [h1] at h; exact absurd h (by simp)
      | some st1 =>
        rw [h1] at h
        obtain ⟨s1, e1, hs1, hl1⟩ := run_st (T := i + (n + 1)) (K := K) (self := q_it2 (m_X11_runs_L12 (nI 0) (nI (i + (n + 1))) K) f) (by omega) (by omega) (by omega) hs h1
        have h2 : mR ((q_st u 181 s1).1 175) ((q_st u 181 s1).1 176) ((q_st u 181 s1).1 180) (i + 1) n st1 = some st2 := h
        obtain ⟨s2, e2, hs2⟩ := run_it (K := K) n (i + 1) f st1 st2 (q_st u 181 s1) (by omega) (by omega) (by omega) hs1 h2
        refine ⟨s2, ?_, hs2⟩
        show m_X11_runs_L12 _ _ K _ _ _ u = _
        rw [e1]
        rw [show i + 1 + n = i + (n + 1) by omega] at e2
        rw [e2, q_st_st]
theorem run_eq {i n : Nat} {v : Int32} {u : qS} (hi : i + n ≤ 400) (h : mR (u.1 175) (u.1 176) (u.1 180) i n [] = some [v]) :
    ∃ s, m_X11_runs (nI 0) (nI i) (nI (i + n)) u = some (v, q_st u 181 s) := by
  unfold m_X11_runs
  obtain ⟨s, e, hs⟩ := run_it (K := fun u_20 =>
    Option.bind (q_ald u_20 181 420 (nI 0)) fun a =>
    some (a, u_20)) n i q_F [] [v] u (by rw [q_F_eq]; omega) hi (by simp; omega) trivial h
  refine ⟨s, ?_⟩
  rw [List.length_nil] at e
  simp only [q_let, lit_n, pk_mul, nI_add]
  rw [show 400 * 0 + i = i by omega, e]
  rw [ald_n (by omega) (by omega)]
  have : s 0 = v := hs.1
  simp only [Option.bind_some, q_st_g, if_true, this]
/-! compositions -/
theorem mC_add {c a : Nat → Int32} : ∀ (n i m : Nat) (st : List Int32), mC c a i (n + m) st = (mC c a i n st).bind (mC c a (i + n) m)
  | 0, i, m, st => by rw [Nat.zero_add, Nat.add_zero]; rfl
  | n + 1, i, m, st => by
    rw [show n + 1 + m = (n + m) + 1 by omega]
    unfold mC
    cases sC a (c i) st with
    | none => rfl
    | some s1 => simp only [Option.bind_some]; rw [mC_add n (i + 1) m s1, show i + 1 + n = i + (n + 1) by omega]
theorem mR_add {op ar a : Nat → Int32} : ∀ (n i m : Nat) (st : List Int32), mR op ar a i (n + m) st = (mR op ar a i n st).bind (mR op ar a (i + n) m)
  | 0, i, m, st => by rw [Nat.zero_add, Nat.add_zero]; rfl
  | n + 1, i, m, st => by
    rw [show n + 1 + m = (n + m) + 1 by omega]
    unfold mR
    cases sR a (op i) (ar i) st with
    | none => rfl
    | some s1 => simp only [Option.bind_some]; rw [mR_add n (i + 1) m s1, show i + 1 + n = i + (n + 1) by omega]
theorem mC_cong {c c2 a : Nat → Int32} : ∀ (n i : Nat) (st : List Int32), (∀ j, i ≤ j → j < i + n → c2 j = c j) → mC c2 a i n st = mC c a i n st
  | 0, i, st, _ => rfl
  | n + 1, i, st, h => by
    unfold mC
    rw [h i (by omega) (by omega)]
    congr 1
    funext s
    exact mC_cong n (i + 1) s (fun j h1 h2 => h j (by omega) (by omega))
theorem mR_cong {op op2 ar ar2 a : Nat → Int32} : ∀ (n i : Nat) (st : List Int32), (∀ j, i ≤ j → j < i + n → op2 j = op j ∧ ar2 j = ar j) → mR op2 ar2 a i n st = mR op ar a i n st
  | 0, i, st, _ => rfl
  | n + 1, i, st, h => by
    unfold mR
    rw [(h i (by omega) (by omega)).1, (h i (by omega) (by omega)).2]
    congr 1
    funext s
    exact mR_cong n (i + 1) s (fun j h1 h2 => h j (by omega) (by omega))
theorem mR_sh {op ar a op2 ar2 : Nat → Int32} : ∀ (n i b : Nat) (st : List Int32), (∀ j, i ≤ j → j < i + n → op2 (b + j) = op j ∧ ar2 (b + j) = ar j) → mR op2 ar2 a (b + i) n st = mR op ar a i n st
  | 0, i, b, st, _ => rfl
  | n + 1, i, b, st, h => by
    unfold mR
    rw [(h i (by omega) (by omega)).1, (h i (by omega) (by omega)).2]
    congr 1
    funext s
    exact mR_sh n (i + 1) b s (fun j h1 h2 => h j (by omega) (by omega))
/-- the code asks for hanging nowhere -/
def NH (c : Nat → Int32) (i n : Nat) : Prop := ∀ j, i ≤ j → j < i + n → ¬ ((c j &&& nI 15).toInt = 1 ∧ (c j >>> (nI 4 &&& nI 31)).toInt = 4)
theorem mC_nh {c a b : Nat → Int32} (hab : ∀ j, j ≠ 4 → b j = a j) : ∀ (n i : Nat) (st : List Int32), NH c i n → mC c b i n st = mC c a i n st
  | 0, i, st, _ => rfl
  | n + 1, i, st, h => by
    unfold mC
    have h1 := h i (by omega) (by omega)
    have e : sC b (c i) st = sC a (c i) st := by
      unfold sC sC2
      split
      · rfl
      · rename_i h0
        split
        · rename_i h2
          split
          · rename_i h3
            rw [hab]
            intro e4
            exact h1 ⟨h2, by omega⟩
          · rfl
        · rfl
    rw [e]
    congr 1
    funext s
    exact mC_nh hab n (i + 1) s (fun j h1 h2 => h j (by omega) (by omega))
/-- two stretches of code that say the same -/
def Sg (c op ar : Nat → Int32) (i n i2 n2 d : Nat) (b : Bool) : Prop :=
  ∀ (a : Nat → Int32) (st : List Int32), st.length + d ≤ 32 → ∃ v, mC c a i n st = some (v :: st) ∧ mR op ar a i2 n2 st = some (v :: st) ∧ (b = true → v = nI 0 ∨ v = nI 1)
