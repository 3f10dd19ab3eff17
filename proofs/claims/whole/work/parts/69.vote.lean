/-! LAYER 2: a seating -/
theorem q_bd_s' {r : Int32} {u : qS} {K : Int32 → qS → qR} : q_bd (some (r, u)) K = K r u := Eq.trans rfl rfl
section
variable {k2 : Nat}
theorem lucky_it {P A C : Nat} {V G : Nat → Nat} {u0 v : qS} {lf : Int32} {K1 : qS → qR} {K2 : Int32 → qS → qR} (hk : k2 = 2 ∨ k2 = 92) (hP5 : P ≤ 5) (hC9 : C ≤ 99) (hA : 0 < A) (hA9 : A < 100000) (hlf : lf.toInt ≤ 99) (hu7 : u0.1 k2 7 = nI P) (hu4 : u0.1 k2 4 = nI C) (hv6 : v.1 163 6 = nI P) (huV : ∀ p, p < P → u0.1 (k2 + 2) p = nI (V p)) (hV9 : ∀ p, p < P → V p ≤ 9999) (hG9 : ∀ p, p < P → G p ≤ 99) (hga : ∀ p, p < P → v.1 182 p = nI (G p)) (hre : ∀ p, p < P → v.1 183 p = nI (V p * C % A)) :
    ∀ (n i h f1 f2 : Nat) (s : Nat → Int32), i + n = 100 → n < f1 → n < f2 → h < 32 → (∀ p, p < P → s p = nI (G p + if lk h p = true then 1 else 0)) →
      ∃ (h2 : Nat) (s2 : Nat → Int32), h2 < 32 ∧ q_it2 (m_X0_seatAnew_L86 k2 (nI A) lf K1) f1 (nI h) (nI i) (q_st u0 (k2 + 3) s) = K1 (q_st u0 (k2 + 3) s2) ∧ q_it2 (m_X11_findsGiven_L106 (nI A) lf K2) f2 (nI h) (nI i) v = K2 (nI h2) v ∧ (∀ p, p < P → s2 p = nI (G p + if lk h2 p = true then 1 else 0)) ∧ ∀ p, P ≤ p → s2 p = s p
  | n, i, h, 0, f2, s, hi, hf1, hf2, hh, hs => by omega
  | n, i, h, f1, 0, s, hi, hf1, hf2, hh, hs => by omega
  | 0, i, h, f1 + 1, f2 + 1, s, hi, hf1, hf2, hh, hs => by
    have c1 : lf.toInt ≤ (nI i).toInt := by rw [nI_t (by omega)]; omega
    refine ⟨h, s, hh, ?_, ?_, hs, fun _ _ => rfl⟩
    · show m_X0_seatAnew_L86 _ _ _ _ _ _ _ _ = _
      unfold m_X0_seatAnew_L86
      rw [if_pos c1]
    · show m_X11_findsGiven_L106 _ _ _ _ _ _ _ = _
      unfold m_X11_findsGiven_L106
      rw [if_pos c1]
  | n + 1, i, h, f1 + 1, f2 + 1, s, hi, hf1, hf2, hh, hs => by
    by_cases c1 : lf.toInt ≤ (nI i).toInt
    · refine ⟨h, s, hh, ?_, ?_, hs, fun _ _ => rfl⟩
      · show m_X0_seatAnew_L86 _ _ _ _ _ _ _ _ = _
        unfold m_X0_seatAnew_L86
        rw [if_pos c1]
      · show m_X11_findsGiven_L106 _ _ _ _ _ _ _ = _
        unfold m_X11_findsGiven_L106
        rw [if_pos c1]
    · have cA : ¬ (nI A).toInt ≤ 0 := by rw [nI_t (by omega)]; omega
      have e0 : (q_st u0 (k2 + 3) s).1 k2 = u0.1 k2 := by rw [q_st_g, if_neg (by omega)]
      have e2 : (q_st u0 (k2 + 3) s).1 (k2 + 2) = u0.1 (k2 + 2) := by rw [q_st_g, if_neg (by omega)]
      have e3 : (q_st u0 (k2 + 3) s).1 (k2 + 3) = s := by rw [q_st_g, if_pos rfl]
      have gr : m_X0_greatestRemainder k2 (nI A) (nI h) (q_st u0 (k2 + 3) s) = some (enc (nx G (fun p => V p * C % A) h P), q_st u0 (k2 + 3) s) := by
        unfold m_X0_greatestRemainder
        have := next_c (k2 := k2) (u := q_st u0 (k2 + 3) s) (V := V) (G := G) (K := fun x3 u_9 => some (x3, u_9)) hP5 hC9 hA hA9 hh (by rw [e0]; exact hu7) (by rw [e0]; exact hu4) (by rw [e2]; exact huV) hV9 (fun p hp hl => by rw [e3, hs p hp, hl]; rfl) (fun p hp => by have := hG9 p hp; omega) P 0 q_F none (by omega) (by rw [q_F_eq]; omega) (fun q hq => by cases hq)
        exact this
      have hr : ∀ K : Int32 → qS → qR, q_it2 (m_X11_findsGiven_L122 (nI A) lf (nI h) (nI i) K) q_F mI (nI 0) v = K (enc (nx G (fun p => V p * C % A) h P)) v := fun K =>
        next_r (G := G) (R := fun p => V p * C % A) (K := K) (A := A) hP5 hA9 hh hv6 hga hre (fun p hp => by have := hG9 p hp; omega) (fun p hp => Nat.mod_lt _ hA) P 0 q_F none (by omega) (by rw [q_F_eq]; omega) (fun q hq => by cases hq)
      cases hb : nx G (fun p => V p * C % A) h P with
      | none =>
        rw [hb] at gr
        obtain ⟨h2, s2, r0, r1, r2, r3, r4⟩ := lucky_it (K1 := K1) (K2 := K2) hk hP5 hC9 hA hA9 hlf hu7 hu4 hv6 huV hV9 hG9 hga hre n (i + 1) h f1 f2 s (by omega) (by omega) (by omega) hh hs
        refine ⟨h2, s2, r0, ?_, ?_, r3, r4⟩
        · rw [← r1]
          show m_X0_seatAnew_L86 _ _ _ _ (q_it2 (m_X0_seatAnew_L86 k2 (nI A) lf K1) f1) _ _ _ = _
          generalize q_it2 (m_X0_seatAnew_L86 k2 (nI A) lf K1) f1 = self
          unfold m_X0_seatAnew_L86
          have em : (enc none).toInt = mI.toInt := rfl
          simp only [lit_n, mI_lit, nI_add, if_neg c1, gr, q_bd_some, q_jn, if_pos em]
        · rw [← r2]
          show m_X11_findsGiven_L106 _ _ _ (q_it2 (m_X11_findsGiven_L106 (nI A) lf K2) f2) _ _ _ = _
          generalize q_it2 (m_X11_findsGiven_L106 (nI A) lf K2) f2 = self
          unfold m_X11_findsGiven_L106
          have em : (enc none).toInt = mI.toInt := rfl
          simp only [lit_n, mI_lit, nI_add, if_neg c1, if_neg cA, hr, hb, q_jn, if_pos em]
      | some b =>
        rw [hb] at gr
        have gr' : m_X0_greatestRemainder k2 (nI A) (nI h) (q_st u0 (k2 + 3) s) = some (nI b, q_st u0 (k2 + 3) s) := gr
        have hb' := hb
        unfold nx at hb'
        rcases bsg_c _ _ _ _ hb' with hx | ⟨-, hbP, hlb⟩
        · cases hx
        have hbP' : b < P := by omega
        have hlb' : lk h b = false := by cases hl : lk h b with | false => rfl | true => rw [hl] at hlb; cases hlb
        obtain ⟨q1, q2, q3⟩ := lk_s h hh b (by omega) hlb'
        have hsb : s b = nI (G b) := by rw [hs b hbP', hlb']; rfl
        have gb := hG9 b hbP'
        obtain ⟨h2, s2, r0, r1, r2, r3, r4⟩ := lucky_it (K1 := K1) (K2 := K2) hk hP5 hC9 hA hA9 hlf hu7 hu4 hv6 huV hV9 hG9 hga hre n (i + 1) (h + 2 ^ b) f1 f2 (upd s b (nI (G b + 1))) (by omega) (by omega) (by omega) q2 (fun p hp => by
          rw [upd_g, q3 p (by omega)]
          by_cases e : p = b
          · subst e
            rw [if_pos rfl, show decide (p = p) = true from decide_eq_true rfl, Bool.true_or, if_pos rfl]
          · rw [if_neg e, hs p hp, decide_eq_false e, Bool.false_or])
        have em : ¬ (nI b).toInt = mI.toInt := by rw [nI_t (by omega), mI_t]; omega
        refine ⟨h2, s2, r0, ?_, ?_, r3, fun p hp => by rw [r4 p hp, upd_g, if_neg (by omega)]⟩
        · rw [← r1]
          show m_X0_seatAnew_L86 _ _ _ _ (q_it2 (m_X0_seatAnew_L86 k2 (nI A) lf K1) f1) _ _ _ = _
          generalize q_it2 (m_X0_seatAnew_L86 k2 (nI A) lf K1) f1 = self
          unfold m_X0_seatAnew_L86
          have x3 : q_ald (q_st u0 (k2 + 3) s) (k2 + 3) 5 (nI b) = some (nI (G b)) := by rw [ald_n (by omega) (by omega), e3, hsb]
          have y3 : ∀ z, q_ast (q_st u0 (k2 + 3) s) (k2 + 3) 5 (nI b) z = some (q_st u0 (k2 + 3) (upd s b z)) := fun z => by rw [q_ast_ok (by omega) (by omega), q_st_st, e3]
          simp only [lit_n, mI_lit, nI_add, if_neg c1, gr', q_bd_some, q_jn, if_neg em, x3, Option.bind_some, y3, q_let, q1]
        · rw [← r2]
          show m_X11_findsGiven_L106 _ _ _ (q_it2 (m_X11_findsGiven_L106 (nI A) lf K2) f2) _ _ _ = _
          generalize q_it2 (m_X11_findsGiven_L106 (nI A) lf K2) f2 = self
          unfold m_X11_findsGiven_L106
          have hr' : ∀ K : Int32 → qS → qR, q_it2 (m_X11_findsGiven_L122 (nI A) lf (nI h) (nI i) K) q_F mI (nI 0) v = K (nI b) v := fun K => by rw [hr, hb]; rfl
          simp only [lit_n, mI_lit, nI_add, if_neg c1, if_neg cA, hr', q_jn, if_neg em, q_let, q1]
theorem give_it {P h : Nat} {G : Nat → Nat} {v0 : qS} {re : Nat → Int32} {K : qS → qR} (hP5 : P ≤ 5) (hh : h < 32) (hv6 : v0.1 163 6 = nI P) :
    ∀ (n p f : Nat) (ga : Nat → Int32), p + n = P → n < f → (∀ q, q < P → ga q = nI (G q + if q < p ∧ lk h q = true then 1 else 0)) →
      ∃ ga2, q_it1 (m_X11_findsGiven_L190 (nI h) K) f (nI p) (q_st (q_st v0 182 ga) 183 re) = K (q_st (q_st v0 182 ga2) 183 re) ∧ ∀ q, q < P → ga2 q = nI (G q + if lk h q = true then 1 else 0)
  | n, p, 0, ga, hp, hf, hg => by omega
  | 0, p, f + 1, ga, hp, hf, hg => by
    refine ⟨ga, ?_, fun q hq => by rw [hg q hq]; simp only [show q < p by omega, true_and]⟩
    show m_X11_findsGiven_L190 _ _ _ _ _ = _
    unfold m_X11_findsGiven_L190
    rw [if_pos (by rw [q_st_g, if_neg (by omega), q_st_g, if_neg (by omega), hv6, nI_t (by omega), nI_t (by omega)]; omega)]
  | n + 1, p, f + 1, ga, hp, hf, hg => by
    have e0 : ∀ y z, (q_st (q_st v0 182 y) 183 z).1 163 = v0.1 163 := fun y z => by rw [q_st_g, if_neg (by omega), q_st_g, if_neg (by omega)]
    have c1 : ¬ (nI P).toInt ≤ (nI p).toInt := by rw [nI_t (by omega), nI_t (by omega)]; omega
    have hlk := has_r (v := q_st (q_st v0 182 ga) 183 re) hh (show p < 5 by omega)
    have hgp := hg p (by omega)
    rw [if_neg (by omega)] at hgp
    cases hl : lk h p with
    | true =>
      rw [hl, if_pos rfl] at hlk
      obtain ⟨ga2, r1, r2⟩ := give_it (G := G) (re := re) (K := K) hP5 hh hv6 n (p + 1) f (upd ga p (nI (G p + 1))) (by omega) (by omega) (fun q hq => by
        rw [upd_g]
        by_cases e : q = p
        · subst e; rw [if_pos rfl, if_pos ⟨by omega, hl⟩]
        · rw [if_neg e, hg q hq]
          have : (q < p ∧ lk h q = true) ↔ (q < p + 1 ∧ lk h q = true) := by constructor <;> (intro ⟨a, b⟩; exact ⟨by omega, b⟩)
          simp only [this])
      refine ⟨ga2, ?_, r2⟩
      rw [← r1]
      show m_X11_findsGiven_L190 _ _ (q_it1 (m_X11_findsGiven_L190 (nI h) K) f) _ _ = _
      generalize q_it1 (m_X11_findsGiven_L190 (nI h) K) f = self
      unfold m_X11_findsGiven_L190
      have n1 : ¬ (nI 1).toInt = 0 := by decide
      have x2 : q_ald (q_st (q_st v0 182 ga) 183 re) 182 5 (nI p) = some (nI (G p)) := by rw [ald_n (by omega) (by omega), q_st_g, if_neg (by omega), q_st_g, if_pos rfl, hgp]; rfl
      have y2 : ∀ z, q_ast (q_st (q_st v0 182 ga) 183 re) 182 5 (nI p) z = some (q_st (q_st v0 182 (upd ga p z)) 183 re) := fun z => by
        rw [q_ast_ok (by omega) (by omega)]
        refine congrArg some (q_ext (fun c i => ?_) rfl)
        simp only [q_st_g]
        by_cases h1 : c = 182
        · subst h1; rfl
        · by_cases h2 : c = 183
          · subst h2; rfl
          · simp only [if_neg h1, if_neg h2]
      simp only [e0, hv6, if_neg c1, hlk, q_bd_some, q_jn, if_neg n1, x2, Option.bind_some, lit_n, nI_add, y2]
    | false =>
      rw [hl, if_neg (by decide)] at hlk
      obtain ⟨ga2, r1, r2⟩ := give_it (G := G) (re := re) (K := K) hP5 hh hv6 n (p + 1) f ga (by omega) (by omega) (fun q hq => by
        rw [hg q hq]
        have : (q < p ∧ lk h q = true) ↔ (q < p + 1 ∧ lk h q = true) := by
          constructor
          · intro ⟨a, b⟩; exact ⟨by omega, b⟩
          · intro ⟨a, b⟩
            refine ⟨?_, b⟩
            by_cases e : q = p
            · rw [e, hl] at b; cases b
            · omega
        simp only [this])
      refine ⟨ga2, ?_, r2⟩
      rw [← r1]
      show m_X11_findsGiven_L190 _ _ (q_it1 (m_X11_findsGiven_L190 (nI h) K) f) _ _ = _
      generalize q_it1 (m_X11_findsGiven_L190 (nI h) K) f = self
      unfold m_X11_findsGiven_L190
      have n0 : (nI 0).toInt = 0 := rfl
      simp only [e0, hv6, if_neg c1, hlk, q_bd_some, q_jn, n0, if_true, lit_n, nI_add]
theorem zero_it {P : Nat} {v0 : qS} {K : Int32 → qS → qR} (hP5 : P ≤ 5) (hv6 : v0.1 163 6 = nI P) :
    ∀ (n p f : Nat) (lf : Int32) (ga re : Nat → Int32), p + n = P → n < f → (∀ q, q < p → ga q = v0.1 164 (10 + q)) →
      ∃ (lf2 : Int32) (ga2 re2 : Nat → Int32), q_it2 (m_X11_findsGiven_L12 (nI 0) K) f lf (nI p) (q_st (q_st v0 182 ga) 183 re) = K lf2 (q_st (q_st v0 182 ga2) 183 re2) ∧ ∀ q, q < P → ga2 q = v0.1 164 (10 + q)
  | n, p, 0, lf, ga, re, hp, hf, hg => by omega
  | 0, p, f + 1, lf, ga, re, hp, hf, hg => by
    refine ⟨lf, ga, re, ?_, fun q hq => hg q (by omega)⟩
    show m_X11_findsGiven_L12 _ _ _ _ _ _ = _
    unfold m_X11_findsGiven_L12
    rw [if_pos (by rw [q_st_g, if_neg (by omega), q_st_g, if_neg (by omega), hv6, nI_t (by omega), nI_t (by omega)]; omega)]
  | n + 1, p, f + 1, lf, ga, re, hp, hf, hg => by
    have e0 : ∀ y z, (q_st (q_st v0 182 y) 183 z).1 163 = v0.1 163 := fun y z => by rw [q_st_g, if_neg (by omega), q_st_g, if_neg (by omega)]
    have c1 : ¬ (nI P).toInt ≤ (nI p).toInt := by rw [nI_t (by omega), nI_t (by omega)]; omega
    obtain ⟨lf2, ga2, re2, r1, r2⟩ := zero_it (K := K) hP5 hv6 n (p + 1) f (lf - v0.1 164 (10 + p)) (upd ga p (v0.1 164 (10 + p))) (upd re p (nI 0)) (by omega) (by omega) (fun q hq => by
      rw [upd_g]
      by_cases e : q = p
      · rw [if_pos e, e]
      · rw [if_neg e]; exact hg q (by omega))
    refine ⟨lf2, ga2, re2, ?_, r2⟩
    rw [← r1]
    show m_X11_findsGiven_L12 _ _ (q_it2 (m_X11_findsGiven_L12 (nI 0) K) f) _ _ _ = _
    generalize q_it2 (m_X11_findsGiven_L12 (nI 0) K) f = self
    unfold m_X11_findsGiven_L12
    have n0 : (nI 0).toInt = 0 := rfl
    have x2 : q_ald (q_st (q_st v0 182 ga) 183 re) 164 136 (nI (10 + p)) = some (v0.1 164 (10 + p)) := by rw [ald_n (by omega) (by omega), q_st_g, if_neg (by omega), q_st_g, if_neg (by omega)]
    have y2 : ∀ z, q_ast (q_st (q_st v0 182 ga) 183 re) 182 5 (nI p) z = some (q_st (q_st v0 182 (upd ga p z)) 183 re) := fun z => by
      rw [q_ast_ok (by omega) (by omega)]
      refine congrArg some (q_ext (fun c i => ?_) rfl)
      simp only [q_st_g]
      by_cases h1 : c = 182
      · subst h1; rfl
      · by_cases h2 : c = 183
        · subst h2; rfl
        · simp only [if_neg h1, if_neg h2]
    have y3 : ∀ y z, q_ast (q_st (q_st v0 182 y) 183 re) 183 5 (nI p) z = some (q_st (q_st v0 182 y) 183 (upd re p z)) := fun y z => by rw [q_ast_ok (by omega) (by omega), q_st_st, q_st_g, if_pos rfl]
    have x3 : ∀ y z, q_ald (q_st (q_st v0 182 (upd ga p y)) 183 z) 182 5 (nI p) = some y := fun y z => by rw [ald_n (by omega) (by omega), q_st_g, if_neg (by omega), q_st_g, if_pos rfl, upd_g, if_pos rfl]
    simp only [e0, hv6, if_neg c1, n0, if_true, x2, Option.bind_some, y2, y3, x3, q_let, q_jn, lit_n, nI_add]
theorem zz {f : Nat} {lf2 : Int32} {K : Int32 → qS → qR} {w : qS} : q_it2 (m_X11_findsGiven_L106 (nI 0) lf2 K) (f + 1) (nI 0) (nI 0) w = K (nI 0) w := by
  show m_X11_findsGiven_L106 _ _ _ _ _ _ _ = _
  unfold m_X11_findsGiven_L106
  by_cases h : lf2.toInt ≤ (nI 0).toInt
  · rw [if_pos h]
  · rw [if_neg h, if_pos (by decide)]
theorem seat_s {P : Nat} {u v : qS} (hk : k2 = 2 ∨ k2 = 92) (hC : RC k2 u.1 (v.1 164) (v.1 163)) (hB : BC (v.1 164) (v.1 163)) (hG : BG (v.1 163)) (hP : v.1 163 6 = nI P) (hP5 : P ≤ 5) :
    ∃ s ga re, m_X0_seatAnew k2 u = some (nI 0, q_st u (k2 + 3) s) ∧ m_X11_findsGiven v = some (nI 0, q_st (q_st v 182 ga) 183 re) ∧ (∀ p, p < P → ∃ x : Nat, x ≤ 100 ∧ s p = nI x ∧ ga p = nI x) ∧ (∀ p, P ≤ p → s p = u.1 (k2 + 3) p) := by
  have hA9 := vsm_le hB P 0 (by omega)
  obtain ⟨A, hAe⟩ : ∃ A, vsm (v.1 164) 0 P = A := ⟨_, rfl⟩
  have hch := hG.2.2.2.2.1
  have t9 : (nI 9).toInt = 9 := rfl
  have hct : (v.1 163 10 + nI 9).toInt = (v.1 163 10).toInt + 9 := by rw [i32_add] <;> rw [t9] <;> omega
  obtain ⟨C, hC9, hC1, hC2⟩ := nI_ex (x := v.1 163 10 + nI 9) (b := 99) (by omega) (by omega) (by omega)
  have hvst : q_st (q_st v 182 (v.1 182)) 183 (v.1 183) = v := by rw [q_st_self (u := v) rfl, q_st_self rfl]
  have hust : q_st u (k2 + 3) (u.1 (k2 + 3)) = u := q_st_self rfl
  have va : m_X11_votesInAll v = some (nI A, v) := by
    unfold m_X11_votesInAll
    have := vsm_r (v := v) (K := fun x1 u_1 => some (x1, u_1)) hB hP hP5 P 0 q_F 0 (by omega) (by rw [q_F_eq]; omega)
    rw [hAe, Nat.zero_add] at this
    simp only [lit_n]
    exact this
  have ch : m_X11_chairs v = some (nI C, v) := by unfold m_X11_chairs; simp only [lit_n, hC1]
  have va1 := vsm_c (k2 := k2) (u := u) (K := fun x1 u_1 =>
    if 0 < x1.toInt then
      q_let (u_1.1 k2 4) fun y2 =>
      q_it2 (m_X0_seatAnew_L39 k2 x1 (fun x2 u_5 =>
        q_it2 (m_X0_seatAnew_L86 k2 x1 x2 (fun  u_10 =>
          some (nI 0, u_10))) q_F (nI 0) (nI 0) u_5)) q_F y2 (nI 0) u_1
    else
      some (nI 0, u_1)) hC hB hP hP5 P 0 q_F 0 (by omega) (by rw [q_F_eq]; omega)
  rw [hAe, Nat.zero_add] at va1
  unfold m_X0_seatAnew m_X11_findsGiven
  simp only [lit_n]
  rw [va, q_bd_s', ch, q_bd_s', va1]
  by_cases hA0 : A = 0
  · subst hA0
    rw [if_neg (by decide)]
    obtain ⟨lf2, ga2, re2, r1, r2⟩ := zero_it (v0 := v) (K := fun x2 u_17 =>
      q_it2 (m_X11_findsGiven_L106 (nI 0) x2 (fun x3 u_27 =>
        q_it1 (m_X11_findsGiven_L190 x3 (fun  u_31 =>
          some (nI 0, u_31))) q_F (nI 0) u_27)) q_F (nI 0) (nI 0) u_17) hP5 hP P 0 q_F (nI C) (v.1 182) (v.1 183) (by omega) (by rw [q_F_eq]; omega) (fun q hq => by omega)
    rw [hvst] at r1
    rw [r1]
    have z1 : ∀ (K : Int32 → qS → qR) (w : qS), q_it2 (m_X11_findsGiven_L106 (nI 0) lf2 K) q_F (nI 0) (nI 0) w = K (nI 0) w := fun K w => zz (f := 2999)
    rw [z1]
    have hse : ∀ q, q < P → ∃ x : Nat, x ≤ 100 ∧ v.1 164 (10 + q) = nI x ∧ u.1 (k2 + 3) q = nI x := fun q hq => by
      obtain ⟨x, a, b, -⟩ := hB.seats (p := q) (by omega)
      exact ⟨x, a, b, by rw [hC.seats (by omega), b]⟩
    have hl0 : ∀ q, q < 5 → lk 0 q = false := by decide
    obtain ⟨ga3, r3, r4⟩ := give_it (P := P) (h := 0) (G := fun q => (v.1 164 (10 + q)).toInt.toNat) (v0 := v) (re := re2) (K := fun u_31 => some (nI 0, u_31)) hP5 (by omega) hP P 0 q_F ga2 (by omega) (by rw [q_F_eq]; omega) (fun q hq => by
      rw [if_neg (by omega), r2 q hq]
      obtain ⟨x, a, b, -⟩ := hse q hq
      rw [b, nI_tN (by omega)]; rfl)
    rw [r3]
    refine ⟨u.1 (k2 + 3), ga3, re2, by rw [hust], rfl, fun p hp => ?_, fun _ _ => rfl⟩
    obtain ⟨x, a, b, c⟩ := hse p hp
    refine ⟨x, a, c, ?_⟩
    rw [r4 p hp, hl0 p (by omega), b, nI_tN (by omega)]; rfl
  · rw [if_pos (by rw [nI_t (by omega)]; omega)]
    have huV : ∀ p, p < P → u.1 (k2 + 2) p = nI (v.1 164 (5 + p)).toInt.toNat := fun p hp => by
      obtain ⟨x, a, b, c⟩ := hB.votes (p := p) (by omega)
      rw [hC.votes (by omega), b, nI_tN (by omega)]
    have hvV : ∀ p, p < P → v.1 164 (5 + p) = nI (v.1 164 (5 + p)).toInt.toNat := fun p hp => by
      obtain ⟨x, a, b, c⟩ := hB.votes (p := p) (by omega)
      rw [b, nI_tN (by omega)]
    have hV9 : ∀ p, p < P → (v.1 164 (5 + p)).toInt.toNat ≤ 9999 := fun p hp => by
      obtain ⟨x, a, b, c⟩ := hB.votes (p := p) (by omega)
      rw [b, nI_tN (by omega)]; exact a
    have hVA : ∀ p, p < P → (v.1 164 (5 + p)).toInt.toNat ≤ A := fun p hp => by
      rw [← hAe]; exact vsm_ge hB P 0 p (by omega) (by omega) (by omega)
    have hu7 : u.1 k2 7 = nI P := by rw [hC.parties, hP]
    have hu4 : u.1 k2 4 = nI C := by rw [hC.chairs, hC1]
    obtain ⟨lf2, s2, ga2, re2, r1, r2, r3, r4, r5⟩ := down_it (k2 := k2) (V := fun p => (v.1 164 (5 + p)).toInt.toNat) (A := A) (C := C) (u0 := u) (v0 := v) (K1 := fun x2 u_5 =>
        q_it2 (m_X0_seatAnew_L86 k2 (nI A) x2 (fun  u_10 =>
          some (nI 0, u_10))) q_F (nI 0) (nI 0) u_5) (K2 := fun x2 u_17 =>
      q_it2 (m_X11_findsGiven_L106 (nI A) x2 (fun x3 u_27 =>
        q_it1 (m_X11_findsGiven_L190 x3 (fun  u_31 =>
          some (nI 0, u_31))) q_F (nI 0) u_27)) q_F (nI 0) (nI 0) u_17) hP5 hC9 (by omega) (by omega) hk hu7 hu4 hP hC1 huV hvV hV9 hVA P 0 q_F q_F (nI C) (u.1 (k2 + 3)) (v.1 182) (v.1 183) (by omega) (by rw [q_F_eq]; omega) (by rw [q_F_eq]; omega) (fun q hq => by omega)
    rw [hust] at r1
    rw [hvst] at r2
    simp only [q_let, hu4]
    rw [r1, r2]
    have hlf := (r5 (by rw [nI_t (by omega)]; omega) (by rw [nI_t (by omega)]; omega)).2
    have hG9 : ∀ p, p < P → (v.1 164 (5 + p)).toInt.toNat * C / A ≤ 99 := fun p hp => Nat.le_trans (Nat.div_le_of_le_mul (Nat.mul_le_mul_right C (hVA p hp))) hC9
    have hl0 : ∀ q, q < 5 → lk 0 q = false := by decide
    have e63 : (q_st (q_st v 182 ga2) 183 re2).1 163 6 = nI P := hP
    obtain ⟨h2, s3, g0, g1, g2, g3, g4⟩ := lucky_it (k2 := k2) (V := fun p => (v.1 164 (5 + p)).toInt.toNat) (G := fun p => (v.1 164 (5 + p)).toInt.toNat * C / A) (A := A) (C := C) (u0 := u) (v := q_st (q_st v 182 ga2) 183 re2) (lf := lf2) (K1 := fun u_10 => some (nI 0, u_10)) (K2 := fun x3 u_27 =>
        q_it1 (m_X11_findsGiven_L190 x3 (fun  u_31 =>
          some (nI 0, u_31))) q_F (nI 0) u_27) hk hP5 hC9 (by omega) (by omega) hlf hu7 hu4 e63 huV hV9 hG9 (fun p hp => by rw [q_st_g, if_neg (by omega), q_st_g, if_pos rfl]; exact (r3 p hp).2.1) (fun p hp => by rw [q_st_g, if_pos rfl]; exact (r3 p hp).2.2) 100 0 0 q_F q_F s2 (by omega) (by rw [q_F_eq]; omega) (by rw [q_F_eq]; omega) (by omega) (fun p hp => by rw [hl0 p (by omega)]; exact (r3 p hp).1)
    rw [g1, g2]
    obtain ⟨ga3, d1, d2⟩ := give_it (P := P) (h := h2) (G := fun p => (v.1 164 (5 + p)).toInt.toNat * C / A) (v0 := v) (re := re2) (K := fun u_31 => some (nI 0, u_31)) hP5 g0 hP P 0 q_F ga2 (by omega) (by rw [q_F_eq]; omega) (fun q hq => by
      rw [if_neg (by omega)]; exact (r3 q hq).2.1)
    rw [d1]
    refine ⟨s3, ga3, re2, rfl, rfl, fun p hp => ?_, fun p hp => by rw [g4 p hp, r4 p hp]⟩
    have := hG9 p hp
    refine ⟨_, ?_, g3 p hp, d2 p hp⟩
    split <;> omega
end
