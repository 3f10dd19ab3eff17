/-! LAYER 2: seats -/
def bsg (c : Nat → Bool) (lt : Nat → Nat → Bool) : Nat → Nat → Option Nat → Option Nat
  | _, 0, b => b
  | t, n + 1, b => bsg c lt (t + 1) n (if c t = true ∧ (∀ q, b = some q → lt q t = true) then some t else b)
theorem bsg_c {c : Nat → Bool} {lt : Nat → Nat → Bool} : ∀ (n t : Nat) (b : Option Nat) (r : Nat), bsg c lt t n b = some r → b = some r ∨ (t ≤ r ∧ r < t + n ∧ c r = true)
  | 0, t, b, r, h => Or.inl h
  | n + 1, t, b, r, h => by
    unfold bsg at h
    rcases bsg_c n (t + 1) _ r h with h1 | h1
    · split at h1
      · rename_i hc
        cases h1
        exact Or.inr ⟨by omega, by omega, hc.1⟩
      · exact Or.inl h1
    · exact Or.inr ⟨by omega, by omega, h1.2.2⟩
def mr (g : Nat → Int32) : Option Nat → Int32
  | none => mI
  | some q => g q
def lk (h p : Nat) : Bool := decide (h / 2 ^ p % 2 = 1)
set_option maxRecDepth 100000 in
theorem lk_t : ∀ h, h < 32 → ∀ p, p < 5 → (nI h >>> (nI p &&& nI 31)) &&& nI 1 = (if lk h p = true then nI 1 else nI 0) := by decide +kernel
set_option maxRecDepth 100000 in
theorem lk_s : ∀ h, h < 32 → ∀ b, b < 5 → lk h b = false → nI h ||| (nI 1 <<< (nI b &&& nI 31)) = nI (h + 2 ^ b) ∧ h + 2 ^ b < 32 ∧ ∀ p, p < 5 → lk (h + 2 ^ b) p = (decide (p = b) || lk h p) := by decide +kernel
theorem has_r {h p : Nat} {v : qS} (hh : h < 32) (hp : p < 5) : m_X11_has (nI h) (nI p) v = some ((if lk h p = true then nI 1 else nI 0), v) := by
  unfold m_X11_has
  simp only [lit_n, lk_t h hh p hp]
  cases lk h p <;> rfl
section
variable {k2 : Nat} {u v : qS}
def vsm (f : Nat → Int32) (p : Nat) : Nat → Nat
  | 0 => 0
  | n + 1 => (f (5 + p)).toInt.toNat + vsm f (p + 1) n
theorem vsm_s {f : Nat → Int32} {p n : Nat} : vsm f p (n + 1) = (f (5 + p)).toInt.toNat + vsm f (p + 1) n := rfl
theorem vsm_le {f g : Nat → Int32} (hB : BC f g) : ∀ (n p : Nat), p + n ≤ 5 → vsm f p n ≤ 9999 * n
  | 0, p, h => Nat.le_refl _
  | n + 1, p, h => by
    unfold vsm
    obtain ⟨V, hV, V1, V2⟩ := hB.votes (p := p) (by omega)
    have := vsm_le hB n (p + 1) (by omega)
    rw [V2, show ((V : Int).toNat) = V from rfl]
    omega
theorem vsm_ge {f g : Nat → Int32} (hB : BC f g) : ∀ (n p q : Nat), p + n ≤ 5 → p ≤ q → q < p + n → (f (5 + q)).toInt.toNat ≤ vsm f p n
  | 0, p, q, h, h1, h2 => by omega
  | n + 1, p, q, h, h1, h2 => by
    unfold vsm
    by_cases e : q = p
    · subst e; omega
    · have := vsm_ge hB n (p + 1) q (by omega) (by omega) (by omega); omega
theorem vsm_c {P : Nat} {K : Int32 → qS → qR} {g : Nat → Int32} {fr : Nat → Int32} (hC : RC k2 u.1 fr g) (hB : BC fr g) (hP : g 6 = nI P) (hP5 : P ≤ 5) : ∀ (n p f a : Nat), p + n = P → n < f → q_it2 (m_X0_seatAnew_L4 k2 K) f (nI a) (nI p) u = K (nI (a + vsm fr p n)) u
  | n, p, 0, a, hp, hf => by omega
  | 0, p, f + 1, a, hp, hf => by
    show m_X0_seatAnew_L4 _ _ _ _ _ _ = _
    unfold m_X0_seatAnew_L4
    rw [hC.parties, hP, if_pos (by rw [nI_t (by omega), nI_t (by omega)]; omega)]; rfl
  | n + 1, p, f + 1, a, hp, hf => by
    obtain ⟨V, hV, V1, V2⟩ := hB.votes (p := p) (by omega)
    have ih := vsm_c (K := K) hC hB hP hP5 n (p + 1) f (a + V) (by omega) (by omega)
    show m_X0_seatAnew_L4 _ _ (q_it2 (m_X0_seatAnew_L4 k2 K) f) _ _ _ = _
    generalize q_it2 (m_X0_seatAnew_L4 k2 K) f = self at ih ⊢
    unfold m_X0_seatAnew_L4
    have c1 : ¬ (u.1 k2 7).toInt ≤ (nI p).toInt := by rw [hC.parties, hP, nI_t (by omega), nI_t (by omega)]; omega
    have x2 : q_ald u (k2 + 2) 5 (nI p) = some (nI V) := by rw [ald_n (by omega) (by omega), hC.votes (by omega), V1]
    simp only [if_neg c1, x2, Option.bind_some, q_let, lit_n, nI_add, ih]
    rw [vsm_s, V2, show ((V : Int).toNat) = V from rfl, show a + V + vsm fr (p + 1) n = a + (V + vsm fr (p + 1) n) by omega]
theorem vsm_r {P : Nat} {K : Int32 → qS → qR} (hB : BC (v.1 164) (v.1 163)) (hP : v.1 163 6 = nI P) (hP5 : P ≤ 5) : ∀ (n p f a : Nat), p + n = P → n < f → q_it2 (m_X11_votesInAll_L4 K) f (nI a) (nI p) v = K (nI (a + vsm (v.1 164) p n)) v
  | n, p, 0, a, hp, hf => by omega
  | 0, p, f + 1, a, hp, hf => by
    show m_X11_votesInAll_L4 _ _ _ _ _ = _
    unfold m_X11_votesInAll_L4
    rw [hP, if_pos (by rw [nI_t (by omega), nI_t (by omega)]; omega)]; rfl
  | n + 1, p, f + 1, a, hp, hf => by
    obtain ⟨V, hV, V1, V2⟩ := hB.votes (p := p) (by omega)
    have ih := vsm_r (K := K) hB hP hP5 n (p + 1) f (a + V) (by omega) (by omega)
    show m_X11_votesInAll_L4 _ (q_it2 (m_X11_votesInAll_L4 K) f) _ _ _ = _
    generalize q_it2 (m_X11_votesInAll_L4 K) f = self at ih ⊢
    unfold m_X11_votesInAll_L4
    have c1 : ¬ (v.1 163 6).toInt ≤ (nI p).toInt := by rw [hP, nI_t (by omega), nI_t (by omega)]; omega
    have x2 : q_ald v 164 136 (nI (5 + p)) = some (nI V) := by rw [ald_n (by omega) (by omega), V1]
    simp only [if_neg c1, x2, Option.bind_some, q_let, lit_n, nI_add, ih]
    rw [vsm_s, V2, show ((V : Int).toNat) = V from rfl, show a + V + vsm (v.1 164) (p + 1) n = a + (V + vsm (v.1 164) (p + 1) n) by omega]
theorem q_div_n {a d : Nat} (ha : a < 2147483648) (hd : d < 2147483648) (h0 : 0 < d) : q_div (nI a) (nI d) = some (nI (a / d)) := by
  unfold q_div
  rw [if_neg (by intro e; have := congrArg Int32.toInt e; rw [nI_t hd] at this; have h2 : (0 : Int32).toInt = 0 := rfl; rw [h2] at this; omega), pk_div (by omega) h0 (by omega)]
theorem q_rem_n {a d : Nat} (ha : a < 2147483648) (hd : d < 2147483648) (h0 : 0 < d) : q_rem (nI a) (nI d) = some (nI (a % d)) := by
  unfold q_rem
  rw [if_neg (by intro e; have := congrArg Int32.toInt e; rw [nI_t hd] at this; have h2 : (0 : Int32).toInt = 0 := rfl; rw [h2] at this; omega), pk_rem (by omega) h0 (by omega)]
/-- the seats downwards: the class's row, the reference's two rows -/
theorem down_it {P A C : Nat} {K1 K2 : Int32 → qS → qR} {V : Nat → Nat} {u0 v0 : qS} (hP5 : P ≤ 5) (hC9 : C ≤ 99) (hA : 0 < A) (hA9 : A < 100000) (hk : k2 = 2 ∨ k2 = 92) (hu7 : u0.1 k2 7 = nI P) (hu4 : u0.1 k2 4 = nI C) (hv6 : v0.1 163 6 = nI P) (hv10 : v0.1 163 10 + nI 9 = nI C) (huV : ∀ p, p < P → u0.1 (k2 + 2) p = nI (V p)) (hvV : ∀ p, p < P → v0.1 164 (5 + p) = nI (V p)) (hV9 : ∀ p, p < P → V p ≤ 9999) (hVA : ∀ p, p < P → V p ≤ A) :
    ∀ (n p f1 f2 : Nat) (lf : Int32) (s ga re : Nat → Int32), p + n = P → n < f1 → n < f2 → (∀ q, q < p → s q = nI (V q * C / A) ∧ ga q = nI (V q * C / A) ∧ re q = nI (V q * C % A)) →
      ∃ (lf2 : Int32) (s2 ga2 re2 : Nat → Int32), q_it2 (m_X0_seatAnew_L39 k2 (nI A) K1) f1 lf (nI p) (q_st u0 (k2 + 3) s) = K1 lf2 (q_st u0 (k2 + 3) s2) ∧ q_it2 (m_X11_findsGiven_L12 (nI A) K2) f2 lf (nI p) (q_st (q_st v0 182 ga) 183 re) = K2 lf2 (q_st (q_st v0 182 ga2) 183 re2) ∧ (∀ q, q < P → s2 q = nI (V q * C / A) ∧ ga2 q = nI (V q * C / A) ∧ re2 q = nI (V q * C % A)) ∧ (∀ q, P ≤ q → s2 q = s q) ∧ (lf.toInt ≤ 99 → -1000 - (p : Int) * 100 ≤ lf.toInt → -1000 - (P : Int) * 100 ≤ lf2.toInt ∧ lf2.toInt ≤ 99)
  | n, p, 0, f2, lf, s, ga, re, hp, hf1, hf2, hq => by omega
  | n, p, f1, 0, lf, s, ga, re, hp, hf1, hf2, hq => by omega
  | 0, p, f1 + 1, f2 + 1, lf, s, ga, re, hp, hf1, hf2, hq => by
    have hpP : p = P := by omega
    subst hpP
    refine ⟨lf, s, ga, re, ?_, ?_, hq, fun q _ => rfl, fun h1 h2 => ⟨h2, h1⟩⟩
    · show m_X0_seatAnew_L39 _ _ _ _ _ _ _ = _
      unfold m_X0_seatAnew_L39
      rw [if_pos (by rw [q_st_g, if_neg (by omega), hu7]; omega)]
    · show m_X11_findsGiven_L12 _ _ _ _ _ _ = _
      unfold m_X11_findsGiven_L12
      rw [if_pos (by rw [q_st_g, if_neg (by omega), q_st_g, if_neg (by omega), hv6]; omega)]
  | n + 1, p, f1 + 1, f2 + 1, lf, s, ga, re, hp, hf1, hf2, hq => by
    have hVp := hV9 p (by omega)
    have hVC : V p * C ≤ 9999 * 99 := Nat.mul_le_mul hVp hC9
    have dv := q_div_n (a := V p * C) (d := A) (by omega) (by omega) hA
    have rm := q_rem_n (a := V p * C) (d := A) (by omega) (by omega) hA
    have hdl : V p * C / A ≤ 9999 * 99 := Nat.le_trans (Nat.div_le_self _ _) hVC
    obtain ⟨lf2, s2, ga2, re2, r1, r2, r3, r4, r5⟩ := down_it (K1 := K1) (K2 := K2) hP5 hC9 hA hA9 hk hu7 hu4 hv6 hv10 huV hvV hV9 hVA n (p + 1) f1 f2 (lf - nI (V p * C / A)) (upd s p (nI (V p * C / A))) (upd ga p (nI (V p * C / A))) (upd re p (nI (V p * C % A))) (by omega) (by omega) (by omega) (fun q hq2 => by
      by_cases e : q = p
      · subst e; simp only [upd_g, if_true, and_self]
      · simp only [upd_g, if_neg e]; exact hq q (by omega))
    refine ⟨lf2, s2, ga2, re2, ?_, ?_, r3, fun q hq2 => by rw [r4 q hq2, upd_g, if_neg (by omega)], ?_⟩
    · rw [← r1]
      show m_X0_seatAnew_L39 _ _ _ (q_it2 (m_X0_seatAnew_L39 k2 (nI A) K1) f1) _ _ _ = _
      generalize q_it2 (m_X0_seatAnew_L39 k2 (nI A) K1) f1 = self
      unfold m_X0_seatAnew_L39
      have e0 : ∀ z, (q_st u0 (k2 + 3) z).1 k2 = u0.1 k2 := fun z => by rw [q_st_g, if_neg (by omega)]
      have c1 : ¬ (nI P).toInt ≤ (nI p).toInt := by rw [nI_t (by omega), nI_t (by omega)]; omega
      have x2 : q_ald (q_st u0 (k2 + 3) s) (k2 + 2) 5 (nI p) = some (nI (V p)) := by rw [ald_n (by omega) (by omega), q_st_g, if_neg (by omega), huV p (by omega)]
      have y2 : ∀ z, q_ast (q_st u0 (k2 + 3) s) (k2 + 3) 5 (nI p) z = some (q_st u0 (k2 + 3) (upd s p z)) := fun z => by rw [q_ast_ok (by omega) (by omega), q_st_st, q_st_g, if_pos rfl]
      have x3 : ∀ z, q_ald (q_st u0 (k2 + 3) (upd s p z)) (k2 + 3) 5 (nI p) = some z := fun z => by rw [ald_n (by omega) (by omega), q_st_g, if_pos rfl, upd_g, if_pos rfl]
      simp only [e0, hu7, hu4, if_neg c1, x2, Option.bind_some, pk_mul, dv, y2, x3, q_let, lit_n, nI_add]
    · rw [← r2]
      show m_X11_findsGiven_L12 _ _ (q_it2 (m_X11_findsGiven_L12 (nI A) K2) f2) _ _ _ = _
      generalize q_it2 (m_X11_findsGiven_L12 (nI A) K2) f2 = self
      unfold m_X11_findsGiven_L12
      have e0 : ∀ y z, (q_st (q_st v0 182 y) 183 z).1 163 = v0.1 163 := fun y z => by rw [q_st_g, if_neg (by omega), q_st_g, if_neg (by omega)]
      have c1 : ¬ (nI P).toInt ≤ (nI p).toInt := by rw [nI_t (by omega), nI_t (by omega)]; omega
      have c2 : ¬ (nI A).toInt = 0 := by rw [nI_t (by omega)]; omega
      have x2 : ∀ y z, q_ald (q_st (q_st v0 182 y) 183 z) 164 136 (nI (5 + p)) = some (nI (V p)) := fun y z => by rw [ald_n (by omega) (by omega), q_st_g, if_neg (by omega), q_st_g, if_neg (by omega), hvV p (by omega)]
      have y2 : ∀ z, q_ast (q_st (q_st v0 182 ga) 183 re) 182 5 (nI p) z = some (q_st (q_st v0 182 (upd ga p z)) 183 re) := fun z => by
        rw [q_ast_ok (by omega) (by omega)]
        refine congrArg some (q_ext (fun c i => ?_) rfl)
        simp only [q_st_g]
        by_cases h1 : c = 182
        · subst h1; rfl
        · by_cases h2 : c = 183
          · subst h2; rfl
          · simp only [if_neg h1, if_neg h2]
      have y3 : ∀ y z, q_ast (q_st (q_st v0 182 y) 183 re) 183 5 (nI p) z = some (q_st (q_st v0 182 y) 183 (upd re p z)) := fun y z => by rw [q_ast_ok (by omega) (by omega), q_st_st, q_st_g, if_pos rfl]
      have x3 : ∀ y z, q_ald (q_st (q_st v0 182 (upd ga p y)) 183 z) 182 5 (nI p) = some y := fun y z => by rw [ald_n (by omega) (by omega), q_st_g, if_neg (by omega), q_st_g, if_pos rfl, upd_g, if_pos rfl]
      have ch : ∀ y z, m_X11_chairs (q_st (q_st v0 182 y) 183 z) = some (nI C, q_st (q_st v0 182 y) 183 z) := fun y z => by unfold m_X11_chairs; simp only [lit_n, e0, hv10]
      simp only [e0, hv6, if_neg c1, if_neg c2, x2, Option.bind_some, ch, q_bd_some, pk_mul, dv, rm, y2, y3, x3, q_let, q_jn, lit_n, nI_add]
    · intro h1 h2
      have hd9 : V p * C / A ≤ 99 := Nat.le_trans (Nat.div_le_of_le_mul (Nat.mul_le_mul_right C (hVA p (by omega)))) hC9
      obtain ⟨d, hd⟩ : ∃ d, V p * C / A = d := ⟨_, rfl⟩
      rw [hd] at r5 hd9
      have hlf : (lf - nI d).toInt = lf.toInt - d := by
        rw [i32_sub] <;> rw [nI_t (by omega)] <;> omega
      refine r5 (by omega) (by omega)
end
section
variable {k2 : Nat}
/-- who is next: neither lucky yet; by remainder, then by seats downwards -/
def nx (G R : Nat → Nat) (h P : Nat) : Option Nat := bsg (fun p => !lk h p) (fun q t => decide (R q < R t ∨ (R t = R q ∧ G q < G t))) 0 P none
theorem next_c {P A C h : Nat} {V G : Nat → Nat} {u : qS} {K : Int32 → qS → qR} (hP5 : P ≤ 5) (hC9 : C ≤ 99) (hA : 0 < A) (hA9 : A < 100000) (hh : h < 32) (hu7 : u.1 k2 7 = nI P) (hu4 : u.1 k2 4 = nI C) (huV : ∀ p, p < P → u.1 (k2 + 2) p = nI (V p)) (hV9 : ∀ p, p < P → V p ≤ 9999) (hG : ∀ p, p < P → lk h p = false → u.1 (k2 + 3) p = nI (G p)) (hG9 : ∀ p, p < P → G p ≤ 100) :
    ∀ (n p f : Nat) (b : Option Nat), p + n = P → n < f → (∀ q, b = some q → q < P ∧ lk h q = false) →
      q_it3 (m_X0_greatestRemainder_L8 k2 (nI A) (nI h) K) f (enc b) (mr (fun q => nI (V q * C % A)) b) (nI p) u = K (enc (bsg (fun p => !lk h p) (fun q t => decide (V q * C % A < V t * C % A ∨ (V t * C % A = V q * C % A ∧ G q < G t))) p n b)) u
  | n, p, 0, b, hp, hf, hb => by omega
  | 0, p, f + 1, b, hp, hf, hb => by
    show m_X0_greatestRemainder_L8 _ _ _ _ _ _ _ _ _ = _
    unfold m_X0_greatestRemainder_L8
    rw [hu7, if_pos (by rw [nI_t (by omega), nI_t (by omega)]; omega)]; rfl
  | n + 1, p, f + 1, b, hp, hf, hb => by
    have c1 : ¬ (u.1 k2 7).toInt ≤ (nI p).toInt := by rw [hu7, nI_t (by omega), nI_t (by omega)]; omega
    have cA : ¬ (nI A).toInt ≤ 0 := by rw [nI_t (by omega)]; omega
    have hVp := hV9 p (by omega)
    have hVC : V p * C ≤ 9999 * 99 := Nat.mul_le_mul hVp hC9
    have rm := q_rem_n (a := V p * C) (d := A) (by omega) (by omega) hA
    have hrl : V p * C % A < A := Nat.mod_lt _ hA
    have x2 : q_ald u (k2 + 2) 5 (nI p) = some (nI (V p)) := by rw [ald_n (by omega) (by omega), huV p (by omega)]
    have x3 : ∀ q, q < P → lk h q = false → q_ald u (k2 + 3) 5 (nI q) = some (nI (G q)) := fun q hq hl => by rw [ald_n (by omega) (by omega), hG q hq hl]
    have hlk := lk_t h hh p (by omega)
    unfold bsg
    have key : ∀ b2 : Option Nat, (if (!lk h p) = true ∧ (∀ q, b = some q → decide (V q * C % A < V p * C % A ∨ (V p * C % A = V q * C % A ∧ G q < G p)) = true) then some p else b) = b2 → m_X0_greatestRemainder_L8 k2 (nI A) (nI h) K (q_it3 (m_X0_greatestRemainder_L8 k2 (nI A) (nI h) K) f) (enc b) (mr (fun q => nI (V q * C % A)) b) (nI p) u = q_it3 (m_X0_greatestRemainder_L8 k2 (nI A) (nI h) K) f (enc b2) (mr (fun q => nI (V q * C % A)) b2) (nI (p + 1)) u := by
      intro b2 hb2
      generalize q_it3 (m_X0_greatestRemainder_L8 k2 (nI A) (nI h) K) f = self
      unfold m_X0_greatestRemainder_L8
      cases hl : lk h p with
      | true =>
        rw [hl, if_pos rfl] at hlk
        rw [hl, if_neg (fun e => by cases e.1)] at hb2
        subst hb2
        have n1 : ¬ (nI 1).toInt = 0 := by decide
        simp only [lit_n, mI_lit, nI_add, if_neg c1, hlk, q_jn, if_neg n1]
      | false =>
        rw [hl, if_neg (by decide)] at hlk
        rw [hl] at hb2
        have n0 : (nI 0).toInt = 0 := rfl
        simp only [lit_n, mI_lit, nI_add, if_neg c1, hlk, q_jn, n0, if_true, if_neg cA, x2, Option.bind_some, hu4, pk_mul, rm]
        cases b with
        | none =>
          rw [if_pos ⟨by decide, fun q hq => by cases hq⟩] at hb2
          subst hb2
          rw [if_pos (show (enc none).toInt = mI.toInt from rfl)]; rfl
        | some q0 =>
          obtain ⟨hq0, hlq⟩ := hb q0 rfl
          have hrq : V q0 * C % A < A := Nat.mod_lt _ hA
          have em : ¬ (enc (some q0)).toInt = mI.toInt := by show ¬ (nI q0).toInt = mI.toInt; rw [nI_t (by omega), mI_t]; omega
          have tm : (mr (fun q => nI (V q * C % A)) (some q0)).toInt = ((V q0 * C % A : Nat) : Int) := nI_t (by omega)
          have tp : (nI (V p * C % A)).toInt = ((V p * C % A : Nat) : Int) := nI_t (by omega)
          obtain ⟨r0, hr0⟩ : ∃ r0, V q0 * C % A = r0 := ⟨_, rfl⟩
          obtain ⟨rp, hrp⟩ : ∃ rp, V p * C % A = rp := ⟨_, rfl⟩
          rw [hr0] at tm
          rw [hrp] at tp
          rw [if_neg em]
          by_cases h1 : r0 < rp
          · rw [if_pos ⟨by decide, fun q hq => by cases hq; exact decide_eq_true (Or.inl (by rw [hr0, hrp]; exact h1))⟩] at hb2
            subst hb2
            rw [if_pos (by rw [tm, hrp, tp]; omega)]; rfl
          · rw [if_neg (by rw [tm, hrp, tp]; omega)]
            by_cases h2 : rp = r0
            · rw [if_pos (by rw [tm, hrp, tp, h2]), x3 p (by omega) hl, Option.bind_some]
              have x3' : q_ald u (k2 + 3) 5 (enc (some q0)) = some (nI (G q0)) := x3 q0 hq0 hlq
              rw [x3', Option.bind_some]
              have g1 := hG9 p (by omega)
              have g2 := hG9 q0 hq0
              by_cases h3 : G q0 < G p
              · rw [if_pos ⟨by decide, fun q hq => by cases hq; exact decide_eq_true (Or.inr ⟨by rw [hr0, hrp]; exact h2, h3⟩)⟩] at hb2
                subst hb2
                rw [if_neg (by rw [nI_t (by omega), nI_t (by omega)]; omega)]; rfl
              · rw [if_neg (fun e => by have := of_decide_eq_true (e.2 q0 rfl); rw [hr0, hrp] at this; omega)] at hb2
                subst hb2
                rw [if_pos (by rw [nI_t (by omega), nI_t (by omega)]; omega)]
            · rw [if_neg (by rw [tm, hrp, tp]; omega)]
              rw [if_neg (fun e => by have := of_decide_eq_true (e.2 q0 rfl); rw [hr0, hrp] at this; omega)] at hb2
              subst hb2
              rfl
    refine (key _ rfl).trans ?_
    refine next_c hP5 hC9 hA hA9 hh hu7 hu4 huV hV9 hG hG9 n (p + 1) f _ (by omega) (by omega) (fun q hq => ?_)
    split at hq
    · rename_i hc
      cases hq
      exact ⟨by omega, by have := hc.1; cases hl : lk h p with | false => rfl | true => rw [hl] at this; cases this⟩
    · exact hb q hq
theorem next_r {P A h : Nat} {G R : Nat → Nat} {v : qS} {x1 x2 x4 : Int32} {K : Int32 → qS → qR} (hP5 : P ≤ 5) (hA9 : A < 100000) (hh : h < 32) (hv6 : v.1 163 6 = nI P) (hG : ∀ p, p < P → v.1 182 p = nI (G p)) (hR : ∀ p, p < P → v.1 183 p = nI (R p)) (hG9 : ∀ p, p < P → G p ≤ 100) (hR9 : ∀ p, p < P → R p < A) :
    ∀ (n p f : Nat) (b : Option Nat), p + n = P → n < f → (∀ q, b = some q → q < P) →
      q_it2 (m_X11_findsGiven_L122 x1 x2 (nI h) x4 K) f (enc b) (nI p) v = K (enc (bsg (fun p => !lk h p) (fun q t => decide (R q < R t ∨ (R t = R q ∧ G q < G t))) p n b)) v
  | n, p, 0, b, hp, hf, hb => by omega
  | 0, p, f + 1, b, hp, hf, hb => by
    show m_X11_findsGiven_L122 _ _ _ _ _ _ _ _ _ = _
    unfold m_X11_findsGiven_L122
    rw [hv6, if_pos (by rw [nI_t (by omega), nI_t (by omega)]; omega)]; rfl
  | n + 1, p, f + 1, b, hp, hf, hb => by
    have c1 : ¬ (v.1 163 6).toInt ≤ (nI p).toInt := by rw [hv6, nI_t (by omega), nI_t (by omega)]; omega
    have a2 : ∀ q, q < P → q_ald v 182 5 (nI q) = some (nI (G q)) := fun q hq => by rw [ald_n (by omega) (by omega), hG q hq]
    have a3 : ∀ q, q < P → q_ald v 183 5 (nI q) = some (nI (R q)) := fun q hq => by rw [ald_n (by omega) (by omega), hR q hq]
    unfold bsg
    have hlk := has_r (v := v) hh (show p < 5 by omega)
    have key : ∀ b2 : Option Nat, (if (!lk h p) = true ∧ (∀ q, b = some q → decide (R q < R p ∨ (R p = R q ∧ G q < G p)) = true) then some p else b) = b2 → m_X11_findsGiven_L122 x1 x2 (nI h) x4 K (q_it2 (m_X11_findsGiven_L122 x1 x2 (nI h) x4 K) f) (enc b) (nI p) v = q_it2 (m_X11_findsGiven_L122 x1 x2 (nI h) x4 K) f (enc b2) (nI (p + 1)) v := by
      intro b2 hb2
      generalize q_it2 (m_X11_findsGiven_L122 x1 x2 (nI h) x4 K) f = self
      unfold m_X11_findsGiven_L122
      cases hl : lk h p with
      | true =>
        rw [hl, if_pos rfl] at hlk
        rw [hl, if_neg (fun e => by cases e.1)] at hb2
        subst hb2
        have n1 : ¬ (nI 1).toInt = 0 := by decide
        simp only [lit_n, mI_lit, nI_add, if_neg c1, hlk, q_bd_some, q_jn, if_neg n1]
      | false =>
        rw [hl, if_neg (by decide)] at hlk
        rw [hl] at hb2
        have n0 : (nI 0).toInt = 0 := rfl
        simp only [lit_n, mI_lit, nI_add, if_neg c1, hlk, q_bd_some, q_jn, n0, if_true]
        cases b with
        | none =>
          rw [if_pos ⟨by decide, fun q hq => by cases hq⟩] at hb2
          subst hb2
          rw [if_pos (show (enc none).toInt = mI.toInt from rfl)]; rfl
        | some q0 =>
          have hq0 := hb q0 rfl
          have em : ¬ (enc (some q0)).toInt = mI.toInt := by show ¬ (nI q0).toInt = mI.toInt; rw [nI_t (by omega), mI_t]; omega
          have r1 := hR9 p (by omega)
          have r2 := hR9 q0 hq0
          have g1 := hG9 p (by omega)
          have g2 := hG9 q0 hq0
          rw [if_neg em]
          have ah : m_X11_isAhead (nI p) (enc (some q0)) v = some ((if R q0 < R p ∨ (R p = R q0 ∧ G q0 < G p) then nI 1 else nI 0), v) := by
            unfold m_X11_isAhead
            simp only [enc, a2 p (by omega), a3 p (by omega), a2 q0 hq0, a3 q0 hq0, Option.bind_some, q_jn, lit_n]
            by_cases h1 : R q0 < R p
            · rw [if_pos (by rw [nI_t (by omega), nI_t (by omega)]; omega), if_pos (Or.inl h1)]
            · rw [if_neg (by rw [nI_t (by omega), nI_t (by omega)]; omega)]
              by_cases h2 : R p = R q0
              · rw [if_pos (by rw [h2])]
                by_cases h3 : G q0 < G p
                · rw [if_neg (by rw [nI_t (by omega), nI_t (by omega)]; omega), if_pos (Or.inr ⟨h2, h3⟩)]
                · rw [if_pos (by rw [nI_t (by omega), nI_t (by omega)]; omega), if_neg (by omega)]
              · rw [if_neg (by rw [nI_t (by omega), nI_t (by omega)]; omega), if_neg (by omega)]
          by_cases h1 : R q0 < R p ∨ (R p = R q0 ∧ G q0 < G p)
          · rw [if_pos ⟨by decide, fun q hq => by cases hq; exact decide_eq_true h1⟩] at hb2
            subst hb2
            rw [if_pos h1] at ah
            rw [ah, q_bd_some, if_neg (by decide)]; rfl
          · rw [if_neg (fun e => h1 (of_decide_eq_true (e.2 q0 rfl)))] at hb2
            subst hb2
            rw [if_neg h1] at ah
            rw [ah, q_bd_some, if_pos (by rfl)]
    refine (key _ rfl).trans ?_
    refine next_r hP5 hA9 hh hv6 hG hR hG9 hR9 n (p + 1) f _ (by omega) (by omega) (fun q hq => ?_)
    split at hq
    · cases hq; omega
    · exact hb q hq
end
