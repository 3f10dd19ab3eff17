/-! LAYER 2: THE CALLS, 18: rules, weighs -/
def ssF (s : Nat → Nat) (h : Nat) : Nat → Nat → Nat
  | _, 0 => 0
  | p, n + 1 => (if lk h p = true then s p else 0) + ssF s h (p + 1) n
theorem ss_le {s : Nat → Nat} {h : Nat} (hs : ∀ p, p < 5 → s p ≤ 100) : ∀ n p, p + n ≤ 5 → ssF s h p n ≤ 100 * n
  | 0, p, hp => Nat.le_refl _
  | n + 1, p, hp => by
    have := ss_le (h := h) hs n (p + 1) (by omega)
    have := hs p (by omega)
    unfold ssF
    split <;> omega
theorem ss_cong {s : Nat → Nat} {h h' : Nat} : ∀ n p, (∀ q, p ≤ q → q < p + n → lk h q = lk h' q) → ssF s h p n = ssF s h' p n
  | 0, p, _ => rfl
  | n + 1, p, hh => by
    unfold ssF
    rw [hh p (by omega) (by omega), ss_cong n (p + 1) (fun q a b => hh q (by omega) (by omega))]
theorem ss_add {s : Nat → Nat} {h h' p : Nat} (hl : lk h p = false) : ∀ n q, (∀ r, q ≤ r → r < q + n → lk h' r = (decide (r = p) || lk h r)) → ssF s h' q n = ssF s h q n + (if q ≤ p ∧ p < q + n then s p else 0)
  | 0, q, _ => by rw [if_neg (by omega)]; rfl
  | n + 1, q, hh => by
    unfold ssF
    rw [hh q (by omega) (by omega), ss_add hl n (q + 1) (fun r a b => hh r (by omega) (by omega))]
    by_cases e : q = p
    · subst e
      rw [hl, decide_eq_true rfl, Bool.true_or, if_pos rfl, if_neg (show ¬ false = true by decide), if_neg (show ¬ (q + 1 ≤ q ∧ q < q + 1 + n) by omega), if_pos (show q ≤ q ∧ q < q + (n + 1) by omega)]; omega
    · rw [decide_eq_false e, Bool.false_or]
      by_cases e2 : q ≤ p ∧ p < q + (n + 1)
      · rw [if_pos e2, if_pos (show q + 1 ≤ p ∧ p < q + 1 + n by omega)]; omega
      · rw [if_neg e2, if_neg (show ¬ (q + 1 ≤ p ∧ p < q + 1 + n) by omega)]; omega
def fulT (P p : Nat) : Bool := if p < P then lk (2 ^ P - 1) p && lk 31 p else true
set_option maxRecDepth 100000 in
theorem ful_t : ∀ P, P < 6 → (nI 1 <<< (nI P &&& nI 31)) = nI (2 ^ P) ∧ 2 ^ P - 1 < 32 ∧ ∀ p, p < 5 → fulT P p = true := by decide +kernel
section
variable {x y : qS} {s : Nat → Nat} {P : Nat}
theorem seatsC_it {h : Nat} {K : Int32 → qS → qR} (hP : x.1 2 7 = nI P) (hP1 : P ≤ 5) (hs : ∀ p, p < 5 → x.1 5 p = nI (s p)) (hh : h < 32) : ∀ n p f a, p + n = P → n < f → q_it2 (m_X0_seatsOf_L4 2 (nI h) K) f (nI a) (nI p) x = K (nI (a + ssF s h p n)) x
  | n, p, 0, a, hp, hf => by omega
  | 0, p, f + 1, a, hp, hf => by
    show m_X0_seatsOf_L4 _ _ _ _ _ _ _ = _
    unfold m_X0_seatsOf_L4
    rw [hP, if_pos (by rw [nI_t (by omega), nI_t (by omega)]; omega)]; rfl
  | n + 1, p, f + 1, a, hp, hf => by
    have ih := fun a => seatsC_it (K := K) hP hP1 hs hh n (p + 1) f a (by omega) (by omega)
    have t := lk_t h hh p (by omega)
    show m_X0_seatsOf_L4 _ _ _ (q_it2 (m_X0_seatsOf_L4 2 (nI h) K) f) _ _ _ = _
    generalize q_it2 (m_X0_seatsOf_L4 2 (nI h) K) f = self at ih ⊢
    unfold m_X0_seatsOf_L4 ssF
    simp only [lit_n]
    rw [hP, if_neg (by rw [nI_t (by omega), nI_t (by omega)]; omega), q_jn, nI_add, t]
    cases lk h p with
    | true =>
      rw [if_pos (by decide), ald_n (by omega) (by omega), Option.bind_some, q_let_s, show (2 + 3) = 5 from rfl, hs p (by omega), nI_add]; dsimp only; rw [ih, if_pos rfl, Nat.add_assoc]
    | false =>
      rw [if_neg (by decide)]; dsimp only; rw [ih, if_neg (by decide), Nat.zero_add]
theorem seatsR_it {h : Nat} {K : Int32 → qS → qR} (hP : y.1 163 6 = nI P) (hP1 : P ≤ 5) (hs : ∀ p, p < 5 → y.1 164 (10 + p) = nI (s p)) (hh : h < 32) : ∀ n p f a, p + n = P → n < f → q_it2 (m_X11_seatsOf_L4 (nI h) K) f (nI a) (nI p) y = K (nI (a + ssF s h p n)) y
  | n, p, 0, a, hp, hf => by omega
  | 0, p, f + 1, a, hp, hf => by
    show m_X11_seatsOf_L4 _ _ _ _ _ _ = _
    unfold m_X11_seatsOf_L4
    rw [hP, if_pos (by rw [nI_t (by omega), nI_t (by omega)]; omega)]; rfl
  | n + 1, p, f + 1, a, hp, hf => by
    have ih := fun a => seatsR_it (K := K) hP hP1 hs hh n (p + 1) f a (by omega) (by omega)
    have t := has_r (v := y) hh (show p < 5 by omega)
    show m_X11_seatsOf_L4 _ _ (q_it2 (m_X11_seatsOf_L4 (nI h) K) f) _ _ _ = _
    generalize q_it2 (m_X11_seatsOf_L4 (nI h) K) f = self at ih ⊢
    unfold m_X11_seatsOf_L4 ssF
    simp only [lit_n]
    rw [hP, if_neg (by rw [nI_t (by omega), nI_t (by omega)]; omega), t, q_bd_s', q_jn, nI_add]
    cases lk h p with
    | true =>
      rw [if_neg (by decide), nI_add, ald_n (by omega) (by omega), Option.bind_some, q_let_s, hs p (by omega), nI_add]; dsimp only; rw [ih, if_pos rfl, Nat.add_assoc]
    | false =>
      rw [if_pos (by decide)]; dsimp only; rw [ih, if_neg (by decide), Nat.zero_add]
theorem seatsOf_c {h : Nat} (hP : x.1 2 7 = nI P) (hP1 : P ≤ 5) (hs : ∀ p, p < 5 → x.1 5 p = nI (s p)) (hh : h < 32) : m_X0_seatsOf 2 (nI h) x = some (nI (ssF s h 0 P), x) := by
  unfold m_X0_seatsOf
  simp only [lit_n]
  rw [seatsC_it hP hP1 hs hh P 0 q_F 0 (by omega) (by rw [q_F_eq]; omega), Nat.zero_add]
theorem seatsOf_r {h : Nat} (hP : y.1 163 6 = nI P) (hP1 : P ≤ 5) (hs : ∀ p, p < 5 → y.1 164 (10 + p) = nI (s p)) (hh : h < 32) : m_X11_seatsOf (nI h) y = some (nI (ssF s h 0 P), y) := by
  unfold m_X11_seatsOf
  simp only [lit_n]
  rw [seatsR_it hP hP1 hs hh P 0 q_F 0 (by omega) (by rw [q_F_eq]; omega), Nat.zero_add]
theorem ful_s (hP1 : P ≤ 5) : ssF s (2 ^ P - 1) 0 P = ssF s 31 0 P := by
  refine ss_cong P 0 (fun q a b => ?_)
  have t := (ful_t P (by omega)).2.2 q (by omega)
  unfold fulT at t
  rw [if_pos (by omega), Bool.and_eq_true] at t
  rw [t.1, t.2]
def ruF (s : Nat → Nat) (P h : Nat) : Bool := decide (ssF s 31 0 P < 2 * ssF s h 0 P)
theorem doesRule_r {h : Nat} (hP : y.1 163 6 = nI P) (hP1 : P ≤ 5) (hs : ∀ p, p < 5 → y.1 164 (10 + p) = nI (s p)) (hs1 : ∀ p, p < 5 → s p ≤ 100) (hh : h < 32) : m_X11_doesRule (nI h) y = some (bI (ruF s P h), y) := by
  have t := ful_t P (by omega)
  have l1 := ss_le (h := h) hs1 P 0 (by omega)
  have l2 := ss_le (h := 31) hs1 P 0 (by omega)
  have hpos : 1 ≤ 2 ^ P := Nat.one_le_two_pow
  unfold m_X11_doesRule
  simp only [lit_n]
  rw [seatsOf_r hP hP1 hs hh, q_bd_s', hP, t.1, nI_sub hpos, seatsOf_r hP hP1 hs t.2.1, q_bd_s', pk_mul, nI_t (by omega), ful_s hP1, nI_t (by omega)]
  unfold ruF
  by_cases e : ssF s 31 0 P < 2 * ssF s h 0 P
  · rw [decide_eq_true e, if_neg (by omega)]; rfl
  · rw [decide_eq_false e, if_pos (by omega)]; rfl
theorem rulesC_it {a : Int32} {K : Int32 → qS → qR} (hP : x.1 2 7 = nI P) (hP1 : P ≤ 5) (hs : ∀ p, p < 5 → x.1 5 p = nI (s p)) (hs1 : ∀ p, p < 5 → s p ≤ 100) : ∀ m b f, m < 32 → b < 32 → m < f → q_it2 (m_X10_rules_L40 a (nI (ssF s 31 0 P)) K) f (nI b) (nI m) x = K (nI (dnF (ruF s P) (pcn 10) (m + 1) b)) x
  | m, b, 0, hm, hb, hf => by omega
  | 0, b, f + 1, hm, hb, hf => by
    have z : ∀ n p, ssF s 0 p n = 0 := by
      intro n
      induction n with
      | zero => intro p; rfl
      | succ n ih =>
        intro p
        unfold ssF
        rw [ih, if_neg (by unfold lk; rw [Nat.zero_div]; decide)]
    have hF : ruF s P 0 = false := by unfold ruF; rw [z]; exact decide_eq_false (by omega)
    show m_X10_rules_L40 _ _ _ _ _ _ _ = _
    unfold m_X10_rules_L40 dnF
    rw [if_pos (by decide), hF, if_neg (by intro h; cases h.2)]; rfl
  | m + 1, b, f + 1, hm, hb, hf => by
    have ih := fun b hb => rulesC_it (a := a) (K := K) hP hP1 hs hs1 m b f (by omega) hb (by omega)
    have l1 := ss_le (h := m + 1) hs1 P 0 (by omega)
    have l2 := ss_le (h := 31) hs1 P 0 (by omega)
    have p1 := pcn_le 10 (m + 1)
    have p2 := pcn_le 10 b
    have b1 := bc_c (u := x) (show m + 1 < 1024 by omega)
    have b2 := bc_c (u := x) (show b < 1024 by omega)
    have sc := seatsOf_c hP hP1 hs hm
    show m_X10_rules_L40 _ _ _ (q_it2 (m_X10_rules_L40 a (nI (ssF s 31 0 P)) K) f) _ _ _ = _
    generalize q_it2 (m_X10_rules_L40 a (nI (ssF s 31 0 P)) K) f = self at ih ⊢
    have hd : dnF (ruF s P) (pcn 10) (m + 1 + 1) b = dnF (ruF s P) (pcn 10) (m + 1) (if pcn 10 (m + 1) ≤ pcn 10 b ∧ ruF s P (m + 1) = true then m + 1 else b) := rfl
    rw [hd]
    unfold m_X10_rules_L40
    simp only [lit_n, mI_lit]
    rw [if_neg (by rw [nI_t (by omega)]; omega), sc, q_bd_s', q_jn, pk_mul, nI_t (by omega), nI_t (by omega), nI_m]
    by_cases e : ssF s 31 0 P < 2 * ssF s (m + 1) 0 P
    · have hF : ruF s P (m + 1) = true := decide_eq_true e
      rw [if_neg (by omega)]
      dsimp only
      rw [q_jn, if_neg (by decide), b1, q_bd_s', b2, q_bd_s', hF]
      by_cases e2 : pcn 10 (m + 1) ≤ pcn 10 b
      · rw [if_neg (by rw [nI_t (by omega), nI_t (by omega)]; omega), if_pos ⟨e2, rfl⟩]; exact ih (m + 1) (by omega)
      · rw [if_pos (by rw [nI_t (by omega), nI_t (by omega)]; omega), if_neg (fun h => e2 h.1)]; exact ih b hb
    · have hF : ruF s P (m + 1) = false := decide_eq_false e
      rw [if_pos (by omega)]
      dsimp only
      rw [q_jn, if_pos (by decide), hF, if_neg (by intro h; cases h.2)]; exact ih b hb
theorem rulesR_it {a : Int32} {K : Int32 → qS → qR} (hP : y.1 163 6 = nI P) (hP1 : P ≤ 5) (hs : ∀ p, p < 5 → y.1 164 (10 + p) = nI (s p)) (hs1 : ∀ p, p < 5 → s p ≤ 100) : ∀ (n i : Nat) (b : Option Nat) (f : Nat), i + n = 2 ^ P → (∀ r, b = some r → r < 32) → n < f → q_it2 (m_X11_rules_L21 a K) f (enc b) (nI i) y = K (enc (upF (ruF s P) (pcn 10) n i b)) y
  | n, i, b, 0, hn, hb, hf => by omega
  | 0, i, b, f + 1, hn, hb, hf => by
    have t := ful_t P (by omega)
    show m_X11_rules_L21 _ _ _ _ _ _ = _
    unfold m_X11_rules_L21
    simp only [lit_n]
    rw [hP, t.1, if_pos (by rw [nI_t (by omega), nI_t (by omega)]; omega)]; rfl
  | n + 1, i, b, f + 1, hn, hb, hf => by
    have t := ful_t P (by omega)
    have ih := fun b hb => rulesR_it (a := a) (K := K) hP hP1 hs hs1 n (i + 1) b f (by omega) hb (by omega)
    have p1 := pcn_le 10 i
    have h1 := doesRule_r hP hP1 hs hs1 (show i < 32 by omega)
    show m_X11_rules_L21 _ _ (q_it2 (m_X11_rules_L21 a K) f) _ _ _ = _
    generalize q_it2 (m_X11_rules_L21 a K) f = self at ih ⊢
    unfold m_X11_rules_L21 upF
    simp only [lit_n, mI_lit]
    rw [hP, t.1, if_neg (by rw [nI_t (by omega), nI_t (by omega)]; omega), q_jn, q_jn, nI_add]
    cases b with
    | none =>
      show (if mI.toInt = mI.toInt then _ else _) = _
      rw [if_pos rfl]
      dsimp only
      rw [h1, q_bd_s', upS_n]
      cases e2 : ruF s P i with
      | false =>
        rw [if_pos (by decide), if_neg (by decide)]; exact ih none (fun r h => by cases h)
      | true =>
        rw [if_neg (by decide), if_pos rfl]; exact ih (some i) (fun r h => by have := Option.some.inj h; omega)
    | some b =>
      have hb1 := hb b rfl
      have p2 := pcn_le 10 b
      show (if (nI b).toInt = mI.toInt then _ else _) = _
      rw [if_neg (by rw [nI_t (by omega), mI_t]; omega), ones_r (show i < 1024 by omega), q_bd_s', show enc (some b) = nI b from rfl, ones_r (show b < 1024 by omega), q_bd_s', upS_s]
      by_cases e1 : pcn 10 b ≤ pcn 10 i
      · rw [if_pos (by rw [nI_t (by omega), nI_t (by omega)]; omega), if_pos e1]; exact ih (some b) hb
      · rw [if_neg (by rw [nI_t (by omega), nI_t (by omega)]; omega), if_neg e1]
        dsimp only
        rw [h1, q_bd_s']
        cases e2 : ruF s P i with
        | false =>
          rw [if_pos (by decide), if_neg (by decide)]; exact ih (some b) hb
        | true =>
          rw [if_neg (by decide), if_pos rfl]; exact ih (some i) (fun r h => by have := Option.some.inj h; omega)
end
/-- the seats as numbers -/
def stN (y : qS) (p : Nat) : Nat := (y.1 164 (10 + p)).toInt.toNat
theorem Rel.seatN {x y : qS} (h : Rel x y) {p : Nat} (hp : p < 5) : y.1 164 (10 + p) = nI (stN y p) ∧ x.1 5 p = nI (stN y p) ∧ stN y p ≤ 100 := by
  obtain ⟨n, n1, n2, n3⟩ := h.B.seats hp
  have e : stN y p = n := by unfold stN; rw [n3]; rfl
  rw [e]
  exact ⟨n2, (h.C.seats hp).trans n2, n1⟩
theorem sim_rules (a : Int32) : SIM (m_X10_rules a) (m_X11_rules a) := fun x y h => by
  obtain ⟨P, hP1, hP, hP2⟩ := h.G.P
  have hx7 : x.1 2 7 = nI P := by rw [h.C.parties, hP]
  have p63 : (q_up y 163 0 (nI 0)).1 163 6 = nI P := hP
  have t := ful_t P (by omega)
  have hpos : 1 ≤ 2 ^ P := Nat.one_le_two_pow
  have s1 : ∀ p, p < 5 → x.1 5 p = nI (stN y p) := fun p hp => (h.seatN hp).2.1
  have s2 : ∀ p, p < 5 → (q_up y 163 0 (nI 0)).1 164 (10 + p) = nI (stN y p) := fun p hp => (h.seatN hp).1
  have s3 : ∀ p, p < 5 → stN y p ≤ 100 := fun p hp => (h.seatN hp).2.2
  have l2 := ss_le (h := 31) s3 P 0 (by omega)
  have c1 := seatsOf_c hx7 hP1 s1 (show 31 < 32 by omega)
  have rr := fun K => rulesR_it (a := a) (K := K) p63 hP1 s2 s3 (2 ^ P) 0 none q_F (by omega) (fun r h => by cases h) (by rw [q_F_eq]; omega)
  have cc := fun K => rulesC_it (a := a) (K := K) hx7 hP1 s1 s3 (2 ^ P - 1) (2 ^ P - 1) q_F t.2.1 t.2.1 (by rw [q_F_eq]; omega)
  rw [show 2 ^ P - 1 + 1 = 2 ^ P by omega] at cc
  unfold m_X10_rules m_X11_rules
  simp only [lit_n, mI_lit]
  rcases within_b a 0 1 (by omega) (by omega) with ⟨n, n0, n1, n2, u1, u2⟩ | ⟨u1, u2⟩
  · by_cases ha : ssF (stN y) 31 0 P = 0
    · rw [up_no (fun j hj => by unfold ruF; rw [ha]; exact decide_eq_false (by
        intro h0
        have e0 : ssF (stN y) j 0 P ≤ ssF (stN y) 31 0 P := by
          have : ∀ n p, p + n ≤ 5 → ssF (stN y) j p n ≤ ssF (stN y) 31 p n := by
            intro n
            induction n with
            | zero => intro p hp; exact Nat.le_refl _
            | succ n ih =>
              intro p hp
              have h3 : lk 31 p = true := by
                have t5 := (ful_t 5 (by omega)).2.2 p (by omega)
                unfold fulT at t5
                rw [if_pos (by omega), Bool.and_eq_true] at t5
                exact t5.2
              have := ih (p + 1) (by omega)
              unfold ssF
              rw [if_pos h3]
              split <;> omega
          exact this P 0 (by omega)
        omega))] at rr
      refine ⟨mI, x, q_up y 163 0 (nI 0), ?_, ?_, h.told⟩
      · rw [c1, q_bd_s', u1, q_bd_s', if_neg (by decide), if_pos (by rw [ha]; decide)]
      · rw [q_let_s, u2, q_bd_s', if_neg (by decide)]
        refine (rr _).trans ?_
        rw [q_jn]
        exact if_pos rfl
    · have hF : ruF (stN y) P (2 ^ P - 1) = true := by
        unfold ruF; rw [ful_s hP1]; exact decide_eq_true (by omega)
      obtain ⟨ud, ul⟩ := up_dn (F := ruF (stN y) P) (c := pcn 10) (N := 2 ^ P) (by omega) hF
      rw [ud] at rr
      generalize dnF (ruF (stN y) P) (pcn 10) (2 ^ P) (2 ^ P - 1) = r at ud ul rr cc
      have r1 : r < 1024 := by omega
      refine ⟨if a.toInt = 0 then nI (pcn 10 r) else nI r, x, q_up y 163 0 (nI 0), ?_, ?_, h.told⟩
      · rw [c1, q_bd_s', u1, q_bd_s', if_neg (by decide), if_neg (by rw [nI_t (by omega)]; omega), hx7, t.1, nI_sub hpos, q_let_s, cc, bc_c r1, q_bd_s']
        split <;> rfl
      · rw [q_let_s, u2, q_bd_s', if_neg (by decide)]
        refine (rr _).trans ?_
        rw [show enc (some r) = nI r from rfl, q_jn, if_neg (by rw [nI_t (by omega), mI_t]; omega), ones_r r1, q_bd_s', n2]
        have hn : n = 0 ∨ n = 1 := by omega
        rcases hn with rfl | rfl
        · rw [if_neg (by decide), if_pos (by decide)]
        · rw [if_pos rfl, if_neg (by decide)]
  · refine ⟨mI, x, q_up y 163 0 (nI 0), ?_, ?_, h.told⟩
    · rw [c1, q_bd_s', u1, q_bd_s', if_pos (by decide)]
    · rw [q_let_s, u2, q_bd_s', if_pos (by decide)]
/-! weighs -/
def wgF (s : Nat → Nat) (P p h : Nat) : Bool := !lk h p && (decide (2 * ssF s h 0 P ≤ ssF s 31 0 P) && decide (ssF s 31 0 P < 2 * (ssF s h 0 P + s p)))
theorem wgF_e {s : Nat → Nat} {P p h : Nat} : wgF s P p h = (!lk h p && (decide (2 * ssF s h 0 P ≤ ssF s 31 0 P) && decide (ssF s 31 0 P < 2 * (ssF s h 0 P + s p)))) := rfl
def cnF (F : Nat → Bool) : Nat → Nat → Nat
  | _, 0 => 0
  | i, n + 1 => (if F i = true then 1 else 0) + cnF F (i + 1) n
section
variable {x y : qS} {s : Nat → Nat} {P p : Nat}
theorem weighsC_it {K : Int32 → qS → qR} (hP : x.1 2 7 = nI P) (hP1 : P ≤ 5) (hp : p < P) (hs : ∀ p, p < 5 → x.1 5 p = nI (s p)) (hs1 : ∀ p, p < 5 → s p ≤ 100) : ∀ n i c f, i + n = 2 ^ P → n < f → q_it2 (m_X10_weighs_L39 (nI p) (nI (ssF s 31 0 P)) (nI (s p)) K) f (nI c) (nI i) x = K (nI (c + cnF (wgF s P p) i n)) x
  | n, i, c, 0, hi, hf => by omega
  | 0, i, c, f + 1, hi, hf => by
    have t := ful_t P (by omega)
    show m_X10_weighs_L39 _ _ _ _ _ _ _ _ = _
    unfold m_X10_weighs_L39
    simp only [lit_n]
    rw [hP, t.1, if_pos (by rw [nI_t (by omega), nI_t (by omega)]; omega)]; rfl
  | n + 1, i, c, f + 1, hi, hf => by
    have t := ful_t P (by omega)
    have ih := fun c => weighsC_it (K := K) hP hP1 hp hs hs1 n (i + 1) c f (by omega) (by omega)
    have l1 := ss_le (h := i) hs1 P 0 (by omega)
    have l2 := ss_le (h := 31) hs1 P 0 (by omega)
    have l3 := hs1 p (by omega)
    have sc := seatsOf_c hP hP1 hs (show i < 32 by omega)
    have lt := lk_t i (by omega) p (by omega)
    show m_X10_weighs_L39 _ _ _ _ (q_it2 (m_X10_weighs_L39 (nI p) (nI (ssF s 31 0 P)) (nI (s p)) K) f) _ _ _ = _
    generalize q_it2 (m_X10_weighs_L39 (nI p) (nI (ssF s 31 0 P)) (nI (s p)) K) f = self at ih ⊢
    unfold m_X10_weighs_L39 cnF
    rw [wgF_e]
    simp only [lit_n]
    rw [hP, t.1, if_neg (by rw [nI_t (by omega), nI_t (by omega)]; omega), sc, q_bd_s', q_jn, pk_mul, nI_add, nI_add, pk_mul, nI_t (show 2 * ssF s i 0 P < _ by omega), nI_t (show ssF s 31 0 P < _ by omega), nI_t (show 2 * (ssF s i 0 P + s p) < _ by omega), lt]
    cases lk i p with
    | true =>
      rw [if_neg (by decide)]
      dsimp only
      rw [q_jn, if_pos (by decide)]; dsimp only; rw [ih, Bool.not_true, Bool.false_and, if_neg (by decide), Nat.zero_add]
    | false =>
      rw [if_pos (by decide)]
      dsimp only
      rw [q_jn, if_neg (by decide), Bool.not_false, Bool.true_and]
      by_cases e1 : 2 * ssF s i 0 P ≤ ssF s 31 0 P
      · rw [if_neg (by omega), decide_eq_true e1, Bool.true_and]
        by_cases e2 : ssF s 31 0 P < 2 * (ssF s i 0 P + s p)
        · rw [if_neg (by omega), nI_add]; dsimp only; rw [ih, decide_eq_true e2, if_pos rfl, Nat.add_assoc]
        · rw [if_pos (by omega)]; dsimp only; rw [ih, decide_eq_false e2, if_neg (by decide), Nat.zero_add]
      · rw [if_pos (by omega)]; dsimp only; rw [ih, decide_eq_false e1, Bool.false_and, if_neg (by decide), Nat.zero_add]
theorem weighsR_it {K : Int32 → qS → qR} (hP : y.1 163 6 = nI P) (hP1 : P ≤ 5) (hp : p < P) (hs : ∀ p, p < 5 → y.1 164 (10 + p) = nI (s p)) (hs1 : ∀ p, p < 5 → s p ≤ 100) : ∀ n i c f, i + n = 2 ^ P → n < f → q_it2 (m_X11_weighs_L19 (nI p) K) f (nI c) (nI i) y = K (nI (c + cnF (wgF s P p) i n)) y
  | n, i, c, 0, hi, hf => by omega
  | 0, i, c, f + 1, hi, hf => by
    have t := ful_t P (by omega)
    show m_X11_weighs_L19 _ _ _ _ _ _ = _
    unfold m_X11_weighs_L19
    simp only [lit_n]
    rw [hP, t.1, if_pos (by rw [nI_t (by omega), nI_t (by omega)]; omega)]; rfl
  | n + 1, i, c, f + 1, hi, hf => by
    have t := ful_t P (by omega)
    have ih := fun c => weighsR_it (K := K) hP hP1 hp hs hs1 n (i + 1) c f (by omega) (by omega)
    have hr := has_r (v := y) (show i < 32 by omega) (show p < 5 by omega)
    have d1 := doesRule_r hP hP1 hs hs1 (show i < 32 by omega)
    show m_X11_weighs_L19 _ _ (q_it2 (m_X11_weighs_L19 (nI p) K) f) _ _ _ = _
    generalize q_it2 (m_X11_weighs_L19 (nI p) K) f = self at ih ⊢
    unfold m_X11_weighs_L19 cnF
    rw [wgF_e]
    simp only [lit_n]
    rw [hP, t.1, if_neg (by rw [nI_t (by omega), nI_t (by omega)]; omega), hr, q_bd_s', q_jn, nI_add]
    cases hl : lk i p with
    | true =>
      rw [if_pos rfl, if_neg (by decide)]; dsimp only; rw [ih, Bool.not_true, Bool.false_and, if_neg (by decide), Nat.zero_add]
    | false =>
      obtain ⟨k1, k2, k3⟩ := lk_s i (by omega) p (by omega) hl
      have d2 := doesRule_r hP hP1 hs hs1 k2
      have sa := ss_add (s := s) (h' := i + 2 ^ p) hl P 0 (fun r a b => k3 r (by omega))
      rw [if_pos (show 0 ≤ p ∧ p < 0 + P by omega)] at sa
      unfold ruF at d1 d2
      rw [sa] at d2
      rw [if_pos (by decide), d1, q_bd_s', Bool.not_false, Bool.true_and]
      by_cases e1 : 2 * ssF s i 0 P ≤ ssF s 31 0 P
      · rw [decide_eq_false (show ¬ ssF s 31 0 P < 2 * ssF s i 0 P by omega), if_pos (by decide), decide_eq_true e1, Bool.true_and, k1, d2, q_bd_s']
        by_cases e2 : ssF s 31 0 P < 2 * (ssF s i 0 P + s p)
        · rw [decide_eq_true e2, if_neg (by decide), q_let_s, nI_add]; dsimp only; rw [ih, if_pos rfl, Nat.add_assoc]
        · rw [decide_eq_false e2, if_pos (by decide)]; dsimp only; rw [ih, if_neg (by decide), Nat.zero_add]
      · rw [decide_eq_true (show ssF s 31 0 P < 2 * ssF s i 0 P by omega), if_neg (by decide)]; dsimp only; rw [ih, decide_eq_false e1, Bool.false_and, if_neg (by decide), Nat.zero_add]
end
theorem sim_weighs (a : Int32) : SIM (m_X10_weighs a) (m_X11_weighs a) := fun x y h => by
  obtain ⟨P, hP1, hP, hP2⟩ := h.G.P
  have hx7 : x.1 2 7 = nI P := by rw [h.C.parties, hP]
  have p63 : (q_up y 163 0 (nI 0)).1 163 6 = nI P := hP
  have t := ful_t P (by omega)
  have s1 : ∀ p, p < 5 → x.1 5 p = nI (stN y p) := fun p hp => (h.seatN hp).2.1
  have s2 : ∀ p, p < 5 → (q_up y 163 0 (nI 0)).1 164 (10 + p) = nI (stN y p) := fun p hp => (h.seatN hp).1
  have s3 : ∀ p, p < 5 → stN y p ≤ 100 := fun p hp => (h.seatN hp).2.2
  have c1 := seatsOf_c hx7 hP1 s1 (show 31 < 32 by omega)
  unfold m_X10_weighs m_X11_weighs
  simp only [lit_n, mI_lit]
  rcases party_b a hx7 p63 hP1 with ⟨p, p1, p2, w1, w2⟩ | ⟨w1, w2⟩
  · subst p2
    have z0 : q_ald x 5 5 (nI p) = some (nI (stN y p)) := by rw [ald_n (by omega) (by omega), s1 p (by omega)]
    have cc := fun K => weighsC_it (K := K) hx7 hP1 p1 s1 s3 (2 ^ P) 0 0 q_F (by omega) (by rw [q_F_eq]; omega)
    have rr := fun K => weighsR_it (K := K) p63 hP1 p1 s2 s3 (2 ^ P) 0 0 q_F (by omega) (by rw [q_F_eq]; omega)
    refine ⟨nI (0 + cnF (wgF (stN y) P p) 0 (2 ^ P)), x, q_up y 163 0 (nI 0), ?_, ?_, h.told⟩
    · rw [w1, q_bd_s', if_neg (by decide), c1, q_bd_s', z0, Option.bind_some, cc]
    · rw [q_let_s, w2, q_bd_s', if_neg (by decide), rr]
  · refine ⟨mI, x, q_up y 163 0 (nI 0), ?_, ?_, h.told⟩
    · rw [w1, q_bd_s', if_pos (by decide)]
    · rw [q_let_s, w2, q_bd_s', if_pos (by decide)]
