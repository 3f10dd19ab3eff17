/-! LAYER 2: THE CALLS, 22: what a text's tokens are -/
def zL (z : Int) : Bool := decide (97 ≤ z ∧ z ≤ 122) || decide (65 ≤ z ∧ z ≤ 90)
def zD (z : Int) : Bool := decide (48 ≤ z ∧ z ≤ 57)
def zS (z : Int) : Bool := decide (40 ≤ z ∧ z ≤ 43) || (decide (z = 45) || (decide (z = 47) || decide (59 ≤ z ∧ z ≤ 62)))
def zB (z : Int) : Bool := decide (z = 32) || decide (z = 10)
theorem letter_c (z : Int32) (u : qS) : m_X8_isLetter z u = some (bI (zL z.toInt), u) := by
  unfold m_X8_isLetter zL
  simp only [lit_n, nI_t (show 97 < 2147483648 by omega), nI_t (show 122 < 2147483648 by omega), nI_t (show 65 < 2147483648 by omega), nI_t (show 90 < 2147483648 by omega)]
  rw [q_jn, q_jn]
  dsimp only
  by_cases h1 : 97 ≤ z.toInt ∧ z.toInt ≤ 122
  · rw [if_neg (by omega), if_pos (by omega), decide_eq_true h1]; rfl
  · rw [decide_eq_false h1, Bool.false_or]
    by_cases h2 : 65 ≤ z.toInt ∧ z.toInt ≤ 90
    · rw [decide_eq_true h2, if_pos (by omega), if_neg (by omega), if_neg (by omega)]; rfl
    · rw [decide_eq_false h2]
      by_cases h3 : z.toInt < 97
      · rw [if_pos (by omega)]
        by_cases h4 : z.toInt < 65
        · rw [if_pos (by omega)]; rfl
        · rw [if_neg (by omega), if_pos (by omega)]; rfl
      · rw [if_neg (by omega), if_neg (by omega), if_neg (by omega), if_pos (by omega)]; rfl
theorem digit_c (z : Int32) (u : qS) : m_X8_isDigit z u = some (bI (zD z.toInt), u) := by
  unfold m_X8_isDigit zD
  simp only [lit_n, nI_t (show 48 < 2147483648 by omega), nI_t (show 57 < 2147483648 by omega)]
  by_cases h1 : 48 ≤ z.toInt ∧ z.toInt ≤ 57
  · rw [if_neg (by omega), if_neg (by omega), decide_eq_true h1]; rfl
  · rw [decide_eq_false h1]
    by_cases h2 : z.toInt < 48
    · rw [if_pos (by omega)]; rfl
    · rw [if_neg (by omega), if_pos (by omega)]; rfl
theorem sign_c (z : Int32) (u : qS) : m_X8_isSign z u = some (bI (zS z.toInt), u) := by
  unfold m_X8_isSign zS
  simp only [lit_n, nI_t (show 40 < 2147483648 by omega), nI_t (show 43 < 2147483648 by omega), nI_t (show 45 < 2147483648 by omega), nI_t (show 47 < 2147483648 by omega), nI_t (show 59 < 2147483648 by omega), nI_t (show 62 < 2147483648 by omega)]
  rw [q_jn, q_jn]
  by_cases h1 : 40 ≤ z.toInt ∧ z.toInt ≤ 43
  · rw [if_neg (by omega), if_pos (by omega), decide_eq_true h1]; rfl
  · rw [decide_eq_false h1, Bool.false_or]
    have e : (if z.toInt = ((45 : Nat) : Int) then some (nI 1, u) else if z.toInt = ((47 : Nat) : Int) then some (nI 1, u) else if z.toInt < ((59 : Nat) : Int) then some (nI 0, u) else if ((62 : Nat) : Int) < z.toInt then some (nI 0, u) else some (nI 1, u)) = some (bI (decide (z.toInt = 45) || (decide (z.toInt = 47) || decide (59 ≤ z.toInt ∧ z.toInt ≤ 62))), u) := by
      by_cases h2 : z.toInt = 45
      · rw [if_pos (by omega), decide_eq_true h2]; rfl
      · rw [if_neg (by omega), decide_eq_false h2, Bool.false_or]
        by_cases h3 : z.toInt = 47
        · rw [if_pos (by omega), decide_eq_true h3]; rfl
        · rw [if_neg (by omega), decide_eq_false h3, Bool.false_or]
          by_cases h4 : 59 ≤ z.toInt ∧ z.toInt ≤ 62
          · rw [if_neg (by omega), if_neg (by omega), decide_eq_true h4]; rfl
          · rw [decide_eq_false h4]
            by_cases h5 : z.toInt < 59
            · rw [if_pos (by omega)]; rfl
            · rw [if_neg (by omega), if_pos (by omega)]; rfl
    by_cases h6 : z.toInt < 40
    · rw [if_pos (by omega)]; exact e
    · rw [if_neg (by omega), if_neg (by omega)]; exact e
theorem in_r (z : Int32) (a b : Nat) (u : qS) (ha : a < 2147483648) (hb : b < 2147483648) : m_X11_isIn z (nI a) (nI b) u = some (bI (decide ((a : Int) ≤ z.toInt ∧ z.toInt ≤ b)), u) := by
  unfold m_X11_isIn
  rw [nI_t ha, nI_t hb]
  by_cases h1 : (a : Int) ≤ z.toInt ∧ z.toInt ≤ b
  · rw [if_neg (by omega), if_neg (by omega), decide_eq_true h1]; rfl
  · rw [decide_eq_false h1]
    by_cases h2 : z.toInt < a
    · rw [if_pos h2]; rfl
    · rw [if_neg h2, if_pos (by omega)]; rfl
theorem in_c (z : Int32) (a b : Nat) (u : qS) (ha : a < 2147483648) (hb : b < 2147483648) : m_X10_isWithin z (nI a) (nI b) u = some (bI (decide ((a : Int) ≤ z.toInt ∧ z.toInt ≤ b)), u) := by
  unfold m_X10_isWithin
  rw [nI_t ha, nI_t hb]
  by_cases h1 : (a : Int) ≤ z.toInt ∧ z.toInt ≤ b
  · rw [if_neg (by omega), if_neg (by omega), decide_eq_true h1]; rfl
  · rw [decide_eq_false h1]
    by_cases h2 : z.toInt < a
    · rw [if_pos h2]; rfl
    · rw [if_neg h2, if_pos (by omega)]; rfl
theorem bI_0 : (bI false).toInt = 0 := by decide
theorem bI_1 : ¬ (bI true).toInt = 0 := by decide
theorem bz_b {b : Bool} {M : qR} : q_bz (bI b) M = M := by cases b; exact bz_0; exact bz_1
theorem letter_r (z : Int32) (u : qS) : m_X11_isLetter z u = some (bI (zL z.toInt), u) := by
  unfold m_X11_isLetter zL
  simp only [lit_n]
  rw [in_r z 97 122 u (by omega) (by omega), q_bd_s', q_jn, in_r z 65 90 u (by omega) (by omega), q_bd_s']
  cases decide ((97 : Int) ≤ z.toInt ∧ z.toInt ≤ 122) with
  | true => rw [if_neg bI_1]; rfl
  | false =>
    rw [if_pos bI_0, Bool.false_or]
    cases decide ((65 : Int) ≤ z.toInt ∧ z.toInt ≤ 90) with
    | true => rw [if_neg bI_1]; rfl
    | false => rw [if_pos bI_0]; rfl
theorem digit_r (z : Int32) (u : qS) : m_X11_isDigit z u = some (bI (zD z.toInt), u) := by
  unfold m_X11_isDigit
  simp only [lit_n]
  rw [in_r z 48 57 u (by omega) (by omega), q_bd_s', bz_b]
  rfl
theorem mark_r (z : Int32) (u : qS) : m_X11_isMarkSign z u = some (bI (zS z.toInt), u) := by
  unfold m_X11_isMarkSign
  simp only [lit_n, nI_t (show 40 < 2147483648 by omega), nI_t (show 41 < 2147483648 by omega), nI_t (show 42 < 2147483648 by omega), nI_t (show 43 < 2147483648 by omega), nI_t (show 45 < 2147483648 by omega), nI_t (show 47 < 2147483648 by omega), nI_t (show 59 < 2147483648 by omega), nI_t (show 60 < 2147483648 by omega), nI_t (show 61 < 2147483648 by omega), nI_t (show 62 < 2147483648 by omega)]
  rw [q_jn]
  have k : ∀ n : Nat, z.toInt = (n : Int) → zS (n : Int) = true → zS z.toInt = true := fun n h1 h2 => by rw [h1]; exact h2
  by_cases h1 : z.toInt = ((59 : Nat) : Int)
  · rw [if_pos h1, k 59 h1 (by decide)]; rfl
  rw [if_neg h1]
  by_cases h2 : z.toInt = ((43 : Nat) : Int)
  · rw [if_pos h2, k 43 h2 (by decide)]; rfl
  rw [if_neg h2]
  by_cases h3 : z.toInt = ((45 : Nat) : Int)
  · rw [if_pos h3, k 45 h3 (by decide)]; rfl
  rw [if_neg h3]
  by_cases h4 : z.toInt = ((42 : Nat) : Int)
  · rw [if_pos h4, k 42 h4 (by decide)]; rfl
  rw [if_neg h4]
  by_cases h5 : z.toInt = ((47 : Nat) : Int)
  · rw [if_pos h5, k 47 h5 (by decide)]; rfl
  rw [if_neg h5]
  by_cases h6 : z.toInt = ((40 : Nat) : Int)
  · rw [if_pos h6, k 40 h6 (by decide)]; rfl
  rw [if_neg h6]
  by_cases h7 : z.toInt = ((41 : Nat) : Int)
  · rw [if_pos h7, k 41 h7 (by decide)]; rfl
  rw [if_neg h7]
  by_cases h8 : z.toInt = ((60 : Nat) : Int)
  · rw [if_pos h8, k 60 h8 (by decide)]; rfl
  rw [if_neg h8]
  by_cases h9 : z.toInt = ((61 : Nat) : Int)
  · rw [if_pos h9, k 61 h9 (by decide)]; rfl
  rw [if_neg h9]
  by_cases ha : z.toInt = ((62 : Nat) : Int)
  · rw [if_pos ha, k 62 ha (by decide)]; rfl
  rw [if_neg ha]
  have : zS z.toInt = false := by
    unfold zS
    rw [decide_eq_false (by omega), decide_eq_false (by omega), decide_eq_false (by omega), decide_eq_false (by omega)]; rfl
  rw [this]; rfl
/-! runs of like bytes -/
def rnF (P : Int → Bool) (z : Nat → Int) : Nat → Nat → Nat
  | 0, p => p
  | n + 1, p => if P (z p) = true then rnF P z n (p + 1) else p
theorem rn_ge {P : Int → Bool} {z : Nat → Int} : ∀ n p, p ≤ rnF P z n p ∧ rnF P z n p ≤ p + n
  | 0, p => ⟨Nat.le_refl _, Nat.le_refl _⟩
  | n + 1, p => by
    unfold rnF
    have := rn_ge (P := P) (z := z) n (p + 1)
    split <;> omega
theorem rn_not {P : Int → Bool} {z : Nat → Int} : ∀ n p, P (z (p + n)) = false → P (z (rnF P z n p)) = false
  | 0, p, h => h
  | n + 1, p, h => by
    unfold rnF
    cases e : P (z p) with
    | true => rw [if_pos rfl]; exact rn_not n (p + 1) (by rw [show p + 1 + n = p + (n + 1) by omega]; exact h)
    | false => rw [if_neg (by decide)]; exact e
theorem rn_in {P : Int → Bool} {z : Nat → Int} : ∀ n p q, p ≤ q → q < rnF P z n p → P (z q) = true
  | 0, p, q, h1, h2 => by have : q < p := h2; omega
  | n + 1, p, q, h1, h2 => by
    unfold rnF at h2
    cases e : P (z p) with
    | true =>
      rw [e, if_pos rfl] at h2
      by_cases e2 : q = p
      · rw [e2]; exact e
      · exact rn_in n (p + 1) q (by omega) h2
    | false => rw [e, if_neg (by decide)] at h2; omega
/-- the bytes of a tape, -1 behind its end -/
def TP (N : Nat) (z : Nat → Int) : Prop := N ≤ 400 ∧ (∀ p, p < N → 0 ≤ z p ∧ z p < 256) ∧ ∀ p, N ≤ p → z p = -1
def TC (N : Nat) (z : Nat → Int) (u : qS) : Prop := u.1 67 1 = nI N ∧ ∀ p, p < N → (u.1 68 p).toInt = z p
def TV (N : Nat) (z : Nat → Int) (v : qS) : Prop := v.1 163 14 = nI N ∧ ∀ p, p < N → (v.1 168 p).toInt = z p
section
variable {N : Nat} {z : Nat → Int} {u v : qS}
theorem letC_it {si : Nat} {x3 : Int32} {K : Int32 → qS → qR} (hT : TP N z) (h : TC N z u) : ∀ n p f, p + n = N → n < f → q_it1 (m_X8_cut_L37 67 si x3 K) f (nI p) u = K (nI (rnF zL z n p)) u
  | n, p, 0, hp, hf => by omega
  | 0, p, f + 1, hp, hf => by
    have := hT.1
    show m_X8_cut_L37 _ _ _ _ _ _ _ = _
    unfold m_X8_cut_L37
    rw [h.1, if_pos (by rw [nI_t (by omega), nI_t (by omega)]; omega)]; rfl
  | n + 1, p, f + 1, hp, hf => by
    have := hT.1
    have ih := letC_it (si := si) (x3 := x3) (K := K) hT h n (p + 1) f (by omega) (by omega)
    show m_X8_cut_L37 _ _ _ _ (q_it1 (m_X8_cut_L37 67 si x3 K) f) _ _ = _
    generalize q_it1 (m_X8_cut_L37 67 si x3 K) f = self at ih ⊢
    unfold m_X8_cut_L37 rnF
    rw [h.1, if_neg (by rw [nI_t (by omega), nI_t (by omega)]; omega), ald_n (by omega) (by omega), Option.bind_some, letter_c, q_bd_s', show 67 + 1 = 68 from rfl, h.2 p (by omega)]
    cases zL (z p) with
    | true => rw [if_neg bI_1, if_pos rfl, lit_n, nI_add]; exact ih
    | false => rw [if_pos bI_0, if_neg (by decide)]
theorem digC_it {si : Nat} {x3 : Int32} {K : Int32 → qS → qR} (hT : TP N z) (h : TC N z u) : ∀ n p f, p + n = N → n < f → q_it1 (m_X8_cut_L87 67 si x3 K) f (nI p) u = K (nI (rnF zD z n p)) u
  | n, p, 0, hp, hf => by omega
  | 0, p, f + 1, hp, hf => by
    have := hT.1
    show m_X8_cut_L87 _ _ _ _ _ _ _ = _
    unfold m_X8_cut_L87
    rw [h.1, if_pos (by rw [nI_t (by omega), nI_t (by omega)]; omega)]; rfl
  | n + 1, p, f + 1, hp, hf => by
    have := hT.1
    have ih := digC_it (si := si) (x3 := x3) (K := K) hT h n (p + 1) f (by omega) (by omega)
    show m_X8_cut_L87 _ _ _ _ (q_it1 (m_X8_cut_L87 67 si x3 K) f) _ _ = _
    generalize q_it1 (m_X8_cut_L87 67 si x3 K) f = self at ih ⊢
    unfold m_X8_cut_L87 rnF
    rw [h.1, if_neg (by rw [nI_t (by omega), nI_t (by omega)]; omega), ald_n (by omega) (by omega), Option.bind_some, digit_c, q_bd_s', show 67 + 1 = 68 from rfl, h.2 p (by omega)]
    cases zD (z p) with
    | true => rw [if_neg bI_1, if_pos rfl, lit_n, nI_add]; exact ih
    | false => rw [if_pos bI_0, if_neg (by decide)]
/-- a number's value, while it is one -/
def nv (z : Nat → Int) : Nat → Nat → Nat → Nat
  | 0, _, a => a
  | n + 1, p, a => nv z n (p + 1) (10 * a + (z p - 48).toNat)
theorem nv_lt {z : Nat → Int} : ∀ n p a m, (∀ q, p ≤ q → q < p + n → zD (z q) = true) → a < 10 ^ m → nv z n p a < 10 ^ (m + n)
  | 0, p, a, m, h, ha => ha
  | n + 1, p, a, m, h, ha => by
    unfold nv
    have h1 := h p (by omega) (by omega)
    unfold zD at h1
    have h2 := of_decide_eq_true h1
    rw [show m + (n + 1) = m + 1 + n by omega]
    refine nv_lt n (p + 1) _ (m + 1) (fun q a b => h q (by omega) (by omega)) ?_
    rw [Nat.pow_succ]
    omega
def nw (z : Nat → Int) : Nat → Nat → Int32 → Int32
  | 0, _, a => a
  | n + 1, p, a => nw z n (p + 1) (nI 10 * a + nI (z p).toNat - nI 48)
theorem numC_it {K : Int32 → qS → qR} (hT : TP N z) (h : TC N z u) {e : Nat} (he : e ≤ N) : ∀ n p a f, p + n = e → n < f → q_it2 (m_X8_number_L5 67 (nI e) K) f a (nI p) u = K (nw z n p a) u
  | n, p, a, 0, hp, hf => by omega
  | 0, p, a, f + 1, hp, hf => by
    have := hT.1
    show m_X8_number_L5 _ _ _ _ _ _ _ = _
    unfold m_X8_number_L5
    rw [if_pos (by rw [nI_t (by omega), nI_t (by omega)]; omega)]; rfl
  | n + 1, p, a, f + 1, hp, hf => by
    have := hT.1
    have hz := hT.2.1 p (by omega)
    have ih := numC_it (K := K) hT h he n (p + 1) (nI 10 * a + nI (z p).toNat - nI 48) f (by omega) (by omega)
    have hb : u.1 68 p = nI (z p).toNat := i32_eq (by rw [h.2 p (by omega), nI_t (by omega)]; omega)
    show m_X8_number_L5 _ _ _ (q_it2 (m_X8_number_L5 67 (nI e) K) f) _ _ _ = _
    generalize q_it2 (m_X8_number_L5 67 (nI e) K) f = self at ih ⊢
    unfold m_X8_number_L5 nw
    simp only [lit_n]
    rw [if_neg (by rw [nI_t (by omega), nI_t (by omega)]; omega), ald_n (by omega) (by omega), Option.bind_some, show 67 + 1 = 68 from rfl, hb, q_let_s, nI_add, ih]
theorem nw_nv {z : Nat → Int} : ∀ n p a m, (∀ q, p ≤ q → q < p + n → zD (z q) = true) → a < 10 ^ m → m + n ≤ 4 → nw z n p (nI a) = nI (nv z n p a)
  | 0, p, a, m, h, ha, hm => rfl
  | n + 1, p, a, m, h, ha, hm => by
    have h1 := h p (by omega) (by omega)
    unfold zD at h1
    have h2 := of_decide_eq_true h1
    have h3 : 10 ^ m ≤ 10 ^ 3 := Nat.pow_le_pow_right (by omega) (by omega)
    unfold nw nv
    rw [pk_mul, nI_add, nI_sub (by omega), show 10 * a + (z p).toNat - 48 = 10 * a + (z p - 48).toNat by omega]
    exact nw_nv n (p + 1) _ (m + 1) (fun q a b => h q (by omega) (by omega)) (by rw [Nat.pow_succ]; omega) (by omega)
end
