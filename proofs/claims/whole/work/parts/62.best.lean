/-! LAYER 2: the tree, the jam that is liked best -/
def enc : Option Nat → Int32
  | none => mI
  | some t => nI t
def mo (g : Nat → Int32) : Option Nat → Int32
  | none => nI 0
  | some q => g q
def bst (c : Nat → Bool) (ta : Nat → Int) : Nat → Nat → Option Nat → Option Nat
  | _, 0, b => b
  | t, n + 1, b => bst c ta (t + 1) n (if c t = true ∧ (∀ q, b = some q → ta q < ta t) then some t else b)
theorem bst_c {c : Nat → Bool} {ta : Nat → Int} : ∀ (n t : Nat) (b : Option Nat) (r : Nat), bst c ta t n b = some r → b = some r ∨ (t ≤ r ∧ r < t + n ∧ c r = true)
  | 0, t, b, r, h => Or.inl h
  | n + 1, t, b, r, h => by
    unfold bst at h
    rcases bst_c n (t + 1) _ r h with h1 | h1
    · split at h1
      · rename_i hc
        cases h1
        exact Or.inr ⟨by omega, by omega, hc.1⟩
      · exact Or.inl h1
    · exact Or.inr ⟨by omega, by omega, h1.2.2⟩
theorem bst_cong {c c2 : Nat → Bool} {ta ta2 : Nat → Int} : ∀ (n t : Nat) (b : Option Nat), (∀ q, q < t + n → c2 q = c q ∧ ta2 q = ta q) → (∀ q, b = some q → q < t) → bst c2 ta2 t n b = bst c ta t n b
  | 0, t, b, _, _ => rfl
  | n + 1, t, b, h, hb => by
    unfold bst
    have e : (c2 t = true ∧ ∀ q, b = some q → ta2 q < ta2 t) ↔ (c t = true ∧ ∀ q, b = some q → ta q < ta t) := by
      rw [(h t (by omega)).1, (h t (by omega)).2]
      constructor
      · intro ⟨h1, h2⟩; exact ⟨h1, fun q hq => by have := h2 q hq; rw [(h q (by have := hb q hq; omega)).2] at this; exact this⟩
      · intro ⟨h1, h2⟩; exact ⟨h1, fun q hq => by rw [(h q (by have := hb q hq; omega)).2]; exact h2 q hq⟩
    by_cases h1 : c t = true ∧ ∀ q, b = some q → ta q < ta t
    · rw [if_pos (e.mpr h1), if_pos h1]
      exact bst_cong n (t + 1) _ (fun q hq => h q (by omega)) (fun q hq => by cases hq; omega)
    · rw [if_neg (fun h2 => h1 (e.mp h2)), if_neg h1]
      exact bst_cong n (t + 1) _ (fun q hq => h q (by omega)) (fun q hq => by have := hb q hq; omega)
theorem bst_none {c : Nat → Bool} {ta : Nat → Int} : ∀ (n t : Nat), (∀ q, t ≤ q → q < t + n → c q = false) → bst c ta t n none = none
  | 0, t, _ => rfl
  | n + 1, t, h => by
    unfold bst
    rw [if_neg (fun h1 => by rw [h t (by omega) (by omega)] at h1; cases h1.1)]
    exact bst_none n (t + 1) (fun q h1 h2 => h q (by omega) (by omega))
def tT (f : Nat → Int32) (e t : Nat) : Int32 := f (86 + (5 * e + (f (20 + t)).toInt.toNat)) + nI 5
def cd (f : Nat → Int32) (e pl t : Nat) : Bool := decide ((f (34 + t)).toInt = (nI pl).toInt ∧ 0 < (f (62 + t)).toInt ∧ 0 < (tT f e t).toInt)
theorem taste_t {x : Int32} (h : -5 ≤ x.toInt ∧ x.toInt ≤ 4) : (x + nI 5).toInt = x.toInt + 5 := by
  have t5 : (nI 5).toInt = 5 := rfl
  rw [i32_add] <;> rw [t5] <;> omega
section
variable {tr th tg : Bool} {k k2 : Nat} {u v : qS}
theorem treeC_it {T P E e pl : Nat} {K : Int32 → qS → qR} (hC : RC k2 u.1 (v.1 164) (v.1 163)) (hB : BC (v.1 164) (v.1 163)) (hT : v.1 164 4 = nI T) (hT4 : T ≤ 14) (hP : v.1 163 6 = nI P) (hP5 : P ≤ 5) (hE : v.1 163 7 = nI E) (hE1 : E ≤ 10) (he : e < E) (hpl : pl < 10) :
    ∀ (n t f : Nat) (b : Option Nat), t + n = T → n < f → (∀ q, b = some q → q < T) → q_it3 (m_X0_treeFor_L8 k2 (nI e) (nI pl) K) f (enc b) (mo (tT (v.1 164) e) b) (nI t) u = K (enc (bst (cd (v.1 164) e pl) (fun t => (tT (v.1 164) e t).toInt) t n b)) u
  | n, t, 0, b, ht, hf, hb => by omega
  | 0, t, f + 1, b, ht, hf, hb => by
    show m_X0_treeFor_L8 _ _ _ _ _ _ _ _ _ = _
    unfold m_X0_treeFor_L8
    rw [hC.trees, hT, if_pos (by rw [nI_t (by omega), nI_t (by omega)]; omega)]; rfl
  | n + 1, t, f + 1, b, ht, hf, hb => by
    have c1 : ¬ (u.1 k2 8).toInt ≤ (nI t).toInt := by rw [hC.trees, hT, nI_t (by omega), nI_t (by omega)]; omega
    obtain ⟨p, hp, p1, p2⟩ := hB.tparty hT hP hP5 hT4 (t := t) (by omega)
    have x5 : q_ald u (k2 + 5) 14 (nI t) = some (v.1 164 (34 + t)) := by rw [ald_n (by omega) (by omega), hC.tplace (by omega)]
    have x7 : q_ald u (k2 + 7) 14 (nI t) = some (v.1 164 (62 + t)) := by rw [ald_n (by omega) (by omega), hC.hang (by omega)]
    have x4 : q_ald u (k2 + 4) 14 (nI t) = some (nI p) := by rw [ald_n (by omega) (by omega), hC.tparty (by omega), p1]
    have xt : m_X0_tasteFor k2 (nI e) (nI p) u = some (tT (v.1 164) e t, u) := by rw [taste_c hC hE hE1 he (by omega)]; unfold tT; rw [p2]; rfl
    have hcd : cd (v.1 164) e pl t = true ↔ ((v.1 164 (34 + t)).toInt = (nI pl).toInt ∧ 0 < (v.1 164 (62 + t)).toInt ∧ 0 < (tT (v.1 164) e t).toInt) := by unfold cd; rw [decide_eq_true_iff]
    unfold bst
    have key : m_X0_treeFor_L8 k2 (nI e) (nI pl) K (q_it3 (m_X0_treeFor_L8 k2 (nI e) (nI pl) K) f) (enc b) (mo (tT (v.1 164) e) b) (nI t) u =
        (q_it3 (m_X0_treeFor_L8 k2 (nI e) (nI pl) K) f) (enc (if cd (v.1 164) e pl t = true ∧ (∀ q, b = some q → (tT (v.1 164) e q).toInt < (tT (v.1 164) e t).toInt) then some t else b)) (mo (tT (v.1 164) e) (if cd (v.1 164) e pl t = true ∧ (∀ q, b = some q → (tT (v.1 164) e q).toInt < (tT (v.1 164) e t).toInt) then some t else b)) (nI (t + 1)) u := by
      generalize q_it3 (m_X0_treeFor_L8 k2 (nI e) (nI pl) K) f = self
      unfold m_X0_treeFor_L8
      simp only [lit_n, nI_add, if_neg c1, x5, x7, x4, xt, Option.bind_some, q_bd_some, q_jn]
      by_cases h1 : (v.1 164 (34 + t)).toInt = (nI pl).toInt
      · rw [if_pos h1]
        by_cases h2 : (v.1 164 (62 + t)).toInt ≤ 0
        · rw [if_pos h2, if_neg (fun h => by have := (hcd.mp h.1).2.1; omega)]
        · rw [if_neg h2]
          cases b with
          | none =>
            have t0 : (mo (tT (v.1 164) e) none).toInt = 0 := rfl
            rw [t0]
            by_cases h3 : (tT (v.1 164) e t).toInt ≤ 0
            · rw [if_pos h3, if_neg (fun h => by have := (hcd.mp h.1).2.2; omega)]
            · rw [if_neg h3, if_pos ⟨hcd.mpr ⟨h1, by omega, by omega⟩, fun q hq => by cases hq⟩]; rfl
          | some q0 =>
            have hmo : (mo (tT (v.1 164) e) (some q0)).toInt = (tT (v.1 164) e q0).toInt := rfl
            by_cases h3 : (tT (v.1 164) e t).toInt ≤ (mo (tT (v.1 164) e) (some q0)).toInt
            · rw [if_pos h3, if_neg (fun h => by have := h.2 q0 rfl; omega)]
            · have : 0 ≤ (tT (v.1 164) e q0).toInt := by
                unfold tT
                have hq0 := hb q0 rfl
                obtain ⟨p0, hp0, -, p02⟩ := hB.tparty hT hP hP5 hT4 (t := q0) hq0
                rw [p02]
                have := hB.taste (i := 5 * e + p0) (by omega)
                have h2 := taste_t this
                rw [show ((p0 : Int).toNat) = p0 from rfl]
                omega
              rw [if_neg h3, if_pos ⟨hcd.mpr ⟨h1, by omega, by omega⟩, fun q hq => by cases hq; omega⟩]; rfl
      · rw [if_neg h1, if_neg (fun h => h1 (hcd.mp h.1).1)]
    refine key.trans ?_
    refine treeC_it hC hB hT hT4 hP hP5 hE hE1 he hpl n (t + 1) f _ (by omega) (by omega) (fun q hq => ?_)
    split at hq
    · cases hq; omega
    · exact hb q hq
theorem treeR_it {T P E e pl : Nat} {K : Int32 → qS → qR} (hB : BC (v.1 164) (v.1 163)) (hT : v.1 164 4 = nI T) (hT4 : T ≤ 14) (hP : v.1 163 6 = nI P) (hP5 : P ≤ 5) (hE1 : E ≤ 10) (he : e < E) :
    ∀ (n t f : Nat) (b : Option Nat), t + n = T → n < f → (∀ q, b = some q → q < T) → q_it2 (m_X11_treeFor_L5 (nI e) (nI pl) K) f (enc b) (nI t) v = K (enc (bst (cd (v.1 164) e pl) (fun t => (tT (v.1 164) e t).toInt) t n b)) v
  | n, t, 0, b, ht, hf, hb => by omega
  | 0, t, f + 1, b, ht, hf, hb => by
    show m_X11_treeFor_L5 _ _ _ _ _ _ _ = _
    unfold m_X11_treeFor_L5
    have a4 : q_ald v 164 136 (nI 4) = some (nI T) := by rw [ald_n (by omega) (by omega), hT]
    have c1 : (nI T).toInt ≤ (nI t).toInt := by rw [nI_t (by omega), nI_t (by omega)]; omega
    simp only [lit_n, a4, Option.bind_some, if_pos c1]; rfl
  | n + 1, t, f + 1, b, ht, hf, hb => by
    have a4 : q_ald v 164 136 (nI 4) = some (nI T) := by rw [ald_n (by omega) (by omega), hT]
    have c1 : ¬ (nI T).toInt ≤ (nI t).toInt := by rw [nI_t (by omega), nI_t (by omega)]; omega
    obtain ⟨p, hp, p1, p2⟩ := hB.tparty hT hP hP5 hT4 (t := t) (by omega)
    obtain ⟨h, hh, h1', h2'⟩ := hB.hang (t := t) (by omega)
    have x5 : q_ald v 164 136 (nI (34 + t)) = some (v.1 164 (34 + t)) := ald_n (by omega) (by omega)
    have x7 : q_ald v 164 136 (nI (62 + t)) = some (v.1 164 (62 + t)) := ald_n (by omega) (by omega)
    have x4 : q_ald v 164 136 (nI (20 + t)) = some (nI p) := by rw [ald_n (by omega) (by omega), p1]
    have xt : m_X11_tasteOf (nI e) (nI p) v = some (tT (v.1 164) e t, v) := by rw [taste_r (by omega) (by omega)]; unfold tT; rw [p2]; rfl
    have ht0 : ∀ q, q < T → 0 ≤ (tT (v.1 164) e q).toInt := fun q hq => by
      obtain ⟨p0, hp0, -, p02⟩ := hB.tparty hT hP hP5 hT4 (t := q) hq
      unfold tT
      rw [p02]
      have := hB.taste (i := 5 * e + p0) (by omega)
      have h2 := taste_t this
      rw [show ((p0 : Int).toNat) = p0 from rfl]
      omega
    have hcd : cd (v.1 164) e pl t = true ↔ ((v.1 164 (34 + t)).toInt = (nI pl).toInt ∧ 0 < (v.1 164 (62 + t)).toInt ∧ 0 < (tT (v.1 164) e t).toInt) := by unfold cd; rw [decide_eq_true_iff]
    unfold bst
    have key : m_X11_treeFor_L5 (nI e) (nI pl) K (q_it2 (m_X11_treeFor_L5 (nI e) (nI pl) K) f) (enc b) (nI t) v =
        (q_it2 (m_X11_treeFor_L5 (nI e) (nI pl) K) f) (enc (if cd (v.1 164) e pl t = true ∧ (∀ q, b = some q → (tT (v.1 164) e q).toInt < (tT (v.1 164) e t).toInt) then some t else b)) (nI (t + 1)) v := by
      generalize q_it2 (m_X11_treeFor_L5 (nI e) (nI pl) K) f = self
      unfold m_X11_treeFor_L5
      simp only [lit_n, mI_lit, nI_add, a4, if_neg c1, x5, x7, x4, xt, Option.bind_some, q_bd_some, q_jn]
      by_cases h1 : (v.1 164 (34 + t)).toInt = (nI pl).toInt
      · rw [if_pos h1]
        by_cases h2 : (v.1 164 (62 + t)).toInt = 0
        · rw [if_pos h2, if_neg (fun h => by have := (hcd.mp h.1).2.1; omega)]
        · rw [if_neg h2]
          have h0 := ht0 t (by omega)
          by_cases h3 : (tT (v.1 164) e t).toInt = 0
          · rw [if_pos h3, if_neg (fun h => by have := (hcd.mp h.1).2.2; omega)]
          · rw [if_neg h3]
            cases b with
            | none =>
              rw [if_pos (show (enc none).toInt = mI.toInt from rfl), if_pos ⟨hcd.mpr ⟨h1, by omega, by omega⟩, fun q hq => by cases hq⟩]; rfl
            | some q0 =>
              have hq0 := hb q0 rfl
              obtain ⟨p0, hp0, p01, p02⟩ := hB.tparty hT hP hP5 hT4 (t := q0) hq0
              have y4 : q_ald v 164 136 (nI (20 + q0)) = some (nI p0) := by rw [ald_n (by omega) (by omega), p01]
              have yt : m_X11_tasteOf (nI e) (nI p0) v = some (tT (v.1 164) e q0, v) := by rw [taste_r (by omega) (by omega)]; unfold tT; rw [p02]; rfl
              have em : ¬ (enc (some q0)).toInt = mI.toInt := by show ¬ (nI q0).toInt = mI.toInt; rw [nI_t (by omega), mI_t]; omega
              rw [if_neg em]
              simp only [enc, nI_add, y4, Option.bind_some, yt, q_bd_some]
              by_cases h4 : (tT (v.1 164) e t).toInt ≤ (tT (v.1 164) e q0).toInt
              · rw [if_pos h4, if_neg (fun h => by have := h.2 q0 rfl; omega)]
              · rw [if_neg h4, if_pos ⟨hcd.mpr ⟨h1, by omega, by omega⟩, fun q hq => by cases hq; omega⟩]
      · rw [if_neg h1, if_neg (fun h => h1 (hcd.mp h.1).1)]
    refine key.trans ?_
    refine treeR_it hB hT hT4 hP hP5 hE1 he n (t + 1) f _ (by omega) (by omega) (fun q hq => ?_)
    split at hq
    · cases hq; omega
    · exact hb q hq
def bT (f : Nat → Int32) (e pl T : Nat) : Option Nat := bst (cd f e pl) (fun t => (tT f e t).toInt) 0 T none
theorem tree_c {T P E e pl : Nat} (hC : RC k2 u.1 (v.1 164) (v.1 163)) (hB : BC (v.1 164) (v.1 163)) (hT : v.1 164 4 = nI T) (hT4 : T ≤ 14) (hP : v.1 163 6 = nI P) (hP5 : P ≤ 5) (hE : v.1 163 7 = nI E) (hE1 : E ≤ 10) (he : e < E) (hpl : pl < 10) :
    m_X0_treeFor k2 (nI e) (nI pl) u = some (enc (bT (v.1 164) e pl T), u) := by
  unfold m_X0_treeFor
  have := treeC_it (K := fun x3 u_10 => some (x3, u_10)) hC hB hT hT4 hP hP5 hE hE1 he hpl T 0 q_F none (by omega) (by rw [q_F_eq]; omega) (fun q hq => by cases hq)
  exact this
theorem tree_r {T P E e pl : Nat} (hB : BC (v.1 164) (v.1 163)) (hT : v.1 164 4 = nI T) (hT4 : T ≤ 14) (hP : v.1 163 6 = nI P) (hP5 : P ≤ 5) (hE1 : E ≤ 10) (he : e < E) :
    m_X11_treeFor (nI e) (nI pl) v = some (enc (bT (v.1 164) e pl T), v) := by
  unfold m_X11_treeFor
  have := treeR_it (pl := pl) (K := fun x3 u_10 => some (x3, u_10)) hB hT hT4 hP hP5 hE1 he T 0 q_F none (by omega) (by rw [q_F_eq]; omega) (fun q hq => by cases hq)
  exact this
/-! jam -/
def tJ (f : Nat → Int32) (e p : Nat) : Int32 := f (86 + (5 * e + p)) + nI 5
def cj (f : Nat → Int32) (e p : Nat) : Bool := decide (0 < (f (15 + p)).toInt ∧ 0 < (tJ f e p).toInt)
def bJ (f : Nat → Int32) (e P : Nat) : Option Nat := bst (cj f e) (fun p => (tJ f e p).toInt) 0 P none
theorem jamC_it {P E e : Nat} {K : Int32 → qS → qR} (hC : RC k2 u.1 (v.1 164) (v.1 163)) (hB : BC (v.1 164) (v.1 163)) (hP : v.1 163 6 = nI P) (hP5 : P ≤ 5) (hE : v.1 163 7 = nI E) (hE1 : E ≤ 10) (he : e < E) :
    ∀ (n p f : Nat) (b : Option Nat), p + n = P → n < f → (∀ q, b = some q → q < P) → q_it3 (m_X0_jamFor_L7 k2 (nI e) K) f (enc b) (mo (tJ (v.1 164) e) b) (nI p) u = K (enc (bst (cj (v.1 164) e) (fun p => (tJ (v.1 164) e p).toInt) p n b)) u
  | n, p, 0, b, ht, hf, hb => by omega
  | 0, p, f + 1, b, ht, hf, hb => by
    show m_X0_jamFor_L7 _ _ _ _ _ _ _ _ = _
    unfold m_X0_jamFor_L7
    rw [hC.parties, hP, if_pos (by rw [nI_t (by omega), nI_t (by omega)]; omega)]; rfl
  | n + 1, p, f + 1, b, ht, hf, hb => by
    have c1 : ¬ (u.1 k2 7).toInt ≤ (nI p).toInt := by rw [hC.parties, hP, nI_t (by omega), nI_t (by omega)]; omega
    have x1 : q_ald u (k2 + 1) 5 (nI p) = some (v.1 164 (15 + p)) := by rw [ald_n (by omega) (by omega), hC.store (by omega)]
    have xt : m_X0_tasteFor k2 (nI e) (nI p) u = some (tJ (v.1 164) e p, u) := taste_c hC hE hE1 he (by omega)
    have hcd : cj (v.1 164) e p = true ↔ (0 < (v.1 164 (15 + p)).toInt ∧ 0 < (tJ (v.1 164) e p).toInt) := by unfold cj; rw [decide_eq_true_iff]
    unfold bst
    have key : m_X0_jamFor_L7 k2 (nI e) K (q_it3 (m_X0_jamFor_L7 k2 (nI e) K) f) (enc b) (mo (tJ (v.1 164) e) b) (nI p) u =
        (q_it3 (m_X0_jamFor_L7 k2 (nI e) K) f) (enc (if cj (v.1 164) e p = true ∧ (∀ q, b = some q → (tJ (v.1 164) e q).toInt < (tJ (v.1 164) e p).toInt) then some p else b)) (mo (tJ (v.1 164) e) (if cj (v.1 164) e p = true ∧ (∀ q, b = some q → (tJ (v.1 164) e q).toInt < (tJ (v.1 164) e p).toInt) then some p else b)) (nI (p + 1)) u := by
      generalize q_it3 (m_X0_jamFor_L7 k2 (nI e) K) f = self
      unfold m_X0_jamFor_L7
      simp only [lit_n, nI_add, if_neg c1, x1, xt, Option.bind_some, q_bd_some, q_jn]
      by_cases h2 : (v.1 164 (15 + p)).toInt ≤ 0
      · rw [if_pos h2, if_neg (fun h => by have := (hcd.mp h.1).1; omega)]
      · rw [if_neg h2]
        cases b with
        | none =>
          have t0 : (mo (tJ (v.1 164) e) none).toInt = 0 := rfl
          rw [t0]
          by_cases h3 : (tJ (v.1 164) e p).toInt ≤ 0
          · rw [if_pos h3, if_neg (fun h => by have := (hcd.mp h.1).2; omega)]
          · rw [if_neg h3, if_pos ⟨hcd.mpr ⟨by omega, by omega⟩, fun q hq => by cases hq⟩]; rfl
        | some q0 =>
          have hmo : (mo (tJ (v.1 164) e) (some q0)).toInt = (tJ (v.1 164) e q0).toInt := rfl
          by_cases h3 : (tJ (v.1 164) e p).toInt ≤ (mo (tJ (v.1 164) e) (some q0)).toInt
          · rw [if_pos h3, if_neg (fun h => by have := h.2 q0 rfl; omega)]
          · have : 0 ≤ (tJ (v.1 164) e q0).toInt := by
              unfold tJ
              have hq0 := hb q0 rfl
              have := hB.taste (i := 5 * e + q0) (by omega)
              have h2 := taste_t this
              omega
            rw [if_neg h3, if_pos ⟨hcd.mpr ⟨by omega, by omega⟩, fun q hq => by cases hq; omega⟩]; rfl
    refine key.trans ?_
    refine jamC_it hC hB hP hP5 hE hE1 he n (p + 1) f _ (by omega) (by omega) (fun q hq => ?_)
    split at hq
    · cases hq; omega
    · exact hb q hq
theorem jamR_it {P E e : Nat} {K : Int32 → qS → qR} (hB : BC (v.1 164) (v.1 163)) (hP : v.1 163 6 = nI P) (hP5 : P ≤ 5) (hE1 : E ≤ 10) (he : e < E) :
    ∀ (n p f : Nat) (b : Option Nat), p + n = P → n < f → (∀ q, b = some q → q < P) → q_it2 (m_X11_jamFor_L4 (nI e) K) f (enc b) (nI p) v = K (enc (bst (cj (v.1 164) e) (fun p => (tJ (v.1 164) e p).toInt) p n b)) v
  | n, p, 0, b, ht, hf, hb => by omega
  | 0, p, f + 1, b, ht, hf, hb => by
    show m_X11_jamFor_L4 _ _ _ _ _ _ = _
    unfold m_X11_jamFor_L4
    rw [hP, if_pos (by rw [nI_t (by omega), nI_t (by omega)]; omega)]; rfl
  | n + 1, p, f + 1, b, ht, hf, hb => by
    have c1 : ¬ (v.1 163 6).toInt ≤ (nI p).toInt := by rw [hP, nI_t (by omega), nI_t (by omega)]; omega
    have x1 : q_ald v 164 136 (nI (15 + p)) = some (v.1 164 (15 + p)) := ald_n (by omega) (by omega)
    have xt : m_X11_tasteOf (nI e) (nI p) v = some (tJ (v.1 164) e p, v) := taste_r (by omega) (by omega)
    have hcd : cj (v.1 164) e p = true ↔ (0 < (v.1 164 (15 + p)).toInt ∧ 0 < (tJ (v.1 164) e p).toInt) := by unfold cj; rw [decide_eq_true_iff]
    unfold bst
    have key : m_X11_jamFor_L4 (nI e) K (q_it2 (m_X11_jamFor_L4 (nI e) K) f) (enc b) (nI p) v =
        (q_it2 (m_X11_jamFor_L4 (nI e) K) f) (enc (if cj (v.1 164) e p = true ∧ (∀ q, b = some q → (tJ (v.1 164) e q).toInt < (tJ (v.1 164) e p).toInt) then some p else b)) (nI (p + 1)) v := by
      generalize q_it2 (m_X11_jamFor_L4 (nI e) K) f = self
      unfold m_X11_jamFor_L4
      simp only [lit_n, mI_lit, nI_add, if_neg c1, x1, xt, Option.bind_some, q_bd_some, q_jn]
      by_cases h2 : (v.1 164 (15 + p)).toInt ≤ 0
      · rw [if_pos h2, if_neg (fun h => by have := (hcd.mp h.1).1; omega)]
      · rw [if_neg h2]
        by_cases h3 : (tJ (v.1 164) e p).toInt ≤ 0
        · rw [if_pos h3, if_neg (fun h => by have := (hcd.mp h.1).2; omega)]
        · rw [if_neg h3]
          cases b with
          | none =>
            rw [if_pos (show (enc none).toInt = mI.toInt from rfl), if_pos ⟨hcd.mpr ⟨by omega, by omega⟩, fun q hq => by cases hq⟩]; rfl
          | some q0 =>
            have hq0 := hb q0 rfl
            have yt : m_X11_tasteOf (nI e) (nI q0) v = some (tJ (v.1 164) e q0, v) := taste_r (by omega) (by omega)
            have em : ¬ (enc (some q0)).toInt = mI.toInt := by show ¬ (nI q0).toInt = mI.toInt; rw [nI_t (by omega), mI_t]; omega
            rw [if_neg em]
            simp only [enc, yt, q_bd_some]
            by_cases h4 : (tJ (v.1 164) e p).toInt ≤ (tJ (v.1 164) e q0).toInt
            · rw [if_pos h4, if_neg (fun h => by have := h.2 q0 rfl; omega)]
            · rw [if_neg h4, if_pos ⟨hcd.mpr ⟨by omega, by omega⟩, fun q hq => by cases hq; omega⟩]
    refine key.trans ?_
    refine jamR_it hB hP hP5 hE1 he n (p + 1) f _ (by omega) (by omega) (fun q hq => ?_)
    split at hq
    · cases hq; omega
    · exact hb q hq
theorem jam_c {P E e : Nat} (hC : RC k2 u.1 (v.1 164) (v.1 163)) (hB : BC (v.1 164) (v.1 163)) (hP : v.1 163 6 = nI P) (hP5 : P ≤ 5) (hE : v.1 163 7 = nI E) (hE1 : E ≤ 10) (he : e < E) :
    m_X0_jamFor k2 (nI e) u = some (enc (bJ (v.1 164) e P), u) := by
  unfold m_X0_jamFor
  have := jamC_it (K := fun x3 u_10 => some (x3, u_10)) hC hB hP hP5 hE hE1 he P 0 q_F none (by omega) (by rw [q_F_eq]; omega) (fun q hq => by cases hq)
  exact this
theorem jam_r {P E e : Nat} (hB : BC (v.1 164) (v.1 163)) (hP : v.1 163 6 = nI P) (hP5 : P ≤ 5) (hE1 : E ≤ 10) (he : e < E) :
    m_X11_jamFor (nI e) v = some (enc (bJ (v.1 164) e P), v) := by
  unfold m_X11_jamFor
  have := jamR_it (K := fun x3 u_10 => some (x3, u_10)) hB hP hP5 hE1 he P 0 q_F none (by omega) (by rw [q_F_eq]; omega) (fun q hq => by cases hq)
  exact this
end
