/-! LAYER 2: THE CALLS, 17: sets as bits, the least of the fewest -/
def pcn : Nat → Nat → Nat
  | 0, _ => 0
  | f + 1, n => n % 2 + pcn f (n / 2)
theorem pcn_le : ∀ f n, pcn f n ≤ f
  | 0, n => Nat.le_refl _
  | f + 1, n => by
    have := pcn_le f (n / 2)
    unfold pcn
    omega
def bcF (x0 : Int32) : Int32 :=
  let y0 := (x0 - ((q_ushr x0 (1 : Int32)) &&& (1431655765 : Int32)))
  let y1 := ((y0 &&& (858993459 : Int32)) + ((q_ushr y0 (2 : Int32)) &&& (858993459 : Int32)))
  let y2 := ((y1 + (q_ushr y1 (4 : Int32))) &&& (252645135 : Int32))
  let y3 := (y2 + (q_ushr y2 (8 : Int32)))
  let y4 := (y3 + (q_ushr y3 (16 : Int32)))
  (y4 &&& (63 : Int32))
theorem bcF_c {x : Int32} {u : qS} : m_J6_bitCount_0f7a4 x u = some (bcF x, u) := rfl
set_option maxRecDepth 100000 in
theorem bc_t : ∀ a, a < 32 → ∀ b, b < 32 → bcF (nI (32 * a + b)) = nI (pcn 10 (32 * a + b)) := by decide +kernel
theorem bc_c {n : Nat} {u : qS} (hn : n < 1024) : m_J6_bitCount_0f7a4 (nI n) u = some (nI (pcn 10 n), u) := by
  have h := bc_t (n / 32) (by omega) (n % 32) (by omega)
  rw [show 32 * (n / 32) + n % 32 = n by omega] at h
  rw [bcF_c, h]
def onT (n : Nat) : Bool := n == 0 || (decide (nI n &&& (nI n - nI 1) = nI (n &&& (n - 1))) && (decide (n &&& (n - 1) < 1024) && decide (pcn 10 (n &&& (n - 1)) + 1 = pcn 10 n)))
set_option maxRecDepth 100000 in
theorem on_t : ∀ a, a < 32 → ∀ b, b < 32 → onT (32 * a + b) = true := by decide +kernel
theorem on_n {n : Nat} (hn : n < 1024) (h0 : n ≠ 0) : nI n &&& (nI n - nI 1) = nI (n &&& (n - 1)) ∧ n &&& (n - 1) < 1024 ∧ pcn 10 (n &&& (n - 1)) + 1 = pcn 10 n := by
  have h := on_t (n / 32) (by omega) (n % 32) (by omega)
  rw [show 32 * (n / 32) + n % 32 = n by omega] at h
  unfold onT at h
  rw [Bool.or_eq_true, beq_iff_eq, Bool.and_eq_true, Bool.and_eq_true, decide_eq_true_eq, decide_eq_true_eq, decide_eq_true_eq] at h
  rcases h with h | h
  · exact absurd h h0
  · exact h
theorem ones_it {K : Int32 → qS → qR} {u : qS} : ∀ (c n f a : Nat), n < 1024 → pcn 10 n = c → c < f → q_it2 (m_X11_onesOf_L4 K) f (nI a) (nI n) u = K (nI (a + c)) u
  | c, n, 0, a, hn, hc, hf => by omega
  | c, n, f + 1, a, hn, hc, hf => by
    by_cases h0 : n = 0
    · subst h0
      have : c = 0 := by rw [← hc]; decide
      subst this
      show m_X11_onesOf_L4 _ _ _ _ _ = _
      unfold m_X11_onesOf_L4
      rw [if_pos (by decide)]; rfl
    · obtain ⟨t1, t2, t3⟩ := on_n hn h0
      have ih := ones_it (K := K) (u := u) (c - 1) (n &&& (n - 1)) f (a + 1) t2 (by omega) (by omega)
      show m_X11_onesOf_L4 _ (q_it2 (m_X11_onesOf_L4 K) f) _ _ _ = _
      generalize q_it2 (m_X11_onesOf_L4 K) f = self at ih ⊢
      unfold m_X11_onesOf_L4
      simp only [lit_n]
      rw [if_neg (by rw [nI_t (by omega)]; omega), q_let_s, q_let_s, nI_add, t1, ih, show a + 1 + (c - 1) = a + c by omega]
theorem ones_r {n : Nat} {u : qS} (hn : n < 1024) : m_X11_onesOf (nI n) u = some (nI (pcn 10 n), u) := by
  unfold m_X11_onesOf
  simp only [lit_n]
  rw [ones_it (pcn 10 n) n q_F 0 hn rfl (by have := pcn_le 10 n; rw [q_F_eq]; omega), Nat.zero_add]
/-! the least of the fewest, from above and from below -/
section
variable {F : Nat → Bool} {c : Nat → Nat}
def dnF (F : Nat → Bool) (c : Nat → Nat) : Nat → Nat → Nat
  | 0, b => b
  | n + 1, b => dnF F c n (if c n ≤ c b ∧ F n = true then n else b)
def upS (F : Nat → Bool) (c : Nat → Nat) (i : Nat) : Option Nat → Option Nat
  | none => if F i = true then some i else none
  | some b => if c b ≤ c i then some b else if F i = true then some i else some b
def upF (F : Nat → Bool) (c : Nat → Nat) : Nat → Nat → Option Nat → Option Nat
  | 0, _, b => b
  | n + 1, i, b => upF F c n (i + 1) (upS F c i b)
theorem upS_n {F : Nat → Bool} {c : Nat → Nat} {i : Nat} : upS F c i none = if F i = true then some i else none := rfl
theorem upS_s {F : Nat → Bool} {c : Nat → Nat} {i b : Nat} : upS F c i (some b) = if c b ≤ c i then some b else if F i = true then some i else some b := rfl
def bsf (F : Nat → Bool) (c : Nat → Nat) (N r : Nat) : Prop := r < N ∧ F r = true ∧ (∀ j, j < N → F j = true → c r ≤ c j) ∧ ∀ j, j < r → F j = true → c r < c j
def upI (F : Nat → Bool) (c : Nat → Nat) (N : Nat) : Option Nat → Prop
  | none => ∀ j, j < N → F j = false
  | some b => bsf F c N b
theorem bsf_u {N r s : Nat} (h1 : bsf F c N r) (h2 : bsf F c N s) : r = s := by
  obtain ⟨a1, a2, a3, a4⟩ := h1
  obtain ⟨b1, b2, b3, b4⟩ := h2
  have e1 := a3 s b1 b2
  have e2 := b3 r a1 a2
  by_cases e : r < s
  · have := b4 r e a2; omega
  · by_cases e3 : s < r
    · have := a4 s e3 b2; omega
    · omega
theorem dn_p {N : Nat} : ∀ (n b : Nat), n ≤ N → b < N → F b = true → (∀ j, n ≤ j → j < N → F j = true → c b ≤ c j) → (∀ j, n ≤ j → j < b → F j = true → c b < c j) → bsf F c N (dnF F c n b)
  | 0, b, hn, hb, h1, h2, h3 => ⟨hb, h1, fun j hj => h2 j (by omega) hj, fun j hj => h3 j (by omega) hj⟩
  | n + 1, b, hn, hb, h1, h2, h3 => by
    unfold dnF
    split
    · rename_i h
      refine dn_p n n (by omega) (by omega) h.2 (fun j h4 h5 h6 => ?_) (fun j h4 h5 => by omega)
      by_cases e : j = n
      · subst e; omega
      · have := h2 j (by omega) h5 h6; omega
    · rename_i h
      refine dn_p n b (by omega) hb h1 (fun j h4 h5 h6 => ?_) (fun j h4 h5 h6 => ?_)
      · by_cases e : j = n
        · subst e
          by_cases e2 : c j ≤ c b
          · exact absurd ⟨e2, h6⟩ h
          · omega
        · exact h2 j (by omega) h5 h6
      · by_cases e : j = n
        · subst e
          by_cases e2 : c j ≤ c b
          · exact absurd ⟨e2, h6⟩ h
          · omega
        · exact h3 j (by omega) h5 h6
theorem upS_p {i : Nat} : ∀ b, upI F c i b → upI F c (i + 1) (upS F c i b)
  | none, h => by
    rw [upS_n]
    by_cases e : F i = true
    · rw [if_pos e]
      refine ⟨by omega, e, fun j hj hF => ?_, fun j hj hF => ?_⟩
      · by_cases e2 : j = i
        · subst e2; omega
        · have := h j (by omega); rw [this] at hF; cases hF
      · have := h j (by omega); rw [this] at hF; cases hF
    · rw [if_neg e]
      intro j hj
      by_cases e2 : j = i
      · subst e2; cases hh : F j
        · rfl
        · exact absurd hh e
      · exact h j (by omega)
  | some b, h => by
    obtain ⟨a1, a2, a3, a4⟩ := h
    rw [upS_s]
    by_cases e1 : c b ≤ c i
    · rw [if_pos e1]
      refine ⟨by omega, a2, fun j hj hF => ?_, a4⟩
      by_cases e2 : j = i
      · subst e2; exact e1
      · exact a3 j (by omega) hF
    · rw [if_neg e1]
      by_cases e : F i = true
      · rw [if_pos e]
        refine ⟨by omega, e, fun j hj hF => ?_, fun j hj hF => ?_⟩
        · by_cases e2 : j = i
          · subst e2; omega
          · have := a3 j (by omega) hF; omega
        · have := a3 j (by omega) hF; omega
      · rw [if_neg e]
        refine ⟨by omega, a2, fun j hj hF => ?_, a4⟩
        by_cases e2 : j = i
        · subst e2; exact absurd hF e
        · exact a3 j (by omega) hF
theorem up_p : ∀ (n i : Nat) (b : Option Nat), upI F c i b → upI F c (i + n) (upF F c n i b)
  | 0, i, b, h => h
  | n + 1, i, b, h => by
    have := up_p n (i + 1) _ (upS_p b h)
    rw [show i + (n + 1) = i + 1 + n by omega]
    exact this
theorem up_dn {N : Nat} (hN : 0 < N) (hF : F (N - 1) = true) : upF F c N 0 none = some (dnF F c N (N - 1)) ∧ dnF F c N (N - 1) < N := by
  have h1 := dn_p (F := F) (c := c) N (N - 1) (Nat.le_refl _) (by omega) hF (fun j a b => by omega) (fun j a b => by omega)
  have h2 := up_p (F := F) (c := c) N 0 none (fun j hj => by omega)
  rw [Nat.zero_add] at h2
  refine ⟨?_, h1.1⟩
  cases hr : upF F c N 0 none with
  | none =>
    rw [hr] at h2
    have := h2 (N - 1) (by omega)
    rw [this] at hF; cases hF
  | some s =>
    rw [hr] at h2
    rw [bsf_u h1 h2]
theorem up_no {N : Nat} (h : ∀ j, j < N → F j = false) : upF F c N 0 none = none := by
  have h2 := up_p (F := F) (c := c) N 0 none (fun j hj => by omega)
  rw [Nat.zero_add] at h2
  cases hr : upF F c N 0 none with
  | none => rfl
  | some s =>
    rw [hr] at h2
    have := h s h2.1
    rw [h2.2.1] at this; cases this
theorem dn_lt {N : Nat} : ∀ n b, n ≤ N → b < N → dnF F c n b < N
  | 0, b, _, h => h
  | n + 1, b, h1, h => by
    unfold dnF
    split
    · exact dn_lt n n (by omega) (by omega)
    · exact dn_lt n b (by omega) h
theorem up_lt {N : Nat} : ∀ n i b, i + n ≤ N → (∀ r, b = some r → r < N) → ∀ r, upF F c n i b = some r → r < N
  | 0, i, b, _, h => h
  | n + 1, i, b, h1, h => by
    refine up_lt n (i + 1) _ (by omega) (fun r hr => ?_)
    unfold upS at hr
    split at hr
    · split at hr
      · have := Option.some.inj hr; omega
      · cases hr
    · split at hr
      · exact h r hr
      · split at hr
        · have := Option.some.inj hr; omega
        · exact h r hr
end
/-- downwards to -1 -/
def dI : Nat → Int32
  | 0 => mI
  | n + 1 => nI n
theorem dI_m : ∀ n, nI n + mI = dI n
  | 0 => rfl
  | n + 1 => nI_m n
/-! feeds -/
def fdF (a : Nat → Int32) (s : Int32) : Nat → Nat → Bool
  | _, 0 => true
  | e, n + 1 => if (a e).toInt = 0 then fdF a s (e + 1) n else if (a e &&& s).toInt = 0 then false else fdF a s (e + 1) n
def bI (b : Bool) : Int32 := if b = true then nI 1 else nI 0
def mb (K0 K1 : qS → qR) (u : qS) : Bool → qR
  | false => K0 u
  | true => K1 u
theorem fedC_it {x : qS} {E : Nat} {s : Int32} {K0 K1 : qS → qR} (hE : x.1 2 9 = nI E) (hE1 : E ≤ 10) : ∀ (n e f : Nat), e + n = E → n < f → q_it1 (m_X10_isEachFedAt_L2 s K0 K1) f (nI e) x = mb K0 K1 x (fdF (x.1 22) s e n)
  | n, e, 0, he, hf => by omega
  | 0, e, f + 1, he, hf => by
    show m_X10_isEachFedAt_L2 _ _ _ _ _ _ = _
    unfold m_X10_isEachFedAt_L2
    rw [hE, if_pos (by rw [nI_t (by omega), nI_t (by omega)]; omega)]; rfl
  | n + 1, e, f + 1, he, hf => by
    have ih := fedC_it (s := s) (K0 := K0) (K1 := K1) hE hE1 n (e + 1) f (by omega) (by omega)
    show m_X10_isEachFedAt_L2 _ _ _ (q_it1 (m_X10_isEachFedAt_L2 s K0 K1) f) _ _ = _
    generalize q_it1 (m_X10_isEachFedAt_L2 s K0 K1) f = self at ih ⊢
    unfold m_X10_isEachFedAt_L2 fdF
    simp only [lit_n]
    rw [hE, if_neg (by rw [nI_t (by omega), nI_t (by omega)]; omega), ald_n (by omega) (by omega), Option.bind_some, q_jn, nI_add]
    by_cases h1 : (x.1 22 e).toInt = 0
    · rw [if_pos h1, if_pos h1]; exact ih
    · rw [if_neg h1, if_neg h1]
      by_cases h2 : (x.1 22 e &&& s).toInt = 0
      · rw [if_pos h2, if_pos h2]; rfl
      · rw [if_neg h2, if_neg h2]; exact ih
theorem fedR_it {x y : qS} {E : Nat} {s : Int32} {K0 K1 : qS → qR} (hP : RPa 19 x.1 y.1) (hE : y.1 163 7 = nI E) (hE1 : E ≤ 10) : ∀ (n e f : Nat), e + n = E → n < f → q_it1 (m_X11_feedsAll_L2 s K0 K1) f (nI e) y = mb K0 K1 y (fdF (x.1 22) s e n)
  | n, e, 0, he, hf => by omega
  | 0, e, f + 1, he, hf => by
    show m_X11_feedsAll_L2 _ _ _ _ _ _ = _
    unfold m_X11_feedsAll_L2
    rw [hE, if_pos (by rw [nI_t (by omega), nI_t (by omega)]; omega)]; rfl
  | n + 1, e, f + 1, he, hf => by
    have ih := fedR_it (s := s) (K0 := K0) (K1 := K1) hP hE hE1 n (e + 1) f (by omega) (by omega)
    have pl := (places_s hP (show e < 10 by omega)).2
    show m_X11_feedsAll_L2 _ _ _ (q_it1 (m_X11_feedsAll_L2 s K0 K1) f) _ _ = _
    generalize q_it1 (m_X11_feedsAll_L2 s K0 K1) f = self at ih ⊢
    unfold m_X11_feedsAll_L2 fdF
    simp only [lit_n]
    rw [hE, if_neg (by rw [nI_t (by omega), nI_t (by omega)]; omega), pl, q_bd_s', q_jn, nI_add]
    by_cases h1 : (x.1 22 e).toInt = 0
    · rw [if_pos h1, if_pos h1]; exact ih
    · rw [if_neg h1, if_neg h1, pl, q_bd_s']
      by_cases h2 : (x.1 22 e &&& s).toInt = 0
      · rw [if_pos h2, if_pos h2]; rfl
      · rw [if_neg h2, if_neg h2]; exact ih
theorem feedsC_it {x : qS} {a : Int32} {F : Nat → Bool} {K : Int32 → qS → qR} (hF : ∀ s, s < 1024 → m_X10_isEachFedAt (nI s) x = some (bI (F s), x)) : ∀ (n b f : Nat), n ≤ 1024 → b < 1024 → n < f → q_it2 (m_X10_feeds_L19 a K) f (nI b) (dI n) x = K (nI (dnF F (pcn 10) n b)) x
  | n, b, 0, hn, hb, hf => by omega
  | 0, b, f + 1, hn, hb, hf => by
    show m_X10_feeds_L19 _ _ _ _ _ _ = _
    unfold m_X10_feeds_L19
    rw [if_pos (by decide)]; rfl
  | n + 1, b, f + 1, hn, hb, hf => by
    have ih1 := feedsC_it (a := a) (K := K) hF n b f (by omega) hb (by omega)
    have ih2 := feedsC_it (a := a) (K := K) hF n n f (by omega) (by omega) (by omega)
    have b1 := bc_c (u := x) (show n < 1024 by omega)
    have b2 := bc_c (u := x) hb
    have p1 := pcn_le 10 n
    have p2 := pcn_le 10 b
    have h1 := hF n (by omega)
    show m_X10_feeds_L19 _ _ (q_it2 (m_X10_feeds_L19 a K) f) _ (nI n) _ = _
    generalize q_it2 (m_X10_feeds_L19 a K) f = self at ih1 ih2 ⊢
    unfold m_X10_feeds_L19 dnF
    simp only [lit_n, mI_lit]
    rw [if_neg (by rw [nI_t (by omega)]; omega), b1, q_bd_s', b2, q_bd_s', q_jn, dI_m]
    by_cases e1 : pcn 10 n ≤ pcn 10 b
    · rw [if_neg (by rw [nI_t (by omega), nI_t (by omega)]; omega), h1, q_bd_s']
      cases e2 : F n with
      | false =>
        rw [if_pos (by decide), if_neg (by intro h; cases h.2)]; exact ih1
      | true =>
        rw [if_neg (by decide), if_pos ⟨e1, rfl⟩]; exact ih2
    · rw [if_pos (by rw [nI_t (by omega), nI_t (by omega)]; omega), if_neg (fun h => e1 h.1)]; exact ih1
theorem feedsR_it {y : qS} {a : Int32} {F : Nat → Bool} {K : Int32 → qS → qR} (hF : ∀ s, s < 1024 → m_X11_feedsAll (nI s) y = some (bI (F s), y)) : ∀ (n i : Nat) (b : Option Nat) (f : Nat), i + n = 1024 → (∀ r, b = some r → r < 1024) → n < f → q_it2 (m_X11_feeds_L21 a K) f (enc b) (nI i) y = K (enc (upF F (pcn 10) n i b)) y
  | n, i, b, 0, hn, hb, hf => by omega
  | 0, i, b, f + 1, hn, hb, hf => by
    show m_X11_feeds_L21 _ _ _ _ _ _ = _
    unfold m_X11_feeds_L21
    rw [lit_n, if_pos (by rw [nI_t (by omega), nI_t (by omega)]; omega)]; rfl
  | n + 1, i, b, f + 1, hn, hb, hf => by
    have ih := fun b hb => feedsR_it (a := a) (K := K) hF n (i + 1) b f (by omega) hb (by omega)
    have p1 := pcn_le 10 i
    have h1 := hF i (by omega)
    show m_X11_feeds_L21 _ _ (q_it2 (m_X11_feeds_L21 a K) f) _ _ _ = _
    generalize q_it2 (m_X11_feeds_L21 a K) f = self at ih ⊢
    unfold m_X11_feeds_L21 upF
    simp only [lit_n, mI_lit]
    rw [if_neg (by rw [nI_t (by omega), nI_t (by omega)]; omega), q_jn, q_jn, nI_add]
    cases b with
    | none =>
      show (if mI.toInt = mI.toInt then _ else _) = _
      rw [if_pos rfl]
      dsimp only
      rw [h1, q_bd_s', upS_n]
      cases e2 : F i with
      | false =>
        rw [if_pos (by decide), if_neg (by decide)]; exact ih none (fun r h => by cases h)
      | true =>
        rw [if_neg (by decide), if_pos rfl]; exact ih (some i) (fun r h => by have := Option.some.inj h; omega)
    | some b =>
      have hb1 := hb b rfl
      have p2 := pcn_le 10 b
      show (if (nI b).toInt = mI.toInt then _ else _) = _
      rw [if_neg (by rw [nI_t (by omega), mI_t]; omega), ones_r (show i < 1024 by omega), q_bd_s', show enc (some b) = nI b from rfl, ones_r hb1, q_bd_s', upS_s]
      by_cases e1 : pcn 10 b ≤ pcn 10 i
      · rw [if_pos (by rw [nI_t (by omega), nI_t (by omega)]; omega), if_pos e1]; exact ih (some b) hb
      · rw [if_neg (by rw [nI_t (by omega), nI_t (by omega)]; omega), if_neg e1]
        dsimp only
        rw [h1, q_bd_s']
        cases e2 : F i with
        | false =>
          rw [if_pos (by decide), if_neg (by decide)]; exact ih (some b) hb
        | true =>
          rw [if_neg (by decide), if_pos rfl]; exact ih (some i) (fun r h => by have := Option.some.inj h; omega)
set_option maxRecDepth 100000 in
theorem ps_t : ∀ q, q < 10 → nI 1 <<< (nI q &&& nI 31) = nI (2 ^ q) ∧ nI (2 ^ q) &&& nI 1023 = nI (2 ^ q) := by decide +kernel
theorem pset_and {h : Nat → Int32} : ∀ n, (∀ i, i < n → ∃ q : Nat, q < 10 ∧ h i = nI q) → pset h n &&& nI 1023 = pset h n
  | 0, _ => by unfold pset; decide
  | n + 1, hh => by
    obtain ⟨q, q1, q2⟩ := hh n (by omega)
    have t := ps_t q q1
    have ih := pset_and n (fun i hi => hh i (by omega))
    unfold pset
    rw [q2, t.1]
    generalize pset h n = z at ih ⊢
    have t2 := t.2
    generalize nI (2 ^ q) = w at t2 ⊢
    apply Int32.toBitVec_inj.mp
    rw [Int32.toBitVec_and, Int32.toBitVec_or]
    have i1 := congrArg Int32.toBitVec ih
    have i2 := congrArg Int32.toBitVec t2
    rw [Int32.toBitVec_and] at i1 i2
    rw [BitVec.and_or_distrib_right, i1, i2]
theorem fd_all {a : Nat → Int32} : ∀ (n e : Nat), (∀ i, i < e + n → a i &&& nI 1023 = a i) → fdF a (nI 1023) e n = true
  | 0, e, h => rfl
  | n + 1, e, h => by
    unfold fdF
    have ih := fd_all n (e + 1) (fun i hi => h i (by omega))
    by_cases h1 : (a e).toInt = 0
    · rw [if_pos h1]; exact ih
    · rw [if_neg h1, h e (by omega), if_neg h1]; exact ih
theorem sim_feeds (a : Int32) : SIM (m_X10_feeds a) (m_X11_feeds a) := fun x y h => by
  obtain ⟨E, hE1, hE, hE2⟩ := h.G.E
  have x9 : x.1 2 9 = nI E := by rw [h.C.eaters, hE]
  have hP : RPa 19 x.1 y.1 := h.1.2.2.2.2.2.1
  have hP' : RPa 19 x.1 (q_up y 163 0 (nI 0)).1 := h.told.1.2.2.2.2.2.1
  have hE' : (q_up y 163 0 (nI 0)).1 163 7 = nI E := hE
  have ha : ∀ i, i < 0 + E → x.1 22 i &&& nI 1023 = x.1 22 i := fun i hi => by
    obtain ⟨M, m1, m2, m3, m4, m5⟩ := hP.2 i (by omega)
    rw [show x.1 22 i = _ from m5]
    exact pset_and M (fun j hj => by obtain ⟨q, q1, q2, q3⟩ := m4 j hj; exact ⟨q, q1, q3⟩)
  have hc : ∀ s, s < 1024 → m_X10_isEachFedAt (nI s) x = some (bI (fdF (x.1 22) (nI s) 0 E), x) := fun s hs => by
    unfold m_X10_isEachFedAt
    simp only [lit_n]
    rw [fedC_it x9 hE1 E 0 q_F (by omega) (by rw [q_F_eq]; omega)]
    cases fdF (x.1 22) (nI s) 0 E <;> rfl
  have hr : ∀ s, s < 1024 → m_X11_feedsAll (nI s) (q_up y 163 0 (nI 0)) = some (bI (fdF (x.1 22) (nI s) 0 E), q_up y 163 0 (nI 0)) := fun s hs => by
    unfold m_X11_feedsAll
    simp only [lit_n]
    rw [fedR_it hP' hE' hE1 E 0 q_F (by omega) (by rw [q_F_eq]; omega)]
    cases fdF (x.1 22) (nI s) 0 E <;> rfl
  obtain ⟨ud, ul⟩ := up_dn (F := fun s => fdF (x.1 22) (nI s) 0 E) (c := pcn 10) (N := 1024) (by omega) (fd_all E 0 ha)
  have cc := fun K => feedsC_it (a := a) (K := K) (F := fun s => fdF (x.1 22) (nI s) 0 E) hc 1024 1023 q_F (by omega) (by omega) (by rw [q_F_eq]; omega)
  have rr := fun K => feedsR_it (a := a) (K := K) (F := fun s => fdF (x.1 22) (nI s) 0 E) hr 1024 0 none q_F (by omega) (fun r h => by cases h) (by rw [q_F_eq]; omega)
  rw [ud] at rr
  have rr' : ∀ K, q_it2 (m_X11_feeds_L21 a K) q_F mI (nI 0) (q_up y 163 0 (nI 0)) = _ := rr
  have cc' : ∀ K, q_it2 (m_X10_feeds_L19 a K) q_F (nI 1023) (nI 1023) x = _ := cc
  generalize dnF (fun s => fdF (x.1 22) (nI s) 0 E) (pcn 10) 1024 (1024 - 1) = r at ud ul rr' cc'
  unfold m_X10_feeds m_X11_feeds
  simp only [lit_n, mI_lit]
  rcases within_b a 0 1 (by omega) (by omega) with ⟨n, n0, n1, n2, u1, u2⟩ | ⟨u1, u2⟩
  · refine ⟨if a.toInt = 0 then nI (pcn 10 r) else nI r, x, q_up y 163 0 (nI 0), ?_, ?_, h.told⟩
    · rw [u1, q_bd_s', if_neg (by decide), cc', bc_c ul, q_bd_s']
      split <;> rfl
    · rw [q_let_s, u2, q_bd_s', if_neg (by decide), rr', show enc (some r) = nI r from rfl, ones_r ul, q_bd_s']
      split <;> rfl
  · refine ⟨mI, x, q_up y 163 0 (nI 0), ?_, ?_, h.told⟩
    · rw [u1, q_bd_s', if_pos (by decide)]
    · rw [q_let_s, u2, q_bd_s', if_pos (by decide)]
