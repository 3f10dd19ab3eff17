/-! LAYER 2: THE CALLS, 16: game -/
theorem gm_x : ∀ X, X < 4 → ∀ H, H < 100 → nI X ^^^ (nI H &&& nI 3) = nI (X ^^^ (H % 4)) ∧ q_rm (nI H) (nI 4) = nI H &&& nI 3 ∧ X ^^^ (H % 4) < 4 := by decide +kernel
def gA (X H k : Nat) : Bool := decide (((nI H - nI k) &&& nI 3).toInt = ((nI H &&& nI 3) ^^^ nI X).toInt)
def gB (X H k : Nat) : Bool := decide (((nI X ^^^ q_rm (nI H) (nI 4)) ^^^ q_rm (nI H - nI k) (nI 4)).toInt = 0)
def gT (X H k : Nat) : Bool := if 1 ≤ k ∧ k ≤ H then (gA X H k == gB X H k) && (X != 0 || !gA X H k) else true
theorem gT_t : ∀ X, X < 4 → ∀ H, H < 100 → ∀ k, k < 4 → gT X H k = true := by decide +kernel
theorem gm_k (X : Nat) (hX : X < 4) (H : Nat) (hH : H < 100) (k : Nat) (hk : k < 4) (hh : 1 ≤ k ∧ k ≤ H) : ((((nI H - nI k) &&& nI 3).toInt = ((nI H &&& nI 3) ^^^ nI X).toInt) = (((nI X ^^^ q_rm (nI H) (nI 4)) ^^^ q_rm (nI H - nI k) (nI 4)).toInt = 0) ∧ (X = 0 → ¬ (((nI H - nI k) &&& nI 3).toInt = ((nI H &&& nI 3) ^^^ nI X).toInt))) := by
  have h := gT_t X hX H hH k hk
  unfold gT at h
  rw [if_pos hh, Bool.and_eq_true, beq_iff_eq, Bool.or_eq_true] at h
  obtain ⟨h1, h2⟩ := h
  refine ⟨propext ⟨fun c => ?_, fun c => ?_⟩, fun h0 c => ?_⟩
  · have : gB X H k = true := by rw [← h1]; exact decide_eq_true c
    exact of_decide_eq_true this
  · have : gA X H k = true := by rw [h1]; exact decide_eq_true c
    exact of_decide_eq_true this
  · have : gA X H k = true := decide_eq_true c
    rw [this, h0] at h2
    rcases h2 with h2 | h2 <;> exact absurd h2 (by decide)
def pf (H X : Nat) : Nat → Nat → Option Nat
  | 0, _ => none
  | n + 1, k => if H < k then none else if ((nI H - nI k) &&& nI 3).toInt = ((nI H &&& nI 3) ^^^ nI X).toInt then some k else pf H X n (k + 1)
def mp (K1 : Int32 → qS → qR) (K2 : qS → qR) (u : qS) : Option Nat → qR
  | none => K2 u
  | some k => K1 (nI k) u
theorem pf_0 {H : Nat} (hH : H < 100) : ∀ n k, k + n = 4 → 1 ≤ k → pf H 0 n k = none
  | 0, k, h, h1 => rfl
  | n + 1, k, h, h1 => by
    unfold pf
    by_cases e : H < k
    · rw [if_pos e]
    · rw [if_neg e, if_neg ((gm_k 0 (by omega) H hH k (by omega) ⟨h1, by omega⟩).2 rfl)]
      exact pf_0 hH n (k + 1) (by omega) (by omega)
theorem pf_lt {H X : Nat} : ∀ n k r, pf H X n k = some r → r < k + n
  | 0, k, r, h => by cases h
  | n + 1, k, r, h => by
    unfold pf at h
    split at h
    · cases h
    · split at h
      · have := Option.some.inj h; omega
      · have := pf_lt n (k + 1) r h; omega
theorem good_it {H X : Nat} {K1 : Int32 → qS → qR} {K2 : qS → qR} {u : qS} (hH : H < 100) : ∀ n k f, k + n = 4 → n < f → q_it1 (m_X10_goodPick_L8 (nI H) ((nI H &&& nI 3) ^^^ nI X) K1 K2) f (nI k) u = mp K1 K2 u (pf H X n k)
  | n, k, 0, h, hf => by omega
  | 0, k, f + 1, h, hf => by
    show m_X10_goodPick_L8 _ _ _ _ _ _ _ = _
    unfold m_X10_goodPick_L8
    rw [lit_n, if_pos (by rw [nI_t (by omega), nI_t (by omega)]; omega)]; rfl
  | n + 1, k, f + 1, h, hf => by
    have ih := good_it (X := X) (K1 := K1) (K2 := K2) (u := u) hH n (k + 1) f (by omega) (by omega)
    show m_X10_goodPick_L8 _ _ _ _ (q_it1 (m_X10_goodPick_L8 (nI H) ((nI H &&& nI 3) ^^^ nI X) K1 K2) f) _ _ = _
    unfold pf
    generalize q_it1 (m_X10_goodPick_L8 (nI H) ((nI H &&& nI 3) ^^^ nI X) K1 K2) f = self at ih ⊢
    unfold m_X10_goodPick_L8
    simp only [lit_n]
    rw [if_neg (by rw [nI_t (by omega), nI_t (by omega)]; omega)]
    by_cases e : H < k
    · rw [if_pos e, if_pos (by rw [nI_t (by omega), nI_t (by omega)]; omega)]; rfl
    · rw [if_neg e, if_neg (by rw [nI_t (by omega), nI_t (by omega)]; omega)]
      by_cases c : ((nI H - nI k) &&& nI 3).toInt = ((nI H &&& nI 3) ^^^ nI X).toInt
      · rw [if_pos c, if_pos c]; rfl
      · rw [if_neg c, if_neg c, nI_add]; exact ih
theorem pick_it {H X : Nat} {a b : Int32} {K1 : Int32 → qS → qR} {K2 : qS → qR} {u : qS} (hH : H < 100) (hX : X < 4) : ∀ n k f, k + n = 4 → 1 ≤ k → n < f → q_it1 (m_X11_game_L77 a (nI X) b (nI H) K1 K2) f (nI k) u = mp K1 K2 u (pf H X n k)
  | n, k, 0, h, h1, hf => by omega
  | 0, k, f + 1, h, h1, hf => by
    have le : m_X11_lesser (nI 3) (nI H) u = some (nI (min 3 H), u) := lesser_n (by omega) (by omega)
    show m_X11_game_L77 _ _ _ _ _ _ _ _ _ = _
    unfold m_X11_game_L77
    rw [lit_n, le, q_bd_s', if_pos (by rw [nI_t (by omega), nI_t (by omega)]; omega)]; rfl
  | n + 1, k, f + 1, h, h1, hf => by
    have le : m_X11_lesser (nI 3) (nI H) u = some (nI (min 3 H), u) := lesser_n (by omega) (by omega)
    have ih := pick_it (X := X) (a := a) (b := b) (K1 := K1) (K2 := K2) (u := u) hH hX n (k + 1) f (by omega) (by omega) (by omega)
    show m_X11_game_L77 _ _ _ _ _ _ (q_it1 (m_X11_game_L77 a (nI X) b (nI H) K1 K2) f) _ _ = _
    unfold pf
    generalize q_it1 (m_X11_game_L77 a (nI X) b (nI H) K1 K2) f = self at ih ⊢
    unfold m_X11_game_L77
    simp only [lit_n]
    rw [le, q_bd_s']
    by_cases e : H < k
    · rw [if_pos e, if_pos (by rw [nI_t (by omega), nI_t (by omega)]; omega)]; rfl
    · have g := (gm_k X hX H hH k (by omega) ⟨h1, by omega⟩).1
      rw [if_neg e, if_neg (by rw [nI_t (by omega), nI_t (by omega)]; omega)]
      by_cases c : ((nI H - nI k) &&& nI 3).toInt = ((nI H &&& nI 3) ^^^ nI X).toInt
      · rw [if_pos c, if_pos (g ▸ c)]; rfl
      · rw [if_neg c, if_neg (fun c' => c (g ▸ c')), nI_add]; exact ih
/-- the trees one after another -/
def mq (K1 : Int32 → Int32 → qS → qR) (K2 : qS → qR) (u : qS) : Option (Nat × Nat) → qR
  | none => K2 u
  | some r => K1 (nI r.1) (nI r.2) u
def og (h : Nat → Nat) (X : Nat) : Nat → Nat → Option (Nat × Nat)
  | 0, _ => none
  | n + 1, t => match pf (h t) X 3 1 with
    | some k => some (t, k)
    | none => og h X n (t + 1)
theorem og_0 {h : Nat → Nat} (hh : ∀ t, h t < 100) : ∀ n t, og h 0 n t = none
  | 0, t => rfl
  | n + 1, t => by
    unfold og
    rw [pf_0 (hh t) 3 1 (by omega) (by omega)]
    exact og_0 hh n (t + 1)
section
variable {x y : qS} {h : Nat → Nat} {T X : Nat} {a : Int32}
theorem gameC_it {K1 : Int32 → Int32 → qS → qR} {K2 : qS → qR} (hT : x.1 2 8 = nI T) (hT4 : T ≤ 14) (hx : ∀ t, t < 14 → x.1 9 t = nI (h t)) (hh : ∀ t, h t < 100) (hX : X < 4) (hX0 : X ≠ 0) : ∀ n t f, t + n = T → n < f → q_it1 (m_X10_game_L48 a (nI X) K1 K2) f (nI t) x = mq K1 K2 x (og h X n t)
  | n, t, 0, ht, hf => by omega
  | 0, t, f + 1, ht, hf => by
    show m_X10_game_L48 _ _ _ _ _ _ _ = _
    unfold m_X10_game_L48
    rw [hT, if_pos (by rw [nI_t (by omega), nI_t (by omega)]; omega)]; rfl
  | n + 1, t, f + 1, ht, hf => by
    have ih := gameC_it (K1 := K1) (K2 := K2) hT hT4 hx hh hX hX0 n (t + 1) f (by omega) (by omega)
    have gp : m_X10_goodPick (nI (h t)) (nI X) x = some (enc (pf (h t) X 3 1), x) := by
      unfold m_X10_goodPick
      simp only [lit_n, mI_lit]
      rw [q_let_s, good_it (hh t) 3 1 q_F (by omega) (by rw [q_F_eq]; omega)]
      cases pf (h t) X 3 1 <;> rfl
    have c0 : ¬ (nI X).toInt = 0 := by rw [nI_t (by omega)]; omega
    show m_X10_game_L48 _ _ _ _ (q_it1 (m_X10_game_L48 a (nI X) K1 K2) f) _ _ = _
    unfold og
    generalize q_it1 (m_X10_game_L48 a (nI X) K1 K2) f = self at ih ⊢
    unfold m_X10_game_L48
    simp only [lit_n, mI_lit]
    rw [hT, if_neg (by rw [nI_t (by omega), nI_t (by omega)]; omega), if_neg c0, ald_n (by omega) (by omega), Option.bind_some, hx t (by omega), gp, q_bd_s']
    cases hp : pf (h t) X 3 1 with
    | none =>
      show (if mI.toInt = mI.toInt then _ else _) = _
      rw [if_pos rfl, nI_add]; exact ih
    | some k =>
      have := pf_lt _ _ _ hp
      show (if (nI k).toInt = mI.toInt then _ else _) = _
      rw [if_neg (by rw [nI_t (by omega), mI_t]; omega)]; rfl
theorem gameR_it {K1 : Int32 → Int32 → qS → qR} {K2 : qS → qR} (hT : y.1 164 4 = nI T) (hT4 : T ≤ 14) (hy : ∀ t, t < 14 → y.1 164 (62 + t) = nI (h t)) (hh : ∀ t, h t < 100) (hX : X < 4) : ∀ n t f, t + n = T → n < f → q_it1 (m_X11_game_L53 a (nI X) K1 K2) f (nI t) y = mq K1 K2 y (og h X n t)
  | n, t, 0, ht, hf => by omega
  | 0, t, f + 1, ht, hf => by
    show m_X11_game_L53 _ _ _ _ _ _ _ = _
    unfold m_X11_game_L53
    rw [lit_n, ald_n (by omega) (by omega), Option.bind_some, hT, if_pos (by rw [nI_t (by omega), nI_t (by omega)]; omega)]; rfl
  | n + 1, t, f + 1, ht, hf => by
    have ih := gameR_it (K1 := K1) (K2 := K2) hT hT4 hy hh hX n (t + 1) f (by omega) (by omega)
    show m_X11_game_L53 _ _ _ _ (q_it1 (m_X11_game_L53 a (nI X) K1 K2) f) _ _ = _
    unfold og
    generalize q_it1 (m_X11_game_L53 a (nI X) K1 K2) f = self at ih ⊢
    unfold m_X11_game_L53
    simp only [lit_n]
    rw [ald_n (by omega) (by omega), Option.bind_some, hT, if_neg (by rw [nI_t (by omega), nI_t (by omega)]; omega), nI_add, ald_n (by omega) (by omega), Option.bind_some, hy t (by omega), pick_it (hh t) hX 3 1 q_F (by omega) (by omega) (by rw [q_F_eq]; omega)]
    cases hp : pf (h t) X 3 1 with
    | none =>
      show self (nI t + nI 1) y = _
      rw [nI_add]; exact ih
    | some k => rfl
theorem sumC_it {K : Int32 → qS → qR} (hT : x.1 2 8 = nI T) (hT4 : T ≤ 14) (hx : ∀ t, t < 14 → x.1 9 t = nI (h t)) (hh : ∀ t, h t < 100) (hTy : y.1 164 4 = nI T) (hy : ∀ t, t < 14 → y.1 164 (62 + t) = nI (h t)) : ∀ n t f1 f2 X, t + n = T → n < f1 → n < f2 → X < 4 → ∃ X2, X2 < 4 ∧ (∀ K, q_it2 (m_X10_game_L15 a K) f1 (nI X) (nI t) x = K (nI X2) x) ∧ (∀ K, q_it2 (m_X11_game_L21 a K) f2 (nI X) (nI t) y = K (nI X2) y)
  | n, t, 0, f2, X, ht, hf1, hf2, hX => by omega
  | n, t, f1, 0, X, ht, hf1, hf2, hX => by omega
  | 0, t, f1 + 1, f2 + 1, X, ht, hf1, hf2, hX => by
    refine ⟨X, hX, fun K => ?_, fun K => ?_⟩
    · show m_X10_game_L15 _ _ _ _ _ _ = _
      unfold m_X10_game_L15
      rw [hT, if_pos (by rw [nI_t (by omega), nI_t (by omega)]; omega)]
    · show m_X11_game_L21 _ _ _ _ _ _ = _
      unfold m_X11_game_L21
      rw [lit_n, ald_n (by omega) (by omega), Option.bind_some, hTy, if_pos (by rw [nI_t (by omega), nI_t (by omega)]; omega)]
  | n + 1, t, f1 + 1, f2 + 1, X, ht, hf1, hf2, hX => by
    obtain ⟨g1, g2, g3⟩ := gm_x X hX (h t) (hh t)
    obtain ⟨X2, X3, b1, b2⟩ := sumC_it (K := K) hT hT4 hx hh hTy hy n (t + 1) f1 f2 (X ^^^ (h t % 4)) (by omega) (by omega) (by omega) g3
    refine ⟨X2, X3, fun K => ?_, fun K => ?_⟩
    · rw [← b1 K]
      show m_X10_game_L15 _ _ (q_it2 (m_X10_game_L15 a K) f1) _ _ _ = _
      generalize q_it2 (m_X10_game_L15 a K) f1 = self
      unfold m_X10_game_L15
      simp only [lit_n]
      rw [hT, if_neg (by rw [nI_t (by omega), nI_t (by omega)]; omega), ald_n (by omega) (by omega), Option.bind_some, hx t (by omega), q_let_s, g1, nI_add]
    · rw [← b2 K]
      show m_X11_game_L21 _ _ (q_it2 (m_X11_game_L21 a K) f2) _ _ _ = _
      generalize q_it2 (m_X11_game_L21 a K) f2 = self
      unfold m_X11_game_L21
      simp only [lit_n]
      rw [ald_n (by omega) (by omega), Option.bind_some, hTy, if_neg (by rw [nI_t (by omega), nI_t (by omega)]; omega), nI_add, ald_n (by omega) (by omega), Option.bind_some, hy t (by omega), q_let_s, g2, g1, nI_add]
end
theorem sim_game (a : Int32) : SIM (m_X10_game a) (m_X11_game a) := fun x y h => by
  obtain ⟨T, hT1, hT, hT2⟩ := h.B.trees
  have hx8 : x.1 2 8 = nI T := by rw [h.C.trees, hT]
  let hg : Nat → Nat := fun t => if t < 14 then (y.1 164 (62 + t)).toInt.toNat else 0
  have hh : ∀ t, hg t < 100 := fun t => by
    show (if t < 14 then (y.1 164 (62 + t)).toInt.toNat else 0) < 100
    split
    · rename_i ht
      obtain ⟨H, h1, h2, h3⟩ := h.B.hang (t := t) ht
      omega
    · omega
  have hy : ∀ t, t < 14 → y.1 164 (62 + t) = nI (hg t) := fun t ht => by
    obtain ⟨H, h1, h2, h3⟩ := h.B.hang (t := t) ht
    show _ = nI (if t < 14 then (y.1 164 (62 + t)).toInt.toNat else 0)
    rw [if_pos ht, h3, h2]; rfl
  have hx : ∀ t, t < 14 → x.1 9 t = nI (hg t) := fun t ht => (h.C.hang ht).trans (hy t ht)
  have hT' : (q_up y 163 0 (nI 0)).1 164 4 = nI T := hT
  have hy' : ∀ t, t < 14 → (q_up y 163 0 (nI 0)).1 164 (62 + t) = nI (hg t) := hy
  unfold m_X10_game m_X11_game
  simp only [lit_n, mI_lit]
  rcases within_b a 0 1 (by omega) (by omega) with ⟨n, n0, n1, n2, u1, u2⟩ | ⟨u1, u2⟩
  · obtain ⟨X, hX, b1, b2⟩ := sumC_it (a := a) (K := fun r u => some (r, u)) hx8 hT1 hx hh hT' hy' T 0 q_F q_F 0 (by omega) (by rw [q_F_eq]; omega) (by rw [q_F_eq]; omega) (by omega)
    have rr := fun K1 K2 => gameR_it (a := a) (K1 := K1) (K2 := K2) hT' hT1 hy' hh hX T 0 q_F (by omega) (by rw [q_F_eq]; omega)
    by_cases hX0 : X = 0
    · subst hX0
      rw [og_0 hh] at rr
      have cc : ∀ (K1 : Int32 → Int32 → qS → qR) (K2 : qS → qR) (f : Nat), q_it1 (m_X10_game_L48 a (nI 0) K1 K2) (f + 1) (nI 0) x = K2 x := fun K1 K2 f => by
        show m_X10_game_L48 _ _ _ _ _ _ _ = _
        unfold m_X10_game_L48
        split
        · rfl
        · rw [if_pos (by decide)]
      refine ⟨mI, x, q_up y 163 0 (nI 0), ?_, ?_, h.told⟩
      · rw [u1, q_bd_s', if_neg (by decide), b1]
        exact cc _ _ 2999
      · rw [q_let_s, u2, q_bd_s', if_neg (by decide), b2, rr]; rfl
    · have cc := fun K1 K2 => gameC_it (a := a) (K1 := K1) (K2 := K2) hx8 hT1 hx hh hX hX0 T 0 q_F (by omega) (by rw [q_F_eq]; omega)
      cases ho : og hg X T 0 with
      | none =>
        rw [ho] at rr cc
        refine ⟨mI, x, q_up y 163 0 (nI 0), ?_, ?_, h.told⟩
        · rw [u1, q_bd_s', if_neg (by decide), b1, cc]; rfl
        · rw [q_let_s, u2, q_bd_s', if_neg (by decide), b2, rr]; rfl
      | some r =>
        rw [ho] at rr cc
        refine ⟨if a.toInt = 0 then nI r.1 else nI r.2, x, q_up y 163 0 (nI 0), ?_, ?_, h.told⟩
        · rw [u1, q_bd_s', if_neg (by decide), b1, cc]
          show (if a.toInt = 0 then some (nI r.1, x) else some (nI r.2, x)) = _
          split <;> rfl
        · rw [q_let_s, u2, q_bd_s', if_neg (by decide), b2, rr]
          show (if a.toInt = 0 then some (nI r.1, q_up y 163 0 (nI 0)) else some (nI r.2, q_up y 163 0 (nI 0))) = _
          split <;> rfl
  · refine ⟨mI, x, q_up y 163 0 (nI 0), ?_, ?_, h.told⟩
    · rw [u1, q_bd_s', if_pos (by decide)]
    · rw [q_let_s, u2, q_bd_s', if_pos (by decide)]
