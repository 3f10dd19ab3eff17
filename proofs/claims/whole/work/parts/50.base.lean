/-! LAYER 2, BASE: what two models say of each other -/
def R1 (Q : Int32 → qS → Prop) (M : qR) : Prop := ∃ r u, M = some (r, u) ∧ Q r u
def R2 (Q : Int32 → qS → Int32 → qS → Prop) (M N : qR) : Prop := ∃ r u s v, M = some (r, u) ∧ N = some (s, v) ∧ Q r u s v
theorem R1.ret {Q : Int32 → qS → Prop} {r : Int32} {u : qS} (h : Q r u) : R1 Q (some (r, u)) := ⟨r, u, rfl, h⟩
theorem R2.ret {Q : Int32 → qS → Int32 → qS → Prop} {r s : Int32} {u v : qS} (h : Q r u s v) : R2 Q (some (r, u)) (some (s, v)) := ⟨r, u, s, v, rfl, rfl, h⟩
theorem R1.mono {P Q : Int32 → qS → Prop} {M : qR} (h : R1 P M) (hi : ∀ r u, P r u → Q r u) : R1 Q M := by
  obtain ⟨r, u, hM, hP⟩ := h; exact ⟨r, u, hM, hi r u hP⟩
theorem R2.mono {P Q : Int32 → qS → Int32 → qS → Prop} {M N : qR} (h : R2 P M N) (hi : ∀ r u s v, P r u s v → Q r u s v) : R2 Q M N := by
  obtain ⟨r, u, s, v, hM, hN, hP⟩ := h; exact ⟨r, u, s, v, hM, hN, hi r u s v hP⟩
theorem R1.bd {P Q : Int32 → qS → Prop} {M : qR} {K : Int32 → qS → qR} (h : R1 P M) (hk : ∀ r u, P r u → R1 Q (K r u)) : R1 Q (q_bd M K) := by
  obtain ⟨r, u, hM, hP⟩ := h; subst hM; exact hk r u hP
theorem R2.bd {P Q : Int32 → qS → Int32 → qS → Prop} {M N : qR} {K L : Int32 → qS → qR} (h : R2 P M N) (hk : ∀ r u s v, P r u s v → R2 Q (K r u) (L s v)) : R2 Q (q_bd M K) (q_bd N L) := by
  obtain ⟨r, u, s, v, hM, hN, hP⟩ := h; subst hM; subst hN; exact hk r u s v hP
theorem R2.bl {P : Int32 → qS → Prop} {Q : Int32 → qS → Int32 → qS → Prop} {M N : qR} {K : Int32 → qS → qR} (h : R1 P M) (hk : ∀ r u, P r u → R2 Q (K r u) N) : R2 Q (q_bd M K) N := by
  obtain ⟨r, u, hM, hP⟩ := h; subst hM; exact hk r u hP
theorem R2.br {P : Int32 → qS → Prop} {Q : Int32 → qS → Int32 → qS → Prop} {M N : qR} {L : Int32 → qS → qR} (h : R1 P N) (hk : ∀ r u, P r u → R2 Q M (L r u)) : R2 Q M (q_bd N L) := by
  obtain ⟨r, u, hM, hP⟩ := h; subst hM; exact hk r u hP
theorem R2.ofR1 {Q : Int32 → qS → Int32 → qS → Prop} {P : Int32 → qS → Prop} {M N : qR} (h : R1 P M) (hk : ∀ r u, P r u → R1 (Q r u) N) : R2 Q M N := by
  obtain ⟨r, u, hM, hP⟩ := h
  obtain ⟨s, v, hN, hQ⟩ := hk r u hP
  exact ⟨r, u, s, v, hM, hN, hQ⟩
/-! numbers -/
def mI : Int32 := -1
theorem lit_n (n : Nat) : (no_index (OfNat.ofNat n) : Int32) = nI (OfNat.ofNat n) := Eq.trans rfl rfl
theorem mI_lit : -nI 1 = mI := Eq.trans rfl rfl
theorem mI_t : mI.toInt = -1 := by decide
theorem nI_t {n : Nat} (h : n < 2147483648) : (nI n).toInt = (n : Int) := nI_toInt (by omega)
theorem nI_m (n : Nat) : nI (n + 1) + mI = nI n := pk_m1 n
theorem q_bd_some {r : Int32} {u : qS} {K : Int32 → qS → qR} : q_bd (some (r, u)) K = K r u := rfl
theorem bz_0 {M : qR} : q_bz (nI 0) M = M := if_pos (Or.inl rfl)
theorem bz_1 {M : qR} : q_bz (nI 1) M = M := if_pos (Or.inr rfl)
theorem ald_n {u : qS} {a n j : Nat} (h : j < n) (hn : n < 2147483648) : q_ald u a n (nI j) = some (u.1 a j) := by
  unfold q_ald
  rw [nI_t (by omega), if_pos (by omega)]
  rfl
theorem ast_n {u : qS} {a n j : Nat} {v : Int32} (h : j < n) (hn : n < 2147483648) : q_ast u a n (nI j) v = some (q_up u a j v) := by
  unfold q_ast
  rw [nI_t (by omega), if_pos (by omega)]
  rfl
theorem q_st_g {u : qS} {k : Nat} {f : Nat → Int32} {a : Nat} : (q_st u k f).1 a = if a = k then f else u.1 a := rfl
theorem q_up_1 {u : qS} {k j : Nat} {v : Int32} {a : Nat} : (q_up u k j v).1 a = if a = k then upd (u.1 k) j v else u.1 a := rfl
theorem q_st_2 {u : qS} {k : Nat} {f : Nat → Int32} : (q_st u k f).2 = u.2 := rfl
theorem q_up_2 {u : qS} {k j : Nat} {v : Int32} : (q_up u k j v).2 = u.2 := rfl
theorem upd_g {f : Nat → Int32} {k : Nat} {x : Int32} {j : Nat} : upd f k x j = if j = k then x else f j := rfl
/-- a number of a known range as a natural -/
theorem nI_ex {x : Int32} {b : Nat} (h0 : 0 ≤ x.toInt) (h1 : x.toInt ≤ b) (hb : b < 2147483648) : ∃ n : Nat, n ≤ b ∧ x = nI n ∧ x.toInt = n := by
  refine ⟨x.toInt.toNat, by omega, ?_, by omega⟩
  apply Int32.toInt_inj.mp
  rw [nI_t (by omega)]
  omega
theorem nI_inj {a b : Nat} (ha : a < 2147483648) (hb : b < 2147483648) (h : nI a = nI b) : a = b := by
  have := congrArg Int32.toInt h
  rw [nI_t ha, nI_t hb] at this
  omega
theorem i32_eq {a b : Int32} (h : a.toInt = b.toInt) : a = b := Int32.toInt_inj.mp h
theorem i32_rng (x : Int32) : -2147483648 ≤ x.toInt ∧ x.toInt < 2147483648 := by
  have h1 := Int32.le_toInt x
  have h2 := Int32.toInt_lt x
  omega
theorem i32_bm {z : Int} (h1 : -2147483648 ≤ z) (h2 : z < 2147483648) : z.bmod (2 ^ 32) = z := by
  rw [Int.bmod_eq_of_le] <;> omega
theorem i32_add {x y : Int32} (h1 : -2147483648 ≤ x.toInt + y.toInt) (h2 : x.toInt + y.toInt < 2147483648) : (x + y).toInt = x.toInt + y.toInt := by
  rw [Int32.toInt_add, i32_bm h1 h2]
theorem i32_sub {x y : Int32} (h1 : -2147483648 ≤ x.toInt - y.toInt) (h2 : x.toInt - y.toInt < 2147483648) : (x - y).toInt = x.toInt - y.toInt := by
  rw [Int32.toInt_sub, i32_bm h1 h2]
theorem i32_mul {x y : Int32} (h1 : -2147483648 ≤ x.toInt * y.toInt) (h2 : x.toInt * y.toInt < 2147483648) : (x * y).toInt = x.toInt * y.toInt := by
  rw [Int32.toInt_mul, i32_bm h1 h2]
theorem nI_sub {a b : Nat} (h : b ≤ a) : nI a - nI b = nI (a - b) := pk_sub h
/-! loops -/
theorem q_F_eq : q_F = 3000 := rfl
theorem R1.it0 {B : (qS → qR) → qS → qR} {Q : Int32 → qS → Prop} (I : Nat → qS → Prop) (h : ∀ (n : Nat) (s : qS → qR), (∀  (u : qS), I n  u → R1 Q (s  u)) → ∀  (u : qS), I (n + 1)  u → R1 Q (B s  u)) (hz : ∀  (u : qS), ¬ I 0  u) : ∀ (n f : Nat), n ≤ f → ∀  (u : qS), I n  u → R1 Q (q_it0 B f  u)
  | 0, f, _ => fun  u hI => absurd hI (hz  u)
  | n + 1, 0, hf => absurd hf (by omega)
  | n + 1, f + 1, hf => fun  u hI => h n (q_it0 B f) (fun  u hI => R1.it0 I h hz n f (by omega)  u hI)  u hI
theorem R1.it1 {α1 : Type} {B : (α1 → qS → qR) → α1 → qS → qR} {Q : Int32 → qS → Prop} (I : Nat → α1 → qS → Prop) (h : ∀ (n : Nat) (s : α1 → qS → qR), (∀ (a1 : α1) (u : qS), I n a1 u → R1 Q (s a1 u)) → ∀ (a1 : α1) (u : qS), I (n + 1) a1 u → R1 Q (B s a1 u)) (hz : ∀ (a1 : α1) (u : qS), ¬ I 0 a1 u) : ∀ (n f : Nat), n ≤ f → ∀ (a1 : α1) (u : qS), I n a1 u → R1 Q (q_it1 B f a1 u)
  | 0, f, _ => fun a1 u hI => absurd hI (hz a1 u)
  | n + 1, 0, hf => absurd hf (by omega)
  | n + 1, f + 1, hf => fun a1 u hI => h n (q_it1 B f) (fun a1 u hI => R1.it1 I h hz n f (by omega) a1 u hI) a1 u hI
theorem R1.it2 {α1 α2 : Type} {B : (α1 → α2 → qS → qR) → α1 → α2 → qS → qR} {Q : Int32 → qS → Prop} (I : Nat → α1 → α2 → qS → Prop) (h : ∀ (n : Nat) (s : α1 → α2 → qS → qR), (∀ (a1 : α1) (a2 : α2) (u : qS), I n a1 a2 u → R1 Q (s a1 a2 u)) → ∀ (a1 : α1) (a2 : α2) (u : qS), I (n + 1) a1 a2 u → R1 Q (B s a1 a2 u)) (hz : ∀ (a1 : α1) (a2 : α2) (u : qS), ¬ I 0 a1 a2 u) : ∀ (n f : Nat), n ≤ f → ∀ (a1 : α1) (a2 : α2) (u : qS), I n a1 a2 u → R1 Q (q_it2 B f a1 a2 u)
  | 0, f, _ => fun a1 a2 u hI => absurd hI (hz a1 a2 u)
  | n + 1, 0, hf => absurd hf (by omega)
  | n + 1, f + 1, hf => fun a1 a2 u hI => h n (q_it2 B f) (fun a1 a2 u hI => R1.it2 I h hz n f (by omega) a1 a2 u hI) a1 a2 u hI
theorem R1.it3 {α1 α2 α3 : Type} {B : (α1 → α2 → α3 → qS → qR) → α1 → α2 → α3 → qS → qR} {Q : Int32 → qS → Prop} (I : Nat → α1 → α2 → α3 → qS → Prop) (h : ∀ (n : Nat) (s : α1 → α2 → α3 → qS → qR), (∀ (a1 : α1) (a2 : α2) (a3 : α3) (u : qS), I n a1 a2 a3 u → R1 Q (s a1 a2 a3 u)) → ∀ (a1 : α1) (a2 : α2) (a3 : α3) (u : qS), I (n + 1) a1 a2 a3 u → R1 Q (B s a1 a2 a3 u)) (hz : ∀ (a1 : α1) (a2 : α2) (a3 : α3) (u : qS), ¬ I 0 a1 a2 a3 u) : ∀ (n f : Nat), n ≤ f → ∀ (a1 : α1) (a2 : α2) (a3 : α3) (u : qS), I n a1 a2 a3 u → R1 Q (q_it3 B f a1 a2 a3 u)
  | 0, f, _ => fun a1 a2 a3 u hI => absurd hI (hz a1 a2 a3 u)
  | n + 1, 0, hf => absurd hf (by omega)
  | n + 1, f + 1, hf => fun a1 a2 a3 u hI => h n (q_it3 B f) (fun a1 a2 a3 u hI => R1.it3 I h hz n f (by omega) a1 a2 a3 u hI) a1 a2 a3 u hI
theorem R1.it4 {α1 α2 α3 α4 : Type} {B : (α1 → α2 → α3 → α4 → qS → qR) → α1 → α2 → α3 → α4 → qS → qR} {Q : Int32 → qS → Prop} (I : Nat → α1 → α2 → α3 → α4 → qS → Prop) (h : ∀ (n : Nat) (s : α1 → α2 → α3 → α4 → qS → qR), (∀ (a1 : α1) (a2 : α2) (a3 : α3) (a4 : α4) (u : qS), I n a1 a2 a3 a4 u → R1 Q (s a1 a2 a3 a4 u)) → ∀ (a1 : α1) (a2 : α2) (a3 : α3) (a4 : α4) (u : qS), I (n + 1) a1 a2 a3 a4 u → R1 Q (B s a1 a2 a3 a4 u)) (hz : ∀ (a1 : α1) (a2 : α2) (a3 : α3) (a4 : α4) (u : qS), ¬ I 0 a1 a2 a3 a4 u) : ∀ (n f : Nat), n ≤ f → ∀ (a1 : α1) (a2 : α2) (a3 : α3) (a4 : α4) (u : qS), I n a1 a2 a3 a4 u → R1 Q (q_it4 B f a1 a2 a3 a4 u)
  | 0, f, _ => fun a1 a2 a3 a4 u hI => absurd hI (hz a1 a2 a3 a4 u)
  | n + 1, 0, hf => absurd hf (by omega)
  | n + 1, f + 1, hf => fun a1 a2 a3 a4 u hI => h n (q_it4 B f) (fun a1 a2 a3 a4 u hI => R1.it4 I h hz n f (by omega) a1 a2 a3 a4 u hI) a1 a2 a3 a4 u hI
theorem R2.it00 {B : (qS → qR) → qS → qR} {C : (qS → qR) → qS → qR} {Q : Int32 → qS → Int32 → qS → Prop} (I : Nat → qS → qS → Prop) (h : ∀ (n : Nat) (s : qS → qR) (t : qS → qR), (∀  (u : qS)  (v : qS), I n  u  v → R2 Q (s  u) (t  v)) → ∀  (u : qS)  (v : qS), I (n + 1)  u  v → R2 Q (B s  u) (C t  v)) (hz : ∀  (u : qS)  (v : qS), ¬ I 0  u  v) : ∀ (n f g : Nat), n ≤ f → n ≤ g → ∀  (u : qS)  (v : qS), I n  u  v → R2 Q (q_it0 B f  u) (q_it0 C g  v)
  | 0, f, g, _, _ => fun  u  v hI => absurd hI (hz  u  v)
  | n + 1, 0, g, hf, _ => absurd hf (by omega)
  | n + 1, f, 0, _, hg => absurd hg (by omega)
  | n + 1, f + 1, g + 1, hf, hg => fun  u  v hI => h n (q_it0 B f) (q_it0 C g) (fun  u  v hI => R2.it00 I h hz n f g (by omega) (by omega)  u  v hI)  u  v hI
theorem R2.it01 {β1 : Type} {B : (qS → qR) → qS → qR} {C : (β1 → qS → qR) → β1 → qS → qR} {Q : Int32 → qS → Int32 → qS → Prop} (I : Nat → qS → β1 → qS → Prop) (h : ∀ (n : Nat) (s : qS → qR) (t : β1 → qS → qR), (∀  (u : qS) (b1 : β1) (v : qS), I n  u b1 v → R2 Q (s  u) (t b1 v)) → ∀  (u : qS) (b1 : β1) (v : qS), I (n + 1)  u b1 v → R2 Q (B s  u) (C t b1 v)) (hz : ∀  (u : qS) (b1 : β1) (v : qS), ¬ I 0  u b1 v) : ∀ (n f g : Nat), n ≤ f → n ≤ g → ∀  (u : qS) (b1 : β1) (v : qS), I n  u b1 v → R2 Q (q_it0 B f  u) (q_it1 C g b1 v)
  | 0, f, g, _, _ => fun  u b1 v hI => absurd hI (hz  u b1 v)
  | n + 1, 0, g, hf, _ => absurd hf (by omega)
  | n + 1, f, 0, _, hg => absurd hg (by omega)
  | n + 1, f + 1, g + 1, hf, hg => fun  u b1 v hI => h n (q_it0 B f) (q_it1 C g) (fun  u b1 v hI => R2.it01 I h hz n f g (by omega) (by omega)  u b1 v hI)  u b1 v hI
theorem R2.it02 {β1 β2 : Type} {B : (qS → qR) → qS → qR} {C : (β1 → β2 → qS → qR) → β1 → β2 → qS → qR} {Q : Int32 → qS → Int32 → qS → Prop} (I : Nat → qS → β1 → β2 → qS → Prop) (h : ∀ (n : Nat) (s : qS → qR) (t : β1 → β2 → qS → qR), (∀  (u : qS) (b1 : β1) (b2 : β2) (v : qS), I n  u b1 b2 v → R2 Q (s  u) (t b1 b2 v)) → ∀  (u : qS) (b1 : β1) (b2 : β2) (v : qS), I (n + 1)  u b1 b2 v → R2 Q (B s  u) (C t b1 b2 v)) (hz : ∀  (u : qS) (b1 : β1) (b2 : β2) (v : qS), ¬ I 0  u b1 b2 v) : ∀ (n f g : Nat), n ≤ f → n ≤ g → ∀  (u : qS) (b1 : β1) (b2 : β2) (v : qS), I n  u b1 b2 v → R2 Q (q_it0 B f  u) (q_it2 C g b1 b2 v)
  | 0, f, g, _, _ => fun  u b1 b2 v hI => absurd hI (hz  u b1 b2 v)
  | n + 1, 0, g, hf, _ => absurd hf (by omega)
  | n + 1, f, 0, _, hg => absurd hg (by omega)
  | n + 1, f + 1, g + 1, hf, hg => fun  u b1 b2 v hI => h n (q_it0 B f) (q_it2 C g) (fun  u b1 b2 v hI => R2.it02 I h hz n f g (by omega) (by omega)  u b1 b2 v hI)  u b1 b2 v hI
theorem R2.it03 {β1 β2 β3 : Type} {B : (qS → qR) → qS → qR} {C : (β1 → β2 → β3 → qS → qR) → β1 → β2 → β3 → qS → qR} {Q : Int32 → qS → Int32 → qS → Prop} (I : Nat → qS → β1 → β2 → β3 → qS → Prop) (h : ∀ (n : Nat) (s : qS → qR) (t : β1 → β2 → β3 → qS → qR), (∀  (u : qS) (b1 : β1) (b2 : β2) (b3 : β3) (v : qS), I n  u b1 b2 b3 v → R2 Q (s  u) (t b1 b2 b3 v)) → ∀  (u : qS) (b1 : β1) (b2 : β2) (b3 : β3) (v : qS), I (n + 1)  u b1 b2 b3 v → R2 Q (B s  u) (C t b1 b2 b3 v)) (hz : ∀  (u : qS) (b1 : β1) (b2 : β2) (b3 : β3) (v : qS), ¬ I 0  u b1 b2 b3 v) : ∀ (n f g : Nat), n ≤ f → n ≤ g → ∀  (u : qS) (b1 : β1) (b2 : β2) (b3 : β3) (v : qS), I n  u b1 b2 b3 v → R2 Q (q_it0 B f  u) (q_it3 C g b1 b2 b3 v)
  | 0, f, g, _, _ => fun  u b1 b2 b3 v hI => absurd hI (hz  u b1 b2 b3 v)
  | n + 1, 0, g, hf, _ => absurd hf (by omega)
  | n + 1, f, 0, _, hg => absurd hg (by omega)
  | n + 1, f + 1, g + 1, hf, hg => fun  u b1 b2 b3 v hI => h n (q_it0 B f) (q_it3 C g) (fun  u b1 b2 b3 v hI => R2.it03 I h hz n f g (by omega) (by omega)  u b1 b2 b3 v hI)  u b1 b2 b3 v hI
theorem R2.it04 {β1 β2 β3 β4 : Type} {B : (qS → qR) → qS → qR} {C : (β1 → β2 → β3 → β4 → qS → qR) → β1 → β2 → β3 → β4 → qS → qR} {Q : Int32 → qS → Int32 → qS → Prop} (I : Nat → qS → β1 → β2 → β3 → β4 → qS → Prop) (h : ∀ (n : Nat) (s : qS → qR) (t : β1 → β2 → β3 → β4 → qS → qR), (∀  (u : qS) (b1 : β1) (b2 : β2) (b3 : β3) (b4 : β4) (v : qS), I n  u b1 b2 b3 b4 v → R2 Q (s  u) (t b1 b2 b3 b4 v)) → ∀  (u : qS) (b1 : β1) (b2 : β2) (b3 : β3) (b4 : β4) (v : qS), I (n + 1)  u b1 b2 b3 b4 v → R2 Q (B s  u) (C t b1 b2 b3 b4 v)) (hz : ∀  (u : qS) (b1 : β1) (b2 : β2) (b3 : β3) (b4 : β4) (v : qS), ¬ I 0  u b1 b2 b3 b4 v) : ∀ (n f g : Nat), n ≤ f → n ≤ g → ∀  (u : qS) (b1 : β1) (b2 : β2) (b3 : β3) (b4 : β4) (v : qS), I n  u b1 b2 b3 b4 v → R2 Q (q_it0 B f  u) (q_it4 C g b1 b2 b3 b4 v)
  | 0, f, g, _, _ => fun  u b1 b2 b3 b4 v hI => absurd hI (hz  u b1 b2 b3 b4 v)
  | n + 1, 0, g, hf, _ => absurd hf (by omega)
  | n + 1, f, 0, _, hg => absurd hg (by omega)
  | n + 1, f + 1, g + 1, hf, hg => fun  u b1 b2 b3 b4 v hI => h n (q_it0 B f) (q_it4 C g) (fun  u b1 b2 b3 b4 v hI => R2.it04 I h hz n f g (by omega) (by omega)  u b1 b2 b3 b4 v hI)  u b1 b2 b3 b4 v hI
theorem R2.it10 {α1 : Type} {B : (α1 → qS → qR) → α1 → qS → qR} {C : (qS → qR) → qS → qR} {Q : Int32 → qS → Int32 → qS → Prop} (I : Nat → α1 → qS → qS → Prop) (h : ∀ (n : Nat) (s : α1 → qS → qR) (t : qS → qR), (∀ (a1 : α1) (u : qS)  (v : qS), I n a1 u  v → R2 Q (s a1 u) (t  v)) → ∀ (a1 : α1) (u : qS)  (v : qS), I (n + 1) a1 u  v → R2 Q (B s a1 u) (C t  v)) (hz : ∀ (a1 : α1) (u : qS)  (v : qS), ¬ I 0 a1 u  v) : ∀ (n f g : Nat), n ≤ f → n ≤ g → ∀ (a1 : α1) (u : qS)  (v : qS), I n a1 u  v → R2 Q (q_it1 B f a1 u) (q_it0 C g  v)
  | 0, f, g, _, _ => fun a1 u  v hI => absurd hI (hz a1 u  v)
  | n + 1, 0, g, hf, _ => absurd hf (by omega)
  | n + 1, f, 0, _, hg => absurd hg (by omega)
  | n + 1, f + 1, g + 1, hf, hg => fun a1 u  v hI => h n (q_it1 B f) (q_it0 C g) (fun a1 u  v hI => R2.it10 I h hz n f g (by omega) (by omega) a1 u  v hI) a1 u  v hI
theorem R2.it11 {α1 β1 : Type} {B : (α1 → qS → qR) → α1 → qS → qR} {C : (β1 → qS → qR) → β1 → qS → qR} {Q : Int32 → qS → Int32 → qS → Prop} (I : Nat → α1 → qS → β1 → qS → Prop) (h : ∀ (n : Nat) (s : α1 → qS → qR) (t : β1 → qS → qR), (∀ (a1 : α1) (u : qS) (b1 : β1) (v : qS), I n a1 u b1 v → R2 Q (s a1 u) (t b1 v)) → ∀ (a1 : α1) (u : qS) (b1 : β1) (v : qS), I (n + 1) a1 u b1 v → R2 Q (B s a1 u) (C t b1 v)) (hz : ∀ (a1 : α1) (u : qS) (b1 : β1) (v : qS), ¬ I 0 a1 u b1 v) : ∀ (n f g : Nat), n ≤ f → n ≤ g → ∀ (a1 : α1) (u : qS) (b1 : β1) (v : qS), I n a1 u b1 v → R2 Q (q_it1 B f a1 u) (q_it1 C g b1 v)
  | 0, f, g, _, _ => fun a1 u b1 v hI => absurd hI (hz a1 u b1 v)
  | n + 1, 0, g, hf, _ => absurd hf (by omega)
  | n + 1, f, 0, _, hg => absurd hg (by omega)
  | n + 1, f + 1, g + 1, hf, hg => fun a1 u b1 v hI => h n (q_it1 B f) (q_it1 C g) (fun a1 u b1 v hI => R2.it11 I h hz n f g (by omega) (by omega) a1 u b1 v hI) a1 u b1 v hI
theorem R2.it12 {α1 β1 β2 : Type} {B : (α1 → qS → qR) → α1 → qS → qR} {C : (β1 → β2 → qS → qR) → β1 → β2 → qS → qR} {Q : Int32 → qS → Int32 → qS → Prop} (I : Nat → α1 → qS → β1 → β2 → qS → Prop) (h : ∀ (n : Nat) (s : α1 → qS → qR) (t : β1 → β2 → qS → qR), (∀ (a1 : α1) (u : qS) (b1 : β1) (b2 : β2) (v : qS), I n a1 u b1 b2 v → R2 Q (s a1 u) (t b1 b2 v)) → ∀ (a1 : α1) (u : qS) (b1 : β1) (b2 : β2) (v : qS), I (n + 1) a1 u b1 b2 v → R2 Q (B s a1 u) (C t b1 b2 v)) (hz : ∀ (a1 : α1) (u : qS) (b1 : β1) (b2 : β2) (v : qS), ¬ I 0 a1 u b1 b2 v) : ∀ (n f g : Nat), n ≤ f → n ≤ g → ∀ (a1 : α1) (u : qS) (b1 : β1) (b2 : β2) (v : qS), I n a1 u b1 b2 v → R2 Q (q_it1 B f a1 u) (q_it2 C g b1 b2 v)
  | 0, f, g, _, _ => fun a1 u b1 b2 v hI => absurd hI (hz a1 u b1 b2 v)
  | n + 1, 0, g, hf, _ => absurd hf (by omega)
  | n + 1, f, 0, _, hg => absurd hg (by omega)
  | n + 1, f + 1, g + 1, hf, hg => fun a1 u b1 b2 v hI => h n (q_it1 B f) (q_it2 C g) (fun a1 u b1 b2 v hI => R2.it12 I h hz n f g (by omega) (by omega) a1 u b1 b2 v hI) a1 u b1 b2 v hI
theorem R2.it13 {α1 β1 β2 β3 : Type} {B : (α1 → qS → qR) → α1 → qS → qR} {C : (β1 → β2 → β3 → qS → qR) → β1 → β2 → β3 → qS → qR} {Q : Int32 → qS → Int32 → qS → Prop} (I : Nat → α1 → qS → β1 → β2 → β3 → qS → Prop) (h : ∀ (n : Nat) (s : α1 → qS → qR) (t : β1 → β2 → β3 → qS → qR), (∀ (a1 : α1) (u : qS) (b1 : β1) (b2 : β2) (b3 : β3) (v : qS), I n a1 u b1 b2 b3 v → R2 Q (s a1 u) (t b1 b2 b3 v)) → ∀ (a1 : α1) (u : qS) (b1 : β1) (b2 : β2) (b3 : β3) (v : qS), I (n + 1) a1 u b1 b2 b3 v → R2 Q (B s a1 u) (C t b1 b2 b3 v)) (hz : ∀ (a1 : α1) (u : qS) (b1 : β1) (b2 : β2) (b3 : β3) (v : qS), ¬ I 0 a1 u b1 b2 b3 v) : ∀ (n f g : Nat), n ≤ f → n ≤ g → ∀ (a1 : α1) (u : qS) (b1 : β1) (b2 : β2) (b3 : β3) (v : qS), I n a1 u b1 b2 b3 v → R2 Q (q_it1 B f a1 u) (q_it3 C g b1 b2 b3 v)
  | 0, f, g, _, _ => fun a1 u b1 b2 b3 v hI => absurd hI (hz a1 u b1 b2 b3 v)
  | n + 1, 0, g, hf, _ => absurd hf (by omega)
  | n + 1, f, 0, _, hg => absurd hg (by omega)
  | n + 1, f + 1, g + 1, hf, hg => fun a1 u b1 b2 b3 v hI => h n (q_it1 B f) (q_it3 C g) (fun a1 u b1 b2 b3 v hI => R2.it13 I h hz n f g (by omega) (by omega) a1 u b1 b2 b3 v hI) a1 u b1 b2 b3 v hI
theorem R2.it14 {α1 β1 β2 β3 β4 : Type} {B : (α1 → qS → qR) → α1 → qS → qR} {C : (β1 → β2 → β3 → β4 → qS → qR) → β1 → β2 → β3 → β4 → qS → qR} {Q : Int32 → qS → Int32 → qS → Prop} (I : Nat → α1 → qS → β1 → β2 → β3 → β4 → qS → Prop) (h : ∀ (n : Nat) (s : α1 → qS → qR) (t : β1 → β2 → β3 → β4 → qS → qR), (∀ (a1 : α1) (u : qS) (b1 : β1) (b2 : β2) (b3 : β3) (b4 : β4) (v : qS), I n a1 u b1 b2 b3 b4 v → R2 Q (s a1 u) (t b1 b2 b3 b4 v)) → ∀ (a1 : α1) (u : qS) (b1 : β1) (b2 : β2) (b3 : β3) (b4 : β4) (v : qS), I (n + 1) a1 u b1 b2 b3 b4 v → R2 Q (B s a1 u) (C t b1 b2 b3 b4 v)) (hz : ∀ (a1 : α1) (u : qS) (b1 : β1) (b2 : β2) (b3 : β3) (b4 : β4) (v : qS), ¬ I 0 a1 u b1 b2 b3 b4 v) : ∀ (n f g : Nat), n ≤ f → n ≤ g → ∀ (a1 : α1) (u : qS) (b1 : β1) (b2 : β2) (b3 : β3) (b4 : β4) (v : qS), I n a1 u b1 b2 b3 b4 v → R2 Q (q_it1 B f a1 u) (q_it4 C g b1 b2 b3 b4 v)
  | 0, f, g, _, _ => fun a1 u b1 b2 b3 b4 v hI => absurd hI (hz a1 u b1 b2 b3 b4 v)
  | n + 1, 0, g, hf, _ => absurd hf (by omega)
  | n + 1, f, 0, _, hg => absurd hg (by omega)
  | n + 1, f + 1, g + 1, hf, hg => fun a1 u b1 b2 b3 b4 v hI => h n (q_it1 B f) (q_it4 C g) (fun a1 u b1 b2 b3 b4 v hI => R2.it14 I h hz n f g (by omega) (by omega) a1 u b1 b2 b3 b4 v hI) a1 u b1 b2 b3 b4 v hI
theorem R2.it20 {α1 α2 : Type} {B : (α1 → α2 → qS → qR) → α1 → α2 → qS → qR} {C : (qS → qR) → qS → qR} {Q : Int32 → qS → Int32 → qS → Prop} (I : Nat → α1 → α2 → qS → qS → Prop) (h : ∀ (n : Nat) (s : α1 → α2 → qS → qR) (t : qS → qR), (∀ (a1 : α1) (a2 : α2) (u : qS)  (v : qS), I n a1 a2 u  v → R2 Q (s a1 a2 u) (t  v)) → ∀ (a1 : α1) (a2 : α2) (u : qS)  (v : qS), I (n + 1) a1 a2 u  v → R2 Q (B s a1 a2 u) (C t  v)) (hz : ∀ (a1 : α1) (a2 : α2) (u : qS)  (v : qS), ¬ I 0 a1 a2 u  v) : ∀ (n f g : Nat), n ≤ f → n ≤ g → ∀ (a1 : α1) (a2 : α2) (u : qS)  (v : qS), I n a1 a2 u  v → R2 Q (q_it2 B f a1 a2 u) (q_it0 C g  v)
  | 0, f, g, _, _ => fun a1 a2 u  v hI => absurd hI (hz a1 a2 u  v)
  | n + 1, 0, g, hf, _ => absurd hf (by omega)
  | n + 1, f, 0, _, hg => absurd hg (by omega)
  | n + 1, f + 1, g + 1, hf, hg => fun a1 a2 u  v hI => h n (q_it2 B f) (q_it0 C g) (fun a1 a2 u  v hI => R2.it20 I h hz n f g (by omega) (by omega) a1 a2 u  v hI) a1 a2 u  v hI
theorem R2.it21 {α1 α2 β1 : Type} {B : (α1 → α2 → qS → qR) → α1 → α2 → qS → qR} {C : (β1 → qS → qR) → β1 → qS → qR} {Q : Int32 → qS → Int32 → qS → Prop} (I : Nat → α1 → α2 → qS → β1 → qS → Prop) (h : ∀ (n : Nat) (s : α1 → α2 → qS → qR) (t : β1 → qS → qR), (∀ (a1 : α1) (a2 : α2) (u : qS) (b1 : β1) (v : qS), I n a1 a2 u b1 v → R2 Q (s a1 a2 u) (t b1 v)) → ∀ (a1 : α1) (a2 : α2) (u : qS) (b1 : β1) (v : qS), I (n + 1) a1 a2 u b1 v → R2 Q (B s a1 a2 u) (C t b1 v)) (hz : ∀ (a1 : α1) (a2 : α2) (u : qS) (b1 : β1) (v : qS), ¬ I 0 a1 a2 u b1 v) : ∀ (n f g : Nat), n ≤ f → n ≤ g → ∀ (a1 : α1) (a2 : α2) (u : qS) (b1 : β1) (v : qS), I n a1 a2 u b1 v → R2 Q (q_it2 B f a1 a2 u) (q_it1 C g b1 v)
  | 0, f, g, _, _ => fun a1 a2 u b1 v hI => absurd hI (hz a1 a2 u b1 v)
  | n + 1, 0, g, hf, _ => absurd hf (by omega)
  | n + 1, f, 0, _, hg => absurd hg (by omega)
  | n + 1, f + 1, g + 1, hf, hg => fun a1 a2 u b1 v hI => h n (q_it2 B f) (q_it1 C g) (fun a1 a2 u b1 v hI => R2.it21 I h hz n f g (by omega) (by omega) a1 a2 u b1 v hI) a1 a2 u b1 v hI
theorem R2.it22 {α1 α2 β1 β2 : Type} {B : (α1 → α2 → qS → qR) → α1 → α2 → qS → qR} {C : (β1 → β2 → qS → qR) → β1 → β2 → qS → qR} {Q : Int32 → qS → Int32 → qS → Prop} (I : Nat → α1 → α2 → qS → β1 → β2 → qS → Prop) (h : ∀ (n : Nat) (s : α1 → α2 → qS → qR) (t : β1 → β2 → qS → qR), (∀ (a1 : α1) (a2 : α2) (u : qS) (b1 : β1) (b2 : β2) (v : qS), I n a1 a2 u b1 b2 v → R2 Q (s a1 a2 u) (t b1 b2 v)) → ∀ (a1 : α1) (a2 : α2) (u : qS) (b1 : β1) (b2 : β2) (v : qS), I (n + 1) a1 a2 u b1 b2 v → R2 Q (B s a1 a2 u) (C t b1 b2 v)) (hz : ∀ (a1 : α1) (a2 : α2) (u : qS) (b1 : β1) (b2 : β2) (v : qS), ¬ I 0 a1 a2 u b1 b2 v) : ∀ (n f g : Nat), n ≤ f → n ≤ g → ∀ (a1 : α1) (a2 : α2) (u : qS) (b1 : β1) (b2 : β2) (v : qS), I n a1 a2 u b1 b2 v → R2 Q (q_it2 B f a1 a2 u) (q_it2 C g b1 b2 v)
  | 0, f, g, _, _ => fun a1 a2 u b1 b2 v hI => absurd hI (hz a1 a2 u b1 b2 v)
  | n + 1, 0, g, hf, _ => absurd hf (by omega)
  | n + 1, f, 0, _, hg => absurd hg (by omega)
  | n + 1, f + 1, g + 1, hf, hg => fun a1 a2 u b1 b2 v hI => h n (q_it2 B f) (q_it2 C g) (fun a1 a2 u b1 b2 v hI => R2.it22 I h hz n f g (by omega) (by omega) a1 a2 u b1 b2 v hI) a1 a2 u b1 b2 v hI
theorem R2.it23 {α1 α2 β1 β2 β3 : Type} {B : (α1 → α2 → qS → qR) → α1 → α2 → qS → qR} {C : (β1 → β2 → β3 → qS → qR) → β1 → β2 → β3 → qS → qR} {Q : Int32 → qS → Int32 → qS → Prop} (I : Nat → α1 → α2 → qS → β1 → β2 → β3 → qS → Prop) (h : ∀ (n : Nat) (s : α1 → α2 → qS → qR) (t : β1 → β2 → β3 → qS → qR), (∀ (a1 : α1) (a2 : α2) (u : qS) (b1 : β1) (b2 : β2) (b3 : β3) (v : qS), I n a1 a2 u b1 b2 b3 v → R2 Q (s a1 a2 u) (t b1 b2 b3 v)) → ∀ (a1 : α1) (a2 : α2) (u : qS) (b1 : β1) (b2 : β2) (b3 : β3) (v : qS), I (n + 1) a1 a2 u b1 b2 b3 v → R2 Q (B s a1 a2 u) (C t b1 b2 b3 v)) (hz : ∀ (a1 : α1) (a2 : α2) (u : qS) (b1 : β1) (b2 : β2) (b3 : β3) (v : qS), ¬ I 0 a1 a2 u b1 b2 b3 v) : ∀ (n f g : Nat), n ≤ f → n ≤ g → ∀ (a1 : α1) (a2 : α2) (u : qS) (b1 : β1) (b2 : β2) (b3 : β3) (v : qS), I n a1 a2 u b1 b2 b3 v → R2 Q (q_it2 B f a1 a2 u) (q_it3 C g b1 b2 b3 v)
  | 0, f, g, _, _ => fun a1 a2 u b1 b2 b3 v hI => absurd hI (hz a1 a2 u b1 b2 b3 v)
  | n + 1, 0, g, hf, _ => absurd hf (by omega)
  | n + 1, f, 0, _, hg => absurd hg (by omega)
  | n + 1, f + 1, g + 1, hf, hg => fun a1 a2 u b1 b2 b3 v hI => h n (q_it2 B f) (q_it3 C g) (fun a1 a2 u b1 b2 b3 v hI => R2.it23 I h hz n f g (by omega) (by omega) a1 a2 u b1 b2 b3 v hI) a1 a2 u b1 b2 b3 v hI
theorem R2.it24 {α1 α2 β1 β2 β3 β4 : Type} {B : (α1 → α2 → qS → qR) → α1 → α2 → qS → qR} {C : (β1 → β2 → β3 → β4 → qS → qR) → β1 → β2 → β3 → β4 → qS → qR} {Q : Int32 → qS → Int32 → qS → Prop} (I : Nat → α1 → α2 → qS → β1 → β2 → β3 → β4 → qS → Prop) (h : ∀ (n : Nat) (s : α1 → α2 → qS → qR) (t : β1 → β2 → β3 → β4 → qS → qR), (∀ (a1 : α1) (a2 : α2) (u : qS) (b1 : β1) (b2 : β2) (b3 : β3) (b4 : β4) (v : qS), I n a1 a2 u b1 b2 b3 b4 v → R2 Q (s a1 a2 u) (t b1 b2 b3 b4 v)) → ∀ (a1 : α1) (a2 : α2) (u : qS) (b1 : β1) (b2 : β2) (b3 : β3) (b4 : β4) (v : qS), I (n + 1) a1 a2 u b1 b2 b3 b4 v → R2 Q (B s a1 a2 u) (C t b1 b2 b3 b4 v)) (hz : ∀ (a1 : α1) (a2 : α2) (u : qS) (b1 : β1) (b2 : β2) (b3 : β3) (b4 : β4) (v : qS), ¬ I 0 a1 a2 u b1 b2 b3 b4 v) : ∀ (n f g : Nat), n ≤ f → n ≤ g → ∀ (a1 : α1) (a2 : α2) (u : qS) (b1 : β1) (b2 : β2) (b3 : β3) (b4 : β4) (v : qS), I n a1 a2 u b1 b2 b3 b4 v → R2 Q (q_it2 B f a1 a2 u) (q_it4 C g b1 b2 b3 b4 v)
  | 0, f, g, _, _ => fun a1 a2 u b1 b2 b3 b4 v hI => absurd hI (hz a1 a2 u b1 b2 b3 b4 v)
  | n + 1, 0, g, hf, _ => absurd hf (by omega)
  | n + 1, f, 0, _, hg => absurd hg (by omega)
  | n + 1, f + 1, g + 1, hf, hg => fun a1 a2 u b1 b2 b3 b4 v hI => h n (q_it2 B f) (q_it4 C g) (fun a1 a2 u b1 b2 b3 b4 v hI => R2.it24 I h hz n f g (by omega) (by omega) a1 a2 u b1 b2 b3 b4 v hI) a1 a2 u b1 b2 b3 b4 v hI
theorem R2.it30 {α1 α2 α3 : Type} {B : (α1 → α2 → α3 → qS → qR) → α1 → α2 → α3 → qS → qR} {C : (qS → qR) → qS → qR} {Q : Int32 → qS → Int32 → qS → Prop} (I : Nat → α1 → α2 → α3 → qS → qS → Prop) (h : ∀ (n : Nat) (s : α1 → α2 → α3 → qS → qR) (t : qS → qR), (∀ (a1 : α1) (a2 : α2) (a3 : α3) (u : qS)  (v : qS), I n a1 a2 a3 u  v → R2 Q (s a1 a2 a3 u) (t  v)) → ∀ (a1 : α1) (a2 : α2) (a3 : α3) (u : qS)  (v : qS), I (n + 1) a1 a2 a3 u  v → R2 Q (B s a1 a2 a3 u) (C t  v)) (hz : ∀ (a1 : α1) (a2 : α2) (a3 : α3) (u : qS)  (v : qS), ¬ I 0 a1 a2 a3 u  v) : ∀ (n f g : Nat), n ≤ f → n ≤ g → ∀ (a1 : α1) (a2 : α2) (a3 : α3) (u : qS)  (v : qS), I n a1 a2 a3 u  v → R2 Q (q_it3 B f a1 a2 a3 u) (q_it0 C g  v)
  | 0, f, g, _, _ => fun a1 a2 a3 u  v hI => absurd hI (hz a1 a2 a3 u  v)
  | n + 1, 0, g, hf, _ => absurd hf (by omega)
  | n + 1, f, 0, _, hg => absurd hg (by omega)
  | n + 1, f + 1, g + 1, hf, hg => fun a1 a2 a3 u  v hI => h n (q_it3 B f) (q_it0 C g) (fun a1 a2 a3 u  v hI => R2.it30 I h hz n f g (by omega) (by omega) a1 a2 a3 u  v hI) a1 a2 a3 u  v hI
theorem R2.it31 {α1 α2 α3 β1 : Type} {B : (α1 → α2 → α3 → qS → qR) → α1 → α2 → α3 → qS → qR} {C : (β1 → qS → qR) → β1 → qS → qR} {Q : Int32 → qS → Int32 → qS → Prop} (I : Nat → α1 → α2 → α3 → qS → β1 → qS → Prop) (h : ∀ (n : Nat) (s : α1 → α2 → α3 → qS → qR) (t : β1 → qS → qR), (∀ (a1 : α1) (a2 : α2) (a3 : α3) (u : qS) (b1 : β1) (v : qS), I n a1 a2 a3 u b1 v → R2 Q (s a1 a2 a3 u) (t b1 v)) → ∀ (a1 : α1) (a2 : α2) (a3 : α3) (u : qS) (b1 : β1) (v : qS), I (n + 1) a1 a2 a3 u b1 v → R2 Q (B s a1 a2 a3 u) (C t b1 v)) (hz : ∀ (a1 : α1) (a2 : α2) (a3 : α3) (u : qS) (b1 : β1) (v : qS), ¬ I 0 a1 a2 a3 u b1 v) : ∀ (n f g : Nat), n ≤ f → n ≤ g → ∀ (a1 : α1) (a2 : α2) (a3 : α3) (u : qS) (b1 : β1) (v : qS), I n a1 a2 a3 u b1 v → R2 Q (q_it3 B f a1 a2 a3 u) (q_it1 C g b1 v)
  | 0, f, g, _, _ => fun a1 a2 a3 u b1 v hI => absurd hI (hz a1 a2 a3 u b1 v)
  | n + 1, 0, g, hf, _ => absurd hf (by omega)
  | n + 1, f, 0, _, hg => absurd hg (by omega)
  | n + 1, f + 1, g + 1, hf, hg => fun a1 a2 a3 u b1 v hI => h n (q_it3 B f) (q_it1 C g) (fun a1 a2 a3 u b1 v hI => R2.it31 I h hz n f g (by omega) (by omega) a1 a2 a3 u b1 v hI) a1 a2 a3 u b1 v hI
theorem R2.it32 {α1 α2 α3 β1 β2 : Type} {B : (α1 → α2 → α3 → qS → qR) → α1 → α2 → α3 → qS → qR} {C : (β1 → β2 → qS → qR) → β1 → β2 → qS → qR} {Q : Int32 → qS → Int32 → qS → Prop} (I : Nat → α1 → α2 → α3 → qS → β1 → β2 → qS → Prop) (h : ∀ (n : Nat) (s : α1 → α2 → α3 → qS → qR) (t : β1 → β2 → qS → qR), (∀ (a1 : α1) (a2 : α2) (a3 : α3) (u : qS) (b1 : β1) (b2 : β2) (v : qS), I n a1 a2 a3 u b1 b2 v → R2 Q (s a1 a2 a3 u) (t b1 b2 v)) → ∀ (a1 : α1) (a2 : α2) (a3 : α3) (u : qS) (b1 : β1) (b2 : β2) (v : qS), I (n + 1) a1 a2 a3 u b1 b2 v → R2 Q (B s a1 a2 a3 u) (C t b1 b2 v)) (hz : ∀ (a1 : α1) (a2 : α2) (a3 : α3) (u : qS) (b1 : β1) (b2 : β2) (v : qS), ¬ I 0 a1 a2 a3 u b1 b2 v) : ∀ (n f g : Nat), n ≤ f → n ≤ g → ∀ (a1 : α1) (a2 : α2) (a3 : α3) (u : qS) (b1 : β1) (b2 : β2) (v : qS), I n a1 a2 a3 u b1 b2 v → R2 Q (q_it3 B f a1 a2 a3 u) (q_it2 C g b1 b2 v)
  | 0, f, g, _, _ => fun a1 a2 a3 u b1 b2 v hI => absurd hI (hz a1 a2 a3 u b1 b2 v)
  | n + 1, 0, g, hf, _ => absurd hf (by omega)
  | n + 1, f, 0, _, hg => absurd hg (by omega)
  | n + 1, f + 1, g + 1, hf, hg => fun a1 a2 a3 u b1 b2 v hI => h n (q_it3 B f) (q_it2 C g) (fun a1 a2 a3 u b1 b2 v hI => R2.it32 I h hz n f g (by omega) (by omega) a1 a2 a3 u b1 b2 v hI) a1 a2 a3 u b1 b2 v hI
theorem R2.it33 {α1 α2 α3 β1 β2 β3 : Type} {B : (α1 → α2 → α3 → qS → qR) → α1 → α2 → α3 → qS → qR} {C : (β1 → β2 → β3 → qS → qR) → β1 → β2 → β3 → qS → qR} {Q : Int32 → qS → Int32 → qS → Prop} (I : Nat → α1 → α2 → α3 → qS → β1 → β2 → β3 → qS → Prop) (h : ∀ (n : Nat) (s : α1 → α2 → α3 → qS → qR) (t : β1 → β2 → β3 → qS → qR), (∀ (a1 : α1) (a2 : α2) (a3 : α3) (u : qS) (b1 : β1) (b2 : β2) (b3 : β3) (v : qS), I n a1 a2 a3 u b1 b2 b3 v → R2 Q (s a1 a2 a3 u) (t b1 b2 b3 v)) → ∀ (a1 : α1) (a2 : α2) (a3 : α3) (u : qS) (b1 : β1) (b2 : β2) (b3 : β3) (v : qS), I (n + 1) a1 a2 a3 u b1 b2 b3 v → R2 Q (B s a1 a2 a3 u) (C t b1 b2 b3 v)) (hz : ∀ (a1 : α1) (a2 : α2) (a3 : α3) (u : qS) (b1 : β1) (b2 : β2) (b3 : β3) (v : qS), ¬ I 0 a1 a2 a3 u b1 b2 b3 v) : ∀ (n f g : Nat), n ≤ f → n ≤ g → ∀ (a1 : α1) (a2 : α2) (a3 : α3) (u : qS) (b1 : β1) (b2 : β2) (b3 : β3) (v : qS), I n a1 a2 a3 u b1 b2 b3 v → R2 Q (q_it3 B f a1 a2 a3 u) (q_it3 C g b1 b2 b3 v)
  | 0, f, g, _, _ => fun a1 a2 a3 u b1 b2 b3 v hI => absurd hI (hz a1 a2 a3 u b1 b2 b3 v)
  | n + 1, 0, g, hf, _ => absurd hf (by omega)
  | n + 1, f, 0, _, hg => absurd hg (by omega)
  | n + 1, f + 1, g + 1, hf, hg => fun a1 a2 a3 u b1 b2 b3 v hI => h n (q_it3 B f) (q_it3 C g) (fun a1 a2 a3 u b1 b2 b3 v hI => R2.it33 I h hz n f g (by omega) (by omega) a1 a2 a3 u b1 b2 b3 v hI) a1 a2 a3 u b1 b2 b3 v hI
theorem R2.it34 {α1 α2 α3 β1 β2 β3 β4 : Type} {B : (α1 → α2 → α3 → qS → qR) → α1 → α2 → α3 → qS → qR} {C : (β1 → β2 → β3 → β4 → qS → qR) → β1 → β2 → β3 → β4 → qS → qR} {Q : Int32 → qS → Int32 → qS → Prop} (I : Nat → α1 → α2 → α3 → qS → β1 → β2 → β3 → β4 → qS → Prop) (h : ∀ (n : Nat) (s : α1 → α2 → α3 → qS → qR) (t : β1 → β2 → β3 → β4 → qS → qR), (∀ (a1 : α1) (a2 : α2) (a3 : α3) (u : qS) (b1 : β1) (b2 : β2) (b3 : β3) (b4 : β4) (v : qS), I n a1 a2 a3 u b1 b2 b3 b4 v → R2 Q (s a1 a2 a3 u) (t b1 b2 b3 b4 v)) → ∀ (a1 : α1) (a2 : α2) (a3 : α3) (u : qS) (b1 : β1) (b2 : β2) (b3 : β3) (b4 : β4) (v : qS), I (n + 1) a1 a2 a3 u b1 b2 b3 b4 v → R2 Q (B s a1 a2 a3 u) (C t b1 b2 b3 b4 v)) (hz : ∀ (a1 : α1) (a2 : α2) (a3 : α3) (u : qS) (b1 : β1) (b2 : β2) (b3 : β3) (b4 : β4) (v : qS), ¬ I 0 a1 a2 a3 u b1 b2 b3 b4 v) : ∀ (n f g : Nat), n ≤ f → n ≤ g → ∀ (a1 : α1) (a2 : α2) (a3 : α3) (u : qS) (b1 : β1) (b2 : β2) (b3 : β3) (b4 : β4) (v : qS), I n a1 a2 a3 u b1 b2 b3 b4 v → R2 Q (q_it3 B f a1 a2 a3 u) (q_it4 C g b1 b2 b3 b4 v)
  | 0, f, g, _, _ => fun a1 a2 a3 u b1 b2 b3 b4 v hI => absurd hI (hz a1 a2 a3 u b1 b2 b3 b4 v)
  | n + 1, 0, g, hf, _ => absurd hf (by omega)
  | n + 1, f, 0, _, hg => absurd hg (by omega)
  | n + 1, f + 1, g + 1, hf, hg => fun a1 a2 a3 u b1 b2 b3 b4 v hI => h n (q_it3 B f) (q_it4 C g) (fun a1 a2 a3 u b1 b2 b3 b4 v hI => R2.it34 I h hz n f g (by omega) (by omega) a1 a2 a3 u b1 b2 b3 b4 v hI) a1 a2 a3 u b1 b2 b3 b4 v hI
theorem R2.it40 {α1 α2 α3 α4 : Type} {B : (α1 → α2 → α3 → α4 → qS → qR) → α1 → α2 → α3 → α4 → qS → qR} {C : (qS → qR) → qS → qR} {Q : Int32 → qS → Int32 → qS → Prop} (I : Nat → α1 → α2 → α3 → α4 → qS → qS → Prop) (h : ∀ (n : Nat) (s : α1 → α2 → α3 → α4 → qS → qR) (t : qS → qR), (∀ (a1 : α1) (a2 : α2) (a3 : α3) (a4 : α4) (u : qS)  (v : qS), I n a1 a2 a3 a4 u  v → R2 Q (s a1 a2 a3 a4 u) (t  v)) → ∀ (a1 : α1) (a2 : α2) (a3 : α3) (a4 : α4) (u : qS)  (v : qS), I (n + 1) a1 a2 a3 a4 u  v → R2 Q (B s a1 a2 a3 a4 u) (C t  v)) (hz : ∀ (a1 : α1) (a2 : α2) (a3 : α3) (a4 : α4) (u : qS)  (v : qS), ¬ I 0 a1 a2 a3 a4 u  v) : ∀ (n f g : Nat), n ≤ f → n ≤ g → ∀ (a1 : α1) (a2 : α2) (a3 : α3) (a4 : α4) (u : qS)  (v : qS), I n a1 a2 a3 a4 u  v → R2 Q (q_it4 B f a1 a2 a3 a4 u) (q_it0 C g  v)
  | 0, f, g, _, _ => fun a1 a2 a3 a4 u  v hI => absurd hI (hz a1 a2 a3 a4 u  v)
  | n + 1, 0, g, hf, _ => absurd hf (by omega)
  | n + 1, f, 0, _, hg => absurd hg (by omega)
  | n + 1, f + 1, g + 1, hf, hg => fun a1 a2 a3 a4 u  v hI => h n (q_it4 B f) (q_it0 C g) (fun a1 a2 a3 a4 u  v hI => R2.it40 I h hz n f g (by omega) (by omega) a1 a2 a3 a4 u  v hI) a1 a2 a3 a4 u  v hI
theorem R2.it41 {α1 α2 α3 α4 β1 : Type} {B : (α1 → α2 → α3 → α4 → qS → qR) → α1 → α2 → α3 → α4 → qS → qR} {C : (β1 → qS → qR) → β1 → qS → qR} {Q : Int32 → qS → Int32 → qS → Prop} (I : Nat → α1 → α2 → α3 → α4 → qS → β1 → qS → Prop) (h : ∀ (n : Nat) (s : α1 → α2 → α3 → α4 → qS → qR) (t : β1 → qS → qR), (∀ (a1 : α1) (a2 : α2) (a3 : α3) (a4 : α4) (u : qS) (b1 : β1) (v : qS), I n a1 a2 a3 a4 u b1 v → R2 Q (s a1 a2 a3 a4 u) (t b1 v)) → ∀ (a1 : α1) (a2 : α2) (a3 : α3) (a4 : α4) (u : qS) (b1 : β1) (v : qS), I (n + 1) a1 a2 a3 a4 u b1 v → R2 Q (B s a1 a2 a3 a4 u) (C t b1 v)) (hz : ∀ (a1 : α1) (a2 : α2) (a3 : α3) (a4 : α4) (u : qS) (b1 : β1) (v : qS), ¬ I 0 a1 a2 a3 a4 u b1 v) : ∀ (n f g : Nat), n ≤ f → n ≤ g → ∀ (a1 : α1) (a2 : α2) (a3 : α3) (a4 : α4) (u : qS) (b1 : β1) (v : qS), I n a1 a2 a3 a4 u b1 v → R2 Q (q_it4 B f a1 a2 a3 a4 u) (q_it1 C g b1 v)
  | 0, f, g, _, _ => fun a1 a2 a3 a4 u b1 v hI => absurd hI (hz a1 a2 a3 a4 u b1 v)
  | n + 1, 0, g, hf, _ => absurd hf (by omega)
  | n + 1, f, 0, _, hg => absurd hg (by omega)
  | n + 1, f + 1, g + 1, hf, hg => fun a1 a2 a3 a4 u b1 v hI => h n (q_it4 B f) (q_it1 C g) (fun a1 a2 a3 a4 u b1 v hI => R2.it41 I h hz n f g (by omega) (by omega) a1 a2 a3 a4 u b1 v hI) a1 a2 a3 a4 u b1 v hI
theorem R2.it42 {α1 α2 α3 α4 β1 β2 : Type} {B : (α1 → α2 → α3 → α4 → qS → qR) → α1 → α2 → α3 → α4 → qS → qR} {C : (β1 → β2 → qS → qR) → β1 → β2 → qS → qR} {Q : Int32 → qS → Int32 → qS → Prop} (I : Nat → α1 → α2 → α3 → α4 → qS → β1 → β2 → qS → Prop) (h : ∀ (n : Nat) (s : α1 → α2 → α3 → α4 → qS → qR) (t : β1 → β2 → qS → qR), (∀ (a1 : α1) (a2 : α2) (a3 : α3) (a4 : α4) (u : qS) (b1 : β1) (b2 : β2) (v : qS), I n a1 a2 a3 a4 u b1 b2 v → R2 Q (s a1 a2 a3 a4 u) (t b1 b2 v)) → ∀ (a1 : α1) (a2 : α2) (a3 : α3) (a4 : α4) (u : qS) (b1 : β1) (b2 : β2) (v : qS), I (n + 1) a1 a2 a3 a4 u b1 b2 v → R2 Q (B s a1 a2 a3 a4 u) (C t b1 b2 v)) (hz : ∀ (a1 : α1) (a2 : α2) (a3 : α3) (a4 : α4) (u : qS) (b1 : β1) (b2 : β2) (v : qS), ¬ I 0 a1 a2 a3 a4 u b1 b2 v) : ∀ (n f g : Nat), n ≤ f → n ≤ g → ∀ (a1 : α1) (a2 : α2) (a3 : α3) (a4 : α4) (u : qS) (b1 : β1) (b2 : β2) (v : qS), I n a1 a2 a3 a4 u b1 b2 v → R2 Q (q_it4 B f a1 a2 a3 a4 u) (q_it2 C g b1 b2 v)
  | 0, f, g, _, _ => fun a1 a2 a3 a4 u b1 b2 v hI => absurd hI (hz a1 a2 a3 a4 u b1 b2 v)
  | n + 1, 0, g, hf, _ => absurd hf (by omega)
  | n + 1, f, 0, _, hg => absurd hg (by omega)
  | n + 1, f + 1, g + 1, hf, hg => fun a1 a2 a3 a4 u b1 b2 v hI => h n (q_it4 B f) (q_it2 C g) (fun a1 a2 a3 a4 u b1 b2 v hI => R2.it42 I h hz n f g (by omega) (by omega) a1 a2 a3 a4 u b1 b2 v hI) a1 a2 a3 a4 u b1 b2 v hI
theorem R2.it43 {α1 α2 α3 α4 β1 β2 β3 : Type} {B : (α1 → α2 → α3 → α4 → qS → qR) → α1 → α2 → α3 → α4 → qS → qR} {C : (β1 → β2 → β3 → qS → qR) → β1 → β2 → β3 → qS → qR} {Q : Int32 → qS → Int32 → qS → Prop} (I : Nat → α1 → α2 → α3 → α4 → qS → β1 → β2 → β3 → qS → Prop) (h : ∀ (n : Nat) (s : α1 → α2 → α3 → α4 → qS → qR) (t : β1 → β2 → β3 → qS → qR), (∀ (a1 : α1) (a2 : α2) (a3 : α3) (a4 : α4) (u : qS) (b1 : β1) (b2 : β2) (b3 : β3) (v : qS), I n a1 a2 a3 a4 u b1 b2 b3 v → R2 Q (s a1 a2 a3 a4 u) (t b1 b2 b3 v)) → ∀ (a1 : α1) (a2 : α2) (a3 : α3) (a4 : α4) (u : qS) (b1 : β1) (b2 : β2) (b3 : β3) (v : qS), I (n + 1) a1 a2 a3 a4 u b1 b2 b3 v → R2 Q (B s a1 a2 a3 a4 u) (C t b1 b2 b3 v)) (hz : ∀ (a1 : α1) (a2 : α2) (a3 : α3) (a4 : α4) (u : qS) (b1 : β1) (b2 : β2) (b3 : β3) (v : qS), ¬ I 0 a1 a2 a3 a4 u b1 b2 b3 v) : ∀ (n f g : Nat), n ≤ f → n ≤ g → ∀ (a1 : α1) (a2 : α2) (a3 : α3) (a4 : α4) (u : qS) (b1 : β1) (b2 : β2) (b3 : β3) (v : qS), I n a1 a2 a3 a4 u b1 b2 b3 v → R2 Q (q_it4 B f a1 a2 a3 a4 u) (q_it3 C g b1 b2 b3 v)
  | 0, f, g, _, _ => fun a1 a2 a3 a4 u b1 b2 b3 v hI => absurd hI (hz a1 a2 a3 a4 u b1 b2 b3 v)
  | n + 1, 0, g, hf, _ => absurd hf (by omega)
  | n + 1, f, 0, _, hg => absurd hg (by omega)
  | n + 1, f + 1, g + 1, hf, hg => fun a1 a2 a3 a4 u b1 b2 b3 v hI => h n (q_it4 B f) (q_it3 C g) (fun a1 a2 a3 a4 u b1 b2 b3 v hI => R2.it43 I h hz n f g (by omega) (by omega) a1 a2 a3 a4 u b1 b2 b3 v hI) a1 a2 a3 a4 u b1 b2 b3 v hI
theorem R2.it44 {α1 α2 α3 α4 β1 β2 β3 β4 : Type} {B : (α1 → α2 → α3 → α4 → qS → qR) → α1 → α2 → α3 → α4 → qS → qR} {C : (β1 → β2 → β3 → β4 → qS → qR) → β1 → β2 → β3 → β4 → qS → qR} {Q : Int32 → qS → Int32 → qS → Prop} (I : Nat → α1 → α2 → α3 → α4 → qS → β1 → β2 → β3 → β4 → qS → Prop) (h : ∀ (n : Nat) (s : α1 → α2 → α3 → α4 → qS → qR) (t : β1 → β2 → β3 → β4 → qS → qR), (∀ (a1 : α1) (a2 : α2) (a3 : α3) (a4 : α4) (u : qS) (b1 : β1) (b2 : β2) (b3 : β3) (b4 : β4) (v : qS), I n a1 a2 a3 a4 u b1 b2 b3 b4 v → R2 Q (s a1 a2 a3 a4 u) (t b1 b2 b3 b4 v)) → ∀ (a1 : α1) (a2 : α2) (a3 : α3) (a4 : α4) (u : qS) (b1 : β1) (b2 : β2) (b3 : β3) (b4 : β4) (v : qS), I (n + 1) a1 a2 a3 a4 u b1 b2 b3 b4 v → R2 Q (B s a1 a2 a3 a4 u) (C t b1 b2 b3 b4 v)) (hz : ∀ (a1 : α1) (a2 : α2) (a3 : α3) (a4 : α4) (u : qS) (b1 : β1) (b2 : β2) (b3 : β3) (b4 : β4) (v : qS), ¬ I 0 a1 a2 a3 a4 u b1 b2 b3 b4 v) : ∀ (n f g : Nat), n ≤ f → n ≤ g → ∀ (a1 : α1) (a2 : α2) (a3 : α3) (a4 : α4) (u : qS) (b1 : β1) (b2 : β2) (b3 : β3) (b4 : β4) (v : qS), I n a1 a2 a3 a4 u b1 b2 b3 b4 v → R2 Q (q_it4 B f a1 a2 a3 a4 u) (q_it4 C g b1 b2 b3 b4 v)
  | 0, f, g, _, _ => fun a1 a2 a3 a4 u b1 b2 b3 b4 v hI => absurd hI (hz a1 a2 a3 a4 u b1 b2 b3 b4 v)
  | n + 1, 0, g, hf, _ => absurd hf (by omega)
  | n + 1, f, 0, _, hg => absurd hg (by omega)
  | n + 1, f + 1, g + 1, hf, hg => fun a1 a2 a3 a4 u b1 b2 b3 b4 v hI => h n (q_it4 B f) (q_it4 C g) (fun a1 a2 a3 a4 u b1 b2 b3 b4 v hI => R2.it44 I h hz n f g (by omega) (by omega) a1 a2 a3 a4 u b1 b2 b3 b4 v hI) a1 a2 a3 a4 u b1 b2 b3 b4 v hI

