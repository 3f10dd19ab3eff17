/-! LAYER 2: THE RELATION between the class and the reference -/
def RW (b : Nat) (X Z : qX) : Prop := RC (b + 1) X (Z 164) (Z 163) ∧ BC (Z 164) (Z 163) ∧ (Z 164 0).toInt ≤ 9999 ∧ BG (Z 163) ∧ RLw (b + 11) X Z ∧ RPa (b + 18) X Z ∧ RPn (b + 22) X Z (Z 163) ∧ RCo (b + 27) X Z (Z 163) ∧ ∀ i, i < 600 → X (b + 31) i = Z 167 i
def szo (o : Nat) : Nat := if o = 1 then 11 else if o < 5 then 5 else if o < 9 then 14 else if o = 9 then 10 else if o = 10 then 50 else if o = 11 then 7 else if o = 12 then 16 else if o = 13 then 17 else if o = 14 then 16 else if o = 15 then 400 else if o = 18 then 1 else if o = 19 then 10 else if o = 20 then 80 else if o = 21 then 10 else if o = 22 then 1 else if o < 27 then 16 else if o = 27 then 1 else if o < 30 then 8 else if o = 30 then 0 else 600
def XP (b b2 : Nat) (X X2 : qX) : Prop := ∀ o s, 1 ≤ o → o < 32 → o ≠ 16 → o ≠ 17 → s < szo o → X2 (b2 + o) s = X (b + o) s
def gsl (j : Nat) : Prop := j = 6 ∨ j = 7 ∨ j = 8 ∨ j = 9 ∨ j = 10 ∨ j = 11 ∨ j = 36 ∨ j = 38 ∨ j = 48
def ZE (Z Z2 : qX) : Prop := (∀ j, j < 136 → Z2 164 j = Z 164 j) ∧ (∀ j, gsl j → Z2 163 j = Z 163 j) ∧ (∀ i, i < 600 → Z2 167 i = Z 167 i) ∧ Z2 170 0 = Z 170 0 ∧ (∀ c, 171 ≤ c → c < 175 → ∀ i, i < 16 → Z2 c i = Z c i) ∧ (∀ c, 175 ≤ c → c < 177 → ∀ i, i < 400 → Z2 c i = Z c i) ∧ (∀ j, j < 90 → Z2 178 j = Z 178 j) ∧ (∀ j, j < 64 → Z2 179 j = Z 179 j) ∧ (∀ j, j < 16 → Z2 184 j = Z 184 j)
theorem ZE.rfl' {Z : qX} : ZE Z Z := ⟨fun _ _ => rfl, fun _ _ => rfl, fun _ _ => rfl, rfl, fun _ _ _ _ _ => rfl, fun _ _ _ _ _ => rfl, fun _ _ => rfl, fun _ _ => rfl, fun _ _ => rfl⟩
theorem ZE.trans {Z Z1 Z2 : qX} (h : ZE Z Z1) (h2 : ZE Z1 Z2) : ZE Z Z2 := ⟨fun j hj => (h2.1 j hj).trans (h.1 j hj), fun j hj => (h2.2.1 j hj).trans (h.2.1 j hj), fun j hj => (h2.2.2.1 j hj).trans (h.2.2.1 j hj), h2.2.2.2.1.trans h.2.2.2.1, fun c a b i hi => (h2.2.2.2.2.1 c a b i hi).trans (h.2.2.2.2.1 c a b i hi), fun c a b i hi => (h2.2.2.2.2.2.1 c a b i hi).trans (h.2.2.2.2.2.1 c a b i hi), fun j hj => (h2.2.2.2.2.2.2.1 j hj).trans (h.2.2.2.2.2.2.1 j hj), fun j hj => (h2.2.2.2.2.2.2.2.1 j hj).trans (h.2.2.2.2.2.2.2.1 j hj), fun j hj => (h2.2.2.2.2.2.2.2.2 j hj).trans (h.2.2.2.2.2.2.2.2 j hj)⟩
theorem XP.rfl' {b : Nat} {X : qX} : XP b b X X := fun _ _ _ _ _ _ _ => rfl
theorem XP.of {b : Nat} {X X2 : qX} (h : ∀ c, b < c → c < b + 32 → c ≠ b + 16 → c ≠ b + 17 → X2 c = X c) : XP b b X X2 := fun o s h1 h2 h3 h4 _ => by rw [h (b + o) (by omega) (by omega) (by omega) (by omega)]
theorem cS_lt : ∀ j, j < 86 → cS j < szo (1 + cC j) ∧ 1 + cC j < 10 := by decide +kernel
theorem RC.mv {k k' : Nat} {X X2 : qX} {f f2 g g2 : Nat → Int32} (h : RC k X f g) (hx : ∀ o s, o < 10 → s < szo (o + 1) → X2 (k' + o) s = X (k + o) s) (hf : ∀ j, j < 136 → f2 j = f j) (hg : ∀ j, j = 6 ∨ j = 7 ∨ j = 8 ∨ j = 9 ∨ j = 10 ∨ j = 11 → g2 j = g j) : RC k' X2 f2 g2 := by
  have s1 : szo 1 = 11 := rfl
  have e0 : ∀ s, s < 11 → X2 k' s = X k s := fun s hs => hx 0 s (by omega) hs
  refine ⟨fun j hj => ?_, fun i hi he => ?_, ?_, ?_, ?_, ?_, ?_, ?_⟩
  · have := cS_lt j hj
    rw [hx (cC j) (cS j) (by omega) (by rw [Nat.add_comm]; exact this.1), hf j (by omega)]; exact h.1 j hj
  · rw [hg 7 (by omega)] at he
    rw [hx 9 i (by omega) (by show i < 50; exact hi), hf _ (by omega)]; exact h.2.1 i hi he
  · rw [e0 2 (by omega), hg 8 (by omega)]; exact h.bad
  · rw [e0 3 (by omega), hg 9 (by omega)]; exact h.wasps
  · rw [e0 4 (by omega), hg 10 (by omega)]; exact h.chairs
  · rw [e0 5 (by omega), hg 11 (by omega)]; exact h.every
  · rw [e0 7 (by omega), hg 6 (by omega)]; exact h.parties
  · rw [e0 9 (by omega), hg 7 (by omega)]; exact h.eaters
theorem BG.mv {g g2 : Nat → Int32} (h : BG g) (hg : ∀ j, j = 6 ∨ j = 7 ∨ j = 8 ∨ j = 9 ∨ j = 10 ∨ j = 11 → g2 j = g j) : BG g2 := by
  unfold BG
  rw [hg 6 (by omega), hg 7 (by omega), hg 8 (by omega), hg 9 (by omega), hg 10 (by omega), hg 11 (by omega)]; exact h
theorem Sg.mv {c op ar c2 op2 ar2 : Nat → Int32} {i n i2 n2 d : Nat} {b : Bool} (h : Sg c op ar i n i2 n2 d b) (h1 : ∀ j, i ≤ j → j < i + n → c2 j = c j) (h2 : ∀ j, i2 ≤ j → j < i2 + n2 → op2 j = op j ∧ ar2 j = ar j) : Sg c2 op2 ar2 i n i2 n2 d b := fun a st hst => by
  obtain ⟨v, e1, e2, e3⟩ := h a st hst
  exact ⟨v, by rw [mC_cong n i st h1]; exact e1, by rw [mR_cong n2 i2 st h2]; exact e2, e3⟩
theorem LN.mv {l l2 i : Nat} {X X2 Z Z2 : qX} (h : LN l X Z i) (hi : i < 16) (h6 : X2 l2 6 = X l 6) (h1 : X2 (l2 + 1) i = X (l + 1) i) (h2 : X2 (l2 + 2) i = X (l + 2) i) (h2' : X2 (l2 + 2) (i + 1) = X (l + 2) (i + 1)) (h3 : X2 (l2 + 3) i = X (l + 3) i) (h4 : ∀ j, j < 400 → X2 (l2 + 4) j = X (l + 4) j) (z1 : Z2 171 i = Z 171 i) (z2 : Z2 172 i = Z 172 i) (z3 : Z2 173 i = Z 173 i) (z4 : Z2 174 i = Z 174 i) (z5 : ∀ j, j < 400 → Z2 175 j = Z 175 j) (z6 : ∀ j, j < 400 → Z2 176 j = Z 176 j) : LN l2 X2 Z2 i := by
  obtain ⟨s, w, e, s2, w2, e2, g1, g2, g3, g4, g5, g6, g7, b1, b2, b3, b4, b5, b6, b7, hS, hB, hN⟩ := h
  refine ⟨s, w, e, s2, w2, e2, by rw [h1, z1]; exact g1, by rw [h2]; exact g2, by rw [h3]; exact g3, by rw [h2']; exact g4, by rw [z2]; exact g5, by rw [z3]; exact g6, by rw [z4]; exact g7, b1, b2, b3, b4, b5, b6, b7, ?_, fun hw => ?_, fun a b => ?_⟩
  · exact hS.mv (fun j _ h => h4 j (by omega)) (fun j _ h => ⟨z5 j (by omega), z6 j (by omega)⟩)
  · exact (hB hw).mv (fun j _ h => h4 j (by omega)) (fun j _ h => ⟨z5 j (by omega), z6 j (by omega)⟩)
  · rw [h6] at a
    rw [h1] at b
    intro j j1 j2
    rw [h4 j (by omega)]
    exact hN a b j j1 j2
theorem RW.mv {b b2 : Nat} {X X2 Z Z2 : qX} (h : RW b X Z) (hx : XP b b2 X X2) (hz : ZE Z Z2) : RW b2 X2 Z2 := by
  obtain ⟨r1, r2, r3, r4, r5, r6, r7, r8, r9⟩ := h
  obtain ⟨z1, z2, z3, z4, z5, z6, z7, z8, z9⟩ := hz
  have zg : ∀ j, j = 6 ∨ j = 7 ∨ j = 8 ∨ j = 9 ∨ j = 10 ∨ j = 11 → Z2 163 j = Z 163 j := fun j hj => z2 j (by unfold gsl; omega)
  refine ⟨?_, ?_, ?_, r4.mv zg, ?_, ?_, ?_, ?_, ?_⟩
  · exact r1.mv (fun o s h1 h2 => by rw [show b2 + 1 + o = b2 + (o + 1) by omega, show b + 1 + o = b + (o + 1) by omega]; exact hx (o + 1) s (by omega) (by omega) (by omega) (by omega) h2) z1 zg
  · exact (r2.rw z1).gr (zg 6 (by omega)) (zg 7 (by omega))
  · rw [z1 0 (by omega)]; exact r3
  · obtain ⟨N, n1, n2, n3, n4, n5⟩ := r5
    have l0 : ∀ s, s < 7 → X2 (b2 + 11) s = X (b + 11) s := fun s hs => hx 11 s (by omega) (by omega) (by omega) (by omega) hs
    refine ⟨N, n1, by rw [l0 0 (by omega)]; exact n2, by rw [z4]; exact n3, by rw [l0 6 (by omega)]; exact n4, fun i hi => ?_⟩
    exact (n5 i hi).mv (by omega) (l0 6 (by omega)) (hx 12 i (by omega) (by omega) (by omega) (by omega) (by show i < 16; omega)) (hx 13 i (by omega) (by omega) (by omega) (by omega) (by show i < 17; omega)) (hx 13 (i + 1) (by omega) (by omega) (by omega) (by omega) (by show i + 1 < 17; omega)) (hx 14 i (by omega) (by omega) (by omega) (by omega) (by show i < 16; omega)) (fun j hj => hx 15 j (by omega) (by omega) (by omega) (by omega) hj) (z5 171 (by omega) (by omega) i (by omega)) (z5 172 (by omega) (by omega) i (by omega)) (z5 173 (by omega) (by omega) i (by omega)) (z5 174 (by omega) (by omega) i (by omega)) (z6 175 (by omega) (by omega)) (z6 176 (by omega) (by omega))
  · refine ⟨by rw [hx 18 0 (by omega) (by omega) (by omega) (by omega) (by decide), z2 36 (by unfold gsl; omega)]; exact r6.1, fun e he => ?_⟩
    obtain ⟨m, m1, m2, m3, m4, m5⟩ := r6.2 e he
    have hps : ∀ n, n ≤ 8 → pset (fun i => Z2 178 (9 * e + 1 + i)) n = pset (fun i => Z 178 (9 * e + 1 + i)) n := by
      intro n
      induction n with
      | zero => intro _; rfl
      | succ n ih => intro hn; unfold pset; rw [ih (by omega), z7 _ (by omega)]
    refine ⟨m, m1, by rw [show b2 + 18 + 1 = b2 + 19 from rfl, hx 19 e (by omega) (by omega) (by omega) (by omega) (by show e < 10; omega)]; exact m2, by rw [z7 _ (by omega)]; exact m3, fun i hi => ?_, ?_⟩
    · obtain ⟨q, q1, q2, q3⟩ := m4 i hi
      refine ⟨q, q1, ?_, by rw [z7 _ (by omega)]; exact q3⟩
      rw [show b2 + 18 + 2 = b2 + 20 from rfl, hx 20 _ (by omega) (by omega) (by omega) (by omega) (by show 8 * e + i < 80; omega)]; exact q2
    · rw [show b2 + 18 + 3 = b2 + 21 from rfl, hx 21 e (by omega) (by omega) (by omega) (by omega) (by show e < 10; omega), hps m m1]; exact m5
  · obtain ⟨N, n1, n2, n3, n4⟩ := r7
    refine ⟨N, n1, by rw [hx 22 0 (by omega) (by omega) (by omega) (by omega) (by decide)]; exact n2, by rw [z2 38 (by unfold gsl; omega)]; exact n3, fun i hi => ?_⟩
    obtain ⟨d, q, o, d1, d2, d3, d4, d5, d6, d7, d8, d9⟩ := n4 i hi
    have c1 : X2 (b2 + 22 + 1) i = X (b + 22 + 1) i := hx 23 i (by omega) (by omega) (by omega) (by omega) (by show i < 16; omega)
    have c2 : X2 (b2 + 22 + 2) i = X (b + 22 + 2) i := hx 24 i (by omega) (by omega) (by omega) (by omega) (by show i < 16; omega)
    have c3 : X2 (b2 + 22 + 3) i = X (b + 22 + 3) i := hx 25 i (by omega) (by omega) (by omega) (by omega) (by show i < 16; omega)
    have c4 : X2 (b2 + 22 + 4) i = X (b + 22 + 4) i := hx 26 i (by omega) (by omega) (by omega) (by omega) (by show i < 16; omega)
    refine ⟨d, q, o, d1, by rw [c1, z8 _ (by omega)]; exact d2, by rw [z8 _ (by omega)]; exact d3, by rw [c2]; exact d4, by rw [c3]; exact d5, by rw [z8 _ (by omega)]; exact d6, by rw [c4]; exact d7, by rw [z8 _ (by omega)]; exact d8, ?_⟩
    rw [zg 6 (by omega), zg 7 (by omega)]; exact d9
  · obtain ⟨N, n1, n2, n3, n4⟩ := r8
    refine ⟨N, n1, by rw [hx 27 0 (by omega) (by omega) (by omega) (by omega) (by decide)]; exact n2, by rw [z2 48 (by unfold gsl; omega)]; exact n3, fun i hi => ?_⟩
    obtain ⟨p, q, d1, d2, d3, d4, d5, d6⟩ := n4 i hi
    have c1 : X2 (b2 + 27 + 1) i = X (b + 27 + 1) i := hx 28 i (by omega) (by omega) (by omega) (by omega) (by show i < 8; omega)
    have c2 : X2 (b2 + 27 + 2) i = X (b + 27 + 2) i := hx 29 i (by omega) (by omega) (by omega) (by omega) (by show i < 8; omega)
    refine ⟨p, q, by rw [zg 6 (by omega)]; exact d1, d2, by rw [c1]; exact d3, by rw [z9 _ (by omega)]; exact d4, by rw [c2]; exact d5, by rw [z9 _ (by omega)]; exact d6⟩
  · intro i hi
    rw [hx 31 i (by omega) (by omega) (by omega) (by omega) (by show i < 600; exact hi), z3 i hi]; exact r9 i hi
/-! the kept communes, the tape, the image -/
def KRi (x y : qS) (m q i : Nat) : Prop := RC (q_kp ((q + 6 - m + i) % 6)) x.1 (fun j => y.1 165 (136 * i + j)) (y.1 163) ∧ BC (fun j => y.1 165 (136 * i + j)) (y.1 163) ∧ (y.1 165 (136 * i)).toInt ≤ 9999
def KR (x y : qS) : Prop := ∃ m q : Nat, m ≤ 6 ∧ q < 6 ∧ x.1 0 5 = nI m ∧ y.1 163 3 = nI m ∧ x.1 0 6 = nI q ∧ ∀ i, i < m → KRi x y m q i
def TR (x y : qS) : Prop := (∃ n : Nat, n ≤ 400 ∧ x.1 67 1 = nI n ∧ y.1 163 14 = nI n ∧ ∀ i, i < n → ∃ c : Nat, c < 256 ∧ x.1 68 i = nI c ∧ y.1 168 i = nI c) ∧ x.1 66 0 = y.1 163 34 ∧ x.1 66 1 = y.1 163 35
def wdL : List Nat := [32, 98, 101, 97, 114, 32, 119, 97, 110, 116, 32, 99, 111, 117, 110, 116, 32, 119, 104, 101, 110, 32, 111, 114, 32, 97, 110, 100, 32, 110, 111, 116, 32, 119, 101, 101, 107, 32, 112, 97, 114, 116, 121, 32, 112, 108, 97, 99, 101, 32, 97, 103, 101, 32, 104, 97, 110, 103, 105, 110, 103, 32, 104, 117, 110, 103, 101, 114, 32, 116, 97, 115, 116, 101, 32, 106, 97, 109, 32, 115, 101, 97, 116, 115, 32, 101, 97, 116, 101, 114, 32, 98, 121, 32, 111, 110, 32, 112, 108, 97, 110, 116, 32, 97, 116, 32, 102, 101, 110, 99, 101, 32, 111, 112, 101, 110, 32, 98, 111, 105, 108, 32, 99, 104, 101, 101, 115, 101, 32]
def CS (x y : qS) : Prop := x.1 88 0 = nI 1 ∧ x.1 90 0 = nI 0 ∧ y.1 163 5 = nI 0 ∧ ∀ i, i < 129 → y.1 169 i = nI (wdL.getD i 0)
/-- the image, read as what it holds -/
def ld (im : Nat → Int32) : qX := fun c j =>
  if c = 164 then im j else if c = 163 then (if j = 6 then im 136 else if j = 7 then im 137 else if j = 8 then im 138 else if j = 9 then im 139 else if j = 10 then im 140 else if j = 11 then im 141 else if j = 36 then im 142 else if j = 38 then im 143 else im 144)
  else if c = 184 then im (145 + j) else if c = 178 then im (161 + j) else if c = 179 then im (251 + j) else if c = 167 then im (315 + j) else if c = 170 then im 915
  else if c = 171 then im (916 + 4 * j) else if c = 172 then im (917 + 4 * j) else if c = 173 then im (918 + 4 * j) else if c = 174 then im (919 + 4 * j) else if c = 175 then im (980 + 2 * j) else im (981 + 2 * j)
def PR (x y : qS) : Prop := (x.1 0 3 = nI 0 ∧ y.1 163 53 = nI 0) ∨ (x.1 0 3 = nI 1 ∧ y.1 163 53 = nI 1 ∧ RW 33 x.1 (ld (y.1 187)))
def Rel (x y : qS) : Prop := RW 1 x.1 y.1 ∧ KR x y ∧ TR x y ∧ CS x y ∧ PR x y
theorem KR.fr {x y x2 y2 : qS} (h : KR x y) (h5 : x2.1 0 5 = x.1 0 5) (h6 : x2.1 0 6 = x.1 0 6) (hx : ∀ c, 103 ≤ c → c < 163 → x2.1 c = x.1 c) (h3 : y2.1 163 3 = y.1 163 3) (hg : ∀ j, j = 6 ∨ j = 7 ∨ j = 8 ∨ j = 9 ∨ j = 10 ∨ j = 11 → y2.1 163 j = y.1 163 j) (hy : y2.1 165 = y.1 165) : KR x2 y2 := by
  obtain ⟨m, q, a1, a2, a3, a4, a5, a6⟩ := h
  refine ⟨m, q, a1, a2, by rw [h5]; exact a3, by rw [h3]; exact a4, by rw [h6]; exact a5, fun i hi => ?_⟩
  obtain ⟨b1, b2, b3⟩ := a6 i hi
  unfold KRi
  rw [hy]
  have hk : (q + 6 - m + i) % 6 < 6 := Nat.mod_lt _ (by omega)
  refine ⟨b1.mv (fun o s h1 _ => ?_) (fun _ _ => rfl) hg, b2.gr (hg 6 (by omega)) (hg 7 (by omega)), b3⟩
  rw [hx _ (by unfold q_kp; omega) (by unfold q_kp; omega)]
/-- nothing is kept any more -/
theorem KR.no {x2 y2 : qS} {q : Nat} (hq : q < 6) (h5 : x2.1 0 5 = nI 0) (h6 : x2.1 0 6 = nI q) (h3 : y2.1 163 3 = nI 0) : KR x2 y2 := ⟨0, q, by omega, hq, h5, h3, h6, fun i hi => by omega⟩
theorem TR.fr {x y x2 y2 : qS} (h : TR x y) (h1 : x2.1 67 1 = x.1 67 1) (h68 : x2.1 68 = x.1 68) (h66 : x2.1 66 = x.1 66) (h14 : y2.1 163 14 = y.1 163 14) (h34 : y2.1 163 34 = y.1 163 34) (h35 : y2.1 163 35 = y.1 163 35) (hy : y2.1 168 = y.1 168) : TR x2 y2 := by
  unfold TR
  rw [h1, h68, h66, h14, h34, h35, hy]; exact h
theorem CS.fr {x y x2 y2 : qS} (h : CS x y) (h1 : x2.1 88 0 = x.1 88 0) (h2 : x2.1 90 0 = x.1 90 0) (h3 : y2.1 163 5 = y.1 163 5) (hy : y2.1 169 = y.1 169) : CS x2 y2 := by
  unfold CS
  rw [h1, h2, h3, hy]; exact h
theorem PR.fr {x y x2 y2 : qS} (h : PR x y) (h1 : x2.1 0 3 = x.1 0 3) (h2 : ∀ c, 33 < c → c < 65 → c ≠ 49 → c ≠ 50 → x2.1 c = x.1 c) (h3 : y2.1 163 53 = y.1 163 53) (hy : y2.1 187 = y.1 187) : PR x2 y2 := by
  unfold PR
  rw [h1, h3, hy]
  rcases h with h | ⟨a, b, c⟩
  · exact Or.inl h
  · exact Or.inr ⟨a, b, c.mv (XP.of (fun c' a1 a2 a3 a4 => h2 c' a1 (by omega) a3 a4)) ZE.rfl'⟩
/-- only what a thought works with has changed -/
theorem Rel.th {x y x2 y2 : qS} (h : Rel x y) (hx : ∀ c, c ≠ 17 → c ≠ 18 → (c < 90 ∨ 102 ≤ c) → x2.1 c = x.1 c) (h90 : x2.1 90 0 = x.1 90 0) (h164 : ∀ j, j < 136 → y2.1 164 j = y.1 164 j) (hy : ∀ c, c ≠ 163 → c ≠ 164 → c ≠ 166 → (c < 180 ∨ 183 < c) → (c < 185 ∨ 186 < c) → y2.1 c = y.1 c) (hj : ∀ j, j ≠ 0 → (j < 42 ∨ 45 < j) → y2.1 163 j = y.1 163 j) : Rel x2 y2 := by
  obtain ⟨h1, h2, h3, h4, h5⟩ := h
  refine ⟨?_, ?_, ?_, ?_, ?_⟩
  · refine h1.mv (XP.of (fun c a b c1 c2 => hx c (by omega) (by omega) (by omega))) ⟨h164, fun j hj' => hj j (by unfold gsl at hj'; omega) (by unfold gsl at hj'; omega), fun i _ => by rw [hy 167 (by omega) (by omega) (by omega) (by omega) (by omega)], by rw [hy 170 (by omega) (by omega) (by omega) (by omega) (by omega)], fun c a b i _ => by rw [hy c (by omega) (by omega) (by omega) (by omega) (by omega)], fun c a b i _ => by rw [hy c (by omega) (by omega) (by omega) (by omega) (by omega)], fun j _ => by rw [hy 178 (by omega) (by omega) (by omega) (by omega) (by omega)], fun j _ => by rw [hy 179 (by omega) (by omega) (by omega) (by omega) (by omega)], fun j _ => by rw [hy 184 (by omega) (by omega) (by omega) (by omega) (by omega)]⟩
  · exact h2.fr (by rw [hx 0 (by omega) (by omega) (by omega)]) (by rw [hx 0 (by omega) (by omega) (by omega)]) (fun c a b => hx c (by omega) (by omega) (by omega)) (hj 3 (by omega) (by omega)) (fun j hj' => hj j (by omega) (by omega)) (hy 165 (by omega) (by omega) (by omega) (by omega) (by omega))
  · exact h3.fr (by rw [hx 67 (by omega) (by omega) (by omega)]) (hx 68 (by omega) (by omega) (by omega)) (hx 66 (by omega) (by omega) (by omega)) (hj 14 (by omega) (by omega)) (hj 34 (by omega) (by omega)) (hj 35 (by omega) (by omega)) (hy 168 (by omega) (by omega) (by omega) (by omega) (by omega))
  · exact h4.fr (by rw [hx 88 (by omega) (by omega) (by omega)]) h90 (hj 5 (by omega) (by omega)) (hy 169 (by omega) (by omega) (by omega) (by omega) (by omega))
  · exact h5.fr (by rw [hx 0 (by omega) (by omega) (by omega)]) (fun c a b _ _ => hx c (by omega) (by omega) (by omega)) (hj 53 (by omega) (by omega)) (hy 187 (by omega) (by omega) (by omega) (by omega) (by omega))
