/-! THE START: the state of both sides as the constructors leave it -/
def z_c (j : Nat) : Int32 := if j = 4 then 9 else if j = 5 then 4 else 0
def z_6 (j : Nat) : Int32 := if j = 1 then -1 else 0
def z_8 (j : Nat) : Int32 := if j = 0 then 1 else 0
def z_m (j : Nat) : Int32 := if j = 35 then -1 else 0
def z_w : List Int32 := [32, 98, 101, 97, 114, 32, 119, 97, 110, 116, 32, 99, 111, 117, 110, 116, 32, 119, 104, 101, 110, 32, 111, 114, 32, 97, 110, 100, 32, 110, 111, 116, 32, 119, 101, 101, 107, 32, 112, 97, 114, 116, 121, 32, 112, 108, 97, 99, 101, 32, 97, 103, 101, 32, 104, 97, 110, 103, 105, 110, 103, 32, 104, 117, 110, 103, 101, 114, 32, 116, 97, 115, 116, 101, 32, 106, 97, 109, 32, 115, 101, 97, 116, 115, 32, 101, 97, 116, 101, 114, 32, 98, 121, 32, 111, 110, 32, 112, 108, 97, 110, 116, 32, 97, 116, 32, 102, 101, 110, 99, 101, 32, 111, 112, 101, 110, 32, 98, 111, 105, 108, 32, 99, 104, 101, 101, 115, 101, 32]
def z_0 (k : Nat) : Nat → Int32 := if k = 2 ∨ k = 34 ∨ k = 92 ∨ k = 103 ∨ k = 113 ∨ k = 123 ∨ k = 133 ∨ k = 143 ∨ k = 153 then z_c else if k = 66 then z_6 else if k = 88 then z_8 else if k = 163 then z_m else if k = 169 then n_ar z_w else fun _ => 0
theorem z_zc {k : Nat} (h : k = 2 ∨ k = 34 ∨ k = 92 ∨ k = 103 ∨ k = 113 ∨ k = 123 ∨ k = 133 ∨ k = 143 ∨ k = 153) : z_0 k = z_c := by unfold z_0; rw [if_pos h]
theorem z_zz {k : Nat} (h : ¬ (k = 2 ∨ k = 34 ∨ k = 92 ∨ k = 103 ∨ k = 113 ∨ k = 123 ∨ k = 133 ∨ k = 143 ∨ k = 153) ∧ k ≠ 66 ∧ k ≠ 88 ∧ k ≠ 163 ∧ k ≠ 169) : z_0 k = fun _ => 0 := by unfold z_0; rw [if_neg h.1, if_neg h.2.1, if_neg h.2.2.1, if_neg h.2.2.2.1, if_neg h.2.2.2.2]
theorem z_z6 : z_0 66 = z_6 := by unfold z_0; rw [if_neg (by decide), if_pos rfl]
theorem z_z8 : z_0 88 = z_8 := by unfold z_0; rw [if_neg (by decide), if_neg (by decide), if_pos rfl]
theorem z_zm : z_0 163 = z_m := by unfold z_0; rw [if_neg (by decide), if_neg (by decide), if_neg (by decide), if_pos rfl]
theorem z_zw : z_0 169 = n_ar z_w := by unfold z_0; rw [if_neg (by decide), if_neg (by decide), if_neg (by decide), if_neg (by decide), if_pos rfl]
def z_ml (b : Nat) (f : Nat → Int32) : Nat → List (Option Nat) → List Value
  | _, [] => []
  | i, o :: t => q_fv b f i o :: z_ml b f (i + 1) t
theorem z_mle {b : Nat} {f : Nat → Int32} : ∀ (fl : List (Option Nat)) (i : Nat), fl.mapIdx (fun j => q_fv b f (i + j)) = z_ml b f i fl
  | [], _ => rfl
  | o :: t, i => by
    rw [List.mapIdx_cons, z_ml, ← z_mle t (i + 1)]
    congr 1
    congr 1
    funext j
    rw [show i + (j + 1) = i + 1 + j by omega]
def z_S : qS := (z_0, fun _ => 0)
def z_ok (G : qG) (b k : Nat) (e : va_E) : Prop := ∀ (d : qD) (H : Heap), q_sh[k]? = some d → va_at G.1 vwCl (b + k, e) H → va_at G.1 vwCl (b + k, q_en G b z_S k d) H
def z_bk (G : qG) (b o : Nat) (E : List va_E) : Prop := ∀ (k : Nat) (e : va_E), E[k]? = some e → z_ok G b (o + k) e
section ZS
variable {G : qG} {b : Nat}
theorem z_of {k : Nat} {e : va_E} (d : qD) (h : q_sh[k]? = some d) (h2 : q_en G b z_S k d = e) : z_ok G b k e := fun d' H hd ha => by
  have hq : d' = d := Option.some.inj (hd.symm.trans h)
  subst hq
  rw [h2]; exact ha
theorem z_ar {k n : Nat} (h : q_sh[k]? = some (.inr (0, n))) (h0 : ¬ (k = 2 ∨ k = 34 ∨ k = 92 ∨ k = 103 ∨ k = 113 ∨ k = 123 ∨ k = 133 ∨ k = 143 ∨ k = 153) ∧ k ≠ 66 ∧ k ≠ 88 ∧ k ≠ 163 ∧ k ≠ 169) : z_ok G b k (.inl (G.2.1, n, .inl (fun _ => 0))) := z_of _ h (by show Sum.inl (G.2.1, n, Sum.inl (z_0 k)) = _; rw [z_zz h0])
theorem z_ob {k ci : Nat} {fl : List (Option Nat)} {vs : List Value} (f : Nat → Int32) (h : q_sh[k]? = some (.inl (ci, fl))) (hf : z_0 k = f) (h2 : z_ml b f 0 fl = vs) : z_ok G b k (.inr (ci, vs)) := z_of _ h (by
  show Sum.inr (ci, fl.mapIdx (q_fv b (z_0 k))) = _
  rw [hf, ← h2, ← z_mle fl 0]
  congr 3
  funext j
  rw [Nat.zero_add])
theorem z_nil {o : Nat} : z_bk G b o [] := fun k e h => by simp at h
theorem z_cons {o : Nat} (o' : Nat) (ho : o + 1 = o') {e : va_E} {E : List va_E} (h : z_ok G b o e) (t : z_bk G b o' E) : z_bk G b o (e :: E) := fun k e' h' => by
  subst ho
  cases k with
  | zero => cases h'; exact h
  | succ k =>
    have h3 := t k e' h'
    rw [show o + 1 + k = o + (k + 1) by omega] at h3
    exact h3
theorem z_app {o : Nat} (n o' : Nat) (ho : o + n = o') {E F : List va_E} (hl : E.length = n) (h : z_bk G b o E) (t : z_bk G b o' F) : z_bk G b o (E ++ F) := fun k e he => by
  subst ho; subst hl
  rw [List.getElem?_append] at he
  by_cases hk : k < E.length
  · rw [if_pos hk] at he; exact h k e he
  · rw [if_neg hk] at he
    have h3 := t _ e he
    rw [show o + E.length + (k - E.length) = o + k by omega] at h3
    exact h3
theorem l_X0 {n : Nat} : (n_X0 G b n).length = 10 := by simp only [n_X0, List.length_cons, List.length_nil]
theorem l_X2 {n : Nat} : (n_X2 G b n).length = 7 := by simp only [n_X2, List.length_cons, List.length_nil]
theorem l_X4 {n : Nat} : (n_X4 G b n).length = 4 := by simp only [n_X4, List.length_cons, List.length_nil]
theorem l_X5 {n : Nat} : (n_X5 G b n).length = 5 := by simp only [n_X5, List.length_cons, List.length_nil]
theorem l_X1 {n : Nat} : (n_X1 G b n).length = 3 := by simp only [n_X1, List.length_cons, List.length_nil]
theorem l_X3 {n : Nat} : (n_X3 G b n).length = 2 := by simp only [n_X3, List.length_cons, List.length_nil]
theorem l_X8 {n : Nat} : (n_X8 G b n).length = 5 := by simp only [n_X8, List.length_cons, List.length_nil]
theorem l_X7 {n : Nat} {x : Int32} : (n_X7 G b n x).length = 2 := by simp only [n_X7, List.length_cons, List.length_nil]
theorem l_X9 {n : Nat} : (n_X9 G b n).length = 32 := by simp only [n_X9, List.length_append, List.length_cons, List.length_nil, l_X0, l_X1, l_X2, l_X3, l_X4, l_X5]
theorem l_X6 {n : Nat} : (n_X6 G b n).length = 22 := by simp only [n_X6, List.length_append, List.length_cons, List.length_nil, l_X8, l_X2, l_X4, l_X5]
theorem z_d0 : q_sh[0]? = some (.inl (10, [some 1, some 2, some 33, none, some 65, none, none, some 66, some 67, some 88, some 90, some 92, some 102])) := by decide +kernel
theorem z_d1 : q_sh[1]? = some (.inl (9, [some 2, some 12, some 19, some 23, some 28, some 31])) := by decide +kernel
theorem z_d2 : q_sh[2]? = some (.inl (0, [none, none, none, none, none, none, none, none, none, none, none, some 3, some 4, some 5, some 6, some 7, some 8, some 9, some 10, some 11])) := by decide +kernel
theorem z_d3 : q_sh[3]? = some (.inr (0, 5)) := by decide +kernel
theorem z_d4 : q_sh[4]? = some (.inr (0, 5)) := by decide +kernel
theorem z_d5 : q_sh[5]? = some (.inr (0, 5)) := by decide +kernel
theorem z_d6 : q_sh[6]? = some (.inr (0, 14)) := by decide +kernel
theorem z_d7 : q_sh[7]? = some (.inr (0, 14)) := by decide +kernel
theorem z_d8 : q_sh[8]? = some (.inr (0, 14)) := by decide +kernel
theorem z_d9 : q_sh[9]? = some (.inr (0, 14)) := by decide +kernel
theorem z_d10 : q_sh[10]? = some (.inr (0, 10)) := by decide +kernel
theorem z_d11 : q_sh[11]? = some (.inr (0, 50)) := by decide +kernel
theorem z_d12 : q_sh[12]? = some (.inl (2, [none, some 13, some 14, some 15, some 16, none, none, some 17, some 18])) := by decide +kernel
theorem z_d13 : q_sh[13]? = some (.inr (0, 16)) := by decide +kernel
theorem z_d14 : q_sh[14]? = some (.inr (0, 17)) := by decide +kernel
theorem z_d15 : q_sh[15]? = some (.inr (0, 16)) := by decide +kernel
theorem z_d16 : q_sh[16]? = some (.inr (0, 400)) := by decide +kernel
theorem z_d17 : q_sh[17]? = some (.inr (0, 32)) := by decide +kernel
theorem z_d18 : q_sh[18]? = some (.inr (0, 9)) := by decide +kernel
theorem z_d19 : q_sh[19]? = some (.inl (4, [none, some 20, some 21, some 22])) := by decide +kernel
theorem z_d20 : q_sh[20]? = some (.inr (0, 10)) := by decide +kernel
theorem z_d21 : q_sh[21]? = some (.inr (0, 80)) := by decide +kernel
theorem z_d22 : q_sh[22]? = some (.inr (0, 10)) := by decide +kernel
theorem z_d23 : q_sh[23]? = some (.inl (5, [none, some 24, some 25, some 26, some 27])) := by decide +kernel
theorem z_d24 : q_sh[24]? = some (.inr (0, 16)) := by decide +kernel
theorem z_d25 : q_sh[25]? = some (.inr (0, 16)) := by decide +kernel
theorem z_d26 : q_sh[26]? = some (.inr (0, 16)) := by decide +kernel
theorem z_d27 : q_sh[27]? = some (.inr (0, 16)) := by decide +kernel
theorem z_d28 : q_sh[28]? = some (.inl (1, [none, some 29, some 30])) := by decide +kernel
theorem z_d29 : q_sh[29]? = some (.inr (0, 8)) := by decide +kernel
theorem z_d30 : q_sh[30]? = some (.inr (0, 8)) := by decide +kernel
theorem z_d31 : q_sh[31]? = some (.inl (3, [some 32])) := by decide +kernel
theorem z_d32 : q_sh[32]? = some (.inr (0, 600)) := by decide +kernel
theorem z_d33 : q_sh[33]? = some (.inl (9, [some 34, some 44, some 51, some 55, some 60, some 63])) := by decide +kernel
theorem z_d34 : q_sh[34]? = some (.inl (0, [none, none, none, none, none, none, none, none, none, none, none, some 35, some 36, some 37, some 38, some 39, some 40, some 41, some 42, some 43])) := by decide +kernel
theorem z_d35 : q_sh[35]? = some (.inr (0, 5)) := by decide +kernel
theorem z_d36 : q_sh[36]? = some (.inr (0, 5)) := by decide +kernel
theorem z_d37 : q_sh[37]? = some (.inr (0, 5)) := by decide +kernel
theorem z_d38 : q_sh[38]? = some (.inr (0, 14)) := by decide +kernel
theorem z_d39 : q_sh[39]? = some (.inr (0, 14)) := by decide +kernel
theorem z_d40 : q_sh[40]? = some (.inr (0, 14)) := by decide +kernel
theorem z_d41 : q_sh[41]? = some (.inr (0, 14)) := by decide +kernel
theorem z_d42 : q_sh[42]? = some (.inr (0, 10)) := by decide +kernel
theorem z_d43 : q_sh[43]? = some (.inr (0, 50)) := by decide +kernel
theorem z_d44 : q_sh[44]? = some (.inl (2, [none, some 45, some 46, some 47, some 48, none, none, some 49, some 50])) := by decide +kernel
theorem z_d45 : q_sh[45]? = some (.inr (0, 16)) := by decide +kernel
theorem z_d46 : q_sh[46]? = some (.inr (0, 17)) := by decide +kernel
theorem z_d47 : q_sh[47]? = some (.inr (0, 16)) := by decide +kernel
theorem z_d48 : q_sh[48]? = some (.inr (0, 400)) := by decide +kernel
theorem z_d49 : q_sh[49]? = some (.inr (0, 32)) := by decide +kernel
theorem z_d50 : q_sh[50]? = some (.inr (0, 9)) := by decide +kernel
theorem z_d51 : q_sh[51]? = some (.inl (4, [none, some 52, some 53, some 54])) := by decide +kernel
theorem z_d52 : q_sh[52]? = some (.inr (0, 10)) := by decide +kernel
theorem z_d53 : q_sh[53]? = some (.inr (0, 80)) := by decide +kernel
theorem z_d54 : q_sh[54]? = some (.inr (0, 10)) := by decide +kernel
theorem z_d55 : q_sh[55]? = some (.inl (5, [none, some 56, some 57, some 58, some 59])) := by decide +kernel
theorem z_d56 : q_sh[56]? = some (.inr (0, 16)) := by decide +kernel
theorem z_d57 : q_sh[57]? = some (.inr (0, 16)) := by decide +kernel
theorem z_d58 : q_sh[58]? = some (.inr (0, 16)) := by decide +kernel
theorem z_d59 : q_sh[59]? = some (.inr (0, 16)) := by decide +kernel
theorem z_d60 : q_sh[60]? = some (.inl (1, [none, some 61, some 62])) := by decide +kernel
theorem z_d61 : q_sh[61]? = some (.inr (0, 8)) := by decide +kernel
theorem z_d62 : q_sh[62]? = some (.inr (0, 8)) := by decide +kernel
theorem z_d63 : q_sh[63]? = some (.inl (3, [some 64])) := by decide +kernel
theorem z_d64 : q_sh[64]? = some (.inr (0, 600)) := by decide +kernel
theorem z_d65 : q_sh[65]? = some (.inr (2, 6)) := by decide +kernel
theorem z_d66 : q_sh[66]? = some (.inl (6, [none, none, some 67, some 72, some 79, some 83, none, none, none])) := by decide +kernel
theorem z_d67 : q_sh[67]? = some (.inl (8, [some 68, none, some 69, some 70, some 71, none])) := by decide +kernel
theorem z_d68 : q_sh[68]? = some (.inr (0, 400)) := by decide +kernel
theorem z_d69 : q_sh[69]? = some (.inr (0, 401)) := by decide +kernel
theorem z_d70 : q_sh[70]? = some (.inr (0, 401)) := by decide +kernel
theorem z_d71 : q_sh[71]? = some (.inr (0, 401)) := by decide +kernel
theorem z_d72 : q_sh[72]? = some (.inl (2, [none, some 73, some 74, some 75, some 76, none, none, some 77, some 78])) := by decide +kernel
theorem z_d73 : q_sh[73]? = some (.inr (0, 16)) := by decide +kernel
theorem z_d74 : q_sh[74]? = some (.inr (0, 17)) := by decide +kernel
theorem z_d75 : q_sh[75]? = some (.inr (0, 16)) := by decide +kernel
theorem z_d76 : q_sh[76]? = some (.inr (0, 400)) := by decide +kernel
theorem z_d77 : q_sh[77]? = some (.inr (0, 32)) := by decide +kernel
theorem z_d78 : q_sh[78]? = some (.inr (0, 9)) := by decide +kernel
theorem z_d79 : q_sh[79]? = some (.inl (4, [none, some 80, some 81, some 82])) := by decide +kernel
theorem z_d80 : q_sh[80]? = some (.inr (0, 10)) := by decide +kernel
theorem z_d81 : q_sh[81]? = some (.inr (0, 80)) := by decide +kernel
theorem z_d82 : q_sh[82]? = some (.inr (0, 10)) := by decide +kernel
theorem z_d83 : q_sh[83]? = some (.inl (5, [none, some 84, some 85, some 86, some 87])) := by decide +kernel
theorem z_d84 : q_sh[84]? = some (.inr (0, 16)) := by decide +kernel
theorem z_d85 : q_sh[85]? = some (.inr (0, 16)) := by decide +kernel
theorem z_d86 : q_sh[86]? = some (.inr (0, 16)) := by decide +kernel
theorem z_d87 : q_sh[87]? = some (.inr (0, 16)) := by decide +kernel
theorem z_d88 : q_sh[88]? = some (.inl (7, [none, none, none, none, some 89])) := by decide +kernel
theorem z_d89 : q_sh[89]? = some (.inr (0, 5)) := by decide +kernel
theorem z_d90 : q_sh[90]? = some (.inl (7, [none, none, none, none, some 91])) := by decide +kernel
theorem z_d91 : q_sh[91]? = some (.inr (0, 5)) := by decide +kernel
theorem z_d92 : q_sh[92]? = some (.inl (0, [none, none, none, none, none, none, none, none, none, none, none, some 93, some 94, some 95, some 96, some 97, some 98, some 99, some 100, some 101])) := by decide +kernel
theorem z_d93 : q_sh[93]? = some (.inr (0, 5)) := by decide +kernel
theorem z_d94 : q_sh[94]? = some (.inr (0, 5)) := by decide +kernel
theorem z_d95 : q_sh[95]? = some (.inr (0, 5)) := by decide +kernel
theorem z_d96 : q_sh[96]? = some (.inr (0, 14)) := by decide +kernel
theorem z_d97 : q_sh[97]? = some (.inr (0, 14)) := by decide +kernel
theorem z_d98 : q_sh[98]? = some (.inr (0, 14)) := by decide +kernel
theorem z_d99 : q_sh[99]? = some (.inr (0, 14)) := by decide +kernel
theorem z_d100 : q_sh[100]? = some (.inr (0, 10)) := by decide +kernel
theorem z_d101 : q_sh[101]? = some (.inr (0, 50)) := by decide +kernel
theorem z_d102 : q_sh[102]? = some (.inr (1, 100)) := by decide +kernel
theorem z_d103 : q_sh[103]? = some (.inl (0, [none, none, none, none, none, none, none, none, none, none, none, some 104, some 105, some 106, some 107, some 108, some 109, some 110, some 111, some 112])) := by decide +kernel
theorem z_d104 : q_sh[104]? = some (.inr (0, 5)) := by decide +kernel
theorem z_d105 : q_sh[105]? = some (.inr (0, 5)) := by decide +kernel
theorem z_d106 : q_sh[106]? = some (.inr (0, 5)) := by decide +kernel
theorem z_d107 : q_sh[107]? = some (.inr (0, 14)) := by decide +kernel
theorem z_d108 : q_sh[108]? = some (.inr (0, 14)) := by decide +kernel
theorem z_d109 : q_sh[109]? = some (.inr (0, 14)) := by decide +kernel
theorem z_d110 : q_sh[110]? = some (.inr (0, 14)) := by decide +kernel
theorem z_d111 : q_sh[111]? = some (.inr (0, 10)) := by decide +kernel
theorem z_d112 : q_sh[112]? = some (.inr (0, 50)) := by decide +kernel
theorem z_d113 : q_sh[113]? = some (.inl (0, [none, none, none, none, none, none, none, none, none, none, none, some 114, some 115, some 116, some 117, some 118, some 119, some 120, some 121, some 122])) := by decide +kernel
theorem z_d114 : q_sh[114]? = some (.inr (0, 5)) := by decide +kernel
theorem z_d115 : q_sh[115]? = some (.inr (0, 5)) := by decide +kernel
theorem z_d116 : q_sh[116]? = some (.inr (0, 5)) := by decide +kernel
theorem z_d117 : q_sh[117]? = some (.inr (0, 14)) := by decide +kernel
theorem z_d118 : q_sh[118]? = some (.inr (0, 14)) := by decide +kernel
theorem z_d119 : q_sh[119]? = some (.inr (0, 14)) := by decide +kernel
theorem z_d120 : q_sh[120]? = some (.inr (0, 14)) := by decide +kernel
theorem z_d121 : q_sh[121]? = some (.inr (0, 10)) := by decide +kernel
theorem z_d122 : q_sh[122]? = some (.inr (0, 50)) := by decide +kernel
theorem z_d123 : q_sh[123]? = some (.inl (0, [none, none, none, none, none, none, none, none, none, none, none, some 124, some 125, some 126, some 127, some 128, some 129, some 130, some 131, some 132])) := by decide +kernel
theorem z_d124 : q_sh[124]? = some (.inr (0, 5)) := by decide +kernel
theorem z_d125 : q_sh[125]? = some (.inr (0, 5)) := by decide +kernel
theorem z_d126 : q_sh[126]? = some (.inr (0, 5)) := by decide +kernel
theorem z_d127 : q_sh[127]? = some (.inr (0, 14)) := by decide +kernel
theorem z_d128 : q_sh[128]? = some (.inr (0, 14)) := by decide +kernel
theorem z_d129 : q_sh[129]? = some (.inr (0, 14)) := by decide +kernel
theorem z_d130 : q_sh[130]? = some (.inr (0, 14)) := by decide +kernel
theorem z_d131 : q_sh[131]? = some (.inr (0, 10)) := by decide +kernel
theorem z_d132 : q_sh[132]? = some (.inr (0, 50)) := by decide +kernel
theorem z_d133 : q_sh[133]? = some (.inl (0, [none, none, none, none, none, none, none, none, none, none, none, some 134, some 135, some 136, some 137, some 138, some 139, some 140, some 141, some 142])) := by decide +kernel
theorem z_d134 : q_sh[134]? = some (.inr (0, 5)) := by decide +kernel
theorem z_d135 : q_sh[135]? = some (.inr (0, 5)) := by decide +kernel
theorem z_d136 : q_sh[136]? = some (.inr (0, 5)) := by decide +kernel
theorem z_d137 : q_sh[137]? = some (.inr (0, 14)) := by decide +kernel
theorem z_d138 : q_sh[138]? = some (.inr (0, 14)) := by decide +kernel
theorem z_d139 : q_sh[139]? = some (.inr (0, 14)) := by decide +kernel
theorem z_d140 : q_sh[140]? = some (.inr (0, 14)) := by decide +kernel
theorem z_d141 : q_sh[141]? = some (.inr (0, 10)) := by decide +kernel
theorem z_d142 : q_sh[142]? = some (.inr (0, 50)) := by decide +kernel
theorem z_d143 : q_sh[143]? = some (.inl (0, [none, none, none, none, none, none, none, none, none, none, none, some 144, some 145, some 146, some 147, some 148, some 149, some 150, some 151, some 152])) := by decide +kernel
theorem z_d144 : q_sh[144]? = some (.inr (0, 5)) := by decide +kernel
theorem z_d145 : q_sh[145]? = some (.inr (0, 5)) := by decide +kernel
theorem z_d146 : q_sh[146]? = some (.inr (0, 5)) := by decide +kernel
theorem z_d147 : q_sh[147]? = some (.inr (0, 14)) := by decide +kernel
theorem z_d148 : q_sh[148]? = some (.inr (0, 14)) := by decide +kernel
theorem z_d149 : q_sh[149]? = some (.inr (0, 14)) := by decide +kernel
theorem z_d150 : q_sh[150]? = some (.inr (0, 14)) := by decide +kernel
theorem z_d151 : q_sh[151]? = some (.inr (0, 10)) := by decide +kernel
theorem z_d152 : q_sh[152]? = some (.inr (0, 50)) := by decide +kernel
theorem z_d153 : q_sh[153]? = some (.inl (0, [none, none, none, none, none, none, none, none, none, none, none, some 154, some 155, some 156, some 157, some 158, some 159, some 160, some 161, some 162])) := by decide +kernel
theorem z_d154 : q_sh[154]? = some (.inr (0, 5)) := by decide +kernel
theorem z_d155 : q_sh[155]? = some (.inr (0, 5)) := by decide +kernel
theorem z_d156 : q_sh[156]? = some (.inr (0, 5)) := by decide +kernel
theorem z_d157 : q_sh[157]? = some (.inr (0, 14)) := by decide +kernel
theorem z_d158 : q_sh[158]? = some (.inr (0, 14)) := by decide +kernel
theorem z_d159 : q_sh[159]? = some (.inr (0, 14)) := by decide +kernel
theorem z_d160 : q_sh[160]? = some (.inr (0, 14)) := by decide +kernel
theorem z_d161 : q_sh[161]? = some (.inr (0, 10)) := by decide +kernel
theorem z_d162 : q_sh[162]? = some (.inr (0, 50)) := by decide +kernel
theorem z_d163 : q_sh[163]? = some (.inl (11, [none, some 164, some 165, none, some 166, none, none, none, none, none, none, none, some 167, some 168, none, none, none, none, none, some 169, some 170, some 171, some 172, some 173, some 174, some 175, some 176, none, none, none, some 177, none, none, none, none, none, none, some 178, none, some 179, some 180, some 181, none, none, none, none, some 182, some 183, none, some 184, some 185, some 186, none, none, none, some 187])) := by decide +kernel
theorem z_d164 : q_sh[164]? = some (.inr (0, 136)) := by decide +kernel
theorem z_d165 : q_sh[165]? = some (.inr (0, 816)) := by decide +kernel
theorem z_d166 : q_sh[166]? = some (.inr (0, 136)) := by decide +kernel
theorem z_d167 : q_sh[167]? = some (.inr (0, 600)) := by decide +kernel
theorem z_d168 : q_sh[168]? = some (.inr (0, 400)) := by decide +kernel
theorem z_d169 : q_sh[169]? = some (.inr (0, 129)) := by decide +kernel
theorem z_d170 : q_sh[170]? = some (.inr (0, 2)) := by decide +kernel
theorem z_d171 : q_sh[171]? = some (.inr (0, 48)) := by decide +kernel
theorem z_d172 : q_sh[172]? = some (.inr (0, 48)) := by decide +kernel
theorem z_d173 : q_sh[173]? = some (.inr (0, 48)) := by decide +kernel
theorem z_d174 : q_sh[174]? = some (.inr (0, 48)) := by decide +kernel
theorem z_d175 : q_sh[175]? = some (.inr (0, 1200)) := by decide +kernel
theorem z_d176 : q_sh[176]? = some (.inr (0, 1200)) := by decide +kernel
theorem z_d177 : q_sh[177]? = some (.inr (0, 40)) := by decide +kernel
theorem z_d178 : q_sh[178]? = some (.inr (0, 180)) := by decide +kernel
theorem z_d179 : q_sh[179]? = some (.inr (0, 128)) := by decide +kernel
theorem z_d180 : q_sh[180]? = some (.inr (0, 9)) := by decide +kernel
theorem z_d181 : q_sh[181]? = some (.inr (0, 420)) := by decide +kernel
theorem z_d182 : q_sh[182]? = some (.inr (0, 5)) := by decide +kernel
theorem z_d183 : q_sh[183]? = some (.inr (0, 5)) := by decide +kernel
theorem z_d184 : q_sh[184]? = some (.inr (0, 16)) := by decide +kernel
theorem z_d185 : q_sh[185]? = some (.inr (0, 100)) := by decide +kernel
theorem z_d186 : q_sh[186]? = some (.inr (0, 100)) := by decide +kernel
theorem z_d187 : q_sh[187]? = some (.inr (0, 1900)) := by decide +kernel
theorem z_b2_X0 : z_bk G b 2 (n_X0 G b 2) := by
  unfold n_X0
  exact z_cons 3 rfl (z_ob z_c z_d2 (z_zc (by decide)) rfl) (z_cons 4 rfl (z_ar z_d3 (by decide)) (z_cons 5 rfl (z_ar z_d4 (by decide)) (z_cons 6 rfl (z_ar z_d5 (by decide)) (z_cons 7 rfl (z_ar z_d6 (by decide)) (z_cons 8 rfl (z_ar z_d7 (by decide)) (z_cons 9 rfl (z_ar z_d8 (by decide)) (z_cons 10 rfl (z_ar z_d9 (by decide)) (z_cons 11 rfl (z_ar z_d10 (by decide)) (z_cons 12 rfl (z_ar z_d11 (by decide)) (z_nil))))))))))
theorem z_b12_X2 : z_bk G b 12 (n_X2 G b 12) := by
  unfold n_X2
  exact z_cons 13 rfl (z_ob _ z_d12 (z_zz (by decide)) rfl) (z_cons 14 rfl (z_ar z_d13 (by decide)) (z_cons 15 rfl (z_ar z_d14 (by decide)) (z_cons 16 rfl (z_ar z_d15 (by decide)) (z_cons 17 rfl (z_ar z_d16 (by decide)) (z_cons 18 rfl (z_ar z_d17 (by decide)) (z_cons 19 rfl (z_ar z_d18 (by decide)) (z_nil)))))))
theorem z_b19_X4 : z_bk G b 19 (n_X4 G b 19) := by
  unfold n_X4
  exact z_cons 20 rfl (z_ob _ z_d19 (z_zz (by decide)) rfl) (z_cons 21 rfl (z_ar z_d20 (by decide)) (z_cons 22 rfl (z_ar z_d21 (by decide)) (z_cons 23 rfl (z_ar z_d22 (by decide)) (z_nil))))
theorem z_b23_X5 : z_bk G b 23 (n_X5 G b 23) := by
  unfold n_X5
  exact z_cons 24 rfl (z_ob _ z_d23 (z_zz (by decide)) rfl) (z_cons 25 rfl (z_ar z_d24 (by decide)) (z_cons 26 rfl (z_ar z_d25 (by decide)) (z_cons 27 rfl (z_ar z_d26 (by decide)) (z_cons 28 rfl (z_ar z_d27 (by decide)) (z_nil)))))
theorem z_b28_X1 : z_bk G b 28 (n_X1 G b 28) := by
  unfold n_X1
  exact z_cons 29 rfl (z_ob _ z_d28 (z_zz (by decide)) rfl) (z_cons 30 rfl (z_ar z_d29 (by decide)) (z_cons 31 rfl (z_ar z_d30 (by decide)) (z_nil)))
theorem z_b31_X3 : z_bk G b 31 (n_X3 G b 31) := by
  unfold n_X3
  exact z_cons 32 rfl (z_ob _ z_d31 (z_zz (by decide)) rfl) (z_cons 33 rfl (z_ar z_d32 (by decide)) (z_nil))
theorem z_b1_X9 : z_bk G b 1 (n_X9 G b 1) := by
  unfold n_X9
  exact (z_app 30 31 rfl (by simp only [List.length_append, List.length_cons, List.length_nil, l_X0, l_X1, l_X2, l_X3, l_X4, l_X5, l_X6, l_X7, l_X8, l_X9]) ((z_app 27 28 rfl (by simp only [List.length_append, List.length_cons, List.length_nil, l_X0, l_X1, l_X2, l_X3, l_X4, l_X5, l_X6, l_X7, l_X8, l_X9]) ((z_app 22 23 rfl (by simp only [List.length_append, List.length_cons, List.length_nil, l_X0, l_X1, l_X2, l_X3, l_X4, l_X5, l_X6, l_X7, l_X8, l_X9]) ((z_app 18 19 rfl (by simp only [List.length_append, List.length_cons, List.length_nil, l_X0, l_X1, l_X2, l_X3, l_X4, l_X5, l_X6, l_X7, l_X8, l_X9]) ((z_app 11 12 rfl (by simp only [List.length_append, List.length_cons, List.length_nil, l_X0, l_X1, l_X2, l_X3, l_X4, l_X5, l_X6, l_X7, l_X8, l_X9]) ((z_app 1 2 rfl (by simp only [List.length_append, List.length_cons, List.length_nil, l_X0, l_X1, l_X2, l_X3, l_X4, l_X5, l_X6, l_X7, l_X8, l_X9]) ((z_cons 2 rfl (z_ob _ z_d1 (z_zz (by decide)) rfl) (z_nil))) z_b2_X0)) z_b12_X2)) z_b19_X4)) z_b23_X5)) z_b28_X1)) z_b31_X3)
theorem z_b34_X0 : z_bk G b 34 (n_X0 G b 34) := by
  unfold n_X0
  exact z_cons 35 rfl (z_ob z_c z_d34 (z_zc (by decide)) rfl) (z_cons 36 rfl (z_ar z_d35 (by decide)) (z_cons 37 rfl (z_ar z_d36 (by decide)) (z_cons 38 rfl (z_ar z_d37 (by decide)) (z_cons 39 rfl (z_ar z_d38 (by decide)) (z_cons 40 rfl (z_ar z_d39 (by decide)) (z_cons 41 rfl (z_ar z_d40 (by decide)) (z_cons 42 rfl (z_ar z_d41 (by decide)) (z_cons 43 rfl (z_ar z_d42 (by decide)) (z_cons 44 rfl (z_ar z_d43 (by decide)) (z_nil))))))))))
theorem z_b44_X2 : z_bk G b 44 (n_X2 G b 44) := by
  unfold n_X2
  exact z_cons 45 rfl (z_ob _ z_d44 (z_zz (by decide)) rfl) (z_cons 46 rfl (z_ar z_d45 (by decide)) (z_cons 47 rfl (z_ar z_d46 (by decide)) (z_cons 48 rfl (z_ar z_d47 (by decide)) (z_cons 49 rfl (z_ar z_d48 (by decide)) (z_cons 50 rfl (z_ar z_d49 (by decide)) (z_cons 51 rfl (z_ar z_d50 (by decide)) (z_nil)))))))
theorem z_b51_X4 : z_bk G b 51 (n_X4 G b 51) := by
  unfold n_X4
  exact z_cons 52 rfl (z_ob _ z_d51 (z_zz (by decide)) rfl) (z_cons 53 rfl (z_ar z_d52 (by decide)) (z_cons 54 rfl (z_ar z_d53 (by decide)) (z_cons 55 rfl (z_ar z_d54 (by decide)) (z_nil))))
theorem z_b55_X5 : z_bk G b 55 (n_X5 G b 55) := by
  unfold n_X5
  exact z_cons 56 rfl (z_ob _ z_d55 (z_zz (by decide)) rfl) (z_cons 57 rfl (z_ar z_d56 (by decide)) (z_cons 58 rfl (z_ar z_d57 (by decide)) (z_cons 59 rfl (z_ar z_d58 (by decide)) (z_cons 60 rfl (z_ar z_d59 (by decide)) (z_nil)))))
theorem z_b60_X1 : z_bk G b 60 (n_X1 G b 60) := by
  unfold n_X1
  exact z_cons 61 rfl (z_ob _ z_d60 (z_zz (by decide)) rfl) (z_cons 62 rfl (z_ar z_d61 (by decide)) (z_cons 63 rfl (z_ar z_d62 (by decide)) (z_nil)))
theorem z_b63_X3 : z_bk G b 63 (n_X3 G b 63) := by
  unfold n_X3
  exact z_cons 64 rfl (z_ob _ z_d63 (z_zz (by decide)) rfl) (z_cons 65 rfl (z_ar z_d64 (by decide)) (z_nil))
theorem z_b33_X9 : z_bk G b 33 (n_X9 G b 33) := by
  unfold n_X9
  exact (z_app 30 63 rfl (by simp only [List.length_append, List.length_cons, List.length_nil, l_X0, l_X1, l_X2, l_X3, l_X4, l_X5, l_X6, l_X7, l_X8, l_X9]) ((z_app 27 60 rfl (by simp only [List.length_append, List.length_cons, List.length_nil, l_X0, l_X1, l_X2, l_X3, l_X4, l_X5, l_X6, l_X7, l_X8, l_X9]) ((z_app 22 55 rfl (by simp only [List.length_append, List.length_cons, List.length_nil, l_X0, l_X1, l_X2, l_X3, l_X4, l_X5, l_X6, l_X7, l_X8, l_X9]) ((z_app 18 51 rfl (by simp only [List.length_append, List.length_cons, List.length_nil, l_X0, l_X1, l_X2, l_X3, l_X4, l_X5, l_X6, l_X7, l_X8, l_X9]) ((z_app 11 44 rfl (by simp only [List.length_append, List.length_cons, List.length_nil, l_X0, l_X1, l_X2, l_X3, l_X4, l_X5, l_X6, l_X7, l_X8, l_X9]) ((z_app 1 34 rfl (by simp only [List.length_append, List.length_cons, List.length_nil, l_X0, l_X1, l_X2, l_X3, l_X4, l_X5, l_X6, l_X7, l_X8, l_X9]) ((z_cons 34 rfl (z_ob _ z_d33 (z_zz (by decide)) rfl) (z_nil))) z_b34_X0)) z_b44_X2)) z_b51_X4)) z_b55_X5)) z_b60_X1)) z_b63_X3)
theorem z_c65 {f : Nat → Option Nat} (hf : ∀ i, i < 6 → f i = some (b + q_kp i)) : z_ok G b 65 (.inl (G.2.2.2, 6, .inr (.inr (.inr (.inr f))))) := fun d H hd ha => by
  have hq : d = _ := Option.some.inj (hd.symm.trans z_d65)
  subst hq
  show H[b + 65]? = some (vp_cell G.2.2.2 (6, .inr (.inr (.inr (.inr (fun i => some (b + q_kp i)))))))
  have ha' : H[b + 65]? = some (vp_cell G.2.2.2 (6, .inr (.inr (.inr (.inr f))))) := ha
  rw [ha', vp_cell_q, vp_cell_q]
  unfold arrV
  have e : (fun j : Fin 6 => va_rf (f j.val)) = fun j : Fin 6 => va_rf (some (b + q_kp j.val)) := funext fun j => by rw [hf j.val j.isLt]
  rw [e]

theorem z_b67_X8 : z_bk G b 67 (n_X8 G b 67) := by
  unfold n_X8
  exact z_cons 68 rfl (z_ob _ z_d67 (z_zz (by decide)) rfl) (z_cons 69 rfl (z_ar z_d68 (by decide)) (z_cons 70 rfl (z_ar z_d69 (by decide)) (z_cons 71 rfl (z_ar z_d70 (by decide)) (z_cons 72 rfl (z_ar z_d71 (by decide)) (z_nil)))))
theorem z_b72_X2 : z_bk G b 72 (n_X2 G b 72) := by
  unfold n_X2
  exact z_cons 73 rfl (z_ob _ z_d72 (z_zz (by decide)) rfl) (z_cons 74 rfl (z_ar z_d73 (by decide)) (z_cons 75 rfl (z_ar z_d74 (by decide)) (z_cons 76 rfl (z_ar z_d75 (by decide)) (z_cons 77 rfl (z_ar z_d76 (by decide)) (z_cons 78 rfl (z_ar z_d77 (by decide)) (z_cons 79 rfl (z_ar z_d78 (by decide)) (z_nil)))))))
theorem z_b79_X4 : z_bk G b 79 (n_X4 G b 79) := by
  unfold n_X4
  exact z_cons 80 rfl (z_ob _ z_d79 (z_zz (by decide)) rfl) (z_cons 81 rfl (z_ar z_d80 (by decide)) (z_cons 82 rfl (z_ar z_d81 (by decide)) (z_cons 83 rfl (z_ar z_d82 (by decide)) (z_nil))))
theorem z_b83_X5 : z_bk G b 83 (n_X5 G b 83) := by
  unfold n_X5
  exact z_cons 84 rfl (z_ob _ z_d83 (z_zz (by decide)) rfl) (z_cons 85 rfl (z_ar z_d84 (by decide)) (z_cons 86 rfl (z_ar z_d85 (by decide)) (z_cons 87 rfl (z_ar z_d86 (by decide)) (z_cons 88 rfl (z_ar z_d87 (by decide)) (z_nil)))))
theorem z_b66_X6 : z_bk G b 66 (n_X6 G b 66) := by
  unfold n_X6
  exact (z_app 17 83 rfl (by simp only [List.length_append, List.length_cons, List.length_nil, l_X0, l_X1, l_X2, l_X3, l_X4, l_X5, l_X6, l_X7, l_X8, l_X9]) ((z_app 13 79 rfl (by simp only [List.length_append, List.length_cons, List.length_nil, l_X0, l_X1, l_X2, l_X3, l_X4, l_X5, l_X6, l_X7, l_X8, l_X9]) ((z_app 6 72 rfl (by simp only [List.length_append, List.length_cons, List.length_nil, l_X0, l_X1, l_X2, l_X3, l_X4, l_X5, l_X6, l_X7, l_X8, l_X9]) ((z_app 1 67 rfl (by simp only [List.length_append, List.length_cons, List.length_nil, l_X0, l_X1, l_X2, l_X3, l_X4, l_X5, l_X6, l_X7, l_X8, l_X9]) ((z_cons 67 rfl (z_ob z_6 z_d66 z_z6 rfl) (z_nil))) z_b67_X8)) z_b72_X2)) z_b79_X4)) z_b83_X5)
theorem z_b88_X7 : z_bk G b 88 (n_X7 G b 88 (1 : Int32)) := by
  unfold n_X7
  exact z_cons 89 rfl (z_ob z_8 z_d88 z_z8 rfl) (z_cons 90 rfl (z_ar z_d89 (by decide)) (z_nil))
theorem z_b90_X7 : z_bk G b 90 (n_X7 G b 90 (0 : Int32)) := by
  unfold n_X7
  exact z_cons 91 rfl (z_ob _ z_d90 (z_zz (by decide)) rfl) (z_cons 92 rfl (z_ar z_d91 (by decide)) (z_nil))
theorem z_b92_X0 : z_bk G b 92 (n_X0 G b 92) := by
  unfold n_X0
  exact z_cons 93 rfl (z_ob z_c z_d92 (z_zc (by decide)) rfl) (z_cons 94 rfl (z_ar z_d93 (by decide)) (z_cons 95 rfl (z_ar z_d94 (by decide)) (z_cons 96 rfl (z_ar z_d95 (by decide)) (z_cons 97 rfl (z_ar z_d96 (by decide)) (z_cons 98 rfl (z_ar z_d97 (by decide)) (z_cons 99 rfl (z_ar z_d98 (by decide)) (z_cons 100 rfl (z_ar z_d99 (by decide)) (z_cons 101 rfl (z_ar z_d100 (by decide)) (z_cons 102 rfl (z_ar z_d101 (by decide)) (z_nil))))))))))
theorem z_b103_X0 : z_bk G b 103 (n_X0 G b 103) := by
  unfold n_X0
  exact z_cons 104 rfl (z_ob z_c z_d103 (z_zc (by decide)) rfl) (z_cons 105 rfl (z_ar z_d104 (by decide)) (z_cons 106 rfl (z_ar z_d105 (by decide)) (z_cons 107 rfl (z_ar z_d106 (by decide)) (z_cons 108 rfl (z_ar z_d107 (by decide)) (z_cons 109 rfl (z_ar z_d108 (by decide)) (z_cons 110 rfl (z_ar z_d109 (by decide)) (z_cons 111 rfl (z_ar z_d110 (by decide)) (z_cons 112 rfl (z_ar z_d111 (by decide)) (z_cons 113 rfl (z_ar z_d112 (by decide)) (z_nil))))))))))
theorem z_b113_X0 : z_bk G b 113 (n_X0 G b 113) := by
  unfold n_X0
  exact z_cons 114 rfl (z_ob z_c z_d113 (z_zc (by decide)) rfl) (z_cons 115 rfl (z_ar z_d114 (by decide)) (z_cons 116 rfl (z_ar z_d115 (by decide)) (z_cons 117 rfl (z_ar z_d116 (by decide)) (z_cons 118 rfl (z_ar z_d117 (by decide)) (z_cons 119 rfl (z_ar z_d118 (by decide)) (z_cons 120 rfl (z_ar z_d119 (by decide)) (z_cons 121 rfl (z_ar z_d120 (by decide)) (z_cons 122 rfl (z_ar z_d121 (by decide)) (z_cons 123 rfl (z_ar z_d122 (by decide)) (z_nil))))))))))
theorem z_b123_X0 : z_bk G b 123 (n_X0 G b 123) := by
  unfold n_X0
  exact z_cons 124 rfl (z_ob z_c z_d123 (z_zc (by decide)) rfl) (z_cons 125 rfl (z_ar z_d124 (by decide)) (z_cons 126 rfl (z_ar z_d125 (by decide)) (z_cons 127 rfl (z_ar z_d126 (by decide)) (z_cons 128 rfl (z_ar z_d127 (by decide)) (z_cons 129 rfl (z_ar z_d128 (by decide)) (z_cons 130 rfl (z_ar z_d129 (by decide)) (z_cons 131 rfl (z_ar z_d130 (by decide)) (z_cons 132 rfl (z_ar z_d131 (by decide)) (z_cons 133 rfl (z_ar z_d132 (by decide)) (z_nil))))))))))
theorem z_b133_X0 : z_bk G b 133 (n_X0 G b 133) := by
  unfold n_X0
  exact z_cons 134 rfl (z_ob z_c z_d133 (z_zc (by decide)) rfl) (z_cons 135 rfl (z_ar z_d134 (by decide)) (z_cons 136 rfl (z_ar z_d135 (by decide)) (z_cons 137 rfl (z_ar z_d136 (by decide)) (z_cons 138 rfl (z_ar z_d137 (by decide)) (z_cons 139 rfl (z_ar z_d138 (by decide)) (z_cons 140 rfl (z_ar z_d139 (by decide)) (z_cons 141 rfl (z_ar z_d140 (by decide)) (z_cons 142 rfl (z_ar z_d141 (by decide)) (z_cons 143 rfl (z_ar z_d142 (by decide)) (z_nil))))))))))
theorem z_b143_X0 : z_bk G b 143 (n_X0 G b 143) := by
  unfold n_X0
  exact z_cons 144 rfl (z_ob z_c z_d143 (z_zc (by decide)) rfl) (z_cons 145 rfl (z_ar z_d144 (by decide)) (z_cons 146 rfl (z_ar z_d145 (by decide)) (z_cons 147 rfl (z_ar z_d146 (by decide)) (z_cons 148 rfl (z_ar z_d147 (by decide)) (z_cons 149 rfl (z_ar z_d148 (by decide)) (z_cons 150 rfl (z_ar z_d149 (by decide)) (z_cons 151 rfl (z_ar z_d150 (by decide)) (z_cons 152 rfl (z_ar z_d151 (by decide)) (z_cons 153 rfl (z_ar z_d152 (by decide)) (z_nil))))))))))
theorem z_b153_X0 : z_bk G b 153 (n_X0 G b 153) := by
  unfold n_X0
  exact z_cons 154 rfl (z_ob z_c z_d153 (z_zc (by decide)) rfl) (z_cons 155 rfl (z_ar z_d154 (by decide)) (z_cons 156 rfl (z_ar z_d155 (by decide)) (z_cons 157 rfl (z_ar z_d156 (by decide)) (z_cons 158 rfl (z_ar z_d157 (by decide)) (z_cons 159 rfl (z_ar z_d158 (by decide)) (z_cons 160 rfl (z_ar z_d159 (by decide)) (z_cons 161 rfl (z_ar z_d160 (by decide)) (z_cons 162 rfl (z_ar z_d161 (by decide)) (z_cons 163 rfl (z_ar z_d162 (by decide)) (z_nil))))))))))
theorem z_kp {a : Nat} (i : Nat) (hi : i < 6) : va_up (va_up (va_up (va_up (va_up (va_up (fun _ => none) 0 (some (a + (0 + 103)))) 1 (some (a + (0 + 113)))) 2 (some (a + (0 + 123)))) 3 (some (a + (0 + 133)))) 4 (some (a + (0 + 143)))) 5 (some (a + (0 + 153))) i = some (a + q_kp i) := by
  match i, hi with
  | 0, _ => rfl
  | 1, _ => rfl
  | 2, _ => rfl
  | 3, _ => rfl
  | 4, _ => rfl
  | 5, _ => rfl
theorem z_bX10 : z_bk G b 0 (n_X10 G b 0) := by
  unfold n_X10
  exact (z_app 153 153 rfl (by simp only [List.length_append, List.length_cons, List.length_nil, l_X0, l_X1, l_X2, l_X3, l_X4, l_X5, l_X6, l_X7, l_X8, l_X9]) (z_app 143 143 rfl (by simp only [List.length_append, List.length_cons, List.length_nil, l_X0, l_X1, l_X2, l_X3, l_X4, l_X5, l_X6, l_X7, l_X8, l_X9]) (z_app 133 133 rfl (by simp only [List.length_append, List.length_cons, List.length_nil, l_X0, l_X1, l_X2, l_X3, l_X4, l_X5, l_X6, l_X7, l_X8, l_X9]) (z_app 123 123 rfl (by simp only [List.length_append, List.length_cons, List.length_nil, l_X0, l_X1, l_X2, l_X3, l_X4, l_X5, l_X6, l_X7, l_X8, l_X9]) (z_app 113 113 rfl (by simp only [List.length_append, List.length_cons, List.length_nil, l_X0, l_X1, l_X2, l_X3, l_X4, l_X5, l_X6, l_X7, l_X8, l_X9]) (z_app 103 103 rfl (by simp only [List.length_append, List.length_cons, List.length_nil, l_X0, l_X1, l_X2, l_X3, l_X4, l_X5, l_X6, l_X7, l_X8, l_X9]) (z_app 102 102 rfl (by simp only [List.length_append, List.length_cons, List.length_nil, l_X0, l_X1, l_X2, l_X3, l_X4, l_X5, l_X6, l_X7, l_X8, l_X9]) (z_app 92 92 rfl (by simp only [List.length_append, List.length_cons, List.length_nil, l_X0, l_X1, l_X2, l_X3, l_X4, l_X5, l_X6, l_X7, l_X8, l_X9]) (z_app 90 90 rfl (by simp only [List.length_append, List.length_cons, List.length_nil, l_X0, l_X1, l_X2, l_X3, l_X4, l_X5, l_X6, l_X7, l_X8, l_X9]) (z_app 88 88 rfl (by simp only [List.length_append, List.length_cons, List.length_nil, l_X0, l_X1, l_X2, l_X3, l_X4, l_X5, l_X6, l_X7, l_X8, l_X9]) (z_app 66 66 rfl (by simp only [List.length_append, List.length_cons, List.length_nil, l_X0, l_X1, l_X2, l_X3, l_X4, l_X5, l_X6, l_X7, l_X8, l_X9]) (z_app 65 65 rfl (by simp only [List.length_append, List.length_cons, List.length_nil, l_X0, l_X1, l_X2, l_X3, l_X4, l_X5, l_X6, l_X7, l_X8, l_X9]) (z_app 33 33 rfl (by simp only [List.length_append, List.length_cons, List.length_nil, l_X0, l_X1, l_X2, l_X3, l_X4, l_X5, l_X6, l_X7, l_X8, l_X9]) (z_app 1 1 rfl (by simp only [List.length_append, List.length_cons, List.length_nil, l_X0, l_X1, l_X2, l_X3, l_X4, l_X5, l_X6, l_X7, l_X8, l_X9]) (z_cons 1 rfl (z_ob _ z_d0 (z_zz (by decide)) rfl) (z_nil)) z_b1_X9) z_b33_X9) (z_cons 66 rfl (z_c65 fun i hi => z_kp i hi) z_nil)) z_b66_X6) z_b88_X7) z_b90_X7) z_b92_X0) (z_cons 103 rfl (z_of _ z_d102 rfl) z_nil)) z_b103_X0) z_b113_X0) z_b123_X0) z_b133_X0) z_b143_X0) z_b153_X0)
theorem z_bX11 : z_bk G b 163 (n_X11 G b 163) := by
  unfold n_X11
  exact z_cons 164 rfl (z_ob z_m z_d163 z_zm rfl) (z_cons 165 rfl (z_ar z_d164 (by decide)) (z_cons 166 rfl (z_ar z_d165 (by decide)) (z_cons 167 rfl (z_ar z_d166 (by decide)) (z_cons 168 rfl (z_ar z_d167 (by decide)) (z_cons 169 rfl (z_ar z_d168 (by decide)) (z_cons 170 rfl (z_of _ z_d169 (by show Sum.inl (G.2.1, 129, Sum.inl (z_0 169)) = _; rw [z_zw]; rfl)) (z_cons 171 rfl (z_ar z_d170 (by decide)) (z_cons 172 rfl (z_ar z_d171 (by decide)) (z_cons 173 rfl (z_ar z_d172 (by decide)) (z_cons 174 rfl (z_ar z_d173 (by decide)) (z_cons 175 rfl (z_ar z_d174 (by decide)) (z_cons 176 rfl (z_ar z_d175 (by decide)) (z_cons 177 rfl (z_ar z_d176 (by decide)) (z_cons 178 rfl (z_ar z_d177 (by decide)) (z_cons 179 rfl (z_ar z_d178 (by decide)) (z_cons 180 rfl (z_ar z_d179 (by decide)) (z_cons 181 rfl (z_ar z_d180 (by decide)) (z_cons 182 rfl (z_ar z_d181 (by decide)) (z_cons 183 rfl (z_ar z_d182 (by decide)) (z_cons 184 rfl (z_ar z_d183 (by decide)) (z_cons 185 rfl (z_ar z_d184 (by decide)) (z_cons 186 rfl (z_ar z_d185 (by decide)) (z_cons 187 rfl (z_ar z_d186 (by decide)) (z_cons 188 rfl (z_ar z_d187 (by decide)) (z_nil)))))))))))))))))))))))))
theorem z_len : (n_X10 G b 0).length = 163 := by
  simp only [n_X10, n_X9, n_X6, n_X0, n_X1, n_X2, n_X3, n_X4, n_X5, n_X7, n_X8, List.length_append, List.length_cons, List.length_nil]
theorem z_all : z_bk G b 0 (n_X10 G b 0 ++ n_X11 G b 163) := z_app 163 163 rfl z_len z_bX10 z_bX11
theorem z_len2 : (n_X10 G b 0 ++ n_X11 G b 163).length = 188 := by
  rw [List.length_append, z_len]; rfl
theorem z_P {H : Heap} (h : n_P G b (n_X10 G b 0 ++ n_X11 G b 163) H) : q_P G b z_S H := by
  intro k q hq
  rw [q_wl, List.getElem?_mapIdx] at hq
  obtain ⟨d, hd, rfl⟩ := Option.map_eq_some_iff.mp hq
  have hk : k < (n_X10 G b 0 ++ n_X11 G b 163).length := by
    rw [z_len2]; exact (List.getElem?_eq_some_iff.mp hd).1
  obtain ⟨e, he⟩ : ∃ e, (n_X10 G b 0 ++ n_X11 G b 163)[k]? = some e := ⟨_, List.getElem?_eq_getElem hk⟩
  have h1 := z_all k e he d H (by rw [Nat.zero_add]; exact hd)
  rw [Nat.zero_add] at h1
  exact h1 (h.1 k _ (n_get he))
end ZS
