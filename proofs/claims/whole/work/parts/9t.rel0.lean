/-! THE START: both sides stand in the relation -/
theorem z_n {k : Nat} (h : ¬ (k = 2 ∨ k = 34 ∨ k = 92 ∨ k = 103 ∨ k = 113 ∨ k = 123 ∨ k = 133 ∨ k = 143 ∨ k = 153) ∧ k ≠ 66 ∧ k ≠ 88 ∧ k ≠ 163 ∧ k ≠ 169) (j : Nat) : z_0 k j = nI 0 := by
  rw [z_zz h]; rfl
theorem z_m0 {j : Nat} (h : j ≠ 35) : z_0 163 j = nI 0 := by rw [z_zm]; unfold z_m; rw [if_neg h]; rfl
theorem z_RC1 : ∀ j, j < 86 → z_0 (2 + cC j) (cS j) = nI 0 := by decide +kernel
theorem z_BC1 : ∀ j, j < 136 → bLo j ≤ 0 ∧ 0 ≤ bHi j := by decide +kernel
theorem z_wd : ∀ i, i < 129 → n_ar z_w i = nI (wdL.getD i 0) := by decide +kernel
theorem z_t0 : (nI 0).toInt = 0 := by decide +kernel
theorem z_rel : Rel z_S z_S := by
  have a164 := fun j => z_n (k := 164) (by decide) j
  refine ⟨⟨⟨?_, ?_, ?_, ?_, ?_, ?_, ?_, ?_⟩, ⟨?_, ?_, ?_, ?_⟩, ?_, ?_, ?_, ?_, ?_, ?_, ?_⟩, ?_, ?_, ?_, ?_⟩
  · intro j hj; show z_0 (2 + cC j) (cS j) = z_0 164 j; rw [z_RC1 j hj, a164]
  · intro i hi he
    have he' : (i : Int) < 5 * (z_0 163 7).toInt := he
    rw [z_m0 (by decide), z_t0] at he'; omega
  · show z_0 2 2 = z_0 163 8; rw [z_m0 (by decide)]; decide +kernel
  · show z_0 2 3 = z_0 163 9; rw [z_m0 (by decide)]; decide +kernel
  · show z_0 2 4 = z_0 163 10 + nI 9; rw [z_m0 (by decide)]; decide +kernel
  · show z_0 2 5 = z_0 163 11 + nI 4; rw [z_m0 (by decide)]; decide +kernel
  · show z_0 2 7 = z_0 163 6; rw [z_m0 (by decide)]; decide +kernel
  · show z_0 2 9 = z_0 163 7; rw [z_m0 (by decide)]; decide +kernel
  · intro j hj; show _ ≤ (z_0 164 j).toInt ∧ (z_0 164 j).toInt ≤ _; rw [a164, z_t0]; exact z_BC1 j hj
  · intro t ht
    have ht' : (t : Int) < (z_0 164 4).toInt := ht
    rw [a164, z_t0] at ht'; omega
  · intro p _ _; exact ⟨a164 (5 + p), a164 (10 + p)⟩
  · intro i _ _; exact a164 (86 + i)
  · show (z_0 164 0).toInt ≤ 9999; rw [a164, z_t0]; decide
  · show BG (z_0 163)
    unfold BG
    rw [z_m0 (j := 6) (by decide), z_m0 (j := 7) (by decide), z_m0 (j := 8) (by decide), z_m0 (j := 9) (by decide), z_m0 (j := 10) (by decide), z_m0 (j := 11) (by decide), z_t0]; decide
  · exact ⟨0, by omega, z_n (k := 12) (by decide) 0, z_n (k := 170) (by decide) 0, Or.inl (z_n (k := 12) (by decide) 6), fun i hi => absurd hi (by omega)⟩
  · refine ⟨?_, fun e he => ⟨0, by omega, z_n (k := 20) (by decide) e, z_n (k := 178) (by decide) (9 * e), fun i hi => absurd hi (by omega), ?_⟩⟩
    · show z_0 19 0 = z_0 163 36; rw [z_m0 (by decide)]; exact z_n (k := 19) (by decide) 0
    · show z_0 22 e = _; rw [z_n (k := 22) (by decide)]; rfl
  · exact ⟨0, by omega, z_n (k := 23) (by decide) 0, z_m0 (j := 38) (by decide), fun i hi => absurd hi (by omega)⟩
  · exact ⟨0, by omega, z_n (k := 28) (by decide) 0, z_m0 (j := 48) (by decide), fun i hi => absurd hi (by omega)⟩
  · intro i _; show z_0 32 i = z_0 167 i; rw [z_n (k := 32) (by decide), z_n (k := 167) (by decide)]
  · exact ⟨0, 0, by omega, by omega, z_n (k := 0) (by decide) 5, z_m0 (j := 3) (by decide), z_n (k := 0) (by decide) 6, fun i hi => absurd hi (by omega)⟩
  · refine ⟨⟨0, by omega, z_n (k := 67) (by decide) 1, z_m0 (j := 14) (by decide), fun i hi => absurd hi (by omega)⟩, ?_, ?_⟩
    · show z_0 66 0 = z_0 163 34; rw [z_m0 (by decide)]; decide +kernel
    · show z_0 66 1 = z_0 163 35; decide +kernel
  · refine ⟨?_, z_n (k := 90) (by decide) 0, z_m0 (j := 5) (by decide), fun i hi => ?_⟩
    · show z_0 88 0 = nI 1; decide +kernel
    · show z_0 169 i = _; rw [z_zw]; exact z_wd i hi
  · exact Or.inl ⟨z_n (k := 0) (by decide) 3, z_m0 (j := 53) (by decide)⟩
