/-! STRINGS: the JDK's own members over the String constants -/
def q_sln (i : Nat) : Int32 := Int32.ofNat (q_slen.getD i 0)
def q_chv (i j : Nat) : Int32 := ((((q_sbyt.getD i []).getD j 0) &&& 255).toUInt32 % 65536).toInt32
def q_sch (i : Nat) (x : Int32) : Option Int32 := if 0 ≤ x.toInt ∧ x.toInt < (q_slen.getD i 0 : Nat) then some (q_chv i x.toInt.toNat) else none
theorem q_slen_ok : ∀ i, i < q_sn → (q_sln i).toInt = ((q_slen.getD i 0 : Nat) : Int) ∧ q_sln i >>> ((0 : Int32) &&& 31) = q_sln i := by decide +kernel
theorem mf_str_len : q_Mf RJ0 yJ0_length_8abf5 cJ0_length_8abf5 1 (some .int) 0 := ⟨t_721, t_722, t_15, t_723, by decide +kernel, by decide⟩
theorem mf_str_cod : q_Mf RJ0 yJ0_coder_7d493 cJ0_coder_7d493 1 (some .byte) 0 := ⟨t_725, t_726, t_15, t_727, by decide +kernel, by decide⟩
theorem mf_str_lat : q_Mf RJ0 yJ0_isLatin1_aae02 cJ0_isLatin1_aae02 1 (some .boolean) 0 := ⟨t_735, t_736, t_15, t_737, by decide +kernel, by decide⟩
theorem mf_str_ch : q_Mf RJ0 yJ0_charAt_5068e cJ0_charAt_5068e 2 (some .char) 1 := ⟨t_731, t_732, t_15, t_733, by decide +kernel, by decide⟩
theorem mf_str_ci : q_Ms yJ0_checkIndex_df160 cJ0_checkIndex_df160 2 none 2 := ⟨t_742, t_15, t_743, by decide +kernel, by decide⟩
theorem mf_str_l1 : q_Ms yJ1_charAt_3b067 cJ1_charAt_3b067 2 (some .char) 2 := ⟨t_739, t_16, t_740, by decide +kernel, by decide⟩
theorem mf_str_pr : q_Ms yJ3_checkIndex_8e157 cJ3_checkIndex_8e157 3 (some .int) 3 := ⟨t_747, t_17, t_748, by decide +kernel, by decide⟩
section Rows
variable {own : String} {cc : ByteArray} {nL : Nat} {ret : Option FieldType} {d : Nat} {ι : qI} {b pc : Nat} {lv : List (Nat × Value)} {st : List Value} {u : qS} {M : qR}
theorem sw_i2c {x : Int32} (hd : decode cc pc = .ok (.i2c, 1)) (h : SW own cc nL ret d ι b (pc + 1) lv (.int (x.toUInt32 % 65536).toInt32 :: st) u M) : SW own cc nL ret d ι b pc lv (.int x :: st) u M := SW.st1 (fun hx hb _ k => lv_i2c hx hb hd rfl k) h
theorem sw_tret {v : Int32} {ty : FieldType} (hn : narrow ty (.int v) = .int v) (hd : decode cc pc = .ok (.ireturn, 1)) : SW own cc nL (some ty) d ι b pc lv [.int v] u (some (v, u)) :=
  fun hM p l e s m args below meth c H locs ls G hC hP hS hl => W.zret hC.1 hC.2.1 hC.2.2.2.1 hn (fun t ht hW => ⟨⟨v, u, rfl, rfl, by show q_P _ _ _ _; rw [ht]; exact hP⟩, hS.F ht⟩) hS.2.2 hd hC.2.2.2.2.2.2.1
theorem sw_compact {idx : Nat} (hd : decode cc pc = .ok (.getstatic idx, 3)) (hlk : Cond.fieldLink own idx "java/lang/String" "COMPACT_STRINGS" "Z" ∈ q_TT) (h : SW own cc nL ret d ι b (pc + 3) lv (.int 1 :: st) u M) : SW own cc nL ret d ι b pc lv st u M :=
  fun hM p l e s m args below meth c H locs ls G hC hP hS hl => va_gets hC.1 hC.2.1 hC.2.2.2.2.2.2.2.2.2.1 hS hC.2.2.2.2.1 (hC.2.2.2.2.2.1 _ hlk) (fun _ h => h) hd (h hM p l e s m args below meth c H locs ls G hC hP hS hl)
theorem sw_sioobe {idx : Nat} (hd : decode cc pc = .ok (.getstatic idx, 3)) (hlk : Cond.fieldLink own idx "jdk/internal/util/Preconditions" "SIOOBE_FORMATTER" "Ljava/util/function/BiFunction;" ∈ q_TT) (h : ∀ v : Value, (v = .null ∨ ∃ f, v = .ref f) → SW own cc nL ret d ι b (pc + 3) lv (v :: st) u M) : SW own cc nL ret d ι b pc lv st u M := by
  intro hM p l e s m args below meth c H locs ls G hC hP hS hl
  rcases hC.2.2.2.2.2.2.2.2.2.2.1 with hZ | ⟨t, hZ⟩
  · exact va_gets hC.1 hC.2.1 hZ hS hC.2.2.2.2.1 (hC.2.2.2.2.2.1 _ hlk) (fun _ h => h) hd (h _ (Or.inl rfl) hM p l e s m args below meth c H locs ls G hC hP hS hl)
  · exact va_gets hC.1 hC.2.1 hZ hS hC.2.2.2.2.1 (hC.2.2.2.2.2.1 _ hlk) (fun _ h => h) hd (h _ (Or.inr ⟨_, rfl⟩) hM p l e s m args below meth c H locs ls G hC hP hS hl)
theorem sw_scoder {idx i : Nat} (hi : i < q_sn) (hd : decode cc pc = .ok (.getfield idx, 3)) (hlk : Cond.fieldLink own idx "java/lang/String" "coder" "B" ∈ q_TT) (h : SW own cc nL ret d ι b (pc + 3) lv (.int 0 :: st) u M) : SW own cc nL ret d ι b pc lv (.ref (ι.2.1 i) :: st) u M :=
  fun hM p l e s m args below meth c H locs ls G hC hP hS hl => vk_getf hC.1 hC.2.1 (hC.2.2.2.2.2.2.2.2.1.1 i hi).2.1 hS hC.2.2.2.2.1 (hC.2.2.2.2.2.1 _ hlk) (fun _ h => h) hd (h hM p l e s m args below meth c H locs ls G hC hP hS hl)
theorem sw_svalue {idx i : Nat} (hi : i < q_sn) (hd : decode cc pc = .ok (.getfield idx, 3)) (hlk : Cond.fieldLink own idx "java/lang/String" "value" "[B" ∈ q_TT) (h : SW own cc nL ret d ι b (pc + 3) lv (.ref (ι.2.2 i) :: st) u M) : SW own cc nL ret d ι b pc lv (.ref (ι.2.1 i) :: st) u M :=
  fun hM p l e s m args below meth c H locs ls G hC hP hS hl => vk_getf hC.1 hC.2.1 (hC.2.2.2.2.2.2.2.2.1.1 i hi).2.2.1 hS hC.2.2.2.2.1 (hC.2.2.2.2.2.1 _ hlk) (fun _ h => h) hd (h hM p l e s m args below meth c H locs ls G hC hP hS hl)
theorem sw_sblen {i : Nat} (hi : i < q_sn) (hd : decode cc pc = .ok (.arraylength, 1)) (h : SW own cc nL ret d ι b (pc + 1) lv (.int (q_sln i) :: st) u M) : SW own cc nL ret d ι b pc lv (.ref (ι.2.2 i) :: st) u M :=
  fun hM p l e s m args below meth c H locs ls G hC hP hS hl => va_tlen hC.1 hC.2.1 (hC.2.2.2.2.2.2.2.2.1.1 i hi).2.2.2 hS rfl hd (h hM p l e s m args below meth c H locs ls G hC hP hS hl)
theorem sw_sbald {i : Nat} {x : Int32} (hi : i < q_sn) (hin : 0 ≤ x.toInt ∧ x.toInt < (q_slen.getD i 0 : Nat)) (hd : decode cc pc = .ok (.baload, 1)) (h : SW own cc nL ret d ι b (pc + 1) lv (.int ((q_sbyt.getD i []).getD x.toInt.toNat 0) :: st) u M) : SW own cc nL ret d ι b pc lv (.int x :: .ref (ι.2.2 i) :: st) u M :=
  fun hM p l e s m args below meth c H locs ls G hC hP hS hl => va_tb hC.1 hC.2.1 (hC.2.2.2.2.2.2.2.2.1.1 i hi).2.2.2 hS (vp_in_iff.mpr hin) rfl hd (h hM p l e s m args below meth c H locs ls G hC hP hS hl)
theorem sw_ldcS {idx i : Nat} (hi : i < q_sn) (ho : q_sown i = own) (hx : q_sidx i = idx) (hd : decode cc pc = .ok (.ldc idx, 2)) (h : SW own cc nL ret d ι b (pc + 2) lv (.ref (ι.2.1 i) :: st) u M) : SW own cc nL ret d ι b pc lv st u M :=
  fun hM p l e s m args below meth c H locs ls G hC hP hS hl => va_ldcS hC.1 hC.2.1 hC.2.2.2.2.1 (by have := hC.2.2.2.2.2.2.2.2.2.2.2 i hi; rw [ho, hx] at this; exact this) hd (h hM p l e s m args below meth c H locs ls G hC hP hS hl)
theorem sw_callVs {y : MethodName} {cy : ByteArray} {ny : Nat} {ty : FieldType} {d' idx i : Nat} {As st0 : List Value} {Mc : qR} {K : Int32 → qS → qR} (hi : i < q_sn)
    (hst : st0 = As.reverse ++ .ref (ι.2.1 i) :: st) (hd : decode cc pc = .ok (.invokevirtual idx, 3)) (hm : Cond.methodLink own idx y ∈ q_TT) (hf : q_Mf RJ0 y cy ny (some ty) As.length) (hr : d' + 1 ≤ d) (hrm : (st.map fun v => v.category).sum ≤ 8) (hcn : ∀ l, CN l y cy ny (some ty) d' ι b (.ref (ι.2.1 i) :: As) u Mc)
    (h : ∀ r u', Mc = some (r, u') → SW own cc nL ret d ι b (pc + 3) lv (.int r :: st) u' (K r u')) : SW own cc nL ret d ι b pc lv st0 u (q_bd Mc K) := by
  intro hM p l e s m args below meth c H locs ls G hC hP hS hl
  have hC0 := hC
  obtain ⟨hx, hb, hml, hr0, hown, hts, hlk, hK, hWs⟩ := hC
  refine va_calli (va_runV (As := As) (rest := st) ⟨hx, hb, hml, hown, hts⟩ (hcn l (q_bd_ne hM) G) (cwV As.length hts (q_gV hm hf) rfl rfl rfl hf.2.2.2.2.1 (q_room hr hf.2.2.2.2.2)) ⟨q_blind, vk_recv hWs.1 hi hS, fun U hU hW => ⟨rfl, hK.warm hW, hWs.warm hW hS hU, by rw [hU]; exact hP⟩⟩ rfl rfl hl.1 hst (lv_room hrm) hd ⟨Nat.le_refl _, Nat.le_refl _⟩) hS (fun q _ h => h) (fun q h => h) (fun r u' t H1 locs ht hvm hw hB hz1 hk1 hS => ?_)
  have e1 : q_bd Mc K = K r u' := by rw [hw]; rfl
  rw [e1] at hM ⊢
  have hP1 : q_P G b (ι.1 u') H1 := by rw [← ht]; exact hB
  exact h r u' hw hM p l e s m args below meth c H1 locs ls G hC0 hP1 hS hl
theorem sw_callSv {y : MethodName} {cy : ByteArray} {ny : Nat} {d' idx : Nat} {As st0 : List Value} {Mc : qR} {K : Int32 → qS → qR}
    (hst : st0 = As.reverse ++ st) (hd : decode cc pc = .ok (.invokestatic idx, 3)) (hm : Cond.methodLink own idx y ∈ q_TT) (hf : q_Ms y cy ny none As.length) (hr : d' + 1 ≤ d) (hrm : (st.map fun v => v.category).sum ≤ 8) (hcn : ∀ l, CN l y cy ny none d' ι b As u Mc)
    (h : ∀ r u', SW own cc nL ret d ι b (pc + 3) lv st u' (K r u')) : SW own cc nL ret d ι b pc lv st0 u (q_bd Mc K) := by
  intro hM p l e s m args below meth c H locs ls G hC hP hS hl
  have hC0 := hC
  obtain ⟨hx, hb, hml, hr0, hown, hts, hlk, hK, hWs⟩ := hC
  refine va_callv (va_runS (As := As) (rest := st) ⟨hx, hb, hml, hown, hts⟩ (hcn l (q_bd_ne hM) G) ⟨callB_of As.length hts (q_gC hf.2.2.1) rfl rfl rfl (hts _ hf.2.1) (hts _ hm) hf.2.2.2.1 (q_room hr hf.2.2.2.2), hts _ hf.1⟩ ⟨q_blind, fun U hU hW => ⟨rfl, hK.warm hW, hWs.warm hW hS hU, by rw [hU]; exact hP⟩⟩ rfl rfl hl.1 hst (lv_room hrm) hd ⟨Nat.le_refl _, Nat.le_refl _⟩) hS (fun q _ h => h) (fun q h => h) (fun u' t H1 locs ht hvm hw hB hz1 hk1 hS => ?_)
  obtain ⟨r, hw⟩ := hw
  have e1 : q_bd Mc K = K r u' := by rw [hw]; rfl
  rw [e1] at hM ⊢
  have hP1 : q_P G b (ι.1 u') H1 := by rw [← ht]; exact hB
  exact h r u' hM p l e s m args below meth c H1 locs ls G hC0 hP1 hS hl
end Rows
theorem c_str_cod (l : Launch) {ι : qI} {b i : Nat} (hi : i < q_sn) (u : qS) : CN l yJ0_coder_7d493 cJ0_coder_7d493 1 (some .byte) 1 ι b [.ref (ι.2.1 i)] u (some (0, u)) := by
  refine CN.of_SW (own := RJ0) rfl (by decide) (Nat.le_of_ble_eq_true rfl) [(0, .ref (ι.2.1 i))] rfl ?_
  refine sw_compact dJ0_coder_7d493_0 t_728 ?_
  refine SW.of_eq (M' := if (1 : Int32).toInt = 0 then none else some (0, u)) rfl ?_
  refine sw_if_eq 13 dJ0_coder_7d493_3 (by decide) SW.none ?_
  refine sw_aload_n 0 dJ0_coder_7d493_6 rfl rfl ?_
  refine sw_scoder hi dJ0_coder_7d493_7 t_1719 ?_
  refine sw_goto 14 dJ0_coder_7d493_10 (by decide) ?_
  exact sw_tret rfl dJ0_coder_7d493_14
theorem c_str_lat (l : Launch) {ι : qI} {b i : Nat} (hi : i < q_sn) (u : qS) : CN l yJ0_isLatin1_aae02 cJ0_isLatin1_aae02 1 (some .boolean) 1 ι b [.ref (ι.2.1 i)] u (some (1, u)) := by
  refine CN.of_SW (own := RJ0) rfl (by decide) (Nat.le_of_ble_eq_true rfl) [(0, .ref (ι.2.1 i))] rfl ?_
  refine sw_compact dJ0_isLatin1_aae02_0 t_728 ?_
  refine SW.of_eq (M' := if (1 : Int32).toInt = 0 then none else if (0 : Int32).toInt = 0 then some (1, u) else none) rfl ?_
  refine sw_if_eq 17 dJ0_isLatin1_aae02_3 (by decide) SW.none ?_
  refine sw_aload_n 0 dJ0_isLatin1_aae02_6 rfl rfl ?_
  refine sw_scoder hi dJ0_isLatin1_aae02_7 t_1719 ?_
  refine sw_if_ne 17 dJ0_isLatin1_aae02_10 (by decide) ?_ SW.none
  refine sw_iconst 1 dJ0_isLatin1_aae02_13 (by decide) ?_
  refine sw_goto 18 dJ0_isLatin1_aae02_14 (by decide) ?_
  exact sw_zret1 dJ0_isLatin1_aae02_18
theorem c_str_len (l : Launch) {ι : qI} {b i : Nat} (hi : i < q_sn) (u : qS) : CN l yJ0_length_8abf5 cJ0_length_8abf5 1 (some .int) 2 ι b [.ref (ι.2.1 i)] u (some (q_sln i, u)) := by
  refine CN.of_SW (own := RJ0) rfl (by decide) (Nat.le_of_ble_eq_true rfl) [(0, .ref (ι.2.1 i))] rfl ?_
  refine sw_aload_n 0 dJ0_length_8abf5_0 rfl rfl ?_
  refine sw_svalue hi dJ0_length_8abf5_1 t_1718 ?_
  refine sw_sblen hi dJ0_length_8abf5_4 ?_
  refine sw_aload_n 0 dJ0_length_8abf5_5 rfl rfl ?_
  refine SW.of_eq (M' := q_bd (some ((0 : Int32), u)) (fun r u' => some (q_sln i >>> (r &&& 31), u'))) (by show some (q_sln i, u) = some (q_sln i >>> ((0 : Int32) &&& 31), u); rw [(q_slen_ok i hi).2]) ?_
  refine sw_callVs (As := []) hi rfl dJ0_length_8abf5_6 t_724 mf_str_cod (by decide) (Nat.le_of_ble_eq_true rfl) (fun l => c_str_cod l hi u) (fun r u' _ => ?_)
  refine sw_ishr dJ0_length_8abf5_9 ?_
  exact sw_iret dJ0_length_8abf5_10
theorem c_str_pr (l : Launch) {ι : qI} {b : Nat} (x n : Int32) (v : Value) (hv : v = .null ∨ ∃ f, v = .ref f) (h1 : 0 ≤ x.toInt) (h2 : x.toInt < n.toInt) (u : qS) : CN l yJ3_checkIndex_8e157 cJ3_checkIndex_8e157 3 (some .int) 1 ι b [.int x, .int n, v] u (some (x, u)) := by
  have hl0 : (lg_sl [.int x, .int n, v]).length ≤ 3 ∧ lv_args 0 [.int x, .int n, v] = [(0, .int x), (1, .int n), (2, v)] := by
    rcases hv with rfl | ⟨f, rfl⟩ <;> exact ⟨Nat.le_of_ble_eq_true rfl, rfl⟩
  refine CN.of_SW (own := RJ3) rfl (by decide) hl0.1 [(0, .int x), (1, .int n), (2, v)] hl0.2 ?_
  refine SW.of_eq (M' := if x.toInt < 0 then none else if x.toInt < n.toInt then some (x, u) else none) (by rw [if_neg (by omega), if_pos h2]) ?_
  refine sw_iload_n 0 dJ3_checkIndex_8e157_0 rfl rfl ?_
  refine sw_if_lt 9 dJ3_checkIndex_8e157_1 (by decide) SW.none ?_
  refine sw_iload_n 0 dJ3_checkIndex_8e157_4 rfl rfl ?_
  refine sw_iload_n 1 dJ3_checkIndex_8e157_5 rfl rfl ?_
  refine sw_icmp_lt 16 dJ3_checkIndex_8e157_6 (by decide) ?_ SW.none
  refine sw_iload_n 0 dJ3_checkIndex_8e157_16 rfl rfl ?_
  exact sw_iret dJ3_checkIndex_8e157_17
theorem c_str_ci (l : Launch) {ι : qI} {b : Nat} (x n : Int32) (h1 : 0 ≤ x.toInt) (h2 : x.toInt < n.toInt) (u : qS) : CN l yJ0_checkIndex_df160 cJ0_checkIndex_df160 2 none 2 ι b [.int x, .int n] u (some (0, u)) := by
  refine CN.of_SW (own := RJ0) rfl (by decide) (Nat.le_of_ble_eq_true rfl) [(0, .int x), (1, .int n)] rfl ?_
  refine sw_iload_n 0 dJ0_checkIndex_df160_0 rfl rfl ?_
  refine sw_iload_n 1 dJ0_checkIndex_df160_1 rfl rfl ?_
  refine sw_sioobe dJ0_checkIndex_df160_2 t_744 (fun v hv => ?_)
  refine SW.of_eq (M' := q_bd (some (x, u)) (fun _ u' => some (0, u'))) rfl ?_
  refine sw_callSi (As := [.int x, .int n, v]) rfl dJ0_checkIndex_df160_5 t_746 mf_str_pr (by decide) (Nat.le_of_ble_eq_true rfl) (fun l => c_str_pr l x n v hv h1 h2 u) (fun r u' => ?_)
  refine sw_pop dJ0_checkIndex_df160_8 rfl ?_
  exact sw_vret dJ0_checkIndex_df160_9
theorem c_str_l1 (l : Launch) {ι : qI} {b i : Nat} (hi : i < q_sn) (x : Int32) (hin : 0 ≤ x.toInt ∧ x.toInt < (q_slen.getD i 0 : Nat)) (u : qS) : CN l yJ1_charAt_3b067 cJ1_charAt_3b067 2 (some .char) 3 ι b [.ref (ι.2.2 i), .int x] u (some (q_chv i x.toInt.toNat, u)) := by
  refine CN.of_SW (own := RJ1) rfl (by decide) (Nat.le_of_ble_eq_true rfl) [(0, .ref (ι.2.2 i)), (1, .int x)] rfl ?_
  refine sw_iload_n 1 dJ1_charAt_3b067_0 rfl rfl ?_
  refine sw_aload_n 0 dJ1_charAt_3b067_1 rfl rfl ?_
  refine sw_sblen hi dJ1_charAt_3b067_2 ?_
  refine SW.of_eq (M' := q_bd (some ((0 : Int32), u)) (fun _ u' => some (q_chv i x.toInt.toNat, u'))) rfl ?_
  refine sw_callSv (As := [.int x, .int (q_sln i)]) rfl dJ1_charAt_3b067_3 t_741 mf_str_ci (by decide) (Nat.le_of_ble_eq_true rfl) (fun l => c_str_ci l x (q_sln i) hin.1 (by rw [(q_slen_ok i hi).1]; exact hin.2) u) (fun r u' => ?_)
  refine sw_aload_n 0 dJ1_charAt_3b067_6 rfl rfl ?_
  refine sw_iload_n 1 dJ1_charAt_3b067_7 rfl rfl ?_
  refine sw_sbald hi hin dJ1_charAt_3b067_8 ?_
  refine sw_sipush 255 dJ1_charAt_3b067_9 (by decide) ?_
  refine sw_iand dJ1_charAt_3b067_12 ?_
  refine sw_i2c dJ1_charAt_3b067_13 ?_
  exact sw_tret (pk_nc _) dJ1_charAt_3b067_14
def q_bc (v : Int32) (M : qR) : qR := if narrow .char (.int v) = .int v then M else none
theorem sw_cret {own : String} {cc : ByteArray} {nL d : Nat} {ι : qI} {b pc : Nat} {lv : List (Nat × Value)} {u : qS} {v : Int32} (hd : decode cc pc = .ok (.ireturn, 1)) : SW own cc nL (some .char) d ι b pc lv [.int v] u (q_bc v (some (v, u))) := by
  by_cases hv : narrow .char (.int v) = .int v
  · exact SW.of_eq (M' := some (v, u)) (by simp [q_bc, hv]) (sw_tret hv hd)
  · exact SW.of_eq (by simp [q_bc, hv]) SW.none
theorem c_str_ch (l : Launch) {ι : qI} {b i : Nat} (hi : i < q_sn) (x : Int32) (hin : 0 ≤ x.toInt ∧ x.toInt < (q_slen.getD i 0 : Nat)) (u : qS) : CN l yJ0_charAt_5068e cJ0_charAt_5068e 2 (some .char) 4 ι b [.ref (ι.2.1 i), .int x] u (some (q_chv i x.toInt.toNat, u)) := by
  refine CN.of_SW (own := RJ0) rfl (by decide) (Nat.le_of_ble_eq_true rfl) [(0, .ref (ι.2.1 i)), (1, .int x)] rfl ?_
  refine sw_aload_n 0 dJ0_charAt_5068e_0 rfl rfl ?_
  refine SW.of_eq (M' := q_bd (some ((1 : Int32), u)) (fun r u' => if r.toInt = 0 then none else q_bd (some (q_chv i x.toInt.toNat, u')) (fun r u' => q_bc r (some (r, u'))))) (by show _ = q_bc (q_chv i x.toInt.toNat) (some (q_chv i x.toInt.toNat, u)); rw [q_bc, if_pos (show narrow .char (.int (q_chv i x.toInt.toNat)) = .int (q_chv i x.toInt.toNat) from pk_nc _)]) ?_
  refine sw_callVs (As := []) hi rfl dJ0_charAt_5068e_1 t_734 mf_str_lat (by decide) (Nat.le_of_ble_eq_true rfl) (fun l => c_str_lat l hi u) (fun r u' _ => ?_)
  refine sw_if_eq 16 dJ0_charAt_5068e_4 (by decide) SW.none ?_
  refine sw_aload_n 0 dJ0_charAt_5068e_7 rfl rfl ?_
  refine sw_svalue hi dJ0_charAt_5068e_8 t_1718 ?_
  refine sw_iload_n 1 dJ0_charAt_5068e_11 rfl rfl ?_
  refine sw_callSi (As := [.ref (ι.2.2 i), .int x]) rfl dJ0_charAt_5068e_12 t_738 mf_str_l1 (by decide) (Nat.le_of_ble_eq_true rfl) (fun l => c_str_l1 l hi x hin u') (fun r u' => ?_)
  exact sw_cret dJ0_charAt_5068e_15
section Rows
variable {own : String} {cc : ByteArray} {nL : Nat} {ret : Option FieldType} {d : Nat} {ι : qI} {b pc : Nat} {lv : List (Nat × Value)} {st : List Value} {u : qS} {M : qR}
/-- s.length() and s.charAt(x) on a String constant -/
theorem sw_slen {idx i : Nat} (hi : i < q_sn) (hd : decode cc pc = .ok (.invokevirtual idx, 3)) (hm : Cond.methodLink own idx yJ0_length_8abf5 ∈ q_TT) (hr : 2 + 1 ≤ d) (hrm : (st.map fun v => v.category).sum ≤ 8) (h : SW own cc nL ret d ι b (pc + 3) lv (.int (q_sln i) :: st) u M) : SW own cc nL ret d ι b pc lv (.ref (ι.2.1 i) :: st) u M := by
  refine SW.of_eq (M' := q_bd (some (q_sln i, u)) (fun _ _ => M)) rfl ?_
  refine sw_callVs (As := []) hi rfl hd hm mf_str_len hr hrm (fun l => c_str_len l hi u) (fun r u' e => ?_)
  cases e
  exact h
theorem sw_schr {idx i : Nat} {x : Int32} {K : Int32 → qR} (hi : i < q_sn) (hd : decode cc pc = .ok (.invokevirtual idx, 3)) (hm : Cond.methodLink own idx yJ0_charAt_5068e ∈ q_TT) (hr : 4 + 1 ≤ d) (hrm : (st.map fun v => v.category).sum ≤ 8) (h : ∀ v, SW own cc nL ret d ι b (pc + 3) lv (.int v :: st) u (K v)) : SW own cc nL ret d ι b pc lv (.int x :: .ref (ι.2.1 i) :: st) u ((q_sch i x).bind K) := by
  by_cases hin : 0 ≤ x.toInt ∧ x.toInt < (q_slen.getD i 0 : Nat)
  · refine SW.of_eq (M' := q_bd (some (q_chv i x.toInt.toNat, u)) (fun r _ => K r)) (by simp only [q_sch, if_pos hin, q_bd, Option.bind_some]) ?_
    refine sw_callVs (As := [.int x]) hi rfl hd hm mf_str_ch hr hrm (fun l => c_str_ch l hi x hin u) (fun r u' e => ?_)
    cases e
    exact h _
  · exact SW.of_eq (by simp only [q_sch, if_neg hin, Option.bind_none]) SW.none
end Rows
