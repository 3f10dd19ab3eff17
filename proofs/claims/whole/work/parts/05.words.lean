abbrev qS : Type := (Nat → Nat → Int32) × (Nat → Int64)
abbrev qD : Type := (Nat × List (Option Nat)) ⊕ (Nat × Nat)
abbrev qG : Type := va_G × ClassId × ClassId × ClassId
abbrev qR : Type := Option (Int32 × qS)
abbrev qI : Type := (qS → qS) × (Nat → Nat) × (Nat → Nat)
def q_sn : Nat := 3
def q_slen : List Nat := [84, 9, 35]
def q_sbyt : List (List Int32) := [[98, 101, 97, 114, 32, 119, 97, 110, 116, 32, 99, 111, 117, 110, 116, 32, 119, 104, 101, 110, 32, 111, 114, 32, 97, 110, 100, 32, 110, 111, 116, 32, 119, 101, 101, 107, 32, 112, 97, 114, 116, 121, 32, 112, 108, 97, 99, 101, 32, 97, 103, 101, 32, 104, 97, 110, 103, 105, 110, 103, 32, 104, 117, 110, 103, 101, 114, 32, 116, 97, 115, 116, 101, 32, 106, 97, 109, 32, 115, 101, 97, 116, 115, 32], [101, 97, 116, 101, 114, 32, 98, 121, 32], [111, 110, 32, 112, 108, 97, 110, 116, 32, 97, 116, 32, 102, 101, 110, 99, 101, 32, 111, 112, 101, 110, 32, 98, 111, 105, 108, 32, 99, 104, 101, 101, 115, 101, 32]]
def q_sown (i : Nat) : String := (["BallotFruit$Reader", "BallotFruit$Reader", "BallotFruit$Reader"] : List String).getD i ""
def q_sidx (i : Nat) : Nat := ([55, 86, 96] : List Nat).getD i 0
def q_stx (i : Nat) : String := (["bear want count when or and not week party place age hanging hunger taste jam seats ", "eater by ", "on plant at fence open boil cheese "] : List String).getD i ""
/-- the forms of all cells, in the order in which they are made -/
def q_sh : List qD := [.inl (10, [some 1, some 2, some 33, none, some 65, none, none, some 66, some 67, some 88, some 90, some 92, some 102]),
  .inl (9, [some 2, some 12, some 19, some 23, some 28, some 31]),
  .inl (0, [none, none, none, none, none, none, none, none, none, none, none, some 3, some 4, some 5, some 6, some 7, some 8, some 9, some 10, some 11]),
  .inr (0, 5),
  .inr (0, 5),
  .inr (0, 5),
  .inr (0, 14),
  .inr (0, 14),
  .inr (0, 14),
  .inr (0, 14),
  .inr (0, 10),
  .inr (0, 50),
  .inl (2, [none, some 13, some 14, some 15, some 16, none, none, some 17, some 18]),
  .inr (0, 16),
  .inr (0, 17),
  .inr (0, 16),
  .inr (0, 400),
  .inr (0, 32),
  .inr (0, 9),
  .inl (4, [none, some 20, some 21, some 22]),
  .inr (0, 10),
  .inr (0, 80),
  .inr (0, 10),
  .inl (5, [none, some 24, some 25, some 26, some 27]),
  .inr (0, 16),
  .inr (0, 16),
  .inr (0, 16),
  .inr (0, 16),
  .inl (1, [none, some 29, some 30]),
  .inr (0, 8),
  .inr (0, 8),
  .inl (3, [some 32]),
  .inr (0, 600),
  .inl (9, [some 34, some 44, some 51, some 55, some 60, some 63]),
  .inl (0, [none, none, none, none, none, none, none, none, none, none, none, some 35, some 36, some 37, some 38, some 39, some 40, some 41, some 42, some 43]),
  .inr (0, 5),
  .inr (0, 5),
  .inr (0, 5),
  .inr (0, 14),
  .inr (0, 14),
  .inr (0, 14),
  .inr (0, 14),
  .inr (0, 10),
  .inr (0, 50),
  .inl (2, [none, some 45, some 46, some 47, some 48, none, none, some 49, some 50]),
  .inr (0, 16),
  .inr (0, 17),
  .inr (0, 16),
  .inr (0, 400),
  .inr (0, 32),
  .inr (0, 9),
  .inl (4, [none, some 52, some 53, some 54]),
  .inr (0, 10),
  .inr (0, 80),
  .inr (0, 10),
  .inl (5, [none, some 56, some 57, some 58, some 59]),
  .inr (0, 16),
  .inr (0, 16),
  .inr (0, 16),
  .inr (0, 16),
  .inl (1, [none, some 61, some 62]),
  .inr (0, 8),
  .inr (0, 8),
  .inl (3, [some 64]),
  .inr (0, 600),
  .inr (2, 6),
  .inl (6, [none, none, some 67, some 72, some 79, some 83, none, none, none]),
  .inl (8, [some 68, none, some 69, some 70, some 71, none]),
  .inr (0, 400),
  .inr (0, 401),
  .inr (0, 401),
  .inr (0, 401),
  .inl (2, [none, some 73, some 74, some 75, some 76, none, none, some 77, some 78]),
  .inr (0, 16),
  .inr (0, 17),
  .inr (0, 16),
  .inr (0, 400),
  .inr (0, 32),
  .inr (0, 9),
  .inl (4, [none, some 80, some 81, some 82]),
  .inr (0, 10),
  .inr (0, 80),
  .inr (0, 10),
  .inl (5, [none, some 84, some 85, some 86, some 87]),
  .inr (0, 16),
  .inr (0, 16),
  .inr (0, 16),
  .inr (0, 16),
  .inl (7, [none, none, none, none, some 89]),
  .inr (0, 5),
  .inl (7, [none, none, none, none, some 91]),
  .inr (0, 5),
  .inl (0, [none, none, none, none, none, none, none, none, none, none, none, some 93, some 94, some 95, some 96, some 97, some 98, some 99, some 100, some 101]),
  .inr (0, 5),
  .inr (0, 5),
  .inr (0, 5),
  .inr (0, 14),
  .inr (0, 14),
  .inr (0, 14),
  .inr (0, 14),
  .inr (0, 10),
  .inr (0, 50),
  .inr (1, 100),
  .inl (0, [none, none, none, none, none, none, none, none, none, none, none, some 104, some 105, some 106, some 107, some 108, some 109, some 110, some 111, some 112]),
  .inr (0, 5),
  .inr (0, 5),
  .inr (0, 5),
  .inr (0, 14),
  .inr (0, 14),
  .inr (0, 14),
  .inr (0, 14),
  .inr (0, 10),
  .inr (0, 50),
  .inl (0, [none, none, none, none, none, none, none, none, none, none, none, some 114, some 115, some 116, some 117, some 118, some 119, some 120, some 121, some 122]),
  .inr (0, 5),
  .inr (0, 5),
  .inr (0, 5),
  .inr (0, 14),
  .inr (0, 14),
  .inr (0, 14),
  .inr (0, 14),
  .inr (0, 10),
  .inr (0, 50),
  .inl (0, [none, none, none, none, none, none, none, none, none, none, none, some 124, some 125, some 126, some 127, some 128, some 129, some 130, some 131, some 132]),
  .inr (0, 5),
  .inr (0, 5),
  .inr (0, 5),
  .inr (0, 14),
  .inr (0, 14),
  .inr (0, 14),
  .inr (0, 14),
  .inr (0, 10),
  .inr (0, 50),
  .inl (0, [none, none, none, none, none, none, none, none, none, none, none, some 134, some 135, some 136, some 137, some 138, some 139, some 140, some 141, some 142]),
  .inr (0, 5),
  .inr (0, 5),
  .inr (0, 5),
  .inr (0, 14),
  .inr (0, 14),
  .inr (0, 14),
  .inr (0, 14),
  .inr (0, 10),
  .inr (0, 50),
  .inl (0, [none, none, none, none, none, none, none, none, none, none, none, some 144, some 145, some 146, some 147, some 148, some 149, some 150, some 151, some 152]),
  .inr (0, 5),
  .inr (0, 5),
  .inr (0, 5),
  .inr (0, 14),
  .inr (0, 14),
  .inr (0, 14),
  .inr (0, 14),
  .inr (0, 10),
  .inr (0, 50),
  .inl (0, [none, none, none, none, none, none, none, none, none, none, none, some 154, some 155, some 156, some 157, some 158, some 159, some 160, some 161, some 162]),
  .inr (0, 5),
  .inr (0, 5),
  .inr (0, 5),
  .inr (0, 14),
  .inr (0, 14),
  .inr (0, 14),
  .inr (0, 14),
  .inr (0, 10),
  .inr (0, 50),
  .inl (11, [none, some 164, some 165, none, some 166, none, none, none, none, none, none, none, some 167, some 168, none, none, none, none, none, some 169, some 170, some 171, some 172, some 173, some 174, some 175, some 176, none, none, none, some 177, none, none, none, none, none, none, some 178, none, some 179, some 180, some 181, none, none, none, none, some 182, some 183, none, some 184, some 185, some 186, none, none, none, some 187]),
  .inr (0, 136),
  .inr (0, 816),
  .inr (0, 136),
  .inr (0, 600),
  .inr (0, 400),
  .inr (0, 129),
  .inr (0, 2),
  .inr (0, 48),
  .inr (0, 48),
  .inr (0, 48),
  .inr (0, 48),
  .inr (0, 1200),
  .inr (0, 1200),
  .inr (0, 40),
  .inr (0, 180),
  .inr (0, 128),
  .inr (0, 9),
  .inr (0, 420),
  .inr (0, 5),
  .inr (0, 5),
  .inr (0, 16),
  .inr (0, 100),
  .inr (0, 100),
  .inr (0, 1900)]
def q_kp (i : Nat) : Nat := 103 + 10 * i
def q_NC : Nat := 163
def q_TT : List Cond := lw_tbl.filter goodWord
theorem q_tt {w : Cond} (i : Nat) (h : tables_1[i]? = some w) (hg : goodWord w = true) : w ∈ q_TT := List.mem_filter.mpr ⟨List.mem_append_right _ (List.mem_of_getElem? h), hg⟩
theorem q_tc1 {w : Cond} (i : Nat) (h : tables_1_1[i]? = some w) (hg : goodWord w = true) : w ∈ q_TT := List.mem_filter.mpr ⟨List.mem_append_right _ (show w ∈ tables_1 from List.mem_append_left _ (List.mem_of_getElem? h)), hg⟩
theorem q_tc2 {w : Cond} (i : Nat) (h : tables_1_2[i]? = some w) (hg : goodWord w = true) : w ∈ q_TT := List.mem_filter.mpr ⟨List.mem_append_right _ (show w ∈ tables_1 from List.mem_append_right _ (List.mem_append_left _ (List.mem_of_getElem? h))), hg⟩
theorem q_tc3 {w : Cond} (i : Nat) (h : tables_1_3[i]? = some w) (hg : goodWord w = true) : w ∈ q_TT := List.mem_filter.mpr ⟨List.mem_append_right _ (show w ∈ tables_1 from List.mem_append_right _ (List.mem_append_right _ (List.mem_append_left _ (List.mem_of_getElem? h)))), hg⟩
theorem q_tc4 {w : Cond} (i : Nat) (h : tables_1_4[i]? = some w) (hg : goodWord w = true) : w ∈ q_TT := List.mem_filter.mpr ⟨List.mem_append_right _ (show w ∈ tables_1 from List.mem_append_right _ (List.mem_append_right _ (List.mem_append_right _ (List.mem_append_left _ (List.mem_of_getElem? h))))), hg⟩
theorem q_tc5 {w : Cond} (i : Nat) (h : tables_1_5[i]? = some w) (hg : goodWord w = true) : w ∈ q_TT := List.mem_filter.mpr ⟨List.mem_append_right _ (show w ∈ tables_1 from List.mem_append_right _ (List.mem_append_right _ (List.mem_append_right _ (List.mem_append_right _ (List.mem_append_left _ (List.mem_of_getElem? h)))))), hg⟩
theorem q_tc6 {w : Cond} (i : Nat) (h : tables_1_6[i]? = some w) (hg : goodWord w = true) : w ∈ q_TT := List.mem_filter.mpr ⟨List.mem_append_right _ (show w ∈ tables_1 from List.mem_append_right _ (List.mem_append_right _ (List.mem_append_right _ (List.mem_append_right _ (List.mem_append_right _ (List.mem_append_left _ (List.mem_of_getElem? h))))))), hg⟩
theorem q_tc7 {w : Cond} (i : Nat) (h : tables_1_7[i]? = some w) (hg : goodWord w = true) : w ∈ q_TT := List.mem_filter.mpr ⟨List.mem_append_right _ (show w ∈ tables_1 from List.mem_append_right _ (List.mem_append_right _ (List.mem_append_right _ (List.mem_append_right _ (List.mem_append_right _ (List.mem_append_right _ (List.mem_append_left _ (List.mem_of_getElem? h)))))))), hg⟩
theorem q_tc8 {w : Cond} (i : Nat) (h : tables_1_8[i]? = some w) (hg : goodWord w = true) : w ∈ q_TT := List.mem_filter.mpr ⟨List.mem_append_right _ (show w ∈ tables_1 from List.mem_append_right _ (List.mem_append_right _ (List.mem_append_right _ (List.mem_append_right _ (List.mem_append_right _ (List.mem_append_right _ (List.mem_append_right _ (List.mem_of_getElem? h)))))))), hg⟩
theorem q_tp {w : Cond} (i : Nat) (h : (k2_sels lw_privs)[i]? = some w) (hg : goodWord w = true) : w ∈ q_TT := List.mem_filter.mpr ⟨List.mem_append_left _ (List.mem_of_getElem? h), hg⟩
theorem q_TT_in : ∀ w ∈ q_TT, w ∈ lw_tbl := fun _ h => (List.mem_filter.mp h).1
theorem q_TT_good : ∀ w ∈ q_TT, (w.onTables && w.keeps) = true ∨ ∃ ty, w = .arrayClass ty := fun _ h => good_of_word (List.mem_filter.mp h).2
theorem t_0 : ((Jvm.Cond.initialized "BallotFruitLaw") : Cond) ∈ q_TT := q_tt 0 (by decide +kernel) (by decide +kernel)
theorem t_1 : ((Jvm.Cond.initialized "BallotFruit") : Cond) ∈ q_TT := q_tt 1 (by decide +kernel) (by decide +kernel)
theorem t_2 : ((Jvm.Cond.initialized "BallotFruit$Whole") : Cond) ∈ q_TT := q_tt 2 (by decide +kernel) (by decide +kernel)
theorem t_3 : ((Jvm.Cond.initialized "BallotFruit$Commune") : Cond) ∈ q_TT := q_tt 3 (by decide +kernel) (by decide +kernel)
theorem t_4 : ((Jvm.Cond.initialized "BallotFruit$Law") : Cond) ∈ q_TT := q_tt 4 (by decide +kernel) (by decide +kernel)
theorem t_5 : ((Jvm.Cond.initialized "BallotFruit$Paths") : Cond) ∈ q_TT := q_tt 5 (by decide +kernel) (by decide +kernel)
theorem t_6 : ((Jvm.Cond.initialized "BallotFruit$Plan") : Cond) ∈ q_TT := q_tt 6 (by decide +kernel) (by decide +kernel)
theorem t_7 : ((Jvm.Cond.initialized "BallotFruit$Cores") : Cond) ∈ q_TT := q_tt 7 (by decide +kernel) (by decide +kernel)
theorem t_8 : ((Jvm.Cond.initialized "BallotFruit$Pages") : Cond) ∈ q_TT := q_tt 8 (by decide +kernel) (by decide +kernel)
theorem t_9 : ((Jvm.Cond.initialized "BallotFruit$Reader") : Cond) ∈ q_TT := q_tt 9 (by decide +kernel) (by decide +kernel)
theorem t_10 : ((Jvm.Cond.initialized "BallotFruit$Tape") : Cond) ∈ q_TT := q_tt 10 (by decide +kernel) (by decide +kernel)
theorem t_11 : ((Jvm.Cond.initialized "BallotFruit$Season") : Cond) ∈ q_TT := q_tt 11 (by decide +kernel) (by decide +kernel)
theorem t_12 : ((Jvm.Cond.initialized "BallotFruitModel") : Cond) ∈ q_TT := q_tt 12 (by decide +kernel) (by decide +kernel)
theorem t_13 : ((Jvm.Cond.initialized "java/lang/System") : Cond) ∈ q_TT := q_tt 13 (by decide +kernel) (by decide +kernel)
theorem t_14 : ((Jvm.Cond.initialized "java/lang/Math") : Cond) ∈ q_TT := q_tt 14 (by decide +kernel) (by decide +kernel)
theorem t_15 : ((Jvm.Cond.initialized "java/lang/String") : Cond) ∈ q_TT := q_tt 15 (by decide +kernel) (by decide +kernel)
theorem t_16 : ((Jvm.Cond.initialized "java/lang/StringLatin1") : Cond) ∈ q_TT := q_tt 16 (by decide +kernel) (by decide +kernel)
theorem t_17 : ((Jvm.Cond.initialized "jdk/internal/util/Preconditions") : Cond) ∈ q_TT := q_tt 17 (by decide +kernel) (by decide +kernel)
theorem t_18 : ((Jvm.Cond.initialized "java/lang/StringUTF16") : Cond) ∈ q_TT := q_tt 18 (by decide +kernel) (by decide +kernel)
theorem t_19 : ((Jvm.Cond.initialized "java/lang/Integer") : Cond) ∈ q_TT := q_tt 19 (by decide +kernel) (by decide +kernel)
theorem t_20 : ((Jvm.Cond.classLink "BallotFruitLaw" (7 : Nat) "BallotFruit") : Cond) ∈ q_TT := q_tt 20 (by decide +kernel) (by decide +kernel)
theorem t_21 : ((Jvm.Cond.instantiable "BallotFruit" (13 : Nat)) : Cond) ∈ q_TT := q_tt 21 (by decide +kernel) (by decide +kernel)
theorem t_22 : ((Jvm.Cond.methodLink "BallotFruitLaw" (9 : Nat) ({ cls := "BallotFruit", name := "<init>", desc := "()V" } : Jvm.MethodName)) : Cond) ∈ q_TT := q_tt 22 (by decide +kernel) (by decide +kernel)
theorem t_23 : ((Jvm.Cond.instanceMethod ({ cls := "BallotFruit", name := "<init>", desc := "()V" } : Jvm.MethodName)) : Cond) ∈ q_TT := q_tt 23 (by decide +kernel) (by decide +kernel)
theorem t_24 : ((Jvm.Cond.code ({ cls := "BallotFruit", name := "<init>", desc := "()V" } : Jvm.MethodName) prog_1_method_1_code (2 : Nat) (Option.none : Option Jvm.ClassFile.FieldType)) : Cond) ∈ q_TT := q_tc1 24 rfl rfl
theorem t_25 : ((Jvm.Cond.methodLink "BallotFruit" (3 : Nat) ({ cls := "java/lang/Object", name := "<init>", desc := "()V" } : Jvm.MethodName)) : Cond) ∈ q_TT := q_tt 25 (by decide +kernel) (by decide +kernel)
theorem t_26 : ((Jvm.Cond.instanceMethod ({ cls := "java/lang/Object", name := "<init>", desc := "()V" } : Jvm.MethodName)) : Cond) ∈ q_TT := q_tt 26 (by decide +kernel) (by decide +kernel)
theorem t_27 : ((Jvm.Cond.code ({ cls := "java/lang/Object", name := "<init>", desc := "()V" } : Jvm.MethodName) object_method_1_code (1 : Nat) (Option.none : Option Jvm.ClassFile.FieldType)) : Cond) ∈ q_TT := q_tc1 27 rfl rfl
theorem t_28 : ((Jvm.Cond.classLink "BallotFruit" (9 : Nat) "BallotFruit$Whole") : Cond) ∈ q_TT := q_tt 28 (by decide +kernel) (by decide +kernel)
theorem t_29 : ((Jvm.Cond.instantiable "BallotFruit$Whole" (6 : Nat)) : Cond) ∈ q_TT := q_tt 29 (by decide +kernel) (by decide +kernel)
theorem t_31 : ((Jvm.Cond.instanceMethod ({ cls := "BallotFruit$Whole", name := "<init>", desc := "()V" } : Jvm.MethodName)) : Cond) ∈ q_TT := q_tt 31 (by decide +kernel) (by decide +kernel)
theorem t_32 : ((Jvm.Cond.code ({ cls := "BallotFruit$Whole", name := "<init>", desc := "()V" } : Jvm.MethodName) prog_11_method_1_code (1 : Nat) (Option.none : Option Jvm.ClassFile.FieldType)) : Cond) ∈ q_TT := q_tc1 32 rfl rfl
theorem t_33 : ((Jvm.Cond.methodLink "BallotFruit$Whole" (1 : Nat) ({ cls := "java/lang/Object", name := "<init>", desc := "()V" } : Jvm.MethodName)) : Cond) ∈ q_TT := q_tt 33 (by decide +kernel) (by decide +kernel)
theorem t_34 : ((Jvm.Cond.classLink "BallotFruit$Whole" (7 : Nat) "BallotFruit$Commune") : Cond) ∈ q_TT := q_tt 34 (by decide +kernel) (by decide +kernel)
theorem t_35 : ((Jvm.Cond.instantiable "BallotFruit$Commune" (20 : Nat)) : Cond) ∈ q_TT := q_tt 35 (by decide +kernel) (by decide +kernel)
theorem t_37 : ((Jvm.Cond.instanceMethod ({ cls := "BallotFruit$Commune", name := "<init>", desc := "()V" } : Jvm.MethodName)) : Cond) ∈ q_TT := q_tt 37 (by decide +kernel) (by decide +kernel)
theorem t_38 : ((Jvm.Cond.code ({ cls := "BallotFruit$Commune", name := "<init>", desc := "()V" } : Jvm.MethodName) prog_2_method_1_code (1 : Nat) (Option.none : Option Jvm.ClassFile.FieldType)) : Cond) ∈ q_TT := q_tc1 38 rfl rfl
theorem t_39 : ((Jvm.Cond.methodLink "BallotFruit$Commune" (3 : Nat) ({ cls := "java/lang/Object", name := "<init>", desc := "()V" } : Jvm.MethodName)) : Cond) ∈ q_TT := q_tt 39 (by decide +kernel) (by decide +kernel)
theorem t_40 : ((Jvm.Cond.fieldLink "BallotFruit$Commune" (46 : Nat) "BallotFruit$Commune" "week" "I") : Cond) ∈ q_TT := q_tt 40 (by decide +kernel) (by decide +kernel)
theorem t_41 : ((Jvm.Cond.fieldLink "BallotFruit$Season" (69 : Nat) "BallotFruit$Commune" "week" "I") : Cond) ∈ q_TT := q_tt 41 (by decide +kernel) (by decide +kernel)
theorem t_42 : ((Jvm.Cond.fieldLink "BallotFruit$Pages" (27 : Nat) "BallotFruit$Commune" "week" "I") : Cond) ∈ q_TT := q_tt 42 (by decide +kernel) (by decide +kernel)
theorem t_43 : ((Jvm.Cond.fieldLink "BallotFruit$Law" (83 : Nat) "BallotFruit$Commune" "week" "I") : Cond) ∈ q_TT := q_tt 43 (by decide +kernel) (by decide +kernel)
theorem t_44 : ((Jvm.Cond.fieldLink "BallotFruit" (140 : Nat) "BallotFruit$Commune" "week" "I") : Cond) ∈ q_TT := q_tt 44 (by decide +kernel) (by decide +kernel)
theorem t_45 : ((Jvm.Cond.fieldLink "BallotFruit" (64 : Nat) "BallotFruit$Commune" "state" "I") : Cond) ∈ q_TT := q_tt 45 (by decide +kernel) (by decide +kernel)
theorem t_46 : ((Jvm.Cond.fieldLink "BallotFruit$Commune" (49 : Nat) "BallotFruit$Commune" "state" "I") : Cond) ∈ q_TT := q_tt 46 (by decide +kernel) (by decide +kernel)
theorem t_47 : ((Jvm.Cond.fieldLink "BallotFruit$Commune" (52 : Nat) "BallotFruit$Commune" "bad" "I") : Cond) ∈ q_TT := q_tt 47 (by decide +kernel) (by decide +kernel)
theorem t_48 : ((Jvm.Cond.fieldLink "BallotFruit$Season" (183 : Nat) "BallotFruit$Commune" "bad" "I") : Cond) ∈ q_TT := q_tt 48 (by decide +kernel) (by decide +kernel)
theorem t_49 : ((Jvm.Cond.fieldLink "BallotFruit" (322 : Nat) "BallotFruit$Commune" "bad" "I") : Cond) ∈ q_TT := q_tt 49 (by decide +kernel) (by decide +kernel)
theorem t_50 : ((Jvm.Cond.fieldLink "BallotFruit$Commune" (55 : Nat) "BallotFruit$Commune" "wasps" "I") : Cond) ∈ q_TT := q_tt 50 (by decide +kernel) (by decide +kernel)
theorem t_51 : ((Jvm.Cond.fieldLink "BallotFruit$Season" (60 : Nat) "BallotFruit$Commune" "wasps" "I") : Cond) ∈ q_TT := q_tt 51 (by decide +kernel) (by decide +kernel)
theorem t_52 : ((Jvm.Cond.fieldLink "BallotFruit" (325 : Nat) "BallotFruit$Commune" "wasps" "I") : Cond) ∈ q_TT := q_tt 52 (by decide +kernel) (by decide +kernel)
theorem t_53 : ((Jvm.Cond.fieldLink "BallotFruit$Commune" (9 : Nat) "BallotFruit$Commune" "chairs" "I") : Cond) ∈ q_TT := q_tt 53 (by decide +kernel) (by decide +kernel)
theorem t_54 : ((Jvm.Cond.fieldLink "BallotFruit" (328 : Nat) "BallotFruit$Commune" "chairs" "I") : Cond) ∈ q_TT := q_tt 54 (by decide +kernel) (by decide +kernel)
theorem t_55 : ((Jvm.Cond.fieldLink "BallotFruit$Commune" (15 : Nat) "BallotFruit$Commune" "every" "I") : Cond) ∈ q_TT := q_tt 55 (by decide +kernel) (by decide +kernel)
theorem t_56 : ((Jvm.Cond.fieldLink "BallotFruit$Season" (66 : Nat) "BallotFruit$Commune" "every" "I") : Cond) ∈ q_TT := q_tt 56 (by decide +kernel) (by decide +kernel)
theorem t_57 : ((Jvm.Cond.fieldLink "BallotFruit" (331 : Nat) "BallotFruit$Commune" "every" "I") : Cond) ∈ q_TT := q_tt 57 (by decide +kernel) (by decide +kernel)
theorem t_58 : ((Jvm.Cond.fieldLink "BallotFruit$Commune" (58 : Nat) "BallotFruit$Commune" "fences" "I") : Cond) ∈ q_TT := q_tt 58 (by decide +kernel) (by decide +kernel)
theorem t_59 : ((Jvm.Cond.fieldLink "BallotFruit" (339 : Nat) "BallotFruit$Commune" "fences" "I") : Cond) ∈ q_TT := q_tt 59 (by decide +kernel) (by decide +kernel)
theorem t_60 : ((Jvm.Cond.fieldLink "BallotFruit$Commune" (61 : Nat) "BallotFruit$Commune" "parties" "I") : Cond) ∈ q_TT := q_tt 60 (by decide +kernel) (by decide +kernel)
theorem t_61 : ((Jvm.Cond.fieldLink "BallotFruit" (75 : Nat) "BallotFruit$Commune" "parties" "I") : Cond) ∈ q_TT := q_tt 61 (by decide +kernel) (by decide +kernel)
theorem t_62 : ((Jvm.Cond.fieldLink "BallotFruit$Season" (212 : Nat) "BallotFruit$Commune" "parties" "I") : Cond) ∈ q_TT := q_tt 62 (by decide +kernel) (by decide +kernel)
theorem t_63 : ((Jvm.Cond.fieldLink "BallotFruit$Season" (26 : Nat) "BallotFruit$Commune" "trees" "I") : Cond) ∈ q_TT := q_tt 63 (by decide +kernel) (by decide +kernel)
theorem t_64 : ((Jvm.Cond.fieldLink "BallotFruit$Commune" (64 : Nat) "BallotFruit$Commune" "trees" "I") : Cond) ∈ q_TT := q_tt 64 (by decide +kernel) (by decide +kernel)
theorem t_65 : ((Jvm.Cond.fieldLink "BallotFruit" (109 : Nat) "BallotFruit$Commune" "trees" "I") : Cond) ∈ q_TT := q_tt 65 (by decide +kernel) (by decide +kernel)
theorem t_66 : ((Jvm.Cond.fieldLink "BallotFruit$Season" (53 : Nat) "BallotFruit$Commune" "eaters" "I") : Cond) ∈ q_TT := q_tt 66 (by decide +kernel) (by decide +kernel)
theorem t_67 : ((Jvm.Cond.fieldLink "BallotFruit$Commune" (67 : Nat) "BallotFruit$Commune" "eaters" "I") : Cond) ∈ q_TT := q_tt 67 (by decide +kernel) (by decide +kernel)
theorem t_68 : ((Jvm.Cond.fieldLink "BallotFruit" (82 : Nat) "BallotFruit$Commune" "eaters" "I") : Cond) ∈ q_TT := q_tt 68 (by decide +kernel) (by decide +kernel)
theorem t_69 : ((Jvm.Cond.fieldLink "BallotFruit$Commune" (70 : Nat) "BallotFruit$Commune" "lines" "I") : Cond) ∈ q_TT := q_tt 69 (by decide +kernel) (by decide +kernel)
theorem t_70 : ((Jvm.Cond.fieldLink "BallotFruit$Pages" (21 : Nat) "BallotFruit$Commune" "lines" "I") : Cond) ∈ q_TT := q_tt 70 (by decide +kernel) (by decide +kernel)
theorem t_71 : ((Jvm.Cond.fieldLink "BallotFruit" (242 : Nat) "BallotFruit$Commune" "lines" "I") : Cond) ∈ q_TT := q_tt 71 (by decide +kernel) (by decide +kernel)
theorem t_72 : ((Jvm.Cond.fieldLink "BallotFruit$Commune" (18 : Nat) "BallotFruit$Commune" "store" "[I") : Cond) ∈ q_TT := q_tt 72 (by decide +kernel) (by decide +kernel)
theorem t_73 : ((Jvm.Cond.fieldLink "BallotFruit$Season" (203 : Nat) "BallotFruit$Commune" "store" "[I") : Cond) ∈ q_TT := q_tt 73 (by decide +kernel) (by decide +kernel)
theorem t_74 : ((Jvm.Cond.fieldLink "BallotFruit" (192 : Nat) "BallotFruit$Commune" "store" "[I") : Cond) ∈ q_TT := q_tt 74 (by decide +kernel) (by decide +kernel)
theorem t_75 : ((Jvm.Cond.fieldLink "BallotFruit$Commune" (22 : Nat) "BallotFruit$Commune" "votes" "[I") : Cond) ∈ q_TT := q_tt 75 (by decide +kernel) (by decide +kernel)
theorem t_76 : ((Jvm.Cond.fieldLink "BallotFruit$Season" (206 : Nat) "BallotFruit$Commune" "votes" "[I") : Cond) ∈ q_TT := q_tt 76 (by decide +kernel) (by decide +kernel)
theorem t_77 : ((Jvm.Cond.fieldLink "BallotFruit" (195 : Nat) "BallotFruit$Commune" "votes" "[I") : Cond) ∈ q_TT := q_tt 77 (by decide +kernel) (by decide +kernel)
theorem t_78 : ((Jvm.Cond.fieldLink "BallotFruit$Commune" (25 : Nat) "BallotFruit$Commune" "seats" "[I") : Cond) ∈ q_TT := q_tt 78 (by decide +kernel) (by decide +kernel)
theorem t_79 : ((Jvm.Cond.fieldLink "BallotFruit$Law" (90 : Nat) "BallotFruit$Commune" "seats" "[I") : Cond) ∈ q_TT := q_tt 79 (by decide +kernel) (by decide +kernel)
theorem t_80 : ((Jvm.Cond.fieldLink "BallotFruit$Season" (218 : Nat) "BallotFruit$Commune" "seats" "[I") : Cond) ∈ q_TT := q_tt 80 (by decide +kernel) (by decide +kernel)
theorem t_81 : ((Jvm.Cond.fieldLink "BallotFruit" (198 : Nat) "BallotFruit$Commune" "seats" "[I") : Cond) ∈ q_TT := q_tt 81 (by decide +kernel) (by decide +kernel)
theorem t_82 : ((Jvm.Cond.fieldLink "BallotFruit$Commune" (28 : Nat) "BallotFruit$Commune" "treeParty" "[I") : Cond) ∈ q_TT := q_tt 82 (by decide +kernel) (by decide +kernel)
theorem t_83 : ((Jvm.Cond.fieldLink "BallotFruit$Law" (47 : Nat) "BallotFruit$Commune" "treeParty" "[I") : Cond) ∈ q_TT := q_tt 83 (by decide +kernel) (by decide +kernel)
theorem t_84 : ((Jvm.Cond.fieldLink "BallotFruit$Season" (169 : Nat) "BallotFruit$Commune" "treeParty" "[I") : Cond) ∈ q_TT := q_tt 84 (by decide +kernel) (by decide +kernel)
theorem t_85 : ((Jvm.Cond.fieldLink "BallotFruit" (207 : Nat) "BallotFruit$Commune" "treeParty" "[I") : Cond) ∈ q_TT := q_tt 85 (by decide +kernel) (by decide +kernel)
theorem t_86 : ((Jvm.Cond.fieldLink "BallotFruit$Commune" (31 : Nat) "BallotFruit$Commune" "treePlace" "[I") : Cond) ∈ q_TT := q_tt 86 (by decide +kernel) (by decide +kernel)
theorem t_87 : ((Jvm.Cond.fieldLink "BallotFruit$Law" (93 : Nat) "BallotFruit$Commune" "treePlace" "[I") : Cond) ∈ q_TT := q_tt 87 (by decide +kernel) (by decide +kernel)
theorem t_88 : ((Jvm.Cond.fieldLink "BallotFruit" (210 : Nat) "BallotFruit$Commune" "treePlace" "[I") : Cond) ∈ q_TT := q_tt 88 (by decide +kernel) (by decide +kernel)
theorem t_89 : ((Jvm.Cond.fieldLink "BallotFruit$Commune" (34 : Nat) "BallotFruit$Commune" "treeAge" "[I") : Cond) ∈ q_TT := q_tt 89 (by decide +kernel) (by decide +kernel)
theorem t_90 : ((Jvm.Cond.fieldLink "BallotFruit$Law" (59 : Nat) "BallotFruit$Commune" "treeAge" "[I") : Cond) ∈ q_TT := q_tt 90 (by decide +kernel) (by decide +kernel)
theorem t_91 : ((Jvm.Cond.fieldLink "BallotFruit" (213 : Nat) "BallotFruit$Commune" "treeAge" "[I") : Cond) ∈ q_TT := q_tt 91 (by decide +kernel) (by decide +kernel)
theorem t_92 : ((Jvm.Cond.fieldLink "BallotFruit$Commune" (37 : Nat) "BallotFruit$Commune" "hanging" "[I") : Cond) ∈ q_TT := q_tt 92 (by decide +kernel) (by decide +kernel)
theorem t_93 : ((Jvm.Cond.fieldLink "BallotFruit$Season" (32 : Nat) "BallotFruit$Commune" "hanging" "[I") : Cond) ∈ q_TT := q_tt 93 (by decide +kernel) (by decide +kernel)
theorem t_94 : ((Jvm.Cond.fieldLink "BallotFruit$Law" (96 : Nat) "BallotFruit$Commune" "hanging" "[I") : Cond) ∈ q_TT := q_tt 94 (by decide +kernel) (by decide +kernel)
theorem t_95 : ((Jvm.Cond.fieldLink "BallotFruit" (216 : Nat) "BallotFruit$Commune" "hanging" "[I") : Cond) ∈ q_TT := q_tt 95 (by decide +kernel) (by decide +kernel)
theorem t_96 : ((Jvm.Cond.fieldLink "BallotFruit$Commune" (40 : Nat) "BallotFruit$Commune" "hungers" "[I") : Cond) ∈ q_TT := q_tt 96 (by decide +kernel) (by decide +kernel)
theorem t_97 : ((Jvm.Cond.fieldLink "BallotFruit$Law" (69 : Nat) "BallotFruit$Commune" "hungers" "[I") : Cond) ∈ q_TT := q_tt 97 (by decide +kernel) (by decide +kernel)
theorem t_98 : ((Jvm.Cond.fieldLink "BallotFruit$Season" (132 : Nat) "BallotFruit$Commune" "hungers" "[I") : Cond) ∈ q_TT := q_tt 98 (by decide +kernel) (by decide +kernel)
theorem t_99 : ((Jvm.Cond.fieldLink "BallotFruit" (225 : Nat) "BallotFruit$Commune" "hungers" "[I") : Cond) ∈ q_TT := q_tt 99 (by decide +kernel) (by decide +kernel)
theorem t_100 : ((Jvm.Cond.fieldLink "BallotFruit$Commune" (43 : Nat) "BallotFruit$Commune" "tastes" "[I") : Cond) ∈ q_TT := q_tt 100 (by decide +kernel) (by decide +kernel)
theorem t_101 : ((Jvm.Cond.fieldLink "BallotFruit" (95 : Nat) "BallotFruit$Commune" "tastes" "[I") : Cond) ∈ q_TT := q_tt 101 (by decide +kernel) (by decide +kernel)
theorem t_102 : ((Jvm.Cond.fieldLink "BallotFruit$Season" (190 : Nat) "BallotFruit$Commune" "tastes" "[I") : Cond) ∈ q_TT := q_tt 102 (by decide +kernel) (by decide +kernel)
theorem t_103 : ((Jvm.Cond.lays "BallotFruit$Commune" "BallotFruit$Commune" "week" "I") : Cond) ∈ q_TT := q_tt 103 (by decide +kernel) (by decide +kernel)
theorem t_105 : ((Jvm.Cond.lays "BallotFruit$Commune" "BallotFruit$Commune" "state" "I") : Cond) ∈ q_TT := q_tt 105 (by decide +kernel) (by decide +kernel)
theorem t_107 : ((Jvm.Cond.lays "BallotFruit$Commune" "BallotFruit$Commune" "bad" "I") : Cond) ∈ q_TT := q_tt 107 (by decide +kernel) (by decide +kernel)
theorem t_109 : ((Jvm.Cond.lays "BallotFruit$Commune" "BallotFruit$Commune" "wasps" "I") : Cond) ∈ q_TT := q_tt 109 (by decide +kernel) (by decide +kernel)
theorem t_111 : ((Jvm.Cond.lays "BallotFruit$Commune" "BallotFruit$Commune" "chairs" "I") : Cond) ∈ q_TT := q_tt 111 (by decide +kernel) (by decide +kernel)
theorem t_113 : ((Jvm.Cond.lays "BallotFruit$Commune" "BallotFruit$Commune" "every" "I") : Cond) ∈ q_TT := q_tt 113 (by decide +kernel) (by decide +kernel)
theorem t_115 : ((Jvm.Cond.lays "BallotFruit$Commune" "BallotFruit$Commune" "fences" "I") : Cond) ∈ q_TT := q_tt 115 (by decide +kernel) (by decide +kernel)
theorem t_117 : ((Jvm.Cond.lays "BallotFruit$Commune" "BallotFruit$Commune" "parties" "I") : Cond) ∈ q_TT := q_tt 117 (by decide +kernel) (by decide +kernel)
theorem t_119 : ((Jvm.Cond.lays "BallotFruit$Commune" "BallotFruit$Commune" "trees" "I") : Cond) ∈ q_TT := q_tt 119 (by decide +kernel) (by decide +kernel)
theorem t_121 : ((Jvm.Cond.lays "BallotFruit$Commune" "BallotFruit$Commune" "eaters" "I") : Cond) ∈ q_TT := q_tt 121 (by decide +kernel) (by decide +kernel)
theorem t_123 : ((Jvm.Cond.lays "BallotFruit$Commune" "BallotFruit$Commune" "lines" "I") : Cond) ∈ q_TT := q_tt 123 (by decide +kernel) (by decide +kernel)
theorem t_125 : ((Jvm.Cond.laysFinal "BallotFruit$Commune" "BallotFruit$Commune" "store" "[I") : Cond) ∈ q_TT := q_tt 125 (by decide +kernel) (by decide +kernel)
theorem t_127 : ((Jvm.Cond.laysFinal "BallotFruit$Commune" "BallotFruit$Commune" "votes" "[I") : Cond) ∈ q_TT := q_tt 127 (by decide +kernel) (by decide +kernel)
theorem t_129 : ((Jvm.Cond.laysFinal "BallotFruit$Commune" "BallotFruit$Commune" "seats" "[I") : Cond) ∈ q_TT := q_tt 129 (by decide +kernel) (by decide +kernel)
theorem t_131 : ((Jvm.Cond.laysFinal "BallotFruit$Commune" "BallotFruit$Commune" "treeParty" "[I") : Cond) ∈ q_TT := q_tt 131 (by decide +kernel) (by decide +kernel)
theorem t_133 : ((Jvm.Cond.laysFinal "BallotFruit$Commune" "BallotFruit$Commune" "treePlace" "[I") : Cond) ∈ q_TT := q_tt 133 (by decide +kernel) (by decide +kernel)
theorem t_135 : ((Jvm.Cond.laysFinal "BallotFruit$Commune" "BallotFruit$Commune" "treeAge" "[I") : Cond) ∈ q_TT := q_tt 135 (by decide +kernel) (by decide +kernel)
theorem t_137 : ((Jvm.Cond.laysFinal "BallotFruit$Commune" "BallotFruit$Commune" "hanging" "[I") : Cond) ∈ q_TT := q_tt 137 (by decide +kernel) (by decide +kernel)
theorem t_139 : ((Jvm.Cond.laysFinal "BallotFruit$Commune" "BallotFruit$Commune" "hungers" "[I") : Cond) ∈ q_TT := q_tt 139 (by decide +kernel) (by decide +kernel)
theorem t_141 : ((Jvm.Cond.laysFinal "BallotFruit$Commune" "BallotFruit$Commune" "tastes" "[I") : Cond) ∈ q_TT := q_tt 141 (by decide +kernel) (by decide +kernel)
theorem t_144 : ((Jvm.Cond.arrayClass Jvm.ClassFile.FieldType.int) : Cond) ∈ q_TT := q_tt 144 (by decide +kernel) (by decide +kernel)
theorem t_145 : ((Jvm.Cond.classLink "BallotFruit$Whole" (16 : Nat) "BallotFruit$Law") : Cond) ∈ q_TT := q_tt 145 (by decide +kernel) (by decide +kernel)
theorem t_146 : ((Jvm.Cond.instantiable "BallotFruit$Law" (9 : Nat)) : Cond) ∈ q_TT := q_tt 146 (by decide +kernel) (by decide +kernel)
theorem t_148 : ((Jvm.Cond.instanceMethod ({ cls := "BallotFruit$Law", name := "<init>", desc := "()V" } : Jvm.MethodName)) : Cond) ∈ q_TT := q_tt 148 (by decide +kernel) (by decide +kernel)
theorem t_149 : ((Jvm.Cond.code ({ cls := "BallotFruit$Law", name := "<init>", desc := "()V" } : Jvm.MethodName) prog_4_method_1_code (1 : Nat) (Option.none : Option Jvm.ClassFile.FieldType)) : Cond) ∈ q_TT := q_tc1 149 rfl rfl
theorem t_150 : ((Jvm.Cond.methodLink "BallotFruit$Law" (3 : Nat) ({ cls := "java/lang/Object", name := "<init>", desc := "()V" } : Jvm.MethodName)) : Cond) ∈ q_TT := q_tt 150 (by decide +kernel) (by decide +kernel)
theorem t_151 : ((Jvm.Cond.fieldLink "BallotFruit$Law" (30 : Nat) "BallotFruit$Law" "lines" "I") : Cond) ∈ q_TT := q_tt 151 (by decide +kernel) (by decide +kernel)
theorem t_152 : ((Jvm.Cond.fieldLink "BallotFruit$Reader" (76 : Nat) "BallotFruit$Law" "lines" "I") : Cond) ∈ q_TT := q_tt 152 (by decide +kernel) (by decide +kernel)
theorem t_153 : ((Jvm.Cond.fieldLink "BallotFruit" (334 : Nat) "BallotFruit$Law" "lines" "I") : Cond) ∈ q_TT := q_tt 153 (by decide +kernel) (by decide +kernel)
theorem t_154 : ((Jvm.Cond.fieldLink "BallotFruit$Law" (9 : Nat) "BallotFruit$Law" "words" "[I") : Cond) ∈ q_TT := q_tt 154 (by decide +kernel) (by decide +kernel)
theorem t_155 : ((Jvm.Cond.fieldLink "BallotFruit$Reader" (112 : Nat) "BallotFruit$Law" "words" "[I") : Cond) ∈ q_TT := q_tt 155 (by decide +kernel) (by decide +kernel)
theorem t_156 : ((Jvm.Cond.fieldLink "BallotFruit$Law" (15 : Nat) "BallotFruit$Law" "starts" "[I") : Cond) ∈ q_TT := q_tt 156 (by decide +kernel) (by decide +kernel)
theorem t_157 : ((Jvm.Cond.fieldLink "BallotFruit$Reader" (72 : Nat) "BallotFruit$Law" "starts" "[I") : Cond) ∈ q_TT := q_tt 157 (by decide +kernel) (by decide +kernel)
theorem t_158 : ((Jvm.Cond.fieldLink "BallotFruit$Law" (18 : Nat) "BallotFruit$Law" "whens" "[I") : Cond) ∈ q_TT := q_tt 158 (by decide +kernel) (by decide +kernel)
theorem t_159 : ((Jvm.Cond.fieldLink "BallotFruit$Reader" (119 : Nat) "BallotFruit$Law" "whens" "[I") : Cond) ∈ q_TT := q_tt 159 (by decide +kernel) (by decide +kernel)
theorem t_160 : ((Jvm.Cond.fieldLink "BallotFruit$Law" (21 : Nat) "BallotFruit$Law" "code" "[I") : Cond) ∈ q_TT := q_tt 160 (by decide +kernel) (by decide +kernel)
theorem t_161 : ((Jvm.Cond.fieldLink "BallotFruit$Law" (34 : Nat) "BallotFruit$Law" "length" "I") : Cond) ∈ q_TT := q_tt 161 (by decide +kernel) (by decide +kernel)
theorem t_162 : ((Jvm.Cond.fieldLink "BallotFruit$Reader" (79 : Nat) "BallotFruit$Law" "length" "I") : Cond) ∈ q_TT := q_tt 162 (by decide +kernel) (by decide +kernel)
theorem t_163 : ((Jvm.Cond.fieldLink "BallotFruit$Law" (37 : Nat) "BallotFruit$Law" "countsByHanging" "Z") : Cond) ∈ q_TT := q_tt 163 (by decide +kernel) (by decide +kernel)
theorem t_164 : ((Jvm.Cond.fieldLink "BallotFruit$Season" (172 : Nat) "BallotFruit$Law" "countsByHanging" "Z") : Cond) ∈ q_TT := q_tt 164 (by decide +kernel) (by decide +kernel)
theorem t_165 : ((Jvm.Cond.fieldLink "BallotFruit$Reader" (148 : Nat) "BallotFruit$Law" "countsByHanging" "Z") : Cond) ∈ q_TT := q_tt 165 (by decide +kernel) (by decide +kernel)
theorem t_166 : ((Jvm.Cond.fieldLink "BallotFruit$Law" (24 : Nat) "BallotFruit$Law" "stack" "[I") : Cond) ∈ q_TT := q_tt 166 (by decide +kernel) (by decide +kernel)
theorem t_167 : ((Jvm.Cond.fieldLink "BallotFruit$Law" (27 : Nat) "BallotFruit$Law" "asked" "[I") : Cond) ∈ q_TT := q_tt 167 (by decide +kernel) (by decide +kernel)
theorem t_168 : ((Jvm.Cond.lays "BallotFruit$Law" "BallotFruit$Law" "lines" "I") : Cond) ∈ q_TT := q_tt 168 (by decide +kernel) (by decide +kernel)
theorem t_170 : ((Jvm.Cond.laysFinal "BallotFruit$Law" "BallotFruit$Law" "words" "[I") : Cond) ∈ q_TT := q_tt 170 (by decide +kernel) (by decide +kernel)
theorem t_172 : ((Jvm.Cond.laysFinal "BallotFruit$Law" "BallotFruit$Law" "starts" "[I") : Cond) ∈ q_TT := q_tt 172 (by decide +kernel) (by decide +kernel)
theorem t_174 : ((Jvm.Cond.laysFinal "BallotFruit$Law" "BallotFruit$Law" "whens" "[I") : Cond) ∈ q_TT := q_tt 174 (by decide +kernel) (by decide +kernel)
theorem t_176 : ((Jvm.Cond.laysFinal "BallotFruit$Law" "BallotFruit$Law" "code" "[I") : Cond) ∈ q_TT := q_tt 176 (by decide +kernel) (by decide +kernel)
theorem t_178 : ((Jvm.Cond.lays "BallotFruit$Law" "BallotFruit$Law" "length" "I") : Cond) ∈ q_TT := q_tt 178 (by decide +kernel) (by decide +kernel)
theorem t_180 : ((Jvm.Cond.lays "BallotFruit$Law" "BallotFruit$Law" "countsByHanging" "Z") : Cond) ∈ q_TT := q_tt 180 (by decide +kernel) (by decide +kernel)
theorem t_182 : ((Jvm.Cond.laysFinal "BallotFruit$Law" "BallotFruit$Law" "stack" "[I") : Cond) ∈ q_TT := q_tt 182 (by decide +kernel) (by decide +kernel)
theorem t_184 : ((Jvm.Cond.laysFinal "BallotFruit$Law" "BallotFruit$Law" "asked" "[I") : Cond) ∈ q_TT := q_tt 184 (by decide +kernel) (by decide +kernel)
theorem t_187 : ((Jvm.Cond.classLink "BallotFruit$Whole" (23 : Nat) "BallotFruit$Paths") : Cond) ∈ q_TT := q_tt 187 (by decide +kernel) (by decide +kernel)
theorem t_188 : ((Jvm.Cond.instantiable "BallotFruit$Paths" (4 : Nat)) : Cond) ∈ q_TT := q_tt 188 (by decide +kernel) (by decide +kernel)
theorem t_190 : ((Jvm.Cond.instanceMethod ({ cls := "BallotFruit$Paths", name := "<init>", desc := "()V" } : Jvm.MethodName)) : Cond) ∈ q_TT := q_tt 190 (by decide +kernel) (by decide +kernel)
theorem t_191 : ((Jvm.Cond.code ({ cls := "BallotFruit$Paths", name := "<init>", desc := "()V" } : Jvm.MethodName) prog_6_method_1_code (1 : Nat) (Option.none : Option Jvm.ClassFile.FieldType)) : Cond) ∈ q_TT := q_tc1 191 rfl rfl
theorem t_192 : ((Jvm.Cond.methodLink "BallotFruit$Paths" (3 : Nat) ({ cls := "java/lang/Object", name := "<init>", desc := "()V" } : Jvm.MethodName)) : Cond) ∈ q_TT := q_tt 192 (by decide +kernel) (by decide +kernel)
theorem t_193 : ((Jvm.Cond.fieldLink "BallotFruit$Paths" (21 : Nat) "BallotFruit$Paths" "lines" "I") : Cond) ∈ q_TT := q_tt 193 (by decide +kernel) (by decide +kernel)
theorem t_194 : ((Jvm.Cond.fieldLink "BallotFruit$Reader" (95 : Nat) "BallotFruit$Paths" "lines" "I") : Cond) ∈ q_TT := q_tt 194 (by decide +kernel) (by decide +kernel)
theorem t_195 : ((Jvm.Cond.fieldLink "BallotFruit" (335 : Nat) "BallotFruit$Paths" "lines" "I") : Cond) ∈ q_TT := q_tt 195 (by decide +kernel) (by decide +kernel)
theorem t_196 : ((Jvm.Cond.fieldLink "BallotFruit$Paths" (9 : Nat) "BallotFruit$Paths" "lengths" "[I") : Cond) ∈ q_TT := q_tt 196 (by decide +kernel) (by decide +kernel)
theorem t_197 : ((Jvm.Cond.fieldLink "BallotFruit$Season" (150 : Nat) "BallotFruit$Paths" "lengths" "[I") : Cond) ∈ q_TT := q_tt 197 (by decide +kernel) (by decide +kernel)
theorem t_198 : ((Jvm.Cond.fieldLink "BallotFruit" (231 : Nat) "BallotFruit$Paths" "lengths" "[I") : Cond) ∈ q_TT := q_tt 198 (by decide +kernel) (by decide +kernel)
theorem t_199 : ((Jvm.Cond.fieldLink "BallotFruit$Paths" (15 : Nat) "BallotFruit$Paths" "steps" "[I") : Cond) ∈ q_TT := q_tt 199 (by decide +kernel) (by decide +kernel)
theorem t_200 : ((Jvm.Cond.fieldLink "BallotFruit$Paths" (18 : Nat) "BallotFruit$Paths" "passed" "[I") : Cond) ∈ q_TT := q_tt 200 (by decide +kernel) (by decide +kernel)
theorem t_201 : ((Jvm.Cond.fieldLink "BallotFruit" (290 : Nat) "BallotFruit$Paths" "passed" "[I") : Cond) ∈ q_TT := q_tt 201 (by decide +kernel) (by decide +kernel)
theorem t_202 : ((Jvm.Cond.lays "BallotFruit$Paths" "BallotFruit$Paths" "lines" "I") : Cond) ∈ q_TT := q_tt 202 (by decide +kernel) (by decide +kernel)
theorem t_204 : ((Jvm.Cond.laysFinal "BallotFruit$Paths" "BallotFruit$Paths" "lengths" "[I") : Cond) ∈ q_TT := q_tt 204 (by decide +kernel) (by decide +kernel)
theorem t_206 : ((Jvm.Cond.laysFinal "BallotFruit$Paths" "BallotFruit$Paths" "steps" "[I") : Cond) ∈ q_TT := q_tt 206 (by decide +kernel) (by decide +kernel)
theorem t_208 : ((Jvm.Cond.laysFinal "BallotFruit$Paths" "BallotFruit$Paths" "passed" "[I") : Cond) ∈ q_TT := q_tt 208 (by decide +kernel) (by decide +kernel)
theorem t_211 : ((Jvm.Cond.classLink "BallotFruit$Whole" (30 : Nat) "BallotFruit$Plan") : Cond) ∈ q_TT := q_tt 211 (by decide +kernel) (by decide +kernel)
theorem t_212 : ((Jvm.Cond.instantiable "BallotFruit$Plan" (5 : Nat)) : Cond) ∈ q_TT := q_tt 212 (by decide +kernel) (by decide +kernel)
theorem t_214 : ((Jvm.Cond.instanceMethod ({ cls := "BallotFruit$Plan", name := "<init>", desc := "()V" } : Jvm.MethodName)) : Cond) ∈ q_TT := q_tt 214 (by decide +kernel) (by decide +kernel)
theorem t_215 : ((Jvm.Cond.code ({ cls := "BallotFruit$Plan", name := "<init>", desc := "()V" } : Jvm.MethodName) prog_7_method_1_code (1 : Nat) (Option.none : Option Jvm.ClassFile.FieldType)) : Cond) ∈ q_TT := q_tc1 215 rfl rfl
theorem t_216 : ((Jvm.Cond.methodLink "BallotFruit$Plan" (3 : Nat) ({ cls := "java/lang/Object", name := "<init>", desc := "()V" } : Jvm.MethodName)) : Cond) ∈ q_TT := q_tt 216 (by decide +kernel) (by decide +kernel)
theorem t_217 : ((Jvm.Cond.fieldLink "BallotFruit$Plan" (24 : Nat) "BallotFruit$Plan" "lines" "I") : Cond) ∈ q_TT := q_tt 217 (by decide +kernel) (by decide +kernel)
theorem t_218 : ((Jvm.Cond.fieldLink "BallotFruit$Season" (91 : Nat) "BallotFruit$Plan" "lines" "I") : Cond) ∈ q_TT := q_tt 218 (by decide +kernel) (by decide +kernel)
theorem t_219 : ((Jvm.Cond.fieldLink "BallotFruit$Reader" (98 : Nat) "BallotFruit$Plan" "lines" "I") : Cond) ∈ q_TT := q_tt 219 (by decide +kernel) (by decide +kernel)
theorem t_220 : ((Jvm.Cond.fieldLink "BallotFruit" (336 : Nat) "BallotFruit$Plan" "lines" "I") : Cond) ∈ q_TT := q_tt 220 (by decide +kernel) (by decide +kernel)
theorem t_221 : ((Jvm.Cond.fieldLink "BallotFruit$Plan" (9 : Nat) "BallotFruit$Plan" "weeks" "[I") : Cond) ∈ q_TT := q_tt 221 (by decide +kernel) (by decide +kernel)
theorem t_222 : ((Jvm.Cond.fieldLink "BallotFruit$Season" (96 : Nat) "BallotFruit$Plan" "weeks" "[I") : Cond) ∈ q_TT := q_tt 222 (by decide +kernel) (by decide +kernel)
theorem t_223 : ((Jvm.Cond.fieldLink "BallotFruit$Reader" (163 : Nat) "BallotFruit$Plan" "weeks" "[I") : Cond) ∈ q_TT := q_tt 223 (by decide +kernel) (by decide +kernel)
theorem t_224 : ((Jvm.Cond.fieldLink "BallotFruit$Plan" (15 : Nat) "BallotFruit$Plan" "whats" "[I") : Cond) ∈ q_TT := q_tt 224 (by decide +kernel) (by decide +kernel)
theorem t_225 : ((Jvm.Cond.fieldLink "BallotFruit$Season" (112 : Nat) "BallotFruit$Plan" "whats" "[I") : Cond) ∈ q_TT := q_tt 225 (by decide +kernel) (by decide +kernel)
theorem t_226 : ((Jvm.Cond.fieldLink "BallotFruit$Reader" (166 : Nat) "BallotFruit$Plan" "whats" "[I") : Cond) ∈ q_TT := q_tt 226 (by decide +kernel) (by decide +kernel)
theorem t_227 : ((Jvm.Cond.fieldLink "BallotFruit$Plan" (18 : Nat) "BallotFruit$Plan" "whos" "[I") : Cond) ∈ q_TT := q_tt 227 (by decide +kernel) (by decide +kernel)
theorem t_228 : ((Jvm.Cond.fieldLink "BallotFruit$Season" (115 : Nat) "BallotFruit$Plan" "whos" "[I") : Cond) ∈ q_TT := q_tt 228 (by decide +kernel) (by decide +kernel)
theorem t_229 : ((Jvm.Cond.fieldLink "BallotFruit$Reader" (169 : Nat) "BallotFruit$Plan" "whos" "[I") : Cond) ∈ q_TT := q_tt 229 (by decide +kernel) (by decide +kernel)
theorem t_230 : ((Jvm.Cond.fieldLink "BallotFruit$Plan" (21 : Nat) "BallotFruit$Plan" "others" "[I") : Cond) ∈ q_TT := q_tt 230 (by decide +kernel) (by decide +kernel)
theorem t_231 : ((Jvm.Cond.fieldLink "BallotFruit$Season" (118 : Nat) "BallotFruit$Plan" "others" "[I") : Cond) ∈ q_TT := q_tt 231 (by decide +kernel) (by decide +kernel)
theorem t_232 : ((Jvm.Cond.fieldLink "BallotFruit$Reader" (172 : Nat) "BallotFruit$Plan" "others" "[I") : Cond) ∈ q_TT := q_tt 232 (by decide +kernel) (by decide +kernel)
theorem t_233 : ((Jvm.Cond.lays "BallotFruit$Plan" "BallotFruit$Plan" "lines" "I") : Cond) ∈ q_TT := q_tt 233 (by decide +kernel) (by decide +kernel)
theorem t_235 : ((Jvm.Cond.laysFinal "BallotFruit$Plan" "BallotFruit$Plan" "weeks" "[I") : Cond) ∈ q_TT := q_tt 235 (by decide +kernel) (by decide +kernel)
theorem t_237 : ((Jvm.Cond.laysFinal "BallotFruit$Plan" "BallotFruit$Plan" "whats" "[I") : Cond) ∈ q_TT := q_tt 237 (by decide +kernel) (by decide +kernel)
theorem t_239 : ((Jvm.Cond.laysFinal "BallotFruit$Plan" "BallotFruit$Plan" "whos" "[I") : Cond) ∈ q_TT := q_tt 239 (by decide +kernel) (by decide +kernel)
theorem t_241 : ((Jvm.Cond.laysFinal "BallotFruit$Plan" "BallotFruit$Plan" "others" "[I") : Cond) ∈ q_TT := q_tt 241 (by decide +kernel) (by decide +kernel)
theorem t_244 : ((Jvm.Cond.classLink "BallotFruit$Whole" (37 : Nat) "BallotFruit$Cores") : Cond) ∈ q_TT := q_tt 244 (by decide +kernel) (by decide +kernel)
theorem t_245 : ((Jvm.Cond.instantiable "BallotFruit$Cores" (3 : Nat)) : Cond) ∈ q_TT := q_tt 245 (by decide +kernel) (by decide +kernel)
theorem t_247 : ((Jvm.Cond.instanceMethod ({ cls := "BallotFruit$Cores", name := "<init>", desc := "()V" } : Jvm.MethodName)) : Cond) ∈ q_TT := q_tt 247 (by decide +kernel) (by decide +kernel)
theorem t_248 : ((Jvm.Cond.code ({ cls := "BallotFruit$Cores", name := "<init>", desc := "()V" } : Jvm.MethodName) prog_3_method_1_code (1 : Nat) (Option.none : Option Jvm.ClassFile.FieldType)) : Cond) ∈ q_TT := q_tc2 8 rfl rfl
theorem t_249 : ((Jvm.Cond.methodLink "BallotFruit$Cores" (3 : Nat) ({ cls := "java/lang/Object", name := "<init>", desc := "()V" } : Jvm.MethodName)) : Cond) ∈ q_TT := q_tt 249 (by decide +kernel) (by decide +kernel)
theorem t_250 : ((Jvm.Cond.fieldLink "BallotFruit$Cores" (18 : Nat) "BallotFruit$Cores" "count" "I") : Cond) ∈ q_TT := q_tt 250 (by decide +kernel) (by decide +kernel)
theorem t_251 : ((Jvm.Cond.fieldLink "BallotFruit" (282 : Nat) "BallotFruit$Cores" "count" "I") : Cond) ∈ q_TT := q_tt 251 (by decide +kernel) (by decide +kernel)
theorem t_252 : ((Jvm.Cond.fieldLink "BallotFruit$Cores" (9 : Nat) "BallotFruit$Cores" "parties" "[I") : Cond) ∈ q_TT := q_tt 252 (by decide +kernel) (by decide +kernel)
theorem t_253 : ((Jvm.Cond.fieldLink "BallotFruit$Cores" (15 : Nat) "BallotFruit$Cores" "places" "[I") : Cond) ∈ q_TT := q_tt 253 (by decide +kernel) (by decide +kernel)
theorem t_254 : ((Jvm.Cond.lays "BallotFruit$Cores" "BallotFruit$Cores" "count" "I") : Cond) ∈ q_TT := q_tt 254 (by decide +kernel) (by decide +kernel)
theorem t_256 : ((Jvm.Cond.laysFinal "BallotFruit$Cores" "BallotFruit$Cores" "parties" "[I") : Cond) ∈ q_TT := q_tt 256 (by decide +kernel) (by decide +kernel)
theorem t_258 : ((Jvm.Cond.laysFinal "BallotFruit$Cores" "BallotFruit$Cores" "places" "[I") : Cond) ∈ q_TT := q_tt 258 (by decide +kernel) (by decide +kernel)
theorem t_261 : ((Jvm.Cond.classLink "BallotFruit$Whole" (44 : Nat) "BallotFruit$Pages") : Cond) ∈ q_TT := q_tt 261 (by decide +kernel) (by decide +kernel)
theorem t_262 : ((Jvm.Cond.instantiable "BallotFruit$Pages" (1 : Nat)) : Cond) ∈ q_TT := q_tt 262 (by decide +kernel) (by decide +kernel)
theorem t_264 : ((Jvm.Cond.instanceMethod ({ cls := "BallotFruit$Pages", name := "<init>", desc := "()V" } : Jvm.MethodName)) : Cond) ∈ q_TT := q_tt 264 (by decide +kernel) (by decide +kernel)
theorem t_265 : ((Jvm.Cond.code ({ cls := "BallotFruit$Pages", name := "<init>", desc := "()V" } : Jvm.MethodName) prog_5_method_1_code (1 : Nat) (Option.none : Option Jvm.ClassFile.FieldType)) : Cond) ∈ q_TT := q_tc2 25 rfl rfl
theorem t_266 : ((Jvm.Cond.methodLink "BallotFruit$Pages" (3 : Nat) ({ cls := "java/lang/Object", name := "<init>", desc := "()V" } : Jvm.MethodName)) : Cond) ∈ q_TT := q_tt 266 (by decide +kernel) (by decide +kernel)
theorem t_267 : ((Jvm.Cond.fieldLink "BallotFruit$Pages" (9 : Nat) "BallotFruit$Pages" "rows" "[I") : Cond) ∈ q_TT := q_tt 267 (by decide +kernel) (by decide +kernel)
theorem t_268 : ((Jvm.Cond.fieldLink "BallotFruit" (245 : Nat) "BallotFruit$Pages" "rows" "[I") : Cond) ∈ q_TT := q_tt 268 (by decide +kernel) (by decide +kernel)
theorem t_269 : ((Jvm.Cond.laysFinal "BallotFruit$Pages" "BallotFruit$Pages" "rows" "[I") : Cond) ∈ q_TT := q_tt 269 (by decide +kernel) (by decide +kernel)
theorem t_272 : ((Jvm.Cond.fieldLink "BallotFruit$Whole" (10 : Nat) "BallotFruit$Whole" "commune" "LBallotFruit$Commune;") : Cond) ∈ q_TT := q_tt 272 (by decide +kernel) (by decide +kernel)
theorem t_273 : ((Jvm.Cond.fieldLink "BallotFruit" (16 : Nat) "BallotFruit$Whole" "commune" "LBallotFruit$Commune;") : Cond) ∈ q_TT := q_tt 273 (by decide +kernel) (by decide +kernel)
theorem t_274 : ((Jvm.Cond.fieldLink "BallotFruit$Whole" (19 : Nat) "BallotFruit$Whole" "law" "LBallotFruit$Law;") : Cond) ∈ q_TT := q_tt 274 (by decide +kernel) (by decide +kernel)
theorem t_275 : ((Jvm.Cond.fieldLink "BallotFruit$Season" (35 : Nat) "BallotFruit$Whole" "law" "LBallotFruit$Law;") : Cond) ∈ q_TT := q_tt 275 (by decide +kernel) (by decide +kernel)
theorem t_276 : ((Jvm.Cond.fieldLink "BallotFruit" (162 : Nat) "BallotFruit$Whole" "law" "LBallotFruit$Law;") : Cond) ∈ q_TT := q_tt 276 (by decide +kernel) (by decide +kernel)
theorem t_277 : ((Jvm.Cond.fieldLink "BallotFruit$Whole" (26 : Nat) "BallotFruit$Whole" "paths" "LBallotFruit$Paths;") : Cond) ∈ q_TT := q_tt 277 (by decide +kernel) (by decide +kernel)
theorem t_278 : ((Jvm.Cond.fieldLink "BallotFruit$Season" (146 : Nat) "BallotFruit$Whole" "paths" "LBallotFruit$Paths;") : Cond) ∈ q_TT := q_tt 278 (by decide +kernel) (by decide +kernel)
theorem t_279 : ((Jvm.Cond.fieldLink "BallotFruit" (170 : Nat) "BallotFruit$Whole" "paths" "LBallotFruit$Paths;") : Cond) ∈ q_TT := q_tt 279 (by decide +kernel) (by decide +kernel)
theorem t_280 : ((Jvm.Cond.fieldLink "BallotFruit$Whole" (33 : Nat) "BallotFruit$Whole" "plan" "LBallotFruit$Plan;") : Cond) ∈ q_TT := q_tt 280 (by decide +kernel) (by decide +kernel)
theorem t_281 : ((Jvm.Cond.fieldLink "BallotFruit$Season" (87 : Nat) "BallotFruit$Whole" "plan" "LBallotFruit$Plan;") : Cond) ∈ q_TT := q_tt 281 (by decide +kernel) (by decide +kernel)
theorem t_282 : ((Jvm.Cond.fieldLink "BallotFruit" (178 : Nat) "BallotFruit$Whole" "plan" "LBallotFruit$Plan;") : Cond) ∈ q_TT := q_tt 282 (by decide +kernel) (by decide +kernel)
theorem t_283 : ((Jvm.Cond.fieldLink "BallotFruit$Whole" (40 : Nat) "BallotFruit$Whole" "cores" "LBallotFruit$Cores;") : Cond) ∈ q_TT := q_tt 283 (by decide +kernel) (by decide +kernel)
theorem t_284 : ((Jvm.Cond.fieldLink "BallotFruit" (278 : Nat) "BallotFruit$Whole" "cores" "LBallotFruit$Cores;") : Cond) ∈ q_TT := q_tt 284 (by decide +kernel) (by decide +kernel)
theorem t_285 : ((Jvm.Cond.fieldLink "BallotFruit$Whole" (47 : Nat) "BallotFruit$Whole" "pages" "LBallotFruit$Pages;") : Cond) ∈ q_TT := q_tt 285 (by decide +kernel) (by decide +kernel)
theorem t_286 : ((Jvm.Cond.fieldLink "BallotFruit$Season" (102 : Nat) "BallotFruit$Whole" "pages" "LBallotFruit$Pages;") : Cond) ∈ q_TT := q_tt 286 (by decide +kernel) (by decide +kernel)
theorem t_287 : ((Jvm.Cond.fieldLink "BallotFruit" (119 : Nat) "BallotFruit$Whole" "pages" "LBallotFruit$Pages;") : Cond) ∈ q_TT := q_tt 287 (by decide +kernel) (by decide +kernel)
theorem t_288 : ((Jvm.Cond.laysFinal "BallotFruit$Whole" "BallotFruit$Whole" "commune" "LBallotFruit$Commune;") : Cond) ∈ q_TT := q_tt 288 (by decide +kernel) (by decide +kernel)
theorem t_290 : ((Jvm.Cond.laysFinal "BallotFruit$Whole" "BallotFruit$Whole" "law" "LBallotFruit$Law;") : Cond) ∈ q_TT := q_tt 290 (by decide +kernel) (by decide +kernel)
theorem t_292 : ((Jvm.Cond.laysFinal "BallotFruit$Whole" "BallotFruit$Whole" "paths" "LBallotFruit$Paths;") : Cond) ∈ q_TT := q_tt 292 (by decide +kernel) (by decide +kernel)
theorem t_294 : ((Jvm.Cond.laysFinal "BallotFruit$Whole" "BallotFruit$Whole" "plan" "LBallotFruit$Plan;") : Cond) ∈ q_TT := q_tt 294 (by decide +kernel) (by decide +kernel)
theorem t_296 : ((Jvm.Cond.laysFinal "BallotFruit$Whole" "BallotFruit$Whole" "cores" "LBallotFruit$Cores;") : Cond) ∈ q_TT := q_tt 296 (by decide +kernel) (by decide +kernel)
theorem t_298 : ((Jvm.Cond.laysFinal "BallotFruit$Whole" "BallotFruit$Whole" "pages" "LBallotFruit$Pages;") : Cond) ∈ q_TT := q_tt 298 (by decide +kernel) (by decide +kernel)
theorem t_301 : ((Jvm.Cond.classLink "BallotFruit" (26 : Nat) "BallotFruit$Commune") : Cond) ∈ q_TT := q_tt 301 (by decide +kernel) (by decide +kernel)
theorem t_303 : ((Jvm.Cond.classLink "BallotFruit" (32 : Nat) "BallotFruit$Reader") : Cond) ∈ q_TT := q_tt 303 (by decide +kernel) (by decide +kernel)
theorem t_304 : ((Jvm.Cond.instantiable "BallotFruit$Reader" (9 : Nat)) : Cond) ∈ q_TT := q_tt 304 (by decide +kernel) (by decide +kernel)
theorem t_306 : ((Jvm.Cond.instanceMethod ({ cls := "BallotFruit$Reader", name := "<init>", desc := "()V" } : Jvm.MethodName)) : Cond) ∈ q_TT := q_tt 306 (by decide +kernel) (by decide +kernel)
theorem t_307 : ((Jvm.Cond.code ({ cls := "BallotFruit$Reader", name := "<init>", desc := "()V" } : Jvm.MethodName) prog_8_method_1_code (1 : Nat) (Option.none : Option Jvm.ClassFile.FieldType)) : Cond) ∈ q_TT := q_tc2 67 rfl rfl
theorem t_308 : ((Jvm.Cond.methodLink "BallotFruit$Reader" (3 : Nat) ({ cls := "java/lang/Object", name := "<init>", desc := "()V" } : Jvm.MethodName)) : Cond) ∈ q_TT := q_tt 308 (by decide +kernel) (by decide +kernel)
theorem t_309 : ((Jvm.Cond.classLink "BallotFruit$Reader" (15 : Nat) "BallotFruit$Tape") : Cond) ∈ q_TT := q_tt 309 (by decide +kernel) (by decide +kernel)
theorem t_310 : ((Jvm.Cond.instantiable "BallotFruit$Tape" (6 : Nat)) : Cond) ∈ q_TT := q_tt 310 (by decide +kernel) (by decide +kernel)
theorem t_312 : ((Jvm.Cond.instanceMethod ({ cls := "BallotFruit$Tape", name := "<init>", desc := "()V" } : Jvm.MethodName)) : Cond) ∈ q_TT := q_tt 312 (by decide +kernel) (by decide +kernel)
theorem t_313 : ((Jvm.Cond.code ({ cls := "BallotFruit$Tape", name := "<init>", desc := "()V" } : Jvm.MethodName) prog_10_method_1_code (1 : Nat) (Option.none : Option Jvm.ClassFile.FieldType)) : Cond) ∈ q_TT := q_tc2 73 rfl rfl
theorem t_314 : ((Jvm.Cond.methodLink "BallotFruit$Tape" (3 : Nat) ({ cls := "java/lang/Object", name := "<init>", desc := "()V" } : Jvm.MethodName)) : Cond) ∈ q_TT := q_tt 314 (by decide +kernel) (by decide +kernel)
theorem t_315 : ((Jvm.Cond.fieldLink "BallotFruit$Tape" (9 : Nat) "BallotFruit$Tape" "bytes" "[I") : Cond) ∈ q_TT := q_tt 315 (by decide +kernel) (by decide +kernel)
theorem t_316 : ((Jvm.Cond.fieldLink "BallotFruit$Tape" (24 : Nat) "BallotFruit$Tape" "length" "I") : Cond) ∈ q_TT := q_tt 316 (by decide +kernel) (by decide +kernel)
theorem t_317 : ((Jvm.Cond.fieldLink "BallotFruit" (150 : Nat) "BallotFruit$Tape" "length" "I") : Cond) ∈ q_TT := q_tt 317 (by decide +kernel) (by decide +kernel)
theorem t_318 : ((Jvm.Cond.fieldLink "BallotFruit$Reader" (181 : Nat) "BallotFruit$Tape" "length" "I") : Cond) ∈ q_TT := q_tt 318 (by decide +kernel) (by decide +kernel)
theorem t_319 : ((Jvm.Cond.fieldLink "BallotFruit$Tape" (15 : Nat) "BallotFruit$Tape" "kinds" "[I") : Cond) ∈ q_TT := q_tt 319 (by decide +kernel) (by decide +kernel)
theorem t_320 : ((Jvm.Cond.fieldLink "BallotFruit$Reader" (175 : Nat) "BallotFruit$Tape" "kinds" "[I") : Cond) ∈ q_TT := q_tt 320 (by decide +kernel) (by decide +kernel)
theorem t_321 : ((Jvm.Cond.fieldLink "BallotFruit$Tape" (18 : Nat) "BallotFruit$Tape" "places" "[I") : Cond) ∈ q_TT := q_tt 321 (by decide +kernel) (by decide +kernel)
theorem t_322 : ((Jvm.Cond.fieldLink "BallotFruit$Reader" (178 : Nat) "BallotFruit$Tape" "places" "[I") : Cond) ∈ q_TT := q_tt 322 (by decide +kernel) (by decide +kernel)
theorem t_323 : ((Jvm.Cond.fieldLink "BallotFruit$Tape" (21 : Nat) "BallotFruit$Tape" "values" "[I") : Cond) ∈ q_TT := q_tt 323 (by decide +kernel) (by decide +kernel)
theorem t_324 : ((Jvm.Cond.fieldLink "BallotFruit$Reader" (145 : Nat) "BallotFruit$Tape" "values" "[I") : Cond) ∈ q_TT := q_tt 324 (by decide +kernel) (by decide +kernel)
theorem t_325 : ((Jvm.Cond.fieldLink "BallotFruit$Tape" (28 : Nat) "BallotFruit$Tape" "tokens" "I") : Cond) ∈ q_TT := q_tt 325 (by decide +kernel) (by decide +kernel)
theorem t_326 : ((Jvm.Cond.fieldLink "BallotFruit$Reader" (131 : Nat) "BallotFruit$Tape" "tokens" "I") : Cond) ∈ q_TT := q_tt 326 (by decide +kernel) (by decide +kernel)
theorem t_327 : ((Jvm.Cond.laysFinal "BallotFruit$Tape" "BallotFruit$Tape" "bytes" "[I") : Cond) ∈ q_TT := q_tt 327 (by decide +kernel) (by decide +kernel)
theorem t_329 : ((Jvm.Cond.lays "BallotFruit$Tape" "BallotFruit$Tape" "length" "I") : Cond) ∈ q_TT := q_tt 329 (by decide +kernel) (by decide +kernel)
theorem t_331 : ((Jvm.Cond.laysFinal "BallotFruit$Tape" "BallotFruit$Tape" "kinds" "[I") : Cond) ∈ q_TT := q_tt 331 (by decide +kernel) (by decide +kernel)
theorem t_333 : ((Jvm.Cond.laysFinal "BallotFruit$Tape" "BallotFruit$Tape" "places" "[I") : Cond) ∈ q_TT := q_tt 333 (by decide +kernel) (by decide +kernel)
theorem t_335 : ((Jvm.Cond.laysFinal "BallotFruit$Tape" "BallotFruit$Tape" "values" "[I") : Cond) ∈ q_TT := q_tt 335 (by decide +kernel) (by decide +kernel)
theorem t_337 : ((Jvm.Cond.lays "BallotFruit$Tape" "BallotFruit$Tape" "tokens" "I") : Cond) ∈ q_TT := q_tt 337 (by decide +kernel) (by decide +kernel)
theorem t_340 : ((Jvm.Cond.classLink "BallotFruit$Reader" (22 : Nat) "BallotFruit$Law") : Cond) ∈ q_TT := q_tt 340 (by decide +kernel) (by decide +kernel)
theorem t_342 : ((Jvm.Cond.classLink "BallotFruit$Reader" (29 : Nat) "BallotFruit$Paths") : Cond) ∈ q_TT := q_tt 342 (by decide +kernel) (by decide +kernel)
theorem t_344 : ((Jvm.Cond.classLink "BallotFruit$Reader" (36 : Nat) "BallotFruit$Plan") : Cond) ∈ q_TT := q_tt 344 (by decide +kernel) (by decide +kernel)
theorem t_346 : ((Jvm.Cond.fieldLink "BallotFruit$Reader" (49 : Nat) "BallotFruit$Reader" "wrong" "I") : Cond) ∈ q_TT := q_tt 346 (by decide +kernel) (by decide +kernel)
theorem t_347 : ((Jvm.Cond.fieldLink "BallotFruit" (186 : Nat) "BallotFruit$Reader" "wrong" "I") : Cond) ∈ q_TT := q_tt 347 (by decide +kernel) (by decide +kernel)
theorem t_348 : ((Jvm.Cond.fieldLink "BallotFruit$Reader" (9 : Nat) "BallotFruit$Reader" "wrongPlace" "I") : Cond) ∈ q_TT := q_tt 348 (by decide +kernel) (by decide +kernel)
theorem t_349 : ((Jvm.Cond.fieldLink "BallotFruit" (189 : Nat) "BallotFruit$Reader" "wrongPlace" "I") : Cond) ∈ q_TT := q_tt 349 (by decide +kernel) (by decide +kernel)
theorem t_350 : ((Jvm.Cond.fieldLink "BallotFruit$Reader" (18 : Nat) "BallotFruit$Reader" "tape" "LBallotFruit$Tape;") : Cond) ∈ q_TT := q_tt 350 (by decide +kernel) (by decide +kernel)
theorem t_351 : ((Jvm.Cond.fieldLink "BallotFruit" (39 : Nat) "BallotFruit$Reader" "tape" "LBallotFruit$Tape;") : Cond) ∈ q_TT := q_tt 351 (by decide +kernel) (by decide +kernel)
theorem t_352 : ((Jvm.Cond.fieldLink "BallotFruit$Reader" (25 : Nat) "BallotFruit$Reader" "law" "LBallotFruit$Law;") : Cond) ∈ q_TT := q_tt 352 (by decide +kernel) (by decide +kernel)
theorem t_353 : ((Jvm.Cond.fieldLink "BallotFruit$Reader" (32 : Nat) "BallotFruit$Reader" "paths" "LBallotFruit$Paths;") : Cond) ∈ q_TT := q_tt 353 (by decide +kernel) (by decide +kernel)
theorem t_354 : ((Jvm.Cond.fieldLink "BallotFruit$Reader" (39 : Nat) "BallotFruit$Reader" "plan" "LBallotFruit$Plan;") : Cond) ∈ q_TT := q_tt 354 (by decide +kernel) (by decide +kernel)
theorem t_355 : ((Jvm.Cond.fieldLink "BallotFruit$Reader" (52 : Nat) "BallotFruit$Reader" "next" "I") : Cond) ∈ q_TT := q_tt 355 (by decide +kernel) (by decide +kernel)
theorem t_356 : ((Jvm.Cond.fieldLink "BallotFruit$Reader" (43 : Nat) "BallotFruit$Reader" "parties" "I") : Cond) ∈ q_TT := q_tt 356 (by decide +kernel) (by decide +kernel)
theorem t_357 : ((Jvm.Cond.fieldLink "BallotFruit$Reader" (46 : Nat) "BallotFruit$Reader" "eaters" "I") : Cond) ∈ q_TT := q_tt 357 (by decide +kernel) (by decide +kernel)
theorem t_358 : ((Jvm.Cond.lays "BallotFruit$Reader" "BallotFruit$Reader" "wrong" "I") : Cond) ∈ q_TT := q_tt 358 (by decide +kernel) (by decide +kernel)
theorem t_360 : ((Jvm.Cond.lays "BallotFruit$Reader" "BallotFruit$Reader" "wrongPlace" "I") : Cond) ∈ q_TT := q_tt 360 (by decide +kernel) (by decide +kernel)
theorem t_362 : ((Jvm.Cond.laysFinal "BallotFruit$Reader" "BallotFruit$Reader" "tape" "LBallotFruit$Tape;") : Cond) ∈ q_TT := q_tt 362 (by decide +kernel) (by decide +kernel)
theorem t_364 : ((Jvm.Cond.laysFinal "BallotFruit$Reader" "BallotFruit$Reader" "law" "LBallotFruit$Law;") : Cond) ∈ q_TT := q_tt 364 (by decide +kernel) (by decide +kernel)
theorem t_366 : ((Jvm.Cond.laysFinal "BallotFruit$Reader" "BallotFruit$Reader" "paths" "LBallotFruit$Paths;") : Cond) ∈ q_TT := q_tt 366 (by decide +kernel) (by decide +kernel)
theorem t_368 : ((Jvm.Cond.laysFinal "BallotFruit$Reader" "BallotFruit$Reader" "plan" "LBallotFruit$Plan;") : Cond) ∈ q_TT := q_tt 368 (by decide +kernel) (by decide +kernel)
theorem t_370 : ((Jvm.Cond.lays "BallotFruit$Reader" "BallotFruit$Reader" "next" "I") : Cond) ∈ q_TT := q_tt 370 (by decide +kernel) (by decide +kernel)
theorem t_372 : ((Jvm.Cond.lays "BallotFruit$Reader" "BallotFruit$Reader" "parties" "I") : Cond) ∈ q_TT := q_tt 372 (by decide +kernel) (by decide +kernel)
theorem t_374 : ((Jvm.Cond.lays "BallotFruit$Reader" "BallotFruit$Reader" "eaters" "I") : Cond) ∈ q_TT := q_tt 374 (by decide +kernel) (by decide +kernel)
theorem t_377 : ((Jvm.Cond.classLink "BallotFruit" (44 : Nat) "BallotFruit$Season") : Cond) ∈ q_TT := q_tt 377 (by decide +kernel) (by decide +kernel)
theorem t_378 : ((Jvm.Cond.instantiable "BallotFruit$Season" (5 : Nat)) : Cond) ∈ q_TT := q_tt 378 (by decide +kernel) (by decide +kernel)
theorem t_379 : ((Jvm.Cond.methodLink "BallotFruit" (46 : Nat) ({ cls := "BallotFruit$Season", name := "<init>", desc := "(Z)V" } : Jvm.MethodName)) : Cond) ∈ q_TT := q_tt 379 (by decide +kernel) (by decide +kernel)
theorem t_380 : ((Jvm.Cond.instanceMethod ({ cls := "BallotFruit$Season", name := "<init>", desc := "(Z)V" } : Jvm.MethodName)) : Cond) ∈ q_TT := q_tt 380 (by decide +kernel) (by decide +kernel)
theorem t_381 : ((Jvm.Cond.code ({ cls := "BallotFruit$Season", name := "<init>", desc := "(Z)V" } : Jvm.MethodName) prog_9_method_1_code (2 : Nat) (Option.none : Option Jvm.ClassFile.FieldType)) : Cond) ∈ q_TT := q_tc2 141 rfl rfl
theorem t_382 : ((Jvm.Cond.methodLink "BallotFruit$Season" (3 : Nat) ({ cls := "java/lang/Object", name := "<init>", desc := "()V" } : Jvm.MethodName)) : Cond) ∈ q_TT := q_tt 382 (by decide +kernel) (by decide +kernel)
theorem t_383 : ((Jvm.Cond.fieldLink "BallotFruit$Season" (15 : Nat) "BallotFruit$Season" "isTrue" "Z") : Cond) ∈ q_TT := q_tt 383 (by decide +kernel) (by decide +kernel)
theorem t_384 : ((Jvm.Cond.fieldLink "BallotFruit$Season" (78 : Nat) "BallotFruit$Season" "hungry" "I") : Cond) ∈ q_TT := q_tt 384 (by decide +kernel) (by decide +kernel)
theorem t_385 : ((Jvm.Cond.fieldLink "BallotFruit" (147 : Nat) "BallotFruit$Season" "hungry" "I") : Cond) ∈ q_TT := q_tt 385 (by decide +kernel) (by decide +kernel)
theorem t_386 : ((Jvm.Cond.fieldLink "BallotFruit$Season" (81 : Nat) "BallotFruit$Season" "firstHungry" "I") : Cond) ∈ q_TT := q_tt 386 (by decide +kernel) (by decide +kernel)
theorem t_387 : ((Jvm.Cond.fieldLink "BallotFruit" (252 : Nat) "BallotFruit$Season" "firstHungry" "I") : Cond) ∈ q_TT := q_tt 387 (by decide +kernel) (by decide +kernel)
theorem t_388 : ((Jvm.Cond.fieldLink "BallotFruit$Season" (84 : Nat) "BallotFruit$Season" "firstWeek" "I") : Cond) ∈ q_TT := q_tt 388 (by decide +kernel) (by decide +kernel)
theorem t_389 : ((Jvm.Cond.fieldLink "BallotFruit" (255 : Nat) "BallotFruit$Season" "firstWeek" "I") : Cond) ∈ q_TT := q_tt 389 (by decide +kernel) (by decide +kernel)
theorem t_390 : ((Jvm.Cond.fieldLink "BallotFruit$Season" (9 : Nat) "BallotFruit$Season" "counted" "[I") : Cond) ∈ q_TT := q_tt 390 (by decide +kernel) (by decide +kernel)
theorem t_391 : ((Jvm.Cond.fieldLink "BallotFruit" (261 : Nat) "BallotFruit$Season" "counted" "[I") : Cond) ∈ q_TT := q_tt 391 (by decide +kernel) (by decide +kernel)
theorem t_392 : ((Jvm.Cond.laysFinal "BallotFruit$Season" "BallotFruit$Season" "isTrue" "Z") : Cond) ∈ q_TT := q_tt 392 (by decide +kernel) (by decide +kernel)
theorem t_394 : ((Jvm.Cond.lays "BallotFruit$Season" "BallotFruit$Season" "hungry" "I") : Cond) ∈ q_TT := q_tt 394 (by decide +kernel) (by decide +kernel)
theorem t_396 : ((Jvm.Cond.lays "BallotFruit$Season" "BallotFruit$Season" "firstHungry" "I") : Cond) ∈ q_TT := q_tt 396 (by decide +kernel) (by decide +kernel)
theorem t_398 : ((Jvm.Cond.lays "BallotFruit$Season" "BallotFruit$Season" "firstWeek" "I") : Cond) ∈ q_TT := q_tt 398 (by decide +kernel) (by decide +kernel)
theorem t_400 : ((Jvm.Cond.laysFinal "BallotFruit$Season" "BallotFruit$Season" "counted" "[I") : Cond) ∈ q_TT := q_tt 400 (by decide +kernel) (by decide +kernel)
theorem t_404 : ((Jvm.Cond.fieldLink "BallotFruit" (12 : Nat) "BallotFruit" "now" "LBallotFruit$Whole;") : Cond) ∈ q_TT := q_tt 404 (by decide +kernel) (by decide +kernel)
theorem t_405 : ((Jvm.Cond.fieldLink "BallotFruit" (20 : Nat) "BallotFruit" "here" "LBallotFruit$Commune;") : Cond) ∈ q_TT := q_tt 405 (by decide +kernel) (by decide +kernel)
theorem t_406 : ((Jvm.Cond.fieldLink "BallotFruit" (23 : Nat) "BallotFruit" "picture" "LBallotFruit$Whole;") : Cond) ∈ q_TT := q_tt 406 (by decide +kernel) (by decide +kernel)
theorem t_407 : ((Jvm.Cond.fieldLink "BallotFruit" (318 : Nat) "BallotFruit" "isPicture" "Z") : Cond) ∈ q_TT := q_tt 407 (by decide +kernel) (by decide +kernel)
theorem t_408 : ((Jvm.Cond.fieldLink "BallotFruit" (28 : Nat) "BallotFruit" "kept" "[LBallotFruit$Commune;") : Cond) ∈ q_TT := q_tt 408 (by decide +kernel) (by decide +kernel)
theorem t_409 : ((Jvm.Cond.fieldLink "BallotFruit" (309 : Nat) "BallotFruit" "keptCount" "I") : Cond) ∈ q_TT := q_tt 409 (by decide +kernel) (by decide +kernel)
theorem t_410 : ((Jvm.Cond.fieldLink "BallotFruit" (312 : Nat) "BallotFruit" "keptNext" "I") : Cond) ∈ q_TT := q_tt 410 (by decide +kernel) (by decide +kernel)
theorem t_411 : ((Jvm.Cond.fieldLink "BallotFruit" (35 : Nat) "BallotFruit" "reader" "LBallotFruit$Reader;") : Cond) ∈ q_TT := q_tt 411 (by decide +kernel) (by decide +kernel)
theorem t_412 : ((Jvm.Cond.fieldLink "BallotFruit" (43 : Nat) "BallotFruit" "tape" "LBallotFruit$Tape;") : Cond) ∈ q_TT := q_tt 412 (by decide +kernel) (by decide +kernel)
theorem t_413 : ((Jvm.Cond.fieldLink "BallotFruit" (49 : Nat) "BallotFruit" "lived" "LBallotFruit$Season;") : Cond) ∈ q_TT := q_tt 413 (by decide +kernel) (by decide +kernel)
theorem t_414 : ((Jvm.Cond.fieldLink "BallotFruit" (53 : Nat) "BallotFruit" "imagined" "LBallotFruit$Season;") : Cond) ∈ q_TT := q_tt 414 (by decide +kernel) (by decide +kernel)
theorem t_415 : ((Jvm.Cond.fieldLink "BallotFruit" (57 : Nat) "BallotFruit" "thought" "LBallotFruit$Commune;") : Cond) ∈ q_TT := q_tt 415 (by decide +kernel) (by decide +kernel)
theorem t_416 : ((Jvm.Cond.fieldLink "BallotFruit" (60 : Nat) "BallotFruit" "ways" "[J") : Cond) ∈ q_TT := q_tt 416 (by decide +kernel) (by decide +kernel)
theorem t_417 : ((Jvm.Cond.laysFinal "BallotFruit" "BallotFruit" "now" "LBallotFruit$Whole;") : Cond) ∈ q_TT := q_tt 417 (by decide +kernel) (by decide +kernel)
theorem t_419 : ((Jvm.Cond.laysFinal "BallotFruit" "BallotFruit" "here" "LBallotFruit$Commune;") : Cond) ∈ q_TT := q_tt 419 (by decide +kernel) (by decide +kernel)
theorem t_421 : ((Jvm.Cond.laysFinal "BallotFruit" "BallotFruit" "picture" "LBallotFruit$Whole;") : Cond) ∈ q_TT := q_tt 421 (by decide +kernel) (by decide +kernel)
theorem t_423 : ((Jvm.Cond.lays "BallotFruit" "BallotFruit" "isPicture" "Z") : Cond) ∈ q_TT := q_tt 423 (by decide +kernel) (by decide +kernel)
theorem t_425 : ((Jvm.Cond.laysFinal "BallotFruit" "BallotFruit" "kept" "[LBallotFruit$Commune;") : Cond) ∈ q_TT := q_tt 425 (by decide +kernel) (by decide +kernel)
theorem t_427 : ((Jvm.Cond.lays "BallotFruit" "BallotFruit" "keptCount" "I") : Cond) ∈ q_TT := q_tt 427 (by decide +kernel) (by decide +kernel)
theorem t_429 : ((Jvm.Cond.lays "BallotFruit" "BallotFruit" "keptNext" "I") : Cond) ∈ q_TT := q_tt 429 (by decide +kernel) (by decide +kernel)
theorem t_431 : ((Jvm.Cond.laysFinal "BallotFruit" "BallotFruit" "reader" "LBallotFruit$Reader;") : Cond) ∈ q_TT := q_tt 431 (by decide +kernel) (by decide +kernel)
theorem t_433 : ((Jvm.Cond.laysFinal "BallotFruit" "BallotFruit" "tape" "LBallotFruit$Tape;") : Cond) ∈ q_TT := q_tt 433 (by decide +kernel) (by decide +kernel)
theorem t_435 : ((Jvm.Cond.laysFinal "BallotFruit" "BallotFruit" "lived" "LBallotFruit$Season;") : Cond) ∈ q_TT := q_tt 435 (by decide +kernel) (by decide +kernel)
theorem t_437 : ((Jvm.Cond.laysFinal "BallotFruit" "BallotFruit" "imagined" "LBallotFruit$Season;") : Cond) ∈ q_TT := q_tt 437 (by decide +kernel) (by decide +kernel)
theorem t_439 : ((Jvm.Cond.laysFinal "BallotFruit" "BallotFruit" "thought" "LBallotFruit$Commune;") : Cond) ∈ q_TT := q_tt 439 (by decide +kernel) (by decide +kernel)
theorem t_441 : ((Jvm.Cond.laysFinal "BallotFruit" "BallotFruit" "ways" "[J") : Cond) ∈ q_TT := q_tt 441 (by decide +kernel) (by decide +kernel)
theorem t_444 : ((Jvm.Cond.arrayClass Jvm.ClassFile.FieldType.long) : Cond) ∈ q_TT := q_tt 444 (by decide +kernel) (by decide +kernel)
theorem t_445 : ((Jvm.Cond.methodLink "BallotFruitLaw" (13 : Nat) ({ cls := "BallotFruit", name := "state", desc := "(I)I" } : Jvm.MethodName)) : Cond) ∈ q_TT := q_tt 445 (by decide +kernel) (by decide +kernel)
theorem t_446 : ((Jvm.Cond.instanceMethod ({ cls := "BallotFruit", name := "state", desc := "(I)I" } : Jvm.MethodName)) : Cond) ∈ q_TT := q_tt 446 (by decide +kernel) (by decide +kernel)
theorem t_447 : ((Jvm.Cond.selects "BallotFruit" ({ cls := "BallotFruit", name := "state", desc := "(I)I" } : Jvm.MethodName) ({ cls := "BallotFruit", name := "state", desc := "(I)I" } : Jvm.MethodName)) : Cond) ∈ q_TT := q_tt 447 (by decide +kernel) (by decide +kernel)
theorem t_448 : ((Jvm.Cond.code ({ cls := "BallotFruit", name := "state", desc := "(I)I" } : Jvm.MethodName) prog_1_method_2_code (3 : Nat) (Option.some Jvm.ClassFile.FieldType.int)) : Cond) ∈ q_TT := q_tc2 208 rfl rfl
theorem t_449 : ((Jvm.Cond.methodLink "BallotFruit" (68 : Nat) ({ cls := "BallotFruit", name := "forget", desc := "()V" } : Jvm.MethodName)) : Cond) ∈ q_TT := q_tt 449 (by decide +kernel) (by decide +kernel)
theorem t_451 : ((Jvm.Cond.instanceMethod ({ cls := "BallotFruit", name := "forget", desc := "()V" } : Jvm.MethodName)) : Cond) ∈ q_TT := q_tt 451 (by decide +kernel) (by decide +kernel)
theorem t_452 : ((Jvm.Cond.code ({ cls := "BallotFruit", name := "forget", desc := "()V" } : Jvm.MethodName) prog_1_method_38_code (1 : Nat) (Option.none : Option Jvm.ClassFile.FieldType)) : Cond) ∈ q_TT := q_tc2 212 rfl rfl
theorem t_453 : ((Jvm.Cond.methodLink "BallotFruitLaw" (18 : Nat) ({ cls := "BallotFruit", name := "party", desc := "(I)I" } : Jvm.MethodName)) : Cond) ∈ q_TT := q_tt 453 (by decide +kernel) (by decide +kernel)
theorem t_454 : ((Jvm.Cond.instanceMethod ({ cls := "BallotFruit", name := "party", desc := "(I)I" } : Jvm.MethodName)) : Cond) ∈ q_TT := q_tt 454 (by decide +kernel) (by decide +kernel)
theorem t_455 : ((Jvm.Cond.selects "BallotFruit" ({ cls := "BallotFruit", name := "party", desc := "(I)I" } : Jvm.MethodName) ({ cls := "BallotFruit", name := "party", desc := "(I)I" } : Jvm.MethodName)) : Cond) ∈ q_TT := q_tt 455 (by decide +kernel) (by decide +kernel)
theorem t_456 : ((Jvm.Cond.code ({ cls := "BallotFruit", name := "party", desc := "(I)I" } : Jvm.MethodName) prog_1_method_3_code (2 : Nat) (Option.some Jvm.ClassFile.FieldType.int)) : Cond) ∈ q_TT := q_tc2 216 rfl rfl
theorem t_457 : ((Jvm.Cond.methodLink "BallotFruit" (71 : Nat) ({ cls := "BallotFruit", name := "isWithin", desc := "(III)Z" } : Jvm.MethodName)) : Cond) ∈ q_TT := q_tt 457 (by decide +kernel) (by decide +kernel)
theorem t_458 : ((Jvm.Cond.static ({ cls := "BallotFruit", name := "isWithin", desc := "(III)Z" } : Jvm.MethodName)) : Cond) ∈ q_TT := q_tt 458 (by decide +kernel) (by decide +kernel)
theorem t_459 : ((Jvm.Cond.code ({ cls := "BallotFruit", name := "isWithin", desc := "(III)Z" } : Jvm.MethodName) prog_1_method_36_code (3 : Nat) (Option.some Jvm.ClassFile.FieldType.boolean)) : Cond) ∈ q_TT := q_tc2 219 rfl rfl
theorem t_460 : ((Jvm.Cond.methodLink "BallotFruit" (78 : Nat) ({ cls := "BallotFruit$Commune", name := "addParty", desc := "(I)I" } : Jvm.MethodName)) : Cond) ∈ q_TT := q_tt 460 (by decide +kernel) (by decide +kernel)
theorem t_461 : ((Jvm.Cond.instanceMethod ({ cls := "BallotFruit$Commune", name := "addParty", desc := "(I)I" } : Jvm.MethodName)) : Cond) ∈ q_TT := q_tt 461 (by decide +kernel) (by decide +kernel)
theorem t_462 : ((Jvm.Cond.selects "BallotFruit$Commune" ({ cls := "BallotFruit$Commune", name := "addParty", desc := "(I)I" } : Jvm.MethodName) ({ cls := "BallotFruit$Commune", name := "addParty", desc := "(I)I" } : Jvm.MethodName)) : Cond) ∈ q_TT := q_tt 462 (by decide +kernel) (by decide +kernel)
theorem t_463 : ((Jvm.Cond.code ({ cls := "BallotFruit$Commune", name := "addParty", desc := "(I)I" } : Jvm.MethodName) prog_2_method_9_code (3 : Nat) (Option.some Jvm.ClassFile.FieldType.int)) : Cond) ∈ q_TT := q_tc2 223 rfl rfl
theorem t_464 : ((Jvm.Cond.methodLink "BallotFruitLaw" (22 : Nat) ({ cls := "BallotFruit", name := "eater", desc := "(I)I" } : Jvm.MethodName)) : Cond) ∈ q_TT := q_tt 464 (by decide +kernel) (by decide +kernel)
theorem t_465 : ((Jvm.Cond.instanceMethod ({ cls := "BallotFruit", name := "eater", desc := "(I)I" } : Jvm.MethodName)) : Cond) ∈ q_TT := q_tt 465 (by decide +kernel) (by decide +kernel)
theorem t_466 : ((Jvm.Cond.selects "BallotFruit" ({ cls := "BallotFruit", name := "eater", desc := "(I)I" } : Jvm.MethodName) ({ cls := "BallotFruit", name := "eater", desc := "(I)I" } : Jvm.MethodName)) : Cond) ∈ q_TT := q_tt 466 (by decide +kernel) (by decide +kernel)
theorem t_467 : ((Jvm.Cond.code ({ cls := "BallotFruit", name := "eater", desc := "(I)I" } : Jvm.MethodName) prog_1_method_4_code (2 : Nat) (Option.some Jvm.ClassFile.FieldType.int)) : Cond) ∈ q_TT := q_tc2 227 rfl rfl
theorem t_468 : ((Jvm.Cond.methodLink "BallotFruit" (85 : Nat) ({ cls := "BallotFruit$Commune", name := "addEater", desc := "(I)I" } : Jvm.MethodName)) : Cond) ∈ q_TT := q_tt 468 (by decide +kernel) (by decide +kernel)
theorem t_469 : ((Jvm.Cond.instanceMethod ({ cls := "BallotFruit$Commune", name := "addEater", desc := "(I)I" } : Jvm.MethodName)) : Cond) ∈ q_TT := q_tt 469 (by decide +kernel) (by decide +kernel)
theorem t_470 : ((Jvm.Cond.selects "BallotFruit$Commune" ({ cls := "BallotFruit$Commune", name := "addEater", desc := "(I)I" } : Jvm.MethodName) ({ cls := "BallotFruit$Commune", name := "addEater", desc := "(I)I" } : Jvm.MethodName)) : Cond) ∈ q_TT := q_tt 470 (by decide +kernel) (by decide +kernel)
theorem t_471 : ((Jvm.Cond.code ({ cls := "BallotFruit$Commune", name := "addEater", desc := "(I)I" } : Jvm.MethodName) prog_2_method_10_code (4 : Nat) (Option.some Jvm.ClassFile.FieldType.int)) : Cond) ∈ q_TT := q_tc2 231 rfl rfl
theorem t_472 : ((Jvm.Cond.methodLink "BallotFruitLaw" (26 : Nat) ({ cls := "BallotFruit", name := "taste", desc := "(III)Z" } : Jvm.MethodName)) : Cond) ∈ q_TT := q_tt 472 (by decide +kernel) (by decide +kernel)
theorem t_473 : ((Jvm.Cond.instanceMethod ({ cls := "BallotFruit", name := "taste", desc := "(III)Z" } : Jvm.MethodName)) : Cond) ∈ q_TT := q_tt 473 (by decide +kernel) (by decide +kernel)
theorem t_474 : ((Jvm.Cond.selects "BallotFruit" ({ cls := "BallotFruit", name := "taste", desc := "(III)Z" } : Jvm.MethodName) ({ cls := "BallotFruit", name := "taste", desc := "(III)Z" } : Jvm.MethodName)) : Cond) ∈ q_TT := q_tt 474 (by decide +kernel) (by decide +kernel)
theorem t_475 : ((Jvm.Cond.code ({ cls := "BallotFruit", name := "taste", desc := "(III)Z" } : Jvm.MethodName) prog_1_method_5_code (4 : Nat) (Option.some Jvm.ClassFile.FieldType.boolean)) : Cond) ∈ q_TT := q_tc2 235 rfl rfl
theorem t_476 : ((Jvm.Cond.methodLink "BallotFruit" (88 : Nat) ({ cls := "BallotFruit$Commune", name := "isEater", desc := "(I)Z" } : Jvm.MethodName)) : Cond) ∈ q_TT := q_tt 476 (by decide +kernel) (by decide +kernel)
theorem t_477 : ((Jvm.Cond.instanceMethod ({ cls := "BallotFruit$Commune", name := "isEater", desc := "(I)Z" } : Jvm.MethodName)) : Cond) ∈ q_TT := q_tt 477 (by decide +kernel) (by decide +kernel)
theorem t_478 : ((Jvm.Cond.selects "BallotFruit$Commune" ({ cls := "BallotFruit$Commune", name := "isEater", desc := "(I)Z" } : Jvm.MethodName) ({ cls := "BallotFruit$Commune", name := "isEater", desc := "(I)Z" } : Jvm.MethodName)) : Cond) ∈ q_TT := q_tt 478 (by decide +kernel) (by decide +kernel)
theorem t_479 : ((Jvm.Cond.code ({ cls := "BallotFruit$Commune", name := "isEater", desc := "(I)Z" } : Jvm.MethodName) prog_2_method_5_code (2 : Nat) (Option.some Jvm.ClassFile.FieldType.boolean)) : Cond) ∈ q_TT := q_tc2 239 rfl rfl
theorem t_480 : ((Jvm.Cond.methodLink "BallotFruit" (92 : Nat) ({ cls := "BallotFruit$Commune", name := "isParty", desc := "(I)Z" } : Jvm.MethodName)) : Cond) ∈ q_TT := q_tt 480 (by decide +kernel) (by decide +kernel)
theorem t_481 : ((Jvm.Cond.instanceMethod ({ cls := "BallotFruit$Commune", name := "isParty", desc := "(I)Z" } : Jvm.MethodName)) : Cond) ∈ q_TT := q_tt 481 (by decide +kernel) (by decide +kernel)
theorem t_482 : ((Jvm.Cond.selects "BallotFruit$Commune" ({ cls := "BallotFruit$Commune", name := "isParty", desc := "(I)Z" } : Jvm.MethodName) ({ cls := "BallotFruit$Commune", name := "isParty", desc := "(I)Z" } : Jvm.MethodName)) : Cond) ∈ q_TT := q_tt 482 (by decide +kernel) (by decide +kernel)
theorem t_483 : ((Jvm.Cond.code ({ cls := "BallotFruit$Commune", name := "isParty", desc := "(I)Z" } : Jvm.MethodName) prog_2_method_3_code (2 : Nat) (Option.some Jvm.ClassFile.FieldType.boolean)) : Cond) ∈ q_TT := q_tc3 3 rfl rfl
theorem t_484 : ((Jvm.Cond.methodLink "BallotFruitLaw" (31 : Nat) ({ cls := "BallotFruit", name := "set", desc := "(III)Z" } : Jvm.MethodName)) : Cond) ∈ q_TT := q_tt 484 (by decide +kernel) (by decide +kernel)
theorem t_485 : ((Jvm.Cond.instanceMethod ({ cls := "BallotFruit", name := "set", desc := "(III)Z" } : Jvm.MethodName)) : Cond) ∈ q_TT := q_tt 485 (by decide +kernel) (by decide +kernel)
theorem t_486 : ((Jvm.Cond.selects "BallotFruit" ({ cls := "BallotFruit", name := "set", desc := "(III)Z" } : Jvm.MethodName) ({ cls := "BallotFruit", name := "set", desc := "(III)Z" } : Jvm.MethodName)) : Cond) ∈ q_TT := q_tt 486 (by decide +kernel) (by decide +kernel)
theorem t_487 : ((Jvm.Cond.code ({ cls := "BallotFruit", name := "set", desc := "(III)Z" } : Jvm.MethodName) prog_1_method_6_code (5 : Nat) (Option.some Jvm.ClassFile.FieldType.boolean)) : Cond) ∈ q_TT := q_tc3 7 rfl rfl
theorem t_488 : ((Jvm.Cond.methodLink "BallotFruit" (99 : Nat) ({ cls := "BallotFruit$Commune", name := "setRule", desc := "(II)Z" } : Jvm.MethodName)) : Cond) ∈ q_TT := q_tt 488 (by decide +kernel) (by decide +kernel)
theorem t_489 : ((Jvm.Cond.instanceMethod ({ cls := "BallotFruit$Commune", name := "setRule", desc := "(II)Z" } : Jvm.MethodName)) : Cond) ∈ q_TT := q_tt 489 (by decide +kernel) (by decide +kernel)
theorem t_490 : ((Jvm.Cond.selects "BallotFruit$Commune" ({ cls := "BallotFruit$Commune", name := "setRule", desc := "(II)Z" } : Jvm.MethodName) ({ cls := "BallotFruit$Commune", name := "setRule", desc := "(II)Z" } : Jvm.MethodName)) : Cond) ∈ q_TT := q_tt 490 (by decide +kernel) (by decide +kernel)
theorem t_491 : ((Jvm.Cond.code ({ cls := "BallotFruit$Commune", name := "setRule", desc := "(II)Z" } : Jvm.MethodName) prog_2_method_12_code (3 : Nat) (Option.some Jvm.ClassFile.FieldType.boolean)) : Cond) ∈ q_TT := q_tc3 11 rfl rfl
theorem t_493 : ((Jvm.Cond.methodLink "BallotFruit" (103 : Nat) ({ cls := "BallotFruit$Commune", name := "setValue", desc := "(III)Z" } : Jvm.MethodName)) : Cond) ∈ q_TT := q_tt 493 (by decide +kernel) (by decide +kernel)
theorem t_494 : ((Jvm.Cond.instanceMethod ({ cls := "BallotFruit$Commune", name := "setValue", desc := "(III)Z" } : Jvm.MethodName)) : Cond) ∈ q_TT := q_tt 494 (by decide +kernel) (by decide +kernel)
theorem t_495 : ((Jvm.Cond.selects "BallotFruit$Commune" ({ cls := "BallotFruit$Commune", name := "setValue", desc := "(III)Z" } : Jvm.MethodName) ({ cls := "BallotFruit$Commune", name := "setValue", desc := "(III)Z" } : Jvm.MethodName)) : Cond) ∈ q_TT := q_tt 495 (by decide +kernel) (by decide +kernel)
theorem t_496 : ((Jvm.Cond.code ({ cls := "BallotFruit$Commune", name := "setValue", desc := "(III)Z" } : Jvm.MethodName) prog_2_method_13_code (4 : Nat) (Option.some Jvm.ClassFile.FieldType.boolean)) : Cond) ∈ q_TT := q_tc3 16 rfl rfl
theorem t_497 : ((Jvm.Cond.methodLink "BallotFruit$Commune" (83 : Nat) ({ cls := "BallotFruit$Commune", name := "isTree", desc := "(I)Z" } : Jvm.MethodName)) : Cond) ∈ q_TT := q_tt 497 (by decide +kernel) (by decide +kernel)
theorem t_498 : ((Jvm.Cond.instanceMethod ({ cls := "BallotFruit$Commune", name := "isTree", desc := "(I)Z" } : Jvm.MethodName)) : Cond) ∈ q_TT := q_tt 498 (by decide +kernel) (by decide +kernel)
theorem t_499 : ((Jvm.Cond.selects "BallotFruit$Commune" ({ cls := "BallotFruit$Commune", name := "isTree", desc := "(I)Z" } : Jvm.MethodName) ({ cls := "BallotFruit$Commune", name := "isTree", desc := "(I)Z" } : Jvm.MethodName)) : Cond) ∈ q_TT := q_tt 499 (by decide +kernel) (by decide +kernel)
theorem t_500 : ((Jvm.Cond.code ({ cls := "BallotFruit$Commune", name := "isTree", desc := "(I)Z" } : Jvm.MethodName) prog_2_method_4_code (2 : Nat) (Option.some Jvm.ClassFile.FieldType.boolean)) : Cond) ∈ q_TT := q_tc3 20 rfl rfl
theorem t_501 : ((Jvm.Cond.methodLink "BallotFruit$Commune" (87 : Nat) ({ cls := "BallotFruit$Commune", name := "isEater", desc := "(I)Z" } : Jvm.MethodName)) : Cond) ∈ q_TT := q_tt 501 (by decide +kernel) (by decide +kernel)
theorem t_502 : ((Jvm.Cond.methodLink "BallotFruit$Commune" (90 : Nat) ({ cls := "BallotFruit$Commune", name := "isParty", desc := "(I)Z" } : Jvm.MethodName)) : Cond) ∈ q_TT := q_tt 502 (by decide +kernel) (by decide +kernel)
theorem t_503 : ((Jvm.Cond.methodLink "BallotFruitLaw" (35 : Nat) ({ cls := "BallotFruit", name := "plant", desc := "(III)I" } : Jvm.MethodName)) : Cond) ∈ q_TT := q_tt 503 (by decide +kernel) (by decide +kernel)
theorem t_504 : ((Jvm.Cond.instanceMethod ({ cls := "BallotFruit", name := "plant", desc := "(III)I" } : Jvm.MethodName)) : Cond) ∈ q_TT := q_tt 504 (by decide +kernel) (by decide +kernel)
theorem t_505 : ((Jvm.Cond.selects "BallotFruit" ({ cls := "BallotFruit", name := "plant", desc := "(III)I" } : Jvm.MethodName) ({ cls := "BallotFruit", name := "plant", desc := "(III)I" } : Jvm.MethodName)) : Cond) ∈ q_TT := q_tt 505 (by decide +kernel) (by decide +kernel)
theorem t_506 : ((Jvm.Cond.code ({ cls := "BallotFruit", name := "plant", desc := "(III)I" } : Jvm.MethodName) prog_1_method_7_code (6 : Nat) (Option.some Jvm.ClassFile.FieldType.int)) : Cond) ∈ q_TT := q_tc3 26 rfl rfl
theorem t_507 : ((Jvm.Cond.methodLink "BallotFruit" (106 : Nat) ({ cls := "BallotFruit", name := "isPlace", desc := "(I)Z" } : Jvm.MethodName)) : Cond) ∈ q_TT := q_tt 507 (by decide +kernel) (by decide +kernel)
theorem t_508 : ((Jvm.Cond.static ({ cls := "BallotFruit", name := "isPlace", desc := "(I)Z" } : Jvm.MethodName)) : Cond) ∈ q_TT := q_tt 508 (by decide +kernel) (by decide +kernel)
theorem t_509 : ((Jvm.Cond.code ({ cls := "BallotFruit", name := "isPlace", desc := "(I)Z" } : Jvm.MethodName) prog_1_method_37_code (1 : Nat) (Option.some Jvm.ClassFile.FieldType.boolean)) : Cond) ∈ q_TT := q_tc3 29 rfl rfl
theorem t_510 : ((Jvm.Cond.methodLink "BallotFruit" (112 : Nat) ({ cls := "BallotFruit", name := "keep", desc := "()V" } : Jvm.MethodName)) : Cond) ∈ q_TT := q_tt 510 (by decide +kernel) (by decide +kernel)
theorem t_512 : ((Jvm.Cond.instanceMethod ({ cls := "BallotFruit", name := "keep", desc := "()V" } : Jvm.MethodName)) : Cond) ∈ q_TT := q_tt 512 (by decide +kernel) (by decide +kernel)
theorem t_513 : ((Jvm.Cond.code ({ cls := "BallotFruit", name := "keep", desc := "()V" } : Jvm.MethodName) prog_1_method_39_code (1 : Nat) (Option.none : Option Jvm.ClassFile.FieldType)) : Cond) ∈ q_TT := q_tc3 33 rfl rfl
theorem t_514 : ((Jvm.Cond.methodLink "BallotFruit" (248 : Nat) ({ cls := "BallotFruit$Commune", name := "copyFrom", desc := "(LBallotFruit$Commune;)V" } : Jvm.MethodName)) : Cond) ∈ q_TT := q_tt 514 (by decide +kernel) (by decide +kernel)
theorem t_515 : ((Jvm.Cond.instanceMethod ({ cls := "BallotFruit$Commune", name := "copyFrom", desc := "(LBallotFruit$Commune;)V" } : Jvm.MethodName)) : Cond) ∈ q_TT := q_tt 515 (by decide +kernel) (by decide +kernel)
theorem t_516 : ((Jvm.Cond.selects "BallotFruit$Commune" ({ cls := "BallotFruit$Commune", name := "copyFrom", desc := "(LBallotFruit$Commune;)V" } : Jvm.MethodName) ({ cls := "BallotFruit$Commune", name := "copyFrom", desc := "(LBallotFruit$Commune;)V" } : Jvm.MethodName)) : Cond) ∈ q_TT := q_tt 516 (by decide +kernel) (by decide +kernel)
theorem t_517 : ((Jvm.Cond.code ({ cls := "BallotFruit$Commune", name := "copyFrom", desc := "(LBallotFruit$Commune;)V" } : Jvm.MethodName) prog_2_method_2_code (2 : Nat) (Option.none : Option Jvm.ClassFile.FieldType)) : Cond) ∈ q_TT := q_tc3 37 rfl rfl
theorem t_518 : ((Jvm.Cond.methodLink "BallotFruit$Commune" (73 : Nat) ({ cls := "java/lang/System", name := "arraycopy", desc := "(Ljava/lang/Object;ILjava/lang/Object;II)V" } : Jvm.MethodName)) : Cond) ∈ q_TT := q_tt 518 (by decide +kernel) (by decide +kernel)
theorem t_519 : ((Jvm.Cond.static ({ cls := "java/lang/System", name := "arraycopy", desc := "(Ljava/lang/Object;ILjava/lang/Object;II)V" } : Jvm.MethodName)) : Cond) ∈ q_TT := q_tt 519 (by decide +kernel) (by decide +kernel)
theorem t_520 : ((Jvm.Cond.native ({ cls := "java/lang/System", name := "arraycopy", desc := "(Ljava/lang/Object;ILjava/lang/Object;II)V" } : Jvm.MethodName)) : Cond) ∈ q_TT := q_tt 520 (by decide +kernel) (by decide +kernel)
theorem t_521 : ((Jvm.Cond.methodLink "BallotFruit" (342 : Nat) ({ cls := "java/lang/Math", name := "min", desc := "(II)I" } : Jvm.MethodName)) : Cond) ∈ q_TT := q_tt 521 (by decide +kernel) (by decide +kernel)
theorem t_522 : ((Jvm.Cond.static ({ cls := "java/lang/Math", name := "min", desc := "(II)I" } : Jvm.MethodName)) : Cond) ∈ q_TT := q_tt 522 (by decide +kernel) (by decide +kernel)
theorem t_523 : ((Jvm.Cond.code ({ cls := "java/lang/Math", name := "min", desc := "(II)I" } : Jvm.MethodName) prog_15_method_69_code (2 : Nat) (Option.some Jvm.ClassFile.FieldType.int)) : Cond) ∈ q_TT := q_tc3 43 rfl rfl
theorem t_524 : ((Jvm.Cond.methodLink "BallotFruit" (115 : Nat) ({ cls := "BallotFruit$Commune", name := "addTree", desc := "(III)I" } : Jvm.MethodName)) : Cond) ∈ q_TT := q_tt 524 (by decide +kernel) (by decide +kernel)
theorem t_525 : ((Jvm.Cond.instanceMethod ({ cls := "BallotFruit$Commune", name := "addTree", desc := "(III)I" } : Jvm.MethodName)) : Cond) ∈ q_TT := q_tt 525 (by decide +kernel) (by decide +kernel)
theorem t_526 : ((Jvm.Cond.selects "BallotFruit$Commune" ({ cls := "BallotFruit$Commune", name := "addTree", desc := "(III)I" } : Jvm.MethodName) ({ cls := "BallotFruit$Commune", name := "addTree", desc := "(III)I" } : Jvm.MethodName)) : Cond) ∈ q_TT := q_tt 526 (by decide +kernel) (by decide +kernel)
theorem t_527 : ((Jvm.Cond.code ({ cls := "BallotFruit$Commune", name := "addTree", desc := "(III)I" } : Jvm.MethodName) prog_2_method_11_code (5 : Nat) (Option.some Jvm.ClassFile.FieldType.int)) : Cond) ∈ q_TT := q_tc3 47 rfl rfl
theorem t_528 : ((Jvm.Cond.methodLink "BallotFruit" (123 : Nat) ({ cls := "BallotFruit$Pages", name := "write", desc := "(LBallotFruit$Commune;III)V" } : Jvm.MethodName)) : Cond) ∈ q_TT := q_tt 528 (by decide +kernel) (by decide +kernel)
theorem t_529 : ((Jvm.Cond.instanceMethod ({ cls := "BallotFruit$Pages", name := "write", desc := "(LBallotFruit$Commune;III)V" } : Jvm.MethodName)) : Cond) ∈ q_TT := q_tt 529 (by decide +kernel) (by decide +kernel)
theorem t_530 : ((Jvm.Cond.selects "BallotFruit$Pages" ({ cls := "BallotFruit$Pages", name := "write", desc := "(LBallotFruit$Commune;III)V" } : Jvm.MethodName) ({ cls := "BallotFruit$Pages", name := "write", desc := "(LBallotFruit$Commune;III)V" } : Jvm.MethodName)) : Cond) ∈ q_TT := q_tt 530 (by decide +kernel) (by decide +kernel)
theorem t_531 : ((Jvm.Cond.code ({ cls := "BallotFruit$Pages", name := "write", desc := "(LBallotFruit$Commune;III)V" } : Jvm.MethodName) prog_5_method_3_code (6 : Nat) (Option.none : Option Jvm.ClassFile.FieldType)) : Cond) ∈ q_TT := q_tc3 51 rfl rfl
theorem t_532 : ((Jvm.Cond.methodLink "BallotFruitLaw" (40 : Nat) ({ cls := "BallotFruit", name := "fence", desc := "(IZ)Z" } : Jvm.MethodName)) : Cond) ∈ q_TT := q_tt 532 (by decide +kernel) (by decide +kernel)
theorem t_533 : ((Jvm.Cond.instanceMethod ({ cls := "BallotFruit", name := "fence", desc := "(IZ)Z" } : Jvm.MethodName)) : Cond) ∈ q_TT := q_tt 533 (by decide +kernel) (by decide +kernel)
theorem t_534 : ((Jvm.Cond.selects "BallotFruit" ({ cls := "BallotFruit", name := "fence", desc := "(IZ)Z" } : Jvm.MethodName) ({ cls := "BallotFruit", name := "fence", desc := "(IZ)Z" } : Jvm.MethodName)) : Cond) ∈ q_TT := q_tt 534 (by decide +kernel) (by decide +kernel)
theorem t_535 : ((Jvm.Cond.code ({ cls := "BallotFruit", name := "fence", desc := "(IZ)Z" } : Jvm.MethodName) prog_1_method_8_code (3 : Nat) (Option.some Jvm.ClassFile.FieldType.boolean)) : Cond) ∈ q_TT := q_tc3 55 rfl rfl
theorem t_536 : ((Jvm.Cond.methodLink "BallotFruit" (129 : Nat) ({ cls := "BallotFruit$Commune", name := "isFenced", desc := "(I)Z" } : Jvm.MethodName)) : Cond) ∈ q_TT := q_tt 536 (by decide +kernel) (by decide +kernel)
theorem t_537 : ((Jvm.Cond.instanceMethod ({ cls := "BallotFruit$Commune", name := "isFenced", desc := "(I)Z" } : Jvm.MethodName)) : Cond) ∈ q_TT := q_tt 537 (by decide +kernel) (by decide +kernel)
theorem t_538 : ((Jvm.Cond.selects "BallotFruit$Commune" ({ cls := "BallotFruit$Commune", name := "isFenced", desc := "(I)Z" } : Jvm.MethodName) ({ cls := "BallotFruit$Commune", name := "isFenced", desc := "(I)Z" } : Jvm.MethodName)) : Cond) ∈ q_TT := q_tt 538 (by decide +kernel) (by decide +kernel)
theorem t_539 : ((Jvm.Cond.code ({ cls := "BallotFruit$Commune", name := "isFenced", desc := "(I)Z" } : Jvm.MethodName) prog_2_method_6_code (2 : Nat) (Option.some Jvm.ClassFile.FieldType.boolean)) : Cond) ∈ q_TT := q_tc3 59 rfl rfl
theorem t_540 : ((Jvm.Cond.methodLink "BallotFruit" (132 : Nat) ({ cls := "BallotFruit$Commune", name := "turnFence", desc := "(I)V" } : Jvm.MethodName)) : Cond) ∈ q_TT := q_tt 540 (by decide +kernel) (by decide +kernel)
theorem t_541 : ((Jvm.Cond.instanceMethod ({ cls := "BallotFruit$Commune", name := "turnFence", desc := "(I)V" } : Jvm.MethodName)) : Cond) ∈ q_TT := q_tt 541 (by decide +kernel) (by decide +kernel)
theorem t_542 : ((Jvm.Cond.selects "BallotFruit$Commune" ({ cls := "BallotFruit$Commune", name := "turnFence", desc := "(I)V" } : Jvm.MethodName) ({ cls := "BallotFruit$Commune", name := "turnFence", desc := "(I)V" } : Jvm.MethodName)) : Cond) ∈ q_TT := q_tt 542 (by decide +kernel) (by decide +kernel)
theorem t_543 : ((Jvm.Cond.code ({ cls := "BallotFruit$Commune", name := "turnFence", desc := "(I)V" } : Jvm.MethodName) prog_2_method_7_code (2 : Nat) (Option.none : Option Jvm.ClassFile.FieldType)) : Cond) ∈ q_TT := q_tc3 63 rfl rfl
theorem t_544 : ((Jvm.Cond.methodLink "BallotFruitLaw" (45 : Nat) ({ cls := "BallotFruit", name := "boil", desc := "(II)I" } : Jvm.MethodName)) : Cond) ∈ q_TT := q_tt 544 (by decide +kernel) (by decide +kernel)
theorem t_545 : ((Jvm.Cond.instanceMethod ({ cls := "BallotFruit", name := "boil", desc := "(II)I" } : Jvm.MethodName)) : Cond) ∈ q_TT := q_tt 545 (by decide +kernel) (by decide +kernel)
theorem t_546 : ((Jvm.Cond.selects "BallotFruit" ({ cls := "BallotFruit", name := "boil", desc := "(II)I" } : Jvm.MethodName) ({ cls := "BallotFruit", name := "boil", desc := "(II)I" } : Jvm.MethodName)) : Cond) ∈ q_TT := q_tt 546 (by decide +kernel) (by decide +kernel)
theorem t_547 : ((Jvm.Cond.code ({ cls := "BallotFruit", name := "boil", desc := "(II)I" } : Jvm.MethodName) prog_1_method_9_code (4 : Nat) (Option.some Jvm.ClassFile.FieldType.int)) : Cond) ∈ q_TT := q_tc3 67 rfl rfl
theorem t_548 : ((Jvm.Cond.methodLink "BallotFruit" (136 : Nat) ({ cls := "BallotFruit$Commune", name := "cook", desc := "(II)I" } : Jvm.MethodName)) : Cond) ∈ q_TT := q_tt 548 (by decide +kernel) (by decide +kernel)
theorem t_549 : ((Jvm.Cond.instanceMethod ({ cls := "BallotFruit$Commune", name := "cook", desc := "(II)I" } : Jvm.MethodName)) : Cond) ∈ q_TT := q_tt 549 (by decide +kernel) (by decide +kernel)
theorem t_550 : ((Jvm.Cond.selects "BallotFruit$Commune" ({ cls := "BallotFruit$Commune", name := "cook", desc := "(II)I" } : Jvm.MethodName) ({ cls := "BallotFruit$Commune", name := "cook", desc := "(II)I" } : Jvm.MethodName)) : Cond) ∈ q_TT := q_tt 550 (by decide +kernel) (by decide +kernel)
theorem t_551 : ((Jvm.Cond.code ({ cls := "BallotFruit$Commune", name := "cook", desc := "(II)I" } : Jvm.MethodName) prog_2_method_15_code (6 : Nat) (Option.some Jvm.ClassFile.FieldType.int)) : Cond) ∈ q_TT := q_tc3 71 rfl rfl
theorem t_552 : ((Jvm.Cond.methodLink "BallotFruit$Commune" (95 : Nat) ({ cls := "java/lang/Math", name := "min", desc := "(II)I" } : Jvm.MethodName)) : Cond) ∈ q_TT := q_tt 552 (by decide +kernel) (by decide +kernel)
theorem t_553 : ((Jvm.Cond.methodLink "BallotFruitLaw" (50 : Nat) ({ cls := "BallotFruit", name := "weeks", desc := "(I)I" } : Jvm.MethodName)) : Cond) ∈ q_TT := q_tt 553 (by decide +kernel) (by decide +kernel)
theorem t_554 : ((Jvm.Cond.instanceMethod ({ cls := "BallotFruit", name := "weeks", desc := "(I)I" } : Jvm.MethodName)) : Cond) ∈ q_TT := q_tt 554 (by decide +kernel) (by decide +kernel)
theorem t_555 : ((Jvm.Cond.selects "BallotFruit" ({ cls := "BallotFruit", name := "weeks", desc := "(I)I" } : Jvm.MethodName) ({ cls := "BallotFruit", name := "weeks", desc := "(I)I" } : Jvm.MethodName)) : Cond) ∈ q_TT := q_tt 555 (by decide +kernel) (by decide +kernel)
theorem t_556 : ((Jvm.Cond.code ({ cls := "BallotFruit", name := "weeks", desc := "(I)I" } : Jvm.MethodName) prog_1_method_10_code (4 : Nat) (Option.some Jvm.ClassFile.FieldType.int)) : Cond) ∈ q_TT := q_tc3 76 rfl rfl
theorem t_557 : ((Jvm.Cond.methodLink "BallotFruit" (143 : Nat) ({ cls := "BallotFruit$Season", name := "pass", desc := "(LBallotFruit$Whole;LBallotFruit$Commune;I)V" } : Jvm.MethodName)) : Cond) ∈ q_TT := q_tt 557 (by decide +kernel) (by decide +kernel)
theorem t_558 : ((Jvm.Cond.instanceMethod ({ cls := "BallotFruit$Season", name := "pass", desc := "(LBallotFruit$Whole;LBallotFruit$Commune;I)V" } : Jvm.MethodName)) : Cond) ∈ q_TT := q_tt 558 (by decide +kernel) (by decide +kernel)
theorem t_559 : ((Jvm.Cond.selects "BallotFruit$Season" ({ cls := "BallotFruit$Season", name := "pass", desc := "(LBallotFruit$Whole;LBallotFruit$Commune;I)V" } : Jvm.MethodName) ({ cls := "BallotFruit$Season", name := "pass", desc := "(LBallotFruit$Whole;LBallotFruit$Commune;I)V" } : Jvm.MethodName)) : Cond) ∈ q_TT := q_tt 559 (by decide +kernel) (by decide +kernel)
theorem t_560 : ((Jvm.Cond.code ({ cls := "BallotFruit$Season", name := "pass", desc := "(LBallotFruit$Whole;LBallotFruit$Commune;I)V" } : Jvm.MethodName) prog_9_method_2_code (6 : Nat) (Option.none : Option Jvm.ClassFile.FieldType)) : Cond) ∈ q_TT := q_tc3 80 rfl rfl
theorem t_561 : ((Jvm.Cond.methodLink "BallotFruit$Season" (19 : Nat) ({ cls := "BallotFruit$Season", name := "begin", desc := "()V" } : Jvm.MethodName)) : Cond) ∈ q_TT := q_tt 561 (by decide +kernel) (by decide +kernel)
theorem t_563 : ((Jvm.Cond.instanceMethod ({ cls := "BallotFruit$Season", name := "begin", desc := "()V" } : Jvm.MethodName)) : Cond) ∈ q_TT := q_tt 563 (by decide +kernel) (by decide +kernel)
theorem t_564 : ((Jvm.Cond.code ({ cls := "BallotFruit$Season", name := "begin", desc := "()V" } : Jvm.MethodName) prog_9_method_3_code (2 : Nat) (Option.none : Option Jvm.ClassFile.FieldType)) : Cond) ∈ q_TT := q_tc3 84 rfl rfl
theorem t_565 : ((Jvm.Cond.methodLink "BallotFruit$Season" (22 : Nat) ({ cls := "BallotFruit$Season", name := "follow", desc := "(LBallotFruit$Whole;LBallotFruit$Commune;)V" } : Jvm.MethodName)) : Cond) ∈ q_TT := q_tt 565 (by decide +kernel) (by decide +kernel)
theorem t_567 : ((Jvm.Cond.instanceMethod ({ cls := "BallotFruit$Season", name := "follow", desc := "(LBallotFruit$Whole;LBallotFruit$Commune;)V" } : Jvm.MethodName)) : Cond) ∈ q_TT := q_tt 567 (by decide +kernel) (by decide +kernel)
theorem t_568 : ((Jvm.Cond.code ({ cls := "BallotFruit$Season", name := "follow", desc := "(LBallotFruit$Whole;LBallotFruit$Commune;)V" } : Jvm.MethodName) prog_9_method_4_code (4 : Nat) (Option.none : Option Jvm.ClassFile.FieldType)) : Cond) ∈ q_TT := q_tc3 88 rfl rfl
theorem t_569 : ((Jvm.Cond.methodLink "BallotFruit$Season" (99 : Nat) ({ cls := "BallotFruit$Season", name := "act", desc := "(LBallotFruit$Whole;LBallotFruit$Commune;I)V" } : Jvm.MethodName)) : Cond) ∈ q_TT := q_tt 569 (by decide +kernel) (by decide +kernel)
theorem t_571 : ((Jvm.Cond.instanceMethod ({ cls := "BallotFruit$Season", name := "act", desc := "(LBallotFruit$Whole;LBallotFruit$Commune;I)V" } : Jvm.MethodName)) : Cond) ∈ q_TT := q_tt 571 (by decide +kernel) (by decide +kernel)
theorem t_572 : ((Jvm.Cond.code ({ cls := "BallotFruit$Season", name := "act", desc := "(LBallotFruit$Whole;LBallotFruit$Commune;I)V" } : Jvm.MethodName) prog_9_method_6_code (7 : Nat) (Option.none : Option Jvm.ClassFile.FieldType)) : Cond) ∈ q_TT := q_tc3 92 rfl rfl
theorem t_573 : ((Jvm.Cond.methodLink "BallotFruit$Season" (121 : Nat) ({ cls := "BallotFruit$Commune", name := "addTree", desc := "(III)I" } : Jvm.MethodName)) : Cond) ∈ q_TT := q_tt 573 (by decide +kernel) (by decide +kernel)
theorem t_574 : ((Jvm.Cond.methodLink "BallotFruit$Season" (125 : Nat) ({ cls := "BallotFruit$Season", name := "note", desc := "(LBallotFruit$Whole;LBallotFruit$Commune;III)V" } : Jvm.MethodName)) : Cond) ∈ q_TT := q_tt 574 (by decide +kernel) (by decide +kernel)
theorem t_576 : ((Jvm.Cond.instanceMethod ({ cls := "BallotFruit$Season", name := "note", desc := "(LBallotFruit$Whole;LBallotFruit$Commune;III)V" } : Jvm.MethodName)) : Cond) ∈ q_TT := q_tt 576 (by decide +kernel) (by decide +kernel)
theorem t_577 : ((Jvm.Cond.code ({ cls := "BallotFruit$Season", name := "note", desc := "(LBallotFruit$Whole;LBallotFruit$Commune;III)V" } : Jvm.MethodName) prog_9_method_5_code (6 : Nat) (Option.none : Option Jvm.ClassFile.FieldType)) : Cond) ∈ q_TT := q_tc3 97 rfl rfl
theorem t_578 : ((Jvm.Cond.methodLink "BallotFruit$Season" (106 : Nat) ({ cls := "BallotFruit$Pages", name := "write", desc := "(LBallotFruit$Commune;III)V" } : Jvm.MethodName)) : Cond) ∈ q_TT := q_tt 578 (by decide +kernel) (by decide +kernel)
theorem t_579 : ((Jvm.Cond.methodLink "BallotFruit$Season" (129 : Nat) ({ cls := "BallotFruit$Commune", name := "cook", desc := "(II)I" } : Jvm.MethodName)) : Cond) ∈ q_TT := q_tt 579 (by decide +kernel) (by decide +kernel)
theorem t_580 : ((Jvm.Cond.methodLink "BallotFruit$Season" (47 : Nat) ({ cls := "java/lang/Math", name := "min", desc := "(II)I" } : Jvm.MethodName)) : Cond) ∈ q_TT := q_tt 580 (by decide +kernel) (by decide +kernel)
theorem t_581 : ((Jvm.Cond.methodLink "BallotFruit$Season" (135 : Nat) ({ cls := "BallotFruit$Commune", name := "isFenced", desc := "(I)Z" } : Jvm.MethodName)) : Cond) ∈ q_TT := q_tt 581 (by decide +kernel) (by decide +kernel)
theorem t_582 : ((Jvm.Cond.methodLink "BallotFruit$Season" (139 : Nat) ({ cls := "BallotFruit$Commune", name := "turnFence", desc := "(I)V" } : Jvm.MethodName)) : Cond) ∈ q_TT := q_tt 582 (by decide +kernel) (by decide +kernel)
theorem t_583 : ((Jvm.Cond.methodLink "BallotFruit$Season" (41 : Nat) ({ cls := "BallotFruit$Law", name := "bears", desc := "(LBallotFruit$Commune;I)I" } : Jvm.MethodName)) : Cond) ∈ q_TT := q_tt 583 (by decide +kernel) (by decide +kernel)
theorem t_584 : ((Jvm.Cond.instanceMethod ({ cls := "BallotFruit$Law", name := "bears", desc := "(LBallotFruit$Commune;I)I" } : Jvm.MethodName)) : Cond) ∈ q_TT := q_tt 584 (by decide +kernel) (by decide +kernel)
theorem t_585 : ((Jvm.Cond.selects "BallotFruit$Law" ({ cls := "BallotFruit$Law", name := "bears", desc := "(LBallotFruit$Commune;I)I" } : Jvm.MethodName) ({ cls := "BallotFruit$Law", name := "bears", desc := "(LBallotFruit$Commune;I)I" } : Jvm.MethodName)) : Cond) ∈ q_TT := q_tt 585 (by decide +kernel) (by decide +kernel)
theorem t_586 : ((Jvm.Cond.code ({ cls := "BallotFruit$Law", name := "bears", desc := "(LBallotFruit$Commune;I)I" } : Jvm.MethodName) prog_4_method_5_code (3 : Nat) (Option.some Jvm.ClassFile.FieldType.int)) : Cond) ∈ q_TT := q_tc3 106 rfl rfl
theorem t_587 : ((Jvm.Cond.methodLink "BallotFruit$Law" (52 : Nat) ({ cls := "BallotFruit$Law", name := "ask", desc := "(LBallotFruit$Commune;I)V" } : Jvm.MethodName)) : Cond) ∈ q_TT := q_tt 587 (by decide +kernel) (by decide +kernel)
theorem t_589 : ((Jvm.Cond.instanceMethod ({ cls := "BallotFruit$Law", name := "ask", desc := "(LBallotFruit$Commune;I)V" } : Jvm.MethodName)) : Cond) ∈ q_TT := q_tt 589 (by decide +kernel) (by decide +kernel)
theorem t_590 : ((Jvm.Cond.code ({ cls := "BallotFruit$Law", name := "ask", desc := "(LBallotFruit$Commune;I)V" } : Jvm.MethodName) prog_4_method_9_code (4 : Nat) (Option.none : Option Jvm.ClassFile.FieldType)) : Cond) ∈ q_TT := q_tc3 110 rfl rfl
theorem t_591 : ((Jvm.Cond.methodLink "BallotFruit$Law" (86 : Nat) ({ cls := "BallotFruit$Commune", name := "isParty", desc := "(I)Z" } : Jvm.MethodName)) : Cond) ∈ q_TT := q_tt 591 (by decide +kernel) (by decide +kernel)
theorem t_592 : ((Jvm.Cond.methodLink "BallotFruit$Law" (56 : Nat) ({ cls := "BallotFruit$Law", name := "askTree", desc := "(LBallotFruit$Commune;I)V" } : Jvm.MethodName)) : Cond) ∈ q_TT := q_tt 592 (by decide +kernel) (by decide +kernel)
theorem t_594 : ((Jvm.Cond.instanceMethod ({ cls := "BallotFruit$Law", name := "askTree", desc := "(LBallotFruit$Commune;I)V" } : Jvm.MethodName)) : Cond) ∈ q_TT := q_tt 594 (by decide +kernel) (by decide +kernel)
theorem t_595 : ((Jvm.Cond.code ({ cls := "BallotFruit$Law", name := "askTree", desc := "(LBallotFruit$Commune;I)V" } : Jvm.MethodName) prog_4_method_10_code (3 : Nat) (Option.none : Option Jvm.ClassFile.FieldType)) : Cond) ∈ q_TT := q_tc3 115 rfl rfl
theorem t_596 : ((Jvm.Cond.methodLink "BallotFruit$Law" (62 : Nat) ({ cls := "BallotFruit$Law", name := "tell", desc := "(II)I" } : Jvm.MethodName)) : Cond) ∈ q_TT := q_tt 596 (by decide +kernel) (by decide +kernel)
theorem t_598 : ((Jvm.Cond.instanceMethod ({ cls := "BallotFruit$Law", name := "tell", desc := "(II)I" } : Jvm.MethodName)) : Cond) ∈ q_TT := q_tt 598 (by decide +kernel) (by decide +kernel)
theorem t_599 : ((Jvm.Cond.code ({ cls := "BallotFruit$Law", name := "tell", desc := "(II)I" } : Jvm.MethodName) prog_4_method_11_code (4 : Nat) (Option.some Jvm.ClassFile.FieldType.int)) : Cond) ∈ q_TT := q_tc3 119 rfl rfl
theorem t_600 : ((Jvm.Cond.methodLink "BallotFruit$Law" (99 : Nat) ({ cls := "BallotFruit$Law", name := "value", desc := "(II)I" } : Jvm.MethodName)) : Cond) ∈ q_TT := q_tt 600 (by decide +kernel) (by decide +kernel)
theorem t_602 : ((Jvm.Cond.instanceMethod ({ cls := "BallotFruit$Law", name := "value", desc := "(II)I" } : Jvm.MethodName)) : Cond) ∈ q_TT := q_tt 602 (by decide +kernel) (by decide +kernel)
theorem t_603 : ((Jvm.Cond.code ({ cls := "BallotFruit$Law", name := "value", desc := "(II)I" } : Jvm.MethodName) prog_4_method_12_code (9 : Nat) (Option.some Jvm.ClassFile.FieldType.int)) : Cond) ∈ q_TT := q_tc3 123 rfl rfl
theorem t_604 : ((Jvm.Cond.methodLink "BallotFruit$Law" (66 : Nat) ({ cls := "BallotFruit$Law", name := "hold", desc := "(II)I" } : Jvm.MethodName)) : Cond) ∈ q_TT := q_tt 604 (by decide +kernel) (by decide +kernel)
theorem t_605 : ((Jvm.Cond.static ({ cls := "BallotFruit$Law", name := "hold", desc := "(II)I" } : Jvm.MethodName)) : Cond) ∈ q_TT := q_tt 605 (by decide +kernel) (by decide +kernel)
theorem t_606 : ((Jvm.Cond.code ({ cls := "BallotFruit$Law", name := "hold", desc := "(II)I" } : Jvm.MethodName) prog_4_method_8_code (2 : Nat) (Option.some Jvm.ClassFile.FieldType.int)) : Cond) ∈ q_TT := q_tc3 126 rfl rfl
theorem t_607 : ((Jvm.Cond.methodLink "BallotFruit$Law" (75 : Nat) ({ cls := "java/lang/Math", name := "min", desc := "(II)I" } : Jvm.MethodName)) : Cond) ∈ q_TT := q_tt 607 (by decide +kernel) (by decide +kernel)
theorem t_608 : ((Jvm.Cond.methodLink "BallotFruit$Law" (80 : Nat) ({ cls := "java/lang/Math", name := "max", desc := "(II)I" } : Jvm.MethodName)) : Cond) ∈ q_TT := q_tt 608 (by decide +kernel) (by decide +kernel)
theorem t_609 : ((Jvm.Cond.static ({ cls := "java/lang/Math", name := "max", desc := "(II)I" } : Jvm.MethodName)) : Cond) ∈ q_TT := q_tt 609 (by decide +kernel) (by decide +kernel)
theorem t_610 : ((Jvm.Cond.code ({ cls := "java/lang/Math", name := "max", desc := "(II)I" } : Jvm.MethodName) prog_15_method_65_code (2 : Nat) (Option.some Jvm.ClassFile.FieldType.int)) : Cond) ∈ q_TT := q_tc3 130 rfl rfl
theorem t_611 : ((Jvm.Cond.methodLink "BallotFruit$Season" (56 : Nat) ({ cls := "BallotFruit$Season", name := "eat", desc := "(LBallotFruit$Whole;LBallotFruit$Commune;I)V" } : Jvm.MethodName)) : Cond) ∈ q_TT := q_tt 611 (by decide +kernel) (by decide +kernel)
theorem t_613 : ((Jvm.Cond.instanceMethod ({ cls := "BallotFruit$Season", name := "eat", desc := "(LBallotFruit$Whole;LBallotFruit$Commune;I)V" } : Jvm.MethodName)) : Cond) ∈ q_TT := q_tt 613 (by decide +kernel) (by decide +kernel)
theorem t_614 : ((Jvm.Cond.code ({ cls := "BallotFruit$Season", name := "eat", desc := "(LBallotFruit$Whole;LBallotFruit$Commune;I)V" } : Jvm.MethodName) prog_9_method_7_code (7 : Nat) (Option.none : Option Jvm.ClassFile.FieldType)) : Cond) ∈ q_TT := q_tc3 134 rfl rfl
theorem t_615 : ((Jvm.Cond.methodLink "BallotFruit$Season" (143 : Nat) ({ cls := "BallotFruit$Law", name := "wants", desc := "(LBallotFruit$Commune;I)I" } : Jvm.MethodName)) : Cond) ∈ q_TT := q_tt 615 (by decide +kernel) (by decide +kernel)
theorem t_616 : ((Jvm.Cond.instanceMethod ({ cls := "BallotFruit$Law", name := "wants", desc := "(LBallotFruit$Commune;I)I" } : Jvm.MethodName)) : Cond) ∈ q_TT := q_tt 616 (by decide +kernel) (by decide +kernel)
theorem t_617 : ((Jvm.Cond.selects "BallotFruit$Law" ({ cls := "BallotFruit$Law", name := "wants", desc := "(LBallotFruit$Commune;I)I" } : Jvm.MethodName) ({ cls := "BallotFruit$Law", name := "wants", desc := "(LBallotFruit$Commune;I)I" } : Jvm.MethodName)) : Cond) ∈ q_TT := q_tt 617 (by decide +kernel) (by decide +kernel)
theorem t_618 : ((Jvm.Cond.code ({ cls := "BallotFruit$Law", name := "wants", desc := "(LBallotFruit$Commune;I)I" } : Jvm.MethodName) prog_4_method_6_code (3 : Nat) (Option.some Jvm.ClassFile.FieldType.int)) : Cond) ∈ q_TT := q_tc3 138 rfl rfl
theorem t_619 : ((Jvm.Cond.methodLink "BallotFruit$Season" (155 : Nat) ({ cls := "BallotFruit$Paths", name := "step", desc := "(II)I" } : Jvm.MethodName)) : Cond) ∈ q_TT := q_tt 619 (by decide +kernel) (by decide +kernel)
theorem t_620 : ((Jvm.Cond.instanceMethod ({ cls := "BallotFruit$Paths", name := "step", desc := "(II)I" } : Jvm.MethodName)) : Cond) ∈ q_TT := q_tt 620 (by decide +kernel) (by decide +kernel)
theorem t_621 : ((Jvm.Cond.selects "BallotFruit$Paths" ({ cls := "BallotFruit$Paths", name := "step", desc := "(II)I" } : Jvm.MethodName) ({ cls := "BallotFruit$Paths", name := "step", desc := "(II)I" } : Jvm.MethodName)) : Cond) ∈ q_TT := q_tt 621 (by decide +kernel) (by decide +kernel)
theorem t_622 : ((Jvm.Cond.code ({ cls := "BallotFruit$Paths", name := "step", desc := "(II)I" } : Jvm.MethodName) prog_6_method_6_code (3 : Nat) (Option.some Jvm.ClassFile.FieldType.int)) : Cond) ∈ q_TT := q_tc3 142 rfl rfl
theorem t_623 : ((Jvm.Cond.methodLink "BallotFruit$Season" (158 : Nat) ({ cls := "BallotFruit$Season", name := "pick", desc := "(LBallotFruit$Whole;LBallotFruit$Commune;III)I" } : Jvm.MethodName)) : Cond) ∈ q_TT := q_tt 623 (by decide +kernel) (by decide +kernel)
theorem t_625 : ((Jvm.Cond.instanceMethod ({ cls := "BallotFruit$Season", name := "pick", desc := "(LBallotFruit$Whole;LBallotFruit$Commune;III)I" } : Jvm.MethodName)) : Cond) ∈ q_TT := q_tt 625 (by decide +kernel) (by decide +kernel)
theorem t_626 : ((Jvm.Cond.code ({ cls := "BallotFruit$Season", name := "pick", desc := "(LBallotFruit$Whole;LBallotFruit$Commune;III)I" } : Jvm.MethodName) prog_9_method_8_code (12 : Nat) (Option.some Jvm.ClassFile.FieldType.int)) : Cond) ∈ q_TT := q_tc3 146 rfl rfl
theorem t_627 : ((Jvm.Cond.methodLink "BallotFruit$Season" (166 : Nat) ({ cls := "BallotFruit$Commune", name := "treeFor", desc := "(II)I" } : Jvm.MethodName)) : Cond) ∈ q_TT := q_tt 627 (by decide +kernel) (by decide +kernel)
theorem t_628 : ((Jvm.Cond.instanceMethod ({ cls := "BallotFruit$Commune", name := "treeFor", desc := "(II)I" } : Jvm.MethodName)) : Cond) ∈ q_TT := q_tt 628 (by decide +kernel) (by decide +kernel)
theorem t_629 : ((Jvm.Cond.selects "BallotFruit$Commune" ({ cls := "BallotFruit$Commune", name := "treeFor", desc := "(II)I" } : Jvm.MethodName) ({ cls := "BallotFruit$Commune", name := "treeFor", desc := "(II)I" } : Jvm.MethodName)) : Cond) ∈ q_TT := q_tt 629 (by decide +kernel) (by decide +kernel)
theorem t_630 : ((Jvm.Cond.code ({ cls := "BallotFruit$Commune", name := "treeFor", desc := "(II)I" } : Jvm.MethodName) prog_2_method_17_code (6 : Nat) (Option.some Jvm.ClassFile.FieldType.int)) : Cond) ∈ q_TT := q_tc3 150 rfl rfl
theorem t_631 : ((Jvm.Cond.methodLink "BallotFruit$Commune" (101 : Nat) ({ cls := "BallotFruit$Commune", name := "tasteFor", desc := "(II)I" } : Jvm.MethodName)) : Cond) ∈ q_TT := q_tt 631 (by decide +kernel) (by decide +kernel)
theorem t_632 : ((Jvm.Cond.instanceMethod ({ cls := "BallotFruit$Commune", name := "tasteFor", desc := "(II)I" } : Jvm.MethodName)) : Cond) ∈ q_TT := q_tt 632 (by decide +kernel) (by decide +kernel)
theorem t_633 : ((Jvm.Cond.selects "BallotFruit$Commune" ({ cls := "BallotFruit$Commune", name := "tasteFor", desc := "(II)I" } : Jvm.MethodName) ({ cls := "BallotFruit$Commune", name := "tasteFor", desc := "(II)I" } : Jvm.MethodName)) : Cond) ∈ q_TT := q_tt 633 (by decide +kernel) (by decide +kernel)
theorem t_634 : ((Jvm.Cond.code ({ cls := "BallotFruit$Commune", name := "tasteFor", desc := "(II)I" } : Jvm.MethodName) prog_2_method_8_code (3 : Nat) (Option.some Jvm.ClassFile.FieldType.int)) : Cond) ∈ q_TT := q_tc3 154 rfl rfl
theorem t_635 : ((Jvm.Cond.methodLink "BallotFruit$Season" (175 : Nat) ({ cls := "BallotFruit$Law", name := "counts", desc := "(LBallotFruit$Commune;III)I" } : Jvm.MethodName)) : Cond) ∈ q_TT := q_tt 635 (by decide +kernel) (by decide +kernel)
theorem t_636 : ((Jvm.Cond.instanceMethod ({ cls := "BallotFruit$Law", name := "counts", desc := "(LBallotFruit$Commune;III)I" } : Jvm.MethodName)) : Cond) ∈ q_TT := q_tt 636 (by decide +kernel) (by decide +kernel)
theorem t_637 : ((Jvm.Cond.selects "BallotFruit$Law" ({ cls := "BallotFruit$Law", name := "counts", desc := "(LBallotFruit$Commune;III)I" } : Jvm.MethodName) ({ cls := "BallotFruit$Law", name := "counts", desc := "(LBallotFruit$Commune;III)I" } : Jvm.MethodName)) : Cond) ∈ q_TT := q_tt 637 (by decide +kernel) (by decide +kernel)
theorem t_638 : ((Jvm.Cond.code ({ cls := "BallotFruit$Law", name := "counts", desc := "(LBallotFruit$Commune;III)I" } : Jvm.MethodName) prog_4_method_7_code (5 : Nat) (Option.some Jvm.ClassFile.FieldType.int)) : Cond) ∈ q_TT := q_tc3 158 rfl rfl
theorem t_639 : ((Jvm.Cond.methodLink "BallotFruit$Law" (72 : Nat) ({ cls := "BallotFruit$Commune", name := "tasteFor", desc := "(II)I" } : Jvm.MethodName)) : Cond) ∈ q_TT := q_tt 639 (by decide +kernel) (by decide +kernel)
theorem t_640 : ((Jvm.Cond.methodLink "BallotFruit$Season" (179 : Nat) ({ cls := "BallotFruit$Season", name := "count", desc := "(LBallotFruit$Commune;II)V" } : Jvm.MethodName)) : Cond) ∈ q_TT := q_tt 640 (by decide +kernel) (by decide +kernel)
theorem t_642 : ((Jvm.Cond.instanceMethod ({ cls := "BallotFruit$Season", name := "count", desc := "(LBallotFruit$Commune;II)V" } : Jvm.MethodName)) : Cond) ∈ q_TT := q_tt 642 (by decide +kernel) (by decide +kernel)
theorem t_643 : ((Jvm.Cond.code ({ cls := "BallotFruit$Season", name := "count", desc := "(LBallotFruit$Commune;II)V" } : Jvm.MethodName) prog_9_method_10_code (5 : Nat) (Option.none : Option Jvm.ClassFile.FieldType)) : Cond) ∈ q_TT := q_tc3 163 rfl rfl
theorem t_644 : ((Jvm.Cond.methodLink "BallotFruit$Season" (186 : Nat) ({ cls := "BallotFruit$Commune", name := "drawOfThousand", desc := "()I" } : Jvm.MethodName)) : Cond) ∈ q_TT := q_tt 644 (by decide +kernel) (by decide +kernel)
theorem t_645 : ((Jvm.Cond.instanceMethod ({ cls := "BallotFruit$Commune", name := "drawOfThousand", desc := "()I" } : Jvm.MethodName)) : Cond) ∈ q_TT := q_tt 645 (by decide +kernel) (by decide +kernel)
theorem t_646 : ((Jvm.Cond.selects "BallotFruit$Commune" ({ cls := "BallotFruit$Commune", name := "drawOfThousand", desc := "()I" } : Jvm.MethodName) ({ cls := "BallotFruit$Commune", name := "drawOfThousand", desc := "()I" } : Jvm.MethodName)) : Cond) ∈ q_TT := q_tt 646 (by decide +kernel) (by decide +kernel)
theorem t_647 : ((Jvm.Cond.code ({ cls := "BallotFruit$Commune", name := "drawOfThousand", desc := "()I" } : Jvm.MethodName) prog_2_method_14_code (1 : Nat) (Option.some Jvm.ClassFile.FieldType.int)) : Cond) ∈ q_TT := q_tc3 167 rfl rfl
theorem t_648 : ((Jvm.Cond.constant "BallotFruit$Commune" (93 : Nat) (1664525 : Int32)) : Cond) ∈ q_TT := q_tt 648 (by decide +kernel) (by decide +kernel)
theorem t_649 : ((Jvm.Cond.constant "BallotFruit$Commune" (94 : Nat) (1013904223 : Int32)) : Cond) ∈ q_TT := q_tt 649 (by decide +kernel) (by decide +kernel)
theorem t_650 : ((Jvm.Cond.methodLink "BallotFruit$Season" (193 : Nat) ({ cls := "BallotFruit$Commune", name := "tasteFor", desc := "(II)I" } : Jvm.MethodName)) : Cond) ∈ q_TT := q_tt 650 (by decide +kernel) (by decide +kernel)
theorem t_651 : ((Jvm.Cond.methodLink "BallotFruit$Season" (196 : Nat) ({ cls := "java/lang/Math", name := "max", desc := "(II)I" } : Jvm.MethodName)) : Cond) ∈ q_TT := q_tt 651 (by decide +kernel) (by decide +kernel)
theorem t_652 : ((Jvm.Cond.methodLink "BallotFruit$Season" (162 : Nat) ({ cls := "BallotFruit$Season", name := "spoon", desc := "(LBallotFruit$Whole;LBallotFruit$Commune;II)I" } : Jvm.MethodName)) : Cond) ∈ q_TT := q_tt 652 (by decide +kernel) (by decide +kernel)
theorem t_654 : ((Jvm.Cond.instanceMethod ({ cls := "BallotFruit$Season", name := "spoon", desc := "(LBallotFruit$Whole;LBallotFruit$Commune;II)I" } : Jvm.MethodName)) : Cond) ∈ q_TT := q_tt 654 (by decide +kernel) (by decide +kernel)
theorem t_655 : ((Jvm.Cond.code ({ cls := "BallotFruit$Season", name := "spoon", desc := "(LBallotFruit$Whole;LBallotFruit$Commune;II)I" } : Jvm.MethodName) prog_9_method_9_code (10 : Nat) (Option.some Jvm.ClassFile.FieldType.int)) : Cond) ∈ q_TT := q_tc3 175 rfl rfl
theorem t_656 : ((Jvm.Cond.methodLink "BallotFruit$Season" (199 : Nat) ({ cls := "BallotFruit$Commune", name := "jamFor", desc := "(I)I" } : Jvm.MethodName)) : Cond) ∈ q_TT := q_tt 656 (by decide +kernel) (by decide +kernel)
theorem t_657 : ((Jvm.Cond.instanceMethod ({ cls := "BallotFruit$Commune", name := "jamFor", desc := "(I)I" } : Jvm.MethodName)) : Cond) ∈ q_TT := q_tt 657 (by decide +kernel) (by decide +kernel)
theorem t_658 : ((Jvm.Cond.selects "BallotFruit$Commune" ({ cls := "BallotFruit$Commune", name := "jamFor", desc := "(I)I" } : Jvm.MethodName) ({ cls := "BallotFruit$Commune", name := "jamFor", desc := "(I)I" } : Jvm.MethodName)) : Cond) ∈ q_TT := q_tt 658 (by decide +kernel) (by decide +kernel)
theorem t_659 : ((Jvm.Cond.code ({ cls := "BallotFruit$Commune", name := "jamFor", desc := "(I)I" } : Jvm.MethodName) prog_2_method_18_code (5 : Nat) (Option.some Jvm.ClassFile.FieldType.int)) : Cond) ∈ q_TT := q_tc3 179 rfl rfl
theorem t_660 : ((Jvm.Cond.methodLink "BallotFruit$Season" (63 : Nat) ({ cls := "BallotFruit$Season", name := "sting", desc := "(LBallotFruit$Whole;LBallotFruit$Commune;)V" } : Jvm.MethodName)) : Cond) ∈ q_TT := q_tt 660 (by decide +kernel) (by decide +kernel)
theorem t_662 : ((Jvm.Cond.instanceMethod ({ cls := "BallotFruit$Season", name := "sting", desc := "(LBallotFruit$Whole;LBallotFruit$Commune;)V" } : Jvm.MethodName)) : Cond) ∈ q_TT := q_tt 662 (by decide +kernel) (by decide +kernel)
theorem t_663 : ((Jvm.Cond.code ({ cls := "BallotFruit$Season", name := "sting", desc := "(LBallotFruit$Whole;LBallotFruit$Commune;)V" } : Jvm.MethodName) prog_9_method_11_code (5 : Nat) (Option.none : Option Jvm.ClassFile.FieldType)) : Cond) ∈ q_TT := q_tc3 183 rfl rfl
theorem t_664 : ((Jvm.Cond.methodLink "BallotFruit$Season" (72 : Nat) ({ cls := "BallotFruit$Season", name := "vote", desc := "(LBallotFruit$Whole;LBallotFruit$Commune;)V" } : Jvm.MethodName)) : Cond) ∈ q_TT := q_tt 664 (by decide +kernel) (by decide +kernel)
theorem t_666 : ((Jvm.Cond.instanceMethod ({ cls := "BallotFruit$Season", name := "vote", desc := "(LBallotFruit$Whole;LBallotFruit$Commune;)V" } : Jvm.MethodName)) : Cond) ∈ q_TT := q_tt 666 (by decide +kernel) (by decide +kernel)
theorem t_667 : ((Jvm.Cond.code ({ cls := "BallotFruit$Season", name := "vote", desc := "(LBallotFruit$Whole;LBallotFruit$Commune;)V" } : Jvm.MethodName) prog_9_method_12_code (4 : Nat) (Option.none : Option Jvm.ClassFile.FieldType)) : Cond) ∈ q_TT := q_tc3 187 rfl rfl
theorem t_668 : ((Jvm.Cond.methodLink "BallotFruit$Season" (209 : Nat) ({ cls := "BallotFruit$Commune", name := "seatAnew", desc := "()V" } : Jvm.MethodName)) : Cond) ∈ q_TT := q_tt 668 (by decide +kernel) (by decide +kernel)
theorem t_669 : ((Jvm.Cond.instanceMethod ({ cls := "BallotFruit$Commune", name := "seatAnew", desc := "()V" } : Jvm.MethodName)) : Cond) ∈ q_TT := q_tt 669 (by decide +kernel) (by decide +kernel)
theorem t_670 : ((Jvm.Cond.selects "BallotFruit$Commune" ({ cls := "BallotFruit$Commune", name := "seatAnew", desc := "()V" } : Jvm.MethodName) ({ cls := "BallotFruit$Commune", name := "seatAnew", desc := "()V" } : Jvm.MethodName)) : Cond) ∈ q_TT := q_tt 670 (by decide +kernel) (by decide +kernel)
theorem t_671 : ((Jvm.Cond.code ({ cls := "BallotFruit$Commune", name := "seatAnew", desc := "()V" } : Jvm.MethodName) prog_2_method_21_code (6 : Nat) (Option.none : Option Jvm.ClassFile.FieldType)) : Cond) ∈ q_TT := q_tc3 191 rfl rfl
theorem t_672 : ((Jvm.Cond.methodLink "BallotFruit$Commune" (104 : Nat) ({ cls := "BallotFruit$Commune", name := "greatestRemainder", desc := "(II)I" } : Jvm.MethodName)) : Cond) ∈ q_TT := q_tt 672 (by decide +kernel) (by decide +kernel)
theorem t_674 : ((Jvm.Cond.instanceMethod ({ cls := "BallotFruit$Commune", name := "greatestRemainder", desc := "(II)I" } : Jvm.MethodName)) : Cond) ∈ q_TT := q_tt 674 (by decide +kernel) (by decide +kernel)
theorem t_675 : ((Jvm.Cond.code ({ cls := "BallotFruit$Commune", name := "greatestRemainder", desc := "(II)I" } : Jvm.MethodName) prog_2_method_22_code (7 : Nat) (Option.some Jvm.ClassFile.FieldType.int)) : Cond) ∈ q_TT := q_tc3 195 rfl rfl
theorem t_676 : ((Jvm.Cond.methodLink "BallotFruit$Season" (215 : Nat) ({ cls := "BallotFruit$Commune", name := "partyWithMostSeats", desc := "()I" } : Jvm.MethodName)) : Cond) ∈ q_TT := q_tt 676 (by decide +kernel) (by decide +kernel)
theorem t_677 : ((Jvm.Cond.instanceMethod ({ cls := "BallotFruit$Commune", name := "partyWithMostSeats", desc := "()I" } : Jvm.MethodName)) : Cond) ∈ q_TT := q_tt 677 (by decide +kernel) (by decide +kernel)
theorem t_678 : ((Jvm.Cond.selects "BallotFruit$Commune" ({ cls := "BallotFruit$Commune", name := "partyWithMostSeats", desc := "()I" } : Jvm.MethodName) ({ cls := "BallotFruit$Commune", name := "partyWithMostSeats", desc := "()I" } : Jvm.MethodName)) : Cond) ∈ q_TT := q_tt 678 (by decide +kernel) (by decide +kernel)
theorem t_679 : ((Jvm.Cond.code ({ cls := "BallotFruit$Commune", name := "partyWithMostSeats", desc := "()I" } : Jvm.MethodName) prog_2_method_20_code (3 : Nat) (Option.some Jvm.ClassFile.FieldType.int)) : Cond) ∈ q_TT := q_tc3 199 rfl rfl
theorem t_680 : ((Jvm.Cond.methodLink "BallotFruit$Season" (75 : Nat) ({ cls := "BallotFruit$Commune", name := "growOlder", desc := "()V" } : Jvm.MethodName)) : Cond) ∈ q_TT := q_tt 680 (by decide +kernel) (by decide +kernel)
theorem t_681 : ((Jvm.Cond.instanceMethod ({ cls := "BallotFruit$Commune", name := "growOlder", desc := "()V" } : Jvm.MethodName)) : Cond) ∈ q_TT := q_tt 681 (by decide +kernel) (by decide +kernel)
theorem t_682 : ((Jvm.Cond.selects "BallotFruit$Commune" ({ cls := "BallotFruit$Commune", name := "growOlder", desc := "()V" } : Jvm.MethodName) ({ cls := "BallotFruit$Commune", name := "growOlder", desc := "()V" } : Jvm.MethodName)) : Cond) ∈ q_TT := q_tt 682 (by decide +kernel) (by decide +kernel)
theorem t_683 : ((Jvm.Cond.code ({ cls := "BallotFruit$Commune", name := "growOlder", desc := "()V" } : Jvm.MethodName) prog_2_method_23_code (2 : Nat) (Option.none : Option Jvm.ClassFile.FieldType)) : Cond) ∈ q_TT := q_tc3 203 rfl rfl
theorem t_684 : ((Jvm.Cond.methodLink "BallotFruitLaw" (54 : Nat) ({ cls := "BallotFruit", name := "feed", desc := "(IIIII)I" } : Jvm.MethodName)) : Cond) ∈ q_TT := q_tt 684 (by decide +kernel) (by decide +kernel)
theorem t_685 : ((Jvm.Cond.instanceMethod ({ cls := "BallotFruit", name := "feed", desc := "(IIIII)I" } : Jvm.MethodName)) : Cond) ∈ q_TT := q_tt 685 (by decide +kernel) (by decide +kernel)
theorem t_686 : ((Jvm.Cond.selects "BallotFruit" ({ cls := "BallotFruit", name := "feed", desc := "(IIIII)I" } : Jvm.MethodName) ({ cls := "BallotFruit", name := "feed", desc := "(IIIII)I" } : Jvm.MethodName)) : Cond) ∈ q_TT := q_tt 686 (by decide +kernel) (by decide +kernel)
theorem t_687 : ((Jvm.Cond.code ({ cls := "BallotFruit", name := "feed", desc := "(IIIII)I" } : Jvm.MethodName) prog_1_method_11_code (6 : Nat) (Option.some Jvm.ClassFile.FieldType.int)) : Cond) ∈ q_TT := q_tc3 207 rfl rfl
theorem t_688 : ((Jvm.Cond.methodLink "BallotFruit" (155 : Nat) ({ cls := "BallotFruit$Tape", name := "addFour", desc := "(I)V" } : Jvm.MethodName)) : Cond) ∈ q_TT := q_tt 688 (by decide +kernel) (by decide +kernel)
theorem t_689 : ((Jvm.Cond.instanceMethod ({ cls := "BallotFruit$Tape", name := "addFour", desc := "(I)V" } : Jvm.MethodName)) : Cond) ∈ q_TT := q_tt 689 (by decide +kernel) (by decide +kernel)
theorem t_690 : ((Jvm.Cond.selects "BallotFruit$Tape" ({ cls := "BallotFruit$Tape", name := "addFour", desc := "(I)V" } : Jvm.MethodName) ({ cls := "BallotFruit$Tape", name := "addFour", desc := "(I)V" } : Jvm.MethodName)) : Cond) ∈ q_TT := q_tt 690 (by decide +kernel) (by decide +kernel)
theorem t_691 : ((Jvm.Cond.code ({ cls := "BallotFruit$Tape", name := "addFour", desc := "(I)V" } : Jvm.MethodName) prog_10_method_2_code (3 : Nat) (Option.none : Option Jvm.ClassFile.FieldType)) : Cond) ∈ q_TT := q_tc3 211 rfl rfl
theorem t_692 : ((Jvm.Cond.methodLink "BallotFruitLaw" (59 : Nat) ({ cls := "BallotFruit", name := "end", desc := "(I)Z" } : Jvm.MethodName)) : Cond) ∈ q_TT := q_tt 692 (by decide +kernel) (by decide +kernel)
theorem t_693 : ((Jvm.Cond.instanceMethod ({ cls := "BallotFruit", name := "end", desc := "(I)Z" } : Jvm.MethodName)) : Cond) ∈ q_TT := q_tt 693 (by decide +kernel) (by decide +kernel)
theorem t_694 : ((Jvm.Cond.selects "BallotFruit" ({ cls := "BallotFruit", name := "end", desc := "(I)Z" } : Jvm.MethodName) ({ cls := "BallotFruit", name := "end", desc := "(I)Z" } : Jvm.MethodName)) : Cond) ∈ q_TT := q_tt 694 (by decide +kernel) (by decide +kernel)
theorem t_695 : ((Jvm.Cond.code ({ cls := "BallotFruit", name := "end", desc := "(I)Z" } : Jvm.MethodName) prog_1_method_12_code (2 : Nat) (Option.some Jvm.ClassFile.FieldType.boolean)) : Cond) ∈ q_TT := q_tc3 215 rfl rfl
theorem t_696 : ((Jvm.Cond.methodLink "BallotFruitLaw" (64 : Nat) ({ cls := "BallotFruit", name := "text", desc := "(I)I" } : Jvm.MethodName)) : Cond) ∈ q_TT := q_tt 696 (by decide +kernel) (by decide +kernel)
theorem t_697 : ((Jvm.Cond.instanceMethod ({ cls := "BallotFruit", name := "text", desc := "(I)I" } : Jvm.MethodName)) : Cond) ∈ q_TT := q_tt 697 (by decide +kernel) (by decide +kernel)
theorem t_698 : ((Jvm.Cond.selects "BallotFruit" ({ cls := "BallotFruit", name := "text", desc := "(I)I" } : Jvm.MethodName) ({ cls := "BallotFruit", name := "text", desc := "(I)I" } : Jvm.MethodName)) : Cond) ∈ q_TT := q_tt 698 (by decide +kernel) (by decide +kernel)
theorem t_699 : ((Jvm.Cond.code ({ cls := "BallotFruit", name := "text", desc := "(I)I" } : Jvm.MethodName) prog_1_method_13_code (3 : Nat) (Option.some Jvm.ClassFile.FieldType.int)) : Cond) ∈ q_TT := q_tc3 219 rfl rfl
theorem t_700 : ((Jvm.Cond.methodLink "BallotFruit" (158 : Nat) ({ cls := "BallotFruit$Reader", name := "begin", desc := "(II)V" } : Jvm.MethodName)) : Cond) ∈ q_TT := q_tt 700 (by decide +kernel) (by decide +kernel)
theorem t_701 : ((Jvm.Cond.instanceMethod ({ cls := "BallotFruit$Reader", name := "begin", desc := "(II)V" } : Jvm.MethodName)) : Cond) ∈ q_TT := q_tt 701 (by decide +kernel) (by decide +kernel)
theorem t_702 : ((Jvm.Cond.selects "BallotFruit$Reader" ({ cls := "BallotFruit$Reader", name := "begin", desc := "(II)V" } : Jvm.MethodName) ({ cls := "BallotFruit$Reader", name := "begin", desc := "(II)V" } : Jvm.MethodName)) : Cond) ∈ q_TT := q_tt 702 (by decide +kernel) (by decide +kernel)
theorem t_703 : ((Jvm.Cond.code ({ cls := "BallotFruit$Reader", name := "begin", desc := "(II)V" } : Jvm.MethodName) prog_8_method_2_code (3 : Nat) (Option.none : Option Jvm.ClassFile.FieldType)) : Cond) ∈ q_TT := q_tc3 223 rfl rfl
theorem t_704 : ((Jvm.Cond.methodLink "BallotFruit" (166 : Nat) ({ cls := "BallotFruit$Reader", name := "readLaw", desc := "(LBallotFruit$Law;)I" } : Jvm.MethodName)) : Cond) ∈ q_TT := q_tt 704 (by decide +kernel) (by decide +kernel)
theorem t_705 : ((Jvm.Cond.instanceMethod ({ cls := "BallotFruit$Reader", name := "readLaw", desc := "(LBallotFruit$Law;)I" } : Jvm.MethodName)) : Cond) ∈ q_TT := q_tt 705 (by decide +kernel) (by decide +kernel)
theorem t_706 : ((Jvm.Cond.selects "BallotFruit$Reader" ({ cls := "BallotFruit$Reader", name := "readLaw", desc := "(LBallotFruit$Law;)I" } : Jvm.MethodName) ({ cls := "BallotFruit$Reader", name := "readLaw", desc := "(LBallotFruit$Law;)I" } : Jvm.MethodName)) : Cond) ∈ q_TT := q_tt 706 (by decide +kernel) (by decide +kernel)
theorem t_707 : ((Jvm.Cond.code ({ cls := "BallotFruit$Reader", name := "readLaw", desc := "(LBallotFruit$Law;)I" } : Jvm.MethodName) prog_8_method_3_code (3 : Nat) (Option.some Jvm.ClassFile.FieldType.int)) : Cond) ∈ q_TT := q_tc3 227 rfl rfl
theorem t_709 : ((Jvm.Cond.methodLink "BallotFruit$Reader" (57 : Nat) ({ cls := "BallotFruit$Tape", name := "cut", desc := "(Ljava/lang/String;)V" } : Jvm.MethodName)) : Cond) ∈ q_TT := q_tt 709 (by decide +kernel) (by decide +kernel)
theorem t_710 : ((Jvm.Cond.instanceMethod ({ cls := "BallotFruit$Tape", name := "cut", desc := "(Ljava/lang/String;)V" } : Jvm.MethodName)) : Cond) ∈ q_TT := q_tt 710 (by decide +kernel) (by decide +kernel)
theorem t_711 : ((Jvm.Cond.selects "BallotFruit$Tape" ({ cls := "BallotFruit$Tape", name := "cut", desc := "(Ljava/lang/String;)V" } : Jvm.MethodName) ({ cls := "BallotFruit$Tape", name := "cut", desc := "(Ljava/lang/String;)V" } : Jvm.MethodName)) : Cond) ∈ q_TT := q_tt 711 (by decide +kernel) (by decide +kernel)
theorem t_712 : ((Jvm.Cond.code ({ cls := "BallotFruit$Tape", name := "cut", desc := "(Ljava/lang/String;)V" } : Jvm.MethodName) prog_10_method_3_code (5 : Nat) (Option.none : Option Jvm.ClassFile.FieldType)) : Cond) ∈ q_TT := q_tc3 232 rfl rfl
theorem t_713 : ((Jvm.Cond.methodLink "BallotFruit$Tape" (31 : Nat) ({ cls := "BallotFruit$Tape", name := "isLetter", desc := "(I)Z" } : Jvm.MethodName)) : Cond) ∈ q_TT := q_tt 713 (by decide +kernel) (by decide +kernel)
theorem t_714 : ((Jvm.Cond.static ({ cls := "BallotFruit$Tape", name := "isLetter", desc := "(I)Z" } : Jvm.MethodName)) : Cond) ∈ q_TT := q_tt 714 (by decide +kernel) (by decide +kernel)
theorem t_715 : ((Jvm.Cond.code ({ cls := "BallotFruit$Tape", name := "isLetter", desc := "(I)Z" } : Jvm.MethodName) prog_10_method_5_code (1 : Nat) (Option.some Jvm.ClassFile.FieldType.boolean)) : Cond) ∈ q_TT := q_tc3 235 rfl rfl
theorem t_716 : ((Jvm.Cond.methodLink "BallotFruit$Tape" (35 : Nat) ({ cls := "BallotFruit$Tape", name := "word", desc := "(Ljava/lang/String;II)I" } : Jvm.MethodName)) : Cond) ∈ q_TT := q_tt 716 (by decide +kernel) (by decide +kernel)
theorem t_718 : ((Jvm.Cond.instanceMethod ({ cls := "BallotFruit$Tape", name := "word", desc := "(Ljava/lang/String;II)I" } : Jvm.MethodName)) : Cond) ∈ q_TT := q_tt 718 (by decide +kernel) (by decide +kernel)
theorem t_719 : ((Jvm.Cond.code ({ cls := "BallotFruit$Tape", name := "word", desc := "(Ljava/lang/String;II)I" } : Jvm.MethodName) prog_10_method_9_code (9 : Nat) (Option.some Jvm.ClassFile.FieldType.int)) : Cond) ∈ q_TT := q_tc3 239 rfl rfl
theorem t_720 : ((Jvm.Cond.methodLink "BallotFruit$Tape" (53 : Nat) ({ cls := "java/lang/String", name := "length", desc := "()I" } : Jvm.MethodName)) : Cond) ∈ q_TT := q_tt 720 (by decide +kernel) (by decide +kernel)
theorem t_721 : ((Jvm.Cond.instanceMethod ({ cls := "java/lang/String", name := "length", desc := "()I" } : Jvm.MethodName)) : Cond) ∈ q_TT := q_tt 721 (by decide +kernel) (by decide +kernel)
theorem t_722 : ((Jvm.Cond.selects "java/lang/String" ({ cls := "java/lang/String", name := "length", desc := "()I" } : Jvm.MethodName) ({ cls := "java/lang/String", name := "length", desc := "()I" } : Jvm.MethodName)) : Cond) ∈ q_TT := q_tt 722 (by decide +kernel) (by decide +kernel)
theorem t_723 : ((Jvm.Cond.code ({ cls := "java/lang/String", name := "length", desc := "()I" } : Jvm.MethodName) prog_16_method_54_code (1 : Nat) (Option.some Jvm.ClassFile.FieldType.int)) : Cond) ∈ q_TT := q_tc4 3 rfl rfl
theorem t_724 : ((Jvm.Cond.methodLink "java/lang/String" (335 : Nat) ({ cls := "java/lang/String", name := "coder", desc := "()B" } : Jvm.MethodName)) : Cond) ∈ q_TT := q_tt 724 (by decide +kernel) (by decide +kernel)
theorem t_725 : ((Jvm.Cond.instanceMethod ({ cls := "java/lang/String", name := "coder", desc := "()B" } : Jvm.MethodName)) : Cond) ∈ q_TT := q_tt 725 (by decide +kernel) (by decide +kernel)
theorem t_726 : ((Jvm.Cond.selects "java/lang/String" ({ cls := "java/lang/String", name := "coder", desc := "()B" } : Jvm.MethodName) ({ cls := "java/lang/String", name := "coder", desc := "()B" } : Jvm.MethodName)) : Cond) ∈ q_TT := q_tt 726 (by decide +kernel) (by decide +kernel)
theorem t_727 : ((Jvm.Cond.code ({ cls := "java/lang/String", name := "coder", desc := "()B" } : Jvm.MethodName) prog_16_method_152_code (1 : Nat) (Option.some Jvm.ClassFile.FieldType.byte)) : Cond) ∈ q_TT := q_tc4 7 rfl rfl
theorem t_728 : ((Jvm.Cond.fieldLink "java/lang/String" (38 : Nat) "java/lang/String" "COMPACT_STRINGS" "Z") : Cond) ∈ q_TT := q_tt 728 (by decide +kernel) (by decide +kernel)
theorem t_730 : ((Jvm.Cond.methodLink "BallotFruit$Tape" (58 : Nat) ({ cls := "java/lang/String", name := "charAt", desc := "(I)C" } : Jvm.MethodName)) : Cond) ∈ q_TT := q_tt 730 (by decide +kernel) (by decide +kernel)
theorem t_731 : ((Jvm.Cond.instanceMethod ({ cls := "java/lang/String", name := "charAt", desc := "(I)C" } : Jvm.MethodName)) : Cond) ∈ q_TT := q_tt 731 (by decide +kernel) (by decide +kernel)
theorem t_732 : ((Jvm.Cond.selects "java/lang/String" ({ cls := "java/lang/String", name := "charAt", desc := "(I)C" } : Jvm.MethodName) ({ cls := "java/lang/String", name := "charAt", desc := "(I)C" } : Jvm.MethodName)) : Cond) ∈ q_TT := q_tt 732 (by decide +kernel) (by decide +kernel)
theorem t_733 : ((Jvm.Cond.code ({ cls := "java/lang/String", name := "charAt", desc := "(I)C" } : Jvm.MethodName) prog_16_method_56_code (2 : Nat) (Option.some Jvm.ClassFile.FieldType.char)) : Cond) ∈ q_TT := q_tc4 13 rfl rfl
theorem t_734 : ((Jvm.Cond.methodLink "java/lang/String" (492 : Nat) ({ cls := "java/lang/String", name := "isLatin1", desc := "()Z" } : Jvm.MethodName)) : Cond) ∈ q_TT := q_tt 734 (by decide +kernel) (by decide +kernel)
theorem t_735 : ((Jvm.Cond.instanceMethod ({ cls := "java/lang/String", name := "isLatin1", desc := "()Z" } : Jvm.MethodName)) : Cond) ∈ q_TT := q_tt 735 (by decide +kernel) (by decide +kernel)
theorem t_736 : ((Jvm.Cond.selects "java/lang/String" ({ cls := "java/lang/String", name := "isLatin1", desc := "()Z" } : Jvm.MethodName) ({ cls := "java/lang/String", name := "isLatin1", desc := "()Z" } : Jvm.MethodName)) : Cond) ∈ q_TT := q_tt 736 (by decide +kernel) (by decide +kernel)
theorem t_737 : ((Jvm.Cond.code ({ cls := "java/lang/String", name := "isLatin1", desc := "()Z" } : Jvm.MethodName) prog_16_method_154_code (1 : Nat) (Option.some Jvm.ClassFile.FieldType.boolean)) : Cond) ∈ q_TT := q_tc4 17 rfl rfl
theorem t_738 : ((Jvm.Cond.methodLink "java/lang/String" (495 : Nat) ({ cls := "java/lang/StringLatin1", name := "charAt", desc := "([BI)C" } : Jvm.MethodName)) : Cond) ∈ q_TT := q_tt 738 (by decide +kernel) (by decide +kernel)
theorem t_739 : ((Jvm.Cond.static ({ cls := "java/lang/StringLatin1", name := "charAt", desc := "([BI)C" } : Jvm.MethodName)) : Cond) ∈ q_TT := q_tt 739 (by decide +kernel) (by decide +kernel)
theorem t_740 : ((Jvm.Cond.code ({ cls := "java/lang/StringLatin1", name := "charAt", desc := "([BI)C" } : Jvm.MethodName) prog_17_method_2_code (2 : Nat) (Option.some Jvm.ClassFile.FieldType.char)) : Cond) ∈ q_TT := q_tc4 20 rfl rfl
theorem t_741 : ((Jvm.Cond.methodLink "java/lang/StringLatin1" (9 : Nat) ({ cls := "java/lang/String", name := "checkIndex", desc := "(II)V" } : Jvm.MethodName)) : Cond) ∈ q_TT := q_tt 741 (by decide +kernel) (by decide +kernel)
theorem t_742 : ((Jvm.Cond.static ({ cls := "java/lang/String", name := "checkIndex", desc := "(II)V" } : Jvm.MethodName)) : Cond) ∈ q_TT := q_tt 742 (by decide +kernel) (by decide +kernel)
theorem t_743 : ((Jvm.Cond.code ({ cls := "java/lang/String", name := "checkIndex", desc := "(II)V" } : Jvm.MethodName) prog_16_method_155_code (2 : Nat) (Option.none : Option Jvm.ClassFile.FieldType)) : Cond) ∈ q_TT := q_tc4 23 rfl rfl
theorem t_744 : ((Jvm.Cond.fieldLink "java/lang/String" (1053 : Nat) "jdk/internal/util/Preconditions" "SIOOBE_FORMATTER" "Ljava/util/function/BiFunction;") : Cond) ∈ q_TT := q_tt 744 (by decide +kernel) (by decide +kernel)
theorem t_746 : ((Jvm.Cond.methodLink "java/lang/String" (1059 : Nat) ({ cls := "jdk/internal/util/Preconditions", name := "checkIndex", desc := "(IILjava/util/function/BiFunction;)I" } : Jvm.MethodName)) : Cond) ∈ q_TT := q_tt 746 (by decide +kernel) (by decide +kernel)
theorem t_747 : ((Jvm.Cond.static ({ cls := "jdk/internal/util/Preconditions", name := "checkIndex", desc := "(IILjava/util/function/BiFunction;)I" } : Jvm.MethodName)) : Cond) ∈ q_TT := q_tt 747 (by decide +kernel) (by decide +kernel)
theorem t_748 : ((Jvm.Cond.code ({ cls := "jdk/internal/util/Preconditions", name := "checkIndex", desc := "(IILjava/util/function/BiFunction;)I" } : Jvm.MethodName) prog_20_method_11_code (3 : Nat) (Option.some Jvm.ClassFile.FieldType.int)) : Cond) ∈ q_TT := q_tc4 28 rfl rfl
theorem t_749 : ((Jvm.Cond.methodLink "java/lang/String" (498 : Nat) ({ cls := "java/lang/StringUTF16", name := "charAt", desc := "([BI)C" } : Jvm.MethodName)) : Cond) ∈ q_TT := q_tt 749 (by decide +kernel) (by decide +kernel)
theorem t_750 : ((Jvm.Cond.static ({ cls := "java/lang/StringUTF16", name := "charAt", desc := "([BI)C" } : Jvm.MethodName)) : Cond) ∈ q_TT := q_tt 750 (by decide +kernel) (by decide +kernel)
theorem t_751 : ((Jvm.Cond.code ({ cls := "java/lang/StringUTF16", name := "charAt", desc := "([BI)C" } : Jvm.MethodName) prog_18_method_83_code (2 : Nat) (Option.some Jvm.ClassFile.FieldType.char)) : Cond) ∈ q_TT := q_tc4 31 rfl rfl
theorem t_752 : ((Jvm.Cond.methodLink "java/lang/StringUTF16" (67 : Nat) ({ cls := "java/lang/StringUTF16", name := "checkIndex", desc := "(I[B)V" } : Jvm.MethodName)) : Cond) ∈ q_TT := q_tt 752 (by decide +kernel) (by decide +kernel)
theorem t_753 : ((Jvm.Cond.static ({ cls := "java/lang/StringUTF16", name := "checkIndex", desc := "(I[B)V" } : Jvm.MethodName)) : Cond) ∈ q_TT := q_tt 753 (by decide +kernel) (by decide +kernel)
theorem t_754 : ((Jvm.Cond.code ({ cls := "java/lang/StringUTF16", name := "checkIndex", desc := "(I[B)V" } : Jvm.MethodName) prog_18_method_91_code (2 : Nat) (Option.none : Option Jvm.ClassFile.FieldType)) : Cond) ∈ q_TT := q_tc4 34 rfl rfl
theorem t_755 : ((Jvm.Cond.methodLink "java/lang/StringUTF16" (48 : Nat) ({ cls := "java/lang/StringUTF16", name := "length", desc := "([B)I" } : Jvm.MethodName)) : Cond) ∈ q_TT := q_tt 755 (by decide +kernel) (by decide +kernel)
theorem t_756 : ((Jvm.Cond.static ({ cls := "java/lang/StringUTF16", name := "length", desc := "([B)I" } : Jvm.MethodName)) : Cond) ∈ q_TT := q_tt 756 (by decide +kernel) (by decide +kernel)
theorem t_757 : ((Jvm.Cond.code ({ cls := "java/lang/StringUTF16", name := "length", desc := "([B)I" } : Jvm.MethodName) prog_18_method_6_code (1 : Nat) (Option.some Jvm.ClassFile.FieldType.int)) : Cond) ∈ q_TT := q_tc4 37 rfl rfl
theorem t_758 : ((Jvm.Cond.methodLink "java/lang/StringUTF16" (414 : Nat) ({ cls := "java/lang/String", name := "checkIndex", desc := "(II)V" } : Jvm.MethodName)) : Cond) ∈ q_TT := q_tt 758 (by decide +kernel) (by decide +kernel)
theorem t_759 : ((Jvm.Cond.methodLink "java/lang/StringUTF16" (71 : Nat) ({ cls := "java/lang/StringUTF16", name := "getChar", desc := "([BI)C" } : Jvm.MethodName)) : Cond) ∈ q_TT := q_tt 759 (by decide +kernel) (by decide +kernel)
theorem t_760 : ((Jvm.Cond.static ({ cls := "java/lang/StringUTF16", name := "getChar", desc := "([BI)C" } : Jvm.MethodName)) : Cond) ∈ q_TT := q_tt 760 (by decide +kernel) (by decide +kernel)
theorem t_761 : ((Jvm.Cond.code ({ cls := "java/lang/StringUTF16", name := "getChar", desc := "([BI)C" } : Jvm.MethodName) prog_18_method_5_code (2 : Nat) (Option.some Jvm.ClassFile.FieldType.char)) : Cond) ∈ q_TT := q_tc4 41 rfl rfl
theorem t_762 : ((Jvm.Cond.fieldLink "java/lang/StringUTF16" (44 : Nat) "java/lang/StringUTF16" "$assertionsDisabled" "Z") : Cond) ∈ q_TT := q_tt 762 (by decide +kernel) (by decide +kernel)
theorem t_764 : ((Jvm.Cond.fieldLink "java/lang/StringUTF16" (59 : Nat) "java/lang/StringUTF16" "HI_BYTE_SHIFT" "I") : Cond) ∈ q_TT := q_tt 764 (by decide +kernel) (by decide +kernel)
theorem t_766 : ((Jvm.Cond.fieldLink "java/lang/StringUTF16" (63 : Nat) "java/lang/StringUTF16" "LO_BYTE_SHIFT" "I") : Cond) ∈ q_TT := q_tt 766 (by decide +kernel) (by decide +kernel)
theorem t_768 : ((Jvm.Cond.methodLink "BallotFruit$Tape" (39 : Nat) ({ cls := "BallotFruit$Tape", name := "addToken", desc := "(III)V" } : Jvm.MethodName)) : Cond) ∈ q_TT := q_tt 768 (by decide +kernel) (by decide +kernel)
theorem t_770 : ((Jvm.Cond.instanceMethod ({ cls := "BallotFruit$Tape", name := "addToken", desc := "(III)V" } : Jvm.MethodName)) : Cond) ∈ q_TT := q_tt 770 (by decide +kernel) (by decide +kernel)
theorem t_771 : ((Jvm.Cond.code ({ cls := "BallotFruit$Tape", name := "addToken", desc := "(III)V" } : Jvm.MethodName) prog_10_method_4_code (4 : Nat) (Option.none : Option Jvm.ClassFile.FieldType)) : Cond) ∈ q_TT := q_tc4 51 rfl rfl
theorem t_772 : ((Jvm.Cond.methodLink "BallotFruit$Tape" (43 : Nat) ({ cls := "BallotFruit$Tape", name := "isDigit", desc := "(I)Z" } : Jvm.MethodName)) : Cond) ∈ q_TT := q_tt 772 (by decide +kernel) (by decide +kernel)
theorem t_773 : ((Jvm.Cond.static ({ cls := "BallotFruit$Tape", name := "isDigit", desc := "(I)Z" } : Jvm.MethodName)) : Cond) ∈ q_TT := q_tt 773 (by decide +kernel) (by decide +kernel)
theorem t_774 : ((Jvm.Cond.code ({ cls := "BallotFruit$Tape", name := "isDigit", desc := "(I)Z" } : Jvm.MethodName) prog_10_method_6_code (1 : Nat) (Option.some Jvm.ClassFile.FieldType.boolean)) : Cond) ∈ q_TT := q_tc4 54 rfl rfl
theorem t_775 : ((Jvm.Cond.methodLink "BallotFruit$Tape" (46 : Nat) ({ cls := "BallotFruit$Tape", name := "number", desc := "(II)I" } : Jvm.MethodName)) : Cond) ∈ q_TT := q_tt 775 (by decide +kernel) (by decide +kernel)
theorem t_777 : ((Jvm.Cond.instanceMethod ({ cls := "BallotFruit$Tape", name := "number", desc := "(II)I" } : Jvm.MethodName)) : Cond) ∈ q_TT := q_tt 777 (by decide +kernel) (by decide +kernel)
theorem t_778 : ((Jvm.Cond.code ({ cls := "BallotFruit$Tape", name := "number", desc := "(II)I" } : Jvm.MethodName) prog_10_method_8_code (5 : Nat) (Option.some Jvm.ClassFile.FieldType.int)) : Cond) ∈ q_TT := q_tc4 58 rfl rfl
theorem t_779 : ((Jvm.Cond.methodLink "BallotFruit$Tape" (50 : Nat) ({ cls := "BallotFruit$Tape", name := "isSign", desc := "(I)Z" } : Jvm.MethodName)) : Cond) ∈ q_TT := q_tt 779 (by decide +kernel) (by decide +kernel)
theorem t_780 : ((Jvm.Cond.static ({ cls := "BallotFruit$Tape", name := "isSign", desc := "(I)Z" } : Jvm.MethodName)) : Cond) ∈ q_TT := q_tt 780 (by decide +kernel) (by decide +kernel)
theorem t_781 : ((Jvm.Cond.code ({ cls := "BallotFruit$Tape", name := "isSign", desc := "(I)Z" } : Jvm.MethodName) prog_10_method_7_code (1 : Nat) (Option.some Jvm.ClassFile.FieldType.boolean)) : Cond) ∈ q_TT := q_tc4 61 rfl rfl
theorem t_782 : ((Jvm.Cond.methodLink "BallotFruit$Reader" (61 : Nat) ({ cls := "BallotFruit$Law", name := "clear", desc := "()V" } : Jvm.MethodName)) : Cond) ∈ q_TT := q_tt 782 (by decide +kernel) (by decide +kernel)
theorem t_783 : ((Jvm.Cond.instanceMethod ({ cls := "BallotFruit$Law", name := "clear", desc := "()V" } : Jvm.MethodName)) : Cond) ∈ q_TT := q_tt 783 (by decide +kernel) (by decide +kernel)
theorem t_784 : ((Jvm.Cond.selects "BallotFruit$Law" ({ cls := "BallotFruit$Law", name := "clear", desc := "()V" } : Jvm.MethodName) ({ cls := "BallotFruit$Law", name := "clear", desc := "()V" } : Jvm.MethodName)) : Cond) ∈ q_TT := q_tt 784 (by decide +kernel) (by decide +kernel)
theorem t_785 : ((Jvm.Cond.code ({ cls := "BallotFruit$Law", name := "clear", desc := "()V" } : Jvm.MethodName) prog_4_method_3_code (1 : Nat) (Option.none : Option Jvm.ClassFile.FieldType)) : Cond) ∈ q_TT := q_tc4 65 rfl rfl
theorem t_786 : ((Jvm.Cond.methodLink "BallotFruit$Reader" (64 : Nat) ({ cls := "BallotFruit$Reader", name := "kind", desc := "()I" } : Jvm.MethodName)) : Cond) ∈ q_TT := q_tt 786 (by decide +kernel) (by decide +kernel)
theorem t_788 : ((Jvm.Cond.instanceMethod ({ cls := "BallotFruit$Reader", name := "kind", desc := "()I" } : Jvm.MethodName)) : Cond) ∈ q_TT := q_tt 788 (by decide +kernel) (by decide +kernel)
theorem t_789 : ((Jvm.Cond.code ({ cls := "BallotFruit$Reader", name := "kind", desc := "()I" } : Jvm.MethodName) prog_8_method_13_code (1 : Nat) (Option.some Jvm.ClassFile.FieldType.int)) : Cond) ∈ q_TT := q_tc4 69 rfl rfl
theorem t_790 : ((Jvm.Cond.methodLink "BallotFruit$Reader" (68 : Nat) ({ cls := "BallotFruit$Reader", name := "lawLine", desc := "(I)Z" } : Jvm.MethodName)) : Cond) ∈ q_TT := q_tt 790 (by decide +kernel) (by decide +kernel)
theorem t_792 : ((Jvm.Cond.instanceMethod ({ cls := "BallotFruit$Reader", name := "lawLine", desc := "(I)Z" } : Jvm.MethodName)) : Cond) ∈ q_TT := q_tt 792 (by decide +kernel) (by decide +kernel)
theorem t_793 : ((Jvm.Cond.code ({ cls := "BallotFruit$Reader", name := "lawLine", desc := "(I)Z" } : Jvm.MethodName) prog_8_method_6_code (3 : Nat) (Option.some Jvm.ClassFile.FieldType.boolean)) : Cond) ∈ q_TT := q_tc4 73 rfl rfl
theorem t_795 : ((Jvm.Cond.methodLink "BallotFruit$Reader" (109 : Nat) ({ cls := "BallotFruit$Reader", name := "fail", desc := "(I)Z" } : Jvm.MethodName)) : Cond) ∈ q_TT := q_tt 795 (by decide +kernel) (by decide +kernel)
theorem t_797 : ((Jvm.Cond.instanceMethod ({ cls := "BallotFruit$Reader", name := "fail", desc := "(I)Z" } : Jvm.MethodName)) : Cond) ∈ q_TT := q_tt 797 (by decide +kernel) (by decide +kernel)
theorem t_798 : ((Jvm.Cond.code ({ cls := "BallotFruit$Reader", name := "fail", desc := "(I)Z" } : Jvm.MethodName) prog_8_method_14_code (2 : Nat) (Option.some Jvm.ClassFile.FieldType.boolean)) : Cond) ∈ q_TT := q_tc4 78 rfl rfl
theorem t_799 : ((Jvm.Cond.methodLink "BallotFruit$Reader" (115 : Nat) ({ cls := "BallotFruit$Reader", name := "sum", desc := "()Z" } : Jvm.MethodName)) : Cond) ∈ q_TT := q_tt 799 (by decide +kernel) (by decide +kernel)
theorem t_801 : ((Jvm.Cond.instanceMethod ({ cls := "BallotFruit$Reader", name := "sum", desc := "()Z" } : Jvm.MethodName)) : Cond) ∈ q_TT := q_tt 801 (by decide +kernel) (by decide +kernel)
theorem t_802 : ((Jvm.Cond.code ({ cls := "BallotFruit$Reader", name := "sum", desc := "()Z" } : Jvm.MethodName) prog_8_method_9_code (4 : Nat) (Option.some Jvm.ClassFile.FieldType.boolean)) : Cond) ∈ q_TT := q_tc4 82 rfl rfl
theorem t_803 : ((Jvm.Cond.methodLink "BallotFruit$Reader" (138 : Nat) ({ cls := "BallotFruit$Reader", name := "operand", desc := "()Z" } : Jvm.MethodName)) : Cond) ∈ q_TT := q_tt 803 (by decide +kernel) (by decide +kernel)
theorem t_805 : ((Jvm.Cond.instanceMethod ({ cls := "BallotFruit$Reader", name := "operand", desc := "()Z" } : Jvm.MethodName)) : Cond) ∈ q_TT := q_tt 805 (by decide +kernel) (by decide +kernel)
theorem t_806 : ((Jvm.Cond.code ({ cls := "BallotFruit$Reader", name := "operand", desc := "()Z" } : Jvm.MethodName) prog_8_method_10_code (3 : Nat) (Option.some Jvm.ClassFile.FieldType.boolean)) : Cond) ∈ q_TT := q_tc4 86 rfl rfl
theorem t_807 : ((Jvm.Cond.methodLink "BallotFruit$Reader" (134 : Nat) ({ cls := "BallotFruit$Law", name := "emit", desc := "(II)V" } : Jvm.MethodName)) : Cond) ∈ q_TT := q_tt 807 (by decide +kernel) (by decide +kernel)
theorem t_808 : ((Jvm.Cond.instanceMethod ({ cls := "BallotFruit$Law", name := "emit", desc := "(II)V" } : Jvm.MethodName)) : Cond) ∈ q_TT := q_tt 808 (by decide +kernel) (by decide +kernel)
theorem t_809 : ((Jvm.Cond.selects "BallotFruit$Law" ({ cls := "BallotFruit$Law", name := "emit", desc := "(II)V" } : Jvm.MethodName) ({ cls := "BallotFruit$Law", name := "emit", desc := "(II)V" } : Jvm.MethodName)) : Cond) ∈ q_TT := q_tt 809 (by decide +kernel) (by decide +kernel)
theorem t_810 : ((Jvm.Cond.code ({ cls := "BallotFruit$Law", name := "emit", desc := "(II)V" } : Jvm.MethodName) prog_4_method_4_code (3 : Nat) (Option.none : Option Jvm.ClassFile.FieldType)) : Cond) ∈ q_TT := q_tc4 90 rfl rfl
theorem t_811 : ((Jvm.Cond.methodLink "BallotFruit$Reader" (141 : Nat) ({ cls := "BallotFruit$Reader", name := "number", desc := "(II)I" } : Jvm.MethodName)) : Cond) ∈ q_TT := q_tt 811 (by decide +kernel) (by decide +kernel)
theorem t_813 : ((Jvm.Cond.instanceMethod ({ cls := "BallotFruit$Reader", name := "number", desc := "(II)I" } : Jvm.MethodName)) : Cond) ∈ q_TT := q_tt 813 (by decide +kernel) (by decide +kernel)
theorem t_814 : ((Jvm.Cond.code ({ cls := "BallotFruit$Reader", name := "number", desc := "(II)I" } : Jvm.MethodName) prog_8_method_17_code (4 : Nat) (Option.some Jvm.ClassFile.FieldType.int)) : Cond) ∈ q_TT := q_tc4 94 rfl rfl
theorem t_815 : ((Jvm.Cond.methodLink "BallotFruit$Reader" (122 : Nat) ({ cls := "BallotFruit$Reader", name := "condition", desc := "(I)Z" } : Jvm.MethodName)) : Cond) ∈ q_TT := q_tt 815 (by decide +kernel) (by decide +kernel)
theorem t_817 : ((Jvm.Cond.instanceMethod ({ cls := "BallotFruit$Reader", name := "condition", desc := "(I)Z" } : Jvm.MethodName)) : Cond) ∈ q_TT := q_tt 817 (by decide +kernel) (by decide +kernel)
theorem t_818 : ((Jvm.Cond.code ({ cls := "BallotFruit$Reader", name := "condition", desc := "(I)Z" } : Jvm.MethodName) prog_8_method_7_code (4 : Nat) (Option.some Jvm.ClassFile.FieldType.boolean)) : Cond) ∈ q_TT := q_tc4 98 rfl rfl
theorem t_819 : ((Jvm.Cond.methodLink "BallotFruit$Reader" (128 : Nat) ({ cls := "BallotFruit$Reader", name := "single", desc := "(I)Z" } : Jvm.MethodName)) : Cond) ∈ q_TT := q_tt 819 (by decide +kernel) (by decide +kernel)
theorem t_821 : ((Jvm.Cond.instanceMethod ({ cls := "BallotFruit$Reader", name := "single", desc := "(I)Z" } : Jvm.MethodName)) : Cond) ∈ q_TT := q_tt 821 (by decide +kernel) (by decide +kernel)
theorem t_822 : ((Jvm.Cond.code ({ cls := "BallotFruit$Reader", name := "single", desc := "(I)Z" } : Jvm.MethodName) prog_8_method_8_code (4 : Nat) (Option.some Jvm.ClassFile.FieldType.boolean)) : Cond) ∈ q_TT := q_tc4 102 rfl rfl
theorem t_823 : ((Jvm.Cond.methodLink "BallotFruit$Reader" (125 : Nat) ({ cls := "BallotFruit$Reader", name := "takes", desc := "(I)Z" } : Jvm.MethodName)) : Cond) ∈ q_TT := q_tt 823 (by decide +kernel) (by decide +kernel)
theorem t_825 : ((Jvm.Cond.instanceMethod ({ cls := "BallotFruit$Reader", name := "takes", desc := "(I)Z" } : Jvm.MethodName)) : Cond) ∈ q_TT := q_tt 825 (by decide +kernel) (by decide +kernel)
theorem t_826 : ((Jvm.Cond.code ({ cls := "BallotFruit$Reader", name := "takes", desc := "(I)Z" } : Jvm.MethodName) prog_8_method_15_code (2 : Nat) (Option.some Jvm.ClassFile.FieldType.boolean)) : Cond) ∈ q_TT := q_tc4 106 rfl rfl
theorem t_827 : ((Jvm.Cond.methodLink "BallotFruit$Reader" (82 : Nat) ({ cls := "BallotFruit$Law", name := "copyFrom", desc := "(LBallotFruit$Law;)V" } : Jvm.MethodName)) : Cond) ∈ q_TT := q_tt 827 (by decide +kernel) (by decide +kernel)
theorem t_828 : ((Jvm.Cond.instanceMethod ({ cls := "BallotFruit$Law", name := "copyFrom", desc := "(LBallotFruit$Law;)V" } : Jvm.MethodName)) : Cond) ∈ q_TT := q_tt 828 (by decide +kernel) (by decide +kernel)
theorem t_829 : ((Jvm.Cond.selects "BallotFruit$Law" ({ cls := "BallotFruit$Law", name := "copyFrom", desc := "(LBallotFruit$Law;)V" } : Jvm.MethodName) ({ cls := "BallotFruit$Law", name := "copyFrom", desc := "(LBallotFruit$Law;)V" } : Jvm.MethodName)) : Cond) ∈ q_TT := q_tt 829 (by decide +kernel) (by decide +kernel)
theorem t_830 : ((Jvm.Cond.code ({ cls := "BallotFruit$Law", name := "copyFrom", desc := "(LBallotFruit$Law;)V" } : Jvm.MethodName) prog_4_method_2_code (2 : Nat) (Option.none : Option Jvm.ClassFile.FieldType)) : Cond) ∈ q_TT := q_tc4 110 rfl rfl
theorem t_831 : ((Jvm.Cond.methodLink "BallotFruit$Law" (41 : Nat) ({ cls := "java/lang/System", name := "arraycopy", desc := "(Ljava/lang/Object;ILjava/lang/Object;II)V" } : Jvm.MethodName)) : Cond) ∈ q_TT := q_tt 831 (by decide +kernel) (by decide +kernel)
theorem t_832 : ((Jvm.Cond.methodLink "BallotFruit" (174 : Nat) ({ cls := "BallotFruit$Reader", name := "readPaths", desc := "(LBallotFruit$Paths;)I" } : Jvm.MethodName)) : Cond) ∈ q_TT := q_tt 832 (by decide +kernel) (by decide +kernel)
theorem t_833 : ((Jvm.Cond.instanceMethod ({ cls := "BallotFruit$Reader", name := "readPaths", desc := "(LBallotFruit$Paths;)I" } : Jvm.MethodName)) : Cond) ∈ q_TT := q_tt 833 (by decide +kernel) (by decide +kernel)
theorem t_834 : ((Jvm.Cond.selects "BallotFruit$Reader" ({ cls := "BallotFruit$Reader", name := "readPaths", desc := "(LBallotFruit$Paths;)I" } : Jvm.MethodName) ({ cls := "BallotFruit$Reader", name := "readPaths", desc := "(LBallotFruit$Paths;)I" } : Jvm.MethodName)) : Cond) ∈ q_TT := q_tt 834 (by decide +kernel) (by decide +kernel)
theorem t_835 : ((Jvm.Cond.code ({ cls := "BallotFruit$Reader", name := "readPaths", desc := "(LBallotFruit$Paths;)I" } : Jvm.MethodName) prog_8_method_4_code (3 : Nat) (Option.some Jvm.ClassFile.FieldType.int)) : Cond) ∈ q_TT := q_tc4 115 rfl rfl
theorem t_837 : ((Jvm.Cond.methodLink "BallotFruit$Reader" (88 : Nat) ({ cls := "BallotFruit$Paths", name := "clear", desc := "()V" } : Jvm.MethodName)) : Cond) ∈ q_TT := q_tt 837 (by decide +kernel) (by decide +kernel)
theorem t_838 : ((Jvm.Cond.instanceMethod ({ cls := "BallotFruit$Paths", name := "clear", desc := "()V" } : Jvm.MethodName)) : Cond) ∈ q_TT := q_tt 838 (by decide +kernel) (by decide +kernel)
theorem t_839 : ((Jvm.Cond.selects "BallotFruit$Paths" ({ cls := "BallotFruit$Paths", name := "clear", desc := "()V" } : Jvm.MethodName) ({ cls := "BallotFruit$Paths", name := "clear", desc := "()V" } : Jvm.MethodName)) : Cond) ∈ q_TT := q_tt 839 (by decide +kernel) (by decide +kernel)
theorem t_840 : ((Jvm.Cond.code ({ cls := "BallotFruit$Paths", name := "clear", desc := "()V" } : Jvm.MethodName) prog_6_method_3_code (2 : Nat) (Option.none : Option Jvm.ClassFile.FieldType)) : Cond) ∈ q_TT := q_tc4 120 rfl rfl
theorem t_841 : ((Jvm.Cond.methodLink "BallotFruit$Paths" (31 : Nat) ({ cls := "BallotFruit$Paths", name := "clearPath", desc := "(I)V" } : Jvm.MethodName)) : Cond) ∈ q_TT := q_tt 841 (by decide +kernel) (by decide +kernel)
theorem t_842 : ((Jvm.Cond.instanceMethod ({ cls := "BallotFruit$Paths", name := "clearPath", desc := "(I)V" } : Jvm.MethodName)) : Cond) ∈ q_TT := q_tt 842 (by decide +kernel) (by decide +kernel)
theorem t_843 : ((Jvm.Cond.selects "BallotFruit$Paths" ({ cls := "BallotFruit$Paths", name := "clearPath", desc := "(I)V" } : Jvm.MethodName) ({ cls := "BallotFruit$Paths", name := "clearPath", desc := "(I)V" } : Jvm.MethodName)) : Cond) ∈ q_TT := q_tt 843 (by decide +kernel) (by decide +kernel)
theorem t_844 : ((Jvm.Cond.code ({ cls := "BallotFruit$Paths", name := "clearPath", desc := "(I)V" } : Jvm.MethodName) prog_6_method_4_code (2 : Nat) (Option.none : Option Jvm.ClassFile.FieldType)) : Cond) ∈ q_TT := q_tc4 124 rfl rfl
theorem t_845 : ((Jvm.Cond.methodLink "BallotFruit$Reader" (89 : Nat) ({ cls := "BallotFruit$Reader", name := "pathLine", desc := "(I)Z" } : Jvm.MethodName)) : Cond) ∈ q_TT := q_tt 845 (by decide +kernel) (by decide +kernel)
theorem t_847 : ((Jvm.Cond.instanceMethod ({ cls := "BallotFruit$Reader", name := "pathLine", desc := "(I)Z" } : Jvm.MethodName)) : Cond) ∈ q_TT := q_tt 847 (by decide +kernel) (by decide +kernel)
theorem t_848 : ((Jvm.Cond.code ({ cls := "BallotFruit$Reader", name := "pathLine", desc := "(I)Z" } : Jvm.MethodName) prog_8_method_11_code (5 : Nat) (Option.some Jvm.ClassFile.FieldType.boolean)) : Cond) ∈ q_TT := q_tc4 128 rfl rfl
theorem t_849 : ((Jvm.Cond.methodLink "BallotFruit$Reader" (152 : Nat) ({ cls := "BallotFruit$Reader", name := "begins", desc := "(II)Z" } : Jvm.MethodName)) : Cond) ∈ q_TT := q_tt 849 (by decide +kernel) (by decide +kernel)
theorem t_851 : ((Jvm.Cond.instanceMethod ({ cls := "BallotFruit$Reader", name := "begins", desc := "(II)Z" } : Jvm.MethodName)) : Cond) ∈ q_TT := q_tt 851 (by decide +kernel) (by decide +kernel)
theorem t_852 : ((Jvm.Cond.code ({ cls := "BallotFruit$Reader", name := "begins", desc := "(II)Z" } : Jvm.MethodName) prog_8_method_16_code (3 : Nat) (Option.some Jvm.ClassFile.FieldType.boolean)) : Cond) ∈ q_TT := q_tc4 132 rfl rfl
theorem t_853 : ((Jvm.Cond.methodLink "BallotFruit$Reader" (156 : Nat) ({ cls := "BallotFruit$Paths", name := "clearPath", desc := "(I)V" } : Jvm.MethodName)) : Cond) ∈ q_TT := q_tt 853 (by decide +kernel) (by decide +kernel)
theorem t_854 : ((Jvm.Cond.methodLink "BallotFruit$Reader" (160 : Nat) ({ cls := "BallotFruit$Paths", name := "addStep", desc := "(II)V" } : Jvm.MethodName)) : Cond) ∈ q_TT := q_tt 854 (by decide +kernel) (by decide +kernel)
theorem t_855 : ((Jvm.Cond.instanceMethod ({ cls := "BallotFruit$Paths", name := "addStep", desc := "(II)V" } : Jvm.MethodName)) : Cond) ∈ q_TT := q_tt 855 (by decide +kernel) (by decide +kernel)
theorem t_856 : ((Jvm.Cond.selects "BallotFruit$Paths" ({ cls := "BallotFruit$Paths", name := "addStep", desc := "(II)V" } : Jvm.MethodName) ({ cls := "BallotFruit$Paths", name := "addStep", desc := "(II)V" } : Jvm.MethodName)) : Cond) ∈ q_TT := q_tt 856 (by decide +kernel) (by decide +kernel)
theorem t_857 : ((Jvm.Cond.code ({ cls := "BallotFruit$Paths", name := "addStep", desc := "(II)V" } : Jvm.MethodName) prog_6_method_5_code (3 : Nat) (Option.none : Option Jvm.ClassFile.FieldType)) : Cond) ∈ q_TT := q_tc4 137 rfl rfl
theorem t_858 : ((Jvm.Cond.methodLink "BallotFruit$Reader" (92 : Nat) ({ cls := "BallotFruit$Paths", name := "copyFrom", desc := "(LBallotFruit$Paths;)V" } : Jvm.MethodName)) : Cond) ∈ q_TT := q_tt 858 (by decide +kernel) (by decide +kernel)
theorem t_859 : ((Jvm.Cond.instanceMethod ({ cls := "BallotFruit$Paths", name := "copyFrom", desc := "(LBallotFruit$Paths;)V" } : Jvm.MethodName)) : Cond) ∈ q_TT := q_tt 859 (by decide +kernel) (by decide +kernel)
theorem t_860 : ((Jvm.Cond.selects "BallotFruit$Paths" ({ cls := "BallotFruit$Paths", name := "copyFrom", desc := "(LBallotFruit$Paths;)V" } : Jvm.MethodName) ({ cls := "BallotFruit$Paths", name := "copyFrom", desc := "(LBallotFruit$Paths;)V" } : Jvm.MethodName)) : Cond) ∈ q_TT := q_tt 860 (by decide +kernel) (by decide +kernel)
theorem t_861 : ((Jvm.Cond.code ({ cls := "BallotFruit$Paths", name := "copyFrom", desc := "(LBallotFruit$Paths;)V" } : Jvm.MethodName) prog_6_method_2_code (2 : Nat) (Option.none : Option Jvm.ClassFile.FieldType)) : Cond) ∈ q_TT := q_tc4 141 rfl rfl
theorem t_862 : ((Jvm.Cond.methodLink "BallotFruit$Paths" (25 : Nat) ({ cls := "java/lang/System", name := "arraycopy", desc := "(Ljava/lang/Object;ILjava/lang/Object;II)V" } : Jvm.MethodName)) : Cond) ∈ q_TT := q_tt 862 (by decide +kernel) (by decide +kernel)
theorem t_863 : ((Jvm.Cond.methodLink "BallotFruit" (182 : Nat) ({ cls := "BallotFruit$Reader", name := "readPlan", desc := "(LBallotFruit$Plan;)I" } : Jvm.MethodName)) : Cond) ∈ q_TT := q_tt 863 (by decide +kernel) (by decide +kernel)
theorem t_864 : ((Jvm.Cond.instanceMethod ({ cls := "BallotFruit$Reader", name := "readPlan", desc := "(LBallotFruit$Plan;)I" } : Jvm.MethodName)) : Cond) ∈ q_TT := q_tt 864 (by decide +kernel) (by decide +kernel)
theorem t_865 : ((Jvm.Cond.selects "BallotFruit$Reader" ({ cls := "BallotFruit$Reader", name := "readPlan", desc := "(LBallotFruit$Plan;)I" } : Jvm.MethodName) ({ cls := "BallotFruit$Reader", name := "readPlan", desc := "(LBallotFruit$Plan;)I" } : Jvm.MethodName)) : Cond) ∈ q_TT := q_tt 865 (by decide +kernel) (by decide +kernel)
theorem t_866 : ((Jvm.Cond.code ({ cls := "BallotFruit$Reader", name := "readPlan", desc := "(LBallotFruit$Plan;)I" } : Jvm.MethodName) prog_8_method_5_code (3 : Nat) (Option.some Jvm.ClassFile.FieldType.int)) : Cond) ∈ q_TT := q_tc4 146 rfl rfl
theorem t_868 : ((Jvm.Cond.methodLink "BallotFruit$Reader" (99 : Nat) ({ cls := "BallotFruit$Reader", name := "planLine", desc := "(I)Z" } : Jvm.MethodName)) : Cond) ∈ q_TT := q_tt 868 (by decide +kernel) (by decide +kernel)
theorem t_870 : ((Jvm.Cond.instanceMethod ({ cls := "BallotFruit$Reader", name := "planLine", desc := "(I)Z" } : Jvm.MethodName)) : Cond) ∈ q_TT := q_tt 870 (by decide +kernel) (by decide +kernel)
theorem t_871 : ((Jvm.Cond.code ({ cls := "BallotFruit$Reader", name := "planLine", desc := "(I)Z" } : Jvm.MethodName) prog_8_method_12_code (5 : Nat) (Option.some Jvm.ClassFile.FieldType.boolean)) : Cond) ∈ q_TT := q_tc4 151 rfl rfl
theorem t_872 : ((Jvm.Cond.methodLink "BallotFruit$Reader" (102 : Nat) ({ cls := "BallotFruit$Plan", name := "copyFrom", desc := "(LBallotFruit$Plan;)V" } : Jvm.MethodName)) : Cond) ∈ q_TT := q_tt 872 (by decide +kernel) (by decide +kernel)
theorem t_873 : ((Jvm.Cond.instanceMethod ({ cls := "BallotFruit$Plan", name := "copyFrom", desc := "(LBallotFruit$Plan;)V" } : Jvm.MethodName)) : Cond) ∈ q_TT := q_tt 873 (by decide +kernel) (by decide +kernel)
theorem t_874 : ((Jvm.Cond.selects "BallotFruit$Plan" ({ cls := "BallotFruit$Plan", name := "copyFrom", desc := "(LBallotFruit$Plan;)V" } : Jvm.MethodName) ({ cls := "BallotFruit$Plan", name := "copyFrom", desc := "(LBallotFruit$Plan;)V" } : Jvm.MethodName)) : Cond) ∈ q_TT := q_tt 874 (by decide +kernel) (by decide +kernel)
theorem t_875 : ((Jvm.Cond.code ({ cls := "BallotFruit$Plan", name := "copyFrom", desc := "(LBallotFruit$Plan;)V" } : Jvm.MethodName) prog_7_method_2_code (2 : Nat) (Option.none : Option Jvm.ClassFile.FieldType)) : Cond) ∈ q_TT := q_tc4 155 rfl rfl
theorem t_876 : ((Jvm.Cond.methodLink "BallotFruit$Plan" (28 : Nat) ({ cls := "java/lang/System", name := "arraycopy", desc := "(Ljava/lang/Object;ILjava/lang/Object;II)V" } : Jvm.MethodName)) : Cond) ∈ q_TT := q_tt 876 (by decide +kernel) (by decide +kernel)
theorem t_877 : ((Jvm.Cond.arrayClass Jvm.ClassFile.FieldType.byte) : Cond) ∈ q_TT := q_tt 877 (by decide +kernel) (by decide +kernel)
theorem t_878 : ((Jvm.Cond.methodLink "BallotFruitLaw" (68 : Nat) ({ cls := "BallotFruit", name := "fault", desc := "(I)I" } : Jvm.MethodName)) : Cond) ∈ q_TT := q_tt 878 (by decide +kernel) (by decide +kernel)
theorem t_879 : ((Jvm.Cond.instanceMethod ({ cls := "BallotFruit", name := "fault", desc := "(I)I" } : Jvm.MethodName)) : Cond) ∈ q_TT := q_tt 879 (by decide +kernel) (by decide +kernel)
theorem t_880 : ((Jvm.Cond.selects "BallotFruit" ({ cls := "BallotFruit", name := "fault", desc := "(I)I" } : Jvm.MethodName) ({ cls := "BallotFruit", name := "fault", desc := "(I)I" } : Jvm.MethodName)) : Cond) ∈ q_TT := q_tt 880 (by decide +kernel) (by decide +kernel)
theorem t_881 : ((Jvm.Cond.code ({ cls := "BallotFruit", name := "fault", desc := "(I)I" } : Jvm.MethodName) prog_1_method_14_code (2 : Nat) (Option.some Jvm.ClassFile.FieldType.int)) : Cond) ∈ q_TT := q_tc4 161 rfl rfl
theorem t_882 : ((Jvm.Cond.methodLink "BallotFruitLaw" (72 : Nat) ({ cls := "BallotFruit", name := "of", desc := "(II)I" } : Jvm.MethodName)) : Cond) ∈ q_TT := q_tt 882 (by decide +kernel) (by decide +kernel)
theorem t_883 : ((Jvm.Cond.instanceMethod ({ cls := "BallotFruit", name := "of", desc := "(II)I" } : Jvm.MethodName)) : Cond) ∈ q_TT := q_tt 883 (by decide +kernel) (by decide +kernel)
theorem t_884 : ((Jvm.Cond.selects "BallotFruit" ({ cls := "BallotFruit", name := "of", desc := "(II)I" } : Jvm.MethodName) ({ cls := "BallotFruit", name := "of", desc := "(II)I" } : Jvm.MethodName)) : Cond) ∈ q_TT := q_tt 884 (by decide +kernel) (by decide +kernel)
theorem t_885 : ((Jvm.Cond.code ({ cls := "BallotFruit", name := "of", desc := "(II)I" } : Jvm.MethodName) prog_1_method_15_code (3 : Nat) (Option.some Jvm.ClassFile.FieldType.int)) : Cond) ∈ q_TT := q_tc4 165 rfl rfl
theorem t_886 : ((Jvm.Cond.methodLink "BallotFruit" (201 : Nat) ({ cls := "BallotFruit$Commune", name := "hangingOf", desc := "(I)I" } : Jvm.MethodName)) : Cond) ∈ q_TT := q_tt 886 (by decide +kernel) (by decide +kernel)
theorem t_887 : ((Jvm.Cond.instanceMethod ({ cls := "BallotFruit$Commune", name := "hangingOf", desc := "(I)I" } : Jvm.MethodName)) : Cond) ∈ q_TT := q_tt 887 (by decide +kernel) (by decide +kernel)
theorem t_888 : ((Jvm.Cond.selects "BallotFruit$Commune" ({ cls := "BallotFruit$Commune", name := "hangingOf", desc := "(I)I" } : Jvm.MethodName) ({ cls := "BallotFruit$Commune", name := "hangingOf", desc := "(I)I" } : Jvm.MethodName)) : Cond) ∈ q_TT := q_tt 888 (by decide +kernel) (by decide +kernel)
theorem t_889 : ((Jvm.Cond.code ({ cls := "BallotFruit$Commune", name := "hangingOf", desc := "(I)I" } : Jvm.MethodName) prog_2_method_16_code (4 : Nat) (Option.some Jvm.ClassFile.FieldType.int)) : Cond) ∈ q_TT := q_tc4 169 rfl rfl
theorem t_890 : ((Jvm.Cond.methodLink "BallotFruitLaw" (76 : Nat) ({ cls := "BallotFruit", name := "tree", desc := "(II)I" } : Jvm.MethodName)) : Cond) ∈ q_TT := q_tt 890 (by decide +kernel) (by decide +kernel)
theorem t_891 : ((Jvm.Cond.instanceMethod ({ cls := "BallotFruit", name := "tree", desc := "(II)I" } : Jvm.MethodName)) : Cond) ∈ q_TT := q_tt 891 (by decide +kernel) (by decide +kernel)
theorem t_892 : ((Jvm.Cond.selects "BallotFruit" ({ cls := "BallotFruit", name := "tree", desc := "(II)I" } : Jvm.MethodName) ({ cls := "BallotFruit", name := "tree", desc := "(II)I" } : Jvm.MethodName)) : Cond) ∈ q_TT := q_tt 892 (by decide +kernel) (by decide +kernel)
theorem t_893 : ((Jvm.Cond.code ({ cls := "BallotFruit", name := "tree", desc := "(II)I" } : Jvm.MethodName) prog_1_method_16_code (3 : Nat) (Option.some Jvm.ClassFile.FieldType.int)) : Cond) ∈ q_TT := q_tc4 173 rfl rfl
theorem t_894 : ((Jvm.Cond.methodLink "BallotFruit" (204 : Nat) ({ cls := "BallotFruit$Commune", name := "isTree", desc := "(I)Z" } : Jvm.MethodName)) : Cond) ∈ q_TT := q_tt 894 (by decide +kernel) (by decide +kernel)
theorem t_895 : ((Jvm.Cond.methodLink "BallotFruit" (219 : Nat) ({ cls := "BallotFruit$Law", name := "bears", desc := "(LBallotFruit$Commune;I)I" } : Jvm.MethodName)) : Cond) ∈ q_TT := q_tt 895 (by decide +kernel) (by decide +kernel)
theorem t_896 : ((Jvm.Cond.methodLink "BallotFruitLaw" (80 : Nat) ({ cls := "BallotFruit", name := "who", desc := "(II)I" } : Jvm.MethodName)) : Cond) ∈ q_TT := q_tt 896 (by decide +kernel) (by decide +kernel)
theorem t_897 : ((Jvm.Cond.instanceMethod ({ cls := "BallotFruit", name := "who", desc := "(II)I" } : Jvm.MethodName)) : Cond) ∈ q_TT := q_tt 897 (by decide +kernel) (by decide +kernel)
theorem t_898 : ((Jvm.Cond.selects "BallotFruit" ({ cls := "BallotFruit", name := "who", desc := "(II)I" } : Jvm.MethodName) ({ cls := "BallotFruit", name := "who", desc := "(II)I" } : Jvm.MethodName)) : Cond) ∈ q_TT := q_tt 898 (by decide +kernel) (by decide +kernel)
theorem t_899 : ((Jvm.Cond.code ({ cls := "BallotFruit", name := "who", desc := "(II)I" } : Jvm.MethodName) prog_1_method_17_code (3 : Nat) (Option.some Jvm.ClassFile.FieldType.int)) : Cond) ∈ q_TT := q_tc4 179 rfl rfl
theorem t_900 : ((Jvm.Cond.methodLink "BallotFruit" (228 : Nat) ({ cls := "BallotFruit$Law", name := "wants", desc := "(LBallotFruit$Commune;I)I" } : Jvm.MethodName)) : Cond) ∈ q_TT := q_tt 900 (by decide +kernel) (by decide +kernel)
theorem t_901 : ((Jvm.Cond.methodLink "BallotFruit" (236 : Nat) ({ cls := "BallotFruit$Paths", name := "step", desc := "(II)I" } : Jvm.MethodName)) : Cond) ∈ q_TT := q_tt 901 (by decide +kernel) (by decide +kernel)
theorem t_902 : ((Jvm.Cond.methodLink "BallotFruit" (239 : Nat) ({ cls := "BallotFruit$Commune", name := "tasteFor", desc := "(II)I" } : Jvm.MethodName)) : Cond) ∈ q_TT := q_tt 902 (by decide +kernel) (by decide +kernel)
theorem t_903 : ((Jvm.Cond.methodLink "BallotFruitLaw" (84 : Nat) ({ cls := "BallotFruit", name := "at", desc := "(I)I" } : Jvm.MethodName)) : Cond) ∈ q_TT := q_tt 903 (by decide +kernel) (by decide +kernel)
theorem t_904 : ((Jvm.Cond.instanceMethod ({ cls := "BallotFruit", name := "at", desc := "(I)I" } : Jvm.MethodName)) : Cond) ∈ q_TT := q_tt 904 (by decide +kernel) (by decide +kernel)
theorem t_905 : ((Jvm.Cond.selects "BallotFruit" ({ cls := "BallotFruit", name := "at", desc := "(I)I" } : Jvm.MethodName) ({ cls := "BallotFruit", name := "at", desc := "(I)I" } : Jvm.MethodName)) : Cond) ∈ q_TT := q_tt 905 (by decide +kernel) (by decide +kernel)
theorem t_906 : ((Jvm.Cond.code ({ cls := "BallotFruit", name := "at", desc := "(I)I" } : Jvm.MethodName) prog_1_method_18_code (2 : Nat) (Option.some Jvm.ClassFile.FieldType.int)) : Cond) ∈ q_TT := q_tc4 186 rfl rfl
theorem t_907 : ((Jvm.Cond.methodLink "BallotFruitLaw" (88 : Nat) ({ cls := "BallotFruit", name := "book", desc := "(II)I" } : Jvm.MethodName)) : Cond) ∈ q_TT := q_tt 907 (by decide +kernel) (by decide +kernel)
theorem t_908 : ((Jvm.Cond.instanceMethod ({ cls := "BallotFruit", name := "book", desc := "(II)I" } : Jvm.MethodName)) : Cond) ∈ q_TT := q_tt 908 (by decide +kernel) (by decide +kernel)
theorem t_909 : ((Jvm.Cond.selects "BallotFruit" ({ cls := "BallotFruit", name := "book", desc := "(II)I" } : Jvm.MethodName) ({ cls := "BallotFruit", name := "book", desc := "(II)I" } : Jvm.MethodName)) : Cond) ∈ q_TT := q_tt 909 (by decide +kernel) (by decide +kernel)
theorem t_910 : ((Jvm.Cond.code ({ cls := "BallotFruit", name := "book", desc := "(II)I" } : Jvm.MethodName) prog_1_method_19_code (3 : Nat) (Option.some Jvm.ClassFile.FieldType.int)) : Cond) ∈ q_TT := q_tc4 190 rfl rfl
theorem t_911 : ((Jvm.Cond.methodLink "BallotFruitLaw" (92 : Nat) ({ cls := "BallotFruit", name := "goes", desc := "(III)I" } : Jvm.MethodName)) : Cond) ∈ q_TT := q_tt 911 (by decide +kernel) (by decide +kernel)
theorem t_912 : ((Jvm.Cond.instanceMethod ({ cls := "BallotFruit", name := "goes", desc := "(III)I" } : Jvm.MethodName)) : Cond) ∈ q_TT := q_tt 912 (by decide +kernel) (by decide +kernel)
theorem t_913 : ((Jvm.Cond.selects "BallotFruit" ({ cls := "BallotFruit", name := "goes", desc := "(III)I" } : Jvm.MethodName) ({ cls := "BallotFruit", name := "goes", desc := "(III)I" } : Jvm.MethodName)) : Cond) ∈ q_TT := q_tt 913 (by decide +kernel) (by decide +kernel)
theorem t_914 : ((Jvm.Cond.code ({ cls := "BallotFruit", name := "goes", desc := "(III)I" } : Jvm.MethodName) prog_1_method_20_code (5 : Nat) (Option.some Jvm.ClassFile.FieldType.int)) : Cond) ∈ q_TT := q_tc4 194 rfl rfl
theorem t_915 : ((Jvm.Cond.methodLink "BallotFruitLaw" (96 : Nat) ({ cls := "BallotFruit", name := "falls", desc := "(I)I" } : Jvm.MethodName)) : Cond) ∈ q_TT := q_tt 915 (by decide +kernel) (by decide +kernel)
theorem t_916 : ((Jvm.Cond.instanceMethod ({ cls := "BallotFruit", name := "falls", desc := "(I)I" } : Jvm.MethodName)) : Cond) ∈ q_TT := q_tt 916 (by decide +kernel) (by decide +kernel)
theorem t_917 : ((Jvm.Cond.selects "BallotFruit" ({ cls := "BallotFruit", name := "falls", desc := "(I)I" } : Jvm.MethodName) ({ cls := "BallotFruit", name := "falls", desc := "(I)I" } : Jvm.MethodName)) : Cond) ∈ q_TT := q_tt 917 (by decide +kernel) (by decide +kernel)
theorem t_918 : ((Jvm.Cond.code ({ cls := "BallotFruit", name := "falls", desc := "(I)I" } : Jvm.MethodName) prog_1_method_21_code (2 : Nat) (Option.some Jvm.ClassFile.FieldType.int)) : Cond) ∈ q_TT := q_tc4 198 rfl rfl
theorem t_919 : ((Jvm.Cond.methodLink "BallotFruit" (258 : Nat) ({ cls := "BallotFruit$Commune", name := "seatAnew", desc := "()V" } : Jvm.MethodName)) : Cond) ∈ q_TT := q_tt 919 (by decide +kernel) (by decide +kernel)
theorem t_920 : ((Jvm.Cond.methodLink "BallotFruitLaw" (100 : Nat) ({ cls := "BallotFruit", name := "brings", desc := "(III)I" } : Jvm.MethodName)) : Cond) ∈ q_TT := q_tt 920 (by decide +kernel) (by decide +kernel)
theorem t_921 : ((Jvm.Cond.instanceMethod ({ cls := "BallotFruit", name := "brings", desc := "(III)I" } : Jvm.MethodName)) : Cond) ∈ q_TT := q_tt 921 (by decide +kernel) (by decide +kernel)
theorem t_922 : ((Jvm.Cond.selects "BallotFruit" ({ cls := "BallotFruit", name := "brings", desc := "(III)I" } : Jvm.MethodName) ({ cls := "BallotFruit", name := "brings", desc := "(III)I" } : Jvm.MethodName)) : Cond) ∈ q_TT := q_tt 922 (by decide +kernel) (by decide +kernel)
theorem t_923 : ((Jvm.Cond.code ({ cls := "BallotFruit", name := "brings", desc := "(III)I" } : Jvm.MethodName) prog_1_method_22_code (8 : Nat) (Option.some Jvm.ClassFile.FieldType.int)) : Cond) ∈ q_TT := q_tc4 203 rfl rfl
theorem t_924 : ((Jvm.Cond.methodLink "BallotFruitLaw" (104 : Nat) ({ cls := "BallotFruit", name := "swings", desc := "(II)I" } : Jvm.MethodName)) : Cond) ∈ q_TT := q_tt 924 (by decide +kernel) (by decide +kernel)
theorem t_925 : ((Jvm.Cond.instanceMethod ({ cls := "BallotFruit", name := "swings", desc := "(II)I" } : Jvm.MethodName)) : Cond) ∈ q_TT := q_tt 925 (by decide +kernel) (by decide +kernel)
theorem t_926 : ((Jvm.Cond.selects "BallotFruit" ({ cls := "BallotFruit", name := "swings", desc := "(II)I" } : Jvm.MethodName) ({ cls := "BallotFruit", name := "swings", desc := "(II)I" } : Jvm.MethodName)) : Cond) ∈ q_TT := q_tt 926 (by decide +kernel) (by decide +kernel)
theorem t_927 : ((Jvm.Cond.code ({ cls := "BallotFruit", name := "swings", desc := "(II)I" } : Jvm.MethodName) prog_1_method_23_code (6 : Nat) (Option.some Jvm.ClassFile.FieldType.int)) : Cond) ∈ q_TT := q_tc4 207 rfl rfl
theorem t_928 : ((Jvm.Cond.methodLink "BallotFruit" (264 : Nat) ({ cls := "BallotFruit", name := "weeksToLastSeating", desc := "(I)I" } : Jvm.MethodName)) : Cond) ∈ q_TT := q_tt 928 (by decide +kernel) (by decide +kernel)
theorem t_930 : ((Jvm.Cond.instanceMethod ({ cls := "BallotFruit", name := "weeksToLastSeating", desc := "(I)I" } : Jvm.MethodName)) : Cond) ∈ q_TT := q_tt 930 (by decide +kernel) (by decide +kernel)
theorem t_931 : ((Jvm.Cond.code ({ cls := "BallotFruit", name := "weeksToLastSeating", desc := "(I)I" } : Jvm.MethodName) prog_1_method_40_code (3 : Nat) (Option.some Jvm.ClassFile.FieldType.int)) : Cond) ∈ q_TT := q_tc4 211 rfl rfl
theorem t_932 : ((Jvm.Cond.methodLink "BallotFruit" (267 : Nat) ({ cls := "BallotFruit", name := "firstPartyBehind", desc := "(III)I" } : Jvm.MethodName)) : Cond) ∈ q_TT := q_tt 932 (by decide +kernel) (by decide +kernel)
theorem t_934 : ((Jvm.Cond.instanceMethod ({ cls := "BallotFruit", name := "firstPartyBehind", desc := "(III)I" } : Jvm.MethodName)) : Cond) ∈ q_TT := q_tt 934 (by decide +kernel) (by decide +kernel)
theorem t_935 : ((Jvm.Cond.code ({ cls := "BallotFruit", name := "firstPartyBehind", desc := "(III)I" } : Jvm.MethodName) prog_1_method_41_code (4 : Nat) (Option.some Jvm.ClassFile.FieldType.int)) : Cond) ∈ q_TT := q_tc4 215 rfl rfl
theorem t_936 : ((Jvm.Cond.methodLink "BallotFruit" (347 : Nat) ({ cls := "BallotFruit$Commune", name := "partyWithMostSeats", desc := "()I" } : Jvm.MethodName)) : Cond) ∈ q_TT := q_tt 936 (by decide +kernel) (by decide +kernel)
theorem t_937 : ((Jvm.Cond.methodLink "BallotFruitLaw" (108 : Nat) ({ cls := "BallotFruit", name := "feeds", desc := "(I)I" } : Jvm.MethodName)) : Cond) ∈ q_TT := q_tt 937 (by decide +kernel) (by decide +kernel)
theorem t_938 : ((Jvm.Cond.instanceMethod ({ cls := "BallotFruit", name := "feeds", desc := "(I)I" } : Jvm.MethodName)) : Cond) ∈ q_TT := q_tt 938 (by decide +kernel) (by decide +kernel)
theorem t_939 : ((Jvm.Cond.selects "BallotFruit" ({ cls := "BallotFruit", name := "feeds", desc := "(I)I" } : Jvm.MethodName) ({ cls := "BallotFruit", name := "feeds", desc := "(I)I" } : Jvm.MethodName)) : Cond) ∈ q_TT := q_tt 939 (by decide +kernel) (by decide +kernel)
theorem t_940 : ((Jvm.Cond.code ({ cls := "BallotFruit", name := "feeds", desc := "(I)I" } : Jvm.MethodName) prog_1_method_24_code (4 : Nat) (Option.some Jvm.ClassFile.FieldType.int)) : Cond) ∈ q_TT := q_tc4 220 rfl rfl
theorem t_941 : ((Jvm.Cond.methodLink "BallotFruit" (270 : Nat) ({ cls := "java/lang/Integer", name := "bitCount", desc := "(I)I" } : Jvm.MethodName)) : Cond) ∈ q_TT := q_tt 941 (by decide +kernel) (by decide +kernel)
theorem t_942 : ((Jvm.Cond.static ({ cls := "java/lang/Integer", name := "bitCount", desc := "(I)I" } : Jvm.MethodName)) : Cond) ∈ q_TT := q_tt 942 (by decide +kernel) (by decide +kernel)
theorem t_943 : ((Jvm.Cond.code ({ cls := "java/lang/Integer", name := "bitCount", desc := "(I)I" } : Jvm.MethodName) prog_14_method_49_code (1 : Nat) (Option.some Jvm.ClassFile.FieldType.int)) : Cond) ∈ q_TT := q_tc4 223 rfl rfl
theorem t_944 : ((Jvm.Cond.constant "java/lang/Integer" (265 : Nat) (1431655765 : Int32)) : Cond) ∈ q_TT := q_tt 944 (by decide +kernel) (by decide +kernel)
theorem t_945 : ((Jvm.Cond.constant "java/lang/Integer" (266 : Nat) (858993459 : Int32)) : Cond) ∈ q_TT := q_tt 945 (by decide +kernel) (by decide +kernel)
theorem t_946 : ((Jvm.Cond.constant "java/lang/Integer" (267 : Nat) (252645135 : Int32)) : Cond) ∈ q_TT := q_tt 946 (by decide +kernel) (by decide +kernel)
theorem t_947 : ((Jvm.Cond.methodLink "BallotFruit" (275 : Nat) ({ cls := "BallotFruit", name := "isEachFedAt", desc := "(I)Z" } : Jvm.MethodName)) : Cond) ∈ q_TT := q_tt 947 (by decide +kernel) (by decide +kernel)
theorem t_949 : ((Jvm.Cond.instanceMethod ({ cls := "BallotFruit", name := "isEachFedAt", desc := "(I)Z" } : Jvm.MethodName)) : Cond) ∈ q_TT := q_tt 949 (by decide +kernel) (by decide +kernel)
theorem t_950 : ((Jvm.Cond.code ({ cls := "BallotFruit", name := "isEachFedAt", desc := "(I)Z" } : Jvm.MethodName) prog_1_method_42_code (4 : Nat) (Option.some Jvm.ClassFile.FieldType.boolean)) : Cond) ∈ q_TT := q_tc4 230 rfl rfl
theorem t_951 : ((Jvm.Cond.methodLink "BallotFruitLaw" (112 : Nat) ({ cls := "BallotFruit", name := "core", desc := "(II)I" } : Jvm.MethodName)) : Cond) ∈ q_TT := q_tt 951 (by decide +kernel) (by decide +kernel)
theorem t_952 : ((Jvm.Cond.instanceMethod ({ cls := "BallotFruit", name := "core", desc := "(II)I" } : Jvm.MethodName)) : Cond) ∈ q_TT := q_tt 952 (by decide +kernel) (by decide +kernel)
theorem t_953 : ((Jvm.Cond.selects "BallotFruit" ({ cls := "BallotFruit", name := "core", desc := "(II)I" } : Jvm.MethodName) ({ cls := "BallotFruit", name := "core", desc := "(II)I" } : Jvm.MethodName)) : Cond) ∈ q_TT := q_tt 953 (by decide +kernel) (by decide +kernel)
theorem t_954 : ((Jvm.Cond.code ({ cls := "BallotFruit", name := "core", desc := "(II)I" } : Jvm.MethodName) prog_1_method_25_code (3 : Nat) (Option.some Jvm.ClassFile.FieldType.int)) : Cond) ∈ q_TT := q_tc4 234 rfl rfl
theorem t_955 : ((Jvm.Cond.methodLink "BallotFruit" (287 : Nat) ({ cls := "BallotFruit$Cores", name := "add", desc := "(II)I" } : Jvm.MethodName)) : Cond) ∈ q_TT := q_tt 955 (by decide +kernel) (by decide +kernel)
theorem t_956 : ((Jvm.Cond.instanceMethod ({ cls := "BallotFruit$Cores", name := "add", desc := "(II)I" } : Jvm.MethodName)) : Cond) ∈ q_TT := q_tt 956 (by decide +kernel) (by decide +kernel)
theorem t_957 : ((Jvm.Cond.selects "BallotFruit$Cores" ({ cls := "BallotFruit$Cores", name := "add", desc := "(II)I" } : Jvm.MethodName) ({ cls := "BallotFruit$Cores", name := "add", desc := "(II)I" } : Jvm.MethodName)) : Cond) ∈ q_TT := q_tt 957 (by decide +kernel) (by decide +kernel)
theorem t_958 : ((Jvm.Cond.code ({ cls := "BallotFruit$Cores", name := "add", desc := "(II)I" } : Jvm.MethodName) prog_3_method_3_code (3 : Nat) (Option.some Jvm.ClassFile.FieldType.int)) : Cond) ∈ q_TT := q_tc4 238 rfl rfl
theorem t_959 : ((Jvm.Cond.methodLink "BallotFruitLaw" (116 : Nat) ({ cls := "BallotFruit", name := "whose", desc := "(I)I" } : Jvm.MethodName)) : Cond) ∈ q_TT := q_tt 959 (by decide +kernel) (by decide +kernel)
theorem t_960 : ((Jvm.Cond.instanceMethod ({ cls := "BallotFruit", name := "whose", desc := "(I)I" } : Jvm.MethodName)) : Cond) ∈ q_TT := q_tt 960 (by decide +kernel) (by decide +kernel)
theorem t_961 : ((Jvm.Cond.selects "BallotFruit" ({ cls := "BallotFruit", name := "whose", desc := "(I)I" } : Jvm.MethodName) ({ cls := "BallotFruit", name := "whose", desc := "(I)I" } : Jvm.MethodName)) : Cond) ∈ q_TT := q_tt 961 (by decide +kernel) (by decide +kernel)
theorem t_962 : ((Jvm.Cond.code ({ cls := "BallotFruit", name := "whose", desc := "(I)I" } : Jvm.MethodName) prog_1_method_26_code (4 : Nat) (Option.some Jvm.ClassFile.FieldType.int)) : Cond) ∈ q_TT := q_tc5 2 rfl rfl
theorem t_963 : ((Jvm.Cond.methodLink "BallotFruit" (293 : Nat) ({ cls := "BallotFruit$Cores", name := "canBeOf", desc := "(LBallotFruit$Commune;II)Z" } : Jvm.MethodName)) : Cond) ∈ q_TT := q_tt 963 (by decide +kernel) (by decide +kernel)
theorem t_964 : ((Jvm.Cond.instanceMethod ({ cls := "BallotFruit$Cores", name := "canBeOf", desc := "(LBallotFruit$Commune;II)Z" } : Jvm.MethodName)) : Cond) ∈ q_TT := q_tt 964 (by decide +kernel) (by decide +kernel)
theorem t_965 : ((Jvm.Cond.selects "BallotFruit$Cores" ({ cls := "BallotFruit$Cores", name := "canBeOf", desc := "(LBallotFruit$Commune;II)Z" } : Jvm.MethodName) ({ cls := "BallotFruit$Cores", name := "canBeOf", desc := "(LBallotFruit$Commune;II)Z" } : Jvm.MethodName)) : Cond) ∈ q_TT := q_tt 965 (by decide +kernel) (by decide +kernel)
theorem t_966 : ((Jvm.Cond.code ({ cls := "BallotFruit$Cores", name := "canBeOf", desc := "(LBallotFruit$Commune;II)Z" } : Jvm.MethodName) prog_3_method_4_code (5 : Nat) (Option.some Jvm.ClassFile.FieldType.boolean)) : Cond) ∈ q_TT := q_tc5 6 rfl rfl
theorem t_967 : ((Jvm.Cond.methodLink "BallotFruit$Cores" (28 : Nat) ({ cls := "BallotFruit$Commune", name := "tasteFor", desc := "(II)I" } : Jvm.MethodName)) : Cond) ∈ q_TT := q_tt 967 (by decide +kernel) (by decide +kernel)
theorem t_968 : ((Jvm.Cond.methodLink "BallotFruit" (297 : Nat) ({ cls := "BallotFruit", name := "askNext", desc := "(I)I" } : Jvm.MethodName)) : Cond) ∈ q_TT := q_tt 968 (by decide +kernel) (by decide +kernel)
theorem t_970 : ((Jvm.Cond.instanceMethod ({ cls := "BallotFruit", name := "askNext", desc := "(I)I" } : Jvm.MethodName)) : Cond) ∈ q_TT := q_tt 970 (by decide +kernel) (by decide +kernel)
theorem t_971 : ((Jvm.Cond.code ({ cls := "BallotFruit", name := "askNext", desc := "(I)I" } : Jvm.MethodName) prog_1_method_43_code (8 : Nat) (Option.some Jvm.ClassFile.FieldType.int)) : Cond) ∈ q_TT := q_tc5 11 rfl rfl
theorem t_972 : ((Jvm.Cond.methodLink "BallotFruit" (351 : Nat) ({ cls := "java/lang/Math", name := "max", desc := "(II)I" } : Jvm.MethodName)) : Cond) ∈ q_TT := q_tt 972 (by decide +kernel) (by decide +kernel)
theorem t_973 : ((Jvm.Cond.methodLink "BallotFruitLaw" (120 : Nat) ({ cls := "BallotFruit", name := "left", desc := "(I)I" } : Jvm.MethodName)) : Cond) ∈ q_TT := q_tt 973 (by decide +kernel) (by decide +kernel)
theorem t_974 : ((Jvm.Cond.instanceMethod ({ cls := "BallotFruit", name := "left", desc := "(I)I" } : Jvm.MethodName)) : Cond) ∈ q_TT := q_tt 974 (by decide +kernel) (by decide +kernel)
theorem t_975 : ((Jvm.Cond.selects "BallotFruit" ({ cls := "BallotFruit", name := "left", desc := "(I)I" } : Jvm.MethodName) ({ cls := "BallotFruit", name := "left", desc := "(I)I" } : Jvm.MethodName)) : Cond) ∈ q_TT := q_tt 975 (by decide +kernel) (by decide +kernel)
theorem t_976 : ((Jvm.Cond.code ({ cls := "BallotFruit", name := "left", desc := "(I)I" } : Jvm.MethodName) prog_1_method_27_code (3 : Nat) (Option.some Jvm.ClassFile.FieldType.int)) : Cond) ∈ q_TT := q_tc5 16 rfl rfl
theorem t_977 : ((Jvm.Cond.methodLink "BallotFruit" (300 : Nat) ({ cls := "BallotFruit", name := "leaveUpTo", desc := "(II)V" } : Jvm.MethodName)) : Cond) ∈ q_TT := q_tt 977 (by decide +kernel) (by decide +kernel)
theorem t_979 : ((Jvm.Cond.instanceMethod ({ cls := "BallotFruit", name := "leaveUpTo", desc := "(II)V" } : Jvm.MethodName)) : Cond) ∈ q_TT := q_tt 979 (by decide +kernel) (by decide +kernel)
theorem t_980 : ((Jvm.Cond.code ({ cls := "BallotFruit", name := "leaveUpTo", desc := "(II)V" } : Jvm.MethodName) prog_1_method_44_code (7 : Nat) (Option.none : Option Jvm.ClassFile.FieldType)) : Cond) ∈ q_TT := q_tc5 20 rfl rfl
theorem t_981 : ((Jvm.Cond.constantLong "BallotFruit" (354 : Nat) (1000000007 : Int64)) : Cond) ∈ q_TT := q_tt 981 (by decide +kernel) (by decide +kernel)
theorem t_982 : ((Jvm.Cond.methodLink "BallotFruitLaw" (124 : Nat) ({ cls := "BallotFruit", name := "rules", desc := "(I)I" } : Jvm.MethodName)) : Cond) ∈ q_TT := q_tt 982 (by decide +kernel) (by decide +kernel)
theorem t_983 : ((Jvm.Cond.instanceMethod ({ cls := "BallotFruit", name := "rules", desc := "(I)I" } : Jvm.MethodName)) : Cond) ∈ q_TT := q_tt 983 (by decide +kernel) (by decide +kernel)
theorem t_984 : ((Jvm.Cond.selects "BallotFruit" ({ cls := "BallotFruit", name := "rules", desc := "(I)I" } : Jvm.MethodName) ({ cls := "BallotFruit", name := "rules", desc := "(I)I" } : Jvm.MethodName)) : Cond) ∈ q_TT := q_tt 984 (by decide +kernel) (by decide +kernel)
theorem t_985 : ((Jvm.Cond.code ({ cls := "BallotFruit", name := "rules", desc := "(I)I" } : Jvm.MethodName) prog_1_method_28_code (6 : Nat) (Option.some Jvm.ClassFile.FieldType.int)) : Cond) ∈ q_TT := q_tc5 25 rfl rfl
theorem t_986 : ((Jvm.Cond.methodLink "BallotFruit" (303 : Nat) ({ cls := "BallotFruit$Commune", name := "seatsOf", desc := "(I)I" } : Jvm.MethodName)) : Cond) ∈ q_TT := q_tt 986 (by decide +kernel) (by decide +kernel)
theorem t_987 : ((Jvm.Cond.instanceMethod ({ cls := "BallotFruit$Commune", name := "seatsOf", desc := "(I)I" } : Jvm.MethodName)) : Cond) ∈ q_TT := q_tt 987 (by decide +kernel) (by decide +kernel)
theorem t_988 : ((Jvm.Cond.selects "BallotFruit$Commune" ({ cls := "BallotFruit$Commune", name := "seatsOf", desc := "(I)I" } : Jvm.MethodName) ({ cls := "BallotFruit$Commune", name := "seatsOf", desc := "(I)I" } : Jvm.MethodName)) : Cond) ∈ q_TT := q_tt 988 (by decide +kernel) (by decide +kernel)
theorem t_989 : ((Jvm.Cond.code ({ cls := "BallotFruit$Commune", name := "seatsOf", desc := "(I)I" } : Jvm.MethodName) prog_2_method_19_code (4 : Nat) (Option.some Jvm.ClassFile.FieldType.int)) : Cond) ∈ q_TT := q_tc5 29 rfl rfl
theorem t_990 : ((Jvm.Cond.methodLink "BallotFruitLaw" (128 : Nat) ({ cls := "BallotFruit", name := "weighs", desc := "(I)I" } : Jvm.MethodName)) : Cond) ∈ q_TT := q_tt 990 (by decide +kernel) (by decide +kernel)
theorem t_991 : ((Jvm.Cond.instanceMethod ({ cls := "BallotFruit", name := "weighs", desc := "(I)I" } : Jvm.MethodName)) : Cond) ∈ q_TT := q_tt 991 (by decide +kernel) (by decide +kernel)
theorem t_992 : ((Jvm.Cond.selects "BallotFruit" ({ cls := "BallotFruit", name := "weighs", desc := "(I)I" } : Jvm.MethodName) ({ cls := "BallotFruit", name := "weighs", desc := "(I)I" } : Jvm.MethodName)) : Cond) ∈ q_TT := q_tt 992 (by decide +kernel) (by decide +kernel)
theorem t_993 : ((Jvm.Cond.code ({ cls := "BallotFruit", name := "weighs", desc := "(I)I" } : Jvm.MethodName) prog_1_method_29_code (8 : Nat) (Option.some Jvm.ClassFile.FieldType.int)) : Cond) ∈ q_TT := q_tc5 33 rfl rfl
theorem t_994 : ((Jvm.Cond.methodLink "BallotFruitLaw" (132 : Nat) ({ cls := "BallotFruit", name := "lasts", desc := "(I)I" } : Jvm.MethodName)) : Cond) ∈ q_TT := q_tt 994 (by decide +kernel) (by decide +kernel)
theorem t_995 : ((Jvm.Cond.instanceMethod ({ cls := "BallotFruit", name := "lasts", desc := "(I)I" } : Jvm.MethodName)) : Cond) ∈ q_TT := q_tt 995 (by decide +kernel) (by decide +kernel)
theorem t_996 : ((Jvm.Cond.selects "BallotFruit" ({ cls := "BallotFruit", name := "lasts", desc := "(I)I" } : Jvm.MethodName) ({ cls := "BallotFruit", name := "lasts", desc := "(I)I" } : Jvm.MethodName)) : Cond) ∈ q_TT := q_tt 996 (by decide +kernel) (by decide +kernel)
theorem t_997 : ((Jvm.Cond.code ({ cls := "BallotFruit", name := "lasts", desc := "(I)I" } : Jvm.MethodName) prog_1_method_30_code (4 : Nat) (Option.some Jvm.ClassFile.FieldType.int)) : Cond) ∈ q_TT := q_tc5 37 rfl rfl
theorem t_998 : ((Jvm.Cond.methodLink "BallotFruitLaw" (136 : Nat) ({ cls := "BallotFruit", name := "meets", desc := "(II)I" } : Jvm.MethodName)) : Cond) ∈ q_TT := q_tt 998 (by decide +kernel) (by decide +kernel)
theorem t_999 : ((Jvm.Cond.instanceMethod ({ cls := "BallotFruit", name := "meets", desc := "(II)I" } : Jvm.MethodName)) : Cond) ∈ q_TT := q_tt 999 (by decide +kernel) (by decide +kernel)
theorem t_1000 : ((Jvm.Cond.selects "BallotFruit" ({ cls := "BallotFruit", name := "meets", desc := "(II)I" } : Jvm.MethodName) ({ cls := "BallotFruit", name := "meets", desc := "(II)I" } : Jvm.MethodName)) : Cond) ∈ q_TT := q_tt 1000 (by decide +kernel) (by decide +kernel)
theorem t_1001 : ((Jvm.Cond.code ({ cls := "BallotFruit", name := "meets", desc := "(II)I" } : Jvm.MethodName) prog_1_method_31_code (3 : Nat) (Option.some Jvm.ClassFile.FieldType.int)) : Cond) ∈ q_TT := q_tc5 41 rfl rfl
theorem t_1002 : ((Jvm.Cond.methodLink "BallotFruitLaw" (140 : Nat) ({ cls := "BallotFruit", name := "game", desc := "(I)I" } : Jvm.MethodName)) : Cond) ∈ q_TT := q_tt 1002 (by decide +kernel) (by decide +kernel)
theorem t_1003 : ((Jvm.Cond.instanceMethod ({ cls := "BallotFruit", name := "game", desc := "(I)I" } : Jvm.MethodName)) : Cond) ∈ q_TT := q_tt 1003 (by decide +kernel) (by decide +kernel)
theorem t_1004 : ((Jvm.Cond.selects "BallotFruit" ({ cls := "BallotFruit", name := "game", desc := "(I)I" } : Jvm.MethodName) ({ cls := "BallotFruit", name := "game", desc := "(I)I" } : Jvm.MethodName)) : Cond) ∈ q_TT := q_tt 1004 (by decide +kernel) (by decide +kernel)
theorem t_1005 : ((Jvm.Cond.code ({ cls := "BallotFruit", name := "game", desc := "(I)I" } : Jvm.MethodName) prog_1_method_32_code (5 : Nat) (Option.some Jvm.ClassFile.FieldType.int)) : Cond) ∈ q_TT := q_tc5 45 rfl rfl
theorem t_1006 : ((Jvm.Cond.methodLink "BallotFruit" (306 : Nat) ({ cls := "BallotFruit", name := "goodPick", desc := "(II)I" } : Jvm.MethodName)) : Cond) ∈ q_TT := q_tt 1006 (by decide +kernel) (by decide +kernel)
theorem t_1007 : ((Jvm.Cond.static ({ cls := "BallotFruit", name := "goodPick", desc := "(II)I" } : Jvm.MethodName)) : Cond) ∈ q_TT := q_tt 1007 (by decide +kernel) (by decide +kernel)
theorem t_1008 : ((Jvm.Cond.code ({ cls := "BallotFruit", name := "goodPick", desc := "(II)I" } : Jvm.MethodName) prog_1_method_45_code (4 : Nat) (Option.some Jvm.ClassFile.FieldType.int)) : Cond) ∈ q_TT := q_tc5 48 rfl rfl
theorem t_1009 : ((Jvm.Cond.methodLink "BallotFruitLaw" (144 : Nat) ({ cls := "BallotFruit", name := "undo", desc := "()Z" } : Jvm.MethodName)) : Cond) ∈ q_TT := q_tt 1009 (by decide +kernel) (by decide +kernel)
theorem t_1010 : ((Jvm.Cond.instanceMethod ({ cls := "BallotFruit", name := "undo", desc := "()Z" } : Jvm.MethodName)) : Cond) ∈ q_TT := q_tt 1010 (by decide +kernel) (by decide +kernel)
theorem t_1011 : ((Jvm.Cond.selects "BallotFruit" ({ cls := "BallotFruit", name := "undo", desc := "()Z" } : Jvm.MethodName) ({ cls := "BallotFruit", name := "undo", desc := "()Z" } : Jvm.MethodName)) : Cond) ∈ q_TT := q_tt 1011 (by decide +kernel) (by decide +kernel)
theorem t_1012 : ((Jvm.Cond.code ({ cls := "BallotFruit", name := "undo", desc := "()Z" } : Jvm.MethodName) prog_1_method_33_code (1 : Nat) (Option.some Jvm.ClassFile.FieldType.boolean)) : Cond) ∈ q_TT := q_tc5 52 rfl rfl
theorem t_1013 : ((Jvm.Cond.methodLink "BallotFruitLaw" (149 : Nat) ({ cls := "BallotFruit", name := "image", desc := "(Z)Z" } : Jvm.MethodName)) : Cond) ∈ q_TT := q_tt 1013 (by decide +kernel) (by decide +kernel)
theorem t_1014 : ((Jvm.Cond.instanceMethod ({ cls := "BallotFruit", name := "image", desc := "(Z)Z" } : Jvm.MethodName)) : Cond) ∈ q_TT := q_tt 1014 (by decide +kernel) (by decide +kernel)
theorem t_1015 : ((Jvm.Cond.selects "BallotFruit" ({ cls := "BallotFruit", name := "image", desc := "(Z)Z" } : Jvm.MethodName) ({ cls := "BallotFruit", name := "image", desc := "(Z)Z" } : Jvm.MethodName)) : Cond) ∈ q_TT := q_tt 1015 (by decide +kernel) (by decide +kernel)
theorem t_1016 : ((Jvm.Cond.code ({ cls := "BallotFruit", name := "image", desc := "(Z)Z" } : Jvm.MethodName) prog_1_method_34_code (2 : Nat) (Option.some Jvm.ClassFile.FieldType.boolean)) : Cond) ∈ q_TT := q_tc5 56 rfl rfl
theorem t_1017 : ((Jvm.Cond.methodLink "BallotFruit" (315 : Nat) ({ cls := "BallotFruit$Whole", name := "copyFrom", desc := "(LBallotFruit$Whole;)V" } : Jvm.MethodName)) : Cond) ∈ q_TT := q_tt 1017 (by decide +kernel) (by decide +kernel)
theorem t_1018 : ((Jvm.Cond.instanceMethod ({ cls := "BallotFruit$Whole", name := "copyFrom", desc := "(LBallotFruit$Whole;)V" } : Jvm.MethodName)) : Cond) ∈ q_TT := q_tt 1018 (by decide +kernel) (by decide +kernel)
theorem t_1019 : ((Jvm.Cond.selects "BallotFruit$Whole" ({ cls := "BallotFruit$Whole", name := "copyFrom", desc := "(LBallotFruit$Whole;)V" } : Jvm.MethodName) ({ cls := "BallotFruit$Whole", name := "copyFrom", desc := "(LBallotFruit$Whole;)V" } : Jvm.MethodName)) : Cond) ∈ q_TT := q_tt 1019 (by decide +kernel) (by decide +kernel)
theorem t_1020 : ((Jvm.Cond.code ({ cls := "BallotFruit$Whole", name := "copyFrom", desc := "(LBallotFruit$Whole;)V" } : Jvm.MethodName) prog_11_method_2_code (2 : Nat) (Option.none : Option Jvm.ClassFile.FieldType)) : Cond) ∈ q_TT := q_tc5 60 rfl rfl
theorem t_1021 : ((Jvm.Cond.methodLink "BallotFruit$Whole" (51 : Nat) ({ cls := "BallotFruit$Commune", name := "copyFrom", desc := "(LBallotFruit$Commune;)V" } : Jvm.MethodName)) : Cond) ∈ q_TT := q_tt 1021 (by decide +kernel) (by decide +kernel)
theorem t_1022 : ((Jvm.Cond.methodLink "BallotFruit$Whole" (55 : Nat) ({ cls := "BallotFruit$Law", name := "copyFrom", desc := "(LBallotFruit$Law;)V" } : Jvm.MethodName)) : Cond) ∈ q_TT := q_tt 1022 (by decide +kernel) (by decide +kernel)
theorem t_1023 : ((Jvm.Cond.methodLink "BallotFruit$Whole" (58 : Nat) ({ cls := "BallotFruit$Paths", name := "copyFrom", desc := "(LBallotFruit$Paths;)V" } : Jvm.MethodName)) : Cond) ∈ q_TT := q_tt 1023 (by decide +kernel) (by decide +kernel)
theorem t_1024 : ((Jvm.Cond.methodLink "BallotFruit$Whole" (61 : Nat) ({ cls := "BallotFruit$Plan", name := "copyFrom", desc := "(LBallotFruit$Plan;)V" } : Jvm.MethodName)) : Cond) ∈ q_TT := q_tt 1024 (by decide +kernel) (by decide +kernel)
theorem t_1025 : ((Jvm.Cond.methodLink "BallotFruit$Whole" (64 : Nat) ({ cls := "BallotFruit$Cores", name := "copyFrom", desc := "(LBallotFruit$Cores;)V" } : Jvm.MethodName)) : Cond) ∈ q_TT := q_tt 1025 (by decide +kernel) (by decide +kernel)
theorem t_1026 : ((Jvm.Cond.instanceMethod ({ cls := "BallotFruit$Cores", name := "copyFrom", desc := "(LBallotFruit$Cores;)V" } : Jvm.MethodName)) : Cond) ∈ q_TT := q_tt 1026 (by decide +kernel) (by decide +kernel)
theorem t_1027 : ((Jvm.Cond.selects "BallotFruit$Cores" ({ cls := "BallotFruit$Cores", name := "copyFrom", desc := "(LBallotFruit$Cores;)V" } : Jvm.MethodName) ({ cls := "BallotFruit$Cores", name := "copyFrom", desc := "(LBallotFruit$Cores;)V" } : Jvm.MethodName)) : Cond) ∈ q_TT := q_tt 1027 (by decide +kernel) (by decide +kernel)
theorem t_1028 : ((Jvm.Cond.code ({ cls := "BallotFruit$Cores", name := "copyFrom", desc := "(LBallotFruit$Cores;)V" } : Jvm.MethodName) prog_3_method_2_code (2 : Nat) (Option.none : Option Jvm.ClassFile.FieldType)) : Cond) ∈ q_TT := q_tc5 68 rfl rfl
theorem t_1029 : ((Jvm.Cond.methodLink "BallotFruit$Cores" (22 : Nat) ({ cls := "java/lang/System", name := "arraycopy", desc := "(Ljava/lang/Object;ILjava/lang/Object;II)V" } : Jvm.MethodName)) : Cond) ∈ q_TT := q_tt 1029 (by decide +kernel) (by decide +kernel)
theorem t_1030 : ((Jvm.Cond.methodLink "BallotFruit$Whole" (67 : Nat) ({ cls := "BallotFruit$Pages", name := "copyFrom", desc := "(LBallotFruit$Pages;)V" } : Jvm.MethodName)) : Cond) ∈ q_TT := q_tt 1030 (by decide +kernel) (by decide +kernel)
theorem t_1031 : ((Jvm.Cond.instanceMethod ({ cls := "BallotFruit$Pages", name := "copyFrom", desc := "(LBallotFruit$Pages;)V" } : Jvm.MethodName)) : Cond) ∈ q_TT := q_tt 1031 (by decide +kernel) (by decide +kernel)
theorem t_1032 : ((Jvm.Cond.selects "BallotFruit$Pages" ({ cls := "BallotFruit$Pages", name := "copyFrom", desc := "(LBallotFruit$Pages;)V" } : Jvm.MethodName) ({ cls := "BallotFruit$Pages", name := "copyFrom", desc := "(LBallotFruit$Pages;)V" } : Jvm.MethodName)) : Cond) ∈ q_TT := q_tt 1032 (by decide +kernel) (by decide +kernel)
theorem t_1033 : ((Jvm.Cond.code ({ cls := "BallotFruit$Pages", name := "copyFrom", desc := "(LBallotFruit$Pages;)V" } : Jvm.MethodName) prog_5_method_2_code (2 : Nat) (Option.none : Option Jvm.ClassFile.FieldType)) : Cond) ∈ q_TT := q_tc5 73 rfl rfl
theorem t_1034 : ((Jvm.Cond.methodLink "BallotFruit$Pages" (15 : Nat) ({ cls := "java/lang/System", name := "arraycopy", desc := "(Ljava/lang/Object;ILjava/lang/Object;II)V" } : Jvm.MethodName)) : Cond) ∈ q_TT := q_tt 1034 (by decide +kernel) (by decide +kernel)
theorem t_1035 : ((Jvm.Cond.methodLink "BallotFruitLaw" (154 : Nat) ({ cls := "BallotFruit", name := "look", desc := "(I)I" } : Jvm.MethodName)) : Cond) ∈ q_TT := q_tt 1035 (by decide +kernel) (by decide +kernel)
theorem t_1036 : ((Jvm.Cond.instanceMethod ({ cls := "BallotFruit", name := "look", desc := "(I)I" } : Jvm.MethodName)) : Cond) ∈ q_TT := q_tt 1036 (by decide +kernel) (by decide +kernel)
theorem t_1037 : ((Jvm.Cond.selects "BallotFruit" ({ cls := "BallotFruit", name := "look", desc := "(I)I" } : Jvm.MethodName) ({ cls := "BallotFruit", name := "look", desc := "(I)I" } : Jvm.MethodName)) : Cond) ∈ q_TT := q_tt 1037 (by decide +kernel) (by decide +kernel)
theorem t_1038 : ((Jvm.Cond.code ({ cls := "BallotFruit", name := "look", desc := "(I)I" } : Jvm.MethodName) prog_1_method_35_code (2 : Nat) (Option.some Jvm.ClassFile.FieldType.int)) : Cond) ∈ q_TT := q_tc5 78 rfl rfl
theorem t_1039 : ((Jvm.Cond.classLink "BallotFruitLaw" (10 : Nat) "BallotFruitModel") : Cond) ∈ q_TT := q_tt 1039 (by decide +kernel) (by decide +kernel)
theorem t_1040 : ((Jvm.Cond.instantiable "BallotFruitModel" (56 : Nat)) : Cond) ∈ q_TT := q_tt 1040 (by decide +kernel) (by decide +kernel)
theorem t_1041 : ((Jvm.Cond.methodLink "BallotFruitLaw" (12 : Nat) ({ cls := "BallotFruitModel", name := "<init>", desc := "()V" } : Jvm.MethodName)) : Cond) ∈ q_TT := q_tt 1041 (by decide +kernel) (by decide +kernel)
theorem t_1042 : ((Jvm.Cond.instanceMethod ({ cls := "BallotFruitModel", name := "<init>", desc := "()V" } : Jvm.MethodName)) : Cond) ∈ q_TT := q_tt 1042 (by decide +kernel) (by decide +kernel)
theorem t_1043 : ((Jvm.Cond.code ({ cls := "BallotFruitModel", name := "<init>", desc := "()V" } : Jvm.MethodName) prog_13_method_1_code (1 : Nat) (Option.none : Option Jvm.ClassFile.FieldType)) : Cond) ∈ q_TT := q_tc5 83 rfl rfl
theorem t_1044 : ((Jvm.Cond.methodLink "BallotFruitModel" (1 : Nat) ({ cls := "java/lang/Object", name := "<init>", desc := "()V" } : Jvm.MethodName)) : Cond) ∈ q_TT := q_tt 1044 (by decide +kernel) (by decide +kernel)
theorem t_1045 : ((Jvm.Cond.fieldLink "BallotFruitModel" (86 : Nat) "BallotFruitModel" "told" "I") : Cond) ∈ q_TT := q_tt 1045 (by decide +kernel) (by decide +kernel)
theorem t_1046 : ((Jvm.Cond.fieldLink "BallotFruitModel" (7 : Nat) "BallotFruitModel" "now" "[I") : Cond) ∈ q_TT := q_tt 1046 (by decide +kernel) (by decide +kernel)
theorem t_1047 : ((Jvm.Cond.fieldLink "BallotFruitModel" (13 : Nat) "BallotFruitModel" "rows" "[I") : Cond) ∈ q_TT := q_tt 1047 (by decide +kernel) (by decide +kernel)
theorem t_1048 : ((Jvm.Cond.fieldLink "BallotFruitModel" (89 : Nat) "BallotFruitModel" "undoable" "I") : Cond) ∈ q_TT := q_tt 1048 (by decide +kernel) (by decide +kernel)
theorem t_1049 : ((Jvm.Cond.fieldLink "BallotFruitModel" (16 : Nat) "BallotFruitModel" "waiting" "[I") : Cond) ∈ q_TT := q_tt 1049 (by decide +kernel) (by decide +kernel)
theorem t_1050 : ((Jvm.Cond.fieldLink "BallotFruitModel" (92 : Nat) "BallotFruitModel" "isThought" "Z") : Cond) ∈ q_TT := q_tt 1050 (by decide +kernel) (by decide +kernel)
theorem t_1051 : ((Jvm.Cond.fieldLink "BallotFruitModel" (116 : Nat) "BallotFruitModel" "parties" "I") : Cond) ∈ q_TT := q_tt 1051 (by decide +kernel) (by decide +kernel)
theorem t_1052 : ((Jvm.Cond.fieldLink "BallotFruitModel" (119 : Nat) "BallotFruitModel" "eaters" "I") : Cond) ∈ q_TT := q_tt 1052 (by decide +kernel) (by decide +kernel)
theorem t_1053 : ((Jvm.Cond.fieldLink "BallotFruitModel" (147 : Nat) "BallotFruitModel" "badOdds" "I") : Cond) ∈ q_TT := q_tt 1053 (by decide +kernel) (by decide +kernel)
theorem t_1054 : ((Jvm.Cond.fieldLink "BallotFruitModel" (150 : Nat) "BallotFruitModel" "waspOdds" "I") : Cond) ∈ q_TT := q_tt 1054 (by decide +kernel) (by decide +kernel)
theorem t_1055 : ((Jvm.Cond.fieldLink "BallotFruitModel" (110 : Nat) "BallotFruitModel" "chairsBut" "I") : Cond) ∈ q_TT := q_tt 1055 (by decide +kernel) (by decide +kernel)
theorem t_1056 : ((Jvm.Cond.fieldLink "BallotFruitModel" (113 : Nat) "BallotFruitModel" "everyBut" "I") : Cond) ∈ q_TT := q_tt 1056 (by decide +kernel) (by decide +kernel)
theorem t_1057 : ((Jvm.Cond.fieldLink "BallotFruitModel" (19 : Nat) "BallotFruitModel" "book" "[I") : Cond) ∈ q_TT := q_tt 1057 (by decide +kernel) (by decide +kernel)
theorem t_1058 : ((Jvm.Cond.fieldLink "BallotFruitModel" (22 : Nat) "BallotFruitModel" "tape" "[I") : Cond) ∈ q_TT := q_tt 1058 (by decide +kernel) (by decide +kernel)
theorem t_1059 : ((Jvm.Cond.fieldLink "BallotFruitModel" (153 : Nat) "BallotFruitModel" "taped" "I") : Cond) ∈ q_TT := q_tt 1059 (by decide +kernel) (by decide +kernel)
theorem t_1060 : ((Jvm.Cond.fieldLink "BallotFruitModel" (160 : Nat) "BallotFruitModel" "spot" "I") : Cond) ∈ q_TT := q_tt 1060 (by decide +kernel) (by decide +kernel)
theorem t_1061 : ((Jvm.Cond.fieldLink "BallotFruitModel" (167 : Nat) "BallotFruitModel" "from" "I") : Cond) ∈ q_TT := q_tt 1061 (by decide +kernel) (by decide +kernel)
theorem t_1062 : ((Jvm.Cond.fieldLink "BallotFruitModel" (170 : Nat) "BallotFruitModel" "token" "I") : Cond) ∈ q_TT := q_tt 1062 (by decide +kernel) (by decide +kernel)
theorem t_1063 : ((Jvm.Cond.fieldLink "BallotFruitModel" (173 : Nat) "BallotFruitModel" "value" "I") : Cond) ∈ q_TT := q_tt 1063 (by decide +kernel) (by decide +kernel)
theorem t_1064 : ((Jvm.Cond.fieldLink "BallotFruitModel" (25 : Nat) "BallotFruitModel" "words" "[I") : Cond) ∈ q_TT := q_tt 1064 (by decide +kernel) (by decide +kernel)
theorem t_1065 : ((Jvm.Cond.fieldLink "BallotFruitModel" (28 : Nat) "BallotFruitModel" "lineMany" "[I") : Cond) ∈ q_TT := q_tt 1065 (by decide +kernel) (by decide +kernel)
theorem t_1066 : ((Jvm.Cond.fieldLink "BallotFruitModel" (31 : Nat) "BallotFruitModel" "lineWord" "[I") : Cond) ∈ q_TT := q_tt 1066 (by decide +kernel) (by decide +kernel)
theorem t_1067 : ((Jvm.Cond.fieldLink "BallotFruitModel" (34 : Nat) "BallotFruitModel" "lineFrom" "[I") : Cond) ∈ q_TT := q_tt 1067 (by decide +kernel) (by decide +kernel)
theorem t_1068 : ((Jvm.Cond.fieldLink "BallotFruitModel" (37 : Nat) "BallotFruitModel" "lineWhen" "[I") : Cond) ∈ q_TT := q_tt 1068 (by decide +kernel) (by decide +kernel)
theorem t_1069 : ((Jvm.Cond.fieldLink "BallotFruitModel" (40 : Nat) "BallotFruitModel" "lineTo" "[I") : Cond) ∈ q_TT := q_tt 1069 (by decide +kernel) (by decide +kernel)
theorem t_1070 : ((Jvm.Cond.fieldLink "BallotFruitModel" (43 : Nat) "BallotFruitModel" "op" "[I") : Cond) ∈ q_TT := q_tt 1070 (by decide +kernel) (by decide +kernel)
theorem t_1071 : ((Jvm.Cond.fieldLink "BallotFruitModel" (46 : Nat) "BallotFruitModel" "arg" "[I") : Cond) ∈ q_TT := q_tt 1071 (by decide +kernel) (by decide +kernel)
theorem t_1072 : ((Jvm.Cond.fieldLink "BallotFruitModel" (249 : Nat) "BallotFruitModel" "which" "I") : Cond) ∈ q_TT := q_tt 1072 (by decide +kernel) (by decide +kernel)
theorem t_1073 : ((Jvm.Cond.fieldLink "BallotFruitModel" (195 : Nat) "BallotFruitModel" "codes" "I") : Cond) ∈ q_TT := q_tt 1073 (by decide +kernel) (by decide +kernel)
theorem t_1074 : ((Jvm.Cond.fieldLink "BallotFruitModel" (227 : Nat) "BallotFruitModel" "open" "I") : Cond) ∈ q_TT := q_tt 1074 (by decide +kernel) (by decide +kernel)
theorem t_1075 : ((Jvm.Cond.fieldLink "BallotFruitModel" (49 : Nat) "BallotFruitModel" "pending" "[I") : Cond) ∈ q_TT := q_tt 1075 (by decide +kernel) (by decide +kernel)
theorem t_1076 : ((Jvm.Cond.fieldLink "BallotFruitModel" (224 : Nat) "BallotFruitModel" "pendings" "I") : Cond) ∈ q_TT := q_tt 1076 (by decide +kernel) (by decide +kernel)
theorem t_1077 : ((Jvm.Cond.fieldLink "BallotFruitModel" (189 : Nat) "BallotFruitModel" "readFault" "I") : Cond) ∈ q_TT := q_tt 1077 (by decide +kernel) (by decide +kernel)
theorem t_1078 : ((Jvm.Cond.fieldLink "BallotFruitModel" (192 : Nat) "BallotFruitModel" "readPlace" "I") : Cond) ∈ q_TT := q_tt 1078 (by decide +kernel) (by decide +kernel)
theorem t_1079 : ((Jvm.Cond.fieldLink "BallotFruitModel" (285 : Nat) "BallotFruitModel" "faultKind" "I") : Cond) ∈ q_TT := q_tt 1079 (by decide +kernel) (by decide +kernel)
theorem t_1080 : ((Jvm.Cond.fieldLink "BallotFruitModel" (52 : Nat) "BallotFruitModel" "faultPlace" "I") : Cond) ∈ q_TT := q_tt 1080 (by decide +kernel) (by decide +kernel)
theorem t_1081 : ((Jvm.Cond.fieldLink "BallotFruitModel" (279 : Nat) "BallotFruitModel" "pathLines" "I") : Cond) ∈ q_TT := q_tt 1081 (by decide +kernel) (by decide +kernel)
theorem t_1082 : ((Jvm.Cond.fieldLink "BallotFruitModel" (56 : Nat) "BallotFruitModel" "paths" "[I") : Cond) ∈ q_TT := q_tt 1082 (by decide +kernel) (by decide +kernel)
theorem t_1083 : ((Jvm.Cond.fieldLink "BallotFruitModel" (282 : Nat) "BallotFruitModel" "planMany" "I") : Cond) ∈ q_TT := q_tt 1083 (by decide +kernel) (by decide +kernel)
theorem t_1084 : ((Jvm.Cond.fieldLink "BallotFruitModel" (59 : Nat) "BallotFruitModel" "plan" "[I") : Cond) ∈ q_TT := q_tt 1084 (by decide +kernel) (by decide +kernel)
theorem t_1085 : ((Jvm.Cond.fieldLink "BallotFruitModel" (62 : Nat) "BallotFruitModel" "asked" "[I") : Cond) ∈ q_TT := q_tt 1085 (by decide +kernel) (by decide +kernel)
theorem t_1086 : ((Jvm.Cond.fieldLink "BallotFruitModel" (65 : Nat) "BallotFruitModel" "stack" "[I") : Cond) ∈ q_TT := q_tt 1086 (by decide +kernel) (by decide +kernel)
theorem t_1087 : ((Jvm.Cond.fieldLink "BallotFruitModel" (96 : Nat) "BallotFruitModel" "gained" "I") : Cond) ∈ q_TT := q_tt 1087 (by decide +kernel) (by decide +kernel)
theorem t_1088 : ((Jvm.Cond.fieldLink "BallotFruitModel" (345 : Nat) "BallotFruitModel" "gainedFor" "I") : Cond) ∈ q_TT := q_tt 1088 (by decide +kernel) (by decide +kernel)
theorem t_1089 : ((Jvm.Cond.fieldLink "BallotFruitModel" (99 : Nat) "BallotFruitModel" "hungryFirst" "I") : Cond) ∈ q_TT := q_tt 1089 (by decide +kernel) (by decide +kernel)
theorem t_1090 : ((Jvm.Cond.fieldLink "BallotFruitModel" (102 : Nat) "BallotFruitModel" "hungryWeek" "I") : Cond) ∈ q_TT := q_tt 1090 (by decide +kernel) (by decide +kernel)
theorem t_1091 : ((Jvm.Cond.fieldLink "BallotFruitModel" (68 : Nat) "BallotFruitModel" "given" "[I") : Cond) ∈ q_TT := q_tt 1091 (by decide +kernel) (by decide +kernel)
theorem t_1092 : ((Jvm.Cond.fieldLink "BallotFruitModel" (71 : Nat) "BallotFruitModel" "remains" "[I") : Cond) ∈ q_TT := q_tt 1092 (by decide +kernel) (by decide +kernel)
theorem t_1093 : ((Jvm.Cond.fieldLink "BallotFruitModel" (435 : Nat) "BallotFruitModel" "coreMany" "I") : Cond) ∈ q_TT := q_tt 1093 (by decide +kernel) (by decide +kernel)
theorem t_1094 : ((Jvm.Cond.fieldLink "BallotFruitModel" (74 : Nat) "BallotFruitModel" "cores" "[I") : Cond) ∈ q_TT := q_tt 1094 (by decide +kernel) (by decide +kernel)
theorem t_1095 : ((Jvm.Cond.fieldLink "BallotFruitModel" (77 : Nat) "BallotFruitModel" "ways" "[I") : Cond) ∈ q_TT := q_tt 1095 (by decide +kernel) (by decide +kernel)
theorem t_1096 : ((Jvm.Cond.fieldLink "BallotFruitModel" (80 : Nat) "BallotFruitModel" "waysThen" "[I") : Cond) ∈ q_TT := q_tt 1096 (by decide +kernel) (by decide +kernel)
theorem t_1097 : ((Jvm.Cond.fieldLink "BallotFruitModel" (455 : Nat) "BallotFruitModel" "isTaking" "Z") : Cond) ∈ q_TT := q_tt 1097 (by decide +kernel) (by decide +kernel)
theorem t_1098 : ((Jvm.Cond.fieldLink "BallotFruitModel" (461 : Nat) "BallotFruitModel" "hasImage" "Z") : Cond) ∈ q_TT := q_tt 1098 (by decide +kernel) (by decide +kernel)
theorem t_1099 : ((Jvm.Cond.fieldLink "BallotFruitModel" (452 : Nat) "BallotFruitModel" "keptAt" "I") : Cond) ∈ q_TT := q_tt 1099 (by decide +kernel) (by decide +kernel)
theorem t_1100 : ((Jvm.Cond.fieldLink "BallotFruitModel" (83 : Nat) "BallotFruitModel" "images" "[I") : Cond) ∈ q_TT := q_tt 1100 (by decide +kernel) (by decide +kernel)
theorem t_1101 : ((Jvm.Cond.lays "BallotFruitModel" "BallotFruitModel" "told" "I") : Cond) ∈ q_TT := q_tt 1101 (by decide +kernel) (by decide +kernel)
theorem t_1103 : ((Jvm.Cond.laysFinal "BallotFruitModel" "BallotFruitModel" "now" "[I") : Cond) ∈ q_TT := q_tt 1103 (by decide +kernel) (by decide +kernel)
theorem t_1105 : ((Jvm.Cond.laysFinal "BallotFruitModel" "BallotFruitModel" "rows" "[I") : Cond) ∈ q_TT := q_tt 1105 (by decide +kernel) (by decide +kernel)
theorem t_1107 : ((Jvm.Cond.lays "BallotFruitModel" "BallotFruitModel" "undoable" "I") : Cond) ∈ q_TT := q_tt 1107 (by decide +kernel) (by decide +kernel)
theorem t_1109 : ((Jvm.Cond.laysFinal "BallotFruitModel" "BallotFruitModel" "waiting" "[I") : Cond) ∈ q_TT := q_tt 1109 (by decide +kernel) (by decide +kernel)
theorem t_1111 : ((Jvm.Cond.lays "BallotFruitModel" "BallotFruitModel" "isThought" "Z") : Cond) ∈ q_TT := q_tt 1111 (by decide +kernel) (by decide +kernel)
theorem t_1113 : ((Jvm.Cond.lays "BallotFruitModel" "BallotFruitModel" "parties" "I") : Cond) ∈ q_TT := q_tt 1113 (by decide +kernel) (by decide +kernel)
theorem t_1115 : ((Jvm.Cond.lays "BallotFruitModel" "BallotFruitModel" "eaters" "I") : Cond) ∈ q_TT := q_tt 1115 (by decide +kernel) (by decide +kernel)
theorem t_1117 : ((Jvm.Cond.lays "BallotFruitModel" "BallotFruitModel" "badOdds" "I") : Cond) ∈ q_TT := q_tt 1117 (by decide +kernel) (by decide +kernel)
theorem t_1119 : ((Jvm.Cond.lays "BallotFruitModel" "BallotFruitModel" "waspOdds" "I") : Cond) ∈ q_TT := q_tt 1119 (by decide +kernel) (by decide +kernel)
theorem t_1121 : ((Jvm.Cond.lays "BallotFruitModel" "BallotFruitModel" "chairsBut" "I") : Cond) ∈ q_TT := q_tt 1121 (by decide +kernel) (by decide +kernel)
theorem t_1123 : ((Jvm.Cond.lays "BallotFruitModel" "BallotFruitModel" "everyBut" "I") : Cond) ∈ q_TT := q_tt 1123 (by decide +kernel) (by decide +kernel)
theorem t_1125 : ((Jvm.Cond.laysFinal "BallotFruitModel" "BallotFruitModel" "book" "[I") : Cond) ∈ q_TT := q_tt 1125 (by decide +kernel) (by decide +kernel)
theorem t_1127 : ((Jvm.Cond.laysFinal "BallotFruitModel" "BallotFruitModel" "tape" "[I") : Cond) ∈ q_TT := q_tt 1127 (by decide +kernel) (by decide +kernel)
theorem t_1129 : ((Jvm.Cond.lays "BallotFruitModel" "BallotFruitModel" "taped" "I") : Cond) ∈ q_TT := q_tt 1129 (by decide +kernel) (by decide +kernel)
theorem t_1131 : ((Jvm.Cond.lays "BallotFruitModel" "BallotFruitModel" "spot" "I") : Cond) ∈ q_TT := q_tt 1131 (by decide +kernel) (by decide +kernel)
theorem t_1133 : ((Jvm.Cond.lays "BallotFruitModel" "BallotFruitModel" "from" "I") : Cond) ∈ q_TT := q_tt 1133 (by decide +kernel) (by decide +kernel)
theorem t_1135 : ((Jvm.Cond.lays "BallotFruitModel" "BallotFruitModel" "token" "I") : Cond) ∈ q_TT := q_tt 1135 (by decide +kernel) (by decide +kernel)
theorem t_1137 : ((Jvm.Cond.lays "BallotFruitModel" "BallotFruitModel" "value" "I") : Cond) ∈ q_TT := q_tt 1137 (by decide +kernel) (by decide +kernel)
theorem t_1139 : ((Jvm.Cond.laysFinal "BallotFruitModel" "BallotFruitModel" "words" "[I") : Cond) ∈ q_TT := q_tt 1139 (by decide +kernel) (by decide +kernel)
theorem t_1141 : ((Jvm.Cond.laysFinal "BallotFruitModel" "BallotFruitModel" "lineMany" "[I") : Cond) ∈ q_TT := q_tt 1141 (by decide +kernel) (by decide +kernel)
theorem t_1143 : ((Jvm.Cond.laysFinal "BallotFruitModel" "BallotFruitModel" "lineWord" "[I") : Cond) ∈ q_TT := q_tt 1143 (by decide +kernel) (by decide +kernel)
theorem t_1145 : ((Jvm.Cond.laysFinal "BallotFruitModel" "BallotFruitModel" "lineFrom" "[I") : Cond) ∈ q_TT := q_tt 1145 (by decide +kernel) (by decide +kernel)
theorem t_1147 : ((Jvm.Cond.laysFinal "BallotFruitModel" "BallotFruitModel" "lineWhen" "[I") : Cond) ∈ q_TT := q_tt 1147 (by decide +kernel) (by decide +kernel)
theorem t_1149 : ((Jvm.Cond.laysFinal "BallotFruitModel" "BallotFruitModel" "lineTo" "[I") : Cond) ∈ q_TT := q_tt 1149 (by decide +kernel) (by decide +kernel)
theorem t_1151 : ((Jvm.Cond.laysFinal "BallotFruitModel" "BallotFruitModel" "op" "[I") : Cond) ∈ q_TT := q_tt 1151 (by decide +kernel) (by decide +kernel)
theorem t_1153 : ((Jvm.Cond.laysFinal "BallotFruitModel" "BallotFruitModel" "arg" "[I") : Cond) ∈ q_TT := q_tt 1153 (by decide +kernel) (by decide +kernel)
theorem t_1155 : ((Jvm.Cond.lays "BallotFruitModel" "BallotFruitModel" "which" "I") : Cond) ∈ q_TT := q_tt 1155 (by decide +kernel) (by decide +kernel)
theorem t_1157 : ((Jvm.Cond.lays "BallotFruitModel" "BallotFruitModel" "codes" "I") : Cond) ∈ q_TT := q_tt 1157 (by decide +kernel) (by decide +kernel)
theorem t_1159 : ((Jvm.Cond.lays "BallotFruitModel" "BallotFruitModel" "open" "I") : Cond) ∈ q_TT := q_tt 1159 (by decide +kernel) (by decide +kernel)
theorem t_1161 : ((Jvm.Cond.laysFinal "BallotFruitModel" "BallotFruitModel" "pending" "[I") : Cond) ∈ q_TT := q_tt 1161 (by decide +kernel) (by decide +kernel)
theorem t_1163 : ((Jvm.Cond.lays "BallotFruitModel" "BallotFruitModel" "pendings" "I") : Cond) ∈ q_TT := q_tt 1163 (by decide +kernel) (by decide +kernel)
theorem t_1165 : ((Jvm.Cond.lays "BallotFruitModel" "BallotFruitModel" "readFault" "I") : Cond) ∈ q_TT := q_tt 1165 (by decide +kernel) (by decide +kernel)
theorem t_1167 : ((Jvm.Cond.lays "BallotFruitModel" "BallotFruitModel" "readPlace" "I") : Cond) ∈ q_TT := q_tt 1167 (by decide +kernel) (by decide +kernel)
theorem t_1169 : ((Jvm.Cond.lays "BallotFruitModel" "BallotFruitModel" "faultKind" "I") : Cond) ∈ q_TT := q_tt 1169 (by decide +kernel) (by decide +kernel)
theorem t_1171 : ((Jvm.Cond.lays "BallotFruitModel" "BallotFruitModel" "faultPlace" "I") : Cond) ∈ q_TT := q_tt 1171 (by decide +kernel) (by decide +kernel)
theorem t_1173 : ((Jvm.Cond.lays "BallotFruitModel" "BallotFruitModel" "pathLines" "I") : Cond) ∈ q_TT := q_tt 1173 (by decide +kernel) (by decide +kernel)
theorem t_1175 : ((Jvm.Cond.laysFinal "BallotFruitModel" "BallotFruitModel" "paths" "[I") : Cond) ∈ q_TT := q_tt 1175 (by decide +kernel) (by decide +kernel)
theorem t_1177 : ((Jvm.Cond.lays "BallotFruitModel" "BallotFruitModel" "planMany" "I") : Cond) ∈ q_TT := q_tt 1177 (by decide +kernel) (by decide +kernel)
theorem t_1179 : ((Jvm.Cond.laysFinal "BallotFruitModel" "BallotFruitModel" "plan" "[I") : Cond) ∈ q_TT := q_tt 1179 (by decide +kernel) (by decide +kernel)
theorem t_1181 : ((Jvm.Cond.laysFinal "BallotFruitModel" "BallotFruitModel" "asked" "[I") : Cond) ∈ q_TT := q_tt 1181 (by decide +kernel) (by decide +kernel)
theorem t_1183 : ((Jvm.Cond.laysFinal "BallotFruitModel" "BallotFruitModel" "stack" "[I") : Cond) ∈ q_TT := q_tt 1183 (by decide +kernel) (by decide +kernel)
theorem t_1185 : ((Jvm.Cond.lays "BallotFruitModel" "BallotFruitModel" "gained" "I") : Cond) ∈ q_TT := q_tt 1185 (by decide +kernel) (by decide +kernel)
theorem t_1187 : ((Jvm.Cond.lays "BallotFruitModel" "BallotFruitModel" "gainedFor" "I") : Cond) ∈ q_TT := q_tt 1187 (by decide +kernel) (by decide +kernel)
theorem t_1189 : ((Jvm.Cond.lays "BallotFruitModel" "BallotFruitModel" "hungryFirst" "I") : Cond) ∈ q_TT := q_tt 1189 (by decide +kernel) (by decide +kernel)
theorem t_1191 : ((Jvm.Cond.lays "BallotFruitModel" "BallotFruitModel" "hungryWeek" "I") : Cond) ∈ q_TT := q_tt 1191 (by decide +kernel) (by decide +kernel)
theorem t_1193 : ((Jvm.Cond.laysFinal "BallotFruitModel" "BallotFruitModel" "given" "[I") : Cond) ∈ q_TT := q_tt 1193 (by decide +kernel) (by decide +kernel)
theorem t_1195 : ((Jvm.Cond.laysFinal "BallotFruitModel" "BallotFruitModel" "remains" "[I") : Cond) ∈ q_TT := q_tt 1195 (by decide +kernel) (by decide +kernel)
theorem t_1197 : ((Jvm.Cond.lays "BallotFruitModel" "BallotFruitModel" "coreMany" "I") : Cond) ∈ q_TT := q_tt 1197 (by decide +kernel) (by decide +kernel)
theorem t_1199 : ((Jvm.Cond.laysFinal "BallotFruitModel" "BallotFruitModel" "cores" "[I") : Cond) ∈ q_TT := q_tt 1199 (by decide +kernel) (by decide +kernel)
theorem t_1201 : ((Jvm.Cond.laysFinal "BallotFruitModel" "BallotFruitModel" "ways" "[I") : Cond) ∈ q_TT := q_tt 1201 (by decide +kernel) (by decide +kernel)
theorem t_1203 : ((Jvm.Cond.laysFinal "BallotFruitModel" "BallotFruitModel" "waysThen" "[I") : Cond) ∈ q_TT := q_tt 1203 (by decide +kernel) (by decide +kernel)
theorem t_1205 : ((Jvm.Cond.lays "BallotFruitModel" "BallotFruitModel" "isTaking" "Z") : Cond) ∈ q_TT := q_tt 1205 (by decide +kernel) (by decide +kernel)
theorem t_1207 : ((Jvm.Cond.lays "BallotFruitModel" "BallotFruitModel" "hasImage" "Z") : Cond) ∈ q_TT := q_tt 1207 (by decide +kernel) (by decide +kernel)
theorem t_1209 : ((Jvm.Cond.lays "BallotFruitModel" "BallotFruitModel" "keptAt" "I") : Cond) ∈ q_TT := q_tt 1209 (by decide +kernel) (by decide +kernel)
theorem t_1211 : ((Jvm.Cond.laysFinal "BallotFruitModel" "BallotFruitModel" "images" "[I") : Cond) ∈ q_TT := q_tt 1211 (by decide +kernel) (by decide +kernel)
theorem t_1214 : ((Jvm.Cond.methodLink "BallotFruitLaw" (148 : Nat) ({ cls := "BallotFruitModel", name := "undo", desc := "()Z" } : Jvm.MethodName)) : Cond) ∈ q_TT := q_tt 1214 (by decide +kernel) (by decide +kernel)
theorem t_1215 : ((Jvm.Cond.instanceMethod ({ cls := "BallotFruitModel", name := "undo", desc := "()Z" } : Jvm.MethodName)) : Cond) ∈ q_TT := q_tt 1215 (by decide +kernel) (by decide +kernel)
theorem t_1216 : ((Jvm.Cond.selects "BallotFruitModel" ({ cls := "BallotFruitModel", name := "undo", desc := "()Z" } : Jvm.MethodName) ({ cls := "BallotFruitModel", name := "undo", desc := "()Z" } : Jvm.MethodName)) : Cond) ∈ q_TT := q_tt 1216 (by decide +kernel) (by decide +kernel)
theorem t_1217 : ((Jvm.Cond.code ({ cls := "BallotFruitModel", name := "undo", desc := "()Z" } : Jvm.MethodName) prog_13_method_10_code (2 : Nat) (Option.some Jvm.ClassFile.FieldType.boolean)) : Cond) ∈ q_TT := q_tc6 17 rfl rfl
theorem t_1218 : ((Jvm.Cond.methodLink "BallotFruitLaw" (17 : Nat) ({ cls := "BallotFruitModel", name := "state", desc := "(I)I" } : Jvm.MethodName)) : Cond) ∈ q_TT := q_tt 1218 (by decide +kernel) (by decide +kernel)
theorem t_1219 : ((Jvm.Cond.instanceMethod ({ cls := "BallotFruitModel", name := "state", desc := "(I)I" } : Jvm.MethodName)) : Cond) ∈ q_TT := q_tt 1219 (by decide +kernel) (by decide +kernel)
theorem t_1220 : ((Jvm.Cond.selects "BallotFruitModel" ({ cls := "BallotFruitModel", name := "state", desc := "(I)I" } : Jvm.MethodName) ({ cls := "BallotFruitModel", name := "state", desc := "(I)I" } : Jvm.MethodName)) : Cond) ∈ q_TT := q_tt 1220 (by decide +kernel) (by decide +kernel)
theorem t_1221 : ((Jvm.Cond.code ({ cls := "BallotFruitModel", name := "state", desc := "(I)I" } : Jvm.MethodName) prog_13_method_14_code (3 : Nat) (Option.some Jvm.ClassFile.FieldType.int)) : Cond) ∈ q_TT := q_tc6 21 rfl rfl
theorem t_1222 : ((Jvm.Cond.methodLink "BallotFruitLaw" (21 : Nat) ({ cls := "BallotFruitModel", name := "party", desc := "(I)I" } : Jvm.MethodName)) : Cond) ∈ q_TT := q_tt 1222 (by decide +kernel) (by decide +kernel)
theorem t_1223 : ((Jvm.Cond.instanceMethod ({ cls := "BallotFruitModel", name := "party", desc := "(I)I" } : Jvm.MethodName)) : Cond) ∈ q_TT := q_tt 1223 (by decide +kernel) (by decide +kernel)
theorem t_1224 : ((Jvm.Cond.selects "BallotFruitModel" ({ cls := "BallotFruitModel", name := "party", desc := "(I)I" } : Jvm.MethodName) ({ cls := "BallotFruitModel", name := "party", desc := "(I)I" } : Jvm.MethodName)) : Cond) ∈ q_TT := q_tt 1224 (by decide +kernel) (by decide +kernel)
theorem t_1225 : ((Jvm.Cond.code ({ cls := "BallotFruitModel", name := "party", desc := "(I)I" } : Jvm.MethodName) prog_13_method_24_code (2 : Nat) (Option.some Jvm.ClassFile.FieldType.int)) : Cond) ∈ q_TT := q_tc6 25 rfl rfl
theorem t_1226 : ((Jvm.Cond.methodLink "BallotFruitModel" (126 : Nat) ({ cls := "BallotFruitModel", name := "isIn", desc := "(III)Z" } : Jvm.MethodName)) : Cond) ∈ q_TT := q_tt 1226 (by decide +kernel) (by decide +kernel)
theorem t_1228 : ((Jvm.Cond.instanceMethod ({ cls := "BallotFruitModel", name := "isIn", desc := "(III)Z" } : Jvm.MethodName)) : Cond) ∈ q_TT := q_tt 1228 (by decide +kernel) (by decide +kernel)
theorem t_1229 : ((Jvm.Cond.code ({ cls := "BallotFruitModel", name := "isIn", desc := "(III)Z" } : Jvm.MethodName) prog_13_method_3_code (4 : Nat) (Option.some Jvm.ClassFile.FieldType.boolean)) : Cond) ∈ q_TT := q_tc6 29 rfl rfl
theorem t_1230 : ((Jvm.Cond.methodLink "BallotFruitLaw" (25 : Nat) ({ cls := "BallotFruitModel", name := "eater", desc := "(I)I" } : Jvm.MethodName)) : Cond) ∈ q_TT := q_tt 1230 (by decide +kernel) (by decide +kernel)
theorem t_1231 : ((Jvm.Cond.instanceMethod ({ cls := "BallotFruitModel", name := "eater", desc := "(I)I" } : Jvm.MethodName)) : Cond) ∈ q_TT := q_tt 1231 (by decide +kernel) (by decide +kernel)
theorem t_1232 : ((Jvm.Cond.selects "BallotFruitModel" ({ cls := "BallotFruitModel", name := "eater", desc := "(I)I" } : Jvm.MethodName) ({ cls := "BallotFruitModel", name := "eater", desc := "(I)I" } : Jvm.MethodName)) : Cond) ∈ q_TT := q_tt 1232 (by decide +kernel) (by decide +kernel)
theorem t_1233 : ((Jvm.Cond.code ({ cls := "BallotFruitModel", name := "eater", desc := "(I)I" } : Jvm.MethodName) prog_13_method_25_code (2 : Nat) (Option.some Jvm.ClassFile.FieldType.int)) : Cond) ∈ q_TT := q_tc6 33 rfl rfl
theorem t_1234 : ((Jvm.Cond.methodLink "BallotFruitLaw" (30 : Nat) ({ cls := "BallotFruitModel", name := "taste", desc := "(III)Z" } : Jvm.MethodName)) : Cond) ∈ q_TT := q_tt 1234 (by decide +kernel) (by decide +kernel)
theorem t_1235 : ((Jvm.Cond.instanceMethod ({ cls := "BallotFruitModel", name := "taste", desc := "(III)Z" } : Jvm.MethodName)) : Cond) ∈ q_TT := q_tt 1235 (by decide +kernel) (by decide +kernel)
theorem t_1236 : ((Jvm.Cond.selects "BallotFruitModel" ({ cls := "BallotFruitModel", name := "taste", desc := "(III)Z" } : Jvm.MethodName) ({ cls := "BallotFruitModel", name := "taste", desc := "(III)Z" } : Jvm.MethodName)) : Cond) ∈ q_TT := q_tt 1236 (by decide +kernel) (by decide +kernel)
theorem t_1237 : ((Jvm.Cond.code ({ cls := "BallotFruitModel", name := "taste", desc := "(III)Z" } : Jvm.MethodName) prog_13_method_26_code (4 : Nat) (Option.some Jvm.ClassFile.FieldType.boolean)) : Cond) ∈ q_TT := q_tc6 37 rfl rfl
theorem t_1238 : ((Jvm.Cond.methodLink "BallotFruitModel" (130 : Nat) ({ cls := "BallotFruitModel", name := "isEater", desc := "(I)Z" } : Jvm.MethodName)) : Cond) ∈ q_TT := q_tt 1238 (by decide +kernel) (by decide +kernel)
theorem t_1240 : ((Jvm.Cond.instanceMethod ({ cls := "BallotFruitModel", name := "isEater", desc := "(I)Z" } : Jvm.MethodName)) : Cond) ∈ q_TT := q_tt 1240 (by decide +kernel) (by decide +kernel)
theorem t_1241 : ((Jvm.Cond.code ({ cls := "BallotFruitModel", name := "isEater", desc := "(I)Z" } : Jvm.MethodName) prog_13_method_19_code (2 : Nat) (Option.some Jvm.ClassFile.FieldType.boolean)) : Cond) ∈ q_TT := q_tc6 41 rfl rfl
theorem t_1242 : ((Jvm.Cond.methodLink "BallotFruitModel" (134 : Nat) ({ cls := "BallotFruitModel", name := "isParty", desc := "(I)Z" } : Jvm.MethodName)) : Cond) ∈ q_TT := q_tt 1242 (by decide +kernel) (by decide +kernel)
theorem t_1244 : ((Jvm.Cond.instanceMethod ({ cls := "BallotFruitModel", name := "isParty", desc := "(I)Z" } : Jvm.MethodName)) : Cond) ∈ q_TT := q_tt 1244 (by decide +kernel) (by decide +kernel)
theorem t_1245 : ((Jvm.Cond.code ({ cls := "BallotFruitModel", name := "isParty", desc := "(I)Z" } : Jvm.MethodName) prog_13_method_18_code (2 : Nat) (Option.some Jvm.ClassFile.FieldType.boolean)) : Cond) ∈ q_TT := q_tc6 45 rfl rfl
theorem t_1246 : ((Jvm.Cond.methodLink "BallotFruitModel" (137 : Nat) ({ cls := "BallotFruitModel", name := "tasteBe", desc := "(III)V" } : Jvm.MethodName)) : Cond) ∈ q_TT := q_tt 1246 (by decide +kernel) (by decide +kernel)
theorem t_1248 : ((Jvm.Cond.instanceMethod ({ cls := "BallotFruitModel", name := "tasteBe", desc := "(III)V" } : Jvm.MethodName)) : Cond) ∈ q_TT := q_tt 1248 (by decide +kernel) (by decide +kernel)
theorem t_1249 : ((Jvm.Cond.code ({ cls := "BallotFruitModel", name := "tasteBe", desc := "(III)V" } : Jvm.MethodName) prog_13_method_23_code (4 : Nat) (Option.none : Option Jvm.ClassFile.FieldType)) : Cond) ∈ q_TT := q_tc6 49 rfl rfl
theorem t_1250 : ((Jvm.Cond.methodLink "BallotFruitModel" (122 : Nat) ({ cls := "BallotFruitModel", name := "held", desc := "(III)I" } : Jvm.MethodName)) : Cond) ∈ q_TT := q_tt 1250 (by decide +kernel) (by decide +kernel)
theorem t_1252 : ((Jvm.Cond.instanceMethod ({ cls := "BallotFruitModel", name := "held", desc := "(III)I" } : Jvm.MethodName)) : Cond) ∈ q_TT := q_tt 1252 (by decide +kernel) (by decide +kernel)
theorem t_1253 : ((Jvm.Cond.code ({ cls := "BallotFruitModel", name := "held", desc := "(III)I" } : Jvm.MethodName) prog_13_method_4_code (4 : Nat) (Option.some Jvm.ClassFile.FieldType.int)) : Cond) ∈ q_TT := q_tc6 53 rfl rfl
theorem t_1254 : ((Jvm.Cond.methodLink "BallotFruitLaw" (34 : Nat) ({ cls := "BallotFruitModel", name := "set", desc := "(III)Z" } : Jvm.MethodName)) : Cond) ∈ q_TT := q_tt 1254 (by decide +kernel) (by decide +kernel)
theorem t_1255 : ((Jvm.Cond.instanceMethod ({ cls := "BallotFruitModel", name := "set", desc := "(III)Z" } : Jvm.MethodName)) : Cond) ∈ q_TT := q_tt 1255 (by decide +kernel) (by decide +kernel)
theorem t_1256 : ((Jvm.Cond.selects "BallotFruitModel" ({ cls := "BallotFruitModel", name := "set", desc := "(III)Z" } : Jvm.MethodName) ({ cls := "BallotFruitModel", name := "set", desc := "(III)Z" } : Jvm.MethodName)) : Cond) ∈ q_TT := q_tt 1256 (by decide +kernel) (by decide +kernel)
theorem t_1257 : ((Jvm.Cond.code ({ cls := "BallotFruitModel", name := "set", desc := "(III)Z" } : Jvm.MethodName) prog_13_method_28_code (4 : Nat) (Option.some Jvm.ClassFile.FieldType.boolean)) : Cond) ∈ q_TT := q_tc6 57 rfl rfl
theorem t_1258 : ((Jvm.Cond.methodLink "BallotFruitModel" (144 : Nat) ({ cls := "BallotFruitModel", name := "canSet", desc := "(III)Z" } : Jvm.MethodName)) : Cond) ∈ q_TT := q_tt 1258 (by decide +kernel) (by decide +kernel)
theorem t_1260 : ((Jvm.Cond.instanceMethod ({ cls := "BallotFruitModel", name := "canSet", desc := "(III)Z" } : Jvm.MethodName)) : Cond) ∈ q_TT := q_tt 1260 (by decide +kernel) (by decide +kernel)
theorem t_1261 : ((Jvm.Cond.code ({ cls := "BallotFruitModel", name := "canSet", desc := "(III)Z" } : Jvm.MethodName) prog_13_method_27_code (4 : Nat) (Option.some Jvm.ClassFile.FieldType.boolean)) : Cond) ∈ q_TT := q_tc6 61 rfl rfl
theorem t_1262 : ((Jvm.Cond.methodLink "BallotFruitModel" (141 : Nat) ({ cls := "BallotFruitModel", name := "isTree", desc := "(I)Z" } : Jvm.MethodName)) : Cond) ∈ q_TT := q_tt 1262 (by decide +kernel) (by decide +kernel)
theorem t_1264 : ((Jvm.Cond.instanceMethod ({ cls := "BallotFruitModel", name := "isTree", desc := "(I)Z" } : Jvm.MethodName)) : Cond) ∈ q_TT := q_tt 1264 (by decide +kernel) (by decide +kernel)
theorem t_1265 : ((Jvm.Cond.code ({ cls := "BallotFruitModel", name := "isTree", desc := "(I)Z" } : Jvm.MethodName) prog_13_method_21_code (2 : Nat) (Option.some Jvm.ClassFile.FieldType.boolean)) : Cond) ∈ q_TT := q_tc6 65 rfl rfl
theorem t_1266 : ((Jvm.Cond.methodLink "BallotFruitLaw" (58 : Nat) ({ cls := "BallotFruitModel", name := "feed", desc := "(IIIII)I" } : Jvm.MethodName)) : Cond) ∈ q_TT := q_tt 1266 (by decide +kernel) (by decide +kernel)
theorem t_1267 : ((Jvm.Cond.instanceMethod ({ cls := "BallotFruitModel", name := "feed", desc := "(IIIII)I" } : Jvm.MethodName)) : Cond) ∈ q_TT := q_tt 1267 (by decide +kernel) (by decide +kernel)
theorem t_1268 : ((Jvm.Cond.selects "BallotFruitModel" ({ cls := "BallotFruitModel", name := "feed", desc := "(IIIII)I" } : Jvm.MethodName) ({ cls := "BallotFruitModel", name := "feed", desc := "(IIIII)I" } : Jvm.MethodName)) : Cond) ∈ q_TT := q_tt 1268 (by decide +kernel) (by decide +kernel)
theorem t_1269 : ((Jvm.Cond.code ({ cls := "BallotFruitModel", name := "feed", desc := "(IIIII)I" } : Jvm.MethodName) prog_13_method_30_code (6 : Nat) (Option.some Jvm.ClassFile.FieldType.int)) : Cond) ∈ q_TT := q_tc6 69 rfl rfl
theorem t_1270 : ((Jvm.Cond.methodLink "BallotFruitModel" (156 : Nat) ({ cls := "BallotFruitModel", name := "types", desc := "(I)V" } : Jvm.MethodName)) : Cond) ∈ q_TT := q_tt 1270 (by decide +kernel) (by decide +kernel)
theorem t_1272 : ((Jvm.Cond.instanceMethod ({ cls := "BallotFruitModel", name := "types", desc := "(I)V" } : Jvm.MethodName)) : Cond) ∈ q_TT := q_tt 1272 (by decide +kernel) (by decide +kernel)
theorem t_1273 : ((Jvm.Cond.code ({ cls := "BallotFruitModel", name := "types", desc := "(I)V" } : Jvm.MethodName) prog_13_method_29_code (3 : Nat) (Option.none : Option Jvm.ClassFile.FieldType)) : Cond) ∈ q_TT := q_tc6 73 rfl rfl
theorem t_1274 : ((Jvm.Cond.methodLink "BallotFruitLaw" (63 : Nat) ({ cls := "BallotFruitModel", name := "end", desc := "(I)Z" } : Jvm.MethodName)) : Cond) ∈ q_TT := q_tt 1274 (by decide +kernel) (by decide +kernel)
theorem t_1275 : ((Jvm.Cond.instanceMethod ({ cls := "BallotFruitModel", name := "end", desc := "(I)Z" } : Jvm.MethodName)) : Cond) ∈ q_TT := q_tt 1275 (by decide +kernel) (by decide +kernel)
theorem t_1276 : ((Jvm.Cond.selects "BallotFruitModel" ({ cls := "BallotFruitModel", name := "end", desc := "(I)Z" } : Jvm.MethodName) ({ cls := "BallotFruitModel", name := "end", desc := "(I)Z" } : Jvm.MethodName)) : Cond) ∈ q_TT := q_tt 1276 (by decide +kernel) (by decide +kernel)
theorem t_1277 : ((Jvm.Cond.code ({ cls := "BallotFruitModel", name := "end", desc := "(I)Z" } : Jvm.MethodName) prog_13_method_31_code (2 : Nat) (Option.some Jvm.ClassFile.FieldType.boolean)) : Cond) ∈ q_TT := q_tc6 77 rfl rfl
theorem t_1278 : ((Jvm.Cond.methodLink "BallotFruitLaw" (67 : Nat) ({ cls := "BallotFruitModel", name := "text", desc := "(I)I" } : Jvm.MethodName)) : Cond) ∈ q_TT := q_tt 1278 (by decide +kernel) (by decide +kernel)
theorem t_1279 : ((Jvm.Cond.instanceMethod ({ cls := "BallotFruitModel", name := "text", desc := "(I)I" } : Jvm.MethodName)) : Cond) ∈ q_TT := q_tt 1279 (by decide +kernel) (by decide +kernel)
theorem t_1280 : ((Jvm.Cond.selects "BallotFruitModel" ({ cls := "BallotFruitModel", name := "text", desc := "(I)I" } : Jvm.MethodName) ({ cls := "BallotFruitModel", name := "text", desc := "(I)I" } : Jvm.MethodName)) : Cond) ∈ q_TT := q_tt 1280 (by decide +kernel) (by decide +kernel)
theorem t_1281 : ((Jvm.Cond.code ({ cls := "BallotFruitModel", name := "text", desc := "(I)I" } : Jvm.MethodName) prog_13_method_63_code (3 : Nat) (Option.some Jvm.ClassFile.FieldType.int)) : Cond) ∈ q_TT := q_tc6 81 rfl rfl
theorem t_1282 : ((Jvm.Cond.methodLink "BallotFruitModel" (288 : Nat) ({ cls := "BallotFruitModel", name := "readsText", desc := "(I)I" } : Jvm.MethodName)) : Cond) ∈ q_TT := q_tt 1282 (by decide +kernel) (by decide +kernel)
theorem t_1284 : ((Jvm.Cond.instanceMethod ({ cls := "BallotFruitModel", name := "readsText", desc := "(I)I" } : Jvm.MethodName)) : Cond) ∈ q_TT := q_tt 1284 (by decide +kernel) (by decide +kernel)
theorem t_1285 : ((Jvm.Cond.code ({ cls := "BallotFruitModel", name := "readsText", desc := "(I)I" } : Jvm.MethodName) prog_13_method_61_code (2 : Nat) (Option.some Jvm.ClassFile.FieldType.int)) : Cond) ∈ q_TT := q_tc6 85 rfl rfl
theorem t_1286 : ((Jvm.Cond.methodLink "BallotFruitModel" (208 : Nat) ({ cls := "BallotFruitModel", name := "reads", desc := "()V" } : Jvm.MethodName)) : Cond) ∈ q_TT := q_tt 1286 (by decide +kernel) (by decide +kernel)
theorem t_1288 : ((Jvm.Cond.instanceMethod ({ cls := "BallotFruitModel", name := "reads", desc := "()V" } : Jvm.MethodName)) : Cond) ∈ q_TT := q_tt 1288 (by decide +kernel) (by decide +kernel)
theorem t_1289 : ((Jvm.Cond.code ({ cls := "BallotFruitModel", name := "reads", desc := "()V" } : Jvm.MethodName) prog_13_method_37_code (2 : Nat) (Option.none : Option Jvm.ClassFile.FieldType)) : Cond) ∈ q_TT := q_tc6 89 rfl rfl
theorem t_1290 : ((Jvm.Cond.methodLink "BallotFruitModel" (163 : Nat) ({ cls := "BallotFruitModel", name := "raw", desc := "(I)I" } : Jvm.MethodName)) : Cond) ∈ q_TT := q_tt 1290 (by decide +kernel) (by decide +kernel)
theorem t_1292 : ((Jvm.Cond.instanceMethod ({ cls := "BallotFruitModel", name := "raw", desc := "(I)I" } : Jvm.MethodName)) : Cond) ∈ q_TT := q_tt 1292 (by decide +kernel) (by decide +kernel)
theorem t_1293 : ((Jvm.Cond.code ({ cls := "BallotFruitModel", name := "raw", desc := "(I)I" } : Jvm.MethodName) prog_13_method_32_code (2 : Nat) (Option.some Jvm.ClassFile.FieldType.int)) : Cond) ∈ q_TT := q_tc6 93 rfl rfl
theorem t_1294 : ((Jvm.Cond.methodLink "BallotFruitModel" (176 : Nat) ({ cls := "BallotFruitModel", name := "isLetter", desc := "(I)Z" } : Jvm.MethodName)) : Cond) ∈ q_TT := q_tt 1294 (by decide +kernel) (by decide +kernel)
theorem t_1296 : ((Jvm.Cond.instanceMethod ({ cls := "BallotFruitModel", name := "isLetter", desc := "(I)Z" } : Jvm.MethodName)) : Cond) ∈ q_TT := q_tt 1296 (by decide +kernel) (by decide +kernel)
theorem t_1297 : ((Jvm.Cond.code ({ cls := "BallotFruitModel", name := "isLetter", desc := "(I)Z" } : Jvm.MethodName) prog_13_method_33_code (2 : Nat) (Option.some Jvm.ClassFile.FieldType.boolean)) : Cond) ∈ q_TT := q_tc6 97 rfl rfl
theorem t_1298 : ((Jvm.Cond.methodLink "BallotFruitModel" (179 : Nat) ({ cls := "BallotFruitModel", name := "wordAt", desc := "(II)I" } : Jvm.MethodName)) : Cond) ∈ q_TT := q_tt 1298 (by decide +kernel) (by decide +kernel)
theorem t_1300 : ((Jvm.Cond.instanceMethod ({ cls := "BallotFruitModel", name := "wordAt", desc := "(II)I" } : Jvm.MethodName)) : Cond) ∈ q_TT := q_tt 1300 (by decide +kernel) (by decide +kernel)
theorem t_1301 : ((Jvm.Cond.code ({ cls := "BallotFruitModel", name := "wordAt", desc := "(II)I" } : Jvm.MethodName) prog_13_method_36_code (6 : Nat) (Option.some Jvm.ClassFile.FieldType.int)) : Cond) ∈ q_TT := q_tc6 101 rfl rfl
theorem t_1302 : ((Jvm.Cond.methodLink "BallotFruitModel" (183 : Nat) ({ cls := "BallotFruitModel", name := "isDigit", desc := "(I)Z" } : Jvm.MethodName)) : Cond) ∈ q_TT := q_tt 1302 (by decide +kernel) (by decide +kernel)
theorem t_1304 : ((Jvm.Cond.instanceMethod ({ cls := "BallotFruitModel", name := "isDigit", desc := "(I)Z" } : Jvm.MethodName)) : Cond) ∈ q_TT := q_tt 1304 (by decide +kernel) (by decide +kernel)
theorem t_1305 : ((Jvm.Cond.code ({ cls := "BallotFruitModel", name := "isDigit", desc := "(I)Z" } : Jvm.MethodName) prog_13_method_34_code (2 : Nat) (Option.some Jvm.ClassFile.FieldType.boolean)) : Cond) ∈ q_TT := q_tc6 105 rfl rfl
theorem t_1306 : ((Jvm.Cond.methodLink "BallotFruitModel" (186 : Nat) ({ cls := "BallotFruitModel", name := "isMarkSign", desc := "(I)Z" } : Jvm.MethodName)) : Cond) ∈ q_TT := q_tt 1306 (by decide +kernel) (by decide +kernel)
theorem t_1308 : ((Jvm.Cond.instanceMethod ({ cls := "BallotFruitModel", name := "isMarkSign", desc := "(I)Z" } : Jvm.MethodName)) : Cond) ∈ q_TT := q_tt 1308 (by decide +kernel) (by decide +kernel)
theorem t_1309 : ((Jvm.Cond.code ({ cls := "BallotFruitModel", name := "isMarkSign", desc := "(I)Z" } : Jvm.MethodName) prog_13_method_35_code (2 : Nat) (Option.some Jvm.ClassFile.FieldType.boolean)) : Cond) ∈ q_TT := q_tc6 109 rfl rfl
theorem t_1310 : ((Jvm.Cond.methodLink "BallotFruitModel" (270 : Nat) ({ cls := "BallotFruitModel", name := "readPaths", desc := "()I" } : Jvm.MethodName)) : Cond) ∈ q_TT := q_tt 1310 (by decide +kernel) (by decide +kernel)
theorem t_1312 : ((Jvm.Cond.instanceMethod ({ cls := "BallotFruitModel", name := "readPaths", desc := "()I" } : Jvm.MethodName)) : Cond) ∈ q_TT := q_tt 1312 (by decide +kernel) (by decide +kernel)
theorem t_1313 : ((Jvm.Cond.code ({ cls := "BallotFruitModel", name := "readPaths", desc := "()I" } : Jvm.MethodName) prog_13_method_57_code (2 : Nat) (Option.some Jvm.ClassFile.FieldType.int)) : Cond) ∈ q_TT := q_tc6 113 rfl rfl
theorem t_1314 : ((Jvm.Cond.methodLink "BallotFruitModel" (230 : Nat) ({ cls := "BallotFruitModel", name := "isWord", desc := "(I)Z" } : Jvm.MethodName)) : Cond) ∈ q_TT := q_tt 1314 (by decide +kernel) (by decide +kernel)
theorem t_1316 : ((Jvm.Cond.instanceMethod ({ cls := "BallotFruitModel", name := "isWord", desc := "(I)Z" } : Jvm.MethodName)) : Cond) ∈ q_TT := q_tt 1316 (by decide +kernel) (by decide +kernel)
theorem t_1317 : ((Jvm.Cond.code ({ cls := "BallotFruitModel", name := "isWord", desc := "(I)Z" } : Jvm.MethodName) prog_13_method_39_code (2 : Nat) (Option.some Jvm.ClassFile.FieldType.boolean)) : Cond) ∈ q_TT := q_tc6 117 rfl rfl
theorem t_1318 : ((Jvm.Cond.methodLink "BallotFruitModel" (201 : Nat) ({ cls := "BallotFruitModel", name := "errs", desc := "(I)I" } : Jvm.MethodName)) : Cond) ∈ q_TT := q_tt 1318 (by decide +kernel) (by decide +kernel)
theorem t_1320 : ((Jvm.Cond.instanceMethod ({ cls := "BallotFruitModel", name := "errs", desc := "(I)I" } : Jvm.MethodName)) : Cond) ∈ q_TT := q_tt 1320 (by decide +kernel) (by decide +kernel)
theorem t_1321 : ((Jvm.Cond.code ({ cls := "BallotFruitModel", name := "errs", desc := "(I)I" } : Jvm.MethodName) prog_13_method_38_code (2 : Nat) (Option.some Jvm.ClassFile.FieldType.int)) : Cond) ∈ q_TT := q_tc6 121 rfl rfl
theorem t_1322 : ((Jvm.Cond.methodLink "BallotFruitModel" (261 : Nat) ({ cls := "BallotFruitModel", name := "readPath", desc := "()I" } : Jvm.MethodName)) : Cond) ∈ q_TT := q_tt 1322 (by decide +kernel) (by decide +kernel)
theorem t_1324 : ((Jvm.Cond.instanceMethod ({ cls := "BallotFruitModel", name := "readPath", desc := "()I" } : Jvm.MethodName)) : Cond) ∈ q_TT := q_tt 1324 (by decide +kernel) (by decide +kernel)
theorem t_1325 : ((Jvm.Cond.code ({ cls := "BallotFruitModel", name := "readPath", desc := "()I" } : Jvm.MethodName) prog_13_method_56_code (4 : Nat) (Option.some Jvm.ClassFile.FieldType.int)) : Cond) ∈ q_TT := q_tc6 125 rfl rfl
theorem t_1326 : ((Jvm.Cond.methodLink "BallotFruitModel" (255 : Nat) ({ cls := "BallotFruitModel", name := "readTold", desc := "(III)I" } : Jvm.MethodName)) : Cond) ∈ q_TT := q_tt 1326 (by decide +kernel) (by decide +kernel)
theorem t_1328 : ((Jvm.Cond.instanceMethod ({ cls := "BallotFruitModel", name := "readTold", desc := "(III)I" } : Jvm.MethodName)) : Cond) ∈ q_TT := q_tt 1328 (by decide +kernel) (by decide +kernel)
theorem t_1329 : ((Jvm.Cond.code ({ cls := "BallotFruitModel", name := "readTold", desc := "(III)I" } : Jvm.MethodName) prog_13_method_55_code (4 : Nat) (Option.some Jvm.ClassFile.FieldType.int)) : Cond) ∈ q_TT := q_tc6 129 rfl rfl
theorem t_1330 : ((Jvm.Cond.methodLink "BallotFruitModel" (252 : Nat) ({ cls := "BallotFruitModel", name := "readNumber", desc := "(II)I" } : Jvm.MethodName)) : Cond) ∈ q_TT := q_tt 1330 (by decide +kernel) (by decide +kernel)
theorem t_1332 : ((Jvm.Cond.instanceMethod ({ cls := "BallotFruitModel", name := "readNumber", desc := "(II)I" } : Jvm.MethodName)) : Cond) ∈ q_TT := q_tt 1332 (by decide +kernel) (by decide +kernel)
theorem t_1333 : ((Jvm.Cond.code ({ cls := "BallotFruitModel", name := "readNumber", desc := "(II)I" } : Jvm.MethodName) prog_13_method_53_code (4 : Nat) (Option.some Jvm.ClassFile.FieldType.int)) : Cond) ∈ q_TT := q_tc6 133 rfl rfl
theorem t_1334 : ((Jvm.Cond.methodLink "BallotFruitModel" (258 : Nat) ({ cls := "BallotFruitModel", name := "readMark", desc := "(I)I" } : Jvm.MethodName)) : Cond) ∈ q_TT := q_tt 1334 (by decide +kernel) (by decide +kernel)
theorem t_1336 : ((Jvm.Cond.instanceMethod ({ cls := "BallotFruitModel", name := "readMark", desc := "(I)I" } : Jvm.MethodName)) : Cond) ∈ q_TT := q_tt 1336 (by decide +kernel) (by decide +kernel)
theorem t_1337 : ((Jvm.Cond.code ({ cls := "BallotFruitModel", name := "readMark", desc := "(I)I" } : Jvm.MethodName) prog_13_method_54_code (2 : Nat) (Option.some Jvm.ClassFile.FieldType.int)) : Cond) ∈ q_TT := q_tc6 137 rfl rfl
theorem t_1338 : ((Jvm.Cond.methodLink "BallotFruitModel" (215 : Nat) ({ cls := "BallotFruitModel", name := "isSign", desc := "(I)Z" } : Jvm.MethodName)) : Cond) ∈ q_TT := q_tt 1338 (by decide +kernel) (by decide +kernel)
theorem t_1340 : ((Jvm.Cond.instanceMethod ({ cls := "BallotFruitModel", name := "isSign", desc := "(I)Z" } : Jvm.MethodName)) : Cond) ∈ q_TT := q_tt 1340 (by decide +kernel) (by decide +kernel)
theorem t_1341 : ((Jvm.Cond.code ({ cls := "BallotFruitModel", name := "isSign", desc := "(I)Z" } : Jvm.MethodName) prog_13_method_40_code (2 : Nat) (Option.some Jvm.ClassFile.FieldType.boolean)) : Cond) ∈ q_TT := q_tc6 141 rfl rfl
theorem t_1342 : ((Jvm.Cond.methodLink "BallotFruitModel" (273 : Nat) ({ cls := "BallotFruitModel", name := "readPlan", desc := "()I" } : Jvm.MethodName)) : Cond) ∈ q_TT := q_tt 1342 (by decide +kernel) (by decide +kernel)
theorem t_1344 : ((Jvm.Cond.instanceMethod ({ cls := "BallotFruitModel", name := "readPlan", desc := "()I" } : Jvm.MethodName)) : Cond) ∈ q_TT := q_tt 1344 (by decide +kernel) (by decide +kernel)
theorem t_1345 : ((Jvm.Cond.code ({ cls := "BallotFruitModel", name := "readPlan", desc := "()I" } : Jvm.MethodName) prog_13_method_60_code (2 : Nat) (Option.some Jvm.ClassFile.FieldType.int)) : Cond) ∈ q_TT := q_tc6 145 rfl rfl
theorem t_1346 : ((Jvm.Cond.methodLink "BallotFruitModel" (267 : Nat) ({ cls := "BallotFruitModel", name := "readPlanLine", desc := "(I)I" } : Jvm.MethodName)) : Cond) ∈ q_TT := q_tt 1346 (by decide +kernel) (by decide +kernel)
theorem t_1348 : ((Jvm.Cond.instanceMethod ({ cls := "BallotFruitModel", name := "readPlanLine", desc := "(I)I" } : Jvm.MethodName)) : Cond) ∈ q_TT := q_tt 1348 (by decide +kernel) (by decide +kernel)
theorem t_1349 : ((Jvm.Cond.code ({ cls := "BallotFruitModel", name := "readPlanLine", desc := "(I)I" } : Jvm.MethodName) prog_13_method_59_code (3 : Nat) (Option.some Jvm.ClassFile.FieldType.int)) : Cond) ∈ q_TT := q_tc6 149 rfl rfl
theorem t_1350 : ((Jvm.Cond.methodLink "BallotFruitModel" (264 : Nat) ({ cls := "BallotFruitModel", name := "readDeed", desc := "(II)I" } : Jvm.MethodName)) : Cond) ∈ q_TT := q_tt 1350 (by decide +kernel) (by decide +kernel)
theorem t_1352 : ((Jvm.Cond.instanceMethod ({ cls := "BallotFruitModel", name := "readDeed", desc := "(II)I" } : Jvm.MethodName)) : Cond) ∈ q_TT := q_tt 1352 (by decide +kernel) (by decide +kernel)
theorem t_1353 : ((Jvm.Cond.code ({ cls := "BallotFruitModel", name := "readDeed", desc := "(II)I" } : Jvm.MethodName) prog_13_method_58_code (3 : Nat) (Option.some Jvm.ClassFile.FieldType.int)) : Cond) ∈ q_TT := q_tc6 153 rfl rfl
theorem t_1354 : ((Jvm.Cond.methodLink "BallotFruitModel" (276 : Nat) ({ cls := "BallotFruitModel", name := "readLaw", desc := "()I" } : Jvm.MethodName)) : Cond) ∈ q_TT := q_tt 1354 (by decide +kernel) (by decide +kernel)
theorem t_1356 : ((Jvm.Cond.instanceMethod ({ cls := "BallotFruitModel", name := "readLaw", desc := "()I" } : Jvm.MethodName)) : Cond) ∈ q_TT := q_tt 1356 (by decide +kernel) (by decide +kernel)
theorem t_1357 : ((Jvm.Cond.code ({ cls := "BallotFruitModel", name := "readLaw", desc := "()I" } : Jvm.MethodName) prog_13_method_51_code (3 : Nat) (Option.some Jvm.ClassFile.FieldType.int)) : Cond) ∈ q_TT := q_tc6 157 rfl rfl
theorem t_1358 : ((Jvm.Cond.methodLink "BallotFruitModel" (242 : Nat) ({ cls := "BallotFruitModel", name := "isLineWord", desc := "()Z" } : Jvm.MethodName)) : Cond) ∈ q_TT := q_tt 1358 (by decide +kernel) (by decide +kernel)
theorem t_1360 : ((Jvm.Cond.instanceMethod ({ cls := "BallotFruitModel", name := "isLineWord", desc := "()Z" } : Jvm.MethodName)) : Cond) ∈ q_TT := q_tt 1360 (by decide +kernel) (by decide +kernel)
theorem t_1361 : ((Jvm.Cond.code ({ cls := "BallotFruitModel", name := "isLineWord", desc := "()Z" } : Jvm.MethodName) prog_13_method_50_code (1 : Nat) (Option.some Jvm.ClassFile.FieldType.boolean)) : Cond) ∈ q_TT := q_tc6 161 rfl rfl
theorem t_1362 : ((Jvm.Cond.methodLink "BallotFruitModel" (221 : Nat) ({ cls := "BallotFruitModel", name := "readSum", desc := "()I" } : Jvm.MethodName)) : Cond) ∈ q_TT := q_tt 1362 (by decide +kernel) (by decide +kernel)
theorem t_1364 : ((Jvm.Cond.instanceMethod ({ cls := "BallotFruitModel", name := "readSum", desc := "()I" } : Jvm.MethodName)) : Cond) ∈ q_TT := q_tt 1364 (by decide +kernel) (by decide +kernel)
theorem t_1365 : ((Jvm.Cond.code ({ cls := "BallotFruitModel", name := "readSum", desc := "()I" } : Jvm.MethodName) prog_13_method_45_code (2 : Nat) (Option.some Jvm.ClassFile.FieldType.int)) : Cond) ∈ q_TT := q_tc6 165 rfl rfl
theorem t_1366 : ((Jvm.Cond.methodLink "BallotFruitModel" (218 : Nat) ({ cls := "BallotFruitModel", name := "readProduct", desc := "()I" } : Jvm.MethodName)) : Cond) ∈ q_TT := q_tt 1366 (by decide +kernel) (by decide +kernel)
theorem t_1368 : ((Jvm.Cond.instanceMethod ({ cls := "BallotFruitModel", name := "readProduct", desc := "()I" } : Jvm.MethodName)) : Cond) ∈ q_TT := q_tt 1368 (by decide +kernel) (by decide +kernel)
theorem t_1369 : ((Jvm.Cond.code ({ cls := "BallotFruitModel", name := "readProduct", desc := "()I" } : Jvm.MethodName) prog_13_method_44_code (2 : Nat) (Option.some Jvm.ClassFile.FieldType.int)) : Cond) ∈ q_TT := q_tc6 169 rfl rfl
theorem t_1370 : ((Jvm.Cond.methodLink "BallotFruitModel" (211 : Nat) ({ cls := "BallotFruitModel", name := "readUnit", desc := "()I" } : Jvm.MethodName)) : Cond) ∈ q_TT := q_tt 1370 (by decide +kernel) (by decide +kernel)
theorem t_1372 : ((Jvm.Cond.instanceMethod ({ cls := "BallotFruitModel", name := "readUnit", desc := "()I" } : Jvm.MethodName)) : Cond) ∈ q_TT := q_tt 1372 (by decide +kernel) (by decide +kernel)
theorem t_1373 : ((Jvm.Cond.code ({ cls := "BallotFruitModel", name := "readUnit", desc := "()I" } : Jvm.MethodName) prog_13_method_43_code (2 : Nat) (Option.some Jvm.ClassFile.FieldType.int)) : Cond) ∈ q_TT := q_tc6 173 rfl rfl
theorem t_1374 : ((Jvm.Cond.methodLink "BallotFruitModel" (198 : Nat) ({ cls := "BallotFruitModel", name := "canAsk", desc := "(I)Z" } : Jvm.MethodName)) : Cond) ∈ q_TT := q_tt 1374 (by decide +kernel) (by decide +kernel)
theorem t_1376 : ((Jvm.Cond.instanceMethod ({ cls := "BallotFruitModel", name := "canAsk", desc := "(I)Z" } : Jvm.MethodName)) : Cond) ∈ q_TT := q_tt 1376 (by decide +kernel) (by decide +kernel)
theorem t_1377 : ((Jvm.Cond.code ({ cls := "BallotFruitModel", name := "canAsk", desc := "(I)Z" } : Jvm.MethodName) prog_13_method_42_code (2 : Nat) (Option.some Jvm.ClassFile.FieldType.boolean)) : Cond) ∈ q_TT := q_tc6 177 rfl rfl
theorem t_1378 : ((Jvm.Cond.methodLink "BallotFruitModel" (204 : Nat) ({ cls := "BallotFruitModel", name := "emits", desc := "(II)V" } : Jvm.MethodName)) : Cond) ∈ q_TT := q_tt 1378 (by decide +kernel) (by decide +kernel)
theorem t_1380 : ((Jvm.Cond.instanceMethod ({ cls := "BallotFruitModel", name := "emits", desc := "(II)V" } : Jvm.MethodName)) : Cond) ∈ q_TT := q_tt 1380 (by decide +kernel) (by decide +kernel)
theorem t_1381 : ((Jvm.Cond.code ({ cls := "BallotFruitModel", name := "emits", desc := "(II)V" } : Jvm.MethodName) prog_13_method_41_code (3 : Nat) (Option.none : Option Jvm.ClassFile.FieldType)) : Cond) ∈ q_TT := q_tc6 181 rfl rfl
theorem t_1382 : ((Jvm.Cond.methodLink "BallotFruitModel" (246 : Nat) ({ cls := "BallotFruitModel", name := "readAny", desc := "()I" } : Jvm.MethodName)) : Cond) ∈ q_TT := q_tt 1382 (by decide +kernel) (by decide +kernel)
theorem t_1384 : ((Jvm.Cond.instanceMethod ({ cls := "BallotFruitModel", name := "readAny", desc := "()I" } : Jvm.MethodName)) : Cond) ∈ q_TT := q_tt 1384 (by decide +kernel) (by decide +kernel)
theorem t_1385 : ((Jvm.Cond.code ({ cls := "BallotFruitModel", name := "readAny", desc := "()I" } : Jvm.MethodName) prog_13_method_49_code (4 : Nat) (Option.some Jvm.ClassFile.FieldType.int)) : Cond) ∈ q_TT := q_tc6 185 rfl rfl
theorem t_1386 : ((Jvm.Cond.methodLink "BallotFruitModel" (233 : Nat) ({ cls := "BallotFruitModel", name := "waits", desc := "(I)V" } : Jvm.MethodName)) : Cond) ∈ q_TT := q_tt 1386 (by decide +kernel) (by decide +kernel)
theorem t_1388 : ((Jvm.Cond.instanceMethod ({ cls := "BallotFruitModel", name := "waits", desc := "(I)V" } : Jvm.MethodName)) : Cond) ∈ q_TT := q_tt 1388 (by decide +kernel) (by decide +kernel)
theorem t_1389 : ((Jvm.Cond.code ({ cls := "BallotFruitModel", name := "waits", desc := "(I)V" } : Jvm.MethodName) prog_13_method_47_code (2 : Nat) (Option.none : Option Jvm.ClassFile.FieldType)) : Cond) ∈ q_TT := q_tc6 189 rfl rfl
theorem t_1390 : ((Jvm.Cond.methodLink "BallotFruitModel" (236 : Nat) ({ cls := "BallotFruitModel", name := "readCompared", desc := "()I" } : Jvm.MethodName)) : Cond) ∈ q_TT := q_tt 1390 (by decide +kernel) (by decide +kernel)
theorem t_1392 : ((Jvm.Cond.instanceMethod ({ cls := "BallotFruitModel", name := "readCompared", desc := "()I" } : Jvm.MethodName)) : Cond) ∈ q_TT := q_tt 1392 (by decide +kernel) (by decide +kernel)
theorem t_1393 : ((Jvm.Cond.code ({ cls := "BallotFruitModel", name := "readCompared", desc := "()I" } : Jvm.MethodName) prog_13_method_46_code (2 : Nat) (Option.some Jvm.ClassFile.FieldType.int)) : Cond) ∈ q_TT := q_tc6 193 rfl rfl
theorem t_1394 : ((Jvm.Cond.methodLink "BallotFruitModel" (239 : Nat) ({ cls := "BallotFruitModel", name := "settles", desc := "(I)V" } : Jvm.MethodName)) : Cond) ∈ q_TT := q_tt 1394 (by decide +kernel) (by decide +kernel)
theorem t_1396 : ((Jvm.Cond.instanceMethod ({ cls := "BallotFruitModel", name := "settles", desc := "(I)V" } : Jvm.MethodName)) : Cond) ∈ q_TT := q_tt 1396 (by decide +kernel) (by decide +kernel)
theorem t_1397 : ((Jvm.Cond.code ({ cls := "BallotFruitModel", name := "settles", desc := "(I)V" } : Jvm.MethodName) prog_13_method_48_code (2 : Nat) (Option.none : Option Jvm.ClassFile.FieldType)) : Cond) ∈ q_TT := q_tc6 197 rfl rfl
theorem t_1398 : ((Jvm.Cond.methodLink "BallotFruitModel" (291 : Nat) ({ cls := "BallotFruitModel", name := "takesLaw", desc := "(I)V" } : Jvm.MethodName)) : Cond) ∈ q_TT := q_tt 1398 (by decide +kernel) (by decide +kernel)
theorem t_1400 : ((Jvm.Cond.instanceMethod ({ cls := "BallotFruitModel", name := "takesLaw", desc := "(I)V" } : Jvm.MethodName)) : Cond) ∈ q_TT := q_tt 1400 (by decide +kernel) (by decide +kernel)
theorem t_1401 : ((Jvm.Cond.code ({ cls := "BallotFruitModel", name := "takesLaw", desc := "(I)V" } : Jvm.MethodName) prog_13_method_52_code (3 : Nat) (Option.none : Option Jvm.ClassFile.FieldType)) : Cond) ∈ q_TT := q_tc6 201 rfl rfl
theorem t_1402 : ((Jvm.Cond.methodLink "BallotFruitModel" (294 : Nat) ({ cls := "BallotFruitModel", name := "takesOther", desc := "(II)V" } : Jvm.MethodName)) : Cond) ∈ q_TT := q_tt 1402 (by decide +kernel) (by decide +kernel)
theorem t_1404 : ((Jvm.Cond.instanceMethod ({ cls := "BallotFruitModel", name := "takesOther", desc := "(II)V" } : Jvm.MethodName)) : Cond) ∈ q_TT := q_tt 1404 (by decide +kernel) (by decide +kernel)
theorem t_1405 : ((Jvm.Cond.code ({ cls := "BallotFruitModel", name := "takesOther", desc := "(II)V" } : Jvm.MethodName) prog_13_method_62_code (4 : Nat) (Option.none : Option Jvm.ClassFile.FieldType)) : Cond) ∈ q_TT := q_tc6 205 rfl rfl
theorem t_1406 : ((Jvm.Cond.methodLink "BallotFruitLaw" (71 : Nat) ({ cls := "BallotFruitModel", name := "fault", desc := "(I)I" } : Jvm.MethodName)) : Cond) ∈ q_TT := q_tt 1406 (by decide +kernel) (by decide +kernel)
theorem t_1407 : ((Jvm.Cond.instanceMethod ({ cls := "BallotFruitModel", name := "fault", desc := "(I)I" } : Jvm.MethodName)) : Cond) ∈ q_TT := q_tt 1407 (by decide +kernel) (by decide +kernel)
theorem t_1408 : ((Jvm.Cond.selects "BallotFruitModel" ({ cls := "BallotFruitModel", name := "fault", desc := "(I)I" } : Jvm.MethodName) ({ cls := "BallotFruitModel", name := "fault", desc := "(I)I" } : Jvm.MethodName)) : Cond) ∈ q_TT := q_tt 1408 (by decide +kernel) (by decide +kernel)
theorem t_1409 : ((Jvm.Cond.code ({ cls := "BallotFruitModel", name := "fault", desc := "(I)I" } : Jvm.MethodName) prog_13_method_64_code (2 : Nat) (Option.some Jvm.ClassFile.FieldType.int)) : Cond) ∈ q_TT := q_tc6 209 rfl rfl
theorem t_1410 : ((Jvm.Cond.methodLink "BallotFruitLaw" (39 : Nat) ({ cls := "BallotFruitModel", name := "plant", desc := "(III)I" } : Jvm.MethodName)) : Cond) ∈ q_TT := q_tt 1410 (by decide +kernel) (by decide +kernel)
theorem t_1411 : ((Jvm.Cond.instanceMethod ({ cls := "BallotFruitModel", name := "plant", desc := "(III)I" } : Jvm.MethodName)) : Cond) ∈ q_TT := q_tt 1411 (by decide +kernel) (by decide +kernel)
theorem t_1412 : ((Jvm.Cond.selects "BallotFruitModel" ({ cls := "BallotFruitModel", name := "plant", desc := "(III)I" } : Jvm.MethodName) ({ cls := "BallotFruitModel", name := "plant", desc := "(III)I" } : Jvm.MethodName)) : Cond) ∈ q_TT := q_tt 1412 (by decide +kernel) (by decide +kernel)
theorem t_1413 : ((Jvm.Cond.code ({ cls := "BallotFruitModel", name := "plant", desc := "(III)I" } : Jvm.MethodName) prog_13_method_78_code (4 : Nat) (Option.some Jvm.ClassFile.FieldType.int)) : Cond) ∈ q_TT := q_tc6 213 rfl rfl
theorem t_1414 : ((Jvm.Cond.methodLink "BallotFruitModel" (326 : Nat) ({ cls := "BallotFruitModel", name := "isPlace", desc := "(I)Z" } : Jvm.MethodName)) : Cond) ∈ q_TT := q_tt 1414 (by decide +kernel) (by decide +kernel)
theorem t_1416 : ((Jvm.Cond.instanceMethod ({ cls := "BallotFruitModel", name := "isPlace", desc := "(I)Z" } : Jvm.MethodName)) : Cond) ∈ q_TT := q_tt 1416 (by decide +kernel) (by decide +kernel)
theorem t_1417 : ((Jvm.Cond.code ({ cls := "BallotFruitModel", name := "isPlace", desc := "(I)Z" } : Jvm.MethodName) prog_13_method_20_code (2 : Nat) (Option.some Jvm.ClassFile.FieldType.boolean)) : Cond) ∈ q_TT := q_tc6 217 rfl rfl
theorem t_1418 : ((Jvm.Cond.methodLink "BallotFruitModel" (329 : Nat) ({ cls := "BallotFruitModel", name := "keepsAhead", desc := "()V" } : Jvm.MethodName)) : Cond) ∈ q_TT := q_tt 1418 (by decide +kernel) (by decide +kernel)
theorem t_1420 : ((Jvm.Cond.instanceMethod ({ cls := "BallotFruitModel", name := "keepsAhead", desc := "()V" } : Jvm.MethodName)) : Cond) ∈ q_TT := q_tt 1420 (by decide +kernel) (by decide +kernel)
theorem t_1421 : ((Jvm.Cond.code ({ cls := "BallotFruitModel", name := "keepsAhead", desc := "()V" } : Jvm.MethodName) prog_13_method_9_code (2 : Nat) (Option.none : Option Jvm.ClassFile.FieldType)) : Cond) ∈ q_TT := q_tc6 221 rfl rfl
theorem t_1422 : ((Jvm.Cond.methodLink "BallotFruitModel" (332 : Nat) ({ cls := "BallotFruitModel", name := "plants", desc := "(III)I" } : Jvm.MethodName)) : Cond) ∈ q_TT := q_tt 1422 (by decide +kernel) (by decide +kernel)
theorem t_1424 : ((Jvm.Cond.instanceMethod ({ cls := "BallotFruitModel", name := "plants", desc := "(III)I" } : Jvm.MethodName)) : Cond) ∈ q_TT := q_tt 1424 (by decide +kernel) (by decide +kernel)
theorem t_1425 : ((Jvm.Cond.code ({ cls := "BallotFruitModel", name := "plants", desc := "(III)I" } : Jvm.MethodName) prog_13_method_74_code (5 : Nat) (Option.some Jvm.ClassFile.FieldType.int)) : Cond) ∈ q_TT := q_tc6 225 rfl rfl
theorem t_1426 : ((Jvm.Cond.methodLink "BallotFruitModel" (316 : Nat) ({ cls := "BallotFruitModel", name := "notes", desc := "(III)V" } : Jvm.MethodName)) : Cond) ∈ q_TT := q_tt 1426 (by decide +kernel) (by decide +kernel)
theorem t_1428 : ((Jvm.Cond.instanceMethod ({ cls := "BallotFruitModel", name := "notes", desc := "(III)V" } : Jvm.MethodName)) : Cond) ∈ q_TT := q_tt 1428 (by decide +kernel) (by decide +kernel)
theorem t_1429 : ((Jvm.Cond.code ({ cls := "BallotFruitModel", name := "notes", desc := "(III)V" } : Jvm.MethodName) prog_13_method_73_code (5 : Nat) (Option.none : Option Jvm.ClassFile.FieldType)) : Cond) ∈ q_TT := q_tc6 229 rfl rfl
theorem t_1430 : ((Jvm.Cond.methodLink "BallotFruitLaw" (44 : Nat) ({ cls := "BallotFruitModel", name := "fence", desc := "(IZ)Z" } : Jvm.MethodName)) : Cond) ∈ q_TT := q_tt 1430 (by decide +kernel) (by decide +kernel)
theorem t_1431 : ((Jvm.Cond.instanceMethod ({ cls := "BallotFruitModel", name := "fence", desc := "(IZ)Z" } : Jvm.MethodName)) : Cond) ∈ q_TT := q_tt 1431 (by decide +kernel) (by decide +kernel)
theorem t_1432 : ((Jvm.Cond.selects "BallotFruitModel" ({ cls := "BallotFruitModel", name := "fence", desc := "(IZ)Z" } : Jvm.MethodName) ({ cls := "BallotFruitModel", name := "fence", desc := "(IZ)Z" } : Jvm.MethodName)) : Cond) ∈ q_TT := q_tt 1432 (by decide +kernel) (by decide +kernel)
theorem t_1433 : ((Jvm.Cond.code ({ cls := "BallotFruitModel", name := "fence", desc := "(IZ)Z" } : Jvm.MethodName) prog_13_method_79_code (3 : Nat) (Option.some Jvm.ClassFile.FieldType.boolean)) : Cond) ∈ q_TT := q_tc6 233 rfl rfl
theorem t_1434 : ((Jvm.Cond.methodLink "BallotFruitModel" (335 : Nat) ({ cls := "BallotFruitModel", name := "isFenced", desc := "(I)Z" } : Jvm.MethodName)) : Cond) ∈ q_TT := q_tt 1434 (by decide +kernel) (by decide +kernel)
theorem t_1436 : ((Jvm.Cond.instanceMethod ({ cls := "BallotFruitModel", name := "isFenced", desc := "(I)Z" } : Jvm.MethodName)) : Cond) ∈ q_TT := q_tt 1436 (by decide +kernel) (by decide +kernel)
theorem t_1437 : ((Jvm.Cond.code ({ cls := "BallotFruitModel", name := "isFenced", desc := "(I)Z" } : Jvm.MethodName) prog_13_method_75_code (2 : Nat) (Option.some Jvm.ClassFile.FieldType.boolean)) : Cond) ∈ q_TT := q_tc6 237 rfl rfl
theorem t_1438 : ((Jvm.Cond.methodLink "BallotFruitModel" (319 : Nat) ({ cls := "BallotFruitModel", name := "has", desc := "(II)Z" } : Jvm.MethodName)) : Cond) ∈ q_TT := q_tt 1438 (by decide +kernel) (by decide +kernel)
theorem t_1440 : ((Jvm.Cond.instanceMethod ({ cls := "BallotFruitModel", name := "has", desc := "(II)Z" } : Jvm.MethodName)) : Cond) ∈ q_TT := q_tt 1440 (by decide +kernel) (by decide +kernel)
theorem t_1441 : ((Jvm.Cond.code ({ cls := "BallotFruitModel", name := "has", desc := "(II)Z" } : Jvm.MethodName) prog_13_method_8_code (3 : Nat) (Option.some Jvm.ClassFile.FieldType.boolean)) : Cond) ∈ q_TT := q_tc7 1 rfl rfl
theorem t_1442 : ((Jvm.Cond.methodLink "BallotFruitModel" (338 : Nat) ({ cls := "BallotFruitModel", name := "fences", desc := "(IZ)V" } : Jvm.MethodName)) : Cond) ∈ q_TT := q_tt 1442 (by decide +kernel) (by decide +kernel)
theorem t_1444 : ((Jvm.Cond.instanceMethod ({ cls := "BallotFruitModel", name := "fences", desc := "(IZ)V" } : Jvm.MethodName)) : Cond) ∈ q_TT := q_tt 1444 (by decide +kernel) (by decide +kernel)
theorem t_1445 : ((Jvm.Cond.code ({ cls := "BallotFruitModel", name := "fences", desc := "(IZ)V" } : Jvm.MethodName) prog_13_method_76_code (3 : Nat) (Option.none : Option Jvm.ClassFile.FieldType)) : Cond) ∈ q_TT := q_tc7 5 rfl rfl
theorem t_1446 : ((Jvm.Cond.methodLink "BallotFruitLaw" (49 : Nat) ({ cls := "BallotFruitModel", name := "boil", desc := "(II)I" } : Jvm.MethodName)) : Cond) ∈ q_TT := q_tt 1446 (by decide +kernel) (by decide +kernel)
theorem t_1447 : ((Jvm.Cond.instanceMethod ({ cls := "BallotFruitModel", name := "boil", desc := "(II)I" } : Jvm.MethodName)) : Cond) ∈ q_TT := q_tt 1447 (by decide +kernel) (by decide +kernel)
theorem t_1448 : ((Jvm.Cond.selects "BallotFruitModel" ({ cls := "BallotFruitModel", name := "boil", desc := "(II)I" } : Jvm.MethodName) ({ cls := "BallotFruitModel", name := "boil", desc := "(II)I" } : Jvm.MethodName)) : Cond) ∈ q_TT := q_tt 1448 (by decide +kernel) (by decide +kernel)
theorem t_1449 : ((Jvm.Cond.code ({ cls := "BallotFruitModel", name := "boil", desc := "(II)I" } : Jvm.MethodName) prog_13_method_80_code (3 : Nat) (Option.some Jvm.ClassFile.FieldType.int)) : Cond) ∈ q_TT := q_tc7 9 rfl rfl
theorem t_1450 : ((Jvm.Cond.methodLink "BallotFruitModel" (342 : Nat) ({ cls := "BallotFruitModel", name := "boils", desc := "(II)I" } : Jvm.MethodName)) : Cond) ∈ q_TT := q_tt 1450 (by decide +kernel) (by decide +kernel)
theorem t_1452 : ((Jvm.Cond.instanceMethod ({ cls := "BallotFruitModel", name := "boils", desc := "(II)I" } : Jvm.MethodName)) : Cond) ∈ q_TT := q_tt 1452 (by decide +kernel) (by decide +kernel)
theorem t_1453 : ((Jvm.Cond.code ({ cls := "BallotFruitModel", name := "boils", desc := "(II)I" } : Jvm.MethodName) prog_13_method_77_code (6 : Nat) (Option.some Jvm.ClassFile.FieldType.int)) : Cond) ∈ q_TT := q_tc7 13 rfl rfl
theorem t_1454 : ((Jvm.Cond.methodLink "BallotFruitModel" (323 : Nat) ({ cls := "BallotFruitModel", name := "lesser", desc := "(II)I" } : Jvm.MethodName)) : Cond) ∈ q_TT := q_tt 1454 (by decide +kernel) (by decide +kernel)
theorem t_1456 : ((Jvm.Cond.instanceMethod ({ cls := "BallotFruitModel", name := "lesser", desc := "(II)I" } : Jvm.MethodName)) : Cond) ∈ q_TT := q_tt 1456 (by decide +kernel) (by decide +kernel)
theorem t_1457 : ((Jvm.Cond.code ({ cls := "BallotFruitModel", name := "lesser", desc := "(II)I" } : Jvm.MethodName) prog_13_method_6_code (3 : Nat) (Option.some Jvm.ClassFile.FieldType.int)) : Cond) ∈ q_TT := q_tc7 17 rfl rfl
theorem t_1458 : ((Jvm.Cond.methodLink "BallotFruitLaw" (53 : Nat) ({ cls := "BallotFruitModel", name := "weeks", desc := "(I)I" } : Jvm.MethodName)) : Cond) ∈ q_TT := q_tt 1458 (by decide +kernel) (by decide +kernel)
theorem t_1459 : ((Jvm.Cond.instanceMethod ({ cls := "BallotFruitModel", name := "weeks", desc := "(I)I" } : Jvm.MethodName)) : Cond) ∈ q_TT := q_tt 1459 (by decide +kernel) (by decide +kernel)
theorem t_1460 : ((Jvm.Cond.selects "BallotFruitModel" ({ cls := "BallotFruitModel", name := "weeks", desc := "(I)I" } : Jvm.MethodName) ({ cls := "BallotFruitModel", name := "weeks", desc := "(I)I" } : Jvm.MethodName)) : Cond) ∈ q_TT := q_tt 1460 (by decide +kernel) (by decide +kernel)
theorem t_1461 : ((Jvm.Cond.code ({ cls := "BallotFruitModel", name := "weeks", desc := "(I)I" } : Jvm.MethodName) prog_13_method_97_code (4 : Nat) (Option.some Jvm.ClassFile.FieldType.int)) : Cond) ∈ q_TT := q_tc7 21 rfl rfl
theorem t_1462 : ((Jvm.Cond.methodLink "BallotFruitModel" (408 : Nat) ({ cls := "BallotFruitModel", name := "goesBy", desc := "()I" } : Jvm.MethodName)) : Cond) ∈ q_TT := q_tt 1462 (by decide +kernel) (by decide +kernel)
theorem t_1464 : ((Jvm.Cond.instanceMethod ({ cls := "BallotFruitModel", name := "goesBy", desc := "()I" } : Jvm.MethodName)) : Cond) ∈ q_TT := q_tt 1464 (by decide +kernel) (by decide +kernel)
theorem t_1465 : ((Jvm.Cond.code ({ cls := "BallotFruitModel", name := "goesBy", desc := "()I" } : Jvm.MethodName) prog_13_method_95_code (3 : Nat) (Option.some Jvm.ClassFile.FieldType.int)) : Cond) ∈ q_TT := q_tc7 25 rfl rfl
theorem t_1466 : ((Jvm.Cond.methodLink "BallotFruitModel" (390 : Nat) ({ cls := "BallotFruitModel", name := "does", desc := "(I)V" } : Jvm.MethodName)) : Cond) ∈ q_TT := q_tt 1466 (by decide +kernel) (by decide +kernel)
theorem t_1468 : ((Jvm.Cond.instanceMethod ({ cls := "BallotFruitModel", name := "does", desc := "(I)V" } : Jvm.MethodName)) : Cond) ∈ q_TT := q_tt 1468 (by decide +kernel) (by decide +kernel)
theorem t_1469 : ((Jvm.Cond.code ({ cls := "BallotFruitModel", name := "does", desc := "(I)V" } : Jvm.MethodName) prog_13_method_92_code (3 : Nat) (Option.none : Option Jvm.ClassFile.FieldType)) : Cond) ∈ q_TT := q_tc7 29 rfl rfl
theorem t_1470 : ((Jvm.Cond.methodLink "BallotFruitModel" (393 : Nat) ({ cls := "BallotFruitModel", name := "bearOf", desc := "(I)I" } : Jvm.MethodName)) : Cond) ∈ q_TT := q_tt 1470 (by decide +kernel) (by decide +kernel)
theorem t_1472 : ((Jvm.Cond.instanceMethod ({ cls := "BallotFruitModel", name := "bearOf", desc := "(I)I" } : Jvm.MethodName)) : Cond) ∈ q_TT := q_tt 1472 (by decide +kernel) (by decide +kernel)
theorem t_1473 : ((Jvm.Cond.code ({ cls := "BallotFruitModel", name := "bearOf", desc := "(I)I" } : Jvm.MethodName) prog_13_method_70_code (2 : Nat) (Option.some Jvm.ClassFile.FieldType.int)) : Cond) ∈ q_TT := q_tc7 33 rfl rfl
theorem t_1474 : ((Jvm.Cond.methodLink "BallotFruitModel" (306 : Nat) ({ cls := "BallotFruitModel", name := "asks", desc := "(IIII)V" } : Jvm.MethodName)) : Cond) ∈ q_TT := q_tt 1474 (by decide +kernel) (by decide +kernel)
theorem t_1476 : ((Jvm.Cond.instanceMethod ({ cls := "BallotFruitModel", name := "asks", desc := "(IIII)V" } : Jvm.MethodName)) : Cond) ∈ q_TT := q_tt 1476 (by decide +kernel) (by decide +kernel)
theorem t_1477 : ((Jvm.Cond.code ({ cls := "BallotFruitModel", name := "asks", desc := "(IIII)V" } : Jvm.MethodName) prog_13_method_68_code (5 : Nat) (Option.none : Option Jvm.ClassFile.FieldType)) : Cond) ∈ q_TT := q_tc7 37 rfl rfl
theorem t_1478 : ((Jvm.Cond.methodLink "BallotFruitModel" (310 : Nat) ({ cls := "BallotFruitModel", name := "lawTells", desc := "(III)I" } : Jvm.MethodName)) : Cond) ∈ q_TT := q_tt 1478 (by decide +kernel) (by decide +kernel)
theorem t_1480 : ((Jvm.Cond.instanceMethod ({ cls := "BallotFruitModel", name := "lawTells", desc := "(III)I" } : Jvm.MethodName)) : Cond) ∈ q_TT := q_tt 1480 (by decide +kernel) (by decide +kernel)
theorem t_1481 : ((Jvm.Cond.code ({ cls := "BallotFruitModel", name := "lawTells", desc := "(III)I" } : Jvm.MethodName) prog_13_method_69_code (5 : Nat) (Option.some Jvm.ClassFile.FieldType.int)) : Cond) ∈ q_TT := q_tc7 41 rfl rfl
theorem t_1482 : ((Jvm.Cond.methodLink "BallotFruitModel" (303 : Nat) ({ cls := "BallotFruitModel", name := "lineOf", desc := "(I)I" } : Jvm.MethodName)) : Cond) ∈ q_TT := q_tt 1482 (by decide +kernel) (by decide +kernel)
theorem t_1484 : ((Jvm.Cond.instanceMethod ({ cls := "BallotFruitModel", name := "lineOf", desc := "(I)I" } : Jvm.MethodName)) : Cond) ∈ q_TT := q_tt 1484 (by decide +kernel) (by decide +kernel)
theorem t_1485 : ((Jvm.Cond.code ({ cls := "BallotFruitModel", name := "lineOf", desc := "(I)I" } : Jvm.MethodName) prog_13_method_67_code (3 : Nat) (Option.some Jvm.ClassFile.FieldType.int)) : Cond) ∈ q_TT := q_tc7 45 rfl rfl
theorem t_1486 : ((Jvm.Cond.methodLink "BallotFruitModel" (300 : Nat) ({ cls := "BallotFruitModel", name := "runs", desc := "(III)I" } : Jvm.MethodName)) : Cond) ∈ q_TT := q_tt 1486 (by decide +kernel) (by decide +kernel)
theorem t_1488 : ((Jvm.Cond.instanceMethod ({ cls := "BallotFruitModel", name := "runs", desc := "(III)I" } : Jvm.MethodName)) : Cond) ∈ q_TT := q_tt 1488 (by decide +kernel) (by decide +kernel)
theorem t_1489 : ((Jvm.Cond.code ({ cls := "BallotFruitModel", name := "runs", desc := "(III)I" } : Jvm.MethodName) prog_13_method_66_code (6 : Nat) (Option.some Jvm.ClassFile.FieldType.int)) : Cond) ∈ q_TT := q_tc7 49 rfl rfl
theorem t_1490 : ((Jvm.Cond.methodLink "BallotFruitModel" (297 : Nat) ({ cls := "BallotFruitModel", name := "twoOf", desc := "(III)I" } : Jvm.MethodName)) : Cond) ∈ q_TT := q_tt 1490 (by decide +kernel) (by decide +kernel)
theorem t_1492 : ((Jvm.Cond.instanceMethod ({ cls := "BallotFruitModel", name := "twoOf", desc := "(III)I" } : Jvm.MethodName)) : Cond) ∈ q_TT := q_tt 1492 (by decide +kernel) (by decide +kernel)
theorem t_1493 : ((Jvm.Cond.code ({ cls := "BallotFruitModel", name := "twoOf", desc := "(III)I" } : Jvm.MethodName) prog_13_method_65_code (4 : Nat) (Option.some Jvm.ClassFile.FieldType.int)) : Cond) ∈ q_TT := q_tc7 53 rfl rfl
theorem t_1494 : ((Jvm.Cond.methodLink "BallotFruitModel" (396 : Nat) ({ cls := "BallotFruitModel", name := "eats", desc := "()I" } : Jvm.MethodName)) : Cond) ∈ q_TT := q_tt 1494 (by decide +kernel) (by decide +kernel)
theorem t_1496 : ((Jvm.Cond.instanceMethod ({ cls := "BallotFruitModel", name := "eats", desc := "()I" } : Jvm.MethodName)) : Cond) ∈ q_TT := q_tt 1496 (by decide +kernel) (by decide +kernel)
theorem t_1497 : ((Jvm.Cond.code ({ cls := "BallotFruitModel", name := "eats", desc := "()I" } : Jvm.MethodName) prog_13_method_94_code (3 : Nat) (Option.some Jvm.ClassFile.FieldType.int)) : Cond) ∈ q_TT := q_tc7 57 rfl rfl
theorem t_1498 : ((Jvm.Cond.methodLink "BallotFruitModel" (387 : Nat) ({ cls := "BallotFruitModel", name := "isHungry", desc := "(I)Z" } : Jvm.MethodName)) : Cond) ∈ q_TT := q_tt 1498 (by decide +kernel) (by decide +kernel)
theorem t_1500 : ((Jvm.Cond.instanceMethod ({ cls := "BallotFruitModel", name := "isHungry", desc := "(I)Z" } : Jvm.MethodName)) : Cond) ∈ q_TT := q_tt 1500 (by decide +kernel) (by decide +kernel)
theorem t_1501 : ((Jvm.Cond.code ({ cls := "BallotFruitModel", name := "isHungry", desc := "(I)Z" } : Jvm.MethodName) prog_13_method_86_code (4 : Nat) (Option.some Jvm.ClassFile.FieldType.boolean)) : Cond) ∈ q_TT := q_tc7 61 rfl rfl
theorem t_1502 : ((Jvm.Cond.methodLink "BallotFruitModel" (363 : Nat) ({ cls := "BallotFruitModel", name := "wantOf", desc := "(I)I" } : Jvm.MethodName)) : Cond) ∈ q_TT := q_tt 1502 (by decide +kernel) (by decide +kernel)
theorem t_1504 : ((Jvm.Cond.instanceMethod ({ cls := "BallotFruitModel", name := "wantOf", desc := "(I)I" } : Jvm.MethodName)) : Cond) ∈ q_TT := q_tt 1504 (by decide +kernel) (by decide +kernel)
theorem t_1505 : ((Jvm.Cond.code ({ cls := "BallotFruitModel", name := "wantOf", desc := "(I)I" } : Jvm.MethodName) prog_13_method_71_code (2 : Nat) (Option.some Jvm.ClassFile.FieldType.int)) : Cond) ∈ q_TT := q_tc7 65 rfl rfl
theorem t_1506 : ((Jvm.Cond.methodLink "BallotFruitModel" (366 : Nat) ({ cls := "BallotFruitModel", name := "leftByPath", desc := "(II)I" } : Jvm.MethodName)) : Cond) ∈ q_TT := q_tt 1506 (by decide +kernel) (by decide +kernel)
theorem t_1508 : ((Jvm.Cond.instanceMethod ({ cls := "BallotFruitModel", name := "leftByPath", desc := "(II)I" } : Jvm.MethodName)) : Cond) ∈ q_TT := q_tt 1508 (by decide +kernel) (by decide +kernel)
theorem t_1509 : ((Jvm.Cond.code ({ cls := "BallotFruitModel", name := "leftByPath", desc := "(II)I" } : Jvm.MethodName) prog_13_method_85_code (8 : Nat) (Option.some Jvm.ClassFile.FieldType.int)) : Cond) ∈ q_TT := q_tc7 69 rfl rfl
theorem t_1510 : ((Jvm.Cond.methodLink "BallotFruitModel" (357 : Nat) ({ cls := "BallotFruitModel", name := "treeFor", desc := "(II)I" } : Jvm.MethodName)) : Cond) ∈ q_TT := q_tt 1510 (by decide +kernel) (by decide +kernel)
theorem t_1512 : ((Jvm.Cond.instanceMethod ({ cls := "BallotFruitModel", name := "treeFor", desc := "(II)I" } : Jvm.MethodName)) : Cond) ∈ q_TT := q_tt 1512 (by decide +kernel) (by decide +kernel)
theorem t_1513 : ((Jvm.Cond.code ({ cls := "BallotFruitModel", name := "treeFor", desc := "(II)I" } : Jvm.MethodName) prog_13_method_82_code (5 : Nat) (Option.some Jvm.ClassFile.FieldType.int)) : Cond) ∈ q_TT := q_tc7 73 rfl rfl
theorem t_1514 : ((Jvm.Cond.methodLink "BallotFruitModel" (313 : Nat) ({ cls := "BallotFruitModel", name := "tasteOf", desc := "(II)I" } : Jvm.MethodName)) : Cond) ∈ q_TT := q_tt 1514 (by decide +kernel) (by decide +kernel)
theorem t_1516 : ((Jvm.Cond.instanceMethod ({ cls := "BallotFruitModel", name := "tasteOf", desc := "(II)I" } : Jvm.MethodName)) : Cond) ∈ q_TT := q_tt 1516 (by decide +kernel) (by decide +kernel)
theorem t_1517 : ((Jvm.Cond.code ({ cls := "BallotFruitModel", name := "tasteOf", desc := "(II)I" } : Jvm.MethodName) prog_13_method_22_code (3 : Nat) (Option.some Jvm.ClassFile.FieldType.int)) : Cond) ∈ q_TT := q_tc7 77 rfl rfl
theorem t_1518 : ((Jvm.Cond.methodLink "BallotFruitModel" (360 : Nat) ({ cls := "BallotFruitModel", name := "isGood", desc := "(II)Z" } : Jvm.MethodName)) : Cond) ∈ q_TT := q_tt 1518 (by decide +kernel) (by decide +kernel)
theorem t_1520 : ((Jvm.Cond.instanceMethod ({ cls := "BallotFruitModel", name := "isGood", desc := "(II)Z" } : Jvm.MethodName)) : Cond) ∈ q_TT := q_tt 1520 (by decide +kernel) (by decide +kernel)
theorem t_1521 : ((Jvm.Cond.code ({ cls := "BallotFruitModel", name := "isGood", desc := "(II)Z" } : Jvm.MethodName) prog_13_method_84_code (4 : Nat) (Option.some Jvm.ClassFile.FieldType.boolean)) : Cond) ∈ q_TT := q_tc7 81 rfl rfl
theorem t_1522 : ((Jvm.Cond.methodLink "BallotFruitModel" (348 : Nat) ({ cls := "BallotFruitModel", name := "countOf", desc := "(III)I" } : Jvm.MethodName)) : Cond) ∈ q_TT := q_tt 1522 (by decide +kernel) (by decide +kernel)
theorem t_1524 : ((Jvm.Cond.instanceMethod ({ cls := "BallotFruitModel", name := "countOf", desc := "(III)I" } : Jvm.MethodName)) : Cond) ∈ q_TT := q_tt 1524 (by decide +kernel) (by decide +kernel)
theorem t_1525 : ((Jvm.Cond.code ({ cls := "BallotFruitModel", name := "countOf", desc := "(III)I" } : Jvm.MethodName) prog_13_method_72_code (4 : Nat) (Option.some Jvm.ClassFile.FieldType.int)) : Cond) ∈ q_TT := q_tc7 85 rfl rfl
theorem t_1526 : ((Jvm.Cond.methodLink "BallotFruitModel" (351 : Nat) ({ cls := "BallotFruitModel", name := "counts", desc := "(II)V" } : Jvm.MethodName)) : Cond) ∈ q_TT := q_tt 1526 (by decide +kernel) (by decide +kernel)
theorem t_1528 : ((Jvm.Cond.instanceMethod ({ cls := "BallotFruitModel", name := "counts", desc := "(II)V" } : Jvm.MethodName)) : Cond) ∈ q_TT := q_tt 1528 (by decide +kernel) (by decide +kernel)
theorem t_1529 : ((Jvm.Cond.code ({ cls := "BallotFruitModel", name := "counts", desc := "(II)V" } : Jvm.MethodName) prog_13_method_81_code (4 : Nat) (Option.none : Option Jvm.ClassFile.FieldType)) : Cond) ∈ q_TT := q_tc7 89 rfl rfl
theorem t_1530 : ((Jvm.Cond.methodLink "BallotFruitModel" (354 : Nat) ({ cls := "BallotFruitModel", name := "draw", desc := "(I)I" } : Jvm.MethodName)) : Cond) ∈ q_TT := q_tt 1530 (by decide +kernel) (by decide +kernel)
theorem t_1532 : ((Jvm.Cond.instanceMethod ({ cls := "BallotFruitModel", name := "draw", desc := "(I)I" } : Jvm.MethodName)) : Cond) ∈ q_TT := q_tt 1532 (by decide +kernel) (by decide +kernel)
theorem t_1533 : ((Jvm.Cond.code ({ cls := "BallotFruitModel", name := "draw", desc := "(I)I" } : Jvm.MethodName) prog_13_method_15_code (2 : Nat) (Option.some Jvm.ClassFile.FieldType.int)) : Cond) ∈ q_TT := q_tc7 93 rfl rfl
theorem t_1534 : ((Jvm.Cond.constant "BallotFruitModel" (108 : Nat) (1664525 : Int32)) : Cond) ∈ q_TT := q_tt 1534 (by decide +kernel) (by decide +kernel)
theorem t_1535 : ((Jvm.Cond.constant "BallotFruitModel" (109 : Nat) (1013904223 : Int32)) : Cond) ∈ q_TT := q_tt 1535 (by decide +kernel) (by decide +kernel)
theorem t_1536 : ((Jvm.Cond.methodLink "BallotFruitModel" (369 : Nat) ({ cls := "BallotFruitModel", name := "jamFor", desc := "(I)I" } : Jvm.MethodName)) : Cond) ∈ q_TT := q_tt 1536 (by decide +kernel) (by decide +kernel)
theorem t_1538 : ((Jvm.Cond.instanceMethod ({ cls := "BallotFruitModel", name := "jamFor", desc := "(I)I" } : Jvm.MethodName)) : Cond) ∈ q_TT := q_tt 1538 (by decide +kernel) (by decide +kernel)
theorem t_1539 : ((Jvm.Cond.code ({ cls := "BallotFruitModel", name := "jamFor", desc := "(I)I" } : Jvm.MethodName) prog_13_method_83_code (4 : Nat) (Option.some Jvm.ClassFile.FieldType.int)) : Cond) ∈ q_TT := q_tc7 99 rfl rfl
theorem t_1540 : ((Jvm.Cond.methodLink "BallotFruitModel" (399 : Nat) ({ cls := "BallotFruitModel", name := "stings", desc := "()V" } : Jvm.MethodName)) : Cond) ∈ q_TT := q_tt 1540 (by decide +kernel) (by decide +kernel)
theorem t_1542 : ((Jvm.Cond.instanceMethod ({ cls := "BallotFruitModel", name := "stings", desc := "()V" } : Jvm.MethodName)) : Cond) ∈ q_TT := q_tt 1542 (by decide +kernel) (by decide +kernel)
theorem t_1543 : ((Jvm.Cond.code ({ cls := "BallotFruitModel", name := "stings", desc := "()V" } : Jvm.MethodName) prog_13_method_93_code (3 : Nat) (Option.none : Option Jvm.ClassFile.FieldType)) : Cond) ∈ q_TT := q_tc7 103 rfl rfl
theorem t_1544 : ((Jvm.Cond.methodLink "BallotFruitModel" (402 : Nat) ({ cls := "BallotFruitModel", name := "every", desc := "()I" } : Jvm.MethodName)) : Cond) ∈ q_TT := q_tt 1544 (by decide +kernel) (by decide +kernel)
theorem t_1546 : ((Jvm.Cond.instanceMethod ({ cls := "BallotFruitModel", name := "every", desc := "()I" } : Jvm.MethodName)) : Cond) ∈ q_TT := q_tt 1546 (by decide +kernel) (by decide +kernel)
theorem t_1547 : ((Jvm.Cond.code ({ cls := "BallotFruitModel", name := "every", desc := "()I" } : Jvm.MethodName) prog_13_method_17_code (1 : Nat) (Option.some Jvm.ClassFile.FieldType.int)) : Cond) ∈ q_TT := q_tc7 107 rfl rfl
theorem t_1548 : ((Jvm.Cond.methodLink "BallotFruitModel" (405 : Nat) ({ cls := "BallotFruitModel", name := "elects", desc := "()V" } : Jvm.MethodName)) : Cond) ∈ q_TT := q_tt 1548 (by decide +kernel) (by decide +kernel)
theorem t_1550 : ((Jvm.Cond.instanceMethod ({ cls := "BallotFruitModel", name := "elects", desc := "()V" } : Jvm.MethodName)) : Cond) ∈ q_TT := q_tt 1550 (by decide +kernel) (by decide +kernel)
theorem t_1551 : ((Jvm.Cond.code ({ cls := "BallotFruitModel", name := "elects", desc := "()V" } : Jvm.MethodName) prog_13_method_91_code (2 : Nat) (Option.none : Option Jvm.ClassFile.FieldType)) : Cond) ∈ q_TT := q_tc7 111 rfl rfl
theorem t_1552 : ((Jvm.Cond.methodLink "BallotFruitModel" (381 : Nat) ({ cls := "BallotFruitModel", name := "findsGiven", desc := "()V" } : Jvm.MethodName)) : Cond) ∈ q_TT := q_tt 1552 (by decide +kernel) (by decide +kernel)
theorem t_1554 : ((Jvm.Cond.instanceMethod ({ cls := "BallotFruitModel", name := "findsGiven", desc := "()V" } : Jvm.MethodName)) : Cond) ∈ q_TT := q_tt 1554 (by decide +kernel) (by decide +kernel)
theorem t_1555 : ((Jvm.Cond.code ({ cls := "BallotFruitModel", name := "findsGiven", desc := "()V" } : Jvm.MethodName) prog_13_method_89_code (7 : Nat) (Option.none : Option Jvm.ClassFile.FieldType)) : Cond) ∈ q_TT := q_tc7 115 rfl rfl
theorem t_1556 : ((Jvm.Cond.methodLink "BallotFruitModel" (372 : Nat) ({ cls := "BallotFruitModel", name := "votesInAll", desc := "()I" } : Jvm.MethodName)) : Cond) ∈ q_TT := q_tt 1556 (by decide +kernel) (by decide +kernel)
theorem t_1558 : ((Jvm.Cond.instanceMethod ({ cls := "BallotFruitModel", name := "votesInAll", desc := "()I" } : Jvm.MethodName)) : Cond) ∈ q_TT := q_tt 1558 (by decide +kernel) (by decide +kernel)
theorem t_1559 : ((Jvm.Cond.code ({ cls := "BallotFruitModel", name := "votesInAll", desc := "()I" } : Jvm.MethodName) prog_13_method_87_code (3 : Nat) (Option.some Jvm.ClassFile.FieldType.int)) : Cond) ∈ q_TT := q_tc7 119 rfl rfl
theorem t_1560 : ((Jvm.Cond.methodLink "BallotFruitModel" (375 : Nat) ({ cls := "BallotFruitModel", name := "chairs", desc := "()I" } : Jvm.MethodName)) : Cond) ∈ q_TT := q_tt 1560 (by decide +kernel) (by decide +kernel)
theorem t_1562 : ((Jvm.Cond.instanceMethod ({ cls := "BallotFruitModel", name := "chairs", desc := "()I" } : Jvm.MethodName)) : Cond) ∈ q_TT := q_tt 1562 (by decide +kernel) (by decide +kernel)
theorem t_1563 : ((Jvm.Cond.code ({ cls := "BallotFruitModel", name := "chairs", desc := "()I" } : Jvm.MethodName) prog_13_method_16_code (1 : Nat) (Option.some Jvm.ClassFile.FieldType.int)) : Cond) ∈ q_TT := q_tc7 123 rfl rfl
theorem t_1564 : ((Jvm.Cond.methodLink "BallotFruitModel" (378 : Nat) ({ cls := "BallotFruitModel", name := "isAhead", desc := "(II)Z" } : Jvm.MethodName)) : Cond) ∈ q_TT := q_tt 1564 (by decide +kernel) (by decide +kernel)
theorem t_1566 : ((Jvm.Cond.instanceMethod ({ cls := "BallotFruitModel", name := "isAhead", desc := "(II)Z" } : Jvm.MethodName)) : Cond) ∈ q_TT := q_tt 1566 (by decide +kernel) (by decide +kernel)
theorem t_1567 : ((Jvm.Cond.code ({ cls := "BallotFruitModel", name := "isAhead", desc := "(II)Z" } : Jvm.MethodName) prog_13_method_88_code (3 : Nat) (Option.some Jvm.ClassFile.FieldType.boolean)) : Cond) ∈ q_TT := q_tc7 127 rfl rfl
theorem t_1568 : ((Jvm.Cond.methodLink "BallotFruitModel" (384 : Nat) ({ cls := "BallotFruitModel", name := "strongest", desc := "()I" } : Jvm.MethodName)) : Cond) ∈ q_TT := q_tt 1568 (by decide +kernel) (by decide +kernel)
theorem t_1570 : ((Jvm.Cond.instanceMethod ({ cls := "BallotFruitModel", name := "strongest", desc := "()I" } : Jvm.MethodName)) : Cond) ∈ q_TT := q_tt 1570 (by decide +kernel) (by decide +kernel)
theorem t_1571 : ((Jvm.Cond.code ({ cls := "BallotFruitModel", name := "strongest", desc := "()I" } : Jvm.MethodName) prog_13_method_90_code (3 : Nat) (Option.some Jvm.ClassFile.FieldType.int)) : Cond) ∈ q_TT := q_tc7 131 rfl rfl
theorem t_1572 : ((Jvm.Cond.methodLink "BallotFruitLaw" (75 : Nat) ({ cls := "BallotFruitModel", name := "of", desc := "(II)I" } : Jvm.MethodName)) : Cond) ∈ q_TT := q_tt 1572 (by decide +kernel) (by decide +kernel)
theorem t_1573 : ((Jvm.Cond.instanceMethod ({ cls := "BallotFruitModel", name := "of", desc := "(II)I" } : Jvm.MethodName)) : Cond) ∈ q_TT := q_tt 1573 (by decide +kernel) (by decide +kernel)
theorem t_1574 : ((Jvm.Cond.selects "BallotFruitModel" ({ cls := "BallotFruitModel", name := "of", desc := "(II)I" } : Jvm.MethodName) ({ cls := "BallotFruitModel", name := "of", desc := "(II)I" } : Jvm.MethodName)) : Cond) ∈ q_TT := q_tt 1574 (by decide +kernel) (by decide +kernel)
theorem t_1575 : ((Jvm.Cond.code ({ cls := "BallotFruitModel", name := "of", desc := "(II)I" } : Jvm.MethodName) prog_13_method_98_code (5 : Nat) (Option.some Jvm.ClassFile.FieldType.int)) : Cond) ∈ q_TT := q_tc7 135 rfl rfl
theorem t_1576 : ((Jvm.Cond.methodLink "BallotFruitLaw" (79 : Nat) ({ cls := "BallotFruitModel", name := "tree", desc := "(II)I" } : Jvm.MethodName)) : Cond) ∈ q_TT := q_tt 1576 (by decide +kernel) (by decide +kernel)
theorem t_1577 : ((Jvm.Cond.instanceMethod ({ cls := "BallotFruitModel", name := "tree", desc := "(II)I" } : Jvm.MethodName)) : Cond) ∈ q_TT := q_tt 1577 (by decide +kernel) (by decide +kernel)
theorem t_1578 : ((Jvm.Cond.selects "BallotFruitModel" ({ cls := "BallotFruitModel", name := "tree", desc := "(II)I" } : Jvm.MethodName) ({ cls := "BallotFruitModel", name := "tree", desc := "(II)I" } : Jvm.MethodName)) : Cond) ∈ q_TT := q_tt 1578 (by decide +kernel) (by decide +kernel)
theorem t_1579 : ((Jvm.Cond.code ({ cls := "BallotFruitModel", name := "tree", desc := "(II)I" } : Jvm.MethodName) prog_13_method_99_code (3 : Nat) (Option.some Jvm.ClassFile.FieldType.int)) : Cond) ∈ q_TT := q_tc7 139 rfl rfl
theorem t_1580 : ((Jvm.Cond.methodLink "BallotFruitLaw" (83 : Nat) ({ cls := "BallotFruitModel", name := "who", desc := "(II)I" } : Jvm.MethodName)) : Cond) ∈ q_TT := q_tt 1580 (by decide +kernel) (by decide +kernel)
theorem t_1581 : ((Jvm.Cond.instanceMethod ({ cls := "BallotFruitModel", name := "who", desc := "(II)I" } : Jvm.MethodName)) : Cond) ∈ q_TT := q_tt 1581 (by decide +kernel) (by decide +kernel)
theorem t_1582 : ((Jvm.Cond.selects "BallotFruitModel" ({ cls := "BallotFruitModel", name := "who", desc := "(II)I" } : Jvm.MethodName) ({ cls := "BallotFruitModel", name := "who", desc := "(II)I" } : Jvm.MethodName)) : Cond) ∈ q_TT := q_tt 1582 (by decide +kernel) (by decide +kernel)
theorem t_1583 : ((Jvm.Cond.code ({ cls := "BallotFruitModel", name := "who", desc := "(II)I" } : Jvm.MethodName) prog_13_method_100_code (4 : Nat) (Option.some Jvm.ClassFile.FieldType.int)) : Cond) ∈ q_TT := q_tc7 143 rfl rfl
theorem t_1584 : ((Jvm.Cond.methodLink "BallotFruitLaw" (87 : Nat) ({ cls := "BallotFruitModel", name := "at", desc := "(I)I" } : Jvm.MethodName)) : Cond) ∈ q_TT := q_tt 1584 (by decide +kernel) (by decide +kernel)
theorem t_1585 : ((Jvm.Cond.instanceMethod ({ cls := "BallotFruitModel", name := "at", desc := "(I)I" } : Jvm.MethodName)) : Cond) ∈ q_TT := q_tt 1585 (by decide +kernel) (by decide +kernel)
theorem t_1586 : ((Jvm.Cond.selects "BallotFruitModel" ({ cls := "BallotFruitModel", name := "at", desc := "(I)I" } : Jvm.MethodName) ({ cls := "BallotFruitModel", name := "at", desc := "(I)I" } : Jvm.MethodName)) : Cond) ∈ q_TT := q_tt 1586 (by decide +kernel) (by decide +kernel)
theorem t_1587 : ((Jvm.Cond.code ({ cls := "BallotFruitModel", name := "at", desc := "(I)I" } : Jvm.MethodName) prog_13_method_101_code (2 : Nat) (Option.some Jvm.ClassFile.FieldType.int)) : Cond) ∈ q_TT := q_tc7 147 rfl rfl
theorem t_1588 : ((Jvm.Cond.methodLink "BallotFruitLaw" (91 : Nat) ({ cls := "BallotFruitModel", name := "book", desc := "(II)I" } : Jvm.MethodName)) : Cond) ∈ q_TT := q_tt 1588 (by decide +kernel) (by decide +kernel)
theorem t_1589 : ((Jvm.Cond.instanceMethod ({ cls := "BallotFruitModel", name := "book", desc := "(II)I" } : Jvm.MethodName)) : Cond) ∈ q_TT := q_tt 1589 (by decide +kernel) (by decide +kernel)
theorem t_1590 : ((Jvm.Cond.selects "BallotFruitModel" ({ cls := "BallotFruitModel", name := "book", desc := "(II)I" } : Jvm.MethodName) ({ cls := "BallotFruitModel", name := "book", desc := "(II)I" } : Jvm.MethodName)) : Cond) ∈ q_TT := q_tt 1590 (by decide +kernel) (by decide +kernel)
theorem t_1591 : ((Jvm.Cond.code ({ cls := "BallotFruitModel", name := "book", desc := "(II)I" } : Jvm.MethodName) prog_13_method_102_code (3 : Nat) (Option.some Jvm.ClassFile.FieldType.int)) : Cond) ∈ q_TT := q_tc7 151 rfl rfl
theorem t_1592 : ((Jvm.Cond.methodLink "BallotFruitLaw" (95 : Nat) ({ cls := "BallotFruitModel", name := "goes", desc := "(III)I" } : Jvm.MethodName)) : Cond) ∈ q_TT := q_tt 1592 (by decide +kernel) (by decide +kernel)
theorem t_1593 : ((Jvm.Cond.instanceMethod ({ cls := "BallotFruitModel", name := "goes", desc := "(III)I" } : Jvm.MethodName)) : Cond) ∈ q_TT := q_tt 1593 (by decide +kernel) (by decide +kernel)
theorem t_1594 : ((Jvm.Cond.selects "BallotFruitModel" ({ cls := "BallotFruitModel", name := "goes", desc := "(III)I" } : Jvm.MethodName) ({ cls := "BallotFruitModel", name := "goes", desc := "(III)I" } : Jvm.MethodName)) : Cond) ∈ q_TT := q_tt 1594 (by decide +kernel) (by decide +kernel)
theorem t_1595 : ((Jvm.Cond.code ({ cls := "BallotFruitModel", name := "goes", desc := "(III)I" } : Jvm.MethodName) prog_13_method_103_code (5 : Nat) (Option.some Jvm.ClassFile.FieldType.int)) : Cond) ∈ q_TT := q_tc7 155 rfl rfl
theorem t_1596 : ((Jvm.Cond.methodLink "BallotFruitModel" (411 : Nat) ({ cls := "BallotFruitModel", name := "thinks", desc := "()V" } : Jvm.MethodName)) : Cond) ∈ q_TT := q_tt 1596 (by decide +kernel) (by decide +kernel)
theorem t_1598 : ((Jvm.Cond.instanceMethod ({ cls := "BallotFruitModel", name := "thinks", desc := "()V" } : Jvm.MethodName)) : Cond) ∈ q_TT := q_tt 1598 (by decide +kernel) (by decide +kernel)
theorem t_1599 : ((Jvm.Cond.code ({ cls := "BallotFruitModel", name := "thinks", desc := "()V" } : Jvm.MethodName) prog_13_method_11_code (2 : Nat) (Option.none : Option Jvm.ClassFile.FieldType)) : Cond) ∈ q_TT := q_tc7 159 rfl rfl
theorem t_1600 : ((Jvm.Cond.methodLink "BallotFruitModel" (414 : Nat) ({ cls := "BallotFruitModel", name := "goesFor", desc := "(I)V" } : Jvm.MethodName)) : Cond) ∈ q_TT := q_tt 1600 (by decide +kernel) (by decide +kernel)
theorem t_1602 : ((Jvm.Cond.instanceMethod ({ cls := "BallotFruitModel", name := "goesFor", desc := "(I)V" } : Jvm.MethodName)) : Cond) ∈ q_TT := q_tt 1602 (by decide +kernel) (by decide +kernel)
theorem t_1603 : ((Jvm.Cond.code ({ cls := "BallotFruitModel", name := "goesFor", desc := "(I)V" } : Jvm.MethodName) prog_13_method_96_code (3 : Nat) (Option.none : Option Jvm.ClassFile.FieldType)) : Cond) ∈ q_TT := q_tc7 163 rfl rfl
theorem t_1604 : ((Jvm.Cond.methodLink "BallotFruitModel" (417 : Nat) ({ cls := "BallotFruitModel", name := "endsThought", desc := "()V" } : Jvm.MethodName)) : Cond) ∈ q_TT := q_tt 1604 (by decide +kernel) (by decide +kernel)
theorem t_1606 : ((Jvm.Cond.instanceMethod ({ cls := "BallotFruitModel", name := "endsThought", desc := "()V" } : Jvm.MethodName)) : Cond) ∈ q_TT := q_tt 1606 (by decide +kernel) (by decide +kernel)
theorem t_1607 : ((Jvm.Cond.code ({ cls := "BallotFruitModel", name := "endsThought", desc := "()V" } : Jvm.MethodName) prog_13_method_13_code (1 : Nat) (Option.none : Option Jvm.ClassFile.FieldType)) : Cond) ∈ q_TT := q_tc7 167 rfl rfl
theorem t_1608 : ((Jvm.Cond.methodLink "BallotFruitModel" (105 : Nat) ({ cls := "BallotFruitModel", name := "thinksAnew", desc := "()V" } : Jvm.MethodName)) : Cond) ∈ q_TT := q_tt 1608 (by decide +kernel) (by decide +kernel)
theorem t_1610 : ((Jvm.Cond.instanceMethod ({ cls := "BallotFruitModel", name := "thinksAnew", desc := "()V" } : Jvm.MethodName)) : Cond) ∈ q_TT := q_tt 1610 (by decide +kernel) (by decide +kernel)
theorem t_1611 : ((Jvm.Cond.code ({ cls := "BallotFruitModel", name := "thinksAnew", desc := "()V" } : Jvm.MethodName) prog_13_method_12_code (2 : Nat) (Option.none : Option Jvm.ClassFile.FieldType)) : Cond) ∈ q_TT := q_tc7 171 rfl rfl
theorem t_1612 : ((Jvm.Cond.methodLink "BallotFruitLaw" (99 : Nat) ({ cls := "BallotFruitModel", name := "falls", desc := "(I)I" } : Jvm.MethodName)) : Cond) ∈ q_TT := q_tt 1612 (by decide +kernel) (by decide +kernel)
theorem t_1613 : ((Jvm.Cond.instanceMethod ({ cls := "BallotFruitModel", name := "falls", desc := "(I)I" } : Jvm.MethodName)) : Cond) ∈ q_TT := q_tt 1613 (by decide +kernel) (by decide +kernel)
theorem t_1614 : ((Jvm.Cond.selects "BallotFruitModel" ({ cls := "BallotFruitModel", name := "falls", desc := "(I)I" } : Jvm.MethodName) ({ cls := "BallotFruitModel", name := "falls", desc := "(I)I" } : Jvm.MethodName)) : Cond) ∈ q_TT := q_tt 1614 (by decide +kernel) (by decide +kernel)
theorem t_1615 : ((Jvm.Cond.code ({ cls := "BallotFruitModel", name := "falls", desc := "(I)I" } : Jvm.MethodName) prog_13_method_104_code (2 : Nat) (Option.some Jvm.ClassFile.FieldType.int)) : Cond) ∈ q_TT := q_tc7 175 rfl rfl
theorem t_1616 : ((Jvm.Cond.methodLink "BallotFruitLaw" (103 : Nat) ({ cls := "BallotFruitModel", name := "brings", desc := "(III)I" } : Jvm.MethodName)) : Cond) ∈ q_TT := q_tt 1616 (by decide +kernel) (by decide +kernel)
theorem t_1617 : ((Jvm.Cond.instanceMethod ({ cls := "BallotFruitModel", name := "brings", desc := "(III)I" } : Jvm.MethodName)) : Cond) ∈ q_TT := q_tt 1617 (by decide +kernel) (by decide +kernel)
theorem t_1618 : ((Jvm.Cond.selects "BallotFruitModel" ({ cls := "BallotFruitModel", name := "brings", desc := "(III)I" } : Jvm.MethodName) ({ cls := "BallotFruitModel", name := "brings", desc := "(III)I" } : Jvm.MethodName)) : Cond) ∈ q_TT := q_tt 1618 (by decide +kernel) (by decide +kernel)
theorem t_1619 : ((Jvm.Cond.code ({ cls := "BallotFruitModel", name := "brings", desc := "(III)I" } : Jvm.MethodName) prog_13_method_105_code (7 : Nat) (Option.some Jvm.ClassFile.FieldType.int)) : Cond) ∈ q_TT := q_tc7 179 rfl rfl
theorem t_1620 : ((Jvm.Cond.methodLink "BallotFruitModel" (420 : Nat) ({ cls := "BallotFruitModel", name := "greater", desc := "(II)I" } : Jvm.MethodName)) : Cond) ∈ q_TT := q_tt 1620 (by decide +kernel) (by decide +kernel)
theorem t_1622 : ((Jvm.Cond.instanceMethod ({ cls := "BallotFruitModel", name := "greater", desc := "(II)I" } : Jvm.MethodName)) : Cond) ∈ q_TT := q_tt 1622 (by decide +kernel) (by decide +kernel)
theorem t_1623 : ((Jvm.Cond.code ({ cls := "BallotFruitModel", name := "greater", desc := "(II)I" } : Jvm.MethodName) prog_13_method_5_code (3 : Nat) (Option.some Jvm.ClassFile.FieldType.int)) : Cond) ∈ q_TT := q_tc7 183 rfl rfl
theorem t_1624 : ((Jvm.Cond.methodLink "BallotFruitLaw" (107 : Nat) ({ cls := "BallotFruitModel", name := "swings", desc := "(II)I" } : Jvm.MethodName)) : Cond) ∈ q_TT := q_tt 1624 (by decide +kernel) (by decide +kernel)
theorem t_1625 : ((Jvm.Cond.instanceMethod ({ cls := "BallotFruitModel", name := "swings", desc := "(II)I" } : Jvm.MethodName)) : Cond) ∈ q_TT := q_tt 1625 (by decide +kernel) (by decide +kernel)
theorem t_1626 : ((Jvm.Cond.selects "BallotFruitModel" ({ cls := "BallotFruitModel", name := "swings", desc := "(II)I" } : Jvm.MethodName) ({ cls := "BallotFruitModel", name := "swings", desc := "(II)I" } : Jvm.MethodName)) : Cond) ∈ q_TT := q_tt 1626 (by decide +kernel) (by decide +kernel)
theorem t_1627 : ((Jvm.Cond.code ({ cls := "BallotFruitModel", name := "swings", desc := "(II)I" } : Jvm.MethodName) prog_13_method_107_code (7 : Nat) (Option.some Jvm.ClassFile.FieldType.int)) : Cond) ∈ q_TT := q_tc7 187 rfl rfl
theorem t_1628 : ((Jvm.Cond.methodLink "BallotFruitModel" (423 : Nat) ({ cls := "BallotFruitModel", name := "strongestBehind", desc := "(III)I" } : Jvm.MethodName)) : Cond) ∈ q_TT := q_tt 1628 (by decide +kernel) (by decide +kernel)
theorem t_1630 : ((Jvm.Cond.instanceMethod ({ cls := "BallotFruitModel", name := "strongestBehind", desc := "(III)I" } : Jvm.MethodName)) : Cond) ∈ q_TT := q_tt 1630 (by decide +kernel) (by decide +kernel)
theorem t_1631 : ((Jvm.Cond.code ({ cls := "BallotFruitModel", name := "strongestBehind", desc := "(III)I" } : Jvm.MethodName) prog_13_method_106_code (4 : Nat) (Option.some Jvm.ClassFile.FieldType.int)) : Cond) ∈ q_TT := q_tc7 191 rfl rfl
theorem t_1632 : ((Jvm.Cond.methodLink "BallotFruitLaw" (111 : Nat) ({ cls := "BallotFruitModel", name := "feeds", desc := "(I)I" } : Jvm.MethodName)) : Cond) ∈ q_TT := q_tt 1632 (by decide +kernel) (by decide +kernel)
theorem t_1633 : ((Jvm.Cond.instanceMethod ({ cls := "BallotFruitModel", name := "feeds", desc := "(I)I" } : Jvm.MethodName)) : Cond) ∈ q_TT := q_tt 1633 (by decide +kernel) (by decide +kernel)
theorem t_1634 : ((Jvm.Cond.selects "BallotFruitModel" ({ cls := "BallotFruitModel", name := "feeds", desc := "(I)I" } : Jvm.MethodName) ({ cls := "BallotFruitModel", name := "feeds", desc := "(I)I" } : Jvm.MethodName)) : Cond) ∈ q_TT := q_tt 1634 (by decide +kernel) (by decide +kernel)
theorem t_1635 : ((Jvm.Cond.code ({ cls := "BallotFruitModel", name := "feeds", desc := "(I)I" } : Jvm.MethodName) prog_13_method_110_code (4 : Nat) (Option.some Jvm.ClassFile.FieldType.int)) : Cond) ∈ q_TT := q_tc7 195 rfl rfl
theorem t_1636 : ((Jvm.Cond.methodLink "BallotFruitModel" (429 : Nat) ({ cls := "BallotFruitModel", name := "onesOf", desc := "(I)I" } : Jvm.MethodName)) : Cond) ∈ q_TT := q_tt 1636 (by decide +kernel) (by decide +kernel)
theorem t_1638 : ((Jvm.Cond.instanceMethod ({ cls := "BallotFruitModel", name := "onesOf", desc := "(I)I" } : Jvm.MethodName)) : Cond) ∈ q_TT := q_tt 1638 (by decide +kernel) (by decide +kernel)
theorem t_1639 : ((Jvm.Cond.code ({ cls := "BallotFruitModel", name := "onesOf", desc := "(I)I" } : Jvm.MethodName) prog_13_method_7_code (4 : Nat) (Option.some Jvm.ClassFile.FieldType.int)) : Cond) ∈ q_TT := q_tc7 199 rfl rfl
theorem t_1640 : ((Jvm.Cond.methodLink "BallotFruitModel" (432 : Nat) ({ cls := "BallotFruitModel", name := "feedsAll", desc := "(I)Z" } : Jvm.MethodName)) : Cond) ∈ q_TT := q_tt 1640 (by decide +kernel) (by decide +kernel)
theorem t_1642 : ((Jvm.Cond.instanceMethod ({ cls := "BallotFruitModel", name := "feedsAll", desc := "(I)Z" } : Jvm.MethodName)) : Cond) ∈ q_TT := q_tt 1642 (by decide +kernel) (by decide +kernel)
theorem t_1643 : ((Jvm.Cond.code ({ cls := "BallotFruitModel", name := "feedsAll", desc := "(I)Z" } : Jvm.MethodName) prog_13_method_109_code (3 : Nat) (Option.some Jvm.ClassFile.FieldType.boolean)) : Cond) ∈ q_TT := q_tc7 203 rfl rfl
theorem t_1644 : ((Jvm.Cond.methodLink "BallotFruitModel" (426 : Nat) ({ cls := "BallotFruitModel", name := "placesOf", desc := "(I)I" } : Jvm.MethodName)) : Cond) ∈ q_TT := q_tt 1644 (by decide +kernel) (by decide +kernel)
theorem t_1646 : ((Jvm.Cond.instanceMethod ({ cls := "BallotFruitModel", name := "placesOf", desc := "(I)I" } : Jvm.MethodName)) : Cond) ∈ q_TT := q_tt 1646 (by decide +kernel) (by decide +kernel)
theorem t_1647 : ((Jvm.Cond.code ({ cls := "BallotFruitModel", name := "placesOf", desc := "(I)I" } : Jvm.MethodName) prog_13_method_108_code (4 : Nat) (Option.some Jvm.ClassFile.FieldType.int)) : Cond) ∈ q_TT := q_tc7 207 rfl rfl
theorem t_1648 : ((Jvm.Cond.methodLink "BallotFruitLaw" (115 : Nat) ({ cls := "BallotFruitModel", name := "core", desc := "(II)I" } : Jvm.MethodName)) : Cond) ∈ q_TT := q_tt 1648 (by decide +kernel) (by decide +kernel)
theorem t_1649 : ((Jvm.Cond.instanceMethod ({ cls := "BallotFruitModel", name := "core", desc := "(II)I" } : Jvm.MethodName)) : Cond) ∈ q_TT := q_tt 1649 (by decide +kernel) (by decide +kernel)
theorem t_1650 : ((Jvm.Cond.selects "BallotFruitModel" ({ cls := "BallotFruitModel", name := "core", desc := "(II)I" } : Jvm.MethodName) ({ cls := "BallotFruitModel", name := "core", desc := "(II)I" } : Jvm.MethodName)) : Cond) ∈ q_TT := q_tt 1650 (by decide +kernel) (by decide +kernel)
theorem t_1651 : ((Jvm.Cond.code ({ cls := "BallotFruitModel", name := "core", desc := "(II)I" } : Jvm.MethodName) prog_13_method_111_code (3 : Nat) (Option.some Jvm.ClassFile.FieldType.int)) : Cond) ∈ q_TT := q_tc7 211 rfl rfl
theorem t_1652 : ((Jvm.Cond.methodLink "BallotFruitLaw" (119 : Nat) ({ cls := "BallotFruitModel", name := "whose", desc := "(I)I" } : Jvm.MethodName)) : Cond) ∈ q_TT := q_tt 1652 (by decide +kernel) (by decide +kernel)
theorem t_1653 : ((Jvm.Cond.instanceMethod ({ cls := "BallotFruitModel", name := "whose", desc := "(I)I" } : Jvm.MethodName)) : Cond) ∈ q_TT := q_tt 1653 (by decide +kernel) (by decide +kernel)
theorem t_1654 : ((Jvm.Cond.selects "BallotFruitModel" ({ cls := "BallotFruitModel", name := "whose", desc := "(I)I" } : Jvm.MethodName) ({ cls := "BallotFruitModel", name := "whose", desc := "(I)I" } : Jvm.MethodName)) : Cond) ∈ q_TT := q_tt 1654 (by decide +kernel) (by decide +kernel)
theorem t_1655 : ((Jvm.Cond.code ({ cls := "BallotFruitModel", name := "whose", desc := "(I)I" } : Jvm.MethodName) prog_13_method_114_code (9 : Nat) (Option.some Jvm.ClassFile.FieldType.int)) : Cond) ∈ q_TT := q_tc7 215 rfl rfl
theorem t_1656 : ((Jvm.Cond.methodLink "BallotFruitModel" (438 : Nat) ({ cls := "BallotFruitModel", name := "eatersOfAll", desc := "()I" } : Jvm.MethodName)) : Cond) ∈ q_TT := q_tt 1656 (by decide +kernel) (by decide +kernel)
theorem t_1658 : ((Jvm.Cond.instanceMethod ({ cls := "BallotFruitModel", name := "eatersOfAll", desc := "()I" } : Jvm.MethodName)) : Cond) ∈ q_TT := q_tt 1658 (by decide +kernel) (by decide +kernel)
theorem t_1659 : ((Jvm.Cond.code ({ cls := "BallotFruitModel", name := "eatersOfAll", desc := "()I" } : Jvm.MethodName) prog_13_method_112_code (5 : Nat) (Option.some Jvm.ClassFile.FieldType.int)) : Cond) ∈ q_TT := q_tc7 219 rfl rfl
theorem t_1660 : ((Jvm.Cond.constant "BallotFruitModel" (441 : Nat) (100000 : Int32)) : Cond) ∈ q_TT := q_tt 1660 (by decide +kernel) (by decide +kernel)
theorem t_1661 : ((Jvm.Cond.methodLink "BallotFruitModel" (442 : Nat) ({ cls := "BallotFruitModel", name := "likersOf", desc := "(II)I" } : Jvm.MethodName)) : Cond) ∈ q_TT := q_tt 1661 (by decide +kernel) (by decide +kernel)
theorem t_1663 : ((Jvm.Cond.instanceMethod ({ cls := "BallotFruitModel", name := "likersOf", desc := "(II)I" } : Jvm.MethodName)) : Cond) ∈ q_TT := q_tt 1663 (by decide +kernel) (by decide +kernel)
theorem t_1664 : ((Jvm.Cond.code ({ cls := "BallotFruitModel", name := "likersOf", desc := "(II)I" } : Jvm.MethodName) prog_13_method_113_code (5 : Nat) (Option.some Jvm.ClassFile.FieldType.int)) : Cond) ∈ q_TT := q_tc7 224 rfl rfl
theorem t_1665 : ((Jvm.Cond.methodLink "BallotFruitLaw" (123 : Nat) ({ cls := "BallotFruitModel", name := "left", desc := "(I)I" } : Jvm.MethodName)) : Cond) ∈ q_TT := q_tt 1665 (by decide +kernel) (by decide +kernel)
theorem t_1666 : ((Jvm.Cond.instanceMethod ({ cls := "BallotFruitModel", name := "left", desc := "(I)I" } : Jvm.MethodName)) : Cond) ∈ q_TT := q_tt 1666 (by decide +kernel) (by decide +kernel)
theorem t_1667 : ((Jvm.Cond.selects "BallotFruitModel" ({ cls := "BallotFruitModel", name := "left", desc := "(I)I" } : Jvm.MethodName) ({ cls := "BallotFruitModel", name := "left", desc := "(I)I" } : Jvm.MethodName)) : Cond) ∈ q_TT := q_tt 1667 (by decide +kernel) (by decide +kernel)
theorem t_1668 : ((Jvm.Cond.code ({ cls := "BallotFruitModel", name := "left", desc := "(I)I" } : Jvm.MethodName) prog_13_method_115_code (6 : Nat) (Option.some Jvm.ClassFile.FieldType.int)) : Cond) ∈ q_TT := q_tc7 228 rfl rfl
theorem t_1669 : ((Jvm.Cond.constant "BallotFruitModel" (445 : Nat) (1000000007 : Int32)) : Cond) ∈ q_TT := q_tt 1669 (by decide +kernel) (by decide +kernel)
theorem t_1670 : ((Jvm.Cond.methodLink "BallotFruitLaw" (127 : Nat) ({ cls := "BallotFruitModel", name := "rules", desc := "(I)I" } : Jvm.MethodName)) : Cond) ∈ q_TT := q_tt 1670 (by decide +kernel) (by decide +kernel)
theorem t_1671 : ((Jvm.Cond.instanceMethod ({ cls := "BallotFruitModel", name := "rules", desc := "(I)I" } : Jvm.MethodName)) : Cond) ∈ q_TT := q_tt 1671 (by decide +kernel) (by decide +kernel)
theorem t_1672 : ((Jvm.Cond.selects "BallotFruitModel" ({ cls := "BallotFruitModel", name := "rules", desc := "(I)I" } : Jvm.MethodName) ({ cls := "BallotFruitModel", name := "rules", desc := "(I)I" } : Jvm.MethodName)) : Cond) ∈ q_TT := q_tt 1672 (by decide +kernel) (by decide +kernel)
theorem t_1673 : ((Jvm.Cond.code ({ cls := "BallotFruitModel", name := "rules", desc := "(I)I" } : Jvm.MethodName) prog_13_method_118_code (4 : Nat) (Option.some Jvm.ClassFile.FieldType.int)) : Cond) ∈ q_TT := q_tc7 233 rfl rfl
theorem t_1674 : ((Jvm.Cond.methodLink "BallotFruitModel" (449 : Nat) ({ cls := "BallotFruitModel", name := "doesRule", desc := "(I)Z" } : Jvm.MethodName)) : Cond) ∈ q_TT := q_tt 1674 (by decide +kernel) (by decide +kernel)
theorem t_1676 : ((Jvm.Cond.instanceMethod ({ cls := "BallotFruitModel", name := "doesRule", desc := "(I)Z" } : Jvm.MethodName)) : Cond) ∈ q_TT := q_tt 1676 (by decide +kernel) (by decide +kernel)
theorem t_1677 : ((Jvm.Cond.code ({ cls := "BallotFruitModel", name := "doesRule", desc := "(I)Z" } : Jvm.MethodName) prog_13_method_117_code (2 : Nat) (Option.some Jvm.ClassFile.FieldType.boolean)) : Cond) ∈ q_TT := q_tc7 237 rfl rfl
theorem t_1678 : ((Jvm.Cond.methodLink "BallotFruitModel" (446 : Nat) ({ cls := "BallotFruitModel", name := "seatsOf", desc := "(I)I" } : Jvm.MethodName)) : Cond) ∈ q_TT := q_tt 1678 (by decide +kernel) (by decide +kernel)
theorem t_1680 : ((Jvm.Cond.instanceMethod ({ cls := "BallotFruitModel", name := "seatsOf", desc := "(I)I" } : Jvm.MethodName)) : Cond) ∈ q_TT := q_tt 1680 (by decide +kernel) (by decide +kernel)
theorem t_1681 : ((Jvm.Cond.code ({ cls := "BallotFruitModel", name := "seatsOf", desc := "(I)I" } : Jvm.MethodName) prog_13_method_116_code (4 : Nat) (Option.some Jvm.ClassFile.FieldType.int)) : Cond) ∈ q_TT := q_tc8 1 rfl rfl
theorem t_1682 : ((Jvm.Cond.methodLink "BallotFruitLaw" (131 : Nat) ({ cls := "BallotFruitModel", name := "weighs", desc := "(I)I" } : Jvm.MethodName)) : Cond) ∈ q_TT := q_tt 1682 (by decide +kernel) (by decide +kernel)
theorem t_1683 : ((Jvm.Cond.instanceMethod ({ cls := "BallotFruitModel", name := "weighs", desc := "(I)I" } : Jvm.MethodName)) : Cond) ∈ q_TT := q_tt 1683 (by decide +kernel) (by decide +kernel)
theorem t_1684 : ((Jvm.Cond.selects "BallotFruitModel" ({ cls := "BallotFruitModel", name := "weighs", desc := "(I)I" } : Jvm.MethodName) ({ cls := "BallotFruitModel", name := "weighs", desc := "(I)I" } : Jvm.MethodName)) : Cond) ∈ q_TT := q_tt 1684 (by decide +kernel) (by decide +kernel)
theorem t_1685 : ((Jvm.Cond.code ({ cls := "BallotFruitModel", name := "weighs", desc := "(I)I" } : Jvm.MethodName) prog_13_method_119_code (4 : Nat) (Option.some Jvm.ClassFile.FieldType.int)) : Cond) ∈ q_TT := q_tc8 5 rfl rfl
theorem t_1686 : ((Jvm.Cond.methodLink "BallotFruitLaw" (135 : Nat) ({ cls := "BallotFruitModel", name := "lasts", desc := "(I)I" } : Jvm.MethodName)) : Cond) ∈ q_TT := q_tt 1686 (by decide +kernel) (by decide +kernel)
theorem t_1687 : ((Jvm.Cond.instanceMethod ({ cls := "BallotFruitModel", name := "lasts", desc := "(I)I" } : Jvm.MethodName)) : Cond) ∈ q_TT := q_tt 1687 (by decide +kernel) (by decide +kernel)
theorem t_1688 : ((Jvm.Cond.selects "BallotFruitModel" ({ cls := "BallotFruitModel", name := "lasts", desc := "(I)I" } : Jvm.MethodName) ({ cls := "BallotFruitModel", name := "lasts", desc := "(I)I" } : Jvm.MethodName)) : Cond) ∈ q_TT := q_tt 1688 (by decide +kernel) (by decide +kernel)
theorem t_1689 : ((Jvm.Cond.code ({ cls := "BallotFruitModel", name := "lasts", desc := "(I)I" } : Jvm.MethodName) prog_13_method_120_code (4 : Nat) (Option.some Jvm.ClassFile.FieldType.int)) : Cond) ∈ q_TT := q_tc8 9 rfl rfl
theorem t_1690 : ((Jvm.Cond.methodLink "BallotFruitLaw" (139 : Nat) ({ cls := "BallotFruitModel", name := "meets", desc := "(II)I" } : Jvm.MethodName)) : Cond) ∈ q_TT := q_tt 1690 (by decide +kernel) (by decide +kernel)
theorem t_1691 : ((Jvm.Cond.instanceMethod ({ cls := "BallotFruitModel", name := "meets", desc := "(II)I" } : Jvm.MethodName)) : Cond) ∈ q_TT := q_tt 1691 (by decide +kernel) (by decide +kernel)
theorem t_1692 : ((Jvm.Cond.selects "BallotFruitModel" ({ cls := "BallotFruitModel", name := "meets", desc := "(II)I" } : Jvm.MethodName) ({ cls := "BallotFruitModel", name := "meets", desc := "(II)I" } : Jvm.MethodName)) : Cond) ∈ q_TT := q_tt 1692 (by decide +kernel) (by decide +kernel)
theorem t_1693 : ((Jvm.Cond.code ({ cls := "BallotFruitModel", name := "meets", desc := "(II)I" } : Jvm.MethodName) prog_13_method_121_code (3 : Nat) (Option.some Jvm.ClassFile.FieldType.int)) : Cond) ∈ q_TT := q_tc8 13 rfl rfl
theorem t_1694 : ((Jvm.Cond.methodLink "BallotFruitLaw" (143 : Nat) ({ cls := "BallotFruitModel", name := "game", desc := "(I)I" } : Jvm.MethodName)) : Cond) ∈ q_TT := q_tt 1694 (by decide +kernel) (by decide +kernel)
theorem t_1695 : ((Jvm.Cond.instanceMethod ({ cls := "BallotFruitModel", name := "game", desc := "(I)I" } : Jvm.MethodName)) : Cond) ∈ q_TT := q_tt 1695 (by decide +kernel) (by decide +kernel)
theorem t_1696 : ((Jvm.Cond.selects "BallotFruitModel" ({ cls := "BallotFruitModel", name := "game", desc := "(I)I" } : Jvm.MethodName) ({ cls := "BallotFruitModel", name := "game", desc := "(I)I" } : Jvm.MethodName)) : Cond) ∈ q_TT := q_tt 1696 (by decide +kernel) (by decide +kernel)
theorem t_1697 : ((Jvm.Cond.code ({ cls := "BallotFruitModel", name := "game", desc := "(I)I" } : Jvm.MethodName) prog_13_method_122_code (6 : Nat) (Option.some Jvm.ClassFile.FieldType.int)) : Cond) ∈ q_TT := q_tc8 17 rfl rfl
theorem t_1698 : ((Jvm.Cond.methodLink "BallotFruitLaw" (153 : Nat) ({ cls := "BallotFruitModel", name := "image", desc := "(Z)Z" } : Jvm.MethodName)) : Cond) ∈ q_TT := q_tt 1698 (by decide +kernel) (by decide +kernel)
theorem t_1699 : ((Jvm.Cond.instanceMethod ({ cls := "BallotFruitModel", name := "image", desc := "(Z)Z" } : Jvm.MethodName)) : Cond) ∈ q_TT := q_tt 1699 (by decide +kernel) (by decide +kernel)
theorem t_1700 : ((Jvm.Cond.selects "BallotFruitModel" ({ cls := "BallotFruitModel", name := "image", desc := "(Z)Z" } : Jvm.MethodName) ({ cls := "BallotFruitModel", name := "image", desc := "(Z)Z" } : Jvm.MethodName)) : Cond) ∈ q_TT := q_tt 1700 (by decide +kernel) (by decide +kernel)
theorem t_1701 : ((Jvm.Cond.code ({ cls := "BallotFruitModel", name := "image", desc := "(Z)Z" } : Jvm.MethodName) prog_13_method_126_code (3 : Nat) (Option.some Jvm.ClassFile.FieldType.boolean)) : Cond) ∈ q_TT := q_tc8 21 rfl rfl
theorem t_1702 : ((Jvm.Cond.methodLink "BallotFruitModel" (458 : Nat) ({ cls := "BallotFruitModel", name := "keeps", desc := "(I)I" } : Jvm.MethodName)) : Cond) ∈ q_TT := q_tt 1702 (by decide +kernel) (by decide +kernel)
theorem t_1704 : ((Jvm.Cond.instanceMethod ({ cls := "BallotFruitModel", name := "keeps", desc := "(I)I" } : Jvm.MethodName)) : Cond) ∈ q_TT := q_tt 1704 (by decide +kernel) (by decide +kernel)
theorem t_1705 : ((Jvm.Cond.code ({ cls := "BallotFruitModel", name := "keeps", desc := "(I)I" } : Jvm.MethodName) prog_13_method_123_code (2 : Nat) (Option.some Jvm.ClassFile.FieldType.int)) : Cond) ∈ q_TT := q_tc8 25 rfl rfl
theorem t_1706 : ((Jvm.Cond.methodLink "BallotFruitModel" (464 : Nat) ({ cls := "BallotFruitModel", name := "keepsTold", desc := "()V" } : Jvm.MethodName)) : Cond) ∈ q_TT := q_tt 1706 (by decide +kernel) (by decide +kernel)
theorem t_1708 : ((Jvm.Cond.instanceMethod ({ cls := "BallotFruitModel", name := "keepsTold", desc := "()V" } : Jvm.MethodName)) : Cond) ∈ q_TT := q_tt 1708 (by decide +kernel) (by decide +kernel)
theorem t_1709 : ((Jvm.Cond.code ({ cls := "BallotFruitModel", name := "keepsTold", desc := "()V" } : Jvm.MethodName) prog_13_method_125_code (2 : Nat) (Option.none : Option Jvm.ClassFile.FieldType)) : Cond) ∈ q_TT := q_tc8 29 rfl rfl
theorem t_1710 : ((Jvm.Cond.methodLink "BallotFruitModel" (467 : Nat) ({ cls := "BallotFruitModel", name := "keepsLaw", desc := "()V" } : Jvm.MethodName)) : Cond) ∈ q_TT := q_tt 1710 (by decide +kernel) (by decide +kernel)
theorem t_1712 : ((Jvm.Cond.instanceMethod ({ cls := "BallotFruitModel", name := "keepsLaw", desc := "()V" } : Jvm.MethodName)) : Cond) ∈ q_TT := q_tt 1712 (by decide +kernel) (by decide +kernel)
theorem t_1713 : ((Jvm.Cond.code ({ cls := "BallotFruitModel", name := "keepsLaw", desc := "()V" } : Jvm.MethodName) prog_13_method_124_code (2 : Nat) (Option.none : Option Jvm.ClassFile.FieldType)) : Cond) ∈ q_TT := q_tc8 33 rfl rfl
theorem t_1714 : ((Jvm.Cond.methodLink "BallotFruitLaw" (157 : Nat) ({ cls := "BallotFruitModel", name := "look", desc := "(I)I" } : Jvm.MethodName)) : Cond) ∈ q_TT := q_tt 1714 (by decide +kernel) (by decide +kernel)
theorem t_1715 : ((Jvm.Cond.instanceMethod ({ cls := "BallotFruitModel", name := "look", desc := "(I)I" } : Jvm.MethodName)) : Cond) ∈ q_TT := q_tt 1715 (by decide +kernel) (by decide +kernel)
theorem t_1716 : ((Jvm.Cond.selects "BallotFruitModel" ({ cls := "BallotFruitModel", name := "look", desc := "(I)I" } : Jvm.MethodName) ({ cls := "BallotFruitModel", name := "look", desc := "(I)I" } : Jvm.MethodName)) : Cond) ∈ q_TT := q_tt 1716 (by decide +kernel) (by decide +kernel)
theorem t_1717 : ((Jvm.Cond.code ({ cls := "BallotFruitModel", name := "look", desc := "(I)I" } : Jvm.MethodName) prog_13_method_127_code (2 : Nat) (Option.some Jvm.ClassFile.FieldType.int)) : Cond) ∈ q_TT := q_tc8 37 rfl rfl
theorem t_1718 : ((Jvm.Cond.fieldLink "java/lang/String" (9 : Nat) "java/lang/String" "value" "[B") : Cond) ∈ q_TT := q_tt 1718 (by decide +kernel) (by decide +kernel)
theorem t_1719 : ((Jvm.Cond.fieldLink "java/lang/String" (15 : Nat) "java/lang/String" "coder" "B") : Cond) ∈ q_TT := q_tt 1719 (by decide +kernel) (by decide +kernel)
theorem tp_0 : (Cond.selects "BallotFruit" ⟨"BallotFruit", "forget", "()V"⟩ ⟨"BallotFruit", "forget", "()V"⟩ : Cond) ∈ q_TT := q_tp 0 (by decide +kernel) (by decide +kernel)
theorem tp_1 : (Cond.selects "BallotFruit" ⟨"BallotFruit", "keep", "()V"⟩ ⟨"BallotFruit", "keep", "()V"⟩ : Cond) ∈ q_TT := q_tp 1 (by decide +kernel) (by decide +kernel)
theorem tp_2 : (Cond.selects "BallotFruit$Season" ⟨"BallotFruit$Season", "begin", "()V"⟩ ⟨"BallotFruit$Season", "begin", "()V"⟩ : Cond) ∈ q_TT := q_tp 2 (by decide +kernel) (by decide +kernel)
theorem tp_3 : (Cond.selects "BallotFruit$Season" ⟨"BallotFruit$Season", "follow", "(LBallotFruit$Whole;LBallotFruit$Commune;)V"⟩ ⟨"BallotFruit$Season", "follow", "(LBallotFruit$Whole;LBallotFruit$Commune;)V"⟩ : Cond) ∈ q_TT := q_tp 3 (by decide +kernel) (by decide +kernel)
theorem tp_4 : (Cond.selects "BallotFruit$Season" ⟨"BallotFruit$Season", "act", "(LBallotFruit$Whole;LBallotFruit$Commune;I)V"⟩ ⟨"BallotFruit$Season", "act", "(LBallotFruit$Whole;LBallotFruit$Commune;I)V"⟩ : Cond) ∈ q_TT := q_tp 4 (by decide +kernel) (by decide +kernel)
theorem tp_5 : (Cond.selects "BallotFruit$Season" ⟨"BallotFruit$Season", "note", "(LBallotFruit$Whole;LBallotFruit$Commune;III)V"⟩ ⟨"BallotFruit$Season", "note", "(LBallotFruit$Whole;LBallotFruit$Commune;III)V"⟩ : Cond) ∈ q_TT := q_tp 5 (by decide +kernel) (by decide +kernel)
theorem tp_6 : (Cond.selects "BallotFruit$Law" ⟨"BallotFruit$Law", "ask", "(LBallotFruit$Commune;I)V"⟩ ⟨"BallotFruit$Law", "ask", "(LBallotFruit$Commune;I)V"⟩ : Cond) ∈ q_TT := q_tp 6 (by decide +kernel) (by decide +kernel)
theorem tp_7 : (Cond.selects "BallotFruit$Law" ⟨"BallotFruit$Law", "askTree", "(LBallotFruit$Commune;I)V"⟩ ⟨"BallotFruit$Law", "askTree", "(LBallotFruit$Commune;I)V"⟩ : Cond) ∈ q_TT := q_tp 7 (by decide +kernel) (by decide +kernel)
theorem tp_8 : (Cond.selects "BallotFruit$Law" ⟨"BallotFruit$Law", "tell", "(II)I"⟩ ⟨"BallotFruit$Law", "tell", "(II)I"⟩ : Cond) ∈ q_TT := q_tp 8 (by decide +kernel) (by decide +kernel)
theorem tp_9 : (Cond.selects "BallotFruit$Law" ⟨"BallotFruit$Law", "value", "(II)I"⟩ ⟨"BallotFruit$Law", "value", "(II)I"⟩ : Cond) ∈ q_TT := q_tp 9 (by decide +kernel) (by decide +kernel)
theorem tp_10 : (Cond.selects "BallotFruit$Season" ⟨"BallotFruit$Season", "eat", "(LBallotFruit$Whole;LBallotFruit$Commune;I)V"⟩ ⟨"BallotFruit$Season", "eat", "(LBallotFruit$Whole;LBallotFruit$Commune;I)V"⟩ : Cond) ∈ q_TT := q_tp 10 (by decide +kernel) (by decide +kernel)
theorem tp_11 : (Cond.selects "BallotFruit$Season" ⟨"BallotFruit$Season", "pick", "(LBallotFruit$Whole;LBallotFruit$Commune;III)I"⟩ ⟨"BallotFruit$Season", "pick", "(LBallotFruit$Whole;LBallotFruit$Commune;III)I"⟩ : Cond) ∈ q_TT := q_tp 11 (by decide +kernel) (by decide +kernel)
theorem tp_12 : (Cond.selects "BallotFruit$Season" ⟨"BallotFruit$Season", "count", "(LBallotFruit$Commune;II)V"⟩ ⟨"BallotFruit$Season", "count", "(LBallotFruit$Commune;II)V"⟩ : Cond) ∈ q_TT := q_tp 12 (by decide +kernel) (by decide +kernel)
theorem tp_13 : (Cond.selects "BallotFruit$Season" ⟨"BallotFruit$Season", "spoon", "(LBallotFruit$Whole;LBallotFruit$Commune;II)I"⟩ ⟨"BallotFruit$Season", "spoon", "(LBallotFruit$Whole;LBallotFruit$Commune;II)I"⟩ : Cond) ∈ q_TT := q_tp 13 (by decide +kernel) (by decide +kernel)
theorem tp_14 : (Cond.selects "BallotFruit$Season" ⟨"BallotFruit$Season", "sting", "(LBallotFruit$Whole;LBallotFruit$Commune;)V"⟩ ⟨"BallotFruit$Season", "sting", "(LBallotFruit$Whole;LBallotFruit$Commune;)V"⟩ : Cond) ∈ q_TT := q_tp 14 (by decide +kernel) (by decide +kernel)
theorem tp_15 : (Cond.selects "BallotFruit$Season" ⟨"BallotFruit$Season", "vote", "(LBallotFruit$Whole;LBallotFruit$Commune;)V"⟩ ⟨"BallotFruit$Season", "vote", "(LBallotFruit$Whole;LBallotFruit$Commune;)V"⟩ : Cond) ∈ q_TT := q_tp 15 (by decide +kernel) (by decide +kernel)
theorem tp_16 : (Cond.selects "BallotFruit$Commune" ⟨"BallotFruit$Commune", "greatestRemainder", "(II)I"⟩ ⟨"BallotFruit$Commune", "greatestRemainder", "(II)I"⟩ : Cond) ∈ q_TT := q_tp 16 (by decide +kernel) (by decide +kernel)
theorem tp_17 : (Cond.selects "BallotFruit$Tape" ⟨"BallotFruit$Tape", "word", "(Ljava/lang/String;II)I"⟩ ⟨"BallotFruit$Tape", "word", "(Ljava/lang/String;II)I"⟩ : Cond) ∈ q_TT := q_tp 17 (by decide +kernel) (by decide +kernel)
theorem tp_18 : (Cond.selects "BallotFruit$Tape" ⟨"BallotFruit$Tape", "addToken", "(III)V"⟩ ⟨"BallotFruit$Tape", "addToken", "(III)V"⟩ : Cond) ∈ q_TT := q_tp 18 (by decide +kernel) (by decide +kernel)
theorem tp_19 : (Cond.selects "BallotFruit$Tape" ⟨"BallotFruit$Tape", "number", "(II)I"⟩ ⟨"BallotFruit$Tape", "number", "(II)I"⟩ : Cond) ∈ q_TT := q_tp 19 (by decide +kernel) (by decide +kernel)
theorem tp_20 : (Cond.selects "BallotFruit$Reader" ⟨"BallotFruit$Reader", "kind", "()I"⟩ ⟨"BallotFruit$Reader", "kind", "()I"⟩ : Cond) ∈ q_TT := q_tp 20 (by decide +kernel) (by decide +kernel)
theorem tp_21 : (Cond.selects "BallotFruit$Reader" ⟨"BallotFruit$Reader", "lawLine", "(I)Z"⟩ ⟨"BallotFruit$Reader", "lawLine", "(I)Z"⟩ : Cond) ∈ q_TT := q_tp 21 (by decide +kernel) (by decide +kernel)
theorem tp_22 : (Cond.selects "BallotFruit$Reader" ⟨"BallotFruit$Reader", "fail", "(I)Z"⟩ ⟨"BallotFruit$Reader", "fail", "(I)Z"⟩ : Cond) ∈ q_TT := q_tp 22 (by decide +kernel) (by decide +kernel)
theorem tp_23 : (Cond.selects "BallotFruit$Reader" ⟨"BallotFruit$Reader", "sum", "()Z"⟩ ⟨"BallotFruit$Reader", "sum", "()Z"⟩ : Cond) ∈ q_TT := q_tp 23 (by decide +kernel) (by decide +kernel)
theorem tp_24 : (Cond.selects "BallotFruit$Reader" ⟨"BallotFruit$Reader", "operand", "()Z"⟩ ⟨"BallotFruit$Reader", "operand", "()Z"⟩ : Cond) ∈ q_TT := q_tp 24 (by decide +kernel) (by decide +kernel)
theorem tp_25 : (Cond.selects "BallotFruit$Reader" ⟨"BallotFruit$Reader", "number", "(II)I"⟩ ⟨"BallotFruit$Reader", "number", "(II)I"⟩ : Cond) ∈ q_TT := q_tp 25 (by decide +kernel) (by decide +kernel)
theorem tp_26 : (Cond.selects "BallotFruit$Reader" ⟨"BallotFruit$Reader", "condition", "(I)Z"⟩ ⟨"BallotFruit$Reader", "condition", "(I)Z"⟩ : Cond) ∈ q_TT := q_tp 26 (by decide +kernel) (by decide +kernel)
theorem tp_27 : (Cond.selects "BallotFruit$Reader" ⟨"BallotFruit$Reader", "single", "(I)Z"⟩ ⟨"BallotFruit$Reader", "single", "(I)Z"⟩ : Cond) ∈ q_TT := q_tp 27 (by decide +kernel) (by decide +kernel)
theorem tp_28 : (Cond.selects "BallotFruit$Reader" ⟨"BallotFruit$Reader", "takes", "(I)Z"⟩ ⟨"BallotFruit$Reader", "takes", "(I)Z"⟩ : Cond) ∈ q_TT := q_tp 28 (by decide +kernel) (by decide +kernel)
theorem tp_29 : (Cond.selects "BallotFruit$Reader" ⟨"BallotFruit$Reader", "pathLine", "(I)Z"⟩ ⟨"BallotFruit$Reader", "pathLine", "(I)Z"⟩ : Cond) ∈ q_TT := q_tp 29 (by decide +kernel) (by decide +kernel)
theorem tp_30 : (Cond.selects "BallotFruit$Reader" ⟨"BallotFruit$Reader", "begins", "(II)Z"⟩ ⟨"BallotFruit$Reader", "begins", "(II)Z"⟩ : Cond) ∈ q_TT := q_tp 30 (by decide +kernel) (by decide +kernel)
theorem tp_31 : (Cond.selects "BallotFruit$Reader" ⟨"BallotFruit$Reader", "planLine", "(I)Z"⟩ ⟨"BallotFruit$Reader", "planLine", "(I)Z"⟩ : Cond) ∈ q_TT := q_tp 31 (by decide +kernel) (by decide +kernel)
theorem tp_32 : (Cond.selects "BallotFruit" ⟨"BallotFruit", "weeksToLastSeating", "(I)I"⟩ ⟨"BallotFruit", "weeksToLastSeating", "(I)I"⟩ : Cond) ∈ q_TT := q_tp 32 (by decide +kernel) (by decide +kernel)
theorem tp_33 : (Cond.selects "BallotFruit" ⟨"BallotFruit", "firstPartyBehind", "(III)I"⟩ ⟨"BallotFruit", "firstPartyBehind", "(III)I"⟩ : Cond) ∈ q_TT := q_tp 33 (by decide +kernel) (by decide +kernel)
theorem tp_34 : (Cond.selects "BallotFruit" ⟨"BallotFruit", "isEachFedAt", "(I)Z"⟩ ⟨"BallotFruit", "isEachFedAt", "(I)Z"⟩ : Cond) ∈ q_TT := q_tp 34 (by decide +kernel) (by decide +kernel)
theorem tp_35 : (Cond.selects "BallotFruit" ⟨"BallotFruit", "askNext", "(I)I"⟩ ⟨"BallotFruit", "askNext", "(I)I"⟩ : Cond) ∈ q_TT := q_tp 35 (by decide +kernel) (by decide +kernel)
theorem tp_36 : (Cond.selects "BallotFruit" ⟨"BallotFruit", "leaveUpTo", "(II)V"⟩ ⟨"BallotFruit", "leaveUpTo", "(II)V"⟩ : Cond) ∈ q_TT := q_tp 36 (by decide +kernel) (by decide +kernel)
theorem tp_37 : (Cond.selects "BallotFruitModel" ⟨"BallotFruitModel", "isIn", "(III)Z"⟩ ⟨"BallotFruitModel", "isIn", "(III)Z"⟩ : Cond) ∈ q_TT := q_tp 37 (by decide +kernel) (by decide +kernel)
theorem tp_38 : (Cond.selects "BallotFruitModel" ⟨"BallotFruitModel", "isEater", "(I)Z"⟩ ⟨"BallotFruitModel", "isEater", "(I)Z"⟩ : Cond) ∈ q_TT := q_tp 38 (by decide +kernel) (by decide +kernel)
theorem tp_39 : (Cond.selects "BallotFruitModel" ⟨"BallotFruitModel", "isParty", "(I)Z"⟩ ⟨"BallotFruitModel", "isParty", "(I)Z"⟩ : Cond) ∈ q_TT := q_tp 39 (by decide +kernel) (by decide +kernel)
theorem tp_40 : (Cond.selects "BallotFruitModel" ⟨"BallotFruitModel", "tasteBe", "(III)V"⟩ ⟨"BallotFruitModel", "tasteBe", "(III)V"⟩ : Cond) ∈ q_TT := q_tp 40 (by decide +kernel) (by decide +kernel)
theorem tp_41 : (Cond.selects "BallotFruitModel" ⟨"BallotFruitModel", "held", "(III)I"⟩ ⟨"BallotFruitModel", "held", "(III)I"⟩ : Cond) ∈ q_TT := q_tp 41 (by decide +kernel) (by decide +kernel)
theorem tp_42 : (Cond.selects "BallotFruitModel" ⟨"BallotFruitModel", "canSet", "(III)Z"⟩ ⟨"BallotFruitModel", "canSet", "(III)Z"⟩ : Cond) ∈ q_TT := q_tp 42 (by decide +kernel) (by decide +kernel)
theorem tp_43 : (Cond.selects "BallotFruitModel" ⟨"BallotFruitModel", "isTree", "(I)Z"⟩ ⟨"BallotFruitModel", "isTree", "(I)Z"⟩ : Cond) ∈ q_TT := q_tp 43 (by decide +kernel) (by decide +kernel)
theorem tp_44 : (Cond.selects "BallotFruitModel" ⟨"BallotFruitModel", "types", "(I)V"⟩ ⟨"BallotFruitModel", "types", "(I)V"⟩ : Cond) ∈ q_TT := q_tp 44 (by decide +kernel) (by decide +kernel)
theorem tp_45 : (Cond.selects "BallotFruitModel" ⟨"BallotFruitModel", "readsText", "(I)I"⟩ ⟨"BallotFruitModel", "readsText", "(I)I"⟩ : Cond) ∈ q_TT := q_tp 45 (by decide +kernel) (by decide +kernel)
theorem tp_46 : (Cond.selects "BallotFruitModel" ⟨"BallotFruitModel", "reads", "()V"⟩ ⟨"BallotFruitModel", "reads", "()V"⟩ : Cond) ∈ q_TT := q_tp 46 (by decide +kernel) (by decide +kernel)
theorem tp_47 : (Cond.selects "BallotFruitModel" ⟨"BallotFruitModel", "raw", "(I)I"⟩ ⟨"BallotFruitModel", "raw", "(I)I"⟩ : Cond) ∈ q_TT := q_tp 47 (by decide +kernel) (by decide +kernel)
theorem tp_48 : (Cond.selects "BallotFruitModel" ⟨"BallotFruitModel", "isLetter", "(I)Z"⟩ ⟨"BallotFruitModel", "isLetter", "(I)Z"⟩ : Cond) ∈ q_TT := q_tp 48 (by decide +kernel) (by decide +kernel)
theorem tp_49 : (Cond.selects "BallotFruitModel" ⟨"BallotFruitModel", "wordAt", "(II)I"⟩ ⟨"BallotFruitModel", "wordAt", "(II)I"⟩ : Cond) ∈ q_TT := q_tp 49 (by decide +kernel) (by decide +kernel)
theorem tp_50 : (Cond.selects "BallotFruitModel" ⟨"BallotFruitModel", "isDigit", "(I)Z"⟩ ⟨"BallotFruitModel", "isDigit", "(I)Z"⟩ : Cond) ∈ q_TT := q_tp 50 (by decide +kernel) (by decide +kernel)
theorem tp_51 : (Cond.selects "BallotFruitModel" ⟨"BallotFruitModel", "isMarkSign", "(I)Z"⟩ ⟨"BallotFruitModel", "isMarkSign", "(I)Z"⟩ : Cond) ∈ q_TT := q_tp 51 (by decide +kernel) (by decide +kernel)
theorem tp_52 : (Cond.selects "BallotFruitModel" ⟨"BallotFruitModel", "readPaths", "()I"⟩ ⟨"BallotFruitModel", "readPaths", "()I"⟩ : Cond) ∈ q_TT := q_tp 52 (by decide +kernel) (by decide +kernel)
theorem tp_53 : (Cond.selects "BallotFruitModel" ⟨"BallotFruitModel", "isWord", "(I)Z"⟩ ⟨"BallotFruitModel", "isWord", "(I)Z"⟩ : Cond) ∈ q_TT := q_tp 53 (by decide +kernel) (by decide +kernel)
theorem tp_54 : (Cond.selects "BallotFruitModel" ⟨"BallotFruitModel", "errs", "(I)I"⟩ ⟨"BallotFruitModel", "errs", "(I)I"⟩ : Cond) ∈ q_TT := q_tp 54 (by decide +kernel) (by decide +kernel)
theorem tp_55 : (Cond.selects "BallotFruitModel" ⟨"BallotFruitModel", "readPath", "()I"⟩ ⟨"BallotFruitModel", "readPath", "()I"⟩ : Cond) ∈ q_TT := q_tp 55 (by decide +kernel) (by decide +kernel)
theorem tp_56 : (Cond.selects "BallotFruitModel" ⟨"BallotFruitModel", "readTold", "(III)I"⟩ ⟨"BallotFruitModel", "readTold", "(III)I"⟩ : Cond) ∈ q_TT := q_tp 56 (by decide +kernel) (by decide +kernel)
theorem tp_57 : (Cond.selects "BallotFruitModel" ⟨"BallotFruitModel", "readNumber", "(II)I"⟩ ⟨"BallotFruitModel", "readNumber", "(II)I"⟩ : Cond) ∈ q_TT := q_tp 57 (by decide +kernel) (by decide +kernel)
theorem tp_58 : (Cond.selects "BallotFruitModel" ⟨"BallotFruitModel", "readMark", "(I)I"⟩ ⟨"BallotFruitModel", "readMark", "(I)I"⟩ : Cond) ∈ q_TT := q_tp 58 (by decide +kernel) (by decide +kernel)
theorem tp_59 : (Cond.selects "BallotFruitModel" ⟨"BallotFruitModel", "isSign", "(I)Z"⟩ ⟨"BallotFruitModel", "isSign", "(I)Z"⟩ : Cond) ∈ q_TT := q_tp 59 (by decide +kernel) (by decide +kernel)
theorem tp_60 : (Cond.selects "BallotFruitModel" ⟨"BallotFruitModel", "readPlan", "()I"⟩ ⟨"BallotFruitModel", "readPlan", "()I"⟩ : Cond) ∈ q_TT := q_tp 60 (by decide +kernel) (by decide +kernel)
theorem tp_61 : (Cond.selects "BallotFruitModel" ⟨"BallotFruitModel", "readPlanLine", "(I)I"⟩ ⟨"BallotFruitModel", "readPlanLine", "(I)I"⟩ : Cond) ∈ q_TT := q_tp 61 (by decide +kernel) (by decide +kernel)
theorem tp_62 : (Cond.selects "BallotFruitModel" ⟨"BallotFruitModel", "readDeed", "(II)I"⟩ ⟨"BallotFruitModel", "readDeed", "(II)I"⟩ : Cond) ∈ q_TT := q_tp 62 (by decide +kernel) (by decide +kernel)
theorem tp_63 : (Cond.selects "BallotFruitModel" ⟨"BallotFruitModel", "readLaw", "()I"⟩ ⟨"BallotFruitModel", "readLaw", "()I"⟩ : Cond) ∈ q_TT := q_tp 63 (by decide +kernel) (by decide +kernel)
theorem tp_64 : (Cond.selects "BallotFruitModel" ⟨"BallotFruitModel", "isLineWord", "()Z"⟩ ⟨"BallotFruitModel", "isLineWord", "()Z"⟩ : Cond) ∈ q_TT := q_tp 64 (by decide +kernel) (by decide +kernel)
theorem tp_65 : (Cond.selects "BallotFruitModel" ⟨"BallotFruitModel", "readSum", "()I"⟩ ⟨"BallotFruitModel", "readSum", "()I"⟩ : Cond) ∈ q_TT := q_tp 65 (by decide +kernel) (by decide +kernel)
theorem tp_66 : (Cond.selects "BallotFruitModel" ⟨"BallotFruitModel", "readProduct", "()I"⟩ ⟨"BallotFruitModel", "readProduct", "()I"⟩ : Cond) ∈ q_TT := q_tp 66 (by decide +kernel) (by decide +kernel)
theorem tp_67 : (Cond.selects "BallotFruitModel" ⟨"BallotFruitModel", "readUnit", "()I"⟩ ⟨"BallotFruitModel", "readUnit", "()I"⟩ : Cond) ∈ q_TT := q_tp 67 (by decide +kernel) (by decide +kernel)
theorem tp_68 : (Cond.selects "BallotFruitModel" ⟨"BallotFruitModel", "canAsk", "(I)Z"⟩ ⟨"BallotFruitModel", "canAsk", "(I)Z"⟩ : Cond) ∈ q_TT := q_tp 68 (by decide +kernel) (by decide +kernel)
theorem tp_69 : (Cond.selects "BallotFruitModel" ⟨"BallotFruitModel", "emits", "(II)V"⟩ ⟨"BallotFruitModel", "emits", "(II)V"⟩ : Cond) ∈ q_TT := q_tp 69 (by decide +kernel) (by decide +kernel)
theorem tp_70 : (Cond.selects "BallotFruitModel" ⟨"BallotFruitModel", "readAny", "()I"⟩ ⟨"BallotFruitModel", "readAny", "()I"⟩ : Cond) ∈ q_TT := q_tp 70 (by decide +kernel) (by decide +kernel)
theorem tp_71 : (Cond.selects "BallotFruitModel" ⟨"BallotFruitModel", "waits", "(I)V"⟩ ⟨"BallotFruitModel", "waits", "(I)V"⟩ : Cond) ∈ q_TT := q_tp 71 (by decide +kernel) (by decide +kernel)
theorem tp_72 : (Cond.selects "BallotFruitModel" ⟨"BallotFruitModel", "readCompared", "()I"⟩ ⟨"BallotFruitModel", "readCompared", "()I"⟩ : Cond) ∈ q_TT := q_tp 72 (by decide +kernel) (by decide +kernel)
theorem tp_73 : (Cond.selects "BallotFruitModel" ⟨"BallotFruitModel", "settles", "(I)V"⟩ ⟨"BallotFruitModel", "settles", "(I)V"⟩ : Cond) ∈ q_TT := q_tp 73 (by decide +kernel) (by decide +kernel)
theorem tp_74 : (Cond.selects "BallotFruitModel" ⟨"BallotFruitModel", "takesLaw", "(I)V"⟩ ⟨"BallotFruitModel", "takesLaw", "(I)V"⟩ : Cond) ∈ q_TT := q_tp 74 (by decide +kernel) (by decide +kernel)
theorem tp_75 : (Cond.selects "BallotFruitModel" ⟨"BallotFruitModel", "takesOther", "(II)V"⟩ ⟨"BallotFruitModel", "takesOther", "(II)V"⟩ : Cond) ∈ q_TT := q_tp 75 (by decide +kernel) (by decide +kernel)
theorem tp_76 : (Cond.selects "BallotFruitModel" ⟨"BallotFruitModel", "isPlace", "(I)Z"⟩ ⟨"BallotFruitModel", "isPlace", "(I)Z"⟩ : Cond) ∈ q_TT := q_tp 76 (by decide +kernel) (by decide +kernel)
theorem tp_77 : (Cond.selects "BallotFruitModel" ⟨"BallotFruitModel", "keepsAhead", "()V"⟩ ⟨"BallotFruitModel", "keepsAhead", "()V"⟩ : Cond) ∈ q_TT := q_tp 77 (by decide +kernel) (by decide +kernel)
theorem tp_78 : (Cond.selects "BallotFruitModel" ⟨"BallotFruitModel", "plants", "(III)I"⟩ ⟨"BallotFruitModel", "plants", "(III)I"⟩ : Cond) ∈ q_TT := q_tp 78 (by decide +kernel) (by decide +kernel)
theorem tp_79 : (Cond.selects "BallotFruitModel" ⟨"BallotFruitModel", "notes", "(III)V"⟩ ⟨"BallotFruitModel", "notes", "(III)V"⟩ : Cond) ∈ q_TT := q_tp 79 (by decide +kernel) (by decide +kernel)
theorem tp_80 : (Cond.selects "BallotFruitModel" ⟨"BallotFruitModel", "isFenced", "(I)Z"⟩ ⟨"BallotFruitModel", "isFenced", "(I)Z"⟩ : Cond) ∈ q_TT := q_tp 80 (by decide +kernel) (by decide +kernel)
theorem tp_81 : (Cond.selects "BallotFruitModel" ⟨"BallotFruitModel", "has", "(II)Z"⟩ ⟨"BallotFruitModel", "has", "(II)Z"⟩ : Cond) ∈ q_TT := q_tp 81 (by decide +kernel) (by decide +kernel)
theorem tp_82 : (Cond.selects "BallotFruitModel" ⟨"BallotFruitModel", "fences", "(IZ)V"⟩ ⟨"BallotFruitModel", "fences", "(IZ)V"⟩ : Cond) ∈ q_TT := q_tp 82 (by decide +kernel) (by decide +kernel)
theorem tp_83 : (Cond.selects "BallotFruitModel" ⟨"BallotFruitModel", "boils", "(II)I"⟩ ⟨"BallotFruitModel", "boils", "(II)I"⟩ : Cond) ∈ q_TT := q_tp 83 (by decide +kernel) (by decide +kernel)
theorem tp_84 : (Cond.selects "BallotFruitModel" ⟨"BallotFruitModel", "lesser", "(II)I"⟩ ⟨"BallotFruitModel", "lesser", "(II)I"⟩ : Cond) ∈ q_TT := q_tp 84 (by decide +kernel) (by decide +kernel)
theorem tp_85 : (Cond.selects "BallotFruitModel" ⟨"BallotFruitModel", "goesBy", "()I"⟩ ⟨"BallotFruitModel", "goesBy", "()I"⟩ : Cond) ∈ q_TT := q_tp 85 (by decide +kernel) (by decide +kernel)
theorem tp_86 : (Cond.selects "BallotFruitModel" ⟨"BallotFruitModel", "does", "(I)V"⟩ ⟨"BallotFruitModel", "does", "(I)V"⟩ : Cond) ∈ q_TT := q_tp 86 (by decide +kernel) (by decide +kernel)
theorem tp_87 : (Cond.selects "BallotFruitModel" ⟨"BallotFruitModel", "bearOf", "(I)I"⟩ ⟨"BallotFruitModel", "bearOf", "(I)I"⟩ : Cond) ∈ q_TT := q_tp 87 (by decide +kernel) (by decide +kernel)
theorem tp_88 : (Cond.selects "BallotFruitModel" ⟨"BallotFruitModel", "asks", "(IIII)V"⟩ ⟨"BallotFruitModel", "asks", "(IIII)V"⟩ : Cond) ∈ q_TT := q_tp 88 (by decide +kernel) (by decide +kernel)
theorem tp_89 : (Cond.selects "BallotFruitModel" ⟨"BallotFruitModel", "lawTells", "(III)I"⟩ ⟨"BallotFruitModel", "lawTells", "(III)I"⟩ : Cond) ∈ q_TT := q_tp 89 (by decide +kernel) (by decide +kernel)
theorem tp_90 : (Cond.selects "BallotFruitModel" ⟨"BallotFruitModel", "lineOf", "(I)I"⟩ ⟨"BallotFruitModel", "lineOf", "(I)I"⟩ : Cond) ∈ q_TT := q_tp 90 (by decide +kernel) (by decide +kernel)
theorem tp_91 : (Cond.selects "BallotFruitModel" ⟨"BallotFruitModel", "runs", "(III)I"⟩ ⟨"BallotFruitModel", "runs", "(III)I"⟩ : Cond) ∈ q_TT := q_tp 91 (by decide +kernel) (by decide +kernel)
theorem tp_92 : (Cond.selects "BallotFruitModel" ⟨"BallotFruitModel", "twoOf", "(III)I"⟩ ⟨"BallotFruitModel", "twoOf", "(III)I"⟩ : Cond) ∈ q_TT := q_tp 92 (by decide +kernel) (by decide +kernel)
theorem tp_93 : (Cond.selects "BallotFruitModel" ⟨"BallotFruitModel", "eats", "()I"⟩ ⟨"BallotFruitModel", "eats", "()I"⟩ : Cond) ∈ q_TT := q_tp 93 (by decide +kernel) (by decide +kernel)
theorem tp_94 : (Cond.selects "BallotFruitModel" ⟨"BallotFruitModel", "isHungry", "(I)Z"⟩ ⟨"BallotFruitModel", "isHungry", "(I)Z"⟩ : Cond) ∈ q_TT := q_tp 94 (by decide +kernel) (by decide +kernel)
theorem tp_95 : (Cond.selects "BallotFruitModel" ⟨"BallotFruitModel", "wantOf", "(I)I"⟩ ⟨"BallotFruitModel", "wantOf", "(I)I"⟩ : Cond) ∈ q_TT := q_tp 95 (by decide +kernel) (by decide +kernel)
theorem tp_96 : (Cond.selects "BallotFruitModel" ⟨"BallotFruitModel", "leftByPath", "(II)I"⟩ ⟨"BallotFruitModel", "leftByPath", "(II)I"⟩ : Cond) ∈ q_TT := q_tp 96 (by decide +kernel) (by decide +kernel)
theorem tp_97 : (Cond.selects "BallotFruitModel" ⟨"BallotFruitModel", "treeFor", "(II)I"⟩ ⟨"BallotFruitModel", "treeFor", "(II)I"⟩ : Cond) ∈ q_TT := q_tp 97 (by decide +kernel) (by decide +kernel)
theorem tp_98 : (Cond.selects "BallotFruitModel" ⟨"BallotFruitModel", "tasteOf", "(II)I"⟩ ⟨"BallotFruitModel", "tasteOf", "(II)I"⟩ : Cond) ∈ q_TT := q_tp 98 (by decide +kernel) (by decide +kernel)
theorem tp_99 : (Cond.selects "BallotFruitModel" ⟨"BallotFruitModel", "isGood", "(II)Z"⟩ ⟨"BallotFruitModel", "isGood", "(II)Z"⟩ : Cond) ∈ q_TT := q_tp 99 (by decide +kernel) (by decide +kernel)
theorem tp_100 : (Cond.selects "BallotFruitModel" ⟨"BallotFruitModel", "countOf", "(III)I"⟩ ⟨"BallotFruitModel", "countOf", "(III)I"⟩ : Cond) ∈ q_TT := q_tp 100 (by decide +kernel) (by decide +kernel)
theorem tp_101 : (Cond.selects "BallotFruitModel" ⟨"BallotFruitModel", "counts", "(II)V"⟩ ⟨"BallotFruitModel", "counts", "(II)V"⟩ : Cond) ∈ q_TT := q_tp 101 (by decide +kernel) (by decide +kernel)
theorem tp_102 : (Cond.selects "BallotFruitModel" ⟨"BallotFruitModel", "draw", "(I)I"⟩ ⟨"BallotFruitModel", "draw", "(I)I"⟩ : Cond) ∈ q_TT := q_tp 102 (by decide +kernel) (by decide +kernel)
theorem tp_103 : (Cond.selects "BallotFruitModel" ⟨"BallotFruitModel", "jamFor", "(I)I"⟩ ⟨"BallotFruitModel", "jamFor", "(I)I"⟩ : Cond) ∈ q_TT := q_tp 103 (by decide +kernel) (by decide +kernel)
theorem tp_104 : (Cond.selects "BallotFruitModel" ⟨"BallotFruitModel", "stings", "()V"⟩ ⟨"BallotFruitModel", "stings", "()V"⟩ : Cond) ∈ q_TT := q_tp 104 (by decide +kernel) (by decide +kernel)
theorem tp_105 : (Cond.selects "BallotFruitModel" ⟨"BallotFruitModel", "every", "()I"⟩ ⟨"BallotFruitModel", "every", "()I"⟩ : Cond) ∈ q_TT := q_tp 105 (by decide +kernel) (by decide +kernel)
theorem tp_106 : (Cond.selects "BallotFruitModel" ⟨"BallotFruitModel", "elects", "()V"⟩ ⟨"BallotFruitModel", "elects", "()V"⟩ : Cond) ∈ q_TT := q_tp 106 (by decide +kernel) (by decide +kernel)
theorem tp_107 : (Cond.selects "BallotFruitModel" ⟨"BallotFruitModel", "findsGiven", "()V"⟩ ⟨"BallotFruitModel", "findsGiven", "()V"⟩ : Cond) ∈ q_TT := q_tp 107 (by decide +kernel) (by decide +kernel)
theorem tp_108 : (Cond.selects "BallotFruitModel" ⟨"BallotFruitModel", "votesInAll", "()I"⟩ ⟨"BallotFruitModel", "votesInAll", "()I"⟩ : Cond) ∈ q_TT := q_tp 108 (by decide +kernel) (by decide +kernel)
theorem tp_109 : (Cond.selects "BallotFruitModel" ⟨"BallotFruitModel", "chairs", "()I"⟩ ⟨"BallotFruitModel", "chairs", "()I"⟩ : Cond) ∈ q_TT := q_tp 109 (by decide +kernel) (by decide +kernel)
theorem tp_110 : (Cond.selects "BallotFruitModel" ⟨"BallotFruitModel", "isAhead", "(II)Z"⟩ ⟨"BallotFruitModel", "isAhead", "(II)Z"⟩ : Cond) ∈ q_TT := q_tp 110 (by decide +kernel) (by decide +kernel)
theorem tp_111 : (Cond.selects "BallotFruitModel" ⟨"BallotFruitModel", "strongest", "()I"⟩ ⟨"BallotFruitModel", "strongest", "()I"⟩ : Cond) ∈ q_TT := q_tp 111 (by decide +kernel) (by decide +kernel)
theorem tp_112 : (Cond.selects "BallotFruitModel" ⟨"BallotFruitModel", "thinks", "()V"⟩ ⟨"BallotFruitModel", "thinks", "()V"⟩ : Cond) ∈ q_TT := q_tp 112 (by decide +kernel) (by decide +kernel)
theorem tp_113 : (Cond.selects "BallotFruitModel" ⟨"BallotFruitModel", "goesFor", "(I)V"⟩ ⟨"BallotFruitModel", "goesFor", "(I)V"⟩ : Cond) ∈ q_TT := q_tp 113 (by decide +kernel) (by decide +kernel)
theorem tp_114 : (Cond.selects "BallotFruitModel" ⟨"BallotFruitModel", "endsThought", "()V"⟩ ⟨"BallotFruitModel", "endsThought", "()V"⟩ : Cond) ∈ q_TT := q_tp 114 (by decide +kernel) (by decide +kernel)
theorem tp_115 : (Cond.selects "BallotFruitModel" ⟨"BallotFruitModel", "thinksAnew", "()V"⟩ ⟨"BallotFruitModel", "thinksAnew", "()V"⟩ : Cond) ∈ q_TT := q_tp 115 (by decide +kernel) (by decide +kernel)
theorem tp_116 : (Cond.selects "BallotFruitModel" ⟨"BallotFruitModel", "greater", "(II)I"⟩ ⟨"BallotFruitModel", "greater", "(II)I"⟩ : Cond) ∈ q_TT := q_tp 116 (by decide +kernel) (by decide +kernel)
theorem tp_117 : (Cond.selects "BallotFruitModel" ⟨"BallotFruitModel", "strongestBehind", "(III)I"⟩ ⟨"BallotFruitModel", "strongestBehind", "(III)I"⟩ : Cond) ∈ q_TT := q_tp 117 (by decide +kernel) (by decide +kernel)
theorem tp_118 : (Cond.selects "BallotFruitModel" ⟨"BallotFruitModel", "onesOf", "(I)I"⟩ ⟨"BallotFruitModel", "onesOf", "(I)I"⟩ : Cond) ∈ q_TT := q_tp 118 (by decide +kernel) (by decide +kernel)
theorem tp_119 : (Cond.selects "BallotFruitModel" ⟨"BallotFruitModel", "feedsAll", "(I)Z"⟩ ⟨"BallotFruitModel", "feedsAll", "(I)Z"⟩ : Cond) ∈ q_TT := q_tp 119 (by decide +kernel) (by decide +kernel)
theorem tp_120 : (Cond.selects "BallotFruitModel" ⟨"BallotFruitModel", "placesOf", "(I)I"⟩ ⟨"BallotFruitModel", "placesOf", "(I)I"⟩ : Cond) ∈ q_TT := q_tp 120 (by decide +kernel) (by decide +kernel)
theorem tp_121 : (Cond.selects "BallotFruitModel" ⟨"BallotFruitModel", "eatersOfAll", "()I"⟩ ⟨"BallotFruitModel", "eatersOfAll", "()I"⟩ : Cond) ∈ q_TT := q_tp 121 (by decide +kernel) (by decide +kernel)
theorem tp_122 : (Cond.selects "BallotFruitModel" ⟨"BallotFruitModel", "likersOf", "(II)I"⟩ ⟨"BallotFruitModel", "likersOf", "(II)I"⟩ : Cond) ∈ q_TT := q_tp 122 (by decide +kernel) (by decide +kernel)
theorem tp_123 : (Cond.selects "BallotFruitModel" ⟨"BallotFruitModel", "doesRule", "(I)Z"⟩ ⟨"BallotFruitModel", "doesRule", "(I)Z"⟩ : Cond) ∈ q_TT := q_tp 123 (by decide +kernel) (by decide +kernel)
theorem tp_124 : (Cond.selects "BallotFruitModel" ⟨"BallotFruitModel", "seatsOf", "(I)I"⟩ ⟨"BallotFruitModel", "seatsOf", "(I)I"⟩ : Cond) ∈ q_TT := q_tp 124 (by decide +kernel) (by decide +kernel)
theorem tp_125 : (Cond.selects "BallotFruitModel" ⟨"BallotFruitModel", "keeps", "(I)I"⟩ ⟨"BallotFruitModel", "keeps", "(I)I"⟩ : Cond) ∈ q_TT := q_tp 125 (by decide +kernel) (by decide +kernel)
theorem tp_126 : (Cond.selects "BallotFruitModel" ⟨"BallotFruitModel", "keepsTold", "()V"⟩ ⟨"BallotFruitModel", "keepsTold", "()V"⟩ : Cond) ∈ q_TT := q_tp 126 (by decide +kernel) (by decide +kernel)
theorem tp_127 : (Cond.selects "BallotFruitModel" ⟨"BallotFruitModel", "keepsLaw", "()V"⟩ ⟨"BallotFruitModel", "keepsLaw", "()V"⟩ : Cond) ∈ q_TT := q_tp 127 (by decide +kernel) (by decide +kernel)
def q_nest : List Cond := [(Jvm.Cond.methodLinkNest "BallotFruit" (11 : Nat) ({ cls := "BallotFruit$Whole", name := "<init>", desc := "()V" } : Jvm.MethodName) "BallotFruit"), (Jvm.Cond.methodLinkNest "BallotFruit$Whole" (9 : Nat) ({ cls := "BallotFruit$Commune", name := "<init>", desc := "()V" } : Jvm.MethodName) "BallotFruit"), (Jvm.Cond.methodLinkNest "BallotFruit$Whole" (18 : Nat) ({ cls := "BallotFruit$Law", name := "<init>", desc := "()V" } : Jvm.MethodName) "BallotFruit"), (Jvm.Cond.methodLinkNest "BallotFruit$Whole" (25 : Nat) ({ cls := "BallotFruit$Paths", name := "<init>", desc := "()V" } : Jvm.MethodName) "BallotFruit"), (Jvm.Cond.methodLinkNest "BallotFruit$Whole" (32 : Nat) ({ cls := "BallotFruit$Plan", name := "<init>", desc := "()V" } : Jvm.MethodName) "BallotFruit"), (Jvm.Cond.methodLinkNest "BallotFruit$Whole" (39 : Nat) ({ cls := "BallotFruit$Cores", name := "<init>", desc := "()V" } : Jvm.MethodName) "BallotFruit"), (Jvm.Cond.methodLinkNest "BallotFruit$Whole" (46 : Nat) ({ cls := "BallotFruit$Pages", name := "<init>", desc := "()V" } : Jvm.MethodName) "BallotFruit"), (Jvm.Cond.methodLinkNest "BallotFruit" (34 : Nat) ({ cls := "BallotFruit$Reader", name := "<init>", desc := "()V" } : Jvm.MethodName) "BallotFruit"), (Jvm.Cond.methodLinkNest "BallotFruit$Reader" (17 : Nat) ({ cls := "BallotFruit$Tape", name := "<init>", desc := "()V" } : Jvm.MethodName) "BallotFruit"), (Jvm.Cond.methodLinkNest "BallotFruit$Reader" (24 : Nat) ({ cls := "BallotFruit$Law", name := "<init>", desc := "()V" } : Jvm.MethodName) "BallotFruit"), (Jvm.Cond.methodLinkNest "BallotFruit$Reader" (31 : Nat) ({ cls := "BallotFruit$Paths", name := "<init>", desc := "()V" } : Jvm.MethodName) "BallotFruit"), (Jvm.Cond.methodLinkNest "BallotFruit$Reader" (38 : Nat) ({ cls := "BallotFruit$Plan", name := "<init>", desc := "()V" } : Jvm.MethodName) "BallotFruit"), (Jvm.Cond.methodLinkNest "BallotFruit" (56 : Nat) ({ cls := "BallotFruit$Commune", name := "<init>", desc := "()V" } : Jvm.MethodName) "BallotFruit"), (Jvm.Cond.methodLinkNest "BallotFruit$Commune" (79 : Nat) ({ cls := "BallotFruit", name := "isWithin", desc := "(III)Z" } : Jvm.MethodName) "BallotFruit"), (Jvm.Cond.methodLinkNest "BallotFruit$Reader" (105 : Nat) ({ cls := "BallotFruit", name := "isWithin", desc := "(III)Z" } : Jvm.MethodName) "BallotFruit")]
theorem q_nest_ok : ∀ w ∈ q_nest, ∃ a i x h, w = .methodLinkNest a i x h := by
  intro w hw
  simp only [q_nest, List.mem_cons, List.not_mem_nil, or_false] at hw
  rcases hw with rfl | rfl | rfl | rfl | rfl | rfl | rfl | rfl | rfl | rfl | rfl | rfl | rfl | rfl | rfl <;> exact ⟨_, _, _, _, rfl⟩
theorem q_nest_in : ∀ w ∈ q_nest, w ∈ lw_tbl := by
  intro w hw
  simp only [q_nest, List.mem_cons, List.not_mem_nil, or_false] at hw
  rcases hw with rfl | rfl | rfl | rfl | rfl | rfl | rfl | rfl | rfl | rfl | rfl | rfl | rfl | rfl | rfl
  · exact List.mem_append_right _ (List.mem_of_getElem? (i := 30) (by decide +kernel))
  · exact List.mem_append_right _ (List.mem_of_getElem? (i := 36) (by decide +kernel))
  · exact List.mem_append_right _ (List.mem_of_getElem? (i := 147) (by decide +kernel))
  · exact List.mem_append_right _ (List.mem_of_getElem? (i := 189) (by decide +kernel))
  · exact List.mem_append_right _ (List.mem_of_getElem? (i := 213) (by decide +kernel))
  · exact List.mem_append_right _ (List.mem_of_getElem? (i := 246) (by decide +kernel))
  · exact List.mem_append_right _ (List.mem_of_getElem? (i := 263) (by decide +kernel))
  · exact List.mem_append_right _ (List.mem_of_getElem? (i := 305) (by decide +kernel))
  · exact List.mem_append_right _ (List.mem_of_getElem? (i := 311) (by decide +kernel))
  · exact List.mem_append_right _ (List.mem_of_getElem? (i := 341) (by decide +kernel))
  · exact List.mem_append_right _ (List.mem_of_getElem? (i := 343) (by decide +kernel))
  · exact List.mem_append_right _ (List.mem_of_getElem? (i := 345) (by decide +kernel))
  · exact List.mem_append_right _ (List.mem_of_getElem? (i := 403) (by decide +kernel))
  · exact List.mem_append_right _ (List.mem_of_getElem? (i := 492) (by decide +kernel))
  · exact List.mem_append_right _ (List.mem_of_getElem? (i := 794) (by decide +kernel))
/-- what the tables say of a class of the picture -/
def q_Cl (ci : Nat) (C : String) (T : u_T) (N : Nat) (ty0 : Nat → FieldType) : Prop := vwCl[ci]? = some (C, T, N) ∧ (∀ w ∈ u_ws C T N, w ∈ q_TT) ∧ (∀ k, k < N → parseFieldDescriptor (T k).2.2.1 = some (ty0 k)) ∧ ∀ a, a < N → ∀ b, b < N → a ≠ b → (T a).2.1 ≠ (T b).2.1
theorem q_lays {C : String} {T : u_T} {N : Nat} (h : ∀ k, k < N → u_lay C T k ∈ q_TT) : ∀ w ∈ u_ws C T N, w ∈ q_TT := fun w hw => by
  obtain ⟨k, hk, rfl⟩ := List.mem_map.mp hw
  exact h k (List.mem_range.mp hk)
theorem q_cl0 : q_Cl 0 RX0 TX0 20 tyX0 := ⟨rfl, q_lays (fun k hk => match k, hk with
    | 0, _ => t_103
    | 1, _ => t_105
    | 2, _ => t_107
    | 3, _ => t_109
    | 4, _ => t_111
    | 5, _ => t_113
    | 6, _ => t_115
    | 7, _ => t_117
    | 8, _ => t_119
    | 9, _ => t_121
    | 10, _ => t_123
    | 11, _ => t_125
    | 12, _ => t_127
    | 13, _ => t_129
    | 14, _ => t_131
    | 15, _ => t_133
    | 16, _ => t_135
    | 17, _ => t_137
    | 18, _ => t_139
    | 19, _ => t_141
    | n + 20, h => absurd h (by omega)), tyX0_ok, nmX0⟩
theorem q_cl1 : q_Cl 1 RX1 TX1 3 tyX1 := ⟨rfl, q_lays (fun k hk => match k, hk with
    | 0, _ => t_254
    | 1, _ => t_256
    | 2, _ => t_258
    | n + 3, h => absurd h (by omega)), tyX1_ok, nmX1⟩
theorem q_cl2 : q_Cl 2 RX2 TX2 9 tyX2 := ⟨rfl, q_lays (fun k hk => match k, hk with
    | 0, _ => t_168
    | 1, _ => t_170
    | 2, _ => t_172
    | 3, _ => t_174
    | 4, _ => t_176
    | 5, _ => t_178
    | 6, _ => t_180
    | 7, _ => t_182
    | 8, _ => t_184
    | n + 9, h => absurd h (by omega)), tyX2_ok, nmX2⟩
theorem q_cl3 : q_Cl 3 RX3 TX3 1 tyX3 := ⟨rfl, q_lays (fun k hk => match k, hk with
    | 0, _ => t_269
    | n + 1, h => absurd h (by omega)), tyX3_ok, nmX3⟩
theorem q_cl4 : q_Cl 4 RX4 TX4 4 tyX4 := ⟨rfl, q_lays (fun k hk => match k, hk with
    | 0, _ => t_202
    | 1, _ => t_204
    | 2, _ => t_206
    | 3, _ => t_208
    | n + 4, h => absurd h (by omega)), tyX4_ok, nmX4⟩
theorem q_cl5 : q_Cl 5 RX5 TX5 5 tyX5 := ⟨rfl, q_lays (fun k hk => match k, hk with
    | 0, _ => t_233
    | 1, _ => t_235
    | 2, _ => t_237
    | 3, _ => t_239
    | 4, _ => t_241
    | n + 5, h => absurd h (by omega)), tyX5_ok, nmX5⟩
theorem q_cl6 : q_Cl 6 RX6 TX6 9 tyX6 := ⟨rfl, q_lays (fun k hk => match k, hk with
    | 0, _ => t_358
    | 1, _ => t_360
    | 2, _ => t_362
    | 3, _ => t_364
    | 4, _ => t_366
    | 5, _ => t_368
    | 6, _ => t_370
    | 7, _ => t_372
    | 8, _ => t_374
    | n + 9, h => absurd h (by omega)), tyX6_ok, nmX6⟩
theorem q_cl7 : q_Cl 7 RX7 TX7 5 tyX7 := ⟨rfl, q_lays (fun k hk => match k, hk with
    | 0, _ => t_392
    | 1, _ => t_394
    | 2, _ => t_396
    | 3, _ => t_398
    | 4, _ => t_400
    | n + 5, h => absurd h (by omega)), tyX7_ok, nmX7⟩
theorem q_cl8 : q_Cl 8 RX8 TX8 6 tyX8 := ⟨rfl, q_lays (fun k hk => match k, hk with
    | 0, _ => t_327
    | 1, _ => t_329
    | 2, _ => t_331
    | 3, _ => t_333
    | 4, _ => t_335
    | 5, _ => t_337
    | n + 6, h => absurd h (by omega)), tyX8_ok, nmX8⟩
theorem q_cl9 : q_Cl 9 RX9 TX9 6 tyX9 := ⟨rfl, q_lays (fun k hk => match k, hk with
    | 0, _ => t_288
    | 1, _ => t_290
    | 2, _ => t_292
    | 3, _ => t_294
    | 4, _ => t_296
    | 5, _ => t_298
    | n + 6, h => absurd h (by omega)), tyX9_ok, nmX9⟩
theorem q_cl10 : q_Cl 10 RX10 TX10 13 tyX10 := ⟨rfl, q_lays (fun k hk => match k, hk with
    | 0, _ => t_417
    | 1, _ => t_419
    | 2, _ => t_421
    | 3, _ => t_423
    | 4, _ => t_425
    | 5, _ => t_427
    | 6, _ => t_429
    | 7, _ => t_431
    | 8, _ => t_433
    | 9, _ => t_435
    | 10, _ => t_437
    | 11, _ => t_439
    | 12, _ => t_441
    | n + 13, h => absurd h (by omega)), tyX10_ok, nmX10⟩
theorem q_cl11 : q_Cl 11 RX11 TX11 56 tyX11 := ⟨rfl, q_lays (fun k hk => match k, hk with
    | 0, _ => t_1101
    | 1, _ => t_1103
    | 2, _ => t_1105
    | 3, _ => t_1107
    | 4, _ => t_1109
    | 5, _ => t_1111
    | 6, _ => t_1113
    | 7, _ => t_1115
    | 8, _ => t_1117
    | 9, _ => t_1119
    | 10, _ => t_1121
    | 11, _ => t_1123
    | 12, _ => t_1125
    | 13, _ => t_1127
    | 14, _ => t_1129
    | 15, _ => t_1131
    | 16, _ => t_1133
    | 17, _ => t_1135
    | 18, _ => t_1137
    | 19, _ => t_1139
    | 20, _ => t_1141
    | 21, _ => t_1143
    | 22, _ => t_1145
    | 23, _ => t_1147
    | 24, _ => t_1149
    | 25, _ => t_1151
    | 26, _ => t_1153
    | 27, _ => t_1155
    | 28, _ => t_1157
    | 29, _ => t_1159
    | 30, _ => t_1161
    | 31, _ => t_1163
    | 32, _ => t_1165
    | 33, _ => t_1167
    | 34, _ => t_1169
    | 35, _ => t_1171
    | 36, _ => t_1173
    | 37, _ => t_1175
    | 38, _ => t_1177
    | 39, _ => t_1179
    | 40, _ => t_1181
    | 41, _ => t_1183
    | 42, _ => t_1185
    | 43, _ => t_1187
    | 44, _ => t_1189
    | 45, _ => t_1191
    | 46, _ => t_1193
    | 47, _ => t_1195
    | 48, _ => t_1197
    | 49, _ => t_1199
    | 50, _ => t_1201
    | 51, _ => t_1203
    | 52, _ => t_1205
    | 53, _ => t_1207
    | 54, _ => t_1209
    | 55, _ => t_1211
    | n + 56, h => absurd h (by omega)), tyX11_ok, nmX11⟩
