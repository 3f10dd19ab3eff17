/-! THE CLAIM OUT OF ONE WALK OF THE LAW'S BODY. Your part is whole_start (and what it stands on); all else here is the same for every law, but numbers. -/
def R_law : String := "BallotFruitLaw"
def lw_P (b : Addr) (xs : List Int32) (args : Array Value) (s : State) : Prop := args = #[.ref b] ∧ s.IntsAt b xs ∧ xs.length ≤ 3072 ∧ (Jvm.Cond.and given_1 narrow_1).before args s = true
def lw_Q (_ : Array Value) (s : State) (o : Outcome) (t : State) : Prop := o = .returned (some (.int 1)) ∧ Framed s o t [] 600000 7302250
def lw_Z (below : List Frame) (a : Array Value) (s : State) : State → Prop := fun t => ∃ o, t.status = .running ∧ Ended t below o ∧ lw_Q a s o t
/-- the law's own end, with 1 on the stack, nothing written that was there before, its room as the claim has it -/
theorem lw_ret {p : Program} {l : Launch} {e : Env} {s : State} {m : MethodId} {below : List Frame} {meth : Method} {c : Code} {b : Nat} (hx : p.tables.exec = Jvm.exec) (hb : c.code = code) (hr : meth.sig.returnType = ret) (hlocks : meth.locks = false) {pc : Nat} {H : Heap} {ls : Array Slot} (hdg : decode code pc = .ok (.ireturn, 1)) : W p l e room_1 s m #[Value.ref b] below meth c H [] 600000 7302250 (lw_Z below #[Value.ref b] s) (F0 m pc ls [.int 1]) := by
  intro T hT X
  obtain ⟨fs, hret, hrun, hended, hW, hframe⟩ := X.leave (v := some (.int 1)) (hlocks := hlocks) (fun h => by rw [hr] at h; cases h)
  have hmeth' : T.vm.method? m = some meth := X.method'
  refine ⟨T.setFrames fs, ?_, .returned (some (.int 1)), hrun, hended, rfl, ⟨_, rfl⟩, hW, hframe⟩
  jvm_step X.here [X.here.top, hx, hb, hdg, hmeth', hr, ret, narrow_b1]
  (try refine ⟨rfl, ?_⟩); (try refine ⟨rfl, ?_⟩)
  first | (intro acts; rw [hret _ acts rfl rfl rfl]) | rw [hret _ _ rfl rfl rfl]
  exact Steps.refl _
/-- what holds at the law's entry: the machine, the code, the tables' words (any of lw_tbl by 'hts w (by decide +kernel)'), the script of L ints xs at the cell b, what the Statement gives of the start (any of its parts by flat_of_before) -/
def lw_At (p : Program) (s : State) (m : MethodId) (meth : Method) (c : Code) (b L : Nat) (xs : Nat → Int32) : Prop :=
  p.tables.exec = Jvm.exec ∧ c.code = code ∧ meth.sig.returnType = ret ∧ c.maxLocals = 4 ∧ s.vm.findClass R_law = some m.cls ∧ (∀ w ∈ lw_tbl, w.before #[Value.ref b] s = true) ∧ va_X b L xs s s.heap ∧ b < s.heap.size ∧ meth.locks = false ∧ (Jvm.Cond.and given_1 narrow_1).before #[Value.ref b] s = true

/-! THE LAW'S WALK: over the class's state x and the reference's state y -/
def q_mg (x y : qS) : qS := (fun k => if k < 163 then x.1 k else y.1 k, x.2)
theorem mg_okx {y : qS} {σ : (Nat → Nat) × (Nat → Nat)} {k : Nat} (hk : k < 163) : q_ok (fun x => q_mg x y, σ) k := by
  refine ⟨fun u => ?_, fun u f => ?_⟩
  · show (if k < 163 then u.1 k else y.1 k) = u.1 k; rw [if_pos hk]
  · show q_st (q_mg u y) k f = q_mg (q_st u k f) y
    unfold q_st q_mg
    refine Prod.ext ?_ rfl
    funext a
    show (if a = k then f else if a < 163 then u.1 a else y.1 a) = if a < 163 then (if a = k then f else u.1 a) else y.1 a
    by_cases h : a = k
    · subst h; rw [if_pos rfl, if_pos hk, if_pos rfl]
    · rw [if_neg h, if_neg h]
theorem mg_oky {x : qS} {σ : (Nat → Nat) × (Nat → Nat)} {k : Nat} (hk : 163 ≤ k) : q_ok (fun y => q_mg x y, σ) k := by
  have hk' : ¬ k < 163 := Nat.not_lt.mpr hk
  refine ⟨fun u => ?_, fun u f => ?_⟩
  · show (if k < 163 then x.1 k else u.1 k) = u.1 k; rw [if_neg hk']
  · show q_st (q_mg x u) k f = q_mg x (q_st u k f)
    unfold q_st q_mg
    refine Prod.ext ?_ rfl
    funext a
    show (if a = k then f else if a < 163 then x.1 a else u.1 a) = if a < 163 then x.1 a else (if a = k then f else u.1 a)
    by_cases h : a = k
    · subst h; rw [if_pos rfl, if_neg hk', if_pos rfl]
    · rw [if_neg h, if_neg h]
theorem mg_okl {y : qS} {σ : (Nat → Nat) × (Nat → Nat)} : q_okl (fun x => q_mg x y, σ) := ⟨fun _ => rfl, fun _ _ => rfl⟩
def LC (G : qG) (b : Nat) (σ : (Nat → Nat) × (Nat → Nat)) (sb L : Nat) (xs : Nat → Int32) (p : Program) (s : State) (m : MethodId) (meth : Method) (c : Code) : Prop :=
  p.tables.exec = Jvm.exec ∧ c.code = code ∧ meth.sig.returnType = ret ∧ c.maxLocals = 4 ∧ s.vm.findClass RL = some m.cls ∧ (∀ w ∈ q_TT, w.before #[Value.ref sb] s = true) ∧ va_X sb L xs s s.heap ∧ sb < s.heap.size ∧ meth.locks = false ∧ q_K G s ∧ q_W b (id, σ) s s.heap ∧ b = s.heap.size
def LAW (G : qG) (b : Nat) (σ : (Nat → Nat) × (Nat → Nat)) (sb L : Nat) (xs : Nat → Int32) (cn sn : Nat) (pc : Nat) (lv : List (Nat × Value)) (st : List Value) (x y : qS) : Prop :=
  ∀ (p : Program) (l : Launch) (e : Env) (s : State) (m : MethodId) (below : List Frame) (meth : Method) (c : Code) (H : Heap) (locs : List Loc) (ls : Array Slot),
    LC G b σ sb L xs p s m meth c → q_P G b (q_mg x y) H → va_S (q_A b) s.heap H locs → lv_has ls 4 lv → cn ≤ 600000 → sn ≤ 7302250 →
    W p l e room_1 s m #[Value.ref sb] below meth c H locs cn sn (lw_Z below #[Value.ref sb] s) (F0 m pc ls st)
def LV (b sb i : Nat) : List (Nat × Value) := [(3, .int (nI i)), (2, .ref (b + 163)), (1, .ref (b + 0)), (0, .ref sb)]
def zb (x : Int32) : Int32 := if x = 0 then nI 0 else nI 1
theorem zb_fence (a c : Int32) : SIM (m_X10_fence a (zb c)) (m_X11_fence a (zb c)) := by
  unfold zb
  by_cases h : c = 0
  · rw [if_pos h]; exact sim_fence a (c := 0) (by decide)
  · rw [if_neg h]; exact sim_fence a (c := 1) (by decide)
theorem zb_image (c : Int32) : SIM (m_X10_image (zb c)) (m_X11_image (zb c)) := by
  unfold zb
  by_cases h : c = 0
  · rw [if_pos h]; exact sim_image_0
  · rw [if_neg h]; exact sim_image_1
section LR
variable {G : qG} {b : Nat} {σ : (Nat → Nat) × (Nat → Nat)} {sb L : Nat} {xs : Nat → Int32} {cn sn pc i : Nat} {st : List Value} {x y : qS}
theorem lw_ob1 (d1 : decode code pc = .ok (.aload_n 1, 1)) (h : LAW G b σ sb L xs cn sn (pc + 1) (LV b sb i) (.ref (b + 0) :: st) x y) : LAW G b σ sb L xs cn sn pc (LV b sb i) st x y :=
  fun p l e s m below meth c H locs ls hC hP hS hl h1 h2 => lv_aload_n hC.1 hC.2.1 d1 rfl (lv_at hl 2 rfl) (h p l e s m below meth c H locs ls hC hP hS hl h1 h2)
theorem lw_ob2 (d1 : decode code pc = .ok (.aload_n 2, 1)) (h : LAW G b σ sb L xs cn sn (pc + 1) (LV b sb i) (.ref (b + 163) :: st) x y) : LAW G b σ sb L xs cn sn pc (LV b sb i) st x y :=
  fun p l e s m below meth c H locs ls hC hP hS hl h1 h2 => lv_aload_n hC.1 hC.2.1 d1 rfl (lv_at hl 1 rfl) (h p l e s m below meth c H locs ls hC hP hS hl h1 h2)
theorem lw_arg (k : Nat) {ki : Int} (hi : i + 6 ≤ L) (hL : L ≤ 3072) (hk : k < 6) (d1 : decode code pc = .ok (.aload_n 0, 1)) (d2 : decode code (pc + 1) = .ok (.iload_n 3, 1)) (d3 : decode code (pc + 2) = .ok (.iconst ki, 1)) (hki : Int32.ofInt ki = nI k) (d4 : decode code (pc + 3) = .ok (.iadd, 1)) (d5 : decode code (pc + 4) = .ok (.iaload, 1))
    (h : LAW G b σ sb L xs cn sn (pc + 5) (LV b sb i) (.int (xs (i + k)) :: st) x y) : LAW G b σ sb L xs cn sn pc (LV b sb i) st x y := by
  intro p l e s m below meth c H locs ls hC hP hS hl h1 h2
  have hC0 := hC
  obtain ⟨hx, hb, hr, hml, hown, hts, hX, hbl, hlk, hK, hWs, hbs⟩ := hC
  refine lv_aload_n hx hb d1 rfl (lv_at hl 3 rfl) ?_
  refine lv_iload_n hx hb d2 rfl (lv_at hl 0 rfl) ?_
  refine lv_iconst hx hb d3 hki ?_
  refine lv_iadd hx hb d4 ?_
  rw [nI_add]
  refine va_sld (A := q_A b) hx hb hX hbl (show ¬ b ≤ sb by omega) hS (show vp_in (nI (i + k)) L from nI_in (by omega) (by omega)) d5 ?_
  rw [nI_clamp (by omega)]
  exact h p l e s m below meth c H locs ls hC0 hP hS hl h1 h2
theorem lw_zb (t1 t2 : Nat) {o1 o2 : Int} {v : Int32} (d1 : decode code pc = .ok (.ifCond .eq o1, 3)) (ht1 : (pc : Int) + o1 = (t1 : Int)) (d2 : decode code (pc + 3) = .ok (.iconst 1, 1)) (d3 : decode code (pc + 4) = .ok (.goto o2, 3)) (ht2 : ((pc + 4 : Nat) : Int) + o2 = (t2 : Int)) (ht3 : t1 + 1 = t2) (d4 : decode code t1 = .ok (.iconst 0, 1))
    (h : LAW G b σ sb L xs cn sn t2 (LV b sb i) (.int (zb v) :: st) x y) : LAW G b σ sb L xs cn sn pc (LV b sb i) (.int v :: st) x y := by
  intro p l e s m below meth c H locs ls hC hP hS hl h1 h2
  have hC0 := hC
  obtain ⟨hx, hb, hr, hml, hown, hts, hX, hbl, hlk, hK, hWs, hbs⟩ := hC
  refine lv_if_eq hx hb d1 ht1 (fun hv => ?_) (fun hv => ?_)
  · refine lv_iconst (v := zb v) hx hb d4 (by rw [zb, if_pos hv]; decide +kernel) ?_
    rw [ht3]
    exact h p l e s m below meth c H locs ls hC0 hP hS hl h1 h2
  · refine lv_iconst (v := zb v) hx hb d2 (by rw [zb, if_neg hv]; decide +kernel) ?_
    refine lv_goto hx hb d3 ht2 ?_
    exact h p l e s m below meth c H locs ls hC0 hP hS hl h1 h2
theorem lw_eq (tgt : Nat) {off : Int} {r : Int32} (d1 : decode code pc = .ok (.if_icmp .eq off, 3)) (ht : (pc : Int) + off = (tgt : Int)) (h : LAW G b σ sb L xs cn sn tgt (LV b sb i) st x y) : LAW G b σ sb L xs cn sn pc (LV b sb i) (.int r :: .int r :: st) x y :=
  fun p l e s m below meth c H locs ls hC hP hS hl h1 h2 => lv_icmp_eq hC.1 hC.2.1 d1 ht (fun _ => h p l e s m below meth c H locs ls hC hP hS hl h1 h2) (fun q => absurd rfl q)
theorem lw_room {d' ny : Nat} (hr : d' ≤ 700) (hn : ny ≤ 80) : (q_Rm d').frames + 1 ≤ room_1.frames ∧ 8 + (ny + 11) + (q_Rm d').locals ≤ room_1.locals := by
  unfold q_Rm room_1; constructor <;> simp only <;> omega
theorem lw_callX10 {yy : MethodName} {cy : ByteArray} {ny : Nat} {ty : FieldType} {d' idx : Nat} {As st0 : List Value} {Mc : qR} {r : Int32} {x2 : qS}
    (hst : st0 = As.reverse ++ .ref (b + 0) :: st) (hd : decode code pc = .ok (.invokevirtual idx, 3)) (hm : Cond.methodLink RL idx yy ∈ q_TT) (hf : q_Mf RX10 yy cy ny (some ty) As.length) (hr : d' ≤ 700) (hrm : (st.map fun v => v.category).sum ≤ 8) (hcn : ∀ l, CN l yy cy ny (some ty) d' (fun x => q_mg x y, σ) b (.ref (b + 0) :: As) x Mc) (hM : Mc = some (r, x2))
    (h : LAW G b σ sb L xs cn sn (pc + 3) (LV b sb i) (.int r :: st) x2 y) : LAW G b σ sb L xs cn sn pc (LV b sb i) st0 x y := by
  intro p l e s m below meth c H locs ls hC hP hS hl h1 h2
  have hC0 := hC
  obtain ⟨hx, hb, hr0, hml, hown, hts, hX, hbl, hlk, hK, hWs0, hbs⟩ := hC
  have hWs : q_W b (fun x => q_mg x y, σ) s s.heap := hWs0
  refine va_calli (va_runV (As := As) (rest := st) ⟨hx, hb, hml, hown, hts⟩ (hcn l (by rw [hM]; exact fun h => by cases h) G) (cwV As.length hts (q_gV hm hf) rfl rfl rfl hf.2.2.2.2.1 (lw_room hr hf.2.2.2.2.2)) ⟨q_blind, va_recv hK.1 hP q_cl10.1 (q_at z_d0), fun U hU hW => ⟨rfl, hK.warm hW, hWs.warm hW hS hU, by rw [hU]; exact hP⟩⟩ rfl rfl hl.1 hst (lv_room hrm) hd ⟨h1, h2⟩) hS (fun q _ h => h) (fun q h => h) (fun r1 u' t H1 locs ht hvm hw hB hz1 hk1 hS => ?_)
  rw [hM] at hw
  cases hw
  have hP1 : q_P G b (q_mg x2 y) H1 := by rw [← ht]; exact hB
  exact h p l e s m below meth c H1 locs ls hC0 hP1 hS hl h1 h2
theorem lw_callX11 {yy : MethodName} {cy : ByteArray} {ny : Nat} {ty : FieldType} {d' idx : Nat} {As st0 : List Value} {Mc : qR} {r : Int32} {y2 : qS}
    (hst : st0 = As.reverse ++ .ref (b + 163) :: st) (hd : decode code pc = .ok (.invokevirtual idx, 3)) (hm : Cond.methodLink RL idx yy ∈ q_TT) (hf : q_Mf RX11 yy cy ny (some ty) As.length) (hr : d' ≤ 700) (hrm : (st.map fun v => v.category).sum ≤ 8) (hcn : ∀ l, CN l yy cy ny (some ty) d' (fun y => q_mg x y, σ) b (.ref (b + 163) :: As) y Mc) (hM : Mc = some (r, y2))
    (h : LAW G b σ sb L xs cn sn (pc + 3) (LV b sb i) (.int r :: st) x y2) : LAW G b σ sb L xs cn sn pc (LV b sb i) st0 x y := by
  intro p l e s m below meth c H locs ls hC hP hS hl h1 h2
  have hC0 := hC
  obtain ⟨hx, hb, hr0, hml, hown, hts, hX, hbl, hlk, hK, hWs0, hbs⟩ := hC
  have hWs : q_W b (fun y => q_mg x y, σ) s s.heap := hWs0
  refine va_calli (va_runV (As := As) (rest := st) ⟨hx, hb, hml, hown, hts⟩ (hcn l (by rw [hM]; exact fun h => by cases h) G) (cwV As.length hts (q_gV hm hf) rfl rfl rfl hf.2.2.2.2.1 (lw_room hr hf.2.2.2.2.2)) ⟨q_blind, va_recv hK.1 hP q_cl11.1 (q_at z_d163), fun U hU hW => ⟨rfl, hK.warm hW, hWs.warm hW hS hU, by rw [hU]; exact hP⟩⟩ rfl rfl hl.1 hst (lv_room hrm) hd ⟨h1, h2⟩) hS (fun q _ h => h) (fun q h => h) (fun r1 u' t H1 locs ht hvm hw hB hz1 hk1 hS => ?_)
  rw [hM] at hw
  cases hw
  have hP1 : q_P G b (q_mg x y2) H1 := by rw [← ht]; exact hB
  exact h p l e s m below meth c H1 locs ls hC0 hP1 hS hl h1 h2
end LR

theorem lx_X10 {y : qS} {σ : (Nat → Nat) × (Nat → Nat)} : is_X10 (fun x => q_mg x y, σ) := by
  have ce : ∀ {k : Nat} {d : qD}, q_sh[k]? = some d → k < 163 → q_ce (fun x => q_mg x y, σ) k d := fun h hk => ⟨h, mg_okx hk⟩
  refine ⟨ce z_d0 (by decide), ⟨ce z_d1 (by decide), ⟨ce z_d2 (by decide), ce z_d3 (by decide), ce z_d4 (by decide), ce z_d5 (by decide), ce z_d6 (by decide), ce z_d7 (by decide), ce z_d8 (by decide), ce z_d9 (by decide), ce z_d10 (by decide), ce z_d11 (by decide)⟩, ⟨ce z_d12 (by decide), ce z_d13 (by decide), ce z_d14 (by decide), ce z_d15 (by decide), ce z_d16 (by decide), ce z_d17 (by decide), ce z_d18 (by decide)⟩, ⟨ce z_d19 (by decide), ce z_d20 (by decide), ce z_d21 (by decide), ce z_d22 (by decide)⟩, ⟨ce z_d23 (by decide), ce z_d24 (by decide), ce z_d25 (by decide), ce z_d26 (by decide), ce z_d27 (by decide)⟩, ⟨ce z_d28 (by decide), ce z_d29 (by decide), ce z_d30 (by decide)⟩, ⟨ce z_d31 (by decide), ce z_d32 (by decide)⟩⟩, ⟨ce z_d2 (by decide), ce z_d3 (by decide), ce z_d4 (by decide), ce z_d5 (by decide), ce z_d6 (by decide), ce z_d7 (by decide), ce z_d8 (by decide), ce z_d9 (by decide), ce z_d10 (by decide), ce z_d11 (by decide)⟩, ⟨ce z_d33 (by decide), ⟨ce z_d34 (by decide), ce z_d35 (by decide), ce z_d36 (by decide), ce z_d37 (by decide), ce z_d38 (by decide), ce z_d39 (by decide), ce z_d40 (by decide), ce z_d41 (by decide), ce z_d42 (by decide), ce z_d43 (by decide)⟩, ⟨ce z_d44 (by decide), ce z_d45 (by decide), ce z_d46 (by decide), ce z_d47 (by decide), ce z_d48 (by decide), ce z_d49 (by decide), ce z_d50 (by decide)⟩, ⟨ce z_d51 (by decide), ce z_d52 (by decide), ce z_d53 (by decide), ce z_d54 (by decide)⟩, ⟨ce z_d55 (by decide), ce z_d56 (by decide), ce z_d57 (by decide), ce z_d58 (by decide), ce z_d59 (by decide)⟩, ⟨ce z_d60 (by decide), ce z_d61 (by decide), ce z_d62 (by decide)⟩, ⟨ce z_d63 (by decide), ce z_d64 (by decide)⟩⟩, ce z_d65 (by decide), ⟨ce z_d66 (by decide), ⟨ce z_d67 (by decide), ce z_d68 (by decide), ce z_d69 (by decide), ce z_d70 (by decide), ce z_d71 (by decide)⟩, ⟨ce z_d72 (by decide), ce z_d73 (by decide), ce z_d74 (by decide), ce z_d75 (by decide), ce z_d76 (by decide), ce z_d77 (by decide), ce z_d78 (by decide)⟩, ⟨ce z_d79 (by decide), ce z_d80 (by decide), ce z_d81 (by decide), ce z_d82 (by decide)⟩, ⟨ce z_d83 (by decide), ce z_d84 (by decide), ce z_d85 (by decide), ce z_d86 (by decide), ce z_d87 (by decide)⟩⟩, ⟨ce z_d67 (by decide), ce z_d68 (by decide), ce z_d69 (by decide), ce z_d70 (by decide), ce z_d71 (by decide)⟩, ⟨ce z_d88 (by decide), ce z_d89 (by decide)⟩, ⟨ce z_d90 (by decide), ce z_d91 (by decide)⟩, ⟨ce z_d92 (by decide), ce z_d93 (by decide), ce z_d94 (by decide), ce z_d95 (by decide), ce z_d96 (by decide), ce z_d97 (by decide), ce z_d98 (by decide), ce z_d99 (by decide), ce z_d100 (by decide), ce z_d101 (by decide)⟩, ce z_d102 (by decide), fun j hj => ?_, mg_okl⟩
  match j, hj with
  | 0, _ => exact (show is_X0 _ 103 from ⟨ce z_d103 (by decide), ce z_d104 (by decide), ce z_d105 (by decide), ce z_d106 (by decide), ce z_d107 (by decide), ce z_d108 (by decide), ce z_d109 (by decide), ce z_d110 (by decide), ce z_d111 (by decide), ce z_d112 (by decide)⟩)
  | 1, _ => exact (show is_X0 _ 113 from ⟨ce z_d113 (by decide), ce z_d114 (by decide), ce z_d115 (by decide), ce z_d116 (by decide), ce z_d117 (by decide), ce z_d118 (by decide), ce z_d119 (by decide), ce z_d120 (by decide), ce z_d121 (by decide), ce z_d122 (by decide)⟩)
  | 2, _ => exact (show is_X0 _ 123 from ⟨ce z_d123 (by decide), ce z_d124 (by decide), ce z_d125 (by decide), ce z_d126 (by decide), ce z_d127 (by decide), ce z_d128 (by decide), ce z_d129 (by decide), ce z_d130 (by decide), ce z_d131 (by decide), ce z_d132 (by decide)⟩)
  | 3, _ => exact (show is_X0 _ 133 from ⟨ce z_d133 (by decide), ce z_d134 (by decide), ce z_d135 (by decide), ce z_d136 (by decide), ce z_d137 (by decide), ce z_d138 (by decide), ce z_d139 (by decide), ce z_d140 (by decide), ce z_d141 (by decide), ce z_d142 (by decide)⟩)
  | 4, _ => exact (show is_X0 _ 143 from ⟨ce z_d143 (by decide), ce z_d144 (by decide), ce z_d145 (by decide), ce z_d146 (by decide), ce z_d147 (by decide), ce z_d148 (by decide), ce z_d149 (by decide), ce z_d150 (by decide), ce z_d151 (by decide), ce z_d152 (by decide)⟩)
  | 5, _ => exact (show is_X0 _ 153 from ⟨ce z_d153 (by decide), ce z_d154 (by decide), ce z_d155 (by decide), ce z_d156 (by decide), ce z_d157 (by decide), ce z_d158 (by decide), ce z_d159 (by decide), ce z_d160 (by decide), ce z_d161 (by decide), ce z_d162 (by decide)⟩)
theorem lx_X11 {x : qS} {σ : (Nat → Nat) × (Nat → Nat)} : is_X11 (fun y => q_mg x y, σ) := by
  have ce : ∀ {k : Nat} {d : qD}, q_sh[k]? = some d → 163 ≤ k → q_ce (fun y => q_mg x y, σ) k d := fun h hk => ⟨h, mg_oky hk⟩
  exact ⟨ce z_d163 (by decide), ce z_d164 (by decide), ce z_d165 (by decide), ce z_d166 (by decide), ce z_d167 (by decide), ce z_d168 (by decide), ce z_d169 (by decide), ce z_d170 (by decide), ce z_d171 (by decide), ce z_d172 (by decide), ce z_d173 (by decide), ce z_d174 (by decide), ce z_d175 (by decide), ce z_d176 (by decide), ce z_d177 (by decide), ce z_d178 (by decide), ce z_d179 (by decide), ce z_d180 (by decide), ce z_d181 (by decide), ce z_d182 (by decide), ce z_d183 (by decide), ce z_d184 (by decide), ce z_d185 (by decide), ce z_d186 (by decide), ce z_d187 (by decide)⟩
