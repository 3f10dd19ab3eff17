/-! THE LAW MAKES BOTH SIDES -/
def LAN (G : qG) (b : Nat) (σ : (Nat → Nat) × (Nat → Nat)) (sb L : Nat) (xs : Nat → Int32) (cn sn : Nat) (pc : Nat) (lv : List (Nat × Value)) (st : List Value) (E : List va_E) : Prop :=
  ∀ (p : Program) (l : Launch) (e : Env) (s : State) (m : MethodId) (below : List Frame) (meth : Method) (c : Code) (H : Heap) (locs : List Loc) (ls : Array Slot),
    LC G b σ sb L xs p s m meth c → (Cond.arrayOver (.object RX0)).before #[Value.ref sb] s = true → n_P G b E H → va_S (q_A b) s.heap H locs → lv_has ls 4 lv →
    W p l e room_1 s m #[Value.ref sb] below meth c H locs cn sn (lw_Z below #[Value.ref sb] s) (F0 m pc ls st)
section LM
variable {G : qG} {b : Nat} {σ : (Nat → Nat) × (Nat → Nat)} {sb L : Nat} {xs : Nat → Int32} {cn sn pc : Nat} {lv : List (Nat × Value)} {st : List Value} {E : List va_E}
theorem lan_new (kX : Nat) (hkX : E.length = kX) {ci : Nat} {C : String} {T : u_T} {N : Nat} {ty0 : Nat → FieldType} (hcl : q_Cl ci C T N ty0) {idx : Nat} {fs : List Value} (hd : decode code pc = .ok (.new idx, 3)) (h1 : Cond.classLink RL idx C ∈ q_TT) (h2 : Cond.instantiable C N ∈ q_TT) (h3 : Cond.initialized C ∈ q_TT) (hfs : ∀ j, j < N → defaultValue (ty0 j) = vp_V fs j) (hc : cn + 1 ≤ room_1.cells) (hs : sn + N ≤ room_1.slots)
    (h : LAN G b σ sb L xs (cn + 1) (sn + N) (pc + 3) lv (.ref (b + kX) :: st) (E ++ [.inr (ci, fs)])) : LAN G b σ sb L xs cn sn pc lv st E := by
  subst hkX
  intro p l e s m below meth c H locs ls hC hov hP hS hl
  have hC0 := hC
  obtain ⟨hx, hb, hr, hml, hown, hts, hX, hbl, hlk, hK, hWs, hbs⟩ := hC
  have hKn := hK.1.1 ci _ hcl.1
  have hsz : H.size = b + E.length := hP.2
  refine W.newcK hx hb hown (hts _ h1) (hts _ h2) (hts _ h3) rfl hd hc hs hKn.2.1 hsz fun H1 kC hkC e1 z1 o1 => ?_
  have hk : ∀ (k : Nat) (x : Nat × va_E), (n_wl b E)[k]? = some x → H1[x.1]? = H[x.1]? := fun k x hx => o1 x.1 (by have := (hP.1 k x hx).lt; omega)
  refine h p l e s m below meth c H1 locs ls hC0 hov ⟨?_, ?_⟩ ⟨Nat.le_trans hS.1 (by omega), fun x g1 g2 => (o1 x (by have := hS.1; omega)).trans (hS.2.1 x g1 g2), hS.2.2⟩ hl
  · have hn := n_push (b := b) (E := E) (e := .inr (ci, fs))
    rw [← hn]
    refine (hP.1.kept hk).app (fun k x hx => ?_)
    have hz : k < 1 := (List.getElem?_eq_some_iff.mp hx).1
    rw [show k = 0 by omega] at hx
    cases hx
    refine ⟨_, hcl.1, ?_⟩
    have := (u_born ty0 hts hcl.2.1 hKn hkC e1 hcl.2.2.1).to hfs
    exact this
  · rw [z1, List.length_append]; simp only [List.length_cons, List.length_nil]; omega
theorem lan_room {d' mc' ms' ny : Nat} (hr : d' ≤ 700) (hn : ny ≤ 80) : (n_Rm d' mc' ms').frames + 1 ≤ room_1.frames ∧ 8 + (ny + 11) + (n_Rm d' mc' ms').locals ≤ room_1.locals := by
  unfold n_Rm room_1; constructor <;> simp only <;> omega
theorem lan_call {yy : MethodName} {cy : ByteArray} {ny d' mc' ms' idx k : Nat} {E1 : List va_E} (hd : decode code pc = .ok (.invokespecial idx, 3)) (hm : Cond.methodLink RL idx yy ∈ q_TT) (hf : n_Mf yy cy ny 0) (hr : d' ≤ 700) (hrm : (st.map fun v => v.category).sum ≤ 8) (hc : cn + mc' ≤ room_1.cells) (hs : sn + ms' ≤ room_1.slots)
    (hcn : ∀ l, NC l yy cy ny d' mc' ms' G b [.ref (b + k)] E E1) (h : LAN G b σ sb L xs (cn + mc') (sn + ms') (pc + 3) lv st E1) : LAN G b σ sb L xs cn sn pc lv (.ref (b + k) :: st) E := by
  intro p l e s m below meth c H locs ls hC hov hP hS hl
  have hC0 := hC
  obtain ⟨hx, hb, hr0, hml, hown, hts, hX, hbl, hlk, hK, hWs, hbs⟩ := hC
  refine va_callv (va_runI (As := []) (rest := st) ⟨hx, hb, hml, hown, hts⟩ (hcn l) ⟨callB_of 0 hts (q_gC hf.2.2.1) rfl rfl rfl (hts _ hf.2.1) (hts _ hm) hf.2.2.2.2.1 (lan_room hr hf.2.2.2.2.2), hf.2.2.2.1, hts _ hf.1⟩ ⟨n_blind, fun U hU hW => ⟨rfl, hK.warm hW, by rw [hU]; exact hP, by rw [hU]; exact Nat.le_trans (Nat.le_of_eq hbs) hS.1, n_AOw hW hov⟩⟩ rfl rfl hl.1 rfl (lv_room hrm) hd ⟨hc, hs⟩) hS (fun q _ h => h) (fun q h => h) (fun u' t H1 locs ht hvm hw hB hz1 hk1 hS => ?_)
  have hP1 : n_P G b E1 H1 := by rw [← ht]; exact hB
  exact h p l e s m below meth c H1 locs ls hC0 hov hP1 hS hl
theorem lan_dup {v : Value} (hd : decode code pc = .ok (.dup, 1)) (hv : v.category = 1) (h : LAN G b σ sb L xs cn sn (pc + 1) lv (v :: v :: st) E) : LAN G b σ sb L xs cn sn pc lv (v :: st) E :=
  fun p l e s m below meth c H locs ls hC hov hP hS hl => lv_dup hC.1 hC.2.1 hd hv (h p l e s m below meth c H locs ls hC hov hP hS hl)
theorem lan_ast {k : Fin 4} {j q : Nat} {lv' : List (Nat × Value)} (hd : decode code pc = .ok (.astore_n k, 1)) (hi : (k : Nat) = j) (hn : j < 4) (hl' : (j, Value.ref q) :: lv.filter (fun q => !(q.1 == j) && !(q.1 + 1 == j && q.2.category == 2)) = lv') (h : LAN G b σ sb L xs cn sn (pc + 1) lv' st E) : LAN G b σ sb L xs cn sn pc lv (.ref q :: st) E :=
  fun p l e s m below meth c H locs ls hC hov hP hS hl => lv_astore_n hC.1 hC.2.1 hd hi hl hn hl' (fun ls' hl' => h p l e s m below meth c H locs ls' hC hov hP hS hl')
theorem mg_zz : q_mg z_S z_S = z_S := by
  unfold q_mg
  refine Prod.ext ?_ rfl
  funext k
  show (if k < 163 then z_S.1 k else z_S.1 k) = z_S.1 k
  by_cases h : k < 163
  · rw [if_pos h]
  · rw [if_neg h]
theorem law_start (hL : L ≤ 3072) : LAN G b σ sb L xs 0 0 0 [(0, .ref sb)] [] [] := by
  refine lan_new 0 rfl q_cl10 (fs := [.null, .null, .null, .int 0, .null, .int 0, .int 0, .null, .null, .null, .null, .null, .null]) dL_law_0 t_20 t_21 t_1 nd_X10 (by decide) (by decide) ?_
  refine lan_dup dL_law_3 rfl ?_
  refine lan_call (E1 := n_X10 G b 0) dL_law_4 t_22 mf_nX10 (by decide) (Nat.le_of_ble_eq_true rfl) (by decide) (by decide) (fun l => nc_X10 l G b [] 0 rfl) ?_
  refine lan_ast (j := 1) (lv' := [(1, .ref (b + 0)), (0, .ref sb)]) dL_law_7 rfl (by decide) rfl ?_
  refine lan_new 163 z_len q_cl11 (fs := [.int 0, .null, .null, .int 0, .null, .int 0, .int 0, .int 0, .int 0, .int 0, .int 0, .int 0, .null, .null, .int 0, .int 0, .int 0, .int 0, .int 0, .null, .null, .null, .null, .null, .null, .null, .null, .int 0, .int 0, .int 0, .null, .int 0, .int 0, .int 0, .int 0, .int 0, .int 0, .null, .int 0, .null, .null, .null, .int 0, .int 0, .int 0, .int 0, .null, .null, .int 0, .null, .null, .null, .int 0, .int 0, .int 0, .null]) dL_law_8 t_1039 t_1040 t_12 nd_X11 (by decide) (by decide) ?_
  refine lan_dup dL_law_11 rfl ?_
  refine lan_call (E1 := n_X10 G b 0 ++ n_X11 G b 163) dL_law_12 t_1041 mf_nX11 (by decide) (Nat.le_of_ble_eq_true rfl) (by decide) (by decide) (fun l => nc_X11 l G b (n_X10 G b 0) 163 z_len) ?_
  refine lan_ast (j := 2) (lv' := [(2, .ref (b + 163)), (1, .ref (b + 0)), (0, .ref sb)]) dL_law_15 rfl (by decide) rfl ?_
  intro p l e s m below meth c H locs ls hC hov hP hS hl
  refine lv_iconst (v := nI 0) hC.1 hC.2.1 dL_law_16 (by decide +kernel) ?_
  refine lv_istore_n (lv' := LV b sb 0) hC.1 hC.2.1 dL_law_17 rfl hl (by decide) rfl (fun ls hl => ?_)
  exact law_loop hL L 0 (by omega) (by omega) z_S z_S z_rel p l e s m below meth c H locs ls hC (by rw [mg_zz]; exact z_P hP) hS hl (by decide) (by decide)
end LM
theorem ws_K {s : State} {args : Array Value} (hts : ∀ w ∈ q_TT, w.before args s = true) (hao : (Cond.arrayOver (.object RX0)).before args s = true) (hn : ∀ w ∈ q_nest, w.before args s = true) : ∃ G : qG, q_K G s := by
  obtain ⟨c0, i0, h0⟩ := u_known (C := RX0) (T := TX0) (N := 20) (n := 20) hts q_cl0.2.1 (hts _ t_35)
  obtain ⟨c1, i1, h1⟩ := u_known (C := RX1) (T := TX1) (N := 3) (n := 3) hts q_cl1.2.1 (hts _ t_245)
  obtain ⟨c2, i2, h2⟩ := u_known (C := RX2) (T := TX2) (N := 9) (n := 9) hts q_cl2.2.1 (hts _ t_146)
  obtain ⟨c3, i3, h3⟩ := u_known (C := RX3) (T := TX3) (N := 1) (n := 1) hts q_cl3.2.1 (hts _ t_262)
  obtain ⟨c4, i4, h4⟩ := u_known (C := RX4) (T := TX4) (N := 4) (n := 4) hts q_cl4.2.1 (hts _ t_188)
  obtain ⟨c5, i5, h5⟩ := u_known (C := RX5) (T := TX5) (N := 5) (n := 5) hts q_cl5.2.1 (hts _ t_212)
  obtain ⟨c6, i6, h6⟩ := u_known (C := RX6) (T := TX6) (N := 9) (n := 9) hts q_cl6.2.1 (hts _ t_304)
  obtain ⟨c7, i7, h7⟩ := u_known (C := RX7) (T := TX7) (N := 5) (n := 5) hts q_cl7.2.1 (hts _ t_378)
  obtain ⟨c8, i8, h8⟩ := u_known (C := RX8) (T := TX8) (N := 6) (n := 6) hts q_cl8.2.1 (hts _ t_310)
  obtain ⟨c9, i9, h9⟩ := u_known (C := RX9) (T := TX9) (N := 6) (n := 6) hts q_cl9.2.1 (hts _ t_29)
  obtain ⟨c10, i10, h10⟩ := u_known (C := RX10) (T := TX10) (N := 13) (n := 13) hts q_cl10.2.1 (hts _ t_21)
  obtain ⟨c11, i11, h11⟩ := u_known (C := RX11) (T := TX11) (N := 56) (n := 56) hts q_cl11.2.1 (hts _ t_1040)
  obtain ⟨cI, kI, pI, a1, a2, a3⟩ := Cond.arrayClass_spec (hts _ t_144)
  obtain ⟨cL, kL, pL, b1, b2, b3⟩ := Cond.arrayClass_spec (hts _ t_444)
  obtain ⟨comp, cO, kO, o1, -, o3, o4, o5⟩ := Cond.arrayOver_spec hao
  refine ⟨((fun k => [c0, c1, c2, c3, c4, c5, c6, c7, c8, c9, c10, c11].getD k c0, fun k => [i0, i1, i2, i3, i4, i5, i6, i7, i8, i9, i10, i11].getD k i0), cI, cL, cO), ⟨?_, ?_⟩, fun w hw => ?_⟩
  · intro k q hq
    match k, hq with
    | 0, hq => cases hq; exact h0
    | 1, hq => cases hq; exact h1
    | 2, hq => cases hq; exact h2
    | 3, hq => cases hq; exact h3
    | 4, hq => cases hq; exact h4
    | 5, hq => cases hq; exact h5
    | 6, hq => cases hq; exact h6
    | 7, hq => cases hq; exact h7
    | 8, hq => cases hq; exact h8
    | 9, hq => cases hq; exact h9
    | 10, hq => cases hq; exact h10
    | 11, hq => cases hq; exact h11
    | k + 12, hq => simp [vwCl] at hq
  · intro k q hq
    match k, hq with
    | 0, hq => cases hq; exact ⟨fun n z => ⟨fun k h => (by cases h), kI, a2, pI, a3⟩, a1⟩
    | 1, hq => cases hq; exact ⟨fun n z => ⟨fun k h => (by cases h), kL, b2, pL, b3⟩, b1⟩
    | 2, hq => cases hq; exact ⟨fun n z => ⟨fun k h => (by cases h), kO, o3, comp, o4⟩, ⟨kO, comp, o3, o4, o1, o5⟩⟩
    | k + 3, hq => simp [q_tys] at hq
  · have hq := hn w hw
    obtain ⟨a, i, x, h, rfl⟩ := q_nest_ok w hw
    exact va_Nw.of rfl hq
