/-! THE CLAIM OUT OF ONE WALK OF THE LAW'S BODY. Your part is whole_start (and what it stands on); all else here is the same for every law, but numbers. -/
def R_law : String := "SluiceStreamLaw"
def lw_P (b : Addr) (xs : List Int32) (args : Array Value) (s : State) : Prop := args = #[.ref b] ∧ s.IntsAt b xs ∧ xs.length ≤ 260 ∧ (Jvm.Cond.and given_1 narrow_1).before args s = true
def lw_Q (_ : Array Value) (s : State) (o : Outcome) (t : State) : Prop := o = .returned (some (.int 1)) ∧ Framed s o t [] 204 3770
def lw_Z (below : List Frame) (a : Array Value) (s : State) : State → Prop := fun t => ∃ o, t.status = .running ∧ Ended t below o ∧ lw_Q a s o t
/-- the law's own end, with 1 on the stack, nothing written that was there before, its room as the claim has it -/
theorem lw_ret {p : Program} {l : Launch} {e : Env} {s : State} {m : MethodId} {below : List Frame} {meth : Method} {c : Code} {b : Nat} (hx : p.tables.exec = Jvm.exec) (hb : c.code = code) (hr : meth.sig.returnType = ret) (hlocks : meth.locks = false) {pc : Nat} {H : Heap} {ls : Array Slot} (hdg : decode code pc = .ok (.ireturn, 1)) : W p l e room_1 s m #[Value.ref b] below meth c H [] 204 3770 (lw_Z below #[Value.ref b] s) (F0 m pc ls [.int 1]) := by
  intro T hT X
  obtain ⟨fs, hret, hrun, hended, hW, hframe⟩ := X.leave (v := some (.int 1)) (hlocks := hlocks) (fun h => by rw [hr] at h; cases h)
  have hmeth' : T.vm.method? m = some meth := X.method'
  refine ⟨T.setFrames fs, ?_, .returned (some (.int 1)), hrun, hended, rfl, ⟨_, rfl⟩, hW, hframe⟩
  jvm_step X.here [X.here.top, hx, hb, hdg, hmeth', hr, ret, narrow_b1]
  (try refine ⟨rfl, ?_⟩); (try refine ⟨rfl, ?_⟩)
  first | (intro acts; rw [hret _ acts rfl rfl rfl]) | rw [hret _ _ rfl rfl rfl]
  exact Steps.refl _
/-- what holds at the law's entry: the machine, the code, the tables' words (any of lw_tbl by 'hts w (by decide +kernel)'), the script of L ints xs at the cell b, what the Statement gives of the start (any of its parts by flat_of_before) -/
def lw_At (p : Program) (s : State) (m : MethodId) (meth : Method) (c : Code) (b L : Nat) (xs : Nat → Int32) : Prop :=
  p.tables.exec = Jvm.exec ∧ c.code = code ∧ meth.sig.returnType = ret ∧ c.maxLocals = 17 ∧ s.vm.findClass R_law = some m.cls ∧ (∀ w ∈ lw_tbl, w.before #[Value.ref b] s = true) ∧ va_X b L xs s s.heap ∧ b < s.heap.size ∧ meth.locks = false ∧ (Jvm.Cond.and given_1 narrow_1).before #[Value.ref b] s = true
theorem zm14 : (Jvm.Cond.classLink "SluiceStreamLaw" (8 : Nat) "SluiceStream") ∈ zT := List.mem_filter.mpr ⟨List.mem_of_getElem? (i := 29) (by decide +kernel), by decide +kernel⟩
theorem zm15 : (Jvm.Cond.instantiable "SluiceStream" (5 : Nat)) ∈ zT := List.mem_filter.mpr ⟨List.mem_of_getElem? (i := 30) (by decide +kernel), by decide +kernel⟩
theorem zm18 : (Jvm.Cond.code ({ cls := "SluiceStream", name := "<init>", desc := "()V" } : Jvm.MethodName) prog_1_method_1_code (1 : Nat) (Option.none : Option Jvm.ClassFile.FieldType)) ∈ zT := List.mem_filter.mpr ⟨List.mem_of_getElem? (i := 33) (by decide +kernel), by decide +kernel⟩
theorem zm17 : (Jvm.Cond.instanceMethod ({ cls := "SluiceStream", name := "<init>", desc := "()V" } : Jvm.MethodName)) ∈ zT := List.mem_filter.mpr ⟨List.mem_of_getElem? (i := 32) (by decide +kernel), by decide +kernel⟩
theorem zm16 : (Jvm.Cond.methodLink "SluiceStreamLaw" (121 : Nat) ({ cls := "SluiceStream", name := "<init>", desc := "()V" } : Jvm.MethodName)) ∈ zT := List.mem_filter.mpr ⟨List.mem_of_getElem? (i := 31) (by decide +kernel), by decide +kernel⟩
theorem zd_L_law_0 : decode code 0 = .ok (.new 8, 3) := by decide +kernel
theorem zd_L_law_3 : decode code 3 = .ok (.dup, 1) := by decide +kernel
theorem zd_L_law_4 : decode code 4 = .ok (.invokespecial 121, 3) := by decide +kernel
theorem zd_L_law_7 : decode code 7 = .ok (.astore_n 1, 1) := by decide +kernel
set_option maxRecDepth 100000 in
theorem zrep0 (D : va_G) (cI : ClassId) (f : Nat → Nat) : [((f 0), .inr (5, [.ref (f 1), .ref (f 2), .ref (f 6), .ref (f 9), .ref (f 11)])), ((f 1), .inl (cI, 600, .inl (fun _ => 0))), ((f 2), .inr (3, [.ref (f 3), .ref (f 5), .int 0, .int 0, .int 0, .int 0, .int 32, .int 8, .int 64, .int 256, .int 0, .int (-1), .int 0, .int 0, .int 0])), ((f 3), .inr (0, [.ref (f 4)])), ((f 4), .inl (cI, 600, .inl (fun _ => 0))), ((f 5), .inr (4, [.int 0, .int 8, .int (-1), .int (-1), .int 0, .int 0, .int 0, .int 0])), ((f 6), .inr (1, [.ref (f 7), .int 0, .int 0, .int 0])), ((f 7), .inr (0, [.ref (f 8)])), ((f 8), .inl (cI, 600, .inl (fun _ => 0))), ((f 9), .inr (2, [.int 2, .ref (f 10), .int 0])), ((f 10), .inl (cI, 80, .inl (fun _ => 0))), ((f 11), .inr (2, [.int 9, .ref (f 12), .int 0])), ((f 12), .inl (cI, 360, .inl (fun _ => 0)))] = zrep (D, cI, f) zs0 := rfl

theorem zDq_of {w : zWd} {σ : zSt} {A : Nat → Prop} (h : va_D A (zrep w σ)) : zDq w ∧ ∀ k, k < 13 → A (zq w k) := by
  have hg : ∀ k, k < 13 → ∃ c, (zrep w σ)[k]? = some c := fun k hk => by
    have hlen : (zrep w σ).length = 13 := rfl
    exact ⟨_, List.getElem?_eq_getElem (by rw [hlen]; exact hk)⟩
  refine ⟨fun i j hi hj hq => ?_, fun k hk => ?_⟩
  · obtain ⟨c1, h1⟩ := hg i hi
    obtain ⟨c2, h2⟩ := hg j hj
    exact h.1 i j c1 c2 h1 h2 (by rw [(zrep_at h1).2, (zrep_at h2).2]; exact hq)
  · obtain ⟨c1, h1⟩ := hg k hk
    rw [← (zrep_at h1).2]
    exact h.2 k c1 h1
set_option maxHeartbeats 4000000 in
set_option maxRecDepth 100000 in
theorem z_begin {p : Program} {e : Env} {s : State} {m : MethodId} {below : List Frame} {meth : Method} {c : Code} (l : Launch) {b L : Nat} {xs : Nat → Int32} (hL : L ≤ 260) (C0 : lw_At p s m meth c b L xs) {A : Nat → Prop} {hAe : A = fun q : Nat => s.heap.size ≤ q} (w : zWd) (hts : ∀ x ∈ zT, x.before #[Value.ref b] s = true) {H : Heap} {locs : List Loc} (hK : va_K w.1 zcl (ztys w) s) (hP : va_P w.1 zcl (zrep w zs0) H) (hD : va_D A (zrep w zs0)) (hS : va_S A s.heap H locs) (ls : Array Slot) (hl : lv_has ls 17 [(0, .ref b), (1, .ref (zq w 0))]) : W p l e room_1 s m #[Value.ref b] below meth c H locs 13 2280 (lw_Z below #[Value.ref b] s) (F0 m 8 ls []) := by
  obtain ⟨hx, hb, hr, hml, hown, hts0, hX, hbl, hlocks, hgv⟩ := id C0
  subst hAe
  obtain ⟨hDq, hAq⟩ := zDq_of hD
  obtain ⟨hok, hres⟩ := z_pure L xs hL
  have h8 := J_L_law_8 (w := w) (l := l) (b := b) (L := L) (xs := xs) (K := (p, l, e, room_1, s, m, #[Value.ref b], below, meth, c, 17, 13, 2280, lw_Z below #[Value.ref b] s, fun q : Nat => s.heap.size ≤ q))
    ⟨hx, hb, hml, rfl, hown, hts, hK, hlocks, hDq, hAq, fun x h => h, rfl, rfl, Nat.le_of_ble_eq_true rfl, Nat.le_of_ble_eq_true rfl⟩ rfl ⟨hX, hbl, Nat.not_le.mpr hbl⟩ zs0 (X := j_L_law_8 L xs zs0) ?_ rfl hok
  · exact h8 H locs ls hP hS hl
  · intro σ' lv v pc hd hnr hPv H1 l1 ls1 hP1 hS1 hl1
    have hv : v = 1 := by rw [← hres, ← hPv]
    subst hv
    refine va_forget (fun q hq => hS1.2.2 q hq) ?_
    refine W.widen (k := 204) (n := 3770) (Nat.le_of_ble_eq_true rfl) (Nat.le_of_ble_eq_true rfl) ?_
    exact lw_ret hx hb hr hlocks hd

set_option maxHeartbeats 4000000 in
set_option maxRecDepth 100000 in
theorem whole_start {p : Program} {e : Env} {s : State} {m : MethodId} {below : List Frame} {meth : Method} {c : Code} (l : Launch) (hflags : l.flags = flags0) {b L : Nat} {xs : Nat → Int32} (hL : L ≤ 260) (C0 : lw_At p s m meth c b L xs) : W p l e room_1 s m #[Value.ref b] below meth c s.heap [] 0 0 (lw_Z below #[Value.ref b] s) (entryFrame m ([Value.ref b] : List Value).toArray 17) := by
  obtain ⟨hx, hb, hr, hml, hown, hts0, hX, hbl, hlocks, hgv⟩ := id C0
  obtain ⟨A, hAe⟩ : ∃ A : Nat → Prop, A = fun q : Nat => s.heap.size ≤ q := ⟨_, rfl⟩
  have hA : ∀ q : Nat, s.heap.size ≤ q → A q := fun _ h => by rw [hAe]; exact h
  have hts : ∀ x ∈ zT, x.before #[Value.ref b] s = true := fun x h => hts0 x (List.mem_filter.mp h).1
  obtain ⟨c_0, i_0, k_0⟩ := u_known (C := "SluiceStream$Positions") (T := zF0) (N := 1) (n := 1) hts zin0 (hts _ zm29)
  obtain ⟨c_1, i_1, k_1⟩ := u_known (C := "SluiceStream$Receiver") (T := zF1) (N := 4) (n := 4) hts zin1 (hts _ zm134)
  obtain ⟨c_2, i_2, k_2⟩ := u_known (C := "SluiceStream$Rows") (T := zF2) (N := 3) (n := 3) hts zin2 (hts _ zm157)
  obtain ⟨c_3, i_3, k_3⟩ := u_known (C := "SluiceStream$Sender") (T := zF3) (N := 15) (n := 15) hts zin3 (hts _ zm23)
  obtain ⟨c_4, i_4, k_4⟩ := u_known (C := "SluiceStream$Timer") (T := zF4) (N := 8) (n := 8) hts zin4 (hts _ zm40)
  obtain ⟨c_5, i_5, k_5⟩ := u_known (C := "SluiceStream") (T := zF5) (N := 5) (n := 5) hts zin5 (hts _ zm15)
  obtain ⟨D, hKc⟩ : ∃ D : va_G, ∀ (k : Nat) (q : vw_C), zcl[k]? = some q → u_Kn s q.1 q.2.1 q.2.2 (D.1 k) (D.2 k) := by
    refine ⟨(fun k => [c_0, c_1, c_2, c_3, c_4, c_5].getD k c_0, fun k => [i_0, i_1, i_2, i_3, i_4, i_5].getD k i_0), ?_⟩
    intro k q hq
    match k, hq with
    | 0, hq => cases hq; exact k_0
    | 1, hq => cases hq; exact k_1
    | 2, hq => cases hq; exact k_2
    | 3, hq => cases hq; exact k_3
    | 4, hq => cases hq; exact k_4
    | 5, hq => cases hq; exact k_5
    | k + 6, hq => simp [zcl] at hq
  have hN : zNn s := ⟨va_Nw.of rfl (hts0 _ (List.mem_of_getElem? (i := 39) (by decide +kernel))), va_Nw.of rfl (hts0 _ (List.mem_of_getElem? (i := 45) (by decide +kernel))), va_Nw.of rfl (hts0 _ (List.mem_of_getElem? (i := 56) (by decide +kernel))), va_Nw.of rfl (hts0 _ (List.mem_of_getElem? (i := 150) (by decide +kernel))), va_Nw.of rfl (hts0 _ (List.mem_of_getElem? (i := 155) (by decide +kernel)))⟩
  have hS : va_S A s.heap s.heap [] := va_S.rf
  have hK : va_K D zcl [] s := ⟨hKc, fun k q h => by simp at h⟩
  have hP : va_P D zcl [] s.heap := fun k q h => by simp at h
  have hD : va_D A [] := ⟨fun i j p q h => by simp at h, fun k q h => by simp at h⟩
  have hl := lv_entry ([.ref b]) (n := 17) (Nat.le_of_ble_eq_true rfl)
  rw [lg_entry_eq]
  generalize (lg_sl ([.ref b]) ++ List.replicate (17 - (lg_sl ([.ref b])).length) Slot.unset).toArray = ls at hl ⊢
  have hl : lv_has ls 17 [(0, .ref b)] := hl
  refine va_new (ci := 5) (fs := [.null, .null, .null, .null, .null]) (C := "SluiceStream") (T := zF5) (N := 5) hx hb hts zin5 zY5 zYo5 hown (hts _ zm14) (hts _ zm15) (hts _ zm1) hK hP hD hS hA rfl (zdf5) (by show 0 + 1 ≤ _; exact Nat.le_of_ble_eq_true rfl) (by show 0 + 5 ≤ _; exact Nat.le_of_ble_eq_true rfl) zd_L_law_0 (fun q1 H hP hD hS => ?_)
  have hP : va_P D zcl [(q1, .inr (5, [.null, .null, .null, .null, .null]))] H := hP
  have hD : va_D A [(q1, .inr (5, [.null, .null, .null, .null, .null]))] := hD
  refine W.widen (k := 1) (n := 5) (Nat.le_of_ble_eq_true rfl) (Nat.le_of_ble_eq_true rfl) ?_
  refine lv_dup hx hb zd_L_law_3 rfl ?_
  have hPc := hP.sub (ws' := [(q1, .inr (5, [.null, .null, .null, .null, .null]))]) [0] rfl
  have hDc := hD.sub (ws' := [(q1, .inr (5, [.null, .null, .null, .null, .null]))]) [0] (by decide) rfl
  have hKc := hK.sub (tys' := []) [] rfl
  have hFc := va_free (wc := [(q1, .inr (5, [.null, .null, .null, .null, .null]))]) hD hS hA [0] rfl
  refine va_callv (va_runI (As := []) (rest := [.ref q1]) ⟨hx, hb, hml, hown, hts⟩ (ct_X l D q1 H.size) (cwI 0 hts (zgood (fun _ h => h) zm18) rfl rfl rfl (hts _ zm1) (hts _ zm16) (hts _ zm17) rfl (by decide +kernel) ⟨Nat.le_of_ble_eq_true rfl, Nat.le_of_ble_eq_true rfl⟩) ⟨zcblind, fun U hU hW => ⟨rfl, by rw [hU], by rw [hU]; exact hPc, va_K.moved hW.alike hKc, hDc.weaken (fun _ _ _ _ => trivial), zNn_moved hW hN⟩⟩ rfl rfl hl.1 rfl (lv_room (Nat.le_of_ble_eq_true rfl)) zd_L_law_4 ⟨by show 1 + 12 ≤ _; exact Nat.le_of_ble_eq_true rfl, by show 5 + 2275 ≤ _; exact Nat.le_of_ble_eq_true rfl⟩) hS (fun q _ h => hFc q h) hFc (fun u t H1 locs ht hvm hw hB hz1 hk1 hS => ?_)
  obtain ⟨q2, q3, q4, q5, q6, q7, q8, q9, q10, q11, q12, q13, c14, c15, c16, c17, c18, hP1, hK1, hD1⟩ := hB
  rw [ht] at hP1
  have hK1 := va_K.moved hvm.symm hK1
  obtain ⟨hP, hD⟩ := va_join (wr := []) (w1 := [(q1, .inr (5, [.ref q2, .ref q3, .ref q7, .ref q10, .ref q12])), (q2, .inl (c14, 600, .inl (fun _ => 0))), (q3, .inr (3, [.ref q4, .ref q6, .int 0, .int 0, .int 0, .int 0, .int 32, .int 8, .int 64, .int 256, .int 0, .int (-1), .int 0, .int 0, .int 0])), (q4, .inr (0, [.ref q5])), (q5, .inl (c15, 600, .inl (fun _ => 0))), (q6, .inr (4, [.int 0, .int 8, .int (-1), .int (-1), .int 0, .int 0, .int 0, .int 0])), (q7, .inr (1, [.ref q8, .int 0, .int 0, .int 0])), (q8, .inr (0, [.ref q9])), (q9, .inl (c16, 600, .inl (fun _ => 0))), (q11, .inl (c17, 80, .inl (fun _ => 0))), (q10, .inr (2, [.int 2, .ref q11, .int 0])), (q13, .inl (c18, 360, .inl (fun _ => 0))), (q12, .inr (2, [.int 9, .ref q13, .int 0]))]) hP hD [0] [] rfl rfl (by decide) (by decide) hk1 hFc hP1 hD1
  have hK := (hK.sub (tys' := []) [] rfl).app hK1
  generalize H1 = H at hP hS ⊢
  have hP : va_P D zcl [(q1, .inr (5, [.ref q2, .ref q3, .ref q7, .ref q10, .ref q12])), (q2, .inl (c14, 600, .inl (fun _ => 0))), (q3, .inr (3, [.ref q4, .ref q6, .int 0, .int 0, .int 0, .int 0, .int 32, .int 8, .int 64, .int 256, .int 0, .int (-1), .int 0, .int 0, .int 0])), (q4, .inr (0, [.ref q5])), (q5, .inl (c15, 600, .inl (fun _ => 0))), (q6, .inr (4, [.int 0, .int 8, .int (-1), .int (-1), .int 0, .int 0, .int 0, .int 0])), (q7, .inr (1, [.ref q8, .int 0, .int 0, .int 0])), (q8, .inr (0, [.ref q9])), (q9, .inl (c16, 600, .inl (fun _ => 0))), (q11, .inl (c17, 80, .inl (fun _ => 0))), (q10, .inr (2, [.int 2, .ref q11, .int 0])), (q13, .inl (c18, 360, .inl (fun _ => 0))), (q12, .inr (2, [.int 9, .ref q13, .int 0]))] H := hP
  have hD : va_D A [(q1, .inr (5, [.ref q2, .ref q3, .ref q7, .ref q10, .ref q12])), (q2, .inl (c14, 600, .inl (fun _ => 0))), (q3, .inr (3, [.ref q4, .ref q6, .int 0, .int 0, .int 0, .int 0, .int 32, .int 8, .int 64, .int 256, .int 0, .int (-1), .int 0, .int 0, .int 0])), (q4, .inr (0, [.ref q5])), (q5, .inl (c15, 600, .inl (fun _ => 0))), (q6, .inr (4, [.int 0, .int 8, .int (-1), .int (-1), .int 0, .int 0, .int 0, .int 0])), (q7, .inr (1, [.ref q8, .int 0, .int 0, .int 0])), (q8, .inr (0, [.ref q9])), (q9, .inl (c16, 600, .inl (fun _ => 0))), (q11, .inl (c17, 80, .inl (fun _ => 0))), (q10, .inr (2, [.int 2, .ref q11, .int 0])), (q13, .inl (c18, 360, .inl (fun _ => 0))), (q12, .inr (2, [.int 9, .ref q13, .int 0]))] := hD
  have hK : va_K D zcl [(c14, .int), (c15, .int), (c16, .int), (c17, .int), (c18, .int)] s := hK
  refine W.widen (k := 13) (n := 2280) (Nat.le_of_ble_eq_true rfl) (Nat.le_of_ble_eq_true rfl) ?_
  refine lv_astore_n (lv' := [(1, .ref q1), (0, .ref b)]) hx hb zd_L_law_7 rfl hl (by decide) rfl (fun ls hl => ?_)
  have f_c14 : s.vm.findClass ("[" ++ FieldType.int.toString) = some c14 := (hK.2 0 _ rfl).2
  have f_c15 : s.vm.findClass ("[" ++ FieldType.int.toString) = some c15 := (hK.2 1 _ rfl).2
  have f_c16 : s.vm.findClass ("[" ++ FieldType.int.toString) = some c16 := (hK.2 2 _ rfl).2
  have f_c17 : s.vm.findClass ("[" ++ FieldType.int.toString) = some c17 := (hK.2 3 _ rfl).2
  have f_c18 : s.vm.findClass ("[" ++ FieldType.int.toString) = some c18 := (hK.2 4 _ rfl).2
  have g_c15 : c15 = c14 := Option.some.inj (f_c15.symm.trans f_c14)
  have g_c16 : c16 = c14 := Option.some.inj (f_c16.symm.trans f_c14)
  have g_c17 : c17 = c14 := Option.some.inj (f_c17.symm.trans f_c14)
  have g_c18 : c18 = c14 := Option.some.inj (f_c18.symm.trans f_c14)
  rw [g_c15, g_c16, g_c17, g_c18] at hP hD
  obtain ⟨w, hw⟩ : ∃ w : zWd, w = (D, c14, fun k => [q1, q2, q3, q4, q5, q6, q7, q8, q9, q10, q11, q12, q13].getD k 0) := ⟨_, rfl⟩
  have hP9 := hP.sub (ws' := [(q1, .inr (5, [.ref q2, .ref q3, .ref q7, .ref q10, .ref q12])), (q2, .inl (c14, 600, .inl (fun _ => 0))), (q3, .inr (3, [.ref q4, .ref q6, .int 0, .int 0, .int 0, .int 0, .int 32, .int 8, .int 64, .int 256, .int 0, .int (-1), .int 0, .int 0, .int 0])), (q4, .inr (0, [.ref q5])), (q5, .inl (c14, 600, .inl (fun _ => 0))), (q6, .inr (4, [.int 0, .int 8, .int (-1), .int (-1), .int 0, .int 0, .int 0, .int 0])), (q7, .inr (1, [.ref q8, .int 0, .int 0, .int 0])), (q8, .inr (0, [.ref q9])), (q9, .inl (c14, 600, .inl (fun _ => 0))), (q10, .inr (2, [.int 2, .ref q11, .int 0])), (q11, .inl (c14, 80, .inl (fun _ => 0))), (q12, .inr (2, [.int 9, .ref q13, .int 0])), (q13, .inl (c14, 360, .inl (fun _ => 0)))]) [0, 1, 2, 3, 4, 5, 6, 7, 8, 10, 9, 12, 11] rfl
  have hD9 := hD.sub (ws' := [(q1, .inr (5, [.ref q2, .ref q3, .ref q7, .ref q10, .ref q12])), (q2, .inl (c14, 600, .inl (fun _ => 0))), (q3, .inr (3, [.ref q4, .ref q6, .int 0, .int 0, .int 0, .int 0, .int 32, .int 8, .int 64, .int 256, .int 0, .int (-1), .int 0, .int 0, .int 0])), (q4, .inr (0, [.ref q5])), (q5, .inl (c14, 600, .inl (fun _ => 0))), (q6, .inr (4, [.int 0, .int 8, .int (-1), .int (-1), .int 0, .int 0, .int 0, .int 0])), (q7, .inr (1, [.ref q8, .int 0, .int 0, .int 0])), (q8, .inr (0, [.ref q9])), (q9, .inl (c14, 600, .inl (fun _ => 0))), (q10, .inr (2, [.int 2, .ref q11, .int 0])), (q11, .inl (c14, 80, .inl (fun _ => 0))), (q12, .inr (2, [.int 9, .ref q13, .int 0])), (q13, .inl (c14, 360, .inl (fun _ => 0)))]) [0, 1, 2, 3, 4, 5, 6, 7, 8, 10, 9, 12, 11] (by decide) rfl
  have hK9 := hK.sub (tys' := [(c14, .int)]) [0] rfl
  have hr9 : [(q1, .inr (5, [.ref q2, .ref q3, .ref q7, .ref q10, .ref q12])), (q2, .inl (c14, 600, .inl (fun _ => 0))), (q3, .inr (3, [.ref q4, .ref q6, .int 0, .int 0, .int 0, .int 0, .int 32, .int 8, .int 64, .int 256, .int 0, .int (-1), .int 0, .int 0, .int 0])), (q4, .inr (0, [.ref q5])), (q5, .inl (c14, 600, .inl (fun _ => 0))), (q6, .inr (4, [.int 0, .int 8, .int (-1), .int (-1), .int 0, .int 0, .int 0, .int 0])), (q7, .inr (1, [.ref q8, .int 0, .int 0, .int 0])), (q8, .inr (0, [.ref q9])), (q9, .inl (c14, 600, .inl (fun _ => 0))), (q10, .inr (2, [.int 2, .ref q11, .int 0])), (q11, .inl (c14, 80, .inl (fun _ => 0))), (q12, .inr (2, [.int 9, .ref q13, .int 0])), (q13, .inl (c14, 360, .inl (fun _ => 0)))] = zrep w zs0 := by
    rw [hw]
    exact zrep0 D c14 (fun k => [q1, q2, q3, q4, q5, q6, q7, q8, q9, q10, q11, q12, q13].getD k 0)
  rw [hr9] at hP9 hD9
  have hK9 : va_K w.1 zcl (ztys w) s := by rw [hw]; exact hK9
  have hP9 : va_P w.1 zcl (zrep w zs0) H := by rw [hw] at hP9 ⊢; exact hP9
  exact z_begin (hAe := hAe) l hL C0 w hts hK9 hP9 hD9 hS ls (by
    have h := lv_sub hl (l' := [(0, .ref b), (1, .ref (zq w 0))]) [1, 0] (by rw [hw]; rfl)
    exact h)
