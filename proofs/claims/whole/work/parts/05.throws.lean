
section ZX
def zNm : List String := ["java/lang/RuntimeException", "java/lang/Exception"]
def zNs : List Cond := lw_tbl.filter (fun x => x.onTables && x.faceAtom)
theorem zcs0 : Cond.castable "java/lang/IllegalArgumentException" "java/lang/IllegalArgumentException" ∈ zNs := List.mem_filter.mpr ⟨List.mem_of_getElem? (i := 420) (by decide +kernel), by decide +kernel⟩
theorem zcs1 : Cond.castable "java/lang/IllegalStateException" "java/lang/IllegalStateException" ∈ zNs := List.mem_filter.mpr ⟨List.mem_of_getElem? (i := 483) (by decide +kernel), by decide +kernel⟩
theorem zcs2 : Cond.castable "java/lang/IndexOutOfBoundsException" "java/lang/IndexOutOfBoundsException" ∈ zNs := List.mem_filter.mpr ⟨List.mem_of_getElem? (i := 603) (by decide +kernel), by decide +kernel⟩
theorem zNs_ot {x : Cond} (hx : x ∈ zNs) : x.onTables = true ∧ x.faceAtom = true := by
  have h := (List.mem_filter.mp hx).2
  simpa only [Bool.and_eq_true] using h
def zAq (w : zWd) : Nat → Prop := fun a => ∃ k, k < 26 ∧ a = zq w k
def zX (w : zWd) (U : State) : Prop := (∀ x ∈ zNs, x.before #[] U = true) ∧ va_Nc "java/lang/IllegalStateException" "java/lang/IllegalArgumentException" U ∧ va_Nc "java/lang/IllegalStateException" "java/lang/IndexOutOfBoundsException" U ∧ vx_Zq Bundle.tN "UNASSIGNED_STACK" Bundle.steD (zAq w) U U.heap ∧ vx_Zq Bundle.tN "SUPPRESSED_SENTINEL" Bundle.listD (zAq w) U U.heap
theorem zNc_moved {E F : String} {u U : State} (hvm : u.vm.Alike U.vm) (h : va_Nc E F u) : va_Nc E F U := by
  obtain ⟨c, t, h1, h2, h3⟩ := h
  exact ⟨c, t, by rw [hvm.findClass]; exact h1, by rw [hvm.findClass]; exact h2, by rw [hvm.assignable]; exact h3⟩
theorem zNs_moved {u U : State} (hvm : u.vm.Alike U.vm) (h : ∀ x ∈ zNs, x.before #[] u = true) : ∀ x ∈ zNs, x.before #[] U = true := by
  intro x hx
  have h1 := zNs_ot hx
  have h2 : x.before #[] (u.setVm U.vm) = true := Cond.faceAtom_setVm hvm x h1.2 (h x hx)
  exact va_tabs h1.1 (rfl : (u.setVm U.vm).vm = U.vm) h2
theorem zX_moved {w : zWd} {u U : State} (hvm : u.vm.Alike U.vm) (hh : ∀ a : Nat, a < u.heap.size → ¬ zAq w a → U.heap[a]? = u.heap[a]?) (h : zX w u) : zX w U :=
  ⟨zNs_moved hvm h.1, zNc_moved hvm h.2.1, zNc_moved hvm h.2.2.1, vx_Zq.moved hvm (vx_Zq.kept h.2.2.2.1 hh), vx_Zq.moved hvm (vx_Zq.kept h.2.2.2.2 hh)⟩
theorem zZ_wide {C n d : String} {v : Value} {w : zWd} {U : State} {H : Heap} (h : va_Z C n d v (zAq w) U H) : va_Z C n d v (zA w H.size) U H := by
  obtain ⟨cf, kf, fi, f, a, cell, h1, h2, h3, h4, h5, h6, h7, h8⟩ := h
  refine ⟨cf, kf, fi, f, a, cell, h1, h2, h3, h4, h5, h6, h7, ?_⟩
  intro hz
  rcases hz with hz | hz
  · exact h8 hz
  · exact absurd (Array.getElem?_eq_some_iff.mp h5).1 (Nat.not_lt.mpr hz)
theorem zZq_wide {C n d : String} {w : zWd} {U : State} {H : Heap} (h : vx_Zq C n d (zAq w) U H) : vx_Zq C n d (zA w H.size) U H := by
  obtain ⟨h1, c, k, i, f, a, cell, g1, g2, g3, g4, g5, g6, g7, g8, g9, g10⟩ := h
  refine ⟨?_, c, k, i, f, a, cell, g1, g2, g3, g4, g5, g6, g7, g8, g9, ?_⟩
  · rcases h1 with h1 | ⟨t, h1⟩
    · exact Or.inl (zZ_wide h1)
    · exact Or.inr ⟨t, zZ_wide h1⟩
  · intro hz
    rcases hz with hz | hz
    · exact g10 hz
    · exact absurd (Array.getElem?_eq_some_iff.mp g5).1 (Nat.not_lt.mpr hz)
def zMx (l : Launch) (y : MethodName) (cc : ByteArray) (n fr lo : Nat) (ty : FieldType) (w : zWd) (as : List Value) (σ : zSt) (P : Int32 → zSt → Prop) (PX : String → zSt → Prop) : Prop :=
  ∀ sz : Nat, vx_Met l y (.code y cc n (some ty) :: zT) ({ frames := fr, cells := 1, slots := 6, locals := lo } : Room) (va_Pc as (fun U => U.heap.size = sz ∧ zWo w σ U ∧ zX w U)) (va_Qi P (fun u t => zWo w u t) (zA w sz)) (vx_X (fun _ : zSt => True) (fun E u t => PX E u ∧ zWo w u t) (zA w sz)) 1 6 (zA w sz)
def zTw (own : String) (ik ic : Nat) (E : String) : Prop :=
  Cond.classLink own ik E ∈ zT ∧ Cond.initialized E ∈ zT ∧ (∀ x ∈ (vx_at0 own ic E zNm).filter goodWord, x ∈ zT) ∧ (∀ x ∈ (vx_at0 own ic E zNm).filter (fun x => !goodWord x), x ∈ zNs) ∧ (∀ x ∈ Cond.classLink own ik E :: Cond.initialized E :: vx_at0 own ic E zNm, vx_ot x = true) ∧ Bundle.fit E = true
def zRx (K : zCx) (w : zWd) (cc : ByteArray) (own : String) (lo : Nat) (PX : String → zSt → Prop) : Prop :=
  ∀ (E : String) (ik ic : Nat) (σ : zSt) (lv : List (Nat × Value)) (st : List Value) (pc : Nat), zTw own ik ic E → (st.map fun v => v.category).sum + 81 ≤ lo → decode cc pc = .ok (.new ik, 3) → decode cc (pc + 3) = .ok (.dup, 1) → decode cc (pc + 4) = .ok (.invokespecial ic, 3) → decode cc (pc + 7) = .ok (.athrow, 1) → PX E σ → Z K w σ lv st pc
theorem zP_kept {w : zWd} {σ : zSt} {H H1 : Heap} (hP : va_P w.1 zcl (zrep w σ) H) (h : ∀ q : Nat, q < H.size → H1[q]? = H[q]?) : va_P w.1 zcl (zrep w σ) H1 :=
  hP.kept (fun k x hx => h x.1 ((hP k x hx).lt))
theorem zMx_of {l : Launch} {y : MethodName} {cc : ByteArray} {n fr lo : Nat} {ty : FieldType} {w : zWd} {as : List Value} {σ : zSt} {P : Int32 → zSt → Prop} {PX : String → zSt → Prop} (hfl : l.stackTraces = false) (hpl : plainName y.cls = true) (hlen : (lg_sl as).length ≤ n) (hfr : 5 < fr) (body : ∀ K : zCx, zOk K w cc y.cls n fr lo → kl K = l → zRi K w cc ty P → zRx K w cc y.cls lo PX → Z K w σ (lv_args 0 as) [] 0) : zMx l y cc n fr lo ty w as σ P PX := by
  intro sz
  refine vx_ofW (cc := cc) (maxL := n) (ret := some ty) hpl rfl ?_
  intro p e s m args below meth c s₁ B hml htab hv
  obtain ⟨rfl, hsz, ⟨hP, hK, hDq⟩, hX⟩ := hv
  subst hsz
  have hts : ∀ x ∈ zT, x.before as.toArray s = true := fun x hx => atoms_spec (ws := Cond.code y cc n (some ty) :: zT) B.pre x (List.mem_cons_of_mem _ hx)
  have hown : s.vm.findClass y.cls = some m.cls := findClass_of_methodNamed B.named
  have hr := B.returns
  rw [lg_entry_eq]
  refine body (p, l, e, ({ frames := fr, cells := 1, slots := 6, locals := lo } : Room), s, m, as.toArray, below, meth, c, n, 0, 0, vx_MQ below (va_Qi P (fun u t => zWo w u t) (zA w s.heap.size)) (vx_X (fun _ : zSt => True) (fun E u t => PX E u ∧ zWo w u t) (zA w s.heap.size)) as.toArray s 1 6 (zA w s.heap.size), zA w s.heap.size)
    ⟨B.exec, B.bytes, hml, rfl, hown, hts, hK, B.notSynchronized, hDq, fun k hk => Or.inl ⟨k, hk, rfl⟩, fun x hx => Or.inr hx, rfl, rfl, Nat.zero_le _, Nat.zero_le _⟩ rfl ?_ ?_ s.heap [] _ hP va_S.rf (lv_entry as hlen)
  · intro σ' lv v pc hd hnr hPv H locs ls hP' hS hl
    exact vx_ret (W.widen (k := 1) (n := 6) (Nat.zero_le _) (Nat.zero_le _) (W.zret B.exec B.bytes hr hnr (fun t ht hW => ⟨⟨v, σ', rfl, hPv, by rw [ht]; exact hP', va_K.moved hW.alike hK, hDq⟩, hS.F ht⟩) hS.2.2 hd B.notSynchronized))
  · intro E ik ic σ' lv st pc hT hst d0 d3 d4 d7 hPX H locs ls hP' hS hl
    have hns : ∀ x ∈ zNs, x.before as.toArray s = true := by
      intro x hx
      exact va_tabs (zNs_ot hx).1 rfl (hX.1 x hx)
    refine vx_throw0 (names := zNm) B.exec B.bytes hfl hown hT.2.2.2.2.2 (by decide +kernel) (hts _ hT.1) (hts _ hT.2.1) (vx_hat (fun x hx => hts x (hT.2.2.1 x hx)) hT.2.2.2.1 hns) hT.2.2.2.2.1 (zZq_wide hX.2.2.2.1) (zZq_wide hX.2.2.2.2) hS (hl.1.trans hml.symm) d0 d3 d4 d7 (fun x hx => (htab x hx).elim) hfr hst (Nat.le_refl _) (Nat.le_refl _) B.notSynchronized ?_ hS.2.2 (Nat.le_refl _) (Nat.le_refl _)
    intro t hvm hsz ht
    refine ⟨σ', trivial, ⟨hPX, zP_kept hP' ht, va_K.moved hvm hK, hDq⟩, ?_⟩
    exact ⟨Nat.le_trans hS.1 hsz, fun q h1 h2 => (ht q (Nat.lt_of_lt_of_le h1 hS.1)).trans (hS.2.1 q h1 h2)⟩
end ZX
section ZWr
def kup (K : zCx) : zCx := (kp K, kl K, ke K, kR K, ks K, km K, ka K, kb K, kmt K, kc K, kn K, kce K + 1, ksl K + 6, kQ K, kA K)
theorem zOk_up {K : zCx} {w : zWd} {cc : ByteArray} {own : String} {n fr lo : Nat} (O : zOk K w cc own n fr lo) (h1 : kce K + 1 ≤ (kR K).cells) (h2 : ksl K + 6 ≤ (kR K).slots) : zOk (kup K) w cc own n fr lo :=
  ⟨O.x, O.b, O.ml, O.nl, O.ow, O.ts, O.k, O.lk, O.dq, O.aq, O.an, O.fx, O.lx, h1, h2⟩
def zXW (K : zCx) (w : zWd) (σ : zSt) (lv : List (Nat × Value)) (st : List Value) (pc : Nat) (E : String) : Prop :=
  ∀ (H : Heap) (locs : List Loc) (ls : Array Slot) (q : Addr) (ce : Cell), va_P w.1 zcl (zrep w σ) H → va_S (kA K) (ks K).heap H locs → lv_has ls (kn K) lv → H[q]? = some ce → ce.vm = .none → (ks K).vm.findClass E = some ce.cls → vx_W (kp K) (kl K) (ke K) (kR K) (ks K) (km K) (ka K) (kb K) (kmt K) (kc K) H locs (kce K) (ksl K) (kQ K) (F0 (km K) pc ls st) q
section ZWr1
variable {K : zCx} {w : zWd} {cc : ByteArray} {own : String} {n fr lo : Nat} {σ : zSt} {lv lv' : List (Nat × Value)} {st st0 : List Value} {pc : Nat} {l : Launch} {y : MethodName} {cy : ByteArray} {ny fr' lo' na idx : Nat} {ty : FieldType} {as : List Value}
theorem zblindX {as : List Value} {sz : Nat} : FrameBlind (va_Pc as (fun U => U.heap.size = sz ∧ zWo w σ U ∧ zX w U)) :=
  fun a U g mk h => ⟨h.1, h.2.1, ⟨h.2.2.1.1, va_K.moved (u := U) (U := U.calling g mk a) (Vm.Alike.refl U.vm) h.2.2.1.2.1, h.2.2.1.2.2⟩, zX_moved (u := U) (U := U.calling g mk a) (Vm.Alike.refl U.vm) (fun _ _ _ => rfl) h.2.2.2⟩
theorem zcallBX {ret : Option FieldType} (O : zOk K w cc own n fr lo) (L : zLk own idx y cy ny ret na) (hf : fr' + 1 ≤ fr) (hlo : 8 + (ny + 11) + lo' ≤ lo) :
    CallB (kR K) (ks K) (ka K) own idx y cy ny ret (Cond.code y cy ny ret :: zT) ({ frames := fr', cells := 1, slots := 6, locals := lo' } : Room) 1 6 na :=
  callB_of (Ts := zT) na O.ts (zgood (fun _ h => h) L.2.2.1) rfl rfl rfl (O.ts _ L.2.1) (O.ts _ L.1) L.2.2.2 ⟨by rw [O.fx]; exact hf, by rw [O.lx]; exact hlo⟩
theorem z_callxi {P : Int32 → zSt → Prop} {PX : String → zSt → Prop} (O : zOk K w cc own n fr lo) (hl0 : kl K = l) (hX : ∀ (H : Heap) (locs : List Loc), va_S (kA K) (ks K).heap H locs → ∀ U : State, U.heap = H → (ks K).WarmedH U.vm → zX w U) (i ci : Nat) {fs : List Value} {qc : vw_C} (he : (zrep w σ)[i]? = some (zq w i, .inr (ci, fs))) (hc : zcl[ci]? = some qc) (hM : zMx l y cy ny fr' lo' ty w (.ref (zq w i) :: as) σ P PX) (L : zLk own idx y cy ny (some ty) na) (hi : Cond.instanceMethod y ∈ zT) (hs : Cond.selects qc.1 y y ∈ zT) (hna : as.length = na) (hst : st0 = as.reverse ++ .ref (zq w i) :: st) (hf : fr' + 1 ≤ fr) (hlo : 8 + (ny + 11) + lo' ≤ lo) (hroom : (st.map fun v => v.category).sum ≤ 8) (hce : kce K + 1 ≤ (kR K).cells) (hsl : ksl K + 6 ≤ (kR K).slots) (hd : decode cc pc = .ok (.invokevirtual idx, 3))
    (kx : ∀ (E : String) (u : zSt), PX E u → zXW (kup K) w u lv st pc E) (kk : ∀ (r : Int32) (u : zSt), P r u → Z (kup K) w u lv (.int r :: st) (pc + 3)) : Z K w σ lv st0 pc := by
  intro H locs ls hP hS hl
  subst hl0
  refine vx_calli (vx_runV (As := as) (rest := st) (C := qc.1) (n := na) ⟨O.x, O.b, O.ml, O.ow, O.ts⟩ (hM H.size) ⟨zcallBX O L hf hlo, O.ts _ hi, O.ts _ hs⟩ ⟨zblindX, va_recv O.k hP hc he, fun U hU hW => ⟨rfl, by rw [hU], ⟨by rw [hU]; exact hP, va_K.moved hW.alike O.k, O.dq⟩, hX H locs hS U hU hW⟩⟩ rfl hna (hl.1.trans O.nl) hst (lv_room hroom) hd ⟨hce, hsl⟩) hS (fun q _ h => zA_sub O hS q h) (zA_sub O hS) (fun q _ h => zA_sub O hS q h) ?_ ?_
  · intro E ce q9 u t H1 l1 ht hvm _ hB hz hk hS1 h7 h8 h9
    exact kx E u hB.1 H1 l1 ls q9 ce (by rw [← ht]; exact hB.2.1) hS1 hl h7 h8 h9
  · intro r u t H1 l1 ht hvm hPu hB hz hk hS1
    exact kk r u hPu H1 l1 ls (by rw [← ht]; exact hB.1) hS1 hl
theorem z_catch {hh : List (Nat × Nat × Nat × Nat)} (O : zOk K w cc own n fr lo) {E : String} (htab : (kc K).exceptionTable.toList = tableOf hh) (pre : List ExceptionTableEntry) (x : ExceptionTableEntry) (suf : List ExceptionTableEntry) (hsplit : tableOf hh = pre ++ x :: suf)
    (hpass : ∀ z ∈ pre, covers z pc = false ∨ (z.catchType ≠ 0 ∧ ∃ nm : String, (Cond.classLink own z.catchType nm) ∈ zT ∧ va_Nc E nm (ks K))) (hx : covers x pc = true) (h0 : x.catchType ≠ 0) (hlink : Cond.classLink own x.catchType E ∈ zT) (hcast : (Cond.castable E E).before (ka K) (ks K) = true)
    (kk : ∀ q : Nat, Z K w σ lv [.ref q] x.handlerPc) : zXW K w σ lv st pc E := by
  intro H locs ls q ce hP hS hl h7 h8 h9
  refine vx_catch O.ow pre x suf (htab.trans hsplit) (fun z hz => ?_) hx h0 (O.ts _ hlink) hcast h7 h8 h9 (kk q H locs ls hP hS hl)
  rcases hpass z hz with h | ⟨h1, nm, h2, h3⟩
  · exact Or.inl h
  · exact Or.inr ⟨h1, nm, O.ts _ h2, h3⟩
theorem z_astore (O : zOk K w cc own n fr lo) {i : Nat} {x : Nat} (hd : decode cc pc = .ok (.astore i, 2)) (hn : i < n) (hl' : (i, Value.ref x) :: lv.filter (fun q => !(q.1 == i) && !(q.1 + 1 == i && q.2.category == 2)) = lv') (k : Z K w σ lv' st (pc + 2)) : Z K w σ lv (.ref x :: st) pc := fun H locs ls hP hS hl => lv_astore O.x O.b hd hl (by rw [O.nl]; exact hn) hl' (fun ls' h' => k H locs ls' hP hS h')
theorem zae25 (w : zWd) (σ : zSt) : (zrep w σ)[25]? = some (zq w 25, .inl (w.2.2.2.1, 1, .inr (.inl (fun j => (σ 25 j).toInt64)))) := rfl
theorem zas25 (w : zWd) (σ : zSt) (x : Int32) : (zrep w σ).set 25 (zq w 25, .inl (w.2.2.2.1, 1, .inr (.inl (vp_updL (fun j => (σ 25 j).toInt64) 0 x.toInt64)))) = zrep w (zuf σ 25 0 x) := by
  have h : vp_updL (fun j => (σ 25 j).toInt64) 0 x.toInt64 = fun j => ((zuf σ 25 0 x) 25 j).toInt64 := by
    funext j
    unfold vp_updL zuf
    by_cases hj : j = 0
    · simp [hj]
    · simp [hj]
  rw [h]
  rfl
theorem z_last (O : zOk K w cc own n fr lo) {x : Int32} {v : Int64} (hv : x.toInt64 = v) (hd : decode cc pc = .ok (.lastore, 1)) (kk : Z K w (zuf σ 25 0 x) lv st (pc + 1)) : Z K w σ lv (.long v :: .int 0 :: .ref (zq w 25) :: st) pc := fun H locs ls hP hS hl => by
  subst hv
  refine va_last O.x O.b O.k hP (zrep_D O.dq O.aq) hS 25 2 (zae25 w σ) rfl (by unfold vp_in; decide) hd (fun H1 l1 hP1 _ hS1 => kk H1 l1 ls ?_ hS1 hl)
  rw [show (0 : Int32).toNatClampNeg = 0 from by decide, zas25] at hP1
  exact hP1
theorem z_lald (O : zOk K w cc own n fr lo) (hd : decode cc pc = .ok (.laload, 1)) (kk : Z K w σ lv (.long (σ 25 0).toInt64 :: st) (pc + 1)) : Z K w σ lv (.int 0 :: .ref (zq w 25) :: st) pc := fun H locs ls hP hS hl =>
  va_lald O.x O.b O.k hP 25 2 (zae25 w σ) rfl (by unfold vp_in; decide) hd (kk H locs ls hP hS hl)
end ZWr1
def zMw (l : Launch) (y : MethodName) (cc : ByteArray) (n : Nat) (hh : List (Nat × Nat × Nat × Nat)) (fr lo : Nat) (w : zWd) (as : List Value) (σ : zSt) (P : Int32 → zSt → Prop) : Prop :=
  ∀ sz : Nat, Met l y (.codeWith y cc n (some .int) hh :: zT) ({ frames := fr, cells := 1, slots := 6, locals := lo } : Room) (va_Pc as (fun U => U.heap.size = sz ∧ zWo w σ U ∧ zX w U)) (va_Qi P (fun u t => zWo w u t) (zA w sz)) 1 6 (zA w sz)
theorem zMet_ofWH {l : Launch} {y : MethodName} {ws ws' : List Cond} {rm : Room} {Pc : Array Value → State → Prop} {Qc : Array Value → State → Outcome → State → Prop} {mc ms : Nat} {free : Addr → Prop} {cc : ByteArray} {maxL : Nat} {ret : Option FieldType} {hh : List (Nat × Nat × Nat × Nat)}
    (hy : plainName y.cls = true) (hw : ws = Cond.codeWith y cc maxL ret hh :: ws')
    (body : ∀ p e s m args below meth c s₁, BodyLoose p l y (headSpec ws rm) cc maxL ret e s m args below meth c s₁ → c.maxLocals = maxL → Pc args s →
      W p l e (headSpec ws rm).room s m args below meth c s.heap [] 0 0 (MQ below Qc args s mc ms free) (entryFrame m args maxL)) : Met l y ws rm Pc Qc mc ms free := by
  refine MetFree.of_bodyS (code := cc) (maxLocals := maxL) (ret := ret) hy ?_ ?_
  · intro args s m h hn
    obtain ⟨m9, meth, c, hn9, h1, h2, h3, h4, -, h5, h6, -⟩ := Cond.codeWith_spec (atoms_spec (ws := ws) h _ (by rw [hw]; exact List.mem_cons_self))
    cases hn.symm.trans hn9
    exact ⟨meth, c, h1, h2, h3, h4, h5, h6⟩
  · intro p e s m args below meth c s₁ B hml hP _
    have hh0 : s₁.heap = s.heap := by rw [B.state]; rfl
    obtain ⟨t, a1, o, b1, b2, b3⟩ := body p e s m args below meth c s₁ B hml hP s₁ hh0 (Stand.of_body B)
    exact ⟨t, o, a1, b1, b2, ⟨b3.1, b3.2⟩⟩
theorem zMw_of {l : Launch} {y : MethodName} {cc : ByteArray} {n fr lo : Nat} {hh : List (Nat × Nat × Nat × Nat)} {w : zWd} {as : List Value} {σ : zSt} {P : Int32 → zSt → Prop} (hpl : plainName y.cls = true) (hlen : (lg_sl as).length ≤ n)
    (body : ∀ K : zCx, zOk K w cc y.cls n fr lo → kl K = l → (kc K).exceptionTable.toList = tableOf hh → (kce K + 1 ≤ (kR K).cells ∧ ksl K + 6 ≤ (kR K).slots) → (∀ (H : Heap) (locs : List Loc), va_S (kA K) (ks K).heap H locs → ∀ U : State, U.heap = H → (ks K).WarmedH U.vm → zX w U) → (∀ x ∈ zNs, x.before (ka K) (ks K) = true) → (va_Nc "java/lang/IllegalStateException" "java/lang/IllegalArgumentException" (ks K) ∧ va_Nc "java/lang/IllegalStateException" "java/lang/IndexOutOfBoundsException" (ks K)) → zRi (kup K) w cc .int P → Z K w σ (lv_args 0 as) [] 0) : zMw l y cc n hh fr lo w as σ P := by
  intro sz
  refine zMet_ofWH (cc := cc) (maxL := n) (ret := some .int) (hh := hh) hpl rfl ?_
  intro p e s m args below meth c s₁ B hml hv
  obtain ⟨rfl, hsz, ⟨hP, hK, hDq⟩, hX⟩ := hv
  subst hsz
  have hts0 := atoms_spec (ws := Cond.codeWith y cc n (some .int) hh :: zT) B.pre
  have hts : ∀ x ∈ zT, x.before as.toArray s = true := fun x hx => hts0 x (List.mem_cons_of_mem _ hx)
  have hown : s.vm.findClass y.cls = some m.cls := findClass_of_methodNamed B.named
  have hr := B.returns
  have htab := vx_table (x := y) B (hts0 _ List.mem_cons_self)
  have hns : ∀ x ∈ zNs, x.before as.toArray s = true := by
    intro x hx
    exact va_tabs (zNs_ot hx).1 rfl (hX.1 x hx)
  rw [lg_entry_eq]
  refine body (p, l, e, ({ frames := fr, cells := 1, slots := 6, locals := lo } : Room), s, m, as.toArray, below, meth, c, n, 0, 0, MQ below (va_Qi P (fun u t => zWo w u t) (zA w s.heap.size)) as.toArray s 1 6 (zA w s.heap.size), zA w s.heap.size)
    ⟨B.exec, B.bytes, hml, rfl, hown, hts, hK, B.notSynchronized, hDq, fun k hk => Or.inl ⟨k, hk, rfl⟩, fun x hx => Or.inr hx, rfl, rfl, Nat.zero_le _, Nat.zero_le _⟩ rfl htab ⟨Nat.le_refl _, Nat.le_refl _⟩ ?_ hns ⟨hX.2.1, hX.2.2.1⟩ ?_ s.heap [] _ hP va_S.rf (lv_entry as hlen)
  · intro H locs hS U hU hW
    refine zX_moved hW.alike (fun a h1 h2 => ?_) hX
    rw [hU]
    exact hS.2.1 a h1 (fun h => h.elim h2 (fun h3 => absurd h1 (Nat.not_lt.mpr h3)))
  · intro σ' lv v pc hd hnr hPv H locs ls hP' hS hl
    exact W.zret B.exec B.bytes hr hnr (fun t ht hW => ⟨⟨v, σ', rfl, hPv, by rw [ht]; exact hP', va_K.moved hW.alike hK, hDq⟩, hS.F ht⟩) hS.2.2 hd B.notSynchronized
end ZWr
