
section ZB
abbrev zSt : Type := Nat → Nat → Int32
abbrev zWd : Type := va_G × ClassId × (Nat → Nat)
def zq (w : zWd) : Nat → Nat := w.2.2
def zuf (σ : zSt) (i j : Nat) (v : Int32) : zSt := fun a b => if a = i then (if b = j then v else σ a b) else σ a b
def zo0 (w : zWd) (σ : zSt) : List Value := [.ref (zq w 1), .ref (zq w 2), .ref (zq w 6), .ref (zq w 9), .ref (zq w 11)]
def zo2 (w : zWd) (σ : zSt) : List Value := [.ref (zq w 3), .ref (zq w 5), .int (σ 2 2), .int (σ 2 3), .int (σ 2 4), .int (σ 2 5), .int (σ 2 6), .int (σ 2 7), .int (σ 2 8), .int (σ 2 9), .int (σ 2 10), .int (σ 2 11), .int (σ 2 12), .int (σ 2 13), .int (σ 2 14)]
def zo3 (w : zWd) (σ : zSt) : List Value := [.ref (zq w 4)]
def zo5 (w : zWd) (σ : zSt) : List Value := [.int (σ 5 0), .int (σ 5 1), .int (σ 5 2), .int (σ 5 3), .int (σ 5 4), .int (σ 5 5), .int (σ 5 6), .int (σ 5 7)]
def zo6 (w : zWd) (σ : zSt) : List Value := [.ref (zq w 7), .int (σ 6 1), .int (σ 6 2), .int (σ 6 3)]
def zo7 (w : zWd) (σ : zSt) : List Value := [.ref (zq w 8)]
def zo9 (w : zWd) (σ : zSt) : List Value := [.int 2, .ref (zq w 10), .int (σ 9 2)]
def zo11 (w : zWd) (σ : zSt) : List Value := [.int 9, .ref (zq w 12), .int (σ 11 2)]
abbrev zcl : List vw_C := [("SluiceStream$Positions", zF0, 1), ("SluiceStream$Receiver", zF1, 4), ("SluiceStream$Rows", zF2, 3), ("SluiceStream$Sender", zF3, 15), ("SluiceStream$Timer", zF4, 8), ("SluiceStream", zF5, 5)]
abbrev ztys (w : zWd) : List (ClassId × FieldType) := [(w.2.1, .int)]
def zrep (w : zWd) (σ : zSt) : va_W := [(zq w 0, .inr (5, zo0 w σ)), (zq w 1, .inl (w.2.1, 600, .inl (σ 1))), (zq w 2, .inr (3, zo2 w σ)), (zq w 3, .inr (0, zo3 w σ)), (zq w 4, .inl (w.2.1, 600, .inl (σ 4))), (zq w 5, .inr (4, zo5 w σ)), (zq w 6, .inr (1, zo6 w σ)), (zq w 7, .inr (0, zo7 w σ)), (zq w 8, .inl (w.2.1, 600, .inl (σ 8))), (zq w 9, .inr (2, zo9 w σ)), (zq w 10, .inl (w.2.1, 80, .inl (σ 10))), (zq w 11, .inr (2, zo11 w σ)), (zq w 12, .inl (w.2.1, 360, .inl (σ 12)))]
theorem zae1 (w : zWd) (σ : zSt) : (zrep w σ)[1]? = some (zq w 1, .inl (w.2.1, 600, .inl (σ 1))) := rfl
theorem zas1 (w : zWd) (σ : zSt) (j : Nat) (x : Int32) : (zrep w σ).set 1 (zq w 1, .inl (w.2.1, 600, .inl (upd (σ 1) j x))) = zrep w (zuf σ 1 j x) := rfl
theorem zae4 (w : zWd) (σ : zSt) : (zrep w σ)[4]? = some (zq w 4, .inl (w.2.1, 600, .inl (σ 4))) := rfl
theorem zas4 (w : zWd) (σ : zSt) (j : Nat) (x : Int32) : (zrep w σ).set 4 (zq w 4, .inl (w.2.1, 600, .inl (upd (σ 4) j x))) = zrep w (zuf σ 4 j x) := rfl
theorem zae8 (w : zWd) (σ : zSt) : (zrep w σ)[8]? = some (zq w 8, .inl (w.2.1, 600, .inl (σ 8))) := rfl
theorem zas8 (w : zWd) (σ : zSt) (j : Nat) (x : Int32) : (zrep w σ).set 8 (zq w 8, .inl (w.2.1, 600, .inl (upd (σ 8) j x))) = zrep w (zuf σ 8 j x) := rfl
theorem zae10 (w : zWd) (σ : zSt) : (zrep w σ)[10]? = some (zq w 10, .inl (w.2.1, 80, .inl (σ 10))) := rfl
theorem zas10 (w : zWd) (σ : zSt) (j : Nat) (x : Int32) : (zrep w σ).set 10 (zq w 10, .inl (w.2.1, 80, .inl (upd (σ 10) j x))) = zrep w (zuf σ 10 j x) := rfl
theorem zae12 (w : zWd) (σ : zSt) : (zrep w σ)[12]? = some (zq w 12, .inl (w.2.1, 360, .inl (σ 12))) := rfl
theorem zas12 (w : zWd) (σ : zSt) (j : Nat) (x : Int32) : (zrep w σ).set 12 (zq w 12, .inl (w.2.1, 360, .inl (upd (σ 12) j x))) = zrep w (zuf σ 12 j x) := rfl
def zDq (w : zWd) : Prop := ∀ i j, i < 13 → j < 13 → zq w i = zq w j → i = j
def zA (w : zWd) (sz : Nat) : Nat → Prop := fun a => (∃ k, k < 13 ∧ a = zq w k) ∨ sz ≤ a
def zWo (w : zWd) (σ : zSt) (U : State) : Prop := va_P w.1 zcl (zrep w σ) U.heap ∧ va_K w.1 zcl (ztys w) U ∧ zDq w
theorem zrep_at {w : zWd} {σ : zSt} {k : Nat} {c : Nat × va_E} (h : (zrep w σ)[k]? = some c) : k < 13 ∧ c.1 = zq w k := by
  have h1 : ((zrep w σ).map Prod.fst)[k]? = some c.1 := by rw [List.getElem?_map, h]; rfl
  have h2 : (zrep w σ).map Prod.fst = (List.range 13).map (zq w) := rfl
  rw [h2, List.getElem?_map] at h1
  cases hk : (List.range 13)[k]? with
  | none => rw [hk] at h1; cases h1
  | some m =>
    rw [hk] at h1
    obtain ⟨h3, h4⟩ := List.getElem?_eq_some_iff.mp hk
    rw [List.getElem_range] at h4
    rw [List.length_range] at h3
    subst h4
    exact ⟨h3, (Option.some.inj h1).symm⟩
theorem zrep_D {w : zWd} {σ : zSt} {A : Nat → Prop} (hq : zDq w) (hA : ∀ k, k < 13 → A (zq w k)) : va_D A (zrep w σ) :=
  ⟨fun i j p q hi hj e => by
    obtain ⟨a1, a2⟩ := zrep_at hi
    obtain ⟨b1, b2⟩ := zrep_at hj
    exact hq i j a1 b1 (by rw [← a2, ← b2]; exact e), fun k q h => by
    obtain ⟨a1, a2⟩ := zrep_at h
    rw [a2]; exact hA k a1⟩
abbrev zCx : Type := Program × Launch × Env × Room × State × MethodId × Array Value × List Frame × Method × Code × Nat × Nat × Nat × (State → Prop) × (Nat → Prop)
def kp (K : zCx) : Program := K.1
def kl (K : zCx) : Launch := K.2.1
def ke (K : zCx) : Env := K.2.2.1
def kR (K : zCx) : Room := K.2.2.2.1
def ks (K : zCx) : State := K.2.2.2.2.1
def km (K : zCx) : MethodId := K.2.2.2.2.2.1
def ka (K : zCx) : Array Value := K.2.2.2.2.2.2.1
def kb (K : zCx) : List Frame := K.2.2.2.2.2.2.2.1
def kmt (K : zCx) : Method := K.2.2.2.2.2.2.2.2.1
def kc (K : zCx) : Code := K.2.2.2.2.2.2.2.2.2.1
def kn (K : zCx) : Nat := K.2.2.2.2.2.2.2.2.2.2.1
def kce (K : zCx) : Nat := K.2.2.2.2.2.2.2.2.2.2.2.1
def ksl (K : zCx) : Nat := K.2.2.2.2.2.2.2.2.2.2.2.2.1
def kQ (K : zCx) : State → Prop := K.2.2.2.2.2.2.2.2.2.2.2.2.2.1
def kA (K : zCx) : Nat → Prop := K.2.2.2.2.2.2.2.2.2.2.2.2.2.2
def zW (K : zCx) (H : Heap) (locs : List Loc) (g : JFrame) : Prop := W (kp K) (kl K) (ke K) (kR K) (ks K) (km K) (ka K) (kb K) (kmt K) (kc K) H locs (kce K) (ksl K) (kQ K) g
def Z (K : zCx) (w : zWd) (σ : zSt) (lv : List (Nat × Value)) (st : List Value) (pc : Nat) : Prop :=
  ∀ (H : Heap) (locs : List Loc) (ls : Array Slot), va_P w.1 zcl (zrep w σ) H → va_S (kA K) (ks K).heap H locs → lv_has ls (kn K) lv → zW K H locs (F0 (km K) pc ls st)
def zOk (K : zCx) (w : zWd) (cc : ByteArray) (own : String) (n fr lo : Nat) : Prop :=
  (kp K).tables.exec = Jvm.exec ∧ (kc K).code = cc ∧ (kc K).maxLocals = n ∧ kn K = n ∧ (ks K).vm.findClass own = some (km K).cls ∧ (∀ x ∈ zT, x.before (ka K) (ks K) = true) ∧ va_K w.1 zcl (ztys w) (ks K) ∧ (kmt K).locks = false ∧ zDq w ∧ (∀ k, k < 13 → kA K (zq w k)) ∧ (∀ x, (ks K).heap.size ≤ x → kA K x) ∧ (kR K).frames = fr ∧ (kR K).locals = lo ∧ kce K ≤ (kR K).cells ∧ ksl K ≤ (kR K).slots
section ZR
variable {K : zCx} {w : zWd} {cc : ByteArray} {own : String} {n fr lo : Nat} {σ : zSt} {lv lv' : List (Nat × Value)} {st : List Value} {pc : Nat}
theorem zOk.x (O : zOk K w cc own n fr lo) : (kp K).tables.exec = Jvm.exec := O.1
theorem zOk.b (O : zOk K w cc own n fr lo) : (kc K).code = cc := O.2.1
theorem zOk.ml (O : zOk K w cc own n fr lo) : (kc K).maxLocals = n := O.2.2.1
theorem zOk.nl (O : zOk K w cc own n fr lo) : kn K = n := O.2.2.2.1
theorem zOk.ow (O : zOk K w cc own n fr lo) : (ks K).vm.findClass own = some (km K).cls := O.2.2.2.2.1
theorem zOk.ts (O : zOk K w cc own n fr lo) : ∀ x ∈ zT, x.before (ka K) (ks K) = true := O.2.2.2.2.2.1
theorem zOk.k (O : zOk K w cc own n fr lo) : va_K w.1 zcl (ztys w) (ks K) := O.2.2.2.2.2.2.1
theorem zOk.lk (O : zOk K w cc own n fr lo) : (kmt K).locks = false := O.2.2.2.2.2.2.2.1
theorem zOk.dq (O : zOk K w cc own n fr lo) : zDq w := O.2.2.2.2.2.2.2.2.1
theorem zOk.aq (O : zOk K w cc own n fr lo) : ∀ k, k < 13 → kA K (zq w k) := O.2.2.2.2.2.2.2.2.2.1
theorem zOk.an (O : zOk K w cc own n fr lo) : ∀ x, (ks K).heap.size ≤ x → kA K x := O.2.2.2.2.2.2.2.2.2.2.1
theorem zOk.fx (O : zOk K w cc own n fr lo) : (kR K).frames = fr := O.2.2.2.2.2.2.2.2.2.2.2.1
theorem zOk.lx (O : zOk K w cc own n fr lo) : (kR K).locals = lo := O.2.2.2.2.2.2.2.2.2.2.2.2.1
theorem zOk.ce (O : zOk K w cc own n fr lo) : kce K ≤ (kR K).cells := O.2.2.2.2.2.2.2.2.2.2.2.2.2.1
theorem zOk.sl (O : zOk K w cc own n fr lo) : ksl K ≤ (kR K).slots := O.2.2.2.2.2.2.2.2.2.2.2.2.2.2
theorem z_iconst (O : zOk K w cc own n fr lo) {i : Int} {v : Int32} (hd : decode cc pc = .ok (.iconst i, 1)) (hv : Int32.ofInt i = v) (k : Z K w σ lv (.int v :: st) (pc + 1)) : Z K w σ lv st pc := fun H locs ls hP hS hl => lv_iconst O.x O.b hd hv (k H locs ls hP hS hl)
theorem z_bipush (O : zOk K w cc own n fr lo) {i : Int} {v : Int32} (hd : decode cc pc = .ok (.bipush i, 2)) (hv : (Int8.ofInt i).toInt32 = v) (k : Z K w σ lv (.int v :: st) (pc + 2)) : Z K w σ lv st pc := fun H locs ls hP hS hl => lv_bipush O.x O.b hd hv (k H locs ls hP hS hl)
theorem z_sipush (O : zOk K w cc own n fr lo) {i : Int} {v : Int32} (hd : decode cc pc = .ok (.sipush i, 3)) (hv : (Int16.ofInt i).toInt32 = v) (k : Z K w σ lv (.int v :: st) (pc + 3)) : Z K w σ lv st pc := fun H locs ls hP hS hl => lv_sipush O.x O.b hd hv (k H locs ls hP hS hl)
theorem z_iload_n (O : zOk K w cc own n fr lo) {a : Fin 4} {i : Nat} {x : Int32} (hd : decode cc pc = .ok (.iload_n a, 1)) (hi : (a : Nat) = i) (j : Nat) (hj : lv[j]? = some (i, .int x)) (k : Z K w σ lv (.int x :: st) (pc + 1)) : Z K w σ lv st pc := fun H locs ls hP hS hl => lv_iload_n O.x O.b hd hi (lv_at hl j hj) (k H locs ls hP hS hl)
theorem z_iload (O : zOk K w cc own n fr lo) {i : Nat} {x : Int32} (hd : decode cc pc = .ok (.iload i, 2)) (j : Nat) (hj : lv[j]? = some (i, .int x)) (k : Z K w σ lv (.int x :: st) (pc + 2)) : Z K w σ lv st pc := fun H locs ls hP hS hl => lv_iload O.x O.b hd (lv_at hl j hj) (k H locs ls hP hS hl)
theorem z_aload_n (O : zOk K w cc own n fr lo) {a : Fin 4} {i : Nat} {x : Nat} (hd : decode cc pc = .ok (.aload_n a, 1)) (hi : (a : Nat) = i) (j : Nat) (hj : lv[j]? = some (i, .ref x)) (k : Z K w σ lv (.ref x :: st) (pc + 1)) : Z K w σ lv st pc := fun H locs ls hP hS hl => lv_aload_n O.x O.b hd hi (lv_at hl j hj) (k H locs ls hP hS hl)
theorem z_istore_n (O : zOk K w cc own n fr lo) {a : Fin 4} {i : Nat} {x : Int32} (hd : decode cc pc = .ok (.istore_n a, 1)) (hi : (a : Nat) = i) (hn : i < n) (hl' : (i, Value.int x) :: lv.filter (fun q => !(q.1 == i) && !(q.1 + 1 == i && q.2.category == 2)) = lv') (k : Z K w σ lv' st (pc + 1)) : Z K w σ lv (.int x :: st) pc := fun H locs ls hP hS hl => lv_istore_n O.x O.b hd hi hl (by rw [O.nl]; exact hn) hl' (fun ls' h' => k H locs ls' hP hS h')
theorem z_istore (O : zOk K w cc own n fr lo) {i : Nat} {x : Int32} (hd : decode cc pc = .ok (.istore i, 2)) (hn : i < n) (hl' : (i, Value.int x) :: lv.filter (fun q => !(q.1 == i) && !(q.1 + 1 == i && q.2.category == 2)) = lv') (k : Z K w σ lv' st (pc + 2)) : Z K w σ lv (.int x :: st) pc := fun H locs ls hP hS hl => lv_istore O.x O.b hd hl (by rw [O.nl]; exact hn) hl' (fun ls' h' => k H locs ls' hP hS h')
theorem z_astore_n (O : zOk K w cc own n fr lo) {a : Fin 4} {i : Nat} {x : Nat} (hd : decode cc pc = .ok (.astore_n a, 1)) (hi : (a : Nat) = i) (hn : i < n) (hl' : (i, Value.ref x) :: lv.filter (fun q => !(q.1 == i) && !(q.1 + 1 == i && q.2.category == 2)) = lv') (k : Z K w σ lv' st (pc + 1)) : Z K w σ lv (.ref x :: st) pc := fun H locs ls hP hS hl => lv_astore_n O.x O.b hd hi hl (by rw [O.nl]; exact hn) hl' (fun ls' h' => k H locs ls' hP hS h')
theorem z_iinc (O : zOk K w cc own n fr lo) {i : Nat} {b : Int} {x v : Int32} (hd : decode cc pc = .ok (.iinc i b, 3)) (j : Nat) (hj : lv[j]? = some (i, .int x)) (hv : x + Int32.ofInt b = v) (hn : i < n) (hl' : (i, Value.int v) :: lv.filter (fun q => !(q.1 == i) && !(q.1 + 1 == i && q.2.category == 2)) = lv') (k : Z K w σ lv' st (pc + 3)) : Z K w σ lv st pc := fun H locs ls hP hS hl => lv_iinc O.x O.b hd hl hj hv (by rw [O.nl]; exact hn) hl' (fun ls' h' => k H locs ls' hP hS h')
theorem z_iadd (O : zOk K w cc own n fr lo) {x y : Int32} (hd : decode cc pc = .ok (.iadd, 1)) (k : Z K w σ lv (.int (x + y) :: st) (pc + 1)) : Z K w σ lv (.int y :: .int x :: st) pc := fun H locs ls hP hS hl => lv_iadd O.x O.b hd (k H locs ls hP hS hl)
theorem z_isub (O : zOk K w cc own n fr lo) {x y : Int32} (hd : decode cc pc = .ok (.isub, 1)) (k : Z K w σ lv (.int (x - y) :: st) (pc + 1)) : Z K w σ lv (.int y :: .int x :: st) pc := fun H locs ls hP hS hl => lv_isub O.x O.b hd (k H locs ls hP hS hl)
theorem z_imul (O : zOk K w cc own n fr lo) {x y : Int32} (hd : decode cc pc = .ok (.imul, 1)) (k : Z K w σ lv (.int (x * y) :: st) (pc + 1)) : Z K w σ lv (.int y :: .int x :: st) pc := fun H locs ls hP hS hl => lv_imul O.x O.b hd (k H locs ls hP hS hl)
theorem z_idiv (O : zOk K w cc own n fr lo) {x y : Int32} (hd : decode cc pc = .ok (.idiv, 1)) (hne : ¬ y = 0) (k : Z K w σ lv (.int (x / y) :: st) (pc + 1)) : Z K w σ lv (.int y :: .int x :: st) pc := fun H locs ls hP hS hl => lv_idiv O.x O.b hd hne (k H locs ls hP hS hl)
theorem z_irem (O : zOk K w cc own n fr lo) {x y : Int32} (hd : decode cc pc = .ok (.irem, 1)) (hne : ¬ y = 0) (k : Z K w σ lv (.int (x - x / y * y) :: st) (pc + 1)) : Z K w σ lv (.int y :: .int x :: st) pc := fun H locs ls hP hS hl => lv_irem O.x O.b hd hne (k H locs ls hP hS hl)
theorem z_ineg (O : zOk K w cc own n fr lo) {x v : Int32} (hd : decode cc pc = .ok (.ineg, 1)) (hv : 0 - x = v) (k : Z K w σ lv (.int v :: st) (pc + 1)) : Z K w σ lv (.int x :: st) pc := fun H locs ls hP hS hl => lv_ineg O.x O.b hd (by first | (rw [hv]; exact k H locs ls hP hS hl) | (rw [← Int32.zero_sub, hv]; exact k H locs ls hP hS hl))
theorem z_iand (O : zOk K w cc own n fr lo) {x y : Int32} (hd : decode cc pc = .ok (.iand, 1)) (k : Z K w σ lv (.int (x &&& y) :: st) (pc + 1)) : Z K w σ lv (.int y :: .int x :: st) pc := fun H locs ls hP hS hl => lv_iand O.x O.b hd (k H locs ls hP hS hl)
theorem z_dup (O : zOk K w cc own n fr lo) {v : Value} (hd : decode cc pc = .ok (.dup, 1)) (hv : v.category = 1) (k : Z K w σ lv (v :: v :: st) (pc + 1)) : Z K w σ lv (v :: st) pc := fun H locs ls hP hS hl => lv_dup O.x O.b hd hv (k H locs ls hP hS hl)
theorem z_pop (O : zOk K w cc own n fr lo) {v : Value} (hd : decode cc pc = .ok (.pop, 1)) (hv : v.category = 1) (k : Z K w σ lv st (pc + 1)) : Z K w σ lv (v :: st) pc := fun H locs ls hP hS hl => lv_pop O.x O.b hd hv (k H locs ls hP hS hl)
theorem z_dup2 (O : zOk K w cc own n fr lo) {v u : Value} (hd : decode cc pc = .ok (.dup2, 1)) (hv : v.category = 1) (hu : u.category = 1) (k : Z K w σ lv (v :: u :: v :: u :: st) (pc + 1)) : Z K w σ lv (v :: u :: st) pc := fun H locs ls hP hS hl => lv_dup2_11 O.x O.b hd hv hu (k H locs ls hP hS hl)
theorem z_goto (O : zOk K w cc own n fr lo) {off : Int} {tgt : Nat} (hd : decode cc pc = .ok (.goto off, 3)) (ht : (pc : Int) + off = (tgt : Int)) (k : Z K w σ lv st tgt) : Z K w σ lv st pc := fun H locs ls hP hS hl => lv_goto O.x O.b hd ht (k H locs ls hP hS hl)
theorem z_ishr (O : zOk K w cc own n fr lo) {x y : Int32} (hd : decode cc pc = .ok (.ishr, 1)) (k : Z K w σ lv (.int (x >>> (y &&& 31)) :: st) (pc + 1)) : Z K w σ lv (.int y :: .int x :: st) pc := fun H locs ls hP hS hl => lv_ishr O.x O.b hd (k H locs ls hP hS hl)
theorem z_ldc (O : zOk K w cc own n fr lo) {index : Nat} {v : Int32} (h : Cond.constant own index v ∈ zT) (hd : decode cc pc = .ok (.ldc index, 2)) (k : Z K w σ lv (.int v :: st) (pc + 2)) : Z K w σ lv st pc := fun H locs ls hP hS hl => lv_ldc O.x O.b O.ow (O.ts _ h) hd (k H locs ls hP hS hl)
def zScr (K : zCx) (b L : Nat) (xs : Nat → Int32) : Prop := va_X b L xs (ks K) (ks K).heap ∧ b < (ks K).heap.size ∧ ¬ kA K b
theorem z_sld (O : zOk K w cc own n fr lo) {b L : Nat} {xs : Nat → Int32} (S : zScr K b L xs) {i v : Int32} (hi : vp_in i L) (hv : xs i.toNatClampNeg = v) (hd : decode cc pc = .ok (.iaload, 1)) (kk : Z K w σ lv (.int v :: st) (pc + 1)) : Z K w σ lv (.int i :: .ref b :: st) pc := fun H locs ls hP hS hl =>
  va_sld O.x O.b S.1 S.2.1 S.2.2 hS hi hd (by rw [hv]; exact kk H locs ls hP hS hl)
theorem z_slen (O : zOk K w cc own n fr lo) {b L : Nat} {xs : Nat → Int32} (S : zScr K b L xs) (hd : decode cc pc = .ok (.arraylength, 1)) (kk : Z K w σ lv (.int (Int32.ofNat L) :: st) (pc + 1)) : Z K w σ lv (.ref b :: st) pc := fun H locs ls hP hS hl =>
  va_slen O.x O.b S.1 S.2.1 S.2.2 hS hd (kk H locs ls hP hS hl)
theorem z_icmp_lt (O : zOk K w cc own n fr lo) {x y : Int32} {off : Int} {tgt : Nat} (hd : decode cc pc = .ok (.if_icmp .lt off, 3)) (ht : (pc : Int) + off = (tgt : Int)) (kt : x < y → Z K w σ lv st tgt) (kf : ¬ x < y → Z K w σ lv st (pc + 3)) : Z K w σ lv (.int y :: .int x :: st) pc := fun H locs ls hP hS hl => lv_icmp_lt O.x O.b hd ht (fun h => kt h H locs ls hP hS hl) (fun h => kf h H locs ls hP hS hl)
theorem z_if_lt (O : zOk K w cc own n fr lo) {x : Int32} {off : Int} {tgt : Nat} (hd : decode cc pc = .ok (.ifCond .lt off, 3)) (ht : (pc : Int) + off = (tgt : Int)) (kt : x < 0 → Z K w σ lv st tgt) (kf : ¬ x < 0 → Z K w σ lv st (pc + 3)) : Z K w σ lv (.int x :: st) pc := fun H locs ls hP hS hl => lv_if_lt O.x O.b hd ht (fun h => kt h H locs ls hP hS hl) (fun h => kf h H locs ls hP hS hl)
theorem z_icmp_ge (O : zOk K w cc own n fr lo) {x y : Int32} {off : Int} {tgt : Nat} (hd : decode cc pc = .ok (.if_icmp .ge off, 3)) (ht : (pc : Int) + off = (tgt : Int)) (kt : y ≤ x → Z K w σ lv st tgt) (kf : ¬ y ≤ x → Z K w σ lv st (pc + 3)) : Z K w σ lv (.int y :: .int x :: st) pc := fun H locs ls hP hS hl => lv_icmp_ge O.x O.b hd ht (fun h => kt h H locs ls hP hS hl) (fun h => kf h H locs ls hP hS hl)
theorem z_if_ge (O : zOk K w cc own n fr lo) {x : Int32} {off : Int} {tgt : Nat} (hd : decode cc pc = .ok (.ifCond .ge off, 3)) (ht : (pc : Int) + off = (tgt : Int)) (kt : 0 ≤ x → Z K w σ lv st tgt) (kf : ¬ 0 ≤ x → Z K w σ lv st (pc + 3)) : Z K w σ lv (.int x :: st) pc := fun H locs ls hP hS hl => lv_if_ge O.x O.b hd ht (fun h => kt h H locs ls hP hS hl) (fun h => kf h H locs ls hP hS hl)
theorem z_icmp_gt (O : zOk K w cc own n fr lo) {x y : Int32} {off : Int} {tgt : Nat} (hd : decode cc pc = .ok (.if_icmp .gt off, 3)) (ht : (pc : Int) + off = (tgt : Int)) (kt : y < x → Z K w σ lv st tgt) (kf : ¬ y < x → Z K w σ lv st (pc + 3)) : Z K w σ lv (.int y :: .int x :: st) pc := fun H locs ls hP hS hl => lv_icmp_gt O.x O.b hd ht (fun h => kt h H locs ls hP hS hl) (fun h => kf h H locs ls hP hS hl)
theorem z_if_gt (O : zOk K w cc own n fr lo) {x : Int32} {off : Int} {tgt : Nat} (hd : decode cc pc = .ok (.ifCond .gt off, 3)) (ht : (pc : Int) + off = (tgt : Int)) (kt : 0 < x → Z K w σ lv st tgt) (kf : ¬ 0 < x → Z K w σ lv st (pc + 3)) : Z K w σ lv (.int x :: st) pc := fun H locs ls hP hS hl => lv_if_gt O.x O.b hd ht (fun h => kt h H locs ls hP hS hl) (fun h => kf h H locs ls hP hS hl)
theorem z_icmp_le (O : zOk K w cc own n fr lo) {x y : Int32} {off : Int} {tgt : Nat} (hd : decode cc pc = .ok (.if_icmp .le off, 3)) (ht : (pc : Int) + off = (tgt : Int)) (kt : x ≤ y → Z K w σ lv st tgt) (kf : ¬ x ≤ y → Z K w σ lv st (pc + 3)) : Z K w σ lv (.int y :: .int x :: st) pc := fun H locs ls hP hS hl => lv_icmp_le O.x O.b hd ht (fun h => kt h H locs ls hP hS hl) (fun h => kf h H locs ls hP hS hl)
theorem z_if_le (O : zOk K w cc own n fr lo) {x : Int32} {off : Int} {tgt : Nat} (hd : decode cc pc = .ok (.ifCond .le off, 3)) (ht : (pc : Int) + off = (tgt : Int)) (kt : x ≤ 0 → Z K w σ lv st tgt) (kf : ¬ x ≤ 0 → Z K w σ lv st (pc + 3)) : Z K w σ lv (.int x :: st) pc := fun H locs ls hP hS hl => lv_if_le O.x O.b hd ht (fun h => kt h H locs ls hP hS hl) (fun h => kf h H locs ls hP hS hl)
theorem z_icmp_eq (O : zOk K w cc own n fr lo) {x y : Int32} {off : Int} {tgt : Nat} (hd : decode cc pc = .ok (.if_icmp .eq off, 3)) (ht : (pc : Int) + off = (tgt : Int)) (kt : x = y → Z K w σ lv st tgt) (kf : ¬ x = y → Z K w σ lv st (pc + 3)) : Z K w σ lv (.int y :: .int x :: st) pc := fun H locs ls hP hS hl => lv_icmp_eq O.x O.b hd ht (fun h => kt h H locs ls hP hS hl) (fun h => kf h H locs ls hP hS hl)
theorem z_if_eq (O : zOk K w cc own n fr lo) {x : Int32} {off : Int} {tgt : Nat} (hd : decode cc pc = .ok (.ifCond .eq off, 3)) (ht : (pc : Int) + off = (tgt : Int)) (kt : x = 0 → Z K w σ lv st tgt) (kf : ¬ x = 0 → Z K w σ lv st (pc + 3)) : Z K w σ lv (.int x :: st) pc := fun H locs ls hP hS hl => lv_if_eq O.x O.b hd ht (fun h => kt h H locs ls hP hS hl) (fun h => kf h H locs ls hP hS hl)
theorem z_icmp_ne (O : zOk K w cc own n fr lo) {x y : Int32} {off : Int} {tgt : Nat} (hd : decode cc pc = .ok (.if_icmp .ne off, 3)) (ht : (pc : Int) + off = (tgt : Int)) (kt : ¬ x = y → Z K w σ lv st tgt) (kf : x = y → Z K w σ lv st (pc + 3)) : Z K w σ lv (.int y :: .int x :: st) pc := fun H locs ls hP hS hl => lv_icmp_ne O.x O.b hd ht (fun h => kt h H locs ls hP hS hl) (fun h => kf h H locs ls hP hS hl)
theorem z_if_ne (O : zOk K w cc own n fr lo) {x : Int32} {off : Int} {tgt : Nat} (hd : decode cc pc = .ok (.ifCond .ne off, 3)) (ht : (pc : Int) + off = (tgt : Int)) (kt : ¬ x = 0 → Z K w σ lv st tgt) (kf : x = 0 → Z K w σ lv st (pc + 3)) : Z K w σ lv (.int x :: st) pc := fun H locs ls hP hS hl => lv_if_ne O.x O.b hd ht (fun h => kt h H locs ls hP hS hl) (fun h => kf h H locs ls hP hS hl)
theorem z_sub (js : List Nat) (hl' : lv_pick lv js = lv') (k : Z K w σ lv' st pc) : Z K w σ lv st pc := fun H locs ls hP hS hl => k H locs ls hP hS (lv_sub hl js hl')
theorem z_getf (O : zOk K w cc own n fr lo) (i : Nat) {C : String} {T : u_T} {N ci idx : Nat} {fs : List Value} (he : (zrep w σ)[i]? = some (zq w i, .inr (ci, fs))) (hc : zcl[ci]? = some (C, T, N)) (hin : ∀ x ∈ u_ws C T N, x ∈ zT) (k : Nat) (hk : k < N) (hlink : Cond.fieldLink own idx C (T k).2.1 (T k).2.2.1 ∈ zT) (hC : (T k).1 = C) {v : Value} (hv : fs[k]? = some v) (hd : decode cc pc = .ok (.getfield idx, 3)) (kk : Z K w σ lv (v :: st) (pc + 3)) : Z K w σ lv (.ref (zq w i) :: st) pc := fun H locs ls hP hS hl =>
  va_get (ref := C) O.x O.b O.ts hin O.ow O.k hP i he hc k hk (O.ts _ hlink) (fun x h => by rw [hC] at h; exact h) hv hd (kk H locs ls hP hS hl)
theorem z_putf (O : zOk K w cc own n fr lo) (i : Nat) {C : String} {T : u_T} {N ci idx : Nat} {fs : List Value} (he : (zrep w σ)[i]? = some (zq w i, .inr (ci, fs))) (hc : zcl[ci]? = some (C, T, N)) (hin : ∀ x ∈ u_ws C T N, x ∈ zT) (ty0 : Nat → FieldType) (hty : ∀ k, k < N → parseFieldDescriptor (T k).2.2.1 = some (ty0 k)) (hnm : ∀ a, a < N → ∀ b, b < N → a ≠ b → (T a).2.1 ≠ (T b).2.1) (k : Nat) (hk : k < N) (hlink : Cond.fieldLink own idx C (T k).2.1 (T k).2.2.1 ∈ zT) (hC : (T k).1 = C) (hfin : (T k).2.2.2 = false) {ty : FieldType} {v : Int32} (hty1 : ty0 k = ty) (hn : narrow ty (.int v) = .int v) (hfit : fits ty (.int v) = true) (hl : k < fs.length) {σ' : zSt} (hs : (zrep w σ).set i (zq w i, .inr (ci, fs.set k (.int v))) = zrep w σ') (hd : decode cc pc = .ok (.putfield idx, 3)) (kk : Z K w σ' lv st (pc + 3)) : Z K w σ lv (.int v :: .ref (zq w i) :: st) pc := fun H locs ls hP hS hl2 =>
  va_put (ref := C) O.x O.b O.ts hin ty0 hty hnm O.ow O.k hP (zrep_D O.dq O.aq) hS i he hc k hk (O.ts _ hlink) (fun x h => by rw [hC] at h; exact h) hfin (by rw [hty k hk, hty1]) hn hfit hl hd (fun H1 l1 hP1 _ hS1 => kk H1 l1 ls (by rw [hs] at hP1; exact hP1) hS1 hl2)
theorem z_iald (O : zOk K w cc own n fr lo) (i : Nat) {N : Nat} {f : Nat → Int32} (he : (zrep w σ)[i]? = some (zq w i, .inl (w.2.1, N, .inl f))) {j : Int32} (hj : vp_in j N) {v : Int32} (hv : f j.toNatClampNeg = v) (hd : decode cc pc = .ok (.iaload, 1)) (kk : Z K w σ lv (.int v :: st) (pc + 1)) : Z K w σ lv (.int j :: .ref (zq w i) :: st) pc := fun H locs ls hP hS hl =>
  va_iald O.x O.b O.k hP i 0 he rfl hj hd (by rw [hv]; exact kk H locs ls hP hS hl)
theorem z_iast (O : zOk K w cc own n fr lo) (i : Nat) {N : Nat} {f : Nat → Int32} (he : (zrep w σ)[i]? = some (zq w i, .inl (w.2.1, N, .inl f))) {j x : Int32} (hj : vp_in j N) {σ' : zSt} (hs : (zrep w σ).set i (zq w i, .inl (w.2.1, N, .inl (upd f j.toNatClampNeg x))) = zrep w σ') (hd : decode cc pc = .ok (.iastore, 1)) (kk : Z K w σ' lv st (pc + 1)) : Z K w σ lv (.int x :: .int j :: .ref (zq w i) :: st) pc := fun H locs ls hP hS hl =>
  va_iast O.x O.b O.k hP (zrep_D O.dq O.aq) hS i 0 he rfl hj hd (fun H1 l1 hP1 _ hS1 => kk H1 l1 ls (by rw [hs] at hP1; exact hP1) hS1 hl)
theorem z_alen (O : zOk K w cc own n fr lo) (i : Nat) {N : Nat} {f : Nat → Int32} (he : (zrep w σ)[i]? = some (zq w i, .inl (w.2.1, N, .inl f))) {v : Int32} (hv : Int32.ofNat N = v) (hd : decode cc pc = .ok (.arraylength, 1)) (kk : Z K w σ lv (.int v :: st) (pc + 1)) : Z K w σ lv (.ref (zq w i) :: st) pc := fun H locs ls hP hS hl =>
  va_alen O.x O.b O.k hP i 0 he (ty := .int) rfl hv hd (kk H locs ls hP hS hl)
theorem z_max (O : zOk K w cc own n fr lo) {idx : Nat} (h1 : Cond.methodLink own idx Lib.Math.max.name ∈ zT) (h2 : Cond.static Lib.Math.max.name ∈ zT) (h3 : Cond.initialized "java/lang/Math" ∈ zT) (h4 : Cond.code Lib.Math.max.name Lib.Math.max.code 2 (some .int) ∈ zT) (hf : 1 ≤ fr) (hlo : (st.map fun v => v.category).sum + 13 ≤ lo) {x y : Int32} (hd : decode cc pc = .ok (.invokestatic idx, 3)) (kk : Z K w σ lv (.int (if x < y then y else x) :: st) (pc + 3)) : Z K w σ lv (.int y :: .int x :: st) pc := fun H locs ls hP hS hl =>
  va_mmax O.x O.b (by rw [O.ml, hl.1, O.nl]) O.ow (O.ts _ h1) (O.ts _ h2) (O.ts _ h3) (O.ts _ h4) (by rw [O.fx]; exact hf) (by rw [O.lx]; exact hlo) O.ce O.sl hd (kk H locs ls hP hS hl)
theorem z_min (O : zOk K w cc own n fr lo) {idx : Nat} (h1 : Cond.methodLink own idx Lib.Math.min.name ∈ zT) (h2 : Cond.static Lib.Math.min.name ∈ zT) (h3 : Cond.initialized "java/lang/Math" ∈ zT) (h4 : Cond.code Lib.Math.min.name Lib.Math.min.code 2 (some .int) ∈ zT) (hf : 1 ≤ fr) (hlo : (st.map fun v => v.category).sum + 13 ≤ lo) {x y : Int32} (hd : decode cc pc = .ok (.invokestatic idx, 3)) (kk : Z K w σ lv (.int (if y < x then y else x) :: st) (pc + 3)) : Z K w σ lv (.int y :: .int x :: st) pc := fun H locs ls hP hS hl =>
  va_mmin O.x O.b (by rw [O.ml, hl.1, O.nl]) O.ow (O.ts _ h1) (O.ts _ h2) (O.ts _ h3) (O.ts _ h4) (by rw [O.fx]; exact hf) (by rw [O.lx]; exact hlo) O.ce O.sl hd (kk H locs ls hP hS hl)
theorem z_abs (O : zOk K w cc own n fr lo) {idx : Nat} (h1 : Cond.methodLink own idx Lib.Math.abs.name ∈ zT) (h2 : Cond.static Lib.Math.abs.name ∈ zT) (h3 : Cond.initialized "java/lang/Math" ∈ zT) (h4 : Cond.code Lib.Math.abs.name Lib.Math.abs.code 1 (some .int) ∈ zT) (hf : 1 ≤ fr) (hlo : (st.map fun v => v.category).sum + 13 ≤ lo) {x : Int32} (hd : decode cc pc = .ok (.invokestatic idx, 3)) (kk : Z K w σ lv (.int (if 0 ≤ x then x else 0 - x) :: st) (pc + 3)) : Z K w σ lv (.int x :: st) pc := fun H locs ls hP hS hl =>
  va_mabs O.x O.b (by rw [O.ml, hl.1, O.nl]) O.ow (O.ts _ h1) (O.ts _ h2) (O.ts _ h3) (O.ts _ h4) (by rw [O.fx]; exact hf) (by rw [O.lx]; exact hlo) O.ce O.sl hd (kk H locs ls hP hS hl)
end ZR
def zMi (l : Launch) (y : MethodName) (cc : ByteArray) (n fr lo : Nat) (ty : FieldType) (w : zWd) (as : List Value) (σ : zSt) (P : Int32 → zSt → Prop) : Prop :=
  ∀ sz : Nat, Met l y (.code y cc n (some ty) :: zT) ({ frames := fr, cells := 0, slots := 0, locals := lo } : Room) (va_Pc as (fun U => U.heap.size = sz ∧ zWo w σ U)) (va_Qi P (fun u t => zWo w u t) (zA w sz)) 0 0 (zA w sz)
def zMv (l : Launch) (y : MethodName) (cc : ByteArray) (n fr lo : Nat) (w : zWd) (as : List Value) (σ : zSt) (P : zSt → Prop) : Prop :=
  ∀ sz : Nat, Met l y (.code y cc n none :: zT) ({ frames := fr, cells := 0, slots := 0, locals := lo } : Room) (va_Pc as (fun U => U.heap.size = sz ∧ zWo w σ U)) (va_Qv P (fun u t => zWo w u t) (zA w sz)) 0 0 (zA w sz)
def zRi (K : zCx) (w : zWd) (cc : ByteArray) (ty : FieldType) (P : Int32 → zSt → Prop) : Prop :=
  ∀ (σ : zSt) (lv : List (Nat × Value)) (v : Int32) (pc : Nat), decode cc pc = .ok (.ireturn, 1) → narrow ty (.int v) = .int v → P v σ → Z K w σ lv [.int v] pc
def zRv (K : zCx) (w : zWd) (cc : ByteArray) (P : zSt → Prop) : Prop :=
  ∀ (σ : zSt) (lv : List (Nat × Value)) (pc : Nat), decode cc pc = .ok (.return_, 1) → P σ → Z K w σ lv [] pc
section ZE
variable {l : Launch} {y : MethodName} {cc : ByteArray} {n fr lo : Nat} {ty : FieldType} {w : zWd} {as : List Value} {σ : zSt}
theorem zMi_of {P : Int32 → zSt → Prop} (hpl : plainName y.cls = true) (hlen : (lg_sl as).length ≤ n) (body : ∀ K : zCx, zOk K w cc y.cls n fr lo → kl K = l → zRi K w cc ty P → Z K w σ (lv_args 0 as) [] 0) : zMi l y cc n fr lo ty w as σ P := by
  intro sz
  refine Met.ofW (cc := cc) (maxL := n) (ret := some ty) hpl rfl ?_
  intro p e s m args below meth c s₁ B hml hv
  obtain ⟨rfl, hsz, hP, hK, hDq⟩ := hv
  subst hsz
  have hts : ∀ x ∈ zT, x.before as.toArray s = true := fun x hx => atoms_spec (ws := Cond.code y cc n (some ty) :: zT) B.pre x (List.mem_cons_of_mem _ hx)
  have hown : s.vm.findClass y.cls = some m.cls := findClass_of_methodNamed B.named
  have hr := B.returns
  rw [lg_entry_eq]
  refine body (p, l, e, ({ frames := fr, cells := 0, slots := 0, locals := lo } : Room), s, m, as.toArray, below, meth, c, n, 0, 0, MQ below (va_Qi P (fun u t => zWo w u t) (zA w s.heap.size)) as.toArray s 0 0 (zA w s.heap.size), zA w s.heap.size)
    ⟨B.exec, B.bytes, hml, rfl, hown, hts, hK, B.notSynchronized, hDq, fun k hk => Or.inl ⟨k, hk, rfl⟩, fun x hx => Or.inr hx, rfl, rfl, Nat.le_refl _, Nat.le_refl _⟩ rfl ?_ s.heap [] _ hP va_S.rf (lv_entry as hlen)
  intro σ' lv v pc hd hnr hPv H locs ls hP' hS hl
  exact W.zret B.exec B.bytes hr hnr (fun t ht hW => ⟨⟨v, σ', rfl, hPv, by rw [ht]; exact hP', va_K.moved hW.alike hK, hDq⟩, hS.F ht⟩) hS.2.2 hd B.notSynchronized
theorem zMv_of {P : zSt → Prop} (hpl : plainName y.cls = true) (hlen : (lg_sl as).length ≤ n) (body : ∀ K : zCx, zOk K w cc y.cls n fr lo → kl K = l → zRv K w cc P → Z K w σ (lv_args 0 as) [] 0) : zMv l y cc n fr lo w as σ P := by
  intro sz
  refine Met.ofW (cc := cc) (maxL := n) (ret := none) hpl rfl ?_
  intro p e s m args below meth c s₁ B hml hv
  obtain ⟨rfl, hsz, hP, hK, hDq⟩ := hv
  subst hsz
  have hts : ∀ x ∈ zT, x.before as.toArray s = true := fun x hx => atoms_spec (ws := Cond.code y cc n none :: zT) B.pre x (List.mem_cons_of_mem _ hx)
  have hown : s.vm.findClass y.cls = some m.cls := findClass_of_methodNamed B.named
  have hr := B.returns
  rw [lg_entry_eq]
  refine body (p, l, e, ({ frames := fr, cells := 0, slots := 0, locals := lo } : Room), s, m, as.toArray, below, meth, c, n, 0, 0, MQ below (va_Qv P (fun u t => zWo w u t) (zA w s.heap.size)) as.toArray s 0 0 (zA w s.heap.size), zA w s.heap.size)
    ⟨B.exec, B.bytes, hml, rfl, hown, hts, hK, B.notSynchronized, hDq, fun k hk => Or.inl ⟨k, hk, rfl⟩, fun x hx => Or.inr hx, rfl, rfl, Nat.le_refl _, Nat.le_refl _⟩ rfl ?_ s.heap [] _ hP va_S.rf (lv_entry as hlen)
  intro σ' lv pc hd hPv H locs ls hP' hS hl
  exact W.vret B.exec B.bytes hr (fun t ht hW => ⟨⟨σ', rfl, hPv, by rw [ht]; exact hP', va_K.moved hW.alike hK, hDq⟩, hS.F ht⟩) hS.2.2 hd B.notSynchronized
end ZE
section ZC
variable {K : zCx} {w : zWd} {cc : ByteArray} {own : String} {n fr lo : Nat} {σ : zSt} {lv : List (Nat × Value)} {st st0 : List Value} {pc : Nat} {l : Launch} {y : MethodName} {cy : ByteArray} {ny fr' lo' na idx : Nat} {ty : FieldType} {as : List Value}
def zLk (own : String) (idx : Nat) (y : MethodName) (cy : ByteArray) (ny : Nat) (ret : Option FieldType) (na : Nat) : Prop :=
  Cond.methodLink own idx y ∈ zT ∧ Cond.initialized y.cls ∈ zT ∧ Cond.code y cy ny ret ∈ zT ∧ (y.cls ≠ "java/lang/invoke/MethodHandle" ∧ y.cls ≠ "java/lang/invoke/VarHandle" ∧ (parseMethodDescriptor y.desc).map (fun d => d.parameters.length) = some na)
theorem zgood {Ts : List Cond} {c : Cond} (h1 : ∀ x ∈ zT, x ∈ Ts) (h2 : c ∈ zT) : GoodIn Ts (c :: zT) := by
  intro x hx
  have h3 : x ∈ zT := (List.mem_cons.mp hx).elim (fun e => e ▸ h2) id
  exact ⟨h1 x h3, good_of_word (List.mem_filter.mp h3).2⟩
theorem zcallB {ret : Option FieldType} (O : zOk K w cc own n fr lo) (L : zLk own idx y cy ny ret na) (hf : fr' + 1 ≤ fr) (hlo : 8 + (ny + 11) + lo' ≤ lo) :
    CallB (kR K) (ks K) (ka K) own idx y cy ny ret (Cond.code y cy ny ret :: zT) ({ frames := fr', cells := 0, slots := 0, locals := lo' } : Room) 0 0 na :=
  callB_of (Ts := zT) na O.ts (zgood (fun _ h => h) L.2.2.1) rfl rfl rfl (O.ts _ L.2.1) (O.ts _ L.1) L.2.2.2 ⟨by rw [O.fx]; exact hf, by rw [O.lx]; exact hlo⟩
theorem zblind {as : List Value} {sz : Nat} : FrameBlind (va_Pc as (fun U => U.heap.size = sz ∧ zWo w σ U)) :=
  fun a U g mk h => ⟨h.1, h.2.1, h.2.2.1, va_K.moved (u := U) (U := U.calling g mk a) (Vm.Alike.refl U.vm) h.2.2.2.1, h.2.2.2.2⟩
theorem zA_sub (O : zOk K w cc own n fr lo) {H : Heap} {locs : List Loc} (hS : va_S (kA K) (ks K).heap H locs) : ∀ q, zA w H.size q → kA K q := by
  intro q h
  rcases h with ⟨k, hk, rfl⟩ | h
  · exact O.aq k hk
  · exact O.an q (Nat.le_trans hS.1 h)
theorem z_calli {P : Int32 → zSt → Prop} (O : zOk K w cc own n fr lo) (hl0 : kl K = l) (i ci : Nat) {fs : List Value} {qc : vw_C} (he : (zrep w σ)[i]? = some (zq w i, .inr (ci, fs))) (hc : zcl[ci]? = some qc) (hM : zMi l y cy ny fr' lo' ty w (.ref (zq w i) :: as) σ P) (L : zLk own idx y cy ny (some ty) na) (hi : Cond.instanceMethod y ∈ zT) (hs : Cond.selects qc.1 y y ∈ zT) (hna : as.length = na) (hst : st0 = as.reverse ++ .ref (zq w i) :: st) (hf : fr' + 1 ≤ fr) (hlo : 8 + (ny + 11) + lo' ≤ lo) (hroom : (st.map fun v => v.category).sum ≤ 8) (hd : decode cc pc = .ok (.invokevirtual idx, 3)) (kk : ∀ (r : Int32) (u : zSt), P r u → Z K w u lv (.int r :: st) (pc + 3)) : Z K w σ lv st0 pc := by
  intro H locs ls hP hS hl
  subst hl0
  refine va_calli (va_runV (As := as) (rest := st) (C := qc.1) (n := na) ⟨O.x, O.b, O.ml, O.ow, O.ts⟩ (hM H.size) ⟨zcallB O L hf hlo, O.ts _ hi, O.ts _ hs⟩ ⟨zblind, va_recv O.k hP hc he, fun U hU hW => ⟨rfl, by rw [hU], by rw [hU]; exact hP, va_K.moved hW.alike O.k, O.dq⟩⟩ rfl hna (hl.1.trans O.nl) hst (lv_room hroom) hd ⟨O.ce, O.sl⟩) hS (fun q _ h => zA_sub O hS q h) (zA_sub O hS) ?_
  intro r u t H1 l1 ht hvm hPu hB hz hk hS1
  exact kk r u hPu H1 l1 ls (by rw [← ht]; exact hB.1) hS1 hl
theorem z_callv {P : zSt → Prop} (O : zOk K w cc own n fr lo) (hl0 : kl K = l) (i ci : Nat) {fs : List Value} {qc : vw_C} (he : (zrep w σ)[i]? = some (zq w i, .inr (ci, fs))) (hc : zcl[ci]? = some qc) (hM : zMv l y cy ny fr' lo' w (.ref (zq w i) :: as) σ P) (L : zLk own idx y cy ny none na) (hi : Cond.instanceMethod y ∈ zT) (hs : Cond.selects qc.1 y y ∈ zT) (hna : as.length = na) (hst : st0 = as.reverse ++ .ref (zq w i) :: st) (hf : fr' + 1 ≤ fr) (hlo : 8 + (ny + 11) + lo' ≤ lo) (hroom : (st.map fun v => v.category).sum ≤ 8) (hd : decode cc pc = .ok (.invokevirtual idx, 3)) (kk : ∀ (u : zSt), P u → Z K w u lv st (pc + 3)) : Z K w σ lv st0 pc := by
  intro H locs ls hP hS hl
  subst hl0
  refine va_callv (va_runV (As := as) (rest := st) (C := qc.1) (n := na) ⟨O.x, O.b, O.ml, O.ow, O.ts⟩ (hM H.size) ⟨zcallB O L hf hlo, O.ts _ hi, O.ts _ hs⟩ ⟨zblind, va_recv O.k hP hc he, fun U hU hW => ⟨rfl, by rw [hU], by rw [hU]; exact hP, va_K.moved hW.alike O.k, O.dq⟩⟩ rfl hna (hl.1.trans O.nl) hst (lv_room hroom) hd ⟨O.ce, O.sl⟩) hS (fun q _ h => zA_sub O hS q h) (zA_sub O hS) ?_
  intro u t H1 l1 ht hvm hPu hB hz hk hS1
  exact kk u hPu H1 l1 ls (by rw [← ht]; exact hB.1) hS1 hl
theorem z_callsi {P : Int32 → zSt → Prop} (O : zOk K w cc own n fr lo) (hl0 : kl K = l) (hM : zMi l y cy ny fr' lo' ty w as σ P) (L : zLk own idx y cy ny (some ty) na) (hi : Cond.static y ∈ zT) (hna : as.length = na) (hst : st0 = as.reverse ++ st) (hf : fr' + 1 ≤ fr) (hlo : 8 + (ny + 11) + lo' ≤ lo) (hroom : (st.map fun v => v.category).sum ≤ 8) (hd : decode cc pc = .ok (.invokestatic idx, 3)) (kk : ∀ (r : Int32) (u : zSt), P r u → Z K w u lv (.int r :: st) (pc + 3)) : Z K w σ lv st0 pc := by
  intro H locs ls hP hS hl
  subst hl0
  refine va_calli (va_runS (As := as) (rest := st) (n := na) ⟨O.x, O.b, O.ml, O.ow, O.ts⟩ (hM H.size) ⟨zcallB O L hf hlo, O.ts _ hi⟩ ⟨zblind, fun U hU hW => ⟨rfl, by rw [hU], by rw [hU]; exact hP, va_K.moved hW.alike O.k, O.dq⟩⟩ rfl hna (hl.1.trans O.nl) hst (lv_room hroom) hd ⟨O.ce, O.sl⟩) hS (fun q _ h => zA_sub O hS q h) (zA_sub O hS) ?_
  intro r u t H1 l1 ht hvm hPu hB hz hk hS1
  exact kk r u hPu H1 l1 ls (by rw [← ht]; exact hB.1) hS1 hl
theorem z_callri {v : Int32} (O : zOk K w cc own n fr lo) (hl0 : kl K = l) (i ci : Nat) {fs : List Value} {qc : vw_C} (he : (zrep w σ)[i]? = some (zq w i, .inr (ci, fs))) (hc : zcl[ci]? = some qc) (hM : zMi l y cy ny fr' lo' ty w (.ref (zq w i) :: as) σ (fun r u => r = v ∧ u = σ)) (L : zLk own idx y cy ny (some ty) na) (hi : Cond.instanceMethod y ∈ zT) (hs : Cond.selects qc.1 y y ∈ zT) (hna : as.length = na) (hst : st0 = as.reverse ++ .ref (zq w i) :: st) (hf : fr' + 1 ≤ fr) (hlo : 8 + (ny + 11) + lo' ≤ lo) (hroom : (st.map fun v => v.category).sum ≤ 8) (hd : decode cc pc = .ok (.invokevirtual idx, 3)) (kk : ∀ (r : Int32), r = v → Z K w σ lv (.int r :: st) (pc + 3)) : Z K w σ lv st0 pc :=
  z_calli O hl0 i ci he hc hM L hi hs hna hst hf hlo hroom hd (fun r u h => by rw [h.2]; exact kk r h.1)
theorem z_callsri {v : Int32} (O : zOk K w cc own n fr lo) (hl0 : kl K = l) (hM : zMi l y cy ny fr' lo' ty w as σ (fun r u => r = v ∧ u = σ)) (L : zLk own idx y cy ny (some ty) na) (hi : Cond.static y ∈ zT) (hna : as.length = na) (hst : st0 = as.reverse ++ st) (hf : fr' + 1 ≤ fr) (hlo : 8 + (ny + 11) + lo' ≤ lo) (hroom : (st.map fun v => v.category).sum ≤ 8) (hd : decode cc pc = .ok (.invokestatic idx, 3)) (kk : ∀ (r : Int32), r = v → Z K w σ lv (.int r :: st) (pc + 3)) : Z K w σ lv st0 pc :=
  z_callsi O hl0 hM L hi hna hst hf hlo hroom hd (fun r u h => by rw [h.2]; exact kk r h.1)
end ZC
def zseq {α : Type} (x : Int32 × zSt) (k : Int32 → zSt → α) : α := k x.1 x.2
def zlet {α β : Type} (x : α) (k : α → β) : β := k x
theorem zseq_e {α : Type} {x : Int32 × zSt} {k : Int32 → zSt → α} {r : Int32} {u : zSt} (h : (r, u) = x) : zseq x k = k r u := by rw [← h]; rfl
theorem zlet_e {α β : Type} {x : α} {k : α → β} {r : α} (h : r = x) : zlet x k = k r := by rw [h]; rfl
end ZB
