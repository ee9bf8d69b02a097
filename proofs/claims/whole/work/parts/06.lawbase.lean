
section ZL
def zScr (K : zCx) (b L : Nat) (xs : Nat → Int32) : Prop := va_X b L xs (ks K) (ks K).heap ∧ b < (ks K).heap.size ∧ ¬ kA K b
def zXs (K : zCx) (w : zWd) : Prop := ∀ (H : Heap) (locs : List Loc), va_S (kA K) (ks K).heap H locs → ∀ U : State, U.heap = H → (ks K).WarmedH U.vm → zX w U
section ZL1
variable {K : zCx} {w : zWd} {cc : ByteArray} {own : String} {n fr lo : Nat} {σ : zSt} {lv lv' : List (Nat × Value)} {st st0 : List Value} {pc : Nat} {l : Launch} {y : MethodName} {cy : ByteArray} {ny fr' lo' na idx : Nat} {as : List Value} {b L : Nat} {xs : Nat → Int32}
theorem z_sld (O : zOk K w cc own n fr lo) (S : zScr K b L xs) {i v : Int32} (hi : vp_in i L) (hv : xs i.toNatClampNeg = v) (hd : decode cc pc = .ok (.iaload, 1)) (kk : Z K w σ lv (.int v :: st) (pc + 1)) : Z K w σ lv (.int i :: .ref b :: st) pc := fun H locs ls hP hS hl =>
  va_sld O.x O.b S.1 S.2.1 S.2.2 hS hi hd (by rw [hv]; exact kk H locs ls hP hS hl)
theorem z_slen (O : zOk K w cc own n fr lo) (S : zScr K b L xs) (hd : decode cc pc = .ok (.arraylength, 1)) (kk : Z K w σ lv (.int (Int32.ofNat L) :: st) (pc + 1)) : Z K w σ lv (.ref b :: st) pc := fun H locs ls hP hS hl =>
  va_slen O.x O.b S.1 S.2.1 S.2.2 hS hd (kk H locs ls hP hS hl)
theorem z_lcmp (O : zOk K w cc own n fr lo) {x y : Int64} (h : x = y) (hd : decode cc pc = .ok (.lcmp, 1)) (kk : Z K w σ lv (.int 0 :: st) (pc + 1)) : Z K w σ lv (.long y :: .long x :: st) pc := fun H locs ls hP hS hl => by
  subst h
  exact W.lcmp O.x O.b hd (by rw [show lg_cmp x x = 0 by simp [lg_cmp]]; exact kk H locs ls hP hS hl)
theorem z_up (kk : Z (kup K) w σ lv st pc) : Z K w σ lv st pc := fun H locs ls hP hS hl =>
  W.widen (k := kce K + 1) (n := ksl K + 6) (Nat.le_succ _) (Nat.le_add_right _ _) (kk H locs ls hP hS hl)
def zLw (own : String) (idx : Nat) (y : MethodName) (cy : ByteArray) (ny : Nat) (hh : List (Nat × Nat × Nat × Nat)) (na : Nat) : Prop :=
  Cond.methodLink own idx y ∈ zT ∧ Cond.initialized y.cls ∈ zT ∧ Cond.codeWith y cy ny (some .int) hh ∈ zT ∧ Cond.static y ∈ zT ∧ (y.cls ≠ "java/lang/invoke/MethodHandle" ∧ y.cls ≠ "java/lang/invoke/VarHandle" ∧ (parseMethodDescriptor y.desc).map (fun d => d.parameters.length) = some na)
theorem z_callw {P : Int32 → zSt → Prop} {hh : List (Nat × Nat × Nat × Nat)} (O : zOk K w cc own n fr lo) (hl0 : kl K = l) (hX : zXs K w) (hM : zMw l y cy ny hh fr' lo' w as σ P) (Lk : zLw own idx y cy ny hh na) (hna : as.length = na) (hst : st0 = as.reverse ++ st) (hf : fr' + 1 ≤ fr) (hlo : 8 + (ny + 11) + lo' ≤ lo) (hroom : (st.map fun v => v.category).sum ≤ 8) (hce : kce K + 1 ≤ (kR K).cells) (hsl : ksl K + 6 ≤ (kR K).slots) (hd : decode cc pc = .ok (.invokestatic idx, 3)) (kk : ∀ (r : Int32) (u : zSt), P r u → Z (kup K) w u lv (.int r :: st) (pc + 3)) : Z K w σ lv st0 pc := by
  intro H locs ls hP hS hl
  subst hl0
  have cw : vx_CSW (kR K) (ks K) (ka K) own idx y cy ny (some .int) hh (Cond.codeWith y cy ny (some .int) hh :: zT) ({ frames := fr', cells := 1, slots := 6, locals := lo' } : Room) 1 6 na :=
    ⟨⟨rfl, rfl, by rw [O.fx]; exact hf, by rw [O.lx]; exact hlo, pay_in (big := zT) O.ts (zgood (fun _ h => h) Lk.2.2.1), List.mem_cons_self⟩, O.ts _ Lk.2.2.1, O.ts _ Lk.2.1, ⟨Lk.2.2.2.2.1, Lk.2.2.2.2.2.1⟩, fun sig h => by
      have h2 := Lk.2.2.2.2.2.2
      rw [h] at h2
      exact (Option.some.inj h2).symm, O.ts _ Lk.1, O.ts _ Lk.2.2.2.1⟩
  refine va_calli (vx_runSW (As := as) (rest := st) (n := na) ⟨O.x, O.b, O.ml, O.ow, O.ts⟩ (hM H.size) cw ⟨zblindX, fun U hU hW => ⟨rfl, by rw [hU], ⟨by rw [hU]; exact hP, va_K.moved hW.alike O.k, O.dq⟩, hX H locs hS U hU hW⟩⟩ rfl hna (hl.1.trans O.nl) hst (lv_room hroom) hd ⟨hce, hsl⟩) hS (fun q _ h => zA_sub O hS q h) (zA_sub O hS) ?_
  intro r u t H1 l1 ht hvm hPu hB hz hk hS1
  exact kk r u hPu H1 l1 ls (by rw [← ht]; exact hB.1) hS1 hl
theorem z_swIn (O : zOk K w cc own n fr lo) {dflt : Int} {hi : Int} {offs : Array Int} {len : Nat} {x : Int32} {off : Int} {tgt : Nat} (hd : decode cc pc = .ok (.tableswitch dflt 0 hi offs, len)) (j : Nat) (hj : x.toInt = (j : Int)) (h2 : (j : Int) ≤ hi) (ho : offs[j]? = some off) (ht : (pc : Int) + off = (tgt : Int)) (k : Z K w σ lv st tgt) : Z K w σ lv (.int x :: st) pc := fun H locs ls hP hS hl =>
  lv_tableIn O.x O.b hd (by omega) (by omega) (by rw [show (x.toInt - 0).toNat = j by omega]; exact ho) ht (k H locs ls hP hS hl)
theorem z_swOut (O : zOk K w cc own n fr lo) {dflt : Int} {hi : Int} {offs : Array Int} {len : Nat} {x : Int32} {tgt : Nat} (hd : decode cc pc = .ok (.tableswitch dflt 0 hi offs, len)) (h : hi < x.toInt) (ht : (pc : Int) + dflt = (tgt : Int)) (k : Z K w σ lv st tgt) : Z K w σ lv (.int x :: st) pc := fun H locs ls hP hS hl =>
  lv_tableOut O.x O.b hd (Or.inr h) ht (k H locs ls hP hS hl)
end ZL1
theorem zkup_room {K : zCx} {c s : Nat} (h : kce K + (c + 1) ≤ (kR K).cells ∧ ksl K + (s + 6) ≤ (kR K).slots) : kce (kup K) + c ≤ (kR (kup K)).cells ∧ ksl (kup K) + s ≤ (kR (kup K)).slots := by
  obtain ⟨h1, h2⟩ := h
  exact ⟨by show kce K + 1 + c ≤ (kR K).cells; omega, by show ksl K + 6 + s ≤ (kR K).slots; omega⟩
theorem z63 (x : Int32) : 0 ≤ (x &&& 63).toInt ∧ (x &&& 63).toInt < 64 := by
  have h1 : (x &&& 63).toBitVec = x.toBitVec &&& 63#32 := rfl
  have h2 : (x.toBitVec &&& 63#32).toNat ≤ 63 := by
    rw [BitVec.toNat_and]
    exact Nat.and_le_right
  have h3 : (x &&& 63).toInt = (x.toBitVec &&& 63#32).toInt := by rw [← h1]; rfl
  rw [h3, BitVec.toInt_eq_toNat_of_lt (by omega)]
  omega
end ZL
