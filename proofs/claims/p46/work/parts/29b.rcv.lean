/-! what the law looks at, of the receiver and the lists -/
theorem holdsY {c : Nat} {σ : zSt} {a : Int32} (h0 : 0 ≤ a.toInt) (h1 : a.toInt < (σ c 2).toInt) : ¬ f_W_holds c σ a = 0 := fun q => ((W_holds c σ a).1.mp q) ⟨h0, h1⟩
theorem seeSeg {σ : zSt} {a : Int32} (h0 : 0 ≤ a.toInt) (h1 : a.toInt < (σ 9 2).toInt) (h2 : (σ 9 2).toInt ≤ 40) : k_X_startOf σ a ∧ f_X_startOf σ a = σ 10 (2 * a.toInt.toNat) ∧ k_X_endOf σ a ∧ f_X_endOf σ a = σ 10 (2 * a.toInt.toNat + 1) := by
  have hh := holdsY (c := 9) h0 h1
  obtain ⟨k1, e1⟩ := W_cell9 (σ := σ) (a := a) (i := 0) h0 (by omega) (by decide) (by decide)
  obtain ⟨k2, e2⟩ := W_cell9 (σ := σ) (a := a) (i := 1) h0 (by omega) (by decide) (by decide)
  refine ⟨fun r hr => ⟨fun q => absurd (hr.symm.trans q) hh, fun _ => k1⟩, ?_, fun r hr => ⟨fun q => absurd (hr.symm.trans q) hh, fun _ => k2⟩, ?_⟩
  · unfold f_X_startOf
    dsimp only [zlet]
    rw [if_neg hh, e1]
    rfl
  · unfold f_X_endOf
    dsimp only [zlet]
    rw [if_neg hh, e2]
    rfl
theorem seeAck {σ : zSt} {a : Int32} (h0 : 0 ≤ a.toInt) (h1 : a.toInt < (σ 11 2).toInt) (h2 : (σ 11 2).toInt ≤ 40) : (k_X_ackNumber σ a ∧ f_X_ackNumber σ a = σ 12 (9 * a.toInt.toNat + 0)) ∧ (k_X_ackWindow σ a ∧ f_X_ackWindow σ a = σ 12 (9 * a.toInt.toNat + 1)) ∧ (k_X_ackBlocks σ a ∧ f_X_ackBlocks σ a = σ 12 (9 * a.toInt.toNat + 2)) := by
  have hh := holdsY (c := 11) h0 h1
  obtain ⟨k1, e1⟩ := W_cell11 (σ := σ) (a := a) (i := 0) h0 (by omega) (by decide) (by decide)
  obtain ⟨k2, e2⟩ := W_cell11 (σ := σ) (a := a) (i := 1) h0 (by omega) (by decide) (by decide)
  obtain ⟨k3, e3⟩ := W_cell11 (σ := σ) (a := a) (i := 2) h0 (by omega) (by decide) (by decide)
  refine ⟨⟨fun r hr => ⟨fun q => absurd (hr.symm.trans q) hh, fun _ => k1⟩, ?_⟩, ⟨fun r hr => ⟨fun q => absurd (hr.symm.trans q) hh, fun _ => k2⟩, ?_⟩, ⟨fun r hr => ⟨fun q => absurd (hr.symm.trans q) hh, fun _ => k3⟩, ?_⟩⟩
  · unfold f_X_ackNumber
    dsimp only [zlet]
    rw [if_neg hh, e1]
    rfl
  · unfold f_X_ackWindow
    dsimp only [zlet]
    rw [if_neg hh, e2]
    rfl
  · unfold f_X_ackBlocks
    dsimp only [zlet]
    rw [if_neg hh, e3]
    rfl
theorem seeBlock {σ : zSt} {a b : Int32} (h0 : 0 ≤ a.toInt) (h1 : a.toInt < (σ 11 2).toInt) (h2 : (σ 11 2).toInt ≤ 40) (g0 : 0 ≤ b.toInt) (g1 : b.toInt < (σ 12 (9 * a.toInt.toNat + 2)).toInt) (g2 : (σ 12 (9 * a.toInt.toNat + 2)).toInt ≤ 3) : k_X_ackBlock σ a b ∧ f_X_ackBlock σ a b = σ 12 (9 * a.toInt.toNat + (3 + 2 * b.toInt.toNat)) := by
  have hh := holdsY (c := 11) h0 h1
  have hz := zidx2 (x := b) g0 (by omega)
  obtain ⟨k3, e3⟩ := W_cell11 (σ := σ) (a := a) (i := 2) h0 (by omega) (by decide) (by decide)
  obtain ⟨k4, e4⟩ := W_cell11 (σ := σ) (a := a) (i := 3 + 2 * b) h0 (by omega) (by omega) (by omega)
  have e3' : f_W_cell 11 σ a 2 = σ 12 (9 * a.toInt.toNat + 2) := e3
  have c1 : ¬ b < 0 := by rw [zlt, zt0]; omega
  have c2 : b < σ 12 (9 * a.toInt.toNat + 2) := by rw [zlt]; omega
  refine ⟨fun r hr => ⟨fun q => absurd (hr.symm.trans q) hh, fun _ => ⟨fun q => absurd q c1, fun _ => ⟨k3, fun r7 e7 => ⟨fun _ => k4, fun q => absurd (by rw [e7, e3']; exact c2) q⟩⟩⟩⟩, ?_⟩
  unfold f_X_ackBlock
  dsimp only [zlet]
  rw [if_neg hh, if_neg c1, e3', if_pos c2, e4, hz.1, show (3 + 2 * b.toInt).toNat = 3 + 2 * b.toInt.toNat by omega]
theorem seeBlk {σ : zSt} (h : zRcv σ) {a : Int32} (h0 : 0 ≤ a.toInt) (h1 : a.toInt < (f_R_countBlocks σ).toInt) : k_X_blockStart σ a ∧ f_X_blockStart σ a = zCh σ a.toInt.toNat ∧ k_X_blockEnd σ a ∧ f_X_blockEnd σ a = f_R_endOfRun σ (zCh σ a.toInt.toNat) := by
  obtain ⟨k1, -⟩ := countBlocks h
  obtain ⟨k2, e2⟩ := startOfBlock h a h0
  have c1 : ¬ a < 0 := by rw [zlt, zt0]; omega
  have c2 : a < f_R_countBlocks σ := by rw [zlt]; omega
  refine ⟨⟨fun q => absurd q c1, fun _ => ⟨k1, fun r e => ⟨fun _ => k2, fun q => absurd (by rw [e]; exact c2) q⟩⟩⟩, ?_, ⟨fun q => absurd q c1, fun _ => ⟨k1, fun r e => ⟨fun _ => ⟨k2, fun r6 _ => (endOfRun σ r6).1⟩, fun q => absurd (by rw [e]; exact c2) q⟩⟩⟩, ?_⟩
  · unfold f_X_blockStart
    dsimp only [zlet]
    rw [if_neg c1, if_pos c2, e2]
  · unfold f_X_blockEnd
    dsimp only [zlet]
    rw [if_neg c1, if_pos c2, e2]
theorem isR55 {k : Nat} {σ : zSt} (hI : zI k σ) : ∀ (m : Nat) (x2 x4 : Int32) (n : Nat), x4.toInt = n → (n : Int) ≤ (f_R_countBlocks σ).toInt → ((f_R_countBlocks σ).toInt - x4.toInt).toNat < m → (¬ zCh σ n = -1 → x2.toInt < (zCh σ n).toInt) → kl_L_isReceiver_55 σ (σ 6 2) m x2 1 x4 ∧ l_L_isReceiver_55 σ (σ 6 2) m x2 1 x4 = 1 := by
  have h := zI_rv hI
  obtain ⟨c0, c1, c2, c3⟩ := countBlocks h
  obtain ⟨⟨hp, -, -⟩, -, hh, -⟩ := hI
  intro m
  induction m with
  | zero => intro x2 x4 n _ _ hm; omega
  | succ m ih =>
    intro x2 x4 n hx hn hm hl
    unfold kl_L_isReceiver_55 l_L_isReceiver_55
    have eb : f_X_blocks σ = f_R_countBlocks σ := rfl
    dsimp only [zlet]
    rw [eb]
    by_cases q1 : f_R_countBlocks σ ≤ x4
    · rw [if_pos q1]
      exact ⟨⟨c0, fun r e g => absurd (by rw [e]; exact q1) g⟩, rfl⟩
    · rw [if_neg q1, if_neg (by decide)]
      have q1' := q1
      rw [zle] at q1'
      have hi : (x4 + 1).toInt = x4.toInt + 1 := zinc' (by omega)
      obtain ⟨s1, s2, s3, s4⟩ := seeBlk h (a := x4) (by omega) (by omega)
      rw [show x4.toInt.toNat = n by omega] at s2 s4
      have hz := c3 n (by omega)
      have hs : zBs σ (zCh σ n).toInt := (zCh_s h n).resolve_left hz
      obtain ⟨r1, r2, r3, r4⟩ := runEnd h hs
      obtain ⟨n1, n2, n3⟩ := nextBlock h hs
      have hlast := hh.2.2 ((f_R_endOfRun σ (zCh σ n)).toInt - 1) (r4 _ (by omega) (by omega))
      have e1 := zp32 (x := σ 6 3) (by omega) (by omega)
      have hs1 := hs.1
      have hl' := hl hz
      have e68 : s_L_isReceiver_68 σ (σ 6 2) x2 x4 = 1 := by
        unfold s_L_isReceiver_68
        dsimp only [zlet, f_X_readPosition, f_X_highest]
        rw [s2, s4, if_neg (by rw [zle]; omega), if_neg (by rw [zle]; omega), if_neg (by rw [zlt, e1]; omega), if_neg (by rw [zlt]; omega)]
      obtain ⟨i1, i2⟩ := ih (f_X_blockEnd σ x4) (x4 + 1) (n + 1) (by omega) (by omega) (by omega) (by
        rw [s4]
        intro g
        have hch : zCh σ (n + 1) = f_R_blockFrom σ (f_R_endOfRun σ (zCh σ n)) := if_neg hz
        rw [hch] at g ⊢
        exact (n3.resolve_left g).1)
      rw [e68]
      refine ⟨⟨c0, fun r18 e18 _ _ => ⟨?_, fun r40 e40 => ⟨s3, fun r41 e41 => ?_⟩⟩⟩, i2⟩
      · unfold ks_L_isReceiver_68
        exact ⟨s1, fun _ _ _ => ⟨s3, fun _ _ => ⟨s1, fun _ _ _ => ⟨s3, fun _ _ _ _ _ => s3⟩⟩⟩⟩
      · subst e40
        subst e41
        exact i1
theorem isR218 {k : Nat} {σ : zSt} (hI : zI k σ) {x4 : Int32} (h0 : 0 ≤ x4.toInt) (h1 : x4.toInt < (σ 11 2).toInt) : ∀ (m : Nat) (x5 : Int32), 0 ≤ x5.toInt → x5.toInt ≤ 3 → (3 - x5.toInt).toNat < m → kl_L_isReceiver_218 σ (σ 6 2) x4 m 1 x5 ∧ l_L_isReceiver_218 σ (σ 6 2) x4 m 1 x5 = 1 := by
  obtain ⟨-, -, hh, -, ⟨a1, a2, a3, -⟩⟩ := hI
  obtain ⟨b1, b2, b3⟩ := a3 x4.toInt.toNat (by omega)
  obtain ⟨⟨s1, t1⟩, -, ⟨s3, t3⟩⟩ := seeAck (σ := σ) (a := x4) h0 h1 a2
  intro m
  induction m with
  | zero => intro x5 _ _ hm; omega
  | succ m ih =>
    intro x5 g0 g1 hm
    unfold kl_L_isReceiver_218 l_L_isReceiver_218
    dsimp only [zlet]
    rw [t3]
    by_cases q1 : σ 12 (9 * x4.toInt.toNat + 2) ≤ x5
    · rw [if_pos q1]
      exact ⟨⟨s3, fun r e g => absurd (by rw [e]; exact q1) g⟩, rfl⟩
    · rw [if_neg q1, if_neg (by decide)]
      have q1' := q1
      rw [zle] at q1'
      have hi : (x5 + 1).toInt = x5.toInt + 1 := zinc' (by omega)
      obtain ⟨s4, t4⟩ := seeBlock (σ := σ) (a := x4) (b := x5) h0 h1 a2 g0 (by omega) (by omega)
      obtain ⟨d1, d2, d3, d4⟩ := b3 x5.toInt.toNat (by omega)
      have d5 := hh.2.2 _ (d4 _ (Int.le_refl _) d2)
      have e233 : s_L_isReceiver_233 σ (σ 6 2) x4 x5 = 1 := by
        unfold s_L_isReceiver_233
        dsimp only [zlet, f_X_highest]
        rw [t1, t4, if_neg (by rw [zle]; omega), if_neg (by rw [zle]; omega)]
      obtain ⟨i1, i2⟩ := ih (x5 + 1) (by omega) (by omega) (by omega)
      rw [e233]
      refine ⟨⟨s3, fun r65 _ _ _ => ⟨?_, fun r79 e79 => ?_⟩⟩, i2⟩
      · unfold ks_L_isReceiver_233
        exact ⟨s4, fun _ _ => ⟨s1, fun _ _ _ => s4⟩⟩
      · subst e79
        exact i1
theorem isR144 {k : Nat} {σ : zSt} (hI : zI k σ) : ∀ (m : Nat) (x4 : Int32), 0 ≤ x4.toInt → x4.toInt ≤ (σ 11 2).toInt → ((σ 11 2).toInt - x4.toInt).toNat < m → kl_L_isReceiver_144 σ (σ 6 2) m 1 x4 ∧ l_L_isReceiver_144 σ (σ 6 2) m 1 x4 = 1 := by
  obtain ⟨⟨hp, -, -⟩, -, hh, -, ⟨a1, a2, a3, -⟩⟩ := id hI
  intro m
  induction m with
  | zero => intro x4 _ _ hm; omega
  | succ m ih =>
    intro x4 g0 g1 hm
    unfold kl_L_isReceiver_144 l_L_isReceiver_144
    dsimp only [zlet, f_X_acks]
    by_cases q1 : σ 11 2 ≤ x4
    · rw [if_pos q1]
      exact ⟨fun r e g => absurd (by rw [e]; exact q1) g, rfl⟩
    · rw [if_neg q1, if_neg (by decide)]
      have q1' := q1
      rw [zle] at q1'
      have hi : (x4 + 1).toInt = x4.toInt + 1 := zinc' (by omega)
      obtain ⟨b1, b2, b3⟩ := a3 x4.toInt.toNat (by omega)
      obtain ⟨⟨s1, t1⟩, ⟨s2, t2⟩, ⟨s3, t3⟩⟩ := seeAck (σ := σ) (a := x4) g0 (by omega) a2
      have e1 := zp32 (x := σ 6 3) (by omega) (by omega)
      have e2 : (σ 12 (9 * x4.toInt.toNat + 0) + σ 12 (9 * x4.toInt.toNat + 1)).toInt = (σ 12 (9 * x4.toInt.toNat + 0)).toInt + (σ 12 (9 * x4.toInt.toNat + 1)).toInt := zadd (by omega) (by omega)
      have e157 : s_L_isReceiver_157 σ (σ 6 2) x4 = 1 := by
        unfold s_L_isReceiver_157
        dsimp only [zlet, f_X_readPosition]
        rw [t1, t2, t3, if_neg (by rw [zlt]; omega), if_neg (by rw [zlt, e1, e2]; omega), if_neg (by rw [zlt, zt0]; omega), if_neg (by rw [zlt, zt3]; omega)]
      obtain ⟨j1, j2⟩ := isR218 hI g0 (by omega) 5 0 (by decide) (by decide) (by decide)
      obtain ⟨i1, i2⟩ := ih (x4 + 1) (by omega) (by omega) (by omega)
      rw [e157, j2]
      refine ⟨fun r44 _ _ _ => ⟨?_, fun r64 e64 => ?_⟩, i2⟩
      · unfold ks_L_isReceiver_157
        exact ⟨s1, fun _ _ _ => ⟨s1, fun _ _ => ⟨s2, fun _ _ _ _ _ => ⟨s2, fun _ _ _ => s3⟩⟩⟩⟩
      · subst e64
        refine ⟨j1, fun r80 e80 => ?_⟩
        rw [j2] at e80
        subst e80
        exact i1
theorem isR286 {k : Nat} {σ : zSt} (hI : zI k σ) : ∀ (m : Nat) (x4 : Int32), 0 ≤ x4.toInt → x4.toInt ≤ (σ 9 2).toInt → ((σ 9 2).toInt - x4.toInt).toNat < m → kl_L_isReceiver_286 σ m 1 x4 ∧ l_L_isReceiver_286 σ m 1 x4 = 1 := by
  obtain ⟨⟨hp, -, -⟩, -, -, ⟨a1, a2, a3⟩, -⟩ := hI
  intro m
  induction m with
  | zero => intro x4 _ _ hm; omega
  | succ m ih =>
    intro x4 g0 g1 hm
    unfold kl_L_isReceiver_286 l_L_isReceiver_286
    dsimp only [zlet, f_X_segments]
    by_cases q1 : σ 9 2 ≤ x4
    · rw [if_pos q1]
      exact ⟨fun r e g => absurd (by rw [e]; exact q1) g, rfl⟩
    · rw [if_neg q1, if_neg (by decide)]
      have q1' := q1
      rw [zle] at q1'
      have hi : (x4 + 1).toInt = x4.toInt + 1 := zinc' (by omega)
      obtain ⟨b1, b2, b3, b4⟩ := a3 x4.toInt.toNat (by omega)
      obtain ⟨s1, t1, s2, t2⟩ := seeSeg (σ := σ) (a := x4) g0 (by omega) a2
      have e4 := zp4 (x := σ 10 (2 * x4.toInt.toNat)) (by omega) (by omega)
      have e299 : s_L_isReceiver_299 σ x4 = 1 := by
        unfold s_L_isReceiver_299
        dsimp only [zlet, f_X_highest]
        rw [t1, t2, if_neg (by rw [zlt, zt0]; omega), if_neg (by rw [zle]; omega), if_neg (by rw [zlt, e4]; omega), if_neg (by rw [zlt]; omega)]
      obtain ⟨i1, i2⟩ := ih (x4 + 1) (by omega) (by omega) (by omega)
      rw [e299]
      refine ⟨fun r82 _ _ _ => ⟨?_, fun r104 e104 => ?_⟩, i2⟩
      · unfold ks_L_isReceiver_299
        exact ⟨s1, fun _ _ _ => ⟨s2, fun _ _ => ⟨s1, fun _ _ _ => ⟨s2, fun _ _ => ⟨s1, fun _ _ _ => s2⟩⟩⟩⟩⟩
      · subst e104
        exact i1
theorem isReceiver {k : Nat} {σ : zSt} (hI : zI k σ) : k_L_isReceiver σ ∧ f_L_isReceiver σ = 1 := by
  have h := zI_rv hI
  obtain ⟨c0, c1, c2, c3⟩ := countBlocks h
  obtain ⟨⟨hp, -, -⟩, -, hh, ⟨a1, a2, -⟩, ⟨a3, a4, -⟩⟩ := id hI
  have e1 := zp32 (x := σ 6 3) (by omega) (by omega)
  have e7 : s_L_isReceiver_7 σ (σ 6 2) (σ 6 2) = 1 := by
    unfold s_L_isReceiver_7
    dsimp only [zlet, f_X_readPosition, f_X_window, f_R_room, f_X_highest]
    rw [if_neg (by rw [zlt]; omega), if_pos rfl, if_neg (by rw [zlt, zt0, zsub (by omega) (by omega), e1]; omega), if_neg (by rw [zlt]; omega)]
  obtain ⟨k1, l1⟩ := isR55 hI 700 (σ 6 2) 0 0 rfl c1 (by rw [zt0]; omega) (fun g => ((zCh_s h 0).resolve_left g).1)
  obtain ⟨k2, l2⟩ := isR144 hI 50 0 (by decide) (by rw [zt0]; omega) (by rw [zt0]; omega)
  obtain ⟨k3, l3⟩ := isR286 hI 50 0 (by decide) (by rw [zt0]; omega) (by rw [zt0]; omega)
  refine ⟨?_, ?_⟩
  · unfold k_L_isReceiver
    intro r1 q1 r17 q17
    have q1' : r1 = σ 6 2 := q1
    subst q1'
    rw [e7] at q17
    subst q17
    refine ⟨k1, fun r43 q43 => ?_⟩
    rw [l1] at q43
    subst q43
    refine ⟨k2, fun r81 q81 => ?_⟩
    rw [l2] at q81
    subst q81
    refine ⟨k3, fun r105 q105 => ?_⟩
    rw [l3] at q105
    subst q105
    rfl
  · unfold f_L_isReceiver
    rw [zlet_e (show σ 6 2 = f_X_inOrder σ from rfl), zlet_e e7.symm, zlet_e l1.symm, zlet_e l2.symm, zlet_e l3.symm]
