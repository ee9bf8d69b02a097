/-! a segment goes out -/
theorem noteSent_facts (σ : zSt) (s e : Int32) : (∀ i, i ≠ 2 → i ≠ 5 → f_S_noteSent σ s e i = σ i) ∧ (∀ j, f_S_noteSent σ s e 2 j = if j = 13 then σ 2 13 + 1 else if j = 14 then (if σ 2 4 ≤ s then σ 2 14 else σ 2 14 + 1) else if j = 4 then zmx (σ 2 4) (σ 2 3) else σ 2 j) ∧ (∀ j, f_S_noteSent σ s e 5 j = if j = 3 then (if σ 2 4 ≤ s ∧ σ 5 3 = -1 then e else σ 5 3) else if j = 6 then (if σ 2 4 ≤ s ∧ σ 5 3 = -1 then σ 5 0 else σ 5 6) else if j = 2 then (if σ 5 2 = -1 then σ 5 0 + σ 5 1 else σ 5 2) else σ 5 j) := by
  unfold f_S_noteSent f_T_timeSegment f_T_startIfStopped f_T_startAnew
  dsimp only [zlet]
  simp only [zmx_lt]
  by_cases c1 : σ 2 4 ≤ s
  · by_cases c2 : σ 5 3 = -1
    · by_cases c3 : σ 5 2 = -1
      · refine ⟨fun i q1 q2 => ?_, fun j => ?_, fun j => ?_⟩
        · simp [zuf_at, zuf_ne, c1, c2, c3, q1, q2]
        · by_cases j13 : j = 13
          · subst j13; simp [zuf_at, c1, c2, c3]
          · by_cases j14 : j = 14
            · subst j14; simp [zuf_at, c1, c2, c3]
            · by_cases j4 : j = 4
              · subst j4; simp [zuf_at, c1, c2, c3]
              · simp [zuf_at, c1, c2, c3, j13, j14, j4]
        · by_cases j3 : j = 3
          · subst j3; simp [zuf_at, c1, c2, c3]
          · by_cases j6 : j = 6
            · subst j6; simp [zuf_at, c1, c2, c3]
            · by_cases j2 : j = 2
              · subst j2; simp [zuf_at, c1, c2, c3]
              · simp [zuf_at, c1, c2, c3, j3, j6, j2]
      · refine ⟨fun i q1 q2 => ?_, fun j => ?_, fun j => ?_⟩
        · simp [zuf_at, zuf_ne, c1, c2, c3, q1, q2]
        · by_cases j13 : j = 13
          · subst j13; simp [zuf_at, c1, c2, c3]
          · by_cases j14 : j = 14
            · subst j14; simp [zuf_at, c1, c2, c3]
            · by_cases j4 : j = 4
              · subst j4; simp [zuf_at, c1, c2, c3]
              · simp [zuf_at, c1, c2, c3, j13, j14, j4]
        · by_cases j3 : j = 3
          · subst j3; simp [zuf_at, c1, c2, c3]
          · by_cases j6 : j = 6
            · subst j6; simp [zuf_at, c1, c2, c3]
            · by_cases j2 : j = 2
              · subst j2; simp [zuf_at, c1, c2, c3]
              · simp [zuf_at, c1, c2, c3, j3, j6, j2]
    · by_cases c3 : σ 5 2 = -1
      · refine ⟨fun i q1 q2 => ?_, fun j => ?_, fun j => ?_⟩
        · simp [zuf_at, zuf_ne, c1, c2, c3, q1, q2]
        · by_cases j13 : j = 13
          · subst j13; simp [zuf_at, c1, c2, c3]
          · by_cases j14 : j = 14
            · subst j14; simp [zuf_at, c1, c2, c3]
            · by_cases j4 : j = 4
              · subst j4; simp [zuf_at, c1, c2, c3]
              · simp [zuf_at, c1, c2, c3, j13, j14, j4]
        · by_cases j3 : j = 3
          · subst j3; simp [zuf_at, c1, c2, c3]
          · by_cases j6 : j = 6
            · subst j6; simp [zuf_at, c1, c2, c3]
            · by_cases j2 : j = 2
              · subst j2; simp [zuf_at, c1, c2, c3]
              · simp [zuf_at, c1, c2, c3, j3, j6, j2]
      · refine ⟨fun i q1 q2 => ?_, fun j => ?_, fun j => ?_⟩
        · simp [zuf_at, zuf_ne, c1, c2, c3, q1, q2]
        · by_cases j13 : j = 13
          · subst j13; simp [zuf_at, c1, c2, c3]
          · by_cases j14 : j = 14
            · subst j14; simp [zuf_at, c1, c2, c3]
            · by_cases j4 : j = 4
              · subst j4; simp [zuf_at, c1, c2, c3]
              · simp [zuf_at, c1, c2, c3, j13, j14, j4]
        · by_cases j3 : j = 3
          · subst j3; simp [zuf_at, c1, c2, c3]
          · by_cases j6 : j = 6
            · subst j6; simp [zuf_at, c1, c2, c3]
            · by_cases j2 : j = 2
              · subst j2; simp [zuf_at, c1, c2, c3]
              · simp [zuf_at, c1, c2, c3, j3, j6, j2]
  · by_cases c3 : σ 5 2 = -1
    · refine ⟨fun i q1 q2 => ?_, fun j => ?_, fun j => ?_⟩
      · simp [zuf_at, zuf_ne, c1, c3, q1, q2]
      · by_cases j13 : j = 13
        · subst j13; simp [zuf_at, c1, c3]
        · by_cases j14 : j = 14
          · subst j14; simp [zuf_at, c1, c3]
          · by_cases j4 : j = 4
            · subst j4; simp [zuf_at, c1, c3]
            · simp [zuf_at, c1, c3, j13, j14, j4]
      · by_cases j3 : j = 3
        · subst j3; simp [zuf_at, c1, c3]
        · by_cases j6 : j = 6
          · subst j6; simp [zuf_at, c1, c3]
          · by_cases j2 : j = 2
            · subst j2; simp [zuf_at, c1, c3]
            · simp [zuf_at, c1, c3, j3, j6, j2]
    · refine ⟨fun i q1 q2 => ?_, fun j => ?_, fun j => ?_⟩
      · simp [zuf_at, zuf_ne, c1, c3, q1, q2]
      · by_cases j13 : j = 13
        · subst j13; simp [zuf_at, c1, c3]
        · by_cases j14 : j = 14
          · subst j14; simp [zuf_at, c1, c3]
          · by_cases j4 : j = 4
            · subst j4; simp [zuf_at, c1, c3]
            · simp [zuf_at, c1, c3, j13, j14, j4]
      · by_cases j3 : j = 3
        · subst j3; simp [zuf_at, c1, c3]
        · by_cases j6 : j = 6
          · subst j6; simp [zuf_at, c1, c3]
          · by_cases j2 : j = 2
            · subst j2; simp [zuf_at, c1, c3]
            · simp [zuf_at, c1, c3, j3, j6, j2]
theorem sends_facts (τ : zSt) (s e : Int32) : (f_M_sends τ s e).1 = e - s ∧ (∀ i, i ≠ 13 → i ≠ 18 → i ≠ 19 → (f_M_sends τ s e).2 i = τ i) ∧ (∀ p, (f_M_sends τ s e).2 18 p = if p = (τ 13 32).toNatClampNeg then s else τ 18 p) ∧ (∀ p, (f_M_sends τ s e).2 19 p = if p = (τ 13 32).toNatClampNeg then e else τ 19 p) ∧ (∀ j, (f_M_sends τ s e).2 13 j = if j = 32 then τ 13 32 + 1 else if j = 21 then τ 13 21 + 1 else if j = 4 then zmx (τ 13 4) (τ 13 3) else if j = 22 then (if τ 13 4 ≤ s then τ 13 22 else τ 13 22 + 1) else if j = 16 then (if τ 13 4 ≤ s ∧ τ 13 16 = -1 then e else τ 13 16) else if j = 17 then (if τ 13 4 ≤ s ∧ τ 13 16 = -1 then τ 13 1 else τ 13 17) else if j = 15 then (if τ 13 15 = -1 then τ 13 1 + τ 13 14 else τ 13 15) else τ 13 j) := by
  unfold f_M_sends
  dsimp only [zlet]
  simp only [zgreater]
  by_cases c1 : τ 13 4 ≤ s
  · by_cases c2 : τ 13 16 = -1
    · by_cases c3 : τ 13 15 = -1
      · refine ⟨by simp [c1, c2, c3], fun i q1 q2 q3 => by simp [zuf_ne, c1, c2, c3, q1, q2, q3], fun p => by simp [zuf_at, c1, c2, c3], fun p => by simp [zuf_at, c1, c2, c3], fun j => ?_⟩
        by_cases j32 : j = 32
        · subst j32; simp [zuf_at, c1, c2, c3]
        · by_cases j21 : j = 21
          · subst j21; simp [zuf_at, c1, c2, c3]
          · by_cases j4 : j = 4
            · subst j4; simp [zuf_at, c1, c2, c3]
            · by_cases j22 : j = 22
              · subst j22; simp [zuf_at, c1, c2, c3]
              · by_cases j16 : j = 16
                · subst j16; simp [zuf_at, c1, c2, c3]
                · by_cases j17 : j = 17
                  · subst j17; simp [zuf_at, c1, c2, c3]
                  · by_cases j15 : j = 15
                    · subst j15; simp [zuf_at, c1, c2, c3]
                    · simp [zuf_at, c1, c2, c3, j32, j21, j4, j22, j16, j17, j15]
      · refine ⟨by simp [c1, c2, c3], fun i q1 q2 q3 => by simp [zuf_ne, c1, c2, c3, q1, q2, q3], fun p => by simp [zuf_at, c1, c2, c3], fun p => by simp [zuf_at, c1, c2, c3], fun j => ?_⟩
        by_cases j32 : j = 32
        · subst j32; simp [zuf_at, c1, c2, c3]
        · by_cases j21 : j = 21
          · subst j21; simp [zuf_at, c1, c2, c3]
          · by_cases j4 : j = 4
            · subst j4; simp [zuf_at, c1, c2, c3]
            · by_cases j22 : j = 22
              · subst j22; simp [zuf_at, c1, c2, c3]
              · by_cases j16 : j = 16
                · subst j16; simp [zuf_at, c1, c2, c3]
                · by_cases j17 : j = 17
                  · subst j17; simp [zuf_at, c1, c2, c3]
                  · by_cases j15 : j = 15
                    · subst j15; simp [zuf_at, c1, c2, c3]
                    · simp [zuf_at, c1, c2, c3, j32, j21, j4, j22, j16, j17, j15]
    · by_cases c3 : τ 13 15 = -1
      · refine ⟨by simp [c1, c2, c3], fun i q1 q2 q3 => by simp [zuf_ne, c1, c2, c3, q1, q2, q3], fun p => by simp [zuf_at, c1, c2, c3], fun p => by simp [zuf_at, c1, c2, c3], fun j => ?_⟩
        by_cases j32 : j = 32
        · subst j32; simp [zuf_at, c1, c2, c3]
        · by_cases j21 : j = 21
          · subst j21; simp [zuf_at, c1, c2, c3]
          · by_cases j4 : j = 4
            · subst j4; simp [zuf_at, c1, c2, c3]
            · by_cases j22 : j = 22
              · subst j22; simp [zuf_at, c1, c2, c3]
              · by_cases j16 : j = 16
                · subst j16; simp [zuf_at, c1, c2, c3]
                · by_cases j17 : j = 17
                  · subst j17; simp [zuf_at, c1, c2, c3]
                  · by_cases j15 : j = 15
                    · subst j15; simp [zuf_at, c1, c2, c3]
                    · simp [zuf_at, c1, c2, c3, j32, j21, j4, j22, j16, j17, j15]
      · refine ⟨by simp [c1, c2, c3], fun i q1 q2 q3 => by simp [zuf_ne, c1, c2, c3, q1, q2, q3], fun p => by simp [zuf_at, c1, c2, c3], fun p => by simp [zuf_at, c1, c2, c3], fun j => ?_⟩
        by_cases j32 : j = 32
        · subst j32; simp [zuf_at, c1, c2, c3]
        · by_cases j21 : j = 21
          · subst j21; simp [zuf_at, c1, c2, c3]
          · by_cases j4 : j = 4
            · subst j4; simp [zuf_at, c1, c2, c3]
            · by_cases j22 : j = 22
              · subst j22; simp [zuf_at, c1, c2, c3]
              · by_cases j16 : j = 16
                · subst j16; simp [zuf_at, c1, c2, c3]
                · by_cases j17 : j = 17
                  · subst j17; simp [zuf_at, c1, c2, c3]
                  · by_cases j15 : j = 15
                    · subst j15; simp [zuf_at, c1, c2, c3]
                    · simp [zuf_at, c1, c2, c3, j32, j21, j4, j22, j16, j17, j15]
  · by_cases c3 : τ 13 15 = -1
    · refine ⟨by simp [c1, c3], fun i q1 q2 q3 => by simp [zuf_ne, c1, c3, q1, q2, q3], fun p => by simp [zuf_at, c1, c3], fun p => by simp [zuf_at, c1, c3], fun j => ?_⟩
      by_cases j32 : j = 32
      · subst j32; simp [zuf_at, c1, c3]
      · by_cases j21 : j = 21
        · subst j21; simp [zuf_at, c1, c3]
        · by_cases j4 : j = 4
          · subst j4; simp [zuf_at, c1, c3]
          · by_cases j22 : j = 22
            · subst j22; simp [zuf_at, c1, c3]
            · by_cases j16 : j = 16
              · subst j16; simp [zuf_at, c1, c3]
              · by_cases j17 : j = 17
                · subst j17; simp [zuf_at, c1, c3]
                · by_cases j15 : j = 15
                  · subst j15; simp [zuf_at, c1, c3]
                  · simp [zuf_at, c1, c3, j32, j21, j4, j22, j16, j17, j15]
    · refine ⟨by simp [c1, c3], fun i q1 q2 q3 => by simp [zuf_ne, c1, c3, q1, q2, q3], fun p => by simp [zuf_at, c1, c3], fun p => by simp [zuf_at, c1, c3], fun j => ?_⟩
      by_cases j32 : j = 32
      · subst j32; simp [zuf_at, c1, c3]
      · by_cases j21 : j = 21
        · subst j21; simp [zuf_at, c1, c3]
        · by_cases j4 : j = 4
          · subst j4; simp [zuf_at, c1, c3]
          · by_cases j22 : j = 22
            · subst j22; simp [zuf_at, c1, c3]
            · by_cases j16 : j = 16
              · subst j16; simp [zuf_at, c1, c3]
              · by_cases j17 : j = 17
                · subst j17; simp [zuf_at, c1, c3]
                · by_cases j15 : j = 15
                  · subst j15; simp [zuf_at, c1, c3]
                  · simp [zuf_at, c1, c3, j32, j21, j4, j22, j16, j17, j15]
