/-! ===== the day taken over; day ===== -/
def tkF (τ τ' : SX) : Prop := gF τ' 0 8 = -9 ∧ gF τ' 0 24 = 0 ∧ (∀ j, j ≠ 8 → j ≠ 9 → j ≠ 24 → gF τ' 0 j = gF τ 0 j)
theorem take3 {O : Nat} (hO : O ≤ 6) : ∀ (r i n : Nat) (τ : SX), i + r = O → r < n → gF τ 0 7 = nI O → (∀ j, j < i → gR τ 7 j = gR τ 12 (3 * j) ∧ gR τ 8 j = gR τ 12 (3 * j + 1) ∧ gR τ 9 j = gR τ 12 (3 * j + 2)) → ∃ τ', f_X5_takeDay_L100 n τ (nI i) = some ((), τ') ∧ (∀ j, j < O → gR τ' 7 j = gR τ 12 (3 * j) ∧ gR τ' 8 j = gR τ 12 (3 * j + 1) ∧ gR τ' 9 j = gR τ 12 (3 * j + 2)) ∧ (∀ c, (c < 7 ∨ 9 < c) → gR τ' c = gR τ c) ∧ tkF τ τ' := by
  intro r
  induction r with
  | zero =>
    intro i n τ hi hn h7 hr
    obtain ⟨n, rfl⟩ : ∃ z, n = z + 1 := ⟨n - 1, by omega⟩
    have : i = O := by omega
    subst this
    rw [f_X5_takeDay_L100, h7, if_pos (by rw [le_nI (by omega) (by omega)]; omega)]
    refine ⟨_, rfl, hr, fun _ _ => rfl, ?_, ?_, fun j h1 h2 h3 => ?_⟩
    · rw [gF_sF, if_neg (by decide), gF_sF, if_neg (by decide), gF_here]
    · rw [gF_here]
    · rw [gF_sF, if_neg (by omega), gF_sF, if_neg (by omega), gF_sF, if_neg (by omega)]
  | succ r ih =>
    intro i n τ hi hn h7 hr
    obtain ⟨n, rfl⟩ : ∃ z, n = z + 1 := ⟨n - 1, by omega⟩
    have o0 : ∀ w : Option (Unit × SX), oin (nI i) 6 w = w := fun w => oin_nI w (by omega) (by decide)
    have o1 : ∀ w : Option (Unit × SX), oin (nI (3 * i)) 18 w = w := fun w => oin_nI w (by omega) (by decide)
    have o2 : ∀ w : Option (Unit × SX), oin (nI (3 * i + 1)) 18 w = w := fun w => oin_nI w (by omega) (by decide)
    have o3 : ∀ w : Option (Unit × SX), oin (nI (3 * i + 2)) 18 w = w := fun w => oin_nI w (by omega) (by decide)
    rw [f_X5_takeDay_L100, h7, if_neg (by rw [le_nI (by omega) (by omega)]; omega)]
    simp only [mul3, nI_1, add2, o0, o1, o2, o3, cl i (by omega), cl (3 * i) (by omega), cl (3 * i + 1) (by omega), cl (3 * i + 2) (by omega), gR_sR, show ¬ (12 : Nat) = 7 by decide, show ¬ (12 : Nat) = 8 by decide, show ¬ (8 : Nat) = 7 by decide, show ¬ (9 : Nat) = 7 by decide, show ¬ (9 : Nat) = 8 by decide, ↓reduceIte]
    obtain ⟨τ', g1, g2, g3, g4⟩ := ih (i + 1) n (sR (sR (sR τ 7 (upd (gR τ 7) i (gR τ 12 (3 * i)))) 8 (upd (gR τ 8) i (gR τ 12 (3 * i + 1)))) 9 (upd (gR τ 9) i (gR τ 12 (3 * i + 2)))) (by omega) (by omega) h7 (fun j hj => by
      simp only [gR_sR, show ¬ (12 : Nat) = 7 by decide, show ¬ (12 : Nat) = 8 by decide, show ¬ (12 : Nat) = 9 by decide, show ¬ (7 : Nat) = 8 by decide, show ¬ (7 : Nat) = 9 by decide, show ¬ (8 : Nat) = 9 by decide, ↓reduceIte, upd_at]
      by_cases c : j = i
      · rw [if_pos c, if_pos c, if_pos c, c]; exact ⟨rfl, rfl, rfl⟩
      · simp only [if_neg c]; exact hr j (by omega))
    refine ⟨τ', g1, fun j hj => ?_, fun c hc => ?_, g4⟩
    · have := g2 j hj
      simp only [gR_sR, show ¬ (12 : Nat) = 7 by decide, show ¬ (12 : Nat) = 8 by decide, show ¬ (12 : Nat) = 9 by decide, ↓reduceIte] at this
      exact this
    · rw [g3 c hc, gR_sR, if_neg (by omega), gR_sR, if_neg (by omega), gR_sR, if_neg (by omega)]
theorem take2 {S O : Nat} (hS : S ≤ 4) (hO : O ≤ 6) : ∀ (r i n : Nat) (τ : SX), i + r = S → r < n → gF τ 0 6 = nI S → gF τ 0 7 = nI O → (∀ j, j < i → gR τ 5 j = gR τ 11 (2 * j) ∧ gR τ 6 j = gR τ 11 (2 * j + 1)) → ∃ τ', f_X5_takeDay_L54 n τ (nI i) = some ((), τ') ∧ (∀ j, j < S → gR τ' 5 j = gR τ 11 (2 * j) ∧ gR τ' 6 j = gR τ 11 (2 * j + 1)) ∧ (∀ j, j < O → gR τ' 7 j = gR τ 12 (3 * j) ∧ gR τ' 8 j = gR τ 12 (3 * j + 1) ∧ gR τ' 9 j = gR τ 12 (3 * j + 2)) ∧ (∀ c, (c < 5 ∨ 9 < c) → gR τ' c = gR τ c) ∧ tkF τ τ' := by
  intro r
  induction r with
  | zero =>
    intro i n τ hi hn h6 h7 hr
    obtain ⟨n, rfl⟩ : ∃ z, n = z + 1 := ⟨n - 1, by omega⟩
    have : i = S := by omega
    subst this
    rw [f_X5_takeDay_L54, h6, if_pos (by rw [le_nI (by omega) (by omega)]; omega)]
    obtain ⟨τ', g1, g2, g3, g4⟩ := take3 hO O 0 100 τ (by omega) (by omega) h7 (fun j hj => absurd hj (Nat.not_lt_zero _))
    refine ⟨τ', g1, fun j hj => ?_, g2, fun c hc => g3 c (by omega), g4⟩
    rw [g3 5 (by omega), g3 6 (by omega)]; exact hr j hj
  | succ r ih =>
    intro i n τ hi hn h6 h7 hr
    obtain ⟨n, rfl⟩ : ∃ z, n = z + 1 := ⟨n - 1, by omega⟩
    have o0 : ∀ w : Option (Unit × SX), oin (nI i) 4 w = w := fun w => oin_nI w (by omega) (by decide)
    have o1 : ∀ w : Option (Unit × SX), oin (nI (2 * i)) 8 w = w := fun w => oin_nI w (by omega) (by decide)
    have o2 : ∀ w : Option (Unit × SX), oin (nI (2 * i + 1)) 8 w = w := fun w => oin_nI w (by omega) (by decide)
    rw [f_X5_takeDay_L54, h6, if_neg (by rw [le_nI (by omega) (by omega)]; omega)]
    simp only [mul2, nI_1, o0, o1, o2, cl i (by omega), cl (2 * i) (by omega), cl (2 * i + 1) (by omega), gR_sR, show ¬ (11 : Nat) = 5 by decide, show ¬ (6 : Nat) = 5 by decide, ↓reduceIte]
    obtain ⟨τ', g1, g2, g2', g3, g4⟩ := ih (i + 1) n (sR (sR τ 5 (upd (gR τ 5) i (gR τ 11 (2 * i)))) 6 (upd (gR τ 6) i (gR τ 11 (2 * i + 1)))) (by omega) (by omega) h6 h7 (fun j hj => by
      simp only [gR_sR, show ¬ (11 : Nat) = 5 by decide, show ¬ (11 : Nat) = 6 by decide, show ¬ (5 : Nat) = 6 by decide, ↓reduceIte, upd_at]
      by_cases c : j = i
      · rw [if_pos c, if_pos c, c]; exact ⟨rfl, rfl⟩
      · simp only [if_neg c]; exact hr j (by omega))
    refine ⟨τ', g1, fun j hj => ?_, fun j hj => ?_, fun c hc => ?_, g4⟩
    · have := g2 j hj
      simp only [gR_sR, show ¬ (11 : Nat) = 5 by decide, show ¬ (11 : Nat) = 6 by decide, ↓reduceIte] at this
      exact this
    · have := g2' j hj
      simp only [gR_sR, show ¬ (12 : Nat) = 5 by decide, show ¬ (12 : Nat) = 6 by decide, ↓reduceIte] at this
      exact this
    · rw [g3 c hc, gR_sR, if_neg (by omega), gR_sR, if_neg (by omega)]
theorem take1 {H S O : Nat} (hH : H ≤ 6) (hS : S ≤ 4) (hO : O ≤ 6) : ∀ (r i n : Nat) (τ : SX), i + r = H → r < n → gF τ 0 5 = nI H → gF τ 0 6 = nI S → gF τ 0 7 = nI O → (∀ j, j < i → gR τ 4 j = gR τ 10 j) → ∃ τ', f_X5_takeDay_L26 n τ (nI i) = some ((), τ') ∧ (∀ j, j < H → gR τ' 4 j = gR τ 10 j) ∧ (∀ j, j < S → gR τ' 5 j = gR τ 11 (2 * j) ∧ gR τ' 6 j = gR τ 11 (2 * j + 1)) ∧ (∀ j, j < O → gR τ' 7 j = gR τ 12 (3 * j) ∧ gR τ' 8 j = gR τ 12 (3 * j + 1) ∧ gR τ' 9 j = gR τ 12 (3 * j + 2)) ∧ (∀ c, (c < 4 ∨ 9 < c) → gR τ' c = gR τ c) ∧ tkF τ τ' := by
  intro r
  induction r with
  | zero =>
    intro i n τ hi hn h5 h6 h7 hr
    obtain ⟨n, rfl⟩ : ∃ z, n = z + 1 := ⟨n - 1, by omega⟩
    have : i = H := by omega
    subst this
    rw [f_X5_takeDay_L26, h5, if_pos (by rw [le_nI (by omega) (by omega)]; omega)]
    obtain ⟨τ', g1, g2, g2', g3, g4⟩ := take2 hS hO S 0 100 τ (by omega) (by omega) h6 h7 (fun j hj => absurd hj (Nat.not_lt_zero _))
    refine ⟨τ', g1, fun j hj => ?_, g2, g2', fun c hc => g3 c (by omega), g4⟩
    rw [g3 4 (by omega)]; exact hr j hj
  | succ r ih =>
    intro i n τ hi hn h5 h6 h7 hr
    obtain ⟨n, rfl⟩ : ∃ z, n = z + 1 := ⟨n - 1, by omega⟩
    rw [f_X5_takeDay_L26, h5, if_neg (by rw [le_nI (by omega) (by omega)]; omega), oin_nI _ (by omega) (by decide), oin_nI _ (by omega) (by decide), cl i (by omega), nI_1]
    obtain ⟨τ', g1, g2, g2', g2'', g3, g4⟩ := ih (i + 1) n (sR τ 4 (upd (gR τ 4) i (gR τ 10 i))) (by omega) (by omega) h5 h6 h7 (fun j hj => by
      rw [gR_sR, if_pos rfl, gR_sR, if_neg (by decide), upd_at]
      by_cases c : j = i
      · rw [if_pos c, c]
      · rw [if_neg c]; exact hr j (by omega))
    refine ⟨τ', g1, fun j hj => ?_, fun j hj => ?_, fun j hj => ?_, fun c hc => ?_, g4⟩
    · have := g2 j hj
      rw [gR_sR, if_neg (by decide)] at this
      exact this
    · have := g2' j hj
      rw [gR_sR, if_neg (by decide)] at this
      exact this
    · have := g2'' j hj
      rw [gR_sR, if_neg (by decide)] at this
      exact this
    · rw [g3 c hc, gR_sR, if_neg (by omega)]
theorem M_take {τ : SX} {D : DV} (R : RM τ D) (ok : dOk D) (hv : dV D = none) : ∃ τ', f_X5_takeDay τ = some ((), τ') ∧ DM τ' D ∧ gF τ' 0 24 = 0 ∧ (∀ j, j < 5 → gF τ' 0 j = gF τ 0 j) ∧ (∀ c, (c < 4 ∨ 9 < c) → gR τ' c = gR τ c) := by
  obtain ⟨h1, h2, h3, h4, h5, h6⟩ := R
  unfold f_X5_takeDay
  obtain ⟨τ', g1, g2, g3, g4, g5, g6, g7, g8⟩ := take1 ok.1 ok.2.1 ok.2.2.1 (dH D) 0 100 (sF (sF (sF τ 0 5 (gF τ 0 17)) 0 6 (gF (sF τ 0 5 (gF τ 0 17)) 0 18)) 0 7 (gF (sF (sF τ 0 5 (gF τ 0 17)) 0 6 (gF (sF τ 0 5 (gF τ 0 17)) 0 18)) 0 19)) (by omega) (by have := ok.1; omega) (by simp [gF_sF, h1]) (by simp [gF_sF, h2]) (by simp [gF_sF, h3]) (fun j hj => absurd hj (Nat.not_lt_zero _))
  refine ⟨τ', g1, ⟨?_, ?_, ?_, ?_, fun j hj => ?_, fun j hj => ?_, fun j hj => ?_⟩, g7, fun j hj => ?_, g5⟩
  · rw [g8 5 (by decide) (by decide) (by decide)]; simp [gF_sF, h1]
  · rw [g8 6 (by decide) (by decide) (by decide)]; simp [gF_sF, h2]
  · rw [g8 7 (by decide) (by decide) (by decide)]; simp [gF_sF, h3]
  · rw [hv]; exact g6
  · rw [g2 j hj]; exact h4 j hj
  · rw [(g3 j hj).1, (g3 j hj).2]; exact h5 j hj
  · rw [(g4 j hj).1, (g4 j hj).2.1, (g4 j hj).2.2]; exact h6 j hj
  · rw [g8 j (by omega) (by omega) (by omega), gF_sF, if_neg (by omega), gF_sF, if_neg (by omega), gF_sF, if_neg (by omega)]
theorem reads_ok {f : Nat → Int32} {k z a m : Nat} {σ0 τ0 : SX} (T : TX f k z a m σ0 τ0) : BP (rP k a m σ0 τ0) (f_X1_reads (sF (sF (sF σ0 24 2 (nI a)) 24 3 (nI m)) 24 0 0) (2 + 2 * k) 17) (f_X5_readDay (sF τ0 0 16 (nI (60 * k + a))) (nI (60 * k + a + m))) := by
  obtain ⟨σ', g1, g2, g3, g4⟩ := X_clear (σ := sF (sF (sF σ0 24 2 (nI a)) 24 3 (nI m)) 24 0 0)
  have P : PXM k a m 0 σ0 τ0 σ' (sF (sF (sF (sF τ0 0 16 (nI (60 * k + a))) 0 17 0) 0 18 0) 0 19 0) := by
    refine ⟨Nat.zero_le _, ⟨?_, ?_, ?_⟩, ?_, ?_, ?_⟩
    · rw [g3 24 0 (by decide), gF_here]; rfl
    · rw [g3 24 2 (by decide), gF_sF, if_neg (by decide), gF_sF, if_neg (by decide), gF_here]
    · rw [g3 24 3 (by decide), gF_sF, if_neg (by decide), gF_here]
    · exact ((FD_sF (by omega)).trans ((FD_sF (by omega)).trans (FD_sF (by omega)))).trans (FD_off g3 (fun c _ => g4 c))
    · rw [gF_sF, if_neg (by decide), gF_sF, if_neg (by decide), gF_sF, if_neg (by decide), gF_here]; rfl
    · exact (FR_sF (by omega)).trans ((FR_sF (by omega)).trans ((FR_sF (by omega)).trans (FR_sF (by omega))))
  have V : VW d0 σ' (sF (sF (sF (sF τ0 0 16 (nI (60 * k + a))) 0 17 0) 0 18 0) 0 19 0) := by
    refine ⟨⟨by decide, by decide, by decide, fun j hj => absurd hj (Nat.not_lt_zero _), fun j hj => absurd hj (Nat.not_lt_zero _), fun j hj => absurd hj (Nat.not_lt_zero _), fun z hz => by cases hz⟩, rfl, g2, ?_, ?_, ?_, fun j hj => absurd hj (Nat.not_lt_zero _), fun j hj => absurd hj (Nat.not_lt_zero _), fun j hj => absurd hj (Nat.not_lt_zero _)⟩
    · rw [gF_sF, if_neg (by decide), gF_sF, if_neg (by decide), gF_here]; rfl
    · rw [gF_sF, if_neg (by decide), gF_here]; rfl
    · rw [gF_here]; rfl
  unfold f_X1_reads f_X5_readDay
  rw [g1, ob2_some]
  by_cases h : 0 < m ∧ f (a + 0) = 111
  · rw [X_pass_y T P h.1 h.2, M_sign_y T P h.1 h.2, ob2_some, ob2_some, if_neg one0, if_neg one0]
    unfold f_X1_readsHours
    refine hours_ok T (K := fun r_15 s_15 => if r_15 = 0 then (some ((0 : Int32), s_15)) else (ob2 (f_X1_readsSwearers s_15 (2 + 2 * k) 17) (fun r_23 s_23 => if r_23 = 0 then (some ((0 : Int32), s_23)) else (ob2 (f_X1_readsOaths s_23 (2 + 2 * k) 17) (fun r_31 s_31 => if r_31 = 0 then (some ((0 : Int32), s_31)) else (if (gF s_31 24 0) = (gF s_31 24 3) then (some ((1 : Int32), s_31)) else (some ((0 : Int32), s_31)))))))) (fun s => if_pos rfl) (fun p D σ τ P V eH eS eO => ?_) 5 0 100 100 (0 + 1) d0 _ _ (by decide) (by decide) (by decide) (P.go h.1) (V.go _ _) rfl rfl rfl
    show BP (rP k a m σ0 τ0) (if (1 : Int32) = 0 then _ else _) _
    rw [if_neg one0]
    unfold f_X1_readsSwearers
    refine swr_ok T (K := fun r_23 s_23 => if r_23 = 0 then (some ((0 : Int32), s_23)) else (ob2 (f_X1_readsOaths s_23 (2 + 2 * k) 17) (fun r_31 s_31 => if r_31 = 0 then (some ((0 : Int32), s_31)) else (if (gF s_31 24 0) = (gF s_31 24 3) then (some ((1 : Int32), s_31)) else (some ((0 : Int32), s_31)))))) (fun s => if_pos rfl) (fun p D σ τ P V eH eS eO => ?_) 4 0 100 100 p D _ _ (by decide) (by decide) (by decide) P V eS eH eO
    show BP (rP k a m σ0 τ0) (if (1 : Int32) = 0 then _ else _) _
    rw [if_neg one0]
    unfold f_X1_readsOaths
    exact oath_ok T (K := fun r_31 s_31 => if r_31 = 0 then (some ((0 : Int32), s_31)) else (if (gF s_31 24 0) = (gF s_31 24 3) then (some ((1 : Int32), s_31)) else (some ((0 : Int32), s_31)))) (fun s => if_pos rfl) (fun s => if_neg one0) 6 0 100 100 p D _ _ (by decide) (by decide) (by decide) P V eO eH eS
  · rw [X_pass_n T P h, M_sign_n T P h, ob2_some, ob2_some, if_pos rfl, if_pos rfl]
    exact rP_no P
theorem FR.fm {a b : SX} (h : FR a b) : FM a b := ⟨fun j q => h.1 j (by omega), fun c q => h.2 c (by omega)⟩
theorem FR.dm {a b : SX} {d : DV} (h : FR a b) (hd : DM a d) : DM b d := by
  unfold DM
  rw [h.1 5 (by omega), h.1 6 (by omega), h.1 7 (by omega), h.1 8 (by omega), h.1 9 (by omega), h.2 4 (by omega), h.2 5 (by omega), h.2 6 (by omega), h.2 7 (by omega), h.2 8 (by omega), h.2 9 (by omega)]
  exact hd
theorem day_read {d : DV} {e : RD} {q : SHT} {tr ft : Int32} {σ τ : SX} (hA : RelA d e q tr ft σ τ) {k z a m : Nat} (T : TX (q.2 k) k z a m σ τ) : BP (PR Rel) (ob2 (f_X1_open σ (2 + 2 * k) (nI a) (nI m)) (fun r_93 s_93 => ob2 (f_X1_reads s_93 (2 + 2 * k) 17) (fun r_104 s_104 => if r_104 = 0 then (some (-100 - (gF s_104 24 0), s_104)) else (ob2 (f_X0_become s_104 10 17) (fun r_129 s_129 => some (gF (sF s_129 25 0 0) 10 1, sF s_129 25 0 0)))))) (ob2 (f_X5_readDay (sF τ 0 16 (nI (60 * k + a))) (nI (60 * k + a + m))) (fun r_67 s_67 => if r_67 = 0 then (some (-100 - ((gF s_67 0 16) - (nI (60 * k + a))), s_67)) else (ob2 (f_X5_takeDay s_67) (fun r_85 s_85 => some (gF s_85 0 6, s_85))))) := by
  have hA0 := hA
  obtain ⟨⟨ok, h0⟩, hx, hm, ⟨eo, ex, em⟩, ⟨qo, qx, qm⟩, ⟨u1, u2⟩, f1, f2⟩ := hA
  unfold f_X1_open
  rw [ob2_some]
  obtain ⟨⟨r, s⟩, ⟨r', s'⟩, a1, a2, a3, p, P, a4⟩ := reads_ok T
  cases a3
  rw [a1, a2, ob2_some, ob2_some]
  obtain ⟨q1, ⟨q2, q3, q4⟩, fd, q6, fr⟩ := P
  rcases a4 with c | ⟨c, D, V, eH, eS⟩
  · rw [if_pos c, if_pos c]
    refine BP.ret ⟨?_, (hA0.draft fd (fr.dm hm) fr.fm).rel⟩
    show -100 - gF s 24 0 = -100 - (gF s' 0 16 - nI (60 * k + a))
    rw [q2, q6, pk_sub (by omega), show 60 * k + a + p - (60 * k + a) = p by omega]
  · have c0 : ¬ r = 0 := by rw [show r = 1 from c]; exact one0
    rw [if_neg c0, if_neg c0]
    obtain ⟨vo, vv, vx, vm⟩ := V
    obtain ⟨σ', g1, g2, g3, g4⟩ := X_become (Or.inr ⟨rfl, rfl⟩) vx vo
    obtain ⟨τ', k1, k2, k3, k4, k5⟩ := M_take vm vo vv
    rw [g1, k1, ob2_some, ob2_some]
    have w1 : gF (sF σ' 25 0 0) 10 1 = nI (dS D) := by rw [gF_sF, if_neg (by decide)]; exact g2.2.1
    refine BP.ret ⟨w1.trans k2.2.1.symm, D, (0, e.2), q, tr, ft, ⟨vo, by omega⟩, DX_sF (by decide) g2, k2, ⟨⟨Nat.zero_le _, fun j hj => absurd hj (Nat.not_lt_zero _)⟩, ⟨?_, fun j hj => absurd hj (Nat.not_lt_zero _)⟩, ⟨?_, fun j hj => absurd hj (Nat.not_lt_zero _)⟩⟩, ⟨qo, fun j hj => ?_, fun j hj => ?_⟩, ⟨?_, ?_⟩, ?_, ?_⟩
    · show gF (sF σ' 25 0 0) 25 0 = nI 0
      rw [gF_here]; rfl
    · exact k3
    · have b1 : ∀ i, gF (sF σ' 25 0 0) (2 + 2 * j) i = gF σ (2 + 2 * j) i := fun i => by rw [gF_sF, if_neg (by omega), g3 _ _ (by omega), fd.1 _ _ (by omega)]
      have b2 : gR (sF σ' 25 0 0) (2 + 2 * j + 1) = gR σ (2 + 2 * j + 1) := by rw [gR_sF, g4 _ (by omega), fd.2 _ (by omega)]
      show shX (gF (sF σ' 25 0 0) (2 + 2 * j) 0) (gF (sF σ' 25 0 0) (2 + 2 * j) 1) (gF (sF σ' 25 0 0) (2 + 2 * j) 3) (q.1 j) ∧ ∀ i, i < 60 → gR (sF σ' 25 0 0) (2 + 2 * j + 1) i = q.2 j i
      rw [b1, b1, b1, b2]
      exact qx j hj
    · show shM (gR τ' 1 j) (gR τ' 2 j) (q.1 j) ∧ ∀ i, i < 60 → gR τ' 3 (60 * j + i) = q.2 j i
      rw [k5 1 (by omega), k5 2 (by omega), k5 3 (by omega), fr.2 1 (by omega), fr.2 2 (by omega), fr.2 3 (by omega)]
      exact qm j hj
    · show gF (sF σ' 25 0 0) 0 5 = tr
      rw [gF_sF, if_neg (by decide), g3 _ _ (by decide), fd.1 _ _ (by decide)]; exact u1
    · show gF τ' 0 1 = tr
      rw [k4 1 (by decide), fr.1 1 (by decide)]; exact u2
    · show gF (sF σ' 25 0 0) 0 6 = ft
      rw [gF_sF, if_neg (by decide), g3 _ _ (by decide), fd.1 _ _ (by decide)]; exact f1
    · show gF τ' 0 0 = ft
      rw [k4 0 (by decide), fr.1 0 (by decide)]; exact f2
theorem Sim_day_ok : Sim_day Rel := by
  intro σ τ hR x1 x2 x3 x4
  obtain ⟨d, e, q, tr, ft, hA⟩ := hR
  have hA1 := hA.ft 0
  have hA0 := hA1
  obtain ⟨⟨ok, h0⟩, hx, hm, -, ⟨qo, qx, qm⟩, -⟩ := hA1
  have e1' : ∀ k : Int32 → Option (Int32 × SX), ob1 (some (1 : Int32)) k = k 1 := fun _ => rfl
  have e0 : ∀ k : Int32 → Option (Int32 × SX), ob1 (some (0 : Int32)) k = k 0 := fun _ => rfl
  refine BP.rwR ?_
  unfold f_X4_day f_X5_day
  generalize hs1 : sF σ 0 6 0 = σ1 at *
  generalize ht1 : sF τ 0 0 0 = τ1 at *
  refine bp_sheet (BP.ret ⟨rfl, hA0.rel⟩) (fun k hk e1 => ?_)
  rw [if_neg one0, if_neg one0]
  refine bp_lane (BP.ret ⟨rfl, hA0.rel⟩) (fun l hl e2 => ?_)
  rw [if_neg one0, if_neg one0, e1, oin_nI _ hk (by decide), cl k (by omega)]
  have kx := (qx k hk).1
  have km := (qm k hk).1
  unfold f_X3_faultAs
  cases hq : q.1 k with
  | none =>
    rw [hq] at kx km
    rw [show gF σ1 (2 + 2 * k) 0 = 0 from kx, M_ag1 hk km, if_pos rfl]
    exact BP.ret ⟨rfl, (hA0.ft 1).rel⟩
  | some z =>
    rw [hq] at kx km
    obtain ⟨hz1, hz2⟩ := qo k hk z hq
    rw [kx.1, kx.2.1, if_neg one0]
    by_cases cl : nI z.1 = x2
    · rw [if_pos cl, e0, if_pos (show (0 : Int32) = 0 from rfl), M_ag hk hz1 km.1 km.2 cl]
      by_cases c4 : 0 ≤ x4
      · rw [if_pos c4, if_pos c4, if_pos (show (0 : Int32) = 0 from rfl)]
        rcases ag_cells hz2 x3 x4 (Int32.not_lt.mpr c4) with ⟨a, m, hm1, ea, em, hg⟩ | ⟨hbad, hg⟩
        · rw [hg, ea, em, X_cells_ok kx.2.2 hz2 hm1, e1', if_neg one0, if_pos (show (0 : Int32) = 0 from rfl), e0, if_pos (show (0 : Int32) = 0 from rfl), show (60 : Int32) * nI k + nI a = nI (60 * k + a) from idx60 k a, nI_add]
          exact day_read hA0 ⟨⟨hk, hz2, hm1⟩, kx.2.2, fun i hi => (qx k hk).2 i hi, fun i hi => (qm k hk).2 i hi⟩
        · rw [hg, X_cells_bad kx.2.2 hz2 hbad]
          exact BP.ret ⟨rfl, (hA0.ft 3).rel⟩
      · rw [if_neg c4, if_neg c4]
        exact BP.ret ⟨rfl, (hA0.ft 4).rel⟩
    · rw [if_neg cl, M_ag2 hk hz1 km.1 cl]
      exact BP.ret ⟨rfl, (hA0.ft 2).rel⟩
