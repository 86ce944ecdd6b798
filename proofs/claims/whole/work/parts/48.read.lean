/-! ===== reading a day: hours, swearers, oaths ===== -/
def rP (k a m : Nat) (σ0 τ0 : SX) (w w' : Int32 × SX) : Prop := w.1 = w'.1 ∧ ∃ p, PXM k a m p σ0 τ0 w.2 w'.2 ∧ (w.1 = 0 ∨ (w.1 = 1 ∧ ∃ D, VW D w.2 w'.2 ∧ 0 < dH D ∧ 0 < dS D))
theorem VW.go {D : DV} {σ τ : SX} (h : VW D σ τ) (x y : Int32) : VW D (sF σ 24 0 x) (sF τ 0 16 y) := ⟨h.1, h.2.1, DX_sF (by decide) h.2.2.1, RM_16 h.2.2.2⟩
theorem rP_no {k a m p : Nat} {σ0 τ0 σ τ : SX} (P : PXM k a m p σ0 τ0 σ τ) : BP (rP k a m σ0 τ0) (some (0, σ)) (some (0, τ)) := BP.ret ⟨rfl, p, P, Or.inl rfl⟩
theorem gF_here (σ : SX) (b k : Nat) (v : Int32) : gF (sF σ b k v) b k = v := by rw [gF_sF, if_pos ⟨rfl, rfl⟩]
theorem m9 : ¬ (0 : Int32) ≤ -9 := by decide
theorem n39 (v : Nat) (hv : v < 10) : ¬ nI (48 + v) = (48 : Int32) + (-9) := by
  rw [show (48 : Int32) + (-9) = nI 39 by decide, nI_eq (by omega) (by decide)]; omega
theorem M_hr {τ : SX} {D : DV} (R : RM τ D) (hH : dH D < 6) {v : Nat} (hv : v < 10) (n : Nat) (L : Int32) : f_X5_readDay_L35 (n + 1) τ L (nI v) = if 6 ≤ dH D + 1 then f_X5_readDay_L35 n (sF (sR τ 10 (upd (gR τ 10) (dH D) (nI v))) 0 17 (nI (dH D + 1))) L (-9) else ob2 (f_X5_digit (sF (sR τ 10 (upd (gR τ 10) (dH D) (nI v))) 0 17 (nI (dH D + 1))) L 9) (fun r s => f_X5_readDay_L35 n s L r) := by
  rw [f_X5_readDay_L35, if_neg (neg9' v (by omega)), R.1, oin_nI _ hH (by decide)]
  simp only [gF_sR, R.1, cl (dH D) (by omega), nI_1]
  rw [gF_here]
  by_cases c : 6 ≤ dH D + 1
  · rw [if_pos c, if_pos (show (6 : Int32) ≤ nI (dH D + 1) from (nI_leI (a := 6) (by decide) (by omega)).mpr c)]
  · rw [if_neg c, if_neg (show ¬ (6 : Int32) ≤ nI (dH D + 1) from fun q => c ((nI_leI (a := 6) (by decide) (by omega)).mp q))]
section RDS
variable {f : Nat → Int32} {k z a m : Nat} {σ0 τ0 : SX}
theorem hours_ok (T : TX f k z a m σ0 τ0) {K : Int32 → SX → Option (Int32 × SX)} (hK0 : ∀ s, K 0 s = some (0, s)) (hK1 : ∀ p D σ τ, PXM k a m p σ0 τ0 σ τ → VW D σ τ → 0 < dH D → dS D = 0 → dO D = 0 → BP (rP k a m σ0 τ0) (K 1 σ) (f_X5_readDay_L95 100 τ (nI (60 * k + a + m)) (-9))) :
    ∀ (r j n nM p : Nat) (D : DV) (σ τ : SX), j + (r + 1) = 6 → r + 1 < n → r + 1 < nM → PXM k a m p σ0 τ0 σ τ → VW D σ τ → dH D = j → dS D = 0 → dO D = 0 → BP (rP k a m σ0 τ0) (ob2 (f_X1_readsHours_L2 (2 + 2 * k) 17 n σ (nI j)) K) (ob2 (f_X5_digit τ (nI (60 * k + a + m)) 9) (fun r s => f_X5_readDay_L35 nM s (nI (60 * k + a + m)) r)) := by
  intro r
  induction r with
  | zero =>
    intro j n nM p D σ τ hj hn hM P V eH eS eO
    obtain ⟨n, rfl⟩ : ∃ z, n = z + 2 := ⟨n - 2, by omega⟩
    obtain ⟨nM, rfl⟩ : ∃ z, nM = z + 2 := ⟨nM - 2, by omega⟩
    rw [f_X1_readsHours_L2, if_neg (show ¬ (6 : Int32) ≤ nI j from fun q => by have := (nI_leI (a := 6) (by decide) (by omega)).mp q; omega)]
    by_cases h : p < m ∧ ∃ v, v < 10 ∧ f (a + p) = nI (48 + v)
    · obtain ⟨h1, v, h2, h3⟩ := h
      have ex : f_X1_digitBelow σ (2 + 2 * k) (10 : Int32) (-9 : Int32) = some (nI v, sF σ 24 0 (nI (p + 1))) := (X_dig T P (N := 10) (by decide) h1 h2 h3 (-9)).trans (if_neg (n39 v h2))
      have em : f_X5_digit τ (nI (60 * k + a + m)) 9 = some (nI v, sF τ 0 16 (nI (60 * k + a + (p + 1)))) := M_dig T P (N := 10) (by decide) h1 h2 h3
      have P1 := P.go h1
      have V1 := V.go (nI (p + 1)) (nI (60 * k + a + (p + 1)))
      obtain ⟨σ', g1, g2, g3, g4⟩ := X_addHour V1.2.2.1 (by omega) v
      rw [ex, em, ob2_some, ob2_some, if_pos (nI_ge0 (by omega)), g1, ob2_some, nI_1, M_hr V1.2.2.2 (by omega) h2, if_pos (by omega), f_X1_readsHours_L2, if_pos (show (6 : Int32) ≤ nI (j + 1) from (nI_leI (a := 6) (by decide) (by omega)).mpr (by omega)), g2.1, if_neg (fun q => by have := (nI_le0 (by show dH D + 1 < 2 ^ 31; omega)).mp q; exact absurd this (Nat.succ_ne_zero _)), ob2_some, f_X5_readDay_L35, if_pos rfl, gF_here, if_neg (fun q => by have := (nI_eq0 (by omega)).mp q; omega)]
      exact hK1 (p + 1) (addHo D v) _ _ ((P1.X g3 g4).M ((FR_sR (by omega)).trans (FR_sF (by omega))) (by rw [gF_sF, if_neg (by decide), gF_sR])) ⟨addHo_ok V.1 (by omega) (by omega), V.2.1, g2, RM_hour V1.2.2.2 v⟩ (Nat.succ_pos _) eS eO
    · have ex : f_X1_digitBelow σ (2 + 2 * k) (10 : Int32) (-9 : Int32) = some (-9, σ) := X_dig_n T P (N := 10) (by decide) h (-9)
      have em : f_X5_digit τ (nI (60 * k + a + m)) 9 = some (-9, τ) := M_dig_n T P (N := 10) (by decide) (by decide) h
      rw [ex, em, ob2_some, ob2_some, if_neg m9, V.2.2.1.1, f_X5_readDay_L35, if_pos rfl, V.2.2.2.1, if_neg (fun q => by have := (nI_le0 (by omega)).mp q; omega), if_neg (fun q => by have := (nI_eq0 (by omega)).mp q; omega), ob2_some]
      exact hK1 p D σ τ P V (by omega) eS eO
  | succ r ih =>
    intro j n nM p D σ τ hj hn hM P V eH eS eO
    obtain ⟨n, rfl⟩ : ∃ z, n = z + 1 := ⟨n - 1, by omega⟩
    obtain ⟨nM, rfl⟩ : ∃ z, nM = z + 1 := ⟨nM - 1, by omega⟩
    rw [f_X1_readsHours_L2, if_neg (show ¬ (6 : Int32) ≤ nI j from fun q => by have := (nI_leI (a := 6) (by decide) (by omega)).mp q; omega)]
    by_cases h : p < m ∧ ∃ v, v < 10 ∧ f (a + p) = nI (48 + v)
    · obtain ⟨h1, v, h2, h3⟩ := h
      have ex : f_X1_digitBelow σ (2 + 2 * k) (10 : Int32) (-9 : Int32) = some (nI v, sF σ 24 0 (nI (p + 1))) := (X_dig T P (N := 10) (by decide) h1 h2 h3 (-9)).trans (if_neg (n39 v h2))
      have em : f_X5_digit τ (nI (60 * k + a + m)) 9 = some (nI v, sF τ 0 16 (nI (60 * k + a + (p + 1)))) := M_dig T P (N := 10) (by decide) h1 h2 h3
      have P1 := P.go h1
      have V1 := V.go (nI (p + 1)) (nI (60 * k + a + (p + 1)))
      obtain ⟨σ', g1, g2, g3, g4⟩ := X_addHour V1.2.2.1 (by omega) v
      rw [ex, em, ob2_some, ob2_some, if_pos (nI_ge0 (by omega)), g1, ob2_some, nI_1, M_hr V1.2.2.2 (by omega) h2, if_neg (by omega)]
      exact ih (j + 1) n nM (p + 1) (addHo D v) _ _ (by omega) (by omega) (by omega) ((P1.X g3 g4).M ((FR_sR (by omega)).trans (FR_sF (by omega))) (by rw [gF_sF, if_neg (by decide), gF_sR])) ⟨addHo_ok V.1 (by omega) (by omega), V.2.1, g2, RM_hour V1.2.2.2 v⟩ (congrArg (· + 1) eH) eS eO
    · have ex : f_X1_digitBelow σ (2 + 2 * k) (10 : Int32) (-9 : Int32) = some (-9, σ) := X_dig_n T P (N := 10) (by decide) h (-9)
      have em : f_X5_digit τ (nI (60 * k + a + m)) 9 = some (-9, τ) := M_dig_n T P (N := 10) (by decide) (by decide) h
      rw [ex, em, ob2_some, ob2_some, if_neg m9, V.2.2.1.1, f_X5_readDay_L35, if_pos rfl, V.2.2.2.1]
      by_cases c : dH D = 0
      · rw [if_pos ((nI_le0 (by omega)).mpr c), if_pos ((nI_eq0 (by omega)).mpr c), ob2_some, hK0]
        exact rP_no P
      · rw [if_neg (fun q => c ((nI_le0 (by omega)).mp q)), if_neg (fun q => c ((nI_eq0 (by omega)).mp q)), ob2_some]
        exact hK1 p D σ τ P V (by omega) eS eO
/-- the letter of a kind -/
def kc (q : Nat) : Int32 := if q = 0 then 112 else if q = 1 then 98 else 100
theorem X_kind_y {p : Nat} {σ τ : SX} (T : TX f k z a m σ0 τ0) (P : PXM k a m p σ0 τ0 σ τ) {q : Nat} (hq : q < 3) (h : p < m) (e : f (a + p) = kc q) : f_X1_kindLetter σ (2 + 2 * k) = some (nI q, sF σ 24 0 (nI (p + 1))) := by
  unfold f_X1_kindLetter
  rcases (show q = 0 ∨ q = 1 ∨ q = 2 by omega) with rfl | rfl | rfl
  · rw [X_pass_y T P h (show f (a + p) = 112 from e), ob2_some, if_neg one0]; rfl
  · rw [X_pass_n T P (c := 112) (fun w => absurd (w.2.symm.trans e) (by decide)), ob2_some, if_pos rfl, X_pass_y T P h (show f (a + p) = 98 from e), ob2_some, if_neg one0]; rfl
  · rw [X_pass_n T P (c := 112) (fun w => absurd (w.2.symm.trans e) (by decide)), ob2_some, if_pos rfl, X_pass_n T P (c := 98) (fun w => absurd (w.2.symm.trans e) (by decide)), ob2_some, if_pos rfl, X_pass_y T P h (show f (a + p) = 100 from e), ob2_some, if_neg one0]; rfl
theorem X_kind_n {p : Nat} {σ τ : SX} (T : TX f k z a m σ0 τ0) (P : PXM k a m p σ0 τ0 σ τ) (h : ¬ (p < m ∧ ∃ q, q < 3 ∧ f (a + p) = kc q)) : f_X1_kindLetter σ (2 + 2 * k) = some (-9, σ) := by
  unfold f_X1_kindLetter
  rw [X_pass_n T P (c := 112) (fun w => h ⟨w.1, 0, by decide, w.2⟩), ob2_some, if_pos rfl, X_pass_n T P (c := 98) (fun w => h ⟨w.1, 1, by decide, w.2⟩), ob2_some, if_pos rfl, X_pass_n T P (c := 100) (fun w => h ⟨w.1, 2, by decide, w.2⟩), ob2_some, if_pos rfl]
def swB (σ : SX) (x1 y : Int32) : Option (Int32 × SX) := (oin (2 * (gF σ 0 18)) 8 (oin (2 * (gF σ 0 18)) 8 (if (gR (sR σ 11 (upd (gR σ 11) (2 * (gF σ 0 18)).toNatClampNeg y)) 11 (2 * (gF σ 0 18)).toNatClampNeg) = -9 then (some (0, sR σ 11 (upd (gR σ 11) (2 * (gF σ 0 18)).toNatClampNeg y))) else (ob2 (f_X5_digit (sF (sR σ 11 (upd (gR σ 11) (2 * (gF σ 0 18)).toNatClampNeg y)) 0 16 ((gF (sR σ 11 (upd (gR σ 11) (2 * (gF σ 0 18)).toNatClampNeg y)) 0 16) + 1)) x1 9) (fun r_101 s_101 => oin ((2 * (gF σ 0 18)) + 1) 8 (oin ((2 * (gF σ 0 18)) + 1) 8 (if (gR (sF (sR s_101 11 (upd (gR s_101 11) ((2 * (gF σ 0 18)) + 1).toNatClampNeg r_101)) 0 18 ((gF (sR s_101 11 (upd (gR s_101 11) ((2 * (gF σ 0 18)) + 1).toNatClampNeg r_101)) 0 18) + 1)) 11 ((2 * (gF σ 0 18)) + 1).toNatClampNeg) = -9 then (some (0, sF (sR s_101 11 (upd (gR s_101 11) ((2 * (gF σ 0 18)) + 1).toNatClampNeg r_101)) 0 18 ((gF (sR s_101 11 (upd (gR s_101 11) ((2 * (gF σ 0 18)) + 1).toNatClampNeg r_101)) 0 18) + 1))) else (some (1, sF (sR s_101 11 (upd (gR s_101 11) ((2 * (gF σ 0 18)) + 1).toNatClampNeg r_101)) 0 18 ((gF (sR s_101 11 (upd (gR s_101 11) ((2 * (gF σ 0 18)) + 1).toNatClampNeg r_101)) 0 18) + 1))))))))))
theorem swB_eq (σ : SX) (x1 : Int32) : f_X5_readSwearerNext σ x1 = if x1 ≤ (gF σ 0 16) then (swB σ x1 (-9)) else (oin (gF σ 0 16) 240 (if (gR σ 3 (gF σ 0 16).toNatClampNeg) = 112 then (swB σ x1 0) else (if (gR σ 3 (gF σ 0 16).toNatClampNeg) = 98 then (swB σ x1 1) else (if (gR σ 3 (gF σ 0 16).toNatClampNeg) = 100 then (swB σ x1 2) else (swB σ x1 (-9)))))) := rfl
theorem M_next_y {p : Nat} {σ τ : SX} (T : TX f k z a m σ0 τ0) (P : PXM k a m p σ0 τ0 σ τ) {q : Nat} (hq : q < 3) (h : p < m) (e : f (a + p) = kc q) : f_X5_readSwearerNext τ (nI (60 * k + a + m)) = swB τ (nI (60 * k + a + m)) (nI q) := by
  obtain ⟨⟨t1, t2, t3⟩, t4, t5, t6⟩ := T
  obtain ⟨-, -, -, q6, q7⟩ := P
  rw [swB_eq, q6, if_neg (by rw [le_nI (by omega) (by omega)]; omega), oin_nI _ (by omega) (by decide), cl _ (by omega), q7.2 3 (by omega), show 60 * k + a + p = 60 * k + (a + p) by omega, t6 _ (by omega), e]
  rcases (show q = 0 ∨ q = 1 ∨ q = 2 by omega) with rfl | rfl | rfl
  · rw [if_pos (by decide)]; rfl
  · rw [if_neg (by decide), if_pos (by decide)]; rfl
  · rw [if_neg (by decide), if_neg (by decide), if_pos (by decide)]; rfl
theorem M_next_n {p : Nat} {σ τ : SX} (T : TX f k z a m σ0 τ0) (P : PXM k a m p σ0 τ0 σ τ) (h : ¬ (p < m ∧ ∃ q, q < 3 ∧ f (a + p) = kc q)) : f_X5_readSwearerNext τ (nI (60 * k + a + m)) = swB τ (nI (60 * k + a + m)) (-9) := by
  obtain ⟨⟨t1, t2, t3⟩, t4, t5, t6⟩ := T
  obtain ⟨q1, -, -, q6, q7⟩ := P
  rw [swB_eq, q6]
  by_cases c : p < m
  · rw [if_neg (by rw [le_nI (by omega) (by omega)]; omega), oin_nI _ (by omega) (by decide), cl _ (by omega), q7.2 3 (by omega), show 60 * k + a + p = 60 * k + (a + p) by omega, t6 _ (by omega), if_neg (show ¬ f (a + p) = 112 from fun w => h ⟨c, 0, by decide, w⟩), if_neg (show ¬ f (a + p) = 98 from fun w => h ⟨c, 1, by decide, w⟩), if_neg (show ¬ f (a + p) = 100 from fun w => h ⟨c, 2, by decide, w⟩)]
  · rw [if_pos (by rw [le_nI (by omega) (by omega)]; omega)]
theorem mul2 (j : Nat) : (2 : Int32) * nI j = nI (2 * j) := pk_mul 2 j
theorem mul3 (j : Nat) : (3 : Int32) * nI j = nI (3 * j) := pk_mul 3 j
theorem add2 (j : Nat) : nI j + (2 : Int32) = nI (j + 2) := nI_add j 2
theorem swB_n {τ : SX} {j : Nat} (h18 : gF τ 0 18 = nI j) (hj : j < 4) (L : Int32) : swB τ L (-9) = some (0, sR τ 11 (upd (gR τ 11) (2 * j) (-9))) := by
  have o1 : ∀ w : Option (Int32 × SX), oin (nI (2 * j)) 8 w = w := fun w => oin_nI w (by omega) (by decide)
  unfold swB
  simp only [h18, mul2, o1, cl (2 * j) (by omega), gR_sR, upd_at, ↓reduceIte]
theorem swB_y {τ : SX} {j w q : Nat} (h18 : gF τ 0 18 = nI j) (h16 : gF τ 0 16 = nI w) (hj : j < 4) (hq : q < 3) (L : Int32) : swB τ L (nI q) = ob2 (f_X5_digit (sF (sR τ 11 (upd (gR τ 11) (2 * j) (nI q))) 0 16 (nI (w + 1))) L 9) (fun r s => if r = -9 then some (0, sF (sR s 11 (upd (gR s 11) (2 * j + 1) r)) 0 18 (gF s 0 18 + 1)) else some (1, sF (sR s 11 (upd (gR s 11) (2 * j + 1) r)) 0 18 (gF s 0 18 + 1))) := by
  have o1 : ∀ w : Option (Int32 × SX), oin (nI (2 * j)) 8 w = w := fun w => oin_nI w (by omega) (by decide)
  have o2 : ∀ w : Option (Int32 × SX), oin (nI (2 * j + 1)) 8 w = w := fun w => oin_nI w (by omega) (by decide)
  have hne : ¬ nI q = -9 := neg9' q (by omega)
  unfold swB
  simp only [h18, h16, mul2, nI_1, o1, o2, cl (2 * j) (by omega), cl (2 * j + 1) (by omega), gF_sR, gR_sF, gR_sR, upd_at, hne, ↓reduceIte]
theorem swr_ok (T : TX f k z a m σ0 τ0) {K : Int32 → SX → Option (Int32 × SX)} {y : Int32} (hK0 : ∀ s, K 0 s = some (0, s)) (hK1 : ∀ p D σ τ, PXM k a m p σ0 τ0 σ τ → VW D σ τ → 0 < dH D → 0 < dS D → dO D = 0 → BP (rP k a m σ0 τ0) (K 1 σ) (f_X5_readDay_L152 100 τ (nI (60 * k + a + m)) y)) :
    ∀ (r j n nM p : Nat) (D : DV) (σ τ : SX), j + r = 4 → r < n → r < nM → PXM k a m p σ0 τ0 σ τ → VW D σ τ → dS D = j → 0 < dH D → dO D = 0 → BP (rP k a m σ0 τ0) (ob2 (f_X1_readsSwearers_L2 (2 + 2 * k) 17 n σ (nI j)) K) (f_X5_readDay_L95 nM τ (nI (60 * k + a + m)) y) := by
  have T0 := T
  obtain ⟨⟨t1, t2, t3⟩, t4, t5, t6⟩ := T0
  intro r
  induction r with
  | zero =>
    intro j n nM p D σ τ hj hn hM P V eS eH eO
    obtain ⟨n, rfl⟩ : ∃ z, n = z + 1 := ⟨n - 1, by omega⟩
    obtain ⟨nM, rfl⟩ : ∃ z, nM = z + 1 := ⟨nM - 1, by omega⟩
    rw [f_X1_readsSwearers_L2, if_pos (show (4 : Int32) ≤ nI j from (nI_leI (a := 4) (by decide) (by omega)).mpr (by omega)), V.2.2.1.2.1, if_neg (fun q => by have := (nI_le0 (by omega)).mp q; omega), ob2_some, f_X5_readDay_L95, V.2.2.2.2.1, if_neg (fun q => by have := (nI_eq0 (by omega)).mp q; omega), if_pos (show (4 : Int32) ≤ nI (dS D) from (nI_leI (a := 4) (by decide) (by omega)).mpr (by omega))]
    exact hK1 p D σ τ P V eH (by omega) eO
  | succ r ih =>
    intro j n nM p D σ τ hj hn hM P V eS eH eO
    obtain ⟨n, rfl⟩ : ∃ z, n = z + 1 := ⟨n - 1, by omega⟩
    obtain ⟨nM, rfl⟩ : ∃ z, nM = z + 1 := ⟨nM - 1, by omega⟩
    have q1 := P.1
    have q6 := P.2.2.2.1
    have q7 := P.2.2.2.2
    rw [f_X1_readsSwearers_L2, if_neg (show ¬ (4 : Int32) ≤ nI j from fun q => by have := (nI_leI (a := 4) (by decide) (by omega)).mp q; omega)]
    by_cases h : p < m ∧ f (a + p) = 59
    · obtain ⟨h1, h2⟩ := h
      have P1 := P.go h1
      have V1 := V.go (nI (p + 1)) (nI (60 * k + a + (p + 1)))
      have eM : f_X5_readDay_L95 (nM + 1) τ (nI (60 * k + a + m)) y = ob2 (f_X5_readSwearerNext (sF τ 0 16 (nI (60 * k + a + (p + 1)))) (nI (60 * k + a + m))) (fun r s => if r = 0 then some (0, s) else f_X5_readDay_L95 nM s (nI (60 * k + a + m)) y) := by
        rw [f_X5_readDay_L95, V.2.2.2.2.1, M_sign_y T P h1 h2, ob2_some, if_neg one0]
        by_cases c : dS D = 0
        · rw [if_pos ((nI_eq0 (by omega)).mpr c)]
        · rw [if_neg (fun q => c ((nI_eq0 (by omega)).mp q)), if_neg (show ¬ (4 : Int32) ≤ nI (dS D) from fun q => by have := (nI_leI (a := 4) (by decide) (by omega)).mp q; omega), q6, if_neg (by rw [le_nI (by omega) (by omega)]; omega), oin_nI _ (by omega) (by decide), cl _ (by omega), q7.2 3 (by omega), show 60 * k + a + p = 60 * k + (a + p) by omega, t6 _ (by omega), if_pos h2]
      rw [eM, X_pass_y T P h1 h2, ob2_some, if_neg one0]
      by_cases hk : p + 1 < m ∧ ∃ q, q < 3 ∧ f (a + (p + 1)) = kc q
      · obtain ⟨k1, q, k2, k3⟩ := hk
        have P2 := (P1.M (FR_sR (c := 11) (f := upd (gR (sF τ 0 16 (nI (60 * k + a + (p + 1)))) 11) (2 * j) (nI q)) (by omega)) rfl).go k1
        have V2 := V1.go (nI (p + 1 + 1)) (nI (60 * k + a + (p + 1 + 1)))
        rw [X_kind_y T P1 k2 k1 k3, ob2_some, if_pos (nI_ge0 (by omega)), M_next_y T P1 k2 k1 k3, swB_y (j := j) (by rw [V1.2.2.2.2.1, eS]) P1.2.2.2.1 (by omega) k2, show 60 * k + a + (p + 1) + 1 = 60 * k + a + (p + 1 + 1) from rfl]
        by_cases hd : p + 1 + 1 < m ∧ ∃ v, v < 10 ∧ f (a + (p + 1 + 1)) = nI (48 + v)
        · obtain ⟨d1, v, d2, d3⟩ := hd
          have P3 := P2.go d1
          have V3 := V2.go (nI (p + 1 + 1 + 1)) (nI (60 * k + a + (p + 1 + 1 + 1)))
          obtain ⟨σ', g1, g2, g3, g4⟩ := X_addSwearer V3.2.2.1 (by omega) q v
          rw [show f_X1_digitBelow (sF (sF σ 24 0 (nI (p + 1))) 24 0 (nI (p + 1 + 1))) (2 + 2 * k) (10 : Int32) (-9 : Int32) = _ from (X_dig T P2 (N := 10) (by decide) d1 d2 d3 (-9)).trans (if_neg (n39 v d2)), ob2_some, if_pos (nI_ge0 (by omega)), g1, ob2_some, show f_X5_digit _ (nI (60 * k + a + m)) 9 = _ from M_dig T P2 (N := 10) (by decide) d1 d2 d3, ob2_some, if_neg (neg9' v (by omega)), ob2_some, if_neg one0, nI_1]
          refine ih (j + 1) n nM (p + 1 + 1 + 1) (addSw D q v) _ _ (by omega) (by omega) (by omega) ((P3.X g3 g4).M ((FR_sR (by omega)).trans (FR_sF (by omega))) (by rw [gF_sF, if_neg (by decide), gF_sR])) ⟨addSw_ok V.1 (by omega) (by omega) (by omega), V.2.1, g2, RM_sw V.2.2.2 ?_ ?_ ?_ ?_ ?_ (fun i => ?_)⟩ (congrArg (· + 1) eS) eH eO
          · simp [gF_sF, gF_sR]
          · simp [gF_sF, gF_sR, V.2.2.2.2.1, nI_1]
          · simp [gF_sF, gF_sR]
          · simp [gR_sF, gR_sR]
          · simp [gR_sF, gR_sR]
          · simp [gR_sF, gR_sR, upd_at, eS]
        · rw [show f_X1_digitBelow (sF (sF σ 24 0 (nI (p + 1))) 24 0 (nI (p + 1 + 1))) (2 + 2 * k) (10 : Int32) (-9 : Int32) = _ from X_dig_n T P2 (N := 10) (by decide) hd (-9), ob2_some, if_neg m9, ob2_some, hK0, show f_X5_digit _ (nI (60 * k + a + m)) 9 = _ from M_dig_n T P2 (N := 10) (by decide) (by decide) hd, ob2_some, if_pos rfl, ob2_some, if_pos rfl]
          exact rP_no (P2.M ((FR_sR (by omega)).trans (FR_sF (by omega))) (by rw [gF_sF, if_neg (by decide), gF_sR]))
      · rw [X_kind_n T P1 hk, ob2_some, if_neg m9, ob2_some, hK0, M_next_n T P1 hk, swB_n (j := j) (by rw [V1.2.2.2.2.1, eS]) (by omega), ob2_some, if_pos rfl]
        exact rP_no (P1.M (FR_sR (by omega)) rfl)
    · rw [X_pass_n T P h, ob2_some, if_pos rfl, V.2.2.1.2.1, f_X5_readDay_L95, V.2.2.2.2.1]
      by_cases c : dS D = 0
      · rw [if_pos ((nI_le0 (by omega)).mpr c), if_pos ((nI_eq0 (by omega)).mpr c), M_sign_n T P h, ob2_some, ob2_some, if_pos rfl, hK0]
        exact rP_no P
      · rw [if_neg (fun q => c ((nI_le0 (by omega)).mp q)), if_neg (fun q => c ((nI_eq0 (by omega)).mp q)), ob2_some, if_neg (show ¬ (4 : Int32) ≤ nI (dS D) from fun q => by have := (nI_leI (a := 4) (by decide) (by omega)).mp q; omega), q6]
        have go := hK1 p D σ τ P V eH (by omega) eO
        by_cases c2 : p < m
        · rw [if_neg (by rw [le_nI (by omega) (by omega)]; omega), oin_nI _ (by omega) (by decide), cl _ (by omega), q7.2 3 (by omega), show 60 * k + a + p = 60 * k + (a + p) by omega, t6 _ (by omega), if_neg (fun w => h ⟨c2, w⟩)]
          exact go
        · rw [if_pos (by rw [le_nI (by omega) (by omega)]; omega)]
          exact go
end RDS
