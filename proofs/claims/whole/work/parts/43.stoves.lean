/-! ===== what the reference keeps and puts back ===== -/
def Kept (τ τ0 : SX) : Prop := (gR τ 13 0 = gF τ0 0 7 ∧ gR τ 13 1 = gF τ0 0 8 ∧ gR τ 13 2 = gF τ0 0 9) ∧ (∀ k, k < 6 → gR τ 13 (3 + k) = gR τ0 4 k ∧ gR τ 13 (9 + k) = gR τ0 7 k ∧ gR τ 13 (15 + k) = gR τ0 8 k ∧ gR τ 13 (21 + k) = gR τ0 9 k) ∧ (∀ s, s < 4 → gR τ 13 (27 + s) = gR τ0 6 s)
theorem n3 (k : Nat) : (3 : Int32) + nI k = nI (3 + k) := nI_add 3 k
theorem n9 (k : Nat) : (9 : Int32) + nI k = nI (9 + k) := nI_add 9 k
theorem n15 (k : Nat) : (15 : Int32) + nI k = nI (15 + k) := nI_add 15 k
theorem n21 (k : Nat) : (21 : Int32) + nI k = nI (21 + k) := nI_add 21 k
theorem n27 (k : Nat) : (27 : Int32) + nI k = nI (27 + k) := nI_add 27 k
theorem keepL2 (τ0 : SX) : ∀ (r k n : Nat) (τ : SX), k + r = 4 → r < n → (∀ c j, gF τ c j = gF τ0 c j) → (∀ c, c ≠ 13 → gR τ c = gR τ0 c) → (gR τ 13 0 = gF τ0 0 7 ∧ gR τ 13 1 = gF τ0 0 8 ∧ gR τ 13 2 = gF τ0 0 9) → (∀ k, k < 6 → gR τ 13 (3 + k) = gR τ0 4 k ∧ gR τ 13 (9 + k) = gR τ0 7 k ∧ gR τ 13 (15 + k) = gR τ0 8 k ∧ gR τ 13 (21 + k) = gR τ0 9 k) → (∀ s, s < k → gR τ 13 (27 + s) = gR τ0 6 s) → ∃ τ', f_X5_keep_L105 n τ (nI k) = some ((), τ') ∧ (∀ c j, gF τ' c j = gF τ0 c j) ∧ (∀ c, c ≠ 13 → gR τ' c = gR τ0 c) ∧ Kept τ' τ0 := by
  intro r
  induction r with
  | zero =>
    intro k n τ hk hn hF hR h1 h2 h3
    obtain ⟨n, rfl⟩ : ∃ z, n = z + 1 := ⟨n - 1, by omega⟩
    have : k = 4 := by omega
    subst this
    rw [f_X5_keep_L105, if_pos (show (4 : Int32) ≤ nI 4 by decide)]
    exact ⟨τ, rfl, hF, hR, h1, h2, h3⟩
  | succ r ih =>
    intro k n τ hk hn hF hR h1 h2 h3
    obtain ⟨n, rfl⟩ : ∃ z, n = z + 1 := ⟨n - 1, by omega⟩
    rw [f_X5_keep_L105, if_neg (show ¬ (4 : Int32) ≤ nI k from fun z => by have := (nI_leI (a := 4) (by decide) (by omega)).mp z; omega), n27, oin_nI _ (by omega) (by decide), oin_nI _ (by omega) (by decide), cl k (by omega), cl (27 + k) (by omega), nI_1]
    have e : ∀ j, gR (sR τ 13 (upd (gR τ 13) (27 + k) (gR τ 6 k))) 13 j = if j = 27 + k then gR τ 6 k else gR τ 13 j := fun j => by rw [gR_sR, if_pos rfl, upd_at]
    refine ih (k + 1) n _ (by omega) (by omega) hF (fun c hc => by rw [gR_sR, if_neg hc]; exact hR c hc) ?_ (fun j hj => ?_) (fun s hs => ?_)
    · rw [e, e, e, if_neg (by omega), if_neg (by omega), if_neg (by omega)]; exact h1
    · rw [e, e, e, e, if_neg (by omega), if_neg (by omega), if_neg (by omega), if_neg (by omega)]; exact h2 j hj
    · rw [e]
      by_cases c : s = k
      · rw [if_pos (by omega), c, hR 6 (by decide)]
      · rw [if_neg (by omega)]; exact h3 s (by omega)
theorem keepL1 (τ0 : SX) : ∀ (r k n : Nat) (τ : SX), k + r = 6 → r < n → (∀ c j, gF τ c j = gF τ0 c j) → (∀ c, c ≠ 13 → gR τ c = gR τ0 c) → (gR τ 13 0 = gF τ0 0 7 ∧ gR τ 13 1 = gF τ0 0 8 ∧ gR τ 13 2 = gF τ0 0 9) → (∀ j, j < k → gR τ 13 (3 + j) = gR τ0 4 j ∧ gR τ 13 (9 + j) = gR τ0 7 j ∧ gR τ 13 (15 + j) = gR τ0 8 j ∧ gR τ 13 (21 + j) = gR τ0 9 j) → ∃ τ', f_X5_keep_L32 n τ (nI k) = some ((), τ') ∧ (∀ c j, gF τ' c j = gF τ0 c j) ∧ (∀ c, c ≠ 13 → gR τ' c = gR τ0 c) ∧ Kept τ' τ0 := by
  intro r
  induction r with
  | zero =>
    intro k n τ hk hn hF hR h1 h2
    obtain ⟨n, rfl⟩ : ∃ z, n = z + 1 := ⟨n - 1, by omega⟩
    have : k = 6 := by omega
    subst this
    rw [f_X5_keep_L32, if_pos (show (6 : Int32) ≤ nI 6 by decide)]
    exact keepL2 τ0 4 0 100 τ (by decide) (by decide) hF hR h1 h2 (fun s hs => absurd hs (Nat.not_lt_zero _))
  | succ r ih =>
    intro k n τ hk hn hF hR h1 h2
    obtain ⟨n, rfl⟩ : ∃ z, n = z + 1 := ⟨n - 1, by omega⟩
    have o1 : ∀ z : Option (Unit × SX), oin (nI k) 6 z = z := fun z => oin_nI z (by omega) (by decide)
    have o3 : ∀ z : Option (Unit × SX), oin (nI (3 + k)) 31 z = z := fun z => oin_nI z (by omega) (by decide)
    have o9 : ∀ z : Option (Unit × SX), oin (nI (9 + k)) 31 z = z := fun z => oin_nI z (by omega) (by decide)
    have o15 : ∀ z : Option (Unit × SX), oin (nI (15 + k)) 31 z = z := fun z => oin_nI z (by omega) (by decide)
    have o21 : ∀ z : Option (Unit × SX), oin (nI (21 + k)) 31 z = z := fun z => oin_nI z (by omega) (by decide)
    rw [f_X5_keep_L32, if_neg (show ¬ (6 : Int32) ≤ nI k from fun z => by have := (nI_leI (a := 6) (by decide) (by omega)).mp z; omega)]
    simp only [n3, n9, n15, n21, o1, o3, o9, o15, o21, cl k (by omega), cl (3 + k) (by omega), cl (9 + k) (by omega), cl (15 + k) (by omega), cl (21 + k) (by omega), nI_1, gR_sR, show ¬ (4 : Nat) = 13 by decide, show ¬ (7 : Nat) = 13 by decide, show ¬ (8 : Nat) = 13 by decide, show ¬ (9 : Nat) = 13 by decide, ↓reduceIte]
    refine ih (k + 1) n _ (by omega) (by omega) hF (fun c hc => ?_) ?_ (fun j hj => ?_)
    · simp only [gR_sR, hc, ↓reduceIte]; exact hR c hc
    · simp only [gR_sR, ↓reduceIte, upd_at]
      simp only [show ¬ (0 : Nat) = 21 + k by omega, show ¬ (0 : Nat) = 15 + k by omega, show ¬ (0 : Nat) = 9 + k by omega, show ¬ (0 : Nat) = 3 + k by omega, show ¬ (1 : Nat) = 21 + k by omega, show ¬ (1 : Nat) = 15 + k by omega, show ¬ (1 : Nat) = 9 + k by omega, show ¬ (1 : Nat) = 3 + k by omega, show ¬ (2 : Nat) = 21 + k by omega, show ¬ (2 : Nat) = 15 + k by omega, show ¬ (2 : Nat) = 9 + k by omega, show ¬ (2 : Nat) = 3 + k by omega, ↓reduceIte]
      exact h1
    · simp only [gR_sR, ↓reduceIte, upd_at]
      have r4 := hR 4 (by decide)
      have r7 := hR 7 (by decide)
      have r8 := hR 8 (by decide)
      have r9 := hR 9 (by decide)
      by_cases c : j = k
      · subst c
        simp only [show ¬ 3 + j = 21 + j by omega, show ¬ 3 + j = 15 + j by omega, show ¬ 3 + j = 9 + j by omega, show ¬ 9 + j = 21 + j by omega, show ¬ 9 + j = 15 + j by omega, show ¬ 15 + j = 21 + j by omega, ↓reduceIte, r4, r7, r8, r9]
        exact ⟨trivial, trivial, trivial, trivial⟩
      · simp only [show ¬ 3 + j = 21 + k by omega, show ¬ 3 + j = 15 + k by omega, show ¬ 3 + j = 9 + k by omega, show ¬ 3 + j = 3 + k by omega, show ¬ 9 + j = 21 + k by omega, show ¬ 9 + j = 15 + k by omega, show ¬ 9 + j = 9 + k by omega, show ¬ 9 + j = 3 + k by omega, show ¬ 15 + j = 21 + k by omega, show ¬ 15 + j = 15 + k by omega, show ¬ 15 + j = 9 + k by omega, show ¬ 15 + j = 3 + k by omega, show ¬ 21 + j = 21 + k by omega, show ¬ 21 + j = 15 + k by omega, show ¬ 21 + j = 9 + k by omega, show ¬ 21 + j = 3 + k by omega, ↓reduceIte]
        exact h2 j (by omega)
theorem M_keep (τ : SX) : ∃ τ', f_X5_keep τ = some ((), τ') ∧ (∀ c j, gF τ' c j = gF τ c j) ∧ (∀ c, c ≠ 13 → gR τ' c = gR τ c) ∧ Kept τ' τ := by
  unfold f_X5_keep
  rw [show (0 : Int32) = nI 0 from rfl, show (1 : Int32) = nI 1 from rfl, show (2 : Int32) = nI 2 from rfl, oin_nI _ (by decide) (by decide), oin_nI _ (by decide) (by decide), oin_nI _ (by decide) (by decide), cl 0 (by decide), cl 1 (by decide), cl 2 (by decide)]
  refine keepL1 τ 6 0 100 _ (by decide) (by decide) (fun _ _ => rfl) (fun c hc => ?_) ?_ (fun j hj => absurd hj (Nat.not_lt_zero _))
  · simp only [gR_sR, hc, ↓reduceIte]
  · simp [gR_sR, upd_at, gF_sR]
theorem backL2 (τ0 : SX) : ∀ (r k n : Nat) (τ : SX), k + r = 4 → r < n → Kept τ τ0 → ∃ τ', f_X5_putBack_L105 n τ (nI k) = some ((), τ') ∧ (∀ c j, gF τ' c j = gF τ c j) ∧ (∀ c, c ≠ 6 → gR τ' c = gR τ c) ∧ (∀ s, s < 4 → gR τ' 6 s = if k ≤ s then gR τ0 6 s else gR τ 6 s) := by
  intro r
  induction r with
  | zero =>
    intro k n τ hk hn hK
    obtain ⟨n, rfl⟩ : ∃ z, n = z + 1 := ⟨n - 1, by omega⟩
    have : k = 4 := by omega
    subst this
    rw [f_X5_putBack_L105, if_pos (show (4 : Int32) ≤ nI 4 by decide)]
    exact ⟨τ, rfl, fun _ _ => rfl, fun _ _ => rfl, fun s hs => by rw [if_neg (by omega)]⟩
  | succ r ih =>
    intro k n τ hk hn hK
    obtain ⟨n, rfl⟩ : ∃ z, n = z + 1 := ⟨n - 1, by omega⟩
    rw [f_X5_putBack_L105, if_neg (show ¬ (4 : Int32) ≤ nI k from fun z => by have := (nI_leI (a := 4) (by decide) (by omega)).mp z; omega), n27, oin_nI _ (by omega) (by decide), oin_nI _ (by omega) (by decide), cl k (by omega), cl (27 + k) (by omega), nI_1, hK.2.2 k (by omega)]
    obtain ⟨τ', g1, g2, g3, g4⟩ := ih (k + 1) n (sR τ 6 (upd (gR τ 6) k (gR τ0 6 k))) (by omega) (by omega) (by unfold Kept; rw [gR_sR, if_neg (by decide)]; exact hK)
    refine ⟨τ', g1, g2, fun c hc => by rw [g3 c hc, gR_sR, if_neg hc], fun s hs => ?_⟩
    rw [g4 s hs, gR_sR, if_pos rfl, upd_at]
    by_cases c : k + 1 ≤ s
    · rw [if_pos c, if_pos (by omega)]
    · rw [if_neg c]
      by_cases c2 : s = k
      · rw [if_pos c2, if_pos (by omega), c2]
      · rw [if_neg c2, if_neg (by omega)]
theorem backL1 (τ0 : SX) : ∀ (r k n : Nat) (τ : SX), k + r = 6 → r < n → Kept τ τ0 → ∃ τ', f_X5_putBack_L32 n τ (nI k) = some ((), τ') ∧ (∀ c j, gF τ' c j = gF τ c j) ∧ (∀ c, c ≠ 4 ∧ c ≠ 6 ∧ c ≠ 7 ∧ c ≠ 8 ∧ c ≠ 9 → gR τ' c = gR τ c) ∧ (∀ j, j < 6 → k ≤ j → gR τ' 4 j = gR τ0 4 j ∧ gR τ' 7 j = gR τ0 7 j ∧ gR τ' 8 j = gR τ0 8 j ∧ gR τ' 9 j = gR τ0 9 j) ∧ (∀ j, j < k → gR τ' 4 j = gR τ 4 j ∧ gR τ' 7 j = gR τ 7 j ∧ gR τ' 8 j = gR τ 8 j ∧ gR τ' 9 j = gR τ 9 j) ∧ (∀ s, s < 4 → gR τ' 6 s = gR τ0 6 s) := by
  intro r
  induction r with
  | zero =>
    intro k n τ hk hn hK
    obtain ⟨n, rfl⟩ : ∃ z, n = z + 1 := ⟨n - 1, by omega⟩
    have : k = 6 := by omega
    subst this
    rw [f_X5_putBack_L32, if_pos (show (6 : Int32) ≤ nI 6 by decide)]
    obtain ⟨τ', g1, g2, g3, g4⟩ := backL2 τ0 4 0 100 τ (by decide) (by decide) hK
    refine ⟨τ', g1, g2, fun c hc => g3 c hc.2.1, fun j h1 h2 => absurd h1 (by omega), fun j hj => ?_, fun s hs => by rw [g4 s hs, if_pos (Nat.zero_le _)]⟩
    rw [g3 4 (by decide), g3 7 (by decide), g3 8 (by decide), g3 9 (by decide)]
    exact ⟨rfl, rfl, rfl, rfl⟩
  | succ r ih =>
    intro k n τ hk hn hK
    obtain ⟨n, rfl⟩ : ∃ z, n = z + 1 := ⟨n - 1, by omega⟩
    have o1 : ∀ z : Option (Unit × SX), oin (nI k) 6 z = z := fun z => oin_nI z (by omega) (by decide)
    have o3 : ∀ z : Option (Unit × SX), oin (nI (3 + k)) 31 z = z := fun z => oin_nI z (by omega) (by decide)
    have o9 : ∀ z : Option (Unit × SX), oin (nI (9 + k)) 31 z = z := fun z => oin_nI z (by omega) (by decide)
    have o15 : ∀ z : Option (Unit × SX), oin (nI (15 + k)) 31 z = z := fun z => oin_nI z (by omega) (by decide)
    have o21 : ∀ z : Option (Unit × SX), oin (nI (21 + k)) 31 z = z := fun z => oin_nI z (by omega) (by decide)
    obtain ⟨q1, q2, q3, q4⟩ := hK.2.1 k (by omega)
    rw [f_X5_putBack_L32, if_neg (show ¬ (6 : Int32) ≤ nI k from fun z => by have := (nI_leI (a := 6) (by decide) (by omega)).mp z; omega)]
    simp only [n3, n9, n15, n21, o1, o3, o9, o15, o21, cl k (by omega), cl (3 + k) (by omega), cl (9 + k) (by omega), cl (15 + k) (by omega), cl (21 + k) (by omega), nI_1, gR_sR, show ¬ (13 : Nat) = 4 by decide, show ¬ (13 : Nat) = 7 by decide, show ¬ (13 : Nat) = 8 by decide, show ¬ (13 : Nat) = 9 by decide, show ¬ (7 : Nat) = 4 by decide, show ¬ (8 : Nat) = 4 by decide, show ¬ (8 : Nat) = 7 by decide, show ¬ (9 : Nat) = 4 by decide, show ¬ (9 : Nat) = 7 by decide, show ¬ (9 : Nat) = 8 by decide, ↓reduceIte, q1, q2, q3, q4]
    obtain ⟨τ', g1, g2, g3, g4, g5, g6⟩ := ih (k + 1) n (sR (sR (sR (sR τ 4 (upd (gR τ 4) k (gR τ0 4 k))) 7 (upd (gR τ 7) k (gR τ0 7 k))) 8 (upd (gR τ 8) k (gR τ0 8 k))) 9 (upd (gR τ 9) k (gR τ0 9 k))) (by omega) (by omega) (by
      unfold Kept
      simp only [gR_sR, show ¬ (13 : Nat) = 4 by decide, show ¬ (13 : Nat) = 7 by decide, show ¬ (13 : Nat) = 8 by decide, show ¬ (13 : Nat) = 9 by decide, ↓reduceIte]
      exact hK)
    have e4 : gR (sR (sR (sR (sR τ 4 (upd (gR τ 4) k (gR τ0 4 k))) 7 (upd (gR τ 7) k (gR τ0 7 k))) 8 (upd (gR τ 8) k (gR τ0 8 k))) 9 (upd (gR τ 9) k (gR τ0 9 k))) 4 = upd (gR τ 4) k (gR τ0 4 k) := by simp [gR_sR]
    have e7 : gR (sR (sR (sR (sR τ 4 (upd (gR τ 4) k (gR τ0 4 k))) 7 (upd (gR τ 7) k (gR τ0 7 k))) 8 (upd (gR τ 8) k (gR τ0 8 k))) 9 (upd (gR τ 9) k (gR τ0 9 k))) 7 = upd (gR τ 7) k (gR τ0 7 k) := by simp [gR_sR]
    have e8 : gR (sR (sR (sR (sR τ 4 (upd (gR τ 4) k (gR τ0 4 k))) 7 (upd (gR τ 7) k (gR τ0 7 k))) 8 (upd (gR τ 8) k (gR τ0 8 k))) 9 (upd (gR τ 9) k (gR τ0 9 k))) 8 = upd (gR τ 8) k (gR τ0 8 k) := by simp [gR_sR]
    have e9 : gR (sR (sR (sR (sR τ 4 (upd (gR τ 4) k (gR τ0 4 k))) 7 (upd (gR τ 7) k (gR τ0 7 k))) 8 (upd (gR τ 8) k (gR τ0 8 k))) 9 (upd (gR τ 9) k (gR τ0 9 k))) 9 = upd (gR τ 9) k (gR τ0 9 k) := by simp [gR_sR]
    refine ⟨τ', g1, g2, fun c hc => ?_, fun j h1 h2 => ?_, fun j hj => ?_, g6⟩
    · rw [g3 c hc]
      simp only [gR_sR, hc.1, hc.2.2.1, hc.2.2.2.1, hc.2.2.2.2, ↓reduceIte]
    · by_cases c : j = k
      · obtain ⟨a1, a2, a3, a4⟩ := g5 j (by omega)
        rw [a1, a2, a3, a4, e4, e7, e8, e9, upd_at, upd_at, upd_at, upd_at, if_pos c, if_pos c, if_pos c, if_pos c, c]
        exact ⟨rfl, rfl, rfl, rfl⟩
      · exact g4 j h1 (by omega)
    · obtain ⟨a1, a2, a3, a4⟩ := g5 j (by omega)
      rw [a1, a2, a3, a4, e4, e7, e8, e9, upd_at, upd_at, upd_at, upd_at, if_neg (by omega), if_neg (by omega), if_neg (by omega), if_neg (by omega)]
      exact ⟨rfl, rfl, rfl, rfl⟩
/-- put back: the day is as it was -/
theorem M_back {τ τ0 : SX} {d : DV} (ok : dOk d) (hd : DM τ0 d) (hK : Kept τ τ0) (h5 : gF τ 0 5 = gF τ0 0 5) (h6 : gF τ 0 6 = gF τ0 0 6) (hk5 : gR τ 5 = gR τ0 5) : ∃ τ', f_X5_putBack τ = some ((), τ') ∧ DM τ' d ∧ FM τ τ' := by
  have e := ok.1
  have e4 := ok.2.1
  have e6 := ok.2.2.1
  unfold f_X5_putBack
  rw [show (0 : Int32) = nI 0 from rfl, show (1 : Int32) = nI 1 from rfl, show (2 : Int32) = nI 2 from rfl, oin_nI _ (by decide) (by decide), oin_nI _ (by decide) (by decide), oin_nI _ (by decide) (by decide), cl 0 (by decide), cl 1 (by decide), cl 2 (by decide)]
  simp only [gR_sF, hK.1.1, hK.1.2.1, hK.1.2.2]
  obtain ⟨τ', g1, g2, g3, g4, -, g6⟩ := backL1 τ0 6 0 100 (sF (sF (sF τ 0 7 (gF τ0 0 7)) 0 8 (gF τ0 0 8)) 0 9 (gF τ0 0 9)) (by decide) (by decide) hK
  obtain ⟨h1, h2, h3, h4, h5', h6', h7⟩ := hd
  refine ⟨τ', g1, ⟨?_, ?_, ?_, ?_, fun j hj => ?_, fun j hj => ?_, fun j hj => ?_⟩, fun k hk => ?_, fun c hc => ?_⟩
  · rw [g2]; simp only [gF_sF]; rw [if_neg (by decide), if_neg (by decide), if_neg (by decide), h5]; exact h1
  · rw [g2]; simp only [gF_sF]; rw [if_neg (by decide), if_neg (by decide), if_neg (by decide), h6]; exact h2
  · rw [g2]; simp only [gF_sF]; rw [if_neg (by decide), if_neg (by decide), if_pos (by decide)]; exact h3
  · rw [g2, g2]; simp only [gF_sF]; rw [if_neg (by decide), if_pos (by decide), if_pos (by decide)]; exact h4
  · rw [(g4 j (by omega) (Nat.zero_le _)).1]; exact h5' j hj
  · rw [g3 5 (by decide), g6 j (by omega)]
    have : gR (sF (sF (sF τ 0 7 (gF τ0 0 7)) 0 8 (gF τ0 0 8)) 0 9 (gF τ0 0 9)) 5 = gR τ0 5 := hk5
    rw [this]; exact h6' j hj
  · obtain ⟨_, a2, a3, a4⟩ := g4 j (by omega) (Nat.zero_le _)
    rw [a2, a3, a4]; exact h7 j hj
  · rw [g2]; simp only [gF_sF]; rw [if_neg (by omega), if_neg (by omega), if_neg (by omega)]
  · rw [g3 c (by omega)]; rfl
