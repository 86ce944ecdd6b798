/-! ===== more calls: letting go, readings, bodies, sheets ===== -/
def shI (f : Nat → Int32) (i k : Nat) : Nat → Int32 := fun j => if i ≤ j ∧ j < k then f (j + 1) else f j
theorem shI_step (f : Nat → Int32) (i k : Nat) (h : i ≤ k) : upd (shI f i k) k (shI f i k (k + 1)) = shI f i (k + 1) := by
  funext j
  rw [upd_at]
  unfold shI
  by_cases c : j = k
  · subst c
    rw [if_pos rfl, if_neg (by omega), if_pos (by omega)]
  · rw [if_neg c]
    by_cases c2 : i ≤ j ∧ j < k
    · rw [if_pos c2, if_pos (by omega)]
    · rw [if_neg c2, if_neg (by omega)]
theorem shI_0 (f : Nat → Int32) (i : Nat) : shI f i i = f := by
  funext j
  unfold shI
  rw [if_neg (by omega)]
theorem nI_pred1 {k : Nat} (h : 0 < k) : nI k - 1 = nI (k - 1) := by
  obtain ⟨m, rfl⟩ : ∃ m, k = m + 1 := ⟨k - 1, by omega⟩
  exact nI_pred m
/-- the class lets an oath go: the loop -/
theorem X_dropL {b : Nat} {O i : Nat} (hO : O ≤ 6) : ∀ (r k n : Nat) (σ σ0 : SX), k + r = O → i < k → r < n → gF σ b 2 = nI O → gR σ (b + 4) = shI (gR σ0 (b + 4)) i (k - 1) → gR σ (b + 5) = shI (gR σ0 (b + 5)) i (k - 1) → gR σ (b + 6) = shI (gR σ0 (b + 6)) i (k - 1) → (∀ c j, gF σ c j = gF σ0 c j) → (∀ c, (c ≤ b + 3 ∨ b + 6 < c) → gR σ c = gR σ0 c) →
    ∃ σ', f_X0_dropOath_L13 b n σ (nI i) (nI k) = some ((), σ') ∧ gF σ' b 2 = nI (O - 1) ∧ gR σ' (b + 4) = shI (gR σ0 (b + 4)) i (O - 1) ∧ gR σ' (b + 5) = shI (gR σ0 (b + 5)) i (O - 1) ∧ gR σ' (b + 6) = shI (gR σ0 (b + 6)) i (O - 1) ∧ (∀ c j, ¬ (c = b ∧ j = 2) → gF σ' c j = gF σ0 c j) ∧ (∀ c, (c ≤ b + 3 ∨ b + 6 < c) → gR σ' c = gR σ0 c) := by
  intro r
  induction r with
  | zero =>
    intro k n σ σ0 hk hi hn h2 h4 h5 h6 hF hRr
    obtain ⟨n, rfl⟩ : ∃ z, n = z + 1 := ⟨n - 1, by omega⟩
    have : k = O := by omega
    subst this
    rw [f_X0_dropOath_L13, h2, if_pos (by rw [le_nI (by omega) (by omega)]; omega), nI_pred1 (by omega)]
    refine ⟨_, rfl, ?_, h4, h5, h6, fun c j hc => ?_, hRr⟩
    · rw [gF_sF, if_pos ⟨rfl, rfl⟩]
    · rw [gF_sF, if_neg hc]; exact hF c j
  | succ r ih =>
    intro k n σ σ0 hk hi hn h2 h4 h5 h6 hF hRr
    obtain ⟨n, rfl⟩ : ∃ z, n = z + 1 := ⟨n - 1, by omega⟩
    have o1 : ∀ z : Option (Unit × SX), oin (nI k) 6 z = z := fun z => oin_nI z (by omega) (by decide)
    have o2 : ∀ z : Option (Unit × SX), oin (nI (k - 1)) 6 z = z := fun z => oin_nI z (by omega) (by decide)
    have ek : k = k - 1 + 1 := by omega
    rw [f_X0_dropOath_L13, h2, if_neg (by rw [le_nI (by omega) (by omega)]; omega), nI_pred1 (by omega), nI_1]
    simp only [o1, o2, cl k (by omega), cl (k - 1) (by omega), gR_sR, show ¬ b + 4 = b + 5 by omega, show ¬ b + 4 = b + 6 by omega, show ¬ b + 5 = b + 4 by omega, show ¬ b + 5 = b + 6 by omega, show ¬ b + 6 = b + 4 by omega, show ¬ b + 6 = b + 5 by omega, ↓reduceIte, h4, h5, h6]
    refine ih (k + 1) n _ σ0 (by omega) (by omega) (by omega) h2 ?_ ?_ ?_ hF (fun c hc => ?_)
    · simp only [gR_sR, show ¬ b + 4 = b + 5 by omega, show ¬ b + 4 = b + 6 by omega, ↓reduceIte]
      have := shI_step (gR σ0 (b + 4)) i (k - 1) (by omega)
      rw [← ek] at this
      exact this
    · simp only [gR_sR, show ¬ b + 5 = b + 4 by omega, show ¬ b + 5 = b + 6 by omega, ↓reduceIte]
      have := shI_step (gR σ0 (b + 5)) i (k - 1) (by omega)
      rw [← ek] at this
      exact this
    · simp only [gR_sR, show ¬ b + 6 = b + 4 by omega, show ¬ b + 6 = b + 5 by omega, ↓reduceIte]
      have := shI_step (gR σ0 (b + 6)) i (k - 1) (by omega)
      rw [← ek] at this
      exact this
    · simp only [gR_sR]
      rw [if_neg (by omega), if_neg (by omega), if_neg (by omega)]
      exact hRr c hc
theorem shI_nI {f : Nat → Int32} {g : Nat → Nat} {O i : Nat} (h : ∀ j, j < O → f j = nI (g j)) {j : Nat} (hj : j < O - 1) : shI f i (O - 1) j = nI (shf g i j) := by
  unfold shI shf
  by_cases c : i ≤ j
  · rw [if_pos ⟨c, hj⟩, if_pos c]; exact h (j + 1) (by omega)
  · rw [if_neg (fun z => c z.1), if_neg c]; exact h j (by omega)
theorem X_drop {b : Nat} {σ : SX} {d : DV} (hd : DX b σ d) (ok : dOk d) {i : Nat} (hi : i < dO d) : ∃ σ', f_X0_dropOath σ b (nI i) = some ((), σ') ∧ DX b σ' (dropOa d i) ∧ (∀ c k, c ≠ b → gF σ' c k = gF σ c k) ∧ (∀ c, (c ≤ b ∨ b + 6 < c) → gR σ' c = gR σ c) := by
  have h6 := ok.2.2.1
  obtain ⟨σ', g1, g2, g3, g4, g5, g6, g7⟩ := X_dropL (b := b) (i := i) h6 (dO d - (i + 1)) (i + 1) 100 σ σ (by omega) (by omega) (by omega) hd.2.2.1 (by rw [Nat.add_sub_cancel, shI_0]) (by rw [Nat.add_sub_cancel, shI_0]) (by rw [Nat.add_sub_cancel, shI_0]) (fun _ _ => rfl) (fun _ _ => rfl)
  refine ⟨σ', ?_, ?_, fun c k hc => g6 c k (fun z => hc z.1), fun c hc => g7 c (by omega)⟩
  · unfold f_X0_dropOath
    rw [X_oath_in hd ok hi, ob1_some, if_neg one0, nI_1]
    exact g1
  · obtain ⟨h1, h2, h3, h4, h5, h6, h7⟩ := hd
    refine ⟨?_, ?_, g2, ?_, fun j hj => ?_, fun j hj => ?_, fun j hj => ?_⟩
    · rw [g6 b 0 (by omega)]; exact h1
    · rw [g6 b 1 (by omega)]; exact h2
    · rw [g6 b 3 (by omega), g6 b 4 (by omega)]; exact h4
    · rw [g7 (b + 1) (by omega)]; exact h5 j hj
    · rw [g7 (b + 2) (by omega), g7 (b + 3) (by omega)]; exact h6 j hj
    · have hj : j < dO d - 1 := hj
      rw [g3, g4, g5]
      exact ⟨shI_nI (fun k hk => (h7 k hk).1) hj, shI_nI (fun k hk => (h7 k hk).2.1) hj, shI_nI (fun k hk => (h7 k hk).2.2) hj⟩
/-- the reference lets an oath go -/
theorem M_offL {O i : Nat} (hO : O ≤ 5) : ∀ (r k n : Nat) (τ τ0 : SX), k + r = O → i ≤ k → r < n → gF τ 0 7 = nI O → gR τ 7 = shI (gR τ0 7) i k → gR τ 8 = shI (gR τ0 8) i k → gR τ 9 = shI (gR τ0 9) i k → (∀ c j, ¬ (c = 0 ∧ j = 7) → gF τ c j = gF τ0 c j) → (∀ c, (c < 7 ∨ 9 < c) → gR τ c = gR τ0 c) →
    ∃ τ', f_X5_letOff_L12 n τ (nI i) (nI k) = some ((), τ') ∧ gF τ' 0 7 = nI O ∧ gR τ' 7 = shI (gR τ0 7) i O ∧ gR τ' 8 = shI (gR τ0 8) i O ∧ gR τ' 9 = shI (gR τ0 9) i O ∧ (∀ c j, ¬ (c = 0 ∧ j = 7) → gF τ' c j = gF τ0 c j) ∧ (∀ c, (c < 7 ∨ 9 < c) → gR τ' c = gR τ0 c) := by
  intro r
  induction r with
  | zero =>
    intro k n τ τ0 hk hi hn h2 h4 h5 h6 hF hRr
    obtain ⟨n, rfl⟩ : ∃ z, n = z + 1 := ⟨n - 1, by omega⟩
    have : k = O := by omega
    subst this
    rw [f_X5_letOff_L12, h2, if_pos (by rw [le_nI (by omega) (by omega)]; omega)]
    exact ⟨_, rfl, h2, h4, h5, h6, hF, hRr⟩
  | succ r ih =>
    intro k n τ τ0 hk hi hn h2 h4 h5 h6 hF hRr
    obtain ⟨n, rfl⟩ : ∃ z, n = z + 1 := ⟨n - 1, by omega⟩
    have o1 : ∀ z : Option (Unit × SX), oin (nI k) 6 z = z := fun z => oin_nI z (by omega) (by decide)
    have o2 : ∀ z : Option (Unit × SX), oin (nI (k + 1)) 6 z = z := fun z => oin_nI z (by omega) (by decide)
    rw [f_X5_letOff_L12, h2, if_neg (by rw [le_nI (by omega) (by omega)]; omega), nI_1]
    simp only [o1, o2, cl k (by omega), cl (k + 1) (by omega), gR_sR, show ¬ (7 : Nat) = 8 by decide, show ¬ (7 : Nat) = 9 by decide, show ¬ (8 : Nat) = 7 by decide, show ¬ (8 : Nat) = 9 by decide, show ¬ (9 : Nat) = 7 by decide, show ¬ (9 : Nat) = 8 by decide, ↓reduceIte, h4, h5, h6, shI_step _ i k hi]
    refine ih (k + 1) n _ τ0 (by omega) (by omega) (by omega) h2 ?_ ?_ ?_ hF (fun c hc => ?_)
    · simp only [gR_sR, show ¬ (7 : Nat) = 8 by decide, show ¬ (7 : Nat) = 9 by decide, ↓reduceIte]
    · simp only [gR_sR, show ¬ (8 : Nat) = 7 by decide, show ¬ (8 : Nat) = 9 by decide, ↓reduceIte]
    · simp only [gR_sR, show ¬ (9 : Nat) = 7 by decide, show ¬ (9 : Nat) = 8 by decide, ↓reduceIte]
    · simp only [gR_sR]
      rw [if_neg (by omega), if_neg (by omega), if_neg (by omega)]
      exact hRr c hc
theorem M_off {τ : SX} {d : DV} (hd : DM τ d) (ok : dOk d) {i : Nat} (hi : i < dO d) : ∃ τ', f_X5_letOff τ (nI i) = some ((), τ') ∧ DM τ' (dropOa d i) ∧ FM τ τ' ∧ (∀ c, (c < 7 ∨ 9 < c) → gR τ' c = gR τ c) ∧ (∀ k, k ≠ 7 → gF τ' 0 k = gF τ 0 k) := by
  have h6 := ok.2.2.1
  have e3 := hd.2.2.1
  obtain ⟨τ', g1, g2, g3, g4, g5, g6, g7⟩ := M_offL (O := dO d - 1) (i := i) (by omega) (dO d - 1 - i) i 100 (sF τ 0 7 (nI (dO d - 1))) τ (by omega) (by omega) (by omega) (by rw [gF_sF, if_pos ⟨rfl, rfl⟩]) (by rw [shI_0]; rfl) (by rw [shI_0]; rfl) (by rw [shI_0]; rfl) (fun c j hc => by rw [gF_sF, if_neg hc]) (fun _ _ => rfl)
  refine ⟨τ', ?_, ?_, ⟨fun k hk => g6 0 k (by omega), fun c hc => g7 c (by omega)⟩, g7, fun k hk => g6 0 k (by omega)⟩
  · unfold f_X5_letOff
    rw [e3, nI_pred1 (by omega)]
    exact g1
  · obtain ⟨h1, h2, h3, h4, h5, h6, h7⟩ := hd
    refine ⟨?_, ?_, g2, ?_, fun j hj => ?_, fun j hj => ?_, fun j hj => ?_⟩
    · rw [g6 0 5 (by omega)]; exact h1
    · rw [g6 0 6 (by omega)]; exact h2
    · rw [g6 0 8 (by omega), g6 0 9 (by omega)]; exact h4
    · rw [g7 4 (by omega)]; exact h5 j hj
    · rw [g7 5 (by omega), g7 6 (by omega)]; exact h6 j hj
    · have hj : j < dO d - 1 := hj
      rw [g3, g4, g5]
      exact ⟨shI_nI (fun k hk => (h7 k hk).1) hj, shI_nI (fun k hk => (h7 k hk).2.1) hj, shI_nI (fun k hk => (h7 k hk).2.2) hj⟩
theorem Sim_release_ok : Sim_release Rel := by
  intro σ τ hR x1
  obtain ⟨d, e, q, tr, ft, hA⟩ := hR
  have hA0 := hA
  obtain ⟨⟨ok, h0⟩, hx, hm, -⟩ := hA
  refine BP.rwR ?_
  unfold f_X4_release f_X5_release
  refine bp_oath ok hx hm (BP.ret ⟨rfl, hA0.rel⟩) (fun i hi e1 => ?_)
  rw [if_neg one0, if_neg one0, e1]
  obtain ⟨σ', g1, g2, g3, g4⟩ := X_drop hx ok hi
  obtain ⟨τ', k1, k2, k3, -⟩ := M_off hm ok hi
  rw [g1, k1, ob2_some, ob2_some]
  refine BP.ret ⟨g2.2.2.1.trans k2.2.2.1.symm, ?_⟩
  exact (hA0.day (dropOa_ok ok hi) rfl rfl g2 k2 ⟨fun c k h => g3 c k (by omega), fun c h => g4 c (by omega)⟩ k3).rel
theorem Sim_back_ok : Sim_back Rel := by
  intro σ τ hR x1
  obtain ⟨d, e, q, tr, ft, hA⟩ := hR
  have hA0 := hA
  obtain ⟨okk, hx, hm, ⟨eo, ex, em⟩, ⟨qo, qx, qm⟩, ⟨t1, t2⟩, f1, f2⟩ := hA
  have h8 := eo.1
  refine BP.rwR ?_
  unfold f_X4_back f_X5_back f_X5_within
  rw [ex.1, em.1]
  rcases ix3 x1 (e.1 + 1) (by omega) with h | ⟨h, h2⟩ | ⟨j, hj, ej⟩
  · rw [if_pos h, if_pos h]; exact BP.ret ⟨rfl, hA0.rel⟩
  · rw [Int32.le_iff_toInt_le, nI_toInt (by omega)] at h2
    have h3 : nI e.1 < x1 := by rw [Int32.lt_iff_toInt_lt, nI_toInt (by omega)]; omega
    have h4 : ¬ x1 ≤ nI e.1 := by rw [Int32.le_iff_toInt_le, nI_toInt (by omega)]; omega
    rw [if_neg h, if_neg h, if_pos h3, if_neg h4]; exact BP.ret ⟨rfl, hA0.rel⟩
  · rw [ej, if_neg (nI_nneg (by omega)), if_neg (nI_nneg (by omega)), if_pos (by rw [le_nI (by omega) (by omega)]; omega), if_neg (by rw [lt_nI (by omega) (by omega)]; omega), ob1_some, if_neg one0, pk_sub (by omega)]
    refine BP.ret ⟨?_, d, (e.1 - j, e.2), q, tr, ft, okk, DX_sF (by decide) hx, DM_sF (by decide) hm, ⟨⟨?_, fun k hk => eo.2 k ?_⟩, ⟨?_, fun k hk => ex.2 k ?_⟩, ⟨?_, fun k hk => em.2 k ?_⟩⟩, ⟨qo, QX_sF (by decide) qx, QM_sF qm⟩, ⟨?_, ?_⟩, ?_, ?_⟩
    · rw [gF_sF, gF_sF, if_pos ⟨rfl, rfl⟩, if_pos ⟨rfl, rfl⟩]
    · show e.1 - j ≤ 8
      omega
    · have : k < e.1 - j := hk
      omega
    · rw [gF_sF, if_pos ⟨rfl, rfl⟩]
    · have : k < e.1 - j := hk
      omega
    · rw [gF_sF, if_pos ⟨rfl, rfl⟩]
    · have : k < e.1 - j := hk
      omega
    · rw [gF_sF, if_neg (by decide)]; exact t1
    · rw [gF_sF, if_neg (by decide)]; exact t2
    · rw [gF_sF, if_neg (by decide)]; exact f1
    · rw [gF_sF, if_neg (by decide)]; exact f2
theorem Sim_as_ok : Sim_as Rel := by
  intro σ τ hR x1 x2
  obtain ⟨d, e, q, tr, ft, hA⟩ := hR
  have hA1 := hA.ft 0
  have hA0 := hA1
  obtain ⟨⟨ok, h0⟩, hx, hm, -⟩ := hA1
  have h4 := ok.2.1
  refine BP.rwR ?_
  unfold f_X4_as f_X5_as
  refine bp_swr ok hx hm (BP.ret ⟨rfl, hA0.rel⟩) (fun s hs e1 => ?_)
  rw [if_neg one0, if_neg one0]
  unfold f_X5_within
  by_cases c1 : x2 < 0
  · rw [if_pos c1, if_pos c1]; exact BP.ret ⟨rfl, hA0.rel⟩
  · rw [if_neg c1, if_neg c1]
    by_cases c2 : (2 : Int32) < x2
    · rw [if_neg (fun z => absurd c2 (Int32.not_lt.mpr z)), if_pos c2]; exact BP.ret ⟨rfl, hA0.rel⟩
    · rw [if_pos (Int32.not_lt.mp c2), if_neg c2, ob1_some, if_neg one0, e1]
      refine oin_L (by omega) (by decide) (oin_R (by omega) (by decide) ?_)
      rw [cl s (by omega), (hx.2.2.2.2.2.1 s hs).1, (hm.2.2.2.2.2.1 s hs).1]
      refine BP.ite (fun _ => ?_) (fun _ => BP.ret ⟨rfl, hA0.rel⟩)
      exact BP.ret ⟨rfl, (hA0.ft 2).rel⟩
theorem Sim_tell_ok : Sim_tell Rel := by
  intro σ τ hR x1
  obtain ⟨d, e, q, tr, ft, hA⟩ := hR
  have hA0 := hA
  obtain ⟨⟨ok, h0⟩, hx, hm, -, -, ⟨t1, t2⟩, -⟩ := hA
  have h4 := ok.2.1
  refine BP.rwR ?_
  unfold f_X4_tell f_X5_tell
  refine bp_swr ok hx hm (BP.ret ⟨rfl, hA0.rel⟩) (fun s hs e1 => ?_)
  have o1 : ∀ z : Option (Int32 × SX), oin (nI s) 4 z = z := fun z => oin_nI z (by omega) (by decide)
  have kx := hx.2.2.2.2.2.1 s hs
  have km := hm.2.2.2.2.2.1 s hs
  have hct := (ok.2.2.2.2.1 s hs).2
  rw [if_neg one0, if_neg one0, e1]
  unfold f_X4_doubleBody f_X4_beardedBody f_X4_plainBody f_X4_leaveInTrace f_X5_begins
  simp only [o1, ob2_some, gR_sF, cl s (by omega), kx.1, kx.2, km.1, km.2, gF_sF, t1, t2, and_self, ↓reduceIte]
  refine BP.ite (fun _ => ?_) (fun _ => BP.ite (fun _ => ?_) (fun _ => ?_))
  · exact BP.ret ⟨rfl, ((hA0.tr _).tr _).rel⟩
  · refine BP.ret ⟨?_, ((((hA0.tr _).tr _).tr _).tr _).rel⟩
    show nI (dCt d s) + 100 + nI (dCt d s) = 2 * nI (dCt d s) + 100
    have : ∀ c, c < 10 → nI c + (100 : Int32) + nI c = 2 * nI c + 100 := by decide +kernel
    exact this _ (by omega)
  · exact BP.ret ⟨rfl, (hA0.tr _).rel⟩
theorem Sim_pinch_ok : Sim_pinch Rel := by
  intro σ τ hR x1
  obtain ⟨d, e, q, tr, ft, hA⟩ := hR
  have hA0 := hA
  obtain ⟨⟨ok, h0⟩, hx, hm, -, -, ⟨t1, t2⟩, -⟩ := hA
  have h4 := ok.2.1
  refine BP.rwR ?_
  unfold f_X4_pinch f_X5_pinch
  refine bp_swr ok hx hm (BP.ret ⟨rfl, hA0.rel⟩) (fun s hs e1 => ?_)
  have o1 : ∀ z : Option (Int32 × SX), oin (nI s) 4 z = z := fun z => oin_nI z (by omega) (by decide)
  have kx := hx.2.2.2.2.2.1 s hs
  have km := hm.2.2.2.2.2.1 s hs
  rw [if_neg one0, if_neg one0, e1]
  have hA4 := hA0.tr (31 * tr + 4)
  unfold f_X4_doublePinch f_X4_lentPinch f_X4_leaveInTrace f_X5_begins
  simp only [o1, ob2_some, gR_sF, cl s (by omega), kx.1, km.1, t1, t2]
  by_cases c : nI (dKd d s) = (2 : Int32)
  · simp only [if_pos c]
    exact BP.ret ⟨rfl, (hA0.tr _).rel⟩
  · simp only [if_neg c]
    rw [X_oathsBy hA4.2.1 ok hs, M_swornBy hA4.2.2.1 ok hs, ob1_some, ob1_some, bitCount_ok _ (sN_le64 _ ok.2.2.1), size_ok _ (sN_le64 _ ok.2.2.1)]
    exact BP.ret ⟨rfl, hA4.rel⟩
