/-! ===== reading a day: the text, the place, what is read so far ===== -/
def FR (τ τ' : SX) : Prop := (∀ j, (j < 16 ∨ 19 < j) → gF τ' 0 j = gF τ 0 j) ∧ (∀ c, (c < 10 ∨ 12 < c) → gR τ' c = gR τ c)
theorem FR.refl {τ : SX} : FR τ τ := ⟨fun _ _ => rfl, fun _ _ => rfl⟩
theorem FR.trans {a b c : SX} (h : FR a b) (g : FR b c) : FR a c := ⟨fun k q => (g.1 k q).trans (h.1 k q), fun x q => (g.2 x q).trans (h.2 x q)⟩
theorem FR_sF {τ : SX} {k : Nat} {v : Int32} (h : 16 ≤ k ∧ k ≤ 19) : FR τ (sF τ 0 k v) := ⟨fun x q => by rw [gF_sF, if_neg (by omega)], fun _ _ => rfl⟩
theorem FR_sR {τ : SX} {c : Nat} {f : Nat → Int32} (h : 10 ≤ c ∧ c ≤ 12) : FR τ (sR τ c f) := ⟨fun _ _ => rfl, fun x q => by rw [gR_sR, if_neg (by omega)]⟩
def TX (f : Nat → Int32) (k z a m : Nat) (σ0 τ0 : SX) : Prop := (k < 4 ∧ z ≤ 60 ∧ a + m ≤ z) ∧ gF σ0 (2 + 2 * k) 3 = nI z ∧ (∀ i, i < 60 → gR σ0 (2 + 2 * k + 1) i = f i) ∧ (∀ i, i < 60 → gR τ0 3 (60 * k + i) = f i)
def PXM (k a m p : Nat) (σ0 τ0 σ τ : SX) : Prop := p ≤ m ∧ (gF σ 24 0 = nI p ∧ gF σ 24 2 = nI a ∧ gF σ 24 3 = nI m) ∧ FD σ0 σ ∧ gF τ 0 16 = nI (60 * k + a + p) ∧ FR τ0 τ
def RM (τ : SX) (d : DV) : Prop := gF τ 0 17 = nI (dH d) ∧ gF τ 0 18 = nI (dS d) ∧ gF τ 0 19 = nI (dO d) ∧ (∀ j, j < dH d → gR τ 10 j = nI (dFr d j)) ∧ (∀ j, j < dS d → gR τ 11 (2 * j) = nI (dKd d j) ∧ gR τ 11 (2 * j + 1) = nI (dCt d j)) ∧ (∀ j, j < dO d → gR τ 12 (3 * j) = nI (dBy d j) ∧ gR τ 12 (3 * j + 1) = nI (dTo d j) ∧ gR τ 12 (3 * j + 2) = nI (dWh d j))
def VW (d : DV) (σ τ : SX) : Prop := dOk d ∧ dV d = none ∧ DX 17 σ d ∧ RM τ d
def addHo (d : DV) (v : Nat) : DV := (dH d + 1, dS d, dO d, dV d, upN (dFr d) (dH d) v, dKd d, dCt d, dBy d, dTo d, dWh d)
def addSw (d : DV) (q v : Nat) : DV := (dH d, dS d + 1, dO d, dV d, dFr d, upN (dKd d) (dS d) q, upN (dCt d) (dS d) v, dBy d, dTo d, dWh d)
theorem addHo_ok {d : DV} (ok : dOk d) {v : Nat} (h6 : dH d < 6) (hv : v ≤ 9) : dOk (addHo d v) := by
  obtain ⟨h1, h2, h3, h4, h5, h6', h7⟩ := ok
  refine ⟨?_, h2, h3, fun j hj => ?_, h5, fun j hj => ?_, fun z hz => ?_⟩
  · show dH d + 1 ≤ 6
    omega
  · have hj : j < dH d + 1 := hj
    show upN (dFr d) (dH d) v j ≤ 9
    rw [upN_at]
    by_cases c : j = dH d
    · rw [if_pos c]; exact hv
    · rw [if_neg c]; exact h4 j (by omega)
  · obtain ⟨a1, a2, a3, a4⟩ := h6' j hj
    exact ⟨a1, a2, a3, Nat.lt_succ_of_lt a4⟩
  · obtain ⟨a1, a2⟩ := h7 z hz
    exact ⟨Nat.lt_succ_of_lt a1, a2⟩
theorem addSw_ok {d : DV} (ok : dOk d) {q v : Nat} (h4s : dS d < 4) (hq : q ≤ 2) (hv : v ≤ 9) : dOk (addSw d q v) := by
  obtain ⟨h1, h2, h3, h4, h5, h6', h7⟩ := ok
  refine ⟨h1, ?_, h3, h4, fun j hj => ?_, fun j hj => ?_, h7⟩
  · show dS d + 1 ≤ 4
    omega
  · have hj : j < dS d + 1 := hj
    show upN (dKd d) (dS d) q j ≤ 2 ∧ upN (dCt d) (dS d) v j ≤ 9
    rw [upN_at, upN_at]
    by_cases c : j = dS d
    · rw [if_pos c, if_pos c]; exact ⟨hq, hv⟩
    · rw [if_neg c, if_neg c]; exact h5 j (by omega)
  · obtain ⟨a1, a2, a3, a4⟩ := h6' j hj
    exact ⟨Nat.lt_succ_of_lt a1, Nat.lt_succ_of_lt a2, a3, a4⟩
theorem X_addHour {b : Nat} {σ : SX} {d : DV} (hd : DX b σ d) (hH : dH d < 6) (v : Nat) : ∃ σ', f_X0_addHour σ b (nI v) = some ((), σ') ∧ DX b σ' (addHo d v) ∧ (∀ c k, c ≠ b → gF σ' c k = gF σ c k) ∧ (∀ c, (c ≤ b ∨ b + 6 < c) → gR σ' c = gR σ c) := by
  obtain ⟨h1, h2, h3, h4, h5, h6, h7⟩ := hd
  unfold f_X0_addHour
  rw [h1, if_neg (by rw [show (6 : Int32) = nI 6 from rfl, le_nI (by decide) (by omega)]; omega), oin_nI _ hH (by decide)]
  simp only [gF_sR, h1, cl (dH d) (by omega), nI_1]
  refine ⟨_, rfl, ⟨?_, ?_, ?_, ?_, fun j hj => ?_, fun j hj => ?_, fun j hj => ?_⟩, fun c k hc => ?_, fun c hc => ?_⟩
  · rw [gF_sF, if_pos ⟨rfl, rfl⟩]; rfl
  · rw [gF_sF, if_neg (by omega)]; exact h2
  · rw [gF_sF, if_neg (by omega)]; exact h3
  · rw [gF_sF, gF_sF, if_neg (by omega), if_neg (by omega)]; exact h4
  · have hj : j < dH d + 1 := hj
    simp only [gR_sF, gR_sR, ↓reduceIte]
    show upd (gR σ (b + 1)) (dH d) (nI v) j = nI (upN (dFr d) (dH d) v j)
    rw [upd_at, upN_at]
    by_cases c : j = dH d
    · rw [if_pos c, if_pos c]
    · rw [if_neg c, if_neg c]; exact h5 j (by omega)
  · simp only [gR_sF, gR_sR]
    rw [if_neg (by omega), if_neg (by omega)]; exact h6 j hj
  · simp only [gR_sF, gR_sR]
    rw [if_neg (by omega), if_neg (by omega), if_neg (by omega)]; exact h7 j hj
  · rw [gF_sF, if_neg (fun q => hc q.1)]; rfl
  · simp only [gR_sF, gR_sR]
    rw [if_neg (by omega)]
theorem X_addSwearer {b : Nat} {σ : SX} {d : DV} (hd : DX b σ d) (hS : dS d < 4) (q v : Nat) : ∃ σ', f_X0_addSwearer σ b (nI q) (nI v) = some ((), σ') ∧ DX b σ' (addSw d q v) ∧ (∀ c k, c ≠ b → gF σ' c k = gF σ c k) ∧ (∀ c, (c ≤ b ∨ b + 6 < c) → gR σ' c = gR σ c) := by
  obtain ⟨h1, h2, h3, h4, h5, h6, h7⟩ := hd
  have e1 : ∀ k : Option (Unit × SX), oin (nI (dS d)) 4 k = k := fun k => oin_nI k hS (by decide)
  unfold f_X0_addSwearer
  rw [h2, if_neg (by rw [show (4 : Int32) = nI 4 from rfl, le_nI (by decide) (by omega)]; omega)]
  simp only [gF_sR, h2, e1, cl (dS d) (by omega), nI_1]
  refine ⟨_, rfl, ⟨?_, ?_, ?_, ?_, fun j hj => ?_, fun j hj => ?_, fun j hj => ?_⟩, fun c k hc => ?_, fun c hc => ?_⟩
  · rw [gF_sF, if_neg (by omega)]; exact h1
  · rw [gF_sF, if_pos ⟨rfl, rfl⟩]; rfl
  · rw [gF_sF, if_neg (by omega)]; exact h3
  · rw [gF_sF, gF_sF, if_neg (by omega), if_neg (by omega)]; exact h4
  · simp only [gR_sF, gR_sR]
    rw [if_neg (by omega), if_neg (by omega)]; exact h5 j hj
  · have hj : j < dS d + 1 := hj
    simp only [gR_sF, gR_sR, show ¬ b + 2 = b + 3 by omega, show ¬ b + 3 = b + 2 by omega, ↓reduceIte]
    show upd (gR σ (b + 2)) (dS d) (nI q) j = nI (upN (dKd d) (dS d) q j) ∧ upd (gR σ (b + 3)) (dS d) (nI v) j = nI (upN (dCt d) (dS d) v j)
    simp only [upd_at, upN_at]
    by_cases c : j = dS d
    · simp only [if_pos c]; exact ⟨trivial, trivial⟩
    · simp only [if_neg c]; exact h6 j (by omega)
  · simp only [gR_sF, gR_sR]
    rw [if_neg (by omega), if_neg (by omega), if_neg (by omega), if_neg (by omega), if_neg (by omega), if_neg (by omega)]; exact h7 j hj
  · rw [gF_sF, if_neg (fun q => hc q.1)]; rfl
  · simp only [gR_sF, gR_sR]
    rw [if_neg (by omega), if_neg (by omega)]
theorem X_clear {σ : SX} : ∃ σ', f_X0_clear σ 17 = some ((), σ') ∧ DX 17 σ' d0 ∧ (∀ c k, c ≠ 17 → gF σ' c k = gF σ c k) ∧ (∀ c, gR σ' c = gR σ c) := by
  unfold f_X0_clear f_X0_putStove
  refine ⟨_, rfl, ⟨?_, ?_, ?_, ?_, fun j hj => absurd hj (Nat.not_lt_zero _), fun j hj => absurd hj (Nat.not_lt_zero _), fun j hj => absurd hj (Nat.not_lt_zero _)⟩, fun c k hc => ?_, fun c => rfl⟩
  · simp only [gF_sF]; rw [if_neg (by decide), if_neg (by decide), if_neg (by decide), if_neg (by decide), if_pos (by decide)]; rfl
  · simp only [gF_sF]; rw [if_neg (by decide), if_neg (by decide), if_neg (by decide), if_pos (by decide)]; rfl
  · simp only [gF_sF]; rw [if_neg (by decide), if_neg (by decide), if_pos (by decide)]; rfl
  · show gF (sF (sF (sF (sF (sF σ 17 0 0) 17 1 0) 17 2 0) 17 3 (-9)) 17 4 0) 17 3 = -9
    rw [gF_sF, if_neg (by decide), gF_sF, if_pos (by decide)]
  · simp only [gF_sF, hc, false_and, ↓reduceIte]
/-- what of the reference's readings is written -/
theorem RM_16 {τ : SX} {d : DV} {v : Int32} (h : RM τ d) : RM (sF τ 0 16 v) d := by
  unfold RM
  rw [gF_sF, if_neg (by decide), gF_sF, if_neg (by decide), gF_sF, if_neg (by decide)]
  exact h
theorem RM_hour {τ : SX} {d : DV} (h : RM τ d) (v : Nat) : RM (sF (sR τ 10 (upd (gR τ 10) (dH d) (nI v))) 0 17 (nI (dH d + 1))) (addHo d v) := by
  obtain ⟨h1, h2, h3, h4, h5, h6⟩ := h
  refine ⟨?_, ?_, ?_, fun j hj => ?_, fun j hj => ?_, fun j hj => ?_⟩
  · rw [gF_sF, if_pos ⟨rfl, rfl⟩]; rfl
  · rw [gF_sF, if_neg (by decide)]; exact h2
  · rw [gF_sF, if_neg (by decide)]; exact h3
  · have hj : j < dH d + 1 := hj
    rw [gR_sF, gR_sR, if_pos rfl]
    show upd (gR τ 10) (dH d) (nI v) j = nI (upN (dFr d) (dH d) v j)
    rw [upd_at, upN_at]
    by_cases c : j = dH d
    · rw [if_pos c, if_pos c]
    · rw [if_neg c, if_neg c]; exact h4 j (by omega)
  · simp only [gR_sF, gR_sR]
    rw [if_neg (by decide)]; exact h5 j hj
  · simp only [gR_sF, gR_sR]
    rw [if_neg (by decide)]; exact h6 j hj
theorem RM_sw {τ τ' : SX} {d : DV} (h : RM τ d) {q v : Nat} (h17 : gF τ' 0 17 = gF τ 0 17) (h18 : gF τ' 0 18 = nI (dS d + 1)) (h19 : gF τ' 0 19 = gF τ 0 19) (r10 : gR τ' 10 = gR τ 10) (r12 : gR τ' 12 = gR τ 12) (r11 : ∀ i, gR τ' 11 i = if i = 2 * dS d + 1 then nI v else if i = 2 * dS d then nI q else gR τ 11 i) : RM τ' (addSw d q v) := by
  obtain ⟨h1, h2, h3, h4, h5, h6⟩ := h
  refine ⟨h17.trans h1, h18, h19.trans h3, fun j hj => ?_, fun j hj => ?_, fun j hj => ?_⟩
  · rw [r10]; exact h4 j hj
  · have hj : j < dS d + 1 := hj
    show gR τ' 11 (2 * j) = nI (upN (dKd d) (dS d) q j) ∧ gR τ' 11 (2 * j + 1) = nI (upN (dCt d) (dS d) v j)
    rw [r11, r11, upN_at, upN_at]
    by_cases c : j = dS d
    · rw [if_neg (by omega), if_pos (by omega), if_pos c, if_pos (by omega), if_pos c]; exact ⟨rfl, rfl⟩
    · rw [if_neg (by omega), if_neg (by omega), if_neg c, if_neg (by omega), if_neg (by omega), if_neg c]; exact h5 j (by omega)
  · rw [r12]; exact h6 j hj
theorem RM_oa {τ τ' : SX} {d : DV} (h : RM τ d) {s t w : Nat} (h17 : gF τ' 0 17 = gF τ 0 17) (h18 : gF τ' 0 18 = gF τ 0 18) (h19 : gF τ' 0 19 = nI (dO d + 1)) (r10 : gR τ' 10 = gR τ 10) (r11 : gR τ' 11 = gR τ 11) (r12 : ∀ i, gR τ' 12 i = if i = 3 * dO d + 2 then nI w else if i = 3 * dO d + 1 then nI t else if i = 3 * dO d then nI s else gR τ 12 i) : RM τ' (addOa d s t w) := by
  obtain ⟨h1, h2, h3, h4, h5, h6⟩ := h
  refine ⟨h17.trans h1, h18.trans h2, h19, fun j hj => ?_, fun j hj => ?_, fun j hj => ?_⟩
  · rw [r10]; exact h4 j hj
  · rw [r11]; exact h5 j hj
  · have hj : j < dO d + 1 := hj
    show gR τ' 12 (3 * j) = nI (upN (dBy d) (dO d) s j) ∧ gR τ' 12 (3 * j + 1) = nI (upN (dTo d) (dO d) t j) ∧ gR τ' 12 (3 * j + 2) = nI (upN (dWh d) (dO d) w j)
    rw [r12, r12, r12, upN_at, upN_at, upN_at]
    by_cases c : j = dO d
    · rw [if_neg (by omega), if_neg (by omega), if_pos (by omega), if_pos c, if_neg (by omega), if_pos (by omega), if_pos c, if_pos (by omega), if_pos c]; exact ⟨rfl, rfl, rfl⟩
    · rw [if_neg (by omega), if_neg (by omega), if_neg (by omega), if_neg c, if_neg (by omega), if_neg (by omega), if_neg (by omega), if_neg c, if_neg (by omega), if_neg (by omega), if_neg (by omega), if_neg c]; exact h6 j (by omega)
section TXT
variable {f : Nat → Int32} {k z a m p : Nat} {σ0 τ0 σ τ : SX}
theorem PXM.go (P : PXM k a m p σ0 τ0 σ τ) (h : p < m) : PXM k a m (p + 1) σ0 τ0 (sF σ 24 0 (nI (p + 1))) (sF τ 0 16 (nI (60 * k + a + (p + 1)))) := by
  obtain ⟨h1, ⟨h2, h3, h4⟩, h5, h6, h7⟩ := P
  refine ⟨h, ⟨?_, ?_, ?_⟩, h5.trans (FD_sF (by omega)), ?_, h7.trans (FR_sF (by omega))⟩
  · rw [gF_sF, if_pos ⟨rfl, rfl⟩]
  · rw [gF_sF, if_neg (by decide)]; exact h3
  · rw [gF_sF, if_neg (by decide)]; exact h4
  · rw [gF_sF, if_pos ⟨rfl, rfl⟩]
theorem PXM.X {σ' : SX} (P : PXM k a m p σ0 τ0 σ τ) (h1 : ∀ c k, c ≠ 17 → gF σ' c k = gF σ c k) (h2 : ∀ c, (c ≤ 17 ∨ 17 + 6 < c) → gR σ' c = gR σ c) : PXM k a m p σ0 τ0 σ' τ := by
  obtain ⟨q1, ⟨q2, q3, q4⟩, q5, q6, q7⟩ := P
  exact ⟨q1, ⟨(h1 24 0 (by decide)).trans q2, (h1 24 2 (by decide)).trans q3, (h1 24 3 (by decide)).trans q4⟩, q5.trans (FD_off h1 h2), q6, q7⟩
theorem PXM.M {τ' : SX} (P : PXM k a m p σ0 τ0 σ τ) (h : FR τ τ') (e : gF τ' 0 16 = gF τ 0 16) : PXM k a m p σ0 τ0 σ τ' := by
  obtain ⟨q1, q2, q5, q6, q7⟩ := P
  exact ⟨q1, q2, q5, e.trans q6, q7.trans h⟩
theorem X_pass_y (T : TX f k z a m σ0 τ0) (P : PXM k a m p σ0 τ0 σ τ) {c : Int32} (h : p < m) (e : f (a + p) = c) : f_X1_passes σ (2 + 2 * k) c = some (1, sF σ 24 0 (nI (p + 1))) := by
  obtain ⟨⟨t1, t2, t3⟩, t4, t5, t6⟩ := T
  unfold f_X1_passes f_X1_isAtEnd
  rw [P.2.1.1, P.2.1.2.1, P.2.1.2.2, if_pos (by rw [lt_nI (by omega) (by omega)]; exact h), ob1_some, if_pos rfl, nI_add, nI_1, cell_X (by omega) P.2.2.1 t4 t2 t5 (by omega), ob1_some, if_pos e]
theorem X_pass_n (T : TX f k z a m σ0 τ0) (P : PXM k a m p σ0 τ0 σ τ) {c : Int32} (h : ¬ (p < m ∧ f (a + p) = c)) : f_X1_passes σ (2 + 2 * k) c = some (0, σ) := by
  obtain ⟨⟨t1, t2, t3⟩, t4, t5, t6⟩ := T
  have hp := P.1
  unfold f_X1_passes f_X1_isAtEnd
  rw [P.2.1.1, P.2.1.2.1, P.2.1.2.2]
  by_cases c1 : p < m
  · rw [if_pos (by rw [lt_nI (by omega) (by omega)]; exact c1), ob1_some, if_pos rfl, nI_add, cell_X (by omega) P.2.2.1 t4 t2 t5 (by omega), ob1_some, if_neg (fun q => h ⟨c1, q⟩)]
  · rw [if_neg (by rw [lt_nI (by omega) (by omega)]; exact c1), ob1_some, if_neg one0]
theorem M_sign_y (T : TX f k z a m σ0 τ0) (P : PXM k a m p σ0 τ0 σ τ) {c : Int32} (h : p < m) (e : f (a + p) = c) : f_X5_isSign τ (nI (60 * k + a + m)) c = some (1, sF τ 0 16 (nI (60 * k + a + (p + 1)))) := by
  obtain ⟨⟨t1, t2, t3⟩, t4, t5, t6⟩ := T
  obtain ⟨-, -, -, q6, q7⟩ := P
  unfold f_X5_isSign
  rw [q6, if_neg (by rw [le_nI (by omega) (by omega)]; omega), oin_nI _ (by omega) (by decide), cl _ (by omega), q7.2 3 (by omega), show 60 * k + a + p = 60 * k + (a + p) by omega, t6 _ (by omega), if_pos e, nI_1, show 60 * k + (a + p) + 1 = 60 * k + a + (p + 1) by omega]
theorem M_sign_n (T : TX f k z a m σ0 τ0) (P : PXM k a m p σ0 τ0 σ τ) {c : Int32} (h : ¬ (p < m ∧ f (a + p) = c)) : f_X5_isSign τ (nI (60 * k + a + m)) c = some (0, τ) := by
  obtain ⟨⟨t1, t2, t3⟩, t4, t5, t6⟩ := T
  obtain ⟨q1, -, -, q6, q7⟩ := P
  unfold f_X5_isSign
  by_cases c1 : p < m
  · rw [q6, if_neg (by rw [le_nI (by omega) (by omega)]; omega), oin_nI _ (by omega) (by decide), cl _ (by omega), q7.2 3 (by omega), show 60 * k + a + p = 60 * k + (a + p) by omega, t6 _ (by omega), if_neg (fun q => h ⟨c1, q⟩)]
  · rw [q6, if_pos (by rw [le_nI (by omega) (by omega)]; omega)]
theorem dig3 (x : Int32) (N : Nat) (hN : N ≤ 10) : (∃ v, v < N ∧ x = nI (48 + v)) ∨ (x < 48 ∨ (¬ x < 48 ∧ nI (48 + N) ≤ x)) := by
  by_cases c : x < 48
  · exact Or.inr (Or.inl c)
  · rcases ix3 x (48 + N) (by omega) with q | ⟨_, q⟩ | ⟨j, hj, q⟩
    · exfalso
      apply c
      rw [Int32.lt_iff_toInt_lt] at q ⊢
      have a1 : (48 : Int32).toInt = 48 := by decide
      have a2 : (0 : Int32).toInt = 0 := by decide
      omega
    · exact Or.inr (Or.inr ⟨c, q⟩)
    · have h48 : 48 ≤ j := by
        rcases Nat.lt_or_ge j 48 with w | w
        · exact absurd (show x < 48 by rw [q]; exact (nI_ltI (b := 48) (by omega) (by decide)).mpr w) c
        · exact w
      exact Or.inl ⟨j - 48, by omega, by rw [q]; exact congrArg nI (by omega)⟩
theorem X_dig (T : TX f k z a m σ0 τ0) (P : PXM k a m p σ0 τ0 σ τ) {N : Nat} (hN : N ≤ 10) {v : Nat} (h : p < m) (hv : v < N) (e : f (a + p) = nI (48 + v)) (r : Int32) : f_X1_digitBelow σ (2 + 2 * k) (nI N) r = if nI (48 + v) = 48 + r then some (-9, σ) else some (nI v, sF σ 24 0 (nI (p + 1))) := by
  obtain ⟨⟨t1, t2, t3⟩, t4, t5, t6⟩ := T
  unfold f_X1_digitBelow f_X1_isAtEnd
  rw [P.2.1.1, P.2.1.2.1, P.2.1.2.2, if_pos (by rw [lt_nI (by omega) (by omega)]; exact h), ob1_some, if_pos rfl, nI_add, nI_1, cell_X (by omega) P.2.2.1 t4 t2 t5 (by omega), ob1_some, e, if_neg (show ¬ nI (48 + v) < (48 : Int32) from fun q => by have := (nI_ltI (b := 48) (by omega) (by decide)).mp q; omega), show (48 : Int32) + nI N = nI (48 + N) from nI_add 48 N, if_neg (by rw [le_nI (by omega) (by omega)]; omega), show nI (48 + v) - (48 : Int32) = nI v from by rw [show (48 : Int32) = nI 48 from rfl, pk_sub (by omega)]; exact congrArg nI (by omega)]
theorem X_dig_n (T : TX f k z a m σ0 τ0) (P : PXM k a m p σ0 τ0 σ τ) {N : Nat} (hN : N ≤ 10) (h : ¬ (p < m ∧ ∃ v, v < N ∧ f (a + p) = nI (48 + v))) (r : Int32) : f_X1_digitBelow σ (2 + 2 * k) (nI N) r = some (-9, σ) := by
  obtain ⟨⟨t1, t2, t3⟩, t4, t5, t6⟩ := T
  have hp := P.1
  unfold f_X1_digitBelow f_X1_isAtEnd
  rw [P.2.1.1, P.2.1.2.1, P.2.1.2.2]
  by_cases c1 : p < m
  · rw [if_pos (by rw [lt_nI (by omega) (by omega)]; exact c1), ob1_some, if_pos rfl, nI_add, cell_X (by omega) P.2.2.1 t4 t2 t5 (by omega), ob1_some]
    rcases dig3 (f (a + p)) N hN with q | q | ⟨q, q2⟩
    · exact absurd ⟨c1, q⟩ h
    · rw [if_pos q]
    · rw [if_neg q, show (48 : Int32) + nI N = nI (48 + N) from nI_add 48 N, if_pos q2]
  · rw [if_neg (by rw [lt_nI (by omega) (by omega)]; exact c1), ob1_some, if_neg one0]
theorem M_dig (T : TX f k z a m σ0 τ0) (P : PXM k a m p σ0 τ0 σ τ) {N : Nat} (hN : N ≤ 10) {v : Nat} (h : p < m) (hv : v < N) (e : f (a + p) = nI (48 + v)) : f_X5_digit τ (nI (60 * k + a + m)) (nI (N - 1)) = some (nI v, sF τ 0 16 (nI (60 * k + a + (p + 1)))) := by
  obtain ⟨⟨t1, t2, t3⟩, t4, t5, t6⟩ := T
  obtain ⟨q1, -, -, q6, q7⟩ := P
  have ec : gR τ 3 (60 * k + a + p) = nI (48 + v) := by
    rw [q7.2 3 (by omega), show 60 * k + a + p = 60 * k + (a + p) by omega, t6 _ (by omega)]; exact e
  unfold f_X5_digit f_X5_within
  rw [q6, if_neg (by rw [le_nI (by omega) (by omega)]; omega), oin_nI _ (by omega) (by decide), cl _ (by omega), ec, if_neg (show ¬ nI (48 + v) < (48 : Int32) from fun q => by have := (nI_ltI (b := 48) (by omega) (by decide)).mp q; omega), show (48 : Int32) + nI (N - 1) = nI (48 + (N - 1)) from nI_add 48 (N - 1), if_neg (by rw [lt_nI (by omega) (by omega)]; omega), show ∀ w : Int32 → Option (Int32 × SX), ob1 (some (1 : Int32)) w = w 1 from fun _ => rfl, if_neg one0, nI_1, gF_sF, if_pos ⟨rfl, rfl⟩, nI_pred1 (by omega), show 60 * k + a + p + 1 - 1 = 60 * k + a + p by omega, oin_nI _ (by omega) (by decide), cl _ (by omega), gR_sF, ec, show nI (48 + v) - (48 : Int32) = nI v from by rw [show (48 : Int32) = nI 48 from rfl, pk_sub (by omega)]; exact congrArg nI (by omega)]
  rfl
theorem M_dig_n (T : TX f k z a m σ0 τ0) (P : PXM k a m p σ0 τ0 σ τ) {N : Nat} (hN : N ≤ 10) (h0 : 0 < N) (h : ¬ (p < m ∧ ∃ v, v < N ∧ f (a + p) = nI (48 + v))) : f_X5_digit τ (nI (60 * k + a + m)) (nI (N - 1)) = some (-9, τ) := by
  obtain ⟨⟨t1, t2, t3⟩, t4, t5, t6⟩ := T
  obtain ⟨q1, -, -, q6, q7⟩ := P
  unfold f_X5_digit f_X5_within
  by_cases c1 : p < m
  · have ec : gR τ 3 (60 * k + a + p) = f (a + p) := by
      rw [q7.2 3 (by omega), show 60 * k + a + p = 60 * k + (a + p) by omega, t6 _ (by omega)]
    rw [q6, if_neg (by rw [le_nI (by omega) (by omega)]; omega), oin_nI _ (by omega) (by decide), cl _ (by omega), ec]
    rcases dig3 (f (a + p)) N hN with q | q | ⟨q, q2⟩
    · exact absurd ⟨c1, q⟩ h
    · rw [if_pos q]; rfl
    · rw [if_neg q, show (48 : Int32) + nI (N - 1) = nI (48 + (N - 1)) from nI_add 48 (N - 1), if_pos]
      · rfl
      · rw [Int32.le_iff_toInt_le, nI_toInt (by omega)] at q2
        rw [Int32.lt_iff_toInt_lt, nI_toInt (by omega)]
        omega
  · rw [q6, if_pos (by rw [le_nI (by omega) (by omega)]; omega)]
end TXT
