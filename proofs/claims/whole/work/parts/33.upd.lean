/-! ===== what changes, and what doesn't ===== -/
def upN (f : Nat → Nat) (k v : Nat) : Nat → Nat := fun j => if j = k then v else f j
theorem upN_at (f : Nat → Nat) (k v j : Nat) : upN f k v j = if j = k then v else f j := rfl
theorem upd_nI {f : Nat → Int32} {g : Nat → Nat} {k v : Nat} {j : Nat} (h : f j = nI (g j)) : upd f k (nI v) j = nI (upN g k v j) := by
  rw [upd_at, upN_at]
  split
  · rfl
  · exact h
def setCt (d : DV) (s v : Nat) : DV := (dH d, dS d, dO d, dV d, dFr d, dKd d, upN (dCt d) s v, dBy d, dTo d, dWh d)
def setKd (d : DV) (s v : Nat) : DV := (dH d, dS d, dO d, dV d, dFr d, upN (dKd d) s v, dCt d, dBy d, dTo d, dWh d)
def setFr (d : DV) (h v : Nat) : DV := (dH d, dS d, dO d, dV d, upN (dFr d) h v, dKd d, dCt d, dBy d, dTo d, dWh d)
def setSv (d : DV) (o : Option (Nat × Nat)) : DV := (dH d, dS d, dO d, o, dFr d, dKd d, dCt d, dBy d, dTo d, dWh d)
def addOa (d : DV) (s t h : Nat) : DV := (dH d, dS d, dO d + 1, dV d, dFr d, dKd d, dCt d, upN (dBy d) (dO d) s, upN (dTo d) (dO d) t, upN (dWh d) (dO d) h)
def shf (f : Nat → Nat) (i : Nat) : Nat → Nat := fun j => if i ≤ j then f (j + 1) else f j
def dropOa (d : DV) (i : Nat) : DV := (dH d, dS d, dO d - 1, dV d, dFr d, dKd d, dCt d, shf (dBy d) i, shf (dTo d) i, shf (dWh d) i)
theorem setCt_ok {d : DV} (ok : dOk d) {s v : Nat} (hv : v ≤ 9) : dOk (setCt d s v) := by
  obtain ⟨h1, h2, h3, h4, h5, h6, h7⟩ := ok
  refine ⟨h1, h2, h3, h4, fun j hj => ⟨(h5 j hj).1, ?_⟩, h6, h7⟩
  show upN (dCt d) s v j ≤ 9
  rw [upN_at]
  split
  · exact hv
  · exact (h5 j hj).2
theorem setKd_ok {d : DV} (ok : dOk d) {s v : Nat} (hv : v ≤ 2) : dOk (setKd d s v) := by
  obtain ⟨h1, h2, h3, h4, h5, h6, h7⟩ := ok
  refine ⟨h1, h2, h3, h4, fun j hj => ⟨?_, (h5 j hj).2⟩, h6, h7⟩
  show upN (dKd d) s v j ≤ 2
  rw [upN_at]
  split
  · exact hv
  · exact (h5 j hj).1
theorem setFr_ok {d : DV} (ok : dOk d) {s v : Nat} (hv : v ≤ 9) : dOk (setFr d s v) := by
  obtain ⟨h1, h2, h3, h4, h5, h6, h7⟩ := ok
  refine ⟨h1, h2, h3, fun j hj => ?_, h5, h6, h7⟩
  show upN (dFr d) s v j ≤ 9
  rw [upN_at]
  split
  · exact hv
  · exact h4 j hj
theorem setSv_ok {d : DV} (ok : dOk d) {o : Option (Nat × Nat)} (hv : ∀ z, o = some z → z.1 < dH d ∧ z.2 ≤ 9) : dOk (setSv d o) := by
  obtain ⟨h1, h2, h3, h4, h5, h6, h7⟩ := ok
  exact ⟨h1, h2, h3, h4, h5, h6, hv⟩
theorem addOa_ok {d : DV} (ok : dOk d) {s t h : Nat} (h6 : dO d < 6) (hs : s < dS d) (ht : t < dS d) (hst : s ≠ t) (hh : h < dH d) : dOk (addOa d s t h) := by
  obtain ⟨h1, h2, h3, h4, h5, h6', h7⟩ := ok
  refine ⟨h1, h2, ?_, h4, h5, fun j hj => ?_, h7⟩
  · show dO d + 1 ≤ 6
    omega
  · have hj : j < dO d + 1 := hj
    show upN (dBy d) (dO d) s j < dS d ∧ upN (dTo d) (dO d) t j < dS d ∧ upN (dBy d) (dO d) s j ≠ upN (dTo d) (dO d) t j ∧ upN (dWh d) (dO d) h j < dH d
    simp only [upN_at]
    by_cases c : j = dO d
    · simp only [if_pos c]; exact ⟨hs, ht, hst, hh⟩
    · simp only [if_neg c]; exact h6' j (by omega)
theorem dropOa_ok {d : DV} (ok : dOk d) {i : Nat} (hi : i < dO d) : dOk (dropOa d i) := by
  obtain ⟨h1, h2, h3, h4, h5, h6', h7⟩ := ok
  refine ⟨h1, h2, ?_, h4, h5, fun j hj => ?_, h7⟩
  · show dO d - 1 ≤ 6
    omega
  · have hj : j < dO d - 1 := hj
    show shf (dBy d) i j < dS d ∧ shf (dTo d) i j < dS d ∧ shf (dBy d) i j ≠ shf (dTo d) i j ∧ shf (dWh d) i j < dH d
    unfold shf
    by_cases c : i ≤ j
    · simp only [if_pos c]; exact h6' (j + 1) (by omega)
    · simp only [if_neg c]; exact h6' j (by omega)
/-- what of another cell is written leaves a day -/
theorem DX_sF {b c k : Nat} {σ : SX} {v : Int32} {d : DV} (hc : c ≠ b) (h : DX b σ d) : DX b (sF σ c k v) d := by
  have e : ∀ j, gF (sF σ c k v) b j = gF σ b j := fun j => by rw [gF_sF, if_neg (fun q => hc q.1.symm)]
  unfold DX
  simp only [e, gR_sF]
  exact h
theorem DX_sR {b c : Nat} {σ : SX} {f : Nat → Int32} {d : DV} (hc : c ≤ b ∨ b + 6 < c) (h : DX b σ d) : DX b (sR σ c f) d := by
  have e : ∀ k, 1 ≤ k → k ≤ 6 → gR (sR σ c f) (b + k) = gR σ (b + k) := fun k h1 h2 => by rw [gR_sR, if_neg (by omega)]
  unfold DX
  rw [e 1 (by omega) (by omega), e 2 (by omega) (by omega), e 3 (by omega) (by omega), e 4 (by omega) (by omega), e 5 (by omega) (by omega), e 6 (by omega) (by omega)]
  exact h
theorem EX_sF {c k : Nat} {σ : SX} {v : Int32} {e : RD} (hc : c ≠ 25) (h : EX σ e) : EX (sF σ c k v) e := by
  unfold EX
  rw [gF_sF, if_neg (fun q => hc q.1.symm)]
  exact h
theorem EX_sR {c : Nat} {σ : SX} {f : Nat → Int32} {e : RD} (hc : c < 26 ∨ 28 < c) (h : EX σ e) : EX (sR σ c f) e := by
  unfold EX
  rw [gR_sR, gR_sR, gR_sR, if_neg (by omega), if_neg (by omega), if_neg (by omega)]
  exact h
theorem QX_sF {c k : Nat} {σ : SX} {v : Int32} {q : SHT} (hc : c < 2 ∨ 9 < c) (h : QX σ q) : QX (sF σ c k v) q := by
  intro j hj
  have e : ∀ i, gF (sF σ c k v) (2 + 2 * j) i = gF σ (2 + 2 * j) i := fun i => by rw [gF_sF, if_neg (fun q => by omega)]
  rw [e, e, e]
  exact h j hj
theorem QX_sR {c : Nat} {σ : SX} {f : Nat → Int32} {q : SHT} (hc : c < 3 ∨ 9 < c) (h : QX σ q) : QX (sR σ c f) q := by
  intro j hj
  rw [gR_sR, if_neg (by omega)]
  exact h j hj
theorem DM_sF {k : Nat} {τ : SX} {v : Int32} {d : DV} (hk : k < 5 ∨ 9 < k) (h : DM τ d) : DM (sF τ 0 k v) d := by
  have e : ∀ j, 5 ≤ j → j ≤ 9 → gF (sF τ 0 k v) 0 j = gF τ 0 j := fun j h1 h2 => by rw [gF_sF, if_neg (fun q => by omega)]
  unfold DM
  rw [e 5 (by omega) (by omega), e 6 (by omega) (by omega), e 7 (by omega) (by omega), e 8 (by omega) (by omega), e 9 (by omega) (by omega)]
  exact h
theorem DM_sR {c : Nat} {τ : SX} {f : Nat → Int32} {d : DV} (hc : c < 4 ∨ 9 < c) (h : DM τ d) : DM (sR τ c f) d := by
  have e : ∀ k, 4 ≤ k → k ≤ 9 → gR (sR τ c f) k = gR τ k := fun k h1 h2 => by rw [gR_sR, if_neg (by omega)]
  unfold DM
  rw [e 4 (by omega) (by omega), e 5 (by omega) (by omega), e 6 (by omega) (by omega), e 7 (by omega) (by omega), e 8 (by omega) (by omega), e 9 (by omega) (by omega)]
  exact h
theorem EM_sF {k : Nat} {τ : SX} {v : Int32} {e : RD} (hk : k ≠ 24) (h : EM τ e) : EM (sF τ 0 k v) e := by
  unfold EM
  rw [gF_sF, if_neg (fun q => hk q.2.symm)]
  exact h
theorem EM_sR {c : Nat} {τ : SX} {f : Nat → Int32} {e : RD} (hc : c < 14 ∨ 16 < c) (h : EM τ e) : EM (sR τ c f) e := by
  unfold EM
  rw [gR_sR, gR_sR, gR_sR, if_neg (by omega), if_neg (by omega), if_neg (by omega)]
  exact h
theorem QM_sF {c k : Nat} {τ : SX} {v : Int32} {q : SHT} (h : QM τ q) : QM (sF τ c k v) q := h
theorem QM_sR {c : Nat} {τ : SX} {f : Nat → Int32} {q : SHT} (hc : c < 1 ∨ 3 < c) (h : QM τ q) : QM (sR τ c f) q := by
  intro j hj
  rw [gR_sR, gR_sR, gR_sR, if_neg (by omega), if_neg (by omega), if_neg (by omega)]
  exact h j hj
/-- the day's own changes, class -/
theorem X_setCt {b : Nat} {σ : SX} {d : DV} (hd : DX b σ d) (s v : Nat) : DX b (sR σ (b + 3) (upd (gR σ (b + 3)) s (nI v))) (setCt d s v) := by
  obtain ⟨h1, h2, h3, h4, h5, h6, h7⟩ := hd
  refine ⟨h1, h2, h3, h4, fun j hj => ?_, fun j hj => ?_, fun j hj => ?_⟩
  · rw [gR_sR, if_neg (by omega)]; exact h5 j hj
  · rw [gR_sR, gR_sR, if_neg (by omega), if_pos rfl]; exact ⟨(h6 j hj).1, upd_nI (h6 j hj).2⟩
  · rw [gR_sR, gR_sR, gR_sR, if_neg (by omega), if_neg (by omega), if_neg (by omega)]; exact h7 j hj
theorem X_setKd {b : Nat} {σ : SX} {d : DV} (hd : DX b σ d) (s v : Nat) : DX b (sR σ (b + 2) (upd (gR σ (b + 2)) s (nI v))) (setKd d s v) := by
  obtain ⟨h1, h2, h3, h4, h5, h6, h7⟩ := hd
  refine ⟨h1, h2, h3, h4, fun j hj => ?_, fun j hj => ?_, fun j hj => ?_⟩
  · rw [gR_sR, if_neg (by omega)]; exact h5 j hj
  · rw [gR_sR, gR_sR, if_pos rfl, if_neg (by omega)]; exact ⟨upd_nI (h6 j hj).1, (h6 j hj).2⟩
  · rw [gR_sR, gR_sR, gR_sR, if_neg (by omega), if_neg (by omega), if_neg (by omega)]; exact h7 j hj
theorem X_setFr {b : Nat} {σ : SX} {d : DV} (hd : DX b σ d) (s v : Nat) : DX b (sR σ (b + 1) (upd (gR σ (b + 1)) s (nI v))) (setFr d s v) := by
  obtain ⟨h1, h2, h3, h4, h5, h6, h7⟩ := hd
  refine ⟨h1, h2, h3, h4, fun j hj => ?_, fun j hj => ?_, fun j hj => ?_⟩
  · rw [gR_sR, if_pos rfl]; exact upd_nI (h5 j hj)
  · rw [gR_sR, gR_sR, if_neg (by omega), if_neg (by omega)]; exact h6 j hj
  · rw [gR_sR, gR_sR, gR_sR, if_neg (by omega), if_neg (by omega), if_neg (by omega)]; exact h7 j hj
theorem X_setSv {b : Nat} {σ : SX} {d : DV} (hd : DX b σ d) {x y : Int32} {o : Option (Nat × Nat)} (hv : svR x y o) : DX b (sF (sF σ b 3 x) b 4 y) (setSv d o) := by
  obtain ⟨h1, h2, h3, h4, h5, h6, h7⟩ := hd
  refine ⟨?_, ?_, ?_, ?_, h5, h6, h7⟩
  · rw [gF_sF, gF_sF, if_neg (by omega), if_neg (by omega)]; exact h1
  · rw [gF_sF, gF_sF, if_neg (by omega), if_neg (by omega)]; exact h2
  · rw [gF_sF, gF_sF, if_neg (by omega), if_neg (by omega)]; exact h3
  · rw [gF_sF, gF_sF, gF_sF, if_neg (by omega), if_pos ⟨rfl, rfl⟩, if_pos ⟨rfl, rfl⟩]; exact hv
theorem X_addOath {b : Nat} {σ : SX} {d : DV} (hd : DX b σ d) (hO : dO d < 6) (s t h : Nat) : ∃ σ', f_X0_addOath σ b (nI s) (nI t) (nI h) = some ((), σ') ∧ DX b σ' (addOa d s t h) ∧ (∀ c k, c ≠ b → gF σ' c k = gF σ c k) ∧ (∀ c, (c ≤ b ∨ b + 6 < c) → gR σ' c = gR σ c) := by
  obtain ⟨h1, h2, h3, h4, h5, h6, h7⟩ := hd
  have e1 : ∀ k : Option (Unit × SX), oin (nI (dO d)) 6 k = k := fun k => oin_nI k hO (by decide)
  unfold f_X0_addOath
  rw [h3, if_neg (by rw [show (6 : Int32) = nI 6 from rfl, le_nI (by decide) (by omega)]; omega)]
  simp only [gF_sR, h3, e1, cl (dO d) (by omega), nI_1]
  refine ⟨_, rfl, ⟨?_, ?_, ?_, ?_, fun j hj => ?_, fun j hj => ?_, fun j hj => ?_⟩, fun c k hc => ?_, fun c hc => ?_⟩
  · rw [gF_sF, if_neg (by omega)]; exact h1
  · rw [gF_sF, if_neg (by omega)]; exact h2
  · rw [gF_sF, if_pos ⟨rfl, rfl⟩]; rfl
  · rw [gF_sF, gF_sF, if_neg (by omega), if_neg (by omega)]; exact h4
  · simp only [gR_sF, gR_sR]
    rw [if_neg (by omega), if_neg (by omega), if_neg (by omega)]; exact h5 j hj
  · simp only [gR_sF, gR_sR]
    rw [if_neg (by omega), if_neg (by omega), if_neg (by omega), if_neg (by omega), if_neg (by omega), if_neg (by omega)]; exact h6 j hj
  · have hj : j < dO d + 1 := hj
    simp only [gR_sF, gR_sR, show ¬ b + 4 = b + 5 by omega, show ¬ b + 4 = b + 6 by omega, show ¬ b + 5 = b + 4 by omega, show ¬ b + 5 = b + 6 by omega, show ¬ b + 6 = b + 4 by omega, show ¬ b + 6 = b + 5 by omega, ↓reduceIte]
    show upd (gR σ (b + 4)) (dO d) (nI s) j = nI (upN (dBy d) (dO d) s j) ∧ upd (gR σ (b + 5)) (dO d) (nI t) j = nI (upN (dTo d) (dO d) t j) ∧ upd (gR σ (b + 6)) (dO d) (nI h) j = nI (upN (dWh d) (dO d) h j)
    simp only [upd_at, upN_at]
    by_cases c : j = dO d
    · simp only [if_pos c]; exact ⟨trivial, trivial, trivial⟩
    · simp only [if_neg c]; exact h7 j (by omega)
  · rw [gF_sF, if_neg (fun q => hc q.1)]; rfl
  · simp only [gR_sF, gR_sR]
    rw [if_neg (by omega), if_neg (by omega), if_neg (by omega)]
/-- the day's own changes, reference -/
theorem M_setCt {τ : SX} {d : DV} (hd : DM τ d) (s v : Nat) : DM (sR τ 6 (upd (gR τ 6) s (nI v))) (setCt d s v) := by
  obtain ⟨h1, h2, h3, h4, h5, h6, h7⟩ := hd
  refine ⟨h1, h2, h3, h4, fun j hj => ?_, fun j hj => ?_, fun j hj => ?_⟩
  · rw [gR_sR, if_neg (by omega)]; exact h5 j hj
  · rw [gR_sR, gR_sR, if_neg (by omega), if_pos rfl]; exact ⟨(h6 j hj).1, upd_nI (h6 j hj).2⟩
  · rw [gR_sR, gR_sR, gR_sR, if_neg (by omega), if_neg (by omega), if_neg (by omega)]; exact h7 j hj
theorem M_setKd {τ : SX} {d : DV} (hd : DM τ d) (s v : Nat) : DM (sR τ 5 (upd (gR τ 5) s (nI v))) (setKd d s v) := by
  obtain ⟨h1, h2, h3, h4, h5, h6, h7⟩ := hd
  refine ⟨h1, h2, h3, h4, fun j hj => ?_, fun j hj => ?_, fun j hj => ?_⟩
  · rw [gR_sR, if_neg (by omega)]; exact h5 j hj
  · rw [gR_sR, gR_sR, if_pos rfl, if_neg (by omega)]; exact ⟨upd_nI (h6 j hj).1, (h6 j hj).2⟩
  · rw [gR_sR, gR_sR, gR_sR, if_neg (by omega), if_neg (by omega), if_neg (by omega)]; exact h7 j hj
theorem M_setFr {τ : SX} {d : DV} (hd : DM τ d) (s v : Nat) : DM (sR τ 4 (upd (gR τ 4) s (nI v))) (setFr d s v) := by
  obtain ⟨h1, h2, h3, h4, h5, h6, h7⟩ := hd
  refine ⟨h1, h2, h3, h4, fun j hj => ?_, fun j hj => ?_, fun j hj => ?_⟩
  · rw [gR_sR, if_pos rfl]; exact upd_nI (h5 j hj)
  · rw [gR_sR, gR_sR, if_neg (by omega), if_neg (by omega)]; exact h6 j hj
  · rw [gR_sR, gR_sR, gR_sR, if_neg (by omega), if_neg (by omega), if_neg (by omega)]; exact h7 j hj
theorem M_setSv {τ : SX} {d : DV} (hd : DM τ d) {x y : Int32} {o : Option (Nat × Nat)} (hv : svR x y o) : DM (sF (sF τ 0 8 x) 0 9 y) (setSv d o) := by
  obtain ⟨h1, h2, h3, h4, h5, h6, h7⟩ := hd
  refine ⟨?_, ?_, ?_, ?_, h5, h6, h7⟩
  · rw [gF_sF, gF_sF, if_neg (by omega), if_neg (by omega)]; exact h1
  · rw [gF_sF, gF_sF, if_neg (by omega), if_neg (by omega)]; exact h2
  · rw [gF_sF, gF_sF, if_neg (by omega), if_neg (by omega)]; exact h3
  · rw [gF_sF, gF_sF, gF_sF, if_neg (by omega), if_pos ⟨rfl, rfl⟩, if_pos ⟨rfl, rfl⟩]; exact hv
theorem M_noSv {τ : SX} {d : DV} (hd : DM τ d) : DM (sF τ 0 8 (-9)) (setSv d none) := by
  obtain ⟨h1, h2, h3, h4, h5, h6, h7⟩ := hd
  refine ⟨?_, ?_, ?_, ?_, h5, h6, h7⟩
  · rw [gF_sF, if_neg (by omega)]; exact h1
  · rw [gF_sF, if_neg (by omega)]; exact h2
  · rw [gF_sF, if_neg (by omega)]; exact h3
  · show gF (sF τ 0 8 (-9)) 0 8 = -9
    rw [gF_sF, if_pos ⟨rfl, rfl⟩]
