/-! ===== a day as plain numbers; what both sides read off it ===== -/
abbrev DV : Type := Nat × Nat × Nat × Option (Nat × Nat) × (Nat → Nat) × (Nat → Nat) × (Nat → Nat) × (Nat → Nat) × (Nat → Nat) × (Nat → Nat)
abbrev dH (d : DV) : Nat := d.1
abbrev dS (d : DV) : Nat := d.2.1
abbrev dO (d : DV) : Nat := d.2.2.1
abbrev dV (d : DV) : Option (Nat × Nat) := d.2.2.2.1
abbrev dFr (d : DV) : Nat → Nat := d.2.2.2.2.1
abbrev dKd (d : DV) : Nat → Nat := d.2.2.2.2.2.1
abbrev dCt (d : DV) : Nat → Nat := d.2.2.2.2.2.2.1
abbrev dBy (d : DV) : Nat → Nat := d.2.2.2.2.2.2.2.1
abbrev dTo (d : DV) : Nat → Nat := d.2.2.2.2.2.2.2.2.1
abbrev dWh (d : DV) : Nat → Nat := d.2.2.2.2.2.2.2.2.2
def dOk (d : DV) : Prop := dH d ≤ 6 ∧ dS d ≤ 4 ∧ dO d ≤ 6 ∧ (∀ j, j < dH d → dFr d j ≤ 9) ∧ (∀ j, j < dS d → dKd d j ≤ 2 ∧ dCt d j ≤ 9) ∧ (∀ j, j < dO d → dBy d j < dS d ∧ dTo d j < dS d ∧ dBy d j ≠ dTo d j ∧ dWh d j < dH d) ∧ (∀ z, dV d = some z → z.1 < dH d ∧ z.2 ≤ 9)
def svR (a v : Int32) (o : Option (Nat × Nat)) : Prop := match o with
  | none => a = -9
  | some z => a = nI z.1 ∧ v = nI z.2
/-- the class's day at cell b -/
def DX (b : Nat) (σ : SX) (d : DV) : Prop := gF σ b 0 = nI (dH d) ∧ gF σ b 1 = nI (dS d) ∧ gF σ b 2 = nI (dO d) ∧ svR (gF σ b 3) (gF σ b 4) (dV d) ∧ (∀ j, j < dH d → gR σ (b + 1) j = nI (dFr d j)) ∧ (∀ j, j < dS d → gR σ (b + 2) j = nI (dKd d j) ∧ gR σ (b + 3) j = nI (dCt d j)) ∧ (∀ j, j < dO d → gR σ (b + 4) j = nI (dBy d j) ∧ gR σ (b + 5) j = nI (dTo d j) ∧ gR σ (b + 6) j = nI (dWh d j))
/-- the reference's day -/
def DM (σ : SX) (d : DV) : Prop := gF σ 0 5 = nI (dH d) ∧ gF σ 0 6 = nI (dS d) ∧ gF σ 0 7 = nI (dO d) ∧ svR (gF σ 0 8) (gF σ 0 9) (dV d) ∧ (∀ j, j < dH d → gR σ 4 j = nI (dFr d j)) ∧ (∀ j, j < dS d → gR σ 5 j = nI (dKd d j) ∧ gR σ 6 j = nI (dCt d j)) ∧ (∀ j, j < dO d → gR σ 7 j = nI (dBy d j) ∧ gR σ 8 j = nI (dTo d j) ∧ gR σ 9 j = nI (dWh d j))
def heatA (d : DV) (h : Nat) : Nat := match dV d with
  | none => 0
  | some z => if z.1 = h then z.2 else 0
def warm (d : DV) (s : Nat) : Nat := if dKd d s = 1 then dCt d s + 1 else if dKd d s = 2 then 2 * dCt d s else dCt d s
def cold (d : DV) (s h : Nat) : Bool := decide (heatA d h + warm d s < dFr d h)
def bnd (d : DV) (i : Nat) : Bool := cold d (dBy d i) (dWh d i)
def chI (d : DV) (s h : Nat) : Int32 := nI (dFr d h) - nI (heatA d h) - nI (warm d s)
theorem heatA_le {d : DV} (ok : dOk d) (h : Nat) : heatA d h ≤ 9 := by
  unfold heatA
  split
  · omega
  · rename_i z hz
    have := (ok.2.2.2.2.2.2 z hz).2
    split <;> omega
theorem warm_le {d : DV} (ok : dOk d) {s : Nat} (hs : s < dS d) : warm d s ≤ 18 := by
  have := ok.2.2.2.2.1 s hs
  unfold warm
  split
  · omega
  · split <;> omega
theorem warm_numX : ∀ k, k < 3 → ∀ c, c < 10 → (if nI k = (1 : Int32) then some (nI c + (1 : Int32)) else if nI k = (2 : Int32) then some ((2 : Int32) * nI c) else some (nI c)) = some (nI (if k = 1 then c + 1 else if k = 2 then 2 * c else c)) := by decide +kernel
theorem warm_numM : ∀ k, k < 3 → ∀ c, c < 10 → (if nI k = (0 : Int32) then some (nI c) else if nI k = (1 : Int32) then some (nI c + (1 : Int32)) else some ((2 : Int32) * nI c)) = some (nI (if k = 1 then c + 1 else if k = 2 then 2 * c else c)) := by decide +kernel
theorem cold_num : ∀ a, a < 10 → ∀ b, b < 10 → ∀ c, c < 19 → (if nI a - nI b - nI c ≤ (0 : Int32) then some (0 : Int32) else some 1) = some (if b + c < a then 1 else 0) := by decide +kernel
theorem neg9 : ∀ h, h < 100 → ¬ (-9 : Int32) = nI h := by decide +kernel
theorem neg9' : ∀ h, h < 100 → ¬ nI h = (-9 : Int32) := by decide +kernel
theorem ifE {α : Type} {a b : Nat} (ha : a < 2 ^ 31) (hb : b < 2 ^ 31) (x y : α) : (if nI a = nI b then x else y) = if a = b then x else y := by
  by_cases c : a = b
  · rw [if_pos c, if_pos (by rw [c])]
  · rw [if_neg c, if_neg (fun q => c ((nI_eq ha hb).mp q))]
theorem ifL {α : Type} {a b : Nat} (ha : a < 2 ^ 31) (hb : b < 2 ^ 31) (x y : α) : (if nI a ≤ nI b then x else y) = if a ≤ b then x else y := by
  by_cases c : a ≤ b
  · rw [if_pos c, if_pos ((nI_leI ha hb).mpr c)]
  · rw [if_neg c, if_neg (fun q => c ((nI_leI ha hb).mp q))]
theorem ifT {α : Type} {a b : Nat} (ha : a < 2 ^ 31) (hb : b < 2 ^ 31) (x y : α) : (if nI a < nI b then x else y) = if a < b then x else y := by
  by_cases c : a < b
  · rw [if_pos c, if_pos ((nI_ltI ha hb).mpr c)]
  · rw [if_neg c, if_neg (fun q => c ((nI_ltI ha hb).mp q))]
theorem rng_in {N j : Nat} (h : j < N) (hN : N < 2 ^ 31) : (if nI j < (0 : Int32) then some (0 : Int32) else if nI N ≤ nI j then some 0 else some 1) = some 1 := by
  rw [if_neg (nI_nneg (by omega)), if_neg (by rw [le_nI hN (by omega)]; omega)]
theorem rng_out {x : Int32} {N : Nat} (h : x < 0 ∨ (¬ x < 0 ∧ nI N ≤ x)) : (if x < (0 : Int32) then some (0 : Int32) else if nI N ≤ x then some 0 else some 1) = some 0 := by
  rcases h with h | ⟨h, h2⟩
  · rw [if_pos h]
  · rw [if_neg h, if_pos h2]
theorem b01 (c : Prop) [Decidable c] : (if c then (1 : Int32) else 0) = 0 ∨ (if c then (1 : Int32) else 0) = 1 := by
  split
  · exact Or.inr rfl
  · exact Or.inl rfl
section VX
variable {b : Nat} {σ : SX} {d : DV}
theorem X_hour_in (hd : DX b σ d) (ok : dOk d) {j : Nat} (h : j < dH d) : f_X0_hasHour σ b (nI j) = some 1 := by
  have := ok.1
  unfold f_X0_hasHour; rw [hd.1]; exact rng_in h (by omega)
theorem X_hour_out (hd : DX b σ d) {x : Int32} (h : x < 0 ∨ (¬ x < 0 ∧ nI (dH d) ≤ x)) : f_X0_hasHour σ b x = some 0 := by
  unfold f_X0_hasHour; rw [hd.1]; exact rng_out h
theorem X_swr_in (hd : DX b σ d) (ok : dOk d) {j : Nat} (h : j < dS d) : f_X0_hasSwearer σ b (nI j) = some 1 := by
  have := ok.2.1
  unfold f_X0_hasSwearer; rw [hd.2.1]; exact rng_in h (by omega)
theorem X_swr_out (hd : DX b σ d) {x : Int32} (h : x < 0 ∨ (¬ x < 0 ∧ nI (dS d) ≤ x)) : f_X0_hasSwearer σ b x = some 0 := by
  unfold f_X0_hasSwearer; rw [hd.2.1]; exact rng_out h
theorem X_oath_in (hd : DX b σ d) (ok : dOk d) {j : Nat} (h : j < dO d) : f_X0_hasOath σ b (nI j) = some 1 := by
  have := ok.2.2.1
  unfold f_X0_hasOath; rw [hd.2.2.1]; exact rng_in h (by omega)
theorem X_oath_out (hd : DX b σ d) {x : Int32} (h : x < 0 ∨ (¬ x < 0 ∧ nI (dO d) ≤ x)) : f_X0_hasOath σ b x = some 0 := by
  unfold f_X0_hasOath; rw [hd.2.2.1]; exact rng_out h
theorem X_warmth (hd : DX b σ d) (ok : dOk d) {s : Nat} (hs : s < dS d) : f_X0_warmth σ b (nI s) = some (nI (warm d s)) := by
  have h4 := ok.2.1
  have hk := ok.2.2.2.2.1 s hs
  have e : ∀ k : Option Int32, oin (nI s) 4 k = k := fun k => oin_nI k (by omega) (by decide)
  obtain ⟨e1, e2⟩ := hd.2.2.2.2.2.1 s hs
  unfold f_X0_warmth
  simp only [e, cl s (by omega), e1, e2]
  exact warm_numX _ (by omega) _ (by omega)
theorem X_chill (hd : DX b σ d) (ok : dOk d) {s h : Nat} (hs : s < dS d) (hh : h < dH d) : f_X0_chillOf σ b (nI s) (nI h) = some (chI d s h) := by
  have h6 := ok.1
  have e : ∀ k : Option Int32, oin (nI h) 6 k = k := fun k => oin_nI k (by omega) (by decide)
  have e1 := hd.2.2.2.2.1 h hh
  have hsv := hd.2.2.2.1
  unfold f_X0_chillOf chI heatA
  simp only [e, cl h (by omega), e1, X_warmth hd ok hs, ob1_some]
  cases hv : dV d with
  | none =>
    rw [hv] at hsv
    rw [show gF σ b 3 = -9 from hsv, if_neg (neg9 h (by omega))]
    rfl
  | some z =>
    rw [hv] at hsv
    have hz := ok.2.2.2.2.2.2 z hv
    rw [hsv.1, hsv.2, ifE (by omega) (by omega)]
    by_cases c : z.1 = h
    · rw [if_pos c]; simp only [if_pos c]
    · rw [if_neg c]; simp only [if_neg c]; rfl
theorem cold_ok (ok : dOk d) {s h : Nat} (hs : s < dS d) (hh : h < dH d) : (if chI d s h ≤ (0 : Int32) then some (0 : Int32) else some 1) = some (if cold d s h then 1 else 0) := by
  have a := ok.2.2.2.1 h hh
  have b := heatA_le ok h
  have c := warm_le ok hs
  unfold chI cold
  rw [cold_num _ (by omega) _ (by omega) _ (by omega)]
  simp only [decide_eq_true_eq]
theorem X_isCold (hd : DX b σ d) (ok : dOk d) {s h : Nat} (hs : s < dS d) (hh : h < dH d) : f_X0_isCold σ b (nI s) (nI h) = some (if cold d s h then 1 else 0) := by
  unfold f_X0_isCold
  rw [X_chill hd ok hs hh, ob1_some]
  exact cold_ok ok hs hh
theorem X_binds (hd : DX b σ d) (ok : dOk d) {i : Nat} (hi : i < dO d) : f_X0_binds σ b (nI i) = some (if bnd d i then 1 else 0) := by
  have h6 := ok.2.2.1
  have e : ∀ k : Option Int32, oin (nI i) 6 k = k := fun k => oin_nI k (by omega) (by decide)
  obtain ⟨e1, e2, e3⟩ := hd.2.2.2.2.2.2 i hi
  obtain ⟨g1, g2, g3, g4⟩ := ok.2.2.2.2.2.1 i hi
  unfold f_X0_binds
  simp only [e, cl i (by omega), e1, e3, X_chill hd ok g1 g4, ob1_some]
  exact cold_ok ok g1 g4
theorem step_b {L1 L0 : Option Int32} {c : Bool} : (if (if c then (1 : Int32) else 0) = 0 then L0 else L1) = if c then L1 else L0 := by
  cases c <;> rfl
theorem X_coldHours (hd : DX b σ d) (ok : dOk d) {s : Nat} (hs : s < dS d) : f_X0_coldHours σ b (nI s) = some (nI (sN (cold d s) (dH d))) := by
  have h6 := ok.1
  refine setLoop (fun n a i => f_X0_coldHours_L4 σ b n (nI s) a i) (cold d s) (dH d) (by omega) (fun n a => ?_) (fun n a j hj _ => ?_) 100 (by omega)
  · show f_X0_coldHours_L4 σ b (n + 1) (nI s) a (nI (dH d)) = _
    rw [f_X0_coldHours_L4, hd.1, if_pos (by rw [le_nI (by omega) (by omega)]; omega)]
  · show f_X0_coldHours_L4 σ b (n + 1) (nI s) (nI a) (nI j) = _
    rw [f_X0_coldHours_L4, hd.1, if_neg (by rw [le_nI (by omega) (by omega)]; omega), X_isCold hd ok hs hj, ob1_some, step_b]
theorem X_coldSwr (hd : DX b σ d) (ok : dOk d) {h : Nat} (hh : h < dH d) : f_X0_coldSwearers σ b (nI h) = some (nI (sN (fun s => cold d s h) (dS d))) := by
  have h4 := ok.2.1
  refine setLoop (fun n a i => f_X0_coldSwearers_L4 σ b n (nI h) a i) (fun s => cold d s h) (dS d) (by omega) (fun n a => ?_) (fun n a j hj _ => ?_) 100 (by omega)
  · show f_X0_coldSwearers_L4 σ b (n + 1) (nI h) a (nI (dS d)) = _
    rw [f_X0_coldSwearers_L4, hd.2.1, if_pos (by rw [le_nI (by omega) (by omega)]; omega)]
  · show f_X0_coldSwearers_L4 σ b (n + 1) (nI h) (nI a) (nI j) = _
    rw [f_X0_coldSwearers_L4, hd.2.1, if_neg (by rw [le_nI (by omega) (by omega)]; omega), X_isCold hd ok hj hh, ob1_some, step_b]
theorem X_bind (hd : DX b σ d) (ok : dOk d) : f_X0_bindingOaths σ b = some (nI (sN (bnd d) (dO d))) := by
  have h6 := ok.2.2.1
  refine setLoop (fun n a i => f_X0_bindingOaths_L4 σ b n a i) (bnd d) (dO d) (by omega) (fun n a => ?_) (fun n a j hj _ => ?_) 100 (by omega)
  · show f_X0_bindingOaths_L4 σ b (n + 1) a (nI (dO d)) = _
    rw [f_X0_bindingOaths_L4, hd.2.2.1, if_pos (by rw [le_nI (by omega) (by omega)]; omega)]
  · show f_X0_bindingOaths_L4 σ b (n + 1) (nI a) (nI j) = _
    rw [f_X0_bindingOaths_L4, hd.2.2.1, if_neg (by rw [le_nI (by omega) (by omega)]; omega), X_binds hd ok hj, ob1_some, step_b]
theorem X_oathsBy (hd : DX b σ d) (ok : dOk d) {s : Nat} (hs : s < dS d) : f_X0_oathsBy σ b (nI s) = some (nI (sN (fun i => decide (dBy d i = s)) (dO d))) := by
  have h6 := ok.2.2.1
  have h4 := ok.2.1
  refine setLoop (fun n a i => f_X0_oathsBy_L4 σ b n (nI s) a i) (fun i => decide (dBy d i = s)) (dO d) (by omega) (fun n a => ?_) (fun n a j hj _ => ?_) 100 (by omega)
  · show f_X0_oathsBy_L4 σ b (n + 1) (nI s) a (nI (dO d)) = _
    rw [f_X0_oathsBy_L4, hd.2.2.1, if_pos (by rw [le_nI (by omega) (by omega)]; omega)]
  · show f_X0_oathsBy_L4 σ b (n + 1) (nI s) (nI a) (nI j) = _
    have g := (ok.2.2.2.2.2.1 j hj).1
    rw [f_X0_oathsBy_L4, hd.2.2.1, if_neg (by rw [le_nI (by omega) (by omega)]; omega), oin_nI _ (by omega) (by decide), cl j (by omega), (hd.2.2.2.2.2.2 j hj).1, ifE (by omega) (by omega)]
    simp only [decide_eq_true_eq]
end VX
section VM
variable {σ : SX} {d : DV}
theorem M_hour_in (hd : DM σ d) (ok : dOk d) {j : Nat} (h : j < dH d) : f_X5_isHour σ (nI j) = some 1 := by
  have := ok.1
  unfold f_X5_isHour; rw [hd.1]; exact rng_in h (by omega)
theorem M_hour_out (hd : DM σ d) {x : Int32} (h : x < 0 ∨ (¬ x < 0 ∧ nI (dH d) ≤ x)) : f_X5_isHour σ x = some 0 := by
  unfold f_X5_isHour; rw [hd.1]; exact rng_out h
theorem M_swr_in (hd : DM σ d) (ok : dOk d) {j : Nat} (h : j < dS d) : f_X5_isSwearer σ (nI j) = some 1 := by
  have := ok.2.1
  unfold f_X5_isSwearer; rw [hd.2.1]; exact rng_in h (by omega)
theorem M_swr_out (hd : DM σ d) {x : Int32} (h : x < 0 ∨ (¬ x < 0 ∧ nI (dS d) ≤ x)) : f_X5_isSwearer σ x = some 0 := by
  unfold f_X5_isSwearer; rw [hd.2.1]; exact rng_out h
theorem M_oath_in (hd : DM σ d) (ok : dOk d) {j : Nat} (h : j < dO d) : f_X5_isOath σ (nI j) = some 1 := by
  have := ok.2.2.1
  unfold f_X5_isOath; rw [hd.2.2.1]; exact rng_in h (by omega)
theorem M_oath_out (hd : DM σ d) {x : Int32} (h : x < 0 ∨ (¬ x < 0 ∧ nI (dO d) ≤ x)) : f_X5_isOath σ x = some 0 := by
  unfold f_X5_isOath; rw [hd.2.2.1]; exact rng_out h
theorem M_warmth (hd : DM σ d) (ok : dOk d) {s : Nat} (hs : s < dS d) : f_X5_warmthOf σ (nI s) = some (nI (warm d s)) := by
  have h4 := ok.2.1
  have hk := ok.2.2.2.2.1 s hs
  have e : ∀ k : Option Int32, oin (nI s) 4 k = k := fun k => oin_nI k (by omega) (by decide)
  obtain ⟨e1, e2⟩ := hd.2.2.2.2.2.1 s hs
  unfold f_X5_warmthOf
  simp only [e, cl s (by omega), e1, e2]
  exact warm_numM _ (by omega) _ (by omega)
theorem M_chill (hd : DM σ d) (ok : dOk d) {s h : Nat} (hs : s < dS d) (hh : h < dH d) : f_X5_chillOf σ (nI s) (nI h) = some (chI d s h) := by
  have h6 := ok.1
  have e : ∀ k : Option Int32, oin (nI h) 6 k = k := fun k => oin_nI k (by omega) (by decide)
  have e1 := hd.2.2.2.2.1 h hh
  have hsv := hd.2.2.2.1
  unfold f_X5_chillOf chI heatA
  simp only [e, cl h (by omega), e1, M_warmth hd ok hs, ob1_some]
  cases hv : dV d with
  | none =>
    rw [hv] at hsv
    rw [show gF σ 0 8 = -9 from hsv, if_neg (neg9' h (by omega))]
    rfl
  | some z =>
    rw [hv] at hsv
    have hz := ok.2.2.2.2.2.2 z hv
    rw [hsv.1, hsv.2, ifE (by omega) (by omega)]
    by_cases c : h = z.1
    · rw [if_pos c]; simp only [if_pos c.symm]
    · rw [if_neg c]; simp only [if_neg (fun q => c (Eq.symm q))]; rfl
theorem M_isCold (hd : DM σ d) (ok : dOk d) {s h : Nat} (hs : s < dS d) (hh : h < dH d) : f_X5_isCold σ (nI s) (nI h) = some (if cold d s h then 1 else 0) := by
  unfold f_X5_isCold
  rw [M_chill hd ok hs hh, ob1_some]
  exact cold_ok ok hs hh
theorem M_binds (hd : DM σ d) (ok : dOk d) {i : Nat} (hi : i < dO d) : f_X5_binds σ (nI i) = some (if bnd d i then 1 else 0) := by
  have h6 := ok.2.2.1
  have e : ∀ k : Option Int32, oin (nI i) 6 k = k := fun k => oin_nI k (by omega) (by decide)
  obtain ⟨e1, e2, e3⟩ := hd.2.2.2.2.2.2 i hi
  obtain ⟨g1, g2, g3, g4⟩ := ok.2.2.2.2.2.1 i hi
  unfold f_X5_binds
  simp only [e, cl i (by omega), e1, e3, M_isCold hd ok g1 g4, ob1_some]
  exact oif_t _ (b01 _)
theorem M_coldHours (hd : DM σ d) (ok : dOk d) {s : Nat} (hs : s < dS d) : f_X5_coldHours σ (nI s) = some (nI (sN (cold d s) (dH d))) := by
  have h6 := ok.1
  refine setLoop (fun n a i => f_X5_coldHours_L4 σ n (nI s) a i) (cold d s) (dH d) (by omega) (fun n a => ?_) (fun n a j hj _ => ?_) 100 (by omega)
  · show f_X5_coldHours_L4 σ (n + 1) (nI s) a (nI (dH d)) = _
    rw [f_X5_coldHours_L4, hd.1, if_pos (by rw [le_nI (by omega) (by omega)]; omega)]
  · show f_X5_coldHours_L4 σ (n + 1) (nI s) (nI a) (nI j) = _
    rw [f_X5_coldHours_L4, hd.1, if_neg (by rw [le_nI (by omega) (by omega)]; omega), M_isCold hd ok hs hj, ob1_some, step_b]
theorem M_whoCold (hd : DM σ d) (ok : dOk d) {h : Nat} (hh : h < dH d) : f_X5_whoCold σ (nI h) = some (nI (sN (fun s => cold d s h) (dS d))) := by
  have h4 := ok.2.1
  refine setLoop (fun n a i => f_X5_whoCold_L4 σ n (nI h) a i) (fun s => cold d s h) (dS d) (by omega) (fun n a => ?_) (fun n a j hj _ => ?_) 100 (by omega)
  · show f_X5_whoCold_L4 σ (n + 1) (nI h) a (nI (dS d)) = _
    rw [f_X5_whoCold_L4, hd.2.1, if_pos (by rw [le_nI (by omega) (by omega)]; omega)]
  · show f_X5_whoCold_L4 σ (n + 1) (nI h) (nI a) (nI j) = _
    rw [f_X5_whoCold_L4, hd.2.1, if_neg (by rw [le_nI (by omega) (by omega)]; omega), M_isCold hd ok hj hh, ob1_some, step_b]
theorem M_bind (hd : DM σ d) (ok : dOk d) : f_X5_whichBind σ = some (nI (sN (bnd d) (dO d))) := by
  have h6 := ok.2.2.1
  refine setLoop (fun n a i => f_X5_whichBind_L4 σ n a i) (bnd d) (dO d) (by omega) (fun n a => ?_) (fun n a j hj _ => ?_) 100 (by omega)
  · show f_X5_whichBind_L4 σ (n + 1) a (nI (dO d)) = _
    rw [f_X5_whichBind_L4, hd.2.2.1, if_pos (by rw [le_nI (by omega) (by omega)]; omega)]
  · show f_X5_whichBind_L4 σ (n + 1) (nI a) (nI j) = _
    rw [f_X5_whichBind_L4, hd.2.2.1, if_neg (by rw [le_nI (by omega) (by omega)]; omega), M_binds hd ok hj, ob1_some, step_b]
theorem M_swornBy (hd : DM σ d) (ok : dOk d) {s : Nat} (hs : s < dS d) : f_X5_swornBy σ (nI s) = some (nI (sN (fun i => decide (dBy d i = s)) (dO d))) := by
  have h6 := ok.2.2.1
  have h4 := ok.2.1
  refine setLoop (fun n a i => f_X5_swornBy_L4 σ n (nI s) a i) (fun i => decide (dBy d i = s)) (dO d) (by omega) (fun n a => ?_) (fun n a j hj _ => ?_) 100 (by omega)
  · show f_X5_swornBy_L4 σ (n + 1) (nI s) a (nI (dO d)) = _
    rw [f_X5_swornBy_L4, hd.2.2.1, if_pos (by rw [le_nI (by omega) (by omega)]; omega)]
  · show f_X5_swornBy_L4 σ (n + 1) (nI s) (nI a) (nI j) = _
    have g := (ok.2.2.2.2.2.1 j hj).1
    rw [f_X5_swornBy_L4, hd.2.2.1, if_neg (by rw [le_nI (by omega) (by omega)]; omega), oin_nI _ (by omega) (by decide), cl j (by omega), (hd.2.2.2.2.2.2 j hj).1, ifE (by omega) (by omega)]
    simp only [decide_eq_true_eq]
end VM
