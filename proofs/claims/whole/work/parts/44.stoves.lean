/-! ===== the stoves that would spare a set of oaths ===== -/
set_option maxRecDepth 100000 in
theorem st_lt_num : allB 7 (fun O => allB 64 (fun w => decide (nI w < nI (2 ^ O)) == decide ((nI w &&& (nI (2 ^ O - 1) ^^^ (-1))) = 0))) = true := by decide +kernel
set_option maxRecDepth 100000 in
theorem st_sp_num : allB 7 (fun O => allB (2 ^ O) (fun B => allB (2 ^ O) (fun w => decide (nI B = nI (2 ^ O - 1) &&& (nI w ^^^ (-1))) == decide ((nI (2 ^ O - 1) &&& (nI B ^^^ (-1))) = nI w)))) = true := by decide +kernel
theorem dec_iff {a b : Prop} [Decidable a] [Decidable b] (h : (decide a == decide b) = true) : a ↔ b := by
  have h := beq_iff_eq.mp h
  exact ⟨fun x => of_decide_eq_true (h ▸ decide_eq_true x), fun x => of_decide_eq_true (h.symm ▸ decide_eq_true x)⟩
theorem st_lt {O w : Nat} (hO : O < 7) (hw : w < 64) : (nI w < nI (2 ^ O)) ↔ (nI w &&& (nI (2 ^ O - 1) ^^^ (-1))) = 0 := dec_iff (allB_of (allB_of st_lt_num hO) hw)
theorem st_sp {O B w : Nat} (hO : O < 7) (hB : B < 2 ^ O) (hw : w < 2 ^ O) : (nI B = nI (2 ^ O - 1) &&& (nI w ^^^ (-1))) ↔ ((nI (2 ^ O - 1) &&& (nI B ^^^ (-1))) = nI w) := dec_iff (allB_of (allB_of (allB_of st_sp_num hO) hB) hw)
def stI (d : DV) (σ0 τ0 σ τ : SX) : Prop := (∃ o, DX 17 σ (setSv d o)) ∧ FD σ0 σ ∧ (∃ o, DM τ (setSv d o)) ∧ Kept τ τ0 ∧ (gF τ 0 6 = gF τ0 0 6 ∧ gR τ 5 = gR τ0 5) ∧ FM τ0 τ
def stC (pn : Nat) (a b f : Int32) : Prop := (pn = 0 ∧ a = -9 ∧ b = -9 ∧ f = -9) ∨ (0 < pn ∧ ∃ h0 v0, h0 < 6 ∧ v0 < 10 ∧ a = nI h0 ∧ b = nI v0 ∧ f = nI (10 * h0 + v0))
theorem stI_put {d : DV} {σ0 τ0 σ τ : SX} (h : stI d σ0 τ0 σ τ) (i v : Nat) : stI d σ0 τ0 (sF (sF σ 17 3 (nI i)) 17 4 (nI v)) (sF (sF τ 0 8 (nI i)) 0 9 (nI v)) ∧ DX 17 (sF (sF σ 17 3 (nI i)) 17 4 (nI v)) (setSv d (some (i, v))) ∧ DM (sF (sF τ 0 8 (nI i)) 0 9 (nI v)) (setSv d (some (i, v))) := by
  obtain ⟨⟨o, h1⟩, h2, ⟨o', h3⟩, h4, ⟨h5, h6⟩, h7⟩ := h
  have a := X_setSv h1 (x := nI i) (y := nI v) (o := some (i, v)) ⟨rfl, rfl⟩
  have b := M_setSv h3 (x := nI i) (y := nI v) (o := some (i, v)) ⟨rfl, rfl⟩
  refine ⟨⟨⟨_, a⟩, h2.trans ((FD_sF (by omega)).trans (FD_sF (by omega))), ⟨_, b⟩, h4, ⟨?_, h6⟩, h7.trans ((FM_sF (by omega)).trans (FM_sF (by omega)))⟩, a, b⟩
  rw [gF_sF, if_neg (by decide), gF_sF, if_neg (by decide)]
  exact h5
theorem stEnd {d : DV} {e : RD} {q : SHT} {tr ft : Int32} {σ0 τ0 σ τ : SX} (hA : RelA d e q tr ft σ0 τ0) (h : stI d σ0 τ0 σ τ) {pn : Nat} {a b f y2 : Int32} (hc : stC pn a b f) : BP (PR Rel) (if y2 = 0 then some (nI pn, σ) else if y2 = 1 then some (a, σ) else some (b, σ)) (ob2 (f_X5_putBack τ) (fun _ s => if y2 = 0 then some (nI pn, s) else if f = -9 then some (-9, s) else if y2 = 1 then some (f / 10, s) else some (f - f / 10 * 10, s))) := by
  obtain ⟨-, h2, ⟨o', h3⟩, h4, ⟨h5, h6⟩, h7⟩ := h
  have hA0 := hA
  obtain ⟨⟨ok, h0⟩, hx, hm, -⟩ := hA
  obtain ⟨τ', g1, g2, g3⟩ := M_back ok hm h4 (h3.1.trans hm.1.symm) h5 h6
  have hr : Rel σ τ' := (hA0.draft h2 g2 (h7.trans g3)).rel
  rw [g1, ob2_some]
  rcases hc with ⟨c1, c2, c3, c4⟩ | ⟨c1, i, v, c2, c3, c4, c5, c6⟩
  · rw [c4, if_pos (show (-9 : Int32) = -9 from rfl), c2, c3]
    refine BP.ite (fun _ => BP.ret ⟨rfl, hr⟩) (fun _ => ?_)
    split <;> exact BP.ret ⟨rfl, hr⟩
  · rw [c6, if_neg (neg9' _ (by omega)), show (10 : Int32) = nI 10 from rfl, pk_rem (by omega) (by decide) (by decide), pk_div (by omega) (by decide) (by decide), c4, c5]
    refine BP.ite (fun _ => BP.ret ⟨rfl, hr⟩) (fun _ => BP.ite (fun _ => BP.ret ⟨congrArg nI (by omega), hr⟩) (fun _ => BP.ret ⟨congrArg nI (by omega), hr⟩))
theorem stIn {d : DV} {e : RD} {q : SHT} {tr ft : Int32} {σ0 τ0 : SX} (hA : RelA d e q tr ft σ0 τ0) {w : Nat} (hw : w < 2 ^ dO d) {y2 : Int32} (h nX : Nat) (hh : h < dH d)
    (hK : ∀ σ τ pn a b f nM, stI d σ0 τ0 σ τ → stC pn a b f → pn ≤ 10 * (h + 1) → 10 * dH d < 10 * (h + 1) + nM → BP (PR Rel) (f_X4_stovesThatSpare_L24 nX σ (nI (2 ^ dO d - 1) &&& (nI w ^^^ (-1))) y2 (nI pn) a b (nI (h + 1))) (f_X5_stoves_L65 nM τ (nI w) y2 (nI (2 ^ dO d - 1)) (nI pn) f (nI (10 * (h + 1))))) :
    ∀ (r v n nM : Nat) (σ τ : SX) (pn : Nat) (a b f : Int32), v + r = 10 → r < n → stI d σ0 τ0 σ τ → stC pn a b f → pn ≤ 10 * h + v → 10 * dH d < 10 * h + v + nM → BP (PR Rel) (f_X4_stovesThatSpare_L39 (fun σ y1 y2 y3 y4 y5 y6 => f_X4_stovesThatSpare_L24 nX σ y1 y2 y3 y4 y5 y6) n σ (nI (2 ^ dO d - 1) &&& (nI w ^^^ (-1))) y2 (nI pn) a b (nI h) (nI v)) (f_X5_stoves_L65 nM τ (nI w) y2 (nI (2 ^ dO d - 1)) (nI pn) f (nI (10 * h + v))) := by
  obtain ⟨⟨ok, h0⟩, hx, hm, -⟩ := hA
  have e1 := ok.1
  have e3 := ok.2.2.1
  have hT : 2 ^ dO d ≤ 64 := p64 e3
  intro r
  induction r with
  | zero =>
    intro v n nM σ τ pn a b f hv hn hI hC hp hM
    obtain ⟨n, rfl⟩ : ∃ z, n = z + 1 := ⟨n - 1, by omega⟩
    have : v = 10 := by omega
    subst this
    rw [f_X4_stovesThatSpare_L39, if_pos (show (9 : Int32) < nI 10 by decide), nI_1]
    exact hK σ τ pn a b f nM hI hC (by omega) (by omega)
  | succ r ih =>
    intro v n nM σ τ pn a b f hv hn hI hC hp hM
    obtain ⟨n, rfl⟩ : ∃ z, n = z + 1 := ⟨n - 1, by omega⟩
    obtain ⟨nM, rfl⟩ : ∃ z, nM = z + 1 := ⟨nM - 1, by omega⟩
    obtain ⟨hI2, dx, dm⟩ := stI_put hI h v
    have okv : dOk (setSv d (some (h, v))) := setSv_ok ok (fun z hz => by cases hz; exact ⟨hh, by omega⟩)
    obtain ⟨-, -, ⟨o', h3⟩, -⟩ := hI
    have hB := sN_lt (bnd (setSv d (some (h, v)))) (dO d)
    rw [f_X4_stovesThatSpare_L39, if_neg (show ¬ (9 : Int32) < nI v from fun z => by have := (nI_ltI (a := 9) (by decide) (by omega)).mp z; omega), f_X5_stoves_L65, show gF τ 0 5 = nI (dH d) from h3.1, show (10 : Int32) = nI 10 from rfl, pk_mul, if_neg (by rw [le_nI (by omega) (by omega)]; omega), pk_rem (by omega) (by decide) (by decide), pk_div (by omega) (by decide) (by decide), show (10 * h + v) / 10 = h by omega, show (10 * h + v) % 10 = v by omega]
    unfold f_X0_putStove
    rw [ob2_some, X_bind dx okv, ob1_some, M_bind dm okv, ob1_some, nI_1, nI_1, nI_1]
    have hr : ∀ pn' a' b' f', stC pn' a' b' f' → pn' ≤ 10 * h + (v + 1) → _ := fun pn' a' b' f' g1 g2 => ih (v + 1) n nM _ _ pn' a' b' f' (by omega) (by omega) hI2 g1 g2 (by omega)
    refine BP.ite2 (st_sp (by omega) hB hw) (fun _ => ?_) (fun _ => hr pn a b f hC (by omega))
    rcases hC with ⟨c1, c2, c3, c4⟩ | ⟨c1, i, v0, c2, c3, c4, c5, c6⟩
    · rw [c4, if_pos (show (-9 : Int32) = -9 from rfl), if_pos (by rw [c1]; rfl)]
      exact hr (pn + 1) (nI h) (nI v) (nI (10 * h + v)) (Or.inr ⟨by omega, h, v, by omega, by omega, rfl, rfl, rfl⟩) (by omega)
    · rw [c6, if_neg (neg9' _ (by omega)), if_neg (fun z => by have := (nI_eq0 (by omega)).mp z; omega), ← c6]
      exact hr (pn + 1) a b f (Or.inr ⟨by omega, i, v0, c2, c3, c4, c5, c6⟩) (by omega)
theorem stOut {d : DV} {e : RD} {q : SHT} {tr ft : Int32} {σ0 τ0 : SX} (hA : RelA d e q tr ft σ0 τ0) {w : Nat} (hw : w < 2 ^ dO d) {y2 : Int32} :
    ∀ (r h nX nM : Nat) (σ τ : SX) (pn : Nat) (a b f : Int32), h + r = dH d → r < nX → stI d σ0 τ0 σ τ → stC pn a b f → pn ≤ 10 * h → 10 * dH d < 10 * h + nM → BP (PR Rel) (f_X4_stovesThatSpare_L24 nX σ (nI (2 ^ dO d - 1) &&& (nI w ^^^ (-1))) y2 (nI pn) a b (nI h)) (f_X5_stoves_L65 nM τ (nI w) y2 (nI (2 ^ dO d - 1)) (nI pn) f (nI (10 * h))) := by
  have hA0 := hA
  obtain ⟨⟨ok, h0⟩, hx, hm, -⟩ := hA
  have e1 := ok.1
  intro r
  induction r with
  | zero =>
    intro h nX nM σ τ pn a b f hr hn hI hC hp hM
    obtain ⟨nX, rfl⟩ : ∃ z, nX = z + 1 := ⟨nX - 1, by omega⟩
    obtain ⟨nM, rfl⟩ : ∃ z, nM = z + 1 := ⟨nM - 1, by omega⟩
    have hI0 := hI
    obtain ⟨-, h2, ⟨o', h3⟩, -⟩ := hI
    rw [f_X4_stovesThatSpare_L24, f_X5_stoves_L65, (h2.now hx).1, if_pos (show nI (dH d) ≤ nI h by rw [le_nI (by omega) (by omega)]; omega), show gF τ 0 5 = nI (dH d) from h3.1, show nI (dH d) * (10 : Int32) = nI (dH d * 10) from pk_mul _ 10, if_pos (show nI (dH d * 10) ≤ nI (10 * h) by rw [le_nI (by omega) (by omega)]; omega)]
    exact stEnd hA0 hI0 hC
  | succ r ih =>
    intro h nX nM σ τ pn a b f hr hn hI hC hp hM
    obtain ⟨nX, rfl⟩ : ∃ z, nX = z + 1 := ⟨nX - 1, by omega⟩
    have h2 := hI.2.1
    rw [f_X4_stovesThatSpare_L24, (h2.now hx).1, if_neg (by rw [le_nI (by omega) (by omega)]; omega)]
    exact stIn hA0 hw h nX (by omega) (fun σ τ pn a b f nM g1 g2 g3 g4 => ih (h + 1) nX nM σ τ pn a b f (by omega) (by omega) g1 g2 g3 g4) 10 0 100 nM σ τ pn a b f (by omega) (by omega) hI hC (by omega) (by omega)
theorem within_n {α : Type} {x : Int32} {N : Nat} (hN : N + 1 < 2 ^ 31) (h : x < 0 ∨ (¬ x < 0 ∧ nI (N + 1) ≤ x)) {a b : α} : (if x < (0 : Int32) then a else if nI N < x then a else b) = a := by
  rcases h with h | ⟨h, h2⟩
  · rw [if_pos h]
  · rw [if_neg h, if_pos]
    rw [Int32.lt_iff_toInt_lt, nI_toInt (by omega)]
    rw [Int32.le_iff_toInt_le, nI_toInt hN] at h2
    omega
theorem within_y {α : Type} {j N : Nat} (hN : N + 1 < 2 ^ 31) (h : j ≤ N) {a b : α} : (if nI j < (0 : Int32) then a else if nI N < nI j then a else b) = b := by
  rw [if_neg (nI_nneg (by omega)), if_neg (by rw [lt_nI (by omega) (by omega)]; omega)]
theorem Sim_stoves_ok : Sim_stoves Rel := by
  intro σ τ hR x1 x2
  obtain ⟨d, e, q, tr, ft, hA⟩ := hR
  have hA0 := hA
  obtain ⟨⟨ok, h0⟩, hx, hm, -⟩ := hA
  have e1 := ok.1
  have e3 := ok.2.2.1
  have hT : 2 ^ dO d ≤ 64 := p64 e3
  have e0 : ∀ k : Int32 → Option (Int32 × SX), ob1 (some (0 : Int32)) k = k 0 := fun _ => rfl
  have e1' : ∀ k : Int32 → Option (Int32 × SX), ob1 (some (1 : Int32)) k = k 1 := fun _ => rfl
  refine BP.rwR ?_
  unfold f_X4_stoves f_X5_stoves f_X5_within
  rcases ix3 x1 64 (by decide) with c | ⟨c, c2⟩ | ⟨w, hw, c⟩
  · rw [show (if x1 < (0 : Int32) then some (0 : Int32) else if (63 : Int32) < x1 then some 0 else some 1) = some 0 from within_n (N := 63) (by decide) (Or.inl c), e0, if_pos (show (0 : Int32) = 0 from rfl), if_pos c]; exact BP.ret ⟨rfl, hA0.rel⟩
  · rw [show (if x1 < (0 : Int32) then some (0 : Int32) else if (63 : Int32) < x1 then some 0 else some 1) = some 0 from within_n (N := 63) (by decide) (Or.inr ⟨c, c2⟩), e0, if_pos (show (0 : Int32) = 0 from rfl), if_neg c, if_pos (show (64 : Int32) ≤ x1 from c2)]; exact BP.ret ⟨rfl, hA0.rel⟩
  rw [c, show (if nI w < (0 : Int32) then some (0 : Int32) else if (63 : Int32) < nI w then some 0 else some 1) = some 1 from within_y (N := 63) (by decide) (by omega), e1', if_neg one0, if_neg (nI_nneg (by omega)), if_neg (show ¬ (64 : Int32) ≤ nI w from fun z => by have := (nI_leI (a := 64) (by decide) (by omega)).mp z; omega)]
  rcases ix3 x2 3 (by decide) with c | ⟨c, c2⟩ | ⟨y, hy, c⟩
  · rw [show (if x2 < (0 : Int32) then some (0 : Int32) else if (2 : Int32) < x2 then some 0 else some 1) = some 0 from within_n (N := 2) (by decide) (Or.inl c), e0, if_pos (show (0 : Int32) = 0 from rfl), if_pos c]; exact BP.ret ⟨rfl, hA0.rel⟩
  · have c3 : ¬ x2 ≤ (2 : Int32) := by
      rw [Int32.le_iff_toInt_le, nI_toInt (by decide)] at c2
      rw [Int32.le_iff_toInt_le]
      have a1 : (2 : Int32).toInt = 2 := by decide
      omega
    rw [show (if x2 < (0 : Int32) then some (0 : Int32) else if (2 : Int32) < x2 then some 0 else some 1) = some 0 from within_n (N := 2) (by decide) (Or.inr ⟨c, c2⟩), e0, if_pos (show (0 : Int32) = 0 from rfl), if_neg c, if_neg c3]; exact BP.ret ⟨rfl, hA0.rel⟩
  rw [c, show (if nI y < (0 : Int32) then some (0 : Int32) else if (2 : Int32) < nI y then some 0 else some 1) = some 1 from within_y (N := 2) (by decide) (by omega), e1', if_neg one0, if_neg (nI_nneg (by omega)), if_pos (show nI y ≤ (2 : Int32) from (nI_leI (b := 2) (by omega) (by decide)).mpr (by omega))]
  refine bp_day ok h0 hx hm (BP.ret ⟨rfl, hA0.rel⟩) (fun _ _ => ?_)
  rw [if_neg one0, hx.2.2.1, hm.2.2.1, all_num _ (by omega), shl1 _ (by omega)]
  refine BP.ite2 (st_lt (by omega) hw) (fun z => ?_) (fun _ => BP.ret ⟨rfl, hA0.rel⟩)
  have hw2 := (nI_ltI (by omega) (by omega)).mp z
  unfold f_X0_allOaths f_X4_stovesThatSpare
  rw [hx.2.2.1, all_num _ (by omega), ob1_some]
  obtain ⟨σ', g1, g2, g3⟩ := X_draft hx ok
  obtain ⟨τ', k1, k2, k3, k4⟩ := M_keep τ
  rw [g1, k1, ob2_some, ob2_some]
  have hdm : DM τ' d := by
    unfold DM
    simp only [k2]
    rw [k3 4 (by decide), k3 5 (by decide), k3 6 (by decide), k3 7 (by decide), k3 8 (by decide), k3 9 (by decide)]
    exact hm
  have h := stOut hA0 hw2 (y2 := nI y) (dH d) 0 100 100 σ' τ' 0 (-9) (-9) (-9) (by omega) (by omega) ⟨⟨dV d, g2⟩, g3, ⟨dV d, hdm⟩, k4, ⟨k2 _ _, k3 5 (by decide)⟩, ⟨fun _ _ => k2 _ _, fun c hc => k3 c (by omega)⟩⟩ (Or.inl ⟨rfl, rfl, rfl, rfl⟩) (by omega) (by omega)
  obtain ⟨⟨r, z⟩, ⟨r', z'⟩, a1, a2, a3⟩ := h
  exact ⟨_, _, by rw [show (0 : Int32) = nI 0 from rfl, a1]; rfl, a2, a3⟩
