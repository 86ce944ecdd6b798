/-! ===== one act of a case; a case of acts ===== -/
def actP (a b : Int32) : Prop := ∃ x y : Nat, a = nI x ∧ b = nI y ∧ y ≤ 17 ∧ x ≤ 9
theorem act_num (y N : Nat) (hN : N ≤ 9) (hy : y ≤ 17) (a : Int32) {f g : Option Int32} (hf : f = if a < 0 then some 0 else if nI N < a then some 0 else some 1) (hg : g = ob1 (f_X5_within a 0 (nI N)) (fun r => if r = 0 then some 0 else some 1)) : (f = some 1 ∧ g = some 1 ∧ actP a (nI y)) ∨ (f = some 0 ∧ g = some 0) := by
  rw [hf, hg]
  unfold f_X5_within
  rcases ix3 a (N + 1) (by omega) with c | c | ⟨x, hx, c⟩
  · rw [within_n (N := N) (by omega) (Or.inl c)]; exact Or.inr ⟨rfl, rfl⟩
  · rw [within_n (N := N) (by omega) (Or.inr c)]; exact Or.inr ⟨rfl, rfl⟩
  · rw [c, within_y (N := N) (by omega) (by omega)]; exact Or.inl ⟨rfl, rfl, x, y, rfl, rfl, hy, by omega⟩
theorem act_eq (a b : Int32) : (f_X4_isAct a b = some 1 ∧ f_X5_isPair a b = some 1 ∧ actP a b) ∨ (f_X4_isAct a b = some 0 ∧ f_X5_isPair a b = some 0) := by
  rcases ix3 b 18 (by decide) with c | ⟨c, c2⟩ | ⟨y, hy, c⟩
  · refine Or.inr ⟨?_, ?_⟩
    · unfold f_X4_isAct; rw [if_pos c]
    · unfold f_X5_isPair f_X5_within
      rw [show (if b < (0 : Int32) then some (0 : Int32) else if (17 : Int32) < b then some 0 else some 1) = some 0 from within_n (N := 17) (by decide) (Or.inl c)]; rfl
  · refine Or.inr ⟨?_, ?_⟩
    · have c3 : ¬ b ≤ (17 : Int32) := by
        rw [Int32.le_iff_toInt_le, nI_toInt (by decide)] at c2
        rw [Int32.le_iff_toInt_le]
        have a1 : (17 : Int32).toInt = 17 := by decide
        omega
      unfold f_X4_isAct; rw [if_neg c, if_neg c3]
    · unfold f_X5_isPair f_X5_within
      rw [show (if b < (0 : Int32) then some (0 : Int32) else if (17 : Int32) < b then some 0 else some 1) = some 0 from within_n (N := 17) (by decide) (Or.inr ⟨c, c2⟩)]; rfl
  · have e1 : f_X5_within b 0 17 = some 1 := by
      unfold f_X5_within; rw [c]
      exact within_y (N := 17) (by decide) (by omega)
    have e2 : ¬ b < 0 := by rw [c]; exact nI_nneg (by omega)
    have e3 : b ≤ 17 := by rw [c]; exact (nI_leI (b := 17) (by omega) (by decide)).mpr (by omega)
    have e10 : (b = 10) ↔ y = 10 := by rw [c]; exact nI_eq (b := 10) (by omega) (by decide)
    have e17 : (b = 17) ↔ y = 17 := by rw [c]; exact nI_eq (b := 17) (by omega) (by decide)
    unfold f_X4_isAct f_X5_isPair
    rw [e1, if_neg e2, if_pos e3, show ∀ k : Int32 → Option Int32, ob1 (some (1 : Int32)) k = k 1 from fun _ => rfl, if_neg one0]
    by_cases c10 : y = 10
    · rw [if_pos (e10.mpr c10), if_pos (e10.mpr c10), c]
      exact act_num y 5 (by decide) (by omega) a rfl rfl
    · rw [if_neg (fun z => c10 (e10.mp z)), if_neg (fun z => c10 (e10.mp z))]
      by_cases c17 : y = 17
      · rw [if_pos (e17.mpr c17), if_pos (e17.mpr c17), c]
        exact act_num y 0 (by decide) (by omega) a rfl rfl
      · rw [if_neg (fun z => c17 (e17.mp z)), if_neg (fun z => c17 (e17.mp z)), c]
        exact act_num y 9 (by decide) (by omega) a rfl rfl
/-- the two days of a trial, from the day it began with -/
def caI (d : DV) (σ0 τ0 : SX) (D : DV) (σ τ : SX) : Prop := dOk D ∧ (dH D = dH d ∧ dS D = dS d) ∧ DX 17 σ D ∧ DM τ D ∧ FD σ0 σ ∧ FM τ0 τ ∧ Kept τ τ0 ∧ gR τ 5 = gR τ0 5
theorem FD_off {σ σ' : SX} (h1 : ∀ c k, c ≠ 17 → gF σ' c k = gF σ c k) (h2 : ∀ c, (c ≤ 17 ∨ 17 + 6 < c) → gR σ' c = gR σ c) : FD σ σ' := ⟨fun c k h => h1 c k (by omega), fun c h => h2 c (by omega)⟩
def caR (d : DV) (σ0 τ0 : SX) (z z' : Int32 × SX) : Prop := z.1 = z'.1 ∧ ∃ D, caI d σ0 τ0 D z.2 z'.2
theorem act_ok {d D : DV} {σ0 τ0 σ τ : SX} (h : caI d σ0 τ0 D σ τ) {a b : Int32} (hp : actP a b) : BP (caR d σ0 τ0) (f_X0_takesAct σ 17 a b) (f_X5_does τ a b) := by
  have h0 := h
  obtain ⟨ok, ⟨eH, eS⟩, hx, hm, fd, fm, hK, h5⟩ := h
  obtain ⟨x, y, ea, eb, hy, hx9⟩ := hp
  have e1 := ok.1
  have e2 := ok.2.1
  have e3 := ok.2.2.1
  have e17 : (b = 17) ↔ y = 17 := by rw [eb]; exact nI_eq (b := 17) (by omega) (by decide)
  have e10 : (b = 10) ↔ y = 10 := by rw [eb]; exact nI_eq (b := 10) (by omega) (by decide)
  have l11 : (b < 11) ↔ y < 11 := by rw [eb]; exact nI_ltI (b := 11) (by omega) (by decide)
  have l4 : (b < 4) ↔ y < 4 := by rw [eb]; exact nI_ltI (b := 4) (by omega) (by decide)
  have g4 : (4 ≤ b) ↔ 4 ≤ y := by rw [eb]; exact nI_leI (a := 4) (by decide) (by omega)
  have g10 : (10 ≤ b) ↔ 10 ≤ y := by rw [eb]; exact nI_leI (a := 10) (by decide) (by omega)
  have t1 : ∀ k : Option (Int32 × SX), oif ((1 : Int32) = 0 ∨ (1 : Int32) = 1) k = k := fun k => oif_t k (Or.inr rfl)
  have t0 : ∀ k : Option (Int32 × SX), oif ((0 : Int32) = 0 ∨ (0 : Int32) = 1) k = k := fun k => oif_t k (Or.inl rfl)
  unfold f_X0_takesAct f_X5_does
  by_cases c17 : y = 17
  · rw [if_pos (e17.mpr c17), if_pos (g4.mpr (by omega)), if_pos (g10.mpr (by omega)), if_neg (fun z => by have := e10.mp z; omega), if_pos (e17.mpr c17)]
    refine BP.ret ⟨rfl, setSv D none, setSv_ok ok (fun z hz => by cases hz), ⟨eH, eS⟩, X_setSv hx rfl, M_noSv hm, fd.trans ((FD_sF (by omega)).trans (FD_sF (by omega))), fm.trans (FM_sF (by omega)), hK, h5⟩
  rw [if_neg (fun z => c17 (e17.mp z))]
  by_cases c11 : y < 11
  · rw [if_pos (l11.mpr c11)]
    by_cases c10 : y = 10
    · rw [if_pos (e10.mpr c10), if_pos (g4.mpr (by omega)), if_pos (g10.mpr (by omega)), if_pos (e10.mpr c10), ea]
      rcases ix3 (nI x) (dO D) (by omega) with q | q | ⟨i, hi, q⟩
      · exact absurd q (nI_nneg (by omega))
      · unfold f_X0_dropOath
        rw [X_oath_out hx (Or.inr q), M_oath_out hm (Or.inr q)]
        exact BP.ret ⟨rfl, D, h0⟩
      · rw [q, X_oath_in hx ok hi, M_oath_in hm ok hi]
        obtain ⟨σ', g1, g2, g3, g4⟩ := X_drop hx ok hi
        obtain ⟨τ', k1, k2, k3, k4, k5⟩ := M_off hm ok hi
        rw [show ∀ k : Int32 → Option (Int32 × SX), ob1 (some (1 : Int32)) k = k 1 from fun _ => rfl, show ∀ k : Int32 → Option (Int32 × SX), ob1 (some (1 : Int32)) k = k 1 from fun _ => rfl, if_neg one0, g1, k1, ob2_some, ob2_some, t1]
        refine BP.ret ⟨rfl, dropOa D i, dropOa_ok ok hi, ⟨eH, eS⟩, g2, k2, fd.trans (FD_off g3 g4), fm.trans k3, ?_, (k4 5 (by omega)).trans h5⟩
        unfold Kept
        rw [k4 13 (by omega)]
        exact hK
    · rw [if_neg (fun z => c10 (e10.mp z))]
      by_cases c4 : y < 4
      · rw [if_pos (l4.mpr c4), if_neg (fun z => by have := g4.mp z; omega), ea, eb]
        unfold f_X0_takesCoat
        rcases ix3 (nI y) (dS D) (by omega) with q | q | ⟨i, hi, q⟩
        · exact absurd q (nI_nneg (by omega))
        · rw [X_swr_out hx (Or.inr q), M_swr_out hm (Or.inr q)]
          exact BP.ret ⟨rfl, D, h0⟩
        · rw [q, X_swr_in hx ok hi, M_swr_in hm ok hi]
          rw [show ∀ k : Int32 → Option (Int32 × SX), ob1 (some (1 : Int32)) k = k 1 from fun _ => rfl, show ∀ k : Int32 → Option (Int32 × SX), ob1 (some (1 : Int32)) k = k 1 from fun _ => rfl, if_neg one0, if_neg one0, oin_nI _ (by omega) (by decide), oin_nI _ (by omega) (by decide), cl i (by omega), ob2_some, t1]
          refine BP.ret ⟨rfl, setCt D i x, setCt_ok ok hx9, ⟨eH, eS⟩, X_setCt hx i x, M_setCt hm i x, fd.trans (FD_sR (by omega)), fm.trans (FM_sR (by omega)), ?_, ?_⟩
          · unfold Kept; rw [gR_sR, if_neg (by decide)]; exact hK
          · rw [gR_sR, if_neg (by decide)]; exact h5
      · rw [if_neg (fun z => c4 (l4.mp z)), if_pos (g4.mpr (by omega)), if_neg (fun z => by have := g10.mp z; omega), ea, eb, show nI y - (4 : Int32) = nI (y - 4) from pk_sub (b := 4) (by omega)]
        unfold f_X0_takesFrost
        rcases ix3 (nI (y - 4)) (dH D) (by omega) with q | q | ⟨i, hi, q⟩
        · exact absurd q (nI_nneg (by omega))
        · rw [X_hour_out hx (Or.inr q), M_hour_out hm (Or.inr q)]
          exact BP.ret ⟨rfl, D, h0⟩
        · rw [q, X_hour_in hx ok hi, M_hour_in hm ok hi]
          rw [show ∀ k : Int32 → Option (Int32 × SX), ob1 (some (1 : Int32)) k = k 1 from fun _ => rfl, show ∀ k : Int32 → Option (Int32 × SX), ob1 (some (1 : Int32)) k = k 1 from fun _ => rfl, if_neg one0, if_neg one0, oin_nI _ (by omega) (by decide), oin_nI _ (by omega) (by decide), cl i (by omega), ob2_some, t1]
          refine BP.ret ⟨rfl, setFr D i x, setFr_ok ok hx9, ⟨eH, eS⟩, X_setFr hx i x, M_setFr hm i x, fd.trans (FD_sR (by omega)), fm.trans (FM_sR (by omega)), ?_, ?_⟩
          · unfold Kept; rw [gR_sR, if_neg (by decide)]; exact hK
          · rw [gR_sR, if_neg (by decide)]; exact h5
  · rw [if_neg (fun z => c11 (l11.mp z)), if_pos (g4.mpr (by omega)), if_pos (g10.mpr (by omega)), if_neg (fun z => by have := e10.mp z; omega), if_neg (fun z => c17 (e17.mp z)), ea, eb, show nI y - (11 : Int32) = nI (y - 11) from pk_sub (b := 11) (by omega)]
    unfold f_X0_takesStove
    rcases ix3 (nI (y - 11)) (dH D) (by omega) with q | q | ⟨i, hi, q⟩
    · exact absurd q (nI_nneg (by omega))
    · rw [X_hour_out hx (Or.inr q), M_hour_out hm (Or.inr q)]
      exact BP.ret ⟨rfl, D, h0⟩
    · rw [q, X_hour_in hx ok hi, M_hour_in hm ok hi]
      refine BP.ret ⟨rfl, setSv D (some (i, x)), setSv_ok ok (fun z hz => by cases hz; exact ⟨hi, hx9⟩), ⟨eH, eS⟩, X_setSv hx ⟨rfl, rfl⟩, M_setSv hm ⟨rfl, rfl⟩, fd.trans ((FD_sF (by omega)).trans (FD_sF (by omega))), fm.trans ((FM_sF (by omega)).trans (FM_sF (by omega))), hK, h5⟩
theorem two_j (a j : Nat) : nI a + (2 : Int32) * nI j = nI (a + 2 * j) := by
  rw [show (2 : Int32) = nI 2 from rfl, pk_mul, nI_add]
/-- what the class and the reference read off the sheets stays -/
theorem cell_X {σ0 σ : SX} {c n : Nat} {f : Nat → Int32} (hc : c < 9) (fd : FD σ0 σ) (h3 : gF σ0 c 3 = nI n) (hn : n ≤ 60) (hf : ∀ i, i < 60 → gR σ0 (c + 1) i = f i) {i : Nat} (hi : i < n) : f_X3_at σ c (nI i) = some (f i) := by
  rw [X_at ((fd.1 c 3 (by omega)).trans h3) hn hi, fd.2 (c + 1) (by omega), hf i (by omega)]
theorem play_ok {d : DV} {σ0 τ0 : SX} {c z k i n : Nat} {f : Nat → Int32} (hc : c < 9) (h3 : gF σ0 c 3 = nI z) (hz : z ≤ 60) (hk : k < 4) (hf : ∀ i, i < 60 → gR σ0 (c + 1) i = f i) (hg : ∀ i, i < 60 → gR τ0 3 (60 * k + i) = f i) (hi : i + 2 * n ≤ z) (hp : ∀ t, t < n → actP (f (i + 2 * t)) (f (i + 2 * t + 1))) :
    ∀ (r j nX nM : Nat) (σ τ : SX) (D : DV), j + r = n → r < nX → r < nM → caI d σ0 τ0 D σ τ → BP (caR d σ0 τ0) (f_X4_playCase_L3 c nX σ (nI i) (nI n) (nI j)) (f_X5_goCase_L2 nM τ (nI (60 * k + i)) (nI n) (nI j)) := by
  intro r
  induction r with
  | zero =>
    intro j nX nM σ τ D hj hX hM hI
    obtain ⟨nX, rfl⟩ : ∃ z, nX = z + 1 := ⟨nX - 1, by omega⟩
    obtain ⟨nM, rfl⟩ : ∃ z, nM = z + 1 := ⟨nM - 1, by omega⟩
    rw [f_X4_playCase_L3, f_X5_goCase_L2, if_pos (by rw [le_nI (by omega) (by omega)]; omega), if_pos (by rw [le_nI (by omega) (by omega)]; omega)]
    exact BP.ret ⟨rfl, D, hI⟩
  | succ r ih =>
    intro j nX nM σ τ D hj hX hM hI
    obtain ⟨nX, rfl⟩ : ∃ z, nX = z + 1 := ⟨nX - 1, by omega⟩
    obtain ⟨nM, rfl⟩ : ∃ z, nM = z + 1 := ⟨nM - 1, by omega⟩
    have fd := hI.2.2.2.2.1
    have fm := hI.2.2.2.2.2.1
    rw [f_X4_playCase_L3, f_X5_goCase_L2, if_neg (by rw [le_nI (by omega) (by omega)]; omega), if_neg (by rw [le_nI (by omega) (by omega)]; omega), two_j, two_j, nI_1, nI_1, nI_1, cell_X hc fd h3 hz hf (by omega), ob1_some, cell_X hc fd h3 hz hf (by omega), ob1_some, oin_nI _ (by omega) (by decide), oin_nI _ (by omega) (by decide), cl _ (by omega), cl _ (by omega), fm.2 3 (by omega), show 60 * k + i + 2 * j + 1 = 60 * k + (i + 2 * j + 1) by omega, show 60 * k + i + 2 * j = 60 * k + (i + 2 * j) by omega, hg _ (by omega), hg _ (by omega)]
    obtain ⟨⟨r1, s1⟩, ⟨r2, s2⟩, a1, a2, a3, D', a4⟩ := act_ok hI (hp j (by omega))
    cases a3
    rw [a1, a2, ob2_some, ob2_some]
    exact BP.ite (fun _ => BP.ret ⟨rfl, D', a4⟩) (fun _ => ih (j + 1) nX nM _ _ D' (by omega) (by omega) (by omega) a4)
/-! ===== how often anyone is cold: counted by swearers, counted by hours ===== -/
def sumN (f : Nat → Nat) : Nat → Nat
  | 0 => 0
  | n + 1 => sumN f n + f n
theorem sumN_add (f g : Nat → Nat) : ∀ n, sumN (fun j => f j + g j) n = sumN f n + sumN g n
  | 0 => rfl
  | n + 1 => by
    show sumN (fun j => f j + g j) n + (f n + g n) = sumN f n + f n + (sumN g n + g n)
    rw [sumN_add f g n]; omega
theorem sumN_0 : ∀ n, sumN (fun _ => 0) n = 0
  | 0 => rfl
  | n + 1 => by
    show sumN (fun _ => 0) n + 0 = 0
    rw [sumN_0 n]
theorem sumN_congr {f g : Nat → Nat} : ∀ {n : Nat}, (∀ j, j < n → f j = g j) → sumN f n = sumN g n
  | 0, _ => rfl
  | n + 1, h => by
    show sumN f n + f n = sumN g n + g n
    rw [sumN_congr (n := n) (fun j hj => h j (by omega)), h n (by omega)]
theorem sumN_swap (f : Nat → Nat → Nat) (H : Nat) : ∀ S, sumN (fun s => sumN (fun h => f s h) H) S = sumN (fun h => sumN (fun s => f s h) S) H
  | 0 => (sumN_0 H).symm
  | S + 1 => by
    show sumN (fun s => sumN (fun h => f s h) H) S + sumN (fun h => f S h) H = sumN (fun h => sumN (fun s => f s h) S + f S h) H
    rw [sumN_swap f H S, sumN_add]
set_option maxRecDepth 100000 in
theorem pop_num : allB 6 (fun n => allB (2 ^ n) (fun a => pop (a + 2 ^ n) == pop a + 1)) = true := by decide +kernel
theorem pop_sN (p : Nat → Bool) : ∀ n, n ≤ 6 → pop (sN p n) = sumN (fun j => if p j then 1 else 0) n
  | 0, _ => show pop 0 = 0 by decide
  | n + 1, h => by
    have ih := pop_sN p n (by omega)
    rw [sN_succ]
    show _ = sumN (fun j => if p j then 1 else 0) n + (if p n then 1 else 0)
    rw [← ih]
    cases p n with
    | false => rfl
    | true => exact beq_iff_eq.mp (allB_of (allB_of pop_num (show n < 6 by omega)) (sN_lt p n))
theorem sumN_le {f : Nat → Nat} {B : Nat} : ∀ {n : Nat}, (∀ j, j < n → f j ≤ B) → sumN f n ≤ n * B
  | 0, _ => Nat.zero_le _
  | n + 1, h => by
    have a := sumN_le (n := n) (fun j hj => h j (by omega))
    have b := h n (by omega)
    show sumN f n + f n ≤ (n + 1) * B
    rw [Nat.succ_mul]; omega
theorem X_times {b : Nat} {σ : SX} {d : DV} (hx : DX b σ d) (ok : dOk d) : ∀ (r j n : Nat), j + r = dS d → r < n → f_X0_timesCold_L4 σ b n (nI (sumN (fun s => pop (sN (cold d s) (dH d))) j)) (nI j) = some (nI (sumN (fun s => pop (sN (cold d s) (dH d))) (dS d))) := by
  have e1 := ok.1
  have e2 := ok.2.1
  intro r
  induction r with
  | zero =>
    intro j n hj hn
    obtain ⟨n, rfl⟩ : ∃ z, n = z + 1 := ⟨n - 1, by omega⟩
    have : j = dS d := by omega
    subst this
    rw [f_X0_timesCold_L4, hx.2.1, if_pos (by rw [le_nI (by omega) (by omega)]; omega)]
  | succ r ih =>
    intro j n hj hn
    obtain ⟨n, rfl⟩ : ∃ z, n = z + 1 := ⟨n - 1, by omega⟩
    rw [f_X0_timesCold_L4, hx.2.1, if_neg (by rw [le_nI (by omega) (by omega)]; omega), X_coldHours hx ok (by omega), ob1_some, bitCount_ok _ (sN_le64 _ e1), ob1_some, nI_1, nI_add]
    exact ih (j + 1) n (by omega) (by omega)
theorem M_times {τ : SX} {d : DV} (hm : DM τ d) (ok : dOk d) (y : Int32) : ∀ (r j n : Nat), j + r = dH d → r < n → f_X5_tellCase_L78 τ n y (nI (sumN (fun h => pop (sN (fun s => cold d s h) (dS d))) j)) (nI j) = some (nI (sumN (fun h => pop (sN (fun s => cold d s h) (dS d))) (dH d))) := by
  have e1 := ok.1
  have e2 := ok.2.1
  intro r
  induction r with
  | zero =>
    intro j n hj hn
    obtain ⟨n, rfl⟩ : ∃ z, n = z + 1 := ⟨n - 1, by omega⟩
    have : j = dH d := by omega
    subst this
    rw [f_X5_tellCase_L78, hm.1, if_pos (by rw [le_nI (by omega) (by omega)]; omega)]
  | succ r ih =>
    intro j n hj hn
    obtain ⟨n, rfl⟩ : ∃ z, n = z + 1 := ⟨n - 1, by omega⟩
    rw [f_X5_tellCase_L78, hm.1, if_neg (by rw [le_nI (by omega) (by omega)]; omega), M_whoCold hm ok (by omega), ob1_some, size_ok _ (sN_le64 _ (by omega)), ob1_some, nI_1, nI_add]
    exact ih (j + 1) n (by omega) (by omega)
theorem times_eq (d : DV) (ok : dOk d) : sumN (fun s => pop (sN (cold d s) (dH d))) (dS d) = sumN (fun h => pop (sN (fun s => cold d s h) (dS d))) (dH d) := by
  have e1 := ok.1
  have e2 := ok.2.1
  rw [sumN_congr (g := fun s => sumN (fun h => if cold d s h then 1 else 0) (dH d)) (fun s _ => pop_sN _ _ e1), sumN_congr (n := dH d) (g := fun h => sumN (fun s => if cold d s h then 1 else 0) (dS d)) (fun h _ => pop_sN _ _ (by omega))]
  exact sumN_swap _ _ _
/-- what is told of a case -/
theorem of_ok {b : Nat} (hb : b = 17) {σ τ : SX} {d : DV} (hx : DX b σ d) (hm : DM τ d) (ok : dOk d) {w : Nat} (hw : w ≤ 4 ∨ (10 ≤ w ∧ w ≤ 13)) : ∃ v, f_X5_tellCase τ (nI w) = some v ∧ (w ≠ 1 → f_X4_ofCase σ (nI w) = some v) := by
  subst hb
  have e1 := ok.1
  have e2 := ok.2.1
  have hB := sN_le64 (bnd d) ok.2.2.1
  have hT : 2 ^ dO d ≤ 64 := p64 ok.2.2.1
  have hl := best_lt (okS d (sN (bnd d) (dO d))) (2 ^ dO d) 0 _ (by omega) hB
  unfold f_X5_tellCase f_X4_ofCase
  by_cases c : w ≤ 4
  · rw [if_pos (show nI w < (10 : Int32) from (nI_ltI (b := 10) (by omega) (by decide)).mpr (by omega))]
    rcases (show w = 0 ∨ w = 1 ∨ w = 2 ∨ w = 3 ∨ w = 4 by omega) with rfl | rfl | rfl | rfl | rfl
    · rw [if_pos (by decide), if_pos (by decide), X_bind hx ok, M_bind hm ok]
      exact ⟨_, rfl, fun _ => rfl⟩
    · rw [if_neg (show ¬ nI 1 = (0 : Int32) by decide), if_pos (show nI 1 = (1 : Int32) by decide), M_let hm ok, ob1_some, size_ok _ hl]
      exact ⟨_, rfl, fun h => absurd rfl h⟩
    · rw [if_neg (show ¬ nI 2 = (0 : Int32) by decide), if_neg (show ¬ nI 2 = (1 : Int32) by decide), if_pos (show nI 2 = (2 : Int32) by decide), if_neg (show ¬ nI 2 = (0 : Int32) by decide), if_neg (show ¬ nI 2 = (1 : Int32) by decide), if_pos (show nI 2 = (2 : Int32) by decide), hx.2.2.1, hm.2.2.1]
      exact ⟨_, rfl, fun _ => rfl⟩
    · rw [if_neg (show ¬ nI 3 = (0 : Int32) by decide), if_neg (show ¬ nI 3 = (1 : Int32) by decide), if_neg (show ¬ nI 3 = (2 : Int32) by decide), if_pos (show nI 3 = (3 : Int32) by decide), if_neg (show ¬ nI 3 = (0 : Int32) by decide), if_neg (show ¬ nI 3 = (1 : Int32) by decide), if_neg (show ¬ nI 3 = (2 : Int32) by decide), if_pos (show nI 3 = (3 : Int32) by decide)]
      refine ⟨_, M_times hm ok (nI 3) (dH d) 0 100 (by omega) (by omega), fun _ => ?_⟩
      rw [show f_X0_timesCold σ 17 = _ from X_times hx ok (dS d) 0 100 (by omega) (by omega), times_eq d ok]
      rfl
    · rw [if_neg (show ¬ nI 4 = (0 : Int32) by decide), if_neg (show ¬ nI 4 = (1 : Int32) by decide), if_neg (show ¬ nI 4 = (2 : Int32) by decide), if_neg (show ¬ nI 4 = (3 : Int32) by decide), if_neg (show ¬ nI 4 = (0 : Int32) by decide), if_neg (show ¬ nI 4 = (1 : Int32) by decide), if_neg (show ¬ nI 4 = (2 : Int32) by decide), if_neg (show ¬ nI 4 = (3 : Int32) by decide), if_pos (show nI 4 = (4 : Int32) by decide), M_let hm ok, ob1_some, size_ok _ hl, X_let hx ok, ob1_some, ob1_some, bitCount_ok _ hl]
      exact ⟨_, rfl, fun _ => rfl⟩
  · have ne : ∀ m, m ≤ 4 → ¬ nI w = nI m := fun m hm z => by have := (nI_eq (by omega) (by omega)).mp z; omega
    rw [if_neg (show ¬ nI w < (10 : Int32) from fun z => by have := (nI_ltI (b := 10) (by omega) (by decide)).mp z; omega), if_neg (show ¬ nI w = (0 : Int32) from ne 0 (by decide)), if_neg (show ¬ nI w = (1 : Int32) from ne 1 (by decide)), if_neg (show ¬ nI w = (2 : Int32) from ne 2 (by decide)), if_neg (show ¬ nI w = (3 : Int32) from ne 3 (by decide)), if_neg (show ¬ nI w = (4 : Int32) from ne 4 (by decide)), show nI w - (10 : Int32) = nI (w - 10) from pk_sub (b := 10) (by omega)]
    by_cases q : w - 10 < dS d
    · rw [X_swr_in hx ok q, M_swr_in hm ok q, X_coldHours hx ok q, M_coldHours hm ok q]
      exact ⟨_, rfl, fun _ => rfl⟩
    · have q2 : nI (w - 10) < 0 ∨ (¬ nI (w - 10) < 0 ∧ nI (dS d) ≤ nI (w - 10)) := Or.inr ⟨nI_nneg (by omega), (nI_leI (by omega) (by omega)).mpr (by omega)⟩
      rw [X_swr_out hx q2, M_swr_out hm q2]
      exact ⟨_, rfl, fun _ => rfl⟩
