/-! ===== who is bound to whom; rings; the least to be let go ===== -/
theorem or_lc (a b c : Nat) : a ||| (b ||| c) = b ||| (a ||| c) := by rw [← Nat.or_assoc, Nat.or_comm a b, Nat.or_assoc]
theorem or_sl (a b : Nat) : a ||| (a ||| b) = a ||| b := by rw [← Nat.or_assoc, Nat.or_self]
def oL (d : DV) (E v : Nat) : Nat → Nat
  | 0 => 0
  | i + 1 => oL d E v i ||| (if E.testBit i && (dBy d i == v) then 2 ^ dTo d i else 0)
def nxL (d : DV) (E P : Nat) : Nat → Nat
  | 0 => 0
  | i + 1 => nxL d E P i ||| (if E.testBit i && P.testBit (dBy d i) then 2 ^ dTo d i else 0)
def wnL (d : DV) (E P : Nat) : Nat → Nat
  | 0 => 0
  | i + 1 => wnL d E P i ||| (if E.testBit i && (P.testBit (dBy d i) && P.testBit (dTo d i)) then 2 ^ dBy d i else 0)
def stepN (o0 o1 o2 o3 P : Nat) : Nat := cond (P.testBit 0) o0 0 ||| (cond (P.testBit 1) o1 0 ||| (cond (P.testBit 2) o2 0 ||| cond (P.testBit 3) o3 0))
def withinN (o0 o1 o2 o3 P : Nat) : Nat := cond (P.testBit 0 && (o0 &&& P != 0)) 1 0 ||| (cond (P.testBit 1 && (o1 &&& P != 0)) 2 0 ||| (cond (P.testBit 2 && (o2 &&& P != 0)) 4 0 ||| cond (P.testBit 3 && (o3 &&& P != 0)) 8 0))
theorem oL_lt {d : DV} (ok : dOk d) (E v : Nat) : ∀ i, i ≤ dO d → oL d E v i < 2 ^ dS d
  | 0, _ => Nat.two_pow_pos _
  | i + 1, h => by
    have := oL_lt ok E v i (by omega)
    have ht := (ok.2.2.2.2.2.1 i (by omega)).2.1
    unfold oL
    split
    · exact Nat.or_lt_two_pow this (Nat.pow_lt_pow_right (by decide) ht)
    · rw [Nat.or_zero]; exact this
theorem oL_self {d : DV} (ok : dOk d) (E v : Nat) : ∀ i, i ≤ dO d → (oL d E v i).testBit v = false
  | 0, _ => by unfold oL; exact Nat.zero_testBit v
  | i + 1, h => by
    have h1 := oL_self ok E v i (by omega)
    obtain ⟨_, _, hne, _⟩ := ok.2.2.2.2.2.1 i (by omega)
    unfold oL
    rw [Nat.testBit_or, h1, Bool.false_or]
    split
    · rename_i hc
      rw [Bool.and_eq_true, beq_iff_eq] at hc
      rw [Nat.testBit_two_pow]
      exact decide_eq_false (fun z => hne (by rw [hc.2, z]))
    · exact Nat.zero_testBit v
theorem oL_out {d : DV} (ok : dOk d) (E : Nat) {v : Nat} (hv : dS d ≤ v) : ∀ i, i ≤ dO d → oL d E v i = 0
  | 0, _ => rfl
  | i + 1, h => by
    have h1 := oL_out ok E hv i (by omega)
    have hb := (ok.2.2.2.2.2.1 i (by omega)).1
    unfold oL
    rw [h1, if_neg, Nat.or_zero]
    intro hc
    rw [Bool.and_eq_true, beq_iff_eq] at hc
    omega
theorem lt16 {d : DV} (ok : dOk d) {x : Nat} (h : x < 2 ^ dS d) : x < 16 := by
  have : 2 ^ dS d ≤ 2 ^ 4 := Nat.pow_le_pow_right (by decide) ok.2.1
  omega
theorem nx_step {d : DV} (ok : dOk d) (E P : Nat) : ∀ i, i ≤ dO d → nxL d E P i = stepN (oL d E 0 i) (oL d E 1 i) (oL d E 2 i) (oL d E 3 i) P
  | 0, _ => by
    unfold nxL stepN oL
    cases P.testBit 0 <;> cases P.testBit 1 <;> cases P.testBit 2 <;> cases P.testBit 3 <;> rfl
  | i + 1, h => by
    have h1 := nx_step ok E P i (by omega)
    have hb := (ok.2.2.2.2.2.1 i (by omega)).1
    have h4 := ok.2.1
    unfold nxL
    rw [h1]
    unfold stepN
    simp only [oL]
    cases hE : E.testBit i with
    | false => simp only [Bool.false_and, Bool.false_eq_true, ↓reduceIte, Nat.or_zero]
    | true =>
      rcases (show dBy d i = 0 ∨ dBy d i = 1 ∨ dBy d i = 2 ∨ dBy d i = 3 by omega) with e | e | e | e <;> rw [e] <;> cases P.testBit 0 <;> cases P.testBit 1 <;> cases P.testBit 2 <;> cases P.testBit 3 <;> simp [Nat.or_assoc, Nat.or_comm, or_lc]
set_option maxRecDepth 100000 in
theorem meet_num : ∀ o, o < 16 → ∀ t, t < 4 → ∀ P, P < 16 → ((o ||| 2 ^ t) &&& P != 0) = ((o &&& P != 0) || P.testBit t) := by decide +kernel
theorem wn_step {d : DV} (ok : dOk d) (E : Nat) {P : Nat} (hP : P < 16) : ∀ i, i ≤ dO d → wnL d E P i = withinN (oL d E 0 i) (oL d E 1 i) (oL d E 2 i) (oL d E 3 i) P
  | 0, _ => by
    unfold wnL withinN oL
    cases P.testBit 0 <;> cases P.testBit 1 <;> cases P.testBit 2 <;> cases P.testBit 3 <;> simp
  | i + 1, h => by
    have h1 := wn_step ok E hP i (by omega)
    obtain ⟨hb, ht, _, _⟩ := ok.2.2.2.2.2.1 i (by omega)
    have h4 := ok.2.1
    have b0 := lt16 ok (oL_lt ok E 0 i (by omega))
    have b1 := lt16 ok (oL_lt ok E 1 i (by omega))
    have b2 := lt16 ok (oL_lt ok E 2 i (by omega))
    have b3 := lt16 ok (oL_lt ok E 3 i (by omega))
    unfold wnL
    rw [h1]
    unfold withinN
    simp only [oL]
    cases hE : E.testBit i with
    | false => simp only [Bool.false_and, Bool.false_eq_true, ↓reduceIte, Nat.or_zero]
    | true =>
      rcases (show dBy d i = 0 ∨ dBy d i = 1 ∨ dBy d i = 2 ∨ dBy d i = 3 by omega) with e | e | e | e <;> rw [e] <;> simp only [Bool.true_and, beq_self_eq_true, ↓reduceIte, Nat.reduceBEq, Bool.false_eq_true, Nat.or_zero, meet_num _ b0 _ (show dTo d i < 4 by omega) P hP, meet_num _ b1 _ (show dTo d i < 4 by omega) P hP, meet_num _ b2 _ (show dTo d i < 4 by omega) P hP, meet_num _ b3 _ (show dTo d i < 4 by omega) P hP]
      · cases P.testBit 0 <;> cases P.testBit (dTo d i) <;> cases (oL d E 0 i &&& P != 0) <;> simp [Nat.or_assoc, Nat.or_comm, or_lc, or_sl]
      · cases P.testBit 1 <;> cases P.testBit (dTo d i) <;> cases (oL d E 1 i &&& P != 0) <;> simp [Nat.or_assoc, Nat.or_comm, or_lc, or_sl]
      · cases P.testBit 2 <;> cases P.testBit (dTo d i) <;> cases (oL d E 2 i &&& P != 0) <;> simp [Nat.or_assoc, Nat.or_comm, or_lc, or_sl]
      · cases P.testBit 3 <;> cases P.testBit (dTo d i) <;> cases (oL d E 3 i &&& P != 0) <;> simp [Nat.or_assoc, Nat.or_comm, or_lc, or_sl]
theorem nxL_lt {d : DV} (ok : dOk d) (E P : Nat) : ∀ i, i ≤ dO d → nxL d E P i < 16
  | 0, _ => by unfold nxL; decide
  | i + 1, h => by
    have := nxL_lt ok E P i (by omega)
    have ht := (ok.2.2.2.2.2.1 i (by omega)).2.1
    have h4 := ok.2.1
    unfold nxL
    split
    · exact Nat.or_lt_two_pow (n := 4) this (Nat.pow_lt_pow_right (by decide) (by omega))
    · rw [Nat.or_zero]; exact this
theorem wnL_lt {d : DV} (ok : dOk d) (E P : Nat) : ∀ i, i ≤ dO d → wnL d E P i < 16
  | 0, _ => by unfold wnL; decide
  | i + 1, h => by
    have := wnL_lt ok E P i (by omega)
    have ht := (ok.2.2.2.2.2.1 i (by omega)).1
    have h4 := ok.2.1
    unfold wnL
    split
    · exact Nat.or_lt_two_pow (n := 4) this (Nat.pow_lt_pow_right (by decide) (by omega))
    · rw [Nat.or_zero]; exact this
set_option maxRecDepth 100000 in
theorem hasBit_num : ∀ k, k < 8 → ∀ a, a < 64 → f_X4_hasBit (nI a) (nI k) = some (if a.testBit k then 1 else 0) := by decide +kernel
theorem isOf_num (k : Nat) (hk : k < 8) (a : Nat) (ha : a < 64) : f_X5_isOf (nI a) (nI k) = some (if a.testBit k then 1 else 0) := by rw [hasBit_isOf k hk a ha, hasBit_num k hk a ha]
set_option maxRecDepth 100000 in
theorem or_bit2 : ∀ t, t < 4 → ∀ a, a < 16 → nI a ||| ((1 : Int32) <<< (nI t &&& 31)) = nI (a ||| 2 ^ t) := by decide +kernel
set_option maxRecDepth 100000 in
theorem or_num : ∀ a, a < 16 → ∀ b, b < 16 → nI a ||| nI b = nI (a ||| b) := by decide +kernel
theorem b_if (c : Bool) {α : Type} (x y : α) : (if (if c then (1 : Int32) else 0) = 0 then x else y) = if c then y else x := by cases c <;> rfl
theorem X_sworn {b : Nat} {σ : SX} {d : DV} (hx : DX b σ d) (ok : dOk d) {E P : Nat} (hE : E < 64) (hP : P < 16) : f_X0_swornToBy σ b (nI P) (nI E) = some (nI (nxL d E P (dO d))) := by
  have h6 := ok.2.2.1
  have h4 := ok.2.1
  have key : ∀ (r i n : Nat), i + r = dO d → r < n → f_X0_swornToBy_L5 σ b n (nI P) (nI E) (nI (nxL d E P i)) (nI i) = some (nI (nxL d E P (dO d))) := by
    intro r
    induction r with
    | zero =>
      intro i n hi hn
      obtain ⟨n, rfl⟩ : ∃ z, n = z + 1 := ⟨n - 1, by omega⟩
      rw [f_X0_swornToBy_L5, hx.2.2.1, if_pos (by rw [le_nI (by omega) (by omega)]; omega), show i = dO d by omega]
    | succ r ih =>
      intro i n hi hn
      obtain ⟨n, rfl⟩ : ∃ z, n = z + 1 := ⟨n - 1, by omega⟩
      have o1 : ∀ z : Option Int32, oin (nI i) 6 z = z := fun z => oin_nI z (by omega) (by decide)
      obtain ⟨g1, g2, -⟩ := hx.2.2.2.2.2.2 i (by omega)
      obtain ⟨k1, k2, -⟩ := ok.2.2.2.2.2.1 i (by omega)
      have hlt := nxL_lt ok E P i (by omega)
      rw [f_X0_swornToBy_L5, hx.2.2.1, if_neg (by rw [le_nI (by omega) (by omega)]; omega)]
      simp only [o1, cl i (by omega), g1, g2, hasBit_num i (by omega) E hE, hasBit_num (dBy d i) (by omega) P (by omega), ob1_some, b_if, nI_1, or_bit2 (dTo d i) (by omega) _ hlt]
      have hn2 := ih (i + 1) n (by omega) (by omega)
      simp only [nxL] at hn2
      cases hb1 : E.testBit i <;> cases hb2 : P.testBit (dBy d i) <;> simp only [hb1, hb2, Bool.false_and, Bool.true_and, Bool.and_false, Bool.and_true, Bool.false_eq_true, ↓reduceIte, Nat.or_zero] at hn2 ⊢ <;> exact hn2
  exact key (dO d) 0 100 (by omega) (by omega)
theorem M_boundBy {τ : SX} {d : DV} (hm : DM τ d) (ok : dOk d) {E P : Nat} (hE : E < 64) (hP : P < 16) : f_X5_boundBy τ (nI P) (nI E) = some (nI (nxL d E P (dO d))) := by
  have h6 := ok.2.2.1
  have h4 := ok.2.1
  have key : ∀ (r i n : Nat), i + r = dO d → r < n → f_X5_boundBy_L5 τ n (nI P) (nI E) (nI (nxL d E P i)) (nI i) = some (nI (nxL d E P (dO d))) := by
    intro r
    induction r with
    | zero =>
      intro i n hi hn
      obtain ⟨n, rfl⟩ : ∃ z, n = z + 1 := ⟨n - 1, by omega⟩
      rw [f_X5_boundBy_L5, hm.2.2.1, if_pos (by rw [le_nI (by omega) (by omega)]; omega), show i = dO d by omega]
    | succ r ih =>
      intro i n hi hn
      obtain ⟨n, rfl⟩ : ∃ z, n = z + 1 := ⟨n - 1, by omega⟩
      have o1 : ∀ z : Option Int32, oin (nI i) 6 z = z := fun z => oin_nI z (by omega) (by decide)
      obtain ⟨g1, g2, -⟩ := hm.2.2.2.2.2.2 i (by omega)
      obtain ⟨k1, k2, -⟩ := ok.2.2.2.2.2.1 i (by omega)
      have hlt := nxL_lt ok E P i (by omega)
      rw [f_X5_boundBy_L5, hm.2.2.1, if_neg (by rw [le_nI (by omega) (by omega)]; omega)]
      simp only [o1, cl i (by omega), g1, g2, isOf_num i (by omega) E hE, isOf_num (dBy d i) (by omega) P (by omega), ob1_some, b_if, nI_1, or_bit2 (dTo d i) (by omega) _ hlt, or_z _ (show nxL d E P i < 1024 by omega)]
      have hn2 := ih (i + 1) n (by omega) (by omega)
      simp only [nxL] at hn2
      cases hb1 : E.testBit i <;> cases hb2 : P.testBit (dBy d i) <;> simp only [hb1, hb2, Bool.false_and, Bool.true_and, Bool.and_false, Bool.and_true, Bool.false_eq_true, ↓reduceIte, Nat.or_zero] at hn2 ⊢ <;> exact hn2
  exact key (dO d) 0 100 (by omega) (by omega)
theorem X_within {b : Nat} {σ : SX} {d : DV} (hx : DX b σ d) (ok : dOk d) {E P : Nat} (hE : E < 64) (hP : P < 16) : f_X0_swearingWithin σ b (nI P) (nI E) = some (nI (wnL d E P (dO d))) := by
  have h6 := ok.2.2.1
  have h4 := ok.2.1
  have key : ∀ (r i n : Nat), i + r = dO d → r < n → f_X0_swearingWithin_L5 σ b n (nI P) (nI E) (nI (wnL d E P i)) (nI i) = some (nI (wnL d E P (dO d))) := by
    intro r
    induction r with
    | zero =>
      intro i n hi hn
      obtain ⟨n, rfl⟩ : ∃ z, n = z + 1 := ⟨n - 1, by omega⟩
      rw [f_X0_swearingWithin_L5, hx.2.2.1, if_pos (by rw [le_nI (by omega) (by omega)]; omega), show i = dO d by omega]
    | succ r ih =>
      intro i n hi hn
      obtain ⟨n, rfl⟩ : ∃ z, n = z + 1 := ⟨n - 1, by omega⟩
      have o1 : ∀ z : Option Int32, oin (nI i) 6 z = z := fun z => oin_nI z (by omega) (by decide)
      obtain ⟨g1, g2, -⟩ := hx.2.2.2.2.2.2 i (by omega)
      obtain ⟨k1, k2, -⟩ := ok.2.2.2.2.2.1 i (by omega)
      have hlt := wnL_lt ok E P i (by omega)
      rw [f_X0_swearingWithin_L5, hx.2.2.1, if_neg (by rw [le_nI (by omega) (by omega)]; omega)]
      simp only [o1, cl i (by omega), g1, g2, hasBit_num i (by omega) E hE, hasBit_num (dBy d i) (by omega) P (by omega), hasBit_num (dTo d i) (by omega) P (by omega), ob1_some, b_if, nI_1, or_bit2 (dBy d i) (by omega) _ hlt]
      have hn2 := ih (i + 1) n (by omega) (by omega)
      simp only [wnL] at hn2
      cases hb1 : E.testBit i <;> cases hb2 : P.testBit (dBy d i) <;> cases hb3 : P.testBit (dTo d i) <;> simp only [hb1, hb2, hb3, Bool.false_and, Bool.true_and, Bool.and_false, Bool.and_true, Bool.false_eq_true, ↓reduceIte, Nat.or_zero] at hn2 ⊢ <;> exact hn2
  exact key (dO d) 0 100 (by omega) (by omega)
/-- the least row of oaths -/
def bX (f : Nat → Nat) (t : Nat) : Nat → Nat → Nat → Option Nat
  | 0, _, _ => none
  | k + 1, P, n => if (f P).testBit t then some n else bX f t k (f P) (n + 1)
def bM (f : Nat → Nat) (t : Nat) : Nat → Nat → Nat → Nat → Option Nat
  | 0, _, _, _ => none
  | k + 1, P, R, n => if (R ||| f P).testBit t then some n else bM f t k (f P) (R ||| f P) (n + 1)
theorem bM_eq (f : Nat → Nat) (t : Nat) : ∀ k P R n, R.testBit t = false → bM f t k P R n = bX f t k P n := by
  intro k
  induction k with
  | zero => intros; rfl
  | succ k ih =>
    intro P R n hR
    unfold bM bX
    rw [Nat.testBit_or, hR, Bool.false_or]
    by_cases c : (f P).testBit t = true
    · rw [if_pos c, if_pos c]
    · rw [if_neg c, if_neg c]
      exact ih (f P) _ (n + 1) (by rw [Nat.testBit_or, hR, Bool.false_or]; exact Bool.eq_false_iff.mpr c)
def enc (o : Option Nat) : Int32 := match o with
  | none => -9
  | some n => nI n
def adj (S o0 o1 o2 o3 : Nat) : Prop := (o0 < 2 ^ S ∧ o1 < 2 ^ S ∧ o2 < 2 ^ S ∧ o3 < 2 ^ S) ∧ (o0.testBit 0 = false ∧ o1.testBit 1 = false ∧ o2.testBit 2 = false ∧ o3.testBit 3 = false) ∧ (S ≤ 0 → o0 = 0) ∧ (S ≤ 1 → o1 = 0) ∧ (S ≤ 2 → o2 = 0) ∧ (S ≤ 3 → o3 = 0)
theorem adj_oL {d : DV} (ok : dOk d) (E : Nat) : adj (dS d) (oL d E 0 (dO d)) (oL d E 1 (dO d)) (oL d E 2 (dO d)) (oL d E 3 (dO d)) :=
  ⟨⟨oL_lt ok E 0 _ (Nat.le_refl _), oL_lt ok E 1 _ (Nat.le_refl _), oL_lt ok E 2 _ (Nat.le_refl _), oL_lt ok E 3 _ (Nat.le_refl _)⟩, ⟨oL_self ok E 0 _ (Nat.le_refl _), oL_self ok E 1 _ (Nat.le_refl _), oL_self ok E 2 _ (Nat.le_refl _), oL_self ok E 3 _ (Nat.le_refl _)⟩, fun h => oL_out ok E h _ (Nat.le_refl _), fun h => oL_out ok E h _ (Nat.le_refl _), fun h => oL_out ok E h _ (Nat.le_refl _), fun h => oL_out ok E h _ (Nat.le_refl _)⟩
def allB (n : Nat) (p : Nat → Bool) : Bool := (List.range n).all p
theorem allB_of {n : Nat} {p : Nat → Bool} (h : allB n p = true) {i : Nat} (hi : i < n) : p i = true := List.all_eq_true.mp h i (List.mem_range.mpr hi)
set_option maxRecDepth 100000 in
theorem bd3 : allB 8 (fun o0 => o0.testBit 0 || allB 8 (fun o1 => o1.testBit 1 || allB 8 (fun o2 => o2.testBit 2 || allB 3 (fun s => allB 3 (fun t => decide (bX (stepN o0 o1 o2 0) t 4 (2 ^ s) 1 = bX (stepN o0 o1 o2 0) t 3 (2 ^ s) 1)))))) = true := by decide +kernel
set_option maxRecDepth 100000 in
theorem bd2 : allB 4 (fun o0 => o0.testBit 0 || allB 4 (fun o1 => o1.testBit 1 || allB 2 (fun s => allB 2 (fun t => decide (bX (stepN o0 o1 0 0) t 4 (2 ^ s) 1 = bX (stepN o0 o1 0 0) t 2 (2 ^ s) 1))))) = true := by decide +kernel
set_option maxRecDepth 100000 in
theorem bd1 : allB 2 (fun o0 => o0.testBit 0 || allB 1 (fun s => allB 1 (fun t => decide (bX (stepN o0 0 0 0) t 4 (2 ^ s) 1 = bX (stepN o0 0 0 0) t 1 (2 ^ s) 1)))) = true := by decide +kernel
theorem or_f {a b : Bool} (h : (a || b) = true) (ha : a = false) : b = true := by rw [ha, Bool.false_or] at h; exact h
theorem bd {S o0 o1 o2 o3 s t : Nat} (hS : S ≤ 4) (h : adj S o0 o1 o2 o3) (hs : s < S) (ht : t < S) : bX (stepN o0 o1 o2 o3) t 4 (2 ^ s) 1 = bX (stepN o0 o1 o2 o3) t S (2 ^ s) 1 := by
  obtain ⟨⟨l0, l1, l2, l3⟩, ⟨t0, t1, t2, t3⟩, z0, z1, z2, z3⟩ := h
  rcases (show S = 1 ∨ S = 2 ∨ S = 3 ∨ S = 4 by omega) with rfl | rfl | rfl | rfl
  · rw [z1 (by decide), z2 (by decide), z3 (by decide)]; exact of_decide_eq_true (allB_of (allB_of (or_f (allB_of bd1 l0) t0) hs) ht)
  · rw [z2 (by decide), z3 (by decide)]; exact of_decide_eq_true (allB_of (allB_of (or_f (allB_of (or_f (allB_of bd2 l0) t0) l1) t1) hs) ht)
  · rw [z3 (by decide)]; exact of_decide_eq_true (allB_of (allB_of (or_f (allB_of (or_f (allB_of (or_f (allB_of bd3 l0) t0) l1) t1) l2) t2) hs) ht)
  · rfl
theorem X_leastRowL {b : Nat} {σ : SX} {d : DV} (hx : DX b σ d) (ok : dOk d) {s t E : Nat} (ht : t < dS d) (hE : E < 64) : ∀ (k m n P : Nat), m + k = dS d + 1 → 0 < m → k < n → P < 16 → f_X0_leastRow_L13 σ b n (nI s) (nI t) (nI E) (nI P) (nI m) = some (enc (bX (fun P => nxL d E P (dO d)) t k P m)) := by
  have h4 := ok.2.1
  intro k
  induction k with
  | zero =>
    intro m n P hm h0 hn hP
    obtain ⟨n, rfl⟩ : ∃ z, n = z + 1 := ⟨n - 1, by omega⟩
    rw [f_X0_leastRow_L13, hx.2.1, if_pos (by rw [lt_nI (by omega) (by omega)]; omega)]; rfl
  | succ k ih =>
    intro m n P hm h0 hn hP
    obtain ⟨n, rfl⟩ : ∃ z, n = z + 1 := ⟨n - 1, by omega⟩
    have hlt := nxL_lt ok E P (dO d) (Nat.le_refl _)
    rw [f_X0_leastRow_L13, hx.2.1, if_neg (by rw [lt_nI (by omega) (by omega)]; omega), X_sworn hx ok hE hP, ob1_some, hasBit_num t (by omega) _ (by omega), ob1_some, b_if, nI_1]
    unfold bX
    split
    · rfl
    · exact ih (m + 1) n _ (by omega) (by omega) (by omega) hlt
theorem X_leastRow {b : Nat} {σ : SX} {d : DV} (hx : DX b σ d) (ok : dOk d) {s t : Nat} (hs : s < dS d) (ht : t < dS d) : f_X0_leastRow σ b (nI s) (nI t) = some (enc (bX (fun P => nxL d (sN (bnd d) (dO d)) P (dO d)) t (dS d) (2 ^ s) 1)) := by
  have h4 := ok.2.1
  have hE := sN_le64 (bnd d) ok.2.2.1
  have e2 : (2 : Nat) ^ s < 16 := lt16 ok (Nat.pow_lt_pow_right (by decide) hs)
  unfold f_X0_leastRow
  rw [X_bind hx ok, ob1_some, shl1 s (by omega)]
  exact X_leastRowL hx ok ht hE (dS d) 1 100 (2 ^ s) (by omega) (by omega) (by omega) e2
theorem M_boundOfL {τ : SX} {d : DV} (hm : DM τ d) (ok : dOk d) {s t E : Nat} (ht : t < dS d) (hE : E < 64) : ∀ (k m n P R : Nat), m + k = 5 → 0 < m → k < n → P < 16 → R < 16 → f_X5_boundOf_L11 τ n (nI s) (nI t) (nI E) (nI R) (nI P) (nI m) = some (enc (bM (fun P => nxL d E P (dO d)) t k P R m)) := by
  have h4 := ok.2.1
  intro k
  induction k with
  | zero =>
    intro m n P R hm' h0 hn hP hR
    obtain ⟨n, rfl⟩ : ∃ z, n = z + 1 := ⟨n - 1, by omega⟩
    rw [f_X5_boundOf_L11, if_pos (show (4 : Int32) < nI m from (nI_ltI (a := 4) (by decide) (by omega)).mpr (by omega))]; rfl
  | succ k ih =>
    intro m n P R hm' h0 hn hP hR
    obtain ⟨n, rfl⟩ : ∃ z, n = z + 1 := ⟨n - 1, by omega⟩
    have hlt := nxL_lt ok E P (dO d) (Nat.le_refl _)
    have hor : R ||| nxL d E P (dO d) < 16 := Nat.or_lt_two_pow (n := 4) hR hlt
    rw [f_X5_boundOf_L11, if_neg (show ¬ (4 : Int32) < nI m from fun z => by have := (nI_ltI (a := 4) (by decide) (by omega)).mp z; omega), M_boundBy hm ok hE hP, ob1_some, or_num _ hR _ hlt, isOf_num t (by omega) _ (by omega), ob1_some, b_if, nI_1]
    unfold bM
    split
    · rfl
    · exact ih (m + 1) n _ _ (by omega) (by omega) (by omega) hlt hor
theorem M_boundOf {τ : SX} {d : DV} (hm : DM τ d) (ok : dOk d) {s t E : Nat} (hs : s < dS d) (ht : t < dS d) (hE : E < 64) : f_X5_boundOf τ (nI s) (nI t) (nI E) = some (enc (bX (fun P => nxL d E P (dO d)) t 4 (2 ^ s) 1)) := by
  have h4 := ok.2.1
  have e2 : (2 : Nat) ^ s < 16 := lt16 ok (Nat.pow_lt_pow_right (by decide) hs)
  unfold f_X5_boundOf
  rw [shl1 s (by omega), ← bM_eq _ t 4 (2 ^ s) 0 1 (Nat.zero_testBit t)]
  exact M_boundOfL hm ok ht hE 4 1 100 (2 ^ s) 0 (by omega) (by omega) (by omega) e2 (by omega)
theorem nx_fun {d : DV} (ok : dOk d) (E : Nat) : (fun P => nxL d E P (dO d)) = stepN (oL d E 0 (dO d)) (oL d E 1 (dO d)) (oL d E 2 (dO d)) (oL d E 3 (dO d)) := by
  funext P
  exact nx_step ok E P (dO d) (Nat.le_refl _)
theorem Sim_bound_ok : Sim_bound Rel := by
  intro σ τ hR x1 x2
  obtain ⟨d, e, q, tr, ft, ⟨ok, h0⟩, hx, hm, -⟩ := hR
  refine BP.roR ?_
  unfold f_X4_bound f_X5_bound
  refine bp_swr ok hx hm (BP.ret rfl) (fun s hs e1 => ?_)
  rw [if_neg one0, if_neg one0]
  refine bp_swr ok hx hm (BP.ret rfl) (fun t ht e2 => ?_)
  have hE := sN_le64 (bnd d) ok.2.2.1
  rw [if_neg one0, if_neg one0, e1, e2, X_leastRow hx ok hs ht, M_bind hm ok, ob1_some, ob1_some, M_boundOf hm ok hs ht hE, ob1_some, nx_fun ok, bd ok.2.1 (adj_oL ok _) hs ht]
  exact BP.ret rfl
/-- rings -/
def itN (g : Nat → Nat) : Nat → Nat → Nat
  | 0, P => P
  | k + 1, P => itN g k (g P)
def anyL (f : Nat → Nat) : Nat → Nat → Bool
  | 0, _ => false
  | k + 1, s => (bX f s 4 (2 ^ s) 1).isSome || anyL f k (s + 1)
set_option maxRecDepth 100000 in
theorem rg4 : allB 16 (fun o0 => o0.testBit 0 || allB 16 (fun o1 => o1.testBit 1 || allB 16 (fun o2 => o2.testBit 2 || allB 16 (fun o3 => o3.testBit 3 || ((itN (withinN o0 o1 o2 o3) 4 15 != 0) == anyL (stepN o0 o1 o2 o3) 4 0))))) = true := by decide +kernel
set_option maxRecDepth 100000 in
theorem rg3 : allB 8 (fun o0 => o0.testBit 0 || allB 8 (fun o1 => o1.testBit 1 || allB 8 (fun o2 => o2.testBit 2 || ((itN (withinN o0 o1 o2 0) 3 7 != 0) == anyL (stepN o0 o1 o2 0) 3 0)))) = true := by decide +kernel
set_option maxRecDepth 100000 in
theorem rg2 : allB 4 (fun o0 => o0.testBit 0 || allB 4 (fun o1 => o1.testBit 1 || ((itN (withinN o0 o1 0 0) 2 3 != 0) == anyL (stepN o0 o1 0 0) 2 0))) = true := by decide +kernel
set_option maxRecDepth 100000 in
theorem rg1 : allB 2 (fun o0 => o0.testBit 0 || ((itN (withinN o0 0 0 0) 1 1 != 0) == anyL (stepN o0 0 0 0) 1 0)) = true := by decide +kernel
theorem rg {S o0 o1 o2 o3 : Nat} (hS : S ≤ 4) (h : adj S o0 o1 o2 o3) : (itN (withinN o0 o1 o2 o3) S (2 ^ S - 1) != 0) = anyL (stepN o0 o1 o2 o3) S 0 := by
  obtain ⟨⟨l0, l1, l2, l3⟩, ⟨t0, t1, t2, t3⟩, z0, z1, z2, z3⟩ := h
  rcases (show S = 0 ∨ S = 1 ∨ S = 2 ∨ S = 3 ∨ S = 4 by omega) with rfl | rfl | rfl | rfl | rfl
  · rfl
  · rw [z1 (by decide), z2 (by decide), z3 (by decide)]; exact beq_iff_eq.mp (or_f (allB_of rg1 l0) t0)
  · rw [z2 (by decide), z3 (by decide)]; exact beq_iff_eq.mp (or_f (allB_of (or_f (allB_of rg2 l0) t0) l1) t1)
  · rw [z3 (by decide)]; exact beq_iff_eq.mp (or_f (allB_of (or_f (allB_of (or_f (allB_of rg3 l0) t0) l1) t1) l2) t2)
  · exact beq_iff_eq.mp (or_f (allB_of (or_f (allB_of (or_f (allB_of (or_f (allB_of rg4 l0) t0) l1) t1) l2) t2) l3) t3)
/-- is there a ring among the oaths of E -/
def ring (d : DV) (E : Nat) : Bool := anyL (fun P => nxL d E P (dO d)) (dS d) 0
set_option maxRecDepth 100000 in
theorem all_num : ∀ s, s < 7 → ((1 : Int32) <<< (nI s &&& 31)) - 1 = nI (2 ^ s - 1) := by decide +kernel
theorem X_ringL {b : Nat} {σ : SX} {d : DV} (hx : DX b σ d) (ok : dOk d) {E : Nat} (hE : E < 64) : ∀ (k m n P : Nat), m + k = dS d → k < n → P < 16 → f_X0_hasRing_L11 σ b n (nI E) (nI P) (nI m) = some (if itN (fun P => wnL d E P (dO d)) k P != 0 then 1 else 0) := by
  have h4 := ok.2.1
  intro k
  induction k with
  | zero =>
    intro m n P hm hn hP
    obtain ⟨n, rfl⟩ : ∃ z, n = z + 1 := ⟨n - 1, by omega⟩
    rw [f_X0_hasRing_L11, hx.2.1, if_pos (by rw [le_nI (by omega) (by omega)]; omega)]
    unfold itN
    by_cases c : P = 0
    · rw [if_pos ((nI_eq0 (by omega)).mpr c), c]; rfl
    · rw [if_neg (fun z => c ((nI_eq0 (by omega)).mp z)), if_pos (bne_iff_ne.mpr c)]
  | succ k ih =>
    intro m n P hm hn hP
    obtain ⟨n, rfl⟩ : ∃ z, n = z + 1 := ⟨n - 1, by omega⟩
    rw [f_X0_hasRing_L11, hx.2.1, if_neg (by rw [le_nI (by omega) (by omega)]; omega), X_within hx ok hE hP, ob1_some, nI_1]
    exact ih (m + 1) n _ (by omega) (by omega) (wnL_lt ok E P (dO d) (Nat.le_refl _))
theorem it_congr {g h : Nat → Nat} (hg : ∀ P, P < 16 → g P < 16) (e : ∀ P, P < 16 → g P = h P) : ∀ k P, P < 16 → itN g k P = itN h k P := by
  intro k
  induction k with
  | zero => intros; rfl
  | succ k ih =>
    intro P hP
    unfold itN
    rw [← e P hP]
    exact ih (g P) (hg P hP)
theorem X_ring {b : Nat} {σ : SX} {d : DV} (hx : DX b σ d) (ok : dOk d) {E : Nat} (hE : E < 64) : f_X0_hasRing σ b (nI E) = some (if ring d E then 1 else 0) := by
  have h4 := ok.2.1
  have hp : 2 ^ dS d - 1 < 16 := lt16 ok (by have := Nat.two_pow_pos (dS d); omega)
  unfold f_X0_hasRing
  rw [hx.2.1, all_num (dS d) (by omega)]
  have h := X_ringL hx ok hE (dS d) 0 100 (2 ^ dS d - 1) (by omega) (by omega) hp
  rw [nI_0] at h
  rw [h, it_congr (fun P hP => wnL_lt ok E P (dO d) (Nat.le_refl _)) (fun P hP => wn_step ok E hP (dO d) (Nat.le_refl _)) (dS d) _ hp, rg h4 (adj_oL ok E), ← nx_fun ok]
  rfl
theorem M_ringL {τ : SX} {d : DV} (hm : DM τ d) (ok : dOk d) {E : Nat} (hE : E < 64) : ∀ (k s n : Nat), s + k = dS d → k < n → f_X5_anyRound_L2 τ n (nI E) (nI s) = some (if anyL (fun P => nxL d E P (dO d)) k s then 1 else 0) := by
  have h4 := ok.2.1
  intro k
  induction k with
  | zero =>
    intro s n hs hn
    obtain ⟨n, rfl⟩ : ∃ z, n = z + 1 := ⟨n - 1, by omega⟩
    rw [f_X5_anyRound_L2, hm.2.1, if_pos (by rw [le_nI (by omega) (by omega)]; omega)]; rfl
  | succ k ih =>
    intro s n hs hn
    obtain ⟨n, rfl⟩ : ∃ z, n = z + 1 := ⟨n - 1, by omega⟩
    rw [f_X5_anyRound_L2, hm.2.1, if_neg (by rw [le_nI (by omega) (by omega)]; omega), M_boundOf hm ok (by omega) (by omega) hE, ob1_some, nI_1]
    unfold anyL
    have hle : ∀ k' P m r, bX (fun P => nxL d E P (dO d)) s k' P m = some r → r < m + k' := by
      intro k'
      induction k' with
      | zero => intro P m r h; cases h
      | succ k' ih2 =>
        intro P m r h
        unfold bX at h
        split at h
        · cases h; omega
        · have := ih2 _ _ _ h; omega
    cases hb : bX (fun P => nxL d E P (dO d)) s 4 (2 ^ s) 1 with
    | none => rw [if_pos (show enc none = (-9 : Int32) from rfl)]; exact ih (s + 1) n (by omega) (by omega)
    | some r => rw [if_neg (show ¬ enc (some r) = (-9 : Int32) from neg9' r (by have := hle 4 _ _ _ hb; omega))]; rfl
theorem M_ring {τ : SX} {d : DV} (hm : DM τ d) (ok : dOk d) {E : Nat} (hE : E < 64) : f_X5_anyRound τ (nI E) = some (if ring d E then 1 else 0) :=
  M_ringL hm ok hE (dS d) 0 100 (by omega) (by have := ok.2.1; omega)
