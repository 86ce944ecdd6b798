/-! ===== what would be: the draft ===== -/
theorem c60 : (6 : Int32).toNatClampNeg = 6 := by decide
theorem c40 : (4 : Int32).toNatClampNeg = 4 := by decide
theorem c00 : (0 : Int32).toNatClampNeg = 0 := by decide
theorem cpy0 {f g : Nat → Int32} {n j : Nat} (h : j < n) : va_cpy f g 0 0 n j = f j := sb_cpy0 h
theorem okC6 : okCpy 0 0 6 6 6 := by decide
theorem okC4 : okCpy 0 0 4 4 4 := by decide
theorem X_become {b b1 : Nat} {σ : SX} {d : DV} (hbb : (b = 17 ∧ b1 = 10) ∨ (b = 10 ∧ b1 = 17)) (hd : DX b1 σ d) (ok : dOk d) : ∃ σ', f_X0_become σ b b1 = some ((), σ') ∧ DX b σ' d ∧ (∀ c k, c ≠ b → gF σ' c k = gF σ c k) ∧ (∀ c, (c ≤ b ∨ b + 6 < c) → gR σ' c = gR σ c) := by
  have hH := ok.1
  have hS := ok.2.1
  have hO := ok.2.2.1
  obtain ⟨h1, h2, h3, h4, h5, h6, h7⟩ := hd
  have n1 : ¬ b1 = b := by omega
  have m1 : ∀ i j : Nat, i ≤ 6 → j ≤ 6 → ¬ b1 + i = b + j := fun i j _ _ => by omega
  unfold f_X0_become f_X0_putStove
  rw [ob2_some, oif_t _ okC6, oif_t _ okC4, oif_t _ okC4, oif_t _ okC6, oif_t _ okC6, oif_t _ okC6]
  simp only [c60, c40, c00, gF_sF, n1, false_and, ↓reduceIte]
  generalize hσ5 : sF (sF (sF (sF (sF σ b 0 (gF σ b1 0)) b 1 (gF σ b1 1)) b 2 (gF σ b1 2)) b 3 (gF σ b1 3)) b 4 (gF σ b1 4) = σ5
  have r5 : ∀ c, gR σ5 c = gR σ c := fun c => by rw [← hσ5]; rfl
  have f5 : ∀ c k, c ≠ b → gF σ5 c k = gF σ c k := fun c k hc => by
    rw [← hσ5]
    simp only [gF_sF, hc, false_and, ↓reduceIte]
  have g0 : gF σ5 b 0 = gF σ b1 0 := by rw [← hσ5]; simp [gF_sF]
  have g1 : gF σ5 b 1 = gF σ b1 1 := by rw [← hσ5]; simp [gF_sF]
  have g2 : gF σ5 b 2 = gF σ b1 2 := by rw [← hσ5]; simp [gF_sF]
  have g3 : gF σ5 b 3 = gF σ b1 3 := by rw [← hσ5]; simp [gF_sF]
  have g4 : gF σ5 b 4 = gF σ b1 4 := by rw [← hσ5]; simp [gF_sF]
  simp only [gR_sR, r5, m1 1 1 (by decide) (by decide), m1 2 1 (by decide) (by decide), m1 3 1 (by decide) (by decide), m1 4 1 (by decide) (by decide), m1 5 1 (by decide) (by decide), m1 6 1 (by decide) (by decide), m1 3 2 (by decide) (by decide), m1 4 2 (by decide) (by decide), m1 5 2 (by decide) (by decide), m1 6 2 (by decide) (by decide), m1 4 3 (by decide) (by decide), m1 5 3 (by decide) (by decide), m1 6 3 (by decide) (by decide), m1 5 4 (by decide) (by decide), m1 6 4 (by decide) (by decide), m1 6 5 (by decide) (by decide), Nat.add_left_cancel_iff, ↓reduceIte, show ¬ (2 : Nat) = 1 by decide, show ¬ (3 : Nat) = 1 by decide, show ¬ (3 : Nat) = 2 by decide, show ¬ (4 : Nat) = 1 by decide, show ¬ (4 : Nat) = 2 by decide, show ¬ (4 : Nat) = 3 by decide, show ¬ (5 : Nat) = 1 by decide, show ¬ (5 : Nat) = 2 by decide, show ¬ (5 : Nat) = 3 by decide, show ¬ (5 : Nat) = 4 by decide, show ¬ (6 : Nat) = 1 by decide, show ¬ (6 : Nat) = 2 by decide, show ¬ (6 : Nat) = 3 by decide, show ¬ (6 : Nat) = 4 by decide, show ¬ (6 : Nat) = 5 by decide]
  refine ⟨_, rfl, ⟨?_, ?_, ?_, ?_, fun j hj => ?_, fun j hj => ?_, fun j hj => ?_⟩, fun c k hc => ?_, fun c hc => ?_⟩
  · simp only [gF_sR]; rw [g0]; exact h1
  · simp only [gF_sR]; rw [g1]; exact h2
  · simp only [gF_sR]; rw [g2]; exact h3
  · simp only [gF_sR]; rw [g3, g4]; exact h4
  · simp only [gR_sR, Nat.add_left_cancel_iff, ↓reduceIte, show ¬ (1 : Nat) = 6 by decide, show ¬ (1 : Nat) = 5 by decide, show ¬ (1 : Nat) = 4 by decide, show ¬ (1 : Nat) = 3 by decide, show ¬ (1 : Nat) = 2 by decide]
    rw [cpy0 (by omega)]; exact h5 j hj
  · simp only [gR_sR, Nat.add_left_cancel_iff, ↓reduceIte, show ¬ (2 : Nat) = 6 by decide, show ¬ (2 : Nat) = 5 by decide, show ¬ (2 : Nat) = 4 by decide, show ¬ (2 : Nat) = 3 by decide, show ¬ (3 : Nat) = 6 by decide, show ¬ (3 : Nat) = 5 by decide, show ¬ (3 : Nat) = 4 by decide]
    rw [cpy0 (by omega), cpy0 (by omega)]; exact h6 j hj
  · simp only [gR_sR, Nat.add_left_cancel_iff, ↓reduceIte, show ¬ (4 : Nat) = 6 by decide, show ¬ (4 : Nat) = 5 by decide, show ¬ (5 : Nat) = 6 by decide]
    rw [cpy0 (by omega), cpy0 (by omega), cpy0 (by omega)]; exact h7 j hj
  · simp only [gF_sR]; exact f5 c k hc
  · simp only [gR_sR]
    rw [if_neg (by omega), if_neg (by omega), if_neg (by omega), if_neg (by omega), if_neg (by omega), if_neg (by omega)]; exact r5 c
/-- only the draft (and the reader) changed -/
def FD (σ σ' : SX) : Prop := (∀ c k, (c < 17 ∨ 24 < c) → gF σ' c k = gF σ c k) ∧ (∀ c, (c < 17 ∨ 24 < c) → gR σ' c = gR σ c)
theorem FD.refl {σ : SX} : FD σ σ := ⟨fun _ _ _ => rfl, fun _ _ => rfl⟩
theorem FD.trans {a b c : SX} (h : FD a b) (g : FD b c) : FD a c := ⟨fun x k q => (g.1 x k q).trans (h.1 x k q), fun x q => (g.2 x q).trans (h.2 x q)⟩
theorem FD.FX {a b : SX} (h : FD a b) : FX a b := ⟨fun c k q => h.1 c k (by omega), fun c q => h.2 c (by omega)⟩
theorem FD.now {a b : SX} {d : DV} (h : FD a b) (hd : DX 10 a d) : DX 10 b d := by
  unfold DX
  rw [h.1 10 0 (by omega), h.1 10 1 (by omega), h.1 10 2 (by omega), h.1 10 3 (by omega), h.1 10 4 (by omega), h.2 (10 + 1) (by omega), h.2 (10 + 2) (by omega), h.2 (10 + 3) (by omega), h.2 (10 + 4) (by omega), h.2 (10 + 5) (by omega), h.2 (10 + 6) (by omega)]
  exact hd
theorem FD.ex {a b : SX} {e : RD} (h : FD a b) (hd : EX a e) : EX b e := by
  unfold EX
  rw [h.1 25 0 (by omega), h.2 26 (by omega), h.2 27 (by omega), h.2 28 (by omega)]
  exact hd
theorem FD_sR {σ : SX} {c : Nat} {f : Nat → Int32} (h : 17 ≤ c ∧ c ≤ 24) : FD σ (sR σ c f) := ⟨fun _ _ _ => rfl, fun x q => by rw [gR_sR, if_neg (by omega)]⟩
theorem FD_sF {σ : SX} {c k : Nat} {v : Int32} (h : 17 ≤ c ∧ c ≤ 24) : FD σ (sF σ c k v) := ⟨fun x j q => by rw [gF_sF, if_neg (by omega)], fun _ _ => rfl⟩
theorem X_draft {σ : SX} {d : DV} (hd : DX 10 σ d) (ok : dOk d) : ∃ σ', f_X0_become σ 17 10 = some ((), σ') ∧ DX 17 σ' d ∧ FD σ σ' := by
  obtain ⟨σ', g1, g2, g3, g4⟩ := X_become (Or.inl ⟨rfl, rfl⟩) hd ok
  exact ⟨σ', g1, g2, fun c k h => g3 c k (by omega), fun c h => g4 c (by omega)⟩
theorem RelA.draft {d : DV} {e : RD} {q : SHT} {tr ft : Int32} {σ τ σ' τ' : SX} (h : RelA d e q tr ft σ τ) (fd : FD σ σ') (hm : DM τ' d) (fm : FM τ τ') : RelA d e q tr ft σ' τ' :=
  h.day h.1.1 rfl rfl (fd.now h.2.1) hm fd.FX fm
/-- do all readings hold: the same on both sides -/
theorem bp_holdL {b : Nat} {σ τ : SX} {d : DV} {e : RD} (ok : dOk d) (hx : DX b σ d) (hm : DM τ d) (eo : eOk d e) (ex : EX σ e) (em : EM τ e) : ∀ (r i n : Nat), i + r = e.1 → r < n → BP Eq (f_X2_holdIn_L2 σ b n (nI i)) (f_X5_areSo_L2 τ n (nI i)) := by
  have h8 := eo.1
  intro r
  induction r with
  | zero =>
    intro i n hi hn
    obtain ⟨n, rfl⟩ : ∃ z, n = z + 1 := ⟨n - 1, by omega⟩
    have : i = e.1 := by omega
    subst this
    rw [f_X2_holdIn_L2, f_X5_areSo_L2, ex.1, em.1, if_pos (by rw [le_nI (by omega) (by omega)]; omega), if_pos (by rw [le_nI (by omega) (by omega)]; omega)]
    exact BP.ret rfl
  | succ r ih =>
    intro i n hi hn
    obtain ⟨n, rfl⟩ : ∃ z, n = z + 1 := ⟨n - 1, by omega⟩
    have o1 : ∀ z : Option Int32, oin (nI i) 8 z = z := fun z => oin_nI z (by omega) (by decide)
    obtain ⟨k1, k2, k3⟩ := eo.2 i (by omega)
    obtain ⟨x1, x2, x3⟩ := ex.2 i (by omega)
    obtain ⟨m1, m2, m3⟩ := em.2 i (by omega)
    rw [f_X2_holdIn_L2, f_X5_areSo_L2, ex.1, em.1, if_neg (by rw [le_nI (by omega) (by omega)]; omega), if_neg (by rw [le_nI (by omega) (by omega)]; omega)]
    simp only [o1, cl i (by omega), x1, x2, x3, m1, m2, m3, X_isCold hx ok k1 k2, M_isCold hm ok k1 k2, ob1_some, nI_1]
    have hn := ih (i + 1) n (by omega) (by omega)
    rcases (show e.2.2.2 i = 0 ∨ e.2.2.2 i = 1 by omega) with z | z <;> rw [z] <;> cases cold d (e.2.1 i) (e.2.2.1 i)
    · exact hn
    · exact BP.ret rfl
    · exact BP.ret rfl
    · exact hn
theorem bp_hold {b : Nat} {σ τ : SX} {d : DV} {e : RD} (ok : dOk d) (hx : DX b σ d) (hm : DM τ d) (eo : eOk d e) (ex : EX σ e) (em : EM τ e) : BP Eq (f_X2_holdIn σ b) (f_X5_areSo τ) :=
  bp_holdL ok hx hm eo ex em e.1 0 100 (by omega) (by have := eo.1; omega)
theorem upN_upN (f : Nat → Nat) (k v w : Nat) : upN (upN f k v) k w = upN f k w := by
  funext j
  simp only [upN_at]
  split
  · rfl
  · rfl
theorem upN_self (f : Nat → Nat) (k : Nat) : upN f k (f k) = f := by
  funext j
  rw [upN_at]
  split
  · rename_i h; rw [h]
  · rfl
theorem setCt2 (d : DV) (s v w : Nat) : setCt (setCt d s v) s w = setCt d s w := by
  show (dH d, dS d, dO d, dV d, dFr d, dKd d, upN (upN (dCt d) s v) s w, dBy d, dTo d, dWh d) = _
  rw [upN_upN]; rfl
theorem setCt_self (d : DV) (s : Nat) : setCt d s (dCt d s) = d := by
  show (dH d, dS d, dO d, dV d, dFr d, dKd d, upN (dCt d) s (dCt d s), dBy d, dTo d, dWh d) = _
  rw [upN_self]
theorem setKd2 (d : DV) (s v w : Nat) : setKd (setKd d s v) s w = setKd d s w := by
  show (dH d, dS d, dO d, dV d, dFr d, upN (upN (dKd d) s v) s w, dCt d, dBy d, dTo d, dWh d) = _
  rw [upN_upN]; rfl
theorem setKd_self (d : DV) (s : Nat) : setKd d s (dKd d s) = d := by
  show (dH d, dS d, dO d, dV d, dFr d, upN (dKd d) s (dKd d s), dCt d, dBy d, dTo d, dWh d) = _
  rw [upN_self]
theorem setFr2 (d : DV) (s v w : Nat) : setFr (setFr d s v) s w = setFr d s w := by
  show (dH d, dS d, dO d, dV d, upN (upN (dFr d) s v) s w, dKd d, dCt d, dBy d, dTo d, dWh d) = _
  rw [upN_upN]; rfl
theorem setFr_self (d : DV) (s : Nat) : setFr d s (dFr d s) = d := by
  show (dH d, dS d, dO d, dV d, upN (dFr d) s (dFr d s), dKd d, dCt d, dBy d, dTo d, dWh d) = _
  rw [upN_self]
