/-! ===== the relation of the two states; two functions side by side ===== -/
abbrev RD : Type := Nat × (Nat → Nat) × (Nat → Nat) × (Nat → Nat)
abbrev SHT : Type := (Nat → Option (Nat × Nat)) × (Nat → Nat → Int32)
def eOk (d : DV) (e : RD) : Prop := e.1 ≤ 8 ∧ ∀ q, q < e.1 → e.2.1 q < dS d ∧ e.2.2.1 q < dH d ∧ e.2.2.2 q ≤ 1
def EX (σ : SX) (e : RD) : Prop := gF σ 25 0 = nI e.1 ∧ ∀ q, q < e.1 → gR σ 26 q = nI (e.2.1 q) ∧ gR σ 27 q = nI (e.2.2.1 q) ∧ gR σ 28 q = nI (e.2.2.2 q)
def EM (τ : SX) (e : RD) : Prop := gF τ 0 24 = nI e.1 ∧ ∀ q, q < e.1 → gR τ 14 q = nI (e.2.1 q) ∧ gR τ 15 q = nI (e.2.2.1 q) ∧ gR τ 16 q = nI (e.2.2.2 q)
def qOk (q : SHT) : Prop := ∀ k, k < 4 → ∀ z, q.1 k = some z → z.1 ≤ 2 ∧ z.2 ≤ 60
def shX (a l n : Int32) (o : Option (Nat × Nat)) : Prop := match o with
  | none => a = 0
  | some z => a = 1 ∧ l = nI z.1 ∧ n = nI z.2
def shM (l n : Int32) (o : Option (Nat × Nat)) : Prop := match o with
  | none => l = -9
  | some z => l = nI z.1 ∧ n = nI z.2
def QX (σ : SX) (q : SHT) : Prop := ∀ k, k < 4 → shX (gF σ (2 + 2 * k) 0) (gF σ (2 + 2 * k) 1) (gF σ (2 + 2 * k) 3) (q.1 k) ∧ ∀ i, i < 60 → gR σ (2 + 2 * k + 1) i = q.2 k i
def QM (τ : SX) (q : SHT) : Prop := ∀ k, k < 4 → shM (gR τ 1 k) (gR τ 2 k) (q.1 k) ∧ ∀ i, i < 60 → gR τ 3 (60 * k + i) = q.2 k i
def RelA (d : DV) (e : RD) (q : SHT) (tr ft : Int32) (σ τ : SX) : Prop := (dOk d ∧ (dH d = 0 ↔ dS d = 0)) ∧ DX 10 σ d ∧ DM τ d ∧ (eOk d e ∧ EX σ e ∧ EM τ e) ∧ (qOk q ∧ QX σ q ∧ QM τ q) ∧ (gF σ 0 5 = tr ∧ gF τ 0 1 = tr) ∧ gF σ 0 6 = ft ∧ gF τ 0 0 = ft
def Rel (σ τ : SX) : Prop := ∃ d e q tr ft, RelA d e q tr ft σ τ
def d0 : DV := (0, 0, 0, none, fun _ => 0, fun _ => 0, fun _ => 0, fun _ => 0, fun _ => 0, fun _ => 0)
theorem rel0 : Rel σX0 σM0 := by
  refine ⟨d0, (0, fun _ => 0, fun _ => 0, fun _ => 0), (fun _ => none, fun _ _ => 0), 0, 0, ⟨⟨by decide, by decide, by decide, ?_, ?_, ?_, ?_⟩, by decide⟩, ⟨rfl, rfl, rfl, rfl, ?_, ?_, ?_⟩, ⟨rfl, rfl, rfl, rfl, ?_, ?_, ?_⟩, ⟨⟨by decide, ?_⟩, ⟨rfl, ?_⟩, ⟨rfl, ?_⟩⟩, ⟨?_, ?_, ?_⟩, ⟨rfl, rfl⟩, rfl, rfl⟩
  · intro j h; exact absurd h (Nat.not_lt_zero _)
  · intro j h; exact absurd h (Nat.not_lt_zero _)
  · intro j h; exact absurd h (Nat.not_lt_zero _)
  · intro z h; cases h
  · intro j h; exact absurd h (Nat.not_lt_zero _)
  · intro j h; exact absurd h (Nat.not_lt_zero _)
  · intro j h; exact absurd h (Nat.not_lt_zero _)
  · intro j h; exact absurd h (Nat.not_lt_zero _)
  · intro j h; exact absurd h (Nat.not_lt_zero _)
  · intro j h; exact absurd h (Nat.not_lt_zero _)
  · intro j h; exact absurd h (Nat.not_lt_zero _)
  · intro j h; exact absurd h (Nat.not_lt_zero _)
  · intro j h; exact absurd h (Nat.not_lt_zero _)
  · intro k hk z h; cases h
  · intro k hk
    rcases (show k = 0 ∨ k = 1 ∨ k = 2 ∨ k = 3 by omega) with rfl | rfl | rfl | rfl <;> exact ⟨rfl, fun _ _ => rfl⟩
  · intro k hk
    rcases (show k = 0 ∨ k = 1 ∨ k = 2 ∨ k = 3 by omega) with rfl | rfl | rfl | rfl <;> exact ⟨rfl, fun _ _ => rfl⟩
/-- both answer, and the answers are so -/
def BP {α β : Type} (P : α → β → Prop) (x : Option α) (m : Option β) : Prop := ∃ z z', x = some z ∧ m = some z' ∧ P z z'
theorem BP.ret {α β : Type} {P : α → β → Prop} {z : α} {z' : β} (h : P z z') : BP P (some z) (some z') := ⟨z, z', rfl, rfl, h⟩
theorem BP.ite {α β : Type} {P : α → β → Prop} {c : Prop} [Decidable c] {a b : Option α} {a' b' : Option β} (h1 : c → BP P a a') (h2 : ¬ c → BP P b b') : BP P (if c then a else b) (if c then a' else b') := by
  by_cases h : c
  · rw [if_pos h, if_pos h]; exact h1 h
  · rw [if_neg h, if_neg h]; exact h2 h
theorem BP.ite2 {α β : Type} {P : α → β → Prop} {c c' : Prop} [Decidable c] [Decidable c'] {a b : Option α} {a' b' : Option β} (hc : c ↔ c') (h1 : c → BP P a a') (h2 : ¬ c → BP P b b') : BP P (if c then a else b) (if c' then a' else b') := by
  by_cases h : c
  · rw [if_pos h, if_pos (hc.mp h)]; exact h1 h
  · rw [if_neg h, if_neg (fun q => h (hc.mpr q))]; exact h2 h
theorem BP.ob1 {α β α1 β1 : Type} {P : α → β → Prop} {P1 : α1 → β1 → Prop} {x : Option α1} {m : Option β1} {k : α1 → Option α} {k' : β1 → Option β} (h : BP P1 x m) (hk : ∀ z z', P1 z z' → BP P (k z) (k' z')) : BP P (ob1 x k) (ob1 m k') := by
  obtain ⟨z, z', e1, e2, e3⟩ := h
  rw [e1, e2]
  exact hk z z' e3
def PR {α : Type} (R : SX → SX → Prop) (z z' : α × SX) : Prop := z.1 = z'.1 ∧ R z.2 z'.2
theorem BP.ob2 {α β α1 : Type} {P : α → β → Prop} {R : SX → SX → Prop} {x m : Option (α1 × SX)} {k : α1 → SX → Option α} {k' : α1 → SX → Option β} (h : BP (PR R) x m) (hk : ∀ r z z', R z z' → BP P (k r z) (k' r z')) : BP P (ob2 x k) (ob2 m k') := by
  obtain ⟨⟨r, z⟩, ⟨r', z'⟩, e1, e2, e3, e4⟩ := h
  rw [e1, e2]
  cases e3
  exact hk r z z' e4
theorem BP.rwR {α : Type} {R : SX → SX → Prop} {x m : Option (α × SX)} (h : BP (PR R) x m) : ∃ r σ' τ', x = some (r, σ') ∧ m = some (r, τ') ∧ R σ' τ' := by
  obtain ⟨⟨r, z⟩, ⟨r', z'⟩, e1, e2, e3, e4⟩ := h
  cases e3
  exact ⟨r, z, z', e1, e2, e4⟩
theorem BP.roR {α : Type} {x m : Option α} (h : BP Eq x m) : ∃ r, x = some r ∧ m = some r := by
  obtain ⟨z, z', e1, e2, e3⟩ := h
  cases e3
  exact ⟨z, e1, e2⟩
theorem BP.of {α β : Type} {P : α → β → Prop} {x : Option α} {m : Option β} {z : α} {z' : β} (e1 : x = some z) (e2 : m = some z') (h : P z z') : BP P x m := ⟨z, z', e1, e2, h⟩
theorem one0 : ¬ (1 : Int32) = 0 := by decide
/-- ranges: the same answer on both sides -/
theorem bp_rng {α β : Type} {P : α → β → Prop} {x : Int32} {N : Nat} (hN : N < 2 ^ 31) {a m : Option Int32} (ein : ∀ j, j < N → x = nI j → a = some 1 ∧ m = some 1) (eout : (x < 0 ∨ (¬ x < 0 ∧ nI N ≤ x)) → a = some 0 ∧ m = some 0) {k : Int32 → Option α} {k' : Int32 → Option β} (hout : BP P (k 0) (k' 0)) (hin : ∀ j, j < N → x = nI j → BP P (k 1) (k' 1)) : BP P (ob1 a k) (ob1 m k') := by
  rcases ix3 x N hN with h | h | ⟨j, hj, e⟩
  · obtain ⟨e1, e2⟩ := eout (Or.inl h); rw [e1, e2]; exact hout
  · obtain ⟨e1, e2⟩ := eout (Or.inr h); rw [e1, e2]; exact hout
  · obtain ⟨e1, e2⟩ := ein j hj e; rw [e1, e2]; exact hin j hj e
section BR
variable {α β : Type} {P : α → β → Prop} {d : DV} {σ τ : SX} {b : Nat}
theorem bp_swr (ok : dOk d) (hx : DX b σ d) (hm : DM τ d) {x : Int32} {k : Int32 → Option α} {k' : Int32 → Option β} (hout : BP P (k 0) (k' 0)) (hin : ∀ j, j < dS d → x = nI j → BP P (k 1) (k' 1)) : BP P (ob1 (f_X0_hasSwearer σ b x) k) (ob1 (f_X5_isSwearer τ x) k') :=
  bp_rng (N := dS d) (by have := ok.2.1; omega) (fun j hj e => by rw [e]; exact ⟨X_swr_in hx ok hj, M_swr_in hm ok hj⟩) (fun h => ⟨X_swr_out hx h, M_swr_out hm h⟩) hout hin
theorem bp_hour (ok : dOk d) (hx : DX b σ d) (hm : DM τ d) {x : Int32} {k : Int32 → Option α} {k' : Int32 → Option β} (hout : BP P (k 0) (k' 0)) (hin : ∀ j, j < dH d → x = nI j → BP P (k 1) (k' 1)) : BP P (ob1 (f_X0_hasHour σ b x) k) (ob1 (f_X5_isHour τ x) k') :=
  bp_rng (N := dH d) (by have := ok.1; omega) (fun j hj e => by rw [e]; exact ⟨X_hour_in hx ok hj, M_hour_in hm ok hj⟩) (fun h => ⟨X_hour_out hx h, M_hour_out hm h⟩) hout hin
theorem bp_oath (ok : dOk d) (hx : DX b σ d) (hm : DM τ d) {x : Int32} {k : Int32 → Option α} {k' : Int32 → Option β} (hout : BP P (k 0) (k' 0)) (hin : ∀ j, j < dO d → x = nI j → BP P (k 1) (k' 1)) : BP P (ob1 (f_X0_hasOath σ b x) k) (ob1 (f_X5_isOath τ x) k') :=
  bp_rng (N := dO d) (by have := ok.2.2.1; omega) (fun j hj e => by rw [e]; exact ⟨X_oath_in hx ok hj, M_oath_in hm ok hj⟩) (fun h => ⟨X_oath_out hx h, M_oath_out hm h⟩) hout hin
end BR
theorem Sim_trace_ok : Sim_trace Rel := by
  intro σ τ hR
  obtain ⟨d, e, q, tr, ft, h⟩ := hR
  exact ⟨tr, congrArg some h.2.2.2.2.2.1.1, congrArg some h.2.2.2.2.2.1.2⟩
theorem Sim_fault_ok : Sim_fault Rel := by
  intro σ τ hR
  obtain ⟨d, e, q, tr, ft, h⟩ := hR
  exact ⟨ft, congrArg some h.2.2.2.2.2.2.1, congrArg some h.2.2.2.2.2.2.2⟩
theorem Sim_chill_ok : Sim_chill Rel := by
  intro σ τ hR x1 x2
  obtain ⟨d, e, q, tr, ft, ⟨ok, h0⟩, hx, hm, -⟩ := hR
  refine BP.roR ?_
  unfold f_X4_chill f_X5_chill
  refine bp_swr ok hx hm (BP.ret rfl) (fun s hs e1 => ?_)
  rw [if_neg one0, if_neg one0]
  refine bp_hour ok hx hm (BP.ret rfl) (fun h hh e2 => ?_)
  rw [if_neg one0, if_neg one0, e1, e2, X_chill hx ok hs hh, M_chill hm ok hs hh]
  exact BP.ret rfl
theorem Sim_ofHour_ok : Sim_ofHour Rel := by
  intro σ τ hR x1 x2
  obtain ⟨d, e, q, tr, ft, ⟨ok, h0⟩, hx, hm, -⟩ := hR
  have h6 := ok.1
  refine BP.roR ?_
  unfold f_X4_ofHour f_X5_ofHour
  refine bp_hour ok hx hm (BP.ret rfl) (fun h hh e1 => ?_)
  rw [if_neg one0, if_neg one0, e1]
  refine BP.ite (fun _ => ?_) (fun _ => BP.ite (fun _ => ?_) (fun _ => BP.ite (fun _ => ?_) (fun _ => BP.ret rfl)))
  · rw [oin_nI _ (by omega) (by decide), oin_nI _ (by omega) (by decide), cl h (by omega), hx.2.2.2.2.1 h hh, hm.2.2.2.2.1 h hh]
    exact BP.ret rfl
  · have a := hx.2.2.2.1
    have b := hm.2.2.2.1
    cases hv : dV d with
    | none =>
      rw [hv] at a b
      rw [show gF σ 10 3 = -9 from a, show gF τ 0 8 = -9 from b, if_neg (neg9 h (by omega)), if_neg (neg9' h (by omega))]
      exact BP.ret rfl
    | some z =>
      rw [hv] at a b
      have hz := ok.2.2.2.2.2.2 z hv
      rw [a.1, a.2, b.1, b.2]
      exact BP.ite2 ⟨Eq.symm, Eq.symm⟩ (fun _ => BP.ret rfl) (fun _ => BP.ret rfl)
  · rw [X_coldSwr hx ok hh, M_whoCold hm ok hh]
    exact BP.ret rfl
theorem Sim_ofSwearer_ok : Sim_ofSwearer Rel := by
  intro σ τ hR x1 x2
  obtain ⟨d, e, q, tr, ft, ⟨ok, h0⟩, hx, hm, -⟩ := hR
  have h4 := ok.2.1
  refine BP.roR ?_
  unfold f_X4_ofSwearer f_X5_ofSwearer
  refine bp_swr ok hx hm (BP.ret rfl) (fun s hs e1 => ?_)
  have g1 := hx.2.2.2.2.2.1 s hs
  have g2 := hm.2.2.2.2.2.1 s hs
  rw [if_neg one0, if_neg one0, e1]
  have o1 : ∀ k : Option Int32, oin (nI s) 4 k = k := fun k => oin_nI k (by omega) (by decide)
  simp only [o1, cl s (by omega), g1.1, g1.2, g2.1, g2.2, X_warmth hx ok hs, M_warmth hm ok hs, X_coldHours hx ok hs, M_coldHours hm ok hs, X_oathsBy hx ok hs, M_swornBy hm ok hs, X_bind hx ok, M_bind hm ok, ob1_some]
  refine BP.ite (fun _ => BP.ret rfl) (fun _ => BP.ite (fun _ => BP.ret rfl) (fun _ => BP.ite (fun _ => BP.ret rfl) (fun _ => BP.ite (fun _ => BP.ret rfl) (fun _ => BP.ite (fun _ => BP.ret rfl) (fun _ => BP.ite (fun _ => BP.ret rfl) (fun _ => BP.ret rfl))))))
theorem Sim_ofOath_ok : Sim_ofOath Rel := by
  intro σ τ hR x1 x2
  obtain ⟨d, e, q, tr, ft, ⟨ok, h0⟩, hx, hm, -⟩ := hR
  have h6 := ok.2.2.1
  refine BP.roR ?_
  unfold f_X4_ofOath f_X5_ofOath
  refine bp_oath ok hx hm (BP.ret rfl) (fun s hs e1 => ?_)
  have g1 := hx.2.2.2.2.2.2 s hs
  have g2 := hm.2.2.2.2.2.2 s hs
  obtain ⟨k1, k2, k3, k4⟩ := ok.2.2.2.2.2.1 s hs
  rw [if_neg one0, if_neg one0, e1]
  have o1 : ∀ k : Option Int32, oin (nI s) 6 k = k := fun k => oin_nI k (by omega) (by decide)
  simp only [o1, cl s (by omega), g1.1, g1.2.1, g1.2.2, g2.1, g2.2.1, g2.2.2, X_chill hx ok k1 k4, M_chill hm ok k1 k4, X_binds hx ok hs, M_binds hm ok hs, ob1_some]
  refine BP.ite (fun _ => BP.ret rfl) (fun _ => BP.ite (fun _ => BP.ret rfl) (fun _ => BP.ite (fun _ => BP.ret rfl) (fun _ => BP.ite (fun _ => BP.ret rfl) (fun _ => BP.ite (fun _ => ?_) (fun _ => BP.ret rfl)))))
  exact BP.ite (fun _ => BP.ret rfl) (fun _ => BP.ret rfl)
theorem Sim_many_ok : Sim_many Rel := by
  intro σ τ hR x1
  obtain ⟨d, e, q, tr, ft, ⟨ok, h0⟩, hx, hm, ⟨eo, ex, em⟩, -⟩ := hR
  have h6 := ok.2.2.1
  refine BP.roR ?_
  unfold f_X4_many f_X5_many
  rw [X_bind hx ok, M_bind hm ok, ob1_some, ob1_some, bitCount_ok _ (sN_le64 _ h6), size_ok _ (sN_le64 _ h6), hx.1, hm.1, hx.2.1, hm.2.1, hx.2.2.1, hm.2.2.1, ex.1, em.1]
  refine BP.ite (fun _ => BP.ret rfl) (fun _ => BP.ite (fun _ => BP.ret rfl) (fun _ => BP.ite (fun _ => BP.ret rfl) (fun _ => BP.ite (fun _ => BP.ret rfl) (fun _ => BP.ite (fun _ => BP.ret rfl) (fun _ => BP.ret rfl)))))
