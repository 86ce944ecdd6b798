/-! ===== the state of the class and of the reference: numbers by cell and slot, rows by cell ===== -/
abbrev SX : Type := (Nat → Nat → Int32) × (Nat → Nat → Int32)
def gF (σ : SX) (b k : Nat) : Int32 := σ.1 b k
def gR (σ : SX) (b : Nat) : Nat → Int32 := σ.2 b
def sF (σ : SX) (b k : Nat) (v : Int32) : SX := (fun c j => cond (Nat.beq c b && Nat.beq j k) v (σ.1 c j), σ.2)
def sR (σ : SX) (b : Nat) (f : Nat → Int32) : SX := (σ.1, fun c => cond (Nat.beq c b) f (σ.2 c))
/-- which cells are days, which are sheets -/
def isDy (b : Nat) : Prop := b = 10 ∨ b = 17
def isSh (b : Nat) : Prop := b = 2 ∨ b = 4 ∨ b = 6 ∨ b = 8
theorem isDy_now : isDy 10 := Or.inl rfl
theorem isDy_draft : isDy 17 := Or.inr rfl
theorem isSh_of {i : Int32} (h : vp_in i 4) : isSh (2 + 2 * i.toNatClampNeg) := by
  have hlt : i.toNatClampNeg < 4 := Nat.not_le.mp fun q => h (Or.inr q)
  unfold isSh; omega
def WX (cI cZ cS : ClassId) (ad : Nat → Nat) (ro : Option Nat) (σ : SX) : va_W := [
  (ad 0, .inr (4, [.ref (ad 1), .ref (ad 10), .ref (ad 17), .ref (ad 24), .ref (ad 25), .int (gF σ 0 5), .int (gF σ 0 6)])),
  (ad 1, .inl (cS, 4, .inr (.inr (.inr (.inr (fun k => some (ad (2 + 2 * k)))))))),
  (ad 2, .inr (3, [.int (gF σ 2 0), .int (gF σ 2 1), .ref (ad 3), .int (gF σ 2 3)])),
  (ad 3, .inl (cI, 60, .inl (gR σ 3))),
  (ad 4, .inr (3, [.int (gF σ 4 0), .int (gF σ 4 1), .ref (ad 5), .int (gF σ 4 3)])),
  (ad 5, .inl (cI, 60, .inl (gR σ 5))),
  (ad 6, .inr (3, [.int (gF σ 6 0), .int (gF σ 6 1), .ref (ad 7), .int (gF σ 6 3)])),
  (ad 7, .inl (cI, 60, .inl (gR σ 7))),
  (ad 8, .inr (3, [.int (gF σ 8 0), .int (gF σ 8 1), .ref (ad 9), .int (gF σ 8 3)])),
  (ad 9, .inl (cI, 60, .inl (gR σ 9))),
  (ad 10, .inr (0, [.int (gF σ 10 0), .int (gF σ 10 1), .int (gF σ 10 2), .int (gF σ 10 3), .int (gF σ 10 4), .ref (ad 11), .ref (ad 12), .ref (ad 13), .ref (ad 14), .ref (ad 15), .ref (ad 16)])),
  (ad 11, .inl (cI, 6, .inl (gR σ 11))),
  (ad 12, .inl (cI, 4, .inl (gR σ 12))),
  (ad 13, .inl (cI, 4, .inl (gR σ 13))),
  (ad 14, .inl (cI, 6, .inl (gR σ 14))),
  (ad 15, .inl (cI, 6, .inl (gR σ 15))),
  (ad 16, .inl (cI, 6, .inl (gR σ 16))),
  (ad 17, .inr (0, [.int (gF σ 17 0), .int (gF σ 17 1), .int (gF σ 17 2), .int (gF σ 17 3), .int (gF σ 17 4), .ref (ad 18), .ref (ad 19), .ref (ad 20), .ref (ad 21), .ref (ad 22), .ref (ad 23)])),
  (ad 18, .inl (cI, 6, .inl (gR σ 18))),
  (ad 19, .inl (cI, 4, .inl (gR σ 19))),
  (ad 20, .inl (cI, 4, .inl (gR σ 20))),
  (ad 21, .inl (cI, 6, .inl (gR σ 21))),
  (ad 22, .inl (cI, 6, .inl (gR σ 22))),
  (ad 23, .inl (cI, 6, .inl (gR σ 23))),
  (ad 24, .inr (1, [.int (gF σ 24 0), va_rf (ro.map ad), .int (gF σ 24 2), .int (gF σ 24 3)])),
  (ad 25, .inr (2, [.int (gF σ 25 0), .ref (ad 26), .ref (ad 27), .ref (ad 28)])),
  (ad 26, .inl (cI, 8, .inl (gR σ 26))),
  (ad 27, .inl (cI, 8, .inl (gR σ 27))),
  (ad 28, .inl (cZ, 8, .inl (gR σ 28)))]
def WM (cI : ClassId) (am : Nat → Nat) (σ : SX) : va_W := [
  (am 0, .inr (5, [.int (gF σ 0 0), .int (gF σ 0 1), .ref (am 1), .ref (am 2), .ref (am 3), .int (gF σ 0 5), .int (gF σ 0 6), .int (gF σ 0 7), .int (gF σ 0 8), .int (gF σ 0 9), .ref (am 4), .ref (am 5), .ref (am 6), .ref (am 7), .ref (am 8), .ref (am 9), .int (gF σ 0 16), .int (gF σ 0 17), .int (gF σ 0 18), .int (gF σ 0 19), .ref (am 10), .ref (am 11), .ref (am 12), .ref (am 13), .int (gF σ 0 24), .ref (am 14), .ref (am 15), .ref (am 16)])),
  (am 1, .inl (cI, 4, .inl (gR σ 1))),
  (am 2, .inl (cI, 4, .inl (gR σ 2))),
  (am 3, .inl (cI, 240, .inl (gR σ 3))),
  (am 4, .inl (cI, 6, .inl (gR σ 4))),
  (am 5, .inl (cI, 4, .inl (gR σ 5))),
  (am 6, .inl (cI, 4, .inl (gR σ 6))),
  (am 7, .inl (cI, 6, .inl (gR σ 7))),
  (am 8, .inl (cI, 6, .inl (gR σ 8))),
  (am 9, .inl (cI, 6, .inl (gR σ 9))),
  (am 10, .inl (cI, 6, .inl (gR σ 10))),
  (am 11, .inl (cI, 8, .inl (gR σ 11))),
  (am 12, .inl (cI, 18, .inl (gR σ 12))),
  (am 13, .inl (cI, 31, .inl (gR σ 13))),
  (am 14, .inl (cI, 8, .inl (gR σ 14))),
  (am 15, .inl (cI, 8, .inl (gR σ 15))),
  (am 16, .inl (cI, 8, .inl (gR σ 16)))]
theorem xO {cI cZ cS : ClassId} {ad : Nat → Nat} {ro : Option Nat} {σ : SX} : (WX cI cZ cS ad ro σ)[0]? = some (ad 0, .inr (4, [.ref (ad 1), .ref (ad 10), .ref (ad 17), .ref (ad 24), .ref (ad 25), .int (gF σ 0 5), .int (gF σ 0 6)])) := rfl
theorem xO_5 {cI cZ cS : ClassId} {ad : Nat → Nat} {ro : Option Nat} {σ : SX} {v : Int32} : (WX cI cZ cS ad ro σ).set 0 (ad 0, .inr (4, [.ref (ad 1), .ref (ad 10), .ref (ad 17), .ref (ad 24), .ref (ad 25), .int v, .int (gF σ 0 6)])) = WX cI cZ cS ad ro (sF σ 0 5 v) := rfl
theorem xO_6 {cI cZ cS : ClassId} {ad : Nat → Nat} {ro : Option Nat} {σ : SX} {v : Int32} : (WX cI cZ cS ad ro σ).set 0 (ad 0, .inr (4, [.ref (ad 1), .ref (ad 10), .ref (ad 17), .ref (ad 24), .ref (ad 25), .int (gF σ 0 5), .int v])) = WX cI cZ cS ad ro (sF σ 0 6 v) := rfl
theorem xA {cI cZ cS : ClassId} {ad : Nat → Nat} {ro : Option Nat} {σ : SX} : (WX cI cZ cS ad ro σ)[1]? = some (ad 1, .inl (cS, 4, .inr (.inr (.inr (.inr (fun k => some (ad (2 + 2 * k)))))))) := rfl
theorem xS {cI cZ cS : ClassId} {ad : Nat → Nat} {ro : Option Nat} {σ : SX} {b : Nat} (hb : isSh b) : (WX cI cZ cS ad ro σ)[b]? = some (ad b, .inr (3, [.int (gF σ b 0), .int (gF σ b 1), .ref (ad (b + 1)), .int (gF σ b 3)])) := by rcases hb with rfl | rfl | rfl | rfl <;> rfl
theorem xS_0 {cI cZ cS : ClassId} {ad : Nat → Nat} {ro : Option Nat} {σ : SX} {b : Nat} {v : Int32} (hb : isSh b) : (WX cI cZ cS ad ro σ).set b (ad b, .inr (3, [.int v, .int (gF σ b 1), .ref (ad (b + 1)), .int (gF σ b 3)])) = WX cI cZ cS ad ro (sF σ b 0 v) := by rcases hb with rfl | rfl | rfl | rfl <;> rfl
theorem xS_1 {cI cZ cS : ClassId} {ad : Nat → Nat} {ro : Option Nat} {σ : SX} {b : Nat} {v : Int32} (hb : isSh b) : (WX cI cZ cS ad ro σ).set b (ad b, .inr (3, [.int (gF σ b 0), .int v, .ref (ad (b + 1)), .int (gF σ b 3)])) = WX cI cZ cS ad ro (sF σ b 1 v) := by rcases hb with rfl | rfl | rfl | rfl <;> rfl
theorem xS_3 {cI cZ cS : ClassId} {ad : Nat → Nat} {ro : Option Nat} {σ : SX} {b : Nat} {v : Int32} (hb : isSh b) : (WX cI cZ cS ad ro σ).set b (ad b, .inr (3, [.int (gF σ b 0), .int (gF σ b 1), .ref (ad (b + 1)), .int v])) = WX cI cZ cS ad ro (sF σ b 3 v) := by rcases hb with rfl | rfl | rfl | rfl <;> rfl
theorem xSc {cI cZ cS : ClassId} {ad : Nat → Nat} {ro : Option Nat} {σ : SX} {b : Nat} (hb : isSh b) : (WX cI cZ cS ad ro σ)[b + 1]? = some (ad (b + 1), .inl (cI, 60, .inl (gR σ (b + 1)))) := by rcases hb with rfl | rfl | rfl | rfl <;> rfl
theorem xSc_s {cI cZ cS : ClassId} {ad : Nat → Nat} {ro : Option Nat} {σ : SX} {b : Nat} {f : Nat → Int32} (hb : isSh b) : (WX cI cZ cS ad ro σ).set (b + 1) (ad (b + 1), .inl (cI, 60, .inl f)) = WX cI cZ cS ad ro (sR σ (b + 1) f) := by rcases hb with rfl | rfl | rfl | rfl <;> rfl
theorem xD {cI cZ cS : ClassId} {ad : Nat → Nat} {ro : Option Nat} {σ : SX} {b : Nat} (hb : isDy b) : (WX cI cZ cS ad ro σ)[b]? = some (ad b, .inr (0, [.int (gF σ b 0), .int (gF σ b 1), .int (gF σ b 2), .int (gF σ b 3), .int (gF σ b 4), .ref (ad (b + 1)), .ref (ad (b + 2)), .ref (ad (b + 3)), .ref (ad (b + 4)), .ref (ad (b + 5)), .ref (ad (b + 6))])) := by rcases hb with rfl | rfl <;> rfl
theorem xD_0 {cI cZ cS : ClassId} {ad : Nat → Nat} {ro : Option Nat} {σ : SX} {b : Nat} {v : Int32} (hb : isDy b) : (WX cI cZ cS ad ro σ).set b (ad b, .inr (0, [.int v, .int (gF σ b 1), .int (gF σ b 2), .int (gF σ b 3), .int (gF σ b 4), .ref (ad (b + 1)), .ref (ad (b + 2)), .ref (ad (b + 3)), .ref (ad (b + 4)), .ref (ad (b + 5)), .ref (ad (b + 6))])) = WX cI cZ cS ad ro (sF σ b 0 v) := by rcases hb with rfl | rfl <;> rfl
theorem xD_1 {cI cZ cS : ClassId} {ad : Nat → Nat} {ro : Option Nat} {σ : SX} {b : Nat} {v : Int32} (hb : isDy b) : (WX cI cZ cS ad ro σ).set b (ad b, .inr (0, [.int (gF σ b 0), .int v, .int (gF σ b 2), .int (gF σ b 3), .int (gF σ b 4), .ref (ad (b + 1)), .ref (ad (b + 2)), .ref (ad (b + 3)), .ref (ad (b + 4)), .ref (ad (b + 5)), .ref (ad (b + 6))])) = WX cI cZ cS ad ro (sF σ b 1 v) := by rcases hb with rfl | rfl <;> rfl
theorem xD_2 {cI cZ cS : ClassId} {ad : Nat → Nat} {ro : Option Nat} {σ : SX} {b : Nat} {v : Int32} (hb : isDy b) : (WX cI cZ cS ad ro σ).set b (ad b, .inr (0, [.int (gF σ b 0), .int (gF σ b 1), .int v, .int (gF σ b 3), .int (gF σ b 4), .ref (ad (b + 1)), .ref (ad (b + 2)), .ref (ad (b + 3)), .ref (ad (b + 4)), .ref (ad (b + 5)), .ref (ad (b + 6))])) = WX cI cZ cS ad ro (sF σ b 2 v) := by rcases hb with rfl | rfl <;> rfl
theorem xD_3 {cI cZ cS : ClassId} {ad : Nat → Nat} {ro : Option Nat} {σ : SX} {b : Nat} {v : Int32} (hb : isDy b) : (WX cI cZ cS ad ro σ).set b (ad b, .inr (0, [.int (gF σ b 0), .int (gF σ b 1), .int (gF σ b 2), .int v, .int (gF σ b 4), .ref (ad (b + 1)), .ref (ad (b + 2)), .ref (ad (b + 3)), .ref (ad (b + 4)), .ref (ad (b + 5)), .ref (ad (b + 6))])) = WX cI cZ cS ad ro (sF σ b 3 v) := by rcases hb with rfl | rfl <;> rfl
theorem xD_4 {cI cZ cS : ClassId} {ad : Nat → Nat} {ro : Option Nat} {σ : SX} {b : Nat} {v : Int32} (hb : isDy b) : (WX cI cZ cS ad ro σ).set b (ad b, .inr (0, [.int (gF σ b 0), .int (gF σ b 1), .int (gF σ b 2), .int (gF σ b 3), .int v, .ref (ad (b + 1)), .ref (ad (b + 2)), .ref (ad (b + 3)), .ref (ad (b + 4)), .ref (ad (b + 5)), .ref (ad (b + 6))])) = WX cI cZ cS ad ro (sF σ b 4 v) := by rcases hb with rfl | rfl <;> rfl
theorem xDr1 {cI cZ cS : ClassId} {ad : Nat → Nat} {ro : Option Nat} {σ : SX} {b : Nat} (hb : isDy b) : (WX cI cZ cS ad ro σ)[b + 1]? = some (ad (b + 1), .inl (cI, 6, .inl (gR σ (b + 1)))) := by rcases hb with rfl | rfl <;> rfl
theorem xDr1_s {cI cZ cS : ClassId} {ad : Nat → Nat} {ro : Option Nat} {σ : SX} {b : Nat} {f : Nat → Int32} (hb : isDy b) : (WX cI cZ cS ad ro σ).set (b + 1) (ad (b + 1), .inl (cI, 6, .inl f)) = WX cI cZ cS ad ro (sR σ (b + 1) f) := by rcases hb with rfl | rfl <;> rfl
theorem xDr2 {cI cZ cS : ClassId} {ad : Nat → Nat} {ro : Option Nat} {σ : SX} {b : Nat} (hb : isDy b) : (WX cI cZ cS ad ro σ)[b + 2]? = some (ad (b + 2), .inl (cI, 4, .inl (gR σ (b + 2)))) := by rcases hb with rfl | rfl <;> rfl
theorem xDr2_s {cI cZ cS : ClassId} {ad : Nat → Nat} {ro : Option Nat} {σ : SX} {b : Nat} {f : Nat → Int32} (hb : isDy b) : (WX cI cZ cS ad ro σ).set (b + 2) (ad (b + 2), .inl (cI, 4, .inl f)) = WX cI cZ cS ad ro (sR σ (b + 2) f) := by rcases hb with rfl | rfl <;> rfl
theorem xDr3 {cI cZ cS : ClassId} {ad : Nat → Nat} {ro : Option Nat} {σ : SX} {b : Nat} (hb : isDy b) : (WX cI cZ cS ad ro σ)[b + 3]? = some (ad (b + 3), .inl (cI, 4, .inl (gR σ (b + 3)))) := by rcases hb with rfl | rfl <;> rfl
theorem xDr3_s {cI cZ cS : ClassId} {ad : Nat → Nat} {ro : Option Nat} {σ : SX} {b : Nat} {f : Nat → Int32} (hb : isDy b) : (WX cI cZ cS ad ro σ).set (b + 3) (ad (b + 3), .inl (cI, 4, .inl f)) = WX cI cZ cS ad ro (sR σ (b + 3) f) := by rcases hb with rfl | rfl <;> rfl
theorem xDr4 {cI cZ cS : ClassId} {ad : Nat → Nat} {ro : Option Nat} {σ : SX} {b : Nat} (hb : isDy b) : (WX cI cZ cS ad ro σ)[b + 4]? = some (ad (b + 4), .inl (cI, 6, .inl (gR σ (b + 4)))) := by rcases hb with rfl | rfl <;> rfl
theorem xDr4_s {cI cZ cS : ClassId} {ad : Nat → Nat} {ro : Option Nat} {σ : SX} {b : Nat} {f : Nat → Int32} (hb : isDy b) : (WX cI cZ cS ad ro σ).set (b + 4) (ad (b + 4), .inl (cI, 6, .inl f)) = WX cI cZ cS ad ro (sR σ (b + 4) f) := by rcases hb with rfl | rfl <;> rfl
theorem xDr5 {cI cZ cS : ClassId} {ad : Nat → Nat} {ro : Option Nat} {σ : SX} {b : Nat} (hb : isDy b) : (WX cI cZ cS ad ro σ)[b + 5]? = some (ad (b + 5), .inl (cI, 6, .inl (gR σ (b + 5)))) := by rcases hb with rfl | rfl <;> rfl
theorem xDr5_s {cI cZ cS : ClassId} {ad : Nat → Nat} {ro : Option Nat} {σ : SX} {b : Nat} {f : Nat → Int32} (hb : isDy b) : (WX cI cZ cS ad ro σ).set (b + 5) (ad (b + 5), .inl (cI, 6, .inl f)) = WX cI cZ cS ad ro (sR σ (b + 5) f) := by rcases hb with rfl | rfl <;> rfl
theorem xDr6 {cI cZ cS : ClassId} {ad : Nat → Nat} {ro : Option Nat} {σ : SX} {b : Nat} (hb : isDy b) : (WX cI cZ cS ad ro σ)[b + 6]? = some (ad (b + 6), .inl (cI, 6, .inl (gR σ (b + 6)))) := by rcases hb with rfl | rfl <;> rfl
theorem xDr6_s {cI cZ cS : ClassId} {ad : Nat → Nat} {ro : Option Nat} {σ : SX} {b : Nat} {f : Nat → Int32} (hb : isDy b) : (WX cI cZ cS ad ro σ).set (b + 6) (ad (b + 6), .inl (cI, 6, .inl f)) = WX cI cZ cS ad ro (sR σ (b + 6) f) := by rcases hb with rfl | rfl <;> rfl
theorem xR {cI cZ cS : ClassId} {ad : Nat → Nat} {ro : Option Nat} {σ : SX} : (WX cI cZ cS ad ro σ)[24]? = some (ad 24, .inr (1, [.int (gF σ 24 0), va_rf (ro.map ad), .int (gF σ 24 2), .int (gF σ 24 3)])) := rfl
theorem xR_0 {cI cZ cS : ClassId} {ad : Nat → Nat} {ro : Option Nat} {σ : SX} {v : Int32} : (WX cI cZ cS ad ro σ).set 24 (ad 24, .inr (1, [.int v, va_rf (ro.map ad), .int (gF σ 24 2), .int (gF σ 24 3)])) = WX cI cZ cS ad ro (sF σ 24 0 v) := rfl
theorem xR_2 {cI cZ cS : ClassId} {ad : Nat → Nat} {ro : Option Nat} {σ : SX} {v : Int32} : (WX cI cZ cS ad ro σ).set 24 (ad 24, .inr (1, [.int (gF σ 24 0), va_rf (ro.map ad), .int v, .int (gF σ 24 3)])) = WX cI cZ cS ad ro (sF σ 24 2 v) := rfl
theorem xR_3 {cI cZ cS : ClassId} {ad : Nat → Nat} {ro : Option Nat} {σ : SX} {v : Int32} : (WX cI cZ cS ad ro σ).set 24 (ad 24, .inr (1, [.int (gF σ 24 0), va_rf (ro.map ad), .int (gF σ 24 2), .int v])) = WX cI cZ cS ad ro (sF σ 24 3 v) := rfl
theorem xR_1 {cI cZ cS : ClassId} {ad : Nat → Nat} {ro : Option Nat} {σ : SX} {b : Nat} : (WX cI cZ cS ad ro σ).set 24 (ad 24, .inr (1, [.int (gF σ 24 0), .ref (ad b), .int (gF σ 24 2), .int (gF σ 24 3)])) = WX cI cZ cS ad (some b) σ := rfl
theorem xG {cI cZ cS : ClassId} {ad : Nat → Nat} {ro : Option Nat} {σ : SX} : (WX cI cZ cS ad ro σ)[25]? = some (ad 25, .inr (2, [.int (gF σ 25 0), .ref (ad 26), .ref (ad 27), .ref (ad 28)])) := rfl
theorem xG_0 {cI cZ cS : ClassId} {ad : Nat → Nat} {ro : Option Nat} {σ : SX} {v : Int32} : (WX cI cZ cS ad ro σ).set 25 (ad 25, .inr (2, [.int v, .ref (ad 26), .ref (ad 27), .ref (ad 28)])) = WX cI cZ cS ad ro (sF σ 25 0 v) := rfl
theorem xGr26 {cI cZ cS : ClassId} {ad : Nat → Nat} {ro : Option Nat} {σ : SX} : (WX cI cZ cS ad ro σ)[26]? = some (ad 26, .inl (cI, 8, .inl (gR σ 26))) := rfl
theorem xGr26_s {cI cZ cS : ClassId} {ad : Nat → Nat} {ro : Option Nat} {σ : SX} {f : Nat → Int32} : (WX cI cZ cS ad ro σ).set 26 (ad 26, .inl (cI, 8, .inl f)) = WX cI cZ cS ad ro (sR σ 26 f) := rfl
theorem xGr27 {cI cZ cS : ClassId} {ad : Nat → Nat} {ro : Option Nat} {σ : SX} : (WX cI cZ cS ad ro σ)[27]? = some (ad 27, .inl (cI, 8, .inl (gR σ 27))) := rfl
theorem xGr27_s {cI cZ cS : ClassId} {ad : Nat → Nat} {ro : Option Nat} {σ : SX} {f : Nat → Int32} : (WX cI cZ cS ad ro σ).set 27 (ad 27, .inl (cI, 8, .inl f)) = WX cI cZ cS ad ro (sR σ 27 f) := rfl
theorem xGr28 {cI cZ cS : ClassId} {ad : Nat → Nat} {ro : Option Nat} {σ : SX} : (WX cI cZ cS ad ro σ)[28]? = some (ad 28, .inl (cZ, 8, .inl (gR σ 28))) := rfl
theorem xGr28_s {cI cZ cS : ClassId} {ad : Nat → Nat} {ro : Option Nat} {σ : SX} {f : Nat → Int32} : (WX cI cZ cS ad ro σ).set 28 (ad 28, .inl (cZ, 8, .inl f)) = WX cI cZ cS ad ro (sR σ 28 f) := rfl
theorem mO {cI : ClassId} {am : Nat → Nat} {σ : SX} : (WM cI am σ)[0]? = some (am 0, .inr (5, [.int (gF σ 0 0), .int (gF σ 0 1), .ref (am 1), .ref (am 2), .ref (am 3), .int (gF σ 0 5), .int (gF σ 0 6), .int (gF σ 0 7), .int (gF σ 0 8), .int (gF σ 0 9), .ref (am 4), .ref (am 5), .ref (am 6), .ref (am 7), .ref (am 8), .ref (am 9), .int (gF σ 0 16), .int (gF σ 0 17), .int (gF σ 0 18), .int (gF σ 0 19), .ref (am 10), .ref (am 11), .ref (am 12), .ref (am 13), .int (gF σ 0 24), .ref (am 14), .ref (am 15), .ref (am 16)])) := rfl
theorem mO_0 {cI : ClassId} {am : Nat → Nat} {σ : SX} {v : Int32} : (WM cI am σ).set 0 (am 0, .inr (5, [.int v, .int (gF σ 0 1), .ref (am 1), .ref (am 2), .ref (am 3), .int (gF σ 0 5), .int (gF σ 0 6), .int (gF σ 0 7), .int (gF σ 0 8), .int (gF σ 0 9), .ref (am 4), .ref (am 5), .ref (am 6), .ref (am 7), .ref (am 8), .ref (am 9), .int (gF σ 0 16), .int (gF σ 0 17), .int (gF σ 0 18), .int (gF σ 0 19), .ref (am 10), .ref (am 11), .ref (am 12), .ref (am 13), .int (gF σ 0 24), .ref (am 14), .ref (am 15), .ref (am 16)])) = WM cI am (sF σ 0 0 v) := rfl
theorem mO_1 {cI : ClassId} {am : Nat → Nat} {σ : SX} {v : Int32} : (WM cI am σ).set 0 (am 0, .inr (5, [.int (gF σ 0 0), .int v, .ref (am 1), .ref (am 2), .ref (am 3), .int (gF σ 0 5), .int (gF σ 0 6), .int (gF σ 0 7), .int (gF σ 0 8), .int (gF σ 0 9), .ref (am 4), .ref (am 5), .ref (am 6), .ref (am 7), .ref (am 8), .ref (am 9), .int (gF σ 0 16), .int (gF σ 0 17), .int (gF σ 0 18), .int (gF σ 0 19), .ref (am 10), .ref (am 11), .ref (am 12), .ref (am 13), .int (gF σ 0 24), .ref (am 14), .ref (am 15), .ref (am 16)])) = WM cI am (sF σ 0 1 v) := rfl
theorem mO_5 {cI : ClassId} {am : Nat → Nat} {σ : SX} {v : Int32} : (WM cI am σ).set 0 (am 0, .inr (5, [.int (gF σ 0 0), .int (gF σ 0 1), .ref (am 1), .ref (am 2), .ref (am 3), .int v, .int (gF σ 0 6), .int (gF σ 0 7), .int (gF σ 0 8), .int (gF σ 0 9), .ref (am 4), .ref (am 5), .ref (am 6), .ref (am 7), .ref (am 8), .ref (am 9), .int (gF σ 0 16), .int (gF σ 0 17), .int (gF σ 0 18), .int (gF σ 0 19), .ref (am 10), .ref (am 11), .ref (am 12), .ref (am 13), .int (gF σ 0 24), .ref (am 14), .ref (am 15), .ref (am 16)])) = WM cI am (sF σ 0 5 v) := rfl
theorem mO_6 {cI : ClassId} {am : Nat → Nat} {σ : SX} {v : Int32} : (WM cI am σ).set 0 (am 0, .inr (5, [.int (gF σ 0 0), .int (gF σ 0 1), .ref (am 1), .ref (am 2), .ref (am 3), .int (gF σ 0 5), .int v, .int (gF σ 0 7), .int (gF σ 0 8), .int (gF σ 0 9), .ref (am 4), .ref (am 5), .ref (am 6), .ref (am 7), .ref (am 8), .ref (am 9), .int (gF σ 0 16), .int (gF σ 0 17), .int (gF σ 0 18), .int (gF σ 0 19), .ref (am 10), .ref (am 11), .ref (am 12), .ref (am 13), .int (gF σ 0 24), .ref (am 14), .ref (am 15), .ref (am 16)])) = WM cI am (sF σ 0 6 v) := rfl
theorem mO_7 {cI : ClassId} {am : Nat → Nat} {σ : SX} {v : Int32} : (WM cI am σ).set 0 (am 0, .inr (5, [.int (gF σ 0 0), .int (gF σ 0 1), .ref (am 1), .ref (am 2), .ref (am 3), .int (gF σ 0 5), .int (gF σ 0 6), .int v, .int (gF σ 0 8), .int (gF σ 0 9), .ref (am 4), .ref (am 5), .ref (am 6), .ref (am 7), .ref (am 8), .ref (am 9), .int (gF σ 0 16), .int (gF σ 0 17), .int (gF σ 0 18), .int (gF σ 0 19), .ref (am 10), .ref (am 11), .ref (am 12), .ref (am 13), .int (gF σ 0 24), .ref (am 14), .ref (am 15), .ref (am 16)])) = WM cI am (sF σ 0 7 v) := rfl
theorem mO_8 {cI : ClassId} {am : Nat → Nat} {σ : SX} {v : Int32} : (WM cI am σ).set 0 (am 0, .inr (5, [.int (gF σ 0 0), .int (gF σ 0 1), .ref (am 1), .ref (am 2), .ref (am 3), .int (gF σ 0 5), .int (gF σ 0 6), .int (gF σ 0 7), .int v, .int (gF σ 0 9), .ref (am 4), .ref (am 5), .ref (am 6), .ref (am 7), .ref (am 8), .ref (am 9), .int (gF σ 0 16), .int (gF σ 0 17), .int (gF σ 0 18), .int (gF σ 0 19), .ref (am 10), .ref (am 11), .ref (am 12), .ref (am 13), .int (gF σ 0 24), .ref (am 14), .ref (am 15), .ref (am 16)])) = WM cI am (sF σ 0 8 v) := rfl
theorem mO_9 {cI : ClassId} {am : Nat → Nat} {σ : SX} {v : Int32} : (WM cI am σ).set 0 (am 0, .inr (5, [.int (gF σ 0 0), .int (gF σ 0 1), .ref (am 1), .ref (am 2), .ref (am 3), .int (gF σ 0 5), .int (gF σ 0 6), .int (gF σ 0 7), .int (gF σ 0 8), .int v, .ref (am 4), .ref (am 5), .ref (am 6), .ref (am 7), .ref (am 8), .ref (am 9), .int (gF σ 0 16), .int (gF σ 0 17), .int (gF σ 0 18), .int (gF σ 0 19), .ref (am 10), .ref (am 11), .ref (am 12), .ref (am 13), .int (gF σ 0 24), .ref (am 14), .ref (am 15), .ref (am 16)])) = WM cI am (sF σ 0 9 v) := rfl
theorem mO_16 {cI : ClassId} {am : Nat → Nat} {σ : SX} {v : Int32} : (WM cI am σ).set 0 (am 0, .inr (5, [.int (gF σ 0 0), .int (gF σ 0 1), .ref (am 1), .ref (am 2), .ref (am 3), .int (gF σ 0 5), .int (gF σ 0 6), .int (gF σ 0 7), .int (gF σ 0 8), .int (gF σ 0 9), .ref (am 4), .ref (am 5), .ref (am 6), .ref (am 7), .ref (am 8), .ref (am 9), .int v, .int (gF σ 0 17), .int (gF σ 0 18), .int (gF σ 0 19), .ref (am 10), .ref (am 11), .ref (am 12), .ref (am 13), .int (gF σ 0 24), .ref (am 14), .ref (am 15), .ref (am 16)])) = WM cI am (sF σ 0 16 v) := rfl
theorem mO_17 {cI : ClassId} {am : Nat → Nat} {σ : SX} {v : Int32} : (WM cI am σ).set 0 (am 0, .inr (5, [.int (gF σ 0 0), .int (gF σ 0 1), .ref (am 1), .ref (am 2), .ref (am 3), .int (gF σ 0 5), .int (gF σ 0 6), .int (gF σ 0 7), .int (gF σ 0 8), .int (gF σ 0 9), .ref (am 4), .ref (am 5), .ref (am 6), .ref (am 7), .ref (am 8), .ref (am 9), .int (gF σ 0 16), .int v, .int (gF σ 0 18), .int (gF σ 0 19), .ref (am 10), .ref (am 11), .ref (am 12), .ref (am 13), .int (gF σ 0 24), .ref (am 14), .ref (am 15), .ref (am 16)])) = WM cI am (sF σ 0 17 v) := rfl
theorem mO_18 {cI : ClassId} {am : Nat → Nat} {σ : SX} {v : Int32} : (WM cI am σ).set 0 (am 0, .inr (5, [.int (gF σ 0 0), .int (gF σ 0 1), .ref (am 1), .ref (am 2), .ref (am 3), .int (gF σ 0 5), .int (gF σ 0 6), .int (gF σ 0 7), .int (gF σ 0 8), .int (gF σ 0 9), .ref (am 4), .ref (am 5), .ref (am 6), .ref (am 7), .ref (am 8), .ref (am 9), .int (gF σ 0 16), .int (gF σ 0 17), .int v, .int (gF σ 0 19), .ref (am 10), .ref (am 11), .ref (am 12), .ref (am 13), .int (gF σ 0 24), .ref (am 14), .ref (am 15), .ref (am 16)])) = WM cI am (sF σ 0 18 v) := rfl
theorem mO_19 {cI : ClassId} {am : Nat → Nat} {σ : SX} {v : Int32} : (WM cI am σ).set 0 (am 0, .inr (5, [.int (gF σ 0 0), .int (gF σ 0 1), .ref (am 1), .ref (am 2), .ref (am 3), .int (gF σ 0 5), .int (gF σ 0 6), .int (gF σ 0 7), .int (gF σ 0 8), .int (gF σ 0 9), .ref (am 4), .ref (am 5), .ref (am 6), .ref (am 7), .ref (am 8), .ref (am 9), .int (gF σ 0 16), .int (gF σ 0 17), .int (gF σ 0 18), .int v, .ref (am 10), .ref (am 11), .ref (am 12), .ref (am 13), .int (gF σ 0 24), .ref (am 14), .ref (am 15), .ref (am 16)])) = WM cI am (sF σ 0 19 v) := rfl
theorem mO_24 {cI : ClassId} {am : Nat → Nat} {σ : SX} {v : Int32} : (WM cI am σ).set 0 (am 0, .inr (5, [.int (gF σ 0 0), .int (gF σ 0 1), .ref (am 1), .ref (am 2), .ref (am 3), .int (gF σ 0 5), .int (gF σ 0 6), .int (gF σ 0 7), .int (gF σ 0 8), .int (gF σ 0 9), .ref (am 4), .ref (am 5), .ref (am 6), .ref (am 7), .ref (am 8), .ref (am 9), .int (gF σ 0 16), .int (gF σ 0 17), .int (gF σ 0 18), .int (gF σ 0 19), .ref (am 10), .ref (am 11), .ref (am 12), .ref (am 13), .int v, .ref (am 14), .ref (am 15), .ref (am 16)])) = WM cI am (sF σ 0 24 v) := rfl
theorem mr1 {cI : ClassId} {am : Nat → Nat} {σ : SX} : (WM cI am σ)[1]? = some (am 1, .inl (cI, 4, .inl (gR σ 1))) := rfl
theorem mr1_s {cI : ClassId} {am : Nat → Nat} {σ : SX} {f : Nat → Int32} : (WM cI am σ).set 1 (am 1, .inl (cI, 4, .inl f)) = WM cI am (sR σ 1 f) := rfl
theorem mr2 {cI : ClassId} {am : Nat → Nat} {σ : SX} : (WM cI am σ)[2]? = some (am 2, .inl (cI, 4, .inl (gR σ 2))) := rfl
theorem mr2_s {cI : ClassId} {am : Nat → Nat} {σ : SX} {f : Nat → Int32} : (WM cI am σ).set 2 (am 2, .inl (cI, 4, .inl f)) = WM cI am (sR σ 2 f) := rfl
theorem mr3 {cI : ClassId} {am : Nat → Nat} {σ : SX} : (WM cI am σ)[3]? = some (am 3, .inl (cI, 240, .inl (gR σ 3))) := rfl
theorem mr3_s {cI : ClassId} {am : Nat → Nat} {σ : SX} {f : Nat → Int32} : (WM cI am σ).set 3 (am 3, .inl (cI, 240, .inl f)) = WM cI am (sR σ 3 f) := rfl
theorem mr4 {cI : ClassId} {am : Nat → Nat} {σ : SX} : (WM cI am σ)[4]? = some (am 4, .inl (cI, 6, .inl (gR σ 4))) := rfl
theorem mr4_s {cI : ClassId} {am : Nat → Nat} {σ : SX} {f : Nat → Int32} : (WM cI am σ).set 4 (am 4, .inl (cI, 6, .inl f)) = WM cI am (sR σ 4 f) := rfl
theorem mr5 {cI : ClassId} {am : Nat → Nat} {σ : SX} : (WM cI am σ)[5]? = some (am 5, .inl (cI, 4, .inl (gR σ 5))) := rfl
theorem mr5_s {cI : ClassId} {am : Nat → Nat} {σ : SX} {f : Nat → Int32} : (WM cI am σ).set 5 (am 5, .inl (cI, 4, .inl f)) = WM cI am (sR σ 5 f) := rfl
theorem mr6 {cI : ClassId} {am : Nat → Nat} {σ : SX} : (WM cI am σ)[6]? = some (am 6, .inl (cI, 4, .inl (gR σ 6))) := rfl
theorem mr6_s {cI : ClassId} {am : Nat → Nat} {σ : SX} {f : Nat → Int32} : (WM cI am σ).set 6 (am 6, .inl (cI, 4, .inl f)) = WM cI am (sR σ 6 f) := rfl
theorem mr7 {cI : ClassId} {am : Nat → Nat} {σ : SX} : (WM cI am σ)[7]? = some (am 7, .inl (cI, 6, .inl (gR σ 7))) := rfl
theorem mr7_s {cI : ClassId} {am : Nat → Nat} {σ : SX} {f : Nat → Int32} : (WM cI am σ).set 7 (am 7, .inl (cI, 6, .inl f)) = WM cI am (sR σ 7 f) := rfl
theorem mr8 {cI : ClassId} {am : Nat → Nat} {σ : SX} : (WM cI am σ)[8]? = some (am 8, .inl (cI, 6, .inl (gR σ 8))) := rfl
theorem mr8_s {cI : ClassId} {am : Nat → Nat} {σ : SX} {f : Nat → Int32} : (WM cI am σ).set 8 (am 8, .inl (cI, 6, .inl f)) = WM cI am (sR σ 8 f) := rfl
theorem mr9 {cI : ClassId} {am : Nat → Nat} {σ : SX} : (WM cI am σ)[9]? = some (am 9, .inl (cI, 6, .inl (gR σ 9))) := rfl
theorem mr9_s {cI : ClassId} {am : Nat → Nat} {σ : SX} {f : Nat → Int32} : (WM cI am σ).set 9 (am 9, .inl (cI, 6, .inl f)) = WM cI am (sR σ 9 f) := rfl
theorem mr10 {cI : ClassId} {am : Nat → Nat} {σ : SX} : (WM cI am σ)[10]? = some (am 10, .inl (cI, 6, .inl (gR σ 10))) := rfl
theorem mr10_s {cI : ClassId} {am : Nat → Nat} {σ : SX} {f : Nat → Int32} : (WM cI am σ).set 10 (am 10, .inl (cI, 6, .inl f)) = WM cI am (sR σ 10 f) := rfl
theorem mr11 {cI : ClassId} {am : Nat → Nat} {σ : SX} : (WM cI am σ)[11]? = some (am 11, .inl (cI, 8, .inl (gR σ 11))) := rfl
theorem mr11_s {cI : ClassId} {am : Nat → Nat} {σ : SX} {f : Nat → Int32} : (WM cI am σ).set 11 (am 11, .inl (cI, 8, .inl f)) = WM cI am (sR σ 11 f) := rfl
theorem mr12 {cI : ClassId} {am : Nat → Nat} {σ : SX} : (WM cI am σ)[12]? = some (am 12, .inl (cI, 18, .inl (gR σ 12))) := rfl
theorem mr12_s {cI : ClassId} {am : Nat → Nat} {σ : SX} {f : Nat → Int32} : (WM cI am σ).set 12 (am 12, .inl (cI, 18, .inl f)) = WM cI am (sR σ 12 f) := rfl
theorem mr13 {cI : ClassId} {am : Nat → Nat} {σ : SX} : (WM cI am σ)[13]? = some (am 13, .inl (cI, 31, .inl (gR σ 13))) := rfl
theorem mr13_s {cI : ClassId} {am : Nat → Nat} {σ : SX} {f : Nat → Int32} : (WM cI am σ).set 13 (am 13, .inl (cI, 31, .inl f)) = WM cI am (sR σ 13 f) := rfl
theorem mr14 {cI : ClassId} {am : Nat → Nat} {σ : SX} : (WM cI am σ)[14]? = some (am 14, .inl (cI, 8, .inl (gR σ 14))) := rfl
theorem mr14_s {cI : ClassId} {am : Nat → Nat} {σ : SX} {f : Nat → Int32} : (WM cI am σ).set 14 (am 14, .inl (cI, 8, .inl f)) = WM cI am (sR σ 14 f) := rfl
theorem mr15 {cI : ClassId} {am : Nat → Nat} {σ : SX} : (WM cI am σ)[15]? = some (am 15, .inl (cI, 8, .inl (gR σ 15))) := rfl
theorem mr15_s {cI : ClassId} {am : Nat → Nat} {σ : SX} {f : Nat → Int32} : (WM cI am σ).set 15 (am 15, .inl (cI, 8, .inl f)) = WM cI am (sR σ 15 f) := rfl
theorem mr16 {cI : ClassId} {am : Nat → Nat} {σ : SX} : (WM cI am σ)[16]? = some (am 16, .inl (cI, 8, .inl (gR σ 16))) := rfl
theorem mr16_s {cI : ClassId} {am : Nat → Nat} {σ : SX} {f : Nat → Int32} : (WM cI am σ).set 16 (am 16, .inl (cI, 8, .inl f)) = WM cI am (sR σ 16 f) := rfl
