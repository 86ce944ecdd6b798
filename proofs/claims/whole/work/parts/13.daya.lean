def f_X0_putStove (σ : SX) (b : Nat) (x1 : Int32) (x2 : Int32) : Option (Unit × SX) := some ((), sF (sF σ b 3 x1) b 4 x2)
set_option maxRecDepth 100000 in
set_option maxHeartbeats 4000000 in
theorem k_X0_putStove (l : Launch) {D : va_G} {A : Nat → Prop} {cI cZ cS : ClassId} {ad : Nat → Nat} {ro : Option Nat} (hAd : ∀ ro σ, va_D A (WX cI cZ cS ad ro σ)) {σ : SX} {b : Nat} {x1 : Int32} {x2 : Int32} {σ' : SX} {r : Unit} (hb0 : isDy b) (h : f_X0_putStove σ b x1 x2 = some (r, σ')) : Ct (QV D A (WX cI cZ cS ad ro (σ'))) l yX0_putStove cX0_putStove 3 none 0 0 D (tyS cI cZ cS) A [.ref (ad b), .int x1, .int x2] (WX cI cZ cS ad ro σ) := by
  refine Ct.of (by decide +kernel) (Nat.le_of_ble_eq_true rfl) ?_
  intro p e s m below meth c ls S hK hr hlocks hP hS hl
  have hx := S.1
  have hb := S.2.1
  have hl : lv_has ls 3 [(0, .ref (ad b)), (1, .int x1), (2, .int x2)] := hl
  rw [f_X0_putStove] at h
  refine lv_aload_n hx hb dX0_putStove_0 rfl (lv_at hl 0 rfl) ?_
  refine lv_iload_n hx hb dX0_putStove_1 rfl (lv_at hl 1 rfl) ?_
  refine pt_X0_9 S hK hP (hAd _ _) hS hb0 dX0_putStove_2 (fun H locs hP hS => ?_)
  refine lv_aload_n hx hb dX0_putStove_5 rfl (lv_at hl 0 rfl) ?_
  refine lv_iload_n hx hb dX0_putStove_6 rfl (lv_at hl 2 rfl) ?_
  refine pt_X0_47 S hK hP (hAd _ _) hS hb0 dX0_putStove_7 (fun H locs hP hS => ?_)
  obtain ⟨rfl, rfl⟩ := some_pair h
  exact k_vret S hr hlocks hP hS dX0_putStove_10
def f_X0_clear (σ : SX) (b : Nat) : Option (Unit × SX) := ob2 (f_X0_putStove (sF (sF (sF σ b 0 (0 : Int32)) b 1 (0 : Int32)) b 2 (0 : Int32)) b (-9 : Int32) (0 : Int32)) (fun r_19 s_19 => some ((), s_19))
set_option maxRecDepth 100000 in
set_option maxHeartbeats 4000000 in
theorem k_X0_clear (l : Launch) {D : va_G} {A : Nat → Prop} {cI cZ cS : ClassId} {ad : Nat → Nat} {ro : Option Nat} (hAd : ∀ ro σ, va_D A (WX cI cZ cS ad ro σ)) {σ : SX} {b : Nat} {σ' : SX} {r : Unit} (hb0 : isDy b) (h : f_X0_clear σ b = some (r, σ')) : Ct (QV D A (WX cI cZ cS ad ro (σ'))) l yX0_clear cX0_clear 1 none 1 22 D (tyS cI cZ cS) A [.ref (ad b)] (WX cI cZ cS ad ro σ) := by
  refine Ct.of (by decide +kernel) (Nat.le_of_ble_eq_true rfl) ?_
  intro p e s m below meth c ls S hK hr hlocks hP hS hl
  have hx := S.1
  have hb := S.2.1
  have hl : lv_has ls 1 [(0, .ref (ad b))] := hl
  rw [f_X0_clear] at h
  refine lv_aload_n hx hb dX0_clear_0 rfl (lv_at hl 0 rfl) ?_
  refine lv_iconst (v := (0 : Int32)) hx hb dX0_clear_1 (by decide) ?_
  refine pt_X0_34 S hK hP (hAd _ _) hS hb0 dX0_clear_2 (fun H locs hP hS => ?_)
  refine lv_aload_n hx hb dX0_clear_5 rfl (lv_at hl 0 rfl) ?_
  refine lv_iconst (v := (0 : Int32)) hx hb dX0_clear_6 (by decide) ?_
  refine pt_X0_37 S hK hP (hAd _ _) hS hb0 dX0_clear_7 (fun H locs hP hS => ?_)
  refine lv_aload_n hx hb dX0_clear_10 rfl (lv_at hl 0 rfl) ?_
  refine lv_iconst (v := (0 : Int32)) hx hb dX0_clear_11 (by decide) ?_
  refine pt_X0_40 S hK hP (hAd _ _) hS hb0 dX0_clear_12 (fun H locs hP hS => ?_)
  refine lv_aload_n hx hb dX0_clear_15 rfl (lv_at hl 0 rfl) ?_
  refine lv_bipush (v := (-9 : Int32)) hx hb dX0_clear_16 (by decide) ?_
  refine lv_iconst (v := (0 : Int32)) hx hb dX0_clear_18 (by decide) ?_
  obtain ⟨r_19, s_19, e_19, h⟩ := ob2_of h
  refine k_goV (k_runV (As := [.int (-9 : Int32), .int (0 : Int32)]) (rest := []) S hK hP (k_X0_putStove l hAd hb0 e_19) cy_X0_putStove wd_252 rfl (xD hb0) rfl hl.1 rfl (Nat.le_of_ble_eq_true rfl) dX0_clear_19 ⟨Nat.le_of_ble_eq_true rfl, Nat.le_of_ble_eq_true rfl⟩ ⟨Nat.zero_le _, Nat.zero_le _⟩) hS (fun _ h => h) (fun H locs hP hS _ _ => ?_)
  obtain ⟨rfl, rfl⟩ := some_pair h
  exact k_vret S hr hlocks hP hS dX0_clear_22
def f_X0_become (σ : SX) (b : Nat) (b1 : Nat) : Option (Unit × SX) := ob2 (f_X0_putStove (sF (sF (sF σ b 0 (gF σ b1 0)) b 1 (gF (sF σ b 0 (gF σ b1 0)) b1 1)) b 2 (gF (sF (sF σ b 0 (gF σ b1 0)) b 1 (gF (sF σ b 0 (gF σ b1 0)) b1 1)) b1 2)) b (gF (sF (sF (sF σ b 0 (gF σ b1 0)) b 1 (gF (sF σ b 0 (gF σ b1 0)) b1 1)) b 2 (gF (sF (sF σ b 0 (gF σ b1 0)) b 1 (gF (sF σ b 0 (gF σ b1 0)) b1 1)) b1 2)) b1 3) (gF (sF (sF (sF σ b 0 (gF σ b1 0)) b 1 (gF (sF σ b 0 (gF σ b1 0)) b1 1)) b 2 (gF (sF (sF σ b 0 (gF σ b1 0)) b 1 (gF (sF σ b 0 (gF σ b1 0)) b1 1)) b1 2)) b1 4)) (fun r_33 s_33 => oif (okCpy (0 : Int32) (0 : Int32) (6 : Int32) 6 6) (oif (okCpy (0 : Int32) (0 : Int32) (4 : Int32) 4 4) (oif (okCpy (0 : Int32) (0 : Int32) (4 : Int32) 4 4) (oif (okCpy (0 : Int32) (0 : Int32) (6 : Int32) 6 6) (oif (okCpy (0 : Int32) (0 : Int32) (6 : Int32) 6 6) (oif (okCpy (0 : Int32) (0 : Int32) (6 : Int32) 6 6) (some ((), sR (sR (sR (sR (sR (sR s_33 (b + 1) (va_cpy (gR s_33 (b1 + 1)) (gR s_33 (b + 1)) (0 : Int32).toNatClampNeg (0 : Int32).toNatClampNeg (6 : Int32).toNatClampNeg)) (b + 2) (va_cpy (gR (sR s_33 (b + 1) (va_cpy (gR s_33 (b1 + 1)) (gR s_33 (b + 1)) (0 : Int32).toNatClampNeg (0 : Int32).toNatClampNeg (6 : Int32).toNatClampNeg)) (b1 + 2)) (gR (sR s_33 (b + 1) (va_cpy (gR s_33 (b1 + 1)) (gR s_33 (b + 1)) (0 : Int32).toNatClampNeg (0 : Int32).toNatClampNeg (6 : Int32).toNatClampNeg)) (b + 2)) (0 : Int32).toNatClampNeg (0 : Int32).toNatClampNeg (4 : Int32).toNatClampNeg)) (b + 3) (va_cpy (gR (sR (sR s_33 (b + 1) (va_cpy (gR s_33 (b1 + 1)) (gR s_33 (b + 1)) (0 : Int32).toNatClampNeg (0 : Int32).toNatClampNeg (6 : Int32).toNatClampNeg)) (b + 2) (va_cpy (gR (sR s_33 (b + 1) (va_cpy (gR s_33 (b1 + 1)) (gR s_33 (b + 1)) (0 : Int32).toNatClampNeg (0 : Int32).toNatClampNeg (6 : Int32).toNatClampNeg)) (b1 + 2)) (gR (sR s_33 (b + 1) (va_cpy (gR s_33 (b1 + 1)) (gR s_33 (b + 1)) (0 : Int32).toNatClampNeg (0 : Int32).toNatClampNeg (6 : Int32).toNatClampNeg)) (b + 2)) (0 : Int32).toNatClampNeg (0 : Int32).toNatClampNeg (4 : Int32).toNatClampNeg)) (b1 + 3)) (gR (sR (sR s_33 (b + 1) (va_cpy (gR s_33 (b1 + 1)) (gR s_33 (b + 1)) (0 : Int32).toNatClampNeg (0 : Int32).toNatClampNeg (6 : Int32).toNatClampNeg)) (b + 2) (va_cpy (gR (sR s_33 (b + 1) (va_cpy (gR s_33 (b1 + 1)) (gR s_33 (b + 1)) (0 : Int32).toNatClampNeg (0 : Int32).toNatClampNeg (6 : Int32).toNatClampNeg)) (b1 + 2)) (gR (sR s_33 (b + 1) (va_cpy (gR s_33 (b1 + 1)) (gR s_33 (b + 1)) (0 : Int32).toNatClampNeg (0 : Int32).toNatClampNeg (6 : Int32).toNatClampNeg)) (b + 2)) (0 : Int32).toNatClampNeg (0 : Int32).toNatClampNeg (4 : Int32).toNatClampNeg)) (b + 3)) (0 : Int32).toNatClampNeg (0 : Int32).toNatClampNeg (4 : Int32).toNatClampNeg)) (b + 4) (va_cpy (gR (sR (sR (sR s_33 (b + 1) (va_cpy (gR s_33 (b1 + 1)) (gR s_33 (b + 1)) (0 : Int32).toNatClampNeg (0 : Int32).toNatClampNeg (6 : Int32).toNatClampNeg)) (b + 2) (va_cpy (gR (sR s_33 (b + 1) (va_cpy (gR s_33 (b1 + 1)) (gR s_33 (b + 1)) (0 : Int32).toNatClampNeg (0 : Int32).toNatClampNeg (6 : Int32).toNatClampNeg)) (b1 + 2)) (gR (sR s_33 (b + 1) (va_cpy (gR s_33 (b1 + 1)) (gR s_33 (b + 1)) (0 : Int32).toNatClampNeg (0 : Int32).toNatClampNeg (6 : Int32).toNatClampNeg)) (b + 2)) (0 : Int32).toNatClampNeg (0 : Int32).toNatClampNeg (4 : Int32).toNatClampNeg)) (b + 3) (va_cpy (gR (sR (sR s_33 (b + 1) (va_cpy (gR s_33 (b1 + 1)) (gR s_33 (b + 1)) (0 : Int32).toNatClampNeg (0 : Int32).toNatClampNeg (6 : Int32).toNatClampNeg)) (b + 2) (va_cpy (gR (sR s_33 (b + 1) (va_cpy (gR s_33 (b1 + 1)) (gR s_33 (b + 1)) (0 : Int32).toNatClampNeg (0 : Int32).toNatClampNeg (6 : Int32).toNatClampNeg)) (b1 + 2)) (gR (sR s_33 (b + 1) (va_cpy (gR s_33 (b1 + 1)) (gR s_33 (b + 1)) (0 : Int32).toNatClampNeg (0 : Int32).toNatClampNeg (6 : Int32).toNatClampNeg)) (b + 2)) (0 : Int32).toNatClampNeg (0 : Int32).toNatClampNeg (4 : Int32).toNatClampNeg)) (b1 + 3)) (gR (sR (sR s_33 (b + 1) (va_cpy (gR s_33 (b1 + 1)) (gR s_33 (b + 1)) (0 : Int32).toNatClampNeg (0 : Int32).toNatClampNeg (6 : Int32).toNatClampNeg)) (b + 2) (va_cpy (gR (sR s_33 (b + 1) (va_cpy (gR s_33 (b1 + 1)) (gR s_33 (b + 1)) (0 : Int32).toNatClampNeg (0 : Int32).toNatClampNeg (6 : Int32).toNatClampNeg)) (b1 + 2)) (gR (sR s_33 (b + 1) (va_cpy (gR s_33 (b1 + 1)) (gR s_33 (b + 1)) (0 : Int32).toNatClampNeg (0 : Int32).toNatClampNeg (6 : Int32).toNatClampNeg)) (b + 2)) (0 : Int32).toNatClampNeg (0 : Int32).toNatClampNeg (4 : Int32).toNatClampNeg)) (b + 3)) (0 : Int32).toNatClampNeg (0 : Int32).toNatClampNeg (4 : Int32).toNatClampNeg)) (b1 + 4)) (gR (sR (sR (sR s_33 (b + 1) (va_cpy (gR s_33 (b1 + 1)) (gR s_33 (b + 1)) (0 : Int32).toNatClampNeg (0 : Int32).toNatClampNeg (6 : Int32).toNatClampNeg)) (b + 2) (va_cpy (gR (sR s_33 (b + 1) (va_cpy (gR s_33 (b1 + 1)) (gR s_33 (b + 1)) (0 : Int32).toNatClampNeg (0 : Int32).toNatClampNeg (6 : Int32).toNatClampNeg)) (b1 + 2)) (gR (sR s_33 (b + 1) (va_cpy (gR s_33 (b1 + 1)) (gR s_33 (b + 1)) (0 : Int32).toNatClampNeg (0 : Int32).toNatClampNeg (6 : Int32).toNatClampNeg)) (b + 2)) (0 : Int32).toNatClampNeg (0 : Int32).toNatClampNeg (4 : Int32).toNatClampNeg)) (b + 3) (va_cpy (gR (sR (sR s_33 (b + 1) (va_cpy (gR s_33 (b1 + 1)) (gR s_33 (b + 1)) (0 : Int32).toNatClampNeg (0 : Int32).toNatClampNeg (6 : Int32).toNatClampNeg)) (b + 2) (va_cpy (gR (sR s_33 (b + 1) (va_cpy (gR s_33 (b1 + 1)) (gR s_33 (b + 1)) (0 : Int32).toNatClampNeg (0 : Int32).toNatClampNeg (6 : Int32).toNatClampNeg)) (b1 + 2)) (gR (sR s_33 (b + 1) (va_cpy (gR s_33 (b1 + 1)) (gR s_33 (b + 1)) (0 : Int32).toNatClampNeg (0 : Int32).toNatClampNeg (6 : Int32).toNatClampNeg)) (b + 2)) (0 : Int32).toNatClampNeg (0 : Int32).toNatClampNeg (4 : Int32).toNatClampNeg)) (b1 + 3)) (gR (sR (sR s_33 (b + 1) (va_cpy (gR s_33 (b1 + 1)) (gR s_33 (b + 1)) (0 : Int32).toNatClampNeg (0 : Int32).toNatClampNeg (6 : Int32).toNatClampNeg)) (b + 2) (va_cpy (gR (sR s_33 (b + 1) (va_cpy (gR s_33 (b1 + 1)) (gR s_33 (b + 1)) (0 : Int32).toNatClampNeg (0 : Int32).toNatClampNeg (6 : Int32).toNatClampNeg)) (b1 + 2)) (gR (sR s_33 (b + 1) (va_cpy (gR s_33 (b1 + 1)) (gR s_33 (b + 1)) (0 : Int32).toNatClampNeg (0 : Int32).toNatClampNeg (6 : Int32).toNatClampNeg)) (b + 2)) (0 : Int32).toNatClampNeg (0 : Int32).toNatClampNeg (4 : Int32).toNatClampNeg)) (b + 3)) (0 : Int32).toNatClampNeg (0 : Int32).toNatClampNeg (4 : Int32).toNatClampNeg)) (b + 4)) (0 : Int32).toNatClampNeg (0 : Int32).toNatClampNeg (6 : Int32).toNatClampNeg)) (b + 5) (va_cpy (gR (sR (sR (sR (sR s_33 (b + 1) (va_cpy (gR s_33 (b1 + 1)) (gR s_33 (b + 1)) (0 : Int32).toNatClampNeg (0 : Int32).toNatClampNeg (6 : Int32).toNatClampNeg)) (b + 2) (va_cpy (gR (sR s_33 (b + 1) (va_cpy (gR s_33 (b1 + 1)) (gR s_33 (b + 1)) (0 : Int32).toNatClampNeg (0 : Int32).toNatClampNeg (6 : Int32).toNatClampNeg)) (b1 + 2)) (gR (sR s_33 (b + 1) (va_cpy (gR s_33 (b1 + 1)) (gR s_33 (b + 1)) (0 : Int32).toNatClampNeg (0 : Int32).toNatClampNeg (6 : Int32).toNatClampNeg)) (b + 2)) (0 : Int32).toNatClampNeg (0 : Int32).toNatClampNeg (4 : Int32).toNatClampNeg)) (b + 3) (va_cpy (gR (sR (sR s_33 (b + 1) (va_cpy (gR s_33 (b1 + 1)) (gR s_33 (b + 1)) (0 : Int32).toNatClampNeg (0 : Int32).toNatClampNeg (6 : Int32).toNatClampNeg)) (b + 2) (va_cpy (gR (sR s_33 (b + 1) (va_cpy (gR s_33 (b1 + 1)) (gR s_33 (b + 1)) (0 : Int32).toNatClampNeg (0 : Int32).toNatClampNeg (6 : Int32).toNatClampNeg)) (b1 + 2)) (gR (sR s_33 (b + 1) (va_cpy (gR s_33 (b1 + 1)) (gR s_33 (b + 1)) (0 : Int32).toNatClampNeg (0 : Int32).toNatClampNeg (6 : Int32).toNatClampNeg)) (b + 2)) (0 : Int32).toNatClampNeg (0 : Int32).toNatClampNeg (4 : Int32).toNatClampNeg)) (b1 + 3)) (gR (sR (sR s_33 (b + 1) (va_cpy (gR s_33 (b1 + 1)) (gR s_33 (b + 1)) (0 : Int32).toNatClampNeg (0 : Int32).toNatClampNeg (6 : Int32).toNatClampNeg)) (b + 2) (va_cpy (gR (sR s_33 (b + 1) (va_cpy (gR s_33 (b1 + 1)) (gR s_33 (b + 1)) (0 : Int32).toNatClampNeg (0 : Int32).toNatClampNeg (6 : Int32).toNatClampNeg)) (b1 + 2)) (gR (sR s_33 (b + 1) (va_cpy (gR s_33 (b1 + 1)) (gR s_33 (b + 1)) (0 : Int32).toNatClampNeg (0 : Int32).toNatClampNeg (6 : Int32).toNatClampNeg)) (b + 2)) (0 : Int32).toNatClampNeg (0 : Int32).toNatClampNeg (4 : Int32).toNatClampNeg)) (b + 3)) (0 : Int32).toNatClampNeg (0 : Int32).toNatClampNeg (4 : Int32).toNatClampNeg)) (b + 4) (va_cpy (gR (sR (sR (sR s_33 (b + 1) (va_cpy (gR s_33 (b1 + 1)) (gR s_33 (b + 1)) (0 : Int32).toNatClampNeg (0 : Int32).toNatClampNeg (6 : Int32).toNatClampNeg)) (b + 2) (va_cpy (gR (sR s_33 (b + 1) (va_cpy (gR s_33 (b1 + 1)) (gR s_33 (b + 1)) (0 : Int32).toNatClampNeg (0 : Int32).toNatClampNeg (6 : Int32).toNatClampNeg)) (b1 + 2)) (gR (sR s_33 (b + 1) (va_cpy (gR s_33 (b1 + 1)) (gR s_33 (b + 1)) (0 : Int32).toNatClampNeg (0 : Int32).toNatClampNeg (6 : Int32).toNatClampNeg)) (b + 2)) (0 : Int32).toNatClampNeg (0 : Int32).toNatClampNeg (4 : Int32).toNatClampNeg)) (b + 3) (va_cpy (gR (sR (sR s_33 (b + 1) (va_cpy (gR s_33 (b1 + 1)) (gR s_33 (b + 1)) (0 : Int32).toNatClampNeg (0 : Int32).toNatClampNeg (6 : Int32).toNatClampNeg)) (b + 2) (va_cpy (gR (sR s_33 (b + 1) (va_cpy (gR s_33 (b1 + 1)) (gR s_33 (b + 1)) (0 : Int32).toNatClampNeg (0 : Int32).toNatClampNeg (6 : Int32).toNatClampNeg)) (b1 + 2)) (gR (sR s_33 (b + 1) (va_cpy (gR s_33 (b1 + 1)) (gR s_33 (b + 1)) (0 : Int32).toNatClampNeg (0 : Int32).toNatClampNeg (6 : Int32).toNatClampNeg)) (b + 2)) (0 : Int32).toNatClampNeg (0 : Int32).toNatClampNeg (4 : Int32).toNatClampNeg)) (b1 + 3)) (gR (sR (sR s_33 (b + 1) (va_cpy (gR s_33 (b1 + 1)) (gR s_33 (b + 1)) (0 : Int32).toNatClampNeg (0 : Int32).toNatClampNeg (6 : Int32).toNatClampNeg)) (b + 2) (va_cpy (gR (sR s_33 (b + 1) (va_cpy (gR s_33 (b1 + 1)) (gR s_33 (b + 1)) (0 : Int32).toNatClampNeg (0 : Int32).toNatClampNeg (6 : Int32).toNatClampNeg)) (b1 + 2)) (gR (sR s_33 (b + 1) (va_cpy (gR s_33 (b1 + 1)) (gR s_33 (b + 1)) (0 : Int32).toNatClampNeg (0 : Int32).toNatClampNeg (6 : Int32).toNatClampNeg)) (b + 2)) (0 : Int32).toNatClampNeg (0 : Int32).toNatClampNeg (4 : Int32).toNatClampNeg)) (b + 3)) (0 : Int32).toNatClampNeg (0 : Int32).toNatClampNeg (4 : Int32).toNatClampNeg)) (b1 + 4)) (gR (sR (sR (sR s_33 (b + 1) (va_cpy (gR s_33 (b1 + 1)) (gR s_33 (b + 1)) (0 : Int32).toNatClampNeg (0 : Int32).toNatClampNeg (6 : Int32).toNatClampNeg)) (b + 2) (va_cpy (gR (sR s_33 (b + 1) (va_cpy (gR s_33 (b1 + 1)) (gR s_33 (b + 1)) (0 : Int32).toNatClampNeg (0 : Int32).toNatClampNeg (6 : Int32).toNatClampNeg)) (b1 + 2)) (gR (sR s_33 (b + 1) (va_cpy (gR s_33 (b1 + 1)) (gR s_33 (b + 1)) (0 : Int32).toNatClampNeg (0 : Int32).toNatClampNeg (6 : Int32).toNatClampNeg)) (b + 2)) (0 : Int32).toNatClampNeg (0 : Int32).toNatClampNeg (4 : Int32).toNatClampNeg)) (b + 3) (va_cpy (gR (sR (sR s_33 (b + 1) (va_cpy (gR s_33 (b1 + 1)) (gR s_33 (b + 1)) (0 : Int32).toNatClampNeg (0 : Int32).toNatClampNeg (6 : Int32).toNatClampNeg)) (b + 2) (va_cpy (gR (sR s_33 (b + 1) (va_cpy (gR s_33 (b1 + 1)) (gR s_33 (b + 1)) (0 : Int32).toNatClampNeg (0 : Int32).toNatClampNeg (6 : Int32).toNatClampNeg)) (b1 + 2)) (gR (sR s_33 (b + 1) (va_cpy (gR s_33 (b1 + 1)) (gR s_33 (b + 1)) (0 : Int32).toNatClampNeg (0 : Int32).toNatClampNeg (6 : Int32).toNatClampNeg)) (b + 2)) (0 : Int32).toNatClampNeg (0 : Int32).toNatClampNeg (4 : Int32).toNatClampNeg)) (b1 + 3)) (gR (sR (sR s_33 (b + 1) (va_cpy (gR s_33 (b1 + 1)) (gR s_33 (b + 1)) (0 : Int32).toNatClampNeg (0 : Int32).toNatClampNeg (6 : Int32).toNatClampNeg)) (b + 2) (va_cpy (gR (sR s_33 (b + 1) (va_cpy (gR s_33 (b1 + 1)) (gR s_33 (b + 1)) (0 : Int32).toNatClampNeg (0 : Int32).toNatClampNeg (6 : Int32).toNatClampNeg)) (b1 + 2)) (gR (sR s_33 (b + 1) (va_cpy (gR s_33 (b1 + 1)) (gR s_33 (b + 1)) (0 : Int32).toNatClampNeg (0 : Int32).toNatClampNeg (6 : Int32).toNatClampNeg)) (b + 2)) (0 : Int32).toNatClampNeg (0 : Int32).toNatClampNeg (4 : Int32).toNatClampNeg)) (b + 3)) (0 : Int32).toNatClampNeg (0 : Int32).toNatClampNeg (4 : Int32).toNatClampNeg)) (b + 4)) (0 : Int32).toNatClampNeg (0 : Int32).toNatClampNeg (6 : Int32).toNatClampNeg)) (b1 + 5)) (gR (sR (sR (sR (sR s_33 (b + 1) (va_cpy (gR s_33 (b1 + 1)) (gR s_33 (b + 1)) (0 : Int32).toNatClampNeg (0 : Int32).toNatClampNeg (6 : Int32).toNatClampNeg)) (b + 2) (va_cpy (gR (sR s_33 (b + 1) (va_cpy (gR s_33 (b1 + 1)) (gR s_33 (b + 1)) (0 : Int32).toNatClampNeg (0 : Int32).toNatClampNeg (6 : Int32).toNatClampNeg)) (b1 + 2)) (gR (sR s_33 (b + 1) (va_cpy (gR s_33 (b1 + 1)) (gR s_33 (b + 1)) (0 : Int32).toNatClampNeg (0 : Int32).toNatClampNeg (6 : Int32).toNatClampNeg)) (b + 2)) (0 : Int32).toNatClampNeg (0 : Int32).toNatClampNeg (4 : Int32).toNatClampNeg)) (b + 3) (va_cpy (gR (sR (sR s_33 (b + 1) (va_cpy (gR s_33 (b1 + 1)) (gR s_33 (b + 1)) (0 : Int32).toNatClampNeg (0 : Int32).toNatClampNeg (6 : Int32).toNatClampNeg)) (b + 2) (va_cpy (gR (sR s_33 (b + 1) (va_cpy (gR s_33 (b1 + 1)) (gR s_33 (b + 1)) (0 : Int32).toNatClampNeg (0 : Int32).toNatClampNeg (6 : Int32).toNatClampNeg)) (b1 + 2)) (gR (sR s_33 (b + 1) (va_cpy (gR s_33 (b1 + 1)) (gR s_33 (b + 1)) (0 : Int32).toNatClampNeg (0 : Int32).toNatClampNeg (6 : Int32).toNatClampNeg)) (b + 2)) (0 : Int32).toNatClampNeg (0 : Int32).toNatClampNeg (4 : Int32).toNatClampNeg)) (b1 + 3)) (gR (sR (sR s_33 (b + 1) (va_cpy (gR s_33 (b1 + 1)) (gR s_33 (b + 1)) (0 : Int32).toNatClampNeg (0 : Int32).toNatClampNeg (6 : Int32).toNatClampNeg)) (b + 2) (va_cpy (gR (sR s_33 (b + 1) (va_cpy (gR s_33 (b1 + 1)) (gR s_33 (b + 1)) (0 : Int32).toNatClampNeg (0 : Int32).toNatClampNeg (6 : Int32).toNatClampNeg)) (b1 + 2)) (gR (sR s_33 (b + 1) (va_cpy (gR s_33 (b1 + 1)) (gR s_33 (b + 1)) (0 : Int32).toNatClampNeg (0 : Int32).toNatClampNeg (6 : Int32).toNatClampNeg)) (b + 2)) (0 : Int32).toNatClampNeg (0 : Int32).toNatClampNeg (4 : Int32).toNatClampNeg)) (b + 3)) (0 : Int32).toNatClampNeg (0 : Int32).toNatClampNeg (4 : Int32).toNatClampNeg)) (b + 4) (va_cpy (gR (sR (sR (sR s_33 (b + 1) (va_cpy (gR s_33 (b1 + 1)) (gR s_33 (b + 1)) (0 : Int32).toNatClampNeg (0 : Int32).toNatClampNeg (6 : Int32).toNatClampNeg)) (b + 2) (va_cpy (gR (sR s_33 (b + 1) (va_cpy (gR s_33 (b1 + 1)) (gR s_33 (b + 1)) (0 : Int32).toNatClampNeg (0 : Int32).toNatClampNeg (6 : Int32).toNatClampNeg)) (b1 + 2)) (gR (sR s_33 (b + 1) (va_cpy (gR s_33 (b1 + 1)) (gR s_33 (b + 1)) (0 : Int32).toNatClampNeg (0 : Int32).toNatClampNeg (6 : Int32).toNatClampNeg)) (b + 2)) (0 : Int32).toNatClampNeg (0 : Int32).toNatClampNeg (4 : Int32).toNatClampNeg)) (b + 3) (va_cpy (gR (sR (sR s_33 (b + 1) (va_cpy (gR s_33 (b1 + 1)) (gR s_33 (b + 1)) (0 : Int32).toNatClampNeg (0 : Int32).toNatClampNeg (6 : Int32).toNatClampNeg)) (b + 2) (va_cpy (gR (sR s_33 (b + 1) (va_cpy (gR s_33 (b1 + 1)) (gR s_33 (b + 1)) (0 : Int32).toNatClampNeg (0 : Int32).toNatClampNeg (6 : Int32).toNatClampNeg)) (b1 + 2)) (gR (sR s_33 (b + 1) (va_cpy (gR s_33 (b1 + 1)) (gR s_33 (b + 1)) (0 : Int32).toNatClampNeg (0 : Int32).toNatClampNeg (6 : Int32).toNatClampNeg)) (b + 2)) (0 : Int32).toNatClampNeg (0 : Int32).toNatClampNeg (4 : Int32).toNatClampNeg)) (b1 + 3)) (gR (sR (sR s_33 (b + 1) (va_cpy (gR s_33 (b1 + 1)) (gR s_33 (b + 1)) (0 : Int32).toNatClampNeg (0 : Int32).toNatClampNeg (6 : Int32).toNatClampNeg)) (b + 2) (va_cpy (gR (sR s_33 (b + 1) (va_cpy (gR s_33 (b1 + 1)) (gR s_33 (b + 1)) (0 : Int32).toNatClampNeg (0 : Int32).toNatClampNeg (6 : Int32).toNatClampNeg)) (b1 + 2)) (gR (sR s_33 (b + 1) (va_cpy (gR s_33 (b1 + 1)) (gR s_33 (b + 1)) (0 : Int32).toNatClampNeg (0 : Int32).toNatClampNeg (6 : Int32).toNatClampNeg)) (b + 2)) (0 : Int32).toNatClampNeg (0 : Int32).toNatClampNeg (4 : Int32).toNatClampNeg)) (b + 3)) (0 : Int32).toNatClampNeg (0 : Int32).toNatClampNeg (4 : Int32).toNatClampNeg)) (b1 + 4)) (gR (sR (sR (sR s_33 (b + 1) (va_cpy (gR s_33 (b1 + 1)) (gR s_33 (b + 1)) (0 : Int32).toNatClampNeg (0 : Int32).toNatClampNeg (6 : Int32).toNatClampNeg)) (b + 2) (va_cpy (gR (sR s_33 (b + 1) (va_cpy (gR s_33 (b1 + 1)) (gR s_33 (b + 1)) (0 : Int32).toNatClampNeg (0 : Int32).toNatClampNeg (6 : Int32).toNatClampNeg)) (b1 + 2)) (gR (sR s_33 (b + 1) (va_cpy (gR s_33 (b1 + 1)) (gR s_33 (b + 1)) (0 : Int32).toNatClampNeg (0 : Int32).toNatClampNeg (6 : Int32).toNatClampNeg)) (b + 2)) (0 : Int32).toNatClampNeg (0 : Int32).toNatClampNeg (4 : Int32).toNatClampNeg)) (b + 3) (va_cpy (gR (sR (sR s_33 (b + 1) (va_cpy (gR s_33 (b1 + 1)) (gR s_33 (b + 1)) (0 : Int32).toNatClampNeg (0 : Int32).toNatClampNeg (6 : Int32).toNatClampNeg)) (b + 2) (va_cpy (gR (sR s_33 (b + 1) (va_cpy (gR s_33 (b1 + 1)) (gR s_33 (b + 1)) (0 : Int32).toNatClampNeg (0 : Int32).toNatClampNeg (6 : Int32).toNatClampNeg)) (b1 + 2)) (gR (sR s_33 (b + 1) (va_cpy (gR s_33 (b1 + 1)) (gR s_33 (b + 1)) (0 : Int32).toNatClampNeg (0 : Int32).toNatClampNeg (6 : Int32).toNatClampNeg)) (b + 2)) (0 : Int32).toNatClampNeg (0 : Int32).toNatClampNeg (4 : Int32).toNatClampNeg)) (b1 + 3)) (gR (sR (sR s_33 (b + 1) (va_cpy (gR s_33 (b1 + 1)) (gR s_33 (b + 1)) (0 : Int32).toNatClampNeg (0 : Int32).toNatClampNeg (6 : Int32).toNatClampNeg)) (b + 2) (va_cpy (gR (sR s_33 (b + 1) (va_cpy (gR s_33 (b1 + 1)) (gR s_33 (b + 1)) (0 : Int32).toNatClampNeg (0 : Int32).toNatClampNeg (6 : Int32).toNatClampNeg)) (b1 + 2)) (gR (sR s_33 (b + 1) (va_cpy (gR s_33 (b1 + 1)) (gR s_33 (b + 1)) (0 : Int32).toNatClampNeg (0 : Int32).toNatClampNeg (6 : Int32).toNatClampNeg)) (b + 2)) (0 : Int32).toNatClampNeg (0 : Int32).toNatClampNeg (4 : Int32).toNatClampNeg)) (b + 3)) (0 : Int32).toNatClampNeg (0 : Int32).toNatClampNeg (4 : Int32).toNatClampNeg)) (b + 4)) (0 : Int32).toNatClampNeg (0 : Int32).toNatClampNeg (6 : Int32).toNatClampNeg)) (b + 5)) (0 : Int32).toNatClampNeg (0 : Int32).toNatClampNeg (6 : Int32).toNatClampNeg)) (b + 6) (va_cpy (gR (sR (sR (sR (sR (sR s_33 (b + 1) (va_cpy (gR s_33 (b1 + 1)) (gR s_33 (b + 1)) (0 : Int32).toNatClampNeg (0 : Int32).toNatClampNeg (6 : Int32).toNatClampNeg)) (b + 2) (va_cpy (gR (sR s_33 (b + 1) (va_cpy (gR s_33 (b1 + 1)) (gR s_33 (b + 1)) (0 : Int32).toNatClampNeg (0 : Int32).toNatClampNeg (6 : Int32).toNatClampNeg)) (b1 + 2)) (gR (sR s_33 (b + 1) (va_cpy (gR s_33 (b1 + 1)) (gR s_33 (b + 1)) (0 : Int32).toNatClampNeg (0 : Int32).toNatClampNeg (6 : Int32).toNatClampNeg)) (b + 2)) (0 : Int32).toNatClampNeg (0 : Int32).toNatClampNeg (4 : Int32).toNatClampNeg)) (b + 3) (va_cpy (gR (sR (sR s_33 (b + 1) (va_cpy (gR s_33 (b1 + 1)) (gR s_33 (b + 1)) (0 : Int32).toNatClampNeg (0 : Int32).toNatClampNeg (6 : Int32).toNatClampNeg)) (b + 2) (va_cpy (gR (sR s_33 (b + 1) (va_cpy (gR s_33 (b1 + 1)) (gR s_33 (b + 1)) (0 : Int32).toNatClampNeg (0 : Int32).toNatClampNeg (6 : Int32).toNatClampNeg)) (b1 + 2)) (gR (sR s_33 (b + 1) (va_cpy (gR s_33 (b1 + 1)) (gR s_33 (b + 1)) (0 : Int32).toNatClampNeg (0 : Int32).toNatClampNeg (6 : Int32).toNatClampNeg)) (b + 2)) (0 : Int32).toNatClampNeg (0 : Int32).toNatClampNeg (4 : Int32).toNatClampNeg)) (b1 + 3)) (gR (sR (sR s_33 (b + 1) (va_cpy (gR s_33 (b1 + 1)) (gR s_33 (b + 1)) (0 : Int32).toNatClampNeg (0 : Int32).toNatClampNeg (6 : Int32).toNatClampNeg)) (b + 2) (va_cpy (gR (sR s_33 (b + 1) (va_cpy (gR s_33 (b1 + 1)) (gR s_33 (b + 1)) (0 : Int32).toNatClampNeg (0 : Int32).toNatClampNeg (6 : Int32).toNatClampNeg)) (b1 + 2)) (gR (sR s_33 (b + 1) (va_cpy (gR s_33 (b1 + 1)) (gR s_33 (b + 1)) (0 : Int32).toNatClampNeg (0 : Int32).toNatClampNeg (6 : Int32).toNatClampNeg)) (b + 2)) (0 : Int32).toNatClampNeg (0 : Int32).toNatClampNeg (4 : Int32).toNatClampNeg)) (b + 3)) (0 : Int32).toNatClampNeg (0 : Int32).toNatClampNeg (4 : Int32).toNatClampNeg)) (b + 4) (va_cpy (gR (sR (sR (sR s_33 (b + 1) (va_cpy (gR s_33 (b1 + 1)) (gR s_33 (b + 1)) (0 : Int32).toNatClampNeg (0 : Int32).toNatClampNeg (6 : Int32).toNatClampNeg)) (b + 2) (va_cpy (gR (sR s_33 (b + 1) (va_cpy (gR s_33 (b1 + 1)) (gR s_33 (b + 1)) (0 : Int32).toNatClampNeg (0 : Int32).toNatClampNeg (6 : Int32).toNatClampNeg)) (b1 + 2)) (gR (sR s_33 (b + 1) (va_cpy (gR s_33 (b1 + 1)) (gR s_33 (b + 1)) (0 : Int32).toNatClampNeg (0 : Int32).toNatClampNeg (6 : Int32).toNatClampNeg)) (b + 2)) (0 : Int32).toNatClampNeg (0 : Int32).toNatClampNeg (4 : Int32).toNatClampNeg)) (b + 3) (va_cpy (gR (sR (sR s_33 (b + 1) (va_cpy (gR s_33 (b1 + 1)) (gR s_33 (b + 1)) (0 : Int32).toNatClampNeg (0 : Int32).toNatClampNeg (6 : Int32).toNatClampNeg)) (b + 2) (va_cpy (gR (sR s_33 (b + 1) (va_cpy (gR s_33 (b1 + 1)) (gR s_33 (b + 1)) (0 : Int32).toNatClampNeg (0 : Int32).toNatClampNeg (6 : Int32).toNatClampNeg)) (b1 + 2)) (gR (sR s_33 (b + 1) (va_cpy (gR s_33 (b1 + 1)) (gR s_33 (b + 1)) (0 : Int32).toNatClampNeg (0 : Int32).toNatClampNeg (6 : Int32).toNatClampNeg)) (b + 2)) (0 : Int32).toNatClampNeg (0 : Int32).toNatClampNeg (4 : Int32).toNatClampNeg)) (b1 + 3)) (gR (sR (sR s_33 (b + 1) (va_cpy (gR s_33 (b1 + 1)) (gR s_33 (b + 1)) (0 : Int32).toNatClampNeg (0 : Int32).toNatClampNeg (6 : Int32).toNatClampNeg)) (b + 2) (va_cpy (gR (sR s_33 (b + 1) (va_cpy (gR s_33 (b1 + 1)) (gR s_33 (b + 1)) (0 : Int32).toNatClampNeg (0 : Int32).toNatClampNeg (6 : Int32).toNatClampNeg)) (b1 + 2)) (gR (sR s_33 (b + 1) (va_cpy (gR s_33 (b1 + 1)) (gR s_33 (b + 1)) (0 : Int32).toNatClampNeg (0 : Int32).toNatClampNeg (6 : Int32).toNatClampNeg)) (b + 2)) (0 : Int32).toNatClampNeg (0 : Int32).toNatClampNeg (4 : Int32).toNatClampNeg)) (b + 3)) (0 : Int32).toNatClampNeg (0 : Int32).toNatClampNeg (4 : Int32).toNatClampNeg)) (b1 + 4)) (gR (sR (sR (sR s_33 (b + 1) (va_cpy (gR s_33 (b1 + 1)) (gR s_33 (b + 1)) (0 : Int32).toNatClampNeg (0 : Int32).toNatClampNeg (6 : Int32).toNatClampNeg)) (b + 2) (va_cpy (gR (sR s_33 (b + 1) (va_cpy (gR s_33 (b1 + 1)) (gR s_33 (b + 1)) (0 : Int32).toNatClampNeg (0 : Int32).toNatClampNeg (6 : Int32).toNatClampNeg)) (b1 + 2)) (gR (sR s_33 (b + 1) (va_cpy (gR s_33 (b1 + 1)) (gR s_33 (b + 1)) (0 : Int32).toNatClampNeg (0 : Int32).toNatClampNeg (6 : Int32).toNatClampNeg)) (b + 2)) (0 : Int32).toNatClampNeg (0 : Int32).toNatClampNeg (4 : Int32).toNatClampNeg)) (b + 3) (va_cpy (gR (sR (sR s_33 (b + 1) (va_cpy (gR s_33 (b1 + 1)) (gR s_33 (b + 1)) (0 : Int32).toNatClampNeg (0 : Int32).toNatClampNeg (6 : Int32).toNatClampNeg)) (b + 2) (va_cpy (gR (sR s_33 (b + 1) (va_cpy (gR s_33 (b1 + 1)) (gR s_33 (b + 1)) (0 : Int32).toNatClampNeg (0 : Int32).toNatClampNeg (6 : Int32).toNatClampNeg)) (b1 + 2)) (gR (sR s_33 (b + 1) (va_cpy (gR s_33 (b1 + 1)) (gR s_33 (b + 1)) (0 : Int32).toNatClampNeg (0 : Int32).toNatClampNeg (6 : Int32).toNatClampNeg)) (b + 2)) (0 : Int32).toNatClampNeg (0 : Int32).toNatClampNeg (4 : Int32).toNatClampNeg)) (b1 + 3)) (gR (sR (sR s_33 (b + 1) (va_cpy (gR s_33 (b1 + 1)) (gR s_33 (b + 1)) (0 : Int32).toNatClampNeg (0 : Int32).toNatClampNeg (6 : Int32).toNatClampNeg)) (b + 2) (va_cpy (gR (sR s_33 (b + 1) (va_cpy (gR s_33 (b1 + 1)) (gR s_33 (b + 1)) (0 : Int32).toNatClampNeg (0 : Int32).toNatClampNeg (6 : Int32).toNatClampNeg)) (b1 + 2)) (gR (sR s_33 (b + 1) (va_cpy (gR s_33 (b1 + 1)) (gR s_33 (b + 1)) (0 : Int32).toNatClampNeg (0 : Int32).toNatClampNeg (6 : Int32).toNatClampNeg)) (b + 2)) (0 : Int32).toNatClampNeg (0 : Int32).toNatClampNeg (4 : Int32).toNatClampNeg)) (b + 3)) (0 : Int32).toNatClampNeg (0 : Int32).toNatClampNeg (4 : Int32).toNatClampNeg)) (b + 4)) (0 : Int32).toNatClampNeg (0 : Int32).toNatClampNeg (6 : Int32).toNatClampNeg)) (b + 5) (va_cpy (gR (sR (sR (sR (sR s_33 (b + 1) (va_cpy (gR s_33 (b1 + 1)) (gR s_33 (b + 1)) (0 : Int32).toNatClampNeg (0 : Int32).toNatClampNeg (6 : Int32).toNatClampNeg)) (b + 2) (va_cpy (gR (sR s_33 (b + 1) (va_cpy (gR s_33 (b1 + 1)) (gR s_33 (b + 1)) (0 : Int32).toNatClampNeg (0 : Int32).toNatClampNeg (6 : Int32).toNatClampNeg)) (b1 + 2)) (gR (sR s_33 (b + 1) (va_cpy (gR s_33 (b1 + 1)) (gR s_33 (b + 1)) (0 : Int32).toNatClampNeg (0 : Int32).toNatClampNeg (6 : Int32).toNatClampNeg)) (b + 2)) (0 : Int32).toNatClampNeg (0 : Int32).toNatClampNeg (4 : Int32).toNatClampNeg)) (b + 3) (va_cpy (gR (sR (sR s_33 (b + 1) (va_cpy (gR s_33 (b1 + 1)) (gR s_33 (b + 1)) (0 : Int32).toNatClampNeg (0 : Int32).toNatClampNeg (6 : Int32).toNatClampNeg)) (b + 2) (va_cpy (gR (sR s_33 (b + 1) (va_cpy (gR s_33 (b1 + 1)) (gR s_33 (b + 1)) (0 : Int32).toNatClampNeg (0 : Int32).toNatClampNeg (6 : Int32).toNatClampNeg)) (b1 + 2)) (gR (sR s_33 (b + 1) (va_cpy (gR s_33 (b1 + 1)) (gR s_33 (b + 1)) (0 : Int32).toNatClampNeg (0 : Int32).toNatClampNeg (6 : Int32).toNatClampNeg)) (b + 2)) (0 : Int32).toNatClampNeg (0 : Int32).toNatClampNeg (4 : Int32).toNatClampNeg)) (b1 + 3)) (gR (sR (sR s_33 (b + 1) (va_cpy (gR s_33 (b1 + 1)) (gR s_33 (b + 1)) (0 : Int32).toNatClampNeg (0 : Int32).toNatClampNeg (6 : Int32).toNatClampNeg)) (b + 2) (va_cpy (gR (sR s_33 (b + 1) (va_cpy (gR s_33 (b1 + 1)) (gR s_33 (b + 1)) (0 : Int32).toNatClampNeg (0 : Int32).toNatClampNeg (6 : Int32).toNatClampNeg)) (b1 + 2)) (gR (sR s_33 (b + 1) (va_cpy (gR s_33 (b1 + 1)) (gR s_33 (b + 1)) (0 : Int32).toNatClampNeg (0 : Int32).toNatClampNeg (6 : Int32).toNatClampNeg)) (b + 2)) (0 : Int32).toNatClampNeg (0 : Int32).toNatClampNeg (4 : Int32).toNatClampNeg)) (b + 3)) (0 : Int32).toNatClampNeg (0 : Int32).toNatClampNeg (4 : Int32).toNatClampNeg)) (b + 4) (va_cpy (gR (sR (sR (sR s_33 (b + 1) (va_cpy (gR s_33 (b1 + 1)) (gR s_33 (b + 1)) (0 : Int32).toNatClampNeg (0 : Int32).toNatClampNeg (6 : Int32).toNatClampNeg)) (b + 2) (va_cpy (gR (sR s_33 (b + 1) (va_cpy (gR s_33 (b1 + 1)) (gR s_33 (b + 1)) (0 : Int32).toNatClampNeg (0 : Int32).toNatClampNeg (6 : Int32).toNatClampNeg)) (b1 + 2)) (gR (sR s_33 (b + 1) (va_cpy (gR s_33 (b1 + 1)) (gR s_33 (b + 1)) (0 : Int32).toNatClampNeg (0 : Int32).toNatClampNeg (6 : Int32).toNatClampNeg)) (b + 2)) (0 : Int32).toNatClampNeg (0 : Int32).toNatClampNeg (4 : Int32).toNatClampNeg)) (b + 3) (va_cpy (gR (sR (sR s_33 (b + 1) (va_cpy (gR s_33 (b1 + 1)) (gR s_33 (b + 1)) (0 : Int32).toNatClampNeg (0 : Int32).toNatClampNeg (6 : Int32).toNatClampNeg)) (b + 2) (va_cpy (gR (sR s_33 (b + 1) (va_cpy (gR s_33 (b1 + 1)) (gR s_33 (b + 1)) (0 : Int32).toNatClampNeg (0 : Int32).toNatClampNeg (6 : Int32).toNatClampNeg)) (b1 + 2)) (gR (sR s_33 (b + 1) (va_cpy (gR s_33 (b1 + 1)) (gR s_33 (b + 1)) (0 : Int32).toNatClampNeg (0 : Int32).toNatClampNeg (6 : Int32).toNatClampNeg)) (b + 2)) (0 : Int32).toNatClampNeg (0 : Int32).toNatClampNeg (4 : Int32).toNatClampNeg)) (b1 + 3)) (gR (sR (sR s_33 (b + 1) (va_cpy (gR s_33 (b1 + 1)) (gR s_33 (b + 1)) (0 : Int32).toNatClampNeg (0 : Int32).toNatClampNeg (6 : Int32).toNatClampNeg)) (b + 2) (va_cpy (gR (sR s_33 (b + 1) (va_cpy (gR s_33 (b1 + 1)) (gR s_33 (b + 1)) (0 : Int32).toNatClampNeg (0 : Int32).toNatClampNeg (6 : Int32).toNatClampNeg)) (b1 + 2)) (gR (sR s_33 (b + 1) (va_cpy (gR s_33 (b1 + 1)) (gR s_33 (b + 1)) (0 : Int32).toNatClampNeg (0 : Int32).toNatClampNeg (6 : Int32).toNatClampNeg)) (b + 2)) (0 : Int32).toNatClampNeg (0 : Int32).toNatClampNeg (4 : Int32).toNatClampNeg)) (b + 3)) (0 : Int32).toNatClampNeg (0 : Int32).toNatClampNeg (4 : Int32).toNatClampNeg)) (b1 + 4)) (gR (sR (sR (sR s_33 (b + 1) (va_cpy (gR s_33 (b1 + 1)) (gR s_33 (b + 1)) (0 : Int32).toNatClampNeg (0 : Int32).toNatClampNeg (6 : Int32).toNatClampNeg)) (b + 2) (va_cpy (gR (sR s_33 (b + 1) (va_cpy (gR s_33 (b1 + 1)) (gR s_33 (b + 1)) (0 : Int32).toNatClampNeg (0 : Int32).toNatClampNeg (6 : Int32).toNatClampNeg)) (b1 + 2)) (gR (sR s_33 (b + 1) (va_cpy (gR s_33 (b1 + 1)) (gR s_33 (b + 1)) (0 : Int32).toNatClampNeg (0 : Int32).toNatClampNeg (6 : Int32).toNatClampNeg)) (b + 2)) (0 : Int32).toNatClampNeg (0 : Int32).toNatClampNeg (4 : Int32).toNatClampNeg)) (b + 3) (va_cpy (gR (sR (sR s_33 (b + 1) (va_cpy (gR s_33 (b1 + 1)) (gR s_33 (b + 1)) (0 : Int32).toNatClampNeg (0 : Int32).toNatClampNeg (6 : Int32).toNatClampNeg)) (b + 2) (va_cpy (gR (sR s_33 (b + 1) (va_cpy (gR s_33 (b1 + 1)) (gR s_33 (b + 1)) (0 : Int32).toNatClampNeg (0 : Int32).toNatClampNeg (6 : Int32).toNatClampNeg)) (b1 + 2)) (gR (sR s_33 (b + 1) (va_cpy (gR s_33 (b1 + 1)) (gR s_33 (b + 1)) (0 : Int32).toNatClampNeg (0 : Int32).toNatClampNeg (6 : Int32).toNatClampNeg)) (b + 2)) (0 : Int32).toNatClampNeg (0 : Int32).toNatClampNeg (4 : Int32).toNatClampNeg)) (b1 + 3)) (gR (sR (sR s_33 (b + 1) (va_cpy (gR s_33 (b1 + 1)) (gR s_33 (b + 1)) (0 : Int32).toNatClampNeg (0 : Int32).toNatClampNeg (6 : Int32).toNatClampNeg)) (b + 2) (va_cpy (gR (sR s_33 (b + 1) (va_cpy (gR s_33 (b1 + 1)) (gR s_33 (b + 1)) (0 : Int32).toNatClampNeg (0 : Int32).toNatClampNeg (6 : Int32).toNatClampNeg)) (b1 + 2)) (gR (sR s_33 (b + 1) (va_cpy (gR s_33 (b1 + 1)) (gR s_33 (b + 1)) (0 : Int32).toNatClampNeg (0 : Int32).toNatClampNeg (6 : Int32).toNatClampNeg)) (b + 2)) (0 : Int32).toNatClampNeg (0 : Int32).toNatClampNeg (4 : Int32).toNatClampNeg)) (b + 3)) (0 : Int32).toNatClampNeg (0 : Int32).toNatClampNeg (4 : Int32).toNatClampNeg)) (b + 4)) (0 : Int32).toNatClampNeg (0 : Int32).toNatClampNeg (6 : Int32).toNatClampNeg)) (b1 + 5)) (gR (sR (sR (sR (sR s_33 (b + 1) (va_cpy (gR s_33 (b1 + 1)) (gR s_33 (b + 1)) (0 : Int32).toNatClampNeg (0 : Int32).toNatClampNeg (6 : Int32).toNatClampNeg)) (b + 2) (va_cpy (gR (sR s_33 (b + 1) (va_cpy (gR s_33 (b1 + 1)) (gR s_33 (b + 1)) (0 : Int32).toNatClampNeg (0 : Int32).toNatClampNeg (6 : Int32).toNatClampNeg)) (b1 + 2)) (gR (sR s_33 (b + 1) (va_cpy (gR s_33 (b1 + 1)) (gR s_33 (b + 1)) (0 : Int32).toNatClampNeg (0 : Int32).toNatClampNeg (6 : Int32).toNatClampNeg)) (b + 2)) (0 : Int32).toNatClampNeg (0 : Int32).toNatClampNeg (4 : Int32).toNatClampNeg)) (b + 3) (va_cpy (gR (sR (sR s_33 (b + 1) (va_cpy (gR s_33 (b1 + 1)) (gR s_33 (b + 1)) (0 : Int32).toNatClampNeg (0 : Int32).toNatClampNeg (6 : Int32).toNatClampNeg)) (b + 2) (va_cpy (gR (sR s_33 (b + 1) (va_cpy (gR s_33 (b1 + 1)) (gR s_33 (b + 1)) (0 : Int32).toNatClampNeg (0 : Int32).toNatClampNeg (6 : Int32).toNatClampNeg)) (b1 + 2)) (gR (sR s_33 (b + 1) (va_cpy (gR s_33 (b1 + 1)) (gR s_33 (b + 1)) (0 : Int32).toNatClampNeg (0 : Int32).toNatClampNeg (6 : Int32).toNatClampNeg)) (b + 2)) (0 : Int32).toNatClampNeg (0 : Int32).toNatClampNeg (4 : Int32).toNatClampNeg)) (b1 + 3)) (gR (sR (sR s_33 (b + 1) (va_cpy (gR s_33 (b1 + 1)) (gR s_33 (b + 1)) (0 : Int32).toNatClampNeg (0 : Int32).toNatClampNeg (6 : Int32).toNatClampNeg)) (b + 2) (va_cpy (gR (sR s_33 (b + 1) (va_cpy (gR s_33 (b1 + 1)) (gR s_33 (b + 1)) (0 : Int32).toNatClampNeg (0 : Int32).toNatClampNeg (6 : Int32).toNatClampNeg)) (b1 + 2)) (gR (sR s_33 (b + 1) (va_cpy (gR s_33 (b1 + 1)) (gR s_33 (b + 1)) (0 : Int32).toNatClampNeg (0 : Int32).toNatClampNeg (6 : Int32).toNatClampNeg)) (b + 2)) (0 : Int32).toNatClampNeg (0 : Int32).toNatClampNeg (4 : Int32).toNatClampNeg)) (b + 3)) (0 : Int32).toNatClampNeg (0 : Int32).toNatClampNeg (4 : Int32).toNatClampNeg)) (b + 4) (va_cpy (gR (sR (sR (sR s_33 (b + 1) (va_cpy (gR s_33 (b1 + 1)) (gR s_33 (b + 1)) (0 : Int32).toNatClampNeg (0 : Int32).toNatClampNeg (6 : Int32).toNatClampNeg)) (b + 2) (va_cpy (gR (sR s_33 (b + 1) (va_cpy (gR s_33 (b1 + 1)) (gR s_33 (b + 1)) (0 : Int32).toNatClampNeg (0 : Int32).toNatClampNeg (6 : Int32).toNatClampNeg)) (b1 + 2)) (gR (sR s_33 (b + 1) (va_cpy (gR s_33 (b1 + 1)) (gR s_33 (b + 1)) (0 : Int32).toNatClampNeg (0 : Int32).toNatClampNeg (6 : Int32).toNatClampNeg)) (b + 2)) (0 : Int32).toNatClampNeg (0 : Int32).toNatClampNeg (4 : Int32).toNatClampNeg)) (b + 3) (va_cpy (gR (sR (sR s_33 (b + 1) (va_cpy (gR s_33 (b1 + 1)) (gR s_33 (b + 1)) (0 : Int32).toNatClampNeg (0 : Int32).toNatClampNeg (6 : Int32).toNatClampNeg)) (b + 2) (va_cpy (gR (sR s_33 (b + 1) (va_cpy (gR s_33 (b1 + 1)) (gR s_33 (b + 1)) (0 : Int32).toNatClampNeg (0 : Int32).toNatClampNeg (6 : Int32).toNatClampNeg)) (b1 + 2)) (gR (sR s_33 (b + 1) (va_cpy (gR s_33 (b1 + 1)) (gR s_33 (b + 1)) (0 : Int32).toNatClampNeg (0 : Int32).toNatClampNeg (6 : Int32).toNatClampNeg)) (b + 2)) (0 : Int32).toNatClampNeg (0 : Int32).toNatClampNeg (4 : Int32).toNatClampNeg)) (b1 + 3)) (gR (sR (sR s_33 (b + 1) (va_cpy (gR s_33 (b1 + 1)) (gR s_33 (b + 1)) (0 : Int32).toNatClampNeg (0 : Int32).toNatClampNeg (6 : Int32).toNatClampNeg)) (b + 2) (va_cpy (gR (sR s_33 (b + 1) (va_cpy (gR s_33 (b1 + 1)) (gR s_33 (b + 1)) (0 : Int32).toNatClampNeg (0 : Int32).toNatClampNeg (6 : Int32).toNatClampNeg)) (b1 + 2)) (gR (sR s_33 (b + 1) (va_cpy (gR s_33 (b1 + 1)) (gR s_33 (b + 1)) (0 : Int32).toNatClampNeg (0 : Int32).toNatClampNeg (6 : Int32).toNatClampNeg)) (b + 2)) (0 : Int32).toNatClampNeg (0 : Int32).toNatClampNeg (4 : Int32).toNatClampNeg)) (b + 3)) (0 : Int32).toNatClampNeg (0 : Int32).toNatClampNeg (4 : Int32).toNatClampNeg)) (b1 + 4)) (gR (sR (sR (sR s_33 (b + 1) (va_cpy (gR s_33 (b1 + 1)) (gR s_33 (b + 1)) (0 : Int32).toNatClampNeg (0 : Int32).toNatClampNeg (6 : Int32).toNatClampNeg)) (b + 2) (va_cpy (gR (sR s_33 (b + 1) (va_cpy (gR s_33 (b1 + 1)) (gR s_33 (b + 1)) (0 : Int32).toNatClampNeg (0 : Int32).toNatClampNeg (6 : Int32).toNatClampNeg)) (b1 + 2)) (gR (sR s_33 (b + 1) (va_cpy (gR s_33 (b1 + 1)) (gR s_33 (b + 1)) (0 : Int32).toNatClampNeg (0 : Int32).toNatClampNeg (6 : Int32).toNatClampNeg)) (b + 2)) (0 : Int32).toNatClampNeg (0 : Int32).toNatClampNeg (4 : Int32).toNatClampNeg)) (b + 3) (va_cpy (gR (sR (sR s_33 (b + 1) (va_cpy (gR s_33 (b1 + 1)) (gR s_33 (b + 1)) (0 : Int32).toNatClampNeg (0 : Int32).toNatClampNeg (6 : Int32).toNatClampNeg)) (b + 2) (va_cpy (gR (sR s_33 (b + 1) (va_cpy (gR s_33 (b1 + 1)) (gR s_33 (b + 1)) (0 : Int32).toNatClampNeg (0 : Int32).toNatClampNeg (6 : Int32).toNatClampNeg)) (b1 + 2)) (gR (sR s_33 (b + 1) (va_cpy (gR s_33 (b1 + 1)) (gR s_33 (b + 1)) (0 : Int32).toNatClampNeg (0 : Int32).toNatClampNeg (6 : Int32).toNatClampNeg)) (b + 2)) (0 : Int32).toNatClampNeg (0 : Int32).toNatClampNeg (4 : Int32).toNatClampNeg)) (b1 + 3)) (gR (sR (sR s_33 (b + 1) (va_cpy (gR s_33 (b1 + 1)) (gR s_33 (b + 1)) (0 : Int32).toNatClampNeg (0 : Int32).toNatClampNeg (6 : Int32).toNatClampNeg)) (b + 2) (va_cpy (gR (sR s_33 (b + 1) (va_cpy (gR s_33 (b1 + 1)) (gR s_33 (b + 1)) (0 : Int32).toNatClampNeg (0 : Int32).toNatClampNeg (6 : Int32).toNatClampNeg)) (b1 + 2)) (gR (sR s_33 (b + 1) (va_cpy (gR s_33 (b1 + 1)) (gR s_33 (b + 1)) (0 : Int32).toNatClampNeg (0 : Int32).toNatClampNeg (6 : Int32).toNatClampNeg)) (b + 2)) (0 : Int32).toNatClampNeg (0 : Int32).toNatClampNeg (4 : Int32).toNatClampNeg)) (b + 3)) (0 : Int32).toNatClampNeg (0 : Int32).toNatClampNeg (4 : Int32).toNatClampNeg)) (b + 4)) (0 : Int32).toNatClampNeg (0 : Int32).toNatClampNeg (6 : Int32).toNatClampNeg)) (b + 5)) (0 : Int32).toNatClampNeg (0 : Int32).toNatClampNeg (6 : Int32).toNatClampNeg)) (b1 + 6)) (gR (sR (sR (sR (sR (sR s_33 (b + 1) (va_cpy (gR s_33 (b1 + 1)) (gR s_33 (b + 1)) (0 : Int32).toNatClampNeg (0 : Int32).toNatClampNeg (6 : Int32).toNatClampNeg)) (b + 2) (va_cpy (gR (sR s_33 (b + 1) (va_cpy (gR s_33 (b1 + 1)) (gR s_33 (b + 1)) (0 : Int32).toNatClampNeg (0 : Int32).toNatClampNeg (6 : Int32).toNatClampNeg)) (b1 + 2)) (gR (sR s_33 (b + 1) (va_cpy (gR s_33 (b1 + 1)) (gR s_33 (b + 1)) (0 : Int32).toNatClampNeg (0 : Int32).toNatClampNeg (6 : Int32).toNatClampNeg)) (b + 2)) (0 : Int32).toNatClampNeg (0 : Int32).toNatClampNeg (4 : Int32).toNatClampNeg)) (b + 3) (va_cpy (gR (sR (sR s_33 (b + 1) (va_cpy (gR s_33 (b1 + 1)) (gR s_33 (b + 1)) (0 : Int32).toNatClampNeg (0 : Int32).toNatClampNeg (6 : Int32).toNatClampNeg)) (b + 2) (va_cpy (gR (sR s_33 (b + 1) (va_cpy (gR s_33 (b1 + 1)) (gR s_33 (b + 1)) (0 : Int32).toNatClampNeg (0 : Int32).toNatClampNeg (6 : Int32).toNatClampNeg)) (b1 + 2)) (gR (sR s_33 (b + 1) (va_cpy (gR s_33 (b1 + 1)) (gR s_33 (b + 1)) (0 : Int32).toNatClampNeg (0 : Int32).toNatClampNeg (6 : Int32).toNatClampNeg)) (b + 2)) (0 : Int32).toNatClampNeg (0 : Int32).toNatClampNeg (4 : Int32).toNatClampNeg)) (b1 + 3)) (gR (sR (sR s_33 (b + 1) (va_cpy (gR s_33 (b1 + 1)) (gR s_33 (b + 1)) (0 : Int32).toNatClampNeg (0 : Int32).toNatClampNeg (6 : Int32).toNatClampNeg)) (b + 2) (va_cpy (gR (sR s_33 (b + 1) (va_cpy (gR s_33 (b1 + 1)) (gR s_33 (b + 1)) (0 : Int32).toNatClampNeg (0 : Int32).toNatClampNeg (6 : Int32).toNatClampNeg)) (b1 + 2)) (gR (sR s_33 (b + 1) (va_cpy (gR s_33 (b1 + 1)) (gR s_33 (b + 1)) (0 : Int32).toNatClampNeg (0 : Int32).toNatClampNeg (6 : Int32).toNatClampNeg)) (b + 2)) (0 : Int32).toNatClampNeg (0 : Int32).toNatClampNeg (4 : Int32).toNatClampNeg)) (b + 3)) (0 : Int32).toNatClampNeg (0 : Int32).toNatClampNeg (4 : Int32).toNatClampNeg)) (b + 4) (va_cpy (gR (sR (sR (sR s_33 (b + 1) (va_cpy (gR s_33 (b1 + 1)) (gR s_33 (b + 1)) (0 : Int32).toNatClampNeg (0 : Int32).toNatClampNeg (6 : Int32).toNatClampNeg)) (b + 2) (va_cpy (gR (sR s_33 (b + 1) (va_cpy (gR s_33 (b1 + 1)) (gR s_33 (b + 1)) (0 : Int32).toNatClampNeg (0 : Int32).toNatClampNeg (6 : Int32).toNatClampNeg)) (b1 + 2)) (gR (sR s_33 (b + 1) (va_cpy (gR s_33 (b1 + 1)) (gR s_33 (b + 1)) (0 : Int32).toNatClampNeg (0 : Int32).toNatClampNeg (6 : Int32).toNatClampNeg)) (b + 2)) (0 : Int32).toNatClampNeg (0 : Int32).toNatClampNeg (4 : Int32).toNatClampNeg)) (b + 3) (va_cpy (gR (sR (sR s_33 (b + 1) (va_cpy (gR s_33 (b1 + 1)) (gR s_33 (b + 1)) (0 : Int32).toNatClampNeg (0 : Int32).toNatClampNeg (6 : Int32).toNatClampNeg)) (b + 2) (va_cpy (gR (sR s_33 (b + 1) (va_cpy (gR s_33 (b1 + 1)) (gR s_33 (b + 1)) (0 : Int32).toNatClampNeg (0 : Int32).toNatClampNeg (6 : Int32).toNatClampNeg)) (b1 + 2)) (gR (sR s_33 (b + 1) (va_cpy (gR s_33 (b1 + 1)) (gR s_33 (b + 1)) (0 : Int32).toNatClampNeg (0 : Int32).toNatClampNeg (6 : Int32).toNatClampNeg)) (b + 2)) (0 : Int32).toNatClampNeg (0 : Int32).toNatClampNeg (4 : Int32).toNatClampNeg)) (b1 + 3)) (gR (sR (sR s_33 (b + 1) (va_cpy (gR s_33 (b1 + 1)) (gR s_33 (b + 1)) (0 : Int32).toNatClampNeg (0 : Int32).toNatClampNeg (6 : Int32).toNatClampNeg)) (b + 2) (va_cpy (gR (sR s_33 (b + 1) (va_cpy (gR s_33 (b1 + 1)) (gR s_33 (b + 1)) (0 : Int32).toNatClampNeg (0 : Int32).toNatClampNeg (6 : Int32).toNatClampNeg)) (b1 + 2)) (gR (sR s_33 (b + 1) (va_cpy (gR s_33 (b1 + 1)) (gR s_33 (b + 1)) (0 : Int32).toNatClampNeg (0 : Int32).toNatClampNeg (6 : Int32).toNatClampNeg)) (b + 2)) (0 : Int32).toNatClampNeg (0 : Int32).toNatClampNeg (4 : Int32).toNatClampNeg)) (b + 3)) (0 : Int32).toNatClampNeg (0 : Int32).toNatClampNeg (4 : Int32).toNatClampNeg)) (b1 + 4)) (gR (sR (sR (sR s_33 (b + 1) (va_cpy (gR s_33 (b1 + 1)) (gR s_33 (b + 1)) (0 : Int32).toNatClampNeg (0 : Int32).toNatClampNeg (6 : Int32).toNatClampNeg)) (b + 2) (va_cpy (gR (sR s_33 (b + 1) (va_cpy (gR s_33 (b1 + 1)) (gR s_33 (b + 1)) (0 : Int32).toNatClampNeg (0 : Int32).toNatClampNeg (6 : Int32).toNatClampNeg)) (b1 + 2)) (gR (sR s_33 (b + 1) (va_cpy (gR s_33 (b1 + 1)) (gR s_33 (b + 1)) (0 : Int32).toNatClampNeg (0 : Int32).toNatClampNeg (6 : Int32).toNatClampNeg)) (b + 2)) (0 : Int32).toNatClampNeg (0 : Int32).toNatClampNeg (4 : Int32).toNatClampNeg)) (b + 3) (va_cpy (gR (sR (sR s_33 (b + 1) (va_cpy (gR s_33 (b1 + 1)) (gR s_33 (b + 1)) (0 : Int32).toNatClampNeg (0 : Int32).toNatClampNeg (6 : Int32).toNatClampNeg)) (b + 2) (va_cpy (gR (sR s_33 (b + 1) (va_cpy (gR s_33 (b1 + 1)) (gR s_33 (b + 1)) (0 : Int32).toNatClampNeg (0 : Int32).toNatClampNeg (6 : Int32).toNatClampNeg)) (b1 + 2)) (gR (sR s_33 (b + 1) (va_cpy (gR s_33 (b1 + 1)) (gR s_33 (b + 1)) (0 : Int32).toNatClampNeg (0 : Int32).toNatClampNeg (6 : Int32).toNatClampNeg)) (b + 2)) (0 : Int32).toNatClampNeg (0 : Int32).toNatClampNeg (4 : Int32).toNatClampNeg)) (b1 + 3)) (gR (sR (sR s_33 (b + 1) (va_cpy (gR s_33 (b1 + 1)) (gR s_33 (b + 1)) (0 : Int32).toNatClampNeg (0 : Int32).toNatClampNeg (6 : Int32).toNatClampNeg)) (b + 2) (va_cpy (gR (sR s_33 (b + 1) (va_cpy (gR s_33 (b1 + 1)) (gR s_33 (b + 1)) (0 : Int32).toNatClampNeg (0 : Int32).toNatClampNeg (6 : Int32).toNatClampNeg)) (b1 + 2)) (gR (sR s_33 (b + 1) (va_cpy (gR s_33 (b1 + 1)) (gR s_33 (b + 1)) (0 : Int32).toNatClampNeg (0 : Int32).toNatClampNeg (6 : Int32).toNatClampNeg)) (b + 2)) (0 : Int32).toNatClampNeg (0 : Int32).toNatClampNeg (4 : Int32).toNatClampNeg)) (b + 3)) (0 : Int32).toNatClampNeg (0 : Int32).toNatClampNeg (4 : Int32).toNatClampNeg)) (b + 4)) (0 : Int32).toNatClampNeg (0 : Int32).toNatClampNeg (6 : Int32).toNatClampNeg)) (b + 5) (va_cpy (gR (sR (sR (sR (sR s_33 (b + 1) (va_cpy (gR s_33 (b1 + 1)) (gR s_33 (b + 1)) (0 : Int32).toNatClampNeg (0 : Int32).toNatClampNeg (6 : Int32).toNatClampNeg)) (b + 2) (va_cpy (gR (sR s_33 (b + 1) (va_cpy (gR s_33 (b1 + 1)) (gR s_33 (b + 1)) (0 : Int32).toNatClampNeg (0 : Int32).toNatClampNeg (6 : Int32).toNatClampNeg)) (b1 + 2)) (gR (sR s_33 (b + 1) (va_cpy (gR s_33 (b1 + 1)) (gR s_33 (b + 1)) (0 : Int32).toNatClampNeg (0 : Int32).toNatClampNeg (6 : Int32).toNatClampNeg)) (b + 2)) (0 : Int32).toNatClampNeg (0 : Int32).toNatClampNeg (4 : Int32).toNatClampNeg)) (b + 3) (va_cpy (gR (sR (sR s_33 (b + 1) (va_cpy (gR s_33 (b1 + 1)) (gR s_33 (b + 1)) (0 : Int32).toNatClampNeg (0 : Int32).toNatClampNeg (6 : Int32).toNatClampNeg)) (b + 2) (va_cpy (gR (sR s_33 (b + 1) (va_cpy (gR s_33 (b1 + 1)) (gR s_33 (b + 1)) (0 : Int32).toNatClampNeg (0 : Int32).toNatClampNeg (6 : Int32).toNatClampNeg)) (b1 + 2)) (gR (sR s_33 (b + 1) (va_cpy (gR s_33 (b1 + 1)) (gR s_33 (b + 1)) (0 : Int32).toNatClampNeg (0 : Int32).toNatClampNeg (6 : Int32).toNatClampNeg)) (b + 2)) (0 : Int32).toNatClampNeg (0 : Int32).toNatClampNeg (4 : Int32).toNatClampNeg)) (b1 + 3)) (gR (sR (sR s_33 (b + 1) (va_cpy (gR s_33 (b1 + 1)) (gR s_33 (b + 1)) (0 : Int32).toNatClampNeg (0 : Int32).toNatClampNeg (6 : Int32).toNatClampNeg)) (b + 2) (va_cpy (gR (sR s_33 (b + 1) (va_cpy (gR s_33 (b1 + 1)) (gR s_33 (b + 1)) (0 : Int32).toNatClampNeg (0 : Int32).toNatClampNeg (6 : Int32).toNatClampNeg)) (b1 + 2)) (gR (sR s_33 (b + 1) (va_cpy (gR s_33 (b1 + 1)) (gR s_33 (b + 1)) (0 : Int32).toNatClampNeg (0 : Int32).toNatClampNeg (6 : Int32).toNatClampNeg)) (b + 2)) (0 : Int32).toNatClampNeg (0 : Int32).toNatClampNeg (4 : Int32).toNatClampNeg)) (b + 3)) (0 : Int32).toNatClampNeg (0 : Int32).toNatClampNeg (4 : Int32).toNatClampNeg)) (b + 4) (va_cpy (gR (sR (sR (sR s_33 (b + 1) (va_cpy (gR s_33 (b1 + 1)) (gR s_33 (b + 1)) (0 : Int32).toNatClampNeg (0 : Int32).toNatClampNeg (6 : Int32).toNatClampNeg)) (b + 2) (va_cpy (gR (sR s_33 (b + 1) (va_cpy (gR s_33 (b1 + 1)) (gR s_33 (b + 1)) (0 : Int32).toNatClampNeg (0 : Int32).toNatClampNeg (6 : Int32).toNatClampNeg)) (b1 + 2)) (gR (sR s_33 (b + 1) (va_cpy (gR s_33 (b1 + 1)) (gR s_33 (b + 1)) (0 : Int32).toNatClampNeg (0 : Int32).toNatClampNeg (6 : Int32).toNatClampNeg)) (b + 2)) (0 : Int32).toNatClampNeg (0 : Int32).toNatClampNeg (4 : Int32).toNatClampNeg)) (b + 3) (va_cpy (gR (sR (sR s_33 (b + 1) (va_cpy (gR s_33 (b1 + 1)) (gR s_33 (b + 1)) (0 : Int32).toNatClampNeg (0 : Int32).toNatClampNeg (6 : Int32).toNatClampNeg)) (b + 2) (va_cpy (gR (sR s_33 (b + 1) (va_cpy (gR s_33 (b1 + 1)) (gR s_33 (b + 1)) (0 : Int32).toNatClampNeg (0 : Int32).toNatClampNeg (6 : Int32).toNatClampNeg)) (b1 + 2)) (gR (sR s_33 (b + 1) (va_cpy (gR s_33 (b1 + 1)) (gR s_33 (b + 1)) (0 : Int32).toNatClampNeg (0 : Int32).toNatClampNeg (6 : Int32).toNatClampNeg)) (b + 2)) (0 : Int32).toNatClampNeg (0 : Int32).toNatClampNeg (4 : Int32).toNatClampNeg)) (b1 + 3)) (gR (sR (sR s_33 (b + 1) (va_cpy (gR s_33 (b1 + 1)) (gR s_33 (b + 1)) (0 : Int32).toNatClampNeg (0 : Int32).toNatClampNeg (6 : Int32).toNatClampNeg)) (b + 2) (va_cpy (gR (sR s_33 (b + 1) (va_cpy (gR s_33 (b1 + 1)) (gR s_33 (b + 1)) (0 : Int32).toNatClampNeg (0 : Int32).toNatClampNeg (6 : Int32).toNatClampNeg)) (b1 + 2)) (gR (sR s_33 (b + 1) (va_cpy (gR s_33 (b1 + 1)) (gR s_33 (b + 1)) (0 : Int32).toNatClampNeg (0 : Int32).toNatClampNeg (6 : Int32).toNatClampNeg)) (b + 2)) (0 : Int32).toNatClampNeg (0 : Int32).toNatClampNeg (4 : Int32).toNatClampNeg)) (b + 3)) (0 : Int32).toNatClampNeg (0 : Int32).toNatClampNeg (4 : Int32).toNatClampNeg)) (b1 + 4)) (gR (sR (sR (sR s_33 (b + 1) (va_cpy (gR s_33 (b1 + 1)) (gR s_33 (b + 1)) (0 : Int32).toNatClampNeg (0 : Int32).toNatClampNeg (6 : Int32).toNatClampNeg)) (b + 2) (va_cpy (gR (sR s_33 (b + 1) (va_cpy (gR s_33 (b1 + 1)) (gR s_33 (b + 1)) (0 : Int32).toNatClampNeg (0 : Int32).toNatClampNeg (6 : Int32).toNatClampNeg)) (b1 + 2)) (gR (sR s_33 (b + 1) (va_cpy (gR s_33 (b1 + 1)) (gR s_33 (b + 1)) (0 : Int32).toNatClampNeg (0 : Int32).toNatClampNeg (6 : Int32).toNatClampNeg)) (b + 2)) (0 : Int32).toNatClampNeg (0 : Int32).toNatClampNeg (4 : Int32).toNatClampNeg)) (b + 3) (va_cpy (gR (sR (sR s_33 (b + 1) (va_cpy (gR s_33 (b1 + 1)) (gR s_33 (b + 1)) (0 : Int32).toNatClampNeg (0 : Int32).toNatClampNeg (6 : Int32).toNatClampNeg)) (b + 2) (va_cpy (gR (sR s_33 (b + 1) (va_cpy (gR s_33 (b1 + 1)) (gR s_33 (b + 1)) (0 : Int32).toNatClampNeg (0 : Int32).toNatClampNeg (6 : Int32).toNatClampNeg)) (b1 + 2)) (gR (sR s_33 (b + 1) (va_cpy (gR s_33 (b1 + 1)) (gR s_33 (b + 1)) (0 : Int32).toNatClampNeg (0 : Int32).toNatClampNeg (6 : Int32).toNatClampNeg)) (b + 2)) (0 : Int32).toNatClampNeg (0 : Int32).toNatClampNeg (4 : Int32).toNatClampNeg)) (b1 + 3)) (gR (sR (sR s_33 (b + 1) (va_cpy (gR s_33 (b1 + 1)) (gR s_33 (b + 1)) (0 : Int32).toNatClampNeg (0 : Int32).toNatClampNeg (6 : Int32).toNatClampNeg)) (b + 2) (va_cpy (gR (sR s_33 (b + 1) (va_cpy (gR s_33 (b1 + 1)) (gR s_33 (b + 1)) (0 : Int32).toNatClampNeg (0 : Int32).toNatClampNeg (6 : Int32).toNatClampNeg)) (b1 + 2)) (gR (sR s_33 (b + 1) (va_cpy (gR s_33 (b1 + 1)) (gR s_33 (b + 1)) (0 : Int32).toNatClampNeg (0 : Int32).toNatClampNeg (6 : Int32).toNatClampNeg)) (b + 2)) (0 : Int32).toNatClampNeg (0 : Int32).toNatClampNeg (4 : Int32).toNatClampNeg)) (b + 3)) (0 : Int32).toNatClampNeg (0 : Int32).toNatClampNeg (4 : Int32).toNatClampNeg)) (b + 4)) (0 : Int32).toNatClampNeg (0 : Int32).toNatClampNeg (6 : Int32).toNatClampNeg)) (b1 + 5)) (gR (sR (sR (sR (sR s_33 (b + 1) (va_cpy (gR s_33 (b1 + 1)) (gR s_33 (b + 1)) (0 : Int32).toNatClampNeg (0 : Int32).toNatClampNeg (6 : Int32).toNatClampNeg)) (b + 2) (va_cpy (gR (sR s_33 (b + 1) (va_cpy (gR s_33 (b1 + 1)) (gR s_33 (b + 1)) (0 : Int32).toNatClampNeg (0 : Int32).toNatClampNeg (6 : Int32).toNatClampNeg)) (b1 + 2)) (gR (sR s_33 (b + 1) (va_cpy (gR s_33 (b1 + 1)) (gR s_33 (b + 1)) (0 : Int32).toNatClampNeg (0 : Int32).toNatClampNeg (6 : Int32).toNatClampNeg)) (b + 2)) (0 : Int32).toNatClampNeg (0 : Int32).toNatClampNeg (4 : Int32).toNatClampNeg)) (b + 3) (va_cpy (gR (sR (sR s_33 (b + 1) (va_cpy (gR s_33 (b1 + 1)) (gR s_33 (b + 1)) (0 : Int32).toNatClampNeg (0 : Int32).toNatClampNeg (6 : Int32).toNatClampNeg)) (b + 2) (va_cpy (gR (sR s_33 (b + 1) (va_cpy (gR s_33 (b1 + 1)) (gR s_33 (b + 1)) (0 : Int32).toNatClampNeg (0 : Int32).toNatClampNeg (6 : Int32).toNatClampNeg)) (b1 + 2)) (gR (sR s_33 (b + 1) (va_cpy (gR s_33 (b1 + 1)) (gR s_33 (b + 1)) (0 : Int32).toNatClampNeg (0 : Int32).toNatClampNeg (6 : Int32).toNatClampNeg)) (b + 2)) (0 : Int32).toNatClampNeg (0 : Int32).toNatClampNeg (4 : Int32).toNatClampNeg)) (b1 + 3)) (gR (sR (sR s_33 (b + 1) (va_cpy (gR s_33 (b1 + 1)) (gR s_33 (b + 1)) (0 : Int32).toNatClampNeg (0 : Int32).toNatClampNeg (6 : Int32).toNatClampNeg)) (b + 2) (va_cpy (gR (sR s_33 (b + 1) (va_cpy (gR s_33 (b1 + 1)) (gR s_33 (b + 1)) (0 : Int32).toNatClampNeg (0 : Int32).toNatClampNeg (6 : Int32).toNatClampNeg)) (b1 + 2)) (gR (sR s_33 (b + 1) (va_cpy (gR s_33 (b1 + 1)) (gR s_33 (b + 1)) (0 : Int32).toNatClampNeg (0 : Int32).toNatClampNeg (6 : Int32).toNatClampNeg)) (b + 2)) (0 : Int32).toNatClampNeg (0 : Int32).toNatClampNeg (4 : Int32).toNatClampNeg)) (b + 3)) (0 : Int32).toNatClampNeg (0 : Int32).toNatClampNeg (4 : Int32).toNatClampNeg)) (b + 4) (va_cpy (gR (sR (sR (sR s_33 (b + 1) (va_cpy (gR s_33 (b1 + 1)) (gR s_33 (b + 1)) (0 : Int32).toNatClampNeg (0 : Int32).toNatClampNeg (6 : Int32).toNatClampNeg)) (b + 2) (va_cpy (gR (sR s_33 (b + 1) (va_cpy (gR s_33 (b1 + 1)) (gR s_33 (b + 1)) (0 : Int32).toNatClampNeg (0 : Int32).toNatClampNeg (6 : Int32).toNatClampNeg)) (b1 + 2)) (gR (sR s_33 (b + 1) (va_cpy (gR s_33 (b1 + 1)) (gR s_33 (b + 1)) (0 : Int32).toNatClampNeg (0 : Int32).toNatClampNeg (6 : Int32).toNatClampNeg)) (b + 2)) (0 : Int32).toNatClampNeg (0 : Int32).toNatClampNeg (4 : Int32).toNatClampNeg)) (b + 3) (va_cpy (gR (sR (sR s_33 (b + 1) (va_cpy (gR s_33 (b1 + 1)) (gR s_33 (b + 1)) (0 : Int32).toNatClampNeg (0 : Int32).toNatClampNeg (6 : Int32).toNatClampNeg)) (b + 2) (va_cpy (gR (sR s_33 (b + 1) (va_cpy (gR s_33 (b1 + 1)) (gR s_33 (b + 1)) (0 : Int32).toNatClampNeg (0 : Int32).toNatClampNeg (6 : Int32).toNatClampNeg)) (b1 + 2)) (gR (sR s_33 (b + 1) (va_cpy (gR s_33 (b1 + 1)) (gR s_33 (b + 1)) (0 : Int32).toNatClampNeg (0 : Int32).toNatClampNeg (6 : Int32).toNatClampNeg)) (b + 2)) (0 : Int32).toNatClampNeg (0 : Int32).toNatClampNeg (4 : Int32).toNatClampNeg)) (b1 + 3)) (gR (sR (sR s_33 (b + 1) (va_cpy (gR s_33 (b1 + 1)) (gR s_33 (b + 1)) (0 : Int32).toNatClampNeg (0 : Int32).toNatClampNeg (6 : Int32).toNatClampNeg)) (b + 2) (va_cpy (gR (sR s_33 (b + 1) (va_cpy (gR s_33 (b1 + 1)) (gR s_33 (b + 1)) (0 : Int32).toNatClampNeg (0 : Int32).toNatClampNeg (6 : Int32).toNatClampNeg)) (b1 + 2)) (gR (sR s_33 (b + 1) (va_cpy (gR s_33 (b1 + 1)) (gR s_33 (b + 1)) (0 : Int32).toNatClampNeg (0 : Int32).toNatClampNeg (6 : Int32).toNatClampNeg)) (b + 2)) (0 : Int32).toNatClampNeg (0 : Int32).toNatClampNeg (4 : Int32).toNatClampNeg)) (b + 3)) (0 : Int32).toNatClampNeg (0 : Int32).toNatClampNeg (4 : Int32).toNatClampNeg)) (b1 + 4)) (gR (sR (sR (sR s_33 (b + 1) (va_cpy (gR s_33 (b1 + 1)) (gR s_33 (b + 1)) (0 : Int32).toNatClampNeg (0 : Int32).toNatClampNeg (6 : Int32).toNatClampNeg)) (b + 2) (va_cpy (gR (sR s_33 (b + 1) (va_cpy (gR s_33 (b1 + 1)) (gR s_33 (b + 1)) (0 : Int32).toNatClampNeg (0 : Int32).toNatClampNeg (6 : Int32).toNatClampNeg)) (b1 + 2)) (gR (sR s_33 (b + 1) (va_cpy (gR s_33 (b1 + 1)) (gR s_33 (b + 1)) (0 : Int32).toNatClampNeg (0 : Int32).toNatClampNeg (6 : Int32).toNatClampNeg)) (b + 2)) (0 : Int32).toNatClampNeg (0 : Int32).toNatClampNeg (4 : Int32).toNatClampNeg)) (b + 3) (va_cpy (gR (sR (sR s_33 (b + 1) (va_cpy (gR s_33 (b1 + 1)) (gR s_33 (b + 1)) (0 : Int32).toNatClampNeg (0 : Int32).toNatClampNeg (6 : Int32).toNatClampNeg)) (b + 2) (va_cpy (gR (sR s_33 (b + 1) (va_cpy (gR s_33 (b1 + 1)) (gR s_33 (b + 1)) (0 : Int32).toNatClampNeg (0 : Int32).toNatClampNeg (6 : Int32).toNatClampNeg)) (b1 + 2)) (gR (sR s_33 (b + 1) (va_cpy (gR s_33 (b1 + 1)) (gR s_33 (b + 1)) (0 : Int32).toNatClampNeg (0 : Int32).toNatClampNeg (6 : Int32).toNatClampNeg)) (b + 2)) (0 : Int32).toNatClampNeg (0 : Int32).toNatClampNeg (4 : Int32).toNatClampNeg)) (b1 + 3)) (gR (sR (sR s_33 (b + 1) (va_cpy (gR s_33 (b1 + 1)) (gR s_33 (b + 1)) (0 : Int32).toNatClampNeg (0 : Int32).toNatClampNeg (6 : Int32).toNatClampNeg)) (b + 2) (va_cpy (gR (sR s_33 (b + 1) (va_cpy (gR s_33 (b1 + 1)) (gR s_33 (b + 1)) (0 : Int32).toNatClampNeg (0 : Int32).toNatClampNeg (6 : Int32).toNatClampNeg)) (b1 + 2)) (gR (sR s_33 (b + 1) (va_cpy (gR s_33 (b1 + 1)) (gR s_33 (b + 1)) (0 : Int32).toNatClampNeg (0 : Int32).toNatClampNeg (6 : Int32).toNatClampNeg)) (b + 2)) (0 : Int32).toNatClampNeg (0 : Int32).toNatClampNeg (4 : Int32).toNatClampNeg)) (b + 3)) (0 : Int32).toNatClampNeg (0 : Int32).toNatClampNeg (4 : Int32).toNatClampNeg)) (b + 4)) (0 : Int32).toNatClampNeg (0 : Int32).toNatClampNeg (6 : Int32).toNatClampNeg)) (b + 5)) (0 : Int32).toNatClampNeg (0 : Int32).toNatClampNeg (6 : Int32).toNatClampNeg)) (b + 6)) (0 : Int32).toNatClampNeg (0 : Int32).toNatClampNeg (6 : Int32).toNatClampNeg)))))))))
set_option maxRecDepth 100000 in
set_option maxHeartbeats 4000000 in
theorem k_X0_become (l : Launch) {D : va_G} {A : Nat → Prop} {cI cZ cS : ClassId} {ad : Nat → Nat} {ro : Option Nat} (hAd : ∀ ro σ, va_D A (WX cI cZ cS ad ro σ)) {σ : SX} {b : Nat} {b1 : Nat} {σ' : SX} {r : Unit} (hb0 : isDy b) (hb1 : isDy b1) (h : f_X0_become σ b b1 = some (r, σ')) : Ct (QV D A (WX cI cZ cS ad ro (σ'))) l yX0_become cX0_become 2 none 1 40 D (tyS cI cZ cS) A [.ref (ad b), .ref (ad b1)] (WX cI cZ cS ad ro σ) := by
  refine Ct.of (by decide +kernel) (Nat.le_of_ble_eq_true rfl) ?_
  intro p e s m below meth c ls S hK hr hlocks hP hS hl
  have hx := S.1
  have hb := S.2.1
  have hl : lv_has ls 2 [(0, .ref (ad b)), (1, .ref (ad b1))] := hl
  rw [f_X0_become] at h
  refine lv_aload_n hx hb dX0_become_0 rfl (lv_at hl 0 rfl) ?_
  refine lv_aload_n hx hb dX0_become_1 rfl (lv_at hl 1 rfl) ?_
  refine gt_X0_34 S hK hP hb1 dX0_become_2 ?_
  refine pt_X0_34 S hK hP (hAd _ _) hS hb0 dX0_become_5 (fun H locs hP hS => ?_)
  refine lv_aload_n hx hb dX0_become_8 rfl (lv_at hl 0 rfl) ?_
  refine lv_aload_n hx hb dX0_become_9 rfl (lv_at hl 1 rfl) ?_
  refine gt_X0_37 S hK hP hb1 dX0_become_10 ?_
  refine pt_X0_37 S hK hP (hAd _ _) hS hb0 dX0_become_13 (fun H locs hP hS => ?_)
  refine lv_aload_n hx hb dX0_become_16 rfl (lv_at hl 0 rfl) ?_
  refine lv_aload_n hx hb dX0_become_17 rfl (lv_at hl 1 rfl) ?_
  refine gt_X0_40 S hK hP hb1 dX0_become_18 ?_
  refine pt_X0_40 S hK hP (hAd _ _) hS hb0 dX0_become_21 (fun H locs hP hS => ?_)
  refine lv_aload_n hx hb dX0_become_24 rfl (lv_at hl 0 rfl) ?_
  refine lv_aload_n hx hb dX0_become_25 rfl (lv_at hl 1 rfl) ?_
  refine gt_X0_9 S hK hP hb1 dX0_become_26 ?_
  refine lv_aload_n hx hb dX0_become_29 rfl (lv_at hl 1 rfl) ?_
  refine gt_X0_47 S hK hP hb1 dX0_become_30 ?_
  obtain ⟨r_33, s_33, e_33, h⟩ := ob2_of h
  refine k_goV (k_runV (As := [.int (gF (sF (sF (sF σ b 0 (gF σ b1 0)) b 1 (gF (sF σ b 0 (gF σ b1 0)) b1 1)) b 2 (gF (sF (sF σ b 0 (gF σ b1 0)) b 1 (gF (sF σ b 0 (gF σ b1 0)) b1 1)) b1 2)) b1 3), .int (gF (sF (sF (sF σ b 0 (gF σ b1 0)) b 1 (gF (sF σ b 0 (gF σ b1 0)) b1 1)) b 2 (gF (sF (sF σ b 0 (gF σ b1 0)) b 1 (gF (sF σ b 0 (gF σ b1 0)) b1 1)) b1 2)) b1 4)]) (rest := []) S hK hP (k_X0_putStove l hAd hb0 e_33) cy_X0_putStove wd_252 rfl (xD hb0) rfl hl.1 rfl (Nat.le_of_ble_eq_true rfl) dX0_become_33 ⟨Nat.le_of_ble_eq_true rfl, Nat.le_of_ble_eq_true rfl⟩ ⟨Nat.zero_le _, Nat.zero_le _⟩) hS (fun _ h => h) (fun H locs hP hS _ _ => ?_)
  refine lv_aload_n hx hb dX0_become_36 rfl (lv_at hl 1 rfl) ?_
  refine gt_X0_15 S hK hP hb1 dX0_become_37 ?_
  refine lv_iconst (v := (0 : Int32)) hx hb dX0_become_40 (by decide) ?_
  refine lv_aload_n hx hb dX0_become_41 rfl (lv_at hl 0 rfl) ?_
  refine gt_X0_15 S hK hP hb0 dX0_become_42 ?_
  refine lv_iconst (v := (0 : Int32)) hx hb dX0_become_45 (by decide) ?_
  refine lv_bipush (v := (6 : Int32)) hx hb dX0_become_46 (by decide) ?_
  obtain ⟨hc_48, h⟩ := oif_of h
  refine k_copy S hl.1 hK hP (hAd _ _) hS wd_308 (xDr1 hb1) (xDr1 hb0) (xDr1_s hb0) hc_48 (Nat.le_of_ble_eq_true rfl) (Nat.le_of_ble_eq_true rfl) dX0_become_48 (fun H locs hP hS => ?_)
  refine lv_aload_n hx hb dX0_become_51 rfl (lv_at hl 1 rfl) ?_
  refine gt_X0_19 S hK hP hb1 dX0_become_52 ?_
  refine lv_iconst (v := (0 : Int32)) hx hb dX0_become_55 (by decide) ?_
  refine lv_aload_n hx hb dX0_become_56 rfl (lv_at hl 0 rfl) ?_
  refine gt_X0_19 S hK hP hb0 dX0_become_57 ?_
  refine lv_iconst (v := (0 : Int32)) hx hb dX0_become_60 (by decide) ?_
  refine lv_iconst (v := (4 : Int32)) hx hb dX0_become_61 (by decide) ?_
  obtain ⟨hc_62, h⟩ := oif_of h
  refine k_copy S hl.1 hK hP (hAd _ _) hS wd_308 (xDr2 hb1) (xDr2 hb0) (xDr2_s hb0) hc_62 (Nat.le_of_ble_eq_true rfl) (Nat.le_of_ble_eq_true rfl) dX0_become_62 (fun H locs hP hS => ?_)
  refine lv_aload_n hx hb dX0_become_65 rfl (lv_at hl 1 rfl) ?_
  refine gt_X0_22 S hK hP hb1 dX0_become_66 ?_
  refine lv_iconst (v := (0 : Int32)) hx hb dX0_become_69 (by decide) ?_
  refine lv_aload_n hx hb dX0_become_70 rfl (lv_at hl 0 rfl) ?_
  refine gt_X0_22 S hK hP hb0 dX0_become_71 ?_
  refine lv_iconst (v := (0 : Int32)) hx hb dX0_become_74 (by decide) ?_
  refine lv_iconst (v := (4 : Int32)) hx hb dX0_become_75 (by decide) ?_
  obtain ⟨hc_76, h⟩ := oif_of h
  refine k_copy S hl.1 hK hP (hAd _ _) hS wd_308 (xDr3 hb1) (xDr3 hb0) (xDr3_s hb0) hc_76 (Nat.le_of_ble_eq_true rfl) (Nat.le_of_ble_eq_true rfl) dX0_become_76 (fun H locs hP hS => ?_)
  refine lv_aload_n hx hb dX0_become_79 rfl (lv_at hl 1 rfl) ?_
  refine gt_X0_25 S hK hP hb1 dX0_become_80 ?_
  refine lv_iconst (v := (0 : Int32)) hx hb dX0_become_83 (by decide) ?_
  refine lv_aload_n hx hb dX0_become_84 rfl (lv_at hl 0 rfl) ?_
  refine gt_X0_25 S hK hP hb0 dX0_become_85 ?_
  refine lv_iconst (v := (0 : Int32)) hx hb dX0_become_88 (by decide) ?_
  refine lv_bipush (v := (6 : Int32)) hx hb dX0_become_89 (by decide) ?_
  obtain ⟨hc_91, h⟩ := oif_of h
  refine k_copy S hl.1 hK hP (hAd _ _) hS wd_308 (xDr4 hb1) (xDr4 hb0) (xDr4_s hb0) hc_91 (Nat.le_of_ble_eq_true rfl) (Nat.le_of_ble_eq_true rfl) dX0_become_91 (fun H locs hP hS => ?_)
  refine lv_aload_n hx hb dX0_become_94 rfl (lv_at hl 1 rfl) ?_
  refine gt_X0_28 S hK hP hb1 dX0_become_95 ?_
  refine lv_iconst (v := (0 : Int32)) hx hb dX0_become_98 (by decide) ?_
  refine lv_aload_n hx hb dX0_become_99 rfl (lv_at hl 0 rfl) ?_
  refine gt_X0_28 S hK hP hb0 dX0_become_100 ?_
  refine lv_iconst (v := (0 : Int32)) hx hb dX0_become_103 (by decide) ?_
  refine lv_bipush (v := (6 : Int32)) hx hb dX0_become_104 (by decide) ?_
  obtain ⟨hc_106, h⟩ := oif_of h
  refine k_copy S hl.1 hK hP (hAd _ _) hS wd_308 (xDr5 hb1) (xDr5 hb0) (xDr5_s hb0) hc_106 (Nat.le_of_ble_eq_true rfl) (Nat.le_of_ble_eq_true rfl) dX0_become_106 (fun H locs hP hS => ?_)
  refine lv_aload_n hx hb dX0_become_109 rfl (lv_at hl 1 rfl) ?_
  refine gt_X0_31 S hK hP hb1 dX0_become_110 ?_
  refine lv_iconst (v := (0 : Int32)) hx hb dX0_become_113 (by decide) ?_
  refine lv_aload_n hx hb dX0_become_114 rfl (lv_at hl 0 rfl) ?_
  refine gt_X0_31 S hK hP hb0 dX0_become_115 ?_
  refine lv_iconst (v := (0 : Int32)) hx hb dX0_become_118 (by decide) ?_
  refine lv_bipush (v := (6 : Int32)) hx hb dX0_become_119 (by decide) ?_
  obtain ⟨hc_121, h⟩ := oif_of h
  refine k_copy S hl.1 hK hP (hAd _ _) hS wd_308 (xDr6 hb1) (xDr6 hb0) (xDr6_s hb0) hc_121 (Nat.le_of_ble_eq_true rfl) (Nat.le_of_ble_eq_true rfl) dX0_become_121 (fun H locs hP hS => ?_)
  obtain ⟨rfl, rfl⟩ := some_pair h
  exact k_vret S hr hlocks hP hS dX0_become_124
def f_X0_hasHour (σ : SX) (b : Nat) (x1 : Int32) : Option Int32 := if x1 < 0 then (some (0 : Int32)) else (if (gF σ b 0) ≤ x1 then (some (0 : Int32)) else (some (1 : Int32)))
set_option maxRecDepth 100000 in
set_option maxHeartbeats 4000000 in
theorem k_X0_hasHour (l : Launch) {D : va_G} {A : Nat → Prop} {cI cZ cS : ClassId} {ad : Nat → Nat} {ro : Option Nat} (hAd : ∀ ro σ, va_D A (WX cI cZ cS ad ro σ)) {σ : SX} {b : Nat} {x1 : Int32} {r : Int32} (hb0 : isDy b) (h : f_X0_hasHour σ b x1 = some r) : Ct (QI D A r (WX cI cZ cS ad ro σ)) l yX0_hasHour cX0_hasHour 2 (some .boolean) 0 0 D (tyS cI cZ cS) A [.ref (ad b), .int x1] (WX cI cZ cS ad ro σ) := by
  refine Ct.of (by decide +kernel) (Nat.le_of_ble_eq_true rfl) ?_
  intro p e s m below meth c ls S hK hr hlocks hP hS hl
  have hx := S.1
  have hb := S.2.1
  have hl : lv_has ls 2 [(0, .ref (ad b)), (1, .int x1)] := hl
  rw [f_X0_hasHour] at h
  refine lv_iload_n hx hb dX0_hasHour_0 rfl (lv_at hl 1 rfl) ?_
  refine lv_if_lt (tgt := 16) hx hb dX0_hasHour_1 (by decide) (fun c_1 => ?_) (fun c_1 => ?_)
  · replace h := ite_t c_1 h
    refine lv_iconst (v := (0 : Int32)) hx hb dX0_hasHour_16 (by decide) ?_
    exact k_zret S hr hlocks hP hS (Option.some.inj h) (Or.inl rfl) dX0_hasHour_17
  · replace h := ite_f c_1 h
    refine lv_iload_n hx hb dX0_hasHour_4 rfl (lv_at hl 1 rfl) ?_
    refine lv_aload_n hx hb dX0_hasHour_5 rfl (lv_at hl 0 rfl) ?_
    refine gt_X0_34 S hK hP hb0 dX0_hasHour_6 ?_
    refine lv_icmp_ge (tgt := 16) hx hb dX0_hasHour_9 (by decide) (fun c_9 => ?_) (fun c_9 => ?_)
    · replace h := ite_t c_9 h
      refine lv_iconst (v := (0 : Int32)) hx hb dX0_hasHour_16 (by decide) ?_
      exact k_zret S hr hlocks hP hS (Option.some.inj h) (Or.inl rfl) dX0_hasHour_17
    · replace h := ite_f c_9 h
      refine lv_iconst (v := (1 : Int32)) hx hb dX0_hasHour_12 (by decide) ?_
      refine lv_goto (tgt := 17) hx hb dX0_hasHour_13 (by decide) ?_
      exact k_zret S hr hlocks hP hS (Option.some.inj h) (Or.inr rfl) dX0_hasHour_17
def f_X0_hasSwearer (σ : SX) (b : Nat) (x1 : Int32) : Option Int32 := if x1 < 0 then (some (0 : Int32)) else (if (gF σ b 1) ≤ x1 then (some (0 : Int32)) else (some (1 : Int32)))
set_option maxRecDepth 100000 in
set_option maxHeartbeats 4000000 in
theorem k_X0_hasSwearer (l : Launch) {D : va_G} {A : Nat → Prop} {cI cZ cS : ClassId} {ad : Nat → Nat} {ro : Option Nat} (hAd : ∀ ro σ, va_D A (WX cI cZ cS ad ro σ)) {σ : SX} {b : Nat} {x1 : Int32} {r : Int32} (hb0 : isDy b) (h : f_X0_hasSwearer σ b x1 = some r) : Ct (QI D A r (WX cI cZ cS ad ro σ)) l yX0_hasSwearer cX0_hasSwearer 2 (some .boolean) 0 0 D (tyS cI cZ cS) A [.ref (ad b), .int x1] (WX cI cZ cS ad ro σ) := by
  refine Ct.of (by decide +kernel) (Nat.le_of_ble_eq_true rfl) ?_
  intro p e s m below meth c ls S hK hr hlocks hP hS hl
  have hx := S.1
  have hb := S.2.1
  have hl : lv_has ls 2 [(0, .ref (ad b)), (1, .int x1)] := hl
  rw [f_X0_hasSwearer] at h
  refine lv_iload_n hx hb dX0_hasSwearer_0 rfl (lv_at hl 1 rfl) ?_
  refine lv_if_lt (tgt := 16) hx hb dX0_hasSwearer_1 (by decide) (fun c_1 => ?_) (fun c_1 => ?_)
  · replace h := ite_t c_1 h
    refine lv_iconst (v := (0 : Int32)) hx hb dX0_hasSwearer_16 (by decide) ?_
    exact k_zret S hr hlocks hP hS (Option.some.inj h) (Or.inl rfl) dX0_hasSwearer_17
  · replace h := ite_f c_1 h
    refine lv_iload_n hx hb dX0_hasSwearer_4 rfl (lv_at hl 1 rfl) ?_
    refine lv_aload_n hx hb dX0_hasSwearer_5 rfl (lv_at hl 0 rfl) ?_
    refine gt_X0_37 S hK hP hb0 dX0_hasSwearer_6 ?_
    refine lv_icmp_ge (tgt := 16) hx hb dX0_hasSwearer_9 (by decide) (fun c_9 => ?_) (fun c_9 => ?_)
    · replace h := ite_t c_9 h
      refine lv_iconst (v := (0 : Int32)) hx hb dX0_hasSwearer_16 (by decide) ?_
      exact k_zret S hr hlocks hP hS (Option.some.inj h) (Or.inl rfl) dX0_hasSwearer_17
    · replace h := ite_f c_9 h
      refine lv_iconst (v := (1 : Int32)) hx hb dX0_hasSwearer_12 (by decide) ?_
      refine lv_goto (tgt := 17) hx hb dX0_hasSwearer_13 (by decide) ?_
      exact k_zret S hr hlocks hP hS (Option.some.inj h) (Or.inr rfl) dX0_hasSwearer_17
def f_X0_hasOath (σ : SX) (b : Nat) (x1 : Int32) : Option Int32 := if x1 < 0 then (some (0 : Int32)) else (if (gF σ b 2) ≤ x1 then (some (0 : Int32)) else (some (1 : Int32)))
set_option maxRecDepth 100000 in
set_option maxHeartbeats 4000000 in
theorem k_X0_hasOath (l : Launch) {D : va_G} {A : Nat → Prop} {cI cZ cS : ClassId} {ad : Nat → Nat} {ro : Option Nat} (hAd : ∀ ro σ, va_D A (WX cI cZ cS ad ro σ)) {σ : SX} {b : Nat} {x1 : Int32} {r : Int32} (hb0 : isDy b) (h : f_X0_hasOath σ b x1 = some r) : Ct (QI D A r (WX cI cZ cS ad ro σ)) l yX0_hasOath cX0_hasOath 2 (some .boolean) 0 0 D (tyS cI cZ cS) A [.ref (ad b), .int x1] (WX cI cZ cS ad ro σ) := by
  refine Ct.of (by decide +kernel) (Nat.le_of_ble_eq_true rfl) ?_
  intro p e s m below meth c ls S hK hr hlocks hP hS hl
  have hx := S.1
  have hb := S.2.1
  have hl : lv_has ls 2 [(0, .ref (ad b)), (1, .int x1)] := hl
  rw [f_X0_hasOath] at h
  refine lv_iload_n hx hb dX0_hasOath_0 rfl (lv_at hl 1 rfl) ?_
  refine lv_if_lt (tgt := 16) hx hb dX0_hasOath_1 (by decide) (fun c_1 => ?_) (fun c_1 => ?_)
  · replace h := ite_t c_1 h
    refine lv_iconst (v := (0 : Int32)) hx hb dX0_hasOath_16 (by decide) ?_
    exact k_zret S hr hlocks hP hS (Option.some.inj h) (Or.inl rfl) dX0_hasOath_17
  · replace h := ite_f c_1 h
    refine lv_iload_n hx hb dX0_hasOath_4 rfl (lv_at hl 1 rfl) ?_
    refine lv_aload_n hx hb dX0_hasOath_5 rfl (lv_at hl 0 rfl) ?_
    refine gt_X0_40 S hK hP hb0 dX0_hasOath_6 ?_
    refine lv_icmp_ge (tgt := 16) hx hb dX0_hasOath_9 (by decide) (fun c_9 => ?_) (fun c_9 => ?_)
    · replace h := ite_t c_9 h
      refine lv_iconst (v := (0 : Int32)) hx hb dX0_hasOath_16 (by decide) ?_
      exact k_zret S hr hlocks hP hS (Option.some.inj h) (Or.inl rfl) dX0_hasOath_17
    · replace h := ite_f c_9 h
      refine lv_iconst (v := (1 : Int32)) hx hb dX0_hasOath_12 (by decide) ?_
      refine lv_goto (tgt := 17) hx hb dX0_hasOath_13 (by decide) ?_
      exact k_zret S hr hlocks hP hS (Option.some.inj h) (Or.inr rfl) dX0_hasOath_17
def f_X0_addHour (σ : SX) (b : Nat) (x1 : Int32) : Option (Unit × SX) := if (6 : Int32) ≤ (gF σ b 0) then (some ((), σ)) else (oin (gF σ b 0) 6 (some ((), sF (sR σ (b + 1) (upd (gR σ (b + 1)) (gF σ b 0).toNatClampNeg x1)) b 0 ((gF (sR σ (b + 1) (upd (gR σ (b + 1)) (gF σ b 0).toNatClampNeg x1)) b 0) + (1 : Int32)))))
set_option maxRecDepth 100000 in
set_option maxHeartbeats 4000000 in
theorem k_X0_addHour (l : Launch) {D : va_G} {A : Nat → Prop} {cI cZ cS : ClassId} {ad : Nat → Nat} {ro : Option Nat} (hAd : ∀ ro σ, va_D A (WX cI cZ cS ad ro σ)) {σ : SX} {b : Nat} {x1 : Int32} {σ' : SX} {r : Unit} (hb0 : isDy b) (h : f_X0_addHour σ b x1 = some (r, σ')) : Ct (QV D A (WX cI cZ cS ad ro (σ'))) l yX0_addHour cX0_addHour 2 none 0 0 D (tyS cI cZ cS) A [.ref (ad b), .int x1] (WX cI cZ cS ad ro σ) := by
  refine Ct.of (by decide +kernel) (Nat.le_of_ble_eq_true rfl) ?_
  intro p e s m below meth c ls S hK hr hlocks hP hS hl
  have hx := S.1
  have hb := S.2.1
  have hl : lv_has ls 2 [(0, .ref (ad b)), (1, .int x1)] := hl
  rw [f_X0_addHour] at h
  refine lv_aload_n hx hb dX0_addHour_0 rfl (lv_at hl 0 rfl) ?_
  refine gt_X0_34 S hK hP hb0 dX0_addHour_1 ?_
  refine lv_bipush (v := (6 : Int32)) hx hb dX0_addHour_4 (by decide) ?_
  refine lv_icmp_ge (tgt := 29) hx hb dX0_addHour_6 (by decide) (fun c_6 => ?_) (fun c_6 => ?_)
  · replace h := ite_t c_6 h
    obtain ⟨rfl, rfl⟩ := some_pair h
    exact k_vret S hr hlocks hP hS dX0_addHour_29
  · replace h := ite_f c_6 h
    refine lv_aload_n hx hb dX0_addHour_9 rfl (lv_at hl 0 rfl) ?_
    refine gt_X0_15 S hK hP hb0 dX0_addHour_10 ?_
    refine lv_aload_n hx hb dX0_addHour_13 rfl (lv_at hl 0 rfl) ?_
    refine gt_X0_34 S hK hP hb0 dX0_addHour_14 ?_
    refine lv_iload_n hx hb dX0_addHour_17 rfl (lv_at hl 1 rfl) ?_
    obtain ⟨hi_18, h⟩ := oin_of h
    refine k_iast S hK hP (hAd _ _) hS (xDr1 hb0) (xDr1_s hb0) hi_18 dX0_addHour_18 (fun H locs hP hS => ?_)
    refine lv_aload_n hx hb dX0_addHour_19 rfl (lv_at hl 0 rfl) ?_
    refine lv_dup hx hb dX0_addHour_20 rfl ?_
    refine gt_X0_34 S hK hP hb0 dX0_addHour_21 ?_
    refine lv_iconst (v := (1 : Int32)) hx hb dX0_addHour_24 (by decide) ?_
    refine lv_iadd hx hb dX0_addHour_25 ?_
    refine pt_X0_34 S hK hP (hAd _ _) hS hb0 dX0_addHour_26 (fun H locs hP hS => ?_)
    obtain ⟨rfl, rfl⟩ := some_pair h
    exact k_vret S hr hlocks hP hS dX0_addHour_29
def f_X0_addSwearer (σ : SX) (b : Nat) (x1 : Int32) (x2 : Int32) : Option (Unit × SX) := if (4 : Int32) ≤ (gF σ b 1) then (some ((), σ)) else (oin (gF σ b 1) 4 (oin (gF (sR σ (b + 2) (upd (gR σ (b + 2)) (gF σ b 1).toNatClampNeg x1)) b 1) 4 (some ((), sF (sR (sR σ (b + 2) (upd (gR σ (b + 2)) (gF σ b 1).toNatClampNeg x1)) (b + 3) (upd (gR (sR σ (b + 2) (upd (gR σ (b + 2)) (gF σ b 1).toNatClampNeg x1)) (b + 3)) (gF (sR σ (b + 2) (upd (gR σ (b + 2)) (gF σ b 1).toNatClampNeg x1)) b 1).toNatClampNeg x2)) b 1 ((gF (sR (sR σ (b + 2) (upd (gR σ (b + 2)) (gF σ b 1).toNatClampNeg x1)) (b + 3) (upd (gR (sR σ (b + 2) (upd (gR σ (b + 2)) (gF σ b 1).toNatClampNeg x1)) (b + 3)) (gF (sR σ (b + 2) (upd (gR σ (b + 2)) (gF σ b 1).toNatClampNeg x1)) b 1).toNatClampNeg x2)) b 1) + (1 : Int32))))))
set_option maxRecDepth 100000 in
set_option maxHeartbeats 4000000 in
theorem k_X0_addSwearer (l : Launch) {D : va_G} {A : Nat → Prop} {cI cZ cS : ClassId} {ad : Nat → Nat} {ro : Option Nat} (hAd : ∀ ro σ, va_D A (WX cI cZ cS ad ro σ)) {σ : SX} {b : Nat} {x1 : Int32} {x2 : Int32} {σ' : SX} {r : Unit} (hb0 : isDy b) (h : f_X0_addSwearer σ b x1 x2 = some (r, σ')) : Ct (QV D A (WX cI cZ cS ad ro (σ'))) l yX0_addSwearer cX0_addSwearer 3 none 0 0 D (tyS cI cZ cS) A [.ref (ad b), .int x1, .int x2] (WX cI cZ cS ad ro σ) := by
  refine Ct.of (by decide +kernel) (Nat.le_of_ble_eq_true rfl) ?_
  intro p e s m below meth c ls S hK hr hlocks hP hS hl
  have hx := S.1
  have hb := S.2.1
  have hl : lv_has ls 3 [(0, .ref (ad b)), (1, .int x1), (2, .int x2)] := hl
  rw [f_X0_addSwearer] at h
  refine lv_aload_n hx hb dX0_addSwearer_0 rfl (lv_at hl 0 rfl) ?_
  refine gt_X0_37 S hK hP hb0 dX0_addSwearer_1 ?_
  refine lv_iconst (v := (4 : Int32)) hx hb dX0_addSwearer_4 (by decide) ?_
  refine lv_icmp_ge (tgt := 38) hx hb dX0_addSwearer_5 (by decide) (fun c_5 => ?_) (fun c_5 => ?_)
  · replace h := ite_t c_5 h
    obtain ⟨rfl, rfl⟩ := some_pair h
    exact k_vret S hr hlocks hP hS dX0_addSwearer_38
  · replace h := ite_f c_5 h
    refine lv_aload_n hx hb dX0_addSwearer_8 rfl (lv_at hl 0 rfl) ?_
    refine gt_X0_19 S hK hP hb0 dX0_addSwearer_9 ?_
    refine lv_aload_n hx hb dX0_addSwearer_12 rfl (lv_at hl 0 rfl) ?_
    refine gt_X0_37 S hK hP hb0 dX0_addSwearer_13 ?_
    refine lv_iload_n hx hb dX0_addSwearer_16 rfl (lv_at hl 1 rfl) ?_
    obtain ⟨hi_17, h⟩ := oin_of h
    refine k_iast S hK hP (hAd _ _) hS (xDr2 hb0) (xDr2_s hb0) hi_17 dX0_addSwearer_17 (fun H locs hP hS => ?_)
    refine lv_aload_n hx hb dX0_addSwearer_18 rfl (lv_at hl 0 rfl) ?_
    refine gt_X0_22 S hK hP hb0 dX0_addSwearer_19 ?_
    refine lv_aload_n hx hb dX0_addSwearer_22 rfl (lv_at hl 0 rfl) ?_
    refine gt_X0_37 S hK hP hb0 dX0_addSwearer_23 ?_
    refine lv_iload_n hx hb dX0_addSwearer_26 rfl (lv_at hl 2 rfl) ?_
    obtain ⟨hi_27, h⟩ := oin_of h
    refine k_iast S hK hP (hAd _ _) hS (xDr3 hb0) (xDr3_s hb0) hi_27 dX0_addSwearer_27 (fun H locs hP hS => ?_)
    refine lv_aload_n hx hb dX0_addSwearer_28 rfl (lv_at hl 0 rfl) ?_
    refine lv_dup hx hb dX0_addSwearer_29 rfl ?_
    refine gt_X0_37 S hK hP hb0 dX0_addSwearer_30 ?_
    refine lv_iconst (v := (1 : Int32)) hx hb dX0_addSwearer_33 (by decide) ?_
    refine lv_iadd hx hb dX0_addSwearer_34 ?_
    refine pt_X0_37 S hK hP (hAd _ _) hS hb0 dX0_addSwearer_35 (fun H locs hP hS => ?_)
    obtain ⟨rfl, rfl⟩ := some_pair h
    exact k_vret S hr hlocks hP hS dX0_addSwearer_38
def f_X0_addOath (σ : SX) (b : Nat) (x1 : Int32) (x2 : Int32) (x3 : Int32) : Option (Unit × SX) := if (6 : Int32) ≤ (gF σ b 2) then (some ((), σ)) else (oin (gF σ b 2) 6 (oin (gF (sR σ (b + 4) (upd (gR σ (b + 4)) (gF σ b 2).toNatClampNeg x1)) b 2) 6 (oin (gF (sR (sR σ (b + 4) (upd (gR σ (b + 4)) (gF σ b 2).toNatClampNeg x1)) (b + 5) (upd (gR (sR σ (b + 4) (upd (gR σ (b + 4)) (gF σ b 2).toNatClampNeg x1)) (b + 5)) (gF (sR σ (b + 4) (upd (gR σ (b + 4)) (gF σ b 2).toNatClampNeg x1)) b 2).toNatClampNeg x2)) b 2) 6 (some ((), sF (sR (sR (sR σ (b + 4) (upd (gR σ (b + 4)) (gF σ b 2).toNatClampNeg x1)) (b + 5) (upd (gR (sR σ (b + 4) (upd (gR σ (b + 4)) (gF σ b 2).toNatClampNeg x1)) (b + 5)) (gF (sR σ (b + 4) (upd (gR σ (b + 4)) (gF σ b 2).toNatClampNeg x1)) b 2).toNatClampNeg x2)) (b + 6) (upd (gR (sR (sR σ (b + 4) (upd (gR σ (b + 4)) (gF σ b 2).toNatClampNeg x1)) (b + 5) (upd (gR (sR σ (b + 4) (upd (gR σ (b + 4)) (gF σ b 2).toNatClampNeg x1)) (b + 5)) (gF (sR σ (b + 4) (upd (gR σ (b + 4)) (gF σ b 2).toNatClampNeg x1)) b 2).toNatClampNeg x2)) (b + 6)) (gF (sR (sR σ (b + 4) (upd (gR σ (b + 4)) (gF σ b 2).toNatClampNeg x1)) (b + 5) (upd (gR (sR σ (b + 4) (upd (gR σ (b + 4)) (gF σ b 2).toNatClampNeg x1)) (b + 5)) (gF (sR σ (b + 4) (upd (gR σ (b + 4)) (gF σ b 2).toNatClampNeg x1)) b 2).toNatClampNeg x2)) b 2).toNatClampNeg x3)) b 2 ((gF (sR (sR (sR σ (b + 4) (upd (gR σ (b + 4)) (gF σ b 2).toNatClampNeg x1)) (b + 5) (upd (gR (sR σ (b + 4) (upd (gR σ (b + 4)) (gF σ b 2).toNatClampNeg x1)) (b + 5)) (gF (sR σ (b + 4) (upd (gR σ (b + 4)) (gF σ b 2).toNatClampNeg x1)) b 2).toNatClampNeg x2)) (b + 6) (upd (gR (sR (sR σ (b + 4) (upd (gR σ (b + 4)) (gF σ b 2).toNatClampNeg x1)) (b + 5) (upd (gR (sR σ (b + 4) (upd (gR σ (b + 4)) (gF σ b 2).toNatClampNeg x1)) (b + 5)) (gF (sR σ (b + 4) (upd (gR σ (b + 4)) (gF σ b 2).toNatClampNeg x1)) b 2).toNatClampNeg x2)) (b + 6)) (gF (sR (sR σ (b + 4) (upd (gR σ (b + 4)) (gF σ b 2).toNatClampNeg x1)) (b + 5) (upd (gR (sR σ (b + 4) (upd (gR σ (b + 4)) (gF σ b 2).toNatClampNeg x1)) (b + 5)) (gF (sR σ (b + 4) (upd (gR σ (b + 4)) (gF σ b 2).toNatClampNeg x1)) b 2).toNatClampNeg x2)) b 2).toNatClampNeg x3)) b 2) + (1 : Int32)))))))
set_option maxRecDepth 100000 in
set_option maxHeartbeats 4000000 in
theorem k_X0_addOath (l : Launch) {D : va_G} {A : Nat → Prop} {cI cZ cS : ClassId} {ad : Nat → Nat} {ro : Option Nat} (hAd : ∀ ro σ, va_D A (WX cI cZ cS ad ro σ)) {σ : SX} {b : Nat} {x1 : Int32} {x2 : Int32} {x3 : Int32} {σ' : SX} {r : Unit} (hb0 : isDy b) (h : f_X0_addOath σ b x1 x2 x3 = some (r, σ')) : Ct (QV D A (WX cI cZ cS ad ro (σ'))) l yX0_addOath cX0_addOath 4 none 0 0 D (tyS cI cZ cS) A [.ref (ad b), .int x1, .int x2, .int x3] (WX cI cZ cS ad ro σ) := by
  refine Ct.of (by decide +kernel) (Nat.le_of_ble_eq_true rfl) ?_
  intro p e s m below meth c ls S hK hr hlocks hP hS hl
  have hx := S.1
  have hb := S.2.1
  have hl : lv_has ls 4 [(0, .ref (ad b)), (1, .int x1), (2, .int x2), (3, .int x3)] := hl
  rw [f_X0_addOath] at h
  refine lv_aload_n hx hb dX0_addOath_0 rfl (lv_at hl 0 rfl) ?_
  refine gt_X0_40 S hK hP hb0 dX0_addOath_1 ?_
  refine lv_bipush (v := (6 : Int32)) hx hb dX0_addOath_4 (by decide) ?_
  refine lv_icmp_ge (tgt := 49) hx hb dX0_addOath_6 (by decide) (fun c_6 => ?_) (fun c_6 => ?_)
  · replace h := ite_t c_6 h
    obtain ⟨rfl, rfl⟩ := some_pair h
    exact k_vret S hr hlocks hP hS dX0_addOath_49
  · replace h := ite_f c_6 h
    refine lv_aload_n hx hb dX0_addOath_9 rfl (lv_at hl 0 rfl) ?_
    refine gt_X0_25 S hK hP hb0 dX0_addOath_10 ?_
    refine lv_aload_n hx hb dX0_addOath_13 rfl (lv_at hl 0 rfl) ?_
    refine gt_X0_40 S hK hP hb0 dX0_addOath_14 ?_
    refine lv_iload_n hx hb dX0_addOath_17 rfl (lv_at hl 1 rfl) ?_
    obtain ⟨hi_18, h⟩ := oin_of h
    refine k_iast S hK hP (hAd _ _) hS (xDr4 hb0) (xDr4_s hb0) hi_18 dX0_addOath_18 (fun H locs hP hS => ?_)
    refine lv_aload_n hx hb dX0_addOath_19 rfl (lv_at hl 0 rfl) ?_
    refine gt_X0_28 S hK hP hb0 dX0_addOath_20 ?_
    refine lv_aload_n hx hb dX0_addOath_23 rfl (lv_at hl 0 rfl) ?_
    refine gt_X0_40 S hK hP hb0 dX0_addOath_24 ?_
    refine lv_iload_n hx hb dX0_addOath_27 rfl (lv_at hl 2 rfl) ?_
    obtain ⟨hi_28, h⟩ := oin_of h
    refine k_iast S hK hP (hAd _ _) hS (xDr5 hb0) (xDr5_s hb0) hi_28 dX0_addOath_28 (fun H locs hP hS => ?_)
    refine lv_aload_n hx hb dX0_addOath_29 rfl (lv_at hl 0 rfl) ?_
    refine gt_X0_31 S hK hP hb0 dX0_addOath_30 ?_
    refine lv_aload_n hx hb dX0_addOath_33 rfl (lv_at hl 0 rfl) ?_
    refine gt_X0_40 S hK hP hb0 dX0_addOath_34 ?_
    refine lv_iload_n hx hb dX0_addOath_37 rfl (lv_at hl 3 rfl) ?_
    obtain ⟨hi_38, h⟩ := oin_of h
    refine k_iast S hK hP (hAd _ _) hS (xDr6 hb0) (xDr6_s hb0) hi_38 dX0_addOath_38 (fun H locs hP hS => ?_)
    refine lv_aload_n hx hb dX0_addOath_39 rfl (lv_at hl 0 rfl) ?_
    refine lv_dup hx hb dX0_addOath_40 rfl ?_
    refine gt_X0_40 S hK hP hb0 dX0_addOath_41 ?_
    refine lv_iconst (v := (1 : Int32)) hx hb dX0_addOath_44 (by decide) ?_
    refine lv_iadd hx hb dX0_addOath_45 ?_
    refine pt_X0_40 S hK hP (hAd _ _) hS hb0 dX0_addOath_46 (fun H locs hP hS => ?_)
    obtain ⟨rfl, rfl⟩ := some_pair h
    exact k_vret S hr hlocks hP hS dX0_addOath_49
def f_X0_dropOath_L13 (b : Nat) : Nat → SX → Int32 → Int32 → Option (Unit × SX)
  | 0, _, _, _ => none
  | n + 1, σ, y1, y2 => if (gF σ b 2) ≤ y2 then (some ((), sF σ b 2 ((gF σ b 2) - (1 : Int32)))) else (oin y2 6 (oin (y2 - (1 : Int32)) 6 (oin y2 6 (oin (y2 - (1 : Int32)) 6 (oin y2 6 (oin (y2 - (1 : Int32)) 6 (f_X0_dropOath_L13 b n (sR (sR (sR σ (b + 4) (upd (gR σ (b + 4)) (y2 - (1 : Int32)).toNatClampNeg (gR σ (b + 4) y2.toNatClampNeg))) (b + 5) (upd (gR (sR σ (b + 4) (upd (gR σ (b + 4)) (y2 - (1 : Int32)).toNatClampNeg (gR σ (b + 4) y2.toNatClampNeg))) (b + 5)) (y2 - (1 : Int32)).toNatClampNeg (gR (sR σ (b + 4) (upd (gR σ (b + 4)) (y2 - (1 : Int32)).toNatClampNeg (gR σ (b + 4) y2.toNatClampNeg))) (b + 5) y2.toNatClampNeg))) (b + 6) (upd (gR (sR (sR σ (b + 4) (upd (gR σ (b + 4)) (y2 - (1 : Int32)).toNatClampNeg (gR σ (b + 4) y2.toNatClampNeg))) (b + 5) (upd (gR (sR σ (b + 4) (upd (gR σ (b + 4)) (y2 - (1 : Int32)).toNatClampNeg (gR σ (b + 4) y2.toNatClampNeg))) (b + 5)) (y2 - (1 : Int32)).toNatClampNeg (gR (sR σ (b + 4) (upd (gR σ (b + 4)) (y2 - (1 : Int32)).toNatClampNeg (gR σ (b + 4) y2.toNatClampNeg))) (b + 5) y2.toNatClampNeg))) (b + 6)) (y2 - (1 : Int32)).toNatClampNeg (gR (sR (sR σ (b + 4) (upd (gR σ (b + 4)) (y2 - (1 : Int32)).toNatClampNeg (gR σ (b + 4) y2.toNatClampNeg))) (b + 5) (upd (gR (sR σ (b + 4) (upd (gR σ (b + 4)) (y2 - (1 : Int32)).toNatClampNeg (gR σ (b + 4) y2.toNatClampNeg))) (b + 5)) (y2 - (1 : Int32)).toNatClampNeg (gR (sR σ (b + 4) (upd (gR σ (b + 4)) (y2 - (1 : Int32)).toNatClampNeg (gR σ (b + 4) y2.toNatClampNeg))) (b + 5) y2.toNatClampNeg))) (b + 6) y2.toNatClampNeg))) y1 (y2 + (1 : Int32)))))))))
def f_X0_dropOath (σ : SX) (b : Nat) (x1 : Int32) : Option (Unit × SX) := ob1 (f_X0_hasOath σ b x1) (fun r_2 => if r_2 = 0 then (some ((), σ)) else (f_X0_dropOath_L13 b 100 σ x1 (x1 + (1 : Int32))))
set_option maxRecDepth 100000 in
set_option maxHeartbeats 4000000 in
theorem k_X0_dropOath (l : Launch) {D : va_G} {A : Nat → Prop} {cI cZ cS : ClassId} {ad : Nat → Nat} {ro : Option Nat} (hAd : ∀ ro σ, va_D A (WX cI cZ cS ad ro σ)) {σ : SX} {b : Nat} {x1 : Int32} {σ' : SX} {r : Unit} (hb0 : isDy b) (h : f_X0_dropOath σ b x1 = some (r, σ')) : Ct (QV D A (WX cI cZ cS ad ro (σ'))) l yX0_dropOath cX0_dropOath 3 none 1 21 D (tyS cI cZ cS) A [.ref (ad b), .int x1] (WX cI cZ cS ad ro σ) := by
  refine Ct.of (by decide +kernel) (Nat.le_of_ble_eq_true rfl) ?_
  intro p e s m below meth c ls S hK hr hlocks hP hS hl
  have hx := S.1
  have hb := S.2.1
  have hl : lv_has ls 3 [(0, .ref (ad b)), (1, .int x1)] := hl
  have loop13 : ∀ (n : Nat) (σ : SX) (y1 : Int32) (y2 : Int32) (H : Heap) (locs : List Loc) (ls : Array Slot), f_X0_dropOath_L13 b n σ y1 y2 = some (r, σ') → va_P D vwCl (WX cI cZ cS ad ro σ) H → va_S A s.heap H locs → lv_has ls 3 [(0, .ref (ad b)), (1, .int y1), (2, .int y2)] → W p l e (rmO 1 21) s m [.ref (ad b), .int x1].toArray below meth c H locs 0 0 (MQ below (QV D A (WX cI cZ cS ad ro (σ'))) [.ref (ad b), .int x1].toArray s 0 0 A) (F0 m 13 ls []) := by
    intro n
    induction n with
    | zero => intro σ y1 y2 H locs ls h; cases h
    | succ n ih =>
      intro σ y1 y2 H locs ls h hP hS hl
      rw [f_X0_dropOath_L13] at h
      refine lv_iload_n hx hb dX0_dropOath_13 rfl (lv_at hl 2 rfl) ?_
      refine lv_aload_n hx hb dX0_dropOath_14 rfl (lv_at hl 0 rfl) ?_
      refine gt_X0_40 S hK hP hb0 dX0_dropOath_15 ?_
      refine lv_icmp_ge (tgt := 69) hx hb dX0_dropOath_18 (by decide) (fun c_18 => ?_) (fun c_18 => ?_)
      · replace h := ite_t c_18 h
        refine lv_aload_n hx hb dX0_dropOath_69 rfl (lv_at hl 0 rfl) ?_
        refine lv_dup hx hb dX0_dropOath_70 rfl ?_
        refine gt_X0_40 S hK hP hb0 dX0_dropOath_71 ?_
        refine lv_iconst (v := (1 : Int32)) hx hb dX0_dropOath_74 (by decide) ?_
        refine lv_isub hx hb dX0_dropOath_75 ?_
        refine pt_X0_40 S hK hP (hAd _ _) hS hb0 dX0_dropOath_76 (fun H locs hP hS => ?_)
        obtain ⟨rfl, rfl⟩ := some_pair h
        exact k_vret S hr hlocks hP hS dX0_dropOath_79
      · replace h := ite_f c_18 h
        refine lv_aload_n hx hb dX0_dropOath_21 rfl (lv_at hl 0 rfl) ?_
        refine gt_X0_25 S hK hP hb0 dX0_dropOath_22 ?_
        refine lv_iload_n hx hb dX0_dropOath_25 rfl (lv_at hl 2 rfl) ?_
        refine lv_iconst (v := (1 : Int32)) hx hb dX0_dropOath_26 (by decide) ?_
        refine lv_isub hx hb dX0_dropOath_27 ?_
        refine lv_aload_n hx hb dX0_dropOath_28 rfl (lv_at hl 0 rfl) ?_
        refine gt_X0_25 S hK hP hb0 dX0_dropOath_29 ?_
        refine lv_iload_n hx hb dX0_dropOath_32 rfl (lv_at hl 2 rfl) ?_
        obtain ⟨hi_33, h⟩ := oin_of h
        refine k_iald S hK hP (xDr4 hb0) hi_33 dX0_dropOath_33 ?_
        obtain ⟨hi_34, h⟩ := oin_of h
        refine k_iast S hK hP (hAd _ _) hS (xDr4 hb0) (xDr4_s hb0) hi_34 dX0_dropOath_34 (fun H locs hP hS => ?_)
        refine lv_aload_n hx hb dX0_dropOath_35 rfl (lv_at hl 0 rfl) ?_
        refine gt_X0_28 S hK hP hb0 dX0_dropOath_36 ?_
        refine lv_iload_n hx hb dX0_dropOath_39 rfl (lv_at hl 2 rfl) ?_
        refine lv_iconst (v := (1 : Int32)) hx hb dX0_dropOath_40 (by decide) ?_
        refine lv_isub hx hb dX0_dropOath_41 ?_
        refine lv_aload_n hx hb dX0_dropOath_42 rfl (lv_at hl 0 rfl) ?_
        refine gt_X0_28 S hK hP hb0 dX0_dropOath_43 ?_
        refine lv_iload_n hx hb dX0_dropOath_46 rfl (lv_at hl 2 rfl) ?_
        obtain ⟨hi_47, h⟩ := oin_of h
        refine k_iald S hK hP (xDr5 hb0) hi_47 dX0_dropOath_47 ?_
        obtain ⟨hi_48, h⟩ := oin_of h
        refine k_iast S hK hP (hAd _ _) hS (xDr5 hb0) (xDr5_s hb0) hi_48 dX0_dropOath_48 (fun H locs hP hS => ?_)
        refine lv_aload_n hx hb dX0_dropOath_49 rfl (lv_at hl 0 rfl) ?_
        refine gt_X0_31 S hK hP hb0 dX0_dropOath_50 ?_
        refine lv_iload_n hx hb dX0_dropOath_53 rfl (lv_at hl 2 rfl) ?_
        refine lv_iconst (v := (1 : Int32)) hx hb dX0_dropOath_54 (by decide) ?_
        refine lv_isub hx hb dX0_dropOath_55 ?_
        refine lv_aload_n hx hb dX0_dropOath_56 rfl (lv_at hl 0 rfl) ?_
        refine gt_X0_31 S hK hP hb0 dX0_dropOath_57 ?_
        refine lv_iload_n hx hb dX0_dropOath_60 rfl (lv_at hl 2 rfl) ?_
        obtain ⟨hi_61, h⟩ := oin_of h
        refine k_iald S hK hP (xDr6 hb0) hi_61 dX0_dropOath_61 ?_
        obtain ⟨hi_62, h⟩ := oin_of h
        refine k_iast S hK hP (hAd _ _) hS (xDr6 hb0) (xDr6_s hb0) hi_62 dX0_dropOath_62 (fun H locs hP hS => ?_)
        refine lv_iinc (v := y2 + (1 : Int32)) (lv' := [(2, .int (y2 + (1 : Int32))), (0, .ref (ad b)), (1, .int y1)]) hx hb dX0_dropOath_63 hl (k := 2) rfl rfl (by decide) rfl (fun ls hl => ?_)
        refine lv_goto (tgt := 13) hx hb dX0_dropOath_66 (by decide) ?_
        exact ih (sR (sR (sR σ (b + 4) (upd (gR σ (b + 4)) (y2 - (1 : Int32)).toNatClampNeg (gR σ (b + 4) y2.toNatClampNeg))) (b + 5) (upd (gR (sR σ (b + 4) (upd (gR σ (b + 4)) (y2 - (1 : Int32)).toNatClampNeg (gR σ (b + 4) y2.toNatClampNeg))) (b + 5)) (y2 - (1 : Int32)).toNatClampNeg (gR (sR σ (b + 4) (upd (gR σ (b + 4)) (y2 - (1 : Int32)).toNatClampNeg (gR σ (b + 4) y2.toNatClampNeg))) (b + 5) y2.toNatClampNeg))) (b + 6) (upd (gR (sR (sR σ (b + 4) (upd (gR σ (b + 4)) (y2 - (1 : Int32)).toNatClampNeg (gR σ (b + 4) y2.toNatClampNeg))) (b + 5) (upd (gR (sR σ (b + 4) (upd (gR σ (b + 4)) (y2 - (1 : Int32)).toNatClampNeg (gR σ (b + 4) y2.toNatClampNeg))) (b + 5)) (y2 - (1 : Int32)).toNatClampNeg (gR (sR σ (b + 4) (upd (gR σ (b + 4)) (y2 - (1 : Int32)).toNatClampNeg (gR σ (b + 4) y2.toNatClampNeg))) (b + 5) y2.toNatClampNeg))) (b + 6)) (y2 - (1 : Int32)).toNatClampNeg (gR (sR (sR σ (b + 4) (upd (gR σ (b + 4)) (y2 - (1 : Int32)).toNatClampNeg (gR σ (b + 4) y2.toNatClampNeg))) (b + 5) (upd (gR (sR σ (b + 4) (upd (gR σ (b + 4)) (y2 - (1 : Int32)).toNatClampNeg (gR σ (b + 4) y2.toNatClampNeg))) (b + 5)) (y2 - (1 : Int32)).toNatClampNeg (gR (sR σ (b + 4) (upd (gR σ (b + 4)) (y2 - (1 : Int32)).toNatClampNeg (gR σ (b + 4) y2.toNatClampNeg))) (b + 5) y2.toNatClampNeg))) (b + 6) y2.toNatClampNeg))) y1 (y2 + (1 : Int32)) _ _ _ h hP hS (lv_sub hl [1, 2, 0] rfl)
  rw [f_X0_dropOath] at h
  refine lv_aload_n hx hb dX0_dropOath_0 rfl (lv_at hl 0 rfl) ?_
  refine lv_iload_n hx hb dX0_dropOath_1 rfl (lv_at hl 1 rfl) ?_
  obtain ⟨r_2, e_2, h⟩ := ob1_of h
  refine k_goI (k_runV (As := [.int x1]) (rest := []) S hK hP (k_X0_hasOath l hAd hb0 e_2) cy_X0_hasOath wd_398 rfl (xD hb0) rfl hl.1 rfl (Nat.le_of_ble_eq_true rfl) dX0_dropOath_2 ⟨Nat.le_of_ble_eq_true rfl, Nat.le_of_ble_eq_true rfl⟩ ⟨Nat.zero_le _, Nat.zero_le _⟩) hS (fun _ h => h) (fun H locs hP hS _ _ => ?_)
  refine lv_if_ne (tgt := 9) hx hb dX0_dropOath_5 (by decide) (fun c_5 => ?_) (fun c_5 => ?_)
  · replace h := ite_f c_5 h
    refine lv_iload_n hx hb dX0_dropOath_9 rfl (lv_at hl 1 rfl) ?_
    refine lv_iconst (v := (1 : Int32)) hx hb dX0_dropOath_10 (by decide) ?_
    refine lv_iadd hx hb dX0_dropOath_11 ?_
    refine lv_istore_n (lv' := [(2, .int (x1 + (1 : Int32))), (0, .ref (ad b)), (1, .int x1)]) hx hb dX0_dropOath_12 rfl hl (by decide) rfl (fun ls hl => ?_)
    exact loop13 100 σ x1 (x1 + (1 : Int32)) _ _ _ h hP hS (lv_sub hl [1, 2, 0] rfl)
  · replace h := ite_t c_5 h
    obtain ⟨rfl, rfl⟩ := some_pair h
    exact k_vret S hr hlocks hP hS dX0_dropOath_8
def f_X0_takesStove (σ : SX) (b : Nat) (x1 : Int32) (x2 : Int32) : Option (Int32 × SX) := ob1 (f_X0_hasHour σ b x1) (fun r_2 => if r_2 = 0 then (some ((0 : Int32), σ)) else (ob2 (f_X0_putStove σ b x1 x2) (fun r_13 s_13 => some ((1 : Int32), s_13))))
set_option maxRecDepth 100000 in
set_option maxHeartbeats 4000000 in
theorem k_X0_takesStove (l : Launch) {D : va_G} {A : Nat → Prop} {cI cZ cS : ClassId} {ad : Nat → Nat} {ro : Option Nat} (hAd : ∀ ro σ, va_D A (WX cI cZ cS ad ro σ)) {σ : SX} {b : Nat} {x1 : Int32} {x2 : Int32} {σ' : SX} {r : Int32} (hb0 : isDy b) (h : f_X0_takesStove σ b x1 x2 = some (r, σ')) : Ct (QI D A r (WX cI cZ cS ad ro (σ'))) l yX0_takesStove cX0_takesStove 3 (some .boolean) 1 22 D (tyS cI cZ cS) A [.ref (ad b), .int x1, .int x2] (WX cI cZ cS ad ro σ) := by
  refine Ct.of (by decide +kernel) (Nat.le_of_ble_eq_true rfl) ?_
  intro p e s m below meth c ls S hK hr hlocks hP hS hl
  have hx := S.1
  have hb := S.2.1
  have hl : lv_has ls 3 [(0, .ref (ad b)), (1, .int x1), (2, .int x2)] := hl
  rw [f_X0_takesStove] at h
  refine lv_aload_n hx hb dX0_takesStove_0 rfl (lv_at hl 0 rfl) ?_
  refine lv_iload_n hx hb dX0_takesStove_1 rfl (lv_at hl 1 rfl) ?_
  obtain ⟨r_2, e_2, h⟩ := ob1_of h
  refine k_goI (k_runV (As := [.int x1]) (rest := []) S hK hP (k_X0_hasHour l hAd hb0 e_2) cy_X0_hasHour wd_440 rfl (xD hb0) rfl hl.1 rfl (Nat.le_of_ble_eq_true rfl) dX0_takesStove_2 ⟨Nat.le_of_ble_eq_true rfl, Nat.le_of_ble_eq_true rfl⟩ ⟨Nat.zero_le _, Nat.zero_le _⟩) hS (fun _ h => h) (fun H locs hP hS _ _ => ?_)
  refine lv_if_ne (tgt := 10) hx hb dX0_takesStove_5 (by decide) (fun c_5 => ?_) (fun c_5 => ?_)
  · replace h := ite_f c_5 h
    refine lv_aload_n hx hb dX0_takesStove_10 rfl (lv_at hl 0 rfl) ?_
    refine lv_iload_n hx hb dX0_takesStove_11 rfl (lv_at hl 1 rfl) ?_
    refine lv_iload_n hx hb dX0_takesStove_12 rfl (lv_at hl 2 rfl) ?_
    obtain ⟨r_13, s_13, e_13, h⟩ := ob2_of h
    refine k_goV (k_runV (As := [.int x1, .int x2]) (rest := []) S hK hP (k_X0_putStove l hAd hb0 e_13) cy_X0_putStove wd_252 rfl (xD hb0) rfl hl.1 rfl (Nat.le_of_ble_eq_true rfl) dX0_takesStove_13 ⟨Nat.le_of_ble_eq_true rfl, Nat.le_of_ble_eq_true rfl⟩ ⟨Nat.zero_le _, Nat.zero_le _⟩) hS (fun _ h => h) (fun H locs hP hS _ _ => ?_)
    refine lv_iconst (v := (1 : Int32)) hx hb dX0_takesStove_16 (by decide) ?_
    obtain ⟨rfl, rfl⟩ := some_pair h
    exact k_zret S hr hlocks hP hS rfl (Or.inr rfl) dX0_takesStove_17
  · replace h := ite_t c_5 h
    refine lv_iconst (v := (0 : Int32)) hx hb dX0_takesStove_8 (by decide) ?_
    obtain ⟨rfl, rfl⟩ := some_pair h
    exact k_zret S hr hlocks hP hS rfl (Or.inl rfl) dX0_takesStove_9
def f_X0_takesFrost (σ : SX) (b : Nat) (x1 : Int32) (x2 : Int32) : Option (Int32 × SX) := ob1 (f_X0_hasHour σ b x1) (fun r_2 => if r_2 = 0 then (some ((0 : Int32), σ)) else (oin x1 6 (some ((1 : Int32), sR σ (b + 1) (upd (gR σ (b + 1)) x1.toNatClampNeg x2)))))
set_option maxRecDepth 100000 in
set_option maxHeartbeats 4000000 in
theorem k_X0_takesFrost (l : Launch) {D : va_G} {A : Nat → Prop} {cI cZ cS : ClassId} {ad : Nat → Nat} {ro : Option Nat} (hAd : ∀ ro σ, va_D A (WX cI cZ cS ad ro σ)) {σ : SX} {b : Nat} {x1 : Int32} {x2 : Int32} {σ' : SX} {r : Int32} (hb0 : isDy b) (h : f_X0_takesFrost σ b x1 x2 = some (r, σ')) : Ct (QI D A r (WX cI cZ cS ad ro (σ'))) l yX0_takesFrost cX0_takesFrost 3 (some .boolean) 1 21 D (tyS cI cZ cS) A [.ref (ad b), .int x1, .int x2] (WX cI cZ cS ad ro σ) := by
  refine Ct.of (by decide +kernel) (Nat.le_of_ble_eq_true rfl) ?_
  intro p e s m below meth c ls S hK hr hlocks hP hS hl
  have hx := S.1
  have hb := S.2.1
  have hl : lv_has ls 3 [(0, .ref (ad b)), (1, .int x1), (2, .int x2)] := hl
  rw [f_X0_takesFrost] at h
  refine lv_aload_n hx hb dX0_takesFrost_0 rfl (lv_at hl 0 rfl) ?_
  refine lv_iload_n hx hb dX0_takesFrost_1 rfl (lv_at hl 1 rfl) ?_
  obtain ⟨r_2, e_2, h⟩ := ob1_of h
  refine k_goI (k_runV (As := [.int x1]) (rest := []) S hK hP (k_X0_hasHour l hAd hb0 e_2) cy_X0_hasHour wd_440 rfl (xD hb0) rfl hl.1 rfl (Nat.le_of_ble_eq_true rfl) dX0_takesFrost_2 ⟨Nat.le_of_ble_eq_true rfl, Nat.le_of_ble_eq_true rfl⟩ ⟨Nat.zero_le _, Nat.zero_le _⟩) hS (fun _ h => h) (fun H locs hP hS _ _ => ?_)
  refine lv_if_ne (tgt := 10) hx hb dX0_takesFrost_5 (by decide) (fun c_5 => ?_) (fun c_5 => ?_)
  · replace h := ite_f c_5 h
    refine lv_aload_n hx hb dX0_takesFrost_10 rfl (lv_at hl 0 rfl) ?_
    refine gt_X0_15 S hK hP hb0 dX0_takesFrost_11 ?_
    refine lv_iload_n hx hb dX0_takesFrost_14 rfl (lv_at hl 1 rfl) ?_
    refine lv_iload_n hx hb dX0_takesFrost_15 rfl (lv_at hl 2 rfl) ?_
    obtain ⟨hi_16, h⟩ := oin_of h
    refine k_iast S hK hP (hAd _ _) hS (xDr1 hb0) (xDr1_s hb0) hi_16 dX0_takesFrost_16 (fun H locs hP hS => ?_)
    refine lv_iconst (v := (1 : Int32)) hx hb dX0_takesFrost_17 (by decide) ?_
    obtain ⟨rfl, rfl⟩ := some_pair h
    exact k_zret S hr hlocks hP hS rfl (Or.inr rfl) dX0_takesFrost_18
  · replace h := ite_t c_5 h
    refine lv_iconst (v := (0 : Int32)) hx hb dX0_takesFrost_8 (by decide) ?_
    obtain ⟨rfl, rfl⟩ := some_pair h
    exact k_zret S hr hlocks hP hS rfl (Or.inl rfl) dX0_takesFrost_9
def f_X0_takesCoat (σ : SX) (b : Nat) (x1 : Int32) (x2 : Int32) : Option (Int32 × SX) := ob1 (f_X0_hasSwearer σ b x1) (fun r_2 => if r_2 = 0 then (some ((0 : Int32), σ)) else (oin x1 4 (some ((1 : Int32), sR σ (b + 3) (upd (gR σ (b + 3)) x1.toNatClampNeg x2)))))
set_option maxRecDepth 100000 in
set_option maxHeartbeats 4000000 in
theorem k_X0_takesCoat (l : Launch) {D : va_G} {A : Nat → Prop} {cI cZ cS : ClassId} {ad : Nat → Nat} {ro : Option Nat} (hAd : ∀ ro σ, va_D A (WX cI cZ cS ad ro σ)) {σ : SX} {b : Nat} {x1 : Int32} {x2 : Int32} {σ' : SX} {r : Int32} (hb0 : isDy b) (h : f_X0_takesCoat σ b x1 x2 = some (r, σ')) : Ct (QI D A r (WX cI cZ cS ad ro (σ'))) l yX0_takesCoat cX0_takesCoat 3 (some .boolean) 1 21 D (tyS cI cZ cS) A [.ref (ad b), .int x1, .int x2] (WX cI cZ cS ad ro σ) := by
  refine Ct.of (by decide +kernel) (Nat.le_of_ble_eq_true rfl) ?_
  intro p e s m below meth c ls S hK hr hlocks hP hS hl
  have hx := S.1
  have hb := S.2.1
  have hl : lv_has ls 3 [(0, .ref (ad b)), (1, .int x1), (2, .int x2)] := hl
  rw [f_X0_takesCoat] at h
  refine lv_aload_n hx hb dX0_takesCoat_0 rfl (lv_at hl 0 rfl) ?_
  refine lv_iload_n hx hb dX0_takesCoat_1 rfl (lv_at hl 1 rfl) ?_
  obtain ⟨r_2, e_2, h⟩ := ob1_of h
  refine k_goI (k_runV (As := [.int x1]) (rest := []) S hK hP (k_X0_hasSwearer l hAd hb0 e_2) cy_X0_hasSwearer wd_450 rfl (xD hb0) rfl hl.1 rfl (Nat.le_of_ble_eq_true rfl) dX0_takesCoat_2 ⟨Nat.le_of_ble_eq_true rfl, Nat.le_of_ble_eq_true rfl⟩ ⟨Nat.zero_le _, Nat.zero_le _⟩) hS (fun _ h => h) (fun H locs hP hS _ _ => ?_)
  refine lv_if_ne (tgt := 10) hx hb dX0_takesCoat_5 (by decide) (fun c_5 => ?_) (fun c_5 => ?_)
  · replace h := ite_f c_5 h
    refine lv_aload_n hx hb dX0_takesCoat_10 rfl (lv_at hl 0 rfl) ?_
    refine gt_X0_22 S hK hP hb0 dX0_takesCoat_11 ?_
    refine lv_iload_n hx hb dX0_takesCoat_14 rfl (lv_at hl 1 rfl) ?_
    refine lv_iload_n hx hb dX0_takesCoat_15 rfl (lv_at hl 2 rfl) ?_
    obtain ⟨hi_16, h⟩ := oin_of h
    refine k_iast S hK hP (hAd _ _) hS (xDr3 hb0) (xDr3_s hb0) hi_16 dX0_takesCoat_16 (fun H locs hP hS => ?_)
    refine lv_iconst (v := (1 : Int32)) hx hb dX0_takesCoat_17 (by decide) ?_
    obtain ⟨rfl, rfl⟩ := some_pair h
    exact k_zret S hr hlocks hP hS rfl (Or.inr rfl) dX0_takesCoat_18
  · replace h := ite_t c_5 h
    refine lv_iconst (v := (0 : Int32)) hx hb dX0_takesCoat_8 (by decide) ?_
    obtain ⟨rfl, rfl⟩ := some_pair h
    exact k_zret S hr hlocks hP hS rfl (Or.inl rfl) dX0_takesCoat_9
def f_X0_takesAct (σ : SX) (b : Nat) (x1 : Int32) (x2 : Int32) : Option (Int32 × SX) := if x2 = (17 : Int32) then (ob2 (f_X0_putStove σ b (-9 : Int32) (0 : Int32)) (fun r_10 s_10 => some ((1 : Int32), s_10))) else (if x2 < (11 : Int32) then (if x2 = (10 : Int32) then (ob1 (f_X0_hasOath σ b x1) (fun r_39 => ob2 (f_X0_dropOath σ b x1) (fun r_45 s_45 => oif (r_39 = 0 ∨ r_39 = 1) (some (r_39, s_45))))) else (if x2 < (4 : Int32) then (ob2 (f_X0_takesCoat σ b x2 x1) (fun r_67 s_67 => oif (r_67 = 0 ∨ r_67 = 1) (some (r_67, s_67)))) else (ob2 (f_X0_takesFrost σ b (x2 - (4 : Int32)) x1) (fun r_60 s_60 => oif (r_60 = 0 ∨ r_60 = 1) (some (r_60, s_60)))))) else (ob2 (f_X0_takesStove σ b (x2 - (11 : Int32)) x1) (fun r_27 s_27 => oif (r_27 = 0 ∨ r_27 = 1) (some (r_27, s_27)))))
set_option maxRecDepth 100000 in
set_option maxHeartbeats 4000000 in
theorem k_X0_takesAct (l : Launch) {D : va_G} {A : Nat → Prop} {cI cZ cS : ClassId} {ad : Nat → Nat} {ro : Option Nat} (hAd : ∀ ro σ, va_D A (WX cI cZ cS ad ro σ)) {σ : SX} {b : Nat} {x1 : Int32} {x2 : Int32} {σ' : SX} {r : Int32} (hb0 : isDy b) (h : f_X0_takesAct σ b x1 x2 = some (r, σ')) : Ct (QI D A r (WX cI cZ cS ad ro (σ'))) l yX0_takesAct cX0_takesAct 4 (some .boolean) 2 44 D (tyS cI cZ cS) A [.ref (ad b), .int x1, .int x2] (WX cI cZ cS ad ro σ) := by
  refine Ct.of (by decide +kernel) (Nat.le_of_ble_eq_true rfl) ?_
  intro p e s m below meth c ls S hK hr hlocks hP hS hl
  have hx := S.1
  have hb := S.2.1
  have hl : lv_has ls 4 [(0, .ref (ad b)), (1, .int x1), (2, .int x2)] := hl
  rw [f_X0_takesAct] at h
  refine lv_iload_n hx hb dX0_takesAct_0 rfl (lv_at hl 2 rfl) ?_
  refine lv_bipush (v := (17 : Int32)) hx hb dX0_takesAct_1 (by decide) ?_
  refine lv_icmp_ne (tgt := 15) hx hb dX0_takesAct_3 (by decide) (fun c_3 => ?_) (fun c_3 => ?_)
  · replace h := ite_f c_3 h
    refine lv_iload_n hx hb dX0_takesAct_15 rfl (lv_at hl 2 rfl) ?_
    refine lv_bipush (v := (11 : Int32)) hx hb dX0_takesAct_16 (by decide) ?_
    refine lv_icmp_lt (tgt := 31) hx hb dX0_takesAct_18 (by decide) (fun c_18 => ?_) (fun c_18 => ?_)
    · replace h := ite_t c_18 h
      refine lv_iload_n hx hb dX0_takesAct_31 rfl (lv_at hl 2 rfl) ?_
      refine lv_bipush (v := (10 : Int32)) hx hb dX0_takesAct_32 (by decide) ?_
      refine lv_icmp_ne (tgt := 50) hx hb dX0_takesAct_34 (by decide) (fun c_34 => ?_) (fun c_34 => ?_)
      · replace h := ite_f c_34 h
        refine lv_iload_n hx hb dX0_takesAct_50 rfl (lv_at hl 2 rfl) ?_
        refine lv_iconst (v := (4 : Int32)) hx hb dX0_takesAct_51 (by decide) ?_
        refine lv_icmp_lt (tgt := 64) hx hb dX0_takesAct_52 (by decide) (fun c_52 => ?_) (fun c_52 => ?_)
        · replace h := ite_t c_52 h
          refine lv_aload_n hx hb dX0_takesAct_64 rfl (lv_at hl 0 rfl) ?_
          refine lv_iload_n hx hb dX0_takesAct_65 rfl (lv_at hl 2 rfl) ?_
          refine lv_iload_n hx hb dX0_takesAct_66 rfl (lv_at hl 1 rfl) ?_
          obtain ⟨r_67, s_67, e_67, h⟩ := ob2_of h
          refine k_goI (k_runV (As := [.int x2, .int x1]) (rest := []) S hK hP (k_X0_takesCoat l hAd hb0 e_67) cy_X0_takesCoat wd_446 rfl (xD hb0) rfl hl.1 rfl (Nat.le_of_ble_eq_true rfl) dX0_takesAct_67 ⟨Nat.le_of_ble_eq_true rfl, Nat.le_of_ble_eq_true rfl⟩ ⟨Nat.zero_le _, Nat.zero_le _⟩) hS (fun _ h => h) (fun H locs hP hS _ _ => ?_)
          obtain ⟨hz_70, h⟩ := oif_of h
          obtain ⟨rfl, rfl⟩ := some_pair h
          exact k_zret S hr hlocks hP hS rfl hz_70 dX0_takesAct_70
        · replace h := ite_f c_52 h
          refine lv_aload_n hx hb dX0_takesAct_55 rfl (lv_at hl 0 rfl) ?_
          refine lv_iload_n hx hb dX0_takesAct_56 rfl (lv_at hl 2 rfl) ?_
          refine lv_iconst (v := (4 : Int32)) hx hb dX0_takesAct_57 (by decide) ?_
          refine lv_isub hx hb dX0_takesAct_58 ?_
          refine lv_iload_n hx hb dX0_takesAct_59 rfl (lv_at hl 1 rfl) ?_
          obtain ⟨r_60, s_60, e_60, h⟩ := ob2_of h
          refine k_goI (k_runV (As := [.int (x2 - (4 : Int32)), .int x1]) (rest := []) S hK hP (k_X0_takesFrost l hAd hb0 e_60) cy_X0_takesFrost wd_442 rfl (xD hb0) rfl hl.1 rfl (Nat.le_of_ble_eq_true rfl) dX0_takesAct_60 ⟨Nat.le_of_ble_eq_true rfl, Nat.le_of_ble_eq_true rfl⟩ ⟨Nat.zero_le _, Nat.zero_le _⟩) hS (fun _ h => h) (fun H locs hP hS _ _ => ?_)
          obtain ⟨hz_63, h⟩ := oif_of h
          obtain ⟨rfl, rfl⟩ := some_pair h
          exact k_zret S hr hlocks hP hS rfl hz_63 dX0_takesAct_63
      · replace h := ite_t c_34 h
        refine lv_aload_n hx hb dX0_takesAct_37 rfl (lv_at hl 0 rfl) ?_
        refine lv_iload_n hx hb dX0_takesAct_38 rfl (lv_at hl 1 rfl) ?_
        obtain ⟨r_39, e_39, h⟩ := ob1_of h
        refine k_goI (k_runV (As := [.int x1]) (rest := []) S hK hP (k_X0_hasOath l hAd hb0 e_39) cy_X0_hasOath wd_398 rfl (xD hb0) rfl hl.1 rfl (Nat.le_of_ble_eq_true rfl) dX0_takesAct_39 ⟨Nat.le_of_ble_eq_true rfl, Nat.le_of_ble_eq_true rfl⟩ ⟨Nat.zero_le _, Nat.zero_le _⟩) hS (fun _ h => h) (fun H locs hP hS _ _ => ?_)
        refine lv_istore_n (lv' := [(3, .int r_39), (0, .ref (ad b)), (1, .int x1), (2, .int x2)]) hx hb dX0_takesAct_42 rfl hl (by decide) rfl (fun ls hl => ?_)
        refine lv_aload_n hx hb dX0_takesAct_43 rfl (lv_at hl 1 rfl) ?_
        refine lv_iload_n hx hb dX0_takesAct_44 rfl (lv_at hl 2 rfl) ?_
        obtain ⟨r_45, s_45, e_45, h⟩ := ob2_of h
        refine k_goV (k_runV (As := [.int x1]) (rest := []) S hK hP (k_X0_dropOath l hAd hb0 e_45) cy_X0_dropOath wd_441 rfl (xD hb0) rfl hl.1 rfl (Nat.le_of_ble_eq_true rfl) dX0_takesAct_45 ⟨Nat.le_of_ble_eq_true rfl, Nat.le_of_ble_eq_true rfl⟩ ⟨Nat.zero_le _, Nat.zero_le _⟩) hS (fun _ h => h) (fun H locs hP hS _ _ => ?_)
        refine lv_iload_n hx hb dX0_takesAct_48 rfl (lv_at hl 0 rfl) ?_
        obtain ⟨hz_49, h⟩ := oif_of h
        obtain ⟨rfl, rfl⟩ := some_pair h
        exact k_zret S hr hlocks hP hS rfl hz_49 dX0_takesAct_49
    · replace h := ite_f c_18 h
      refine lv_aload_n hx hb dX0_takesAct_21 rfl (lv_at hl 0 rfl) ?_
      refine lv_iload_n hx hb dX0_takesAct_22 rfl (lv_at hl 2 rfl) ?_
      refine lv_bipush (v := (11 : Int32)) hx hb dX0_takesAct_23 (by decide) ?_
      refine lv_isub hx hb dX0_takesAct_25 ?_
      refine lv_iload_n hx hb dX0_takesAct_26 rfl (lv_at hl 1 rfl) ?_
      obtain ⟨r_27, s_27, e_27, h⟩ := ob2_of h
      refine k_goI (k_runV (As := [.int (x2 - (11 : Int32)), .int x1]) (rest := []) S hK hP (k_X0_takesStove l hAd hb0 e_27) cy_X0_takesStove wd_436 rfl (xD hb0) rfl hl.1 rfl (Nat.le_of_ble_eq_true rfl) dX0_takesAct_27 ⟨Nat.le_of_ble_eq_true rfl, Nat.le_of_ble_eq_true rfl⟩ ⟨Nat.zero_le _, Nat.zero_le _⟩) hS (fun _ h => h) (fun H locs hP hS _ _ => ?_)
      obtain ⟨hz_30, h⟩ := oif_of h
      obtain ⟨rfl, rfl⟩ := some_pair h
      exact k_zret S hr hlocks hP hS rfl hz_30 dX0_takesAct_30
  · replace h := ite_t c_3 h
    refine lv_aload_n hx hb dX0_takesAct_6 rfl (lv_at hl 0 rfl) ?_
    refine lv_bipush (v := (-9 : Int32)) hx hb dX0_takesAct_7 (by decide) ?_
    refine lv_iconst (v := (0 : Int32)) hx hb dX0_takesAct_9 (by decide) ?_
    obtain ⟨r_10, s_10, e_10, h⟩ := ob2_of h
    refine k_goV (k_runV (As := [.int (-9 : Int32), .int (0 : Int32)]) (rest := []) S hK hP (k_X0_putStove l hAd hb0 e_10) cy_X0_putStove wd_252 rfl (xD hb0) rfl hl.1 rfl (Nat.le_of_ble_eq_true rfl) dX0_takesAct_10 ⟨Nat.le_of_ble_eq_true rfl, Nat.le_of_ble_eq_true rfl⟩ ⟨Nat.zero_le _, Nat.zero_le _⟩) hS (fun _ h => h) (fun H locs hP hS _ _ => ?_)
    refine lv_iconst (v := (1 : Int32)) hx hb dX0_takesAct_13 (by decide) ?_
    obtain ⟨rfl, rfl⟩ := some_pair h
    exact k_zret S hr hlocks hP hS rfl (Or.inr rfl) dX0_takesAct_14
def f_X0_warmth (σ : SX) (b : Nat) (x1 : Int32) : Option Int32 := oin x1 4 (if (gR σ (b + 2) x1.toNatClampNeg) = (1 : Int32) then (oin x1 4 (some ((gR σ (b + 3) x1.toNatClampNeg) + (1 : Int32)))) else (if (gR σ (b + 2) x1.toNatClampNeg) = (2 : Int32) then (oin x1 4 (some ((2 : Int32) * (gR σ (b + 3) x1.toNatClampNeg)))) else (oin x1 4 (some (gR σ (b + 3) x1.toNatClampNeg)))))
set_option maxRecDepth 100000 in
set_option maxHeartbeats 4000000 in
theorem k_X0_warmth (l : Launch) {D : va_G} {A : Nat → Prop} {cI cZ cS : ClassId} {ad : Nat → Nat} {ro : Option Nat} (hAd : ∀ ro σ, va_D A (WX cI cZ cS ad ro σ)) {σ : SX} {b : Nat} {x1 : Int32} {r : Int32} (hb0 : isDy b) (h : f_X0_warmth σ b x1 = some r) : Ct (QI D A r (WX cI cZ cS ad ro σ)) l yX0_warmth cX0_warmth 2 (some .int) 0 0 D (tyS cI cZ cS) A [.ref (ad b), .int x1] (WX cI cZ cS ad ro σ) := by
  refine Ct.of (by decide +kernel) (Nat.le_of_ble_eq_true rfl) ?_
  intro p e s m below meth c ls S hK hr hlocks hP hS hl
  have hx := S.1
  have hb := S.2.1
  have hl : lv_has ls 2 [(0, .ref (ad b)), (1, .int x1)] := hl
  rw [f_X0_warmth] at h
  refine lv_aload_n hx hb dX0_warmth_0 rfl (lv_at hl 0 rfl) ?_
  refine gt_X0_19 S hK hP hb0 dX0_warmth_1 ?_
  refine lv_iload_n hx hb dX0_warmth_4 rfl (lv_at hl 1 rfl) ?_
  obtain ⟨hi_5, h⟩ := oin_of h
  refine k_iald S hK hP (xDr2 hb0) hi_5 dX0_warmth_5 ?_
  by_cases c_6_0 : gR σ (b + 2) x1.toNatClampNeg = (1 : Int32)
  · replace h := ite_t c_6_0 h
    refine lv_lookup (tgt := 41) hx hb dX0_warmth_6 (by decide) (by rw [c_6_0] <;> rfl) (by decide) ?_
    refine lv_aload_n hx hb dX0_warmth_41 rfl (lv_at hl 0 rfl) ?_
    refine gt_X0_22 S hK hP hb0 dX0_warmth_42 ?_
    refine lv_iload_n hx hb dX0_warmth_45 rfl (lv_at hl 1 rfl) ?_
    obtain ⟨hi_46, h⟩ := oin_of h
    refine k_iald S hK hP (xDr3 hb0) hi_46 dX0_warmth_46 ?_
    refine lv_iconst (v := (1 : Int32)) hx hb dX0_warmth_47 (by decide) ?_
    refine lv_iadd hx hb dX0_warmth_48 ?_
    exact k_iret S hr hlocks hP hS (Option.some.inj h) dX0_warmth_49
  · replace h := ite_f c_6_0 h
    by_cases c_6_1 : gR σ (b + 2) x1.toNatClampNeg = (2 : Int32)
    · replace h := ite_t c_6_1 h
      refine lv_lookup (tgt := 32) hx hb dX0_warmth_6 (by decide) (by rw [c_6_1] <;> rfl) (by decide) ?_
      refine lv_iconst (v := (2 : Int32)) hx hb dX0_warmth_32 (by decide) ?_
      refine lv_aload_n hx hb dX0_warmth_33 rfl (lv_at hl 0 rfl) ?_
      refine gt_X0_22 S hK hP hb0 dX0_warmth_34 ?_
      refine lv_iload_n hx hb dX0_warmth_37 rfl (lv_at hl 1 rfl) ?_
      obtain ⟨hi_38, h⟩ := oin_of h
      refine k_iald S hK hP (xDr3 hb0) hi_38 dX0_warmth_38 ?_
      refine lv_imul hx hb dX0_warmth_39 ?_
      exact k_iret S hr hlocks hP hS (Option.some.inj h) dX0_warmth_40
    · replace h := ite_f c_6_1 h
      refine lv_lookup (tgt := 50) (off := 44) hx hb dX0_warmth_6 (by decide) ((lv_osw c_6_0 rfl).trans ((lv_osw c_6_1 rfl).trans (rfl))) (by decide) ?_
      refine lv_aload_n hx hb dX0_warmth_50 rfl (lv_at hl 0 rfl) ?_
      refine gt_X0_22 S hK hP hb0 dX0_warmth_51 ?_
      refine lv_iload_n hx hb dX0_warmth_54 rfl (lv_at hl 1 rfl) ?_
      obtain ⟨hi_55, h⟩ := oin_of h
      refine k_iald S hK hP (xDr3 hb0) hi_55 dX0_warmth_55 ?_
      exact k_iret S hr hlocks hP hS (Option.some.inj h) dX0_warmth_56
def f_X0_chillOf (σ : SX) (b : Nat) (x1 : Int32) (x2 : Int32) : Option Int32 := if (gF σ b 3) = x2 then (oin x2 6 (ob1 (f_X0_warmth σ b x1) (fun r_27 => some (((gR σ (b + 1) x2.toNatClampNeg) - (gF σ b 4)) - r_27)))) else (oin x2 6 (ob1 (f_X0_warmth σ b x1) (fun r_27 => some (((gR σ (b + 1) x2.toNatClampNeg) - (0 : Int32)) - r_27))))
set_option maxRecDepth 100000 in
set_option maxHeartbeats 4000000 in
theorem k_X0_chillOf (l : Launch) {D : va_G} {A : Nat → Prop} {cI cZ cS : ClassId} {ad : Nat → Nat} {ro : Option Nat} (hAd : ∀ ro σ, va_D A (WX cI cZ cS ad ro σ)) {σ : SX} {b : Nat} {x1 : Int32} {x2 : Int32} {r : Int32} (hb0 : isDy b) (h : f_X0_chillOf σ b x1 x2 = some r) : Ct (QI D A r (WX cI cZ cS ad ro σ)) l yX0_chillOf cX0_chillOf 4 (some .int) 1 21 D (tyS cI cZ cS) A [.ref (ad b), .int x1, .int x2] (WX cI cZ cS ad ro σ) := by
  refine Ct.of (by decide +kernel) (Nat.le_of_ble_eq_true rfl) ?_
  intro p e s m below meth c ls S hK hr hlocks hP hS hl
  have hx := S.1
  have hb := S.2.1
  have hl : lv_has ls 4 [(0, .ref (ad b)), (1, .int x1), (2, .int x2)] := hl
  rw [f_X0_chillOf] at h
  refine lv_aload_n hx hb dX0_chillOf_0 rfl (lv_at hl 0 rfl) ?_
  refine gt_X0_9 S hK hP hb0 dX0_chillOf_1 ?_
  refine lv_iload_n hx hb dX0_chillOf_4 rfl (lv_at hl 2 rfl) ?_
  refine lv_icmp_ne (tgt := 15) hx hb dX0_chillOf_5 (by decide) (fun c_5 => ?_) (fun c_5 => ?_)
  · replace h := ite_f c_5 h
    refine lv_iconst (v := (0 : Int32)) hx hb dX0_chillOf_15 (by decide) ?_
    refine lv_istore_n (lv' := [(3, .int (0 : Int32)), (0, .ref (ad b)), (1, .int x1), (2, .int x2)]) hx hb dX0_chillOf_16 rfl hl (by decide) rfl (fun ls hl => ?_)
    refine lv_aload_n hx hb dX0_chillOf_17 rfl (lv_at hl 1 rfl) ?_
    refine gt_X0_15 S hK hP hb0 dX0_chillOf_18 ?_
    refine lv_iload_n hx hb dX0_chillOf_21 rfl (lv_at hl 3 rfl) ?_
    obtain ⟨hi_22, h⟩ := oin_of h
    refine k_iald S hK hP (xDr1 hb0) hi_22 dX0_chillOf_22 ?_
    refine lv_iload_n hx hb dX0_chillOf_23 rfl (lv_at hl 0 rfl) ?_
    refine lv_isub hx hb dX0_chillOf_24 ?_
    refine lv_aload_n hx hb dX0_chillOf_25 rfl (lv_at hl 1 rfl) ?_
    refine lv_iload_n hx hb dX0_chillOf_26 rfl (lv_at hl 2 rfl) ?_
    obtain ⟨r_27, e_27, h⟩ := ob1_of h
    refine k_goI (k_runV (As := [.int x1]) (rest := [.int ((gR σ (b + 1) x2.toNatClampNeg) - (0 : Int32))]) S hK hP (k_X0_warmth l hAd hb0 e_27) cy_X0_warmth wd_335 rfl (xD hb0) rfl hl.1 rfl (Nat.le_of_ble_eq_true rfl) dX0_chillOf_27 ⟨Nat.le_of_ble_eq_true rfl, Nat.le_of_ble_eq_true rfl⟩ ⟨Nat.zero_le _, Nat.zero_le _⟩) hS (fun _ h => h) (fun H locs hP hS _ _ => ?_)
    refine lv_isub hx hb dX0_chillOf_30 ?_
    exact k_iret S hr hlocks hP hS (Option.some.inj h) dX0_chillOf_31
  · replace h := ite_t c_5 h
    refine lv_aload_n hx hb dX0_chillOf_8 rfl (lv_at hl 0 rfl) ?_
    refine gt_X0_47 S hK hP hb0 dX0_chillOf_9 ?_
    refine lv_goto (tgt := 16) hx hb dX0_chillOf_12 (by decide) ?_
    refine lv_istore_n (lv' := [(3, .int (gF σ b 4)), (0, .ref (ad b)), (1, .int x1), (2, .int x2)]) hx hb dX0_chillOf_16 rfl hl (by decide) rfl (fun ls hl => ?_)
    refine lv_aload_n hx hb dX0_chillOf_17 rfl (lv_at hl 1 rfl) ?_
    refine gt_X0_15 S hK hP hb0 dX0_chillOf_18 ?_
    refine lv_iload_n hx hb dX0_chillOf_21 rfl (lv_at hl 3 rfl) ?_
    obtain ⟨hi_22, h⟩ := oin_of h
    refine k_iald S hK hP (xDr1 hb0) hi_22 dX0_chillOf_22 ?_
    refine lv_iload_n hx hb dX0_chillOf_23 rfl (lv_at hl 0 rfl) ?_
    refine lv_isub hx hb dX0_chillOf_24 ?_
    refine lv_aload_n hx hb dX0_chillOf_25 rfl (lv_at hl 1 rfl) ?_
    refine lv_iload_n hx hb dX0_chillOf_26 rfl (lv_at hl 2 rfl) ?_
    obtain ⟨r_27, e_27, h⟩ := ob1_of h
    refine k_goI (k_runV (As := [.int x1]) (rest := [.int ((gR σ (b + 1) x2.toNatClampNeg) - (gF σ b 4))]) S hK hP (k_X0_warmth l hAd hb0 e_27) cy_X0_warmth wd_335 rfl (xD hb0) rfl hl.1 rfl (Nat.le_of_ble_eq_true rfl) dX0_chillOf_27 ⟨Nat.le_of_ble_eq_true rfl, Nat.le_of_ble_eq_true rfl⟩ ⟨Nat.zero_le _, Nat.zero_le _⟩) hS (fun _ h => h) (fun H locs hP hS _ _ => ?_)
    refine lv_isub hx hb dX0_chillOf_30 ?_
    exact k_iret S hr hlocks hP hS (Option.some.inj h) dX0_chillOf_31
def f_X0_isCold (σ : SX) (b : Nat) (x1 : Int32) (x2 : Int32) : Option Int32 := ob1 (f_X0_chillOf σ b x1 x2) (fun r_3 => if r_3 ≤ 0 then (some (0 : Int32)) else (some (1 : Int32)))
set_option maxRecDepth 100000 in
set_option maxHeartbeats 4000000 in
theorem k_X0_isCold (l : Launch) {D : va_G} {A : Nat → Prop} {cI cZ cS : ClassId} {ad : Nat → Nat} {ro : Option Nat} (hAd : ∀ ro σ, va_D A (WX cI cZ cS ad ro σ)) {σ : SX} {b : Nat} {x1 : Int32} {x2 : Int32} {r : Int32} (hb0 : isDy b) (h : f_X0_isCold σ b x1 x2 = some r) : Ct (QI D A r (WX cI cZ cS ad ro σ)) l yX0_isCold cX0_isCold 3 (some .boolean) 2 44 D (tyS cI cZ cS) A [.ref (ad b), .int x1, .int x2] (WX cI cZ cS ad ro σ) := by
  refine Ct.of (by decide +kernel) (Nat.le_of_ble_eq_true rfl) ?_
  intro p e s m below meth c ls S hK hr hlocks hP hS hl
  have hx := S.1
  have hb := S.2.1
  have hl : lv_has ls 3 [(0, .ref (ad b)), (1, .int x1), (2, .int x2)] := hl
  rw [f_X0_isCold] at h
  refine lv_aload_n hx hb dX0_isCold_0 rfl (lv_at hl 0 rfl) ?_
  refine lv_iload_n hx hb dX0_isCold_1 rfl (lv_at hl 1 rfl) ?_
  refine lv_iload_n hx hb dX0_isCold_2 rfl (lv_at hl 2 rfl) ?_
  obtain ⟨r_3, e_3, h⟩ := ob1_of h
  refine k_goI (k_runV (As := [.int x1, .int x2]) (rest := []) S hK hP (k_X0_chillOf l hAd hb0 e_3) cy_X0_chillOf wd_331 rfl (xD hb0) rfl hl.1 rfl (Nat.le_of_ble_eq_true rfl) dX0_isCold_3 ⟨Nat.le_of_ble_eq_true rfl, Nat.le_of_ble_eq_true rfl⟩ ⟨Nat.zero_le _, Nat.zero_le _⟩) hS (fun _ h => h) (fun H locs hP hS _ _ => ?_)
  refine lv_if_le (tgt := 13) hx hb dX0_isCold_6 (by decide) (fun c_6 => ?_) (fun c_6 => ?_)
  · replace h := ite_t c_6 h
    refine lv_iconst (v := (0 : Int32)) hx hb dX0_isCold_13 (by decide) ?_
    exact k_zret S hr hlocks hP hS (Option.some.inj h) (Or.inl rfl) dX0_isCold_14
  · replace h := ite_f c_6 h
    refine lv_iconst (v := (1 : Int32)) hx hb dX0_isCold_9 (by decide) ?_
    refine lv_goto (tgt := 14) hx hb dX0_isCold_10 (by decide) ?_
    exact k_zret S hr hlocks hP hS (Option.some.inj h) (Or.inr rfl) dX0_isCold_14
def f_X0_binds (σ : SX) (b : Nat) (x1 : Int32) : Option Int32 := oin x1 6 (oin x1 6 (ob1 (f_X0_chillOf σ b (gR σ (b + 4) x1.toNatClampNeg) (gR σ (b + 6) x1.toNatClampNeg)) (fun r_13 => if r_13 ≤ 0 then (some (0 : Int32)) else (some (1 : Int32)))))
set_option maxRecDepth 100000 in
set_option maxHeartbeats 4000000 in
theorem k_X0_binds (l : Launch) {D : va_G} {A : Nat → Prop} {cI cZ cS : ClassId} {ad : Nat → Nat} {ro : Option Nat} (hAd : ∀ ro σ, va_D A (WX cI cZ cS ad ro σ)) {σ : SX} {b : Nat} {x1 : Int32} {r : Int32} (hb0 : isDy b) (h : f_X0_binds σ b x1 = some r) : Ct (QI D A r (WX cI cZ cS ad ro σ)) l yX0_binds cX0_binds 2 (some .boolean) 2 44 D (tyS cI cZ cS) A [.ref (ad b), .int x1] (WX cI cZ cS ad ro σ) := by
  refine Ct.of (by decide +kernel) (Nat.le_of_ble_eq_true rfl) ?_
  intro p e s m below meth c ls S hK hr hlocks hP hS hl
  have hx := S.1
  have hb := S.2.1
  have hl : lv_has ls 2 [(0, .ref (ad b)), (1, .int x1)] := hl
  rw [f_X0_binds] at h
  refine lv_aload_n hx hb dX0_binds_0 rfl (lv_at hl 0 rfl) ?_
  refine lv_aload_n hx hb dX0_binds_1 rfl (lv_at hl 0 rfl) ?_
  refine gt_X0_25 S hK hP hb0 dX0_binds_2 ?_
  refine lv_iload_n hx hb dX0_binds_5 rfl (lv_at hl 1 rfl) ?_
  obtain ⟨hi_6, h⟩ := oin_of h
  refine k_iald S hK hP (xDr4 hb0) hi_6 dX0_binds_6 ?_
  refine lv_aload_n hx hb dX0_binds_7 rfl (lv_at hl 0 rfl) ?_
  refine gt_X0_31 S hK hP hb0 dX0_binds_8 ?_
  refine lv_iload_n hx hb dX0_binds_11 rfl (lv_at hl 1 rfl) ?_
  obtain ⟨hi_12, h⟩ := oin_of h
  refine k_iald S hK hP (xDr6 hb0) hi_12 dX0_binds_12 ?_
  obtain ⟨r_13, e_13, h⟩ := ob1_of h
  refine k_goI (k_runV (As := [.int (gR σ (b + 4) x1.toNatClampNeg), .int (gR σ (b + 6) x1.toNatClampNeg)]) (rest := []) S hK hP (k_X0_chillOf l hAd hb0 e_13) cy_X0_chillOf wd_331 rfl (xD hb0) rfl hl.1 rfl (Nat.le_of_ble_eq_true rfl) dX0_binds_13 ⟨Nat.le_of_ble_eq_true rfl, Nat.le_of_ble_eq_true rfl⟩ ⟨Nat.zero_le _, Nat.zero_le _⟩) hS (fun _ h => h) (fun H locs hP hS _ _ => ?_)
  refine lv_if_le (tgt := 23) hx hb dX0_binds_16 (by decide) (fun c_16 => ?_) (fun c_16 => ?_)
  · replace h := ite_t c_16 h
    refine lv_iconst (v := (0 : Int32)) hx hb dX0_binds_23 (by decide) ?_
    exact k_zret S hr hlocks hP hS (Option.some.inj h) (Or.inl rfl) dX0_binds_24
  · replace h := ite_f c_16 h
    refine lv_iconst (v := (1 : Int32)) hx hb dX0_binds_19 (by decide) ?_
    refine lv_goto (tgt := 24) hx hb dX0_binds_20 (by decide) ?_
    exact k_zret S hr hlocks hP hS (Option.some.inj h) (Or.inr rfl) dX0_binds_24
def f_X0_coldHours_L4 (σ : SX) (b : Nat) : Nat → Int32 → Int32 → Int32 → Option Int32
  | 0, _, _, _ => none
  | n + 1, y1, y2, y3 => if (gF σ b 0) ≤ y3 then (some y2) else (ob1 (f_X0_isCold σ b y1 y3) (fun r_16 => if r_16 = 0 then (f_X0_coldHours_L4 σ b n y1 (y2 ||| (0 : Int32)) (y3 + (1 : Int32))) else (f_X0_coldHours_L4 σ b n y1 (y2 ||| ((1 : Int32) <<< (y3 &&& 31))) (y3 + (1 : Int32)))))
def f_X0_coldHours (σ : SX) (b : Nat) (x1 : Int32) : Option Int32 := f_X0_coldHours_L4 σ b 100 x1 (0 : Int32) (0 : Int32)
set_option maxRecDepth 100000 in
set_option maxHeartbeats 4000000 in
theorem k_X0_coldHours (l : Launch) {D : va_G} {A : Nat → Prop} {cI cZ cS : ClassId} {ad : Nat → Nat} {ro : Option Nat} (hAd : ∀ ro σ, va_D A (WX cI cZ cS ad ro σ)) {σ : SX} {b : Nat} {x1 : Int32} {r : Int32} (hb0 : isDy b) (h : f_X0_coldHours σ b x1 = some r) : Ct (QI D A r (WX cI cZ cS ad ro σ)) l yX0_coldHours cX0_coldHours 4 (some .int) 3 66 D (tyS cI cZ cS) A [.ref (ad b), .int x1] (WX cI cZ cS ad ro σ) := by
  refine Ct.of (by decide +kernel) (Nat.le_of_ble_eq_true rfl) ?_
  intro p e s m below meth c ls S hK hr hlocks hP hS hl
  have hx := S.1
  have hb := S.2.1
  have hl : lv_has ls 4 [(0, .ref (ad b)), (1, .int x1)] := hl
  have loop4 : ∀ (n : Nat) (y1 : Int32) (y2 : Int32) (y3 : Int32) (H : Heap) (locs : List Loc) (ls : Array Slot), f_X0_coldHours_L4 σ b n y1 y2 y3 = some r → va_P D vwCl (WX cI cZ cS ad ro σ) H → va_S A s.heap H locs → lv_has ls 4 [(0, .ref (ad b)), (1, .int y1), (2, .int y2), (3, .int y3)] → W p l e (rmO 3 66) s m [.ref (ad b), .int x1].toArray below meth c H locs 0 0 (MQ below (QI D A r (WX cI cZ cS ad ro σ)) [.ref (ad b), .int x1].toArray s 0 0 A) (F0 m 4 ls []) := by
    intro n
    induction n with
    | zero => intro y1 y2 y3 H locs ls h; cases h
    | succ n ih =>
      intro y1 y2 y3 H locs ls h hP hS hl
      rw [f_X0_coldHours_L4] at h
      refine lv_iload_n hx hb dX0_coldHours_4 rfl (lv_at hl 3 rfl) ?_
      refine lv_aload_n hx hb dX0_coldHours_5 rfl (lv_at hl 0 rfl) ?_
      refine gt_X0_34 S hK hP hb0 dX0_coldHours_6 ?_
      refine lv_icmp_ge (tgt := 37) hx hb dX0_coldHours_9 (by decide) (fun c_9 => ?_) (fun c_9 => ?_)
      · replace h := ite_t c_9 h
        refine lv_iload_n hx hb dX0_coldHours_37 rfl (lv_at hl 2 rfl) ?_
        exact k_iret S hr hlocks hP hS (Option.some.inj h) dX0_coldHours_38
      · replace h := ite_f c_9 h
        refine lv_iload_n hx hb dX0_coldHours_12 rfl (lv_at hl 2 rfl) ?_
        refine lv_aload_n hx hb dX0_coldHours_13 rfl (lv_at hl 0 rfl) ?_
        refine lv_iload_n hx hb dX0_coldHours_14 rfl (lv_at hl 1 rfl) ?_
        refine lv_iload_n hx hb dX0_coldHours_15 rfl (lv_at hl 3 rfl) ?_
        obtain ⟨r_16, e_16, h⟩ := ob1_of h
        refine k_goI (k_runV (As := [.int y1, .int y3]) (rest := [.int y2]) S hK hP (k_X0_isCold l hAd hb0 e_16) cy_X0_isCold wd_327 rfl (xD hb0) rfl hl.1 rfl (Nat.le_of_ble_eq_true rfl) dX0_coldHours_16 ⟨Nat.le_of_ble_eq_true rfl, Nat.le_of_ble_eq_true rfl⟩ ⟨Nat.zero_le _, Nat.zero_le _⟩) hS (fun _ h => h) (fun H locs hP hS _ _ => ?_)
        refine lv_if_eq (tgt := 28) hx hb dX0_coldHours_19 (by decide) (fun c_19 => ?_) (fun c_19 => ?_)
        · replace h := ite_t c_19 h
          refine lv_iconst (v := (0 : Int32)) hx hb dX0_coldHours_28 (by decide) ?_
          refine lv_ior hx hb dX0_coldHours_29 ?_
          refine lv_istore_n (lv' := [(2, .int (y2 ||| (0 : Int32))), (0, .ref (ad b)), (1, .int y1), (3, .int y3)]) hx hb dX0_coldHours_30 rfl hl (by decide) rfl (fun ls hl => ?_)
          refine lv_iinc (v := y3 + (1 : Int32)) (lv' := [(3, .int (y3 + (1 : Int32))), (2, .int (y2 ||| (0 : Int32))), (0, .ref (ad b)), (1, .int y1)]) hx hb dX0_coldHours_31 hl (k := 3) rfl rfl (by decide) rfl (fun ls hl => ?_)
          refine lv_goto (tgt := 4) hx hb dX0_coldHours_34 (by decide) ?_
          exact ih y1 (y2 ||| (0 : Int32)) (y3 + (1 : Int32)) _ _ _ h hP hS (lv_sub hl [2, 3, 1, 0] rfl)
        · replace h := ite_f c_19 h
          refine lv_iconst (v := (1 : Int32)) hx hb dX0_coldHours_22 (by decide) ?_
          refine lv_iload_n hx hb dX0_coldHours_23 rfl (lv_at hl 3 rfl) ?_
          refine lv_ishl hx hb dX0_coldHours_24 ?_
          refine lv_goto (tgt := 29) hx hb dX0_coldHours_25 (by decide) ?_
          refine lv_ior hx hb dX0_coldHours_29 ?_
          refine lv_istore_n (lv' := [(2, .int (y2 ||| ((1 : Int32) <<< (y3 &&& 31)))), (0, .ref (ad b)), (1, .int y1), (3, .int y3)]) hx hb dX0_coldHours_30 rfl hl (by decide) rfl (fun ls hl => ?_)
          refine lv_iinc (v := y3 + (1 : Int32)) (lv' := [(3, .int (y3 + (1 : Int32))), (2, .int (y2 ||| ((1 : Int32) <<< (y3 &&& 31)))), (0, .ref (ad b)), (1, .int y1)]) hx hb dX0_coldHours_31 hl (k := 3) rfl rfl (by decide) rfl (fun ls hl => ?_)
          refine lv_goto (tgt := 4) hx hb dX0_coldHours_34 (by decide) ?_
          exact ih y1 (y2 ||| ((1 : Int32) <<< (y3 &&& 31))) (y3 + (1 : Int32)) _ _ _ h hP hS (lv_sub hl [2, 3, 1, 0] rfl)
  rw [f_X0_coldHours] at h
  refine lv_iconst (v := (0 : Int32)) hx hb dX0_coldHours_0 (by decide) ?_
  refine lv_istore_n (lv' := [(2, .int (0 : Int32)), (0, .ref (ad b)), (1, .int x1)]) hx hb dX0_coldHours_1 rfl hl (by decide) rfl (fun ls hl => ?_)
  refine lv_iconst (v := (0 : Int32)) hx hb dX0_coldHours_2 (by decide) ?_
  refine lv_istore_n (lv' := [(3, .int (0 : Int32)), (2, .int (0 : Int32)), (0, .ref (ad b)), (1, .int x1)]) hx hb dX0_coldHours_3 rfl hl (by decide) rfl (fun ls hl => ?_)
  exact loop4 100 x1 (0 : Int32) (0 : Int32) _ _ _ h hP hS (lv_sub hl [2, 3, 1, 0] rfl)
def f_X0_coldSwearers_L4 (σ : SX) (b : Nat) : Nat → Int32 → Int32 → Int32 → Option Int32
  | 0, _, _, _ => none
  | n + 1, y1, y2, y3 => if (gF σ b 1) ≤ y3 then (some y2) else (ob1 (f_X0_isCold σ b y3 y1) (fun r_16 => if r_16 = 0 then (f_X0_coldSwearers_L4 σ b n y1 (y2 ||| (0 : Int32)) (y3 + (1 : Int32))) else (f_X0_coldSwearers_L4 σ b n y1 (y2 ||| ((1 : Int32) <<< (y3 &&& 31))) (y3 + (1 : Int32)))))
def f_X0_coldSwearers (σ : SX) (b : Nat) (x1 : Int32) : Option Int32 := f_X0_coldSwearers_L4 σ b 100 x1 (0 : Int32) (0 : Int32)
set_option maxRecDepth 100000 in
set_option maxHeartbeats 4000000 in
theorem k_X0_coldSwearers (l : Launch) {D : va_G} {A : Nat → Prop} {cI cZ cS : ClassId} {ad : Nat → Nat} {ro : Option Nat} (hAd : ∀ ro σ, va_D A (WX cI cZ cS ad ro σ)) {σ : SX} {b : Nat} {x1 : Int32} {r : Int32} (hb0 : isDy b) (h : f_X0_coldSwearers σ b x1 = some r) : Ct (QI D A r (WX cI cZ cS ad ro σ)) l yX0_coldSwearers cX0_coldSwearers 4 (some .int) 3 66 D (tyS cI cZ cS) A [.ref (ad b), .int x1] (WX cI cZ cS ad ro σ) := by
  refine Ct.of (by decide +kernel) (Nat.le_of_ble_eq_true rfl) ?_
  intro p e s m below meth c ls S hK hr hlocks hP hS hl
  have hx := S.1
  have hb := S.2.1
  have hl : lv_has ls 4 [(0, .ref (ad b)), (1, .int x1)] := hl
  have loop4 : ∀ (n : Nat) (y1 : Int32) (y2 : Int32) (y3 : Int32) (H : Heap) (locs : List Loc) (ls : Array Slot), f_X0_coldSwearers_L4 σ b n y1 y2 y3 = some r → va_P D vwCl (WX cI cZ cS ad ro σ) H → va_S A s.heap H locs → lv_has ls 4 [(0, .ref (ad b)), (1, .int y1), (2, .int y2), (3, .int y3)] → W p l e (rmO 3 66) s m [.ref (ad b), .int x1].toArray below meth c H locs 0 0 (MQ below (QI D A r (WX cI cZ cS ad ro σ)) [.ref (ad b), .int x1].toArray s 0 0 A) (F0 m 4 ls []) := by
    intro n
    induction n with
    | zero => intro y1 y2 y3 H locs ls h; cases h
    | succ n ih =>
      intro y1 y2 y3 H locs ls h hP hS hl
      rw [f_X0_coldSwearers_L4] at h
      refine lv_iload_n hx hb dX0_coldSwearers_4 rfl (lv_at hl 3 rfl) ?_
      refine lv_aload_n hx hb dX0_coldSwearers_5 rfl (lv_at hl 0 rfl) ?_
      refine gt_X0_37 S hK hP hb0 dX0_coldSwearers_6 ?_
      refine lv_icmp_ge (tgt := 37) hx hb dX0_coldSwearers_9 (by decide) (fun c_9 => ?_) (fun c_9 => ?_)
      · replace h := ite_t c_9 h
        refine lv_iload_n hx hb dX0_coldSwearers_37 rfl (lv_at hl 2 rfl) ?_
        exact k_iret S hr hlocks hP hS (Option.some.inj h) dX0_coldSwearers_38
      · replace h := ite_f c_9 h
        refine lv_iload_n hx hb dX0_coldSwearers_12 rfl (lv_at hl 2 rfl) ?_
        refine lv_aload_n hx hb dX0_coldSwearers_13 rfl (lv_at hl 0 rfl) ?_
        refine lv_iload_n hx hb dX0_coldSwearers_14 rfl (lv_at hl 3 rfl) ?_
        refine lv_iload_n hx hb dX0_coldSwearers_15 rfl (lv_at hl 1 rfl) ?_
        obtain ⟨r_16, e_16, h⟩ := ob1_of h
        refine k_goI (k_runV (As := [.int y3, .int y1]) (rest := [.int y2]) S hK hP (k_X0_isCold l hAd hb0 e_16) cy_X0_isCold wd_327 rfl (xD hb0) rfl hl.1 rfl (Nat.le_of_ble_eq_true rfl) dX0_coldSwearers_16 ⟨Nat.le_of_ble_eq_true rfl, Nat.le_of_ble_eq_true rfl⟩ ⟨Nat.zero_le _, Nat.zero_le _⟩) hS (fun _ h => h) (fun H locs hP hS _ _ => ?_)
        refine lv_if_eq (tgt := 28) hx hb dX0_coldSwearers_19 (by decide) (fun c_19 => ?_) (fun c_19 => ?_)
        · replace h := ite_t c_19 h
          refine lv_iconst (v := (0 : Int32)) hx hb dX0_coldSwearers_28 (by decide) ?_
          refine lv_ior hx hb dX0_coldSwearers_29 ?_
          refine lv_istore_n (lv' := [(2, .int (y2 ||| (0 : Int32))), (0, .ref (ad b)), (1, .int y1), (3, .int y3)]) hx hb dX0_coldSwearers_30 rfl hl (by decide) rfl (fun ls hl => ?_)
          refine lv_iinc (v := y3 + (1 : Int32)) (lv' := [(3, .int (y3 + (1 : Int32))), (2, .int (y2 ||| (0 : Int32))), (0, .ref (ad b)), (1, .int y1)]) hx hb dX0_coldSwearers_31 hl (k := 3) rfl rfl (by decide) rfl (fun ls hl => ?_)
          refine lv_goto (tgt := 4) hx hb dX0_coldSwearers_34 (by decide) ?_
          exact ih y1 (y2 ||| (0 : Int32)) (y3 + (1 : Int32)) _ _ _ h hP hS (lv_sub hl [2, 3, 1, 0] rfl)
        · replace h := ite_f c_19 h
          refine lv_iconst (v := (1 : Int32)) hx hb dX0_coldSwearers_22 (by decide) ?_
          refine lv_iload_n hx hb dX0_coldSwearers_23 rfl (lv_at hl 3 rfl) ?_
          refine lv_ishl hx hb dX0_coldSwearers_24 ?_
          refine lv_goto (tgt := 29) hx hb dX0_coldSwearers_25 (by decide) ?_
          refine lv_ior hx hb dX0_coldSwearers_29 ?_
          refine lv_istore_n (lv' := [(2, .int (y2 ||| ((1 : Int32) <<< (y3 &&& 31)))), (0, .ref (ad b)), (1, .int y1), (3, .int y3)]) hx hb dX0_coldSwearers_30 rfl hl (by decide) rfl (fun ls hl => ?_)
          refine lv_iinc (v := y3 + (1 : Int32)) (lv' := [(3, .int (y3 + (1 : Int32))), (2, .int (y2 ||| ((1 : Int32) <<< (y3 &&& 31)))), (0, .ref (ad b)), (1, .int y1)]) hx hb dX0_coldSwearers_31 hl (k := 3) rfl rfl (by decide) rfl (fun ls hl => ?_)
          refine lv_goto (tgt := 4) hx hb dX0_coldSwearers_34 (by decide) ?_
          exact ih y1 (y2 ||| ((1 : Int32) <<< (y3 &&& 31))) (y3 + (1 : Int32)) _ _ _ h hP hS (lv_sub hl [2, 3, 1, 0] rfl)
  rw [f_X0_coldSwearers] at h
  refine lv_iconst (v := (0 : Int32)) hx hb dX0_coldSwearers_0 (by decide) ?_
  refine lv_istore_n (lv' := [(2, .int (0 : Int32)), (0, .ref (ad b)), (1, .int x1)]) hx hb dX0_coldSwearers_1 rfl hl (by decide) rfl (fun ls hl => ?_)
  refine lv_iconst (v := (0 : Int32)) hx hb dX0_coldSwearers_2 (by decide) ?_
  refine lv_istore_n (lv' := [(3, .int (0 : Int32)), (2, .int (0 : Int32)), (0, .ref (ad b)), (1, .int x1)]) hx hb dX0_coldSwearers_3 rfl hl (by decide) rfl (fun ls hl => ?_)
  exact loop4 100 x1 (0 : Int32) (0 : Int32) _ _ _ h hP hS (lv_sub hl [2, 3, 1, 0] rfl)
def f_X0_timesCold_L4 (σ : SX) (b : Nat) : Nat → Int32 → Int32 → Option Int32
  | 0, _, _ => none
  | n + 1, y1, y2 => if (gF σ b 1) ≤ y2 then (some y1) else (ob1 (f_X0_coldHours σ b y2) (fun r_15 => ob1 (f_J6_bitCount_0f7a4 r_15) (fun r_18 => f_X0_timesCold_L4 σ b n (y1 + r_18) (y2 + (1 : Int32)))))
def f_X0_timesCold (σ : SX) (b : Nat) : Option Int32 := f_X0_timesCold_L4 σ b 100 (0 : Int32) (0 : Int32)
set_option maxRecDepth 100000 in
set_option maxHeartbeats 4000000 in
theorem k_X0_timesCold (l : Launch) {D : va_G} {A : Nat → Prop} {cI cZ cS : ClassId} {ad : Nat → Nat} {ro : Option Nat} (hAd : ∀ ro σ, va_D A (WX cI cZ cS ad ro σ)) {σ : SX} {b : Nat} {r : Int32} (hb0 : isDy b) (h : f_X0_timesCold σ b = some r) : Ct (QI D A r (WX cI cZ cS ad ro σ)) l yX0_timesCold cX0_timesCold 3 (some .int) 4 89 D (tyS cI cZ cS) A [.ref (ad b)] (WX cI cZ cS ad ro σ) := by
  refine Ct.of (by decide +kernel) (Nat.le_of_ble_eq_true rfl) ?_
  intro p e s m below meth c ls S hK hr hlocks hP hS hl
  have hx := S.1
  have hb := S.2.1
  have hl : lv_has ls 3 [(0, .ref (ad b))] := hl
  have loop4 : ∀ (n : Nat) (y1 : Int32) (y2 : Int32) (H : Heap) (locs : List Loc) (ls : Array Slot), f_X0_timesCold_L4 σ b n y1 y2 = some r → va_P D vwCl (WX cI cZ cS ad ro σ) H → va_S A s.heap H locs → lv_has ls 3 [(0, .ref (ad b)), (1, .int y1), (2, .int y2)] → W p l e (rmO 4 89) s m [.ref (ad b)].toArray below meth c H locs 0 0 (MQ below (QI D A r (WX cI cZ cS ad ro σ)) [.ref (ad b)].toArray s 0 0 A) (F0 m 4 ls []) := by
    intro n
    induction n with
    | zero => intro y1 y2 H locs ls h; cases h
    | succ n ih =>
      intro y1 y2 H locs ls h hP hS hl
      rw [f_X0_timesCold_L4] at h
      refine lv_iload_n hx hb dX0_timesCold_4 rfl (lv_at hl 2 rfl) ?_
      refine lv_aload_n hx hb dX0_timesCold_5 rfl (lv_at hl 0 rfl) ?_
      refine gt_X0_37 S hK hP hb0 dX0_timesCold_6 ?_
      refine lv_icmp_ge (tgt := 29) hx hb dX0_timesCold_9 (by decide) (fun c_9 => ?_) (fun c_9 => ?_)
      · replace h := ite_t c_9 h
        refine lv_iload_n hx hb dX0_timesCold_29 rfl (lv_at hl 1 rfl) ?_
        exact k_iret S hr hlocks hP hS (Option.some.inj h) dX0_timesCold_30
      · replace h := ite_f c_9 h
        refine lv_iload_n hx hb dX0_timesCold_12 rfl (lv_at hl 1 rfl) ?_
        refine lv_aload_n hx hb dX0_timesCold_13 rfl (lv_at hl 0 rfl) ?_
        refine lv_iload_n hx hb dX0_timesCold_14 rfl (lv_at hl 2 rfl) ?_
        obtain ⟨r_15, e_15, h⟩ := ob1_of h
        refine k_goI (k_runV (As := [.int y2]) (rest := [.int y1]) S hK hP (k_X0_coldHours l hAd hb0 e_15) cy_X0_coldHours wd_459 rfl (xD hb0) rfl hl.1 rfl (Nat.le_of_ble_eq_true rfl) dX0_timesCold_15 ⟨Nat.le_of_ble_eq_true rfl, Nat.le_of_ble_eq_true rfl⟩ ⟨Nat.zero_le _, Nat.zero_le _⟩) hS (fun _ h => h) (fun H locs hP hS _ _ => ?_)
        obtain ⟨r_18, e_18, h⟩ := ob1_of h
        refine k_goI (k_runS (As := [.int r_15]) (rest := [.int y1]) S hK hP (k_J6_bitCount_0f7a4 l  e_18) cy_J6_bitCount_0f7a4 wd_460 rfl hl.1 rfl (Nat.le_of_ble_eq_true rfl) dX0_timesCold_18 ⟨Nat.le_of_ble_eq_true rfl, Nat.le_of_ble_eq_true rfl⟩ ⟨Nat.zero_le _, Nat.zero_le _⟩) hS (fun _ h => h) (fun H locs hP hS _ _ => ?_)
        refine lv_iadd hx hb dX0_timesCold_21 ?_
        refine lv_istore_n (lv' := [(1, .int (y1 + r_18)), (0, .ref (ad b)), (2, .int y2)]) hx hb dX0_timesCold_22 rfl hl (by decide) rfl (fun ls hl => ?_)
        refine lv_iinc (v := y2 + (1 : Int32)) (lv' := [(2, .int (y2 + (1 : Int32))), (1, .int (y1 + r_18)), (0, .ref (ad b))]) hx hb dX0_timesCold_23 hl (k := 2) rfl rfl (by decide) rfl (fun ls hl => ?_)
        refine lv_goto (tgt := 4) hx hb dX0_timesCold_26 (by decide) ?_
        exact ih (y1 + r_18) (y2 + (1 : Int32)) _ _ _ h hP hS (lv_sub hl [2, 1, 0] rfl)
  rw [f_X0_timesCold] at h
  refine lv_iconst (v := (0 : Int32)) hx hb dX0_timesCold_0 (by decide) ?_
  refine lv_istore_n (lv' := [(1, .int (0 : Int32)), (0, .ref (ad b))]) hx hb dX0_timesCold_1 rfl hl (by decide) rfl (fun ls hl => ?_)
  refine lv_iconst (v := (0 : Int32)) hx hb dX0_timesCold_2 (by decide) ?_
  refine lv_istore_n (lv' := [(2, .int (0 : Int32)), (1, .int (0 : Int32)), (0, .ref (ad b))]) hx hb dX0_timesCold_3 rfl hl (by decide) rfl (fun ls hl => ?_)
  exact loop4 100 (0 : Int32) (0 : Int32) _ _ _ h hP hS (lv_sub hl [2, 1, 0] rfl)
def f_X0_allOaths (σ : SX) (b : Nat) : Option Int32 := some (((1 : Int32) <<< ((gF σ b 2) &&& 31)) - (1 : Int32))
set_option maxRecDepth 100000 in
set_option maxHeartbeats 4000000 in
theorem k_X0_allOaths (l : Launch) {D : va_G} {A : Nat → Prop} {cI cZ cS : ClassId} {ad : Nat → Nat} {ro : Option Nat} (hAd : ∀ ro σ, va_D A (WX cI cZ cS ad ro σ)) {σ : SX} {b : Nat} {r : Int32} (hb0 : isDy b) (h : f_X0_allOaths σ b = some r) : Ct (QI D A r (WX cI cZ cS ad ro σ)) l yX0_allOaths cX0_allOaths 1 (some .int) 0 0 D (tyS cI cZ cS) A [.ref (ad b)] (WX cI cZ cS ad ro σ) := by
  refine Ct.of (by decide +kernel) (Nat.le_of_ble_eq_true rfl) ?_
  intro p e s m below meth c ls S hK hr hlocks hP hS hl
  have hx := S.1
  have hb := S.2.1
  have hl : lv_has ls 1 [(0, .ref (ad b))] := hl
  rw [f_X0_allOaths] at h
  refine lv_iconst (v := (1 : Int32)) hx hb dX0_allOaths_0 (by decide) ?_
  refine lv_aload_n hx hb dX0_allOaths_1 rfl (lv_at hl 0 rfl) ?_
  refine gt_X0_40 S hK hP hb0 dX0_allOaths_2 ?_
  refine lv_ishl hx hb dX0_allOaths_5 ?_
  refine lv_iconst (v := (1 : Int32)) hx hb dX0_allOaths_6 (by decide) ?_
  refine lv_isub hx hb dX0_allOaths_7 ?_
  exact k_iret S hr hlocks hP hS (Option.some.inj h) dX0_allOaths_8
def f_X0_oathsBy_L4 (σ : SX) (b : Nat) : Nat → Int32 → Int32 → Int32 → Option Int32
  | 0, _, _, _ => none
  | n + 1, y1, y2, y3 => if (gF σ b 2) ≤ y3 then (some y2) else (oin y3 6 (if (gR σ (b + 4) y3.toNatClampNeg) = y1 then (f_X0_oathsBy_L4 σ b n y1 (y2 ||| ((1 : Int32) <<< (y3 &&& 31))) (y3 + (1 : Int32))) else (f_X0_oathsBy_L4 σ b n y1 (y2 ||| (0 : Int32)) (y3 + (1 : Int32)))))
def f_X0_oathsBy (σ : SX) (b : Nat) (x1 : Int32) : Option Int32 := f_X0_oathsBy_L4 σ b 100 x1 (0 : Int32) (0 : Int32)
set_option maxRecDepth 100000 in
set_option maxHeartbeats 4000000 in
theorem k_X0_oathsBy (l : Launch) {D : va_G} {A : Nat → Prop} {cI cZ cS : ClassId} {ad : Nat → Nat} {ro : Option Nat} (hAd : ∀ ro σ, va_D A (WX cI cZ cS ad ro σ)) {σ : SX} {b : Nat} {x1 : Int32} {r : Int32} (hb0 : isDy b) (h : f_X0_oathsBy σ b x1 = some r) : Ct (QI D A r (WX cI cZ cS ad ro σ)) l yX0_oathsBy cX0_oathsBy 4 (some .int) 0 0 D (tyS cI cZ cS) A [.ref (ad b), .int x1] (WX cI cZ cS ad ro σ) := by
  refine Ct.of (by decide +kernel) (Nat.le_of_ble_eq_true rfl) ?_
  intro p e s m below meth c ls S hK hr hlocks hP hS hl
  have hx := S.1
  have hb := S.2.1
  have hl : lv_has ls 4 [(0, .ref (ad b)), (1, .int x1)] := hl
  have loop4 : ∀ (n : Nat) (y1 : Int32) (y2 : Int32) (y3 : Int32) (H : Heap) (locs : List Loc) (ls : Array Slot), f_X0_oathsBy_L4 σ b n y1 y2 y3 = some r → va_P D vwCl (WX cI cZ cS ad ro σ) H → va_S A s.heap H locs → lv_has ls 4 [(0, .ref (ad b)), (1, .int y1), (2, .int y2), (3, .int y3)] → W p l e (rmO 0 0) s m [.ref (ad b), .int x1].toArray below meth c H locs 0 0 (MQ below (QI D A r (WX cI cZ cS ad ro σ)) [.ref (ad b), .int x1].toArray s 0 0 A) (F0 m 4 ls []) := by
    intro n
    induction n with
    | zero => intro y1 y2 y3 H locs ls h; cases h
    | succ n ih =>
      intro y1 y2 y3 H locs ls h hP hS hl
      rw [f_X0_oathsBy_L4] at h
      refine lv_iload_n hx hb dX0_oathsBy_4 rfl (lv_at hl 3 rfl) ?_
      refine lv_aload_n hx hb dX0_oathsBy_5 rfl (lv_at hl 0 rfl) ?_
      refine gt_X0_40 S hK hP hb0 dX0_oathsBy_6 ?_
      refine lv_icmp_ge (tgt := 38) hx hb dX0_oathsBy_9 (by decide) (fun c_9 => ?_) (fun c_9 => ?_)
      · replace h := ite_t c_9 h
        refine lv_iload_n hx hb dX0_oathsBy_38 rfl (lv_at hl 2 rfl) ?_
        exact k_iret S hr hlocks hP hS (Option.some.inj h) dX0_oathsBy_39
      · replace h := ite_f c_9 h
        refine lv_iload_n hx hb dX0_oathsBy_12 rfl (lv_at hl 2 rfl) ?_
        refine lv_aload_n hx hb dX0_oathsBy_13 rfl (lv_at hl 0 rfl) ?_
        refine gt_X0_25 S hK hP hb0 dX0_oathsBy_14 ?_
        refine lv_iload_n hx hb dX0_oathsBy_17 rfl (lv_at hl 3 rfl) ?_
        obtain ⟨hi_18, h⟩ := oin_of h
        refine k_iald S hK hP (xDr4 hb0) hi_18 dX0_oathsBy_18 ?_
        refine lv_iload_n hx hb dX0_oathsBy_19 rfl (lv_at hl 1 rfl) ?_
        refine lv_icmp_ne (tgt := 29) hx hb dX0_oathsBy_20 (by decide) (fun c_20 => ?_) (fun c_20 => ?_)
        · replace h := ite_f c_20 h
          refine lv_iconst (v := (0 : Int32)) hx hb dX0_oathsBy_29 (by decide) ?_
          refine lv_ior hx hb dX0_oathsBy_30 ?_
          refine lv_istore_n (lv' := [(2, .int (y2 ||| (0 : Int32))), (0, .ref (ad b)), (1, .int y1), (3, .int y3)]) hx hb dX0_oathsBy_31 rfl hl (by decide) rfl (fun ls hl => ?_)
          refine lv_iinc (v := y3 + (1 : Int32)) (lv' := [(3, .int (y3 + (1 : Int32))), (2, .int (y2 ||| (0 : Int32))), (0, .ref (ad b)), (1, .int y1)]) hx hb dX0_oathsBy_32 hl (k := 3) rfl rfl (by decide) rfl (fun ls hl => ?_)
          refine lv_goto (tgt := 4) hx hb dX0_oathsBy_35 (by decide) ?_
          exact ih y1 (y2 ||| (0 : Int32)) (y3 + (1 : Int32)) _ _ _ h hP hS (lv_sub hl [2, 3, 1, 0] rfl)
        · replace h := ite_t c_20 h
          refine lv_iconst (v := (1 : Int32)) hx hb dX0_oathsBy_23 (by decide) ?_
          refine lv_iload_n hx hb dX0_oathsBy_24 rfl (lv_at hl 3 rfl) ?_
          refine lv_ishl hx hb dX0_oathsBy_25 ?_
          refine lv_goto (tgt := 30) hx hb dX0_oathsBy_26 (by decide) ?_
          refine lv_ior hx hb dX0_oathsBy_30 ?_
          refine lv_istore_n (lv' := [(2, .int (y2 ||| ((1 : Int32) <<< (y3 &&& 31)))), (0, .ref (ad b)), (1, .int y1), (3, .int y3)]) hx hb dX0_oathsBy_31 rfl hl (by decide) rfl (fun ls hl => ?_)
          refine lv_iinc (v := y3 + (1 : Int32)) (lv' := [(3, .int (y3 + (1 : Int32))), (2, .int (y2 ||| ((1 : Int32) <<< (y3 &&& 31)))), (0, .ref (ad b)), (1, .int y1)]) hx hb dX0_oathsBy_32 hl (k := 3) rfl rfl (by decide) rfl (fun ls hl => ?_)
          refine lv_goto (tgt := 4) hx hb dX0_oathsBy_35 (by decide) ?_
          exact ih y1 (y2 ||| ((1 : Int32) <<< (y3 &&& 31))) (y3 + (1 : Int32)) _ _ _ h hP hS (lv_sub hl [2, 3, 1, 0] rfl)
  rw [f_X0_oathsBy] at h
  refine lv_iconst (v := (0 : Int32)) hx hb dX0_oathsBy_0 (by decide) ?_
  refine lv_istore_n (lv' := [(2, .int (0 : Int32)), (0, .ref (ad b)), (1, .int x1)]) hx hb dX0_oathsBy_1 rfl hl (by decide) rfl (fun ls hl => ?_)
  refine lv_iconst (v := (0 : Int32)) hx hb dX0_oathsBy_2 (by decide) ?_
  refine lv_istore_n (lv' := [(3, .int (0 : Int32)), (2, .int (0 : Int32)), (0, .ref (ad b)), (1, .int x1)]) hx hb dX0_oathsBy_3 rfl hl (by decide) rfl (fun ls hl => ?_)
  exact loop4 100 x1 (0 : Int32) (0 : Int32) _ _ _ h hP hS (lv_sub hl [2, 3, 1, 0] rfl)
def f_X0_bindingOaths_L4 (σ : SX) (b : Nat) : Nat → Int32 → Int32 → Option Int32
  | 0, _, _ => none
  | n + 1, y1, y2 => if (gF σ b 2) ≤ y2 then (some y1) else (ob1 (f_X0_binds σ b y2) (fun r_15 => if r_15 = 0 then (f_X0_bindingOaths_L4 σ b n (y1 ||| (0 : Int32)) (y2 + (1 : Int32))) else (f_X0_bindingOaths_L4 σ b n (y1 ||| ((1 : Int32) <<< (y2 &&& 31))) (y2 + (1 : Int32)))))
def f_X0_bindingOaths (σ : SX) (b : Nat) : Option Int32 := f_X0_bindingOaths_L4 σ b 100 (0 : Int32) (0 : Int32)
set_option maxRecDepth 100000 in
set_option maxHeartbeats 4000000 in
theorem k_X0_bindingOaths (l : Launch) {D : va_G} {A : Nat → Prop} {cI cZ cS : ClassId} {ad : Nat → Nat} {ro : Option Nat} (hAd : ∀ ro σ, va_D A (WX cI cZ cS ad ro σ)) {σ : SX} {b : Nat} {r : Int32} (hb0 : isDy b) (h : f_X0_bindingOaths σ b = some r) : Ct (QI D A r (WX cI cZ cS ad ro σ)) l yX0_bindingOaths cX0_bindingOaths 3 (some .int) 3 65 D (tyS cI cZ cS) A [.ref (ad b)] (WX cI cZ cS ad ro σ) := by
  refine Ct.of (by decide +kernel) (Nat.le_of_ble_eq_true rfl) ?_
  intro p e s m below meth c ls S hK hr hlocks hP hS hl
  have hx := S.1
  have hb := S.2.1
  have hl : lv_has ls 3 [(0, .ref (ad b))] := hl
  have loop4 : ∀ (n : Nat) (y1 : Int32) (y2 : Int32) (H : Heap) (locs : List Loc) (ls : Array Slot), f_X0_bindingOaths_L4 σ b n y1 y2 = some r → va_P D vwCl (WX cI cZ cS ad ro σ) H → va_S A s.heap H locs → lv_has ls 3 [(0, .ref (ad b)), (1, .int y1), (2, .int y2)] → W p l e (rmO 3 65) s m [.ref (ad b)].toArray below meth c H locs 0 0 (MQ below (QI D A r (WX cI cZ cS ad ro σ)) [.ref (ad b)].toArray s 0 0 A) (F0 m 4 ls []) := by
    intro n
    induction n with
    | zero => intro y1 y2 H locs ls h; cases h
    | succ n ih =>
      intro y1 y2 H locs ls h hP hS hl
      rw [f_X0_bindingOaths_L4] at h
      refine lv_iload_n hx hb dX0_bindingOaths_4 rfl (lv_at hl 2 rfl) ?_
      refine lv_aload_n hx hb dX0_bindingOaths_5 rfl (lv_at hl 0 rfl) ?_
      refine gt_X0_40 S hK hP hb0 dX0_bindingOaths_6 ?_
      refine lv_icmp_ge (tgt := 36) hx hb dX0_bindingOaths_9 (by decide) (fun c_9 => ?_) (fun c_9 => ?_)
      · replace h := ite_t c_9 h
        refine lv_iload_n hx hb dX0_bindingOaths_36 rfl (lv_at hl 1 rfl) ?_
        exact k_iret S hr hlocks hP hS (Option.some.inj h) dX0_bindingOaths_37
      · replace h := ite_f c_9 h
        refine lv_iload_n hx hb dX0_bindingOaths_12 rfl (lv_at hl 1 rfl) ?_
        refine lv_aload_n hx hb dX0_bindingOaths_13 rfl (lv_at hl 0 rfl) ?_
        refine lv_iload_n hx hb dX0_bindingOaths_14 rfl (lv_at hl 2 rfl) ?_
        obtain ⟨r_15, e_15, h⟩ := ob1_of h
        refine k_goI (k_runV (As := [.int y2]) (rest := [.int y1]) S hK hP (k_X0_binds l hAd hb0 e_15) cy_X0_binds wd_344 rfl (xD hb0) rfl hl.1 rfl (Nat.le_of_ble_eq_true rfl) dX0_bindingOaths_15 ⟨Nat.le_of_ble_eq_true rfl, Nat.le_of_ble_eq_true rfl⟩ ⟨Nat.zero_le _, Nat.zero_le _⟩) hS (fun _ h => h) (fun H locs hP hS _ _ => ?_)
        refine lv_if_eq (tgt := 27) hx hb dX0_bindingOaths_18 (by decide) (fun c_18 => ?_) (fun c_18 => ?_)
        · replace h := ite_t c_18 h
          refine lv_iconst (v := (0 : Int32)) hx hb dX0_bindingOaths_27 (by decide) ?_
          refine lv_ior hx hb dX0_bindingOaths_28 ?_
          refine lv_istore_n (lv' := [(1, .int (y1 ||| (0 : Int32))), (0, .ref (ad b)), (2, .int y2)]) hx hb dX0_bindingOaths_29 rfl hl (by decide) rfl (fun ls hl => ?_)
          refine lv_iinc (v := y2 + (1 : Int32)) (lv' := [(2, .int (y2 + (1 : Int32))), (1, .int (y1 ||| (0 : Int32))), (0, .ref (ad b))]) hx hb dX0_bindingOaths_30 hl (k := 2) rfl rfl (by decide) rfl (fun ls hl => ?_)
          refine lv_goto (tgt := 4) hx hb dX0_bindingOaths_33 (by decide) ?_
          exact ih (y1 ||| (0 : Int32)) (y2 + (1 : Int32)) _ _ _ h hP hS (lv_sub hl [2, 1, 0] rfl)
        · replace h := ite_f c_18 h
          refine lv_iconst (v := (1 : Int32)) hx hb dX0_bindingOaths_21 (by decide) ?_
          refine lv_iload_n hx hb dX0_bindingOaths_22 rfl (lv_at hl 2 rfl) ?_
          refine lv_ishl hx hb dX0_bindingOaths_23 ?_
          refine lv_goto (tgt := 28) hx hb dX0_bindingOaths_24 (by decide) ?_
          refine lv_ior hx hb dX0_bindingOaths_28 ?_
          refine lv_istore_n (lv' := [(1, .int (y1 ||| ((1 : Int32) <<< (y2 &&& 31)))), (0, .ref (ad b)), (2, .int y2)]) hx hb dX0_bindingOaths_29 rfl hl (by decide) rfl (fun ls hl => ?_)
          refine lv_iinc (v := y2 + (1 : Int32)) (lv' := [(2, .int (y2 + (1 : Int32))), (1, .int (y1 ||| ((1 : Int32) <<< (y2 &&& 31)))), (0, .ref (ad b))]) hx hb dX0_bindingOaths_30 hl (k := 2) rfl rfl (by decide) rfl (fun ls hl => ?_)
          refine lv_goto (tgt := 4) hx hb dX0_bindingOaths_33 (by decide) ?_
          exact ih (y1 ||| ((1 : Int32) <<< (y2 &&& 31))) (y2 + (1 : Int32)) _ _ _ h hP hS (lv_sub hl [2, 1, 0] rfl)
  rw [f_X0_bindingOaths] at h
  refine lv_iconst (v := (0 : Int32)) hx hb dX0_bindingOaths_0 (by decide) ?_
  refine lv_istore_n (lv' := [(1, .int (0 : Int32)), (0, .ref (ad b))]) hx hb dX0_bindingOaths_1 rfl hl (by decide) rfl (fun ls hl => ?_)
  refine lv_iconst (v := (0 : Int32)) hx hb dX0_bindingOaths_2 (by decide) ?_
  refine lv_istore_n (lv' := [(2, .int (0 : Int32)), (1, .int (0 : Int32)), (0, .ref (ad b))]) hx hb dX0_bindingOaths_3 rfl hl (by decide) rfl (fun ls hl => ?_)
  exact loop4 100 (0 : Int32) (0 : Int32) _ _ _ h hP hS (lv_sub hl [2, 1, 0] rfl)
def f_X0_swornToBy_L5 (σ : SX) (b : Nat) : Nat → Int32 → Int32 → Int32 → Int32 → Option Int32
  | 0, _, _, _, _ => none
  | n + 1, y1, y2, y3, y4 => if (gF σ b 2) ≤ y4 then (some y3) else (ob1 (f_X4_hasBit y2 y4) (fun r_17 => if r_17 = 0 then (f_X0_swornToBy_L5 σ b n y1 y2 y3 (y4 + (1 : Int32))) else (oin y4 6 (ob1 (f_X4_hasBit y1 (gR σ (b + 4) y4.toNatClampNeg)) (fun r_31 => if r_31 = 0 then (f_X0_swornToBy_L5 σ b n y1 y2 y3 (y4 + (1 : Int32))) else (oin y4 6 (f_X0_swornToBy_L5 σ b n y1 y2 (y3 ||| ((1 : Int32) <<< ((gR σ (b + 5) y4.toNatClampNeg) &&& 31))) (y4 + (1 : Int32)))))))))
def f_X0_swornToBy (σ : SX) (b : Nat) (x1 : Int32) (x2 : Int32) : Option Int32 := f_X0_swornToBy_L5 σ b 100 x1 x2 (0 : Int32) (0 : Int32)
set_option maxRecDepth 100000 in
set_option maxHeartbeats 4000000 in
theorem k_X0_swornToBy (l : Launch) {D : va_G} {A : Nat → Prop} {cI cZ cS : ClassId} {ad : Nat → Nat} {ro : Option Nat} (hAd : ∀ ro σ, va_D A (WX cI cZ cS ad ro σ)) {σ : SX} {b : Nat} {x1 : Int32} {x2 : Int32} {r : Int32} (hb0 : isDy b) (h : f_X0_swornToBy σ b x1 x2 = some r) : Ct (QI D A r (WX cI cZ cS ad ro σ)) l yX0_swornToBy cX0_swornToBy 5 (some .int) 1 21 D (tyS cI cZ cS) A [.ref (ad b), .int x1, .int x2] (WX cI cZ cS ad ro σ) := by
  refine Ct.of (by decide +kernel) (Nat.le_of_ble_eq_true rfl) ?_
  intro p e s m below meth c ls S hK hr hlocks hP hS hl
  have hx := S.1
  have hb := S.2.1
  have hl : lv_has ls 5 [(0, .ref (ad b)), (1, .int x1), (2, .int x2)] := hl
  have loop5 : ∀ (n : Nat) (y1 : Int32) (y2 : Int32) (y3 : Int32) (y4 : Int32) (H : Heap) (locs : List Loc) (ls : Array Slot), f_X0_swornToBy_L5 σ b n y1 y2 y3 y4 = some r → va_P D vwCl (WX cI cZ cS ad ro σ) H → va_S A s.heap H locs → lv_has ls 5 [(0, .ref (ad b)), (1, .int y1), (2, .int y2), (3, .int y3), (4, .int y4)] → W p l e (rmO 1 21) s m [.ref (ad b), .int x1, .int x2].toArray below meth c H locs 0 0 (MQ below (QI D A r (WX cI cZ cS ad ro σ)) [.ref (ad b), .int x1, .int x2].toArray s 0 0 A) (F0 m 5 ls []) := by
    intro n
    induction n with
    | zero => intro y1 y2 y3 y4 H locs ls h; cases h
    | succ n ih =>
      intro y1 y2 y3 y4 H locs ls h hP hS hl
      rw [f_X0_swornToBy_L5] at h
      refine lv_iload hx hb dX0_swornToBy_5 (lv_at hl 4 rfl) ?_
      refine lv_aload_n hx hb dX0_swornToBy_7 rfl (lv_at hl 0 rfl) ?_
      refine gt_X0_40 S hK hP hb0 dX0_swornToBy_8 ?_
      refine lv_icmp_ge (tgt := 55) hx hb dX0_swornToBy_11 (by decide) (fun c_11 => ?_) (fun c_11 => ?_)
      · replace h := ite_t c_11 h
        refine lv_iload_n hx hb dX0_swornToBy_55 rfl (lv_at hl 3 rfl) ?_
        exact k_iret S hr hlocks hP hS (Option.some.inj h) dX0_swornToBy_56
      · replace h := ite_f c_11 h
        refine lv_iload_n hx hb dX0_swornToBy_14 rfl (lv_at hl 2 rfl) ?_
        refine lv_iload hx hb dX0_swornToBy_15 (lv_at hl 4 rfl) ?_
        obtain ⟨r_17, e_17, h⟩ := ob1_of h
        refine k_goI (k_runB (As := [.int y2, .int y4]) (rest := []) S hK hP (k_X4_hasBit l  e_17) cy_X4_hasBit rfl hl.1 rfl (Nat.le_of_ble_eq_true rfl) dX0_swornToBy_17 ⟨Nat.le_of_ble_eq_true rfl, Nat.le_of_ble_eq_true rfl⟩ ⟨Nat.zero_le _, Nat.zero_le _⟩) hS (fun _ h => h) (fun H locs hP hS _ _ => ?_)
        refine lv_if_eq (tgt := 49) hx hb dX0_swornToBy_20 (by decide) (fun c_20 => ?_) (fun c_20 => ?_)
        · replace h := ite_t c_20 h
          refine lv_iinc (v := y4 + (1 : Int32)) (lv' := [(4, .int (y4 + (1 : Int32))), (0, .ref (ad b)), (1, .int y1), (2, .int y2), (3, .int y3)]) hx hb dX0_swornToBy_49 hl (k := 4) rfl rfl (by decide) rfl (fun ls hl => ?_)
          refine lv_goto (tgt := 5) hx hb dX0_swornToBy_52 (by decide) ?_
          exact ih y1 y2 y3 (y4 + (1 : Int32)) _ _ _ h hP hS (lv_sub hl [1, 2, 3, 4, 0] rfl)
        · replace h := ite_f c_20 h
          refine lv_iload_n hx hb dX0_swornToBy_23 rfl (lv_at hl 1 rfl) ?_
          refine lv_aload_n hx hb dX0_swornToBy_24 rfl (lv_at hl 0 rfl) ?_
          refine gt_X0_25 S hK hP hb0 dX0_swornToBy_25 ?_
          refine lv_iload hx hb dX0_swornToBy_28 (lv_at hl 4 rfl) ?_
          obtain ⟨hi_30, h⟩ := oin_of h
          refine k_iald S hK hP (xDr4 hb0) hi_30 dX0_swornToBy_30 ?_
          obtain ⟨r_31, e_31, h⟩ := ob1_of h
          refine k_goI (k_runB (As := [.int y1, .int (gR σ (b + 4) y4.toNatClampNeg)]) (rest := []) S hK hP (k_X4_hasBit l  e_31) cy_X4_hasBit rfl hl.1 rfl (Nat.le_of_ble_eq_true rfl) dX0_swornToBy_31 ⟨Nat.le_of_ble_eq_true rfl, Nat.le_of_ble_eq_true rfl⟩ ⟨Nat.zero_le _, Nat.zero_le _⟩) hS (fun _ h => h) (fun H locs hP hS _ _ => ?_)
          refine lv_if_eq (tgt := 49) hx hb dX0_swornToBy_34 (by decide) (fun c_34 => ?_) (fun c_34 => ?_)
          · replace h := ite_t c_34 h
            refine lv_iinc (v := y4 + (1 : Int32)) (lv' := [(4, .int (y4 + (1 : Int32))), (0, .ref (ad b)), (1, .int y1), (2, .int y2), (3, .int y3)]) hx hb dX0_swornToBy_49 hl (k := 4) rfl rfl (by decide) rfl (fun ls hl => ?_)
            refine lv_goto (tgt := 5) hx hb dX0_swornToBy_52 (by decide) ?_
            exact ih y1 y2 y3 (y4 + (1 : Int32)) _ _ _ h hP hS (lv_sub hl [1, 2, 3, 4, 0] rfl)
          · replace h := ite_f c_34 h
            refine lv_iload_n hx hb dX0_swornToBy_37 rfl (lv_at hl 3 rfl) ?_
            refine lv_iconst (v := (1 : Int32)) hx hb dX0_swornToBy_38 (by decide) ?_
            refine lv_aload_n hx hb dX0_swornToBy_39 rfl (lv_at hl 0 rfl) ?_
            refine gt_X0_28 S hK hP hb0 dX0_swornToBy_40 ?_
            refine lv_iload hx hb dX0_swornToBy_43 (lv_at hl 4 rfl) ?_
            obtain ⟨hi_45, h⟩ := oin_of h
            refine k_iald S hK hP (xDr5 hb0) hi_45 dX0_swornToBy_45 ?_
            refine lv_ishl hx hb dX0_swornToBy_46 ?_
            refine lv_ior hx hb dX0_swornToBy_47 ?_
            refine lv_istore_n (lv' := [(3, .int (y3 ||| ((1 : Int32) <<< ((gR σ (b + 5) y4.toNatClampNeg) &&& 31)))), (0, .ref (ad b)), (1, .int y1), (2, .int y2), (4, .int y4)]) hx hb dX0_swornToBy_48 rfl hl (by decide) rfl (fun ls hl => ?_)
            refine lv_iinc (v := y4 + (1 : Int32)) (lv' := [(4, .int (y4 + (1 : Int32))), (3, .int (y3 ||| ((1 : Int32) <<< ((gR σ (b + 5) y4.toNatClampNeg) &&& 31)))), (0, .ref (ad b)), (1, .int y1), (2, .int y2)]) hx hb dX0_swornToBy_49 hl (k := 4) rfl rfl (by decide) rfl (fun ls hl => ?_)
            refine lv_goto (tgt := 5) hx hb dX0_swornToBy_52 (by decide) ?_
            exact ih y1 y2 (y3 ||| ((1 : Int32) <<< ((gR σ (b + 5) y4.toNatClampNeg) &&& 31))) (y4 + (1 : Int32)) _ _ _ h hP hS (lv_sub hl [2, 3, 4, 1, 0] rfl)
  rw [f_X0_swornToBy] at h
  refine lv_iconst (v := (0 : Int32)) hx hb dX0_swornToBy_0 (by decide) ?_
  refine lv_istore_n (lv' := [(3, .int (0 : Int32)), (0, .ref (ad b)), (1, .int x1), (2, .int x2)]) hx hb dX0_swornToBy_1 rfl hl (by decide) rfl (fun ls hl => ?_)
  refine lv_iconst (v := (0 : Int32)) hx hb dX0_swornToBy_2 (by decide) ?_
  refine lv_istore (lv' := [(4, .int (0 : Int32)), (3, .int (0 : Int32)), (0, .ref (ad b)), (1, .int x1), (2, .int x2)]) hx hb dX0_swornToBy_3 hl (by decide) rfl (fun ls hl => ?_)
  exact loop5 100 x1 x2 (0 : Int32) (0 : Int32) _ _ _ h hP hS (lv_sub hl [2, 3, 4, 1, 0] rfl)
def f_X0_leastRow_L13 (σ : SX) (b : Nat) : Nat → Int32 → Int32 → Int32 → Int32 → Int32 → Option Int32
  | 0, _, _, _, _, _ => none
  | n + 1, y1, y2, y3, y4, y5 => if (gF σ b 1) < y5 then (some (-9 : Int32)) else (ob1 (f_X0_swornToBy σ b y4 y3) (fun r_26 => ob1 (f_X4_hasBit r_26 y2) (fun r_34 => if r_34 = 0 then (f_X0_leastRow_L13 σ b n y1 y2 y3 r_26 (y5 + (1 : Int32))) else (some y5))))
def f_X0_leastRow (σ : SX) (b : Nat) (x1 : Int32) (x2 : Int32) : Option Int32 := ob1 (f_X0_bindingOaths σ b) (fun r_1 => f_X0_leastRow_L13 σ b 100 x1 x2 r_1 ((1 : Int32) <<< (x1 &&& 31)) (1 : Int32))
set_option maxRecDepth 100000 in
set_option maxHeartbeats 4000000 in
theorem k_X0_leastRow (l : Launch) {D : va_G} {A : Nat → Prop} {cI cZ cS : ClassId} {ad : Nat → Nat} {ro : Option Nat} (hAd : ∀ ro σ, va_D A (WX cI cZ cS ad ro σ)) {σ : SX} {b : Nat} {x1 : Int32} {x2 : Int32} {r : Int32} (hb0 : isDy b) (h : f_X0_leastRow σ b x1 x2 = some r) : Ct (QI D A r (WX cI cZ cS ad ro σ)) l yX0_leastRow cX0_leastRow 6 (some .int) 4 87 D (tyS cI cZ cS) A [.ref (ad b), .int x1, .int x2] (WX cI cZ cS ad ro σ) := by
  refine Ct.of (by decide +kernel) (Nat.le_of_ble_eq_true rfl) ?_
  intro p e s m below meth c ls S hK hr hlocks hP hS hl
  have hx := S.1
  have hb := S.2.1
  have hl : lv_has ls 6 [(0, .ref (ad b)), (1, .int x1), (2, .int x2)] := hl
  have loop13 : ∀ (n : Nat) (y1 : Int32) (y2 : Int32) (y3 : Int32) (y4 : Int32) (y5 : Int32) (H : Heap) (locs : List Loc) (ls : Array Slot), f_X0_leastRow_L13 σ b n y1 y2 y3 y4 y5 = some r → va_P D vwCl (WX cI cZ cS ad ro σ) H → va_S A s.heap H locs → lv_has ls 6 [(0, .ref (ad b)), (1, .int y1), (2, .int y2), (3, .int y3), (4, .int y4), (5, .int y5)] → W p l e (rmO 4 87) s m [.ref (ad b), .int x1, .int x2].toArray below meth c H locs 0 0 (MQ below (QI D A r (WX cI cZ cS ad ro σ)) [.ref (ad b), .int x1, .int x2].toArray s 0 0 A) (F0 m 13 ls []) := by
    intro n
    induction n with
    | zero => intro y1 y2 y3 y4 y5 H locs ls h; cases h
    | succ n ih =>
      intro y1 y2 y3 y4 y5 H locs ls h hP hS hl
      rw [f_X0_leastRow_L13] at h
      refine lv_iload hx hb dX0_leastRow_13 (lv_at hl 5 rfl) ?_
      refine lv_aload_n hx hb dX0_leastRow_15 rfl (lv_at hl 0 rfl) ?_
      refine gt_X0_37 S hK hP hb0 dX0_leastRow_16 ?_
      refine lv_icmp_gt (tgt := 49) hx hb dX0_leastRow_19 (by decide) (fun c_19 => ?_) (fun c_19 => ?_)
      · replace h := ite_t c_19 h
        refine lv_bipush (v := (-9 : Int32)) hx hb dX0_leastRow_49 (by decide) ?_
        exact k_iret S hr hlocks hP hS (Option.some.inj h) dX0_leastRow_51
      · replace h := ite_f c_19 h
        refine lv_aload_n hx hb dX0_leastRow_22 rfl (lv_at hl 0 rfl) ?_
        refine lv_iload hx hb dX0_leastRow_23 (lv_at hl 4 rfl) ?_
        refine lv_iload_n hx hb dX0_leastRow_25 rfl (lv_at hl 3 rfl) ?_
        obtain ⟨r_26, e_26, h⟩ := ob1_of h
        refine k_goI (k_runV (As := [.int y4, .int y3]) (rest := []) S hK hP (k_X0_swornToBy l hAd hb0 e_26) cy_X0_swornToBy wd_485 rfl (xD hb0) rfl hl.1 rfl (Nat.le_of_ble_eq_true rfl) dX0_leastRow_26 ⟨Nat.le_of_ble_eq_true rfl, Nat.le_of_ble_eq_true rfl⟩ ⟨Nat.zero_le _, Nat.zero_le _⟩) hS (fun _ h => h) (fun H locs hP hS _ _ => ?_)
        refine lv_istore (lv' := [(4, .int r_26), (0, .ref (ad b)), (1, .int y1), (2, .int y2), (3, .int y3), (5, .int y5)]) hx hb dX0_leastRow_29 hl (by decide) rfl (fun ls hl => ?_)
        refine lv_iload hx hb dX0_leastRow_31 (lv_at hl 0 rfl) ?_
        refine lv_iload_n hx hb dX0_leastRow_33 rfl (lv_at hl 3 rfl) ?_
        obtain ⟨r_34, e_34, h⟩ := ob1_of h
        refine k_goI (k_runB (As := [.int r_26, .int y2]) (rest := []) S hK hP (k_X4_hasBit l  e_34) cy_X4_hasBit rfl hl.1 rfl (Nat.le_of_ble_eq_true rfl) dX0_leastRow_34 ⟨Nat.le_of_ble_eq_true rfl, Nat.le_of_ble_eq_true rfl⟩ ⟨Nat.zero_le _, Nat.zero_le _⟩) hS (fun _ h => h) (fun H locs hP hS _ _ => ?_)
        refine lv_if_eq (tgt := 43) hx hb dX0_leastRow_37 (by decide) (fun c_37 => ?_) (fun c_37 => ?_)
        · replace h := ite_t c_37 h
          refine lv_iinc (v := y5 + (1 : Int32)) (lv' := [(5, .int (y5 + (1 : Int32))), (4, .int r_26), (0, .ref (ad b)), (1, .int y1), (2, .int y2), (3, .int y3)]) hx hb dX0_leastRow_43 hl (k := 5) rfl rfl (by decide) rfl (fun ls hl => ?_)
          refine lv_goto (tgt := 13) hx hb dX0_leastRow_46 (by decide) ?_
          exact ih y1 y2 y3 r_26 (y5 + (1 : Int32)) _ _ _ h hP hS (lv_sub hl [2, 3, 4, 5, 1, 0] rfl)
        · replace h := ite_f c_37 h
          refine lv_iload hx hb dX0_leastRow_40 (lv_at hl 5 rfl) ?_
          exact k_iret S hr hlocks hP hS (Option.some.inj h) dX0_leastRow_42
  rw [f_X0_leastRow] at h
  refine lv_aload_n hx hb dX0_leastRow_0 rfl (lv_at hl 0 rfl) ?_
  obtain ⟨r_1, e_1, h⟩ := ob1_of h
  refine k_goI (k_runV (As := []) (rest := []) S hK hP (k_X0_bindingOaths l hAd hb0 e_1) cy_X0_bindingOaths wd_465 rfl (xD hb0) rfl hl.1 rfl (Nat.le_of_ble_eq_true rfl) dX0_leastRow_1 ⟨Nat.le_of_ble_eq_true rfl, Nat.le_of_ble_eq_true rfl⟩ ⟨Nat.zero_le _, Nat.zero_le _⟩) hS (fun _ h => h) (fun H locs hP hS _ _ => ?_)
  refine lv_istore_n (lv' := [(3, .int r_1), (0, .ref (ad b)), (1, .int x1), (2, .int x2)]) hx hb dX0_leastRow_4 rfl hl (by decide) rfl (fun ls hl => ?_)
  refine lv_iconst (v := (1 : Int32)) hx hb dX0_leastRow_5 (by decide) ?_
  refine lv_iload_n hx hb dX0_leastRow_6 rfl (lv_at hl 2 rfl) ?_
  refine lv_ishl hx hb dX0_leastRow_7 ?_
  refine lv_istore (lv' := [(4, .int ((1 : Int32) <<< (x1 &&& 31))), (3, .int r_1), (0, .ref (ad b)), (1, .int x1), (2, .int x2)]) hx hb dX0_leastRow_8 hl (by decide) rfl (fun ls hl => ?_)
  refine lv_iconst (v := (1 : Int32)) hx hb dX0_leastRow_10 (by decide) ?_
  refine lv_istore (lv' := [(5, .int (1 : Int32)), (4, .int ((1 : Int32) <<< (x1 &&& 31))), (3, .int r_1), (0, .ref (ad b)), (1, .int x1), (2, .int x2)]) hx hb dX0_leastRow_11 hl (by decide) rfl (fun ls hl => ?_)
  exact loop13 100 x1 x2 r_1 ((1 : Int32) <<< (x1 &&& 31)) (1 : Int32) _ _ _ h hP hS (lv_sub hl [3, 4, 5, 2, 1, 0] rfl)
