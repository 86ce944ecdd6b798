def f_X3_hasCell (σ : SX) (b : Nat) (x1 : Int32) : Option Int32 := if x1 < 0 then (some (0 : Int32)) else (if (gF σ b 3) ≤ x1 then (some (0 : Int32)) else (some (1 : Int32)))
set_option maxRecDepth 100000 in
set_option maxHeartbeats 4000000 in
theorem k_X3_hasCell (l : Launch) {D : va_G} {A : Nat → Prop} {cI cZ cS : ClassId} {ad : Nat → Nat} {ro : Option Nat} (hAd : ∀ ro σ, va_D A (WX cI cZ cS ad ro σ)) {σ : SX} {b : Nat} {x1 : Int32} {r : Int32} (hb0 : isSh b) (h : f_X3_hasCell σ b x1 = some r) : Ct (QI D A r (WX cI cZ cS ad ro σ)) l yX3_hasCell cX3_hasCell 2 (some .boolean) 0 0 D (tyS cI cZ cS) A [.ref (ad b), .int x1] (WX cI cZ cS ad ro σ) := by
  refine Ct.of (by decide +kernel) (Nat.le_of_ble_eq_true rfl) ?_
  intro p e s m below meth c ls S hK hr hlocks hP hS hl
  have hx := S.1
  have hb := S.2.1
  have hl : lv_has ls 2 [(0, .ref (ad b)), (1, .int x1)] := hl
  rw [f_X3_hasCell] at h
  refine lv_iload_n hx hb dX3_hasCell_0 rfl (lv_at hl 1 rfl) ?_
  refine lv_if_lt (tgt := 16) hx hb dX3_hasCell_1 (by decide) (fun c_1 => ?_) (fun c_1 => ?_)
  · replace h := ite_t c_1 h
    refine lv_iconst (v := (0 : Int32)) hx hb dX3_hasCell_16 (by decide) ?_
    exact k_zret S hr hlocks hP hS (Option.some.inj h) (Or.inl rfl) dX3_hasCell_17
  · replace h := ite_f c_1 h
    refine lv_iload_n hx hb dX3_hasCell_4 rfl (lv_at hl 1 rfl) ?_
    refine lv_aload_n hx hb dX3_hasCell_5 rfl (lv_at hl 0 rfl) ?_
    refine gt_X3_23 S hK hP hb0 dX3_hasCell_6 ?_
    refine lv_icmp_ge (tgt := 16) hx hb dX3_hasCell_9 (by decide) (fun c_9 => ?_) (fun c_9 => ?_)
    · replace h := ite_t c_9 h
      refine lv_iconst (v := (0 : Int32)) hx hb dX3_hasCell_16 (by decide) ?_
      exact k_zret S hr hlocks hP hS (Option.some.inj h) (Or.inl rfl) dX3_hasCell_17
    · replace h := ite_f c_9 h
      refine lv_iconst (v := (1 : Int32)) hx hb dX3_hasCell_12 (by decide) ?_
      refine lv_goto (tgt := 17) hx hb dX3_hasCell_13 (by decide) ?_
      exact k_zret S hr hlocks hP hS (Option.some.inj h) (Or.inr rfl) dX3_hasCell_17
def f_X3_at (σ : SX) (b : Nat) (x1 : Int32) : Option Int32 := ob1 (f_X3_hasCell σ b x1) (fun r_2 => if r_2 = 0 then (some (0 : Int32)) else (oin x1 60 (some (gR σ (b + 1) x1.toNatClampNeg))))
set_option maxRecDepth 100000 in
set_option maxHeartbeats 4000000 in
theorem k_X3_at (l : Launch) {D : va_G} {A : Nat → Prop} {cI cZ cS : ClassId} {ad : Nat → Nat} {ro : Option Nat} (hAd : ∀ ro σ, va_D A (WX cI cZ cS ad ro σ)) {σ : SX} {b : Nat} {x1 : Int32} {r : Int32} (hb0 : isSh b) (h : f_X3_at σ b x1 = some r) : Ct (QI D A r (WX cI cZ cS ad ro σ)) l yX3_at cX3_at 2 (some .int) 1 21 D (tyS cI cZ cS) A [.ref (ad b), .int x1] (WX cI cZ cS ad ro σ) := by
  refine Ct.of (by decide +kernel) (Nat.le_of_ble_eq_true rfl) ?_
  intro p e s m below meth c ls S hK hr hlocks hP hS hl
  have hx := S.1
  have hb := S.2.1
  have hl : lv_has ls 2 [(0, .ref (ad b)), (1, .int x1)] := hl
  rw [f_X3_at] at h
  refine lv_aload_n hx hb dX3_at_0 rfl (lv_at hl 0 rfl) ?_
  refine lv_iload_n hx hb dX3_at_1 rfl (lv_at hl 1 rfl) ?_
  obtain ⟨r_2, e_2, h⟩ := ob1_of h
  refine k_goI (k_runV (As := [.int x1]) (rest := []) S hK hP (k_X3_hasCell l hAd hb0 e_2) cy_X3_hasCell wd_268 rfl (xS hb0) rfl hl.1 rfl (Nat.le_of_ble_eq_true rfl) dX3_at_2 ⟨Nat.le_of_ble_eq_true rfl, Nat.le_of_ble_eq_true rfl⟩ ⟨Nat.zero_le _, Nat.zero_le _⟩) hS (fun _ h => h) (fun H locs hP hS _ _ => ?_)
  refine lv_if_eq (tgt := 17) hx hb dX3_at_5 (by decide) (fun c_5 => ?_) (fun c_5 => ?_)
  · replace h := ite_t c_5 h
    refine lv_iconst (v := (0 : Int32)) hx hb dX3_at_17 (by decide) ?_
    exact k_iret S hr hlocks hP hS (Option.some.inj h) dX3_at_18
  · replace h := ite_f c_5 h
    refine lv_aload_n hx hb dX3_at_8 rfl (lv_at hl 0 rfl) ?_
    refine gt_X3_9 S hK hP hb0 dX3_at_9 ?_
    refine lv_iload_n hx hb dX3_at_12 rfl (lv_at hl 1 rfl) ?_
    obtain ⟨hi_13, h⟩ := oin_of h
    refine k_iald S hK hP (xSc hb0) hi_13 dX3_at_13 ?_
    refine lv_goto (tgt := 18) hx hb dX3_at_14 (by decide) ?_
    exact k_iret S hr hlocks hP hS (Option.some.inj h) dX3_at_18
def f_X3_renew (σ : SX) (b : Nat) (x1 : Int32) (x2 : Int32) : Option (Unit × SX) := ob2 (f_J7_fill_53178 (sF (sF (sF σ b 0 (1 : Int32)) b 1 x1) b 3 x2) b (0 : Int32)) (fun r_20 s_20 => some ((), s_20))
set_option maxRecDepth 100000 in
set_option maxHeartbeats 4000000 in
theorem k_X3_renew (l : Launch) {D : va_G} {A : Nat → Prop} {cI cZ cS : ClassId} {ad : Nat → Nat} {ro : Option Nat} (hAd : ∀ ro σ, va_D A (WX cI cZ cS ad ro σ)) {σ : SX} {b : Nat} {x1 : Int32} {x2 : Int32} {σ' : SX} {r : Unit} (hb0 : isSh b) (h : f_X3_renew σ b x1 x2 = some (r, σ')) : Ct (QV D A (WX cI cZ cS ad ro (σ'))) l yX3_renew cX3_renew 3 none 1 23 D (tyS cI cZ cS) A [.ref (ad b), .int x1, .int x2] (WX cI cZ cS ad ro σ) := by
  refine Ct.of (by decide +kernel) (Nat.le_of_ble_eq_true rfl) ?_
  intro p e s m below meth c ls S hK hr hlocks hP hS hl
  have hx := S.1
  have hb := S.2.1
  have hl : lv_has ls 3 [(0, .ref (ad b)), (1, .int x1), (2, .int x2)] := hl
  rw [f_X3_renew] at h
  refine lv_aload_n hx hb dX3_renew_0 rfl (lv_at hl 0 rfl) ?_
  refine lv_iconst (v := (1 : Int32)) hx hb dX3_renew_1 (by decide) ?_
  refine pt_X3_15 S hK hP (hAd _ _) hS hb0 (Or.inr rfl) dX3_renew_2 (fun H locs hP hS => ?_)
  refine lv_aload_n hx hb dX3_renew_5 rfl (lv_at hl 0 rfl) ?_
  refine lv_iload_n hx hb dX3_renew_6 rfl (lv_at hl 1 rfl) ?_
  refine pt_X3_19 S hK hP (hAd _ _) hS hb0 dX3_renew_7 (fun H locs hP hS => ?_)
  refine lv_aload_n hx hb dX3_renew_10 rfl (lv_at hl 0 rfl) ?_
  refine lv_iload_n hx hb dX3_renew_11 rfl (lv_at hl 2 rfl) ?_
  refine pt_X3_23 S hK hP (hAd _ _) hS hb0 dX3_renew_12 (fun H locs hP hS => ?_)
  refine lv_aload_n hx hb dX3_renew_15 rfl (lv_at hl 0 rfl) ?_
  refine gt_X3_9 S hK hP hb0 dX3_renew_16 ?_
  refine lv_iconst (v := (0 : Int32)) hx hb dX3_renew_19 (by decide) ?_
  obtain ⟨r_20, s_20, e_20, h⟩ := ob2_of h
  refine k_goV (k_runS (As := [.ref (ad (b + 1)), .int (0 : Int32)]) (rest := []) S hK hP (k_J7_fill_53178 l hAd hb0 e_20) cy_J7_fill_53178 wd_563 rfl hl.1 rfl (Nat.le_of_ble_eq_true rfl) dX3_renew_20 ⟨Nat.le_of_ble_eq_true rfl, Nat.le_of_ble_eq_true rfl⟩ ⟨Nat.zero_le _, Nat.zero_le _⟩) hS (fun _ h => h) (fun H locs hP hS _ _ => ?_)
  obtain ⟨rfl, rfl⟩ := some_pair h
  exact k_vret S hr hlocks hP hS dX3_renew_23
def f_X3_faultAs (σ : SX) (b : Nat) (x1 : Int32) : Option Int32 := if (gF σ b 0) = 0 then (some (1 : Int32)) else (if (gF σ b 1) = x1 then (some (0 : Int32)) else (some (2 : Int32)))
set_option maxRecDepth 100000 in
set_option maxHeartbeats 4000000 in
theorem k_X3_faultAs (l : Launch) {D : va_G} {A : Nat → Prop} {cI cZ cS : ClassId} {ad : Nat → Nat} {ro : Option Nat} (hAd : ∀ ro σ, va_D A (WX cI cZ cS ad ro σ)) {σ : SX} {b : Nat} {x1 : Int32} {r : Int32} (hb0 : isSh b) (h : f_X3_faultAs σ b x1 = some r) : Ct (QI D A r (WX cI cZ cS ad ro σ)) l yX3_faultAs cX3_faultAs 2 (some .int) 0 0 D (tyS cI cZ cS) A [.ref (ad b), .int x1] (WX cI cZ cS ad ro σ) := by
  refine Ct.of (by decide +kernel) (Nat.le_of_ble_eq_true rfl) ?_
  intro p e s m below meth c ls S hK hr hlocks hP hS hl
  have hx := S.1
  have hb := S.2.1
  have hl : lv_has ls 2 [(0, .ref (ad b)), (1, .int x1)] := hl
  rw [f_X3_faultAs] at h
  refine lv_aload_n hx hb dX3_faultAs_0 rfl (lv_at hl 0 rfl) ?_
  refine gt_X3_15 S hK hP hb0 dX3_faultAs_1 ?_
  refine lv_if_ne (tgt := 9) hx hb dX3_faultAs_4 (by decide) (fun c_4 => ?_) (fun c_4 => ?_)
  · replace h := ite_f c_4 h
    refine lv_aload_n hx hb dX3_faultAs_9 rfl (lv_at hl 0 rfl) ?_
    refine gt_X3_19 S hK hP hb0 dX3_faultAs_10 ?_
    refine lv_iload_n hx hb dX3_faultAs_13 rfl (lv_at hl 1 rfl) ?_
    refine lv_icmp_ne (tgt := 21) hx hb dX3_faultAs_14 (by decide) (fun c_14 => ?_) (fun c_14 => ?_)
    · replace h := ite_f c_14 h
      refine lv_iconst (v := (2 : Int32)) hx hb dX3_faultAs_21 (by decide) ?_
      exact k_iret S hr hlocks hP hS (Option.some.inj h) dX3_faultAs_22
    · replace h := ite_t c_14 h
      refine lv_iconst (v := (0 : Int32)) hx hb dX3_faultAs_17 (by decide) ?_
      refine lv_goto (tgt := 22) hx hb dX3_faultAs_18 (by decide) ?_
      exact k_iret S hr hlocks hP hS (Option.some.inj h) dX3_faultAs_22
  · replace h := ite_t c_4 h
    refine lv_iconst (v := (1 : Int32)) hx hb dX3_faultAs_7 (by decide) ?_
    exact k_iret S hr hlocks hP hS (Option.some.inj h) dX3_faultAs_8
def f_X3_hasCells (σ : SX) (b : Nat) (x1 : Int32) (x2 : Int32) : Option Int32 := if x1 < 0 then (some (0 : Int32)) else (if (gF σ b 3) < x1 then (some (0 : Int32)) else (if x2 < 0 then (some (0 : Int32)) else (if ((gF σ b 3) - x1) < x2 then (some (0 : Int32)) else (some (1 : Int32)))))
set_option maxRecDepth 100000 in
set_option maxHeartbeats 4000000 in
theorem k_X3_hasCells (l : Launch) {D : va_G} {A : Nat → Prop} {cI cZ cS : ClassId} {ad : Nat → Nat} {ro : Option Nat} (hAd : ∀ ro σ, va_D A (WX cI cZ cS ad ro σ)) {σ : SX} {b : Nat} {x1 : Int32} {x2 : Int32} {r : Int32} (hb0 : isSh b) (h : f_X3_hasCells σ b x1 x2 = some r) : Ct (QI D A r (WX cI cZ cS ad ro σ)) l yX3_hasCells cX3_hasCells 3 (some .boolean) 0 0 D (tyS cI cZ cS) A [.ref (ad b), .int x1, .int x2] (WX cI cZ cS ad ro σ) := by
  refine Ct.of (by decide +kernel) (Nat.le_of_ble_eq_true rfl) ?_
  intro p e s m below meth c ls S hK hr hlocks hP hS hl
  have hx := S.1
  have hb := S.2.1
  have hl : lv_has ls 3 [(0, .ref (ad b)), (1, .int x1), (2, .int x2)] := hl
  rw [f_X3_hasCells] at h
  refine lv_iload_n hx hb dX3_hasCells_0 rfl (lv_at hl 1 rfl) ?_
  refine lv_if_lt (tgt := 30) hx hb dX3_hasCells_1 (by decide) (fun c_1 => ?_) (fun c_1 => ?_)
  · replace h := ite_t c_1 h
    refine lv_iconst (v := (0 : Int32)) hx hb dX3_hasCells_30 (by decide) ?_
    exact k_zret S hr hlocks hP hS (Option.some.inj h) (Or.inl rfl) dX3_hasCells_31
  · replace h := ite_f c_1 h
    refine lv_iload_n hx hb dX3_hasCells_4 rfl (lv_at hl 1 rfl) ?_
    refine lv_aload_n hx hb dX3_hasCells_5 rfl (lv_at hl 0 rfl) ?_
    refine gt_X3_23 S hK hP hb0 dX3_hasCells_6 ?_
    refine lv_icmp_gt (tgt := 30) hx hb dX3_hasCells_9 (by decide) (fun c_9 => ?_) (fun c_9 => ?_)
    · replace h := ite_t c_9 h
      refine lv_iconst (v := (0 : Int32)) hx hb dX3_hasCells_30 (by decide) ?_
      exact k_zret S hr hlocks hP hS (Option.some.inj h) (Or.inl rfl) dX3_hasCells_31
    · replace h := ite_f c_9 h
      refine lv_iload_n hx hb dX3_hasCells_12 rfl (lv_at hl 2 rfl) ?_
      refine lv_if_lt (tgt := 30) hx hb dX3_hasCells_13 (by decide) (fun c_13 => ?_) (fun c_13 => ?_)
      · replace h := ite_t c_13 h
        refine lv_iconst (v := (0 : Int32)) hx hb dX3_hasCells_30 (by decide) ?_
        exact k_zret S hr hlocks hP hS (Option.some.inj h) (Or.inl rfl) dX3_hasCells_31
      · replace h := ite_f c_13 h
        refine lv_iload_n hx hb dX3_hasCells_16 rfl (lv_at hl 2 rfl) ?_
        refine lv_aload_n hx hb dX3_hasCells_17 rfl (lv_at hl 0 rfl) ?_
        refine gt_X3_23 S hK hP hb0 dX3_hasCells_18 ?_
        refine lv_iload_n hx hb dX3_hasCells_21 rfl (lv_at hl 1 rfl) ?_
        refine lv_isub hx hb dX3_hasCells_22 ?_
        refine lv_icmp_gt (tgt := 30) hx hb dX3_hasCells_23 (by decide) (fun c_23 => ?_) (fun c_23 => ?_)
        · replace h := ite_t c_23 h
          refine lv_iconst (v := (0 : Int32)) hx hb dX3_hasCells_30 (by decide) ?_
          exact k_zret S hr hlocks hP hS (Option.some.inj h) (Or.inl rfl) dX3_hasCells_31
        · replace h := ite_f c_23 h
          refine lv_iconst (v := (1 : Int32)) hx hb dX3_hasCells_26 (by decide) ?_
          refine lv_goto (tgt := 31) hx hb dX3_hasCells_27 (by decide) ?_
          exact k_zret S hr hlocks hP hS (Option.some.inj h) (Or.inr rfl) dX3_hasCells_31
def f_X3_cutToLane (σ : SX) (b : Nat) (x1 : Int32) : Option Int32 := if (gF σ b 1) = (0 : Int32) then (some x1.toInt8.toInt32) else (if (gF σ b 1) = (1 : Int32) then (some x1.toInt16.toInt32) else (some x1))
set_option maxRecDepth 100000 in
set_option maxHeartbeats 4000000 in
theorem k_X3_cutToLane (l : Launch) {D : va_G} {A : Nat → Prop} {cI cZ cS : ClassId} {ad : Nat → Nat} {ro : Option Nat} (hAd : ∀ ro σ, va_D A (WX cI cZ cS ad ro σ)) {σ : SX} {b : Nat} {x1 : Int32} {r : Int32} (hb0 : isSh b) (h : f_X3_cutToLane σ b x1 = some r) : Ct (QI D A r (WX cI cZ cS ad ro σ)) l yX3_cutToLane cX3_cutToLane 2 (some .int) 0 0 D (tyS cI cZ cS) A [.ref (ad b), .int x1] (WX cI cZ cS ad ro σ) := by
  refine Ct.of (by decide +kernel) (Nat.le_of_ble_eq_true rfl) ?_
  intro p e s m below meth c ls S hK hr hlocks hP hS hl
  have hx := S.1
  have hb := S.2.1
  have hl : lv_has ls 2 [(0, .ref (ad b)), (1, .int x1)] := hl
  rw [f_X3_cutToLane] at h
  refine lv_aload_n hx hb dX3_cutToLane_0 rfl (lv_at hl 0 rfl) ?_
  refine gt_X3_19 S hK hP hb0 dX3_cutToLane_1 ?_
  by_cases c_4_0 : gF σ b 1 = (0 : Int32)
  · replace h := ite_t c_4_0 h
    refine lv_lookup (tgt := 32) hx hb dX3_cutToLane_4 (by decide) (by rw [c_4_0] <;> rfl) (by decide) ?_
    refine lv_iload_n hx hb dX3_cutToLane_32 rfl (lv_at hl 1 rfl) ?_
    refine lv_i2b (v := x1.toInt8.toInt32) hx hb dX3_cutToLane_33 rfl ?_
    exact k_iret S hr hlocks hP hS (Option.some.inj h) dX3_cutToLane_34
  · replace h := ite_f c_4_0 h
    by_cases c_4_1 : gF σ b 1 = (1 : Int32)
    · replace h := ite_t c_4_1 h
      refine lv_lookup (tgt := 35) hx hb dX3_cutToLane_4 (by decide) (by rw [c_4_1] <;> rfl) (by decide) ?_
      refine lv_iload_n hx hb dX3_cutToLane_35 rfl (lv_at hl 1 rfl) ?_
      refine lv_i2s (v := x1.toInt16.toInt32) hx hb dX3_cutToLane_36 rfl ?_
      exact k_iret S hr hlocks hP hS (Option.some.inj h) dX3_cutToLane_37
    · replace h := ite_f c_4_1 h
      refine lv_lookup (tgt := 38) (off := 34) hx hb dX3_cutToLane_4 (by decide) ((lv_osw c_4_0 rfl).trans ((lv_osw c_4_1 rfl).trans (rfl))) (by decide) ?_
      refine lv_iload_n hx hb dX3_cutToLane_38 rfl (lv_at hl 1 rfl) ?_
      exact k_iret S hr hlocks hP hS (Option.some.inj h) dX3_cutToLane_39
def f_X3_store (σ : SX) (b : Nat) (x1 : Int32) (x2 : Int32) : Option (Unit × SX) := ob1 (f_X3_hasCell σ b x1) (fun r_2 => if r_2 = 0 then (some ((), σ)) else (ob1 (f_X3_cutToLane σ b x2) (fun r_15 => oin x1 60 (some ((), sR σ (b + 1) (upd (gR σ (b + 1)) x1.toNatClampNeg r_15))))))
set_option maxRecDepth 100000 in
set_option maxHeartbeats 4000000 in
theorem k_X3_store (l : Launch) {D : va_G} {A : Nat → Prop} {cI cZ cS : ClassId} {ad : Nat → Nat} {ro : Option Nat} (hAd : ∀ ro σ, va_D A (WX cI cZ cS ad ro σ)) {σ : SX} {b : Nat} {x1 : Int32} {x2 : Int32} {σ' : SX} {r : Unit} (hb0 : isSh b) (h : f_X3_store σ b x1 x2 = some (r, σ')) : Ct (QV D A (WX cI cZ cS ad ro (σ'))) l yX3_store cX3_store 3 none 1 21 D (tyS cI cZ cS) A [.ref (ad b), .int x1, .int x2] (WX cI cZ cS ad ro σ) := by
  refine Ct.of (by decide +kernel) (Nat.le_of_ble_eq_true rfl) ?_
  intro p e s m below meth c ls S hK hr hlocks hP hS hl
  have hx := S.1
  have hb := S.2.1
  have hl : lv_has ls 3 [(0, .ref (ad b)), (1, .int x1), (2, .int x2)] := hl
  rw [f_X3_store] at h
  refine lv_aload_n hx hb dX3_store_0 rfl (lv_at hl 0 rfl) ?_
  refine lv_iload_n hx hb dX3_store_1 rfl (lv_at hl 1 rfl) ?_
  obtain ⟨r_2, e_2, h⟩ := ob1_of h
  refine k_goI (k_runV (As := [.int x1]) (rest := []) S hK hP (k_X3_hasCell l hAd hb0 e_2) cy_X3_hasCell wd_268 rfl (xS hb0) rfl hl.1 rfl (Nat.le_of_ble_eq_true rfl) dX3_store_2 ⟨Nat.le_of_ble_eq_true rfl, Nat.le_of_ble_eq_true rfl⟩ ⟨Nat.zero_le _, Nat.zero_le _⟩) hS (fun _ h => h) (fun H locs hP hS _ _ => ?_)
  refine lv_if_eq (tgt := 19) hx hb dX3_store_5 (by decide) (fun c_5 => ?_) (fun c_5 => ?_)
  · replace h := ite_t c_5 h
    obtain ⟨rfl, rfl⟩ := some_pair h
    exact k_vret S hr hlocks hP hS dX3_store_19
  · replace h := ite_f c_5 h
    refine lv_aload_n hx hb dX3_store_8 rfl (lv_at hl 0 rfl) ?_
    refine gt_X3_9 S hK hP hb0 dX3_store_9 ?_
    refine lv_iload_n hx hb dX3_store_12 rfl (lv_at hl 1 rfl) ?_
    refine lv_aload_n hx hb dX3_store_13 rfl (lv_at hl 0 rfl) ?_
    refine lv_iload_n hx hb dX3_store_14 rfl (lv_at hl 2 rfl) ?_
    obtain ⟨r_15, e_15, h⟩ := ob1_of h
    refine k_goI (k_runV (As := [.int x2]) (rest := [.int x1, .ref (ad (b + 1))]) S hK hP (k_X3_cutToLane l hAd hb0 e_15) cy_X3_cutToLane wd_579 rfl (xS hb0) rfl hl.1 rfl (Nat.le_of_ble_eq_true rfl) dX3_store_15 ⟨Nat.le_of_ble_eq_true rfl, Nat.le_of_ble_eq_true rfl⟩ ⟨Nat.zero_le _, Nat.zero_le _⟩) hS (fun _ h => h) (fun H locs hP hS _ _ => ?_)
    obtain ⟨hi_18, h⟩ := oin_of h
    refine k_iast S hK hP (hAd _ _) hS (xSc hb0) (xSc_s hb0) hi_18 dX3_store_18 (fun H locs hP hS => ?_)
    obtain ⟨rfl, rfl⟩ := some_pair h
    exact k_vret S hr hlocks hP hS dX3_store_19
