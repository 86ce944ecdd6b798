def f_X4_sheet (σ : SX) (x1 : Int32) (x2 : Int32) (x3 : Int32) : Option (Int32 × SX) := ob1 (f_X4_isSheet x1) (fun r_6 => if r_6 = 0 then (some ((-1 : Int32), sF σ 0 6 (0 : Int32))) else (ob1 (f_X4_isLane x2) (fun r_15 => if r_15 = 0 then (some ((-2 : Int32), sF σ 0 6 (0 : Int32))) else (if x3 ≤ (60 : Int32) then (if 0 ≤ x3 then (oin x1 4 (ob2 (f_X3_renew (sF σ 0 6 (0 : Int32)) (2 + 2 * x1.toNatClampNeg) x2 x3) (fun r_48 s_48 => some ((1 : Int32), s_48)))) else (ob2 (f_X4_failed (sF σ 0 6 (0 : Int32)) (4 : Int32)) (fun r_36 s_36 => some (r_36, s_36)))) else (some ((-2 : Int32), sF σ 0 6 (0 : Int32)))))))
set_option maxRecDepth 100000 in
set_option maxHeartbeats 4000000 in
theorem k_X4_sheet (l : Launch) {D : va_G} {A : Nat → Prop} {cI cZ cS : ClassId} {ad : Nat → Nat} {ro : Option Nat} (hAd : ∀ ro σ, va_D A (WX cI cZ cS ad ro σ)) {σ : SX} {x1 : Int32} {x2 : Int32} {x3 : Int32} {σ' : SX} {r : Int32} (h : f_X4_sheet σ x1 x2 x3 = some (r, σ')) : Ct (QI D A r (WX cI cZ cS ad ro (σ'))) l yX4_sheet cX4_sheet 4 (some .int) 2 45 D (tyS cI cZ cS) A [.ref (ad 0), .int x1, .int x2, .int x3] (WX cI cZ cS ad ro σ) := by
  refine Ct.of (by decide +kernel) (Nat.le_of_ble_eq_true rfl) ?_
  intro p e s m below meth c ls S hK hr hlocks hP hS hl
  have hx := S.1
  have hb := S.2.1
  have hl : lv_has ls 4 [(0, .ref (ad 0)), (1, .int x1), (2, .int x2), (3, .int x3)] := hl
  rw [f_X4_sheet] at h
  refine lv_aload_n hx hb dX4_sheet_0 rfl (lv_at hl 0 rfl) ?_
  refine lv_iconst (v := (0 : Int32)) hx hb dX4_sheet_1 (by decide) ?_
  refine pt_X4_42 S hK hP (hAd _ _) hS dX4_sheet_2 (fun H locs hP hS => ?_)
  refine lv_iload_n hx hb dX4_sheet_5 rfl (lv_at hl 1 rfl) ?_
  obtain ⟨r_6, e_6, h⟩ := ob1_of h
  refine k_goI (k_runS (As := [.int x1]) (rest := []) S hK hP (k_X4_isSheet l  e_6) cy_X4_isSheet wd_222 rfl hl.1 rfl (Nat.le_of_ble_eq_true rfl) dX4_sheet_6 ⟨Nat.le_of_ble_eq_true rfl, Nat.le_of_ble_eq_true rfl⟩ ⟨Nat.zero_le _, Nat.zero_le _⟩) hS (fun _ h => h) (fun H locs hP hS _ _ => ?_)
  refine lv_if_ne (tgt := 14) hx hb dX4_sheet_9 (by decide) (fun c_9 => ?_) (fun c_9 => ?_)
  · replace h := ite_f c_9 h
    refine lv_iload_n hx hb dX4_sheet_14 rfl (lv_at hl 2 rfl) ?_
    obtain ⟨r_15, e_15, h⟩ := ob1_of h
    refine k_goI (k_runS (As := [.int x2]) (rest := []) S hK hP (k_X4_isLane l  e_15) cy_X4_isLane wd_225 rfl hl.1 rfl (Nat.le_of_ble_eq_true rfl) dX4_sheet_15 ⟨Nat.le_of_ble_eq_true rfl, Nat.le_of_ble_eq_true rfl⟩ ⟨Nat.zero_le _, Nat.zero_le _⟩) hS (fun _ h => h) (fun H locs hP hS _ _ => ?_)
    refine lv_if_eq (tgt := 27) hx hb dX4_sheet_18 (by decide) (fun c_18 => ?_) (fun c_18 => ?_)
    · replace h := ite_t c_18 h
      refine lv_bipush (v := (-2 : Int32)) hx hb dX4_sheet_27 (by decide) ?_
      obtain ⟨rfl, rfl⟩ := some_pair h
      exact k_iret S hr hlocks hP hS rfl dX4_sheet_29
    · replace h := ite_f c_18 h
      refine lv_iload_n hx hb dX4_sheet_21 rfl (lv_at hl 3 rfl) ?_
      refine lv_bipush (v := (60 : Int32)) hx hb dX4_sheet_22 (by decide) ?_
      refine lv_icmp_le (tgt := 30) hx hb dX4_sheet_24 (by decide) (fun c_24 => ?_) (fun c_24 => ?_)
      · replace h := ite_t c_24 h
        refine lv_iload_n hx hb dX4_sheet_30 rfl (lv_at hl 3 rfl) ?_
        refine lv_if_ge (tgt := 40) hx hb dX4_sheet_31 (by decide) (fun c_31 => ?_) (fun c_31 => ?_)
        · replace h := ite_t c_31 h
          refine lv_aload_n hx hb dX4_sheet_40 rfl (lv_at hl 0 rfl) ?_
          refine gt_X4_13 S hK hP dX4_sheet_41 ?_
          refine lv_iload_n hx hb dX4_sheet_44 rfl (lv_at hl 1 rfl) ?_
          obtain ⟨hi_45, h⟩ := oin_of h
          refine k_aald S hK hP xA hi_45 rfl dX4_sheet_45 ?_
          refine lv_iload_n hx hb dX4_sheet_46 rfl (lv_at hl 2 rfl) ?_
          refine lv_iload_n hx hb dX4_sheet_47 rfl (lv_at hl 3 rfl) ?_
          obtain ⟨r_48, s_48, e_48, h⟩ := ob2_of h
          refine k_goV (k_runV (As := [.int x2, .int x3]) (rest := []) S hK hP (k_X3_renew l hAd (isSh_of hi_45) e_48) cy_X3_renew wd_559 rfl (xS (isSh_of hi_45)) rfl hl.1 rfl (Nat.le_of_ble_eq_true rfl) dX4_sheet_48 ⟨Nat.le_of_ble_eq_true rfl, Nat.le_of_ble_eq_true rfl⟩ ⟨Nat.zero_le _, Nat.zero_le _⟩) hS (fun _ h => h) (fun H locs hP hS _ _ => ?_)
          refine lv_iconst (v := (1 : Int32)) hx hb dX4_sheet_51 (by decide) ?_
          obtain ⟨rfl, rfl⟩ := some_pair h
          exact k_iret S hr hlocks hP hS rfl dX4_sheet_52
        · replace h := ite_f c_31 h
          refine lv_aload_n hx hb dX4_sheet_34 rfl (lv_at hl 0 rfl) ?_
          refine lv_iconst (v := (4 : Int32)) hx hb dX4_sheet_35 (by decide) ?_
          obtain ⟨r_36, s_36, e_36, h⟩ := ob2_of h
          refine k_goI (k_runV (As := [.int (4 : Int32)]) (rest := []) S hK hP (k_X4_failed l hAd e_36) cy_X4_failed wd_236 rfl xO rfl hl.1 rfl (Nat.le_of_ble_eq_true rfl) dX4_sheet_36 ⟨Nat.le_of_ble_eq_true rfl, Nat.le_of_ble_eq_true rfl⟩ ⟨Nat.zero_le _, Nat.zero_le _⟩) hS (fun _ h => h) (fun H locs hP hS _ _ => ?_)
          obtain ⟨rfl, rfl⟩ := some_pair h
          exact k_iret S hr hlocks hP hS rfl dX4_sheet_39
      · replace h := ite_f c_24 h
        refine lv_bipush (v := (-2 : Int32)) hx hb dX4_sheet_27 (by decide) ?_
        obtain ⟨rfl, rfl⟩ := some_pair h
        exact k_iret S hr hlocks hP hS rfl dX4_sheet_29
  · replace h := ite_t c_9 h
    refine lv_iconst (v := (-1 : Int32)) hx hb dX4_sheet_12 (by decide) ?_
    obtain ⟨rfl, rfl⟩ := some_pair h
    exact k_iret S hr hlocks hP hS rfl dX4_sheet_13
def f_X4_lose (σ : SX) (x1 : Int32) : Option (Int32 × SX) := ob1 (f_X4_isSheet x1) (fun r_1 => if r_1 = 0 then (some ((-1 : Int32), σ)) else (oin x1 4 (if (gF σ (2 + 2 * x1.toNatClampNeg) 0) = 0 then (oin x1 4 (some ((0 : Int32), sF σ (2 + 2 * x1.toNatClampNeg) 0 (0 : Int32)))) else (oin x1 4 (some ((1 : Int32), sF σ (2 + 2 * x1.toNatClampNeg) 0 (0 : Int32)))))))
set_option maxRecDepth 100000 in
set_option maxHeartbeats 4000000 in
theorem k_X4_lose (l : Launch) {D : va_G} {A : Nat → Prop} {cI cZ cS : ClassId} {ad : Nat → Nat} {ro : Option Nat} (hAd : ∀ ro σ, va_D A (WX cI cZ cS ad ro σ)) {σ : SX} {x1 : Int32} {σ' : SX} {r : Int32} (h : f_X4_lose σ x1 = some (r, σ')) : Ct (QI D A r (WX cI cZ cS ad ro (σ'))) l yX4_lose cX4_lose 3 (some .int) 1 20 D (tyS cI cZ cS) A [.ref (ad 0), .int x1] (WX cI cZ cS ad ro σ) := by
  refine Ct.of (by decide +kernel) (Nat.le_of_ble_eq_true rfl) ?_
  intro p e s m below meth c ls S hK hr hlocks hP hS hl
  have hx := S.1
  have hb := S.2.1
  have hl : lv_has ls 3 [(0, .ref (ad 0)), (1, .int x1)] := hl
  rw [f_X4_lose] at h
  refine lv_iload_n hx hb dX4_lose_0 rfl (lv_at hl 1 rfl) ?_
  obtain ⟨r_1, e_1, h⟩ := ob1_of h
  refine k_goI (k_runS (As := [.int x1]) (rest := []) S hK hP (k_X4_isSheet l  e_1) cy_X4_isSheet wd_222 rfl hl.1 rfl (Nat.le_of_ble_eq_true rfl) dX4_lose_1 ⟨Nat.le_of_ble_eq_true rfl, Nat.le_of_ble_eq_true rfl⟩ ⟨Nat.zero_le _, Nat.zero_le _⟩) hS (fun _ h => h) (fun H locs hP hS _ _ => ?_)
  refine lv_if_ne (tgt := 9) hx hb dX4_lose_4 (by decide) (fun c_4 => ?_) (fun c_4 => ?_)
  · replace h := ite_f c_4 h
    refine lv_aload_n hx hb dX4_lose_9 rfl (lv_at hl 0 rfl) ?_
    refine gt_X4_13 S hK hP dX4_lose_10 ?_
    refine lv_iload_n hx hb dX4_lose_13 rfl (lv_at hl 1 rfl) ?_
    obtain ⟨hi_14, h⟩ := oin_of h
    refine k_aald S hK hP xA hi_14 rfl dX4_lose_14 ?_
    refine gt_X4_231 S hK hP (isSh_of hi_14) dX4_lose_15 ?_
    refine lv_if_eq (tgt := 25) hx hb dX4_lose_18 (by decide) (fun c_18 => ?_) (fun c_18 => ?_)
    · replace h := ite_t c_18 h
      refine lv_iconst (v := (0 : Int32)) hx hb dX4_lose_25 (by decide) ?_
      refine lv_istore_n (lv' := [(2, .int (0 : Int32)), (0, .ref (ad 0)), (1, .int x1)]) hx hb dX4_lose_26 rfl hl (by decide) rfl (fun ls hl => ?_)
      refine lv_aload_n hx hb dX4_lose_27 rfl (lv_at hl 1 rfl) ?_
      refine gt_X4_13 S hK hP dX4_lose_28 ?_
      refine lv_iload_n hx hb dX4_lose_31 rfl (lv_at hl 2 rfl) ?_
      obtain ⟨hi_32, h⟩ := oin_of h
      refine k_aald S hK hP xA hi_32 rfl dX4_lose_32 ?_
      refine lv_iconst (v := (0 : Int32)) hx hb dX4_lose_33 (by decide) ?_
      refine pt_X4_231 S hK hP (hAd _ _) hS (isSh_of hi_32) (Or.inl rfl) dX4_lose_34 (fun H locs hP hS => ?_)
      refine lv_iload_n hx hb dX4_lose_37 rfl (lv_at hl 0 rfl) ?_
      obtain ⟨rfl, rfl⟩ := some_pair h
      exact k_iret S hr hlocks hP hS rfl dX4_lose_38
    · replace h := ite_f c_18 h
      refine lv_iconst (v := (1 : Int32)) hx hb dX4_lose_21 (by decide) ?_
      refine lv_goto (tgt := 26) hx hb dX4_lose_22 (by decide) ?_
      refine lv_istore_n (lv' := [(2, .int (1 : Int32)), (0, .ref (ad 0)), (1, .int x1)]) hx hb dX4_lose_26 rfl hl (by decide) rfl (fun ls hl => ?_)
      refine lv_aload_n hx hb dX4_lose_27 rfl (lv_at hl 1 rfl) ?_
      refine gt_X4_13 S hK hP dX4_lose_28 ?_
      refine lv_iload_n hx hb dX4_lose_31 rfl (lv_at hl 2 rfl) ?_
      obtain ⟨hi_32, h⟩ := oin_of h
      refine k_aald S hK hP xA hi_32 rfl dX4_lose_32 ?_
      refine lv_iconst (v := (0 : Int32)) hx hb dX4_lose_33 (by decide) ?_
      refine pt_X4_231 S hK hP (hAd _ _) hS (isSh_of hi_32) (Or.inl rfl) dX4_lose_34 (fun H locs hP hS => ?_)
      refine lv_iload_n hx hb dX4_lose_37 rfl (lv_at hl 0 rfl) ?_
      obtain ⟨rfl, rfl⟩ := some_pair h
      exact k_iret S hr hlocks hP hS rfl dX4_lose_38
  · replace h := ite_t c_4 h
    refine lv_iconst (v := (-1 : Int32)) hx hb dX4_lose_7 (by decide) ?_
    obtain ⟨rfl, rfl⟩ := some_pair h
    exact k_iret S hr hlocks hP hS rfl dX4_lose_8
def f_X4_put (σ : SX) (x1 : Int32) (x2 : Int32) (x3 : Int32) : Option (Int32 × SX) := ob1 (f_X4_isSheet x1) (fun r_6 => if r_6 = 0 then (some ((-1 : Int32), sF σ 0 6 (0 : Int32))) else (oin x1 4 (if (gF (sF σ 0 6 (0 : Int32)) (2 + 2 * x1.toNatClampNeg) 0) = 0 then (ob2 (f_X4_failed (sF σ 0 6 (0 : Int32)) (1 : Int32)) (fun r_32 s_32 => some (r_32, s_32))) else (ob1 (f_X3_hasCell (sF σ 0 6 (0 : Int32)) (2 + 2 * x1.toNatClampNeg) x2) (fun r_39 => if r_39 = 0 then (ob2 (f_X4_failed (sF σ 0 6 (0 : Int32)) (3 : Int32)) (fun r_47 s_47 => some (r_47, s_47))) else (ob2 (f_X3_store (sF σ 0 6 (0 : Int32)) (2 + 2 * x1.toNatClampNeg) x2 x3) (fun r_55 s_55 => some ((1 : Int32), s_55))))))))
set_option maxRecDepth 100000 in
set_option maxHeartbeats 4000000 in
theorem k_X4_put (l : Launch) {D : va_G} {A : Nat → Prop} {cI cZ cS : ClassId} {ad : Nat → Nat} {ro : Option Nat} (hAd : ∀ ro σ, va_D A (WX cI cZ cS ad ro σ)) {σ : SX} {x1 : Int32} {x2 : Int32} {x3 : Int32} {σ' : SX} {r : Int32} (h : f_X4_put σ x1 x2 x3 = some (r, σ')) : Ct (QI D A r (WX cI cZ cS ad ro (σ'))) l yX4_put cX4_put 5 (some .int) 2 43 D (tyS cI cZ cS) A [.ref (ad 0), .int x1, .int x2, .int x3] (WX cI cZ cS ad ro σ) := by
  refine Ct.of (by decide +kernel) (Nat.le_of_ble_eq_true rfl) ?_
  intro p e s m below meth c ls S hK hr hlocks hP hS hl
  have hx := S.1
  have hb := S.2.1
  have hl : lv_has ls 5 [(0, .ref (ad 0)), (1, .int x1), (2, .int x2), (3, .int x3)] := hl
  rw [f_X4_put] at h
  refine lv_aload_n hx hb dX4_put_0 rfl (lv_at hl 0 rfl) ?_
  refine lv_iconst (v := (0 : Int32)) hx hb dX4_put_1 (by decide) ?_
  refine pt_X4_42 S hK hP (hAd _ _) hS dX4_put_2 (fun H locs hP hS => ?_)
  refine lv_iload_n hx hb dX4_put_5 rfl (lv_at hl 1 rfl) ?_
  obtain ⟨r_6, e_6, h⟩ := ob1_of h
  refine k_goI (k_runS (As := [.int x1]) (rest := []) S hK hP (k_X4_isSheet l  e_6) cy_X4_isSheet wd_222 rfl hl.1 rfl (Nat.le_of_ble_eq_true rfl) dX4_put_6 ⟨Nat.le_of_ble_eq_true rfl, Nat.le_of_ble_eq_true rfl⟩ ⟨Nat.zero_le _, Nat.zero_le _⟩) hS (fun _ h => h) (fun H locs hP hS _ _ => ?_)
  refine lv_if_ne (tgt := 14) hx hb dX4_put_9 (by decide) (fun c_9 => ?_) (fun c_9 => ?_)
  · replace h := ite_f c_9 h
    refine lv_aload_n hx hb dX4_put_14 rfl (lv_at hl 0 rfl) ?_
    refine gt_X4_13 S hK hP dX4_put_15 ?_
    refine lv_iload_n hx hb dX4_put_18 rfl (lv_at hl 1 rfl) ?_
    obtain ⟨hi_19, h⟩ := oin_of h
    refine k_aald S hK hP xA hi_19 rfl dX4_put_19 ?_
    refine lv_astore (lv' := [(4, .ref (ad (2 + 2 * x1.toNatClampNeg))), (0, .ref (ad 0)), (1, .int x1), (2, .int x2), (3, .int x3)]) hx hb dX4_put_20 hl (by decide) rfl (fun ls hl => ?_)
    refine lv_aload hx hb dX4_put_22 (lv_at hl 0 rfl) ?_
    refine gt_X4_231 S hK hP (isSh_of hi_19) dX4_put_24 ?_
    refine lv_if_ne (tgt := 36) hx hb dX4_put_27 (by decide) (fun c_27 => ?_) (fun c_27 => ?_)
    · replace h := ite_f c_27 h
      refine lv_aload hx hb dX4_put_36 (lv_at hl 0 rfl) ?_
      refine lv_iload_n hx hb dX4_put_38 rfl (lv_at hl 3 rfl) ?_
      obtain ⟨r_39, e_39, h⟩ := ob1_of h
      refine k_goI (k_runV (As := [.int x2]) (rest := []) S hK hP (k_X3_hasCell l hAd (isSh_of hi_19) e_39) cy_X3_hasCell wd_574 rfl (xS (isSh_of hi_19)) rfl hl.1 rfl (Nat.le_of_ble_eq_true rfl) dX4_put_39 ⟨Nat.le_of_ble_eq_true rfl, Nat.le_of_ble_eq_true rfl⟩ ⟨Nat.zero_le _, Nat.zero_le _⟩) hS (fun _ h => h) (fun H locs hP hS _ _ => ?_)
      refine lv_if_ne (tgt := 51) hx hb dX4_put_42 (by decide) (fun c_42 => ?_) (fun c_42 => ?_)
      · replace h := ite_f c_42 h
        refine lv_aload hx hb dX4_put_51 (lv_at hl 0 rfl) ?_
        refine lv_iload_n hx hb dX4_put_53 rfl (lv_at hl 3 rfl) ?_
        refine lv_iload_n hx hb dX4_put_54 rfl (lv_at hl 4 rfl) ?_
        obtain ⟨r_55, s_55, e_55, h⟩ := ob2_of h
        refine k_goV (k_runV (As := [.int x2, .int x3]) (rest := []) S hK hP (k_X3_store l hAd (isSh_of hi_19) e_55) cy_X3_store wd_575 rfl (xS (isSh_of hi_19)) rfl hl.1 rfl (Nat.le_of_ble_eq_true rfl) dX4_put_55 ⟨Nat.le_of_ble_eq_true rfl, Nat.le_of_ble_eq_true rfl⟩ ⟨Nat.zero_le _, Nat.zero_le _⟩) hS (fun _ h => h) (fun H locs hP hS _ _ => ?_)
        refine lv_iconst (v := (1 : Int32)) hx hb dX4_put_58 (by decide) ?_
        obtain ⟨rfl, rfl⟩ := some_pair h
        exact k_iret S hr hlocks hP hS rfl dX4_put_59
      · replace h := ite_t c_42 h
        refine lv_aload_n hx hb dX4_put_45 rfl (lv_at hl 1 rfl) ?_
        refine lv_iconst (v := (3 : Int32)) hx hb dX4_put_46 (by decide) ?_
        obtain ⟨r_47, s_47, e_47, h⟩ := ob2_of h
        refine k_goI (k_runV (As := [.int (3 : Int32)]) (rest := []) S hK hP (k_X4_failed l hAd e_47) cy_X4_failed wd_236 rfl xO rfl hl.1 rfl (Nat.le_of_ble_eq_true rfl) dX4_put_47 ⟨Nat.le_of_ble_eq_true rfl, Nat.le_of_ble_eq_true rfl⟩ ⟨Nat.zero_le _, Nat.zero_le _⟩) hS (fun _ h => h) (fun H locs hP hS _ _ => ?_)
        obtain ⟨rfl, rfl⟩ := some_pair h
        exact k_iret S hr hlocks hP hS rfl dX4_put_50
    · replace h := ite_t c_27 h
      refine lv_aload_n hx hb dX4_put_30 rfl (lv_at hl 1 rfl) ?_
      refine lv_iconst (v := (1 : Int32)) hx hb dX4_put_31 (by decide) ?_
      obtain ⟨r_32, s_32, e_32, h⟩ := ob2_of h
      refine k_goI (k_runV (As := [.int (1 : Int32)]) (rest := []) S hK hP (k_X4_failed l hAd e_32) cy_X4_failed wd_236 rfl xO rfl hl.1 rfl (Nat.le_of_ble_eq_true rfl) dX4_put_32 ⟨Nat.le_of_ble_eq_true rfl, Nat.le_of_ble_eq_true rfl⟩ ⟨Nat.zero_le _, Nat.zero_le _⟩) hS (fun _ h => h) (fun H locs hP hS _ _ => ?_)
      obtain ⟨rfl, rfl⟩ := some_pair h
      exact k_iret S hr hlocks hP hS rfl dX4_put_35
  · replace h := ite_t c_9 h
    refine lv_iconst (v := (-1 : Int32)) hx hb dX4_put_12 (by decide) ?_
    obtain ⟨rfl, rfl⟩ := some_pair h
    exact k_iret S hr hlocks hP hS rfl dX4_put_13
def f_X4_cell (σ : SX) (x1 : Int32) (x2 : Int32) (x3 : Int32) : Option (Int64 × SX) := ob1 (f_X4_isSheet x1) (fun r_6 => if r_6 = 0 then (some ((-9223372036854775808 : Int64), sF σ 0 6 (0 : Int32))) else (ob1 (f_X4_isLane x3) (fun r_13 => if r_13 = 0 then (some ((-9223372036854775808 : Int64), sF σ 0 6 (0 : Int32))) else (oin x1 4 (ob1 (f_X3_faultAs (sF σ 0 6 (0 : Int32)) (2 + 2 * x1.toNatClampNeg) x3) (fun r_34 => if r_34 = 0 then (ob1 (f_X3_hasCell (sF σ 0 6 (0 : Int32)) (2 + 2 * x1.toNatClampNeg) x2) (fun r_47 => if r_47 = 0 then (some ((-9223372036854775808 : Int64), sF (sF σ 0 6 (0 : Int32)) 0 6 (3 : Int32))) else (if r_34 = 0 then (ob1 (f_X3_at (sF σ 0 6 (0 : Int32)) (2 + 2 * x1.toNatClampNeg) x2) (fun r_74 => some (r_74.toInt64, sF σ 0 6 (0 : Int32)))) else (some ((-9223372036854775808 : Int64), sF (sF σ 0 6 (0 : Int32)) 0 6 r_34))))) else (if r_34 = 0 then (ob1 (f_X3_at (sF σ 0 6 (0 : Int32)) (2 + 2 * x1.toNatClampNeg) x2) (fun r_74 => some (r_74.toInt64, sF σ 0 6 (0 : Int32)))) else (some ((-9223372036854775808 : Int64), sF (sF σ 0 6 (0 : Int32)) 0 6 r_34)))))))))
set_option maxRecDepth 100000 in
set_option maxHeartbeats 4000000 in
theorem k_X4_cell (l : Launch) {D : va_G} {A : Nat → Prop} {cI cZ cS : ClassId} {ad : Nat → Nat} {ro : Option Nat} (hAd : ∀ ro σ, va_D A (WX cI cZ cS ad ro σ)) {σ : SX} {x1 : Int32} {x2 : Int32} {x3 : Int32} {σ' : SX} {r : Int64} (h : f_X4_cell σ x1 x2 x3 = some (r, σ')) : Ct (QL D A r (WX cI cZ cS ad ro (σ'))) l yX4_cell cX4_cell 6 (some .long) 2 42 D (tyS cI cZ cS) A [.ref (ad 0), .int x1, .int x2, .int x3] (WX cI cZ cS ad ro σ) := by
  refine Ct.of (by decide +kernel) (Nat.le_of_ble_eq_true rfl) ?_
  intro p e s m below meth c ls S hK hr hlocks hP hS hl
  have hx := S.1
  have hb := S.2.1
  have hl : lv_has ls 6 [(0, .ref (ad 0)), (1, .int x1), (2, .int x2), (3, .int x3)] := hl
  rw [f_X4_cell] at h
  refine lv_aload_n hx hb dX4_cell_0 rfl (lv_at hl 0 rfl) ?_
  refine lv_iconst (v := (0 : Int32)) hx hb dX4_cell_1 (by decide) ?_
  refine pt_X4_42 S hK hP (hAd _ _) hS dX4_cell_2 (fun H locs hP hS => ?_)
  refine lv_iload_n hx hb dX4_cell_5 rfl (lv_at hl 1 rfl) ?_
  obtain ⟨r_6, e_6, h⟩ := ob1_of h
  refine k_goI (k_runS (As := [.int x1]) (rest := []) S hK hP (k_X4_isSheet l  e_6) cy_X4_isSheet wd_222 rfl hl.1 rfl (Nat.le_of_ble_eq_true rfl) dX4_cell_6 ⟨Nat.le_of_ble_eq_true rfl, Nat.le_of_ble_eq_true rfl⟩ ⟨Nat.zero_le _, Nat.zero_le _⟩) hS (fun _ h => h) (fun H locs hP hS _ _ => ?_)
  refine lv_if_eq (tgt := 19) hx hb dX4_cell_9 (by decide) (fun c_9 => ?_) (fun c_9 => ?_)
  · replace h := ite_t c_9 h
    refine lv_ldc2 hx hb S.2.2.2.1 (S.2.2.2.2 _ wd_551) dX4_cell_19 ?_
    obtain ⟨rfl, rfl⟩ := some_pair h
    exact k_lret S hr hlocks hP hS rfl dX4_cell_22
  · replace h := ite_f c_9 h
    refine lv_iload_n hx hb dX4_cell_12 rfl (lv_at hl 3 rfl) ?_
    obtain ⟨r_13, e_13, h⟩ := ob1_of h
    refine k_goI (k_runS (As := [.int x3]) (rest := []) S hK hP (k_X4_isLane l  e_13) cy_X4_isLane wd_225 rfl hl.1 rfl (Nat.le_of_ble_eq_true rfl) dX4_cell_13 ⟨Nat.le_of_ble_eq_true rfl, Nat.le_of_ble_eq_true rfl⟩ ⟨Nat.zero_le _, Nat.zero_le _⟩) hS (fun _ h => h) (fun H locs hP hS _ _ => ?_)
    refine lv_if_ne (tgt := 23) hx hb dX4_cell_16 (by decide) (fun c_16 => ?_) (fun c_16 => ?_)
    · replace h := ite_f c_16 h
      refine lv_aload_n hx hb dX4_cell_23 rfl (lv_at hl 0 rfl) ?_
      refine gt_X4_13 S hK hP dX4_cell_24 ?_
      refine lv_iload_n hx hb dX4_cell_27 rfl (lv_at hl 1 rfl) ?_
      obtain ⟨hi_28, h⟩ := oin_of h
      refine k_aald S hK hP xA hi_28 rfl dX4_cell_28 ?_
      refine lv_astore (lv' := [(4, .ref (ad (2 + 2 * x1.toNatClampNeg))), (0, .ref (ad 0)), (1, .int x1), (2, .int x2), (3, .int x3)]) hx hb dX4_cell_29 hl (by decide) rfl (fun ls hl => ?_)
      refine lv_aload hx hb dX4_cell_31 (lv_at hl 0 rfl) ?_
      refine lv_iload_n hx hb dX4_cell_33 rfl (lv_at hl 4 rfl) ?_
      obtain ⟨r_34, e_34, h⟩ := ob1_of h
      refine k_goI (k_runV (As := [.int x3]) (rest := []) S hK hP (k_X3_faultAs l hAd (isSh_of hi_28) e_34) cy_X3_faultAs wd_228 rfl (xS (isSh_of hi_28)) rfl hl.1 rfl (Nat.le_of_ble_eq_true rfl) dX4_cell_34 ⟨Nat.le_of_ble_eq_true rfl, Nat.le_of_ble_eq_true rfl⟩ ⟨Nat.zero_le _, Nat.zero_le _⟩) hS (fun _ h => h) (fun H locs hP hS _ _ => ?_)
      refine lv_istore (lv' := [(5, .int r_34), (4, .ref (ad (2 + 2 * x1.toNatClampNeg))), (0, .ref (ad 0)), (1, .int x1), (2, .int x2), (3, .int x3)]) hx hb dX4_cell_37 hl (by decide) rfl (fun ls hl => ?_)
      refine lv_iload hx hb dX4_cell_39 (lv_at hl 0 rfl) ?_
      refine lv_if_ne (tgt := 56) hx hb dX4_cell_41 (by decide) (fun c_41 => ?_) (fun c_41 => ?_)
      · replace h := ite_f c_41 h
        refine lv_iload hx hb dX4_cell_56 (lv_at hl 0 rfl) ?_
        refine lv_if_eq (tgt := 71) hx hb dX4_cell_58 (by decide) (fun c_58 => ?_) (fun c_58 => ?_)
        · replace h := ite_t c_58 h
          refine lv_aload hx hb dX4_cell_71 (lv_at hl 1 rfl) ?_
          refine lv_iload_n hx hb dX4_cell_73 rfl (lv_at hl 4 rfl) ?_
          obtain ⟨r_74, e_74, h⟩ := ob1_of h
          refine k_goI (k_runV (As := [.int x2]) (rest := []) S hK hP (k_X3_at l hAd (isSh_of hi_28) e_74) cy_X3_at wd_424 rfl (xS (isSh_of hi_28)) rfl hl.1 rfl (Nat.le_of_ble_eq_true rfl) dX4_cell_74 ⟨Nat.le_of_ble_eq_true rfl, Nat.le_of_ble_eq_true rfl⟩ ⟨Nat.zero_le _, Nat.zero_le _⟩) hS (fun _ h => h) (fun H locs hP hS _ _ => ?_)
          refine lv_i2l (v := r_74.toInt64) hx hb dX4_cell_77 rfl ?_
          obtain ⟨rfl, rfl⟩ := some_pair h
          exact k_lret S hr hlocks hP hS rfl dX4_cell_78
        · replace h := ite_f c_58 h
          refine lv_aload_n hx hb dX4_cell_61 rfl (lv_at hl 2 rfl) ?_
          refine lv_iload hx hb dX4_cell_62 (lv_at hl 0 rfl) ?_
          refine pt_X4_42 S hK hP (hAd _ _) hS dX4_cell_64 (fun H locs hP hS => ?_)
          refine lv_ldc2 hx hb S.2.2.2.1 (S.2.2.2.2 _ wd_551) dX4_cell_67 ?_
          obtain ⟨rfl, rfl⟩ := some_pair h
          exact k_lret S hr hlocks hP hS rfl dX4_cell_70
      · replace h := ite_t c_41 h
        refine lv_aload hx hb dX4_cell_44 (lv_at hl 1 rfl) ?_
        refine lv_iload_n hx hb dX4_cell_46 rfl (lv_at hl 4 rfl) ?_
        obtain ⟨r_47, e_47, h⟩ := ob1_of h
        refine k_goI (k_runV (As := [.int x2]) (rest := []) S hK hP (k_X3_hasCell l hAd (isSh_of hi_28) e_47) cy_X3_hasCell wd_574 rfl (xS (isSh_of hi_28)) rfl hl.1 rfl (Nat.le_of_ble_eq_true rfl) dX4_cell_47 ⟨Nat.le_of_ble_eq_true rfl, Nat.le_of_ble_eq_true rfl⟩ ⟨Nat.zero_le _, Nat.zero_le _⟩) hS (fun _ h => h) (fun H locs hP hS _ _ => ?_)
        refine lv_if_ne (tgt := 56) hx hb dX4_cell_50 (by decide) (fun c_50 => ?_) (fun c_50 => ?_)
        · replace h := ite_f c_50 h
          refine lv_iload hx hb dX4_cell_56 (lv_at hl 0 rfl) ?_
          refine lv_if_eq (tgt := 71) hx hb dX4_cell_58 (by decide) (fun c_58 => ?_) (fun c_58 => ?_)
          · replace h := ite_t c_58 h
            refine lv_aload hx hb dX4_cell_71 (lv_at hl 1 rfl) ?_
            refine lv_iload_n hx hb dX4_cell_73 rfl (lv_at hl 4 rfl) ?_
            obtain ⟨r_74, e_74, h⟩ := ob1_of h
            refine k_goI (k_runV (As := [.int x2]) (rest := []) S hK hP (k_X3_at l hAd (isSh_of hi_28) e_74) cy_X3_at wd_424 rfl (xS (isSh_of hi_28)) rfl hl.1 rfl (Nat.le_of_ble_eq_true rfl) dX4_cell_74 ⟨Nat.le_of_ble_eq_true rfl, Nat.le_of_ble_eq_true rfl⟩ ⟨Nat.zero_le _, Nat.zero_le _⟩) hS (fun _ h => h) (fun H locs hP hS _ _ => ?_)
            refine lv_i2l (v := r_74.toInt64) hx hb dX4_cell_77 rfl ?_
            obtain ⟨rfl, rfl⟩ := some_pair h
            exact k_lret S hr hlocks hP hS rfl dX4_cell_78
          · replace h := ite_f c_58 h
            refine lv_aload_n hx hb dX4_cell_61 rfl (lv_at hl 2 rfl) ?_
            refine lv_iload hx hb dX4_cell_62 (lv_at hl 0 rfl) ?_
            refine pt_X4_42 S hK hP (hAd _ _) hS dX4_cell_64 (fun H locs hP hS => ?_)
            refine lv_ldc2 hx hb S.2.2.2.1 (S.2.2.2.2 _ wd_551) dX4_cell_67 ?_
            obtain ⟨rfl, rfl⟩ := some_pair h
            exact k_lret S hr hlocks hP hS rfl dX4_cell_70
        · replace h := ite_t c_50 h
          refine lv_iconst (v := (3 : Int32)) hx hb dX4_cell_53 (by decide) ?_
          refine lv_istore (lv' := [(5, .int (3 : Int32)), (4, .ref (ad (2 + 2 * x1.toNatClampNeg))), (0, .ref (ad 0)), (1, .int x1), (2, .int x2), (3, .int x3)]) hx hb dX4_cell_54 hl (by decide) rfl (fun ls hl => ?_)
          refine lv_iload hx hb dX4_cell_56 (lv_at hl 0 rfl) ?_
          refine lv_if_eq (tgt := 71) hx hb dX4_cell_58 (by decide) (fun c => absurd c (by decide)) (fun _ => ?_)
          refine lv_aload_n hx hb dX4_cell_61 rfl (lv_at hl 2 rfl) ?_
          refine lv_iload hx hb dX4_cell_62 (lv_at hl 0 rfl) ?_
          refine pt_X4_42 S hK hP (hAd _ _) hS dX4_cell_64 (fun H locs hP hS => ?_)
          refine lv_ldc2 hx hb S.2.2.2.1 (S.2.2.2.2 _ wd_551) dX4_cell_67 ?_
          obtain ⟨rfl, rfl⟩ := some_pair h
          exact k_lret S hr hlocks hP hS rfl dX4_cell_70
    · replace h := ite_t c_16 h
      refine lv_ldc2 hx hb S.2.2.2.1 (S.2.2.2.2 _ wd_551) dX4_cell_19 ?_
      obtain ⟨rfl, rfl⟩ := some_pair h
      exact k_lret S hr hlocks hP hS rfl dX4_cell_22
def f_X4_copy (σ : SX) (x1 : Int32) (x2 : Int32) (x3 : Int32) (x4 : Int32) (x5 : Int32) : Option (Int32 × SX) := ob1 (f_X4_isSheet x1) (fun r_6 => if r_6 = 0 then (some ((-1 : Int32), sF σ 0 6 (0 : Int32))) else (ob1 (f_X4_isSheet x3) (fun r_13 => if r_13 = 0 then (some ((-1 : Int32), sF σ 0 6 (0 : Int32))) else (oin x1 4 (oin x3 4 (if (gF (sF σ 0 6 (0 : Int32)) (2 + 2 * x1.toNatClampNeg) 0) = 0 then (ob2 (f_X4_failed (sF σ 0 6 (0 : Int32)) (1 : Int32)) (fun r_55 s_55 => some (r_55, s_55))) else (if (gF (sF σ 0 6 (0 : Int32)) (2 + 2 * x3.toNatClampNeg) 0) = 0 then (ob2 (f_X4_failed (sF σ 0 6 (0 : Int32)) (1 : Int32)) (fun r_55 s_55 => some (r_55, s_55))) else (if (gF (sF σ 0 6 (0 : Int32)) (2 + 2 * x1.toNatClampNeg) 1) = (gF (sF σ 0 6 (0 : Int32)) (2 + 2 * x3.toNatClampNeg) 1) then (ob1 (f_X3_hasCells (sF σ 0 6 (0 : Int32)) (2 + 2 * x1.toNatClampNeg) x2 x5) (fun r_83 => if r_83 = 0 then (ob2 (f_X4_failed (sF σ 0 6 (0 : Int32)) (3 : Int32)) (fun r_103 s_103 => some (r_103, s_103))) else (ob1 (f_X3_hasCells (sF σ 0 6 (0 : Int32)) (2 + 2 * x3.toNatClampNeg) x4 x5) (fun r_95 => if r_95 = 0 then (ob2 (f_X4_failed (sF σ 0 6 (0 : Int32)) (3 : Int32)) (fun r_103 s_103 => some (r_103, s_103))) else (oif (okCpy x2 x4 x5 60 60) (some (x5, sR (sF σ 0 6 (0 : Int32)) (2 + 2 * x3.toNatClampNeg + 1) (va_cpy (gR (sF σ 0 6 (0 : Int32)) (2 + 2 * x1.toNatClampNeg + 1)) (gR (sF σ 0 6 (0 : Int32)) (2 + 2 * x3.toNatClampNeg + 1)) x2.toNatClampNeg x4.toNatClampNeg x5.toNatClampNeg)))))))) else (ob2 (f_X4_failed (sF σ 0 6 (0 : Int32)) (2 : Int32)) (fun r_74 s_74 => some (r_74, s_74)))))))))))
set_option maxRecDepth 100000 in
set_option maxHeartbeats 4000000 in
theorem k_X4_copy (l : Launch) {D : va_G} {A : Nat → Prop} {cI cZ cS : ClassId} {ad : Nat → Nat} {ro : Option Nat} (hAd : ∀ ro σ, va_D A (WX cI cZ cS ad ro σ)) {σ : SX} {x1 : Int32} {x2 : Int32} {x3 : Int32} {x4 : Int32} {x5 : Int32} {σ' : SX} {r : Int32} (h : f_X4_copy σ x1 x2 x3 x4 x5 = some (r, σ')) : Ct (QI D A r (WX cI cZ cS ad ro (σ'))) l yX4_copy cX4_copy 8 (some .int) 1 40 D (tyS cI cZ cS) A [.ref (ad 0), .int x1, .int x2, .int x3, .int x4, .int x5] (WX cI cZ cS ad ro σ) := by
  refine Ct.of (by decide +kernel) (Nat.le_of_ble_eq_true rfl) ?_
  intro p e s m below meth c ls S hK hr hlocks hP hS hl
  have hx := S.1
  have hb := S.2.1
  have hl : lv_has ls 8 [(0, .ref (ad 0)), (1, .int x1), (2, .int x2), (3, .int x3), (4, .int x4), (5, .int x5)] := hl
  rw [f_X4_copy] at h
  refine lv_aload_n hx hb dX4_copy_0 rfl (lv_at hl 0 rfl) ?_
  refine lv_iconst (v := (0 : Int32)) hx hb dX4_copy_1 (by decide) ?_
  refine pt_X4_42 S hK hP (hAd _ _) hS dX4_copy_2 (fun H locs hP hS => ?_)
  refine lv_iload_n hx hb dX4_copy_5 rfl (lv_at hl 1 rfl) ?_
  obtain ⟨r_6, e_6, h⟩ := ob1_of h
  refine k_goI (k_runS (As := [.int x1]) (rest := []) S hK hP (k_X4_isSheet l  e_6) cy_X4_isSheet wd_222 rfl hl.1 rfl (Nat.le_of_ble_eq_true rfl) dX4_copy_6 ⟨Nat.le_of_ble_eq_true rfl, Nat.le_of_ble_eq_true rfl⟩ ⟨Nat.zero_le _, Nat.zero_le _⟩) hS (fun _ h => h) (fun H locs hP hS _ _ => ?_)
  refine lv_if_eq (tgt := 19) hx hb dX4_copy_9 (by decide) (fun c_9 => ?_) (fun c_9 => ?_)
  · replace h := ite_t c_9 h
    refine lv_iconst (v := (-1 : Int32)) hx hb dX4_copy_19 (by decide) ?_
    obtain ⟨rfl, rfl⟩ := some_pair h
    exact k_iret S hr hlocks hP hS rfl dX4_copy_20
  · replace h := ite_f c_9 h
    refine lv_iload_n hx hb dX4_copy_12 rfl (lv_at hl 3 rfl) ?_
    obtain ⟨r_13, e_13, h⟩ := ob1_of h
    refine k_goI (k_runS (As := [.int x3]) (rest := []) S hK hP (k_X4_isSheet l  e_13) cy_X4_isSheet wd_222 rfl hl.1 rfl (Nat.le_of_ble_eq_true rfl) dX4_copy_13 ⟨Nat.le_of_ble_eq_true rfl, Nat.le_of_ble_eq_true rfl⟩ ⟨Nat.zero_le _, Nat.zero_le _⟩) hS (fun _ h => h) (fun H locs hP hS _ _ => ?_)
    refine lv_if_ne (tgt := 21) hx hb dX4_copy_16 (by decide) (fun c_16 => ?_) (fun c_16 => ?_)
    · replace h := ite_f c_16 h
      refine lv_aload_n hx hb dX4_copy_21 rfl (lv_at hl 0 rfl) ?_
      refine gt_X4_13 S hK hP dX4_copy_22 ?_
      refine lv_iload_n hx hb dX4_copy_25 rfl (lv_at hl 1 rfl) ?_
      obtain ⟨hi_26, h⟩ := oin_of h
      refine k_aald S hK hP xA hi_26 rfl dX4_copy_26 ?_
      refine lv_astore (lv' := [(6, .ref (ad (2 + 2 * x1.toNatClampNeg))), (0, .ref (ad 0)), (1, .int x1), (2, .int x2), (3, .int x3), (4, .int x4), (5, .int x5)]) hx hb dX4_copy_27 hl (by decide) rfl (fun ls hl => ?_)
      refine lv_aload_n hx hb dX4_copy_29 rfl (lv_at hl 1 rfl) ?_
      refine gt_X4_13 S hK hP dX4_copy_30 ?_
      refine lv_iload_n hx hb dX4_copy_33 rfl (lv_at hl 4 rfl) ?_
      obtain ⟨hi_34, h⟩ := oin_of h
      refine k_aald S hK hP xA hi_34 rfl dX4_copy_34 ?_
      refine lv_astore (lv' := [(7, .ref (ad (2 + 2 * x3.toNatClampNeg))), (6, .ref (ad (2 + 2 * x1.toNatClampNeg))), (0, .ref (ad 0)), (1, .int x1), (2, .int x2), (3, .int x3), (4, .int x4), (5, .int x5)]) hx hb dX4_copy_35 hl (by decide) rfl (fun ls hl => ?_)
      refine lv_aload hx hb dX4_copy_37 (lv_at hl 1 rfl) ?_
      refine gt_X4_231 S hK hP (isSh_of hi_26) dX4_copy_39 ?_
      refine lv_if_eq (tgt := 53) hx hb dX4_copy_42 (by decide) (fun c_42 => ?_) (fun c_42 => ?_)
      · replace h := ite_t c_42 h
        refine lv_aload_n hx hb dX4_copy_53 rfl (lv_at hl 2 rfl) ?_
        refine lv_iconst (v := (1 : Int32)) hx hb dX4_copy_54 (by decide) ?_
        obtain ⟨r_55, s_55, e_55, h⟩ := ob2_of h
        refine k_goI (k_runV (As := [.int (1 : Int32)]) (rest := []) S hK hP (k_X4_failed l hAd e_55) cy_X4_failed wd_236 rfl xO rfl hl.1 rfl (Nat.le_of_ble_eq_true rfl) dX4_copy_55 ⟨Nat.le_of_ble_eq_true rfl, Nat.le_of_ble_eq_true rfl⟩ ⟨Nat.zero_le _, Nat.zero_le _⟩) hS (fun _ h => h) (fun H locs hP hS _ _ => ?_)
        obtain ⟨rfl, rfl⟩ := some_pair h
        exact k_iret S hr hlocks hP hS rfl dX4_copy_58
      · replace h := ite_f c_42 h
        refine lv_aload hx hb dX4_copy_45 (lv_at hl 0 rfl) ?_
        refine gt_X4_231 S hK hP (isSh_of hi_34) dX4_copy_47 ?_
        refine lv_if_ne (tgt := 59) hx hb dX4_copy_50 (by decide) (fun c_50 => ?_) (fun c_50 => ?_)
        · replace h := ite_f c_50 h
          refine lv_aload hx hb dX4_copy_59 (lv_at hl 1 rfl) ?_
          refine gt_X4_241 S hK hP (isSh_of hi_26) dX4_copy_61 ?_
          refine lv_aload hx hb dX4_copy_64 (lv_at hl 0 rfl) ?_
          refine gt_X4_241 S hK hP (isSh_of hi_34) dX4_copy_66 ?_
          refine lv_icmp_eq (tgt := 78) hx hb dX4_copy_69 (by decide) (fun c_69 => ?_) (fun c_69 => ?_)
          · replace h := ite_t c_69 h
            refine lv_aload hx hb dX4_copy_78 (lv_at hl 1 rfl) ?_
            refine lv_iload_n hx hb dX4_copy_80 rfl (lv_at hl 4 rfl) ?_
            refine lv_iload hx hb dX4_copy_81 (lv_at hl 7 rfl) ?_
            obtain ⟨r_83, e_83, h⟩ := ob1_of h
            refine k_goI (k_runV (As := [.int x2, .int x5]) (rest := []) S hK hP (k_X3_hasCells l hAd (isSh_of hi_26) e_83) cy_X3_hasCells wd_232 rfl (xS (isSh_of hi_26)) rfl hl.1 rfl (Nat.le_of_ble_eq_true rfl) dX4_copy_83 ⟨Nat.le_of_ble_eq_true rfl, Nat.le_of_ble_eq_true rfl⟩ ⟨Nat.zero_le _, Nat.zero_le _⟩) hS (fun _ h => h) (fun H locs hP hS _ _ => ?_)
            refine lv_if_eq (tgt := 101) hx hb dX4_copy_86 (by decide) (fun c_86 => ?_) (fun c_86 => ?_)
            · replace h := ite_t c_86 h
              refine lv_aload_n hx hb dX4_copy_101 rfl (lv_at hl 2 rfl) ?_
              refine lv_iconst (v := (3 : Int32)) hx hb dX4_copy_102 (by decide) ?_
              obtain ⟨r_103, s_103, e_103, h⟩ := ob2_of h
              refine k_goI (k_runV (As := [.int (3 : Int32)]) (rest := []) S hK hP (k_X4_failed l hAd e_103) cy_X4_failed wd_236 rfl xO rfl hl.1 rfl (Nat.le_of_ble_eq_true rfl) dX4_copy_103 ⟨Nat.le_of_ble_eq_true rfl, Nat.le_of_ble_eq_true rfl⟩ ⟨Nat.zero_le _, Nat.zero_le _⟩) hS (fun _ h => h) (fun H locs hP hS _ _ => ?_)
              obtain ⟨rfl, rfl⟩ := some_pair h
              exact k_iret S hr hlocks hP hS rfl dX4_copy_106
            · replace h := ite_f c_86 h
              refine lv_aload hx hb dX4_copy_89 (lv_at hl 0 rfl) ?_
              refine lv_iload hx hb dX4_copy_91 (lv_at hl 6 rfl) ?_
              refine lv_iload hx hb dX4_copy_93 (lv_at hl 7 rfl) ?_
              obtain ⟨r_95, e_95, h⟩ := ob1_of h
              refine k_goI (k_runV (As := [.int x4, .int x5]) (rest := []) S hK hP (k_X3_hasCells l hAd (isSh_of hi_34) e_95) cy_X3_hasCells wd_232 rfl (xS (isSh_of hi_34)) rfl hl.1 rfl (Nat.le_of_ble_eq_true rfl) dX4_copy_95 ⟨Nat.le_of_ble_eq_true rfl, Nat.le_of_ble_eq_true rfl⟩ ⟨Nat.zero_le _, Nat.zero_le _⟩) hS (fun _ h => h) (fun H locs hP hS _ _ => ?_)
              refine lv_if_ne (tgt := 107) hx hb dX4_copy_98 (by decide) (fun c_98 => ?_) (fun c_98 => ?_)
              · replace h := ite_f c_98 h
                refine lv_aload hx hb dX4_copy_107 (lv_at hl 1 rfl) ?_
                refine gt_X4_244 S hK hP (isSh_of hi_26) dX4_copy_109 ?_
                refine lv_iload_n hx hb dX4_copy_112 rfl (lv_at hl 4 rfl) ?_
                refine lv_aload hx hb dX4_copy_113 (lv_at hl 0 rfl) ?_
                refine gt_X4_244 S hK hP (isSh_of hi_34) dX4_copy_115 ?_
                refine lv_iload hx hb dX4_copy_118 (lv_at hl 6 rfl) ?_
                refine lv_iload hx hb dX4_copy_120 (lv_at hl 7 rfl) ?_
                obtain ⟨hc_122, h⟩ := oif_of h
                refine k_copy S hl.1 hK hP (hAd _ _) hS wd_591 (xSc (isSh_of hi_26)) (xSc (isSh_of hi_34)) (xSc_s (isSh_of hi_34)) hc_122 (Nat.le_of_ble_eq_true rfl) (Nat.le_of_ble_eq_true rfl) dX4_copy_122 (fun H locs hP hS => ?_)
                refine lv_iload hx hb dX4_copy_125 (lv_at hl 7 rfl) ?_
                obtain ⟨rfl, rfl⟩ := some_pair h
                exact k_iret S hr hlocks hP hS rfl dX4_copy_127
              · replace h := ite_t c_98 h
                refine lv_aload_n hx hb dX4_copy_101 rfl (lv_at hl 2 rfl) ?_
                refine lv_iconst (v := (3 : Int32)) hx hb dX4_copy_102 (by decide) ?_
                obtain ⟨r_103, s_103, e_103, h⟩ := ob2_of h
                refine k_goI (k_runV (As := [.int (3 : Int32)]) (rest := []) S hK hP (k_X4_failed l hAd e_103) cy_X4_failed wd_236 rfl xO rfl hl.1 rfl (Nat.le_of_ble_eq_true rfl) dX4_copy_103 ⟨Nat.le_of_ble_eq_true rfl, Nat.le_of_ble_eq_true rfl⟩ ⟨Nat.zero_le _, Nat.zero_le _⟩) hS (fun _ h => h) (fun H locs hP hS _ _ => ?_)
                obtain ⟨rfl, rfl⟩ := some_pair h
                exact k_iret S hr hlocks hP hS rfl dX4_copy_106
          · replace h := ite_f c_69 h
            refine lv_aload_n hx hb dX4_copy_72 rfl (lv_at hl 2 rfl) ?_
            refine lv_iconst (v := (2 : Int32)) hx hb dX4_copy_73 (by decide) ?_
            obtain ⟨r_74, s_74, e_74, h⟩ := ob2_of h
            refine k_goI (k_runV (As := [.int (2 : Int32)]) (rest := []) S hK hP (k_X4_failed l hAd e_74) cy_X4_failed wd_236 rfl xO rfl hl.1 rfl (Nat.le_of_ble_eq_true rfl) dX4_copy_74 ⟨Nat.le_of_ble_eq_true rfl, Nat.le_of_ble_eq_true rfl⟩ ⟨Nat.zero_le _, Nat.zero_le _⟩) hS (fun _ h => h) (fun H locs hP hS _ _ => ?_)
            obtain ⟨rfl, rfl⟩ := some_pair h
            exact k_iret S hr hlocks hP hS rfl dX4_copy_77
        · replace h := ite_t c_50 h
          refine lv_aload_n hx hb dX4_copy_53 rfl (lv_at hl 2 rfl) ?_
          refine lv_iconst (v := (1 : Int32)) hx hb dX4_copy_54 (by decide) ?_
          obtain ⟨r_55, s_55, e_55, h⟩ := ob2_of h
          refine k_goI (k_runV (As := [.int (1 : Int32)]) (rest := []) S hK hP (k_X4_failed l hAd e_55) cy_X4_failed wd_236 rfl xO rfl hl.1 rfl (Nat.le_of_ble_eq_true rfl) dX4_copy_55 ⟨Nat.le_of_ble_eq_true rfl, Nat.le_of_ble_eq_true rfl⟩ ⟨Nat.zero_le _, Nat.zero_le _⟩) hS (fun _ h => h) (fun H locs hP hS _ _ => ?_)
          obtain ⟨rfl, rfl⟩ := some_pair h
          exact k_iret S hr hlocks hP hS rfl dX4_copy_58
    · replace h := ite_t c_16 h
      refine lv_iconst (v := (-1 : Int32)) hx hb dX4_copy_19 (by decide) ?_
      obtain ⟨rfl, rfl⟩ := some_pair h
      exact k_iret S hr hlocks hP hS rfl dX4_copy_20
def f_X4_leaveInTrace (σ : SX) (x1 : Int32) : Option (Unit × SX) := some ((), sF σ 0 5 (((31 : Int32) * (gF σ 0 5)) + x1))
set_option maxRecDepth 100000 in
set_option maxHeartbeats 4000000 in
theorem k_X4_leaveInTrace (l : Launch) {D : va_G} {A : Nat → Prop} {cI cZ cS : ClassId} {ad : Nat → Nat} {ro : Option Nat} (hAd : ∀ ro σ, va_D A (WX cI cZ cS ad ro σ)) {σ : SX} {x1 : Int32} {σ' : SX} {r : Unit} (h : f_X4_leaveInTrace σ x1 = some (r, σ')) : Ct (QV D A (WX cI cZ cS ad ro (σ'))) l yX4_leaveInTrace cX4_leaveInTrace 2 none 0 0 D (tyS cI cZ cS) A [.ref (ad 0), .int x1] (WX cI cZ cS ad ro σ) := by
  refine Ct.of (by decide +kernel) (Nat.le_of_ble_eq_true rfl) ?_
  intro p e s m below meth c ls S hK hr hlocks hP hS hl
  have hx := S.1
  have hb := S.2.1
  have hl : lv_has ls 2 [(0, .ref (ad 0)), (1, .int x1)] := hl
  rw [f_X4_leaveInTrace] at h
  refine lv_aload_n hx hb dX4_leaveInTrace_0 rfl (lv_at hl 0 rfl) ?_
  refine lv_bipush (v := (31 : Int32)) hx hb dX4_leaveInTrace_1 (by decide) ?_
  refine lv_aload_n hx hb dX4_leaveInTrace_3 rfl (lv_at hl 0 rfl) ?_
  refine gt_X4_268 S hK hP dX4_leaveInTrace_4 ?_
  refine lv_imul hx hb dX4_leaveInTrace_7 ?_
  refine lv_iload_n hx hb dX4_leaveInTrace_8 rfl (lv_at hl 1 rfl) ?_
  refine lv_iadd hx hb dX4_leaveInTrace_9 ?_
  refine pt_X4_268 S hK hP (hAd _ _) hS dX4_leaveInTrace_10 (fun H locs hP hS => ?_)
  obtain ⟨rfl, rfl⟩ := some_pair h
  exact k_vret S hr hlocks hP hS dX4_leaveInTrace_13
def f_X4_plainBody (σ : SX) (x1 : Int32) : Option (Int32 × SX) := ob2 (f_X4_leaveInTrace σ (1 : Int32)) (fun r_2 s_2 => oin x1 4 (some (gR s_2 (10 + 3) x1.toNatClampNeg, s_2)))
set_option maxRecDepth 100000 in
set_option maxHeartbeats 4000000 in
theorem k_X4_plainBody (l : Launch) {D : va_G} {A : Nat → Prop} {cI cZ cS : ClassId} {ad : Nat → Nat} {ro : Option Nat} (hAd : ∀ ro σ, va_D A (WX cI cZ cS ad ro σ)) {σ : SX} {x1 : Int32} {σ' : SX} {r : Int32} (h : f_X4_plainBody σ x1 = some (r, σ')) : Ct (QI D A r (WX cI cZ cS ad ro (σ'))) l yX4_plainBody cX4_plainBody 2 (some .int) 1 21 D (tyS cI cZ cS) A [.ref (ad 0), .int x1] (WX cI cZ cS ad ro σ) := by
  refine Ct.of (by decide +kernel) (Nat.le_of_ble_eq_true rfl) ?_
  intro p e s m below meth c ls S hK hr hlocks hP hS hl
  have hx := S.1
  have hb := S.2.1
  have hl : lv_has ls 2 [(0, .ref (ad 0)), (1, .int x1)] := hl
  rw [f_X4_plainBody] at h
  refine lv_aload_n hx hb dX4_plainBody_0 rfl (lv_at hl 0 rfl) ?_
  refine lv_iconst (v := (1 : Int32)) hx hb dX4_plainBody_1 (by decide) ?_
  obtain ⟨r_2, s_2, e_2, h⟩ := ob2_of h
  refine k_goV (k_runV (As := [.int (1 : Int32)]) (rest := []) S hK hP (k_X4_leaveInTrace l hAd e_2) cy_X4_leaveInTrace wd_600 rfl xO rfl hl.1 rfl (Nat.le_of_ble_eq_true rfl) dX4_plainBody_2 ⟨Nat.le_of_ble_eq_true rfl, Nat.le_of_ble_eq_true rfl⟩ ⟨Nat.zero_le _, Nat.zero_le _⟩) hS (fun _ h => h) (fun H locs hP hS _ _ => ?_)
  refine lv_aload_n hx hb dX4_plainBody_5 rfl (lv_at hl 0 rfl) ?_
  refine gt_X4_21 S hK hP dX4_plainBody_6 ?_
  refine gt_X4_92 S hK hP isDy_now dX4_plainBody_9 ?_
  refine lv_iload_n hx hb dX4_plainBody_12 rfl (lv_at hl 1 rfl) ?_
  obtain ⟨hi_13, h⟩ := oin_of h
  refine k_iald S hK hP (xDr3 isDy_now) hi_13 dX4_plainBody_13 ?_
  obtain ⟨rfl, rfl⟩ := some_pair h
  exact k_iret S hr hlocks hP hS rfl dX4_plainBody_14
def f_X4_beardedBody (σ : SX) (x1 : Int32) : Option (Int32 × SX) := ob2 (f_X4_leaveInTrace σ (2 : Int32)) (fun r_2 s_2 => ob2 (f_X4_plainBody s_2 x1) (fun r_7 s_7 => some (r_7 + (100 : Int32), s_7)))
set_option maxRecDepth 100000 in
set_option maxHeartbeats 4000000 in
theorem k_X4_beardedBody (l : Launch) {D : va_G} {A : Nat → Prop} {cI cZ cS : ClassId} {ad : Nat → Nat} {ro : Option Nat} (hAd : ∀ ro σ, va_D A (WX cI cZ cS ad ro σ)) {σ : SX} {x1 : Int32} {σ' : SX} {r : Int32} (h : f_X4_beardedBody σ x1 = some (r, σ')) : Ct (QI D A r (WX cI cZ cS ad ro (σ'))) l yX4_beardedBody cX4_beardedBody 2 (some .int) 2 42 D (tyS cI cZ cS) A [.ref (ad 0), .int x1] (WX cI cZ cS ad ro σ) := by
  refine Ct.of (by decide +kernel) (Nat.le_of_ble_eq_true rfl) ?_
  intro p e s m below meth c ls S hK hr hlocks hP hS hl
  have hx := S.1
  have hb := S.2.1
  have hl : lv_has ls 2 [(0, .ref (ad 0)), (1, .int x1)] := hl
  rw [f_X4_beardedBody] at h
  refine lv_aload_n hx hb dX4_beardedBody_0 rfl (lv_at hl 0 rfl) ?_
  refine lv_iconst (v := (2 : Int32)) hx hb dX4_beardedBody_1 (by decide) ?_
  obtain ⟨r_2, s_2, e_2, h⟩ := ob2_of h
  refine k_goV (k_runV (As := [.int (2 : Int32)]) (rest := []) S hK hP (k_X4_leaveInTrace l hAd e_2) cy_X4_leaveInTrace wd_600 rfl xO rfl hl.1 rfl (Nat.le_of_ble_eq_true rfl) dX4_beardedBody_2 ⟨Nat.le_of_ble_eq_true rfl, Nat.le_of_ble_eq_true rfl⟩ ⟨Nat.zero_le _, Nat.zero_le _⟩) hS (fun _ h => h) (fun H locs hP hS _ _ => ?_)
  refine lv_aload_n hx hb dX4_beardedBody_5 rfl (lv_at hl 0 rfl) ?_
  refine lv_iload_n hx hb dX4_beardedBody_6 rfl (lv_at hl 1 rfl) ?_
  obtain ⟨r_7, s_7, e_7, h⟩ := ob2_of h
  refine k_goI (k_runV (As := [.int x1]) (rest := []) S hK hP (k_X4_plainBody l hAd e_7) cy_X4_plainBody wd_608 rfl xO rfl hl.1 rfl (Nat.le_of_ble_eq_true rfl) dX4_beardedBody_7 ⟨Nat.le_of_ble_eq_true rfl, Nat.le_of_ble_eq_true rfl⟩ ⟨Nat.zero_le _, Nat.zero_le _⟩) hS (fun _ h => h) (fun H locs hP hS _ _ => ?_)
  refine lv_bipush (v := (100 : Int32)) hx hb dX4_beardedBody_10 (by decide) ?_
  refine lv_iadd hx hb dX4_beardedBody_12 ?_
  obtain ⟨rfl, rfl⟩ := some_pair h
  exact k_iret S hr hlocks hP hS rfl dX4_beardedBody_13
def f_X4_doubleBody (σ : SX) (x1 : Int32) : Option (Int32 × SX) := ob2 (f_X4_leaveInTrace σ (3 : Int32)) (fun r_2 s_2 => ob2 (f_X4_beardedBody s_2 x1) (fun r_7 s_7 => ob2 (f_X4_plainBody s_7 x1) (fun r_14 s_14 => some (r_7 + r_14, s_14))))
set_option maxRecDepth 100000 in
set_option maxHeartbeats 4000000 in
theorem k_X4_doubleBody (l : Launch) {D : va_G} {A : Nat → Prop} {cI cZ cS : ClassId} {ad : Nat → Nat} {ro : Option Nat} (hAd : ∀ ro σ, va_D A (WX cI cZ cS ad ro σ)) {σ : SX} {x1 : Int32} {σ' : SX} {r : Int32} (h : f_X4_doubleBody σ x1 = some (r, σ')) : Ct (QI D A r (WX cI cZ cS ad ro (σ'))) l yX4_doubleBody cX4_doubleBody 3 (some .int) 3 63 D (tyS cI cZ cS) A [.ref (ad 0), .int x1] (WX cI cZ cS ad ro σ) := by
  refine Ct.of (by decide +kernel) (Nat.le_of_ble_eq_true rfl) ?_
  intro p e s m below meth c ls S hK hr hlocks hP hS hl
  have hx := S.1
  have hb := S.2.1
  have hl : lv_has ls 3 [(0, .ref (ad 0)), (1, .int x1)] := hl
  rw [f_X4_doubleBody] at h
  refine lv_aload_n hx hb dX4_doubleBody_0 rfl (lv_at hl 0 rfl) ?_
  refine lv_iconst (v := (3 : Int32)) hx hb dX4_doubleBody_1 (by decide) ?_
  obtain ⟨r_2, s_2, e_2, h⟩ := ob2_of h
  refine k_goV (k_runV (As := [.int (3 : Int32)]) (rest := []) S hK hP (k_X4_leaveInTrace l hAd e_2) cy_X4_leaveInTrace wd_600 rfl xO rfl hl.1 rfl (Nat.le_of_ble_eq_true rfl) dX4_doubleBody_2 ⟨Nat.le_of_ble_eq_true rfl, Nat.le_of_ble_eq_true rfl⟩ ⟨Nat.zero_le _, Nat.zero_le _⟩) hS (fun _ h => h) (fun H locs hP hS _ _ => ?_)
  refine lv_aload_n hx hb dX4_doubleBody_5 rfl (lv_at hl 0 rfl) ?_
  refine lv_iload_n hx hb dX4_doubleBody_6 rfl (lv_at hl 1 rfl) ?_
  obtain ⟨r_7, s_7, e_7, h⟩ := ob2_of h
  refine k_goI (k_runV (As := [.int x1]) (rest := []) S hK hP (k_X4_beardedBody l hAd e_7) cy_X4_beardedBody wd_604 rfl xO rfl hl.1 rfl (Nat.le_of_ble_eq_true rfl) dX4_doubleBody_7 ⟨Nat.le_of_ble_eq_true rfl, Nat.le_of_ble_eq_true rfl⟩ ⟨Nat.zero_le _, Nat.zero_le _⟩) hS (fun _ h => h) (fun H locs hP hS _ _ => ?_)
  refine lv_istore_n (lv' := [(2, .int r_7), (0, .ref (ad 0)), (1, .int x1)]) hx hb dX4_doubleBody_10 rfl hl (by decide) rfl (fun ls hl => ?_)
  refine lv_iload_n hx hb dX4_doubleBody_11 rfl (lv_at hl 0 rfl) ?_
  refine lv_aload_n hx hb dX4_doubleBody_12 rfl (lv_at hl 1 rfl) ?_
  refine lv_iload_n hx hb dX4_doubleBody_13 rfl (lv_at hl 2 rfl) ?_
  obtain ⟨r_14, s_14, e_14, h⟩ := ob2_of h
  refine k_goI (k_runV (As := [.int x1]) (rest := [.int r_7]) S hK hP (k_X4_plainBody l hAd e_14) cy_X4_plainBody wd_608 rfl xO rfl hl.1 rfl (Nat.le_of_ble_eq_true rfl) dX4_doubleBody_14 ⟨Nat.le_of_ble_eq_true rfl, Nat.le_of_ble_eq_true rfl⟩ ⟨Nat.zero_le _, Nat.zero_le _⟩) hS (fun _ h => h) (fun H locs hP hS _ _ => ?_)
  refine lv_iadd hx hb dX4_doubleBody_17 ?_
  obtain ⟨rfl, rfl⟩ := some_pair h
  exact k_iret S hr hlocks hP hS rfl dX4_doubleBody_18
def f_X4_tell (σ : SX) (x1 : Int32) : Option (Int32 × SX) := ob1 (f_X0_hasSwearer σ 10 x1) (fun r_5 => if r_5 = 0 then (some ((-1 : Int32), σ)) else (oin x1 4 (if (gR σ (10 + 2) x1.toNatClampNeg) = (1 : Int32) then (ob2 (f_X4_beardedBody σ x1) (fun r_56 s_56 => some (r_56, s_56))) else (if (gR σ (10 + 2) x1.toNatClampNeg) = (2 : Int32) then (ob2 (f_X4_doubleBody σ x1) (fun r_50 s_50 => some (r_50, s_50))) else (ob2 (f_X4_plainBody σ x1) (fun r_62 s_62 => some (r_62, s_62)))))))
set_option maxRecDepth 100000 in
set_option maxHeartbeats 4000000 in
theorem k_X4_tell (l : Launch) {D : va_G} {A : Nat → Prop} {cI cZ cS : ClassId} {ad : Nat → Nat} {ro : Option Nat} (hAd : ∀ ro σ, va_D A (WX cI cZ cS ad ro σ)) {σ : SX} {x1 : Int32} {σ' : SX} {r : Int32} (h : f_X4_tell σ x1 = some (r, σ')) : Ct (QI D A r (WX cI cZ cS ad ro (σ'))) l yX4_tell cX4_tell 2 (some .int) 4 85 D (tyS cI cZ cS) A [.ref (ad 0), .int x1] (WX cI cZ cS ad ro σ) := by
  refine Ct.of (by decide +kernel) (Nat.le_of_ble_eq_true rfl) ?_
  intro p e s m below meth c ls S hK hr hlocks hP hS hl
  have hx := S.1
  have hb := S.2.1
  have hl : lv_has ls 2 [(0, .ref (ad 0)), (1, .int x1)] := hl
  rw [f_X4_tell] at h
  refine lv_aload_n hx hb dX4_tell_0 rfl (lv_at hl 0 rfl) ?_
  refine gt_X4_21 S hK hP dX4_tell_1 ?_
  refine lv_iload_n hx hb dX4_tell_4 rfl (lv_at hl 1 rfl) ?_
  obtain ⟨r_5, e_5, h⟩ := ob1_of h
  refine k_goI (k_runV (As := [.int x1]) (rest := []) S hK hP (k_X0_hasSwearer l hAd isDy_now e_5) cy_X0_hasSwearer wd_315 rfl (xD isDy_now) rfl hl.1 rfl (Nat.le_of_ble_eq_true rfl) dX4_tell_5 ⟨Nat.le_of_ble_eq_true rfl, Nat.le_of_ble_eq_true rfl⟩ ⟨Nat.zero_le _, Nat.zero_le _⟩) hS (fun _ h => h) (fun H locs hP hS _ _ => ?_)
  refine lv_if_ne (tgt := 13) hx hb dX4_tell_8 (by decide) (fun c_8 => ?_) (fun c_8 => ?_)
  · replace h := ite_f c_8 h
    refine lv_aload_n hx hb dX4_tell_13 rfl (lv_at hl 0 rfl) ?_
    refine gt_X4_21 S hK hP dX4_tell_14 ?_
    refine gt_X4_88 S hK hP isDy_now dX4_tell_17 ?_
    refine lv_iload_n hx hb dX4_tell_20 rfl (lv_at hl 1 rfl) ?_
    obtain ⟨hi_21, h⟩ := oin_of h
    refine k_iald S hK hP (xDr2 isDy_now) hi_21 dX4_tell_21 ?_
    by_cases c_22_0 : gR σ (10 + 2) x1.toNatClampNeg = (1 : Int32)
    · replace h := ite_t c_22_0 h
      refine lv_lookup (tgt := 54) hx hb dX4_tell_22 (by decide) (by rw [c_22_0] <;> rfl) (by decide) ?_
      refine lv_aload_n hx hb dX4_tell_54 rfl (lv_at hl 0 rfl) ?_
      refine lv_iload_n hx hb dX4_tell_55 rfl (lv_at hl 1 rfl) ?_
      obtain ⟨r_56, s_56, e_56, h⟩ := ob2_of h
      refine k_goI (k_runV (As := [.int x1]) (rest := []) S hK hP (k_X4_beardedBody l hAd e_56) cy_X4_beardedBody wd_604 rfl xO rfl hl.1 rfl (Nat.le_of_ble_eq_true rfl) dX4_tell_56 ⟨Nat.le_of_ble_eq_true rfl, Nat.le_of_ble_eq_true rfl⟩ ⟨Nat.zero_le _, Nat.zero_le _⟩) hS (fun _ h => h) (fun H locs hP hS _ _ => ?_)
      obtain ⟨rfl, rfl⟩ := some_pair h
      exact k_iret S hr hlocks hP hS rfl dX4_tell_59
    · replace h := ite_f c_22_0 h
      by_cases c_22_1 : gR σ (10 + 2) x1.toNatClampNeg = (2 : Int32)
      · replace h := ite_t c_22_1 h
        refine lv_lookup (tgt := 48) hx hb dX4_tell_22 (by decide) (by rw [c_22_1] <;> rfl) (by decide) ?_
        refine lv_aload_n hx hb dX4_tell_48 rfl (lv_at hl 0 rfl) ?_
        refine lv_iload_n hx hb dX4_tell_49 rfl (lv_at hl 1 rfl) ?_
        obtain ⟨r_50, s_50, e_50, h⟩ := ob2_of h
        refine k_goI (k_runV (As := [.int x1]) (rest := []) S hK hP (k_X4_doubleBody l hAd e_50) cy_X4_doubleBody wd_596 rfl xO rfl hl.1 rfl (Nat.le_of_ble_eq_true rfl) dX4_tell_50 ⟨Nat.le_of_ble_eq_true rfl, Nat.le_of_ble_eq_true rfl⟩ ⟨Nat.zero_le _, Nat.zero_le _⟩) hS (fun _ h => h) (fun H locs hP hS _ _ => ?_)
        obtain ⟨rfl, rfl⟩ := some_pair h
        exact k_iret S hr hlocks hP hS rfl dX4_tell_53
      · replace h := ite_f c_22_1 h
        refine lv_lookup (tgt := 60) (off := 38) hx hb dX4_tell_22 (by decide) ((lv_osw c_22_0 rfl).trans ((lv_osw c_22_1 rfl).trans (rfl))) (by decide) ?_
        refine lv_aload_n hx hb dX4_tell_60 rfl (lv_at hl 0 rfl) ?_
        refine lv_iload_n hx hb dX4_tell_61 rfl (lv_at hl 1 rfl) ?_
        obtain ⟨r_62, s_62, e_62, h⟩ := ob2_of h
        refine k_goI (k_runV (As := [.int x1]) (rest := []) S hK hP (k_X4_plainBody l hAd e_62) cy_X4_plainBody wd_608 rfl xO rfl hl.1 rfl (Nat.le_of_ble_eq_true rfl) dX4_tell_62 ⟨Nat.le_of_ble_eq_true rfl, Nat.le_of_ble_eq_true rfl⟩ ⟨Nat.zero_le _, Nat.zero_le _⟩) hS (fun _ h => h) (fun H locs hP hS _ _ => ?_)
        obtain ⟨rfl, rfl⟩ := some_pair h
        exact k_iret S hr hlocks hP hS rfl dX4_tell_65
  · replace h := ite_t c_8 h
    refine lv_iconst (v := (-1 : Int32)) hx hb dX4_tell_11 (by decide) ?_
    obtain ⟨rfl, rfl⟩ := some_pair h
    exact k_iret S hr hlocks hP hS rfl dX4_tell_12
def f_X4_doublePinch (σ : SX) : Option (Int32 × SX) := ob2 (f_X4_leaveInTrace σ (5 : Int32)) (fun r_2 s_2 => some ((80 : Int32), s_2))
set_option maxRecDepth 100000 in
set_option maxHeartbeats 4000000 in
theorem k_X4_doublePinch (l : Launch) {D : va_G} {A : Nat → Prop} {cI cZ cS : ClassId} {ad : Nat → Nat} {ro : Option Nat} (hAd : ∀ ro σ, va_D A (WX cI cZ cS ad ro σ)) {σ : SX} {σ' : SX} {r : Int32} (h : f_X4_doublePinch σ = some (r, σ')) : Ct (QI D A r (WX cI cZ cS ad ro (σ'))) l yX4_doublePinch cX4_doublePinch 1 (some .int) 1 21 D (tyS cI cZ cS) A [.ref (ad 0)] (WX cI cZ cS ad ro σ) := by
  refine Ct.of (by decide +kernel) (Nat.le_of_ble_eq_true rfl) ?_
  intro p e s m below meth c ls S hK hr hlocks hP hS hl
  have hx := S.1
  have hb := S.2.1
  have hl : lv_has ls 1 [(0, .ref (ad 0))] := hl
  rw [f_X4_doublePinch] at h
  refine lv_aload_n hx hb dX4_doublePinch_0 rfl (lv_at hl 0 rfl) ?_
  refine lv_iconst (v := (5 : Int32)) hx hb dX4_doublePinch_1 (by decide) ?_
  obtain ⟨r_2, s_2, e_2, h⟩ := ob2_of h
  refine k_goV (k_runV (As := [.int (5 : Int32)]) (rest := []) S hK hP (k_X4_leaveInTrace l hAd e_2) cy_X4_leaveInTrace wd_600 rfl xO rfl hl.1 rfl (Nat.le_of_ble_eq_true rfl) dX4_doublePinch_2 ⟨Nat.le_of_ble_eq_true rfl, Nat.le_of_ble_eq_true rfl⟩ ⟨Nat.zero_le _, Nat.zero_le _⟩) hS (fun _ h => h) (fun H locs hP hS _ _ => ?_)
  refine lv_bipush (v := (80 : Int32)) hx hb dX4_doublePinch_5 (by decide) ?_
  obtain ⟨rfl, rfl⟩ := some_pair h
  exact k_iret S hr hlocks hP hS rfl dX4_doublePinch_7
def f_X4_lentPinch (σ : SX) (x1 : Int32) : Option (Int32 × SX) := ob2 (f_X4_leaveInTrace σ (4 : Int32)) (fun r_2 s_2 => ob1 (f_X0_oathsBy s_2 10 x1) (fun r_10 => ob1 (f_J6_bitCount_0f7a4 r_10) (fun r_13 => some (r_13, s_2))))
set_option maxRecDepth 100000 in
set_option maxHeartbeats 4000000 in
theorem k_X4_lentPinch (l : Launch) {D : va_G} {A : Nat → Prop} {cI cZ cS : ClassId} {ad : Nat → Nat} {ro : Option Nat} (hAd : ∀ ro σ, va_D A (WX cI cZ cS ad ro σ)) {σ : SX} {x1 : Int32} {σ' : SX} {r : Int32} (h : f_X4_lentPinch σ x1 = some (r, σ')) : Ct (QI D A r (WX cI cZ cS ad ro (σ'))) l yX4_lentPinch cX4_lentPinch 2 (some .int) 1 23 D (tyS cI cZ cS) A [.ref (ad 0), .int x1] (WX cI cZ cS ad ro σ) := by
  refine Ct.of (by decide +kernel) (Nat.le_of_ble_eq_true rfl) ?_
  intro p e s m below meth c ls S hK hr hlocks hP hS hl
  have hx := S.1
  have hb := S.2.1
  have hl : lv_has ls 2 [(0, .ref (ad 0)), (1, .int x1)] := hl
  rw [f_X4_lentPinch] at h
  refine lv_aload_n hx hb dX4_lentPinch_0 rfl (lv_at hl 0 rfl) ?_
  refine lv_iconst (v := (4 : Int32)) hx hb dX4_lentPinch_1 (by decide) ?_
  obtain ⟨r_2, s_2, e_2, h⟩ := ob2_of h
  refine k_goV (k_runV (As := [.int (4 : Int32)]) (rest := []) S hK hP (k_X4_leaveInTrace l hAd e_2) cy_X4_leaveInTrace wd_600 rfl xO rfl hl.1 rfl (Nat.le_of_ble_eq_true rfl) dX4_lentPinch_2 ⟨Nat.le_of_ble_eq_true rfl, Nat.le_of_ble_eq_true rfl⟩ ⟨Nat.zero_le _, Nat.zero_le _⟩) hS (fun _ h => h) (fun H locs hP hS _ _ => ?_)
  refine lv_aload_n hx hb dX4_lentPinch_5 rfl (lv_at hl 0 rfl) ?_
  refine gt_X4_21 S hK hP dX4_lentPinch_6 ?_
  refine lv_iload_n hx hb dX4_lentPinch_9 rfl (lv_at hl 1 rfl) ?_
  obtain ⟨r_10, e_10, h⟩ := ob1_of h
  refine k_goI (k_runV (As := [.int x1]) (rest := []) S hK hP (k_X0_oathsBy l hAd isDy_now e_10) cy_X0_oathsBy wd_336 rfl (xD isDy_now) rfl hl.1 rfl (Nat.le_of_ble_eq_true rfl) dX4_lentPinch_10 ⟨Nat.le_of_ble_eq_true rfl, Nat.le_of_ble_eq_true rfl⟩ ⟨Nat.zero_le _, Nat.zero_le _⟩) hS (fun _ h => h) (fun H locs hP hS _ _ => ?_)
  obtain ⟨r_13, e_13, h⟩ := ob1_of h
  refine k_goI (k_runS (As := [.int r_10]) (rest := []) S hK hP (k_J6_bitCount_0f7a4 l  e_13) cy_J6_bitCount_0f7a4 wd_408 rfl hl.1 rfl (Nat.le_of_ble_eq_true rfl) dX4_lentPinch_13 ⟨Nat.le_of_ble_eq_true rfl, Nat.le_of_ble_eq_true rfl⟩ ⟨Nat.zero_le _, Nat.zero_le _⟩) hS (fun _ h => h) (fun H locs hP hS _ _ => ?_)
  obtain ⟨rfl, rfl⟩ := some_pair h
  exact k_iret S hr hlocks hP hS rfl dX4_lentPinch_16
def f_X4_pinch (σ : SX) (x1 : Int32) : Option (Int32 × SX) := ob1 (f_X0_hasSwearer σ 10 x1) (fun r_5 => if r_5 = 0 then (some ((-1 : Int32), σ)) else (oin x1 4 (if (gR σ (10 + 2) x1.toNatClampNeg) = (2 : Int32) then (ob2 (f_X4_doublePinch σ) (fun r_27 s_27 => some (r_27, s_27))) else (ob2 (f_X4_lentPinch σ x1) (fun r_35 s_35 => some (r_35, s_35))))))
set_option maxRecDepth 100000 in
set_option maxHeartbeats 4000000 in
theorem k_X4_pinch (l : Launch) {D : va_G} {A : Nat → Prop} {cI cZ cS : ClassId} {ad : Nat → Nat} {ro : Option Nat} (hAd : ∀ ro σ, va_D A (WX cI cZ cS ad ro σ)) {σ : SX} {x1 : Int32} {σ' : SX} {r : Int32} (h : f_X4_pinch σ x1 = some (r, σ')) : Ct (QI D A r (WX cI cZ cS ad ro (σ'))) l yX4_pinch cX4_pinch 2 (some .int) 2 44 D (tyS cI cZ cS) A [.ref (ad 0), .int x1] (WX cI cZ cS ad ro σ) := by
  refine Ct.of (by decide +kernel) (Nat.le_of_ble_eq_true rfl) ?_
  intro p e s m below meth c ls S hK hr hlocks hP hS hl
  have hx := S.1
  have hb := S.2.1
  have hl : lv_has ls 2 [(0, .ref (ad 0)), (1, .int x1)] := hl
  rw [f_X4_pinch] at h
  refine lv_aload_n hx hb dX4_pinch_0 rfl (lv_at hl 0 rfl) ?_
  refine gt_X4_21 S hK hP dX4_pinch_1 ?_
  refine lv_iload_n hx hb dX4_pinch_4 rfl (lv_at hl 1 rfl) ?_
  obtain ⟨r_5, e_5, h⟩ := ob1_of h
  refine k_goI (k_runV (As := [.int x1]) (rest := []) S hK hP (k_X0_hasSwearer l hAd isDy_now e_5) cy_X0_hasSwearer wd_315 rfl (xD isDy_now) rfl hl.1 rfl (Nat.le_of_ble_eq_true rfl) dX4_pinch_5 ⟨Nat.le_of_ble_eq_true rfl, Nat.le_of_ble_eq_true rfl⟩ ⟨Nat.zero_le _, Nat.zero_le _⟩) hS (fun _ h => h) (fun H locs hP hS _ _ => ?_)
  refine lv_if_ne (tgt := 13) hx hb dX4_pinch_8 (by decide) (fun c_8 => ?_) (fun c_8 => ?_)
  · replace h := ite_f c_8 h
    refine lv_aload_n hx hb dX4_pinch_13 rfl (lv_at hl 0 rfl) ?_
    refine gt_X4_21 S hK hP dX4_pinch_14 ?_
    refine gt_X4_88 S hK hP isDy_now dX4_pinch_17 ?_
    refine lv_iload_n hx hb dX4_pinch_20 rfl (lv_at hl 1 rfl) ?_
    obtain ⟨hi_21, h⟩ := oin_of h
    refine k_iald S hK hP (xDr2 isDy_now) hi_21 dX4_pinch_21 ?_
    refine lv_iconst (v := (2 : Int32)) hx hb dX4_pinch_22 (by decide) ?_
    refine lv_icmp_ne (tgt := 33) hx hb dX4_pinch_23 (by decide) (fun c_23 => ?_) (fun c_23 => ?_)
    · replace h := ite_f c_23 h
      refine lv_aload_n hx hb dX4_pinch_33 rfl (lv_at hl 0 rfl) ?_
      refine lv_iload_n hx hb dX4_pinch_34 rfl (lv_at hl 1 rfl) ?_
      obtain ⟨r_35, s_35, e_35, h⟩ := ob2_of h
      refine k_goI (k_runV (As := [.int x1]) (rest := []) S hK hP (k_X4_lentPinch l hAd e_35) cy_X4_lentPinch wd_620 rfl xO rfl hl.1 rfl (Nat.le_of_ble_eq_true rfl) dX4_pinch_35 ⟨Nat.le_of_ble_eq_true rfl, Nat.le_of_ble_eq_true rfl⟩ ⟨Nat.zero_le _, Nat.zero_le _⟩) hS (fun _ h => h) (fun H locs hP hS _ _ => ?_)
      obtain ⟨rfl, rfl⟩ := some_pair h
      exact k_iret S hr hlocks hP hS rfl dX4_pinch_38
    · replace h := ite_t c_23 h
      refine lv_aload_n hx hb dX4_pinch_26 rfl (lv_at hl 0 rfl) ?_
      obtain ⟨r_27, s_27, e_27, h⟩ := ob2_of h
      refine k_goI (k_runV (As := []) (rest := []) S hK hP (k_X4_doublePinch l hAd e_27) cy_X4_doublePinch wd_616 rfl xO rfl hl.1 rfl (Nat.le_of_ble_eq_true rfl) dX4_pinch_27 ⟨Nat.le_of_ble_eq_true rfl, Nat.le_of_ble_eq_true rfl⟩ ⟨Nat.zero_le _, Nat.zero_le _⟩) hS (fun _ h => h) (fun H locs hP hS _ _ => ?_)
      refine lv_goto (tgt := 38) hx hb dX4_pinch_30 (by decide) ?_
      obtain ⟨rfl, rfl⟩ := some_pair h
      exact k_iret S hr hlocks hP hS rfl dX4_pinch_38
  · replace h := ite_t c_8 h
    refine lv_iconst (v := (-1 : Int32)) hx hb dX4_pinch_11 (by decide) ?_
    obtain ⟨rfl, rfl⟩ := some_pair h
    exact k_iret S hr hlocks hP hS rfl dX4_pinch_12
def f_X4_as (σ : SX) (x1 : Int32) (x2 : Int32) : Option (Int32 × SX) := ob1 (f_X0_hasSwearer (sF σ 0 6 (0 : Int32)) 10 x1) (fun r_10 => if r_10 = 0 then (some ((-1 : Int32), sF σ 0 6 (0 : Int32))) else (if x2 < 0 then (some ((-2 : Int32), sF σ 0 6 (0 : Int32))) else (if x2 ≤ (2 : Int32) then (oin x1 4 (if (gR (sF σ 0 6 (0 : Int32)) (10 + 2) x1.toNatClampNeg) < x2 then (ob2 (f_X4_failed (sF σ 0 6 (0 : Int32)) (2 : Int32)) (fun r_49 s_49 => some (r_49, s_49))) else (some ((1 : Int32), sF σ 0 6 (0 : Int32))))) else (some ((-2 : Int32), sF σ 0 6 (0 : Int32))))))
set_option maxRecDepth 100000 in
set_option maxHeartbeats 4000000 in
theorem k_X4_as (l : Launch) {D : va_G} {A : Nat → Prop} {cI cZ cS : ClassId} {ad : Nat → Nat} {ro : Option Nat} (hAd : ∀ ro σ, va_D A (WX cI cZ cS ad ro σ)) {σ : SX} {x1 : Int32} {x2 : Int32} {σ' : SX} {r : Int32} (h : f_X4_as σ x1 x2 = some (r, σ')) : Ct (QI D A r (WX cI cZ cS ad ro (σ'))) l yX4_as cX4_as 3 (some .int) 1 21 D (tyS cI cZ cS) A [.ref (ad 0), .int x1, .int x2] (WX cI cZ cS ad ro σ) := by
  refine Ct.of (by decide +kernel) (Nat.le_of_ble_eq_true rfl) ?_
  intro p e s m below meth c ls S hK hr hlocks hP hS hl
  have hx := S.1
  have hb := S.2.1
  have hl : lv_has ls 3 [(0, .ref (ad 0)), (1, .int x1), (2, .int x2)] := hl
  rw [f_X4_as] at h
  refine lv_aload_n hx hb dX4_as_0 rfl (lv_at hl 0 rfl) ?_
  refine lv_iconst (v := (0 : Int32)) hx hb dX4_as_1 (by decide) ?_
  refine pt_X4_42 S hK hP (hAd _ _) hS dX4_as_2 (fun H locs hP hS => ?_)
  refine lv_aload_n hx hb dX4_as_5 rfl (lv_at hl 0 rfl) ?_
  refine gt_X4_21 S hK hP dX4_as_6 ?_
  refine lv_iload_n hx hb dX4_as_9 rfl (lv_at hl 1 rfl) ?_
  obtain ⟨r_10, e_10, h⟩ := ob1_of h
  refine k_goI (k_runV (As := [.int x1]) (rest := []) S hK hP (k_X0_hasSwearer l hAd isDy_now e_10) cy_X0_hasSwearer wd_315 rfl (xD isDy_now) rfl hl.1 rfl (Nat.le_of_ble_eq_true rfl) dX4_as_10 ⟨Nat.le_of_ble_eq_true rfl, Nat.le_of_ble_eq_true rfl⟩ ⟨Nat.zero_le _, Nat.zero_le _⟩) hS (fun _ h => h) (fun H locs hP hS _ _ => ?_)
  refine lv_if_ne (tgt := 18) hx hb dX4_as_13 (by decide) (fun c_13 => ?_) (fun c_13 => ?_)
  · replace h := ite_f c_13 h
    refine lv_iload_n hx hb dX4_as_18 rfl (lv_at hl 2 rfl) ?_
    refine lv_if_lt (tgt := 27) hx hb dX4_as_19 (by decide) (fun c_19 => ?_) (fun c_19 => ?_)
    · replace h := ite_t c_19 h
      refine lv_bipush (v := (-2 : Int32)) hx hb dX4_as_27 (by decide) ?_
      obtain ⟨rfl, rfl⟩ := some_pair h
      exact k_iret S hr hlocks hP hS rfl dX4_as_29
    · replace h := ite_f c_19 h
      refine lv_iload_n hx hb dX4_as_22 rfl (lv_at hl 2 rfl) ?_
      refine lv_iconst (v := (2 : Int32)) hx hb dX4_as_23 (by decide) ?_
      refine lv_icmp_le (tgt := 30) hx hb dX4_as_24 (by decide) (fun c_24 => ?_) (fun c_24 => ?_)
      · replace h := ite_t c_24 h
        refine lv_aload_n hx hb dX4_as_30 rfl (lv_at hl 0 rfl) ?_
        refine gt_X4_21 S hK hP dX4_as_31 ?_
        refine gt_X4_88 S hK hP isDy_now dX4_as_34 ?_
        refine lv_iload_n hx hb dX4_as_37 rfl (lv_at hl 1 rfl) ?_
        obtain ⟨hi_38, h⟩ := oin_of h
        refine k_iald S hK hP (xDr2 isDy_now) hi_38 dX4_as_38 ?_
        refine lv_iload_n hx hb dX4_as_39 rfl (lv_at hl 2 rfl) ?_
        refine lv_icmp_lt (tgt := 47) hx hb dX4_as_40 (by decide) (fun c_40 => ?_) (fun c_40 => ?_)
        · replace h := ite_t c_40 h
          refine lv_aload_n hx hb dX4_as_47 rfl (lv_at hl 0 rfl) ?_
          refine lv_iconst (v := (2 : Int32)) hx hb dX4_as_48 (by decide) ?_
          obtain ⟨r_49, s_49, e_49, h⟩ := ob2_of h
          refine k_goI (k_runV (As := [.int (2 : Int32)]) (rest := []) S hK hP (k_X4_failed l hAd e_49) cy_X4_failed wd_236 rfl xO rfl hl.1 rfl (Nat.le_of_ble_eq_true rfl) dX4_as_49 ⟨Nat.le_of_ble_eq_true rfl, Nat.le_of_ble_eq_true rfl⟩ ⟨Nat.zero_le _, Nat.zero_le _⟩) hS (fun _ h => h) (fun H locs hP hS _ _ => ?_)
          obtain ⟨rfl, rfl⟩ := some_pair h
          exact k_iret S hr hlocks hP hS rfl dX4_as_52
        · replace h := ite_f c_40 h
          refine lv_iconst (v := (1 : Int32)) hx hb dX4_as_43 (by decide) ?_
          refine lv_goto (tgt := 52) hx hb dX4_as_44 (by decide) ?_
          obtain ⟨rfl, rfl⟩ := some_pair h
          exact k_iret S hr hlocks hP hS rfl dX4_as_52
      · replace h := ite_f c_24 h
        refine lv_bipush (v := (-2 : Int32)) hx hb dX4_as_27 (by decide) ?_
        obtain ⟨rfl, rfl⟩ := some_pair h
        exact k_iret S hr hlocks hP hS rfl dX4_as_29
  · replace h := ite_t c_13 h
    refine lv_iconst (v := (-1 : Int32)) hx hb dX4_as_16 (by decide) ?_
    obtain ⟨rfl, rfl⟩ := some_pair h
    exact k_iret S hr hlocks hP hS rfl dX4_as_17
def f_X4_trace (σ : SX) : Option Int32 := some (gF σ 0 5)
set_option maxRecDepth 100000 in
set_option maxHeartbeats 4000000 in
theorem k_X4_trace (l : Launch) {D : va_G} {A : Nat → Prop} {cI cZ cS : ClassId} {ad : Nat → Nat} {ro : Option Nat} (hAd : ∀ ro σ, va_D A (WX cI cZ cS ad ro σ)) {σ : SX} {r : Int32} (h : f_X4_trace σ = some r) : Ct (QI D A r (WX cI cZ cS ad ro σ)) l yX4_trace cX4_trace 1 (some .int) 0 0 D (tyS cI cZ cS) A [.ref (ad 0)] (WX cI cZ cS ad ro σ) := by
  refine Ct.of (by decide +kernel) (Nat.le_of_ble_eq_true rfl) ?_
  intro p e s m below meth c ls S hK hr hlocks hP hS hl
  have hx := S.1
  have hb := S.2.1
  have hl : lv_has ls 1 [(0, .ref (ad 0))] := hl
  rw [f_X4_trace] at h
  refine lv_aload_n hx hb dX4_trace_0 rfl (lv_at hl 0 rfl) ?_
  refine gt_X4_268 S hK hP dX4_trace_1 ?_
  exact k_iret S hr hlocks hP hS (Option.some.inj h) dX4_trace_4
def f_X4_fault (σ : SX) : Option Int32 := some (gF σ 0 6)
set_option maxRecDepth 100000 in
set_option maxHeartbeats 4000000 in
theorem k_X4_fault (l : Launch) {D : va_G} {A : Nat → Prop} {cI cZ cS : ClassId} {ad : Nat → Nat} {ro : Option Nat} (hAd : ∀ ro σ, va_D A (WX cI cZ cS ad ro σ)) {σ : SX} {r : Int32} (h : f_X4_fault σ = some r) : Ct (QI D A r (WX cI cZ cS ad ro σ)) l yX4_fault cX4_fault 1 (some .int) 0 0 D (tyS cI cZ cS) A [.ref (ad 0)] (WX cI cZ cS ad ro σ) := by
  refine Ct.of (by decide +kernel) (Nat.le_of_ble_eq_true rfl) ?_
  intro p e s m below meth c ls S hK hr hlocks hP hS hl
  have hx := S.1
  have hb := S.2.1
  have hl : lv_has ls 1 [(0, .ref (ad 0))] := hl
  rw [f_X4_fault] at h
  refine lv_aload_n hx hb dX4_fault_0 rfl (lv_at hl 0 rfl) ?_
  refine gt_X4_42 S hK hP dX4_fault_1 ?_
  exact k_iret S hr hlocks hP hS (Option.some.inj h) dX4_fault_4
def f_X4_many (σ : SX) (x1 : Int32) : Option Int32 := if x1 = (0 : Int32) then (some (gF σ 10 0)) else (if x1 = (1 : Int32) then (some (gF σ 10 1)) else (if x1 = (2 : Int32) then (some (gF σ 10 2)) else (if x1 = (3 : Int32) then (ob1 (f_X0_bindingOaths σ 10) (fun r_64 => ob1 (f_J6_bitCount_0f7a4 r_64) (fun r_67 => some r_67))) else (if x1 = (4 : Int32) then (some (gF σ 25 0)) else (some (-2 : Int32))))))
set_option maxRecDepth 100000 in
set_option maxHeartbeats 4000000 in
theorem k_X4_many (l : Launch) {D : va_G} {A : Nat → Prop} {cI cZ cS : ClassId} {ad : Nat → Nat} {ro : Option Nat} (hAd : ∀ ro σ, va_D A (WX cI cZ cS ad ro σ)) {σ : SX} {x1 : Int32} {r : Int32} (h : f_X4_many σ x1 = some r) : Ct (QI D A r (WX cI cZ cS ad ro σ)) l yX4_many cX4_many 2 (some .int) 4 87 D (tyS cI cZ cS) A [.ref (ad 0), .int x1] (WX cI cZ cS ad ro σ) := by
  refine Ct.of (by decide +kernel) (Nat.le_of_ble_eq_true rfl) ?_
  intro p e s m below meth c ls S hK hr hlocks hP hS hl
  have hx := S.1
  have hb := S.2.1
  have hl : lv_has ls 2 [(0, .ref (ad 0)), (1, .int x1)] := hl
  rw [f_X4_many] at h
  refine lv_iload_n hx hb dX4_many_0 rfl (lv_at hl 1 rfl) ?_
  by_cases c_1_0 : x1 = (0 : Int32)
  · replace h := ite_t c_1_0 h
    refine lv_tableIn (tgt := 36) hx hb dX4_many_1 (by rw [c_1_0]; decide) (by rw [c_1_0]; decide) (by rw [c_1_0] <;> rfl) (by decide) ?_
    refine lv_aload_n hx hb dX4_many_36 rfl (lv_at hl 0 rfl) ?_
    refine gt_X4_21 S hK hP dX4_many_37 ?_
    refine gt_X4_204 S hK hP isDy_now dX4_many_40 ?_
    exact k_iret S hr hlocks hP hS (Option.some.inj h) dX4_many_43
  · replace h := ite_f c_1_0 h
    by_cases c_1_1 : x1 = (1 : Int32)
    · replace h := ite_t c_1_1 h
      refine lv_tableIn (tgt := 44) hx hb dX4_many_1 (by rw [c_1_1]; decide) (by rw [c_1_1]; decide) (by rw [c_1_1] <;> rfl) (by decide) ?_
      refine lv_aload_n hx hb dX4_many_44 rfl (lv_at hl 0 rfl) ?_
      refine gt_X4_21 S hK hP dX4_many_45 ?_
      refine gt_X4_82 S hK hP isDy_now dX4_many_48 ?_
      exact k_iret S hr hlocks hP hS (Option.some.inj h) dX4_many_51
    · replace h := ite_f c_1_1 h
      by_cases c_1_2 : x1 = (2 : Int32)
      · replace h := ite_t c_1_2 h
        refine lv_tableIn (tgt := 52) hx hb dX4_many_1 (by rw [c_1_2]; decide) (by rw [c_1_2]; decide) (by rw [c_1_2] <;> rfl) (by decide) ?_
        refine lv_aload_n hx hb dX4_many_52 rfl (lv_at hl 0 rfl) ?_
        refine gt_X4_21 S hK hP dX4_many_53 ?_
        refine gt_X4_145 S hK hP isDy_now dX4_many_56 ?_
        exact k_iret S hr hlocks hP hS (Option.some.inj h) dX4_many_59
      · replace h := ite_f c_1_2 h
        by_cases c_1_3 : x1 = (3 : Int32)
        · replace h := ite_t c_1_3 h
          refine lv_tableIn (tgt := 60) hx hb dX4_many_1 (by rw [c_1_3]; decide) (by rw [c_1_3]; decide) (by rw [c_1_3] <;> rfl) (by decide) ?_
          refine lv_aload_n hx hb dX4_many_60 rfl (lv_at hl 0 rfl) ?_
          refine gt_X4_21 S hK hP dX4_many_61 ?_
          obtain ⟨r_64, e_64, h⟩ := ob1_of h
          refine k_goI (k_runV (As := []) (rest := []) S hK hP (k_X0_bindingOaths l hAd isDy_now e_64) cy_X0_bindingOaths wd_340 rfl (xD isDy_now) rfl hl.1 rfl (Nat.le_of_ble_eq_true rfl) dX4_many_64 ⟨Nat.le_of_ble_eq_true rfl, Nat.le_of_ble_eq_true rfl⟩ ⟨Nat.zero_le _, Nat.zero_le _⟩) hS (fun _ h => h) (fun H locs hP hS _ _ => ?_)
          obtain ⟨r_67, e_67, h⟩ := ob1_of h
          refine k_goI (k_runS (As := [.int r_64]) (rest := []) S hK hP (k_J6_bitCount_0f7a4 l  e_67) cy_J6_bitCount_0f7a4 wd_408 rfl hl.1 rfl (Nat.le_of_ble_eq_true rfl) dX4_many_67 ⟨Nat.le_of_ble_eq_true rfl, Nat.le_of_ble_eq_true rfl⟩ ⟨Nat.zero_le _, Nat.zero_le _⟩) hS (fun _ h => h) (fun H locs hP hS _ _ => ?_)
          exact k_iret S hr hlocks hP hS (Option.some.inj h) dX4_many_70
        · replace h := ite_f c_1_3 h
          by_cases c_1_4 : x1 = (4 : Int32)
          · replace h := ite_t c_1_4 h
            refine lv_tableIn (tgt := 71) hx hb dX4_many_1 (by rw [c_1_4]; decide) (by rw [c_1_4]; decide) (by rw [c_1_4] <;> rfl) (by decide) ?_
            refine lv_aload_n hx hb dX4_many_71 rfl (lv_at hl 0 rfl) ?_
            refine gt_X4_38 S hK hP dX4_many_72 ?_
            refine gt_X4_79 S hK hP dX4_many_75 ?_
            exact k_iret S hr hlocks hP hS (Option.some.inj h) dX4_many_78
          · replace h := ite_f c_1_4 h
            have n_1_0 := lv_neT c_1_0 (a := 0) rfl
            have n_1_1 := lv_neT c_1_1 (a := 1) rfl
            have n_1_2 := lv_neT c_1_2 (a := 2) rfl
            have n_1_3 := lv_neT c_1_3 (a := 3) rfl
            have n_1_4 := lv_neT c_1_4 (a := 4) rfl
            refine lv_tableOut (tgt := 79) hx hb dX4_many_1 (by omega) (by decide) ?_
            refine lv_bipush (v := (-2 : Int32)) hx hb dX4_many_79 (by decide) ?_
            exact k_iret S hr hlocks hP hS (Option.some.inj h) dX4_many_81
