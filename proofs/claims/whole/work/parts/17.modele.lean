def f_X5_cell (σ : SX) (x1 : Int32) (x2 : Int32) (x3 : Int32) : Option (Int64 × SX) := ob1 (f_X5_isSheet x1) (fun r_6 => if r_6 = 0 then (some ((-9223372036854775808 : Int64), sF σ 0 0 (0 : Int32))) else (ob1 (f_X5_isSort x3) (fun r_13 => if r_13 = 0 then (some ((-9223372036854775808 : Int64), sF σ 0 0 (0 : Int32))) else (oin x1 4 (if (gR (sF σ 0 0 (0 : Int32)) 1 x1.toNatClampNeg) = (-9 : Int32) then (oin x1 4 (if (gR (sF σ 0 0 (0 : Int32)) 1 x1.toNatClampNeg) = (-9 : Int32) then (ob2 (f_X5_lost (sF σ 0 0 (0 : Int32)) (1 : Int32)) (fun r_63 s_63 => some (r_63, s_63))) else (oin x1 4 (ob1 (f_X5_within x2 (0 : Int32) ((gR (sF σ 0 0 (0 : Int32)) 2 x1.toNatClampNeg) - (1 : Int32))) (fun r_77 => if r_77 = 0 then (ob2 (f_X5_lost (sF σ 0 0 (0 : Int32)) (3 : Int32)) (fun r_85 s_85 => some (r_85, s_85))) else (oin (((60 : Int32) * x1) + x2) 240 (some ((gR (sF σ 0 0 (0 : Int32)) 3 (((60 : Int32) * x1) + x2).toNatClampNeg).toInt64, sF σ 0 0 (0 : Int32))))))))) else (oin x1 4 (if (gR (sF σ 0 0 (0 : Int32)) 1 x1.toNatClampNeg) = x3 then (oin x1 4 (if (gR (sF σ 0 0 (0 : Int32)) 1 x1.toNatClampNeg) = (-9 : Int32) then (ob2 (f_X5_lost (sF σ 0 0 (0 : Int32)) (1 : Int32)) (fun r_63 s_63 => some (r_63, s_63))) else (oin x1 4 (ob1 (f_X5_within x2 (0 : Int32) ((gR (sF σ 0 0 (0 : Int32)) 2 x1.toNatClampNeg) - (1 : Int32))) (fun r_77 => if r_77 = 0 then (ob2 (f_X5_lost (sF σ 0 0 (0 : Int32)) (3 : Int32)) (fun r_85 s_85 => some (r_85, s_85))) else (oin (((60 : Int32) * x1) + x2) 240 (some ((gR (sF σ 0 0 (0 : Int32)) 3 (((60 : Int32) * x1) + x2).toNatClampNeg).toInt64, sF σ 0 0 (0 : Int32))))))))) else (ob2 (f_X5_lost (sF σ 0 0 (0 : Int32)) (2 : Int32)) (fun r_46 s_46 => some (r_46, s_46))))))))))
set_option maxRecDepth 100000 in
set_option maxHeartbeats 4000000 in
theorem k_X5_cell (l : Launch) {D : va_G} {A : Nat → Prop} {cI cZ cS : ClassId} {am : Nat → Nat} (hAd : ∀ σ, va_D A (WM cI am σ)) {σ : SX} {x1 : Int32} {x2 : Int32} {x3 : Int32} {σ' : SX} {r : Int64} (h : f_X5_cell σ x1 x2 x3 = some (r, σ')) : Ct (QL D A r (WM cI am (σ'))) l yX5_cell cX5_cell 4 (some .long) 2 42 D (tyS cI cZ cS) A [.ref (am 0), .int x1, .int x2, .int x3] (WM cI am σ) := by
  refine Ct.of (by decide +kernel) (Nat.le_of_ble_eq_true rfl) ?_
  intro p e s m below meth c ls S hK hr hlocks hP hS hl
  have hx := S.1
  have hb := S.2.1
  have hl : lv_has ls 4 [(0, .ref (am 0)), (1, .int x1), (2, .int x2), (3, .int x3)] := hl
  rw [f_X5_cell] at h
  refine lv_aload_n hx hb dX5_cell_0 rfl (lv_at hl 0 rfl) ?_
  refine lv_iconst (v := (0 : Int32)) hx hb dX5_cell_1 (by decide) ?_
  refine pt_X5_62 S hK hP (hAd _) hS dX5_cell_2 (fun H locs hP hS => ?_)
  refine lv_iload_n hx hb dX5_cell_5 rfl (lv_at hl 1 rfl) ?_
  obtain ⟨r_6, e_6, h⟩ := ob1_of h
  refine k_goI (k_runS (As := [.int x1]) (rest := []) S hK hP (k_X5_isSheet l  e_6) cy_X5_isSheet wd_735 rfl hl.1 rfl (Nat.le_of_ble_eq_true rfl) dX5_cell_6 ⟨Nat.le_of_ble_eq_true rfl, Nat.le_of_ble_eq_true rfl⟩ ⟨Nat.zero_le _, Nat.zero_le _⟩) hS (fun _ h => h) (fun H locs hP hS _ _ => ?_)
  refine lv_if_eq (tgt := 19) hx hb dX5_cell_9 (by decide) (fun c_9 => ?_) (fun c_9 => ?_)
  · replace h := ite_t c_9 h
    refine lv_ldc2 hx hb S.2.2.2.1 (S.2.2.2.2 _ wd_965) dX5_cell_19 ?_
    obtain ⟨rfl, rfl⟩ := some_pair h
    exact k_lret S hr hlocks hP hS rfl dX5_cell_22
  · replace h := ite_f c_9 h
    refine lv_iload_n hx hb dX5_cell_12 rfl (lv_at hl 3 rfl) ?_
    obtain ⟨r_13, e_13, h⟩ := ob1_of h
    refine k_goI (k_runS (As := [.int x3]) (rest := []) S hK hP (k_X5_isSort l  e_13) cy_X5_isSort wd_741 rfl hl.1 rfl (Nat.le_of_ble_eq_true rfl) dX5_cell_13 ⟨Nat.le_of_ble_eq_true rfl, Nat.le_of_ble_eq_true rfl⟩ ⟨Nat.zero_le _, Nat.zero_le _⟩) hS (fun _ h => h) (fun H locs hP hS _ _ => ?_)
    refine lv_if_ne (tgt := 23) hx hb dX5_cell_16 (by decide) (fun c_16 => ?_) (fun c_16 => ?_)
    · replace h := ite_f c_16 h
      refine lv_aload_n hx hb dX5_cell_23 rfl (lv_at hl 0 rfl) ?_
      refine gt_X5_9 S hK hP dX5_cell_24 ?_
      refine lv_iload_n hx hb dX5_cell_27 rfl (lv_at hl 1 rfl) ?_
      obtain ⟨hi_28, h⟩ := oin_of h
      refine k_iald S hK hP mr1 hi_28 dX5_cell_28 ?_
      refine lv_bipush (v := (-9 : Int32)) hx hb dX5_cell_29 (by decide) ?_
      refine lv_icmp_eq (tgt := 50) hx hb dX5_cell_31 (by decide) (fun c_31 => ?_) (fun c_31 => ?_)
      · replace h := ite_t c_31 h
        refine lv_aload_n hx hb dX5_cell_50 rfl (lv_at hl 0 rfl) ?_
        refine gt_X5_9 S hK hP dX5_cell_51 ?_
        refine lv_iload_n hx hb dX5_cell_54 rfl (lv_at hl 1 rfl) ?_
        obtain ⟨hi_55, h⟩ := oin_of h
        refine k_iald S hK hP mr1 hi_55 dX5_cell_55 ?_
        refine lv_bipush (v := (-9 : Int32)) hx hb dX5_cell_56 (by decide) ?_
        refine lv_icmp_ne (tgt := 67) hx hb dX5_cell_58 (by decide) (fun c_58 => ?_) (fun c_58 => ?_)
        · replace h := ite_f c_58 h
          refine lv_iload_n hx hb dX5_cell_67 rfl (lv_at hl 2 rfl) ?_
          refine lv_iconst (v := (0 : Int32)) hx hb dX5_cell_68 (by decide) ?_
          refine lv_aload_n hx hb dX5_cell_69 rfl (lv_at hl 0 rfl) ?_
          refine gt_X5_13 S hK hP dX5_cell_70 ?_
          refine lv_iload_n hx hb dX5_cell_73 rfl (lv_at hl 1 rfl) ?_
          obtain ⟨hi_74, h⟩ := oin_of h
          refine k_iald S hK hP mr2 hi_74 dX5_cell_74 ?_
          refine lv_iconst (v := (1 : Int32)) hx hb dX5_cell_75 (by decide) ?_
          refine lv_isub hx hb dX5_cell_76 ?_
          obtain ⟨r_77, e_77, h⟩ := ob1_of h
          refine k_goI (k_runS (As := [.int x2, .int (0 : Int32), .int ((gR (sF σ 0 0 (0 : Int32)) 2 x1.toNatClampNeg) - (1 : Int32))]) (rest := []) S hK hP (k_X5_within l  e_77) cy_X5_within wd_738 rfl hl.1 rfl (Nat.le_of_ble_eq_true rfl) dX5_cell_77 ⟨Nat.le_of_ble_eq_true rfl, Nat.le_of_ble_eq_true rfl⟩ ⟨Nat.zero_le _, Nat.zero_le _⟩) hS (fun _ h => h) (fun H locs hP hS _ _ => ?_)
          refine lv_if_ne (tgt := 89) hx hb dX5_cell_80 (by decide) (fun c_80 => ?_) (fun c_80 => ?_)
          · replace h := ite_f c_80 h
            refine lv_aload_n hx hb dX5_cell_89 rfl (lv_at hl 0 rfl) ?_
            refine gt_X5_16 S hK hP dX5_cell_90 ?_
            refine lv_bipush (v := (60 : Int32)) hx hb dX5_cell_93 (by decide) ?_
            refine lv_iload_n hx hb dX5_cell_95 rfl (lv_at hl 1 rfl) ?_
            refine lv_imul hx hb dX5_cell_96 ?_
            refine lv_iload_n hx hb dX5_cell_97 rfl (lv_at hl 2 rfl) ?_
            refine lv_iadd hx hb dX5_cell_98 ?_
            obtain ⟨hi_99, h⟩ := oin_of h
            refine k_iald S hK hP mr3 hi_99 dX5_cell_99 ?_
            refine lv_i2l (v := (gR (sF σ 0 0 (0 : Int32)) 3 (((60 : Int32) * x1) + x2).toNatClampNeg).toInt64) hx hb dX5_cell_100 rfl ?_
            obtain ⟨rfl, rfl⟩ := some_pair h
            exact k_lret S hr hlocks hP hS rfl dX5_cell_101
          · replace h := ite_t c_80 h
            refine lv_aload_n hx hb dX5_cell_83 rfl (lv_at hl 0 rfl) ?_
            refine lv_iconst (v := (3 : Int32)) hx hb dX5_cell_84 (by decide) ?_
            obtain ⟨r_85, s_85, e_85, h⟩ := ob2_of h
            refine k_goL (k_runV (As := [.int (3 : Int32)]) (rest := []) S hK hP (k_X5_lost l hAd e_85) cy_X5_lost wd_985 rfl mO rfl hl.1 rfl (Nat.le_of_ble_eq_true rfl) dX5_cell_85 ⟨Nat.le_of_ble_eq_true rfl, Nat.le_of_ble_eq_true rfl⟩ ⟨Nat.zero_le _, Nat.zero_le _⟩) hS (fun _ h => h) (fun H locs hP hS _ _ => ?_)
            obtain ⟨rfl, rfl⟩ := some_pair h
            exact k_lret S hr hlocks hP hS rfl dX5_cell_88
        · replace h := ite_t c_58 h
          refine lv_aload_n hx hb dX5_cell_61 rfl (lv_at hl 0 rfl) ?_
          refine lv_iconst (v := (1 : Int32)) hx hb dX5_cell_62 (by decide) ?_
          obtain ⟨r_63, s_63, e_63, h⟩ := ob2_of h
          refine k_goL (k_runV (As := [.int (1 : Int32)]) (rest := []) S hK hP (k_X5_lost l hAd e_63) cy_X5_lost wd_985 rfl mO rfl hl.1 rfl (Nat.le_of_ble_eq_true rfl) dX5_cell_63 ⟨Nat.le_of_ble_eq_true rfl, Nat.le_of_ble_eq_true rfl⟩ ⟨Nat.zero_le _, Nat.zero_le _⟩) hS (fun _ h => h) (fun H locs hP hS _ _ => ?_)
          obtain ⟨rfl, rfl⟩ := some_pair h
          exact k_lret S hr hlocks hP hS rfl dX5_cell_66
      · replace h := ite_f c_31 h
        refine lv_aload_n hx hb dX5_cell_34 rfl (lv_at hl 0 rfl) ?_
        refine gt_X5_9 S hK hP dX5_cell_35 ?_
        refine lv_iload_n hx hb dX5_cell_38 rfl (lv_at hl 1 rfl) ?_
        obtain ⟨hi_39, h⟩ := oin_of h
        refine k_iald S hK hP mr1 hi_39 dX5_cell_39 ?_
        refine lv_iload_n hx hb dX5_cell_40 rfl (lv_at hl 3 rfl) ?_
        refine lv_icmp_eq (tgt := 50) hx hb dX5_cell_41 (by decide) (fun c_41 => ?_) (fun c_41 => ?_)
        · replace h := ite_t c_41 h
          refine lv_aload_n hx hb dX5_cell_50 rfl (lv_at hl 0 rfl) ?_
          refine gt_X5_9 S hK hP dX5_cell_51 ?_
          refine lv_iload_n hx hb dX5_cell_54 rfl (lv_at hl 1 rfl) ?_
          obtain ⟨hi_55, h⟩ := oin_of h
          refine k_iald S hK hP mr1 hi_55 dX5_cell_55 ?_
          refine lv_bipush (v := (-9 : Int32)) hx hb dX5_cell_56 (by decide) ?_
          refine lv_icmp_ne (tgt := 67) hx hb dX5_cell_58 (by decide) (fun c_58 => ?_) (fun c_58 => ?_)
          · replace h := ite_f c_58 h
            refine lv_iload_n hx hb dX5_cell_67 rfl (lv_at hl 2 rfl) ?_
            refine lv_iconst (v := (0 : Int32)) hx hb dX5_cell_68 (by decide) ?_
            refine lv_aload_n hx hb dX5_cell_69 rfl (lv_at hl 0 rfl) ?_
            refine gt_X5_13 S hK hP dX5_cell_70 ?_
            refine lv_iload_n hx hb dX5_cell_73 rfl (lv_at hl 1 rfl) ?_
            obtain ⟨hi_74, h⟩ := oin_of h
            refine k_iald S hK hP mr2 hi_74 dX5_cell_74 ?_
            refine lv_iconst (v := (1 : Int32)) hx hb dX5_cell_75 (by decide) ?_
            refine lv_isub hx hb dX5_cell_76 ?_
            obtain ⟨r_77, e_77, h⟩ := ob1_of h
            refine k_goI (k_runS (As := [.int x2, .int (0 : Int32), .int ((gR (sF σ 0 0 (0 : Int32)) 2 x1.toNatClampNeg) - (1 : Int32))]) (rest := []) S hK hP (k_X5_within l  e_77) cy_X5_within wd_738 rfl hl.1 rfl (Nat.le_of_ble_eq_true rfl) dX5_cell_77 ⟨Nat.le_of_ble_eq_true rfl, Nat.le_of_ble_eq_true rfl⟩ ⟨Nat.zero_le _, Nat.zero_le _⟩) hS (fun _ h => h) (fun H locs hP hS _ _ => ?_)
            refine lv_if_ne (tgt := 89) hx hb dX5_cell_80 (by decide) (fun c_80 => ?_) (fun c_80 => ?_)
            · replace h := ite_f c_80 h
              refine lv_aload_n hx hb dX5_cell_89 rfl (lv_at hl 0 rfl) ?_
              refine gt_X5_16 S hK hP dX5_cell_90 ?_
              refine lv_bipush (v := (60 : Int32)) hx hb dX5_cell_93 (by decide) ?_
              refine lv_iload_n hx hb dX5_cell_95 rfl (lv_at hl 1 rfl) ?_
              refine lv_imul hx hb dX5_cell_96 ?_
              refine lv_iload_n hx hb dX5_cell_97 rfl (lv_at hl 2 rfl) ?_
              refine lv_iadd hx hb dX5_cell_98 ?_
              obtain ⟨hi_99, h⟩ := oin_of h
              refine k_iald S hK hP mr3 hi_99 dX5_cell_99 ?_
              refine lv_i2l (v := (gR (sF σ 0 0 (0 : Int32)) 3 (((60 : Int32) * x1) + x2).toNatClampNeg).toInt64) hx hb dX5_cell_100 rfl ?_
              obtain ⟨rfl, rfl⟩ := some_pair h
              exact k_lret S hr hlocks hP hS rfl dX5_cell_101
            · replace h := ite_t c_80 h
              refine lv_aload_n hx hb dX5_cell_83 rfl (lv_at hl 0 rfl) ?_
              refine lv_iconst (v := (3 : Int32)) hx hb dX5_cell_84 (by decide) ?_
              obtain ⟨r_85, s_85, e_85, h⟩ := ob2_of h
              refine k_goL (k_runV (As := [.int (3 : Int32)]) (rest := []) S hK hP (k_X5_lost l hAd e_85) cy_X5_lost wd_985 rfl mO rfl hl.1 rfl (Nat.le_of_ble_eq_true rfl) dX5_cell_85 ⟨Nat.le_of_ble_eq_true rfl, Nat.le_of_ble_eq_true rfl⟩ ⟨Nat.zero_le _, Nat.zero_le _⟩) hS (fun _ h => h) (fun H locs hP hS _ _ => ?_)
              obtain ⟨rfl, rfl⟩ := some_pair h
              exact k_lret S hr hlocks hP hS rfl dX5_cell_88
          · replace h := ite_t c_58 h
            refine lv_aload_n hx hb dX5_cell_61 rfl (lv_at hl 0 rfl) ?_
            refine lv_iconst (v := (1 : Int32)) hx hb dX5_cell_62 (by decide) ?_
            obtain ⟨r_63, s_63, e_63, h⟩ := ob2_of h
            refine k_goL (k_runV (As := [.int (1 : Int32)]) (rest := []) S hK hP (k_X5_lost l hAd e_63) cy_X5_lost wd_985 rfl mO rfl hl.1 rfl (Nat.le_of_ble_eq_true rfl) dX5_cell_63 ⟨Nat.le_of_ble_eq_true rfl, Nat.le_of_ble_eq_true rfl⟩ ⟨Nat.zero_le _, Nat.zero_le _⟩) hS (fun _ h => h) (fun H locs hP hS _ _ => ?_)
            obtain ⟨rfl, rfl⟩ := some_pair h
            exact k_lret S hr hlocks hP hS rfl dX5_cell_66
        · replace h := ite_f c_41 h
          refine lv_aload_n hx hb dX5_cell_44 rfl (lv_at hl 0 rfl) ?_
          refine lv_iconst (v := (2 : Int32)) hx hb dX5_cell_45 (by decide) ?_
          obtain ⟨r_46, s_46, e_46, h⟩ := ob2_of h
          refine k_goL (k_runV (As := [.int (2 : Int32)]) (rest := []) S hK hP (k_X5_lost l hAd e_46) cy_X5_lost wd_985 rfl mO rfl hl.1 rfl (Nat.le_of_ble_eq_true rfl) dX5_cell_46 ⟨Nat.le_of_ble_eq_true rfl, Nat.le_of_ble_eq_true rfl⟩ ⟨Nat.zero_le _, Nat.zero_le _⟩) hS (fun _ h => h) (fun H locs hP hS _ _ => ?_)
          obtain ⟨rfl, rfl⟩ := some_pair h
          exact k_lret S hr hlocks hP hS rfl dX5_cell_49
    · replace h := ite_t c_16 h
      refine lv_ldc2 hx hb S.2.2.2.1 (S.2.2.2.2 _ wd_965) dX5_cell_19 ?_
      obtain ⟨rfl, rfl⟩ := some_pair h
      exact k_lret S hr hlocks hP hS rfl dX5_cell_22
def f_X5_copy_L166 : Nat → SX → Int32 → Int32 → Int32 → Int32 → Int32 → Int32 → Int32 → Int32 → Option (Int32 × SX)
  | 0, _, _, _, _, _, _, _, _, _ => none
  | n + 1, σ, y1, y2, y3, y4, y5, y6, y7, y8 => if y5 ≤ y8 then (some (y5, σ)) else (if y7 = 0 then (oin ((((60 : Int32) * y1) + y2) + y8) 240 (oin ((((60 : Int32) * y3) + y4) + y8) 240 (f_X5_copy_L166 n (sR σ 3 (upd (gR σ 3) ((((60 : Int32) * y3) + y4) + y8).toNatClampNeg (gR σ 3 ((((60 : Int32) * y1) + y2) + y8).toNatClampNeg))) y1 y2 y3 y4 y5 y6 y7 (y8 + (1 : Int32))))) else (oin ((((60 : Int32) * y1) + y2) + ((y5 - (1 : Int32)) - y8)) 240 (oin ((((60 : Int32) * y3) + y4) + ((y5 - (1 : Int32)) - y8)) 240 (f_X5_copy_L166 n (sR σ 3 (upd (gR σ 3) ((((60 : Int32) * y3) + y4) + ((y5 - (1 : Int32)) - y8)).toNatClampNeg (gR σ 3 ((((60 : Int32) * y1) + y2) + ((y5 - (1 : Int32)) - y8)).toNatClampNeg))) y1 y2 y3 y4 y5 y6 y7 (y8 + (1 : Int32))))))
def f_X5_copy (σ : SX) (x1 : Int32) (x2 : Int32) (x3 : Int32) (x4 : Int32) (x5 : Int32) : Option (Int32 × SX) := ob1 (f_X5_isSheet x1) (fun r_6 => if r_6 = 0 then (some ((-1 : Int32), sF σ 0 0 (0 : Int32))) else (ob1 (f_X5_isSheet x3) (fun r_13 => if r_13 = 0 then (some ((-1 : Int32), sF σ 0 0 (0 : Int32))) else (oin x1 4 (if (gR (sF σ 0 0 (0 : Int32)) 1 x1.toNatClampNeg) = (-9 : Int32) then (ob2 (f_X5_fails (sF σ 0 0 (0 : Int32)) (1 : Int32)) (fun r_45 s_45 => some (r_45, s_45))) else (oin x3 4 (if (gR (sF σ 0 0 (0 : Int32)) 1 x3.toNatClampNeg) = (-9 : Int32) then (ob2 (f_X5_fails (sF σ 0 0 (0 : Int32)) (1 : Int32)) (fun r_45 s_45 => some (r_45, s_45))) else (oin x1 4 (oin x3 4 (if (gR (sF σ 0 0 (0 : Int32)) 1 x1.toNatClampNeg) = (gR (sF σ 0 0 (0 : Int32)) 1 x3.toNatClampNeg) then (if x2 < 0 then (ob2 (f_X5_fails (sF σ 0 0 (0 : Int32)) (3 : Int32)) (fun r_146 s_146 => some (r_146, s_146))) else (if x4 < 0 then (ob2 (f_X5_fails (sF σ 0 0 (0 : Int32)) (3 : Int32)) (fun r_146 s_146 => some (r_146, s_146))) else (if x5 < 0 then (ob2 (f_X5_fails (sF σ 0 0 (0 : Int32)) (3 : Int32)) (fun r_146 s_146 => some (r_146, s_146))) else (oin x1 4 (if (gR (sF σ 0 0 (0 : Int32)) 2 x1.toNatClampNeg) < x2 then (ob2 (f_X5_fails (sF σ 0 0 (0 : Int32)) (3 : Int32)) (fun r_146 s_146 => some (r_146, s_146))) else (oin x3 4 (if (gR (sF σ 0 0 (0 : Int32)) 2 x3.toNatClampNeg) < x4 then (ob2 (f_X5_fails (sF σ 0 0 (0 : Int32)) (3 : Int32)) (fun r_146 s_146 => some (r_146, s_146))) else (oin x1 4 (if ((gR (sF σ 0 0 (0 : Int32)) 2 x1.toNatClampNeg) - x2) < x5 then (ob2 (f_X5_fails (sF σ 0 0 (0 : Int32)) (3 : Int32)) (fun r_146 s_146 => some (r_146, s_146))) else (oin x3 4 (if x5 ≤ ((gR (sF σ 0 0 (0 : Int32)) 2 x3.toNatClampNeg) - x4) then (if x4 ≤ x2 then (f_X5_copy_L166 100 (sF σ 0 0 (0 : Int32)) x1 x2 x3 x4 x5 (1 : Int32) (0 : Int32) (0 : Int32)) else (f_X5_copy_L166 100 (sF σ 0 0 (0 : Int32)) x1 x2 x3 x4 x5 (1 : Int32) (1 : Int32) (0 : Int32))) else (ob2 (f_X5_fails (sF σ 0 0 (0 : Int32)) (3 : Int32)) (fun r_146 s_146 => some (r_146, s_146)))))))))))))) else (ob2 (f_X5_fails (sF σ 0 0 (0 : Int32)) (2 : Int32)) (fun r_66 s_66 => some (r_66, s_66)))))))))))))
set_option maxRecDepth 100000 in
set_option maxHeartbeats 4000000 in
theorem k_X5_copy (l : Launch) {D : va_G} {A : Nat → Prop} {cI cZ cS : ClassId} {am : Nat → Nat} (hAd : ∀ σ, va_D A (WM cI am σ)) {σ : SX} {x1 : Int32} {x2 : Int32} {x3 : Int32} {x4 : Int32} {x5 : Int32} {σ' : SX} {r : Int32} (h : f_X5_copy σ x1 x2 x3 x4 x5 = some (r, σ')) : Ct (QI D A r (WM cI am (σ'))) l yX5_copy cX5_copy 10 (some .int) 2 42 D (tyS cI cZ cS) A [.ref (am 0), .int x1, .int x2, .int x3, .int x4, .int x5] (WM cI am σ) := by
  refine Ct.of (by decide +kernel) (Nat.le_of_ble_eq_true rfl) ?_
  intro p e s m below meth c ls S hK hr hlocks hP hS hl
  have hx := S.1
  have hb := S.2.1
  have hl : lv_has ls 10 [(0, .ref (am 0)), (1, .int x1), (2, .int x2), (3, .int x3), (4, .int x4), (5, .int x5)] := hl
  have loop166 : ∀ (n : Nat) (σ : SX) (y1 : Int32) (y2 : Int32) (y3 : Int32) (y4 : Int32) (y5 : Int32) (y6 : Int32) (y7 : Int32) (y8 : Int32) (H : Heap) (locs : List Loc) (ls : Array Slot), f_X5_copy_L166 n σ y1 y2 y3 y4 y5 y6 y7 y8 = some (r, σ') → va_P D vwCl (WM cI am σ) H → va_S A s.heap H locs → lv_has ls 10 [(0, .ref (am 0)), (1, .int y1), (2, .int y2), (3, .int y3), (4, .int y4), (5, .int y5), (6, .int y6), (7, .int y7), (8, .int y8)] → W p l e (rmO 2 42) s m [.ref (am 0), .int x1, .int x2, .int x3, .int x4, .int x5].toArray below meth c H locs 0 0 (MQ below (QI D A r (WM cI am (σ'))) [.ref (am 0), .int x1, .int x2, .int x3, .int x4, .int x5].toArray s 0 0 A) (F0 m 166 ls []) := by
    intro n
    induction n with
    | zero => intro σ y1 y2 y3 y4 y5 y6 y7 y8 H locs ls h; cases h
    | succ n ih =>
      intro σ y1 y2 y3 y4 y5 y6 y7 y8 H locs ls h hP hS hl
      rw [f_X5_copy_L166] at h
      refine lv_iload hx hb dX5_copy_166 (lv_at hl 8 rfl) ?_
      refine lv_iload hx hb dX5_copy_168 (lv_at hl 5 rfl) ?_
      refine lv_icmp_ge (tgt := 227) hx hb dX5_copy_170 (by decide) (fun c_170 => ?_) (fun c_170 => ?_)
      · replace h := ite_t c_170 h
        refine lv_iload hx hb dX5_copy_227 (lv_at hl 5 rfl) ?_
        obtain ⟨rfl, rfl⟩ := some_pair h
        exact k_iret S hr hlocks hP hS rfl dX5_copy_229
      · replace h := ite_f c_170 h
        refine lv_iload hx hb dX5_copy_173 (lv_at hl 7 rfl) ?_
        refine lv_if_eq (tgt := 188) hx hb dX5_copy_175 (by decide) (fun c_175 => ?_) (fun c_175 => ?_)
        · replace h := ite_t c_175 h
          refine lv_iload hx hb dX5_copy_188 (lv_at hl 8 rfl) ?_
          refine lv_istore (lv' := [(9, .int y8), (0, .ref (am 0)), (1, .int y1), (2, .int y2), (3, .int y3), (4, .int y4), (5, .int y5), (6, .int y6), (7, .int y7), (8, .int y8)]) hx hb dX5_copy_190 hl (by decide) rfl (fun ls hl => ?_)
          refine lv_aload_n hx hb dX5_copy_192 rfl (lv_at hl 1 rfl) ?_
          refine gt_X5_16 S hK hP dX5_copy_193 ?_
          refine lv_bipush (v := (60 : Int32)) hx hb dX5_copy_196 (by decide) ?_
          refine lv_iload_n hx hb dX5_copy_198 rfl (lv_at hl 4 rfl) ?_
          refine lv_imul hx hb dX5_copy_199 ?_
          refine lv_iload hx hb dX5_copy_200 (lv_at hl 5 rfl) ?_
          refine lv_iadd hx hb dX5_copy_202 ?_
          refine lv_iload hx hb dX5_copy_203 (lv_at hl 0 rfl) ?_
          refine lv_iadd hx hb dX5_copy_205 ?_
          refine lv_aload_n hx hb dX5_copy_206 rfl (lv_at hl 1 rfl) ?_
          refine gt_X5_16 S hK hP dX5_copy_207 ?_
          refine lv_bipush (v := (60 : Int32)) hx hb dX5_copy_210 (by decide) ?_
          refine lv_iload_n hx hb dX5_copy_212 rfl (lv_at hl 2 rfl) ?_
          refine lv_imul hx hb dX5_copy_213 ?_
          refine lv_iload_n hx hb dX5_copy_214 rfl (lv_at hl 3 rfl) ?_
          refine lv_iadd hx hb dX5_copy_215 ?_
          refine lv_iload hx hb dX5_copy_216 (lv_at hl 0 rfl) ?_
          refine lv_iadd hx hb dX5_copy_218 ?_
          obtain ⟨hi_219, h⟩ := oin_of h
          refine k_iald S hK hP mr3 hi_219 dX5_copy_219 ?_
          obtain ⟨hi_220, h⟩ := oin_of h
          refine k_iast S hK hP (hAd _) hS mr3 mr3_s hi_220 dX5_copy_220 (fun H locs hP hS => ?_)
          refine lv_iinc (v := y8 + (1 : Int32)) (lv' := [(8, .int (y8 + (1 : Int32))), (9, .int y8), (0, .ref (am 0)), (1, .int y1), (2, .int y2), (3, .int y3), (4, .int y4), (5, .int y5), (6, .int y6), (7, .int y7)]) hx hb dX5_copy_221 hl (k := 9) rfl rfl (by decide) rfl (fun ls hl => ?_)
          refine lv_goto (tgt := 166) hx hb dX5_copy_224 (by decide) ?_
          exact ih (sR σ 3 (upd (gR σ 3) ((((60 : Int32) * y3) + y4) + y8).toNatClampNeg (gR σ 3 ((((60 : Int32) * y1) + y2) + y8).toNatClampNeg))) y1 y2 y3 y4 y5 y6 y7 (y8 + (1 : Int32)) _ _ _ h hP hS (lv_sub hl [2, 3, 4, 5, 6, 7, 8, 9, 0] rfl)
        · replace h := ite_f c_175 h
          refine lv_iload hx hb dX5_copy_178 (lv_at hl 5 rfl) ?_
          refine lv_iconst (v := (1 : Int32)) hx hb dX5_copy_180 (by decide) ?_
          refine lv_isub hx hb dX5_copy_181 ?_
          refine lv_iload hx hb dX5_copy_182 (lv_at hl 8 rfl) ?_
          refine lv_isub hx hb dX5_copy_184 ?_
          refine lv_goto (tgt := 190) hx hb dX5_copy_185 (by decide) ?_
          refine lv_istore (lv' := [(9, .int ((y5 - (1 : Int32)) - y8)), (0, .ref (am 0)), (1, .int y1), (2, .int y2), (3, .int y3), (4, .int y4), (5, .int y5), (6, .int y6), (7, .int y7), (8, .int y8)]) hx hb dX5_copy_190 hl (by decide) rfl (fun ls hl => ?_)
          refine lv_aload_n hx hb dX5_copy_192 rfl (lv_at hl 1 rfl) ?_
          refine gt_X5_16 S hK hP dX5_copy_193 ?_
          refine lv_bipush (v := (60 : Int32)) hx hb dX5_copy_196 (by decide) ?_
          refine lv_iload_n hx hb dX5_copy_198 rfl (lv_at hl 4 rfl) ?_
          refine lv_imul hx hb dX5_copy_199 ?_
          refine lv_iload hx hb dX5_copy_200 (lv_at hl 5 rfl) ?_
          refine lv_iadd hx hb dX5_copy_202 ?_
          refine lv_iload hx hb dX5_copy_203 (lv_at hl 0 rfl) ?_
          refine lv_iadd hx hb dX5_copy_205 ?_
          refine lv_aload_n hx hb dX5_copy_206 rfl (lv_at hl 1 rfl) ?_
          refine gt_X5_16 S hK hP dX5_copy_207 ?_
          refine lv_bipush (v := (60 : Int32)) hx hb dX5_copy_210 (by decide) ?_
          refine lv_iload_n hx hb dX5_copy_212 rfl (lv_at hl 2 rfl) ?_
          refine lv_imul hx hb dX5_copy_213 ?_
          refine lv_iload_n hx hb dX5_copy_214 rfl (lv_at hl 3 rfl) ?_
          refine lv_iadd hx hb dX5_copy_215 ?_
          refine lv_iload hx hb dX5_copy_216 (lv_at hl 0 rfl) ?_
          refine lv_iadd hx hb dX5_copy_218 ?_
          obtain ⟨hi_219, h⟩ := oin_of h
          refine k_iald S hK hP mr3 hi_219 dX5_copy_219 ?_
          obtain ⟨hi_220, h⟩ := oin_of h
          refine k_iast S hK hP (hAd _) hS mr3 mr3_s hi_220 dX5_copy_220 (fun H locs hP hS => ?_)
          refine lv_iinc (v := y8 + (1 : Int32)) (lv' := [(8, .int (y8 + (1 : Int32))), (9, .int ((y5 - (1 : Int32)) - y8)), (0, .ref (am 0)), (1, .int y1), (2, .int y2), (3, .int y3), (4, .int y4), (5, .int y5), (6, .int y6), (7, .int y7)]) hx hb dX5_copy_221 hl (k := 9) rfl rfl (by decide) rfl (fun ls hl => ?_)
          refine lv_goto (tgt := 166) hx hb dX5_copy_224 (by decide) ?_
          exact ih (sR σ 3 (upd (gR σ 3) ((((60 : Int32) * y3) + y4) + ((y5 - (1 : Int32)) - y8)).toNatClampNeg (gR σ 3 ((((60 : Int32) * y1) + y2) + ((y5 - (1 : Int32)) - y8)).toNatClampNeg))) y1 y2 y3 y4 y5 y6 y7 (y8 + (1 : Int32)) _ _ _ h hP hS (lv_sub hl [2, 3, 4, 5, 6, 7, 8, 9, 0] rfl)
  rw [f_X5_copy] at h
  refine lv_aload_n hx hb dX5_copy_0 rfl (lv_at hl 0 rfl) ?_
  refine lv_iconst (v := (0 : Int32)) hx hb dX5_copy_1 (by decide) ?_
  refine pt_X5_62 S hK hP (hAd _) hS dX5_copy_2 (fun H locs hP hS => ?_)
  refine lv_iload_n hx hb dX5_copy_5 rfl (lv_at hl 1 rfl) ?_
  obtain ⟨r_6, e_6, h⟩ := ob1_of h
  refine k_goI (k_runS (As := [.int x1]) (rest := []) S hK hP (k_X5_isSheet l  e_6) cy_X5_isSheet wd_735 rfl hl.1 rfl (Nat.le_of_ble_eq_true rfl) dX5_copy_6 ⟨Nat.le_of_ble_eq_true rfl, Nat.le_of_ble_eq_true rfl⟩ ⟨Nat.zero_le _, Nat.zero_le _⟩) hS (fun _ h => h) (fun H locs hP hS _ _ => ?_)
  refine lv_if_eq (tgt := 19) hx hb dX5_copy_9 (by decide) (fun c_9 => ?_) (fun c_9 => ?_)
  · replace h := ite_t c_9 h
    refine lv_iconst (v := (-1 : Int32)) hx hb dX5_copy_19 (by decide) ?_
    obtain ⟨rfl, rfl⟩ := some_pair h
    exact k_iret S hr hlocks hP hS rfl dX5_copy_20
  · replace h := ite_f c_9 h
    refine lv_iload_n hx hb dX5_copy_12 rfl (lv_at hl 3 rfl) ?_
    obtain ⟨r_13, e_13, h⟩ := ob1_of h
    refine k_goI (k_runS (As := [.int x3]) (rest := []) S hK hP (k_X5_isSheet l  e_13) cy_X5_isSheet wd_735 rfl hl.1 rfl (Nat.le_of_ble_eq_true rfl) dX5_copy_13 ⟨Nat.le_of_ble_eq_true rfl, Nat.le_of_ble_eq_true rfl⟩ ⟨Nat.zero_le _, Nat.zero_le _⟩) hS (fun _ h => h) (fun H locs hP hS _ _ => ?_)
    refine lv_if_ne (tgt := 21) hx hb dX5_copy_16 (by decide) (fun c_16 => ?_) (fun c_16 => ?_)
    · replace h := ite_f c_16 h
      refine lv_aload_n hx hb dX5_copy_21 rfl (lv_at hl 0 rfl) ?_
      refine gt_X5_9 S hK hP dX5_copy_22 ?_
      refine lv_iload_n hx hb dX5_copy_25 rfl (lv_at hl 1 rfl) ?_
      obtain ⟨hi_26, h⟩ := oin_of h
      refine k_iald S hK hP mr1 hi_26 dX5_copy_26 ?_
      refine lv_bipush (v := (-9 : Int32)) hx hb dX5_copy_27 (by decide) ?_
      refine lv_icmp_eq (tgt := 43) hx hb dX5_copy_29 (by decide) (fun c_29 => ?_) (fun c_29 => ?_)
      · replace h := ite_t c_29 h
        refine lv_aload_n hx hb dX5_copy_43 rfl (lv_at hl 0 rfl) ?_
        refine lv_iconst (v := (1 : Int32)) hx hb dX5_copy_44 (by decide) ?_
        obtain ⟨r_45, s_45, e_45, h⟩ := ob2_of h
        refine k_goI (k_runV (As := [.int (1 : Int32)]) (rest := []) S hK hP (k_X5_fails l hAd e_45) cy_X5_fails wd_748 rfl mO rfl hl.1 rfl (Nat.le_of_ble_eq_true rfl) dX5_copy_45 ⟨Nat.le_of_ble_eq_true rfl, Nat.le_of_ble_eq_true rfl⟩ ⟨Nat.zero_le _, Nat.zero_le _⟩) hS (fun _ h => h) (fun H locs hP hS _ _ => ?_)
        obtain ⟨rfl, rfl⟩ := some_pair h
        exact k_iret S hr hlocks hP hS rfl dX5_copy_48
      · replace h := ite_f c_29 h
        refine lv_aload_n hx hb dX5_copy_32 rfl (lv_at hl 0 rfl) ?_
        refine gt_X5_9 S hK hP dX5_copy_33 ?_
        refine lv_iload_n hx hb dX5_copy_36 rfl (lv_at hl 3 rfl) ?_
        obtain ⟨hi_37, h⟩ := oin_of h
        refine k_iald S hK hP mr1 hi_37 dX5_copy_37 ?_
        refine lv_bipush (v := (-9 : Int32)) hx hb dX5_copy_38 (by decide) ?_
        refine lv_icmp_ne (tgt := 49) hx hb dX5_copy_40 (by decide) (fun c_40 => ?_) (fun c_40 => ?_)
        · replace h := ite_f c_40 h
          refine lv_aload_n hx hb dX5_copy_49 rfl (lv_at hl 0 rfl) ?_
          refine gt_X5_9 S hK hP dX5_copy_50 ?_
          refine lv_iload_n hx hb dX5_copy_53 rfl (lv_at hl 1 rfl) ?_
          obtain ⟨hi_54, h⟩ := oin_of h
          refine k_iald S hK hP mr1 hi_54 dX5_copy_54 ?_
          refine lv_aload_n hx hb dX5_copy_55 rfl (lv_at hl 0 rfl) ?_
          refine gt_X5_9 S hK hP dX5_copy_56 ?_
          refine lv_iload_n hx hb dX5_copy_59 rfl (lv_at hl 3 rfl) ?_
          obtain ⟨hi_60, h⟩ := oin_of h
          refine k_iald S hK hP mr1 hi_60 dX5_copy_60 ?_
          refine lv_icmp_eq (tgt := 70) hx hb dX5_copy_61 (by decide) (fun c_61 => ?_) (fun c_61 => ?_)
          · replace h := ite_t c_61 h
            refine lv_iload_n hx hb dX5_copy_70 rfl (lv_at hl 2 rfl) ?_
            refine lv_if_lt (tgt := 109) hx hb dX5_copy_71 (by decide) (fun c_71 => ?_) (fun c_71 => ?_)
            · replace h := ite_t c_71 h
              refine lv_iconst (v := (0 : Int32)) hx hb dX5_copy_109 (by decide) ?_
              refine lv_istore (lv' := [(6, .int (0 : Int32)), (0, .ref (am 0)), (1, .int x1), (2, .int x2), (3, .int x3), (4, .int x4), (5, .int x5)]) hx hb dX5_copy_110 hl (by decide) rfl (fun ls hl => ?_)
              refine lv_iload hx hb dX5_copy_112 (lv_at hl 0 rfl) ?_
              refine lv_if_eq (tgt := 144) hx hb dX5_copy_114 (by decide) (fun _ => ?_) (fun c => absurd (by decide) c)
              refine lv_aload_n hx hb dX5_copy_144 rfl (lv_at hl 1 rfl) ?_
              refine lv_iconst (v := (3 : Int32)) hx hb dX5_copy_145 (by decide) ?_
              obtain ⟨r_146, s_146, e_146, h⟩ := ob2_of h
              refine k_goI (k_runV (As := [.int (3 : Int32)]) (rest := []) S hK hP (k_X5_fails l hAd e_146) cy_X5_fails wd_748 rfl mO rfl hl.1 rfl (Nat.le_of_ble_eq_true rfl) dX5_copy_146 ⟨Nat.le_of_ble_eq_true rfl, Nat.le_of_ble_eq_true rfl⟩ ⟨Nat.zero_le _, Nat.zero_le _⟩) hS (fun _ h => h) (fun H locs hP hS _ _ => ?_)
              obtain ⟨rfl, rfl⟩ := some_pair h
              exact k_iret S hr hlocks hP hS rfl dX5_copy_149
            · replace h := ite_f c_71 h
              refine lv_iload hx hb dX5_copy_74 (lv_at hl 4 rfl) ?_
              refine lv_if_lt (tgt := 109) hx hb dX5_copy_76 (by decide) (fun c_76 => ?_) (fun c_76 => ?_)
              · replace h := ite_t c_76 h
                refine lv_iconst (v := (0 : Int32)) hx hb dX5_copy_109 (by decide) ?_
                refine lv_istore (lv' := [(6, .int (0 : Int32)), (0, .ref (am 0)), (1, .int x1), (2, .int x2), (3, .int x3), (4, .int x4), (5, .int x5)]) hx hb dX5_copy_110 hl (by decide) rfl (fun ls hl => ?_)
                refine lv_iload hx hb dX5_copy_112 (lv_at hl 0 rfl) ?_
                refine lv_if_eq (tgt := 144) hx hb dX5_copy_114 (by decide) (fun _ => ?_) (fun c => absurd (by decide) c)
                refine lv_aload_n hx hb dX5_copy_144 rfl (lv_at hl 1 rfl) ?_
                refine lv_iconst (v := (3 : Int32)) hx hb dX5_copy_145 (by decide) ?_
                obtain ⟨r_146, s_146, e_146, h⟩ := ob2_of h
                refine k_goI (k_runV (As := [.int (3 : Int32)]) (rest := []) S hK hP (k_X5_fails l hAd e_146) cy_X5_fails wd_748 rfl mO rfl hl.1 rfl (Nat.le_of_ble_eq_true rfl) dX5_copy_146 ⟨Nat.le_of_ble_eq_true rfl, Nat.le_of_ble_eq_true rfl⟩ ⟨Nat.zero_le _, Nat.zero_le _⟩) hS (fun _ h => h) (fun H locs hP hS _ _ => ?_)
                obtain ⟨rfl, rfl⟩ := some_pair h
                exact k_iret S hr hlocks hP hS rfl dX5_copy_149
              · replace h := ite_f c_76 h
                refine lv_iload hx hb dX5_copy_79 (lv_at hl 5 rfl) ?_
                refine lv_if_lt (tgt := 109) hx hb dX5_copy_81 (by decide) (fun c_81 => ?_) (fun c_81 => ?_)
                · replace h := ite_t c_81 h
                  refine lv_iconst (v := (0 : Int32)) hx hb dX5_copy_109 (by decide) ?_
                  refine lv_istore (lv' := [(6, .int (0 : Int32)), (0, .ref (am 0)), (1, .int x1), (2, .int x2), (3, .int x3), (4, .int x4), (5, .int x5)]) hx hb dX5_copy_110 hl (by decide) rfl (fun ls hl => ?_)
                  refine lv_iload hx hb dX5_copy_112 (lv_at hl 0 rfl) ?_
                  refine lv_if_eq (tgt := 144) hx hb dX5_copy_114 (by decide) (fun _ => ?_) (fun c => absurd (by decide) c)
                  refine lv_aload_n hx hb dX5_copy_144 rfl (lv_at hl 1 rfl) ?_
                  refine lv_iconst (v := (3 : Int32)) hx hb dX5_copy_145 (by decide) ?_
                  obtain ⟨r_146, s_146, e_146, h⟩ := ob2_of h
                  refine k_goI (k_runV (As := [.int (3 : Int32)]) (rest := []) S hK hP (k_X5_fails l hAd e_146) cy_X5_fails wd_748 rfl mO rfl hl.1 rfl (Nat.le_of_ble_eq_true rfl) dX5_copy_146 ⟨Nat.le_of_ble_eq_true rfl, Nat.le_of_ble_eq_true rfl⟩ ⟨Nat.zero_le _, Nat.zero_le _⟩) hS (fun _ h => h) (fun H locs hP hS _ _ => ?_)
                  obtain ⟨rfl, rfl⟩ := some_pair h
                  exact k_iret S hr hlocks hP hS rfl dX5_copy_149
                · replace h := ite_f c_81 h
                  refine lv_iload_n hx hb dX5_copy_84 rfl (lv_at hl 2 rfl) ?_
                  refine lv_aload_n hx hb dX5_copy_85 rfl (lv_at hl 0 rfl) ?_
                  refine gt_X5_13 S hK hP dX5_copy_86 ?_
                  refine lv_iload_n hx hb dX5_copy_89 rfl (lv_at hl 1 rfl) ?_
                  obtain ⟨hi_90, h⟩ := oin_of h
                  refine k_iald S hK hP mr2 hi_90 dX5_copy_90 ?_
                  refine lv_icmp_gt (tgt := 109) hx hb dX5_copy_91 (by decide) (fun c_91 => ?_) (fun c_91 => ?_)
                  · replace h := ite_t c_91 h
                    refine lv_iconst (v := (0 : Int32)) hx hb dX5_copy_109 (by decide) ?_
                    refine lv_istore (lv' := [(6, .int (0 : Int32)), (0, .ref (am 0)), (1, .int x1), (2, .int x2), (3, .int x3), (4, .int x4), (5, .int x5)]) hx hb dX5_copy_110 hl (by decide) rfl (fun ls hl => ?_)
                    refine lv_iload hx hb dX5_copy_112 (lv_at hl 0 rfl) ?_
                    refine lv_if_eq (tgt := 144) hx hb dX5_copy_114 (by decide) (fun _ => ?_) (fun c => absurd (by decide) c)
                    refine lv_aload_n hx hb dX5_copy_144 rfl (lv_at hl 1 rfl) ?_
                    refine lv_iconst (v := (3 : Int32)) hx hb dX5_copy_145 (by decide) ?_
                    obtain ⟨r_146, s_146, e_146, h⟩ := ob2_of h
                    refine k_goI (k_runV (As := [.int (3 : Int32)]) (rest := []) S hK hP (k_X5_fails l hAd e_146) cy_X5_fails wd_748 rfl mO rfl hl.1 rfl (Nat.le_of_ble_eq_true rfl) dX5_copy_146 ⟨Nat.le_of_ble_eq_true rfl, Nat.le_of_ble_eq_true rfl⟩ ⟨Nat.zero_le _, Nat.zero_le _⟩) hS (fun _ h => h) (fun H locs hP hS _ _ => ?_)
                    obtain ⟨rfl, rfl⟩ := some_pair h
                    exact k_iret S hr hlocks hP hS rfl dX5_copy_149
                  · replace h := ite_f c_91 h
                    refine lv_iload hx hb dX5_copy_94 (lv_at hl 4 rfl) ?_
                    refine lv_aload_n hx hb dX5_copy_96 rfl (lv_at hl 0 rfl) ?_
                    refine gt_X5_13 S hK hP dX5_copy_97 ?_
                    refine lv_iload_n hx hb dX5_copy_100 rfl (lv_at hl 3 rfl) ?_
                    obtain ⟨hi_101, h⟩ := oin_of h
                    refine k_iald S hK hP mr2 hi_101 dX5_copy_101 ?_
                    refine lv_icmp_gt (tgt := 109) hx hb dX5_copy_102 (by decide) (fun c_102 => ?_) (fun c_102 => ?_)
                    · replace h := ite_t c_102 h
                      refine lv_iconst (v := (0 : Int32)) hx hb dX5_copy_109 (by decide) ?_
                      refine lv_istore (lv' := [(6, .int (0 : Int32)), (0, .ref (am 0)), (1, .int x1), (2, .int x2), (3, .int x3), (4, .int x4), (5, .int x5)]) hx hb dX5_copy_110 hl (by decide) rfl (fun ls hl => ?_)
                      refine lv_iload hx hb dX5_copy_112 (lv_at hl 0 rfl) ?_
                      refine lv_if_eq (tgt := 144) hx hb dX5_copy_114 (by decide) (fun _ => ?_) (fun c => absurd (by decide) c)
                      refine lv_aload_n hx hb dX5_copy_144 rfl (lv_at hl 1 rfl) ?_
                      refine lv_iconst (v := (3 : Int32)) hx hb dX5_copy_145 (by decide) ?_
                      obtain ⟨r_146, s_146, e_146, h⟩ := ob2_of h
                      refine k_goI (k_runV (As := [.int (3 : Int32)]) (rest := []) S hK hP (k_X5_fails l hAd e_146) cy_X5_fails wd_748 rfl mO rfl hl.1 rfl (Nat.le_of_ble_eq_true rfl) dX5_copy_146 ⟨Nat.le_of_ble_eq_true rfl, Nat.le_of_ble_eq_true rfl⟩ ⟨Nat.zero_le _, Nat.zero_le _⟩) hS (fun _ h => h) (fun H locs hP hS _ _ => ?_)
                      obtain ⟨rfl, rfl⟩ := some_pair h
                      exact k_iret S hr hlocks hP hS rfl dX5_copy_149
                    · replace h := ite_f c_102 h
                      refine lv_iconst (v := (1 : Int32)) hx hb dX5_copy_105 (by decide) ?_
                      refine lv_goto (tgt := 110) hx hb dX5_copy_106 (by decide) ?_
                      refine lv_istore (lv' := [(6, .int (1 : Int32)), (0, .ref (am 0)), (1, .int x1), (2, .int x2), (3, .int x3), (4, .int x4), (5, .int x5)]) hx hb dX5_copy_110 hl (by decide) rfl (fun ls hl => ?_)
                      refine lv_iload hx hb dX5_copy_112 (lv_at hl 0 rfl) ?_
                      refine lv_if_eq (tgt := 144) hx hb dX5_copy_114 (by decide) (fun c => absurd c (by decide)) (fun _ => ?_)
                      refine lv_iload hx hb dX5_copy_117 (lv_at hl 6 rfl) ?_
                      refine lv_aload_n hx hb dX5_copy_119 rfl (lv_at hl 1 rfl) ?_
                      refine gt_X5_13 S hK hP dX5_copy_120 ?_
                      refine lv_iload_n hx hb dX5_copy_123 rfl (lv_at hl 2 rfl) ?_
                      obtain ⟨hi_124, h⟩ := oin_of h
                      refine k_iald S hK hP mr2 hi_124 dX5_copy_124 ?_
                      refine lv_iload_n hx hb dX5_copy_125 rfl (lv_at hl 3 rfl) ?_
                      refine lv_isub hx hb dX5_copy_126 ?_
                      refine lv_icmp_gt (tgt := 144) hx hb dX5_copy_127 (by decide) (fun c_127 => ?_) (fun c_127 => ?_)
                      · replace h := ite_t c_127 h
                        refine lv_aload_n hx hb dX5_copy_144 rfl (lv_at hl 1 rfl) ?_
                        refine lv_iconst (v := (3 : Int32)) hx hb dX5_copy_145 (by decide) ?_
                        obtain ⟨r_146, s_146, e_146, h⟩ := ob2_of h
                        refine k_goI (k_runV (As := [.int (3 : Int32)]) (rest := []) S hK hP (k_X5_fails l hAd e_146) cy_X5_fails wd_748 rfl mO rfl hl.1 rfl (Nat.le_of_ble_eq_true rfl) dX5_copy_146 ⟨Nat.le_of_ble_eq_true rfl, Nat.le_of_ble_eq_true rfl⟩ ⟨Nat.zero_le _, Nat.zero_le _⟩) hS (fun _ h => h) (fun H locs hP hS _ _ => ?_)
                        obtain ⟨rfl, rfl⟩ := some_pair h
                        exact k_iret S hr hlocks hP hS rfl dX5_copy_149
                      · replace h := ite_f c_127 h
                        refine lv_iload hx hb dX5_copy_130 (lv_at hl 6 rfl) ?_
                        refine lv_aload_n hx hb dX5_copy_132 rfl (lv_at hl 1 rfl) ?_
                        refine gt_X5_13 S hK hP dX5_copy_133 ?_
                        refine lv_iload_n hx hb dX5_copy_136 rfl (lv_at hl 4 rfl) ?_
                        obtain ⟨hi_137, h⟩ := oin_of h
                        refine k_iald S hK hP mr2 hi_137 dX5_copy_137 ?_
                        refine lv_iload hx hb dX5_copy_138 (lv_at hl 5 rfl) ?_
                        refine lv_isub hx hb dX5_copy_140 ?_
                        refine lv_icmp_le (tgt := 150) hx hb dX5_copy_141 (by decide) (fun c_141 => ?_) (fun c_141 => ?_)
                        · replace h := ite_t c_141 h
                          refine lv_iload_n hx hb dX5_copy_150 rfl (lv_at hl 3 rfl) ?_
                          refine lv_iload hx hb dX5_copy_151 (lv_at hl 5 rfl) ?_
                          refine lv_icmp_ge (tgt := 160) hx hb dX5_copy_153 (by decide) (fun c_153 => ?_) (fun c_153 => ?_)
                          · replace h := ite_t c_153 h
                            refine lv_iconst (v := (0 : Int32)) hx hb dX5_copy_160 (by decide) ?_
                            refine lv_istore (lv' := [(7, .int (0 : Int32)), (6, .int (1 : Int32)), (0, .ref (am 0)), (1, .int x1), (2, .int x2), (3, .int x3), (4, .int x4), (5, .int x5)]) hx hb dX5_copy_161 hl (by decide) rfl (fun ls hl => ?_)
                            refine lv_iconst (v := (0 : Int32)) hx hb dX5_copy_163 (by decide) ?_
                            refine lv_istore (lv' := [(8, .int (0 : Int32)), (7, .int (0 : Int32)), (6, .int (1 : Int32)), (0, .ref (am 0)), (1, .int x1), (2, .int x2), (3, .int x3), (4, .int x4), (5, .int x5)]) hx hb dX5_copy_164 hl (by decide) rfl (fun ls hl => ?_)
                            exact loop166 100 (sF σ 0 0 (0 : Int32)) x1 x2 x3 x4 x5 (1 : Int32) (0 : Int32) (0 : Int32) _ _ _ h hP hS (lv_sub hl [3, 4, 5, 6, 7, 8, 2, 1, 0] rfl)
                          · replace h := ite_f c_153 h
                            refine lv_iconst (v := (1 : Int32)) hx hb dX5_copy_156 (by decide) ?_
                            refine lv_goto (tgt := 161) hx hb dX5_copy_157 (by decide) ?_
                            refine lv_istore (lv' := [(7, .int (1 : Int32)), (6, .int (1 : Int32)), (0, .ref (am 0)), (1, .int x1), (2, .int x2), (3, .int x3), (4, .int x4), (5, .int x5)]) hx hb dX5_copy_161 hl (by decide) rfl (fun ls hl => ?_)
                            refine lv_iconst (v := (0 : Int32)) hx hb dX5_copy_163 (by decide) ?_
                            refine lv_istore (lv' := [(8, .int (0 : Int32)), (7, .int (1 : Int32)), (6, .int (1 : Int32)), (0, .ref (am 0)), (1, .int x1), (2, .int x2), (3, .int x3), (4, .int x4), (5, .int x5)]) hx hb dX5_copy_164 hl (by decide) rfl (fun ls hl => ?_)
                            exact loop166 100 (sF σ 0 0 (0 : Int32)) x1 x2 x3 x4 x5 (1 : Int32) (1 : Int32) (0 : Int32) _ _ _ h hP hS (lv_sub hl [3, 4, 5, 6, 7, 8, 2, 1, 0] rfl)
                        · replace h := ite_f c_141 h
                          refine lv_aload_n hx hb dX5_copy_144 rfl (lv_at hl 1 rfl) ?_
                          refine lv_iconst (v := (3 : Int32)) hx hb dX5_copy_145 (by decide) ?_
                          obtain ⟨r_146, s_146, e_146, h⟩ := ob2_of h
                          refine k_goI (k_runV (As := [.int (3 : Int32)]) (rest := []) S hK hP (k_X5_fails l hAd e_146) cy_X5_fails wd_748 rfl mO rfl hl.1 rfl (Nat.le_of_ble_eq_true rfl) dX5_copy_146 ⟨Nat.le_of_ble_eq_true rfl, Nat.le_of_ble_eq_true rfl⟩ ⟨Nat.zero_le _, Nat.zero_le _⟩) hS (fun _ h => h) (fun H locs hP hS _ _ => ?_)
                          obtain ⟨rfl, rfl⟩ := some_pair h
                          exact k_iret S hr hlocks hP hS rfl dX5_copy_149
          · replace h := ite_f c_61 h
            refine lv_aload_n hx hb dX5_copy_64 rfl (lv_at hl 0 rfl) ?_
            refine lv_iconst (v := (2 : Int32)) hx hb dX5_copy_65 (by decide) ?_
            obtain ⟨r_66, s_66, e_66, h⟩ := ob2_of h
            refine k_goI (k_runV (As := [.int (2 : Int32)]) (rest := []) S hK hP (k_X5_fails l hAd e_66) cy_X5_fails wd_748 rfl mO rfl hl.1 rfl (Nat.le_of_ble_eq_true rfl) dX5_copy_66 ⟨Nat.le_of_ble_eq_true rfl, Nat.le_of_ble_eq_true rfl⟩ ⟨Nat.zero_le _, Nat.zero_le _⟩) hS (fun _ h => h) (fun H locs hP hS _ _ => ?_)
            obtain ⟨rfl, rfl⟩ := some_pair h
            exact k_iret S hr hlocks hP hS rfl dX5_copy_69
        · replace h := ite_t c_40 h
          refine lv_aload_n hx hb dX5_copy_43 rfl (lv_at hl 0 rfl) ?_
          refine lv_iconst (v := (1 : Int32)) hx hb dX5_copy_44 (by decide) ?_
          obtain ⟨r_45, s_45, e_45, h⟩ := ob2_of h
          refine k_goI (k_runV (As := [.int (1 : Int32)]) (rest := []) S hK hP (k_X5_fails l hAd e_45) cy_X5_fails wd_748 rfl mO rfl hl.1 rfl (Nat.le_of_ble_eq_true rfl) dX5_copy_45 ⟨Nat.le_of_ble_eq_true rfl, Nat.le_of_ble_eq_true rfl⟩ ⟨Nat.zero_le _, Nat.zero_le _⟩) hS (fun _ h => h) (fun H locs hP hS _ _ => ?_)
          obtain ⟨rfl, rfl⟩ := some_pair h
          exact k_iret S hr hlocks hP hS rfl dX5_copy_48
    · replace h := ite_t c_16 h
      refine lv_iconst (v := (-1 : Int32)) hx hb dX5_copy_19 (by decide) ?_
      obtain ⟨rfl, rfl⟩ := some_pair h
      exact k_iret S hr hlocks hP hS rfl dX5_copy_20
def f_X5_begins (σ : SX) (x1 : Int32) : Option (Unit × SX) := some ((), sF σ 0 1 (((31 : Int32) * (gF σ 0 1)) + x1))
set_option maxRecDepth 100000 in
set_option maxHeartbeats 4000000 in
theorem k_X5_begins (l : Launch) {D : va_G} {A : Nat → Prop} {cI cZ cS : ClassId} {am : Nat → Nat} (hAd : ∀ σ, va_D A (WM cI am σ)) {σ : SX} {x1 : Int32} {σ' : SX} {r : Unit} (h : f_X5_begins σ x1 = some (r, σ')) : Ct (QV D A (WM cI am (σ'))) l yX5_begins cX5_begins 2 none 0 0 D (tyS cI cZ cS) A [.ref (am 0), .int x1] (WM cI am σ) := by
  refine Ct.of (by decide +kernel) (Nat.le_of_ble_eq_true rfl) ?_
  intro p e s m below meth c ls S hK hr hlocks hP hS hl
  have hx := S.1
  have hb := S.2.1
  have hl : lv_has ls 2 [(0, .ref (am 0)), (1, .int x1)] := hl
  rw [f_X5_begins] at h
  refine lv_aload_n hx hb dX5_begins_0 rfl (lv_at hl 0 rfl) ?_
  refine lv_bipush (v := (31 : Int32)) hx hb dX5_begins_1 (by decide) ?_
  refine lv_aload_n hx hb dX5_begins_3 rfl (lv_at hl 0 rfl) ?_
  refine gt_X5_226 S hK hP dX5_begins_4 ?_
  refine lv_imul hx hb dX5_begins_7 ?_
  refine lv_iload_n hx hb dX5_begins_8 rfl (lv_at hl 1 rfl) ?_
  refine lv_iadd hx hb dX5_begins_9 ?_
  refine pt_X5_226 S hK hP (hAd _) hS dX5_begins_10 (fun H locs hP hS => ?_)
  obtain ⟨rfl, rfl⟩ := some_pair h
  exact k_vret S hr hlocks hP hS dX5_begins_13
def f_X5_tell (σ : SX) (x1 : Int32) : Option (Int32 × SX) := ob1 (f_X5_isSwearer σ x1) (fun r_2 => if r_2 = 0 then (some ((-1 : Int32), σ)) else (oin x1 4 (oin x1 4 (if (gR σ 5 x1.toNatClampNeg) = (1 : Int32) then (ob2 (f_X5_begins σ (2 : Int32)) (fun r_50 s_50 => ob2 (f_X5_begins s_50 (1 : Int32)) (fun r_55 s_55 => some ((gR σ 6 x1.toNatClampNeg) + (100 : Int32), s_55)))) else (if (gR σ 5 x1.toNatClampNeg) = (2 : Int32) then (ob2 (f_X5_begins σ (3 : Int32)) (fun r_65 s_65 => ob2 (f_X5_begins s_65 (2 : Int32)) (fun r_70 s_70 => ob2 (f_X5_begins s_70 (1 : Int32)) (fun r_75 s_75 => ob2 (f_X5_begins s_75 (1 : Int32)) (fun r_80 s_80 => some (((2 : Int32) * (gR σ 6 x1.toNatClampNeg)) + (100 : Int32), s_80)))))) else (ob2 (f_X5_begins σ (1 : Int32)) (fun r_92 s_92 => some (gR σ 6 x1.toNatClampNeg, s_92))))))))
set_option maxRecDepth 100000 in
set_option maxHeartbeats 4000000 in
theorem k_X5_tell (l : Launch) {D : va_G} {A : Nat → Prop} {cI cZ cS : ClassId} {am : Nat → Nat} (hAd : ∀ σ, va_D A (WM cI am σ)) {σ : SX} {x1 : Int32} {σ' : SX} {r : Int32} (h : f_X5_tell σ x1 = some (r, σ')) : Ct (QI D A r (WM cI am (σ'))) l yX5_tell cX5_tell 3 (some .int) 1 21 D (tyS cI cZ cS) A [.ref (am 0), .int x1] (WM cI am σ) := by
  refine Ct.of (by decide +kernel) (Nat.le_of_ble_eq_true rfl) ?_
  intro p e s m below meth c ls S hK hr hlocks hP hS hl
  have hx := S.1
  have hb := S.2.1
  have hl : lv_has ls 3 [(0, .ref (am 0)), (1, .int x1)] := hl
  rw [f_X5_tell] at h
  refine lv_aload_n hx hb dX5_tell_0 rfl (lv_at hl 0 rfl) ?_
  refine lv_iload_n hx hb dX5_tell_1 rfl (lv_at hl 1 rfl) ?_
  obtain ⟨r_2, e_2, h⟩ := ob1_of h
  refine k_goI (k_runV (As := [.int x1]) (rest := []) S hK hP (k_X5_isSwearer l hAd e_2) cy_X5_isSwearer wd_780 rfl mO rfl hl.1 rfl (Nat.le_of_ble_eq_true rfl) dX5_tell_2 ⟨Nat.le_of_ble_eq_true rfl, Nat.le_of_ble_eq_true rfl⟩ ⟨Nat.zero_le _, Nat.zero_le _⟩) hS (fun _ h => h) (fun H locs hP hS _ _ => ?_)
  refine lv_if_ne (tgt := 10) hx hb dX5_tell_5 (by decide) (fun c_5 => ?_) (fun c_5 => ?_)
  · replace h := ite_f c_5 h
    refine lv_aload_n hx hb dX5_tell_10 rfl (lv_at hl 0 rfl) ?_
    refine gt_X5_29 S hK hP dX5_tell_11 ?_
    refine lv_iload_n hx hb dX5_tell_14 rfl (lv_at hl 1 rfl) ?_
    obtain ⟨hi_15, h⟩ := oin_of h
    refine k_iald S hK hP mr6 hi_15 dX5_tell_15 ?_
    refine lv_istore_n (lv' := [(2, .int (gR σ 6 x1.toNatClampNeg)), (0, .ref (am 0)), (1, .int x1)]) hx hb dX5_tell_16 rfl hl (by decide) rfl (fun ls hl => ?_)
    refine lv_aload_n hx hb dX5_tell_17 rfl (lv_at hl 1 rfl) ?_
    refine gt_X5_26 S hK hP dX5_tell_18 ?_
    refine lv_iload_n hx hb dX5_tell_21 rfl (lv_at hl 2 rfl) ?_
    obtain ⟨hi_22, h⟩ := oin_of h
    refine k_iald S hK hP mr5 hi_22 dX5_tell_22 ?_
    by_cases c_23_0 : gR σ 5 x1.toNatClampNeg = (1 : Int32)
    · replace h := ite_t c_23_0 h
      refine lv_lookup (tgt := 48) hx hb dX5_tell_23 (by decide) (by rw [c_23_0] <;> rfl) (by decide) ?_
      refine lv_aload_n hx hb dX5_tell_48 rfl (lv_at hl 1 rfl) ?_
      refine lv_iconst (v := (2 : Int32)) hx hb dX5_tell_49 (by decide) ?_
      obtain ⟨r_50, s_50, e_50, h⟩ := ob2_of h
      refine k_goV (k_runV (As := [.int (2 : Int32)]) (rest := []) S hK hP (k_X5_begins l hAd e_50) cy_X5_begins wd_997 rfl mO rfl hl.1 rfl (Nat.le_of_ble_eq_true rfl) dX5_tell_50 ⟨Nat.le_of_ble_eq_true rfl, Nat.le_of_ble_eq_true rfl⟩ ⟨Nat.zero_le _, Nat.zero_le _⟩) hS (fun _ h => h) (fun H locs hP hS _ _ => ?_)
      refine lv_aload_n hx hb dX5_tell_53 rfl (lv_at hl 1 rfl) ?_
      refine lv_iconst (v := (1 : Int32)) hx hb dX5_tell_54 (by decide) ?_
      obtain ⟨r_55, s_55, e_55, h⟩ := ob2_of h
      refine k_goV (k_runV (As := [.int (1 : Int32)]) (rest := []) S hK hP (k_X5_begins l hAd e_55) cy_X5_begins wd_997 rfl mO rfl hl.1 rfl (Nat.le_of_ble_eq_true rfl) dX5_tell_55 ⟨Nat.le_of_ble_eq_true rfl, Nat.le_of_ble_eq_true rfl⟩ ⟨Nat.zero_le _, Nat.zero_le _⟩) hS (fun _ h => h) (fun H locs hP hS _ _ => ?_)
      refine lv_iload_n hx hb dX5_tell_58 rfl (lv_at hl 0 rfl) ?_
      refine lv_bipush (v := (100 : Int32)) hx hb dX5_tell_59 (by decide) ?_
      refine lv_iadd hx hb dX5_tell_61 ?_
      obtain ⟨rfl, rfl⟩ := some_pair h
      exact k_iret S hr hlocks hP hS rfl dX5_tell_62
    · replace h := ite_f c_23_0 h
      by_cases c_23_1 : gR σ 5 x1.toNatClampNeg = (2 : Int32)
      · replace h := ite_t c_23_1 h
        refine lv_lookup (tgt := 63) hx hb dX5_tell_23 (by decide) (by rw [c_23_1] <;> rfl) (by decide) ?_
        refine lv_aload_n hx hb dX5_tell_63 rfl (lv_at hl 1 rfl) ?_
        refine lv_iconst (v := (3 : Int32)) hx hb dX5_tell_64 (by decide) ?_
        obtain ⟨r_65, s_65, e_65, h⟩ := ob2_of h
        refine k_goV (k_runV (As := [.int (3 : Int32)]) (rest := []) S hK hP (k_X5_begins l hAd e_65) cy_X5_begins wd_997 rfl mO rfl hl.1 rfl (Nat.le_of_ble_eq_true rfl) dX5_tell_65 ⟨Nat.le_of_ble_eq_true rfl, Nat.le_of_ble_eq_true rfl⟩ ⟨Nat.zero_le _, Nat.zero_le _⟩) hS (fun _ h => h) (fun H locs hP hS _ _ => ?_)
        refine lv_aload_n hx hb dX5_tell_68 rfl (lv_at hl 1 rfl) ?_
        refine lv_iconst (v := (2 : Int32)) hx hb dX5_tell_69 (by decide) ?_
        obtain ⟨r_70, s_70, e_70, h⟩ := ob2_of h
        refine k_goV (k_runV (As := [.int (2 : Int32)]) (rest := []) S hK hP (k_X5_begins l hAd e_70) cy_X5_begins wd_997 rfl mO rfl hl.1 rfl (Nat.le_of_ble_eq_true rfl) dX5_tell_70 ⟨Nat.le_of_ble_eq_true rfl, Nat.le_of_ble_eq_true rfl⟩ ⟨Nat.zero_le _, Nat.zero_le _⟩) hS (fun _ h => h) (fun H locs hP hS _ _ => ?_)
        refine lv_aload_n hx hb dX5_tell_73 rfl (lv_at hl 1 rfl) ?_
        refine lv_iconst (v := (1 : Int32)) hx hb dX5_tell_74 (by decide) ?_
        obtain ⟨r_75, s_75, e_75, h⟩ := ob2_of h
        refine k_goV (k_runV (As := [.int (1 : Int32)]) (rest := []) S hK hP (k_X5_begins l hAd e_75) cy_X5_begins wd_997 rfl mO rfl hl.1 rfl (Nat.le_of_ble_eq_true rfl) dX5_tell_75 ⟨Nat.le_of_ble_eq_true rfl, Nat.le_of_ble_eq_true rfl⟩ ⟨Nat.zero_le _, Nat.zero_le _⟩) hS (fun _ h => h) (fun H locs hP hS _ _ => ?_)
        refine lv_aload_n hx hb dX5_tell_78 rfl (lv_at hl 1 rfl) ?_
        refine lv_iconst (v := (1 : Int32)) hx hb dX5_tell_79 (by decide) ?_
        obtain ⟨r_80, s_80, e_80, h⟩ := ob2_of h
        refine k_goV (k_runV (As := [.int (1 : Int32)]) (rest := []) S hK hP (k_X5_begins l hAd e_80) cy_X5_begins wd_997 rfl mO rfl hl.1 rfl (Nat.le_of_ble_eq_true rfl) dX5_tell_80 ⟨Nat.le_of_ble_eq_true rfl, Nat.le_of_ble_eq_true rfl⟩ ⟨Nat.zero_le _, Nat.zero_le _⟩) hS (fun _ h => h) (fun H locs hP hS _ _ => ?_)
        refine lv_iconst (v := (2 : Int32)) hx hb dX5_tell_83 (by decide) ?_
        refine lv_iload_n hx hb dX5_tell_84 rfl (lv_at hl 0 rfl) ?_
        refine lv_imul hx hb dX5_tell_85 ?_
        refine lv_bipush (v := (100 : Int32)) hx hb dX5_tell_86 (by decide) ?_
        refine lv_iadd hx hb dX5_tell_88 ?_
        obtain ⟨rfl, rfl⟩ := some_pair h
        exact k_iret S hr hlocks hP hS rfl dX5_tell_89
      · replace h := ite_f c_23_1 h
        refine lv_lookup (tgt := 90) (off := 67) hx hb dX5_tell_23 (by decide) ((lv_osw c_23_0 rfl).trans ((lv_osw c_23_1 rfl).trans (rfl))) (by decide) ?_
        refine lv_aload_n hx hb dX5_tell_90 rfl (lv_at hl 1 rfl) ?_
        refine lv_iconst (v := (1 : Int32)) hx hb dX5_tell_91 (by decide) ?_
        obtain ⟨r_92, s_92, e_92, h⟩ := ob2_of h
        refine k_goV (k_runV (As := [.int (1 : Int32)]) (rest := []) S hK hP (k_X5_begins l hAd e_92) cy_X5_begins wd_997 rfl mO rfl hl.1 rfl (Nat.le_of_ble_eq_true rfl) dX5_tell_92 ⟨Nat.le_of_ble_eq_true rfl, Nat.le_of_ble_eq_true rfl⟩ ⟨Nat.zero_le _, Nat.zero_le _⟩) hS (fun _ h => h) (fun H locs hP hS _ _ => ?_)
        refine lv_iload_n hx hb dX5_tell_95 rfl (lv_at hl 0 rfl) ?_
        obtain ⟨rfl, rfl⟩ := some_pair h
        exact k_iret S hr hlocks hP hS rfl dX5_tell_96
  · replace h := ite_t c_5 h
    refine lv_iconst (v := (-1 : Int32)) hx hb dX5_tell_8 (by decide) ?_
    obtain ⟨rfl, rfl⟩ := some_pair h
    exact k_iret S hr hlocks hP hS rfl dX5_tell_9
def f_X5_pinch (σ : SX) (x1 : Int32) : Option (Int32 × SX) := ob1 (f_X5_isSwearer σ x1) (fun r_2 => if r_2 = 0 then (some ((-1 : Int32), σ)) else (oin x1 4 (if (gR σ 5 x1.toNatClampNeg) = (2 : Int32) then (ob2 (f_X5_begins σ (5 : Int32)) (fun r_26 s_26 => oin x1 4 (if (gR s_26 5 x1.toNatClampNeg) = (2 : Int32) then (some ((80 : Int32), s_26)) else (ob1 (f_X5_swornBy s_26 x1) (fun r_46 => ob1 (f_X5_size r_46) (fun r_49 => some (r_49, s_26))))))) else (ob2 (f_X5_begins σ (4 : Int32)) (fun r_26 s_26 => oin x1 4 (if (gR s_26 5 x1.toNatClampNeg) = (2 : Int32) then (some ((80 : Int32), s_26)) else (ob1 (f_X5_swornBy s_26 x1) (fun r_46 => ob1 (f_X5_size r_46) (fun r_49 => some (r_49, s_26))))))))))
set_option maxRecDepth 100000 in
set_option maxHeartbeats 4000000 in
theorem k_X5_pinch (l : Launch) {D : va_G} {A : Nat → Prop} {cI cZ cS : ClassId} {am : Nat → Nat} (hAd : ∀ σ, va_D A (WM cI am σ)) {σ : SX} {x1 : Int32} {σ' : SX} {r : Int32} (h : f_X5_pinch σ x1 = some (r, σ')) : Ct (QI D A r (WM cI am (σ'))) l yX5_pinch cX5_pinch 2 (some .int) 1 23 D (tyS cI cZ cS) A [.ref (am 0), .int x1] (WM cI am σ) := by
  refine Ct.of (by decide +kernel) (Nat.le_of_ble_eq_true rfl) ?_
  intro p e s m below meth c ls S hK hr hlocks hP hS hl
  have hx := S.1
  have hb := S.2.1
  have hl : lv_has ls 2 [(0, .ref (am 0)), (1, .int x1)] := hl
  rw [f_X5_pinch] at h
  refine lv_aload_n hx hb dX5_pinch_0 rfl (lv_at hl 0 rfl) ?_
  refine lv_iload_n hx hb dX5_pinch_1 rfl (lv_at hl 1 rfl) ?_
  obtain ⟨r_2, e_2, h⟩ := ob1_of h
  refine k_goI (k_runV (As := [.int x1]) (rest := []) S hK hP (k_X5_isSwearer l hAd e_2) cy_X5_isSwearer wd_780 rfl mO rfl hl.1 rfl (Nat.le_of_ble_eq_true rfl) dX5_pinch_2 ⟨Nat.le_of_ble_eq_true rfl, Nat.le_of_ble_eq_true rfl⟩ ⟨Nat.zero_le _, Nat.zero_le _⟩) hS (fun _ h => h) (fun H locs hP hS _ _ => ?_)
  refine lv_if_ne (tgt := 10) hx hb dX5_pinch_5 (by decide) (fun c_5 => ?_) (fun c_5 => ?_)
  · replace h := ite_f c_5 h
    refine lv_aload_n hx hb dX5_pinch_10 rfl (lv_at hl 0 rfl) ?_
    refine lv_aload_n hx hb dX5_pinch_11 rfl (lv_at hl 0 rfl) ?_
    refine gt_X5_26 S hK hP dX5_pinch_12 ?_
    refine lv_iload_n hx hb dX5_pinch_15 rfl (lv_at hl 1 rfl) ?_
    obtain ⟨hi_16, h⟩ := oin_of h
    refine k_iald S hK hP mr5 hi_16 dX5_pinch_16 ?_
    refine lv_iconst (v := (2 : Int32)) hx hb dX5_pinch_17 (by decide) ?_
    refine lv_icmp_ne (tgt := 25) hx hb dX5_pinch_18 (by decide) (fun c_18 => ?_) (fun c_18 => ?_)
    · replace h := ite_f c_18 h
      refine lv_iconst (v := (4 : Int32)) hx hb dX5_pinch_25 (by decide) ?_
      obtain ⟨r_26, s_26, e_26, h⟩ := ob2_of h
      refine k_goV (k_runV (As := [.int (4 : Int32)]) (rest := []) S hK hP (k_X5_begins l hAd e_26) cy_X5_begins wd_997 rfl mO rfl hl.1 rfl (Nat.le_of_ble_eq_true rfl) dX5_pinch_26 ⟨Nat.le_of_ble_eq_true rfl, Nat.le_of_ble_eq_true rfl⟩ ⟨Nat.zero_le _, Nat.zero_le _⟩) hS (fun _ h => h) (fun H locs hP hS _ _ => ?_)
      refine lv_aload_n hx hb dX5_pinch_29 rfl (lv_at hl 0 rfl) ?_
      refine gt_X5_26 S hK hP dX5_pinch_30 ?_
      refine lv_iload_n hx hb dX5_pinch_33 rfl (lv_at hl 1 rfl) ?_
      obtain ⟨hi_34, h⟩ := oin_of h
      refine k_iald S hK hP mr5 hi_34 dX5_pinch_34 ?_
      refine lv_iconst (v := (2 : Int32)) hx hb dX5_pinch_35 (by decide) ?_
      refine lv_icmp_ne (tgt := 44) hx hb dX5_pinch_36 (by decide) (fun c_36 => ?_) (fun c_36 => ?_)
      · replace h := ite_f c_36 h
        refine lv_aload_n hx hb dX5_pinch_44 rfl (lv_at hl 0 rfl) ?_
        refine lv_iload_n hx hb dX5_pinch_45 rfl (lv_at hl 1 rfl) ?_
        obtain ⟨r_46, e_46, h⟩ := ob1_of h
        refine k_goI (k_runV (As := [.int x1]) (rest := []) S hK hP (k_X5_swornBy l hAd e_46) cy_X5_swornBy wd_800 rfl mO rfl hl.1 rfl (Nat.le_of_ble_eq_true rfl) dX5_pinch_46 ⟨Nat.le_of_ble_eq_true rfl, Nat.le_of_ble_eq_true rfl⟩ ⟨Nat.zero_le _, Nat.zero_le _⟩) hS (fun _ h => h) (fun H locs hP hS _ _ => ?_)
        obtain ⟨r_49, e_49, h⟩ := ob1_of h
        refine k_goI (k_runS (As := [.int r_46]) (rest := []) S hK hP (k_X5_size l  e_49) cy_X5_size wd_860 rfl hl.1 rfl (Nat.le_of_ble_eq_true rfl) dX5_pinch_49 ⟨Nat.le_of_ble_eq_true rfl, Nat.le_of_ble_eq_true rfl⟩ ⟨Nat.zero_le _, Nat.zero_le _⟩) hS (fun _ h => h) (fun H locs hP hS _ _ => ?_)
        obtain ⟨rfl, rfl⟩ := some_pair h
        exact k_iret S hr hlocks hP hS rfl dX5_pinch_52
      · replace h := ite_t c_36 h
        refine lv_bipush (v := (80 : Int32)) hx hb dX5_pinch_39 (by decide) ?_
        refine lv_goto (tgt := 52) hx hb dX5_pinch_41 (by decide) ?_
        obtain ⟨rfl, rfl⟩ := some_pair h
        exact k_iret S hr hlocks hP hS rfl dX5_pinch_52
    · replace h := ite_t c_18 h
      refine lv_iconst (v := (5 : Int32)) hx hb dX5_pinch_21 (by decide) ?_
      refine lv_goto (tgt := 26) hx hb dX5_pinch_22 (by decide) ?_
      obtain ⟨r_26, s_26, e_26, h⟩ := ob2_of h
      refine k_goV (k_runV (As := [.int (5 : Int32)]) (rest := []) S hK hP (k_X5_begins l hAd e_26) cy_X5_begins wd_997 rfl mO rfl hl.1 rfl (Nat.le_of_ble_eq_true rfl) dX5_pinch_26 ⟨Nat.le_of_ble_eq_true rfl, Nat.le_of_ble_eq_true rfl⟩ ⟨Nat.zero_le _, Nat.zero_le _⟩) hS (fun _ h => h) (fun H locs hP hS _ _ => ?_)
      refine lv_aload_n hx hb dX5_pinch_29 rfl (lv_at hl 0 rfl) ?_
      refine gt_X5_26 S hK hP dX5_pinch_30 ?_
      refine lv_iload_n hx hb dX5_pinch_33 rfl (lv_at hl 1 rfl) ?_
      obtain ⟨hi_34, h⟩ := oin_of h
      refine k_iald S hK hP mr5 hi_34 dX5_pinch_34 ?_
      refine lv_iconst (v := (2 : Int32)) hx hb dX5_pinch_35 (by decide) ?_
      refine lv_icmp_ne (tgt := 44) hx hb dX5_pinch_36 (by decide) (fun c_36 => ?_) (fun c_36 => ?_)
      · replace h := ite_f c_36 h
        refine lv_aload_n hx hb dX5_pinch_44 rfl (lv_at hl 0 rfl) ?_
        refine lv_iload_n hx hb dX5_pinch_45 rfl (lv_at hl 1 rfl) ?_
        obtain ⟨r_46, e_46, h⟩ := ob1_of h
        refine k_goI (k_runV (As := [.int x1]) (rest := []) S hK hP (k_X5_swornBy l hAd e_46) cy_X5_swornBy wd_800 rfl mO rfl hl.1 rfl (Nat.le_of_ble_eq_true rfl) dX5_pinch_46 ⟨Nat.le_of_ble_eq_true rfl, Nat.le_of_ble_eq_true rfl⟩ ⟨Nat.zero_le _, Nat.zero_le _⟩) hS (fun _ h => h) (fun H locs hP hS _ _ => ?_)
        obtain ⟨r_49, e_49, h⟩ := ob1_of h
        refine k_goI (k_runS (As := [.int r_46]) (rest := []) S hK hP (k_X5_size l  e_49) cy_X5_size wd_860 rfl hl.1 rfl (Nat.le_of_ble_eq_true rfl) dX5_pinch_49 ⟨Nat.le_of_ble_eq_true rfl, Nat.le_of_ble_eq_true rfl⟩ ⟨Nat.zero_le _, Nat.zero_le _⟩) hS (fun _ h => h) (fun H locs hP hS _ _ => ?_)
        obtain ⟨rfl, rfl⟩ := some_pair h
        exact k_iret S hr hlocks hP hS rfl dX5_pinch_52
      · replace h := ite_t c_36 h
        refine lv_bipush (v := (80 : Int32)) hx hb dX5_pinch_39 (by decide) ?_
        refine lv_goto (tgt := 52) hx hb dX5_pinch_41 (by decide) ?_
        obtain ⟨rfl, rfl⟩ := some_pair h
        exact k_iret S hr hlocks hP hS rfl dX5_pinch_52
  · replace h := ite_t c_5 h
    refine lv_iconst (v := (-1 : Int32)) hx hb dX5_pinch_8 (by decide) ?_
    obtain ⟨rfl, rfl⟩ := some_pair h
    exact k_iret S hr hlocks hP hS rfl dX5_pinch_9
def f_X5_as (σ : SX) (x1 : Int32) (x2 : Int32) : Option (Int32 × SX) := ob1 (f_X5_isSwearer (sF σ 0 0 (0 : Int32)) x1) (fun r_7 => if r_7 = 0 then (some ((-1 : Int32), sF σ 0 0 (0 : Int32))) else (ob1 (f_X5_within x2 (0 : Int32) (2 : Int32)) (fun r_18 => if r_18 = 0 then (some ((-2 : Int32), sF σ 0 0 (0 : Int32))) else (oin x1 4 (if (gR (sF σ 0 0 (0 : Int32)) 5 x1.toNatClampNeg) < x2 then (ob2 (f_X5_fails (sF σ 0 0 (0 : Int32)) (2 : Int32)) (fun r_43 s_43 => some (r_43, s_43))) else (some ((1 : Int32), sF σ 0 0 (0 : Int32))))))))
set_option maxRecDepth 100000 in
set_option maxHeartbeats 4000000 in
theorem k_X5_as (l : Launch) {D : va_G} {A : Nat → Prop} {cI cZ cS : ClassId} {am : Nat → Nat} (hAd : ∀ σ, va_D A (WM cI am σ)) {σ : SX} {x1 : Int32} {x2 : Int32} {σ' : SX} {r : Int32} (h : f_X5_as σ x1 x2 = some (r, σ')) : Ct (QI D A r (WM cI am (σ'))) l yX5_as cX5_as 3 (some .int) 1 22 D (tyS cI cZ cS) A [.ref (am 0), .int x1, .int x2] (WM cI am σ) := by
  refine Ct.of (by decide +kernel) (Nat.le_of_ble_eq_true rfl) ?_
  intro p e s m below meth c ls S hK hr hlocks hP hS hl
  have hx := S.1
  have hb := S.2.1
  have hl : lv_has ls 3 [(0, .ref (am 0)), (1, .int x1), (2, .int x2)] := hl
  rw [f_X5_as] at h
  refine lv_aload_n hx hb dX5_as_0 rfl (lv_at hl 0 rfl) ?_
  refine lv_iconst (v := (0 : Int32)) hx hb dX5_as_1 (by decide) ?_
  refine pt_X5_62 S hK hP (hAd _) hS dX5_as_2 (fun H locs hP hS => ?_)
  refine lv_aload_n hx hb dX5_as_5 rfl (lv_at hl 0 rfl) ?_
  refine lv_iload_n hx hb dX5_as_6 rfl (lv_at hl 1 rfl) ?_
  obtain ⟨r_7, e_7, h⟩ := ob1_of h
  refine k_goI (k_runV (As := [.int x1]) (rest := []) S hK hP (k_X5_isSwearer l hAd e_7) cy_X5_isSwearer wd_780 rfl mO rfl hl.1 rfl (Nat.le_of_ble_eq_true rfl) dX5_as_7 ⟨Nat.le_of_ble_eq_true rfl, Nat.le_of_ble_eq_true rfl⟩ ⟨Nat.zero_le _, Nat.zero_le _⟩) hS (fun _ h => h) (fun H locs hP hS _ _ => ?_)
  refine lv_if_ne (tgt := 15) hx hb dX5_as_10 (by decide) (fun c_10 => ?_) (fun c_10 => ?_)
  · replace h := ite_f c_10 h
    refine lv_iload_n hx hb dX5_as_15 rfl (lv_at hl 2 rfl) ?_
    refine lv_iconst (v := (0 : Int32)) hx hb dX5_as_16 (by decide) ?_
    refine lv_iconst (v := (2 : Int32)) hx hb dX5_as_17 (by decide) ?_
    obtain ⟨r_18, e_18, h⟩ := ob1_of h
    refine k_goI (k_runS (As := [.int x2, .int (0 : Int32), .int (2 : Int32)]) (rest := []) S hK hP (k_X5_within l  e_18) cy_X5_within wd_738 rfl hl.1 rfl (Nat.le_of_ble_eq_true rfl) dX5_as_18 ⟨Nat.le_of_ble_eq_true rfl, Nat.le_of_ble_eq_true rfl⟩ ⟨Nat.zero_le _, Nat.zero_le _⟩) hS (fun _ h => h) (fun H locs hP hS _ _ => ?_)
    refine lv_if_ne (tgt := 27) hx hb dX5_as_21 (by decide) (fun c_21 => ?_) (fun c_21 => ?_)
    · replace h := ite_f c_21 h
      refine lv_aload_n hx hb dX5_as_27 rfl (lv_at hl 0 rfl) ?_
      refine gt_X5_26 S hK hP dX5_as_28 ?_
      refine lv_iload_n hx hb dX5_as_31 rfl (lv_at hl 1 rfl) ?_
      obtain ⟨hi_32, h⟩ := oin_of h
      refine k_iald S hK hP mr5 hi_32 dX5_as_32 ?_
      refine lv_iload_n hx hb dX5_as_33 rfl (lv_at hl 2 rfl) ?_
      refine lv_icmp_lt (tgt := 41) hx hb dX5_as_34 (by decide) (fun c_34 => ?_) (fun c_34 => ?_)
      · replace h := ite_t c_34 h
        refine lv_aload_n hx hb dX5_as_41 rfl (lv_at hl 0 rfl) ?_
        refine lv_iconst (v := (2 : Int32)) hx hb dX5_as_42 (by decide) ?_
        obtain ⟨r_43, s_43, e_43, h⟩ := ob2_of h
        refine k_goI (k_runV (As := [.int (2 : Int32)]) (rest := []) S hK hP (k_X5_fails l hAd e_43) cy_X5_fails wd_748 rfl mO rfl hl.1 rfl (Nat.le_of_ble_eq_true rfl) dX5_as_43 ⟨Nat.le_of_ble_eq_true rfl, Nat.le_of_ble_eq_true rfl⟩ ⟨Nat.zero_le _, Nat.zero_le _⟩) hS (fun _ h => h) (fun H locs hP hS _ _ => ?_)
        obtain ⟨rfl, rfl⟩ := some_pair h
        exact k_iret S hr hlocks hP hS rfl dX5_as_46
      · replace h := ite_f c_34 h
        refine lv_iconst (v := (1 : Int32)) hx hb dX5_as_37 (by decide) ?_
        refine lv_goto (tgt := 46) hx hb dX5_as_38 (by decide) ?_
        obtain ⟨rfl, rfl⟩ := some_pair h
        exact k_iret S hr hlocks hP hS rfl dX5_as_46
    · replace h := ite_t c_21 h
      refine lv_bipush (v := (-2 : Int32)) hx hb dX5_as_24 (by decide) ?_
      obtain ⟨rfl, rfl⟩ := some_pair h
      exact k_iret S hr hlocks hP hS rfl dX5_as_26
  · replace h := ite_t c_10 h
    refine lv_iconst (v := (-1 : Int32)) hx hb dX5_as_13 (by decide) ?_
    obtain ⟨rfl, rfl⟩ := some_pair h
    exact k_iret S hr hlocks hP hS rfl dX5_as_14
def f_X5_trace (σ : SX) : Option Int32 := some (gF σ 0 1)
set_option maxRecDepth 100000 in
set_option maxHeartbeats 4000000 in
theorem k_X5_trace (l : Launch) {D : va_G} {A : Nat → Prop} {cI cZ cS : ClassId} {am : Nat → Nat} (hAd : ∀ σ, va_D A (WM cI am σ)) {σ : SX} {r : Int32} (h : f_X5_trace σ = some r) : Ct (QI D A r (WM cI am σ)) l yX5_trace cX5_trace 1 (some .int) 0 0 D (tyS cI cZ cS) A [.ref (am 0)] (WM cI am σ) := by
  refine Ct.of (by decide +kernel) (Nat.le_of_ble_eq_true rfl) ?_
  intro p e s m below meth c ls S hK hr hlocks hP hS hl
  have hx := S.1
  have hb := S.2.1
  have hl : lv_has ls 1 [(0, .ref (am 0))] := hl
  rw [f_X5_trace] at h
  refine lv_aload_n hx hb dX5_trace_0 rfl (lv_at hl 0 rfl) ?_
  refine gt_X5_226 S hK hP dX5_trace_1 ?_
  exact k_iret S hr hlocks hP hS (Option.some.inj h) dX5_trace_4
def f_X5_fault (σ : SX) : Option Int32 := some (gF σ 0 0)
set_option maxRecDepth 100000 in
set_option maxHeartbeats 4000000 in
theorem k_X5_fault (l : Launch) {D : va_G} {A : Nat → Prop} {cI cZ cS : ClassId} {am : Nat → Nat} (hAd : ∀ σ, va_D A (WM cI am σ)) {σ : SX} {r : Int32} (h : f_X5_fault σ = some r) : Ct (QI D A r (WM cI am σ)) l yX5_fault cX5_fault 1 (some .int) 0 0 D (tyS cI cZ cS) A [.ref (am 0)] (WM cI am σ) := by
  refine Ct.of (by decide +kernel) (Nat.le_of_ble_eq_true rfl) ?_
  intro p e s m below meth c ls S hK hr hlocks hP hS hl
  have hx := S.1
  have hb := S.2.1
  have hl : lv_has ls 1 [(0, .ref (am 0))] := hl
  rw [f_X5_fault] at h
  refine lv_aload_n hx hb dX5_fault_0 rfl (lv_at hl 0 rfl) ?_
  refine gt_X5_62 S hK hP dX5_fault_1 ?_
  exact k_iret S hr hlocks hP hS (Option.some.inj h) dX5_fault_4
def f_X5_many (σ : SX) (x1 : Int32) : Option Int32 := if x1 = (0 : Int32) then (some (gF σ 0 5)) else (if x1 = (1 : Int32) then (some (gF σ 0 6)) else (if x1 = (2 : Int32) then (some (gF σ 0 7)) else (if x1 = (3 : Int32) then (ob1 (f_X5_whichBind σ) (fun r_52 => ob1 (f_X5_size r_52) (fun r_55 => some r_55))) else (if x1 = (4 : Int32) then (some (gF σ 0 24)) else (some (-2 : Int32))))))
set_option maxRecDepth 100000 in
set_option maxHeartbeats 4000000 in
theorem k_X5_many (l : Launch) {D : va_G} {A : Nat → Prop} {cI cZ cS : ClassId} {am : Nat → Nat} (hAd : ∀ σ, va_D A (WM cI am σ)) {σ : SX} {x1 : Int32} {r : Int32} (h : f_X5_many σ x1 = some r) : Ct (QI D A r (WM cI am σ)) l yX5_many cX5_many 2 (some .int) 5 108 D (tyS cI cZ cS) A [.ref (am 0), .int x1] (WM cI am σ) := by
  refine Ct.of (by decide +kernel) (Nat.le_of_ble_eq_true rfl) ?_
  intro p e s m below meth c ls S hK hr hlocks hP hS hl
  have hx := S.1
  have hb := S.2.1
  have hl : lv_has ls 2 [(0, .ref (am 0)), (1, .int x1)] := hl
  rw [f_X5_many] at h
  refine lv_iload_n hx hb dX5_many_0 rfl (lv_at hl 1 rfl) ?_
  by_cases c_1_0 : x1 = (0 : Int32)
  · replace h := ite_t c_1_0 h
    refine lv_tableIn (tgt := 36) hx hb dX5_many_1 (by rw [c_1_0]; decide) (by rw [c_1_0]; decide) (by rw [c_1_0] <;> rfl) (by decide) ?_
    refine lv_aload_n hx hb dX5_many_36 rfl (lv_at hl 0 rfl) ?_
    refine gt_X5_71 S hK hP dX5_many_37 ?_
    exact k_iret S hr hlocks hP hS (Option.some.inj h) dX5_many_40
  · replace h := ite_f c_1_0 h
    by_cases c_1_1 : x1 = (1 : Int32)
    · replace h := ite_t c_1_1 h
      refine lv_tableIn (tgt := 41) hx hb dX5_many_1 (by rw [c_1_1]; decide) (by rw [c_1_1]; decide) (by rw [c_1_1] <;> rfl) (by decide) ?_
      refine lv_aload_n hx hb dX5_many_41 rfl (lv_at hl 0 rfl) ?_
      refine gt_X5_74 S hK hP dX5_many_42 ?_
      exact k_iret S hr hlocks hP hS (Option.some.inj h) dX5_many_45
    · replace h := ite_f c_1_1 h
      by_cases c_1_2 : x1 = (2 : Int32)
      · replace h := ite_t c_1_2 h
        refine lv_tableIn (tgt := 46) hx hb dX5_many_1 (by rw [c_1_2]; decide) (by rw [c_1_2]; decide) (by rw [c_1_2] <;> rfl) (by decide) ?_
        refine lv_aload_n hx hb dX5_many_46 rfl (lv_at hl 0 rfl) ?_
        refine gt_X5_77 S hK hP dX5_many_47 ?_
        exact k_iret S hr hlocks hP hS (Option.some.inj h) dX5_many_50
      · replace h := ite_f c_1_2 h
        by_cases c_1_3 : x1 = (3 : Int32)
        · replace h := ite_t c_1_3 h
          refine lv_tableIn (tgt := 51) hx hb dX5_many_1 (by rw [c_1_3]; decide) (by rw [c_1_3]; decide) (by rw [c_1_3] <;> rfl) (by decide) ?_
          refine lv_aload_n hx hb dX5_many_51 rfl (lv_at hl 0 rfl) ?_
          obtain ⟨r_52, e_52, h⟩ := ob1_of h
          refine k_goI (k_runV (As := []) (rest := []) S hK hP (k_X5_whichBind l hAd e_52) cy_X5_whichBind wd_804 rfl mO rfl hl.1 rfl (Nat.le_of_ble_eq_true rfl) dX5_many_52 ⟨Nat.le_of_ble_eq_true rfl, Nat.le_of_ble_eq_true rfl⟩ ⟨Nat.zero_le _, Nat.zero_le _⟩) hS (fun _ h => h) (fun H locs hP hS _ _ => ?_)
          obtain ⟨r_55, e_55, h⟩ := ob1_of h
          refine k_goI (k_runS (As := [.int r_52]) (rest := []) S hK hP (k_X5_size l  e_55) cy_X5_size wd_860 rfl hl.1 rfl (Nat.le_of_ble_eq_true rfl) dX5_many_55 ⟨Nat.le_of_ble_eq_true rfl, Nat.le_of_ble_eq_true rfl⟩ ⟨Nat.zero_le _, Nat.zero_le _⟩) hS (fun _ h => h) (fun H locs hP hS _ _ => ?_)
          exact k_iret S hr hlocks hP hS (Option.some.inj h) dX5_many_58
        · replace h := ite_f c_1_3 h
          by_cases c_1_4 : x1 = (4 : Int32)
          · replace h := ite_t c_1_4 h
            refine lv_tableIn (tgt := 59) hx hb dX5_many_1 (by rw [c_1_4]; decide) (by rw [c_1_4]; decide) (by rw [c_1_4] <;> rfl) (by decide) ?_
            refine lv_aload_n hx hb dX5_many_59 rfl (lv_at hl 0 rfl) ?_
            refine gt_X5_116 S hK hP dX5_many_60 ?_
            exact k_iret S hr hlocks hP hS (Option.some.inj h) dX5_many_63
          · replace h := ite_f c_1_4 h
            have n_1_0 := lv_neT c_1_0 (a := 0) rfl
            have n_1_1 := lv_neT c_1_1 (a := 1) rfl
            have n_1_2 := lv_neT c_1_2 (a := 2) rfl
            have n_1_3 := lv_neT c_1_3 (a := 3) rfl
            have n_1_4 := lv_neT c_1_4 (a := 4) rfl
            refine lv_tableOut (tgt := 64) hx hb dX5_many_1 (by omega) (by decide) ?_
            refine lv_bipush (v := (-2 : Int32)) hx hb dX5_many_64 (by decide) ?_
            exact k_iret S hr hlocks hP hS (Option.some.inj h) dX5_many_66
