def f_X4_failed (σ : SX) (x1 : Int32) : Option (Int32 × SX) := some ((-10 : Int32) - x1, sF σ 0 6 x1)
set_option maxRecDepth 100000 in
set_option maxHeartbeats 4000000 in
theorem k_X4_failed (l : Launch) {D : va_G} {A : Nat → Prop} {cI cZ cS : ClassId} {ad : Nat → Nat} {ro : Option Nat} (hAd : ∀ ro σ, va_D A (WX cI cZ cS ad ro σ)) {σ : SX} {x1 : Int32} {σ' : SX} {r : Int32} (h : f_X4_failed σ x1 = some (r, σ')) : Ct (QI D A r (WX cI cZ cS ad ro (σ'))) l yX4_failed cX4_failed 2 (some .int) 0 0 D (tyS cI cZ cS) A [.ref (ad 0), .int x1] (WX cI cZ cS ad ro σ) := by
  refine Ct.of (by decide +kernel) (Nat.le_of_ble_eq_true rfl) ?_
  intro p e s m below meth c ls S hK hr hlocks hP hS hl
  have hx := S.1
  have hb := S.2.1
  have hl : lv_has ls 2 [(0, .ref (ad 0)), (1, .int x1)] := hl
  rw [f_X4_failed] at h
  refine lv_aload_n hx hb dX4_failed_0 rfl (lv_at hl 0 rfl) ?_
  refine lv_iload_n hx hb dX4_failed_1 rfl (lv_at hl 1 rfl) ?_
  refine pt_X4_42 S hK hP (hAd _ _) hS dX4_failed_2 (fun H locs hP hS => ?_)
  refine lv_bipush (v := (-10 : Int32)) hx hb dX4_failed_5 (by decide) ?_
  refine lv_iload_n hx hb dX4_failed_7 rfl (lv_at hl 1 rfl) ?_
  refine lv_isub hx hb dX4_failed_8 ?_
  obtain ⟨rfl, rfl⟩ := some_pair h
  exact k_iret S hr hlocks hP hS rfl dX4_failed_9
def f_X4_day (σ : SX) (x1 : Int32) (x2 : Int32) (x3 : Int32) (x4 : Int32) : Option (Int32 × SX) := ob1 (f_X4_isSheet x1) (fun r_6 => if r_6 = 0 then (some ((-1 : Int32), sF σ 0 6 (0 : Int32))) else (ob1 (f_X4_isLane x2) (fun r_15 => if r_15 = 0 then (some ((-2 : Int32), sF σ 0 6 (0 : Int32))) else (oin x1 4 (ob1 (f_X3_faultAs (sF σ 0 6 (0 : Int32)) (2 + 2 * x1.toNatClampNeg) x2) (fun r_35 => if r_35 = 0 then (if 0 ≤ x4 then (if r_35 = 0 then (ob1 (f_X3_hasCells (sF σ 0 6 (0 : Int32)) (2 + 2 * x1.toNatClampNeg) x3 x4) (fun r_63 => if r_63 = 0 then (ob2 (f_X4_failed (sF σ 0 6 (0 : Int32)) (3 : Int32)) (fun r_80 s_80 => some (r_80, s_80))) else (if r_35 = 0 then (ob2 (f_X1_open (sF σ 0 6 (0 : Int32)) (2 + 2 * x1.toNatClampNeg) x3 x4) (fun r_93 s_93 => ob2 (f_X1_reads s_93 (2 + 2 * x1.toNatClampNeg) 17) (fun r_104 s_104 => if r_104 = 0 then (some ((-100 : Int32) - (gF s_104 24 0), s_104)) else (ob2 (f_X0_become s_104 10 17) (fun r_129 s_129 => some (gF (sF s_129 25 0 (0 : Int32)) 10 1, sF s_129 25 0 (0 : Int32))))))) else (ob2 (f_X4_failed (sF σ 0 6 (0 : Int32)) r_35) (fun r_80 s_80 => some (r_80, s_80)))))) else (if r_35 = 0 then (ob2 (f_X1_open (sF σ 0 6 (0 : Int32)) (2 + 2 * x1.toNatClampNeg) x3 x4) (fun r_93 s_93 => ob2 (f_X1_reads s_93 (2 + 2 * x1.toNatClampNeg) 17) (fun r_104 s_104 => if r_104 = 0 then (some ((-100 : Int32) - (gF s_104 24 0), s_104)) else (ob2 (f_X0_become s_104 10 17) (fun r_129 s_129 => some (gF (sF s_129 25 0 (0 : Int32)) 10 1, sF s_129 25 0 (0 : Int32))))))) else (ob2 (f_X4_failed (sF σ 0 6 (0 : Int32)) r_35) (fun r_80 s_80 => some (r_80, s_80))))) else (ob2 (f_X4_failed (sF σ 0 6 (0 : Int32)) (4 : Int32)) (fun r_80 s_80 => some (r_80, s_80)))) else (if r_35 = 0 then (ob1 (f_X3_hasCells (sF σ 0 6 (0 : Int32)) (2 + 2 * x1.toNatClampNeg) x3 x4) (fun r_63 => if r_63 = 0 then (ob2 (f_X4_failed (sF σ 0 6 (0 : Int32)) (3 : Int32)) (fun r_80 s_80 => some (r_80, s_80))) else (if r_35 = 0 then (ob2 (f_X1_open (sF σ 0 6 (0 : Int32)) (2 + 2 * x1.toNatClampNeg) x3 x4) (fun r_93 s_93 => ob2 (f_X1_reads s_93 (2 + 2 * x1.toNatClampNeg) 17) (fun r_104 s_104 => if r_104 = 0 then (some ((-100 : Int32) - (gF s_104 24 0), s_104)) else (ob2 (f_X0_become s_104 10 17) (fun r_129 s_129 => some (gF (sF s_129 25 0 (0 : Int32)) 10 1, sF s_129 25 0 (0 : Int32))))))) else (ob2 (f_X4_failed (sF σ 0 6 (0 : Int32)) r_35) (fun r_80 s_80 => some (r_80, s_80)))))) else (if r_35 = 0 then (ob2 (f_X1_open (sF σ 0 6 (0 : Int32)) (2 + 2 * x1.toNatClampNeg) x3 x4) (fun r_93 s_93 => ob2 (f_X1_reads s_93 (2 + 2 * x1.toNatClampNeg) 17) (fun r_104 s_104 => if r_104 = 0 then (some ((-100 : Int32) - (gF s_104 24 0), s_104)) else (ob2 (f_X0_become s_104 10 17) (fun r_129 s_129 => some (gF (sF s_129 25 0 (0 : Int32)) 10 1, sF s_129 25 0 (0 : Int32))))))) else (ob2 (f_X4_failed (sF σ 0 6 (0 : Int32)) r_35) (fun r_80 s_80 => some (r_80, s_80)))))))))))
set_option maxRecDepth 100000 in
set_option maxHeartbeats 4000000 in
theorem k_X4_day (l : Launch) {D : va_G} {A : Nat → Prop} {cI cZ cS : ClassId} {ad : Nat → Nat} {ro : Option Nat} (hAd : ∀ ro σ, va_D A (WX cI cZ cS ad ro σ)) {σ : SX} {x1 : Int32} {x2 : Int32} {x3 : Int32} {x4 : Int32} {σ' : SX} {r : Int32} (h : f_X4_day σ x1 x2 x3 x4 = some (r, σ')) : Ct (QIo D A r cI cZ cS ad σ') l yX4_day cX4_day 7 (some .int) 6 128 D (tyS cI cZ cS) A [.ref (ad 0), .int x1, .int x2, .int x3, .int x4] (WX cI cZ cS ad ro σ) := by
  refine Ct.of (by decide +kernel) (Nat.le_of_ble_eq_true rfl) ?_
  intro p e s m below meth c ls S hK hr hlocks hP hS hl
  have hx := S.1
  have hb := S.2.1
  have hl : lv_has ls 7 [(0, .ref (ad 0)), (1, .int x1), (2, .int x2), (3, .int x3), (4, .int x4)] := hl
  rw [f_X4_day] at h
  refine lv_aload_n hx hb dX4_day_0 rfl (lv_at hl 0 rfl) ?_
  refine lv_iconst (v := (0 : Int32)) hx hb dX4_day_1 (by decide) ?_
  refine pt_X4_42 S hK hP (hAd _ _) hS dX4_day_2 (fun H locs hP hS => ?_)
  refine lv_iload_n hx hb dX4_day_5 rfl (lv_at hl 1 rfl) ?_
  obtain ⟨r_6, e_6, h⟩ := ob1_of h
  refine k_goI (k_runS (As := [.int x1]) (rest := []) S hK hP (k_X4_isSheet l  e_6) cy_X4_isSheet wd_222 rfl hl.1 rfl (Nat.le_of_ble_eq_true rfl) dX4_day_6 ⟨Nat.le_of_ble_eq_true rfl, Nat.le_of_ble_eq_true rfl⟩ ⟨Nat.zero_le _, Nat.zero_le _⟩) hS (fun _ h => h) (fun H locs hP hS _ _ => ?_)
  refine lv_if_ne (tgt := 14) hx hb dX4_day_9 (by decide) (fun c_9 => ?_) (fun c_9 => ?_)
  · replace h := ite_f c_9 h
    refine lv_iload_n hx hb dX4_day_14 rfl (lv_at hl 2 rfl) ?_
    obtain ⟨r_15, e_15, h⟩ := ob1_of h
    refine k_goI (k_runS (As := [.int x2]) (rest := []) S hK hP (k_X4_isLane l  e_15) cy_X4_isLane wd_225 rfl hl.1 rfl (Nat.le_of_ble_eq_true rfl) dX4_day_15 ⟨Nat.le_of_ble_eq_true rfl, Nat.le_of_ble_eq_true rfl⟩ ⟨Nat.zero_le _, Nat.zero_le _⟩) hS (fun _ h => h) (fun H locs hP hS _ _ => ?_)
    refine lv_if_ne (tgt := 24) hx hb dX4_day_18 (by decide) (fun c_18 => ?_) (fun c_18 => ?_)
    · replace h := ite_f c_18 h
      refine lv_aload_n hx hb dX4_day_24 rfl (lv_at hl 0 rfl) ?_
      refine gt_X4_13 S hK hP dX4_day_25 ?_
      refine lv_iload_n hx hb dX4_day_28 rfl (lv_at hl 1 rfl) ?_
      obtain ⟨hi_29, h⟩ := oin_of h
      refine k_aald S hK hP xA hi_29 rfl dX4_day_29 ?_
      refine lv_astore (lv' := [(5, .ref (ad (2 + 2 * x1.toNatClampNeg))), (0, .ref (ad 0)), (1, .int x1), (2, .int x2), (3, .int x3), (4, .int x4)]) hx hb dX4_day_30 hl (by decide) rfl (fun ls hl => ?_)
      refine lv_aload hx hb dX4_day_32 (lv_at hl 0 rfl) ?_
      refine lv_iload_n hx hb dX4_day_34 rfl (lv_at hl 3 rfl) ?_
      obtain ⟨r_35, e_35, h⟩ := ob1_of h
      refine k_goI (k_runV (As := [.int x2]) (rest := []) S hK hP (k_X3_faultAs l hAd (isSh_of hi_29) e_35) cy_X3_faultAs wd_228 rfl (xS (isSh_of hi_29)) rfl hl.1 rfl (Nat.le_of_ble_eq_true rfl) dX4_day_35 ⟨Nat.le_of_ble_eq_true rfl, Nat.le_of_ble_eq_true rfl⟩ ⟨Nat.zero_le _, Nat.zero_le _⟩) hS (fun _ h => h) (fun H locs hP hS _ _ => ?_)
      refine lv_istore (lv' := [(6, .int r_35), (5, .ref (ad (2 + 2 * x1.toNatClampNeg))), (0, .ref (ad 0)), (1, .int x1), (2, .int x2), (3, .int x3), (4, .int x4)]) hx hb dX4_day_38 hl (by decide) rfl (fun ls hl => ?_)
      refine lv_iload hx hb dX4_day_40 (lv_at hl 0 rfl) ?_
      refine lv_if_ne (tgt := 53) hx hb dX4_day_42 (by decide) (fun c_42 => ?_) (fun c_42 => ?_)
      · replace h := ite_f c_42 h
        refine lv_iload hx hb dX4_day_53 (lv_at hl 0 rfl) ?_
        refine lv_if_ne (tgt := 72) hx hb dX4_day_55 (by decide) (fun c_55 => ?_) (fun c_55 => ?_)
        · replace h := ite_f c_55 h
          refine lv_iload hx hb dX4_day_72 (lv_at hl 0 rfl) ?_
          refine lv_if_eq (tgt := 84) hx hb dX4_day_74 (by decide) (fun c_74 => ?_) (fun c_74 => ?_)
          · replace h := ite_t c_74 h
            refine lv_aload_n hx hb dX4_day_84 rfl (lv_at hl 2 rfl) ?_
            refine gt_X4_31 S hK hP dX4_day_85 ?_
            refine lv_aload hx hb dX4_day_88 (lv_at hl 1 rfl) ?_
            refine lv_iload_n hx hb dX4_day_90 rfl (lv_at hl 5 rfl) ?_
            refine lv_iload hx hb dX4_day_91 (lv_at hl 6 rfl) ?_
            obtain ⟨r_93, s_93, e_93, h⟩ := ob2_of h
            refine k_goV (k_runV (As := [.ref (ad (2 + 2 * x1.toNatClampNeg)), .int x3, .int x4]) (rest := []) S hK hP (k_X1_open l hAd (isSh_of hi_29) e_93) cy_X1_open wd_240 rfl xR rfl hl.1 rfl (Nat.le_of_ble_eq_true rfl) dX4_day_93 ⟨Nat.le_of_ble_eq_true rfl, Nat.le_of_ble_eq_true rfl⟩ ⟨Nat.zero_le _, Nat.zero_le _⟩) hS (fun _ h => h) (fun H locs hP hS _ _ => ?_)
            refine lv_aload_n hx hb dX4_day_96 rfl (lv_at hl 2 rfl) ?_
            refine gt_X4_31 S hK hP dX4_day_97 ?_
            refine lv_aload_n hx hb dX4_day_100 rfl (lv_at hl 2 rfl) ?_
            refine gt_X4_25 S hK hP dX4_day_101 ?_
            obtain ⟨r_104, s_104, e_104, h⟩ := ob2_of h
            refine k_goI (k_runV (As := [.ref (ad 17)]) (rest := []) S hK hP (k_X1_reads l hAd (isSh_of hi_29) isDy_draft e_104) cy_X1_reads wd_244 rfl xR rfl hl.1 rfl (Nat.le_of_ble_eq_true rfl) dX4_day_104 ⟨Nat.le_of_ble_eq_true rfl, Nat.le_of_ble_eq_true rfl⟩ ⟨Nat.zero_le _, Nat.zero_le _⟩) hS (fun _ h => h) (fun H locs hP hS _ _ => ?_)
            refine lv_if_ne (tgt := 121) hx hb dX4_day_107 (by decide) (fun c_107 => ?_) (fun c_107 => ?_)
            · replace h := ite_f c_107 h
              refine lv_aload_n hx hb dX4_day_121 rfl (lv_at hl 2 rfl) ?_
              refine gt_X4_21 S hK hP dX4_day_122 ?_
              refine lv_aload_n hx hb dX4_day_125 rfl (lv_at hl 2 rfl) ?_
              refine gt_X4_25 S hK hP dX4_day_126 ?_
              obtain ⟨r_129, s_129, e_129, h⟩ := ob2_of h
              refine k_goV (k_runV (As := [.ref (ad 17)]) (rest := []) S hK hP (k_X0_become l hAd isDy_now isDy_draft e_129) cy_X0_become wd_304 rfl (xD isDy_now) rfl hl.1 rfl (Nat.le_of_ble_eq_true rfl) dX4_day_129 ⟨Nat.le_of_ble_eq_true rfl, Nat.le_of_ble_eq_true rfl⟩ ⟨Nat.zero_le _, Nat.zero_le _⟩) hS (fun _ h => h) (fun H locs hP hS _ _ => ?_)
              refine lv_aload_n hx hb dX4_day_132 rfl (lv_at hl 2 rfl) ?_
              refine gt_X4_38 S hK hP dX4_day_133 ?_
              refine lv_iconst (v := (0 : Int32)) hx hb dX4_day_136 (by decide) ?_
              refine pt_X4_79 S hK hP (hAd _ _) hS dX4_day_137 (fun H locs hP hS => ?_)
              refine lv_aload_n hx hb dX4_day_140 rfl (lv_at hl 2 rfl) ?_
              refine gt_X4_21 S hK hP dX4_day_141 ?_
              refine gt_X4_82 S hK hP isDy_now dX4_day_144 ?_
              obtain ⟨rfl, rfl⟩ := some_pair h
              exact k_iretO S hr hlocks hP hS rfl dX4_day_147
            · replace h := ite_t c_107 h
              refine lv_bipush (v := (-100 : Int32)) hx hb dX4_day_110 (by decide) ?_
              refine lv_aload_n hx hb dX4_day_112 rfl (lv_at hl 2 rfl) ?_
              refine gt_X4_31 S hK hP dX4_day_113 ?_
              refine gt_X4_72 S hK hP dX4_day_116 ?_
              refine lv_isub hx hb dX4_day_119 ?_
              obtain ⟨rfl, rfl⟩ := some_pair h
              exact k_iretO S hr hlocks hP hS rfl dX4_day_120
          · replace h := ite_f c_74 h
            refine lv_aload_n hx hb dX4_day_77 rfl (lv_at hl 2 rfl) ?_
            refine lv_iload hx hb dX4_day_78 (lv_at hl 0 rfl) ?_
            obtain ⟨r_80, s_80, e_80, h⟩ := ob2_of h
            refine k_goI (k_runV (As := [.int r_35]) (rest := []) S hK hP (k_X4_failed l hAd e_80) cy_X4_failed wd_236 rfl xO rfl hl.1 rfl (Nat.le_of_ble_eq_true rfl) dX4_day_80 ⟨Nat.le_of_ble_eq_true rfl, Nat.le_of_ble_eq_true rfl⟩ ⟨Nat.zero_le _, Nat.zero_le _⟩) hS (fun _ h => h) (fun H locs hP hS _ _ => ?_)
            obtain ⟨rfl, rfl⟩ := some_pair h
            exact k_iretO S hr hlocks hP hS rfl dX4_day_83
        · replace h := ite_t c_55 h
          refine lv_aload hx hb dX4_day_58 (lv_at hl 1 rfl) ?_
          refine lv_iload_n hx hb dX4_day_60 rfl (lv_at hl 5 rfl) ?_
          refine lv_iload hx hb dX4_day_61 (lv_at hl 6 rfl) ?_
          obtain ⟨r_63, e_63, h⟩ := ob1_of h
          refine k_goI (k_runV (As := [.int x3, .int x4]) (rest := []) S hK hP (k_X3_hasCells l hAd (isSh_of hi_29) e_63) cy_X3_hasCells wd_232 rfl (xS (isSh_of hi_29)) rfl hl.1 rfl (Nat.le_of_ble_eq_true rfl) dX4_day_63 ⟨Nat.le_of_ble_eq_true rfl, Nat.le_of_ble_eq_true rfl⟩ ⟨Nat.zero_le _, Nat.zero_le _⟩) hS (fun _ h => h) (fun H locs hP hS _ _ => ?_)
          refine lv_if_ne (tgt := 72) hx hb dX4_day_66 (by decide) (fun c_66 => ?_) (fun c_66 => ?_)
          · replace h := ite_f c_66 h
            refine lv_iload hx hb dX4_day_72 (lv_at hl 0 rfl) ?_
            refine lv_if_eq (tgt := 84) hx hb dX4_day_74 (by decide) (fun c_74 => ?_) (fun c_74 => ?_)
            · replace h := ite_t c_74 h
              refine lv_aload_n hx hb dX4_day_84 rfl (lv_at hl 2 rfl) ?_
              refine gt_X4_31 S hK hP dX4_day_85 ?_
              refine lv_aload hx hb dX4_day_88 (lv_at hl 1 rfl) ?_
              refine lv_iload_n hx hb dX4_day_90 rfl (lv_at hl 5 rfl) ?_
              refine lv_iload hx hb dX4_day_91 (lv_at hl 6 rfl) ?_
              obtain ⟨r_93, s_93, e_93, h⟩ := ob2_of h
              refine k_goV (k_runV (As := [.ref (ad (2 + 2 * x1.toNatClampNeg)), .int x3, .int x4]) (rest := []) S hK hP (k_X1_open l hAd (isSh_of hi_29) e_93) cy_X1_open wd_240 rfl xR rfl hl.1 rfl (Nat.le_of_ble_eq_true rfl) dX4_day_93 ⟨Nat.le_of_ble_eq_true rfl, Nat.le_of_ble_eq_true rfl⟩ ⟨Nat.zero_le _, Nat.zero_le _⟩) hS (fun _ h => h) (fun H locs hP hS _ _ => ?_)
              refine lv_aload_n hx hb dX4_day_96 rfl (lv_at hl 2 rfl) ?_
              refine gt_X4_31 S hK hP dX4_day_97 ?_
              refine lv_aload_n hx hb dX4_day_100 rfl (lv_at hl 2 rfl) ?_
              refine gt_X4_25 S hK hP dX4_day_101 ?_
              obtain ⟨r_104, s_104, e_104, h⟩ := ob2_of h
              refine k_goI (k_runV (As := [.ref (ad 17)]) (rest := []) S hK hP (k_X1_reads l hAd (isSh_of hi_29) isDy_draft e_104) cy_X1_reads wd_244 rfl xR rfl hl.1 rfl (Nat.le_of_ble_eq_true rfl) dX4_day_104 ⟨Nat.le_of_ble_eq_true rfl, Nat.le_of_ble_eq_true rfl⟩ ⟨Nat.zero_le _, Nat.zero_le _⟩) hS (fun _ h => h) (fun H locs hP hS _ _ => ?_)
              refine lv_if_ne (tgt := 121) hx hb dX4_day_107 (by decide) (fun c_107 => ?_) (fun c_107 => ?_)
              · replace h := ite_f c_107 h
                refine lv_aload_n hx hb dX4_day_121 rfl (lv_at hl 2 rfl) ?_
                refine gt_X4_21 S hK hP dX4_day_122 ?_
                refine lv_aload_n hx hb dX4_day_125 rfl (lv_at hl 2 rfl) ?_
                refine gt_X4_25 S hK hP dX4_day_126 ?_
                obtain ⟨r_129, s_129, e_129, h⟩ := ob2_of h
                refine k_goV (k_runV (As := [.ref (ad 17)]) (rest := []) S hK hP (k_X0_become l hAd isDy_now isDy_draft e_129) cy_X0_become wd_304 rfl (xD isDy_now) rfl hl.1 rfl (Nat.le_of_ble_eq_true rfl) dX4_day_129 ⟨Nat.le_of_ble_eq_true rfl, Nat.le_of_ble_eq_true rfl⟩ ⟨Nat.zero_le _, Nat.zero_le _⟩) hS (fun _ h => h) (fun H locs hP hS _ _ => ?_)
                refine lv_aload_n hx hb dX4_day_132 rfl (lv_at hl 2 rfl) ?_
                refine gt_X4_38 S hK hP dX4_day_133 ?_
                refine lv_iconst (v := (0 : Int32)) hx hb dX4_day_136 (by decide) ?_
                refine pt_X4_79 S hK hP (hAd _ _) hS dX4_day_137 (fun H locs hP hS => ?_)
                refine lv_aload_n hx hb dX4_day_140 rfl (lv_at hl 2 rfl) ?_
                refine gt_X4_21 S hK hP dX4_day_141 ?_
                refine gt_X4_82 S hK hP isDy_now dX4_day_144 ?_
                obtain ⟨rfl, rfl⟩ := some_pair h
                exact k_iretO S hr hlocks hP hS rfl dX4_day_147
              · replace h := ite_t c_107 h
                refine lv_bipush (v := (-100 : Int32)) hx hb dX4_day_110 (by decide) ?_
                refine lv_aload_n hx hb dX4_day_112 rfl (lv_at hl 2 rfl) ?_
                refine gt_X4_31 S hK hP dX4_day_113 ?_
                refine gt_X4_72 S hK hP dX4_day_116 ?_
                refine lv_isub hx hb dX4_day_119 ?_
                obtain ⟨rfl, rfl⟩ := some_pair h
                exact k_iretO S hr hlocks hP hS rfl dX4_day_120
            · replace h := ite_f c_74 h
              refine lv_aload_n hx hb dX4_day_77 rfl (lv_at hl 2 rfl) ?_
              refine lv_iload hx hb dX4_day_78 (lv_at hl 0 rfl) ?_
              obtain ⟨r_80, s_80, e_80, h⟩ := ob2_of h
              refine k_goI (k_runV (As := [.int r_35]) (rest := []) S hK hP (k_X4_failed l hAd e_80) cy_X4_failed wd_236 rfl xO rfl hl.1 rfl (Nat.le_of_ble_eq_true rfl) dX4_day_80 ⟨Nat.le_of_ble_eq_true rfl, Nat.le_of_ble_eq_true rfl⟩ ⟨Nat.zero_le _, Nat.zero_le _⟩) hS (fun _ h => h) (fun H locs hP hS _ _ => ?_)
              obtain ⟨rfl, rfl⟩ := some_pair h
              exact k_iretO S hr hlocks hP hS rfl dX4_day_83
          · replace h := ite_t c_66 h
            refine lv_iconst (v := (3 : Int32)) hx hb dX4_day_69 (by decide) ?_
            refine lv_istore (lv' := [(6, .int (3 : Int32)), (5, .ref (ad (2 + 2 * x1.toNatClampNeg))), (0, .ref (ad 0)), (1, .int x1), (2, .int x2), (3, .int x3), (4, .int x4)]) hx hb dX4_day_70 hl (by decide) rfl (fun ls hl => ?_)
            refine lv_iload hx hb dX4_day_72 (lv_at hl 0 rfl) ?_
            refine lv_if_eq (tgt := 84) hx hb dX4_day_74 (by decide) (fun c => absurd c (by decide)) (fun _ => ?_)
            refine lv_aload_n hx hb dX4_day_77 rfl (lv_at hl 2 rfl) ?_
            refine lv_iload hx hb dX4_day_78 (lv_at hl 0 rfl) ?_
            obtain ⟨r_80, s_80, e_80, h⟩ := ob2_of h
            refine k_goI (k_runV (As := [.int (3 : Int32)]) (rest := []) S hK hP (k_X4_failed l hAd e_80) cy_X4_failed wd_236 rfl xO rfl hl.1 rfl (Nat.le_of_ble_eq_true rfl) dX4_day_80 ⟨Nat.le_of_ble_eq_true rfl, Nat.le_of_ble_eq_true rfl⟩ ⟨Nat.zero_le _, Nat.zero_le _⟩) hS (fun _ h => h) (fun H locs hP hS _ _ => ?_)
            obtain ⟨rfl, rfl⟩ := some_pair h
            exact k_iretO S hr hlocks hP hS rfl dX4_day_83
      · replace h := ite_t c_42 h
        refine lv_iload hx hb dX4_day_45 (lv_at hl 6 rfl) ?_
        refine lv_if_ge (tgt := 53) hx hb dX4_day_47 (by decide) (fun c_47 => ?_) (fun c_47 => ?_)
        · replace h := ite_t c_47 h
          refine lv_iload hx hb dX4_day_53 (lv_at hl 0 rfl) ?_
          refine lv_if_ne (tgt := 72) hx hb dX4_day_55 (by decide) (fun c_55 => ?_) (fun c_55 => ?_)
          · replace h := ite_f c_55 h
            refine lv_iload hx hb dX4_day_72 (lv_at hl 0 rfl) ?_
            refine lv_if_eq (tgt := 84) hx hb dX4_day_74 (by decide) (fun c_74 => ?_) (fun c_74 => ?_)
            · replace h := ite_t c_74 h
              refine lv_aload_n hx hb dX4_day_84 rfl (lv_at hl 2 rfl) ?_
              refine gt_X4_31 S hK hP dX4_day_85 ?_
              refine lv_aload hx hb dX4_day_88 (lv_at hl 1 rfl) ?_
              refine lv_iload_n hx hb dX4_day_90 rfl (lv_at hl 5 rfl) ?_
              refine lv_iload hx hb dX4_day_91 (lv_at hl 6 rfl) ?_
              obtain ⟨r_93, s_93, e_93, h⟩ := ob2_of h
              refine k_goV (k_runV (As := [.ref (ad (2 + 2 * x1.toNatClampNeg)), .int x3, .int x4]) (rest := []) S hK hP (k_X1_open l hAd (isSh_of hi_29) e_93) cy_X1_open wd_240 rfl xR rfl hl.1 rfl (Nat.le_of_ble_eq_true rfl) dX4_day_93 ⟨Nat.le_of_ble_eq_true rfl, Nat.le_of_ble_eq_true rfl⟩ ⟨Nat.zero_le _, Nat.zero_le _⟩) hS (fun _ h => h) (fun H locs hP hS _ _ => ?_)
              refine lv_aload_n hx hb dX4_day_96 rfl (lv_at hl 2 rfl) ?_
              refine gt_X4_31 S hK hP dX4_day_97 ?_
              refine lv_aload_n hx hb dX4_day_100 rfl (lv_at hl 2 rfl) ?_
              refine gt_X4_25 S hK hP dX4_day_101 ?_
              obtain ⟨r_104, s_104, e_104, h⟩ := ob2_of h
              refine k_goI (k_runV (As := [.ref (ad 17)]) (rest := []) S hK hP (k_X1_reads l hAd (isSh_of hi_29) isDy_draft e_104) cy_X1_reads wd_244 rfl xR rfl hl.1 rfl (Nat.le_of_ble_eq_true rfl) dX4_day_104 ⟨Nat.le_of_ble_eq_true rfl, Nat.le_of_ble_eq_true rfl⟩ ⟨Nat.zero_le _, Nat.zero_le _⟩) hS (fun _ h => h) (fun H locs hP hS _ _ => ?_)
              refine lv_if_ne (tgt := 121) hx hb dX4_day_107 (by decide) (fun c_107 => ?_) (fun c_107 => ?_)
              · replace h := ite_f c_107 h
                refine lv_aload_n hx hb dX4_day_121 rfl (lv_at hl 2 rfl) ?_
                refine gt_X4_21 S hK hP dX4_day_122 ?_
                refine lv_aload_n hx hb dX4_day_125 rfl (lv_at hl 2 rfl) ?_
                refine gt_X4_25 S hK hP dX4_day_126 ?_
                obtain ⟨r_129, s_129, e_129, h⟩ := ob2_of h
                refine k_goV (k_runV (As := [.ref (ad 17)]) (rest := []) S hK hP (k_X0_become l hAd isDy_now isDy_draft e_129) cy_X0_become wd_304 rfl (xD isDy_now) rfl hl.1 rfl (Nat.le_of_ble_eq_true rfl) dX4_day_129 ⟨Nat.le_of_ble_eq_true rfl, Nat.le_of_ble_eq_true rfl⟩ ⟨Nat.zero_le _, Nat.zero_le _⟩) hS (fun _ h => h) (fun H locs hP hS _ _ => ?_)
                refine lv_aload_n hx hb dX4_day_132 rfl (lv_at hl 2 rfl) ?_
                refine gt_X4_38 S hK hP dX4_day_133 ?_
                refine lv_iconst (v := (0 : Int32)) hx hb dX4_day_136 (by decide) ?_
                refine pt_X4_79 S hK hP (hAd _ _) hS dX4_day_137 (fun H locs hP hS => ?_)
                refine lv_aload_n hx hb dX4_day_140 rfl (lv_at hl 2 rfl) ?_
                refine gt_X4_21 S hK hP dX4_day_141 ?_
                refine gt_X4_82 S hK hP isDy_now dX4_day_144 ?_
                obtain ⟨rfl, rfl⟩ := some_pair h
                exact k_iretO S hr hlocks hP hS rfl dX4_day_147
              · replace h := ite_t c_107 h
                refine lv_bipush (v := (-100 : Int32)) hx hb dX4_day_110 (by decide) ?_
                refine lv_aload_n hx hb dX4_day_112 rfl (lv_at hl 2 rfl) ?_
                refine gt_X4_31 S hK hP dX4_day_113 ?_
                refine gt_X4_72 S hK hP dX4_day_116 ?_
                refine lv_isub hx hb dX4_day_119 ?_
                obtain ⟨rfl, rfl⟩ := some_pair h
                exact k_iretO S hr hlocks hP hS rfl dX4_day_120
            · replace h := ite_f c_74 h
              refine lv_aload_n hx hb dX4_day_77 rfl (lv_at hl 2 rfl) ?_
              refine lv_iload hx hb dX4_day_78 (lv_at hl 0 rfl) ?_
              obtain ⟨r_80, s_80, e_80, h⟩ := ob2_of h
              refine k_goI (k_runV (As := [.int r_35]) (rest := []) S hK hP (k_X4_failed l hAd e_80) cy_X4_failed wd_236 rfl xO rfl hl.1 rfl (Nat.le_of_ble_eq_true rfl) dX4_day_80 ⟨Nat.le_of_ble_eq_true rfl, Nat.le_of_ble_eq_true rfl⟩ ⟨Nat.zero_le _, Nat.zero_le _⟩) hS (fun _ h => h) (fun H locs hP hS _ _ => ?_)
              obtain ⟨rfl, rfl⟩ := some_pair h
              exact k_iretO S hr hlocks hP hS rfl dX4_day_83
          · replace h := ite_t c_55 h
            refine lv_aload hx hb dX4_day_58 (lv_at hl 1 rfl) ?_
            refine lv_iload_n hx hb dX4_day_60 rfl (lv_at hl 5 rfl) ?_
            refine lv_iload hx hb dX4_day_61 (lv_at hl 6 rfl) ?_
            obtain ⟨r_63, e_63, h⟩ := ob1_of h
            refine k_goI (k_runV (As := [.int x3, .int x4]) (rest := []) S hK hP (k_X3_hasCells l hAd (isSh_of hi_29) e_63) cy_X3_hasCells wd_232 rfl (xS (isSh_of hi_29)) rfl hl.1 rfl (Nat.le_of_ble_eq_true rfl) dX4_day_63 ⟨Nat.le_of_ble_eq_true rfl, Nat.le_of_ble_eq_true rfl⟩ ⟨Nat.zero_le _, Nat.zero_le _⟩) hS (fun _ h => h) (fun H locs hP hS _ _ => ?_)
            refine lv_if_ne (tgt := 72) hx hb dX4_day_66 (by decide) (fun c_66 => ?_) (fun c_66 => ?_)
            · replace h := ite_f c_66 h
              refine lv_iload hx hb dX4_day_72 (lv_at hl 0 rfl) ?_
              refine lv_if_eq (tgt := 84) hx hb dX4_day_74 (by decide) (fun c_74 => ?_) (fun c_74 => ?_)
              · replace h := ite_t c_74 h
                refine lv_aload_n hx hb dX4_day_84 rfl (lv_at hl 2 rfl) ?_
                refine gt_X4_31 S hK hP dX4_day_85 ?_
                refine lv_aload hx hb dX4_day_88 (lv_at hl 1 rfl) ?_
                refine lv_iload_n hx hb dX4_day_90 rfl (lv_at hl 5 rfl) ?_
                refine lv_iload hx hb dX4_day_91 (lv_at hl 6 rfl) ?_
                obtain ⟨r_93, s_93, e_93, h⟩ := ob2_of h
                refine k_goV (k_runV (As := [.ref (ad (2 + 2 * x1.toNatClampNeg)), .int x3, .int x4]) (rest := []) S hK hP (k_X1_open l hAd (isSh_of hi_29) e_93) cy_X1_open wd_240 rfl xR rfl hl.1 rfl (Nat.le_of_ble_eq_true rfl) dX4_day_93 ⟨Nat.le_of_ble_eq_true rfl, Nat.le_of_ble_eq_true rfl⟩ ⟨Nat.zero_le _, Nat.zero_le _⟩) hS (fun _ h => h) (fun H locs hP hS _ _ => ?_)
                refine lv_aload_n hx hb dX4_day_96 rfl (lv_at hl 2 rfl) ?_
                refine gt_X4_31 S hK hP dX4_day_97 ?_
                refine lv_aload_n hx hb dX4_day_100 rfl (lv_at hl 2 rfl) ?_
                refine gt_X4_25 S hK hP dX4_day_101 ?_
                obtain ⟨r_104, s_104, e_104, h⟩ := ob2_of h
                refine k_goI (k_runV (As := [.ref (ad 17)]) (rest := []) S hK hP (k_X1_reads l hAd (isSh_of hi_29) isDy_draft e_104) cy_X1_reads wd_244 rfl xR rfl hl.1 rfl (Nat.le_of_ble_eq_true rfl) dX4_day_104 ⟨Nat.le_of_ble_eq_true rfl, Nat.le_of_ble_eq_true rfl⟩ ⟨Nat.zero_le _, Nat.zero_le _⟩) hS (fun _ h => h) (fun H locs hP hS _ _ => ?_)
                refine lv_if_ne (tgt := 121) hx hb dX4_day_107 (by decide) (fun c_107 => ?_) (fun c_107 => ?_)
                · replace h := ite_f c_107 h
                  refine lv_aload_n hx hb dX4_day_121 rfl (lv_at hl 2 rfl) ?_
                  refine gt_X4_21 S hK hP dX4_day_122 ?_
                  refine lv_aload_n hx hb dX4_day_125 rfl (lv_at hl 2 rfl) ?_
                  refine gt_X4_25 S hK hP dX4_day_126 ?_
                  obtain ⟨r_129, s_129, e_129, h⟩ := ob2_of h
                  refine k_goV (k_runV (As := [.ref (ad 17)]) (rest := []) S hK hP (k_X0_become l hAd isDy_now isDy_draft e_129) cy_X0_become wd_304 rfl (xD isDy_now) rfl hl.1 rfl (Nat.le_of_ble_eq_true rfl) dX4_day_129 ⟨Nat.le_of_ble_eq_true rfl, Nat.le_of_ble_eq_true rfl⟩ ⟨Nat.zero_le _, Nat.zero_le _⟩) hS (fun _ h => h) (fun H locs hP hS _ _ => ?_)
                  refine lv_aload_n hx hb dX4_day_132 rfl (lv_at hl 2 rfl) ?_
                  refine gt_X4_38 S hK hP dX4_day_133 ?_
                  refine lv_iconst (v := (0 : Int32)) hx hb dX4_day_136 (by decide) ?_
                  refine pt_X4_79 S hK hP (hAd _ _) hS dX4_day_137 (fun H locs hP hS => ?_)
                  refine lv_aload_n hx hb dX4_day_140 rfl (lv_at hl 2 rfl) ?_
                  refine gt_X4_21 S hK hP dX4_day_141 ?_
                  refine gt_X4_82 S hK hP isDy_now dX4_day_144 ?_
                  obtain ⟨rfl, rfl⟩ := some_pair h
                  exact k_iretO S hr hlocks hP hS rfl dX4_day_147
                · replace h := ite_t c_107 h
                  refine lv_bipush (v := (-100 : Int32)) hx hb dX4_day_110 (by decide) ?_
                  refine lv_aload_n hx hb dX4_day_112 rfl (lv_at hl 2 rfl) ?_
                  refine gt_X4_31 S hK hP dX4_day_113 ?_
                  refine gt_X4_72 S hK hP dX4_day_116 ?_
                  refine lv_isub hx hb dX4_day_119 ?_
                  obtain ⟨rfl, rfl⟩ := some_pair h
                  exact k_iretO S hr hlocks hP hS rfl dX4_day_120
              · replace h := ite_f c_74 h
                refine lv_aload_n hx hb dX4_day_77 rfl (lv_at hl 2 rfl) ?_
                refine lv_iload hx hb dX4_day_78 (lv_at hl 0 rfl) ?_
                obtain ⟨r_80, s_80, e_80, h⟩ := ob2_of h
                refine k_goI (k_runV (As := [.int r_35]) (rest := []) S hK hP (k_X4_failed l hAd e_80) cy_X4_failed wd_236 rfl xO rfl hl.1 rfl (Nat.le_of_ble_eq_true rfl) dX4_day_80 ⟨Nat.le_of_ble_eq_true rfl, Nat.le_of_ble_eq_true rfl⟩ ⟨Nat.zero_le _, Nat.zero_le _⟩) hS (fun _ h => h) (fun H locs hP hS _ _ => ?_)
                obtain ⟨rfl, rfl⟩ := some_pair h
                exact k_iretO S hr hlocks hP hS rfl dX4_day_83
            · replace h := ite_t c_66 h
              refine lv_iconst (v := (3 : Int32)) hx hb dX4_day_69 (by decide) ?_
              refine lv_istore (lv' := [(6, .int (3 : Int32)), (5, .ref (ad (2 + 2 * x1.toNatClampNeg))), (0, .ref (ad 0)), (1, .int x1), (2, .int x2), (3, .int x3), (4, .int x4)]) hx hb dX4_day_70 hl (by decide) rfl (fun ls hl => ?_)
              refine lv_iload hx hb dX4_day_72 (lv_at hl 0 rfl) ?_
              refine lv_if_eq (tgt := 84) hx hb dX4_day_74 (by decide) (fun c => absurd c (by decide)) (fun _ => ?_)
              refine lv_aload_n hx hb dX4_day_77 rfl (lv_at hl 2 rfl) ?_
              refine lv_iload hx hb dX4_day_78 (lv_at hl 0 rfl) ?_
              obtain ⟨r_80, s_80, e_80, h⟩ := ob2_of h
              refine k_goI (k_runV (As := [.int (3 : Int32)]) (rest := []) S hK hP (k_X4_failed l hAd e_80) cy_X4_failed wd_236 rfl xO rfl hl.1 rfl (Nat.le_of_ble_eq_true rfl) dX4_day_80 ⟨Nat.le_of_ble_eq_true rfl, Nat.le_of_ble_eq_true rfl⟩ ⟨Nat.zero_le _, Nat.zero_le _⟩) hS (fun _ h => h) (fun H locs hP hS _ _ => ?_)
              obtain ⟨rfl, rfl⟩ := some_pair h
              exact k_iretO S hr hlocks hP hS rfl dX4_day_83
        · replace h := ite_f c_47 h
          refine lv_iconst (v := (4 : Int32)) hx hb dX4_day_50 (by decide) ?_
          refine lv_istore (lv' := [(6, .int (4 : Int32)), (5, .ref (ad (2 + 2 * x1.toNatClampNeg))), (0, .ref (ad 0)), (1, .int x1), (2, .int x2), (3, .int x3), (4, .int x4)]) hx hb dX4_day_51 hl (by decide) rfl (fun ls hl => ?_)
          refine lv_iload hx hb dX4_day_53 (lv_at hl 0 rfl) ?_
          refine lv_if_ne (tgt := 72) hx hb dX4_day_55 (by decide) (fun _ => ?_) (fun c => absurd c (by decide))
          refine lv_iload hx hb dX4_day_72 (lv_at hl 0 rfl) ?_
          refine lv_if_eq (tgt := 84) hx hb dX4_day_74 (by decide) (fun c => absurd c (by decide)) (fun _ => ?_)
          refine lv_aload_n hx hb dX4_day_77 rfl (lv_at hl 2 rfl) ?_
          refine lv_iload hx hb dX4_day_78 (lv_at hl 0 rfl) ?_
          obtain ⟨r_80, s_80, e_80, h⟩ := ob2_of h
          refine k_goI (k_runV (As := [.int (4 : Int32)]) (rest := []) S hK hP (k_X4_failed l hAd e_80) cy_X4_failed wd_236 rfl xO rfl hl.1 rfl (Nat.le_of_ble_eq_true rfl) dX4_day_80 ⟨Nat.le_of_ble_eq_true rfl, Nat.le_of_ble_eq_true rfl⟩ ⟨Nat.zero_le _, Nat.zero_le _⟩) hS (fun _ h => h) (fun H locs hP hS _ _ => ?_)
          obtain ⟨rfl, rfl⟩ := some_pair h
          exact k_iretO S hr hlocks hP hS rfl dX4_day_83
    · replace h := ite_t c_18 h
      refine lv_bipush (v := (-2 : Int32)) hx hb dX4_day_21 (by decide) ?_
      obtain ⟨rfl, rfl⟩ := some_pair h
      exact k_iretO S hr hlocks hP hS rfl dX4_day_23
  · replace h := ite_t c_9 h
    refine lv_iconst (v := (-1 : Int32)) hx hb dX4_day_12 (by decide) ?_
    obtain ⟨rfl, rfl⟩ := some_pair h
    exact k_iretO S hr hlocks hP hS rfl dX4_day_13
def f_X4_ofSwearer (σ : SX) (x1 : Int32) (x2 : Int32) : Option Int32 := ob1 (f_X0_hasSwearer σ 10 x1) (fun r_5 => if r_5 = 0 then (some (-1 : Int32)) else (if x2 = (0 : Int32) then (oin x1 4 (some (gR σ (10 + 2) x1.toNatClampNeg))) else (if x2 = (1 : Int32) then (oin x1 4 (some (gR σ (10 + 3) x1.toNatClampNeg))) else (if x2 = (2 : Int32) then (ob1 (f_X0_warmth σ 10 x1) (fun r_77 => some r_77)) else (if x2 = (3 : Int32) then (ob1 (f_X0_coldHours σ 10 x1) (fun r_86 => some r_86)) else (if x2 = (4 : Int32) then (ob1 (f_X0_oathsBy σ 10 x1) (fun r_95 => some r_95)) else (if x2 = (5 : Int32) then (ob1 (f_X0_oathsBy σ 10 x1) (fun r_104 => ob1 (f_X0_bindingOaths σ 10) (fun r_111 => some (r_104 &&& r_111)))) else (some (-2 : Int32)))))))))
set_option maxRecDepth 100000 in
set_option maxHeartbeats 4000000 in
theorem k_X4_ofSwearer (l : Launch) {D : va_G} {A : Nat → Prop} {cI cZ cS : ClassId} {ad : Nat → Nat} {ro : Option Nat} (hAd : ∀ ro σ, va_D A (WX cI cZ cS ad ro σ)) {σ : SX} {x1 : Int32} {x2 : Int32} {r : Int32} (h : f_X4_ofSwearer σ x1 x2 = some r) : Ct (QI D A r (WX cI cZ cS ad ro σ)) l yX4_ofSwearer cX4_ofSwearer 3 (some .int) 4 89 D (tyS cI cZ cS) A [.ref (ad 0), .int x1, .int x2] (WX cI cZ cS ad ro σ) := by
  refine Ct.of (by decide +kernel) (Nat.le_of_ble_eq_true rfl) ?_
  intro p e s m below meth c ls S hK hr hlocks hP hS hl
  have hx := S.1
  have hb := S.2.1
  have hl : lv_has ls 3 [(0, .ref (ad 0)), (1, .int x1), (2, .int x2)] := hl
  rw [f_X4_ofSwearer] at h
  refine lv_aload_n hx hb dX4_ofSwearer_0 rfl (lv_at hl 0 rfl) ?_
  refine gt_X4_21 S hK hP dX4_ofSwearer_1 ?_
  refine lv_iload_n hx hb dX4_ofSwearer_4 rfl (lv_at hl 1 rfl) ?_
  obtain ⟨r_5, e_5, h⟩ := ob1_of h
  refine k_goI (k_runV (As := [.int x1]) (rest := []) S hK hP (k_X0_hasSwearer l hAd isDy_now e_5) cy_X0_hasSwearer wd_315 rfl (xD isDy_now) rfl hl.1 rfl (Nat.le_of_ble_eq_true rfl) dX4_ofSwearer_5 ⟨Nat.le_of_ble_eq_true rfl, Nat.le_of_ble_eq_true rfl⟩ ⟨Nat.zero_le _, Nat.zero_le _⟩) hS (fun _ h => h) (fun H locs hP hS _ _ => ?_)
  refine lv_if_ne (tgt := 13) hx hb dX4_ofSwearer_8 (by decide) (fun c_8 => ?_) (fun c_8 => ?_)
  · replace h := ite_f c_8 h
    refine lv_iload_n hx hb dX4_ofSwearer_13 rfl (lv_at hl 2 rfl) ?_
    by_cases c_14_0 : x2 = (0 : Int32)
    · replace h := ite_t c_14_0 h
      refine lv_tableIn (tgt := 52) hx hb dX4_ofSwearer_14 (by rw [c_14_0]; decide) (by rw [c_14_0]; decide) (by rw [c_14_0] <;> rfl) (by decide) ?_
      refine lv_aload_n hx hb dX4_ofSwearer_52 rfl (lv_at hl 0 rfl) ?_
      refine gt_X4_21 S hK hP dX4_ofSwearer_53 ?_
      refine gt_X4_88 S hK hP isDy_now dX4_ofSwearer_56 ?_
      refine lv_iload_n hx hb dX4_ofSwearer_59 rfl (lv_at hl 1 rfl) ?_
      obtain ⟨hi_60, h⟩ := oin_of h
      refine k_iald S hK hP (xDr2 isDy_now) hi_60 dX4_ofSwearer_60 ?_
      exact k_iret S hr hlocks hP hS (Option.some.inj h) dX4_ofSwearer_61
    · replace h := ite_f c_14_0 h
      by_cases c_14_1 : x2 = (1 : Int32)
      · replace h := ite_t c_14_1 h
        refine lv_tableIn (tgt := 62) hx hb dX4_ofSwearer_14 (by rw [c_14_1]; decide) (by rw [c_14_1]; decide) (by rw [c_14_1] <;> rfl) (by decide) ?_
        refine lv_aload_n hx hb dX4_ofSwearer_62 rfl (lv_at hl 0 rfl) ?_
        refine gt_X4_21 S hK hP dX4_ofSwearer_63 ?_
        refine gt_X4_92 S hK hP isDy_now dX4_ofSwearer_66 ?_
        refine lv_iload_n hx hb dX4_ofSwearer_69 rfl (lv_at hl 1 rfl) ?_
        obtain ⟨hi_70, h⟩ := oin_of h
        refine k_iald S hK hP (xDr3 isDy_now) hi_70 dX4_ofSwearer_70 ?_
        exact k_iret S hr hlocks hP hS (Option.some.inj h) dX4_ofSwearer_71
      · replace h := ite_f c_14_1 h
        by_cases c_14_2 : x2 = (2 : Int32)
        · replace h := ite_t c_14_2 h
          refine lv_tableIn (tgt := 72) hx hb dX4_ofSwearer_14 (by rw [c_14_2]; decide) (by rw [c_14_2]; decide) (by rw [c_14_2] <;> rfl) (by decide) ?_
          refine lv_aload_n hx hb dX4_ofSwearer_72 rfl (lv_at hl 0 rfl) ?_
          refine gt_X4_21 S hK hP dX4_ofSwearer_73 ?_
          refine lv_iload_n hx hb dX4_ofSwearer_76 rfl (lv_at hl 1 rfl) ?_
          obtain ⟨r_77, e_77, h⟩ := ob1_of h
          refine k_goI (k_runV (As := [.int x1]) (rest := []) S hK hP (k_X0_warmth l hAd isDy_now e_77) cy_X0_warmth wd_319 rfl (xD isDy_now) rfl hl.1 rfl (Nat.le_of_ble_eq_true rfl) dX4_ofSwearer_77 ⟨Nat.le_of_ble_eq_true rfl, Nat.le_of_ble_eq_true rfl⟩ ⟨Nat.zero_le _, Nat.zero_le _⟩) hS (fun _ h => h) (fun H locs hP hS _ _ => ?_)
          exact k_iret S hr hlocks hP hS (Option.some.inj h) dX4_ofSwearer_80
        · replace h := ite_f c_14_2 h
          by_cases c_14_3 : x2 = (3 : Int32)
          · replace h := ite_t c_14_3 h
            refine lv_tableIn (tgt := 81) hx hb dX4_ofSwearer_14 (by rw [c_14_3]; decide) (by rw [c_14_3]; decide) (by rw [c_14_3] <;> rfl) (by decide) ?_
            refine lv_aload_n hx hb dX4_ofSwearer_81 rfl (lv_at hl 0 rfl) ?_
            refine gt_X4_21 S hK hP dX4_ofSwearer_82 ?_
            refine lv_iload_n hx hb dX4_ofSwearer_85 rfl (lv_at hl 1 rfl) ?_
            obtain ⟨r_86, e_86, h⟩ := ob1_of h
            refine k_goI (k_runV (As := [.int x1]) (rest := []) S hK hP (k_X0_coldHours l hAd isDy_now e_86) cy_X0_coldHours wd_323 rfl (xD isDy_now) rfl hl.1 rfl (Nat.le_of_ble_eq_true rfl) dX4_ofSwearer_86 ⟨Nat.le_of_ble_eq_true rfl, Nat.le_of_ble_eq_true rfl⟩ ⟨Nat.zero_le _, Nat.zero_le _⟩) hS (fun _ h => h) (fun H locs hP hS _ _ => ?_)
            exact k_iret S hr hlocks hP hS (Option.some.inj h) dX4_ofSwearer_89
          · replace h := ite_f c_14_3 h
            by_cases c_14_4 : x2 = (4 : Int32)
            · replace h := ite_t c_14_4 h
              refine lv_tableIn (tgt := 90) hx hb dX4_ofSwearer_14 (by rw [c_14_4]; decide) (by rw [c_14_4]; decide) (by rw [c_14_4] <;> rfl) (by decide) ?_
              refine lv_aload_n hx hb dX4_ofSwearer_90 rfl (lv_at hl 0 rfl) ?_
              refine gt_X4_21 S hK hP dX4_ofSwearer_91 ?_
              refine lv_iload_n hx hb dX4_ofSwearer_94 rfl (lv_at hl 1 rfl) ?_
              obtain ⟨r_95, e_95, h⟩ := ob1_of h
              refine k_goI (k_runV (As := [.int x1]) (rest := []) S hK hP (k_X0_oathsBy l hAd isDy_now e_95) cy_X0_oathsBy wd_336 rfl (xD isDy_now) rfl hl.1 rfl (Nat.le_of_ble_eq_true rfl) dX4_ofSwearer_95 ⟨Nat.le_of_ble_eq_true rfl, Nat.le_of_ble_eq_true rfl⟩ ⟨Nat.zero_le _, Nat.zero_le _⟩) hS (fun _ h => h) (fun H locs hP hS _ _ => ?_)
              exact k_iret S hr hlocks hP hS (Option.some.inj h) dX4_ofSwearer_98
            · replace h := ite_f c_14_4 h
              by_cases c_14_5 : x2 = (5 : Int32)
              · replace h := ite_t c_14_5 h
                refine lv_tableIn (tgt := 99) hx hb dX4_ofSwearer_14 (by rw [c_14_5]; decide) (by rw [c_14_5]; decide) (by rw [c_14_5] <;> rfl) (by decide) ?_
                refine lv_aload_n hx hb dX4_ofSwearer_99 rfl (lv_at hl 0 rfl) ?_
                refine gt_X4_21 S hK hP dX4_ofSwearer_100 ?_
                refine lv_iload_n hx hb dX4_ofSwearer_103 rfl (lv_at hl 1 rfl) ?_
                obtain ⟨r_104, e_104, h⟩ := ob1_of h
                refine k_goI (k_runV (As := [.int x1]) (rest := []) S hK hP (k_X0_oathsBy l hAd isDy_now e_104) cy_X0_oathsBy wd_336 rfl (xD isDy_now) rfl hl.1 rfl (Nat.le_of_ble_eq_true rfl) dX4_ofSwearer_104 ⟨Nat.le_of_ble_eq_true rfl, Nat.le_of_ble_eq_true rfl⟩ ⟨Nat.zero_le _, Nat.zero_le _⟩) hS (fun _ h => h) (fun H locs hP hS _ _ => ?_)
                refine lv_aload_n hx hb dX4_ofSwearer_107 rfl (lv_at hl 0 rfl) ?_
                refine gt_X4_21 S hK hP dX4_ofSwearer_108 ?_
                obtain ⟨r_111, e_111, h⟩ := ob1_of h
                refine k_goI (k_runV (As := []) (rest := [.int r_104]) S hK hP (k_X0_bindingOaths l hAd isDy_now e_111) cy_X0_bindingOaths wd_340 rfl (xD isDy_now) rfl hl.1 rfl (Nat.le_of_ble_eq_true rfl) dX4_ofSwearer_111 ⟨Nat.le_of_ble_eq_true rfl, Nat.le_of_ble_eq_true rfl⟩ ⟨Nat.zero_le _, Nat.zero_le _⟩) hS (fun _ h => h) (fun H locs hP hS _ _ => ?_)
                refine lv_iand hx hb dX4_ofSwearer_114 ?_
                exact k_iret S hr hlocks hP hS (Option.some.inj h) dX4_ofSwearer_115
              · replace h := ite_f c_14_5 h
                have n_14_0 := lv_neT c_14_0 (a := 0) rfl
                have n_14_1 := lv_neT c_14_1 (a := 1) rfl
                have n_14_2 := lv_neT c_14_2 (a := 2) rfl
                have n_14_3 := lv_neT c_14_3 (a := 3) rfl
                have n_14_4 := lv_neT c_14_4 (a := 4) rfl
                have n_14_5 := lv_neT c_14_5 (a := 5) rfl
                refine lv_tableOut (tgt := 116) hx hb dX4_ofSwearer_14 (by omega) (by decide) ?_
                refine lv_bipush (v := (-2 : Int32)) hx hb dX4_ofSwearer_116 (by decide) ?_
                exact k_iret S hr hlocks hP hS (Option.some.inj h) dX4_ofSwearer_118
  · replace h := ite_t c_8 h
    refine lv_iconst (v := (-1 : Int32)) hx hb dX4_ofSwearer_11 (by decide) ?_
    exact k_iret S hr hlocks hP hS (Option.some.inj h) dX4_ofSwearer_12
def f_X4_ofOath (σ : SX) (x1 : Int32) (x2 : Int32) : Option Int32 := ob1 (f_X0_hasOath σ 10 x1) (fun r_5 => if r_5 = 0 then (some (-1 : Int32)) else (if x2 = (0 : Int32) then (oin x1 6 (some (gR σ (10 + 4) x1.toNatClampNeg))) else (if x2 = (1 : Int32) then (oin x1 6 (some (gR σ (10 + 5) x1.toNatClampNeg))) else (if x2 = (2 : Int32) then (oin x1 6 (some (gR σ (10 + 6) x1.toNatClampNeg))) else (if x2 = (3 : Int32) then (oin x1 6 (oin x1 6 (ob1 (f_X0_chillOf σ 10 (gR σ (10 + 4) x1.toNatClampNeg) (gR σ (10 + 6) x1.toNatClampNeg)) (fun r_100 => some (r_100 + (100 : Int32)))))) else (if x2 = (4 : Int32) then (ob1 (f_X0_binds σ 10 x1) (fun r_112 => if r_112 = 0 then (some (0 : Int32)) else (some (1 : Int32)))) else (some (-2 : Int32))))))))
set_option maxRecDepth 100000 in
set_option maxHeartbeats 4000000 in
theorem k_X4_ofOath (l : Launch) {D : va_G} {A : Nat → Prop} {cI cZ cS : ClassId} {ad : Nat → Nat} {ro : Option Nat} (hAd : ∀ ro σ, va_D A (WX cI cZ cS ad ro σ)) {σ : SX} {x1 : Int32} {x2 : Int32} {r : Int32} (h : f_X4_ofOath σ x1 x2 = some r) : Ct (QI D A r (WX cI cZ cS ad ro σ)) l yX4_ofOath cX4_ofOath 3 (some .int) 3 65 D (tyS cI cZ cS) A [.ref (ad 0), .int x1, .int x2] (WX cI cZ cS ad ro σ) := by
  refine Ct.of (by decide +kernel) (Nat.le_of_ble_eq_true rfl) ?_
  intro p e s m below meth c ls S hK hr hlocks hP hS hl
  have hx := S.1
  have hb := S.2.1
  have hl : lv_has ls 3 [(0, .ref (ad 0)), (1, .int x1), (2, .int x2)] := hl
  rw [f_X4_ofOath] at h
  refine lv_aload_n hx hb dX4_ofOath_0 rfl (lv_at hl 0 rfl) ?_
  refine gt_X4_21 S hK hP dX4_ofOath_1 ?_
  refine lv_iload_n hx hb dX4_ofOath_4 rfl (lv_at hl 1 rfl) ?_
  obtain ⟨r_5, e_5, h⟩ := ob1_of h
  refine k_goI (k_runV (As := [.int x1]) (rest := []) S hK hP (k_X0_hasOath l hAd isDy_now e_5) cy_X0_hasOath wd_352 rfl (xD isDy_now) rfl hl.1 rfl (Nat.le_of_ble_eq_true rfl) dX4_ofOath_5 ⟨Nat.le_of_ble_eq_true rfl, Nat.le_of_ble_eq_true rfl⟩ ⟨Nat.zero_le _, Nat.zero_le _⟩) hS (fun _ h => h) (fun H locs hP hS _ _ => ?_)
  refine lv_if_ne (tgt := 13) hx hb dX4_ofOath_8 (by decide) (fun c_8 => ?_) (fun c_8 => ?_)
  · replace h := ite_f c_8 h
    refine lv_iload_n hx hb dX4_ofOath_13 rfl (lv_at hl 2 rfl) ?_
    by_cases c_14_0 : x2 = (0 : Int32)
    · replace h := ite_t c_14_0 h
      refine lv_tableIn (tgt := 48) hx hb dX4_ofOath_14 (by rw [c_14_0]; decide) (by rw [c_14_0]; decide) (by rw [c_14_0] <;> rfl) (by decide) ?_
      refine lv_aload_n hx hb dX4_ofOath_48 rfl (lv_at hl 0 rfl) ?_
      refine gt_X4_21 S hK hP dX4_ofOath_49 ?_
      refine gt_X4_111 S hK hP isDy_now dX4_ofOath_52 ?_
      refine lv_iload_n hx hb dX4_ofOath_55 rfl (lv_at hl 1 rfl) ?_
      obtain ⟨hi_56, h⟩ := oin_of h
      refine k_iald S hK hP (xDr4 isDy_now) hi_56 dX4_ofOath_56 ?_
      exact k_iret S hr hlocks hP hS (Option.some.inj h) dX4_ofOath_57
    · replace h := ite_f c_14_0 h
      by_cases c_14_1 : x2 = (1 : Int32)
      · replace h := ite_t c_14_1 h
        refine lv_tableIn (tgt := 58) hx hb dX4_ofOath_14 (by rw [c_14_1]; decide) (by rw [c_14_1]; decide) (by rw [c_14_1] <;> rfl) (by decide) ?_
        refine lv_aload_n hx hb dX4_ofOath_58 rfl (lv_at hl 0 rfl) ?_
        refine gt_X4_21 S hK hP dX4_ofOath_59 ?_
        refine gt_X4_114 S hK hP isDy_now dX4_ofOath_62 ?_
        refine lv_iload_n hx hb dX4_ofOath_65 rfl (lv_at hl 1 rfl) ?_
        obtain ⟨hi_66, h⟩ := oin_of h
        refine k_iald S hK hP (xDr5 isDy_now) hi_66 dX4_ofOath_66 ?_
        exact k_iret S hr hlocks hP hS (Option.some.inj h) dX4_ofOath_67
      · replace h := ite_f c_14_1 h
        by_cases c_14_2 : x2 = (2 : Int32)
        · replace h := ite_t c_14_2 h
          refine lv_tableIn (tgt := 68) hx hb dX4_ofOath_14 (by rw [c_14_2]; decide) (by rw [c_14_2]; decide) (by rw [c_14_2] <;> rfl) (by decide) ?_
          refine lv_aload_n hx hb dX4_ofOath_68 rfl (lv_at hl 0 rfl) ?_
          refine gt_X4_21 S hK hP dX4_ofOath_69 ?_
          refine gt_X4_117 S hK hP isDy_now dX4_ofOath_72 ?_
          refine lv_iload_n hx hb dX4_ofOath_75 rfl (lv_at hl 1 rfl) ?_
          obtain ⟨hi_76, h⟩ := oin_of h
          refine k_iald S hK hP (xDr6 isDy_now) hi_76 dX4_ofOath_76 ?_
          exact k_iret S hr hlocks hP hS (Option.some.inj h) dX4_ofOath_77
        · replace h := ite_f c_14_2 h
          by_cases c_14_3 : x2 = (3 : Int32)
          · replace h := ite_t c_14_3 h
            refine lv_tableIn (tgt := 78) hx hb dX4_ofOath_14 (by rw [c_14_3]; decide) (by rw [c_14_3]; decide) (by rw [c_14_3] <;> rfl) (by decide) ?_
            refine lv_aload_n hx hb dX4_ofOath_78 rfl (lv_at hl 0 rfl) ?_
            refine gt_X4_21 S hK hP dX4_ofOath_79 ?_
            refine lv_aload_n hx hb dX4_ofOath_82 rfl (lv_at hl 0 rfl) ?_
            refine gt_X4_21 S hK hP dX4_ofOath_83 ?_
            refine gt_X4_111 S hK hP isDy_now dX4_ofOath_86 ?_
            refine lv_iload_n hx hb dX4_ofOath_89 rfl (lv_at hl 1 rfl) ?_
            obtain ⟨hi_90, h⟩ := oin_of h
            refine k_iald S hK hP (xDr4 isDy_now) hi_90 dX4_ofOath_90 ?_
            refine lv_aload_n hx hb dX4_ofOath_91 rfl (lv_at hl 0 rfl) ?_
            refine gt_X4_21 S hK hP dX4_ofOath_92 ?_
            refine gt_X4_117 S hK hP isDy_now dX4_ofOath_95 ?_
            refine lv_iload_n hx hb dX4_ofOath_98 rfl (lv_at hl 1 rfl) ?_
            obtain ⟨hi_99, h⟩ := oin_of h
            refine k_iald S hK hP (xDr6 isDy_now) hi_99 dX4_ofOath_99 ?_
            obtain ⟨r_100, e_100, h⟩ := ob1_of h
            refine k_goI (k_runV (As := [.int (gR σ (10 + 4) x1.toNatClampNeg), .int (gR σ (10 + 6) x1.toNatClampNeg)]) (rest := []) S hK hP (k_X0_chillOf l hAd isDy_now e_100) cy_X0_chillOf wd_356 rfl (xD isDy_now) rfl hl.1 rfl (Nat.le_of_ble_eq_true rfl) dX4_ofOath_100 ⟨Nat.le_of_ble_eq_true rfl, Nat.le_of_ble_eq_true rfl⟩ ⟨Nat.zero_le _, Nat.zero_le _⟩) hS (fun _ h => h) (fun H locs hP hS _ _ => ?_)
            refine lv_bipush (v := (100 : Int32)) hx hb dX4_ofOath_103 (by decide) ?_
            refine lv_iadd hx hb dX4_ofOath_105 ?_
            exact k_iret S hr hlocks hP hS (Option.some.inj h) dX4_ofOath_106
          · replace h := ite_f c_14_3 h
            by_cases c_14_4 : x2 = (4 : Int32)
            · replace h := ite_t c_14_4 h
              refine lv_tableIn (tgt := 107) hx hb dX4_ofOath_14 (by rw [c_14_4]; decide) (by rw [c_14_4]; decide) (by rw [c_14_4] <;> rfl) (by decide) ?_
              refine lv_aload_n hx hb dX4_ofOath_107 rfl (lv_at hl 0 rfl) ?_
              refine gt_X4_21 S hK hP dX4_ofOath_108 ?_
              refine lv_iload_n hx hb dX4_ofOath_111 rfl (lv_at hl 1 rfl) ?_
              obtain ⟨r_112, e_112, h⟩ := ob1_of h
              refine k_goI (k_runV (As := [.int x1]) (rest := []) S hK hP (k_X0_binds l hAd isDy_now e_112) cy_X0_binds wd_357 rfl (xD isDy_now) rfl hl.1 rfl (Nat.le_of_ble_eq_true rfl) dX4_ofOath_112 ⟨Nat.le_of_ble_eq_true rfl, Nat.le_of_ble_eq_true rfl⟩ ⟨Nat.zero_le _, Nat.zero_le _⟩) hS (fun _ h => h) (fun H locs hP hS _ _ => ?_)
              refine lv_if_eq (tgt := 122) hx hb dX4_ofOath_115 (by decide) (fun c_115 => ?_) (fun c_115 => ?_)
              · replace h := ite_t c_115 h
                refine lv_iconst (v := (0 : Int32)) hx hb dX4_ofOath_122 (by decide) ?_
                exact k_iret S hr hlocks hP hS (Option.some.inj h) dX4_ofOath_123
              · replace h := ite_f c_115 h
                refine lv_iconst (v := (1 : Int32)) hx hb dX4_ofOath_118 (by decide) ?_
                refine lv_goto (tgt := 123) hx hb dX4_ofOath_119 (by decide) ?_
                exact k_iret S hr hlocks hP hS (Option.some.inj h) dX4_ofOath_123
            · replace h := ite_f c_14_4 h
              have n_14_0 := lv_neT c_14_0 (a := 0) rfl
              have n_14_1 := lv_neT c_14_1 (a := 1) rfl
              have n_14_2 := lv_neT c_14_2 (a := 2) rfl
              have n_14_3 := lv_neT c_14_3 (a := 3) rfl
              have n_14_4 := lv_neT c_14_4 (a := 4) rfl
              refine lv_tableOut (tgt := 124) hx hb dX4_ofOath_14 (by omega) (by decide) ?_
              refine lv_bipush (v := (-2 : Int32)) hx hb dX4_ofOath_124 (by decide) ?_
              exact k_iret S hr hlocks hP hS (Option.some.inj h) dX4_ofOath_126
  · replace h := ite_t c_8 h
    refine lv_iconst (v := (-1 : Int32)) hx hb dX4_ofOath_11 (by decide) ?_
    exact k_iret S hr hlocks hP hS (Option.some.inj h) dX4_ofOath_12
def f_X4_ofHour (σ : SX) (x1 : Int32) (x2 : Int32) : Option Int32 := ob1 (f_X0_hasHour σ 10 x1) (fun r_5 => if r_5 = 0 then (some (-1 : Int32)) else (if x2 = (0 : Int32) then (oin x1 6 (some (gR σ (10 + 1) x1.toNatClampNeg))) else (if x2 = (1 : Int32) then (if (gF σ 10 3) = x1 then (some (gF σ 10 4)) else (some (-9 : Int32))) else (if x2 = (2 : Int32) then (ob1 (f_X0_coldSwearers σ 10 x1) (fun r_79 => some r_79)) else (some (-2 : Int32))))))
set_option maxRecDepth 100000 in
set_option maxHeartbeats 4000000 in
theorem k_X4_ofHour (l : Launch) {D : va_G} {A : Nat → Prop} {cI cZ cS : ClassId} {ad : Nat → Nat} {ro : Option Nat} (hAd : ∀ ro σ, va_D A (WX cI cZ cS ad ro σ)) {σ : SX} {x1 : Int32} {x2 : Int32} {r : Int32} (h : f_X4_ofHour σ x1 x2 = some r) : Ct (QI D A r (WX cI cZ cS ad ro σ)) l yX4_ofHour cX4_ofHour 3 (some .int) 4 89 D (tyS cI cZ cS) A [.ref (ad 0), .int x1, .int x2] (WX cI cZ cS ad ro σ) := by
  refine Ct.of (by decide +kernel) (Nat.le_of_ble_eq_true rfl) ?_
  intro p e s m below meth c ls S hK hr hlocks hP hS hl
  have hx := S.1
  have hb := S.2.1
  have hl : lv_has ls 3 [(0, .ref (ad 0)), (1, .int x1), (2, .int x2)] := hl
  rw [f_X4_ofHour] at h
  refine lv_aload_n hx hb dX4_ofHour_0 rfl (lv_at hl 0 rfl) ?_
  refine gt_X4_21 S hK hP dX4_ofHour_1 ?_
  refine lv_iload_n hx hb dX4_ofHour_4 rfl (lv_at hl 1 rfl) ?_
  obtain ⟨r_5, e_5, h⟩ := ob1_of h
  refine k_goI (k_runV (As := [.int x1]) (rest := []) S hK hP (k_X0_hasHour l hAd isDy_now e_5) cy_X0_hasHour wd_362 rfl (xD isDy_now) rfl hl.1 rfl (Nat.le_of_ble_eq_true rfl) dX4_ofHour_5 ⟨Nat.le_of_ble_eq_true rfl, Nat.le_of_ble_eq_true rfl⟩ ⟨Nat.zero_le _, Nat.zero_le _⟩) hS (fun _ h => h) (fun H locs hP hS _ _ => ?_)
  refine lv_if_ne (tgt := 13) hx hb dX4_ofHour_8 (by decide) (fun c_8 => ?_) (fun c_8 => ?_)
  · replace h := ite_f c_8 h
    refine lv_iload_n hx hb dX4_ofHour_13 rfl (lv_at hl 2 rfl) ?_
    by_cases c_14_0 : x2 = (0 : Int32)
    · replace h := ite_t c_14_0 h
      refine lv_tableIn (tgt := 40) hx hb dX4_ofHour_14 (by rw [c_14_0]; decide) (by rw [c_14_0]; decide) (by rw [c_14_0] <;> rfl) (by decide) ?_
      refine lv_aload_n hx hb dX4_ofHour_40 rfl (lv_at hl 0 rfl) ?_
      refine gt_X4_21 S hK hP dX4_ofHour_41 ?_
      refine gt_X4_130 S hK hP isDy_now dX4_ofHour_44 ?_
      refine lv_iload_n hx hb dX4_ofHour_47 rfl (lv_at hl 1 rfl) ?_
      obtain ⟨hi_48, h⟩ := oin_of h
      refine k_iald S hK hP (xDr1 isDy_now) hi_48 dX4_ofHour_48 ?_
      exact k_iret S hr hlocks hP hS (Option.some.inj h) dX4_ofHour_49
    · replace h := ite_f c_14_0 h
      by_cases c_14_1 : x2 = (1 : Int32)
      · replace h := ite_t c_14_1 h
        refine lv_tableIn (tgt := 50) hx hb dX4_ofHour_14 (by rw [c_14_1]; decide) (by rw [c_14_1]; decide) (by rw [c_14_1] <;> rfl) (by decide) ?_
        refine lv_aload_n hx hb dX4_ofHour_50 rfl (lv_at hl 0 rfl) ?_
        refine gt_X4_21 S hK hP dX4_ofHour_51 ?_
        refine gt_X4_133 S hK hP isDy_now dX4_ofHour_54 ?_
        refine lv_iload_n hx hb dX4_ofHour_57 rfl (lv_at hl 1 rfl) ?_
        refine lv_icmp_ne (tgt := 71) hx hb dX4_ofHour_58 (by decide) (fun c_58 => ?_) (fun c_58 => ?_)
        · replace h := ite_f c_58 h
          refine lv_bipush (v := (-9 : Int32)) hx hb dX4_ofHour_71 (by decide) ?_
          exact k_iret S hr hlocks hP hS (Option.some.inj h) dX4_ofHour_73
        · replace h := ite_t c_58 h
          refine lv_aload_n hx hb dX4_ofHour_61 rfl (lv_at hl 0 rfl) ?_
          refine gt_X4_21 S hK hP dX4_ofHour_62 ?_
          refine gt_X4_136 S hK hP isDy_now dX4_ofHour_65 ?_
          refine lv_goto (tgt := 73) hx hb dX4_ofHour_68 (by decide) ?_
          exact k_iret S hr hlocks hP hS (Option.some.inj h) dX4_ofHour_73
      · replace h := ite_f c_14_1 h
        by_cases c_14_2 : x2 = (2 : Int32)
        · replace h := ite_t c_14_2 h
          refine lv_tableIn (tgt := 74) hx hb dX4_ofHour_14 (by rw [c_14_2]; decide) (by rw [c_14_2]; decide) (by rw [c_14_2] <;> rfl) (by decide) ?_
          refine lv_aload_n hx hb dX4_ofHour_74 rfl (lv_at hl 0 rfl) ?_
          refine gt_X4_21 S hK hP dX4_ofHour_75 ?_
          refine lv_iload_n hx hb dX4_ofHour_78 rfl (lv_at hl 1 rfl) ?_
          obtain ⟨r_79, e_79, h⟩ := ob1_of h
          refine k_goI (k_runV (As := [.int x1]) (rest := []) S hK hP (k_X0_coldSwearers l hAd isDy_now e_79) cy_X0_coldSwearers wd_366 rfl (xD isDy_now) rfl hl.1 rfl (Nat.le_of_ble_eq_true rfl) dX4_ofHour_79 ⟨Nat.le_of_ble_eq_true rfl, Nat.le_of_ble_eq_true rfl⟩ ⟨Nat.zero_le _, Nat.zero_le _⟩) hS (fun _ h => h) (fun H locs hP hS _ _ => ?_)
          exact k_iret S hr hlocks hP hS (Option.some.inj h) dX4_ofHour_82
        · replace h := ite_f c_14_2 h
          have n_14_0 := lv_neT c_14_0 (a := 0) rfl
          have n_14_1 := lv_neT c_14_1 (a := 1) rfl
          have n_14_2 := lv_neT c_14_2 (a := 2) rfl
          refine lv_tableOut (tgt := 83) hx hb dX4_ofHour_14 (by omega) (by decide) ?_
          refine lv_bipush (v := (-2 : Int32)) hx hb dX4_ofHour_83 (by decide) ?_
          exact k_iret S hr hlocks hP hS (Option.some.inj h) dX4_ofHour_85
  · replace h := ite_t c_8 h
    refine lv_iconst (v := (-1 : Int32)) hx hb dX4_ofHour_11 (by decide) ?_
    exact k_iret S hr hlocks hP hS (Option.some.inj h) dX4_ofHour_12
def f_X4_chill (σ : SX) (x1 : Int32) (x2 : Int32) : Option Int32 := ob1 (f_X0_hasSwearer σ 10 x1) (fun r_5 => if r_5 = 0 then (some (-1 : Int32)) else (ob1 (f_X0_hasHour σ 10 x2) (fun r_16 => if r_16 = 0 then (some (-1 : Int32)) else (ob1 (f_X0_chillOf σ 10 x1 x2) (fun r_30 => some (r_30 + (100 : Int32)))))))
set_option maxRecDepth 100000 in
set_option maxHeartbeats 4000000 in
theorem k_X4_chill (l : Launch) {D : va_G} {A : Nat → Prop} {cI cZ cS : ClassId} {ad : Nat → Nat} {ro : Option Nat} (hAd : ∀ ro σ, va_D A (WX cI cZ cS ad ro σ)) {σ : SX} {x1 : Int32} {x2 : Int32} {r : Int32} (h : f_X4_chill σ x1 x2 = some r) : Ct (QI D A r (WX cI cZ cS ad ro σ)) l yX4_chill cX4_chill 3 (some .int) 2 44 D (tyS cI cZ cS) A [.ref (ad 0), .int x1, .int x2] (WX cI cZ cS ad ro σ) := by
  refine Ct.of (by decide +kernel) (Nat.le_of_ble_eq_true rfl) ?_
  intro p e s m below meth c ls S hK hr hlocks hP hS hl
  have hx := S.1
  have hb := S.2.1
  have hl : lv_has ls 3 [(0, .ref (ad 0)), (1, .int x1), (2, .int x2)] := hl
  rw [f_X4_chill] at h
  refine lv_aload_n hx hb dX4_chill_0 rfl (lv_at hl 0 rfl) ?_
  refine gt_X4_21 S hK hP dX4_chill_1 ?_
  refine lv_iload_n hx hb dX4_chill_4 rfl (lv_at hl 1 rfl) ?_
  obtain ⟨r_5, e_5, h⟩ := ob1_of h
  refine k_goI (k_runV (As := [.int x1]) (rest := []) S hK hP (k_X0_hasSwearer l hAd isDy_now e_5) cy_X0_hasSwearer wd_315 rfl (xD isDy_now) rfl hl.1 rfl (Nat.le_of_ble_eq_true rfl) dX4_chill_5 ⟨Nat.le_of_ble_eq_true rfl, Nat.le_of_ble_eq_true rfl⟩ ⟨Nat.zero_le _, Nat.zero_le _⟩) hS (fun _ h => h) (fun H locs hP hS _ _ => ?_)
  refine lv_if_eq (tgt := 22) hx hb dX4_chill_8 (by decide) (fun c_8 => ?_) (fun c_8 => ?_)
  · replace h := ite_t c_8 h
    refine lv_iconst (v := (-1 : Int32)) hx hb dX4_chill_22 (by decide) ?_
    exact k_iret S hr hlocks hP hS (Option.some.inj h) dX4_chill_23
  · replace h := ite_f c_8 h
    refine lv_aload_n hx hb dX4_chill_11 rfl (lv_at hl 0 rfl) ?_
    refine gt_X4_21 S hK hP dX4_chill_12 ?_
    refine lv_iload_n hx hb dX4_chill_15 rfl (lv_at hl 2 rfl) ?_
    obtain ⟨r_16, e_16, h⟩ := ob1_of h
    refine k_goI (k_runV (As := [.int x2]) (rest := []) S hK hP (k_X0_hasHour l hAd isDy_now e_16) cy_X0_hasHour wd_362 rfl (xD isDy_now) rfl hl.1 rfl (Nat.le_of_ble_eq_true rfl) dX4_chill_16 ⟨Nat.le_of_ble_eq_true rfl, Nat.le_of_ble_eq_true rfl⟩ ⟨Nat.zero_le _, Nat.zero_le _⟩) hS (fun _ h => h) (fun H locs hP hS _ _ => ?_)
    refine lv_if_ne (tgt := 24) hx hb dX4_chill_19 (by decide) (fun c_19 => ?_) (fun c_19 => ?_)
    · replace h := ite_f c_19 h
      refine lv_aload_n hx hb dX4_chill_24 rfl (lv_at hl 0 rfl) ?_
      refine gt_X4_21 S hK hP dX4_chill_25 ?_
      refine lv_iload_n hx hb dX4_chill_28 rfl (lv_at hl 1 rfl) ?_
      refine lv_iload_n hx hb dX4_chill_29 rfl (lv_at hl 2 rfl) ?_
      obtain ⟨r_30, e_30, h⟩ := ob1_of h
      refine k_goI (k_runV (As := [.int x1, .int x2]) (rest := []) S hK hP (k_X0_chillOf l hAd isDy_now e_30) cy_X0_chillOf wd_356 rfl (xD isDy_now) rfl hl.1 rfl (Nat.le_of_ble_eq_true rfl) dX4_chill_30 ⟨Nat.le_of_ble_eq_true rfl, Nat.le_of_ble_eq_true rfl⟩ ⟨Nat.zero_le _, Nat.zero_le _⟩) hS (fun _ h => h) (fun H locs hP hS _ _ => ?_)
      refine lv_bipush (v := (100 : Int32)) hx hb dX4_chill_33 (by decide) ?_
      refine lv_iadd hx hb dX4_chill_35 ?_
      exact k_iret S hr hlocks hP hS (Option.some.inj h) dX4_chill_36
    · replace h := ite_t c_19 h
      refine lv_iconst (v := (-1 : Int32)) hx hb dX4_chill_22 (by decide) ?_
      exact k_iret S hr hlocks hP hS (Option.some.inj h) dX4_chill_23
def f_X4_coat (σ : SX) (x1 : Int32) (x2 : Int32) : Option (Int32 × SX) := ob1 (f_X0_hasSwearer σ 10 x1) (fun r_5 => if r_5 = 0 then (some ((-1 : Int32), σ)) else (ob1 (f_X4_isDigit x2) (fun r_14 => if r_14 = 0 then (some ((-2 : Int32), σ)) else (oin x1 4 (oin x1 4 (some (gR σ (10 + 3) x1.toNatClampNeg, sR σ (10 + 3) (upd (gR σ (10 + 3)) x1.toNatClampNeg x2))))))))
set_option maxRecDepth 100000 in
set_option maxHeartbeats 4000000 in
theorem k_X4_coat (l : Launch) {D : va_G} {A : Nat → Prop} {cI cZ cS : ClassId} {ad : Nat → Nat} {ro : Option Nat} (hAd : ∀ ro σ, va_D A (WX cI cZ cS ad ro σ)) {σ : SX} {x1 : Int32} {x2 : Int32} {σ' : SX} {r : Int32} (h : f_X4_coat σ x1 x2 = some (r, σ')) : Ct (QI D A r (WX cI cZ cS ad ro (σ'))) l yX4_coat cX4_coat 4 (some .int) 1 21 D (tyS cI cZ cS) A [.ref (ad 0), .int x1, .int x2] (WX cI cZ cS ad ro σ) := by
  refine Ct.of (by decide +kernel) (Nat.le_of_ble_eq_true rfl) ?_
  intro p e s m below meth c ls S hK hr hlocks hP hS hl
  have hx := S.1
  have hb := S.2.1
  have hl : lv_has ls 4 [(0, .ref (ad 0)), (1, .int x1), (2, .int x2)] := hl
  rw [f_X4_coat] at h
  refine lv_aload_n hx hb dX4_coat_0 rfl (lv_at hl 0 rfl) ?_
  refine gt_X4_21 S hK hP dX4_coat_1 ?_
  refine lv_iload_n hx hb dX4_coat_4 rfl (lv_at hl 1 rfl) ?_
  obtain ⟨r_5, e_5, h⟩ := ob1_of h
  refine k_goI (k_runV (As := [.int x1]) (rest := []) S hK hP (k_X0_hasSwearer l hAd isDy_now e_5) cy_X0_hasSwearer wd_315 rfl (xD isDy_now) rfl hl.1 rfl (Nat.le_of_ble_eq_true rfl) dX4_coat_5 ⟨Nat.le_of_ble_eq_true rfl, Nat.le_of_ble_eq_true rfl⟩ ⟨Nat.zero_le _, Nat.zero_le _⟩) hS (fun _ h => h) (fun H locs hP hS _ _ => ?_)
  refine lv_if_ne (tgt := 13) hx hb dX4_coat_8 (by decide) (fun c_8 => ?_) (fun c_8 => ?_)
  · replace h := ite_f c_8 h
    refine lv_iload_n hx hb dX4_coat_13 rfl (lv_at hl 2 rfl) ?_
    obtain ⟨r_14, e_14, h⟩ := ob1_of h
    refine k_goI (k_runS (As := [.int x2]) (rest := []) S hK hP (k_X4_isDigit l  e_14) cy_X4_isDigit wd_378 rfl hl.1 rfl (Nat.le_of_ble_eq_true rfl) dX4_coat_14 ⟨Nat.le_of_ble_eq_true rfl, Nat.le_of_ble_eq_true rfl⟩ ⟨Nat.zero_le _, Nat.zero_le _⟩) hS (fun _ h => h) (fun H locs hP hS _ _ => ?_)
    refine lv_if_ne (tgt := 23) hx hb dX4_coat_17 (by decide) (fun c_17 => ?_) (fun c_17 => ?_)
    · replace h := ite_f c_17 h
      refine lv_aload_n hx hb dX4_coat_23 rfl (lv_at hl 0 rfl) ?_
      refine gt_X4_21 S hK hP dX4_coat_24 ?_
      refine gt_X4_92 S hK hP isDy_now dX4_coat_27 ?_
      refine lv_iload_n hx hb dX4_coat_30 rfl (lv_at hl 1 rfl) ?_
      obtain ⟨hi_31, h⟩ := oin_of h
      refine k_iald S hK hP (xDr3 isDy_now) hi_31 dX4_coat_31 ?_
      refine lv_istore_n (lv' := [(3, .int (gR σ (10 + 3) x1.toNatClampNeg)), (0, .ref (ad 0)), (1, .int x1), (2, .int x2)]) hx hb dX4_coat_32 rfl hl (by decide) rfl (fun ls hl => ?_)
      refine lv_aload_n hx hb dX4_coat_33 rfl (lv_at hl 1 rfl) ?_
      refine gt_X4_21 S hK hP dX4_coat_34 ?_
      refine gt_X4_92 S hK hP isDy_now dX4_coat_37 ?_
      refine lv_iload_n hx hb dX4_coat_40 rfl (lv_at hl 2 rfl) ?_
      refine lv_iload_n hx hb dX4_coat_41 rfl (lv_at hl 3 rfl) ?_
      obtain ⟨hi_42, h⟩ := oin_of h
      refine k_iast S hK hP (hAd _ _) hS (xDr3 isDy_now) (xDr3_s isDy_now) hi_42 dX4_coat_42 (fun H locs hP hS => ?_)
      refine lv_iload_n hx hb dX4_coat_43 rfl (lv_at hl 0 rfl) ?_
      obtain ⟨rfl, rfl⟩ := some_pair h
      exact k_iret S hr hlocks hP hS rfl dX4_coat_44
    · replace h := ite_t c_17 h
      refine lv_bipush (v := (-2 : Int32)) hx hb dX4_coat_20 (by decide) ?_
      obtain ⟨rfl, rfl⟩ := some_pair h
      exact k_iret S hr hlocks hP hS rfl dX4_coat_22
  · replace h := ite_t c_8 h
    refine lv_iconst (v := (-1 : Int32)) hx hb dX4_coat_11 (by decide) ?_
    obtain ⟨rfl, rfl⟩ := some_pair h
    exact k_iret S hr hlocks hP hS rfl dX4_coat_12
def f_X4_frost (σ : SX) (x1 : Int32) (x2 : Int32) : Option (Int32 × SX) := ob1 (f_X0_hasHour σ 10 x1) (fun r_5 => if r_5 = 0 then (some ((-1 : Int32), σ)) else (ob1 (f_X4_isDigit x2) (fun r_14 => if r_14 = 0 then (some ((-2 : Int32), σ)) else (oin x1 6 (oin x1 6 (some (gR σ (10 + 1) x1.toNatClampNeg, sR σ (10 + 1) (upd (gR σ (10 + 1)) x1.toNatClampNeg x2))))))))
set_option maxRecDepth 100000 in
set_option maxHeartbeats 4000000 in
theorem k_X4_frost (l : Launch) {D : va_G} {A : Nat → Prop} {cI cZ cS : ClassId} {ad : Nat → Nat} {ro : Option Nat} (hAd : ∀ ro σ, va_D A (WX cI cZ cS ad ro σ)) {σ : SX} {x1 : Int32} {x2 : Int32} {σ' : SX} {r : Int32} (h : f_X4_frost σ x1 x2 = some (r, σ')) : Ct (QI D A r (WX cI cZ cS ad ro (σ'))) l yX4_frost cX4_frost 4 (some .int) 1 21 D (tyS cI cZ cS) A [.ref (ad 0), .int x1, .int x2] (WX cI cZ cS ad ro σ) := by
  refine Ct.of (by decide +kernel) (Nat.le_of_ble_eq_true rfl) ?_
  intro p e s m below meth c ls S hK hr hlocks hP hS hl
  have hx := S.1
  have hb := S.2.1
  have hl : lv_has ls 4 [(0, .ref (ad 0)), (1, .int x1), (2, .int x2)] := hl
  rw [f_X4_frost] at h
  refine lv_aload_n hx hb dX4_frost_0 rfl (lv_at hl 0 rfl) ?_
  refine gt_X4_21 S hK hP dX4_frost_1 ?_
  refine lv_iload_n hx hb dX4_frost_4 rfl (lv_at hl 1 rfl) ?_
  obtain ⟨r_5, e_5, h⟩ := ob1_of h
  refine k_goI (k_runV (As := [.int x1]) (rest := []) S hK hP (k_X0_hasHour l hAd isDy_now e_5) cy_X0_hasHour wd_362 rfl (xD isDy_now) rfl hl.1 rfl (Nat.le_of_ble_eq_true rfl) dX4_frost_5 ⟨Nat.le_of_ble_eq_true rfl, Nat.le_of_ble_eq_true rfl⟩ ⟨Nat.zero_le _, Nat.zero_le _⟩) hS (fun _ h => h) (fun H locs hP hS _ _ => ?_)
  refine lv_if_ne (tgt := 13) hx hb dX4_frost_8 (by decide) (fun c_8 => ?_) (fun c_8 => ?_)
  · replace h := ite_f c_8 h
    refine lv_iload_n hx hb dX4_frost_13 rfl (lv_at hl 2 rfl) ?_
    obtain ⟨r_14, e_14, h⟩ := ob1_of h
    refine k_goI (k_runS (As := [.int x2]) (rest := []) S hK hP (k_X4_isDigit l  e_14) cy_X4_isDigit wd_378 rfl hl.1 rfl (Nat.le_of_ble_eq_true rfl) dX4_frost_14 ⟨Nat.le_of_ble_eq_true rfl, Nat.le_of_ble_eq_true rfl⟩ ⟨Nat.zero_le _, Nat.zero_le _⟩) hS (fun _ h => h) (fun H locs hP hS _ _ => ?_)
    refine lv_if_ne (tgt := 23) hx hb dX4_frost_17 (by decide) (fun c_17 => ?_) (fun c_17 => ?_)
    · replace h := ite_f c_17 h
      refine lv_aload_n hx hb dX4_frost_23 rfl (lv_at hl 0 rfl) ?_
      refine gt_X4_21 S hK hP dX4_frost_24 ?_
      refine gt_X4_130 S hK hP isDy_now dX4_frost_27 ?_
      refine lv_iload_n hx hb dX4_frost_30 rfl (lv_at hl 1 rfl) ?_
      obtain ⟨hi_31, h⟩ := oin_of h
      refine k_iald S hK hP (xDr1 isDy_now) hi_31 dX4_frost_31 ?_
      refine lv_istore_n (lv' := [(3, .int (gR σ (10 + 1) x1.toNatClampNeg)), (0, .ref (ad 0)), (1, .int x1), (2, .int x2)]) hx hb dX4_frost_32 rfl hl (by decide) rfl (fun ls hl => ?_)
      refine lv_aload_n hx hb dX4_frost_33 rfl (lv_at hl 1 rfl) ?_
      refine gt_X4_21 S hK hP dX4_frost_34 ?_
      refine gt_X4_130 S hK hP isDy_now dX4_frost_37 ?_
      refine lv_iload_n hx hb dX4_frost_40 rfl (lv_at hl 2 rfl) ?_
      refine lv_iload_n hx hb dX4_frost_41 rfl (lv_at hl 3 rfl) ?_
      obtain ⟨hi_42, h⟩ := oin_of h
      refine k_iast S hK hP (hAd _ _) hS (xDr1 isDy_now) (xDr1_s isDy_now) hi_42 dX4_frost_42 (fun H locs hP hS => ?_)
      refine lv_iload_n hx hb dX4_frost_43 rfl (lv_at hl 0 rfl) ?_
      obtain ⟨rfl, rfl⟩ := some_pair h
      exact k_iret S hr hlocks hP hS rfl dX4_frost_44
    · replace h := ite_t c_17 h
      refine lv_bipush (v := (-2 : Int32)) hx hb dX4_frost_20 (by decide) ?_
      obtain ⟨rfl, rfl⟩ := some_pair h
      exact k_iret S hr hlocks hP hS rfl dX4_frost_22
  · replace h := ite_t c_8 h
    refine lv_iconst (v := (-1 : Int32)) hx hb dX4_frost_11 (by decide) ?_
    obtain ⟨rfl, rfl⟩ := some_pair h
    exact k_iret S hr hlocks hP hS rfl dX4_frost_12
def f_X4_swear (σ : SX) (x1 : Int32) (x2 : Int32) (x3 : Int32) : Option (Int32 × SX) := ob1 (f_X0_hasSwearer σ 10 x1) (fun r_5 => if r_5 = 0 then (some ((-1 : Int32), σ)) else (ob1 (f_X0_hasSwearer σ 10 x2) (fun r_16 => if r_16 = 0 then (some ((-1 : Int32), σ)) else (if x1 = x2 then (some ((-1 : Int32), σ)) else (ob1 (f_X0_hasHour σ 10 x3) (fun r_32 => if r_32 = 0 then (some ((-1 : Int32), σ)) else (if (gF σ 10 2) < (6 : Int32) then (ob2 (f_X0_addOath σ 10 x1 x2 x3) (fun r_62 s_62 => some ((gF s_62 10 2) - (1 : Int32), s_62))) else (some ((-4 : Int32), σ)))))))))
set_option maxRecDepth 100000 in
set_option maxHeartbeats 4000000 in
theorem k_X4_swear (l : Launch) {D : va_G} {A : Nat → Prop} {cI cZ cS : ClassId} {ad : Nat → Nat} {ro : Option Nat} (hAd : ∀ ro σ, va_D A (WX cI cZ cS ad ro σ)) {σ : SX} {x1 : Int32} {x2 : Int32} {x3 : Int32} {σ' : SX} {r : Int32} (h : f_X4_swear σ x1 x2 x3 = some (r, σ')) : Ct (QI D A r (WX cI cZ cS ad ro (σ'))) l yX4_swear cX4_swear 4 (some .int) 1 23 D (tyS cI cZ cS) A [.ref (ad 0), .int x1, .int x2, .int x3] (WX cI cZ cS ad ro σ) := by
  refine Ct.of (by decide +kernel) (Nat.le_of_ble_eq_true rfl) ?_
  intro p e s m below meth c ls S hK hr hlocks hP hS hl
  have hx := S.1
  have hb := S.2.1
  have hl : lv_has ls 4 [(0, .ref (ad 0)), (1, .int x1), (2, .int x2), (3, .int x3)] := hl
  rw [f_X4_swear] at h
  refine lv_aload_n hx hb dX4_swear_0 rfl (lv_at hl 0 rfl) ?_
  refine gt_X4_21 S hK hP dX4_swear_1 ?_
  refine lv_iload_n hx hb dX4_swear_4 rfl (lv_at hl 1 rfl) ?_
  obtain ⟨r_5, e_5, h⟩ := ob1_of h
  refine k_goI (k_runV (As := [.int x1]) (rest := []) S hK hP (k_X0_hasSwearer l hAd isDy_now e_5) cy_X0_hasSwearer wd_315 rfl (xD isDy_now) rfl hl.1 rfl (Nat.le_of_ble_eq_true rfl) dX4_swear_5 ⟨Nat.le_of_ble_eq_true rfl, Nat.le_of_ble_eq_true rfl⟩ ⟨Nat.zero_le _, Nat.zero_le _⟩) hS (fun _ h => h) (fun H locs hP hS _ _ => ?_)
  refine lv_if_eq (tgt := 38) hx hb dX4_swear_8 (by decide) (fun c_8 => ?_) (fun c_8 => ?_)
  · replace h := ite_t c_8 h
    refine lv_iconst (v := (-1 : Int32)) hx hb dX4_swear_38 (by decide) ?_
    obtain ⟨rfl, rfl⟩ := some_pair h
    exact k_iret S hr hlocks hP hS rfl dX4_swear_39
  · replace h := ite_f c_8 h
    refine lv_aload_n hx hb dX4_swear_11 rfl (lv_at hl 0 rfl) ?_
    refine gt_X4_21 S hK hP dX4_swear_12 ?_
    refine lv_iload_n hx hb dX4_swear_15 rfl (lv_at hl 2 rfl) ?_
    obtain ⟨r_16, e_16, h⟩ := ob1_of h
    refine k_goI (k_runV (As := [.int x2]) (rest := []) S hK hP (k_X0_hasSwearer l hAd isDy_now e_16) cy_X0_hasSwearer wd_315 rfl (xD isDy_now) rfl hl.1 rfl (Nat.le_of_ble_eq_true rfl) dX4_swear_16 ⟨Nat.le_of_ble_eq_true rfl, Nat.le_of_ble_eq_true rfl⟩ ⟨Nat.zero_le _, Nat.zero_le _⟩) hS (fun _ h => h) (fun H locs hP hS _ _ => ?_)
    refine lv_if_eq (tgt := 38) hx hb dX4_swear_19 (by decide) (fun c_19 => ?_) (fun c_19 => ?_)
    · replace h := ite_t c_19 h
      refine lv_iconst (v := (-1 : Int32)) hx hb dX4_swear_38 (by decide) ?_
      obtain ⟨rfl, rfl⟩ := some_pair h
      exact k_iret S hr hlocks hP hS rfl dX4_swear_39
    · replace h := ite_f c_19 h
      refine lv_iload_n hx hb dX4_swear_22 rfl (lv_at hl 1 rfl) ?_
      refine lv_iload_n hx hb dX4_swear_23 rfl (lv_at hl 2 rfl) ?_
      refine lv_icmp_eq (tgt := 38) hx hb dX4_swear_24 (by decide) (fun c_24 => ?_) (fun c_24 => ?_)
      · replace h := ite_t c_24 h
        refine lv_iconst (v := (-1 : Int32)) hx hb dX4_swear_38 (by decide) ?_
        obtain ⟨rfl, rfl⟩ := some_pair h
        exact k_iret S hr hlocks hP hS rfl dX4_swear_39
      · replace h := ite_f c_24 h
        refine lv_aload_n hx hb dX4_swear_27 rfl (lv_at hl 0 rfl) ?_
        refine gt_X4_21 S hK hP dX4_swear_28 ?_
        refine lv_iload_n hx hb dX4_swear_31 rfl (lv_at hl 3 rfl) ?_
        obtain ⟨r_32, e_32, h⟩ := ob1_of h
        refine k_goI (k_runV (As := [.int x3]) (rest := []) S hK hP (k_X0_hasHour l hAd isDy_now e_32) cy_X0_hasHour wd_362 rfl (xD isDy_now) rfl hl.1 rfl (Nat.le_of_ble_eq_true rfl) dX4_swear_32 ⟨Nat.le_of_ble_eq_true rfl, Nat.le_of_ble_eq_true rfl⟩ ⟨Nat.zero_le _, Nat.zero_le _⟩) hS (fun _ h => h) (fun H locs hP hS _ _ => ?_)
        refine lv_if_ne (tgt := 40) hx hb dX4_swear_35 (by decide) (fun c_35 => ?_) (fun c_35 => ?_)
        · replace h := ite_f c_35 h
          refine lv_aload_n hx hb dX4_swear_40 rfl (lv_at hl 0 rfl) ?_
          refine gt_X4_21 S hK hP dX4_swear_41 ?_
          refine gt_X4_145 S hK hP isDy_now dX4_swear_44 ?_
          refine lv_bipush (v := (6 : Int32)) hx hb dX4_swear_47 (by decide) ?_
          refine lv_icmp_lt (tgt := 55) hx hb dX4_swear_49 (by decide) (fun c_49 => ?_) (fun c_49 => ?_)
          · replace h := ite_t c_49 h
            refine lv_aload_n hx hb dX4_swear_55 rfl (lv_at hl 0 rfl) ?_
            refine gt_X4_21 S hK hP dX4_swear_56 ?_
            refine lv_iload_n hx hb dX4_swear_59 rfl (lv_at hl 1 rfl) ?_
            refine lv_iload_n hx hb dX4_swear_60 rfl (lv_at hl 2 rfl) ?_
            refine lv_iload_n hx hb dX4_swear_61 rfl (lv_at hl 3 rfl) ?_
            obtain ⟨r_62, s_62, e_62, h⟩ := ob2_of h
            refine k_goV (k_runV (As := [.int x1, .int x2, .int x3]) (rest := []) S hK hP (k_X0_addOath l hAd isDy_now e_62) cy_X0_addOath wd_389 rfl (xD isDy_now) rfl hl.1 rfl (Nat.le_of_ble_eq_true rfl) dX4_swear_62 ⟨Nat.le_of_ble_eq_true rfl, Nat.le_of_ble_eq_true rfl⟩ ⟨Nat.zero_le _, Nat.zero_le _⟩) hS (fun _ h => h) (fun H locs hP hS _ _ => ?_)
            refine lv_aload_n hx hb dX4_swear_65 rfl (lv_at hl 0 rfl) ?_
            refine gt_X4_21 S hK hP dX4_swear_66 ?_
            refine gt_X4_145 S hK hP isDy_now dX4_swear_69 ?_
            refine lv_iconst (v := (1 : Int32)) hx hb dX4_swear_72 (by decide) ?_
            refine lv_isub hx hb dX4_swear_73 ?_
            obtain ⟨rfl, rfl⟩ := some_pair h
            exact k_iret S hr hlocks hP hS rfl dX4_swear_74
          · replace h := ite_f c_49 h
            refine lv_bipush (v := (-4 : Int32)) hx hb dX4_swear_52 (by decide) ?_
            obtain ⟨rfl, rfl⟩ := some_pair h
            exact k_iret S hr hlocks hP hS rfl dX4_swear_54
        · replace h := ite_t c_35 h
          refine lv_iconst (v := (-1 : Int32)) hx hb dX4_swear_38 (by decide) ?_
          obtain ⟨rfl, rfl⟩ := some_pair h
          exact k_iret S hr hlocks hP hS rfl dX4_swear_39
def f_X4_release (σ : SX) (x1 : Int32) : Option (Int32 × SX) := ob1 (f_X0_hasOath σ 10 x1) (fun r_5 => if r_5 = 0 then (some ((-1 : Int32), σ)) else (ob2 (f_X0_dropOath σ 10 x1) (fun r_18 s_18 => some (gF s_18 10 2, s_18))))
set_option maxRecDepth 100000 in
set_option maxHeartbeats 4000000 in
theorem k_X4_release (l : Launch) {D : va_G} {A : Nat → Prop} {cI cZ cS : ClassId} {ad : Nat → Nat} {ro : Option Nat} (hAd : ∀ ro σ, va_D A (WX cI cZ cS ad ro σ)) {σ : SX} {x1 : Int32} {σ' : SX} {r : Int32} (h : f_X4_release σ x1 = some (r, σ')) : Ct (QI D A r (WX cI cZ cS ad ro (σ'))) l yX4_release cX4_release 2 (some .int) 2 43 D (tyS cI cZ cS) A [.ref (ad 0), .int x1] (WX cI cZ cS ad ro σ) := by
  refine Ct.of (by decide +kernel) (Nat.le_of_ble_eq_true rfl) ?_
  intro p e s m below meth c ls S hK hr hlocks hP hS hl
  have hx := S.1
  have hb := S.2.1
  have hl : lv_has ls 2 [(0, .ref (ad 0)), (1, .int x1)] := hl
  rw [f_X4_release] at h
  refine lv_aload_n hx hb dX4_release_0 rfl (lv_at hl 0 rfl) ?_
  refine gt_X4_21 S hK hP dX4_release_1 ?_
  refine lv_iload_n hx hb dX4_release_4 rfl (lv_at hl 1 rfl) ?_
  obtain ⟨r_5, e_5, h⟩ := ob1_of h
  refine k_goI (k_runV (As := [.int x1]) (rest := []) S hK hP (k_X0_hasOath l hAd isDy_now e_5) cy_X0_hasOath wd_352 rfl (xD isDy_now) rfl hl.1 rfl (Nat.le_of_ble_eq_true rfl) dX4_release_5 ⟨Nat.le_of_ble_eq_true rfl, Nat.le_of_ble_eq_true rfl⟩ ⟨Nat.zero_le _, Nat.zero_le _⟩) hS (fun _ h => h) (fun H locs hP hS _ _ => ?_)
  refine lv_if_ne (tgt := 13) hx hb dX4_release_8 (by decide) (fun c_8 => ?_) (fun c_8 => ?_)
  · replace h := ite_f c_8 h
    refine lv_aload_n hx hb dX4_release_13 rfl (lv_at hl 0 rfl) ?_
    refine gt_X4_21 S hK hP dX4_release_14 ?_
    refine lv_iload_n hx hb dX4_release_17 rfl (lv_at hl 1 rfl) ?_
    obtain ⟨r_18, s_18, e_18, h⟩ := ob2_of h
    refine k_goV (k_runV (As := [.int x1]) (rest := []) S hK hP (k_X0_dropOath l hAd isDy_now e_18) cy_X0_dropOath wd_394 rfl (xD isDy_now) rfl hl.1 rfl (Nat.le_of_ble_eq_true rfl) dX4_release_18 ⟨Nat.le_of_ble_eq_true rfl, Nat.le_of_ble_eq_true rfl⟩ ⟨Nat.zero_le _, Nat.zero_le _⟩) hS (fun _ h => h) (fun H locs hP hS _ _ => ?_)
    refine lv_aload_n hx hb dX4_release_21 rfl (lv_at hl 0 rfl) ?_
    refine gt_X4_21 S hK hP dX4_release_22 ?_
    refine gt_X4_145 S hK hP isDy_now dX4_release_25 ?_
    obtain ⟨rfl, rfl⟩ := some_pair h
    exact k_iret S hr hlocks hP hS rfl dX4_release_28
  · replace h := ite_t c_8 h
    refine lv_iconst (v := (-1 : Int32)) hx hb dX4_release_11 (by decide) ?_
    obtain ⟨rfl, rfl⟩ := some_pair h
    exact k_iret S hr hlocks hP hS rfl dX4_release_12
def f_X4_hasDay (σ : SX) : Option Int32 := if (gF σ 10 1) ≤ 0 then (some (0 : Int32)) else (some (1 : Int32))
set_option maxRecDepth 100000 in
set_option maxHeartbeats 4000000 in
theorem k_X4_hasDay (l : Launch) {D : va_G} {A : Nat → Prop} {cI cZ cS : ClassId} {ad : Nat → Nat} {ro : Option Nat} (hAd : ∀ ro σ, va_D A (WX cI cZ cS ad ro σ)) {σ : SX} {r : Int32} (h : f_X4_hasDay σ = some r) : Ct (QI D A r (WX cI cZ cS ad ro σ)) l yX4_hasDay cX4_hasDay 1 (some .boolean) 0 0 D (tyS cI cZ cS) A [.ref (ad 0)] (WX cI cZ cS ad ro σ) := by
  refine Ct.of (by decide +kernel) (Nat.le_of_ble_eq_true rfl) ?_
  intro p e s m below meth c ls S hK hr hlocks hP hS hl
  have hx := S.1
  have hb := S.2.1
  have hl : lv_has ls 1 [(0, .ref (ad 0))] := hl
  rw [f_X4_hasDay] at h
  refine lv_aload_n hx hb dX4_hasDay_0 rfl (lv_at hl 0 rfl) ?_
  refine gt_X4_21 S hK hP dX4_hasDay_1 ?_
  refine gt_X4_82 S hK hP isDy_now dX4_hasDay_4 ?_
  refine lv_if_le (tgt := 14) hx hb dX4_hasDay_7 (by decide) (fun c_7 => ?_) (fun c_7 => ?_)
  · replace h := ite_t c_7 h
    refine lv_iconst (v := (0 : Int32)) hx hb dX4_hasDay_14 (by decide) ?_
    exact k_zret S hr hlocks hP hS (Option.some.inj h) (Or.inl rfl) dX4_hasDay_15
  · replace h := ite_f c_7 h
    refine lv_iconst (v := (1 : Int32)) hx hb dX4_hasDay_10 (by decide) ?_
    refine lv_goto (tgt := 15) hx hb dX4_hasDay_11 (by decide) ?_
    exact k_zret S hr hlocks hP hS (Option.some.inj h) (Or.inr rfl) dX4_hasDay_15
def f_X4_stove (σ : SX) (x1 : Int32) (x2 : Int32) : Option (Int32 × SX) := ob1 (f_X4_hasDay σ) (fun r_1 => if r_1 = 0 then (some ((-3 : Int32), σ)) else (if x1 = (-9 : Int32) then (ob2 (f_X0_putStove σ 10 (-9 : Int32) (0 : Int32)) (fun r_23 s_23 => ob1 (f_X0_bindingOaths s_23 10) (fun r_30 => ob1 (f_J6_bitCount_0f7a4 r_30) (fun r_33 => some (r_33, s_23))))) else (ob1 (f_X0_hasHour σ 10 x1) (fun r_42 => if r_42 = 0 then (some ((-1 : Int32), σ)) else (ob1 (f_X4_isDigit x2) (fun r_51 => if r_51 = 0 then (some ((-2 : Int32), σ)) else (ob2 (f_X0_putStove σ 10 x1 x2) (fun r_66 s_66 => ob1 (f_X0_bindingOaths s_66 10) (fun r_73 => ob1 (f_J6_bitCount_0f7a4 r_73) (fun r_76 => some (r_76, s_66)))))))))))
set_option maxRecDepth 100000 in
set_option maxHeartbeats 4000000 in
theorem k_X4_stove (l : Launch) {D : va_G} {A : Nat → Prop} {cI cZ cS : ClassId} {ad : Nat → Nat} {ro : Option Nat} (hAd : ∀ ro σ, va_D A (WX cI cZ cS ad ro σ)) {σ : SX} {x1 : Int32} {x2 : Int32} {σ' : SX} {r : Int32} (h : f_X4_stove σ x1 x2 = some (r, σ')) : Ct (QI D A r (WX cI cZ cS ad ro (σ'))) l yX4_stove cX4_stove 3 (some .int) 4 87 D (tyS cI cZ cS) A [.ref (ad 0), .int x1, .int x2] (WX cI cZ cS ad ro σ) := by
  refine Ct.of (by decide +kernel) (Nat.le_of_ble_eq_true rfl) ?_
  intro p e s m below meth c ls S hK hr hlocks hP hS hl
  have hx := S.1
  have hb := S.2.1
  have hl : lv_has ls 3 [(0, .ref (ad 0)), (1, .int x1), (2, .int x2)] := hl
  rw [f_X4_stove] at h
  refine lv_aload_n hx hb dX4_stove_0 rfl (lv_at hl 0 rfl) ?_
  obtain ⟨r_1, e_1, h⟩ := ob1_of h
  refine k_goI (k_runV (As := []) (rest := []) S hK hP (k_X4_hasDay l hAd e_1) cy_X4_hasDay wd_403 rfl xO rfl hl.1 rfl (Nat.le_of_ble_eq_true rfl) dX4_stove_1 ⟨Nat.le_of_ble_eq_true rfl, Nat.le_of_ble_eq_true rfl⟩ ⟨Nat.zero_le _, Nat.zero_le _⟩) hS (fun _ h => h) (fun H locs hP hS _ _ => ?_)
  refine lv_if_ne (tgt := 10) hx hb dX4_stove_4 (by decide) (fun c_4 => ?_) (fun c_4 => ?_)
  · replace h := ite_f c_4 h
    refine lv_iload_n hx hb dX4_stove_10 rfl (lv_at hl 1 rfl) ?_
    refine lv_bipush (v := (-9 : Int32)) hx hb dX4_stove_11 (by decide) ?_
    refine lv_icmp_ne (tgt := 37) hx hb dX4_stove_13 (by decide) (fun c_13 => ?_) (fun c_13 => ?_)
    · replace h := ite_f c_13 h
      refine lv_aload_n hx hb dX4_stove_37 rfl (lv_at hl 0 rfl) ?_
      refine gt_X4_21 S hK hP dX4_stove_38 ?_
      refine lv_iload_n hx hb dX4_stove_41 rfl (lv_at hl 1 rfl) ?_
      obtain ⟨r_42, e_42, h⟩ := ob1_of h
      refine k_goI (k_runV (As := [.int x1]) (rest := []) S hK hP (k_X0_hasHour l hAd isDy_now e_42) cy_X0_hasHour wd_362 rfl (xD isDy_now) rfl hl.1 rfl (Nat.le_of_ble_eq_true rfl) dX4_stove_42 ⟨Nat.le_of_ble_eq_true rfl, Nat.le_of_ble_eq_true rfl⟩ ⟨Nat.zero_le _, Nat.zero_le _⟩) hS (fun _ h => h) (fun H locs hP hS _ _ => ?_)
      refine lv_if_ne (tgt := 50) hx hb dX4_stove_45 (by decide) (fun c_45 => ?_) (fun c_45 => ?_)
      · replace h := ite_f c_45 h
        refine lv_iload_n hx hb dX4_stove_50 rfl (lv_at hl 2 rfl) ?_
        obtain ⟨r_51, e_51, h⟩ := ob1_of h
        refine k_goI (k_runS (As := [.int x2]) (rest := []) S hK hP (k_X4_isDigit l  e_51) cy_X4_isDigit wd_378 rfl hl.1 rfl (Nat.le_of_ble_eq_true rfl) dX4_stove_51 ⟨Nat.le_of_ble_eq_true rfl, Nat.le_of_ble_eq_true rfl⟩ ⟨Nat.zero_le _, Nat.zero_le _⟩) hS (fun _ h => h) (fun H locs hP hS _ _ => ?_)
        refine lv_if_ne (tgt := 60) hx hb dX4_stove_54 (by decide) (fun c_54 => ?_) (fun c_54 => ?_)
        · replace h := ite_f c_54 h
          refine lv_aload_n hx hb dX4_stove_60 rfl (lv_at hl 0 rfl) ?_
          refine gt_X4_21 S hK hP dX4_stove_61 ?_
          refine lv_iload_n hx hb dX4_stove_64 rfl (lv_at hl 1 rfl) ?_
          refine lv_iload_n hx hb dX4_stove_65 rfl (lv_at hl 2 rfl) ?_
          obtain ⟨r_66, s_66, e_66, h⟩ := ob2_of h
          refine k_goV (k_runV (As := [.int x1, .int x2]) (rest := []) S hK hP (k_X0_putStove l hAd isDy_now e_66) cy_X0_putStove wd_407 rfl (xD isDy_now) rfl hl.1 rfl (Nat.le_of_ble_eq_true rfl) dX4_stove_66 ⟨Nat.le_of_ble_eq_true rfl, Nat.le_of_ble_eq_true rfl⟩ ⟨Nat.zero_le _, Nat.zero_le _⟩) hS (fun _ h => h) (fun H locs hP hS _ _ => ?_)
          refine lv_aload_n hx hb dX4_stove_69 rfl (lv_at hl 0 rfl) ?_
          refine gt_X4_21 S hK hP dX4_stove_70 ?_
          obtain ⟨r_73, e_73, h⟩ := ob1_of h
          refine k_goI (k_runV (As := []) (rest := []) S hK hP (k_X0_bindingOaths l hAd isDy_now e_73) cy_X0_bindingOaths wd_340 rfl (xD isDy_now) rfl hl.1 rfl (Nat.le_of_ble_eq_true rfl) dX4_stove_73 ⟨Nat.le_of_ble_eq_true rfl, Nat.le_of_ble_eq_true rfl⟩ ⟨Nat.zero_le _, Nat.zero_le _⟩) hS (fun _ h => h) (fun H locs hP hS _ _ => ?_)
          obtain ⟨r_76, e_76, h⟩ := ob1_of h
          refine k_goI (k_runS (As := [.int r_73]) (rest := []) S hK hP (k_J6_bitCount_0f7a4 l  e_76) cy_J6_bitCount_0f7a4 wd_408 rfl hl.1 rfl (Nat.le_of_ble_eq_true rfl) dX4_stove_76 ⟨Nat.le_of_ble_eq_true rfl, Nat.le_of_ble_eq_true rfl⟩ ⟨Nat.zero_le _, Nat.zero_le _⟩) hS (fun _ h => h) (fun H locs hP hS _ _ => ?_)
          obtain ⟨rfl, rfl⟩ := some_pair h
          exact k_iret S hr hlocks hP hS rfl dX4_stove_79
        · replace h := ite_t c_54 h
          refine lv_bipush (v := (-2 : Int32)) hx hb dX4_stove_57 (by decide) ?_
          obtain ⟨rfl, rfl⟩ := some_pair h
          exact k_iret S hr hlocks hP hS rfl dX4_stove_59
      · replace h := ite_t c_45 h
        refine lv_iconst (v := (-1 : Int32)) hx hb dX4_stove_48 (by decide) ?_
        obtain ⟨rfl, rfl⟩ := some_pair h
        exact k_iret S hr hlocks hP hS rfl dX4_stove_49
    · replace h := ite_t c_13 h
      refine lv_aload_n hx hb dX4_stove_16 rfl (lv_at hl 0 rfl) ?_
      refine gt_X4_21 S hK hP dX4_stove_17 ?_
      refine lv_bipush (v := (-9 : Int32)) hx hb dX4_stove_20 (by decide) ?_
      refine lv_iconst (v := (0 : Int32)) hx hb dX4_stove_22 (by decide) ?_
      obtain ⟨r_23, s_23, e_23, h⟩ := ob2_of h
      refine k_goV (k_runV (As := [.int (-9 : Int32), .int (0 : Int32)]) (rest := []) S hK hP (k_X0_putStove l hAd isDy_now e_23) cy_X0_putStove wd_407 rfl (xD isDy_now) rfl hl.1 rfl (Nat.le_of_ble_eq_true rfl) dX4_stove_23 ⟨Nat.le_of_ble_eq_true rfl, Nat.le_of_ble_eq_true rfl⟩ ⟨Nat.zero_le _, Nat.zero_le _⟩) hS (fun _ h => h) (fun H locs hP hS _ _ => ?_)
      refine lv_aload_n hx hb dX4_stove_26 rfl (lv_at hl 0 rfl) ?_
      refine gt_X4_21 S hK hP dX4_stove_27 ?_
      obtain ⟨r_30, e_30, h⟩ := ob1_of h
      refine k_goI (k_runV (As := []) (rest := []) S hK hP (k_X0_bindingOaths l hAd isDy_now e_30) cy_X0_bindingOaths wd_340 rfl (xD isDy_now) rfl hl.1 rfl (Nat.le_of_ble_eq_true rfl) dX4_stove_30 ⟨Nat.le_of_ble_eq_true rfl, Nat.le_of_ble_eq_true rfl⟩ ⟨Nat.zero_le _, Nat.zero_le _⟩) hS (fun _ h => h) (fun H locs hP hS _ _ => ?_)
      obtain ⟨r_33, e_33, h⟩ := ob1_of h
      refine k_goI (k_runS (As := [.int r_30]) (rest := []) S hK hP (k_J6_bitCount_0f7a4 l  e_33) cy_J6_bitCount_0f7a4 wd_408 rfl hl.1 rfl (Nat.le_of_ble_eq_true rfl) dX4_stove_33 ⟨Nat.le_of_ble_eq_true rfl, Nat.le_of_ble_eq_true rfl⟩ ⟨Nat.zero_le _, Nat.zero_le _⟩) hS (fun _ h => h) (fun H locs hP hS _ _ => ?_)
      obtain ⟨rfl, rfl⟩ := some_pair h
      exact k_iret S hr hlocks hP hS rfl dX4_stove_36
  · replace h := ite_t c_4 h
    refine lv_bipush (v := (-3 : Int32)) hx hb dX4_stove_7 (by decide) ?_
    obtain ⟨rfl, rfl⟩ := some_pair h
    exact k_iret S hr hlocks hP hS rfl dX4_stove_9
def f_X4_isCase_L2 (σ : SX) (b1 : Nat) : Nat → Int32 → Int32 → Int32 → Option Int32
  | 0, _, _, _ => none
  | n + 1, y1, y2, y3 => if y2 ≤ y3 then (some (1 : Int32)) else (ob1 (f_X3_at σ b1 (y1 + ((2 : Int32) * y3))) (fun r_13 => ob1 (f_X3_at σ b1 ((y1 + ((2 : Int32) * y3)) + (1 : Int32))) (fun r_24 => ob1 (f_X4_isAct r_13 r_24) (fun r_27 => if r_27 = 0 then (some (0 : Int32)) else (f_X4_isCase_L2 σ b1 n y1 y2 (y3 + (1 : Int32)))))))
def f_X4_isCase (σ : SX) (b1 : Nat) (x2 : Int32) (x3 : Int32) : Option Int32 := f_X4_isCase_L2 σ b1 100 x2 x3 (0 : Int32)
set_option maxRecDepth 100000 in
set_option maxHeartbeats 4000000 in
theorem k_X4_isCase (l : Launch) {D : va_G} {A : Nat → Prop} {cI cZ cS : ClassId} {ad : Nat → Nat} {ro : Option Nat} (hAd : ∀ ro σ, va_D A (WX cI cZ cS ad ro σ)) {σ : SX} {b1 : Nat} {x2 : Int32} {x3 : Int32} {r : Int32} (hb1 : isSh b1) (h : f_X4_isCase σ b1 x2 x3 = some r) : Ct (QI D A r (WX cI cZ cS ad ro σ)) l yX4_isCase cX4_isCase 4 (some .boolean) 2 42 D (tyS cI cZ cS) A [.ref (ad b1), .int x2, .int x3] (WX cI cZ cS ad ro σ) := by
  refine Ct.of (by decide +kernel) (Nat.le_of_ble_eq_true rfl) ?_
  intro p e s m below meth c ls S hK hr hlocks hP hS hl
  have hx := S.1
  have hb := S.2.1
  have hl : lv_has ls 4 [(0, .ref (ad b1)), (1, .int x2), (2, .int x3)] := hl
  have loop2 : ∀ (n : Nat) (y1 : Int32) (y2 : Int32) (y3 : Int32) (H : Heap) (locs : List Loc) (ls : Array Slot), f_X4_isCase_L2 σ b1 n y1 y2 y3 = some r → va_P D vwCl (WX cI cZ cS ad ro σ) H → va_S A s.heap H locs → lv_has ls 4 [(0, .ref (ad b1)), (1, .int y1), (2, .int y2), (3, .int y3)] → W p l e (rmO 2 42) s m [.ref (ad b1), .int x2, .int x3].toArray below meth c H locs 0 0 (MQ below (QI D A r (WX cI cZ cS ad ro σ)) [.ref (ad b1), .int x2, .int x3].toArray s 0 0 A) (F0 m 2 ls []) := by
    intro n
    induction n with
    | zero => intro y1 y2 y3 H locs ls h; cases h
    | succ n ih =>
      intro y1 y2 y3 H locs ls h hP hS hl
      rw [f_X4_isCase_L2] at h
      refine lv_iload_n hx hb dX4_isCase_2 rfl (lv_at hl 3 rfl) ?_
      refine lv_iload_n hx hb dX4_isCase_3 rfl (lv_at hl 2 rfl) ?_
      refine lv_icmp_ge (tgt := 41) hx hb dX4_isCase_4 (by decide) (fun c_4 => ?_) (fun c_4 => ?_)
      · replace h := ite_t c_4 h
        refine lv_iconst (v := (1 : Int32)) hx hb dX4_isCase_41 (by decide) ?_
        exact k_zret S hr hlocks hP hS (Option.some.inj h) (Or.inr rfl) dX4_isCase_42
      · replace h := ite_f c_4 h
        refine lv_aload_n hx hb dX4_isCase_7 rfl (lv_at hl 0 rfl) ?_
        refine lv_iload_n hx hb dX4_isCase_8 rfl (lv_at hl 1 rfl) ?_
        refine lv_iconst (v := (2 : Int32)) hx hb dX4_isCase_9 (by decide) ?_
        refine lv_iload_n hx hb dX4_isCase_10 rfl (lv_at hl 3 rfl) ?_
        refine lv_imul hx hb dX4_isCase_11 ?_
        refine lv_iadd hx hb dX4_isCase_12 ?_
        obtain ⟨r_13, e_13, h⟩ := ob1_of h
        refine k_goI (k_runV (As := [.int (y1 + ((2 : Int32) * y3))]) (rest := []) S hK hP (k_X3_at l hAd hb1 e_13) cy_X3_at wd_424 rfl (xS hb1) rfl hl.1 rfl (Nat.le_of_ble_eq_true rfl) dX4_isCase_13 ⟨Nat.le_of_ble_eq_true rfl, Nat.le_of_ble_eq_true rfl⟩ ⟨Nat.zero_le _, Nat.zero_le _⟩) hS (fun _ h => h) (fun H locs hP hS _ _ => ?_)
        refine lv_aload_n hx hb dX4_isCase_16 rfl (lv_at hl 0 rfl) ?_
        refine lv_iload_n hx hb dX4_isCase_17 rfl (lv_at hl 1 rfl) ?_
        refine lv_iconst (v := (2 : Int32)) hx hb dX4_isCase_18 (by decide) ?_
        refine lv_iload_n hx hb dX4_isCase_19 rfl (lv_at hl 3 rfl) ?_
        refine lv_imul hx hb dX4_isCase_20 ?_
        refine lv_iadd hx hb dX4_isCase_21 ?_
        refine lv_iconst (v := (1 : Int32)) hx hb dX4_isCase_22 (by decide) ?_
        refine lv_iadd hx hb dX4_isCase_23 ?_
        obtain ⟨r_24, e_24, h⟩ := ob1_of h
        refine k_goI (k_runV (As := [.int ((y1 + ((2 : Int32) * y3)) + (1 : Int32))]) (rest := [.int r_13]) S hK hP (k_X3_at l hAd hb1 e_24) cy_X3_at wd_424 rfl (xS hb1) rfl hl.1 rfl (Nat.le_of_ble_eq_true rfl) dX4_isCase_24 ⟨Nat.le_of_ble_eq_true rfl, Nat.le_of_ble_eq_true rfl⟩ ⟨Nat.zero_le _, Nat.zero_le _⟩) hS (fun _ h => h) (fun H locs hP hS _ _ => ?_)
        obtain ⟨r_27, e_27, h⟩ := ob1_of h
        refine k_goI (k_runS (As := [.int r_13, .int r_24]) (rest := []) S hK hP (k_X4_isAct l  e_27) cy_X4_isAct wd_425 rfl hl.1 rfl (Nat.le_of_ble_eq_true rfl) dX4_isCase_27 ⟨Nat.le_of_ble_eq_true rfl, Nat.le_of_ble_eq_true rfl⟩ ⟨Nat.zero_le _, Nat.zero_le _⟩) hS (fun _ h => h) (fun H locs hP hS _ _ => ?_)
        refine lv_if_ne (tgt := 35) hx hb dX4_isCase_30 (by decide) (fun c_30 => ?_) (fun c_30 => ?_)
        · replace h := ite_f c_30 h
          refine lv_iinc (v := y3 + (1 : Int32)) (lv' := [(3, .int (y3 + (1 : Int32))), (0, .ref (ad b1)), (1, .int y1), (2, .int y2)]) hx hb dX4_isCase_35 hl (k := 3) rfl rfl (by decide) rfl (fun ls hl => ?_)
          refine lv_goto (tgt := 2) hx hb dX4_isCase_38 (by decide) ?_
          exact ih y1 y2 (y3 + (1 : Int32)) _ _ _ h hP hS (lv_sub hl [1, 2, 3, 0] rfl)
        · replace h := ite_t c_30 h
          refine lv_iconst (v := (0 : Int32)) hx hb dX4_isCase_33 (by decide) ?_
          exact k_zret S hr hlocks hP hS (Option.some.inj h) (Or.inl rfl) dX4_isCase_34
  rw [f_X4_isCase] at h
  refine lv_iconst (v := (0 : Int32)) hx hb dX4_isCase_0 (by decide) ?_
  refine lv_istore_n (lv' := [(3, .int (0 : Int32)), (0, .ref (ad b1)), (1, .int x2), (2, .int x3)]) hx hb dX4_isCase_1 rfl hl (by decide) rfl (fun ls hl => ?_)
  exact loop2 100 x2 x3 (0 : Int32) _ _ _ h hP hS (lv_sub hl [1, 2, 3, 0] rfl)
def f_X4_playCase_L3 (b1 : Nat) : Nat → SX → Int32 → Int32 → Int32 → Option (Int32 × SX)
  | 0, _, _, _, _ => none
  | n + 1, σ, y2, y3, y4 => if y3 ≤ y4 then (some ((-9 : Int32), σ)) else (ob1 (f_X3_at σ b1 (y2 + ((2 : Int32) * y4))) (fun r_20 => ob1 (f_X3_at σ b1 ((y2 + ((2 : Int32) * y4)) + (1 : Int32))) (fun r_32 => ob2 (f_X0_takesAct σ 17 r_20 r_32) (fun r_35 s_35 => if r_35 = 0 then (some (y4, s_35)) else (f_X4_playCase_L3 b1 n s_35 y2 y3 (y4 + (1 : Int32)))))))
def f_X4_playCase (σ : SX) (b1 : Nat) (x2 : Int32) (x3 : Int32) : Option (Int32 × SX) := f_X4_playCase_L3 b1 100 σ x2 x3 (0 : Int32)
set_option maxRecDepth 100000 in
set_option maxHeartbeats 4000000 in
theorem k_X4_playCase (l : Launch) {D : va_G} {A : Nat → Prop} {cI cZ cS : ClassId} {ad : Nat → Nat} {ro : Option Nat} (hAd : ∀ ro σ, va_D A (WX cI cZ cS ad ro σ)) {σ : SX} {b1 : Nat} {x2 : Int32} {x3 : Int32} {σ' : SX} {r : Int32} (hb1 : isSh b1) (h : f_X4_playCase σ b1 x2 x3 = some (r, σ')) : Ct (QI D A r (WX cI cZ cS ad ro (σ'))) l yX4_playCase cX4_playCase 5 (some .int) 3 67 D (tyS cI cZ cS) A [.ref (ad 0), .ref (ad b1), .int x2, .int x3] (WX cI cZ cS ad ro σ) := by
  refine Ct.of (by decide +kernel) (Nat.le_of_ble_eq_true rfl) ?_
  intro p e s m below meth c ls S hK hr hlocks hP hS hl
  have hx := S.1
  have hb := S.2.1
  have hl : lv_has ls 5 [(0, .ref (ad 0)), (1, .ref (ad b1)), (2, .int x2), (3, .int x3)] := hl
  have loop3 : ∀ (n : Nat) (σ : SX) (y2 : Int32) (y3 : Int32) (y4 : Int32) (H : Heap) (locs : List Loc) (ls : Array Slot), f_X4_playCase_L3 b1 n σ y2 y3 y4 = some (r, σ') → va_P D vwCl (WX cI cZ cS ad ro σ) H → va_S A s.heap H locs → lv_has ls 5 [(0, .ref (ad 0)), (1, .ref (ad b1)), (2, .int y2), (3, .int y3), (4, .int y4)] → W p l e (rmO 3 67) s m [.ref (ad 0), .ref (ad b1), .int x2, .int x3].toArray below meth c H locs 0 0 (MQ below (QI D A r (WX cI cZ cS ad ro (σ'))) [.ref (ad 0), .ref (ad b1), .int x2, .int x3].toArray s 0 0 A) (F0 m 3 ls []) := by
    intro n
    induction n with
    | zero => intro σ y2 y3 y4 H locs ls h; cases h
    | succ n ih =>
      intro σ y2 y3 y4 H locs ls h hP hS hl
      rw [f_X4_playCase_L3] at h
      refine lv_iload hx hb dX4_playCase_3 (lv_at hl 4 rfl) ?_
      refine lv_iload_n hx hb dX4_playCase_5 rfl (lv_at hl 3 rfl) ?_
      refine lv_icmp_ge (tgt := 50) hx hb dX4_playCase_6 (by decide) (fun c_6 => ?_) (fun c_6 => ?_)
      · replace h := ite_t c_6 h
        refine lv_bipush (v := (-9 : Int32)) hx hb dX4_playCase_50 (by decide) ?_
        obtain ⟨rfl, rfl⟩ := some_pair h
        exact k_iret S hr hlocks hP hS rfl dX4_playCase_52
      · replace h := ite_f c_6 h
        refine lv_aload_n hx hb dX4_playCase_9 rfl (lv_at hl 0 rfl) ?_
        refine gt_X4_25 S hK hP dX4_playCase_10 ?_
        refine lv_aload_n hx hb dX4_playCase_13 rfl (lv_at hl 1 rfl) ?_
        refine lv_iload_n hx hb dX4_playCase_14 rfl (lv_at hl 2 rfl) ?_
        refine lv_iconst (v := (2 : Int32)) hx hb dX4_playCase_15 (by decide) ?_
        refine lv_iload hx hb dX4_playCase_16 (lv_at hl 4 rfl) ?_
        refine lv_imul hx hb dX4_playCase_18 ?_
        refine lv_iadd hx hb dX4_playCase_19 ?_
        obtain ⟨r_20, e_20, h⟩ := ob1_of h
        refine k_goI (k_runV (As := [.int (y2 + ((2 : Int32) * y4))]) (rest := [.ref (ad 17)]) S hK hP (k_X3_at l hAd hb1 e_20) cy_X3_at wd_424 rfl (xS hb1) rfl hl.1 rfl (Nat.le_of_ble_eq_true rfl) dX4_playCase_20 ⟨Nat.le_of_ble_eq_true rfl, Nat.le_of_ble_eq_true rfl⟩ ⟨Nat.zero_le _, Nat.zero_le _⟩) hS (fun _ h => h) (fun H locs hP hS _ _ => ?_)
        refine lv_aload_n hx hb dX4_playCase_23 rfl (lv_at hl 1 rfl) ?_
        refine lv_iload_n hx hb dX4_playCase_24 rfl (lv_at hl 2 rfl) ?_
        refine lv_iconst (v := (2 : Int32)) hx hb dX4_playCase_25 (by decide) ?_
        refine lv_iload hx hb dX4_playCase_26 (lv_at hl 4 rfl) ?_
        refine lv_imul hx hb dX4_playCase_28 ?_
        refine lv_iadd hx hb dX4_playCase_29 ?_
        refine lv_iconst (v := (1 : Int32)) hx hb dX4_playCase_30 (by decide) ?_
        refine lv_iadd hx hb dX4_playCase_31 ?_
        obtain ⟨r_32, e_32, h⟩ := ob1_of h
        refine k_goI (k_runV (As := [.int ((y2 + ((2 : Int32) * y4)) + (1 : Int32))]) (rest := [.int r_20, .ref (ad 17)]) S hK hP (k_X3_at l hAd hb1 e_32) cy_X3_at wd_424 rfl (xS hb1) rfl hl.1 rfl (Nat.le_of_ble_eq_true rfl) dX4_playCase_32 ⟨Nat.le_of_ble_eq_true rfl, Nat.le_of_ble_eq_true rfl⟩ ⟨Nat.zero_le _, Nat.zero_le _⟩) hS (fun _ h => h) (fun H locs hP hS _ _ => ?_)
        obtain ⟨r_35, s_35, e_35, h⟩ := ob2_of h
        refine k_goI (k_runV (As := [.int r_20, .int r_32]) (rest := []) S hK hP (k_X0_takesAct l hAd isDy_draft e_35) cy_X0_takesAct wd_432 rfl (xD isDy_draft) rfl hl.1 rfl (Nat.le_of_ble_eq_true rfl) dX4_playCase_35 ⟨Nat.le_of_ble_eq_true rfl, Nat.le_of_ble_eq_true rfl⟩ ⟨Nat.zero_le _, Nat.zero_le _⟩) hS (fun _ h => h) (fun H locs hP hS _ _ => ?_)
        refine lv_if_ne (tgt := 44) hx hb dX4_playCase_38 (by decide) (fun c_38 => ?_) (fun c_38 => ?_)
        · replace h := ite_f c_38 h
          refine lv_iinc (v := y4 + (1 : Int32)) (lv' := [(4, .int (y4 + (1 : Int32))), (0, .ref (ad 0)), (1, .ref (ad b1)), (2, .int y2), (3, .int y3)]) hx hb dX4_playCase_44 hl (k := 4) rfl rfl (by decide) rfl (fun ls hl => ?_)
          refine lv_goto (tgt := 3) hx hb dX4_playCase_47 (by decide) ?_
          exact ih s_35 y2 y3 (y4 + (1 : Int32)) _ _ _ h hP hS (lv_sub hl [1, 2, 3, 4, 0] rfl)
        · replace h := ite_t c_38 h
          refine lv_iload hx hb dX4_playCase_41 (lv_at hl 4 rfl) ?_
          obtain ⟨rfl, rfl⟩ := some_pair h
          exact k_iret S hr hlocks hP hS rfl dX4_playCase_43
  rw [f_X4_playCase] at h
  refine lv_iconst (v := (0 : Int32)) hx hb dX4_playCase_0 (by decide) ?_
  refine lv_istore (lv' := [(4, .int (0 : Int32)), (0, .ref (ad 0)), (1, .ref (ad b1)), (2, .int x2), (3, .int x3)]) hx hb dX4_playCase_1 hl (by decide) rfl (fun ls hl => ?_)
  exact loop3 100 σ x2 x3 (0 : Int32) _ _ _ h hP hS (lv_sub hl [1, 2, 3, 4, 0] rfl)
def f_X4_ofCase (σ : SX) (x1 : Int32) : Option Int32 := if x1 = (0 : Int32) then (ob1 (f_X0_bindingOaths σ 17) (fun r_40 => some r_40)) else (if x1 = (1 : Int32) then (ob1 (f_X0_hasSwearer σ 17 (x1 - (10 : Int32))) (fun r_79 => if r_79 = 0 then (some (-9 : Int32)) else (ob1 (f_X0_coldHours σ 17 (x1 - (10 : Int32))) (fun r_93 => some r_93)))) else (if x1 = (2 : Int32) then (some (gF σ 17 2)) else (if x1 = (3 : Int32) then (ob1 (f_X0_timesCold σ 17) (fun r_56 => some r_56)) else (if x1 = (4 : Int32) then (ob1 (f_X0_leastToLetGo σ 17) (fun r_64 => ob1 (f_J6_bitCount_0f7a4 r_64) (fun r_67 => some r_67))) else (ob1 (f_X0_hasSwearer σ 17 (x1 - (10 : Int32))) (fun r_79 => if r_79 = 0 then (some (-9 : Int32)) else (ob1 (f_X0_coldHours σ 17 (x1 - (10 : Int32))) (fun r_93 => some r_93))))))))
set_option maxRecDepth 100000 in
set_option maxHeartbeats 4000000 in
theorem k_X4_ofCase (l : Launch) {D : va_G} {A : Nat → Prop} {cI cZ cS : ClassId} {ad : Nat → Nat} {ro : Option Nat} (hAd : ∀ ro σ, va_D A (WX cI cZ cS ad ro σ)) {σ : SX} {x1 : Int32} {r : Int32} (h : f_X4_ofCase σ x1 = some r) : Ct (QI D A r (WX cI cZ cS ad ro σ)) l yX4_ofCase cX4_ofCase 2 (some .int) 5 111 D (tyS cI cZ cS) A [.ref (ad 0), .int x1] (WX cI cZ cS ad ro σ) := by
  refine Ct.of (by decide +kernel) (Nat.le_of_ble_eq_true rfl) ?_
  intro p e s m below meth c ls S hK hr hlocks hP hS hl
  have hx := S.1
  have hb := S.2.1
  have hl : lv_has ls 2 [(0, .ref (ad 0)), (1, .int x1)] := hl
  rw [f_X4_ofCase] at h
  refine lv_iload_n hx hb dX4_ofCase_0 rfl (lv_at hl 1 rfl) ?_
  by_cases c_1_0 : x1 = (0 : Int32)
  · replace h := ite_t c_1_0 h
    refine lv_tableIn (tgt := 36) hx hb dX4_ofCase_1 (by rw [c_1_0]; decide) (by rw [c_1_0]; decide) (by rw [c_1_0] <;> rfl) (by decide) ?_
    refine lv_aload_n hx hb dX4_ofCase_36 rfl (lv_at hl 0 rfl) ?_
    refine gt_X4_25 S hK hP dX4_ofCase_37 ?_
    obtain ⟨r_40, e_40, h⟩ := ob1_of h
    refine k_goI (k_runV (As := []) (rest := []) S hK hP (k_X0_bindingOaths l hAd isDy_draft e_40) cy_X0_bindingOaths wd_340 rfl (xD isDy_draft) rfl hl.1 rfl (Nat.le_of_ble_eq_true rfl) dX4_ofCase_40 ⟨Nat.le_of_ble_eq_true rfl, Nat.le_of_ble_eq_true rfl⟩ ⟨Nat.zero_le _, Nat.zero_le _⟩) hS (fun _ h => h) (fun H locs hP hS _ _ => ?_)
    exact k_iret S hr hlocks hP hS (Option.some.inj h) dX4_ofCase_43
  · replace h := ite_f c_1_0 h
    by_cases c_1_1 : x1 = (1 : Int32)
    · replace h := ite_t c_1_1 h
      refine lv_tableIn (tgt := 71) hx hb dX4_ofCase_1 (by rw [c_1_1]; decide) (by rw [c_1_1]; decide) (by rw [c_1_1] <;> rfl) (by decide) ?_
      refine lv_aload_n hx hb dX4_ofCase_71 rfl (lv_at hl 0 rfl) ?_
      refine gt_X4_25 S hK hP dX4_ofCase_72 ?_
      refine lv_iload_n hx hb dX4_ofCase_75 rfl (lv_at hl 1 rfl) ?_
      refine lv_bipush (v := (10 : Int32)) hx hb dX4_ofCase_76 (by decide) ?_
      refine lv_isub hx hb dX4_ofCase_78 ?_
      obtain ⟨r_79, e_79, h⟩ := ob1_of h
      refine k_goI (k_runV (As := [.int (x1 - (10 : Int32))]) (rest := []) S hK hP (k_X0_hasSwearer l hAd isDy_draft e_79) cy_X0_hasSwearer wd_315 rfl (xD isDy_draft) rfl hl.1 rfl (Nat.le_of_ble_eq_true rfl) dX4_ofCase_79 ⟨Nat.le_of_ble_eq_true rfl, Nat.le_of_ble_eq_true rfl⟩ ⟨Nat.zero_le _, Nat.zero_le _⟩) hS (fun _ h => h) (fun H locs hP hS _ _ => ?_)
      refine lv_if_eq (tgt := 99) hx hb dX4_ofCase_82 (by decide) (fun c_82 => ?_) (fun c_82 => ?_)
      · replace h := ite_t c_82 h
        refine lv_bipush (v := (-9 : Int32)) hx hb dX4_ofCase_99 (by decide) ?_
        exact k_iret S hr hlocks hP hS (Option.some.inj h) dX4_ofCase_101
      · replace h := ite_f c_82 h
        refine lv_aload_n hx hb dX4_ofCase_85 rfl (lv_at hl 0 rfl) ?_
        refine gt_X4_25 S hK hP dX4_ofCase_86 ?_
        refine lv_iload_n hx hb dX4_ofCase_89 rfl (lv_at hl 1 rfl) ?_
        refine lv_bipush (v := (10 : Int32)) hx hb dX4_ofCase_90 (by decide) ?_
        refine lv_isub hx hb dX4_ofCase_92 ?_
        obtain ⟨r_93, e_93, h⟩ := ob1_of h
        refine k_goI (k_runV (As := [.int (x1 - (10 : Int32))]) (rest := []) S hK hP (k_X0_coldHours l hAd isDy_draft e_93) cy_X0_coldHours wd_323 rfl (xD isDy_draft) rfl hl.1 rfl (Nat.le_of_ble_eq_true rfl) dX4_ofCase_93 ⟨Nat.le_of_ble_eq_true rfl, Nat.le_of_ble_eq_true rfl⟩ ⟨Nat.zero_le _, Nat.zero_le _⟩) hS (fun _ h => h) (fun H locs hP hS _ _ => ?_)
        refine lv_goto (tgt := 101) hx hb dX4_ofCase_96 (by decide) ?_
        exact k_iret S hr hlocks hP hS (Option.some.inj h) dX4_ofCase_101
    · replace h := ite_f c_1_1 h
      by_cases c_1_2 : x1 = (2 : Int32)
      · replace h := ite_t c_1_2 h
        refine lv_tableIn (tgt := 44) hx hb dX4_ofCase_1 (by rw [c_1_2]; decide) (by rw [c_1_2]; decide) (by rw [c_1_2] <;> rfl) (by decide) ?_
        refine lv_aload_n hx hb dX4_ofCase_44 rfl (lv_at hl 0 rfl) ?_
        refine gt_X4_25 S hK hP dX4_ofCase_45 ?_
        refine gt_X4_145 S hK hP isDy_draft dX4_ofCase_48 ?_
        exact k_iret S hr hlocks hP hS (Option.some.inj h) dX4_ofCase_51
      · replace h := ite_f c_1_2 h
        by_cases c_1_3 : x1 = (3 : Int32)
        · replace h := ite_t c_1_3 h
          refine lv_tableIn (tgt := 52) hx hb dX4_ofCase_1 (by rw [c_1_3]; decide) (by rw [c_1_3]; decide) (by rw [c_1_3] <;> rfl) (by decide) ?_
          refine lv_aload_n hx hb dX4_ofCase_52 rfl (lv_at hl 0 rfl) ?_
          refine gt_X4_25 S hK hP dX4_ofCase_53 ?_
          obtain ⟨r_56, e_56, h⟩ := ob1_of h
          refine k_goI (k_runV (As := []) (rest := []) S hK hP (k_X0_timesCold l hAd isDy_draft e_56) cy_X0_timesCold wd_455 rfl (xD isDy_draft) rfl hl.1 rfl (Nat.le_of_ble_eq_true rfl) dX4_ofCase_56 ⟨Nat.le_of_ble_eq_true rfl, Nat.le_of_ble_eq_true rfl⟩ ⟨Nat.zero_le _, Nat.zero_le _⟩) hS (fun _ h => h) (fun H locs hP hS _ _ => ?_)
          exact k_iret S hr hlocks hP hS (Option.some.inj h) dX4_ofCase_59
        · replace h := ite_f c_1_3 h
          by_cases c_1_4 : x1 = (4 : Int32)
          · replace h := ite_t c_1_4 h
            refine lv_tableIn (tgt := 60) hx hb dX4_ofCase_1 (by rw [c_1_4]; decide) (by rw [c_1_4]; decide) (by rw [c_1_4] <;> rfl) (by decide) ?_
            refine lv_aload_n hx hb dX4_ofCase_60 rfl (lv_at hl 0 rfl) ?_
            refine gt_X4_25 S hK hP dX4_ofCase_61 ?_
            obtain ⟨r_64, e_64, h⟩ := ob1_of h
            refine k_goI (k_runV (As := []) (rest := []) S hK hP (k_X0_leastToLetGo l hAd isDy_draft e_64) cy_X0_leastToLetGo wd_461 rfl (xD isDy_draft) rfl hl.1 rfl (Nat.le_of_ble_eq_true rfl) dX4_ofCase_64 ⟨Nat.le_of_ble_eq_true rfl, Nat.le_of_ble_eq_true rfl⟩ ⟨Nat.zero_le _, Nat.zero_le _⟩) hS (fun _ h => h) (fun H locs hP hS _ _ => ?_)
            obtain ⟨r_67, e_67, h⟩ := ob1_of h
            refine k_goI (k_runS (As := [.int r_64]) (rest := []) S hK hP (k_J6_bitCount_0f7a4 l  e_67) cy_J6_bitCount_0f7a4 wd_408 rfl hl.1 rfl (Nat.le_of_ble_eq_true rfl) dX4_ofCase_67 ⟨Nat.le_of_ble_eq_true rfl, Nat.le_of_ble_eq_true rfl⟩ ⟨Nat.zero_le _, Nat.zero_le _⟩) hS (fun _ h => h) (fun H locs hP hS _ _ => ?_)
            exact k_iret S hr hlocks hP hS (Option.some.inj h) dX4_ofCase_70
          · replace h := ite_f c_1_4 h
            have n_1_0 := lv_neT c_1_0 (a := 0) rfl
            have n_1_1 := lv_neT c_1_1 (a := 1) rfl
            have n_1_2 := lv_neT c_1_2 (a := 2) rfl
            have n_1_3 := lv_neT c_1_3 (a := 3) rfl
            have n_1_4 := lv_neT c_1_4 (a := 4) rfl
            refine lv_tableOut (tgt := 71) hx hb dX4_ofCase_1 (by omega) (by decide) ?_
            refine lv_aload_n hx hb dX4_ofCase_71 rfl (lv_at hl 0 rfl) ?_
            refine gt_X4_25 S hK hP dX4_ofCase_72 ?_
            refine lv_iload_n hx hb dX4_ofCase_75 rfl (lv_at hl 1 rfl) ?_
            refine lv_bipush (v := (10 : Int32)) hx hb dX4_ofCase_76 (by decide) ?_
            refine lv_isub hx hb dX4_ofCase_78 ?_
            obtain ⟨r_79, e_79, h⟩ := ob1_of h
            refine k_goI (k_runV (As := [.int (x1 - (10 : Int32))]) (rest := []) S hK hP (k_X0_hasSwearer l hAd isDy_draft e_79) cy_X0_hasSwearer wd_315 rfl (xD isDy_draft) rfl hl.1 rfl (Nat.le_of_ble_eq_true rfl) dX4_ofCase_79 ⟨Nat.le_of_ble_eq_true rfl, Nat.le_of_ble_eq_true rfl⟩ ⟨Nat.zero_le _, Nat.zero_le _⟩) hS (fun _ h => h) (fun H locs hP hS _ _ => ?_)
            refine lv_if_eq (tgt := 99) hx hb dX4_ofCase_82 (by decide) (fun c_82 => ?_) (fun c_82 => ?_)
            · replace h := ite_t c_82 h
              refine lv_bipush (v := (-9 : Int32)) hx hb dX4_ofCase_99 (by decide) ?_
              exact k_iret S hr hlocks hP hS (Option.some.inj h) dX4_ofCase_101
            · replace h := ite_f c_82 h
              refine lv_aload_n hx hb dX4_ofCase_85 rfl (lv_at hl 0 rfl) ?_
              refine gt_X4_25 S hK hP dX4_ofCase_86 ?_
              refine lv_iload_n hx hb dX4_ofCase_89 rfl (lv_at hl 1 rfl) ?_
              refine lv_bipush (v := (10 : Int32)) hx hb dX4_ofCase_90 (by decide) ?_
              refine lv_isub hx hb dX4_ofCase_92 ?_
              obtain ⟨r_93, e_93, h⟩ := ob1_of h
              refine k_goI (k_runV (As := [.int (x1 - (10 : Int32))]) (rest := []) S hK hP (k_X0_coldHours l hAd isDy_draft e_93) cy_X0_coldHours wd_323 rfl (xD isDy_draft) rfl hl.1 rfl (Nat.le_of_ble_eq_true rfl) dX4_ofCase_93 ⟨Nat.le_of_ble_eq_true rfl, Nat.le_of_ble_eq_true rfl⟩ ⟨Nat.zero_le _, Nat.zero_le _⟩) hS (fun _ h => h) (fun H locs hP hS _ _ => ?_)
              refine lv_goto (tgt := 101) hx hb dX4_ofCase_96 (by decide) ?_
              exact k_iret S hr hlocks hP hS (Option.some.inj h) dX4_ofCase_101
