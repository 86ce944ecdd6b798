def f_X4_trial (σ : SX) (x1 : Int32) (x2 : Int32) (x3 : Int32) (x4 : Int32) (x5 : Int32) : Option (Int32 × SX) := ob1 (f_X4_isSheet x1) (fun r_6 => if r_6 = 0 then (some ((-1 : Int32), sF σ 0 6 (0 : Int32))) else (ob1 (f_X4_isLane x2) (fun r_15 => if r_15 = 0 then (some ((-2 : Int32), sF σ 0 6 (0 : Int32))) else (if x4 < 0 then (some ((-2 : Int32), sF σ 0 6 (0 : Int32))) else (if (20 : Int32) < x4 then (some ((-2 : Int32), sF σ 0 6 (0 : Int32))) else (ob1 (f_X4_isOfTrial x5) (fun r_35 => if r_35 = 0 then (some ((-2 : Int32), sF σ 0 6 (0 : Int32))) else (oin x1 4 (ob1 (f_X3_faultAs (sF σ 0 6 (0 : Int32)) (2 + 2 * x1.toNatClampNeg) x2) (fun r_55 => if r_55 = 0 then (ob1 (f_X3_hasCells (sF σ 0 6 (0 : Int32)) (2 + 2 * x1.toNatClampNeg) x3 ((2 : Int32) * x4)) (fun r_72 => if r_72 = 0 then (ob2 (f_X4_failed (sF σ 0 6 (0 : Int32)) (3 : Int32)) (fun r_89 s_89 => some (r_89, s_89))) else (if r_55 = 0 then (ob1 (f_X4_hasDay (sF σ 0 6 (0 : Int32))) (fun r_94 => if r_94 = 0 then (some ((-3 : Int32), sF σ 0 6 (0 : Int32))) else (ob1 (f_X4_isCase (sF σ 0 6 (0 : Int32)) (2 + 2 * x1.toNatClampNeg) x3 x4) (fun r_108 => if r_108 = 0 then (some ((-2 : Int32), sF σ 0 6 (0 : Int32))) else (ob2 (f_X0_become (sF σ 0 6 (0 : Int32)) 17 10) (fun r_125 s_125 => ob2 (f_X4_playCase s_125 (2 + 2 * x1.toNatClampNeg) x3 x4) (fun r_134 s_134 => if x5 = (1 : Int32) then (some (r_134, s_134)) else (if r_134 = (-9 : Int32) then (ob1 (f_X4_ofCase s_134 x5) (fun r_158 => some (r_158, s_134))) else (some ((-100 : Int32) - r_134, s_134)))))))))) else (ob2 (f_X4_failed (sF σ 0 6 (0 : Int32)) r_55) (fun r_89 s_89 => some (r_89, s_89)))))) else (if r_55 = 0 then (ob1 (f_X4_hasDay (sF σ 0 6 (0 : Int32))) (fun r_94 => if r_94 = 0 then (some ((-3 : Int32), sF σ 0 6 (0 : Int32))) else (ob1 (f_X4_isCase (sF σ 0 6 (0 : Int32)) (2 + 2 * x1.toNatClampNeg) x3 x4) (fun r_108 => if r_108 = 0 then (some ((-2 : Int32), sF σ 0 6 (0 : Int32))) else (ob2 (f_X0_become (sF σ 0 6 (0 : Int32)) 17 10) (fun r_125 s_125 => ob2 (f_X4_playCase s_125 (2 + 2 * x1.toNatClampNeg) x3 x4) (fun r_134 s_134 => if x5 = (1 : Int32) then (some (r_134, s_134)) else (if r_134 = (-9 : Int32) then (ob1 (f_X4_ofCase s_134 x5) (fun r_158 => some (r_158, s_134))) else (some ((-100 : Int32) - r_134, s_134)))))))))) else (ob2 (f_X4_failed (sF σ 0 6 (0 : Int32)) r_55) (fun r_89 s_89 => some (r_89, s_89))))))))))))))
set_option maxRecDepth 100000 in
set_option maxHeartbeats 4000000 in
theorem k_X4_trial (l : Launch) {D : va_G} {A : Nat → Prop} {cI cZ cS : ClassId} {ad : Nat → Nat} {ro : Option Nat} (hAd : ∀ ro σ, va_D A (WX cI cZ cS ad ro σ)) {σ : SX} {x1 : Int32} {x2 : Int32} {x3 : Int32} {x4 : Int32} {x5 : Int32} {σ' : SX} {r : Int32} (h : f_X4_trial σ x1 x2 x3 x4 x5 = some (r, σ')) : Ct (QI D A r (WX cI cZ cS ad ro (σ'))) l yX4_trial cX4_trial 9 (some .int) 6 132 D (tyS cI cZ cS) A [.ref (ad 0), .int x1, .int x2, .int x3, .int x4, .int x5] (WX cI cZ cS ad ro σ) := by
  refine Ct.of (by decide +kernel) (Nat.le_of_ble_eq_true rfl) ?_
  intro p e s m below meth c ls S hK hr hlocks hP hS hl
  have hx := S.1
  have hb := S.2.1
  have hl : lv_has ls 9 [(0, .ref (ad 0)), (1, .int x1), (2, .int x2), (3, .int x3), (4, .int x4), (5, .int x5)] := hl
  rw [f_X4_trial] at h
  refine lv_aload_n hx hb dX4_trial_0 rfl (lv_at hl 0 rfl) ?_
  refine lv_iconst (v := (0 : Int32)) hx hb dX4_trial_1 (by decide) ?_
  refine pt_X4_42 S hK hP (hAd _ _) hS dX4_trial_2 (fun H locs hP hS => ?_)
  refine lv_iload_n hx hb dX4_trial_5 rfl (lv_at hl 1 rfl) ?_
  obtain ⟨r_6, e_6, h⟩ := ob1_of h
  refine k_goI (k_runS (As := [.int x1]) (rest := []) S hK hP (k_X4_isSheet l  e_6) cy_X4_isSheet wd_222 rfl hl.1 rfl (Nat.le_of_ble_eq_true rfl) dX4_trial_6 ⟨Nat.le_of_ble_eq_true rfl, Nat.le_of_ble_eq_true rfl⟩ ⟨Nat.zero_le _, Nat.zero_le _⟩) hS (fun _ h => h) (fun H locs hP hS _ _ => ?_)
  refine lv_if_ne (tgt := 14) hx hb dX4_trial_9 (by decide) (fun c_9 => ?_) (fun c_9 => ?_)
  · replace h := ite_f c_9 h
    refine lv_iload_n hx hb dX4_trial_14 rfl (lv_at hl 2 rfl) ?_
    obtain ⟨r_15, e_15, h⟩ := ob1_of h
    refine k_goI (k_runS (As := [.int x2]) (rest := []) S hK hP (k_X4_isLane l  e_15) cy_X4_isLane wd_225 rfl hl.1 rfl (Nat.le_of_ble_eq_true rfl) dX4_trial_15 ⟨Nat.le_of_ble_eq_true rfl, Nat.le_of_ble_eq_true rfl⟩ ⟨Nat.zero_le _, Nat.zero_le _⟩) hS (fun _ h => h) (fun H locs hP hS _ _ => ?_)
    refine lv_if_eq (tgt := 41) hx hb dX4_trial_18 (by decide) (fun c_18 => ?_) (fun c_18 => ?_)
    · replace h := ite_t c_18 h
      refine lv_bipush (v := (-2 : Int32)) hx hb dX4_trial_41 (by decide) ?_
      obtain ⟨rfl, rfl⟩ := some_pair h
      exact k_iret S hr hlocks hP hS rfl dX4_trial_43
    · replace h := ite_f c_18 h
      refine lv_iload hx hb dX4_trial_21 (lv_at hl 4 rfl) ?_
      refine lv_if_lt (tgt := 41) hx hb dX4_trial_23 (by decide) (fun c_23 => ?_) (fun c_23 => ?_)
      · replace h := ite_t c_23 h
        refine lv_bipush (v := (-2 : Int32)) hx hb dX4_trial_41 (by decide) ?_
        obtain ⟨rfl, rfl⟩ := some_pair h
        exact k_iret S hr hlocks hP hS rfl dX4_trial_43
      · replace h := ite_f c_23 h
        refine lv_iload hx hb dX4_trial_26 (lv_at hl 4 rfl) ?_
        refine lv_bipush (v := (20 : Int32)) hx hb dX4_trial_28 (by decide) ?_
        refine lv_icmp_gt (tgt := 41) hx hb dX4_trial_30 (by decide) (fun c_30 => ?_) (fun c_30 => ?_)
        · replace h := ite_t c_30 h
          refine lv_bipush (v := (-2 : Int32)) hx hb dX4_trial_41 (by decide) ?_
          obtain ⟨rfl, rfl⟩ := some_pair h
          exact k_iret S hr hlocks hP hS rfl dX4_trial_43
        · replace h := ite_f c_30 h
          refine lv_iload hx hb dX4_trial_33 (lv_at hl 5 rfl) ?_
          obtain ⟨r_35, e_35, h⟩ := ob1_of h
          refine k_goI (k_runS (As := [.int x5]) (rest := []) S hK hP (k_X4_isOfTrial l  e_35) cy_X4_isOfTrial wd_418 rfl hl.1 rfl (Nat.le_of_ble_eq_true rfl) dX4_trial_35 ⟨Nat.le_of_ble_eq_true rfl, Nat.le_of_ble_eq_true rfl⟩ ⟨Nat.zero_le _, Nat.zero_le _⟩) hS (fun _ h => h) (fun H locs hP hS _ _ => ?_)
          refine lv_if_ne (tgt := 44) hx hb dX4_trial_38 (by decide) (fun c_38 => ?_) (fun c_38 => ?_)
          · replace h := ite_f c_38 h
            refine lv_aload_n hx hb dX4_trial_44 rfl (lv_at hl 0 rfl) ?_
            refine gt_X4_13 S hK hP dX4_trial_45 ?_
            refine lv_iload_n hx hb dX4_trial_48 rfl (lv_at hl 1 rfl) ?_
            obtain ⟨hi_49, h⟩ := oin_of h
            refine k_aald S hK hP xA hi_49 rfl dX4_trial_49 ?_
            refine lv_astore (lv' := [(6, .ref (ad (2 + 2 * x1.toNatClampNeg))), (0, .ref (ad 0)), (1, .int x1), (2, .int x2), (3, .int x3), (4, .int x4), (5, .int x5)]) hx hb dX4_trial_50 hl (by decide) rfl (fun ls hl => ?_)
            refine lv_aload hx hb dX4_trial_52 (lv_at hl 0 rfl) ?_
            refine lv_iload_n hx hb dX4_trial_54 rfl (lv_at hl 3 rfl) ?_
            obtain ⟨r_55, e_55, h⟩ := ob1_of h
            refine k_goI (k_runV (As := [.int x2]) (rest := []) S hK hP (k_X3_faultAs l hAd (isSh_of hi_49) e_55) cy_X3_faultAs wd_228 rfl (xS (isSh_of hi_49)) rfl hl.1 rfl (Nat.le_of_ble_eq_true rfl) dX4_trial_55 ⟨Nat.le_of_ble_eq_true rfl, Nat.le_of_ble_eq_true rfl⟩ ⟨Nat.zero_le _, Nat.zero_le _⟩) hS (fun _ h => h) (fun H locs hP hS _ _ => ?_)
            refine lv_istore (lv' := [(7, .int r_55), (6, .ref (ad (2 + 2 * x1.toNatClampNeg))), (0, .ref (ad 0)), (1, .int x1), (2, .int x2), (3, .int x3), (4, .int x4), (5, .int x5)]) hx hb dX4_trial_58 hl (by decide) rfl (fun ls hl => ?_)
            refine lv_iload hx hb dX4_trial_60 (lv_at hl 0 rfl) ?_
            refine lv_if_ne (tgt := 81) hx hb dX4_trial_62 (by decide) (fun c_62 => ?_) (fun c_62 => ?_)
            · replace h := ite_f c_62 h
              refine lv_iload hx hb dX4_trial_81 (lv_at hl 0 rfl) ?_
              refine lv_if_eq (tgt := 93) hx hb dX4_trial_83 (by decide) (fun c_83 => ?_) (fun c_83 => ?_)
              · replace h := ite_t c_83 h
                refine lv_aload_n hx hb dX4_trial_93 rfl (lv_at hl 2 rfl) ?_
                obtain ⟨r_94, e_94, h⟩ := ob1_of h
                refine k_goI (k_runV (As := []) (rest := []) S hK hP (k_X4_hasDay l hAd e_94) cy_X4_hasDay wd_403 rfl xO rfl hl.1 rfl (Nat.le_of_ble_eq_true rfl) dX4_trial_94 ⟨Nat.le_of_ble_eq_true rfl, Nat.le_of_ble_eq_true rfl⟩ ⟨Nat.zero_le _, Nat.zero_le _⟩) hS (fun _ h => h) (fun H locs hP hS _ _ => ?_)
                refine lv_if_ne (tgt := 103) hx hb dX4_trial_97 (by decide) (fun c_97 => ?_) (fun c_97 => ?_)
                · replace h := ite_f c_97 h
                  refine lv_aload hx hb dX4_trial_103 (lv_at hl 1 rfl) ?_
                  refine lv_iload_n hx hb dX4_trial_105 rfl (lv_at hl 5 rfl) ?_
                  refine lv_iload hx hb dX4_trial_106 (lv_at hl 6 rfl) ?_
                  obtain ⟨r_108, e_108, h⟩ := ob1_of h
                  refine k_goI (k_runS (As := [.ref (ad (2 + 2 * x1.toNatClampNeg)), .int x3, .int x4]) (rest := []) S hK hP (k_X4_isCase l hAd (isSh_of hi_49) e_108) cy_X4_isCase wd_421 rfl hl.1 rfl (Nat.le_of_ble_eq_true rfl) dX4_trial_108 ⟨Nat.le_of_ble_eq_true rfl, Nat.le_of_ble_eq_true rfl⟩ ⟨Nat.zero_le _, Nat.zero_le _⟩) hS (fun _ h => h) (fun H locs hP hS _ _ => ?_)
                  refine lv_if_ne (tgt := 117) hx hb dX4_trial_111 (by decide) (fun c_111 => ?_) (fun c_111 => ?_)
                  · replace h := ite_f c_111 h
                    refine lv_aload_n hx hb dX4_trial_117 rfl (lv_at hl 2 rfl) ?_
                    refine gt_X4_25 S hK hP dX4_trial_118 ?_
                    refine lv_aload_n hx hb dX4_trial_121 rfl (lv_at hl 2 rfl) ?_
                    refine gt_X4_21 S hK hP dX4_trial_122 ?_
                    obtain ⟨r_125, s_125, e_125, h⟩ := ob2_of h
                    refine k_goV (k_runV (As := [.ref (ad 10)]) (rest := []) S hK hP (k_X0_become l hAd isDy_draft isDy_now e_125) cy_X0_become wd_304 rfl (xD isDy_draft) rfl hl.1 rfl (Nat.le_of_ble_eq_true rfl) dX4_trial_125 ⟨Nat.le_of_ble_eq_true rfl, Nat.le_of_ble_eq_true rfl⟩ ⟨Nat.zero_le _, Nat.zero_le _⟩) hS (fun _ h => h) (fun H locs hP hS _ _ => ?_)
                    refine lv_aload_n hx hb dX4_trial_128 rfl (lv_at hl 2 rfl) ?_
                    refine lv_aload hx hb dX4_trial_129 (lv_at hl 1 rfl) ?_
                    refine lv_iload_n hx hb dX4_trial_131 rfl (lv_at hl 5 rfl) ?_
                    refine lv_iload hx hb dX4_trial_132 (lv_at hl 6 rfl) ?_
                    obtain ⟨r_134, s_134, e_134, h⟩ := ob2_of h
                    refine k_goI (k_runV (As := [.ref (ad (2 + 2 * x1.toNatClampNeg)), .int x3, .int x4]) (rest := []) S hK hP (k_X4_playCase l hAd (isSh_of hi_49) e_134) cy_X4_playCase wd_428 rfl xO rfl hl.1 rfl (Nat.le_of_ble_eq_true rfl) dX4_trial_134 ⟨Nat.le_of_ble_eq_true rfl, Nat.le_of_ble_eq_true rfl⟩ ⟨Nat.zero_le _, Nat.zero_le _⟩) hS (fun _ h => h) (fun H locs hP hS _ _ => ?_)
                    refine lv_istore (lv' := [(8, .int r_134), (7, .int r_55), (6, .ref (ad (2 + 2 * x1.toNatClampNeg))), (0, .ref (ad 0)), (1, .int x1), (2, .int x2), (3, .int x3), (4, .int x4), (5, .int x5)]) hx hb dX4_trial_137 hl (by decide) rfl (fun ls hl => ?_)
                    refine lv_iload hx hb dX4_trial_139 (lv_at hl 8 rfl) ?_
                    refine lv_iconst (v := (1 : Int32)) hx hb dX4_trial_141 (by decide) ?_
                    refine lv_icmp_ne (tgt := 148) hx hb dX4_trial_142 (by decide) (fun c_142 => ?_) (fun c_142 => ?_)
                    · replace h := ite_f c_142 h
                      refine lv_iload hx hb dX4_trial_148 (lv_at hl 0 rfl) ?_
                      refine lv_bipush (v := (-9 : Int32)) hx hb dX4_trial_150 (by decide) ?_
                      refine lv_icmp_ne (tgt := 164) hx hb dX4_trial_152 (by decide) (fun c_152 => ?_) (fun c_152 => ?_)
                      · replace h := ite_f c_152 h
                        refine lv_bipush (v := (-100 : Int32)) hx hb dX4_trial_164 (by decide) ?_
                        refine lv_iload hx hb dX4_trial_166 (lv_at hl 0 rfl) ?_
                        refine lv_isub hx hb dX4_trial_168 ?_
                        obtain ⟨rfl, rfl⟩ := some_pair h
                        exact k_iret S hr hlocks hP hS rfl dX4_trial_169
                      · replace h := ite_t c_152 h
                        refine lv_aload_n hx hb dX4_trial_155 rfl (lv_at hl 3 rfl) ?_
                        refine lv_iload hx hb dX4_trial_156 (lv_at hl 8 rfl) ?_
                        obtain ⟨r_158, e_158, h⟩ := ob1_of h
                        refine k_goI (k_runV (As := [.int x5]) (rest := []) S hK hP (k_X4_ofCase l hAd e_158) cy_X4_ofCase wd_451 rfl xO rfl hl.1 rfl (Nat.le_of_ble_eq_true rfl) dX4_trial_158 ⟨Nat.le_of_ble_eq_true rfl, Nat.le_of_ble_eq_true rfl⟩ ⟨Nat.zero_le _, Nat.zero_le _⟩) hS (fun _ h => h) (fun H locs hP hS _ _ => ?_)
                        refine lv_goto (tgt := 169) hx hb dX4_trial_161 (by decide) ?_
                        obtain ⟨rfl, rfl⟩ := some_pair h
                        exact k_iret S hr hlocks hP hS rfl dX4_trial_169
                    · replace h := ite_t c_142 h
                      refine lv_iload hx hb dX4_trial_145 (lv_at hl 0 rfl) ?_
                      obtain ⟨rfl, rfl⟩ := some_pair h
                      exact k_iret S hr hlocks hP hS rfl dX4_trial_147
                  · replace h := ite_t c_111 h
                    refine lv_bipush (v := (-2 : Int32)) hx hb dX4_trial_114 (by decide) ?_
                    obtain ⟨rfl, rfl⟩ := some_pair h
                    exact k_iret S hr hlocks hP hS rfl dX4_trial_116
                · replace h := ite_t c_97 h
                  refine lv_bipush (v := (-3 : Int32)) hx hb dX4_trial_100 (by decide) ?_
                  obtain ⟨rfl, rfl⟩ := some_pair h
                  exact k_iret S hr hlocks hP hS rfl dX4_trial_102
              · replace h := ite_f c_83 h
                refine lv_aload_n hx hb dX4_trial_86 rfl (lv_at hl 2 rfl) ?_
                refine lv_iload hx hb dX4_trial_87 (lv_at hl 0 rfl) ?_
                obtain ⟨r_89, s_89, e_89, h⟩ := ob2_of h
                refine k_goI (k_runV (As := [.int r_55]) (rest := []) S hK hP (k_X4_failed l hAd e_89) cy_X4_failed wd_236 rfl xO rfl hl.1 rfl (Nat.le_of_ble_eq_true rfl) dX4_trial_89 ⟨Nat.le_of_ble_eq_true rfl, Nat.le_of_ble_eq_true rfl⟩ ⟨Nat.zero_le _, Nat.zero_le _⟩) hS (fun _ h => h) (fun H locs hP hS _ _ => ?_)
                obtain ⟨rfl, rfl⟩ := some_pair h
                exact k_iret S hr hlocks hP hS rfl dX4_trial_92
            · replace h := ite_t c_62 h
              refine lv_aload hx hb dX4_trial_65 (lv_at hl 1 rfl) ?_
              refine lv_iload_n hx hb dX4_trial_67 rfl (lv_at hl 5 rfl) ?_
              refine lv_iconst (v := (2 : Int32)) hx hb dX4_trial_68 (by decide) ?_
              refine lv_iload hx hb dX4_trial_69 (lv_at hl 6 rfl) ?_
              refine lv_imul hx hb dX4_trial_71 ?_
              obtain ⟨r_72, e_72, h⟩ := ob1_of h
              refine k_goI (k_runV (As := [.int x3, .int ((2 : Int32) * x4)]) (rest := []) S hK hP (k_X3_hasCells l hAd (isSh_of hi_49) e_72) cy_X3_hasCells wd_232 rfl (xS (isSh_of hi_49)) rfl hl.1 rfl (Nat.le_of_ble_eq_true rfl) dX4_trial_72 ⟨Nat.le_of_ble_eq_true rfl, Nat.le_of_ble_eq_true rfl⟩ ⟨Nat.zero_le _, Nat.zero_le _⟩) hS (fun _ h => h) (fun H locs hP hS _ _ => ?_)
              refine lv_if_ne (tgt := 81) hx hb dX4_trial_75 (by decide) (fun c_75 => ?_) (fun c_75 => ?_)
              · replace h := ite_f c_75 h
                refine lv_iload hx hb dX4_trial_81 (lv_at hl 0 rfl) ?_
                refine lv_if_eq (tgt := 93) hx hb dX4_trial_83 (by decide) (fun c_83 => ?_) (fun c_83 => ?_)
                · replace h := ite_t c_83 h
                  refine lv_aload_n hx hb dX4_trial_93 rfl (lv_at hl 2 rfl) ?_
                  obtain ⟨r_94, e_94, h⟩ := ob1_of h
                  refine k_goI (k_runV (As := []) (rest := []) S hK hP (k_X4_hasDay l hAd e_94) cy_X4_hasDay wd_403 rfl xO rfl hl.1 rfl (Nat.le_of_ble_eq_true rfl) dX4_trial_94 ⟨Nat.le_of_ble_eq_true rfl, Nat.le_of_ble_eq_true rfl⟩ ⟨Nat.zero_le _, Nat.zero_le _⟩) hS (fun _ h => h) (fun H locs hP hS _ _ => ?_)
                  refine lv_if_ne (tgt := 103) hx hb dX4_trial_97 (by decide) (fun c_97 => ?_) (fun c_97 => ?_)
                  · replace h := ite_f c_97 h
                    refine lv_aload hx hb dX4_trial_103 (lv_at hl 1 rfl) ?_
                    refine lv_iload_n hx hb dX4_trial_105 rfl (lv_at hl 5 rfl) ?_
                    refine lv_iload hx hb dX4_trial_106 (lv_at hl 6 rfl) ?_
                    obtain ⟨r_108, e_108, h⟩ := ob1_of h
                    refine k_goI (k_runS (As := [.ref (ad (2 + 2 * x1.toNatClampNeg)), .int x3, .int x4]) (rest := []) S hK hP (k_X4_isCase l hAd (isSh_of hi_49) e_108) cy_X4_isCase wd_421 rfl hl.1 rfl (Nat.le_of_ble_eq_true rfl) dX4_trial_108 ⟨Nat.le_of_ble_eq_true rfl, Nat.le_of_ble_eq_true rfl⟩ ⟨Nat.zero_le _, Nat.zero_le _⟩) hS (fun _ h => h) (fun H locs hP hS _ _ => ?_)
                    refine lv_if_ne (tgt := 117) hx hb dX4_trial_111 (by decide) (fun c_111 => ?_) (fun c_111 => ?_)
                    · replace h := ite_f c_111 h
                      refine lv_aload_n hx hb dX4_trial_117 rfl (lv_at hl 2 rfl) ?_
                      refine gt_X4_25 S hK hP dX4_trial_118 ?_
                      refine lv_aload_n hx hb dX4_trial_121 rfl (lv_at hl 2 rfl) ?_
                      refine gt_X4_21 S hK hP dX4_trial_122 ?_
                      obtain ⟨r_125, s_125, e_125, h⟩ := ob2_of h
                      refine k_goV (k_runV (As := [.ref (ad 10)]) (rest := []) S hK hP (k_X0_become l hAd isDy_draft isDy_now e_125) cy_X0_become wd_304 rfl (xD isDy_draft) rfl hl.1 rfl (Nat.le_of_ble_eq_true rfl) dX4_trial_125 ⟨Nat.le_of_ble_eq_true rfl, Nat.le_of_ble_eq_true rfl⟩ ⟨Nat.zero_le _, Nat.zero_le _⟩) hS (fun _ h => h) (fun H locs hP hS _ _ => ?_)
                      refine lv_aload_n hx hb dX4_trial_128 rfl (lv_at hl 2 rfl) ?_
                      refine lv_aload hx hb dX4_trial_129 (lv_at hl 1 rfl) ?_
                      refine lv_iload_n hx hb dX4_trial_131 rfl (lv_at hl 5 rfl) ?_
                      refine lv_iload hx hb dX4_trial_132 (lv_at hl 6 rfl) ?_
                      obtain ⟨r_134, s_134, e_134, h⟩ := ob2_of h
                      refine k_goI (k_runV (As := [.ref (ad (2 + 2 * x1.toNatClampNeg)), .int x3, .int x4]) (rest := []) S hK hP (k_X4_playCase l hAd (isSh_of hi_49) e_134) cy_X4_playCase wd_428 rfl xO rfl hl.1 rfl (Nat.le_of_ble_eq_true rfl) dX4_trial_134 ⟨Nat.le_of_ble_eq_true rfl, Nat.le_of_ble_eq_true rfl⟩ ⟨Nat.zero_le _, Nat.zero_le _⟩) hS (fun _ h => h) (fun H locs hP hS _ _ => ?_)
                      refine lv_istore (lv' := [(8, .int r_134), (7, .int r_55), (6, .ref (ad (2 + 2 * x1.toNatClampNeg))), (0, .ref (ad 0)), (1, .int x1), (2, .int x2), (3, .int x3), (4, .int x4), (5, .int x5)]) hx hb dX4_trial_137 hl (by decide) rfl (fun ls hl => ?_)
                      refine lv_iload hx hb dX4_trial_139 (lv_at hl 8 rfl) ?_
                      refine lv_iconst (v := (1 : Int32)) hx hb dX4_trial_141 (by decide) ?_
                      refine lv_icmp_ne (tgt := 148) hx hb dX4_trial_142 (by decide) (fun c_142 => ?_) (fun c_142 => ?_)
                      · replace h := ite_f c_142 h
                        refine lv_iload hx hb dX4_trial_148 (lv_at hl 0 rfl) ?_
                        refine lv_bipush (v := (-9 : Int32)) hx hb dX4_trial_150 (by decide) ?_
                        refine lv_icmp_ne (tgt := 164) hx hb dX4_trial_152 (by decide) (fun c_152 => ?_) (fun c_152 => ?_)
                        · replace h := ite_f c_152 h
                          refine lv_bipush (v := (-100 : Int32)) hx hb dX4_trial_164 (by decide) ?_
                          refine lv_iload hx hb dX4_trial_166 (lv_at hl 0 rfl) ?_
                          refine lv_isub hx hb dX4_trial_168 ?_
                          obtain ⟨rfl, rfl⟩ := some_pair h
                          exact k_iret S hr hlocks hP hS rfl dX4_trial_169
                        · replace h := ite_t c_152 h
                          refine lv_aload_n hx hb dX4_trial_155 rfl (lv_at hl 3 rfl) ?_
                          refine lv_iload hx hb dX4_trial_156 (lv_at hl 8 rfl) ?_
                          obtain ⟨r_158, e_158, h⟩ := ob1_of h
                          refine k_goI (k_runV (As := [.int x5]) (rest := []) S hK hP (k_X4_ofCase l hAd e_158) cy_X4_ofCase wd_451 rfl xO rfl hl.1 rfl (Nat.le_of_ble_eq_true rfl) dX4_trial_158 ⟨Nat.le_of_ble_eq_true rfl, Nat.le_of_ble_eq_true rfl⟩ ⟨Nat.zero_le _, Nat.zero_le _⟩) hS (fun _ h => h) (fun H locs hP hS _ _ => ?_)
                          refine lv_goto (tgt := 169) hx hb dX4_trial_161 (by decide) ?_
                          obtain ⟨rfl, rfl⟩ := some_pair h
                          exact k_iret S hr hlocks hP hS rfl dX4_trial_169
                      · replace h := ite_t c_142 h
                        refine lv_iload hx hb dX4_trial_145 (lv_at hl 0 rfl) ?_
                        obtain ⟨rfl, rfl⟩ := some_pair h
                        exact k_iret S hr hlocks hP hS rfl dX4_trial_147
                    · replace h := ite_t c_111 h
                      refine lv_bipush (v := (-2 : Int32)) hx hb dX4_trial_114 (by decide) ?_
                      obtain ⟨rfl, rfl⟩ := some_pair h
                      exact k_iret S hr hlocks hP hS rfl dX4_trial_116
                  · replace h := ite_t c_97 h
                    refine lv_bipush (v := (-3 : Int32)) hx hb dX4_trial_100 (by decide) ?_
                    obtain ⟨rfl, rfl⟩ := some_pair h
                    exact k_iret S hr hlocks hP hS rfl dX4_trial_102
                · replace h := ite_f c_83 h
                  refine lv_aload_n hx hb dX4_trial_86 rfl (lv_at hl 2 rfl) ?_
                  refine lv_iload hx hb dX4_trial_87 (lv_at hl 0 rfl) ?_
                  obtain ⟨r_89, s_89, e_89, h⟩ := ob2_of h
                  refine k_goI (k_runV (As := [.int r_55]) (rest := []) S hK hP (k_X4_failed l hAd e_89) cy_X4_failed wd_236 rfl xO rfl hl.1 rfl (Nat.le_of_ble_eq_true rfl) dX4_trial_89 ⟨Nat.le_of_ble_eq_true rfl, Nat.le_of_ble_eq_true rfl⟩ ⟨Nat.zero_le _, Nat.zero_le _⟩) hS (fun _ h => h) (fun H locs hP hS _ _ => ?_)
                  obtain ⟨rfl, rfl⟩ := some_pair h
                  exact k_iret S hr hlocks hP hS rfl dX4_trial_92
              · replace h := ite_t c_75 h
                refine lv_iconst (v := (3 : Int32)) hx hb dX4_trial_78 (by decide) ?_
                refine lv_istore (lv' := [(7, .int (3 : Int32)), (6, .ref (ad (2 + 2 * x1.toNatClampNeg))), (0, .ref (ad 0)), (1, .int x1), (2, .int x2), (3, .int x3), (4, .int x4), (5, .int x5)]) hx hb dX4_trial_79 hl (by decide) rfl (fun ls hl => ?_)
                refine lv_iload hx hb dX4_trial_81 (lv_at hl 0 rfl) ?_
                refine lv_if_eq (tgt := 93) hx hb dX4_trial_83 (by decide) (fun c => absurd c (by decide)) (fun _ => ?_)
                refine lv_aload_n hx hb dX4_trial_86 rfl (lv_at hl 2 rfl) ?_
                refine lv_iload hx hb dX4_trial_87 (lv_at hl 0 rfl) ?_
                obtain ⟨r_89, s_89, e_89, h⟩ := ob2_of h
                refine k_goI (k_runV (As := [.int (3 : Int32)]) (rest := []) S hK hP (k_X4_failed l hAd e_89) cy_X4_failed wd_236 rfl xO rfl hl.1 rfl (Nat.le_of_ble_eq_true rfl) dX4_trial_89 ⟨Nat.le_of_ble_eq_true rfl, Nat.le_of_ble_eq_true rfl⟩ ⟨Nat.zero_le _, Nat.zero_le _⟩) hS (fun _ h => h) (fun H locs hP hS _ _ => ?_)
                obtain ⟨rfl, rfl⟩ := some_pair h
                exact k_iret S hr hlocks hP hS rfl dX4_trial_92
          · replace h := ite_t c_38 h
            refine lv_bipush (v := (-2 : Int32)) hx hb dX4_trial_41 (by decide) ?_
            obtain ⟨rfl, rfl⟩ := some_pair h
            exact k_iret S hr hlocks hP hS rfl dX4_trial_43
  · replace h := ite_t c_9 h
    refine lv_iconst (v := (-1 : Int32)) hx hb dX4_trial_12 (by decide) ?_
    obtain ⟨rfl, rfl⟩ := some_pair h
    exact k_iret S hr hlocks hP hS rfl dX4_trial_13
def f_X4_bound (σ : SX) (x1 : Int32) (x2 : Int32) : Option Int32 := ob1 (f_X0_hasSwearer σ 10 x1) (fun r_5 => if r_5 = 0 then (some (-1 : Int32)) else (ob1 (f_X0_hasSwearer σ 10 x2) (fun r_16 => if r_16 = 0 then (some (-1 : Int32)) else (ob1 (f_X0_leastRow σ 10 x1 x2) (fun r_30 => some r_30)))))
set_option maxRecDepth 100000 in
set_option maxHeartbeats 4000000 in
theorem k_X4_bound (l : Launch) {D : va_G} {A : Nat → Prop} {cI cZ cS : ClassId} {ad : Nat → Nat} {ro : Option Nat} (hAd : ∀ ro σ, va_D A (WX cI cZ cS ad ro σ)) {σ : SX} {x1 : Int32} {x2 : Int32} {r : Int32} (h : f_X4_bound σ x1 x2 = some r) : Ct (QI D A r (WX cI cZ cS ad ro σ)) l yX4_bound cX4_bound 3 (some .int) 5 112 D (tyS cI cZ cS) A [.ref (ad 0), .int x1, .int x2] (WX cI cZ cS ad ro σ) := by
  refine Ct.of (by decide +kernel) (Nat.le_of_ble_eq_true rfl) ?_
  intro p e s m below meth c ls S hK hr hlocks hP hS hl
  have hx := S.1
  have hb := S.2.1
  have hl : lv_has ls 3 [(0, .ref (ad 0)), (1, .int x1), (2, .int x2)] := hl
  rw [f_X4_bound] at h
  refine lv_aload_n hx hb dX4_bound_0 rfl (lv_at hl 0 rfl) ?_
  refine gt_X4_21 S hK hP dX4_bound_1 ?_
  refine lv_iload_n hx hb dX4_bound_4 rfl (lv_at hl 1 rfl) ?_
  obtain ⟨r_5, e_5, h⟩ := ob1_of h
  refine k_goI (k_runV (As := [.int x1]) (rest := []) S hK hP (k_X0_hasSwearer l hAd isDy_now e_5) cy_X0_hasSwearer wd_315 rfl (xD isDy_now) rfl hl.1 rfl (Nat.le_of_ble_eq_true rfl) dX4_bound_5 ⟨Nat.le_of_ble_eq_true rfl, Nat.le_of_ble_eq_true rfl⟩ ⟨Nat.zero_le _, Nat.zero_le _⟩) hS (fun _ h => h) (fun H locs hP hS _ _ => ?_)
  refine lv_if_eq (tgt := 22) hx hb dX4_bound_8 (by decide) (fun c_8 => ?_) (fun c_8 => ?_)
  · replace h := ite_t c_8 h
    refine lv_iconst (v := (-1 : Int32)) hx hb dX4_bound_22 (by decide) ?_
    exact k_iret S hr hlocks hP hS (Option.some.inj h) dX4_bound_23
  · replace h := ite_f c_8 h
    refine lv_aload_n hx hb dX4_bound_11 rfl (lv_at hl 0 rfl) ?_
    refine gt_X4_21 S hK hP dX4_bound_12 ?_
    refine lv_iload_n hx hb dX4_bound_15 rfl (lv_at hl 2 rfl) ?_
    obtain ⟨r_16, e_16, h⟩ := ob1_of h
    refine k_goI (k_runV (As := [.int x2]) (rest := []) S hK hP (k_X0_hasSwearer l hAd isDy_now e_16) cy_X0_hasSwearer wd_315 rfl (xD isDy_now) rfl hl.1 rfl (Nat.le_of_ble_eq_true rfl) dX4_bound_16 ⟨Nat.le_of_ble_eq_true rfl, Nat.le_of_ble_eq_true rfl⟩ ⟨Nat.zero_le _, Nat.zero_le _⟩) hS (fun _ h => h) (fun H locs hP hS _ _ => ?_)
    refine lv_if_ne (tgt := 24) hx hb dX4_bound_19 (by decide) (fun c_19 => ?_) (fun c_19 => ?_)
    · replace h := ite_f c_19 h
      refine lv_aload_n hx hb dX4_bound_24 rfl (lv_at hl 0 rfl) ?_
      refine gt_X4_21 S hK hP dX4_bound_25 ?_
      refine lv_iload_n hx hb dX4_bound_28 rfl (lv_at hl 1 rfl) ?_
      refine lv_iload_n hx hb dX4_bound_29 rfl (lv_at hl 2 rfl) ?_
      obtain ⟨r_30, e_30, h⟩ := ob1_of h
      refine k_goI (k_runV (As := [.int x1, .int x2]) (rest := []) S hK hP (k_X0_leastRow l hAd isDy_now e_30) cy_X0_leastRow wd_481 rfl (xD isDy_now) rfl hl.1 rfl (Nat.le_of_ble_eq_true rfl) dX4_bound_30 ⟨Nat.le_of_ble_eq_true rfl, Nat.le_of_ble_eq_true rfl⟩ ⟨Nat.zero_le _, Nat.zero_le _⟩) hS (fun _ h => h) (fun H locs hP hS _ _ => ?_)
      exact k_iret S hr hlocks hP hS (Option.some.inj h) dX4_bound_33
    · replace h := ite_t c_19 h
      refine lv_iconst (v := (-1 : Int32)) hx hb dX4_bound_22 (by decide) ?_
      exact k_iret S hr hlocks hP hS (Option.some.inj h) dX4_bound_23
def f_X4_refusalOfSwearers (σ : SX) (x1 : Int32) : Option Int32 := if x1 < 0 then (some (-2 : Int32)) else (if x1 < (16 : Int32) then (ob1 (f_X4_hasDay σ) (fun r_14 => if r_14 = 0 then (some (-3 : Int32)) else (if x1 < ((1 : Int32) <<< ((gF σ 10 1) &&& 31)) then (some (0 : Int32)) else (some (-1 : Int32))))) else (some (-2 : Int32)))
set_option maxRecDepth 100000 in
set_option maxHeartbeats 4000000 in
theorem k_X4_refusalOfSwearers (l : Launch) {D : va_G} {A : Nat → Prop} {cI cZ cS : ClassId} {ad : Nat → Nat} {ro : Option Nat} (hAd : ∀ ro σ, va_D A (WX cI cZ cS ad ro σ)) {σ : SX} {x1 : Int32} {r : Int32} (h : f_X4_refusalOfSwearers σ x1 = some r) : Ct (QI D A r (WX cI cZ cS ad ro σ)) l yX4_refusalOfSwearers cX4_refusalOfSwearers 2 (some .int) 1 20 D (tyS cI cZ cS) A [.ref (ad 0), .int x1] (WX cI cZ cS ad ro σ) := by
  refine Ct.of (by decide +kernel) (Nat.le_of_ble_eq_true rfl) ?_
  intro p e s m below meth c ls S hK hr hlocks hP hS hl
  have hx := S.1
  have hb := S.2.1
  have hl : lv_has ls 2 [(0, .ref (ad 0)), (1, .int x1)] := hl
  rw [f_X4_refusalOfSwearers] at h
  refine lv_iload_n hx hb dX4_refusalOfSwearers_0 rfl (lv_at hl 1 rfl) ?_
  refine lv_if_lt (tgt := 10) hx hb dX4_refusalOfSwearers_1 (by decide) (fun c_1 => ?_) (fun c_1 => ?_)
  · replace h := ite_t c_1 h
    refine lv_bipush (v := (-2 : Int32)) hx hb dX4_refusalOfSwearers_10 (by decide) ?_
    exact k_iret S hr hlocks hP hS (Option.some.inj h) dX4_refusalOfSwearers_12
  · replace h := ite_f c_1 h
    refine lv_iload_n hx hb dX4_refusalOfSwearers_4 rfl (lv_at hl 1 rfl) ?_
    refine lv_bipush (v := (16 : Int32)) hx hb dX4_refusalOfSwearers_5 (by decide) ?_
    refine lv_icmp_lt (tgt := 13) hx hb dX4_refusalOfSwearers_7 (by decide) (fun c_7 => ?_) (fun c_7 => ?_)
    · replace h := ite_t c_7 h
      refine lv_aload_n hx hb dX4_refusalOfSwearers_13 rfl (lv_at hl 0 rfl) ?_
      obtain ⟨r_14, e_14, h⟩ := ob1_of h
      refine k_goI (k_runV (As := []) (rest := []) S hK hP (k_X4_hasDay l hAd e_14) cy_X4_hasDay wd_403 rfl xO rfl hl.1 rfl (Nat.le_of_ble_eq_true rfl) dX4_refusalOfSwearers_14 ⟨Nat.le_of_ble_eq_true rfl, Nat.le_of_ble_eq_true rfl⟩ ⟨Nat.zero_le _, Nat.zero_le _⟩) hS (fun _ h => h) (fun H locs hP hS _ _ => ?_)
      refine lv_if_ne (tgt := 23) hx hb dX4_refusalOfSwearers_17 (by decide) (fun c_17 => ?_) (fun c_17 => ?_)
      · replace h := ite_f c_17 h
        refine lv_iload_n hx hb dX4_refusalOfSwearers_23 rfl (lv_at hl 1 rfl) ?_
        refine lv_iconst (v := (1 : Int32)) hx hb dX4_refusalOfSwearers_24 (by decide) ?_
        refine lv_aload_n hx hb dX4_refusalOfSwearers_25 rfl (lv_at hl 0 rfl) ?_
        refine gt_X4_21 S hK hP dX4_refusalOfSwearers_26 ?_
        refine gt_X4_82 S hK hP isDy_now dX4_refusalOfSwearers_29 ?_
        refine lv_ishl hx hb dX4_refusalOfSwearers_32 ?_
        refine lv_icmp_lt (tgt := 40) hx hb dX4_refusalOfSwearers_33 (by decide) (fun c_33 => ?_) (fun c_33 => ?_)
        · replace h := ite_t c_33 h
          refine lv_iconst (v := (0 : Int32)) hx hb dX4_refusalOfSwearers_40 (by decide) ?_
          exact k_iret S hr hlocks hP hS (Option.some.inj h) dX4_refusalOfSwearers_41
        · replace h := ite_f c_33 h
          refine lv_iconst (v := (-1 : Int32)) hx hb dX4_refusalOfSwearers_36 (by decide) ?_
          refine lv_goto (tgt := 41) hx hb dX4_refusalOfSwearers_37 (by decide) ?_
          exact k_iret S hr hlocks hP hS (Option.some.inj h) dX4_refusalOfSwearers_41
      · replace h := ite_t c_17 h
        refine lv_bipush (v := (-3 : Int32)) hx hb dX4_refusalOfSwearers_20 (by decide) ?_
        exact k_iret S hr hlocks hP hS (Option.some.inj h) dX4_refusalOfSwearers_22
    · replace h := ite_f c_7 h
      refine lv_bipush (v := (-2 : Int32)) hx hb dX4_refusalOfSwearers_10 (by decide) ?_
      exact k_iret S hr hlocks hP hS (Option.some.inj h) dX4_refusalOfSwearers_12
def f_X4_together_L14 (σ : SX) : Nat → Int32 → Int32 → Int32 → Option Int32
  | 0, _, _, _ => none
  | n + 1, y1, y2, y3 => if (gF σ 10 0) ≤ y3 then (some (-9 : Int32)) else (ob1 (f_X0_coldSwearers σ 10 y3) (fun r_31 => if (y1 &&& (r_31 ^^^ (-1 : Int32))) = 0 then (some y3) else (f_X4_together_L14 σ n y1 y2 (y3 + (1 : Int32)))))
def f_X4_together (σ : SX) (x1 : Int32) : Option Int32 := ob1 (f_X4_refusalOfSwearers σ x1) (fun r_2 => if r_2 = 0 then (f_X4_together_L14 σ 100 x1 r_2 (0 : Int32)) else (some r_2))
set_option maxRecDepth 100000 in
set_option maxHeartbeats 4000000 in
theorem k_X4_together (l : Launch) {D : va_G} {A : Nat → Prop} {cI cZ cS : ClassId} {ad : Nat → Nat} {ro : Option Nat} (hAd : ∀ ro σ, va_D A (WX cI cZ cS ad ro σ)) {σ : SX} {x1 : Int32} {r : Int32} (h : f_X4_together σ x1 = some r) : Ct (QI D A r (WX cI cZ cS ad ro σ)) l yX4_together cX4_together 4 (some .int) 4 89 D (tyS cI cZ cS) A [.ref (ad 0), .int x1] (WX cI cZ cS ad ro σ) := by
  refine Ct.of (by decide +kernel) (Nat.le_of_ble_eq_true rfl) ?_
  intro p e s m below meth c ls S hK hr hlocks hP hS hl
  have hx := S.1
  have hb := S.2.1
  have hl : lv_has ls 4 [(0, .ref (ad 0)), (1, .int x1)] := hl
  have loop14 : ∀ (n : Nat) (y1 : Int32) (y2 : Int32) (y3 : Int32) (H : Heap) (locs : List Loc) (ls : Array Slot), f_X4_together_L14 σ n y1 y2 y3 = some r → va_P D vwCl (WX cI cZ cS ad ro σ) H → va_S A s.heap H locs → lv_has ls 4 [(0, .ref (ad 0)), (1, .int y1), (2, .int y2), (3, .int y3)] → W p l e (rmO 4 89) s m [.ref (ad 0), .int x1].toArray below meth c H locs 0 0 (MQ below (QI D A r (WX cI cZ cS ad ro σ)) [.ref (ad 0), .int x1].toArray s 0 0 A) (F0 m 14 ls []) := by
    intro n
    induction n with
    | zero => intro y1 y2 y3 H locs ls h; cases h
    | succ n ih =>
      intro y1 y2 y3 H locs ls h hP hS hl
      rw [f_X4_together_L14] at h
      refine lv_iload_n hx hb dX4_together_14 rfl (lv_at hl 3 rfl) ?_
      refine lv_aload_n hx hb dX4_together_15 rfl (lv_at hl 0 rfl) ?_
      refine gt_X4_21 S hK hP dX4_together_16 ?_
      refine gt_X4_204 S hK hP isDy_now dX4_together_19 ?_
      refine lv_icmp_ge (tgt := 48) hx hb dX4_together_22 (by decide) (fun c_22 => ?_) (fun c_22 => ?_)
      · replace h := ite_t c_22 h
        refine lv_bipush (v := (-9 : Int32)) hx hb dX4_together_48 (by decide) ?_
        exact k_iret S hr hlocks hP hS (Option.some.inj h) dX4_together_50
      · replace h := ite_f c_22 h
        refine lv_iload_n hx hb dX4_together_25 rfl (lv_at hl 1 rfl) ?_
        refine lv_aload_n hx hb dX4_together_26 rfl (lv_at hl 0 rfl) ?_
        refine gt_X4_21 S hK hP dX4_together_27 ?_
        refine lv_iload_n hx hb dX4_together_30 rfl (lv_at hl 3 rfl) ?_
        obtain ⟨r_31, e_31, h⟩ := ob1_of h
        refine k_goI (k_runV (As := [.int y3]) (rest := [.int y1]) S hK hP (k_X0_coldSwearers l hAd isDy_now e_31) cy_X0_coldSwearers wd_366 rfl (xD isDy_now) rfl hl.1 rfl (Nat.le_of_ble_eq_true rfl) dX4_together_31 ⟨Nat.le_of_ble_eq_true rfl, Nat.le_of_ble_eq_true rfl⟩ ⟨Nat.zero_le _, Nat.zero_le _⟩) hS (fun _ h => h) (fun H locs hP hS _ _ => ?_)
        refine lv_iconst (v := (-1 : Int32)) hx hb dX4_together_34 (by decide) ?_
        refine lv_ixor hx hb dX4_together_35 ?_
        refine lv_iand hx hb dX4_together_36 ?_
        refine lv_if_ne (tgt := 42) hx hb dX4_together_37 (by decide) (fun c_37 => ?_) (fun c_37 => ?_)
        · replace h := ite_f c_37 h
          refine lv_iinc (v := y3 + (1 : Int32)) (lv' := [(3, .int (y3 + (1 : Int32))), (0, .ref (ad 0)), (1, .int y1), (2, .int y2)]) hx hb dX4_together_42 hl (k := 3) rfl rfl (by decide) rfl (fun ls hl => ?_)
          refine lv_goto (tgt := 14) hx hb dX4_together_45 (by decide) ?_
          exact ih y1 y2 (y3 + (1 : Int32)) _ _ _ h hP hS (lv_sub hl [1, 2, 3, 0] rfl)
        · replace h := ite_t c_37 h
          refine lv_iload_n hx hb dX4_together_40 rfl (lv_at hl 3 rfl) ?_
          exact k_iret S hr hlocks hP hS (Option.some.inj h) dX4_together_41
  rw [f_X4_together] at h
  refine lv_aload_n hx hb dX4_together_0 rfl (lv_at hl 0 rfl) ?_
  refine lv_iload_n hx hb dX4_together_1 rfl (lv_at hl 1 rfl) ?_
  obtain ⟨r_2, e_2, h⟩ := ob1_of h
  refine k_goI (k_runV (As := [.int x1]) (rest := []) S hK hP (k_X4_refusalOfSwearers l hAd e_2) cy_X4_refusalOfSwearers wd_493 rfl xO rfl hl.1 rfl (Nat.le_of_ble_eq_true rfl) dX4_together_2 ⟨Nat.le_of_ble_eq_true rfl, Nat.le_of_ble_eq_true rfl⟩ ⟨Nat.zero_le _, Nat.zero_le _⟩) hS (fun _ h => h) (fun H locs hP hS _ _ => ?_)
  refine lv_istore_n (lv' := [(2, .int r_2), (0, .ref (ad 0)), (1, .int x1)]) hx hb dX4_together_5 rfl hl (by decide) rfl (fun ls hl => ?_)
  refine lv_iload_n hx hb dX4_together_6 rfl (lv_at hl 0 rfl) ?_
  refine lv_if_eq (tgt := 12) hx hb dX4_together_7 (by decide) (fun c_7 => ?_) (fun c_7 => ?_)
  · replace h := ite_t c_7 h
    refine lv_iconst (v := (0 : Int32)) hx hb dX4_together_12 (by decide) ?_
    refine lv_istore_n (lv' := [(3, .int (0 : Int32)), (2, .int r_2), (0, .ref (ad 0)), (1, .int x1)]) hx hb dX4_together_13 rfl hl (by decide) rfl (fun ls hl => ?_)
    exact loop14 100 x1 r_2 (0 : Int32) _ _ _ h hP hS (lv_sub hl [2, 3, 1, 0] rfl)
  · replace h := ite_f c_7 h
    refine lv_iload_n hx hb dX4_together_10 rfl (lv_at hl 0 rfl) ?_
    exact k_iret S hr hlocks hP hS (Option.some.inj h) dX4_together_11
def f_X4_coated_L14 (σ : SX) : Nat → Int32 → Int32 → Int32 → Option Int32
  | 0, _, _, _ => none
  | n + 1, y1, y2, y3 => if (gF σ 10 1) ≤ y3 then (some (-9 : Int32)) else (ob1 (f_X4_hasBit y1 y3) (fun r_27 => if r_27 = 0 then (f_X4_coated_L14 σ n y1 y2 (y3 + (1 : Int32))) else (ob1 (f_X0_coldHours σ 10 y3) (fun r_38 => if r_38 = 0 then (some y3) else (f_X4_coated_L14 σ n y1 y2 (y3 + (1 : Int32)))))))
def f_X4_coated (σ : SX) (x1 : Int32) : Option Int32 := ob1 (f_X4_refusalOfSwearers σ x1) (fun r_2 => if r_2 = 0 then (f_X4_coated_L14 σ 100 x1 r_2 (0 : Int32)) else (some r_2))
set_option maxRecDepth 100000 in
set_option maxHeartbeats 4000000 in
theorem k_X4_coated (l : Launch) {D : va_G} {A : Nat → Prop} {cI cZ cS : ClassId} {ad : Nat → Nat} {ro : Option Nat} (hAd : ∀ ro σ, va_D A (WX cI cZ cS ad ro σ)) {σ : SX} {x1 : Int32} {r : Int32} (h : f_X4_coated σ x1 = some r) : Ct (QI D A r (WX cI cZ cS ad ro σ)) l yX4_coated cX4_coated 4 (some .int) 4 89 D (tyS cI cZ cS) A [.ref (ad 0), .int x1] (WX cI cZ cS ad ro σ) := by
  refine Ct.of (by decide +kernel) (Nat.le_of_ble_eq_true rfl) ?_
  intro p e s m below meth c ls S hK hr hlocks hP hS hl
  have hx := S.1
  have hb := S.2.1
  have hl : lv_has ls 4 [(0, .ref (ad 0)), (1, .int x1)] := hl
  have loop14 : ∀ (n : Nat) (y1 : Int32) (y2 : Int32) (y3 : Int32) (H : Heap) (locs : List Loc) (ls : Array Slot), f_X4_coated_L14 σ n y1 y2 y3 = some r → va_P D vwCl (WX cI cZ cS ad ro σ) H → va_S A s.heap H locs → lv_has ls 4 [(0, .ref (ad 0)), (1, .int y1), (2, .int y2), (3, .int y3)] → W p l e (rmO 4 89) s m [.ref (ad 0), .int x1].toArray below meth c H locs 0 0 (MQ below (QI D A r (WX cI cZ cS ad ro σ)) [.ref (ad 0), .int x1].toArray s 0 0 A) (F0 m 14 ls []) := by
    intro n
    induction n with
    | zero => intro y1 y2 y3 H locs ls h; cases h
    | succ n ih =>
      intro y1 y2 y3 H locs ls h hP hS hl
      rw [f_X4_coated_L14] at h
      refine lv_iload_n hx hb dX4_coated_14 rfl (lv_at hl 3 rfl) ?_
      refine lv_aload_n hx hb dX4_coated_15 rfl (lv_at hl 0 rfl) ?_
      refine gt_X4_21 S hK hP dX4_coated_16 ?_
      refine gt_X4_82 S hK hP isDy_now dX4_coated_19 ?_
      refine lv_icmp_ge (tgt := 52) hx hb dX4_coated_22 (by decide) (fun c_22 => ?_) (fun c_22 => ?_)
      · replace h := ite_t c_22 h
        refine lv_bipush (v := (-9 : Int32)) hx hb dX4_coated_52 (by decide) ?_
        exact k_iret S hr hlocks hP hS (Option.some.inj h) dX4_coated_54
      · replace h := ite_f c_22 h
        refine lv_iload_n hx hb dX4_coated_25 rfl (lv_at hl 1 rfl) ?_
        refine lv_iload_n hx hb dX4_coated_26 rfl (lv_at hl 3 rfl) ?_
        obtain ⟨r_27, e_27, h⟩ := ob1_of h
        refine k_goI (k_runS (As := [.int y1, .int y3]) (rest := []) S hK hP (k_X4_hasBit l  e_27) cy_X4_hasBit wd_501 rfl hl.1 rfl (Nat.le_of_ble_eq_true rfl) dX4_coated_27 ⟨Nat.le_of_ble_eq_true rfl, Nat.le_of_ble_eq_true rfl⟩ ⟨Nat.zero_le _, Nat.zero_le _⟩) hS (fun _ h => h) (fun H locs hP hS _ _ => ?_)
        refine lv_if_eq (tgt := 46) hx hb dX4_coated_30 (by decide) (fun c_30 => ?_) (fun c_30 => ?_)
        · replace h := ite_t c_30 h
          refine lv_iinc (v := y3 + (1 : Int32)) (lv' := [(3, .int (y3 + (1 : Int32))), (0, .ref (ad 0)), (1, .int y1), (2, .int y2)]) hx hb dX4_coated_46 hl (k := 3) rfl rfl (by decide) rfl (fun ls hl => ?_)
          refine lv_goto (tgt := 14) hx hb dX4_coated_49 (by decide) ?_
          exact ih y1 y2 (y3 + (1 : Int32)) _ _ _ h hP hS (lv_sub hl [1, 2, 3, 0] rfl)
        · replace h := ite_f c_30 h
          refine lv_aload_n hx hb dX4_coated_33 rfl (lv_at hl 0 rfl) ?_
          refine gt_X4_21 S hK hP dX4_coated_34 ?_
          refine lv_iload_n hx hb dX4_coated_37 rfl (lv_at hl 3 rfl) ?_
          obtain ⟨r_38, e_38, h⟩ := ob1_of h
          refine k_goI (k_runV (As := [.int y3]) (rest := []) S hK hP (k_X0_coldHours l hAd isDy_now e_38) cy_X0_coldHours wd_323 rfl (xD isDy_now) rfl hl.1 rfl (Nat.le_of_ble_eq_true rfl) dX4_coated_38 ⟨Nat.le_of_ble_eq_true rfl, Nat.le_of_ble_eq_true rfl⟩ ⟨Nat.zero_le _, Nat.zero_le _⟩) hS (fun _ h => h) (fun H locs hP hS _ _ => ?_)
          refine lv_if_ne (tgt := 46) hx hb dX4_coated_41 (by decide) (fun c_41 => ?_) (fun c_41 => ?_)
          · replace h := ite_f c_41 h
            refine lv_iinc (v := y3 + (1 : Int32)) (lv' := [(3, .int (y3 + (1 : Int32))), (0, .ref (ad 0)), (1, .int y1), (2, .int y2)]) hx hb dX4_coated_46 hl (k := 3) rfl rfl (by decide) rfl (fun ls hl => ?_)
            refine lv_goto (tgt := 14) hx hb dX4_coated_49 (by decide) ?_
            exact ih y1 y2 (y3 + (1 : Int32)) _ _ _ h hP hS (lv_sub hl [1, 2, 3, 0] rfl)
          · replace h := ite_t c_41 h
            refine lv_iload_n hx hb dX4_coated_44 rfl (lv_at hl 3 rfl) ?_
            exact k_iret S hr hlocks hP hS (Option.some.inj h) dX4_coated_45
  rw [f_X4_coated] at h
  refine lv_aload_n hx hb dX4_coated_0 rfl (lv_at hl 0 rfl) ?_
  refine lv_iload_n hx hb dX4_coated_1 rfl (lv_at hl 1 rfl) ?_
  obtain ⟨r_2, e_2, h⟩ := ob1_of h
  refine k_goI (k_runV (As := [.int x1]) (rest := []) S hK hP (k_X4_refusalOfSwearers l hAd e_2) cy_X4_refusalOfSwearers wd_493 rfl xO rfl hl.1 rfl (Nat.le_of_ble_eq_true rfl) dX4_coated_2 ⟨Nat.le_of_ble_eq_true rfl, Nat.le_of_ble_eq_true rfl⟩ ⟨Nat.zero_le _, Nat.zero_le _⟩) hS (fun _ h => h) (fun H locs hP hS _ _ => ?_)
  refine lv_istore_n (lv' := [(2, .int r_2), (0, .ref (ad 0)), (1, .int x1)]) hx hb dX4_coated_5 rfl hl (by decide) rfl (fun ls hl => ?_)
  refine lv_iload_n hx hb dX4_coated_6 rfl (lv_at hl 0 rfl) ?_
  refine lv_if_eq (tgt := 12) hx hb dX4_coated_7 (by decide) (fun c_7 => ?_) (fun c_7 => ?_)
  · replace h := ite_t c_7 h
    refine lv_iconst (v := (0 : Int32)) hx hb dX4_coated_12 (by decide) ?_
    refine lv_istore_n (lv' := [(3, .int (0 : Int32)), (2, .int r_2), (0, .ref (ad 0)), (1, .int x1)]) hx hb dX4_coated_13 rfl hl (by decide) rfl (fun ls hl => ?_)
    exact loop14 100 x1 r_2 (0 : Int32) _ _ _ h hP hS (lv_sub hl [2, 3, 1, 0] rfl)
  · replace h := ite_f c_7 h
    refine lv_iload_n hx hb dX4_coated_10 rfl (lv_at hl 0 rfl) ?_
    exact k_iret S hr hlocks hP hS (Option.some.inj h) dX4_coated_11
def f_X4_letgo (σ : SX) (x1 : Int32) : Option Int32 := if x1 < 0 then (some (-2 : Int32)) else (if x1 ≤ (1 : Int32) then (ob1 (f_X4_hasDay σ) (fun r_13 => if r_13 = 0 then (some (-3 : Int32)) else (ob1 (f_X0_leastToLetGo σ 10) (fun r_26 => if x1 = 0 then (ob1 (f_J6_bitCount_0f7a4 r_26) (fun r_35 => some r_35)) else (some r_26))))) else (some (-2 : Int32)))
set_option maxRecDepth 100000 in
set_option maxHeartbeats 4000000 in
theorem k_X4_letgo (l : Launch) {D : va_G} {A : Nat → Prop} {cI cZ cS : ClassId} {ad : Nat → Nat} {ro : Option Nat} (hAd : ∀ ro σ, va_D A (WX cI cZ cS ad ro σ)) {σ : SX} {x1 : Int32} {r : Int32} (h : f_X4_letgo σ x1 = some r) : Ct (QI D A r (WX cI cZ cS ad ro σ)) l yX4_letgo cX4_letgo 3 (some .int) 5 111 D (tyS cI cZ cS) A [.ref (ad 0), .int x1] (WX cI cZ cS ad ro σ) := by
  refine Ct.of (by decide +kernel) (Nat.le_of_ble_eq_true rfl) ?_
  intro p e s m below meth c ls S hK hr hlocks hP hS hl
  have hx := S.1
  have hb := S.2.1
  have hl : lv_has ls 3 [(0, .ref (ad 0)), (1, .int x1)] := hl
  rw [f_X4_letgo] at h
  refine lv_iload_n hx hb dX4_letgo_0 rfl (lv_at hl 1 rfl) ?_
  refine lv_if_lt (tgt := 9) hx hb dX4_letgo_1 (by decide) (fun c_1 => ?_) (fun c_1 => ?_)
  · replace h := ite_t c_1 h
    refine lv_bipush (v := (-2 : Int32)) hx hb dX4_letgo_9 (by decide) ?_
    exact k_iret S hr hlocks hP hS (Option.some.inj h) dX4_letgo_11
  · replace h := ite_f c_1 h
    refine lv_iload_n hx hb dX4_letgo_4 rfl (lv_at hl 1 rfl) ?_
    refine lv_iconst (v := (1 : Int32)) hx hb dX4_letgo_5 (by decide) ?_
    refine lv_icmp_le (tgt := 12) hx hb dX4_letgo_6 (by decide) (fun c_6 => ?_) (fun c_6 => ?_)
    · replace h := ite_t c_6 h
      refine lv_aload_n hx hb dX4_letgo_12 rfl (lv_at hl 0 rfl) ?_
      obtain ⟨r_13, e_13, h⟩ := ob1_of h
      refine k_goI (k_runV (As := []) (rest := []) S hK hP (k_X4_hasDay l hAd e_13) cy_X4_hasDay wd_403 rfl xO rfl hl.1 rfl (Nat.le_of_ble_eq_true rfl) dX4_letgo_13 ⟨Nat.le_of_ble_eq_true rfl, Nat.le_of_ble_eq_true rfl⟩ ⟨Nat.zero_le _, Nat.zero_le _⟩) hS (fun _ h => h) (fun H locs hP hS _ _ => ?_)
      refine lv_if_ne (tgt := 22) hx hb dX4_letgo_16 (by decide) (fun c_16 => ?_) (fun c_16 => ?_)
      · replace h := ite_f c_16 h
        refine lv_aload_n hx hb dX4_letgo_22 rfl (lv_at hl 0 rfl) ?_
        refine gt_X4_21 S hK hP dX4_letgo_23 ?_
        obtain ⟨r_26, e_26, h⟩ := ob1_of h
        refine k_goI (k_runV (As := []) (rest := []) S hK hP (k_X0_leastToLetGo l hAd isDy_now e_26) cy_X0_leastToLetGo wd_461 rfl (xD isDy_now) rfl hl.1 rfl (Nat.le_of_ble_eq_true rfl) dX4_letgo_26 ⟨Nat.le_of_ble_eq_true rfl, Nat.le_of_ble_eq_true rfl⟩ ⟨Nat.zero_le _, Nat.zero_le _⟩) hS (fun _ h => h) (fun H locs hP hS _ _ => ?_)
        refine lv_istore_n (lv' := [(2, .int r_26), (0, .ref (ad 0)), (1, .int x1)]) hx hb dX4_letgo_29 rfl hl (by decide) rfl (fun ls hl => ?_)
        refine lv_iload_n hx hb dX4_letgo_30 rfl (lv_at hl 2 rfl) ?_
        refine lv_if_ne (tgt := 41) hx hb dX4_letgo_31 (by decide) (fun c_31 => ?_) (fun c_31 => ?_)
        · replace h := ite_f c_31 h
          refine lv_iload_n hx hb dX4_letgo_41 rfl (lv_at hl 0 rfl) ?_
          exact k_iret S hr hlocks hP hS (Option.some.inj h) dX4_letgo_42
        · replace h := ite_t c_31 h
          refine lv_iload_n hx hb dX4_letgo_34 rfl (lv_at hl 0 rfl) ?_
          obtain ⟨r_35, e_35, h⟩ := ob1_of h
          refine k_goI (k_runS (As := [.int r_26]) (rest := []) S hK hP (k_J6_bitCount_0f7a4 l  e_35) cy_J6_bitCount_0f7a4 wd_408 rfl hl.1 rfl (Nat.le_of_ble_eq_true rfl) dX4_letgo_35 ⟨Nat.le_of_ble_eq_true rfl, Nat.le_of_ble_eq_true rfl⟩ ⟨Nat.zero_le _, Nat.zero_le _⟩) hS (fun _ h => h) (fun H locs hP hS _ _ => ?_)
          refine lv_goto (tgt := 42) hx hb dX4_letgo_38 (by decide) ?_
          exact k_iret S hr hlocks hP hS (Option.some.inj h) dX4_letgo_42
      · replace h := ite_t c_16 h
        refine lv_bipush (v := (-3 : Int32)) hx hb dX4_letgo_19 (by decide) ?_
        exact k_iret S hr hlocks hP hS (Option.some.inj h) dX4_letgo_21
    · replace h := ite_f c_6 h
      refine lv_bipush (v := (-2 : Int32)) hx hb dX4_letgo_9 (by decide) ?_
      exact k_iret S hr hlocks hP hS (Option.some.inj h) dX4_letgo_11
def f_X4_stovesThatSpare_L39 (K : SX → Int32 → Int32 → Int32 → Int32 → Int32 → Int32 → Option (Int32 × SX)) : Nat → SX → Int32 → Int32 → Int32 → Int32 → Int32 → Int32 → Int32 → Option (Int32 × SX)
  | 0, _, _, _, _, _, _, _, _ => none
  | n2 + 1, σ, y1, y2, y3, y4, y5, y6, y7 => if (9 : Int32) < y7 then (K σ y1 y2 y3 y4 y5 (y6 + (1 : Int32))) else (ob2 (f_X0_putStove σ 17 y6 y7) (fun r_54 s_54 => ob1 (f_X0_bindingOaths s_54 17) (fun r_61 => if r_61 = y1 then (if y3 = 0 then (f_X4_stovesThatSpare_L39 K n2 s_54 y1 y2 (y3 + (1 : Int32)) y6 y7 y6 (y7 + (1 : Int32))) else (f_X4_stovesThatSpare_L39 K n2 s_54 y1 y2 (y3 + (1 : Int32)) y4 y5 y6 (y7 + (1 : Int32)))) else (f_X4_stovesThatSpare_L39 K n2 s_54 y1 y2 y3 y4 y5 y6 (y7 + (1 : Int32))))))
def f_X4_stovesThatSpare_L24 : Nat → SX → Int32 → Int32 → Int32 → Int32 → Int32 → Int32 → Option (Int32 × SX)
  | 0, _, _, _, _, _, _, _ => none
  | n + 1, σ, y1, y2, y3, y4, y5, y6 => if (gF σ 10 0) ≤ y6 then (if y2 = 0 then (some (y3, σ)) else (if y2 = (1 : Int32) then (some (y4, σ)) else (some (y5, σ)))) else (f_X4_stovesThatSpare_L39 (fun σ y1 y2 y3 y4 y5 y6 => f_X4_stovesThatSpare_L24 n σ y1 y2 y3 y4 y5 y6) 100 σ y1 y2 y3 y4 y5 y6 (0 : Int32))
def f_X4_stovesThatSpare (σ : SX) (x1 : Int32) (x2 : Int32) : Option (Int32 × SX) := ob2 (f_X0_become σ 17 10) (fun r_18 s_18 => f_X4_stovesThatSpare_L24 100 s_18 x1 x2 (0 : Int32) (-9 : Int32) (-9 : Int32) (0 : Int32))
set_option maxRecDepth 100000 in
set_option maxHeartbeats 4000000 in
theorem k_X4_stovesThatSpare (l : Launch) {D : va_G} {A : Nat → Prop} {cI cZ cS : ClassId} {ad : Nat → Nat} {ro : Option Nat} (hAd : ∀ ro σ, va_D A (WX cI cZ cS ad ro σ)) {σ : SX} {x1 : Int32} {x2 : Int32} {σ' : SX} {r : Int32} (h : f_X4_stovesThatSpare σ x1 x2 = some (r, σ')) : Ct (QI D A r (WX cI cZ cS ad ro (σ'))) l yX4_stovesThatSpare cX4_stovesThatSpare 8 (some .int) 4 87 D (tyS cI cZ cS) A [.ref (ad 0), .int x1, .int x2] (WX cI cZ cS ad ro σ) := by
  refine Ct.of (by decide +kernel) (Nat.le_of_ble_eq_true rfl) ?_
  intro p e s m below meth c ls S hK hr hlocks hP hS hl
  have hx := S.1
  have hb := S.2.1
  have hl : lv_has ls 8 [(0, .ref (ad 0)), (1, .int x1), (2, .int x2)] := hl
  have loop24 : ∀ (n : Nat) (σ : SX) (y1 : Int32) (y2 : Int32) (y3 : Int32) (y4 : Int32) (y5 : Int32) (y6 : Int32) (H : Heap) (locs : List Loc) (ls : Array Slot), f_X4_stovesThatSpare_L24 n σ y1 y2 y3 y4 y5 y6 = some (r, σ') → va_P D vwCl (WX cI cZ cS ad ro σ) H → va_S A s.heap H locs → lv_has ls 8 [(0, .ref (ad 0)), (1, .int y1), (2, .int y2), (3, .int y3), (4, .int y4), (5, .int y5), (6, .int y6)] → W p l e (rmO 4 87) s m [.ref (ad 0), .int x1, .int x2].toArray below meth c H locs 0 0 (MQ below (QI D A r (WX cI cZ cS ad ro (σ'))) [.ref (ad 0), .int x1, .int x2].toArray s 0 0 A) (F0 m 24 ls []) := by
    intro n
    induction n with
    | zero => intro σ y1 y2 y3 y4 y5 y6 H locs ls h; cases h
    | succ n ih =>
      intro σ y1 y2 y3 y4 y5 y6 H locs ls h hP hS hl
      rw [f_X4_stovesThatSpare_L24] at h
      have loop39 : ∀ (n2 : Nat) (σ : SX) (y1 : Int32) (y2 : Int32) (y3 : Int32) (y4 : Int32) (y5 : Int32) (y6 : Int32) (y7 : Int32) (H : Heap) (locs : List Loc) (ls : Array Slot), f_X4_stovesThatSpare_L39 (fun σ y1 y2 y3 y4 y5 y6 => f_X4_stovesThatSpare_L24 n σ y1 y2 y3 y4 y5 y6) n2 σ y1 y2 y3 y4 y5 y6 y7 = some (r, σ') → va_P D vwCl (WX cI cZ cS ad ro σ) H → va_S A s.heap H locs → lv_has ls 8 [(0, .ref (ad 0)), (1, .int y1), (2, .int y2), (3, .int y3), (4, .int y4), (5, .int y5), (6, .int y6), (7, .int y7)] → W p l e (rmO 4 87) s m [.ref (ad 0), .int x1, .int x2].toArray below meth c H locs 0 0 (MQ below (QI D A r (WX cI cZ cS ad ro (σ'))) [.ref (ad 0), .int x1, .int x2].toArray s 0 0 A) (F0 m 39 ls []) := by
        intro n2
        induction n2 with
        | zero => intro σ y1 y2 y3 y4 y5 y6 y7 H locs ls h; cases h
        | succ n2 ih2 =>
          intro σ y1 y2 y3 y4 y5 y6 y7 H locs ls h hP hS hl
          rw [f_X4_stovesThatSpare_L39] at h
          refine lv_iload hx hb dX4_stovesThatSpare_39 (lv_at hl 7 rfl) ?_
          refine lv_bipush (v := (9 : Int32)) hx hb dX4_stovesThatSpare_41 (by decide) ?_
          refine lv_icmp_gt (tgt := 92) hx hb dX4_stovesThatSpare_43 (by decide) (fun c_43 => ?_) (fun c_43 => ?_)
          · replace h := ite_t c_43 h
            refine lv_iinc (v := y6 + (1 : Int32)) (lv' := [(6, .int (y6 + (1 : Int32))), (0, .ref (ad 0)), (1, .int y1), (2, .int y2), (3, .int y3), (4, .int y4), (5, .int y5), (7, .int y7)]) hx hb dX4_stovesThatSpare_92 hl (k := 6) rfl rfl (by decide) rfl (fun ls hl => ?_)
            refine lv_goto (tgt := 24) hx hb dX4_stovesThatSpare_95 (by decide) ?_
            exact ih σ y1 y2 y3 y4 y5 (y6 + (1 : Int32)) _ _ _ h hP hS (lv_sub hl [1, 2, 3, 4, 5, 6, 0] rfl)
          · replace h := ite_f c_43 h
            refine lv_aload_n hx hb dX4_stovesThatSpare_46 rfl (lv_at hl 0 rfl) ?_
            refine gt_X4_25 S hK hP dX4_stovesThatSpare_47 ?_
            refine lv_iload hx hb dX4_stovesThatSpare_50 (lv_at hl 6 rfl) ?_
            refine lv_iload hx hb dX4_stovesThatSpare_52 (lv_at hl 7 rfl) ?_
            obtain ⟨r_54, s_54, e_54, h⟩ := ob2_of h
            refine k_goV (k_runV (As := [.int y6, .int y7]) (rest := []) S hK hP (k_X0_putStove l hAd isDy_draft e_54) cy_X0_putStove wd_407 rfl (xD isDy_draft) rfl hl.1 rfl (Nat.le_of_ble_eq_true rfl) dX4_stovesThatSpare_54 ⟨Nat.le_of_ble_eq_true rfl, Nat.le_of_ble_eq_true rfl⟩ ⟨Nat.zero_le _, Nat.zero_le _⟩) hS (fun _ h => h) (fun H locs hP hS _ _ => ?_)
            refine lv_aload_n hx hb dX4_stovesThatSpare_57 rfl (lv_at hl 0 rfl) ?_
            refine gt_X4_25 S hK hP dX4_stovesThatSpare_58 ?_
            obtain ⟨r_61, e_61, h⟩ := ob1_of h
            refine k_goI (k_runV (As := []) (rest := []) S hK hP (k_X0_bindingOaths l hAd isDy_draft e_61) cy_X0_bindingOaths wd_340 rfl (xD isDy_draft) rfl hl.1 rfl (Nat.le_of_ble_eq_true rfl) dX4_stovesThatSpare_61 ⟨Nat.le_of_ble_eq_true rfl, Nat.le_of_ble_eq_true rfl⟩ ⟨Nat.zero_le _, Nat.zero_le _⟩) hS (fun _ h => h) (fun H locs hP hS _ _ => ?_)
            refine lv_iload_n hx hb dX4_stovesThatSpare_64 rfl (lv_at hl 1 rfl) ?_
            refine lv_icmp_eq (tgt := 71) hx hb dX4_stovesThatSpare_65 (by decide) (fun c_65 => ?_) (fun c_65 => ?_)
            · replace h := ite_t c_65 h
              refine lv_iload_n hx hb dX4_stovesThatSpare_71 rfl (lv_at hl 3 rfl) ?_
              refine lv_if_ne (tgt := 83) hx hb dX4_stovesThatSpare_72 (by decide) (fun c_72 => ?_) (fun c_72 => ?_)
              · replace h := ite_f c_72 h
                refine lv_iinc (v := y3 + (1 : Int32)) (lv' := [(3, .int (y3 + (1 : Int32))), (0, .ref (ad 0)), (1, .int y1), (2, .int y2), (4, .int y4), (5, .int y5), (6, .int y6), (7, .int y7)]) hx hb dX4_stovesThatSpare_83 hl (k := 3) rfl rfl (by decide) rfl (fun ls hl => ?_)
                refine lv_iinc (v := y7 + (1 : Int32)) (lv' := [(7, .int (y7 + (1 : Int32))), (3, .int (y3 + (1 : Int32))), (0, .ref (ad 0)), (1, .int y1), (2, .int y2), (4, .int y4), (5, .int y5), (6, .int y6)]) hx hb dX4_stovesThatSpare_86 hl (k := 7) rfl rfl (by decide) rfl (fun ls hl => ?_)
                refine lv_goto (tgt := 39) hx hb dX4_stovesThatSpare_89 (by decide) ?_
                exact ih2 s_54 y1 y2 (y3 + (1 : Int32)) y4 y5 y6 (y7 + (1 : Int32)) _ _ _ h hP hS (lv_sub hl [2, 3, 4, 1, 5, 6, 7, 0] rfl)
              · replace h := ite_t c_72 h
                refine lv_iload hx hb dX4_stovesThatSpare_75 (lv_at hl 6 rfl) ?_
                refine lv_istore (lv' := [(4, .int y6), (0, .ref (ad 0)), (1, .int y1), (2, .int y2), (3, .int y3), (5, .int y5), (6, .int y6), (7, .int y7)]) hx hb dX4_stovesThatSpare_77 hl (by decide) rfl (fun ls hl => ?_)
                refine lv_iload hx hb dX4_stovesThatSpare_79 (lv_at hl 7 rfl) ?_
                refine lv_istore (lv' := [(5, .int y7), (4, .int y6), (0, .ref (ad 0)), (1, .int y1), (2, .int y2), (3, .int y3), (6, .int y6), (7, .int y7)]) hx hb dX4_stovesThatSpare_81 hl (by decide) rfl (fun ls hl => ?_)
                refine lv_iinc (v := y3 + (1 : Int32)) (lv' := [(3, .int (y3 + (1 : Int32))), (5, .int y7), (4, .int y6), (0, .ref (ad 0)), (1, .int y1), (2, .int y2), (6, .int y6), (7, .int y7)]) hx hb dX4_stovesThatSpare_83 hl (k := 5) rfl rfl (by decide) rfl (fun ls hl => ?_)
                refine lv_iinc (v := y7 + (1 : Int32)) (lv' := [(7, .int (y7 + (1 : Int32))), (3, .int (y3 + (1 : Int32))), (5, .int y7), (4, .int y6), (0, .ref (ad 0)), (1, .int y1), (2, .int y2), (6, .int y6)]) hx hb dX4_stovesThatSpare_86 hl (k := 7) rfl rfl (by decide) rfl (fun ls hl => ?_)
                refine lv_goto (tgt := 39) hx hb dX4_stovesThatSpare_89 (by decide) ?_
                exact ih2 s_54 y1 y2 (y3 + (1 : Int32)) y6 y7 y6 (y7 + (1 : Int32)) _ _ _ h hP hS (lv_sub hl [4, 5, 6, 1, 3, 2, 7, 0] rfl)
            · replace h := ite_f c_65 h
              refine lv_goto (tgt := 86) hx hb dX4_stovesThatSpare_68 (by decide) ?_
              refine lv_iinc (v := y7 + (1 : Int32)) (lv' := [(7, .int (y7 + (1 : Int32))), (0, .ref (ad 0)), (1, .int y1), (2, .int y2), (3, .int y3), (4, .int y4), (5, .int y5), (6, .int y6)]) hx hb dX4_stovesThatSpare_86 hl (k := 7) rfl rfl (by decide) rfl (fun ls hl => ?_)
              refine lv_goto (tgt := 39) hx hb dX4_stovesThatSpare_89 (by decide) ?_
              exact ih2 s_54 y1 y2 y3 y4 y5 y6 (y7 + (1 : Int32)) _ _ _ h hP hS (lv_sub hl [1, 2, 3, 4, 5, 6, 7, 0] rfl)
      refine lv_iload hx hb dX4_stovesThatSpare_24 (lv_at hl 6 rfl) ?_
      refine lv_aload_n hx hb dX4_stovesThatSpare_26 rfl (lv_at hl 0 rfl) ?_
      refine gt_X4_21 S hK hP dX4_stovesThatSpare_27 ?_
      refine gt_X4_204 S hK hP isDy_now dX4_stovesThatSpare_30 ?_
      refine lv_icmp_ge (tgt := 98) hx hb dX4_stovesThatSpare_33 (by decide) (fun c_33 => ?_) (fun c_33 => ?_)
      · replace h := ite_t c_33 h
        refine lv_iload_n hx hb dX4_stovesThatSpare_98 rfl (lv_at hl 2 rfl) ?_
        refine lv_if_ne (tgt := 104) hx hb dX4_stovesThatSpare_99 (by decide) (fun c_99 => ?_) (fun c_99 => ?_)
        · replace h := ite_f c_99 h
          refine lv_iload_n hx hb dX4_stovesThatSpare_104 rfl (lv_at hl 2 rfl) ?_
          refine lv_iconst (v := (1 : Int32)) hx hb dX4_stovesThatSpare_105 (by decide) ?_
          refine lv_icmp_ne (tgt := 114) hx hb dX4_stovesThatSpare_106 (by decide) (fun c_106 => ?_) (fun c_106 => ?_)
          · replace h := ite_f c_106 h
            refine lv_iload hx hb dX4_stovesThatSpare_114 (lv_at hl 5 rfl) ?_
            obtain ⟨rfl, rfl⟩ := some_pair h
            exact k_iret S hr hlocks hP hS rfl dX4_stovesThatSpare_116
          · replace h := ite_t c_106 h
            refine lv_iload hx hb dX4_stovesThatSpare_109 (lv_at hl 4 rfl) ?_
            refine lv_goto (tgt := 116) hx hb dX4_stovesThatSpare_111 (by decide) ?_
            obtain ⟨rfl, rfl⟩ := some_pair h
            exact k_iret S hr hlocks hP hS rfl dX4_stovesThatSpare_116
        · replace h := ite_t c_99 h
          refine lv_iload_n hx hb dX4_stovesThatSpare_102 rfl (lv_at hl 3 rfl) ?_
          obtain ⟨rfl, rfl⟩ := some_pair h
          exact k_iret S hr hlocks hP hS rfl dX4_stovesThatSpare_103
      · replace h := ite_f c_33 h
        refine lv_iconst (v := (0 : Int32)) hx hb dX4_stovesThatSpare_36 (by decide) ?_
        refine lv_istore (lv' := [(7, .int (0 : Int32)), (0, .ref (ad 0)), (1, .int y1), (2, .int y2), (3, .int y3), (4, .int y4), (5, .int y5), (6, .int y6)]) hx hb dX4_stovesThatSpare_37 hl (by decide) rfl (fun ls hl => ?_)
        exact loop39 100 σ y1 y2 y3 y4 y5 y6 (0 : Int32) _ _ _ h hP hS (lv_sub hl [1, 2, 3, 4, 5, 6, 7, 0] rfl)
  rw [f_X4_stovesThatSpare] at h
  refine lv_iconst (v := (0 : Int32)) hx hb dX4_stovesThatSpare_0 (by decide) ?_
  refine lv_istore_n (lv' := [(3, .int (0 : Int32)), (0, .ref (ad 0)), (1, .int x1), (2, .int x2)]) hx hb dX4_stovesThatSpare_1 rfl hl (by decide) rfl (fun ls hl => ?_)
  refine lv_bipush (v := (-9 : Int32)) hx hb dX4_stovesThatSpare_2 (by decide) ?_
  refine lv_istore (lv' := [(4, .int (-9 : Int32)), (3, .int (0 : Int32)), (0, .ref (ad 0)), (1, .int x1), (2, .int x2)]) hx hb dX4_stovesThatSpare_4 hl (by decide) rfl (fun ls hl => ?_)
  refine lv_bipush (v := (-9 : Int32)) hx hb dX4_stovesThatSpare_6 (by decide) ?_
  refine lv_istore (lv' := [(5, .int (-9 : Int32)), (4, .int (-9 : Int32)), (3, .int (0 : Int32)), (0, .ref (ad 0)), (1, .int x1), (2, .int x2)]) hx hb dX4_stovesThatSpare_8 hl (by decide) rfl (fun ls hl => ?_)
  refine lv_aload_n hx hb dX4_stovesThatSpare_10 rfl (lv_at hl 3 rfl) ?_
  refine gt_X4_25 S hK hP dX4_stovesThatSpare_11 ?_
  refine lv_aload_n hx hb dX4_stovesThatSpare_14 rfl (lv_at hl 3 rfl) ?_
  refine gt_X4_21 S hK hP dX4_stovesThatSpare_15 ?_
  obtain ⟨r_18, s_18, e_18, h⟩ := ob2_of h
  refine k_goV (k_runV (As := [.ref (ad 10)]) (rest := []) S hK hP (k_X0_become l hAd isDy_draft isDy_now e_18) cy_X0_become wd_304 rfl (xD isDy_draft) rfl hl.1 rfl (Nat.le_of_ble_eq_true rfl) dX4_stovesThatSpare_18 ⟨Nat.le_of_ble_eq_true rfl, Nat.le_of_ble_eq_true rfl⟩ ⟨Nat.zero_le _, Nat.zero_le _⟩) hS (fun _ h => h) (fun H locs hP hS _ _ => ?_)
  refine lv_iconst (v := (0 : Int32)) hx hb dX4_stovesThatSpare_21 (by decide) ?_
  refine lv_istore (lv' := [(6, .int (0 : Int32)), (5, .int (-9 : Int32)), (4, .int (-9 : Int32)), (3, .int (0 : Int32)), (0, .ref (ad 0)), (1, .int x1), (2, .int x2)]) hx hb dX4_stovesThatSpare_22 hl (by decide) rfl (fun ls hl => ?_)
  exact loop24 100 s_18 x1 x2 (0 : Int32) (-9 : Int32) (-9 : Int32) (0 : Int32) _ _ _ h hP hS (lv_sub hl [4, 5, 6, 3, 2, 1, 0] rfl)
def f_X4_stoves (σ : SX) (x1 : Int32) (x2 : Int32) : Option (Int32 × SX) := if x1 < 0 then (some ((-2 : Int32), σ)) else (if (64 : Int32) ≤ x1 then (some ((-2 : Int32), σ)) else (if x2 < 0 then (some ((-2 : Int32), σ)) else (if x2 ≤ (2 : Int32) then (ob1 (f_X4_hasDay σ) (fun r_23 => if r_23 = 0 then (some ((-3 : Int32), σ)) else (if x1 < ((1 : Int32) <<< ((gF σ 10 2) &&& 31)) then (ob1 (f_X0_allOaths σ 10) (fun r_52 => ob2 (f_X4_stovesThatSpare σ (r_52 &&& (x1 ^^^ (-1 : Int32))) x2) (fun r_60 s_60 => some (r_60, s_60)))) else (some ((-1 : Int32), σ))))) else (some ((-2 : Int32), σ)))))
set_option maxRecDepth 100000 in
set_option maxHeartbeats 4000000 in
theorem k_X4_stoves (l : Launch) {D : va_G} {A : Nat → Prop} {cI cZ cS : ClassId} {ad : Nat → Nat} {ro : Option Nat} (hAd : ∀ ro σ, va_D A (WX cI cZ cS ad ro σ)) {σ : SX} {x1 : Int32} {x2 : Int32} {σ' : SX} {r : Int32} (h : f_X4_stoves σ x1 x2 = some (r, σ')) : Ct (QI D A r (WX cI cZ cS ad ro (σ'))) l yX4_stoves cX4_stoves 3 (some .int) 5 114 D (tyS cI cZ cS) A [.ref (ad 0), .int x1, .int x2] (WX cI cZ cS ad ro σ) := by
  refine Ct.of (by decide +kernel) (Nat.le_of_ble_eq_true rfl) ?_
  intro p e s m below meth c ls S hK hr hlocks hP hS hl
  have hx := S.1
  have hb := S.2.1
  have hl : lv_has ls 3 [(0, .ref (ad 0)), (1, .int x1), (2, .int x2)] := hl
  rw [f_X4_stoves] at h
  refine lv_iload_n hx hb dX4_stoves_0 rfl (lv_at hl 1 rfl) ?_
  refine lv_if_lt (tgt := 19) hx hb dX4_stoves_1 (by decide) (fun c_1 => ?_) (fun c_1 => ?_)
  · replace h := ite_t c_1 h
    refine lv_bipush (v := (-2 : Int32)) hx hb dX4_stoves_19 (by decide) ?_
    obtain ⟨rfl, rfl⟩ := some_pair h
    exact k_iret S hr hlocks hP hS rfl dX4_stoves_21
  · replace h := ite_f c_1 h
    refine lv_iload_n hx hb dX4_stoves_4 rfl (lv_at hl 1 rfl) ?_
    refine lv_bipush (v := (64 : Int32)) hx hb dX4_stoves_5 (by decide) ?_
    refine lv_icmp_ge (tgt := 19) hx hb dX4_stoves_7 (by decide) (fun c_7 => ?_) (fun c_7 => ?_)
    · replace h := ite_t c_7 h
      refine lv_bipush (v := (-2 : Int32)) hx hb dX4_stoves_19 (by decide) ?_
      obtain ⟨rfl, rfl⟩ := some_pair h
      exact k_iret S hr hlocks hP hS rfl dX4_stoves_21
    · replace h := ite_f c_7 h
      refine lv_iload_n hx hb dX4_stoves_10 rfl (lv_at hl 2 rfl) ?_
      refine lv_if_lt (tgt := 19) hx hb dX4_stoves_11 (by decide) (fun c_11 => ?_) (fun c_11 => ?_)
      · replace h := ite_t c_11 h
        refine lv_bipush (v := (-2 : Int32)) hx hb dX4_stoves_19 (by decide) ?_
        obtain ⟨rfl, rfl⟩ := some_pair h
        exact k_iret S hr hlocks hP hS rfl dX4_stoves_21
      · replace h := ite_f c_11 h
        refine lv_iload_n hx hb dX4_stoves_14 rfl (lv_at hl 2 rfl) ?_
        refine lv_iconst (v := (2 : Int32)) hx hb dX4_stoves_15 (by decide) ?_
        refine lv_icmp_le (tgt := 22) hx hb dX4_stoves_16 (by decide) (fun c_16 => ?_) (fun c_16 => ?_)
        · replace h := ite_t c_16 h
          refine lv_aload_n hx hb dX4_stoves_22 rfl (lv_at hl 0 rfl) ?_
          obtain ⟨r_23, e_23, h⟩ := ob1_of h
          refine k_goI (k_runV (As := []) (rest := []) S hK hP (k_X4_hasDay l hAd e_23) cy_X4_hasDay wd_403 rfl xO rfl hl.1 rfl (Nat.le_of_ble_eq_true rfl) dX4_stoves_23 ⟨Nat.le_of_ble_eq_true rfl, Nat.le_of_ble_eq_true rfl⟩ ⟨Nat.zero_le _, Nat.zero_le _⟩) hS (fun _ h => h) (fun H locs hP hS _ _ => ?_)
          refine lv_if_ne (tgt := 32) hx hb dX4_stoves_26 (by decide) (fun c_26 => ?_) (fun c_26 => ?_)
          · replace h := ite_f c_26 h
            refine lv_iload_n hx hb dX4_stoves_32 rfl (lv_at hl 1 rfl) ?_
            refine lv_iconst (v := (1 : Int32)) hx hb dX4_stoves_33 (by decide) ?_
            refine lv_aload_n hx hb dX4_stoves_34 rfl (lv_at hl 0 rfl) ?_
            refine gt_X4_21 S hK hP dX4_stoves_35 ?_
            refine gt_X4_145 S hK hP isDy_now dX4_stoves_38 ?_
            refine lv_ishl hx hb dX4_stoves_41 ?_
            refine lv_icmp_lt (tgt := 47) hx hb dX4_stoves_42 (by decide) (fun c_42 => ?_) (fun c_42 => ?_)
            · replace h := ite_t c_42 h
              refine lv_aload_n hx hb dX4_stoves_47 rfl (lv_at hl 0 rfl) ?_
              refine lv_aload_n hx hb dX4_stoves_48 rfl (lv_at hl 0 rfl) ?_
              refine gt_X4_21 S hK hP dX4_stoves_49 ?_
              obtain ⟨r_52, e_52, h⟩ := ob1_of h
              refine k_goI (k_runV (As := []) (rest := [.ref (ad 0)]) S hK hP (k_X0_allOaths l hAd isDy_now e_52) cy_X0_allOaths wd_510 rfl (xD isDy_now) rfl hl.1 rfl (Nat.le_of_ble_eq_true rfl) dX4_stoves_52 ⟨Nat.le_of_ble_eq_true rfl, Nat.le_of_ble_eq_true rfl⟩ ⟨Nat.zero_le _, Nat.zero_le _⟩) hS (fun _ h => h) (fun H locs hP hS _ _ => ?_)
              refine lv_iload_n hx hb dX4_stoves_55 rfl (lv_at hl 1 rfl) ?_
              refine lv_iconst (v := (-1 : Int32)) hx hb dX4_stoves_56 (by decide) ?_
              refine lv_ixor hx hb dX4_stoves_57 ?_
              refine lv_iand hx hb dX4_stoves_58 ?_
              refine lv_iload_n hx hb dX4_stoves_59 rfl (lv_at hl 2 rfl) ?_
              obtain ⟨r_60, s_60, e_60, h⟩ := ob2_of h
              refine k_goI (k_runV (As := [.int (r_52 &&& (x1 ^^^ (-1 : Int32))), .int x2]) (rest := []) S hK hP (k_X4_stovesThatSpare l hAd e_60) cy_X4_stovesThatSpare wd_514 rfl xO rfl hl.1 rfl (Nat.le_of_ble_eq_true rfl) dX4_stoves_60 ⟨Nat.le_of_ble_eq_true rfl, Nat.le_of_ble_eq_true rfl⟩ ⟨Nat.zero_le _, Nat.zero_le _⟩) hS (fun _ h => h) (fun H locs hP hS _ _ => ?_)
              obtain ⟨rfl, rfl⟩ := some_pair h
              exact k_iret S hr hlocks hP hS rfl dX4_stoves_63
            · replace h := ite_f c_42 h
              refine lv_iconst (v := (-1 : Int32)) hx hb dX4_stoves_45 (by decide) ?_
              obtain ⟨rfl, rfl⟩ := some_pair h
              exact k_iret S hr hlocks hP hS rfl dX4_stoves_46
          · replace h := ite_t c_26 h
            refine lv_bipush (v := (-3 : Int32)) hx hb dX4_stoves_29 (by decide) ?_
            obtain ⟨rfl, rfl⟩ := some_pair h
            exact k_iret S hr hlocks hP hS rfl dX4_stoves_31
        · replace h := ite_f c_16 h
          refine lv_bipush (v := (-2 : Int32)) hx hb dX4_stoves_19 (by decide) ?_
          obtain ⟨rfl, rfl⟩ := some_pair h
          exact k_iret S hr hlocks hP hS rfl dX4_stoves_21
def f_X4_reading (σ : SX) (x1 : Int32) (x2 : Int32) (x3 : Int32) : Option (Int32 × SX) := ob1 (f_X0_hasSwearer σ 10 x1) (fun r_5 => if r_5 = 0 then (some ((-1 : Int32), σ)) else (ob1 (f_X0_hasHour σ 10 x2) (fun r_16 => if r_16 = 0 then (some ((-1 : Int32), σ)) else (if x3 < 0 then (some ((-2 : Int32), σ)) else (if x3 ≤ (1 : Int32) then (if (gF σ 25 0) < (8 : Int32) then (if x3 = (1 : Int32) then (ob2 (f_X2_add σ x1 x2 (1 : Int32)) (fun r_67 s_67 => some ((gF s_67 25 0) - (1 : Int32), s_67))) else (ob2 (f_X2_add σ x1 x2 (0 : Int32)) (fun r_67 s_67 => some ((gF s_67 25 0) - (1 : Int32), s_67)))) else (some ((-4 : Int32), σ))) else (some ((-2 : Int32), σ)))))))
set_option maxRecDepth 100000 in
set_option maxHeartbeats 4000000 in
theorem k_X4_reading (l : Launch) {D : va_G} {A : Nat → Prop} {cI cZ cS : ClassId} {ad : Nat → Nat} {ro : Option Nat} (hAd : ∀ ro σ, va_D A (WX cI cZ cS ad ro σ)) {σ : SX} {x1 : Int32} {x2 : Int32} {x3 : Int32} {σ' : SX} {r : Int32} (h : f_X4_reading σ x1 x2 x3 = some (r, σ')) : Ct (QI D A r (WX cI cZ cS ad ro (σ'))) l yX4_reading cX4_reading 4 (some .int) 1 23 D (tyS cI cZ cS) A [.ref (ad 0), .int x1, .int x2, .int x3] (WX cI cZ cS ad ro σ) := by
  refine Ct.of (by decide +kernel) (Nat.le_of_ble_eq_true rfl) ?_
  intro p e s m below meth c ls S hK hr hlocks hP hS hl
  have hx := S.1
  have hb := S.2.1
  have hl : lv_has ls 4 [(0, .ref (ad 0)), (1, .int x1), (2, .int x2), (3, .int x3)] := hl
  rw [f_X4_reading] at h
  refine lv_aload_n hx hb dX4_reading_0 rfl (lv_at hl 0 rfl) ?_
  refine gt_X4_21 S hK hP dX4_reading_1 ?_
  refine lv_iload_n hx hb dX4_reading_4 rfl (lv_at hl 1 rfl) ?_
  obtain ⟨r_5, e_5, h⟩ := ob1_of h
  refine k_goI (k_runV (As := [.int x1]) (rest := []) S hK hP (k_X0_hasSwearer l hAd isDy_now e_5) cy_X0_hasSwearer wd_315 rfl (xD isDy_now) rfl hl.1 rfl (Nat.le_of_ble_eq_true rfl) dX4_reading_5 ⟨Nat.le_of_ble_eq_true rfl, Nat.le_of_ble_eq_true rfl⟩ ⟨Nat.zero_le _, Nat.zero_le _⟩) hS (fun _ h => h) (fun H locs hP hS _ _ => ?_)
  refine lv_if_eq (tgt := 22) hx hb dX4_reading_8 (by decide) (fun c_8 => ?_) (fun c_8 => ?_)
  · replace h := ite_t c_8 h
    refine lv_iconst (v := (-1 : Int32)) hx hb dX4_reading_22 (by decide) ?_
    obtain ⟨rfl, rfl⟩ := some_pair h
    exact k_iret S hr hlocks hP hS rfl dX4_reading_23
  · replace h := ite_f c_8 h
    refine lv_aload_n hx hb dX4_reading_11 rfl (lv_at hl 0 rfl) ?_
    refine gt_X4_21 S hK hP dX4_reading_12 ?_
    refine lv_iload_n hx hb dX4_reading_15 rfl (lv_at hl 2 rfl) ?_
    obtain ⟨r_16, e_16, h⟩ := ob1_of h
    refine k_goI (k_runV (As := [.int x2]) (rest := []) S hK hP (k_X0_hasHour l hAd isDy_now e_16) cy_X0_hasHour wd_362 rfl (xD isDy_now) rfl hl.1 rfl (Nat.le_of_ble_eq_true rfl) dX4_reading_16 ⟨Nat.le_of_ble_eq_true rfl, Nat.le_of_ble_eq_true rfl⟩ ⟨Nat.zero_le _, Nat.zero_le _⟩) hS (fun _ h => h) (fun H locs hP hS _ _ => ?_)
    refine lv_if_ne (tgt := 24) hx hb dX4_reading_19 (by decide) (fun c_19 => ?_) (fun c_19 => ?_)
    · replace h := ite_f c_19 h
      refine lv_iload_n hx hb dX4_reading_24 rfl (lv_at hl 3 rfl) ?_
      refine lv_if_lt (tgt := 33) hx hb dX4_reading_25 (by decide) (fun c_25 => ?_) (fun c_25 => ?_)
      · replace h := ite_t c_25 h
        refine lv_bipush (v := (-2 : Int32)) hx hb dX4_reading_33 (by decide) ?_
        obtain ⟨rfl, rfl⟩ := some_pair h
        exact k_iret S hr hlocks hP hS rfl dX4_reading_35
      · replace h := ite_f c_25 h
        refine lv_iload_n hx hb dX4_reading_28 rfl (lv_at hl 3 rfl) ?_
        refine lv_iconst (v := (1 : Int32)) hx hb dX4_reading_29 (by decide) ?_
        refine lv_icmp_le (tgt := 36) hx hb dX4_reading_30 (by decide) (fun c_30 => ?_) (fun c_30 => ?_)
        · replace h := ite_t c_30 h
          refine lv_aload_n hx hb dX4_reading_36 rfl (lv_at hl 0 rfl) ?_
          refine gt_X4_38 S hK hP dX4_reading_37 ?_
          refine gt_X4_79 S hK hP dX4_reading_40 ?_
          refine lv_bipush (v := (8 : Int32)) hx hb dX4_reading_43 (by decide) ?_
          refine lv_icmp_lt (tgt := 51) hx hb dX4_reading_45 (by decide) (fun c_45 => ?_) (fun c_45 => ?_)
          · replace h := ite_t c_45 h
            refine lv_aload_n hx hb dX4_reading_51 rfl (lv_at hl 0 rfl) ?_
            refine gt_X4_38 S hK hP dX4_reading_52 ?_
            refine lv_iload_n hx hb dX4_reading_55 rfl (lv_at hl 1 rfl) ?_
            refine lv_iload_n hx hb dX4_reading_56 rfl (lv_at hl 2 rfl) ?_
            refine lv_iload_n hx hb dX4_reading_57 rfl (lv_at hl 3 rfl) ?_
            refine lv_iconst (v := (1 : Int32)) hx hb dX4_reading_58 (by decide) ?_
            refine lv_icmp_ne (tgt := 66) hx hb dX4_reading_59 (by decide) (fun c_59 => ?_) (fun c_59 => ?_)
            · replace h := ite_f c_59 h
              refine lv_iconst (v := (0 : Int32)) hx hb dX4_reading_66 (by decide) ?_
              obtain ⟨r_67, s_67, e_67, h⟩ := ob2_of h
              refine k_goV (k_runV (As := [.int x1, .int x2, .int (0 : Int32)]) (rest := []) S hK hP (k_X2_add l hAd e_67) cy_X2_add wd_522 rfl xG rfl hl.1 rfl (Nat.le_of_ble_eq_true rfl) dX4_reading_67 ⟨Nat.le_of_ble_eq_true rfl, Nat.le_of_ble_eq_true rfl⟩ ⟨Nat.zero_le _, Nat.zero_le _⟩) hS (fun _ h => h) (fun H locs hP hS _ _ => ?_)
              refine lv_aload_n hx hb dX4_reading_70 rfl (lv_at hl 0 rfl) ?_
              refine gt_X4_38 S hK hP dX4_reading_71 ?_
              refine gt_X4_79 S hK hP dX4_reading_74 ?_
              refine lv_iconst (v := (1 : Int32)) hx hb dX4_reading_77 (by decide) ?_
              refine lv_isub hx hb dX4_reading_78 ?_
              obtain ⟨rfl, rfl⟩ := some_pair h
              exact k_iret S hr hlocks hP hS rfl dX4_reading_79
            · replace h := ite_t c_59 h
              refine lv_iconst (v := (1 : Int32)) hx hb dX4_reading_62 (by decide) ?_
              refine lv_goto (tgt := 67) hx hb dX4_reading_63 (by decide) ?_
              obtain ⟨r_67, s_67, e_67, h⟩ := ob2_of h
              refine k_goV (k_runV (As := [.int x1, .int x2, .int (1 : Int32)]) (rest := []) S hK hP (k_X2_add l hAd e_67) cy_X2_add wd_522 rfl xG rfl hl.1 rfl (Nat.le_of_ble_eq_true rfl) dX4_reading_67 ⟨Nat.le_of_ble_eq_true rfl, Nat.le_of_ble_eq_true rfl⟩ ⟨Nat.zero_le _, Nat.zero_le _⟩) hS (fun _ h => h) (fun H locs hP hS _ _ => ?_)
              refine lv_aload_n hx hb dX4_reading_70 rfl (lv_at hl 0 rfl) ?_
              refine gt_X4_38 S hK hP dX4_reading_71 ?_
              refine gt_X4_79 S hK hP dX4_reading_74 ?_
              refine lv_iconst (v := (1 : Int32)) hx hb dX4_reading_77 (by decide) ?_
              refine lv_isub hx hb dX4_reading_78 ?_
              obtain ⟨rfl, rfl⟩ := some_pair h
              exact k_iret S hr hlocks hP hS rfl dX4_reading_79
          · replace h := ite_f c_45 h
            refine lv_bipush (v := (-4 : Int32)) hx hb dX4_reading_48 (by decide) ?_
            obtain ⟨rfl, rfl⟩ := some_pair h
            exact k_iret S hr hlocks hP hS rfl dX4_reading_50
        · replace h := ite_f c_30 h
          refine lv_bipush (v := (-2 : Int32)) hx hb dX4_reading_33 (by decide) ?_
          obtain ⟨rfl, rfl⟩ := some_pair h
          exact k_iret S hr hlocks hP hS rfl dX4_reading_35
    · replace h := ite_t c_19 h
      refine lv_iconst (v := (-1 : Int32)) hx hb dX4_reading_22 (by decide) ?_
      obtain ⟨rfl, rfl⟩ := some_pair h
      exact k_iret S hr hlocks hP hS rfl dX4_reading_23
def f_X4_back (σ : SX) (x1 : Int32) : Option (Int32 × SX) := if x1 < 0 then (some ((-2 : Int32), σ)) else (if x1 ≤ (gF σ 25 0) then (some (gF (sF σ 25 0 ((gF σ 25 0) - x1)) 25 0, sF σ 25 0 ((gF σ 25 0) - x1))) else (some ((-2 : Int32), σ)))
set_option maxRecDepth 100000 in
set_option maxHeartbeats 4000000 in
theorem k_X4_back (l : Launch) {D : va_G} {A : Nat → Prop} {cI cZ cS : ClassId} {ad : Nat → Nat} {ro : Option Nat} (hAd : ∀ ro σ, va_D A (WX cI cZ cS ad ro σ)) {σ : SX} {x1 : Int32} {σ' : SX} {r : Int32} (h : f_X4_back σ x1 = some (r, σ')) : Ct (QI D A r (WX cI cZ cS ad ro (σ'))) l yX4_back cX4_back 2 (some .int) 0 0 D (tyS cI cZ cS) A [.ref (ad 0), .int x1] (WX cI cZ cS ad ro σ) := by
  refine Ct.of (by decide +kernel) (Nat.le_of_ble_eq_true rfl) ?_
  intro p e s m below meth c ls S hK hr hlocks hP hS hl
  have hx := S.1
  have hb := S.2.1
  have hl : lv_has ls 2 [(0, .ref (ad 0)), (1, .int x1)] := hl
  rw [f_X4_back] at h
  refine lv_iload_n hx hb dX4_back_0 rfl (lv_at hl 1 rfl) ?_
  refine lv_if_lt (tgt := 15) hx hb dX4_back_1 (by decide) (fun c_1 => ?_) (fun c_1 => ?_)
  · replace h := ite_t c_1 h
    refine lv_bipush (v := (-2 : Int32)) hx hb dX4_back_15 (by decide) ?_
    obtain ⟨rfl, rfl⟩ := some_pair h
    exact k_iret S hr hlocks hP hS rfl dX4_back_17
  · replace h := ite_f c_1 h
    refine lv_iload_n hx hb dX4_back_4 rfl (lv_at hl 1 rfl) ?_
    refine lv_aload_n hx hb dX4_back_5 rfl (lv_at hl 0 rfl) ?_
    refine gt_X4_38 S hK hP dX4_back_6 ?_
    refine gt_X4_79 S hK hP dX4_back_9 ?_
    refine lv_icmp_le (tgt := 18) hx hb dX4_back_12 (by decide) (fun c_12 => ?_) (fun c_12 => ?_)
    · replace h := ite_t c_12 h
      refine lv_aload_n hx hb dX4_back_18 rfl (lv_at hl 0 rfl) ?_
      refine gt_X4_38 S hK hP dX4_back_19 ?_
      refine lv_dup hx hb dX4_back_22 rfl ?_
      refine gt_X4_79 S hK hP dX4_back_23 ?_
      refine lv_iload_n hx hb dX4_back_26 rfl (lv_at hl 1 rfl) ?_
      refine lv_isub hx hb dX4_back_27 ?_
      refine pt_X4_79 S hK hP (hAd _ _) hS dX4_back_28 (fun H locs hP hS => ?_)
      refine lv_aload_n hx hb dX4_back_31 rfl (lv_at hl 0 rfl) ?_
      refine gt_X4_38 S hK hP dX4_back_32 ?_
      refine gt_X4_79 S hK hP dX4_back_35 ?_
      obtain ⟨rfl, rfl⟩ := some_pair h
      exact k_iret S hr hlocks hP hS rfl dX4_back_38
    · replace h := ite_f c_12 h
      refine lv_bipush (v := (-2 : Int32)) hx hb dX4_back_15 (by decide) ?_
      obtain ⟨rfl, rfl⟩ := some_pair h
      exact k_iret S hr hlocks hP hS rfl dX4_back_17
def f_X4_coats_L28 : Nat → SX → Int32 → Int32 → Int32 → Option (Int32 × SX)
  | 0, _, _, _, _ => none
  | n + 1, σ, y1, y2, y3 => if (9 : Int32) < y3 then (some (y2, σ)) else (oin y1 4 (ob1 (f_X2_holdIn (sR σ (17 + 3) (upd (gR σ (17 + 3)) y1.toNatClampNeg y3)) 17) (fun r_53 => if r_53 = 0 then (f_X4_coats_L28 n (sR σ (17 + 3) (upd (gR σ (17 + 3)) y1.toNatClampNeg y3)) y1 (y2 ||| (0 : Int32)) (y3 + (1 : Int32))) else (f_X4_coats_L28 n (sR σ (17 + 3) (upd (gR σ (17 + 3)) y1.toNatClampNeg y3)) y1 (y2 ||| ((1 : Int32) <<< (y3 &&& 31))) (y3 + (1 : Int32))))))
def f_X4_coats (σ : SX) (x1 : Int32) : Option (Int32 × SX) := ob1 (f_X0_hasSwearer σ 10 x1) (fun r_5 => if r_5 = 0 then (some ((-1 : Int32), σ)) else (ob2 (f_X0_become σ 17 10) (fun r_21 s_21 => f_X4_coats_L28 100 s_21 x1 (0 : Int32) (0 : Int32))))
set_option maxRecDepth 100000 in
set_option maxHeartbeats 4000000 in
theorem k_X4_coats (l : Launch) {D : va_G} {A : Nat → Prop} {cI cZ cS : ClassId} {ad : Nat → Nat} {ro : Option Nat} (hAd : ∀ ro σ, va_D A (WX cI cZ cS ad ro σ)) {σ : SX} {x1 : Int32} {σ' : SX} {r : Int32} (h : f_X4_coats σ x1 = some (r, σ')) : Ct (QI D A r (WX cI cZ cS ad ro (σ'))) l yX4_coats cX4_coats 4 (some .int) 4 88 D (tyS cI cZ cS) A [.ref (ad 0), .int x1] (WX cI cZ cS ad ro σ) := by
  refine Ct.of (by decide +kernel) (Nat.le_of_ble_eq_true rfl) ?_
  intro p e s m below meth c ls S hK hr hlocks hP hS hl
  have hx := S.1
  have hb := S.2.1
  have hl : lv_has ls 4 [(0, .ref (ad 0)), (1, .int x1)] := hl
  have loop28 : ∀ (n : Nat) (σ : SX) (y1 : Int32) (y2 : Int32) (y3 : Int32) (H : Heap) (locs : List Loc) (ls : Array Slot), f_X4_coats_L28 n σ y1 y2 y3 = some (r, σ') → va_P D vwCl (WX cI cZ cS ad ro σ) H → va_S A s.heap H locs → lv_has ls 4 [(0, .ref (ad 0)), (1, .int y1), (2, .int y2), (3, .int y3)] → W p l e (rmO 4 88) s m [.ref (ad 0), .int x1].toArray below meth c H locs 0 0 (MQ below (QI D A r (WX cI cZ cS ad ro (σ'))) [.ref (ad 0), .int x1].toArray s 0 0 A) (F0 m 28 ls []) := by
    intro n
    induction n with
    | zero => intro σ y1 y2 y3 H locs ls h; cases h
    | succ n ih =>
      intro σ y1 y2 y3 H locs ls h hP hS hl
      rw [f_X4_coats_L28] at h
      refine lv_iload_n hx hb dX4_coats_28 rfl (lv_at hl 3 rfl) ?_
      refine lv_bipush (v := (9 : Int32)) hx hb dX4_coats_29 (by decide) ?_
      refine lv_icmp_gt (tgt := 74) hx hb dX4_coats_31 (by decide) (fun c_31 => ?_) (fun c_31 => ?_)
      · replace h := ite_t c_31 h
        refine lv_iload_n hx hb dX4_coats_74 rfl (lv_at hl 2 rfl) ?_
        obtain ⟨rfl, rfl⟩ := some_pair h
        exact k_iret S hr hlocks hP hS rfl dX4_coats_75
      · replace h := ite_f c_31 h
        refine lv_aload_n hx hb dX4_coats_34 rfl (lv_at hl 0 rfl) ?_
        refine gt_X4_25 S hK hP dX4_coats_35 ?_
        refine gt_X4_92 S hK hP isDy_draft dX4_coats_38 ?_
        refine lv_iload_n hx hb dX4_coats_41 rfl (lv_at hl 1 rfl) ?_
        refine lv_iload_n hx hb dX4_coats_42 rfl (lv_at hl 3 rfl) ?_
        obtain ⟨hi_43, h⟩ := oin_of h
        refine k_iast S hK hP (hAd _ _) hS (xDr3 isDy_draft) (xDr3_s isDy_draft) hi_43 dX4_coats_43 (fun H locs hP hS => ?_)
        refine lv_iload_n hx hb dX4_coats_44 rfl (lv_at hl 2 rfl) ?_
        refine lv_aload_n hx hb dX4_coats_45 rfl (lv_at hl 0 rfl) ?_
        refine gt_X4_38 S hK hP dX4_coats_46 ?_
        refine lv_aload_n hx hb dX4_coats_49 rfl (lv_at hl 0 rfl) ?_
        refine gt_X4_25 S hK hP dX4_coats_50 ?_
        obtain ⟨r_53, e_53, h⟩ := ob1_of h
        refine k_goI (k_runV (As := [.ref (ad 17)]) (rest := [.int y2]) S hK hP (k_X2_holdIn l hAd isDy_draft e_53) cy_X2_holdIn wd_534 rfl xG rfl hl.1 rfl (Nat.le_of_ble_eq_true rfl) dX4_coats_53 ⟨Nat.le_of_ble_eq_true rfl, Nat.le_of_ble_eq_true rfl⟩ ⟨Nat.zero_le _, Nat.zero_le _⟩) hS (fun _ h => h) (fun H locs hP hS _ _ => ?_)
        refine lv_if_eq (tgt := 65) hx hb dX4_coats_56 (by decide) (fun c_56 => ?_) (fun c_56 => ?_)
        · replace h := ite_t c_56 h
          refine lv_iconst (v := (0 : Int32)) hx hb dX4_coats_65 (by decide) ?_
          refine lv_ior hx hb dX4_coats_66 ?_
          refine lv_istore_n (lv' := [(2, .int (y2 ||| (0 : Int32))), (0, .ref (ad 0)), (1, .int y1), (3, .int y3)]) hx hb dX4_coats_67 rfl hl (by decide) rfl (fun ls hl => ?_)
          refine lv_iinc (v := y3 + (1 : Int32)) (lv' := [(3, .int (y3 + (1 : Int32))), (2, .int (y2 ||| (0 : Int32))), (0, .ref (ad 0)), (1, .int y1)]) hx hb dX4_coats_68 hl (k := 3) rfl rfl (by decide) rfl (fun ls hl => ?_)
          refine lv_goto (tgt := 28) hx hb dX4_coats_71 (by decide) ?_
          exact ih (sR σ (17 + 3) (upd (gR σ (17 + 3)) y1.toNatClampNeg y3)) y1 (y2 ||| (0 : Int32)) (y3 + (1 : Int32)) _ _ _ h hP hS (lv_sub hl [2, 3, 1, 0] rfl)
        · replace h := ite_f c_56 h
          refine lv_iconst (v := (1 : Int32)) hx hb dX4_coats_59 (by decide) ?_
          refine lv_iload_n hx hb dX4_coats_60 rfl (lv_at hl 3 rfl) ?_
          refine lv_ishl hx hb dX4_coats_61 ?_
          refine lv_goto (tgt := 66) hx hb dX4_coats_62 (by decide) ?_
          refine lv_ior hx hb dX4_coats_66 ?_
          refine lv_istore_n (lv' := [(2, .int (y2 ||| ((1 : Int32) <<< (y3 &&& 31)))), (0, .ref (ad 0)), (1, .int y1), (3, .int y3)]) hx hb dX4_coats_67 rfl hl (by decide) rfl (fun ls hl => ?_)
          refine lv_iinc (v := y3 + (1 : Int32)) (lv' := [(3, .int (y3 + (1 : Int32))), (2, .int (y2 ||| ((1 : Int32) <<< (y3 &&& 31)))), (0, .ref (ad 0)), (1, .int y1)]) hx hb dX4_coats_68 hl (k := 3) rfl rfl (by decide) rfl (fun ls hl => ?_)
          refine lv_goto (tgt := 28) hx hb dX4_coats_71 (by decide) ?_
          exact ih (sR σ (17 + 3) (upd (gR σ (17 + 3)) y1.toNatClampNeg y3)) y1 (y2 ||| ((1 : Int32) <<< (y3 &&& 31))) (y3 + (1 : Int32)) _ _ _ h hP hS (lv_sub hl [2, 3, 1, 0] rfl)
  rw [f_X4_coats] at h
  refine lv_aload_n hx hb dX4_coats_0 rfl (lv_at hl 0 rfl) ?_
  refine gt_X4_21 S hK hP dX4_coats_1 ?_
  refine lv_iload_n hx hb dX4_coats_4 rfl (lv_at hl 1 rfl) ?_
  obtain ⟨r_5, e_5, h⟩ := ob1_of h
  refine k_goI (k_runV (As := [.int x1]) (rest := []) S hK hP (k_X0_hasSwearer l hAd isDy_now e_5) cy_X0_hasSwearer wd_315 rfl (xD isDy_now) rfl hl.1 rfl (Nat.le_of_ble_eq_true rfl) dX4_coats_5 ⟨Nat.le_of_ble_eq_true rfl, Nat.le_of_ble_eq_true rfl⟩ ⟨Nat.zero_le _, Nat.zero_le _⟩) hS (fun _ h => h) (fun H locs hP hS _ _ => ?_)
  refine lv_if_ne (tgt := 13) hx hb dX4_coats_8 (by decide) (fun c_8 => ?_) (fun c_8 => ?_)
  · replace h := ite_f c_8 h
    refine lv_aload_n hx hb dX4_coats_13 rfl (lv_at hl 0 rfl) ?_
    refine gt_X4_25 S hK hP dX4_coats_14 ?_
    refine lv_aload_n hx hb dX4_coats_17 rfl (lv_at hl 0 rfl) ?_
    refine gt_X4_21 S hK hP dX4_coats_18 ?_
    obtain ⟨r_21, s_21, e_21, h⟩ := ob2_of h
    refine k_goV (k_runV (As := [.ref (ad 10)]) (rest := []) S hK hP (k_X0_become l hAd isDy_draft isDy_now e_21) cy_X0_become wd_304 rfl (xD isDy_draft) rfl hl.1 rfl (Nat.le_of_ble_eq_true rfl) dX4_coats_21 ⟨Nat.le_of_ble_eq_true rfl, Nat.le_of_ble_eq_true rfl⟩ ⟨Nat.zero_le _, Nat.zero_le _⟩) hS (fun _ h => h) (fun H locs hP hS _ _ => ?_)
    refine lv_iconst (v := (0 : Int32)) hx hb dX4_coats_24 (by decide) ?_
    refine lv_istore_n (lv' := [(2, .int (0 : Int32)), (0, .ref (ad 0)), (1, .int x1)]) hx hb dX4_coats_25 rfl hl (by decide) rfl (fun ls hl => ?_)
    refine lv_iconst (v := (0 : Int32)) hx hb dX4_coats_26 (by decide) ?_
    refine lv_istore_n (lv' := [(3, .int (0 : Int32)), (2, .int (0 : Int32)), (0, .ref (ad 0)), (1, .int x1)]) hx hb dX4_coats_27 rfl hl (by decide) rfl (fun ls hl => ?_)
    exact loop28 100 s_21 x1 (0 : Int32) (0 : Int32) _ _ _ h hP hS (lv_sub hl [2, 3, 1, 0] rfl)
  · replace h := ite_t c_8 h
    refine lv_iconst (v := (-1 : Int32)) hx hb dX4_coats_11 (by decide) ?_
    obtain ⟨rfl, rfl⟩ := some_pair h
    exact k_iret S hr hlocks hP hS rfl dX4_coats_12
def f_X4_kinds_L28 : Nat → SX → Int32 → Int32 → Int32 → Option (Int32 × SX)
  | 0, _, _, _, _ => none
  | n + 1, σ, y1, y2, y3 => if (2 : Int32) < y3 then (some (y2, σ)) else (oin y1 4 (ob1 (f_X2_holdIn (sR σ (17 + 2) (upd (gR σ (17 + 2)) y1.toNatClampNeg y3)) 17) (fun r_52 => if r_52 = 0 then (f_X4_kinds_L28 n (sR σ (17 + 2) (upd (gR σ (17 + 2)) y1.toNatClampNeg y3)) y1 (y2 ||| (0 : Int32)) (y3 + (1 : Int32))) else (f_X4_kinds_L28 n (sR σ (17 + 2) (upd (gR σ (17 + 2)) y1.toNatClampNeg y3)) y1 (y2 ||| ((1 : Int32) <<< (y3 &&& 31))) (y3 + (1 : Int32))))))
def f_X4_kinds (σ : SX) (x1 : Int32) : Option (Int32 × SX) := ob1 (f_X0_hasSwearer σ 10 x1) (fun r_5 => if r_5 = 0 then (some ((-1 : Int32), σ)) else (ob2 (f_X0_become σ 17 10) (fun r_21 s_21 => f_X4_kinds_L28 100 s_21 x1 (0 : Int32) (0 : Int32))))
set_option maxRecDepth 100000 in
set_option maxHeartbeats 4000000 in
theorem k_X4_kinds (l : Launch) {D : va_G} {A : Nat → Prop} {cI cZ cS : ClassId} {ad : Nat → Nat} {ro : Option Nat} (hAd : ∀ ro σ, va_D A (WX cI cZ cS ad ro σ)) {σ : SX} {x1 : Int32} {σ' : SX} {r : Int32} (h : f_X4_kinds σ x1 = some (r, σ')) : Ct (QI D A r (WX cI cZ cS ad ro (σ'))) l yX4_kinds cX4_kinds 4 (some .int) 4 88 D (tyS cI cZ cS) A [.ref (ad 0), .int x1] (WX cI cZ cS ad ro σ) := by
  refine Ct.of (by decide +kernel) (Nat.le_of_ble_eq_true rfl) ?_
  intro p e s m below meth c ls S hK hr hlocks hP hS hl
  have hx := S.1
  have hb := S.2.1
  have hl : lv_has ls 4 [(0, .ref (ad 0)), (1, .int x1)] := hl
  have loop28 : ∀ (n : Nat) (σ : SX) (y1 : Int32) (y2 : Int32) (y3 : Int32) (H : Heap) (locs : List Loc) (ls : Array Slot), f_X4_kinds_L28 n σ y1 y2 y3 = some (r, σ') → va_P D vwCl (WX cI cZ cS ad ro σ) H → va_S A s.heap H locs → lv_has ls 4 [(0, .ref (ad 0)), (1, .int y1), (2, .int y2), (3, .int y3)] → W p l e (rmO 4 88) s m [.ref (ad 0), .int x1].toArray below meth c H locs 0 0 (MQ below (QI D A r (WX cI cZ cS ad ro (σ'))) [.ref (ad 0), .int x1].toArray s 0 0 A) (F0 m 28 ls []) := by
    intro n
    induction n with
    | zero => intro σ y1 y2 y3 H locs ls h; cases h
    | succ n ih =>
      intro σ y1 y2 y3 H locs ls h hP hS hl
      rw [f_X4_kinds_L28] at h
      refine lv_iload_n hx hb dX4_kinds_28 rfl (lv_at hl 3 rfl) ?_
      refine lv_iconst (v := (2 : Int32)) hx hb dX4_kinds_29 (by decide) ?_
      refine lv_icmp_gt (tgt := 73) hx hb dX4_kinds_30 (by decide) (fun c_30 => ?_) (fun c_30 => ?_)
      · replace h := ite_t c_30 h
        refine lv_iload_n hx hb dX4_kinds_73 rfl (lv_at hl 2 rfl) ?_
        obtain ⟨rfl, rfl⟩ := some_pair h
        exact k_iret S hr hlocks hP hS rfl dX4_kinds_74
      · replace h := ite_f c_30 h
        refine lv_aload_n hx hb dX4_kinds_33 rfl (lv_at hl 0 rfl) ?_
        refine gt_X4_25 S hK hP dX4_kinds_34 ?_
        refine gt_X4_88 S hK hP isDy_draft dX4_kinds_37 ?_
        refine lv_iload_n hx hb dX4_kinds_40 rfl (lv_at hl 1 rfl) ?_
        refine lv_iload_n hx hb dX4_kinds_41 rfl (lv_at hl 3 rfl) ?_
        obtain ⟨hi_42, h⟩ := oin_of h
        refine k_iast S hK hP (hAd _ _) hS (xDr2 isDy_draft) (xDr2_s isDy_draft) hi_42 dX4_kinds_42 (fun H locs hP hS => ?_)
        refine lv_iload_n hx hb dX4_kinds_43 rfl (lv_at hl 2 rfl) ?_
        refine lv_aload_n hx hb dX4_kinds_44 rfl (lv_at hl 0 rfl) ?_
        refine gt_X4_38 S hK hP dX4_kinds_45 ?_
        refine lv_aload_n hx hb dX4_kinds_48 rfl (lv_at hl 0 rfl) ?_
        refine gt_X4_25 S hK hP dX4_kinds_49 ?_
        obtain ⟨r_52, e_52, h⟩ := ob1_of h
        refine k_goI (k_runV (As := [.ref (ad 17)]) (rest := [.int y2]) S hK hP (k_X2_holdIn l hAd isDy_draft e_52) cy_X2_holdIn wd_534 rfl xG rfl hl.1 rfl (Nat.le_of_ble_eq_true rfl) dX4_kinds_52 ⟨Nat.le_of_ble_eq_true rfl, Nat.le_of_ble_eq_true rfl⟩ ⟨Nat.zero_le _, Nat.zero_le _⟩) hS (fun _ h => h) (fun H locs hP hS _ _ => ?_)
        refine lv_if_eq (tgt := 64) hx hb dX4_kinds_55 (by decide) (fun c_55 => ?_) (fun c_55 => ?_)
        · replace h := ite_t c_55 h
          refine lv_iconst (v := (0 : Int32)) hx hb dX4_kinds_64 (by decide) ?_
          refine lv_ior hx hb dX4_kinds_65 ?_
          refine lv_istore_n (lv' := [(2, .int (y2 ||| (0 : Int32))), (0, .ref (ad 0)), (1, .int y1), (3, .int y3)]) hx hb dX4_kinds_66 rfl hl (by decide) rfl (fun ls hl => ?_)
          refine lv_iinc (v := y3 + (1 : Int32)) (lv' := [(3, .int (y3 + (1 : Int32))), (2, .int (y2 ||| (0 : Int32))), (0, .ref (ad 0)), (1, .int y1)]) hx hb dX4_kinds_67 hl (k := 3) rfl rfl (by decide) rfl (fun ls hl => ?_)
          refine lv_goto (tgt := 28) hx hb dX4_kinds_70 (by decide) ?_
          exact ih (sR σ (17 + 2) (upd (gR σ (17 + 2)) y1.toNatClampNeg y3)) y1 (y2 ||| (0 : Int32)) (y3 + (1 : Int32)) _ _ _ h hP hS (lv_sub hl [2, 3, 1, 0] rfl)
        · replace h := ite_f c_55 h
          refine lv_iconst (v := (1 : Int32)) hx hb dX4_kinds_58 (by decide) ?_
          refine lv_iload_n hx hb dX4_kinds_59 rfl (lv_at hl 3 rfl) ?_
          refine lv_ishl hx hb dX4_kinds_60 ?_
          refine lv_goto (tgt := 65) hx hb dX4_kinds_61 (by decide) ?_
          refine lv_ior hx hb dX4_kinds_65 ?_
          refine lv_istore_n (lv' := [(2, .int (y2 ||| ((1 : Int32) <<< (y3 &&& 31)))), (0, .ref (ad 0)), (1, .int y1), (3, .int y3)]) hx hb dX4_kinds_66 rfl hl (by decide) rfl (fun ls hl => ?_)
          refine lv_iinc (v := y3 + (1 : Int32)) (lv' := [(3, .int (y3 + (1 : Int32))), (2, .int (y2 ||| ((1 : Int32) <<< (y3 &&& 31)))), (0, .ref (ad 0)), (1, .int y1)]) hx hb dX4_kinds_67 hl (k := 3) rfl rfl (by decide) rfl (fun ls hl => ?_)
          refine lv_goto (tgt := 28) hx hb dX4_kinds_70 (by decide) ?_
          exact ih (sR σ (17 + 2) (upd (gR σ (17 + 2)) y1.toNatClampNeg y3)) y1 (y2 ||| ((1 : Int32) <<< (y3 &&& 31))) (y3 + (1 : Int32)) _ _ _ h hP hS (lv_sub hl [2, 3, 1, 0] rfl)
  rw [f_X4_kinds] at h
  refine lv_aload_n hx hb dX4_kinds_0 rfl (lv_at hl 0 rfl) ?_
  refine gt_X4_21 S hK hP dX4_kinds_1 ?_
  refine lv_iload_n hx hb dX4_kinds_4 rfl (lv_at hl 1 rfl) ?_
  obtain ⟨r_5, e_5, h⟩ := ob1_of h
  refine k_goI (k_runV (As := [.int x1]) (rest := []) S hK hP (k_X0_hasSwearer l hAd isDy_now e_5) cy_X0_hasSwearer wd_315 rfl (xD isDy_now) rfl hl.1 rfl (Nat.le_of_ble_eq_true rfl) dX4_kinds_5 ⟨Nat.le_of_ble_eq_true rfl, Nat.le_of_ble_eq_true rfl⟩ ⟨Nat.zero_le _, Nat.zero_le _⟩) hS (fun _ h => h) (fun H locs hP hS _ _ => ?_)
  refine lv_if_ne (tgt := 13) hx hb dX4_kinds_8 (by decide) (fun c_8 => ?_) (fun c_8 => ?_)
  · replace h := ite_f c_8 h
    refine lv_aload_n hx hb dX4_kinds_13 rfl (lv_at hl 0 rfl) ?_
    refine gt_X4_25 S hK hP dX4_kinds_14 ?_
    refine lv_aload_n hx hb dX4_kinds_17 rfl (lv_at hl 0 rfl) ?_
    refine gt_X4_21 S hK hP dX4_kinds_18 ?_
    obtain ⟨r_21, s_21, e_21, h⟩ := ob2_of h
    refine k_goV (k_runV (As := [.ref (ad 10)]) (rest := []) S hK hP (k_X0_become l hAd isDy_draft isDy_now e_21) cy_X0_become wd_304 rfl (xD isDy_draft) rfl hl.1 rfl (Nat.le_of_ble_eq_true rfl) dX4_kinds_21 ⟨Nat.le_of_ble_eq_true rfl, Nat.le_of_ble_eq_true rfl⟩ ⟨Nat.zero_le _, Nat.zero_le _⟩) hS (fun _ h => h) (fun H locs hP hS _ _ => ?_)
    refine lv_iconst (v := (0 : Int32)) hx hb dX4_kinds_24 (by decide) ?_
    refine lv_istore_n (lv' := [(2, .int (0 : Int32)), (0, .ref (ad 0)), (1, .int x1)]) hx hb dX4_kinds_25 rfl hl (by decide) rfl (fun ls hl => ?_)
    refine lv_iconst (v := (0 : Int32)) hx hb dX4_kinds_26 (by decide) ?_
    refine lv_istore_n (lv' := [(3, .int (0 : Int32)), (2, .int (0 : Int32)), (0, .ref (ad 0)), (1, .int x1)]) hx hb dX4_kinds_27 rfl hl (by decide) rfl (fun ls hl => ?_)
    exact loop28 100 s_21 x1 (0 : Int32) (0 : Int32) _ _ _ h hP hS (lv_sub hl [2, 3, 1, 0] rfl)
  · replace h := ite_t c_8 h
    refine lv_iconst (v := (-1 : Int32)) hx hb dX4_kinds_11 (by decide) ?_
    obtain ⟨rfl, rfl⟩ := some_pair h
    exact k_iret S hr hlocks hP hS rfl dX4_kinds_12
def f_X4_frosts_L28 : Nat → SX → Int32 → Int32 → Int32 → Option (Int32 × SX)
  | 0, _, _, _, _ => none
  | n + 1, σ, y1, y2, y3 => if (9 : Int32) < y3 then (some (y2, σ)) else (oin y1 6 (ob1 (f_X2_holdIn (sR σ (17 + 1) (upd (gR σ (17 + 1)) y1.toNatClampNeg y3)) 17) (fun r_53 => if r_53 = 0 then (f_X4_frosts_L28 n (sR σ (17 + 1) (upd (gR σ (17 + 1)) y1.toNatClampNeg y3)) y1 (y2 ||| (0 : Int32)) (y3 + (1 : Int32))) else (f_X4_frosts_L28 n (sR σ (17 + 1) (upd (gR σ (17 + 1)) y1.toNatClampNeg y3)) y1 (y2 ||| ((1 : Int32) <<< (y3 &&& 31))) (y3 + (1 : Int32))))))
def f_X4_frosts (σ : SX) (x1 : Int32) : Option (Int32 × SX) := ob1 (f_X0_hasHour σ 10 x1) (fun r_5 => if r_5 = 0 then (some ((-1 : Int32), σ)) else (ob2 (f_X0_become σ 17 10) (fun r_21 s_21 => f_X4_frosts_L28 100 s_21 x1 (0 : Int32) (0 : Int32))))
set_option maxRecDepth 100000 in
set_option maxHeartbeats 4000000 in
theorem k_X4_frosts (l : Launch) {D : va_G} {A : Nat → Prop} {cI cZ cS : ClassId} {ad : Nat → Nat} {ro : Option Nat} (hAd : ∀ ro σ, va_D A (WX cI cZ cS ad ro σ)) {σ : SX} {x1 : Int32} {σ' : SX} {r : Int32} (h : f_X4_frosts σ x1 = some (r, σ')) : Ct (QI D A r (WX cI cZ cS ad ro (σ'))) l yX4_frosts cX4_frosts 4 (some .int) 4 88 D (tyS cI cZ cS) A [.ref (ad 0), .int x1] (WX cI cZ cS ad ro σ) := by
  refine Ct.of (by decide +kernel) (Nat.le_of_ble_eq_true rfl) ?_
  intro p e s m below meth c ls S hK hr hlocks hP hS hl
  have hx := S.1
  have hb := S.2.1
  have hl : lv_has ls 4 [(0, .ref (ad 0)), (1, .int x1)] := hl
  have loop28 : ∀ (n : Nat) (σ : SX) (y1 : Int32) (y2 : Int32) (y3 : Int32) (H : Heap) (locs : List Loc) (ls : Array Slot), f_X4_frosts_L28 n σ y1 y2 y3 = some (r, σ') → va_P D vwCl (WX cI cZ cS ad ro σ) H → va_S A s.heap H locs → lv_has ls 4 [(0, .ref (ad 0)), (1, .int y1), (2, .int y2), (3, .int y3)] → W p l e (rmO 4 88) s m [.ref (ad 0), .int x1].toArray below meth c H locs 0 0 (MQ below (QI D A r (WX cI cZ cS ad ro (σ'))) [.ref (ad 0), .int x1].toArray s 0 0 A) (F0 m 28 ls []) := by
    intro n
    induction n with
    | zero => intro σ y1 y2 y3 H locs ls h; cases h
    | succ n ih =>
      intro σ y1 y2 y3 H locs ls h hP hS hl
      rw [f_X4_frosts_L28] at h
      refine lv_iload_n hx hb dX4_frosts_28 rfl (lv_at hl 3 rfl) ?_
      refine lv_bipush (v := (9 : Int32)) hx hb dX4_frosts_29 (by decide) ?_
      refine lv_icmp_gt (tgt := 74) hx hb dX4_frosts_31 (by decide) (fun c_31 => ?_) (fun c_31 => ?_)
      · replace h := ite_t c_31 h
        refine lv_iload_n hx hb dX4_frosts_74 rfl (lv_at hl 2 rfl) ?_
        obtain ⟨rfl, rfl⟩ := some_pair h
        exact k_iret S hr hlocks hP hS rfl dX4_frosts_75
      · replace h := ite_f c_31 h
        refine lv_aload_n hx hb dX4_frosts_34 rfl (lv_at hl 0 rfl) ?_
        refine gt_X4_25 S hK hP dX4_frosts_35 ?_
        refine gt_X4_130 S hK hP isDy_draft dX4_frosts_38 ?_
        refine lv_iload_n hx hb dX4_frosts_41 rfl (lv_at hl 1 rfl) ?_
        refine lv_iload_n hx hb dX4_frosts_42 rfl (lv_at hl 3 rfl) ?_
        obtain ⟨hi_43, h⟩ := oin_of h
        refine k_iast S hK hP (hAd _ _) hS (xDr1 isDy_draft) (xDr1_s isDy_draft) hi_43 dX4_frosts_43 (fun H locs hP hS => ?_)
        refine lv_iload_n hx hb dX4_frosts_44 rfl (lv_at hl 2 rfl) ?_
        refine lv_aload_n hx hb dX4_frosts_45 rfl (lv_at hl 0 rfl) ?_
        refine gt_X4_38 S hK hP dX4_frosts_46 ?_
        refine lv_aload_n hx hb dX4_frosts_49 rfl (lv_at hl 0 rfl) ?_
        refine gt_X4_25 S hK hP dX4_frosts_50 ?_
        obtain ⟨r_53, e_53, h⟩ := ob1_of h
        refine k_goI (k_runV (As := [.ref (ad 17)]) (rest := [.int y2]) S hK hP (k_X2_holdIn l hAd isDy_draft e_53) cy_X2_holdIn wd_534 rfl xG rfl hl.1 rfl (Nat.le_of_ble_eq_true rfl) dX4_frosts_53 ⟨Nat.le_of_ble_eq_true rfl, Nat.le_of_ble_eq_true rfl⟩ ⟨Nat.zero_le _, Nat.zero_le _⟩) hS (fun _ h => h) (fun H locs hP hS _ _ => ?_)
        refine lv_if_eq (tgt := 65) hx hb dX4_frosts_56 (by decide) (fun c_56 => ?_) (fun c_56 => ?_)
        · replace h := ite_t c_56 h
          refine lv_iconst (v := (0 : Int32)) hx hb dX4_frosts_65 (by decide) ?_
          refine lv_ior hx hb dX4_frosts_66 ?_
          refine lv_istore_n (lv' := [(2, .int (y2 ||| (0 : Int32))), (0, .ref (ad 0)), (1, .int y1), (3, .int y3)]) hx hb dX4_frosts_67 rfl hl (by decide) rfl (fun ls hl => ?_)
          refine lv_iinc (v := y3 + (1 : Int32)) (lv' := [(3, .int (y3 + (1 : Int32))), (2, .int (y2 ||| (0 : Int32))), (0, .ref (ad 0)), (1, .int y1)]) hx hb dX4_frosts_68 hl (k := 3) rfl rfl (by decide) rfl (fun ls hl => ?_)
          refine lv_goto (tgt := 28) hx hb dX4_frosts_71 (by decide) ?_
          exact ih (sR σ (17 + 1) (upd (gR σ (17 + 1)) y1.toNatClampNeg y3)) y1 (y2 ||| (0 : Int32)) (y3 + (1 : Int32)) _ _ _ h hP hS (lv_sub hl [2, 3, 1, 0] rfl)
        · replace h := ite_f c_56 h
          refine lv_iconst (v := (1 : Int32)) hx hb dX4_frosts_59 (by decide) ?_
          refine lv_iload_n hx hb dX4_frosts_60 rfl (lv_at hl 3 rfl) ?_
          refine lv_ishl hx hb dX4_frosts_61 ?_
          refine lv_goto (tgt := 66) hx hb dX4_frosts_62 (by decide) ?_
          refine lv_ior hx hb dX4_frosts_66 ?_
          refine lv_istore_n (lv' := [(2, .int (y2 ||| ((1 : Int32) <<< (y3 &&& 31)))), (0, .ref (ad 0)), (1, .int y1), (3, .int y3)]) hx hb dX4_frosts_67 rfl hl (by decide) rfl (fun ls hl => ?_)
          refine lv_iinc (v := y3 + (1 : Int32)) (lv' := [(3, .int (y3 + (1 : Int32))), (2, .int (y2 ||| ((1 : Int32) <<< (y3 &&& 31)))), (0, .ref (ad 0)), (1, .int y1)]) hx hb dX4_frosts_68 hl (k := 3) rfl rfl (by decide) rfl (fun ls hl => ?_)
          refine lv_goto (tgt := 28) hx hb dX4_frosts_71 (by decide) ?_
          exact ih (sR σ (17 + 1) (upd (gR σ (17 + 1)) y1.toNatClampNeg y3)) y1 (y2 ||| ((1 : Int32) <<< (y3 &&& 31))) (y3 + (1 : Int32)) _ _ _ h hP hS (lv_sub hl [2, 3, 1, 0] rfl)
  rw [f_X4_frosts] at h
  refine lv_aload_n hx hb dX4_frosts_0 rfl (lv_at hl 0 rfl) ?_
  refine gt_X4_21 S hK hP dX4_frosts_1 ?_
  refine lv_iload_n hx hb dX4_frosts_4 rfl (lv_at hl 1 rfl) ?_
  obtain ⟨r_5, e_5, h⟩ := ob1_of h
  refine k_goI (k_runV (As := [.int x1]) (rest := []) S hK hP (k_X0_hasHour l hAd isDy_now e_5) cy_X0_hasHour wd_362 rfl (xD isDy_now) rfl hl.1 rfl (Nat.le_of_ble_eq_true rfl) dX4_frosts_5 ⟨Nat.le_of_ble_eq_true rfl, Nat.le_of_ble_eq_true rfl⟩ ⟨Nat.zero_le _, Nat.zero_le _⟩) hS (fun _ h => h) (fun H locs hP hS _ _ => ?_)
  refine lv_if_ne (tgt := 13) hx hb dX4_frosts_8 (by decide) (fun c_8 => ?_) (fun c_8 => ?_)
  · replace h := ite_f c_8 h
    refine lv_aload_n hx hb dX4_frosts_13 rfl (lv_at hl 0 rfl) ?_
    refine gt_X4_25 S hK hP dX4_frosts_14 ?_
    refine lv_aload_n hx hb dX4_frosts_17 rfl (lv_at hl 0 rfl) ?_
    refine gt_X4_21 S hK hP dX4_frosts_18 ?_
    obtain ⟨r_21, s_21, e_21, h⟩ := ob2_of h
    refine k_goV (k_runV (As := [.ref (ad 10)]) (rest := []) S hK hP (k_X0_become l hAd isDy_draft isDy_now e_21) cy_X0_become wd_304 rfl (xD isDy_draft) rfl hl.1 rfl (Nat.le_of_ble_eq_true rfl) dX4_frosts_21 ⟨Nat.le_of_ble_eq_true rfl, Nat.le_of_ble_eq_true rfl⟩ ⟨Nat.zero_le _, Nat.zero_le _⟩) hS (fun _ h => h) (fun H locs hP hS _ _ => ?_)
    refine lv_iconst (v := (0 : Int32)) hx hb dX4_frosts_24 (by decide) ?_
    refine lv_istore_n (lv' := [(2, .int (0 : Int32)), (0, .ref (ad 0)), (1, .int x1)]) hx hb dX4_frosts_25 rfl hl (by decide) rfl (fun ls hl => ?_)
    refine lv_iconst (v := (0 : Int32)) hx hb dX4_frosts_26 (by decide) ?_
    refine lv_istore_n (lv' := [(3, .int (0 : Int32)), (2, .int (0 : Int32)), (0, .ref (ad 0)), (1, .int x1)]) hx hb dX4_frosts_27 rfl hl (by decide) rfl (fun ls hl => ?_)
    exact loop28 100 s_21 x1 (0 : Int32) (0 : Int32) _ _ _ h hP hS (lv_sub hl [2, 3, 1, 0] rfl)
  · replace h := ite_t c_8 h
    refine lv_iconst (v := (-1 : Int32)) hx hb dX4_frosts_11 (by decide) ?_
    obtain ⟨rfl, rfl⟩ := some_pair h
    exact k_iret S hr hlocks hP hS rfl dX4_frosts_12
def f_X4_odds_L88 (σ : SX) : Nat → Int32 → Int32 → Int32 → Int32 → Int64 → Int64 → Int32 → Option Int64
  | 0, _, _, _, _, _, _, _ => none
  | n + 1, y1, y2, y3, y4, y5, y7, y9 => if y2 ≤ y9 then (some y7) else (f_X4_odds_L88 σ n y1 y2 y3 y4 y5 (y7 * y5) (y9 + (1 : Int32)))
def f_X4_odds (σ : SX) (x1 : Int32) (x2 : Int32) (x3 : Int32) : Option Int64 := ob1 (f_X0_hasSwearer σ 10 x1) (fun r_5 => if r_5 = 0 then (some (-9223372036854775808 : Int64)) else (if x2 < 0 then (some (-9223372036854775808 : Int64)) else (if (8 : Int32) < x2 then (some (-9223372036854775808 : Int64)) else (if x3 < 0 then (some (-9223372036854775808 : Int64)) else (if x3 ≤ (1 : Int32) then (ob1 (f_X0_coldHours σ 10 x1) (fun r_39 => ob1 (f_J6_bitCount_0f7a4 r_39) (fun r_42 => if x3 = 0 then (ob1 (f_X4_lessened r_42 (gF σ 10 0)) (fun r_60 => f_X4_odds_L88 σ 100 x1 x2 x3 r_42 r_60.toInt64 (1 : Int64) (0 : Int32))) else (ob1 (f_X4_lessened (gF σ 10 0) r_42) (fun r_76 => f_X4_odds_L88 σ 100 x1 x2 x3 r_42 r_76.toInt64 (1 : Int64) (0 : Int32)))))) else (some (-9223372036854775808 : Int64)))))))
set_option maxRecDepth 100000 in
set_option maxHeartbeats 4000000 in
theorem k_X4_odds (l : Launch) {D : va_G} {A : Nat → Prop} {cI cZ cS : ClassId} {ad : Nat → Nat} {ro : Option Nat} (hAd : ∀ ro σ, va_D A (WX cI cZ cS ad ro σ)) {σ : SX} {x1 : Int32} {x2 : Int32} {x3 : Int32} {r : Int64} (h : f_X4_odds σ x1 x2 x3 = some r) : Ct (QL D A r (WX cI cZ cS ad ro σ)) l yX4_odds cX4_odds 10 (some .long) 4 89 D (tyS cI cZ cS) A [.ref (ad 0), .int x1, .int x2, .int x3] (WX cI cZ cS ad ro σ) := by
  refine Ct.of (by decide +kernel) (Nat.le_of_ble_eq_true rfl) ?_
  intro p e s m below meth c ls S hK hr hlocks hP hS hl
  have hx := S.1
  have hb := S.2.1
  have hl : lv_has ls 10 [(0, .ref (ad 0)), (1, .int x1), (2, .int x2), (3, .int x3)] := hl
  have loop88 : ∀ (n : Nat) (y1 : Int32) (y2 : Int32) (y3 : Int32) (y4 : Int32) (y5 : Int64) (y7 : Int64) (y9 : Int32) (H : Heap) (locs : List Loc) (ls : Array Slot), f_X4_odds_L88 σ n y1 y2 y3 y4 y5 y7 y9 = some r → va_P D vwCl (WX cI cZ cS ad ro σ) H → va_S A s.heap H locs → lv_has ls 10 [(0, .ref (ad 0)), (1, .int y1), (2, .int y2), (3, .int y3), (4, .int y4), (5, .long y5), (7, .long y7), (9, .int y9)] → W p l e (rmO 4 89) s m [.ref (ad 0), .int x1, .int x2, .int x3].toArray below meth c H locs 0 0 (MQ below (QL D A r (WX cI cZ cS ad ro σ)) [.ref (ad 0), .int x1, .int x2, .int x3].toArray s 0 0 A) (F0 m 88 ls []) := by
    intro n
    induction n with
    | zero => intro y1 y2 y3 y4 y5 y7 y9 H locs ls h; cases h
    | succ n ih =>
      intro y1 y2 y3 y4 y5 y7 y9 H locs ls h hP hS hl
      rw [f_X4_odds_L88] at h
      refine lv_iload hx hb dX4_odds_88 (lv_at hl 7 rfl) ?_
      refine lv_iload_n hx hb dX4_odds_90 rfl (lv_at hl 2 rfl) ?_
      refine lv_icmp_ge (tgt := 107) hx hb dX4_odds_91 (by decide) (fun c_91 => ?_) (fun c_91 => ?_)
      · replace h := ite_t c_91 h
        refine lv_lload hx hb dX4_odds_107 (lv_at hl 6 rfl) ?_
        exact k_lret S hr hlocks hP hS (Option.some.inj h) dX4_odds_109
      · replace h := ite_f c_91 h
        refine lv_lload hx hb dX4_odds_94 (lv_at hl 6 rfl) ?_
        refine lv_lload hx hb dX4_odds_96 (lv_at hl 5 rfl) ?_
        refine lv_lmul hx hb dX4_odds_98 ?_
        refine lv_lstore (lv' := [(7, .long (y7 * y5)), (0, .ref (ad 0)), (1, .int y1), (2, .int y2), (3, .int y3), (4, .int y4), (5, .long y5), (9, .int y9)]) hx hb dX4_odds_99 hl (by decide) rfl (fun ls hl => ?_)
        refine lv_iinc (v := y9 + (1 : Int32)) (lv' := [(9, .int (y9 + (1 : Int32))), (7, .long (y7 * y5)), (0, .ref (ad 0)), (1, .int y1), (2, .int y2), (3, .int y3), (4, .int y4), (5, .long y5)]) hx hb dX4_odds_101 hl (k := 7) rfl rfl (by decide) rfl (fun ls hl => ?_)
        refine lv_goto (tgt := 88) hx hb dX4_odds_104 (by decide) ?_
        exact ih y1 y2 y3 y4 y5 (y7 * y5) (y9 + (1 : Int32)) _ _ _ h hP hS (lv_sub hl [2, 3, 4, 5, 6, 7, 1, 0] rfl)
  rw [f_X4_odds] at h
  refine lv_aload_n hx hb dX4_odds_0 rfl (lv_at hl 0 rfl) ?_
  refine gt_X4_21 S hK hP dX4_odds_1 ?_
  refine lv_iload_n hx hb dX4_odds_4 rfl (lv_at hl 1 rfl) ?_
  obtain ⟨r_5, e_5, h⟩ := ob1_of h
  refine k_goI (k_runV (As := [.int x1]) (rest := []) S hK hP (k_X0_hasSwearer l hAd isDy_now e_5) cy_X0_hasSwearer wd_315 rfl (xD isDy_now) rfl hl.1 rfl (Nat.le_of_ble_eq_true rfl) dX4_odds_5 ⟨Nat.le_of_ble_eq_true rfl, Nat.le_of_ble_eq_true rfl⟩ ⟨Nat.zero_le _, Nat.zero_le _⟩) hS (fun _ h => h) (fun H locs hP hS _ _ => ?_)
  refine lv_if_eq (tgt := 30) hx hb dX4_odds_8 (by decide) (fun c_8 => ?_) (fun c_8 => ?_)
  · replace h := ite_t c_8 h
    refine lv_ldc2 hx hb S.2.2.2.1 (S.2.2.2.2 _ wd_551) dX4_odds_30 ?_
    exact k_lret S hr hlocks hP hS (Option.some.inj h) dX4_odds_33
  · replace h := ite_f c_8 h
    refine lv_iload_n hx hb dX4_odds_11 rfl (lv_at hl 2 rfl) ?_
    refine lv_if_lt (tgt := 30) hx hb dX4_odds_12 (by decide) (fun c_12 => ?_) (fun c_12 => ?_)
    · replace h := ite_t c_12 h
      refine lv_ldc2 hx hb S.2.2.2.1 (S.2.2.2.2 _ wd_551) dX4_odds_30 ?_
      exact k_lret S hr hlocks hP hS (Option.some.inj h) dX4_odds_33
    · replace h := ite_f c_12 h
      refine lv_iload_n hx hb dX4_odds_15 rfl (lv_at hl 2 rfl) ?_
      refine lv_bipush (v := (8 : Int32)) hx hb dX4_odds_16 (by decide) ?_
      refine lv_icmp_gt (tgt := 30) hx hb dX4_odds_18 (by decide) (fun c_18 => ?_) (fun c_18 => ?_)
      · replace h := ite_t c_18 h
        refine lv_ldc2 hx hb S.2.2.2.1 (S.2.2.2.2 _ wd_551) dX4_odds_30 ?_
        exact k_lret S hr hlocks hP hS (Option.some.inj h) dX4_odds_33
      · replace h := ite_f c_18 h
        refine lv_iload_n hx hb dX4_odds_21 rfl (lv_at hl 3 rfl) ?_
        refine lv_if_lt (tgt := 30) hx hb dX4_odds_22 (by decide) (fun c_22 => ?_) (fun c_22 => ?_)
        · replace h := ite_t c_22 h
          refine lv_ldc2 hx hb S.2.2.2.1 (S.2.2.2.2 _ wd_551) dX4_odds_30 ?_
          exact k_lret S hr hlocks hP hS (Option.some.inj h) dX4_odds_33
        · replace h := ite_f c_22 h
          refine lv_iload_n hx hb dX4_odds_25 rfl (lv_at hl 3 rfl) ?_
          refine lv_iconst (v := (1 : Int32)) hx hb dX4_odds_26 (by decide) ?_
          refine lv_icmp_le (tgt := 34) hx hb dX4_odds_27 (by decide) (fun c_27 => ?_) (fun c_27 => ?_)
          · replace h := ite_t c_27 h
            refine lv_aload_n hx hb dX4_odds_34 rfl (lv_at hl 0 rfl) ?_
            refine gt_X4_21 S hK hP dX4_odds_35 ?_
            refine lv_iload_n hx hb dX4_odds_38 rfl (lv_at hl 1 rfl) ?_
            obtain ⟨r_39, e_39, h⟩ := ob1_of h
            refine k_goI (k_runV (As := [.int x1]) (rest := []) S hK hP (k_X0_coldHours l hAd isDy_now e_39) cy_X0_coldHours wd_323 rfl (xD isDy_now) rfl hl.1 rfl (Nat.le_of_ble_eq_true rfl) dX4_odds_39 ⟨Nat.le_of_ble_eq_true rfl, Nat.le_of_ble_eq_true rfl⟩ ⟨Nat.zero_le _, Nat.zero_le _⟩) hS (fun _ h => h) (fun H locs hP hS _ _ => ?_)
            obtain ⟨r_42, e_42, h⟩ := ob1_of h
            refine k_goI (k_runS (As := [.int r_39]) (rest := []) S hK hP (k_J6_bitCount_0f7a4 l  e_42) cy_J6_bitCount_0f7a4 wd_408 rfl hl.1 rfl (Nat.le_of_ble_eq_true rfl) dX4_odds_42 ⟨Nat.le_of_ble_eq_true rfl, Nat.le_of_ble_eq_true rfl⟩ ⟨Nat.zero_le _, Nat.zero_le _⟩) hS (fun _ h => h) (fun H locs hP hS _ _ => ?_)
            refine lv_istore (lv' := [(4, .int r_42), (0, .ref (ad 0)), (1, .int x1), (2, .int x2), (3, .int x3)]) hx hb dX4_odds_45 hl (by decide) rfl (fun ls hl => ?_)
            refine lv_iload_n hx hb dX4_odds_47 rfl (lv_at hl 4 rfl) ?_
            refine lv_if_ne (tgt := 67) hx hb dX4_odds_48 (by decide) (fun c_48 => ?_) (fun c_48 => ?_)
            · replace h := ite_f c_48 h
              refine lv_aload_n hx hb dX4_odds_67 rfl (lv_at hl 1 rfl) ?_
              refine gt_X4_21 S hK hP dX4_odds_68 ?_
              refine gt_X4_204 S hK hP isDy_now dX4_odds_71 ?_
              refine lv_iload hx hb dX4_odds_74 (lv_at hl 0 rfl) ?_
              obtain ⟨r_76, e_76, h⟩ := ob1_of h
              refine k_goI (k_runS (As := [.int (gF σ 10 0), .int r_42]) (rest := []) S hK hP (k_X4_lessened l  e_76) cy_X4_lessened wd_552 rfl hl.1 rfl (Nat.le_of_ble_eq_true rfl) dX4_odds_76 ⟨Nat.le_of_ble_eq_true rfl, Nat.le_of_ble_eq_true rfl⟩ ⟨Nat.zero_le _, Nat.zero_le _⟩) hS (fun _ h => h) (fun H locs hP hS _ _ => ?_)
              refine lv_i2l (v := r_76.toInt64) hx hb dX4_odds_79 rfl ?_
              refine lv_lstore (lv' := [(5, .long r_76.toInt64), (4, .int r_42), (0, .ref (ad 0)), (1, .int x1), (2, .int x2), (3, .int x3)]) hx hb dX4_odds_80 hl (by decide) rfl (fun ls hl => ?_)
              refine lv_lconst (v := (1 : Int64)) hx hb dX4_odds_82 (by decide) ?_
              refine lv_lstore (lv' := [(7, .long (1 : Int64)), (5, .long r_76.toInt64), (4, .int r_42), (0, .ref (ad 0)), (1, .int x1), (2, .int x2), (3, .int x3)]) hx hb dX4_odds_83 hl (by decide) rfl (fun ls hl => ?_)
              refine lv_iconst (v := (0 : Int32)) hx hb dX4_odds_85 (by decide) ?_
              refine lv_istore (lv' := [(9, .int (0 : Int32)), (7, .long (1 : Int64)), (5, .long r_76.toInt64), (4, .int r_42), (0, .ref (ad 0)), (1, .int x1), (2, .int x2), (3, .int x3)]) hx hb dX4_odds_86 hl (by decide) rfl (fun ls hl => ?_)
              exact loop88 100 x1 x2 x3 r_42 r_76.toInt64 (1 : Int64) (0 : Int32) _ _ _ h hP hS (lv_sub hl [4, 5, 6, 7, 3, 2, 1, 0] rfl)
            · replace h := ite_t c_48 h
              refine lv_iload hx hb dX4_odds_51 (lv_at hl 0 rfl) ?_
              refine lv_aload_n hx hb dX4_odds_53 rfl (lv_at hl 1 rfl) ?_
              refine gt_X4_21 S hK hP dX4_odds_54 ?_
              refine gt_X4_204 S hK hP isDy_now dX4_odds_57 ?_
              obtain ⟨r_60, e_60, h⟩ := ob1_of h
              refine k_goI (k_runS (As := [.int r_42, .int (gF σ 10 0)]) (rest := []) S hK hP (k_X4_lessened l  e_60) cy_X4_lessened wd_552 rfl hl.1 rfl (Nat.le_of_ble_eq_true rfl) dX4_odds_60 ⟨Nat.le_of_ble_eq_true rfl, Nat.le_of_ble_eq_true rfl⟩ ⟨Nat.zero_le _, Nat.zero_le _⟩) hS (fun _ h => h) (fun H locs hP hS _ _ => ?_)
              refine lv_i2l (v := r_60.toInt64) hx hb dX4_odds_63 rfl ?_
              refine lv_goto (tgt := 80) hx hb dX4_odds_64 (by decide) ?_
              refine lv_lstore (lv' := [(5, .long r_60.toInt64), (4, .int r_42), (0, .ref (ad 0)), (1, .int x1), (2, .int x2), (3, .int x3)]) hx hb dX4_odds_80 hl (by decide) rfl (fun ls hl => ?_)
              refine lv_lconst (v := (1 : Int64)) hx hb dX4_odds_82 (by decide) ?_
              refine lv_lstore (lv' := [(7, .long (1 : Int64)), (5, .long r_60.toInt64), (4, .int r_42), (0, .ref (ad 0)), (1, .int x1), (2, .int x2), (3, .int x3)]) hx hb dX4_odds_83 hl (by decide) rfl (fun ls hl => ?_)
              refine lv_iconst (v := (0 : Int32)) hx hb dX4_odds_85 (by decide) ?_
              refine lv_istore (lv' := [(9, .int (0 : Int32)), (7, .long (1 : Int64)), (5, .long r_60.toInt64), (4, .int r_42), (0, .ref (ad 0)), (1, .int x1), (2, .int x2), (3, .int x3)]) hx hb dX4_odds_86 hl (by decide) rfl (fun ls hl => ?_)
              exact loop88 100 x1 x2 x3 r_42 r_60.toInt64 (1 : Int64) (0 : Int32) _ _ _ h hP hS (lv_sub hl [4, 5, 6, 7, 3, 2, 1, 0] rfl)
          · replace h := ite_f c_27 h
            refine lv_ldc2 hx hb S.2.2.2.1 (S.2.2.2.2 _ wd_551) dX4_odds_30 ?_
            exact k_lret S hr hlocks hP hS (Option.some.inj h) dX4_odds_33
