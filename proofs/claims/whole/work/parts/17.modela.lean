def f_X5_fails (σ : SX) (x1 : Int32) : Option (Int32 × SX) := some ((-10 : Int32) - x1, sF σ 0 0 x1)
set_option maxRecDepth 100000 in
set_option maxHeartbeats 4000000 in
theorem k_X5_fails (l : Launch) {D : va_G} {A : Nat → Prop} {cI cZ cS : ClassId} {am : Nat → Nat} (hAd : ∀ σ, va_D A (WM cI am σ)) {σ : SX} {x1 : Int32} {σ' : SX} {r : Int32} (h : f_X5_fails σ x1 = some (r, σ')) : Ct (QI D A r (WM cI am (σ'))) l yX5_fails cX5_fails 2 (some .int) 0 0 D (tyS cI cZ cS) A [.ref (am 0), .int x1] (WM cI am σ) := by
  refine Ct.of (by decide +kernel) (Nat.le_of_ble_eq_true rfl) ?_
  intro p e s m below meth c ls S hK hr hlocks hP hS hl
  have hx := S.1
  have hb := S.2.1
  have hl : lv_has ls 2 [(0, .ref (am 0)), (1, .int x1)] := hl
  rw [f_X5_fails] at h
  refine lv_aload_n hx hb dX5_fails_0 rfl (lv_at hl 0 rfl) ?_
  refine lv_iload_n hx hb dX5_fails_1 rfl (lv_at hl 1 rfl) ?_
  refine pt_X5_62 S hK hP (hAd _) hS dX5_fails_2 (fun H locs hP hS => ?_)
  refine lv_bipush (v := (-10 : Int32)) hx hb dX5_fails_5 (by decide) ?_
  refine lv_iload_n hx hb dX5_fails_7 rfl (lv_at hl 1 rfl) ?_
  refine lv_isub hx hb dX5_fails_8 ?_
  obtain ⟨rfl, rfl⟩ := some_pair h
  exact k_iret S hr hlocks hP hS rfl dX5_fails_9
def f_X5_lost (σ : SX) (x1 : Int32) : Option (Int64 × SX) := some ((-9223372036854775808 : Int64), sF σ 0 0 x1)
set_option maxRecDepth 100000 in
set_option maxHeartbeats 4000000 in
theorem k_X5_lost (l : Launch) {D : va_G} {A : Nat → Prop} {cI cZ cS : ClassId} {am : Nat → Nat} (hAd : ∀ σ, va_D A (WM cI am σ)) {σ : SX} {x1 : Int32} {σ' : SX} {r : Int64} (h : f_X5_lost σ x1 = some (r, σ')) : Ct (QL D A r (WM cI am (σ'))) l yX5_lost cX5_lost 2 (some .long) 0 0 D (tyS cI cZ cS) A [.ref (am 0), .int x1] (WM cI am σ) := by
  refine Ct.of (by decide +kernel) (Nat.le_of_ble_eq_true rfl) ?_
  intro p e s m below meth c ls S hK hr hlocks hP hS hl
  have hx := S.1
  have hb := S.2.1
  have hl : lv_has ls 2 [(0, .ref (am 0)), (1, .int x1)] := hl
  rw [f_X5_lost] at h
  refine lv_aload_n hx hb dX5_lost_0 rfl (lv_at hl 0 rfl) ?_
  refine lv_iload_n hx hb dX5_lost_1 rfl (lv_at hl 1 rfl) ?_
  refine pt_X5_62 S hK hP (hAd _) hS dX5_lost_2 (fun H locs hP hS => ?_)
  refine lv_ldc2 hx hb S.2.2.2.1 (S.2.2.2.2 _ wd_965) dX5_lost_5 ?_
  obtain ⟨rfl, rfl⟩ := some_pair h
  exact k_lret S hr hlocks hP hS rfl dX5_lost_8
def f_X5_against (σ : SX) (x1 : Int32) (x2 : Int32) (x3 : Int32) (x4 : Int32) : Option Int32 := oin x1 4 (if (gR σ 1 x1.toNatClampNeg) = (-9 : Int32) then (oin x1 4 (if (gR σ 1 x1.toNatClampNeg) = (-9 : Int32) then (some (1 : Int32)) else (if 0 ≤ x4 then (if x3 < 0 then (some (3 : Int32)) else (oin x1 4 (if (gR σ 2 x1.toNatClampNeg) < x3 then (some (3 : Int32)) else (oin x1 4 (if x4 ≤ ((gR σ 2 x1.toNatClampNeg) - x3) then (some (0 : Int32)) else (some (3 : Int32))))))) else (some (4 : Int32))))) else (oin x1 4 (if (gR σ 1 x1.toNatClampNeg) = x2 then (oin x1 4 (if (gR σ 1 x1.toNatClampNeg) = (-9 : Int32) then (some (1 : Int32)) else (if 0 ≤ x4 then (if x3 < 0 then (some (3 : Int32)) else (oin x1 4 (if (gR σ 2 x1.toNatClampNeg) < x3 then (some (3 : Int32)) else (oin x1 4 (if x4 ≤ ((gR σ 2 x1.toNatClampNeg) - x3) then (some (0 : Int32)) else (some (3 : Int32))))))) else (some (4 : Int32))))) else (some (2 : Int32)))))
set_option maxRecDepth 100000 in
set_option maxHeartbeats 4000000 in
theorem k_X5_against (l : Launch) {D : va_G} {A : Nat → Prop} {cI cZ cS : ClassId} {am : Nat → Nat} (hAd : ∀ σ, va_D A (WM cI am σ)) {σ : SX} {x1 : Int32} {x2 : Int32} {x3 : Int32} {x4 : Int32} {r : Int32} (h : f_X5_against σ x1 x2 x3 x4 = some r) : Ct (QI D A r (WM cI am σ)) l yX5_against cX5_against 5 (some .int) 0 0 D (tyS cI cZ cS) A [.ref (am 0), .int x1, .int x2, .int x3, .int x4] (WM cI am σ) := by
  refine Ct.of (by decide +kernel) (Nat.le_of_ble_eq_true rfl) ?_
  intro p e s m below meth c ls S hK hr hlocks hP hS hl
  have hx := S.1
  have hb := S.2.1
  have hl : lv_has ls 5 [(0, .ref (am 0)), (1, .int x1), (2, .int x2), (3, .int x3), (4, .int x4)] := hl
  rw [f_X5_against] at h
  refine lv_aload_n hx hb dX5_against_0 rfl (lv_at hl 0 rfl) ?_
  refine gt_X5_9 S hK hP dX5_against_1 ?_
  refine lv_iload_n hx hb dX5_against_4 rfl (lv_at hl 1 rfl) ?_
  obtain ⟨hi_5, h⟩ := oin_of h
  refine k_iald S hK hP mr1 hi_5 dX5_against_5 ?_
  refine lv_bipush (v := (-9 : Int32)) hx hb dX5_against_6 (by decide) ?_
  refine lv_icmp_eq (tgt := 23) hx hb dX5_against_8 (by decide) (fun c_8 => ?_) (fun c_8 => ?_)
  · replace h := ite_t c_8 h
    refine lv_aload_n hx hb dX5_against_23 rfl (lv_at hl 0 rfl) ?_
    refine gt_X5_9 S hK hP dX5_against_24 ?_
    refine lv_iload_n hx hb dX5_against_27 rfl (lv_at hl 1 rfl) ?_
    obtain ⟨hi_28, h⟩ := oin_of h
    refine k_iald S hK hP mr1 hi_28 dX5_against_28 ?_
    refine lv_bipush (v := (-9 : Int32)) hx hb dX5_against_29 (by decide) ?_
    refine lv_icmp_ne (tgt := 36) hx hb dX5_against_31 (by decide) (fun c_31 => ?_) (fun c_31 => ?_)
    · replace h := ite_f c_31 h
      refine lv_iload hx hb dX5_against_36 (lv_at hl 4 rfl) ?_
      refine lv_if_ge (tgt := 43) hx hb dX5_against_38 (by decide) (fun c_38 => ?_) (fun c_38 => ?_)
      · replace h := ite_t c_38 h
        refine lv_iload_n hx hb dX5_against_43 rfl (lv_at hl 3 rfl) ?_
        refine lv_if_lt (tgt := 70) hx hb dX5_against_44 (by decide) (fun c_44 => ?_) (fun c_44 => ?_)
        · replace h := ite_t c_44 h
          refine lv_iconst (v := (3 : Int32)) hx hb dX5_against_70 (by decide) ?_
          refine lv_goto (tgt := 75) hx hb dX5_against_71 (by decide) ?_
          exact k_iret S hr hlocks hP hS (Option.some.inj h) dX5_against_75
        · replace h := ite_f c_44 h
          refine lv_iload_n hx hb dX5_against_47 rfl (lv_at hl 3 rfl) ?_
          refine lv_aload_n hx hb dX5_against_48 rfl (lv_at hl 0 rfl) ?_
          refine gt_X5_13 S hK hP dX5_against_49 ?_
          refine lv_iload_n hx hb dX5_against_52 rfl (lv_at hl 1 rfl) ?_
          obtain ⟨hi_53, h⟩ := oin_of h
          refine k_iald S hK hP mr2 hi_53 dX5_against_53 ?_
          refine lv_icmp_gt (tgt := 70) hx hb dX5_against_54 (by decide) (fun c_54 => ?_) (fun c_54 => ?_)
          · replace h := ite_t c_54 h
            refine lv_iconst (v := (3 : Int32)) hx hb dX5_against_70 (by decide) ?_
            refine lv_goto (tgt := 75) hx hb dX5_against_71 (by decide) ?_
            exact k_iret S hr hlocks hP hS (Option.some.inj h) dX5_against_75
          · replace h := ite_f c_54 h
            refine lv_iload hx hb dX5_against_57 (lv_at hl 4 rfl) ?_
            refine lv_aload_n hx hb dX5_against_59 rfl (lv_at hl 0 rfl) ?_
            refine gt_X5_13 S hK hP dX5_against_60 ?_
            refine lv_iload_n hx hb dX5_against_63 rfl (lv_at hl 1 rfl) ?_
            obtain ⟨hi_64, h⟩ := oin_of h
            refine k_iald S hK hP mr2 hi_64 dX5_against_64 ?_
            refine lv_iload_n hx hb dX5_against_65 rfl (lv_at hl 3 rfl) ?_
            refine lv_isub hx hb dX5_against_66 ?_
            refine lv_icmp_le (tgt := 74) hx hb dX5_against_67 (by decide) (fun c_67 => ?_) (fun c_67 => ?_)
            · replace h := ite_t c_67 h
              refine lv_iconst (v := (0 : Int32)) hx hb dX5_against_74 (by decide) ?_
              exact k_iret S hr hlocks hP hS (Option.some.inj h) dX5_against_75
            · replace h := ite_f c_67 h
              refine lv_iconst (v := (3 : Int32)) hx hb dX5_against_70 (by decide) ?_
              refine lv_goto (tgt := 75) hx hb dX5_against_71 (by decide) ?_
              exact k_iret S hr hlocks hP hS (Option.some.inj h) dX5_against_75
      · replace h := ite_f c_38 h
        refine lv_iconst (v := (4 : Int32)) hx hb dX5_against_41 (by decide) ?_
        exact k_iret S hr hlocks hP hS (Option.some.inj h) dX5_against_42
    · replace h := ite_t c_31 h
      refine lv_iconst (v := (1 : Int32)) hx hb dX5_against_34 (by decide) ?_
      exact k_iret S hr hlocks hP hS (Option.some.inj h) dX5_against_35
  · replace h := ite_f c_8 h
    refine lv_aload_n hx hb dX5_against_11 rfl (lv_at hl 0 rfl) ?_
    refine gt_X5_9 S hK hP dX5_against_12 ?_
    refine lv_iload_n hx hb dX5_against_15 rfl (lv_at hl 1 rfl) ?_
    obtain ⟨hi_16, h⟩ := oin_of h
    refine k_iald S hK hP mr1 hi_16 dX5_against_16 ?_
    refine lv_iload_n hx hb dX5_against_17 rfl (lv_at hl 2 rfl) ?_
    refine lv_icmp_eq (tgt := 23) hx hb dX5_against_18 (by decide) (fun c_18 => ?_) (fun c_18 => ?_)
    · replace h := ite_t c_18 h
      refine lv_aload_n hx hb dX5_against_23 rfl (lv_at hl 0 rfl) ?_
      refine gt_X5_9 S hK hP dX5_against_24 ?_
      refine lv_iload_n hx hb dX5_against_27 rfl (lv_at hl 1 rfl) ?_
      obtain ⟨hi_28, h⟩ := oin_of h
      refine k_iald S hK hP mr1 hi_28 dX5_against_28 ?_
      refine lv_bipush (v := (-9 : Int32)) hx hb dX5_against_29 (by decide) ?_
      refine lv_icmp_ne (tgt := 36) hx hb dX5_against_31 (by decide) (fun c_31 => ?_) (fun c_31 => ?_)
      · replace h := ite_f c_31 h
        refine lv_iload hx hb dX5_against_36 (lv_at hl 4 rfl) ?_
        refine lv_if_ge (tgt := 43) hx hb dX5_against_38 (by decide) (fun c_38 => ?_) (fun c_38 => ?_)
        · replace h := ite_t c_38 h
          refine lv_iload_n hx hb dX5_against_43 rfl (lv_at hl 3 rfl) ?_
          refine lv_if_lt (tgt := 70) hx hb dX5_against_44 (by decide) (fun c_44 => ?_) (fun c_44 => ?_)
          · replace h := ite_t c_44 h
            refine lv_iconst (v := (3 : Int32)) hx hb dX5_against_70 (by decide) ?_
            refine lv_goto (tgt := 75) hx hb dX5_against_71 (by decide) ?_
            exact k_iret S hr hlocks hP hS (Option.some.inj h) dX5_against_75
          · replace h := ite_f c_44 h
            refine lv_iload_n hx hb dX5_against_47 rfl (lv_at hl 3 rfl) ?_
            refine lv_aload_n hx hb dX5_against_48 rfl (lv_at hl 0 rfl) ?_
            refine gt_X5_13 S hK hP dX5_against_49 ?_
            refine lv_iload_n hx hb dX5_against_52 rfl (lv_at hl 1 rfl) ?_
            obtain ⟨hi_53, h⟩ := oin_of h
            refine k_iald S hK hP mr2 hi_53 dX5_against_53 ?_
            refine lv_icmp_gt (tgt := 70) hx hb dX5_against_54 (by decide) (fun c_54 => ?_) (fun c_54 => ?_)
            · replace h := ite_t c_54 h
              refine lv_iconst (v := (3 : Int32)) hx hb dX5_against_70 (by decide) ?_
              refine lv_goto (tgt := 75) hx hb dX5_against_71 (by decide) ?_
              exact k_iret S hr hlocks hP hS (Option.some.inj h) dX5_against_75
            · replace h := ite_f c_54 h
              refine lv_iload hx hb dX5_against_57 (lv_at hl 4 rfl) ?_
              refine lv_aload_n hx hb dX5_against_59 rfl (lv_at hl 0 rfl) ?_
              refine gt_X5_13 S hK hP dX5_against_60 ?_
              refine lv_iload_n hx hb dX5_against_63 rfl (lv_at hl 1 rfl) ?_
              obtain ⟨hi_64, h⟩ := oin_of h
              refine k_iald S hK hP mr2 hi_64 dX5_against_64 ?_
              refine lv_iload_n hx hb dX5_against_65 rfl (lv_at hl 3 rfl) ?_
              refine lv_isub hx hb dX5_against_66 ?_
              refine lv_icmp_le (tgt := 74) hx hb dX5_against_67 (by decide) (fun c_67 => ?_) (fun c_67 => ?_)
              · replace h := ite_t c_67 h
                refine lv_iconst (v := (0 : Int32)) hx hb dX5_against_74 (by decide) ?_
                exact k_iret S hr hlocks hP hS (Option.some.inj h) dX5_against_75
              · replace h := ite_f c_67 h
                refine lv_iconst (v := (3 : Int32)) hx hb dX5_against_70 (by decide) ?_
                refine lv_goto (tgt := 75) hx hb dX5_against_71 (by decide) ?_
                exact k_iret S hr hlocks hP hS (Option.some.inj h) dX5_against_75
        · replace h := ite_f c_38 h
          refine lv_iconst (v := (4 : Int32)) hx hb dX5_against_41 (by decide) ?_
          exact k_iret S hr hlocks hP hS (Option.some.inj h) dX5_against_42
      · replace h := ite_t c_31 h
        refine lv_iconst (v := (1 : Int32)) hx hb dX5_against_34 (by decide) ?_
        exact k_iret S hr hlocks hP hS (Option.some.inj h) dX5_against_35
    · replace h := ite_f c_18 h
      refine lv_iconst (v := (2 : Int32)) hx hb dX5_against_21 (by decide) ?_
      exact k_iret S hr hlocks hP hS (Option.some.inj h) dX5_against_22
def f_X5_isHour (σ : SX) (x1 : Int32) : Option Int32 := if x1 < 0 then (some (0 : Int32)) else (if (gF σ 0 5) ≤ x1 then (some (0 : Int32)) else (some (1 : Int32)))
set_option maxRecDepth 100000 in
set_option maxHeartbeats 4000000 in
theorem k_X5_isHour (l : Launch) {D : va_G} {A : Nat → Prop} {cI cZ cS : ClassId} {am : Nat → Nat} (hAd : ∀ σ, va_D A (WM cI am σ)) {σ : SX} {x1 : Int32} {r : Int32} (h : f_X5_isHour σ x1 = some r) : Ct (QI D A r (WM cI am σ)) l yX5_isHour cX5_isHour 2 (some .boolean) 0 0 D (tyS cI cZ cS) A [.ref (am 0), .int x1] (WM cI am σ) := by
  refine Ct.of (by decide +kernel) (Nat.le_of_ble_eq_true rfl) ?_
  intro p e s m below meth c ls S hK hr hlocks hP hS hl
  have hx := S.1
  have hb := S.2.1
  have hl : lv_has ls 2 [(0, .ref (am 0)), (1, .int x1)] := hl
  rw [f_X5_isHour] at h
  refine lv_iload_n hx hb dX5_isHour_0 rfl (lv_at hl 1 rfl) ?_
  refine lv_if_lt (tgt := 16) hx hb dX5_isHour_1 (by decide) (fun c_1 => ?_) (fun c_1 => ?_)
  · replace h := ite_t c_1 h
    refine lv_iconst (v := (0 : Int32)) hx hb dX5_isHour_16 (by decide) ?_
    exact k_zret S hr hlocks hP hS (Option.some.inj h) (Or.inl rfl) dX5_isHour_17
  · replace h := ite_f c_1 h
    refine lv_iload_n hx hb dX5_isHour_4 rfl (lv_at hl 1 rfl) ?_
    refine lv_aload_n hx hb dX5_isHour_5 rfl (lv_at hl 0 rfl) ?_
    refine gt_X5_71 S hK hP dX5_isHour_6 ?_
    refine lv_icmp_ge (tgt := 16) hx hb dX5_isHour_9 (by decide) (fun c_9 => ?_) (fun c_9 => ?_)
    · replace h := ite_t c_9 h
      refine lv_iconst (v := (0 : Int32)) hx hb dX5_isHour_16 (by decide) ?_
      exact k_zret S hr hlocks hP hS (Option.some.inj h) (Or.inl rfl) dX5_isHour_17
    · replace h := ite_f c_9 h
      refine lv_iconst (v := (1 : Int32)) hx hb dX5_isHour_12 (by decide) ?_
      refine lv_goto (tgt := 17) hx hb dX5_isHour_13 (by decide) ?_
      exact k_zret S hr hlocks hP hS (Option.some.inj h) (Or.inr rfl) dX5_isHour_17
def f_X5_isSwearer (σ : SX) (x1 : Int32) : Option Int32 := if x1 < 0 then (some (0 : Int32)) else (if (gF σ 0 6) ≤ x1 then (some (0 : Int32)) else (some (1 : Int32)))
set_option maxRecDepth 100000 in
set_option maxHeartbeats 4000000 in
theorem k_X5_isSwearer (l : Launch) {D : va_G} {A : Nat → Prop} {cI cZ cS : ClassId} {am : Nat → Nat} (hAd : ∀ σ, va_D A (WM cI am σ)) {σ : SX} {x1 : Int32} {r : Int32} (h : f_X5_isSwearer σ x1 = some r) : Ct (QI D A r (WM cI am σ)) l yX5_isSwearer cX5_isSwearer 2 (some .boolean) 0 0 D (tyS cI cZ cS) A [.ref (am 0), .int x1] (WM cI am σ) := by
  refine Ct.of (by decide +kernel) (Nat.le_of_ble_eq_true rfl) ?_
  intro p e s m below meth c ls S hK hr hlocks hP hS hl
  have hx := S.1
  have hb := S.2.1
  have hl : lv_has ls 2 [(0, .ref (am 0)), (1, .int x1)] := hl
  rw [f_X5_isSwearer] at h
  refine lv_iload_n hx hb dX5_isSwearer_0 rfl (lv_at hl 1 rfl) ?_
  refine lv_if_lt (tgt := 16) hx hb dX5_isSwearer_1 (by decide) (fun c_1 => ?_) (fun c_1 => ?_)
  · replace h := ite_t c_1 h
    refine lv_iconst (v := (0 : Int32)) hx hb dX5_isSwearer_16 (by decide) ?_
    exact k_zret S hr hlocks hP hS (Option.some.inj h) (Or.inl rfl) dX5_isSwearer_17
  · replace h := ite_f c_1 h
    refine lv_iload_n hx hb dX5_isSwearer_4 rfl (lv_at hl 1 rfl) ?_
    refine lv_aload_n hx hb dX5_isSwearer_5 rfl (lv_at hl 0 rfl) ?_
    refine gt_X5_74 S hK hP dX5_isSwearer_6 ?_
    refine lv_icmp_ge (tgt := 16) hx hb dX5_isSwearer_9 (by decide) (fun c_9 => ?_) (fun c_9 => ?_)
    · replace h := ite_t c_9 h
      refine lv_iconst (v := (0 : Int32)) hx hb dX5_isSwearer_16 (by decide) ?_
      exact k_zret S hr hlocks hP hS (Option.some.inj h) (Or.inl rfl) dX5_isSwearer_17
    · replace h := ite_f c_9 h
      refine lv_iconst (v := (1 : Int32)) hx hb dX5_isSwearer_12 (by decide) ?_
      refine lv_goto (tgt := 17) hx hb dX5_isSwearer_13 (by decide) ?_
      exact k_zret S hr hlocks hP hS (Option.some.inj h) (Or.inr rfl) dX5_isSwearer_17
def f_X5_isOath (σ : SX) (x1 : Int32) : Option Int32 := if x1 < 0 then (some (0 : Int32)) else (if (gF σ 0 7) ≤ x1 then (some (0 : Int32)) else (some (1 : Int32)))
set_option maxRecDepth 100000 in
set_option maxHeartbeats 4000000 in
theorem k_X5_isOath (l : Launch) {D : va_G} {A : Nat → Prop} {cI cZ cS : ClassId} {am : Nat → Nat} (hAd : ∀ σ, va_D A (WM cI am σ)) {σ : SX} {x1 : Int32} {r : Int32} (h : f_X5_isOath σ x1 = some r) : Ct (QI D A r (WM cI am σ)) l yX5_isOath cX5_isOath 2 (some .boolean) 0 0 D (tyS cI cZ cS) A [.ref (am 0), .int x1] (WM cI am σ) := by
  refine Ct.of (by decide +kernel) (Nat.le_of_ble_eq_true rfl) ?_
  intro p e s m below meth c ls S hK hr hlocks hP hS hl
  have hx := S.1
  have hb := S.2.1
  have hl : lv_has ls 2 [(0, .ref (am 0)), (1, .int x1)] := hl
  rw [f_X5_isOath] at h
  refine lv_iload_n hx hb dX5_isOath_0 rfl (lv_at hl 1 rfl) ?_
  refine lv_if_lt (tgt := 16) hx hb dX5_isOath_1 (by decide) (fun c_1 => ?_) (fun c_1 => ?_)
  · replace h := ite_t c_1 h
    refine lv_iconst (v := (0 : Int32)) hx hb dX5_isOath_16 (by decide) ?_
    exact k_zret S hr hlocks hP hS (Option.some.inj h) (Or.inl rfl) dX5_isOath_17
  · replace h := ite_f c_1 h
    refine lv_iload_n hx hb dX5_isOath_4 rfl (lv_at hl 1 rfl) ?_
    refine lv_aload_n hx hb dX5_isOath_5 rfl (lv_at hl 0 rfl) ?_
    refine gt_X5_77 S hK hP dX5_isOath_6 ?_
    refine lv_icmp_ge (tgt := 16) hx hb dX5_isOath_9 (by decide) (fun c_9 => ?_) (fun c_9 => ?_)
    · replace h := ite_t c_9 h
      refine lv_iconst (v := (0 : Int32)) hx hb dX5_isOath_16 (by decide) ?_
      exact k_zret S hr hlocks hP hS (Option.some.inj h) (Or.inl rfl) dX5_isOath_17
    · replace h := ite_f c_9 h
      refine lv_iconst (v := (1 : Int32)) hx hb dX5_isOath_12 (by decide) ?_
      refine lv_goto (tgt := 17) hx hb dX5_isOath_13 (by decide) ?_
      exact k_zret S hr hlocks hP hS (Option.some.inj h) (Or.inr rfl) dX5_isOath_17
def f_X5_digit (σ : SX) (x1 : Int32) (x2 : Int32) : Option (Int32 × SX) := if x1 ≤ (gF σ 0 16) then (some ((-9 : Int32), σ)) else (oin (gF σ 0 16) 240 (ob1 (f_X5_within (gR σ 3 (gF σ 0 16).toNatClampNeg) (48 : Int32) ((48 : Int32) + x2)) (fun r_23 => if r_23 = 0 then (some ((-9 : Int32), σ)) else (oin ((gF (sF σ 0 16 ((gF σ 0 16) + (1 : Int32))) 0 16) - (1 : Int32)) 240 (some ((gR (sF σ 0 16 ((gF σ 0 16) + (1 : Int32))) 3 ((gF (sF σ 0 16 ((gF σ 0 16) + (1 : Int32))) 0 16) - (1 : Int32)).toNatClampNeg) - (48 : Int32), sF σ 0 16 ((gF σ 0 16) + (1 : Int32))))))))
set_option maxRecDepth 100000 in
set_option maxHeartbeats 4000000 in
theorem k_X5_digit (l : Launch) {D : va_G} {A : Nat → Prop} {cI cZ cS : ClassId} {am : Nat → Nat} (hAd : ∀ σ, va_D A (WM cI am σ)) {σ : SX} {x1 : Int32} {x2 : Int32} {σ' : SX} {r : Int32} (h : f_X5_digit σ x1 x2 = some (r, σ')) : Ct (QI D A r (WM cI am (σ'))) l yX5_digit cX5_digit 3 (some .int) 1 22 D (tyS cI cZ cS) A [.ref (am 0), .int x1, .int x2] (WM cI am σ) := by
  refine Ct.of (by decide +kernel) (Nat.le_of_ble_eq_true rfl) ?_
  intro p e s m below meth c ls S hK hr hlocks hP hS hl
  have hx := S.1
  have hb := S.2.1
  have hl : lv_has ls 3 [(0, .ref (am 0)), (1, .int x1), (2, .int x2)] := hl
  rw [f_X5_digit] at h
  refine lv_aload_n hx hb dX5_digit_0 rfl (lv_at hl 0 rfl) ?_
  refine gt_X5_80 S hK hP dX5_digit_1 ?_
  refine lv_iload_n hx hb dX5_digit_4 rfl (lv_at hl 1 rfl) ?_
  refine lv_icmp_ge (tgt := 29) hx hb dX5_digit_5 (by decide) (fun c_5 => ?_) (fun c_5 => ?_)
  · replace h := ite_t c_5 h
    refine lv_bipush (v := (-9 : Int32)) hx hb dX5_digit_29 (by decide) ?_
    obtain ⟨rfl, rfl⟩ := some_pair h
    exact k_iret S hr hlocks hP hS rfl dX5_digit_31
  · replace h := ite_f c_5 h
    refine lv_aload_n hx hb dX5_digit_8 rfl (lv_at hl 0 rfl) ?_
    refine gt_X5_16 S hK hP dX5_digit_9 ?_
    refine lv_aload_n hx hb dX5_digit_12 rfl (lv_at hl 0 rfl) ?_
    refine gt_X5_80 S hK hP dX5_digit_13 ?_
    obtain ⟨hi_16, h⟩ := oin_of h
    refine k_iald S hK hP mr3 hi_16 dX5_digit_16 ?_
    refine lv_bipush (v := (48 : Int32)) hx hb dX5_digit_17 (by decide) ?_
    refine lv_bipush (v := (48 : Int32)) hx hb dX5_digit_19 (by decide) ?_
    refine lv_iload_n hx hb dX5_digit_21 rfl (lv_at hl 2 rfl) ?_
    refine lv_iadd hx hb dX5_digit_22 ?_
    obtain ⟨r_23, e_23, h⟩ := ob1_of h
    refine k_goI (k_runS (As := [.int (gR σ 3 (gF σ 0 16).toNatClampNeg), .int (48 : Int32), .int ((48 : Int32) + x2)]) (rest := []) S hK hP (k_X5_within l  e_23) cy_X5_within wd_738 rfl hl.1 rfl (Nat.le_of_ble_eq_true rfl) dX5_digit_23 ⟨Nat.le_of_ble_eq_true rfl, Nat.le_of_ble_eq_true rfl⟩ ⟨Nat.zero_le _, Nat.zero_le _⟩) hS (fun _ h => h) (fun H locs hP hS _ _ => ?_)
    refine lv_if_ne (tgt := 32) hx hb dX5_digit_26 (by decide) (fun c_26 => ?_) (fun c_26 => ?_)
    · replace h := ite_f c_26 h
      refine lv_aload_n hx hb dX5_digit_32 rfl (lv_at hl 0 rfl) ?_
      refine lv_dup hx hb dX5_digit_33 rfl ?_
      refine gt_X5_80 S hK hP dX5_digit_34 ?_
      refine lv_iconst (v := (1 : Int32)) hx hb dX5_digit_37 (by decide) ?_
      refine lv_iadd hx hb dX5_digit_38 ?_
      refine pt_X5_80 S hK hP (hAd _) hS dX5_digit_39 (fun H locs hP hS => ?_)
      refine lv_aload_n hx hb dX5_digit_42 rfl (lv_at hl 0 rfl) ?_
      refine gt_X5_16 S hK hP dX5_digit_43 ?_
      refine lv_aload_n hx hb dX5_digit_46 rfl (lv_at hl 0 rfl) ?_
      refine gt_X5_80 S hK hP dX5_digit_47 ?_
      refine lv_iconst (v := (1 : Int32)) hx hb dX5_digit_50 (by decide) ?_
      refine lv_isub hx hb dX5_digit_51 ?_
      obtain ⟨hi_52, h⟩ := oin_of h
      refine k_iald S hK hP mr3 hi_52 dX5_digit_52 ?_
      refine lv_bipush (v := (48 : Int32)) hx hb dX5_digit_53 (by decide) ?_
      refine lv_isub hx hb dX5_digit_55 ?_
      obtain ⟨rfl, rfl⟩ := some_pair h
      exact k_iret S hr hlocks hP hS rfl dX5_digit_56
    · replace h := ite_t c_26 h
      refine lv_bipush (v := (-9 : Int32)) hx hb dX5_digit_29 (by decide) ?_
      obtain ⟨rfl, rfl⟩ := some_pair h
      exact k_iret S hr hlocks hP hS rfl dX5_digit_31
def f_X5_isSign (σ : SX) (x1 : Int32) (x2 : Int32) : Option (Int32 × SX) := if x1 ≤ (gF σ 0 16) then (some ((0 : Int32), σ)) else (oin (gF σ 0 16) 240 (if (gR σ 3 (gF σ 0 16).toNatClampNeg) = x2 then (some ((1 : Int32), sF σ 0 16 ((gF σ 0 16) + (1 : Int32)))) else (some ((0 : Int32), σ))))
set_option maxRecDepth 100000 in
set_option maxHeartbeats 4000000 in
theorem k_X5_isSign (l : Launch) {D : va_G} {A : Nat → Prop} {cI cZ cS : ClassId} {am : Nat → Nat} (hAd : ∀ σ, va_D A (WM cI am σ)) {σ : SX} {x1 : Int32} {x2 : Int32} {σ' : SX} {r : Int32} (h : f_X5_isSign σ x1 x2 = some (r, σ')) : Ct (QI D A r (WM cI am (σ'))) l yX5_isSign cX5_isSign 3 (some .boolean) 0 0 D (tyS cI cZ cS) A [.ref (am 0), .int x1, .int x2] (WM cI am σ) := by
  refine Ct.of (by decide +kernel) (Nat.le_of_ble_eq_true rfl) ?_
  intro p e s m below meth c ls S hK hr hlocks hP hS hl
  have hx := S.1
  have hb := S.2.1
  have hl : lv_has ls 3 [(0, .ref (am 0)), (1, .int x1), (2, .int x2)] := hl
  rw [f_X5_isSign] at h
  refine lv_aload_n hx hb dX5_isSign_0 rfl (lv_at hl 0 rfl) ?_
  refine gt_X5_80 S hK hP dX5_isSign_1 ?_
  refine lv_iload_n hx hb dX5_isSign_4 rfl (lv_at hl 1 rfl) ?_
  refine lv_icmp_ge (tgt := 21) hx hb dX5_isSign_5 (by decide) (fun c_5 => ?_) (fun c_5 => ?_)
  · replace h := ite_t c_5 h
    refine lv_iconst (v := (0 : Int32)) hx hb dX5_isSign_21 (by decide) ?_
    obtain ⟨rfl, rfl⟩ := some_pair h
    exact k_zret S hr hlocks hP hS rfl (Or.inl rfl) dX5_isSign_22
  · replace h := ite_f c_5 h
    refine lv_aload_n hx hb dX5_isSign_8 rfl (lv_at hl 0 rfl) ?_
    refine gt_X5_16 S hK hP dX5_isSign_9 ?_
    refine lv_aload_n hx hb dX5_isSign_12 rfl (lv_at hl 0 rfl) ?_
    refine gt_X5_80 S hK hP dX5_isSign_13 ?_
    obtain ⟨hi_16, h⟩ := oin_of h
    refine k_iald S hK hP mr3 hi_16 dX5_isSign_16 ?_
    refine lv_iload_n hx hb dX5_isSign_17 rfl (lv_at hl 2 rfl) ?_
    refine lv_icmp_eq (tgt := 23) hx hb dX5_isSign_18 (by decide) (fun c_18 => ?_) (fun c_18 => ?_)
    · replace h := ite_t c_18 h
      refine lv_aload_n hx hb dX5_isSign_23 rfl (lv_at hl 0 rfl) ?_
      refine lv_dup hx hb dX5_isSign_24 rfl ?_
      refine gt_X5_80 S hK hP dX5_isSign_25 ?_
      refine lv_iconst (v := (1 : Int32)) hx hb dX5_isSign_28 (by decide) ?_
      refine lv_iadd hx hb dX5_isSign_29 ?_
      refine pt_X5_80 S hK hP (hAd _) hS dX5_isSign_30 (fun H locs hP hS => ?_)
      refine lv_iconst (v := (1 : Int32)) hx hb dX5_isSign_33 (by decide) ?_
      obtain ⟨rfl, rfl⟩ := some_pair h
      exact k_zret S hr hlocks hP hS rfl (Or.inr rfl) dX5_isSign_34
    · replace h := ite_f c_18 h
      refine lv_iconst (v := (0 : Int32)) hx hb dX5_isSign_21 (by decide) ?_
      obtain ⟨rfl, rfl⟩ := some_pair h
      exact k_zret S hr hlocks hP hS rfl (Or.inl rfl) dX5_isSign_22
def f_X5_readSwearerNext (σ : SX) (x1 : Int32) : Option (Int32 × SX) := if x1 ≤ (gF σ 0 16) then (oin ((2 : Int32) * (gF σ 0 18)) 8 (oin ((2 : Int32) * (gF σ 0 18)) 8 (if (gR (sR σ 11 (upd (gR σ 11) ((2 : Int32) * (gF σ 0 18)).toNatClampNeg (-9 : Int32))) 11 ((2 : Int32) * (gF σ 0 18)).toNatClampNeg) = (-9 : Int32) then (some ((0 : Int32), sR σ 11 (upd (gR σ 11) ((2 : Int32) * (gF σ 0 18)).toNatClampNeg (-9 : Int32)))) else (ob2 (f_X5_digit (sF (sR σ 11 (upd (gR σ 11) ((2 : Int32) * (gF σ 0 18)).toNatClampNeg (-9 : Int32))) 0 16 ((gF (sR σ 11 (upd (gR σ 11) ((2 : Int32) * (gF σ 0 18)).toNatClampNeg (-9 : Int32))) 0 16) + (1 : Int32))) x1 (9 : Int32)) (fun r_101 s_101 => oin (((2 : Int32) * (gF σ 0 18)) + (1 : Int32)) 8 (oin (((2 : Int32) * (gF σ 0 18)) + (1 : Int32)) 8 (if (gR (sF (sR s_101 11 (upd (gR s_101 11) (((2 : Int32) * (gF σ 0 18)) + (1 : Int32)).toNatClampNeg r_101)) 0 18 ((gF (sR s_101 11 (upd (gR s_101 11) (((2 : Int32) * (gF σ 0 18)) + (1 : Int32)).toNatClampNeg r_101)) 0 18) + (1 : Int32))) 11 (((2 : Int32) * (gF σ 0 18)) + (1 : Int32)).toNatClampNeg) = (-9 : Int32) then (some ((0 : Int32), sF (sR s_101 11 (upd (gR s_101 11) (((2 : Int32) * (gF σ 0 18)) + (1 : Int32)).toNatClampNeg r_101)) 0 18 ((gF (sR s_101 11 (upd (gR s_101 11) (((2 : Int32) * (gF σ 0 18)) + (1 : Int32)).toNatClampNeg r_101)) 0 18) + (1 : Int32)))) else (some ((1 : Int32), sF (sR s_101 11 (upd (gR s_101 11) (((2 : Int32) * (gF σ 0 18)) + (1 : Int32)).toNatClampNeg r_101)) 0 18 ((gF (sR s_101 11 (upd (gR s_101 11) (((2 : Int32) * (gF σ 0 18)) + (1 : Int32)).toNatClampNeg r_101)) 0 18) + (1 : Int32))))))))))) else (oin (gF σ 0 16) 240 (if (gR σ 3 (gF σ 0 16).toNatClampNeg) = (112 : Int32) then (oin ((2 : Int32) * (gF σ 0 18)) 8 (oin ((2 : Int32) * (gF σ 0 18)) 8 (if (gR (sR σ 11 (upd (gR σ 11) ((2 : Int32) * (gF σ 0 18)).toNatClampNeg (0 : Int32))) 11 ((2 : Int32) * (gF σ 0 18)).toNatClampNeg) = (-9 : Int32) then (some ((0 : Int32), sR σ 11 (upd (gR σ 11) ((2 : Int32) * (gF σ 0 18)).toNatClampNeg (0 : Int32)))) else (ob2 (f_X5_digit (sF (sR σ 11 (upd (gR σ 11) ((2 : Int32) * (gF σ 0 18)).toNatClampNeg (0 : Int32))) 0 16 ((gF (sR σ 11 (upd (gR σ 11) ((2 : Int32) * (gF σ 0 18)).toNatClampNeg (0 : Int32))) 0 16) + (1 : Int32))) x1 (9 : Int32)) (fun r_101 s_101 => oin (((2 : Int32) * (gF σ 0 18)) + (1 : Int32)) 8 (oin (((2 : Int32) * (gF σ 0 18)) + (1 : Int32)) 8 (if (gR (sF (sR s_101 11 (upd (gR s_101 11) (((2 : Int32) * (gF σ 0 18)) + (1 : Int32)).toNatClampNeg r_101)) 0 18 ((gF (sR s_101 11 (upd (gR s_101 11) (((2 : Int32) * (gF σ 0 18)) + (1 : Int32)).toNatClampNeg r_101)) 0 18) + (1 : Int32))) 11 (((2 : Int32) * (gF σ 0 18)) + (1 : Int32)).toNatClampNeg) = (-9 : Int32) then (some ((0 : Int32), sF (sR s_101 11 (upd (gR s_101 11) (((2 : Int32) * (gF σ 0 18)) + (1 : Int32)).toNatClampNeg r_101)) 0 18 ((gF (sR s_101 11 (upd (gR s_101 11) (((2 : Int32) * (gF σ 0 18)) + (1 : Int32)).toNatClampNeg r_101)) 0 18) + (1 : Int32)))) else (some ((1 : Int32), sF (sR s_101 11 (upd (gR s_101 11) (((2 : Int32) * (gF σ 0 18)) + (1 : Int32)).toNatClampNeg r_101)) 0 18 ((gF (sR s_101 11 (upd (gR s_101 11) (((2 : Int32) * (gF σ 0 18)) + (1 : Int32)).toNatClampNeg r_101)) 0 18) + (1 : Int32))))))))))) else (if (gR σ 3 (gF σ 0 16).toNatClampNeg) = (98 : Int32) then (oin ((2 : Int32) * (gF σ 0 18)) 8 (oin ((2 : Int32) * (gF σ 0 18)) 8 (if (gR (sR σ 11 (upd (gR σ 11) ((2 : Int32) * (gF σ 0 18)).toNatClampNeg (1 : Int32))) 11 ((2 : Int32) * (gF σ 0 18)).toNatClampNeg) = (-9 : Int32) then (some ((0 : Int32), sR σ 11 (upd (gR σ 11) ((2 : Int32) * (gF σ 0 18)).toNatClampNeg (1 : Int32)))) else (ob2 (f_X5_digit (sF (sR σ 11 (upd (gR σ 11) ((2 : Int32) * (gF σ 0 18)).toNatClampNeg (1 : Int32))) 0 16 ((gF (sR σ 11 (upd (gR σ 11) ((2 : Int32) * (gF σ 0 18)).toNatClampNeg (1 : Int32))) 0 16) + (1 : Int32))) x1 (9 : Int32)) (fun r_101 s_101 => oin (((2 : Int32) * (gF σ 0 18)) + (1 : Int32)) 8 (oin (((2 : Int32) * (gF σ 0 18)) + (1 : Int32)) 8 (if (gR (sF (sR s_101 11 (upd (gR s_101 11) (((2 : Int32) * (gF σ 0 18)) + (1 : Int32)).toNatClampNeg r_101)) 0 18 ((gF (sR s_101 11 (upd (gR s_101 11) (((2 : Int32) * (gF σ 0 18)) + (1 : Int32)).toNatClampNeg r_101)) 0 18) + (1 : Int32))) 11 (((2 : Int32) * (gF σ 0 18)) + (1 : Int32)).toNatClampNeg) = (-9 : Int32) then (some ((0 : Int32), sF (sR s_101 11 (upd (gR s_101 11) (((2 : Int32) * (gF σ 0 18)) + (1 : Int32)).toNatClampNeg r_101)) 0 18 ((gF (sR s_101 11 (upd (gR s_101 11) (((2 : Int32) * (gF σ 0 18)) + (1 : Int32)).toNatClampNeg r_101)) 0 18) + (1 : Int32)))) else (some ((1 : Int32), sF (sR s_101 11 (upd (gR s_101 11) (((2 : Int32) * (gF σ 0 18)) + (1 : Int32)).toNatClampNeg r_101)) 0 18 ((gF (sR s_101 11 (upd (gR s_101 11) (((2 : Int32) * (gF σ 0 18)) + (1 : Int32)).toNatClampNeg r_101)) 0 18) + (1 : Int32))))))))))) else (if (gR σ 3 (gF σ 0 16).toNatClampNeg) = (100 : Int32) then (oin ((2 : Int32) * (gF σ 0 18)) 8 (oin ((2 : Int32) * (gF σ 0 18)) 8 (if (gR (sR σ 11 (upd (gR σ 11) ((2 : Int32) * (gF σ 0 18)).toNatClampNeg (2 : Int32))) 11 ((2 : Int32) * (gF σ 0 18)).toNatClampNeg) = (-9 : Int32) then (some ((0 : Int32), sR σ 11 (upd (gR σ 11) ((2 : Int32) * (gF σ 0 18)).toNatClampNeg (2 : Int32)))) else (ob2 (f_X5_digit (sF (sR σ 11 (upd (gR σ 11) ((2 : Int32) * (gF σ 0 18)).toNatClampNeg (2 : Int32))) 0 16 ((gF (sR σ 11 (upd (gR σ 11) ((2 : Int32) * (gF σ 0 18)).toNatClampNeg (2 : Int32))) 0 16) + (1 : Int32))) x1 (9 : Int32)) (fun r_101 s_101 => oin (((2 : Int32) * (gF σ 0 18)) + (1 : Int32)) 8 (oin (((2 : Int32) * (gF σ 0 18)) + (1 : Int32)) 8 (if (gR (sF (sR s_101 11 (upd (gR s_101 11) (((2 : Int32) * (gF σ 0 18)) + (1 : Int32)).toNatClampNeg r_101)) 0 18 ((gF (sR s_101 11 (upd (gR s_101 11) (((2 : Int32) * (gF σ 0 18)) + (1 : Int32)).toNatClampNeg r_101)) 0 18) + (1 : Int32))) 11 (((2 : Int32) * (gF σ 0 18)) + (1 : Int32)).toNatClampNeg) = (-9 : Int32) then (some ((0 : Int32), sF (sR s_101 11 (upd (gR s_101 11) (((2 : Int32) * (gF σ 0 18)) + (1 : Int32)).toNatClampNeg r_101)) 0 18 ((gF (sR s_101 11 (upd (gR s_101 11) (((2 : Int32) * (gF σ 0 18)) + (1 : Int32)).toNatClampNeg r_101)) 0 18) + (1 : Int32)))) else (some ((1 : Int32), sF (sR s_101 11 (upd (gR s_101 11) (((2 : Int32) * (gF σ 0 18)) + (1 : Int32)).toNatClampNeg r_101)) 0 18 ((gF (sR s_101 11 (upd (gR s_101 11) (((2 : Int32) * (gF σ 0 18)) + (1 : Int32)).toNatClampNeg r_101)) 0 18) + (1 : Int32))))))))))) else (oin ((2 : Int32) * (gF σ 0 18)) 8 (oin ((2 : Int32) * (gF σ 0 18)) 8 (if (gR (sR σ 11 (upd (gR σ 11) ((2 : Int32) * (gF σ 0 18)).toNatClampNeg (-9 : Int32))) 11 ((2 : Int32) * (gF σ 0 18)).toNatClampNeg) = (-9 : Int32) then (some ((0 : Int32), sR σ 11 (upd (gR σ 11) ((2 : Int32) * (gF σ 0 18)).toNatClampNeg (-9 : Int32)))) else (ob2 (f_X5_digit (sF (sR σ 11 (upd (gR σ 11) ((2 : Int32) * (gF σ 0 18)).toNatClampNeg (-9 : Int32))) 0 16 ((gF (sR σ 11 (upd (gR σ 11) ((2 : Int32) * (gF σ 0 18)).toNatClampNeg (-9 : Int32))) 0 16) + (1 : Int32))) x1 (9 : Int32)) (fun r_101 s_101 => oin (((2 : Int32) * (gF σ 0 18)) + (1 : Int32)) 8 (oin (((2 : Int32) * (gF σ 0 18)) + (1 : Int32)) 8 (if (gR (sF (sR s_101 11 (upd (gR s_101 11) (((2 : Int32) * (gF σ 0 18)) + (1 : Int32)).toNatClampNeg r_101)) 0 18 ((gF (sR s_101 11 (upd (gR s_101 11) (((2 : Int32) * (gF σ 0 18)) + (1 : Int32)).toNatClampNeg r_101)) 0 18) + (1 : Int32))) 11 (((2 : Int32) * (gF σ 0 18)) + (1 : Int32)).toNatClampNeg) = (-9 : Int32) then (some ((0 : Int32), sF (sR s_101 11 (upd (gR s_101 11) (((2 : Int32) * (gF σ 0 18)) + (1 : Int32)).toNatClampNeg r_101)) 0 18 ((gF (sR s_101 11 (upd (gR s_101 11) (((2 : Int32) * (gF σ 0 18)) + (1 : Int32)).toNatClampNeg r_101)) 0 18) + (1 : Int32)))) else (some ((1 : Int32), sF (sR s_101 11 (upd (gR s_101 11) (((2 : Int32) * (gF σ 0 18)) + (1 : Int32)).toNatClampNeg r_101)) 0 18 ((gF (sR s_101 11 (upd (gR s_101 11) (((2 : Int32) * (gF σ 0 18)) + (1 : Int32)).toNatClampNeg r_101)) 0 18) + (1 : Int32)))))))))))))))
set_option maxRecDepth 100000 in
set_option maxHeartbeats 4000000 in
theorem k_X5_readSwearerNext (l : Launch) {D : va_G} {A : Nat → Prop} {cI cZ cS : ClassId} {am : Nat → Nat} (hAd : ∀ σ, va_D A (WM cI am σ)) {σ : SX} {x1 : Int32} {σ' : SX} {r : Int32} (h : f_X5_readSwearerNext σ x1 = some (r, σ')) : Ct (QI D A r (WM cI am (σ'))) l yX5_readSwearerNext cX5_readSwearerNext 4 (some .boolean) 2 44 D (tyS cI cZ cS) A [.ref (am 0), .int x1] (WM cI am σ) := by
  refine Ct.of (by decide +kernel) (Nat.le_of_ble_eq_true rfl) ?_
  intro p e s m below meth c ls S hK hr hlocks hP hS hl
  have hx := S.1
  have hb := S.2.1
  have hl : lv_has ls 4 [(0, .ref (am 0)), (1, .int x1)] := hl
  rw [f_X5_readSwearerNext] at h
  refine lv_aload_n hx hb dX5_readSwearerNext_0 rfl (lv_at hl 0 rfl) ?_
  refine gt_X5_80 S hK hP dX5_readSwearerNext_1 ?_
  refine lv_iload_n hx hb dX5_readSwearerNext_4 rfl (lv_at hl 1 rfl) ?_
  refine lv_icmp_ge (tgt := 20) hx hb dX5_readSwearerNext_5 (by decide) (fun c_5 => ?_) (fun c_5 => ?_)
  · replace h := ite_t c_5 h
    refine lv_iconst (v := (0 : Int32)) hx hb dX5_readSwearerNext_20 (by decide) ?_
    refine lv_istore_n (lv' := [(2, .int (0 : Int32)), (0, .ref (am 0)), (1, .int x1)]) hx hb dX5_readSwearerNext_21 rfl hl (by decide) rfl (fun ls hl => ?_)
    refine lv_iconst (v := (2 : Int32)) hx hb dX5_readSwearerNext_22 (by decide) ?_
    refine lv_aload_n hx hb dX5_readSwearerNext_23 rfl (lv_at hl 1 rfl) ?_
    refine gt_X5_107 S hK hP dX5_readSwearerNext_24 ?_
    refine lv_imul hx hb dX5_readSwearerNext_27 ?_
    refine lv_istore_n (lv' := [(3, .int ((2 : Int32) * (gF σ 0 18))), (2, .int (0 : Int32)), (0, .ref (am 0)), (1, .int x1)]) hx hb dX5_readSwearerNext_28 rfl hl (by decide) rfl (fun ls hl => ?_)
    refine lv_aload_n hx hb dX5_readSwearerNext_29 rfl (lv_at hl 2 rfl) ?_
    refine gt_X5_44 S hK hP dX5_readSwearerNext_30 ?_
    refine lv_iload_n hx hb dX5_readSwearerNext_33 rfl (lv_at hl 0 rfl) ?_
    refine lv_iload_n hx hb dX5_readSwearerNext_34 rfl (lv_at hl 1 rfl) ?_
    refine lv_bipush (v := (112 : Int32)) hx hb dX5_readSwearerNext_35 (by decide) ?_
    refine lv_icmp_ne (tgt := 44) hx hb dX5_readSwearerNext_37 (by decide) (fun _ => ?_) (fun c => absurd c (by decide))
    refine lv_iload_n hx hb dX5_readSwearerNext_44 rfl (lv_at hl 1 rfl) ?_
    refine lv_bipush (v := (98 : Int32)) hx hb dX5_readSwearerNext_45 (by decide) ?_
    refine lv_icmp_ne (tgt := 54) hx hb dX5_readSwearerNext_47 (by decide) (fun _ => ?_) (fun c => absurd c (by decide))
    refine lv_iload_n hx hb dX5_readSwearerNext_54 rfl (lv_at hl 1 rfl) ?_
    refine lv_bipush (v := (100 : Int32)) hx hb dX5_readSwearerNext_55 (by decide) ?_
    refine lv_icmp_ne (tgt := 64) hx hb dX5_readSwearerNext_57 (by decide) (fun _ => ?_) (fun c => absurd c (by decide))
    refine lv_bipush (v := (-9 : Int32)) hx hb dX5_readSwearerNext_64 (by decide) ?_
    obtain ⟨hi_66, h⟩ := oin_of h
    refine k_iast S hK hP (hAd _) hS mr11 mr11_s hi_66 dX5_readSwearerNext_66 (fun H locs hP hS => ?_)
    refine lv_aload_n hx hb dX5_readSwearerNext_67 rfl (lv_at hl 2 rfl) ?_
    refine gt_X5_44 S hK hP dX5_readSwearerNext_68 ?_
    refine lv_iload_n hx hb dX5_readSwearerNext_71 rfl (lv_at hl 0 rfl) ?_
    obtain ⟨hi_72, h⟩ := oin_of h
    refine k_iald S hK hP mr11 hi_72 dX5_readSwearerNext_72 ?_
    refine lv_bipush (v := (-9 : Int32)) hx hb dX5_readSwearerNext_73 (by decide) ?_
    refine lv_icmp_ne (tgt := 80) hx hb dX5_readSwearerNext_75 (by decide) (fun c_75 => ?_) (fun c_75 => ?_)
    · replace h := ite_f c_75 h
      refine lv_aload_n hx hb dX5_readSwearerNext_80 rfl (lv_at hl 2 rfl) ?_
      refine lv_dup hx hb dX5_readSwearerNext_81 rfl ?_
      refine gt_X5_80 S hK hP dX5_readSwearerNext_82 ?_
      refine lv_iconst (v := (1 : Int32)) hx hb dX5_readSwearerNext_85 (by decide) ?_
      refine lv_iadd hx hb dX5_readSwearerNext_86 ?_
      refine pt_X5_80 S hK hP (hAd _) hS dX5_readSwearerNext_87 (fun H locs hP hS => ?_)
      refine lv_aload_n hx hb dX5_readSwearerNext_90 rfl (lv_at hl 2 rfl) ?_
      refine gt_X5_44 S hK hP dX5_readSwearerNext_91 ?_
      refine lv_iload_n hx hb dX5_readSwearerNext_94 rfl (lv_at hl 0 rfl) ?_
      refine lv_iconst (v := (1 : Int32)) hx hb dX5_readSwearerNext_95 (by decide) ?_
      refine lv_iadd hx hb dX5_readSwearerNext_96 ?_
      refine lv_aload_n hx hb dX5_readSwearerNext_97 rfl (lv_at hl 2 rfl) ?_
      refine lv_iload_n hx hb dX5_readSwearerNext_98 rfl (lv_at hl 3 rfl) ?_
      refine lv_bipush (v := (9 : Int32)) hx hb dX5_readSwearerNext_99 (by decide) ?_
      obtain ⟨r_101, s_101, e_101, h⟩ := ob2_of h
      refine k_goI (k_runV (As := [.int x1, .int (9 : Int32)]) (rest := [.int (((2 : Int32) * (gF σ 0 18)) + (1 : Int32)), .ref (am 11)]) S hK hP (k_X5_digit l hAd e_101) cy_X5_digit wd_760 rfl mO rfl hl.1 rfl (Nat.le_of_ble_eq_true rfl) dX5_readSwearerNext_101 ⟨Nat.le_of_ble_eq_true rfl, Nat.le_of_ble_eq_true rfl⟩ ⟨Nat.zero_le _, Nat.zero_le _⟩) hS (fun _ h => h) (fun H locs hP hS _ _ => ?_)
      obtain ⟨hi_104, h⟩ := oin_of h
      refine k_iast S hK hP (hAd _) hS mr11 mr11_s hi_104 dX5_readSwearerNext_104 (fun H locs hP hS => ?_)
      refine lv_aload_n hx hb dX5_readSwearerNext_105 rfl (lv_at hl 2 rfl) ?_
      refine lv_dup hx hb dX5_readSwearerNext_106 rfl ?_
      refine gt_X5_107 S hK hP dX5_readSwearerNext_107 ?_
      refine lv_iconst (v := (1 : Int32)) hx hb dX5_readSwearerNext_110 (by decide) ?_
      refine lv_iadd hx hb dX5_readSwearerNext_111 ?_
      refine pt_X5_107 S hK hP (hAd _) hS dX5_readSwearerNext_112 (fun H locs hP hS => ?_)
      refine lv_aload_n hx hb dX5_readSwearerNext_115 rfl (lv_at hl 2 rfl) ?_
      refine gt_X5_44 S hK hP dX5_readSwearerNext_116 ?_
      refine lv_iload_n hx hb dX5_readSwearerNext_119 rfl (lv_at hl 0 rfl) ?_
      refine lv_iconst (v := (1 : Int32)) hx hb dX5_readSwearerNext_120 (by decide) ?_
      refine lv_iadd hx hb dX5_readSwearerNext_121 ?_
      obtain ⟨hi_122, h⟩ := oin_of h
      refine k_iald S hK hP mr11 hi_122 dX5_readSwearerNext_122 ?_
      refine lv_bipush (v := (-9 : Int32)) hx hb dX5_readSwearerNext_123 (by decide) ?_
      refine lv_icmp_eq (tgt := 132) hx hb dX5_readSwearerNext_125 (by decide) (fun c_125 => ?_) (fun c_125 => ?_)
      · replace h := ite_t c_125 h
        refine lv_iconst (v := (0 : Int32)) hx hb dX5_readSwearerNext_132 (by decide) ?_
        obtain ⟨rfl, rfl⟩ := some_pair h
        exact k_zret S hr hlocks hP hS rfl (Or.inl rfl) dX5_readSwearerNext_133
      · replace h := ite_f c_125 h
        refine lv_iconst (v := (1 : Int32)) hx hb dX5_readSwearerNext_128 (by decide) ?_
        refine lv_goto (tgt := 133) hx hb dX5_readSwearerNext_129 (by decide) ?_
        obtain ⟨rfl, rfl⟩ := some_pair h
        exact k_zret S hr hlocks hP hS rfl (Or.inr rfl) dX5_readSwearerNext_133
    · replace h := ite_t c_75 h
      refine lv_iconst (v := (0 : Int32)) hx hb dX5_readSwearerNext_78 (by decide) ?_
      obtain ⟨rfl, rfl⟩ := some_pair h
      exact k_zret S hr hlocks hP hS rfl (Or.inl rfl) dX5_readSwearerNext_79
  · replace h := ite_f c_5 h
    refine lv_aload_n hx hb dX5_readSwearerNext_8 rfl (lv_at hl 0 rfl) ?_
    refine gt_X5_16 S hK hP dX5_readSwearerNext_9 ?_
    refine lv_aload_n hx hb dX5_readSwearerNext_12 rfl (lv_at hl 0 rfl) ?_
    refine gt_X5_80 S hK hP dX5_readSwearerNext_13 ?_
    obtain ⟨hi_16, h⟩ := oin_of h
    refine k_iald S hK hP mr3 hi_16 dX5_readSwearerNext_16 ?_
    refine lv_goto (tgt := 21) hx hb dX5_readSwearerNext_17 (by decide) ?_
    refine lv_istore_n (lv' := [(2, .int (gR σ 3 (gF σ 0 16).toNatClampNeg)), (0, .ref (am 0)), (1, .int x1)]) hx hb dX5_readSwearerNext_21 rfl hl (by decide) rfl (fun ls hl => ?_)
    refine lv_iconst (v := (2 : Int32)) hx hb dX5_readSwearerNext_22 (by decide) ?_
    refine lv_aload_n hx hb dX5_readSwearerNext_23 rfl (lv_at hl 1 rfl) ?_
    refine gt_X5_107 S hK hP dX5_readSwearerNext_24 ?_
    refine lv_imul hx hb dX5_readSwearerNext_27 ?_
    refine lv_istore_n (lv' := [(3, .int ((2 : Int32) * (gF σ 0 18))), (2, .int (gR σ 3 (gF σ 0 16).toNatClampNeg)), (0, .ref (am 0)), (1, .int x1)]) hx hb dX5_readSwearerNext_28 rfl hl (by decide) rfl (fun ls hl => ?_)
    refine lv_aload_n hx hb dX5_readSwearerNext_29 rfl (lv_at hl 2 rfl) ?_
    refine gt_X5_44 S hK hP dX5_readSwearerNext_30 ?_
    refine lv_iload_n hx hb dX5_readSwearerNext_33 rfl (lv_at hl 0 rfl) ?_
    refine lv_iload_n hx hb dX5_readSwearerNext_34 rfl (lv_at hl 1 rfl) ?_
    refine lv_bipush (v := (112 : Int32)) hx hb dX5_readSwearerNext_35 (by decide) ?_
    refine lv_icmp_ne (tgt := 44) hx hb dX5_readSwearerNext_37 (by decide) (fun c_37 => ?_) (fun c_37 => ?_)
    · replace h := ite_f c_37 h
      refine lv_iload_n hx hb dX5_readSwearerNext_44 rfl (lv_at hl 1 rfl) ?_
      refine lv_bipush (v := (98 : Int32)) hx hb dX5_readSwearerNext_45 (by decide) ?_
      refine lv_icmp_ne (tgt := 54) hx hb dX5_readSwearerNext_47 (by decide) (fun c_47 => ?_) (fun c_47 => ?_)
      · replace h := ite_f c_47 h
        refine lv_iload_n hx hb dX5_readSwearerNext_54 rfl (lv_at hl 1 rfl) ?_
        refine lv_bipush (v := (100 : Int32)) hx hb dX5_readSwearerNext_55 (by decide) ?_
        refine lv_icmp_ne (tgt := 64) hx hb dX5_readSwearerNext_57 (by decide) (fun c_57 => ?_) (fun c_57 => ?_)
        · replace h := ite_f c_57 h
          refine lv_bipush (v := (-9 : Int32)) hx hb dX5_readSwearerNext_64 (by decide) ?_
          obtain ⟨hi_66, h⟩ := oin_of h
          refine k_iast S hK hP (hAd _) hS mr11 mr11_s hi_66 dX5_readSwearerNext_66 (fun H locs hP hS => ?_)
          refine lv_aload_n hx hb dX5_readSwearerNext_67 rfl (lv_at hl 2 rfl) ?_
          refine gt_X5_44 S hK hP dX5_readSwearerNext_68 ?_
          refine lv_iload_n hx hb dX5_readSwearerNext_71 rfl (lv_at hl 0 rfl) ?_
          obtain ⟨hi_72, h⟩ := oin_of h
          refine k_iald S hK hP mr11 hi_72 dX5_readSwearerNext_72 ?_
          refine lv_bipush (v := (-9 : Int32)) hx hb dX5_readSwearerNext_73 (by decide) ?_
          refine lv_icmp_ne (tgt := 80) hx hb dX5_readSwearerNext_75 (by decide) (fun c_75 => ?_) (fun c_75 => ?_)
          · replace h := ite_f c_75 h
            refine lv_aload_n hx hb dX5_readSwearerNext_80 rfl (lv_at hl 2 rfl) ?_
            refine lv_dup hx hb dX5_readSwearerNext_81 rfl ?_
            refine gt_X5_80 S hK hP dX5_readSwearerNext_82 ?_
            refine lv_iconst (v := (1 : Int32)) hx hb dX5_readSwearerNext_85 (by decide) ?_
            refine lv_iadd hx hb dX5_readSwearerNext_86 ?_
            refine pt_X5_80 S hK hP (hAd _) hS dX5_readSwearerNext_87 (fun H locs hP hS => ?_)
            refine lv_aload_n hx hb dX5_readSwearerNext_90 rfl (lv_at hl 2 rfl) ?_
            refine gt_X5_44 S hK hP dX5_readSwearerNext_91 ?_
            refine lv_iload_n hx hb dX5_readSwearerNext_94 rfl (lv_at hl 0 rfl) ?_
            refine lv_iconst (v := (1 : Int32)) hx hb dX5_readSwearerNext_95 (by decide) ?_
            refine lv_iadd hx hb dX5_readSwearerNext_96 ?_
            refine lv_aload_n hx hb dX5_readSwearerNext_97 rfl (lv_at hl 2 rfl) ?_
            refine lv_iload_n hx hb dX5_readSwearerNext_98 rfl (lv_at hl 3 rfl) ?_
            refine lv_bipush (v := (9 : Int32)) hx hb dX5_readSwearerNext_99 (by decide) ?_
            obtain ⟨r_101, s_101, e_101, h⟩ := ob2_of h
            refine k_goI (k_runV (As := [.int x1, .int (9 : Int32)]) (rest := [.int (((2 : Int32) * (gF σ 0 18)) + (1 : Int32)), .ref (am 11)]) S hK hP (k_X5_digit l hAd e_101) cy_X5_digit wd_760 rfl mO rfl hl.1 rfl (Nat.le_of_ble_eq_true rfl) dX5_readSwearerNext_101 ⟨Nat.le_of_ble_eq_true rfl, Nat.le_of_ble_eq_true rfl⟩ ⟨Nat.zero_le _, Nat.zero_le _⟩) hS (fun _ h => h) (fun H locs hP hS _ _ => ?_)
            obtain ⟨hi_104, h⟩ := oin_of h
            refine k_iast S hK hP (hAd _) hS mr11 mr11_s hi_104 dX5_readSwearerNext_104 (fun H locs hP hS => ?_)
            refine lv_aload_n hx hb dX5_readSwearerNext_105 rfl (lv_at hl 2 rfl) ?_
            refine lv_dup hx hb dX5_readSwearerNext_106 rfl ?_
            refine gt_X5_107 S hK hP dX5_readSwearerNext_107 ?_
            refine lv_iconst (v := (1 : Int32)) hx hb dX5_readSwearerNext_110 (by decide) ?_
            refine lv_iadd hx hb dX5_readSwearerNext_111 ?_
            refine pt_X5_107 S hK hP (hAd _) hS dX5_readSwearerNext_112 (fun H locs hP hS => ?_)
            refine lv_aload_n hx hb dX5_readSwearerNext_115 rfl (lv_at hl 2 rfl) ?_
            refine gt_X5_44 S hK hP dX5_readSwearerNext_116 ?_
            refine lv_iload_n hx hb dX5_readSwearerNext_119 rfl (lv_at hl 0 rfl) ?_
            refine lv_iconst (v := (1 : Int32)) hx hb dX5_readSwearerNext_120 (by decide) ?_
            refine lv_iadd hx hb dX5_readSwearerNext_121 ?_
            obtain ⟨hi_122, h⟩ := oin_of h
            refine k_iald S hK hP mr11 hi_122 dX5_readSwearerNext_122 ?_
            refine lv_bipush (v := (-9 : Int32)) hx hb dX5_readSwearerNext_123 (by decide) ?_
            refine lv_icmp_eq (tgt := 132) hx hb dX5_readSwearerNext_125 (by decide) (fun c_125 => ?_) (fun c_125 => ?_)
            · replace h := ite_t c_125 h
              refine lv_iconst (v := (0 : Int32)) hx hb dX5_readSwearerNext_132 (by decide) ?_
              obtain ⟨rfl, rfl⟩ := some_pair h
              exact k_zret S hr hlocks hP hS rfl (Or.inl rfl) dX5_readSwearerNext_133
            · replace h := ite_f c_125 h
              refine lv_iconst (v := (1 : Int32)) hx hb dX5_readSwearerNext_128 (by decide) ?_
              refine lv_goto (tgt := 133) hx hb dX5_readSwearerNext_129 (by decide) ?_
              obtain ⟨rfl, rfl⟩ := some_pair h
              exact k_zret S hr hlocks hP hS rfl (Or.inr rfl) dX5_readSwearerNext_133
          · replace h := ite_t c_75 h
            refine lv_iconst (v := (0 : Int32)) hx hb dX5_readSwearerNext_78 (by decide) ?_
            obtain ⟨rfl, rfl⟩ := some_pair h
            exact k_zret S hr hlocks hP hS rfl (Or.inl rfl) dX5_readSwearerNext_79
        · replace h := ite_t c_57 h
          refine lv_iconst (v := (2 : Int32)) hx hb dX5_readSwearerNext_60 (by decide) ?_
          refine lv_goto (tgt := 66) hx hb dX5_readSwearerNext_61 (by decide) ?_
          obtain ⟨hi_66, h⟩ := oin_of h
          refine k_iast S hK hP (hAd _) hS mr11 mr11_s hi_66 dX5_readSwearerNext_66 (fun H locs hP hS => ?_)
          refine lv_aload_n hx hb dX5_readSwearerNext_67 rfl (lv_at hl 2 rfl) ?_
          refine gt_X5_44 S hK hP dX5_readSwearerNext_68 ?_
          refine lv_iload_n hx hb dX5_readSwearerNext_71 rfl (lv_at hl 0 rfl) ?_
          obtain ⟨hi_72, h⟩ := oin_of h
          refine k_iald S hK hP mr11 hi_72 dX5_readSwearerNext_72 ?_
          refine lv_bipush (v := (-9 : Int32)) hx hb dX5_readSwearerNext_73 (by decide) ?_
          refine lv_icmp_ne (tgt := 80) hx hb dX5_readSwearerNext_75 (by decide) (fun c_75 => ?_) (fun c_75 => ?_)
          · replace h := ite_f c_75 h
            refine lv_aload_n hx hb dX5_readSwearerNext_80 rfl (lv_at hl 2 rfl) ?_
            refine lv_dup hx hb dX5_readSwearerNext_81 rfl ?_
            refine gt_X5_80 S hK hP dX5_readSwearerNext_82 ?_
            refine lv_iconst (v := (1 : Int32)) hx hb dX5_readSwearerNext_85 (by decide) ?_
            refine lv_iadd hx hb dX5_readSwearerNext_86 ?_
            refine pt_X5_80 S hK hP (hAd _) hS dX5_readSwearerNext_87 (fun H locs hP hS => ?_)
            refine lv_aload_n hx hb dX5_readSwearerNext_90 rfl (lv_at hl 2 rfl) ?_
            refine gt_X5_44 S hK hP dX5_readSwearerNext_91 ?_
            refine lv_iload_n hx hb dX5_readSwearerNext_94 rfl (lv_at hl 0 rfl) ?_
            refine lv_iconst (v := (1 : Int32)) hx hb dX5_readSwearerNext_95 (by decide) ?_
            refine lv_iadd hx hb dX5_readSwearerNext_96 ?_
            refine lv_aload_n hx hb dX5_readSwearerNext_97 rfl (lv_at hl 2 rfl) ?_
            refine lv_iload_n hx hb dX5_readSwearerNext_98 rfl (lv_at hl 3 rfl) ?_
            refine lv_bipush (v := (9 : Int32)) hx hb dX5_readSwearerNext_99 (by decide) ?_
            obtain ⟨r_101, s_101, e_101, h⟩ := ob2_of h
            refine k_goI (k_runV (As := [.int x1, .int (9 : Int32)]) (rest := [.int (((2 : Int32) * (gF σ 0 18)) + (1 : Int32)), .ref (am 11)]) S hK hP (k_X5_digit l hAd e_101) cy_X5_digit wd_760 rfl mO rfl hl.1 rfl (Nat.le_of_ble_eq_true rfl) dX5_readSwearerNext_101 ⟨Nat.le_of_ble_eq_true rfl, Nat.le_of_ble_eq_true rfl⟩ ⟨Nat.zero_le _, Nat.zero_le _⟩) hS (fun _ h => h) (fun H locs hP hS _ _ => ?_)
            obtain ⟨hi_104, h⟩ := oin_of h
            refine k_iast S hK hP (hAd _) hS mr11 mr11_s hi_104 dX5_readSwearerNext_104 (fun H locs hP hS => ?_)
            refine lv_aload_n hx hb dX5_readSwearerNext_105 rfl (lv_at hl 2 rfl) ?_
            refine lv_dup hx hb dX5_readSwearerNext_106 rfl ?_
            refine gt_X5_107 S hK hP dX5_readSwearerNext_107 ?_
            refine lv_iconst (v := (1 : Int32)) hx hb dX5_readSwearerNext_110 (by decide) ?_
            refine lv_iadd hx hb dX5_readSwearerNext_111 ?_
            refine pt_X5_107 S hK hP (hAd _) hS dX5_readSwearerNext_112 (fun H locs hP hS => ?_)
            refine lv_aload_n hx hb dX5_readSwearerNext_115 rfl (lv_at hl 2 rfl) ?_
            refine gt_X5_44 S hK hP dX5_readSwearerNext_116 ?_
            refine lv_iload_n hx hb dX5_readSwearerNext_119 rfl (lv_at hl 0 rfl) ?_
            refine lv_iconst (v := (1 : Int32)) hx hb dX5_readSwearerNext_120 (by decide) ?_
            refine lv_iadd hx hb dX5_readSwearerNext_121 ?_
            obtain ⟨hi_122, h⟩ := oin_of h
            refine k_iald S hK hP mr11 hi_122 dX5_readSwearerNext_122 ?_
            refine lv_bipush (v := (-9 : Int32)) hx hb dX5_readSwearerNext_123 (by decide) ?_
            refine lv_icmp_eq (tgt := 132) hx hb dX5_readSwearerNext_125 (by decide) (fun c_125 => ?_) (fun c_125 => ?_)
            · replace h := ite_t c_125 h
              refine lv_iconst (v := (0 : Int32)) hx hb dX5_readSwearerNext_132 (by decide) ?_
              obtain ⟨rfl, rfl⟩ := some_pair h
              exact k_zret S hr hlocks hP hS rfl (Or.inl rfl) dX5_readSwearerNext_133
            · replace h := ite_f c_125 h
              refine lv_iconst (v := (1 : Int32)) hx hb dX5_readSwearerNext_128 (by decide) ?_
              refine lv_goto (tgt := 133) hx hb dX5_readSwearerNext_129 (by decide) ?_
              obtain ⟨rfl, rfl⟩ := some_pair h
              exact k_zret S hr hlocks hP hS rfl (Or.inr rfl) dX5_readSwearerNext_133
          · replace h := ite_t c_75 h
            refine lv_iconst (v := (0 : Int32)) hx hb dX5_readSwearerNext_78 (by decide) ?_
            obtain ⟨rfl, rfl⟩ := some_pair h
            exact k_zret S hr hlocks hP hS rfl (Or.inl rfl) dX5_readSwearerNext_79
      · replace h := ite_t c_47 h
        refine lv_iconst (v := (1 : Int32)) hx hb dX5_readSwearerNext_50 (by decide) ?_
        refine lv_goto (tgt := 66) hx hb dX5_readSwearerNext_51 (by decide) ?_
        obtain ⟨hi_66, h⟩ := oin_of h
        refine k_iast S hK hP (hAd _) hS mr11 mr11_s hi_66 dX5_readSwearerNext_66 (fun H locs hP hS => ?_)
        refine lv_aload_n hx hb dX5_readSwearerNext_67 rfl (lv_at hl 2 rfl) ?_
        refine gt_X5_44 S hK hP dX5_readSwearerNext_68 ?_
        refine lv_iload_n hx hb dX5_readSwearerNext_71 rfl (lv_at hl 0 rfl) ?_
        obtain ⟨hi_72, h⟩ := oin_of h
        refine k_iald S hK hP mr11 hi_72 dX5_readSwearerNext_72 ?_
        refine lv_bipush (v := (-9 : Int32)) hx hb dX5_readSwearerNext_73 (by decide) ?_
        refine lv_icmp_ne (tgt := 80) hx hb dX5_readSwearerNext_75 (by decide) (fun c_75 => ?_) (fun c_75 => ?_)
        · replace h := ite_f c_75 h
          refine lv_aload_n hx hb dX5_readSwearerNext_80 rfl (lv_at hl 2 rfl) ?_
          refine lv_dup hx hb dX5_readSwearerNext_81 rfl ?_
          refine gt_X5_80 S hK hP dX5_readSwearerNext_82 ?_
          refine lv_iconst (v := (1 : Int32)) hx hb dX5_readSwearerNext_85 (by decide) ?_
          refine lv_iadd hx hb dX5_readSwearerNext_86 ?_
          refine pt_X5_80 S hK hP (hAd _) hS dX5_readSwearerNext_87 (fun H locs hP hS => ?_)
          refine lv_aload_n hx hb dX5_readSwearerNext_90 rfl (lv_at hl 2 rfl) ?_
          refine gt_X5_44 S hK hP dX5_readSwearerNext_91 ?_
          refine lv_iload_n hx hb dX5_readSwearerNext_94 rfl (lv_at hl 0 rfl) ?_
          refine lv_iconst (v := (1 : Int32)) hx hb dX5_readSwearerNext_95 (by decide) ?_
          refine lv_iadd hx hb dX5_readSwearerNext_96 ?_
          refine lv_aload_n hx hb dX5_readSwearerNext_97 rfl (lv_at hl 2 rfl) ?_
          refine lv_iload_n hx hb dX5_readSwearerNext_98 rfl (lv_at hl 3 rfl) ?_
          refine lv_bipush (v := (9 : Int32)) hx hb dX5_readSwearerNext_99 (by decide) ?_
          obtain ⟨r_101, s_101, e_101, h⟩ := ob2_of h
          refine k_goI (k_runV (As := [.int x1, .int (9 : Int32)]) (rest := [.int (((2 : Int32) * (gF σ 0 18)) + (1 : Int32)), .ref (am 11)]) S hK hP (k_X5_digit l hAd e_101) cy_X5_digit wd_760 rfl mO rfl hl.1 rfl (Nat.le_of_ble_eq_true rfl) dX5_readSwearerNext_101 ⟨Nat.le_of_ble_eq_true rfl, Nat.le_of_ble_eq_true rfl⟩ ⟨Nat.zero_le _, Nat.zero_le _⟩) hS (fun _ h => h) (fun H locs hP hS _ _ => ?_)
          obtain ⟨hi_104, h⟩ := oin_of h
          refine k_iast S hK hP (hAd _) hS mr11 mr11_s hi_104 dX5_readSwearerNext_104 (fun H locs hP hS => ?_)
          refine lv_aload_n hx hb dX5_readSwearerNext_105 rfl (lv_at hl 2 rfl) ?_
          refine lv_dup hx hb dX5_readSwearerNext_106 rfl ?_
          refine gt_X5_107 S hK hP dX5_readSwearerNext_107 ?_
          refine lv_iconst (v := (1 : Int32)) hx hb dX5_readSwearerNext_110 (by decide) ?_
          refine lv_iadd hx hb dX5_readSwearerNext_111 ?_
          refine pt_X5_107 S hK hP (hAd _) hS dX5_readSwearerNext_112 (fun H locs hP hS => ?_)
          refine lv_aload_n hx hb dX5_readSwearerNext_115 rfl (lv_at hl 2 rfl) ?_
          refine gt_X5_44 S hK hP dX5_readSwearerNext_116 ?_
          refine lv_iload_n hx hb dX5_readSwearerNext_119 rfl (lv_at hl 0 rfl) ?_
          refine lv_iconst (v := (1 : Int32)) hx hb dX5_readSwearerNext_120 (by decide) ?_
          refine lv_iadd hx hb dX5_readSwearerNext_121 ?_
          obtain ⟨hi_122, h⟩ := oin_of h
          refine k_iald S hK hP mr11 hi_122 dX5_readSwearerNext_122 ?_
          refine lv_bipush (v := (-9 : Int32)) hx hb dX5_readSwearerNext_123 (by decide) ?_
          refine lv_icmp_eq (tgt := 132) hx hb dX5_readSwearerNext_125 (by decide) (fun c_125 => ?_) (fun c_125 => ?_)
          · replace h := ite_t c_125 h
            refine lv_iconst (v := (0 : Int32)) hx hb dX5_readSwearerNext_132 (by decide) ?_
            obtain ⟨rfl, rfl⟩ := some_pair h
            exact k_zret S hr hlocks hP hS rfl (Or.inl rfl) dX5_readSwearerNext_133
          · replace h := ite_f c_125 h
            refine lv_iconst (v := (1 : Int32)) hx hb dX5_readSwearerNext_128 (by decide) ?_
            refine lv_goto (tgt := 133) hx hb dX5_readSwearerNext_129 (by decide) ?_
            obtain ⟨rfl, rfl⟩ := some_pair h
            exact k_zret S hr hlocks hP hS rfl (Or.inr rfl) dX5_readSwearerNext_133
        · replace h := ite_t c_75 h
          refine lv_iconst (v := (0 : Int32)) hx hb dX5_readSwearerNext_78 (by decide) ?_
          obtain ⟨rfl, rfl⟩ := some_pair h
          exact k_zret S hr hlocks hP hS rfl (Or.inl rfl) dX5_readSwearerNext_79
    · replace h := ite_t c_37 h
      refine lv_iconst (v := (0 : Int32)) hx hb dX5_readSwearerNext_40 (by decide) ?_
      refine lv_goto (tgt := 66) hx hb dX5_readSwearerNext_41 (by decide) ?_
      obtain ⟨hi_66, h⟩ := oin_of h
      refine k_iast S hK hP (hAd _) hS mr11 mr11_s hi_66 dX5_readSwearerNext_66 (fun H locs hP hS => ?_)
      refine lv_aload_n hx hb dX5_readSwearerNext_67 rfl (lv_at hl 2 rfl) ?_
      refine gt_X5_44 S hK hP dX5_readSwearerNext_68 ?_
      refine lv_iload_n hx hb dX5_readSwearerNext_71 rfl (lv_at hl 0 rfl) ?_
      obtain ⟨hi_72, h⟩ := oin_of h
      refine k_iald S hK hP mr11 hi_72 dX5_readSwearerNext_72 ?_
      refine lv_bipush (v := (-9 : Int32)) hx hb dX5_readSwearerNext_73 (by decide) ?_
      refine lv_icmp_ne (tgt := 80) hx hb dX5_readSwearerNext_75 (by decide) (fun c_75 => ?_) (fun c_75 => ?_)
      · replace h := ite_f c_75 h
        refine lv_aload_n hx hb dX5_readSwearerNext_80 rfl (lv_at hl 2 rfl) ?_
        refine lv_dup hx hb dX5_readSwearerNext_81 rfl ?_
        refine gt_X5_80 S hK hP dX5_readSwearerNext_82 ?_
        refine lv_iconst (v := (1 : Int32)) hx hb dX5_readSwearerNext_85 (by decide) ?_
        refine lv_iadd hx hb dX5_readSwearerNext_86 ?_
        refine pt_X5_80 S hK hP (hAd _) hS dX5_readSwearerNext_87 (fun H locs hP hS => ?_)
        refine lv_aload_n hx hb dX5_readSwearerNext_90 rfl (lv_at hl 2 rfl) ?_
        refine gt_X5_44 S hK hP dX5_readSwearerNext_91 ?_
        refine lv_iload_n hx hb dX5_readSwearerNext_94 rfl (lv_at hl 0 rfl) ?_
        refine lv_iconst (v := (1 : Int32)) hx hb dX5_readSwearerNext_95 (by decide) ?_
        refine lv_iadd hx hb dX5_readSwearerNext_96 ?_
        refine lv_aload_n hx hb dX5_readSwearerNext_97 rfl (lv_at hl 2 rfl) ?_
        refine lv_iload_n hx hb dX5_readSwearerNext_98 rfl (lv_at hl 3 rfl) ?_
        refine lv_bipush (v := (9 : Int32)) hx hb dX5_readSwearerNext_99 (by decide) ?_
        obtain ⟨r_101, s_101, e_101, h⟩ := ob2_of h
        refine k_goI (k_runV (As := [.int x1, .int (9 : Int32)]) (rest := [.int (((2 : Int32) * (gF σ 0 18)) + (1 : Int32)), .ref (am 11)]) S hK hP (k_X5_digit l hAd e_101) cy_X5_digit wd_760 rfl mO rfl hl.1 rfl (Nat.le_of_ble_eq_true rfl) dX5_readSwearerNext_101 ⟨Nat.le_of_ble_eq_true rfl, Nat.le_of_ble_eq_true rfl⟩ ⟨Nat.zero_le _, Nat.zero_le _⟩) hS (fun _ h => h) (fun H locs hP hS _ _ => ?_)
        obtain ⟨hi_104, h⟩ := oin_of h
        refine k_iast S hK hP (hAd _) hS mr11 mr11_s hi_104 dX5_readSwearerNext_104 (fun H locs hP hS => ?_)
        refine lv_aload_n hx hb dX5_readSwearerNext_105 rfl (lv_at hl 2 rfl) ?_
        refine lv_dup hx hb dX5_readSwearerNext_106 rfl ?_
        refine gt_X5_107 S hK hP dX5_readSwearerNext_107 ?_
        refine lv_iconst (v := (1 : Int32)) hx hb dX5_readSwearerNext_110 (by decide) ?_
        refine lv_iadd hx hb dX5_readSwearerNext_111 ?_
        refine pt_X5_107 S hK hP (hAd _) hS dX5_readSwearerNext_112 (fun H locs hP hS => ?_)
        refine lv_aload_n hx hb dX5_readSwearerNext_115 rfl (lv_at hl 2 rfl) ?_
        refine gt_X5_44 S hK hP dX5_readSwearerNext_116 ?_
        refine lv_iload_n hx hb dX5_readSwearerNext_119 rfl (lv_at hl 0 rfl) ?_
        refine lv_iconst (v := (1 : Int32)) hx hb dX5_readSwearerNext_120 (by decide) ?_
        refine lv_iadd hx hb dX5_readSwearerNext_121 ?_
        obtain ⟨hi_122, h⟩ := oin_of h
        refine k_iald S hK hP mr11 hi_122 dX5_readSwearerNext_122 ?_
        refine lv_bipush (v := (-9 : Int32)) hx hb dX5_readSwearerNext_123 (by decide) ?_
        refine lv_icmp_eq (tgt := 132) hx hb dX5_readSwearerNext_125 (by decide) (fun c_125 => ?_) (fun c_125 => ?_)
        · replace h := ite_t c_125 h
          refine lv_iconst (v := (0 : Int32)) hx hb dX5_readSwearerNext_132 (by decide) ?_
          obtain ⟨rfl, rfl⟩ := some_pair h
          exact k_zret S hr hlocks hP hS rfl (Or.inl rfl) dX5_readSwearerNext_133
        · replace h := ite_f c_125 h
          refine lv_iconst (v := (1 : Int32)) hx hb dX5_readSwearerNext_128 (by decide) ?_
          refine lv_goto (tgt := 133) hx hb dX5_readSwearerNext_129 (by decide) ?_
          obtain ⟨rfl, rfl⟩ := some_pair h
          exact k_zret S hr hlocks hP hS rfl (Or.inr rfl) dX5_readSwearerNext_133
      · replace h := ite_t c_75 h
        refine lv_iconst (v := (0 : Int32)) hx hb dX5_readSwearerNext_78 (by decide) ?_
        obtain ⟨rfl, rfl⟩ := some_pair h
        exact k_zret S hr hlocks hP hS rfl (Or.inl rfl) dX5_readSwearerNext_79
def f_X5_readOathNext (σ : SX) (x1 : Int32) : Option (Int32 × SX) := ob2 (f_X5_digit σ x1 ((gF σ 0 18) - (1 : Int32))) (fun r_20 s_20 => oin ((3 : Int32) * (gF σ 0 19)) 18 (oin ((3 : Int32) * (gF σ 0 19)) 18 (if (gR (sR s_20 12 (upd (gR s_20 12) ((3 : Int32) * (gF σ 0 19)).toNatClampNeg r_20)) 12 ((3 : Int32) * (gF σ 0 19)).toNatClampNeg) = (-9 : Int32) then (some ((0 : Int32), sR s_20 12 (upd (gR s_20 12) ((3 : Int32) * (gF σ 0 19)).toNatClampNeg r_20))) else (if x1 ≤ (gF (sR s_20 12 (upd (gR s_20 12) ((3 : Int32) * (gF σ 0 19)).toNatClampNeg r_20)) 0 16) then (ob2 (f_X5_digit (sR s_20 12 (upd (gR s_20 12) ((3 : Int32) * (gF σ 0 19)).toNatClampNeg r_20)) x1 ((gF (sR s_20 12 (upd (gR s_20 12) ((3 : Int32) * (gF σ 0 19)).toNatClampNeg r_20)) 0 18) - (1 : Int32))) (fun r_83 s_83 => oin (((3 : Int32) * (gF σ 0 19)) + (1 : Int32)) 18 (oin (((3 : Int32) * (gF σ 0 19)) + (1 : Int32)) 18 (if (gR (sR s_83 12 (upd (gR s_83 12) (((3 : Int32) * (gF σ 0 19)) + (1 : Int32)).toNatClampNeg r_83)) 12 (((3 : Int32) * (gF σ 0 19)) + (1 : Int32)).toNatClampNeg) = (-9 : Int32) then (some ((0 : Int32), sR s_83 12 (upd (gR s_83 12) (((3 : Int32) * (gF σ 0 19)) + (1 : Int32)).toNatClampNeg r_83))) else (ob2 (f_X5_digit (sR s_83 12 (upd (gR s_83 12) (((3 : Int32) * (gF σ 0 19)) + (1 : Int32)).toNatClampNeg r_83)) x1 ((gF (sR s_83 12 (upd (gR s_83 12) (((3 : Int32) * (gF σ 0 19)) + (1 : Int32)).toNatClampNeg r_83)) 0 17) - (1 : Int32))) (fun r_117 s_117 => oin (((3 : Int32) * (gF σ 0 19)) + (2 : Int32)) 18 (oin (((3 : Int32) * (gF σ 0 19)) + (2 : Int32)) 18 (if (gR (sF (sR s_117 12 (upd (gR s_117 12) (((3 : Int32) * (gF σ 0 19)) + (2 : Int32)).toNatClampNeg r_117)) 0 19 ((gF (sR s_117 12 (upd (gR s_117 12) (((3 : Int32) * (gF σ 0 19)) + (2 : Int32)).toNatClampNeg r_117)) 0 19) + (1 : Int32))) 12 (((3 : Int32) * (gF σ 0 19)) + (2 : Int32)).toNatClampNeg) = (-9 : Int32) then (some ((0 : Int32), sF (sR s_117 12 (upd (gR s_117 12) (((3 : Int32) * (gF σ 0 19)) + (2 : Int32)).toNatClampNeg r_117)) 0 19 ((gF (sR s_117 12 (upd (gR s_117 12) (((3 : Int32) * (gF σ 0 19)) + (2 : Int32)).toNatClampNeg r_117)) 0 19) + (1 : Int32)))) else (some ((1 : Int32), sF (sR s_117 12 (upd (gR s_117 12) (((3 : Int32) * (gF σ 0 19)) + (2 : Int32)).toNatClampNeg r_117)) 0 19 ((gF (sR s_117 12 (upd (gR s_117 12) (((3 : Int32) * (gF σ 0 19)) + (2 : Int32)).toNatClampNeg r_117)) 0 19) + (1 : Int32)))))))))))) else (oin (gF (sR s_20 12 (upd (gR s_20 12) ((3 : Int32) * (gF σ 0 19)).toNatClampNeg r_20)) 0 16) 240 (oin ((3 : Int32) * (gF σ 0 19)) 18 (if (gR (sR s_20 12 (upd (gR s_20 12) ((3 : Int32) * (gF σ 0 19)).toNatClampNeg r_20)) 3 (gF (sR s_20 12 (upd (gR s_20 12) ((3 : Int32) * (gF σ 0 19)).toNatClampNeg r_20)) 0 16).toNatClampNeg) = ((48 : Int32) + (gR (sR s_20 12 (upd (gR s_20 12) ((3 : Int32) * (gF σ 0 19)).toNatClampNeg r_20)) 12 ((3 : Int32) * (gF σ 0 19)).toNatClampNeg)) then (some ((0 : Int32), sR s_20 12 (upd (gR s_20 12) ((3 : Int32) * (gF σ 0 19)).toNatClampNeg r_20))) else (ob2 (f_X5_digit (sR s_20 12 (upd (gR s_20 12) ((3 : Int32) * (gF σ 0 19)).toNatClampNeg r_20)) x1 ((gF (sR s_20 12 (upd (gR s_20 12) ((3 : Int32) * (gF σ 0 19)).toNatClampNeg r_20)) 0 18) - (1 : Int32))) (fun r_83 s_83 => oin (((3 : Int32) * (gF σ 0 19)) + (1 : Int32)) 18 (oin (((3 : Int32) * (gF σ 0 19)) + (1 : Int32)) 18 (if (gR (sR s_83 12 (upd (gR s_83 12) (((3 : Int32) * (gF σ 0 19)) + (1 : Int32)).toNatClampNeg r_83)) 12 (((3 : Int32) * (gF σ 0 19)) + (1 : Int32)).toNatClampNeg) = (-9 : Int32) then (some ((0 : Int32), sR s_83 12 (upd (gR s_83 12) (((3 : Int32) * (gF σ 0 19)) + (1 : Int32)).toNatClampNeg r_83))) else (ob2 (f_X5_digit (sR s_83 12 (upd (gR s_83 12) (((3 : Int32) * (gF σ 0 19)) + (1 : Int32)).toNatClampNeg r_83)) x1 ((gF (sR s_83 12 (upd (gR s_83 12) (((3 : Int32) * (gF σ 0 19)) + (1 : Int32)).toNatClampNeg r_83)) 0 17) - (1 : Int32))) (fun r_117 s_117 => oin (((3 : Int32) * (gF σ 0 19)) + (2 : Int32)) 18 (oin (((3 : Int32) * (gF σ 0 19)) + (2 : Int32)) 18 (if (gR (sF (sR s_117 12 (upd (gR s_117 12) (((3 : Int32) * (gF σ 0 19)) + (2 : Int32)).toNatClampNeg r_117)) 0 19 ((gF (sR s_117 12 (upd (gR s_117 12) (((3 : Int32) * (gF σ 0 19)) + (2 : Int32)).toNatClampNeg r_117)) 0 19) + (1 : Int32))) 12 (((3 : Int32) * (gF σ 0 19)) + (2 : Int32)).toNatClampNeg) = (-9 : Int32) then (some ((0 : Int32), sF (sR s_117 12 (upd (gR s_117 12) (((3 : Int32) * (gF σ 0 19)) + (2 : Int32)).toNatClampNeg r_117)) 0 19 ((gF (sR s_117 12 (upd (gR s_117 12) (((3 : Int32) * (gF σ 0 19)) + (2 : Int32)).toNatClampNeg r_117)) 0 19) + (1 : Int32)))) else (some ((1 : Int32), sF (sR s_117 12 (upd (gR s_117 12) (((3 : Int32) * (gF σ 0 19)) + (2 : Int32)).toNatClampNeg r_117)) 0 19 ((gF (sR s_117 12 (upd (gR s_117 12) (((3 : Int32) * (gF σ 0 19)) + (2 : Int32)).toNatClampNeg r_117)) 0 19) + (1 : Int32)))))))))))))))))))
set_option maxRecDepth 100000 in
set_option maxHeartbeats 4000000 in
theorem k_X5_readOathNext (l : Launch) {D : va_G} {A : Nat → Prop} {cI cZ cS : ClassId} {am : Nat → Nat} (hAd : ∀ σ, va_D A (WM cI am σ)) {σ : SX} {x1 : Int32} {σ' : SX} {r : Int32} (h : f_X5_readOathNext σ x1 = some (r, σ')) : Ct (QI D A r (WM cI am (σ'))) l yX5_readOathNext cX5_readOathNext 3 (some .boolean) 2 44 D (tyS cI cZ cS) A [.ref (am 0), .int x1] (WM cI am σ) := by
  refine Ct.of (by decide +kernel) (Nat.le_of_ble_eq_true rfl) ?_
  intro p e s m below meth c ls S hK hr hlocks hP hS hl
  have hx := S.1
  have hb := S.2.1
  have hl : lv_has ls 3 [(0, .ref (am 0)), (1, .int x1)] := hl
  rw [f_X5_readOathNext] at h
  refine lv_iconst (v := (3 : Int32)) hx hb dX5_readOathNext_0 (by decide) ?_
  refine lv_aload_n hx hb dX5_readOathNext_1 rfl (lv_at hl 0 rfl) ?_
  refine gt_X5_110 S hK hP dX5_readOathNext_2 ?_
  refine lv_imul hx hb dX5_readOathNext_5 ?_
  refine lv_istore_n (lv' := [(2, .int ((3 : Int32) * (gF σ 0 19))), (0, .ref (am 0)), (1, .int x1)]) hx hb dX5_readOathNext_6 rfl hl (by decide) rfl (fun ls hl => ?_)
  refine lv_aload_n hx hb dX5_readOathNext_7 rfl (lv_at hl 1 rfl) ?_
  refine gt_X5_47 S hK hP dX5_readOathNext_8 ?_
  refine lv_iload_n hx hb dX5_readOathNext_11 rfl (lv_at hl 0 rfl) ?_
  refine lv_aload_n hx hb dX5_readOathNext_12 rfl (lv_at hl 1 rfl) ?_
  refine lv_iload_n hx hb dX5_readOathNext_13 rfl (lv_at hl 2 rfl) ?_
  refine lv_aload_n hx hb dX5_readOathNext_14 rfl (lv_at hl 1 rfl) ?_
  refine gt_X5_107 S hK hP dX5_readOathNext_15 ?_
  refine lv_iconst (v := (1 : Int32)) hx hb dX5_readOathNext_18 (by decide) ?_
  refine lv_isub hx hb dX5_readOathNext_19 ?_
  obtain ⟨r_20, s_20, e_20, h⟩ := ob2_of h
  refine k_goI (k_runV (As := [.int x1, .int ((gF σ 0 18) - (1 : Int32))]) (rest := [.int ((3 : Int32) * (gF σ 0 19)), .ref (am 12)]) S hK hP (k_X5_digit l hAd e_20) cy_X5_digit wd_760 rfl mO rfl hl.1 rfl (Nat.le_of_ble_eq_true rfl) dX5_readOathNext_20 ⟨Nat.le_of_ble_eq_true rfl, Nat.le_of_ble_eq_true rfl⟩ ⟨Nat.zero_le _, Nat.zero_le _⟩) hS (fun _ h => h) (fun H locs hP hS _ _ => ?_)
  obtain ⟨hi_23, h⟩ := oin_of h
  refine k_iast S hK hP (hAd _) hS mr12 mr12_s hi_23 dX5_readOathNext_23 (fun H locs hP hS => ?_)
  refine lv_aload_n hx hb dX5_readOathNext_24 rfl (lv_at hl 1 rfl) ?_
  refine gt_X5_47 S hK hP dX5_readOathNext_25 ?_
  refine lv_iload_n hx hb dX5_readOathNext_28 rfl (lv_at hl 0 rfl) ?_
  obtain ⟨hi_29, h⟩ := oin_of h
  refine k_iald S hK hP mr12 hi_29 dX5_readOathNext_29 ?_
  refine lv_bipush (v := (-9 : Int32)) hx hb dX5_readOathNext_30 (by decide) ?_
  refine lv_icmp_ne (tgt := 37) hx hb dX5_readOathNext_32 (by decide) (fun c_32 => ?_) (fun c_32 => ?_)
  · replace h := ite_f c_32 h
    refine lv_aload_n hx hb dX5_readOathNext_37 rfl (lv_at hl 1 rfl) ?_
    refine gt_X5_80 S hK hP dX5_readOathNext_38 ?_
    refine lv_iload_n hx hb dX5_readOathNext_41 rfl (lv_at hl 2 rfl) ?_
    refine lv_icmp_ge (tgt := 68) hx hb dX5_readOathNext_42 (by decide) (fun c_42 => ?_) (fun c_42 => ?_)
    · replace h := ite_t c_42 h
      refine lv_aload_n hx hb dX5_readOathNext_68 rfl (lv_at hl 1 rfl) ?_
      refine gt_X5_47 S hK hP dX5_readOathNext_69 ?_
      refine lv_iload_n hx hb dX5_readOathNext_72 rfl (lv_at hl 0 rfl) ?_
      refine lv_iconst (v := (1 : Int32)) hx hb dX5_readOathNext_73 (by decide) ?_
      refine lv_iadd hx hb dX5_readOathNext_74 ?_
      refine lv_aload_n hx hb dX5_readOathNext_75 rfl (lv_at hl 1 rfl) ?_
      refine lv_iload_n hx hb dX5_readOathNext_76 rfl (lv_at hl 2 rfl) ?_
      refine lv_aload_n hx hb dX5_readOathNext_77 rfl (lv_at hl 1 rfl) ?_
      refine gt_X5_107 S hK hP dX5_readOathNext_78 ?_
      refine lv_iconst (v := (1 : Int32)) hx hb dX5_readOathNext_81 (by decide) ?_
      refine lv_isub hx hb dX5_readOathNext_82 ?_
      obtain ⟨r_83, s_83, e_83, h⟩ := ob2_of h
      refine k_goI (k_runV (As := [.int x1, .int ((gF (sR s_20 12 (upd (gR s_20 12) ((3 : Int32) * (gF σ 0 19)).toNatClampNeg r_20)) 0 18) - (1 : Int32))]) (rest := [.int (((3 : Int32) * (gF σ 0 19)) + (1 : Int32)), .ref (am 12)]) S hK hP (k_X5_digit l hAd e_83) cy_X5_digit wd_760 rfl mO rfl hl.1 rfl (Nat.le_of_ble_eq_true rfl) dX5_readOathNext_83 ⟨Nat.le_of_ble_eq_true rfl, Nat.le_of_ble_eq_true rfl⟩ ⟨Nat.zero_le _, Nat.zero_le _⟩) hS (fun _ h => h) (fun H locs hP hS _ _ => ?_)
      obtain ⟨hi_86, h⟩ := oin_of h
      refine k_iast S hK hP (hAd _) hS mr12 mr12_s hi_86 dX5_readOathNext_86 (fun H locs hP hS => ?_)
      refine lv_aload_n hx hb dX5_readOathNext_87 rfl (lv_at hl 1 rfl) ?_
      refine gt_X5_47 S hK hP dX5_readOathNext_88 ?_
      refine lv_iload_n hx hb dX5_readOathNext_91 rfl (lv_at hl 0 rfl) ?_
      refine lv_iconst (v := (1 : Int32)) hx hb dX5_readOathNext_92 (by decide) ?_
      refine lv_iadd hx hb dX5_readOathNext_93 ?_
      obtain ⟨hi_94, h⟩ := oin_of h
      refine k_iald S hK hP mr12 hi_94 dX5_readOathNext_94 ?_
      refine lv_bipush (v := (-9 : Int32)) hx hb dX5_readOathNext_95 (by decide) ?_
      refine lv_icmp_ne (tgt := 102) hx hb dX5_readOathNext_97 (by decide) (fun c_97 => ?_) (fun c_97 => ?_)
      · replace h := ite_f c_97 h
        refine lv_aload_n hx hb dX5_readOathNext_102 rfl (lv_at hl 1 rfl) ?_
        refine gt_X5_47 S hK hP dX5_readOathNext_103 ?_
        refine lv_iload_n hx hb dX5_readOathNext_106 rfl (lv_at hl 0 rfl) ?_
        refine lv_iconst (v := (2 : Int32)) hx hb dX5_readOathNext_107 (by decide) ?_
        refine lv_iadd hx hb dX5_readOathNext_108 ?_
        refine lv_aload_n hx hb dX5_readOathNext_109 rfl (lv_at hl 1 rfl) ?_
        refine lv_iload_n hx hb dX5_readOathNext_110 rfl (lv_at hl 2 rfl) ?_
        refine lv_aload_n hx hb dX5_readOathNext_111 rfl (lv_at hl 1 rfl) ?_
        refine gt_X5_104 S hK hP dX5_readOathNext_112 ?_
        refine lv_iconst (v := (1 : Int32)) hx hb dX5_readOathNext_115 (by decide) ?_
        refine lv_isub hx hb dX5_readOathNext_116 ?_
        obtain ⟨r_117, s_117, e_117, h⟩ := ob2_of h
        refine k_goI (k_runV (As := [.int x1, .int ((gF (sR s_83 12 (upd (gR s_83 12) (((3 : Int32) * (gF σ 0 19)) + (1 : Int32)).toNatClampNeg r_83)) 0 17) - (1 : Int32))]) (rest := [.int (((3 : Int32) * (gF σ 0 19)) + (2 : Int32)), .ref (am 12)]) S hK hP (k_X5_digit l hAd e_117) cy_X5_digit wd_760 rfl mO rfl hl.1 rfl (Nat.le_of_ble_eq_true rfl) dX5_readOathNext_117 ⟨Nat.le_of_ble_eq_true rfl, Nat.le_of_ble_eq_true rfl⟩ ⟨Nat.zero_le _, Nat.zero_le _⟩) hS (fun _ h => h) (fun H locs hP hS _ _ => ?_)
        obtain ⟨hi_120, h⟩ := oin_of h
        refine k_iast S hK hP (hAd _) hS mr12 mr12_s hi_120 dX5_readOathNext_120 (fun H locs hP hS => ?_)
        refine lv_aload_n hx hb dX5_readOathNext_121 rfl (lv_at hl 1 rfl) ?_
        refine lv_dup hx hb dX5_readOathNext_122 rfl ?_
        refine gt_X5_110 S hK hP dX5_readOathNext_123 ?_
        refine lv_iconst (v := (1 : Int32)) hx hb dX5_readOathNext_126 (by decide) ?_
        refine lv_iadd hx hb dX5_readOathNext_127 ?_
        refine pt_X5_110 S hK hP (hAd _) hS dX5_readOathNext_128 (fun H locs hP hS => ?_)
        refine lv_aload_n hx hb dX5_readOathNext_131 rfl (lv_at hl 1 rfl) ?_
        refine gt_X5_47 S hK hP dX5_readOathNext_132 ?_
        refine lv_iload_n hx hb dX5_readOathNext_135 rfl (lv_at hl 0 rfl) ?_
        refine lv_iconst (v := (2 : Int32)) hx hb dX5_readOathNext_136 (by decide) ?_
        refine lv_iadd hx hb dX5_readOathNext_137 ?_
        obtain ⟨hi_138, h⟩ := oin_of h
        refine k_iald S hK hP mr12 hi_138 dX5_readOathNext_138 ?_
        refine lv_bipush (v := (-9 : Int32)) hx hb dX5_readOathNext_139 (by decide) ?_
        refine lv_icmp_eq (tgt := 148) hx hb dX5_readOathNext_141 (by decide) (fun c_141 => ?_) (fun c_141 => ?_)
        · replace h := ite_t c_141 h
          refine lv_iconst (v := (0 : Int32)) hx hb dX5_readOathNext_148 (by decide) ?_
          obtain ⟨rfl, rfl⟩ := some_pair h
          exact k_zret S hr hlocks hP hS rfl (Or.inl rfl) dX5_readOathNext_149
        · replace h := ite_f c_141 h
          refine lv_iconst (v := (1 : Int32)) hx hb dX5_readOathNext_144 (by decide) ?_
          refine lv_goto (tgt := 149) hx hb dX5_readOathNext_145 (by decide) ?_
          obtain ⟨rfl, rfl⟩ := some_pair h
          exact k_zret S hr hlocks hP hS rfl (Or.inr rfl) dX5_readOathNext_149
      · replace h := ite_t c_97 h
        refine lv_iconst (v := (0 : Int32)) hx hb dX5_readOathNext_100 (by decide) ?_
        obtain ⟨rfl, rfl⟩ := some_pair h
        exact k_zret S hr hlocks hP hS rfl (Or.inl rfl) dX5_readOathNext_101
    · replace h := ite_f c_42 h
      refine lv_aload_n hx hb dX5_readOathNext_45 rfl (lv_at hl 1 rfl) ?_
      refine gt_X5_16 S hK hP dX5_readOathNext_46 ?_
      refine lv_aload_n hx hb dX5_readOathNext_49 rfl (lv_at hl 1 rfl) ?_
      refine gt_X5_80 S hK hP dX5_readOathNext_50 ?_
      obtain ⟨hi_53, h⟩ := oin_of h
      refine k_iald S hK hP mr3 hi_53 dX5_readOathNext_53 ?_
      refine lv_bipush (v := (48 : Int32)) hx hb dX5_readOathNext_54 (by decide) ?_
      refine lv_aload_n hx hb dX5_readOathNext_56 rfl (lv_at hl 1 rfl) ?_
      refine gt_X5_47 S hK hP dX5_readOathNext_57 ?_
      refine lv_iload_n hx hb dX5_readOathNext_60 rfl (lv_at hl 0 rfl) ?_
      obtain ⟨hi_61, h⟩ := oin_of h
      refine k_iald S hK hP mr12 hi_61 dX5_readOathNext_61 ?_
      refine lv_iadd hx hb dX5_readOathNext_62 ?_
      refine lv_icmp_ne (tgt := 68) hx hb dX5_readOathNext_63 (by decide) (fun c_63 => ?_) (fun c_63 => ?_)
      · replace h := ite_f c_63 h
        refine lv_aload_n hx hb dX5_readOathNext_68 rfl (lv_at hl 1 rfl) ?_
        refine gt_X5_47 S hK hP dX5_readOathNext_69 ?_
        refine lv_iload_n hx hb dX5_readOathNext_72 rfl (lv_at hl 0 rfl) ?_
        refine lv_iconst (v := (1 : Int32)) hx hb dX5_readOathNext_73 (by decide) ?_
        refine lv_iadd hx hb dX5_readOathNext_74 ?_
        refine lv_aload_n hx hb dX5_readOathNext_75 rfl (lv_at hl 1 rfl) ?_
        refine lv_iload_n hx hb dX5_readOathNext_76 rfl (lv_at hl 2 rfl) ?_
        refine lv_aload_n hx hb dX5_readOathNext_77 rfl (lv_at hl 1 rfl) ?_
        refine gt_X5_107 S hK hP dX5_readOathNext_78 ?_
        refine lv_iconst (v := (1 : Int32)) hx hb dX5_readOathNext_81 (by decide) ?_
        refine lv_isub hx hb dX5_readOathNext_82 ?_
        obtain ⟨r_83, s_83, e_83, h⟩ := ob2_of h
        refine k_goI (k_runV (As := [.int x1, .int ((gF (sR s_20 12 (upd (gR s_20 12) ((3 : Int32) * (gF σ 0 19)).toNatClampNeg r_20)) 0 18) - (1 : Int32))]) (rest := [.int (((3 : Int32) * (gF σ 0 19)) + (1 : Int32)), .ref (am 12)]) S hK hP (k_X5_digit l hAd e_83) cy_X5_digit wd_760 rfl mO rfl hl.1 rfl (Nat.le_of_ble_eq_true rfl) dX5_readOathNext_83 ⟨Nat.le_of_ble_eq_true rfl, Nat.le_of_ble_eq_true rfl⟩ ⟨Nat.zero_le _, Nat.zero_le _⟩) hS (fun _ h => h) (fun H locs hP hS _ _ => ?_)
        obtain ⟨hi_86, h⟩ := oin_of h
        refine k_iast S hK hP (hAd _) hS mr12 mr12_s hi_86 dX5_readOathNext_86 (fun H locs hP hS => ?_)
        refine lv_aload_n hx hb dX5_readOathNext_87 rfl (lv_at hl 1 rfl) ?_
        refine gt_X5_47 S hK hP dX5_readOathNext_88 ?_
        refine lv_iload_n hx hb dX5_readOathNext_91 rfl (lv_at hl 0 rfl) ?_
        refine lv_iconst (v := (1 : Int32)) hx hb dX5_readOathNext_92 (by decide) ?_
        refine lv_iadd hx hb dX5_readOathNext_93 ?_
        obtain ⟨hi_94, h⟩ := oin_of h
        refine k_iald S hK hP mr12 hi_94 dX5_readOathNext_94 ?_
        refine lv_bipush (v := (-9 : Int32)) hx hb dX5_readOathNext_95 (by decide) ?_
        refine lv_icmp_ne (tgt := 102) hx hb dX5_readOathNext_97 (by decide) (fun c_97 => ?_) (fun c_97 => ?_)
        · replace h := ite_f c_97 h
          refine lv_aload_n hx hb dX5_readOathNext_102 rfl (lv_at hl 1 rfl) ?_
          refine gt_X5_47 S hK hP dX5_readOathNext_103 ?_
          refine lv_iload_n hx hb dX5_readOathNext_106 rfl (lv_at hl 0 rfl) ?_
          refine lv_iconst (v := (2 : Int32)) hx hb dX5_readOathNext_107 (by decide) ?_
          refine lv_iadd hx hb dX5_readOathNext_108 ?_
          refine lv_aload_n hx hb dX5_readOathNext_109 rfl (lv_at hl 1 rfl) ?_
          refine lv_iload_n hx hb dX5_readOathNext_110 rfl (lv_at hl 2 rfl) ?_
          refine lv_aload_n hx hb dX5_readOathNext_111 rfl (lv_at hl 1 rfl) ?_
          refine gt_X5_104 S hK hP dX5_readOathNext_112 ?_
          refine lv_iconst (v := (1 : Int32)) hx hb dX5_readOathNext_115 (by decide) ?_
          refine lv_isub hx hb dX5_readOathNext_116 ?_
          obtain ⟨r_117, s_117, e_117, h⟩ := ob2_of h
          refine k_goI (k_runV (As := [.int x1, .int ((gF (sR s_83 12 (upd (gR s_83 12) (((3 : Int32) * (gF σ 0 19)) + (1 : Int32)).toNatClampNeg r_83)) 0 17) - (1 : Int32))]) (rest := [.int (((3 : Int32) * (gF σ 0 19)) + (2 : Int32)), .ref (am 12)]) S hK hP (k_X5_digit l hAd e_117) cy_X5_digit wd_760 rfl mO rfl hl.1 rfl (Nat.le_of_ble_eq_true rfl) dX5_readOathNext_117 ⟨Nat.le_of_ble_eq_true rfl, Nat.le_of_ble_eq_true rfl⟩ ⟨Nat.zero_le _, Nat.zero_le _⟩) hS (fun _ h => h) (fun H locs hP hS _ _ => ?_)
          obtain ⟨hi_120, h⟩ := oin_of h
          refine k_iast S hK hP (hAd _) hS mr12 mr12_s hi_120 dX5_readOathNext_120 (fun H locs hP hS => ?_)
          refine lv_aload_n hx hb dX5_readOathNext_121 rfl (lv_at hl 1 rfl) ?_
          refine lv_dup hx hb dX5_readOathNext_122 rfl ?_
          refine gt_X5_110 S hK hP dX5_readOathNext_123 ?_
          refine lv_iconst (v := (1 : Int32)) hx hb dX5_readOathNext_126 (by decide) ?_
          refine lv_iadd hx hb dX5_readOathNext_127 ?_
          refine pt_X5_110 S hK hP (hAd _) hS dX5_readOathNext_128 (fun H locs hP hS => ?_)
          refine lv_aload_n hx hb dX5_readOathNext_131 rfl (lv_at hl 1 rfl) ?_
          refine gt_X5_47 S hK hP dX5_readOathNext_132 ?_
          refine lv_iload_n hx hb dX5_readOathNext_135 rfl (lv_at hl 0 rfl) ?_
          refine lv_iconst (v := (2 : Int32)) hx hb dX5_readOathNext_136 (by decide) ?_
          refine lv_iadd hx hb dX5_readOathNext_137 ?_
          obtain ⟨hi_138, h⟩ := oin_of h
          refine k_iald S hK hP mr12 hi_138 dX5_readOathNext_138 ?_
          refine lv_bipush (v := (-9 : Int32)) hx hb dX5_readOathNext_139 (by decide) ?_
          refine lv_icmp_eq (tgt := 148) hx hb dX5_readOathNext_141 (by decide) (fun c_141 => ?_) (fun c_141 => ?_)
          · replace h := ite_t c_141 h
            refine lv_iconst (v := (0 : Int32)) hx hb dX5_readOathNext_148 (by decide) ?_
            obtain ⟨rfl, rfl⟩ := some_pair h
            exact k_zret S hr hlocks hP hS rfl (Or.inl rfl) dX5_readOathNext_149
          · replace h := ite_f c_141 h
            refine lv_iconst (v := (1 : Int32)) hx hb dX5_readOathNext_144 (by decide) ?_
            refine lv_goto (tgt := 149) hx hb dX5_readOathNext_145 (by decide) ?_
            obtain ⟨rfl, rfl⟩ := some_pair h
            exact k_zret S hr hlocks hP hS rfl (Or.inr rfl) dX5_readOathNext_149
        · replace h := ite_t c_97 h
          refine lv_iconst (v := (0 : Int32)) hx hb dX5_readOathNext_100 (by decide) ?_
          obtain ⟨rfl, rfl⟩ := some_pair h
          exact k_zret S hr hlocks hP hS rfl (Or.inl rfl) dX5_readOathNext_101
      · replace h := ite_t c_63 h
        refine lv_iconst (v := (0 : Int32)) hx hb dX5_readOathNext_66 (by decide) ?_
        obtain ⟨rfl, rfl⟩ := some_pair h
        exact k_zret S hr hlocks hP hS rfl (Or.inl rfl) dX5_readOathNext_67
  · replace h := ite_t c_32 h
    refine lv_iconst (v := (0 : Int32)) hx hb dX5_readOathNext_35 (by decide) ?_
    obtain ⟨rfl, rfl⟩ := some_pair h
    exact k_zret S hr hlocks hP hS rfl (Or.inl rfl) dX5_readOathNext_36
def f_X5_readDay_L152 : Nat → SX → Int32 → Int32 → Option (Int32 × SX)
  | 0, _, _, _ => none
  | n + 1, σ, y1, y2 => if (6 : Int32) ≤ (gF σ 0 19) then (if (gF σ 0 16) = y1 then (some ((1 : Int32), σ)) else (some ((0 : Int32), σ))) else (if y1 ≤ (gF σ 0 16) then (if (gF σ 0 16) = y1 then (some ((1 : Int32), σ)) else (some ((0 : Int32), σ))) else (ob2 (f_X5_isSign σ y1 (44 : Int32)) (fun r_173 s_173 => if r_173 = 0 then (some ((0 : Int32), s_173)) else (ob2 (f_X5_readOathNext s_173 y1) (fun r_181 s_181 => if r_181 = 0 then (some ((0 : Int32), s_181)) else (f_X5_readDay_L152 n s_181 y1 y2))))))
def f_X5_readDay_L95 : Nat → SX → Int32 → Int32 → Option (Int32 × SX)
  | 0, _, _, _ => none
  | n + 1, σ, y1, y2 => if (gF σ 0 18) = 0 then (ob2 (f_X5_isSign σ y1 (59 : Int32)) (fun r_136 s_136 => if r_136 = 0 then (some ((0 : Int32), s_136)) else (ob2 (f_X5_readSwearerNext s_136 y1) (fun r_144 s_144 => if r_144 = 0 then (some ((0 : Int32), s_144)) else (f_X5_readDay_L95 n s_144 y1 y2))))) else (if (4 : Int32) ≤ (gF σ 0 18) then (f_X5_readDay_L152 100 σ y1 y2) else (if y1 ≤ (gF σ 0 16) then (f_X5_readDay_L152 100 σ y1 y2) else (oin (gF σ 0 16) 240 (if (gR σ 3 (gF σ 0 16).toNatClampNeg) = (59 : Int32) then (ob2 (f_X5_isSign σ y1 (59 : Int32)) (fun r_136 s_136 => if r_136 = 0 then (some ((0 : Int32), s_136)) else (ob2 (f_X5_readSwearerNext s_136 y1) (fun r_144 s_144 => if r_144 = 0 then (some ((0 : Int32), s_144)) else (f_X5_readDay_L95 n s_144 y1 y2))))) else (f_X5_readDay_L152 100 σ y1 y2)))))
def f_X5_readDay_L35 : Nat → SX → Int32 → Int32 → Option (Int32 × SX)
  | 0, _, _, _ => none
  | n + 1, σ, y1, y2 => if y2 = (-9 : Int32) then (if (gF σ 0 17) = 0 then (some ((0 : Int32), σ)) else (f_X5_readDay_L95 100 σ y1 y2)) else (oin (gF σ 0 17) 6 (if (6 : Int32) ≤ (gF (sF (sR σ 10 (upd (gR σ 10) (gF σ 0 17).toNatClampNeg y2)) 0 17 ((gF (sR σ 10 (upd (gR σ 10) (gF σ 0 17).toNatClampNeg y2)) 0 17) + (1 : Int32))) 0 17) then (f_X5_readDay_L35 n (sF (sR σ 10 (upd (gR σ 10) (gF σ 0 17).toNatClampNeg y2)) 0 17 ((gF (sR σ 10 (upd (gR σ 10) (gF σ 0 17).toNatClampNeg y2)) 0 17) + (1 : Int32))) y1 (-9 : Int32)) else (ob2 (f_X5_digit (sF (sR σ 10 (upd (gR σ 10) (gF σ 0 17).toNatClampNeg y2)) 0 17 ((gF (sR σ 10 (upd (gR σ 10) (gF σ 0 17).toNatClampNeg y2)) 0 17) + (1 : Int32))) y1 (9 : Int32)) (fun r_74 s_74 => f_X5_readDay_L35 n s_74 y1 r_74))))
def f_X5_readDay (σ : SX) (x1 : Int32) : Option (Int32 × SX) := ob2 (f_X5_isSign (sF (sF (sF σ 0 17 (0 : Int32)) 0 18 (0 : Int32)) 0 19 (0 : Int32)) x1 (111 : Int32)) (fun r_19 s_19 => if r_19 = 0 then (some ((0 : Int32), s_19)) else (ob2 (f_X5_digit s_19 x1 (9 : Int32)) (fun r_31 s_31 => f_X5_readDay_L35 100 s_31 x1 r_31)))
set_option maxRecDepth 100000 in
set_option maxHeartbeats 4000000 in
theorem k_X5_readDay (l : Launch) {D : va_G} {A : Nat → Prop} {cI cZ cS : ClassId} {am : Nat → Nat} (hAd : ∀ σ, va_D A (WM cI am σ)) {σ : SX} {x1 : Int32} {σ' : SX} {r : Int32} (h : f_X5_readDay σ x1 = some (r, σ')) : Ct (QI D A r (WM cI am (σ'))) l yX5_readDay cX5_readDay 3 (some .boolean) 3 67 D (tyS cI cZ cS) A [.ref (am 0), .int x1] (WM cI am σ) := by
  refine Ct.of (by decide +kernel) (Nat.le_of_ble_eq_true rfl) ?_
  intro p e s m below meth c ls S hK hr hlocks hP hS hl
  have hx := S.1
  have hb := S.2.1
  have hl : lv_has ls 3 [(0, .ref (am 0)), (1, .int x1)] := hl
  have loop152 : ∀ (n : Nat) (σ : SX) (y1 : Int32) (y2 : Int32) (H : Heap) (locs : List Loc) (ls : Array Slot), f_X5_readDay_L152 n σ y1 y2 = some (r, σ') → va_P D vwCl (WM cI am σ) H → va_S A s.heap H locs → lv_has ls 3 [(0, .ref (am 0)), (1, .int y1), (2, .int y2)] → W p l e (rmO 3 67) s m [.ref (am 0), .int x1].toArray below meth c H locs 0 0 (MQ below (QI D A r (WM cI am (σ'))) [.ref (am 0), .int x1].toArray s 0 0 A) (F0 m 152 ls []) := by
    intro n
    induction n with
    | zero => intro σ y1 y2 H locs ls h; cases h
    | succ n ih =>
      intro σ y1 y2 H locs ls h hP hS hl
      rw [f_X5_readDay_L152] at h
      refine lv_aload_n hx hb dX5_readDay_152 rfl (lv_at hl 0 rfl) ?_
      refine gt_X5_110 S hK hP dX5_readDay_153 ?_
      refine lv_bipush (v := (6 : Int32)) hx hb dX5_readDay_156 (by decide) ?_
      refine lv_icmp_ge (tgt := 189) hx hb dX5_readDay_158 (by decide) (fun c_158 => ?_) (fun c_158 => ?_)
      · replace h := ite_t c_158 h
        refine lv_aload_n hx hb dX5_readDay_189 rfl (lv_at hl 0 rfl) ?_
        refine gt_X5_80 S hK hP dX5_readDay_190 ?_
        refine lv_iload_n hx hb dX5_readDay_193 rfl (lv_at hl 1 rfl) ?_
        refine lv_icmp_ne (tgt := 201) hx hb dX5_readDay_194 (by decide) (fun c_194 => ?_) (fun c_194 => ?_)
        · replace h := ite_f c_194 h
          refine lv_iconst (v := (0 : Int32)) hx hb dX5_readDay_201 (by decide) ?_
          obtain ⟨rfl, rfl⟩ := some_pair h
          exact k_zret S hr hlocks hP hS rfl (Or.inl rfl) dX5_readDay_202
        · replace h := ite_t c_194 h
          refine lv_iconst (v := (1 : Int32)) hx hb dX5_readDay_197 (by decide) ?_
          refine lv_goto (tgt := 202) hx hb dX5_readDay_198 (by decide) ?_
          obtain ⟨rfl, rfl⟩ := some_pair h
          exact k_zret S hr hlocks hP hS rfl (Or.inr rfl) dX5_readDay_202
      · replace h := ite_f c_158 h
        refine lv_aload_n hx hb dX5_readDay_161 rfl (lv_at hl 0 rfl) ?_
        refine gt_X5_80 S hK hP dX5_readDay_162 ?_
        refine lv_iload_n hx hb dX5_readDay_165 rfl (lv_at hl 1 rfl) ?_
        refine lv_icmp_ge (tgt := 189) hx hb dX5_readDay_166 (by decide) (fun c_166 => ?_) (fun c_166 => ?_)
        · replace h := ite_t c_166 h
          refine lv_aload_n hx hb dX5_readDay_189 rfl (lv_at hl 0 rfl) ?_
          refine gt_X5_80 S hK hP dX5_readDay_190 ?_
          refine lv_iload_n hx hb dX5_readDay_193 rfl (lv_at hl 1 rfl) ?_
          refine lv_icmp_ne (tgt := 201) hx hb dX5_readDay_194 (by decide) (fun c_194 => ?_) (fun c_194 => ?_)
          · replace h := ite_f c_194 h
            refine lv_iconst (v := (0 : Int32)) hx hb dX5_readDay_201 (by decide) ?_
            obtain ⟨rfl, rfl⟩ := some_pair h
            exact k_zret S hr hlocks hP hS rfl (Or.inl rfl) dX5_readDay_202
          · replace h := ite_t c_194 h
            refine lv_iconst (v := (1 : Int32)) hx hb dX5_readDay_197 (by decide) ?_
            refine lv_goto (tgt := 202) hx hb dX5_readDay_198 (by decide) ?_
            obtain ⟨rfl, rfl⟩ := some_pair h
            exact k_zret S hr hlocks hP hS rfl (Or.inr rfl) dX5_readDay_202
        · replace h := ite_f c_166 h
          refine lv_aload_n hx hb dX5_readDay_169 rfl (lv_at hl 0 rfl) ?_
          refine lv_iload_n hx hb dX5_readDay_170 rfl (lv_at hl 1 rfl) ?_
          refine lv_bipush (v := (44 : Int32)) hx hb dX5_readDay_171 (by decide) ?_
          obtain ⟨r_173, s_173, e_173, h⟩ := ob2_of h
          refine k_goI (k_runV (As := [.int y1, .int (44 : Int32)]) (rest := []) S hK hP (k_X5_isSign l hAd e_173) cy_X5_isSign wd_756 rfl mO rfl hl.1 rfl (Nat.le_of_ble_eq_true rfl) dX5_readDay_173 ⟨Nat.le_of_ble_eq_true rfl, Nat.le_of_ble_eq_true rfl⟩ ⟨Nat.zero_le _, Nat.zero_le _⟩) hS (fun _ h => h) (fun H locs hP hS _ _ => ?_)
          refine lv_if_eq (tgt := 187) hx hb dX5_readDay_176 (by decide) (fun c_176 => ?_) (fun c_176 => ?_)
          · replace h := ite_t c_176 h
            refine lv_iconst (v := (0 : Int32)) hx hb dX5_readDay_187 (by decide) ?_
            obtain ⟨rfl, rfl⟩ := some_pair h
            exact k_zret S hr hlocks hP hS rfl (Or.inl rfl) dX5_readDay_188
          · replace h := ite_f c_176 h
            refine lv_aload_n hx hb dX5_readDay_179 rfl (lv_at hl 0 rfl) ?_
            refine lv_iload_n hx hb dX5_readDay_180 rfl (lv_at hl 1 rfl) ?_
            obtain ⟨r_181, s_181, e_181, h⟩ := ob2_of h
            refine k_goI (k_runV (As := [.int y1]) (rest := []) S hK hP (k_X5_readOathNext l hAd e_181) cy_X5_readOathNext wd_768 rfl mO rfl hl.1 rfl (Nat.le_of_ble_eq_true rfl) dX5_readDay_181 ⟨Nat.le_of_ble_eq_true rfl, Nat.le_of_ble_eq_true rfl⟩ ⟨Nat.zero_le _, Nat.zero_le _⟩) hS (fun _ h => h) (fun H locs hP hS _ _ => ?_)
            refine lv_if_ne (tgt := 152) hx hb dX5_readDay_184 (by decide) (fun c_184 => ?_) (fun c_184 => ?_)
            · replace h := ite_f c_184 h
              exact ih s_181 y1 y2 _ _ _ h hP hS (lv_sub hl [0, 1, 2] rfl)
            · replace h := ite_t c_184 h
              refine lv_iconst (v := (0 : Int32)) hx hb dX5_readDay_187 (by decide) ?_
              obtain ⟨rfl, rfl⟩ := some_pair h
              exact k_zret S hr hlocks hP hS rfl (Or.inl rfl) dX5_readDay_188
  have loop95 : ∀ (n : Nat) (σ : SX) (y1 : Int32) (y2 : Int32) (H : Heap) (locs : List Loc) (ls : Array Slot), f_X5_readDay_L95 n σ y1 y2 = some (r, σ') → va_P D vwCl (WM cI am σ) H → va_S A s.heap H locs → lv_has ls 3 [(0, .ref (am 0)), (1, .int y1), (2, .int y2)] → W p l e (rmO 3 67) s m [.ref (am 0), .int x1].toArray below meth c H locs 0 0 (MQ below (QI D A r (WM cI am (σ'))) [.ref (am 0), .int x1].toArray s 0 0 A) (F0 m 95 ls []) := by
    intro n
    induction n with
    | zero => intro σ y1 y2 H locs ls h; cases h
    | succ n ih =>
      intro σ y1 y2 H locs ls h hP hS hl
      rw [f_X5_readDay_L95] at h
      refine lv_aload_n hx hb dX5_readDay_95 rfl (lv_at hl 0 rfl) ?_
      refine gt_X5_107 S hK hP dX5_readDay_96 ?_
      refine lv_if_eq (tgt := 132) hx hb dX5_readDay_99 (by decide) (fun c_99 => ?_) (fun c_99 => ?_)
      · replace h := ite_t c_99 h
        refine lv_aload_n hx hb dX5_readDay_132 rfl (lv_at hl 0 rfl) ?_
        refine lv_iload_n hx hb dX5_readDay_133 rfl (lv_at hl 1 rfl) ?_
        refine lv_bipush (v := (59 : Int32)) hx hb dX5_readDay_134 (by decide) ?_
        obtain ⟨r_136, s_136, e_136, h⟩ := ob2_of h
        refine k_goI (k_runV (As := [.int y1, .int (59 : Int32)]) (rest := []) S hK hP (k_X5_isSign l hAd e_136) cy_X5_isSign wd_756 rfl mO rfl hl.1 rfl (Nat.le_of_ble_eq_true rfl) dX5_readDay_136 ⟨Nat.le_of_ble_eq_true rfl, Nat.le_of_ble_eq_true rfl⟩ ⟨Nat.zero_le _, Nat.zero_le _⟩) hS (fun _ h => h) (fun H locs hP hS _ _ => ?_)
        refine lv_if_eq (tgt := 150) hx hb dX5_readDay_139 (by decide) (fun c_139 => ?_) (fun c_139 => ?_)
        · replace h := ite_t c_139 h
          refine lv_iconst (v := (0 : Int32)) hx hb dX5_readDay_150 (by decide) ?_
          obtain ⟨rfl, rfl⟩ := some_pair h
          exact k_zret S hr hlocks hP hS rfl (Or.inl rfl) dX5_readDay_151
        · replace h := ite_f c_139 h
          refine lv_aload_n hx hb dX5_readDay_142 rfl (lv_at hl 0 rfl) ?_
          refine lv_iload_n hx hb dX5_readDay_143 rfl (lv_at hl 1 rfl) ?_
          obtain ⟨r_144, s_144, e_144, h⟩ := ob2_of h
          refine k_goI (k_runV (As := [.int y1]) (rest := []) S hK hP (k_X5_readSwearerNext l hAd e_144) cy_X5_readSwearerNext wd_764 rfl mO rfl hl.1 rfl (Nat.le_of_ble_eq_true rfl) dX5_readDay_144 ⟨Nat.le_of_ble_eq_true rfl, Nat.le_of_ble_eq_true rfl⟩ ⟨Nat.zero_le _, Nat.zero_le _⟩) hS (fun _ h => h) (fun H locs hP hS _ _ => ?_)
          refine lv_if_ne (tgt := 95) hx hb dX5_readDay_147 (by decide) (fun c_147 => ?_) (fun c_147 => ?_)
          · replace h := ite_f c_147 h
            exact ih s_144 y1 y2 _ _ _ h hP hS (lv_sub hl [0, 1, 2] rfl)
          · replace h := ite_t c_147 h
            refine lv_iconst (v := (0 : Int32)) hx hb dX5_readDay_150 (by decide) ?_
            obtain ⟨rfl, rfl⟩ := some_pair h
            exact k_zret S hr hlocks hP hS rfl (Or.inl rfl) dX5_readDay_151
      · replace h := ite_f c_99 h
        refine lv_aload_n hx hb dX5_readDay_102 rfl (lv_at hl 0 rfl) ?_
        refine gt_X5_107 S hK hP dX5_readDay_103 ?_
        refine lv_iconst (v := (4 : Int32)) hx hb dX5_readDay_106 (by decide) ?_
        refine lv_icmp_ge (tgt := 152) hx hb dX5_readDay_107 (by decide) (fun c_107 => ?_) (fun c_107 => ?_)
        · replace h := ite_t c_107 h
          exact loop152 100 σ y1 y2 _ _ _ h hP hS (lv_sub hl [0, 1, 2] rfl)
        · replace h := ite_f c_107 h
          refine lv_aload_n hx hb dX5_readDay_110 rfl (lv_at hl 0 rfl) ?_
          refine gt_X5_80 S hK hP dX5_readDay_111 ?_
          refine lv_iload_n hx hb dX5_readDay_114 rfl (lv_at hl 1 rfl) ?_
          refine lv_icmp_ge (tgt := 152) hx hb dX5_readDay_115 (by decide) (fun c_115 => ?_) (fun c_115 => ?_)
          · replace h := ite_t c_115 h
            exact loop152 100 σ y1 y2 _ _ _ h hP hS (lv_sub hl [0, 1, 2] rfl)
          · replace h := ite_f c_115 h
            refine lv_aload_n hx hb dX5_readDay_118 rfl (lv_at hl 0 rfl) ?_
            refine gt_X5_16 S hK hP dX5_readDay_119 ?_
            refine lv_aload_n hx hb dX5_readDay_122 rfl (lv_at hl 0 rfl) ?_
            refine gt_X5_80 S hK hP dX5_readDay_123 ?_
            obtain ⟨hi_126, h⟩ := oin_of h
            refine k_iald S hK hP mr3 hi_126 dX5_readDay_126 ?_
            refine lv_bipush (v := (59 : Int32)) hx hb dX5_readDay_127 (by decide) ?_
            refine lv_icmp_ne (tgt := 152) hx hb dX5_readDay_129 (by decide) (fun c_129 => ?_) (fun c_129 => ?_)
            · replace h := ite_f c_129 h
              exact loop152 100 σ y1 y2 _ _ _ h hP hS (lv_sub hl [0, 1, 2] rfl)
            · replace h := ite_t c_129 h
              refine lv_aload_n hx hb dX5_readDay_132 rfl (lv_at hl 0 rfl) ?_
              refine lv_iload_n hx hb dX5_readDay_133 rfl (lv_at hl 1 rfl) ?_
              refine lv_bipush (v := (59 : Int32)) hx hb dX5_readDay_134 (by decide) ?_
              obtain ⟨r_136, s_136, e_136, h⟩ := ob2_of h
              refine k_goI (k_runV (As := [.int y1, .int (59 : Int32)]) (rest := []) S hK hP (k_X5_isSign l hAd e_136) cy_X5_isSign wd_756 rfl mO rfl hl.1 rfl (Nat.le_of_ble_eq_true rfl) dX5_readDay_136 ⟨Nat.le_of_ble_eq_true rfl, Nat.le_of_ble_eq_true rfl⟩ ⟨Nat.zero_le _, Nat.zero_le _⟩) hS (fun _ h => h) (fun H locs hP hS _ _ => ?_)
              refine lv_if_eq (tgt := 150) hx hb dX5_readDay_139 (by decide) (fun c_139 => ?_) (fun c_139 => ?_)
              · replace h := ite_t c_139 h
                refine lv_iconst (v := (0 : Int32)) hx hb dX5_readDay_150 (by decide) ?_
                obtain ⟨rfl, rfl⟩ := some_pair h
                exact k_zret S hr hlocks hP hS rfl (Or.inl rfl) dX5_readDay_151
              · replace h := ite_f c_139 h
                refine lv_aload_n hx hb dX5_readDay_142 rfl (lv_at hl 0 rfl) ?_
                refine lv_iload_n hx hb dX5_readDay_143 rfl (lv_at hl 1 rfl) ?_
                obtain ⟨r_144, s_144, e_144, h⟩ := ob2_of h
                refine k_goI (k_runV (As := [.int y1]) (rest := []) S hK hP (k_X5_readSwearerNext l hAd e_144) cy_X5_readSwearerNext wd_764 rfl mO rfl hl.1 rfl (Nat.le_of_ble_eq_true rfl) dX5_readDay_144 ⟨Nat.le_of_ble_eq_true rfl, Nat.le_of_ble_eq_true rfl⟩ ⟨Nat.zero_le _, Nat.zero_le _⟩) hS (fun _ h => h) (fun H locs hP hS _ _ => ?_)
                refine lv_if_ne (tgt := 95) hx hb dX5_readDay_147 (by decide) (fun c_147 => ?_) (fun c_147 => ?_)
                · replace h := ite_f c_147 h
                  exact ih s_144 y1 y2 _ _ _ h hP hS (lv_sub hl [0, 1, 2] rfl)
                · replace h := ite_t c_147 h
                  refine lv_iconst (v := (0 : Int32)) hx hb dX5_readDay_150 (by decide) ?_
                  obtain ⟨rfl, rfl⟩ := some_pair h
                  exact k_zret S hr hlocks hP hS rfl (Or.inl rfl) dX5_readDay_151
  have loop35 : ∀ (n : Nat) (σ : SX) (y1 : Int32) (y2 : Int32) (H : Heap) (locs : List Loc) (ls : Array Slot), f_X5_readDay_L35 n σ y1 y2 = some (r, σ') → va_P D vwCl (WM cI am σ) H → va_S A s.heap H locs → lv_has ls 3 [(0, .ref (am 0)), (1, .int y1), (2, .int y2)] → W p l e (rmO 3 67) s m [.ref (am 0), .int x1].toArray below meth c H locs 0 0 (MQ below (QI D A r (WM cI am (σ'))) [.ref (am 0), .int x1].toArray s 0 0 A) (F0 m 35 ls []) := by
    intro n
    induction n with
    | zero => intro σ y1 y2 H locs ls h; cases h
    | succ n ih =>
      intro σ y1 y2 H locs ls h hP hS hl
      rw [f_X5_readDay_L35] at h
      refine lv_iload_n hx hb dX5_readDay_35 rfl (lv_at hl 2 rfl) ?_
      refine lv_bipush (v := (-9 : Int32)) hx hb dX5_readDay_36 (by decide) ?_
      refine lv_icmp_eq (tgt := 86) hx hb dX5_readDay_38 (by decide) (fun c_38 => ?_) (fun c_38 => ?_)
      · replace h := ite_t c_38 h
        refine lv_aload_n hx hb dX5_readDay_86 rfl (lv_at hl 0 rfl) ?_
        refine gt_X5_104 S hK hP dX5_readDay_87 ?_
        refine lv_if_ne (tgt := 95) hx hb dX5_readDay_90 (by decide) (fun c_90 => ?_) (fun c_90 => ?_)
        · replace h := ite_f c_90 h
          exact loop95 100 σ y1 y2 _ _ _ h hP hS (lv_sub hl [0, 1, 2] rfl)
        · replace h := ite_t c_90 h
          refine lv_iconst (v := (0 : Int32)) hx hb dX5_readDay_93 (by decide) ?_
          obtain ⟨rfl, rfl⟩ := some_pair h
          exact k_zret S hr hlocks hP hS rfl (Or.inl rfl) dX5_readDay_94
      · replace h := ite_f c_38 h
        refine lv_aload_n hx hb dX5_readDay_41 rfl (lv_at hl 0 rfl) ?_
        refine gt_X5_41 S hK hP dX5_readDay_42 ?_
        refine lv_aload_n hx hb dX5_readDay_45 rfl (lv_at hl 0 rfl) ?_
        refine gt_X5_104 S hK hP dX5_readDay_46 ?_
        refine lv_iload_n hx hb dX5_readDay_49 rfl (lv_at hl 2 rfl) ?_
        obtain ⟨hi_50, h⟩ := oin_of h
        refine k_iast S hK hP (hAd _) hS mr10 mr10_s hi_50 dX5_readDay_50 (fun H locs hP hS => ?_)
        refine lv_aload_n hx hb dX5_readDay_51 rfl (lv_at hl 0 rfl) ?_
        refine lv_dup hx hb dX5_readDay_52 rfl ?_
        refine gt_X5_104 S hK hP dX5_readDay_53 ?_
        refine lv_iconst (v := (1 : Int32)) hx hb dX5_readDay_56 (by decide) ?_
        refine lv_iadd hx hb dX5_readDay_57 ?_
        refine pt_X5_104 S hK hP (hAd _) hS dX5_readDay_58 (fun H locs hP hS => ?_)
        refine lv_aload_n hx hb dX5_readDay_61 rfl (lv_at hl 0 rfl) ?_
        refine gt_X5_104 S hK hP dX5_readDay_62 ?_
        refine lv_bipush (v := (6 : Int32)) hx hb dX5_readDay_65 (by decide) ?_
        refine lv_icmp_ge (tgt := 80) hx hb dX5_readDay_67 (by decide) (fun c_67 => ?_) (fun c_67 => ?_)
        · replace h := ite_t c_67 h
          refine lv_bipush (v := (-9 : Int32)) hx hb dX5_readDay_80 (by decide) ?_
          refine lv_istore_n (lv' := [(2, .int (-9 : Int32)), (0, .ref (am 0)), (1, .int y1)]) hx hb dX5_readDay_82 rfl hl (by decide) rfl (fun ls hl => ?_)
          refine lv_goto (tgt := 35) hx hb dX5_readDay_83 (by decide) ?_
          exact ih (sF (sR σ 10 (upd (gR σ 10) (gF σ 0 17).toNatClampNeg y2)) 0 17 ((gF (sR σ 10 (upd (gR σ 10) (gF σ 0 17).toNatClampNeg y2)) 0 17) + (1 : Int32))) y1 (-9 : Int32) _ _ _ h hP hS (lv_sub hl [1, 2, 0] rfl)
        · replace h := ite_f c_67 h
          refine lv_aload_n hx hb dX5_readDay_70 rfl (lv_at hl 0 rfl) ?_
          refine lv_iload_n hx hb dX5_readDay_71 rfl (lv_at hl 1 rfl) ?_
          refine lv_bipush (v := (9 : Int32)) hx hb dX5_readDay_72 (by decide) ?_
          obtain ⟨r_74, s_74, e_74, h⟩ := ob2_of h
          refine k_goI (k_runV (As := [.int y1, .int (9 : Int32)]) (rest := []) S hK hP (k_X5_digit l hAd e_74) cy_X5_digit wd_760 rfl mO rfl hl.1 rfl (Nat.le_of_ble_eq_true rfl) dX5_readDay_74 ⟨Nat.le_of_ble_eq_true rfl, Nat.le_of_ble_eq_true rfl⟩ ⟨Nat.zero_le _, Nat.zero_le _⟩) hS (fun _ h => h) (fun H locs hP hS _ _ => ?_)
          refine lv_goto (tgt := 82) hx hb dX5_readDay_77 (by decide) ?_
          refine lv_istore_n (lv' := [(2, .int r_74), (0, .ref (am 0)), (1, .int y1)]) hx hb dX5_readDay_82 rfl hl (by decide) rfl (fun ls hl => ?_)
          refine lv_goto (tgt := 35) hx hb dX5_readDay_83 (by decide) ?_
          exact ih s_74 y1 r_74 _ _ _ h hP hS (lv_sub hl [1, 2, 0] rfl)
  rw [f_X5_readDay] at h
  refine lv_aload_n hx hb dX5_readDay_0 rfl (lv_at hl 0 rfl) ?_
  refine lv_iconst (v := (0 : Int32)) hx hb dX5_readDay_1 (by decide) ?_
  refine pt_X5_104 S hK hP (hAd _) hS dX5_readDay_2 (fun H locs hP hS => ?_)
  refine lv_aload_n hx hb dX5_readDay_5 rfl (lv_at hl 0 rfl) ?_
  refine lv_iconst (v := (0 : Int32)) hx hb dX5_readDay_6 (by decide) ?_
  refine pt_X5_107 S hK hP (hAd _) hS dX5_readDay_7 (fun H locs hP hS => ?_)
  refine lv_aload_n hx hb dX5_readDay_10 rfl (lv_at hl 0 rfl) ?_
  refine lv_iconst (v := (0 : Int32)) hx hb dX5_readDay_11 (by decide) ?_
  refine pt_X5_110 S hK hP (hAd _) hS dX5_readDay_12 (fun H locs hP hS => ?_)
  refine lv_aload_n hx hb dX5_readDay_15 rfl (lv_at hl 0 rfl) ?_
  refine lv_iload_n hx hb dX5_readDay_16 rfl (lv_at hl 1 rfl) ?_
  refine lv_bipush (v := (111 : Int32)) hx hb dX5_readDay_17 (by decide) ?_
  obtain ⟨r_19, s_19, e_19, h⟩ := ob2_of h
  refine k_goI (k_runV (As := [.int x1, .int (111 : Int32)]) (rest := []) S hK hP (k_X5_isSign l hAd e_19) cy_X5_isSign wd_756 rfl mO rfl hl.1 rfl (Nat.le_of_ble_eq_true rfl) dX5_readDay_19 ⟨Nat.le_of_ble_eq_true rfl, Nat.le_of_ble_eq_true rfl⟩ ⟨Nat.zero_le _, Nat.zero_le _⟩) hS (fun _ h => h) (fun H locs hP hS _ _ => ?_)
  refine lv_if_ne (tgt := 27) hx hb dX5_readDay_22 (by decide) (fun c_22 => ?_) (fun c_22 => ?_)
  · replace h := ite_f c_22 h
    refine lv_aload_n hx hb dX5_readDay_27 rfl (lv_at hl 0 rfl) ?_
    refine lv_iload_n hx hb dX5_readDay_28 rfl (lv_at hl 1 rfl) ?_
    refine lv_bipush (v := (9 : Int32)) hx hb dX5_readDay_29 (by decide) ?_
    obtain ⟨r_31, s_31, e_31, h⟩ := ob2_of h
    refine k_goI (k_runV (As := [.int x1, .int (9 : Int32)]) (rest := []) S hK hP (k_X5_digit l hAd e_31) cy_X5_digit wd_760 rfl mO rfl hl.1 rfl (Nat.le_of_ble_eq_true rfl) dX5_readDay_31 ⟨Nat.le_of_ble_eq_true rfl, Nat.le_of_ble_eq_true rfl⟩ ⟨Nat.zero_le _, Nat.zero_le _⟩) hS (fun _ h => h) (fun H locs hP hS _ _ => ?_)
    refine lv_istore_n (lv' := [(2, .int r_31), (0, .ref (am 0)), (1, .int x1)]) hx hb dX5_readDay_34 rfl hl (by decide) rfl (fun ls hl => ?_)
    exact loop35 100 s_31 x1 r_31 _ _ _ h hP hS (lv_sub hl [1, 2, 0] rfl)
  · replace h := ite_t c_22 h
    refine lv_iconst (v := (0 : Int32)) hx hb dX5_readDay_25 (by decide) ?_
    obtain ⟨rfl, rfl⟩ := some_pair h
    exact k_zret S hr hlocks hP hS rfl (Or.inl rfl) dX5_readDay_26
