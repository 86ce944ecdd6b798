def f_X4_hasBit (x1 : Int32) (x2 : Int32) : Option Int32 := if ((x1 >>> (x2 &&& 31)) &&& (1 : Int32)) = 0 then (some (0 : Int32)) else (some (1 : Int32))
set_option maxRecDepth 100000 in
set_option maxHeartbeats 4000000 in
theorem k_X4_hasBit (l : Launch) {D : va_G} {A : Nat → Prop} {tys : List (ClassId × FieldType)} {w : va_W} {x1 : Int32} {x2 : Int32} {r : Int32} (h : f_X4_hasBit x1 x2 = some r) : Ct (QI D A r (w)) l yX4_hasBit cX4_hasBit 2 (some .boolean) 0 0 D tys A [.int x1, .int x2] (w) := by
  refine Ct.of (by decide +kernel) (Nat.le_of_ble_eq_true rfl) ?_
  intro p e s m below meth c ls S hK hr hlocks hP hS hl
  have hx := S.1
  have hb := S.2.1
  have hl : lv_has ls 2 [(0, .int x1), (1, .int x2)] := hl
  rw [f_X4_hasBit] at h
  refine lv_iload_n hx hb dX4_hasBit_0 rfl (lv_at hl 0 rfl) ?_
  refine lv_iload_n hx hb dX4_hasBit_1 rfl (lv_at hl 1 rfl) ?_
  refine lv_ishr hx hb dX4_hasBit_2 ?_
  refine lv_iconst (v := (1 : Int32)) hx hb dX4_hasBit_3 (by decide) ?_
  refine lv_iand hx hb dX4_hasBit_4 ?_
  refine lv_if_eq (tgt := 12) hx hb dX4_hasBit_5 (by decide) (fun c_5 => ?_) (fun c_5 => ?_)
  · replace h := ite_t c_5 h
    refine lv_iconst (v := (0 : Int32)) hx hb dX4_hasBit_12 (by decide) ?_
    exact k_zret S hr hlocks hP hS (Option.some.inj h) (Or.inl rfl) dX4_hasBit_13
  · replace h := ite_f c_5 h
    refine lv_iconst (v := (1 : Int32)) hx hb dX4_hasBit_8 (by decide) ?_
    refine lv_goto (tgt := 13) hx hb dX4_hasBit_9 (by decide) ?_
    exact k_zret S hr hlocks hP hS (Option.some.inj h) (Or.inr rfl) dX4_hasBit_13
def f_X4_isSheet (x1 : Int32) : Option Int32 := if x1 < 0 then (some (0 : Int32)) else (if (4 : Int32) ≤ x1 then (some (0 : Int32)) else (some (1 : Int32)))
set_option maxRecDepth 100000 in
set_option maxHeartbeats 4000000 in
theorem k_X4_isSheet (l : Launch) {D : va_G} {A : Nat → Prop} {tys : List (ClassId × FieldType)} {w : va_W} {x1 : Int32} {r : Int32} (h : f_X4_isSheet x1 = some r) : Ct (QI D A r (w)) l yX4_isSheet cX4_isSheet 1 (some .boolean) 0 0 D tys A [.int x1] (w) := by
  refine Ct.of (by decide +kernel) (Nat.le_of_ble_eq_true rfl) ?_
  intro p e s m below meth c ls S hK hr hlocks hP hS hl
  have hx := S.1
  have hb := S.2.1
  have hl : lv_has ls 1 [(0, .int x1)] := hl
  rw [f_X4_isSheet] at h
  refine lv_iload_n hx hb dX4_isSheet_0 rfl (lv_at hl 0 rfl) ?_
  refine lv_if_lt (tgt := 13) hx hb dX4_isSheet_1 (by decide) (fun c_1 => ?_) (fun c_1 => ?_)
  · replace h := ite_t c_1 h
    refine lv_iconst (v := (0 : Int32)) hx hb dX4_isSheet_13 (by decide) ?_
    exact k_zret S hr hlocks hP hS (Option.some.inj h) (Or.inl rfl) dX4_isSheet_14
  · replace h := ite_f c_1 h
    refine lv_iload_n hx hb dX4_isSheet_4 rfl (lv_at hl 0 rfl) ?_
    refine lv_iconst (v := (4 : Int32)) hx hb dX4_isSheet_5 (by decide) ?_
    refine lv_icmp_ge (tgt := 13) hx hb dX4_isSheet_6 (by decide) (fun c_6 => ?_) (fun c_6 => ?_)
    · replace h := ite_t c_6 h
      refine lv_iconst (v := (0 : Int32)) hx hb dX4_isSheet_13 (by decide) ?_
      exact k_zret S hr hlocks hP hS (Option.some.inj h) (Or.inl rfl) dX4_isSheet_14
    · replace h := ite_f c_6 h
      refine lv_iconst (v := (1 : Int32)) hx hb dX4_isSheet_9 (by decide) ?_
      refine lv_goto (tgt := 14) hx hb dX4_isSheet_10 (by decide) ?_
      exact k_zret S hr hlocks hP hS (Option.some.inj h) (Or.inr rfl) dX4_isSheet_14
def f_X4_isLane (x1 : Int32) : Option Int32 := if x1 < 0 then (some (0 : Int32)) else (if (2 : Int32) < x1 then (some (0 : Int32)) else (some (1 : Int32)))
set_option maxRecDepth 100000 in
set_option maxHeartbeats 4000000 in
theorem k_X4_isLane (l : Launch) {D : va_G} {A : Nat → Prop} {tys : List (ClassId × FieldType)} {w : va_W} {x1 : Int32} {r : Int32} (h : f_X4_isLane x1 = some r) : Ct (QI D A r (w)) l yX4_isLane cX4_isLane 1 (some .boolean) 0 0 D tys A [.int x1] (w) := by
  refine Ct.of (by decide +kernel) (Nat.le_of_ble_eq_true rfl) ?_
  intro p e s m below meth c ls S hK hr hlocks hP hS hl
  have hx := S.1
  have hb := S.2.1
  have hl : lv_has ls 1 [(0, .int x1)] := hl
  rw [f_X4_isLane] at h
  refine lv_iload_n hx hb dX4_isLane_0 rfl (lv_at hl 0 rfl) ?_
  refine lv_if_lt (tgt := 13) hx hb dX4_isLane_1 (by decide) (fun c_1 => ?_) (fun c_1 => ?_)
  · replace h := ite_t c_1 h
    refine lv_iconst (v := (0 : Int32)) hx hb dX4_isLane_13 (by decide) ?_
    exact k_zret S hr hlocks hP hS (Option.some.inj h) (Or.inl rfl) dX4_isLane_14
  · replace h := ite_f c_1 h
    refine lv_iload_n hx hb dX4_isLane_4 rfl (lv_at hl 0 rfl) ?_
    refine lv_iconst (v := (2 : Int32)) hx hb dX4_isLane_5 (by decide) ?_
    refine lv_icmp_gt (tgt := 13) hx hb dX4_isLane_6 (by decide) (fun c_6 => ?_) (fun c_6 => ?_)
    · replace h := ite_t c_6 h
      refine lv_iconst (v := (0 : Int32)) hx hb dX4_isLane_13 (by decide) ?_
      exact k_zret S hr hlocks hP hS (Option.some.inj h) (Or.inl rfl) dX4_isLane_14
    · replace h := ite_f c_6 h
      refine lv_iconst (v := (1 : Int32)) hx hb dX4_isLane_9 (by decide) ?_
      refine lv_goto (tgt := 14) hx hb dX4_isLane_10 (by decide) ?_
      exact k_zret S hr hlocks hP hS (Option.some.inj h) (Or.inr rfl) dX4_isLane_14
def f_X4_isDigit (x1 : Int32) : Option Int32 := if x1 < 0 then (some (0 : Int32)) else (if (9 : Int32) < x1 then (some (0 : Int32)) else (some (1 : Int32)))
set_option maxRecDepth 100000 in
set_option maxHeartbeats 4000000 in
theorem k_X4_isDigit (l : Launch) {D : va_G} {A : Nat → Prop} {tys : List (ClassId × FieldType)} {w : va_W} {x1 : Int32} {r : Int32} (h : f_X4_isDigit x1 = some r) : Ct (QI D A r (w)) l yX4_isDigit cX4_isDigit 1 (some .boolean) 0 0 D tys A [.int x1] (w) := by
  refine Ct.of (by decide +kernel) (Nat.le_of_ble_eq_true rfl) ?_
  intro p e s m below meth c ls S hK hr hlocks hP hS hl
  have hx := S.1
  have hb := S.2.1
  have hl : lv_has ls 1 [(0, .int x1)] := hl
  rw [f_X4_isDigit] at h
  refine lv_iload_n hx hb dX4_isDigit_0 rfl (lv_at hl 0 rfl) ?_
  refine lv_if_lt (tgt := 14) hx hb dX4_isDigit_1 (by decide) (fun c_1 => ?_) (fun c_1 => ?_)
  · replace h := ite_t c_1 h
    refine lv_iconst (v := (0 : Int32)) hx hb dX4_isDigit_14 (by decide) ?_
    exact k_zret S hr hlocks hP hS (Option.some.inj h) (Or.inl rfl) dX4_isDigit_15
  · replace h := ite_f c_1 h
    refine lv_iload_n hx hb dX4_isDigit_4 rfl (lv_at hl 0 rfl) ?_
    refine lv_bipush (v := (9 : Int32)) hx hb dX4_isDigit_5 (by decide) ?_
    refine lv_icmp_gt (tgt := 14) hx hb dX4_isDigit_7 (by decide) (fun c_7 => ?_) (fun c_7 => ?_)
    · replace h := ite_t c_7 h
      refine lv_iconst (v := (0 : Int32)) hx hb dX4_isDigit_14 (by decide) ?_
      exact k_zret S hr hlocks hP hS (Option.some.inj h) (Or.inl rfl) dX4_isDigit_15
    · replace h := ite_f c_7 h
      refine lv_iconst (v := (1 : Int32)) hx hb dX4_isDigit_10 (by decide) ?_
      refine lv_goto (tgt := 15) hx hb dX4_isDigit_11 (by decide) ?_
      exact k_zret S hr hlocks hP hS (Option.some.inj h) (Or.inr rfl) dX4_isDigit_15
def f_X4_isOfTrial (x1 : Int32) : Option Int32 := if x1 < 0 then (if x1 < (10 : Int32) then (some (0 : Int32)) else (if (14 : Int32) ≤ x1 then (some (0 : Int32)) else (some (1 : Int32)))) else (if x1 ≤ (4 : Int32) then (some (1 : Int32)) else (if x1 < (10 : Int32) then (some (0 : Int32)) else (if (14 : Int32) ≤ x1 then (some (0 : Int32)) else (some (1 : Int32)))))
set_option maxRecDepth 100000 in
set_option maxHeartbeats 4000000 in
theorem k_X4_isOfTrial (l : Launch) {D : va_G} {A : Nat → Prop} {tys : List (ClassId × FieldType)} {w : va_W} {x1 : Int32} {r : Int32} (h : f_X4_isOfTrial x1 = some r) : Ct (QI D A r (w)) l yX4_isOfTrial cX4_isOfTrial 1 (some .boolean) 0 0 D tys A [.int x1] (w) := by
  refine Ct.of (by decide +kernel) (Nat.le_of_ble_eq_true rfl) ?_
  intro p e s m below meth c ls S hK hr hlocks hP hS hl
  have hx := S.1
  have hb := S.2.1
  have hl : lv_has ls 1 [(0, .int x1)] := hl
  rw [f_X4_isOfTrial] at h
  refine lv_iload_n hx hb dX4_isOfTrial_0 rfl (lv_at hl 0 rfl) ?_
  refine lv_if_lt (tgt := 9) hx hb dX4_isOfTrial_1 (by decide) (fun c_1 => ?_) (fun c_1 => ?_)
  · replace h := ite_t c_1 h
    refine lv_iload_n hx hb dX4_isOfTrial_9 rfl (lv_at hl 0 rfl) ?_
    refine lv_bipush (v := (10 : Int32)) hx hb dX4_isOfTrial_10 (by decide) ?_
    refine lv_icmp_lt (tgt := 25) hx hb dX4_isOfTrial_12 (by decide) (fun c_12 => ?_) (fun c_12 => ?_)
    · replace h := ite_t c_12 h
      refine lv_iconst (v := (0 : Int32)) hx hb dX4_isOfTrial_25 (by decide) ?_
      exact k_zret S hr hlocks hP hS (Option.some.inj h) (Or.inl rfl) dX4_isOfTrial_26
    · replace h := ite_f c_12 h
      refine lv_iload_n hx hb dX4_isOfTrial_15 rfl (lv_at hl 0 rfl) ?_
      refine lv_bipush (v := (14 : Int32)) hx hb dX4_isOfTrial_16 (by decide) ?_
      refine lv_icmp_ge (tgt := 25) hx hb dX4_isOfTrial_18 (by decide) (fun c_18 => ?_) (fun c_18 => ?_)
      · replace h := ite_t c_18 h
        refine lv_iconst (v := (0 : Int32)) hx hb dX4_isOfTrial_25 (by decide) ?_
        exact k_zret S hr hlocks hP hS (Option.some.inj h) (Or.inl rfl) dX4_isOfTrial_26
      · replace h := ite_f c_18 h
        refine lv_iconst (v := (1 : Int32)) hx hb dX4_isOfTrial_21 (by decide) ?_
        refine lv_goto (tgt := 26) hx hb dX4_isOfTrial_22 (by decide) ?_
        exact k_zret S hr hlocks hP hS (Option.some.inj h) (Or.inr rfl) dX4_isOfTrial_26
  · replace h := ite_f c_1 h
    refine lv_iload_n hx hb dX4_isOfTrial_4 rfl (lv_at hl 0 rfl) ?_
    refine lv_iconst (v := (4 : Int32)) hx hb dX4_isOfTrial_5 (by decide) ?_
    refine lv_icmp_le (tgt := 21) hx hb dX4_isOfTrial_6 (by decide) (fun c_6 => ?_) (fun c_6 => ?_)
    · replace h := ite_t c_6 h
      refine lv_iconst (v := (1 : Int32)) hx hb dX4_isOfTrial_21 (by decide) ?_
      refine lv_goto (tgt := 26) hx hb dX4_isOfTrial_22 (by decide) ?_
      exact k_zret S hr hlocks hP hS (Option.some.inj h) (Or.inr rfl) dX4_isOfTrial_26
    · replace h := ite_f c_6 h
      refine lv_iload_n hx hb dX4_isOfTrial_9 rfl (lv_at hl 0 rfl) ?_
      refine lv_bipush (v := (10 : Int32)) hx hb dX4_isOfTrial_10 (by decide) ?_
      refine lv_icmp_lt (tgt := 25) hx hb dX4_isOfTrial_12 (by decide) (fun c_12 => ?_) (fun c_12 => ?_)
      · replace h := ite_t c_12 h
        refine lv_iconst (v := (0 : Int32)) hx hb dX4_isOfTrial_25 (by decide) ?_
        exact k_zret S hr hlocks hP hS (Option.some.inj h) (Or.inl rfl) dX4_isOfTrial_26
      · replace h := ite_f c_12 h
        refine lv_iload_n hx hb dX4_isOfTrial_15 rfl (lv_at hl 0 rfl) ?_
        refine lv_bipush (v := (14 : Int32)) hx hb dX4_isOfTrial_16 (by decide) ?_
        refine lv_icmp_ge (tgt := 25) hx hb dX4_isOfTrial_18 (by decide) (fun c_18 => ?_) (fun c_18 => ?_)
        · replace h := ite_t c_18 h
          refine lv_iconst (v := (0 : Int32)) hx hb dX4_isOfTrial_25 (by decide) ?_
          exact k_zret S hr hlocks hP hS (Option.some.inj h) (Or.inl rfl) dX4_isOfTrial_26
        · replace h := ite_f c_18 h
          refine lv_iconst (v := (1 : Int32)) hx hb dX4_isOfTrial_21 (by decide) ?_
          refine lv_goto (tgt := 26) hx hb dX4_isOfTrial_22 (by decide) ?_
          exact k_zret S hr hlocks hP hS (Option.some.inj h) (Or.inr rfl) dX4_isOfTrial_26
def f_X4_isAct (x1 : Int32) (x2 : Int32) : Option Int32 := if x2 < 0 then (some (0 : Int32)) else (if x2 ≤ (17 : Int32) then (if x2 = (10 : Int32) then (if x1 < 0 then (some (0 : Int32)) else (if (5 : Int32) < x1 then (some (0 : Int32)) else (some (1 : Int32)))) else (if x2 = (17 : Int32) then (if x1 < 0 then (some (0 : Int32)) else (if (0 : Int32) < x1 then (some (0 : Int32)) else (some (1 : Int32)))) else (if x1 < 0 then (some (0 : Int32)) else (if (9 : Int32) < x1 then (some (0 : Int32)) else (some (1 : Int32)))))) else (some (0 : Int32)))
set_option maxRecDepth 100000 in
set_option maxHeartbeats 4000000 in
theorem k_X4_isAct (l : Launch) {D : va_G} {A : Nat → Prop} {tys : List (ClassId × FieldType)} {w : va_W} {x1 : Int32} {x2 : Int32} {r : Int32} (h : f_X4_isAct x1 x2 = some r) : Ct (QI D A r (w)) l yX4_isAct cX4_isAct 3 (some .boolean) 0 0 D tys A [.int x1, .int x2] (w) := by
  refine Ct.of (by decide +kernel) (Nat.le_of_ble_eq_true rfl) ?_
  intro p e s m below meth c ls S hK hr hlocks hP hS hl
  have hx := S.1
  have hb := S.2.1
  have hl : lv_has ls 3 [(0, .int x1), (1, .int x2)] := hl
  rw [f_X4_isAct] at h
  refine lv_iload_n hx hb dX4_isAct_0 rfl (lv_at hl 1 rfl) ?_
  refine lv_if_lt (tgt := 10) hx hb dX4_isAct_1 (by decide) (fun c_1 => ?_) (fun c_1 => ?_)
  · replace h := ite_t c_1 h
    refine lv_iconst (v := (0 : Int32)) hx hb dX4_isAct_10 (by decide) ?_
    exact k_zret S hr hlocks hP hS (Option.some.inj h) (Or.inl rfl) dX4_isAct_11
  · replace h := ite_f c_1 h
    refine lv_iload_n hx hb dX4_isAct_4 rfl (lv_at hl 1 rfl) ?_
    refine lv_bipush (v := (17 : Int32)) hx hb dX4_isAct_5 (by decide) ?_
    refine lv_icmp_le (tgt := 12) hx hb dX4_isAct_7 (by decide) (fun c_7 => ?_) (fun c_7 => ?_)
    · replace h := ite_t c_7 h
      refine lv_bipush (v := (9 : Int32)) hx hb dX4_isAct_12 (by decide) ?_
      refine lv_istore_n (lv' := [(2, .int (9 : Int32)), (0, .int x1), (1, .int x2)]) hx hb dX4_isAct_14 rfl hl (by decide) rfl (fun ls hl => ?_)
      refine lv_iload_n hx hb dX4_isAct_15 rfl (lv_at hl 2 rfl) ?_
      refine lv_bipush (v := (10 : Int32)) hx hb dX4_isAct_16 (by decide) ?_
      refine lv_icmp_ne (tgt := 26) hx hb dX4_isAct_18 (by decide) (fun c_18 => ?_) (fun c_18 => ?_)
      · replace h := ite_f c_18 h
        refine lv_iload_n hx hb dX4_isAct_26 rfl (lv_at hl 2 rfl) ?_
        refine lv_bipush (v := (17 : Int32)) hx hb dX4_isAct_27 (by decide) ?_
        refine lv_icmp_ne (tgt := 34) hx hb dX4_isAct_29 (by decide) (fun c_29 => ?_) (fun c_29 => ?_)
        · replace h := ite_f c_29 h
          refine lv_iload_n hx hb dX4_isAct_34 rfl (lv_at hl 1 rfl) ?_
          refine lv_if_lt (tgt := 47) hx hb dX4_isAct_35 (by decide) (fun c_35 => ?_) (fun c_35 => ?_)
          · replace h := ite_t c_35 h
            refine lv_iconst (v := (0 : Int32)) hx hb dX4_isAct_47 (by decide) ?_
            exact k_zret S hr hlocks hP hS (Option.some.inj h) (Or.inl rfl) dX4_isAct_48
          · replace h := ite_f c_35 h
            refine lv_iload_n hx hb dX4_isAct_38 rfl (lv_at hl 1 rfl) ?_
            refine lv_iload_n hx hb dX4_isAct_39 rfl (lv_at hl 0 rfl) ?_
            refine lv_icmp_gt (tgt := 47) hx hb dX4_isAct_40 (by decide) (fun c_40 => ?_) (fun c_40 => ?_)
            · replace h := ite_t c_40 h
              refine lv_iconst (v := (0 : Int32)) hx hb dX4_isAct_47 (by decide) ?_
              exact k_zret S hr hlocks hP hS (Option.some.inj h) (Or.inl rfl) dX4_isAct_48
            · replace h := ite_f c_40 h
              refine lv_iconst (v := (1 : Int32)) hx hb dX4_isAct_43 (by decide) ?_
              refine lv_goto (tgt := 48) hx hb dX4_isAct_44 (by decide) ?_
              exact k_zret S hr hlocks hP hS (Option.some.inj h) (Or.inr rfl) dX4_isAct_48
        · replace h := ite_t c_29 h
          refine lv_iconst (v := (0 : Int32)) hx hb dX4_isAct_32 (by decide) ?_
          refine lv_istore_n (lv' := [(2, .int (0 : Int32)), (0, .int x1), (1, .int x2)]) hx hb dX4_isAct_33 rfl hl (by decide) rfl (fun ls hl => ?_)
          refine lv_iload_n hx hb dX4_isAct_34 rfl (lv_at hl 1 rfl) ?_
          refine lv_if_lt (tgt := 47) hx hb dX4_isAct_35 (by decide) (fun c_35 => ?_) (fun c_35 => ?_)
          · replace h := ite_t c_35 h
            refine lv_iconst (v := (0 : Int32)) hx hb dX4_isAct_47 (by decide) ?_
            exact k_zret S hr hlocks hP hS (Option.some.inj h) (Or.inl rfl) dX4_isAct_48
          · replace h := ite_f c_35 h
            refine lv_iload_n hx hb dX4_isAct_38 rfl (lv_at hl 1 rfl) ?_
            refine lv_iload_n hx hb dX4_isAct_39 rfl (lv_at hl 0 rfl) ?_
            refine lv_icmp_gt (tgt := 47) hx hb dX4_isAct_40 (by decide) (fun c_40 => ?_) (fun c_40 => ?_)
            · replace h := ite_t c_40 h
              refine lv_iconst (v := (0 : Int32)) hx hb dX4_isAct_47 (by decide) ?_
              exact k_zret S hr hlocks hP hS (Option.some.inj h) (Or.inl rfl) dX4_isAct_48
            · replace h := ite_f c_40 h
              refine lv_iconst (v := (1 : Int32)) hx hb dX4_isAct_43 (by decide) ?_
              refine lv_goto (tgt := 48) hx hb dX4_isAct_44 (by decide) ?_
              exact k_zret S hr hlocks hP hS (Option.some.inj h) (Or.inr rfl) dX4_isAct_48
      · replace h := ite_t c_18 h
        refine lv_iconst (v := (5 : Int32)) hx hb dX4_isAct_21 (by decide) ?_
        refine lv_istore_n (lv' := [(2, .int (5 : Int32)), (0, .int x1), (1, .int x2)]) hx hb dX4_isAct_22 rfl hl (by decide) rfl (fun ls hl => ?_)
        refine lv_goto (tgt := 34) hx hb dX4_isAct_23 (by decide) ?_
        refine lv_iload_n hx hb dX4_isAct_34 rfl (lv_at hl 1 rfl) ?_
        refine lv_if_lt (tgt := 47) hx hb dX4_isAct_35 (by decide) (fun c_35 => ?_) (fun c_35 => ?_)
        · replace h := ite_t c_35 h
          refine lv_iconst (v := (0 : Int32)) hx hb dX4_isAct_47 (by decide) ?_
          exact k_zret S hr hlocks hP hS (Option.some.inj h) (Or.inl rfl) dX4_isAct_48
        · replace h := ite_f c_35 h
          refine lv_iload_n hx hb dX4_isAct_38 rfl (lv_at hl 1 rfl) ?_
          refine lv_iload_n hx hb dX4_isAct_39 rfl (lv_at hl 0 rfl) ?_
          refine lv_icmp_gt (tgt := 47) hx hb dX4_isAct_40 (by decide) (fun c_40 => ?_) (fun c_40 => ?_)
          · replace h := ite_t c_40 h
            refine lv_iconst (v := (0 : Int32)) hx hb dX4_isAct_47 (by decide) ?_
            exact k_zret S hr hlocks hP hS (Option.some.inj h) (Or.inl rfl) dX4_isAct_48
          · replace h := ite_f c_40 h
            refine lv_iconst (v := (1 : Int32)) hx hb dX4_isAct_43 (by decide) ?_
            refine lv_goto (tgt := 48) hx hb dX4_isAct_44 (by decide) ?_
            exact k_zret S hr hlocks hP hS (Option.some.inj h) (Or.inr rfl) dX4_isAct_48
    · replace h := ite_f c_7 h
      refine lv_iconst (v := (0 : Int32)) hx hb dX4_isAct_10 (by decide) ?_
      exact k_zret S hr hlocks hP hS (Option.some.inj h) (Or.inl rfl) dX4_isAct_11
def f_X4_lessened_L3 : Nat → Int32 → Int32 → Int32 → Option Int32
  | 0, _, _, _ => none
  | n + 1, y0, y1, y2 => if y2 ≤ (1 : Int32) then (some y0) else (oif (¬ y2 = 0) (if (y0 - y0 / y2 * y2) = 0 then (oif (¬ y2 = 0) (if (y1 - y1 / y2 * y2) = 0 then (oif (¬ y2 = 0) (some (y0 / y2))) else (f_X4_lessened_L3 n y0 y1 (y2 + (-1 : Int32))))) else (f_X4_lessened_L3 n y0 y1 (y2 + (-1 : Int32)))))
def f_X4_lessened (x1 : Int32) (x2 : Int32) : Option Int32 := f_X4_lessened_L3 100 x1 x2 (6 : Int32)
set_option maxRecDepth 100000 in
set_option maxHeartbeats 4000000 in
theorem k_X4_lessened (l : Launch) {D : va_G} {A : Nat → Prop} {tys : List (ClassId × FieldType)} {w : va_W} {x1 : Int32} {x2 : Int32} {r : Int32} (h : f_X4_lessened x1 x2 = some r) : Ct (QI D A r (w)) l yX4_lessened cX4_lessened 3 (some .int) 0 0 D tys A [.int x1, .int x2] (w) := by
  refine Ct.of (by decide +kernel) (Nat.le_of_ble_eq_true rfl) ?_
  intro p e s m below meth c ls S hK hr hlocks hP hS hl
  have hx := S.1
  have hb := S.2.1
  have hl : lv_has ls 3 [(0, .int x1), (1, .int x2)] := hl
  have loop3 : ∀ (n : Nat) (y0 : Int32) (y1 : Int32) (y2 : Int32) (H : Heap) (locs : List Loc) (ls : Array Slot), f_X4_lessened_L3 n y0 y1 y2 = some r → va_P D vwCl (w) H → va_S A s.heap H locs → lv_has ls 3 [(0, .int y0), (1, .int y1), (2, .int y2)] → W p l e (rmO 0 0) s m [.int x1, .int x2].toArray below meth c H locs 0 0 (MQ below (QI D A r (w)) [.int x1, .int x2].toArray s 0 0 A) (F0 m 3 ls []) := by
    intro n
    induction n with
    | zero => intro y0 y1 y2 H locs ls h; cases h
    | succ n ih =>
      intro y0 y1 y2 H locs ls h hP hS hl
      rw [f_X4_lessened_L3] at h
      refine lv_iload_n hx hb dX4_lessened_3 rfl (lv_at hl 2 rfl) ?_
      refine lv_iconst (v := (1 : Int32)) hx hb dX4_lessened_4 (by decide) ?_
      refine lv_icmp_le (tgt := 30) hx hb dX4_lessened_5 (by decide) (fun c_5 => ?_) (fun c_5 => ?_)
      · replace h := ite_t c_5 h
        refine lv_iload_n hx hb dX4_lessened_30 rfl (lv_at hl 0 rfl) ?_
        exact k_iret S hr hlocks hP hS (Option.some.inj h) dX4_lessened_31
      · replace h := ite_f c_5 h
        refine lv_iload_n hx hb dX4_lessened_8 rfl (lv_at hl 0 rfl) ?_
        refine lv_iload_n hx hb dX4_lessened_9 rfl (lv_at hl 2 rfl) ?_
        obtain ⟨hn_10, h⟩ := oif_of h
        refine lv_irem hx hb dX4_lessened_10 hn_10 ?_
        refine lv_if_ne (tgt := 24) hx hb dX4_lessened_11 (by decide) (fun c_11 => ?_) (fun c_11 => ?_)
        · replace h := ite_f c_11 h
          refine lv_iinc (v := y2 + (-1 : Int32)) (lv' := [(2, .int (y2 + (-1 : Int32))), (0, .int y0), (1, .int y1)]) hx hb dX4_lessened_24 hl (k := 2) rfl rfl (by decide) rfl (fun ls hl => ?_)
          refine lv_goto (tgt := 3) hx hb dX4_lessened_27 (by decide) ?_
          exact ih y0 y1 (y2 + (-1 : Int32)) _ _ _ h hP hS (lv_sub hl [1, 2, 0] rfl)
        · replace h := ite_t c_11 h
          refine lv_iload_n hx hb dX4_lessened_14 rfl (lv_at hl 1 rfl) ?_
          refine lv_iload_n hx hb dX4_lessened_15 rfl (lv_at hl 2 rfl) ?_
          obtain ⟨hn_16, h⟩ := oif_of h
          refine lv_irem hx hb dX4_lessened_16 hn_16 ?_
          refine lv_if_ne (tgt := 24) hx hb dX4_lessened_17 (by decide) (fun c_17 => ?_) (fun c_17 => ?_)
          · replace h := ite_f c_17 h
            refine lv_iinc (v := y2 + (-1 : Int32)) (lv' := [(2, .int (y2 + (-1 : Int32))), (0, .int y0), (1, .int y1)]) hx hb dX4_lessened_24 hl (k := 2) rfl rfl (by decide) rfl (fun ls hl => ?_)
            refine lv_goto (tgt := 3) hx hb dX4_lessened_27 (by decide) ?_
            exact ih y0 y1 (y2 + (-1 : Int32)) _ _ _ h hP hS (lv_sub hl [1, 2, 0] rfl)
          · replace h := ite_t c_17 h
            refine lv_iload_n hx hb dX4_lessened_20 rfl (lv_at hl 0 rfl) ?_
            refine lv_iload_n hx hb dX4_lessened_21 rfl (lv_at hl 2 rfl) ?_
            obtain ⟨hn_22, h⟩ := oif_of h
            refine lv_idiv hx hb dX4_lessened_22 hn_22 ?_
            exact k_iret S hr hlocks hP hS (Option.some.inj h) dX4_lessened_23
  rw [f_X4_lessened] at h
  refine lv_bipush (v := (6 : Int32)) hx hb dX4_lessened_0 (by decide) ?_
  refine lv_istore_n (lv' := [(2, .int (6 : Int32)), (0, .int x1), (1, .int x2)]) hx hb dX4_lessened_2 rfl hl (by decide) rfl (fun ls hl => ?_)
  exact loop3 100 x1 x2 (6 : Int32) _ _ _ h hP hS (lv_sub hl [1, 2, 0] rfl)
def f_X5_within (x1 : Int32) (x2 : Int32) (x3 : Int32) : Option Int32 := if x1 < x2 then (some (0 : Int32)) else (if x3 < x1 then (some (0 : Int32)) else (some (1 : Int32)))
set_option maxRecDepth 100000 in
set_option maxHeartbeats 4000000 in
theorem k_X5_within (l : Launch) {D : va_G} {A : Nat → Prop} {tys : List (ClassId × FieldType)} {w : va_W} {x1 : Int32} {x2 : Int32} {x3 : Int32} {r : Int32} (h : f_X5_within x1 x2 x3 = some r) : Ct (QI D A r (w)) l yX5_within cX5_within 3 (some .boolean) 0 0 D tys A [.int x1, .int x2, .int x3] (w) := by
  refine Ct.of (by decide +kernel) (Nat.le_of_ble_eq_true rfl) ?_
  intro p e s m below meth c ls S hK hr hlocks hP hS hl
  have hx := S.1
  have hb := S.2.1
  have hl : lv_has ls 3 [(0, .int x1), (1, .int x2), (2, .int x3)] := hl
  rw [f_X5_within] at h
  refine lv_iload_n hx hb dX5_within_0 rfl (lv_at hl 0 rfl) ?_
  refine lv_iload_n hx hb dX5_within_1 rfl (lv_at hl 1 rfl) ?_
  refine lv_icmp_lt (tgt := 14) hx hb dX5_within_2 (by decide) (fun c_2 => ?_) (fun c_2 => ?_)
  · replace h := ite_t c_2 h
    refine lv_iconst (v := (0 : Int32)) hx hb dX5_within_14 (by decide) ?_
    exact k_zret S hr hlocks hP hS (Option.some.inj h) (Or.inl rfl) dX5_within_15
  · replace h := ite_f c_2 h
    refine lv_iload_n hx hb dX5_within_5 rfl (lv_at hl 0 rfl) ?_
    refine lv_iload_n hx hb dX5_within_6 rfl (lv_at hl 2 rfl) ?_
    refine lv_icmp_gt (tgt := 14) hx hb dX5_within_7 (by decide) (fun c_7 => ?_) (fun c_7 => ?_)
    · replace h := ite_t c_7 h
      refine lv_iconst (v := (0 : Int32)) hx hb dX5_within_14 (by decide) ?_
      exact k_zret S hr hlocks hP hS (Option.some.inj h) (Or.inl rfl) dX5_within_15
    · replace h := ite_f c_7 h
      refine lv_iconst (v := (1 : Int32)) hx hb dX5_within_10 (by decide) ?_
      refine lv_goto (tgt := 15) hx hb dX5_within_11 (by decide) ?_
      exact k_zret S hr hlocks hP hS (Option.some.inj h) (Or.inr rfl) dX5_within_15
def f_X5_isSheet (x1 : Int32) : Option Int32 := ob1 (f_X5_within x1 (0 : Int32) (3 : Int32)) (fun r_3 => oif (r_3 = 0 ∨ r_3 = 1) (some r_3))
set_option maxRecDepth 100000 in
set_option maxHeartbeats 4000000 in
theorem k_X5_isSheet (l : Launch) {D : va_G} {A : Nat → Prop} {tys : List (ClassId × FieldType)} {w : va_W} {x1 : Int32} {r : Int32} (h : f_X5_isSheet x1 = some r) : Ct (QI D A r (w)) l yX5_isSheet cX5_isSheet 1 (some .boolean) 1 22 D tys A [.int x1] (w) := by
  refine Ct.of (by decide +kernel) (Nat.le_of_ble_eq_true rfl) ?_
  intro p e s m below meth c ls S hK hr hlocks hP hS hl
  have hx := S.1
  have hb := S.2.1
  have hl : lv_has ls 1 [(0, .int x1)] := hl
  rw [f_X5_isSheet] at h
  refine lv_iload_n hx hb dX5_isSheet_0 rfl (lv_at hl 0 rfl) ?_
  refine lv_iconst (v := (0 : Int32)) hx hb dX5_isSheet_1 (by decide) ?_
  refine lv_iconst (v := (3 : Int32)) hx hb dX5_isSheet_2 (by decide) ?_
  obtain ⟨r_3, e_3, h⟩ := ob1_of h
  refine k_goI (k_runS (As := [.int x1, .int (0 : Int32), .int (3 : Int32)]) (rest := []) S hK hP (k_X5_within l  e_3) cy_X5_within wd_738 rfl hl.1 rfl (Nat.le_of_ble_eq_true rfl) dX5_isSheet_3 ⟨Nat.le_of_ble_eq_true rfl, Nat.le_of_ble_eq_true rfl⟩ ⟨Nat.zero_le _, Nat.zero_le _⟩) hS (fun _ h => h) (fun H locs hP hS _ _ => ?_)
  obtain ⟨hz_6, h⟩ := oif_of h
  exact k_zret S hr hlocks hP hS (Option.some.inj h) hz_6 dX5_isSheet_6
def f_X5_isSort (x1 : Int32) : Option Int32 := ob1 (f_X5_within x1 (0 : Int32) (2 : Int32)) (fun r_3 => oif (r_3 = 0 ∨ r_3 = 1) (some r_3))
set_option maxRecDepth 100000 in
set_option maxHeartbeats 4000000 in
theorem k_X5_isSort (l : Launch) {D : va_G} {A : Nat → Prop} {tys : List (ClassId × FieldType)} {w : va_W} {x1 : Int32} {r : Int32} (h : f_X5_isSort x1 = some r) : Ct (QI D A r (w)) l yX5_isSort cX5_isSort 1 (some .boolean) 1 22 D tys A [.int x1] (w) := by
  refine Ct.of (by decide +kernel) (Nat.le_of_ble_eq_true rfl) ?_
  intro p e s m below meth c ls S hK hr hlocks hP hS hl
  have hx := S.1
  have hb := S.2.1
  have hl : lv_has ls 1 [(0, .int x1)] := hl
  rw [f_X5_isSort] at h
  refine lv_iload_n hx hb dX5_isSort_0 rfl (lv_at hl 0 rfl) ?_
  refine lv_iconst (v := (0 : Int32)) hx hb dX5_isSort_1 (by decide) ?_
  refine lv_iconst (v := (2 : Int32)) hx hb dX5_isSort_2 (by decide) ?_
  obtain ⟨r_3, e_3, h⟩ := ob1_of h
  refine k_goI (k_runS (As := [.int x1, .int (0 : Int32), .int (2 : Int32)]) (rest := []) S hK hP (k_X5_within l  e_3) cy_X5_within wd_738 rfl hl.1 rfl (Nat.le_of_ble_eq_true rfl) dX5_isSort_3 ⟨Nat.le_of_ble_eq_true rfl, Nat.le_of_ble_eq_true rfl⟩ ⟨Nat.zero_le _, Nat.zero_le _⟩) hS (fun _ h => h) (fun H locs hP hS _ _ => ?_)
  obtain ⟨hz_6, h⟩ := oif_of h
  exact k_zret S hr hlocks hP hS (Option.some.inj h) hz_6 dX5_isSort_6
def f_X5_isOf (x1 : Int32) (x2 : Int32) : Option Int32 := if ((x1 >>> (x2 &&& 31)) &&& (1 : Int32)) = (1 : Int32) then (some (1 : Int32)) else (some (0 : Int32))
set_option maxRecDepth 100000 in
set_option maxHeartbeats 4000000 in
theorem k_X5_isOf (l : Launch) {D : va_G} {A : Nat → Prop} {tys : List (ClassId × FieldType)} {w : va_W} {x1 : Int32} {x2 : Int32} {r : Int32} (h : f_X5_isOf x1 x2 = some r) : Ct (QI D A r (w)) l yX5_isOf cX5_isOf 2 (some .boolean) 0 0 D tys A [.int x1, .int x2] (w) := by
  refine Ct.of (by decide +kernel) (Nat.le_of_ble_eq_true rfl) ?_
  intro p e s m below meth c ls S hK hr hlocks hP hS hl
  have hx := S.1
  have hb := S.2.1
  have hl : lv_has ls 2 [(0, .int x1), (1, .int x2)] := hl
  rw [f_X5_isOf] at h
  refine lv_iload_n hx hb dX5_isOf_0 rfl (lv_at hl 0 rfl) ?_
  refine lv_iload_n hx hb dX5_isOf_1 rfl (lv_at hl 1 rfl) ?_
  refine lv_ishr hx hb dX5_isOf_2 ?_
  refine lv_iconst (v := (1 : Int32)) hx hb dX5_isOf_3 (by decide) ?_
  refine lv_iand hx hb dX5_isOf_4 ?_
  refine lv_iconst (v := (1 : Int32)) hx hb dX5_isOf_5 (by decide) ?_
  refine lv_icmp_ne (tgt := 13) hx hb dX5_isOf_6 (by decide) (fun c_6 => ?_) (fun c_6 => ?_)
  · replace h := ite_f c_6 h
    refine lv_iconst (v := (0 : Int32)) hx hb dX5_isOf_13 (by decide) ?_
    exact k_zret S hr hlocks hP hS (Option.some.inj h) (Or.inl rfl) dX5_isOf_14
  · replace h := ite_t c_6 h
    refine lv_iconst (v := (1 : Int32)) hx hb dX5_isOf_9 (by decide) ?_
    refine lv_goto (tgt := 14) hx hb dX5_isOf_10 (by decide) ?_
    exact k_zret S hr hlocks hP hS (Option.some.inj h) (Or.inr rfl) dX5_isOf_14
def f_X5_size_L4 : Nat → Int32 → Int32 → Int32 → Option Int32
  | 0, _, _, _ => none
  | n + 1, y0, y1, y2 => if y2 ≤ 0 then (some y1) else (f_X5_size_L4 n y0 (y1 + (y2 &&& (1 : Int32))) (y2 >>> ((1 : Int32) &&& 31)))
def f_X5_size (x1 : Int32) : Option Int32 := f_X5_size_L4 100 x1 (0 : Int32) x1
set_option maxRecDepth 100000 in
set_option maxHeartbeats 4000000 in
theorem k_X5_size (l : Launch) {D : va_G} {A : Nat → Prop} {tys : List (ClassId × FieldType)} {w : va_W} {x1 : Int32} {r : Int32} (h : f_X5_size x1 = some r) : Ct (QI D A r (w)) l yX5_size cX5_size 3 (some .int) 0 0 D tys A [.int x1] (w) := by
  refine Ct.of (by decide +kernel) (Nat.le_of_ble_eq_true rfl) ?_
  intro p e s m below meth c ls S hK hr hlocks hP hS hl
  have hx := S.1
  have hb := S.2.1
  have hl : lv_has ls 3 [(0, .int x1)] := hl
  have loop4 : ∀ (n : Nat) (y0 : Int32) (y1 : Int32) (y2 : Int32) (H : Heap) (locs : List Loc) (ls : Array Slot), f_X5_size_L4 n y0 y1 y2 = some r → va_P D vwCl (w) H → va_S A s.heap H locs → lv_has ls 3 [(0, .int y0), (1, .int y1), (2, .int y2)] → W p l e (rmO 0 0) s m [.int x1].toArray below meth c H locs 0 0 (MQ below (QI D A r (w)) [.int x1].toArray s 0 0 A) (F0 m 4 ls []) := by
    intro n
    induction n with
    | zero => intro y0 y1 y2 H locs ls h; cases h
    | succ n ih =>
      intro y0 y1 y2 H locs ls h hP hS hl
      rw [f_X5_size_L4] at h
      refine lv_iload_n hx hb dX5_size_4 rfl (lv_at hl 2 rfl) ?_
      refine lv_if_le (tgt := 21) hx hb dX5_size_5 (by decide) (fun c_5 => ?_) (fun c_5 => ?_)
      · replace h := ite_t c_5 h
        refine lv_iload_n hx hb dX5_size_21 rfl (lv_at hl 1 rfl) ?_
        exact k_iret S hr hlocks hP hS (Option.some.inj h) dX5_size_22
      · replace h := ite_f c_5 h
        refine lv_iload_n hx hb dX5_size_8 rfl (lv_at hl 1 rfl) ?_
        refine lv_iload_n hx hb dX5_size_9 rfl (lv_at hl 2 rfl) ?_
        refine lv_iconst (v := (1 : Int32)) hx hb dX5_size_10 (by decide) ?_
        refine lv_iand hx hb dX5_size_11 ?_
        refine lv_iadd hx hb dX5_size_12 ?_
        refine lv_istore_n (lv' := [(1, .int (y1 + (y2 &&& (1 : Int32)))), (0, .int y0), (2, .int y2)]) hx hb dX5_size_13 rfl hl (by decide) rfl (fun ls hl => ?_)
        refine lv_iload_n hx hb dX5_size_14 rfl (lv_at hl 2 rfl) ?_
        refine lv_iconst (v := (1 : Int32)) hx hb dX5_size_15 (by decide) ?_
        refine lv_ishr hx hb dX5_size_16 ?_
        refine lv_istore_n (lv' := [(2, .int (y2 >>> ((1 : Int32) &&& 31))), (1, .int (y1 + (y2 &&& (1 : Int32)))), (0, .int y0)]) hx hb dX5_size_17 rfl hl (by decide) rfl (fun ls hl => ?_)
        refine lv_goto (tgt := 4) hx hb dX5_size_18 (by decide) ?_
        exact ih y0 (y1 + (y2 &&& (1 : Int32))) (y2 >>> ((1 : Int32) &&& 31)) _ _ _ h hP hS (lv_sub hl [2, 1, 0] rfl)
  rw [f_X5_size] at h
  refine lv_iconst (v := (0 : Int32)) hx hb dX5_size_0 (by decide) ?_
  refine lv_istore_n (lv' := [(1, .int (0 : Int32)), (0, .int x1)]) hx hb dX5_size_1 rfl hl (by decide) rfl (fun ls hl => ?_)
  refine lv_iload_n hx hb dX5_size_2 rfl (lv_at hl 1 rfl) ?_
  refine lv_istore_n (lv' := [(2, .int x1), (1, .int (0 : Int32)), (0, .int x1)]) hx hb dX5_size_3 rfl hl (by decide) rfl (fun ls hl => ?_)
  exact loop4 100 x1 (0 : Int32) x1 _ _ _ h hP hS (lv_sub hl [2, 1, 0] rfl)
def f_X5_isPair (x1 : Int32) (x2 : Int32) : Option Int32 := ob1 (f_X5_within x2 (0 : Int32) (17 : Int32)) (fun r_4 => if r_4 = 0 then (some (0 : Int32)) else (if x2 = (10 : Int32) then (ob1 (f_X5_within x1 (0 : Int32) (5 : Int32)) (fun r_34 => if r_34 = 0 then (some (0 : Int32)) else (some (1 : Int32)))) else (if x2 = (17 : Int32) then (ob1 (f_X5_within x1 (0 : Int32) (0 : Int32)) (fun r_34 => if r_34 = 0 then (some (0 : Int32)) else (some (1 : Int32)))) else (ob1 (f_X5_within x1 (0 : Int32) (9 : Int32)) (fun r_34 => if r_34 = 0 then (some (0 : Int32)) else (some (1 : Int32)))))))
set_option maxRecDepth 100000 in
set_option maxHeartbeats 4000000 in
theorem k_X5_isPair (l : Launch) {D : va_G} {A : Nat → Prop} {tys : List (ClassId × FieldType)} {w : va_W} {x1 : Int32} {x2 : Int32} {r : Int32} (h : f_X5_isPair x1 x2 = some r) : Ct (QI D A r (w)) l yX5_isPair cX5_isPair 2 (some .boolean) 1 22 D tys A [.int x1, .int x2] (w) := by
  refine Ct.of (by decide +kernel) (Nat.le_of_ble_eq_true rfl) ?_
  intro p e s m below meth c ls S hK hr hlocks hP hS hl
  have hx := S.1
  have hb := S.2.1
  have hl : lv_has ls 2 [(0, .int x1), (1, .int x2)] := hl
  rw [f_X5_isPair] at h
  refine lv_iload_n hx hb dX5_isPair_0 rfl (lv_at hl 1 rfl) ?_
  refine lv_iconst (v := (0 : Int32)) hx hb dX5_isPair_1 (by decide) ?_
  refine lv_bipush (v := (17 : Int32)) hx hb dX5_isPair_2 (by decide) ?_
  obtain ⟨r_4, e_4, h⟩ := ob1_of h
  refine k_goI (k_runS (As := [.int x2, .int (0 : Int32), .int (17 : Int32)]) (rest := []) S hK hP (k_X5_within l  e_4) cy_X5_within wd_738 rfl hl.1 rfl (Nat.le_of_ble_eq_true rfl) dX5_isPair_4 ⟨Nat.le_of_ble_eq_true rfl, Nat.le_of_ble_eq_true rfl⟩ ⟨Nat.zero_le _, Nat.zero_le _⟩) hS (fun _ h => h) (fun H locs hP hS _ _ => ?_)
  refine lv_if_eq (tgt := 44) hx hb dX5_isPair_7 (by decide) (fun c_7 => ?_) (fun c_7 => ?_)
  · replace h := ite_t c_7 h
    refine lv_iconst (v := (0 : Int32)) hx hb dX5_isPair_44 (by decide) ?_
    exact k_zret S hr hlocks hP hS (Option.some.inj h) (Or.inl rfl) dX5_isPair_45
  · replace h := ite_f c_7 h
    refine lv_iload_n hx hb dX5_isPair_10 rfl (lv_at hl 0 rfl) ?_
    refine lv_iconst (v := (0 : Int32)) hx hb dX5_isPair_11 (by decide) ?_
    refine lv_iload_n hx hb dX5_isPair_12 rfl (lv_at hl 1 rfl) ?_
    refine lv_bipush (v := (10 : Int32)) hx hb dX5_isPair_13 (by decide) ?_
    refine lv_icmp_ne (tgt := 22) hx hb dX5_isPair_15 (by decide) (fun c_15 => ?_) (fun c_15 => ?_)
    · replace h := ite_f c_15 h
      refine lv_iload_n hx hb dX5_isPair_22 rfl (lv_at hl 1 rfl) ?_
      refine lv_bipush (v := (17 : Int32)) hx hb dX5_isPair_23 (by decide) ?_
      refine lv_icmp_ne (tgt := 32) hx hb dX5_isPair_25 (by decide) (fun c_25 => ?_) (fun c_25 => ?_)
      · replace h := ite_f c_25 h
        refine lv_bipush (v := (9 : Int32)) hx hb dX5_isPair_32 (by decide) ?_
        obtain ⟨r_34, e_34, h⟩ := ob1_of h
        refine k_goI (k_runS (As := [.int x1, .int (0 : Int32), .int (9 : Int32)]) (rest := []) S hK hP (k_X5_within l  e_34) cy_X5_within wd_738 rfl hl.1 rfl (Nat.le_of_ble_eq_true rfl) dX5_isPair_34 ⟨Nat.le_of_ble_eq_true rfl, Nat.le_of_ble_eq_true rfl⟩ ⟨Nat.zero_le _, Nat.zero_le _⟩) hS (fun _ h => h) (fun H locs hP hS _ _ => ?_)
        refine lv_if_eq (tgt := 44) hx hb dX5_isPair_37 (by decide) (fun c_37 => ?_) (fun c_37 => ?_)
        · replace h := ite_t c_37 h
          refine lv_iconst (v := (0 : Int32)) hx hb dX5_isPair_44 (by decide) ?_
          exact k_zret S hr hlocks hP hS (Option.some.inj h) (Or.inl rfl) dX5_isPair_45
        · replace h := ite_f c_37 h
          refine lv_iconst (v := (1 : Int32)) hx hb dX5_isPair_40 (by decide) ?_
          refine lv_goto (tgt := 45) hx hb dX5_isPair_41 (by decide) ?_
          exact k_zret S hr hlocks hP hS (Option.some.inj h) (Or.inr rfl) dX5_isPair_45
      · replace h := ite_t c_25 h
        refine lv_iconst (v := (0 : Int32)) hx hb dX5_isPair_28 (by decide) ?_
        refine lv_goto (tgt := 34) hx hb dX5_isPair_29 (by decide) ?_
        obtain ⟨r_34, e_34, h⟩ := ob1_of h
        refine k_goI (k_runS (As := [.int x1, .int (0 : Int32), .int (0 : Int32)]) (rest := []) S hK hP (k_X5_within l  e_34) cy_X5_within wd_738 rfl hl.1 rfl (Nat.le_of_ble_eq_true rfl) dX5_isPair_34 ⟨Nat.le_of_ble_eq_true rfl, Nat.le_of_ble_eq_true rfl⟩ ⟨Nat.zero_le _, Nat.zero_le _⟩) hS (fun _ h => h) (fun H locs hP hS _ _ => ?_)
        refine lv_if_eq (tgt := 44) hx hb dX5_isPair_37 (by decide) (fun c_37 => ?_) (fun c_37 => ?_)
        · replace h := ite_t c_37 h
          refine lv_iconst (v := (0 : Int32)) hx hb dX5_isPair_44 (by decide) ?_
          exact k_zret S hr hlocks hP hS (Option.some.inj h) (Or.inl rfl) dX5_isPair_45
        · replace h := ite_f c_37 h
          refine lv_iconst (v := (1 : Int32)) hx hb dX5_isPair_40 (by decide) ?_
          refine lv_goto (tgt := 45) hx hb dX5_isPair_41 (by decide) ?_
          exact k_zret S hr hlocks hP hS (Option.some.inj h) (Or.inr rfl) dX5_isPair_45
    · replace h := ite_t c_15 h
      refine lv_iconst (v := (5 : Int32)) hx hb dX5_isPair_18 (by decide) ?_
      refine lv_goto (tgt := 34) hx hb dX5_isPair_19 (by decide) ?_
      obtain ⟨r_34, e_34, h⟩ := ob1_of h
      refine k_goI (k_runS (As := [.int x1, .int (0 : Int32), .int (5 : Int32)]) (rest := []) S hK hP (k_X5_within l  e_34) cy_X5_within wd_738 rfl hl.1 rfl (Nat.le_of_ble_eq_true rfl) dX5_isPair_34 ⟨Nat.le_of_ble_eq_true rfl, Nat.le_of_ble_eq_true rfl⟩ ⟨Nat.zero_le _, Nat.zero_le _⟩) hS (fun _ h => h) (fun H locs hP hS _ _ => ?_)
      refine lv_if_eq (tgt := 44) hx hb dX5_isPair_37 (by decide) (fun c_37 => ?_) (fun c_37 => ?_)
      · replace h := ite_t c_37 h
        refine lv_iconst (v := (0 : Int32)) hx hb dX5_isPair_44 (by decide) ?_
        exact k_zret S hr hlocks hP hS (Option.some.inj h) (Or.inl rfl) dX5_isPair_45
      · replace h := ite_f c_37 h
        refine lv_iconst (v := (1 : Int32)) hx hb dX5_isPair_40 (by decide) ?_
        refine lv_goto (tgt := 45) hx hb dX5_isPair_41 (by decide) ?_
        exact k_zret S hr hlocks hP hS (Option.some.inj h) (Or.inr rfl) dX5_isPair_45
def f_X5_inLeastTerms_L6 : Nat → Int64 → Int64 → Int32 → Int64 → Int64 → Option Int64
  | 0, _, _, _, _, _ => none
  | n + 1, y0, y2, y4, y5, y7 => if (lg_cmp y7 (0 : Int64)) = 0 then (if y4 = 0 then (oif (¬ y5 = 0) (some (y0 / y5))) else (oif (¬ y5 = 0) (some (y2 / y5)))) else (oif (¬ y7 = 0) (f_X5_inLeastTerms_L6 n y0 y2 y4 y7 (y5 - y5 / y7 * y7)))
def f_X5_inLeastTerms (x1 : Int64) (x2 : Int64) (x3 : Int32) : Option Int64 := f_X5_inLeastTerms_L6 100 x1 x2 x3 x1 x2
set_option maxRecDepth 100000 in
set_option maxHeartbeats 4000000 in
theorem k_X5_inLeastTerms (l : Launch) {D : va_G} {A : Nat → Prop} {tys : List (ClassId × FieldType)} {w : va_W} {x1 : Int64} {x2 : Int64} {x3 : Int32} {r : Int64} (h : f_X5_inLeastTerms x1 x2 x3 = some r) : Ct (QL D A r (w)) l yX5_inLeastTerms cX5_inLeastTerms 11 (some .long) 0 0 D tys A [.long x1, .long x2, .int x3] (w) := by
  refine Ct.of (by decide +kernel) (Nat.le_of_ble_eq_true rfl) ?_
  intro p e s m below meth c ls S hK hr hlocks hP hS hl
  have hx := S.1
  have hb := S.2.1
  have hl : lv_has ls 11 [(0, .long x1), (2, .long x2), (4, .int x3)] := hl
  have loop6 : ∀ (n : Nat) (y0 : Int64) (y2 : Int64) (y4 : Int32) (y5 : Int64) (y7 : Int64) (H : Heap) (locs : List Loc) (ls : Array Slot), f_X5_inLeastTerms_L6 n y0 y2 y4 y5 y7 = some r → va_P D vwCl (w) H → va_S A s.heap H locs → lv_has ls 11 [(0, .long y0), (2, .long y2), (4, .int y4), (5, .long y5), (7, .long y7)] → W p l e (rmO 0 0) s m [.long x1, .long x2, .int x3].toArray below meth c H locs 0 0 (MQ below (QL D A r (w)) [.long x1, .long x2, .int x3].toArray s 0 0 A) (F0 m 6 ls []) := by
    intro n
    induction n with
    | zero => intro y0 y2 y4 y5 y7 H locs ls h; cases h
    | succ n ih =>
      intro y0 y2 y4 y5 y7 H locs ls h hP hS hl
      rw [f_X5_inLeastTerms_L6] at h
      refine lv_lload hx hb dX5_inLeastTerms_6 (lv_at hl 4 rfl) ?_
      refine lv_lconst (v := (0 : Int64)) hx hb dX5_inLeastTerms_8 (by decide) ?_
      refine W.lcmp hx hb dX5_inLeastTerms_9 ?_
      refine lv_if_eq (tgt := 31) hx hb dX5_inLeastTerms_10 (by decide) (fun c_10 => ?_) (fun c_10 => ?_)
      · replace h := ite_t c_10 h
        refine lv_iload hx hb dX5_inLeastTerms_31 (lv_at hl 2 rfl) ?_
        refine lv_if_ne (tgt := 43) hx hb dX5_inLeastTerms_33 (by decide) (fun c_33 => ?_) (fun c_33 => ?_)
        · replace h := ite_f c_33 h
          refine lv_lload_n hx hb dX5_inLeastTerms_43 rfl (lv_at hl 1 rfl) ?_
          refine lv_lload hx hb dX5_inLeastTerms_44 (lv_at hl 3 rfl) ?_
          obtain ⟨hn_46, h⟩ := oif_of h
          refine lv_ldiv hx hb dX5_inLeastTerms_46 hn_46 ?_
          exact k_lret S hr hlocks hP hS (Option.some.inj h) dX5_inLeastTerms_47
        · replace h := ite_t c_33 h
          refine lv_lload_n hx hb dX5_inLeastTerms_36 rfl (lv_at hl 0 rfl) ?_
          refine lv_lload hx hb dX5_inLeastTerms_37 (lv_at hl 3 rfl) ?_
          obtain ⟨hn_39, h⟩ := oif_of h
          refine lv_ldiv hx hb dX5_inLeastTerms_39 hn_39 ?_
          refine lv_goto (tgt := 47) hx hb dX5_inLeastTerms_40 (by decide) ?_
          exact k_lret S hr hlocks hP hS (Option.some.inj h) dX5_inLeastTerms_47
      · replace h := ite_f c_10 h
        refine lv_lload hx hb dX5_inLeastTerms_13 (lv_at hl 3 rfl) ?_
        refine lv_lload hx hb dX5_inLeastTerms_15 (lv_at hl 4 rfl) ?_
        obtain ⟨hn_17, h⟩ := oif_of h
        refine lv_lrem hx hb dX5_inLeastTerms_17 hn_17 ?_
        refine lv_lstore (lv' := [(9, .long (y5 - y5 / y7 * y7)), (0, .long y0), (2, .long y2), (4, .int y4), (5, .long y5), (7, .long y7)]) hx hb dX5_inLeastTerms_18 hl (by decide) rfl (fun ls hl => ?_)
        refine lv_lload hx hb dX5_inLeastTerms_20 (lv_at hl 5 rfl) ?_
        refine lv_lstore (lv' := [(5, .long y7), (9, .long (y5 - y5 / y7 * y7)), (0, .long y0), (2, .long y2), (4, .int y4), (7, .long y7)]) hx hb dX5_inLeastTerms_22 hl (by decide) rfl (fun ls hl => ?_)
        refine lv_lload hx hb dX5_inLeastTerms_24 (lv_at hl 1 rfl) ?_
        refine lv_lstore (lv' := [(7, .long (y5 - y5 / y7 * y7)), (5, .long y7), (9, .long (y5 - y5 / y7 * y7)), (0, .long y0), (2, .long y2), (4, .int y4)]) hx hb dX5_inLeastTerms_26 hl (by decide) rfl (fun ls hl => ?_)
        refine lv_goto (tgt := 6) hx hb dX5_inLeastTerms_28 (by decide) ?_
        exact ih y0 y2 y4 y7 (y5 - y5 / y7 * y7) _ _ _ h hP hS (lv_sub hl [3, 4, 5, 1, 0] rfl)
  rw [f_X5_inLeastTerms] at h
  refine lv_lload_n hx hb dX5_inLeastTerms_0 rfl (lv_at hl 0 rfl) ?_
  refine lv_lstore (lv' := [(5, .long x1), (0, .long x1), (2, .long x2), (4, .int x3)]) hx hb dX5_inLeastTerms_1 hl (by decide) rfl (fun ls hl => ?_)
  refine lv_lload_n hx hb dX5_inLeastTerms_3 rfl (lv_at hl 2 rfl) ?_
  refine lv_lstore (lv' := [(7, .long x2), (5, .long x1), (0, .long x1), (2, .long x2), (4, .int x3)]) hx hb dX5_inLeastTerms_4 hl (by decide) rfl (fun ls hl => ?_)
  exact loop6 100 x1 x2 x3 x1 x2 _ _ _ h hP hS (lv_sub hl [2, 3, 4, 1, 0] rfl)
