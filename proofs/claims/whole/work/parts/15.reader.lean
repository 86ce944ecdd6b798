def f_X1_open (σ : SX) (b1 : Nat) (x2 : Int32) (x3 : Int32) : Option (Unit × SX) := some ((), sF (sF (sF σ 24 2 x2) 24 3 x3) 24 0 (0 : Int32))
set_option maxRecDepth 100000 in
set_option maxHeartbeats 4000000 in
theorem k_X1_open (l : Launch) {D : va_G} {A : Nat → Prop} {cI cZ cS : ClassId} {ad : Nat → Nat} {ro : Option Nat} (hAd : ∀ ro σ, va_D A (WX cI cZ cS ad ro σ)) {σ : SX} {b1 : Nat} {x2 : Int32} {x3 : Int32} {σ' : SX} {r : Unit} (hb1 : isSh b1) (h : f_X1_open σ b1 x2 x3 = some (r, σ')) : Ct (QV D A (WX cI cZ cS ad (some b1) (σ'))) l yX1_open cX1_open 4 none 0 0 D (tyS cI cZ cS) A [.ref (ad 24), .ref (ad b1), .int x2, .int x3] (WX cI cZ cS ad ro σ) := by
  refine Ct.of (by decide +kernel) (Nat.le_of_ble_eq_true rfl) ?_
  intro p e s m below meth c ls S hK hr hlocks hP hS hl
  have hx := S.1
  have hb := S.2.1
  have hl : lv_has ls 4 [(0, .ref (ad 24)), (1, .ref (ad b1)), (2, .int x2), (3, .int x3)] := hl
  rw [f_X1_open] at h
  refine lv_aload_n hx hb dX1_open_0 rfl (lv_at hl 0 rfl) ?_
  refine lv_aload_n hx hb dX1_open_1 rfl (lv_at hl 1 rfl) ?_
  refine pt_X1_9 S hK hP (hAd _ _) hS dX1_open_2 (fun H locs hP hS => ?_)
  refine lv_aload_n hx hb dX1_open_5 rfl (lv_at hl 0 rfl) ?_
  refine lv_iload_n hx hb dX1_open_6 rfl (lv_at hl 2 rfl) ?_
  refine pt_X1_15 S hK hP (hAd _ _) hS dX1_open_7 (fun H locs hP hS => ?_)
  refine lv_aload_n hx hb dX1_open_10 rfl (lv_at hl 0 rfl) ?_
  refine lv_iload_n hx hb dX1_open_11 rfl (lv_at hl 3 rfl) ?_
  refine pt_X1_19 S hK hP (hAd _ _) hS dX1_open_12 (fun H locs hP hS => ?_)
  refine lv_aload_n hx hb dX1_open_15 rfl (lv_at hl 0 rfl) ?_
  refine lv_iconst (v := (0 : Int32)) hx hb dX1_open_16 (by decide) ?_
  refine pt_X1_22 S hK hP (hAd _ _) hS dX1_open_17 (fun H locs hP hS => ?_)
  obtain ⟨rfl, rfl⟩ := some_pair h
  exact k_vret S hr hlocks hP hS dX1_open_20
def f_X1_isAtEnd (σ : SX) (bS : Nat) : Option Int32 := if (gF σ 24 0) < (gF σ 24 3) then (some (0 : Int32)) else (some (1 : Int32))
set_option maxRecDepth 100000 in
set_option maxHeartbeats 4000000 in
theorem k_X1_isAtEnd (l : Launch) {D : va_G} {A : Nat → Prop} {cI cZ cS : ClassId} {ad : Nat → Nat} (hAd : ∀ ro σ, va_D A (WX cI cZ cS ad ro σ)) {σ : SX} {bS : Nat} {r : Int32} (hbS : isSh bS) (h : f_X1_isAtEnd σ bS = some r) : Ct (QI D A r (WX cI cZ cS ad (some bS) σ)) l yX1_isAtEnd cX1_isAtEnd 1 (some .boolean) 0 0 D (tyS cI cZ cS) A [.ref (ad 24)] (WX cI cZ cS ad (some bS) σ) := by
  refine Ct.of (by decide +kernel) (Nat.le_of_ble_eq_true rfl) ?_
  intro p e s m below meth c ls S hK hr hlocks hP hS hl
  have hx := S.1
  have hb := S.2.1
  have hl : lv_has ls 1 [(0, .ref (ad 24))] := hl
  rw [f_X1_isAtEnd] at h
  refine lv_aload_n hx hb dX1_isAtEnd_0 rfl (lv_at hl 0 rfl) ?_
  refine gt_X1_9 S hK hP dX1_isAtEnd_1 ?_
  refine lv_ifnull hx hb dX1_isAtEnd_4 ?_
  refine lv_aload_n hx hb dX1_isAtEnd_7 rfl (lv_at hl 0 rfl) ?_
  refine gt_X1_22 S hK hP dX1_isAtEnd_8 ?_
  refine lv_aload_n hx hb dX1_isAtEnd_11 rfl (lv_at hl 0 rfl) ?_
  refine gt_X1_19 S hK hP dX1_isAtEnd_12 ?_
  refine lv_icmp_lt (tgt := 22) hx hb dX1_isAtEnd_15 (by decide) (fun c_15 => ?_) (fun c_15 => ?_)
  · replace h := ite_t c_15 h
    refine lv_iconst (v := (0 : Int32)) hx hb dX1_isAtEnd_22 (by decide) ?_
    exact k_zret S hr hlocks hP hS (Option.some.inj h) (Or.inl rfl) dX1_isAtEnd_23
  · replace h := ite_f c_15 h
    refine lv_iconst (v := (1 : Int32)) hx hb dX1_isAtEnd_18 (by decide) ?_
    refine lv_goto (tgt := 23) hx hb dX1_isAtEnd_19 (by decide) ?_
    exact k_zret S hr hlocks hP hS (Option.some.inj h) (Or.inr rfl) dX1_isAtEnd_23
def f_X1_passes (σ : SX) (bS : Nat) (x1 : Int32) : Option (Int32 × SX) := ob1 (f_X1_isAtEnd σ bS) (fun r_1 => if r_1 = 0 then (ob1 (f_X3_at σ bS ((gF σ 24 2) + (gF σ 24 0))) (fun r_20 => if r_20 = x1 then (some ((1 : Int32), sF σ 24 0 ((gF σ 24 0) + (1 : Int32)))) else (some ((0 : Int32), σ)))) else (some ((0 : Int32), σ)))
set_option maxRecDepth 100000 in
set_option maxHeartbeats 4000000 in
theorem k_X1_passes (l : Launch) {D : va_G} {A : Nat → Prop} {cI cZ cS : ClassId} {ad : Nat → Nat} (hAd : ∀ ro σ, va_D A (WX cI cZ cS ad ro σ)) {σ : SX} {bS : Nat} {x1 : Int32} {σ' : SX} {r : Int32} (hbS : isSh bS) (h : f_X1_passes σ bS x1 = some (r, σ')) : Ct (QI D A r (WX cI cZ cS ad (some bS) (σ'))) l yX1_passes cX1_passes 2 (some .boolean) 2 42 D (tyS cI cZ cS) A [.ref (ad 24), .int x1] (WX cI cZ cS ad (some bS) σ) := by
  refine Ct.of (by decide +kernel) (Nat.le_of_ble_eq_true rfl) ?_
  intro p e s m below meth c ls S hK hr hlocks hP hS hl
  have hx := S.1
  have hb := S.2.1
  have hl : lv_has ls 2 [(0, .ref (ad 24)), (1, .int x1)] := hl
  rw [f_X1_passes] at h
  refine lv_aload_n hx hb dX1_passes_0 rfl (lv_at hl 0 rfl) ?_
  obtain ⟨r_1, e_1, h⟩ := ob1_of h
  refine k_goI (k_runV (As := []) (rest := []) S hK hP (k_X1_isAtEnd l hAd hbS e_1) cy_X1_isAtEnd wd_260 rfl xR rfl hl.1 rfl (Nat.le_of_ble_eq_true rfl) dX1_passes_1 ⟨Nat.le_of_ble_eq_true rfl, Nat.le_of_ble_eq_true rfl⟩ ⟨Nat.zero_le _, Nat.zero_le _⟩) hS (fun _ h => h) (fun H locs hP hS _ _ => ?_)
  refine lv_if_ne (tgt := 27) hx hb dX1_passes_4 (by decide) (fun c_4 => ?_) (fun c_4 => ?_)
  · replace h := ite_f c_4 h
    refine lv_iconst (v := (0 : Int32)) hx hb dX1_passes_27 (by decide) ?_
    obtain ⟨rfl, rfl⟩ := some_pair h
    exact k_zret S hr hlocks hP hS rfl (Or.inl rfl) dX1_passes_28
  · replace h := ite_t c_4 h
    refine lv_aload_n hx hb dX1_passes_7 rfl (lv_at hl 0 rfl) ?_
    refine gt_X1_9 S hK hP dX1_passes_8 ?_
    refine lv_aload_n hx hb dX1_passes_11 rfl (lv_at hl 0 rfl) ?_
    refine gt_X1_15 S hK hP dX1_passes_12 ?_
    refine lv_aload_n hx hb dX1_passes_15 rfl (lv_at hl 0 rfl) ?_
    refine gt_X1_22 S hK hP dX1_passes_16 ?_
    refine lv_iadd hx hb dX1_passes_19 ?_
    obtain ⟨r_20, e_20, h⟩ := ob1_of h
    refine k_goI (k_runV (As := [.int ((gF σ 24 2) + (gF σ 24 0))]) (rest := []) S hK hP (k_X3_at l hAd hbS e_20) cy_X3_at wd_264 rfl (xS hbS) rfl hl.1 rfl (Nat.le_of_ble_eq_true rfl) dX1_passes_20 ⟨Nat.le_of_ble_eq_true rfl, Nat.le_of_ble_eq_true rfl⟩ ⟨Nat.zero_le _, Nat.zero_le _⟩) hS (fun _ h => h) (fun H locs hP hS _ _ => ?_)
    refine lv_iload_n hx hb dX1_passes_23 rfl (lv_at hl 1 rfl) ?_
    refine lv_icmp_eq (tgt := 29) hx hb dX1_passes_24 (by decide) (fun c_24 => ?_) (fun c_24 => ?_)
    · replace h := ite_t c_24 h
      refine lv_aload_n hx hb dX1_passes_29 rfl (lv_at hl 0 rfl) ?_
      refine lv_dup hx hb dX1_passes_30 rfl ?_
      refine gt_X1_22 S hK hP dX1_passes_31 ?_
      refine lv_iconst (v := (1 : Int32)) hx hb dX1_passes_34 (by decide) ?_
      refine lv_iadd hx hb dX1_passes_35 ?_
      refine pt_X1_22 S hK hP (hAd _ _) hS dX1_passes_36 (fun H locs hP hS => ?_)
      refine lv_iconst (v := (1 : Int32)) hx hb dX1_passes_39 (by decide) ?_
      obtain ⟨rfl, rfl⟩ := some_pair h
      exact k_zret S hr hlocks hP hS rfl (Or.inr rfl) dX1_passes_40
    · replace h := ite_f c_24 h
      refine lv_iconst (v := (0 : Int32)) hx hb dX1_passes_27 (by decide) ?_
      obtain ⟨rfl, rfl⟩ := some_pair h
      exact k_zret S hr hlocks hP hS rfl (Or.inl rfl) dX1_passes_28
def f_X1_digitBelow (σ : SX) (bS : Nat) (x1 : Int32) (x2 : Int32) : Option (Int32 × SX) := ob1 (f_X1_isAtEnd σ bS) (fun r_1 => if r_1 = 0 then (ob1 (f_X3_at σ bS ((gF σ 24 2) + (gF σ 24 0))) (fun r_23 => if r_23 < (48 : Int32) then (some ((-9 : Int32), σ)) else (if ((48 : Int32) + x1) ≤ r_23 then (some ((-9 : Int32), σ)) else (if r_23 = ((48 : Int32) + x2) then (some ((-9 : Int32), σ)) else (some (r_23 - (48 : Int32), sF σ 24 0 ((gF σ 24 0) + (1 : Int32)))))))) else (some ((-9 : Int32), σ)))
set_option maxRecDepth 100000 in
set_option maxHeartbeats 4000000 in
theorem k_X1_digitBelow (l : Launch) {D : va_G} {A : Nat → Prop} {cI cZ cS : ClassId} {ad : Nat → Nat} (hAd : ∀ ro σ, va_D A (WX cI cZ cS ad ro σ)) {σ : SX} {bS : Nat} {x1 : Int32} {x2 : Int32} {σ' : SX} {r : Int32} (hbS : isSh bS) (h : f_X1_digitBelow σ bS x1 x2 = some (r, σ')) : Ct (QI D A r (WX cI cZ cS ad (some bS) (σ'))) l yX1_digitBelow cX1_digitBelow 4 (some .int) 2 42 D (tyS cI cZ cS) A [.ref (ad 24), .int x1, .int x2] (WX cI cZ cS ad (some bS) σ) := by
  refine Ct.of (by decide +kernel) (Nat.le_of_ble_eq_true rfl) ?_
  intro p e s m below meth c ls S hK hr hlocks hP hS hl
  have hx := S.1
  have hb := S.2.1
  have hl : lv_has ls 4 [(0, .ref (ad 24)), (1, .int x1), (2, .int x2)] := hl
  rw [f_X1_digitBelow] at h
  refine lv_aload_n hx hb dX1_digitBelow_0 rfl (lv_at hl 0 rfl) ?_
  obtain ⟨r_1, e_1, h⟩ := ob1_of h
  refine k_goI (k_runV (As := []) (rest := []) S hK hP (k_X1_isAtEnd l hAd hbS e_1) cy_X1_isAtEnd wd_260 rfl xR rfl hl.1 rfl (Nat.le_of_ble_eq_true rfl) dX1_digitBelow_1 ⟨Nat.le_of_ble_eq_true rfl, Nat.le_of_ble_eq_true rfl⟩ ⟨Nat.zero_le _, Nat.zero_le _⟩) hS (fun _ h => h) (fun H locs hP hS _ _ => ?_)
  refine lv_if_eq (tgt := 10) hx hb dX1_digitBelow_4 (by decide) (fun c_4 => ?_) (fun c_4 => ?_)
  · replace h := ite_t c_4 h
    refine lv_aload_n hx hb dX1_digitBelow_10 rfl (lv_at hl 0 rfl) ?_
    refine gt_X1_9 S hK hP dX1_digitBelow_11 ?_
    refine lv_aload_n hx hb dX1_digitBelow_14 rfl (lv_at hl 0 rfl) ?_
    refine gt_X1_15 S hK hP dX1_digitBelow_15 ?_
    refine lv_aload_n hx hb dX1_digitBelow_18 rfl (lv_at hl 0 rfl) ?_
    refine gt_X1_22 S hK hP dX1_digitBelow_19 ?_
    refine lv_iadd hx hb dX1_digitBelow_22 ?_
    obtain ⟨r_23, e_23, h⟩ := ob1_of h
    refine k_goI (k_runV (As := [.int ((gF σ 24 2) + (gF σ 24 0))]) (rest := []) S hK hP (k_X3_at l hAd hbS e_23) cy_X3_at wd_264 rfl (xS hbS) rfl hl.1 rfl (Nat.le_of_ble_eq_true rfl) dX1_digitBelow_23 ⟨Nat.le_of_ble_eq_true rfl, Nat.le_of_ble_eq_true rfl⟩ ⟨Nat.zero_le _, Nat.zero_le _⟩) hS (fun _ h => h) (fun H locs hP hS _ _ => ?_)
    refine lv_istore_n (lv' := [(3, .int r_23), (0, .ref (ad 24)), (1, .int x1), (2, .int x2)]) hx hb dX1_digitBelow_26 rfl hl (by decide) rfl (fun ls hl => ?_)
    refine lv_iload_n hx hb dX1_digitBelow_27 rfl (lv_at hl 0 rfl) ?_
    refine lv_bipush (v := (48 : Int32)) hx hb dX1_digitBelow_28 (by decide) ?_
    refine lv_icmp_lt (tgt := 49) hx hb dX1_digitBelow_30 (by decide) (fun c_30 => ?_) (fun c_30 => ?_)
    · replace h := ite_t c_30 h
      refine lv_bipush (v := (-9 : Int32)) hx hb dX1_digitBelow_49 (by decide) ?_
      obtain ⟨rfl, rfl⟩ := some_pair h
      exact k_iret S hr hlocks hP hS rfl dX1_digitBelow_51
    · replace h := ite_f c_30 h
      refine lv_iload_n hx hb dX1_digitBelow_33 rfl (lv_at hl 0 rfl) ?_
      refine lv_bipush (v := (48 : Int32)) hx hb dX1_digitBelow_34 (by decide) ?_
      refine lv_iload_n hx hb dX1_digitBelow_36 rfl (lv_at hl 2 rfl) ?_
      refine lv_iadd hx hb dX1_digitBelow_37 ?_
      refine lv_icmp_ge (tgt := 49) hx hb dX1_digitBelow_38 (by decide) (fun c_38 => ?_) (fun c_38 => ?_)
      · replace h := ite_t c_38 h
        refine lv_bipush (v := (-9 : Int32)) hx hb dX1_digitBelow_49 (by decide) ?_
        obtain ⟨rfl, rfl⟩ := some_pair h
        exact k_iret S hr hlocks hP hS rfl dX1_digitBelow_51
      · replace h := ite_f c_38 h
        refine lv_iload_n hx hb dX1_digitBelow_41 rfl (lv_at hl 0 rfl) ?_
        refine lv_bipush (v := (48 : Int32)) hx hb dX1_digitBelow_42 (by decide) ?_
        refine lv_iload_n hx hb dX1_digitBelow_44 rfl (lv_at hl 3 rfl) ?_
        refine lv_iadd hx hb dX1_digitBelow_45 ?_
        refine lv_icmp_ne (tgt := 52) hx hb dX1_digitBelow_46 (by decide) (fun c_46 => ?_) (fun c_46 => ?_)
        · replace h := ite_f c_46 h
          refine lv_aload_n hx hb dX1_digitBelow_52 rfl (lv_at hl 1 rfl) ?_
          refine lv_dup hx hb dX1_digitBelow_53 rfl ?_
          refine gt_X1_22 S hK hP dX1_digitBelow_54 ?_
          refine lv_iconst (v := (1 : Int32)) hx hb dX1_digitBelow_57 (by decide) ?_
          refine lv_iadd hx hb dX1_digitBelow_58 ?_
          refine pt_X1_22 S hK hP (hAd _ _) hS dX1_digitBelow_59 (fun H locs hP hS => ?_)
          refine lv_iload_n hx hb dX1_digitBelow_62 rfl (lv_at hl 0 rfl) ?_
          refine lv_bipush (v := (48 : Int32)) hx hb dX1_digitBelow_63 (by decide) ?_
          refine lv_isub hx hb dX1_digitBelow_65 ?_
          obtain ⟨rfl, rfl⟩ := some_pair h
          exact k_iret S hr hlocks hP hS rfl dX1_digitBelow_66
        · replace h := ite_t c_46 h
          refine lv_bipush (v := (-9 : Int32)) hx hb dX1_digitBelow_49 (by decide) ?_
          obtain ⟨rfl, rfl⟩ := some_pair h
          exact k_iret S hr hlocks hP hS rfl dX1_digitBelow_51
  · replace h := ite_f c_4 h
    refine lv_bipush (v := (-9 : Int32)) hx hb dX1_digitBelow_7 (by decide) ?_
    obtain ⟨rfl, rfl⟩ := some_pair h
    exact k_iret S hr hlocks hP hS rfl dX1_digitBelow_9
def f_X1_readsHours_L2 (bS : Nat) (b1 : Nat) : Nat → SX → Int32 → Option (Int32 × SX)
  | 0, _, _ => none
  | n + 1, σ, y2 => if (6 : Int32) ≤ y2 then (if (gF σ b1 0) ≤ 0 then (some ((0 : Int32), σ)) else (some ((1 : Int32), σ))) else (ob2 (f_X1_digitBelow σ bS (10 : Int32) (-9 : Int32)) (fun r_13 s_13 => if 0 ≤ r_13 then (ob2 (f_X0_addHour s_13 b1 r_13) (fun r_26 s_26 => f_X1_readsHours_L2 bS b1 n s_26 (y2 + (1 : Int32)))) else (if (gF s_13 b1 0) ≤ 0 then (some ((0 : Int32), s_13)) else (some ((1 : Int32), s_13)))))
def f_X1_readsHours (σ : SX) (bS : Nat) (b1 : Nat) : Option (Int32 × SX) := f_X1_readsHours_L2 bS b1 100 σ (0 : Int32)
set_option maxRecDepth 100000 in
set_option maxHeartbeats 4000000 in
theorem k_X1_readsHours (l : Launch) {D : va_G} {A : Nat → Prop} {cI cZ cS : ClassId} {ad : Nat → Nat} (hAd : ∀ ro σ, va_D A (WX cI cZ cS ad ro σ)) {σ : SX} {bS : Nat} {b1 : Nat} {σ' : SX} {r : Int32} (hbS : isSh bS) (hb1 : isDy b1) (h : f_X1_readsHours σ bS b1 = some (r, σ')) : Ct (QI D A r (WX cI cZ cS ad (some bS) (σ'))) l yX1_readsHours cX1_readsHours 4 (some .boolean) 3 65 D (tyS cI cZ cS) A [.ref (ad 24), .ref (ad b1)] (WX cI cZ cS ad (some bS) σ) := by
  refine Ct.of (by decide +kernel) (Nat.le_of_ble_eq_true rfl) ?_
  intro p e s m below meth c ls S hK hr hlocks hP hS hl
  have hx := S.1
  have hb := S.2.1
  have hl : lv_has ls 4 [(0, .ref (ad 24)), (1, .ref (ad b1))] := hl
  have loop2 : ∀ (n : Nat) (σ : SX) (y2 : Int32) (H : Heap) (locs : List Loc) (ls : Array Slot), f_X1_readsHours_L2 bS b1 n σ y2 = some (r, σ') → va_P D vwCl (WX cI cZ cS ad (some bS) σ) H → va_S A s.heap H locs → lv_has ls 4 [(0, .ref (ad 24)), (1, .ref (ad b1)), (2, .int y2)] → W p l e (rmO 3 65) s m [.ref (ad 24), .ref (ad b1)].toArray below meth c H locs 0 0 (MQ below (QI D A r (WX cI cZ cS ad (some bS) (σ'))) [.ref (ad 24), .ref (ad b1)].toArray s 0 0 A) (F0 m 2 ls []) := by
    intro n
    induction n with
    | zero => intro σ y2 H locs ls h; cases h
    | succ n ih =>
      intro σ y2 H locs ls h hP hS hl
      rw [f_X1_readsHours_L2] at h
      refine lv_iload_n hx hb dX1_readsHours_2 rfl (lv_at hl 2 rfl) ?_
      refine lv_bipush (v := (6 : Int32)) hx hb dX1_readsHours_3 (by decide) ?_
      refine lv_icmp_ge (tgt := 35) hx hb dX1_readsHours_5 (by decide) (fun c_5 => ?_) (fun c_5 => ?_)
      · replace h := ite_t c_5 h
        refine lv_aload_n hx hb dX1_readsHours_35 rfl (lv_at hl 1 rfl) ?_
        refine gt_X1_52 S hK hP hb1 dX1_readsHours_36 ?_
        refine lv_if_le (tgt := 46) hx hb dX1_readsHours_39 (by decide) (fun c_39 => ?_) (fun c_39 => ?_)
        · replace h := ite_t c_39 h
          refine lv_iconst (v := (0 : Int32)) hx hb dX1_readsHours_46 (by decide) ?_
          obtain ⟨rfl, rfl⟩ := some_pair h
          exact k_zret S hr hlocks hP hS rfl (Or.inl rfl) dX1_readsHours_47
        · replace h := ite_f c_39 h
          refine lv_iconst (v := (1 : Int32)) hx hb dX1_readsHours_42 (by decide) ?_
          refine lv_goto (tgt := 47) hx hb dX1_readsHours_43 (by decide) ?_
          obtain ⟨rfl, rfl⟩ := some_pair h
          exact k_zret S hr hlocks hP hS rfl (Or.inr rfl) dX1_readsHours_47
      · replace h := ite_f c_5 h
        refine lv_aload_n hx hb dX1_readsHours_8 rfl (lv_at hl 0 rfl) ?_
        refine lv_bipush (v := (10 : Int32)) hx hb dX1_readsHours_9 (by decide) ?_
        refine lv_bipush (v := (-9 : Int32)) hx hb dX1_readsHours_11 (by decide) ?_
        obtain ⟨r_13, s_13, e_13, h⟩ := ob2_of h
        refine k_goI (k_runV (As := [.int (10 : Int32), .int (-9 : Int32)]) (rest := []) S hK hP (k_X1_digitBelow l hAd hbS e_13) cy_X1_digitBelow wd_276 rfl xR rfl hl.1 rfl (Nat.le_of_ble_eq_true rfl) dX1_readsHours_13 ⟨Nat.le_of_ble_eq_true rfl, Nat.le_of_ble_eq_true rfl⟩ ⟨Nat.zero_le _, Nat.zero_le _⟩) hS (fun _ h => h) (fun H locs hP hS _ _ => ?_)
        refine lv_istore_n (lv' := [(3, .int r_13), (0, .ref (ad 24)), (1, .ref (ad b1)), (2, .int y2)]) hx hb dX1_readsHours_16 rfl hl (by decide) rfl (fun ls hl => ?_)
        refine lv_iload_n hx hb dX1_readsHours_17 rfl (lv_at hl 0 rfl) ?_
        refine lv_if_ge (tgt := 24) hx hb dX1_readsHours_18 (by decide) (fun c_18 => ?_) (fun c_18 => ?_)
        · replace h := ite_t c_18 h
          refine lv_aload_n hx hb dX1_readsHours_24 rfl (lv_at hl 2 rfl) ?_
          refine lv_iload_n hx hb dX1_readsHours_25 rfl (lv_at hl 0 rfl) ?_
          obtain ⟨r_26, s_26, e_26, h⟩ := ob2_of h
          refine k_goV (k_runV (As := [.int r_13]) (rest := []) S hK hP (k_X0_addHour l hAd hb1 e_26) cy_X0_addHour wd_280 rfl (xD hb1) rfl hl.1 rfl (Nat.le_of_ble_eq_true rfl) dX1_readsHours_26 ⟨Nat.le_of_ble_eq_true rfl, Nat.le_of_ble_eq_true rfl⟩ ⟨Nat.zero_le _, Nat.zero_le _⟩) hS (fun _ h => h) (fun H locs hP hS _ _ => ?_)
          refine lv_iinc (v := y2 + (1 : Int32)) (lv' := [(2, .int (y2 + (1 : Int32))), (3, .int r_13), (0, .ref (ad 24)), (1, .ref (ad b1))]) hx hb dX1_readsHours_29 hl (k := 3) rfl rfl (by decide) rfl (fun ls hl => ?_)
          refine lv_goto (tgt := 2) hx hb dX1_readsHours_32 (by decide) ?_
          exact ih s_26 (y2 + (1 : Int32)) _ _ _ h hP hS (lv_sub hl [2, 3, 0] rfl)
        · replace h := ite_f c_18 h
          refine lv_goto (tgt := 35) hx hb dX1_readsHours_21 (by decide) ?_
          refine lv_aload_n hx hb dX1_readsHours_35 rfl (lv_at hl 2 rfl) ?_
          refine gt_X1_52 S hK hP hb1 dX1_readsHours_36 ?_
          refine lv_if_le (tgt := 46) hx hb dX1_readsHours_39 (by decide) (fun c_39 => ?_) (fun c_39 => ?_)
          · replace h := ite_t c_39 h
            refine lv_iconst (v := (0 : Int32)) hx hb dX1_readsHours_46 (by decide) ?_
            obtain ⟨rfl, rfl⟩ := some_pair h
            exact k_zret S hr hlocks hP hS rfl (Or.inl rfl) dX1_readsHours_47
          · replace h := ite_f c_39 h
            refine lv_iconst (v := (1 : Int32)) hx hb dX1_readsHours_42 (by decide) ?_
            refine lv_goto (tgt := 47) hx hb dX1_readsHours_43 (by decide) ?_
            obtain ⟨rfl, rfl⟩ := some_pair h
            exact k_zret S hr hlocks hP hS rfl (Or.inr rfl) dX1_readsHours_47
  rw [f_X1_readsHours] at h
  refine lv_iconst (v := (0 : Int32)) hx hb dX1_readsHours_0 (by decide) ?_
  refine lv_istore_n (lv' := [(2, .int (0 : Int32)), (0, .ref (ad 24)), (1, .ref (ad b1))]) hx hb dX1_readsHours_1 rfl hl (by decide) rfl (fun ls hl => ?_)
  exact loop2 100 σ (0 : Int32) _ _ _ h hP hS (lv_sub hl [1, 2, 0] rfl)
def f_X1_kindLetter (σ : SX) (bS : Nat) : Option (Int32 × SX) := ob2 (f_X1_passes σ bS (112 : Int32)) (fun r_3 s_3 => if r_3 = 0 then (ob2 (f_X1_passes s_3 bS (98 : Int32)) (fun r_14 s_14 => if r_14 = 0 then (ob2 (f_X1_passes s_14 bS (100 : Int32)) (fun r_25 s_25 => if r_25 = 0 then (some ((-9 : Int32), s_25)) else (some ((2 : Int32), s_25)))) else (some ((1 : Int32), s_14)))) else (some ((0 : Int32), s_3)))
set_option maxRecDepth 100000 in
set_option maxHeartbeats 4000000 in
theorem k_X1_kindLetter (l : Launch) {D : va_G} {A : Nat → Prop} {cI cZ cS : ClassId} {ad : Nat → Nat} (hAd : ∀ ro σ, va_D A (WX cI cZ cS ad ro σ)) {σ : SX} {bS : Nat} {σ' : SX} {r : Int32} (hbS : isSh bS) (h : f_X1_kindLetter σ bS = some (r, σ')) : Ct (QI D A r (WX cI cZ cS ad (some bS) (σ'))) l yX1_kindLetter cX1_kindLetter 1 (some .int) 3 63 D (tyS cI cZ cS) A [.ref (ad 24)] (WX cI cZ cS ad (some bS) σ) := by
  refine Ct.of (by decide +kernel) (Nat.le_of_ble_eq_true rfl) ?_
  intro p e s m below meth c ls S hK hr hlocks hP hS hl
  have hx := S.1
  have hb := S.2.1
  have hl : lv_has ls 1 [(0, .ref (ad 24))] := hl
  rw [f_X1_kindLetter] at h
  refine lv_aload_n hx hb dX1_kindLetter_0 rfl (lv_at hl 0 rfl) ?_
  refine lv_bipush (v := (112 : Int32)) hx hb dX1_kindLetter_1 (by decide) ?_
  obtain ⟨r_3, s_3, e_3, h⟩ := ob2_of h
  refine k_goI (k_runV (As := [.int (112 : Int32)]) (rest := []) S hK hP (k_X1_passes l hAd hbS e_3) cy_X1_passes wd_256 rfl xR rfl hl.1 rfl (Nat.le_of_ble_eq_true rfl) dX1_kindLetter_3 ⟨Nat.le_of_ble_eq_true rfl, Nat.le_of_ble_eq_true rfl⟩ ⟨Nat.zero_le _, Nat.zero_le _⟩) hS (fun _ h => h) (fun H locs hP hS _ _ => ?_)
  refine lv_if_eq (tgt := 11) hx hb dX1_kindLetter_6 (by decide) (fun c_6 => ?_) (fun c_6 => ?_)
  · replace h := ite_t c_6 h
    refine lv_aload_n hx hb dX1_kindLetter_11 rfl (lv_at hl 0 rfl) ?_
    refine lv_bipush (v := (98 : Int32)) hx hb dX1_kindLetter_12 (by decide) ?_
    obtain ⟨r_14, s_14, e_14, h⟩ := ob2_of h
    refine k_goI (k_runV (As := [.int (98 : Int32)]) (rest := []) S hK hP (k_X1_passes l hAd hbS e_14) cy_X1_passes wd_256 rfl xR rfl hl.1 rfl (Nat.le_of_ble_eq_true rfl) dX1_kindLetter_14 ⟨Nat.le_of_ble_eq_true rfl, Nat.le_of_ble_eq_true rfl⟩ ⟨Nat.zero_le _, Nat.zero_le _⟩) hS (fun _ h => h) (fun H locs hP hS _ _ => ?_)
    refine lv_if_eq (tgt := 22) hx hb dX1_kindLetter_17 (by decide) (fun c_17 => ?_) (fun c_17 => ?_)
    · replace h := ite_t c_17 h
      refine lv_aload_n hx hb dX1_kindLetter_22 rfl (lv_at hl 0 rfl) ?_
      refine lv_bipush (v := (100 : Int32)) hx hb dX1_kindLetter_23 (by decide) ?_
      obtain ⟨r_25, s_25, e_25, h⟩ := ob2_of h
      refine k_goI (k_runV (As := [.int (100 : Int32)]) (rest := []) S hK hP (k_X1_passes l hAd hbS e_25) cy_X1_passes wd_256 rfl xR rfl hl.1 rfl (Nat.le_of_ble_eq_true rfl) dX1_kindLetter_25 ⟨Nat.le_of_ble_eq_true rfl, Nat.le_of_ble_eq_true rfl⟩ ⟨Nat.zero_le _, Nat.zero_le _⟩) hS (fun _ h => h) (fun H locs hP hS _ _ => ?_)
      refine lv_if_eq (tgt := 35) hx hb dX1_kindLetter_28 (by decide) (fun c_28 => ?_) (fun c_28 => ?_)
      · replace h := ite_t c_28 h
        refine lv_bipush (v := (-9 : Int32)) hx hb dX1_kindLetter_35 (by decide) ?_
        obtain ⟨rfl, rfl⟩ := some_pair h
        exact k_iret S hr hlocks hP hS rfl dX1_kindLetter_37
      · replace h := ite_f c_28 h
        refine lv_iconst (v := (2 : Int32)) hx hb dX1_kindLetter_31 (by decide) ?_
        refine lv_goto (tgt := 37) hx hb dX1_kindLetter_32 (by decide) ?_
        obtain ⟨rfl, rfl⟩ := some_pair h
        exact k_iret S hr hlocks hP hS rfl dX1_kindLetter_37
    · replace h := ite_f c_17 h
      refine lv_iconst (v := (1 : Int32)) hx hb dX1_kindLetter_20 (by decide) ?_
      obtain ⟨rfl, rfl⟩ := some_pair h
      exact k_iret S hr hlocks hP hS rfl dX1_kindLetter_21
  · replace h := ite_f c_6 h
    refine lv_iconst (v := (0 : Int32)) hx hb dX1_kindLetter_9 (by decide) ?_
    obtain ⟨rfl, rfl⟩ := some_pair h
    exact k_iret S hr hlocks hP hS rfl dX1_kindLetter_10
def f_X1_readsSwearers_L2 (bS : Nat) (b1 : Nat) : Nat → SX → Int32 → Option (Int32 × SX)
  | 0, _, _ => none
  | n + 1, σ, y2 => if (4 : Int32) ≤ y2 then (if (gF σ b1 1) ≤ 0 then (some ((0 : Int32), σ)) else (some ((1 : Int32), σ))) else (ob2 (f_X1_passes σ bS (59 : Int32)) (fun r_10 s_10 => if r_10 = 0 then (if (gF s_10 b1 1) ≤ 0 then (some ((0 : Int32), s_10)) else (some ((1 : Int32), s_10))) else (ob2 (f_X1_kindLetter s_10 bS) (fun r_17 s_17 => if 0 ≤ r_17 then (ob2 (f_X1_digitBelow s_17 bS (10 : Int32) (-9 : Int32)) (fun r_32 s_32 => if 0 ≤ r_32 then (ob2 (f_X0_addSwearer s_32 b1 r_17 r_32) (fun r_48 s_48 => f_X1_readsSwearers_L2 bS b1 n s_48 (y2 + (1 : Int32)))) else (some ((0 : Int32), s_32)))) else (some ((0 : Int32), s_17))))))
def f_X1_readsSwearers (σ : SX) (bS : Nat) (b1 : Nat) : Option (Int32 × SX) := f_X1_readsSwearers_L2 bS b1 100 σ (0 : Int32)
set_option maxRecDepth 100000 in
set_option maxHeartbeats 4000000 in
theorem k_X1_readsSwearers (l : Launch) {D : va_G} {A : Nat → Prop} {cI cZ cS : ClassId} {ad : Nat → Nat} (hAd : ∀ ro σ, va_D A (WX cI cZ cS ad ro σ)) {σ : SX} {bS : Nat} {b1 : Nat} {σ' : SX} {r : Int32} (hbS : isSh bS) (hb1 : isDy b1) (h : f_X1_readsSwearers σ bS b1 = some (r, σ')) : Ct (QI D A r (WX cI cZ cS ad (some bS) (σ'))) l yX1_readsSwearers cX1_readsSwearers 5 (some .boolean) 4 83 D (tyS cI cZ cS) A [.ref (ad 24), .ref (ad b1)] (WX cI cZ cS ad (some bS) σ) := by
  refine Ct.of (by decide +kernel) (Nat.le_of_ble_eq_true rfl) ?_
  intro p e s m below meth c ls S hK hr hlocks hP hS hl
  have hx := S.1
  have hb := S.2.1
  have hl : lv_has ls 5 [(0, .ref (ad 24)), (1, .ref (ad b1))] := hl
  have loop2 : ∀ (n : Nat) (σ : SX) (y2 : Int32) (H : Heap) (locs : List Loc) (ls : Array Slot), f_X1_readsSwearers_L2 bS b1 n σ y2 = some (r, σ') → va_P D vwCl (WX cI cZ cS ad (some bS) σ) H → va_S A s.heap H locs → lv_has ls 5 [(0, .ref (ad 24)), (1, .ref (ad b1)), (2, .int y2)] → W p l e (rmO 4 83) s m [.ref (ad 24), .ref (ad b1)].toArray below meth c H locs 0 0 (MQ below (QI D A r (WX cI cZ cS ad (some bS) (σ'))) [.ref (ad 24), .ref (ad b1)].toArray s 0 0 A) (F0 m 2 ls []) := by
    intro n
    induction n with
    | zero => intro σ y2 H locs ls h; cases h
    | succ n ih =>
      intro σ y2 H locs ls h hP hS hl
      rw [f_X1_readsSwearers_L2] at h
      refine lv_iload_n hx hb dX1_readsSwearers_2 rfl (lv_at hl 2 rfl) ?_
      refine lv_iconst (v := (4 : Int32)) hx hb dX1_readsSwearers_3 (by decide) ?_
      refine lv_icmp_ge (tgt := 57) hx hb dX1_readsSwearers_4 (by decide) (fun c_4 => ?_) (fun c_4 => ?_)
      · replace h := ite_t c_4 h
        refine lv_aload_n hx hb dX1_readsSwearers_57 rfl (lv_at hl 1 rfl) ?_
        refine gt_X1_63 S hK hP hb1 dX1_readsSwearers_58 ?_
        refine lv_if_le (tgt := 68) hx hb dX1_readsSwearers_61 (by decide) (fun c_61 => ?_) (fun c_61 => ?_)
        · replace h := ite_t c_61 h
          refine lv_iconst (v := (0 : Int32)) hx hb dX1_readsSwearers_68 (by decide) ?_
          obtain ⟨rfl, rfl⟩ := some_pair h
          exact k_zret S hr hlocks hP hS rfl (Or.inl rfl) dX1_readsSwearers_69
        · replace h := ite_f c_61 h
          refine lv_iconst (v := (1 : Int32)) hx hb dX1_readsSwearers_64 (by decide) ?_
          refine lv_goto (tgt := 69) hx hb dX1_readsSwearers_65 (by decide) ?_
          obtain ⟨rfl, rfl⟩ := some_pair h
          exact k_zret S hr hlocks hP hS rfl (Or.inr rfl) dX1_readsSwearers_69
      · replace h := ite_f c_4 h
        refine lv_aload_n hx hb dX1_readsSwearers_7 rfl (lv_at hl 0 rfl) ?_
        refine lv_bipush (v := (59 : Int32)) hx hb dX1_readsSwearers_8 (by decide) ?_
        obtain ⟨r_10, s_10, e_10, h⟩ := ob2_of h
        refine k_goI (k_runV (As := [.int (59 : Int32)]) (rest := []) S hK hP (k_X1_passes l hAd hbS e_10) cy_X1_passes wd_256 rfl xR rfl hl.1 rfl (Nat.le_of_ble_eq_true rfl) dX1_readsSwearers_10 ⟨Nat.le_of_ble_eq_true rfl, Nat.le_of_ble_eq_true rfl⟩ ⟨Nat.zero_le _, Nat.zero_le _⟩) hS (fun _ h => h) (fun H locs hP hS _ _ => ?_)
        refine lv_if_eq (tgt := 57) hx hb dX1_readsSwearers_13 (by decide) (fun c_13 => ?_) (fun c_13 => ?_)
        · replace h := ite_t c_13 h
          refine lv_aload_n hx hb dX1_readsSwearers_57 rfl (lv_at hl 1 rfl) ?_
          refine gt_X1_63 S hK hP hb1 dX1_readsSwearers_58 ?_
          refine lv_if_le (tgt := 68) hx hb dX1_readsSwearers_61 (by decide) (fun c_61 => ?_) (fun c_61 => ?_)
          · replace h := ite_t c_61 h
            refine lv_iconst (v := (0 : Int32)) hx hb dX1_readsSwearers_68 (by decide) ?_
            obtain ⟨rfl, rfl⟩ := some_pair h
            exact k_zret S hr hlocks hP hS rfl (Or.inl rfl) dX1_readsSwearers_69
          · replace h := ite_f c_61 h
            refine lv_iconst (v := (1 : Int32)) hx hb dX1_readsSwearers_64 (by decide) ?_
            refine lv_goto (tgt := 69) hx hb dX1_readsSwearers_65 (by decide) ?_
            obtain ⟨rfl, rfl⟩ := some_pair h
            exact k_zret S hr hlocks hP hS rfl (Or.inr rfl) dX1_readsSwearers_69
        · replace h := ite_f c_13 h
          refine lv_aload_n hx hb dX1_readsSwearers_16 rfl (lv_at hl 0 rfl) ?_
          obtain ⟨r_17, s_17, e_17, h⟩ := ob2_of h
          refine k_goI (k_runV (As := []) (rest := []) S hK hP (k_X1_kindLetter l hAd hbS e_17) cy_X1_kindLetter wd_288 rfl xR rfl hl.1 rfl (Nat.le_of_ble_eq_true rfl) dX1_readsSwearers_17 ⟨Nat.le_of_ble_eq_true rfl, Nat.le_of_ble_eq_true rfl⟩ ⟨Nat.zero_le _, Nat.zero_le _⟩) hS (fun _ h => h) (fun H locs hP hS _ _ => ?_)
          refine lv_istore_n (lv' := [(3, .int r_17), (0, .ref (ad 24)), (1, .ref (ad b1)), (2, .int y2)]) hx hb dX1_readsSwearers_20 rfl hl (by decide) rfl (fun ls hl => ?_)
          refine lv_iload_n hx hb dX1_readsSwearers_21 rfl (lv_at hl 0 rfl) ?_
          refine lv_if_ge (tgt := 27) hx hb dX1_readsSwearers_22 (by decide) (fun c_22 => ?_) (fun c_22 => ?_)
          · replace h := ite_t c_22 h
            refine lv_aload_n hx hb dX1_readsSwearers_27 rfl (lv_at hl 1 rfl) ?_
            refine lv_bipush (v := (10 : Int32)) hx hb dX1_readsSwearers_28 (by decide) ?_
            refine lv_bipush (v := (-9 : Int32)) hx hb dX1_readsSwearers_30 (by decide) ?_
            obtain ⟨r_32, s_32, e_32, h⟩ := ob2_of h
            refine k_goI (k_runV (As := [.int (10 : Int32), .int (-9 : Int32)]) (rest := []) S hK hP (k_X1_digitBelow l hAd hbS e_32) cy_X1_digitBelow wd_276 rfl xR rfl hl.1 rfl (Nat.le_of_ble_eq_true rfl) dX1_readsSwearers_32 ⟨Nat.le_of_ble_eq_true rfl, Nat.le_of_ble_eq_true rfl⟩ ⟨Nat.zero_le _, Nat.zero_le _⟩) hS (fun _ h => h) (fun H locs hP hS _ _ => ?_)
            refine lv_istore (lv' := [(4, .int r_32), (3, .int r_17), (0, .ref (ad 24)), (1, .ref (ad b1)), (2, .int y2)]) hx hb dX1_readsSwearers_35 hl (by decide) rfl (fun ls hl => ?_)
            refine lv_iload hx hb dX1_readsSwearers_37 (lv_at hl 0 rfl) ?_
            refine lv_if_ge (tgt := 44) hx hb dX1_readsSwearers_39 (by decide) (fun c_39 => ?_) (fun c_39 => ?_)
            · replace h := ite_t c_39 h
              refine lv_aload_n hx hb dX1_readsSwearers_44 rfl (lv_at hl 3 rfl) ?_
              refine lv_iload_n hx hb dX1_readsSwearers_45 rfl (lv_at hl 1 rfl) ?_
              refine lv_iload hx hb dX1_readsSwearers_46 (lv_at hl 0 rfl) ?_
              obtain ⟨r_48, s_48, e_48, h⟩ := ob2_of h
              refine k_goV (k_runV (As := [.int r_17, .int r_32]) (rest := []) S hK hP (k_X0_addSwearer l hAd hb1 e_48) cy_X0_addSwearer wd_292 rfl (xD hb1) rfl hl.1 rfl (Nat.le_of_ble_eq_true rfl) dX1_readsSwearers_48 ⟨Nat.le_of_ble_eq_true rfl, Nat.le_of_ble_eq_true rfl⟩ ⟨Nat.zero_le _, Nat.zero_le _⟩) hS (fun _ h => h) (fun H locs hP hS _ _ => ?_)
              refine lv_iinc (v := y2 + (1 : Int32)) (lv' := [(2, .int (y2 + (1 : Int32))), (4, .int r_32), (3, .int r_17), (0, .ref (ad 24)), (1, .ref (ad b1))]) hx hb dX1_readsSwearers_51 hl (k := 4) rfl rfl (by decide) rfl (fun ls hl => ?_)
              refine lv_goto (tgt := 2) hx hb dX1_readsSwearers_54 (by decide) ?_
              exact ih s_48 (y2 + (1 : Int32)) _ _ _ h hP hS (lv_sub hl [3, 4, 0] rfl)
            · replace h := ite_f c_39 h
              refine lv_iconst (v := (0 : Int32)) hx hb dX1_readsSwearers_42 (by decide) ?_
              obtain ⟨rfl, rfl⟩ := some_pair h
              exact k_zret S hr hlocks hP hS rfl (Or.inl rfl) dX1_readsSwearers_43
          · replace h := ite_f c_22 h
            refine lv_iconst (v := (0 : Int32)) hx hb dX1_readsSwearers_25 (by decide) ?_
            obtain ⟨rfl, rfl⟩ := some_pair h
            exact k_zret S hr hlocks hP hS rfl (Or.inl rfl) dX1_readsSwearers_26
  rw [f_X1_readsSwearers] at h
  refine lv_iconst (v := (0 : Int32)) hx hb dX1_readsSwearers_0 (by decide) ?_
  refine lv_istore_n (lv' := [(2, .int (0 : Int32)), (0, .ref (ad 24)), (1, .ref (ad b1))]) hx hb dX1_readsSwearers_1 rfl hl (by decide) rfl (fun ls hl => ?_)
  exact loop2 100 σ (0 : Int32) _ _ _ h hP hS (lv_sub hl [1, 2, 0] rfl)
def f_X1_readsOaths_L2 (bS : Nat) (b1 : Nat) : Nat → SX → Int32 → Option (Int32 × SX)
  | 0, _, _ => none
  | n + 1, σ, y2 => if (6 : Int32) ≤ y2 then (some ((1 : Int32), σ)) else (ob2 (f_X1_passes σ bS (44 : Int32)) (fun r_11 s_11 => if r_11 = 0 then (some ((1 : Int32), s_11)) else (ob2 (f_X1_digitBelow s_11 bS (gF s_11 b1 1) (-9 : Int32)) (fun r_24 s_24 => if 0 ≤ r_24 then (ob2 (f_X1_digitBelow s_24 bS (gF s_24 b1 1) r_24) (fun r_40 s_40 => if 0 ≤ r_40 then (ob2 (f_X1_digitBelow s_40 bS (gF s_40 b1 0) (-9 : Int32)) (fun r_59 s_59 => if 0 ≤ r_59 then (ob2 (f_X0_addOath s_59 b1 r_24 r_40 r_59) (fun r_77 s_77 => f_X1_readsOaths_L2 bS b1 n s_77 (y2 + (1 : Int32)))) else (some ((0 : Int32), s_59)))) else (some ((0 : Int32), s_40)))) else (some ((0 : Int32), s_24))))))
def f_X1_readsOaths (σ : SX) (bS : Nat) (b1 : Nat) : Option (Int32 × SX) := f_X1_readsOaths_L2 bS b1 100 σ (0 : Int32)
set_option maxRecDepth 100000 in
set_option maxHeartbeats 4000000 in
theorem k_X1_readsOaths (l : Launch) {D : va_G} {A : Nat → Prop} {cI cZ cS : ClassId} {ad : Nat → Nat} (hAd : ∀ ro σ, va_D A (WX cI cZ cS ad ro σ)) {σ : SX} {bS : Nat} {b1 : Nat} {σ' : SX} {r : Int32} (hbS : isSh bS) (hb1 : isDy b1) (h : f_X1_readsOaths σ bS b1 = some (r, σ')) : Ct (QI D A r (WX cI cZ cS ad (some bS) (σ'))) l yX1_readsOaths cX1_readsOaths 6 (some .boolean) 3 65 D (tyS cI cZ cS) A [.ref (ad 24), .ref (ad b1)] (WX cI cZ cS ad (some bS) σ) := by
  refine Ct.of (by decide +kernel) (Nat.le_of_ble_eq_true rfl) ?_
  intro p e s m below meth c ls S hK hr hlocks hP hS hl
  have hx := S.1
  have hb := S.2.1
  have hl : lv_has ls 6 [(0, .ref (ad 24)), (1, .ref (ad b1))] := hl
  have loop2 : ∀ (n : Nat) (σ : SX) (y2 : Int32) (H : Heap) (locs : List Loc) (ls : Array Slot), f_X1_readsOaths_L2 bS b1 n σ y2 = some (r, σ') → va_P D vwCl (WX cI cZ cS ad (some bS) σ) H → va_S A s.heap H locs → lv_has ls 6 [(0, .ref (ad 24)), (1, .ref (ad b1)), (2, .int y2)] → W p l e (rmO 3 65) s m [.ref (ad 24), .ref (ad b1)].toArray below meth c H locs 0 0 (MQ below (QI D A r (WX cI cZ cS ad (some bS) (σ'))) [.ref (ad 24), .ref (ad b1)].toArray s 0 0 A) (F0 m 2 ls []) := by
    intro n
    induction n with
    | zero => intro σ y2 H locs ls h; cases h
    | succ n ih =>
      intro σ y2 H locs ls h hP hS hl
      rw [f_X1_readsOaths_L2] at h
      refine lv_iload_n hx hb dX1_readsOaths_2 rfl (lv_at hl 2 rfl) ?_
      refine lv_bipush (v := (6 : Int32)) hx hb dX1_readsOaths_3 (by decide) ?_
      refine lv_icmp_ge (tgt := 86) hx hb dX1_readsOaths_5 (by decide) (fun c_5 => ?_) (fun c_5 => ?_)
      · replace h := ite_t c_5 h
        refine lv_iconst (v := (1 : Int32)) hx hb dX1_readsOaths_86 (by decide) ?_
        obtain ⟨rfl, rfl⟩ := some_pair h
        exact k_zret S hr hlocks hP hS rfl (Or.inr rfl) dX1_readsOaths_87
      · replace h := ite_f c_5 h
        refine lv_aload_n hx hb dX1_readsOaths_8 rfl (lv_at hl 0 rfl) ?_
        refine lv_bipush (v := (44 : Int32)) hx hb dX1_readsOaths_9 (by decide) ?_
        obtain ⟨r_11, s_11, e_11, h⟩ := ob2_of h
        refine k_goI (k_runV (As := [.int (44 : Int32)]) (rest := []) S hK hP (k_X1_passes l hAd hbS e_11) cy_X1_passes wd_256 rfl xR rfl hl.1 rfl (Nat.le_of_ble_eq_true rfl) dX1_readsOaths_11 ⟨Nat.le_of_ble_eq_true rfl, Nat.le_of_ble_eq_true rfl⟩ ⟨Nat.zero_le _, Nat.zero_le _⟩) hS (fun _ h => h) (fun H locs hP hS _ _ => ?_)
        refine lv_if_eq (tgt := 86) hx hb dX1_readsOaths_14 (by decide) (fun c_14 => ?_) (fun c_14 => ?_)
        · replace h := ite_t c_14 h
          refine lv_iconst (v := (1 : Int32)) hx hb dX1_readsOaths_86 (by decide) ?_
          obtain ⟨rfl, rfl⟩ := some_pair h
          exact k_zret S hr hlocks hP hS rfl (Or.inr rfl) dX1_readsOaths_87
        · replace h := ite_f c_14 h
          refine lv_aload_n hx hb dX1_readsOaths_17 rfl (lv_at hl 0 rfl) ?_
          refine lv_aload_n hx hb dX1_readsOaths_18 rfl (lv_at hl 1 rfl) ?_
          refine gt_X1_63 S hK hP hb1 dX1_readsOaths_19 ?_
          refine lv_bipush (v := (-9 : Int32)) hx hb dX1_readsOaths_22 (by decide) ?_
          obtain ⟨r_24, s_24, e_24, h⟩ := ob2_of h
          refine k_goI (k_runV (As := [.int (gF s_11 b1 1), .int (-9 : Int32)]) (rest := []) S hK hP (k_X1_digitBelow l hAd hbS e_24) cy_X1_digitBelow wd_276 rfl xR rfl hl.1 rfl (Nat.le_of_ble_eq_true rfl) dX1_readsOaths_24 ⟨Nat.le_of_ble_eq_true rfl, Nat.le_of_ble_eq_true rfl⟩ ⟨Nat.zero_le _, Nat.zero_le _⟩) hS (fun _ h => h) (fun H locs hP hS _ _ => ?_)
          refine lv_istore_n (lv' := [(3, .int r_24), (0, .ref (ad 24)), (1, .ref (ad b1)), (2, .int y2)]) hx hb dX1_readsOaths_27 rfl hl (by decide) rfl (fun ls hl => ?_)
          refine lv_iload_n hx hb dX1_readsOaths_28 rfl (lv_at hl 0 rfl) ?_
          refine lv_if_ge (tgt := 34) hx hb dX1_readsOaths_29 (by decide) (fun c_29 => ?_) (fun c_29 => ?_)
          · replace h := ite_t c_29 h
            refine lv_aload_n hx hb dX1_readsOaths_34 rfl (lv_at hl 1 rfl) ?_
            refine lv_aload_n hx hb dX1_readsOaths_35 rfl (lv_at hl 2 rfl) ?_
            refine gt_X1_63 S hK hP hb1 dX1_readsOaths_36 ?_
            refine lv_iload_n hx hb dX1_readsOaths_39 rfl (lv_at hl 0 rfl) ?_
            obtain ⟨r_40, s_40, e_40, h⟩ := ob2_of h
            refine k_goI (k_runV (As := [.int (gF s_24 b1 1), .int r_24]) (rest := []) S hK hP (k_X1_digitBelow l hAd hbS e_40) cy_X1_digitBelow wd_276 rfl xR rfl hl.1 rfl (Nat.le_of_ble_eq_true rfl) dX1_readsOaths_40 ⟨Nat.le_of_ble_eq_true rfl, Nat.le_of_ble_eq_true rfl⟩ ⟨Nat.zero_le _, Nat.zero_le _⟩) hS (fun _ h => h) (fun H locs hP hS _ _ => ?_)
            refine lv_istore (lv' := [(4, .int r_40), (3, .int r_24), (0, .ref (ad 24)), (1, .ref (ad b1)), (2, .int y2)]) hx hb dX1_readsOaths_43 hl (by decide) rfl (fun ls hl => ?_)
            refine lv_iload hx hb dX1_readsOaths_45 (lv_at hl 0 rfl) ?_
            refine lv_if_ge (tgt := 52) hx hb dX1_readsOaths_47 (by decide) (fun c_47 => ?_) (fun c_47 => ?_)
            · replace h := ite_t c_47 h
              refine lv_aload_n hx hb dX1_readsOaths_52 rfl (lv_at hl 2 rfl) ?_
              refine lv_aload_n hx hb dX1_readsOaths_53 rfl (lv_at hl 3 rfl) ?_
              refine gt_X1_52 S hK hP hb1 dX1_readsOaths_54 ?_
              refine lv_bipush (v := (-9 : Int32)) hx hb dX1_readsOaths_57 (by decide) ?_
              obtain ⟨r_59, s_59, e_59, h⟩ := ob2_of h
              refine k_goI (k_runV (As := [.int (gF s_40 b1 0), .int (-9 : Int32)]) (rest := []) S hK hP (k_X1_digitBelow l hAd hbS e_59) cy_X1_digitBelow wd_276 rfl xR rfl hl.1 rfl (Nat.le_of_ble_eq_true rfl) dX1_readsOaths_59 ⟨Nat.le_of_ble_eq_true rfl, Nat.le_of_ble_eq_true rfl⟩ ⟨Nat.zero_le _, Nat.zero_le _⟩) hS (fun _ h => h) (fun H locs hP hS _ _ => ?_)
              refine lv_istore (lv' := [(5, .int r_59), (4, .int r_40), (3, .int r_24), (0, .ref (ad 24)), (1, .ref (ad b1)), (2, .int y2)]) hx hb dX1_readsOaths_62 hl (by decide) rfl (fun ls hl => ?_)
              refine lv_iload hx hb dX1_readsOaths_64 (lv_at hl 0 rfl) ?_
              refine lv_if_ge (tgt := 71) hx hb dX1_readsOaths_66 (by decide) (fun c_66 => ?_) (fun c_66 => ?_)
              · replace h := ite_t c_66 h
                refine lv_aload_n hx hb dX1_readsOaths_71 rfl (lv_at hl 4 rfl) ?_
                refine lv_iload_n hx hb dX1_readsOaths_72 rfl (lv_at hl 2 rfl) ?_
                refine lv_iload hx hb dX1_readsOaths_73 (lv_at hl 1 rfl) ?_
                refine lv_iload hx hb dX1_readsOaths_75 (lv_at hl 0 rfl) ?_
                obtain ⟨r_77, s_77, e_77, h⟩ := ob2_of h
                refine k_goV (k_runV (As := [.int r_24, .int r_40, .int r_59]) (rest := []) S hK hP (k_X0_addOath l hAd hb1 e_77) cy_X0_addOath wd_300 rfl (xD hb1) rfl hl.1 rfl (Nat.le_of_ble_eq_true rfl) dX1_readsOaths_77 ⟨Nat.le_of_ble_eq_true rfl, Nat.le_of_ble_eq_true rfl⟩ ⟨Nat.zero_le _, Nat.zero_le _⟩) hS (fun _ h => h) (fun H locs hP hS _ _ => ?_)
                refine lv_iinc (v := y2 + (1 : Int32)) (lv' := [(2, .int (y2 + (1 : Int32))), (5, .int r_59), (4, .int r_40), (3, .int r_24), (0, .ref (ad 24)), (1, .ref (ad b1))]) hx hb dX1_readsOaths_80 hl (k := 5) rfl rfl (by decide) rfl (fun ls hl => ?_)
                refine lv_goto (tgt := 2) hx hb dX1_readsOaths_83 (by decide) ?_
                exact ih s_77 (y2 + (1 : Int32)) _ _ _ h hP hS (lv_sub hl [4, 5, 0] rfl)
              · replace h := ite_f c_66 h
                refine lv_iconst (v := (0 : Int32)) hx hb dX1_readsOaths_69 (by decide) ?_
                obtain ⟨rfl, rfl⟩ := some_pair h
                exact k_zret S hr hlocks hP hS rfl (Or.inl rfl) dX1_readsOaths_70
            · replace h := ite_f c_47 h
              refine lv_iconst (v := (0 : Int32)) hx hb dX1_readsOaths_50 (by decide) ?_
              obtain ⟨rfl, rfl⟩ := some_pair h
              exact k_zret S hr hlocks hP hS rfl (Or.inl rfl) dX1_readsOaths_51
          · replace h := ite_f c_29 h
            refine lv_iconst (v := (0 : Int32)) hx hb dX1_readsOaths_32 (by decide) ?_
            obtain ⟨rfl, rfl⟩ := some_pair h
            exact k_zret S hr hlocks hP hS rfl (Or.inl rfl) dX1_readsOaths_33
  rw [f_X1_readsOaths] at h
  refine lv_iconst (v := (0 : Int32)) hx hb dX1_readsOaths_0 (by decide) ?_
  refine lv_istore_n (lv' := [(2, .int (0 : Int32)), (0, .ref (ad 24)), (1, .ref (ad b1))]) hx hb dX1_readsOaths_1 rfl hl (by decide) rfl (fun ls hl => ?_)
  exact loop2 100 σ (0 : Int32) _ _ _ h hP hS (lv_sub hl [1, 2, 0] rfl)
def f_X1_reads (σ : SX) (bS : Nat) (b1 : Nat) : Option (Int32 × SX) := ob2 (f_X0_clear σ b1) (fun r_1 s_1 => ob2 (f_X1_passes s_1 bS (111 : Int32)) (fun r_7 s_7 => if r_7 = 0 then (some ((0 : Int32), s_7)) else (ob2 (f_X1_readsHours s_7 bS b1) (fun r_15 s_15 => if r_15 = 0 then (some ((0 : Int32), s_15)) else (ob2 (f_X1_readsSwearers s_15 bS b1) (fun r_23 s_23 => if r_23 = 0 then (some ((0 : Int32), s_23)) else (ob2 (f_X1_readsOaths s_23 bS b1) (fun r_31 s_31 => if r_31 = 0 then (some ((0 : Int32), s_31)) else (if (gF s_31 24 0) = (gF s_31 24 3) then (some ((1 : Int32), s_31)) else (some ((0 : Int32), s_31)))))))))))
set_option maxRecDepth 100000 in
set_option maxHeartbeats 4000000 in
theorem k_X1_reads (l : Launch) {D : va_G} {A : Nat → Prop} {cI cZ cS : ClassId} {ad : Nat → Nat} (hAd : ∀ ro σ, va_D A (WX cI cZ cS ad ro σ)) {σ : SX} {bS : Nat} {b1 : Nat} {σ' : SX} {r : Int32} (hbS : isSh bS) (hb1 : isDy b1) (h : f_X1_reads σ bS b1 = some (r, σ')) : Ct (QI D A r (WX cI cZ cS ad (some bS) (σ'))) l yX1_reads cX1_reads 2 (some .boolean) 5 107 D (tyS cI cZ cS) A [.ref (ad 24), .ref (ad b1)] (WX cI cZ cS ad (some bS) σ) := by
  refine Ct.of (by decide +kernel) (Nat.le_of_ble_eq_true rfl) ?_
  intro p e s m below meth c ls S hK hr hlocks hP hS hl
  have hx := S.1
  have hb := S.2.1
  have hl : lv_has ls 2 [(0, .ref (ad 24)), (1, .ref (ad b1))] := hl
  rw [f_X1_reads] at h
  refine lv_aload_n hx hb dX1_reads_0 rfl (lv_at hl 1 rfl) ?_
  obtain ⟨r_1, s_1, e_1, h⟩ := ob2_of h
  refine k_goV (k_runV (As := []) (rest := []) S hK hP (k_X0_clear l hAd hb1 e_1) cy_X0_clear wd_248 rfl (xD hb1) rfl hl.1 rfl (Nat.le_of_ble_eq_true rfl) dX1_reads_1 ⟨Nat.le_of_ble_eq_true rfl, Nat.le_of_ble_eq_true rfl⟩ ⟨Nat.zero_le _, Nat.zero_le _⟩) hS (fun _ h => h) (fun H locs hP hS _ _ => ?_)
  refine lv_aload_n hx hb dX1_reads_4 rfl (lv_at hl 0 rfl) ?_
  refine lv_bipush (v := (111 : Int32)) hx hb dX1_reads_5 (by decide) ?_
  obtain ⟨r_7, s_7, e_7, h⟩ := ob2_of h
  refine k_goI (k_runV (As := [.int (111 : Int32)]) (rest := []) S hK hP (k_X1_passes l hAd hbS e_7) cy_X1_passes wd_256 rfl xR rfl hl.1 rfl (Nat.le_of_ble_eq_true rfl) dX1_reads_7 ⟨Nat.le_of_ble_eq_true rfl, Nat.le_of_ble_eq_true rfl⟩ ⟨Nat.zero_le _, Nat.zero_le _⟩) hS (fun _ h => h) (fun H locs hP hS _ _ => ?_)
  refine lv_if_eq (tgt := 52) hx hb dX1_reads_10 (by decide) (fun c_10 => ?_) (fun c_10 => ?_)
  · replace h := ite_t c_10 h
    refine lv_iconst (v := (0 : Int32)) hx hb dX1_reads_52 (by decide) ?_
    obtain ⟨rfl, rfl⟩ := some_pair h
    exact k_zret S hr hlocks hP hS rfl (Or.inl rfl) dX1_reads_53
  · replace h := ite_f c_10 h
    refine lv_aload_n hx hb dX1_reads_13 rfl (lv_at hl 0 rfl) ?_
    refine lv_aload_n hx hb dX1_reads_14 rfl (lv_at hl 1 rfl) ?_
    obtain ⟨r_15, s_15, e_15, h⟩ := ob2_of h
    refine k_goI (k_runV (As := [.ref (ad b1)]) (rest := []) S hK hP (k_X1_readsHours l hAd hbS hb1 e_15) cy_X1_readsHours wd_272 rfl xR rfl hl.1 rfl (Nat.le_of_ble_eq_true rfl) dX1_reads_15 ⟨Nat.le_of_ble_eq_true rfl, Nat.le_of_ble_eq_true rfl⟩ ⟨Nat.zero_le _, Nat.zero_le _⟩) hS (fun _ h => h) (fun H locs hP hS _ _ => ?_)
    refine lv_if_eq (tgt := 52) hx hb dX1_reads_18 (by decide) (fun c_18 => ?_) (fun c_18 => ?_)
    · replace h := ite_t c_18 h
      refine lv_iconst (v := (0 : Int32)) hx hb dX1_reads_52 (by decide) ?_
      obtain ⟨rfl, rfl⟩ := some_pair h
      exact k_zret S hr hlocks hP hS rfl (Or.inl rfl) dX1_reads_53
    · replace h := ite_f c_18 h
      refine lv_aload_n hx hb dX1_reads_21 rfl (lv_at hl 0 rfl) ?_
      refine lv_aload_n hx hb dX1_reads_22 rfl (lv_at hl 1 rfl) ?_
      obtain ⟨r_23, s_23, e_23, h⟩ := ob2_of h
      refine k_goI (k_runV (As := [.ref (ad b1)]) (rest := []) S hK hP (k_X1_readsSwearers l hAd hbS hb1 e_23) cy_X1_readsSwearers wd_284 rfl xR rfl hl.1 rfl (Nat.le_of_ble_eq_true rfl) dX1_reads_23 ⟨Nat.le_of_ble_eq_true rfl, Nat.le_of_ble_eq_true rfl⟩ ⟨Nat.zero_le _, Nat.zero_le _⟩) hS (fun _ h => h) (fun H locs hP hS _ _ => ?_)
      refine lv_if_eq (tgt := 52) hx hb dX1_reads_26 (by decide) (fun c_26 => ?_) (fun c_26 => ?_)
      · replace h := ite_t c_26 h
        refine lv_iconst (v := (0 : Int32)) hx hb dX1_reads_52 (by decide) ?_
        obtain ⟨rfl, rfl⟩ := some_pair h
        exact k_zret S hr hlocks hP hS rfl (Or.inl rfl) dX1_reads_53
      · replace h := ite_f c_26 h
        refine lv_aload_n hx hb dX1_reads_29 rfl (lv_at hl 0 rfl) ?_
        refine lv_aload_n hx hb dX1_reads_30 rfl (lv_at hl 1 rfl) ?_
        obtain ⟨r_31, s_31, e_31, h⟩ := ob2_of h
        refine k_goI (k_runV (As := [.ref (ad b1)]) (rest := []) S hK hP (k_X1_readsOaths l hAd hbS hb1 e_31) cy_X1_readsOaths wd_296 rfl xR rfl hl.1 rfl (Nat.le_of_ble_eq_true rfl) dX1_reads_31 ⟨Nat.le_of_ble_eq_true rfl, Nat.le_of_ble_eq_true rfl⟩ ⟨Nat.zero_le _, Nat.zero_le _⟩) hS (fun _ h => h) (fun H locs hP hS _ _ => ?_)
        refine lv_if_eq (tgt := 52) hx hb dX1_reads_34 (by decide) (fun c_34 => ?_) (fun c_34 => ?_)
        · replace h := ite_t c_34 h
          refine lv_iconst (v := (0 : Int32)) hx hb dX1_reads_52 (by decide) ?_
          obtain ⟨rfl, rfl⟩ := some_pair h
          exact k_zret S hr hlocks hP hS rfl (Or.inl rfl) dX1_reads_53
        · replace h := ite_f c_34 h
          refine lv_aload_n hx hb dX1_reads_37 rfl (lv_at hl 0 rfl) ?_
          refine gt_X1_22 S hK hP dX1_reads_38 ?_
          refine lv_aload_n hx hb dX1_reads_41 rfl (lv_at hl 0 rfl) ?_
          refine gt_X1_19 S hK hP dX1_reads_42 ?_
          refine lv_icmp_ne (tgt := 52) hx hb dX1_reads_45 (by decide) (fun c_45 => ?_) (fun c_45 => ?_)
          · replace h := ite_f c_45 h
            refine lv_iconst (v := (0 : Int32)) hx hb dX1_reads_52 (by decide) ?_
            obtain ⟨rfl, rfl⟩ := some_pair h
            exact k_zret S hr hlocks hP hS rfl (Or.inl rfl) dX1_reads_53
          · replace h := ite_t c_45 h
            refine lv_iconst (v := (1 : Int32)) hx hb dX1_reads_48 (by decide) ?_
            refine lv_goto (tgt := 53) hx hb dX1_reads_49 (by decide) ?_
            obtain ⟨rfl, rfl⟩ := some_pair h
            exact k_zret S hr hlocks hP hS rfl (Or.inr rfl) dX1_reads_53
