def f_X5_bound (σ : SX) (x1 : Int32) (x2 : Int32) : Option Int32 := ob1 (f_X5_isSwearer σ x1) (fun r_2 => if r_2 = 0 then (some (-1 : Int32)) else (ob1 (f_X5_isSwearer σ x2) (fun r_10 => if r_10 = 0 then (some (-1 : Int32)) else (ob1 (f_X5_whichBind σ) (fun r_20 => ob1 (f_X5_boundOf σ x1 x2 r_20) (fun r_23 => some r_23))))))
set_option maxRecDepth 100000 in
set_option maxHeartbeats 4000000 in
theorem k_X5_bound (l : Launch) {D : va_G} {A : Nat → Prop} {cI cZ cS : ClassId} {am : Nat → Nat} (hAd : ∀ σ, va_D A (WM cI am σ)) {σ : SX} {x1 : Int32} {x2 : Int32} {r : Int32} (h : f_X5_bound σ x1 x2 = some r) : Ct (QI D A r (WM cI am σ)) l yX5_bound cX5_bound 3 (some .int) 5 108 D (tyS cI cZ cS) A [.ref (am 0), .int x1, .int x2] (WM cI am σ) := by
  refine Ct.of (by decide +kernel) (Nat.le_of_ble_eq_true rfl) ?_
  intro p e s m below meth c ls S hK hr hlocks hP hS hl
  have hx := S.1
  have hb := S.2.1
  have hl : lv_has ls 3 [(0, .ref (am 0)), (1, .int x1), (2, .int x2)] := hl
  rw [f_X5_bound] at h
  refine lv_aload_n hx hb dX5_bound_0 rfl (lv_at hl 0 rfl) ?_
  refine lv_iload_n hx hb dX5_bound_1 rfl (lv_at hl 1 rfl) ?_
  obtain ⟨r_2, e_2, h⟩ := ob1_of h
  refine k_goI (k_runV (As := [.int x1]) (rest := []) S hK hP (k_X5_isSwearer l hAd e_2) cy_X5_isSwearer wd_780 rfl mO rfl hl.1 rfl (Nat.le_of_ble_eq_true rfl) dX5_bound_2 ⟨Nat.le_of_ble_eq_true rfl, Nat.le_of_ble_eq_true rfl⟩ ⟨Nat.zero_le _, Nat.zero_le _⟩) hS (fun _ h => h) (fun H locs hP hS _ _ => ?_)
  refine lv_if_eq (tgt := 29) hx hb dX5_bound_5 (by decide) (fun c_5 => ?_) (fun c_5 => ?_)
  · replace h := ite_t c_5 h
    refine lv_iconst (v := (-1 : Int32)) hx hb dX5_bound_29 (by decide) ?_
    exact k_iret S hr hlocks hP hS (Option.some.inj h) dX5_bound_30
  · replace h := ite_f c_5 h
    refine lv_aload_n hx hb dX5_bound_8 rfl (lv_at hl 0 rfl) ?_
    refine lv_iload_n hx hb dX5_bound_9 rfl (lv_at hl 2 rfl) ?_
    obtain ⟨r_10, e_10, h⟩ := ob1_of h
    refine k_goI (k_runV (As := [.int x2]) (rest := []) S hK hP (k_X5_isSwearer l hAd e_10) cy_X5_isSwearer wd_780 rfl mO rfl hl.1 rfl (Nat.le_of_ble_eq_true rfl) dX5_bound_10 ⟨Nat.le_of_ble_eq_true rfl, Nat.le_of_ble_eq_true rfl⟩ ⟨Nat.zero_le _, Nat.zero_le _⟩) hS (fun _ h => h) (fun H locs hP hS _ _ => ?_)
    refine lv_if_eq (tgt := 29) hx hb dX5_bound_13 (by decide) (fun c_13 => ?_) (fun c_13 => ?_)
    · replace h := ite_t c_13 h
      refine lv_iconst (v := (-1 : Int32)) hx hb dX5_bound_29 (by decide) ?_
      exact k_iret S hr hlocks hP hS (Option.some.inj h) dX5_bound_30
    · replace h := ite_f c_13 h
      refine lv_aload_n hx hb dX5_bound_16 rfl (lv_at hl 0 rfl) ?_
      refine lv_iload_n hx hb dX5_bound_17 rfl (lv_at hl 1 rfl) ?_
      refine lv_iload_n hx hb dX5_bound_18 rfl (lv_at hl 2 rfl) ?_
      refine lv_aload_n hx hb dX5_bound_19 rfl (lv_at hl 0 rfl) ?_
      obtain ⟨r_20, e_20, h⟩ := ob1_of h
      refine k_goI (k_runV (As := []) (rest := [.int x2, .int x1, .ref (am 0)]) S hK hP (k_X5_whichBind l hAd e_20) cy_X5_whichBind wd_804 rfl mO rfl hl.1 rfl (Nat.le_of_ble_eq_true rfl) dX5_bound_20 ⟨Nat.le_of_ble_eq_true rfl, Nat.le_of_ble_eq_true rfl⟩ ⟨Nat.zero_le _, Nat.zero_le _⟩) hS (fun _ h => h) (fun H locs hP hS _ _ => ?_)
      obtain ⟨r_23, e_23, h⟩ := ob1_of h
      refine k_goI (k_runV (As := [.int x1, .int x2, .int r_20]) (rest := []) S hK hP (k_X5_boundOf l hAd e_23) cy_X5_boundOf wd_894 rfl mO rfl hl.1 rfl (Nat.le_of_ble_eq_true rfl) dX5_bound_23 ⟨Nat.le_of_ble_eq_true rfl, Nat.le_of_ble_eq_true rfl⟩ ⟨Nat.zero_le _, Nat.zero_le _⟩) hS (fun _ h => h) (fun H locs hP hS _ _ => ?_)
      refine lv_goto (tgt := 30) hx hb dX5_bound_26 (by decide) ?_
      exact k_iret S hr hlocks hP hS (Option.some.inj h) dX5_bound_30
def f_X5_areThere (σ : SX) (x1 : Int32) : Option Int32 := if (x1 &&& ((((1 : Int32) <<< ((gF σ 0 6) &&& 31)) - (1 : Int32)) ^^^ (-1 : Int32))) = 0 then (some (1 : Int32)) else (some (0 : Int32))
set_option maxRecDepth 100000 in
set_option maxHeartbeats 4000000 in
theorem k_X5_areThere (l : Launch) {D : va_G} {A : Nat → Prop} {cI cZ cS : ClassId} {am : Nat → Nat} (hAd : ∀ σ, va_D A (WM cI am σ)) {σ : SX} {x1 : Int32} {r : Int32} (h : f_X5_areThere σ x1 = some r) : Ct (QI D A r (WM cI am σ)) l yX5_areThere cX5_areThere 2 (some .boolean) 0 0 D (tyS cI cZ cS) A [.ref (am 0), .int x1] (WM cI am σ) := by
  refine Ct.of (by decide +kernel) (Nat.le_of_ble_eq_true rfl) ?_
  intro p e s m below meth c ls S hK hr hlocks hP hS hl
  have hx := S.1
  have hb := S.2.1
  have hl : lv_has ls 2 [(0, .ref (am 0)), (1, .int x1)] := hl
  rw [f_X5_areThere] at h
  refine lv_iload_n hx hb dX5_areThere_0 rfl (lv_at hl 1 rfl) ?_
  refine lv_iconst (v := (1 : Int32)) hx hb dX5_areThere_1 (by decide) ?_
  refine lv_aload_n hx hb dX5_areThere_2 rfl (lv_at hl 0 rfl) ?_
  refine gt_X5_74 S hK hP dX5_areThere_3 ?_
  refine lv_ishl hx hb dX5_areThere_6 ?_
  refine lv_iconst (v := (1 : Int32)) hx hb dX5_areThere_7 (by decide) ?_
  refine lv_isub hx hb dX5_areThere_8 ?_
  refine lv_iconst (v := (-1 : Int32)) hx hb dX5_areThere_9 (by decide) ?_
  refine lv_ixor hx hb dX5_areThere_10 ?_
  refine lv_iand hx hb dX5_areThere_11 ?_
  refine lv_if_ne (tgt := 19) hx hb dX5_areThere_12 (by decide) (fun c_12 => ?_) (fun c_12 => ?_)
  · replace h := ite_f c_12 h
    refine lv_iconst (v := (0 : Int32)) hx hb dX5_areThere_19 (by decide) ?_
    exact k_zret S hr hlocks hP hS (Option.some.inj h) (Or.inl rfl) dX5_areThere_20
  · replace h := ite_t c_12 h
    refine lv_iconst (v := (1 : Int32)) hx hb dX5_areThere_15 (by decide) ?_
    refine lv_goto (tgt := 20) hx hb dX5_areThere_16 (by decide) ?_
    exact k_zret S hr hlocks hP hS (Option.some.inj h) (Or.inr rfl) dX5_areThere_20
def f_X5_together_L35 (σ : SX) : Nat → Int32 → Int32 → Option Int32
  | 0, _, _ => none
  | n + 1, y1, y2 => if (gF σ 0 5) ≤ y2 then (some (-9 : Int32)) else (ob1 (f_X5_whoCold σ y2) (fun r_45 => if (r_45 &&& y1) = y1 then (some y2) else (f_X5_together_L35 σ n y1 (y2 + (1 : Int32)))))
def f_X5_together (σ : SX) (x1 : Int32) : Option Int32 := ob1 (f_X5_within x1 (0 : Int32) (15 : Int32)) (fun r_4 => if r_4 = 0 then (some (-2 : Int32)) else (if (gF σ 0 5) = 0 then (some (-3 : Int32)) else (ob1 (f_X5_areThere σ x1) (fun r_25 => if r_25 = 0 then (some (-1 : Int32)) else (f_X5_together_L35 σ 100 x1 (0 : Int32))))))
set_option maxRecDepth 100000 in
set_option maxHeartbeats 4000000 in
theorem k_X5_together (l : Launch) {D : va_G} {A : Nat → Prop} {cI cZ cS : ClassId} {am : Nat → Nat} (hAd : ∀ σ, va_D A (WM cI am σ)) {σ : SX} {x1 : Int32} {r : Int32} (h : f_X5_together σ x1 = some r) : Ct (QI D A r (WM cI am σ)) l yX5_together cX5_together 3 (some .int) 4 88 D (tyS cI cZ cS) A [.ref (am 0), .int x1] (WM cI am σ) := by
  refine Ct.of (by decide +kernel) (Nat.le_of_ble_eq_true rfl) ?_
  intro p e s m below meth c ls S hK hr hlocks hP hS hl
  have hx := S.1
  have hb := S.2.1
  have hl : lv_has ls 3 [(0, .ref (am 0)), (1, .int x1)] := hl
  have loop35 : ∀ (n : Nat) (y1 : Int32) (y2 : Int32) (H : Heap) (locs : List Loc) (ls : Array Slot), f_X5_together_L35 σ n y1 y2 = some r → va_P D vwCl (WM cI am σ) H → va_S A s.heap H locs → lv_has ls 3 [(0, .ref (am 0)), (1, .int y1), (2, .int y2)] → W p l e (rmO 4 88) s m [.ref (am 0), .int x1].toArray below meth c H locs 0 0 (MQ below (QI D A r (WM cI am σ)) [.ref (am 0), .int x1].toArray s 0 0 A) (F0 m 35 ls []) := by
    intro n
    induction n with
    | zero => intro y1 y2 H locs ls h; cases h
    | succ n ih =>
      intro y1 y2 H locs ls h hP hS hl
      rw [f_X5_together_L35] at h
      refine lv_iload_n hx hb dX5_together_35 rfl (lv_at hl 2 rfl) ?_
      refine lv_aload_n hx hb dX5_together_36 rfl (lv_at hl 0 rfl) ?_
      refine gt_X5_71 S hK hP dX5_together_37 ?_
      refine lv_icmp_ge (tgt := 62) hx hb dX5_together_40 (by decide) (fun c_40 => ?_) (fun c_40 => ?_)
      · replace h := ite_t c_40 h
        refine lv_bipush (v := (-9 : Int32)) hx hb dX5_together_62 (by decide) ?_
        exact k_iret S hr hlocks hP hS (Option.some.inj h) dX5_together_64
      · replace h := ite_f c_40 h
        refine lv_aload_n hx hb dX5_together_43 rfl (lv_at hl 0 rfl) ?_
        refine lv_iload_n hx hb dX5_together_44 rfl (lv_at hl 2 rfl) ?_
        obtain ⟨r_45, e_45, h⟩ := ob1_of h
        refine k_goI (k_runV (As := [.int y2]) (rest := []) S hK hP (k_X5_whoCold l hAd e_45) cy_X5_whoCold wd_828 rfl mO rfl hl.1 rfl (Nat.le_of_ble_eq_true rfl) dX5_together_45 ⟨Nat.le_of_ble_eq_true rfl, Nat.le_of_ble_eq_true rfl⟩ ⟨Nat.zero_le _, Nat.zero_le _⟩) hS (fun _ h => h) (fun H locs hP hS _ _ => ?_)
        refine lv_iload_n hx hb dX5_together_48 rfl (lv_at hl 1 rfl) ?_
        refine lv_iand hx hb dX5_together_49 ?_
        refine lv_iload_n hx hb dX5_together_50 rfl (lv_at hl 1 rfl) ?_
        refine lv_icmp_ne (tgt := 56) hx hb dX5_together_51 (by decide) (fun c_51 => ?_) (fun c_51 => ?_)
        · replace h := ite_f c_51 h
          refine lv_iinc (v := y2 + (1 : Int32)) (lv' := [(2, .int (y2 + (1 : Int32))), (0, .ref (am 0)), (1, .int y1)]) hx hb dX5_together_56 hl (k := 2) rfl rfl (by decide) rfl (fun ls hl => ?_)
          refine lv_goto (tgt := 35) hx hb dX5_together_59 (by decide) ?_
          exact ih y1 (y2 + (1 : Int32)) _ _ _ h hP hS (lv_sub hl [1, 2, 0] rfl)
        · replace h := ite_t c_51 h
          refine lv_iload_n hx hb dX5_together_54 rfl (lv_at hl 2 rfl) ?_
          exact k_iret S hr hlocks hP hS (Option.some.inj h) dX5_together_55
  rw [f_X5_together] at h
  refine lv_iload_n hx hb dX5_together_0 rfl (lv_at hl 1 rfl) ?_
  refine lv_iconst (v := (0 : Int32)) hx hb dX5_together_1 (by decide) ?_
  refine lv_bipush (v := (15 : Int32)) hx hb dX5_together_2 (by decide) ?_
  obtain ⟨r_4, e_4, h⟩ := ob1_of h
  refine k_goI (k_runS (As := [.int x1, .int (0 : Int32), .int (15 : Int32)]) (rest := []) S hK hP (k_X5_within l  e_4) cy_X5_within wd_738 rfl hl.1 rfl (Nat.le_of_ble_eq_true rfl) dX5_together_4 ⟨Nat.le_of_ble_eq_true rfl, Nat.le_of_ble_eq_true rfl⟩ ⟨Nat.zero_le _, Nat.zero_le _⟩) hS (fun _ h => h) (fun H locs hP hS _ _ => ?_)
  refine lv_if_ne (tgt := 13) hx hb dX5_together_7 (by decide) (fun c_7 => ?_) (fun c_7 => ?_)
  · replace h := ite_f c_7 h
    refine lv_aload_n hx hb dX5_together_13 rfl (lv_at hl 0 rfl) ?_
    refine gt_X5_71 S hK hP dX5_together_14 ?_
    refine lv_if_ne (tgt := 23) hx hb dX5_together_17 (by decide) (fun c_17 => ?_) (fun c_17 => ?_)
    · replace h := ite_f c_17 h
      refine lv_aload_n hx hb dX5_together_23 rfl (lv_at hl 0 rfl) ?_
      refine lv_iload_n hx hb dX5_together_24 rfl (lv_at hl 1 rfl) ?_
      obtain ⟨r_25, e_25, h⟩ := ob1_of h
      refine k_goI (k_runV (As := [.int x1]) (rest := []) S hK hP (k_X5_areThere l hAd e_25) cy_X5_areThere wd_921 rfl mO rfl hl.1 rfl (Nat.le_of_ble_eq_true rfl) dX5_together_25 ⟨Nat.le_of_ble_eq_true rfl, Nat.le_of_ble_eq_true rfl⟩ ⟨Nat.zero_le _, Nat.zero_le _⟩) hS (fun _ h => h) (fun H locs hP hS _ _ => ?_)
      refine lv_if_ne (tgt := 33) hx hb dX5_together_28 (by decide) (fun c_28 => ?_) (fun c_28 => ?_)
      · replace h := ite_f c_28 h
        refine lv_iconst (v := (0 : Int32)) hx hb dX5_together_33 (by decide) ?_
        refine lv_istore_n (lv' := [(2, .int (0 : Int32)), (0, .ref (am 0)), (1, .int x1)]) hx hb dX5_together_34 rfl hl (by decide) rfl (fun ls hl => ?_)
        exact loop35 100 x1 (0 : Int32) _ _ _ h hP hS (lv_sub hl [1, 2, 0] rfl)
      · replace h := ite_t c_28 h
        refine lv_iconst (v := (-1 : Int32)) hx hb dX5_together_31 (by decide) ?_
        exact k_iret S hr hlocks hP hS (Option.some.inj h) dX5_together_32
    · replace h := ite_t c_17 h
      refine lv_bipush (v := (-3 : Int32)) hx hb dX5_together_20 (by decide) ?_
      exact k_iret S hr hlocks hP hS (Option.some.inj h) dX5_together_22
  · replace h := ite_t c_7 h
    refine lv_bipush (v := (-2 : Int32)) hx hb dX5_together_10 (by decide) ?_
    exact k_iret S hr hlocks hP hS (Option.some.inj h) dX5_together_12
def f_X5_coated_L35 (σ : SX) : Nat → Int32 → Int32 → Option Int32
  | 0, _, _ => none
  | n + 1, y1, y2 => if (gF σ 0 6) ≤ y2 then (some (-9 : Int32)) else (ob1 (f_X5_isOf y1 y2) (fun r_45 => if r_45 = 0 then (f_X5_coated_L35 σ n y1 (y2 + (1 : Int32))) else (ob1 (f_X5_coldHours σ y2) (fun r_53 => if r_53 = 0 then (some y2) else (f_X5_coated_L35 σ n y1 (y2 + (1 : Int32)))))))
def f_X5_coated (σ : SX) (x1 : Int32) : Option Int32 := ob1 (f_X5_within x1 (0 : Int32) (15 : Int32)) (fun r_4 => if r_4 = 0 then (some (-2 : Int32)) else (if (gF σ 0 5) = 0 then (some (-3 : Int32)) else (ob1 (f_X5_areThere σ x1) (fun r_25 => if r_25 = 0 then (some (-1 : Int32)) else (f_X5_coated_L35 σ 100 x1 (0 : Int32))))))
set_option maxRecDepth 100000 in
set_option maxHeartbeats 4000000 in
theorem k_X5_coated (l : Launch) {D : va_G} {A : Nat → Prop} {cI cZ cS : ClassId} {am : Nat → Nat} (hAd : ∀ σ, va_D A (WM cI am σ)) {σ : SX} {x1 : Int32} {r : Int32} (h : f_X5_coated σ x1 = some r) : Ct (QI D A r (WM cI am σ)) l yX5_coated cX5_coated 3 (some .int) 4 88 D (tyS cI cZ cS) A [.ref (am 0), .int x1] (WM cI am σ) := by
  refine Ct.of (by decide +kernel) (Nat.le_of_ble_eq_true rfl) ?_
  intro p e s m below meth c ls S hK hr hlocks hP hS hl
  have hx := S.1
  have hb := S.2.1
  have hl : lv_has ls 3 [(0, .ref (am 0)), (1, .int x1)] := hl
  have loop35 : ∀ (n : Nat) (y1 : Int32) (y2 : Int32) (H : Heap) (locs : List Loc) (ls : Array Slot), f_X5_coated_L35 σ n y1 y2 = some r → va_P D vwCl (WM cI am σ) H → va_S A s.heap H locs → lv_has ls 3 [(0, .ref (am 0)), (1, .int y1), (2, .int y2)] → W p l e (rmO 4 88) s m [.ref (am 0), .int x1].toArray below meth c H locs 0 0 (MQ below (QI D A r (WM cI am σ)) [.ref (am 0), .int x1].toArray s 0 0 A) (F0 m 35 ls []) := by
    intro n
    induction n with
    | zero => intro y1 y2 H locs ls h; cases h
    | succ n ih =>
      intro y1 y2 H locs ls h hP hS hl
      rw [f_X5_coated_L35] at h
      refine lv_iload_n hx hb dX5_coated_35 rfl (lv_at hl 2 rfl) ?_
      refine lv_aload_n hx hb dX5_coated_36 rfl (lv_at hl 0 rfl) ?_
      refine gt_X5_74 S hK hP dX5_coated_37 ?_
      refine lv_icmp_ge (tgt := 67) hx hb dX5_coated_40 (by decide) (fun c_40 => ?_) (fun c_40 => ?_)
      · replace h := ite_t c_40 h
        refine lv_bipush (v := (-9 : Int32)) hx hb dX5_coated_67 (by decide) ?_
        exact k_iret S hr hlocks hP hS (Option.some.inj h) dX5_coated_69
      · replace h := ite_f c_40 h
        refine lv_iload_n hx hb dX5_coated_43 rfl (lv_at hl 1 rfl) ?_
        refine lv_iload_n hx hb dX5_coated_44 rfl (lv_at hl 2 rfl) ?_
        obtain ⟨r_45, e_45, h⟩ := ob1_of h
        refine k_goI (k_runS (As := [.int y1, .int y2]) (rest := []) S hK hP (k_X5_isOf l  e_45) cy_X5_isOf wd_902 rfl hl.1 rfl (Nat.le_of_ble_eq_true rfl) dX5_coated_45 ⟨Nat.le_of_ble_eq_true rfl, Nat.le_of_ble_eq_true rfl⟩ ⟨Nat.zero_le _, Nat.zero_le _⟩) hS (fun _ h => h) (fun H locs hP hS _ _ => ?_)
        refine lv_if_eq (tgt := 61) hx hb dX5_coated_48 (by decide) (fun c_48 => ?_) (fun c_48 => ?_)
        · replace h := ite_t c_48 h
          refine lv_iinc (v := y2 + (1 : Int32)) (lv' := [(2, .int (y2 + (1 : Int32))), (0, .ref (am 0)), (1, .int y1)]) hx hb dX5_coated_61 hl (k := 2) rfl rfl (by decide) rfl (fun ls hl => ?_)
          refine lv_goto (tgt := 35) hx hb dX5_coated_64 (by decide) ?_
          exact ih y1 (y2 + (1 : Int32)) _ _ _ h hP hS (lv_sub hl [1, 2, 0] rfl)
        · replace h := ite_f c_48 h
          refine lv_aload_n hx hb dX5_coated_51 rfl (lv_at hl 0 rfl) ?_
          refine lv_iload_n hx hb dX5_coated_52 rfl (lv_at hl 2 rfl) ?_
          obtain ⟨r_53, e_53, h⟩ := ob1_of h
          refine k_goI (k_runV (As := [.int y2]) (rest := []) S hK hP (k_X5_coldHours l hAd e_53) cy_X5_coldHours wd_788 rfl mO rfl hl.1 rfl (Nat.le_of_ble_eq_true rfl) dX5_coated_53 ⟨Nat.le_of_ble_eq_true rfl, Nat.le_of_ble_eq_true rfl⟩ ⟨Nat.zero_le _, Nat.zero_le _⟩) hS (fun _ h => h) (fun H locs hP hS _ _ => ?_)
          refine lv_if_ne (tgt := 61) hx hb dX5_coated_56 (by decide) (fun c_56 => ?_) (fun c_56 => ?_)
          · replace h := ite_f c_56 h
            refine lv_iinc (v := y2 + (1 : Int32)) (lv' := [(2, .int (y2 + (1 : Int32))), (0, .ref (am 0)), (1, .int y1)]) hx hb dX5_coated_61 hl (k := 2) rfl rfl (by decide) rfl (fun ls hl => ?_)
            refine lv_goto (tgt := 35) hx hb dX5_coated_64 (by decide) ?_
            exact ih y1 (y2 + (1 : Int32)) _ _ _ h hP hS (lv_sub hl [1, 2, 0] rfl)
          · replace h := ite_t c_56 h
            refine lv_iload_n hx hb dX5_coated_59 rfl (lv_at hl 2 rfl) ?_
            exact k_iret S hr hlocks hP hS (Option.some.inj h) dX5_coated_60
  rw [f_X5_coated] at h
  refine lv_iload_n hx hb dX5_coated_0 rfl (lv_at hl 1 rfl) ?_
  refine lv_iconst (v := (0 : Int32)) hx hb dX5_coated_1 (by decide) ?_
  refine lv_bipush (v := (15 : Int32)) hx hb dX5_coated_2 (by decide) ?_
  obtain ⟨r_4, e_4, h⟩ := ob1_of h
  refine k_goI (k_runS (As := [.int x1, .int (0 : Int32), .int (15 : Int32)]) (rest := []) S hK hP (k_X5_within l  e_4) cy_X5_within wd_738 rfl hl.1 rfl (Nat.le_of_ble_eq_true rfl) dX5_coated_4 ⟨Nat.le_of_ble_eq_true rfl, Nat.le_of_ble_eq_true rfl⟩ ⟨Nat.zero_le _, Nat.zero_le _⟩) hS (fun _ h => h) (fun H locs hP hS _ _ => ?_)
  refine lv_if_ne (tgt := 13) hx hb dX5_coated_7 (by decide) (fun c_7 => ?_) (fun c_7 => ?_)
  · replace h := ite_f c_7 h
    refine lv_aload_n hx hb dX5_coated_13 rfl (lv_at hl 0 rfl) ?_
    refine gt_X5_71 S hK hP dX5_coated_14 ?_
    refine lv_if_ne (tgt := 23) hx hb dX5_coated_17 (by decide) (fun c_17 => ?_) (fun c_17 => ?_)
    · replace h := ite_f c_17 h
      refine lv_aload_n hx hb dX5_coated_23 rfl (lv_at hl 0 rfl) ?_
      refine lv_iload_n hx hb dX5_coated_24 rfl (lv_at hl 1 rfl) ?_
      obtain ⟨r_25, e_25, h⟩ := ob1_of h
      refine k_goI (k_runV (As := [.int x1]) (rest := []) S hK hP (k_X5_areThere l hAd e_25) cy_X5_areThere wd_921 rfl mO rfl hl.1 rfl (Nat.le_of_ble_eq_true rfl) dX5_coated_25 ⟨Nat.le_of_ble_eq_true rfl, Nat.le_of_ble_eq_true rfl⟩ ⟨Nat.zero_le _, Nat.zero_le _⟩) hS (fun _ h => h) (fun H locs hP hS _ _ => ?_)
      refine lv_if_ne (tgt := 33) hx hb dX5_coated_28 (by decide) (fun c_28 => ?_) (fun c_28 => ?_)
      · replace h := ite_f c_28 h
        refine lv_iconst (v := (0 : Int32)) hx hb dX5_coated_33 (by decide) ?_
        refine lv_istore_n (lv' := [(2, .int (0 : Int32)), (0, .ref (am 0)), (1, .int x1)]) hx hb dX5_coated_34 rfl hl (by decide) rfl (fun ls hl => ?_)
        exact loop35 100 x1 (0 : Int32) _ _ _ h hP hS (lv_sub hl [1, 2, 0] rfl)
      · replace h := ite_t c_28 h
        refine lv_iconst (v := (-1 : Int32)) hx hb dX5_coated_31 (by decide) ?_
        exact k_iret S hr hlocks hP hS (Option.some.inj h) dX5_coated_32
    · replace h := ite_t c_17 h
      refine lv_bipush (v := (-3 : Int32)) hx hb dX5_coated_20 (by decide) ?_
      exact k_iret S hr hlocks hP hS (Option.some.inj h) dX5_coated_22
  · replace h := ite_t c_7 h
    refine lv_bipush (v := (-2 : Int32)) hx hb dX5_coated_10 (by decide) ?_
    exact k_iret S hr hlocks hP hS (Option.some.inj h) dX5_coated_12
def f_X5_letgo (σ : SX) (x1 : Int32) : Option Int32 := ob1 (f_X5_within x1 (0 : Int32) (1 : Int32)) (fun r_3 => if r_3 = 0 then (some (-2 : Int32)) else (if (gF σ 0 5) = 0 then (some (-3 : Int32)) else (ob1 (f_X5_leastLetGo σ) (fun r_23 => if x1 = 0 then (ob1 (f_X5_size r_23) (fun r_32 => some r_32)) else (some r_23)))))
set_option maxRecDepth 100000 in
set_option maxHeartbeats 4000000 in
theorem k_X5_letgo (l : Launch) {D : va_G} {A : Nat → Prop} {cI cZ cS : ClassId} {am : Nat → Nat} (hAd : ∀ σ, va_D A (WM cI am σ)) {σ : SX} {x1 : Int32} {r : Int32} (h : f_X5_letgo σ x1 = some r) : Ct (QI D A r (WM cI am σ)) l yX5_letgo cX5_letgo 3 (some .int) 6 139 D (tyS cI cZ cS) A [.ref (am 0), .int x1] (WM cI am σ) := by
  refine Ct.of (by decide +kernel) (Nat.le_of_ble_eq_true rfl) ?_
  intro p e s m below meth c ls S hK hr hlocks hP hS hl
  have hx := S.1
  have hb := S.2.1
  have hl : lv_has ls 3 [(0, .ref (am 0)), (1, .int x1)] := hl
  rw [f_X5_letgo] at h
  refine lv_iload_n hx hb dX5_letgo_0 rfl (lv_at hl 1 rfl) ?_
  refine lv_iconst (v := (0 : Int32)) hx hb dX5_letgo_1 (by decide) ?_
  refine lv_iconst (v := (1 : Int32)) hx hb dX5_letgo_2 (by decide) ?_
  obtain ⟨r_3, e_3, h⟩ := ob1_of h
  refine k_goI (k_runS (As := [.int x1, .int (0 : Int32), .int (1 : Int32)]) (rest := []) S hK hP (k_X5_within l  e_3) cy_X5_within wd_738 rfl hl.1 rfl (Nat.le_of_ble_eq_true rfl) dX5_letgo_3 ⟨Nat.le_of_ble_eq_true rfl, Nat.le_of_ble_eq_true rfl⟩ ⟨Nat.zero_le _, Nat.zero_le _⟩) hS (fun _ h => h) (fun H locs hP hS _ _ => ?_)
  refine lv_if_ne (tgt := 12) hx hb dX5_letgo_6 (by decide) (fun c_6 => ?_) (fun c_6 => ?_)
  · replace h := ite_f c_6 h
    refine lv_aload_n hx hb dX5_letgo_12 rfl (lv_at hl 0 rfl) ?_
    refine gt_X5_71 S hK hP dX5_letgo_13 ?_
    refine lv_if_ne (tgt := 22) hx hb dX5_letgo_16 (by decide) (fun c_16 => ?_) (fun c_16 => ?_)
    · replace h := ite_f c_16 h
      refine lv_aload_n hx hb dX5_letgo_22 rfl (lv_at hl 0 rfl) ?_
      obtain ⟨r_23, e_23, h⟩ := ob1_of h
      refine k_goI (k_runV (As := []) (rest := []) S hK hP (k_X5_leastLetGo l hAd e_23) cy_X5_leastLetGo wd_886 rfl mO rfl hl.1 rfl (Nat.le_of_ble_eq_true rfl) dX5_letgo_23 ⟨Nat.le_of_ble_eq_true rfl, Nat.le_of_ble_eq_true rfl⟩ ⟨Nat.zero_le _, Nat.zero_le _⟩) hS (fun _ h => h) (fun H locs hP hS _ _ => ?_)
      refine lv_istore_n (lv' := [(2, .int r_23), (0, .ref (am 0)), (1, .int x1)]) hx hb dX5_letgo_26 rfl hl (by decide) rfl (fun ls hl => ?_)
      refine lv_iload_n hx hb dX5_letgo_27 rfl (lv_at hl 2 rfl) ?_
      refine lv_if_ne (tgt := 38) hx hb dX5_letgo_28 (by decide) (fun c_28 => ?_) (fun c_28 => ?_)
      · replace h := ite_f c_28 h
        refine lv_iload_n hx hb dX5_letgo_38 rfl (lv_at hl 0 rfl) ?_
        exact k_iret S hr hlocks hP hS (Option.some.inj h) dX5_letgo_39
      · replace h := ite_t c_28 h
        refine lv_iload_n hx hb dX5_letgo_31 rfl (lv_at hl 0 rfl) ?_
        obtain ⟨r_32, e_32, h⟩ := ob1_of h
        refine k_goI (k_runS (As := [.int r_23]) (rest := []) S hK hP (k_X5_size l  e_32) cy_X5_size wd_860 rfl hl.1 rfl (Nat.le_of_ble_eq_true rfl) dX5_letgo_32 ⟨Nat.le_of_ble_eq_true rfl, Nat.le_of_ble_eq_true rfl⟩ ⟨Nat.zero_le _, Nat.zero_le _⟩) hS (fun _ h => h) (fun H locs hP hS _ _ => ?_)
        refine lv_goto (tgt := 39) hx hb dX5_letgo_35 (by decide) ?_
        exact k_iret S hr hlocks hP hS (Option.some.inj h) dX5_letgo_39
    · replace h := ite_t c_16 h
      refine lv_bipush (v := (-3 : Int32)) hx hb dX5_letgo_19 (by decide) ?_
      exact k_iret S hr hlocks hP hS (Option.some.inj h) dX5_letgo_21
  · replace h := ite_t c_6 h
    refine lv_bipush (v := (-2 : Int32)) hx hb dX5_letgo_9 (by decide) ?_
    exact k_iret S hr hlocks hP hS (Option.some.inj h) dX5_letgo_11
def f_X5_stoves_L65 : Nat → SX → Int32 → Int32 → Int32 → Int32 → Int32 → Int32 → Option (Int32 × SX)
  | 0, _, _, _, _, _, _, _ => none
  | n + 1, σ, y1, y2, y3, y4, y5, y6 => if ((gF σ 0 5) * (10 : Int32)) ≤ y6 then (ob2 (f_X5_putBack σ) (fun r_133 s_133 => if y2 = 0 then (some (y4, s_133)) else (if y5 = (-9 : Int32) then (some ((-9 : Int32), s_133)) else (if y2 = (1 : Int32) then (some (y5 / (10 : Int32), s_133)) else (some (y5 - y5 / (10 : Int32) * (10 : Int32), s_133)))))) else (ob1 (f_X5_whichBind (sF (sF σ 0 8 (y6 / (10 : Int32))) 0 9 (y6 - y6 / (10 : Int32) * (10 : Int32)))) (fun r_97 => if (y3 &&& (r_97 ^^^ (-1 : Int32))) = y1 then (if y5 = (-9 : Int32) then (f_X5_stoves_L65 n (sF (sF σ 0 8 (y6 / (10 : Int32))) 0 9 (y6 - y6 / (10 : Int32) * (10 : Int32))) y1 y2 y3 (y4 + (1 : Int32)) y6 (y6 + (1 : Int32))) else (f_X5_stoves_L65 n (sF (sF σ 0 8 (y6 / (10 : Int32))) 0 9 (y6 - y6 / (10 : Int32) * (10 : Int32))) y1 y2 y3 (y4 + (1 : Int32)) y5 (y6 + (1 : Int32)))) else (f_X5_stoves_L65 n (sF (sF σ 0 8 (y6 / (10 : Int32))) 0 9 (y6 - y6 / (10 : Int32) * (10 : Int32))) y1 y2 y3 y4 y5 (y6 + (1 : Int32)))))
def f_X5_stoves (σ : SX) (x1 : Int32) (x2 : Int32) : Option (Int32 × SX) := ob1 (f_X5_within x1 (0 : Int32) (63 : Int32)) (fun r_4 => if r_4 = 0 then (some ((-2 : Int32), σ)) else (ob1 (f_X5_within x2 (0 : Int32) (2 : Int32)) (fun r_13 => if r_13 = 0 then (some ((-2 : Int32), σ)) else (if (gF σ 0 5) = 0 then (some ((-3 : Int32), σ)) else (if (x1 &&& ((((1 : Int32) <<< ((gF σ 0 7) &&& 31)) - (1 : Int32)) ^^^ (-1 : Int32))) = 0 then (ob2 (f_X5_keep σ) (fun r_52 s_52 => f_X5_stoves_L65 100 s_52 x1 x2 (((1 : Int32) <<< ((gF σ 0 7) &&& 31)) - (1 : Int32)) (0 : Int32) (-9 : Int32) (0 : Int32))) else (some ((-1 : Int32), σ)))))))
set_option maxRecDepth 100000 in
set_option maxHeartbeats 4000000 in
theorem k_X5_stoves (l : Launch) {D : va_G} {A : Nat → Prop} {cI cZ cS : ClassId} {am : Nat → Nat} (hAd : ∀ σ, va_D A (WM cI am σ)) {σ : SX} {x1 : Int32} {x2 : Int32} {σ' : SX} {r : Int32} (h : f_X5_stoves σ x1 x2 = some (r, σ')) : Ct (QI D A r (WM cI am (σ'))) l yX5_stoves cX5_stoves 7 (some .int) 5 108 D (tyS cI cZ cS) A [.ref (am 0), .int x1, .int x2] (WM cI am σ) := by
  refine Ct.of (by decide +kernel) (Nat.le_of_ble_eq_true rfl) ?_
  intro p e s m below meth c ls S hK hr hlocks hP hS hl
  have hx := S.1
  have hb := S.2.1
  have hl : lv_has ls 7 [(0, .ref (am 0)), (1, .int x1), (2, .int x2)] := hl
  have loop65 : ∀ (n : Nat) (σ : SX) (y1 : Int32) (y2 : Int32) (y3 : Int32) (y4 : Int32) (y5 : Int32) (y6 : Int32) (H : Heap) (locs : List Loc) (ls : Array Slot), f_X5_stoves_L65 n σ y1 y2 y3 y4 y5 y6 = some (r, σ') → va_P D vwCl (WM cI am σ) H → va_S A s.heap H locs → lv_has ls 7 [(0, .ref (am 0)), (1, .int y1), (2, .int y2), (3, .int y3), (4, .int y4), (5, .int y5), (6, .int y6)] → W p l e (rmO 5 108) s m [.ref (am 0), .int x1, .int x2].toArray below meth c H locs 0 0 (MQ below (QI D A r (WM cI am (σ'))) [.ref (am 0), .int x1, .int x2].toArray s 0 0 A) (F0 m 65 ls []) := by
    intro n
    induction n with
    | zero => intro σ y1 y2 y3 y4 y5 y6 H locs ls h; cases h
    | succ n ih =>
      intro σ y1 y2 y3 y4 y5 y6 H locs ls h hP hS hl
      rw [f_X5_stoves_L65] at h
      refine lv_iload hx hb dX5_stoves_65 (lv_at hl 6 rfl) ?_
      refine lv_aload_n hx hb dX5_stoves_67 rfl (lv_at hl 0 rfl) ?_
      refine gt_X5_71 S hK hP dX5_stoves_68 ?_
      refine lv_bipush (v := (10 : Int32)) hx hb dX5_stoves_71 (by decide) ?_
      refine lv_imul hx hb dX5_stoves_73 ?_
      refine lv_icmp_ge (tgt := 132) hx hb dX5_stoves_74 (by decide) (fun c_74 => ?_) (fun c_74 => ?_)
      · replace h := ite_t c_74 h
        refine lv_aload_n hx hb dX5_stoves_132 rfl (lv_at hl 0 rfl) ?_
        obtain ⟨r_133, s_133, e_133, h⟩ := ob2_of h
        refine k_goV (k_runV (As := []) (rest := []) S hK hP (k_X5_putBack l hAd e_133) cy_X5_putBack wd_909 rfl mO rfl hl.1 rfl (Nat.le_of_ble_eq_true rfl) dX5_stoves_133 ⟨Nat.le_of_ble_eq_true rfl, Nat.le_of_ble_eq_true rfl⟩ ⟨Nat.zero_le _, Nat.zero_le _⟩) hS (fun _ h => h) (fun H locs hP hS _ _ => ?_)
        refine lv_iload_n hx hb dX5_stoves_136 rfl (lv_at hl 2 rfl) ?_
        refine lv_if_ne (tgt := 145) hx hb dX5_stoves_137 (by decide) (fun c_137 => ?_) (fun c_137 => ?_)
        · replace h := ite_f c_137 h
          refine lv_iload hx hb dX5_stoves_145 (lv_at hl 5 rfl) ?_
          refine lv_bipush (v := (-9 : Int32)) hx hb dX5_stoves_147 (by decide) ?_
          refine lv_icmp_ne (tgt := 157) hx hb dX5_stoves_149 (by decide) (fun c_149 => ?_) (fun c_149 => ?_)
          · replace h := ite_f c_149 h
            refine lv_iload_n hx hb dX5_stoves_157 rfl (lv_at hl 2 rfl) ?_
            refine lv_iconst (v := (1 : Int32)) hx hb dX5_stoves_158 (by decide) ?_
            refine lv_icmp_ne (tgt := 170) hx hb dX5_stoves_159 (by decide) (fun c_159 => ?_) (fun c_159 => ?_)
            · replace h := ite_f c_159 h
              refine lv_iload hx hb dX5_stoves_170 (lv_at hl 5 rfl) ?_
              refine lv_bipush (v := (10 : Int32)) hx hb dX5_stoves_172 (by decide) ?_
              refine lv_irem hx hb dX5_stoves_174 (by decide) ?_
              obtain ⟨rfl, rfl⟩ := some_pair h
              exact k_iret S hr hlocks hP hS rfl dX5_stoves_175
            · replace h := ite_t c_159 h
              refine lv_iload hx hb dX5_stoves_162 (lv_at hl 5 rfl) ?_
              refine lv_bipush (v := (10 : Int32)) hx hb dX5_stoves_164 (by decide) ?_
              refine lv_idiv hx hb dX5_stoves_166 (by decide) ?_
              refine lv_goto (tgt := 175) hx hb dX5_stoves_167 (by decide) ?_
              obtain ⟨rfl, rfl⟩ := some_pair h
              exact k_iret S hr hlocks hP hS rfl dX5_stoves_175
          · replace h := ite_t c_149 h
            refine lv_bipush (v := (-9 : Int32)) hx hb dX5_stoves_152 (by decide) ?_
            refine lv_goto (tgt := 175) hx hb dX5_stoves_154 (by decide) ?_
            obtain ⟨rfl, rfl⟩ := some_pair h
            exact k_iret S hr hlocks hP hS rfl dX5_stoves_175
        · replace h := ite_t c_137 h
          refine lv_iload hx hb dX5_stoves_140 (lv_at hl 4 rfl) ?_
          refine lv_goto (tgt := 175) hx hb dX5_stoves_142 (by decide) ?_
          obtain ⟨rfl, rfl⟩ := some_pair h
          exact k_iret S hr hlocks hP hS rfl dX5_stoves_175
      · replace h := ite_f c_74 h
        refine lv_aload_n hx hb dX5_stoves_77 rfl (lv_at hl 0 rfl) ?_
        refine lv_iload hx hb dX5_stoves_78 (lv_at hl 6 rfl) ?_
        refine lv_bipush (v := (10 : Int32)) hx hb dX5_stoves_80 (by decide) ?_
        refine lv_idiv hx hb dX5_stoves_82 (by decide) ?_
        refine pt_X5_19 S hK hP (hAd _) hS dX5_stoves_83 (fun H locs hP hS => ?_)
        refine lv_aload_n hx hb dX5_stoves_86 rfl (lv_at hl 0 rfl) ?_
        refine lv_iload hx hb dX5_stoves_87 (lv_at hl 6 rfl) ?_
        refine lv_bipush (v := (10 : Int32)) hx hb dX5_stoves_89 (by decide) ?_
        refine lv_irem hx hb dX5_stoves_91 (by decide) ?_
        refine pt_X5_113 S hK hP (hAd _) hS dX5_stoves_92 (fun H locs hP hS => ?_)
        refine lv_iload_n hx hb dX5_stoves_95 rfl (lv_at hl 3 rfl) ?_
        refine lv_aload_n hx hb dX5_stoves_96 rfl (lv_at hl 0 rfl) ?_
        obtain ⟨r_97, e_97, h⟩ := ob1_of h
        refine k_goI (k_runV (As := []) (rest := [.int y3]) S hK hP (k_X5_whichBind l hAd e_97) cy_X5_whichBind wd_804 rfl mO rfl hl.1 rfl (Nat.le_of_ble_eq_true rfl) dX5_stoves_97 ⟨Nat.le_of_ble_eq_true rfl, Nat.le_of_ble_eq_true rfl⟩ ⟨Nat.zero_le _, Nat.zero_le _⟩) hS (fun _ h => h) (fun H locs hP hS _ _ => ?_)
        refine lv_iconst (v := (-1 : Int32)) hx hb dX5_stoves_100 (by decide) ?_
        refine lv_ixor hx hb dX5_stoves_101 ?_
        refine lv_iand hx hb dX5_stoves_102 ?_
        refine lv_iload_n hx hb dX5_stoves_103 rfl (lv_at hl 1 rfl) ?_
        refine lv_icmp_ne (tgt := 126) hx hb dX5_stoves_104 (by decide) (fun c_104 => ?_) (fun c_104 => ?_)
        · replace h := ite_f c_104 h
          refine lv_iinc (v := y6 + (1 : Int32)) (lv' := [(6, .int (y6 + (1 : Int32))), (0, .ref (am 0)), (1, .int y1), (2, .int y2), (3, .int y3), (4, .int y4), (5, .int y5)]) hx hb dX5_stoves_126 hl (k := 6) rfl rfl (by decide) rfl (fun ls hl => ?_)
          refine lv_goto (tgt := 65) hx hb dX5_stoves_129 (by decide) ?_
          exact ih (sF (sF σ 0 8 (y6 / (10 : Int32))) 0 9 (y6 - y6 / (10 : Int32) * (10 : Int32))) y1 y2 y3 y4 y5 (y6 + (1 : Int32)) _ _ _ h hP hS (lv_sub hl [1, 2, 3, 4, 5, 6, 0] rfl)
        · replace h := ite_t c_104 h
          refine lv_iinc (v := y4 + (1 : Int32)) (lv' := [(4, .int (y4 + (1 : Int32))), (0, .ref (am 0)), (1, .int y1), (2, .int y2), (3, .int y3), (5, .int y5), (6, .int y6)]) hx hb dX5_stoves_107 hl (k := 4) rfl rfl (by decide) rfl (fun ls hl => ?_)
          refine lv_iload hx hb dX5_stoves_110 (lv_at hl 5 rfl) ?_
          refine lv_bipush (v := (-9 : Int32)) hx hb dX5_stoves_112 (by decide) ?_
          refine lv_icmp_ne (tgt := 122) hx hb dX5_stoves_114 (by decide) (fun c_114 => ?_) (fun c_114 => ?_)
          · replace h := ite_f c_114 h
            refine lv_iload hx hb dX5_stoves_122 (lv_at hl 5 rfl) ?_
            refine lv_istore (lv' := [(5, .int y5), (4, .int (y4 + (1 : Int32))), (0, .ref (am 0)), (1, .int y1), (2, .int y2), (3, .int y3), (6, .int y6)]) hx hb dX5_stoves_124 hl (by decide) rfl (fun ls hl => ?_)
            refine lv_iinc (v := y6 + (1 : Int32)) (lv' := [(6, .int (y6 + (1 : Int32))), (5, .int y5), (4, .int (y4 + (1 : Int32))), (0, .ref (am 0)), (1, .int y1), (2, .int y2), (3, .int y3)]) hx hb dX5_stoves_126 hl (k := 6) rfl rfl (by decide) rfl (fun ls hl => ?_)
            refine lv_goto (tgt := 65) hx hb dX5_stoves_129 (by decide) ?_
            exact ih (sF (sF σ 0 8 (y6 / (10 : Int32))) 0 9 (y6 - y6 / (10 : Int32) * (10 : Int32))) y1 y2 y3 (y4 + (1 : Int32)) y5 (y6 + (1 : Int32)) _ _ _ h hP hS (lv_sub hl [3, 4, 5, 6, 2, 1, 0] rfl)
          · replace h := ite_t c_114 h
            refine lv_iload hx hb dX5_stoves_117 (lv_at hl 6 rfl) ?_
            refine lv_goto (tgt := 124) hx hb dX5_stoves_119 (by decide) ?_
            refine lv_istore (lv' := [(5, .int y6), (4, .int (y4 + (1 : Int32))), (0, .ref (am 0)), (1, .int y1), (2, .int y2), (3, .int y3), (6, .int y6)]) hx hb dX5_stoves_124 hl (by decide) rfl (fun ls hl => ?_)
            refine lv_iinc (v := y6 + (1 : Int32)) (lv' := [(6, .int (y6 + (1 : Int32))), (5, .int y6), (4, .int (y4 + (1 : Int32))), (0, .ref (am 0)), (1, .int y1), (2, .int y2), (3, .int y3)]) hx hb dX5_stoves_126 hl (k := 6) rfl rfl (by decide) rfl (fun ls hl => ?_)
            refine lv_goto (tgt := 65) hx hb dX5_stoves_129 (by decide) ?_
            exact ih (sF (sF σ 0 8 (y6 / (10 : Int32))) 0 9 (y6 - y6 / (10 : Int32) * (10 : Int32))) y1 y2 y3 (y4 + (1 : Int32)) y6 (y6 + (1 : Int32)) _ _ _ h hP hS (lv_sub hl [3, 4, 5, 6, 2, 1, 0] rfl)
  rw [f_X5_stoves] at h
  refine lv_iload_n hx hb dX5_stoves_0 rfl (lv_at hl 1 rfl) ?_
  refine lv_iconst (v := (0 : Int32)) hx hb dX5_stoves_1 (by decide) ?_
  refine lv_bipush (v := (63 : Int32)) hx hb dX5_stoves_2 (by decide) ?_
  obtain ⟨r_4, e_4, h⟩ := ob1_of h
  refine k_goI (k_runS (As := [.int x1, .int (0 : Int32), .int (63 : Int32)]) (rest := []) S hK hP (k_X5_within l  e_4) cy_X5_within wd_738 rfl hl.1 rfl (Nat.le_of_ble_eq_true rfl) dX5_stoves_4 ⟨Nat.le_of_ble_eq_true rfl, Nat.le_of_ble_eq_true rfl⟩ ⟨Nat.zero_le _, Nat.zero_le _⟩) hS (fun _ h => h) (fun H locs hP hS _ _ => ?_)
  refine lv_if_eq (tgt := 19) hx hb dX5_stoves_7 (by decide) (fun c_7 => ?_) (fun c_7 => ?_)
  · replace h := ite_t c_7 h
    refine lv_bipush (v := (-2 : Int32)) hx hb dX5_stoves_19 (by decide) ?_
    obtain ⟨rfl, rfl⟩ := some_pair h
    exact k_iret S hr hlocks hP hS rfl dX5_stoves_21
  · replace h := ite_f c_7 h
    refine lv_iload_n hx hb dX5_stoves_10 rfl (lv_at hl 2 rfl) ?_
    refine lv_iconst (v := (0 : Int32)) hx hb dX5_stoves_11 (by decide) ?_
    refine lv_iconst (v := (2 : Int32)) hx hb dX5_stoves_12 (by decide) ?_
    obtain ⟨r_13, e_13, h⟩ := ob1_of h
    refine k_goI (k_runS (As := [.int x2, .int (0 : Int32), .int (2 : Int32)]) (rest := []) S hK hP (k_X5_within l  e_13) cy_X5_within wd_738 rfl hl.1 rfl (Nat.le_of_ble_eq_true rfl) dX5_stoves_13 ⟨Nat.le_of_ble_eq_true rfl, Nat.le_of_ble_eq_true rfl⟩ ⟨Nat.zero_le _, Nat.zero_le _⟩) hS (fun _ h => h) (fun H locs hP hS _ _ => ?_)
    refine lv_if_ne (tgt := 22) hx hb dX5_stoves_16 (by decide) (fun c_16 => ?_) (fun c_16 => ?_)
    · replace h := ite_f c_16 h
      refine lv_aload_n hx hb dX5_stoves_22 rfl (lv_at hl 0 rfl) ?_
      refine gt_X5_71 S hK hP dX5_stoves_23 ?_
      refine lv_if_ne (tgt := 32) hx hb dX5_stoves_26 (by decide) (fun c_26 => ?_) (fun c_26 => ?_)
      · replace h := ite_f c_26 h
        refine lv_iconst (v := (1 : Int32)) hx hb dX5_stoves_32 (by decide) ?_
        refine lv_aload_n hx hb dX5_stoves_33 rfl (lv_at hl 0 rfl) ?_
        refine gt_X5_77 S hK hP dX5_stoves_34 ?_
        refine lv_ishl hx hb dX5_stoves_37 ?_
        refine lv_iconst (v := (1 : Int32)) hx hb dX5_stoves_38 (by decide) ?_
        refine lv_isub hx hb dX5_stoves_39 ?_
        refine lv_istore_n (lv' := [(3, .int (((1 : Int32) <<< ((gF σ 0 7) &&& 31)) - (1 : Int32))), (0, .ref (am 0)), (1, .int x1), (2, .int x2)]) hx hb dX5_stoves_40 rfl hl (by decide) rfl (fun ls hl => ?_)
        refine lv_iload_n hx hb dX5_stoves_41 rfl (lv_at hl 2 rfl) ?_
        refine lv_iload_n hx hb dX5_stoves_42 rfl (lv_at hl 0 rfl) ?_
        refine lv_iconst (v := (-1 : Int32)) hx hb dX5_stoves_43 (by decide) ?_
        refine lv_ixor hx hb dX5_stoves_44 ?_
        refine lv_iand hx hb dX5_stoves_45 ?_
        refine lv_if_eq (tgt := 51) hx hb dX5_stoves_46 (by decide) (fun c_46 => ?_) (fun c_46 => ?_)
        · replace h := ite_t c_46 h
          refine lv_aload_n hx hb dX5_stoves_51 rfl (lv_at hl 1 rfl) ?_
          obtain ⟨r_52, s_52, e_52, h⟩ := ob2_of h
          refine k_goV (k_runV (As := []) (rest := []) S hK hP (k_X5_keep l hAd e_52) cy_X5_keep wd_870 rfl mO rfl hl.1 rfl (Nat.le_of_ble_eq_true rfl) dX5_stoves_52 ⟨Nat.le_of_ble_eq_true rfl, Nat.le_of_ble_eq_true rfl⟩ ⟨Nat.zero_le _, Nat.zero_le _⟩) hS (fun _ h => h) (fun H locs hP hS _ _ => ?_)
          refine lv_iconst (v := (0 : Int32)) hx hb dX5_stoves_55 (by decide) ?_
          refine lv_istore (lv' := [(4, .int (0 : Int32)), (3, .int (((1 : Int32) <<< ((gF σ 0 7) &&& 31)) - (1 : Int32))), (0, .ref (am 0)), (1, .int x1), (2, .int x2)]) hx hb dX5_stoves_56 hl (by decide) rfl (fun ls hl => ?_)
          refine lv_bipush (v := (-9 : Int32)) hx hb dX5_stoves_58 (by decide) ?_
          refine lv_istore (lv' := [(5, .int (-9 : Int32)), (4, .int (0 : Int32)), (3, .int (((1 : Int32) <<< ((gF σ 0 7) &&& 31)) - (1 : Int32))), (0, .ref (am 0)), (1, .int x1), (2, .int x2)]) hx hb dX5_stoves_60 hl (by decide) rfl (fun ls hl => ?_)
          refine lv_iconst (v := (0 : Int32)) hx hb dX5_stoves_62 (by decide) ?_
          refine lv_istore (lv' := [(6, .int (0 : Int32)), (5, .int (-9 : Int32)), (4, .int (0 : Int32)), (3, .int (((1 : Int32) <<< ((gF σ 0 7) &&& 31)) - (1 : Int32))), (0, .ref (am 0)), (1, .int x1), (2, .int x2)]) hx hb dX5_stoves_63 hl (by decide) rfl (fun ls hl => ?_)
          exact loop65 100 s_52 x1 x2 (((1 : Int32) <<< ((gF σ 0 7) &&& 31)) - (1 : Int32)) (0 : Int32) (-9 : Int32) (0 : Int32) _ _ _ h hP hS (lv_sub hl [4, 5, 6, 3, 2, 1, 0] rfl)
        · replace h := ite_f c_46 h
          refine lv_iconst (v := (-1 : Int32)) hx hb dX5_stoves_49 (by decide) ?_
          obtain ⟨rfl, rfl⟩ := some_pair h
          exact k_iret S hr hlocks hP hS rfl dX5_stoves_50
      · replace h := ite_t c_26 h
        refine lv_bipush (v := (-3 : Int32)) hx hb dX5_stoves_29 (by decide) ?_
        obtain ⟨rfl, rfl⟩ := some_pair h
        exact k_iret S hr hlocks hP hS rfl dX5_stoves_31
    · replace h := ite_t c_16 h
      refine lv_bipush (v := (-2 : Int32)) hx hb dX5_stoves_19 (by decide) ?_
      obtain ⟨rfl, rfl⟩ := some_pair h
      exact k_iret S hr hlocks hP hS rfl dX5_stoves_21
def f_X5_reading (σ : SX) (x1 : Int32) (x2 : Int32) (x3 : Int32) : Option (Int32 × SX) := ob1 (f_X5_isSwearer σ x1) (fun r_2 => if r_2 = 0 then (some ((-1 : Int32), σ)) else (ob1 (f_X5_isHour σ x2) (fun r_10 => if r_10 = 0 then (some ((-1 : Int32), σ)) else (ob1 (f_X5_within x3 (0 : Int32) (1 : Int32)) (fun r_21 => if r_21 = 0 then (some ((-2 : Int32), σ)) else (if (gF σ 0 24) = (8 : Int32) then (some ((-4 : Int32), σ)) else (oin (gF σ 0 24) 8 (oin (gF (sR σ 14 (upd (gR σ 14) (gF σ 0 24).toNatClampNeg x1)) 0 24) 8 (oin (gF (sR (sR σ 14 (upd (gR σ 14) (gF σ 0 24).toNatClampNeg x1)) 15 (upd (gR (sR σ 14 (upd (gR σ 14) (gF σ 0 24).toNatClampNeg x1)) 15) (gF (sR σ 14 (upd (gR σ 14) (gF σ 0 24).toNatClampNeg x1)) 0 24).toNatClampNeg x2)) 0 24) 8 (some ((gF (sF (sR (sR (sR σ 14 (upd (gR σ 14) (gF σ 0 24).toNatClampNeg x1)) 15 (upd (gR (sR σ 14 (upd (gR σ 14) (gF σ 0 24).toNatClampNeg x1)) 15) (gF (sR σ 14 (upd (gR σ 14) (gF σ 0 24).toNatClampNeg x1)) 0 24).toNatClampNeg x2)) 16 (upd (gR (sR (sR σ 14 (upd (gR σ 14) (gF σ 0 24).toNatClampNeg x1)) 15 (upd (gR (sR σ 14 (upd (gR σ 14) (gF σ 0 24).toNatClampNeg x1)) 15) (gF (sR σ 14 (upd (gR σ 14) (gF σ 0 24).toNatClampNeg x1)) 0 24).toNatClampNeg x2)) 16) (gF (sR (sR σ 14 (upd (gR σ 14) (gF σ 0 24).toNatClampNeg x1)) 15 (upd (gR (sR σ 14 (upd (gR σ 14) (gF σ 0 24).toNatClampNeg x1)) 15) (gF (sR σ 14 (upd (gR σ 14) (gF σ 0 24).toNatClampNeg x1)) 0 24).toNatClampNeg x2)) 0 24).toNatClampNeg x3)) 0 24 ((gF (sR (sR (sR σ 14 (upd (gR σ 14) (gF σ 0 24).toNatClampNeg x1)) 15 (upd (gR (sR σ 14 (upd (gR σ 14) (gF σ 0 24).toNatClampNeg x1)) 15) (gF (sR σ 14 (upd (gR σ 14) (gF σ 0 24).toNatClampNeg x1)) 0 24).toNatClampNeg x2)) 16 (upd (gR (sR (sR σ 14 (upd (gR σ 14) (gF σ 0 24).toNatClampNeg x1)) 15 (upd (gR (sR σ 14 (upd (gR σ 14) (gF σ 0 24).toNatClampNeg x1)) 15) (gF (sR σ 14 (upd (gR σ 14) (gF σ 0 24).toNatClampNeg x1)) 0 24).toNatClampNeg x2)) 16) (gF (sR (sR σ 14 (upd (gR σ 14) (gF σ 0 24).toNatClampNeg x1)) 15 (upd (gR (sR σ 14 (upd (gR σ 14) (gF σ 0 24).toNatClampNeg x1)) 15) (gF (sR σ 14 (upd (gR σ 14) (gF σ 0 24).toNatClampNeg x1)) 0 24).toNatClampNeg x2)) 0 24).toNatClampNeg x3)) 0 24) + (1 : Int32))) 0 24) - (1 : Int32), sF (sR (sR (sR σ 14 (upd (gR σ 14) (gF σ 0 24).toNatClampNeg x1)) 15 (upd (gR (sR σ 14 (upd (gR σ 14) (gF σ 0 24).toNatClampNeg x1)) 15) (gF (sR σ 14 (upd (gR σ 14) (gF σ 0 24).toNatClampNeg x1)) 0 24).toNatClampNeg x2)) 16 (upd (gR (sR (sR σ 14 (upd (gR σ 14) (gF σ 0 24).toNatClampNeg x1)) 15 (upd (gR (sR σ 14 (upd (gR σ 14) (gF σ 0 24).toNatClampNeg x1)) 15) (gF (sR σ 14 (upd (gR σ 14) (gF σ 0 24).toNatClampNeg x1)) 0 24).toNatClampNeg x2)) 16) (gF (sR (sR σ 14 (upd (gR σ 14) (gF σ 0 24).toNatClampNeg x1)) 15 (upd (gR (sR σ 14 (upd (gR σ 14) (gF σ 0 24).toNatClampNeg x1)) 15) (gF (sR σ 14 (upd (gR σ 14) (gF σ 0 24).toNatClampNeg x1)) 0 24).toNatClampNeg x2)) 0 24).toNatClampNeg x3)) 0 24 ((gF (sR (sR (sR σ 14 (upd (gR σ 14) (gF σ 0 24).toNatClampNeg x1)) 15 (upd (gR (sR σ 14 (upd (gR σ 14) (gF σ 0 24).toNatClampNeg x1)) 15) (gF (sR σ 14 (upd (gR σ 14) (gF σ 0 24).toNatClampNeg x1)) 0 24).toNatClampNeg x2)) 16 (upd (gR (sR (sR σ 14 (upd (gR σ 14) (gF σ 0 24).toNatClampNeg x1)) 15 (upd (gR (sR σ 14 (upd (gR σ 14) (gF σ 0 24).toNatClampNeg x1)) 15) (gF (sR σ 14 (upd (gR σ 14) (gF σ 0 24).toNatClampNeg x1)) 0 24).toNatClampNeg x2)) 16) (gF (sR (sR σ 14 (upd (gR σ 14) (gF σ 0 24).toNatClampNeg x1)) 15 (upd (gR (sR σ 14 (upd (gR σ 14) (gF σ 0 24).toNatClampNeg x1)) 15) (gF (sR σ 14 (upd (gR σ 14) (gF σ 0 24).toNatClampNeg x1)) 0 24).toNatClampNeg x2)) 0 24).toNatClampNeg x3)) 0 24) + (1 : Int32)))))))))))))
set_option maxRecDepth 100000 in
set_option maxHeartbeats 4000000 in
theorem k_X5_reading (l : Launch) {D : va_G} {A : Nat → Prop} {cI cZ cS : ClassId} {am : Nat → Nat} (hAd : ∀ σ, va_D A (WM cI am σ)) {σ : SX} {x1 : Int32} {x2 : Int32} {x3 : Int32} {σ' : SX} {r : Int32} (h : f_X5_reading σ x1 x2 x3 = some (r, σ')) : Ct (QI D A r (WM cI am (σ'))) l yX5_reading cX5_reading 4 (some .int) 1 22 D (tyS cI cZ cS) A [.ref (am 0), .int x1, .int x2, .int x3] (WM cI am σ) := by
  refine Ct.of (by decide +kernel) (Nat.le_of_ble_eq_true rfl) ?_
  intro p e s m below meth c ls S hK hr hlocks hP hS hl
  have hx := S.1
  have hb := S.2.1
  have hl : lv_has ls 4 [(0, .ref (am 0)), (1, .int x1), (2, .int x2), (3, .int x3)] := hl
  rw [f_X5_reading] at h
  refine lv_aload_n hx hb dX5_reading_0 rfl (lv_at hl 0 rfl) ?_
  refine lv_iload_n hx hb dX5_reading_1 rfl (lv_at hl 1 rfl) ?_
  obtain ⟨r_2, e_2, h⟩ := ob1_of h
  refine k_goI (k_runV (As := [.int x1]) (rest := []) S hK hP (k_X5_isSwearer l hAd e_2) cy_X5_isSwearer wd_780 rfl mO rfl hl.1 rfl (Nat.le_of_ble_eq_true rfl) dX5_reading_2 ⟨Nat.le_of_ble_eq_true rfl, Nat.le_of_ble_eq_true rfl⟩ ⟨Nat.zero_le _, Nat.zero_le _⟩) hS (fun _ h => h) (fun H locs hP hS _ _ => ?_)
  refine lv_if_eq (tgt := 16) hx hb dX5_reading_5 (by decide) (fun c_5 => ?_) (fun c_5 => ?_)
  · replace h := ite_t c_5 h
    refine lv_iconst (v := (-1 : Int32)) hx hb dX5_reading_16 (by decide) ?_
    obtain ⟨rfl, rfl⟩ := some_pair h
    exact k_iret S hr hlocks hP hS rfl dX5_reading_17
  · replace h := ite_f c_5 h
    refine lv_aload_n hx hb dX5_reading_8 rfl (lv_at hl 0 rfl) ?_
    refine lv_iload_n hx hb dX5_reading_9 rfl (lv_at hl 2 rfl) ?_
    obtain ⟨r_10, e_10, h⟩ := ob1_of h
    refine k_goI (k_runV (As := [.int x2]) (rest := []) S hK hP (k_X5_isHour l hAd e_10) cy_X5_isHour wd_824 rfl mO rfl hl.1 rfl (Nat.le_of_ble_eq_true rfl) dX5_reading_10 ⟨Nat.le_of_ble_eq_true rfl, Nat.le_of_ble_eq_true rfl⟩ ⟨Nat.zero_le _, Nat.zero_le _⟩) hS (fun _ h => h) (fun H locs hP hS _ _ => ?_)
    refine lv_if_ne (tgt := 18) hx hb dX5_reading_13 (by decide) (fun c_13 => ?_) (fun c_13 => ?_)
    · replace h := ite_f c_13 h
      refine lv_iload_n hx hb dX5_reading_18 rfl (lv_at hl 3 rfl) ?_
      refine lv_iconst (v := (0 : Int32)) hx hb dX5_reading_19 (by decide) ?_
      refine lv_iconst (v := (1 : Int32)) hx hb dX5_reading_20 (by decide) ?_
      obtain ⟨r_21, e_21, h⟩ := ob1_of h
      refine k_goI (k_runS (As := [.int x3, .int (0 : Int32), .int (1 : Int32)]) (rest := []) S hK hP (k_X5_within l  e_21) cy_X5_within wd_738 rfl hl.1 rfl (Nat.le_of_ble_eq_true rfl) dX5_reading_21 ⟨Nat.le_of_ble_eq_true rfl, Nat.le_of_ble_eq_true rfl⟩ ⟨Nat.zero_le _, Nat.zero_le _⟩) hS (fun _ h => h) (fun H locs hP hS _ _ => ?_)
      refine lv_if_ne (tgt := 30) hx hb dX5_reading_24 (by decide) (fun c_24 => ?_) (fun c_24 => ?_)
      · replace h := ite_f c_24 h
        refine lv_aload_n hx hb dX5_reading_30 rfl (lv_at hl 0 rfl) ?_
        refine gt_X5_116 S hK hP dX5_reading_31 ?_
        refine lv_bipush (v := (8 : Int32)) hx hb dX5_reading_34 (by decide) ?_
        refine lv_icmp_ne (tgt := 42) hx hb dX5_reading_36 (by decide) (fun c_36 => ?_) (fun c_36 => ?_)
        · replace h := ite_f c_36 h
          refine lv_aload_n hx hb dX5_reading_42 rfl (lv_at hl 0 rfl) ?_
          refine gt_X5_53 S hK hP dX5_reading_43 ?_
          refine lv_aload_n hx hb dX5_reading_46 rfl (lv_at hl 0 rfl) ?_
          refine gt_X5_116 S hK hP dX5_reading_47 ?_
          refine lv_iload_n hx hb dX5_reading_50 rfl (lv_at hl 1 rfl) ?_
          obtain ⟨hi_51, h⟩ := oin_of h
          refine k_iast S hK hP (hAd _) hS mr14 mr14_s hi_51 dX5_reading_51 (fun H locs hP hS => ?_)
          refine lv_aload_n hx hb dX5_reading_52 rfl (lv_at hl 0 rfl) ?_
          refine gt_X5_56 S hK hP dX5_reading_53 ?_
          refine lv_aload_n hx hb dX5_reading_56 rfl (lv_at hl 0 rfl) ?_
          refine gt_X5_116 S hK hP dX5_reading_57 ?_
          refine lv_iload_n hx hb dX5_reading_60 rfl (lv_at hl 2 rfl) ?_
          obtain ⟨hi_61, h⟩ := oin_of h
          refine k_iast S hK hP (hAd _) hS mr15 mr15_s hi_61 dX5_reading_61 (fun H locs hP hS => ?_)
          refine lv_aload_n hx hb dX5_reading_62 rfl (lv_at hl 0 rfl) ?_
          refine gt_X5_59 S hK hP dX5_reading_63 ?_
          refine lv_aload_n hx hb dX5_reading_66 rfl (lv_at hl 0 rfl) ?_
          refine gt_X5_116 S hK hP dX5_reading_67 ?_
          refine lv_iload_n hx hb dX5_reading_70 rfl (lv_at hl 3 rfl) ?_
          obtain ⟨hi_71, h⟩ := oin_of h
          refine k_iast S hK hP (hAd _) hS mr16 mr16_s hi_71 dX5_reading_71 (fun H locs hP hS => ?_)
          refine lv_aload_n hx hb dX5_reading_72 rfl (lv_at hl 0 rfl) ?_
          refine lv_dup hx hb dX5_reading_73 rfl ?_
          refine gt_X5_116 S hK hP dX5_reading_74 ?_
          refine lv_iconst (v := (1 : Int32)) hx hb dX5_reading_77 (by decide) ?_
          refine lv_iadd hx hb dX5_reading_78 ?_
          refine pt_X5_116 S hK hP (hAd _) hS dX5_reading_79 (fun H locs hP hS => ?_)
          refine lv_aload_n hx hb dX5_reading_82 rfl (lv_at hl 0 rfl) ?_
          refine gt_X5_116 S hK hP dX5_reading_83 ?_
          refine lv_iconst (v := (1 : Int32)) hx hb dX5_reading_86 (by decide) ?_
          refine lv_isub hx hb dX5_reading_87 ?_
          obtain ⟨rfl, rfl⟩ := some_pair h
          exact k_iret S hr hlocks hP hS rfl dX5_reading_88
        · replace h := ite_t c_36 h
          refine lv_bipush (v := (-4 : Int32)) hx hb dX5_reading_39 (by decide) ?_
          obtain ⟨rfl, rfl⟩ := some_pair h
          exact k_iret S hr hlocks hP hS rfl dX5_reading_41
      · replace h := ite_t c_24 h
        refine lv_bipush (v := (-2 : Int32)) hx hb dX5_reading_27 (by decide) ?_
        obtain ⟨rfl, rfl⟩ := some_pair h
        exact k_iret S hr hlocks hP hS rfl dX5_reading_29
    · replace h := ite_t c_13 h
      refine lv_iconst (v := (-1 : Int32)) hx hb dX5_reading_16 (by decide) ?_
      obtain ⟨rfl, rfl⟩ := some_pair h
      exact k_iret S hr hlocks hP hS rfl dX5_reading_17
def f_X5_back (σ : SX) (x1 : Int32) : Option (Int32 × SX) := ob1 (f_X5_within x1 (0 : Int32) (gF σ 0 24)) (fun r_6 => if r_6 = 0 then (some ((-2 : Int32), σ)) else (some (gF (sF σ 0 24 ((gF σ 0 24) - x1)) 0 24, sF σ 0 24 ((gF σ 0 24) - x1))))
set_option maxRecDepth 100000 in
set_option maxHeartbeats 4000000 in
theorem k_X5_back (l : Launch) {D : va_G} {A : Nat → Prop} {cI cZ cS : ClassId} {am : Nat → Nat} (hAd : ∀ σ, va_D A (WM cI am σ)) {σ : SX} {x1 : Int32} {σ' : SX} {r : Int32} (h : f_X5_back σ x1 = some (r, σ')) : Ct (QI D A r (WM cI am (σ'))) l yX5_back cX5_back 2 (some .int) 1 22 D (tyS cI cZ cS) A [.ref (am 0), .int x1] (WM cI am σ) := by
  refine Ct.of (by decide +kernel) (Nat.le_of_ble_eq_true rfl) ?_
  intro p e s m below meth c ls S hK hr hlocks hP hS hl
  have hx := S.1
  have hb := S.2.1
  have hl : lv_has ls 2 [(0, .ref (am 0)), (1, .int x1)] := hl
  rw [f_X5_back] at h
  refine lv_iload_n hx hb dX5_back_0 rfl (lv_at hl 1 rfl) ?_
  refine lv_iconst (v := (0 : Int32)) hx hb dX5_back_1 (by decide) ?_
  refine lv_aload_n hx hb dX5_back_2 rfl (lv_at hl 0 rfl) ?_
  refine gt_X5_116 S hK hP dX5_back_3 ?_
  obtain ⟨r_6, e_6, h⟩ := ob1_of h
  refine k_goI (k_runS (As := [.int x1, .int (0 : Int32), .int (gF σ 0 24)]) (rest := []) S hK hP (k_X5_within l  e_6) cy_X5_within wd_738 rfl hl.1 rfl (Nat.le_of_ble_eq_true rfl) dX5_back_6 ⟨Nat.le_of_ble_eq_true rfl, Nat.le_of_ble_eq_true rfl⟩ ⟨Nat.zero_le _, Nat.zero_le _⟩) hS (fun _ h => h) (fun H locs hP hS _ _ => ?_)
  refine lv_if_ne (tgt := 15) hx hb dX5_back_9 (by decide) (fun c_9 => ?_) (fun c_9 => ?_)
  · replace h := ite_f c_9 h
    refine lv_aload_n hx hb dX5_back_15 rfl (lv_at hl 0 rfl) ?_
    refine lv_dup hx hb dX5_back_16 rfl ?_
    refine gt_X5_116 S hK hP dX5_back_17 ?_
    refine lv_iload_n hx hb dX5_back_20 rfl (lv_at hl 1 rfl) ?_
    refine lv_isub hx hb dX5_back_21 ?_
    refine pt_X5_116 S hK hP (hAd _) hS dX5_back_22 (fun H locs hP hS => ?_)
    refine lv_aload_n hx hb dX5_back_25 rfl (lv_at hl 0 rfl) ?_
    refine gt_X5_116 S hK hP dX5_back_26 ?_
    obtain ⟨rfl, rfl⟩ := some_pair h
    exact k_iret S hr hlocks hP hS rfl dX5_back_29
  · replace h := ite_t c_9 h
    refine lv_bipush (v := (-2 : Int32)) hx hb dX5_back_12 (by decide) ?_
    obtain ⟨rfl, rfl⟩ := some_pair h
    exact k_iret S hr hlocks hP hS rfl dX5_back_14
def f_X5_areSo_L2 (σ : SX) : Nat → Int32 → Option Int32
  | 0, _ => none
  | n + 1, y1 => if (gF σ 0 24) ≤ y1 then (some (1 : Int32)) else (oin y1 8 (oin y1 8 (ob1 (f_X5_isCold σ (gR σ 14 y1.toNatClampNeg) (gR σ 15 y1.toNatClampNeg)) (fun r_23 => oin y1 8 (if (gR σ 16 y1.toNatClampNeg) = (1 : Int32) then (if r_23 = (1 : Int32) then (f_X5_areSo_L2 σ n (y1 + (1 : Int32))) else (some (0 : Int32))) else (if r_23 = (0 : Int32) then (f_X5_areSo_L2 σ n (y1 + (1 : Int32))) else (some (0 : Int32))))))))
def f_X5_areSo (σ : SX) : Option Int32 := f_X5_areSo_L2 σ 100 (0 : Int32)
set_option maxRecDepth 100000 in
set_option maxHeartbeats 4000000 in
theorem k_X5_areSo (l : Launch) {D : va_G} {A : Nat → Prop} {cI cZ cS : ClassId} {am : Nat → Nat} (hAd : ∀ σ, va_D A (WM cI am σ)) {σ : SX} {r : Int32} (h : f_X5_areSo σ = some r) : Ct (QI D A r (WM cI am σ)) l yX5_areSo cX5_areSo 2 (some .boolean) 3 65 D (tyS cI cZ cS) A [.ref (am 0)] (WM cI am σ) := by
  refine Ct.of (by decide +kernel) (Nat.le_of_ble_eq_true rfl) ?_
  intro p e s m below meth c ls S hK hr hlocks hP hS hl
  have hx := S.1
  have hb := S.2.1
  have hl : lv_has ls 2 [(0, .ref (am 0))] := hl
  have loop2 : ∀ (n : Nat) (y1 : Int32) (H : Heap) (locs : List Loc) (ls : Array Slot), f_X5_areSo_L2 σ n y1 = some r → va_P D vwCl (WM cI am σ) H → va_S A s.heap H locs → lv_has ls 2 [(0, .ref (am 0)), (1, .int y1)] → W p l e (rmO 3 65) s m [.ref (am 0)].toArray below meth c H locs 0 0 (MQ below (QI D A r (WM cI am σ)) [.ref (am 0)].toArray s 0 0 A) (F0 m 2 ls []) := by
    intro n
    induction n with
    | zero => intro y1 H locs ls h; cases h
    | succ n ih =>
      intro y1 H locs ls h hP hS hl
      rw [f_X5_areSo_L2] at h
      refine lv_iload_n hx hb dX5_areSo_2 rfl (lv_at hl 1 rfl) ?_
      refine lv_aload_n hx hb dX5_areSo_3 rfl (lv_at hl 0 rfl) ?_
      refine gt_X5_116 S hK hP dX5_areSo_4 ?_
      refine lv_icmp_ge (tgt := 52) hx hb dX5_areSo_7 (by decide) (fun c_7 => ?_) (fun c_7 => ?_)
      · replace h := ite_t c_7 h
        refine lv_iconst (v := (1 : Int32)) hx hb dX5_areSo_52 (by decide) ?_
        exact k_zret S hr hlocks hP hS (Option.some.inj h) (Or.inr rfl) dX5_areSo_53
      · replace h := ite_f c_7 h
        refine lv_aload_n hx hb dX5_areSo_10 rfl (lv_at hl 0 rfl) ?_
        refine lv_aload_n hx hb dX5_areSo_11 rfl (lv_at hl 0 rfl) ?_
        refine gt_X5_53 S hK hP dX5_areSo_12 ?_
        refine lv_iload_n hx hb dX5_areSo_15 rfl (lv_at hl 1 rfl) ?_
        obtain ⟨hi_16, h⟩ := oin_of h
        refine k_iald S hK hP mr14 hi_16 dX5_areSo_16 ?_
        refine lv_aload_n hx hb dX5_areSo_17 rfl (lv_at hl 0 rfl) ?_
        refine gt_X5_56 S hK hP dX5_areSo_18 ?_
        refine lv_iload_n hx hb dX5_areSo_21 rfl (lv_at hl 1 rfl) ?_
        obtain ⟨hi_22, h⟩ := oin_of h
        refine k_iald S hK hP mr15 hi_22 dX5_areSo_22 ?_
        obtain ⟨r_23, e_23, h⟩ := ob1_of h
        refine k_goI (k_runV (As := [.int (gR σ 14 y1.toNatClampNeg), .int (gR σ 15 y1.toNatClampNeg)]) (rest := []) S hK hP (k_X5_isCold l hAd e_23) cy_X5_isCold wd_792 rfl mO rfl hl.1 rfl (Nat.le_of_ble_eq_true rfl) dX5_areSo_23 ⟨Nat.le_of_ble_eq_true rfl, Nat.le_of_ble_eq_true rfl⟩ ⟨Nat.zero_le _, Nat.zero_le _⟩) hS (fun _ h => h) (fun H locs hP hS _ _ => ?_)
        refine lv_aload_n hx hb dX5_areSo_26 rfl (lv_at hl 0 rfl) ?_
        refine gt_X5_59 S hK hP dX5_areSo_27 ?_
        refine lv_iload_n hx hb dX5_areSo_30 rfl (lv_at hl 1 rfl) ?_
        obtain ⟨hi_31, h⟩ := oin_of h
        refine k_iald S hK hP mr16 hi_31 dX5_areSo_31 ?_
        refine lv_iconst (v := (1 : Int32)) hx hb dX5_areSo_32 (by decide) ?_
        refine lv_icmp_ne (tgt := 40) hx hb dX5_areSo_33 (by decide) (fun c_33 => ?_) (fun c_33 => ?_)
        · replace h := ite_f c_33 h
          refine lv_iconst (v := (0 : Int32)) hx hb dX5_areSo_40 (by decide) ?_
          refine lv_icmp_eq (tgt := 46) hx hb dX5_areSo_41 (by decide) (fun c_41 => ?_) (fun c_41 => ?_)
          · replace h := ite_t c_41 h
            refine lv_iinc (v := y1 + (1 : Int32)) (lv' := [(1, .int (y1 + (1 : Int32))), (0, .ref (am 0))]) hx hb dX5_areSo_46 hl (k := 1) rfl rfl (by decide) rfl (fun ls hl => ?_)
            refine lv_goto (tgt := 2) hx hb dX5_areSo_49 (by decide) ?_
            exact ih (y1 + (1 : Int32)) _ _ _ h hP hS (lv_sub hl [1, 0] rfl)
          · replace h := ite_f c_41 h
            refine lv_iconst (v := (0 : Int32)) hx hb dX5_areSo_44 (by decide) ?_
            exact k_zret S hr hlocks hP hS (Option.some.inj h) (Or.inl rfl) dX5_areSo_45
        · replace h := ite_t c_33 h
          refine lv_iconst (v := (1 : Int32)) hx hb dX5_areSo_36 (by decide) ?_
          refine lv_goto (tgt := 41) hx hb dX5_areSo_37 (by decide) ?_
          refine lv_icmp_eq (tgt := 46) hx hb dX5_areSo_41 (by decide) (fun c_41 => ?_) (fun c_41 => ?_)
          · replace h := ite_t c_41 h
            refine lv_iinc (v := y1 + (1 : Int32)) (lv' := [(1, .int (y1 + (1 : Int32))), (0, .ref (am 0))]) hx hb dX5_areSo_46 hl (k := 1) rfl rfl (by decide) rfl (fun ls hl => ?_)
            refine lv_goto (tgt := 2) hx hb dX5_areSo_49 (by decide) ?_
            exact ih (y1 + (1 : Int32)) _ _ _ h hP hS (lv_sub hl [1, 0] rfl)
          · replace h := ite_f c_41 h
            refine lv_iconst (v := (0 : Int32)) hx hb dX5_areSo_44 (by decide) ?_
            exact k_zret S hr hlocks hP hS (Option.some.inj h) (Or.inl rfl) dX5_areSo_45
  rw [f_X5_areSo] at h
  refine lv_iconst (v := (0 : Int32)) hx hb dX5_areSo_0 (by decide) ?_
  refine lv_istore_n (lv' := [(1, .int (0 : Int32)), (0, .ref (am 0))]) hx hb dX5_areSo_1 rfl hl (by decide) rfl (fun ls hl => ?_)
  exact loop2 100 (0 : Int32) _ _ _ h hP hS (lv_sub hl [1, 0] rfl)
def f_X5_coats_L22 : Nat → SX → Int32 → Int32 → Int32 → Int32 → Option (Int32 × SX)
  | 0, _, _, _, _, _ => none
  | n + 1, σ, y1, y2, y3, y4 => if (9 : Int32) < y4 then (oin y1 4 (some (y3, sR σ 6 (upd (gR σ 6) y1.toNatClampNeg y2)))) else (oin y1 4 (ob1 (f_X5_areSo (sR σ 6 (upd (gR σ 6) y1.toNatClampNeg y4))) (fun r_39 => if r_39 = 0 then (f_X5_coats_L22 n (sR σ 6 (upd (gR σ 6) y1.toNatClampNeg y4)) y1 y2 (y3 ||| (0 : Int32)) (y4 + (1 : Int32))) else (f_X5_coats_L22 n (sR σ 6 (upd (gR σ 6) y1.toNatClampNeg y4)) y1 y2 (y3 ||| ((1 : Int32) <<< (y4 &&& 31))) (y4 + (1 : Int32))))))
def f_X5_coats (σ : SX) (x1 : Int32) : Option (Int32 × SX) := ob1 (f_X5_isSwearer σ x1) (fun r_2 => if r_2 = 0 then (some ((-1 : Int32), σ)) else (oin x1 4 (f_X5_coats_L22 100 σ x1 (gR σ 6 x1.toNatClampNeg) (0 : Int32) (0 : Int32))))
set_option maxRecDepth 100000 in
set_option maxHeartbeats 4000000 in
theorem k_X5_coats (l : Launch) {D : va_G} {A : Nat → Prop} {cI cZ cS : ClassId} {am : Nat → Nat} (hAd : ∀ σ, va_D A (WM cI am σ)) {σ : SX} {x1 : Int32} {σ' : SX} {r : Int32} (h : f_X5_coats σ x1 = some (r, σ')) : Ct (QI D A r (WM cI am (σ'))) l yX5_coats cX5_coats 5 (some .int) 4 86 D (tyS cI cZ cS) A [.ref (am 0), .int x1] (WM cI am σ) := by
  refine Ct.of (by decide +kernel) (Nat.le_of_ble_eq_true rfl) ?_
  intro p e s m below meth c ls S hK hr hlocks hP hS hl
  have hx := S.1
  have hb := S.2.1
  have hl : lv_has ls 5 [(0, .ref (am 0)), (1, .int x1)] := hl
  have loop22 : ∀ (n : Nat) (σ : SX) (y1 : Int32) (y2 : Int32) (y3 : Int32) (y4 : Int32) (H : Heap) (locs : List Loc) (ls : Array Slot), f_X5_coats_L22 n σ y1 y2 y3 y4 = some (r, σ') → va_P D vwCl (WM cI am σ) H → va_S A s.heap H locs → lv_has ls 5 [(0, .ref (am 0)), (1, .int y1), (2, .int y2), (3, .int y3), (4, .int y4)] → W p l e (rmO 4 86) s m [.ref (am 0), .int x1].toArray below meth c H locs 0 0 (MQ below (QI D A r (WM cI am (σ'))) [.ref (am 0), .int x1].toArray s 0 0 A) (F0 m 22 ls []) := by
    intro n
    induction n with
    | zero => intro σ y1 y2 y3 y4 H locs ls h; cases h
    | succ n ih =>
      intro σ y1 y2 y3 y4 H locs ls h hP hS hl
      rw [f_X5_coats_L22] at h
      refine lv_iload hx hb dX5_coats_22 (lv_at hl 4 rfl) ?_
      refine lv_bipush (v := (9 : Int32)) hx hb dX5_coats_24 (by decide) ?_
      refine lv_icmp_gt (tgt := 61) hx hb dX5_coats_26 (by decide) (fun c_26 => ?_) (fun c_26 => ?_)
      · replace h := ite_t c_26 h
        refine lv_aload_n hx hb dX5_coats_61 rfl (lv_at hl 0 rfl) ?_
        refine gt_X5_29 S hK hP dX5_coats_62 ?_
        refine lv_iload_n hx hb dX5_coats_65 rfl (lv_at hl 1 rfl) ?_
        refine lv_iload_n hx hb dX5_coats_66 rfl (lv_at hl 2 rfl) ?_
        obtain ⟨hi_67, h⟩ := oin_of h
        refine k_iast S hK hP (hAd _) hS mr6 mr6_s hi_67 dX5_coats_67 (fun H locs hP hS => ?_)
        refine lv_iload_n hx hb dX5_coats_68 rfl (lv_at hl 3 rfl) ?_
        obtain ⟨rfl, rfl⟩ := some_pair h
        exact k_iret S hr hlocks hP hS rfl dX5_coats_69
      · replace h := ite_f c_26 h
        refine lv_aload_n hx hb dX5_coats_29 rfl (lv_at hl 0 rfl) ?_
        refine gt_X5_29 S hK hP dX5_coats_30 ?_
        refine lv_iload_n hx hb dX5_coats_33 rfl (lv_at hl 1 rfl) ?_
        refine lv_iload hx hb dX5_coats_34 (lv_at hl 4 rfl) ?_
        obtain ⟨hi_36, h⟩ := oin_of h
        refine k_iast S hK hP (hAd _) hS mr6 mr6_s hi_36 dX5_coats_36 (fun H locs hP hS => ?_)
        refine lv_iload_n hx hb dX5_coats_37 rfl (lv_at hl 3 rfl) ?_
        refine lv_aload_n hx hb dX5_coats_38 rfl (lv_at hl 0 rfl) ?_
        obtain ⟨r_39, e_39, h⟩ := ob1_of h
        refine k_goI (k_runV (As := []) (rest := [.int y3]) S hK hP (k_X5_areSo l hAd e_39) cy_X5_areSo wd_949 rfl mO rfl hl.1 rfl (Nat.le_of_ble_eq_true rfl) dX5_coats_39 ⟨Nat.le_of_ble_eq_true rfl, Nat.le_of_ble_eq_true rfl⟩ ⟨Nat.zero_le _, Nat.zero_le _⟩) hS (fun _ h => h) (fun H locs hP hS _ _ => ?_)
        refine lv_if_eq (tgt := 52) hx hb dX5_coats_42 (by decide) (fun c_42 => ?_) (fun c_42 => ?_)
        · replace h := ite_t c_42 h
          refine lv_iconst (v := (0 : Int32)) hx hb dX5_coats_52 (by decide) ?_
          refine lv_ior hx hb dX5_coats_53 ?_
          refine lv_istore_n (lv' := [(3, .int (y3 ||| (0 : Int32))), (0, .ref (am 0)), (1, .int y1), (2, .int y2), (4, .int y4)]) hx hb dX5_coats_54 rfl hl (by decide) rfl (fun ls hl => ?_)
          refine lv_iinc (v := y4 + (1 : Int32)) (lv' := [(4, .int (y4 + (1 : Int32))), (3, .int (y3 ||| (0 : Int32))), (0, .ref (am 0)), (1, .int y1), (2, .int y2)]) hx hb dX5_coats_55 hl (k := 4) rfl rfl (by decide) rfl (fun ls hl => ?_)
          refine lv_goto (tgt := 22) hx hb dX5_coats_58 (by decide) ?_
          exact ih (sR σ 6 (upd (gR σ 6) y1.toNatClampNeg y4)) y1 y2 (y3 ||| (0 : Int32)) (y4 + (1 : Int32)) _ _ _ h hP hS (lv_sub hl [2, 3, 4, 1, 0] rfl)
        · replace h := ite_f c_42 h
          refine lv_iconst (v := (1 : Int32)) hx hb dX5_coats_45 (by decide) ?_
          refine lv_iload hx hb dX5_coats_46 (lv_at hl 4 rfl) ?_
          refine lv_ishl hx hb dX5_coats_48 ?_
          refine lv_goto (tgt := 53) hx hb dX5_coats_49 (by decide) ?_
          refine lv_ior hx hb dX5_coats_53 ?_
          refine lv_istore_n (lv' := [(3, .int (y3 ||| ((1 : Int32) <<< (y4 &&& 31)))), (0, .ref (am 0)), (1, .int y1), (2, .int y2), (4, .int y4)]) hx hb dX5_coats_54 rfl hl (by decide) rfl (fun ls hl => ?_)
          refine lv_iinc (v := y4 + (1 : Int32)) (lv' := [(4, .int (y4 + (1 : Int32))), (3, .int (y3 ||| ((1 : Int32) <<< (y4 &&& 31)))), (0, .ref (am 0)), (1, .int y1), (2, .int y2)]) hx hb dX5_coats_55 hl (k := 4) rfl rfl (by decide) rfl (fun ls hl => ?_)
          refine lv_goto (tgt := 22) hx hb dX5_coats_58 (by decide) ?_
          exact ih (sR σ 6 (upd (gR σ 6) y1.toNatClampNeg y4)) y1 y2 (y3 ||| ((1 : Int32) <<< (y4 &&& 31))) (y4 + (1 : Int32)) _ _ _ h hP hS (lv_sub hl [2, 3, 4, 1, 0] rfl)
  rw [f_X5_coats] at h
  refine lv_aload_n hx hb dX5_coats_0 rfl (lv_at hl 0 rfl) ?_
  refine lv_iload_n hx hb dX5_coats_1 rfl (lv_at hl 1 rfl) ?_
  obtain ⟨r_2, e_2, h⟩ := ob1_of h
  refine k_goI (k_runV (As := [.int x1]) (rest := []) S hK hP (k_X5_isSwearer l hAd e_2) cy_X5_isSwearer wd_780 rfl mO rfl hl.1 rfl (Nat.le_of_ble_eq_true rfl) dX5_coats_2 ⟨Nat.le_of_ble_eq_true rfl, Nat.le_of_ble_eq_true rfl⟩ ⟨Nat.zero_le _, Nat.zero_le _⟩) hS (fun _ h => h) (fun H locs hP hS _ _ => ?_)
  refine lv_if_ne (tgt := 10) hx hb dX5_coats_5 (by decide) (fun c_5 => ?_) (fun c_5 => ?_)
  · replace h := ite_f c_5 h
    refine lv_aload_n hx hb dX5_coats_10 rfl (lv_at hl 0 rfl) ?_
    refine gt_X5_29 S hK hP dX5_coats_11 ?_
    refine lv_iload_n hx hb dX5_coats_14 rfl (lv_at hl 1 rfl) ?_
    obtain ⟨hi_15, h⟩ := oin_of h
    refine k_iald S hK hP mr6 hi_15 dX5_coats_15 ?_
    refine lv_istore_n (lv' := [(2, .int (gR σ 6 x1.toNatClampNeg)), (0, .ref (am 0)), (1, .int x1)]) hx hb dX5_coats_16 rfl hl (by decide) rfl (fun ls hl => ?_)
    refine lv_iconst (v := (0 : Int32)) hx hb dX5_coats_17 (by decide) ?_
    refine lv_istore_n (lv' := [(3, .int (0 : Int32)), (2, .int (gR σ 6 x1.toNatClampNeg)), (0, .ref (am 0)), (1, .int x1)]) hx hb dX5_coats_18 rfl hl (by decide) rfl (fun ls hl => ?_)
    refine lv_iconst (v := (0 : Int32)) hx hb dX5_coats_19 (by decide) ?_
    refine lv_istore (lv' := [(4, .int (0 : Int32)), (3, .int (0 : Int32)), (2, .int (gR σ 6 x1.toNatClampNeg)), (0, .ref (am 0)), (1, .int x1)]) hx hb dX5_coats_20 hl (by decide) rfl (fun ls hl => ?_)
    exact loop22 100 σ x1 (gR σ 6 x1.toNatClampNeg) (0 : Int32) (0 : Int32) _ _ _ h hP hS (lv_sub hl [3, 4, 2, 1, 0] rfl)
  · replace h := ite_t c_5 h
    refine lv_iconst (v := (-1 : Int32)) hx hb dX5_coats_8 (by decide) ?_
    obtain ⟨rfl, rfl⟩ := some_pair h
    exact k_iret S hr hlocks hP hS rfl dX5_coats_9
def f_X5_kinds_L22 : Nat → SX → Int32 → Int32 → Int32 → Int32 → Option (Int32 × SX)
  | 0, _, _, _, _, _ => none
  | n + 1, σ, y1, y2, y3, y4 => if (3 : Int32) ≤ y4 then (oin y1 4 (some (y3, sR σ 5 (upd (gR σ 5) y1.toNatClampNeg y2)))) else (oin y1 4 (ob1 (f_X5_areSo (sR σ 5 (upd (gR σ 5) y1.toNatClampNeg y4))) (fun r_38 => if r_38 = 0 then (f_X5_kinds_L22 n (sR σ 5 (upd (gR σ 5) y1.toNatClampNeg y4)) y1 y2 (y3 ||| (0 : Int32)) (y4 + (1 : Int32))) else (f_X5_kinds_L22 n (sR σ 5 (upd (gR σ 5) y1.toNatClampNeg y4)) y1 y2 (y3 ||| ((1 : Int32) <<< (y4 &&& 31))) (y4 + (1 : Int32))))))
def f_X5_kinds (σ : SX) (x1 : Int32) : Option (Int32 × SX) := ob1 (f_X5_isSwearer σ x1) (fun r_2 => if r_2 = 0 then (some ((-1 : Int32), σ)) else (oin x1 4 (f_X5_kinds_L22 100 σ x1 (gR σ 5 x1.toNatClampNeg) (0 : Int32) (0 : Int32))))
set_option maxRecDepth 100000 in
set_option maxHeartbeats 4000000 in
theorem k_X5_kinds (l : Launch) {D : va_G} {A : Nat → Prop} {cI cZ cS : ClassId} {am : Nat → Nat} (hAd : ∀ σ, va_D A (WM cI am σ)) {σ : SX} {x1 : Int32} {σ' : SX} {r : Int32} (h : f_X5_kinds σ x1 = some (r, σ')) : Ct (QI D A r (WM cI am (σ'))) l yX5_kinds cX5_kinds 5 (some .int) 4 86 D (tyS cI cZ cS) A [.ref (am 0), .int x1] (WM cI am σ) := by
  refine Ct.of (by decide +kernel) (Nat.le_of_ble_eq_true rfl) ?_
  intro p e s m below meth c ls S hK hr hlocks hP hS hl
  have hx := S.1
  have hb := S.2.1
  have hl : lv_has ls 5 [(0, .ref (am 0)), (1, .int x1)] := hl
  have loop22 : ∀ (n : Nat) (σ : SX) (y1 : Int32) (y2 : Int32) (y3 : Int32) (y4 : Int32) (H : Heap) (locs : List Loc) (ls : Array Slot), f_X5_kinds_L22 n σ y1 y2 y3 y4 = some (r, σ') → va_P D vwCl (WM cI am σ) H → va_S A s.heap H locs → lv_has ls 5 [(0, .ref (am 0)), (1, .int y1), (2, .int y2), (3, .int y3), (4, .int y4)] → W p l e (rmO 4 86) s m [.ref (am 0), .int x1].toArray below meth c H locs 0 0 (MQ below (QI D A r (WM cI am (σ'))) [.ref (am 0), .int x1].toArray s 0 0 A) (F0 m 22 ls []) := by
    intro n
    induction n with
    | zero => intro σ y1 y2 y3 y4 H locs ls h; cases h
    | succ n ih =>
      intro σ y1 y2 y3 y4 H locs ls h hP hS hl
      rw [f_X5_kinds_L22] at h
      refine lv_iload hx hb dX5_kinds_22 (lv_at hl 4 rfl) ?_
      refine lv_iconst (v := (3 : Int32)) hx hb dX5_kinds_24 (by decide) ?_
      refine lv_icmp_ge (tgt := 60) hx hb dX5_kinds_25 (by decide) (fun c_25 => ?_) (fun c_25 => ?_)
      · replace h := ite_t c_25 h
        refine lv_aload_n hx hb dX5_kinds_60 rfl (lv_at hl 0 rfl) ?_
        refine gt_X5_26 S hK hP dX5_kinds_61 ?_
        refine lv_iload_n hx hb dX5_kinds_64 rfl (lv_at hl 1 rfl) ?_
        refine lv_iload_n hx hb dX5_kinds_65 rfl (lv_at hl 2 rfl) ?_
        obtain ⟨hi_66, h⟩ := oin_of h
        refine k_iast S hK hP (hAd _) hS mr5 mr5_s hi_66 dX5_kinds_66 (fun H locs hP hS => ?_)
        refine lv_iload_n hx hb dX5_kinds_67 rfl (lv_at hl 3 rfl) ?_
        obtain ⟨rfl, rfl⟩ := some_pair h
        exact k_iret S hr hlocks hP hS rfl dX5_kinds_68
      · replace h := ite_f c_25 h
        refine lv_aload_n hx hb dX5_kinds_28 rfl (lv_at hl 0 rfl) ?_
        refine gt_X5_26 S hK hP dX5_kinds_29 ?_
        refine lv_iload_n hx hb dX5_kinds_32 rfl (lv_at hl 1 rfl) ?_
        refine lv_iload hx hb dX5_kinds_33 (lv_at hl 4 rfl) ?_
        obtain ⟨hi_35, h⟩ := oin_of h
        refine k_iast S hK hP (hAd _) hS mr5 mr5_s hi_35 dX5_kinds_35 (fun H locs hP hS => ?_)
        refine lv_iload_n hx hb dX5_kinds_36 rfl (lv_at hl 3 rfl) ?_
        refine lv_aload_n hx hb dX5_kinds_37 rfl (lv_at hl 0 rfl) ?_
        obtain ⟨r_38, e_38, h⟩ := ob1_of h
        refine k_goI (k_runV (As := []) (rest := [.int y3]) S hK hP (k_X5_areSo l hAd e_38) cy_X5_areSo wd_949 rfl mO rfl hl.1 rfl (Nat.le_of_ble_eq_true rfl) dX5_kinds_38 ⟨Nat.le_of_ble_eq_true rfl, Nat.le_of_ble_eq_true rfl⟩ ⟨Nat.zero_le _, Nat.zero_le _⟩) hS (fun _ h => h) (fun H locs hP hS _ _ => ?_)
        refine lv_if_eq (tgt := 51) hx hb dX5_kinds_41 (by decide) (fun c_41 => ?_) (fun c_41 => ?_)
        · replace h := ite_t c_41 h
          refine lv_iconst (v := (0 : Int32)) hx hb dX5_kinds_51 (by decide) ?_
          refine lv_ior hx hb dX5_kinds_52 ?_
          refine lv_istore_n (lv' := [(3, .int (y3 ||| (0 : Int32))), (0, .ref (am 0)), (1, .int y1), (2, .int y2), (4, .int y4)]) hx hb dX5_kinds_53 rfl hl (by decide) rfl (fun ls hl => ?_)
          refine lv_iinc (v := y4 + (1 : Int32)) (lv' := [(4, .int (y4 + (1 : Int32))), (3, .int (y3 ||| (0 : Int32))), (0, .ref (am 0)), (1, .int y1), (2, .int y2)]) hx hb dX5_kinds_54 hl (k := 4) rfl rfl (by decide) rfl (fun ls hl => ?_)
          refine lv_goto (tgt := 22) hx hb dX5_kinds_57 (by decide) ?_
          exact ih (sR σ 5 (upd (gR σ 5) y1.toNatClampNeg y4)) y1 y2 (y3 ||| (0 : Int32)) (y4 + (1 : Int32)) _ _ _ h hP hS (lv_sub hl [2, 3, 4, 1, 0] rfl)
        · replace h := ite_f c_41 h
          refine lv_iconst (v := (1 : Int32)) hx hb dX5_kinds_44 (by decide) ?_
          refine lv_iload hx hb dX5_kinds_45 (lv_at hl 4 rfl) ?_
          refine lv_ishl hx hb dX5_kinds_47 ?_
          refine lv_goto (tgt := 52) hx hb dX5_kinds_48 (by decide) ?_
          refine lv_ior hx hb dX5_kinds_52 ?_
          refine lv_istore_n (lv' := [(3, .int (y3 ||| ((1 : Int32) <<< (y4 &&& 31)))), (0, .ref (am 0)), (1, .int y1), (2, .int y2), (4, .int y4)]) hx hb dX5_kinds_53 rfl hl (by decide) rfl (fun ls hl => ?_)
          refine lv_iinc (v := y4 + (1 : Int32)) (lv' := [(4, .int (y4 + (1 : Int32))), (3, .int (y3 ||| ((1 : Int32) <<< (y4 &&& 31)))), (0, .ref (am 0)), (1, .int y1), (2, .int y2)]) hx hb dX5_kinds_54 hl (k := 4) rfl rfl (by decide) rfl (fun ls hl => ?_)
          refine lv_goto (tgt := 22) hx hb dX5_kinds_57 (by decide) ?_
          exact ih (sR σ 5 (upd (gR σ 5) y1.toNatClampNeg y4)) y1 y2 (y3 ||| ((1 : Int32) <<< (y4 &&& 31))) (y4 + (1 : Int32)) _ _ _ h hP hS (lv_sub hl [2, 3, 4, 1, 0] rfl)
  rw [f_X5_kinds] at h
  refine lv_aload_n hx hb dX5_kinds_0 rfl (lv_at hl 0 rfl) ?_
  refine lv_iload_n hx hb dX5_kinds_1 rfl (lv_at hl 1 rfl) ?_
  obtain ⟨r_2, e_2, h⟩ := ob1_of h
  refine k_goI (k_runV (As := [.int x1]) (rest := []) S hK hP (k_X5_isSwearer l hAd e_2) cy_X5_isSwearer wd_780 rfl mO rfl hl.1 rfl (Nat.le_of_ble_eq_true rfl) dX5_kinds_2 ⟨Nat.le_of_ble_eq_true rfl, Nat.le_of_ble_eq_true rfl⟩ ⟨Nat.zero_le _, Nat.zero_le _⟩) hS (fun _ h => h) (fun H locs hP hS _ _ => ?_)
  refine lv_if_ne (tgt := 10) hx hb dX5_kinds_5 (by decide) (fun c_5 => ?_) (fun c_5 => ?_)
  · replace h := ite_f c_5 h
    refine lv_aload_n hx hb dX5_kinds_10 rfl (lv_at hl 0 rfl) ?_
    refine gt_X5_26 S hK hP dX5_kinds_11 ?_
    refine lv_iload_n hx hb dX5_kinds_14 rfl (lv_at hl 1 rfl) ?_
    obtain ⟨hi_15, h⟩ := oin_of h
    refine k_iald S hK hP mr5 hi_15 dX5_kinds_15 ?_
    refine lv_istore_n (lv' := [(2, .int (gR σ 5 x1.toNatClampNeg)), (0, .ref (am 0)), (1, .int x1)]) hx hb dX5_kinds_16 rfl hl (by decide) rfl (fun ls hl => ?_)
    refine lv_iconst (v := (0 : Int32)) hx hb dX5_kinds_17 (by decide) ?_
    refine lv_istore_n (lv' := [(3, .int (0 : Int32)), (2, .int (gR σ 5 x1.toNatClampNeg)), (0, .ref (am 0)), (1, .int x1)]) hx hb dX5_kinds_18 rfl hl (by decide) rfl (fun ls hl => ?_)
    refine lv_iconst (v := (0 : Int32)) hx hb dX5_kinds_19 (by decide) ?_
    refine lv_istore (lv' := [(4, .int (0 : Int32)), (3, .int (0 : Int32)), (2, .int (gR σ 5 x1.toNatClampNeg)), (0, .ref (am 0)), (1, .int x1)]) hx hb dX5_kinds_20 hl (by decide) rfl (fun ls hl => ?_)
    exact loop22 100 σ x1 (gR σ 5 x1.toNatClampNeg) (0 : Int32) (0 : Int32) _ _ _ h hP hS (lv_sub hl [3, 4, 2, 1, 0] rfl)
  · replace h := ite_t c_5 h
    refine lv_iconst (v := (-1 : Int32)) hx hb dX5_kinds_8 (by decide) ?_
    obtain ⟨rfl, rfl⟩ := some_pair h
    exact k_iret S hr hlocks hP hS rfl dX5_kinds_9
def f_X5_frosts_L22 : Nat → SX → Int32 → Int32 → Int32 → Int32 → Option (Int32 × SX)
  | 0, _, _, _, _, _ => none
  | n + 1, σ, y1, y2, y3, y4 => if (9 : Int32) < y4 then (oin y1 6 (some (y3, sR σ 4 (upd (gR σ 4) y1.toNatClampNeg y2)))) else (oin y1 6 (ob1 (f_X5_areSo (sR σ 4 (upd (gR σ 4) y1.toNatClampNeg y4))) (fun r_39 => if r_39 = 0 then (f_X5_frosts_L22 n (sR σ 4 (upd (gR σ 4) y1.toNatClampNeg y4)) y1 y2 (y3 ||| (0 : Int32)) (y4 + (1 : Int32))) else (f_X5_frosts_L22 n (sR σ 4 (upd (gR σ 4) y1.toNatClampNeg y4)) y1 y2 (y3 ||| ((1 : Int32) <<< (y4 &&& 31))) (y4 + (1 : Int32))))))
def f_X5_frosts (σ : SX) (x1 : Int32) : Option (Int32 × SX) := ob1 (f_X5_isHour σ x1) (fun r_2 => if r_2 = 0 then (some ((-1 : Int32), σ)) else (oin x1 6 (f_X5_frosts_L22 100 σ x1 (gR σ 4 x1.toNatClampNeg) (0 : Int32) (0 : Int32))))
set_option maxRecDepth 100000 in
set_option maxHeartbeats 4000000 in
theorem k_X5_frosts (l : Launch) {D : va_G} {A : Nat → Prop} {cI cZ cS : ClassId} {am : Nat → Nat} (hAd : ∀ σ, va_D A (WM cI am σ)) {σ : SX} {x1 : Int32} {σ' : SX} {r : Int32} (h : f_X5_frosts σ x1 = some (r, σ')) : Ct (QI D A r (WM cI am (σ'))) l yX5_frosts cX5_frosts 5 (some .int) 4 86 D (tyS cI cZ cS) A [.ref (am 0), .int x1] (WM cI am σ) := by
  refine Ct.of (by decide +kernel) (Nat.le_of_ble_eq_true rfl) ?_
  intro p e s m below meth c ls S hK hr hlocks hP hS hl
  have hx := S.1
  have hb := S.2.1
  have hl : lv_has ls 5 [(0, .ref (am 0)), (1, .int x1)] := hl
  have loop22 : ∀ (n : Nat) (σ : SX) (y1 : Int32) (y2 : Int32) (y3 : Int32) (y4 : Int32) (H : Heap) (locs : List Loc) (ls : Array Slot), f_X5_frosts_L22 n σ y1 y2 y3 y4 = some (r, σ') → va_P D vwCl (WM cI am σ) H → va_S A s.heap H locs → lv_has ls 5 [(0, .ref (am 0)), (1, .int y1), (2, .int y2), (3, .int y3), (4, .int y4)] → W p l e (rmO 4 86) s m [.ref (am 0), .int x1].toArray below meth c H locs 0 0 (MQ below (QI D A r (WM cI am (σ'))) [.ref (am 0), .int x1].toArray s 0 0 A) (F0 m 22 ls []) := by
    intro n
    induction n with
    | zero => intro σ y1 y2 y3 y4 H locs ls h; cases h
    | succ n ih =>
      intro σ y1 y2 y3 y4 H locs ls h hP hS hl
      rw [f_X5_frosts_L22] at h
      refine lv_iload hx hb dX5_frosts_22 (lv_at hl 4 rfl) ?_
      refine lv_bipush (v := (9 : Int32)) hx hb dX5_frosts_24 (by decide) ?_
      refine lv_icmp_gt (tgt := 61) hx hb dX5_frosts_26 (by decide) (fun c_26 => ?_) (fun c_26 => ?_)
      · replace h := ite_t c_26 h
        refine lv_aload_n hx hb dX5_frosts_61 rfl (lv_at hl 0 rfl) ?_
        refine gt_X5_23 S hK hP dX5_frosts_62 ?_
        refine lv_iload_n hx hb dX5_frosts_65 rfl (lv_at hl 1 rfl) ?_
        refine lv_iload_n hx hb dX5_frosts_66 rfl (lv_at hl 2 rfl) ?_
        obtain ⟨hi_67, h⟩ := oin_of h
        refine k_iast S hK hP (hAd _) hS mr4 mr4_s hi_67 dX5_frosts_67 (fun H locs hP hS => ?_)
        refine lv_iload_n hx hb dX5_frosts_68 rfl (lv_at hl 3 rfl) ?_
        obtain ⟨rfl, rfl⟩ := some_pair h
        exact k_iret S hr hlocks hP hS rfl dX5_frosts_69
      · replace h := ite_f c_26 h
        refine lv_aload_n hx hb dX5_frosts_29 rfl (lv_at hl 0 rfl) ?_
        refine gt_X5_23 S hK hP dX5_frosts_30 ?_
        refine lv_iload_n hx hb dX5_frosts_33 rfl (lv_at hl 1 rfl) ?_
        refine lv_iload hx hb dX5_frosts_34 (lv_at hl 4 rfl) ?_
        obtain ⟨hi_36, h⟩ := oin_of h
        refine k_iast S hK hP (hAd _) hS mr4 mr4_s hi_36 dX5_frosts_36 (fun H locs hP hS => ?_)
        refine lv_iload_n hx hb dX5_frosts_37 rfl (lv_at hl 3 rfl) ?_
        refine lv_aload_n hx hb dX5_frosts_38 rfl (lv_at hl 0 rfl) ?_
        obtain ⟨r_39, e_39, h⟩ := ob1_of h
        refine k_goI (k_runV (As := []) (rest := [.int y3]) S hK hP (k_X5_areSo l hAd e_39) cy_X5_areSo wd_949 rfl mO rfl hl.1 rfl (Nat.le_of_ble_eq_true rfl) dX5_frosts_39 ⟨Nat.le_of_ble_eq_true rfl, Nat.le_of_ble_eq_true rfl⟩ ⟨Nat.zero_le _, Nat.zero_le _⟩) hS (fun _ h => h) (fun H locs hP hS _ _ => ?_)
        refine lv_if_eq (tgt := 52) hx hb dX5_frosts_42 (by decide) (fun c_42 => ?_) (fun c_42 => ?_)
        · replace h := ite_t c_42 h
          refine lv_iconst (v := (0 : Int32)) hx hb dX5_frosts_52 (by decide) ?_
          refine lv_ior hx hb dX5_frosts_53 ?_
          refine lv_istore_n (lv' := [(3, .int (y3 ||| (0 : Int32))), (0, .ref (am 0)), (1, .int y1), (2, .int y2), (4, .int y4)]) hx hb dX5_frosts_54 rfl hl (by decide) rfl (fun ls hl => ?_)
          refine lv_iinc (v := y4 + (1 : Int32)) (lv' := [(4, .int (y4 + (1 : Int32))), (3, .int (y3 ||| (0 : Int32))), (0, .ref (am 0)), (1, .int y1), (2, .int y2)]) hx hb dX5_frosts_55 hl (k := 4) rfl rfl (by decide) rfl (fun ls hl => ?_)
          refine lv_goto (tgt := 22) hx hb dX5_frosts_58 (by decide) ?_
          exact ih (sR σ 4 (upd (gR σ 4) y1.toNatClampNeg y4)) y1 y2 (y3 ||| (0 : Int32)) (y4 + (1 : Int32)) _ _ _ h hP hS (lv_sub hl [2, 3, 4, 1, 0] rfl)
        · replace h := ite_f c_42 h
          refine lv_iconst (v := (1 : Int32)) hx hb dX5_frosts_45 (by decide) ?_
          refine lv_iload hx hb dX5_frosts_46 (lv_at hl 4 rfl) ?_
          refine lv_ishl hx hb dX5_frosts_48 ?_
          refine lv_goto (tgt := 53) hx hb dX5_frosts_49 (by decide) ?_
          refine lv_ior hx hb dX5_frosts_53 ?_
          refine lv_istore_n (lv' := [(3, .int (y3 ||| ((1 : Int32) <<< (y4 &&& 31)))), (0, .ref (am 0)), (1, .int y1), (2, .int y2), (4, .int y4)]) hx hb dX5_frosts_54 rfl hl (by decide) rfl (fun ls hl => ?_)
          refine lv_iinc (v := y4 + (1 : Int32)) (lv' := [(4, .int (y4 + (1 : Int32))), (3, .int (y3 ||| ((1 : Int32) <<< (y4 &&& 31)))), (0, .ref (am 0)), (1, .int y1), (2, .int y2)]) hx hb dX5_frosts_55 hl (k := 4) rfl rfl (by decide) rfl (fun ls hl => ?_)
          refine lv_goto (tgt := 22) hx hb dX5_frosts_58 (by decide) ?_
          exact ih (sR σ 4 (upd (gR σ 4) y1.toNatClampNeg y4)) y1 y2 (y3 ||| ((1 : Int32) <<< (y4 &&& 31))) (y4 + (1 : Int32)) _ _ _ h hP hS (lv_sub hl [2, 3, 4, 1, 0] rfl)
  rw [f_X5_frosts] at h
  refine lv_aload_n hx hb dX5_frosts_0 rfl (lv_at hl 0 rfl) ?_
  refine lv_iload_n hx hb dX5_frosts_1 rfl (lv_at hl 1 rfl) ?_
  obtain ⟨r_2, e_2, h⟩ := ob1_of h
  refine k_goI (k_runV (As := [.int x1]) (rest := []) S hK hP (k_X5_isHour l hAd e_2) cy_X5_isHour wd_824 rfl mO rfl hl.1 rfl (Nat.le_of_ble_eq_true rfl) dX5_frosts_2 ⟨Nat.le_of_ble_eq_true rfl, Nat.le_of_ble_eq_true rfl⟩ ⟨Nat.zero_le _, Nat.zero_le _⟩) hS (fun _ h => h) (fun H locs hP hS _ _ => ?_)
  refine lv_if_ne (tgt := 10) hx hb dX5_frosts_5 (by decide) (fun c_5 => ?_) (fun c_5 => ?_)
  · replace h := ite_f c_5 h
    refine lv_aload_n hx hb dX5_frosts_10 rfl (lv_at hl 0 rfl) ?_
    refine gt_X5_23 S hK hP dX5_frosts_11 ?_
    refine lv_iload_n hx hb dX5_frosts_14 rfl (lv_at hl 1 rfl) ?_
    obtain ⟨hi_15, h⟩ := oin_of h
    refine k_iald S hK hP mr4 hi_15 dX5_frosts_15 ?_
    refine lv_istore_n (lv' := [(2, .int (gR σ 4 x1.toNatClampNeg)), (0, .ref (am 0)), (1, .int x1)]) hx hb dX5_frosts_16 rfl hl (by decide) rfl (fun ls hl => ?_)
    refine lv_iconst (v := (0 : Int32)) hx hb dX5_frosts_17 (by decide) ?_
    refine lv_istore_n (lv' := [(3, .int (0 : Int32)), (2, .int (gR σ 4 x1.toNatClampNeg)), (0, .ref (am 0)), (1, .int x1)]) hx hb dX5_frosts_18 rfl hl (by decide) rfl (fun ls hl => ?_)
    refine lv_iconst (v := (0 : Int32)) hx hb dX5_frosts_19 (by decide) ?_
    refine lv_istore (lv' := [(4, .int (0 : Int32)), (3, .int (0 : Int32)), (2, .int (gR σ 4 x1.toNatClampNeg)), (0, .ref (am 0)), (1, .int x1)]) hx hb dX5_frosts_20 hl (by decide) rfl (fun ls hl => ?_)
    exact loop22 100 σ x1 (gR σ 4 x1.toNatClampNeg) (0 : Int32) (0 : Int32) _ _ _ h hP hS (lv_sub hl [3, 4, 2, 1, 0] rfl)
  · replace h := ite_t c_5 h
    refine lv_iconst (v := (-1 : Int32)) hx hb dX5_frosts_8 (by decide) ?_
    obtain ⟨rfl, rfl⟩ := some_pair h
    exact k_iret S hr hlocks hP hS rfl dX5_frosts_9
def f_X5_odds_L40 (σ : SX) : Nat → Int32 → Int32 → Int32 → Int64 → Int64 → Int32 → Option Int64
  | 0, _, _, _, _, _, _ => none
  | n + 1, y1, y2, y3, y4, y6, y8 => if y2 ≤ y8 then (ob1 (f_X5_inLeastTerms y4 y6 y3) (fun r_81 => some r_81)) else (ob1 (f_X5_coldHours σ y1) (fun r_50 => ob1 (f_X5_size r_50) (fun r_53 => f_X5_odds_L40 σ n y1 y2 y3 (y4 * r_53.toInt64) (y6 * ((gF σ 0 5).toInt64)) (y8 + (1 : Int32)))))
def f_X5_odds (σ : SX) (x1 : Int32) (x2 : Int32) (x3 : Int32) : Option Int64 := ob1 (f_X5_isSwearer σ x1) (fun r_2 => if r_2 = 0 then (some (-9223372036854775808 : Int64)) else (ob1 (f_X5_within x2 (0 : Int32) (8 : Int32)) (fun r_12 => if r_12 = 0 then (some (-9223372036854775808 : Int64)) else (ob1 (f_X5_within x3 (0 : Int32) (1 : Int32)) (fun r_21 => if r_21 = 0 then (some (-9223372036854775808 : Int64)) else (f_X5_odds_L40 σ 100 x1 x2 x3 (1 : Int64) (1 : Int64) (0 : Int32)))))))
set_option maxRecDepth 100000 in
set_option maxHeartbeats 4000000 in
theorem k_X5_odds (l : Launch) {D : va_G} {A : Nat → Prop} {cI cZ cS : ClassId} {am : Nat → Nat} (hAd : ∀ σ, va_D A (WM cI am σ)) {σ : SX} {x1 : Int32} {x2 : Int32} {x3 : Int32} {r : Int64} (h : f_X5_odds σ x1 x2 x3 = some r) : Ct (QL D A r (WM cI am σ)) l yX5_odds cX5_odds 9 (some .long) 4 88 D (tyS cI cZ cS) A [.ref (am 0), .int x1, .int x2, .int x3] (WM cI am σ) := by
  refine Ct.of (by decide +kernel) (Nat.le_of_ble_eq_true rfl) ?_
  intro p e s m below meth c ls S hK hr hlocks hP hS hl
  have hx := S.1
  have hb := S.2.1
  have hl : lv_has ls 9 [(0, .ref (am 0)), (1, .int x1), (2, .int x2), (3, .int x3)] := hl
  have loop40 : ∀ (n : Nat) (y1 : Int32) (y2 : Int32) (y3 : Int32) (y4 : Int64) (y6 : Int64) (y8 : Int32) (H : Heap) (locs : List Loc) (ls : Array Slot), f_X5_odds_L40 σ n y1 y2 y3 y4 y6 y8 = some r → va_P D vwCl (WM cI am σ) H → va_S A s.heap H locs → lv_has ls 9 [(0, .ref (am 0)), (1, .int y1), (2, .int y2), (3, .int y3), (4, .long y4), (6, .long y6), (8, .int y8)] → W p l e (rmO 4 88) s m [.ref (am 0), .int x1, .int x2, .int x3].toArray below meth c H locs 0 0 (MQ below (QL D A r (WM cI am σ)) [.ref (am 0), .int x1, .int x2, .int x3].toArray s 0 0 A) (F0 m 40 ls []) := by
    intro n
    induction n with
    | zero => intro y1 y2 y3 y4 y6 y8 H locs ls h; cases h
    | succ n ih =>
      intro y1 y2 y3 y4 y6 y8 H locs ls h hP hS hl
      rw [f_X5_odds_L40] at h
      refine lv_iload hx hb dX5_odds_40 (lv_at hl 6 rfl) ?_
      refine lv_iload_n hx hb dX5_odds_42 rfl (lv_at hl 2 rfl) ?_
      refine lv_icmp_ge (tgt := 76) hx hb dX5_odds_43 (by decide) (fun c_43 => ?_) (fun c_43 => ?_)
      · replace h := ite_t c_43 h
        refine lv_lload hx hb dX5_odds_76 (lv_at hl 4 rfl) ?_
        refine lv_lload hx hb dX5_odds_78 (lv_at hl 5 rfl) ?_
        refine lv_iload_n hx hb dX5_odds_80 rfl (lv_at hl 3 rfl) ?_
        obtain ⟨r_81, e_81, h⟩ := ob1_of h
        refine k_goL (k_runS (As := [.long y4, .long y6, .int y3]) (rest := []) S hK hP (k_X5_inLeastTerms l  e_81) cy_X5_inLeastTerms wd_966 rfl hl.1 rfl (Nat.le_of_ble_eq_true rfl) dX5_odds_81 ⟨Nat.le_of_ble_eq_true rfl, Nat.le_of_ble_eq_true rfl⟩ ⟨Nat.zero_le _, Nat.zero_le _⟩) hS (fun _ h => h) (fun H locs hP hS _ _ => ?_)
        exact k_lret S hr hlocks hP hS (Option.some.inj h) dX5_odds_84
      · replace h := ite_f c_43 h
        refine lv_lload hx hb dX5_odds_46 (lv_at hl 4 rfl) ?_
        refine lv_aload_n hx hb dX5_odds_48 rfl (lv_at hl 0 rfl) ?_
        refine lv_iload_n hx hb dX5_odds_49 rfl (lv_at hl 1 rfl) ?_
        obtain ⟨r_50, e_50, h⟩ := ob1_of h
        refine k_goI (k_runV (As := [.int y1]) (rest := [.long y4]) S hK hP (k_X5_coldHours l hAd e_50) cy_X5_coldHours wd_788 rfl mO rfl hl.1 rfl (Nat.le_of_ble_eq_true rfl) dX5_odds_50 ⟨Nat.le_of_ble_eq_true rfl, Nat.le_of_ble_eq_true rfl⟩ ⟨Nat.zero_le _, Nat.zero_le _⟩) hS (fun _ h => h) (fun H locs hP hS _ _ => ?_)
        obtain ⟨r_53, e_53, h⟩ := ob1_of h
        refine k_goI (k_runS (As := [.int r_50]) (rest := [.long y4]) S hK hP (k_X5_size l  e_53) cy_X5_size wd_860 rfl hl.1 rfl (Nat.le_of_ble_eq_true rfl) dX5_odds_53 ⟨Nat.le_of_ble_eq_true rfl, Nat.le_of_ble_eq_true rfl⟩ ⟨Nat.zero_le _, Nat.zero_le _⟩) hS (fun _ h => h) (fun H locs hP hS _ _ => ?_)
        refine lv_i2l (v := r_53.toInt64) hx hb dX5_odds_56 rfl ?_
        refine lv_lmul hx hb dX5_odds_57 ?_
        refine lv_lstore (lv' := [(4, .long (y4 * r_53.toInt64)), (0, .ref (am 0)), (1, .int y1), (2, .int y2), (3, .int y3), (6, .long y6), (8, .int y8)]) hx hb dX5_odds_58 hl (by decide) rfl (fun ls hl => ?_)
        refine lv_lload hx hb dX5_odds_60 (lv_at hl 5 rfl) ?_
        refine lv_aload_n hx hb dX5_odds_62 rfl (lv_at hl 1 rfl) ?_
        refine gt_X5_71 S hK hP dX5_odds_63 ?_
        refine lv_i2l (v := (gF σ 0 5).toInt64) hx hb dX5_odds_66 rfl ?_
        refine lv_lmul hx hb dX5_odds_67 ?_
        refine lv_lstore (lv' := [(6, .long (y6 * ((gF σ 0 5).toInt64))), (4, .long (y4 * r_53.toInt64)), (0, .ref (am 0)), (1, .int y1), (2, .int y2), (3, .int y3), (8, .int y8)]) hx hb dX5_odds_68 hl (by decide) rfl (fun ls hl => ?_)
        refine lv_iinc (v := y8 + (1 : Int32)) (lv' := [(8, .int (y8 + (1 : Int32))), (6, .long (y6 * ((gF σ 0 5).toInt64))), (4, .long (y4 * r_53.toInt64)), (0, .ref (am 0)), (1, .int y1), (2, .int y2), (3, .int y3)]) hx hb dX5_odds_70 hl (k := 6) rfl rfl (by decide) rfl (fun ls hl => ?_)
        refine lv_goto (tgt := 40) hx hb dX5_odds_73 (by decide) ?_
        exact ih y1 y2 y3 (y4 * r_53.toInt64) (y6 * ((gF σ 0 5).toInt64)) (y8 + (1 : Int32)) _ _ _ h hP hS (lv_sub hl [3, 4, 5, 6, 2, 1, 0] rfl)
  rw [f_X5_odds] at h
  refine lv_aload_n hx hb dX5_odds_0 rfl (lv_at hl 0 rfl) ?_
  refine lv_iload_n hx hb dX5_odds_1 rfl (lv_at hl 1 rfl) ?_
  obtain ⟨r_2, e_2, h⟩ := ob1_of h
  refine k_goI (k_runV (As := [.int x1]) (rest := []) S hK hP (k_X5_isSwearer l hAd e_2) cy_X5_isSwearer wd_780 rfl mO rfl hl.1 rfl (Nat.le_of_ble_eq_true rfl) dX5_odds_2 ⟨Nat.le_of_ble_eq_true rfl, Nat.le_of_ble_eq_true rfl⟩ ⟨Nat.zero_le _, Nat.zero_le _⟩) hS (fun _ h => h) (fun H locs hP hS _ _ => ?_)
  refine lv_if_eq (tgt := 27) hx hb dX5_odds_5 (by decide) (fun c_5 => ?_) (fun c_5 => ?_)
  · replace h := ite_t c_5 h
    refine lv_ldc2 hx hb S.2.2.2.1 (S.2.2.2.2 _ wd_965) dX5_odds_27 ?_
    exact k_lret S hr hlocks hP hS (Option.some.inj h) dX5_odds_30
  · replace h := ite_f c_5 h
    refine lv_iload_n hx hb dX5_odds_8 rfl (lv_at hl 2 rfl) ?_
    refine lv_iconst (v := (0 : Int32)) hx hb dX5_odds_9 (by decide) ?_
    refine lv_bipush (v := (8 : Int32)) hx hb dX5_odds_10 (by decide) ?_
    obtain ⟨r_12, e_12, h⟩ := ob1_of h
    refine k_goI (k_runS (As := [.int x2, .int (0 : Int32), .int (8 : Int32)]) (rest := []) S hK hP (k_X5_within l  e_12) cy_X5_within wd_738 rfl hl.1 rfl (Nat.le_of_ble_eq_true rfl) dX5_odds_12 ⟨Nat.le_of_ble_eq_true rfl, Nat.le_of_ble_eq_true rfl⟩ ⟨Nat.zero_le _, Nat.zero_le _⟩) hS (fun _ h => h) (fun H locs hP hS _ _ => ?_)
    refine lv_if_eq (tgt := 27) hx hb dX5_odds_15 (by decide) (fun c_15 => ?_) (fun c_15 => ?_)
    · replace h := ite_t c_15 h
      refine lv_ldc2 hx hb S.2.2.2.1 (S.2.2.2.2 _ wd_965) dX5_odds_27 ?_
      exact k_lret S hr hlocks hP hS (Option.some.inj h) dX5_odds_30
    · replace h := ite_f c_15 h
      refine lv_iload_n hx hb dX5_odds_18 rfl (lv_at hl 3 rfl) ?_
      refine lv_iconst (v := (0 : Int32)) hx hb dX5_odds_19 (by decide) ?_
      refine lv_iconst (v := (1 : Int32)) hx hb dX5_odds_20 (by decide) ?_
      obtain ⟨r_21, e_21, h⟩ := ob1_of h
      refine k_goI (k_runS (As := [.int x3, .int (0 : Int32), .int (1 : Int32)]) (rest := []) S hK hP (k_X5_within l  e_21) cy_X5_within wd_738 rfl hl.1 rfl (Nat.le_of_ble_eq_true rfl) dX5_odds_21 ⟨Nat.le_of_ble_eq_true rfl, Nat.le_of_ble_eq_true rfl⟩ ⟨Nat.zero_le _, Nat.zero_le _⟩) hS (fun _ h => h) (fun H locs hP hS _ _ => ?_)
      refine lv_if_ne (tgt := 31) hx hb dX5_odds_24 (by decide) (fun c_24 => ?_) (fun c_24 => ?_)
      · replace h := ite_f c_24 h
        refine lv_lconst (v := (1 : Int64)) hx hb dX5_odds_31 (by decide) ?_
        refine lv_lstore (lv' := [(4, .long (1 : Int64)), (0, .ref (am 0)), (1, .int x1), (2, .int x2), (3, .int x3)]) hx hb dX5_odds_32 hl (by decide) rfl (fun ls hl => ?_)
        refine lv_lconst (v := (1 : Int64)) hx hb dX5_odds_34 (by decide) ?_
        refine lv_lstore (lv' := [(6, .long (1 : Int64)), (4, .long (1 : Int64)), (0, .ref (am 0)), (1, .int x1), (2, .int x2), (3, .int x3)]) hx hb dX5_odds_35 hl (by decide) rfl (fun ls hl => ?_)
        refine lv_iconst (v := (0 : Int32)) hx hb dX5_odds_37 (by decide) ?_
        refine lv_istore (lv' := [(8, .int (0 : Int32)), (6, .long (1 : Int64)), (4, .long (1 : Int64)), (0, .ref (am 0)), (1, .int x1), (2, .int x2), (3, .int x3)]) hx hb dX5_odds_38 hl (by decide) rfl (fun ls hl => ?_)
        exact loop40 100 x1 x2 x3 (1 : Int64) (1 : Int64) (0 : Int32) _ _ _ h hP hS (lv_sub hl [3, 4, 5, 6, 2, 1, 0] rfl)
      · replace h := ite_t c_24 h
        refine lv_ldc2 hx hb S.2.2.2.1 (S.2.2.2.2 _ wd_965) dX5_odds_27 ?_
        exact k_lret S hr hlocks hP hS (Option.some.inj h) dX5_odds_30
def f_X5_sheet_L57 : Nat → SX → Int32 → Int32 → Int32 → Int32 → Option (Int32 × SX)
  | 0, _, _, _, _, _ => none
  | n + 1, σ, y1, y2, y3, y4 => if (60 : Int32) ≤ y4 then (some ((1 : Int32), σ)) else (oin (((60 : Int32) * y1) + y4) 240 (f_X5_sheet_L57 n (sR σ 3 (upd (gR σ 3) (((60 : Int32) * y1) + y4).toNatClampNeg (0 : Int32))) y1 y2 y3 (y4 + (1 : Int32))))
def f_X5_sheet (σ : SX) (x1 : Int32) (x2 : Int32) (x3 : Int32) : Option (Int32 × SX) := ob1 (f_X5_isSheet x1) (fun r_6 => if r_6 = 0 then (some ((-1 : Int32), sF σ 0 0 (0 : Int32))) else (ob1 (f_X5_isSort x2) (fun r_15 => if r_15 = 0 then (some ((-2 : Int32), sF σ 0 0 (0 : Int32))) else (if x3 ≤ (60 : Int32) then (if 0 ≤ x3 then (oin x1 4 (oin x1 4 (f_X5_sheet_L57 100 (sR (sR (sF σ 0 0 (0 : Int32)) 1 (upd (gR (sF σ 0 0 (0 : Int32)) 1) x1.toNatClampNeg x2)) 2 (upd (gR (sR (sF σ 0 0 (0 : Int32)) 1 (upd (gR (sF σ 0 0 (0 : Int32)) 1) x1.toNatClampNeg x2)) 2) x1.toNatClampNeg x3)) x1 x2 x3 (0 : Int32)))) else (ob2 (f_X5_fails (sF σ 0 0 (0 : Int32)) (4 : Int32)) (fun r_36 s_36 => some (r_36, s_36)))) else (some ((-2 : Int32), sF σ 0 0 (0 : Int32)))))))
set_option maxRecDepth 100000 in
set_option maxHeartbeats 4000000 in
theorem k_X5_sheet (l : Launch) {D : va_G} {A : Nat → Prop} {cI cZ cS : ClassId} {am : Nat → Nat} (hAd : ∀ σ, va_D A (WM cI am σ)) {σ : SX} {x1 : Int32} {x2 : Int32} {x3 : Int32} {σ' : SX} {r : Int32} (h : f_X5_sheet σ x1 x2 x3 = some (r, σ')) : Ct (QI D A r (WM cI am (σ'))) l yX5_sheet cX5_sheet 5 (some .int) 2 42 D (tyS cI cZ cS) A [.ref (am 0), .int x1, .int x2, .int x3] (WM cI am σ) := by
  refine Ct.of (by decide +kernel) (Nat.le_of_ble_eq_true rfl) ?_
  intro p e s m below meth c ls S hK hr hlocks hP hS hl
  have hx := S.1
  have hb := S.2.1
  have hl : lv_has ls 5 [(0, .ref (am 0)), (1, .int x1), (2, .int x2), (3, .int x3)] := hl
  have loop57 : ∀ (n : Nat) (σ : SX) (y1 : Int32) (y2 : Int32) (y3 : Int32) (y4 : Int32) (H : Heap) (locs : List Loc) (ls : Array Slot), f_X5_sheet_L57 n σ y1 y2 y3 y4 = some (r, σ') → va_P D vwCl (WM cI am σ) H → va_S A s.heap H locs → lv_has ls 5 [(0, .ref (am 0)), (1, .int y1), (2, .int y2), (3, .int y3), (4, .int y4)] → W p l e (rmO 2 42) s m [.ref (am 0), .int x1, .int x2, .int x3].toArray below meth c H locs 0 0 (MQ below (QI D A r (WM cI am (σ'))) [.ref (am 0), .int x1, .int x2, .int x3].toArray s 0 0 A) (F0 m 57 ls []) := by
    intro n
    induction n with
    | zero => intro σ y1 y2 y3 y4 H locs ls h; cases h
    | succ n ih =>
      intro σ y1 y2 y3 y4 H locs ls h hP hS hl
      rw [f_X5_sheet_L57] at h
      refine lv_iload hx hb dX5_sheet_57 (lv_at hl 4 rfl) ?_
      refine lv_bipush (v := (60 : Int32)) hx hb dX5_sheet_59 (by decide) ?_
      refine lv_icmp_ge (tgt := 83) hx hb dX5_sheet_61 (by decide) (fun c_61 => ?_) (fun c_61 => ?_)
      · replace h := ite_t c_61 h
        refine lv_iconst (v := (1 : Int32)) hx hb dX5_sheet_83 (by decide) ?_
        obtain ⟨rfl, rfl⟩ := some_pair h
        exact k_iret S hr hlocks hP hS rfl dX5_sheet_84
      · replace h := ite_f c_61 h
        refine lv_aload_n hx hb dX5_sheet_64 rfl (lv_at hl 0 rfl) ?_
        refine gt_X5_16 S hK hP dX5_sheet_65 ?_
        refine lv_bipush (v := (60 : Int32)) hx hb dX5_sheet_68 (by decide) ?_
        refine lv_iload_n hx hb dX5_sheet_70 rfl (lv_at hl 1 rfl) ?_
        refine lv_imul hx hb dX5_sheet_71 ?_
        refine lv_iload hx hb dX5_sheet_72 (lv_at hl 4 rfl) ?_
        refine lv_iadd hx hb dX5_sheet_74 ?_
        refine lv_iconst (v := (0 : Int32)) hx hb dX5_sheet_75 (by decide) ?_
        obtain ⟨hi_76, h⟩ := oin_of h
        refine k_iast S hK hP (hAd _) hS mr3 mr3_s hi_76 dX5_sheet_76 (fun H locs hP hS => ?_)
        refine lv_iinc (v := y4 + (1 : Int32)) (lv' := [(4, .int (y4 + (1 : Int32))), (0, .ref (am 0)), (1, .int y1), (2, .int y2), (3, .int y3)]) hx hb dX5_sheet_77 hl (k := 4) rfl rfl (by decide) rfl (fun ls hl => ?_)
        refine lv_goto (tgt := 57) hx hb dX5_sheet_80 (by decide) ?_
        exact ih (sR σ 3 (upd (gR σ 3) (((60 : Int32) * y1) + y4).toNatClampNeg (0 : Int32))) y1 y2 y3 (y4 + (1 : Int32)) _ _ _ h hP hS (lv_sub hl [1, 2, 3, 4, 0] rfl)
  rw [f_X5_sheet] at h
  refine lv_aload_n hx hb dX5_sheet_0 rfl (lv_at hl 0 rfl) ?_
  refine lv_iconst (v := (0 : Int32)) hx hb dX5_sheet_1 (by decide) ?_
  refine pt_X5_62 S hK hP (hAd _) hS dX5_sheet_2 (fun H locs hP hS => ?_)
  refine lv_iload_n hx hb dX5_sheet_5 rfl (lv_at hl 1 rfl) ?_
  obtain ⟨r_6, e_6, h⟩ := ob1_of h
  refine k_goI (k_runS (As := [.int x1]) (rest := []) S hK hP (k_X5_isSheet l  e_6) cy_X5_isSheet wd_735 rfl hl.1 rfl (Nat.le_of_ble_eq_true rfl) dX5_sheet_6 ⟨Nat.le_of_ble_eq_true rfl, Nat.le_of_ble_eq_true rfl⟩ ⟨Nat.zero_le _, Nat.zero_le _⟩) hS (fun _ h => h) (fun H locs hP hS _ _ => ?_)
  refine lv_if_ne (tgt := 14) hx hb dX5_sheet_9 (by decide) (fun c_9 => ?_) (fun c_9 => ?_)
  · replace h := ite_f c_9 h
    refine lv_iload_n hx hb dX5_sheet_14 rfl (lv_at hl 2 rfl) ?_
    obtain ⟨r_15, e_15, h⟩ := ob1_of h
    refine k_goI (k_runS (As := [.int x2]) (rest := []) S hK hP (k_X5_isSort l  e_15) cy_X5_isSort wd_741 rfl hl.1 rfl (Nat.le_of_ble_eq_true rfl) dX5_sheet_15 ⟨Nat.le_of_ble_eq_true rfl, Nat.le_of_ble_eq_true rfl⟩ ⟨Nat.zero_le _, Nat.zero_le _⟩) hS (fun _ h => h) (fun H locs hP hS _ _ => ?_)
    refine lv_if_eq (tgt := 27) hx hb dX5_sheet_18 (by decide) (fun c_18 => ?_) (fun c_18 => ?_)
    · replace h := ite_t c_18 h
      refine lv_bipush (v := (-2 : Int32)) hx hb dX5_sheet_27 (by decide) ?_
      obtain ⟨rfl, rfl⟩ := some_pair h
      exact k_iret S hr hlocks hP hS rfl dX5_sheet_29
    · replace h := ite_f c_18 h
      refine lv_iload_n hx hb dX5_sheet_21 rfl (lv_at hl 3 rfl) ?_
      refine lv_bipush (v := (60 : Int32)) hx hb dX5_sheet_22 (by decide) ?_
      refine lv_icmp_le (tgt := 30) hx hb dX5_sheet_24 (by decide) (fun c_24 => ?_) (fun c_24 => ?_)
      · replace h := ite_t c_24 h
        refine lv_iload_n hx hb dX5_sheet_30 rfl (lv_at hl 3 rfl) ?_
        refine lv_if_ge (tgt := 40) hx hb dX5_sheet_31 (by decide) (fun c_31 => ?_) (fun c_31 => ?_)
        · replace h := ite_t c_31 h
          refine lv_aload_n hx hb dX5_sheet_40 rfl (lv_at hl 0 rfl) ?_
          refine gt_X5_9 S hK hP dX5_sheet_41 ?_
          refine lv_iload_n hx hb dX5_sheet_44 rfl (lv_at hl 1 rfl) ?_
          refine lv_iload_n hx hb dX5_sheet_45 rfl (lv_at hl 2 rfl) ?_
          obtain ⟨hi_46, h⟩ := oin_of h
          refine k_iast S hK hP (hAd _) hS mr1 mr1_s hi_46 dX5_sheet_46 (fun H locs hP hS => ?_)
          refine lv_aload_n hx hb dX5_sheet_47 rfl (lv_at hl 0 rfl) ?_
          refine gt_X5_13 S hK hP dX5_sheet_48 ?_
          refine lv_iload_n hx hb dX5_sheet_51 rfl (lv_at hl 1 rfl) ?_
          refine lv_iload_n hx hb dX5_sheet_52 rfl (lv_at hl 3 rfl) ?_
          obtain ⟨hi_53, h⟩ := oin_of h
          refine k_iast S hK hP (hAd _) hS mr2 mr2_s hi_53 dX5_sheet_53 (fun H locs hP hS => ?_)
          refine lv_iconst (v := (0 : Int32)) hx hb dX5_sheet_54 (by decide) ?_
          refine lv_istore (lv' := [(4, .int (0 : Int32)), (0, .ref (am 0)), (1, .int x1), (2, .int x2), (3, .int x3)]) hx hb dX5_sheet_55 hl (by decide) rfl (fun ls hl => ?_)
          exact loop57 100 (sR (sR (sF σ 0 0 (0 : Int32)) 1 (upd (gR (sF σ 0 0 (0 : Int32)) 1) x1.toNatClampNeg x2)) 2 (upd (gR (sR (sF σ 0 0 (0 : Int32)) 1 (upd (gR (sF σ 0 0 (0 : Int32)) 1) x1.toNatClampNeg x2)) 2) x1.toNatClampNeg x3)) x1 x2 x3 (0 : Int32) _ _ _ h hP hS (lv_sub hl [1, 2, 3, 4, 0] rfl)
        · replace h := ite_f c_31 h
          refine lv_aload_n hx hb dX5_sheet_34 rfl (lv_at hl 0 rfl) ?_
          refine lv_iconst (v := (4 : Int32)) hx hb dX5_sheet_35 (by decide) ?_
          obtain ⟨r_36, s_36, e_36, h⟩ := ob2_of h
          refine k_goI (k_runV (As := [.int (4 : Int32)]) (rest := []) S hK hP (k_X5_fails l hAd e_36) cy_X5_fails wd_748 rfl mO rfl hl.1 rfl (Nat.le_of_ble_eq_true rfl) dX5_sheet_36 ⟨Nat.le_of_ble_eq_true rfl, Nat.le_of_ble_eq_true rfl⟩ ⟨Nat.zero_le _, Nat.zero_le _⟩) hS (fun _ h => h) (fun H locs hP hS _ _ => ?_)
          obtain ⟨rfl, rfl⟩ := some_pair h
          exact k_iret S hr hlocks hP hS rfl dX5_sheet_39
      · replace h := ite_f c_24 h
        refine lv_bipush (v := (-2 : Int32)) hx hb dX5_sheet_27 (by decide) ?_
        obtain ⟨rfl, rfl⟩ := some_pair h
        exact k_iret S hr hlocks hP hS rfl dX5_sheet_29
  · replace h := ite_t c_9 h
    refine lv_iconst (v := (-1 : Int32)) hx hb dX5_sheet_12 (by decide) ?_
    obtain ⟨rfl, rfl⟩ := some_pair h
    exact k_iret S hr hlocks hP hS rfl dX5_sheet_13
def f_X5_lose (σ : SX) (x1 : Int32) : Option (Int32 × SX) := ob1 (f_X5_isSheet x1) (fun r_1 => if r_1 = 0 then (some ((-1 : Int32), σ)) else (oin x1 4 (if (gR σ 1 x1.toNatClampNeg) = (-9 : Int32) then (oin x1 4 (some ((0 : Int32), sR σ 1 (upd (gR σ 1) x1.toNatClampNeg (-9 : Int32))))) else (oin x1 4 (some ((1 : Int32), sR σ 1 (upd (gR σ 1) x1.toNatClampNeg (-9 : Int32))))))))
set_option maxRecDepth 100000 in
set_option maxHeartbeats 4000000 in
theorem k_X5_lose (l : Launch) {D : va_G} {A : Nat → Prop} {cI cZ cS : ClassId} {am : Nat → Nat} (hAd : ∀ σ, va_D A (WM cI am σ)) {σ : SX} {x1 : Int32} {σ' : SX} {r : Int32} (h : f_X5_lose σ x1 = some (r, σ')) : Ct (QI D A r (WM cI am (σ'))) l yX5_lose cX5_lose 3 (some .int) 2 42 D (tyS cI cZ cS) A [.ref (am 0), .int x1] (WM cI am σ) := by
  refine Ct.of (by decide +kernel) (Nat.le_of_ble_eq_true rfl) ?_
  intro p e s m below meth c ls S hK hr hlocks hP hS hl
  have hx := S.1
  have hb := S.2.1
  have hl : lv_has ls 3 [(0, .ref (am 0)), (1, .int x1)] := hl
  rw [f_X5_lose] at h
  refine lv_iload_n hx hb dX5_lose_0 rfl (lv_at hl 1 rfl) ?_
  obtain ⟨r_1, e_1, h⟩ := ob1_of h
  refine k_goI (k_runS (As := [.int x1]) (rest := []) S hK hP (k_X5_isSheet l  e_1) cy_X5_isSheet wd_735 rfl hl.1 rfl (Nat.le_of_ble_eq_true rfl) dX5_lose_1 ⟨Nat.le_of_ble_eq_true rfl, Nat.le_of_ble_eq_true rfl⟩ ⟨Nat.zero_le _, Nat.zero_le _⟩) hS (fun _ h => h) (fun H locs hP hS _ _ => ?_)
  refine lv_if_ne (tgt := 9) hx hb dX5_lose_4 (by decide) (fun c_4 => ?_) (fun c_4 => ?_)
  · replace h := ite_f c_4 h
    refine lv_aload_n hx hb dX5_lose_9 rfl (lv_at hl 0 rfl) ?_
    refine gt_X5_9 S hK hP dX5_lose_10 ?_
    refine lv_iload_n hx hb dX5_lose_13 rfl (lv_at hl 1 rfl) ?_
    obtain ⟨hi_14, h⟩ := oin_of h
    refine k_iald S hK hP mr1 hi_14 dX5_lose_14 ?_
    refine lv_bipush (v := (-9 : Int32)) hx hb dX5_lose_15 (by decide) ?_
    refine lv_icmp_ne (tgt := 24) hx hb dX5_lose_17 (by decide) (fun c_17 => ?_) (fun c_17 => ?_)
    · replace h := ite_f c_17 h
      refine lv_iconst (v := (1 : Int32)) hx hb dX5_lose_24 (by decide) ?_
      refine lv_istore_n (lv' := [(2, .int (1 : Int32)), (0, .ref (am 0)), (1, .int x1)]) hx hb dX5_lose_25 rfl hl (by decide) rfl (fun ls hl => ?_)
      refine lv_aload_n hx hb dX5_lose_26 rfl (lv_at hl 1 rfl) ?_
      refine gt_X5_9 S hK hP dX5_lose_27 ?_
      refine lv_iload_n hx hb dX5_lose_30 rfl (lv_at hl 2 rfl) ?_
      refine lv_bipush (v := (-9 : Int32)) hx hb dX5_lose_31 (by decide) ?_
      obtain ⟨hi_33, h⟩ := oin_of h
      refine k_iast S hK hP (hAd _) hS mr1 mr1_s hi_33 dX5_lose_33 (fun H locs hP hS => ?_)
      refine lv_iload_n hx hb dX5_lose_34 rfl (lv_at hl 0 rfl) ?_
      obtain ⟨rfl, rfl⟩ := some_pair h
      exact k_iret S hr hlocks hP hS rfl dX5_lose_35
    · replace h := ite_t c_17 h
      refine lv_iconst (v := (0 : Int32)) hx hb dX5_lose_20 (by decide) ?_
      refine lv_goto (tgt := 25) hx hb dX5_lose_21 (by decide) ?_
      refine lv_istore_n (lv' := [(2, .int (0 : Int32)), (0, .ref (am 0)), (1, .int x1)]) hx hb dX5_lose_25 rfl hl (by decide) rfl (fun ls hl => ?_)
      refine lv_aload_n hx hb dX5_lose_26 rfl (lv_at hl 1 rfl) ?_
      refine gt_X5_9 S hK hP dX5_lose_27 ?_
      refine lv_iload_n hx hb dX5_lose_30 rfl (lv_at hl 2 rfl) ?_
      refine lv_bipush (v := (-9 : Int32)) hx hb dX5_lose_31 (by decide) ?_
      obtain ⟨hi_33, h⟩ := oin_of h
      refine k_iast S hK hP (hAd _) hS mr1 mr1_s hi_33 dX5_lose_33 (fun H locs hP hS => ?_)
      refine lv_iload_n hx hb dX5_lose_34 rfl (lv_at hl 0 rfl) ?_
      obtain ⟨rfl, rfl⟩ := some_pair h
      exact k_iret S hr hlocks hP hS rfl dX5_lose_35
  · replace h := ite_t c_4 h
    refine lv_iconst (v := (-1 : Int32)) hx hb dX5_lose_7 (by decide) ?_
    obtain ⟨rfl, rfl⟩ := some_pair h
    exact k_iret S hr hlocks hP hS rfl dX5_lose_8
def f_X5_put (σ : SX) (x1 : Int32) (x2 : Int32) (x3 : Int32) : Option (Int32 × SX) := ob1 (f_X5_isSheet x1) (fun r_6 => if r_6 = 0 then (some ((-1 : Int32), sF σ 0 0 (0 : Int32))) else (oin x1 4 (if (gR (sF σ 0 0 (0 : Int32)) 1 x1.toNatClampNeg) = (-9 : Int32) then (ob2 (f_X5_fails (sF σ 0 0 (0 : Int32)) (1 : Int32)) (fun r_27 s_27 => some (r_27, s_27))) else (oin x1 4 (ob1 (f_X5_within x2 (0 : Int32) ((gR (sF σ 0 0 (0 : Int32)) 2 x1.toNatClampNeg) - (1 : Int32))) (fun r_41 => if r_41 = 0 then (ob2 (f_X5_fails (sF σ 0 0 (0 : Int32)) (3 : Int32)) (fun r_49 s_49 => some (r_49, s_49))) else (oin x1 4 (if (gR (sF σ 0 0 (0 : Int32)) 1 x1.toNatClampNeg) = 0 then (oin (((60 : Int32) * x1) + x2) 240 (some ((1 : Int32), sR (sF σ 0 0 (0 : Int32)) 3 (upd (gR (sF σ 0 0 (0 : Int32)) 3) (((60 : Int32) * x1) + x2).toNatClampNeg x3.toInt8.toInt32)))) else (oin x1 4 (if (gR (sF σ 0 0 (0 : Int32)) 1 x1.toNatClampNeg) = (1 : Int32) then (oin (((60 : Int32) * x1) + x2) 240 (some ((1 : Int32), sR (sF σ 0 0 (0 : Int32)) 3 (upd (gR (sF σ 0 0 (0 : Int32)) 3) (((60 : Int32) * x1) + x2).toNatClampNeg x3.toInt16.toInt32)))) else (oin (((60 : Int32) * x1) + x2) 240 (some ((1 : Int32), sR (sF σ 0 0 (0 : Int32)) 3 (upd (gR (sF σ 0 0 (0 : Int32)) 3) (((60 : Int32) * x1) + x2).toNatClampNeg x3))))))))))))))
set_option maxRecDepth 100000 in
set_option maxHeartbeats 4000000 in
theorem k_X5_put (l : Launch) {D : va_G} {A : Nat → Prop} {cI cZ cS : ClassId} {am : Nat → Nat} (hAd : ∀ σ, va_D A (WM cI am σ)) {σ : SX} {x1 : Int32} {x2 : Int32} {x3 : Int32} {σ' : SX} {r : Int32} (h : f_X5_put σ x1 x2 x3 = some (r, σ')) : Ct (QI D A r (WM cI am (σ'))) l yX5_put cX5_put 4 (some .int) 2 42 D (tyS cI cZ cS) A [.ref (am 0), .int x1, .int x2, .int x3] (WM cI am σ) := by
  refine Ct.of (by decide +kernel) (Nat.le_of_ble_eq_true rfl) ?_
  intro p e s m below meth c ls S hK hr hlocks hP hS hl
  have hx := S.1
  have hb := S.2.1
  have hl : lv_has ls 4 [(0, .ref (am 0)), (1, .int x1), (2, .int x2), (3, .int x3)] := hl
  rw [f_X5_put] at h
  refine lv_aload_n hx hb dX5_put_0 rfl (lv_at hl 0 rfl) ?_
  refine lv_iconst (v := (0 : Int32)) hx hb dX5_put_1 (by decide) ?_
  refine pt_X5_62 S hK hP (hAd _) hS dX5_put_2 (fun H locs hP hS => ?_)
  refine lv_iload_n hx hb dX5_put_5 rfl (lv_at hl 1 rfl) ?_
  obtain ⟨r_6, e_6, h⟩ := ob1_of h
  refine k_goI (k_runS (As := [.int x1]) (rest := []) S hK hP (k_X5_isSheet l  e_6) cy_X5_isSheet wd_735 rfl hl.1 rfl (Nat.le_of_ble_eq_true rfl) dX5_put_6 ⟨Nat.le_of_ble_eq_true rfl, Nat.le_of_ble_eq_true rfl⟩ ⟨Nat.zero_le _, Nat.zero_le _⟩) hS (fun _ h => h) (fun H locs hP hS _ _ => ?_)
  refine lv_if_ne (tgt := 14) hx hb dX5_put_9 (by decide) (fun c_9 => ?_) (fun c_9 => ?_)
  · replace h := ite_f c_9 h
    refine lv_aload_n hx hb dX5_put_14 rfl (lv_at hl 0 rfl) ?_
    refine gt_X5_9 S hK hP dX5_put_15 ?_
    refine lv_iload_n hx hb dX5_put_18 rfl (lv_at hl 1 rfl) ?_
    obtain ⟨hi_19, h⟩ := oin_of h
    refine k_iald S hK hP mr1 hi_19 dX5_put_19 ?_
    refine lv_bipush (v := (-9 : Int32)) hx hb dX5_put_20 (by decide) ?_
    refine lv_icmp_ne (tgt := 31) hx hb dX5_put_22 (by decide) (fun c_22 => ?_) (fun c_22 => ?_)
    · replace h := ite_f c_22 h
      refine lv_iload_n hx hb dX5_put_31 rfl (lv_at hl 2 rfl) ?_
      refine lv_iconst (v := (0 : Int32)) hx hb dX5_put_32 (by decide) ?_
      refine lv_aload_n hx hb dX5_put_33 rfl (lv_at hl 0 rfl) ?_
      refine gt_X5_13 S hK hP dX5_put_34 ?_
      refine lv_iload_n hx hb dX5_put_37 rfl (lv_at hl 1 rfl) ?_
      obtain ⟨hi_38, h⟩ := oin_of h
      refine k_iald S hK hP mr2 hi_38 dX5_put_38 ?_
      refine lv_iconst (v := (1 : Int32)) hx hb dX5_put_39 (by decide) ?_
      refine lv_isub hx hb dX5_put_40 ?_
      obtain ⟨r_41, e_41, h⟩ := ob1_of h
      refine k_goI (k_runS (As := [.int x2, .int (0 : Int32), .int ((gR (sF σ 0 0 (0 : Int32)) 2 x1.toNatClampNeg) - (1 : Int32))]) (rest := []) S hK hP (k_X5_within l  e_41) cy_X5_within wd_738 rfl hl.1 rfl (Nat.le_of_ble_eq_true rfl) dX5_put_41 ⟨Nat.le_of_ble_eq_true rfl, Nat.le_of_ble_eq_true rfl⟩ ⟨Nat.zero_le _, Nat.zero_le _⟩) hS (fun _ h => h) (fun H locs hP hS _ _ => ?_)
      refine lv_if_ne (tgt := 53) hx hb dX5_put_44 (by decide) (fun c_44 => ?_) (fun c_44 => ?_)
      · replace h := ite_f c_44 h
        refine lv_aload_n hx hb dX5_put_53 rfl (lv_at hl 0 rfl) ?_
        refine gt_X5_16 S hK hP dX5_put_54 ?_
        refine lv_bipush (v := (60 : Int32)) hx hb dX5_put_57 (by decide) ?_
        refine lv_iload_n hx hb dX5_put_59 rfl (lv_at hl 1 rfl) ?_
        refine lv_imul hx hb dX5_put_60 ?_
        refine lv_iload_n hx hb dX5_put_61 rfl (lv_at hl 2 rfl) ?_
        refine lv_iadd hx hb dX5_put_62 ?_
        refine lv_aload_n hx hb dX5_put_63 rfl (lv_at hl 0 rfl) ?_
        refine gt_X5_9 S hK hP dX5_put_64 ?_
        refine lv_iload_n hx hb dX5_put_67 rfl (lv_at hl 1 rfl) ?_
        obtain ⟨hi_68, h⟩ := oin_of h
        refine k_iald S hK hP mr1 hi_68 dX5_put_68 ?_
        refine lv_if_ne (tgt := 77) hx hb dX5_put_69 (by decide) (fun c_69 => ?_) (fun c_69 => ?_)
        · replace h := ite_f c_69 h
          refine lv_aload_n hx hb dX5_put_77 rfl (lv_at hl 0 rfl) ?_
          refine gt_X5_9 S hK hP dX5_put_78 ?_
          refine lv_iload_n hx hb dX5_put_81 rfl (lv_at hl 1 rfl) ?_
          obtain ⟨hi_82, h⟩ := oin_of h
          refine k_iald S hK hP mr1 hi_82 dX5_put_82 ?_
          refine lv_iconst (v := (1 : Int32)) hx hb dX5_put_83 (by decide) ?_
          refine lv_icmp_ne (tgt := 92) hx hb dX5_put_84 (by decide) (fun c_84 => ?_) (fun c_84 => ?_)
          · replace h := ite_f c_84 h
            refine lv_iload_n hx hb dX5_put_92 rfl (lv_at hl 3 rfl) ?_
            obtain ⟨hi_93, h⟩ := oin_of h
            refine k_iast S hK hP (hAd _) hS mr3 mr3_s hi_93 dX5_put_93 (fun H locs hP hS => ?_)
            refine lv_iconst (v := (1 : Int32)) hx hb dX5_put_94 (by decide) ?_
            obtain ⟨rfl, rfl⟩ := some_pair h
            exact k_iret S hr hlocks hP hS rfl dX5_put_95
          · replace h := ite_t c_84 h
            refine lv_iload_n hx hb dX5_put_87 rfl (lv_at hl 3 rfl) ?_
            refine lv_i2s (v := x3.toInt16.toInt32) hx hb dX5_put_88 rfl ?_
            refine lv_goto (tgt := 93) hx hb dX5_put_89 (by decide) ?_
            obtain ⟨hi_93, h⟩ := oin_of h
            refine k_iast S hK hP (hAd _) hS mr3 mr3_s hi_93 dX5_put_93 (fun H locs hP hS => ?_)
            refine lv_iconst (v := (1 : Int32)) hx hb dX5_put_94 (by decide) ?_
            obtain ⟨rfl, rfl⟩ := some_pair h
            exact k_iret S hr hlocks hP hS rfl dX5_put_95
        · replace h := ite_t c_69 h
          refine lv_iload_n hx hb dX5_put_72 rfl (lv_at hl 3 rfl) ?_
          refine lv_i2b (v := x3.toInt8.toInt32) hx hb dX5_put_73 rfl ?_
          refine lv_goto (tgt := 93) hx hb dX5_put_74 (by decide) ?_
          obtain ⟨hi_93, h⟩ := oin_of h
          refine k_iast S hK hP (hAd _) hS mr3 mr3_s hi_93 dX5_put_93 (fun H locs hP hS => ?_)
          refine lv_iconst (v := (1 : Int32)) hx hb dX5_put_94 (by decide) ?_
          obtain ⟨rfl, rfl⟩ := some_pair h
          exact k_iret S hr hlocks hP hS rfl dX5_put_95
      · replace h := ite_t c_44 h
        refine lv_aload_n hx hb dX5_put_47 rfl (lv_at hl 0 rfl) ?_
        refine lv_iconst (v := (3 : Int32)) hx hb dX5_put_48 (by decide) ?_
        obtain ⟨r_49, s_49, e_49, h⟩ := ob2_of h
        refine k_goI (k_runV (As := [.int (3 : Int32)]) (rest := []) S hK hP (k_X5_fails l hAd e_49) cy_X5_fails wd_748 rfl mO rfl hl.1 rfl (Nat.le_of_ble_eq_true rfl) dX5_put_49 ⟨Nat.le_of_ble_eq_true rfl, Nat.le_of_ble_eq_true rfl⟩ ⟨Nat.zero_le _, Nat.zero_le _⟩) hS (fun _ h => h) (fun H locs hP hS _ _ => ?_)
        obtain ⟨rfl, rfl⟩ := some_pair h
        exact k_iret S hr hlocks hP hS rfl dX5_put_52
    · replace h := ite_t c_22 h
      refine lv_aload_n hx hb dX5_put_25 rfl (lv_at hl 0 rfl) ?_
      refine lv_iconst (v := (1 : Int32)) hx hb dX5_put_26 (by decide) ?_
      obtain ⟨r_27, s_27, e_27, h⟩ := ob2_of h
      refine k_goI (k_runV (As := [.int (1 : Int32)]) (rest := []) S hK hP (k_X5_fails l hAd e_27) cy_X5_fails wd_748 rfl mO rfl hl.1 rfl (Nat.le_of_ble_eq_true rfl) dX5_put_27 ⟨Nat.le_of_ble_eq_true rfl, Nat.le_of_ble_eq_true rfl⟩ ⟨Nat.zero_le _, Nat.zero_le _⟩) hS (fun _ h => h) (fun H locs hP hS _ _ => ?_)
      obtain ⟨rfl, rfl⟩ := some_pair h
      exact k_iret S hr hlocks hP hS rfl dX5_put_30
  · replace h := ite_t c_9 h
    refine lv_iconst (v := (-1 : Int32)) hx hb dX5_put_12 (by decide) ?_
    obtain ⟨rfl, rfl⟩ := some_pair h
    exact k_iret S hr hlocks hP hS rfl dX5_put_13
