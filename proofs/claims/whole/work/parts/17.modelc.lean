def f_X5_stove (σ : SX) (x1 : Int32) (x2 : Int32) : Option (Int32 × SX) := if (gF σ 0 5) = 0 then (some ((-3 : Int32), σ)) else (if x1 = (-9 : Int32) then (ob1 (f_X5_whichBind (sF σ 0 8 (-9 : Int32))) (fun r_23 => ob1 (f_X5_size r_23) (fun r_26 => some (r_26, sF σ 0 8 (-9 : Int32))))) else (ob1 (f_X5_isHour σ x1) (fun r_32 => if r_32 = 0 then (some ((-1 : Int32), σ)) else (ob1 (f_X5_within x2 (0 : Int32) (9 : Int32)) (fun r_44 => if r_44 = 0 then (some ((-2 : Int32), σ)) else (ob1 (f_X5_whichBind (sF (sF σ 0 8 x1) 0 9 x2)) (fun r_64 => ob1 (f_X5_size r_64) (fun r_67 => some (r_67, sF (sF σ 0 8 x1) 0 9 x2)))))))))
set_option maxRecDepth 100000 in
set_option maxHeartbeats 4000000 in
theorem k_X5_stove (l : Launch) {D : va_G} {A : Nat → Prop} {cI cZ cS : ClassId} {am : Nat → Nat} (hAd : ∀ σ, va_D A (WM cI am σ)) {σ : SX} {x1 : Int32} {x2 : Int32} {σ' : SX} {r : Int32} (h : f_X5_stove σ x1 x2 = some (r, σ')) : Ct (QI D A r (WM cI am (σ'))) l yX5_stove cX5_stove 3 (some .int) 5 108 D (tyS cI cZ cS) A [.ref (am 0), .int x1, .int x2] (WM cI am σ) := by
  refine Ct.of (by decide +kernel) (Nat.le_of_ble_eq_true rfl) ?_
  intro p e s m below meth c ls S hK hr hlocks hP hS hl
  have hx := S.1
  have hb := S.2.1
  have hl : lv_has ls 3 [(0, .ref (am 0)), (1, .int x1), (2, .int x2)] := hl
  rw [f_X5_stove] at h
  refine lv_aload_n hx hb dX5_stove_0 rfl (lv_at hl 0 rfl) ?_
  refine gt_X5_71 S hK hP dX5_stove_1 ?_
  refine lv_if_ne (tgt := 10) hx hb dX5_stove_4 (by decide) (fun c_4 => ?_) (fun c_4 => ?_)
  · replace h := ite_f c_4 h
    refine lv_iload_n hx hb dX5_stove_10 rfl (lv_at hl 1 rfl) ?_
    refine lv_bipush (v := (-9 : Int32)) hx hb dX5_stove_11 (by decide) ?_
    refine lv_icmp_ne (tgt := 30) hx hb dX5_stove_13 (by decide) (fun c_13 => ?_) (fun c_13 => ?_)
    · replace h := ite_f c_13 h
      refine lv_aload_n hx hb dX5_stove_30 rfl (lv_at hl 0 rfl) ?_
      refine lv_iload_n hx hb dX5_stove_31 rfl (lv_at hl 1 rfl) ?_
      obtain ⟨r_32, e_32, h⟩ := ob1_of h
      refine k_goI (k_runV (As := [.int x1]) (rest := []) S hK hP (k_X5_isHour l hAd e_32) cy_X5_isHour wd_824 rfl mO rfl hl.1 rfl (Nat.le_of_ble_eq_true rfl) dX5_stove_32 ⟨Nat.le_of_ble_eq_true rfl, Nat.le_of_ble_eq_true rfl⟩ ⟨Nat.zero_le _, Nat.zero_le _⟩) hS (fun _ h => h) (fun H locs hP hS _ _ => ?_)
      refine lv_if_ne (tgt := 40) hx hb dX5_stove_35 (by decide) (fun c_35 => ?_) (fun c_35 => ?_)
      · replace h := ite_f c_35 h
        refine lv_iload_n hx hb dX5_stove_40 rfl (lv_at hl 2 rfl) ?_
        refine lv_iconst (v := (0 : Int32)) hx hb dX5_stove_41 (by decide) ?_
        refine lv_bipush (v := (9 : Int32)) hx hb dX5_stove_42 (by decide) ?_
        obtain ⟨r_44, e_44, h⟩ := ob1_of h
        refine k_goI (k_runS (As := [.int x2, .int (0 : Int32), .int (9 : Int32)]) (rest := []) S hK hP (k_X5_within l  e_44) cy_X5_within wd_738 rfl hl.1 rfl (Nat.le_of_ble_eq_true rfl) dX5_stove_44 ⟨Nat.le_of_ble_eq_true rfl, Nat.le_of_ble_eq_true rfl⟩ ⟨Nat.zero_le _, Nat.zero_le _⟩) hS (fun _ h => h) (fun H locs hP hS _ _ => ?_)
        refine lv_if_ne (tgt := 53) hx hb dX5_stove_47 (by decide) (fun c_47 => ?_) (fun c_47 => ?_)
        · replace h := ite_f c_47 h
          refine lv_aload_n hx hb dX5_stove_53 rfl (lv_at hl 0 rfl) ?_
          refine lv_iload_n hx hb dX5_stove_54 rfl (lv_at hl 1 rfl) ?_
          refine pt_X5_19 S hK hP (hAd _) hS dX5_stove_55 (fun H locs hP hS => ?_)
          refine lv_aload_n hx hb dX5_stove_58 rfl (lv_at hl 0 rfl) ?_
          refine lv_iload_n hx hb dX5_stove_59 rfl (lv_at hl 2 rfl) ?_
          refine pt_X5_113 S hK hP (hAd _) hS dX5_stove_60 (fun H locs hP hS => ?_)
          refine lv_aload_n hx hb dX5_stove_63 rfl (lv_at hl 0 rfl) ?_
          obtain ⟨r_64, e_64, h⟩ := ob1_of h
          refine k_goI (k_runV (As := []) (rest := []) S hK hP (k_X5_whichBind l hAd e_64) cy_X5_whichBind wd_804 rfl mO rfl hl.1 rfl (Nat.le_of_ble_eq_true rfl) dX5_stove_64 ⟨Nat.le_of_ble_eq_true rfl, Nat.le_of_ble_eq_true rfl⟩ ⟨Nat.zero_le _, Nat.zero_le _⟩) hS (fun _ h => h) (fun H locs hP hS _ _ => ?_)
          obtain ⟨r_67, e_67, h⟩ := ob1_of h
          refine k_goI (k_runS (As := [.int r_64]) (rest := []) S hK hP (k_X5_size l  e_67) cy_X5_size wd_860 rfl hl.1 rfl (Nat.le_of_ble_eq_true rfl) dX5_stove_67 ⟨Nat.le_of_ble_eq_true rfl, Nat.le_of_ble_eq_true rfl⟩ ⟨Nat.zero_le _, Nat.zero_le _⟩) hS (fun _ h => h) (fun H locs hP hS _ _ => ?_)
          obtain ⟨rfl, rfl⟩ := some_pair h
          exact k_iret S hr hlocks hP hS rfl dX5_stove_70
        · replace h := ite_t c_47 h
          refine lv_bipush (v := (-2 : Int32)) hx hb dX5_stove_50 (by decide) ?_
          obtain ⟨rfl, rfl⟩ := some_pair h
          exact k_iret S hr hlocks hP hS rfl dX5_stove_52
      · replace h := ite_t c_35 h
        refine lv_iconst (v := (-1 : Int32)) hx hb dX5_stove_38 (by decide) ?_
        obtain ⟨rfl, rfl⟩ := some_pair h
        exact k_iret S hr hlocks hP hS rfl dX5_stove_39
    · replace h := ite_t c_13 h
      refine lv_aload_n hx hb dX5_stove_16 rfl (lv_at hl 0 rfl) ?_
      refine lv_bipush (v := (-9 : Int32)) hx hb dX5_stove_17 (by decide) ?_
      refine pt_X5_19 S hK hP (hAd _) hS dX5_stove_19 (fun H locs hP hS => ?_)
      refine lv_aload_n hx hb dX5_stove_22 rfl (lv_at hl 0 rfl) ?_
      obtain ⟨r_23, e_23, h⟩ := ob1_of h
      refine k_goI (k_runV (As := []) (rest := []) S hK hP (k_X5_whichBind l hAd e_23) cy_X5_whichBind wd_804 rfl mO rfl hl.1 rfl (Nat.le_of_ble_eq_true rfl) dX5_stove_23 ⟨Nat.le_of_ble_eq_true rfl, Nat.le_of_ble_eq_true rfl⟩ ⟨Nat.zero_le _, Nat.zero_le _⟩) hS (fun _ h => h) (fun H locs hP hS _ _ => ?_)
      obtain ⟨r_26, e_26, h⟩ := ob1_of h
      refine k_goI (k_runS (As := [.int r_23]) (rest := []) S hK hP (k_X5_size l  e_26) cy_X5_size wd_860 rfl hl.1 rfl (Nat.le_of_ble_eq_true rfl) dX5_stove_26 ⟨Nat.le_of_ble_eq_true rfl, Nat.le_of_ble_eq_true rfl⟩ ⟨Nat.zero_le _, Nat.zero_le _⟩) hS (fun _ h => h) (fun H locs hP hS _ _ => ?_)
      obtain ⟨rfl, rfl⟩ := some_pair h
      exact k_iret S hr hlocks hP hS rfl dX5_stove_29
  · replace h := ite_t c_4 h
    refine lv_bipush (v := (-3 : Int32)) hx hb dX5_stove_7 (by decide) ?_
    obtain ⟨rfl, rfl⟩ := some_pair h
    exact k_iret S hr hlocks hP hS rfl dX5_stove_9
def f_X5_keep_L105 : Nat → SX → Int32 → Option (Unit × SX)
  | 0, _, _ => none
  | n + 1, σ, y1 => if (4 : Int32) ≤ y1 then (some ((), σ)) else (oin y1 4 (oin ((27 : Int32) + y1) 31 (f_X5_keep_L105 n (sR σ 13 (upd (gR σ 13) ((27 : Int32) + y1).toNatClampNeg (gR σ 6 y1.toNatClampNeg))) (y1 + (1 : Int32)))))
def f_X5_keep_L32 : Nat → SX → Int32 → Option (Unit × SX)
  | 0, _, _ => none
  | n + 1, σ, y1 => if (6 : Int32) ≤ y1 then (f_X5_keep_L105 100 σ (0 : Int32)) else (oin y1 6 (oin ((3 : Int32) + y1) 31 (oin y1 6 (oin ((9 : Int32) + y1) 31 (oin y1 6 (oin ((15 : Int32) + y1) 31 (oin y1 6 (oin ((21 : Int32) + y1) 31 (f_X5_keep_L32 n (sR (sR (sR (sR σ 13 (upd (gR σ 13) ((3 : Int32) + y1).toNatClampNeg (gR σ 4 y1.toNatClampNeg))) 13 (upd (gR (sR σ 13 (upd (gR σ 13) ((3 : Int32) + y1).toNatClampNeg (gR σ 4 y1.toNatClampNeg))) 13) ((9 : Int32) + y1).toNatClampNeg (gR (sR σ 13 (upd (gR σ 13) ((3 : Int32) + y1).toNatClampNeg (gR σ 4 y1.toNatClampNeg))) 7 y1.toNatClampNeg))) 13 (upd (gR (sR (sR σ 13 (upd (gR σ 13) ((3 : Int32) + y1).toNatClampNeg (gR σ 4 y1.toNatClampNeg))) 13 (upd (gR (sR σ 13 (upd (gR σ 13) ((3 : Int32) + y1).toNatClampNeg (gR σ 4 y1.toNatClampNeg))) 13) ((9 : Int32) + y1).toNatClampNeg (gR (sR σ 13 (upd (gR σ 13) ((3 : Int32) + y1).toNatClampNeg (gR σ 4 y1.toNatClampNeg))) 7 y1.toNatClampNeg))) 13) ((15 : Int32) + y1).toNatClampNeg (gR (sR (sR σ 13 (upd (gR σ 13) ((3 : Int32) + y1).toNatClampNeg (gR σ 4 y1.toNatClampNeg))) 13 (upd (gR (sR σ 13 (upd (gR σ 13) ((3 : Int32) + y1).toNatClampNeg (gR σ 4 y1.toNatClampNeg))) 13) ((9 : Int32) + y1).toNatClampNeg (gR (sR σ 13 (upd (gR σ 13) ((3 : Int32) + y1).toNatClampNeg (gR σ 4 y1.toNatClampNeg))) 7 y1.toNatClampNeg))) 8 y1.toNatClampNeg))) 13 (upd (gR (sR (sR (sR σ 13 (upd (gR σ 13) ((3 : Int32) + y1).toNatClampNeg (gR σ 4 y1.toNatClampNeg))) 13 (upd (gR (sR σ 13 (upd (gR σ 13) ((3 : Int32) + y1).toNatClampNeg (gR σ 4 y1.toNatClampNeg))) 13) ((9 : Int32) + y1).toNatClampNeg (gR (sR σ 13 (upd (gR σ 13) ((3 : Int32) + y1).toNatClampNeg (gR σ 4 y1.toNatClampNeg))) 7 y1.toNatClampNeg))) 13 (upd (gR (sR (sR σ 13 (upd (gR σ 13) ((3 : Int32) + y1).toNatClampNeg (gR σ 4 y1.toNatClampNeg))) 13 (upd (gR (sR σ 13 (upd (gR σ 13) ((3 : Int32) + y1).toNatClampNeg (gR σ 4 y1.toNatClampNeg))) 13) ((9 : Int32) + y1).toNatClampNeg (gR (sR σ 13 (upd (gR σ 13) ((3 : Int32) + y1).toNatClampNeg (gR σ 4 y1.toNatClampNeg))) 7 y1.toNatClampNeg))) 13) ((15 : Int32) + y1).toNatClampNeg (gR (sR (sR σ 13 (upd (gR σ 13) ((3 : Int32) + y1).toNatClampNeg (gR σ 4 y1.toNatClampNeg))) 13 (upd (gR (sR σ 13 (upd (gR σ 13) ((3 : Int32) + y1).toNatClampNeg (gR σ 4 y1.toNatClampNeg))) 13) ((9 : Int32) + y1).toNatClampNeg (gR (sR σ 13 (upd (gR σ 13) ((3 : Int32) + y1).toNatClampNeg (gR σ 4 y1.toNatClampNeg))) 7 y1.toNatClampNeg))) 8 y1.toNatClampNeg))) 13) ((21 : Int32) + y1).toNatClampNeg (gR (sR (sR (sR σ 13 (upd (gR σ 13) ((3 : Int32) + y1).toNatClampNeg (gR σ 4 y1.toNatClampNeg))) 13 (upd (gR (sR σ 13 (upd (gR σ 13) ((3 : Int32) + y1).toNatClampNeg (gR σ 4 y1.toNatClampNeg))) 13) ((9 : Int32) + y1).toNatClampNeg (gR (sR σ 13 (upd (gR σ 13) ((3 : Int32) + y1).toNatClampNeg (gR σ 4 y1.toNatClampNeg))) 7 y1.toNatClampNeg))) 13 (upd (gR (sR (sR σ 13 (upd (gR σ 13) ((3 : Int32) + y1).toNatClampNeg (gR σ 4 y1.toNatClampNeg))) 13 (upd (gR (sR σ 13 (upd (gR σ 13) ((3 : Int32) + y1).toNatClampNeg (gR σ 4 y1.toNatClampNeg))) 13) ((9 : Int32) + y1).toNatClampNeg (gR (sR σ 13 (upd (gR σ 13) ((3 : Int32) + y1).toNatClampNeg (gR σ 4 y1.toNatClampNeg))) 7 y1.toNatClampNeg))) 13) ((15 : Int32) + y1).toNatClampNeg (gR (sR (sR σ 13 (upd (gR σ 13) ((3 : Int32) + y1).toNatClampNeg (gR σ 4 y1.toNatClampNeg))) 13 (upd (gR (sR σ 13 (upd (gR σ 13) ((3 : Int32) + y1).toNatClampNeg (gR σ 4 y1.toNatClampNeg))) 13) ((9 : Int32) + y1).toNatClampNeg (gR (sR σ 13 (upd (gR σ 13) ((3 : Int32) + y1).toNatClampNeg (gR σ 4 y1.toNatClampNeg))) 7 y1.toNatClampNeg))) 8 y1.toNatClampNeg))) 9 y1.toNatClampNeg))) (y1 + (1 : Int32)))))))))))
def f_X5_keep (σ : SX) : Option (Unit × SX) := oin (0 : Int32) 31 (oin (1 : Int32) 31 (oin (2 : Int32) 31 (f_X5_keep_L32 100 (sR (sR (sR σ 13 (upd (gR σ 13) (0 : Int32).toNatClampNeg (gF σ 0 7))) 13 (upd (gR (sR σ 13 (upd (gR σ 13) (0 : Int32).toNatClampNeg (gF σ 0 7))) 13) (1 : Int32).toNatClampNeg (gF (sR σ 13 (upd (gR σ 13) (0 : Int32).toNatClampNeg (gF σ 0 7))) 0 8))) 13 (upd (gR (sR (sR σ 13 (upd (gR σ 13) (0 : Int32).toNatClampNeg (gF σ 0 7))) 13 (upd (gR (sR σ 13 (upd (gR σ 13) (0 : Int32).toNatClampNeg (gF σ 0 7))) 13) (1 : Int32).toNatClampNeg (gF (sR σ 13 (upd (gR σ 13) (0 : Int32).toNatClampNeg (gF σ 0 7))) 0 8))) 13) (2 : Int32).toNatClampNeg (gF (sR (sR σ 13 (upd (gR σ 13) (0 : Int32).toNatClampNeg (gF σ 0 7))) 13 (upd (gR (sR σ 13 (upd (gR σ 13) (0 : Int32).toNatClampNeg (gF σ 0 7))) 13) (1 : Int32).toNatClampNeg (gF (sR σ 13 (upd (gR σ 13) (0 : Int32).toNatClampNeg (gF σ 0 7))) 0 8))) 0 9))) (0 : Int32))))
set_option maxRecDepth 100000 in
set_option maxHeartbeats 4000000 in
theorem k_X5_keep (l : Launch) {D : va_G} {A : Nat → Prop} {cI cZ cS : ClassId} {am : Nat → Nat} (hAd : ∀ σ, va_D A (WM cI am σ)) {σ : SX} {σ' : SX} {r : Unit} (h : f_X5_keep σ = some (r, σ')) : Ct (QV D A (WM cI am (σ'))) l yX5_keep cX5_keep 2 none 0 0 D (tyS cI cZ cS) A [.ref (am 0)] (WM cI am σ) := by
  refine Ct.of (by decide +kernel) (Nat.le_of_ble_eq_true rfl) ?_
  intro p e s m below meth c ls S hK hr hlocks hP hS hl
  have hx := S.1
  have hb := S.2.1
  have hl : lv_has ls 2 [(0, .ref (am 0))] := hl
  have loop105 : ∀ (n : Nat) (σ : SX) (y1 : Int32) (H : Heap) (locs : List Loc) (ls : Array Slot), f_X5_keep_L105 n σ y1 = some (r, σ') → va_P D vwCl (WM cI am σ) H → va_S A s.heap H locs → lv_has ls 2 [(0, .ref (am 0)), (1, .int y1)] → W p l e (rmO 0 0) s m [.ref (am 0)].toArray below meth c H locs 0 0 (MQ below (QV D A (WM cI am (σ'))) [.ref (am 0)].toArray s 0 0 A) (F0 m 105 ls []) := by
    intro n
    induction n with
    | zero => intro σ y1 H locs ls h; cases h
    | succ n ih =>
      intro σ y1 H locs ls h hP hS hl
      rw [f_X5_keep_L105] at h
      refine lv_iload_n hx hb dX5_keep_105 rfl (lv_at hl 1 rfl) ?_
      refine lv_iconst (v := (4 : Int32)) hx hb dX5_keep_106 (by decide) ?_
      refine lv_icmp_ge (tgt := 131) hx hb dX5_keep_107 (by decide) (fun c_107 => ?_) (fun c_107 => ?_)
      · replace h := ite_t c_107 h
        obtain ⟨rfl, rfl⟩ := some_pair h
        exact k_vret S hr hlocks hP hS dX5_keep_131
      · replace h := ite_f c_107 h
        refine lv_aload_n hx hb dX5_keep_110 rfl (lv_at hl 0 rfl) ?_
        refine gt_X5_50 S hK hP dX5_keep_111 ?_
        refine lv_bipush (v := (27 : Int32)) hx hb dX5_keep_114 (by decide) ?_
        refine lv_iload_n hx hb dX5_keep_116 rfl (lv_at hl 1 rfl) ?_
        refine lv_iadd hx hb dX5_keep_117 ?_
        refine lv_aload_n hx hb dX5_keep_118 rfl (lv_at hl 0 rfl) ?_
        refine gt_X5_29 S hK hP dX5_keep_119 ?_
        refine lv_iload_n hx hb dX5_keep_122 rfl (lv_at hl 1 rfl) ?_
        obtain ⟨hi_123, h⟩ := oin_of h
        refine k_iald S hK hP mr6 hi_123 dX5_keep_123 ?_
        obtain ⟨hi_124, h⟩ := oin_of h
        refine k_iast S hK hP (hAd _) hS mr13 mr13_s hi_124 dX5_keep_124 (fun H locs hP hS => ?_)
        refine lv_iinc (v := y1 + (1 : Int32)) (lv' := [(1, .int (y1 + (1 : Int32))), (0, .ref (am 0))]) hx hb dX5_keep_125 hl (k := 1) rfl rfl (by decide) rfl (fun ls hl => ?_)
        refine lv_goto (tgt := 105) hx hb dX5_keep_128 (by decide) ?_
        exact ih (sR σ 13 (upd (gR σ 13) ((27 : Int32) + y1).toNatClampNeg (gR σ 6 y1.toNatClampNeg))) (y1 + (1 : Int32)) _ _ _ h hP hS (lv_sub hl [1, 0] rfl)
  have loop32 : ∀ (n : Nat) (σ : SX) (y1 : Int32) (H : Heap) (locs : List Loc) (ls : Array Slot), f_X5_keep_L32 n σ y1 = some (r, σ') → va_P D vwCl (WM cI am σ) H → va_S A s.heap H locs → lv_has ls 2 [(0, .ref (am 0)), (1, .int y1)] → W p l e (rmO 0 0) s m [.ref (am 0)].toArray below meth c H locs 0 0 (MQ below (QV D A (WM cI am (σ'))) [.ref (am 0)].toArray s 0 0 A) (F0 m 32 ls []) := by
    intro n
    induction n with
    | zero => intro σ y1 H locs ls h; cases h
    | succ n ih =>
      intro σ y1 H locs ls h hP hS hl
      rw [f_X5_keep_L32] at h
      refine lv_iload_n hx hb dX5_keep_32 rfl (lv_at hl 1 rfl) ?_
      refine lv_bipush (v := (6 : Int32)) hx hb dX5_keep_33 (by decide) ?_
      refine lv_icmp_ge (tgt := 103) hx hb dX5_keep_35 (by decide) (fun c_35 => ?_) (fun c_35 => ?_)
      · replace h := ite_t c_35 h
        refine lv_iconst (v := (0 : Int32)) hx hb dX5_keep_103 (by decide) ?_
        refine lv_istore_n (lv' := [(1, .int (0 : Int32)), (0, .ref (am 0))]) hx hb dX5_keep_104 rfl hl (by decide) rfl (fun ls hl => ?_)
        exact loop105 100 σ (0 : Int32) _ _ _ h hP hS (lv_sub hl [1, 0] rfl)
      · replace h := ite_f c_35 h
        refine lv_aload_n hx hb dX5_keep_38 rfl (lv_at hl 0 rfl) ?_
        refine gt_X5_50 S hK hP dX5_keep_39 ?_
        refine lv_iconst (v := (3 : Int32)) hx hb dX5_keep_42 (by decide) ?_
        refine lv_iload_n hx hb dX5_keep_43 rfl (lv_at hl 1 rfl) ?_
        refine lv_iadd hx hb dX5_keep_44 ?_
        refine lv_aload_n hx hb dX5_keep_45 rfl (lv_at hl 0 rfl) ?_
        refine gt_X5_23 S hK hP dX5_keep_46 ?_
        refine lv_iload_n hx hb dX5_keep_49 rfl (lv_at hl 1 rfl) ?_
        obtain ⟨hi_50, h⟩ := oin_of h
        refine k_iald S hK hP mr4 hi_50 dX5_keep_50 ?_
        obtain ⟨hi_51, h⟩ := oin_of h
        refine k_iast S hK hP (hAd _) hS mr13 mr13_s hi_51 dX5_keep_51 (fun H locs hP hS => ?_)
        refine lv_aload_n hx hb dX5_keep_52 rfl (lv_at hl 0 rfl) ?_
        refine gt_X5_50 S hK hP dX5_keep_53 ?_
        refine lv_bipush (v := (9 : Int32)) hx hb dX5_keep_56 (by decide) ?_
        refine lv_iload_n hx hb dX5_keep_58 rfl (lv_at hl 1 rfl) ?_
        refine lv_iadd hx hb dX5_keep_59 ?_
        refine lv_aload_n hx hb dX5_keep_60 rfl (lv_at hl 0 rfl) ?_
        refine gt_X5_32 S hK hP dX5_keep_61 ?_
        refine lv_iload_n hx hb dX5_keep_64 rfl (lv_at hl 1 rfl) ?_
        obtain ⟨hi_65, h⟩ := oin_of h
        refine k_iald S hK hP mr7 hi_65 dX5_keep_65 ?_
        obtain ⟨hi_66, h⟩ := oin_of h
        refine k_iast S hK hP (hAd _) hS mr13 mr13_s hi_66 dX5_keep_66 (fun H locs hP hS => ?_)
        refine lv_aload_n hx hb dX5_keep_67 rfl (lv_at hl 0 rfl) ?_
        refine gt_X5_50 S hK hP dX5_keep_68 ?_
        refine lv_bipush (v := (15 : Int32)) hx hb dX5_keep_71 (by decide) ?_
        refine lv_iload_n hx hb dX5_keep_73 rfl (lv_at hl 1 rfl) ?_
        refine lv_iadd hx hb dX5_keep_74 ?_
        refine lv_aload_n hx hb dX5_keep_75 rfl (lv_at hl 0 rfl) ?_
        refine gt_X5_35 S hK hP dX5_keep_76 ?_
        refine lv_iload_n hx hb dX5_keep_79 rfl (lv_at hl 1 rfl) ?_
        obtain ⟨hi_80, h⟩ := oin_of h
        refine k_iald S hK hP mr8 hi_80 dX5_keep_80 ?_
        obtain ⟨hi_81, h⟩ := oin_of h
        refine k_iast S hK hP (hAd _) hS mr13 mr13_s hi_81 dX5_keep_81 (fun H locs hP hS => ?_)
        refine lv_aload_n hx hb dX5_keep_82 rfl (lv_at hl 0 rfl) ?_
        refine gt_X5_50 S hK hP dX5_keep_83 ?_
        refine lv_bipush (v := (21 : Int32)) hx hb dX5_keep_86 (by decide) ?_
        refine lv_iload_n hx hb dX5_keep_88 rfl (lv_at hl 1 rfl) ?_
        refine lv_iadd hx hb dX5_keep_89 ?_
        refine lv_aload_n hx hb dX5_keep_90 rfl (lv_at hl 0 rfl) ?_
        refine gt_X5_38 S hK hP dX5_keep_91 ?_
        refine lv_iload_n hx hb dX5_keep_94 rfl (lv_at hl 1 rfl) ?_
        obtain ⟨hi_95, h⟩ := oin_of h
        refine k_iald S hK hP mr9 hi_95 dX5_keep_95 ?_
        obtain ⟨hi_96, h⟩ := oin_of h
        refine k_iast S hK hP (hAd _) hS mr13 mr13_s hi_96 dX5_keep_96 (fun H locs hP hS => ?_)
        refine lv_iinc (v := y1 + (1 : Int32)) (lv' := [(1, .int (y1 + (1 : Int32))), (0, .ref (am 0))]) hx hb dX5_keep_97 hl (k := 1) rfl rfl (by decide) rfl (fun ls hl => ?_)
        refine lv_goto (tgt := 32) hx hb dX5_keep_100 (by decide) ?_
        exact ih (sR (sR (sR (sR σ 13 (upd (gR σ 13) ((3 : Int32) + y1).toNatClampNeg (gR σ 4 y1.toNatClampNeg))) 13 (upd (gR (sR σ 13 (upd (gR σ 13) ((3 : Int32) + y1).toNatClampNeg (gR σ 4 y1.toNatClampNeg))) 13) ((9 : Int32) + y1).toNatClampNeg (gR (sR σ 13 (upd (gR σ 13) ((3 : Int32) + y1).toNatClampNeg (gR σ 4 y1.toNatClampNeg))) 7 y1.toNatClampNeg))) 13 (upd (gR (sR (sR σ 13 (upd (gR σ 13) ((3 : Int32) + y1).toNatClampNeg (gR σ 4 y1.toNatClampNeg))) 13 (upd (gR (sR σ 13 (upd (gR σ 13) ((3 : Int32) + y1).toNatClampNeg (gR σ 4 y1.toNatClampNeg))) 13) ((9 : Int32) + y1).toNatClampNeg (gR (sR σ 13 (upd (gR σ 13) ((3 : Int32) + y1).toNatClampNeg (gR σ 4 y1.toNatClampNeg))) 7 y1.toNatClampNeg))) 13) ((15 : Int32) + y1).toNatClampNeg (gR (sR (sR σ 13 (upd (gR σ 13) ((3 : Int32) + y1).toNatClampNeg (gR σ 4 y1.toNatClampNeg))) 13 (upd (gR (sR σ 13 (upd (gR σ 13) ((3 : Int32) + y1).toNatClampNeg (gR σ 4 y1.toNatClampNeg))) 13) ((9 : Int32) + y1).toNatClampNeg (gR (sR σ 13 (upd (gR σ 13) ((3 : Int32) + y1).toNatClampNeg (gR σ 4 y1.toNatClampNeg))) 7 y1.toNatClampNeg))) 8 y1.toNatClampNeg))) 13 (upd (gR (sR (sR (sR σ 13 (upd (gR σ 13) ((3 : Int32) + y1).toNatClampNeg (gR σ 4 y1.toNatClampNeg))) 13 (upd (gR (sR σ 13 (upd (gR σ 13) ((3 : Int32) + y1).toNatClampNeg (gR σ 4 y1.toNatClampNeg))) 13) ((9 : Int32) + y1).toNatClampNeg (gR (sR σ 13 (upd (gR σ 13) ((3 : Int32) + y1).toNatClampNeg (gR σ 4 y1.toNatClampNeg))) 7 y1.toNatClampNeg))) 13 (upd (gR (sR (sR σ 13 (upd (gR σ 13) ((3 : Int32) + y1).toNatClampNeg (gR σ 4 y1.toNatClampNeg))) 13 (upd (gR (sR σ 13 (upd (gR σ 13) ((3 : Int32) + y1).toNatClampNeg (gR σ 4 y1.toNatClampNeg))) 13) ((9 : Int32) + y1).toNatClampNeg (gR (sR σ 13 (upd (gR σ 13) ((3 : Int32) + y1).toNatClampNeg (gR σ 4 y1.toNatClampNeg))) 7 y1.toNatClampNeg))) 13) ((15 : Int32) + y1).toNatClampNeg (gR (sR (sR σ 13 (upd (gR σ 13) ((3 : Int32) + y1).toNatClampNeg (gR σ 4 y1.toNatClampNeg))) 13 (upd (gR (sR σ 13 (upd (gR σ 13) ((3 : Int32) + y1).toNatClampNeg (gR σ 4 y1.toNatClampNeg))) 13) ((9 : Int32) + y1).toNatClampNeg (gR (sR σ 13 (upd (gR σ 13) ((3 : Int32) + y1).toNatClampNeg (gR σ 4 y1.toNatClampNeg))) 7 y1.toNatClampNeg))) 8 y1.toNatClampNeg))) 13) ((21 : Int32) + y1).toNatClampNeg (gR (sR (sR (sR σ 13 (upd (gR σ 13) ((3 : Int32) + y1).toNatClampNeg (gR σ 4 y1.toNatClampNeg))) 13 (upd (gR (sR σ 13 (upd (gR σ 13) ((3 : Int32) + y1).toNatClampNeg (gR σ 4 y1.toNatClampNeg))) 13) ((9 : Int32) + y1).toNatClampNeg (gR (sR σ 13 (upd (gR σ 13) ((3 : Int32) + y1).toNatClampNeg (gR σ 4 y1.toNatClampNeg))) 7 y1.toNatClampNeg))) 13 (upd (gR (sR (sR σ 13 (upd (gR σ 13) ((3 : Int32) + y1).toNatClampNeg (gR σ 4 y1.toNatClampNeg))) 13 (upd (gR (sR σ 13 (upd (gR σ 13) ((3 : Int32) + y1).toNatClampNeg (gR σ 4 y1.toNatClampNeg))) 13) ((9 : Int32) + y1).toNatClampNeg (gR (sR σ 13 (upd (gR σ 13) ((3 : Int32) + y1).toNatClampNeg (gR σ 4 y1.toNatClampNeg))) 7 y1.toNatClampNeg))) 13) ((15 : Int32) + y1).toNatClampNeg (gR (sR (sR σ 13 (upd (gR σ 13) ((3 : Int32) + y1).toNatClampNeg (gR σ 4 y1.toNatClampNeg))) 13 (upd (gR (sR σ 13 (upd (gR σ 13) ((3 : Int32) + y1).toNatClampNeg (gR σ 4 y1.toNatClampNeg))) 13) ((9 : Int32) + y1).toNatClampNeg (gR (sR σ 13 (upd (gR σ 13) ((3 : Int32) + y1).toNatClampNeg (gR σ 4 y1.toNatClampNeg))) 7 y1.toNatClampNeg))) 8 y1.toNatClampNeg))) 9 y1.toNatClampNeg))) (y1 + (1 : Int32)) _ _ _ h hP hS (lv_sub hl [1, 0] rfl)
  rw [f_X5_keep] at h
  refine lv_aload_n hx hb dX5_keep_0 rfl (lv_at hl 0 rfl) ?_
  refine gt_X5_50 S hK hP dX5_keep_1 ?_
  refine lv_iconst (v := (0 : Int32)) hx hb dX5_keep_4 (by decide) ?_
  refine lv_aload_n hx hb dX5_keep_5 rfl (lv_at hl 0 rfl) ?_
  refine gt_X5_77 S hK hP dX5_keep_6 ?_
  obtain ⟨hi_9, h⟩ := oin_of h
  refine k_iast S hK hP (hAd _) hS mr13 mr13_s hi_9 dX5_keep_9 (fun H locs hP hS => ?_)
  refine lv_aload_n hx hb dX5_keep_10 rfl (lv_at hl 0 rfl) ?_
  refine gt_X5_50 S hK hP dX5_keep_11 ?_
  refine lv_iconst (v := (1 : Int32)) hx hb dX5_keep_14 (by decide) ?_
  refine lv_aload_n hx hb dX5_keep_15 rfl (lv_at hl 0 rfl) ?_
  refine gt_X5_19 S hK hP dX5_keep_16 ?_
  obtain ⟨hi_19, h⟩ := oin_of h
  refine k_iast S hK hP (hAd _) hS mr13 mr13_s hi_19 dX5_keep_19 (fun H locs hP hS => ?_)
  refine lv_aload_n hx hb dX5_keep_20 rfl (lv_at hl 0 rfl) ?_
  refine gt_X5_50 S hK hP dX5_keep_21 ?_
  refine lv_iconst (v := (2 : Int32)) hx hb dX5_keep_24 (by decide) ?_
  refine lv_aload_n hx hb dX5_keep_25 rfl (lv_at hl 0 rfl) ?_
  refine gt_X5_113 S hK hP dX5_keep_26 ?_
  obtain ⟨hi_29, h⟩ := oin_of h
  refine k_iast S hK hP (hAd _) hS mr13 mr13_s hi_29 dX5_keep_29 (fun H locs hP hS => ?_)
  refine lv_iconst (v := (0 : Int32)) hx hb dX5_keep_30 (by decide) ?_
  refine lv_istore_n (lv' := [(1, .int (0 : Int32)), (0, .ref (am 0))]) hx hb dX5_keep_31 rfl hl (by decide) rfl (fun ls hl => ?_)
  exact loop32 100 (sR (sR (sR σ 13 (upd (gR σ 13) (0 : Int32).toNatClampNeg (gF σ 0 7))) 13 (upd (gR (sR σ 13 (upd (gR σ 13) (0 : Int32).toNatClampNeg (gF σ 0 7))) 13) (1 : Int32).toNatClampNeg (gF (sR σ 13 (upd (gR σ 13) (0 : Int32).toNatClampNeg (gF σ 0 7))) 0 8))) 13 (upd (gR (sR (sR σ 13 (upd (gR σ 13) (0 : Int32).toNatClampNeg (gF σ 0 7))) 13 (upd (gR (sR σ 13 (upd (gR σ 13) (0 : Int32).toNatClampNeg (gF σ 0 7))) 13) (1 : Int32).toNatClampNeg (gF (sR σ 13 (upd (gR σ 13) (0 : Int32).toNatClampNeg (gF σ 0 7))) 0 8))) 13) (2 : Int32).toNatClampNeg (gF (sR (sR σ 13 (upd (gR σ 13) (0 : Int32).toNatClampNeg (gF σ 0 7))) 13 (upd (gR (sR σ 13 (upd (gR σ 13) (0 : Int32).toNatClampNeg (gF σ 0 7))) 13) (1 : Int32).toNatClampNeg (gF (sR σ 13 (upd (gR σ 13) (0 : Int32).toNatClampNeg (gF σ 0 7))) 0 8))) 0 9))) (0 : Int32) _ _ _ h hP hS (lv_sub hl [1, 0] rfl)
def f_X5_putBack_L105 : Nat → SX → Int32 → Option (Unit × SX)
  | 0, _, _ => none
  | n + 1, σ, y1 => if (4 : Int32) ≤ y1 then (some ((), σ)) else (oin ((27 : Int32) + y1) 31 (oin y1 4 (f_X5_putBack_L105 n (sR σ 6 (upd (gR σ 6) y1.toNatClampNeg (gR σ 13 ((27 : Int32) + y1).toNatClampNeg))) (y1 + (1 : Int32)))))
def f_X5_putBack_L32 : Nat → SX → Int32 → Option (Unit × SX)
  | 0, _, _ => none
  | n + 1, σ, y1 => if (6 : Int32) ≤ y1 then (f_X5_putBack_L105 100 σ (0 : Int32)) else (oin ((3 : Int32) + y1) 31 (oin y1 6 (oin ((9 : Int32) + y1) 31 (oin y1 6 (oin ((15 : Int32) + y1) 31 (oin y1 6 (oin ((21 : Int32) + y1) 31 (oin y1 6 (f_X5_putBack_L32 n (sR (sR (sR (sR σ 4 (upd (gR σ 4) y1.toNatClampNeg (gR σ 13 ((3 : Int32) + y1).toNatClampNeg))) 7 (upd (gR (sR σ 4 (upd (gR σ 4) y1.toNatClampNeg (gR σ 13 ((3 : Int32) + y1).toNatClampNeg))) 7) y1.toNatClampNeg (gR (sR σ 4 (upd (gR σ 4) y1.toNatClampNeg (gR σ 13 ((3 : Int32) + y1).toNatClampNeg))) 13 ((9 : Int32) + y1).toNatClampNeg))) 8 (upd (gR (sR (sR σ 4 (upd (gR σ 4) y1.toNatClampNeg (gR σ 13 ((3 : Int32) + y1).toNatClampNeg))) 7 (upd (gR (sR σ 4 (upd (gR σ 4) y1.toNatClampNeg (gR σ 13 ((3 : Int32) + y1).toNatClampNeg))) 7) y1.toNatClampNeg (gR (sR σ 4 (upd (gR σ 4) y1.toNatClampNeg (gR σ 13 ((3 : Int32) + y1).toNatClampNeg))) 13 ((9 : Int32) + y1).toNatClampNeg))) 8) y1.toNatClampNeg (gR (sR (sR σ 4 (upd (gR σ 4) y1.toNatClampNeg (gR σ 13 ((3 : Int32) + y1).toNatClampNeg))) 7 (upd (gR (sR σ 4 (upd (gR σ 4) y1.toNatClampNeg (gR σ 13 ((3 : Int32) + y1).toNatClampNeg))) 7) y1.toNatClampNeg (gR (sR σ 4 (upd (gR σ 4) y1.toNatClampNeg (gR σ 13 ((3 : Int32) + y1).toNatClampNeg))) 13 ((9 : Int32) + y1).toNatClampNeg))) 13 ((15 : Int32) + y1).toNatClampNeg))) 9 (upd (gR (sR (sR (sR σ 4 (upd (gR σ 4) y1.toNatClampNeg (gR σ 13 ((3 : Int32) + y1).toNatClampNeg))) 7 (upd (gR (sR σ 4 (upd (gR σ 4) y1.toNatClampNeg (gR σ 13 ((3 : Int32) + y1).toNatClampNeg))) 7) y1.toNatClampNeg (gR (sR σ 4 (upd (gR σ 4) y1.toNatClampNeg (gR σ 13 ((3 : Int32) + y1).toNatClampNeg))) 13 ((9 : Int32) + y1).toNatClampNeg))) 8 (upd (gR (sR (sR σ 4 (upd (gR σ 4) y1.toNatClampNeg (gR σ 13 ((3 : Int32) + y1).toNatClampNeg))) 7 (upd (gR (sR σ 4 (upd (gR σ 4) y1.toNatClampNeg (gR σ 13 ((3 : Int32) + y1).toNatClampNeg))) 7) y1.toNatClampNeg (gR (sR σ 4 (upd (gR σ 4) y1.toNatClampNeg (gR σ 13 ((3 : Int32) + y1).toNatClampNeg))) 13 ((9 : Int32) + y1).toNatClampNeg))) 8) y1.toNatClampNeg (gR (sR (sR σ 4 (upd (gR σ 4) y1.toNatClampNeg (gR σ 13 ((3 : Int32) + y1).toNatClampNeg))) 7 (upd (gR (sR σ 4 (upd (gR σ 4) y1.toNatClampNeg (gR σ 13 ((3 : Int32) + y1).toNatClampNeg))) 7) y1.toNatClampNeg (gR (sR σ 4 (upd (gR σ 4) y1.toNatClampNeg (gR σ 13 ((3 : Int32) + y1).toNatClampNeg))) 13 ((9 : Int32) + y1).toNatClampNeg))) 13 ((15 : Int32) + y1).toNatClampNeg))) 9) y1.toNatClampNeg (gR (sR (sR (sR σ 4 (upd (gR σ 4) y1.toNatClampNeg (gR σ 13 ((3 : Int32) + y1).toNatClampNeg))) 7 (upd (gR (sR σ 4 (upd (gR σ 4) y1.toNatClampNeg (gR σ 13 ((3 : Int32) + y1).toNatClampNeg))) 7) y1.toNatClampNeg (gR (sR σ 4 (upd (gR σ 4) y1.toNatClampNeg (gR σ 13 ((3 : Int32) + y1).toNatClampNeg))) 13 ((9 : Int32) + y1).toNatClampNeg))) 8 (upd (gR (sR (sR σ 4 (upd (gR σ 4) y1.toNatClampNeg (gR σ 13 ((3 : Int32) + y1).toNatClampNeg))) 7 (upd (gR (sR σ 4 (upd (gR σ 4) y1.toNatClampNeg (gR σ 13 ((3 : Int32) + y1).toNatClampNeg))) 7) y1.toNatClampNeg (gR (sR σ 4 (upd (gR σ 4) y1.toNatClampNeg (gR σ 13 ((3 : Int32) + y1).toNatClampNeg))) 13 ((9 : Int32) + y1).toNatClampNeg))) 8) y1.toNatClampNeg (gR (sR (sR σ 4 (upd (gR σ 4) y1.toNatClampNeg (gR σ 13 ((3 : Int32) + y1).toNatClampNeg))) 7 (upd (gR (sR σ 4 (upd (gR σ 4) y1.toNatClampNeg (gR σ 13 ((3 : Int32) + y1).toNatClampNeg))) 7) y1.toNatClampNeg (gR (sR σ 4 (upd (gR σ 4) y1.toNatClampNeg (gR σ 13 ((3 : Int32) + y1).toNatClampNeg))) 13 ((9 : Int32) + y1).toNatClampNeg))) 13 ((15 : Int32) + y1).toNatClampNeg))) 13 ((21 : Int32) + y1).toNatClampNeg))) (y1 + (1 : Int32)))))))))))
def f_X5_putBack (σ : SX) : Option (Unit × SX) := oin (0 : Int32) 31 (oin (1 : Int32) 31 (oin (2 : Int32) 31 (f_X5_putBack_L32 100 (sF (sF (sF σ 0 7 (gR σ 13 (0 : Int32).toNatClampNeg)) 0 8 (gR (sF σ 0 7 (gR σ 13 (0 : Int32).toNatClampNeg)) 13 (1 : Int32).toNatClampNeg)) 0 9 (gR (sF (sF σ 0 7 (gR σ 13 (0 : Int32).toNatClampNeg)) 0 8 (gR (sF σ 0 7 (gR σ 13 (0 : Int32).toNatClampNeg)) 13 (1 : Int32).toNatClampNeg)) 13 (2 : Int32).toNatClampNeg)) (0 : Int32))))
set_option maxRecDepth 100000 in
set_option maxHeartbeats 4000000 in
theorem k_X5_putBack (l : Launch) {D : va_G} {A : Nat → Prop} {cI cZ cS : ClassId} {am : Nat → Nat} (hAd : ∀ σ, va_D A (WM cI am σ)) {σ : SX} {σ' : SX} {r : Unit} (h : f_X5_putBack σ = some (r, σ')) : Ct (QV D A (WM cI am (σ'))) l yX5_putBack cX5_putBack 2 none 0 0 D (tyS cI cZ cS) A [.ref (am 0)] (WM cI am σ) := by
  refine Ct.of (by decide +kernel) (Nat.le_of_ble_eq_true rfl) ?_
  intro p e s m below meth c ls S hK hr hlocks hP hS hl
  have hx := S.1
  have hb := S.2.1
  have hl : lv_has ls 2 [(0, .ref (am 0))] := hl
  have loop105 : ∀ (n : Nat) (σ : SX) (y1 : Int32) (H : Heap) (locs : List Loc) (ls : Array Slot), f_X5_putBack_L105 n σ y1 = some (r, σ') → va_P D vwCl (WM cI am σ) H → va_S A s.heap H locs → lv_has ls 2 [(0, .ref (am 0)), (1, .int y1)] → W p l e (rmO 0 0) s m [.ref (am 0)].toArray below meth c H locs 0 0 (MQ below (QV D A (WM cI am (σ'))) [.ref (am 0)].toArray s 0 0 A) (F0 m 105 ls []) := by
    intro n
    induction n with
    | zero => intro σ y1 H locs ls h; cases h
    | succ n ih =>
      intro σ y1 H locs ls h hP hS hl
      rw [f_X5_putBack_L105] at h
      refine lv_iload_n hx hb dX5_putBack_105 rfl (lv_at hl 1 rfl) ?_
      refine lv_iconst (v := (4 : Int32)) hx hb dX5_putBack_106 (by decide) ?_
      refine lv_icmp_ge (tgt := 131) hx hb dX5_putBack_107 (by decide) (fun c_107 => ?_) (fun c_107 => ?_)
      · replace h := ite_t c_107 h
        obtain ⟨rfl, rfl⟩ := some_pair h
        exact k_vret S hr hlocks hP hS dX5_putBack_131
      · replace h := ite_f c_107 h
        refine lv_aload_n hx hb dX5_putBack_110 rfl (lv_at hl 0 rfl) ?_
        refine gt_X5_29 S hK hP dX5_putBack_111 ?_
        refine lv_iload_n hx hb dX5_putBack_114 rfl (lv_at hl 1 rfl) ?_
        refine lv_aload_n hx hb dX5_putBack_115 rfl (lv_at hl 0 rfl) ?_
        refine gt_X5_50 S hK hP dX5_putBack_116 ?_
        refine lv_bipush (v := (27 : Int32)) hx hb dX5_putBack_119 (by decide) ?_
        refine lv_iload_n hx hb dX5_putBack_121 rfl (lv_at hl 1 rfl) ?_
        refine lv_iadd hx hb dX5_putBack_122 ?_
        obtain ⟨hi_123, h⟩ := oin_of h
        refine k_iald S hK hP mr13 hi_123 dX5_putBack_123 ?_
        obtain ⟨hi_124, h⟩ := oin_of h
        refine k_iast S hK hP (hAd _) hS mr6 mr6_s hi_124 dX5_putBack_124 (fun H locs hP hS => ?_)
        refine lv_iinc (v := y1 + (1 : Int32)) (lv' := [(1, .int (y1 + (1 : Int32))), (0, .ref (am 0))]) hx hb dX5_putBack_125 hl (k := 1) rfl rfl (by decide) rfl (fun ls hl => ?_)
        refine lv_goto (tgt := 105) hx hb dX5_putBack_128 (by decide) ?_
        exact ih (sR σ 6 (upd (gR σ 6) y1.toNatClampNeg (gR σ 13 ((27 : Int32) + y1).toNatClampNeg))) (y1 + (1 : Int32)) _ _ _ h hP hS (lv_sub hl [1, 0] rfl)
  have loop32 : ∀ (n : Nat) (σ : SX) (y1 : Int32) (H : Heap) (locs : List Loc) (ls : Array Slot), f_X5_putBack_L32 n σ y1 = some (r, σ') → va_P D vwCl (WM cI am σ) H → va_S A s.heap H locs → lv_has ls 2 [(0, .ref (am 0)), (1, .int y1)] → W p l e (rmO 0 0) s m [.ref (am 0)].toArray below meth c H locs 0 0 (MQ below (QV D A (WM cI am (σ'))) [.ref (am 0)].toArray s 0 0 A) (F0 m 32 ls []) := by
    intro n
    induction n with
    | zero => intro σ y1 H locs ls h; cases h
    | succ n ih =>
      intro σ y1 H locs ls h hP hS hl
      rw [f_X5_putBack_L32] at h
      refine lv_iload_n hx hb dX5_putBack_32 rfl (lv_at hl 1 rfl) ?_
      refine lv_bipush (v := (6 : Int32)) hx hb dX5_putBack_33 (by decide) ?_
      refine lv_icmp_ge (tgt := 103) hx hb dX5_putBack_35 (by decide) (fun c_35 => ?_) (fun c_35 => ?_)
      · replace h := ite_t c_35 h
        refine lv_iconst (v := (0 : Int32)) hx hb dX5_putBack_103 (by decide) ?_
        refine lv_istore_n (lv' := [(1, .int (0 : Int32)), (0, .ref (am 0))]) hx hb dX5_putBack_104 rfl hl (by decide) rfl (fun ls hl => ?_)
        exact loop105 100 σ (0 : Int32) _ _ _ h hP hS (lv_sub hl [1, 0] rfl)
      · replace h := ite_f c_35 h
        refine lv_aload_n hx hb dX5_putBack_38 rfl (lv_at hl 0 rfl) ?_
        refine gt_X5_23 S hK hP dX5_putBack_39 ?_
        refine lv_iload_n hx hb dX5_putBack_42 rfl (lv_at hl 1 rfl) ?_
        refine lv_aload_n hx hb dX5_putBack_43 rfl (lv_at hl 0 rfl) ?_
        refine gt_X5_50 S hK hP dX5_putBack_44 ?_
        refine lv_iconst (v := (3 : Int32)) hx hb dX5_putBack_47 (by decide) ?_
        refine lv_iload_n hx hb dX5_putBack_48 rfl (lv_at hl 1 rfl) ?_
        refine lv_iadd hx hb dX5_putBack_49 ?_
        obtain ⟨hi_50, h⟩ := oin_of h
        refine k_iald S hK hP mr13 hi_50 dX5_putBack_50 ?_
        obtain ⟨hi_51, h⟩ := oin_of h
        refine k_iast S hK hP (hAd _) hS mr4 mr4_s hi_51 dX5_putBack_51 (fun H locs hP hS => ?_)
        refine lv_aload_n hx hb dX5_putBack_52 rfl (lv_at hl 0 rfl) ?_
        refine gt_X5_32 S hK hP dX5_putBack_53 ?_
        refine lv_iload_n hx hb dX5_putBack_56 rfl (lv_at hl 1 rfl) ?_
        refine lv_aload_n hx hb dX5_putBack_57 rfl (lv_at hl 0 rfl) ?_
        refine gt_X5_50 S hK hP dX5_putBack_58 ?_
        refine lv_bipush (v := (9 : Int32)) hx hb dX5_putBack_61 (by decide) ?_
        refine lv_iload_n hx hb dX5_putBack_63 rfl (lv_at hl 1 rfl) ?_
        refine lv_iadd hx hb dX5_putBack_64 ?_
        obtain ⟨hi_65, h⟩ := oin_of h
        refine k_iald S hK hP mr13 hi_65 dX5_putBack_65 ?_
        obtain ⟨hi_66, h⟩ := oin_of h
        refine k_iast S hK hP (hAd _) hS mr7 mr7_s hi_66 dX5_putBack_66 (fun H locs hP hS => ?_)
        refine lv_aload_n hx hb dX5_putBack_67 rfl (lv_at hl 0 rfl) ?_
        refine gt_X5_35 S hK hP dX5_putBack_68 ?_
        refine lv_iload_n hx hb dX5_putBack_71 rfl (lv_at hl 1 rfl) ?_
        refine lv_aload_n hx hb dX5_putBack_72 rfl (lv_at hl 0 rfl) ?_
        refine gt_X5_50 S hK hP dX5_putBack_73 ?_
        refine lv_bipush (v := (15 : Int32)) hx hb dX5_putBack_76 (by decide) ?_
        refine lv_iload_n hx hb dX5_putBack_78 rfl (lv_at hl 1 rfl) ?_
        refine lv_iadd hx hb dX5_putBack_79 ?_
        obtain ⟨hi_80, h⟩ := oin_of h
        refine k_iald S hK hP mr13 hi_80 dX5_putBack_80 ?_
        obtain ⟨hi_81, h⟩ := oin_of h
        refine k_iast S hK hP (hAd _) hS mr8 mr8_s hi_81 dX5_putBack_81 (fun H locs hP hS => ?_)
        refine lv_aload_n hx hb dX5_putBack_82 rfl (lv_at hl 0 rfl) ?_
        refine gt_X5_38 S hK hP dX5_putBack_83 ?_
        refine lv_iload_n hx hb dX5_putBack_86 rfl (lv_at hl 1 rfl) ?_
        refine lv_aload_n hx hb dX5_putBack_87 rfl (lv_at hl 0 rfl) ?_
        refine gt_X5_50 S hK hP dX5_putBack_88 ?_
        refine lv_bipush (v := (21 : Int32)) hx hb dX5_putBack_91 (by decide) ?_
        refine lv_iload_n hx hb dX5_putBack_93 rfl (lv_at hl 1 rfl) ?_
        refine lv_iadd hx hb dX5_putBack_94 ?_
        obtain ⟨hi_95, h⟩ := oin_of h
        refine k_iald S hK hP mr13 hi_95 dX5_putBack_95 ?_
        obtain ⟨hi_96, h⟩ := oin_of h
        refine k_iast S hK hP (hAd _) hS mr9 mr9_s hi_96 dX5_putBack_96 (fun H locs hP hS => ?_)
        refine lv_iinc (v := y1 + (1 : Int32)) (lv' := [(1, .int (y1 + (1 : Int32))), (0, .ref (am 0))]) hx hb dX5_putBack_97 hl (k := 1) rfl rfl (by decide) rfl (fun ls hl => ?_)
        refine lv_goto (tgt := 32) hx hb dX5_putBack_100 (by decide) ?_
        exact ih (sR (sR (sR (sR σ 4 (upd (gR σ 4) y1.toNatClampNeg (gR σ 13 ((3 : Int32) + y1).toNatClampNeg))) 7 (upd (gR (sR σ 4 (upd (gR σ 4) y1.toNatClampNeg (gR σ 13 ((3 : Int32) + y1).toNatClampNeg))) 7) y1.toNatClampNeg (gR (sR σ 4 (upd (gR σ 4) y1.toNatClampNeg (gR σ 13 ((3 : Int32) + y1).toNatClampNeg))) 13 ((9 : Int32) + y1).toNatClampNeg))) 8 (upd (gR (sR (sR σ 4 (upd (gR σ 4) y1.toNatClampNeg (gR σ 13 ((3 : Int32) + y1).toNatClampNeg))) 7 (upd (gR (sR σ 4 (upd (gR σ 4) y1.toNatClampNeg (gR σ 13 ((3 : Int32) + y1).toNatClampNeg))) 7) y1.toNatClampNeg (gR (sR σ 4 (upd (gR σ 4) y1.toNatClampNeg (gR σ 13 ((3 : Int32) + y1).toNatClampNeg))) 13 ((9 : Int32) + y1).toNatClampNeg))) 8) y1.toNatClampNeg (gR (sR (sR σ 4 (upd (gR σ 4) y1.toNatClampNeg (gR σ 13 ((3 : Int32) + y1).toNatClampNeg))) 7 (upd (gR (sR σ 4 (upd (gR σ 4) y1.toNatClampNeg (gR σ 13 ((3 : Int32) + y1).toNatClampNeg))) 7) y1.toNatClampNeg (gR (sR σ 4 (upd (gR σ 4) y1.toNatClampNeg (gR σ 13 ((3 : Int32) + y1).toNatClampNeg))) 13 ((9 : Int32) + y1).toNatClampNeg))) 13 ((15 : Int32) + y1).toNatClampNeg))) 9 (upd (gR (sR (sR (sR σ 4 (upd (gR σ 4) y1.toNatClampNeg (gR σ 13 ((3 : Int32) + y1).toNatClampNeg))) 7 (upd (gR (sR σ 4 (upd (gR σ 4) y1.toNatClampNeg (gR σ 13 ((3 : Int32) + y1).toNatClampNeg))) 7) y1.toNatClampNeg (gR (sR σ 4 (upd (gR σ 4) y1.toNatClampNeg (gR σ 13 ((3 : Int32) + y1).toNatClampNeg))) 13 ((9 : Int32) + y1).toNatClampNeg))) 8 (upd (gR (sR (sR σ 4 (upd (gR σ 4) y1.toNatClampNeg (gR σ 13 ((3 : Int32) + y1).toNatClampNeg))) 7 (upd (gR (sR σ 4 (upd (gR σ 4) y1.toNatClampNeg (gR σ 13 ((3 : Int32) + y1).toNatClampNeg))) 7) y1.toNatClampNeg (gR (sR σ 4 (upd (gR σ 4) y1.toNatClampNeg (gR σ 13 ((3 : Int32) + y1).toNatClampNeg))) 13 ((9 : Int32) + y1).toNatClampNeg))) 8) y1.toNatClampNeg (gR (sR (sR σ 4 (upd (gR σ 4) y1.toNatClampNeg (gR σ 13 ((3 : Int32) + y1).toNatClampNeg))) 7 (upd (gR (sR σ 4 (upd (gR σ 4) y1.toNatClampNeg (gR σ 13 ((3 : Int32) + y1).toNatClampNeg))) 7) y1.toNatClampNeg (gR (sR σ 4 (upd (gR σ 4) y1.toNatClampNeg (gR σ 13 ((3 : Int32) + y1).toNatClampNeg))) 13 ((9 : Int32) + y1).toNatClampNeg))) 13 ((15 : Int32) + y1).toNatClampNeg))) 9) y1.toNatClampNeg (gR (sR (sR (sR σ 4 (upd (gR σ 4) y1.toNatClampNeg (gR σ 13 ((3 : Int32) + y1).toNatClampNeg))) 7 (upd (gR (sR σ 4 (upd (gR σ 4) y1.toNatClampNeg (gR σ 13 ((3 : Int32) + y1).toNatClampNeg))) 7) y1.toNatClampNeg (gR (sR σ 4 (upd (gR σ 4) y1.toNatClampNeg (gR σ 13 ((3 : Int32) + y1).toNatClampNeg))) 13 ((9 : Int32) + y1).toNatClampNeg))) 8 (upd (gR (sR (sR σ 4 (upd (gR σ 4) y1.toNatClampNeg (gR σ 13 ((3 : Int32) + y1).toNatClampNeg))) 7 (upd (gR (sR σ 4 (upd (gR σ 4) y1.toNatClampNeg (gR σ 13 ((3 : Int32) + y1).toNatClampNeg))) 7) y1.toNatClampNeg (gR (sR σ 4 (upd (gR σ 4) y1.toNatClampNeg (gR σ 13 ((3 : Int32) + y1).toNatClampNeg))) 13 ((9 : Int32) + y1).toNatClampNeg))) 8) y1.toNatClampNeg (gR (sR (sR σ 4 (upd (gR σ 4) y1.toNatClampNeg (gR σ 13 ((3 : Int32) + y1).toNatClampNeg))) 7 (upd (gR (sR σ 4 (upd (gR σ 4) y1.toNatClampNeg (gR σ 13 ((3 : Int32) + y1).toNatClampNeg))) 7) y1.toNatClampNeg (gR (sR σ 4 (upd (gR σ 4) y1.toNatClampNeg (gR σ 13 ((3 : Int32) + y1).toNatClampNeg))) 13 ((9 : Int32) + y1).toNatClampNeg))) 13 ((15 : Int32) + y1).toNatClampNeg))) 13 ((21 : Int32) + y1).toNatClampNeg))) (y1 + (1 : Int32)) _ _ _ h hP hS (lv_sub hl [1, 0] rfl)
  rw [f_X5_putBack] at h
  refine lv_aload_n hx hb dX5_putBack_0 rfl (lv_at hl 0 rfl) ?_
  refine lv_aload_n hx hb dX5_putBack_1 rfl (lv_at hl 0 rfl) ?_
  refine gt_X5_50 S hK hP dX5_putBack_2 ?_
  refine lv_iconst (v := (0 : Int32)) hx hb dX5_putBack_5 (by decide) ?_
  obtain ⟨hi_6, h⟩ := oin_of h
  refine k_iald S hK hP mr13 hi_6 dX5_putBack_6 ?_
  refine pt_X5_77 S hK hP (hAd _) hS dX5_putBack_7 (fun H locs hP hS => ?_)
  refine lv_aload_n hx hb dX5_putBack_10 rfl (lv_at hl 0 rfl) ?_
  refine lv_aload_n hx hb dX5_putBack_11 rfl (lv_at hl 0 rfl) ?_
  refine gt_X5_50 S hK hP dX5_putBack_12 ?_
  refine lv_iconst (v := (1 : Int32)) hx hb dX5_putBack_15 (by decide) ?_
  obtain ⟨hi_16, h⟩ := oin_of h
  refine k_iald S hK hP mr13 hi_16 dX5_putBack_16 ?_
  refine pt_X5_19 S hK hP (hAd _) hS dX5_putBack_17 (fun H locs hP hS => ?_)
  refine lv_aload_n hx hb dX5_putBack_20 rfl (lv_at hl 0 rfl) ?_
  refine lv_aload_n hx hb dX5_putBack_21 rfl (lv_at hl 0 rfl) ?_
  refine gt_X5_50 S hK hP dX5_putBack_22 ?_
  refine lv_iconst (v := (2 : Int32)) hx hb dX5_putBack_25 (by decide) ?_
  obtain ⟨hi_26, h⟩ := oin_of h
  refine k_iald S hK hP mr13 hi_26 dX5_putBack_26 ?_
  refine pt_X5_113 S hK hP (hAd _) hS dX5_putBack_27 (fun H locs hP hS => ?_)
  refine lv_iconst (v := (0 : Int32)) hx hb dX5_putBack_30 (by decide) ?_
  refine lv_istore_n (lv' := [(1, .int (0 : Int32)), (0, .ref (am 0))]) hx hb dX5_putBack_31 rfl hl (by decide) rfl (fun ls hl => ?_)
  exact loop32 100 (sF (sF (sF σ 0 7 (gR σ 13 (0 : Int32).toNatClampNeg)) 0 8 (gR (sF σ 0 7 (gR σ 13 (0 : Int32).toNatClampNeg)) 13 (1 : Int32).toNatClampNeg)) 0 9 (gR (sF (sF σ 0 7 (gR σ 13 (0 : Int32).toNatClampNeg)) 0 8 (gR (sF σ 0 7 (gR σ 13 (0 : Int32).toNatClampNeg)) 13 (1 : Int32).toNatClampNeg)) 13 (2 : Int32).toNatClampNeg)) (0 : Int32) _ _ _ h hP hS (lv_sub hl [1, 0] rfl)
def f_X5_does (σ : SX) (x1 : Int32) (x2 : Int32) : Option (Int32 × SX) := if (4 : Int32) ≤ x2 then (if (10 : Int32) ≤ x2 then (if x2 = (10 : Int32) then (ob1 (f_X5_isOath σ x1) (fun r_63 => if r_63 = 0 then (some ((0 : Int32), σ)) else (ob2 (f_X5_letOff σ x1) (fun r_73 s_73 => some ((1 : Int32), s_73))))) else (if x2 = (17 : Int32) then (some ((1 : Int32), sF σ 0 8 (-9 : Int32))) else (ob1 (f_X5_isHour σ (x2 - (11 : Int32))) (fun r_99 => if r_99 = 0 then (some ((0 : Int32), σ)) else (some ((1 : Int32), sF (sF σ 0 8 (x2 - (11 : Int32))) 0 9 x1)))))) else (ob1 (f_X5_isHour σ (x2 - (4 : Int32))) (fun r_35 => if r_35 = 0 then (some ((0 : Int32), σ)) else (oin (x2 - (4 : Int32)) 6 (some ((1 : Int32), sR σ 4 (upd (gR σ 4) (x2 - (4 : Int32)).toNatClampNeg x1))))))) else (ob1 (f_X5_isSwearer σ x2) (fun r_7 => if r_7 = 0 then (some ((0 : Int32), σ)) else (oin x2 4 (some ((1 : Int32), sR σ 6 (upd (gR σ 6) x2.toNatClampNeg x1))))))
set_option maxRecDepth 100000 in
set_option maxHeartbeats 4000000 in
theorem k_X5_does (l : Launch) {D : va_G} {A : Nat → Prop} {cI cZ cS : ClassId} {am : Nat → Nat} (hAd : ∀ σ, va_D A (WM cI am σ)) {σ : SX} {x1 : Int32} {x2 : Int32} {σ' : SX} {r : Int32} (h : f_X5_does σ x1 x2 = some (r, σ')) : Ct (QI D A r (WM cI am (σ'))) l yX5_does cX5_does 3 (some .boolean) 1 22 D (tyS cI cZ cS) A [.ref (am 0), .int x1, .int x2] (WM cI am σ) := by
  refine Ct.of (by decide +kernel) (Nat.le_of_ble_eq_true rfl) ?_
  intro p e s m below meth c ls S hK hr hlocks hP hS hl
  have hx := S.1
  have hb := S.2.1
  have hl : lv_has ls 3 [(0, .ref (am 0)), (1, .int x1), (2, .int x2)] := hl
  rw [f_X5_does] at h
  refine lv_iload_n hx hb dX5_does_0 rfl (lv_at hl 2 rfl) ?_
  refine lv_iconst (v := (4 : Int32)) hx hb dX5_does_1 (by decide) ?_
  refine lv_icmp_ge (tgt := 25) hx hb dX5_does_2 (by decide) (fun c_2 => ?_) (fun c_2 => ?_)
  · replace h := ite_t c_2 h
    refine lv_iload_n hx hb dX5_does_25 rfl (lv_at hl 2 rfl) ?_
    refine lv_bipush (v := (10 : Int32)) hx hb dX5_does_26 (by decide) ?_
    refine lv_icmp_ge (tgt := 55) hx hb dX5_does_28 (by decide) (fun c_28 => ?_) (fun c_28 => ?_)
    · replace h := ite_t c_28 h
      refine lv_iload_n hx hb dX5_does_55 rfl (lv_at hl 2 rfl) ?_
      refine lv_bipush (v := (10 : Int32)) hx hb dX5_does_56 (by decide) ?_
      refine lv_icmp_ne (tgt := 79) hx hb dX5_does_58 (by decide) (fun c_58 => ?_) (fun c_58 => ?_)
      · replace h := ite_f c_58 h
        refine lv_iload_n hx hb dX5_does_79 rfl (lv_at hl 2 rfl) ?_
        refine lv_bipush (v := (17 : Int32)) hx hb dX5_does_80 (by decide) ?_
        refine lv_icmp_ne (tgt := 94) hx hb dX5_does_82 (by decide) (fun c_82 => ?_) (fun c_82 => ?_)
        · replace h := ite_f c_82 h
          refine lv_aload_n hx hb dX5_does_94 rfl (lv_at hl 0 rfl) ?_
          refine lv_iload_n hx hb dX5_does_95 rfl (lv_at hl 2 rfl) ?_
          refine lv_bipush (v := (11 : Int32)) hx hb dX5_does_96 (by decide) ?_
          refine lv_isub hx hb dX5_does_98 ?_
          obtain ⟨r_99, e_99, h⟩ := ob1_of h
          refine k_goI (k_runV (As := [.int (x2 - (11 : Int32))]) (rest := []) S hK hP (k_X5_isHour l hAd e_99) cy_X5_isHour wd_824 rfl mO rfl hl.1 rfl (Nat.le_of_ble_eq_true rfl) dX5_does_99 ⟨Nat.le_of_ble_eq_true rfl, Nat.le_of_ble_eq_true rfl⟩ ⟨Nat.zero_le _, Nat.zero_le _⟩) hS (fun _ h => h) (fun H locs hP hS _ _ => ?_)
          refine lv_if_ne (tgt := 107) hx hb dX5_does_102 (by decide) (fun c_102 => ?_) (fun c_102 => ?_)
          · replace h := ite_f c_102 h
            refine lv_aload_n hx hb dX5_does_107 rfl (lv_at hl 0 rfl) ?_
            refine lv_iload_n hx hb dX5_does_108 rfl (lv_at hl 2 rfl) ?_
            refine lv_bipush (v := (11 : Int32)) hx hb dX5_does_109 (by decide) ?_
            refine lv_isub hx hb dX5_does_111 ?_
            refine pt_X5_19 S hK hP (hAd _) hS dX5_does_112 (fun H locs hP hS => ?_)
            refine lv_aload_n hx hb dX5_does_115 rfl (lv_at hl 0 rfl) ?_
            refine lv_iload_n hx hb dX5_does_116 rfl (lv_at hl 1 rfl) ?_
            refine pt_X5_113 S hK hP (hAd _) hS dX5_does_117 (fun H locs hP hS => ?_)
            refine lv_iconst (v := (1 : Int32)) hx hb dX5_does_120 (by decide) ?_
            obtain ⟨rfl, rfl⟩ := some_pair h
            exact k_zret S hr hlocks hP hS rfl (Or.inr rfl) dX5_does_121
          · replace h := ite_t c_102 h
            refine lv_iconst (v := (0 : Int32)) hx hb dX5_does_105 (by decide) ?_
            obtain ⟨rfl, rfl⟩ := some_pair h
            exact k_zret S hr hlocks hP hS rfl (Or.inl rfl) dX5_does_106
        · replace h := ite_t c_82 h
          refine lv_aload_n hx hb dX5_does_85 rfl (lv_at hl 0 rfl) ?_
          refine lv_bipush (v := (-9 : Int32)) hx hb dX5_does_86 (by decide) ?_
          refine pt_X5_19 S hK hP (hAd _) hS dX5_does_88 (fun H locs hP hS => ?_)
          refine lv_goto (tgt := 120) hx hb dX5_does_91 (by decide) ?_
          refine lv_iconst (v := (1 : Int32)) hx hb dX5_does_120 (by decide) ?_
          obtain ⟨rfl, rfl⟩ := some_pair h
          exact k_zret S hr hlocks hP hS rfl (Or.inr rfl) dX5_does_121
      · replace h := ite_t c_58 h
        refine lv_aload_n hx hb dX5_does_61 rfl (lv_at hl 0 rfl) ?_
        refine lv_iload_n hx hb dX5_does_62 rfl (lv_at hl 1 rfl) ?_
        obtain ⟨r_63, e_63, h⟩ := ob1_of h
        refine k_goI (k_runV (As := [.int x1]) (rest := []) S hK hP (k_X5_isOath l hAd e_63) cy_X5_isOath wd_816 rfl mO rfl hl.1 rfl (Nat.le_of_ble_eq_true rfl) dX5_does_63 ⟨Nat.le_of_ble_eq_true rfl, Nat.le_of_ble_eq_true rfl⟩ ⟨Nat.zero_le _, Nat.zero_le _⟩) hS (fun _ h => h) (fun H locs hP hS _ _ => ?_)
        refine lv_if_ne (tgt := 71) hx hb dX5_does_66 (by decide) (fun c_66 => ?_) (fun c_66 => ?_)
        · replace h := ite_f c_66 h
          refine lv_aload_n hx hb dX5_does_71 rfl (lv_at hl 0 rfl) ?_
          refine lv_iload_n hx hb dX5_does_72 rfl (lv_at hl 1 rfl) ?_
          obtain ⟨r_73, s_73, e_73, h⟩ := ob2_of h
          refine k_goV (k_runV (As := [.int x1]) (rest := []) S hK hP (k_X5_letOff l hAd e_73) cy_X5_letOff wd_852 rfl mO rfl hl.1 rfl (Nat.le_of_ble_eq_true rfl) dX5_does_73 ⟨Nat.le_of_ble_eq_true rfl, Nat.le_of_ble_eq_true rfl⟩ ⟨Nat.zero_le _, Nat.zero_le _⟩) hS (fun _ h => h) (fun H locs hP hS _ _ => ?_)
          refine lv_goto (tgt := 120) hx hb dX5_does_76 (by decide) ?_
          refine lv_iconst (v := (1 : Int32)) hx hb dX5_does_120 (by decide) ?_
          obtain ⟨rfl, rfl⟩ := some_pair h
          exact k_zret S hr hlocks hP hS rfl (Or.inr rfl) dX5_does_121
        · replace h := ite_t c_66 h
          refine lv_iconst (v := (0 : Int32)) hx hb dX5_does_69 (by decide) ?_
          obtain ⟨rfl, rfl⟩ := some_pair h
          exact k_zret S hr hlocks hP hS rfl (Or.inl rfl) dX5_does_70
    · replace h := ite_f c_28 h
      refine lv_aload_n hx hb dX5_does_31 rfl (lv_at hl 0 rfl) ?_
      refine lv_iload_n hx hb dX5_does_32 rfl (lv_at hl 2 rfl) ?_
      refine lv_iconst (v := (4 : Int32)) hx hb dX5_does_33 (by decide) ?_
      refine lv_isub hx hb dX5_does_34 ?_
      obtain ⟨r_35, e_35, h⟩ := ob1_of h
      refine k_goI (k_runV (As := [.int (x2 - (4 : Int32))]) (rest := []) S hK hP (k_X5_isHour l hAd e_35) cy_X5_isHour wd_824 rfl mO rfl hl.1 rfl (Nat.le_of_ble_eq_true rfl) dX5_does_35 ⟨Nat.le_of_ble_eq_true rfl, Nat.le_of_ble_eq_true rfl⟩ ⟨Nat.zero_le _, Nat.zero_le _⟩) hS (fun _ h => h) (fun H locs hP hS _ _ => ?_)
      refine lv_if_ne (tgt := 43) hx hb dX5_does_38 (by decide) (fun c_38 => ?_) (fun c_38 => ?_)
      · replace h := ite_f c_38 h
        refine lv_aload_n hx hb dX5_does_43 rfl (lv_at hl 0 rfl) ?_
        refine gt_X5_23 S hK hP dX5_does_44 ?_
        refine lv_iload_n hx hb dX5_does_47 rfl (lv_at hl 2 rfl) ?_
        refine lv_iconst (v := (4 : Int32)) hx hb dX5_does_48 (by decide) ?_
        refine lv_isub hx hb dX5_does_49 ?_
        refine lv_iload_n hx hb dX5_does_50 rfl (lv_at hl 1 rfl) ?_
        obtain ⟨hi_51, h⟩ := oin_of h
        refine k_iast S hK hP (hAd _) hS mr4 mr4_s hi_51 dX5_does_51 (fun H locs hP hS => ?_)
        refine lv_goto (tgt := 120) hx hb dX5_does_52 (by decide) ?_
        refine lv_iconst (v := (1 : Int32)) hx hb dX5_does_120 (by decide) ?_
        obtain ⟨rfl, rfl⟩ := some_pair h
        exact k_zret S hr hlocks hP hS rfl (Or.inr rfl) dX5_does_121
      · replace h := ite_t c_38 h
        refine lv_iconst (v := (0 : Int32)) hx hb dX5_does_41 (by decide) ?_
        obtain ⟨rfl, rfl⟩ := some_pair h
        exact k_zret S hr hlocks hP hS rfl (Or.inl rfl) dX5_does_42
  · replace h := ite_f c_2 h
    refine lv_aload_n hx hb dX5_does_5 rfl (lv_at hl 0 rfl) ?_
    refine lv_iload_n hx hb dX5_does_6 rfl (lv_at hl 2 rfl) ?_
    obtain ⟨r_7, e_7, h⟩ := ob1_of h
    refine k_goI (k_runV (As := [.int x2]) (rest := []) S hK hP (k_X5_isSwearer l hAd e_7) cy_X5_isSwearer wd_780 rfl mO rfl hl.1 rfl (Nat.le_of_ble_eq_true rfl) dX5_does_7 ⟨Nat.le_of_ble_eq_true rfl, Nat.le_of_ble_eq_true rfl⟩ ⟨Nat.zero_le _, Nat.zero_le _⟩) hS (fun _ h => h) (fun H locs hP hS _ _ => ?_)
    refine lv_if_ne (tgt := 15) hx hb dX5_does_10 (by decide) (fun c_10 => ?_) (fun c_10 => ?_)
    · replace h := ite_f c_10 h
      refine lv_aload_n hx hb dX5_does_15 rfl (lv_at hl 0 rfl) ?_
      refine gt_X5_29 S hK hP dX5_does_16 ?_
      refine lv_iload_n hx hb dX5_does_19 rfl (lv_at hl 2 rfl) ?_
      refine lv_iload_n hx hb dX5_does_20 rfl (lv_at hl 1 rfl) ?_
      obtain ⟨hi_21, h⟩ := oin_of h
      refine k_iast S hK hP (hAd _) hS mr6 mr6_s hi_21 dX5_does_21 (fun H locs hP hS => ?_)
      refine lv_goto (tgt := 120) hx hb dX5_does_22 (by decide) ?_
      refine lv_iconst (v := (1 : Int32)) hx hb dX5_does_120 (by decide) ?_
      obtain ⟨rfl, rfl⟩ := some_pair h
      exact k_zret S hr hlocks hP hS rfl (Or.inr rfl) dX5_does_121
    · replace h := ite_t c_10 h
      refine lv_iconst (v := (0 : Int32)) hx hb dX5_does_13 (by decide) ?_
      obtain ⟨rfl, rfl⟩ := some_pair h
      exact k_zret S hr hlocks hP hS rfl (Or.inl rfl) dX5_does_14
def f_X5_goCase_L2 : Nat → SX → Int32 → Int32 → Int32 → Option (Int32 × SX)
  | 0, _, _, _, _ => none
  | n + 1, σ, y1, y2, y3 => if y2 ≤ y3 then (some ((-9 : Int32), σ)) else (oin (y1 + ((2 : Int32) * y3)) 240 (oin ((y1 + ((2 : Int32) * y3)) + (1 : Int32)) 240 (ob2 (f_X5_does σ (gR σ 3 (y1 + ((2 : Int32) * y3)).toNatClampNeg) (gR σ 3 ((y1 + ((2 : Int32) * y3)) + (1 : Int32)).toNatClampNeg)) (fun r_30 s_30 => if r_30 = 0 then (some (y3, s_30)) else (f_X5_goCase_L2 n s_30 y1 y2 (y3 + (1 : Int32)))))))
def f_X5_goCase (σ : SX) (x1 : Int32) (x2 : Int32) : Option (Int32 × SX) := f_X5_goCase_L2 100 σ x1 x2 (0 : Int32)
set_option maxRecDepth 100000 in
set_option maxHeartbeats 4000000 in
theorem k_X5_goCase (l : Launch) {D : va_G} {A : Nat → Prop} {cI cZ cS : ClassId} {am : Nat → Nat} (hAd : ∀ σ, va_D A (WM cI am σ)) {σ : SX} {x1 : Int32} {x2 : Int32} {σ' : SX} {r : Int32} (h : f_X5_goCase σ x1 x2 = some (r, σ')) : Ct (QI D A r (WM cI am (σ'))) l yX5_goCase cX5_goCase 4 (some .int) 2 44 D (tyS cI cZ cS) A [.ref (am 0), .int x1, .int x2] (WM cI am σ) := by
  refine Ct.of (by decide +kernel) (Nat.le_of_ble_eq_true rfl) ?_
  intro p e s m below meth c ls S hK hr hlocks hP hS hl
  have hx := S.1
  have hb := S.2.1
  have hl : lv_has ls 4 [(0, .ref (am 0)), (1, .int x1), (2, .int x2)] := hl
  have loop2 : ∀ (n : Nat) (σ : SX) (y1 : Int32) (y2 : Int32) (y3 : Int32) (H : Heap) (locs : List Loc) (ls : Array Slot), f_X5_goCase_L2 n σ y1 y2 y3 = some (r, σ') → va_P D vwCl (WM cI am σ) H → va_S A s.heap H locs → lv_has ls 4 [(0, .ref (am 0)), (1, .int y1), (2, .int y2), (3, .int y3)] → W p l e (rmO 2 44) s m [.ref (am 0), .int x1, .int x2].toArray below meth c H locs 0 0 (MQ below (QI D A r (WM cI am (σ'))) [.ref (am 0), .int x1, .int x2].toArray s 0 0 A) (F0 m 2 ls []) := by
    intro n
    induction n with
    | zero => intro σ y1 y2 y3 H locs ls h; cases h
    | succ n ih =>
      intro σ y1 y2 y3 H locs ls h hP hS hl
      rw [f_X5_goCase_L2] at h
      refine lv_iload_n hx hb dX5_goCase_2 rfl (lv_at hl 3 rfl) ?_
      refine lv_iload_n hx hb dX5_goCase_3 rfl (lv_at hl 2 rfl) ?_
      refine lv_icmp_ge (tgt := 44) hx hb dX5_goCase_4 (by decide) (fun c_4 => ?_) (fun c_4 => ?_)
      · replace h := ite_t c_4 h
        refine lv_bipush (v := (-9 : Int32)) hx hb dX5_goCase_44 (by decide) ?_
        obtain ⟨rfl, rfl⟩ := some_pair h
        exact k_iret S hr hlocks hP hS rfl dX5_goCase_46
      · replace h := ite_f c_4 h
        refine lv_aload_n hx hb dX5_goCase_7 rfl (lv_at hl 0 rfl) ?_
        refine lv_aload_n hx hb dX5_goCase_8 rfl (lv_at hl 0 rfl) ?_
        refine gt_X5_16 S hK hP dX5_goCase_9 ?_
        refine lv_iload_n hx hb dX5_goCase_12 rfl (lv_at hl 1 rfl) ?_
        refine lv_iconst (v := (2 : Int32)) hx hb dX5_goCase_13 (by decide) ?_
        refine lv_iload_n hx hb dX5_goCase_14 rfl (lv_at hl 3 rfl) ?_
        refine lv_imul hx hb dX5_goCase_15 ?_
        refine lv_iadd hx hb dX5_goCase_16 ?_
        obtain ⟨hi_17, h⟩ := oin_of h
        refine k_iald S hK hP mr3 hi_17 dX5_goCase_17 ?_
        refine lv_aload_n hx hb dX5_goCase_18 rfl (lv_at hl 0 rfl) ?_
        refine gt_X5_16 S hK hP dX5_goCase_19 ?_
        refine lv_iload_n hx hb dX5_goCase_22 rfl (lv_at hl 1 rfl) ?_
        refine lv_iconst (v := (2 : Int32)) hx hb dX5_goCase_23 (by decide) ?_
        refine lv_iload_n hx hb dX5_goCase_24 rfl (lv_at hl 3 rfl) ?_
        refine lv_imul hx hb dX5_goCase_25 ?_
        refine lv_iadd hx hb dX5_goCase_26 ?_
        refine lv_iconst (v := (1 : Int32)) hx hb dX5_goCase_27 (by decide) ?_
        refine lv_iadd hx hb dX5_goCase_28 ?_
        obtain ⟨hi_29, h⟩ := oin_of h
        refine k_iald S hK hP mr3 hi_29 dX5_goCase_29 ?_
        obtain ⟨r_30, s_30, e_30, h⟩ := ob2_of h
        refine k_goI (k_runV (As := [.int (gR σ 3 (y1 + ((2 : Int32) * y3)).toNatClampNeg), .int (gR σ 3 ((y1 + ((2 : Int32) * y3)) + (1 : Int32)).toNatClampNeg)]) (rest := []) S hK hP (k_X5_does l hAd e_30) cy_X5_does wd_878 rfl mO rfl hl.1 rfl (Nat.le_of_ble_eq_true rfl) dX5_goCase_30 ⟨Nat.le_of_ble_eq_true rfl, Nat.le_of_ble_eq_true rfl⟩ ⟨Nat.zero_le _, Nat.zero_le _⟩) hS (fun _ h => h) (fun H locs hP hS _ _ => ?_)
        refine lv_if_ne (tgt := 38) hx hb dX5_goCase_33 (by decide) (fun c_33 => ?_) (fun c_33 => ?_)
        · replace h := ite_f c_33 h
          refine lv_iinc (v := y3 + (1 : Int32)) (lv' := [(3, .int (y3 + (1 : Int32))), (0, .ref (am 0)), (1, .int y1), (2, .int y2)]) hx hb dX5_goCase_38 hl (k := 3) rfl rfl (by decide) rfl (fun ls hl => ?_)
          refine lv_goto (tgt := 2) hx hb dX5_goCase_41 (by decide) ?_
          exact ih s_30 y1 y2 (y3 + (1 : Int32)) _ _ _ h hP hS (lv_sub hl [1, 2, 3, 0] rfl)
        · replace h := ite_t c_33 h
          refine lv_iload_n hx hb dX5_goCase_36 rfl (lv_at hl 3 rfl) ?_
          obtain ⟨rfl, rfl⟩ := some_pair h
          exact k_iret S hr hlocks hP hS rfl dX5_goCase_37
  rw [f_X5_goCase] at h
  refine lv_iconst (v := (0 : Int32)) hx hb dX5_goCase_0 (by decide) ?_
  refine lv_istore_n (lv' := [(3, .int (0 : Int32)), (0, .ref (am 0)), (1, .int x1), (2, .int x2)]) hx hb dX5_goCase_1 rfl hl (by decide) rfl (fun ls hl => ?_)
  exact loop2 100 σ x1 x2 (0 : Int32) _ _ _ h hP hS (lv_sub hl [1, 2, 3, 0] rfl)
def f_X5_boundBy_L5 (σ : SX) : Nat → Int32 → Int32 → Int32 → Int32 → Option Int32
  | 0, _, _, _, _ => none
  | n + 1, y1, y2, y3, y4 => if (gF σ 0 7) ≤ y4 then (some y3) else (ob1 (f_X5_isOf y2 y4) (fun r_18 => if r_18 = 0 then (f_X5_boundBy_L5 σ n y1 y2 (y3 ||| (0 : Int32)) (y4 + (1 : Int32))) else (oin y4 6 (ob1 (f_X5_isOf y1 (gR σ 7 y4.toNatClampNeg)) (fun r_32 => if r_32 = 0 then (f_X5_boundBy_L5 σ n y1 y2 (y3 ||| (0 : Int32)) (y4 + (1 : Int32))) else (oin y4 6 (f_X5_boundBy_L5 σ n y1 y2 (y3 ||| ((1 : Int32) <<< ((gR σ 8 y4.toNatClampNeg) &&& 31))) (y4 + (1 : Int32)))))))))
def f_X5_boundBy (σ : SX) (x1 : Int32) (x2 : Int32) : Option Int32 := f_X5_boundBy_L5 σ 100 x1 x2 (0 : Int32) (0 : Int32)
set_option maxRecDepth 100000 in
set_option maxHeartbeats 4000000 in
theorem k_X5_boundBy (l : Launch) {D : va_G} {A : Nat → Prop} {cI cZ cS : ClassId} {am : Nat → Nat} (hAd : ∀ σ, va_D A (WM cI am σ)) {σ : SX} {x1 : Int32} {x2 : Int32} {r : Int32} (h : f_X5_boundBy σ x1 x2 = some r) : Ct (QI D A r (WM cI am σ)) l yX5_boundBy cX5_boundBy 5 (some .int) 1 21 D (tyS cI cZ cS) A [.ref (am 0), .int x1, .int x2] (WM cI am σ) := by
  refine Ct.of (by decide +kernel) (Nat.le_of_ble_eq_true rfl) ?_
  intro p e s m below meth c ls S hK hr hlocks hP hS hl
  have hx := S.1
  have hb := S.2.1
  have hl : lv_has ls 5 [(0, .ref (am 0)), (1, .int x1), (2, .int x2)] := hl
  have loop5 : ∀ (n : Nat) (y1 : Int32) (y2 : Int32) (y3 : Int32) (y4 : Int32) (H : Heap) (locs : List Loc) (ls : Array Slot), f_X5_boundBy_L5 σ n y1 y2 y3 y4 = some r → va_P D vwCl (WM cI am σ) H → va_S A s.heap H locs → lv_has ls 5 [(0, .ref (am 0)), (1, .int y1), (2, .int y2), (3, .int y3), (4, .int y4)] → W p l e (rmO 1 21) s m [.ref (am 0), .int x1, .int x2].toArray below meth c H locs 0 0 (MQ below (QI D A r (WM cI am σ)) [.ref (am 0), .int x1, .int x2].toArray s 0 0 A) (F0 m 5 ls []) := by
    intro n
    induction n with
    | zero => intro y1 y2 y3 y4 H locs ls h; cases h
    | succ n ih =>
      intro y1 y2 y3 y4 H locs ls h hP hS hl
      rw [f_X5_boundBy_L5] at h
      refine lv_iload hx hb dX5_boundBy_5 (lv_at hl 4 rfl) ?_
      refine lv_aload_n hx hb dX5_boundBy_7 rfl (lv_at hl 0 rfl) ?_
      refine gt_X5_77 S hK hP dX5_boundBy_8 ?_
      refine lv_icmp_ge (tgt := 59) hx hb dX5_boundBy_11 (by decide) (fun c_11 => ?_) (fun c_11 => ?_)
      · replace h := ite_t c_11 h
        refine lv_iload_n hx hb dX5_boundBy_59 rfl (lv_at hl 3 rfl) ?_
        exact k_iret S hr hlocks hP hS (Option.some.inj h) dX5_boundBy_60
      · replace h := ite_f c_11 h
        refine lv_iload_n hx hb dX5_boundBy_14 rfl (lv_at hl 3 rfl) ?_
        refine lv_iload_n hx hb dX5_boundBy_15 rfl (lv_at hl 2 rfl) ?_
        refine lv_iload hx hb dX5_boundBy_16 (lv_at hl 4 rfl) ?_
        obtain ⟨r_18, e_18, h⟩ := ob1_of h
        refine k_goI (k_runS (As := [.int y2, .int y4]) (rest := [.int y3]) S hK hP (k_X5_isOf l  e_18) cy_X5_isOf wd_902 rfl hl.1 rfl (Nat.le_of_ble_eq_true rfl) dX5_boundBy_18 ⟨Nat.le_of_ble_eq_true rfl, Nat.le_of_ble_eq_true rfl⟩ ⟨Nat.zero_le _, Nat.zero_le _⟩) hS (fun _ h => h) (fun H locs hP hS _ _ => ?_)
        refine lv_if_eq (tgt := 50) hx hb dX5_boundBy_21 (by decide) (fun c_21 => ?_) (fun c_21 => ?_)
        · replace h := ite_t c_21 h
          refine lv_iconst (v := (0 : Int32)) hx hb dX5_boundBy_50 (by decide) ?_
          refine lv_ior hx hb dX5_boundBy_51 ?_
          refine lv_istore_n (lv' := [(3, .int (y3 ||| (0 : Int32))), (0, .ref (am 0)), (1, .int y1), (2, .int y2), (4, .int y4)]) hx hb dX5_boundBy_52 rfl hl (by decide) rfl (fun ls hl => ?_)
          refine lv_iinc (v := y4 + (1 : Int32)) (lv' := [(4, .int (y4 + (1 : Int32))), (3, .int (y3 ||| (0 : Int32))), (0, .ref (am 0)), (1, .int y1), (2, .int y2)]) hx hb dX5_boundBy_53 hl (k := 4) rfl rfl (by decide) rfl (fun ls hl => ?_)
          refine lv_goto (tgt := 5) hx hb dX5_boundBy_56 (by decide) ?_
          exact ih y1 y2 (y3 ||| (0 : Int32)) (y4 + (1 : Int32)) _ _ _ h hP hS (lv_sub hl [2, 3, 4, 1, 0] rfl)
        · replace h := ite_f c_21 h
          refine lv_iload_n hx hb dX5_boundBy_24 rfl (lv_at hl 1 rfl) ?_
          refine lv_aload_n hx hb dX5_boundBy_25 rfl (lv_at hl 0 rfl) ?_
          refine gt_X5_32 S hK hP dX5_boundBy_26 ?_
          refine lv_iload hx hb dX5_boundBy_29 (lv_at hl 4 rfl) ?_
          obtain ⟨hi_31, h⟩ := oin_of h
          refine k_iald S hK hP mr7 hi_31 dX5_boundBy_31 ?_
          obtain ⟨r_32, e_32, h⟩ := ob1_of h
          refine k_goI (k_runS (As := [.int y1, .int (gR σ 7 y4.toNatClampNeg)]) (rest := [.int y3]) S hK hP (k_X5_isOf l  e_32) cy_X5_isOf wd_902 rfl hl.1 rfl (Nat.le_of_ble_eq_true rfl) dX5_boundBy_32 ⟨Nat.le_of_ble_eq_true rfl, Nat.le_of_ble_eq_true rfl⟩ ⟨Nat.zero_le _, Nat.zero_le _⟩) hS (fun _ h => h) (fun H locs hP hS _ _ => ?_)
          refine lv_if_eq (tgt := 50) hx hb dX5_boundBy_35 (by decide) (fun c_35 => ?_) (fun c_35 => ?_)
          · replace h := ite_t c_35 h
            refine lv_iconst (v := (0 : Int32)) hx hb dX5_boundBy_50 (by decide) ?_
            refine lv_ior hx hb dX5_boundBy_51 ?_
            refine lv_istore_n (lv' := [(3, .int (y3 ||| (0 : Int32))), (0, .ref (am 0)), (1, .int y1), (2, .int y2), (4, .int y4)]) hx hb dX5_boundBy_52 rfl hl (by decide) rfl (fun ls hl => ?_)
            refine lv_iinc (v := y4 + (1 : Int32)) (lv' := [(4, .int (y4 + (1 : Int32))), (3, .int (y3 ||| (0 : Int32))), (0, .ref (am 0)), (1, .int y1), (2, .int y2)]) hx hb dX5_boundBy_53 hl (k := 4) rfl rfl (by decide) rfl (fun ls hl => ?_)
            refine lv_goto (tgt := 5) hx hb dX5_boundBy_56 (by decide) ?_
            exact ih y1 y2 (y3 ||| (0 : Int32)) (y4 + (1 : Int32)) _ _ _ h hP hS (lv_sub hl [2, 3, 4, 1, 0] rfl)
          · replace h := ite_f c_35 h
            refine lv_iconst (v := (1 : Int32)) hx hb dX5_boundBy_38 (by decide) ?_
            refine lv_aload_n hx hb dX5_boundBy_39 rfl (lv_at hl 0 rfl) ?_
            refine gt_X5_35 S hK hP dX5_boundBy_40 ?_
            refine lv_iload hx hb dX5_boundBy_43 (lv_at hl 4 rfl) ?_
            obtain ⟨hi_45, h⟩ := oin_of h
            refine k_iald S hK hP mr8 hi_45 dX5_boundBy_45 ?_
            refine lv_ishl hx hb dX5_boundBy_46 ?_
            refine lv_goto (tgt := 51) hx hb dX5_boundBy_47 (by decide) ?_
            refine lv_ior hx hb dX5_boundBy_51 ?_
            refine lv_istore_n (lv' := [(3, .int (y3 ||| ((1 : Int32) <<< ((gR σ 8 y4.toNatClampNeg) &&& 31)))), (0, .ref (am 0)), (1, .int y1), (2, .int y2), (4, .int y4)]) hx hb dX5_boundBy_52 rfl hl (by decide) rfl (fun ls hl => ?_)
            refine lv_iinc (v := y4 + (1 : Int32)) (lv' := [(4, .int (y4 + (1 : Int32))), (3, .int (y3 ||| ((1 : Int32) <<< ((gR σ 8 y4.toNatClampNeg) &&& 31)))), (0, .ref (am 0)), (1, .int y1), (2, .int y2)]) hx hb dX5_boundBy_53 hl (k := 4) rfl rfl (by decide) rfl (fun ls hl => ?_)
            refine lv_goto (tgt := 5) hx hb dX5_boundBy_56 (by decide) ?_
            exact ih y1 y2 (y3 ||| ((1 : Int32) <<< ((gR σ 8 y4.toNatClampNeg) &&& 31))) (y4 + (1 : Int32)) _ _ _ h hP hS (lv_sub hl [2, 3, 4, 1, 0] rfl)
  rw [f_X5_boundBy] at h
  refine lv_iconst (v := (0 : Int32)) hx hb dX5_boundBy_0 (by decide) ?_
  refine lv_istore_n (lv' := [(3, .int (0 : Int32)), (0, .ref (am 0)), (1, .int x1), (2, .int x2)]) hx hb dX5_boundBy_1 rfl hl (by decide) rfl (fun ls hl => ?_)
  refine lv_iconst (v := (0 : Int32)) hx hb dX5_boundBy_2 (by decide) ?_
  refine lv_istore (lv' := [(4, .int (0 : Int32)), (3, .int (0 : Int32)), (0, .ref (am 0)), (1, .int x1), (2, .int x2)]) hx hb dX5_boundBy_3 hl (by decide) rfl (fun ls hl => ?_)
  exact loop5 100 x1 x2 (0 : Int32) (0 : Int32) _ _ _ h hP hS (lv_sub hl [2, 3, 4, 1, 0] rfl)
def f_X5_boundOf_L11 (σ : SX) : Nat → Int32 → Int32 → Int32 → Int32 → Int32 → Int32 → Option Int32
  | 0, _, _, _, _, _, _ => none
  | n + 1, y1, y2, y3, y4, y5, y6 => if (4 : Int32) < y6 then (some (-9 : Int32)) else (ob1 (f_X5_boundBy σ y5 y3) (fun r_21 => ob1 (f_X5_isOf (y4 ||| r_21) y2) (fun r_36 => if r_36 = 0 then (f_X5_boundOf_L11 σ n y1 y2 y3 (y4 ||| r_21) r_21 (y6 + (1 : Int32))) else (some y6))))
def f_X5_boundOf (σ : SX) (x1 : Int32) (x2 : Int32) (x3 : Int32) : Option Int32 := f_X5_boundOf_L11 σ 100 x1 x2 x3 (0 : Int32) ((1 : Int32) <<< (x1 &&& 31)) (1 : Int32)
set_option maxRecDepth 100000 in
set_option maxHeartbeats 4000000 in
theorem k_X5_boundOf (l : Launch) {D : va_G} {A : Nat → Prop} {cI cZ cS : ClassId} {am : Nat → Nat} (hAd : ∀ σ, va_D A (WM cI am σ)) {σ : SX} {x1 : Int32} {x2 : Int32} {x3 : Int32} {r : Int32} (h : f_X5_boundOf σ x1 x2 x3 = some r) : Ct (QI D A r (WM cI am σ)) l yX5_boundOf cX5_boundOf 7 (some .int) 2 45 D (tyS cI cZ cS) A [.ref (am 0), .int x1, .int x2, .int x3] (WM cI am σ) := by
  refine Ct.of (by decide +kernel) (Nat.le_of_ble_eq_true rfl) ?_
  intro p e s m below meth c ls S hK hr hlocks hP hS hl
  have hx := S.1
  have hb := S.2.1
  have hl : lv_has ls 7 [(0, .ref (am 0)), (1, .int x1), (2, .int x2), (3, .int x3)] := hl
  have loop11 : ∀ (n : Nat) (y1 : Int32) (y2 : Int32) (y3 : Int32) (y4 : Int32) (y5 : Int32) (y6 : Int32) (H : Heap) (locs : List Loc) (ls : Array Slot), f_X5_boundOf_L11 σ n y1 y2 y3 y4 y5 y6 = some r → va_P D vwCl (WM cI am σ) H → va_S A s.heap H locs → lv_has ls 7 [(0, .ref (am 0)), (1, .int y1), (2, .int y2), (3, .int y3), (4, .int y4), (5, .int y5), (6, .int y6)] → W p l e (rmO 2 45) s m [.ref (am 0), .int x1, .int x2, .int x3].toArray below meth c H locs 0 0 (MQ below (QI D A r (WM cI am σ)) [.ref (am 0), .int x1, .int x2, .int x3].toArray s 0 0 A) (F0 m 11 ls []) := by
    intro n
    induction n with
    | zero => intro y1 y2 y3 y4 y5 y6 H locs ls h; cases h
    | succ n ih =>
      intro y1 y2 y3 y4 y5 y6 H locs ls h hP hS hl
      rw [f_X5_boundOf_L11] at h
      refine lv_iload hx hb dX5_boundOf_11 (lv_at hl 6 rfl) ?_
      refine lv_iconst (v := (4 : Int32)) hx hb dX5_boundOf_13 (by decide) ?_
      refine lv_icmp_gt (tgt := 51) hx hb dX5_boundOf_14 (by decide) (fun c_14 => ?_) (fun c_14 => ?_)
      · replace h := ite_t c_14 h
        refine lv_bipush (v := (-9 : Int32)) hx hb dX5_boundOf_51 (by decide) ?_
        exact k_iret S hr hlocks hP hS (Option.some.inj h) dX5_boundOf_53
      · replace h := ite_f c_14 h
        refine lv_aload_n hx hb dX5_boundOf_17 rfl (lv_at hl 0 rfl) ?_
        refine lv_iload hx hb dX5_boundOf_18 (lv_at hl 5 rfl) ?_
        refine lv_iload_n hx hb dX5_boundOf_20 rfl (lv_at hl 3 rfl) ?_
        obtain ⟨r_21, e_21, h⟩ := ob1_of h
        refine k_goI (k_runV (As := [.int y5, .int y3]) (rest := []) S hK hP (k_X5_boundBy l hAd e_21) cy_X5_boundBy wd_898 rfl mO rfl hl.1 rfl (Nat.le_of_ble_eq_true rfl) dX5_boundOf_21 ⟨Nat.le_of_ble_eq_true rfl, Nat.le_of_ble_eq_true rfl⟩ ⟨Nat.zero_le _, Nat.zero_le _⟩) hS (fun _ h => h) (fun H locs hP hS _ _ => ?_)
        refine lv_istore (lv' := [(5, .int r_21), (0, .ref (am 0)), (1, .int y1), (2, .int y2), (3, .int y3), (4, .int y4), (6, .int y6)]) hx hb dX5_boundOf_24 hl (by decide) rfl (fun ls hl => ?_)
        refine lv_iload hx hb dX5_boundOf_26 (lv_at hl 5 rfl) ?_
        refine lv_iload hx hb dX5_boundOf_28 (lv_at hl 0 rfl) ?_
        refine lv_ior hx hb dX5_boundOf_30 ?_
        refine lv_istore (lv' := [(4, .int (y4 ||| r_21)), (5, .int r_21), (0, .ref (am 0)), (1, .int y1), (2, .int y2), (3, .int y3), (6, .int y6)]) hx hb dX5_boundOf_31 hl (by decide) rfl (fun ls hl => ?_)
        refine lv_iload hx hb dX5_boundOf_33 (lv_at hl 0 rfl) ?_
        refine lv_iload_n hx hb dX5_boundOf_35 rfl (lv_at hl 4 rfl) ?_
        obtain ⟨r_36, e_36, h⟩ := ob1_of h
        refine k_goI (k_runS (As := [.int (y4 ||| r_21), .int y2]) (rest := []) S hK hP (k_X5_isOf l  e_36) cy_X5_isOf wd_902 rfl hl.1 rfl (Nat.le_of_ble_eq_true rfl) dX5_boundOf_36 ⟨Nat.le_of_ble_eq_true rfl, Nat.le_of_ble_eq_true rfl⟩ ⟨Nat.zero_le _, Nat.zero_le _⟩) hS (fun _ h => h) (fun H locs hP hS _ _ => ?_)
        refine lv_if_eq (tgt := 45) hx hb dX5_boundOf_39 (by decide) (fun c_39 => ?_) (fun c_39 => ?_)
        · replace h := ite_t c_39 h
          refine lv_iinc (v := y6 + (1 : Int32)) (lv' := [(6, .int (y6 + (1 : Int32))), (4, .int (y4 ||| r_21)), (5, .int r_21), (0, .ref (am 0)), (1, .int y1), (2, .int y2), (3, .int y3)]) hx hb dX5_boundOf_45 hl (k := 6) rfl rfl (by decide) rfl (fun ls hl => ?_)
          refine lv_goto (tgt := 11) hx hb dX5_boundOf_48 (by decide) ?_
          exact ih y1 y2 y3 (y4 ||| r_21) r_21 (y6 + (1 : Int32)) _ _ _ h hP hS (lv_sub hl [3, 4, 5, 6, 1, 2, 0] rfl)
        · replace h := ite_f c_39 h
          refine lv_iload hx hb dX5_boundOf_42 (lv_at hl 6 rfl) ?_
          exact k_iret S hr hlocks hP hS (Option.some.inj h) dX5_boundOf_44
  rw [f_X5_boundOf] at h
  refine lv_iconst (v := (0 : Int32)) hx hb dX5_boundOf_0 (by decide) ?_
  refine lv_istore (lv' := [(4, .int (0 : Int32)), (0, .ref (am 0)), (1, .int x1), (2, .int x2), (3, .int x3)]) hx hb dX5_boundOf_1 hl (by decide) rfl (fun ls hl => ?_)
  refine lv_iconst (v := (1 : Int32)) hx hb dX5_boundOf_3 (by decide) ?_
  refine lv_iload_n hx hb dX5_boundOf_4 rfl (lv_at hl 2 rfl) ?_
  refine lv_ishl hx hb dX5_boundOf_5 ?_
  refine lv_istore (lv' := [(5, .int ((1 : Int32) <<< (x1 &&& 31))), (4, .int (0 : Int32)), (0, .ref (am 0)), (1, .int x1), (2, .int x2), (3, .int x3)]) hx hb dX5_boundOf_6 hl (by decide) rfl (fun ls hl => ?_)
  refine lv_iconst (v := (1 : Int32)) hx hb dX5_boundOf_8 (by decide) ?_
  refine lv_istore (lv' := [(6, .int (1 : Int32)), (5, .int ((1 : Int32) <<< (x1 &&& 31))), (4, .int (0 : Int32)), (0, .ref (am 0)), (1, .int x1), (2, .int x2), (3, .int x3)]) hx hb dX5_boundOf_9 hl (by decide) rfl (fun ls hl => ?_)
  exact loop11 100 x1 x2 x3 (0 : Int32) ((1 : Int32) <<< (x1 &&& 31)) (1 : Int32) _ _ _ h hP hS (lv_sub hl [3, 4, 5, 6, 2, 1, 0] rfl)
def f_X5_anyRound_L2 (σ : SX) : Nat → Int32 → Int32 → Option Int32
  | 0, _, _ => none
  | n + 1, y1, y2 => if (gF σ 0 6) ≤ y2 then (some (0 : Int32)) else (ob1 (f_X5_boundOf σ y2 y2 y1) (fun r_14 => if r_14 = (-9 : Int32) then (f_X5_anyRound_L2 σ n y1 (y2 + (1 : Int32))) else (some (1 : Int32))))
def f_X5_anyRound (σ : SX) (x1 : Int32) : Option Int32 := f_X5_anyRound_L2 σ 100 x1 (0 : Int32)
set_option maxRecDepth 100000 in
set_option maxHeartbeats 4000000 in
theorem k_X5_anyRound (l : Launch) {D : va_G} {A : Nat → Prop} {cI cZ cS : ClassId} {am : Nat → Nat} (hAd : ∀ σ, va_D A (WM cI am σ)) {σ : SX} {x1 : Int32} {r : Int32} (h : f_X5_anyRound σ x1 = some r) : Ct (QI D A r (WM cI am σ)) l yX5_anyRound cX5_anyRound 3 (some .boolean) 3 71 D (tyS cI cZ cS) A [.ref (am 0), .int x1] (WM cI am σ) := by
  refine Ct.of (by decide +kernel) (Nat.le_of_ble_eq_true rfl) ?_
  intro p e s m below meth c ls S hK hr hlocks hP hS hl
  have hx := S.1
  have hb := S.2.1
  have hl : lv_has ls 3 [(0, .ref (am 0)), (1, .int x1)] := hl
  have loop2 : ∀ (n : Nat) (y1 : Int32) (y2 : Int32) (H : Heap) (locs : List Loc) (ls : Array Slot), f_X5_anyRound_L2 σ n y1 y2 = some r → va_P D vwCl (WM cI am σ) H → va_S A s.heap H locs → lv_has ls 3 [(0, .ref (am 0)), (1, .int y1), (2, .int y2)] → W p l e (rmO 3 71) s m [.ref (am 0), .int x1].toArray below meth c H locs 0 0 (MQ below (QI D A r (WM cI am σ)) [.ref (am 0), .int x1].toArray s 0 0 A) (F0 m 2 ls []) := by
    intro n
    induction n with
    | zero => intro y1 y2 H locs ls h; cases h
    | succ n ih =>
      intro y1 y2 H locs ls h hP hS hl
      rw [f_X5_anyRound_L2] at h
      refine lv_iload_n hx hb dX5_anyRound_2 rfl (lv_at hl 2 rfl) ?_
      refine lv_aload_n hx hb dX5_anyRound_3 rfl (lv_at hl 0 rfl) ?_
      refine gt_X5_74 S hK hP dX5_anyRound_4 ?_
      refine lv_icmp_ge (tgt := 30) hx hb dX5_anyRound_7 (by decide) (fun c_7 => ?_) (fun c_7 => ?_)
      · replace h := ite_t c_7 h
        refine lv_iconst (v := (0 : Int32)) hx hb dX5_anyRound_30 (by decide) ?_
        exact k_zret S hr hlocks hP hS (Option.some.inj h) (Or.inl rfl) dX5_anyRound_31
      · replace h := ite_f c_7 h
        refine lv_aload_n hx hb dX5_anyRound_10 rfl (lv_at hl 0 rfl) ?_
        refine lv_iload_n hx hb dX5_anyRound_11 rfl (lv_at hl 2 rfl) ?_
        refine lv_iload_n hx hb dX5_anyRound_12 rfl (lv_at hl 2 rfl) ?_
        refine lv_iload_n hx hb dX5_anyRound_13 rfl (lv_at hl 1 rfl) ?_
        obtain ⟨r_14, e_14, h⟩ := ob1_of h
        refine k_goI (k_runV (As := [.int y2, .int y2, .int y1]) (rest := []) S hK hP (k_X5_boundOf l hAd e_14) cy_X5_boundOf wd_894 rfl mO rfl hl.1 rfl (Nat.le_of_ble_eq_true rfl) dX5_anyRound_14 ⟨Nat.le_of_ble_eq_true rfl, Nat.le_of_ble_eq_true rfl⟩ ⟨Nat.zero_le _, Nat.zero_le _⟩) hS (fun _ h => h) (fun H locs hP hS _ _ => ?_)
        refine lv_bipush (v := (-9 : Int32)) hx hb dX5_anyRound_17 (by decide) ?_
        refine lv_icmp_eq (tgt := 24) hx hb dX5_anyRound_19 (by decide) (fun c_19 => ?_) (fun c_19 => ?_)
        · replace h := ite_t c_19 h
          refine lv_iinc (v := y2 + (1 : Int32)) (lv' := [(2, .int (y2 + (1 : Int32))), (0, .ref (am 0)), (1, .int y1)]) hx hb dX5_anyRound_24 hl (k := 2) rfl rfl (by decide) rfl (fun ls hl => ?_)
          refine lv_goto (tgt := 2) hx hb dX5_anyRound_27 (by decide) ?_
          exact ih y1 (y2 + (1 : Int32)) _ _ _ h hP hS (lv_sub hl [1, 2, 0] rfl)
        · replace h := ite_f c_19 h
          refine lv_iconst (v := (1 : Int32)) hx hb dX5_anyRound_22 (by decide) ?_
          exact k_zret S hr hlocks hP hS (Option.some.inj h) (Or.inr rfl) dX5_anyRound_23
  rw [f_X5_anyRound] at h
  refine lv_iconst (v := (0 : Int32)) hx hb dX5_anyRound_0 (by decide) ?_
  refine lv_istore_n (lv' := [(2, .int (0 : Int32)), (0, .ref (am 0)), (1, .int x1)]) hx hb dX5_anyRound_1 rfl hl (by decide) rfl (fun ls hl => ?_)
  exact loop2 100 x1 (0 : Int32) _ _ _ h hP hS (lv_sub hl [1, 2, 0] rfl)
def f_X5_leastOfSize_L2 (σ : SX) : Nat → Int32 → Int32 → Int32 → Option Int32
  | 0, _, _, _ => none
  | n + 1, y1, y2, y3 => if ((1 : Int32) <<< ((gF σ 0 7) &&& 31)) ≤ y3 then (some y1) else (if (y3 &&& (y1 ^^^ (-1 : Int32))) = 0 then (ob1 (f_X5_size y3) (fun r_21 => if r_21 = y2 then (ob1 (f_X5_anyRound σ (y1 &&& (y3 ^^^ (-1 : Int32)))) (fun r_34 => if r_34 = 0 then (some y3) else (f_X5_leastOfSize_L2 σ n y1 y2 (y3 + (1 : Int32))))) else (f_X5_leastOfSize_L2 σ n y1 y2 (y3 + (1 : Int32))))) else (f_X5_leastOfSize_L2 σ n y1 y2 (y3 + (1 : Int32))))
def f_X5_leastOfSize (σ : SX) (x1 : Int32) (x2 : Int32) : Option Int32 := f_X5_leastOfSize_L2 σ 100 x1 x2 (0 : Int32)
set_option maxRecDepth 100000 in
set_option maxHeartbeats 4000000 in
theorem k_X5_leastOfSize (l : Launch) {D : va_G} {A : Nat → Prop} {cI cZ cS : ClassId} {am : Nat → Nat} (hAd : ∀ σ, va_D A (WM cI am σ)) {σ : SX} {x1 : Int32} {x2 : Int32} {r : Int32} (h : f_X5_leastOfSize σ x1 x2 = some r) : Ct (QI D A r (WM cI am σ)) l yX5_leastOfSize cX5_leastOfSize 4 (some .int) 4 93 D (tyS cI cZ cS) A [.ref (am 0), .int x1, .int x2] (WM cI am σ) := by
  refine Ct.of (by decide +kernel) (Nat.le_of_ble_eq_true rfl) ?_
  intro p e s m below meth c ls S hK hr hlocks hP hS hl
  have hx := S.1
  have hb := S.2.1
  have hl : lv_has ls 4 [(0, .ref (am 0)), (1, .int x1), (2, .int x2)] := hl
  have loop2 : ∀ (n : Nat) (y1 : Int32) (y2 : Int32) (y3 : Int32) (H : Heap) (locs : List Loc) (ls : Array Slot), f_X5_leastOfSize_L2 σ n y1 y2 y3 = some r → va_P D vwCl (WM cI am σ) H → va_S A s.heap H locs → lv_has ls 4 [(0, .ref (am 0)), (1, .int y1), (2, .int y2), (3, .int y3)] → W p l e (rmO 4 93) s m [.ref (am 0), .int x1, .int x2].toArray below meth c H locs 0 0 (MQ below (QI D A r (WM cI am σ)) [.ref (am 0), .int x1, .int x2].toArray s 0 0 A) (F0 m 2 ls []) := by
    intro n
    induction n with
    | zero => intro y1 y2 y3 H locs ls h; cases h
    | succ n ih =>
      intro y1 y2 y3 H locs ls h hP hS hl
      rw [f_X5_leastOfSize_L2] at h
      refine lv_iload_n hx hb dX5_leastOfSize_2 rfl (lv_at hl 3 rfl) ?_
      refine lv_iconst (v := (1 : Int32)) hx hb dX5_leastOfSize_3 (by decide) ?_
      refine lv_aload_n hx hb dX5_leastOfSize_4 rfl (lv_at hl 0 rfl) ?_
      refine gt_X5_77 S hK hP dX5_leastOfSize_5 ?_
      refine lv_ishl hx hb dX5_leastOfSize_8 ?_
      refine lv_icmp_ge (tgt := 48) hx hb dX5_leastOfSize_9 (by decide) (fun c_9 => ?_) (fun c_9 => ?_)
      · replace h := ite_t c_9 h
        refine lv_iload_n hx hb dX5_leastOfSize_48 rfl (lv_at hl 1 rfl) ?_
        exact k_iret S hr hlocks hP hS (Option.some.inj h) dX5_leastOfSize_49
      · replace h := ite_f c_9 h
        refine lv_iload_n hx hb dX5_leastOfSize_12 rfl (lv_at hl 3 rfl) ?_
        refine lv_iload_n hx hb dX5_leastOfSize_13 rfl (lv_at hl 1 rfl) ?_
        refine lv_iconst (v := (-1 : Int32)) hx hb dX5_leastOfSize_14 (by decide) ?_
        refine lv_ixor hx hb dX5_leastOfSize_15 ?_
        refine lv_iand hx hb dX5_leastOfSize_16 ?_
        refine lv_if_ne (tgt := 42) hx hb dX5_leastOfSize_17 (by decide) (fun c_17 => ?_) (fun c_17 => ?_)
        · replace h := ite_f c_17 h
          refine lv_iinc (v := y3 + (1 : Int32)) (lv' := [(3, .int (y3 + (1 : Int32))), (0, .ref (am 0)), (1, .int y1), (2, .int y2)]) hx hb dX5_leastOfSize_42 hl (k := 3) rfl rfl (by decide) rfl (fun ls hl => ?_)
          refine lv_goto (tgt := 2) hx hb dX5_leastOfSize_45 (by decide) ?_
          exact ih y1 y2 (y3 + (1 : Int32)) _ _ _ h hP hS (lv_sub hl [1, 2, 3, 0] rfl)
        · replace h := ite_t c_17 h
          refine lv_iload_n hx hb dX5_leastOfSize_20 rfl (lv_at hl 3 rfl) ?_
          obtain ⟨r_21, e_21, h⟩ := ob1_of h
          refine k_goI (k_runS (As := [.int y3]) (rest := []) S hK hP (k_X5_size l  e_21) cy_X5_size wd_860 rfl hl.1 rfl (Nat.le_of_ble_eq_true rfl) dX5_leastOfSize_21 ⟨Nat.le_of_ble_eq_true rfl, Nat.le_of_ble_eq_true rfl⟩ ⟨Nat.zero_le _, Nat.zero_le _⟩) hS (fun _ h => h) (fun H locs hP hS _ _ => ?_)
          refine lv_iload_n hx hb dX5_leastOfSize_24 rfl (lv_at hl 2 rfl) ?_
          refine lv_icmp_ne (tgt := 42) hx hb dX5_leastOfSize_25 (by decide) (fun c_25 => ?_) (fun c_25 => ?_)
          · replace h := ite_f c_25 h
            refine lv_iinc (v := y3 + (1 : Int32)) (lv' := [(3, .int (y3 + (1 : Int32))), (0, .ref (am 0)), (1, .int y1), (2, .int y2)]) hx hb dX5_leastOfSize_42 hl (k := 3) rfl rfl (by decide) rfl (fun ls hl => ?_)
            refine lv_goto (tgt := 2) hx hb dX5_leastOfSize_45 (by decide) ?_
            exact ih y1 y2 (y3 + (1 : Int32)) _ _ _ h hP hS (lv_sub hl [1, 2, 3, 0] rfl)
          · replace h := ite_t c_25 h
            refine lv_aload_n hx hb dX5_leastOfSize_28 rfl (lv_at hl 0 rfl) ?_
            refine lv_iload_n hx hb dX5_leastOfSize_29 rfl (lv_at hl 1 rfl) ?_
            refine lv_iload_n hx hb dX5_leastOfSize_30 rfl (lv_at hl 3 rfl) ?_
            refine lv_iconst (v := (-1 : Int32)) hx hb dX5_leastOfSize_31 (by decide) ?_
            refine lv_ixor hx hb dX5_leastOfSize_32 ?_
            refine lv_iand hx hb dX5_leastOfSize_33 ?_
            obtain ⟨r_34, e_34, h⟩ := ob1_of h
            refine k_goI (k_runV (As := [.int (y1 &&& (y3 ^^^ (-1 : Int32)))]) (rest := []) S hK hP (k_X5_anyRound l hAd e_34) cy_X5_anyRound wd_890 rfl mO rfl hl.1 rfl (Nat.le_of_ble_eq_true rfl) dX5_leastOfSize_34 ⟨Nat.le_of_ble_eq_true rfl, Nat.le_of_ble_eq_true rfl⟩ ⟨Nat.zero_le _, Nat.zero_le _⟩) hS (fun _ h => h) (fun H locs hP hS _ _ => ?_)
            refine lv_if_ne (tgt := 42) hx hb dX5_leastOfSize_37 (by decide) (fun c_37 => ?_) (fun c_37 => ?_)
            · replace h := ite_f c_37 h
              refine lv_iinc (v := y3 + (1 : Int32)) (lv' := [(3, .int (y3 + (1 : Int32))), (0, .ref (am 0)), (1, .int y1), (2, .int y2)]) hx hb dX5_leastOfSize_42 hl (k := 3) rfl rfl (by decide) rfl (fun ls hl => ?_)
              refine lv_goto (tgt := 2) hx hb dX5_leastOfSize_45 (by decide) ?_
              exact ih y1 y2 (y3 + (1 : Int32)) _ _ _ h hP hS (lv_sub hl [1, 2, 3, 0] rfl)
            · replace h := ite_t c_37 h
              refine lv_iload_n hx hb dX5_leastOfSize_40 rfl (lv_at hl 3 rfl) ?_
              exact k_iret S hr hlocks hP hS (Option.some.inj h) dX5_leastOfSize_41
  rw [f_X5_leastOfSize] at h
  refine lv_iconst (v := (0 : Int32)) hx hb dX5_leastOfSize_0 (by decide) ?_
  refine lv_istore_n (lv' := [(3, .int (0 : Int32)), (0, .ref (am 0)), (1, .int x1), (2, .int x2)]) hx hb dX5_leastOfSize_1 rfl hl (by decide) rfl (fun ls hl => ?_)
  exact loop2 100 x1 x2 (0 : Int32) _ _ _ h hP hS (lv_sub hl [1, 2, 3, 0] rfl)
def f_X5_leastLetGo_L9 (σ : SX) : Nat → Int32 → Int32 → Int32 → Option Int32
  | 0, _, _, _ => none
  | n + 1, y1, y2, y3 => if ((1 : Int32) <<< ((gF σ 0 7) &&& 31)) ≤ y3 then (ob1 (f_X5_size y2) (fun r_61 => ob1 (f_X5_leastOfSize σ y1 r_61) (fun r_64 => some r_64))) else (if (y3 &&& (y1 ^^^ (-1 : Int32))) = 0 then (ob1 (f_X5_size y3) (fun r_28 => ob1 (f_X5_size y2) (fun r_32 => if r_32 ≤ r_28 then (f_X5_leastLetGo_L9 σ n y1 y2 (y3 + (1 : Int32))) else (ob1 (f_X5_anyRound σ (y1 &&& (y3 ^^^ (-1 : Int32)))) (fun r_44 => if r_44 = 0 then (f_X5_leastLetGo_L9 σ n y1 y3 (y3 + (1 : Int32))) else (f_X5_leastLetGo_L9 σ n y1 y2 (y3 + (1 : Int32)))))))) else (f_X5_leastLetGo_L9 σ n y1 y2 (y3 + (1 : Int32))))
def f_X5_leastLetGo (σ : SX) : Option Int32 := ob1 (f_X5_whichBind σ) (fun r_1 => f_X5_leastLetGo_L9 σ 100 r_1 r_1 (0 : Int32))
set_option maxRecDepth 100000 in
set_option maxHeartbeats 4000000 in
theorem k_X5_leastLetGo (l : Launch) {D : va_G} {A : Nat → Prop} {cI cZ cS : ClassId} {am : Nat → Nat} (hAd : ∀ σ, va_D A (WM cI am σ)) {σ : SX} {r : Int32} (h : f_X5_leastLetGo σ = some r) : Ct (QI D A r (WM cI am σ)) l yX5_leastLetGo cX5_leastLetGo 4 (some .int) 5 116 D (tyS cI cZ cS) A [.ref (am 0)] (WM cI am σ) := by
  refine Ct.of (by decide +kernel) (Nat.le_of_ble_eq_true rfl) ?_
  intro p e s m below meth c ls S hK hr hlocks hP hS hl
  have hx := S.1
  have hb := S.2.1
  have hl : lv_has ls 4 [(0, .ref (am 0))] := hl
  have loop9 : ∀ (n : Nat) (y1 : Int32) (y2 : Int32) (y3 : Int32) (H : Heap) (locs : List Loc) (ls : Array Slot), f_X5_leastLetGo_L9 σ n y1 y2 y3 = some r → va_P D vwCl (WM cI am σ) H → va_S A s.heap H locs → lv_has ls 4 [(0, .ref (am 0)), (1, .int y1), (2, .int y2), (3, .int y3)] → W p l e (rmO 5 116) s m [.ref (am 0)].toArray below meth c H locs 0 0 (MQ below (QI D A r (WM cI am σ)) [.ref (am 0)].toArray s 0 0 A) (F0 m 9 ls []) := by
    intro n
    induction n with
    | zero => intro y1 y2 y3 H locs ls h; cases h
    | succ n ih =>
      intro y1 y2 y3 H locs ls h hP hS hl
      rw [f_X5_leastLetGo_L9] at h
      refine lv_iload_n hx hb dX5_leastLetGo_9 rfl (lv_at hl 3 rfl) ?_
      refine lv_iconst (v := (1 : Int32)) hx hb dX5_leastLetGo_10 (by decide) ?_
      refine lv_aload_n hx hb dX5_leastLetGo_11 rfl (lv_at hl 0 rfl) ?_
      refine gt_X5_77 S hK hP dX5_leastLetGo_12 ?_
      refine lv_ishl hx hb dX5_leastLetGo_15 ?_
      refine lv_icmp_ge (tgt := 58) hx hb dX5_leastLetGo_16 (by decide) (fun c_16 => ?_) (fun c_16 => ?_)
      · replace h := ite_t c_16 h
        refine lv_aload_n hx hb dX5_leastLetGo_58 rfl (lv_at hl 0 rfl) ?_
        refine lv_iload_n hx hb dX5_leastLetGo_59 rfl (lv_at hl 1 rfl) ?_
        refine lv_iload_n hx hb dX5_leastLetGo_60 rfl (lv_at hl 2 rfl) ?_
        obtain ⟨r_61, e_61, h⟩ := ob1_of h
        refine k_goI (k_runS (As := [.int y2]) (rest := [.int y1, .ref (am 0)]) S hK hP (k_X5_size l  e_61) cy_X5_size wd_860 rfl hl.1 rfl (Nat.le_of_ble_eq_true rfl) dX5_leastLetGo_61 ⟨Nat.le_of_ble_eq_true rfl, Nat.le_of_ble_eq_true rfl⟩ ⟨Nat.zero_le _, Nat.zero_le _⟩) hS (fun _ h => h) (fun H locs hP hS _ _ => ?_)
        obtain ⟨r_64, e_64, h⟩ := ob1_of h
        refine k_goI (k_runV (As := [.int y1, .int r_61]) (rest := []) S hK hP (k_X5_leastOfSize l hAd e_64) cy_X5_leastOfSize wd_905 rfl mO rfl hl.1 rfl (Nat.le_of_ble_eq_true rfl) dX5_leastLetGo_64 ⟨Nat.le_of_ble_eq_true rfl, Nat.le_of_ble_eq_true rfl⟩ ⟨Nat.zero_le _, Nat.zero_le _⟩) hS (fun _ h => h) (fun H locs hP hS _ _ => ?_)
        exact k_iret S hr hlocks hP hS (Option.some.inj h) dX5_leastLetGo_67
      · replace h := ite_f c_16 h
        refine lv_iload_n hx hb dX5_leastLetGo_19 rfl (lv_at hl 3 rfl) ?_
        refine lv_iload_n hx hb dX5_leastLetGo_20 rfl (lv_at hl 1 rfl) ?_
        refine lv_iconst (v := (-1 : Int32)) hx hb dX5_leastLetGo_21 (by decide) ?_
        refine lv_ixor hx hb dX5_leastLetGo_22 ?_
        refine lv_iand hx hb dX5_leastLetGo_23 ?_
        refine lv_if_ne (tgt := 52) hx hb dX5_leastLetGo_24 (by decide) (fun c_24 => ?_) (fun c_24 => ?_)
        · replace h := ite_f c_24 h
          refine lv_iinc (v := y3 + (1 : Int32)) (lv' := [(3, .int (y3 + (1 : Int32))), (0, .ref (am 0)), (1, .int y1), (2, .int y2)]) hx hb dX5_leastLetGo_52 hl (k := 3) rfl rfl (by decide) rfl (fun ls hl => ?_)
          refine lv_goto (tgt := 9) hx hb dX5_leastLetGo_55 (by decide) ?_
          exact ih y1 y2 (y3 + (1 : Int32)) _ _ _ h hP hS (lv_sub hl [1, 2, 3, 0] rfl)
        · replace h := ite_t c_24 h
          refine lv_iload_n hx hb dX5_leastLetGo_27 rfl (lv_at hl 3 rfl) ?_
          obtain ⟨r_28, e_28, h⟩ := ob1_of h
          refine k_goI (k_runS (As := [.int y3]) (rest := []) S hK hP (k_X5_size l  e_28) cy_X5_size wd_860 rfl hl.1 rfl (Nat.le_of_ble_eq_true rfl) dX5_leastLetGo_28 ⟨Nat.le_of_ble_eq_true rfl, Nat.le_of_ble_eq_true rfl⟩ ⟨Nat.zero_le _, Nat.zero_le _⟩) hS (fun _ h => h) (fun H locs hP hS _ _ => ?_)
          refine lv_iload_n hx hb dX5_leastLetGo_31 rfl (lv_at hl 2 rfl) ?_
          obtain ⟨r_32, e_32, h⟩ := ob1_of h
          refine k_goI (k_runS (As := [.int y2]) (rest := [.int r_28]) S hK hP (k_X5_size l  e_32) cy_X5_size wd_860 rfl hl.1 rfl (Nat.le_of_ble_eq_true rfl) dX5_leastLetGo_32 ⟨Nat.le_of_ble_eq_true rfl, Nat.le_of_ble_eq_true rfl⟩ ⟨Nat.zero_le _, Nat.zero_le _⟩) hS (fun _ h => h) (fun H locs hP hS _ _ => ?_)
          refine lv_icmp_ge (tgt := 52) hx hb dX5_leastLetGo_35 (by decide) (fun c_35 => ?_) (fun c_35 => ?_)
          · replace h := ite_t c_35 h
            refine lv_iinc (v := y3 + (1 : Int32)) (lv' := [(3, .int (y3 + (1 : Int32))), (0, .ref (am 0)), (1, .int y1), (2, .int y2)]) hx hb dX5_leastLetGo_52 hl (k := 3) rfl rfl (by decide) rfl (fun ls hl => ?_)
            refine lv_goto (tgt := 9) hx hb dX5_leastLetGo_55 (by decide) ?_
            exact ih y1 y2 (y3 + (1 : Int32)) _ _ _ h hP hS (lv_sub hl [1, 2, 3, 0] rfl)
          · replace h := ite_f c_35 h
            refine lv_aload_n hx hb dX5_leastLetGo_38 rfl (lv_at hl 0 rfl) ?_
            refine lv_iload_n hx hb dX5_leastLetGo_39 rfl (lv_at hl 1 rfl) ?_
            refine lv_iload_n hx hb dX5_leastLetGo_40 rfl (lv_at hl 3 rfl) ?_
            refine lv_iconst (v := (-1 : Int32)) hx hb dX5_leastLetGo_41 (by decide) ?_
            refine lv_ixor hx hb dX5_leastLetGo_42 ?_
            refine lv_iand hx hb dX5_leastLetGo_43 ?_
            obtain ⟨r_44, e_44, h⟩ := ob1_of h
            refine k_goI (k_runV (As := [.int (y1 &&& (y3 ^^^ (-1 : Int32)))]) (rest := []) S hK hP (k_X5_anyRound l hAd e_44) cy_X5_anyRound wd_890 rfl mO rfl hl.1 rfl (Nat.le_of_ble_eq_true rfl) dX5_leastLetGo_44 ⟨Nat.le_of_ble_eq_true rfl, Nat.le_of_ble_eq_true rfl⟩ ⟨Nat.zero_le _, Nat.zero_le _⟩) hS (fun _ h => h) (fun H locs hP hS _ _ => ?_)
            refine lv_if_ne (tgt := 52) hx hb dX5_leastLetGo_47 (by decide) (fun c_47 => ?_) (fun c_47 => ?_)
            · replace h := ite_f c_47 h
              refine lv_iinc (v := y3 + (1 : Int32)) (lv' := [(3, .int (y3 + (1 : Int32))), (0, .ref (am 0)), (1, .int y1), (2, .int y2)]) hx hb dX5_leastLetGo_52 hl (k := 3) rfl rfl (by decide) rfl (fun ls hl => ?_)
              refine lv_goto (tgt := 9) hx hb dX5_leastLetGo_55 (by decide) ?_
              exact ih y1 y2 (y3 + (1 : Int32)) _ _ _ h hP hS (lv_sub hl [1, 2, 3, 0] rfl)
            · replace h := ite_t c_47 h
              refine lv_iload_n hx hb dX5_leastLetGo_50 rfl (lv_at hl 3 rfl) ?_
              refine lv_istore_n (lv' := [(2, .int y3), (0, .ref (am 0)), (1, .int y1), (3, .int y3)]) hx hb dX5_leastLetGo_51 rfl hl (by decide) rfl (fun ls hl => ?_)
              refine lv_iinc (v := y3 + (1 : Int32)) (lv' := [(3, .int (y3 + (1 : Int32))), (2, .int y3), (0, .ref (am 0)), (1, .int y1)]) hx hb dX5_leastLetGo_52 hl (k := 3) rfl rfl (by decide) rfl (fun ls hl => ?_)
              refine lv_goto (tgt := 9) hx hb dX5_leastLetGo_55 (by decide) ?_
              exact ih y1 y3 (y3 + (1 : Int32)) _ _ _ h hP hS (lv_sub hl [2, 3, 1, 0] rfl)
  rw [f_X5_leastLetGo] at h
  refine lv_aload_n hx hb dX5_leastLetGo_0 rfl (lv_at hl 0 rfl) ?_
  obtain ⟨r_1, e_1, h⟩ := ob1_of h
  refine k_goI (k_runV (As := []) (rest := []) S hK hP (k_X5_whichBind l hAd e_1) cy_X5_whichBind wd_804 rfl mO rfl hl.1 rfl (Nat.le_of_ble_eq_true rfl) dX5_leastLetGo_1 ⟨Nat.le_of_ble_eq_true rfl, Nat.le_of_ble_eq_true rfl⟩ ⟨Nat.zero_le _, Nat.zero_le _⟩) hS (fun _ h => h) (fun H locs hP hS _ _ => ?_)
  refine lv_istore_n (lv' := [(1, .int r_1), (0, .ref (am 0))]) hx hb dX5_leastLetGo_4 rfl hl (by decide) rfl (fun ls hl => ?_)
  refine lv_iload_n hx hb dX5_leastLetGo_5 rfl (lv_at hl 0 rfl) ?_
  refine lv_istore_n (lv' := [(2, .int r_1), (1, .int r_1), (0, .ref (am 0))]) hx hb dX5_leastLetGo_6 rfl hl (by decide) rfl (fun ls hl => ?_)
  refine lv_iconst (v := (0 : Int32)) hx hb dX5_leastLetGo_7 (by decide) ?_
  refine lv_istore_n (lv' := [(3, .int (0 : Int32)), (2, .int r_1), (1, .int r_1), (0, .ref (am 0))]) hx hb dX5_leastLetGo_8 rfl hl (by decide) rfl (fun ls hl => ?_)
  exact loop9 100 r_1 r_1 (0 : Int32) _ _ _ h hP hS (lv_sub hl [3, 2, 1, 0] rfl)
def f_X5_tellCase_L78 (σ : SX) : Nat → Int32 → Int32 → Int32 → Option Int32
  | 0, _, _, _ => none
  | n + 1, y1, y2, y3 => if (gF σ 0 5) ≤ y3 then (some y2) else (ob1 (f_X5_whoCold σ y3) (fun r_89 => ob1 (f_X5_size r_89) (fun r_92 => f_X5_tellCase_L78 σ n y1 (y2 + r_92) (y3 + (1 : Int32)))))
def f_X5_tellCase (σ : SX) (x1 : Int32) : Option Int32 := if x1 < (10 : Int32) then (if x1 = (0 : Int32) then (ob1 (f_X5_whichBind σ) (fun r_65 => some r_65)) else (if x1 = (1 : Int32) then (ob1 (f_X5_leastLetGo σ) (fun r_106 => ob1 (f_X5_size r_106) (fun r_109 => some r_109))) else (if x1 = (2 : Int32) then (some (gF σ 0 7)) else (if x1 = (3 : Int32) then (f_X5_tellCase_L78 σ 100 x1 (0 : Int32) (0 : Int32)) else (ob1 (f_X5_leastLetGo σ) (fun r_106 => ob1 (f_X5_size r_106) (fun r_109 => some r_109))))))) else (ob1 (f_X5_isSwearer σ (x1 - (10 : Int32))) (fun r_11 => if r_11 = 0 then (some (-9 : Int32)) else (ob1 (f_X5_coldHours σ (x1 - (10 : Int32))) (fun r_22 => some r_22))))
set_option maxRecDepth 100000 in
set_option maxHeartbeats 4000000 in
theorem k_X5_tellCase (l : Launch) {D : va_G} {A : Nat → Prop} {cI cZ cS : ClassId} {am : Nat → Nat} (hAd : ∀ σ, va_D A (WM cI am σ)) {σ : SX} {x1 : Int32} {r : Int32} (h : f_X5_tellCase σ x1 = some r) : Ct (QI D A r (WM cI am σ)) l yX5_tellCase cX5_tellCase 4 (some .int) 6 139 D (tyS cI cZ cS) A [.ref (am 0), .int x1] (WM cI am σ) := by
  refine Ct.of (by decide +kernel) (Nat.le_of_ble_eq_true rfl) ?_
  intro p e s m below meth c ls S hK hr hlocks hP hS hl
  have hx := S.1
  have hb := S.2.1
  have hl : lv_has ls 4 [(0, .ref (am 0)), (1, .int x1)] := hl
  have loop78 : ∀ (n : Nat) (y1 : Int32) (y2 : Int32) (y3 : Int32) (H : Heap) (locs : List Loc) (ls : Array Slot), f_X5_tellCase_L78 σ n y1 y2 y3 = some r → va_P D vwCl (WM cI am σ) H → va_S A s.heap H locs → lv_has ls 4 [(0, .ref (am 0)), (1, .int y1), (2, .int y2), (3, .int y3)] → W p l e (rmO 6 139) s m [.ref (am 0), .int x1].toArray below meth c H locs 0 0 (MQ below (QI D A r (WM cI am σ)) [.ref (am 0), .int x1].toArray s 0 0 A) (F0 m 78 ls []) := by
    intro n
    induction n with
    | zero => intro y1 y2 y3 H locs ls h; cases h
    | succ n ih =>
      intro y1 y2 y3 H locs ls h hP hS hl
      rw [f_X5_tellCase_L78] at h
      refine lv_iload_n hx hb dX5_tellCase_78 rfl (lv_at hl 3 rfl) ?_
      refine lv_aload_n hx hb dX5_tellCase_79 rfl (lv_at hl 0 rfl) ?_
      refine gt_X5_71 S hK hP dX5_tellCase_80 ?_
      refine lv_icmp_ge (tgt := 103) hx hb dX5_tellCase_83 (by decide) (fun c_83 => ?_) (fun c_83 => ?_)
      · replace h := ite_t c_83 h
        refine lv_iload_n hx hb dX5_tellCase_103 rfl (lv_at hl 2 rfl) ?_
        exact k_iret S hr hlocks hP hS (Option.some.inj h) dX5_tellCase_104
      · replace h := ite_f c_83 h
        refine lv_iload_n hx hb dX5_tellCase_86 rfl (lv_at hl 2 rfl) ?_
        refine lv_aload_n hx hb dX5_tellCase_87 rfl (lv_at hl 0 rfl) ?_
        refine lv_iload_n hx hb dX5_tellCase_88 rfl (lv_at hl 3 rfl) ?_
        obtain ⟨r_89, e_89, h⟩ := ob1_of h
        refine k_goI (k_runV (As := [.int y3]) (rest := [.int y2]) S hK hP (k_X5_whoCold l hAd e_89) cy_X5_whoCold wd_828 rfl mO rfl hl.1 rfl (Nat.le_of_ble_eq_true rfl) dX5_tellCase_89 ⟨Nat.le_of_ble_eq_true rfl, Nat.le_of_ble_eq_true rfl⟩ ⟨Nat.zero_le _, Nat.zero_le _⟩) hS (fun _ h => h) (fun H locs hP hS _ _ => ?_)
        obtain ⟨r_92, e_92, h⟩ := ob1_of h
        refine k_goI (k_runS (As := [.int r_89]) (rest := [.int y2]) S hK hP (k_X5_size l  e_92) cy_X5_size wd_860 rfl hl.1 rfl (Nat.le_of_ble_eq_true rfl) dX5_tellCase_92 ⟨Nat.le_of_ble_eq_true rfl, Nat.le_of_ble_eq_true rfl⟩ ⟨Nat.zero_le _, Nat.zero_le _⟩) hS (fun _ h => h) (fun H locs hP hS _ _ => ?_)
        refine lv_iadd hx hb dX5_tellCase_95 ?_
        refine lv_istore_n (lv' := [(2, .int (y2 + r_92)), (0, .ref (am 0)), (1, .int y1), (3, .int y3)]) hx hb dX5_tellCase_96 rfl hl (by decide) rfl (fun ls hl => ?_)
        refine lv_iinc (v := y3 + (1 : Int32)) (lv' := [(3, .int (y3 + (1 : Int32))), (2, .int (y2 + r_92)), (0, .ref (am 0)), (1, .int y1)]) hx hb dX5_tellCase_97 hl (k := 3) rfl rfl (by decide) rfl (fun ls hl => ?_)
        refine lv_goto (tgt := 78) hx hb dX5_tellCase_100 (by decide) ?_
        exact ih y1 (y2 + r_92) (y3 + (1 : Int32)) _ _ _ h hP hS (lv_sub hl [2, 3, 1, 0] rfl)
  rw [f_X5_tellCase] at h
  refine lv_iload_n hx hb dX5_tellCase_0 rfl (lv_at hl 1 rfl) ?_
  refine lv_bipush (v := (10 : Int32)) hx hb dX5_tellCase_1 (by decide) ?_
  refine lv_icmp_lt (tgt := 31) hx hb dX5_tellCase_3 (by decide) (fun c_3 => ?_) (fun c_3 => ?_)
  · replace h := ite_t c_3 h
    refine lv_iload_n hx hb dX5_tellCase_31 rfl (lv_at hl 1 rfl) ?_
    by_cases c_32_0 : x1 = (0 : Int32)
    · replace h := ite_t c_32_0 h
      refine lv_tableIn (tgt := 64) hx hb dX5_tellCase_32 (by rw [c_32_0]; decide) (by rw [c_32_0]; decide) (by rw [c_32_0] <;> rfl) (by decide) ?_
      refine lv_aload_n hx hb dX5_tellCase_64 rfl (lv_at hl 0 rfl) ?_
      obtain ⟨r_65, e_65, h⟩ := ob1_of h
      refine k_goI (k_runV (As := []) (rest := []) S hK hP (k_X5_whichBind l hAd e_65) cy_X5_whichBind wd_804 rfl mO rfl hl.1 rfl (Nat.le_of_ble_eq_true rfl) dX5_tellCase_65 ⟨Nat.le_of_ble_eq_true rfl, Nat.le_of_ble_eq_true rfl⟩ ⟨Nat.zero_le _, Nat.zero_le _⟩) hS (fun _ h => h) (fun H locs hP hS _ _ => ?_)
      exact k_iret S hr hlocks hP hS (Option.some.inj h) dX5_tellCase_68
    · replace h := ite_f c_32_0 h
      by_cases c_32_1 : x1 = (1 : Int32)
      · replace h := ite_t c_32_1 h
        refine lv_tableIn (tgt := 105) hx hb dX5_tellCase_32 (by rw [c_32_1]; decide) (by rw [c_32_1]; decide) (by rw [c_32_1] <;> rfl) (by decide) ?_
        refine lv_aload_n hx hb dX5_tellCase_105 rfl (lv_at hl 0 rfl) ?_
        obtain ⟨r_106, e_106, h⟩ := ob1_of h
        refine k_goI (k_runV (As := []) (rest := []) S hK hP (k_X5_leastLetGo l hAd e_106) cy_X5_leastLetGo wd_886 rfl mO rfl hl.1 rfl (Nat.le_of_ble_eq_true rfl) dX5_tellCase_106 ⟨Nat.le_of_ble_eq_true rfl, Nat.le_of_ble_eq_true rfl⟩ ⟨Nat.zero_le _, Nat.zero_le _⟩) hS (fun _ h => h) (fun H locs hP hS _ _ => ?_)
        obtain ⟨r_109, e_109, h⟩ := ob1_of h
        refine k_goI (k_runS (As := [.int r_106]) (rest := []) S hK hP (k_X5_size l  e_109) cy_X5_size wd_860 rfl hl.1 rfl (Nat.le_of_ble_eq_true rfl) dX5_tellCase_109 ⟨Nat.le_of_ble_eq_true rfl, Nat.le_of_ble_eq_true rfl⟩ ⟨Nat.zero_le _, Nat.zero_le _⟩) hS (fun _ h => h) (fun H locs hP hS _ _ => ?_)
        exact k_iret S hr hlocks hP hS (Option.some.inj h) dX5_tellCase_112
      · replace h := ite_f c_32_1 h
        by_cases c_32_2 : x1 = (2 : Int32)
        · replace h := ite_t c_32_2 h
          refine lv_tableIn (tgt := 69) hx hb dX5_tellCase_32 (by rw [c_32_2]; decide) (by rw [c_32_2]; decide) (by rw [c_32_2] <;> rfl) (by decide) ?_
          refine lv_aload_n hx hb dX5_tellCase_69 rfl (lv_at hl 0 rfl) ?_
          refine gt_X5_77 S hK hP dX5_tellCase_70 ?_
          exact k_iret S hr hlocks hP hS (Option.some.inj h) dX5_tellCase_73
        · replace h := ite_f c_32_2 h
          by_cases c_32_3 : x1 = (3 : Int32)
          · replace h := ite_t c_32_3 h
            refine lv_tableIn (tgt := 74) hx hb dX5_tellCase_32 (by rw [c_32_3]; decide) (by rw [c_32_3]; decide) (by rw [c_32_3] <;> rfl) (by decide) ?_
            refine lv_iconst (v := (0 : Int32)) hx hb dX5_tellCase_74 (by decide) ?_
            refine lv_istore_n (lv' := [(2, .int (0 : Int32)), (0, .ref (am 0)), (1, .int x1)]) hx hb dX5_tellCase_75 rfl hl (by decide) rfl (fun ls hl => ?_)
            refine lv_iconst (v := (0 : Int32)) hx hb dX5_tellCase_76 (by decide) ?_
            refine lv_istore_n (lv' := [(3, .int (0 : Int32)), (2, .int (0 : Int32)), (0, .ref (am 0)), (1, .int x1)]) hx hb dX5_tellCase_77 rfl hl (by decide) rfl (fun ls hl => ?_)
            exact loop78 100 x1 (0 : Int32) (0 : Int32) _ _ _ h hP hS (lv_sub hl [2, 3, 1, 0] rfl)
          · replace h := ite_f c_32_3 h
            have n_32_0 := lv_neT c_32_0 (a := 0) rfl
            have n_32_1 := lv_neT c_32_1 (a := 1) rfl
            have n_32_2 := lv_neT c_32_2 (a := 2) rfl
            have n_32_3 := lv_neT c_32_3 (a := 3) rfl
            refine lv_tableOut (tgt := 105) hx hb dX5_tellCase_32 (by omega) (by decide) ?_
            refine lv_aload_n hx hb dX5_tellCase_105 rfl (lv_at hl 0 rfl) ?_
            obtain ⟨r_106, e_106, h⟩ := ob1_of h
            refine k_goI (k_runV (As := []) (rest := []) S hK hP (k_X5_leastLetGo l hAd e_106) cy_X5_leastLetGo wd_886 rfl mO rfl hl.1 rfl (Nat.le_of_ble_eq_true rfl) dX5_tellCase_106 ⟨Nat.le_of_ble_eq_true rfl, Nat.le_of_ble_eq_true rfl⟩ ⟨Nat.zero_le _, Nat.zero_le _⟩) hS (fun _ h => h) (fun H locs hP hS _ _ => ?_)
            obtain ⟨r_109, e_109, h⟩ := ob1_of h
            refine k_goI (k_runS (As := [.int r_106]) (rest := []) S hK hP (k_X5_size l  e_109) cy_X5_size wd_860 rfl hl.1 rfl (Nat.le_of_ble_eq_true rfl) dX5_tellCase_109 ⟨Nat.le_of_ble_eq_true rfl, Nat.le_of_ble_eq_true rfl⟩ ⟨Nat.zero_le _, Nat.zero_le _⟩) hS (fun _ h => h) (fun H locs hP hS _ _ => ?_)
            exact k_iret S hr hlocks hP hS (Option.some.inj h) dX5_tellCase_112
  · replace h := ite_f c_3 h
    refine lv_aload_n hx hb dX5_tellCase_6 rfl (lv_at hl 0 rfl) ?_
    refine lv_iload_n hx hb dX5_tellCase_7 rfl (lv_at hl 1 rfl) ?_
    refine lv_bipush (v := (10 : Int32)) hx hb dX5_tellCase_8 (by decide) ?_
    refine lv_isub hx hb dX5_tellCase_10 ?_
    obtain ⟨r_11, e_11, h⟩ := ob1_of h
    refine k_goI (k_runV (As := [.int (x1 - (10 : Int32))]) (rest := []) S hK hP (k_X5_isSwearer l hAd e_11) cy_X5_isSwearer wd_780 rfl mO rfl hl.1 rfl (Nat.le_of_ble_eq_true rfl) dX5_tellCase_11 ⟨Nat.le_of_ble_eq_true rfl, Nat.le_of_ble_eq_true rfl⟩ ⟨Nat.zero_le _, Nat.zero_le _⟩) hS (fun _ h => h) (fun H locs hP hS _ _ => ?_)
    refine lv_if_eq (tgt := 28) hx hb dX5_tellCase_14 (by decide) (fun c_14 => ?_) (fun c_14 => ?_)
    · replace h := ite_t c_14 h
      refine lv_bipush (v := (-9 : Int32)) hx hb dX5_tellCase_28 (by decide) ?_
      exact k_iret S hr hlocks hP hS (Option.some.inj h) dX5_tellCase_30
    · replace h := ite_f c_14 h
      refine lv_aload_n hx hb dX5_tellCase_17 rfl (lv_at hl 0 rfl) ?_
      refine lv_iload_n hx hb dX5_tellCase_18 rfl (lv_at hl 1 rfl) ?_
      refine lv_bipush (v := (10 : Int32)) hx hb dX5_tellCase_19 (by decide) ?_
      refine lv_isub hx hb dX5_tellCase_21 ?_
      obtain ⟨r_22, e_22, h⟩ := ob1_of h
      refine k_goI (k_runV (As := [.int (x1 - (10 : Int32))]) (rest := []) S hK hP (k_X5_coldHours l hAd e_22) cy_X5_coldHours wd_788 rfl mO rfl hl.1 rfl (Nat.le_of_ble_eq_true rfl) dX5_tellCase_22 ⟨Nat.le_of_ble_eq_true rfl, Nat.le_of_ble_eq_true rfl⟩ ⟨Nat.zero_le _, Nat.zero_le _⟩) hS (fun _ h => h) (fun H locs hP hS _ _ => ?_)
      refine lv_goto (tgt := 30) hx hb dX5_tellCase_25 (by decide) ?_
      exact k_iret S hr hlocks hP hS (Option.some.inj h) dX5_tellCase_30
def f_X5_trial_L103 : Nat → SX → Int32 → Int32 → Int32 → Int32 → Int32 → Int32 → Int32 → Int32 → Option (Int32 × SX)
  | 0, _, _, _, _, _, _, _, _, _ => none
  | n + 1, σ, y1, y2, y3, y4, y5, y6, y7, y8 => if y4 ≤ y8 then (ob2 (f_X5_keep σ) (fun r_152 s_152 => ob2 (f_X5_goCase s_152 y7 y4) (fun r_160 s_160 => ob1 (f_X5_tellCase s_160 y5) (fun r_168 => ob2 (f_X5_putBack s_160) (fun r_174 s_174 => if y5 = (1 : Int32) then (some (r_160, s_174)) else (if r_160 = (-9 : Int32) then (some (r_168, s_174)) else (some ((-100 : Int32) - r_160, s_174)))))))) else (oin (y7 + ((2 : Int32) * y8)) 240 (oin ((y7 + ((2 : Int32) * y8)) + (1 : Int32)) 240 (ob1 (f_X5_isPair (gR σ 3 (y7 + ((2 : Int32) * y8)).toNatClampNeg) (gR σ 3 ((y7 + ((2 : Int32) * y8)) + (1 : Int32)).toNatClampNeg)) (fun r_136 => if r_136 = 0 then (some ((-2 : Int32), σ)) else (f_X5_trial_L103 n σ y1 y2 y3 y4 y5 y6 y7 (y8 + (1 : Int32)))))))
def f_X5_trial (σ : SX) (x1 : Int32) (x2 : Int32) (x3 : Int32) (x4 : Int32) (x5 : Int32) : Option (Int32 × SX) := ob1 (f_X5_isSheet x1) (fun r_6 => if r_6 = 0 then (some ((-1 : Int32), sF σ 0 0 (0 : Int32))) else (ob1 (f_X5_isSort x2) (fun r_15 => if r_15 = 0 then (some ((-2 : Int32), sF σ 0 0 (0 : Int32))) else (ob1 (f_X5_within x4 (0 : Int32) (20 : Int32)) (fun r_26 => if r_26 = 0 then (some ((-2 : Int32), sF σ 0 0 (0 : Int32))) else (ob1 (f_X5_within x5 (0 : Int32) (4 : Int32)) (fun r_36 => if r_36 = 0 then (ob1 (f_X5_within x5 (10 : Int32) (13 : Int32)) (fun r_48 => if r_48 = 0 then (some ((-2 : Int32), sF σ 0 0 (0 : Int32))) else (ob1 (f_X5_against (sF σ 0 0 (0 : Int32)) x1 x2 x3 ((2 : Int32) * x4)) (fun r_65 => if r_65 = 0 then (if (gF (sF σ 0 0 (0 : Int32)) 0 5) = 0 then (some ((-3 : Int32), sF σ 0 0 (0 : Int32))) else (f_X5_trial_L103 100 (sF σ 0 0 (0 : Int32)) x1 x2 x3 x4 x5 r_65 (((60 : Int32) * x1) + x3) (0 : Int32))) else (ob2 (f_X5_fails (sF σ 0 0 (0 : Int32)) r_65) (fun r_78 s_78 => some (r_78, s_78))))))) else (ob1 (f_X5_against (sF σ 0 0 (0 : Int32)) x1 x2 x3 ((2 : Int32) * x4)) (fun r_65 => if r_65 = 0 then (if (gF (sF σ 0 0 (0 : Int32)) 0 5) = 0 then (some ((-3 : Int32), sF σ 0 0 (0 : Int32))) else (f_X5_trial_L103 100 (sF σ 0 0 (0 : Int32)) x1 x2 x3 x4 x5 r_65 (((60 : Int32) * x1) + x3) (0 : Int32))) else (ob2 (f_X5_fails (sF σ 0 0 (0 : Int32)) r_65) (fun r_78 s_78 => some (r_78, s_78))))))))))))
set_option maxRecDepth 100000 in
set_option maxHeartbeats 4000000 in
theorem k_X5_trial (l : Launch) {D : va_G} {A : Nat → Prop} {cI cZ cS : ClassId} {am : Nat → Nat} (hAd : ∀ σ, va_D A (WM cI am σ)) {σ : SX} {x1 : Int32} {x2 : Int32} {x3 : Int32} {x4 : Int32} {x5 : Int32} {σ' : SX} {r : Int32} (h : f_X5_trial σ x1 x2 x3 x4 x5 = some (r, σ')) : Ct (QI D A r (WM cI am (σ'))) l yX5_trial cX5_trial 10 (some .int) 7 162 D (tyS cI cZ cS) A [.ref (am 0), .int x1, .int x2, .int x3, .int x4, .int x5] (WM cI am σ) := by
  refine Ct.of (by decide +kernel) (Nat.le_of_ble_eq_true rfl) ?_
  intro p e s m below meth c ls S hK hr hlocks hP hS hl
  have hx := S.1
  have hb := S.2.1
  have hl : lv_has ls 10 [(0, .ref (am 0)), (1, .int x1), (2, .int x2), (3, .int x3), (4, .int x4), (5, .int x5)] := hl
  have loop103 : ∀ (n : Nat) (σ : SX) (y1 : Int32) (y2 : Int32) (y3 : Int32) (y4 : Int32) (y5 : Int32) (y6 : Int32) (y7 : Int32) (y8 : Int32) (H : Heap) (locs : List Loc) (ls : Array Slot), f_X5_trial_L103 n σ y1 y2 y3 y4 y5 y6 y7 y8 = some (r, σ') → va_P D vwCl (WM cI am σ) H → va_S A s.heap H locs → lv_has ls 10 [(0, .ref (am 0)), (1, .int y1), (2, .int y2), (3, .int y3), (4, .int y4), (5, .int y5), (6, .int y6), (7, .int y7), (8, .int y8)] → W p l e (rmO 7 162) s m [.ref (am 0), .int x1, .int x2, .int x3, .int x4, .int x5].toArray below meth c H locs 0 0 (MQ below (QI D A r (WM cI am (σ'))) [.ref (am 0), .int x1, .int x2, .int x3, .int x4, .int x5].toArray s 0 0 A) (F0 m 103 ls []) := by
    intro n
    induction n with
    | zero => intro σ y1 y2 y3 y4 y5 y6 y7 y8 H locs ls h; cases h
    | succ n ih =>
      intro σ y1 y2 y3 y4 y5 y6 y7 y8 H locs ls h hP hS hl
      rw [f_X5_trial_L103] at h
      refine lv_iload hx hb dX5_trial_103 (lv_at hl 8 rfl) ?_
      refine lv_iload hx hb dX5_trial_105 (lv_at hl 4 rfl) ?_
      refine lv_icmp_ge (tgt := 151) hx hb dX5_trial_107 (by decide) (fun c_107 => ?_) (fun c_107 => ?_)
      · replace h := ite_t c_107 h
        refine lv_aload_n hx hb dX5_trial_151 rfl (lv_at hl 0 rfl) ?_
        obtain ⟨r_152, s_152, e_152, h⟩ := ob2_of h
        refine k_goV (k_runV (As := []) (rest := []) S hK hP (k_X5_keep l hAd e_152) cy_X5_keep wd_870 rfl mO rfl hl.1 rfl (Nat.le_of_ble_eq_true rfl) dX5_trial_152 ⟨Nat.le_of_ble_eq_true rfl, Nat.le_of_ble_eq_true rfl⟩ ⟨Nat.zero_le _, Nat.zero_le _⟩) hS (fun _ h => h) (fun H locs hP hS _ _ => ?_)
        refine lv_aload_n hx hb dX5_trial_155 rfl (lv_at hl 0 rfl) ?_
        refine lv_iload hx hb dX5_trial_156 (lv_at hl 7 rfl) ?_
        refine lv_iload hx hb dX5_trial_158 (lv_at hl 4 rfl) ?_
        obtain ⟨r_160, s_160, e_160, h⟩ := ob2_of h
        refine k_goI (k_runV (As := [.int y7, .int y4]) (rest := []) S hK hP (k_X5_goCase l hAd e_160) cy_X5_goCase wd_874 rfl mO rfl hl.1 rfl (Nat.le_of_ble_eq_true rfl) dX5_trial_160 ⟨Nat.le_of_ble_eq_true rfl, Nat.le_of_ble_eq_true rfl⟩ ⟨Nat.zero_le _, Nat.zero_le _⟩) hS (fun _ h => h) (fun H locs hP hS _ _ => ?_)
        refine lv_istore (lv' := [(8, .int r_160), (0, .ref (am 0)), (1, .int y1), (2, .int y2), (3, .int y3), (4, .int y4), (5, .int y5), (6, .int y6), (7, .int y7)]) hx hb dX5_trial_163 hl (by decide) rfl (fun ls hl => ?_)
        refine lv_aload_n hx hb dX5_trial_165 rfl (lv_at hl 1 rfl) ?_
        refine lv_iload hx hb dX5_trial_166 (lv_at hl 6 rfl) ?_
        obtain ⟨r_168, e_168, h⟩ := ob1_of h
        refine k_goI (k_runV (As := [.int y5]) (rest := []) S hK hP (k_X5_tellCase l hAd e_168) cy_X5_tellCase wd_882 rfl mO rfl hl.1 rfl (Nat.le_of_ble_eq_true rfl) dX5_trial_168 ⟨Nat.le_of_ble_eq_true rfl, Nat.le_of_ble_eq_true rfl⟩ ⟨Nat.zero_le _, Nat.zero_le _⟩) hS (fun _ h => h) (fun H locs hP hS _ _ => ?_)
        refine lv_istore (lv' := [(9, .int r_168), (8, .int r_160), (0, .ref (am 0)), (1, .int y1), (2, .int y2), (3, .int y3), (4, .int y4), (5, .int y5), (6, .int y6), (7, .int y7)]) hx hb dX5_trial_171 hl (by decide) rfl (fun ls hl => ?_)
        refine lv_aload_n hx hb dX5_trial_173 rfl (lv_at hl 2 rfl) ?_
        obtain ⟨r_174, s_174, e_174, h⟩ := ob2_of h
        refine k_goV (k_runV (As := []) (rest := []) S hK hP (k_X5_putBack l hAd e_174) cy_X5_putBack wd_909 rfl mO rfl hl.1 rfl (Nat.le_of_ble_eq_true rfl) dX5_trial_174 ⟨Nat.le_of_ble_eq_true rfl, Nat.le_of_ble_eq_true rfl⟩ ⟨Nat.zero_le _, Nat.zero_le _⟩) hS (fun _ h => h) (fun H locs hP hS _ _ => ?_)
        refine lv_iload hx hb dX5_trial_177 (lv_at hl 7 rfl) ?_
        refine lv_iconst (v := (1 : Int32)) hx hb dX5_trial_179 (by decide) ?_
        refine lv_icmp_ne (tgt := 188) hx hb dX5_trial_180 (by decide) (fun c_180 => ?_) (fun c_180 => ?_)
        · replace h := ite_f c_180 h
          refine lv_iload hx hb dX5_trial_188 (lv_at hl 1 rfl) ?_
          refine lv_bipush (v := (-9 : Int32)) hx hb dX5_trial_190 (by decide) ?_
          refine lv_icmp_ne (tgt := 200) hx hb dX5_trial_192 (by decide) (fun c_192 => ?_) (fun c_192 => ?_)
          · replace h := ite_f c_192 h
            refine lv_bipush (v := (-100 : Int32)) hx hb dX5_trial_200 (by decide) ?_
            refine lv_iload hx hb dX5_trial_202 (lv_at hl 1 rfl) ?_
            refine lv_isub hx hb dX5_trial_204 ?_
            obtain ⟨rfl, rfl⟩ := some_pair h
            exact k_iret S hr hlocks hP hS rfl dX5_trial_205
          · replace h := ite_t c_192 h
            refine lv_iload hx hb dX5_trial_195 (lv_at hl 0 rfl) ?_
            refine lv_goto (tgt := 205) hx hb dX5_trial_197 (by decide) ?_
            obtain ⟨rfl, rfl⟩ := some_pair h
            exact k_iret S hr hlocks hP hS rfl dX5_trial_205
        · replace h := ite_t c_180 h
          refine lv_iload hx hb dX5_trial_183 (lv_at hl 1 rfl) ?_
          refine lv_goto (tgt := 205) hx hb dX5_trial_185 (by decide) ?_
          obtain ⟨rfl, rfl⟩ := some_pair h
          exact k_iret S hr hlocks hP hS rfl dX5_trial_205
      · replace h := ite_f c_107 h
        refine lv_aload_n hx hb dX5_trial_110 rfl (lv_at hl 0 rfl) ?_
        refine gt_X5_16 S hK hP dX5_trial_111 ?_
        refine lv_iload hx hb dX5_trial_114 (lv_at hl 7 rfl) ?_
        refine lv_iconst (v := (2 : Int32)) hx hb dX5_trial_116 (by decide) ?_
        refine lv_iload hx hb dX5_trial_117 (lv_at hl 8 rfl) ?_
        refine lv_imul hx hb dX5_trial_119 ?_
        refine lv_iadd hx hb dX5_trial_120 ?_
        obtain ⟨hi_121, h⟩ := oin_of h
        refine k_iald S hK hP mr3 hi_121 dX5_trial_121 ?_
        refine lv_aload_n hx hb dX5_trial_122 rfl (lv_at hl 0 rfl) ?_
        refine gt_X5_16 S hK hP dX5_trial_123 ?_
        refine lv_iload hx hb dX5_trial_126 (lv_at hl 7 rfl) ?_
        refine lv_iconst (v := (2 : Int32)) hx hb dX5_trial_128 (by decide) ?_
        refine lv_iload hx hb dX5_trial_129 (lv_at hl 8 rfl) ?_
        refine lv_imul hx hb dX5_trial_131 ?_
        refine lv_iadd hx hb dX5_trial_132 ?_
        refine lv_iconst (v := (1 : Int32)) hx hb dX5_trial_133 (by decide) ?_
        refine lv_iadd hx hb dX5_trial_134 ?_
        obtain ⟨hi_135, h⟩ := oin_of h
        refine k_iald S hK hP mr3 hi_135 dX5_trial_135 ?_
        obtain ⟨r_136, e_136, h⟩ := ob1_of h
        refine k_goI (k_runS (As := [.int (gR σ 3 (y7 + ((2 : Int32) * y8)).toNatClampNeg), .int (gR σ 3 ((y7 + ((2 : Int32) * y8)) + (1 : Int32)).toNatClampNeg)]) (rest := []) S hK hP (k_X5_isPair l  e_136) cy_X5_isPair wd_867 rfl hl.1 rfl (Nat.le_of_ble_eq_true rfl) dX5_trial_136 ⟨Nat.le_of_ble_eq_true rfl, Nat.le_of_ble_eq_true rfl⟩ ⟨Nat.zero_le _, Nat.zero_le _⟩) hS (fun _ h => h) (fun H locs hP hS _ _ => ?_)
        refine lv_if_ne (tgt := 145) hx hb dX5_trial_139 (by decide) (fun c_139 => ?_) (fun c_139 => ?_)
        · replace h := ite_f c_139 h
          refine lv_iinc (v := y8 + (1 : Int32)) (lv' := [(8, .int (y8 + (1 : Int32))), (0, .ref (am 0)), (1, .int y1), (2, .int y2), (3, .int y3), (4, .int y4), (5, .int y5), (6, .int y6), (7, .int y7)]) hx hb dX5_trial_145 hl (k := 8) rfl rfl (by decide) rfl (fun ls hl => ?_)
          refine lv_goto (tgt := 103) hx hb dX5_trial_148 (by decide) ?_
          exact ih σ y1 y2 y3 y4 y5 y6 y7 (y8 + (1 : Int32)) _ _ _ h hP hS (lv_sub hl [1, 2, 3, 4, 5, 6, 7, 8, 0] rfl)
        · replace h := ite_t c_139 h
          refine lv_bipush (v := (-2 : Int32)) hx hb dX5_trial_142 (by decide) ?_
          obtain ⟨rfl, rfl⟩ := some_pair h
          exact k_iret S hr hlocks hP hS rfl dX5_trial_144
  rw [f_X5_trial] at h
  refine lv_aload_n hx hb dX5_trial_0 rfl (lv_at hl 0 rfl) ?_
  refine lv_iconst (v := (0 : Int32)) hx hb dX5_trial_1 (by decide) ?_
  refine pt_X5_62 S hK hP (hAd _) hS dX5_trial_2 (fun H locs hP hS => ?_)
  refine lv_iload_n hx hb dX5_trial_5 rfl (lv_at hl 1 rfl) ?_
  obtain ⟨r_6, e_6, h⟩ := ob1_of h
  refine k_goI (k_runS (As := [.int x1]) (rest := []) S hK hP (k_X5_isSheet l  e_6) cy_X5_isSheet wd_735 rfl hl.1 rfl (Nat.le_of_ble_eq_true rfl) dX5_trial_6 ⟨Nat.le_of_ble_eq_true rfl, Nat.le_of_ble_eq_true rfl⟩ ⟨Nat.zero_le _, Nat.zero_le _⟩) hS (fun _ h => h) (fun H locs hP hS _ _ => ?_)
  refine lv_if_ne (tgt := 14) hx hb dX5_trial_9 (by decide) (fun c_9 => ?_) (fun c_9 => ?_)
  · replace h := ite_f c_9 h
    refine lv_iload_n hx hb dX5_trial_14 rfl (lv_at hl 2 rfl) ?_
    obtain ⟨r_15, e_15, h⟩ := ob1_of h
    refine k_goI (k_runS (As := [.int x2]) (rest := []) S hK hP (k_X5_isSort l  e_15) cy_X5_isSort wd_741 rfl hl.1 rfl (Nat.le_of_ble_eq_true rfl) dX5_trial_15 ⟨Nat.le_of_ble_eq_true rfl, Nat.le_of_ble_eq_true rfl⟩ ⟨Nat.zero_le _, Nat.zero_le _⟩) hS (fun _ h => h) (fun H locs hP hS _ _ => ?_)
    refine lv_if_eq (tgt := 54) hx hb dX5_trial_18 (by decide) (fun c_18 => ?_) (fun c_18 => ?_)
    · replace h := ite_t c_18 h
      refine lv_bipush (v := (-2 : Int32)) hx hb dX5_trial_54 (by decide) ?_
      obtain ⟨rfl, rfl⟩ := some_pair h
      exact k_iret S hr hlocks hP hS rfl dX5_trial_56
    · replace h := ite_f c_18 h
      refine lv_iload hx hb dX5_trial_21 (lv_at hl 4 rfl) ?_
      refine lv_iconst (v := (0 : Int32)) hx hb dX5_trial_23 (by decide) ?_
      refine lv_bipush (v := (20 : Int32)) hx hb dX5_trial_24 (by decide) ?_
      obtain ⟨r_26, e_26, h⟩ := ob1_of h
      refine k_goI (k_runS (As := [.int x4, .int (0 : Int32), .int (20 : Int32)]) (rest := []) S hK hP (k_X5_within l  e_26) cy_X5_within wd_738 rfl hl.1 rfl (Nat.le_of_ble_eq_true rfl) dX5_trial_26 ⟨Nat.le_of_ble_eq_true rfl, Nat.le_of_ble_eq_true rfl⟩ ⟨Nat.zero_le _, Nat.zero_le _⟩) hS (fun _ h => h) (fun H locs hP hS _ _ => ?_)
      refine lv_if_eq (tgt := 54) hx hb dX5_trial_29 (by decide) (fun c_29 => ?_) (fun c_29 => ?_)
      · replace h := ite_t c_29 h
        refine lv_bipush (v := (-2 : Int32)) hx hb dX5_trial_54 (by decide) ?_
        obtain ⟨rfl, rfl⟩ := some_pair h
        exact k_iret S hr hlocks hP hS rfl dX5_trial_56
      · replace h := ite_f c_29 h
        refine lv_iload hx hb dX5_trial_32 (lv_at hl 5 rfl) ?_
        refine lv_iconst (v := (0 : Int32)) hx hb dX5_trial_34 (by decide) ?_
        refine lv_iconst (v := (4 : Int32)) hx hb dX5_trial_35 (by decide) ?_
        obtain ⟨r_36, e_36, h⟩ := ob1_of h
        refine k_goI (k_runS (As := [.int x5, .int (0 : Int32), .int (4 : Int32)]) (rest := []) S hK hP (k_X5_within l  e_36) cy_X5_within wd_738 rfl hl.1 rfl (Nat.le_of_ble_eq_true rfl) dX5_trial_36 ⟨Nat.le_of_ble_eq_true rfl, Nat.le_of_ble_eq_true rfl⟩ ⟨Nat.zero_le _, Nat.zero_le _⟩) hS (fun _ h => h) (fun H locs hP hS _ _ => ?_)
        refine lv_if_ne (tgt := 57) hx hb dX5_trial_39 (by decide) (fun c_39 => ?_) (fun c_39 => ?_)
        · replace h := ite_f c_39 h
          refine lv_aload_n hx hb dX5_trial_57 rfl (lv_at hl 0 rfl) ?_
          refine lv_iload_n hx hb dX5_trial_58 rfl (lv_at hl 1 rfl) ?_
          refine lv_iload_n hx hb dX5_trial_59 rfl (lv_at hl 2 rfl) ?_
          refine lv_iload_n hx hb dX5_trial_60 rfl (lv_at hl 3 rfl) ?_
          refine lv_iconst (v := (2 : Int32)) hx hb dX5_trial_61 (by decide) ?_
          refine lv_iload hx hb dX5_trial_62 (lv_at hl 4 rfl) ?_
          refine lv_imul hx hb dX5_trial_64 ?_
          obtain ⟨r_65, e_65, h⟩ := ob1_of h
          refine k_goI (k_runV (As := [.int x1, .int x2, .int x3, .int ((2 : Int32) * x4)]) (rest := []) S hK hP (k_X5_against l hAd e_65) cy_X5_against wd_744 rfl mO rfl hl.1 rfl (Nat.le_of_ble_eq_true rfl) dX5_trial_65 ⟨Nat.le_of_ble_eq_true rfl, Nat.le_of_ble_eq_true rfl⟩ ⟨Nat.zero_le _, Nat.zero_le _⟩) hS (fun _ h => h) (fun H locs hP hS _ _ => ?_)
          refine lv_istore (lv' := [(6, .int r_65), (0, .ref (am 0)), (1, .int x1), (2, .int x2), (3, .int x3), (4, .int x4), (5, .int x5)]) hx hb dX5_trial_68 hl (by decide) rfl (fun ls hl => ?_)
          refine lv_iload hx hb dX5_trial_70 (lv_at hl 0 rfl) ?_
          refine lv_if_eq (tgt := 82) hx hb dX5_trial_72 (by decide) (fun c_72 => ?_) (fun c_72 => ?_)
          · replace h := ite_t c_72 h
            refine lv_aload_n hx hb dX5_trial_82 rfl (lv_at hl 1 rfl) ?_
            refine gt_X5_71 S hK hP dX5_trial_83 ?_
            refine lv_if_ne (tgt := 92) hx hb dX5_trial_86 (by decide) (fun c_86 => ?_) (fun c_86 => ?_)
            · replace h := ite_f c_86 h
              refine lv_bipush (v := (60 : Int32)) hx hb dX5_trial_92 (by decide) ?_
              refine lv_iload_n hx hb dX5_trial_94 rfl (lv_at hl 2 rfl) ?_
              refine lv_imul hx hb dX5_trial_95 ?_
              refine lv_iload_n hx hb dX5_trial_96 rfl (lv_at hl 4 rfl) ?_
              refine lv_iadd hx hb dX5_trial_97 ?_
              refine lv_istore (lv' := [(7, .int (((60 : Int32) * x1) + x3)), (6, .int r_65), (0, .ref (am 0)), (1, .int x1), (2, .int x2), (3, .int x3), (4, .int x4), (5, .int x5)]) hx hb dX5_trial_98 hl (by decide) rfl (fun ls hl => ?_)
              refine lv_iconst (v := (0 : Int32)) hx hb dX5_trial_100 (by decide) ?_
              refine lv_istore (lv' := [(8, .int (0 : Int32)), (7, .int (((60 : Int32) * x1) + x3)), (6, .int r_65), (0, .ref (am 0)), (1, .int x1), (2, .int x2), (3, .int x3), (4, .int x4), (5, .int x5)]) hx hb dX5_trial_101 hl (by decide) rfl (fun ls hl => ?_)
              exact loop103 100 (sF σ 0 0 (0 : Int32)) x1 x2 x3 x4 x5 r_65 (((60 : Int32) * x1) + x3) (0 : Int32) _ _ _ h hP hS (lv_sub hl [3, 4, 5, 6, 7, 8, 2, 1, 0] rfl)
            · replace h := ite_t c_86 h
              refine lv_bipush (v := (-3 : Int32)) hx hb dX5_trial_89 (by decide) ?_
              obtain ⟨rfl, rfl⟩ := some_pair h
              exact k_iret S hr hlocks hP hS rfl dX5_trial_91
          · replace h := ite_f c_72 h
            refine lv_aload_n hx hb dX5_trial_75 rfl (lv_at hl 1 rfl) ?_
            refine lv_iload hx hb dX5_trial_76 (lv_at hl 0 rfl) ?_
            obtain ⟨r_78, s_78, e_78, h⟩ := ob2_of h
            refine k_goI (k_runV (As := [.int r_65]) (rest := []) S hK hP (k_X5_fails l hAd e_78) cy_X5_fails wd_748 rfl mO rfl hl.1 rfl (Nat.le_of_ble_eq_true rfl) dX5_trial_78 ⟨Nat.le_of_ble_eq_true rfl, Nat.le_of_ble_eq_true rfl⟩ ⟨Nat.zero_le _, Nat.zero_le _⟩) hS (fun _ h => h) (fun H locs hP hS _ _ => ?_)
            obtain ⟨rfl, rfl⟩ := some_pair h
            exact k_iret S hr hlocks hP hS rfl dX5_trial_81
        · replace h := ite_t c_39 h
          refine lv_iload hx hb dX5_trial_42 (lv_at hl 5 rfl) ?_
          refine lv_bipush (v := (10 : Int32)) hx hb dX5_trial_44 (by decide) ?_
          refine lv_bipush (v := (13 : Int32)) hx hb dX5_trial_46 (by decide) ?_
          obtain ⟨r_48, e_48, h⟩ := ob1_of h
          refine k_goI (k_runS (As := [.int x5, .int (10 : Int32), .int (13 : Int32)]) (rest := []) S hK hP (k_X5_within l  e_48) cy_X5_within wd_738 rfl hl.1 rfl (Nat.le_of_ble_eq_true rfl) dX5_trial_48 ⟨Nat.le_of_ble_eq_true rfl, Nat.le_of_ble_eq_true rfl⟩ ⟨Nat.zero_le _, Nat.zero_le _⟩) hS (fun _ h => h) (fun H locs hP hS _ _ => ?_)
          refine lv_if_ne (tgt := 57) hx hb dX5_trial_51 (by decide) (fun c_51 => ?_) (fun c_51 => ?_)
          · replace h := ite_f c_51 h
            refine lv_aload_n hx hb dX5_trial_57 rfl (lv_at hl 0 rfl) ?_
            refine lv_iload_n hx hb dX5_trial_58 rfl (lv_at hl 1 rfl) ?_
            refine lv_iload_n hx hb dX5_trial_59 rfl (lv_at hl 2 rfl) ?_
            refine lv_iload_n hx hb dX5_trial_60 rfl (lv_at hl 3 rfl) ?_
            refine lv_iconst (v := (2 : Int32)) hx hb dX5_trial_61 (by decide) ?_
            refine lv_iload hx hb dX5_trial_62 (lv_at hl 4 rfl) ?_
            refine lv_imul hx hb dX5_trial_64 ?_
            obtain ⟨r_65, e_65, h⟩ := ob1_of h
            refine k_goI (k_runV (As := [.int x1, .int x2, .int x3, .int ((2 : Int32) * x4)]) (rest := []) S hK hP (k_X5_against l hAd e_65) cy_X5_against wd_744 rfl mO rfl hl.1 rfl (Nat.le_of_ble_eq_true rfl) dX5_trial_65 ⟨Nat.le_of_ble_eq_true rfl, Nat.le_of_ble_eq_true rfl⟩ ⟨Nat.zero_le _, Nat.zero_le _⟩) hS (fun _ h => h) (fun H locs hP hS _ _ => ?_)
            refine lv_istore (lv' := [(6, .int r_65), (0, .ref (am 0)), (1, .int x1), (2, .int x2), (3, .int x3), (4, .int x4), (5, .int x5)]) hx hb dX5_trial_68 hl (by decide) rfl (fun ls hl => ?_)
            refine lv_iload hx hb dX5_trial_70 (lv_at hl 0 rfl) ?_
            refine lv_if_eq (tgt := 82) hx hb dX5_trial_72 (by decide) (fun c_72 => ?_) (fun c_72 => ?_)
            · replace h := ite_t c_72 h
              refine lv_aload_n hx hb dX5_trial_82 rfl (lv_at hl 1 rfl) ?_
              refine gt_X5_71 S hK hP dX5_trial_83 ?_
              refine lv_if_ne (tgt := 92) hx hb dX5_trial_86 (by decide) (fun c_86 => ?_) (fun c_86 => ?_)
              · replace h := ite_f c_86 h
                refine lv_bipush (v := (60 : Int32)) hx hb dX5_trial_92 (by decide) ?_
                refine lv_iload_n hx hb dX5_trial_94 rfl (lv_at hl 2 rfl) ?_
                refine lv_imul hx hb dX5_trial_95 ?_
                refine lv_iload_n hx hb dX5_trial_96 rfl (lv_at hl 4 rfl) ?_
                refine lv_iadd hx hb dX5_trial_97 ?_
                refine lv_istore (lv' := [(7, .int (((60 : Int32) * x1) + x3)), (6, .int r_65), (0, .ref (am 0)), (1, .int x1), (2, .int x2), (3, .int x3), (4, .int x4), (5, .int x5)]) hx hb dX5_trial_98 hl (by decide) rfl (fun ls hl => ?_)
                refine lv_iconst (v := (0 : Int32)) hx hb dX5_trial_100 (by decide) ?_
                refine lv_istore (lv' := [(8, .int (0 : Int32)), (7, .int (((60 : Int32) * x1) + x3)), (6, .int r_65), (0, .ref (am 0)), (1, .int x1), (2, .int x2), (3, .int x3), (4, .int x4), (5, .int x5)]) hx hb dX5_trial_101 hl (by decide) rfl (fun ls hl => ?_)
                exact loop103 100 (sF σ 0 0 (0 : Int32)) x1 x2 x3 x4 x5 r_65 (((60 : Int32) * x1) + x3) (0 : Int32) _ _ _ h hP hS (lv_sub hl [3, 4, 5, 6, 7, 8, 2, 1, 0] rfl)
              · replace h := ite_t c_86 h
                refine lv_bipush (v := (-3 : Int32)) hx hb dX5_trial_89 (by decide) ?_
                obtain ⟨rfl, rfl⟩ := some_pair h
                exact k_iret S hr hlocks hP hS rfl dX5_trial_91
            · replace h := ite_f c_72 h
              refine lv_aload_n hx hb dX5_trial_75 rfl (lv_at hl 1 rfl) ?_
              refine lv_iload hx hb dX5_trial_76 (lv_at hl 0 rfl) ?_
              obtain ⟨r_78, s_78, e_78, h⟩ := ob2_of h
              refine k_goI (k_runV (As := [.int r_65]) (rest := []) S hK hP (k_X5_fails l hAd e_78) cy_X5_fails wd_748 rfl mO rfl hl.1 rfl (Nat.le_of_ble_eq_true rfl) dX5_trial_78 ⟨Nat.le_of_ble_eq_true rfl, Nat.le_of_ble_eq_true rfl⟩ ⟨Nat.zero_le _, Nat.zero_le _⟩) hS (fun _ h => h) (fun H locs hP hS _ _ => ?_)
              obtain ⟨rfl, rfl⟩ := some_pair h
              exact k_iret S hr hlocks hP hS rfl dX5_trial_81
          · replace h := ite_t c_51 h
            refine lv_bipush (v := (-2 : Int32)) hx hb dX5_trial_54 (by decide) ?_
            obtain ⟨rfl, rfl⟩ := some_pair h
            exact k_iret S hr hlocks hP hS rfl dX5_trial_56
  · replace h := ite_t c_9 h
    refine lv_iconst (v := (-1 : Int32)) hx hb dX5_trial_12 (by decide) ?_
    obtain ⟨rfl, rfl⟩ := some_pair h
    exact k_iret S hr hlocks hP hS rfl dX5_trial_13
